set_option maxRecDepth 20000 in
theorem g_c_xli3_c_rok0_1 : GoodIn wp_c_xli3 (wsV RX23 89 RX23 yX23_ok wp_c_rok0) := goodIn_app (goodIn_f [.methodLink RX23 89 yX23_ok, .instanceMethod yX23_ok, .selects RX23 yX23_ok yX23_ok, .initialized RX23] [3, 4, 5, 6] rfl (by decide +kernel)) (goodIn_app (goodIn_f (wf_c_rok0) [1, 2] rfl wg_c_rok0) (goodIn_app (goodIn_sub in_c_xli3_X23 gd_X23) (goodIn_n)))
set_option maxRecDepth 20000 in
theorem g_c_xli3_c_risY_10 : GoodIn wp_c_xli3 (wsV RX23 93 RX23 yX23_is wp_c_risY) := goodIn_app (goodIn_f [.methodLink RX23 93 yX23_is, .instanceMethod yX23_is, .selects RX23 yX23_is yX23_is, .initialized RX23] [10, 11, 12, 6] rfl (by decide +kernel)) (goodIn_app (goodIn_f (wf_c_risY) [7, 8, 9] rfl wg_c_risY) (goodIn_app (goodIn_sub in_c_xli3_X23 gd_X23) (goodIn_n)))
set_option maxRecDepth 20000 in
theorem g_c_xli3_c_risN_10 : GoodIn wp_c_xli3 (wsV RX23 93 RX23 yX23_is wp_c_risY) := goodIn_app (goodIn_f [.methodLink RX23 93 yX23_is, .instanceMethod yX23_is, .selects RX23 yX23_is yX23_is, .initialized RX23] [10, 11, 12, 6] rfl (by decide +kernel)) (goodIn_app (goodIn_f (wf_c_risY) [7, 8, 9] rfl wg_c_risY) (goodIn_app (goodIn_sub in_c_xli3_X23 gd_X23) (goodIn_n)))
set_option maxRecDepth 20000 in
theorem g_c_xli3_c_renN_21 : GoodIn wp_c_xli3 (wsV RX23 119 RX23 yX23_enter wp_c_renY) := goodIn_app (goodIn_f [.methodLink RX23 119 yX23_enter, .instanceMethod yX23_enter, .selects RX23 yX23_enter yX23_enter, .initialized RX23] [21, 22, 23, 6] rfl (by decide +kernel)) (goodIn_app (goodIn_f (wf_c_renY) [13, 1, 2, 3, 4, 5, 6, 14, 15, 16, 17, 18, 19, 20] rfl wg_c_renY) (goodIn_app (goodIn_sub in_c_xli3_X23 gd_X23) (goodIn_n)))
set_option maxRecDepth 20000 in
theorem g_c_xli3_c_renY_21 : GoodIn wp_c_xli3 (wsV RX23 119 RX23 yX23_enter wp_c_renY) := goodIn_app (goodIn_f [.methodLink RX23 119 yX23_enter, .instanceMethod yX23_enter, .selects RX23 yX23_enter yX23_enter, .initialized RX23] [21, 22, 23, 6] rfl (by decide +kernel)) (goodIn_app (goodIn_f (wf_c_renY) [13, 1, 2, 3, 4, 5, 6, 14, 15, 16, 17, 18, 19, 20] rfl wg_c_renY) (goodIn_app (goodIn_sub in_c_xli3_X23 gd_X23) (goodIn_n)))
set_option maxRecDepth 20000 in
theorem g_c_xli3_c_rtkB_40 : GoodIn wp_c_xli3 (wsV RX23 100 RX23 yX23_take wp_c_rtkY) := goodIn_app (goodIn_f [.methodLink RX23 100 yX23_take, .instanceMethod yX23_take, .selects RX23 yX23_take yX23_take, .initialized RX23] [25, 26, 27, 6] rfl (by decide +kernel)) (goodIn_app (goodIn_f (wf_c_rtkY) [24, 1, 2, 3, 4, 5, 6, 7, 8, 9, 10, 11, 12, 15, 16, 17, 18, 19, 20] rfl wg_c_rtkY) (goodIn_app (goodIn_sub in_c_xli3_X23 gd_X23) (goodIn_n)))
set_option maxRecDepth 20000 in
theorem g_c_xli3_c_risN_54 : GoodIn wp_c_xli3 (wsV RX23 93 RX23 yX23_is wp_c_risY) := goodIn_app (goodIn_f [.methodLink RX23 93 yX23_is, .instanceMethod yX23_is, .selects RX23 yX23_is yX23_is, .initialized RX23] [10, 11, 12, 6] rfl (by decide +kernel)) (goodIn_app (goodIn_f (wf_c_risY) [7, 8, 9] rfl wg_c_risY) (goodIn_app (goodIn_sub in_c_xli3_X23 gd_X23) (goodIn_n)))
set_option maxRecDepth 20000 in
theorem g_c_xli3_c_rokB_63 : GoodIn wp_c_xli3 (wsV RX23 89 RX23 yX23_ok wp_c_rok0) := goodIn_app (goodIn_f [.methodLink RX23 89 yX23_ok, .instanceMethod yX23_ok, .selects RX23 yX23_ok yX23_ok, .initialized RX23] [3, 4, 5, 6] rfl (by decide +kernel)) (goodIn_app (goodIn_f (wf_c_rok0) [1, 2] rfl wg_c_rok0) (goodIn_app (goodIn_sub in_c_xli3_X23 gd_X23) (goodIn_n)))
set_option maxRecDepth 20000 in
theorem g_c_xli3_c_rtkB_105 : GoodIn wp_c_xli3 (wsV RX23 100 RX23 yX23_take wp_c_rtkY) := goodIn_app (goodIn_f [.methodLink RX23 100 yX23_take, .instanceMethod yX23_take, .selects RX23 yX23_take yX23_take, .initialized RX23] [25, 26, 27, 6] rfl (by decide +kernel)) (goodIn_app (goodIn_f (wf_c_rtkY) [24, 1, 2, 3, 4, 5, 6, 7, 8, 9, 10, 11, 12, 15, 16, 17, 18, 19, 20] rfl wg_c_rtkY) (goodIn_app (goodIn_sub in_c_xli3_X23 gd_X23) (goodIn_n)))
set_option maxRecDepth 20000 in
theorem g_c_xli3_c_rtkY_40 : GoodIn wp_c_xli3 (wsV RX23 100 RX23 yX23_take wp_c_rtkY) := goodIn_app (goodIn_f [.methodLink RX23 100 yX23_take, .instanceMethod yX23_take, .selects RX23 yX23_take yX23_take, .initialized RX23] [25, 26, 27, 6] rfl (by decide +kernel)) (goodIn_app (goodIn_f (wf_c_rtkY) [24, 1, 2, 3, 4, 5, 6, 7, 8, 9, 10, 11, 12, 15, 16, 17, 18, 19, 20] rfl wg_c_rtkY) (goodIn_app (goodIn_sub in_c_xli3_X23 gd_X23) (goodIn_n)))
set_option maxRecDepth 20000 in
theorem g_c_xli3_c_risY_54 : GoodIn wp_c_xli3 (wsV RX23 93 RX23 yX23_is wp_c_risY) := goodIn_app (goodIn_f [.methodLink RX23 93 yX23_is, .instanceMethod yX23_is, .selects RX23 yX23_is yX23_is, .initialized RX23] [10, 11, 12, 6] rfl (by decide +kernel)) (goodIn_app (goodIn_f (wf_c_risY) [7, 8, 9] rfl wg_c_risY) (goodIn_app (goodIn_sub in_c_xli3_X23 gd_X23) (goodIn_n)))
set_option maxRecDepth 20000 in
theorem g_c_xli3_c_rtkY_105 : GoodIn wp_c_xli3 (wsV RX23 100 RX23 yX23_take wp_c_rtkY) := goodIn_app (goodIn_f [.methodLink RX23 100 yX23_take, .instanceMethod yX23_take, .selects RX23 yX23_take yX23_take, .initialized RX23] [25, 26, 27, 6] rfl (by decide +kernel)) (goodIn_app (goodIn_f (wf_c_rtkY) [24, 1, 2, 3, 4, 5, 6, 7, 8, 9, 10, 11, 12, 15, 16, 17, 18, 19, 20] rfl wg_c_rtkY) (goodIn_app (goodIn_sub in_c_xli3_X23 gd_X23) (goodIn_n)))
set_option maxRecDepth 20000 in
theorem g_c_xli3_c_rok0_63 : GoodIn wp_c_xli3 (wsV RX23 89 RX23 yX23_ok wp_c_rok0) := goodIn_app (goodIn_f [.methodLink RX23 89 yX23_ok, .instanceMethod yX23_ok, .selects RX23 yX23_ok yX23_ok, .initialized RX23] [3, 4, 5, 6] rfl (by decide +kernel)) (goodIn_app (goodIn_f (wf_c_rok0) [1, 2] rfl wg_c_rok0) (goodIn_app (goodIn_sub in_c_xli3_X23 gd_X23) (goodIn_n)))
set_option maxRecDepth 20000 in
theorem g_c_xli3_c_xex_75 : GoodIn wp_c_xli3 (wsV RX23 264 RX23 yX23_exp wp_c_xex) := goodIn_app (goodIn_f [.methodLink RX23 264 yX23_exp, .instanceMethod yX23_exp, .selects RX23 yX23_exp yX23_exp, .initialized RX23] [33, 34, 35, 6] rfl (by decide +kernel)) (goodIn_app (goodIn_f (wf_c_xex) [29, 30, 31, 32, 6, 48, 38, 49, 50, 51, 52, 53, 54, 55, 9, 56, 8, 57, 58, 7, 10, 11, 12, 28, 0, 1, 2, 3, 4, 5, 13, 14, 15, 16, 17, 18, 19, 20, 21, 22, 23, 24, 25, 26, 27, 33, 34, 35, 36, 37, 39, 40, 41, 42, 43, 44, 45, 46, 47, 59, 60, 61, 62, 63, 64, 65, 66, 67, 68, 69, 70, 71, 72, 73, 74, 75, 76, 77, 78, 79, 80, 81, 82, 83, 84, 85, 86, 87, 88, 89, 90, 91, 92, 93, 94, 95, 96, 97, 98, 99, 100, 101] rfl wg_c_xex) (goodIn_app (goodIn_sub in_c_xli3_X15 gd_X15) (goodIn_app (goodIn_sub in_c_xli3_X23 gd_X23) (goodIn_n))))
set_option maxRecDepth 20000 in
theorem g_c_xli3_c_xaN_79 : GoodIn wp_c_xli3 (va_wsS RX23 351 yX23_add wp_c_xaN) := goodIn_app (goodIn_f [.methodLink RX23 351 yX23_add, .static yX23_add, .initialized RX23] [42, 43, 6] rfl (by decide +kernel)) (goodIn_app (goodIn_f (wf_c_xaN) [36, 37, 38, 39, 40, 41] rfl wg_c_xaN) (goodIn_app (goodIn_sub in_c_xli3_X15 gd_X15) (goodIn_n)))
set_option maxRecDepth 20000 in
theorem g_c_xli3_c_rtsY_85 : GoodIn wp_c_xli3 (wsV RX23 125 RX23 yX23_takes wp_c_rtsY) := goodIn_app (goodIn_f [.methodLink RX23 125 yX23_takes, .instanceMethod yX23_takes, .selects RX23 yX23_takes yX23_takes, .initialized RX23] [45, 46, 47, 6] rfl (by decide +kernel)) (goodIn_app (goodIn_f (wf_c_rtsY) [44, 1, 2, 3, 4, 5, 6, 7, 8, 9, 10, 11, 12] rfl wg_c_rtsY) (goodIn_app (goodIn_sub in_c_xli3_X23 gd_X23) (goodIn_n)))
set_option maxRecDepth 20000 in
theorem g_c_xli3_c_rtsN_85 : GoodIn wp_c_xli3 (wsV RX23 125 RX23 yX23_takes wp_c_rtsY) := goodIn_app (goodIn_f [.methodLink RX23 125 yX23_takes, .instanceMethod yX23_takes, .selects RX23 yX23_takes yX23_takes, .initialized RX23] [45, 46, 47, 6] rfl (by decide +kernel)) (goodIn_app (goodIn_f (wf_c_rtsY) [44, 1, 2, 3, 4, 5, 6, 7, 8, 9, 10, 11, 12] rfl wg_c_rtsY) (goodIn_app (goodIn_sub in_c_xli3_X23 gd_X23) (goodIn_n)))
set_option maxRecDepth 20000 in
theorem g_c_xli3_c_rtkN_105 : GoodIn wp_c_xli3 (wsV RX23 100 RX23 yX23_take wp_c_rtkY) := goodIn_app (goodIn_f [.methodLink RX23 100 yX23_take, .instanceMethod yX23_take, .selects RX23 yX23_take yX23_take, .initialized RX23] [25, 26, 27, 6] rfl (by decide +kernel)) (goodIn_app (goodIn_f (wf_c_rtkY) [24, 1, 2, 3, 4, 5, 6, 7, 8, 9, 10, 11, 12, 15, 16, 17, 18, 19, 20] rfl wg_c_rtkY) (goodIn_app (goodIn_sub in_c_xli3_X23 gd_X23) (goodIn_n)))
set_option maxRecDepth 20000 in
theorem g_c_xli3_c_xaA_79 : GoodIn wp_c_xli3 (va_wsS RX23 351 yX23_add wp_c_xaN) := goodIn_app (goodIn_f [.methodLink RX23 351 yX23_add, .static yX23_add, .initialized RX23] [42, 43, 6] rfl (by decide +kernel)) (goodIn_app (goodIn_f (wf_c_xaN) [36, 37, 38, 39, 40, 41] rfl wg_c_xaN) (goodIn_app (goodIn_sub in_c_xli3_X15 gd_X15) (goodIn_n)))
set_option maxRecDepth 20000 in
theorem g_c_xli3_c_rtsB_85 : GoodIn wp_c_xli3 (wsV RX23 125 RX23 yX23_takes wp_c_rtsY) := goodIn_app (goodIn_f [.methodLink RX23 125 yX23_takes, .instanceMethod yX23_takes, .selects RX23 yX23_takes yX23_takes, .initialized RX23] [45, 46, 47, 6] rfl (by decide +kernel)) (goodIn_app (goodIn_f (wf_c_rtsY) [44, 1, 2, 3, 4, 5, 6, 7, 8, 9, 10, 11, 12] rfl wg_c_rtsY) (goodIn_app (goodIn_sub in_c_xli3_X23 gd_X23) (goodIn_n)))
set_option maxRecDepth 20000 in
theorem g_c_xli3_c_rtkN_40 : GoodIn wp_c_xli3 (wsV RX23 100 RX23 yX23_take wp_c_rtkY) := goodIn_app (goodIn_f [.methodLink RX23 100 yX23_take, .instanceMethod yX23_take, .selects RX23 yX23_take yX23_take, .initialized RX23] [25, 26, 27, 6] rfl (by decide +kernel)) (goodIn_app (goodIn_f (wf_c_rtkY) [24, 1, 2, 3, 4, 5, 6, 7, 8, 9, 10, 11, 12, 15, 16, 17, 18, 19, 20] rfl wg_c_rtkY) (goodIn_app (goodIn_sub in_c_xli3_X23 gd_X23) (goodIn_n)))
set_option maxHeartbeats 4000000 in
set_option maxRecDepth 100000 in
theorem c_xli3 (l : Launch) (dC : Nat → ClassId) (dI : Nat → Nat → Nat) (k : Nat) (ih : ∀ k1 : Nat, k = k1 + 1 → IH_gx l dC dI k1) : st_c_xli3 l dC dI k := by
  intro m9 mr mv vf xl xa xi xt xn zs T pp ns vv bb kI fk fa kL kE fn L F ee tx gx nx sl sz hT hp hk0 hbb hnk
  refine Met.ofW (cc := cX23_list) (maxL := 3) (ret := none) (by decide) rfl ?_
  intro p e s m args below meth c s₁ B hml hv
  obtain ⟨rfl, hsz, hP, hK, hD0, hpre0, hpre1⟩ := hv
  have hx := B.exec
  have hb := B.bytes
  have hr := B.returns
  have hts := atoms_spec (ws := wp_c_xli3) B.pre
  have hown : s.vm.findClass RX23 = some m.cls := findClass_of_methodNamed B.named
  have hlocks := B.notSynchronized
  subst hsz
  replace hD := hD0.self (sz := s.heap.size)
  generalize hAe : va_A (([(ee, .inr (15, [.int 3, .int tx, .int gx, .int nx, .int 0, .int 0, .long 0, .int 0, .null, .null, .null, .int 0, .null, .null])), (m9, .inr (23, mA mr mv vf xl (nI zs) 0 xa (nI T) (nI pp) xi xt xn (nI ns) (nI vv) (nI bb))), (mr 5, .inl (kI, 3002, .inl fk)), (mr 6, .inl (kI, 3002, .inl fa)), (mr 8, .inl (kL, 3002, .inr (.inl fn)))] : va_W) ++ (sT L F)) s.heap.size = A at hD ⊢
  have hA : ∀ q : Nat, s.heap.size ≤ q → A q := fun q h => by rw [← hAe]; exact Or.inr h
  have hS : va_S A s.heap s.heap [] := va_S.rf
  replace hP : va_P (dC, dI) vwCl (([(ee, .inr (15, [.int 3, .int tx, .int gx, .int nx, .int 0, .int 0, .long 0, .int 0, .null, .null, .null, .int 0, .null, .null])), (m9, .inr (23, mA mr mv vf xl (nI zs) 0 xa (nI T) (nI pp) xi xt xn (nI ns) (nI vv) (nI bb))), (mr 5, .inl (kI, 3002, .inl fk)), (mr 6, .inl (kI, 3002, .inl fa)), (mr 8, .inl (kL, 3002, .inr (.inl fn)))] : va_W) ++ (sT L F)) s.heap := hP
  replace hl := lv_entry ([.ref m9, .ref ee]) (n := 3) (Nat.le_of_ble_eq_true rfl)
  rw [lg_entry_eq]
  generalize (lg_sl ([.ref m9, .ref ee]) ++ List.replicate (3 - (lg_sl ([.ref m9, .ref ee])).length) Slot.unset).toArray = ls at hl ⊢
  replace hl : lv_has ls 3 [(0, .ref m9), (1, .ref ee)] := hl
  have hns := hpre0
  subst hpre1
  refine lv_aload_n hx hb dX23_list_0 rfl (lv_at hl 0 rfl) ?_
  replace hPc := hP.subF (f' := [(m9, .inr (23, mA mr mv vf xl (nI zs) 0 xa (nI T) (nI pp) xi xt xn (nI ns) (nI vv) (nI bb)))]) [1] rfl
  replace hDc := hD.subF (f' := [(m9, .inr (23, mA mr mv vf xl (nI zs) 0 xa (nI T) (nI pp) xi xt xn (nI ns) (nI vv) (nI bb)))]) [1] (by decide) rfl
  replace hKc := hK.sub (tys' := []) [] rfl
  replace hFc := va_freeT (wc := [(m9, .inr (23, mA mr mv vf xl (nI zs) 0 xa (nI T) (nI pp) xi xt xn (nI ns) (nI vv) (nI bb)))]) hD hS hA [1] rfl
  refine va_calli (va_runV (As := []) (rest := []) ⟨hx, hb, hml, hown, hts⟩ (c_rok0 l dC dI m9 mr mv vf xl xa xi xt xn zs T pp ns vv bb kI fk fa s.heap.size) (cwV 0 hts g_c_xli3_c_rok0_1 rfl rfl rfl (by decide +kernel) ⟨by show 0 + 1 ≤ 2 + 12 * k; omega, by show 8 + (1 + 11) + (0) ≤ 43 + 279 * k; omega⟩) ⟨fun a U g mk q => by obtain ⟨q0, q1, qP, qK, qD⟩ := q; exact ⟨q0, q1, qP, va_K.moved (u := U) (U := U.calling g mk a) (Vm.Alike.refl U.vm) qK, qD⟩, va_recv hKc hPc (ci := 23) (q0 := 0) rfl rfl, fun U hU hW => ⟨rfl, by rw [hU], by rw [hU]; exact hPc, va_K.moved hW.alike hKc, hDc.weaken (fun _ _ _ _ => trivial)⟩⟩ rfl rfl hl.1 rfl (lv_room (Nat.le_of_ble_eq_true rfl)) dX23_list_1 ⟨(show 0 + 0 ≤ (8 * (T - pp) + 3) by omega), (show 0 + 0 ≤ (120 * (T - pp) + 280) by omega)⟩) hS (fun q _ h => hFc q h) hFc (fun r_1 u tS H1 locs ht hvm hw hB hz1 hk1 hS => ?_)
  obtain ⟨hP1, hK1, hD1⟩ := hB
  rw [ht] at hP1
  replace hK1 := va_K.moved hvm.symm hK1
  obtain ⟨hPj, hDj⟩ := va_joinT (wr := [(ee, .inr (15, [.int 3, .int tx, .int gx, .int nx, .int 0, .int 0, .long 0, .int 0, .null, .null, .null, .int 0, .null, .null])), (mr 5, .inl (kI, 3002, .inl fk)), (mr 6, .inl (kI, 3002, .inl fa)), (mr 8, .inl (kL, 3002, .inr (.inl fn)))]) (w1 := [(m9, .inr (23, mA mr mv vf xl (nI zs) 0 xa (nI T) (nI pp) xi xt xn (nI ns) (nI vv) (nI bb)))]) hP hD [1] [0, 2, 3, 4] rfl rfl (by decide) (by decide) hk1 hFc hP1 hD1
  replace hP := hPj
  replace hD := hDj
  clear hPj hDj
  generalize H1 = H at hP hS ⊢
  replace hP : va_P (dC, dI) vwCl (([(ee, .inr (15, [.int 3, .int tx, .int gx, .int nx, .int 0, .int 0, .long 0, .int 0, .null, .null, .null, .int 0, .null, .null])), (mr 5, .inl (kI, 3002, .inl fk)), (mr 6, .inl (kI, 3002, .inl fa)), (mr 8, .inl (kL, 3002, .inr (.inl fn))), (m9, .inr (23, mA mr mv vf xl (nI zs) 0 xa (nI T) (nI pp) xi xt xn (nI ns) (nI vv) (nI bb)))] : va_W) ++ (sT L F)) H := hP
  replace hD : va_D A (([(ee, .inr (15, [.int 3, .int tx, .int gx, .int nx, .int 0, .int 0, .long 0, .int 0, .null, .null, .null, .int 0, .null, .null])), (mr 5, .inl (kI, 3002, .inl fk)), (mr 6, .inl (kI, 3002, .inl fa)), (mr 8, .inl (kL, 3002, .inr (.inl fn))), (m9, .inr (23, mA mr mv vf xl (nI zs) 0 xa (nI T) (nI pp) xi xt xn (nI ns) (nI vv) (nI bb)))] : va_W) ++ (sT L F)) := hD
  replace hK : va_K (dC, dI) vwCl [(kI, .int), (kL, .long), (kE, .object RX15)] s := hK
  clear hz1 hk1 hPc hDc hKc hFc hP1 hD1 hK1
  obtain rfl : r_1 = 1 := hw
  refine lv_if_eq (tgt := 27) hx hb dX23_list_4 (by decide) (fun c_2 => absurd c_2 (by decide)) (fun _ => ?_)
  refine lv_aload_n hx hb dX23_list_7 rfl (lv_at hl 0 rfl) ?_
  refine lv_bipush (v := 61) hx hb dX23_list_8 (by decide) ?_
  by_cases hk_3 : fk pp = 61
  · replace hPc := hP.subF (f' := [(m9, .inr (23, mA mr mv vf xl (nI zs) 0 xa (nI T) (nI pp) xi xt xn (nI ns) (nI vv) (nI bb))), (mr 5, .inl (kI, 3002, .inl fk))]) [4, 1] rfl
    replace hDc := hD.subF (f' := [(m9, .inr (23, mA mr mv vf xl (nI zs) 0 xa (nI T) (nI pp) xi xt xn (nI ns) (nI vv) (nI bb))), (mr 5, .inl (kI, 3002, .inl fk))]) [4, 1] (by decide) rfl
    replace hKc := hK.sub (tys' := [(kI, .int)]) [0] rfl
    replace hFc := va_freeT (wc := [(m9, .inr (23, mA mr mv vf xl (nI zs) 0 xa (nI T) (nI pp) xi xt xn (nI ns) (nI vv) (nI bb))), (mr 5, .inl (kI, 3002, .inl fk))]) hD hS hA [4, 1] rfl
    refine va_calli (va_runV (As := [.int 61]) (rest := []) ⟨hx, hb, hml, hown, hts⟩ (c_risY l dC dI m9 mr mv vf xl xa xi xt xn zs T pp ns vv bb kI fk fa 0 61 H.size hT hp hk_3) (cwV 1 hts g_c_xli3_c_risY_10 rfl rfl rfl (by decide +kernel) ⟨by show 0 + 1 ≤ 2 + 12 * k; omega, by show 8 + (2 + 11) + (0) ≤ 43 + 279 * k; omega⟩) ⟨fun a U g mk q => by obtain ⟨q0, q1, qP, qK, qD⟩ := q; exact ⟨q0, q1, qP, va_K.moved (u := U) (U := U.calling g mk a) (Vm.Alike.refl U.vm) qK, qD⟩, va_recv hKc hPc (ci := 23) (q0 := 0) rfl rfl, fun U hU hW => ⟨rfl, by rw [hU], by rw [hU]; exact hPc, va_K.moved hW.alike hKc, hDc.weaken (fun _ _ _ _ => trivial)⟩⟩ rfl rfl hl.1 rfl (lv_room (Nat.le_of_ble_eq_true rfl)) dX23_list_10 ⟨(show 0 + 0 ≤ (8 * (T - pp) + 3) by omega), (show 0 + 0 ≤ (120 * (T - pp) + 280) by omega)⟩) hS (fun q _ h => hFc q h) hFc (fun r_4 u tS H1 locs ht hvm hw hB hz1 hk1 hS => ?_)
    obtain ⟨hP1, hK1, hD1⟩ := hB
    rw [ht] at hP1
    replace hK1 := va_K.moved hvm.symm hK1
    obtain ⟨hPj, hDj⟩ := va_joinT (wr := [(ee, .inr (15, [.int 3, .int tx, .int gx, .int nx, .int 0, .int 0, .long 0, .int 0, .null, .null, .null, .int 0, .null, .null])), (mr 6, .inl (kI, 3002, .inl fa)), (mr 8, .inl (kL, 3002, .inr (.inl fn)))]) (w1 := [(m9, .inr (23, mA mr mv vf xl (nI zs) 0 xa (nI T) (nI pp) xi xt xn (nI ns) (nI vv) (nI bb))), (mr 5, .inl (kI, 3002, .inl fk))]) hP hD [4, 1] [0, 2, 3] rfl rfl (by decide) (by decide) hk1 hFc hP1 hD1
    replace hP := hPj
    replace hD := hDj
    clear hPj hDj
    replace hK := hK.app hK1
    generalize H1 = H at hP hS ⊢
    replace hP : va_P (dC, dI) vwCl (([(ee, .inr (15, [.int 3, .int tx, .int gx, .int nx, .int 0, .int 0, .long 0, .int 0, .null, .null, .null, .int 0, .null, .null])), (mr 6, .inl (kI, 3002, .inl fa)), (mr 8, .inl (kL, 3002, .inr (.inl fn))), (m9, .inr (23, mA mr mv vf xl (nI zs) 0 xa (nI T) (nI pp) xi xt xn (nI ns) (nI vv) (nI bb))), (mr 5, .inl (kI, 3002, .inl fk))] : va_W) ++ (sT L F)) H := hP
    replace hD : va_D A (([(ee, .inr (15, [.int 3, .int tx, .int gx, .int nx, .int 0, .int 0, .long 0, .int 0, .null, .null, .null, .int 0, .null, .null])), (mr 6, .inl (kI, 3002, .inl fa)), (mr 8, .inl (kL, 3002, .inr (.inl fn))), (m9, .inr (23, mA mr mv vf xl (nI zs) 0 xa (nI T) (nI pp) xi xt xn (nI ns) (nI vv) (nI bb))), (mr 5, .inl (kI, 3002, .inl fk))] : va_W) ++ (sT L F)) := hD
    replace hK : va_K (dC, dI) vwCl [(kI, .int), (kL, .long), (kE, .object RX15), (kI, .int)] s := hK
    replace hK := hK.sub (tys' := [(kI, .int), (kL, .long), (kE, .object RX15)]) [0, 1, 2] rfl
    clear hz1 hk1 hPc hDc hKc hFc hP1 hD1 hK1
    obtain rfl : r_4 = 1 := hw
    refine lv_if_eq (tgt := 27) hx hb dX23_list_13 (by decide) (fun c_5 => absurd c_5 (by decide)) (fun _ => ?_)
    refine lv_aload_n hx hb dX23_list_16 rfl (lv_at hl 0 rfl) ?_
    refine lv_aload_n hx hb dX23_list_17 rfl (lv_at hl 0 rfl) ?_
    refine va_get (D := (dC, dI)) (ci := 23) (v := .int (nI pp)) (C := RX23) (T := TX23) (N := 89) hx hb hts in_c_xli3_X23 hown hK hP 3 rfl rfl 10 (by decide) (hts (.fieldLink RX23 86 "OwnedPlacesModel" "p" "I") (wm_c_xli3 9 rfl)) (fun _ h9 => h9) rfl dX23_list_18 ?_
    by_cases hn_6 : ns = 16
    · replace hPc := hP.subF (f' := [(m9, .inr (23, mA mr mv vf xl (nI zs) 0 xa (nI T) (nI pp) xi xt xn (nI ns) (nI vv) (nI bb))), (mr 6, .inl (kI, 3002, .inl fa))]) [3, 1] rfl
      replace hDc := hD.subF (f' := [(m9, .inr (23, mA mr mv vf xl (nI zs) 0 xa (nI T) (nI pp) xi xt xn (nI ns) (nI vv) (nI bb))), (mr 6, .inl (kI, 3002, .inl fa))]) [3, 1] (by decide) rfl
      replace hKc := hK.sub (tys' := [(kI, .int)]) [0] rfl
      replace hFc := va_freeT (wc := [(m9, .inr (23, mA mr mv vf xl (nI zs) 0 xa (nI T) (nI pp) xi xt xn (nI ns) (nI vv) (nI bb))), (mr 6, .inl (kI, 3002, .inl fa))]) hD hS hA [3, 1] rfl
      refine va_callv (va_runV (As := [.int (nI pp)]) (rest := []) ⟨hx, hb, hml, hown, hts⟩ (c_renN l dC dI m9 mr mv vf xl xa xi xt xn zs T pp ns vv bb kI fk fa pp H.size (by omega) hn_6) (cwV 1 hts g_c_xli3_c_renN_21 rfl rfl rfl (by decide +kernel) ⟨by show 1 + 1 ≤ 2 + 12 * k; omega, by show 8 + (2 + 11) + (22) ≤ 43 + 279 * k; omega⟩) ⟨fun a U g mk q => by obtain ⟨q0, q1, qP, qK, qD⟩ := q; exact ⟨q0, q1, qP, va_K.moved (u := U) (U := U.calling g mk a) (Vm.Alike.refl U.vm) qK, qD⟩, va_recv hKc hPc (ci := 23) (q0 := 0) rfl rfl, fun U hU hW => ⟨rfl, by rw [hU], by rw [hU]; exact hPc, va_K.moved hW.alike hKc, hDc.weaken (fun _ _ _ _ => trivial)⟩⟩ rfl rfl hl.1 rfl (lv_room (Nat.le_of_ble_eq_true rfl)) dX23_list_21 ⟨(show 0 + 0 ≤ (8 * (T - pp) + 3) by omega), (show 0 + 0 ≤ (120 * (T - pp) + 280) by omega)⟩) hS (fun q _ h => hFc q h) hFc (fun u tS H1 locs ht hvm hw hB hz1 hk1 hS => ?_)
      obtain ⟨ff_7, xa_8, hf9_0, hP1, hK1, hD1⟩ := hB
      rw [ht] at hP1
      replace hK1 := va_K.moved hvm.symm hK1
      obtain ⟨hPj, hDj⟩ := va_joinT (wr := [(ee, .inr (15, [.int 3, .int tx, .int gx, .int nx, .int 0, .int 0, .long 0, .int 0, .null, .null, .null, .int 0, .null, .null])), (mr 8, .inl (kL, 3002, .inr (.inl fn))), (mr 5, .inl (kI, 3002, .inl fk))]) (w1 := [(m9, .inr (23, mA mr mv vf xl (nI zs) ff_7 xa_8 (nI T) (nI pp) xi xt xn (nI (ns + 1)) (nI vv) (nI bb))), (mr 6, .inl (kI, 3002, .inl fa))]) hP hD [3, 1] [0, 2, 4] rfl rfl (by decide) (by decide) hk1 hFc hP1 hD1
      replace hP := hPj
      replace hD := hDj
      clear hPj hDj
      replace hK := hK.app hK1
      generalize H1 = H at hP hS ⊢
      replace hP : va_P (dC, dI) vwCl (([(ee, .inr (15, [.int 3, .int tx, .int gx, .int nx, .int 0, .int 0, .long 0, .int 0, .null, .null, .null, .int 0, .null, .null])), (mr 8, .inl (kL, 3002, .inr (.inl fn))), (mr 5, .inl (kI, 3002, .inl fk)), (m9, .inr (23, mA mr mv vf xl (nI zs) ff_7 xa_8 (nI T) (nI pp) xi xt xn (nI (ns + 1)) (nI vv) (nI bb))), (mr 6, .inl (kI, 3002, .inl fa))] : va_W) ++ (sT L F)) H := hP
      replace hD : va_D A (([(ee, .inr (15, [.int 3, .int tx, .int gx, .int nx, .int 0, .int 0, .long 0, .int 0, .null, .null, .null, .int 0, .null, .null])), (mr 8, .inl (kL, 3002, .inr (.inl fn))), (mr 5, .inl (kI, 3002, .inl fk)), (m9, .inr (23, mA mr mv vf xl (nI zs) ff_7 xa_8 (nI T) (nI pp) xi xt xn (nI (ns + 1)) (nI vv) (nI bb))), (mr 6, .inl (kI, 3002, .inl fa))] : va_W) ++ (sT L F)) := hD
      replace hK : va_K (dC, dI) vwCl [(kI, .int), (kL, .long), (kE, .object RX15), (kI, .int)] s := hK
      replace hK := hK.sub (tys' := [(kI, .int), (kL, .long), (kE, .object RX15)]) [0, 1, 2] rfl
      clear hz1 hk1 hPc hDc hKc hFc hP1 hD1 hK1
      refine lv_goto (tgt := 37) hx hb dX23_list_24 (by decide) ?_
      refine lv_aload_n hx hb dX23_list_37 rfl (lv_at hl 0 rfl) ?_
      refine lv_bipush (v := 61) hx hb dX23_list_38 (by decide) ?_
      replace hPc := hP.subF (f' := [(m9, .inr (23, mA mr mv vf xl (nI zs) ff_7 xa_8 (nI T) (nI pp) xi xt xn (nI (ns + 1)) (nI vv) (nI bb))), (mr 5, .inl (kI, 3002, .inl fk)), (mr 6, .inl (kI, 3002, .inl fa))]) [3, 2, 4] rfl
      replace hDc := hD.subF (f' := [(m9, .inr (23, mA mr mv vf xl (nI zs) ff_7 xa_8 (nI T) (nI pp) xi xt xn (nI (ns + 1)) (nI vv) (nI bb))), (mr 5, .inl (kI, 3002, .inl fk)), (mr 6, .inl (kI, 3002, .inl fa))]) [3, 2, 4] (by decide) rfl
      replace hKc := hK.sub (tys' := [(kI, .int)]) [0] rfl
      replace hFc := va_freeT (wc := [(m9, .inr (23, mA mr mv vf xl (nI zs) ff_7 xa_8 (nI T) (nI pp) xi xt xn (nI (ns + 1)) (nI vv) (nI bb))), (mr 5, .inl (kI, 3002, .inl fk)), (mr 6, .inl (kI, 3002, .inl fa))]) hD hS hA [3, 2, 4] rfl
      refine va_callv (va_runV (As := [.int 61]) (rest := []) ⟨hx, hb, hml, hown, hts⟩ (c_rtkB l dC dI m9 mr mv vf xl xa_8 xi xt xn zs T pp (ns + 1) vv bb kI fk fa ff_7 61 H.size hf9_0) (cwV 1 hts g_c_xli3_c_rtkB_40 rfl rfl rfl (by decide +kernel) ⟨by show 1 + 1 ≤ 2 + 12 * k; omega, by show 8 + (2 + 11) + (20) ≤ 43 + 279 * k; omega⟩) ⟨fun a U g mk q => by obtain ⟨q0, q1, qP, qK, qD⟩ := q; exact ⟨q0, q1, qP, va_K.moved (u := U) (U := U.calling g mk a) (Vm.Alike.refl U.vm) qK, qD⟩, va_recv hKc hPc (ci := 23) (q0 := 0) rfl rfl, fun U hU hW => ⟨rfl, by rw [hU], by rw [hU]; exact hPc, va_K.moved hW.alike hKc, hDc.weaken (fun _ _ _ _ => trivial)⟩⟩ rfl rfl hl.1 rfl (lv_room (Nat.le_of_ble_eq_true rfl)) dX23_list_40 ⟨(show 0 + 0 ≤ (8 * (T - pp) + 3) by omega), (show 0 + 0 ≤ (120 * (T - pp) + 280) by omega)⟩) hS (fun q _ h => hFc q h) hFc (fun u tS H1 locs ht hvm hw hB hz1 hk1 hS => ?_)
      obtain ⟨hP1, hK1, hD1⟩ := hB
      rw [ht] at hP1
      replace hK1 := va_K.moved hvm.symm hK1
      obtain ⟨hPj, hDj⟩ := va_joinT (wr := [(ee, .inr (15, [.int 3, .int tx, .int gx, .int nx, .int 0, .int 0, .long 0, .int 0, .null, .null, .null, .int 0, .null, .null])), (mr 8, .inl (kL, 3002, .inr (.inl fn)))]) (w1 := [(m9, .inr (23, mA mr mv vf xl (nI zs) ff_7 xa_8 (nI T) (nI pp) xi xt xn (nI (ns + 1)) (nI vv) (nI bb))), (mr 5, .inl (kI, 3002, .inl fk)), (mr 6, .inl (kI, 3002, .inl fa))]) hP hD [3, 2, 4] [0, 1] rfl rfl (by decide) (by decide) hk1 hFc hP1 hD1
      replace hP := hPj
      replace hD := hDj
      clear hPj hDj
      replace hK := hK.app hK1
      generalize H1 = H at hP hS ⊢
      replace hP : va_P (dC, dI) vwCl (([(ee, .inr (15, [.int 3, .int tx, .int gx, .int nx, .int 0, .int 0, .long 0, .int 0, .null, .null, .null, .int 0, .null, .null])), (mr 8, .inl (kL, 3002, .inr (.inl fn))), (m9, .inr (23, mA mr mv vf xl (nI zs) ff_7 xa_8 (nI T) (nI pp) xi xt xn (nI (ns + 1)) (nI vv) (nI bb))), (mr 5, .inl (kI, 3002, .inl fk)), (mr 6, .inl (kI, 3002, .inl fa))] : va_W) ++ (sT L F)) H := hP
      replace hD : va_D A (([(ee, .inr (15, [.int 3, .int tx, .int gx, .int nx, .int 0, .int 0, .long 0, .int 0, .null, .null, .null, .int 0, .null, .null])), (mr 8, .inl (kL, 3002, .inr (.inl fn))), (m9, .inr (23, mA mr mv vf xl (nI zs) ff_7 xa_8 (nI T) (nI pp) xi xt xn (nI (ns + 1)) (nI vv) (nI bb))), (mr 5, .inl (kI, 3002, .inl fk)), (mr 6, .inl (kI, 3002, .inl fa))] : va_W) ++ (sT L F)) := hD
      replace hK : va_K (dC, dI) vwCl [(kI, .int), (kL, .long), (kE, .object RX15), (kI, .int)] s := hK
      replace hK := hK.sub (tys' := [(kI, .int), (kL, .long), (kE, .object RX15)]) [0, 1, 2] rfl
      clear hz1 hk1 hPc hDc hKc hFc hP1 hD1 hK1
      refine lv_aload_n hx hb dX23_list_43 rfl (lv_at hl 1 rfl) ?_
      refine va_get (D := (dC, dI)) (ci := 15) (v := .int 3) (C := RX15) (T := TX15) (N := 14) hx hb hts in_c_xli3_X15 hown hK hP 0 rfl rfl 0 (by decide) (hts (.fieldLink RX23 330 "OwnedPlacesModel$Exp" "kind" "I") (wm_c_xli3 28 rfl)) (fun _ h9 => h9) rfl dX23_list_44 ?_
      refine lv_iconst (v := 3) hx hb dX23_list_47 (by decide) ?_
      refine lv_icmp_ne (tgt := 60) hx hb dX23_list_48 (by decide) (fun c_11 => absurd c_11 (by decide)) (fun _ => ?_)
      refine lv_aload_n hx hb dX23_list_51 rfl (lv_at hl 0 rfl) ?_
      refine lv_bipush (v := 62) hx hb dX23_list_52 (by decide) ?_
      replace hPc := hP.subF (f' := [(m9, .inr (23, mA mr mv vf xl (nI zs) ff_7 xa_8 (nI T) (nI pp) xi xt xn (nI (ns + 1)) (nI vv) (nI bb))), (mr 5, .inl (kI, 3002, .inl fk))]) [2, 3] rfl
      replace hDc := hD.subF (f' := [(m9, .inr (23, mA mr mv vf xl (nI zs) ff_7 xa_8 (nI T) (nI pp) xi xt xn (nI (ns + 1)) (nI vv) (nI bb))), (mr 5, .inl (kI, 3002, .inl fk))]) [2, 3] (by decide) rfl
      replace hKc := hK.sub (tys' := [(kI, .int)]) [0] rfl
      replace hFc := va_freeT (wc := [(m9, .inr (23, mA mr mv vf xl (nI zs) ff_7 xa_8 (nI T) (nI pp) xi xt xn (nI (ns + 1)) (nI vv) (nI bb))), (mr 5, .inl (kI, 3002, .inl fk))]) hD hS hA [2, 3] rfl
      refine va_calli (va_runV (As := [.int 62]) (rest := []) ⟨hx, hb, hml, hown, hts⟩ (c_risN l dC dI m9 mr mv vf xl xa_8 xi xt xn zs T pp (ns + 1) vv bb kI fk fa ff_7 62 H.size hT hp (fun q9 => absurd (hk_3.symm.trans q9) (by decide))) (cwV 1 hts g_c_xli3_c_risN_54 rfl rfl rfl (by decide +kernel) ⟨by show 0 + 1 ≤ 2 + 12 * k; omega, by show 8 + (2 + 11) + (0) ≤ 43 + 279 * k; omega⟩) ⟨fun a U g mk q => by obtain ⟨q0, q1, qP, qK, qD⟩ := q; exact ⟨q0, q1, qP, va_K.moved (u := U) (U := U.calling g mk a) (Vm.Alike.refl U.vm) qK, qD⟩, va_recv hKc hPc (ci := 23) (q0 := 0) rfl rfl, fun U hU hW => ⟨rfl, by rw [hU], by rw [hU]; exact hPc, va_K.moved hW.alike hKc, hDc.weaken (fun _ _ _ _ => trivial)⟩⟩ rfl rfl hl.1 rfl (lv_room (Nat.le_of_ble_eq_true rfl)) dX23_list_54 ⟨(show 0 + 0 ≤ (8 * (T - pp) + 3) by omega), (show 0 + 0 ≤ (120 * (T - pp) + 280) by omega)⟩) hS (fun q _ h => hFc q h) hFc (fun r_12 u tS H1 locs ht hvm hw hB hz1 hk1 hS => ?_)
      obtain ⟨hP1, hK1, hD1⟩ := hB
      rw [ht] at hP1
      replace hK1 := va_K.moved hvm.symm hK1
      obtain ⟨hPj, hDj⟩ := va_joinT (wr := [(ee, .inr (15, [.int 3, .int tx, .int gx, .int nx, .int 0, .int 0, .long 0, .int 0, .null, .null, .null, .int 0, .null, .null])), (mr 8, .inl (kL, 3002, .inr (.inl fn))), (mr 6, .inl (kI, 3002, .inl fa))]) (w1 := [(m9, .inr (23, mA mr mv vf xl (nI zs) ff_7 xa_8 (nI T) (nI pp) xi xt xn (nI (ns + 1)) (nI vv) (nI bb))), (mr 5, .inl (kI, 3002, .inl fk))]) hP hD [2, 3] [0, 1, 4] rfl rfl (by decide) (by decide) hk1 hFc hP1 hD1
      replace hP := hPj
      replace hD := hDj
      clear hPj hDj
      replace hK := hK.app hK1
      generalize H1 = H at hP hS ⊢
      replace hP : va_P (dC, dI) vwCl (([(ee, .inr (15, [.int 3, .int tx, .int gx, .int nx, .int 0, .int 0, .long 0, .int 0, .null, .null, .null, .int 0, .null, .null])), (mr 8, .inl (kL, 3002, .inr (.inl fn))), (mr 6, .inl (kI, 3002, .inl fa)), (m9, .inr (23, mA mr mv vf xl (nI zs) ff_7 xa_8 (nI T) (nI pp) xi xt xn (nI (ns + 1)) (nI vv) (nI bb))), (mr 5, .inl (kI, 3002, .inl fk))] : va_W) ++ (sT L F)) H := hP
      replace hD : va_D A (([(ee, .inr (15, [.int 3, .int tx, .int gx, .int nx, .int 0, .int 0, .long 0, .int 0, .null, .null, .null, .int 0, .null, .null])), (mr 8, .inl (kL, 3002, .inr (.inl fn))), (mr 6, .inl (kI, 3002, .inl fa)), (m9, .inr (23, mA mr mv vf xl (nI zs) ff_7 xa_8 (nI T) (nI pp) xi xt xn (nI (ns + 1)) (nI vv) (nI bb))), (mr 5, .inl (kI, 3002, .inl fk))] : va_W) ++ (sT L F)) := hD
      replace hK : va_K (dC, dI) vwCl [(kI, .int), (kL, .long), (kE, .object RX15), (kI, .int)] s := hK
      replace hK := hK.sub (tys' := [(kI, .int), (kL, .long), (kE, .object RX15)]) [0, 1, 2] rfl
      clear hz1 hk1 hPc hDc hKc hFc hP1 hD1 hK1
      obtain rfl : r_12 = 0 := hw
      refine lv_if_ne (tgt := 92) hx hb dX23_list_57 (by decide) (fun c_13 => absurd c_13 (by decide)) (fun _ => ?_)
      refine lv_iconst (v := 1) hx hb dX23_list_60 (by decide) ?_
      refine lv_istore_n (lv' := [(2, .int 1), (0, .ref m9), (1, .ref ee)]) hx hb dX23_list_61 rfl hl (by decide) rfl (fun ls hl => ?_)
      refine lv_aload_n hx hb dX23_list_62 rfl (lv_at hl 1 rfl) ?_
      replace hPc := hP.subF (f' := [(m9, .inr (23, mA mr mv vf xl (nI zs) ff_7 xa_8 (nI T) (nI pp) xi xt xn (nI (ns + 1)) (nI vv) (nI bb)))]) [3] rfl
      replace hDc := hD.subF (f' := [(m9, .inr (23, mA mr mv vf xl (nI zs) ff_7 xa_8 (nI T) (nI pp) xi xt xn (nI (ns + 1)) (nI vv) (nI bb)))]) [3] (by decide) rfl
      replace hKc := hK.sub (tys' := []) [] rfl
      replace hFc := va_freeT (wc := [(m9, .inr (23, mA mr mv vf xl (nI zs) ff_7 xa_8 (nI T) (nI pp) xi xt xn (nI (ns + 1)) (nI vv) (nI bb)))]) hD hS hA [3] rfl
      refine va_calli (va_runV (As := []) (rest := []) ⟨hx, hb, hml, hown, hts⟩ (c_rokB l dC dI m9 mr mv vf xl xa_8 xi xt xn zs T pp (ns + 1) vv bb kI fk fa ff_7 H.size hf9_0) (cwV 0 hts g_c_xli3_c_rokB_63 rfl rfl rfl (by decide +kernel) ⟨by show 0 + 1 ≤ 2 + 12 * k; omega, by show 8 + (1 + 11) + (0) ≤ 43 + 279 * k; omega⟩) ⟨fun a U g mk q => by obtain ⟨q0, q1, qP, qK, qD⟩ := q; exact ⟨q0, q1, qP, va_K.moved (u := U) (U := U.calling g mk a) (Vm.Alike.refl U.vm) qK, qD⟩, va_recv hKc hPc (ci := 23) (q0 := 0) rfl rfl, fun U hU hW => ⟨rfl, by rw [hU], by rw [hU]; exact hPc, va_K.moved hW.alike hKc, hDc.weaken (fun _ _ _ _ => trivial)⟩⟩ rfl rfl hl.1 rfl (lv_room (Nat.le_of_ble_eq_true rfl)) dX23_list_63 ⟨(show 0 + 0 ≤ (8 * (T - pp) + 3) by omega), (show 0 + 0 ≤ (120 * (T - pp) + 280) by omega)⟩) hS (fun q _ h => hFc q h) hFc (fun r_14 u tS H1 locs ht hvm hw hB hz1 hk1 hS => ?_)
      obtain ⟨hP1, hK1, hD1⟩ := hB
      rw [ht] at hP1
      replace hK1 := va_K.moved hvm.symm hK1
      obtain ⟨hPj, hDj⟩ := va_joinT (wr := [(ee, .inr (15, [.int 3, .int tx, .int gx, .int nx, .int 0, .int 0, .long 0, .int 0, .null, .null, .null, .int 0, .null, .null])), (mr 8, .inl (kL, 3002, .inr (.inl fn))), (mr 6, .inl (kI, 3002, .inl fa)), (mr 5, .inl (kI, 3002, .inl fk))]) (w1 := [(m9, .inr (23, mA mr mv vf xl (nI zs) ff_7 xa_8 (nI T) (nI pp) xi xt xn (nI (ns + 1)) (nI vv) (nI bb)))]) hP hD [3] [0, 1, 2, 4] rfl rfl (by decide) (by decide) hk1 hFc hP1 hD1
      replace hP := hPj
      replace hD := hDj
      clear hPj hDj
      generalize H1 = H at hP hS ⊢
      replace hP : va_P (dC, dI) vwCl (([(ee, .inr (15, [.int 3, .int tx, .int gx, .int nx, .int 0, .int 0, .long 0, .int 0, .null, .null, .null, .int 0, .null, .null])), (mr 8, .inl (kL, 3002, .inr (.inl fn))), (mr 6, .inl (kI, 3002, .inl fa)), (mr 5, .inl (kI, 3002, .inl fk)), (m9, .inr (23, mA mr mv vf xl (nI zs) ff_7 xa_8 (nI T) (nI pp) xi xt xn (nI (ns + 1)) (nI vv) (nI bb)))] : va_W) ++ (sT L F)) H := hP
      replace hD : va_D A (([(ee, .inr (15, [.int 3, .int tx, .int gx, .int nx, .int 0, .int 0, .long 0, .int 0, .null, .null, .null, .int 0, .null, .null])), (mr 8, .inl (kL, 3002, .inr (.inl fn))), (mr 6, .inl (kI, 3002, .inl fa)), (mr 5, .inl (kI, 3002, .inl fk)), (m9, .inr (23, mA mr mv vf xl (nI zs) ff_7 xa_8 (nI T) (nI pp) xi xt xn (nI (ns + 1)) (nI vv) (nI bb)))] : va_W) ++ (sT L F)) := hD
      replace hK : va_K (dC, dI) vwCl [(kI, .int), (kL, .long), (kE, .object RX15)] s := hK
      clear hz1 hk1 hPc hDc hKc hFc hP1 hD1 hK1
      obtain rfl : r_14 = 0 := hw
      refine lv_if_eq (tgt := 92) hx hb dX23_list_66 (by decide) (fun _ => ?_) (fun c_15 => absurd (by decide) c_15)
      refine lv_aload_n hx hb dX23_list_92 rfl (lv_at hl 1 rfl) ?_
      refine lv_dup hx hb dX23_list_93 rfl ?_
      refine va_get (D := (dC, dI)) (ci := 23) (v := .int (nI (ns + 1))) (C := RX23) (T := TX23) (N := 89) hx hb hts in_c_xli3_X23 hown hK hP 4 rfl rfl 15 (by decide) (hts (.fieldLink RX23 104 "OwnedPlacesModel" "nest" "I") (wm_c_xli3 14 rfl)) (fun _ h9 => h9) rfl dX23_list_94 ?_
      refine lv_iconst (v := 1) hx hb dX23_list_97 (by decide) ?_
      refine lv_isub hx hb dX23_list_98 ?_
      refine lv_topi (fun f_16 ef_16 => ?_)
      obtain rfl : f_16 = nI ns := ef_16.trans (nI_pred _)
      refine va_put (D := (dC, dI)) (ci := 23) (v := .int (nI ns)) (ty := .int) (C := RX23) (T := TX23) (N := 89) hx hb hts in_c_xli3_X23 tyX23 tyX23_ok nmX23 hown hK hP hD hS 4 rfl rfl 15 (by decide) (hts (.fieldLink RX23 104 "OwnedPlacesModel" "nest" "I") (wm_c_xli3 14 rfl)) (fun _ h9 => h9) rfl (by decide +kernel) rfl rfl (Nat.le_of_ble_eq_true rfl) dX23_list_99 (fun H locs hP hD hS => ?_)
      replace hP : va_P (dC, dI) vwCl (([(ee, .inr (15, [.int 3, .int tx, .int gx, .int nx, .int 0, .int 0, .long 0, .int 0, .null, .null, .null, .int 0, .null, .null])), (mr 8, .inl (kL, 3002, .inr (.inl fn))), (mr 6, .inl (kI, 3002, .inl fa)), (mr 5, .inl (kI, 3002, .inl fk)), (m9, .inr (23, mA mr mv vf xl (nI zs) ff_7 xa_8 (nI T) (nI pp) xi xt xn (nI ns) (nI vv) (nI bb)))] : va_W) ++ (sT L F)) H := hP
      replace hD : va_D A (([(ee, .inr (15, [.int 3, .int tx, .int gx, .int nx, .int 0, .int 0, .long 0, .int 0, .null, .null, .null, .int 0, .null, .null])), (mr 8, .inl (kL, 3002, .inr (.inl fn))), (mr 6, .inl (kI, 3002, .inl fa)), (mr 5, .inl (kI, 3002, .inl fk)), (m9, .inr (23, mA mr mv vf xl (nI zs) ff_7 xa_8 (nI T) (nI pp) xi xt xn (nI ns) (nI vv) (nI bb)))] : va_W) ++ (sT L F)) := hD
      refine lv_aload_n hx hb dX23_list_102 rfl (lv_at hl 1 rfl) ?_
      refine lv_bipush (v := 62) hx hb dX23_list_103 (by decide) ?_
      replace hPc := hP.subF (f' := [(m9, .inr (23, mA mr mv vf xl (nI zs) ff_7 xa_8 (nI T) (nI pp) xi xt xn (nI ns) (nI vv) (nI bb))), (mr 5, .inl (kI, 3002, .inl fk)), (mr 6, .inl (kI, 3002, .inl fa))]) [4, 3, 2] rfl
      replace hDc := hD.subF (f' := [(m9, .inr (23, mA mr mv vf xl (nI zs) ff_7 xa_8 (nI T) (nI pp) xi xt xn (nI ns) (nI vv) (nI bb))), (mr 5, .inl (kI, 3002, .inl fk)), (mr 6, .inl (kI, 3002, .inl fa))]) [4, 3, 2] (by decide) rfl
      replace hKc := hK.sub (tys' := [(kI, .int)]) [0] rfl
      replace hFc := va_freeT (wc := [(m9, .inr (23, mA mr mv vf xl (nI zs) ff_7 xa_8 (nI T) (nI pp) xi xt xn (nI ns) (nI vv) (nI bb))), (mr 5, .inl (kI, 3002, .inl fk)), (mr 6, .inl (kI, 3002, .inl fa))]) hD hS hA [4, 3, 2] rfl
      refine va_callv (va_runV (As := [.int 62]) (rest := []) ⟨hx, hb, hml, hown, hts⟩ (c_rtkB l dC dI m9 mr mv vf xl xa_8 xi xt xn zs T pp ns vv bb kI fk fa ff_7 62 H.size hf9_0) (cwV 1 hts g_c_xli3_c_rtkB_105 rfl rfl rfl (by decide +kernel) ⟨by show 1 + 1 ≤ 2 + 12 * k; omega, by show 8 + (2 + 11) + (20) ≤ 43 + 279 * k; omega⟩) ⟨fun a U g mk q => by obtain ⟨q0, q1, qP, qK, qD⟩ := q; exact ⟨q0, q1, qP, va_K.moved (u := U) (U := U.calling g mk a) (Vm.Alike.refl U.vm) qK, qD⟩, va_recv hKc hPc (ci := 23) (q0 := 0) rfl rfl, fun U hU hW => ⟨rfl, by rw [hU], by rw [hU]; exact hPc, va_K.moved hW.alike hKc, hDc.weaken (fun _ _ _ _ => trivial)⟩⟩ rfl rfl hl.1 rfl (lv_room (Nat.le_of_ble_eq_true rfl)) dX23_list_105 ⟨(show 0 + 0 ≤ (8 * (T - pp) + 3) by omega), (show 0 + 0 ≤ (120 * (T - pp) + 280) by omega)⟩) hS (fun q _ h => hFc q h) hFc (fun u tS H1 locs ht hvm hw hB hz1 hk1 hS => ?_)
      obtain ⟨hP1, hK1, hD1⟩ := hB
      rw [ht] at hP1
      replace hK1 := va_K.moved hvm.symm hK1
      obtain ⟨hPj, hDj⟩ := va_joinT (wr := [(ee, .inr (15, [.int 3, .int tx, .int gx, .int nx, .int 0, .int 0, .long 0, .int 0, .null, .null, .null, .int 0, .null, .null])), (mr 8, .inl (kL, 3002, .inr (.inl fn)))]) (w1 := [(m9, .inr (23, mA mr mv vf xl (nI zs) ff_7 xa_8 (nI T) (nI pp) xi xt xn (nI ns) (nI vv) (nI bb))), (mr 5, .inl (kI, 3002, .inl fk)), (mr 6, .inl (kI, 3002, .inl fa))]) hP hD [4, 3, 2] [0, 1] rfl rfl (by decide) (by decide) hk1 hFc hP1 hD1
      replace hP := hPj
      replace hD := hDj
      clear hPj hDj
      replace hK := hK.app hK1
      generalize H1 = H at hP hS ⊢
      replace hP : va_P (dC, dI) vwCl (([(ee, .inr (15, [.int 3, .int tx, .int gx, .int nx, .int 0, .int 0, .long 0, .int 0, .null, .null, .null, .int 0, .null, .null])), (mr 8, .inl (kL, 3002, .inr (.inl fn))), (m9, .inr (23, mA mr mv vf xl (nI zs) ff_7 xa_8 (nI T) (nI pp) xi xt xn (nI ns) (nI vv) (nI bb))), (mr 5, .inl (kI, 3002, .inl fk)), (mr 6, .inl (kI, 3002, .inl fa))] : va_W) ++ (sT L F)) H := hP
      replace hD : va_D A (([(ee, .inr (15, [.int 3, .int tx, .int gx, .int nx, .int 0, .int 0, .long 0, .int 0, .null, .null, .null, .int 0, .null, .null])), (mr 8, .inl (kL, 3002, .inr (.inl fn))), (m9, .inr (23, mA mr mv vf xl (nI zs) ff_7 xa_8 (nI T) (nI pp) xi xt xn (nI ns) (nI vv) (nI bb))), (mr 5, .inl (kI, 3002, .inl fk)), (mr 6, .inl (kI, 3002, .inl fa))] : va_W) ++ (sT L F)) := hD
      replace hK : va_K (dC, dI) vwCl [(kI, .int), (kL, .long), (kE, .object RX15), (kI, .int)] s := hK
      replace hK := hK.sub (tys' := [(kI, .int), (kL, .long), (kE, .object RX15)]) [0, 1, 2] rfl
      clear hz1 hk1 hPc hDc hKc hFc hP1 hD1 hK1
      refine W.grow (fun hgs0 hgs1 => ?_)
      have hP9 := hP.subT (f' := [(ee, .inr (15, [.int 3, .int tx, .int gx, .int nx, .int 0, .int 0, .long 0, .int 0, .null, .null, .null, .int (nI 0), .null, .null])), (m9, .inr (23, mA mr mv vf xl (nI zs) ff_7 xa_8 (nI T) (nI pp) xi xt xn (nI ns) (nI vv) (nI bb))), (mr 5, .inl (kI, 3002, .inl fk)), (mr 6, .inl (kI, 3002, .inl fa)), (mr 8, .inl (kL, 3002, .inr (.inl fn)))]) [0, 2, 3, 4, 1] rfl
      have hD9 := hD.subT (f' := [(ee, .inr (15, [.int 3, .int tx, .int gx, .int nx, .int 0, .int 0, .long 0, .int 0, .null, .null, .null, .int (nI 0), .null, .null])), (m9, .inr (23, mA mr mv vf xl (nI zs) ff_7 xa_8 (nI T) (nI pp) xi xt xn (nI ns) (nI vv) (nI bb))), (mr 5, .inl (kI, 3002, .inl fk)), (mr 6, .inl (kI, 3002, .inl fa)), (mr 8, .inl (kL, 3002, .inr (.inl fn)))]) [0, 2, 3, 4, 1] (by decide) rfl
      have hK9 := hK.sub (tys' := [(kI, .int), (kL, .long), (kE, .object RX15)]) [0, 1, 2] rfl
      refine W.widen (k := (8 * (T - pp) + 3)) (n := (120 * (T - pp) + 280)) (by omega) (by omega) ?_
      exact W.vret hx hb hr (fun tS ht hW => ⟨⟨(), rfl, trivial, L, F, ff_7, xa_8, pp, bb, .null, .null, 0, exS.rf, ⟨by omega, by omega, by omega, by omega⟩, (fun q9 => absurd q9 hf9_0), by rw [ht]; exact ⟨by omega, by omega⟩, by rw [ht]; exact hP9, va_K.moved hW.alike hK9, hD9⟩, hS.F ht⟩) hS.2.2 dX23_list_108
    · replace hPc := hP.subF (f' := [(m9, .inr (23, mA mr mv vf xl (nI zs) 0 xa (nI T) (nI pp) xi xt xn (nI ns) (nI vv) (nI bb))), (mr 6, .inl (kI, 3002, .inl fa))]) [3, 1] rfl
      replace hDc := hD.subF (f' := [(m9, .inr (23, mA mr mv vf xl (nI zs) 0 xa (nI T) (nI pp) xi xt xn (nI ns) (nI vv) (nI bb))), (mr 6, .inl (kI, 3002, .inl fa))]) [3, 1] (by decide) rfl
      replace hKc := hK.sub (tys' := [(kI, .int)]) [0] rfl
      replace hFc := va_freeT (wc := [(m9, .inr (23, mA mr mv vf xl (nI zs) 0 xa (nI T) (nI pp) xi xt xn (nI ns) (nI vv) (nI bb))), (mr 6, .inl (kI, 3002, .inl fa))]) hD hS hA [3, 1] rfl
      refine va_callv (va_runV (As := [.int (nI pp)]) (rest := []) ⟨hx, hb, hml, hown, hts⟩ (c_renY l dC dI m9 mr mv vf xl xa xi xt xn zs T pp ns vv bb kI fk fa pp H.size (by omega) (⟨hn_6, by omega⟩)) (cwV 1 hts g_c_xli3_c_renY_21 rfl rfl rfl (by decide +kernel) ⟨by show 1 + 1 ≤ 2 + 12 * k; omega, by show 8 + (2 + 11) + (20) ≤ 43 + 279 * k; omega⟩) ⟨fun a U g mk q => by obtain ⟨q0, q1, qP, qK, qD⟩ := q; exact ⟨q0, q1, qP, va_K.moved (u := U) (U := U.calling g mk a) (Vm.Alike.refl U.vm) qK, qD⟩, va_recv hKc hPc (ci := 23) (q0 := 0) rfl rfl, fun U hU hW => ⟨rfl, by rw [hU], by rw [hU]; exact hPc, va_K.moved hW.alike hKc, hDc.weaken (fun _ _ _ _ => trivial)⟩⟩ rfl rfl hl.1 rfl (lv_room (Nat.le_of_ble_eq_true rfl)) dX23_list_21 ⟨(show 0 + 0 ≤ (8 * (T - pp) + 3) by omega), (show 0 + 0 ≤ (120 * (T - pp) + 280) by omega)⟩) hS (fun q _ h => hFc q h) hFc (fun u tS H1 locs ht hvm hw hB hz1 hk1 hS => ?_)
      obtain ⟨hP1, hK1, hD1⟩ := hB
      rw [ht] at hP1
      replace hK1 := va_K.moved hvm.symm hK1
      obtain ⟨hPj, hDj⟩ := va_joinT (wr := [(ee, .inr (15, [.int 3, .int tx, .int gx, .int nx, .int 0, .int 0, .long 0, .int 0, .null, .null, .null, .int 0, .null, .null])), (mr 8, .inl (kL, 3002, .inr (.inl fn))), (mr 5, .inl (kI, 3002, .inl fk))]) (w1 := [(m9, .inr (23, mA mr mv vf xl (nI zs) 0 xa (nI T) (nI pp) xi xt xn (nI (ns + 1)) (nI vv) (nI bb))), (mr 6, .inl (kI, 3002, .inl fa))]) hP hD [3, 1] [0, 2, 4] rfl rfl (by decide) (by decide) hk1 hFc hP1 hD1
      replace hP := hPj
      replace hD := hDj
      clear hPj hDj
      replace hK := hK.app hK1
      generalize H1 = H at hP hS ⊢
      replace hP : va_P (dC, dI) vwCl (([(ee, .inr (15, [.int 3, .int tx, .int gx, .int nx, .int 0, .int 0, .long 0, .int 0, .null, .null, .null, .int 0, .null, .null])), (mr 8, .inl (kL, 3002, .inr (.inl fn))), (mr 5, .inl (kI, 3002, .inl fk)), (m9, .inr (23, mA mr mv vf xl (nI zs) 0 xa (nI T) (nI pp) xi xt xn (nI (ns + 1)) (nI vv) (nI bb))), (mr 6, .inl (kI, 3002, .inl fa))] : va_W) ++ (sT L F)) H := hP
      replace hD : va_D A (([(ee, .inr (15, [.int 3, .int tx, .int gx, .int nx, .int 0, .int 0, .long 0, .int 0, .null, .null, .null, .int 0, .null, .null])), (mr 8, .inl (kL, 3002, .inr (.inl fn))), (mr 5, .inl (kI, 3002, .inl fk)), (m9, .inr (23, mA mr mv vf xl (nI zs) 0 xa (nI T) (nI pp) xi xt xn (nI (ns + 1)) (nI vv) (nI bb))), (mr 6, .inl (kI, 3002, .inl fa))] : va_W) ++ (sT L F)) := hD
      replace hK : va_K (dC, dI) vwCl [(kI, .int), (kL, .long), (kE, .object RX15), (kI, .int)] s := hK
      replace hK := hK.sub (tys' := [(kI, .int), (kL, .long), (kE, .object RX15)]) [0, 1, 2] rfl
      clear hz1 hk1 hPc hDc hKc hFc hP1 hD1 hK1
      refine lv_goto (tgt := 37) hx hb dX23_list_24 (by decide) ?_
      refine lv_aload_n hx hb dX23_list_37 rfl (lv_at hl 0 rfl) ?_
      refine lv_bipush (v := 61) hx hb dX23_list_38 (by decide) ?_
      replace hPc := hP.subF (f' := [(m9, .inr (23, mA mr mv vf xl (nI zs) 0 xa (nI T) (nI pp) xi xt xn (nI (ns + 1)) (nI vv) (nI bb))), (mr 5, .inl (kI, 3002, .inl fk)), (mr 6, .inl (kI, 3002, .inl fa))]) [3, 2, 4] rfl
      replace hDc := hD.subF (f' := [(m9, .inr (23, mA mr mv vf xl (nI zs) 0 xa (nI T) (nI pp) xi xt xn (nI (ns + 1)) (nI vv) (nI bb))), (mr 5, .inl (kI, 3002, .inl fk)), (mr 6, .inl (kI, 3002, .inl fa))]) [3, 2, 4] (by decide) rfl
      replace hKc := hK.sub (tys' := [(kI, .int)]) [0] rfl
      replace hFc := va_freeT (wc := [(m9, .inr (23, mA mr mv vf xl (nI zs) 0 xa (nI T) (nI pp) xi xt xn (nI (ns + 1)) (nI vv) (nI bb))), (mr 5, .inl (kI, 3002, .inl fk)), (mr 6, .inl (kI, 3002, .inl fa))]) hD hS hA [3, 2, 4] rfl
      refine va_callv (va_runV (As := [.int 61]) (rest := []) ⟨hx, hb, hml, hown, hts⟩ (c_rtkY l dC dI m9 mr mv vf xl xa xi xt xn zs T pp (ns + 1) vv bb kI fk fa 61 H.size hT hp hk0 (by decide) hk_3) (cwV 1 hts g_c_xli3_c_rtkY_40 rfl rfl rfl (by decide +kernel) ⟨by show 1 + 1 ≤ 2 + 12 * k; omega, by show 8 + (2 + 11) + (21) ≤ 43 + 279 * k; omega⟩) ⟨fun a U g mk q => by obtain ⟨q0, q1, qP, qK, qD⟩ := q; exact ⟨q0, q1, qP, va_K.moved (u := U) (U := U.calling g mk a) (Vm.Alike.refl U.vm) qK, qD⟩, va_recv hKc hPc (ci := 23) (q0 := 0) rfl rfl, fun U hU hW => ⟨rfl, by rw [hU], by rw [hU]; exact hPc, va_K.moved hW.alike hKc, hDc.weaken (fun _ _ _ _ => trivial)⟩⟩ rfl rfl hl.1 rfl (lv_room (Nat.le_of_ble_eq_true rfl)) dX23_list_40 ⟨(show 0 + 0 ≤ (8 * (T - pp) + 3) by omega), (show 0 + 0 ≤ (120 * (T - pp) + 280) by omega)⟩) hS (fun q _ h => hFc q h) hFc (fun u tS H1 locs ht hvm hw hB hz1 hk1 hS => ?_)
      obtain ⟨hP1, hK1, hD1⟩ := hB
      rw [ht] at hP1
      replace hK1 := va_K.moved hvm.symm hK1
      obtain ⟨hPj, hDj⟩ := va_joinT (wr := [(ee, .inr (15, [.int 3, .int tx, .int gx, .int nx, .int 0, .int 0, .long 0, .int 0, .null, .null, .null, .int 0, .null, .null])), (mr 8, .inl (kL, 3002, .inr (.inl fn)))]) (w1 := [(m9, .inr (23, mA mr mv vf xl (nI zs) 0 xa (nI T) (nI (pp + 1)) xi xt xn (nI (ns + 1)) (nI vv) (nI bb))), (mr 5, .inl (kI, 3002, .inl fk)), (mr 6, .inl (kI, 3002, .inl fa))]) hP hD [3, 2, 4] [0, 1] rfl rfl (by decide) (by decide) hk1 hFc hP1 hD1
      replace hP := hPj
      replace hD := hDj
      clear hPj hDj
      replace hK := hK.app hK1
      generalize H1 = H at hP hS ⊢
      replace hP : va_P (dC, dI) vwCl (([(ee, .inr (15, [.int 3, .int tx, .int gx, .int nx, .int 0, .int 0, .long 0, .int 0, .null, .null, .null, .int 0, .null, .null])), (mr 8, .inl (kL, 3002, .inr (.inl fn))), (m9, .inr (23, mA mr mv vf xl (nI zs) 0 xa (nI T) (nI (pp + 1)) xi xt xn (nI (ns + 1)) (nI vv) (nI bb))), (mr 5, .inl (kI, 3002, .inl fk)), (mr 6, .inl (kI, 3002, .inl fa))] : va_W) ++ (sT L F)) H := hP
      replace hD : va_D A (([(ee, .inr (15, [.int 3, .int tx, .int gx, .int nx, .int 0, .int 0, .long 0, .int 0, .null, .null, .null, .int 0, .null, .null])), (mr 8, .inl (kL, 3002, .inr (.inl fn))), (m9, .inr (23, mA mr mv vf xl (nI zs) 0 xa (nI T) (nI (pp + 1)) xi xt xn (nI (ns + 1)) (nI vv) (nI bb))), (mr 5, .inl (kI, 3002, .inl fk)), (mr 6, .inl (kI, 3002, .inl fa))] : va_W) ++ (sT L F)) := hD
      replace hK : va_K (dC, dI) vwCl [(kI, .int), (kL, .long), (kE, .object RX15), (kI, .int)] s := hK
      replace hK := hK.sub (tys' := [(kI, .int), (kL, .long), (kE, .object RX15)]) [0, 1, 2] rfl
      clear hz1 hk1 hPc hDc hKc hFc hP1 hD1 hK1
      have hp_9 : pp + 1 < T := kne3 hk0 hp hk_3 (by decide)
      refine lv_aload_n hx hb dX23_list_43 rfl (lv_at hl 1 rfl) ?_
      refine va_get (D := (dC, dI)) (ci := 15) (v := .int 3) (C := RX15) (T := TX15) (N := 14) hx hb hts in_c_xli3_X15 hown hK hP 0 rfl rfl 0 (by decide) (hts (.fieldLink RX23 330 "OwnedPlacesModel$Exp" "kind" "I") (wm_c_xli3 28 rfl)) (fun _ h9 => h9) rfl dX23_list_44 ?_
      refine lv_iconst (v := 3) hx hb dX23_list_47 (by decide) ?_
      refine lv_icmp_ne (tgt := 60) hx hb dX23_list_48 (by decide) (fun c_10 => absurd c_10 (by decide)) (fun _ => ?_)
      refine lv_aload_n hx hb dX23_list_51 rfl (lv_at hl 0 rfl) ?_
      refine lv_bipush (v := 62) hx hb dX23_list_52 (by decide) ?_
      by_cases hk_11 : fk (pp + 1) = 62
      · replace hPc := hP.subF (f' := [(m9, .inr (23, mA mr mv vf xl (nI zs) 0 xa (nI T) (nI (pp + 1)) xi xt xn (nI (ns + 1)) (nI vv) (nI bb))), (mr 5, .inl (kI, 3002, .inl fk))]) [2, 3] rfl
        replace hDc := hD.subF (f' := [(m9, .inr (23, mA mr mv vf xl (nI zs) 0 xa (nI T) (nI (pp + 1)) xi xt xn (nI (ns + 1)) (nI vv) (nI bb))), (mr 5, .inl (kI, 3002, .inl fk))]) [2, 3] (by decide) rfl
        replace hKc := hK.sub (tys' := [(kI, .int)]) [0] rfl
        replace hFc := va_freeT (wc := [(m9, .inr (23, mA mr mv vf xl (nI zs) 0 xa (nI T) (nI (pp + 1)) xi xt xn (nI (ns + 1)) (nI vv) (nI bb))), (mr 5, .inl (kI, 3002, .inl fk))]) hD hS hA [2, 3] rfl
        refine va_calli (va_runV (As := [.int 62]) (rest := []) ⟨hx, hb, hml, hown, hts⟩ (c_risY l dC dI m9 mr mv vf xl xa xi xt xn zs T (pp + 1) (ns + 1) vv bb kI fk fa 0 62 H.size hT hp_9 hk_11) (cwV 1 hts g_c_xli3_c_risY_54 rfl rfl rfl (by decide +kernel) ⟨by show 0 + 1 ≤ 2 + 12 * k; omega, by show 8 + (2 + 11) + (0) ≤ 43 + 279 * k; omega⟩) ⟨fun a U g mk q => by obtain ⟨q0, q1, qP, qK, qD⟩ := q; exact ⟨q0, q1, qP, va_K.moved (u := U) (U := U.calling g mk a) (Vm.Alike.refl U.vm) qK, qD⟩, va_recv hKc hPc (ci := 23) (q0 := 0) rfl rfl, fun U hU hW => ⟨rfl, by rw [hU], by rw [hU]; exact hPc, va_K.moved hW.alike hKc, hDc.weaken (fun _ _ _ _ => trivial)⟩⟩ rfl rfl hl.1 rfl (lv_room (Nat.le_of_ble_eq_true rfl)) dX23_list_54 ⟨(show 0 + 0 ≤ (8 * (T - pp) + 3) by omega), (show 0 + 0 ≤ (120 * (T - pp) + 280) by omega)⟩) hS (fun q _ h => hFc q h) hFc (fun r_12 u tS H1 locs ht hvm hw hB hz1 hk1 hS => ?_)
        obtain ⟨hP1, hK1, hD1⟩ := hB
        rw [ht] at hP1
        replace hK1 := va_K.moved hvm.symm hK1
        obtain ⟨hPj, hDj⟩ := va_joinT (wr := [(ee, .inr (15, [.int 3, .int tx, .int gx, .int nx, .int 0, .int 0, .long 0, .int 0, .null, .null, .null, .int 0, .null, .null])), (mr 8, .inl (kL, 3002, .inr (.inl fn))), (mr 6, .inl (kI, 3002, .inl fa))]) (w1 := [(m9, .inr (23, mA mr mv vf xl (nI zs) 0 xa (nI T) (nI (pp + 1)) xi xt xn (nI (ns + 1)) (nI vv) (nI bb))), (mr 5, .inl (kI, 3002, .inl fk))]) hP hD [2, 3] [0, 1, 4] rfl rfl (by decide) (by decide) hk1 hFc hP1 hD1
        replace hP := hPj
        replace hD := hDj
        clear hPj hDj
        replace hK := hK.app hK1
        generalize H1 = H at hP hS ⊢
        replace hP : va_P (dC, dI) vwCl (([(ee, .inr (15, [.int 3, .int tx, .int gx, .int nx, .int 0, .int 0, .long 0, .int 0, .null, .null, .null, .int 0, .null, .null])), (mr 8, .inl (kL, 3002, .inr (.inl fn))), (mr 6, .inl (kI, 3002, .inl fa)), (m9, .inr (23, mA mr mv vf xl (nI zs) 0 xa (nI T) (nI (pp + 1)) xi xt xn (nI (ns + 1)) (nI vv) (nI bb))), (mr 5, .inl (kI, 3002, .inl fk))] : va_W) ++ (sT L F)) H := hP
        replace hD : va_D A (([(ee, .inr (15, [.int 3, .int tx, .int gx, .int nx, .int 0, .int 0, .long 0, .int 0, .null, .null, .null, .int 0, .null, .null])), (mr 8, .inl (kL, 3002, .inr (.inl fn))), (mr 6, .inl (kI, 3002, .inl fa)), (m9, .inr (23, mA mr mv vf xl (nI zs) 0 xa (nI T) (nI (pp + 1)) xi xt xn (nI (ns + 1)) (nI vv) (nI bb))), (mr 5, .inl (kI, 3002, .inl fk))] : va_W) ++ (sT L F)) := hD
        replace hK : va_K (dC, dI) vwCl [(kI, .int), (kL, .long), (kE, .object RX15), (kI, .int)] s := hK
        replace hK := hK.sub (tys' := [(kI, .int), (kL, .long), (kE, .object RX15)]) [0, 1, 2] rfl
        clear hz1 hk1 hPc hDc hKc hFc hP1 hD1 hK1
        obtain rfl : r_12 = 1 := hw
        refine lv_if_ne (tgt := 92) hx hb dX23_list_57 (by decide) (fun _ => ?_) (fun c_13 => absurd c_13 (by decide))
        refine lv_aload_n hx hb dX23_list_92 rfl (lv_at hl 0 rfl) ?_
        refine lv_dup hx hb dX23_list_93 rfl ?_
        refine va_get (D := (dC, dI)) (ci := 23) (v := .int (nI (ns + 1))) (C := RX23) (T := TX23) (N := 89) hx hb hts in_c_xli3_X23 hown hK hP 3 rfl rfl 15 (by decide) (hts (.fieldLink RX23 104 "OwnedPlacesModel" "nest" "I") (wm_c_xli3 14 rfl)) (fun _ h9 => h9) rfl dX23_list_94 ?_
        refine lv_iconst (v := 1) hx hb dX23_list_97 (by decide) ?_
        refine lv_isub hx hb dX23_list_98 ?_
        refine lv_topi (fun f_14 ef_14 => ?_)
        obtain rfl : f_14 = nI ns := ef_14.trans (nI_pred _)
        refine va_put (D := (dC, dI)) (ci := 23) (v := .int (nI ns)) (ty := .int) (C := RX23) (T := TX23) (N := 89) hx hb hts in_c_xli3_X23 tyX23 tyX23_ok nmX23 hown hK hP hD hS 3 rfl rfl 15 (by decide) (hts (.fieldLink RX23 104 "OwnedPlacesModel" "nest" "I") (wm_c_xli3 14 rfl)) (fun _ h9 => h9) rfl (by decide +kernel) rfl rfl (Nat.le_of_ble_eq_true rfl) dX23_list_99 (fun H locs hP hD hS => ?_)
        replace hP : va_P (dC, dI) vwCl (([(ee, .inr (15, [.int 3, .int tx, .int gx, .int nx, .int 0, .int 0, .long 0, .int 0, .null, .null, .null, .int 0, .null, .null])), (mr 8, .inl (kL, 3002, .inr (.inl fn))), (mr 6, .inl (kI, 3002, .inl fa)), (m9, .inr (23, mA mr mv vf xl (nI zs) 0 xa (nI T) (nI (pp + 1)) xi xt xn (nI ns) (nI vv) (nI bb))), (mr 5, .inl (kI, 3002, .inl fk))] : va_W) ++ (sT L F)) H := hP
        replace hD : va_D A (([(ee, .inr (15, [.int 3, .int tx, .int gx, .int nx, .int 0, .int 0, .long 0, .int 0, .null, .null, .null, .int 0, .null, .null])), (mr 8, .inl (kL, 3002, .inr (.inl fn))), (mr 6, .inl (kI, 3002, .inl fa)), (m9, .inr (23, mA mr mv vf xl (nI zs) 0 xa (nI T) (nI (pp + 1)) xi xt xn (nI ns) (nI vv) (nI bb))), (mr 5, .inl (kI, 3002, .inl fk))] : va_W) ++ (sT L F)) := hD
        refine lv_aload_n hx hb dX23_list_102 rfl (lv_at hl 0 rfl) ?_
        refine lv_bipush (v := 62) hx hb dX23_list_103 (by decide) ?_
        replace hPc := hP.subF (f' := [(m9, .inr (23, mA mr mv vf xl (nI zs) 0 xa (nI T) (nI (pp + 1)) xi xt xn (nI ns) (nI vv) (nI bb))), (mr 5, .inl (kI, 3002, .inl fk)), (mr 6, .inl (kI, 3002, .inl fa))]) [3, 4, 2] rfl
        replace hDc := hD.subF (f' := [(m9, .inr (23, mA mr mv vf xl (nI zs) 0 xa (nI T) (nI (pp + 1)) xi xt xn (nI ns) (nI vv) (nI bb))), (mr 5, .inl (kI, 3002, .inl fk)), (mr 6, .inl (kI, 3002, .inl fa))]) [3, 4, 2] (by decide) rfl
        replace hKc := hK.sub (tys' := [(kI, .int)]) [0] rfl
        replace hFc := va_freeT (wc := [(m9, .inr (23, mA mr mv vf xl (nI zs) 0 xa (nI T) (nI (pp + 1)) xi xt xn (nI ns) (nI vv) (nI bb))), (mr 5, .inl (kI, 3002, .inl fk)), (mr 6, .inl (kI, 3002, .inl fa))]) hD hS hA [3, 4, 2] rfl
        refine va_callv (va_runV (As := [.int 62]) (rest := []) ⟨hx, hb, hml, hown, hts⟩ (c_rtkY l dC dI m9 mr mv vf xl xa xi xt xn zs T (pp + 1) ns vv bb kI fk fa 62 H.size hT hp_9 hk0 (by decide) hk_11) (cwV 1 hts g_c_xli3_c_rtkY_105 rfl rfl rfl (by decide +kernel) ⟨by show 1 + 1 ≤ 2 + 12 * k; omega, by show 8 + (2 + 11) + (21) ≤ 43 + 279 * k; omega⟩) ⟨fun a U g mk q => by obtain ⟨q0, q1, qP, qK, qD⟩ := q; exact ⟨q0, q1, qP, va_K.moved (u := U) (U := U.calling g mk a) (Vm.Alike.refl U.vm) qK, qD⟩, va_recv hKc hPc (ci := 23) (q0 := 0) rfl rfl, fun U hU hW => ⟨rfl, by rw [hU], by rw [hU]; exact hPc, va_K.moved hW.alike hKc, hDc.weaken (fun _ _ _ _ => trivial)⟩⟩ rfl rfl hl.1 rfl (lv_room (Nat.le_of_ble_eq_true rfl)) dX23_list_105 ⟨(show 0 + 0 ≤ (8 * (T - pp) + 3) by omega), (show 0 + 0 ≤ (120 * (T - pp) + 280) by omega)⟩) hS (fun q _ h => hFc q h) hFc (fun u tS H1 locs ht hvm hw hB hz1 hk1 hS => ?_)
        obtain ⟨hP1, hK1, hD1⟩ := hB
        rw [ht] at hP1
        replace hK1 := va_K.moved hvm.symm hK1
        obtain ⟨hPj, hDj⟩ := va_joinT (wr := [(ee, .inr (15, [.int 3, .int tx, .int gx, .int nx, .int 0, .int 0, .long 0, .int 0, .null, .null, .null, .int 0, .null, .null])), (mr 8, .inl (kL, 3002, .inr (.inl fn)))]) (w1 := [(m9, .inr (23, mA mr mv vf xl (nI zs) 0 xa (nI T) (nI ((pp + 1) + 1)) xi xt xn (nI ns) (nI vv) (nI bb))), (mr 5, .inl (kI, 3002, .inl fk)), (mr 6, .inl (kI, 3002, .inl fa))]) hP hD [3, 4, 2] [0, 1] rfl rfl (by decide) (by decide) hk1 hFc hP1 hD1
        replace hP := hPj
        replace hD := hDj
        clear hPj hDj
        replace hK := hK.app hK1
        generalize H1 = H at hP hS ⊢
        replace hP : va_P (dC, dI) vwCl (([(ee, .inr (15, [.int 3, .int tx, .int gx, .int nx, .int 0, .int 0, .long 0, .int 0, .null, .null, .null, .int 0, .null, .null])), (mr 8, .inl (kL, 3002, .inr (.inl fn))), (m9, .inr (23, mA mr mv vf xl (nI zs) 0 xa (nI T) (nI ((pp + 1) + 1)) xi xt xn (nI ns) (nI vv) (nI bb))), (mr 5, .inl (kI, 3002, .inl fk)), (mr 6, .inl (kI, 3002, .inl fa))] : va_W) ++ (sT L F)) H := hP
        replace hD : va_D A (([(ee, .inr (15, [.int 3, .int tx, .int gx, .int nx, .int 0, .int 0, .long 0, .int 0, .null, .null, .null, .int 0, .null, .null])), (mr 8, .inl (kL, 3002, .inr (.inl fn))), (m9, .inr (23, mA mr mv vf xl (nI zs) 0 xa (nI T) (nI ((pp + 1) + 1)) xi xt xn (nI ns) (nI vv) (nI bb))), (mr 5, .inl (kI, 3002, .inl fk)), (mr 6, .inl (kI, 3002, .inl fa))] : va_W) ++ (sT L F)) := hD
        replace hK : va_K (dC, dI) vwCl [(kI, .int), (kL, .long), (kE, .object RX15), (kI, .int)] s := hK
        replace hK := hK.sub (tys' := [(kI, .int), (kL, .long), (kE, .object RX15)]) [0, 1, 2] rfl
        clear hz1 hk1 hPc hDc hKc hFc hP1 hD1 hK1
        have hp_16 : pp + 1 + 1 < T := kne3 hk0 hp_9 hk_11 (by decide)
        refine W.grow (fun hgs0 hgs1 => ?_)
        have hP9 := hP.subT (f' := [(ee, .inr (15, [.int 3, .int tx, .int gx, .int nx, .int 0, .int 0, .long 0, .int 0, .null, .null, .null, .int (nI 0), .null, .null])), (m9, .inr (23, mA mr mv vf xl (nI zs) 0 xa (nI T) (nI (pp + 1 + 1)) xi xt xn (nI ns) (nI vv) (nI bb))), (mr 5, .inl (kI, 3002, .inl fk)), (mr 6, .inl (kI, 3002, .inl fa)), (mr 8, .inl (kL, 3002, .inr (.inl fn)))]) [0, 2, 3, 4, 1] rfl
        have hD9 := hD.subT (f' := [(ee, .inr (15, [.int 3, .int tx, .int gx, .int nx, .int 0, .int 0, .long 0, .int 0, .null, .null, .null, .int (nI 0), .null, .null])), (m9, .inr (23, mA mr mv vf xl (nI zs) 0 xa (nI T) (nI (pp + 1 + 1)) xi xt xn (nI ns) (nI vv) (nI bb))), (mr 5, .inl (kI, 3002, .inl fk)), (mr 6, .inl (kI, 3002, .inl fa)), (mr 8, .inl (kL, 3002, .inr (.inl fn)))]) [0, 2, 3, 4, 1] (by decide) rfl
        have hK9 := hK.sub (tys' := [(kI, .int), (kL, .long), (kE, .object RX15)]) [0, 1, 2] rfl
        refine W.widen (k := (8 * (T - pp) + 3)) (n := (120 * (T - pp) + 280)) (by omega) (by omega) ?_
        exact W.vret hx hb hr (fun tS ht hW => ⟨⟨(), rfl, trivial, L, F, 0, xa, pp + 1 + 1, bb, .null, .null, 0, exS.rf, ⟨by omega, by omega, by omega, by omega⟩, (fun _ => ⟨hbb, by omega, Or.inl ⟨rfl, rfl, rfl, by omega⟩⟩), by rw [ht]; exact ⟨by omega, by omega⟩, by rw [ht]; exact hP9, va_K.moved hW.alike hK9, hD9⟩, hS.F ht⟩) hS.2.2 dX23_list_108
      · replace hPc := hP.subF (f' := [(m9, .inr (23, mA mr mv vf xl (nI zs) 0 xa (nI T) (nI (pp + 1)) xi xt xn (nI (ns + 1)) (nI vv) (nI bb))), (mr 5, .inl (kI, 3002, .inl fk))]) [2, 3] rfl
        replace hDc := hD.subF (f' := [(m9, .inr (23, mA mr mv vf xl (nI zs) 0 xa (nI T) (nI (pp + 1)) xi xt xn (nI (ns + 1)) (nI vv) (nI bb))), (mr 5, .inl (kI, 3002, .inl fk))]) [2, 3] (by decide) rfl
        replace hKc := hK.sub (tys' := [(kI, .int)]) [0] rfl
        replace hFc := va_freeT (wc := [(m9, .inr (23, mA mr mv vf xl (nI zs) 0 xa (nI T) (nI (pp + 1)) xi xt xn (nI (ns + 1)) (nI vv) (nI bb))), (mr 5, .inl (kI, 3002, .inl fk))]) hD hS hA [2, 3] rfl
        refine va_calli (va_runV (As := [.int 62]) (rest := []) ⟨hx, hb, hml, hown, hts⟩ (c_risN l dC dI m9 mr mv vf xl xa xi xt xn zs T (pp + 1) (ns + 1) vv bb kI fk fa 0 62 H.size hT hp_9 hk_11) (cwV 1 hts g_c_xli3_c_risN_54 rfl rfl rfl (by decide +kernel) ⟨by show 0 + 1 ≤ 2 + 12 * k; omega, by show 8 + (2 + 11) + (0) ≤ 43 + 279 * k; omega⟩) ⟨fun a U g mk q => by obtain ⟨q0, q1, qP, qK, qD⟩ := q; exact ⟨q0, q1, qP, va_K.moved (u := U) (U := U.calling g mk a) (Vm.Alike.refl U.vm) qK, qD⟩, va_recv hKc hPc (ci := 23) (q0 := 0) rfl rfl, fun U hU hW => ⟨rfl, by rw [hU], by rw [hU]; exact hPc, va_K.moved hW.alike hKc, hDc.weaken (fun _ _ _ _ => trivial)⟩⟩ rfl rfl hl.1 rfl (lv_room (Nat.le_of_ble_eq_true rfl)) dX23_list_54 ⟨(show 0 + 0 ≤ (8 * (T - pp) + 3) by omega), (show 0 + 0 ≤ (120 * (T - pp) + 280) by omega)⟩) hS (fun q _ h => hFc q h) hFc (fun r_12 u tS H1 locs ht hvm hw hB hz1 hk1 hS => ?_)
        obtain ⟨hP1, hK1, hD1⟩ := hB
        rw [ht] at hP1
        replace hK1 := va_K.moved hvm.symm hK1
        obtain ⟨hPj, hDj⟩ := va_joinT (wr := [(ee, .inr (15, [.int 3, .int tx, .int gx, .int nx, .int 0, .int 0, .long 0, .int 0, .null, .null, .null, .int 0, .null, .null])), (mr 8, .inl (kL, 3002, .inr (.inl fn))), (mr 6, .inl (kI, 3002, .inl fa))]) (w1 := [(m9, .inr (23, mA mr mv vf xl (nI zs) 0 xa (nI T) (nI (pp + 1)) xi xt xn (nI (ns + 1)) (nI vv) (nI bb))), (mr 5, .inl (kI, 3002, .inl fk))]) hP hD [2, 3] [0, 1, 4] rfl rfl (by decide) (by decide) hk1 hFc hP1 hD1
        replace hP := hPj
        replace hD := hDj
        clear hPj hDj
        replace hK := hK.app hK1
        generalize H1 = H at hP hS ⊢
        replace hP : va_P (dC, dI) vwCl (([(ee, .inr (15, [.int 3, .int tx, .int gx, .int nx, .int 0, .int 0, .long 0, .int 0, .null, .null, .null, .int 0, .null, .null])), (mr 8, .inl (kL, 3002, .inr (.inl fn))), (mr 6, .inl (kI, 3002, .inl fa)), (m9, .inr (23, mA mr mv vf xl (nI zs) 0 xa (nI T) (nI (pp + 1)) xi xt xn (nI (ns + 1)) (nI vv) (nI bb))), (mr 5, .inl (kI, 3002, .inl fk))] : va_W) ++ (sT L F)) H := hP
        replace hD : va_D A (([(ee, .inr (15, [.int 3, .int tx, .int gx, .int nx, .int 0, .int 0, .long 0, .int 0, .null, .null, .null, .int 0, .null, .null])), (mr 8, .inl (kL, 3002, .inr (.inl fn))), (mr 6, .inl (kI, 3002, .inl fa)), (m9, .inr (23, mA mr mv vf xl (nI zs) 0 xa (nI T) (nI (pp + 1)) xi xt xn (nI (ns + 1)) (nI vv) (nI bb))), (mr 5, .inl (kI, 3002, .inl fk))] : va_W) ++ (sT L F)) := hD
        replace hK : va_K (dC, dI) vwCl [(kI, .int), (kL, .long), (kE, .object RX15), (kI, .int)] s := hK
        replace hK := hK.sub (tys' := [(kI, .int), (kL, .long), (kE, .object RX15)]) [0, 1, 2] rfl
        clear hz1 hk1 hPc hDc hKc hFc hP1 hD1 hK1
        obtain rfl : r_12 = 0 := hw
        refine lv_if_ne (tgt := 92) hx hb dX23_list_57 (by decide) (fun c_13 => absurd c_13 (by decide)) (fun _ => ?_)
        refine lv_iconst (v := 1) hx hb dX23_list_60 (by decide) ?_
        refine lv_istore_n (lv' := [(2, .int 1), (0, .ref m9), (1, .ref ee)]) hx hb dX23_list_61 rfl hl (by decide) rfl (fun ls hl => ?_)
        refine lv_aload_n hx hb dX23_list_62 rfl (lv_at hl 1 rfl) ?_
        replace hPc := hP.subF (f' := [(m9, .inr (23, mA mr mv vf xl (nI zs) 0 xa (nI T) (nI (pp + 1)) xi xt xn (nI (ns + 1)) (nI vv) (nI bb)))]) [3] rfl
        replace hDc := hD.subF (f' := [(m9, .inr (23, mA mr mv vf xl (nI zs) 0 xa (nI T) (nI (pp + 1)) xi xt xn (nI (ns + 1)) (nI vv) (nI bb)))]) [3] (by decide) rfl
        replace hKc := hK.sub (tys' := []) [] rfl
        replace hFc := va_freeT (wc := [(m9, .inr (23, mA mr mv vf xl (nI zs) 0 xa (nI T) (nI (pp + 1)) xi xt xn (nI (ns + 1)) (nI vv) (nI bb)))]) hD hS hA [3] rfl
        refine va_calli (va_runV (As := []) (rest := []) ⟨hx, hb, hml, hown, hts⟩ (c_rok0 l dC dI m9 mr mv vf xl xa xi xt xn zs T (pp + 1) (ns + 1) vv bb kI fk fa H.size) (cwV 0 hts g_c_xli3_c_rok0_63 rfl rfl rfl (by decide +kernel) ⟨by show 0 + 1 ≤ 2 + 12 * k; omega, by show 8 + (1 + 11) + (0) ≤ 43 + 279 * k; omega⟩) ⟨fun a U g mk q => by obtain ⟨q0, q1, qP, qK, qD⟩ := q; exact ⟨q0, q1, qP, va_K.moved (u := U) (U := U.calling g mk a) (Vm.Alike.refl U.vm) qK, qD⟩, va_recv hKc hPc (ci := 23) (q0 := 0) rfl rfl, fun U hU hW => ⟨rfl, by rw [hU], by rw [hU]; exact hPc, va_K.moved hW.alike hKc, hDc.weaken (fun _ _ _ _ => trivial)⟩⟩ rfl rfl hl.1 rfl (lv_room (Nat.le_of_ble_eq_true rfl)) dX23_list_63 ⟨(show 0 + 0 ≤ (8 * (T - pp) + 3) by omega), (show 0 + 0 ≤ (120 * (T - pp) + 280) by omega)⟩) hS (fun q _ h => hFc q h) hFc (fun r_14 u tS H1 locs ht hvm hw hB hz1 hk1 hS => ?_)
        obtain ⟨hP1, hK1, hD1⟩ := hB
        rw [ht] at hP1
        replace hK1 := va_K.moved hvm.symm hK1
        obtain ⟨hPj, hDj⟩ := va_joinT (wr := [(ee, .inr (15, [.int 3, .int tx, .int gx, .int nx, .int 0, .int 0, .long 0, .int 0, .null, .null, .null, .int 0, .null, .null])), (mr 8, .inl (kL, 3002, .inr (.inl fn))), (mr 6, .inl (kI, 3002, .inl fa)), (mr 5, .inl (kI, 3002, .inl fk))]) (w1 := [(m9, .inr (23, mA mr mv vf xl (nI zs) 0 xa (nI T) (nI (pp + 1)) xi xt xn (nI (ns + 1)) (nI vv) (nI bb)))]) hP hD [3] [0, 1, 2, 4] rfl rfl (by decide) (by decide) hk1 hFc hP1 hD1
        replace hP := hPj
        replace hD := hDj
        clear hPj hDj
        generalize H1 = H at hP hS ⊢
        replace hP : va_P (dC, dI) vwCl (([(ee, .inr (15, [.int 3, .int tx, .int gx, .int nx, .int 0, .int 0, .long 0, .int 0, .null, .null, .null, .int 0, .null, .null])), (mr 8, .inl (kL, 3002, .inr (.inl fn))), (mr 6, .inl (kI, 3002, .inl fa)), (mr 5, .inl (kI, 3002, .inl fk)), (m9, .inr (23, mA mr mv vf xl (nI zs) 0 xa (nI T) (nI (pp + 1)) xi xt xn (nI (ns + 1)) (nI vv) (nI bb)))] : va_W) ++ (sT L F)) H := hP
        replace hD : va_D A (([(ee, .inr (15, [.int 3, .int tx, .int gx, .int nx, .int 0, .int 0, .long 0, .int 0, .null, .null, .null, .int 0, .null, .null])), (mr 8, .inl (kL, 3002, .inr (.inl fn))), (mr 6, .inl (kI, 3002, .inl fa)), (mr 5, .inl (kI, 3002, .inl fk)), (m9, .inr (23, mA mr mv vf xl (nI zs) 0 xa (nI T) (nI (pp + 1)) xi xt xn (nI (ns + 1)) (nI vv) (nI bb)))] : va_W) ++ (sT L F)) := hD
        replace hK : va_K (dC, dI) vwCl [(kI, .int), (kL, .long), (kE, .object RX15)] s := hK
        clear hz1 hk1 hPc hDc hKc hFc hP1 hD1 hK1
        obtain rfl : r_14 = 1 := hw
        refine lv_if_eq (tgt := 92) hx hb dX23_list_66 (by decide) (fun c_15 => absurd c_15 (by decide)) (fun _ => ?_)
        refine lv_iload_n hx hb dX23_list_69 rfl (lv_at hl 0 rfl) ?_
        refine lv_if_eq (tgt := 92) hx hb dX23_list_70 (by decide) (fun c_16 => absurd c_16 (by decide)) (fun _ => ?_)
        refine lv_aload_n hx hb dX23_list_73 rfl (lv_at hl 2 rfl) ?_
        refine lv_aload_n hx hb dX23_list_74 rfl (lv_at hl 1 rfl) ?_
        obtain ⟨k1, hkL⟩ : ∃ k1 : Nat, k = k1 + 1 := ⟨k - 1, by omega⟩
        replace hPc := hP.subT (f' := [(m9, .inr (23, mA mr mv vf xl (nI zs) 0 xa (nI T) (nI (pp + 1)) xi xt xn (nI (ns + 1)) (nI vv) (nI bb))), (mr 5, .inl (kI, 3002, .inl fk)), (mr 6, .inl (kI, 3002, .inl fa)), (mr 8, .inl (kL, 3002, .inr (.inl fn)))]) [4, 3, 2, 1] rfl
        replace hDc := hD.subT (f' := [(m9, .inr (23, mA mr mv vf xl (nI zs) 0 xa (nI T) (nI (pp + 1)) xi xt xn (nI (ns + 1)) (nI vv) (nI bb))), (mr 5, .inl (kI, 3002, .inl fk)), (mr 6, .inl (kI, 3002, .inl fa)), (mr 8, .inl (kL, 3002, .inr (.inl fn)))]) [4, 3, 2, 1] (by decide) rfl
        replace hKc := hK.sub (tys' := [(kI, .int), (kL, .long), (kE, .object RX15)]) [0, 1, 2] rfl
        replace hFc := va_freeB (wc := [(m9, .inr (23, mA mr mv vf xl (nI zs) 0 xa (nI T) (nI (pp + 1)) xi xt xn (nI (ns + 1)) (nI vv) (nI bb))), (mr 5, .inl (kI, 3002, .inl fk)), (mr 6, .inl (kI, 3002, .inl fa)), (mr 8, .inl (kL, 3002, .inr (.inl fn)))]) hD hS hA [4, 3, 2, 1] rfl
        refine W.grow (fun hgs0 hgs1 => ?_)
        refine va_callr (va_runV (As := []) (rest := [.ref ee]) ⟨hx, hb, hml, hown, hts⟩ ((ih k1 hkL).2.2.2.2.2.2 m9 mr mv vf xl xa xi xt xn zs T (pp + 1) (ns + 1) vv bb kI fk fa kL kE fn L F (slN H) H.size hT hp_9 hk0 hbb (by omega)) (cwV 0 hts g_c_xli3_c_xex_75 rfl rfl rfl (by decide +kernel) ⟨by show 13 + 12 * k1 + 1 ≤ 2 + 12 * k; omega, by show 8 + (1 + 11) + (302 + 279 * k1) ≤ 43 + 279 * k; omega⟩) ⟨fun a U g mk q => by obtain ⟨q0, q1, qP, qK, qD, qx0, qx1⟩ := q; exact ⟨q0, q1, qP, va_K.moved (u := U) (U := U.calling g mk a) (Vm.Alike.refl U.vm) qK, qD, nsM.same (u := U) (U := U.calling g mk a) rfl qx0, qx1⟩, va_recv hKc hPc (ci := 23) (q0 := 0) rfl rfl, fun U hU hW => ⟨rfl, by rw [hU], by rw [hU]; exact hPc, va_K.moved hW.alike hKc, hDc.weaken (fun _ _ _ _ => trivial), nsM.warm hW hns, by rw [hU]⟩⟩ rfl rfl hl.1 rfl (lv_room (Nat.le_of_ble_eq_true rfl)) dX23_list_75 ⟨(show 0 + (8 * (T - (pp + 1)) + 8) ≤ (8 * (T - pp) + 3) by omega), (show 0 + (120 * (T - (pp + 1)) + 360) ≤ (120 * (T - pp) + 280) by omega)⟩) hS (fun q _ h => hFc q h) hFc (fun u r_17 tS H1 locs ht hvm hw hB hz1 hk1 hS => ?_)
        obtain ⟨L16, F16, ff16, xa16, pp16, bb16, hf17_0, hf17_1, hf17_2, hf17_3, hP1, hK1, hD1⟩ := hB
        rw [ht] at hP1
        replace hK1 := va_K.moved hvm.symm hK1
        rw [ht] at hf17_3
        have hgz : H1.size ≤ s.heap.size + (8 * (pp16 - (pp + 1)) + 3) ∧ slN H1 ≤ slN s.heap + (120 * (pp16 - (pp + 1)) + 48) := ⟨by have := hf17_3.1; omega, by have := hf17_3.2; omega⟩
        obtain ⟨hPj, hDj⟩ := va_joinB (wr := [(ee, .inr (15, [.int 3, .int tx, .int gx, .int nx, .int 0, .int 0, .long 0, .int 0, .null, .null, .null, .int 0, .null, .null]))]) (w1 := [(m9, .inr (23, mA mr mv vf xl (nI zs) ff16 xa16 (nI T) (nI pp16) xi xt xn (nI (ns + 1)) (nI vv) (nI bb16))), (mr 5, .inl (kI, 3002, .inl fk)), (mr 6, .inl (kI, 3002, .inl fa)), (mr 8, .inl (kL, 3002, .inr (.inl fn)))]) hP hD [4, 3, 2, 1] [0] rfl rfl (by decide) (by decide) hk1 hFc hP1 hD1
        replace hP := hPj
        replace hD := hDj
        clear hPj hDj
        replace hK := hK.app hK1
        generalize H1 = H at hP hS hgz ⊢
        replace hP : va_P (dC, dI) vwCl (([(ee, .inr (15, [.int 3, .int tx, .int gx, .int nx, .int 0, .int 0, .long 0, .int 0, .null, .null, .null, .int 0, .null, .null])), (m9, .inr (23, mA mr mv vf xl (nI zs) ff16 xa16 (nI T) (nI pp16) xi xt xn (nI (ns + 1)) (nI vv) (nI bb16))), (mr 5, .inl (kI, 3002, .inl fk)), (mr 6, .inl (kI, 3002, .inl fa)), (mr 8, .inl (kL, 3002, .inr (.inl fn)))] : va_W) ++ (sT L16 F16)) H := hP
        replace hD : va_D A (([(ee, .inr (15, [.int 3, .int tx, .int gx, .int nx, .int 0, .int 0, .long 0, .int 0, .null, .null, .null, .int 0, .null, .null])), (m9, .inr (23, mA mr mv vf xl (nI zs) ff16 xa16 (nI T) (nI pp16) xi xt xn (nI (ns + 1)) (nI vv) (nI bb16))), (mr 5, .inl (kI, 3002, .inl fk)), (mr 6, .inl (kI, 3002, .inl fa)), (mr 8, .inl (kL, 3002, .inr (.inl fn)))] : va_W) ++ (sT L16 F16)) := hD
        replace hK : va_K (dC, dI) vwCl [(kI, .int), (kL, .long), (kE, .object RX15), (kI, .int), (kL, .long), (kE, .object RX15)] s := hK
        replace hK := hK.sub (tys' := [(kI, .int), (kL, .long), (kE, .object RX15)]) [0, 1, 2] rfl
        refine W.tight (k := 8 * (pp16 - (pp + 1)) + 3) (n := 120 * (pp16 - (pp + 1)) + 48) hgz.1 hgz.2 ?_
        clear hz1 hk1 hPc hDc hKc hFc hP1 hD1 hK1
        refine lv_iconst (v := 0) hx hb dX23_list_78 (by decide) ?_
        replace hPc := hP.subT (f' := [(ee, .inr (15, [.int 3, .int tx, .int gx, .int nx, .int 0, .int 0, .long 0, .int 0, .null, .null, .null, .int 0, .null, .null]))]) [0] rfl
        replace hDc := hD.subT (f' := [(ee, .inr (15, [.int 3, .int tx, .int gx, .int nx, .int 0, .int 0, .long 0, .int 0, .null, .null, .null, .int 0, .null, .null]))]) [0] (by decide) rfl
        replace hKc := hK.sub (tys' := [(kI, .int), (kE, .object RX15)]) [0, 2] rfl
        replace hFc := va_freeB (wc := [(ee, .inr (15, [.int 3, .int tx, .int gx, .int nx, .int 0, .int 0, .long 0, .int 0, .null, .null, .null, .int 0, .null, .null]))]) hD hS hA [0] rfl
        refine W.grow (fun hgs0 hgs1 => ?_)
        refine va_callv (va_runS (As := [.ref ee, .ref r_17, .int 0]) (rest := []) ⟨hx, hb, hml, hown, hts⟩ (c_xaN l dC dI ee r_17 3 tx gx nx 0 0 0 .null kI kE L16 F16 (slN H) H.size hf17_0.2) (va_cwS 3 hts g_c_xli3_c_xaN_79 rfl rfl rfl (by decide +kernel) ⟨by show 0 + 1 ≤ 2 + 12 * k; omega, by show 8 + (6 + 11) + (0) ≤ 43 + 279 * k; omega⟩) ⟨fun a U g mk q => by obtain ⟨q0, q1, qP, qK, qD, qx0, qx1⟩ := q; exact ⟨q0, q1, qP, va_K.moved (u := U) (U := U.calling g mk a) (Vm.Alike.refl U.vm) qK, qD, nsM.same (u := U) (U := U.calling g mk a) rfl qx0, qx1⟩, fun U hU hW => ⟨rfl, by rw [hU], by rw [hU]; exact hPc, va_K.moved hW.alike hKc, hDc.weaken (fun _ _ _ _ => trivial), nsM.warm hW hns, by rw [hU]⟩⟩ rfl rfl hl.1 rfl (lv_room (Nat.le_of_ble_eq_true rfl)) dX23_list_79 ⟨(show 8 * (pp16 - (pp + 1)) + 3 + 2 ≤ (8 * (T - pp) + 3) by omega), (show 120 * (pp16 - (pp + 1)) + 48 + 8 ≤ (120 * (T - pp) + 280) by omega)⟩) hS (fun q _ h => hFc q h) hFc (fun u tS H1 locs ht hvm hw hB hz1 hk1 hS => ?_)
        obtain ⟨la17, sa17, cp17, f17, g17, hf18_0, hf18_1, hf18_2, hP1, hK1, hD1⟩ := hB
        rw [ht] at hP1
        replace hK1 := va_K.moved hvm.symm hK1
        rw [ht] at hf18_2
        have hgz : H1.size ≤ s.heap.size + ((8 * (pp16 - (pp + 1)) + 3 + 2)) ∧ slN H1 ≤ slN s.heap + ((120 * (pp16 - (pp + 1)) + 48 + 8)) := ⟨by have := hf18_2.1; omega, by have := hf18_2.2; omega⟩
        obtain ⟨hPj, hDj⟩ := va_joinB (wr := [(m9, .inr (23, mA mr mv vf xl (nI zs) ff16 xa16 (nI T) (nI pp16) xi xt xn (nI (ns + 1)) (nI vv) (nI bb16))), (mr 5, .inl (kI, 3002, .inl fk)), (mr 6, .inl (kI, 3002, .inl fa)), (mr 8, .inl (kL, 3002, .inr (.inl fn)))]) (w1 := [(ee, .inr (15, [.int 3, .int tx, .int gx, .int nx, .int 0, .int 0, .long 0, .int 0, .null, .ref la17, .ref sa17, .int 1, .null, .null])), (la17, .inl (kE, cp17, .inr (.inr (.inr (.inr f17))))), (sa17, .inl (kI, cp17, .inl g17))]) hP hD [0] [1, 2, 3, 4] rfl rfl (by decide) (by decide) hk1 hFc hP1 hD1
        replace hP := hPj
        replace hD := hDj
        clear hPj hDj
        replace hK := hK.app hK1
        generalize H1 = H at hP hS hgz ⊢
        replace hP : va_P (dC, dI) vwCl (([(m9, .inr (23, mA mr mv vf xl (nI zs) ff16 xa16 (nI T) (nI pp16) xi xt xn (nI (ns + 1)) (nI vv) (nI bb16))), (mr 5, .inl (kI, 3002, .inl fk)), (mr 6, .inl (kI, 3002, .inl fa)), (mr 8, .inl (kL, 3002, .inr (.inl fn))), (ee, .inr (15, [.int 3, .int tx, .int gx, .int nx, .int 0, .int 0, .long 0, .int 0, .null, .ref la17, .ref sa17, .int 1, .null, .null])), (la17, .inl (kE, cp17, .inr (.inr (.inr (.inr f17))))), (sa17, .inl (kI, cp17, .inl g17))] : va_W) ++ (sT L16 F16)) H := hP
        replace hD : va_D A (([(m9, .inr (23, mA mr mv vf xl (nI zs) ff16 xa16 (nI T) (nI pp16) xi xt xn (nI (ns + 1)) (nI vv) (nI bb16))), (mr 5, .inl (kI, 3002, .inl fk)), (mr 6, .inl (kI, 3002, .inl fa)), (mr 8, .inl (kL, 3002, .inr (.inl fn))), (ee, .inr (15, [.int 3, .int tx, .int gx, .int nx, .int 0, .int 0, .long 0, .int 0, .null, .ref la17, .ref sa17, .int 1, .null, .null])), (la17, .inl (kE, cp17, .inr (.inr (.inr (.inr f17))))), (sa17, .inl (kI, cp17, .inl g17))] : va_W) ++ (sT L16 F16)) := hD
        replace hK : va_K (dC, dI) vwCl [(kI, .int), (kL, .long), (kE, .object RX15), (kI, .int), (kE, .object RX15)] s := hK
        replace hK := hK.sub (tys' := [(kI, .int), (kL, .long), (kE, .object RX15)]) [0, 1, 2] rfl
        refine W.tight (k := (8 * (pp16 - (pp + 1)) + 3 + 2)) (n := (120 * (pp16 - (pp + 1)) + 48 + 8)) hgz.1 hgz.2 ?_
        clear hz1 hk1 hPc hDc hKc hFc hP1 hD1 hK1
        subst hf18_0
        refine lv_aload_n hx hb dX23_list_82 rfl (lv_at hl 1 rfl) ?_
        refine lv_bipush (v := 57) hx hb dX23_list_83 (by decide) ?_
        by_cases hz_19 : ff16 = 0
        · subst hz_19
          have hg16 := hf17_2 rfl
          have hlthg16 := (isE_mem hg16.2).2
          by_cases hk_20 : fk pp16 = 57
          · replace hPc := hP.subF (f' := [(m9, .inr (23, mA mr mv vf xl (nI zs) 0 xa16 (nI T) (nI pp16) xi xt xn (nI (ns + 1)) (nI vv) (nI bb16))), (mr 5, .inl (kI, 3002, .inl fk))]) [0, 1] rfl
            replace hDc := hD.subF (f' := [(m9, .inr (23, mA mr mv vf xl (nI zs) 0 xa16 (nI T) (nI pp16) xi xt xn (nI (ns + 1)) (nI vv) (nI bb16))), (mr 5, .inl (kI, 3002, .inl fk))]) [0, 1] (by decide) rfl
            replace hKc := hK.sub (tys' := [(kI, .int)]) [0] rfl
            replace hFc := va_freeT (wc := [(m9, .inr (23, mA mr mv vf xl (nI zs) 0 xa16 (nI T) (nI pp16) xi xt xn (nI (ns + 1)) (nI vv) (nI bb16))), (mr 5, .inl (kI, 3002, .inl fk))]) hD hS hA [0, 1] rfl
            refine va_calli (va_runV (As := [.int 57]) (rest := []) ⟨hx, hb, hml, hown, hts⟩ (c_rtsY l dC dI m9 mr mv vf xl xa16 xi xt xn zs T pp16 (ns + 1) vv bb16 kI fk fa 57 H.size hT hf17_1.2.1 hk0 (by decide) hk_20) (cwV 1 hts g_c_xli3_c_rtsY_85 rfl rfl rfl (by decide +kernel) ⟨by show 1 + 1 ≤ 2 + 12 * k; omega, by show 8 + (2 + 11) + (21) ≤ 43 + 279 * k; omega⟩) ⟨fun a U g mk q => by obtain ⟨q0, q1, qP, qK, qD⟩ := q; exact ⟨q0, q1, qP, va_K.moved (u := U) (U := U.calling g mk a) (Vm.Alike.refl U.vm) qK, qD⟩, va_recv hKc hPc (ci := 23) (q0 := 0) rfl rfl, fun U hU hW => ⟨rfl, by rw [hU], by rw [hU]; exact hPc, va_K.moved hW.alike hKc, hDc.weaken (fun _ _ _ _ => trivial)⟩⟩ rfl rfl hl.1 rfl (lv_room (Nat.le_of_ble_eq_true rfl)) dX23_list_85 ⟨(show (8 * (pp16 - (pp + 1)) + 3 + 2) + 0 ≤ (8 * (T - pp) + 3) by omega), (show (120 * (pp16 - (pp + 1)) + 48 + 8) + 0 ≤ (120 * (T - pp) + 280) by omega)⟩) hS (fun q _ h => hFc q h) hFc (fun r_21 u tS H1 locs ht hvm hw hB hz1 hk1 hS => ?_)
            obtain ⟨hP1, hK1, hD1⟩ := hB
            rw [ht] at hP1
            replace hK1 := va_K.moved hvm.symm hK1
            obtain ⟨hPj, hDj⟩ := va_joinT (wr := [(mr 6, .inl (kI, 3002, .inl fa)), (mr 8, .inl (kL, 3002, .inr (.inl fn))), (ee, .inr (15, [.int 3, .int tx, .int gx, .int nx, .int 0, .int 0, .long 0, .int 0, .null, .ref la17, .ref sa17, .int 1, .null, .null])), (la17, .inl (kE, 4, .inr (.inr (.inr (.inr f17))))), (sa17, .inl (kI, 4, .inl g17))]) (w1 := [(m9, .inr (23, mA mr mv vf xl (nI zs) 0 xa16 (nI T) (nI (pp16 + 1)) xi xt xn (nI (ns + 1)) (nI vv) (nI bb16))), (mr 5, .inl (kI, 3002, .inl fk))]) hP hD [0, 1] [2, 3, 4, 5, 6] rfl rfl (by decide) (by decide) hk1 hFc hP1 hD1
            replace hP := hPj
            replace hD := hDj
            clear hPj hDj
            replace hK := hK.app hK1
            generalize H1 = H at hP hS ⊢
            replace hP : va_P (dC, dI) vwCl (([(mr 6, .inl (kI, 3002, .inl fa)), (mr 8, .inl (kL, 3002, .inr (.inl fn))), (ee, .inr (15, [.int 3, .int tx, .int gx, .int nx, .int 0, .int 0, .long 0, .int 0, .null, .ref la17, .ref sa17, .int 1, .null, .null])), (la17, .inl (kE, 4, .inr (.inr (.inr (.inr f17))))), (sa17, .inl (kI, 4, .inl g17)), (m9, .inr (23, mA mr mv vf xl (nI zs) 0 xa16 (nI T) (nI (pp16 + 1)) xi xt xn (nI (ns + 1)) (nI vv) (nI bb16))), (mr 5, .inl (kI, 3002, .inl fk))] : va_W) ++ (sT L16 F16)) H := hP
            replace hD : va_D A (([(mr 6, .inl (kI, 3002, .inl fa)), (mr 8, .inl (kL, 3002, .inr (.inl fn))), (ee, .inr (15, [.int 3, .int tx, .int gx, .int nx, .int 0, .int 0, .long 0, .int 0, .null, .ref la17, .ref sa17, .int 1, .null, .null])), (la17, .inl (kE, 4, .inr (.inr (.inr (.inr f17))))), (sa17, .inl (kI, 4, .inl g17)), (m9, .inr (23, mA mr mv vf xl (nI zs) 0 xa16 (nI T) (nI (pp16 + 1)) xi xt xn (nI (ns + 1)) (nI vv) (nI bb16))), (mr 5, .inl (kI, 3002, .inl fk))] : va_W) ++ (sT L16 F16)) := hD
            replace hK : va_K (dC, dI) vwCl [(kI, .int), (kL, .long), (kE, .object RX15), (kI, .int)] s := hK
            replace hK := hK.sub (tys' := [(kI, .int), (kL, .long), (kE, .object RX15)]) [0, 1, 2] rfl
            clear hz1 hk1 hPc hDc hKc hFc hP1 hD1 hK1
            obtain rfl : r_21 = 1 := hw
            have hp_22 : pp16 + 1 < T := kne3 hk0 hf17_1.2.1 hk_20 (by decide)
            refine lv_istore_n (lv' := [(2, .int 1), (0, .ref m9), (1, .ref ee)]) hx hb dX23_list_88 rfl hl (by decide) rfl (fun ls hl => ?_)
            refine lv_goto (tgt := 62) hx hb dX23_list_89 (by decide) ?_
            refine W_q (fun Q1 hQ1 => ?_)
            have key1 : ∀ (n1 : Nat) (pp1 bb1 la sa cp n cm : Nat) (ff1 xa1 mo : Int32) (L1 : List Nat) (F1 : Nat → va_E) (f : Nat → Option Nat) (g : Nat → Int32) (H : Heap) (locs : List Loc) (ls : Array Slot), (1 ≤ n1 ∧ pp ≤ pp1 ∧ pp1 < T ∧ bb ≤ bb1 ∧ bb1 ≤ bb + (pp1 - pp) ∧ 1 ≤ n ∧ n ≤ cp ∧ 4 ≤ cp ∧ cp ≤ 4 + 2 * n ∧ pp + n + cm ≤ pp1 ∧ cm ≤ 1 ∧ T ≤ 3001) → (ff1 ≠ 0 ∨ T + 1 ≤ pp1 + n1) → (exS L F L1 F1) → (∀ i : Nat, i < n → ∃ x : Nat, f i = some x ∧ xO L1 F1 x) → (ff1 = 0 → bb1 ≤ 54 ∧ ∃ q0 : Nat, chP 0 (isE L1 F1 kE kI (24 * k)) f g n pp q0 bb bb1 ∧ ((mo = 0 ∧ cm = 0 ∧ q0 ≤ pp1) ∨ (mo ≠ 0 ∧ cm = 1 ∧ q0 < pp1))) → va_P (dC, dI) vwCl (([(ee, .inr (15, [.int 3, .int tx, .int gx, .int nx, .int 0, .int 0, .long 0, .int 0, .null, .ref la, .ref sa, .int (nI n), .null, .null])), (la, .inl (kE, cp, .inr (.inr (.inr (.inr f))))), (sa, .inl (kI, cp, .inl g)), (m9, .inr (23, mA mr mv vf xl (nI zs) ff1 xa1 (nI T) (nI pp1) xi xt xn (nI (ns + 1)) (nI vv) (nI bb1))), (mr 5, .inl (kI, 3002, .inl fk)), (mr 6, .inl (kI, 3002, .inl fa)), (mr 8, .inl (kL, 3002, .inr (.inl fn)))] : va_W) ++ (sT L1 F1)) H → va_D A (([(ee, .inr (15, [.int 3, .int tx, .int gx, .int nx, .int 0, .int 0, .long 0, .int 0, .null, .ref la, .ref sa, .int (nI n), .null, .null])), (la, .inl (kE, cp, .inr (.inr (.inr (.inr f))))), (sa, .inl (kI, cp, .inl g)), (m9, .inr (23, mA mr mv vf xl (nI zs) ff1 xa1 (nI T) (nI pp1) xi xt xn (nI (ns + 1)) (nI vv) (nI bb1))), (mr 5, .inl (kI, 3002, .inl fk)), (mr 6, .inl (kI, 3002, .inl fa)), (mr 8, .inl (kL, 3002, .inr (.inl fn)))] : va_W) ++ (sT L1 F1)) → va_S A s.heap H locs → lv_has ls 3 [(2, .int mo), (0, .ref m9), (1, .ref ee)] → W p l e (headSpec wp_c_xli3 ({ frames := 2 + 12 * k, cells := (8 * (T - pp) + 3), slots := (120 * (T - pp) + 280), locals := 43 + 279 * k })).room s m ([.ref m9, .ref ee] : List Value).toArray below meth c H locs (8 * (pp1 - pp) - 3 * n - 8 * cm) (120 * (pp1 - pp) + 4 * cp + 8 - 64 * n - 120 * cm) Q1 (F0 m 62 ls []) := by
              intro n1
              induction n1 with
              | zero => intro pp1 bb1 la sa cp n cm ff1 xa1 mo L1 F1 f g H locs ls hr0 hr1 hr2 hr3 hr4; exact absurd hr0 (by omega)
              | succ n1 ih1 =>
                intro pp1 bb1 la sa cp n cm ff1 xa1 mo L1 F1 f g H locs ls hr0 hr1 hr2 hr3 hr4 hP hD hS hl
                refine lv_aload_n hx hb dX23_list_62 rfl (lv_at hl 1 rfl) ?_
                by_cases hz_23 : ff1 = 0
                · subst hz_23
                  have hr9 := hr4 rfl
                  replace hPc := hP.subF (f' := [(m9, .inr (23, mA mr mv vf xl (nI zs) 0 xa1 (nI T) (nI pp1) xi xt xn (nI (ns + 1)) (nI vv) (nI bb1)))]) [3] rfl
                  replace hDc := hD.subF (f' := [(m9, .inr (23, mA mr mv vf xl (nI zs) 0 xa1 (nI T) (nI pp1) xi xt xn (nI (ns + 1)) (nI vv) (nI bb1)))]) [3] (by decide) rfl
                  replace hKc := hK.sub (tys' := []) [] rfl
                  replace hFc := va_freeT (wc := [(m9, .inr (23, mA mr mv vf xl (nI zs) 0 xa1 (nI T) (nI pp1) xi xt xn (nI (ns + 1)) (nI vv) (nI bb1)))]) hD hS hA [3] rfl
                  refine va_calli (va_runV (As := []) (rest := []) ⟨hx, hb, hml, hown, hts⟩ (c_rok0 l dC dI m9 mr mv vf xl xa1 xi xt xn zs T pp1 (ns + 1) vv bb1 kI fk fa H.size) (cwV 0 hts g_c_xli3_c_rok0_63 rfl rfl rfl (by decide +kernel) ⟨by show 0 + 1 ≤ 2 + 12 * k; omega, by show 8 + (1 + 11) + (0) ≤ 43 + 279 * k; omega⟩) ⟨fun a U g mk q => by obtain ⟨q0, q1, qP, qK, qD⟩ := q; exact ⟨q0, q1, qP, va_K.moved (u := U) (U := U.calling g mk a) (Vm.Alike.refl U.vm) qK, qD⟩, va_recv hKc hPc (ci := 23) (q0 := 0) rfl rfl, fun U hU hW => ⟨rfl, by rw [hU], by rw [hU]; exact hPc, va_K.moved hW.alike hKc, hDc.weaken (fun _ _ _ _ => trivial)⟩⟩ rfl rfl hl.1 rfl (lv_room (Nat.le_of_ble_eq_true rfl)) dX23_list_63 ⟨(show (8 * (pp1 - pp) - 3 * n - 8 * cm) + 0 ≤ (8 * (T - pp) + 3) by omega), (show (120 * (pp1 - pp) + 4 * cp + 8 - 64 * n - 120 * cm) + 0 ≤ (120 * (T - pp) + 280) by omega)⟩) hS (fun q _ h => hFc q h) hFc (fun r_24 u tS H1 locs ht hvm hw hB hz1 hk1 hS => ?_)
                  obtain ⟨hP1, hK1, hD1⟩ := hB
                  rw [ht] at hP1
                  replace hK1 := va_K.moved hvm.symm hK1
                  obtain ⟨hPj, hDj⟩ := va_joinT (wr := [(ee, .inr (15, [.int 3, .int tx, .int gx, .int nx, .int 0, .int 0, .long 0, .int 0, .null, .ref la, .ref sa, .int (nI n), .null, .null])), (la, .inl (kE, cp, .inr (.inr (.inr (.inr f))))), (sa, .inl (kI, cp, .inl g)), (mr 5, .inl (kI, 3002, .inl fk)), (mr 6, .inl (kI, 3002, .inl fa)), (mr 8, .inl (kL, 3002, .inr (.inl fn)))]) (w1 := [(m9, .inr (23, mA mr mv vf xl (nI zs) 0 xa1 (nI T) (nI pp1) xi xt xn (nI (ns + 1)) (nI vv) (nI bb1)))]) hP hD [3] [0, 1, 2, 4, 5, 6] rfl rfl (by decide) (by decide) hk1 hFc hP1 hD1
                  replace hP := hPj
                  replace hD := hDj
                  clear hPj hDj
                  generalize H1 = H at hP hS ⊢
                  replace hP : va_P (dC, dI) vwCl (([(ee, .inr (15, [.int 3, .int tx, .int gx, .int nx, .int 0, .int 0, .long 0, .int 0, .null, .ref la, .ref sa, .int (nI n), .null, .null])), (la, .inl (kE, cp, .inr (.inr (.inr (.inr f))))), (sa, .inl (kI, cp, .inl g)), (mr 5, .inl (kI, 3002, .inl fk)), (mr 6, .inl (kI, 3002, .inl fa)), (mr 8, .inl (kL, 3002, .inr (.inl fn))), (m9, .inr (23, mA mr mv vf xl (nI zs) 0 xa1 (nI T) (nI pp1) xi xt xn (nI (ns + 1)) (nI vv) (nI bb1)))] : va_W) ++ (sT L1 F1)) H := hP
                  replace hD : va_D A (([(ee, .inr (15, [.int 3, .int tx, .int gx, .int nx, .int 0, .int 0, .long 0, .int 0, .null, .ref la, .ref sa, .int (nI n), .null, .null])), (la, .inl (kE, cp, .inr (.inr (.inr (.inr f))))), (sa, .inl (kI, cp, .inl g)), (mr 5, .inl (kI, 3002, .inl fk)), (mr 6, .inl (kI, 3002, .inl fa)), (mr 8, .inl (kL, 3002, .inr (.inl fn))), (m9, .inr (23, mA mr mv vf xl (nI zs) 0 xa1 (nI T) (nI pp1) xi xt xn (nI (ns + 1)) (nI vv) (nI bb1)))] : va_W) ++ (sT L1 F1)) := hD
                  replace hK : va_K (dC, dI) vwCl [(kI, .int), (kL, .long), (kE, .object RX15)] s := hK
                  clear hz1 hk1 hPc hDc hKc hFc hP1 hD1 hK1
                  obtain rfl : r_24 = 1 := hw
                  refine lv_if_eq (tgt := 92) hx hb dX23_list_66 (by decide) (fun c_25 => absurd c_25 (by decide)) (fun _ => ?_)
                  refine lv_iload_n hx hb dX23_list_69 rfl (lv_at hl 0 rfl) ?_
                  refine lv_if_eq (tgt := 92) hx hb dX23_list_70 (by decide) (fun hm_26 => ?_) (fun hm_26 => ?_)
                  · obtain ⟨q0, hr5, hr6⟩ := hr9.2
                    replace hr6 : q0 ≤ pp1 := by omega
                    refine lv_aload_n hx hb dX23_list_92 rfl (lv_at hl 1 rfl) ?_
                    refine lv_dup hx hb dX23_list_93 rfl ?_
                    refine va_get (D := (dC, dI)) (ci := 23) (v := .int (nI (ns + 1))) (C := RX23) (T := TX23) (N := 89) hx hb hts in_c_xli3_X23 hown hK hP 6 rfl rfl 15 (by decide) (hts (.fieldLink RX23 104 "OwnedPlacesModel" "nest" "I") (wm_c_xli3 14 rfl)) (fun _ h9 => h9) rfl dX23_list_94 ?_
                    refine lv_iconst (v := 1) hx hb dX23_list_97 (by decide) ?_
                    refine lv_isub hx hb dX23_list_98 ?_
                    refine lv_topi (fun f_27 ef_27 => ?_)
                    obtain rfl : f_27 = nI ns := ef_27.trans (nI_pred _)
                    refine va_put (D := (dC, dI)) (ci := 23) (v := .int (nI ns)) (ty := .int) (C := RX23) (T := TX23) (N := 89) hx hb hts in_c_xli3_X23 tyX23 tyX23_ok nmX23 hown hK hP hD hS 6 rfl rfl 15 (by decide) (hts (.fieldLink RX23 104 "OwnedPlacesModel" "nest" "I") (wm_c_xli3 14 rfl)) (fun _ h9 => h9) rfl (by decide +kernel) rfl rfl (Nat.le_of_ble_eq_true rfl) dX23_list_99 (fun H locs hP hD hS => ?_)
                    replace hP : va_P (dC, dI) vwCl (([(ee, .inr (15, [.int 3, .int tx, .int gx, .int nx, .int 0, .int 0, .long 0, .int 0, .null, .ref la, .ref sa, .int (nI n), .null, .null])), (la, .inl (kE, cp, .inr (.inr (.inr (.inr f))))), (sa, .inl (kI, cp, .inl g)), (mr 5, .inl (kI, 3002, .inl fk)), (mr 6, .inl (kI, 3002, .inl fa)), (mr 8, .inl (kL, 3002, .inr (.inl fn))), (m9, .inr (23, mA mr mv vf xl (nI zs) 0 xa1 (nI T) (nI pp1) xi xt xn (nI ns) (nI vv) (nI bb1)))] : va_W) ++ (sT L1 F1)) H := hP
                    replace hD : va_D A (([(ee, .inr (15, [.int 3, .int tx, .int gx, .int nx, .int 0, .int 0, .long 0, .int 0, .null, .ref la, .ref sa, .int (nI n), .null, .null])), (la, .inl (kE, cp, .inr (.inr (.inr (.inr f))))), (sa, .inl (kI, cp, .inl g)), (mr 5, .inl (kI, 3002, .inl fk)), (mr 6, .inl (kI, 3002, .inl fa)), (mr 8, .inl (kL, 3002, .inr (.inl fn))), (m9, .inr (23, mA mr mv vf xl (nI zs) 0 xa1 (nI T) (nI pp1) xi xt xn (nI ns) (nI vv) (nI bb1)))] : va_W) ++ (sT L1 F1)) := hD
                    refine lv_aload_n hx hb dX23_list_102 rfl (lv_at hl 1 rfl) ?_
                    refine lv_bipush (v := 62) hx hb dX23_list_103 (by decide) ?_
                    by_cases hk_28 : fk pp1 = 62
                    · replace hPc := hP.subF (f' := [(m9, .inr (23, mA mr mv vf xl (nI zs) 0 xa1 (nI T) (nI pp1) xi xt xn (nI ns) (nI vv) (nI bb1))), (mr 5, .inl (kI, 3002, .inl fk)), (mr 6, .inl (kI, 3002, .inl fa))]) [6, 3, 4] rfl
                      replace hDc := hD.subF (f' := [(m9, .inr (23, mA mr mv vf xl (nI zs) 0 xa1 (nI T) (nI pp1) xi xt xn (nI ns) (nI vv) (nI bb1))), (mr 5, .inl (kI, 3002, .inl fk)), (mr 6, .inl (kI, 3002, .inl fa))]) [6, 3, 4] (by decide) rfl
                      replace hKc := hK.sub (tys' := [(kI, .int)]) [0] rfl
                      replace hFc := va_freeT (wc := [(m9, .inr (23, mA mr mv vf xl (nI zs) 0 xa1 (nI T) (nI pp1) xi xt xn (nI ns) (nI vv) (nI bb1))), (mr 5, .inl (kI, 3002, .inl fk)), (mr 6, .inl (kI, 3002, .inl fa))]) hD hS hA [6, 3, 4] rfl
                      refine va_callv (va_runV (As := [.int 62]) (rest := []) ⟨hx, hb, hml, hown, hts⟩ (c_rtkY l dC dI m9 mr mv vf xl xa1 xi xt xn zs T pp1 ns vv bb1 kI fk fa 62 H.size hT hr0.2.2.1 hk0 (by decide) hk_28) (cwV 1 hts g_c_xli3_c_rtkY_105 rfl rfl rfl (by decide +kernel) ⟨by show 1 + 1 ≤ 2 + 12 * k; omega, by show 8 + (2 + 11) + (21) ≤ 43 + 279 * k; omega⟩) ⟨fun a U g mk q => by obtain ⟨q0, q1, qP, qK, qD⟩ := q; exact ⟨q0, q1, qP, va_K.moved (u := U) (U := U.calling g mk a) (Vm.Alike.refl U.vm) qK, qD⟩, va_recv hKc hPc (ci := 23) (q0 := 0) rfl rfl, fun U hU hW => ⟨rfl, by rw [hU], by rw [hU]; exact hPc, va_K.moved hW.alike hKc, hDc.weaken (fun _ _ _ _ => trivial)⟩⟩ rfl rfl hl.1 rfl (lv_room (Nat.le_of_ble_eq_true rfl)) dX23_list_105 ⟨(show (8 * (pp1 - pp) - 3 * n - 8 * cm) + 0 ≤ (8 * (T - pp) + 3) by omega), (show (120 * (pp1 - pp) + 4 * cp + 8 - 64 * n - 120 * cm) + 0 ≤ (120 * (T - pp) + 280) by omega)⟩) hS (fun q _ h => hFc q h) hFc (fun u tS H1 locs ht hvm hw hB hz1 hk1 hS => ?_)
                      obtain ⟨hP1, hK1, hD1⟩ := hB
                      rw [ht] at hP1
                      replace hK1 := va_K.moved hvm.symm hK1
                      obtain ⟨hPj, hDj⟩ := va_joinT (wr := [(ee, .inr (15, [.int 3, .int tx, .int gx, .int nx, .int 0, .int 0, .long 0, .int 0, .null, .ref la, .ref sa, .int (nI n), .null, .null])), (la, .inl (kE, cp, .inr (.inr (.inr (.inr f))))), (sa, .inl (kI, cp, .inl g)), (mr 8, .inl (kL, 3002, .inr (.inl fn)))]) (w1 := [(m9, .inr (23, mA mr mv vf xl (nI zs) 0 xa1 (nI T) (nI (pp1 + 1)) xi xt xn (nI ns) (nI vv) (nI bb1))), (mr 5, .inl (kI, 3002, .inl fk)), (mr 6, .inl (kI, 3002, .inl fa))]) hP hD [6, 3, 4] [0, 1, 2, 5] rfl rfl (by decide) (by decide) hk1 hFc hP1 hD1
                      replace hP := hPj
                      replace hD := hDj
                      clear hPj hDj
                      replace hK := hK.app hK1
                      generalize H1 = H at hP hS ⊢
                      replace hP : va_P (dC, dI) vwCl (([(ee, .inr (15, [.int 3, .int tx, .int gx, .int nx, .int 0, .int 0, .long 0, .int 0, .null, .ref la, .ref sa, .int (nI n), .null, .null])), (la, .inl (kE, cp, .inr (.inr (.inr (.inr f))))), (sa, .inl (kI, cp, .inl g)), (mr 8, .inl (kL, 3002, .inr (.inl fn))), (m9, .inr (23, mA mr mv vf xl (nI zs) 0 xa1 (nI T) (nI (pp1 + 1)) xi xt xn (nI ns) (nI vv) (nI bb1))), (mr 5, .inl (kI, 3002, .inl fk)), (mr 6, .inl (kI, 3002, .inl fa))] : va_W) ++ (sT L1 F1)) H := hP
                      replace hD : va_D A (([(ee, .inr (15, [.int 3, .int tx, .int gx, .int nx, .int 0, .int 0, .long 0, .int 0, .null, .ref la, .ref sa, .int (nI n), .null, .null])), (la, .inl (kE, cp, .inr (.inr (.inr (.inr f))))), (sa, .inl (kI, cp, .inl g)), (mr 8, .inl (kL, 3002, .inr (.inl fn))), (m9, .inr (23, mA mr mv vf xl (nI zs) 0 xa1 (nI T) (nI (pp1 + 1)) xi xt xn (nI ns) (nI vv) (nI bb1))), (mr 5, .inl (kI, 3002, .inl fk)), (mr 6, .inl (kI, 3002, .inl fa))] : va_W) ++ (sT L1 F1)) := hD
                      replace hK : va_K (dC, dI) vwCl [(kI, .int), (kL, .long), (kE, .object RX15), (kI, .int)] s := hK
                      replace hK := hK.sub (tys' := [(kI, .int), (kL, .long), (kE, .object RX15)]) [0, 1, 2] rfl
                      clear hz1 hk1 hPc hDc hKc hFc hP1 hD1 hK1
                      have hp_30 : pp1 + 1 < T := kne3 hk0 hr0.2.2.1 hk_28 (by decide)
                      replace hP : va_P (dC, dI) vwCl ((([(ee, .inr (15, [.int 3, .int tx, .int gx, .int nx, .int 0, .int 0, .long 0, .int 0, .null, .ref la, .ref sa, .int (nI n), .null, .null])), (mr 8, .inl (kL, 3002, .inr (.inl fn))), (m9, .inr (23, mA mr mv vf xl (nI zs) 0 xa1 (nI T) (nI (pp1 + 1)) xi xt xn (nI ns) (nI vv) (nI bb1))), (mr 5, .inl (kI, 3002, .inl fk)), (mr 6, .inl (kI, 3002, .inl fa))] : va_W) ++ ([(la, .inl (kE, cp, .inr (.inr (.inr (.inr f))))), (sa, .inl (kI, cp, .inl g))] : va_W)) ++ sT L1 F1) H := hP.subT (f' := [(ee, .inr (15, [.int 3, .int tx, .int gx, .int nx, .int 0, .int 0, .long 0, .int 0, .null, .ref la, .ref sa, .int (nI n), .null, .null])), (mr 8, .inl (kL, 3002, .inr (.inl fn))), (m9, .inr (23, mA mr mv vf xl (nI zs) 0 xa1 (nI T) (nI (pp1 + 1)) xi xt xn (nI ns) (nI vv) (nI bb1))), (mr 5, .inl (kI, 3002, .inl fk)), (mr 6, .inl (kI, 3002, .inl fa)), (la, .inl (kE, cp, .inr (.inr (.inr (.inr f))))), (sa, .inl (kI, cp, .inl g))]) [0, 3, 4, 5, 6, 1, 2] rfl
                      replace hD : va_D A ((([(ee, .inr (15, [.int 3, .int tx, .int gx, .int nx, .int 0, .int 0, .long 0, .int 0, .null, .ref la, .ref sa, .int (nI n), .null, .null])), (mr 8, .inl (kL, 3002, .inr (.inl fn))), (m9, .inr (23, mA mr mv vf xl (nI zs) 0 xa1 (nI T) (nI (pp1 + 1)) xi xt xn (nI ns) (nI vv) (nI bb1))), (mr 5, .inl (kI, 3002, .inl fk)), (mr 6, .inl (kI, 3002, .inl fa))] : va_W) ++ ([(la, .inl (kE, cp, .inr (.inr (.inr (.inr f))))), (sa, .inl (kI, cp, .inl g))] : va_W)) ++ sT L1 F1) := hD.subT (f' := [(ee, .inr (15, [.int 3, .int tx, .int gx, .int nx, .int 0, .int 0, .long 0, .int 0, .null, .ref la, .ref sa, .int (nI n), .null, .null])), (mr 8, .inl (kL, 3002, .inr (.inl fn))), (m9, .inr (23, mA mr mv vf xl (nI zs) 0 xa1 (nI T) (nI (pp1 + 1)) xi xt xn (nI ns) (nI vv) (nI bb1))), (mr 5, .inl (kI, 3002, .inl fk)), (mr 6, .inl (kI, 3002, .inl fa)), (la, .inl (kE, cp, .inr (.inr (.inr (.inr f))))), (sa, .inl (kI, cp, .inl g))]) [0, 3, 4, 5, 6, 1, 2] (by decide) rfl
                      obtain ⟨L9, F9, hx9, hm9, hP, hD⟩ := st_fileL [(la, .inl (kE, cp, .inr (.inr (.inr (.inr f))))), (sa, .inl (kI, cp, .inl g))] hP hD
                      have hm9_0 := hm9 _ (List.mem_of_getElem? (i := 0) rfl)
                      have hm9_1 := hm9 _ (List.mem_of_getElem? (i := 1) rfl)
                      refine W.grow (fun hgs0 hgs1 => ?_)
                      have hP9 := hP.subT (f' := [(ee, .inr (15, [.int 3, .int tx, .int gx, .int nx, .int 0, .int 0, .long 0, .int 0, .null, (.ref la), (.ref sa), .int (nI n), .null, .null])), (m9, .inr (23, mA mr mv vf xl (nI zs) 0 xa1 (nI T) (nI (pp1 + 1)) xi xt xn (nI ns) (nI vv) (nI bb1))), (mr 5, .inl (kI, 3002, .inl fk)), (mr 6, .inl (kI, 3002, .inl fa)), (mr 8, .inl (kL, 3002, .inr (.inl fn)))]) [0, 2, 3, 4, 1] rfl
                      have hD9 := hD.subT (f' := [(ee, .inr (15, [.int 3, .int tx, .int gx, .int nx, .int 0, .int 0, .long 0, .int 0, .null, (.ref la), (.ref sa), .int (nI n), .null, .null])), (m9, .inr (23, mA mr mv vf xl (nI zs) 0 xa1 (nI T) (nI (pp1 + 1)) xi xt xn (nI ns) (nI vv) (nI bb1))), (mr 5, .inl (kI, 3002, .inl fk)), (mr 6, .inl (kI, 3002, .inl fa)), (mr 8, .inl (kL, 3002, .inr (.inl fn)))]) [0, 2, 3, 4, 1] (by decide) rfl
                      have hK9 := hK.sub (tys' := [(kI, .int), (kL, .long), (kE, .object RX15)]) [0, 1, 2] rfl
                      refine W.widen (k := (8 * (T - pp) + 3)) (n := (120 * (T - pp) + 280)) (by omega) (by omega) ?_
                      subst hQ1
                      exact W.vret hx hb hr (fun tS ht hW => ⟨⟨(), rfl, trivial, L9, F9, 0, xa1, pp1 + 1, bb1, .ref la, .ref sa, n, (hr2).tr hx9, ⟨by omega, by omega, by omega, by omega⟩, (fun _ => ⟨hr9.1, by omega, Or.inr ⟨la, sa, cp, q0, f, g, rfl, rfl, hm9_0.1, hm9_1.1, hm9_0.2, hm9_1.2, by omega, by omega, chP_im (fun x p q b c z => isE_im hx9 _ (Nat.le_refl _) z) hr5⟩⟩), by rw [ht]; exact ⟨by omega, by omega⟩, by rw [ht]; exact hP9, va_K.moved hW.alike hK9, hD9⟩, hS.F ht⟩) hS.2.2 dX23_list_108
                    · replace hPc := hP.subF (f' := [(m9, .inr (23, mA mr mv vf xl (nI zs) 0 xa1 (nI T) (nI pp1) xi xt xn (nI ns) (nI vv) (nI bb1))), (mr 5, .inl (kI, 3002, .inl fk)), (mr 6, .inl (kI, 3002, .inl fa))]) [6, 3, 4] rfl
                      replace hDc := hD.subF (f' := [(m9, .inr (23, mA mr mv vf xl (nI zs) 0 xa1 (nI T) (nI pp1) xi xt xn (nI ns) (nI vv) (nI bb1))), (mr 5, .inl (kI, 3002, .inl fk)), (mr 6, .inl (kI, 3002, .inl fa))]) [6, 3, 4] (by decide) rfl
                      replace hKc := hK.sub (tys' := [(kI, .int)]) [0] rfl
                      replace hFc := va_freeT (wc := [(m9, .inr (23, mA mr mv vf xl (nI zs) 0 xa1 (nI T) (nI pp1) xi xt xn (nI ns) (nI vv) (nI bb1))), (mr 5, .inl (kI, 3002, .inl fk)), (mr 6, .inl (kI, 3002, .inl fa))]) hD hS hA [6, 3, 4] rfl
                      refine va_callv (va_runV (As := [.int 62]) (rest := []) ⟨hx, hb, hml, hown, hts⟩ (c_rtkN l dC dI m9 mr mv vf xl xa1 xi xt xn zs T pp1 ns vv bb1 kI fk fa 62 H.size hT hr0.2.2.1 hk0 (by decide) hk_28) (cwV 1 hts g_c_xli3_c_rtkN_105 rfl rfl rfl (by decide +kernel) ⟨by show 1 + 1 ≤ 2 + 12 * k; omega, by show 8 + (2 + 11) + (22) ≤ 43 + 279 * k; omega⟩) ⟨fun a U g mk q => by obtain ⟨q0, q1, qP, qK, qD⟩ := q; exact ⟨q0, q1, qP, va_K.moved (u := U) (U := U.calling g mk a) (Vm.Alike.refl U.vm) qK, qD⟩, va_recv hKc hPc (ci := 23) (q0 := 0) rfl rfl, fun U hU hW => ⟨rfl, by rw [hU], by rw [hU]; exact hPc, va_K.moved hW.alike hKc, hDc.weaken (fun _ _ _ _ => trivial)⟩⟩ rfl rfl hl.1 rfl (lv_room (Nat.le_of_ble_eq_true rfl)) dX23_list_105 ⟨(show (8 * (pp1 - pp) - 3 * n - 8 * cm) + 0 ≤ (8 * (T - pp) + 3) by omega), (show (120 * (pp1 - pp) + 4 * cp + 8 - 64 * n - 120 * cm) + 0 ≤ (120 * (T - pp) + 280) by omega)⟩) hS (fun q _ h => hFc q h) hFc (fun u tS H1 locs ht hvm hw hB hz1 hk1 hS => ?_)
                      obtain ⟨ff_29, xa_30, hf31_0, hP1, hK1, hD1⟩ := hB
                      rw [ht] at hP1
                      replace hK1 := va_K.moved hvm.symm hK1
                      obtain ⟨hPj, hDj⟩ := va_joinT (wr := [(ee, .inr (15, [.int 3, .int tx, .int gx, .int nx, .int 0, .int 0, .long 0, .int 0, .null, .ref la, .ref sa, .int (nI n), .null, .null])), (la, .inl (kE, cp, .inr (.inr (.inr (.inr f))))), (sa, .inl (kI, cp, .inl g)), (mr 8, .inl (kL, 3002, .inr (.inl fn)))]) (w1 := [(m9, .inr (23, mA mr mv vf xl (nI zs) ff_29 xa_30 (nI T) (nI pp1) xi xt xn (nI ns) (nI vv) (nI bb1))), (mr 5, .inl (kI, 3002, .inl fk)), (mr 6, .inl (kI, 3002, .inl fa))]) hP hD [6, 3, 4] [0, 1, 2, 5] rfl rfl (by decide) (by decide) hk1 hFc hP1 hD1
                      replace hP := hPj
                      replace hD := hDj
                      clear hPj hDj
                      replace hK := hK.app hK1
                      generalize H1 = H at hP hS ⊢
                      replace hP : va_P (dC, dI) vwCl (([(ee, .inr (15, [.int 3, .int tx, .int gx, .int nx, .int 0, .int 0, .long 0, .int 0, .null, .ref la, .ref sa, .int (nI n), .null, .null])), (la, .inl (kE, cp, .inr (.inr (.inr (.inr f))))), (sa, .inl (kI, cp, .inl g)), (mr 8, .inl (kL, 3002, .inr (.inl fn))), (m9, .inr (23, mA mr mv vf xl (nI zs) ff_29 xa_30 (nI T) (nI pp1) xi xt xn (nI ns) (nI vv) (nI bb1))), (mr 5, .inl (kI, 3002, .inl fk)), (mr 6, .inl (kI, 3002, .inl fa))] : va_W) ++ (sT L1 F1)) H := hP
                      replace hD : va_D A (([(ee, .inr (15, [.int 3, .int tx, .int gx, .int nx, .int 0, .int 0, .long 0, .int 0, .null, .ref la, .ref sa, .int (nI n), .null, .null])), (la, .inl (kE, cp, .inr (.inr (.inr (.inr f))))), (sa, .inl (kI, cp, .inl g)), (mr 8, .inl (kL, 3002, .inr (.inl fn))), (m9, .inr (23, mA mr mv vf xl (nI zs) ff_29 xa_30 (nI T) (nI pp1) xi xt xn (nI ns) (nI vv) (nI bb1))), (mr 5, .inl (kI, 3002, .inl fk)), (mr 6, .inl (kI, 3002, .inl fa))] : va_W) ++ (sT L1 F1)) := hD
                      replace hK : va_K (dC, dI) vwCl [(kI, .int), (kL, .long), (kE, .object RX15), (kI, .int)] s := hK
                      replace hK := hK.sub (tys' := [(kI, .int), (kL, .long), (kE, .object RX15)]) [0, 1, 2] rfl
                      clear hz1 hk1 hPc hDc hKc hFc hP1 hD1 hK1
                      replace hP : va_P (dC, dI) vwCl ((([(ee, .inr (15, [.int 3, .int tx, .int gx, .int nx, .int 0, .int 0, .long 0, .int 0, .null, .ref la, .ref sa, .int (nI n), .null, .null])), (mr 8, .inl (kL, 3002, .inr (.inl fn))), (m9, .inr (23, mA mr mv vf xl (nI zs) ff_29 xa_30 (nI T) (nI pp1) xi xt xn (nI ns) (nI vv) (nI bb1))), (mr 5, .inl (kI, 3002, .inl fk)), (mr 6, .inl (kI, 3002, .inl fa))] : va_W) ++ ([(la, .inl (kE, cp, .inr (.inr (.inr (.inr f))))), (sa, .inl (kI, cp, .inl g))] : va_W)) ++ sT L1 F1) H := hP.subT (f' := [(ee, .inr (15, [.int 3, .int tx, .int gx, .int nx, .int 0, .int 0, .long 0, .int 0, .null, .ref la, .ref sa, .int (nI n), .null, .null])), (mr 8, .inl (kL, 3002, .inr (.inl fn))), (m9, .inr (23, mA mr mv vf xl (nI zs) ff_29 xa_30 (nI T) (nI pp1) xi xt xn (nI ns) (nI vv) (nI bb1))), (mr 5, .inl (kI, 3002, .inl fk)), (mr 6, .inl (kI, 3002, .inl fa)), (la, .inl (kE, cp, .inr (.inr (.inr (.inr f))))), (sa, .inl (kI, cp, .inl g))]) [0, 3, 4, 5, 6, 1, 2] rfl
                      replace hD : va_D A ((([(ee, .inr (15, [.int 3, .int tx, .int gx, .int nx, .int 0, .int 0, .long 0, .int 0, .null, .ref la, .ref sa, .int (nI n), .null, .null])), (mr 8, .inl (kL, 3002, .inr (.inl fn))), (m9, .inr (23, mA mr mv vf xl (nI zs) ff_29 xa_30 (nI T) (nI pp1) xi xt xn (nI ns) (nI vv) (nI bb1))), (mr 5, .inl (kI, 3002, .inl fk)), (mr 6, .inl (kI, 3002, .inl fa))] : va_W) ++ ([(la, .inl (kE, cp, .inr (.inr (.inr (.inr f))))), (sa, .inl (kI, cp, .inl g))] : va_W)) ++ sT L1 F1) := hD.subT (f' := [(ee, .inr (15, [.int 3, .int tx, .int gx, .int nx, .int 0, .int 0, .long 0, .int 0, .null, .ref la, .ref sa, .int (nI n), .null, .null])), (mr 8, .inl (kL, 3002, .inr (.inl fn))), (m9, .inr (23, mA mr mv vf xl (nI zs) ff_29 xa_30 (nI T) (nI pp1) xi xt xn (nI ns) (nI vv) (nI bb1))), (mr 5, .inl (kI, 3002, .inl fk)), (mr 6, .inl (kI, 3002, .inl fa)), (la, .inl (kE, cp, .inr (.inr (.inr (.inr f))))), (sa, .inl (kI, cp, .inl g))]) [0, 3, 4, 5, 6, 1, 2] (by decide) rfl
                      obtain ⟨L9, F9, hx9, hm9, hP, hD⟩ := st_fileL [(la, .inl (kE, cp, .inr (.inr (.inr (.inr f))))), (sa, .inl (kI, cp, .inl g))] hP hD
                      have hm9_0 := hm9 _ (List.mem_of_getElem? (i := 0) rfl)
                      have hm9_1 := hm9 _ (List.mem_of_getElem? (i := 1) rfl)
                      refine W.grow (fun hgs0 hgs1 => ?_)
                      have hP9 := hP.subT (f' := [(ee, .inr (15, [.int 3, .int tx, .int gx, .int nx, .int 0, .int 0, .long 0, .int 0, .null, (.ref la), (.ref sa), .int (nI n), .null, .null])), (m9, .inr (23, mA mr mv vf xl (nI zs) ff_29 xa_30 (nI T) (nI pp1) xi xt xn (nI ns) (nI vv) (nI bb1))), (mr 5, .inl (kI, 3002, .inl fk)), (mr 6, .inl (kI, 3002, .inl fa)), (mr 8, .inl (kL, 3002, .inr (.inl fn)))]) [0, 2, 3, 4, 1] rfl
                      have hD9 := hD.subT (f' := [(ee, .inr (15, [.int 3, .int tx, .int gx, .int nx, .int 0, .int 0, .long 0, .int 0, .null, (.ref la), (.ref sa), .int (nI n), .null, .null])), (m9, .inr (23, mA mr mv vf xl (nI zs) ff_29 xa_30 (nI T) (nI pp1) xi xt xn (nI ns) (nI vv) (nI bb1))), (mr 5, .inl (kI, 3002, .inl fk)), (mr 6, .inl (kI, 3002, .inl fa)), (mr 8, .inl (kL, 3002, .inr (.inl fn)))]) [0, 2, 3, 4, 1] (by decide) rfl
                      have hK9 := hK.sub (tys' := [(kI, .int), (kL, .long), (kE, .object RX15)]) [0, 1, 2] rfl
                      refine W.widen (k := (8 * (T - pp) + 3)) (n := (120 * (T - pp) + 280)) (by omega) (by omega) ?_
                      subst hQ1
                      exact W.vret hx hb hr (fun tS ht hW => ⟨⟨(), rfl, trivial, L9, F9, ff_29, xa_30, pp1, bb1, .ref la, .ref sa, n, (hr2).tr hx9, ⟨by omega, by omega, by omega, by omega⟩, (fun q9 => absurd q9 hf31_0), by rw [ht]; exact ⟨by omega, by omega⟩, by rw [ht]; exact hP9, va_K.moved hW.alike hK9, hD9⟩, hS.F ht⟩) hS.2.2 dX23_list_108
                  · obtain ⟨q0, hr5, hr6⟩ := hr9.2
                    have hcm : cm = 1 := (hr6.resolve_left (fun z => hm_26 z.1)).2.1
                    replace hr6 : q0 < pp1 := (hr6.resolve_left (fun z => hm_26 z.1)).2.2
                    replace hr1 := hr1.resolve_left (fun q => q rfl)
                    refine lv_aload_n hx hb dX23_list_73 rfl (lv_at hl 2 rfl) ?_
                    refine lv_aload_n hx hb dX23_list_74 rfl (lv_at hl 1 rfl) ?_
                    obtain ⟨k1, hkL⟩ : ∃ k1 : Nat, k = k1 + 1 := ⟨k - 1, by omega⟩
                    replace hPc := hP.subT (f' := [(m9, .inr (23, mA mr mv vf xl (nI zs) 0 xa1 (nI T) (nI pp1) xi xt xn (nI (ns + 1)) (nI vv) (nI bb1))), (mr 5, .inl (kI, 3002, .inl fk)), (mr 6, .inl (kI, 3002, .inl fa)), (mr 8, .inl (kL, 3002, .inr (.inl fn)))]) [6, 3, 4, 5] rfl
                    replace hDc := hD.subT (f' := [(m9, .inr (23, mA mr mv vf xl (nI zs) 0 xa1 (nI T) (nI pp1) xi xt xn (nI (ns + 1)) (nI vv) (nI bb1))), (mr 5, .inl (kI, 3002, .inl fk)), (mr 6, .inl (kI, 3002, .inl fa)), (mr 8, .inl (kL, 3002, .inr (.inl fn)))]) [6, 3, 4, 5] (by decide) rfl
                    replace hKc := hK.sub (tys' := [(kI, .int), (kL, .long), (kE, .object RX15)]) [0, 1, 2] rfl
                    replace hFc := va_freeB (wc := [(m9, .inr (23, mA mr mv vf xl (nI zs) 0 xa1 (nI T) (nI pp1) xi xt xn (nI (ns + 1)) (nI vv) (nI bb1))), (mr 5, .inl (kI, 3002, .inl fk)), (mr 6, .inl (kI, 3002, .inl fa)), (mr 8, .inl (kL, 3002, .inr (.inl fn)))]) hD hS hA [6, 3, 4, 5] rfl
                    refine W.grow (fun hgs0 hgs1 => ?_)
                    refine va_callr (va_runV (As := []) (rest := [.ref ee]) ⟨hx, hb, hml, hown, hts⟩ ((ih k1 hkL).2.2.2.2.2.2 m9 mr mv vf xl xa1 xi xt xn zs T pp1 (ns + 1) vv bb1 kI fk fa kL kE fn L1 F1 (slN H) H.size hT hr0.2.2.1 hk0 hr9.1 (by omega)) (cwV 0 hts g_c_xli3_c_xex_75 rfl rfl rfl (by decide +kernel) ⟨by show 13 + 12 * k1 + 1 ≤ 2 + 12 * k; omega, by show 8 + (1 + 11) + (302 + 279 * k1) ≤ 43 + 279 * k; omega⟩) ⟨fun a U g mk q => by obtain ⟨q0, q1, qP, qK, qD, qx0, qx1⟩ := q; exact ⟨q0, q1, qP, va_K.moved (u := U) (U := U.calling g mk a) (Vm.Alike.refl U.vm) qK, qD, nsM.same (u := U) (U := U.calling g mk a) rfl qx0, qx1⟩, va_recv hKc hPc (ci := 23) (q0 := 0) rfl rfl, fun U hU hW => ⟨rfl, by rw [hU], by rw [hU]; exact hPc, va_K.moved hW.alike hKc, hDc.weaken (fun _ _ _ _ => trivial), nsM.warm hW hns, by rw [hU]⟩⟩ rfl rfl hl.1 rfl (lv_room (Nat.le_of_ble_eq_true rfl)) dX23_list_75 ⟨(show (8 * (pp1 - pp) - 3 * n - 8 * cm) + (8 * (T - pp1) + 8) ≤ (8 * (T - pp) + 3) by omega), (show (120 * (pp1 - pp) + 4 * cp + 8 - 64 * n - 120 * cm) + (120 * (T - pp1) + 360) ≤ (120 * (T - pp) + 280) by omega)⟩) hS (fun q _ h => hFc q h) hFc (fun u r_27 tS H1 locs ht hvm hw hB hz1 hk1 hS => ?_)
                    obtain ⟨L26, F26, ff26, xa26, pp26, bb26, hf27_0, hf27_1, hf27_2, hf27_3, hP1, hK1, hD1⟩ := hB
                    rw [ht] at hP1
                    replace hK1 := va_K.moved hvm.symm hK1
                    rw [ht] at hf27_3
                    have hgz : H1.size ≤ s.heap.size + (((8 * (pp1 - pp) - 3 * n - 8 * cm) + 8 * (pp26 - pp1) + 3)) ∧ slN H1 ≤ slN s.heap + (((120 * (pp1 - pp) + 4 * cp + 8 - 64 * n - 120 * cm) + 120 * (pp26 - pp1) + 48)) := ⟨by have := hf27_3.1; omega, by have := hf27_3.2; omega⟩
                    obtain ⟨hPj, hDj⟩ := va_joinB (wr := [(ee, .inr (15, [.int 3, .int tx, .int gx, .int nx, .int 0, .int 0, .long 0, .int 0, .null, .ref la, .ref sa, .int (nI n), .null, .null])), (la, .inl (kE, cp, .inr (.inr (.inr (.inr f))))), (sa, .inl (kI, cp, .inl g))]) (w1 := [(m9, .inr (23, mA mr mv vf xl (nI zs) ff26 xa26 (nI T) (nI pp26) xi xt xn (nI (ns + 1)) (nI vv) (nI bb26))), (mr 5, .inl (kI, 3002, .inl fk)), (mr 6, .inl (kI, 3002, .inl fa)), (mr 8, .inl (kL, 3002, .inr (.inl fn)))]) hP hD [6, 3, 4, 5] [0, 1, 2] rfl rfl (by decide) (by decide) hk1 hFc hP1 hD1
                    replace hP := hPj
                    replace hD := hDj
                    clear hPj hDj
                    replace hK := hK.app hK1
                    generalize H1 = H at hP hS hgz ⊢
                    replace hP : va_P (dC, dI) vwCl (([(ee, .inr (15, [.int 3, .int tx, .int gx, .int nx, .int 0, .int 0, .long 0, .int 0, .null, .ref la, .ref sa, .int (nI n), .null, .null])), (la, .inl (kE, cp, .inr (.inr (.inr (.inr f))))), (sa, .inl (kI, cp, .inl g)), (m9, .inr (23, mA mr mv vf xl (nI zs) ff26 xa26 (nI T) (nI pp26) xi xt xn (nI (ns + 1)) (nI vv) (nI bb26))), (mr 5, .inl (kI, 3002, .inl fk)), (mr 6, .inl (kI, 3002, .inl fa)), (mr 8, .inl (kL, 3002, .inr (.inl fn)))] : va_W) ++ (sT L26 F26)) H := hP
                    replace hD : va_D A (([(ee, .inr (15, [.int 3, .int tx, .int gx, .int nx, .int 0, .int 0, .long 0, .int 0, .null, .ref la, .ref sa, .int (nI n), .null, .null])), (la, .inl (kE, cp, .inr (.inr (.inr (.inr f))))), (sa, .inl (kI, cp, .inl g)), (m9, .inr (23, mA mr mv vf xl (nI zs) ff26 xa26 (nI T) (nI pp26) xi xt xn (nI (ns + 1)) (nI vv) (nI bb26))), (mr 5, .inl (kI, 3002, .inl fk)), (mr 6, .inl (kI, 3002, .inl fa)), (mr 8, .inl (kL, 3002, .inr (.inl fn)))] : va_W) ++ (sT L26 F26)) := hD
                    replace hK : va_K (dC, dI) vwCl [(kI, .int), (kL, .long), (kE, .object RX15), (kI, .int), (kL, .long), (kE, .object RX15)] s := hK
                    replace hK := hK.sub (tys' := [(kI, .int), (kL, .long), (kE, .object RX15)]) [0, 1, 2] rfl
                    refine W.tight (k := ((8 * (pp1 - pp) - 3 * n - 8 * cm) + 8 * (pp26 - pp1) + 3)) (n := ((120 * (pp1 - pp) + 4 * cp + 8 - 64 * n - 120 * cm) + 120 * (pp26 - pp1) + 48)) hgz.1 hgz.2 ?_
                    clear hz1 hk1 hPc hDc hKc hFc hP1 hD1 hK1
                    refine lv_iconst (v := 0) hx hb dX23_list_78 (by decide) ?_
                    replace hPc := hP.subT (f' := [(ee, .inr (15, [.int 3, .int tx, .int gx, .int nx, .int 0, .int 0, .long 0, .int 0, .null, .ref la, .ref sa, .int (nI n), .null, .null])), (la, .inl (kE, cp, .inr (.inr (.inr (.inr f))))), (sa, .inl (kI, cp, .inl g))]) [0, 1, 2] rfl
                    replace hDc := hD.subT (f' := [(ee, .inr (15, [.int 3, .int tx, .int gx, .int nx, .int 0, .int 0, .long 0, .int 0, .null, .ref la, .ref sa, .int (nI n), .null, .null])), (la, .inl (kE, cp, .inr (.inr (.inr (.inr f))))), (sa, .inl (kI, cp, .inl g))]) [0, 1, 2] (by decide) rfl
                    replace hKc := hK.sub (tys' := [(kI, .int), (kE, .object RX15)]) [0, 2] rfl
                    replace hFc := va_freeB (wc := [(ee, .inr (15, [.int 3, .int tx, .int gx, .int nx, .int 0, .int 0, .long 0, .int 0, .null, .ref la, .ref sa, .int (nI n), .null, .null])), (la, .inl (kE, cp, .inr (.inr (.inr (.inr f))))), (sa, .inl (kI, cp, .inl g))]) hD hS hA [0, 1, 2] rfl
                    refine W.grow (fun hgs0 hgs1 => ?_)
                    refine va_callv (va_runS (As := [.ref ee, .ref r_27, .int 0]) (rest := []) ⟨hx, hb, hml, hown, hts⟩ (c_xaA l dC dI ee r_27 3 tx gx nx 0 0 0 .null kI kE la sa n cp f g L26 F26 (slN H) H.size hf27_0.2 (by omega) (fun i hi => by obtain ⟨x9, y9, z9⟩ := hr3 i hi; exact ⟨x9, y9, xO_ex hf27_0.1 z9⟩)) (va_cwS 3 hts g_c_xli3_c_xaA_79 rfl rfl rfl (by decide +kernel) ⟨by show 0 + 1 ≤ 2 + 12 * k; omega, by show 8 + (6 + 11) + (0) ≤ 43 + 279 * k; omega⟩) ⟨fun a U g mk q => by obtain ⟨q0, q1, qP, qK, qD, qx0, qx1⟩ := q; exact ⟨q0, q1, qP, va_K.moved (u := U) (U := U.calling g mk a) (Vm.Alike.refl U.vm) qK, qD, nsM.same (u := U) (U := U.calling g mk a) rfl qx0, qx1⟩, fun U hU hW => ⟨rfl, by rw [hU], by rw [hU]; exact hPc, va_K.moved hW.alike hKc, hDc.weaken (fun _ _ _ _ => trivial), nsM.warm hW hns, by rw [hU]⟩⟩ rfl rfl hl.1 rfl (lv_room (Nat.le_of_ble_eq_true rfl)) dX23_list_79 ⟨(show ((8 * (pp1 - pp) - 3 * n - 8 * cm) + 8 * (pp26 - pp1) + 3) + 2 ≤ (8 * (T - pp) + 3) by omega), (show ((120 * (pp1 - pp) + 4 * cp + 8 - 64 * n - 120 * cm) + 120 * (pp26 - pp1) + 48) + (4 * cp) ≤ (120 * (T - pp) + 280) by omega)⟩) hS (fun q _ h => hFc q h) hFc (fun u tS H1 locs ht hvm hw hB hz1 hk1 hS => ?_)
                    obtain ⟨la27, sa27, cp27, f27, g27, hf28_0, hf28_1, hf28_2, hf28_3, hf28_4, hP1, hK1, hD1⟩ := hB
                    rw [ht] at hP1
                    replace hK1 := va_K.moved hvm.symm hK1
                    rw [ht] at hf28_4
                    have hgz : H1.size ≤ s.heap.size + ((((8 * (pp1 - pp) - 3 * n - 8 * cm) + 8 * (pp26 - pp1) + 3) + 2)) ∧ slN H1 ≤ slN s.heap + ((((120 * (pp1 - pp) + 4 * cp + 8 - 64 * n - 120 * cm) + 120 * (pp26 - pp1) + 48) + 4 * (cp27 - cp))) := ⟨by have := hf28_4.1; omega, by have := hf28_4.2; omega⟩
                    obtain ⟨hPj, hDj⟩ := va_joinB (wr := [(m9, .inr (23, mA mr mv vf xl (nI zs) ff26 xa26 (nI T) (nI pp26) xi xt xn (nI (ns + 1)) (nI vv) (nI bb26))), (mr 5, .inl (kI, 3002, .inl fk)), (mr 6, .inl (kI, 3002, .inl fa)), (mr 8, .inl (kL, 3002, .inr (.inl fn)))]) (w1 := [(ee, .inr (15, [.int 3, .int tx, .int gx, .int nx, .int 0, .int 0, .long 0, .int 0, .null, .ref la27, .ref sa27, .int (nI (n + 1)), .null, .null])), (la27, .inl (kE, cp27, .inr (.inr (.inr (.inr f27))))), (sa27, .inl (kI, cp27, .inl g27))]) hP hD [0, 1, 2] [3, 4, 5, 6] rfl rfl (by decide) (by decide) hk1 hFc hP1 hD1
                    replace hP := hPj
                    replace hD := hDj
                    clear hPj hDj
                    replace hK := hK.app hK1
                    generalize H1 = H at hP hS hgz ⊢
                    replace hP : va_P (dC, dI) vwCl (([(m9, .inr (23, mA mr mv vf xl (nI zs) ff26 xa26 (nI T) (nI pp26) xi xt xn (nI (ns + 1)) (nI vv) (nI bb26))), (mr 5, .inl (kI, 3002, .inl fk)), (mr 6, .inl (kI, 3002, .inl fa)), (mr 8, .inl (kL, 3002, .inr (.inl fn))), (ee, .inr (15, [.int 3, .int tx, .int gx, .int nx, .int 0, .int 0, .long 0, .int 0, .null, .ref la27, .ref sa27, .int (nI (n + 1)), .null, .null])), (la27, .inl (kE, cp27, .inr (.inr (.inr (.inr f27))))), (sa27, .inl (kI, cp27, .inl g27))] : va_W) ++ (sT L26 F26)) H := hP
                    replace hD : va_D A (([(m9, .inr (23, mA mr mv vf xl (nI zs) ff26 xa26 (nI T) (nI pp26) xi xt xn (nI (ns + 1)) (nI vv) (nI bb26))), (mr 5, .inl (kI, 3002, .inl fk)), (mr 6, .inl (kI, 3002, .inl fa)), (mr 8, .inl (kL, 3002, .inr (.inl fn))), (ee, .inr (15, [.int 3, .int tx, .int gx, .int nx, .int 0, .int 0, .long 0, .int 0, .null, .ref la27, .ref sa27, .int (nI (n + 1)), .null, .null])), (la27, .inl (kE, cp27, .inr (.inr (.inr (.inr f27))))), (sa27, .inl (kI, cp27, .inl g27))] : va_W) ++ (sT L26 F26)) := hD
                    replace hK : va_K (dC, dI) vwCl [(kI, .int), (kL, .long), (kE, .object RX15), (kI, .int), (kE, .object RX15)] s := hK
                    replace hK := hK.sub (tys' := [(kI, .int), (kL, .long), (kE, .object RX15)]) [0, 1, 2] rfl
                    refine W.tight (k := (((8 * (pp1 - pp) - 3 * n - 8 * cm) + 8 * (pp26 - pp1) + 3) + 2)) (n := (((120 * (pp1 - pp) + 4 * cp + 8 - 64 * n - 120 * cm) + 120 * (pp26 - pp1) + 48) + 4 * (cp27 - cp))) hgz.1 hgz.2 ?_
                    clear hz1 hk1 hPc hDc hKc hFc hP1 hD1 hK1
                    refine lv_aload_n hx hb dX23_list_82 rfl (lv_at hl 1 rfl) ?_
                    refine lv_bipush (v := 57) hx hb dX23_list_83 (by decide) ?_
                    by_cases hz_29 : ff26 = 0
                    · subst hz_29
                      have hg26 := hf27_2 rfl
                      have hlthg26 := (isE_mem hg26.2).2
                      by_cases hk_30 : fk pp26 = 57
                      · replace hPc := hP.subF (f' := [(m9, .inr (23, mA mr mv vf xl (nI zs) 0 xa26 (nI T) (nI pp26) xi xt xn (nI (ns + 1)) (nI vv) (nI bb26))), (mr 5, .inl (kI, 3002, .inl fk))]) [0, 1] rfl
                        replace hDc := hD.subF (f' := [(m9, .inr (23, mA mr mv vf xl (nI zs) 0 xa26 (nI T) (nI pp26) xi xt xn (nI (ns + 1)) (nI vv) (nI bb26))), (mr 5, .inl (kI, 3002, .inl fk))]) [0, 1] (by decide) rfl
                        replace hKc := hK.sub (tys' := [(kI, .int)]) [0] rfl
                        replace hFc := va_freeT (wc := [(m9, .inr (23, mA mr mv vf xl (nI zs) 0 xa26 (nI T) (nI pp26) xi xt xn (nI (ns + 1)) (nI vv) (nI bb26))), (mr 5, .inl (kI, 3002, .inl fk))]) hD hS hA [0, 1] rfl
                        refine va_calli (va_runV (As := [.int 57]) (rest := []) ⟨hx, hb, hml, hown, hts⟩ (c_rtsY l dC dI m9 mr mv vf xl xa26 xi xt xn zs T pp26 (ns + 1) vv bb26 kI fk fa 57 H.size hT hf27_1.2.1 hk0 (by decide) hk_30) (cwV 1 hts g_c_xli3_c_rtsY_85 rfl rfl rfl (by decide +kernel) ⟨by show 1 + 1 ≤ 2 + 12 * k; omega, by show 8 + (2 + 11) + (21) ≤ 43 + 279 * k; omega⟩) ⟨fun a U g mk q => by obtain ⟨q0, q1, qP, qK, qD⟩ := q; exact ⟨q0, q1, qP, va_K.moved (u := U) (U := U.calling g mk a) (Vm.Alike.refl U.vm) qK, qD⟩, va_recv hKc hPc (ci := 23) (q0 := 0) rfl rfl, fun U hU hW => ⟨rfl, by rw [hU], by rw [hU]; exact hPc, va_K.moved hW.alike hKc, hDc.weaken (fun _ _ _ _ => trivial)⟩⟩ rfl rfl hl.1 rfl (lv_room (Nat.le_of_ble_eq_true rfl)) dX23_list_85 ⟨(show (((8 * (pp1 - pp) - 3 * n - 8 * cm) + 8 * (pp26 - pp1) + 3) + 2) + 0 ≤ (8 * (T - pp) + 3) by omega), (show (((120 * (pp1 - pp) + 4 * cp + 8 - 64 * n - 120 * cm) + 120 * (pp26 - pp1) + 48) + 4 * (cp27 - cp)) + 0 ≤ (120 * (T - pp) + 280) by omega)⟩) hS (fun q _ h => hFc q h) hFc (fun r_31 u tS H1 locs ht hvm hw hB hz1 hk1 hS => ?_)
                        obtain ⟨hP1, hK1, hD1⟩ := hB
                        rw [ht] at hP1
                        replace hK1 := va_K.moved hvm.symm hK1
                        obtain ⟨hPj, hDj⟩ := va_joinT (wr := [(mr 6, .inl (kI, 3002, .inl fa)), (mr 8, .inl (kL, 3002, .inr (.inl fn))), (ee, .inr (15, [.int 3, .int tx, .int gx, .int nx, .int 0, .int 0, .long 0, .int 0, .null, .ref la27, .ref sa27, .int (nI (n + 1)), .null, .null])), (la27, .inl (kE, cp27, .inr (.inr (.inr (.inr f27))))), (sa27, .inl (kI, cp27, .inl g27))]) (w1 := [(m9, .inr (23, mA mr mv vf xl (nI zs) 0 xa26 (nI T) (nI (pp26 + 1)) xi xt xn (nI (ns + 1)) (nI vv) (nI bb26))), (mr 5, .inl (kI, 3002, .inl fk))]) hP hD [0, 1] [2, 3, 4, 5, 6] rfl rfl (by decide) (by decide) hk1 hFc hP1 hD1
                        replace hP := hPj
                        replace hD := hDj
                        clear hPj hDj
                        replace hK := hK.app hK1
                        generalize H1 = H at hP hS ⊢
                        replace hP : va_P (dC, dI) vwCl (([(mr 6, .inl (kI, 3002, .inl fa)), (mr 8, .inl (kL, 3002, .inr (.inl fn))), (ee, .inr (15, [.int 3, .int tx, .int gx, .int nx, .int 0, .int 0, .long 0, .int 0, .null, .ref la27, .ref sa27, .int (nI (n + 1)), .null, .null])), (la27, .inl (kE, cp27, .inr (.inr (.inr (.inr f27))))), (sa27, .inl (kI, cp27, .inl g27)), (m9, .inr (23, mA mr mv vf xl (nI zs) 0 xa26 (nI T) (nI (pp26 + 1)) xi xt xn (nI (ns + 1)) (nI vv) (nI bb26))), (mr 5, .inl (kI, 3002, .inl fk))] : va_W) ++ (sT L26 F26)) H := hP
                        replace hD : va_D A (([(mr 6, .inl (kI, 3002, .inl fa)), (mr 8, .inl (kL, 3002, .inr (.inl fn))), (ee, .inr (15, [.int 3, .int tx, .int gx, .int nx, .int 0, .int 0, .long 0, .int 0, .null, .ref la27, .ref sa27, .int (nI (n + 1)), .null, .null])), (la27, .inl (kE, cp27, .inr (.inr (.inr (.inr f27))))), (sa27, .inl (kI, cp27, .inl g27)), (m9, .inr (23, mA mr mv vf xl (nI zs) 0 xa26 (nI T) (nI (pp26 + 1)) xi xt xn (nI (ns + 1)) (nI vv) (nI bb26))), (mr 5, .inl (kI, 3002, .inl fk))] : va_W) ++ (sT L26 F26)) := hD
                        replace hK : va_K (dC, dI) vwCl [(kI, .int), (kL, .long), (kE, .object RX15), (kI, .int)] s := hK
                        replace hK := hK.sub (tys' := [(kI, .int), (kL, .long), (kE, .object RX15)]) [0, 1, 2] rfl
                        clear hz1 hk1 hPc hDc hKc hFc hP1 hD1 hK1
                        obtain rfl : r_31 = 1 := hw
                        have hp_32 : pp26 + 1 < T := kne3 hk0 hf27_1.2.1 hk_30 (by decide)
                        refine lv_istore_n (lv' := [(2, .int 1), (0, .ref m9), (1, .ref ee)]) hx hb dX23_list_88 rfl hl (by decide) rfl (fun ls hl => ?_)
                        refine lv_goto (tgt := 62) hx hb dX23_list_89 (by decide) ?_
                        refine W.widen (k := (8 * ((pp26 + 1) - pp) - 3 * (n + 1) - 8 * 1)) (n := (120 * ((pp26 + 1) - pp) + 4 * cp27 + 8 - 64 * (n + 1) - 120 * 1)) (by omega) (by omega) ?_
                        exact ih1 (pp26 + 1) bb26 la27 sa27 cp27 (n + 1) 1 0 xa26 1 L26 F26 f27 g27 _ _ _ (⟨by omega, by omega, by omega, by omega, by omega, by omega, by omega, by omega, by omega, by omega, by omega, hT⟩) (Or.inr (by omega)) (hr2.tr hf27_0.1) (fun i hi => by
                          by_cases e9 : i = n
                          · subst e9; exact ⟨_, hf28_2.1, hf27_0.2⟩
                          · obtain ⟨x9, y9, z9⟩ := hr3 i (by omega); exact ⟨x9, (hf28_1 i (by omega)).1.trans y9, xO_ex hf27_0.1 z9⟩) (fun _ => ⟨hg26.1, _, chP_add (chP_im (fun x p q b c z => isE_im hf27_0.1 _ (Nat.le_refl _) z) hr5) (fun i hi => hf28_1 i hi) hf28_2.1 (hf28_2.2.trans rfl) hr6 (isE_im exS.rf _ (by omega) hg26.2) (Or.inl ⟨rfl, rfl⟩), Or.inr ⟨by decide, rfl, by omega⟩⟩) (hP.subT [2, 3, 4, 5, 6, 0, 1] rfl) (hD.subT [2, 3, 4, 5, 6, 0, 1] (by decide) rfl) hS (lv_sub hl [0, 1, 2] rfl)
                      · replace hPc := hP.subF (f' := [(m9, .inr (23, mA mr mv vf xl (nI zs) 0 xa26 (nI T) (nI pp26) xi xt xn (nI (ns + 1)) (nI vv) (nI bb26))), (mr 5, .inl (kI, 3002, .inl fk))]) [0, 1] rfl
                        replace hDc := hD.subF (f' := [(m9, .inr (23, mA mr mv vf xl (nI zs) 0 xa26 (nI T) (nI pp26) xi xt xn (nI (ns + 1)) (nI vv) (nI bb26))), (mr 5, .inl (kI, 3002, .inl fk))]) [0, 1] (by decide) rfl
                        replace hKc := hK.sub (tys' := [(kI, .int)]) [0] rfl
                        replace hFc := va_freeT (wc := [(m9, .inr (23, mA mr mv vf xl (nI zs) 0 xa26 (nI T) (nI pp26) xi xt xn (nI (ns + 1)) (nI vv) (nI bb26))), (mr 5, .inl (kI, 3002, .inl fk))]) hD hS hA [0, 1] rfl
                        refine va_calli (va_runV (As := [.int 57]) (rest := []) ⟨hx, hb, hml, hown, hts⟩ (c_rtsN l dC dI m9 mr mv vf xl xa26 xi xt xn zs T pp26 (ns + 1) vv bb26 kI fk fa 57 H.size hT hf27_1.2.1 hk0 (by decide) hk_30) (cwV 1 hts g_c_xli3_c_rtsN_85 rfl rfl rfl (by decide +kernel) ⟨by show 1 + 1 ≤ 2 + 12 * k; omega, by show 8 + (2 + 11) + (21) ≤ 43 + 279 * k; omega⟩) ⟨fun a U g mk q => by obtain ⟨q0, q1, qP, qK, qD⟩ := q; exact ⟨q0, q1, qP, va_K.moved (u := U) (U := U.calling g mk a) (Vm.Alike.refl U.vm) qK, qD⟩, va_recv hKc hPc (ci := 23) (q0 := 0) rfl rfl, fun U hU hW => ⟨rfl, by rw [hU], by rw [hU]; exact hPc, va_K.moved hW.alike hKc, hDc.weaken (fun _ _ _ _ => trivial)⟩⟩ rfl rfl hl.1 rfl (lv_room (Nat.le_of_ble_eq_true rfl)) dX23_list_85 ⟨(show (((8 * (pp1 - pp) - 3 * n - 8 * cm) + 8 * (pp26 - pp1) + 3) + 2) + 0 ≤ (8 * (T - pp) + 3) by omega), (show (((120 * (pp1 - pp) + 4 * cp + 8 - 64 * n - 120 * cm) + 120 * (pp26 - pp1) + 48) + 4 * (cp27 - cp)) + 0 ≤ (120 * (T - pp) + 280) by omega)⟩) hS (fun q _ h => hFc q h) hFc (fun r_31 u tS H1 locs ht hvm hw hB hz1 hk1 hS => ?_)
                        obtain ⟨hP1, hK1, hD1⟩ := hB
                        rw [ht] at hP1
                        replace hK1 := va_K.moved hvm.symm hK1
                        obtain ⟨hPj, hDj⟩ := va_joinT (wr := [(mr 6, .inl (kI, 3002, .inl fa)), (mr 8, .inl (kL, 3002, .inr (.inl fn))), (ee, .inr (15, [.int 3, .int tx, .int gx, .int nx, .int 0, .int 0, .long 0, .int 0, .null, .ref la27, .ref sa27, .int (nI (n + 1)), .null, .null])), (la27, .inl (kE, cp27, .inr (.inr (.inr (.inr f27))))), (sa27, .inl (kI, cp27, .inl g27))]) (w1 := [(m9, .inr (23, mA mr mv vf xl (nI zs) 0 xa26 (nI T) (nI pp26) xi xt xn (nI (ns + 1)) (nI vv) (nI bb26))), (mr 5, .inl (kI, 3002, .inl fk))]) hP hD [0, 1] [2, 3, 4, 5, 6] rfl rfl (by decide) (by decide) hk1 hFc hP1 hD1
                        replace hP := hPj
                        replace hD := hDj
                        clear hPj hDj
                        replace hK := hK.app hK1
                        generalize H1 = H at hP hS ⊢
                        replace hP : va_P (dC, dI) vwCl (([(mr 6, .inl (kI, 3002, .inl fa)), (mr 8, .inl (kL, 3002, .inr (.inl fn))), (ee, .inr (15, [.int 3, .int tx, .int gx, .int nx, .int 0, .int 0, .long 0, .int 0, .null, .ref la27, .ref sa27, .int (nI (n + 1)), .null, .null])), (la27, .inl (kE, cp27, .inr (.inr (.inr (.inr f27))))), (sa27, .inl (kI, cp27, .inl g27)), (m9, .inr (23, mA mr mv vf xl (nI zs) 0 xa26 (nI T) (nI pp26) xi xt xn (nI (ns + 1)) (nI vv) (nI bb26))), (mr 5, .inl (kI, 3002, .inl fk))] : va_W) ++ (sT L26 F26)) H := hP
                        replace hD : va_D A (([(mr 6, .inl (kI, 3002, .inl fa)), (mr 8, .inl (kL, 3002, .inr (.inl fn))), (ee, .inr (15, [.int 3, .int tx, .int gx, .int nx, .int 0, .int 0, .long 0, .int 0, .null, .ref la27, .ref sa27, .int (nI (n + 1)), .null, .null])), (la27, .inl (kE, cp27, .inr (.inr (.inr (.inr f27))))), (sa27, .inl (kI, cp27, .inl g27)), (m9, .inr (23, mA mr mv vf xl (nI zs) 0 xa26 (nI T) (nI pp26) xi xt xn (nI (ns + 1)) (nI vv) (nI bb26))), (mr 5, .inl (kI, 3002, .inl fk))] : va_W) ++ (sT L26 F26)) := hD
                        replace hK : va_K (dC, dI) vwCl [(kI, .int), (kL, .long), (kE, .object RX15), (kI, .int)] s := hK
                        replace hK := hK.sub (tys' := [(kI, .int), (kL, .long), (kE, .object RX15)]) [0, 1, 2] rfl
                        clear hz1 hk1 hPc hDc hKc hFc hP1 hD1 hK1
                        obtain rfl : r_31 = 0 := hw
                        refine lv_istore_n (lv' := [(2, .int 0), (0, .ref m9), (1, .ref ee)]) hx hb dX23_list_88 rfl hl (by decide) rfl (fun ls hl => ?_)
                        refine lv_goto (tgt := 62) hx hb dX23_list_89 (by decide) ?_
                        refine W.widen (k := (8 * (pp26 - pp) - 3 * (n + 1) - 8 * 0)) (n := (120 * (pp26 - pp) + 4 * cp27 + 8 - 64 * (n + 1) - 120 * 0)) (by omega) (by omega) ?_
                        exact ih1 pp26 bb26 la27 sa27 cp27 (n + 1) 0 0 xa26 0 L26 F26 f27 g27 _ _ _ (⟨by omega, by omega, by omega, by omega, by omega, by omega, by omega, by omega, by omega, by omega, by omega, hT⟩) (Or.inr (by omega)) (hr2.tr hf27_0.1) (fun i hi => by
                          by_cases e9 : i = n
                          · subst e9; exact ⟨_, hf28_2.1, hf27_0.2⟩
                          · obtain ⟨x9, y9, z9⟩ := hr3 i (by omega); exact ⟨x9, (hf28_1 i (by omega)).1.trans y9, xO_ex hf27_0.1 z9⟩) (fun _ => ⟨hg26.1, _, chP_add (chP_im (fun x p q b c z => isE_im hf27_0.1 _ (Nat.le_refl _) z) hr5) (fun i hi => hf28_1 i hi) hf28_2.1 (hf28_2.2.trans rfl) hr6 (isE_im exS.rf _ (by omega) hg26.2) (Or.inl ⟨rfl, rfl⟩), Or.inl ⟨rfl, rfl, by omega⟩⟩) (hP.subT [2, 3, 4, 5, 6, 0, 1] rfl) (hD.subT [2, 3, 4, 5, 6, 0, 1] (by decide) rfl) hS (lv_sub hl [0, 1, 2] rfl)
                    · replace hPc := hP.subF (f' := [(m9, .inr (23, mA mr mv vf xl (nI zs) ff26 xa26 (nI T) (nI pp26) xi xt xn (nI (ns + 1)) (nI vv) (nI bb26))), (mr 5, .inl (kI, 3002, .inl fk))]) [0, 1] rfl
                      replace hDc := hD.subF (f' := [(m9, .inr (23, mA mr mv vf xl (nI zs) ff26 xa26 (nI T) (nI pp26) xi xt xn (nI (ns + 1)) (nI vv) (nI bb26))), (mr 5, .inl (kI, 3002, .inl fk))]) [0, 1] (by decide) rfl
                      replace hKc := hK.sub (tys' := [(kI, .int)]) [0] rfl
                      replace hFc := va_freeT (wc := [(m9, .inr (23, mA mr mv vf xl (nI zs) ff26 xa26 (nI T) (nI pp26) xi xt xn (nI (ns + 1)) (nI vv) (nI bb26))), (mr 5, .inl (kI, 3002, .inl fk))]) hD hS hA [0, 1] rfl
                      refine va_calli (va_runV (As := [.int 57]) (rest := []) ⟨hx, hb, hml, hown, hts⟩ (c_rtsB l dC dI m9 mr mv vf xl xa26 xi xt xn zs T pp26 (ns + 1) vv bb26 kI fk fa ff26 57 H.size hz_29) (cwV 1 hts g_c_xli3_c_rtsB_85 rfl rfl rfl (by decide +kernel) ⟨by show 1 + 1 ≤ 2 + 12 * k; omega, by show 8 + (2 + 11) + (20) ≤ 43 + 279 * k; omega⟩) ⟨fun a U g mk q => by obtain ⟨q0, q1, qP, qK, qD⟩ := q; exact ⟨q0, q1, qP, va_K.moved (u := U) (U := U.calling g mk a) (Vm.Alike.refl U.vm) qK, qD⟩, va_recv hKc hPc (ci := 23) (q0 := 0) rfl rfl, fun U hU hW => ⟨rfl, by rw [hU], by rw [hU]; exact hPc, va_K.moved hW.alike hKc, hDc.weaken (fun _ _ _ _ => trivial)⟩⟩ rfl rfl hl.1 rfl (lv_room (Nat.le_of_ble_eq_true rfl)) dX23_list_85 ⟨(show (((8 * (pp1 - pp) - 3 * n - 8 * cm) + 8 * (pp26 - pp1) + 3) + 2) + 0 ≤ (8 * (T - pp) + 3) by omega), (show (((120 * (pp1 - pp) + 4 * cp + 8 - 64 * n - 120 * cm) + 120 * (pp26 - pp1) + 48) + 4 * (cp27 - cp)) + 0 ≤ (120 * (T - pp) + 280) by omega)⟩) hS (fun q _ h => hFc q h) hFc (fun r_30 u tS H1 locs ht hvm hw hB hz1 hk1 hS => ?_)
                      obtain ⟨hP1, hK1, hD1⟩ := hB
                      rw [ht] at hP1
                      replace hK1 := va_K.moved hvm.symm hK1
                      obtain ⟨hPj, hDj⟩ := va_joinT (wr := [(mr 6, .inl (kI, 3002, .inl fa)), (mr 8, .inl (kL, 3002, .inr (.inl fn))), (ee, .inr (15, [.int 3, .int tx, .int gx, .int nx, .int 0, .int 0, .long 0, .int 0, .null, .ref la27, .ref sa27, .int (nI (n + 1)), .null, .null])), (la27, .inl (kE, cp27, .inr (.inr (.inr (.inr f27))))), (sa27, .inl (kI, cp27, .inl g27))]) (w1 := [(m9, .inr (23, mA mr mv vf xl (nI zs) ff26 xa26 (nI T) (nI pp26) xi xt xn (nI (ns + 1)) (nI vv) (nI bb26))), (mr 5, .inl (kI, 3002, .inl fk))]) hP hD [0, 1] [2, 3, 4, 5, 6] rfl rfl (by decide) (by decide) hk1 hFc hP1 hD1
                      replace hP := hPj
                      replace hD := hDj
                      clear hPj hDj
                      replace hK := hK.app hK1
                      generalize H1 = H at hP hS ⊢
                      replace hP : va_P (dC, dI) vwCl (([(mr 6, .inl (kI, 3002, .inl fa)), (mr 8, .inl (kL, 3002, .inr (.inl fn))), (ee, .inr (15, [.int 3, .int tx, .int gx, .int nx, .int 0, .int 0, .long 0, .int 0, .null, .ref la27, .ref sa27, .int (nI (n + 1)), .null, .null])), (la27, .inl (kE, cp27, .inr (.inr (.inr (.inr f27))))), (sa27, .inl (kI, cp27, .inl g27)), (m9, .inr (23, mA mr mv vf xl (nI zs) ff26 xa26 (nI T) (nI pp26) xi xt xn (nI (ns + 1)) (nI vv) (nI bb26))), (mr 5, .inl (kI, 3002, .inl fk))] : va_W) ++ (sT L26 F26)) H := hP
                      replace hD : va_D A (([(mr 6, .inl (kI, 3002, .inl fa)), (mr 8, .inl (kL, 3002, .inr (.inl fn))), (ee, .inr (15, [.int 3, .int tx, .int gx, .int nx, .int 0, .int 0, .long 0, .int 0, .null, .ref la27, .ref sa27, .int (nI (n + 1)), .null, .null])), (la27, .inl (kE, cp27, .inr (.inr (.inr (.inr f27))))), (sa27, .inl (kI, cp27, .inl g27)), (m9, .inr (23, mA mr mv vf xl (nI zs) ff26 xa26 (nI T) (nI pp26) xi xt xn (nI (ns + 1)) (nI vv) (nI bb26))), (mr 5, .inl (kI, 3002, .inl fk))] : va_W) ++ (sT L26 F26)) := hD
                      replace hK : va_K (dC, dI) vwCl [(kI, .int), (kL, .long), (kE, .object RX15), (kI, .int)] s := hK
                      replace hK := hK.sub (tys' := [(kI, .int), (kL, .long), (kE, .object RX15)]) [0, 1, 2] rfl
                      clear hz1 hk1 hPc hDc hKc hFc hP1 hD1 hK1
                      obtain rfl : r_30 = 0 := hw
                      refine lv_istore_n (lv' := [(2, .int 0), (0, .ref m9), (1, .ref ee)]) hx hb dX23_list_88 rfl hl (by decide) rfl (fun ls hl => ?_)
                      refine lv_goto (tgt := 62) hx hb dX23_list_89 (by decide) ?_
                      refine W.widen (k := (8 * (pp26 - pp) - 3 * (n + 1) - 8 * 0)) (n := (120 * (pp26 - pp) + 4 * cp27 + 8 - 64 * (n + 1) - 120 * 0)) (by omega) (by omega) ?_
                      exact ih1 pp26 bb26 la27 sa27 cp27 (n + 1) 0 ff26 xa26 0 L26 F26 f27 g27 _ _ _ (⟨by omega, by omega, by omega, by omega, by omega, by omega, by omega, by omega, by omega, by omega, by omega, hT⟩) (Or.inl hz_29) (hr2.tr hf27_0.1) (fun i hi => by
                        by_cases e9 : i = n
                        · subst e9; exact ⟨_, hf28_2.1, hf27_0.2⟩
                        · obtain ⟨x9, y9, z9⟩ := hr3 i (by omega); exact ⟨x9, (hf28_1 i (by omega)).1.trans y9, xO_ex hf27_0.1 z9⟩) (fun q9 => absurd q9 hz_29) (hP.subT [2, 3, 4, 5, 6, 0, 1] rfl) (hD.subT [2, 3, 4, 5, 6, 0, 1] (by decide) rfl) hS (lv_sub hl [0, 1, 2] rfl)
                · replace hPc := hP.subF (f' := [(m9, .inr (23, mA mr mv vf xl (nI zs) ff1 xa1 (nI T) (nI pp1) xi xt xn (nI (ns + 1)) (nI vv) (nI bb1)))]) [3] rfl
                  replace hDc := hD.subF (f' := [(m9, .inr (23, mA mr mv vf xl (nI zs) ff1 xa1 (nI T) (nI pp1) xi xt xn (nI (ns + 1)) (nI vv) (nI bb1)))]) [3] (by decide) rfl
                  replace hKc := hK.sub (tys' := []) [] rfl
                  replace hFc := va_freeT (wc := [(m9, .inr (23, mA mr mv vf xl (nI zs) ff1 xa1 (nI T) (nI pp1) xi xt xn (nI (ns + 1)) (nI vv) (nI bb1)))]) hD hS hA [3] rfl
                  refine va_calli (va_runV (As := []) (rest := []) ⟨hx, hb, hml, hown, hts⟩ (c_rokB l dC dI m9 mr mv vf xl xa1 xi xt xn zs T pp1 (ns + 1) vv bb1 kI fk fa ff1 H.size hz_23) (cwV 0 hts g_c_xli3_c_rokB_63 rfl rfl rfl (by decide +kernel) ⟨by show 0 + 1 ≤ 2 + 12 * k; omega, by show 8 + (1 + 11) + (0) ≤ 43 + 279 * k; omega⟩) ⟨fun a U g mk q => by obtain ⟨q0, q1, qP, qK, qD⟩ := q; exact ⟨q0, q1, qP, va_K.moved (u := U) (U := U.calling g mk a) (Vm.Alike.refl U.vm) qK, qD⟩, va_recv hKc hPc (ci := 23) (q0 := 0) rfl rfl, fun U hU hW => ⟨rfl, by rw [hU], by rw [hU]; exact hPc, va_K.moved hW.alike hKc, hDc.weaken (fun _ _ _ _ => trivial)⟩⟩ rfl rfl hl.1 rfl (lv_room (Nat.le_of_ble_eq_true rfl)) dX23_list_63 ⟨(show (8 * (pp1 - pp) - 3 * n - 8 * cm) + 0 ≤ (8 * (T - pp) + 3) by omega), (show (120 * (pp1 - pp) + 4 * cp + 8 - 64 * n - 120 * cm) + 0 ≤ (120 * (T - pp) + 280) by omega)⟩) hS (fun q _ h => hFc q h) hFc (fun r_24 u tS H1 locs ht hvm hw hB hz1 hk1 hS => ?_)
                  obtain ⟨hP1, hK1, hD1⟩ := hB
                  rw [ht] at hP1
                  replace hK1 := va_K.moved hvm.symm hK1
                  obtain ⟨hPj, hDj⟩ := va_joinT (wr := [(ee, .inr (15, [.int 3, .int tx, .int gx, .int nx, .int 0, .int 0, .long 0, .int 0, .null, .ref la, .ref sa, .int (nI n), .null, .null])), (la, .inl (kE, cp, .inr (.inr (.inr (.inr f))))), (sa, .inl (kI, cp, .inl g)), (mr 5, .inl (kI, 3002, .inl fk)), (mr 6, .inl (kI, 3002, .inl fa)), (mr 8, .inl (kL, 3002, .inr (.inl fn)))]) (w1 := [(m9, .inr (23, mA mr mv vf xl (nI zs) ff1 xa1 (nI T) (nI pp1) xi xt xn (nI (ns + 1)) (nI vv) (nI bb1)))]) hP hD [3] [0, 1, 2, 4, 5, 6] rfl rfl (by decide) (by decide) hk1 hFc hP1 hD1
                  replace hP := hPj
                  replace hD := hDj
                  clear hPj hDj
                  generalize H1 = H at hP hS ⊢
                  replace hP : va_P (dC, dI) vwCl (([(ee, .inr (15, [.int 3, .int tx, .int gx, .int nx, .int 0, .int 0, .long 0, .int 0, .null, .ref la, .ref sa, .int (nI n), .null, .null])), (la, .inl (kE, cp, .inr (.inr (.inr (.inr f))))), (sa, .inl (kI, cp, .inl g)), (mr 5, .inl (kI, 3002, .inl fk)), (mr 6, .inl (kI, 3002, .inl fa)), (mr 8, .inl (kL, 3002, .inr (.inl fn))), (m9, .inr (23, mA mr mv vf xl (nI zs) ff1 xa1 (nI T) (nI pp1) xi xt xn (nI (ns + 1)) (nI vv) (nI bb1)))] : va_W) ++ (sT L1 F1)) H := hP
                  replace hD : va_D A (([(ee, .inr (15, [.int 3, .int tx, .int gx, .int nx, .int 0, .int 0, .long 0, .int 0, .null, .ref la, .ref sa, .int (nI n), .null, .null])), (la, .inl (kE, cp, .inr (.inr (.inr (.inr f))))), (sa, .inl (kI, cp, .inl g)), (mr 5, .inl (kI, 3002, .inl fk)), (mr 6, .inl (kI, 3002, .inl fa)), (mr 8, .inl (kL, 3002, .inr (.inl fn))), (m9, .inr (23, mA mr mv vf xl (nI zs) ff1 xa1 (nI T) (nI pp1) xi xt xn (nI (ns + 1)) (nI vv) (nI bb1)))] : va_W) ++ (sT L1 F1)) := hD
                  replace hK : va_K (dC, dI) vwCl [(kI, .int), (kL, .long), (kE, .object RX15)] s := hK
                  clear hz1 hk1 hPc hDc hKc hFc hP1 hD1 hK1
                  obtain rfl : r_24 = 0 := hw
                  refine lv_if_eq (tgt := 92) hx hb dX23_list_66 (by decide) (fun _ => ?_) (fun c_25 => absurd (by decide) c_25)
                  refine lv_aload_n hx hb dX23_list_92 rfl (lv_at hl 1 rfl) ?_
                  refine lv_dup hx hb dX23_list_93 rfl ?_
                  refine va_get (D := (dC, dI)) (ci := 23) (v := .int (nI (ns + 1))) (C := RX23) (T := TX23) (N := 89) hx hb hts in_c_xli3_X23 hown hK hP 6 rfl rfl 15 (by decide) (hts (.fieldLink RX23 104 "OwnedPlacesModel" "nest" "I") (wm_c_xli3 14 rfl)) (fun _ h9 => h9) rfl dX23_list_94 ?_
                  refine lv_iconst (v := 1) hx hb dX23_list_97 (by decide) ?_
                  refine lv_isub hx hb dX23_list_98 ?_
                  refine lv_topi (fun f_26 ef_26 => ?_)
                  obtain rfl : f_26 = nI ns := ef_26.trans (nI_pred _)
                  refine va_put (D := (dC, dI)) (ci := 23) (v := .int (nI ns)) (ty := .int) (C := RX23) (T := TX23) (N := 89) hx hb hts in_c_xli3_X23 tyX23 tyX23_ok nmX23 hown hK hP hD hS 6 rfl rfl 15 (by decide) (hts (.fieldLink RX23 104 "OwnedPlacesModel" "nest" "I") (wm_c_xli3 14 rfl)) (fun _ h9 => h9) rfl (by decide +kernel) rfl rfl (Nat.le_of_ble_eq_true rfl) dX23_list_99 (fun H locs hP hD hS => ?_)
                  replace hP : va_P (dC, dI) vwCl (([(ee, .inr (15, [.int 3, .int tx, .int gx, .int nx, .int 0, .int 0, .long 0, .int 0, .null, .ref la, .ref sa, .int (nI n), .null, .null])), (la, .inl (kE, cp, .inr (.inr (.inr (.inr f))))), (sa, .inl (kI, cp, .inl g)), (mr 5, .inl (kI, 3002, .inl fk)), (mr 6, .inl (kI, 3002, .inl fa)), (mr 8, .inl (kL, 3002, .inr (.inl fn))), (m9, .inr (23, mA mr mv vf xl (nI zs) ff1 xa1 (nI T) (nI pp1) xi xt xn (nI ns) (nI vv) (nI bb1)))] : va_W) ++ (sT L1 F1)) H := hP
                  replace hD : va_D A (([(ee, .inr (15, [.int 3, .int tx, .int gx, .int nx, .int 0, .int 0, .long 0, .int 0, .null, .ref la, .ref sa, .int (nI n), .null, .null])), (la, .inl (kE, cp, .inr (.inr (.inr (.inr f))))), (sa, .inl (kI, cp, .inl g)), (mr 5, .inl (kI, 3002, .inl fk)), (mr 6, .inl (kI, 3002, .inl fa)), (mr 8, .inl (kL, 3002, .inr (.inl fn))), (m9, .inr (23, mA mr mv vf xl (nI zs) ff1 xa1 (nI T) (nI pp1) xi xt xn (nI ns) (nI vv) (nI bb1)))] : va_W) ++ (sT L1 F1)) := hD
                  refine lv_aload_n hx hb dX23_list_102 rfl (lv_at hl 1 rfl) ?_
                  refine lv_bipush (v := 62) hx hb dX23_list_103 (by decide) ?_
                  replace hPc := hP.subF (f' := [(m9, .inr (23, mA mr mv vf xl (nI zs) ff1 xa1 (nI T) (nI pp1) xi xt xn (nI ns) (nI vv) (nI bb1))), (mr 5, .inl (kI, 3002, .inl fk)), (mr 6, .inl (kI, 3002, .inl fa))]) [6, 3, 4] rfl
                  replace hDc := hD.subF (f' := [(m9, .inr (23, mA mr mv vf xl (nI zs) ff1 xa1 (nI T) (nI pp1) xi xt xn (nI ns) (nI vv) (nI bb1))), (mr 5, .inl (kI, 3002, .inl fk)), (mr 6, .inl (kI, 3002, .inl fa))]) [6, 3, 4] (by decide) rfl
                  replace hKc := hK.sub (tys' := [(kI, .int)]) [0] rfl
                  replace hFc := va_freeT (wc := [(m9, .inr (23, mA mr mv vf xl (nI zs) ff1 xa1 (nI T) (nI pp1) xi xt xn (nI ns) (nI vv) (nI bb1))), (mr 5, .inl (kI, 3002, .inl fk)), (mr 6, .inl (kI, 3002, .inl fa))]) hD hS hA [6, 3, 4] rfl
                  refine va_callv (va_runV (As := [.int 62]) (rest := []) ⟨hx, hb, hml, hown, hts⟩ (c_rtkB l dC dI m9 mr mv vf xl xa1 xi xt xn zs T pp1 ns vv bb1 kI fk fa ff1 62 H.size hz_23) (cwV 1 hts g_c_xli3_c_rtkB_105 rfl rfl rfl (by decide +kernel) ⟨by show 1 + 1 ≤ 2 + 12 * k; omega, by show 8 + (2 + 11) + (20) ≤ 43 + 279 * k; omega⟩) ⟨fun a U g mk q => by obtain ⟨q0, q1, qP, qK, qD⟩ := q; exact ⟨q0, q1, qP, va_K.moved (u := U) (U := U.calling g mk a) (Vm.Alike.refl U.vm) qK, qD⟩, va_recv hKc hPc (ci := 23) (q0 := 0) rfl rfl, fun U hU hW => ⟨rfl, by rw [hU], by rw [hU]; exact hPc, va_K.moved hW.alike hKc, hDc.weaken (fun _ _ _ _ => trivial)⟩⟩ rfl rfl hl.1 rfl (lv_room (Nat.le_of_ble_eq_true rfl)) dX23_list_105 ⟨(show (8 * (pp1 - pp) - 3 * n - 8 * cm) + 0 ≤ (8 * (T - pp) + 3) by omega), (show (120 * (pp1 - pp) + 4 * cp + 8 - 64 * n - 120 * cm) + 0 ≤ (120 * (T - pp) + 280) by omega)⟩) hS (fun q _ h => hFc q h) hFc (fun u tS H1 locs ht hvm hw hB hz1 hk1 hS => ?_)
                  obtain ⟨hP1, hK1, hD1⟩ := hB
                  rw [ht] at hP1
                  replace hK1 := va_K.moved hvm.symm hK1
                  obtain ⟨hPj, hDj⟩ := va_joinT (wr := [(ee, .inr (15, [.int 3, .int tx, .int gx, .int nx, .int 0, .int 0, .long 0, .int 0, .null, .ref la, .ref sa, .int (nI n), .null, .null])), (la, .inl (kE, cp, .inr (.inr (.inr (.inr f))))), (sa, .inl (kI, cp, .inl g)), (mr 8, .inl (kL, 3002, .inr (.inl fn)))]) (w1 := [(m9, .inr (23, mA mr mv vf xl (nI zs) ff1 xa1 (nI T) (nI pp1) xi xt xn (nI ns) (nI vv) (nI bb1))), (mr 5, .inl (kI, 3002, .inl fk)), (mr 6, .inl (kI, 3002, .inl fa))]) hP hD [6, 3, 4] [0, 1, 2, 5] rfl rfl (by decide) (by decide) hk1 hFc hP1 hD1
                  replace hP := hPj
                  replace hD := hDj
                  clear hPj hDj
                  replace hK := hK.app hK1
                  generalize H1 = H at hP hS ⊢
                  replace hP : va_P (dC, dI) vwCl (([(ee, .inr (15, [.int 3, .int tx, .int gx, .int nx, .int 0, .int 0, .long 0, .int 0, .null, .ref la, .ref sa, .int (nI n), .null, .null])), (la, .inl (kE, cp, .inr (.inr (.inr (.inr f))))), (sa, .inl (kI, cp, .inl g)), (mr 8, .inl (kL, 3002, .inr (.inl fn))), (m9, .inr (23, mA mr mv vf xl (nI zs) ff1 xa1 (nI T) (nI pp1) xi xt xn (nI ns) (nI vv) (nI bb1))), (mr 5, .inl (kI, 3002, .inl fk)), (mr 6, .inl (kI, 3002, .inl fa))] : va_W) ++ (sT L1 F1)) H := hP
                  replace hD : va_D A (([(ee, .inr (15, [.int 3, .int tx, .int gx, .int nx, .int 0, .int 0, .long 0, .int 0, .null, .ref la, .ref sa, .int (nI n), .null, .null])), (la, .inl (kE, cp, .inr (.inr (.inr (.inr f))))), (sa, .inl (kI, cp, .inl g)), (mr 8, .inl (kL, 3002, .inr (.inl fn))), (m9, .inr (23, mA mr mv vf xl (nI zs) ff1 xa1 (nI T) (nI pp1) xi xt xn (nI ns) (nI vv) (nI bb1))), (mr 5, .inl (kI, 3002, .inl fk)), (mr 6, .inl (kI, 3002, .inl fa))] : va_W) ++ (sT L1 F1)) := hD
                  replace hK : va_K (dC, dI) vwCl [(kI, .int), (kL, .long), (kE, .object RX15), (kI, .int)] s := hK
                  replace hK := hK.sub (tys' := [(kI, .int), (kL, .long), (kE, .object RX15)]) [0, 1, 2] rfl
                  clear hz1 hk1 hPc hDc hKc hFc hP1 hD1 hK1
                  replace hP : va_P (dC, dI) vwCl ((([(ee, .inr (15, [.int 3, .int tx, .int gx, .int nx, .int 0, .int 0, .long 0, .int 0, .null, .ref la, .ref sa, .int (nI n), .null, .null])), (mr 8, .inl (kL, 3002, .inr (.inl fn))), (m9, .inr (23, mA mr mv vf xl (nI zs) ff1 xa1 (nI T) (nI pp1) xi xt xn (nI ns) (nI vv) (nI bb1))), (mr 5, .inl (kI, 3002, .inl fk)), (mr 6, .inl (kI, 3002, .inl fa))] : va_W) ++ ([(la, .inl (kE, cp, .inr (.inr (.inr (.inr f))))), (sa, .inl (kI, cp, .inl g))] : va_W)) ++ sT L1 F1) H := hP.subT (f' := [(ee, .inr (15, [.int 3, .int tx, .int gx, .int nx, .int 0, .int 0, .long 0, .int 0, .null, .ref la, .ref sa, .int (nI n), .null, .null])), (mr 8, .inl (kL, 3002, .inr (.inl fn))), (m9, .inr (23, mA mr mv vf xl (nI zs) ff1 xa1 (nI T) (nI pp1) xi xt xn (nI ns) (nI vv) (nI bb1))), (mr 5, .inl (kI, 3002, .inl fk)), (mr 6, .inl (kI, 3002, .inl fa)), (la, .inl (kE, cp, .inr (.inr (.inr (.inr f))))), (sa, .inl (kI, cp, .inl g))]) [0, 3, 4, 5, 6, 1, 2] rfl
                  replace hD : va_D A ((([(ee, .inr (15, [.int 3, .int tx, .int gx, .int nx, .int 0, .int 0, .long 0, .int 0, .null, .ref la, .ref sa, .int (nI n), .null, .null])), (mr 8, .inl (kL, 3002, .inr (.inl fn))), (m9, .inr (23, mA mr mv vf xl (nI zs) ff1 xa1 (nI T) (nI pp1) xi xt xn (nI ns) (nI vv) (nI bb1))), (mr 5, .inl (kI, 3002, .inl fk)), (mr 6, .inl (kI, 3002, .inl fa))] : va_W) ++ ([(la, .inl (kE, cp, .inr (.inr (.inr (.inr f))))), (sa, .inl (kI, cp, .inl g))] : va_W)) ++ sT L1 F1) := hD.subT (f' := [(ee, .inr (15, [.int 3, .int tx, .int gx, .int nx, .int 0, .int 0, .long 0, .int 0, .null, .ref la, .ref sa, .int (nI n), .null, .null])), (mr 8, .inl (kL, 3002, .inr (.inl fn))), (m9, .inr (23, mA mr mv vf xl (nI zs) ff1 xa1 (nI T) (nI pp1) xi xt xn (nI ns) (nI vv) (nI bb1))), (mr 5, .inl (kI, 3002, .inl fk)), (mr 6, .inl (kI, 3002, .inl fa)), (la, .inl (kE, cp, .inr (.inr (.inr (.inr f))))), (sa, .inl (kI, cp, .inl g))]) [0, 3, 4, 5, 6, 1, 2] (by decide) rfl
                  obtain ⟨L9, F9, hx9, hm9, hP, hD⟩ := st_fileL [(la, .inl (kE, cp, .inr (.inr (.inr (.inr f))))), (sa, .inl (kI, cp, .inl g))] hP hD
                  have hm9_0 := hm9 _ (List.mem_of_getElem? (i := 0) rfl)
                  have hm9_1 := hm9 _ (List.mem_of_getElem? (i := 1) rfl)
                  refine W.grow (fun hgs0 hgs1 => ?_)
                  have hP9 := hP.subT (f' := [(ee, .inr (15, [.int 3, .int tx, .int gx, .int nx, .int 0, .int 0, .long 0, .int 0, .null, (.ref la), (.ref sa), .int (nI n), .null, .null])), (m9, .inr (23, mA mr mv vf xl (nI zs) ff1 xa1 (nI T) (nI pp1) xi xt xn (nI ns) (nI vv) (nI bb1))), (mr 5, .inl (kI, 3002, .inl fk)), (mr 6, .inl (kI, 3002, .inl fa)), (mr 8, .inl (kL, 3002, .inr (.inl fn)))]) [0, 2, 3, 4, 1] rfl
                  have hD9 := hD.subT (f' := [(ee, .inr (15, [.int 3, .int tx, .int gx, .int nx, .int 0, .int 0, .long 0, .int 0, .null, (.ref la), (.ref sa), .int (nI n), .null, .null])), (m9, .inr (23, mA mr mv vf xl (nI zs) ff1 xa1 (nI T) (nI pp1) xi xt xn (nI ns) (nI vv) (nI bb1))), (mr 5, .inl (kI, 3002, .inl fk)), (mr 6, .inl (kI, 3002, .inl fa)), (mr 8, .inl (kL, 3002, .inr (.inl fn)))]) [0, 2, 3, 4, 1] (by decide) rfl
                  have hK9 := hK.sub (tys' := [(kI, .int), (kL, .long), (kE, .object RX15)]) [0, 1, 2] rfl
                  refine W.widen (k := (8 * (T - pp) + 3)) (n := (120 * (T - pp) + 280)) (by omega) (by omega) ?_
                  subst hQ1
                  exact W.vret hx hb hr (fun tS ht hW => ⟨⟨(), rfl, trivial, L9, F9, ff1, xa1, pp1, bb1, .ref la, .ref sa, n, (hr2).tr hx9, ⟨by omega, by omega, by omega, by omega⟩, (fun q9 => absurd q9 hz_23), by rw [ht]; exact ⟨by omega, by omega⟩, by rw [ht]; exact hP9, va_K.moved hW.alike hK9, hD9⟩, hS.F ht⟩) hS.2.2 dX23_list_108
            refine W.widen (k := (8 * ((pp16 + 1) - pp) - 3 * 1 - 8 * 1)) (n := (120 * ((pp16 + 1) - pp) + 4 * 4 + 8 - 64 * 1 - 120 * 1)) (by omega) (by omega) ?_
            exact key1 (T + 1 - (pp16 + 1) + 1) (pp16 + 1) bb16 la17 sa17 4 1 1 0 xa16 1 L16 F16 f17 g17 _ _ _ (⟨by omega, by omega, by omega, by omega, by omega, by omega, by omega, by omega, by omega, by omega, by omega, hT⟩) (Or.inr (by omega)) hf17_0.1 (fun i hi => by obtain rfl : i = 0 := (by omega); exact ⟨_, hf18_1.1, hf17_0.2⟩) (fun _ => ⟨hg16.1, _, chP_add (chP_0 (f := f17) (g := g17) (Nat.le_refl pp)) (fun i hi => absurd hi (by omega)) hf18_1.1 (hf18_1.2.trans rfl) (by omega) (isE_im exS.rf _ (by omega) hg16.2) (Or.inl ⟨rfl, rfl⟩), Or.inr ⟨by decide, rfl, by omega⟩⟩) (hP.subT [2, 3, 4, 5, 6, 0, 1] rfl) (hD.subT [2, 3, 4, 5, 6, 0, 1] (by decide) rfl) hS (lv_sub hl [0, 1, 2] rfl)
          · replace hPc := hP.subF (f' := [(m9, .inr (23, mA mr mv vf xl (nI zs) 0 xa16 (nI T) (nI pp16) xi xt xn (nI (ns + 1)) (nI vv) (nI bb16))), (mr 5, .inl (kI, 3002, .inl fk))]) [0, 1] rfl
            replace hDc := hD.subF (f' := [(m9, .inr (23, mA mr mv vf xl (nI zs) 0 xa16 (nI T) (nI pp16) xi xt xn (nI (ns + 1)) (nI vv) (nI bb16))), (mr 5, .inl (kI, 3002, .inl fk))]) [0, 1] (by decide) rfl
            replace hKc := hK.sub (tys' := [(kI, .int)]) [0] rfl
            replace hFc := va_freeT (wc := [(m9, .inr (23, mA mr mv vf xl (nI zs) 0 xa16 (nI T) (nI pp16) xi xt xn (nI (ns + 1)) (nI vv) (nI bb16))), (mr 5, .inl (kI, 3002, .inl fk))]) hD hS hA [0, 1] rfl
            refine va_calli (va_runV (As := [.int 57]) (rest := []) ⟨hx, hb, hml, hown, hts⟩ (c_rtsN l dC dI m9 mr mv vf xl xa16 xi xt xn zs T pp16 (ns + 1) vv bb16 kI fk fa 57 H.size hT hf17_1.2.1 hk0 (by decide) hk_20) (cwV 1 hts g_c_xli3_c_rtsN_85 rfl rfl rfl (by decide +kernel) ⟨by show 1 + 1 ≤ 2 + 12 * k; omega, by show 8 + (2 + 11) + (21) ≤ 43 + 279 * k; omega⟩) ⟨fun a U g mk q => by obtain ⟨q0, q1, qP, qK, qD⟩ := q; exact ⟨q0, q1, qP, va_K.moved (u := U) (U := U.calling g mk a) (Vm.Alike.refl U.vm) qK, qD⟩, va_recv hKc hPc (ci := 23) (q0 := 0) rfl rfl, fun U hU hW => ⟨rfl, by rw [hU], by rw [hU]; exact hPc, va_K.moved hW.alike hKc, hDc.weaken (fun _ _ _ _ => trivial)⟩⟩ rfl rfl hl.1 rfl (lv_room (Nat.le_of_ble_eq_true rfl)) dX23_list_85 ⟨(show (8 * (pp16 - (pp + 1)) + 3 + 2) + 0 ≤ (8 * (T - pp) + 3) by omega), (show (120 * (pp16 - (pp + 1)) + 48 + 8) + 0 ≤ (120 * (T - pp) + 280) by omega)⟩) hS (fun q _ h => hFc q h) hFc (fun r_21 u tS H1 locs ht hvm hw hB hz1 hk1 hS => ?_)
            obtain ⟨hP1, hK1, hD1⟩ := hB
            rw [ht] at hP1
            replace hK1 := va_K.moved hvm.symm hK1
            obtain ⟨hPj, hDj⟩ := va_joinT (wr := [(mr 6, .inl (kI, 3002, .inl fa)), (mr 8, .inl (kL, 3002, .inr (.inl fn))), (ee, .inr (15, [.int 3, .int tx, .int gx, .int nx, .int 0, .int 0, .long 0, .int 0, .null, .ref la17, .ref sa17, .int 1, .null, .null])), (la17, .inl (kE, 4, .inr (.inr (.inr (.inr f17))))), (sa17, .inl (kI, 4, .inl g17))]) (w1 := [(m9, .inr (23, mA mr mv vf xl (nI zs) 0 xa16 (nI T) (nI pp16) xi xt xn (nI (ns + 1)) (nI vv) (nI bb16))), (mr 5, .inl (kI, 3002, .inl fk))]) hP hD [0, 1] [2, 3, 4, 5, 6] rfl rfl (by decide) (by decide) hk1 hFc hP1 hD1
            replace hP := hPj
            replace hD := hDj
            clear hPj hDj
            replace hK := hK.app hK1
            generalize H1 = H at hP hS ⊢
            replace hP : va_P (dC, dI) vwCl (([(mr 6, .inl (kI, 3002, .inl fa)), (mr 8, .inl (kL, 3002, .inr (.inl fn))), (ee, .inr (15, [.int 3, .int tx, .int gx, .int nx, .int 0, .int 0, .long 0, .int 0, .null, .ref la17, .ref sa17, .int 1, .null, .null])), (la17, .inl (kE, 4, .inr (.inr (.inr (.inr f17))))), (sa17, .inl (kI, 4, .inl g17)), (m9, .inr (23, mA mr mv vf xl (nI zs) 0 xa16 (nI T) (nI pp16) xi xt xn (nI (ns + 1)) (nI vv) (nI bb16))), (mr 5, .inl (kI, 3002, .inl fk))] : va_W) ++ (sT L16 F16)) H := hP
            replace hD : va_D A (([(mr 6, .inl (kI, 3002, .inl fa)), (mr 8, .inl (kL, 3002, .inr (.inl fn))), (ee, .inr (15, [.int 3, .int tx, .int gx, .int nx, .int 0, .int 0, .long 0, .int 0, .null, .ref la17, .ref sa17, .int 1, .null, .null])), (la17, .inl (kE, 4, .inr (.inr (.inr (.inr f17))))), (sa17, .inl (kI, 4, .inl g17)), (m9, .inr (23, mA mr mv vf xl (nI zs) 0 xa16 (nI T) (nI pp16) xi xt xn (nI (ns + 1)) (nI vv) (nI bb16))), (mr 5, .inl (kI, 3002, .inl fk))] : va_W) ++ (sT L16 F16)) := hD
            replace hK : va_K (dC, dI) vwCl [(kI, .int), (kL, .long), (kE, .object RX15), (kI, .int)] s := hK
            replace hK := hK.sub (tys' := [(kI, .int), (kL, .long), (kE, .object RX15)]) [0, 1, 2] rfl
            clear hz1 hk1 hPc hDc hKc hFc hP1 hD1 hK1
            obtain rfl : r_21 = 0 := hw
            refine lv_istore_n (lv' := [(2, .int 0), (0, .ref m9), (1, .ref ee)]) hx hb dX23_list_88 rfl hl (by decide) rfl (fun ls hl => ?_)
            refine lv_goto (tgt := 62) hx hb dX23_list_89 (by decide) ?_
            refine W_q (fun Q1 hQ1 => ?_)
            have key1 : ∀ (n1 : Nat) (pp1 bb1 la sa cp n cm : Nat) (ff1 xa1 mo : Int32) (L1 : List Nat) (F1 : Nat → va_E) (f : Nat → Option Nat) (g : Nat → Int32) (H : Heap) (locs : List Loc) (ls : Array Slot), (1 ≤ n1 ∧ pp ≤ pp1 ∧ pp1 < T ∧ bb ≤ bb1 ∧ bb1 ≤ bb + (pp1 - pp) ∧ 1 ≤ n ∧ n ≤ cp ∧ 4 ≤ cp ∧ cp ≤ 4 + 2 * n ∧ pp + n + cm ≤ pp1 ∧ cm ≤ 1 ∧ T ≤ 3001) → (ff1 ≠ 0 ∨ T + 1 ≤ pp1 + n1) → (exS L F L1 F1) → (∀ i : Nat, i < n → ∃ x : Nat, f i = some x ∧ xO L1 F1 x) → (ff1 = 0 → bb1 ≤ 54 ∧ ∃ q0 : Nat, chP 0 (isE L1 F1 kE kI (24 * k)) f g n pp q0 bb bb1 ∧ ((mo = 0 ∧ cm = 0 ∧ q0 ≤ pp1) ∨ (mo ≠ 0 ∧ cm = 1 ∧ q0 < pp1))) → va_P (dC, dI) vwCl (([(ee, .inr (15, [.int 3, .int tx, .int gx, .int nx, .int 0, .int 0, .long 0, .int 0, .null, .ref la, .ref sa, .int (nI n), .null, .null])), (la, .inl (kE, cp, .inr (.inr (.inr (.inr f))))), (sa, .inl (kI, cp, .inl g)), (m9, .inr (23, mA mr mv vf xl (nI zs) ff1 xa1 (nI T) (nI pp1) xi xt xn (nI (ns + 1)) (nI vv) (nI bb1))), (mr 5, .inl (kI, 3002, .inl fk)), (mr 6, .inl (kI, 3002, .inl fa)), (mr 8, .inl (kL, 3002, .inr (.inl fn)))] : va_W) ++ (sT L1 F1)) H → va_D A (([(ee, .inr (15, [.int 3, .int tx, .int gx, .int nx, .int 0, .int 0, .long 0, .int 0, .null, .ref la, .ref sa, .int (nI n), .null, .null])), (la, .inl (kE, cp, .inr (.inr (.inr (.inr f))))), (sa, .inl (kI, cp, .inl g)), (m9, .inr (23, mA mr mv vf xl (nI zs) ff1 xa1 (nI T) (nI pp1) xi xt xn (nI (ns + 1)) (nI vv) (nI bb1))), (mr 5, .inl (kI, 3002, .inl fk)), (mr 6, .inl (kI, 3002, .inl fa)), (mr 8, .inl (kL, 3002, .inr (.inl fn)))] : va_W) ++ (sT L1 F1)) → va_S A s.heap H locs → lv_has ls 3 [(2, .int mo), (0, .ref m9), (1, .ref ee)] → W p l e (headSpec wp_c_xli3 ({ frames := 2 + 12 * k, cells := (8 * (T - pp) + 3), slots := (120 * (T - pp) + 280), locals := 43 + 279 * k })).room s m ([.ref m9, .ref ee] : List Value).toArray below meth c H locs (8 * (pp1 - pp) - 3 * n - 8 * cm) (120 * (pp1 - pp) + 4 * cp + 8 - 64 * n - 120 * cm) Q1 (F0 m 62 ls []) := by
              intro n1
              induction n1 with
              | zero => intro pp1 bb1 la sa cp n cm ff1 xa1 mo L1 F1 f g H locs ls hr0 hr1 hr2 hr3 hr4; exact absurd hr0 (by omega)
              | succ n1 ih1 =>
                intro pp1 bb1 la sa cp n cm ff1 xa1 mo L1 F1 f g H locs ls hr0 hr1 hr2 hr3 hr4 hP hD hS hl
                refine lv_aload_n hx hb dX23_list_62 rfl (lv_at hl 1 rfl) ?_
                by_cases hz_22 : ff1 = 0
                · subst hz_22
                  have hr9 := hr4 rfl
                  replace hPc := hP.subF (f' := [(m9, .inr (23, mA mr mv vf xl (nI zs) 0 xa1 (nI T) (nI pp1) xi xt xn (nI (ns + 1)) (nI vv) (nI bb1)))]) [3] rfl
                  replace hDc := hD.subF (f' := [(m9, .inr (23, mA mr mv vf xl (nI zs) 0 xa1 (nI T) (nI pp1) xi xt xn (nI (ns + 1)) (nI vv) (nI bb1)))]) [3] (by decide) rfl
                  replace hKc := hK.sub (tys' := []) [] rfl
                  replace hFc := va_freeT (wc := [(m9, .inr (23, mA mr mv vf xl (nI zs) 0 xa1 (nI T) (nI pp1) xi xt xn (nI (ns + 1)) (nI vv) (nI bb1)))]) hD hS hA [3] rfl
                  refine va_calli (va_runV (As := []) (rest := []) ⟨hx, hb, hml, hown, hts⟩ (c_rok0 l dC dI m9 mr mv vf xl xa1 xi xt xn zs T pp1 (ns + 1) vv bb1 kI fk fa H.size) (cwV 0 hts g_c_xli3_c_rok0_63 rfl rfl rfl (by decide +kernel) ⟨by show 0 + 1 ≤ 2 + 12 * k; omega, by show 8 + (1 + 11) + (0) ≤ 43 + 279 * k; omega⟩) ⟨fun a U g mk q => by obtain ⟨q0, q1, qP, qK, qD⟩ := q; exact ⟨q0, q1, qP, va_K.moved (u := U) (U := U.calling g mk a) (Vm.Alike.refl U.vm) qK, qD⟩, va_recv hKc hPc (ci := 23) (q0 := 0) rfl rfl, fun U hU hW => ⟨rfl, by rw [hU], by rw [hU]; exact hPc, va_K.moved hW.alike hKc, hDc.weaken (fun _ _ _ _ => trivial)⟩⟩ rfl rfl hl.1 rfl (lv_room (Nat.le_of_ble_eq_true rfl)) dX23_list_63 ⟨(show (8 * (pp1 - pp) - 3 * n - 8 * cm) + 0 ≤ (8 * (T - pp) + 3) by omega), (show (120 * (pp1 - pp) + 4 * cp + 8 - 64 * n - 120 * cm) + 0 ≤ (120 * (T - pp) + 280) by omega)⟩) hS (fun q _ h => hFc q h) hFc (fun r_23 u tS H1 locs ht hvm hw hB hz1 hk1 hS => ?_)
                  obtain ⟨hP1, hK1, hD1⟩ := hB
                  rw [ht] at hP1
                  replace hK1 := va_K.moved hvm.symm hK1
                  obtain ⟨hPj, hDj⟩ := va_joinT (wr := [(ee, .inr (15, [.int 3, .int tx, .int gx, .int nx, .int 0, .int 0, .long 0, .int 0, .null, .ref la, .ref sa, .int (nI n), .null, .null])), (la, .inl (kE, cp, .inr (.inr (.inr (.inr f))))), (sa, .inl (kI, cp, .inl g)), (mr 5, .inl (kI, 3002, .inl fk)), (mr 6, .inl (kI, 3002, .inl fa)), (mr 8, .inl (kL, 3002, .inr (.inl fn)))]) (w1 := [(m9, .inr (23, mA mr mv vf xl (nI zs) 0 xa1 (nI T) (nI pp1) xi xt xn (nI (ns + 1)) (nI vv) (nI bb1)))]) hP hD [3] [0, 1, 2, 4, 5, 6] rfl rfl (by decide) (by decide) hk1 hFc hP1 hD1
                  replace hP := hPj
                  replace hD := hDj
                  clear hPj hDj
                  generalize H1 = H at hP hS ⊢
                  replace hP : va_P (dC, dI) vwCl (([(ee, .inr (15, [.int 3, .int tx, .int gx, .int nx, .int 0, .int 0, .long 0, .int 0, .null, .ref la, .ref sa, .int (nI n), .null, .null])), (la, .inl (kE, cp, .inr (.inr (.inr (.inr f))))), (sa, .inl (kI, cp, .inl g)), (mr 5, .inl (kI, 3002, .inl fk)), (mr 6, .inl (kI, 3002, .inl fa)), (mr 8, .inl (kL, 3002, .inr (.inl fn))), (m9, .inr (23, mA mr mv vf xl (nI zs) 0 xa1 (nI T) (nI pp1) xi xt xn (nI (ns + 1)) (nI vv) (nI bb1)))] : va_W) ++ (sT L1 F1)) H := hP
                  replace hD : va_D A (([(ee, .inr (15, [.int 3, .int tx, .int gx, .int nx, .int 0, .int 0, .long 0, .int 0, .null, .ref la, .ref sa, .int (nI n), .null, .null])), (la, .inl (kE, cp, .inr (.inr (.inr (.inr f))))), (sa, .inl (kI, cp, .inl g)), (mr 5, .inl (kI, 3002, .inl fk)), (mr 6, .inl (kI, 3002, .inl fa)), (mr 8, .inl (kL, 3002, .inr (.inl fn))), (m9, .inr (23, mA mr mv vf xl (nI zs) 0 xa1 (nI T) (nI pp1) xi xt xn (nI (ns + 1)) (nI vv) (nI bb1)))] : va_W) ++ (sT L1 F1)) := hD
                  replace hK : va_K (dC, dI) vwCl [(kI, .int), (kL, .long), (kE, .object RX15)] s := hK
                  clear hz1 hk1 hPc hDc hKc hFc hP1 hD1 hK1
                  obtain rfl : r_23 = 1 := hw
                  refine lv_if_eq (tgt := 92) hx hb dX23_list_66 (by decide) (fun c_24 => absurd c_24 (by decide)) (fun _ => ?_)
                  refine lv_iload_n hx hb dX23_list_69 rfl (lv_at hl 0 rfl) ?_
                  refine lv_if_eq (tgt := 92) hx hb dX23_list_70 (by decide) (fun hm_25 => ?_) (fun hm_25 => ?_)
                  · obtain ⟨q0, hr5, hr6⟩ := hr9.2
                    replace hr6 : q0 ≤ pp1 := by omega
                    refine lv_aload_n hx hb dX23_list_92 rfl (lv_at hl 1 rfl) ?_
                    refine lv_dup hx hb dX23_list_93 rfl ?_
                    refine va_get (D := (dC, dI)) (ci := 23) (v := .int (nI (ns + 1))) (C := RX23) (T := TX23) (N := 89) hx hb hts in_c_xli3_X23 hown hK hP 6 rfl rfl 15 (by decide) (hts (.fieldLink RX23 104 "OwnedPlacesModel" "nest" "I") (wm_c_xli3 14 rfl)) (fun _ h9 => h9) rfl dX23_list_94 ?_
                    refine lv_iconst (v := 1) hx hb dX23_list_97 (by decide) ?_
                    refine lv_isub hx hb dX23_list_98 ?_
                    refine lv_topi (fun f_26 ef_26 => ?_)
                    obtain rfl : f_26 = nI ns := ef_26.trans (nI_pred _)
                    refine va_put (D := (dC, dI)) (ci := 23) (v := .int (nI ns)) (ty := .int) (C := RX23) (T := TX23) (N := 89) hx hb hts in_c_xli3_X23 tyX23 tyX23_ok nmX23 hown hK hP hD hS 6 rfl rfl 15 (by decide) (hts (.fieldLink RX23 104 "OwnedPlacesModel" "nest" "I") (wm_c_xli3 14 rfl)) (fun _ h9 => h9) rfl (by decide +kernel) rfl rfl (Nat.le_of_ble_eq_true rfl) dX23_list_99 (fun H locs hP hD hS => ?_)
                    replace hP : va_P (dC, dI) vwCl (([(ee, .inr (15, [.int 3, .int tx, .int gx, .int nx, .int 0, .int 0, .long 0, .int 0, .null, .ref la, .ref sa, .int (nI n), .null, .null])), (la, .inl (kE, cp, .inr (.inr (.inr (.inr f))))), (sa, .inl (kI, cp, .inl g)), (mr 5, .inl (kI, 3002, .inl fk)), (mr 6, .inl (kI, 3002, .inl fa)), (mr 8, .inl (kL, 3002, .inr (.inl fn))), (m9, .inr (23, mA mr mv vf xl (nI zs) 0 xa1 (nI T) (nI pp1) xi xt xn (nI ns) (nI vv) (nI bb1)))] : va_W) ++ (sT L1 F1)) H := hP
                    replace hD : va_D A (([(ee, .inr (15, [.int 3, .int tx, .int gx, .int nx, .int 0, .int 0, .long 0, .int 0, .null, .ref la, .ref sa, .int (nI n), .null, .null])), (la, .inl (kE, cp, .inr (.inr (.inr (.inr f))))), (sa, .inl (kI, cp, .inl g)), (mr 5, .inl (kI, 3002, .inl fk)), (mr 6, .inl (kI, 3002, .inl fa)), (mr 8, .inl (kL, 3002, .inr (.inl fn))), (m9, .inr (23, mA mr mv vf xl (nI zs) 0 xa1 (nI T) (nI pp1) xi xt xn (nI ns) (nI vv) (nI bb1)))] : va_W) ++ (sT L1 F1)) := hD
                    refine lv_aload_n hx hb dX23_list_102 rfl (lv_at hl 1 rfl) ?_
                    refine lv_bipush (v := 62) hx hb dX23_list_103 (by decide) ?_
                    by_cases hk_27 : fk pp1 = 62
                    · replace hPc := hP.subF (f' := [(m9, .inr (23, mA mr mv vf xl (nI zs) 0 xa1 (nI T) (nI pp1) xi xt xn (nI ns) (nI vv) (nI bb1))), (mr 5, .inl (kI, 3002, .inl fk)), (mr 6, .inl (kI, 3002, .inl fa))]) [6, 3, 4] rfl
                      replace hDc := hD.subF (f' := [(m9, .inr (23, mA mr mv vf xl (nI zs) 0 xa1 (nI T) (nI pp1) xi xt xn (nI ns) (nI vv) (nI bb1))), (mr 5, .inl (kI, 3002, .inl fk)), (mr 6, .inl (kI, 3002, .inl fa))]) [6, 3, 4] (by decide) rfl
                      replace hKc := hK.sub (tys' := [(kI, .int)]) [0] rfl
                      replace hFc := va_freeT (wc := [(m9, .inr (23, mA mr mv vf xl (nI zs) 0 xa1 (nI T) (nI pp1) xi xt xn (nI ns) (nI vv) (nI bb1))), (mr 5, .inl (kI, 3002, .inl fk)), (mr 6, .inl (kI, 3002, .inl fa))]) hD hS hA [6, 3, 4] rfl
                      refine va_callv (va_runV (As := [.int 62]) (rest := []) ⟨hx, hb, hml, hown, hts⟩ (c_rtkY l dC dI m9 mr mv vf xl xa1 xi xt xn zs T pp1 ns vv bb1 kI fk fa 62 H.size hT hr0.2.2.1 hk0 (by decide) hk_27) (cwV 1 hts g_c_xli3_c_rtkY_105 rfl rfl rfl (by decide +kernel) ⟨by show 1 + 1 ≤ 2 + 12 * k; omega, by show 8 + (2 + 11) + (21) ≤ 43 + 279 * k; omega⟩) ⟨fun a U g mk q => by obtain ⟨q0, q1, qP, qK, qD⟩ := q; exact ⟨q0, q1, qP, va_K.moved (u := U) (U := U.calling g mk a) (Vm.Alike.refl U.vm) qK, qD⟩, va_recv hKc hPc (ci := 23) (q0 := 0) rfl rfl, fun U hU hW => ⟨rfl, by rw [hU], by rw [hU]; exact hPc, va_K.moved hW.alike hKc, hDc.weaken (fun _ _ _ _ => trivial)⟩⟩ rfl rfl hl.1 rfl (lv_room (Nat.le_of_ble_eq_true rfl)) dX23_list_105 ⟨(show (8 * (pp1 - pp) - 3 * n - 8 * cm) + 0 ≤ (8 * (T - pp) + 3) by omega), (show (120 * (pp1 - pp) + 4 * cp + 8 - 64 * n - 120 * cm) + 0 ≤ (120 * (T - pp) + 280) by omega)⟩) hS (fun q _ h => hFc q h) hFc (fun u tS H1 locs ht hvm hw hB hz1 hk1 hS => ?_)
                      obtain ⟨hP1, hK1, hD1⟩ := hB
                      rw [ht] at hP1
                      replace hK1 := va_K.moved hvm.symm hK1
                      obtain ⟨hPj, hDj⟩ := va_joinT (wr := [(ee, .inr (15, [.int 3, .int tx, .int gx, .int nx, .int 0, .int 0, .long 0, .int 0, .null, .ref la, .ref sa, .int (nI n), .null, .null])), (la, .inl (kE, cp, .inr (.inr (.inr (.inr f))))), (sa, .inl (kI, cp, .inl g)), (mr 8, .inl (kL, 3002, .inr (.inl fn)))]) (w1 := [(m9, .inr (23, mA mr mv vf xl (nI zs) 0 xa1 (nI T) (nI (pp1 + 1)) xi xt xn (nI ns) (nI vv) (nI bb1))), (mr 5, .inl (kI, 3002, .inl fk)), (mr 6, .inl (kI, 3002, .inl fa))]) hP hD [6, 3, 4] [0, 1, 2, 5] rfl rfl (by decide) (by decide) hk1 hFc hP1 hD1
                      replace hP := hPj
                      replace hD := hDj
                      clear hPj hDj
                      replace hK := hK.app hK1
                      generalize H1 = H at hP hS ⊢
                      replace hP : va_P (dC, dI) vwCl (([(ee, .inr (15, [.int 3, .int tx, .int gx, .int nx, .int 0, .int 0, .long 0, .int 0, .null, .ref la, .ref sa, .int (nI n), .null, .null])), (la, .inl (kE, cp, .inr (.inr (.inr (.inr f))))), (sa, .inl (kI, cp, .inl g)), (mr 8, .inl (kL, 3002, .inr (.inl fn))), (m9, .inr (23, mA mr mv vf xl (nI zs) 0 xa1 (nI T) (nI (pp1 + 1)) xi xt xn (nI ns) (nI vv) (nI bb1))), (mr 5, .inl (kI, 3002, .inl fk)), (mr 6, .inl (kI, 3002, .inl fa))] : va_W) ++ (sT L1 F1)) H := hP
                      replace hD : va_D A (([(ee, .inr (15, [.int 3, .int tx, .int gx, .int nx, .int 0, .int 0, .long 0, .int 0, .null, .ref la, .ref sa, .int (nI n), .null, .null])), (la, .inl (kE, cp, .inr (.inr (.inr (.inr f))))), (sa, .inl (kI, cp, .inl g)), (mr 8, .inl (kL, 3002, .inr (.inl fn))), (m9, .inr (23, mA mr mv vf xl (nI zs) 0 xa1 (nI T) (nI (pp1 + 1)) xi xt xn (nI ns) (nI vv) (nI bb1))), (mr 5, .inl (kI, 3002, .inl fk)), (mr 6, .inl (kI, 3002, .inl fa))] : va_W) ++ (sT L1 F1)) := hD
                      replace hK : va_K (dC, dI) vwCl [(kI, .int), (kL, .long), (kE, .object RX15), (kI, .int)] s := hK
                      replace hK := hK.sub (tys' := [(kI, .int), (kL, .long), (kE, .object RX15)]) [0, 1, 2] rfl
                      clear hz1 hk1 hPc hDc hKc hFc hP1 hD1 hK1
                      have hp_29 : pp1 + 1 < T := kne3 hk0 hr0.2.2.1 hk_27 (by decide)
                      replace hP : va_P (dC, dI) vwCl ((([(ee, .inr (15, [.int 3, .int tx, .int gx, .int nx, .int 0, .int 0, .long 0, .int 0, .null, .ref la, .ref sa, .int (nI n), .null, .null])), (mr 8, .inl (kL, 3002, .inr (.inl fn))), (m9, .inr (23, mA mr mv vf xl (nI zs) 0 xa1 (nI T) (nI (pp1 + 1)) xi xt xn (nI ns) (nI vv) (nI bb1))), (mr 5, .inl (kI, 3002, .inl fk)), (mr 6, .inl (kI, 3002, .inl fa))] : va_W) ++ ([(la, .inl (kE, cp, .inr (.inr (.inr (.inr f))))), (sa, .inl (kI, cp, .inl g))] : va_W)) ++ sT L1 F1) H := hP.subT (f' := [(ee, .inr (15, [.int 3, .int tx, .int gx, .int nx, .int 0, .int 0, .long 0, .int 0, .null, .ref la, .ref sa, .int (nI n), .null, .null])), (mr 8, .inl (kL, 3002, .inr (.inl fn))), (m9, .inr (23, mA mr mv vf xl (nI zs) 0 xa1 (nI T) (nI (pp1 + 1)) xi xt xn (nI ns) (nI vv) (nI bb1))), (mr 5, .inl (kI, 3002, .inl fk)), (mr 6, .inl (kI, 3002, .inl fa)), (la, .inl (kE, cp, .inr (.inr (.inr (.inr f))))), (sa, .inl (kI, cp, .inl g))]) [0, 3, 4, 5, 6, 1, 2] rfl
                      replace hD : va_D A ((([(ee, .inr (15, [.int 3, .int tx, .int gx, .int nx, .int 0, .int 0, .long 0, .int 0, .null, .ref la, .ref sa, .int (nI n), .null, .null])), (mr 8, .inl (kL, 3002, .inr (.inl fn))), (m9, .inr (23, mA mr mv vf xl (nI zs) 0 xa1 (nI T) (nI (pp1 + 1)) xi xt xn (nI ns) (nI vv) (nI bb1))), (mr 5, .inl (kI, 3002, .inl fk)), (mr 6, .inl (kI, 3002, .inl fa))] : va_W) ++ ([(la, .inl (kE, cp, .inr (.inr (.inr (.inr f))))), (sa, .inl (kI, cp, .inl g))] : va_W)) ++ sT L1 F1) := hD.subT (f' := [(ee, .inr (15, [.int 3, .int tx, .int gx, .int nx, .int 0, .int 0, .long 0, .int 0, .null, .ref la, .ref sa, .int (nI n), .null, .null])), (mr 8, .inl (kL, 3002, .inr (.inl fn))), (m9, .inr (23, mA mr mv vf xl (nI zs) 0 xa1 (nI T) (nI (pp1 + 1)) xi xt xn (nI ns) (nI vv) (nI bb1))), (mr 5, .inl (kI, 3002, .inl fk)), (mr 6, .inl (kI, 3002, .inl fa)), (la, .inl (kE, cp, .inr (.inr (.inr (.inr f))))), (sa, .inl (kI, cp, .inl g))]) [0, 3, 4, 5, 6, 1, 2] (by decide) rfl
                      obtain ⟨L9, F9, hx9, hm9, hP, hD⟩ := st_fileL [(la, .inl (kE, cp, .inr (.inr (.inr (.inr f))))), (sa, .inl (kI, cp, .inl g))] hP hD
                      have hm9_0 := hm9 _ (List.mem_of_getElem? (i := 0) rfl)
                      have hm9_1 := hm9 _ (List.mem_of_getElem? (i := 1) rfl)
                      refine W.grow (fun hgs0 hgs1 => ?_)
                      have hP9 := hP.subT (f' := [(ee, .inr (15, [.int 3, .int tx, .int gx, .int nx, .int 0, .int 0, .long 0, .int 0, .null, (.ref la), (.ref sa), .int (nI n), .null, .null])), (m9, .inr (23, mA mr mv vf xl (nI zs) 0 xa1 (nI T) (nI (pp1 + 1)) xi xt xn (nI ns) (nI vv) (nI bb1))), (mr 5, .inl (kI, 3002, .inl fk)), (mr 6, .inl (kI, 3002, .inl fa)), (mr 8, .inl (kL, 3002, .inr (.inl fn)))]) [0, 2, 3, 4, 1] rfl
                      have hD9 := hD.subT (f' := [(ee, .inr (15, [.int 3, .int tx, .int gx, .int nx, .int 0, .int 0, .long 0, .int 0, .null, (.ref la), (.ref sa), .int (nI n), .null, .null])), (m9, .inr (23, mA mr mv vf xl (nI zs) 0 xa1 (nI T) (nI (pp1 + 1)) xi xt xn (nI ns) (nI vv) (nI bb1))), (mr 5, .inl (kI, 3002, .inl fk)), (mr 6, .inl (kI, 3002, .inl fa)), (mr 8, .inl (kL, 3002, .inr (.inl fn)))]) [0, 2, 3, 4, 1] (by decide) rfl
                      have hK9 := hK.sub (tys' := [(kI, .int), (kL, .long), (kE, .object RX15)]) [0, 1, 2] rfl
                      refine W.widen (k := (8 * (T - pp) + 3)) (n := (120 * (T - pp) + 280)) (by omega) (by omega) ?_
                      subst hQ1
                      exact W.vret hx hb hr (fun tS ht hW => ⟨⟨(), rfl, trivial, L9, F9, 0, xa1, pp1 + 1, bb1, .ref la, .ref sa, n, (hr2).tr hx9, ⟨by omega, by omega, by omega, by omega⟩, (fun _ => ⟨hr9.1, by omega, Or.inr ⟨la, sa, cp, q0, f, g, rfl, rfl, hm9_0.1, hm9_1.1, hm9_0.2, hm9_1.2, by omega, by omega, chP_im (fun x p q b c z => isE_im hx9 _ (Nat.le_refl _) z) hr5⟩⟩), by rw [ht]; exact ⟨by omega, by omega⟩, by rw [ht]; exact hP9, va_K.moved hW.alike hK9, hD9⟩, hS.F ht⟩) hS.2.2 dX23_list_108
                    · replace hPc := hP.subF (f' := [(m9, .inr (23, mA mr mv vf xl (nI zs) 0 xa1 (nI T) (nI pp1) xi xt xn (nI ns) (nI vv) (nI bb1))), (mr 5, .inl (kI, 3002, .inl fk)), (mr 6, .inl (kI, 3002, .inl fa))]) [6, 3, 4] rfl
                      replace hDc := hD.subF (f' := [(m9, .inr (23, mA mr mv vf xl (nI zs) 0 xa1 (nI T) (nI pp1) xi xt xn (nI ns) (nI vv) (nI bb1))), (mr 5, .inl (kI, 3002, .inl fk)), (mr 6, .inl (kI, 3002, .inl fa))]) [6, 3, 4] (by decide) rfl
                      replace hKc := hK.sub (tys' := [(kI, .int)]) [0] rfl
                      replace hFc := va_freeT (wc := [(m9, .inr (23, mA mr mv vf xl (nI zs) 0 xa1 (nI T) (nI pp1) xi xt xn (nI ns) (nI vv) (nI bb1))), (mr 5, .inl (kI, 3002, .inl fk)), (mr 6, .inl (kI, 3002, .inl fa))]) hD hS hA [6, 3, 4] rfl
                      refine va_callv (va_runV (As := [.int 62]) (rest := []) ⟨hx, hb, hml, hown, hts⟩ (c_rtkN l dC dI m9 mr mv vf xl xa1 xi xt xn zs T pp1 ns vv bb1 kI fk fa 62 H.size hT hr0.2.2.1 hk0 (by decide) hk_27) (cwV 1 hts g_c_xli3_c_rtkN_105 rfl rfl rfl (by decide +kernel) ⟨by show 1 + 1 ≤ 2 + 12 * k; omega, by show 8 + (2 + 11) + (22) ≤ 43 + 279 * k; omega⟩) ⟨fun a U g mk q => by obtain ⟨q0, q1, qP, qK, qD⟩ := q; exact ⟨q0, q1, qP, va_K.moved (u := U) (U := U.calling g mk a) (Vm.Alike.refl U.vm) qK, qD⟩, va_recv hKc hPc (ci := 23) (q0 := 0) rfl rfl, fun U hU hW => ⟨rfl, by rw [hU], by rw [hU]; exact hPc, va_K.moved hW.alike hKc, hDc.weaken (fun _ _ _ _ => trivial)⟩⟩ rfl rfl hl.1 rfl (lv_room (Nat.le_of_ble_eq_true rfl)) dX23_list_105 ⟨(show (8 * (pp1 - pp) - 3 * n - 8 * cm) + 0 ≤ (8 * (T - pp) + 3) by omega), (show (120 * (pp1 - pp) + 4 * cp + 8 - 64 * n - 120 * cm) + 0 ≤ (120 * (T - pp) + 280) by omega)⟩) hS (fun q _ h => hFc q h) hFc (fun u tS H1 locs ht hvm hw hB hz1 hk1 hS => ?_)
                      obtain ⟨ff_28, xa_29, hf30_0, hP1, hK1, hD1⟩ := hB
                      rw [ht] at hP1
                      replace hK1 := va_K.moved hvm.symm hK1
                      obtain ⟨hPj, hDj⟩ := va_joinT (wr := [(ee, .inr (15, [.int 3, .int tx, .int gx, .int nx, .int 0, .int 0, .long 0, .int 0, .null, .ref la, .ref sa, .int (nI n), .null, .null])), (la, .inl (kE, cp, .inr (.inr (.inr (.inr f))))), (sa, .inl (kI, cp, .inl g)), (mr 8, .inl (kL, 3002, .inr (.inl fn)))]) (w1 := [(m9, .inr (23, mA mr mv vf xl (nI zs) ff_28 xa_29 (nI T) (nI pp1) xi xt xn (nI ns) (nI vv) (nI bb1))), (mr 5, .inl (kI, 3002, .inl fk)), (mr 6, .inl (kI, 3002, .inl fa))]) hP hD [6, 3, 4] [0, 1, 2, 5] rfl rfl (by decide) (by decide) hk1 hFc hP1 hD1
                      replace hP := hPj
                      replace hD := hDj
                      clear hPj hDj
                      replace hK := hK.app hK1
                      generalize H1 = H at hP hS ⊢
                      replace hP : va_P (dC, dI) vwCl (([(ee, .inr (15, [.int 3, .int tx, .int gx, .int nx, .int 0, .int 0, .long 0, .int 0, .null, .ref la, .ref sa, .int (nI n), .null, .null])), (la, .inl (kE, cp, .inr (.inr (.inr (.inr f))))), (sa, .inl (kI, cp, .inl g)), (mr 8, .inl (kL, 3002, .inr (.inl fn))), (m9, .inr (23, mA mr mv vf xl (nI zs) ff_28 xa_29 (nI T) (nI pp1) xi xt xn (nI ns) (nI vv) (nI bb1))), (mr 5, .inl (kI, 3002, .inl fk)), (mr 6, .inl (kI, 3002, .inl fa))] : va_W) ++ (sT L1 F1)) H := hP
                      replace hD : va_D A (([(ee, .inr (15, [.int 3, .int tx, .int gx, .int nx, .int 0, .int 0, .long 0, .int 0, .null, .ref la, .ref sa, .int (nI n), .null, .null])), (la, .inl (kE, cp, .inr (.inr (.inr (.inr f))))), (sa, .inl (kI, cp, .inl g)), (mr 8, .inl (kL, 3002, .inr (.inl fn))), (m9, .inr (23, mA mr mv vf xl (nI zs) ff_28 xa_29 (nI T) (nI pp1) xi xt xn (nI ns) (nI vv) (nI bb1))), (mr 5, .inl (kI, 3002, .inl fk)), (mr 6, .inl (kI, 3002, .inl fa))] : va_W) ++ (sT L1 F1)) := hD
                      replace hK : va_K (dC, dI) vwCl [(kI, .int), (kL, .long), (kE, .object RX15), (kI, .int)] s := hK
                      replace hK := hK.sub (tys' := [(kI, .int), (kL, .long), (kE, .object RX15)]) [0, 1, 2] rfl
                      clear hz1 hk1 hPc hDc hKc hFc hP1 hD1 hK1
                      replace hP : va_P (dC, dI) vwCl ((([(ee, .inr (15, [.int 3, .int tx, .int gx, .int nx, .int 0, .int 0, .long 0, .int 0, .null, .ref la, .ref sa, .int (nI n), .null, .null])), (mr 8, .inl (kL, 3002, .inr (.inl fn))), (m9, .inr (23, mA mr mv vf xl (nI zs) ff_28 xa_29 (nI T) (nI pp1) xi xt xn (nI ns) (nI vv) (nI bb1))), (mr 5, .inl (kI, 3002, .inl fk)), (mr 6, .inl (kI, 3002, .inl fa))] : va_W) ++ ([(la, .inl (kE, cp, .inr (.inr (.inr (.inr f))))), (sa, .inl (kI, cp, .inl g))] : va_W)) ++ sT L1 F1) H := hP.subT (f' := [(ee, .inr (15, [.int 3, .int tx, .int gx, .int nx, .int 0, .int 0, .long 0, .int 0, .null, .ref la, .ref sa, .int (nI n), .null, .null])), (mr 8, .inl (kL, 3002, .inr (.inl fn))), (m9, .inr (23, mA mr mv vf xl (nI zs) ff_28 xa_29 (nI T) (nI pp1) xi xt xn (nI ns) (nI vv) (nI bb1))), (mr 5, .inl (kI, 3002, .inl fk)), (mr 6, .inl (kI, 3002, .inl fa)), (la, .inl (kE, cp, .inr (.inr (.inr (.inr f))))), (sa, .inl (kI, cp, .inl g))]) [0, 3, 4, 5, 6, 1, 2] rfl
                      replace hD : va_D A ((([(ee, .inr (15, [.int 3, .int tx, .int gx, .int nx, .int 0, .int 0, .long 0, .int 0, .null, .ref la, .ref sa, .int (nI n), .null, .null])), (mr 8, .inl (kL, 3002, .inr (.inl fn))), (m9, .inr (23, mA mr mv vf xl (nI zs) ff_28 xa_29 (nI T) (nI pp1) xi xt xn (nI ns) (nI vv) (nI bb1))), (mr 5, .inl (kI, 3002, .inl fk)), (mr 6, .inl (kI, 3002, .inl fa))] : va_W) ++ ([(la, .inl (kE, cp, .inr (.inr (.inr (.inr f))))), (sa, .inl (kI, cp, .inl g))] : va_W)) ++ sT L1 F1) := hD.subT (f' := [(ee, .inr (15, [.int 3, .int tx, .int gx, .int nx, .int 0, .int 0, .long 0, .int 0, .null, .ref la, .ref sa, .int (nI n), .null, .null])), (mr 8, .inl (kL, 3002, .inr (.inl fn))), (m9, .inr (23, mA mr mv vf xl (nI zs) ff_28 xa_29 (nI T) (nI pp1) xi xt xn (nI ns) (nI vv) (nI bb1))), (mr 5, .inl (kI, 3002, .inl fk)), (mr 6, .inl (kI, 3002, .inl fa)), (la, .inl (kE, cp, .inr (.inr (.inr (.inr f))))), (sa, .inl (kI, cp, .inl g))]) [0, 3, 4, 5, 6, 1, 2] (by decide) rfl
                      obtain ⟨L9, F9, hx9, hm9, hP, hD⟩ := st_fileL [(la, .inl (kE, cp, .inr (.inr (.inr (.inr f))))), (sa, .inl (kI, cp, .inl g))] hP hD
                      have hm9_0 := hm9 _ (List.mem_of_getElem? (i := 0) rfl)
                      have hm9_1 := hm9 _ (List.mem_of_getElem? (i := 1) rfl)
                      refine W.grow (fun hgs0 hgs1 => ?_)
                      have hP9 := hP.subT (f' := [(ee, .inr (15, [.int 3, .int tx, .int gx, .int nx, .int 0, .int 0, .long 0, .int 0, .null, (.ref la), (.ref sa), .int (nI n), .null, .null])), (m9, .inr (23, mA mr mv vf xl (nI zs) ff_28 xa_29 (nI T) (nI pp1) xi xt xn (nI ns) (nI vv) (nI bb1))), (mr 5, .inl (kI, 3002, .inl fk)), (mr 6, .inl (kI, 3002, .inl fa)), (mr 8, .inl (kL, 3002, .inr (.inl fn)))]) [0, 2, 3, 4, 1] rfl
                      have hD9 := hD.subT (f' := [(ee, .inr (15, [.int 3, .int tx, .int gx, .int nx, .int 0, .int 0, .long 0, .int 0, .null, (.ref la), (.ref sa), .int (nI n), .null, .null])), (m9, .inr (23, mA mr mv vf xl (nI zs) ff_28 xa_29 (nI T) (nI pp1) xi xt xn (nI ns) (nI vv) (nI bb1))), (mr 5, .inl (kI, 3002, .inl fk)), (mr 6, .inl (kI, 3002, .inl fa)), (mr 8, .inl (kL, 3002, .inr (.inl fn)))]) [0, 2, 3, 4, 1] (by decide) rfl
                      have hK9 := hK.sub (tys' := [(kI, .int), (kL, .long), (kE, .object RX15)]) [0, 1, 2] rfl
                      refine W.widen (k := (8 * (T - pp) + 3)) (n := (120 * (T - pp) + 280)) (by omega) (by omega) ?_
                      subst hQ1
                      exact W.vret hx hb hr (fun tS ht hW => ⟨⟨(), rfl, trivial, L9, F9, ff_28, xa_29, pp1, bb1, .ref la, .ref sa, n, (hr2).tr hx9, ⟨by omega, by omega, by omega, by omega⟩, (fun q9 => absurd q9 hf30_0), by rw [ht]; exact ⟨by omega, by omega⟩, by rw [ht]; exact hP9, va_K.moved hW.alike hK9, hD9⟩, hS.F ht⟩) hS.2.2 dX23_list_108
                  · obtain ⟨q0, hr5, hr6⟩ := hr9.2
                    have hcm : cm = 1 := (hr6.resolve_left (fun z => hm_25 z.1)).2.1
                    replace hr6 : q0 < pp1 := (hr6.resolve_left (fun z => hm_25 z.1)).2.2
                    replace hr1 := hr1.resolve_left (fun q => q rfl)
                    refine lv_aload_n hx hb dX23_list_73 rfl (lv_at hl 2 rfl) ?_
                    refine lv_aload_n hx hb dX23_list_74 rfl (lv_at hl 1 rfl) ?_
                    obtain ⟨k1, hkL⟩ : ∃ k1 : Nat, k = k1 + 1 := ⟨k - 1, by omega⟩
                    replace hPc := hP.subT (f' := [(m9, .inr (23, mA mr mv vf xl (nI zs) 0 xa1 (nI T) (nI pp1) xi xt xn (nI (ns + 1)) (nI vv) (nI bb1))), (mr 5, .inl (kI, 3002, .inl fk)), (mr 6, .inl (kI, 3002, .inl fa)), (mr 8, .inl (kL, 3002, .inr (.inl fn)))]) [6, 3, 4, 5] rfl
                    replace hDc := hD.subT (f' := [(m9, .inr (23, mA mr mv vf xl (nI zs) 0 xa1 (nI T) (nI pp1) xi xt xn (nI (ns + 1)) (nI vv) (nI bb1))), (mr 5, .inl (kI, 3002, .inl fk)), (mr 6, .inl (kI, 3002, .inl fa)), (mr 8, .inl (kL, 3002, .inr (.inl fn)))]) [6, 3, 4, 5] (by decide) rfl
                    replace hKc := hK.sub (tys' := [(kI, .int), (kL, .long), (kE, .object RX15)]) [0, 1, 2] rfl
                    replace hFc := va_freeB (wc := [(m9, .inr (23, mA mr mv vf xl (nI zs) 0 xa1 (nI T) (nI pp1) xi xt xn (nI (ns + 1)) (nI vv) (nI bb1))), (mr 5, .inl (kI, 3002, .inl fk)), (mr 6, .inl (kI, 3002, .inl fa)), (mr 8, .inl (kL, 3002, .inr (.inl fn)))]) hD hS hA [6, 3, 4, 5] rfl
                    refine W.grow (fun hgs0 hgs1 => ?_)
                    refine va_callr (va_runV (As := []) (rest := [.ref ee]) ⟨hx, hb, hml, hown, hts⟩ ((ih k1 hkL).2.2.2.2.2.2 m9 mr mv vf xl xa1 xi xt xn zs T pp1 (ns + 1) vv bb1 kI fk fa kL kE fn L1 F1 (slN H) H.size hT hr0.2.2.1 hk0 hr9.1 (by omega)) (cwV 0 hts g_c_xli3_c_xex_75 rfl rfl rfl (by decide +kernel) ⟨by show 13 + 12 * k1 + 1 ≤ 2 + 12 * k; omega, by show 8 + (1 + 11) + (302 + 279 * k1) ≤ 43 + 279 * k; omega⟩) ⟨fun a U g mk q => by obtain ⟨q0, q1, qP, qK, qD, qx0, qx1⟩ := q; exact ⟨q0, q1, qP, va_K.moved (u := U) (U := U.calling g mk a) (Vm.Alike.refl U.vm) qK, qD, nsM.same (u := U) (U := U.calling g mk a) rfl qx0, qx1⟩, va_recv hKc hPc (ci := 23) (q0 := 0) rfl rfl, fun U hU hW => ⟨rfl, by rw [hU], by rw [hU]; exact hPc, va_K.moved hW.alike hKc, hDc.weaken (fun _ _ _ _ => trivial), nsM.warm hW hns, by rw [hU]⟩⟩ rfl rfl hl.1 rfl (lv_room (Nat.le_of_ble_eq_true rfl)) dX23_list_75 ⟨(show (8 * (pp1 - pp) - 3 * n - 8 * cm) + (8 * (T - pp1) + 8) ≤ (8 * (T - pp) + 3) by omega), (show (120 * (pp1 - pp) + 4 * cp + 8 - 64 * n - 120 * cm) + (120 * (T - pp1) + 360) ≤ (120 * (T - pp) + 280) by omega)⟩) hS (fun q _ h => hFc q h) hFc (fun u r_26 tS H1 locs ht hvm hw hB hz1 hk1 hS => ?_)
                    obtain ⟨L25, F25, ff25, xa25, pp25, bb25, hf26_0, hf26_1, hf26_2, hf26_3, hP1, hK1, hD1⟩ := hB
                    rw [ht] at hP1
                    replace hK1 := va_K.moved hvm.symm hK1
                    rw [ht] at hf26_3
                    have hgz : H1.size ≤ s.heap.size + (((8 * (pp1 - pp) - 3 * n - 8 * cm) + 8 * (pp25 - pp1) + 3)) ∧ slN H1 ≤ slN s.heap + (((120 * (pp1 - pp) + 4 * cp + 8 - 64 * n - 120 * cm) + 120 * (pp25 - pp1) + 48)) := ⟨by have := hf26_3.1; omega, by have := hf26_3.2; omega⟩
                    obtain ⟨hPj, hDj⟩ := va_joinB (wr := [(ee, .inr (15, [.int 3, .int tx, .int gx, .int nx, .int 0, .int 0, .long 0, .int 0, .null, .ref la, .ref sa, .int (nI n), .null, .null])), (la, .inl (kE, cp, .inr (.inr (.inr (.inr f))))), (sa, .inl (kI, cp, .inl g))]) (w1 := [(m9, .inr (23, mA mr mv vf xl (nI zs) ff25 xa25 (nI T) (nI pp25) xi xt xn (nI (ns + 1)) (nI vv) (nI bb25))), (mr 5, .inl (kI, 3002, .inl fk)), (mr 6, .inl (kI, 3002, .inl fa)), (mr 8, .inl (kL, 3002, .inr (.inl fn)))]) hP hD [6, 3, 4, 5] [0, 1, 2] rfl rfl (by decide) (by decide) hk1 hFc hP1 hD1
                    replace hP := hPj
                    replace hD := hDj
                    clear hPj hDj
                    replace hK := hK.app hK1
                    generalize H1 = H at hP hS hgz ⊢
                    replace hP : va_P (dC, dI) vwCl (([(ee, .inr (15, [.int 3, .int tx, .int gx, .int nx, .int 0, .int 0, .long 0, .int 0, .null, .ref la, .ref sa, .int (nI n), .null, .null])), (la, .inl (kE, cp, .inr (.inr (.inr (.inr f))))), (sa, .inl (kI, cp, .inl g)), (m9, .inr (23, mA mr mv vf xl (nI zs) ff25 xa25 (nI T) (nI pp25) xi xt xn (nI (ns + 1)) (nI vv) (nI bb25))), (mr 5, .inl (kI, 3002, .inl fk)), (mr 6, .inl (kI, 3002, .inl fa)), (mr 8, .inl (kL, 3002, .inr (.inl fn)))] : va_W) ++ (sT L25 F25)) H := hP
                    replace hD : va_D A (([(ee, .inr (15, [.int 3, .int tx, .int gx, .int nx, .int 0, .int 0, .long 0, .int 0, .null, .ref la, .ref sa, .int (nI n), .null, .null])), (la, .inl (kE, cp, .inr (.inr (.inr (.inr f))))), (sa, .inl (kI, cp, .inl g)), (m9, .inr (23, mA mr mv vf xl (nI zs) ff25 xa25 (nI T) (nI pp25) xi xt xn (nI (ns + 1)) (nI vv) (nI bb25))), (mr 5, .inl (kI, 3002, .inl fk)), (mr 6, .inl (kI, 3002, .inl fa)), (mr 8, .inl (kL, 3002, .inr (.inl fn)))] : va_W) ++ (sT L25 F25)) := hD
                    replace hK : va_K (dC, dI) vwCl [(kI, .int), (kL, .long), (kE, .object RX15), (kI, .int), (kL, .long), (kE, .object RX15)] s := hK
                    replace hK := hK.sub (tys' := [(kI, .int), (kL, .long), (kE, .object RX15)]) [0, 1, 2] rfl
                    refine W.tight (k := ((8 * (pp1 - pp) - 3 * n - 8 * cm) + 8 * (pp25 - pp1) + 3)) (n := ((120 * (pp1 - pp) + 4 * cp + 8 - 64 * n - 120 * cm) + 120 * (pp25 - pp1) + 48)) hgz.1 hgz.2 ?_
                    clear hz1 hk1 hPc hDc hKc hFc hP1 hD1 hK1
                    refine lv_iconst (v := 0) hx hb dX23_list_78 (by decide) ?_
                    replace hPc := hP.subT (f' := [(ee, .inr (15, [.int 3, .int tx, .int gx, .int nx, .int 0, .int 0, .long 0, .int 0, .null, .ref la, .ref sa, .int (nI n), .null, .null])), (la, .inl (kE, cp, .inr (.inr (.inr (.inr f))))), (sa, .inl (kI, cp, .inl g))]) [0, 1, 2] rfl
                    replace hDc := hD.subT (f' := [(ee, .inr (15, [.int 3, .int tx, .int gx, .int nx, .int 0, .int 0, .long 0, .int 0, .null, .ref la, .ref sa, .int (nI n), .null, .null])), (la, .inl (kE, cp, .inr (.inr (.inr (.inr f))))), (sa, .inl (kI, cp, .inl g))]) [0, 1, 2] (by decide) rfl
                    replace hKc := hK.sub (tys' := [(kI, .int), (kE, .object RX15)]) [0, 2] rfl
                    replace hFc := va_freeB (wc := [(ee, .inr (15, [.int 3, .int tx, .int gx, .int nx, .int 0, .int 0, .long 0, .int 0, .null, .ref la, .ref sa, .int (nI n), .null, .null])), (la, .inl (kE, cp, .inr (.inr (.inr (.inr f))))), (sa, .inl (kI, cp, .inl g))]) hD hS hA [0, 1, 2] rfl
                    refine W.grow (fun hgs0 hgs1 => ?_)
                    refine va_callv (va_runS (As := [.ref ee, .ref r_26, .int 0]) (rest := []) ⟨hx, hb, hml, hown, hts⟩ (c_xaA l dC dI ee r_26 3 tx gx nx 0 0 0 .null kI kE la sa n cp f g L25 F25 (slN H) H.size hf26_0.2 (by omega) (fun i hi => by obtain ⟨x9, y9, z9⟩ := hr3 i hi; exact ⟨x9, y9, xO_ex hf26_0.1 z9⟩)) (va_cwS 3 hts g_c_xli3_c_xaA_79 rfl rfl rfl (by decide +kernel) ⟨by show 0 + 1 ≤ 2 + 12 * k; omega, by show 8 + (6 + 11) + (0) ≤ 43 + 279 * k; omega⟩) ⟨fun a U g mk q => by obtain ⟨q0, q1, qP, qK, qD, qx0, qx1⟩ := q; exact ⟨q0, q1, qP, va_K.moved (u := U) (U := U.calling g mk a) (Vm.Alike.refl U.vm) qK, qD, nsM.same (u := U) (U := U.calling g mk a) rfl qx0, qx1⟩, fun U hU hW => ⟨rfl, by rw [hU], by rw [hU]; exact hPc, va_K.moved hW.alike hKc, hDc.weaken (fun _ _ _ _ => trivial), nsM.warm hW hns, by rw [hU]⟩⟩ rfl rfl hl.1 rfl (lv_room (Nat.le_of_ble_eq_true rfl)) dX23_list_79 ⟨(show ((8 * (pp1 - pp) - 3 * n - 8 * cm) + 8 * (pp25 - pp1) + 3) + 2 ≤ (8 * (T - pp) + 3) by omega), (show ((120 * (pp1 - pp) + 4 * cp + 8 - 64 * n - 120 * cm) + 120 * (pp25 - pp1) + 48) + (4 * cp) ≤ (120 * (T - pp) + 280) by omega)⟩) hS (fun q _ h => hFc q h) hFc (fun u tS H1 locs ht hvm hw hB hz1 hk1 hS => ?_)
                    obtain ⟨la26, sa26, cp26, f26, g26, hf27_0, hf27_1, hf27_2, hf27_3, hf27_4, hP1, hK1, hD1⟩ := hB
                    rw [ht] at hP1
                    replace hK1 := va_K.moved hvm.symm hK1
                    rw [ht] at hf27_4
                    have hgz : H1.size ≤ s.heap.size + ((((8 * (pp1 - pp) - 3 * n - 8 * cm) + 8 * (pp25 - pp1) + 3) + 2)) ∧ slN H1 ≤ slN s.heap + ((((120 * (pp1 - pp) + 4 * cp + 8 - 64 * n - 120 * cm) + 120 * (pp25 - pp1) + 48) + 4 * (cp26 - cp))) := ⟨by have := hf27_4.1; omega, by have := hf27_4.2; omega⟩
                    obtain ⟨hPj, hDj⟩ := va_joinB (wr := [(m9, .inr (23, mA mr mv vf xl (nI zs) ff25 xa25 (nI T) (nI pp25) xi xt xn (nI (ns + 1)) (nI vv) (nI bb25))), (mr 5, .inl (kI, 3002, .inl fk)), (mr 6, .inl (kI, 3002, .inl fa)), (mr 8, .inl (kL, 3002, .inr (.inl fn)))]) (w1 := [(ee, .inr (15, [.int 3, .int tx, .int gx, .int nx, .int 0, .int 0, .long 0, .int 0, .null, .ref la26, .ref sa26, .int (nI (n + 1)), .null, .null])), (la26, .inl (kE, cp26, .inr (.inr (.inr (.inr f26))))), (sa26, .inl (kI, cp26, .inl g26))]) hP hD [0, 1, 2] [3, 4, 5, 6] rfl rfl (by decide) (by decide) hk1 hFc hP1 hD1
                    replace hP := hPj
                    replace hD := hDj
                    clear hPj hDj
                    replace hK := hK.app hK1
                    generalize H1 = H at hP hS hgz ⊢
                    replace hP : va_P (dC, dI) vwCl (([(m9, .inr (23, mA mr mv vf xl (nI zs) ff25 xa25 (nI T) (nI pp25) xi xt xn (nI (ns + 1)) (nI vv) (nI bb25))), (mr 5, .inl (kI, 3002, .inl fk)), (mr 6, .inl (kI, 3002, .inl fa)), (mr 8, .inl (kL, 3002, .inr (.inl fn))), (ee, .inr (15, [.int 3, .int tx, .int gx, .int nx, .int 0, .int 0, .long 0, .int 0, .null, .ref la26, .ref sa26, .int (nI (n + 1)), .null, .null])), (la26, .inl (kE, cp26, .inr (.inr (.inr (.inr f26))))), (sa26, .inl (kI, cp26, .inl g26))] : va_W) ++ (sT L25 F25)) H := hP
                    replace hD : va_D A (([(m9, .inr (23, mA mr mv vf xl (nI zs) ff25 xa25 (nI T) (nI pp25) xi xt xn (nI (ns + 1)) (nI vv) (nI bb25))), (mr 5, .inl (kI, 3002, .inl fk)), (mr 6, .inl (kI, 3002, .inl fa)), (mr 8, .inl (kL, 3002, .inr (.inl fn))), (ee, .inr (15, [.int 3, .int tx, .int gx, .int nx, .int 0, .int 0, .long 0, .int 0, .null, .ref la26, .ref sa26, .int (nI (n + 1)), .null, .null])), (la26, .inl (kE, cp26, .inr (.inr (.inr (.inr f26))))), (sa26, .inl (kI, cp26, .inl g26))] : va_W) ++ (sT L25 F25)) := hD
                    replace hK : va_K (dC, dI) vwCl [(kI, .int), (kL, .long), (kE, .object RX15), (kI, .int), (kE, .object RX15)] s := hK
                    replace hK := hK.sub (tys' := [(kI, .int), (kL, .long), (kE, .object RX15)]) [0, 1, 2] rfl
                    refine W.tight (k := (((8 * (pp1 - pp) - 3 * n - 8 * cm) + 8 * (pp25 - pp1) + 3) + 2)) (n := (((120 * (pp1 - pp) + 4 * cp + 8 - 64 * n - 120 * cm) + 120 * (pp25 - pp1) + 48) + 4 * (cp26 - cp))) hgz.1 hgz.2 ?_
                    clear hz1 hk1 hPc hDc hKc hFc hP1 hD1 hK1
                    refine lv_aload_n hx hb dX23_list_82 rfl (lv_at hl 1 rfl) ?_
                    refine lv_bipush (v := 57) hx hb dX23_list_83 (by decide) ?_
                    by_cases hz_28 : ff25 = 0
                    · subst hz_28
                      have hg25 := hf26_2 rfl
                      have hlthg25 := (isE_mem hg25.2).2
                      by_cases hk_29 : fk pp25 = 57
                      · replace hPc := hP.subF (f' := [(m9, .inr (23, mA mr mv vf xl (nI zs) 0 xa25 (nI T) (nI pp25) xi xt xn (nI (ns + 1)) (nI vv) (nI bb25))), (mr 5, .inl (kI, 3002, .inl fk))]) [0, 1] rfl
                        replace hDc := hD.subF (f' := [(m9, .inr (23, mA mr mv vf xl (nI zs) 0 xa25 (nI T) (nI pp25) xi xt xn (nI (ns + 1)) (nI vv) (nI bb25))), (mr 5, .inl (kI, 3002, .inl fk))]) [0, 1] (by decide) rfl
                        replace hKc := hK.sub (tys' := [(kI, .int)]) [0] rfl
                        replace hFc := va_freeT (wc := [(m9, .inr (23, mA mr mv vf xl (nI zs) 0 xa25 (nI T) (nI pp25) xi xt xn (nI (ns + 1)) (nI vv) (nI bb25))), (mr 5, .inl (kI, 3002, .inl fk))]) hD hS hA [0, 1] rfl
                        refine va_calli (va_runV (As := [.int 57]) (rest := []) ⟨hx, hb, hml, hown, hts⟩ (c_rtsY l dC dI m9 mr mv vf xl xa25 xi xt xn zs T pp25 (ns + 1) vv bb25 kI fk fa 57 H.size hT hf26_1.2.1 hk0 (by decide) hk_29) (cwV 1 hts g_c_xli3_c_rtsY_85 rfl rfl rfl (by decide +kernel) ⟨by show 1 + 1 ≤ 2 + 12 * k; omega, by show 8 + (2 + 11) + (21) ≤ 43 + 279 * k; omega⟩) ⟨fun a U g mk q => by obtain ⟨q0, q1, qP, qK, qD⟩ := q; exact ⟨q0, q1, qP, va_K.moved (u := U) (U := U.calling g mk a) (Vm.Alike.refl U.vm) qK, qD⟩, va_recv hKc hPc (ci := 23) (q0 := 0) rfl rfl, fun U hU hW => ⟨rfl, by rw [hU], by rw [hU]; exact hPc, va_K.moved hW.alike hKc, hDc.weaken (fun _ _ _ _ => trivial)⟩⟩ rfl rfl hl.1 rfl (lv_room (Nat.le_of_ble_eq_true rfl)) dX23_list_85 ⟨(show (((8 * (pp1 - pp) - 3 * n - 8 * cm) + 8 * (pp25 - pp1) + 3) + 2) + 0 ≤ (8 * (T - pp) + 3) by omega), (show (((120 * (pp1 - pp) + 4 * cp + 8 - 64 * n - 120 * cm) + 120 * (pp25 - pp1) + 48) + 4 * (cp26 - cp)) + 0 ≤ (120 * (T - pp) + 280) by omega)⟩) hS (fun q _ h => hFc q h) hFc (fun r_30 u tS H1 locs ht hvm hw hB hz1 hk1 hS => ?_)
                        obtain ⟨hP1, hK1, hD1⟩ := hB
                        rw [ht] at hP1
                        replace hK1 := va_K.moved hvm.symm hK1
                        obtain ⟨hPj, hDj⟩ := va_joinT (wr := [(mr 6, .inl (kI, 3002, .inl fa)), (mr 8, .inl (kL, 3002, .inr (.inl fn))), (ee, .inr (15, [.int 3, .int tx, .int gx, .int nx, .int 0, .int 0, .long 0, .int 0, .null, .ref la26, .ref sa26, .int (nI (n + 1)), .null, .null])), (la26, .inl (kE, cp26, .inr (.inr (.inr (.inr f26))))), (sa26, .inl (kI, cp26, .inl g26))]) (w1 := [(m9, .inr (23, mA mr mv vf xl (nI zs) 0 xa25 (nI T) (nI (pp25 + 1)) xi xt xn (nI (ns + 1)) (nI vv) (nI bb25))), (mr 5, .inl (kI, 3002, .inl fk))]) hP hD [0, 1] [2, 3, 4, 5, 6] rfl rfl (by decide) (by decide) hk1 hFc hP1 hD1
                        replace hP := hPj
                        replace hD := hDj
                        clear hPj hDj
                        replace hK := hK.app hK1
                        generalize H1 = H at hP hS ⊢
                        replace hP : va_P (dC, dI) vwCl (([(mr 6, .inl (kI, 3002, .inl fa)), (mr 8, .inl (kL, 3002, .inr (.inl fn))), (ee, .inr (15, [.int 3, .int tx, .int gx, .int nx, .int 0, .int 0, .long 0, .int 0, .null, .ref la26, .ref sa26, .int (nI (n + 1)), .null, .null])), (la26, .inl (kE, cp26, .inr (.inr (.inr (.inr f26))))), (sa26, .inl (kI, cp26, .inl g26)), (m9, .inr (23, mA mr mv vf xl (nI zs) 0 xa25 (nI T) (nI (pp25 + 1)) xi xt xn (nI (ns + 1)) (nI vv) (nI bb25))), (mr 5, .inl (kI, 3002, .inl fk))] : va_W) ++ (sT L25 F25)) H := hP
                        replace hD : va_D A (([(mr 6, .inl (kI, 3002, .inl fa)), (mr 8, .inl (kL, 3002, .inr (.inl fn))), (ee, .inr (15, [.int 3, .int tx, .int gx, .int nx, .int 0, .int 0, .long 0, .int 0, .null, .ref la26, .ref sa26, .int (nI (n + 1)), .null, .null])), (la26, .inl (kE, cp26, .inr (.inr (.inr (.inr f26))))), (sa26, .inl (kI, cp26, .inl g26)), (m9, .inr (23, mA mr mv vf xl (nI zs) 0 xa25 (nI T) (nI (pp25 + 1)) xi xt xn (nI (ns + 1)) (nI vv) (nI bb25))), (mr 5, .inl (kI, 3002, .inl fk))] : va_W) ++ (sT L25 F25)) := hD
                        replace hK : va_K (dC, dI) vwCl [(kI, .int), (kL, .long), (kE, .object RX15), (kI, .int)] s := hK
                        replace hK := hK.sub (tys' := [(kI, .int), (kL, .long), (kE, .object RX15)]) [0, 1, 2] rfl
                        clear hz1 hk1 hPc hDc hKc hFc hP1 hD1 hK1
                        obtain rfl : r_30 = 1 := hw
                        have hp_31 : pp25 + 1 < T := kne3 hk0 hf26_1.2.1 hk_29 (by decide)
                        refine lv_istore_n (lv' := [(2, .int 1), (0, .ref m9), (1, .ref ee)]) hx hb dX23_list_88 rfl hl (by decide) rfl (fun ls hl => ?_)
                        refine lv_goto (tgt := 62) hx hb dX23_list_89 (by decide) ?_
                        refine W.widen (k := (8 * ((pp25 + 1) - pp) - 3 * (n + 1) - 8 * 1)) (n := (120 * ((pp25 + 1) - pp) + 4 * cp26 + 8 - 64 * (n + 1) - 120 * 1)) (by omega) (by omega) ?_
                        exact ih1 (pp25 + 1) bb25 la26 sa26 cp26 (n + 1) 1 0 xa25 1 L25 F25 f26 g26 _ _ _ (⟨by omega, by omega, by omega, by omega, by omega, by omega, by omega, by omega, by omega, by omega, by omega, hT⟩) (Or.inr (by omega)) (hr2.tr hf26_0.1) (fun i hi => by
                          by_cases e9 : i = n
                          · subst e9; exact ⟨_, hf27_2.1, hf26_0.2⟩
                          · obtain ⟨x9, y9, z9⟩ := hr3 i (by omega); exact ⟨x9, (hf27_1 i (by omega)).1.trans y9, xO_ex hf26_0.1 z9⟩) (fun _ => ⟨hg25.1, _, chP_add (chP_im (fun x p q b c z => isE_im hf26_0.1 _ (Nat.le_refl _) z) hr5) (fun i hi => hf27_1 i hi) hf27_2.1 (hf27_2.2.trans rfl) hr6 (isE_im exS.rf _ (by omega) hg25.2) (Or.inl ⟨rfl, rfl⟩), Or.inr ⟨by decide, rfl, by omega⟩⟩) (hP.subT [2, 3, 4, 5, 6, 0, 1] rfl) (hD.subT [2, 3, 4, 5, 6, 0, 1] (by decide) rfl) hS (lv_sub hl [0, 1, 2] rfl)
                      · replace hPc := hP.subF (f' := [(m9, .inr (23, mA mr mv vf xl (nI zs) 0 xa25 (nI T) (nI pp25) xi xt xn (nI (ns + 1)) (nI vv) (nI bb25))), (mr 5, .inl (kI, 3002, .inl fk))]) [0, 1] rfl
                        replace hDc := hD.subF (f' := [(m9, .inr (23, mA mr mv vf xl (nI zs) 0 xa25 (nI T) (nI pp25) xi xt xn (nI (ns + 1)) (nI vv) (nI bb25))), (mr 5, .inl (kI, 3002, .inl fk))]) [0, 1] (by decide) rfl
                        replace hKc := hK.sub (tys' := [(kI, .int)]) [0] rfl
                        replace hFc := va_freeT (wc := [(m9, .inr (23, mA mr mv vf xl (nI zs) 0 xa25 (nI T) (nI pp25) xi xt xn (nI (ns + 1)) (nI vv) (nI bb25))), (mr 5, .inl (kI, 3002, .inl fk))]) hD hS hA [0, 1] rfl
                        refine va_calli (va_runV (As := [.int 57]) (rest := []) ⟨hx, hb, hml, hown, hts⟩ (c_rtsN l dC dI m9 mr mv vf xl xa25 xi xt xn zs T pp25 (ns + 1) vv bb25 kI fk fa 57 H.size hT hf26_1.2.1 hk0 (by decide) hk_29) (cwV 1 hts g_c_xli3_c_rtsN_85 rfl rfl rfl (by decide +kernel) ⟨by show 1 + 1 ≤ 2 + 12 * k; omega, by show 8 + (2 + 11) + (21) ≤ 43 + 279 * k; omega⟩) ⟨fun a U g mk q => by obtain ⟨q0, q1, qP, qK, qD⟩ := q; exact ⟨q0, q1, qP, va_K.moved (u := U) (U := U.calling g mk a) (Vm.Alike.refl U.vm) qK, qD⟩, va_recv hKc hPc (ci := 23) (q0 := 0) rfl rfl, fun U hU hW => ⟨rfl, by rw [hU], by rw [hU]; exact hPc, va_K.moved hW.alike hKc, hDc.weaken (fun _ _ _ _ => trivial)⟩⟩ rfl rfl hl.1 rfl (lv_room (Nat.le_of_ble_eq_true rfl)) dX23_list_85 ⟨(show (((8 * (pp1 - pp) - 3 * n - 8 * cm) + 8 * (pp25 - pp1) + 3) + 2) + 0 ≤ (8 * (T - pp) + 3) by omega), (show (((120 * (pp1 - pp) + 4 * cp + 8 - 64 * n - 120 * cm) + 120 * (pp25 - pp1) + 48) + 4 * (cp26 - cp)) + 0 ≤ (120 * (T - pp) + 280) by omega)⟩) hS (fun q _ h => hFc q h) hFc (fun r_30 u tS H1 locs ht hvm hw hB hz1 hk1 hS => ?_)
                        obtain ⟨hP1, hK1, hD1⟩ := hB
                        rw [ht] at hP1
                        replace hK1 := va_K.moved hvm.symm hK1
                        obtain ⟨hPj, hDj⟩ := va_joinT (wr := [(mr 6, .inl (kI, 3002, .inl fa)), (mr 8, .inl (kL, 3002, .inr (.inl fn))), (ee, .inr (15, [.int 3, .int tx, .int gx, .int nx, .int 0, .int 0, .long 0, .int 0, .null, .ref la26, .ref sa26, .int (nI (n + 1)), .null, .null])), (la26, .inl (kE, cp26, .inr (.inr (.inr (.inr f26))))), (sa26, .inl (kI, cp26, .inl g26))]) (w1 := [(m9, .inr (23, mA mr mv vf xl (nI zs) 0 xa25 (nI T) (nI pp25) xi xt xn (nI (ns + 1)) (nI vv) (nI bb25))), (mr 5, .inl (kI, 3002, .inl fk))]) hP hD [0, 1] [2, 3, 4, 5, 6] rfl rfl (by decide) (by decide) hk1 hFc hP1 hD1
                        replace hP := hPj
                        replace hD := hDj
                        clear hPj hDj
                        replace hK := hK.app hK1
                        generalize H1 = H at hP hS ⊢
                        replace hP : va_P (dC, dI) vwCl (([(mr 6, .inl (kI, 3002, .inl fa)), (mr 8, .inl (kL, 3002, .inr (.inl fn))), (ee, .inr (15, [.int 3, .int tx, .int gx, .int nx, .int 0, .int 0, .long 0, .int 0, .null, .ref la26, .ref sa26, .int (nI (n + 1)), .null, .null])), (la26, .inl (kE, cp26, .inr (.inr (.inr (.inr f26))))), (sa26, .inl (kI, cp26, .inl g26)), (m9, .inr (23, mA mr mv vf xl (nI zs) 0 xa25 (nI T) (nI pp25) xi xt xn (nI (ns + 1)) (nI vv) (nI bb25))), (mr 5, .inl (kI, 3002, .inl fk))] : va_W) ++ (sT L25 F25)) H := hP
                        replace hD : va_D A (([(mr 6, .inl (kI, 3002, .inl fa)), (mr 8, .inl (kL, 3002, .inr (.inl fn))), (ee, .inr (15, [.int 3, .int tx, .int gx, .int nx, .int 0, .int 0, .long 0, .int 0, .null, .ref la26, .ref sa26, .int (nI (n + 1)), .null, .null])), (la26, .inl (kE, cp26, .inr (.inr (.inr (.inr f26))))), (sa26, .inl (kI, cp26, .inl g26)), (m9, .inr (23, mA mr mv vf xl (nI zs) 0 xa25 (nI T) (nI pp25) xi xt xn (nI (ns + 1)) (nI vv) (nI bb25))), (mr 5, .inl (kI, 3002, .inl fk))] : va_W) ++ (sT L25 F25)) := hD
                        replace hK : va_K (dC, dI) vwCl [(kI, .int), (kL, .long), (kE, .object RX15), (kI, .int)] s := hK
                        replace hK := hK.sub (tys' := [(kI, .int), (kL, .long), (kE, .object RX15)]) [0, 1, 2] rfl
                        clear hz1 hk1 hPc hDc hKc hFc hP1 hD1 hK1
                        obtain rfl : r_30 = 0 := hw
                        refine lv_istore_n (lv' := [(2, .int 0), (0, .ref m9), (1, .ref ee)]) hx hb dX23_list_88 rfl hl (by decide) rfl (fun ls hl => ?_)
                        refine lv_goto (tgt := 62) hx hb dX23_list_89 (by decide) ?_
                        refine W.widen (k := (8 * (pp25 - pp) - 3 * (n + 1) - 8 * 0)) (n := (120 * (pp25 - pp) + 4 * cp26 + 8 - 64 * (n + 1) - 120 * 0)) (by omega) (by omega) ?_
                        exact ih1 pp25 bb25 la26 sa26 cp26 (n + 1) 0 0 xa25 0 L25 F25 f26 g26 _ _ _ (⟨by omega, by omega, by omega, by omega, by omega, by omega, by omega, by omega, by omega, by omega, by omega, hT⟩) (Or.inr (by omega)) (hr2.tr hf26_0.1) (fun i hi => by
                          by_cases e9 : i = n
                          · subst e9; exact ⟨_, hf27_2.1, hf26_0.2⟩
                          · obtain ⟨x9, y9, z9⟩ := hr3 i (by omega); exact ⟨x9, (hf27_1 i (by omega)).1.trans y9, xO_ex hf26_0.1 z9⟩) (fun _ => ⟨hg25.1, _, chP_add (chP_im (fun x p q b c z => isE_im hf26_0.1 _ (Nat.le_refl _) z) hr5) (fun i hi => hf27_1 i hi) hf27_2.1 (hf27_2.2.trans rfl) hr6 (isE_im exS.rf _ (by omega) hg25.2) (Or.inl ⟨rfl, rfl⟩), Or.inl ⟨rfl, rfl, by omega⟩⟩) (hP.subT [2, 3, 4, 5, 6, 0, 1] rfl) (hD.subT [2, 3, 4, 5, 6, 0, 1] (by decide) rfl) hS (lv_sub hl [0, 1, 2] rfl)
                    · replace hPc := hP.subF (f' := [(m9, .inr (23, mA mr mv vf xl (nI zs) ff25 xa25 (nI T) (nI pp25) xi xt xn (nI (ns + 1)) (nI vv) (nI bb25))), (mr 5, .inl (kI, 3002, .inl fk))]) [0, 1] rfl
                      replace hDc := hD.subF (f' := [(m9, .inr (23, mA mr mv vf xl (nI zs) ff25 xa25 (nI T) (nI pp25) xi xt xn (nI (ns + 1)) (nI vv) (nI bb25))), (mr 5, .inl (kI, 3002, .inl fk))]) [0, 1] (by decide) rfl
                      replace hKc := hK.sub (tys' := [(kI, .int)]) [0] rfl
                      replace hFc := va_freeT (wc := [(m9, .inr (23, mA mr mv vf xl (nI zs) ff25 xa25 (nI T) (nI pp25) xi xt xn (nI (ns + 1)) (nI vv) (nI bb25))), (mr 5, .inl (kI, 3002, .inl fk))]) hD hS hA [0, 1] rfl
                      refine va_calli (va_runV (As := [.int 57]) (rest := []) ⟨hx, hb, hml, hown, hts⟩ (c_rtsB l dC dI m9 mr mv vf xl xa25 xi xt xn zs T pp25 (ns + 1) vv bb25 kI fk fa ff25 57 H.size hz_28) (cwV 1 hts g_c_xli3_c_rtsB_85 rfl rfl rfl (by decide +kernel) ⟨by show 1 + 1 ≤ 2 + 12 * k; omega, by show 8 + (2 + 11) + (20) ≤ 43 + 279 * k; omega⟩) ⟨fun a U g mk q => by obtain ⟨q0, q1, qP, qK, qD⟩ := q; exact ⟨q0, q1, qP, va_K.moved (u := U) (U := U.calling g mk a) (Vm.Alike.refl U.vm) qK, qD⟩, va_recv hKc hPc (ci := 23) (q0 := 0) rfl rfl, fun U hU hW => ⟨rfl, by rw [hU], by rw [hU]; exact hPc, va_K.moved hW.alike hKc, hDc.weaken (fun _ _ _ _ => trivial)⟩⟩ rfl rfl hl.1 rfl (lv_room (Nat.le_of_ble_eq_true rfl)) dX23_list_85 ⟨(show (((8 * (pp1 - pp) - 3 * n - 8 * cm) + 8 * (pp25 - pp1) + 3) + 2) + 0 ≤ (8 * (T - pp) + 3) by omega), (show (((120 * (pp1 - pp) + 4 * cp + 8 - 64 * n - 120 * cm) + 120 * (pp25 - pp1) + 48) + 4 * (cp26 - cp)) + 0 ≤ (120 * (T - pp) + 280) by omega)⟩) hS (fun q _ h => hFc q h) hFc (fun r_29 u tS H1 locs ht hvm hw hB hz1 hk1 hS => ?_)
                      obtain ⟨hP1, hK1, hD1⟩ := hB
                      rw [ht] at hP1
                      replace hK1 := va_K.moved hvm.symm hK1
                      obtain ⟨hPj, hDj⟩ := va_joinT (wr := [(mr 6, .inl (kI, 3002, .inl fa)), (mr 8, .inl (kL, 3002, .inr (.inl fn))), (ee, .inr (15, [.int 3, .int tx, .int gx, .int nx, .int 0, .int 0, .long 0, .int 0, .null, .ref la26, .ref sa26, .int (nI (n + 1)), .null, .null])), (la26, .inl (kE, cp26, .inr (.inr (.inr (.inr f26))))), (sa26, .inl (kI, cp26, .inl g26))]) (w1 := [(m9, .inr (23, mA mr mv vf xl (nI zs) ff25 xa25 (nI T) (nI pp25) xi xt xn (nI (ns + 1)) (nI vv) (nI bb25))), (mr 5, .inl (kI, 3002, .inl fk))]) hP hD [0, 1] [2, 3, 4, 5, 6] rfl rfl (by decide) (by decide) hk1 hFc hP1 hD1
                      replace hP := hPj
                      replace hD := hDj
                      clear hPj hDj
                      replace hK := hK.app hK1
                      generalize H1 = H at hP hS ⊢
                      replace hP : va_P (dC, dI) vwCl (([(mr 6, .inl (kI, 3002, .inl fa)), (mr 8, .inl (kL, 3002, .inr (.inl fn))), (ee, .inr (15, [.int 3, .int tx, .int gx, .int nx, .int 0, .int 0, .long 0, .int 0, .null, .ref la26, .ref sa26, .int (nI (n + 1)), .null, .null])), (la26, .inl (kE, cp26, .inr (.inr (.inr (.inr f26))))), (sa26, .inl (kI, cp26, .inl g26)), (m9, .inr (23, mA mr mv vf xl (nI zs) ff25 xa25 (nI T) (nI pp25) xi xt xn (nI (ns + 1)) (nI vv) (nI bb25))), (mr 5, .inl (kI, 3002, .inl fk))] : va_W) ++ (sT L25 F25)) H := hP
                      replace hD : va_D A (([(mr 6, .inl (kI, 3002, .inl fa)), (mr 8, .inl (kL, 3002, .inr (.inl fn))), (ee, .inr (15, [.int 3, .int tx, .int gx, .int nx, .int 0, .int 0, .long 0, .int 0, .null, .ref la26, .ref sa26, .int (nI (n + 1)), .null, .null])), (la26, .inl (kE, cp26, .inr (.inr (.inr (.inr f26))))), (sa26, .inl (kI, cp26, .inl g26)), (m9, .inr (23, mA mr mv vf xl (nI zs) ff25 xa25 (nI T) (nI pp25) xi xt xn (nI (ns + 1)) (nI vv) (nI bb25))), (mr 5, .inl (kI, 3002, .inl fk))] : va_W) ++ (sT L25 F25)) := hD
                      replace hK : va_K (dC, dI) vwCl [(kI, .int), (kL, .long), (kE, .object RX15), (kI, .int)] s := hK
                      replace hK := hK.sub (tys' := [(kI, .int), (kL, .long), (kE, .object RX15)]) [0, 1, 2] rfl
                      clear hz1 hk1 hPc hDc hKc hFc hP1 hD1 hK1
                      obtain rfl : r_29 = 0 := hw
                      refine lv_istore_n (lv' := [(2, .int 0), (0, .ref m9), (1, .ref ee)]) hx hb dX23_list_88 rfl hl (by decide) rfl (fun ls hl => ?_)
                      refine lv_goto (tgt := 62) hx hb dX23_list_89 (by decide) ?_
                      refine W.widen (k := (8 * (pp25 - pp) - 3 * (n + 1) - 8 * 0)) (n := (120 * (pp25 - pp) + 4 * cp26 + 8 - 64 * (n + 1) - 120 * 0)) (by omega) (by omega) ?_
                      exact ih1 pp25 bb25 la26 sa26 cp26 (n + 1) 0 ff25 xa25 0 L25 F25 f26 g26 _ _ _ (⟨by omega, by omega, by omega, by omega, by omega, by omega, by omega, by omega, by omega, by omega, by omega, hT⟩) (Or.inl hz_28) (hr2.tr hf26_0.1) (fun i hi => by
                        by_cases e9 : i = n
                        · subst e9; exact ⟨_, hf27_2.1, hf26_0.2⟩
                        · obtain ⟨x9, y9, z9⟩ := hr3 i (by omega); exact ⟨x9, (hf27_1 i (by omega)).1.trans y9, xO_ex hf26_0.1 z9⟩) (fun q9 => absurd q9 hz_28) (hP.subT [2, 3, 4, 5, 6, 0, 1] rfl) (hD.subT [2, 3, 4, 5, 6, 0, 1] (by decide) rfl) hS (lv_sub hl [0, 1, 2] rfl)
                · replace hPc := hP.subF (f' := [(m9, .inr (23, mA mr mv vf xl (nI zs) ff1 xa1 (nI T) (nI pp1) xi xt xn (nI (ns + 1)) (nI vv) (nI bb1)))]) [3] rfl
                  replace hDc := hD.subF (f' := [(m9, .inr (23, mA mr mv vf xl (nI zs) ff1 xa1 (nI T) (nI pp1) xi xt xn (nI (ns + 1)) (nI vv) (nI bb1)))]) [3] (by decide) rfl
                  replace hKc := hK.sub (tys' := []) [] rfl
                  replace hFc := va_freeT (wc := [(m9, .inr (23, mA mr mv vf xl (nI zs) ff1 xa1 (nI T) (nI pp1) xi xt xn (nI (ns + 1)) (nI vv) (nI bb1)))]) hD hS hA [3] rfl
                  refine va_calli (va_runV (As := []) (rest := []) ⟨hx, hb, hml, hown, hts⟩ (c_rokB l dC dI m9 mr mv vf xl xa1 xi xt xn zs T pp1 (ns + 1) vv bb1 kI fk fa ff1 H.size hz_22) (cwV 0 hts g_c_xli3_c_rokB_63 rfl rfl rfl (by decide +kernel) ⟨by show 0 + 1 ≤ 2 + 12 * k; omega, by show 8 + (1 + 11) + (0) ≤ 43 + 279 * k; omega⟩) ⟨fun a U g mk q => by obtain ⟨q0, q1, qP, qK, qD⟩ := q; exact ⟨q0, q1, qP, va_K.moved (u := U) (U := U.calling g mk a) (Vm.Alike.refl U.vm) qK, qD⟩, va_recv hKc hPc (ci := 23) (q0 := 0) rfl rfl, fun U hU hW => ⟨rfl, by rw [hU], by rw [hU]; exact hPc, va_K.moved hW.alike hKc, hDc.weaken (fun _ _ _ _ => trivial)⟩⟩ rfl rfl hl.1 rfl (lv_room (Nat.le_of_ble_eq_true rfl)) dX23_list_63 ⟨(show (8 * (pp1 - pp) - 3 * n - 8 * cm) + 0 ≤ (8 * (T - pp) + 3) by omega), (show (120 * (pp1 - pp) + 4 * cp + 8 - 64 * n - 120 * cm) + 0 ≤ (120 * (T - pp) + 280) by omega)⟩) hS (fun q _ h => hFc q h) hFc (fun r_23 u tS H1 locs ht hvm hw hB hz1 hk1 hS => ?_)
                  obtain ⟨hP1, hK1, hD1⟩ := hB
                  rw [ht] at hP1
                  replace hK1 := va_K.moved hvm.symm hK1
                  obtain ⟨hPj, hDj⟩ := va_joinT (wr := [(ee, .inr (15, [.int 3, .int tx, .int gx, .int nx, .int 0, .int 0, .long 0, .int 0, .null, .ref la, .ref sa, .int (nI n), .null, .null])), (la, .inl (kE, cp, .inr (.inr (.inr (.inr f))))), (sa, .inl (kI, cp, .inl g)), (mr 5, .inl (kI, 3002, .inl fk)), (mr 6, .inl (kI, 3002, .inl fa)), (mr 8, .inl (kL, 3002, .inr (.inl fn)))]) (w1 := [(m9, .inr (23, mA mr mv vf xl (nI zs) ff1 xa1 (nI T) (nI pp1) xi xt xn (nI (ns + 1)) (nI vv) (nI bb1)))]) hP hD [3] [0, 1, 2, 4, 5, 6] rfl rfl (by decide) (by decide) hk1 hFc hP1 hD1
                  replace hP := hPj
                  replace hD := hDj
                  clear hPj hDj
                  generalize H1 = H at hP hS ⊢
                  replace hP : va_P (dC, dI) vwCl (([(ee, .inr (15, [.int 3, .int tx, .int gx, .int nx, .int 0, .int 0, .long 0, .int 0, .null, .ref la, .ref sa, .int (nI n), .null, .null])), (la, .inl (kE, cp, .inr (.inr (.inr (.inr f))))), (sa, .inl (kI, cp, .inl g)), (mr 5, .inl (kI, 3002, .inl fk)), (mr 6, .inl (kI, 3002, .inl fa)), (mr 8, .inl (kL, 3002, .inr (.inl fn))), (m9, .inr (23, mA mr mv vf xl (nI zs) ff1 xa1 (nI T) (nI pp1) xi xt xn (nI (ns + 1)) (nI vv) (nI bb1)))] : va_W) ++ (sT L1 F1)) H := hP
                  replace hD : va_D A (([(ee, .inr (15, [.int 3, .int tx, .int gx, .int nx, .int 0, .int 0, .long 0, .int 0, .null, .ref la, .ref sa, .int (nI n), .null, .null])), (la, .inl (kE, cp, .inr (.inr (.inr (.inr f))))), (sa, .inl (kI, cp, .inl g)), (mr 5, .inl (kI, 3002, .inl fk)), (mr 6, .inl (kI, 3002, .inl fa)), (mr 8, .inl (kL, 3002, .inr (.inl fn))), (m9, .inr (23, mA mr mv vf xl (nI zs) ff1 xa1 (nI T) (nI pp1) xi xt xn (nI (ns + 1)) (nI vv) (nI bb1)))] : va_W) ++ (sT L1 F1)) := hD
                  replace hK : va_K (dC, dI) vwCl [(kI, .int), (kL, .long), (kE, .object RX15)] s := hK
                  clear hz1 hk1 hPc hDc hKc hFc hP1 hD1 hK1
                  obtain rfl : r_23 = 0 := hw
                  refine lv_if_eq (tgt := 92) hx hb dX23_list_66 (by decide) (fun _ => ?_) (fun c_24 => absurd (by decide) c_24)
                  refine lv_aload_n hx hb dX23_list_92 rfl (lv_at hl 1 rfl) ?_
                  refine lv_dup hx hb dX23_list_93 rfl ?_
                  refine va_get (D := (dC, dI)) (ci := 23) (v := .int (nI (ns + 1))) (C := RX23) (T := TX23) (N := 89) hx hb hts in_c_xli3_X23 hown hK hP 6 rfl rfl 15 (by decide) (hts (.fieldLink RX23 104 "OwnedPlacesModel" "nest" "I") (wm_c_xli3 14 rfl)) (fun _ h9 => h9) rfl dX23_list_94 ?_
                  refine lv_iconst (v := 1) hx hb dX23_list_97 (by decide) ?_
                  refine lv_isub hx hb dX23_list_98 ?_
                  refine lv_topi (fun f_25 ef_25 => ?_)
                  obtain rfl : f_25 = nI ns := ef_25.trans (nI_pred _)
                  refine va_put (D := (dC, dI)) (ci := 23) (v := .int (nI ns)) (ty := .int) (C := RX23) (T := TX23) (N := 89) hx hb hts in_c_xli3_X23 tyX23 tyX23_ok nmX23 hown hK hP hD hS 6 rfl rfl 15 (by decide) (hts (.fieldLink RX23 104 "OwnedPlacesModel" "nest" "I") (wm_c_xli3 14 rfl)) (fun _ h9 => h9) rfl (by decide +kernel) rfl rfl (Nat.le_of_ble_eq_true rfl) dX23_list_99 (fun H locs hP hD hS => ?_)
                  replace hP : va_P (dC, dI) vwCl (([(ee, .inr (15, [.int 3, .int tx, .int gx, .int nx, .int 0, .int 0, .long 0, .int 0, .null, .ref la, .ref sa, .int (nI n), .null, .null])), (la, .inl (kE, cp, .inr (.inr (.inr (.inr f))))), (sa, .inl (kI, cp, .inl g)), (mr 5, .inl (kI, 3002, .inl fk)), (mr 6, .inl (kI, 3002, .inl fa)), (mr 8, .inl (kL, 3002, .inr (.inl fn))), (m9, .inr (23, mA mr mv vf xl (nI zs) ff1 xa1 (nI T) (nI pp1) xi xt xn (nI ns) (nI vv) (nI bb1)))] : va_W) ++ (sT L1 F1)) H := hP
                  replace hD : va_D A (([(ee, .inr (15, [.int 3, .int tx, .int gx, .int nx, .int 0, .int 0, .long 0, .int 0, .null, .ref la, .ref sa, .int (nI n), .null, .null])), (la, .inl (kE, cp, .inr (.inr (.inr (.inr f))))), (sa, .inl (kI, cp, .inl g)), (mr 5, .inl (kI, 3002, .inl fk)), (mr 6, .inl (kI, 3002, .inl fa)), (mr 8, .inl (kL, 3002, .inr (.inl fn))), (m9, .inr (23, mA mr mv vf xl (nI zs) ff1 xa1 (nI T) (nI pp1) xi xt xn (nI ns) (nI vv) (nI bb1)))] : va_W) ++ (sT L1 F1)) := hD
                  refine lv_aload_n hx hb dX23_list_102 rfl (lv_at hl 1 rfl) ?_
                  refine lv_bipush (v := 62) hx hb dX23_list_103 (by decide) ?_
                  replace hPc := hP.subF (f' := [(m9, .inr (23, mA mr mv vf xl (nI zs) ff1 xa1 (nI T) (nI pp1) xi xt xn (nI ns) (nI vv) (nI bb1))), (mr 5, .inl (kI, 3002, .inl fk)), (mr 6, .inl (kI, 3002, .inl fa))]) [6, 3, 4] rfl
                  replace hDc := hD.subF (f' := [(m9, .inr (23, mA mr mv vf xl (nI zs) ff1 xa1 (nI T) (nI pp1) xi xt xn (nI ns) (nI vv) (nI bb1))), (mr 5, .inl (kI, 3002, .inl fk)), (mr 6, .inl (kI, 3002, .inl fa))]) [6, 3, 4] (by decide) rfl
                  replace hKc := hK.sub (tys' := [(kI, .int)]) [0] rfl
                  replace hFc := va_freeT (wc := [(m9, .inr (23, mA mr mv vf xl (nI zs) ff1 xa1 (nI T) (nI pp1) xi xt xn (nI ns) (nI vv) (nI bb1))), (mr 5, .inl (kI, 3002, .inl fk)), (mr 6, .inl (kI, 3002, .inl fa))]) hD hS hA [6, 3, 4] rfl
                  refine va_callv (va_runV (As := [.int 62]) (rest := []) ⟨hx, hb, hml, hown, hts⟩ (c_rtkB l dC dI m9 mr mv vf xl xa1 xi xt xn zs T pp1 ns vv bb1 kI fk fa ff1 62 H.size hz_22) (cwV 1 hts g_c_xli3_c_rtkB_105 rfl rfl rfl (by decide +kernel) ⟨by show 1 + 1 ≤ 2 + 12 * k; omega, by show 8 + (2 + 11) + (20) ≤ 43 + 279 * k; omega⟩) ⟨fun a U g mk q => by obtain ⟨q0, q1, qP, qK, qD⟩ := q; exact ⟨q0, q1, qP, va_K.moved (u := U) (U := U.calling g mk a) (Vm.Alike.refl U.vm) qK, qD⟩, va_recv hKc hPc (ci := 23) (q0 := 0) rfl rfl, fun U hU hW => ⟨rfl, by rw [hU], by rw [hU]; exact hPc, va_K.moved hW.alike hKc, hDc.weaken (fun _ _ _ _ => trivial)⟩⟩ rfl rfl hl.1 rfl (lv_room (Nat.le_of_ble_eq_true rfl)) dX23_list_105 ⟨(show (8 * (pp1 - pp) - 3 * n - 8 * cm) + 0 ≤ (8 * (T - pp) + 3) by omega), (show (120 * (pp1 - pp) + 4 * cp + 8 - 64 * n - 120 * cm) + 0 ≤ (120 * (T - pp) + 280) by omega)⟩) hS (fun q _ h => hFc q h) hFc (fun u tS H1 locs ht hvm hw hB hz1 hk1 hS => ?_)
                  obtain ⟨hP1, hK1, hD1⟩ := hB
                  rw [ht] at hP1
                  replace hK1 := va_K.moved hvm.symm hK1
                  obtain ⟨hPj, hDj⟩ := va_joinT (wr := [(ee, .inr (15, [.int 3, .int tx, .int gx, .int nx, .int 0, .int 0, .long 0, .int 0, .null, .ref la, .ref sa, .int (nI n), .null, .null])), (la, .inl (kE, cp, .inr (.inr (.inr (.inr f))))), (sa, .inl (kI, cp, .inl g)), (mr 8, .inl (kL, 3002, .inr (.inl fn)))]) (w1 := [(m9, .inr (23, mA mr mv vf xl (nI zs) ff1 xa1 (nI T) (nI pp1) xi xt xn (nI ns) (nI vv) (nI bb1))), (mr 5, .inl (kI, 3002, .inl fk)), (mr 6, .inl (kI, 3002, .inl fa))]) hP hD [6, 3, 4] [0, 1, 2, 5] rfl rfl (by decide) (by decide) hk1 hFc hP1 hD1
                  replace hP := hPj
                  replace hD := hDj
                  clear hPj hDj
                  replace hK := hK.app hK1
                  generalize H1 = H at hP hS ⊢
                  replace hP : va_P (dC, dI) vwCl (([(ee, .inr (15, [.int 3, .int tx, .int gx, .int nx, .int 0, .int 0, .long 0, .int 0, .null, .ref la, .ref sa, .int (nI n), .null, .null])), (la, .inl (kE, cp, .inr (.inr (.inr (.inr f))))), (sa, .inl (kI, cp, .inl g)), (mr 8, .inl (kL, 3002, .inr (.inl fn))), (m9, .inr (23, mA mr mv vf xl (nI zs) ff1 xa1 (nI T) (nI pp1) xi xt xn (nI ns) (nI vv) (nI bb1))), (mr 5, .inl (kI, 3002, .inl fk)), (mr 6, .inl (kI, 3002, .inl fa))] : va_W) ++ (sT L1 F1)) H := hP
                  replace hD : va_D A (([(ee, .inr (15, [.int 3, .int tx, .int gx, .int nx, .int 0, .int 0, .long 0, .int 0, .null, .ref la, .ref sa, .int (nI n), .null, .null])), (la, .inl (kE, cp, .inr (.inr (.inr (.inr f))))), (sa, .inl (kI, cp, .inl g)), (mr 8, .inl (kL, 3002, .inr (.inl fn))), (m9, .inr (23, mA mr mv vf xl (nI zs) ff1 xa1 (nI T) (nI pp1) xi xt xn (nI ns) (nI vv) (nI bb1))), (mr 5, .inl (kI, 3002, .inl fk)), (mr 6, .inl (kI, 3002, .inl fa))] : va_W) ++ (sT L1 F1)) := hD
                  replace hK : va_K (dC, dI) vwCl [(kI, .int), (kL, .long), (kE, .object RX15), (kI, .int)] s := hK
                  replace hK := hK.sub (tys' := [(kI, .int), (kL, .long), (kE, .object RX15)]) [0, 1, 2] rfl
                  clear hz1 hk1 hPc hDc hKc hFc hP1 hD1 hK1
                  replace hP : va_P (dC, dI) vwCl ((([(ee, .inr (15, [.int 3, .int tx, .int gx, .int nx, .int 0, .int 0, .long 0, .int 0, .null, .ref la, .ref sa, .int (nI n), .null, .null])), (mr 8, .inl (kL, 3002, .inr (.inl fn))), (m9, .inr (23, mA mr mv vf xl (nI zs) ff1 xa1 (nI T) (nI pp1) xi xt xn (nI ns) (nI vv) (nI bb1))), (mr 5, .inl (kI, 3002, .inl fk)), (mr 6, .inl (kI, 3002, .inl fa))] : va_W) ++ ([(la, .inl (kE, cp, .inr (.inr (.inr (.inr f))))), (sa, .inl (kI, cp, .inl g))] : va_W)) ++ sT L1 F1) H := hP.subT (f' := [(ee, .inr (15, [.int 3, .int tx, .int gx, .int nx, .int 0, .int 0, .long 0, .int 0, .null, .ref la, .ref sa, .int (nI n), .null, .null])), (mr 8, .inl (kL, 3002, .inr (.inl fn))), (m9, .inr (23, mA mr mv vf xl (nI zs) ff1 xa1 (nI T) (nI pp1) xi xt xn (nI ns) (nI vv) (nI bb1))), (mr 5, .inl (kI, 3002, .inl fk)), (mr 6, .inl (kI, 3002, .inl fa)), (la, .inl (kE, cp, .inr (.inr (.inr (.inr f))))), (sa, .inl (kI, cp, .inl g))]) [0, 3, 4, 5, 6, 1, 2] rfl
                  replace hD : va_D A ((([(ee, .inr (15, [.int 3, .int tx, .int gx, .int nx, .int 0, .int 0, .long 0, .int 0, .null, .ref la, .ref sa, .int (nI n), .null, .null])), (mr 8, .inl (kL, 3002, .inr (.inl fn))), (m9, .inr (23, mA mr mv vf xl (nI zs) ff1 xa1 (nI T) (nI pp1) xi xt xn (nI ns) (nI vv) (nI bb1))), (mr 5, .inl (kI, 3002, .inl fk)), (mr 6, .inl (kI, 3002, .inl fa))] : va_W) ++ ([(la, .inl (kE, cp, .inr (.inr (.inr (.inr f))))), (sa, .inl (kI, cp, .inl g))] : va_W)) ++ sT L1 F1) := hD.subT (f' := [(ee, .inr (15, [.int 3, .int tx, .int gx, .int nx, .int 0, .int 0, .long 0, .int 0, .null, .ref la, .ref sa, .int (nI n), .null, .null])), (mr 8, .inl (kL, 3002, .inr (.inl fn))), (m9, .inr (23, mA mr mv vf xl (nI zs) ff1 xa1 (nI T) (nI pp1) xi xt xn (nI ns) (nI vv) (nI bb1))), (mr 5, .inl (kI, 3002, .inl fk)), (mr 6, .inl (kI, 3002, .inl fa)), (la, .inl (kE, cp, .inr (.inr (.inr (.inr f))))), (sa, .inl (kI, cp, .inl g))]) [0, 3, 4, 5, 6, 1, 2] (by decide) rfl
                  obtain ⟨L9, F9, hx9, hm9, hP, hD⟩ := st_fileL [(la, .inl (kE, cp, .inr (.inr (.inr (.inr f))))), (sa, .inl (kI, cp, .inl g))] hP hD
                  have hm9_0 := hm9 _ (List.mem_of_getElem? (i := 0) rfl)
                  have hm9_1 := hm9 _ (List.mem_of_getElem? (i := 1) rfl)
                  refine W.grow (fun hgs0 hgs1 => ?_)
                  have hP9 := hP.subT (f' := [(ee, .inr (15, [.int 3, .int tx, .int gx, .int nx, .int 0, .int 0, .long 0, .int 0, .null, (.ref la), (.ref sa), .int (nI n), .null, .null])), (m9, .inr (23, mA mr mv vf xl (nI zs) ff1 xa1 (nI T) (nI pp1) xi xt xn (nI ns) (nI vv) (nI bb1))), (mr 5, .inl (kI, 3002, .inl fk)), (mr 6, .inl (kI, 3002, .inl fa)), (mr 8, .inl (kL, 3002, .inr (.inl fn)))]) [0, 2, 3, 4, 1] rfl
                  have hD9 := hD.subT (f' := [(ee, .inr (15, [.int 3, .int tx, .int gx, .int nx, .int 0, .int 0, .long 0, .int 0, .null, (.ref la), (.ref sa), .int (nI n), .null, .null])), (m9, .inr (23, mA mr mv vf xl (nI zs) ff1 xa1 (nI T) (nI pp1) xi xt xn (nI ns) (nI vv) (nI bb1))), (mr 5, .inl (kI, 3002, .inl fk)), (mr 6, .inl (kI, 3002, .inl fa)), (mr 8, .inl (kL, 3002, .inr (.inl fn)))]) [0, 2, 3, 4, 1] (by decide) rfl
                  have hK9 := hK.sub (tys' := [(kI, .int), (kL, .long), (kE, .object RX15)]) [0, 1, 2] rfl
                  refine W.widen (k := (8 * (T - pp) + 3)) (n := (120 * (T - pp) + 280)) (by omega) (by omega) ?_
                  subst hQ1
                  exact W.vret hx hb hr (fun tS ht hW => ⟨⟨(), rfl, trivial, L9, F9, ff1, xa1, pp1, bb1, .ref la, .ref sa, n, (hr2).tr hx9, ⟨by omega, by omega, by omega, by omega⟩, (fun q9 => absurd q9 hz_22), by rw [ht]; exact ⟨by omega, by omega⟩, by rw [ht]; exact hP9, va_K.moved hW.alike hK9, hD9⟩, hS.F ht⟩) hS.2.2 dX23_list_108
            refine W.widen (k := (8 * (pp16 - pp) - 3 * 1 - 8 * 0)) (n := (120 * (pp16 - pp) + 4 * 4 + 8 - 64 * 1 - 120 * 0)) (by omega) (by omega) ?_
            exact key1 (T + 1 - (pp16) + 1) pp16 bb16 la17 sa17 4 1 0 0 xa16 0 L16 F16 f17 g17 _ _ _ (⟨by omega, by omega, by omega, by omega, by omega, by omega, by omega, by omega, by omega, by omega, by omega, hT⟩) (Or.inr (by omega)) hf17_0.1 (fun i hi => by obtain rfl : i = 0 := (by omega); exact ⟨_, hf18_1.1, hf17_0.2⟩) (fun _ => ⟨hg16.1, _, chP_add (chP_0 (f := f17) (g := g17) (Nat.le_refl pp)) (fun i hi => absurd hi (by omega)) hf18_1.1 (hf18_1.2.trans rfl) (by omega) (isE_im exS.rf _ (by omega) hg16.2) (Or.inl ⟨rfl, rfl⟩), Or.inl ⟨rfl, rfl, by omega⟩⟩) (hP.subT [2, 3, 4, 5, 6, 0, 1] rfl) (hD.subT [2, 3, 4, 5, 6, 0, 1] (by decide) rfl) hS (lv_sub hl [0, 1, 2] rfl)
        · replace hPc := hP.subF (f' := [(m9, .inr (23, mA mr mv vf xl (nI zs) ff16 xa16 (nI T) (nI pp16) xi xt xn (nI (ns + 1)) (nI vv) (nI bb16))), (mr 5, .inl (kI, 3002, .inl fk))]) [0, 1] rfl
          replace hDc := hD.subF (f' := [(m9, .inr (23, mA mr mv vf xl (nI zs) ff16 xa16 (nI T) (nI pp16) xi xt xn (nI (ns + 1)) (nI vv) (nI bb16))), (mr 5, .inl (kI, 3002, .inl fk))]) [0, 1] (by decide) rfl
          replace hKc := hK.sub (tys' := [(kI, .int)]) [0] rfl
          replace hFc := va_freeT (wc := [(m9, .inr (23, mA mr mv vf xl (nI zs) ff16 xa16 (nI T) (nI pp16) xi xt xn (nI (ns + 1)) (nI vv) (nI bb16))), (mr 5, .inl (kI, 3002, .inl fk))]) hD hS hA [0, 1] rfl
          refine va_calli (va_runV (As := [.int 57]) (rest := []) ⟨hx, hb, hml, hown, hts⟩ (c_rtsB l dC dI m9 mr mv vf xl xa16 xi xt xn zs T pp16 (ns + 1) vv bb16 kI fk fa ff16 57 H.size hz_19) (cwV 1 hts g_c_xli3_c_rtsB_85 rfl rfl rfl (by decide +kernel) ⟨by show 1 + 1 ≤ 2 + 12 * k; omega, by show 8 + (2 + 11) + (20) ≤ 43 + 279 * k; omega⟩) ⟨fun a U g mk q => by obtain ⟨q0, q1, qP, qK, qD⟩ := q; exact ⟨q0, q1, qP, va_K.moved (u := U) (U := U.calling g mk a) (Vm.Alike.refl U.vm) qK, qD⟩, va_recv hKc hPc (ci := 23) (q0 := 0) rfl rfl, fun U hU hW => ⟨rfl, by rw [hU], by rw [hU]; exact hPc, va_K.moved hW.alike hKc, hDc.weaken (fun _ _ _ _ => trivial)⟩⟩ rfl rfl hl.1 rfl (lv_room (Nat.le_of_ble_eq_true rfl)) dX23_list_85 ⟨(show (8 * (pp16 - (pp + 1)) + 3 + 2) + 0 ≤ (8 * (T - pp) + 3) by omega), (show (120 * (pp16 - (pp + 1)) + 48 + 8) + 0 ≤ (120 * (T - pp) + 280) by omega)⟩) hS (fun q _ h => hFc q h) hFc (fun r_20 u tS H1 locs ht hvm hw hB hz1 hk1 hS => ?_)
          obtain ⟨hP1, hK1, hD1⟩ := hB
          rw [ht] at hP1
          replace hK1 := va_K.moved hvm.symm hK1
          obtain ⟨hPj, hDj⟩ := va_joinT (wr := [(mr 6, .inl (kI, 3002, .inl fa)), (mr 8, .inl (kL, 3002, .inr (.inl fn))), (ee, .inr (15, [.int 3, .int tx, .int gx, .int nx, .int 0, .int 0, .long 0, .int 0, .null, .ref la17, .ref sa17, .int 1, .null, .null])), (la17, .inl (kE, 4, .inr (.inr (.inr (.inr f17))))), (sa17, .inl (kI, 4, .inl g17))]) (w1 := [(m9, .inr (23, mA mr mv vf xl (nI zs) ff16 xa16 (nI T) (nI pp16) xi xt xn (nI (ns + 1)) (nI vv) (nI bb16))), (mr 5, .inl (kI, 3002, .inl fk))]) hP hD [0, 1] [2, 3, 4, 5, 6] rfl rfl (by decide) (by decide) hk1 hFc hP1 hD1
          replace hP := hPj
          replace hD := hDj
          clear hPj hDj
          replace hK := hK.app hK1
          generalize H1 = H at hP hS ⊢
          replace hP : va_P (dC, dI) vwCl (([(mr 6, .inl (kI, 3002, .inl fa)), (mr 8, .inl (kL, 3002, .inr (.inl fn))), (ee, .inr (15, [.int 3, .int tx, .int gx, .int nx, .int 0, .int 0, .long 0, .int 0, .null, .ref la17, .ref sa17, .int 1, .null, .null])), (la17, .inl (kE, 4, .inr (.inr (.inr (.inr f17))))), (sa17, .inl (kI, 4, .inl g17)), (m9, .inr (23, mA mr mv vf xl (nI zs) ff16 xa16 (nI T) (nI pp16) xi xt xn (nI (ns + 1)) (nI vv) (nI bb16))), (mr 5, .inl (kI, 3002, .inl fk))] : va_W) ++ (sT L16 F16)) H := hP
          replace hD : va_D A (([(mr 6, .inl (kI, 3002, .inl fa)), (mr 8, .inl (kL, 3002, .inr (.inl fn))), (ee, .inr (15, [.int 3, .int tx, .int gx, .int nx, .int 0, .int 0, .long 0, .int 0, .null, .ref la17, .ref sa17, .int 1, .null, .null])), (la17, .inl (kE, 4, .inr (.inr (.inr (.inr f17))))), (sa17, .inl (kI, 4, .inl g17)), (m9, .inr (23, mA mr mv vf xl (nI zs) ff16 xa16 (nI T) (nI pp16) xi xt xn (nI (ns + 1)) (nI vv) (nI bb16))), (mr 5, .inl (kI, 3002, .inl fk))] : va_W) ++ (sT L16 F16)) := hD
          replace hK : va_K (dC, dI) vwCl [(kI, .int), (kL, .long), (kE, .object RX15), (kI, .int)] s := hK
          replace hK := hK.sub (tys' := [(kI, .int), (kL, .long), (kE, .object RX15)]) [0, 1, 2] rfl
          clear hz1 hk1 hPc hDc hKc hFc hP1 hD1 hK1
          obtain rfl : r_20 = 0 := hw
          refine lv_istore_n (lv' := [(2, .int 0), (0, .ref m9), (1, .ref ee)]) hx hb dX23_list_88 rfl hl (by decide) rfl (fun ls hl => ?_)
          refine lv_goto (tgt := 62) hx hb dX23_list_89 (by decide) ?_
          refine W_q (fun Q1 hQ1 => ?_)
          have key1 : ∀ (n1 : Nat) (pp1 bb1 la sa cp n cm : Nat) (ff1 xa1 mo : Int32) (L1 : List Nat) (F1 : Nat → va_E) (f : Nat → Option Nat) (g : Nat → Int32) (H : Heap) (locs : List Loc) (ls : Array Slot), (1 ≤ n1 ∧ pp ≤ pp1 ∧ pp1 < T ∧ bb ≤ bb1 ∧ bb1 ≤ bb + (pp1 - pp) ∧ 1 ≤ n ∧ n ≤ cp ∧ 4 ≤ cp ∧ cp ≤ 4 + 2 * n ∧ pp + n + cm ≤ pp1 ∧ cm ≤ 1 ∧ T ≤ 3001) → (ff1 ≠ 0 ∨ T + 1 ≤ pp1 + n1) → (exS L F L1 F1) → (∀ i : Nat, i < n → ∃ x : Nat, f i = some x ∧ xO L1 F1 x) → (ff1 = 0 → bb1 ≤ 54 ∧ ∃ q0 : Nat, chP 0 (isE L1 F1 kE kI (24 * k)) f g n pp q0 bb bb1 ∧ ((mo = 0 ∧ cm = 0 ∧ q0 ≤ pp1) ∨ (mo ≠ 0 ∧ cm = 1 ∧ q0 < pp1))) → va_P (dC, dI) vwCl (([(ee, .inr (15, [.int 3, .int tx, .int gx, .int nx, .int 0, .int 0, .long 0, .int 0, .null, .ref la, .ref sa, .int (nI n), .null, .null])), (la, .inl (kE, cp, .inr (.inr (.inr (.inr f))))), (sa, .inl (kI, cp, .inl g)), (m9, .inr (23, mA mr mv vf xl (nI zs) ff1 xa1 (nI T) (nI pp1) xi xt xn (nI (ns + 1)) (nI vv) (nI bb1))), (mr 5, .inl (kI, 3002, .inl fk)), (mr 6, .inl (kI, 3002, .inl fa)), (mr 8, .inl (kL, 3002, .inr (.inl fn)))] : va_W) ++ (sT L1 F1)) H → va_D A (([(ee, .inr (15, [.int 3, .int tx, .int gx, .int nx, .int 0, .int 0, .long 0, .int 0, .null, .ref la, .ref sa, .int (nI n), .null, .null])), (la, .inl (kE, cp, .inr (.inr (.inr (.inr f))))), (sa, .inl (kI, cp, .inl g)), (m9, .inr (23, mA mr mv vf xl (nI zs) ff1 xa1 (nI T) (nI pp1) xi xt xn (nI (ns + 1)) (nI vv) (nI bb1))), (mr 5, .inl (kI, 3002, .inl fk)), (mr 6, .inl (kI, 3002, .inl fa)), (mr 8, .inl (kL, 3002, .inr (.inl fn)))] : va_W) ++ (sT L1 F1)) → va_S A s.heap H locs → lv_has ls 3 [(2, .int mo), (0, .ref m9), (1, .ref ee)] → W p l e (headSpec wp_c_xli3 ({ frames := 2 + 12 * k, cells := (8 * (T - pp) + 3), slots := (120 * (T - pp) + 280), locals := 43 + 279 * k })).room s m ([.ref m9, .ref ee] : List Value).toArray below meth c H locs (8 * (pp1 - pp) - 3 * n - 8 * cm) (120 * (pp1 - pp) + 4 * cp + 8 - 64 * n - 120 * cm) Q1 (F0 m 62 ls []) := by
            intro n1
            induction n1 with
            | zero => intro pp1 bb1 la sa cp n cm ff1 xa1 mo L1 F1 f g H locs ls hr0 hr1 hr2 hr3 hr4; exact absurd hr0 (by omega)
            | succ n1 ih1 =>
              intro pp1 bb1 la sa cp n cm ff1 xa1 mo L1 F1 f g H locs ls hr0 hr1 hr2 hr3 hr4 hP hD hS hl
              refine lv_aload_n hx hb dX23_list_62 rfl (lv_at hl 1 rfl) ?_
              by_cases hz_21 : ff1 = 0
              · subst hz_21
                have hr9 := hr4 rfl
                replace hPc := hP.subF (f' := [(m9, .inr (23, mA mr mv vf xl (nI zs) 0 xa1 (nI T) (nI pp1) xi xt xn (nI (ns + 1)) (nI vv) (nI bb1)))]) [3] rfl
                replace hDc := hD.subF (f' := [(m9, .inr (23, mA mr mv vf xl (nI zs) 0 xa1 (nI T) (nI pp1) xi xt xn (nI (ns + 1)) (nI vv) (nI bb1)))]) [3] (by decide) rfl
                replace hKc := hK.sub (tys' := []) [] rfl
                replace hFc := va_freeT (wc := [(m9, .inr (23, mA mr mv vf xl (nI zs) 0 xa1 (nI T) (nI pp1) xi xt xn (nI (ns + 1)) (nI vv) (nI bb1)))]) hD hS hA [3] rfl
                refine va_calli (va_runV (As := []) (rest := []) ⟨hx, hb, hml, hown, hts⟩ (c_rok0 l dC dI m9 mr mv vf xl xa1 xi xt xn zs T pp1 (ns + 1) vv bb1 kI fk fa H.size) (cwV 0 hts g_c_xli3_c_rok0_63 rfl rfl rfl (by decide +kernel) ⟨by show 0 + 1 ≤ 2 + 12 * k; omega, by show 8 + (1 + 11) + (0) ≤ 43 + 279 * k; omega⟩) ⟨fun a U g mk q => by obtain ⟨q0, q1, qP, qK, qD⟩ := q; exact ⟨q0, q1, qP, va_K.moved (u := U) (U := U.calling g mk a) (Vm.Alike.refl U.vm) qK, qD⟩, va_recv hKc hPc (ci := 23) (q0 := 0) rfl rfl, fun U hU hW => ⟨rfl, by rw [hU], by rw [hU]; exact hPc, va_K.moved hW.alike hKc, hDc.weaken (fun _ _ _ _ => trivial)⟩⟩ rfl rfl hl.1 rfl (lv_room (Nat.le_of_ble_eq_true rfl)) dX23_list_63 ⟨(show (8 * (pp1 - pp) - 3 * n - 8 * cm) + 0 ≤ (8 * (T - pp) + 3) by omega), (show (120 * (pp1 - pp) + 4 * cp + 8 - 64 * n - 120 * cm) + 0 ≤ (120 * (T - pp) + 280) by omega)⟩) hS (fun q _ h => hFc q h) hFc (fun r_22 u tS H1 locs ht hvm hw hB hz1 hk1 hS => ?_)
                obtain ⟨hP1, hK1, hD1⟩ := hB
                rw [ht] at hP1
                replace hK1 := va_K.moved hvm.symm hK1
                obtain ⟨hPj, hDj⟩ := va_joinT (wr := [(ee, .inr (15, [.int 3, .int tx, .int gx, .int nx, .int 0, .int 0, .long 0, .int 0, .null, .ref la, .ref sa, .int (nI n), .null, .null])), (la, .inl (kE, cp, .inr (.inr (.inr (.inr f))))), (sa, .inl (kI, cp, .inl g)), (mr 5, .inl (kI, 3002, .inl fk)), (mr 6, .inl (kI, 3002, .inl fa)), (mr 8, .inl (kL, 3002, .inr (.inl fn)))]) (w1 := [(m9, .inr (23, mA mr mv vf xl (nI zs) 0 xa1 (nI T) (nI pp1) xi xt xn (nI (ns + 1)) (nI vv) (nI bb1)))]) hP hD [3] [0, 1, 2, 4, 5, 6] rfl rfl (by decide) (by decide) hk1 hFc hP1 hD1
                replace hP := hPj
                replace hD := hDj
                clear hPj hDj
                generalize H1 = H at hP hS ⊢
                replace hP : va_P (dC, dI) vwCl (([(ee, .inr (15, [.int 3, .int tx, .int gx, .int nx, .int 0, .int 0, .long 0, .int 0, .null, .ref la, .ref sa, .int (nI n), .null, .null])), (la, .inl (kE, cp, .inr (.inr (.inr (.inr f))))), (sa, .inl (kI, cp, .inl g)), (mr 5, .inl (kI, 3002, .inl fk)), (mr 6, .inl (kI, 3002, .inl fa)), (mr 8, .inl (kL, 3002, .inr (.inl fn))), (m9, .inr (23, mA mr mv vf xl (nI zs) 0 xa1 (nI T) (nI pp1) xi xt xn (nI (ns + 1)) (nI vv) (nI bb1)))] : va_W) ++ (sT L1 F1)) H := hP
                replace hD : va_D A (([(ee, .inr (15, [.int 3, .int tx, .int gx, .int nx, .int 0, .int 0, .long 0, .int 0, .null, .ref la, .ref sa, .int (nI n), .null, .null])), (la, .inl (kE, cp, .inr (.inr (.inr (.inr f))))), (sa, .inl (kI, cp, .inl g)), (mr 5, .inl (kI, 3002, .inl fk)), (mr 6, .inl (kI, 3002, .inl fa)), (mr 8, .inl (kL, 3002, .inr (.inl fn))), (m9, .inr (23, mA mr mv vf xl (nI zs) 0 xa1 (nI T) (nI pp1) xi xt xn (nI (ns + 1)) (nI vv) (nI bb1)))] : va_W) ++ (sT L1 F1)) := hD
                replace hK : va_K (dC, dI) vwCl [(kI, .int), (kL, .long), (kE, .object RX15)] s := hK
                clear hz1 hk1 hPc hDc hKc hFc hP1 hD1 hK1
                obtain rfl : r_22 = 1 := hw
                refine lv_if_eq (tgt := 92) hx hb dX23_list_66 (by decide) (fun c_23 => absurd c_23 (by decide)) (fun _ => ?_)
                refine lv_iload_n hx hb dX23_list_69 rfl (lv_at hl 0 rfl) ?_
                refine lv_if_eq (tgt := 92) hx hb dX23_list_70 (by decide) (fun hm_24 => ?_) (fun hm_24 => ?_)
                · obtain ⟨q0, hr5, hr6⟩ := hr9.2
                  replace hr6 : q0 ≤ pp1 := by omega
                  refine lv_aload_n hx hb dX23_list_92 rfl (lv_at hl 1 rfl) ?_
                  refine lv_dup hx hb dX23_list_93 rfl ?_
                  refine va_get (D := (dC, dI)) (ci := 23) (v := .int (nI (ns + 1))) (C := RX23) (T := TX23) (N := 89) hx hb hts in_c_xli3_X23 hown hK hP 6 rfl rfl 15 (by decide) (hts (.fieldLink RX23 104 "OwnedPlacesModel" "nest" "I") (wm_c_xli3 14 rfl)) (fun _ h9 => h9) rfl dX23_list_94 ?_
                  refine lv_iconst (v := 1) hx hb dX23_list_97 (by decide) ?_
                  refine lv_isub hx hb dX23_list_98 ?_
                  refine lv_topi (fun f_25 ef_25 => ?_)
                  obtain rfl : f_25 = nI ns := ef_25.trans (nI_pred _)
                  refine va_put (D := (dC, dI)) (ci := 23) (v := .int (nI ns)) (ty := .int) (C := RX23) (T := TX23) (N := 89) hx hb hts in_c_xli3_X23 tyX23 tyX23_ok nmX23 hown hK hP hD hS 6 rfl rfl 15 (by decide) (hts (.fieldLink RX23 104 "OwnedPlacesModel" "nest" "I") (wm_c_xli3 14 rfl)) (fun _ h9 => h9) rfl (by decide +kernel) rfl rfl (Nat.le_of_ble_eq_true rfl) dX23_list_99 (fun H locs hP hD hS => ?_)
                  replace hP : va_P (dC, dI) vwCl (([(ee, .inr (15, [.int 3, .int tx, .int gx, .int nx, .int 0, .int 0, .long 0, .int 0, .null, .ref la, .ref sa, .int (nI n), .null, .null])), (la, .inl (kE, cp, .inr (.inr (.inr (.inr f))))), (sa, .inl (kI, cp, .inl g)), (mr 5, .inl (kI, 3002, .inl fk)), (mr 6, .inl (kI, 3002, .inl fa)), (mr 8, .inl (kL, 3002, .inr (.inl fn))), (m9, .inr (23, mA mr mv vf xl (nI zs) 0 xa1 (nI T) (nI pp1) xi xt xn (nI ns) (nI vv) (nI bb1)))] : va_W) ++ (sT L1 F1)) H := hP
                  replace hD : va_D A (([(ee, .inr (15, [.int 3, .int tx, .int gx, .int nx, .int 0, .int 0, .long 0, .int 0, .null, .ref la, .ref sa, .int (nI n), .null, .null])), (la, .inl (kE, cp, .inr (.inr (.inr (.inr f))))), (sa, .inl (kI, cp, .inl g)), (mr 5, .inl (kI, 3002, .inl fk)), (mr 6, .inl (kI, 3002, .inl fa)), (mr 8, .inl (kL, 3002, .inr (.inl fn))), (m9, .inr (23, mA mr mv vf xl (nI zs) 0 xa1 (nI T) (nI pp1) xi xt xn (nI ns) (nI vv) (nI bb1)))] : va_W) ++ (sT L1 F1)) := hD
                  refine lv_aload_n hx hb dX23_list_102 rfl (lv_at hl 1 rfl) ?_
                  refine lv_bipush (v := 62) hx hb dX23_list_103 (by decide) ?_
                  by_cases hk_26 : fk pp1 = 62
                  · replace hPc := hP.subF (f' := [(m9, .inr (23, mA mr mv vf xl (nI zs) 0 xa1 (nI T) (nI pp1) xi xt xn (nI ns) (nI vv) (nI bb1))), (mr 5, .inl (kI, 3002, .inl fk)), (mr 6, .inl (kI, 3002, .inl fa))]) [6, 3, 4] rfl
                    replace hDc := hD.subF (f' := [(m9, .inr (23, mA mr mv vf xl (nI zs) 0 xa1 (nI T) (nI pp1) xi xt xn (nI ns) (nI vv) (nI bb1))), (mr 5, .inl (kI, 3002, .inl fk)), (mr 6, .inl (kI, 3002, .inl fa))]) [6, 3, 4] (by decide) rfl
                    replace hKc := hK.sub (tys' := [(kI, .int)]) [0] rfl
                    replace hFc := va_freeT (wc := [(m9, .inr (23, mA mr mv vf xl (nI zs) 0 xa1 (nI T) (nI pp1) xi xt xn (nI ns) (nI vv) (nI bb1))), (mr 5, .inl (kI, 3002, .inl fk)), (mr 6, .inl (kI, 3002, .inl fa))]) hD hS hA [6, 3, 4] rfl
                    refine va_callv (va_runV (As := [.int 62]) (rest := []) ⟨hx, hb, hml, hown, hts⟩ (c_rtkY l dC dI m9 mr mv vf xl xa1 xi xt xn zs T pp1 ns vv bb1 kI fk fa 62 H.size hT hr0.2.2.1 hk0 (by decide) hk_26) (cwV 1 hts g_c_xli3_c_rtkY_105 rfl rfl rfl (by decide +kernel) ⟨by show 1 + 1 ≤ 2 + 12 * k; omega, by show 8 + (2 + 11) + (21) ≤ 43 + 279 * k; omega⟩) ⟨fun a U g mk q => by obtain ⟨q0, q1, qP, qK, qD⟩ := q; exact ⟨q0, q1, qP, va_K.moved (u := U) (U := U.calling g mk a) (Vm.Alike.refl U.vm) qK, qD⟩, va_recv hKc hPc (ci := 23) (q0 := 0) rfl rfl, fun U hU hW => ⟨rfl, by rw [hU], by rw [hU]; exact hPc, va_K.moved hW.alike hKc, hDc.weaken (fun _ _ _ _ => trivial)⟩⟩ rfl rfl hl.1 rfl (lv_room (Nat.le_of_ble_eq_true rfl)) dX23_list_105 ⟨(show (8 * (pp1 - pp) - 3 * n - 8 * cm) + 0 ≤ (8 * (T - pp) + 3) by omega), (show (120 * (pp1 - pp) + 4 * cp + 8 - 64 * n - 120 * cm) + 0 ≤ (120 * (T - pp) + 280) by omega)⟩) hS (fun q _ h => hFc q h) hFc (fun u tS H1 locs ht hvm hw hB hz1 hk1 hS => ?_)
                    obtain ⟨hP1, hK1, hD1⟩ := hB
                    rw [ht] at hP1
                    replace hK1 := va_K.moved hvm.symm hK1
                    obtain ⟨hPj, hDj⟩ := va_joinT (wr := [(ee, .inr (15, [.int 3, .int tx, .int gx, .int nx, .int 0, .int 0, .long 0, .int 0, .null, .ref la, .ref sa, .int (nI n), .null, .null])), (la, .inl (kE, cp, .inr (.inr (.inr (.inr f))))), (sa, .inl (kI, cp, .inl g)), (mr 8, .inl (kL, 3002, .inr (.inl fn)))]) (w1 := [(m9, .inr (23, mA mr mv vf xl (nI zs) 0 xa1 (nI T) (nI (pp1 + 1)) xi xt xn (nI ns) (nI vv) (nI bb1))), (mr 5, .inl (kI, 3002, .inl fk)), (mr 6, .inl (kI, 3002, .inl fa))]) hP hD [6, 3, 4] [0, 1, 2, 5] rfl rfl (by decide) (by decide) hk1 hFc hP1 hD1
                    replace hP := hPj
                    replace hD := hDj
                    clear hPj hDj
                    replace hK := hK.app hK1
                    generalize H1 = H at hP hS ⊢
                    replace hP : va_P (dC, dI) vwCl (([(ee, .inr (15, [.int 3, .int tx, .int gx, .int nx, .int 0, .int 0, .long 0, .int 0, .null, .ref la, .ref sa, .int (nI n), .null, .null])), (la, .inl (kE, cp, .inr (.inr (.inr (.inr f))))), (sa, .inl (kI, cp, .inl g)), (mr 8, .inl (kL, 3002, .inr (.inl fn))), (m9, .inr (23, mA mr mv vf xl (nI zs) 0 xa1 (nI T) (nI (pp1 + 1)) xi xt xn (nI ns) (nI vv) (nI bb1))), (mr 5, .inl (kI, 3002, .inl fk)), (mr 6, .inl (kI, 3002, .inl fa))] : va_W) ++ (sT L1 F1)) H := hP
                    replace hD : va_D A (([(ee, .inr (15, [.int 3, .int tx, .int gx, .int nx, .int 0, .int 0, .long 0, .int 0, .null, .ref la, .ref sa, .int (nI n), .null, .null])), (la, .inl (kE, cp, .inr (.inr (.inr (.inr f))))), (sa, .inl (kI, cp, .inl g)), (mr 8, .inl (kL, 3002, .inr (.inl fn))), (m9, .inr (23, mA mr mv vf xl (nI zs) 0 xa1 (nI T) (nI (pp1 + 1)) xi xt xn (nI ns) (nI vv) (nI bb1))), (mr 5, .inl (kI, 3002, .inl fk)), (mr 6, .inl (kI, 3002, .inl fa))] : va_W) ++ (sT L1 F1)) := hD
                    replace hK : va_K (dC, dI) vwCl [(kI, .int), (kL, .long), (kE, .object RX15), (kI, .int)] s := hK
                    replace hK := hK.sub (tys' := [(kI, .int), (kL, .long), (kE, .object RX15)]) [0, 1, 2] rfl
                    clear hz1 hk1 hPc hDc hKc hFc hP1 hD1 hK1
                    have hp_28 : pp1 + 1 < T := kne3 hk0 hr0.2.2.1 hk_26 (by decide)
                    replace hP : va_P (dC, dI) vwCl ((([(ee, .inr (15, [.int 3, .int tx, .int gx, .int nx, .int 0, .int 0, .long 0, .int 0, .null, .ref la, .ref sa, .int (nI n), .null, .null])), (mr 8, .inl (kL, 3002, .inr (.inl fn))), (m9, .inr (23, mA mr mv vf xl (nI zs) 0 xa1 (nI T) (nI (pp1 + 1)) xi xt xn (nI ns) (nI vv) (nI bb1))), (mr 5, .inl (kI, 3002, .inl fk)), (mr 6, .inl (kI, 3002, .inl fa))] : va_W) ++ ([(la, .inl (kE, cp, .inr (.inr (.inr (.inr f))))), (sa, .inl (kI, cp, .inl g))] : va_W)) ++ sT L1 F1) H := hP.subT (f' := [(ee, .inr (15, [.int 3, .int tx, .int gx, .int nx, .int 0, .int 0, .long 0, .int 0, .null, .ref la, .ref sa, .int (nI n), .null, .null])), (mr 8, .inl (kL, 3002, .inr (.inl fn))), (m9, .inr (23, mA mr mv vf xl (nI zs) 0 xa1 (nI T) (nI (pp1 + 1)) xi xt xn (nI ns) (nI vv) (nI bb1))), (mr 5, .inl (kI, 3002, .inl fk)), (mr 6, .inl (kI, 3002, .inl fa)), (la, .inl (kE, cp, .inr (.inr (.inr (.inr f))))), (sa, .inl (kI, cp, .inl g))]) [0, 3, 4, 5, 6, 1, 2] rfl
                    replace hD : va_D A ((([(ee, .inr (15, [.int 3, .int tx, .int gx, .int nx, .int 0, .int 0, .long 0, .int 0, .null, .ref la, .ref sa, .int (nI n), .null, .null])), (mr 8, .inl (kL, 3002, .inr (.inl fn))), (m9, .inr (23, mA mr mv vf xl (nI zs) 0 xa1 (nI T) (nI (pp1 + 1)) xi xt xn (nI ns) (nI vv) (nI bb1))), (mr 5, .inl (kI, 3002, .inl fk)), (mr 6, .inl (kI, 3002, .inl fa))] : va_W) ++ ([(la, .inl (kE, cp, .inr (.inr (.inr (.inr f))))), (sa, .inl (kI, cp, .inl g))] : va_W)) ++ sT L1 F1) := hD.subT (f' := [(ee, .inr (15, [.int 3, .int tx, .int gx, .int nx, .int 0, .int 0, .long 0, .int 0, .null, .ref la, .ref sa, .int (nI n), .null, .null])), (mr 8, .inl (kL, 3002, .inr (.inl fn))), (m9, .inr (23, mA mr mv vf xl (nI zs) 0 xa1 (nI T) (nI (pp1 + 1)) xi xt xn (nI ns) (nI vv) (nI bb1))), (mr 5, .inl (kI, 3002, .inl fk)), (mr 6, .inl (kI, 3002, .inl fa)), (la, .inl (kE, cp, .inr (.inr (.inr (.inr f))))), (sa, .inl (kI, cp, .inl g))]) [0, 3, 4, 5, 6, 1, 2] (by decide) rfl
                    obtain ⟨L9, F9, hx9, hm9, hP, hD⟩ := st_fileL [(la, .inl (kE, cp, .inr (.inr (.inr (.inr f))))), (sa, .inl (kI, cp, .inl g))] hP hD
                    have hm9_0 := hm9 _ (List.mem_of_getElem? (i := 0) rfl)
                    have hm9_1 := hm9 _ (List.mem_of_getElem? (i := 1) rfl)
                    refine W.grow (fun hgs0 hgs1 => ?_)
                    have hP9 := hP.subT (f' := [(ee, .inr (15, [.int 3, .int tx, .int gx, .int nx, .int 0, .int 0, .long 0, .int 0, .null, (.ref la), (.ref sa), .int (nI n), .null, .null])), (m9, .inr (23, mA mr mv vf xl (nI zs) 0 xa1 (nI T) (nI (pp1 + 1)) xi xt xn (nI ns) (nI vv) (nI bb1))), (mr 5, .inl (kI, 3002, .inl fk)), (mr 6, .inl (kI, 3002, .inl fa)), (mr 8, .inl (kL, 3002, .inr (.inl fn)))]) [0, 2, 3, 4, 1] rfl
                    have hD9 := hD.subT (f' := [(ee, .inr (15, [.int 3, .int tx, .int gx, .int nx, .int 0, .int 0, .long 0, .int 0, .null, (.ref la), (.ref sa), .int (nI n), .null, .null])), (m9, .inr (23, mA mr mv vf xl (nI zs) 0 xa1 (nI T) (nI (pp1 + 1)) xi xt xn (nI ns) (nI vv) (nI bb1))), (mr 5, .inl (kI, 3002, .inl fk)), (mr 6, .inl (kI, 3002, .inl fa)), (mr 8, .inl (kL, 3002, .inr (.inl fn)))]) [0, 2, 3, 4, 1] (by decide) rfl
                    have hK9 := hK.sub (tys' := [(kI, .int), (kL, .long), (kE, .object RX15)]) [0, 1, 2] rfl
                    refine W.widen (k := (8 * (T - pp) + 3)) (n := (120 * (T - pp) + 280)) (by omega) (by omega) ?_
                    subst hQ1
                    exact W.vret hx hb hr (fun tS ht hW => ⟨⟨(), rfl, trivial, L9, F9, 0, xa1, pp1 + 1, bb1, .ref la, .ref sa, n, (hr2).tr hx9, ⟨by omega, by omega, by omega, by omega⟩, (fun _ => ⟨hr9.1, by omega, Or.inr ⟨la, sa, cp, q0, f, g, rfl, rfl, hm9_0.1, hm9_1.1, hm9_0.2, hm9_1.2, by omega, by omega, chP_im (fun x p q b c z => isE_im hx9 _ (Nat.le_refl _) z) hr5⟩⟩), by rw [ht]; exact ⟨by omega, by omega⟩, by rw [ht]; exact hP9, va_K.moved hW.alike hK9, hD9⟩, hS.F ht⟩) hS.2.2 dX23_list_108
                  · replace hPc := hP.subF (f' := [(m9, .inr (23, mA mr mv vf xl (nI zs) 0 xa1 (nI T) (nI pp1) xi xt xn (nI ns) (nI vv) (nI bb1))), (mr 5, .inl (kI, 3002, .inl fk)), (mr 6, .inl (kI, 3002, .inl fa))]) [6, 3, 4] rfl
                    replace hDc := hD.subF (f' := [(m9, .inr (23, mA mr mv vf xl (nI zs) 0 xa1 (nI T) (nI pp1) xi xt xn (nI ns) (nI vv) (nI bb1))), (mr 5, .inl (kI, 3002, .inl fk)), (mr 6, .inl (kI, 3002, .inl fa))]) [6, 3, 4] (by decide) rfl
                    replace hKc := hK.sub (tys' := [(kI, .int)]) [0] rfl
                    replace hFc := va_freeT (wc := [(m9, .inr (23, mA mr mv vf xl (nI zs) 0 xa1 (nI T) (nI pp1) xi xt xn (nI ns) (nI vv) (nI bb1))), (mr 5, .inl (kI, 3002, .inl fk)), (mr 6, .inl (kI, 3002, .inl fa))]) hD hS hA [6, 3, 4] rfl
                    refine va_callv (va_runV (As := [.int 62]) (rest := []) ⟨hx, hb, hml, hown, hts⟩ (c_rtkN l dC dI m9 mr mv vf xl xa1 xi xt xn zs T pp1 ns vv bb1 kI fk fa 62 H.size hT hr0.2.2.1 hk0 (by decide) hk_26) (cwV 1 hts g_c_xli3_c_rtkN_105 rfl rfl rfl (by decide +kernel) ⟨by show 1 + 1 ≤ 2 + 12 * k; omega, by show 8 + (2 + 11) + (22) ≤ 43 + 279 * k; omega⟩) ⟨fun a U g mk q => by obtain ⟨q0, q1, qP, qK, qD⟩ := q; exact ⟨q0, q1, qP, va_K.moved (u := U) (U := U.calling g mk a) (Vm.Alike.refl U.vm) qK, qD⟩, va_recv hKc hPc (ci := 23) (q0 := 0) rfl rfl, fun U hU hW => ⟨rfl, by rw [hU], by rw [hU]; exact hPc, va_K.moved hW.alike hKc, hDc.weaken (fun _ _ _ _ => trivial)⟩⟩ rfl rfl hl.1 rfl (lv_room (Nat.le_of_ble_eq_true rfl)) dX23_list_105 ⟨(show (8 * (pp1 - pp) - 3 * n - 8 * cm) + 0 ≤ (8 * (T - pp) + 3) by omega), (show (120 * (pp1 - pp) + 4 * cp + 8 - 64 * n - 120 * cm) + 0 ≤ (120 * (T - pp) + 280) by omega)⟩) hS (fun q _ h => hFc q h) hFc (fun u tS H1 locs ht hvm hw hB hz1 hk1 hS => ?_)
                    obtain ⟨ff_27, xa_28, hf29_0, hP1, hK1, hD1⟩ := hB
                    rw [ht] at hP1
                    replace hK1 := va_K.moved hvm.symm hK1
                    obtain ⟨hPj, hDj⟩ := va_joinT (wr := [(ee, .inr (15, [.int 3, .int tx, .int gx, .int nx, .int 0, .int 0, .long 0, .int 0, .null, .ref la, .ref sa, .int (nI n), .null, .null])), (la, .inl (kE, cp, .inr (.inr (.inr (.inr f))))), (sa, .inl (kI, cp, .inl g)), (mr 8, .inl (kL, 3002, .inr (.inl fn)))]) (w1 := [(m9, .inr (23, mA mr mv vf xl (nI zs) ff_27 xa_28 (nI T) (nI pp1) xi xt xn (nI ns) (nI vv) (nI bb1))), (mr 5, .inl (kI, 3002, .inl fk)), (mr 6, .inl (kI, 3002, .inl fa))]) hP hD [6, 3, 4] [0, 1, 2, 5] rfl rfl (by decide) (by decide) hk1 hFc hP1 hD1
                    replace hP := hPj
                    replace hD := hDj
                    clear hPj hDj
                    replace hK := hK.app hK1
                    generalize H1 = H at hP hS ⊢
                    replace hP : va_P (dC, dI) vwCl (([(ee, .inr (15, [.int 3, .int tx, .int gx, .int nx, .int 0, .int 0, .long 0, .int 0, .null, .ref la, .ref sa, .int (nI n), .null, .null])), (la, .inl (kE, cp, .inr (.inr (.inr (.inr f))))), (sa, .inl (kI, cp, .inl g)), (mr 8, .inl (kL, 3002, .inr (.inl fn))), (m9, .inr (23, mA mr mv vf xl (nI zs) ff_27 xa_28 (nI T) (nI pp1) xi xt xn (nI ns) (nI vv) (nI bb1))), (mr 5, .inl (kI, 3002, .inl fk)), (mr 6, .inl (kI, 3002, .inl fa))] : va_W) ++ (sT L1 F1)) H := hP
                    replace hD : va_D A (([(ee, .inr (15, [.int 3, .int tx, .int gx, .int nx, .int 0, .int 0, .long 0, .int 0, .null, .ref la, .ref sa, .int (nI n), .null, .null])), (la, .inl (kE, cp, .inr (.inr (.inr (.inr f))))), (sa, .inl (kI, cp, .inl g)), (mr 8, .inl (kL, 3002, .inr (.inl fn))), (m9, .inr (23, mA mr mv vf xl (nI zs) ff_27 xa_28 (nI T) (nI pp1) xi xt xn (nI ns) (nI vv) (nI bb1))), (mr 5, .inl (kI, 3002, .inl fk)), (mr 6, .inl (kI, 3002, .inl fa))] : va_W) ++ (sT L1 F1)) := hD
                    replace hK : va_K (dC, dI) vwCl [(kI, .int), (kL, .long), (kE, .object RX15), (kI, .int)] s := hK
                    replace hK := hK.sub (tys' := [(kI, .int), (kL, .long), (kE, .object RX15)]) [0, 1, 2] rfl
                    clear hz1 hk1 hPc hDc hKc hFc hP1 hD1 hK1
                    replace hP : va_P (dC, dI) vwCl ((([(ee, .inr (15, [.int 3, .int tx, .int gx, .int nx, .int 0, .int 0, .long 0, .int 0, .null, .ref la, .ref sa, .int (nI n), .null, .null])), (mr 8, .inl (kL, 3002, .inr (.inl fn))), (m9, .inr (23, mA mr mv vf xl (nI zs) ff_27 xa_28 (nI T) (nI pp1) xi xt xn (nI ns) (nI vv) (nI bb1))), (mr 5, .inl (kI, 3002, .inl fk)), (mr 6, .inl (kI, 3002, .inl fa))] : va_W) ++ ([(la, .inl (kE, cp, .inr (.inr (.inr (.inr f))))), (sa, .inl (kI, cp, .inl g))] : va_W)) ++ sT L1 F1) H := hP.subT (f' := [(ee, .inr (15, [.int 3, .int tx, .int gx, .int nx, .int 0, .int 0, .long 0, .int 0, .null, .ref la, .ref sa, .int (nI n), .null, .null])), (mr 8, .inl (kL, 3002, .inr (.inl fn))), (m9, .inr (23, mA mr mv vf xl (nI zs) ff_27 xa_28 (nI T) (nI pp1) xi xt xn (nI ns) (nI vv) (nI bb1))), (mr 5, .inl (kI, 3002, .inl fk)), (mr 6, .inl (kI, 3002, .inl fa)), (la, .inl (kE, cp, .inr (.inr (.inr (.inr f))))), (sa, .inl (kI, cp, .inl g))]) [0, 3, 4, 5, 6, 1, 2] rfl
                    replace hD : va_D A ((([(ee, .inr (15, [.int 3, .int tx, .int gx, .int nx, .int 0, .int 0, .long 0, .int 0, .null, .ref la, .ref sa, .int (nI n), .null, .null])), (mr 8, .inl (kL, 3002, .inr (.inl fn))), (m9, .inr (23, mA mr mv vf xl (nI zs) ff_27 xa_28 (nI T) (nI pp1) xi xt xn (nI ns) (nI vv) (nI bb1))), (mr 5, .inl (kI, 3002, .inl fk)), (mr 6, .inl (kI, 3002, .inl fa))] : va_W) ++ ([(la, .inl (kE, cp, .inr (.inr (.inr (.inr f))))), (sa, .inl (kI, cp, .inl g))] : va_W)) ++ sT L1 F1) := hD.subT (f' := [(ee, .inr (15, [.int 3, .int tx, .int gx, .int nx, .int 0, .int 0, .long 0, .int 0, .null, .ref la, .ref sa, .int (nI n), .null, .null])), (mr 8, .inl (kL, 3002, .inr (.inl fn))), (m9, .inr (23, mA mr mv vf xl (nI zs) ff_27 xa_28 (nI T) (nI pp1) xi xt xn (nI ns) (nI vv) (nI bb1))), (mr 5, .inl (kI, 3002, .inl fk)), (mr 6, .inl (kI, 3002, .inl fa)), (la, .inl (kE, cp, .inr (.inr (.inr (.inr f))))), (sa, .inl (kI, cp, .inl g))]) [0, 3, 4, 5, 6, 1, 2] (by decide) rfl
                    obtain ⟨L9, F9, hx9, hm9, hP, hD⟩ := st_fileL [(la, .inl (kE, cp, .inr (.inr (.inr (.inr f))))), (sa, .inl (kI, cp, .inl g))] hP hD
                    have hm9_0 := hm9 _ (List.mem_of_getElem? (i := 0) rfl)
                    have hm9_1 := hm9 _ (List.mem_of_getElem? (i := 1) rfl)
                    refine W.grow (fun hgs0 hgs1 => ?_)
                    have hP9 := hP.subT (f' := [(ee, .inr (15, [.int 3, .int tx, .int gx, .int nx, .int 0, .int 0, .long 0, .int 0, .null, (.ref la), (.ref sa), .int (nI n), .null, .null])), (m9, .inr (23, mA mr mv vf xl (nI zs) ff_27 xa_28 (nI T) (nI pp1) xi xt xn (nI ns) (nI vv) (nI bb1))), (mr 5, .inl (kI, 3002, .inl fk)), (mr 6, .inl (kI, 3002, .inl fa)), (mr 8, .inl (kL, 3002, .inr (.inl fn)))]) [0, 2, 3, 4, 1] rfl
                    have hD9 := hD.subT (f' := [(ee, .inr (15, [.int 3, .int tx, .int gx, .int nx, .int 0, .int 0, .long 0, .int 0, .null, (.ref la), (.ref sa), .int (nI n), .null, .null])), (m9, .inr (23, mA mr mv vf xl (nI zs) ff_27 xa_28 (nI T) (nI pp1) xi xt xn (nI ns) (nI vv) (nI bb1))), (mr 5, .inl (kI, 3002, .inl fk)), (mr 6, .inl (kI, 3002, .inl fa)), (mr 8, .inl (kL, 3002, .inr (.inl fn)))]) [0, 2, 3, 4, 1] (by decide) rfl
                    have hK9 := hK.sub (tys' := [(kI, .int), (kL, .long), (kE, .object RX15)]) [0, 1, 2] rfl
                    refine W.widen (k := (8 * (T - pp) + 3)) (n := (120 * (T - pp) + 280)) (by omega) (by omega) ?_
                    subst hQ1
                    exact W.vret hx hb hr (fun tS ht hW => ⟨⟨(), rfl, trivial, L9, F9, ff_27, xa_28, pp1, bb1, .ref la, .ref sa, n, (hr2).tr hx9, ⟨by omega, by omega, by omega, by omega⟩, (fun q9 => absurd q9 hf29_0), by rw [ht]; exact ⟨by omega, by omega⟩, by rw [ht]; exact hP9, va_K.moved hW.alike hK9, hD9⟩, hS.F ht⟩) hS.2.2 dX23_list_108
                · obtain ⟨q0, hr5, hr6⟩ := hr9.2
                  have hcm : cm = 1 := (hr6.resolve_left (fun z => hm_24 z.1)).2.1
                  replace hr6 : q0 < pp1 := (hr6.resolve_left (fun z => hm_24 z.1)).2.2
                  replace hr1 := hr1.resolve_left (fun q => q rfl)
                  refine lv_aload_n hx hb dX23_list_73 rfl (lv_at hl 2 rfl) ?_
                  refine lv_aload_n hx hb dX23_list_74 rfl (lv_at hl 1 rfl) ?_
                  obtain ⟨k1, hkL⟩ : ∃ k1 : Nat, k = k1 + 1 := ⟨k - 1, by omega⟩
                  replace hPc := hP.subT (f' := [(m9, .inr (23, mA mr mv vf xl (nI zs) 0 xa1 (nI T) (nI pp1) xi xt xn (nI (ns + 1)) (nI vv) (nI bb1))), (mr 5, .inl (kI, 3002, .inl fk)), (mr 6, .inl (kI, 3002, .inl fa)), (mr 8, .inl (kL, 3002, .inr (.inl fn)))]) [6, 3, 4, 5] rfl
                  replace hDc := hD.subT (f' := [(m9, .inr (23, mA mr mv vf xl (nI zs) 0 xa1 (nI T) (nI pp1) xi xt xn (nI (ns + 1)) (nI vv) (nI bb1))), (mr 5, .inl (kI, 3002, .inl fk)), (mr 6, .inl (kI, 3002, .inl fa)), (mr 8, .inl (kL, 3002, .inr (.inl fn)))]) [6, 3, 4, 5] (by decide) rfl
                  replace hKc := hK.sub (tys' := [(kI, .int), (kL, .long), (kE, .object RX15)]) [0, 1, 2] rfl
                  replace hFc := va_freeB (wc := [(m9, .inr (23, mA mr mv vf xl (nI zs) 0 xa1 (nI T) (nI pp1) xi xt xn (nI (ns + 1)) (nI vv) (nI bb1))), (mr 5, .inl (kI, 3002, .inl fk)), (mr 6, .inl (kI, 3002, .inl fa)), (mr 8, .inl (kL, 3002, .inr (.inl fn)))]) hD hS hA [6, 3, 4, 5] rfl
                  refine W.grow (fun hgs0 hgs1 => ?_)
                  refine va_callr (va_runV (As := []) (rest := [.ref ee]) ⟨hx, hb, hml, hown, hts⟩ ((ih k1 hkL).2.2.2.2.2.2 m9 mr mv vf xl xa1 xi xt xn zs T pp1 (ns + 1) vv bb1 kI fk fa kL kE fn L1 F1 (slN H) H.size hT hr0.2.2.1 hk0 hr9.1 (by omega)) (cwV 0 hts g_c_xli3_c_xex_75 rfl rfl rfl (by decide +kernel) ⟨by show 13 + 12 * k1 + 1 ≤ 2 + 12 * k; omega, by show 8 + (1 + 11) + (302 + 279 * k1) ≤ 43 + 279 * k; omega⟩) ⟨fun a U g mk q => by obtain ⟨q0, q1, qP, qK, qD, qx0, qx1⟩ := q; exact ⟨q0, q1, qP, va_K.moved (u := U) (U := U.calling g mk a) (Vm.Alike.refl U.vm) qK, qD, nsM.same (u := U) (U := U.calling g mk a) rfl qx0, qx1⟩, va_recv hKc hPc (ci := 23) (q0 := 0) rfl rfl, fun U hU hW => ⟨rfl, by rw [hU], by rw [hU]; exact hPc, va_K.moved hW.alike hKc, hDc.weaken (fun _ _ _ _ => trivial), nsM.warm hW hns, by rw [hU]⟩⟩ rfl rfl hl.1 rfl (lv_room (Nat.le_of_ble_eq_true rfl)) dX23_list_75 ⟨(show (8 * (pp1 - pp) - 3 * n - 8 * cm) + (8 * (T - pp1) + 8) ≤ (8 * (T - pp) + 3) by omega), (show (120 * (pp1 - pp) + 4 * cp + 8 - 64 * n - 120 * cm) + (120 * (T - pp1) + 360) ≤ (120 * (T - pp) + 280) by omega)⟩) hS (fun q _ h => hFc q h) hFc (fun u r_25 tS H1 locs ht hvm hw hB hz1 hk1 hS => ?_)
                  obtain ⟨L24, F24, ff24, xa24, pp24, bb24, hf25_0, hf25_1, hf25_2, hf25_3, hP1, hK1, hD1⟩ := hB
                  rw [ht] at hP1
                  replace hK1 := va_K.moved hvm.symm hK1
                  rw [ht] at hf25_3
                  have hgz : H1.size ≤ s.heap.size + (((8 * (pp1 - pp) - 3 * n - 8 * cm) + 8 * (pp24 - pp1) + 3)) ∧ slN H1 ≤ slN s.heap + (((120 * (pp1 - pp) + 4 * cp + 8 - 64 * n - 120 * cm) + 120 * (pp24 - pp1) + 48)) := ⟨by have := hf25_3.1; omega, by have := hf25_3.2; omega⟩
                  obtain ⟨hPj, hDj⟩ := va_joinB (wr := [(ee, .inr (15, [.int 3, .int tx, .int gx, .int nx, .int 0, .int 0, .long 0, .int 0, .null, .ref la, .ref sa, .int (nI n), .null, .null])), (la, .inl (kE, cp, .inr (.inr (.inr (.inr f))))), (sa, .inl (kI, cp, .inl g))]) (w1 := [(m9, .inr (23, mA mr mv vf xl (nI zs) ff24 xa24 (nI T) (nI pp24) xi xt xn (nI (ns + 1)) (nI vv) (nI bb24))), (mr 5, .inl (kI, 3002, .inl fk)), (mr 6, .inl (kI, 3002, .inl fa)), (mr 8, .inl (kL, 3002, .inr (.inl fn)))]) hP hD [6, 3, 4, 5] [0, 1, 2] rfl rfl (by decide) (by decide) hk1 hFc hP1 hD1
                  replace hP := hPj
                  replace hD := hDj
                  clear hPj hDj
                  replace hK := hK.app hK1
                  generalize H1 = H at hP hS hgz ⊢
                  replace hP : va_P (dC, dI) vwCl (([(ee, .inr (15, [.int 3, .int tx, .int gx, .int nx, .int 0, .int 0, .long 0, .int 0, .null, .ref la, .ref sa, .int (nI n), .null, .null])), (la, .inl (kE, cp, .inr (.inr (.inr (.inr f))))), (sa, .inl (kI, cp, .inl g)), (m9, .inr (23, mA mr mv vf xl (nI zs) ff24 xa24 (nI T) (nI pp24) xi xt xn (nI (ns + 1)) (nI vv) (nI bb24))), (mr 5, .inl (kI, 3002, .inl fk)), (mr 6, .inl (kI, 3002, .inl fa)), (mr 8, .inl (kL, 3002, .inr (.inl fn)))] : va_W) ++ (sT L24 F24)) H := hP
                  replace hD : va_D A (([(ee, .inr (15, [.int 3, .int tx, .int gx, .int nx, .int 0, .int 0, .long 0, .int 0, .null, .ref la, .ref sa, .int (nI n), .null, .null])), (la, .inl (kE, cp, .inr (.inr (.inr (.inr f))))), (sa, .inl (kI, cp, .inl g)), (m9, .inr (23, mA mr mv vf xl (nI zs) ff24 xa24 (nI T) (nI pp24) xi xt xn (nI (ns + 1)) (nI vv) (nI bb24))), (mr 5, .inl (kI, 3002, .inl fk)), (mr 6, .inl (kI, 3002, .inl fa)), (mr 8, .inl (kL, 3002, .inr (.inl fn)))] : va_W) ++ (sT L24 F24)) := hD
                  replace hK : va_K (dC, dI) vwCl [(kI, .int), (kL, .long), (kE, .object RX15), (kI, .int), (kL, .long), (kE, .object RX15)] s := hK
                  replace hK := hK.sub (tys' := [(kI, .int), (kL, .long), (kE, .object RX15)]) [0, 1, 2] rfl
                  refine W.tight (k := ((8 * (pp1 - pp) - 3 * n - 8 * cm) + 8 * (pp24 - pp1) + 3)) (n := ((120 * (pp1 - pp) + 4 * cp + 8 - 64 * n - 120 * cm) + 120 * (pp24 - pp1) + 48)) hgz.1 hgz.2 ?_
                  clear hz1 hk1 hPc hDc hKc hFc hP1 hD1 hK1
                  refine lv_iconst (v := 0) hx hb dX23_list_78 (by decide) ?_
                  replace hPc := hP.subT (f' := [(ee, .inr (15, [.int 3, .int tx, .int gx, .int nx, .int 0, .int 0, .long 0, .int 0, .null, .ref la, .ref sa, .int (nI n), .null, .null])), (la, .inl (kE, cp, .inr (.inr (.inr (.inr f))))), (sa, .inl (kI, cp, .inl g))]) [0, 1, 2] rfl
                  replace hDc := hD.subT (f' := [(ee, .inr (15, [.int 3, .int tx, .int gx, .int nx, .int 0, .int 0, .long 0, .int 0, .null, .ref la, .ref sa, .int (nI n), .null, .null])), (la, .inl (kE, cp, .inr (.inr (.inr (.inr f))))), (sa, .inl (kI, cp, .inl g))]) [0, 1, 2] (by decide) rfl
                  replace hKc := hK.sub (tys' := [(kI, .int), (kE, .object RX15)]) [0, 2] rfl
                  replace hFc := va_freeB (wc := [(ee, .inr (15, [.int 3, .int tx, .int gx, .int nx, .int 0, .int 0, .long 0, .int 0, .null, .ref la, .ref sa, .int (nI n), .null, .null])), (la, .inl (kE, cp, .inr (.inr (.inr (.inr f))))), (sa, .inl (kI, cp, .inl g))]) hD hS hA [0, 1, 2] rfl
                  refine W.grow (fun hgs0 hgs1 => ?_)
                  refine va_callv (va_runS (As := [.ref ee, .ref r_25, .int 0]) (rest := []) ⟨hx, hb, hml, hown, hts⟩ (c_xaA l dC dI ee r_25 3 tx gx nx 0 0 0 .null kI kE la sa n cp f g L24 F24 (slN H) H.size hf25_0.2 (by omega) (fun i hi => by obtain ⟨x9, y9, z9⟩ := hr3 i hi; exact ⟨x9, y9, xO_ex hf25_0.1 z9⟩)) (va_cwS 3 hts g_c_xli3_c_xaA_79 rfl rfl rfl (by decide +kernel) ⟨by show 0 + 1 ≤ 2 + 12 * k; omega, by show 8 + (6 + 11) + (0) ≤ 43 + 279 * k; omega⟩) ⟨fun a U g mk q => by obtain ⟨q0, q1, qP, qK, qD, qx0, qx1⟩ := q; exact ⟨q0, q1, qP, va_K.moved (u := U) (U := U.calling g mk a) (Vm.Alike.refl U.vm) qK, qD, nsM.same (u := U) (U := U.calling g mk a) rfl qx0, qx1⟩, fun U hU hW => ⟨rfl, by rw [hU], by rw [hU]; exact hPc, va_K.moved hW.alike hKc, hDc.weaken (fun _ _ _ _ => trivial), nsM.warm hW hns, by rw [hU]⟩⟩ rfl rfl hl.1 rfl (lv_room (Nat.le_of_ble_eq_true rfl)) dX23_list_79 ⟨(show ((8 * (pp1 - pp) - 3 * n - 8 * cm) + 8 * (pp24 - pp1) + 3) + 2 ≤ (8 * (T - pp) + 3) by omega), (show ((120 * (pp1 - pp) + 4 * cp + 8 - 64 * n - 120 * cm) + 120 * (pp24 - pp1) + 48) + (4 * cp) ≤ (120 * (T - pp) + 280) by omega)⟩) hS (fun q _ h => hFc q h) hFc (fun u tS H1 locs ht hvm hw hB hz1 hk1 hS => ?_)
                  obtain ⟨la25, sa25, cp25, f25, g25, hf26_0, hf26_1, hf26_2, hf26_3, hf26_4, hP1, hK1, hD1⟩ := hB
                  rw [ht] at hP1
                  replace hK1 := va_K.moved hvm.symm hK1
                  rw [ht] at hf26_4
                  have hgz : H1.size ≤ s.heap.size + ((((8 * (pp1 - pp) - 3 * n - 8 * cm) + 8 * (pp24 - pp1) + 3) + 2)) ∧ slN H1 ≤ slN s.heap + ((((120 * (pp1 - pp) + 4 * cp + 8 - 64 * n - 120 * cm) + 120 * (pp24 - pp1) + 48) + 4 * (cp25 - cp))) := ⟨by have := hf26_4.1; omega, by have := hf26_4.2; omega⟩
                  obtain ⟨hPj, hDj⟩ := va_joinB (wr := [(m9, .inr (23, mA mr mv vf xl (nI zs) ff24 xa24 (nI T) (nI pp24) xi xt xn (nI (ns + 1)) (nI vv) (nI bb24))), (mr 5, .inl (kI, 3002, .inl fk)), (mr 6, .inl (kI, 3002, .inl fa)), (mr 8, .inl (kL, 3002, .inr (.inl fn)))]) (w1 := [(ee, .inr (15, [.int 3, .int tx, .int gx, .int nx, .int 0, .int 0, .long 0, .int 0, .null, .ref la25, .ref sa25, .int (nI (n + 1)), .null, .null])), (la25, .inl (kE, cp25, .inr (.inr (.inr (.inr f25))))), (sa25, .inl (kI, cp25, .inl g25))]) hP hD [0, 1, 2] [3, 4, 5, 6] rfl rfl (by decide) (by decide) hk1 hFc hP1 hD1
                  replace hP := hPj
                  replace hD := hDj
                  clear hPj hDj
                  replace hK := hK.app hK1
                  generalize H1 = H at hP hS hgz ⊢
                  replace hP : va_P (dC, dI) vwCl (([(m9, .inr (23, mA mr mv vf xl (nI zs) ff24 xa24 (nI T) (nI pp24) xi xt xn (nI (ns + 1)) (nI vv) (nI bb24))), (mr 5, .inl (kI, 3002, .inl fk)), (mr 6, .inl (kI, 3002, .inl fa)), (mr 8, .inl (kL, 3002, .inr (.inl fn))), (ee, .inr (15, [.int 3, .int tx, .int gx, .int nx, .int 0, .int 0, .long 0, .int 0, .null, .ref la25, .ref sa25, .int (nI (n + 1)), .null, .null])), (la25, .inl (kE, cp25, .inr (.inr (.inr (.inr f25))))), (sa25, .inl (kI, cp25, .inl g25))] : va_W) ++ (sT L24 F24)) H := hP
                  replace hD : va_D A (([(m9, .inr (23, mA mr mv vf xl (nI zs) ff24 xa24 (nI T) (nI pp24) xi xt xn (nI (ns + 1)) (nI vv) (nI bb24))), (mr 5, .inl (kI, 3002, .inl fk)), (mr 6, .inl (kI, 3002, .inl fa)), (mr 8, .inl (kL, 3002, .inr (.inl fn))), (ee, .inr (15, [.int 3, .int tx, .int gx, .int nx, .int 0, .int 0, .long 0, .int 0, .null, .ref la25, .ref sa25, .int (nI (n + 1)), .null, .null])), (la25, .inl (kE, cp25, .inr (.inr (.inr (.inr f25))))), (sa25, .inl (kI, cp25, .inl g25))] : va_W) ++ (sT L24 F24)) := hD
                  replace hK : va_K (dC, dI) vwCl [(kI, .int), (kL, .long), (kE, .object RX15), (kI, .int), (kE, .object RX15)] s := hK
                  replace hK := hK.sub (tys' := [(kI, .int), (kL, .long), (kE, .object RX15)]) [0, 1, 2] rfl
                  refine W.tight (k := (((8 * (pp1 - pp) - 3 * n - 8 * cm) + 8 * (pp24 - pp1) + 3) + 2)) (n := (((120 * (pp1 - pp) + 4 * cp + 8 - 64 * n - 120 * cm) + 120 * (pp24 - pp1) + 48) + 4 * (cp25 - cp))) hgz.1 hgz.2 ?_
                  clear hz1 hk1 hPc hDc hKc hFc hP1 hD1 hK1
                  refine lv_aload_n hx hb dX23_list_82 rfl (lv_at hl 1 rfl) ?_
                  refine lv_bipush (v := 57) hx hb dX23_list_83 (by decide) ?_
                  by_cases hz_27 : ff24 = 0
                  · subst hz_27
                    have hg24 := hf25_2 rfl
                    have hlthg24 := (isE_mem hg24.2).2
                    by_cases hk_28 : fk pp24 = 57
                    · replace hPc := hP.subF (f' := [(m9, .inr (23, mA mr mv vf xl (nI zs) 0 xa24 (nI T) (nI pp24) xi xt xn (nI (ns + 1)) (nI vv) (nI bb24))), (mr 5, .inl (kI, 3002, .inl fk))]) [0, 1] rfl
                      replace hDc := hD.subF (f' := [(m9, .inr (23, mA mr mv vf xl (nI zs) 0 xa24 (nI T) (nI pp24) xi xt xn (nI (ns + 1)) (nI vv) (nI bb24))), (mr 5, .inl (kI, 3002, .inl fk))]) [0, 1] (by decide) rfl
                      replace hKc := hK.sub (tys' := [(kI, .int)]) [0] rfl
                      replace hFc := va_freeT (wc := [(m9, .inr (23, mA mr mv vf xl (nI zs) 0 xa24 (nI T) (nI pp24) xi xt xn (nI (ns + 1)) (nI vv) (nI bb24))), (mr 5, .inl (kI, 3002, .inl fk))]) hD hS hA [0, 1] rfl
                      refine va_calli (va_runV (As := [.int 57]) (rest := []) ⟨hx, hb, hml, hown, hts⟩ (c_rtsY l dC dI m9 mr mv vf xl xa24 xi xt xn zs T pp24 (ns + 1) vv bb24 kI fk fa 57 H.size hT hf25_1.2.1 hk0 (by decide) hk_28) (cwV 1 hts g_c_xli3_c_rtsY_85 rfl rfl rfl (by decide +kernel) ⟨by show 1 + 1 ≤ 2 + 12 * k; omega, by show 8 + (2 + 11) + (21) ≤ 43 + 279 * k; omega⟩) ⟨fun a U g mk q => by obtain ⟨q0, q1, qP, qK, qD⟩ := q; exact ⟨q0, q1, qP, va_K.moved (u := U) (U := U.calling g mk a) (Vm.Alike.refl U.vm) qK, qD⟩, va_recv hKc hPc (ci := 23) (q0 := 0) rfl rfl, fun U hU hW => ⟨rfl, by rw [hU], by rw [hU]; exact hPc, va_K.moved hW.alike hKc, hDc.weaken (fun _ _ _ _ => trivial)⟩⟩ rfl rfl hl.1 rfl (lv_room (Nat.le_of_ble_eq_true rfl)) dX23_list_85 ⟨(show (((8 * (pp1 - pp) - 3 * n - 8 * cm) + 8 * (pp24 - pp1) + 3) + 2) + 0 ≤ (8 * (T - pp) + 3) by omega), (show (((120 * (pp1 - pp) + 4 * cp + 8 - 64 * n - 120 * cm) + 120 * (pp24 - pp1) + 48) + 4 * (cp25 - cp)) + 0 ≤ (120 * (T - pp) + 280) by omega)⟩) hS (fun q _ h => hFc q h) hFc (fun r_29 u tS H1 locs ht hvm hw hB hz1 hk1 hS => ?_)
                      obtain ⟨hP1, hK1, hD1⟩ := hB
                      rw [ht] at hP1
                      replace hK1 := va_K.moved hvm.symm hK1
                      obtain ⟨hPj, hDj⟩ := va_joinT (wr := [(mr 6, .inl (kI, 3002, .inl fa)), (mr 8, .inl (kL, 3002, .inr (.inl fn))), (ee, .inr (15, [.int 3, .int tx, .int gx, .int nx, .int 0, .int 0, .long 0, .int 0, .null, .ref la25, .ref sa25, .int (nI (n + 1)), .null, .null])), (la25, .inl (kE, cp25, .inr (.inr (.inr (.inr f25))))), (sa25, .inl (kI, cp25, .inl g25))]) (w1 := [(m9, .inr (23, mA mr mv vf xl (nI zs) 0 xa24 (nI T) (nI (pp24 + 1)) xi xt xn (nI (ns + 1)) (nI vv) (nI bb24))), (mr 5, .inl (kI, 3002, .inl fk))]) hP hD [0, 1] [2, 3, 4, 5, 6] rfl rfl (by decide) (by decide) hk1 hFc hP1 hD1
                      replace hP := hPj
                      replace hD := hDj
                      clear hPj hDj
                      replace hK := hK.app hK1
                      generalize H1 = H at hP hS ⊢
                      replace hP : va_P (dC, dI) vwCl (([(mr 6, .inl (kI, 3002, .inl fa)), (mr 8, .inl (kL, 3002, .inr (.inl fn))), (ee, .inr (15, [.int 3, .int tx, .int gx, .int nx, .int 0, .int 0, .long 0, .int 0, .null, .ref la25, .ref sa25, .int (nI (n + 1)), .null, .null])), (la25, .inl (kE, cp25, .inr (.inr (.inr (.inr f25))))), (sa25, .inl (kI, cp25, .inl g25)), (m9, .inr (23, mA mr mv vf xl (nI zs) 0 xa24 (nI T) (nI (pp24 + 1)) xi xt xn (nI (ns + 1)) (nI vv) (nI bb24))), (mr 5, .inl (kI, 3002, .inl fk))] : va_W) ++ (sT L24 F24)) H := hP
                      replace hD : va_D A (([(mr 6, .inl (kI, 3002, .inl fa)), (mr 8, .inl (kL, 3002, .inr (.inl fn))), (ee, .inr (15, [.int 3, .int tx, .int gx, .int nx, .int 0, .int 0, .long 0, .int 0, .null, .ref la25, .ref sa25, .int (nI (n + 1)), .null, .null])), (la25, .inl (kE, cp25, .inr (.inr (.inr (.inr f25))))), (sa25, .inl (kI, cp25, .inl g25)), (m9, .inr (23, mA mr mv vf xl (nI zs) 0 xa24 (nI T) (nI (pp24 + 1)) xi xt xn (nI (ns + 1)) (nI vv) (nI bb24))), (mr 5, .inl (kI, 3002, .inl fk))] : va_W) ++ (sT L24 F24)) := hD
                      replace hK : va_K (dC, dI) vwCl [(kI, .int), (kL, .long), (kE, .object RX15), (kI, .int)] s := hK
                      replace hK := hK.sub (tys' := [(kI, .int), (kL, .long), (kE, .object RX15)]) [0, 1, 2] rfl
                      clear hz1 hk1 hPc hDc hKc hFc hP1 hD1 hK1
                      obtain rfl : r_29 = 1 := hw
                      have hp_30 : pp24 + 1 < T := kne3 hk0 hf25_1.2.1 hk_28 (by decide)
                      refine lv_istore_n (lv' := [(2, .int 1), (0, .ref m9), (1, .ref ee)]) hx hb dX23_list_88 rfl hl (by decide) rfl (fun ls hl => ?_)
                      refine lv_goto (tgt := 62) hx hb dX23_list_89 (by decide) ?_
                      refine W.widen (k := (8 * ((pp24 + 1) - pp) - 3 * (n + 1) - 8 * 1)) (n := (120 * ((pp24 + 1) - pp) + 4 * cp25 + 8 - 64 * (n + 1) - 120 * 1)) (by omega) (by omega) ?_
                      exact ih1 (pp24 + 1) bb24 la25 sa25 cp25 (n + 1) 1 0 xa24 1 L24 F24 f25 g25 _ _ _ (⟨by omega, by omega, by omega, by omega, by omega, by omega, by omega, by omega, by omega, by omega, by omega, hT⟩) (Or.inr (by omega)) (hr2.tr hf25_0.1) (fun i hi => by
                        by_cases e9 : i = n
                        · subst e9; exact ⟨_, hf26_2.1, hf25_0.2⟩
                        · obtain ⟨x9, y9, z9⟩ := hr3 i (by omega); exact ⟨x9, (hf26_1 i (by omega)).1.trans y9, xO_ex hf25_0.1 z9⟩) (fun _ => ⟨hg24.1, _, chP_add (chP_im (fun x p q b c z => isE_im hf25_0.1 _ (Nat.le_refl _) z) hr5) (fun i hi => hf26_1 i hi) hf26_2.1 (hf26_2.2.trans rfl) hr6 (isE_im exS.rf _ (by omega) hg24.2) (Or.inl ⟨rfl, rfl⟩), Or.inr ⟨by decide, rfl, by omega⟩⟩) (hP.subT [2, 3, 4, 5, 6, 0, 1] rfl) (hD.subT [2, 3, 4, 5, 6, 0, 1] (by decide) rfl) hS (lv_sub hl [0, 1, 2] rfl)
                    · replace hPc := hP.subF (f' := [(m9, .inr (23, mA mr mv vf xl (nI zs) 0 xa24 (nI T) (nI pp24) xi xt xn (nI (ns + 1)) (nI vv) (nI bb24))), (mr 5, .inl (kI, 3002, .inl fk))]) [0, 1] rfl
                      replace hDc := hD.subF (f' := [(m9, .inr (23, mA mr mv vf xl (nI zs) 0 xa24 (nI T) (nI pp24) xi xt xn (nI (ns + 1)) (nI vv) (nI bb24))), (mr 5, .inl (kI, 3002, .inl fk))]) [0, 1] (by decide) rfl
                      replace hKc := hK.sub (tys' := [(kI, .int)]) [0] rfl
                      replace hFc := va_freeT (wc := [(m9, .inr (23, mA mr mv vf xl (nI zs) 0 xa24 (nI T) (nI pp24) xi xt xn (nI (ns + 1)) (nI vv) (nI bb24))), (mr 5, .inl (kI, 3002, .inl fk))]) hD hS hA [0, 1] rfl
                      refine va_calli (va_runV (As := [.int 57]) (rest := []) ⟨hx, hb, hml, hown, hts⟩ (c_rtsN l dC dI m9 mr mv vf xl xa24 xi xt xn zs T pp24 (ns + 1) vv bb24 kI fk fa 57 H.size hT hf25_1.2.1 hk0 (by decide) hk_28) (cwV 1 hts g_c_xli3_c_rtsN_85 rfl rfl rfl (by decide +kernel) ⟨by show 1 + 1 ≤ 2 + 12 * k; omega, by show 8 + (2 + 11) + (21) ≤ 43 + 279 * k; omega⟩) ⟨fun a U g mk q => by obtain ⟨q0, q1, qP, qK, qD⟩ := q; exact ⟨q0, q1, qP, va_K.moved (u := U) (U := U.calling g mk a) (Vm.Alike.refl U.vm) qK, qD⟩, va_recv hKc hPc (ci := 23) (q0 := 0) rfl rfl, fun U hU hW => ⟨rfl, by rw [hU], by rw [hU]; exact hPc, va_K.moved hW.alike hKc, hDc.weaken (fun _ _ _ _ => trivial)⟩⟩ rfl rfl hl.1 rfl (lv_room (Nat.le_of_ble_eq_true rfl)) dX23_list_85 ⟨(show (((8 * (pp1 - pp) - 3 * n - 8 * cm) + 8 * (pp24 - pp1) + 3) + 2) + 0 ≤ (8 * (T - pp) + 3) by omega), (show (((120 * (pp1 - pp) + 4 * cp + 8 - 64 * n - 120 * cm) + 120 * (pp24 - pp1) + 48) + 4 * (cp25 - cp)) + 0 ≤ (120 * (T - pp) + 280) by omega)⟩) hS (fun q _ h => hFc q h) hFc (fun r_29 u tS H1 locs ht hvm hw hB hz1 hk1 hS => ?_)
                      obtain ⟨hP1, hK1, hD1⟩ := hB
                      rw [ht] at hP1
                      replace hK1 := va_K.moved hvm.symm hK1
                      obtain ⟨hPj, hDj⟩ := va_joinT (wr := [(mr 6, .inl (kI, 3002, .inl fa)), (mr 8, .inl (kL, 3002, .inr (.inl fn))), (ee, .inr (15, [.int 3, .int tx, .int gx, .int nx, .int 0, .int 0, .long 0, .int 0, .null, .ref la25, .ref sa25, .int (nI (n + 1)), .null, .null])), (la25, .inl (kE, cp25, .inr (.inr (.inr (.inr f25))))), (sa25, .inl (kI, cp25, .inl g25))]) (w1 := [(m9, .inr (23, mA mr mv vf xl (nI zs) 0 xa24 (nI T) (nI pp24) xi xt xn (nI (ns + 1)) (nI vv) (nI bb24))), (mr 5, .inl (kI, 3002, .inl fk))]) hP hD [0, 1] [2, 3, 4, 5, 6] rfl rfl (by decide) (by decide) hk1 hFc hP1 hD1
                      replace hP := hPj
                      replace hD := hDj
                      clear hPj hDj
                      replace hK := hK.app hK1
                      generalize H1 = H at hP hS ⊢
                      replace hP : va_P (dC, dI) vwCl (([(mr 6, .inl (kI, 3002, .inl fa)), (mr 8, .inl (kL, 3002, .inr (.inl fn))), (ee, .inr (15, [.int 3, .int tx, .int gx, .int nx, .int 0, .int 0, .long 0, .int 0, .null, .ref la25, .ref sa25, .int (nI (n + 1)), .null, .null])), (la25, .inl (kE, cp25, .inr (.inr (.inr (.inr f25))))), (sa25, .inl (kI, cp25, .inl g25)), (m9, .inr (23, mA mr mv vf xl (nI zs) 0 xa24 (nI T) (nI pp24) xi xt xn (nI (ns + 1)) (nI vv) (nI bb24))), (mr 5, .inl (kI, 3002, .inl fk))] : va_W) ++ (sT L24 F24)) H := hP
                      replace hD : va_D A (([(mr 6, .inl (kI, 3002, .inl fa)), (mr 8, .inl (kL, 3002, .inr (.inl fn))), (ee, .inr (15, [.int 3, .int tx, .int gx, .int nx, .int 0, .int 0, .long 0, .int 0, .null, .ref la25, .ref sa25, .int (nI (n + 1)), .null, .null])), (la25, .inl (kE, cp25, .inr (.inr (.inr (.inr f25))))), (sa25, .inl (kI, cp25, .inl g25)), (m9, .inr (23, mA mr mv vf xl (nI zs) 0 xa24 (nI T) (nI pp24) xi xt xn (nI (ns + 1)) (nI vv) (nI bb24))), (mr 5, .inl (kI, 3002, .inl fk))] : va_W) ++ (sT L24 F24)) := hD
                      replace hK : va_K (dC, dI) vwCl [(kI, .int), (kL, .long), (kE, .object RX15), (kI, .int)] s := hK
                      replace hK := hK.sub (tys' := [(kI, .int), (kL, .long), (kE, .object RX15)]) [0, 1, 2] rfl
                      clear hz1 hk1 hPc hDc hKc hFc hP1 hD1 hK1
                      obtain rfl : r_29 = 0 := hw
                      refine lv_istore_n (lv' := [(2, .int 0), (0, .ref m9), (1, .ref ee)]) hx hb dX23_list_88 rfl hl (by decide) rfl (fun ls hl => ?_)
                      refine lv_goto (tgt := 62) hx hb dX23_list_89 (by decide) ?_
                      refine W.widen (k := (8 * (pp24 - pp) - 3 * (n + 1) - 8 * 0)) (n := (120 * (pp24 - pp) + 4 * cp25 + 8 - 64 * (n + 1) - 120 * 0)) (by omega) (by omega) ?_
                      exact ih1 pp24 bb24 la25 sa25 cp25 (n + 1) 0 0 xa24 0 L24 F24 f25 g25 _ _ _ (⟨by omega, by omega, by omega, by omega, by omega, by omega, by omega, by omega, by omega, by omega, by omega, hT⟩) (Or.inr (by omega)) (hr2.tr hf25_0.1) (fun i hi => by
                        by_cases e9 : i = n
                        · subst e9; exact ⟨_, hf26_2.1, hf25_0.2⟩
                        · obtain ⟨x9, y9, z9⟩ := hr3 i (by omega); exact ⟨x9, (hf26_1 i (by omega)).1.trans y9, xO_ex hf25_0.1 z9⟩) (fun _ => ⟨hg24.1, _, chP_add (chP_im (fun x p q b c z => isE_im hf25_0.1 _ (Nat.le_refl _) z) hr5) (fun i hi => hf26_1 i hi) hf26_2.1 (hf26_2.2.trans rfl) hr6 (isE_im exS.rf _ (by omega) hg24.2) (Or.inl ⟨rfl, rfl⟩), Or.inl ⟨rfl, rfl, by omega⟩⟩) (hP.subT [2, 3, 4, 5, 6, 0, 1] rfl) (hD.subT [2, 3, 4, 5, 6, 0, 1] (by decide) rfl) hS (lv_sub hl [0, 1, 2] rfl)
                  · replace hPc := hP.subF (f' := [(m9, .inr (23, mA mr mv vf xl (nI zs) ff24 xa24 (nI T) (nI pp24) xi xt xn (nI (ns + 1)) (nI vv) (nI bb24))), (mr 5, .inl (kI, 3002, .inl fk))]) [0, 1] rfl
                    replace hDc := hD.subF (f' := [(m9, .inr (23, mA mr mv vf xl (nI zs) ff24 xa24 (nI T) (nI pp24) xi xt xn (nI (ns + 1)) (nI vv) (nI bb24))), (mr 5, .inl (kI, 3002, .inl fk))]) [0, 1] (by decide) rfl
                    replace hKc := hK.sub (tys' := [(kI, .int)]) [0] rfl
                    replace hFc := va_freeT (wc := [(m9, .inr (23, mA mr mv vf xl (nI zs) ff24 xa24 (nI T) (nI pp24) xi xt xn (nI (ns + 1)) (nI vv) (nI bb24))), (mr 5, .inl (kI, 3002, .inl fk))]) hD hS hA [0, 1] rfl
                    refine va_calli (va_runV (As := [.int 57]) (rest := []) ⟨hx, hb, hml, hown, hts⟩ (c_rtsB l dC dI m9 mr mv vf xl xa24 xi xt xn zs T pp24 (ns + 1) vv bb24 kI fk fa ff24 57 H.size hz_27) (cwV 1 hts g_c_xli3_c_rtsB_85 rfl rfl rfl (by decide +kernel) ⟨by show 1 + 1 ≤ 2 + 12 * k; omega, by show 8 + (2 + 11) + (20) ≤ 43 + 279 * k; omega⟩) ⟨fun a U g mk q => by obtain ⟨q0, q1, qP, qK, qD⟩ := q; exact ⟨q0, q1, qP, va_K.moved (u := U) (U := U.calling g mk a) (Vm.Alike.refl U.vm) qK, qD⟩, va_recv hKc hPc (ci := 23) (q0 := 0) rfl rfl, fun U hU hW => ⟨rfl, by rw [hU], by rw [hU]; exact hPc, va_K.moved hW.alike hKc, hDc.weaken (fun _ _ _ _ => trivial)⟩⟩ rfl rfl hl.1 rfl (lv_room (Nat.le_of_ble_eq_true rfl)) dX23_list_85 ⟨(show (((8 * (pp1 - pp) - 3 * n - 8 * cm) + 8 * (pp24 - pp1) + 3) + 2) + 0 ≤ (8 * (T - pp) + 3) by omega), (show (((120 * (pp1 - pp) + 4 * cp + 8 - 64 * n - 120 * cm) + 120 * (pp24 - pp1) + 48) + 4 * (cp25 - cp)) + 0 ≤ (120 * (T - pp) + 280) by omega)⟩) hS (fun q _ h => hFc q h) hFc (fun r_28 u tS H1 locs ht hvm hw hB hz1 hk1 hS => ?_)
                    obtain ⟨hP1, hK1, hD1⟩ := hB
                    rw [ht] at hP1
                    replace hK1 := va_K.moved hvm.symm hK1
                    obtain ⟨hPj, hDj⟩ := va_joinT (wr := [(mr 6, .inl (kI, 3002, .inl fa)), (mr 8, .inl (kL, 3002, .inr (.inl fn))), (ee, .inr (15, [.int 3, .int tx, .int gx, .int nx, .int 0, .int 0, .long 0, .int 0, .null, .ref la25, .ref sa25, .int (nI (n + 1)), .null, .null])), (la25, .inl (kE, cp25, .inr (.inr (.inr (.inr f25))))), (sa25, .inl (kI, cp25, .inl g25))]) (w1 := [(m9, .inr (23, mA mr mv vf xl (nI zs) ff24 xa24 (nI T) (nI pp24) xi xt xn (nI (ns + 1)) (nI vv) (nI bb24))), (mr 5, .inl (kI, 3002, .inl fk))]) hP hD [0, 1] [2, 3, 4, 5, 6] rfl rfl (by decide) (by decide) hk1 hFc hP1 hD1
                    replace hP := hPj
                    replace hD := hDj
                    clear hPj hDj
                    replace hK := hK.app hK1
                    generalize H1 = H at hP hS ⊢
                    replace hP : va_P (dC, dI) vwCl (([(mr 6, .inl (kI, 3002, .inl fa)), (mr 8, .inl (kL, 3002, .inr (.inl fn))), (ee, .inr (15, [.int 3, .int tx, .int gx, .int nx, .int 0, .int 0, .long 0, .int 0, .null, .ref la25, .ref sa25, .int (nI (n + 1)), .null, .null])), (la25, .inl (kE, cp25, .inr (.inr (.inr (.inr f25))))), (sa25, .inl (kI, cp25, .inl g25)), (m9, .inr (23, mA mr mv vf xl (nI zs) ff24 xa24 (nI T) (nI pp24) xi xt xn (nI (ns + 1)) (nI vv) (nI bb24))), (mr 5, .inl (kI, 3002, .inl fk))] : va_W) ++ (sT L24 F24)) H := hP
                    replace hD : va_D A (([(mr 6, .inl (kI, 3002, .inl fa)), (mr 8, .inl (kL, 3002, .inr (.inl fn))), (ee, .inr (15, [.int 3, .int tx, .int gx, .int nx, .int 0, .int 0, .long 0, .int 0, .null, .ref la25, .ref sa25, .int (nI (n + 1)), .null, .null])), (la25, .inl (kE, cp25, .inr (.inr (.inr (.inr f25))))), (sa25, .inl (kI, cp25, .inl g25)), (m9, .inr (23, mA mr mv vf xl (nI zs) ff24 xa24 (nI T) (nI pp24) xi xt xn (nI (ns + 1)) (nI vv) (nI bb24))), (mr 5, .inl (kI, 3002, .inl fk))] : va_W) ++ (sT L24 F24)) := hD
                    replace hK : va_K (dC, dI) vwCl [(kI, .int), (kL, .long), (kE, .object RX15), (kI, .int)] s := hK
                    replace hK := hK.sub (tys' := [(kI, .int), (kL, .long), (kE, .object RX15)]) [0, 1, 2] rfl
                    clear hz1 hk1 hPc hDc hKc hFc hP1 hD1 hK1
                    obtain rfl : r_28 = 0 := hw
                    refine lv_istore_n (lv' := [(2, .int 0), (0, .ref m9), (1, .ref ee)]) hx hb dX23_list_88 rfl hl (by decide) rfl (fun ls hl => ?_)
                    refine lv_goto (tgt := 62) hx hb dX23_list_89 (by decide) ?_
                    refine W.widen (k := (8 * (pp24 - pp) - 3 * (n + 1) - 8 * 0)) (n := (120 * (pp24 - pp) + 4 * cp25 + 8 - 64 * (n + 1) - 120 * 0)) (by omega) (by omega) ?_
                    exact ih1 pp24 bb24 la25 sa25 cp25 (n + 1) 0 ff24 xa24 0 L24 F24 f25 g25 _ _ _ (⟨by omega, by omega, by omega, by omega, by omega, by omega, by omega, by omega, by omega, by omega, by omega, hT⟩) (Or.inl hz_27) (hr2.tr hf25_0.1) (fun i hi => by
                      by_cases e9 : i = n
                      · subst e9; exact ⟨_, hf26_2.1, hf25_0.2⟩
                      · obtain ⟨x9, y9, z9⟩ := hr3 i (by omega); exact ⟨x9, (hf26_1 i (by omega)).1.trans y9, xO_ex hf25_0.1 z9⟩) (fun q9 => absurd q9 hz_27) (hP.subT [2, 3, 4, 5, 6, 0, 1] rfl) (hD.subT [2, 3, 4, 5, 6, 0, 1] (by decide) rfl) hS (lv_sub hl [0, 1, 2] rfl)
              · replace hPc := hP.subF (f' := [(m9, .inr (23, mA mr mv vf xl (nI zs) ff1 xa1 (nI T) (nI pp1) xi xt xn (nI (ns + 1)) (nI vv) (nI bb1)))]) [3] rfl
                replace hDc := hD.subF (f' := [(m9, .inr (23, mA mr mv vf xl (nI zs) ff1 xa1 (nI T) (nI pp1) xi xt xn (nI (ns + 1)) (nI vv) (nI bb1)))]) [3] (by decide) rfl
                replace hKc := hK.sub (tys' := []) [] rfl
                replace hFc := va_freeT (wc := [(m9, .inr (23, mA mr mv vf xl (nI zs) ff1 xa1 (nI T) (nI pp1) xi xt xn (nI (ns + 1)) (nI vv) (nI bb1)))]) hD hS hA [3] rfl
                refine va_calli (va_runV (As := []) (rest := []) ⟨hx, hb, hml, hown, hts⟩ (c_rokB l dC dI m9 mr mv vf xl xa1 xi xt xn zs T pp1 (ns + 1) vv bb1 kI fk fa ff1 H.size hz_21) (cwV 0 hts g_c_xli3_c_rokB_63 rfl rfl rfl (by decide +kernel) ⟨by show 0 + 1 ≤ 2 + 12 * k; omega, by show 8 + (1 + 11) + (0) ≤ 43 + 279 * k; omega⟩) ⟨fun a U g mk q => by obtain ⟨q0, q1, qP, qK, qD⟩ := q; exact ⟨q0, q1, qP, va_K.moved (u := U) (U := U.calling g mk a) (Vm.Alike.refl U.vm) qK, qD⟩, va_recv hKc hPc (ci := 23) (q0 := 0) rfl rfl, fun U hU hW => ⟨rfl, by rw [hU], by rw [hU]; exact hPc, va_K.moved hW.alike hKc, hDc.weaken (fun _ _ _ _ => trivial)⟩⟩ rfl rfl hl.1 rfl (lv_room (Nat.le_of_ble_eq_true rfl)) dX23_list_63 ⟨(show (8 * (pp1 - pp) - 3 * n - 8 * cm) + 0 ≤ (8 * (T - pp) + 3) by omega), (show (120 * (pp1 - pp) + 4 * cp + 8 - 64 * n - 120 * cm) + 0 ≤ (120 * (T - pp) + 280) by omega)⟩) hS (fun q _ h => hFc q h) hFc (fun r_22 u tS H1 locs ht hvm hw hB hz1 hk1 hS => ?_)
                obtain ⟨hP1, hK1, hD1⟩ := hB
                rw [ht] at hP1
                replace hK1 := va_K.moved hvm.symm hK1
                obtain ⟨hPj, hDj⟩ := va_joinT (wr := [(ee, .inr (15, [.int 3, .int tx, .int gx, .int nx, .int 0, .int 0, .long 0, .int 0, .null, .ref la, .ref sa, .int (nI n), .null, .null])), (la, .inl (kE, cp, .inr (.inr (.inr (.inr f))))), (sa, .inl (kI, cp, .inl g)), (mr 5, .inl (kI, 3002, .inl fk)), (mr 6, .inl (kI, 3002, .inl fa)), (mr 8, .inl (kL, 3002, .inr (.inl fn)))]) (w1 := [(m9, .inr (23, mA mr mv vf xl (nI zs) ff1 xa1 (nI T) (nI pp1) xi xt xn (nI (ns + 1)) (nI vv) (nI bb1)))]) hP hD [3] [0, 1, 2, 4, 5, 6] rfl rfl (by decide) (by decide) hk1 hFc hP1 hD1
                replace hP := hPj
                replace hD := hDj
                clear hPj hDj
                generalize H1 = H at hP hS ⊢
                replace hP : va_P (dC, dI) vwCl (([(ee, .inr (15, [.int 3, .int tx, .int gx, .int nx, .int 0, .int 0, .long 0, .int 0, .null, .ref la, .ref sa, .int (nI n), .null, .null])), (la, .inl (kE, cp, .inr (.inr (.inr (.inr f))))), (sa, .inl (kI, cp, .inl g)), (mr 5, .inl (kI, 3002, .inl fk)), (mr 6, .inl (kI, 3002, .inl fa)), (mr 8, .inl (kL, 3002, .inr (.inl fn))), (m9, .inr (23, mA mr mv vf xl (nI zs) ff1 xa1 (nI T) (nI pp1) xi xt xn (nI (ns + 1)) (nI vv) (nI bb1)))] : va_W) ++ (sT L1 F1)) H := hP
                replace hD : va_D A (([(ee, .inr (15, [.int 3, .int tx, .int gx, .int nx, .int 0, .int 0, .long 0, .int 0, .null, .ref la, .ref sa, .int (nI n), .null, .null])), (la, .inl (kE, cp, .inr (.inr (.inr (.inr f))))), (sa, .inl (kI, cp, .inl g)), (mr 5, .inl (kI, 3002, .inl fk)), (mr 6, .inl (kI, 3002, .inl fa)), (mr 8, .inl (kL, 3002, .inr (.inl fn))), (m9, .inr (23, mA mr mv vf xl (nI zs) ff1 xa1 (nI T) (nI pp1) xi xt xn (nI (ns + 1)) (nI vv) (nI bb1)))] : va_W) ++ (sT L1 F1)) := hD
                replace hK : va_K (dC, dI) vwCl [(kI, .int), (kL, .long), (kE, .object RX15)] s := hK
                clear hz1 hk1 hPc hDc hKc hFc hP1 hD1 hK1
                obtain rfl : r_22 = 0 := hw
                refine lv_if_eq (tgt := 92) hx hb dX23_list_66 (by decide) (fun _ => ?_) (fun c_23 => absurd (by decide) c_23)
                refine lv_aload_n hx hb dX23_list_92 rfl (lv_at hl 1 rfl) ?_
                refine lv_dup hx hb dX23_list_93 rfl ?_
                refine va_get (D := (dC, dI)) (ci := 23) (v := .int (nI (ns + 1))) (C := RX23) (T := TX23) (N := 89) hx hb hts in_c_xli3_X23 hown hK hP 6 rfl rfl 15 (by decide) (hts (.fieldLink RX23 104 "OwnedPlacesModel" "nest" "I") (wm_c_xli3 14 rfl)) (fun _ h9 => h9) rfl dX23_list_94 ?_
                refine lv_iconst (v := 1) hx hb dX23_list_97 (by decide) ?_
                refine lv_isub hx hb dX23_list_98 ?_
                refine lv_topi (fun f_24 ef_24 => ?_)
                obtain rfl : f_24 = nI ns := ef_24.trans (nI_pred _)
                refine va_put (D := (dC, dI)) (ci := 23) (v := .int (nI ns)) (ty := .int) (C := RX23) (T := TX23) (N := 89) hx hb hts in_c_xli3_X23 tyX23 tyX23_ok nmX23 hown hK hP hD hS 6 rfl rfl 15 (by decide) (hts (.fieldLink RX23 104 "OwnedPlacesModel" "nest" "I") (wm_c_xli3 14 rfl)) (fun _ h9 => h9) rfl (by decide +kernel) rfl rfl (Nat.le_of_ble_eq_true rfl) dX23_list_99 (fun H locs hP hD hS => ?_)
                replace hP : va_P (dC, dI) vwCl (([(ee, .inr (15, [.int 3, .int tx, .int gx, .int nx, .int 0, .int 0, .long 0, .int 0, .null, .ref la, .ref sa, .int (nI n), .null, .null])), (la, .inl (kE, cp, .inr (.inr (.inr (.inr f))))), (sa, .inl (kI, cp, .inl g)), (mr 5, .inl (kI, 3002, .inl fk)), (mr 6, .inl (kI, 3002, .inl fa)), (mr 8, .inl (kL, 3002, .inr (.inl fn))), (m9, .inr (23, mA mr mv vf xl (nI zs) ff1 xa1 (nI T) (nI pp1) xi xt xn (nI ns) (nI vv) (nI bb1)))] : va_W) ++ (sT L1 F1)) H := hP
                replace hD : va_D A (([(ee, .inr (15, [.int 3, .int tx, .int gx, .int nx, .int 0, .int 0, .long 0, .int 0, .null, .ref la, .ref sa, .int (nI n), .null, .null])), (la, .inl (kE, cp, .inr (.inr (.inr (.inr f))))), (sa, .inl (kI, cp, .inl g)), (mr 5, .inl (kI, 3002, .inl fk)), (mr 6, .inl (kI, 3002, .inl fa)), (mr 8, .inl (kL, 3002, .inr (.inl fn))), (m9, .inr (23, mA mr mv vf xl (nI zs) ff1 xa1 (nI T) (nI pp1) xi xt xn (nI ns) (nI vv) (nI bb1)))] : va_W) ++ (sT L1 F1)) := hD
                refine lv_aload_n hx hb dX23_list_102 rfl (lv_at hl 1 rfl) ?_
                refine lv_bipush (v := 62) hx hb dX23_list_103 (by decide) ?_
                replace hPc := hP.subF (f' := [(m9, .inr (23, mA mr mv vf xl (nI zs) ff1 xa1 (nI T) (nI pp1) xi xt xn (nI ns) (nI vv) (nI bb1))), (mr 5, .inl (kI, 3002, .inl fk)), (mr 6, .inl (kI, 3002, .inl fa))]) [6, 3, 4] rfl
                replace hDc := hD.subF (f' := [(m9, .inr (23, mA mr mv vf xl (nI zs) ff1 xa1 (nI T) (nI pp1) xi xt xn (nI ns) (nI vv) (nI bb1))), (mr 5, .inl (kI, 3002, .inl fk)), (mr 6, .inl (kI, 3002, .inl fa))]) [6, 3, 4] (by decide) rfl
                replace hKc := hK.sub (tys' := [(kI, .int)]) [0] rfl
                replace hFc := va_freeT (wc := [(m9, .inr (23, mA mr mv vf xl (nI zs) ff1 xa1 (nI T) (nI pp1) xi xt xn (nI ns) (nI vv) (nI bb1))), (mr 5, .inl (kI, 3002, .inl fk)), (mr 6, .inl (kI, 3002, .inl fa))]) hD hS hA [6, 3, 4] rfl
                refine va_callv (va_runV (As := [.int 62]) (rest := []) ⟨hx, hb, hml, hown, hts⟩ (c_rtkB l dC dI m9 mr mv vf xl xa1 xi xt xn zs T pp1 ns vv bb1 kI fk fa ff1 62 H.size hz_21) (cwV 1 hts g_c_xli3_c_rtkB_105 rfl rfl rfl (by decide +kernel) ⟨by show 1 + 1 ≤ 2 + 12 * k; omega, by show 8 + (2 + 11) + (20) ≤ 43 + 279 * k; omega⟩) ⟨fun a U g mk q => by obtain ⟨q0, q1, qP, qK, qD⟩ := q; exact ⟨q0, q1, qP, va_K.moved (u := U) (U := U.calling g mk a) (Vm.Alike.refl U.vm) qK, qD⟩, va_recv hKc hPc (ci := 23) (q0 := 0) rfl rfl, fun U hU hW => ⟨rfl, by rw [hU], by rw [hU]; exact hPc, va_K.moved hW.alike hKc, hDc.weaken (fun _ _ _ _ => trivial)⟩⟩ rfl rfl hl.1 rfl (lv_room (Nat.le_of_ble_eq_true rfl)) dX23_list_105 ⟨(show (8 * (pp1 - pp) - 3 * n - 8 * cm) + 0 ≤ (8 * (T - pp) + 3) by omega), (show (120 * (pp1 - pp) + 4 * cp + 8 - 64 * n - 120 * cm) + 0 ≤ (120 * (T - pp) + 280) by omega)⟩) hS (fun q _ h => hFc q h) hFc (fun u tS H1 locs ht hvm hw hB hz1 hk1 hS => ?_)
                obtain ⟨hP1, hK1, hD1⟩ := hB
                rw [ht] at hP1
                replace hK1 := va_K.moved hvm.symm hK1
                obtain ⟨hPj, hDj⟩ := va_joinT (wr := [(ee, .inr (15, [.int 3, .int tx, .int gx, .int nx, .int 0, .int 0, .long 0, .int 0, .null, .ref la, .ref sa, .int (nI n), .null, .null])), (la, .inl (kE, cp, .inr (.inr (.inr (.inr f))))), (sa, .inl (kI, cp, .inl g)), (mr 8, .inl (kL, 3002, .inr (.inl fn)))]) (w1 := [(m9, .inr (23, mA mr mv vf xl (nI zs) ff1 xa1 (nI T) (nI pp1) xi xt xn (nI ns) (nI vv) (nI bb1))), (mr 5, .inl (kI, 3002, .inl fk)), (mr 6, .inl (kI, 3002, .inl fa))]) hP hD [6, 3, 4] [0, 1, 2, 5] rfl rfl (by decide) (by decide) hk1 hFc hP1 hD1
                replace hP := hPj
                replace hD := hDj
                clear hPj hDj
                replace hK := hK.app hK1
                generalize H1 = H at hP hS ⊢
                replace hP : va_P (dC, dI) vwCl (([(ee, .inr (15, [.int 3, .int tx, .int gx, .int nx, .int 0, .int 0, .long 0, .int 0, .null, .ref la, .ref sa, .int (nI n), .null, .null])), (la, .inl (kE, cp, .inr (.inr (.inr (.inr f))))), (sa, .inl (kI, cp, .inl g)), (mr 8, .inl (kL, 3002, .inr (.inl fn))), (m9, .inr (23, mA mr mv vf xl (nI zs) ff1 xa1 (nI T) (nI pp1) xi xt xn (nI ns) (nI vv) (nI bb1))), (mr 5, .inl (kI, 3002, .inl fk)), (mr 6, .inl (kI, 3002, .inl fa))] : va_W) ++ (sT L1 F1)) H := hP
                replace hD : va_D A (([(ee, .inr (15, [.int 3, .int tx, .int gx, .int nx, .int 0, .int 0, .long 0, .int 0, .null, .ref la, .ref sa, .int (nI n), .null, .null])), (la, .inl (kE, cp, .inr (.inr (.inr (.inr f))))), (sa, .inl (kI, cp, .inl g)), (mr 8, .inl (kL, 3002, .inr (.inl fn))), (m9, .inr (23, mA mr mv vf xl (nI zs) ff1 xa1 (nI T) (nI pp1) xi xt xn (nI ns) (nI vv) (nI bb1))), (mr 5, .inl (kI, 3002, .inl fk)), (mr 6, .inl (kI, 3002, .inl fa))] : va_W) ++ (sT L1 F1)) := hD
                replace hK : va_K (dC, dI) vwCl [(kI, .int), (kL, .long), (kE, .object RX15), (kI, .int)] s := hK
                replace hK := hK.sub (tys' := [(kI, .int), (kL, .long), (kE, .object RX15)]) [0, 1, 2] rfl
                clear hz1 hk1 hPc hDc hKc hFc hP1 hD1 hK1
                replace hP : va_P (dC, dI) vwCl ((([(ee, .inr (15, [.int 3, .int tx, .int gx, .int nx, .int 0, .int 0, .long 0, .int 0, .null, .ref la, .ref sa, .int (nI n), .null, .null])), (mr 8, .inl (kL, 3002, .inr (.inl fn))), (m9, .inr (23, mA mr mv vf xl (nI zs) ff1 xa1 (nI T) (nI pp1) xi xt xn (nI ns) (nI vv) (nI bb1))), (mr 5, .inl (kI, 3002, .inl fk)), (mr 6, .inl (kI, 3002, .inl fa))] : va_W) ++ ([(la, .inl (kE, cp, .inr (.inr (.inr (.inr f))))), (sa, .inl (kI, cp, .inl g))] : va_W)) ++ sT L1 F1) H := hP.subT (f' := [(ee, .inr (15, [.int 3, .int tx, .int gx, .int nx, .int 0, .int 0, .long 0, .int 0, .null, .ref la, .ref sa, .int (nI n), .null, .null])), (mr 8, .inl (kL, 3002, .inr (.inl fn))), (m9, .inr (23, mA mr mv vf xl (nI zs) ff1 xa1 (nI T) (nI pp1) xi xt xn (nI ns) (nI vv) (nI bb1))), (mr 5, .inl (kI, 3002, .inl fk)), (mr 6, .inl (kI, 3002, .inl fa)), (la, .inl (kE, cp, .inr (.inr (.inr (.inr f))))), (sa, .inl (kI, cp, .inl g))]) [0, 3, 4, 5, 6, 1, 2] rfl
                replace hD : va_D A ((([(ee, .inr (15, [.int 3, .int tx, .int gx, .int nx, .int 0, .int 0, .long 0, .int 0, .null, .ref la, .ref sa, .int (nI n), .null, .null])), (mr 8, .inl (kL, 3002, .inr (.inl fn))), (m9, .inr (23, mA mr mv vf xl (nI zs) ff1 xa1 (nI T) (nI pp1) xi xt xn (nI ns) (nI vv) (nI bb1))), (mr 5, .inl (kI, 3002, .inl fk)), (mr 6, .inl (kI, 3002, .inl fa))] : va_W) ++ ([(la, .inl (kE, cp, .inr (.inr (.inr (.inr f))))), (sa, .inl (kI, cp, .inl g))] : va_W)) ++ sT L1 F1) := hD.subT (f' := [(ee, .inr (15, [.int 3, .int tx, .int gx, .int nx, .int 0, .int 0, .long 0, .int 0, .null, .ref la, .ref sa, .int (nI n), .null, .null])), (mr 8, .inl (kL, 3002, .inr (.inl fn))), (m9, .inr (23, mA mr mv vf xl (nI zs) ff1 xa1 (nI T) (nI pp1) xi xt xn (nI ns) (nI vv) (nI bb1))), (mr 5, .inl (kI, 3002, .inl fk)), (mr 6, .inl (kI, 3002, .inl fa)), (la, .inl (kE, cp, .inr (.inr (.inr (.inr f))))), (sa, .inl (kI, cp, .inl g))]) [0, 3, 4, 5, 6, 1, 2] (by decide) rfl
                obtain ⟨L9, F9, hx9, hm9, hP, hD⟩ := st_fileL [(la, .inl (kE, cp, .inr (.inr (.inr (.inr f))))), (sa, .inl (kI, cp, .inl g))] hP hD
                have hm9_0 := hm9 _ (List.mem_of_getElem? (i := 0) rfl)
                have hm9_1 := hm9 _ (List.mem_of_getElem? (i := 1) rfl)
                refine W.grow (fun hgs0 hgs1 => ?_)
                have hP9 := hP.subT (f' := [(ee, .inr (15, [.int 3, .int tx, .int gx, .int nx, .int 0, .int 0, .long 0, .int 0, .null, (.ref la), (.ref sa), .int (nI n), .null, .null])), (m9, .inr (23, mA mr mv vf xl (nI zs) ff1 xa1 (nI T) (nI pp1) xi xt xn (nI ns) (nI vv) (nI bb1))), (mr 5, .inl (kI, 3002, .inl fk)), (mr 6, .inl (kI, 3002, .inl fa)), (mr 8, .inl (kL, 3002, .inr (.inl fn)))]) [0, 2, 3, 4, 1] rfl
                have hD9 := hD.subT (f' := [(ee, .inr (15, [.int 3, .int tx, .int gx, .int nx, .int 0, .int 0, .long 0, .int 0, .null, (.ref la), (.ref sa), .int (nI n), .null, .null])), (m9, .inr (23, mA mr mv vf xl (nI zs) ff1 xa1 (nI T) (nI pp1) xi xt xn (nI ns) (nI vv) (nI bb1))), (mr 5, .inl (kI, 3002, .inl fk)), (mr 6, .inl (kI, 3002, .inl fa)), (mr 8, .inl (kL, 3002, .inr (.inl fn)))]) [0, 2, 3, 4, 1] (by decide) rfl
                have hK9 := hK.sub (tys' := [(kI, .int), (kL, .long), (kE, .object RX15)]) [0, 1, 2] rfl
                refine W.widen (k := (8 * (T - pp) + 3)) (n := (120 * (T - pp) + 280)) (by omega) (by omega) ?_
                subst hQ1
                exact W.vret hx hb hr (fun tS ht hW => ⟨⟨(), rfl, trivial, L9, F9, ff1, xa1, pp1, bb1, .ref la, .ref sa, n, (hr2).tr hx9, ⟨by omega, by omega, by omega, by omega⟩, (fun q9 => absurd q9 hz_21), by rw [ht]; exact ⟨by omega, by omega⟩, by rw [ht]; exact hP9, va_K.moved hW.alike hK9, hD9⟩, hS.F ht⟩) hS.2.2 dX23_list_108
          refine W.widen (k := (8 * (pp16 - pp) - 3 * 1 - 8 * 0)) (n := (120 * (pp16 - pp) + 4 * 4 + 8 - 64 * 1 - 120 * 0)) (by omega) (by omega) ?_
          exact key1 (T + 1 - (pp16) + 1) pp16 bb16 la17 sa17 4 1 0 ff16 xa16 0 L16 F16 f17 g17 _ _ _ (⟨by omega, by omega, by omega, by omega, by omega, by omega, by omega, by omega, by omega, by omega, by omega, hT⟩) (Or.inl hz_19) hf17_0.1 (fun i hi => by obtain rfl : i = 0 := (by omega); exact ⟨_, hf18_1.1, hf17_0.2⟩) (fun q9 => absurd q9 hz_19) (hP.subT [2, 3, 4, 5, 6, 0, 1] rfl) (hD.subT [2, 3, 4, 5, 6, 0, 1] (by decide) rfl) hS (lv_sub hl [0, 1, 2] rfl)
  · replace hPc := hP.subF (f' := [(m9, .inr (23, mA mr mv vf xl (nI zs) 0 xa (nI T) (nI pp) xi xt xn (nI ns) (nI vv) (nI bb))), (mr 5, .inl (kI, 3002, .inl fk))]) [4, 1] rfl
    replace hDc := hD.subF (f' := [(m9, .inr (23, mA mr mv vf xl (nI zs) 0 xa (nI T) (nI pp) xi xt xn (nI ns) (nI vv) (nI bb))), (mr 5, .inl (kI, 3002, .inl fk))]) [4, 1] (by decide) rfl
    replace hKc := hK.sub (tys' := [(kI, .int)]) [0] rfl
    replace hFc := va_freeT (wc := [(m9, .inr (23, mA mr mv vf xl (nI zs) 0 xa (nI T) (nI pp) xi xt xn (nI ns) (nI vv) (nI bb))), (mr 5, .inl (kI, 3002, .inl fk))]) hD hS hA [4, 1] rfl
    refine va_calli (va_runV (As := [.int 61]) (rest := []) ⟨hx, hb, hml, hown, hts⟩ (c_risN l dC dI m9 mr mv vf xl xa xi xt xn zs T pp ns vv bb kI fk fa 0 61 H.size hT hp hk_3) (cwV 1 hts g_c_xli3_c_risN_10 rfl rfl rfl (by decide +kernel) ⟨by show 0 + 1 ≤ 2 + 12 * k; omega, by show 8 + (2 + 11) + (0) ≤ 43 + 279 * k; omega⟩) ⟨fun a U g mk q => by obtain ⟨q0, q1, qP, qK, qD⟩ := q; exact ⟨q0, q1, qP, va_K.moved (u := U) (U := U.calling g mk a) (Vm.Alike.refl U.vm) qK, qD⟩, va_recv hKc hPc (ci := 23) (q0 := 0) rfl rfl, fun U hU hW => ⟨rfl, by rw [hU], by rw [hU]; exact hPc, va_K.moved hW.alike hKc, hDc.weaken (fun _ _ _ _ => trivial)⟩⟩ rfl rfl hl.1 rfl (lv_room (Nat.le_of_ble_eq_true rfl)) dX23_list_10 ⟨(show 0 + 0 ≤ (8 * (T - pp) + 3) by omega), (show 0 + 0 ≤ (120 * (T - pp) + 280) by omega)⟩) hS (fun q _ h => hFc q h) hFc (fun r_4 u tS H1 locs ht hvm hw hB hz1 hk1 hS => ?_)
    obtain ⟨hP1, hK1, hD1⟩ := hB
    rw [ht] at hP1
    replace hK1 := va_K.moved hvm.symm hK1
    obtain ⟨hPj, hDj⟩ := va_joinT (wr := [(ee, .inr (15, [.int 3, .int tx, .int gx, .int nx, .int 0, .int 0, .long 0, .int 0, .null, .null, .null, .int 0, .null, .null])), (mr 6, .inl (kI, 3002, .inl fa)), (mr 8, .inl (kL, 3002, .inr (.inl fn)))]) (w1 := [(m9, .inr (23, mA mr mv vf xl (nI zs) 0 xa (nI T) (nI pp) xi xt xn (nI ns) (nI vv) (nI bb))), (mr 5, .inl (kI, 3002, .inl fk))]) hP hD [4, 1] [0, 2, 3] rfl rfl (by decide) (by decide) hk1 hFc hP1 hD1
    replace hP := hPj
    replace hD := hDj
    clear hPj hDj
    replace hK := hK.app hK1
    generalize H1 = H at hP hS ⊢
    replace hP : va_P (dC, dI) vwCl (([(ee, .inr (15, [.int 3, .int tx, .int gx, .int nx, .int 0, .int 0, .long 0, .int 0, .null, .null, .null, .int 0, .null, .null])), (mr 6, .inl (kI, 3002, .inl fa)), (mr 8, .inl (kL, 3002, .inr (.inl fn))), (m9, .inr (23, mA mr mv vf xl (nI zs) 0 xa (nI T) (nI pp) xi xt xn (nI ns) (nI vv) (nI bb))), (mr 5, .inl (kI, 3002, .inl fk))] : va_W) ++ (sT L F)) H := hP
    replace hD : va_D A (([(ee, .inr (15, [.int 3, .int tx, .int gx, .int nx, .int 0, .int 0, .long 0, .int 0, .null, .null, .null, .int 0, .null, .null])), (mr 6, .inl (kI, 3002, .inl fa)), (mr 8, .inl (kL, 3002, .inr (.inl fn))), (m9, .inr (23, mA mr mv vf xl (nI zs) 0 xa (nI T) (nI pp) xi xt xn (nI ns) (nI vv) (nI bb))), (mr 5, .inl (kI, 3002, .inl fk))] : va_W) ++ (sT L F)) := hD
    replace hK : va_K (dC, dI) vwCl [(kI, .int), (kL, .long), (kE, .object RX15), (kI, .int)] s := hK
    replace hK := hK.sub (tys' := [(kI, .int), (kL, .long), (kE, .object RX15)]) [0, 1, 2] rfl
    clear hz1 hk1 hPc hDc hKc hFc hP1 hD1 hK1
    obtain rfl : r_4 = 0 := hw
    refine lv_if_eq (tgt := 27) hx hb dX23_list_13 (by decide) (fun _ => ?_) (fun c_5 => absurd (by decide) c_5)
    refine lv_aload_n hx hb dX23_list_27 rfl (lv_at hl 0 rfl) ?_
    refine lv_dup hx hb dX23_list_28 rfl ?_
    refine va_get (D := (dC, dI)) (ci := 23) (v := .int (nI ns)) (C := RX23) (T := TX23) (N := 89) hx hb hts in_c_xli3_X23 hown hK hP 3 rfl rfl 15 (by decide) (hts (.fieldLink RX23 104 "OwnedPlacesModel" "nest" "I") (wm_c_xli3 14 rfl)) (fun _ h9 => h9) rfl dX23_list_29 ?_
    refine lv_iconst (v := 1) hx hb dX23_list_32 (by decide) ?_
    refine lv_iadd hx hb dX23_list_33 ?_
    refine lv_topi (fun f_6 ef_6 => ?_)
    obtain rfl : f_6 = nI (ns + 1) := ef_6.trans (nI_1 _)
    refine va_put (D := (dC, dI)) (ci := 23) (v := .int (nI (ns + 1))) (ty := .int) (C := RX23) (T := TX23) (N := 89) hx hb hts in_c_xli3_X23 tyX23 tyX23_ok nmX23 hown hK hP hD hS 3 rfl rfl 15 (by decide) (hts (.fieldLink RX23 104 "OwnedPlacesModel" "nest" "I") (wm_c_xli3 14 rfl)) (fun _ h9 => h9) rfl (by decide +kernel) rfl rfl (Nat.le_of_ble_eq_true rfl) dX23_list_34 (fun H locs hP hD hS => ?_)
    replace hP : va_P (dC, dI) vwCl (([(ee, .inr (15, [.int 3, .int tx, .int gx, .int nx, .int 0, .int 0, .long 0, .int 0, .null, .null, .null, .int 0, .null, .null])), (mr 6, .inl (kI, 3002, .inl fa)), (mr 8, .inl (kL, 3002, .inr (.inl fn))), (m9, .inr (23, mA mr mv vf xl (nI zs) 0 xa (nI T) (nI pp) xi xt xn (nI (ns + 1)) (nI vv) (nI bb))), (mr 5, .inl (kI, 3002, .inl fk))] : va_W) ++ (sT L F)) H := hP
    replace hD : va_D A (([(ee, .inr (15, [.int 3, .int tx, .int gx, .int nx, .int 0, .int 0, .long 0, .int 0, .null, .null, .null, .int 0, .null, .null])), (mr 6, .inl (kI, 3002, .inl fa)), (mr 8, .inl (kL, 3002, .inr (.inl fn))), (m9, .inr (23, mA mr mv vf xl (nI zs) 0 xa (nI T) (nI pp) xi xt xn (nI (ns + 1)) (nI vv) (nI bb))), (mr 5, .inl (kI, 3002, .inl fk))] : va_W) ++ (sT L F)) := hD
    refine lv_aload_n hx hb dX23_list_37 rfl (lv_at hl 0 rfl) ?_
    refine lv_bipush (v := 61) hx hb dX23_list_38 (by decide) ?_
    replace hPc := hP.subF (f' := [(m9, .inr (23, mA mr mv vf xl (nI zs) 0 xa (nI T) (nI pp) xi xt xn (nI (ns + 1)) (nI vv) (nI bb))), (mr 5, .inl (kI, 3002, .inl fk)), (mr 6, .inl (kI, 3002, .inl fa))]) [3, 4, 1] rfl
    replace hDc := hD.subF (f' := [(m9, .inr (23, mA mr mv vf xl (nI zs) 0 xa (nI T) (nI pp) xi xt xn (nI (ns + 1)) (nI vv) (nI bb))), (mr 5, .inl (kI, 3002, .inl fk)), (mr 6, .inl (kI, 3002, .inl fa))]) [3, 4, 1] (by decide) rfl
    replace hKc := hK.sub (tys' := [(kI, .int)]) [0] rfl
    replace hFc := va_freeT (wc := [(m9, .inr (23, mA mr mv vf xl (nI zs) 0 xa (nI T) (nI pp) xi xt xn (nI (ns + 1)) (nI vv) (nI bb))), (mr 5, .inl (kI, 3002, .inl fk)), (mr 6, .inl (kI, 3002, .inl fa))]) hD hS hA [3, 4, 1] rfl
    refine va_callv (va_runV (As := [.int 61]) (rest := []) ⟨hx, hb, hml, hown, hts⟩ (c_rtkN l dC dI m9 mr mv vf xl xa xi xt xn zs T pp (ns + 1) vv bb kI fk fa 61 H.size hT hp hk0 (by decide) hk_3) (cwV 1 hts g_c_xli3_c_rtkN_40 rfl rfl rfl (by decide +kernel) ⟨by show 1 + 1 ≤ 2 + 12 * k; omega, by show 8 + (2 + 11) + (22) ≤ 43 + 279 * k; omega⟩) ⟨fun a U g mk q => by obtain ⟨q0, q1, qP, qK, qD⟩ := q; exact ⟨q0, q1, qP, va_K.moved (u := U) (U := U.calling g mk a) (Vm.Alike.refl U.vm) qK, qD⟩, va_recv hKc hPc (ci := 23) (q0 := 0) rfl rfl, fun U hU hW => ⟨rfl, by rw [hU], by rw [hU]; exact hPc, va_K.moved hW.alike hKc, hDc.weaken (fun _ _ _ _ => trivial)⟩⟩ rfl rfl hl.1 rfl (lv_room (Nat.le_of_ble_eq_true rfl)) dX23_list_40 ⟨(show 0 + 0 ≤ (8 * (T - pp) + 3) by omega), (show 0 + 0 ≤ (120 * (T - pp) + 280) by omega)⟩) hS (fun q _ h => hFc q h) hFc (fun u tS H1 locs ht hvm hw hB hz1 hk1 hS => ?_)
    obtain ⟨ff_7, xa_8, hf9_0, hP1, hK1, hD1⟩ := hB
    rw [ht] at hP1
    replace hK1 := va_K.moved hvm.symm hK1
    obtain ⟨hPj, hDj⟩ := va_joinT (wr := [(ee, .inr (15, [.int 3, .int tx, .int gx, .int nx, .int 0, .int 0, .long 0, .int 0, .null, .null, .null, .int 0, .null, .null])), (mr 8, .inl (kL, 3002, .inr (.inl fn)))]) (w1 := [(m9, .inr (23, mA mr mv vf xl (nI zs) ff_7 xa_8 (nI T) (nI pp) xi xt xn (nI (ns + 1)) (nI vv) (nI bb))), (mr 5, .inl (kI, 3002, .inl fk)), (mr 6, .inl (kI, 3002, .inl fa))]) hP hD [3, 4, 1] [0, 2] rfl rfl (by decide) (by decide) hk1 hFc hP1 hD1
    replace hP := hPj
    replace hD := hDj
    clear hPj hDj
    replace hK := hK.app hK1
    generalize H1 = H at hP hS ⊢
    replace hP : va_P (dC, dI) vwCl (([(ee, .inr (15, [.int 3, .int tx, .int gx, .int nx, .int 0, .int 0, .long 0, .int 0, .null, .null, .null, .int 0, .null, .null])), (mr 8, .inl (kL, 3002, .inr (.inl fn))), (m9, .inr (23, mA mr mv vf xl (nI zs) ff_7 xa_8 (nI T) (nI pp) xi xt xn (nI (ns + 1)) (nI vv) (nI bb))), (mr 5, .inl (kI, 3002, .inl fk)), (mr 6, .inl (kI, 3002, .inl fa))] : va_W) ++ (sT L F)) H := hP
    replace hD : va_D A (([(ee, .inr (15, [.int 3, .int tx, .int gx, .int nx, .int 0, .int 0, .long 0, .int 0, .null, .null, .null, .int 0, .null, .null])), (mr 8, .inl (kL, 3002, .inr (.inl fn))), (m9, .inr (23, mA mr mv vf xl (nI zs) ff_7 xa_8 (nI T) (nI pp) xi xt xn (nI (ns + 1)) (nI vv) (nI bb))), (mr 5, .inl (kI, 3002, .inl fk)), (mr 6, .inl (kI, 3002, .inl fa))] : va_W) ++ (sT L F)) := hD
    replace hK : va_K (dC, dI) vwCl [(kI, .int), (kL, .long), (kE, .object RX15), (kI, .int)] s := hK
    replace hK := hK.sub (tys' := [(kI, .int), (kL, .long), (kE, .object RX15)]) [0, 1, 2] rfl
    clear hz1 hk1 hPc hDc hKc hFc hP1 hD1 hK1
    refine lv_aload_n hx hb dX23_list_43 rfl (lv_at hl 1 rfl) ?_
    refine va_get (D := (dC, dI)) (ci := 15) (v := .int 3) (C := RX15) (T := TX15) (N := 14) hx hb hts in_c_xli3_X15 hown hK hP 0 rfl rfl 0 (by decide) (hts (.fieldLink RX23 330 "OwnedPlacesModel$Exp" "kind" "I") (wm_c_xli3 28 rfl)) (fun _ h9 => h9) rfl dX23_list_44 ?_
    refine lv_iconst (v := 3) hx hb dX23_list_47 (by decide) ?_
    refine lv_icmp_ne (tgt := 60) hx hb dX23_list_48 (by decide) (fun c_10 => absurd c_10 (by decide)) (fun _ => ?_)
    refine lv_aload_n hx hb dX23_list_51 rfl (lv_at hl 0 rfl) ?_
    refine lv_bipush (v := 62) hx hb dX23_list_52 (by decide) ?_
    by_cases hk_11 : fk pp = 62
    · replace hPc := hP.subF (f' := [(m9, .inr (23, mA mr mv vf xl (nI zs) ff_7 xa_8 (nI T) (nI pp) xi xt xn (nI (ns + 1)) (nI vv) (nI bb))), (mr 5, .inl (kI, 3002, .inl fk))]) [2, 3] rfl
      replace hDc := hD.subF (f' := [(m9, .inr (23, mA mr mv vf xl (nI zs) ff_7 xa_8 (nI T) (nI pp) xi xt xn (nI (ns + 1)) (nI vv) (nI bb))), (mr 5, .inl (kI, 3002, .inl fk))]) [2, 3] (by decide) rfl
      replace hKc := hK.sub (tys' := [(kI, .int)]) [0] rfl
      replace hFc := va_freeT (wc := [(m9, .inr (23, mA mr mv vf xl (nI zs) ff_7 xa_8 (nI T) (nI pp) xi xt xn (nI (ns + 1)) (nI vv) (nI bb))), (mr 5, .inl (kI, 3002, .inl fk))]) hD hS hA [2, 3] rfl
      refine va_calli (va_runV (As := [.int 62]) (rest := []) ⟨hx, hb, hml, hown, hts⟩ (c_risY l dC dI m9 mr mv vf xl xa_8 xi xt xn zs T pp (ns + 1) vv bb kI fk fa ff_7 62 H.size hT hp hk_11) (cwV 1 hts g_c_xli3_c_risY_54 rfl rfl rfl (by decide +kernel) ⟨by show 0 + 1 ≤ 2 + 12 * k; omega, by show 8 + (2 + 11) + (0) ≤ 43 + 279 * k; omega⟩) ⟨fun a U g mk q => by obtain ⟨q0, q1, qP, qK, qD⟩ := q; exact ⟨q0, q1, qP, va_K.moved (u := U) (U := U.calling g mk a) (Vm.Alike.refl U.vm) qK, qD⟩, va_recv hKc hPc (ci := 23) (q0 := 0) rfl rfl, fun U hU hW => ⟨rfl, by rw [hU], by rw [hU]; exact hPc, va_K.moved hW.alike hKc, hDc.weaken (fun _ _ _ _ => trivial)⟩⟩ rfl rfl hl.1 rfl (lv_room (Nat.le_of_ble_eq_true rfl)) dX23_list_54 ⟨(show 0 + 0 ≤ (8 * (T - pp) + 3) by omega), (show 0 + 0 ≤ (120 * (T - pp) + 280) by omega)⟩) hS (fun q _ h => hFc q h) hFc (fun r_12 u tS H1 locs ht hvm hw hB hz1 hk1 hS => ?_)
      obtain ⟨hP1, hK1, hD1⟩ := hB
      rw [ht] at hP1
      replace hK1 := va_K.moved hvm.symm hK1
      obtain ⟨hPj, hDj⟩ := va_joinT (wr := [(ee, .inr (15, [.int 3, .int tx, .int gx, .int nx, .int 0, .int 0, .long 0, .int 0, .null, .null, .null, .int 0, .null, .null])), (mr 8, .inl (kL, 3002, .inr (.inl fn))), (mr 6, .inl (kI, 3002, .inl fa))]) (w1 := [(m9, .inr (23, mA mr mv vf xl (nI zs) ff_7 xa_8 (nI T) (nI pp) xi xt xn (nI (ns + 1)) (nI vv) (nI bb))), (mr 5, .inl (kI, 3002, .inl fk))]) hP hD [2, 3] [0, 1, 4] rfl rfl (by decide) (by decide) hk1 hFc hP1 hD1
      replace hP := hPj
      replace hD := hDj
      clear hPj hDj
      replace hK := hK.app hK1
      generalize H1 = H at hP hS ⊢
      replace hP : va_P (dC, dI) vwCl (([(ee, .inr (15, [.int 3, .int tx, .int gx, .int nx, .int 0, .int 0, .long 0, .int 0, .null, .null, .null, .int 0, .null, .null])), (mr 8, .inl (kL, 3002, .inr (.inl fn))), (mr 6, .inl (kI, 3002, .inl fa)), (m9, .inr (23, mA mr mv vf xl (nI zs) ff_7 xa_8 (nI T) (nI pp) xi xt xn (nI (ns + 1)) (nI vv) (nI bb))), (mr 5, .inl (kI, 3002, .inl fk))] : va_W) ++ (sT L F)) H := hP
      replace hD : va_D A (([(ee, .inr (15, [.int 3, .int tx, .int gx, .int nx, .int 0, .int 0, .long 0, .int 0, .null, .null, .null, .int 0, .null, .null])), (mr 8, .inl (kL, 3002, .inr (.inl fn))), (mr 6, .inl (kI, 3002, .inl fa)), (m9, .inr (23, mA mr mv vf xl (nI zs) ff_7 xa_8 (nI T) (nI pp) xi xt xn (nI (ns + 1)) (nI vv) (nI bb))), (mr 5, .inl (kI, 3002, .inl fk))] : va_W) ++ (sT L F)) := hD
      replace hK : va_K (dC, dI) vwCl [(kI, .int), (kL, .long), (kE, .object RX15), (kI, .int)] s := hK
      replace hK := hK.sub (tys' := [(kI, .int), (kL, .long), (kE, .object RX15)]) [0, 1, 2] rfl
      clear hz1 hk1 hPc hDc hKc hFc hP1 hD1 hK1
      obtain rfl : r_12 = 1 := hw
      refine lv_if_ne (tgt := 92) hx hb dX23_list_57 (by decide) (fun _ => ?_) (fun c_13 => absurd c_13 (by decide))
      refine lv_aload_n hx hb dX23_list_92 rfl (lv_at hl 0 rfl) ?_
      refine lv_dup hx hb dX23_list_93 rfl ?_
      refine va_get (D := (dC, dI)) (ci := 23) (v := .int (nI (ns + 1))) (C := RX23) (T := TX23) (N := 89) hx hb hts in_c_xli3_X23 hown hK hP 3 rfl rfl 15 (by decide) (hts (.fieldLink RX23 104 "OwnedPlacesModel" "nest" "I") (wm_c_xli3 14 rfl)) (fun _ h9 => h9) rfl dX23_list_94 ?_
      refine lv_iconst (v := 1) hx hb dX23_list_97 (by decide) ?_
      refine lv_isub hx hb dX23_list_98 ?_
      refine lv_topi (fun f_14 ef_14 => ?_)
      obtain rfl : f_14 = nI ns := ef_14.trans (nI_pred _)
      refine va_put (D := (dC, dI)) (ci := 23) (v := .int (nI ns)) (ty := .int) (C := RX23) (T := TX23) (N := 89) hx hb hts in_c_xli3_X23 tyX23 tyX23_ok nmX23 hown hK hP hD hS 3 rfl rfl 15 (by decide) (hts (.fieldLink RX23 104 "OwnedPlacesModel" "nest" "I") (wm_c_xli3 14 rfl)) (fun _ h9 => h9) rfl (by decide +kernel) rfl rfl (Nat.le_of_ble_eq_true rfl) dX23_list_99 (fun H locs hP hD hS => ?_)
      replace hP : va_P (dC, dI) vwCl (([(ee, .inr (15, [.int 3, .int tx, .int gx, .int nx, .int 0, .int 0, .long 0, .int 0, .null, .null, .null, .int 0, .null, .null])), (mr 8, .inl (kL, 3002, .inr (.inl fn))), (mr 6, .inl (kI, 3002, .inl fa)), (m9, .inr (23, mA mr mv vf xl (nI zs) ff_7 xa_8 (nI T) (nI pp) xi xt xn (nI ns) (nI vv) (nI bb))), (mr 5, .inl (kI, 3002, .inl fk))] : va_W) ++ (sT L F)) H := hP
      replace hD : va_D A (([(ee, .inr (15, [.int 3, .int tx, .int gx, .int nx, .int 0, .int 0, .long 0, .int 0, .null, .null, .null, .int 0, .null, .null])), (mr 8, .inl (kL, 3002, .inr (.inl fn))), (mr 6, .inl (kI, 3002, .inl fa)), (m9, .inr (23, mA mr mv vf xl (nI zs) ff_7 xa_8 (nI T) (nI pp) xi xt xn (nI ns) (nI vv) (nI bb))), (mr 5, .inl (kI, 3002, .inl fk))] : va_W) ++ (sT L F)) := hD
      refine lv_aload_n hx hb dX23_list_102 rfl (lv_at hl 0 rfl) ?_
      refine lv_bipush (v := 62) hx hb dX23_list_103 (by decide) ?_
      replace hPc := hP.subF (f' := [(m9, .inr (23, mA mr mv vf xl (nI zs) ff_7 xa_8 (nI T) (nI pp) xi xt xn (nI ns) (nI vv) (nI bb))), (mr 5, .inl (kI, 3002, .inl fk)), (mr 6, .inl (kI, 3002, .inl fa))]) [3, 4, 2] rfl
      replace hDc := hD.subF (f' := [(m9, .inr (23, mA mr mv vf xl (nI zs) ff_7 xa_8 (nI T) (nI pp) xi xt xn (nI ns) (nI vv) (nI bb))), (mr 5, .inl (kI, 3002, .inl fk)), (mr 6, .inl (kI, 3002, .inl fa))]) [3, 4, 2] (by decide) rfl
      replace hKc := hK.sub (tys' := [(kI, .int)]) [0] rfl
      replace hFc := va_freeT (wc := [(m9, .inr (23, mA mr mv vf xl (nI zs) ff_7 xa_8 (nI T) (nI pp) xi xt xn (nI ns) (nI vv) (nI bb))), (mr 5, .inl (kI, 3002, .inl fk)), (mr 6, .inl (kI, 3002, .inl fa))]) hD hS hA [3, 4, 2] rfl
      refine va_callv (va_runV (As := [.int 62]) (rest := []) ⟨hx, hb, hml, hown, hts⟩ (c_rtkB l dC dI m9 mr mv vf xl xa_8 xi xt xn zs T pp ns vv bb kI fk fa ff_7 62 H.size hf9_0) (cwV 1 hts g_c_xli3_c_rtkB_105 rfl rfl rfl (by decide +kernel) ⟨by show 1 + 1 ≤ 2 + 12 * k; omega, by show 8 + (2 + 11) + (20) ≤ 43 + 279 * k; omega⟩) ⟨fun a U g mk q => by obtain ⟨q0, q1, qP, qK, qD⟩ := q; exact ⟨q0, q1, qP, va_K.moved (u := U) (U := U.calling g mk a) (Vm.Alike.refl U.vm) qK, qD⟩, va_recv hKc hPc (ci := 23) (q0 := 0) rfl rfl, fun U hU hW => ⟨rfl, by rw [hU], by rw [hU]; exact hPc, va_K.moved hW.alike hKc, hDc.weaken (fun _ _ _ _ => trivial)⟩⟩ rfl rfl hl.1 rfl (lv_room (Nat.le_of_ble_eq_true rfl)) dX23_list_105 ⟨(show 0 + 0 ≤ (8 * (T - pp) + 3) by omega), (show 0 + 0 ≤ (120 * (T - pp) + 280) by omega)⟩) hS (fun q _ h => hFc q h) hFc (fun u tS H1 locs ht hvm hw hB hz1 hk1 hS => ?_)
      obtain ⟨hP1, hK1, hD1⟩ := hB
      rw [ht] at hP1
      replace hK1 := va_K.moved hvm.symm hK1
      obtain ⟨hPj, hDj⟩ := va_joinT (wr := [(ee, .inr (15, [.int 3, .int tx, .int gx, .int nx, .int 0, .int 0, .long 0, .int 0, .null, .null, .null, .int 0, .null, .null])), (mr 8, .inl (kL, 3002, .inr (.inl fn)))]) (w1 := [(m9, .inr (23, mA mr mv vf xl (nI zs) ff_7 xa_8 (nI T) (nI pp) xi xt xn (nI ns) (nI vv) (nI bb))), (mr 5, .inl (kI, 3002, .inl fk)), (mr 6, .inl (kI, 3002, .inl fa))]) hP hD [3, 4, 2] [0, 1] rfl rfl (by decide) (by decide) hk1 hFc hP1 hD1
      replace hP := hPj
      replace hD := hDj
      clear hPj hDj
      replace hK := hK.app hK1
      generalize H1 = H at hP hS ⊢
      replace hP : va_P (dC, dI) vwCl (([(ee, .inr (15, [.int 3, .int tx, .int gx, .int nx, .int 0, .int 0, .long 0, .int 0, .null, .null, .null, .int 0, .null, .null])), (mr 8, .inl (kL, 3002, .inr (.inl fn))), (m9, .inr (23, mA mr mv vf xl (nI zs) ff_7 xa_8 (nI T) (nI pp) xi xt xn (nI ns) (nI vv) (nI bb))), (mr 5, .inl (kI, 3002, .inl fk)), (mr 6, .inl (kI, 3002, .inl fa))] : va_W) ++ (sT L F)) H := hP
      replace hD : va_D A (([(ee, .inr (15, [.int 3, .int tx, .int gx, .int nx, .int 0, .int 0, .long 0, .int 0, .null, .null, .null, .int 0, .null, .null])), (mr 8, .inl (kL, 3002, .inr (.inl fn))), (m9, .inr (23, mA mr mv vf xl (nI zs) ff_7 xa_8 (nI T) (nI pp) xi xt xn (nI ns) (nI vv) (nI bb))), (mr 5, .inl (kI, 3002, .inl fk)), (mr 6, .inl (kI, 3002, .inl fa))] : va_W) ++ (sT L F)) := hD
      replace hK : va_K (dC, dI) vwCl [(kI, .int), (kL, .long), (kE, .object RX15), (kI, .int)] s := hK
      replace hK := hK.sub (tys' := [(kI, .int), (kL, .long), (kE, .object RX15)]) [0, 1, 2] rfl
      clear hz1 hk1 hPc hDc hKc hFc hP1 hD1 hK1
      refine W.grow (fun hgs0 hgs1 => ?_)
      have hP9 := hP.subT (f' := [(ee, .inr (15, [.int 3, .int tx, .int gx, .int nx, .int 0, .int 0, .long 0, .int 0, .null, .null, .null, .int (nI 0), .null, .null])), (m9, .inr (23, mA mr mv vf xl (nI zs) ff_7 xa_8 (nI T) (nI pp) xi xt xn (nI ns) (nI vv) (nI bb))), (mr 5, .inl (kI, 3002, .inl fk)), (mr 6, .inl (kI, 3002, .inl fa)), (mr 8, .inl (kL, 3002, .inr (.inl fn)))]) [0, 2, 3, 4, 1] rfl
      have hD9 := hD.subT (f' := [(ee, .inr (15, [.int 3, .int tx, .int gx, .int nx, .int 0, .int 0, .long 0, .int 0, .null, .null, .null, .int (nI 0), .null, .null])), (m9, .inr (23, mA mr mv vf xl (nI zs) ff_7 xa_8 (nI T) (nI pp) xi xt xn (nI ns) (nI vv) (nI bb))), (mr 5, .inl (kI, 3002, .inl fk)), (mr 6, .inl (kI, 3002, .inl fa)), (mr 8, .inl (kL, 3002, .inr (.inl fn)))]) [0, 2, 3, 4, 1] (by decide) rfl
      have hK9 := hK.sub (tys' := [(kI, .int), (kL, .long), (kE, .object RX15)]) [0, 1, 2] rfl
      refine W.widen (k := (8 * (T - pp) + 3)) (n := (120 * (T - pp) + 280)) (by omega) (by omega) ?_
      exact W.vret hx hb hr (fun tS ht hW => ⟨⟨(), rfl, trivial, L, F, ff_7, xa_8, pp, bb, .null, .null, 0, exS.rf, ⟨by omega, by omega, by omega, by omega⟩, (fun q9 => absurd q9 hf9_0), by rw [ht]; exact ⟨by omega, by omega⟩, by rw [ht]; exact hP9, va_K.moved hW.alike hK9, hD9⟩, hS.F ht⟩) hS.2.2 dX23_list_108
    · replace hPc := hP.subF (f' := [(m9, .inr (23, mA mr mv vf xl (nI zs) ff_7 xa_8 (nI T) (nI pp) xi xt xn (nI (ns + 1)) (nI vv) (nI bb))), (mr 5, .inl (kI, 3002, .inl fk))]) [2, 3] rfl
      replace hDc := hD.subF (f' := [(m9, .inr (23, mA mr mv vf xl (nI zs) ff_7 xa_8 (nI T) (nI pp) xi xt xn (nI (ns + 1)) (nI vv) (nI bb))), (mr 5, .inl (kI, 3002, .inl fk))]) [2, 3] (by decide) rfl
      replace hKc := hK.sub (tys' := [(kI, .int)]) [0] rfl
      replace hFc := va_freeT (wc := [(m9, .inr (23, mA mr mv vf xl (nI zs) ff_7 xa_8 (nI T) (nI pp) xi xt xn (nI (ns + 1)) (nI vv) (nI bb))), (mr 5, .inl (kI, 3002, .inl fk))]) hD hS hA [2, 3] rfl
      refine va_calli (va_runV (As := [.int 62]) (rest := []) ⟨hx, hb, hml, hown, hts⟩ (c_risN l dC dI m9 mr mv vf xl xa_8 xi xt xn zs T pp (ns + 1) vv bb kI fk fa ff_7 62 H.size hT hp hk_11) (cwV 1 hts g_c_xli3_c_risN_54 rfl rfl rfl (by decide +kernel) ⟨by show 0 + 1 ≤ 2 + 12 * k; omega, by show 8 + (2 + 11) + (0) ≤ 43 + 279 * k; omega⟩) ⟨fun a U g mk q => by obtain ⟨q0, q1, qP, qK, qD⟩ := q; exact ⟨q0, q1, qP, va_K.moved (u := U) (U := U.calling g mk a) (Vm.Alike.refl U.vm) qK, qD⟩, va_recv hKc hPc (ci := 23) (q0 := 0) rfl rfl, fun U hU hW => ⟨rfl, by rw [hU], by rw [hU]; exact hPc, va_K.moved hW.alike hKc, hDc.weaken (fun _ _ _ _ => trivial)⟩⟩ rfl rfl hl.1 rfl (lv_room (Nat.le_of_ble_eq_true rfl)) dX23_list_54 ⟨(show 0 + 0 ≤ (8 * (T - pp) + 3) by omega), (show 0 + 0 ≤ (120 * (T - pp) + 280) by omega)⟩) hS (fun q _ h => hFc q h) hFc (fun r_12 u tS H1 locs ht hvm hw hB hz1 hk1 hS => ?_)
      obtain ⟨hP1, hK1, hD1⟩ := hB
      rw [ht] at hP1
      replace hK1 := va_K.moved hvm.symm hK1
      obtain ⟨hPj, hDj⟩ := va_joinT (wr := [(ee, .inr (15, [.int 3, .int tx, .int gx, .int nx, .int 0, .int 0, .long 0, .int 0, .null, .null, .null, .int 0, .null, .null])), (mr 8, .inl (kL, 3002, .inr (.inl fn))), (mr 6, .inl (kI, 3002, .inl fa))]) (w1 := [(m9, .inr (23, mA mr mv vf xl (nI zs) ff_7 xa_8 (nI T) (nI pp) xi xt xn (nI (ns + 1)) (nI vv) (nI bb))), (mr 5, .inl (kI, 3002, .inl fk))]) hP hD [2, 3] [0, 1, 4] rfl rfl (by decide) (by decide) hk1 hFc hP1 hD1
      replace hP := hPj
      replace hD := hDj
      clear hPj hDj
      replace hK := hK.app hK1
      generalize H1 = H at hP hS ⊢
      replace hP : va_P (dC, dI) vwCl (([(ee, .inr (15, [.int 3, .int tx, .int gx, .int nx, .int 0, .int 0, .long 0, .int 0, .null, .null, .null, .int 0, .null, .null])), (mr 8, .inl (kL, 3002, .inr (.inl fn))), (mr 6, .inl (kI, 3002, .inl fa)), (m9, .inr (23, mA mr mv vf xl (nI zs) ff_7 xa_8 (nI T) (nI pp) xi xt xn (nI (ns + 1)) (nI vv) (nI bb))), (mr 5, .inl (kI, 3002, .inl fk))] : va_W) ++ (sT L F)) H := hP
      replace hD : va_D A (([(ee, .inr (15, [.int 3, .int tx, .int gx, .int nx, .int 0, .int 0, .long 0, .int 0, .null, .null, .null, .int 0, .null, .null])), (mr 8, .inl (kL, 3002, .inr (.inl fn))), (mr 6, .inl (kI, 3002, .inl fa)), (m9, .inr (23, mA mr mv vf xl (nI zs) ff_7 xa_8 (nI T) (nI pp) xi xt xn (nI (ns + 1)) (nI vv) (nI bb))), (mr 5, .inl (kI, 3002, .inl fk))] : va_W) ++ (sT L F)) := hD
      replace hK : va_K (dC, dI) vwCl [(kI, .int), (kL, .long), (kE, .object RX15), (kI, .int)] s := hK
      replace hK := hK.sub (tys' := [(kI, .int), (kL, .long), (kE, .object RX15)]) [0, 1, 2] rfl
      clear hz1 hk1 hPc hDc hKc hFc hP1 hD1 hK1
      obtain rfl : r_12 = 0 := hw
      refine lv_if_ne (tgt := 92) hx hb dX23_list_57 (by decide) (fun c_13 => absurd c_13 (by decide)) (fun _ => ?_)
      refine lv_iconst (v := 1) hx hb dX23_list_60 (by decide) ?_
      refine lv_istore_n (lv' := [(2, .int 1), (0, .ref m9), (1, .ref ee)]) hx hb dX23_list_61 rfl hl (by decide) rfl (fun ls hl => ?_)
      refine lv_aload_n hx hb dX23_list_62 rfl (lv_at hl 1 rfl) ?_
      replace hPc := hP.subF (f' := [(m9, .inr (23, mA mr mv vf xl (nI zs) ff_7 xa_8 (nI T) (nI pp) xi xt xn (nI (ns + 1)) (nI vv) (nI bb)))]) [3] rfl
      replace hDc := hD.subF (f' := [(m9, .inr (23, mA mr mv vf xl (nI zs) ff_7 xa_8 (nI T) (nI pp) xi xt xn (nI (ns + 1)) (nI vv) (nI bb)))]) [3] (by decide) rfl
      replace hKc := hK.sub (tys' := []) [] rfl
      replace hFc := va_freeT (wc := [(m9, .inr (23, mA mr mv vf xl (nI zs) ff_7 xa_8 (nI T) (nI pp) xi xt xn (nI (ns + 1)) (nI vv) (nI bb)))]) hD hS hA [3] rfl
      refine va_calli (va_runV (As := []) (rest := []) ⟨hx, hb, hml, hown, hts⟩ (c_rokB l dC dI m9 mr mv vf xl xa_8 xi xt xn zs T pp (ns + 1) vv bb kI fk fa ff_7 H.size hf9_0) (cwV 0 hts g_c_xli3_c_rokB_63 rfl rfl rfl (by decide +kernel) ⟨by show 0 + 1 ≤ 2 + 12 * k; omega, by show 8 + (1 + 11) + (0) ≤ 43 + 279 * k; omega⟩) ⟨fun a U g mk q => by obtain ⟨q0, q1, qP, qK, qD⟩ := q; exact ⟨q0, q1, qP, va_K.moved (u := U) (U := U.calling g mk a) (Vm.Alike.refl U.vm) qK, qD⟩, va_recv hKc hPc (ci := 23) (q0 := 0) rfl rfl, fun U hU hW => ⟨rfl, by rw [hU], by rw [hU]; exact hPc, va_K.moved hW.alike hKc, hDc.weaken (fun _ _ _ _ => trivial)⟩⟩ rfl rfl hl.1 rfl (lv_room (Nat.le_of_ble_eq_true rfl)) dX23_list_63 ⟨(show 0 + 0 ≤ (8 * (T - pp) + 3) by omega), (show 0 + 0 ≤ (120 * (T - pp) + 280) by omega)⟩) hS (fun q _ h => hFc q h) hFc (fun r_14 u tS H1 locs ht hvm hw hB hz1 hk1 hS => ?_)
      obtain ⟨hP1, hK1, hD1⟩ := hB
      rw [ht] at hP1
      replace hK1 := va_K.moved hvm.symm hK1
      obtain ⟨hPj, hDj⟩ := va_joinT (wr := [(ee, .inr (15, [.int 3, .int tx, .int gx, .int nx, .int 0, .int 0, .long 0, .int 0, .null, .null, .null, .int 0, .null, .null])), (mr 8, .inl (kL, 3002, .inr (.inl fn))), (mr 6, .inl (kI, 3002, .inl fa)), (mr 5, .inl (kI, 3002, .inl fk))]) (w1 := [(m9, .inr (23, mA mr mv vf xl (nI zs) ff_7 xa_8 (nI T) (nI pp) xi xt xn (nI (ns + 1)) (nI vv) (nI bb)))]) hP hD [3] [0, 1, 2, 4] rfl rfl (by decide) (by decide) hk1 hFc hP1 hD1
      replace hP := hPj
      replace hD := hDj
      clear hPj hDj
      generalize H1 = H at hP hS ⊢
      replace hP : va_P (dC, dI) vwCl (([(ee, .inr (15, [.int 3, .int tx, .int gx, .int nx, .int 0, .int 0, .long 0, .int 0, .null, .null, .null, .int 0, .null, .null])), (mr 8, .inl (kL, 3002, .inr (.inl fn))), (mr 6, .inl (kI, 3002, .inl fa)), (mr 5, .inl (kI, 3002, .inl fk)), (m9, .inr (23, mA mr mv vf xl (nI zs) ff_7 xa_8 (nI T) (nI pp) xi xt xn (nI (ns + 1)) (nI vv) (nI bb)))] : va_W) ++ (sT L F)) H := hP
      replace hD : va_D A (([(ee, .inr (15, [.int 3, .int tx, .int gx, .int nx, .int 0, .int 0, .long 0, .int 0, .null, .null, .null, .int 0, .null, .null])), (mr 8, .inl (kL, 3002, .inr (.inl fn))), (mr 6, .inl (kI, 3002, .inl fa)), (mr 5, .inl (kI, 3002, .inl fk)), (m9, .inr (23, mA mr mv vf xl (nI zs) ff_7 xa_8 (nI T) (nI pp) xi xt xn (nI (ns + 1)) (nI vv) (nI bb)))] : va_W) ++ (sT L F)) := hD
      replace hK : va_K (dC, dI) vwCl [(kI, .int), (kL, .long), (kE, .object RX15)] s := hK
      clear hz1 hk1 hPc hDc hKc hFc hP1 hD1 hK1
      obtain rfl : r_14 = 0 := hw
      refine lv_if_eq (tgt := 92) hx hb dX23_list_66 (by decide) (fun _ => ?_) (fun c_15 => absurd (by decide) c_15)
      refine lv_aload_n hx hb dX23_list_92 rfl (lv_at hl 1 rfl) ?_
      refine lv_dup hx hb dX23_list_93 rfl ?_
      refine va_get (D := (dC, dI)) (ci := 23) (v := .int (nI (ns + 1))) (C := RX23) (T := TX23) (N := 89) hx hb hts in_c_xli3_X23 hown hK hP 4 rfl rfl 15 (by decide) (hts (.fieldLink RX23 104 "OwnedPlacesModel" "nest" "I") (wm_c_xli3 14 rfl)) (fun _ h9 => h9) rfl dX23_list_94 ?_
      refine lv_iconst (v := 1) hx hb dX23_list_97 (by decide) ?_
      refine lv_isub hx hb dX23_list_98 ?_
      refine lv_topi (fun f_16 ef_16 => ?_)
      obtain rfl : f_16 = nI ns := ef_16.trans (nI_pred _)
      refine va_put (D := (dC, dI)) (ci := 23) (v := .int (nI ns)) (ty := .int) (C := RX23) (T := TX23) (N := 89) hx hb hts in_c_xli3_X23 tyX23 tyX23_ok nmX23 hown hK hP hD hS 4 rfl rfl 15 (by decide) (hts (.fieldLink RX23 104 "OwnedPlacesModel" "nest" "I") (wm_c_xli3 14 rfl)) (fun _ h9 => h9) rfl (by decide +kernel) rfl rfl (Nat.le_of_ble_eq_true rfl) dX23_list_99 (fun H locs hP hD hS => ?_)
      replace hP : va_P (dC, dI) vwCl (([(ee, .inr (15, [.int 3, .int tx, .int gx, .int nx, .int 0, .int 0, .long 0, .int 0, .null, .null, .null, .int 0, .null, .null])), (mr 8, .inl (kL, 3002, .inr (.inl fn))), (mr 6, .inl (kI, 3002, .inl fa)), (mr 5, .inl (kI, 3002, .inl fk)), (m9, .inr (23, mA mr mv vf xl (nI zs) ff_7 xa_8 (nI T) (nI pp) xi xt xn (nI ns) (nI vv) (nI bb)))] : va_W) ++ (sT L F)) H := hP
      replace hD : va_D A (([(ee, .inr (15, [.int 3, .int tx, .int gx, .int nx, .int 0, .int 0, .long 0, .int 0, .null, .null, .null, .int 0, .null, .null])), (mr 8, .inl (kL, 3002, .inr (.inl fn))), (mr 6, .inl (kI, 3002, .inl fa)), (mr 5, .inl (kI, 3002, .inl fk)), (m9, .inr (23, mA mr mv vf xl (nI zs) ff_7 xa_8 (nI T) (nI pp) xi xt xn (nI ns) (nI vv) (nI bb)))] : va_W) ++ (sT L F)) := hD
      refine lv_aload_n hx hb dX23_list_102 rfl (lv_at hl 1 rfl) ?_
      refine lv_bipush (v := 62) hx hb dX23_list_103 (by decide) ?_
      replace hPc := hP.subF (f' := [(m9, .inr (23, mA mr mv vf xl (nI zs) ff_7 xa_8 (nI T) (nI pp) xi xt xn (nI ns) (nI vv) (nI bb))), (mr 5, .inl (kI, 3002, .inl fk)), (mr 6, .inl (kI, 3002, .inl fa))]) [4, 3, 2] rfl
      replace hDc := hD.subF (f' := [(m9, .inr (23, mA mr mv vf xl (nI zs) ff_7 xa_8 (nI T) (nI pp) xi xt xn (nI ns) (nI vv) (nI bb))), (mr 5, .inl (kI, 3002, .inl fk)), (mr 6, .inl (kI, 3002, .inl fa))]) [4, 3, 2] (by decide) rfl
      replace hKc := hK.sub (tys' := [(kI, .int)]) [0] rfl
      replace hFc := va_freeT (wc := [(m9, .inr (23, mA mr mv vf xl (nI zs) ff_7 xa_8 (nI T) (nI pp) xi xt xn (nI ns) (nI vv) (nI bb))), (mr 5, .inl (kI, 3002, .inl fk)), (mr 6, .inl (kI, 3002, .inl fa))]) hD hS hA [4, 3, 2] rfl
      refine va_callv (va_runV (As := [.int 62]) (rest := []) ⟨hx, hb, hml, hown, hts⟩ (c_rtkB l dC dI m9 mr mv vf xl xa_8 xi xt xn zs T pp ns vv bb kI fk fa ff_7 62 H.size hf9_0) (cwV 1 hts g_c_xli3_c_rtkB_105 rfl rfl rfl (by decide +kernel) ⟨by show 1 + 1 ≤ 2 + 12 * k; omega, by show 8 + (2 + 11) + (20) ≤ 43 + 279 * k; omega⟩) ⟨fun a U g mk q => by obtain ⟨q0, q1, qP, qK, qD⟩ := q; exact ⟨q0, q1, qP, va_K.moved (u := U) (U := U.calling g mk a) (Vm.Alike.refl U.vm) qK, qD⟩, va_recv hKc hPc (ci := 23) (q0 := 0) rfl rfl, fun U hU hW => ⟨rfl, by rw [hU], by rw [hU]; exact hPc, va_K.moved hW.alike hKc, hDc.weaken (fun _ _ _ _ => trivial)⟩⟩ rfl rfl hl.1 rfl (lv_room (Nat.le_of_ble_eq_true rfl)) dX23_list_105 ⟨(show 0 + 0 ≤ (8 * (T - pp) + 3) by omega), (show 0 + 0 ≤ (120 * (T - pp) + 280) by omega)⟩) hS (fun q _ h => hFc q h) hFc (fun u tS H1 locs ht hvm hw hB hz1 hk1 hS => ?_)
      obtain ⟨hP1, hK1, hD1⟩ := hB
      rw [ht] at hP1
      replace hK1 := va_K.moved hvm.symm hK1
      obtain ⟨hPj, hDj⟩ := va_joinT (wr := [(ee, .inr (15, [.int 3, .int tx, .int gx, .int nx, .int 0, .int 0, .long 0, .int 0, .null, .null, .null, .int 0, .null, .null])), (mr 8, .inl (kL, 3002, .inr (.inl fn)))]) (w1 := [(m9, .inr (23, mA mr mv vf xl (nI zs) ff_7 xa_8 (nI T) (nI pp) xi xt xn (nI ns) (nI vv) (nI bb))), (mr 5, .inl (kI, 3002, .inl fk)), (mr 6, .inl (kI, 3002, .inl fa))]) hP hD [4, 3, 2] [0, 1] rfl rfl (by decide) (by decide) hk1 hFc hP1 hD1
      replace hP := hPj
      replace hD := hDj
      clear hPj hDj
      replace hK := hK.app hK1
      generalize H1 = H at hP hS ⊢
      replace hP : va_P (dC, dI) vwCl (([(ee, .inr (15, [.int 3, .int tx, .int gx, .int nx, .int 0, .int 0, .long 0, .int 0, .null, .null, .null, .int 0, .null, .null])), (mr 8, .inl (kL, 3002, .inr (.inl fn))), (m9, .inr (23, mA mr mv vf xl (nI zs) ff_7 xa_8 (nI T) (nI pp) xi xt xn (nI ns) (nI vv) (nI bb))), (mr 5, .inl (kI, 3002, .inl fk)), (mr 6, .inl (kI, 3002, .inl fa))] : va_W) ++ (sT L F)) H := hP
      replace hD : va_D A (([(ee, .inr (15, [.int 3, .int tx, .int gx, .int nx, .int 0, .int 0, .long 0, .int 0, .null, .null, .null, .int 0, .null, .null])), (mr 8, .inl (kL, 3002, .inr (.inl fn))), (m9, .inr (23, mA mr mv vf xl (nI zs) ff_7 xa_8 (nI T) (nI pp) xi xt xn (nI ns) (nI vv) (nI bb))), (mr 5, .inl (kI, 3002, .inl fk)), (mr 6, .inl (kI, 3002, .inl fa))] : va_W) ++ (sT L F)) := hD
      replace hK : va_K (dC, dI) vwCl [(kI, .int), (kL, .long), (kE, .object RX15), (kI, .int)] s := hK
      replace hK := hK.sub (tys' := [(kI, .int), (kL, .long), (kE, .object RX15)]) [0, 1, 2] rfl
      clear hz1 hk1 hPc hDc hKc hFc hP1 hD1 hK1
      refine W.grow (fun hgs0 hgs1 => ?_)
      have hP9 := hP.subT (f' := [(ee, .inr (15, [.int 3, .int tx, .int gx, .int nx, .int 0, .int 0, .long 0, .int 0, .null, .null, .null, .int (nI 0), .null, .null])), (m9, .inr (23, mA mr mv vf xl (nI zs) ff_7 xa_8 (nI T) (nI pp) xi xt xn (nI ns) (nI vv) (nI bb))), (mr 5, .inl (kI, 3002, .inl fk)), (mr 6, .inl (kI, 3002, .inl fa)), (mr 8, .inl (kL, 3002, .inr (.inl fn)))]) [0, 2, 3, 4, 1] rfl
      have hD9 := hD.subT (f' := [(ee, .inr (15, [.int 3, .int tx, .int gx, .int nx, .int 0, .int 0, .long 0, .int 0, .null, .null, .null, .int (nI 0), .null, .null])), (m9, .inr (23, mA mr mv vf xl (nI zs) ff_7 xa_8 (nI T) (nI pp) xi xt xn (nI ns) (nI vv) (nI bb))), (mr 5, .inl (kI, 3002, .inl fk)), (mr 6, .inl (kI, 3002, .inl fa)), (mr 8, .inl (kL, 3002, .inr (.inl fn)))]) [0, 2, 3, 4, 1] (by decide) rfl
      have hK9 := hK.sub (tys' := [(kI, .int), (kL, .long), (kE, .object RX15)]) [0, 1, 2] rfl
      refine W.widen (k := (8 * (T - pp) + 3)) (n := (120 * (T - pp) + 280)) (by omega) (by omega) ?_
      exact W.vret hx hb hr (fun tS ht hW => ⟨⟨(), rfl, trivial, L, F, ff_7, xa_8, pp, bb, .null, .null, 0, exS.rf, ⟨by omega, by omega, by omega, by omega⟩, (fun q9 => absurd q9 hf9_0), by rw [ht]; exact ⟨by omega, by omega⟩, by rw [ht]; exact hP9, va_K.moved hW.alike hK9, hD9⟩, hS.F ht⟩) hS.2.2 dX23_list_108
