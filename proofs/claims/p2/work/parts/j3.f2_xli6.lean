set_option maxRecDepth 20000 in
theorem g_c_xli6_c_rok0_1 : GoodIn wp_c_xli6 (wsV RX23 89 RX23 yX23_ok wp_c_rok0) := goodIn_app (goodIn_f [.methodLink RX23 89 yX23_ok, .instanceMethod yX23_ok, .selects RX23 yX23_ok yX23_ok, .initialized RX23] [3, 4, 5, 6] rfl (by decide +kernel)) (goodIn_app (goodIn_f (wf_c_rok0) [1, 2] rfl wg_c_rok0) (goodIn_app (goodIn_sub in_c_xli6_X23 gd_X23) (goodIn_n)))
set_option maxRecDepth 20000 in
theorem g_c_xli6_c_risY_10 : GoodIn wp_c_xli6 (wsV RX23 93 RX23 yX23_is wp_c_risY) := goodIn_app (goodIn_f [.methodLink RX23 93 yX23_is, .instanceMethod yX23_is, .selects RX23 yX23_is yX23_is, .initialized RX23] [10, 11, 12, 6] rfl (by decide +kernel)) (goodIn_app (goodIn_f (wf_c_risY) [7, 8, 9] rfl wg_c_risY) (goodIn_app (goodIn_sub in_c_xli6_X23 gd_X23) (goodIn_n)))
set_option maxRecDepth 20000 in
theorem g_c_xli6_c_risN_10 : GoodIn wp_c_xli6 (wsV RX23 93 RX23 yX23_is wp_c_risY) := goodIn_app (goodIn_f [.methodLink RX23 93 yX23_is, .instanceMethod yX23_is, .selects RX23 yX23_is yX23_is, .initialized RX23] [10, 11, 12, 6] rfl (by decide +kernel)) (goodIn_app (goodIn_f (wf_c_risY) [7, 8, 9] rfl wg_c_risY) (goodIn_app (goodIn_sub in_c_xli6_X23 gd_X23) (goodIn_n)))
set_option maxRecDepth 20000 in
theorem g_c_xli6_c_renN_21 : GoodIn wp_c_xli6 (wsV RX23 119 RX23 yX23_enter wp_c_renY) := goodIn_app (goodIn_f [.methodLink RX23 119 yX23_enter, .instanceMethod yX23_enter, .selects RX23 yX23_enter yX23_enter, .initialized RX23] [21, 22, 23, 6] rfl (by decide +kernel)) (goodIn_app (goodIn_f (wf_c_renY) [13, 1, 2, 3, 4, 5, 6, 14, 15, 16, 17, 18, 19, 20] rfl wg_c_renY) (goodIn_app (goodIn_sub in_c_xli6_X23 gd_X23) (goodIn_n)))
set_option maxRecDepth 20000 in
theorem g_c_xli6_c_renY_21 : GoodIn wp_c_xli6 (wsV RX23 119 RX23 yX23_enter wp_c_renY) := goodIn_app (goodIn_f [.methodLink RX23 119 yX23_enter, .instanceMethod yX23_enter, .selects RX23 yX23_enter yX23_enter, .initialized RX23] [21, 22, 23, 6] rfl (by decide +kernel)) (goodIn_app (goodIn_f (wf_c_renY) [13, 1, 2, 3, 4, 5, 6, 14, 15, 16, 17, 18, 19, 20] rfl wg_c_renY) (goodIn_app (goodIn_sub in_c_xli6_X23 gd_X23) (goodIn_n)))
set_option maxRecDepth 20000 in
theorem g_c_xli6_c_rtkB_40 : GoodIn wp_c_xli6 (wsV RX23 100 RX23 yX23_take wp_c_rtkY) := goodIn_app (goodIn_f [.methodLink RX23 100 yX23_take, .instanceMethod yX23_take, .selects RX23 yX23_take yX23_take, .initialized RX23] [25, 26, 27, 6] rfl (by decide +kernel)) (goodIn_app (goodIn_f (wf_c_rtkY) [24, 1, 2, 3, 4, 5, 6, 7, 8, 9, 10, 11, 12, 15, 16, 17, 18, 19, 20] rfl wg_c_rtkY) (goodIn_app (goodIn_sub in_c_xli6_X23 gd_X23) (goodIn_n)))
set_option maxRecDepth 20000 in
theorem g_c_xli6_c_rokB_63 : GoodIn wp_c_xli6 (wsV RX23 89 RX23 yX23_ok wp_c_rok0) := goodIn_app (goodIn_f [.methodLink RX23 89 yX23_ok, .instanceMethod yX23_ok, .selects RX23 yX23_ok yX23_ok, .initialized RX23] [3, 4, 5, 6] rfl (by decide +kernel)) (goodIn_app (goodIn_f (wf_c_rok0) [1, 2] rfl wg_c_rok0) (goodIn_app (goodIn_sub in_c_xli6_X23 gd_X23) (goodIn_n)))
set_option maxRecDepth 20000 in
theorem g_c_xli6_c_rtkB_105 : GoodIn wp_c_xli6 (wsV RX23 100 RX23 yX23_take wp_c_rtkY) := goodIn_app (goodIn_f [.methodLink RX23 100 yX23_take, .instanceMethod yX23_take, .selects RX23 yX23_take yX23_take, .initialized RX23] [25, 26, 27, 6] rfl (by decide +kernel)) (goodIn_app (goodIn_f (wf_c_rtkY) [24, 1, 2, 3, 4, 5, 6, 7, 8, 9, 10, 11, 12, 15, 16, 17, 18, 19, 20] rfl wg_c_rtkY) (goodIn_app (goodIn_sub in_c_xli6_X23 gd_X23) (goodIn_n)))
set_option maxRecDepth 20000 in
theorem g_c_xli6_c_rtkY_40 : GoodIn wp_c_xli6 (wsV RX23 100 RX23 yX23_take wp_c_rtkY) := goodIn_app (goodIn_f [.methodLink RX23 100 yX23_take, .instanceMethod yX23_take, .selects RX23 yX23_take yX23_take, .initialized RX23] [25, 26, 27, 6] rfl (by decide +kernel)) (goodIn_app (goodIn_f (wf_c_rtkY) [24, 1, 2, 3, 4, 5, 6, 7, 8, 9, 10, 11, 12, 15, 16, 17, 18, 19, 20] rfl wg_c_rtkY) (goodIn_app (goodIn_sub in_c_xli6_X23 gd_X23) (goodIn_n)))
set_option maxRecDepth 20000 in
theorem g_c_xli6_c_rok0_63 : GoodIn wp_c_xli6 (wsV RX23 89 RX23 yX23_ok wp_c_rok0) := goodIn_app (goodIn_f [.methodLink RX23 89 yX23_ok, .instanceMethod yX23_ok, .selects RX23 yX23_ok yX23_ok, .initialized RX23] [3, 4, 5, 6] rfl (by decide +kernel)) (goodIn_app (goodIn_f (wf_c_rok0) [1, 2] rfl wg_c_rok0) (goodIn_app (goodIn_sub in_c_xli6_X23 gd_X23) (goodIn_n)))
set_option maxRecDepth 20000 in
theorem g_c_xli6_c_xex_75 : GoodIn wp_c_xli6 (wsV RX23 264 RX23 yX23_exp wp_c_xex) := goodIn_app (goodIn_f [.methodLink RX23 264 yX23_exp, .instanceMethod yX23_exp, .selects RX23 yX23_exp yX23_exp, .initialized RX23] [33, 34, 35, 6] rfl (by decide +kernel)) (goodIn_app (goodIn_f (wf_c_xex) [29, 30, 31, 32, 6, 48, 38, 49, 50, 51, 52, 53, 54, 55, 9, 56, 8, 57, 58, 7, 10, 11, 12, 28, 0, 1, 2, 3, 4, 5, 13, 14, 15, 16, 17, 18, 19, 20, 21, 22, 23, 24, 25, 26, 27, 33, 34, 35, 36, 37, 39, 40, 41, 42, 43, 44, 45, 46, 47, 59, 60, 61, 62, 63, 64, 65, 66, 67, 68, 69, 70, 71, 72, 73, 74, 75, 76, 77, 78, 79, 80, 81, 82, 83, 84, 85, 86, 87, 88, 89, 90, 91, 92, 93, 94, 95, 96, 97, 98, 99, 100, 101] rfl wg_c_xex) (goodIn_app (goodIn_sub in_c_xli6_X15 gd_X15) (goodIn_app (goodIn_sub in_c_xli6_X23 gd_X23) (goodIn_n))))
set_option maxRecDepth 20000 in
theorem g_c_xli6_c_xaN_79 : GoodIn wp_c_xli6 (va_wsS RX23 351 yX23_add wp_c_xaN) := goodIn_app (goodIn_f [.methodLink RX23 351 yX23_add, .static yX23_add, .initialized RX23] [42, 43, 6] rfl (by decide +kernel)) (goodIn_app (goodIn_f (wf_c_xaN) [36, 37, 38, 39, 40, 41] rfl wg_c_xaN) (goodIn_app (goodIn_sub in_c_xli6_X15 gd_X15) (goodIn_n)))
set_option maxRecDepth 20000 in
theorem g_c_xli6_c_rtsY_85 : GoodIn wp_c_xli6 (wsV RX23 125 RX23 yX23_takes wp_c_rtsY) := goodIn_app (goodIn_f [.methodLink RX23 125 yX23_takes, .instanceMethod yX23_takes, .selects RX23 yX23_takes yX23_takes, .initialized RX23] [45, 46, 47, 6] rfl (by decide +kernel)) (goodIn_app (goodIn_f (wf_c_rtsY) [44, 1, 2, 3, 4, 5, 6, 7, 8, 9, 10, 11, 12] rfl wg_c_rtsY) (goodIn_app (goodIn_sub in_c_xli6_X23 gd_X23) (goodIn_n)))
set_option maxRecDepth 20000 in
theorem g_c_xli6_c_rtsN_85 : GoodIn wp_c_xli6 (wsV RX23 125 RX23 yX23_takes wp_c_rtsY) := goodIn_app (goodIn_f [.methodLink RX23 125 yX23_takes, .instanceMethod yX23_takes, .selects RX23 yX23_takes yX23_takes, .initialized RX23] [45, 46, 47, 6] rfl (by decide +kernel)) (goodIn_app (goodIn_f (wf_c_rtsY) [44, 1, 2, 3, 4, 5, 6, 7, 8, 9, 10, 11, 12] rfl wg_c_rtsY) (goodIn_app (goodIn_sub in_c_xli6_X23 gd_X23) (goodIn_n)))
set_option maxRecDepth 20000 in
theorem g_c_xli6_c_rtkY_105 : GoodIn wp_c_xli6 (wsV RX23 100 RX23 yX23_take wp_c_rtkY) := goodIn_app (goodIn_f [.methodLink RX23 100 yX23_take, .instanceMethod yX23_take, .selects RX23 yX23_take yX23_take, .initialized RX23] [25, 26, 27, 6] rfl (by decide +kernel)) (goodIn_app (goodIn_f (wf_c_rtkY) [24, 1, 2, 3, 4, 5, 6, 7, 8, 9, 10, 11, 12, 15, 16, 17, 18, 19, 20] rfl wg_c_rtkY) (goodIn_app (goodIn_sub in_c_xli6_X23 gd_X23) (goodIn_n)))
set_option maxRecDepth 20000 in
theorem g_c_xli6_c_rtkN_105 : GoodIn wp_c_xli6 (wsV RX23 100 RX23 yX23_take wp_c_rtkY) := goodIn_app (goodIn_f [.methodLink RX23 100 yX23_take, .instanceMethod yX23_take, .selects RX23 yX23_take yX23_take, .initialized RX23] [25, 26, 27, 6] rfl (by decide +kernel)) (goodIn_app (goodIn_f (wf_c_rtkY) [24, 1, 2, 3, 4, 5, 6, 7, 8, 9, 10, 11, 12, 15, 16, 17, 18, 19, 20] rfl wg_c_rtkY) (goodIn_app (goodIn_sub in_c_xli6_X23 gd_X23) (goodIn_n)))
set_option maxRecDepth 20000 in
theorem g_c_xli6_c_xaA_79 : GoodIn wp_c_xli6 (va_wsS RX23 351 yX23_add wp_c_xaN) := goodIn_app (goodIn_f [.methodLink RX23 351 yX23_add, .static yX23_add, .initialized RX23] [42, 43, 6] rfl (by decide +kernel)) (goodIn_app (goodIn_f (wf_c_xaN) [36, 37, 38, 39, 40, 41] rfl wg_c_xaN) (goodIn_app (goodIn_sub in_c_xli6_X15 gd_X15) (goodIn_n)))
set_option maxRecDepth 20000 in
theorem g_c_xli6_c_rtsB_85 : GoodIn wp_c_xli6 (wsV RX23 125 RX23 yX23_takes wp_c_rtsY) := goodIn_app (goodIn_f [.methodLink RX23 125 yX23_takes, .instanceMethod yX23_takes, .selects RX23 yX23_takes yX23_takes, .initialized RX23] [45, 46, 47, 6] rfl (by decide +kernel)) (goodIn_app (goodIn_f (wf_c_rtsY) [44, 1, 2, 3, 4, 5, 6, 7, 8, 9, 10, 11, 12] rfl wg_c_rtsY) (goodIn_app (goodIn_sub in_c_xli6_X23 gd_X23) (goodIn_n)))
set_option maxRecDepth 20000 in
theorem g_c_xli6_c_rtkN_40 : GoodIn wp_c_xli6 (wsV RX23 100 RX23 yX23_take wp_c_rtkY) := goodIn_app (goodIn_f [.methodLink RX23 100 yX23_take, .instanceMethod yX23_take, .selects RX23 yX23_take yX23_take, .initialized RX23] [25, 26, 27, 6] rfl (by decide +kernel)) (goodIn_app (goodIn_f (wf_c_rtkY) [24, 1, 2, 3, 4, 5, 6, 7, 8, 9, 10, 11, 12, 15, 16, 17, 18, 19, 20] rfl wg_c_rtkY) (goodIn_app (goodIn_sub in_c_xli6_X23 gd_X23) (goodIn_n)))
set_option maxHeartbeats 4000000 in
set_option maxRecDepth 100000 in
theorem c_xli6 (l : Launch) (dC : Nat → ClassId) (dI : Nat → Nat → Nat) (k : Nat) (ih : ∀ k1 : Nat, k = k1 + 1 → IH_gx l dC dI k1) : st_c_xli6 l dC dI k := by
  intro m9 mr mv vf xl xa xi xt xn zs T pp ns vv bb kI fk fa kL kE fn L F ee tx gx nx sl sz hT hp hk0 hbb hnk
  refine Met.ofW (cc := cX23_list) (maxL := 3) (ret := none) (by decide) rfl ?_
  intro p e s m args below meth c s₁ B hml hv
  obtain ⟨rfl, hsz, hP, hK, hD0, hpre0, hpre1⟩ := hv
  have hx := B.exec
  have hb := B.bytes
  have hr := B.returns
  have hts := atoms_spec (ws := wp_c_xli6) B.pre
  have hown : s.vm.findClass RX23 = some m.cls := findClass_of_methodNamed B.named
  have hlocks := B.notSynchronized
  subst hsz
  replace hD := hD0.self (sz := s.heap.size)
  generalize hAe : va_A (([(ee, .inr (15, [.int 6, .int tx, .int gx, .int nx, .int 0, .int 0, .long 0, .int 0, .null, .null, .null, .int 0, .null, .null])), (m9, .inr (23, mA mr mv vf xl (nI zs) 0 xa (nI T) (nI pp) xi xt xn (nI ns) (nI vv) (nI bb))), (mr 5, .inl (kI, 3002, .inl fk)), (mr 6, .inl (kI, 3002, .inl fa)), (mr 8, .inl (kL, 3002, .inr (.inl fn)))] : va_W) ++ (sT L F)) s.heap.size = A at hD ⊢
  have hA : ∀ q : Nat, s.heap.size ≤ q → A q := fun q h => by rw [← hAe]; exact Or.inr h
  have hS : va_S A s.heap s.heap [] := va_S.rf
  replace hP : va_P (dC, dI) vwCl (([(ee, .inr (15, [.int 6, .int tx, .int gx, .int nx, .int 0, .int 0, .long 0, .int 0, .null, .null, .null, .int 0, .null, .null])), (m9, .inr (23, mA mr mv vf xl (nI zs) 0 xa (nI T) (nI pp) xi xt xn (nI ns) (nI vv) (nI bb))), (mr 5, .inl (kI, 3002, .inl fk)), (mr 6, .inl (kI, 3002, .inl fa)), (mr 8, .inl (kL, 3002, .inr (.inl fn)))] : va_W) ++ (sT L F)) s.heap := hP
  replace hl := lv_entry ([.ref m9, .ref ee]) (n := 3) (Nat.le_of_ble_eq_true rfl)
  rw [lg_entry_eq]
  generalize (lg_sl ([.ref m9, .ref ee]) ++ List.replicate (3 - (lg_sl ([.ref m9, .ref ee])).length) Slot.unset).toArray = ls at hl ⊢
  replace hl : lv_has ls 3 [(0, .ref m9), (1, .ref ee)] := hl
  have hns := hpre0
  subst hpre1
  refine lv_aload_n hx hb dX23_list_0 rfl (lv_at hl 0 rfl) ?_
  replace hPc := hP.subF (f' := [(m9, .inr (23, mA mr mv vf xl (nI zs) 0 xa (nI T) (nI pp) xi xt xn (nI ns) (nI vv) (nI bb)))]) [1] rfl
  replace hDc := hD.subF (f' := [(m9, .inr (23, mA mr mv vf xl (nI zs) 0 xa (nI T) (nI pp) xi xt xn (nI ns) (nI vv) (nI bb)))]) [1] (by decide) rfl
  replace hKc := hK.sub (tys' := []) [] rfl
  replace hFc := va_freeT (wc := [(m9, .inr (23, mA mr mv vf xl (nI zs) 0 xa (nI T) (nI pp) xi xt xn (nI ns) (nI vv) (nI bb)))]) hD hS hA [1] rfl
  refine va_calli (va_runV (As := []) (rest := []) ⟨hx, hb, hml, hown, hts⟩ (c_rok0 l dC dI m9 mr mv vf xl xa xi xt xn zs T pp ns vv bb kI fk fa s.heap.size) (cwV 0 hts g_c_xli6_c_rok0_1 rfl rfl rfl (by decide +kernel) ⟨by show 0 + 1 ≤ 2 + 12 * k; omega, by show 8 + (1 + 11) + (0) ≤ 43 + 279 * k; omega⟩) ⟨fun a U g mk q => by obtain ⟨q0, q1, qP, qK, qD⟩ := q; exact ⟨q0, q1, qP, va_K.moved (u := U) (U := U.calling g mk a) (Vm.Alike.refl U.vm) qK, qD⟩, va_recv hKc hPc (ci := 23) (q0 := 0) rfl rfl, fun U hU hW => ⟨rfl, by rw [hU], by rw [hU]; exact hPc, va_K.moved hW.alike hKc, hDc.weaken (fun _ _ _ _ => trivial)⟩⟩ rfl rfl hl.1 rfl (lv_room (Nat.le_of_ble_eq_true rfl)) dX23_list_1 ⟨(show 0 + 0 ≤ (8 * (T - pp) + 3) by omega), (show 0 + 0 ≤ (120 * (T - pp) + 280) by omega)⟩) hS (fun q _ h => hFc q h) hFc (fun r_1 u tS H1 locs ht hvm hw hB hz1 hk1 hS => ?_)
  obtain ⟨hP1, hK1, hD1⟩ := hB
  rw [ht] at hP1
  replace hK1 := va_K.moved hvm.symm hK1
  obtain ⟨hPj, hDj⟩ := va_joinT (wr := [(ee, .inr (15, [.int 6, .int tx, .int gx, .int nx, .int 0, .int 0, .long 0, .int 0, .null, .null, .null, .int 0, .null, .null])), (mr 5, .inl (kI, 3002, .inl fk)), (mr 6, .inl (kI, 3002, .inl fa)), (mr 8, .inl (kL, 3002, .inr (.inl fn)))]) (w1 := [(m9, .inr (23, mA mr mv vf xl (nI zs) 0 xa (nI T) (nI pp) xi xt xn (nI ns) (nI vv) (nI bb)))]) hP hD [1] [0, 2, 3, 4] rfl rfl (by decide) (by decide) hk1 hFc hP1 hD1
  replace hP := hPj
  replace hD := hDj
  clear hPj hDj
  generalize H1 = H at hP hS ⊢
  replace hP : va_P (dC, dI) vwCl (([(ee, .inr (15, [.int 6, .int tx, .int gx, .int nx, .int 0, .int 0, .long 0, .int 0, .null, .null, .null, .int 0, .null, .null])), (mr 5, .inl (kI, 3002, .inl fk)), (mr 6, .inl (kI, 3002, .inl fa)), (mr 8, .inl (kL, 3002, .inr (.inl fn))), (m9, .inr (23, mA mr mv vf xl (nI zs) 0 xa (nI T) (nI pp) xi xt xn (nI ns) (nI vv) (nI bb)))] : va_W) ++ (sT L F)) H := hP
  replace hD : va_D A (([(ee, .inr (15, [.int 6, .int tx, .int gx, .int nx, .int 0, .int 0, .long 0, .int 0, .null, .null, .null, .int 0, .null, .null])), (mr 5, .inl (kI, 3002, .inl fk)), (mr 6, .inl (kI, 3002, .inl fa)), (mr 8, .inl (kL, 3002, .inr (.inl fn))), (m9, .inr (23, mA mr mv vf xl (nI zs) 0 xa (nI T) (nI pp) xi xt xn (nI ns) (nI vv) (nI bb)))] : va_W) ++ (sT L F)) := hD
  replace hK : va_K (dC, dI) vwCl [(kI, .int), (kL, .long), (kE, .object RX15)] s := hK
  clear hz1 hk1 hPc hDc hKc hFc hP1 hD1 hK1
  obtain rfl : r_1 = 1 := hw
  refine lv_if_eq (tgt := 27) hx hb dX23_list_4 (by decide) (fun c_2 => absurd c_2 (by decide)) (fun _ => ?_)
  refine lv_aload_n hx hb dX23_list_7 rfl (lv_at hl 0 rfl) ?_
  refine lv_bipush (v := 61) hx hb dX23_list_8 (by decide) ?_
  by_cases hk_3 : fk pp = 61
  · replace hPc := hP.subF (f' := [(m9, .inr (23, mA mr mv vf xl (nI zs) 0 xa (nI T) (nI pp) xi xt xn (nI ns) (nI vv) (nI bb))), (mr 5, .inl (kI, 3002, .inl fk))]) [4, 1] rfl
    replace hDc := hD.subF (f' := [(m9, .inr (23, mA mr mv vf xl (nI zs) 0 xa (nI T) (nI pp) xi xt xn (nI ns) (nI vv) (nI bb))), (mr 5, .inl (kI, 3002, .inl fk))]) [4, 1] (by decide) rfl
    replace hKc := hK.sub (tys' := [(kI, .int)]) [0] rfl
    replace hFc := va_freeT (wc := [(m9, .inr (23, mA mr mv vf xl (nI zs) 0 xa (nI T) (nI pp) xi xt xn (nI ns) (nI vv) (nI bb))), (mr 5, .inl (kI, 3002, .inl fk))]) hD hS hA [4, 1] rfl
    refine va_calli (va_runV (As := [.int 61]) (rest := []) ⟨hx, hb, hml, hown, hts⟩ (c_risY l dC dI m9 mr mv vf xl xa xi xt xn zs T pp ns vv bb kI fk fa 0 61 H.size hT hp hk_3) (cwV 1 hts g_c_xli6_c_risY_10 rfl rfl rfl (by decide +kernel) ⟨by show 0 + 1 ≤ 2 + 12 * k; omega, by show 8 + (2 + 11) + (0) ≤ 43 + 279 * k; omega⟩) ⟨fun a U g mk q => by obtain ⟨q0, q1, qP, qK, qD⟩ := q; exact ⟨q0, q1, qP, va_K.moved (u := U) (U := U.calling g mk a) (Vm.Alike.refl U.vm) qK, qD⟩, va_recv hKc hPc (ci := 23) (q0 := 0) rfl rfl, fun U hU hW => ⟨rfl, by rw [hU], by rw [hU]; exact hPc, va_K.moved hW.alike hKc, hDc.weaken (fun _ _ _ _ => trivial)⟩⟩ rfl rfl hl.1 rfl (lv_room (Nat.le_of_ble_eq_true rfl)) dX23_list_10 ⟨(show 0 + 0 ≤ (8 * (T - pp) + 3) by omega), (show 0 + 0 ≤ (120 * (T - pp) + 280) by omega)⟩) hS (fun q _ h => hFc q h) hFc (fun r_4 u tS H1 locs ht hvm hw hB hz1 hk1 hS => ?_)
    obtain ⟨hP1, hK1, hD1⟩ := hB
    rw [ht] at hP1
    replace hK1 := va_K.moved hvm.symm hK1
    obtain ⟨hPj, hDj⟩ := va_joinT (wr := [(ee, .inr (15, [.int 6, .int tx, .int gx, .int nx, .int 0, .int 0, .long 0, .int 0, .null, .null, .null, .int 0, .null, .null])), (mr 6, .inl (kI, 3002, .inl fa)), (mr 8, .inl (kL, 3002, .inr (.inl fn)))]) (w1 := [(m9, .inr (23, mA mr mv vf xl (nI zs) 0 xa (nI T) (nI pp) xi xt xn (nI ns) (nI vv) (nI bb))), (mr 5, .inl (kI, 3002, .inl fk))]) hP hD [4, 1] [0, 2, 3] rfl rfl (by decide) (by decide) hk1 hFc hP1 hD1
    replace hP := hPj
    replace hD := hDj
    clear hPj hDj
    replace hK := hK.app hK1
    generalize H1 = H at hP hS ⊢
    replace hP : va_P (dC, dI) vwCl (([(ee, .inr (15, [.int 6, .int tx, .int gx, .int nx, .int 0, .int 0, .long 0, .int 0, .null, .null, .null, .int 0, .null, .null])), (mr 6, .inl (kI, 3002, .inl fa)), (mr 8, .inl (kL, 3002, .inr (.inl fn))), (m9, .inr (23, mA mr mv vf xl (nI zs) 0 xa (nI T) (nI pp) xi xt xn (nI ns) (nI vv) (nI bb))), (mr 5, .inl (kI, 3002, .inl fk))] : va_W) ++ (sT L F)) H := hP
    replace hD : va_D A (([(ee, .inr (15, [.int 6, .int tx, .int gx, .int nx, .int 0, .int 0, .long 0, .int 0, .null, .null, .null, .int 0, .null, .null])), (mr 6, .inl (kI, 3002, .inl fa)), (mr 8, .inl (kL, 3002, .inr (.inl fn))), (m9, .inr (23, mA mr mv vf xl (nI zs) 0 xa (nI T) (nI pp) xi xt xn (nI ns) (nI vv) (nI bb))), (mr 5, .inl (kI, 3002, .inl fk))] : va_W) ++ (sT L F)) := hD
    replace hK : va_K (dC, dI) vwCl [(kI, .int), (kL, .long), (kE, .object RX15), (kI, .int)] s := hK
    replace hK := hK.sub (tys' := [(kI, .int), (kL, .long), (kE, .object RX15)]) [0, 1, 2] rfl
    clear hz1 hk1 hPc hDc hKc hFc hP1 hD1 hK1
    obtain rfl : r_4 = 1 := hw
    refine lv_if_eq (tgt := 27) hx hb dX23_list_13 (by decide) (fun c_5 => absurd c_5 (by decide)) (fun _ => ?_)
    refine lv_aload_n hx hb dX23_list_16 rfl (lv_at hl 0 rfl) ?_
    refine lv_aload_n hx hb dX23_list_17 rfl (lv_at hl 0 rfl) ?_
    refine va_get (D := (dC, dI)) (ci := 23) (v := .int (nI pp)) (C := RX23) (T := TX23) (N := 89) hx hb hts in_c_xli6_X23 hown hK hP 3 rfl rfl 10 (by decide) (hts (.fieldLink RX23 86 "OwnedPlacesModel" "p" "I") (wm_c_xli6 9 rfl)) (fun _ h9 => h9) rfl dX23_list_18 ?_
    by_cases hn_6 : ns = 16
    · replace hPc := hP.subF (f' := [(m9, .inr (23, mA mr mv vf xl (nI zs) 0 xa (nI T) (nI pp) xi xt xn (nI ns) (nI vv) (nI bb))), (mr 6, .inl (kI, 3002, .inl fa))]) [3, 1] rfl
      replace hDc := hD.subF (f' := [(m9, .inr (23, mA mr mv vf xl (nI zs) 0 xa (nI T) (nI pp) xi xt xn (nI ns) (nI vv) (nI bb))), (mr 6, .inl (kI, 3002, .inl fa))]) [3, 1] (by decide) rfl
      replace hKc := hK.sub (tys' := [(kI, .int)]) [0] rfl
      replace hFc := va_freeT (wc := [(m9, .inr (23, mA mr mv vf xl (nI zs) 0 xa (nI T) (nI pp) xi xt xn (nI ns) (nI vv) (nI bb))), (mr 6, .inl (kI, 3002, .inl fa))]) hD hS hA [3, 1] rfl
      refine va_callv (va_runV (As := [.int (nI pp)]) (rest := []) ⟨hx, hb, hml, hown, hts⟩ (c_renN l dC dI m9 mr mv vf xl xa xi xt xn zs T pp ns vv bb kI fk fa pp H.size (by omega) hn_6) (cwV 1 hts g_c_xli6_c_renN_21 rfl rfl rfl (by decide +kernel) ⟨by show 1 + 1 ≤ 2 + 12 * k; omega, by show 8 + (2 + 11) + (22) ≤ 43 + 279 * k; omega⟩) ⟨fun a U g mk q => by obtain ⟨q0, q1, qP, qK, qD⟩ := q; exact ⟨q0, q1, qP, va_K.moved (u := U) (U := U.calling g mk a) (Vm.Alike.refl U.vm) qK, qD⟩, va_recv hKc hPc (ci := 23) (q0 := 0) rfl rfl, fun U hU hW => ⟨rfl, by rw [hU], by rw [hU]; exact hPc, va_K.moved hW.alike hKc, hDc.weaken (fun _ _ _ _ => trivial)⟩⟩ rfl rfl hl.1 rfl (lv_room (Nat.le_of_ble_eq_true rfl)) dX23_list_21 ⟨(show 0 + 0 ≤ (8 * (T - pp) + 3) by omega), (show 0 + 0 ≤ (120 * (T - pp) + 280) by omega)⟩) hS (fun q _ h => hFc q h) hFc (fun u tS H1 locs ht hvm hw hB hz1 hk1 hS => ?_)
      obtain ⟨ff_7, xa_8, hf9_0, hP1, hK1, hD1⟩ := hB
      rw [ht] at hP1
      replace hK1 := va_K.moved hvm.symm hK1
      obtain ⟨hPj, hDj⟩ := va_joinT (wr := [(ee, .inr (15, [.int 6, .int tx, .int gx, .int nx, .int 0, .int 0, .long 0, .int 0, .null, .null, .null, .int 0, .null, .null])), (mr 8, .inl (kL, 3002, .inr (.inl fn))), (mr 5, .inl (kI, 3002, .inl fk))]) (w1 := [(m9, .inr (23, mA mr mv vf xl (nI zs) ff_7 xa_8 (nI T) (nI pp) xi xt xn (nI (ns + 1)) (nI vv) (nI bb))), (mr 6, .inl (kI, 3002, .inl fa))]) hP hD [3, 1] [0, 2, 4] rfl rfl (by decide) (by decide) hk1 hFc hP1 hD1
      replace hP := hPj
      replace hD := hDj
      clear hPj hDj
      replace hK := hK.app hK1
      generalize H1 = H at hP hS ⊢
      replace hP : va_P (dC, dI) vwCl (([(ee, .inr (15, [.int 6, .int tx, .int gx, .int nx, .int 0, .int 0, .long 0, .int 0, .null, .null, .null, .int 0, .null, .null])), (mr 8, .inl (kL, 3002, .inr (.inl fn))), (mr 5, .inl (kI, 3002, .inl fk)), (m9, .inr (23, mA mr mv vf xl (nI zs) ff_7 xa_8 (nI T) (nI pp) xi xt xn (nI (ns + 1)) (nI vv) (nI bb))), (mr 6, .inl (kI, 3002, .inl fa))] : va_W) ++ (sT L F)) H := hP
      replace hD : va_D A (([(ee, .inr (15, [.int 6, .int tx, .int gx, .int nx, .int 0, .int 0, .long 0, .int 0, .null, .null, .null, .int 0, .null, .null])), (mr 8, .inl (kL, 3002, .inr (.inl fn))), (mr 5, .inl (kI, 3002, .inl fk)), (m9, .inr (23, mA mr mv vf xl (nI zs) ff_7 xa_8 (nI T) (nI pp) xi xt xn (nI (ns + 1)) (nI vv) (nI bb))), (mr 6, .inl (kI, 3002, .inl fa))] : va_W) ++ (sT L F)) := hD
      replace hK : va_K (dC, dI) vwCl [(kI, .int), (kL, .long), (kE, .object RX15), (kI, .int)] s := hK
      replace hK := hK.sub (tys' := [(kI, .int), (kL, .long), (kE, .object RX15)]) [0, 1, 2] rfl
      clear hz1 hk1 hPc hDc hKc hFc hP1 hD1 hK1
      refine lv_goto (tgt := 37) hx hb dX23_list_24 (by decide) ?_
      refine lv_aload_n hx hb dX23_list_37 rfl (lv_at hl 0 rfl) ?_
      refine lv_bipush (v := 61) hx hb dX23_list_38 (by decide) ?_
      replace hPc := hP.subF (f' := [(m9, .inr (23, mA mr mv vf xl (nI zs) ff_7 xa_8 (nI T) (nI pp) xi xt xn (nI (ns + 1)) (nI vv) (nI bb))), (mr 5, .inl (kI, 3002, .inl fk)), (mr 6, .inl (kI, 3002, .inl fa))]) [3, 2, 4] rfl
      replace hDc := hD.subF (f' := [(m9, .inr (23, mA mr mv vf xl (nI zs) ff_7 xa_8 (nI T) (nI pp) xi xt xn (nI (ns + 1)) (nI vv) (nI bb))), (mr 5, .inl (kI, 3002, .inl fk)), (mr 6, .inl (kI, 3002, .inl fa))]) [3, 2, 4] (by decide) rfl
      replace hKc := hK.sub (tys' := [(kI, .int)]) [0] rfl
      replace hFc := va_freeT (wc := [(m9, .inr (23, mA mr mv vf xl (nI zs) ff_7 xa_8 (nI T) (nI pp) xi xt xn (nI (ns + 1)) (nI vv) (nI bb))), (mr 5, .inl (kI, 3002, .inl fk)), (mr 6, .inl (kI, 3002, .inl fa))]) hD hS hA [3, 2, 4] rfl
      refine va_callv (va_runV (As := [.int 61]) (rest := []) ⟨hx, hb, hml, hown, hts⟩ (c_rtkB l dC dI m9 mr mv vf xl xa_8 xi xt xn zs T pp (ns + 1) vv bb kI fk fa ff_7 61 H.size hf9_0) (cwV 1 hts g_c_xli6_c_rtkB_40 rfl rfl rfl (by decide +kernel) ⟨by show 1 + 1 ≤ 2 + 12 * k; omega, by show 8 + (2 + 11) + (20) ≤ 43 + 279 * k; omega⟩) ⟨fun a U g mk q => by obtain ⟨q0, q1, qP, qK, qD⟩ := q; exact ⟨q0, q1, qP, va_K.moved (u := U) (U := U.calling g mk a) (Vm.Alike.refl U.vm) qK, qD⟩, va_recv hKc hPc (ci := 23) (q0 := 0) rfl rfl, fun U hU hW => ⟨rfl, by rw [hU], by rw [hU]; exact hPc, va_K.moved hW.alike hKc, hDc.weaken (fun _ _ _ _ => trivial)⟩⟩ rfl rfl hl.1 rfl (lv_room (Nat.le_of_ble_eq_true rfl)) dX23_list_40 ⟨(show 0 + 0 ≤ (8 * (T - pp) + 3) by omega), (show 0 + 0 ≤ (120 * (T - pp) + 280) by omega)⟩) hS (fun q _ h => hFc q h) hFc (fun u tS H1 locs ht hvm hw hB hz1 hk1 hS => ?_)
      obtain ⟨hP1, hK1, hD1⟩ := hB
      rw [ht] at hP1
      replace hK1 := va_K.moved hvm.symm hK1
      obtain ⟨hPj, hDj⟩ := va_joinT (wr := [(ee, .inr (15, [.int 6, .int tx, .int gx, .int nx, .int 0, .int 0, .long 0, .int 0, .null, .null, .null, .int 0, .null, .null])), (mr 8, .inl (kL, 3002, .inr (.inl fn)))]) (w1 := [(m9, .inr (23, mA mr mv vf xl (nI zs) ff_7 xa_8 (nI T) (nI pp) xi xt xn (nI (ns + 1)) (nI vv) (nI bb))), (mr 5, .inl (kI, 3002, .inl fk)), (mr 6, .inl (kI, 3002, .inl fa))]) hP hD [3, 2, 4] [0, 1] rfl rfl (by decide) (by decide) hk1 hFc hP1 hD1
      replace hP := hPj
      replace hD := hDj
      clear hPj hDj
      replace hK := hK.app hK1
      generalize H1 = H at hP hS ⊢
      replace hP : va_P (dC, dI) vwCl (([(ee, .inr (15, [.int 6, .int tx, .int gx, .int nx, .int 0, .int 0, .long 0, .int 0, .null, .null, .null, .int 0, .null, .null])), (mr 8, .inl (kL, 3002, .inr (.inl fn))), (m9, .inr (23, mA mr mv vf xl (nI zs) ff_7 xa_8 (nI T) (nI pp) xi xt xn (nI (ns + 1)) (nI vv) (nI bb))), (mr 5, .inl (kI, 3002, .inl fk)), (mr 6, .inl (kI, 3002, .inl fa))] : va_W) ++ (sT L F)) H := hP
      replace hD : va_D A (([(ee, .inr (15, [.int 6, .int tx, .int gx, .int nx, .int 0, .int 0, .long 0, .int 0, .null, .null, .null, .int 0, .null, .null])), (mr 8, .inl (kL, 3002, .inr (.inl fn))), (m9, .inr (23, mA mr mv vf xl (nI zs) ff_7 xa_8 (nI T) (nI pp) xi xt xn (nI (ns + 1)) (nI vv) (nI bb))), (mr 5, .inl (kI, 3002, .inl fk)), (mr 6, .inl (kI, 3002, .inl fa))] : va_W) ++ (sT L F)) := hD
      replace hK : va_K (dC, dI) vwCl [(kI, .int), (kL, .long), (kE, .object RX15), (kI, .int)] s := hK
      replace hK := hK.sub (tys' := [(kI, .int), (kL, .long), (kE, .object RX15)]) [0, 1, 2] rfl
      clear hz1 hk1 hPc hDc hKc hFc hP1 hD1 hK1
      refine lv_aload_n hx hb dX23_list_43 rfl (lv_at hl 1 rfl) ?_
      refine va_get (D := (dC, dI)) (ci := 15) (v := .int 6) (C := RX15) (T := TX15) (N := 14) hx hb hts in_c_xli6_X15 hown hK hP 0 rfl rfl 0 (by decide) (hts (.fieldLink RX23 330 "OwnedPlacesModel$Exp" "kind" "I") (wm_c_xli6 28 rfl)) (fun _ h9 => h9) rfl dX23_list_44 ?_
      refine lv_iconst (v := 3) hx hb dX23_list_47 (by decide) ?_
      refine lv_icmp_ne (tgt := 60) hx hb dX23_list_48 (by decide) (fun _ => ?_) (fun c_11 => absurd c_11 (by decide))
      refine lv_iconst (v := 1) hx hb dX23_list_60 (by decide) ?_
      refine lv_istore_n (lv' := [(2, .int 1), (0, .ref m9), (1, .ref ee)]) hx hb dX23_list_61 rfl hl (by decide) rfl (fun ls hl => ?_)
      refine lv_aload_n hx hb dX23_list_62 rfl (lv_at hl 1 rfl) ?_
      replace hPc := hP.subF (f' := [(m9, .inr (23, mA mr mv vf xl (nI zs) ff_7 xa_8 (nI T) (nI pp) xi xt xn (nI (ns + 1)) (nI vv) (nI bb)))]) [2] rfl
      replace hDc := hD.subF (f' := [(m9, .inr (23, mA mr mv vf xl (nI zs) ff_7 xa_8 (nI T) (nI pp) xi xt xn (nI (ns + 1)) (nI vv) (nI bb)))]) [2] (by decide) rfl
      replace hKc := hK.sub (tys' := []) [] rfl
      replace hFc := va_freeT (wc := [(m9, .inr (23, mA mr mv vf xl (nI zs) ff_7 xa_8 (nI T) (nI pp) xi xt xn (nI (ns + 1)) (nI vv) (nI bb)))]) hD hS hA [2] rfl
      refine va_calli (va_runV (As := []) (rest := []) ⟨hx, hb, hml, hown, hts⟩ (c_rokB l dC dI m9 mr mv vf xl xa_8 xi xt xn zs T pp (ns + 1) vv bb kI fk fa ff_7 H.size hf9_0) (cwV 0 hts g_c_xli6_c_rokB_63 rfl rfl rfl (by decide +kernel) ⟨by show 0 + 1 ≤ 2 + 12 * k; omega, by show 8 + (1 + 11) + (0) ≤ 43 + 279 * k; omega⟩) ⟨fun a U g mk q => by obtain ⟨q0, q1, qP, qK, qD⟩ := q; exact ⟨q0, q1, qP, va_K.moved (u := U) (U := U.calling g mk a) (Vm.Alike.refl U.vm) qK, qD⟩, va_recv hKc hPc (ci := 23) (q0 := 0) rfl rfl, fun U hU hW => ⟨rfl, by rw [hU], by rw [hU]; exact hPc, va_K.moved hW.alike hKc, hDc.weaken (fun _ _ _ _ => trivial)⟩⟩ rfl rfl hl.1 rfl (lv_room (Nat.le_of_ble_eq_true rfl)) dX23_list_63 ⟨(show 0 + 0 ≤ (8 * (T - pp) + 3) by omega), (show 0 + 0 ≤ (120 * (T - pp) + 280) by omega)⟩) hS (fun q _ h => hFc q h) hFc (fun r_12 u tS H1 locs ht hvm hw hB hz1 hk1 hS => ?_)
      obtain ⟨hP1, hK1, hD1⟩ := hB
      rw [ht] at hP1
      replace hK1 := va_K.moved hvm.symm hK1
      obtain ⟨hPj, hDj⟩ := va_joinT (wr := [(ee, .inr (15, [.int 6, .int tx, .int gx, .int nx, .int 0, .int 0, .long 0, .int 0, .null, .null, .null, .int 0, .null, .null])), (mr 8, .inl (kL, 3002, .inr (.inl fn))), (mr 5, .inl (kI, 3002, .inl fk)), (mr 6, .inl (kI, 3002, .inl fa))]) (w1 := [(m9, .inr (23, mA mr mv vf xl (nI zs) ff_7 xa_8 (nI T) (nI pp) xi xt xn (nI (ns + 1)) (nI vv) (nI bb)))]) hP hD [2] [0, 1, 3, 4] rfl rfl (by decide) (by decide) hk1 hFc hP1 hD1
      replace hP := hPj
      replace hD := hDj
      clear hPj hDj
      generalize H1 = H at hP hS ⊢
      replace hP : va_P (dC, dI) vwCl (([(ee, .inr (15, [.int 6, .int tx, .int gx, .int nx, .int 0, .int 0, .long 0, .int 0, .null, .null, .null, .int 0, .null, .null])), (mr 8, .inl (kL, 3002, .inr (.inl fn))), (mr 5, .inl (kI, 3002, .inl fk)), (mr 6, .inl (kI, 3002, .inl fa)), (m9, .inr (23, mA mr mv vf xl (nI zs) ff_7 xa_8 (nI T) (nI pp) xi xt xn (nI (ns + 1)) (nI vv) (nI bb)))] : va_W) ++ (sT L F)) H := hP
      replace hD : va_D A (([(ee, .inr (15, [.int 6, .int tx, .int gx, .int nx, .int 0, .int 0, .long 0, .int 0, .null, .null, .null, .int 0, .null, .null])), (mr 8, .inl (kL, 3002, .inr (.inl fn))), (mr 5, .inl (kI, 3002, .inl fk)), (mr 6, .inl (kI, 3002, .inl fa)), (m9, .inr (23, mA mr mv vf xl (nI zs) ff_7 xa_8 (nI T) (nI pp) xi xt xn (nI (ns + 1)) (nI vv) (nI bb)))] : va_W) ++ (sT L F)) := hD
      replace hK : va_K (dC, dI) vwCl [(kI, .int), (kL, .long), (kE, .object RX15)] s := hK
      clear hz1 hk1 hPc hDc hKc hFc hP1 hD1 hK1
      obtain rfl : r_12 = 0 := hw
      refine lv_if_eq (tgt := 92) hx hb dX23_list_66 (by decide) (fun _ => ?_) (fun c_13 => absurd (by decide) c_13)
      refine lv_aload_n hx hb dX23_list_92 rfl (lv_at hl 1 rfl) ?_
      refine lv_dup hx hb dX23_list_93 rfl ?_
      refine va_get (D := (dC, dI)) (ci := 23) (v := .int (nI (ns + 1))) (C := RX23) (T := TX23) (N := 89) hx hb hts in_c_xli6_X23 hown hK hP 4 rfl rfl 15 (by decide) (hts (.fieldLink RX23 104 "OwnedPlacesModel" "nest" "I") (wm_c_xli6 14 rfl)) (fun _ h9 => h9) rfl dX23_list_94 ?_
      refine lv_iconst (v := 1) hx hb dX23_list_97 (by decide) ?_
      refine lv_isub hx hb dX23_list_98 ?_
      refine lv_topi (fun f_14 ef_14 => ?_)
      obtain rfl : f_14 = nI ns := ef_14.trans (nI_pred _)
      refine va_put (D := (dC, dI)) (ci := 23) (v := .int (nI ns)) (ty := .int) (C := RX23) (T := TX23) (N := 89) hx hb hts in_c_xli6_X23 tyX23 tyX23_ok nmX23 hown hK hP hD hS 4 rfl rfl 15 (by decide) (hts (.fieldLink RX23 104 "OwnedPlacesModel" "nest" "I") (wm_c_xli6 14 rfl)) (fun _ h9 => h9) rfl (by decide +kernel) rfl rfl (Nat.le_of_ble_eq_true rfl) dX23_list_99 (fun H locs hP hD hS => ?_)
      replace hP : va_P (dC, dI) vwCl (([(ee, .inr (15, [.int 6, .int tx, .int gx, .int nx, .int 0, .int 0, .long 0, .int 0, .null, .null, .null, .int 0, .null, .null])), (mr 8, .inl (kL, 3002, .inr (.inl fn))), (mr 5, .inl (kI, 3002, .inl fk)), (mr 6, .inl (kI, 3002, .inl fa)), (m9, .inr (23, mA mr mv vf xl (nI zs) ff_7 xa_8 (nI T) (nI pp) xi xt xn (nI ns) (nI vv) (nI bb)))] : va_W) ++ (sT L F)) H := hP
      replace hD : va_D A (([(ee, .inr (15, [.int 6, .int tx, .int gx, .int nx, .int 0, .int 0, .long 0, .int 0, .null, .null, .null, .int 0, .null, .null])), (mr 8, .inl (kL, 3002, .inr (.inl fn))), (mr 5, .inl (kI, 3002, .inl fk)), (mr 6, .inl (kI, 3002, .inl fa)), (m9, .inr (23, mA mr mv vf xl (nI zs) ff_7 xa_8 (nI T) (nI pp) xi xt xn (nI ns) (nI vv) (nI bb)))] : va_W) ++ (sT L F)) := hD
      refine lv_aload_n hx hb dX23_list_102 rfl (lv_at hl 1 rfl) ?_
      refine lv_bipush (v := 62) hx hb dX23_list_103 (by decide) ?_
      replace hPc := hP.subF (f' := [(m9, .inr (23, mA mr mv vf xl (nI zs) ff_7 xa_8 (nI T) (nI pp) xi xt xn (nI ns) (nI vv) (nI bb))), (mr 5, .inl (kI, 3002, .inl fk)), (mr 6, .inl (kI, 3002, .inl fa))]) [4, 2, 3] rfl
      replace hDc := hD.subF (f' := [(m9, .inr (23, mA mr mv vf xl (nI zs) ff_7 xa_8 (nI T) (nI pp) xi xt xn (nI ns) (nI vv) (nI bb))), (mr 5, .inl (kI, 3002, .inl fk)), (mr 6, .inl (kI, 3002, .inl fa))]) [4, 2, 3] (by decide) rfl
      replace hKc := hK.sub (tys' := [(kI, .int)]) [0] rfl
      replace hFc := va_freeT (wc := [(m9, .inr (23, mA mr mv vf xl (nI zs) ff_7 xa_8 (nI T) (nI pp) xi xt xn (nI ns) (nI vv) (nI bb))), (mr 5, .inl (kI, 3002, .inl fk)), (mr 6, .inl (kI, 3002, .inl fa))]) hD hS hA [4, 2, 3] rfl
      refine va_callv (va_runV (As := [.int 62]) (rest := []) ⟨hx, hb, hml, hown, hts⟩ (c_rtkB l dC dI m9 mr mv vf xl xa_8 xi xt xn zs T pp ns vv bb kI fk fa ff_7 62 H.size hf9_0) (cwV 1 hts g_c_xli6_c_rtkB_105 rfl rfl rfl (by decide +kernel) ⟨by show 1 + 1 ≤ 2 + 12 * k; omega, by show 8 + (2 + 11) + (20) ≤ 43 + 279 * k; omega⟩) ⟨fun a U g mk q => by obtain ⟨q0, q1, qP, qK, qD⟩ := q; exact ⟨q0, q1, qP, va_K.moved (u := U) (U := U.calling g mk a) (Vm.Alike.refl U.vm) qK, qD⟩, va_recv hKc hPc (ci := 23) (q0 := 0) rfl rfl, fun U hU hW => ⟨rfl, by rw [hU], by rw [hU]; exact hPc, va_K.moved hW.alike hKc, hDc.weaken (fun _ _ _ _ => trivial)⟩⟩ rfl rfl hl.1 rfl (lv_room (Nat.le_of_ble_eq_true rfl)) dX23_list_105 ⟨(show 0 + 0 ≤ (8 * (T - pp) + 3) by omega), (show 0 + 0 ≤ (120 * (T - pp) + 280) by omega)⟩) hS (fun q _ h => hFc q h) hFc (fun u tS H1 locs ht hvm hw hB hz1 hk1 hS => ?_)
      obtain ⟨hP1, hK1, hD1⟩ := hB
      rw [ht] at hP1
      replace hK1 := va_K.moved hvm.symm hK1
      obtain ⟨hPj, hDj⟩ := va_joinT (wr := [(ee, .inr (15, [.int 6, .int tx, .int gx, .int nx, .int 0, .int 0, .long 0, .int 0, .null, .null, .null, .int 0, .null, .null])), (mr 8, .inl (kL, 3002, .inr (.inl fn)))]) (w1 := [(m9, .inr (23, mA mr mv vf xl (nI zs) ff_7 xa_8 (nI T) (nI pp) xi xt xn (nI ns) (nI vv) (nI bb))), (mr 5, .inl (kI, 3002, .inl fk)), (mr 6, .inl (kI, 3002, .inl fa))]) hP hD [4, 2, 3] [0, 1] rfl rfl (by decide) (by decide) hk1 hFc hP1 hD1
      replace hP := hPj
      replace hD := hDj
      clear hPj hDj
      replace hK := hK.app hK1
      generalize H1 = H at hP hS ⊢
      replace hP : va_P (dC, dI) vwCl (([(ee, .inr (15, [.int 6, .int tx, .int gx, .int nx, .int 0, .int 0, .long 0, .int 0, .null, .null, .null, .int 0, .null, .null])), (mr 8, .inl (kL, 3002, .inr (.inl fn))), (m9, .inr (23, mA mr mv vf xl (nI zs) ff_7 xa_8 (nI T) (nI pp) xi xt xn (nI ns) (nI vv) (nI bb))), (mr 5, .inl (kI, 3002, .inl fk)), (mr 6, .inl (kI, 3002, .inl fa))] : va_W) ++ (sT L F)) H := hP
      replace hD : va_D A (([(ee, .inr (15, [.int 6, .int tx, .int gx, .int nx, .int 0, .int 0, .long 0, .int 0, .null, .null, .null, .int 0, .null, .null])), (mr 8, .inl (kL, 3002, .inr (.inl fn))), (m9, .inr (23, mA mr mv vf xl (nI zs) ff_7 xa_8 (nI T) (nI pp) xi xt xn (nI ns) (nI vv) (nI bb))), (mr 5, .inl (kI, 3002, .inl fk)), (mr 6, .inl (kI, 3002, .inl fa))] : va_W) ++ (sT L F)) := hD
      replace hK : va_K (dC, dI) vwCl [(kI, .int), (kL, .long), (kE, .object RX15), (kI, .int)] s := hK
      replace hK := hK.sub (tys' := [(kI, .int), (kL, .long), (kE, .object RX15)]) [0, 1, 2] rfl
      clear hz1 hk1 hPc hDc hKc hFc hP1 hD1 hK1
      refine W.grow (fun hgs0 hgs1 => ?_)
      have hP9 := hP.subT (f' := [(ee, .inr (15, [.int 6, .int tx, .int gx, .int nx, .int 0, .int 0, .long 0, .int 0, .null, .null, .null, .int (nI 0), .null, .null])), (m9, .inr (23, mA mr mv vf xl (nI zs) ff_7 xa_8 (nI T) (nI pp) xi xt xn (nI ns) (nI vv) (nI bb))), (mr 5, .inl (kI, 3002, .inl fk)), (mr 6, .inl (kI, 3002, .inl fa)), (mr 8, .inl (kL, 3002, .inr (.inl fn)))]) [0, 2, 3, 4, 1] rfl
      have hD9 := hD.subT (f' := [(ee, .inr (15, [.int 6, .int tx, .int gx, .int nx, .int 0, .int 0, .long 0, .int 0, .null, .null, .null, .int (nI 0), .null, .null])), (m9, .inr (23, mA mr mv vf xl (nI zs) ff_7 xa_8 (nI T) (nI pp) xi xt xn (nI ns) (nI vv) (nI bb))), (mr 5, .inl (kI, 3002, .inl fk)), (mr 6, .inl (kI, 3002, .inl fa)), (mr 8, .inl (kL, 3002, .inr (.inl fn)))]) [0, 2, 3, 4, 1] (by decide) rfl
      have hK9 := hK.sub (tys' := [(kI, .int), (kL, .long), (kE, .object RX15)]) [0, 1, 2] rfl
      refine W.widen (k := (8 * (T - pp) + 3)) (n := (120 * (T - pp) + 280)) (by omega) (by omega) ?_
      exact W.vret hx hb hr (fun tS ht hW => ⟨⟨(), rfl, trivial, L, F, ff_7, xa_8, pp, bb, .null, .null, 0, exS.rf, ⟨by omega, by omega, by omega, by omega⟩, (fun q9 => absurd q9 hf9_0), by rw [ht]; exact ⟨by omega, by omega⟩, by rw [ht]; exact hP9, va_K.moved hW.alike hK9, hD9⟩, hS.F ht⟩) hS.2.2 dX23_list_108
    · replace hPc := hP.subF (f' := [(m9, .inr (23, mA mr mv vf xl (nI zs) 0 xa (nI T) (nI pp) xi xt xn (nI ns) (nI vv) (nI bb))), (mr 6, .inl (kI, 3002, .inl fa))]) [3, 1] rfl
      replace hDc := hD.subF (f' := [(m9, .inr (23, mA mr mv vf xl (nI zs) 0 xa (nI T) (nI pp) xi xt xn (nI ns) (nI vv) (nI bb))), (mr 6, .inl (kI, 3002, .inl fa))]) [3, 1] (by decide) rfl
      replace hKc := hK.sub (tys' := [(kI, .int)]) [0] rfl
      replace hFc := va_freeT (wc := [(m9, .inr (23, mA mr mv vf xl (nI zs) 0 xa (nI T) (nI pp) xi xt xn (nI ns) (nI vv) (nI bb))), (mr 6, .inl (kI, 3002, .inl fa))]) hD hS hA [3, 1] rfl
      refine va_callv (va_runV (As := [.int (nI pp)]) (rest := []) ⟨hx, hb, hml, hown, hts⟩ (c_renY l dC dI m9 mr mv vf xl xa xi xt xn zs T pp ns vv bb kI fk fa pp H.size (by omega) (⟨hn_6, by omega⟩)) (cwV 1 hts g_c_xli6_c_renY_21 rfl rfl rfl (by decide +kernel) ⟨by show 1 + 1 ≤ 2 + 12 * k; omega, by show 8 + (2 + 11) + (20) ≤ 43 + 279 * k; omega⟩) ⟨fun a U g mk q => by obtain ⟨q0, q1, qP, qK, qD⟩ := q; exact ⟨q0, q1, qP, va_K.moved (u := U) (U := U.calling g mk a) (Vm.Alike.refl U.vm) qK, qD⟩, va_recv hKc hPc (ci := 23) (q0 := 0) rfl rfl, fun U hU hW => ⟨rfl, by rw [hU], by rw [hU]; exact hPc, va_K.moved hW.alike hKc, hDc.weaken (fun _ _ _ _ => trivial)⟩⟩ rfl rfl hl.1 rfl (lv_room (Nat.le_of_ble_eq_true rfl)) dX23_list_21 ⟨(show 0 + 0 ≤ (8 * (T - pp) + 3) by omega), (show 0 + 0 ≤ (120 * (T - pp) + 280) by omega)⟩) hS (fun q _ h => hFc q h) hFc (fun u tS H1 locs ht hvm hw hB hz1 hk1 hS => ?_)
      obtain ⟨hP1, hK1, hD1⟩ := hB
      rw [ht] at hP1
      replace hK1 := va_K.moved hvm.symm hK1
      obtain ⟨hPj, hDj⟩ := va_joinT (wr := [(ee, .inr (15, [.int 6, .int tx, .int gx, .int nx, .int 0, .int 0, .long 0, .int 0, .null, .null, .null, .int 0, .null, .null])), (mr 8, .inl (kL, 3002, .inr (.inl fn))), (mr 5, .inl (kI, 3002, .inl fk))]) (w1 := [(m9, .inr (23, mA mr mv vf xl (nI zs) 0 xa (nI T) (nI pp) xi xt xn (nI (ns + 1)) (nI vv) (nI bb))), (mr 6, .inl (kI, 3002, .inl fa))]) hP hD [3, 1] [0, 2, 4] rfl rfl (by decide) (by decide) hk1 hFc hP1 hD1
      replace hP := hPj
      replace hD := hDj
      clear hPj hDj
      replace hK := hK.app hK1
      generalize H1 = H at hP hS ⊢
      replace hP : va_P (dC, dI) vwCl (([(ee, .inr (15, [.int 6, .int tx, .int gx, .int nx, .int 0, .int 0, .long 0, .int 0, .null, .null, .null, .int 0, .null, .null])), (mr 8, .inl (kL, 3002, .inr (.inl fn))), (mr 5, .inl (kI, 3002, .inl fk)), (m9, .inr (23, mA mr mv vf xl (nI zs) 0 xa (nI T) (nI pp) xi xt xn (nI (ns + 1)) (nI vv) (nI bb))), (mr 6, .inl (kI, 3002, .inl fa))] : va_W) ++ (sT L F)) H := hP
      replace hD : va_D A (([(ee, .inr (15, [.int 6, .int tx, .int gx, .int nx, .int 0, .int 0, .long 0, .int 0, .null, .null, .null, .int 0, .null, .null])), (mr 8, .inl (kL, 3002, .inr (.inl fn))), (mr 5, .inl (kI, 3002, .inl fk)), (m9, .inr (23, mA mr mv vf xl (nI zs) 0 xa (nI T) (nI pp) xi xt xn (nI (ns + 1)) (nI vv) (nI bb))), (mr 6, .inl (kI, 3002, .inl fa))] : va_W) ++ (sT L F)) := hD
      replace hK : va_K (dC, dI) vwCl [(kI, .int), (kL, .long), (kE, .object RX15), (kI, .int)] s := hK
      replace hK := hK.sub (tys' := [(kI, .int), (kL, .long), (kE, .object RX15)]) [0, 1, 2] rfl
      clear hz1 hk1 hPc hDc hKc hFc hP1 hD1 hK1
      refine lv_goto (tgt := 37) hx hb dX23_list_24 (by decide) ?_
      refine lv_aload_n hx hb dX23_list_37 rfl (lv_at hl 0 rfl) ?_
      refine lv_bipush (v := 61) hx hb dX23_list_38 (by decide) ?_
      replace hPc := hP.subF (f' := [(m9, .inr (23, mA mr mv vf xl (nI zs) 0 xa (nI T) (nI pp) xi xt xn (nI (ns + 1)) (nI vv) (nI bb))), (mr 5, .inl (kI, 3002, .inl fk)), (mr 6, .inl (kI, 3002, .inl fa))]) [3, 2, 4] rfl
      replace hDc := hD.subF (f' := [(m9, .inr (23, mA mr mv vf xl (nI zs) 0 xa (nI T) (nI pp) xi xt xn (nI (ns + 1)) (nI vv) (nI bb))), (mr 5, .inl (kI, 3002, .inl fk)), (mr 6, .inl (kI, 3002, .inl fa))]) [3, 2, 4] (by decide) rfl
      replace hKc := hK.sub (tys' := [(kI, .int)]) [0] rfl
      replace hFc := va_freeT (wc := [(m9, .inr (23, mA mr mv vf xl (nI zs) 0 xa (nI T) (nI pp) xi xt xn (nI (ns + 1)) (nI vv) (nI bb))), (mr 5, .inl (kI, 3002, .inl fk)), (mr 6, .inl (kI, 3002, .inl fa))]) hD hS hA [3, 2, 4] rfl
      refine va_callv (va_runV (As := [.int 61]) (rest := []) ⟨hx, hb, hml, hown, hts⟩ (c_rtkY l dC dI m9 mr mv vf xl xa xi xt xn zs T pp (ns + 1) vv bb kI fk fa 61 H.size hT hp hk0 (by decide) hk_3) (cwV 1 hts g_c_xli6_c_rtkY_40 rfl rfl rfl (by decide +kernel) ⟨by show 1 + 1 ≤ 2 + 12 * k; omega, by show 8 + (2 + 11) + (21) ≤ 43 + 279 * k; omega⟩) ⟨fun a U g mk q => by obtain ⟨q0, q1, qP, qK, qD⟩ := q; exact ⟨q0, q1, qP, va_K.moved (u := U) (U := U.calling g mk a) (Vm.Alike.refl U.vm) qK, qD⟩, va_recv hKc hPc (ci := 23) (q0 := 0) rfl rfl, fun U hU hW => ⟨rfl, by rw [hU], by rw [hU]; exact hPc, va_K.moved hW.alike hKc, hDc.weaken (fun _ _ _ _ => trivial)⟩⟩ rfl rfl hl.1 rfl (lv_room (Nat.le_of_ble_eq_true rfl)) dX23_list_40 ⟨(show 0 + 0 ≤ (8 * (T - pp) + 3) by omega), (show 0 + 0 ≤ (120 * (T - pp) + 280) by omega)⟩) hS (fun q _ h => hFc q h) hFc (fun u tS H1 locs ht hvm hw hB hz1 hk1 hS => ?_)
      obtain ⟨hP1, hK1, hD1⟩ := hB
      rw [ht] at hP1
      replace hK1 := va_K.moved hvm.symm hK1
      obtain ⟨hPj, hDj⟩ := va_joinT (wr := [(ee, .inr (15, [.int 6, .int tx, .int gx, .int nx, .int 0, .int 0, .long 0, .int 0, .null, .null, .null, .int 0, .null, .null])), (mr 8, .inl (kL, 3002, .inr (.inl fn)))]) (w1 := [(m9, .inr (23, mA mr mv vf xl (nI zs) 0 xa (nI T) (nI (pp + 1)) xi xt xn (nI (ns + 1)) (nI vv) (nI bb))), (mr 5, .inl (kI, 3002, .inl fk)), (mr 6, .inl (kI, 3002, .inl fa))]) hP hD [3, 2, 4] [0, 1] rfl rfl (by decide) (by decide) hk1 hFc hP1 hD1
      replace hP := hPj
      replace hD := hDj
      clear hPj hDj
      replace hK := hK.app hK1
      generalize H1 = H at hP hS ⊢
      replace hP : va_P (dC, dI) vwCl (([(ee, .inr (15, [.int 6, .int tx, .int gx, .int nx, .int 0, .int 0, .long 0, .int 0, .null, .null, .null, .int 0, .null, .null])), (mr 8, .inl (kL, 3002, .inr (.inl fn))), (m9, .inr (23, mA mr mv vf xl (nI zs) 0 xa (nI T) (nI (pp + 1)) xi xt xn (nI (ns + 1)) (nI vv) (nI bb))), (mr 5, .inl (kI, 3002, .inl fk)), (mr 6, .inl (kI, 3002, .inl fa))] : va_W) ++ (sT L F)) H := hP
      replace hD : va_D A (([(ee, .inr (15, [.int 6, .int tx, .int gx, .int nx, .int 0, .int 0, .long 0, .int 0, .null, .null, .null, .int 0, .null, .null])), (mr 8, .inl (kL, 3002, .inr (.inl fn))), (m9, .inr (23, mA mr mv vf xl (nI zs) 0 xa (nI T) (nI (pp + 1)) xi xt xn (nI (ns + 1)) (nI vv) (nI bb))), (mr 5, .inl (kI, 3002, .inl fk)), (mr 6, .inl (kI, 3002, .inl fa))] : va_W) ++ (sT L F)) := hD
      replace hK : va_K (dC, dI) vwCl [(kI, .int), (kL, .long), (kE, .object RX15), (kI, .int)] s := hK
      replace hK := hK.sub (tys' := [(kI, .int), (kL, .long), (kE, .object RX15)]) [0, 1, 2] rfl
      clear hz1 hk1 hPc hDc hKc hFc hP1 hD1 hK1
      have hp_9 : pp + 1 < T := kne3 hk0 hp hk_3 (by decide)
      refine lv_aload_n hx hb dX23_list_43 rfl (lv_at hl 1 rfl) ?_
      refine va_get (D := (dC, dI)) (ci := 15) (v := .int 6) (C := RX15) (T := TX15) (N := 14) hx hb hts in_c_xli6_X15 hown hK hP 0 rfl rfl 0 (by decide) (hts (.fieldLink RX23 330 "OwnedPlacesModel$Exp" "kind" "I") (wm_c_xli6 28 rfl)) (fun _ h9 => h9) rfl dX23_list_44 ?_
      refine lv_iconst (v := 3) hx hb dX23_list_47 (by decide) ?_
      refine lv_icmp_ne (tgt := 60) hx hb dX23_list_48 (by decide) (fun _ => ?_) (fun c_10 => absurd c_10 (by decide))
      refine lv_iconst (v := 1) hx hb dX23_list_60 (by decide) ?_
      refine lv_istore_n (lv' := [(2, .int 1), (0, .ref m9), (1, .ref ee)]) hx hb dX23_list_61 rfl hl (by decide) rfl (fun ls hl => ?_)
      refine lv_aload_n hx hb dX23_list_62 rfl (lv_at hl 1 rfl) ?_
      replace hPc := hP.subF (f' := [(m9, .inr (23, mA mr mv vf xl (nI zs) 0 xa (nI T) (nI (pp + 1)) xi xt xn (nI (ns + 1)) (nI vv) (nI bb)))]) [2] rfl
      replace hDc := hD.subF (f' := [(m9, .inr (23, mA mr mv vf xl (nI zs) 0 xa (nI T) (nI (pp + 1)) xi xt xn (nI (ns + 1)) (nI vv) (nI bb)))]) [2] (by decide) rfl
      replace hKc := hK.sub (tys' := []) [] rfl
      replace hFc := va_freeT (wc := [(m9, .inr (23, mA mr mv vf xl (nI zs) 0 xa (nI T) (nI (pp + 1)) xi xt xn (nI (ns + 1)) (nI vv) (nI bb)))]) hD hS hA [2] rfl
      refine va_calli (va_runV (As := []) (rest := []) ⟨hx, hb, hml, hown, hts⟩ (c_rok0 l dC dI m9 mr mv vf xl xa xi xt xn zs T (pp + 1) (ns + 1) vv bb kI fk fa H.size) (cwV 0 hts g_c_xli6_c_rok0_63 rfl rfl rfl (by decide +kernel) ⟨by show 0 + 1 ≤ 2 + 12 * k; omega, by show 8 + (1 + 11) + (0) ≤ 43 + 279 * k; omega⟩) ⟨fun a U g mk q => by obtain ⟨q0, q1, qP, qK, qD⟩ := q; exact ⟨q0, q1, qP, va_K.moved (u := U) (U := U.calling g mk a) (Vm.Alike.refl U.vm) qK, qD⟩, va_recv hKc hPc (ci := 23) (q0 := 0) rfl rfl, fun U hU hW => ⟨rfl, by rw [hU], by rw [hU]; exact hPc, va_K.moved hW.alike hKc, hDc.weaken (fun _ _ _ _ => trivial)⟩⟩ rfl rfl hl.1 rfl (lv_room (Nat.le_of_ble_eq_true rfl)) dX23_list_63 ⟨(show 0 + 0 ≤ (8 * (T - pp) + 3) by omega), (show 0 + 0 ≤ (120 * (T - pp) + 280) by omega)⟩) hS (fun q _ h => hFc q h) hFc (fun r_11 u tS H1 locs ht hvm hw hB hz1 hk1 hS => ?_)
      obtain ⟨hP1, hK1, hD1⟩ := hB
      rw [ht] at hP1
      replace hK1 := va_K.moved hvm.symm hK1
      obtain ⟨hPj, hDj⟩ := va_joinT (wr := [(ee, .inr (15, [.int 6, .int tx, .int gx, .int nx, .int 0, .int 0, .long 0, .int 0, .null, .null, .null, .int 0, .null, .null])), (mr 8, .inl (kL, 3002, .inr (.inl fn))), (mr 5, .inl (kI, 3002, .inl fk)), (mr 6, .inl (kI, 3002, .inl fa))]) (w1 := [(m9, .inr (23, mA mr mv vf xl (nI zs) 0 xa (nI T) (nI (pp + 1)) xi xt xn (nI (ns + 1)) (nI vv) (nI bb)))]) hP hD [2] [0, 1, 3, 4] rfl rfl (by decide) (by decide) hk1 hFc hP1 hD1
      replace hP := hPj
      replace hD := hDj
      clear hPj hDj
      generalize H1 = H at hP hS ⊢
      replace hP : va_P (dC, dI) vwCl (([(ee, .inr (15, [.int 6, .int tx, .int gx, .int nx, .int 0, .int 0, .long 0, .int 0, .null, .null, .null, .int 0, .null, .null])), (mr 8, .inl (kL, 3002, .inr (.inl fn))), (mr 5, .inl (kI, 3002, .inl fk)), (mr 6, .inl (kI, 3002, .inl fa)), (m9, .inr (23, mA mr mv vf xl (nI zs) 0 xa (nI T) (nI (pp + 1)) xi xt xn (nI (ns + 1)) (nI vv) (nI bb)))] : va_W) ++ (sT L F)) H := hP
      replace hD : va_D A (([(ee, .inr (15, [.int 6, .int tx, .int gx, .int nx, .int 0, .int 0, .long 0, .int 0, .null, .null, .null, .int 0, .null, .null])), (mr 8, .inl (kL, 3002, .inr (.inl fn))), (mr 5, .inl (kI, 3002, .inl fk)), (mr 6, .inl (kI, 3002, .inl fa)), (m9, .inr (23, mA mr mv vf xl (nI zs) 0 xa (nI T) (nI (pp + 1)) xi xt xn (nI (ns + 1)) (nI vv) (nI bb)))] : va_W) ++ (sT L F)) := hD
      replace hK : va_K (dC, dI) vwCl [(kI, .int), (kL, .long), (kE, .object RX15)] s := hK
      clear hz1 hk1 hPc hDc hKc hFc hP1 hD1 hK1
      obtain rfl : r_11 = 1 := hw
      refine lv_if_eq (tgt := 92) hx hb dX23_list_66 (by decide) (fun c_12 => absurd c_12 (by decide)) (fun _ => ?_)
      refine lv_iload_n hx hb dX23_list_69 rfl (lv_at hl 0 rfl) ?_
      refine lv_if_eq (tgt := 92) hx hb dX23_list_70 (by decide) (fun c_13 => absurd c_13 (by decide)) (fun _ => ?_)
      refine lv_aload_n hx hb dX23_list_73 rfl (lv_at hl 2 rfl) ?_
      refine lv_aload_n hx hb dX23_list_74 rfl (lv_at hl 1 rfl) ?_
      obtain ⟨k1, hkL⟩ : ∃ k1 : Nat, k = k1 + 1 := ⟨k - 1, by omega⟩
      replace hPc := hP.subT (f' := [(m9, .inr (23, mA mr mv vf xl (nI zs) 0 xa (nI T) (nI (pp + 1)) xi xt xn (nI (ns + 1)) (nI vv) (nI bb))), (mr 5, .inl (kI, 3002, .inl fk)), (mr 6, .inl (kI, 3002, .inl fa)), (mr 8, .inl (kL, 3002, .inr (.inl fn)))]) [4, 2, 3, 1] rfl
      replace hDc := hD.subT (f' := [(m9, .inr (23, mA mr mv vf xl (nI zs) 0 xa (nI T) (nI (pp + 1)) xi xt xn (nI (ns + 1)) (nI vv) (nI bb))), (mr 5, .inl (kI, 3002, .inl fk)), (mr 6, .inl (kI, 3002, .inl fa)), (mr 8, .inl (kL, 3002, .inr (.inl fn)))]) [4, 2, 3, 1] (by decide) rfl
      replace hKc := hK.sub (tys' := [(kI, .int), (kL, .long), (kE, .object RX15)]) [0, 1, 2] rfl
      replace hFc := va_freeB (wc := [(m9, .inr (23, mA mr mv vf xl (nI zs) 0 xa (nI T) (nI (pp + 1)) xi xt xn (nI (ns + 1)) (nI vv) (nI bb))), (mr 5, .inl (kI, 3002, .inl fk)), (mr 6, .inl (kI, 3002, .inl fa)), (mr 8, .inl (kL, 3002, .inr (.inl fn)))]) hD hS hA [4, 2, 3, 1] rfl
      refine W.grow (fun hgs0 hgs1 => ?_)
      refine va_callr (va_runV (As := []) (rest := [.ref ee]) ⟨hx, hb, hml, hown, hts⟩ ((ih k1 hkL).2.2.2.2.2.2 m9 mr mv vf xl xa xi xt xn zs T (pp + 1) (ns + 1) vv bb kI fk fa kL kE fn L F (slN H) H.size hT hp_9 hk0 hbb (by omega)) (cwV 0 hts g_c_xli6_c_xex_75 rfl rfl rfl (by decide +kernel) ⟨by show 13 + 12 * k1 + 1 ≤ 2 + 12 * k; omega, by show 8 + (1 + 11) + (302 + 279 * k1) ≤ 43 + 279 * k; omega⟩) ⟨fun a U g mk q => by obtain ⟨q0, q1, qP, qK, qD, qx0, qx1⟩ := q; exact ⟨q0, q1, qP, va_K.moved (u := U) (U := U.calling g mk a) (Vm.Alike.refl U.vm) qK, qD, nsM.same (u := U) (U := U.calling g mk a) rfl qx0, qx1⟩, va_recv hKc hPc (ci := 23) (q0 := 0) rfl rfl, fun U hU hW => ⟨rfl, by rw [hU], by rw [hU]; exact hPc, va_K.moved hW.alike hKc, hDc.weaken (fun _ _ _ _ => trivial), nsM.warm hW hns, by rw [hU]⟩⟩ rfl rfl hl.1 rfl (lv_room (Nat.le_of_ble_eq_true rfl)) dX23_list_75 ⟨(show 0 + (8 * (T - (pp + 1)) + 8) ≤ (8 * (T - pp) + 3) by omega), (show 0 + (120 * (T - (pp + 1)) + 360) ≤ (120 * (T - pp) + 280) by omega)⟩) hS (fun q _ h => hFc q h) hFc (fun u r_14 tS H1 locs ht hvm hw hB hz1 hk1 hS => ?_)
      obtain ⟨L13, F13, ff13, xa13, pp13, bb13, hf14_0, hf14_1, hf14_2, hf14_3, hP1, hK1, hD1⟩ := hB
      rw [ht] at hP1
      replace hK1 := va_K.moved hvm.symm hK1
      rw [ht] at hf14_3
      have hgz : H1.size ≤ s.heap.size + (8 * (pp13 - (pp + 1)) + 3) ∧ slN H1 ≤ slN s.heap + (120 * (pp13 - (pp + 1)) + 48) := ⟨by have := hf14_3.1; omega, by have := hf14_3.2; omega⟩
      obtain ⟨hPj, hDj⟩ := va_joinB (wr := [(ee, .inr (15, [.int 6, .int tx, .int gx, .int nx, .int 0, .int 0, .long 0, .int 0, .null, .null, .null, .int 0, .null, .null]))]) (w1 := [(m9, .inr (23, mA mr mv vf xl (nI zs) ff13 xa13 (nI T) (nI pp13) xi xt xn (nI (ns + 1)) (nI vv) (nI bb13))), (mr 5, .inl (kI, 3002, .inl fk)), (mr 6, .inl (kI, 3002, .inl fa)), (mr 8, .inl (kL, 3002, .inr (.inl fn)))]) hP hD [4, 2, 3, 1] [0] rfl rfl (by decide) (by decide) hk1 hFc hP1 hD1
      replace hP := hPj
      replace hD := hDj
      clear hPj hDj
      replace hK := hK.app hK1
      generalize H1 = H at hP hS hgz ⊢
      replace hP : va_P (dC, dI) vwCl (([(ee, .inr (15, [.int 6, .int tx, .int gx, .int nx, .int 0, .int 0, .long 0, .int 0, .null, .null, .null, .int 0, .null, .null])), (m9, .inr (23, mA mr mv vf xl (nI zs) ff13 xa13 (nI T) (nI pp13) xi xt xn (nI (ns + 1)) (nI vv) (nI bb13))), (mr 5, .inl (kI, 3002, .inl fk)), (mr 6, .inl (kI, 3002, .inl fa)), (mr 8, .inl (kL, 3002, .inr (.inl fn)))] : va_W) ++ (sT L13 F13)) H := hP
      replace hD : va_D A (([(ee, .inr (15, [.int 6, .int tx, .int gx, .int nx, .int 0, .int 0, .long 0, .int 0, .null, .null, .null, .int 0, .null, .null])), (m9, .inr (23, mA mr mv vf xl (nI zs) ff13 xa13 (nI T) (nI pp13) xi xt xn (nI (ns + 1)) (nI vv) (nI bb13))), (mr 5, .inl (kI, 3002, .inl fk)), (mr 6, .inl (kI, 3002, .inl fa)), (mr 8, .inl (kL, 3002, .inr (.inl fn)))] : va_W) ++ (sT L13 F13)) := hD
      replace hK : va_K (dC, dI) vwCl [(kI, .int), (kL, .long), (kE, .object RX15), (kI, .int), (kL, .long), (kE, .object RX15)] s := hK
      replace hK := hK.sub (tys' := [(kI, .int), (kL, .long), (kE, .object RX15)]) [0, 1, 2] rfl
      refine W.tight (k := 8 * (pp13 - (pp + 1)) + 3) (n := 120 * (pp13 - (pp + 1)) + 48) hgz.1 hgz.2 ?_
      clear hz1 hk1 hPc hDc hKc hFc hP1 hD1 hK1
      refine lv_iconst (v := 0) hx hb dX23_list_78 (by decide) ?_
      replace hPc := hP.subT (f' := [(ee, .inr (15, [.int 6, .int tx, .int gx, .int nx, .int 0, .int 0, .long 0, .int 0, .null, .null, .null, .int 0, .null, .null]))]) [0] rfl
      replace hDc := hD.subT (f' := [(ee, .inr (15, [.int 6, .int tx, .int gx, .int nx, .int 0, .int 0, .long 0, .int 0, .null, .null, .null, .int 0, .null, .null]))]) [0] (by decide) rfl
      replace hKc := hK.sub (tys' := [(kI, .int), (kE, .object RX15)]) [0, 2] rfl
      replace hFc := va_freeB (wc := [(ee, .inr (15, [.int 6, .int tx, .int gx, .int nx, .int 0, .int 0, .long 0, .int 0, .null, .null, .null, .int 0, .null, .null]))]) hD hS hA [0] rfl
      refine W.grow (fun hgs0 hgs1 => ?_)
      refine va_callv (va_runS (As := [.ref ee, .ref r_14, .int 0]) (rest := []) ⟨hx, hb, hml, hown, hts⟩ (c_xaN l dC dI ee r_14 6 tx gx nx 0 0 0 .null kI kE L13 F13 (slN H) H.size hf14_0.2) (va_cwS 3 hts g_c_xli6_c_xaN_79 rfl rfl rfl (by decide +kernel) ⟨by show 0 + 1 ≤ 2 + 12 * k; omega, by show 8 + (6 + 11) + (0) ≤ 43 + 279 * k; omega⟩) ⟨fun a U g mk q => by obtain ⟨q0, q1, qP, qK, qD, qx0, qx1⟩ := q; exact ⟨q0, q1, qP, va_K.moved (u := U) (U := U.calling g mk a) (Vm.Alike.refl U.vm) qK, qD, nsM.same (u := U) (U := U.calling g mk a) rfl qx0, qx1⟩, fun U hU hW => ⟨rfl, by rw [hU], by rw [hU]; exact hPc, va_K.moved hW.alike hKc, hDc.weaken (fun _ _ _ _ => trivial), nsM.warm hW hns, by rw [hU]⟩⟩ rfl rfl hl.1 rfl (lv_room (Nat.le_of_ble_eq_true rfl)) dX23_list_79 ⟨(show 8 * (pp13 - (pp + 1)) + 3 + 2 ≤ (8 * (T - pp) + 3) by omega), (show 120 * (pp13 - (pp + 1)) + 48 + 8 ≤ (120 * (T - pp) + 280) by omega)⟩) hS (fun q _ h => hFc q h) hFc (fun u tS H1 locs ht hvm hw hB hz1 hk1 hS => ?_)
      obtain ⟨la14, sa14, cp14, f14, g14, hf15_0, hf15_1, hf15_2, hP1, hK1, hD1⟩ := hB
      rw [ht] at hP1
      replace hK1 := va_K.moved hvm.symm hK1
      rw [ht] at hf15_2
      have hgz : H1.size ≤ s.heap.size + ((8 * (pp13 - (pp + 1)) + 3 + 2)) ∧ slN H1 ≤ slN s.heap + ((120 * (pp13 - (pp + 1)) + 48 + 8)) := ⟨by have := hf15_2.1; omega, by have := hf15_2.2; omega⟩
      obtain ⟨hPj, hDj⟩ := va_joinB (wr := [(m9, .inr (23, mA mr mv vf xl (nI zs) ff13 xa13 (nI T) (nI pp13) xi xt xn (nI (ns + 1)) (nI vv) (nI bb13))), (mr 5, .inl (kI, 3002, .inl fk)), (mr 6, .inl (kI, 3002, .inl fa)), (mr 8, .inl (kL, 3002, .inr (.inl fn)))]) (w1 := [(ee, .inr (15, [.int 6, .int tx, .int gx, .int nx, .int 0, .int 0, .long 0, .int 0, .null, .ref la14, .ref sa14, .int 1, .null, .null])), (la14, .inl (kE, cp14, .inr (.inr (.inr (.inr f14))))), (sa14, .inl (kI, cp14, .inl g14))]) hP hD [0] [1, 2, 3, 4] rfl rfl (by decide) (by decide) hk1 hFc hP1 hD1
      replace hP := hPj
      replace hD := hDj
      clear hPj hDj
      replace hK := hK.app hK1
      generalize H1 = H at hP hS hgz ⊢
      replace hP : va_P (dC, dI) vwCl (([(m9, .inr (23, mA mr mv vf xl (nI zs) ff13 xa13 (nI T) (nI pp13) xi xt xn (nI (ns + 1)) (nI vv) (nI bb13))), (mr 5, .inl (kI, 3002, .inl fk)), (mr 6, .inl (kI, 3002, .inl fa)), (mr 8, .inl (kL, 3002, .inr (.inl fn))), (ee, .inr (15, [.int 6, .int tx, .int gx, .int nx, .int 0, .int 0, .long 0, .int 0, .null, .ref la14, .ref sa14, .int 1, .null, .null])), (la14, .inl (kE, cp14, .inr (.inr (.inr (.inr f14))))), (sa14, .inl (kI, cp14, .inl g14))] : va_W) ++ (sT L13 F13)) H := hP
      replace hD : va_D A (([(m9, .inr (23, mA mr mv vf xl (nI zs) ff13 xa13 (nI T) (nI pp13) xi xt xn (nI (ns + 1)) (nI vv) (nI bb13))), (mr 5, .inl (kI, 3002, .inl fk)), (mr 6, .inl (kI, 3002, .inl fa)), (mr 8, .inl (kL, 3002, .inr (.inl fn))), (ee, .inr (15, [.int 6, .int tx, .int gx, .int nx, .int 0, .int 0, .long 0, .int 0, .null, .ref la14, .ref sa14, .int 1, .null, .null])), (la14, .inl (kE, cp14, .inr (.inr (.inr (.inr f14))))), (sa14, .inl (kI, cp14, .inl g14))] : va_W) ++ (sT L13 F13)) := hD
      replace hK : va_K (dC, dI) vwCl [(kI, .int), (kL, .long), (kE, .object RX15), (kI, .int), (kE, .object RX15)] s := hK
      replace hK := hK.sub (tys' := [(kI, .int), (kL, .long), (kE, .object RX15)]) [0, 1, 2] rfl
      refine W.tight (k := (8 * (pp13 - (pp + 1)) + 3 + 2)) (n := (120 * (pp13 - (pp + 1)) + 48 + 8)) hgz.1 hgz.2 ?_
      clear hz1 hk1 hPc hDc hKc hFc hP1 hD1 hK1
      subst hf15_0
      refine lv_aload_n hx hb dX23_list_82 rfl (lv_at hl 1 rfl) ?_
      refine lv_bipush (v := 57) hx hb dX23_list_83 (by decide) ?_
      by_cases hz_16 : ff13 = 0
      · subst hz_16
        have hg13 := hf14_2 rfl
        have hlthg13 := (isE_mem hg13.2).2
        by_cases hk_17 : fk pp13 = 57
        · replace hPc := hP.subF (f' := [(m9, .inr (23, mA mr mv vf xl (nI zs) 0 xa13 (nI T) (nI pp13) xi xt xn (nI (ns + 1)) (nI vv) (nI bb13))), (mr 5, .inl (kI, 3002, .inl fk))]) [0, 1] rfl
          replace hDc := hD.subF (f' := [(m9, .inr (23, mA mr mv vf xl (nI zs) 0 xa13 (nI T) (nI pp13) xi xt xn (nI (ns + 1)) (nI vv) (nI bb13))), (mr 5, .inl (kI, 3002, .inl fk))]) [0, 1] (by decide) rfl
          replace hKc := hK.sub (tys' := [(kI, .int)]) [0] rfl
          replace hFc := va_freeT (wc := [(m9, .inr (23, mA mr mv vf xl (nI zs) 0 xa13 (nI T) (nI pp13) xi xt xn (nI (ns + 1)) (nI vv) (nI bb13))), (mr 5, .inl (kI, 3002, .inl fk))]) hD hS hA [0, 1] rfl
          refine va_calli (va_runV (As := [.int 57]) (rest := []) ⟨hx, hb, hml, hown, hts⟩ (c_rtsY l dC dI m9 mr mv vf xl xa13 xi xt xn zs T pp13 (ns + 1) vv bb13 kI fk fa 57 H.size hT hf14_1.2.1 hk0 (by decide) hk_17) (cwV 1 hts g_c_xli6_c_rtsY_85 rfl rfl rfl (by decide +kernel) ⟨by show 1 + 1 ≤ 2 + 12 * k; omega, by show 8 + (2 + 11) + (21) ≤ 43 + 279 * k; omega⟩) ⟨fun a U g mk q => by obtain ⟨q0, q1, qP, qK, qD⟩ := q; exact ⟨q0, q1, qP, va_K.moved (u := U) (U := U.calling g mk a) (Vm.Alike.refl U.vm) qK, qD⟩, va_recv hKc hPc (ci := 23) (q0 := 0) rfl rfl, fun U hU hW => ⟨rfl, by rw [hU], by rw [hU]; exact hPc, va_K.moved hW.alike hKc, hDc.weaken (fun _ _ _ _ => trivial)⟩⟩ rfl rfl hl.1 rfl (lv_room (Nat.le_of_ble_eq_true rfl)) dX23_list_85 ⟨(show (8 * (pp13 - (pp + 1)) + 3 + 2) + 0 ≤ (8 * (T - pp) + 3) by omega), (show (120 * (pp13 - (pp + 1)) + 48 + 8) + 0 ≤ (120 * (T - pp) + 280) by omega)⟩) hS (fun q _ h => hFc q h) hFc (fun r_18 u tS H1 locs ht hvm hw hB hz1 hk1 hS => ?_)
          obtain ⟨hP1, hK1, hD1⟩ := hB
          rw [ht] at hP1
          replace hK1 := va_K.moved hvm.symm hK1
          obtain ⟨hPj, hDj⟩ := va_joinT (wr := [(mr 6, .inl (kI, 3002, .inl fa)), (mr 8, .inl (kL, 3002, .inr (.inl fn))), (ee, .inr (15, [.int 6, .int tx, .int gx, .int nx, .int 0, .int 0, .long 0, .int 0, .null, .ref la14, .ref sa14, .int 1, .null, .null])), (la14, .inl (kE, 4, .inr (.inr (.inr (.inr f14))))), (sa14, .inl (kI, 4, .inl g14))]) (w1 := [(m9, .inr (23, mA mr mv vf xl (nI zs) 0 xa13 (nI T) (nI (pp13 + 1)) xi xt xn (nI (ns + 1)) (nI vv) (nI bb13))), (mr 5, .inl (kI, 3002, .inl fk))]) hP hD [0, 1] [2, 3, 4, 5, 6] rfl rfl (by decide) (by decide) hk1 hFc hP1 hD1
          replace hP := hPj
          replace hD := hDj
          clear hPj hDj
          replace hK := hK.app hK1
          generalize H1 = H at hP hS ⊢
          replace hP : va_P (dC, dI) vwCl (([(mr 6, .inl (kI, 3002, .inl fa)), (mr 8, .inl (kL, 3002, .inr (.inl fn))), (ee, .inr (15, [.int 6, .int tx, .int gx, .int nx, .int 0, .int 0, .long 0, .int 0, .null, .ref la14, .ref sa14, .int 1, .null, .null])), (la14, .inl (kE, 4, .inr (.inr (.inr (.inr f14))))), (sa14, .inl (kI, 4, .inl g14)), (m9, .inr (23, mA mr mv vf xl (nI zs) 0 xa13 (nI T) (nI (pp13 + 1)) xi xt xn (nI (ns + 1)) (nI vv) (nI bb13))), (mr 5, .inl (kI, 3002, .inl fk))] : va_W) ++ (sT L13 F13)) H := hP
          replace hD : va_D A (([(mr 6, .inl (kI, 3002, .inl fa)), (mr 8, .inl (kL, 3002, .inr (.inl fn))), (ee, .inr (15, [.int 6, .int tx, .int gx, .int nx, .int 0, .int 0, .long 0, .int 0, .null, .ref la14, .ref sa14, .int 1, .null, .null])), (la14, .inl (kE, 4, .inr (.inr (.inr (.inr f14))))), (sa14, .inl (kI, 4, .inl g14)), (m9, .inr (23, mA mr mv vf xl (nI zs) 0 xa13 (nI T) (nI (pp13 + 1)) xi xt xn (nI (ns + 1)) (nI vv) (nI bb13))), (mr 5, .inl (kI, 3002, .inl fk))] : va_W) ++ (sT L13 F13)) := hD
          replace hK : va_K (dC, dI) vwCl [(kI, .int), (kL, .long), (kE, .object RX15), (kI, .int)] s := hK
          replace hK := hK.sub (tys' := [(kI, .int), (kL, .long), (kE, .object RX15)]) [0, 1, 2] rfl
          clear hz1 hk1 hPc hDc hKc hFc hP1 hD1 hK1
          obtain rfl : r_18 = 1 := hw
          have hp_19 : pp13 + 1 < T := kne3 hk0 hf14_1.2.1 hk_17 (by decide)
          refine lv_istore_n (lv' := [(2, .int 1), (0, .ref m9), (1, .ref ee)]) hx hb dX23_list_88 rfl hl (by decide) rfl (fun ls hl => ?_)
          refine lv_goto (tgt := 62) hx hb dX23_list_89 (by decide) ?_
          refine W_q (fun Q1 hQ1 => ?_)
          have key1 : ∀ (n1 : Nat) (pp1 bb1 la sa cp n cm : Nat) (ff1 xa1 mo : Int32) (L1 : List Nat) (F1 : Nat → va_E) (f : Nat → Option Nat) (g : Nat → Int32) (H : Heap) (locs : List Loc) (ls : Array Slot), (1 ≤ n1 ∧ pp ≤ pp1 ∧ pp1 < T ∧ bb ≤ bb1 ∧ bb1 ≤ bb + (pp1 - pp) ∧ 1 ≤ n ∧ n ≤ cp ∧ 4 ≤ cp ∧ cp ≤ 4 + 2 * n ∧ pp + n + cm ≤ pp1 ∧ cm ≤ 1 ∧ T ≤ 3001) → (ff1 ≠ 0 ∨ T + 1 ≤ pp1 + n1) → (exS L F L1 F1) → (∀ i : Nat, i < n → ∃ x : Nat, f i = some x ∧ xO L1 F1 x) → (ff1 = 0 → bb1 ≤ 54 ∧ ∃ q0 : Nat, chP 0 (isE L1 F1 kE kI (24 * k)) f g n pp q0 bb bb1 ∧ ((mo = 0 ∧ cm = 0 ∧ q0 ≤ pp1) ∨ (mo ≠ 0 ∧ cm = 1 ∧ q0 < pp1))) → va_P (dC, dI) vwCl (([(ee, .inr (15, [.int 6, .int tx, .int gx, .int nx, .int 0, .int 0, .long 0, .int 0, .null, .ref la, .ref sa, .int (nI n), .null, .null])), (la, .inl (kE, cp, .inr (.inr (.inr (.inr f))))), (sa, .inl (kI, cp, .inl g)), (m9, .inr (23, mA mr mv vf xl (nI zs) ff1 xa1 (nI T) (nI pp1) xi xt xn (nI (ns + 1)) (nI vv) (nI bb1))), (mr 5, .inl (kI, 3002, .inl fk)), (mr 6, .inl (kI, 3002, .inl fa)), (mr 8, .inl (kL, 3002, .inr (.inl fn)))] : va_W) ++ (sT L1 F1)) H → va_D A (([(ee, .inr (15, [.int 6, .int tx, .int gx, .int nx, .int 0, .int 0, .long 0, .int 0, .null, .ref la, .ref sa, .int (nI n), .null, .null])), (la, .inl (kE, cp, .inr (.inr (.inr (.inr f))))), (sa, .inl (kI, cp, .inl g)), (m9, .inr (23, mA mr mv vf xl (nI zs) ff1 xa1 (nI T) (nI pp1) xi xt xn (nI (ns + 1)) (nI vv) (nI bb1))), (mr 5, .inl (kI, 3002, .inl fk)), (mr 6, .inl (kI, 3002, .inl fa)), (mr 8, .inl (kL, 3002, .inr (.inl fn)))] : va_W) ++ (sT L1 F1)) → va_S A s.heap H locs → lv_has ls 3 [(2, .int mo), (0, .ref m9), (1, .ref ee)] → W p l e (headSpec wp_c_xli6 ({ frames := 2 + 12 * k, cells := (8 * (T - pp) + 3), slots := (120 * (T - pp) + 280), locals := 43 + 279 * k })).room s m ([.ref m9, .ref ee] : List Value).toArray below meth c H locs (8 * (pp1 - pp) - 3 * n - 8 * cm) (120 * (pp1 - pp) + 4 * cp + 8 - 64 * n - 120 * cm) Q1 (F0 m 62 ls []) := by
            intro n1
            induction n1 with
            | zero => intro pp1 bb1 la sa cp n cm ff1 xa1 mo L1 F1 f g H locs ls hr0 hr1 hr2 hr3 hr4; exact absurd hr0 (by omega)
            | succ n1 ih1 =>
              intro pp1 bb1 la sa cp n cm ff1 xa1 mo L1 F1 f g H locs ls hr0 hr1 hr2 hr3 hr4 hP hD hS hl
              refine lv_aload_n hx hb dX23_list_62 rfl (lv_at hl 1 rfl) ?_
              by_cases hz_20 : ff1 = 0
              · subst hz_20
                have hr9 := hr4 rfl
                replace hPc := hP.subF (f' := [(m9, .inr (23, mA mr mv vf xl (nI zs) 0 xa1 (nI T) (nI pp1) xi xt xn (nI (ns + 1)) (nI vv) (nI bb1)))]) [3] rfl
                replace hDc := hD.subF (f' := [(m9, .inr (23, mA mr mv vf xl (nI zs) 0 xa1 (nI T) (nI pp1) xi xt xn (nI (ns + 1)) (nI vv) (nI bb1)))]) [3] (by decide) rfl
                replace hKc := hK.sub (tys' := []) [] rfl
                replace hFc := va_freeT (wc := [(m9, .inr (23, mA mr mv vf xl (nI zs) 0 xa1 (nI T) (nI pp1) xi xt xn (nI (ns + 1)) (nI vv) (nI bb1)))]) hD hS hA [3] rfl
                refine va_calli (va_runV (As := []) (rest := []) ⟨hx, hb, hml, hown, hts⟩ (c_rok0 l dC dI m9 mr mv vf xl xa1 xi xt xn zs T pp1 (ns + 1) vv bb1 kI fk fa H.size) (cwV 0 hts g_c_xli6_c_rok0_63 rfl rfl rfl (by decide +kernel) ⟨by show 0 + 1 ≤ 2 + 12 * k; omega, by show 8 + (1 + 11) + (0) ≤ 43 + 279 * k; omega⟩) ⟨fun a U g mk q => by obtain ⟨q0, q1, qP, qK, qD⟩ := q; exact ⟨q0, q1, qP, va_K.moved (u := U) (U := U.calling g mk a) (Vm.Alike.refl U.vm) qK, qD⟩, va_recv hKc hPc (ci := 23) (q0 := 0) rfl rfl, fun U hU hW => ⟨rfl, by rw [hU], by rw [hU]; exact hPc, va_K.moved hW.alike hKc, hDc.weaken (fun _ _ _ _ => trivial)⟩⟩ rfl rfl hl.1 rfl (lv_room (Nat.le_of_ble_eq_true rfl)) dX23_list_63 ⟨(show (8 * (pp1 - pp) - 3 * n - 8 * cm) + 0 ≤ (8 * (T - pp) + 3) by omega), (show (120 * (pp1 - pp) + 4 * cp + 8 - 64 * n - 120 * cm) + 0 ≤ (120 * (T - pp) + 280) by omega)⟩) hS (fun q _ h => hFc q h) hFc (fun r_21 u tS H1 locs ht hvm hw hB hz1 hk1 hS => ?_)
                obtain ⟨hP1, hK1, hD1⟩ := hB
                rw [ht] at hP1
                replace hK1 := va_K.moved hvm.symm hK1
                obtain ⟨hPj, hDj⟩ := va_joinT (wr := [(ee, .inr (15, [.int 6, .int tx, .int gx, .int nx, .int 0, .int 0, .long 0, .int 0, .null, .ref la, .ref sa, .int (nI n), .null, .null])), (la, .inl (kE, cp, .inr (.inr (.inr (.inr f))))), (sa, .inl (kI, cp, .inl g)), (mr 5, .inl (kI, 3002, .inl fk)), (mr 6, .inl (kI, 3002, .inl fa)), (mr 8, .inl (kL, 3002, .inr (.inl fn)))]) (w1 := [(m9, .inr (23, mA mr mv vf xl (nI zs) 0 xa1 (nI T) (nI pp1) xi xt xn (nI (ns + 1)) (nI vv) (nI bb1)))]) hP hD [3] [0, 1, 2, 4, 5, 6] rfl rfl (by decide) (by decide) hk1 hFc hP1 hD1
                replace hP := hPj
                replace hD := hDj
                clear hPj hDj
                generalize H1 = H at hP hS ⊢
                replace hP : va_P (dC, dI) vwCl (([(ee, .inr (15, [.int 6, .int tx, .int gx, .int nx, .int 0, .int 0, .long 0, .int 0, .null, .ref la, .ref sa, .int (nI n), .null, .null])), (la, .inl (kE, cp, .inr (.inr (.inr (.inr f))))), (sa, .inl (kI, cp, .inl g)), (mr 5, .inl (kI, 3002, .inl fk)), (mr 6, .inl (kI, 3002, .inl fa)), (mr 8, .inl (kL, 3002, .inr (.inl fn))), (m9, .inr (23, mA mr mv vf xl (nI zs) 0 xa1 (nI T) (nI pp1) xi xt xn (nI (ns + 1)) (nI vv) (nI bb1)))] : va_W) ++ (sT L1 F1)) H := hP
                replace hD : va_D A (([(ee, .inr (15, [.int 6, .int tx, .int gx, .int nx, .int 0, .int 0, .long 0, .int 0, .null, .ref la, .ref sa, .int (nI n), .null, .null])), (la, .inl (kE, cp, .inr (.inr (.inr (.inr f))))), (sa, .inl (kI, cp, .inl g)), (mr 5, .inl (kI, 3002, .inl fk)), (mr 6, .inl (kI, 3002, .inl fa)), (mr 8, .inl (kL, 3002, .inr (.inl fn))), (m9, .inr (23, mA mr mv vf xl (nI zs) 0 xa1 (nI T) (nI pp1) xi xt xn (nI (ns + 1)) (nI vv) (nI bb1)))] : va_W) ++ (sT L1 F1)) := hD
                replace hK : va_K (dC, dI) vwCl [(kI, .int), (kL, .long), (kE, .object RX15)] s := hK
                clear hz1 hk1 hPc hDc hKc hFc hP1 hD1 hK1
                obtain rfl : r_21 = 1 := hw
                refine lv_if_eq (tgt := 92) hx hb dX23_list_66 (by decide) (fun c_22 => absurd c_22 (by decide)) (fun _ => ?_)
                refine lv_iload_n hx hb dX23_list_69 rfl (lv_at hl 0 rfl) ?_
                refine lv_if_eq (tgt := 92) hx hb dX23_list_70 (by decide) (fun hm_23 => ?_) (fun hm_23 => ?_)
                · obtain ⟨q0, hr5, hr6⟩ := hr9.2
                  replace hr6 : q0 ≤ pp1 := by omega
                  refine lv_aload_n hx hb dX23_list_92 rfl (lv_at hl 1 rfl) ?_
                  refine lv_dup hx hb dX23_list_93 rfl ?_
                  refine va_get (D := (dC, dI)) (ci := 23) (v := .int (nI (ns + 1))) (C := RX23) (T := TX23) (N := 89) hx hb hts in_c_xli6_X23 hown hK hP 6 rfl rfl 15 (by decide) (hts (.fieldLink RX23 104 "OwnedPlacesModel" "nest" "I") (wm_c_xli6 14 rfl)) (fun _ h9 => h9) rfl dX23_list_94 ?_
                  refine lv_iconst (v := 1) hx hb dX23_list_97 (by decide) ?_
                  refine lv_isub hx hb dX23_list_98 ?_
                  refine lv_topi (fun f_24 ef_24 => ?_)
                  obtain rfl : f_24 = nI ns := ef_24.trans (nI_pred _)
                  refine va_put (D := (dC, dI)) (ci := 23) (v := .int (nI ns)) (ty := .int) (C := RX23) (T := TX23) (N := 89) hx hb hts in_c_xli6_X23 tyX23 tyX23_ok nmX23 hown hK hP hD hS 6 rfl rfl 15 (by decide) (hts (.fieldLink RX23 104 "OwnedPlacesModel" "nest" "I") (wm_c_xli6 14 rfl)) (fun _ h9 => h9) rfl (by decide +kernel) rfl rfl (Nat.le_of_ble_eq_true rfl) dX23_list_99 (fun H locs hP hD hS => ?_)
                  replace hP : va_P (dC, dI) vwCl (([(ee, .inr (15, [.int 6, .int tx, .int gx, .int nx, .int 0, .int 0, .long 0, .int 0, .null, .ref la, .ref sa, .int (nI n), .null, .null])), (la, .inl (kE, cp, .inr (.inr (.inr (.inr f))))), (sa, .inl (kI, cp, .inl g)), (mr 5, .inl (kI, 3002, .inl fk)), (mr 6, .inl (kI, 3002, .inl fa)), (mr 8, .inl (kL, 3002, .inr (.inl fn))), (m9, .inr (23, mA mr mv vf xl (nI zs) 0 xa1 (nI T) (nI pp1) xi xt xn (nI ns) (nI vv) (nI bb1)))] : va_W) ++ (sT L1 F1)) H := hP
                  replace hD : va_D A (([(ee, .inr (15, [.int 6, .int tx, .int gx, .int nx, .int 0, .int 0, .long 0, .int 0, .null, .ref la, .ref sa, .int (nI n), .null, .null])), (la, .inl (kE, cp, .inr (.inr (.inr (.inr f))))), (sa, .inl (kI, cp, .inl g)), (mr 5, .inl (kI, 3002, .inl fk)), (mr 6, .inl (kI, 3002, .inl fa)), (mr 8, .inl (kL, 3002, .inr (.inl fn))), (m9, .inr (23, mA mr mv vf xl (nI zs) 0 xa1 (nI T) (nI pp1) xi xt xn (nI ns) (nI vv) (nI bb1)))] : va_W) ++ (sT L1 F1)) := hD
                  refine lv_aload_n hx hb dX23_list_102 rfl (lv_at hl 1 rfl) ?_
                  refine lv_bipush (v := 62) hx hb dX23_list_103 (by decide) ?_
                  by_cases hk_25 : fk pp1 = 62
                  · replace hPc := hP.subF (f' := [(m9, .inr (23, mA mr mv vf xl (nI zs) 0 xa1 (nI T) (nI pp1) xi xt xn (nI ns) (nI vv) (nI bb1))), (mr 5, .inl (kI, 3002, .inl fk)), (mr 6, .inl (kI, 3002, .inl fa))]) [6, 3, 4] rfl
                    replace hDc := hD.subF (f' := [(m9, .inr (23, mA mr mv vf xl (nI zs) 0 xa1 (nI T) (nI pp1) xi xt xn (nI ns) (nI vv) (nI bb1))), (mr 5, .inl (kI, 3002, .inl fk)), (mr 6, .inl (kI, 3002, .inl fa))]) [6, 3, 4] (by decide) rfl
                    replace hKc := hK.sub (tys' := [(kI, .int)]) [0] rfl
                    replace hFc := va_freeT (wc := [(m9, .inr (23, mA mr mv vf xl (nI zs) 0 xa1 (nI T) (nI pp1) xi xt xn (nI ns) (nI vv) (nI bb1))), (mr 5, .inl (kI, 3002, .inl fk)), (mr 6, .inl (kI, 3002, .inl fa))]) hD hS hA [6, 3, 4] rfl
                    refine va_callv (va_runV (As := [.int 62]) (rest := []) ⟨hx, hb, hml, hown, hts⟩ (c_rtkY l dC dI m9 mr mv vf xl xa1 xi xt xn zs T pp1 ns vv bb1 kI fk fa 62 H.size hT hr0.2.2.1 hk0 (by decide) hk_25) (cwV 1 hts g_c_xli6_c_rtkY_105 rfl rfl rfl (by decide +kernel) ⟨by show 1 + 1 ≤ 2 + 12 * k; omega, by show 8 + (2 + 11) + (21) ≤ 43 + 279 * k; omega⟩) ⟨fun a U g mk q => by obtain ⟨q0, q1, qP, qK, qD⟩ := q; exact ⟨q0, q1, qP, va_K.moved (u := U) (U := U.calling g mk a) (Vm.Alike.refl U.vm) qK, qD⟩, va_recv hKc hPc (ci := 23) (q0 := 0) rfl rfl, fun U hU hW => ⟨rfl, by rw [hU], by rw [hU]; exact hPc, va_K.moved hW.alike hKc, hDc.weaken (fun _ _ _ _ => trivial)⟩⟩ rfl rfl hl.1 rfl (lv_room (Nat.le_of_ble_eq_true rfl)) dX23_list_105 ⟨(show (8 * (pp1 - pp) - 3 * n - 8 * cm) + 0 ≤ (8 * (T - pp) + 3) by omega), (show (120 * (pp1 - pp) + 4 * cp + 8 - 64 * n - 120 * cm) + 0 ≤ (120 * (T - pp) + 280) by omega)⟩) hS (fun q _ h => hFc q h) hFc (fun u tS H1 locs ht hvm hw hB hz1 hk1 hS => ?_)
                    obtain ⟨hP1, hK1, hD1⟩ := hB
                    rw [ht] at hP1
                    replace hK1 := va_K.moved hvm.symm hK1
                    obtain ⟨hPj, hDj⟩ := va_joinT (wr := [(ee, .inr (15, [.int 6, .int tx, .int gx, .int nx, .int 0, .int 0, .long 0, .int 0, .null, .ref la, .ref sa, .int (nI n), .null, .null])), (la, .inl (kE, cp, .inr (.inr (.inr (.inr f))))), (sa, .inl (kI, cp, .inl g)), (mr 8, .inl (kL, 3002, .inr (.inl fn)))]) (w1 := [(m9, .inr (23, mA mr mv vf xl (nI zs) 0 xa1 (nI T) (nI (pp1 + 1)) xi xt xn (nI ns) (nI vv) (nI bb1))), (mr 5, .inl (kI, 3002, .inl fk)), (mr 6, .inl (kI, 3002, .inl fa))]) hP hD [6, 3, 4] [0, 1, 2, 5] rfl rfl (by decide) (by decide) hk1 hFc hP1 hD1
                    replace hP := hPj
                    replace hD := hDj
                    clear hPj hDj
                    replace hK := hK.app hK1
                    generalize H1 = H at hP hS ⊢
                    replace hP : va_P (dC, dI) vwCl (([(ee, .inr (15, [.int 6, .int tx, .int gx, .int nx, .int 0, .int 0, .long 0, .int 0, .null, .ref la, .ref sa, .int (nI n), .null, .null])), (la, .inl (kE, cp, .inr (.inr (.inr (.inr f))))), (sa, .inl (kI, cp, .inl g)), (mr 8, .inl (kL, 3002, .inr (.inl fn))), (m9, .inr (23, mA mr mv vf xl (nI zs) 0 xa1 (nI T) (nI (pp1 + 1)) xi xt xn (nI ns) (nI vv) (nI bb1))), (mr 5, .inl (kI, 3002, .inl fk)), (mr 6, .inl (kI, 3002, .inl fa))] : va_W) ++ (sT L1 F1)) H := hP
                    replace hD : va_D A (([(ee, .inr (15, [.int 6, .int tx, .int gx, .int nx, .int 0, .int 0, .long 0, .int 0, .null, .ref la, .ref sa, .int (nI n), .null, .null])), (la, .inl (kE, cp, .inr (.inr (.inr (.inr f))))), (sa, .inl (kI, cp, .inl g)), (mr 8, .inl (kL, 3002, .inr (.inl fn))), (m9, .inr (23, mA mr mv vf xl (nI zs) 0 xa1 (nI T) (nI (pp1 + 1)) xi xt xn (nI ns) (nI vv) (nI bb1))), (mr 5, .inl (kI, 3002, .inl fk)), (mr 6, .inl (kI, 3002, .inl fa))] : va_W) ++ (sT L1 F1)) := hD
                    replace hK : va_K (dC, dI) vwCl [(kI, .int), (kL, .long), (kE, .object RX15), (kI, .int)] s := hK
                    replace hK := hK.sub (tys' := [(kI, .int), (kL, .long), (kE, .object RX15)]) [0, 1, 2] rfl
                    clear hz1 hk1 hPc hDc hKc hFc hP1 hD1 hK1
                    have hp_27 : pp1 + 1 < T := kne3 hk0 hr0.2.2.1 hk_25 (by decide)
                    replace hP : va_P (dC, dI) vwCl ((([(ee, .inr (15, [.int 6, .int tx, .int gx, .int nx, .int 0, .int 0, .long 0, .int 0, .null, .ref la, .ref sa, .int (nI n), .null, .null])), (mr 8, .inl (kL, 3002, .inr (.inl fn))), (m9, .inr (23, mA mr mv vf xl (nI zs) 0 xa1 (nI T) (nI (pp1 + 1)) xi xt xn (nI ns) (nI vv) (nI bb1))), (mr 5, .inl (kI, 3002, .inl fk)), (mr 6, .inl (kI, 3002, .inl fa))] : va_W) ++ ([(la, .inl (kE, cp, .inr (.inr (.inr (.inr f))))), (sa, .inl (kI, cp, .inl g))] : va_W)) ++ sT L1 F1) H := hP.subT (f' := [(ee, .inr (15, [.int 6, .int tx, .int gx, .int nx, .int 0, .int 0, .long 0, .int 0, .null, .ref la, .ref sa, .int (nI n), .null, .null])), (mr 8, .inl (kL, 3002, .inr (.inl fn))), (m9, .inr (23, mA mr mv vf xl (nI zs) 0 xa1 (nI T) (nI (pp1 + 1)) xi xt xn (nI ns) (nI vv) (nI bb1))), (mr 5, .inl (kI, 3002, .inl fk)), (mr 6, .inl (kI, 3002, .inl fa)), (la, .inl (kE, cp, .inr (.inr (.inr (.inr f))))), (sa, .inl (kI, cp, .inl g))]) [0, 3, 4, 5, 6, 1, 2] rfl
                    replace hD : va_D A ((([(ee, .inr (15, [.int 6, .int tx, .int gx, .int nx, .int 0, .int 0, .long 0, .int 0, .null, .ref la, .ref sa, .int (nI n), .null, .null])), (mr 8, .inl (kL, 3002, .inr (.inl fn))), (m9, .inr (23, mA mr mv vf xl (nI zs) 0 xa1 (nI T) (nI (pp1 + 1)) xi xt xn (nI ns) (nI vv) (nI bb1))), (mr 5, .inl (kI, 3002, .inl fk)), (mr 6, .inl (kI, 3002, .inl fa))] : va_W) ++ ([(la, .inl (kE, cp, .inr (.inr (.inr (.inr f))))), (sa, .inl (kI, cp, .inl g))] : va_W)) ++ sT L1 F1) := hD.subT (f' := [(ee, .inr (15, [.int 6, .int tx, .int gx, .int nx, .int 0, .int 0, .long 0, .int 0, .null, .ref la, .ref sa, .int (nI n), .null, .null])), (mr 8, .inl (kL, 3002, .inr (.inl fn))), (m9, .inr (23, mA mr mv vf xl (nI zs) 0 xa1 (nI T) (nI (pp1 + 1)) xi xt xn (nI ns) (nI vv) (nI bb1))), (mr 5, .inl (kI, 3002, .inl fk)), (mr 6, .inl (kI, 3002, .inl fa)), (la, .inl (kE, cp, .inr (.inr (.inr (.inr f))))), (sa, .inl (kI, cp, .inl g))]) [0, 3, 4, 5, 6, 1, 2] (by decide) rfl
                    obtain ⟨L9, F9, hx9, hm9, hP, hD⟩ := st_fileL [(la, .inl (kE, cp, .inr (.inr (.inr (.inr f))))), (sa, .inl (kI, cp, .inl g))] hP hD
                    have hm9_0 := hm9 _ (List.mem_of_getElem? (i := 0) rfl)
                    have hm9_1 := hm9 _ (List.mem_of_getElem? (i := 1) rfl)
                    refine W.grow (fun hgs0 hgs1 => ?_)
                    have hP9 := hP.subT (f' := [(ee, .inr (15, [.int 6, .int tx, .int gx, .int nx, .int 0, .int 0, .long 0, .int 0, .null, (.ref la), (.ref sa), .int (nI n), .null, .null])), (m9, .inr (23, mA mr mv vf xl (nI zs) 0 xa1 (nI T) (nI (pp1 + 1)) xi xt xn (nI ns) (nI vv) (nI bb1))), (mr 5, .inl (kI, 3002, .inl fk)), (mr 6, .inl (kI, 3002, .inl fa)), (mr 8, .inl (kL, 3002, .inr (.inl fn)))]) [0, 2, 3, 4, 1] rfl
                    have hD9 := hD.subT (f' := [(ee, .inr (15, [.int 6, .int tx, .int gx, .int nx, .int 0, .int 0, .long 0, .int 0, .null, (.ref la), (.ref sa), .int (nI n), .null, .null])), (m9, .inr (23, mA mr mv vf xl (nI zs) 0 xa1 (nI T) (nI (pp1 + 1)) xi xt xn (nI ns) (nI vv) (nI bb1))), (mr 5, .inl (kI, 3002, .inl fk)), (mr 6, .inl (kI, 3002, .inl fa)), (mr 8, .inl (kL, 3002, .inr (.inl fn)))]) [0, 2, 3, 4, 1] (by decide) rfl
                    have hK9 := hK.sub (tys' := [(kI, .int), (kL, .long), (kE, .object RX15)]) [0, 1, 2] rfl
                    refine W.widen (k := (8 * (T - pp) + 3)) (n := (120 * (T - pp) + 280)) (by omega) (by omega) ?_
                    subst hQ1
                    exact W.vret hx hb hr (fun tS ht hW => ⟨⟨(), rfl, trivial, L9, F9, 0, xa1, pp1 + 1, bb1, .ref la, .ref sa, n, (hr2).tr hx9, ⟨by omega, by omega, by omega, by omega⟩, (fun _ => ⟨hr9.1, by omega, Or.inr ⟨la, sa, cp, q0, f, g, rfl, rfl, hm9_0.1, hm9_1.1, hm9_0.2, hm9_1.2, by omega, by omega, chP_im (fun x p q b c z => isE_im hx9 _ (Nat.le_refl _) z) hr5⟩⟩), by rw [ht]; exact ⟨by omega, by omega⟩, by rw [ht]; exact hP9, va_K.moved hW.alike hK9, hD9⟩, hS.F ht⟩) hS.2.2 dX23_list_108
                  · replace hPc := hP.subF (f' := [(m9, .inr (23, mA mr mv vf xl (nI zs) 0 xa1 (nI T) (nI pp1) xi xt xn (nI ns) (nI vv) (nI bb1))), (mr 5, .inl (kI, 3002, .inl fk)), (mr 6, .inl (kI, 3002, .inl fa))]) [6, 3, 4] rfl
                    replace hDc := hD.subF (f' := [(m9, .inr (23, mA mr mv vf xl (nI zs) 0 xa1 (nI T) (nI pp1) xi xt xn (nI ns) (nI vv) (nI bb1))), (mr 5, .inl (kI, 3002, .inl fk)), (mr 6, .inl (kI, 3002, .inl fa))]) [6, 3, 4] (by decide) rfl
                    replace hKc := hK.sub (tys' := [(kI, .int)]) [0] rfl
                    replace hFc := va_freeT (wc := [(m9, .inr (23, mA mr mv vf xl (nI zs) 0 xa1 (nI T) (nI pp1) xi xt xn (nI ns) (nI vv) (nI bb1))), (mr 5, .inl (kI, 3002, .inl fk)), (mr 6, .inl (kI, 3002, .inl fa))]) hD hS hA [6, 3, 4] rfl
                    refine va_callv (va_runV (As := [.int 62]) (rest := []) ⟨hx, hb, hml, hown, hts⟩ (c_rtkN l dC dI m9 mr mv vf xl xa1 xi xt xn zs T pp1 ns vv bb1 kI fk fa 62 H.size hT hr0.2.2.1 hk0 (by decide) hk_25) (cwV 1 hts g_c_xli6_c_rtkN_105 rfl rfl rfl (by decide +kernel) ⟨by show 1 + 1 ≤ 2 + 12 * k; omega, by show 8 + (2 + 11) + (22) ≤ 43 + 279 * k; omega⟩) ⟨fun a U g mk q => by obtain ⟨q0, q1, qP, qK, qD⟩ := q; exact ⟨q0, q1, qP, va_K.moved (u := U) (U := U.calling g mk a) (Vm.Alike.refl U.vm) qK, qD⟩, va_recv hKc hPc (ci := 23) (q0 := 0) rfl rfl, fun U hU hW => ⟨rfl, by rw [hU], by rw [hU]; exact hPc, va_K.moved hW.alike hKc, hDc.weaken (fun _ _ _ _ => trivial)⟩⟩ rfl rfl hl.1 rfl (lv_room (Nat.le_of_ble_eq_true rfl)) dX23_list_105 ⟨(show (8 * (pp1 - pp) - 3 * n - 8 * cm) + 0 ≤ (8 * (T - pp) + 3) by omega), (show (120 * (pp1 - pp) + 4 * cp + 8 - 64 * n - 120 * cm) + 0 ≤ (120 * (T - pp) + 280) by omega)⟩) hS (fun q _ h => hFc q h) hFc (fun u tS H1 locs ht hvm hw hB hz1 hk1 hS => ?_)
                    obtain ⟨ff_26, xa_27, hf28_0, hP1, hK1, hD1⟩ := hB
                    rw [ht] at hP1
                    replace hK1 := va_K.moved hvm.symm hK1
                    obtain ⟨hPj, hDj⟩ := va_joinT (wr := [(ee, .inr (15, [.int 6, .int tx, .int gx, .int nx, .int 0, .int 0, .long 0, .int 0, .null, .ref la, .ref sa, .int (nI n), .null, .null])), (la, .inl (kE, cp, .inr (.inr (.inr (.inr f))))), (sa, .inl (kI, cp, .inl g)), (mr 8, .inl (kL, 3002, .inr (.inl fn)))]) (w1 := [(m9, .inr (23, mA mr mv vf xl (nI zs) ff_26 xa_27 (nI T) (nI pp1) xi xt xn (nI ns) (nI vv) (nI bb1))), (mr 5, .inl (kI, 3002, .inl fk)), (mr 6, .inl (kI, 3002, .inl fa))]) hP hD [6, 3, 4] [0, 1, 2, 5] rfl rfl (by decide) (by decide) hk1 hFc hP1 hD1
                    replace hP := hPj
                    replace hD := hDj
                    clear hPj hDj
                    replace hK := hK.app hK1
                    generalize H1 = H at hP hS ⊢
                    replace hP : va_P (dC, dI) vwCl (([(ee, .inr (15, [.int 6, .int tx, .int gx, .int nx, .int 0, .int 0, .long 0, .int 0, .null, .ref la, .ref sa, .int (nI n), .null, .null])), (la, .inl (kE, cp, .inr (.inr (.inr (.inr f))))), (sa, .inl (kI, cp, .inl g)), (mr 8, .inl (kL, 3002, .inr (.inl fn))), (m9, .inr (23, mA mr mv vf xl (nI zs) ff_26 xa_27 (nI T) (nI pp1) xi xt xn (nI ns) (nI vv) (nI bb1))), (mr 5, .inl (kI, 3002, .inl fk)), (mr 6, .inl (kI, 3002, .inl fa))] : va_W) ++ (sT L1 F1)) H := hP
                    replace hD : va_D A (([(ee, .inr (15, [.int 6, .int tx, .int gx, .int nx, .int 0, .int 0, .long 0, .int 0, .null, .ref la, .ref sa, .int (nI n), .null, .null])), (la, .inl (kE, cp, .inr (.inr (.inr (.inr f))))), (sa, .inl (kI, cp, .inl g)), (mr 8, .inl (kL, 3002, .inr (.inl fn))), (m9, .inr (23, mA mr mv vf xl (nI zs) ff_26 xa_27 (nI T) (nI pp1) xi xt xn (nI ns) (nI vv) (nI bb1))), (mr 5, .inl (kI, 3002, .inl fk)), (mr 6, .inl (kI, 3002, .inl fa))] : va_W) ++ (sT L1 F1)) := hD
                    replace hK : va_K (dC, dI) vwCl [(kI, .int), (kL, .long), (kE, .object RX15), (kI, .int)] s := hK
                    replace hK := hK.sub (tys' := [(kI, .int), (kL, .long), (kE, .object RX15)]) [0, 1, 2] rfl
                    clear hz1 hk1 hPc hDc hKc hFc hP1 hD1 hK1
                    replace hP : va_P (dC, dI) vwCl ((([(ee, .inr (15, [.int 6, .int tx, .int gx, .int nx, .int 0, .int 0, .long 0, .int 0, .null, .ref la, .ref sa, .int (nI n), .null, .null])), (mr 8, .inl (kL, 3002, .inr (.inl fn))), (m9, .inr (23, mA mr mv vf xl (nI zs) ff_26 xa_27 (nI T) (nI pp1) xi xt xn (nI ns) (nI vv) (nI bb1))), (mr 5, .inl (kI, 3002, .inl fk)), (mr 6, .inl (kI, 3002, .inl fa))] : va_W) ++ ([(la, .inl (kE, cp, .inr (.inr (.inr (.inr f))))), (sa, .inl (kI, cp, .inl g))] : va_W)) ++ sT L1 F1) H := hP.subT (f' := [(ee, .inr (15, [.int 6, .int tx, .int gx, .int nx, .int 0, .int 0, .long 0, .int 0, .null, .ref la, .ref sa, .int (nI n), .null, .null])), (mr 8, .inl (kL, 3002, .inr (.inl fn))), (m9, .inr (23, mA mr mv vf xl (nI zs) ff_26 xa_27 (nI T) (nI pp1) xi xt xn (nI ns) (nI vv) (nI bb1))), (mr 5, .inl (kI, 3002, .inl fk)), (mr 6, .inl (kI, 3002, .inl fa)), (la, .inl (kE, cp, .inr (.inr (.inr (.inr f))))), (sa, .inl (kI, cp, .inl g))]) [0, 3, 4, 5, 6, 1, 2] rfl
                    replace hD : va_D A ((([(ee, .inr (15, [.int 6, .int tx, .int gx, .int nx, .int 0, .int 0, .long 0, .int 0, .null, .ref la, .ref sa, .int (nI n), .null, .null])), (mr 8, .inl (kL, 3002, .inr (.inl fn))), (m9, .inr (23, mA mr mv vf xl (nI zs) ff_26 xa_27 (nI T) (nI pp1) xi xt xn (nI ns) (nI vv) (nI bb1))), (mr 5, .inl (kI, 3002, .inl fk)), (mr 6, .inl (kI, 3002, .inl fa))] : va_W) ++ ([(la, .inl (kE, cp, .inr (.inr (.inr (.inr f))))), (sa, .inl (kI, cp, .inl g))] : va_W)) ++ sT L1 F1) := hD.subT (f' := [(ee, .inr (15, [.int 6, .int tx, .int gx, .int nx, .int 0, .int 0, .long 0, .int 0, .null, .ref la, .ref sa, .int (nI n), .null, .null])), (mr 8, .inl (kL, 3002, .inr (.inl fn))), (m9, .inr (23, mA mr mv vf xl (nI zs) ff_26 xa_27 (nI T) (nI pp1) xi xt xn (nI ns) (nI vv) (nI bb1))), (mr 5, .inl (kI, 3002, .inl fk)), (mr 6, .inl (kI, 3002, .inl fa)), (la, .inl (kE, cp, .inr (.inr (.inr (.inr f))))), (sa, .inl (kI, cp, .inl g))]) [0, 3, 4, 5, 6, 1, 2] (by decide) rfl
                    obtain ⟨L9, F9, hx9, hm9, hP, hD⟩ := st_fileL [(la, .inl (kE, cp, .inr (.inr (.inr (.inr f))))), (sa, .inl (kI, cp, .inl g))] hP hD
                    have hm9_0 := hm9 _ (List.mem_of_getElem? (i := 0) rfl)
                    have hm9_1 := hm9 _ (List.mem_of_getElem? (i := 1) rfl)
                    refine W.grow (fun hgs0 hgs1 => ?_)
                    have hP9 := hP.subT (f' := [(ee, .inr (15, [.int 6, .int tx, .int gx, .int nx, .int 0, .int 0, .long 0, .int 0, .null, (.ref la), (.ref sa), .int (nI n), .null, .null])), (m9, .inr (23, mA mr mv vf xl (nI zs) ff_26 xa_27 (nI T) (nI pp1) xi xt xn (nI ns) (nI vv) (nI bb1))), (mr 5, .inl (kI, 3002, .inl fk)), (mr 6, .inl (kI, 3002, .inl fa)), (mr 8, .inl (kL, 3002, .inr (.inl fn)))]) [0, 2, 3, 4, 1] rfl
                    have hD9 := hD.subT (f' := [(ee, .inr (15, [.int 6, .int tx, .int gx, .int nx, .int 0, .int 0, .long 0, .int 0, .null, (.ref la), (.ref sa), .int (nI n), .null, .null])), (m9, .inr (23, mA mr mv vf xl (nI zs) ff_26 xa_27 (nI T) (nI pp1) xi xt xn (nI ns) (nI vv) (nI bb1))), (mr 5, .inl (kI, 3002, .inl fk)), (mr 6, .inl (kI, 3002, .inl fa)), (mr 8, .inl (kL, 3002, .inr (.inl fn)))]) [0, 2, 3, 4, 1] (by decide) rfl
                    have hK9 := hK.sub (tys' := [(kI, .int), (kL, .long), (kE, .object RX15)]) [0, 1, 2] rfl
                    refine W.widen (k := (8 * (T - pp) + 3)) (n := (120 * (T - pp) + 280)) (by omega) (by omega) ?_
                    subst hQ1
                    exact W.vret hx hb hr (fun tS ht hW => ⟨⟨(), rfl, trivial, L9, F9, ff_26, xa_27, pp1, bb1, .ref la, .ref sa, n, (hr2).tr hx9, ⟨by omega, by omega, by omega, by omega⟩, (fun q9 => absurd q9 hf28_0), by rw [ht]; exact ⟨by omega, by omega⟩, by rw [ht]; exact hP9, va_K.moved hW.alike hK9, hD9⟩, hS.F ht⟩) hS.2.2 dX23_list_108
                · obtain ⟨q0, hr5, hr6⟩ := hr9.2
                  have hcm : cm = 1 := (hr6.resolve_left (fun z => hm_23 z.1)).2.1
                  replace hr6 : q0 < pp1 := (hr6.resolve_left (fun z => hm_23 z.1)).2.2
                  replace hr1 := hr1.resolve_left (fun q => q rfl)
                  refine lv_aload_n hx hb dX23_list_73 rfl (lv_at hl 2 rfl) ?_
                  refine lv_aload_n hx hb dX23_list_74 rfl (lv_at hl 1 rfl) ?_
                  obtain ⟨k1, hkL⟩ : ∃ k1 : Nat, k = k1 + 1 := ⟨k - 1, by omega⟩
                  replace hPc := hP.subT (f' := [(m9, .inr (23, mA mr mv vf xl (nI zs) 0 xa1 (nI T) (nI pp1) xi xt xn (nI (ns + 1)) (nI vv) (nI bb1))), (mr 5, .inl (kI, 3002, .inl fk)), (mr 6, .inl (kI, 3002, .inl fa)), (mr 8, .inl (kL, 3002, .inr (.inl fn)))]) [6, 3, 4, 5] rfl
                  replace hDc := hD.subT (f' := [(m9, .inr (23, mA mr mv vf xl (nI zs) 0 xa1 (nI T) (nI pp1) xi xt xn (nI (ns + 1)) (nI vv) (nI bb1))), (mr 5, .inl (kI, 3002, .inl fk)), (mr 6, .inl (kI, 3002, .inl fa)), (mr 8, .inl (kL, 3002, .inr (.inl fn)))]) [6, 3, 4, 5] (by decide) rfl
                  replace hKc := hK.sub (tys' := [(kI, .int), (kL, .long), (kE, .object RX15)]) [0, 1, 2] rfl
                  replace hFc := va_freeB (wc := [(m9, .inr (23, mA mr mv vf xl (nI zs) 0 xa1 (nI T) (nI pp1) xi xt xn (nI (ns + 1)) (nI vv) (nI bb1))), (mr 5, .inl (kI, 3002, .inl fk)), (mr 6, .inl (kI, 3002, .inl fa)), (mr 8, .inl (kL, 3002, .inr (.inl fn)))]) hD hS hA [6, 3, 4, 5] rfl
                  refine W.grow (fun hgs0 hgs1 => ?_)
                  refine va_callr (va_runV (As := []) (rest := [.ref ee]) ⟨hx, hb, hml, hown, hts⟩ ((ih k1 hkL).2.2.2.2.2.2 m9 mr mv vf xl xa1 xi xt xn zs T pp1 (ns + 1) vv bb1 kI fk fa kL kE fn L1 F1 (slN H) H.size hT hr0.2.2.1 hk0 hr9.1 (by omega)) (cwV 0 hts g_c_xli6_c_xex_75 rfl rfl rfl (by decide +kernel) ⟨by show 13 + 12 * k1 + 1 ≤ 2 + 12 * k; omega, by show 8 + (1 + 11) + (302 + 279 * k1) ≤ 43 + 279 * k; omega⟩) ⟨fun a U g mk q => by obtain ⟨q0, q1, qP, qK, qD, qx0, qx1⟩ := q; exact ⟨q0, q1, qP, va_K.moved (u := U) (U := U.calling g mk a) (Vm.Alike.refl U.vm) qK, qD, nsM.same (u := U) (U := U.calling g mk a) rfl qx0, qx1⟩, va_recv hKc hPc (ci := 23) (q0 := 0) rfl rfl, fun U hU hW => ⟨rfl, by rw [hU], by rw [hU]; exact hPc, va_K.moved hW.alike hKc, hDc.weaken (fun _ _ _ _ => trivial), nsM.warm hW hns, by rw [hU]⟩⟩ rfl rfl hl.1 rfl (lv_room (Nat.le_of_ble_eq_true rfl)) dX23_list_75 ⟨(show (8 * (pp1 - pp) - 3 * n - 8 * cm) + (8 * (T - pp1) + 8) ≤ (8 * (T - pp) + 3) by omega), (show (120 * (pp1 - pp) + 4 * cp + 8 - 64 * n - 120 * cm) + (120 * (T - pp1) + 360) ≤ (120 * (T - pp) + 280) by omega)⟩) hS (fun q _ h => hFc q h) hFc (fun u r_24 tS H1 locs ht hvm hw hB hz1 hk1 hS => ?_)
                  obtain ⟨L23, F23, ff23, xa23, pp23, bb23, hf24_0, hf24_1, hf24_2, hf24_3, hP1, hK1, hD1⟩ := hB
                  rw [ht] at hP1
                  replace hK1 := va_K.moved hvm.symm hK1
                  rw [ht] at hf24_3
                  have hgz : H1.size ≤ s.heap.size + (((8 * (pp1 - pp) - 3 * n - 8 * cm) + 8 * (pp23 - pp1) + 3)) ∧ slN H1 ≤ slN s.heap + (((120 * (pp1 - pp) + 4 * cp + 8 - 64 * n - 120 * cm) + 120 * (pp23 - pp1) + 48)) := ⟨by have := hf24_3.1; omega, by have := hf24_3.2; omega⟩
                  obtain ⟨hPj, hDj⟩ := va_joinB (wr := [(ee, .inr (15, [.int 6, .int tx, .int gx, .int nx, .int 0, .int 0, .long 0, .int 0, .null, .ref la, .ref sa, .int (nI n), .null, .null])), (la, .inl (kE, cp, .inr (.inr (.inr (.inr f))))), (sa, .inl (kI, cp, .inl g))]) (w1 := [(m9, .inr (23, mA mr mv vf xl (nI zs) ff23 xa23 (nI T) (nI pp23) xi xt xn (nI (ns + 1)) (nI vv) (nI bb23))), (mr 5, .inl (kI, 3002, .inl fk)), (mr 6, .inl (kI, 3002, .inl fa)), (mr 8, .inl (kL, 3002, .inr (.inl fn)))]) hP hD [6, 3, 4, 5] [0, 1, 2] rfl rfl (by decide) (by decide) hk1 hFc hP1 hD1
                  replace hP := hPj
                  replace hD := hDj
                  clear hPj hDj
                  replace hK := hK.app hK1
                  generalize H1 = H at hP hS hgz ⊢
                  replace hP : va_P (dC, dI) vwCl (([(ee, .inr (15, [.int 6, .int tx, .int gx, .int nx, .int 0, .int 0, .long 0, .int 0, .null, .ref la, .ref sa, .int (nI n), .null, .null])), (la, .inl (kE, cp, .inr (.inr (.inr (.inr f))))), (sa, .inl (kI, cp, .inl g)), (m9, .inr (23, mA mr mv vf xl (nI zs) ff23 xa23 (nI T) (nI pp23) xi xt xn (nI (ns + 1)) (nI vv) (nI bb23))), (mr 5, .inl (kI, 3002, .inl fk)), (mr 6, .inl (kI, 3002, .inl fa)), (mr 8, .inl (kL, 3002, .inr (.inl fn)))] : va_W) ++ (sT L23 F23)) H := hP
                  replace hD : va_D A (([(ee, .inr (15, [.int 6, .int tx, .int gx, .int nx, .int 0, .int 0, .long 0, .int 0, .null, .ref la, .ref sa, .int (nI n), .null, .null])), (la, .inl (kE, cp, .inr (.inr (.inr (.inr f))))), (sa, .inl (kI, cp, .inl g)), (m9, .inr (23, mA mr mv vf xl (nI zs) ff23 xa23 (nI T) (nI pp23) xi xt xn (nI (ns + 1)) (nI vv) (nI bb23))), (mr 5, .inl (kI, 3002, .inl fk)), (mr 6, .inl (kI, 3002, .inl fa)), (mr 8, .inl (kL, 3002, .inr (.inl fn)))] : va_W) ++ (sT L23 F23)) := hD
                  replace hK : va_K (dC, dI) vwCl [(kI, .int), (kL, .long), (kE, .object RX15), (kI, .int), (kL, .long), (kE, .object RX15)] s := hK
                  replace hK := hK.sub (tys' := [(kI, .int), (kL, .long), (kE, .object RX15)]) [0, 1, 2] rfl
                  refine W.tight (k := ((8 * (pp1 - pp) - 3 * n - 8 * cm) + 8 * (pp23 - pp1) + 3)) (n := ((120 * (pp1 - pp) + 4 * cp + 8 - 64 * n - 120 * cm) + 120 * (pp23 - pp1) + 48)) hgz.1 hgz.2 ?_
                  clear hz1 hk1 hPc hDc hKc hFc hP1 hD1 hK1
                  refine lv_iconst (v := 0) hx hb dX23_list_78 (by decide) ?_
                  replace hPc := hP.subT (f' := [(ee, .inr (15, [.int 6, .int tx, .int gx, .int nx, .int 0, .int 0, .long 0, .int 0, .null, .ref la, .ref sa, .int (nI n), .null, .null])), (la, .inl (kE, cp, .inr (.inr (.inr (.inr f))))), (sa, .inl (kI, cp, .inl g))]) [0, 1, 2] rfl
                  replace hDc := hD.subT (f' := [(ee, .inr (15, [.int 6, .int tx, .int gx, .int nx, .int 0, .int 0, .long 0, .int 0, .null, .ref la, .ref sa, .int (nI n), .null, .null])), (la, .inl (kE, cp, .inr (.inr (.inr (.inr f))))), (sa, .inl (kI, cp, .inl g))]) [0, 1, 2] (by decide) rfl
                  replace hKc := hK.sub (tys' := [(kI, .int), (kE, .object RX15)]) [0, 2] rfl
                  replace hFc := va_freeB (wc := [(ee, .inr (15, [.int 6, .int tx, .int gx, .int nx, .int 0, .int 0, .long 0, .int 0, .null, .ref la, .ref sa, .int (nI n), .null, .null])), (la, .inl (kE, cp, .inr (.inr (.inr (.inr f))))), (sa, .inl (kI, cp, .inl g))]) hD hS hA [0, 1, 2] rfl
                  refine W.grow (fun hgs0 hgs1 => ?_)
                  refine va_callv (va_runS (As := [.ref ee, .ref r_24, .int 0]) (rest := []) ⟨hx, hb, hml, hown, hts⟩ (c_xaA l dC dI ee r_24 6 tx gx nx 0 0 0 .null kI kE la sa n cp f g L23 F23 (slN H) H.size hf24_0.2 (by omega) (fun i hi => by obtain ⟨x9, y9, z9⟩ := hr3 i hi; exact ⟨x9, y9, xO_ex hf24_0.1 z9⟩)) (va_cwS 3 hts g_c_xli6_c_xaA_79 rfl rfl rfl (by decide +kernel) ⟨by show 0 + 1 ≤ 2 + 12 * k; omega, by show 8 + (6 + 11) + (0) ≤ 43 + 279 * k; omega⟩) ⟨fun a U g mk q => by obtain ⟨q0, q1, qP, qK, qD, qx0, qx1⟩ := q; exact ⟨q0, q1, qP, va_K.moved (u := U) (U := U.calling g mk a) (Vm.Alike.refl U.vm) qK, qD, nsM.same (u := U) (U := U.calling g mk a) rfl qx0, qx1⟩, fun U hU hW => ⟨rfl, by rw [hU], by rw [hU]; exact hPc, va_K.moved hW.alike hKc, hDc.weaken (fun _ _ _ _ => trivial), nsM.warm hW hns, by rw [hU]⟩⟩ rfl rfl hl.1 rfl (lv_room (Nat.le_of_ble_eq_true rfl)) dX23_list_79 ⟨(show ((8 * (pp1 - pp) - 3 * n - 8 * cm) + 8 * (pp23 - pp1) + 3) + 2 ≤ (8 * (T - pp) + 3) by omega), (show ((120 * (pp1 - pp) + 4 * cp + 8 - 64 * n - 120 * cm) + 120 * (pp23 - pp1) + 48) + (4 * cp) ≤ (120 * (T - pp) + 280) by omega)⟩) hS (fun q _ h => hFc q h) hFc (fun u tS H1 locs ht hvm hw hB hz1 hk1 hS => ?_)
                  obtain ⟨la24, sa24, cp24, f24, g24, hf25_0, hf25_1, hf25_2, hf25_3, hf25_4, hP1, hK1, hD1⟩ := hB
                  rw [ht] at hP1
                  replace hK1 := va_K.moved hvm.symm hK1
                  rw [ht] at hf25_4
                  have hgz : H1.size ≤ s.heap.size + ((((8 * (pp1 - pp) - 3 * n - 8 * cm) + 8 * (pp23 - pp1) + 3) + 2)) ∧ slN H1 ≤ slN s.heap + ((((120 * (pp1 - pp) + 4 * cp + 8 - 64 * n - 120 * cm) + 120 * (pp23 - pp1) + 48) + 4 * (cp24 - cp))) := ⟨by have := hf25_4.1; omega, by have := hf25_4.2; omega⟩
                  obtain ⟨hPj, hDj⟩ := va_joinB (wr := [(m9, .inr (23, mA mr mv vf xl (nI zs) ff23 xa23 (nI T) (nI pp23) xi xt xn (nI (ns + 1)) (nI vv) (nI bb23))), (mr 5, .inl (kI, 3002, .inl fk)), (mr 6, .inl (kI, 3002, .inl fa)), (mr 8, .inl (kL, 3002, .inr (.inl fn)))]) (w1 := [(ee, .inr (15, [.int 6, .int tx, .int gx, .int nx, .int 0, .int 0, .long 0, .int 0, .null, .ref la24, .ref sa24, .int (nI (n + 1)), .null, .null])), (la24, .inl (kE, cp24, .inr (.inr (.inr (.inr f24))))), (sa24, .inl (kI, cp24, .inl g24))]) hP hD [0, 1, 2] [3, 4, 5, 6] rfl rfl (by decide) (by decide) hk1 hFc hP1 hD1
                  replace hP := hPj
                  replace hD := hDj
                  clear hPj hDj
                  replace hK := hK.app hK1
                  generalize H1 = H at hP hS hgz ⊢
                  replace hP : va_P (dC, dI) vwCl (([(m9, .inr (23, mA mr mv vf xl (nI zs) ff23 xa23 (nI T) (nI pp23) xi xt xn (nI (ns + 1)) (nI vv) (nI bb23))), (mr 5, .inl (kI, 3002, .inl fk)), (mr 6, .inl (kI, 3002, .inl fa)), (mr 8, .inl (kL, 3002, .inr (.inl fn))), (ee, .inr (15, [.int 6, .int tx, .int gx, .int nx, .int 0, .int 0, .long 0, .int 0, .null, .ref la24, .ref sa24, .int (nI (n + 1)), .null, .null])), (la24, .inl (kE, cp24, .inr (.inr (.inr (.inr f24))))), (sa24, .inl (kI, cp24, .inl g24))] : va_W) ++ (sT L23 F23)) H := hP
                  replace hD : va_D A (([(m9, .inr (23, mA mr mv vf xl (nI zs) ff23 xa23 (nI T) (nI pp23) xi xt xn (nI (ns + 1)) (nI vv) (nI bb23))), (mr 5, .inl (kI, 3002, .inl fk)), (mr 6, .inl (kI, 3002, .inl fa)), (mr 8, .inl (kL, 3002, .inr (.inl fn))), (ee, .inr (15, [.int 6, .int tx, .int gx, .int nx, .int 0, .int 0, .long 0, .int 0, .null, .ref la24, .ref sa24, .int (nI (n + 1)), .null, .null])), (la24, .inl (kE, cp24, .inr (.inr (.inr (.inr f24))))), (sa24, .inl (kI, cp24, .inl g24))] : va_W) ++ (sT L23 F23)) := hD
                  replace hK : va_K (dC, dI) vwCl [(kI, .int), (kL, .long), (kE, .object RX15), (kI, .int), (kE, .object RX15)] s := hK
                  replace hK := hK.sub (tys' := [(kI, .int), (kL, .long), (kE, .object RX15)]) [0, 1, 2] rfl
                  refine W.tight (k := (((8 * (pp1 - pp) - 3 * n - 8 * cm) + 8 * (pp23 - pp1) + 3) + 2)) (n := (((120 * (pp1 - pp) + 4 * cp + 8 - 64 * n - 120 * cm) + 120 * (pp23 - pp1) + 48) + 4 * (cp24 - cp))) hgz.1 hgz.2 ?_
                  clear hz1 hk1 hPc hDc hKc hFc hP1 hD1 hK1
                  refine lv_aload_n hx hb dX23_list_82 rfl (lv_at hl 1 rfl) ?_
                  refine lv_bipush (v := 57) hx hb dX23_list_83 (by decide) ?_
                  by_cases hz_26 : ff23 = 0
                  · subst hz_26
                    have hg23 := hf24_2 rfl
                    have hlthg23 := (isE_mem hg23.2).2
                    by_cases hk_27 : fk pp23 = 57
                    · replace hPc := hP.subF (f' := [(m9, .inr (23, mA mr mv vf xl (nI zs) 0 xa23 (nI T) (nI pp23) xi xt xn (nI (ns + 1)) (nI vv) (nI bb23))), (mr 5, .inl (kI, 3002, .inl fk))]) [0, 1] rfl
                      replace hDc := hD.subF (f' := [(m9, .inr (23, mA mr mv vf xl (nI zs) 0 xa23 (nI T) (nI pp23) xi xt xn (nI (ns + 1)) (nI vv) (nI bb23))), (mr 5, .inl (kI, 3002, .inl fk))]) [0, 1] (by decide) rfl
                      replace hKc := hK.sub (tys' := [(kI, .int)]) [0] rfl
                      replace hFc := va_freeT (wc := [(m9, .inr (23, mA mr mv vf xl (nI zs) 0 xa23 (nI T) (nI pp23) xi xt xn (nI (ns + 1)) (nI vv) (nI bb23))), (mr 5, .inl (kI, 3002, .inl fk))]) hD hS hA [0, 1] rfl
                      refine va_calli (va_runV (As := [.int 57]) (rest := []) ⟨hx, hb, hml, hown, hts⟩ (c_rtsY l dC dI m9 mr mv vf xl xa23 xi xt xn zs T pp23 (ns + 1) vv bb23 kI fk fa 57 H.size hT hf24_1.2.1 hk0 (by decide) hk_27) (cwV 1 hts g_c_xli6_c_rtsY_85 rfl rfl rfl (by decide +kernel) ⟨by show 1 + 1 ≤ 2 + 12 * k; omega, by show 8 + (2 + 11) + (21) ≤ 43 + 279 * k; omega⟩) ⟨fun a U g mk q => by obtain ⟨q0, q1, qP, qK, qD⟩ := q; exact ⟨q0, q1, qP, va_K.moved (u := U) (U := U.calling g mk a) (Vm.Alike.refl U.vm) qK, qD⟩, va_recv hKc hPc (ci := 23) (q0 := 0) rfl rfl, fun U hU hW => ⟨rfl, by rw [hU], by rw [hU]; exact hPc, va_K.moved hW.alike hKc, hDc.weaken (fun _ _ _ _ => trivial)⟩⟩ rfl rfl hl.1 rfl (lv_room (Nat.le_of_ble_eq_true rfl)) dX23_list_85 ⟨(show (((8 * (pp1 - pp) - 3 * n - 8 * cm) + 8 * (pp23 - pp1) + 3) + 2) + 0 ≤ (8 * (T - pp) + 3) by omega), (show (((120 * (pp1 - pp) + 4 * cp + 8 - 64 * n - 120 * cm) + 120 * (pp23 - pp1) + 48) + 4 * (cp24 - cp)) + 0 ≤ (120 * (T - pp) + 280) by omega)⟩) hS (fun q _ h => hFc q h) hFc (fun r_28 u tS H1 locs ht hvm hw hB hz1 hk1 hS => ?_)
                      obtain ⟨hP1, hK1, hD1⟩ := hB
                      rw [ht] at hP1
                      replace hK1 := va_K.moved hvm.symm hK1
                      obtain ⟨hPj, hDj⟩ := va_joinT (wr := [(mr 6, .inl (kI, 3002, .inl fa)), (mr 8, .inl (kL, 3002, .inr (.inl fn))), (ee, .inr (15, [.int 6, .int tx, .int gx, .int nx, .int 0, .int 0, .long 0, .int 0, .null, .ref la24, .ref sa24, .int (nI (n + 1)), .null, .null])), (la24, .inl (kE, cp24, .inr (.inr (.inr (.inr f24))))), (sa24, .inl (kI, cp24, .inl g24))]) (w1 := [(m9, .inr (23, mA mr mv vf xl (nI zs) 0 xa23 (nI T) (nI (pp23 + 1)) xi xt xn (nI (ns + 1)) (nI vv) (nI bb23))), (mr 5, .inl (kI, 3002, .inl fk))]) hP hD [0, 1] [2, 3, 4, 5, 6] rfl rfl (by decide) (by decide) hk1 hFc hP1 hD1
                      replace hP := hPj
                      replace hD := hDj
                      clear hPj hDj
                      replace hK := hK.app hK1
                      generalize H1 = H at hP hS ⊢
                      replace hP : va_P (dC, dI) vwCl (([(mr 6, .inl (kI, 3002, .inl fa)), (mr 8, .inl (kL, 3002, .inr (.inl fn))), (ee, .inr (15, [.int 6, .int tx, .int gx, .int nx, .int 0, .int 0, .long 0, .int 0, .null, .ref la24, .ref sa24, .int (nI (n + 1)), .null, .null])), (la24, .inl (kE, cp24, .inr (.inr (.inr (.inr f24))))), (sa24, .inl (kI, cp24, .inl g24)), (m9, .inr (23, mA mr mv vf xl (nI zs) 0 xa23 (nI T) (nI (pp23 + 1)) xi xt xn (nI (ns + 1)) (nI vv) (nI bb23))), (mr 5, .inl (kI, 3002, .inl fk))] : va_W) ++ (sT L23 F23)) H := hP
                      replace hD : va_D A (([(mr 6, .inl (kI, 3002, .inl fa)), (mr 8, .inl (kL, 3002, .inr (.inl fn))), (ee, .inr (15, [.int 6, .int tx, .int gx, .int nx, .int 0, .int 0, .long 0, .int 0, .null, .ref la24, .ref sa24, .int (nI (n + 1)), .null, .null])), (la24, .inl (kE, cp24, .inr (.inr (.inr (.inr f24))))), (sa24, .inl (kI, cp24, .inl g24)), (m9, .inr (23, mA mr mv vf xl (nI zs) 0 xa23 (nI T) (nI (pp23 + 1)) xi xt xn (nI (ns + 1)) (nI vv) (nI bb23))), (mr 5, .inl (kI, 3002, .inl fk))] : va_W) ++ (sT L23 F23)) := hD
                      replace hK : va_K (dC, dI) vwCl [(kI, .int), (kL, .long), (kE, .object RX15), (kI, .int)] s := hK
                      replace hK := hK.sub (tys' := [(kI, .int), (kL, .long), (kE, .object RX15)]) [0, 1, 2] rfl
                      clear hz1 hk1 hPc hDc hKc hFc hP1 hD1 hK1
                      obtain rfl : r_28 = 1 := hw
                      have hp_29 : pp23 + 1 < T := kne3 hk0 hf24_1.2.1 hk_27 (by decide)
                      refine lv_istore_n (lv' := [(2, .int 1), (0, .ref m9), (1, .ref ee)]) hx hb dX23_list_88 rfl hl (by decide) rfl (fun ls hl => ?_)
                      refine lv_goto (tgt := 62) hx hb dX23_list_89 (by decide) ?_
                      refine W.widen (k := (8 * ((pp23 + 1) - pp) - 3 * (n + 1) - 8 * 1)) (n := (120 * ((pp23 + 1) - pp) + 4 * cp24 + 8 - 64 * (n + 1) - 120 * 1)) (by omega) (by omega) ?_
                      exact ih1 (pp23 + 1) bb23 la24 sa24 cp24 (n + 1) 1 0 xa23 1 L23 F23 f24 g24 _ _ _ (⟨by omega, by omega, by omega, by omega, by omega, by omega, by omega, by omega, by omega, by omega, by omega, hT⟩) (Or.inr (by omega)) (hr2.tr hf24_0.1) (fun i hi => by
                        by_cases e9 : i = n
                        · subst e9; exact ⟨_, hf25_2.1, hf24_0.2⟩
                        · obtain ⟨x9, y9, z9⟩ := hr3 i (by omega); exact ⟨x9, (hf25_1 i (by omega)).1.trans y9, xO_ex hf24_0.1 z9⟩) (fun _ => ⟨hg23.1, _, chP_add (chP_im (fun x p q b c z => isE_im hf24_0.1 _ (Nat.le_refl _) z) hr5) (fun i hi => hf25_1 i hi) hf25_2.1 (hf25_2.2.trans rfl) hr6 (isE_im exS.rf _ (by omega) hg23.2) (Or.inl ⟨rfl, rfl⟩), Or.inr ⟨by decide, rfl, by omega⟩⟩) (hP.subT [2, 3, 4, 5, 6, 0, 1] rfl) (hD.subT [2, 3, 4, 5, 6, 0, 1] (by decide) rfl) hS (lv_sub hl [0, 1, 2] rfl)
                    · replace hPc := hP.subF (f' := [(m9, .inr (23, mA mr mv vf xl (nI zs) 0 xa23 (nI T) (nI pp23) xi xt xn (nI (ns + 1)) (nI vv) (nI bb23))), (mr 5, .inl (kI, 3002, .inl fk))]) [0, 1] rfl
                      replace hDc := hD.subF (f' := [(m9, .inr (23, mA mr mv vf xl (nI zs) 0 xa23 (nI T) (nI pp23) xi xt xn (nI (ns + 1)) (nI vv) (nI bb23))), (mr 5, .inl (kI, 3002, .inl fk))]) [0, 1] (by decide) rfl
                      replace hKc := hK.sub (tys' := [(kI, .int)]) [0] rfl
                      replace hFc := va_freeT (wc := [(m9, .inr (23, mA mr mv vf xl (nI zs) 0 xa23 (nI T) (nI pp23) xi xt xn (nI (ns + 1)) (nI vv) (nI bb23))), (mr 5, .inl (kI, 3002, .inl fk))]) hD hS hA [0, 1] rfl
                      refine va_calli (va_runV (As := [.int 57]) (rest := []) ⟨hx, hb, hml, hown, hts⟩ (c_rtsN l dC dI m9 mr mv vf xl xa23 xi xt xn zs T pp23 (ns + 1) vv bb23 kI fk fa 57 H.size hT hf24_1.2.1 hk0 (by decide) hk_27) (cwV 1 hts g_c_xli6_c_rtsN_85 rfl rfl rfl (by decide +kernel) ⟨by show 1 + 1 ≤ 2 + 12 * k; omega, by show 8 + (2 + 11) + (21) ≤ 43 + 279 * k; omega⟩) ⟨fun a U g mk q => by obtain ⟨q0, q1, qP, qK, qD⟩ := q; exact ⟨q0, q1, qP, va_K.moved (u := U) (U := U.calling g mk a) (Vm.Alike.refl U.vm) qK, qD⟩, va_recv hKc hPc (ci := 23) (q0 := 0) rfl rfl, fun U hU hW => ⟨rfl, by rw [hU], by rw [hU]; exact hPc, va_K.moved hW.alike hKc, hDc.weaken (fun _ _ _ _ => trivial)⟩⟩ rfl rfl hl.1 rfl (lv_room (Nat.le_of_ble_eq_true rfl)) dX23_list_85 ⟨(show (((8 * (pp1 - pp) - 3 * n - 8 * cm) + 8 * (pp23 - pp1) + 3) + 2) + 0 ≤ (8 * (T - pp) + 3) by omega), (show (((120 * (pp1 - pp) + 4 * cp + 8 - 64 * n - 120 * cm) + 120 * (pp23 - pp1) + 48) + 4 * (cp24 - cp)) + 0 ≤ (120 * (T - pp) + 280) by omega)⟩) hS (fun q _ h => hFc q h) hFc (fun r_28 u tS H1 locs ht hvm hw hB hz1 hk1 hS => ?_)
                      obtain ⟨hP1, hK1, hD1⟩ := hB
                      rw [ht] at hP1
                      replace hK1 := va_K.moved hvm.symm hK1
                      obtain ⟨hPj, hDj⟩ := va_joinT (wr := [(mr 6, .inl (kI, 3002, .inl fa)), (mr 8, .inl (kL, 3002, .inr (.inl fn))), (ee, .inr (15, [.int 6, .int tx, .int gx, .int nx, .int 0, .int 0, .long 0, .int 0, .null, .ref la24, .ref sa24, .int (nI (n + 1)), .null, .null])), (la24, .inl (kE, cp24, .inr (.inr (.inr (.inr f24))))), (sa24, .inl (kI, cp24, .inl g24))]) (w1 := [(m9, .inr (23, mA mr mv vf xl (nI zs) 0 xa23 (nI T) (nI pp23) xi xt xn (nI (ns + 1)) (nI vv) (nI bb23))), (mr 5, .inl (kI, 3002, .inl fk))]) hP hD [0, 1] [2, 3, 4, 5, 6] rfl rfl (by decide) (by decide) hk1 hFc hP1 hD1
                      replace hP := hPj
                      replace hD := hDj
                      clear hPj hDj
                      replace hK := hK.app hK1
                      generalize H1 = H at hP hS ⊢
                      replace hP : va_P (dC, dI) vwCl (([(mr 6, .inl (kI, 3002, .inl fa)), (mr 8, .inl (kL, 3002, .inr (.inl fn))), (ee, .inr (15, [.int 6, .int tx, .int gx, .int nx, .int 0, .int 0, .long 0, .int 0, .null, .ref la24, .ref sa24, .int (nI (n + 1)), .null, .null])), (la24, .inl (kE, cp24, .inr (.inr (.inr (.inr f24))))), (sa24, .inl (kI, cp24, .inl g24)), (m9, .inr (23, mA mr mv vf xl (nI zs) 0 xa23 (nI T) (nI pp23) xi xt xn (nI (ns + 1)) (nI vv) (nI bb23))), (mr 5, .inl (kI, 3002, .inl fk))] : va_W) ++ (sT L23 F23)) H := hP
                      replace hD : va_D A (([(mr 6, .inl (kI, 3002, .inl fa)), (mr 8, .inl (kL, 3002, .inr (.inl fn))), (ee, .inr (15, [.int 6, .int tx, .int gx, .int nx, .int 0, .int 0, .long 0, .int 0, .null, .ref la24, .ref sa24, .int (nI (n + 1)), .null, .null])), (la24, .inl (kE, cp24, .inr (.inr (.inr (.inr f24))))), (sa24, .inl (kI, cp24, .inl g24)), (m9, .inr (23, mA mr mv vf xl (nI zs) 0 xa23 (nI T) (nI pp23) xi xt xn (nI (ns + 1)) (nI vv) (nI bb23))), (mr 5, .inl (kI, 3002, .inl fk))] : va_W) ++ (sT L23 F23)) := hD
                      replace hK : va_K (dC, dI) vwCl [(kI, .int), (kL, .long), (kE, .object RX15), (kI, .int)] s := hK
                      replace hK := hK.sub (tys' := [(kI, .int), (kL, .long), (kE, .object RX15)]) [0, 1, 2] rfl
                      clear hz1 hk1 hPc hDc hKc hFc hP1 hD1 hK1
                      obtain rfl : r_28 = 0 := hw
                      refine lv_istore_n (lv' := [(2, .int 0), (0, .ref m9), (1, .ref ee)]) hx hb dX23_list_88 rfl hl (by decide) rfl (fun ls hl => ?_)
                      refine lv_goto (tgt := 62) hx hb dX23_list_89 (by decide) ?_
                      refine W.widen (k := (8 * (pp23 - pp) - 3 * (n + 1) - 8 * 0)) (n := (120 * (pp23 - pp) + 4 * cp24 + 8 - 64 * (n + 1) - 120 * 0)) (by omega) (by omega) ?_
                      exact ih1 pp23 bb23 la24 sa24 cp24 (n + 1) 0 0 xa23 0 L23 F23 f24 g24 _ _ _ (⟨by omega, by omega, by omega, by omega, by omega, by omega, by omega, by omega, by omega, by omega, by omega, hT⟩) (Or.inr (by omega)) (hr2.tr hf24_0.1) (fun i hi => by
                        by_cases e9 : i = n
                        · subst e9; exact ⟨_, hf25_2.1, hf24_0.2⟩
                        · obtain ⟨x9, y9, z9⟩ := hr3 i (by omega); exact ⟨x9, (hf25_1 i (by omega)).1.trans y9, xO_ex hf24_0.1 z9⟩) (fun _ => ⟨hg23.1, _, chP_add (chP_im (fun x p q b c z => isE_im hf24_0.1 _ (Nat.le_refl _) z) hr5) (fun i hi => hf25_1 i hi) hf25_2.1 (hf25_2.2.trans rfl) hr6 (isE_im exS.rf _ (by omega) hg23.2) (Or.inl ⟨rfl, rfl⟩), Or.inl ⟨rfl, rfl, by omega⟩⟩) (hP.subT [2, 3, 4, 5, 6, 0, 1] rfl) (hD.subT [2, 3, 4, 5, 6, 0, 1] (by decide) rfl) hS (lv_sub hl [0, 1, 2] rfl)
                  · replace hPc := hP.subF (f' := [(m9, .inr (23, mA mr mv vf xl (nI zs) ff23 xa23 (nI T) (nI pp23) xi xt xn (nI (ns + 1)) (nI vv) (nI bb23))), (mr 5, .inl (kI, 3002, .inl fk))]) [0, 1] rfl
                    replace hDc := hD.subF (f' := [(m9, .inr (23, mA mr mv vf xl (nI zs) ff23 xa23 (nI T) (nI pp23) xi xt xn (nI (ns + 1)) (nI vv) (nI bb23))), (mr 5, .inl (kI, 3002, .inl fk))]) [0, 1] (by decide) rfl
                    replace hKc := hK.sub (tys' := [(kI, .int)]) [0] rfl
                    replace hFc := va_freeT (wc := [(m9, .inr (23, mA mr mv vf xl (nI zs) ff23 xa23 (nI T) (nI pp23) xi xt xn (nI (ns + 1)) (nI vv) (nI bb23))), (mr 5, .inl (kI, 3002, .inl fk))]) hD hS hA [0, 1] rfl
                    refine va_calli (va_runV (As := [.int 57]) (rest := []) ⟨hx, hb, hml, hown, hts⟩ (c_rtsB l dC dI m9 mr mv vf xl xa23 xi xt xn zs T pp23 (ns + 1) vv bb23 kI fk fa ff23 57 H.size hz_26) (cwV 1 hts g_c_xli6_c_rtsB_85 rfl rfl rfl (by decide +kernel) ⟨by show 1 + 1 ≤ 2 + 12 * k; omega, by show 8 + (2 + 11) + (20) ≤ 43 + 279 * k; omega⟩) ⟨fun a U g mk q => by obtain ⟨q0, q1, qP, qK, qD⟩ := q; exact ⟨q0, q1, qP, va_K.moved (u := U) (U := U.calling g mk a) (Vm.Alike.refl U.vm) qK, qD⟩, va_recv hKc hPc (ci := 23) (q0 := 0) rfl rfl, fun U hU hW => ⟨rfl, by rw [hU], by rw [hU]; exact hPc, va_K.moved hW.alike hKc, hDc.weaken (fun _ _ _ _ => trivial)⟩⟩ rfl rfl hl.1 rfl (lv_room (Nat.le_of_ble_eq_true rfl)) dX23_list_85 ⟨(show (((8 * (pp1 - pp) - 3 * n - 8 * cm) + 8 * (pp23 - pp1) + 3) + 2) + 0 ≤ (8 * (T - pp) + 3) by omega), (show (((120 * (pp1 - pp) + 4 * cp + 8 - 64 * n - 120 * cm) + 120 * (pp23 - pp1) + 48) + 4 * (cp24 - cp)) + 0 ≤ (120 * (T - pp) + 280) by omega)⟩) hS (fun q _ h => hFc q h) hFc (fun r_27 u tS H1 locs ht hvm hw hB hz1 hk1 hS => ?_)
                    obtain ⟨hP1, hK1, hD1⟩ := hB
                    rw [ht] at hP1
                    replace hK1 := va_K.moved hvm.symm hK1
                    obtain ⟨hPj, hDj⟩ := va_joinT (wr := [(mr 6, .inl (kI, 3002, .inl fa)), (mr 8, .inl (kL, 3002, .inr (.inl fn))), (ee, .inr (15, [.int 6, .int tx, .int gx, .int nx, .int 0, .int 0, .long 0, .int 0, .null, .ref la24, .ref sa24, .int (nI (n + 1)), .null, .null])), (la24, .inl (kE, cp24, .inr (.inr (.inr (.inr f24))))), (sa24, .inl (kI, cp24, .inl g24))]) (w1 := [(m9, .inr (23, mA mr mv vf xl (nI zs) ff23 xa23 (nI T) (nI pp23) xi xt xn (nI (ns + 1)) (nI vv) (nI bb23))), (mr 5, .inl (kI, 3002, .inl fk))]) hP hD [0, 1] [2, 3, 4, 5, 6] rfl rfl (by decide) (by decide) hk1 hFc hP1 hD1
                    replace hP := hPj
                    replace hD := hDj
                    clear hPj hDj
                    replace hK := hK.app hK1
                    generalize H1 = H at hP hS ⊢
                    replace hP : va_P (dC, dI) vwCl (([(mr 6, .inl (kI, 3002, .inl fa)), (mr 8, .inl (kL, 3002, .inr (.inl fn))), (ee, .inr (15, [.int 6, .int tx, .int gx, .int nx, .int 0, .int 0, .long 0, .int 0, .null, .ref la24, .ref sa24, .int (nI (n + 1)), .null, .null])), (la24, .inl (kE, cp24, .inr (.inr (.inr (.inr f24))))), (sa24, .inl (kI, cp24, .inl g24)), (m9, .inr (23, mA mr mv vf xl (nI zs) ff23 xa23 (nI T) (nI pp23) xi xt xn (nI (ns + 1)) (nI vv) (nI bb23))), (mr 5, .inl (kI, 3002, .inl fk))] : va_W) ++ (sT L23 F23)) H := hP
                    replace hD : va_D A (([(mr 6, .inl (kI, 3002, .inl fa)), (mr 8, .inl (kL, 3002, .inr (.inl fn))), (ee, .inr (15, [.int 6, .int tx, .int gx, .int nx, .int 0, .int 0, .long 0, .int 0, .null, .ref la24, .ref sa24, .int (nI (n + 1)), .null, .null])), (la24, .inl (kE, cp24, .inr (.inr (.inr (.inr f24))))), (sa24, .inl (kI, cp24, .inl g24)), (m9, .inr (23, mA mr mv vf xl (nI zs) ff23 xa23 (nI T) (nI pp23) xi xt xn (nI (ns + 1)) (nI vv) (nI bb23))), (mr 5, .inl (kI, 3002, .inl fk))] : va_W) ++ (sT L23 F23)) := hD
                    replace hK : va_K (dC, dI) vwCl [(kI, .int), (kL, .long), (kE, .object RX15), (kI, .int)] s := hK
                    replace hK := hK.sub (tys' := [(kI, .int), (kL, .long), (kE, .object RX15)]) [0, 1, 2] rfl
                    clear hz1 hk1 hPc hDc hKc hFc hP1 hD1 hK1
                    obtain rfl : r_27 = 0 := hw
                    refine lv_istore_n (lv' := [(2, .int 0), (0, .ref m9), (1, .ref ee)]) hx hb dX23_list_88 rfl hl (by decide) rfl (fun ls hl => ?_)
                    refine lv_goto (tgt := 62) hx hb dX23_list_89 (by decide) ?_
                    refine W.widen (k := (8 * (pp23 - pp) - 3 * (n + 1) - 8 * 0)) (n := (120 * (pp23 - pp) + 4 * cp24 + 8 - 64 * (n + 1) - 120 * 0)) (by omega) (by omega) ?_
                    exact ih1 pp23 bb23 la24 sa24 cp24 (n + 1) 0 ff23 xa23 0 L23 F23 f24 g24 _ _ _ (⟨by omega, by omega, by omega, by omega, by omega, by omega, by omega, by omega, by omega, by omega, by omega, hT⟩) (Or.inl hz_26) (hr2.tr hf24_0.1) (fun i hi => by
                      by_cases e9 : i = n
                      · subst e9; exact ⟨_, hf25_2.1, hf24_0.2⟩
                      · obtain ⟨x9, y9, z9⟩ := hr3 i (by omega); exact ⟨x9, (hf25_1 i (by omega)).1.trans y9, xO_ex hf24_0.1 z9⟩) (fun q9 => absurd q9 hz_26) (hP.subT [2, 3, 4, 5, 6, 0, 1] rfl) (hD.subT [2, 3, 4, 5, 6, 0, 1] (by decide) rfl) hS (lv_sub hl [0, 1, 2] rfl)
              · replace hPc := hP.subF (f' := [(m9, .inr (23, mA mr mv vf xl (nI zs) ff1 xa1 (nI T) (nI pp1) xi xt xn (nI (ns + 1)) (nI vv) (nI bb1)))]) [3] rfl
                replace hDc := hD.subF (f' := [(m9, .inr (23, mA mr mv vf xl (nI zs) ff1 xa1 (nI T) (nI pp1) xi xt xn (nI (ns + 1)) (nI vv) (nI bb1)))]) [3] (by decide) rfl
                replace hKc := hK.sub (tys' := []) [] rfl
                replace hFc := va_freeT (wc := [(m9, .inr (23, mA mr mv vf xl (nI zs) ff1 xa1 (nI T) (nI pp1) xi xt xn (nI (ns + 1)) (nI vv) (nI bb1)))]) hD hS hA [3] rfl
                refine va_calli (va_runV (As := []) (rest := []) ⟨hx, hb, hml, hown, hts⟩ (c_rokB l dC dI m9 mr mv vf xl xa1 xi xt xn zs T pp1 (ns + 1) vv bb1 kI fk fa ff1 H.size hz_20) (cwV 0 hts g_c_xli6_c_rokB_63 rfl rfl rfl (by decide +kernel) ⟨by show 0 + 1 ≤ 2 + 12 * k; omega, by show 8 + (1 + 11) + (0) ≤ 43 + 279 * k; omega⟩) ⟨fun a U g mk q => by obtain ⟨q0, q1, qP, qK, qD⟩ := q; exact ⟨q0, q1, qP, va_K.moved (u := U) (U := U.calling g mk a) (Vm.Alike.refl U.vm) qK, qD⟩, va_recv hKc hPc (ci := 23) (q0 := 0) rfl rfl, fun U hU hW => ⟨rfl, by rw [hU], by rw [hU]; exact hPc, va_K.moved hW.alike hKc, hDc.weaken (fun _ _ _ _ => trivial)⟩⟩ rfl rfl hl.1 rfl (lv_room (Nat.le_of_ble_eq_true rfl)) dX23_list_63 ⟨(show (8 * (pp1 - pp) - 3 * n - 8 * cm) + 0 ≤ (8 * (T - pp) + 3) by omega), (show (120 * (pp1 - pp) + 4 * cp + 8 - 64 * n - 120 * cm) + 0 ≤ (120 * (T - pp) + 280) by omega)⟩) hS (fun q _ h => hFc q h) hFc (fun r_21 u tS H1 locs ht hvm hw hB hz1 hk1 hS => ?_)
                obtain ⟨hP1, hK1, hD1⟩ := hB
                rw [ht] at hP1
                replace hK1 := va_K.moved hvm.symm hK1
                obtain ⟨hPj, hDj⟩ := va_joinT (wr := [(ee, .inr (15, [.int 6, .int tx, .int gx, .int nx, .int 0, .int 0, .long 0, .int 0, .null, .ref la, .ref sa, .int (nI n), .null, .null])), (la, .inl (kE, cp, .inr (.inr (.inr (.inr f))))), (sa, .inl (kI, cp, .inl g)), (mr 5, .inl (kI, 3002, .inl fk)), (mr 6, .inl (kI, 3002, .inl fa)), (mr 8, .inl (kL, 3002, .inr (.inl fn)))]) (w1 := [(m9, .inr (23, mA mr mv vf xl (nI zs) ff1 xa1 (nI T) (nI pp1) xi xt xn (nI (ns + 1)) (nI vv) (nI bb1)))]) hP hD [3] [0, 1, 2, 4, 5, 6] rfl rfl (by decide) (by decide) hk1 hFc hP1 hD1
                replace hP := hPj
                replace hD := hDj
                clear hPj hDj
                generalize H1 = H at hP hS ⊢
                replace hP : va_P (dC, dI) vwCl (([(ee, .inr (15, [.int 6, .int tx, .int gx, .int nx, .int 0, .int 0, .long 0, .int 0, .null, .ref la, .ref sa, .int (nI n), .null, .null])), (la, .inl (kE, cp, .inr (.inr (.inr (.inr f))))), (sa, .inl (kI, cp, .inl g)), (mr 5, .inl (kI, 3002, .inl fk)), (mr 6, .inl (kI, 3002, .inl fa)), (mr 8, .inl (kL, 3002, .inr (.inl fn))), (m9, .inr (23, mA mr mv vf xl (nI zs) ff1 xa1 (nI T) (nI pp1) xi xt xn (nI (ns + 1)) (nI vv) (nI bb1)))] : va_W) ++ (sT L1 F1)) H := hP
                replace hD : va_D A (([(ee, .inr (15, [.int 6, .int tx, .int gx, .int nx, .int 0, .int 0, .long 0, .int 0, .null, .ref la, .ref sa, .int (nI n), .null, .null])), (la, .inl (kE, cp, .inr (.inr (.inr (.inr f))))), (sa, .inl (kI, cp, .inl g)), (mr 5, .inl (kI, 3002, .inl fk)), (mr 6, .inl (kI, 3002, .inl fa)), (mr 8, .inl (kL, 3002, .inr (.inl fn))), (m9, .inr (23, mA mr mv vf xl (nI zs) ff1 xa1 (nI T) (nI pp1) xi xt xn (nI (ns + 1)) (nI vv) (nI bb1)))] : va_W) ++ (sT L1 F1)) := hD
                replace hK : va_K (dC, dI) vwCl [(kI, .int), (kL, .long), (kE, .object RX15)] s := hK
                clear hz1 hk1 hPc hDc hKc hFc hP1 hD1 hK1
                obtain rfl : r_21 = 0 := hw
                refine lv_if_eq (tgt := 92) hx hb dX23_list_66 (by decide) (fun _ => ?_) (fun c_22 => absurd (by decide) c_22)
                refine lv_aload_n hx hb dX23_list_92 rfl (lv_at hl 1 rfl) ?_
                refine lv_dup hx hb dX23_list_93 rfl ?_
                refine va_get (D := (dC, dI)) (ci := 23) (v := .int (nI (ns + 1))) (C := RX23) (T := TX23) (N := 89) hx hb hts in_c_xli6_X23 hown hK hP 6 rfl rfl 15 (by decide) (hts (.fieldLink RX23 104 "OwnedPlacesModel" "nest" "I") (wm_c_xli6 14 rfl)) (fun _ h9 => h9) rfl dX23_list_94 ?_
                refine lv_iconst (v := 1) hx hb dX23_list_97 (by decide) ?_
                refine lv_isub hx hb dX23_list_98 ?_
                refine lv_topi (fun f_23 ef_23 => ?_)
                obtain rfl : f_23 = nI ns := ef_23.trans (nI_pred _)
                refine va_put (D := (dC, dI)) (ci := 23) (v := .int (nI ns)) (ty := .int) (C := RX23) (T := TX23) (N := 89) hx hb hts in_c_xli6_X23 tyX23 tyX23_ok nmX23 hown hK hP hD hS 6 rfl rfl 15 (by decide) (hts (.fieldLink RX23 104 "OwnedPlacesModel" "nest" "I") (wm_c_xli6 14 rfl)) (fun _ h9 => h9) rfl (by decide +kernel) rfl rfl (Nat.le_of_ble_eq_true rfl) dX23_list_99 (fun H locs hP hD hS => ?_)
                replace hP : va_P (dC, dI) vwCl (([(ee, .inr (15, [.int 6, .int tx, .int gx, .int nx, .int 0, .int 0, .long 0, .int 0, .null, .ref la, .ref sa, .int (nI n), .null, .null])), (la, .inl (kE, cp, .inr (.inr (.inr (.inr f))))), (sa, .inl (kI, cp, .inl g)), (mr 5, .inl (kI, 3002, .inl fk)), (mr 6, .inl (kI, 3002, .inl fa)), (mr 8, .inl (kL, 3002, .inr (.inl fn))), (m9, .inr (23, mA mr mv vf xl (nI zs) ff1 xa1 (nI T) (nI pp1) xi xt xn (nI ns) (nI vv) (nI bb1)))] : va_W) ++ (sT L1 F1)) H := hP
                replace hD : va_D A (([(ee, .inr (15, [.int 6, .int tx, .int gx, .int nx, .int 0, .int 0, .long 0, .int 0, .null, .ref la, .ref sa, .int (nI n), .null, .null])), (la, .inl (kE, cp, .inr (.inr (.inr (.inr f))))), (sa, .inl (kI, cp, .inl g)), (mr 5, .inl (kI, 3002, .inl fk)), (mr 6, .inl (kI, 3002, .inl fa)), (mr 8, .inl (kL, 3002, .inr (.inl fn))), (m9, .inr (23, mA mr mv vf xl (nI zs) ff1 xa1 (nI T) (nI pp1) xi xt xn (nI ns) (nI vv) (nI bb1)))] : va_W) ++ (sT L1 F1)) := hD
                refine lv_aload_n hx hb dX23_list_102 rfl (lv_at hl 1 rfl) ?_
                refine lv_bipush (v := 62) hx hb dX23_list_103 (by decide) ?_
                replace hPc := hP.subF (f' := [(m9, .inr (23, mA mr mv vf xl (nI zs) ff1 xa1 (nI T) (nI pp1) xi xt xn (nI ns) (nI vv) (nI bb1))), (mr 5, .inl (kI, 3002, .inl fk)), (mr 6, .inl (kI, 3002, .inl fa))]) [6, 3, 4] rfl
                replace hDc := hD.subF (f' := [(m9, .inr (23, mA mr mv vf xl (nI zs) ff1 xa1 (nI T) (nI pp1) xi xt xn (nI ns) (nI vv) (nI bb1))), (mr 5, .inl (kI, 3002, .inl fk)), (mr 6, .inl (kI, 3002, .inl fa))]) [6, 3, 4] (by decide) rfl
                replace hKc := hK.sub (tys' := [(kI, .int)]) [0] rfl
                replace hFc := va_freeT (wc := [(m9, .inr (23, mA mr mv vf xl (nI zs) ff1 xa1 (nI T) (nI pp1) xi xt xn (nI ns) (nI vv) (nI bb1))), (mr 5, .inl (kI, 3002, .inl fk)), (mr 6, .inl (kI, 3002, .inl fa))]) hD hS hA [6, 3, 4] rfl
                refine va_callv (va_runV (As := [.int 62]) (rest := []) ⟨hx, hb, hml, hown, hts⟩ (c_rtkB l dC dI m9 mr mv vf xl xa1 xi xt xn zs T pp1 ns vv bb1 kI fk fa ff1 62 H.size hz_20) (cwV 1 hts g_c_xli6_c_rtkB_105 rfl rfl rfl (by decide +kernel) ⟨by show 1 + 1 ≤ 2 + 12 * k; omega, by show 8 + (2 + 11) + (20) ≤ 43 + 279 * k; omega⟩) ⟨fun a U g mk q => by obtain ⟨q0, q1, qP, qK, qD⟩ := q; exact ⟨q0, q1, qP, va_K.moved (u := U) (U := U.calling g mk a) (Vm.Alike.refl U.vm) qK, qD⟩, va_recv hKc hPc (ci := 23) (q0 := 0) rfl rfl, fun U hU hW => ⟨rfl, by rw [hU], by rw [hU]; exact hPc, va_K.moved hW.alike hKc, hDc.weaken (fun _ _ _ _ => trivial)⟩⟩ rfl rfl hl.1 rfl (lv_room (Nat.le_of_ble_eq_true rfl)) dX23_list_105 ⟨(show (8 * (pp1 - pp) - 3 * n - 8 * cm) + 0 ≤ (8 * (T - pp) + 3) by omega), (show (120 * (pp1 - pp) + 4 * cp + 8 - 64 * n - 120 * cm) + 0 ≤ (120 * (T - pp) + 280) by omega)⟩) hS (fun q _ h => hFc q h) hFc (fun u tS H1 locs ht hvm hw hB hz1 hk1 hS => ?_)
                obtain ⟨hP1, hK1, hD1⟩ := hB
                rw [ht] at hP1
                replace hK1 := va_K.moved hvm.symm hK1
                obtain ⟨hPj, hDj⟩ := va_joinT (wr := [(ee, .inr (15, [.int 6, .int tx, .int gx, .int nx, .int 0, .int 0, .long 0, .int 0, .null, .ref la, .ref sa, .int (nI n), .null, .null])), (la, .inl (kE, cp, .inr (.inr (.inr (.inr f))))), (sa, .inl (kI, cp, .inl g)), (mr 8, .inl (kL, 3002, .inr (.inl fn)))]) (w1 := [(m9, .inr (23, mA mr mv vf xl (nI zs) ff1 xa1 (nI T) (nI pp1) xi xt xn (nI ns) (nI vv) (nI bb1))), (mr 5, .inl (kI, 3002, .inl fk)), (mr 6, .inl (kI, 3002, .inl fa))]) hP hD [6, 3, 4] [0, 1, 2, 5] rfl rfl (by decide) (by decide) hk1 hFc hP1 hD1
                replace hP := hPj
                replace hD := hDj
                clear hPj hDj
                replace hK := hK.app hK1
                generalize H1 = H at hP hS ⊢
                replace hP : va_P (dC, dI) vwCl (([(ee, .inr (15, [.int 6, .int tx, .int gx, .int nx, .int 0, .int 0, .long 0, .int 0, .null, .ref la, .ref sa, .int (nI n), .null, .null])), (la, .inl (kE, cp, .inr (.inr (.inr (.inr f))))), (sa, .inl (kI, cp, .inl g)), (mr 8, .inl (kL, 3002, .inr (.inl fn))), (m9, .inr (23, mA mr mv vf xl (nI zs) ff1 xa1 (nI T) (nI pp1) xi xt xn (nI ns) (nI vv) (nI bb1))), (mr 5, .inl (kI, 3002, .inl fk)), (mr 6, .inl (kI, 3002, .inl fa))] : va_W) ++ (sT L1 F1)) H := hP
                replace hD : va_D A (([(ee, .inr (15, [.int 6, .int tx, .int gx, .int nx, .int 0, .int 0, .long 0, .int 0, .null, .ref la, .ref sa, .int (nI n), .null, .null])), (la, .inl (kE, cp, .inr (.inr (.inr (.inr f))))), (sa, .inl (kI, cp, .inl g)), (mr 8, .inl (kL, 3002, .inr (.inl fn))), (m9, .inr (23, mA mr mv vf xl (nI zs) ff1 xa1 (nI T) (nI pp1) xi xt xn (nI ns) (nI vv) (nI bb1))), (mr 5, .inl (kI, 3002, .inl fk)), (mr 6, .inl (kI, 3002, .inl fa))] : va_W) ++ (sT L1 F1)) := hD
                replace hK : va_K (dC, dI) vwCl [(kI, .int), (kL, .long), (kE, .object RX15), (kI, .int)] s := hK
                replace hK := hK.sub (tys' := [(kI, .int), (kL, .long), (kE, .object RX15)]) [0, 1, 2] rfl
                clear hz1 hk1 hPc hDc hKc hFc hP1 hD1 hK1
                replace hP : va_P (dC, dI) vwCl ((([(ee, .inr (15, [.int 6, .int tx, .int gx, .int nx, .int 0, .int 0, .long 0, .int 0, .null, .ref la, .ref sa, .int (nI n), .null, .null])), (mr 8, .inl (kL, 3002, .inr (.inl fn))), (m9, .inr (23, mA mr mv vf xl (nI zs) ff1 xa1 (nI T) (nI pp1) xi xt xn (nI ns) (nI vv) (nI bb1))), (mr 5, .inl (kI, 3002, .inl fk)), (mr 6, .inl (kI, 3002, .inl fa))] : va_W) ++ ([(la, .inl (kE, cp, .inr (.inr (.inr (.inr f))))), (sa, .inl (kI, cp, .inl g))] : va_W)) ++ sT L1 F1) H := hP.subT (f' := [(ee, .inr (15, [.int 6, .int tx, .int gx, .int nx, .int 0, .int 0, .long 0, .int 0, .null, .ref la, .ref sa, .int (nI n), .null, .null])), (mr 8, .inl (kL, 3002, .inr (.inl fn))), (m9, .inr (23, mA mr mv vf xl (nI zs) ff1 xa1 (nI T) (nI pp1) xi xt xn (nI ns) (nI vv) (nI bb1))), (mr 5, .inl (kI, 3002, .inl fk)), (mr 6, .inl (kI, 3002, .inl fa)), (la, .inl (kE, cp, .inr (.inr (.inr (.inr f))))), (sa, .inl (kI, cp, .inl g))]) [0, 3, 4, 5, 6, 1, 2] rfl
                replace hD : va_D A ((([(ee, .inr (15, [.int 6, .int tx, .int gx, .int nx, .int 0, .int 0, .long 0, .int 0, .null, .ref la, .ref sa, .int (nI n), .null, .null])), (mr 8, .inl (kL, 3002, .inr (.inl fn))), (m9, .inr (23, mA mr mv vf xl (nI zs) ff1 xa1 (nI T) (nI pp1) xi xt xn (nI ns) (nI vv) (nI bb1))), (mr 5, .inl (kI, 3002, .inl fk)), (mr 6, .inl (kI, 3002, .inl fa))] : va_W) ++ ([(la, .inl (kE, cp, .inr (.inr (.inr (.inr f))))), (sa, .inl (kI, cp, .inl g))] : va_W)) ++ sT L1 F1) := hD.subT (f' := [(ee, .inr (15, [.int 6, .int tx, .int gx, .int nx, .int 0, .int 0, .long 0, .int 0, .null, .ref la, .ref sa, .int (nI n), .null, .null])), (mr 8, .inl (kL, 3002, .inr (.inl fn))), (m9, .inr (23, mA mr mv vf xl (nI zs) ff1 xa1 (nI T) (nI pp1) xi xt xn (nI ns) (nI vv) (nI bb1))), (mr 5, .inl (kI, 3002, .inl fk)), (mr 6, .inl (kI, 3002, .inl fa)), (la, .inl (kE, cp, .inr (.inr (.inr (.inr f))))), (sa, .inl (kI, cp, .inl g))]) [0, 3, 4, 5, 6, 1, 2] (by decide) rfl
                obtain ⟨L9, F9, hx9, hm9, hP, hD⟩ := st_fileL [(la, .inl (kE, cp, .inr (.inr (.inr (.inr f))))), (sa, .inl (kI, cp, .inl g))] hP hD
                have hm9_0 := hm9 _ (List.mem_of_getElem? (i := 0) rfl)
                have hm9_1 := hm9 _ (List.mem_of_getElem? (i := 1) rfl)
                refine W.grow (fun hgs0 hgs1 => ?_)
                have hP9 := hP.subT (f' := [(ee, .inr (15, [.int 6, .int tx, .int gx, .int nx, .int 0, .int 0, .long 0, .int 0, .null, (.ref la), (.ref sa), .int (nI n), .null, .null])), (m9, .inr (23, mA mr mv vf xl (nI zs) ff1 xa1 (nI T) (nI pp1) xi xt xn (nI ns) (nI vv) (nI bb1))), (mr 5, .inl (kI, 3002, .inl fk)), (mr 6, .inl (kI, 3002, .inl fa)), (mr 8, .inl (kL, 3002, .inr (.inl fn)))]) [0, 2, 3, 4, 1] rfl
                have hD9 := hD.subT (f' := [(ee, .inr (15, [.int 6, .int tx, .int gx, .int nx, .int 0, .int 0, .long 0, .int 0, .null, (.ref la), (.ref sa), .int (nI n), .null, .null])), (m9, .inr (23, mA mr mv vf xl (nI zs) ff1 xa1 (nI T) (nI pp1) xi xt xn (nI ns) (nI vv) (nI bb1))), (mr 5, .inl (kI, 3002, .inl fk)), (mr 6, .inl (kI, 3002, .inl fa)), (mr 8, .inl (kL, 3002, .inr (.inl fn)))]) [0, 2, 3, 4, 1] (by decide) rfl
                have hK9 := hK.sub (tys' := [(kI, .int), (kL, .long), (kE, .object RX15)]) [0, 1, 2] rfl
                refine W.widen (k := (8 * (T - pp) + 3)) (n := (120 * (T - pp) + 280)) (by omega) (by omega) ?_
                subst hQ1
                exact W.vret hx hb hr (fun tS ht hW => ⟨⟨(), rfl, trivial, L9, F9, ff1, xa1, pp1, bb1, .ref la, .ref sa, n, (hr2).tr hx9, ⟨by omega, by omega, by omega, by omega⟩, (fun q9 => absurd q9 hz_20), by rw [ht]; exact ⟨by omega, by omega⟩, by rw [ht]; exact hP9, va_K.moved hW.alike hK9, hD9⟩, hS.F ht⟩) hS.2.2 dX23_list_108
          refine W.widen (k := (8 * ((pp13 + 1) - pp) - 3 * 1 - 8 * 1)) (n := (120 * ((pp13 + 1) - pp) + 4 * 4 + 8 - 64 * 1 - 120 * 1)) (by omega) (by omega) ?_
          exact key1 (T + 1 - (pp13 + 1) + 1) (pp13 + 1) bb13 la14 sa14 4 1 1 0 xa13 1 L13 F13 f14 g14 _ _ _ (⟨by omega, by omega, by omega, by omega, by omega, by omega, by omega, by omega, by omega, by omega, by omega, hT⟩) (Or.inr (by omega)) hf14_0.1 (fun i hi => by obtain rfl : i = 0 := (by omega); exact ⟨_, hf15_1.1, hf14_0.2⟩) (fun _ => ⟨hg13.1, _, chP_add (chP_0 (f := f14) (g := g14) (Nat.le_refl pp)) (fun i hi => absurd hi (by omega)) hf15_1.1 (hf15_1.2.trans rfl) (by omega) (isE_im exS.rf _ (by omega) hg13.2) (Or.inl ⟨rfl, rfl⟩), Or.inr ⟨by decide, rfl, by omega⟩⟩) (hP.subT [2, 3, 4, 5, 6, 0, 1] rfl) (hD.subT [2, 3, 4, 5, 6, 0, 1] (by decide) rfl) hS (lv_sub hl [0, 1, 2] rfl)
        · replace hPc := hP.subF (f' := [(m9, .inr (23, mA mr mv vf xl (nI zs) 0 xa13 (nI T) (nI pp13) xi xt xn (nI (ns + 1)) (nI vv) (nI bb13))), (mr 5, .inl (kI, 3002, .inl fk))]) [0, 1] rfl
          replace hDc := hD.subF (f' := [(m9, .inr (23, mA mr mv vf xl (nI zs) 0 xa13 (nI T) (nI pp13) xi xt xn (nI (ns + 1)) (nI vv) (nI bb13))), (mr 5, .inl (kI, 3002, .inl fk))]) [0, 1] (by decide) rfl
          replace hKc := hK.sub (tys' := [(kI, .int)]) [0] rfl
          replace hFc := va_freeT (wc := [(m9, .inr (23, mA mr mv vf xl (nI zs) 0 xa13 (nI T) (nI pp13) xi xt xn (nI (ns + 1)) (nI vv) (nI bb13))), (mr 5, .inl (kI, 3002, .inl fk))]) hD hS hA [0, 1] rfl
          refine va_calli (va_runV (As := [.int 57]) (rest := []) ⟨hx, hb, hml, hown, hts⟩ (c_rtsN l dC dI m9 mr mv vf xl xa13 xi xt xn zs T pp13 (ns + 1) vv bb13 kI fk fa 57 H.size hT hf14_1.2.1 hk0 (by decide) hk_17) (cwV 1 hts g_c_xli6_c_rtsN_85 rfl rfl rfl (by decide +kernel) ⟨by show 1 + 1 ≤ 2 + 12 * k; omega, by show 8 + (2 + 11) + (21) ≤ 43 + 279 * k; omega⟩) ⟨fun a U g mk q => by obtain ⟨q0, q1, qP, qK, qD⟩ := q; exact ⟨q0, q1, qP, va_K.moved (u := U) (U := U.calling g mk a) (Vm.Alike.refl U.vm) qK, qD⟩, va_recv hKc hPc (ci := 23) (q0 := 0) rfl rfl, fun U hU hW => ⟨rfl, by rw [hU], by rw [hU]; exact hPc, va_K.moved hW.alike hKc, hDc.weaken (fun _ _ _ _ => trivial)⟩⟩ rfl rfl hl.1 rfl (lv_room (Nat.le_of_ble_eq_true rfl)) dX23_list_85 ⟨(show (8 * (pp13 - (pp + 1)) + 3 + 2) + 0 ≤ (8 * (T - pp) + 3) by omega), (show (120 * (pp13 - (pp + 1)) + 48 + 8) + 0 ≤ (120 * (T - pp) + 280) by omega)⟩) hS (fun q _ h => hFc q h) hFc (fun r_18 u tS H1 locs ht hvm hw hB hz1 hk1 hS => ?_)
          obtain ⟨hP1, hK1, hD1⟩ := hB
          rw [ht] at hP1
          replace hK1 := va_K.moved hvm.symm hK1
          obtain ⟨hPj, hDj⟩ := va_joinT (wr := [(mr 6, .inl (kI, 3002, .inl fa)), (mr 8, .inl (kL, 3002, .inr (.inl fn))), (ee, .inr (15, [.int 6, .int tx, .int gx, .int nx, .int 0, .int 0, .long 0, .int 0, .null, .ref la14, .ref sa14, .int 1, .null, .null])), (la14, .inl (kE, 4, .inr (.inr (.inr (.inr f14))))), (sa14, .inl (kI, 4, .inl g14))]) (w1 := [(m9, .inr (23, mA mr mv vf xl (nI zs) 0 xa13 (nI T) (nI pp13) xi xt xn (nI (ns + 1)) (nI vv) (nI bb13))), (mr 5, .inl (kI, 3002, .inl fk))]) hP hD [0, 1] [2, 3, 4, 5, 6] rfl rfl (by decide) (by decide) hk1 hFc hP1 hD1
          replace hP := hPj
          replace hD := hDj
          clear hPj hDj
          replace hK := hK.app hK1
          generalize H1 = H at hP hS ⊢
          replace hP : va_P (dC, dI) vwCl (([(mr 6, .inl (kI, 3002, .inl fa)), (mr 8, .inl (kL, 3002, .inr (.inl fn))), (ee, .inr (15, [.int 6, .int tx, .int gx, .int nx, .int 0, .int 0, .long 0, .int 0, .null, .ref la14, .ref sa14, .int 1, .null, .null])), (la14, .inl (kE, 4, .inr (.inr (.inr (.inr f14))))), (sa14, .inl (kI, 4, .inl g14)), (m9, .inr (23, mA mr mv vf xl (nI zs) 0 xa13 (nI T) (nI pp13) xi xt xn (nI (ns + 1)) (nI vv) (nI bb13))), (mr 5, .inl (kI, 3002, .inl fk))] : va_W) ++ (sT L13 F13)) H := hP
          replace hD : va_D A (([(mr 6, .inl (kI, 3002, .inl fa)), (mr 8, .inl (kL, 3002, .inr (.inl fn))), (ee, .inr (15, [.int 6, .int tx, .int gx, .int nx, .int 0, .int 0, .long 0, .int 0, .null, .ref la14, .ref sa14, .int 1, .null, .null])), (la14, .inl (kE, 4, .inr (.inr (.inr (.inr f14))))), (sa14, .inl (kI, 4, .inl g14)), (m9, .inr (23, mA mr mv vf xl (nI zs) 0 xa13 (nI T) (nI pp13) xi xt xn (nI (ns + 1)) (nI vv) (nI bb13))), (mr 5, .inl (kI, 3002, .inl fk))] : va_W) ++ (sT L13 F13)) := hD
          replace hK : va_K (dC, dI) vwCl [(kI, .int), (kL, .long), (kE, .object RX15), (kI, .int)] s := hK
          replace hK := hK.sub (tys' := [(kI, .int), (kL, .long), (kE, .object RX15)]) [0, 1, 2] rfl
          clear hz1 hk1 hPc hDc hKc hFc hP1 hD1 hK1
          obtain rfl : r_18 = 0 := hw
          refine lv_istore_n (lv' := [(2, .int 0), (0, .ref m9), (1, .ref ee)]) hx hb dX23_list_88 rfl hl (by decide) rfl (fun ls hl => ?_)
          refine lv_goto (tgt := 62) hx hb dX23_list_89 (by decide) ?_
          refine W_q (fun Q1 hQ1 => ?_)
          have key1 : ∀ (n1 : Nat) (pp1 bb1 la sa cp n cm : Nat) (ff1 xa1 mo : Int32) (L1 : List Nat) (F1 : Nat → va_E) (f : Nat → Option Nat) (g : Nat → Int32) (H : Heap) (locs : List Loc) (ls : Array Slot), (1 ≤ n1 ∧ pp ≤ pp1 ∧ pp1 < T ∧ bb ≤ bb1 ∧ bb1 ≤ bb + (pp1 - pp) ∧ 1 ≤ n ∧ n ≤ cp ∧ 4 ≤ cp ∧ cp ≤ 4 + 2 * n ∧ pp + n + cm ≤ pp1 ∧ cm ≤ 1 ∧ T ≤ 3001) → (ff1 ≠ 0 ∨ T + 1 ≤ pp1 + n1) → (exS L F L1 F1) → (∀ i : Nat, i < n → ∃ x : Nat, f i = some x ∧ xO L1 F1 x) → (ff1 = 0 → bb1 ≤ 54 ∧ ∃ q0 : Nat, chP 0 (isE L1 F1 kE kI (24 * k)) f g n pp q0 bb bb1 ∧ ((mo = 0 ∧ cm = 0 ∧ q0 ≤ pp1) ∨ (mo ≠ 0 ∧ cm = 1 ∧ q0 < pp1))) → va_P (dC, dI) vwCl (([(ee, .inr (15, [.int 6, .int tx, .int gx, .int nx, .int 0, .int 0, .long 0, .int 0, .null, .ref la, .ref sa, .int (nI n), .null, .null])), (la, .inl (kE, cp, .inr (.inr (.inr (.inr f))))), (sa, .inl (kI, cp, .inl g)), (m9, .inr (23, mA mr mv vf xl (nI zs) ff1 xa1 (nI T) (nI pp1) xi xt xn (nI (ns + 1)) (nI vv) (nI bb1))), (mr 5, .inl (kI, 3002, .inl fk)), (mr 6, .inl (kI, 3002, .inl fa)), (mr 8, .inl (kL, 3002, .inr (.inl fn)))] : va_W) ++ (sT L1 F1)) H → va_D A (([(ee, .inr (15, [.int 6, .int tx, .int gx, .int nx, .int 0, .int 0, .long 0, .int 0, .null, .ref la, .ref sa, .int (nI n), .null, .null])), (la, .inl (kE, cp, .inr (.inr (.inr (.inr f))))), (sa, .inl (kI, cp, .inl g)), (m9, .inr (23, mA mr mv vf xl (nI zs) ff1 xa1 (nI T) (nI pp1) xi xt xn (nI (ns + 1)) (nI vv) (nI bb1))), (mr 5, .inl (kI, 3002, .inl fk)), (mr 6, .inl (kI, 3002, .inl fa)), (mr 8, .inl (kL, 3002, .inr (.inl fn)))] : va_W) ++ (sT L1 F1)) → va_S A s.heap H locs → lv_has ls 3 [(2, .int mo), (0, .ref m9), (1, .ref ee)] → W p l e (headSpec wp_c_xli6 ({ frames := 2 + 12 * k, cells := (8 * (T - pp) + 3), slots := (120 * (T - pp) + 280), locals := 43 + 279 * k })).room s m ([.ref m9, .ref ee] : List Value).toArray below meth c H locs (8 * (pp1 - pp) - 3 * n - 8 * cm) (120 * (pp1 - pp) + 4 * cp + 8 - 64 * n - 120 * cm) Q1 (F0 m 62 ls []) := by
            intro n1
            induction n1 with
            | zero => intro pp1 bb1 la sa cp n cm ff1 xa1 mo L1 F1 f g H locs ls hr0 hr1 hr2 hr3 hr4; exact absurd hr0 (by omega)
            | succ n1 ih1 =>
              intro pp1 bb1 la sa cp n cm ff1 xa1 mo L1 F1 f g H locs ls hr0 hr1 hr2 hr3 hr4 hP hD hS hl
              refine lv_aload_n hx hb dX23_list_62 rfl (lv_at hl 1 rfl) ?_
              by_cases hz_19 : ff1 = 0
              · subst hz_19
                have hr9 := hr4 rfl
                replace hPc := hP.subF (f' := [(m9, .inr (23, mA mr mv vf xl (nI zs) 0 xa1 (nI T) (nI pp1) xi xt xn (nI (ns + 1)) (nI vv) (nI bb1)))]) [3] rfl
                replace hDc := hD.subF (f' := [(m9, .inr (23, mA mr mv vf xl (nI zs) 0 xa1 (nI T) (nI pp1) xi xt xn (nI (ns + 1)) (nI vv) (nI bb1)))]) [3] (by decide) rfl
                replace hKc := hK.sub (tys' := []) [] rfl
                replace hFc := va_freeT (wc := [(m9, .inr (23, mA mr mv vf xl (nI zs) 0 xa1 (nI T) (nI pp1) xi xt xn (nI (ns + 1)) (nI vv) (nI bb1)))]) hD hS hA [3] rfl
                refine va_calli (va_runV (As := []) (rest := []) ⟨hx, hb, hml, hown, hts⟩ (c_rok0 l dC dI m9 mr mv vf xl xa1 xi xt xn zs T pp1 (ns + 1) vv bb1 kI fk fa H.size) (cwV 0 hts g_c_xli6_c_rok0_63 rfl rfl rfl (by decide +kernel) ⟨by show 0 + 1 ≤ 2 + 12 * k; omega, by show 8 + (1 + 11) + (0) ≤ 43 + 279 * k; omega⟩) ⟨fun a U g mk q => by obtain ⟨q0, q1, qP, qK, qD⟩ := q; exact ⟨q0, q1, qP, va_K.moved (u := U) (U := U.calling g mk a) (Vm.Alike.refl U.vm) qK, qD⟩, va_recv hKc hPc (ci := 23) (q0 := 0) rfl rfl, fun U hU hW => ⟨rfl, by rw [hU], by rw [hU]; exact hPc, va_K.moved hW.alike hKc, hDc.weaken (fun _ _ _ _ => trivial)⟩⟩ rfl rfl hl.1 rfl (lv_room (Nat.le_of_ble_eq_true rfl)) dX23_list_63 ⟨(show (8 * (pp1 - pp) - 3 * n - 8 * cm) + 0 ≤ (8 * (T - pp) + 3) by omega), (show (120 * (pp1 - pp) + 4 * cp + 8 - 64 * n - 120 * cm) + 0 ≤ (120 * (T - pp) + 280) by omega)⟩) hS (fun q _ h => hFc q h) hFc (fun r_20 u tS H1 locs ht hvm hw hB hz1 hk1 hS => ?_)
                obtain ⟨hP1, hK1, hD1⟩ := hB
                rw [ht] at hP1
                replace hK1 := va_K.moved hvm.symm hK1
                obtain ⟨hPj, hDj⟩ := va_joinT (wr := [(ee, .inr (15, [.int 6, .int tx, .int gx, .int nx, .int 0, .int 0, .long 0, .int 0, .null, .ref la, .ref sa, .int (nI n), .null, .null])), (la, .inl (kE, cp, .inr (.inr (.inr (.inr f))))), (sa, .inl (kI, cp, .inl g)), (mr 5, .inl (kI, 3002, .inl fk)), (mr 6, .inl (kI, 3002, .inl fa)), (mr 8, .inl (kL, 3002, .inr (.inl fn)))]) (w1 := [(m9, .inr (23, mA mr mv vf xl (nI zs) 0 xa1 (nI T) (nI pp1) xi xt xn (nI (ns + 1)) (nI vv) (nI bb1)))]) hP hD [3] [0, 1, 2, 4, 5, 6] rfl rfl (by decide) (by decide) hk1 hFc hP1 hD1
                replace hP := hPj
                replace hD := hDj
                clear hPj hDj
                generalize H1 = H at hP hS ⊢
                replace hP : va_P (dC, dI) vwCl (([(ee, .inr (15, [.int 6, .int tx, .int gx, .int nx, .int 0, .int 0, .long 0, .int 0, .null, .ref la, .ref sa, .int (nI n), .null, .null])), (la, .inl (kE, cp, .inr (.inr (.inr (.inr f))))), (sa, .inl (kI, cp, .inl g)), (mr 5, .inl (kI, 3002, .inl fk)), (mr 6, .inl (kI, 3002, .inl fa)), (mr 8, .inl (kL, 3002, .inr (.inl fn))), (m9, .inr (23, mA mr mv vf xl (nI zs) 0 xa1 (nI T) (nI pp1) xi xt xn (nI (ns + 1)) (nI vv) (nI bb1)))] : va_W) ++ (sT L1 F1)) H := hP
                replace hD : va_D A (([(ee, .inr (15, [.int 6, .int tx, .int gx, .int nx, .int 0, .int 0, .long 0, .int 0, .null, .ref la, .ref sa, .int (nI n), .null, .null])), (la, .inl (kE, cp, .inr (.inr (.inr (.inr f))))), (sa, .inl (kI, cp, .inl g)), (mr 5, .inl (kI, 3002, .inl fk)), (mr 6, .inl (kI, 3002, .inl fa)), (mr 8, .inl (kL, 3002, .inr (.inl fn))), (m9, .inr (23, mA mr mv vf xl (nI zs) 0 xa1 (nI T) (nI pp1) xi xt xn (nI (ns + 1)) (nI vv) (nI bb1)))] : va_W) ++ (sT L1 F1)) := hD
                replace hK : va_K (dC, dI) vwCl [(kI, .int), (kL, .long), (kE, .object RX15)] s := hK
                clear hz1 hk1 hPc hDc hKc hFc hP1 hD1 hK1
                obtain rfl : r_20 = 1 := hw
                refine lv_if_eq (tgt := 92) hx hb dX23_list_66 (by decide) (fun c_21 => absurd c_21 (by decide)) (fun _ => ?_)
                refine lv_iload_n hx hb dX23_list_69 rfl (lv_at hl 0 rfl) ?_
                refine lv_if_eq (tgt := 92) hx hb dX23_list_70 (by decide) (fun hm_22 => ?_) (fun hm_22 => ?_)
                · obtain ⟨q0, hr5, hr6⟩ := hr9.2
                  replace hr6 : q0 ≤ pp1 := by omega
                  refine lv_aload_n hx hb dX23_list_92 rfl (lv_at hl 1 rfl) ?_
                  refine lv_dup hx hb dX23_list_93 rfl ?_
                  refine va_get (D := (dC, dI)) (ci := 23) (v := .int (nI (ns + 1))) (C := RX23) (T := TX23) (N := 89) hx hb hts in_c_xli6_X23 hown hK hP 6 rfl rfl 15 (by decide) (hts (.fieldLink RX23 104 "OwnedPlacesModel" "nest" "I") (wm_c_xli6 14 rfl)) (fun _ h9 => h9) rfl dX23_list_94 ?_
                  refine lv_iconst (v := 1) hx hb dX23_list_97 (by decide) ?_
                  refine lv_isub hx hb dX23_list_98 ?_
                  refine lv_topi (fun f_23 ef_23 => ?_)
                  obtain rfl : f_23 = nI ns := ef_23.trans (nI_pred _)
                  refine va_put (D := (dC, dI)) (ci := 23) (v := .int (nI ns)) (ty := .int) (C := RX23) (T := TX23) (N := 89) hx hb hts in_c_xli6_X23 tyX23 tyX23_ok nmX23 hown hK hP hD hS 6 rfl rfl 15 (by decide) (hts (.fieldLink RX23 104 "OwnedPlacesModel" "nest" "I") (wm_c_xli6 14 rfl)) (fun _ h9 => h9) rfl (by decide +kernel) rfl rfl (Nat.le_of_ble_eq_true rfl) dX23_list_99 (fun H locs hP hD hS => ?_)
                  replace hP : va_P (dC, dI) vwCl (([(ee, .inr (15, [.int 6, .int tx, .int gx, .int nx, .int 0, .int 0, .long 0, .int 0, .null, .ref la, .ref sa, .int (nI n), .null, .null])), (la, .inl (kE, cp, .inr (.inr (.inr (.inr f))))), (sa, .inl (kI, cp, .inl g)), (mr 5, .inl (kI, 3002, .inl fk)), (mr 6, .inl (kI, 3002, .inl fa)), (mr 8, .inl (kL, 3002, .inr (.inl fn))), (m9, .inr (23, mA mr mv vf xl (nI zs) 0 xa1 (nI T) (nI pp1) xi xt xn (nI ns) (nI vv) (nI bb1)))] : va_W) ++ (sT L1 F1)) H := hP
                  replace hD : va_D A (([(ee, .inr (15, [.int 6, .int tx, .int gx, .int nx, .int 0, .int 0, .long 0, .int 0, .null, .ref la, .ref sa, .int (nI n), .null, .null])), (la, .inl (kE, cp, .inr (.inr (.inr (.inr f))))), (sa, .inl (kI, cp, .inl g)), (mr 5, .inl (kI, 3002, .inl fk)), (mr 6, .inl (kI, 3002, .inl fa)), (mr 8, .inl (kL, 3002, .inr (.inl fn))), (m9, .inr (23, mA mr mv vf xl (nI zs) 0 xa1 (nI T) (nI pp1) xi xt xn (nI ns) (nI vv) (nI bb1)))] : va_W) ++ (sT L1 F1)) := hD
                  refine lv_aload_n hx hb dX23_list_102 rfl (lv_at hl 1 rfl) ?_
                  refine lv_bipush (v := 62) hx hb dX23_list_103 (by decide) ?_
                  by_cases hk_24 : fk pp1 = 62
                  · replace hPc := hP.subF (f' := [(m9, .inr (23, mA mr mv vf xl (nI zs) 0 xa1 (nI T) (nI pp1) xi xt xn (nI ns) (nI vv) (nI bb1))), (mr 5, .inl (kI, 3002, .inl fk)), (mr 6, .inl (kI, 3002, .inl fa))]) [6, 3, 4] rfl
                    replace hDc := hD.subF (f' := [(m9, .inr (23, mA mr mv vf xl (nI zs) 0 xa1 (nI T) (nI pp1) xi xt xn (nI ns) (nI vv) (nI bb1))), (mr 5, .inl (kI, 3002, .inl fk)), (mr 6, .inl (kI, 3002, .inl fa))]) [6, 3, 4] (by decide) rfl
                    replace hKc := hK.sub (tys' := [(kI, .int)]) [0] rfl
                    replace hFc := va_freeT (wc := [(m9, .inr (23, mA mr mv vf xl (nI zs) 0 xa1 (nI T) (nI pp1) xi xt xn (nI ns) (nI vv) (nI bb1))), (mr 5, .inl (kI, 3002, .inl fk)), (mr 6, .inl (kI, 3002, .inl fa))]) hD hS hA [6, 3, 4] rfl
                    refine va_callv (va_runV (As := [.int 62]) (rest := []) ⟨hx, hb, hml, hown, hts⟩ (c_rtkY l dC dI m9 mr mv vf xl xa1 xi xt xn zs T pp1 ns vv bb1 kI fk fa 62 H.size hT hr0.2.2.1 hk0 (by decide) hk_24) (cwV 1 hts g_c_xli6_c_rtkY_105 rfl rfl rfl (by decide +kernel) ⟨by show 1 + 1 ≤ 2 + 12 * k; omega, by show 8 + (2 + 11) + (21) ≤ 43 + 279 * k; omega⟩) ⟨fun a U g mk q => by obtain ⟨q0, q1, qP, qK, qD⟩ := q; exact ⟨q0, q1, qP, va_K.moved (u := U) (U := U.calling g mk a) (Vm.Alike.refl U.vm) qK, qD⟩, va_recv hKc hPc (ci := 23) (q0 := 0) rfl rfl, fun U hU hW => ⟨rfl, by rw [hU], by rw [hU]; exact hPc, va_K.moved hW.alike hKc, hDc.weaken (fun _ _ _ _ => trivial)⟩⟩ rfl rfl hl.1 rfl (lv_room (Nat.le_of_ble_eq_true rfl)) dX23_list_105 ⟨(show (8 * (pp1 - pp) - 3 * n - 8 * cm) + 0 ≤ (8 * (T - pp) + 3) by omega), (show (120 * (pp1 - pp) + 4 * cp + 8 - 64 * n - 120 * cm) + 0 ≤ (120 * (T - pp) + 280) by omega)⟩) hS (fun q _ h => hFc q h) hFc (fun u tS H1 locs ht hvm hw hB hz1 hk1 hS => ?_)
                    obtain ⟨hP1, hK1, hD1⟩ := hB
                    rw [ht] at hP1
                    replace hK1 := va_K.moved hvm.symm hK1
                    obtain ⟨hPj, hDj⟩ := va_joinT (wr := [(ee, .inr (15, [.int 6, .int tx, .int gx, .int nx, .int 0, .int 0, .long 0, .int 0, .null, .ref la, .ref sa, .int (nI n), .null, .null])), (la, .inl (kE, cp, .inr (.inr (.inr (.inr f))))), (sa, .inl (kI, cp, .inl g)), (mr 8, .inl (kL, 3002, .inr (.inl fn)))]) (w1 := [(m9, .inr (23, mA mr mv vf xl (nI zs) 0 xa1 (nI T) (nI (pp1 + 1)) xi xt xn (nI ns) (nI vv) (nI bb1))), (mr 5, .inl (kI, 3002, .inl fk)), (mr 6, .inl (kI, 3002, .inl fa))]) hP hD [6, 3, 4] [0, 1, 2, 5] rfl rfl (by decide) (by decide) hk1 hFc hP1 hD1
                    replace hP := hPj
                    replace hD := hDj
                    clear hPj hDj
                    replace hK := hK.app hK1
                    generalize H1 = H at hP hS ⊢
                    replace hP : va_P (dC, dI) vwCl (([(ee, .inr (15, [.int 6, .int tx, .int gx, .int nx, .int 0, .int 0, .long 0, .int 0, .null, .ref la, .ref sa, .int (nI n), .null, .null])), (la, .inl (kE, cp, .inr (.inr (.inr (.inr f))))), (sa, .inl (kI, cp, .inl g)), (mr 8, .inl (kL, 3002, .inr (.inl fn))), (m9, .inr (23, mA mr mv vf xl (nI zs) 0 xa1 (nI T) (nI (pp1 + 1)) xi xt xn (nI ns) (nI vv) (nI bb1))), (mr 5, .inl (kI, 3002, .inl fk)), (mr 6, .inl (kI, 3002, .inl fa))] : va_W) ++ (sT L1 F1)) H := hP
                    replace hD : va_D A (([(ee, .inr (15, [.int 6, .int tx, .int gx, .int nx, .int 0, .int 0, .long 0, .int 0, .null, .ref la, .ref sa, .int (nI n), .null, .null])), (la, .inl (kE, cp, .inr (.inr (.inr (.inr f))))), (sa, .inl (kI, cp, .inl g)), (mr 8, .inl (kL, 3002, .inr (.inl fn))), (m9, .inr (23, mA mr mv vf xl (nI zs) 0 xa1 (nI T) (nI (pp1 + 1)) xi xt xn (nI ns) (nI vv) (nI bb1))), (mr 5, .inl (kI, 3002, .inl fk)), (mr 6, .inl (kI, 3002, .inl fa))] : va_W) ++ (sT L1 F1)) := hD
                    replace hK : va_K (dC, dI) vwCl [(kI, .int), (kL, .long), (kE, .object RX15), (kI, .int)] s := hK
                    replace hK := hK.sub (tys' := [(kI, .int), (kL, .long), (kE, .object RX15)]) [0, 1, 2] rfl
                    clear hz1 hk1 hPc hDc hKc hFc hP1 hD1 hK1
                    have hp_26 : pp1 + 1 < T := kne3 hk0 hr0.2.2.1 hk_24 (by decide)
                    replace hP : va_P (dC, dI) vwCl ((([(ee, .inr (15, [.int 6, .int tx, .int gx, .int nx, .int 0, .int 0, .long 0, .int 0, .null, .ref la, .ref sa, .int (nI n), .null, .null])), (mr 8, .inl (kL, 3002, .inr (.inl fn))), (m9, .inr (23, mA mr mv vf xl (nI zs) 0 xa1 (nI T) (nI (pp1 + 1)) xi xt xn (nI ns) (nI vv) (nI bb1))), (mr 5, .inl (kI, 3002, .inl fk)), (mr 6, .inl (kI, 3002, .inl fa))] : va_W) ++ ([(la, .inl (kE, cp, .inr (.inr (.inr (.inr f))))), (sa, .inl (kI, cp, .inl g))] : va_W)) ++ sT L1 F1) H := hP.subT (f' := [(ee, .inr (15, [.int 6, .int tx, .int gx, .int nx, .int 0, .int 0, .long 0, .int 0, .null, .ref la, .ref sa, .int (nI n), .null, .null])), (mr 8, .inl (kL, 3002, .inr (.inl fn))), (m9, .inr (23, mA mr mv vf xl (nI zs) 0 xa1 (nI T) (nI (pp1 + 1)) xi xt xn (nI ns) (nI vv) (nI bb1))), (mr 5, .inl (kI, 3002, .inl fk)), (mr 6, .inl (kI, 3002, .inl fa)), (la, .inl (kE, cp, .inr (.inr (.inr (.inr f))))), (sa, .inl (kI, cp, .inl g))]) [0, 3, 4, 5, 6, 1, 2] rfl
                    replace hD : va_D A ((([(ee, .inr (15, [.int 6, .int tx, .int gx, .int nx, .int 0, .int 0, .long 0, .int 0, .null, .ref la, .ref sa, .int (nI n), .null, .null])), (mr 8, .inl (kL, 3002, .inr (.inl fn))), (m9, .inr (23, mA mr mv vf xl (nI zs) 0 xa1 (nI T) (nI (pp1 + 1)) xi xt xn (nI ns) (nI vv) (nI bb1))), (mr 5, .inl (kI, 3002, .inl fk)), (mr 6, .inl (kI, 3002, .inl fa))] : va_W) ++ ([(la, .inl (kE, cp, .inr (.inr (.inr (.inr f))))), (sa, .inl (kI, cp, .inl g))] : va_W)) ++ sT L1 F1) := hD.subT (f' := [(ee, .inr (15, [.int 6, .int tx, .int gx, .int nx, .int 0, .int 0, .long 0, .int 0, .null, .ref la, .ref sa, .int (nI n), .null, .null])), (mr 8, .inl (kL, 3002, .inr (.inl fn))), (m9, .inr (23, mA mr mv vf xl (nI zs) 0 xa1 (nI T) (nI (pp1 + 1)) xi xt xn (nI ns) (nI vv) (nI bb1))), (mr 5, .inl (kI, 3002, .inl fk)), (mr 6, .inl (kI, 3002, .inl fa)), (la, .inl (kE, cp, .inr (.inr (.inr (.inr f))))), (sa, .inl (kI, cp, .inl g))]) [0, 3, 4, 5, 6, 1, 2] (by decide) rfl
                    obtain ⟨L9, F9, hx9, hm9, hP, hD⟩ := st_fileL [(la, .inl (kE, cp, .inr (.inr (.inr (.inr f))))), (sa, .inl (kI, cp, .inl g))] hP hD
                    have hm9_0 := hm9 _ (List.mem_of_getElem? (i := 0) rfl)
                    have hm9_1 := hm9 _ (List.mem_of_getElem? (i := 1) rfl)
                    refine W.grow (fun hgs0 hgs1 => ?_)
                    have hP9 := hP.subT (f' := [(ee, .inr (15, [.int 6, .int tx, .int gx, .int nx, .int 0, .int 0, .long 0, .int 0, .null, (.ref la), (.ref sa), .int (nI n), .null, .null])), (m9, .inr (23, mA mr mv vf xl (nI zs) 0 xa1 (nI T) (nI (pp1 + 1)) xi xt xn (nI ns) (nI vv) (nI bb1))), (mr 5, .inl (kI, 3002, .inl fk)), (mr 6, .inl (kI, 3002, .inl fa)), (mr 8, .inl (kL, 3002, .inr (.inl fn)))]) [0, 2, 3, 4, 1] rfl
                    have hD9 := hD.subT (f' := [(ee, .inr (15, [.int 6, .int tx, .int gx, .int nx, .int 0, .int 0, .long 0, .int 0, .null, (.ref la), (.ref sa), .int (nI n), .null, .null])), (m9, .inr (23, mA mr mv vf xl (nI zs) 0 xa1 (nI T) (nI (pp1 + 1)) xi xt xn (nI ns) (nI vv) (nI bb1))), (mr 5, .inl (kI, 3002, .inl fk)), (mr 6, .inl (kI, 3002, .inl fa)), (mr 8, .inl (kL, 3002, .inr (.inl fn)))]) [0, 2, 3, 4, 1] (by decide) rfl
                    have hK9 := hK.sub (tys' := [(kI, .int), (kL, .long), (kE, .object RX15)]) [0, 1, 2] rfl
                    refine W.widen (k := (8 * (T - pp) + 3)) (n := (120 * (T - pp) + 280)) (by omega) (by omega) ?_
                    subst hQ1
                    exact W.vret hx hb hr (fun tS ht hW => ⟨⟨(), rfl, trivial, L9, F9, 0, xa1, pp1 + 1, bb1, .ref la, .ref sa, n, (hr2).tr hx9, ⟨by omega, by omega, by omega, by omega⟩, (fun _ => ⟨hr9.1, by omega, Or.inr ⟨la, sa, cp, q0, f, g, rfl, rfl, hm9_0.1, hm9_1.1, hm9_0.2, hm9_1.2, by omega, by omega, chP_im (fun x p q b c z => isE_im hx9 _ (Nat.le_refl _) z) hr5⟩⟩), by rw [ht]; exact ⟨by omega, by omega⟩, by rw [ht]; exact hP9, va_K.moved hW.alike hK9, hD9⟩, hS.F ht⟩) hS.2.2 dX23_list_108
                  · replace hPc := hP.subF (f' := [(m9, .inr (23, mA mr mv vf xl (nI zs) 0 xa1 (nI T) (nI pp1) xi xt xn (nI ns) (nI vv) (nI bb1))), (mr 5, .inl (kI, 3002, .inl fk)), (mr 6, .inl (kI, 3002, .inl fa))]) [6, 3, 4] rfl
                    replace hDc := hD.subF (f' := [(m9, .inr (23, mA mr mv vf xl (nI zs) 0 xa1 (nI T) (nI pp1) xi xt xn (nI ns) (nI vv) (nI bb1))), (mr 5, .inl (kI, 3002, .inl fk)), (mr 6, .inl (kI, 3002, .inl fa))]) [6, 3, 4] (by decide) rfl
                    replace hKc := hK.sub (tys' := [(kI, .int)]) [0] rfl
                    replace hFc := va_freeT (wc := [(m9, .inr (23, mA mr mv vf xl (nI zs) 0 xa1 (nI T) (nI pp1) xi xt xn (nI ns) (nI vv) (nI bb1))), (mr 5, .inl (kI, 3002, .inl fk)), (mr 6, .inl (kI, 3002, .inl fa))]) hD hS hA [6, 3, 4] rfl
                    refine va_callv (va_runV (As := [.int 62]) (rest := []) ⟨hx, hb, hml, hown, hts⟩ (c_rtkN l dC dI m9 mr mv vf xl xa1 xi xt xn zs T pp1 ns vv bb1 kI fk fa 62 H.size hT hr0.2.2.1 hk0 (by decide) hk_24) (cwV 1 hts g_c_xli6_c_rtkN_105 rfl rfl rfl (by decide +kernel) ⟨by show 1 + 1 ≤ 2 + 12 * k; omega, by show 8 + (2 + 11) + (22) ≤ 43 + 279 * k; omega⟩) ⟨fun a U g mk q => by obtain ⟨q0, q1, qP, qK, qD⟩ := q; exact ⟨q0, q1, qP, va_K.moved (u := U) (U := U.calling g mk a) (Vm.Alike.refl U.vm) qK, qD⟩, va_recv hKc hPc (ci := 23) (q0 := 0) rfl rfl, fun U hU hW => ⟨rfl, by rw [hU], by rw [hU]; exact hPc, va_K.moved hW.alike hKc, hDc.weaken (fun _ _ _ _ => trivial)⟩⟩ rfl rfl hl.1 rfl (lv_room (Nat.le_of_ble_eq_true rfl)) dX23_list_105 ⟨(show (8 * (pp1 - pp) - 3 * n - 8 * cm) + 0 ≤ (8 * (T - pp) + 3) by omega), (show (120 * (pp1 - pp) + 4 * cp + 8 - 64 * n - 120 * cm) + 0 ≤ (120 * (T - pp) + 280) by omega)⟩) hS (fun q _ h => hFc q h) hFc (fun u tS H1 locs ht hvm hw hB hz1 hk1 hS => ?_)
                    obtain ⟨ff_25, xa_26, hf27_0, hP1, hK1, hD1⟩ := hB
                    rw [ht] at hP1
                    replace hK1 := va_K.moved hvm.symm hK1
                    obtain ⟨hPj, hDj⟩ := va_joinT (wr := [(ee, .inr (15, [.int 6, .int tx, .int gx, .int nx, .int 0, .int 0, .long 0, .int 0, .null, .ref la, .ref sa, .int (nI n), .null, .null])), (la, .inl (kE, cp, .inr (.inr (.inr (.inr f))))), (sa, .inl (kI, cp, .inl g)), (mr 8, .inl (kL, 3002, .inr (.inl fn)))]) (w1 := [(m9, .inr (23, mA mr mv vf xl (nI zs) ff_25 xa_26 (nI T) (nI pp1) xi xt xn (nI ns) (nI vv) (nI bb1))), (mr 5, .inl (kI, 3002, .inl fk)), (mr 6, .inl (kI, 3002, .inl fa))]) hP hD [6, 3, 4] [0, 1, 2, 5] rfl rfl (by decide) (by decide) hk1 hFc hP1 hD1
                    replace hP := hPj
                    replace hD := hDj
                    clear hPj hDj
                    replace hK := hK.app hK1
                    generalize H1 = H at hP hS ⊢
                    replace hP : va_P (dC, dI) vwCl (([(ee, .inr (15, [.int 6, .int tx, .int gx, .int nx, .int 0, .int 0, .long 0, .int 0, .null, .ref la, .ref sa, .int (nI n), .null, .null])), (la, .inl (kE, cp, .inr (.inr (.inr (.inr f))))), (sa, .inl (kI, cp, .inl g)), (mr 8, .inl (kL, 3002, .inr (.inl fn))), (m9, .inr (23, mA mr mv vf xl (nI zs) ff_25 xa_26 (nI T) (nI pp1) xi xt xn (nI ns) (nI vv) (nI bb1))), (mr 5, .inl (kI, 3002, .inl fk)), (mr 6, .inl (kI, 3002, .inl fa))] : va_W) ++ (sT L1 F1)) H := hP
                    replace hD : va_D A (([(ee, .inr (15, [.int 6, .int tx, .int gx, .int nx, .int 0, .int 0, .long 0, .int 0, .null, .ref la, .ref sa, .int (nI n), .null, .null])), (la, .inl (kE, cp, .inr (.inr (.inr (.inr f))))), (sa, .inl (kI, cp, .inl g)), (mr 8, .inl (kL, 3002, .inr (.inl fn))), (m9, .inr (23, mA mr mv vf xl (nI zs) ff_25 xa_26 (nI T) (nI pp1) xi xt xn (nI ns) (nI vv) (nI bb1))), (mr 5, .inl (kI, 3002, .inl fk)), (mr 6, .inl (kI, 3002, .inl fa))] : va_W) ++ (sT L1 F1)) := hD
                    replace hK : va_K (dC, dI) vwCl [(kI, .int), (kL, .long), (kE, .object RX15), (kI, .int)] s := hK
                    replace hK := hK.sub (tys' := [(kI, .int), (kL, .long), (kE, .object RX15)]) [0, 1, 2] rfl
                    clear hz1 hk1 hPc hDc hKc hFc hP1 hD1 hK1
                    replace hP : va_P (dC, dI) vwCl ((([(ee, .inr (15, [.int 6, .int tx, .int gx, .int nx, .int 0, .int 0, .long 0, .int 0, .null, .ref la, .ref sa, .int (nI n), .null, .null])), (mr 8, .inl (kL, 3002, .inr (.inl fn))), (m9, .inr (23, mA mr mv vf xl (nI zs) ff_25 xa_26 (nI T) (nI pp1) xi xt xn (nI ns) (nI vv) (nI bb1))), (mr 5, .inl (kI, 3002, .inl fk)), (mr 6, .inl (kI, 3002, .inl fa))] : va_W) ++ ([(la, .inl (kE, cp, .inr (.inr (.inr (.inr f))))), (sa, .inl (kI, cp, .inl g))] : va_W)) ++ sT L1 F1) H := hP.subT (f' := [(ee, .inr (15, [.int 6, .int tx, .int gx, .int nx, .int 0, .int 0, .long 0, .int 0, .null, .ref la, .ref sa, .int (nI n), .null, .null])), (mr 8, .inl (kL, 3002, .inr (.inl fn))), (m9, .inr (23, mA mr mv vf xl (nI zs) ff_25 xa_26 (nI T) (nI pp1) xi xt xn (nI ns) (nI vv) (nI bb1))), (mr 5, .inl (kI, 3002, .inl fk)), (mr 6, .inl (kI, 3002, .inl fa)), (la, .inl (kE, cp, .inr (.inr (.inr (.inr f))))), (sa, .inl (kI, cp, .inl g))]) [0, 3, 4, 5, 6, 1, 2] rfl
                    replace hD : va_D A ((([(ee, .inr (15, [.int 6, .int tx, .int gx, .int nx, .int 0, .int 0, .long 0, .int 0, .null, .ref la, .ref sa, .int (nI n), .null, .null])), (mr 8, .inl (kL, 3002, .inr (.inl fn))), (m9, .inr (23, mA mr mv vf xl (nI zs) ff_25 xa_26 (nI T) (nI pp1) xi xt xn (nI ns) (nI vv) (nI bb1))), (mr 5, .inl (kI, 3002, .inl fk)), (mr 6, .inl (kI, 3002, .inl fa))] : va_W) ++ ([(la, .inl (kE, cp, .inr (.inr (.inr (.inr f))))), (sa, .inl (kI, cp, .inl g))] : va_W)) ++ sT L1 F1) := hD.subT (f' := [(ee, .inr (15, [.int 6, .int tx, .int gx, .int nx, .int 0, .int 0, .long 0, .int 0, .null, .ref la, .ref sa, .int (nI n), .null, .null])), (mr 8, .inl (kL, 3002, .inr (.inl fn))), (m9, .inr (23, mA mr mv vf xl (nI zs) ff_25 xa_26 (nI T) (nI pp1) xi xt xn (nI ns) (nI vv) (nI bb1))), (mr 5, .inl (kI, 3002, .inl fk)), (mr 6, .inl (kI, 3002, .inl fa)), (la, .inl (kE, cp, .inr (.inr (.inr (.inr f))))), (sa, .inl (kI, cp, .inl g))]) [0, 3, 4, 5, 6, 1, 2] (by decide) rfl
                    obtain ⟨L9, F9, hx9, hm9, hP, hD⟩ := st_fileL [(la, .inl (kE, cp, .inr (.inr (.inr (.inr f))))), (sa, .inl (kI, cp, .inl g))] hP hD
                    have hm9_0 := hm9 _ (List.mem_of_getElem? (i := 0) rfl)
                    have hm9_1 := hm9 _ (List.mem_of_getElem? (i := 1) rfl)
                    refine W.grow (fun hgs0 hgs1 => ?_)
                    have hP9 := hP.subT (f' := [(ee, .inr (15, [.int 6, .int tx, .int gx, .int nx, .int 0, .int 0, .long 0, .int 0, .null, (.ref la), (.ref sa), .int (nI n), .null, .null])), (m9, .inr (23, mA mr mv vf xl (nI zs) ff_25 xa_26 (nI T) (nI pp1) xi xt xn (nI ns) (nI vv) (nI bb1))), (mr 5, .inl (kI, 3002, .inl fk)), (mr 6, .inl (kI, 3002, .inl fa)), (mr 8, .inl (kL, 3002, .inr (.inl fn)))]) [0, 2, 3, 4, 1] rfl
                    have hD9 := hD.subT (f' := [(ee, .inr (15, [.int 6, .int tx, .int gx, .int nx, .int 0, .int 0, .long 0, .int 0, .null, (.ref la), (.ref sa), .int (nI n), .null, .null])), (m9, .inr (23, mA mr mv vf xl (nI zs) ff_25 xa_26 (nI T) (nI pp1) xi xt xn (nI ns) (nI vv) (nI bb1))), (mr 5, .inl (kI, 3002, .inl fk)), (mr 6, .inl (kI, 3002, .inl fa)), (mr 8, .inl (kL, 3002, .inr (.inl fn)))]) [0, 2, 3, 4, 1] (by decide) rfl
                    have hK9 := hK.sub (tys' := [(kI, .int), (kL, .long), (kE, .object RX15)]) [0, 1, 2] rfl
                    refine W.widen (k := (8 * (T - pp) + 3)) (n := (120 * (T - pp) + 280)) (by omega) (by omega) ?_
                    subst hQ1
                    exact W.vret hx hb hr (fun tS ht hW => ⟨⟨(), rfl, trivial, L9, F9, ff_25, xa_26, pp1, bb1, .ref la, .ref sa, n, (hr2).tr hx9, ⟨by omega, by omega, by omega, by omega⟩, (fun q9 => absurd q9 hf27_0), by rw [ht]; exact ⟨by omega, by omega⟩, by rw [ht]; exact hP9, va_K.moved hW.alike hK9, hD9⟩, hS.F ht⟩) hS.2.2 dX23_list_108
                · obtain ⟨q0, hr5, hr6⟩ := hr9.2
                  have hcm : cm = 1 := (hr6.resolve_left (fun z => hm_22 z.1)).2.1
                  replace hr6 : q0 < pp1 := (hr6.resolve_left (fun z => hm_22 z.1)).2.2
                  replace hr1 := hr1.resolve_left (fun q => q rfl)
                  refine lv_aload_n hx hb dX23_list_73 rfl (lv_at hl 2 rfl) ?_
                  refine lv_aload_n hx hb dX23_list_74 rfl (lv_at hl 1 rfl) ?_
                  obtain ⟨k1, hkL⟩ : ∃ k1 : Nat, k = k1 + 1 := ⟨k - 1, by omega⟩
                  replace hPc := hP.subT (f' := [(m9, .inr (23, mA mr mv vf xl (nI zs) 0 xa1 (nI T) (nI pp1) xi xt xn (nI (ns + 1)) (nI vv) (nI bb1))), (mr 5, .inl (kI, 3002, .inl fk)), (mr 6, .inl (kI, 3002, .inl fa)), (mr 8, .inl (kL, 3002, .inr (.inl fn)))]) [6, 3, 4, 5] rfl
                  replace hDc := hD.subT (f' := [(m9, .inr (23, mA mr mv vf xl (nI zs) 0 xa1 (nI T) (nI pp1) xi xt xn (nI (ns + 1)) (nI vv) (nI bb1))), (mr 5, .inl (kI, 3002, .inl fk)), (mr 6, .inl (kI, 3002, .inl fa)), (mr 8, .inl (kL, 3002, .inr (.inl fn)))]) [6, 3, 4, 5] (by decide) rfl
                  replace hKc := hK.sub (tys' := [(kI, .int), (kL, .long), (kE, .object RX15)]) [0, 1, 2] rfl
                  replace hFc := va_freeB (wc := [(m9, .inr (23, mA mr mv vf xl (nI zs) 0 xa1 (nI T) (nI pp1) xi xt xn (nI (ns + 1)) (nI vv) (nI bb1))), (mr 5, .inl (kI, 3002, .inl fk)), (mr 6, .inl (kI, 3002, .inl fa)), (mr 8, .inl (kL, 3002, .inr (.inl fn)))]) hD hS hA [6, 3, 4, 5] rfl
                  refine W.grow (fun hgs0 hgs1 => ?_)
                  refine va_callr (va_runV (As := []) (rest := [.ref ee]) ⟨hx, hb, hml, hown, hts⟩ ((ih k1 hkL).2.2.2.2.2.2 m9 mr mv vf xl xa1 xi xt xn zs T pp1 (ns + 1) vv bb1 kI fk fa kL kE fn L1 F1 (slN H) H.size hT hr0.2.2.1 hk0 hr9.1 (by omega)) (cwV 0 hts g_c_xli6_c_xex_75 rfl rfl rfl (by decide +kernel) ⟨by show 13 + 12 * k1 + 1 ≤ 2 + 12 * k; omega, by show 8 + (1 + 11) + (302 + 279 * k1) ≤ 43 + 279 * k; omega⟩) ⟨fun a U g mk q => by obtain ⟨q0, q1, qP, qK, qD, qx0, qx1⟩ := q; exact ⟨q0, q1, qP, va_K.moved (u := U) (U := U.calling g mk a) (Vm.Alike.refl U.vm) qK, qD, nsM.same (u := U) (U := U.calling g mk a) rfl qx0, qx1⟩, va_recv hKc hPc (ci := 23) (q0 := 0) rfl rfl, fun U hU hW => ⟨rfl, by rw [hU], by rw [hU]; exact hPc, va_K.moved hW.alike hKc, hDc.weaken (fun _ _ _ _ => trivial), nsM.warm hW hns, by rw [hU]⟩⟩ rfl rfl hl.1 rfl (lv_room (Nat.le_of_ble_eq_true rfl)) dX23_list_75 ⟨(show (8 * (pp1 - pp) - 3 * n - 8 * cm) + (8 * (T - pp1) + 8) ≤ (8 * (T - pp) + 3) by omega), (show (120 * (pp1 - pp) + 4 * cp + 8 - 64 * n - 120 * cm) + (120 * (T - pp1) + 360) ≤ (120 * (T - pp) + 280) by omega)⟩) hS (fun q _ h => hFc q h) hFc (fun u r_23 tS H1 locs ht hvm hw hB hz1 hk1 hS => ?_)
                  obtain ⟨L22, F22, ff22, xa22, pp22, bb22, hf23_0, hf23_1, hf23_2, hf23_3, hP1, hK1, hD1⟩ := hB
                  rw [ht] at hP1
                  replace hK1 := va_K.moved hvm.symm hK1
                  rw [ht] at hf23_3
                  have hgz : H1.size ≤ s.heap.size + (((8 * (pp1 - pp) - 3 * n - 8 * cm) + 8 * (pp22 - pp1) + 3)) ∧ slN H1 ≤ slN s.heap + (((120 * (pp1 - pp) + 4 * cp + 8 - 64 * n - 120 * cm) + 120 * (pp22 - pp1) + 48)) := ⟨by have := hf23_3.1; omega, by have := hf23_3.2; omega⟩
                  obtain ⟨hPj, hDj⟩ := va_joinB (wr := [(ee, .inr (15, [.int 6, .int tx, .int gx, .int nx, .int 0, .int 0, .long 0, .int 0, .null, .ref la, .ref sa, .int (nI n), .null, .null])), (la, .inl (kE, cp, .inr (.inr (.inr (.inr f))))), (sa, .inl (kI, cp, .inl g))]) (w1 := [(m9, .inr (23, mA mr mv vf xl (nI zs) ff22 xa22 (nI T) (nI pp22) xi xt xn (nI (ns + 1)) (nI vv) (nI bb22))), (mr 5, .inl (kI, 3002, .inl fk)), (mr 6, .inl (kI, 3002, .inl fa)), (mr 8, .inl (kL, 3002, .inr (.inl fn)))]) hP hD [6, 3, 4, 5] [0, 1, 2] rfl rfl (by decide) (by decide) hk1 hFc hP1 hD1
                  replace hP := hPj
                  replace hD := hDj
                  clear hPj hDj
                  replace hK := hK.app hK1
                  generalize H1 = H at hP hS hgz ⊢
                  replace hP : va_P (dC, dI) vwCl (([(ee, .inr (15, [.int 6, .int tx, .int gx, .int nx, .int 0, .int 0, .long 0, .int 0, .null, .ref la, .ref sa, .int (nI n), .null, .null])), (la, .inl (kE, cp, .inr (.inr (.inr (.inr f))))), (sa, .inl (kI, cp, .inl g)), (m9, .inr (23, mA mr mv vf xl (nI zs) ff22 xa22 (nI T) (nI pp22) xi xt xn (nI (ns + 1)) (nI vv) (nI bb22))), (mr 5, .inl (kI, 3002, .inl fk)), (mr 6, .inl (kI, 3002, .inl fa)), (mr 8, .inl (kL, 3002, .inr (.inl fn)))] : va_W) ++ (sT L22 F22)) H := hP
                  replace hD : va_D A (([(ee, .inr (15, [.int 6, .int tx, .int gx, .int nx, .int 0, .int 0, .long 0, .int 0, .null, .ref la, .ref sa, .int (nI n), .null, .null])), (la, .inl (kE, cp, .inr (.inr (.inr (.inr f))))), (sa, .inl (kI, cp, .inl g)), (m9, .inr (23, mA mr mv vf xl (nI zs) ff22 xa22 (nI T) (nI pp22) xi xt xn (nI (ns + 1)) (nI vv) (nI bb22))), (mr 5, .inl (kI, 3002, .inl fk)), (mr 6, .inl (kI, 3002, .inl fa)), (mr 8, .inl (kL, 3002, .inr (.inl fn)))] : va_W) ++ (sT L22 F22)) := hD
                  replace hK : va_K (dC, dI) vwCl [(kI, .int), (kL, .long), (kE, .object RX15), (kI, .int), (kL, .long), (kE, .object RX15)] s := hK
                  replace hK := hK.sub (tys' := [(kI, .int), (kL, .long), (kE, .object RX15)]) [0, 1, 2] rfl
                  refine W.tight (k := ((8 * (pp1 - pp) - 3 * n - 8 * cm) + 8 * (pp22 - pp1) + 3)) (n := ((120 * (pp1 - pp) + 4 * cp + 8 - 64 * n - 120 * cm) + 120 * (pp22 - pp1) + 48)) hgz.1 hgz.2 ?_
                  clear hz1 hk1 hPc hDc hKc hFc hP1 hD1 hK1
                  refine lv_iconst (v := 0) hx hb dX23_list_78 (by decide) ?_
                  replace hPc := hP.subT (f' := [(ee, .inr (15, [.int 6, .int tx, .int gx, .int nx, .int 0, .int 0, .long 0, .int 0, .null, .ref la, .ref sa, .int (nI n), .null, .null])), (la, .inl (kE, cp, .inr (.inr (.inr (.inr f))))), (sa, .inl (kI, cp, .inl g))]) [0, 1, 2] rfl
                  replace hDc := hD.subT (f' := [(ee, .inr (15, [.int 6, .int tx, .int gx, .int nx, .int 0, .int 0, .long 0, .int 0, .null, .ref la, .ref sa, .int (nI n), .null, .null])), (la, .inl (kE, cp, .inr (.inr (.inr (.inr f))))), (sa, .inl (kI, cp, .inl g))]) [0, 1, 2] (by decide) rfl
                  replace hKc := hK.sub (tys' := [(kI, .int), (kE, .object RX15)]) [0, 2] rfl
                  replace hFc := va_freeB (wc := [(ee, .inr (15, [.int 6, .int tx, .int gx, .int nx, .int 0, .int 0, .long 0, .int 0, .null, .ref la, .ref sa, .int (nI n), .null, .null])), (la, .inl (kE, cp, .inr (.inr (.inr (.inr f))))), (sa, .inl (kI, cp, .inl g))]) hD hS hA [0, 1, 2] rfl
                  refine W.grow (fun hgs0 hgs1 => ?_)
                  refine va_callv (va_runS (As := [.ref ee, .ref r_23, .int 0]) (rest := []) ⟨hx, hb, hml, hown, hts⟩ (c_xaA l dC dI ee r_23 6 tx gx nx 0 0 0 .null kI kE la sa n cp f g L22 F22 (slN H) H.size hf23_0.2 (by omega) (fun i hi => by obtain ⟨x9, y9, z9⟩ := hr3 i hi; exact ⟨x9, y9, xO_ex hf23_0.1 z9⟩)) (va_cwS 3 hts g_c_xli6_c_xaA_79 rfl rfl rfl (by decide +kernel) ⟨by show 0 + 1 ≤ 2 + 12 * k; omega, by show 8 + (6 + 11) + (0) ≤ 43 + 279 * k; omega⟩) ⟨fun a U g mk q => by obtain ⟨q0, q1, qP, qK, qD, qx0, qx1⟩ := q; exact ⟨q0, q1, qP, va_K.moved (u := U) (U := U.calling g mk a) (Vm.Alike.refl U.vm) qK, qD, nsM.same (u := U) (U := U.calling g mk a) rfl qx0, qx1⟩, fun U hU hW => ⟨rfl, by rw [hU], by rw [hU]; exact hPc, va_K.moved hW.alike hKc, hDc.weaken (fun _ _ _ _ => trivial), nsM.warm hW hns, by rw [hU]⟩⟩ rfl rfl hl.1 rfl (lv_room (Nat.le_of_ble_eq_true rfl)) dX23_list_79 ⟨(show ((8 * (pp1 - pp) - 3 * n - 8 * cm) + 8 * (pp22 - pp1) + 3) + 2 ≤ (8 * (T - pp) + 3) by omega), (show ((120 * (pp1 - pp) + 4 * cp + 8 - 64 * n - 120 * cm) + 120 * (pp22 - pp1) + 48) + (4 * cp) ≤ (120 * (T - pp) + 280) by omega)⟩) hS (fun q _ h => hFc q h) hFc (fun u tS H1 locs ht hvm hw hB hz1 hk1 hS => ?_)
                  obtain ⟨la23, sa23, cp23, f23, g23, hf24_0, hf24_1, hf24_2, hf24_3, hf24_4, hP1, hK1, hD1⟩ := hB
                  rw [ht] at hP1
                  replace hK1 := va_K.moved hvm.symm hK1
                  rw [ht] at hf24_4
                  have hgz : H1.size ≤ s.heap.size + ((((8 * (pp1 - pp) - 3 * n - 8 * cm) + 8 * (pp22 - pp1) + 3) + 2)) ∧ slN H1 ≤ slN s.heap + ((((120 * (pp1 - pp) + 4 * cp + 8 - 64 * n - 120 * cm) + 120 * (pp22 - pp1) + 48) + 4 * (cp23 - cp))) := ⟨by have := hf24_4.1; omega, by have := hf24_4.2; omega⟩
                  obtain ⟨hPj, hDj⟩ := va_joinB (wr := [(m9, .inr (23, mA mr mv vf xl (nI zs) ff22 xa22 (nI T) (nI pp22) xi xt xn (nI (ns + 1)) (nI vv) (nI bb22))), (mr 5, .inl (kI, 3002, .inl fk)), (mr 6, .inl (kI, 3002, .inl fa)), (mr 8, .inl (kL, 3002, .inr (.inl fn)))]) (w1 := [(ee, .inr (15, [.int 6, .int tx, .int gx, .int nx, .int 0, .int 0, .long 0, .int 0, .null, .ref la23, .ref sa23, .int (nI (n + 1)), .null, .null])), (la23, .inl (kE, cp23, .inr (.inr (.inr (.inr f23))))), (sa23, .inl (kI, cp23, .inl g23))]) hP hD [0, 1, 2] [3, 4, 5, 6] rfl rfl (by decide) (by decide) hk1 hFc hP1 hD1
                  replace hP := hPj
                  replace hD := hDj
                  clear hPj hDj
                  replace hK := hK.app hK1
                  generalize H1 = H at hP hS hgz ⊢
                  replace hP : va_P (dC, dI) vwCl (([(m9, .inr (23, mA mr mv vf xl (nI zs) ff22 xa22 (nI T) (nI pp22) xi xt xn (nI (ns + 1)) (nI vv) (nI bb22))), (mr 5, .inl (kI, 3002, .inl fk)), (mr 6, .inl (kI, 3002, .inl fa)), (mr 8, .inl (kL, 3002, .inr (.inl fn))), (ee, .inr (15, [.int 6, .int tx, .int gx, .int nx, .int 0, .int 0, .long 0, .int 0, .null, .ref la23, .ref sa23, .int (nI (n + 1)), .null, .null])), (la23, .inl (kE, cp23, .inr (.inr (.inr (.inr f23))))), (sa23, .inl (kI, cp23, .inl g23))] : va_W) ++ (sT L22 F22)) H := hP
                  replace hD : va_D A (([(m9, .inr (23, mA mr mv vf xl (nI zs) ff22 xa22 (nI T) (nI pp22) xi xt xn (nI (ns + 1)) (nI vv) (nI bb22))), (mr 5, .inl (kI, 3002, .inl fk)), (mr 6, .inl (kI, 3002, .inl fa)), (mr 8, .inl (kL, 3002, .inr (.inl fn))), (ee, .inr (15, [.int 6, .int tx, .int gx, .int nx, .int 0, .int 0, .long 0, .int 0, .null, .ref la23, .ref sa23, .int (nI (n + 1)), .null, .null])), (la23, .inl (kE, cp23, .inr (.inr (.inr (.inr f23))))), (sa23, .inl (kI, cp23, .inl g23))] : va_W) ++ (sT L22 F22)) := hD
                  replace hK : va_K (dC, dI) vwCl [(kI, .int), (kL, .long), (kE, .object RX15), (kI, .int), (kE, .object RX15)] s := hK
                  replace hK := hK.sub (tys' := [(kI, .int), (kL, .long), (kE, .object RX15)]) [0, 1, 2] rfl
                  refine W.tight (k := (((8 * (pp1 - pp) - 3 * n - 8 * cm) + 8 * (pp22 - pp1) + 3) + 2)) (n := (((120 * (pp1 - pp) + 4 * cp + 8 - 64 * n - 120 * cm) + 120 * (pp22 - pp1) + 48) + 4 * (cp23 - cp))) hgz.1 hgz.2 ?_
                  clear hz1 hk1 hPc hDc hKc hFc hP1 hD1 hK1
                  refine lv_aload_n hx hb dX23_list_82 rfl (lv_at hl 1 rfl) ?_
                  refine lv_bipush (v := 57) hx hb dX23_list_83 (by decide) ?_
                  by_cases hz_25 : ff22 = 0
                  · subst hz_25
                    have hg22 := hf23_2 rfl
                    have hlthg22 := (isE_mem hg22.2).2
                    by_cases hk_26 : fk pp22 = 57
                    · replace hPc := hP.subF (f' := [(m9, .inr (23, mA mr mv vf xl (nI zs) 0 xa22 (nI T) (nI pp22) xi xt xn (nI (ns + 1)) (nI vv) (nI bb22))), (mr 5, .inl (kI, 3002, .inl fk))]) [0, 1] rfl
                      replace hDc := hD.subF (f' := [(m9, .inr (23, mA mr mv vf xl (nI zs) 0 xa22 (nI T) (nI pp22) xi xt xn (nI (ns + 1)) (nI vv) (nI bb22))), (mr 5, .inl (kI, 3002, .inl fk))]) [0, 1] (by decide) rfl
                      replace hKc := hK.sub (tys' := [(kI, .int)]) [0] rfl
                      replace hFc := va_freeT (wc := [(m9, .inr (23, mA mr mv vf xl (nI zs) 0 xa22 (nI T) (nI pp22) xi xt xn (nI (ns + 1)) (nI vv) (nI bb22))), (mr 5, .inl (kI, 3002, .inl fk))]) hD hS hA [0, 1] rfl
                      refine va_calli (va_runV (As := [.int 57]) (rest := []) ⟨hx, hb, hml, hown, hts⟩ (c_rtsY l dC dI m9 mr mv vf xl xa22 xi xt xn zs T pp22 (ns + 1) vv bb22 kI fk fa 57 H.size hT hf23_1.2.1 hk0 (by decide) hk_26) (cwV 1 hts g_c_xli6_c_rtsY_85 rfl rfl rfl (by decide +kernel) ⟨by show 1 + 1 ≤ 2 + 12 * k; omega, by show 8 + (2 + 11) + (21) ≤ 43 + 279 * k; omega⟩) ⟨fun a U g mk q => by obtain ⟨q0, q1, qP, qK, qD⟩ := q; exact ⟨q0, q1, qP, va_K.moved (u := U) (U := U.calling g mk a) (Vm.Alike.refl U.vm) qK, qD⟩, va_recv hKc hPc (ci := 23) (q0 := 0) rfl rfl, fun U hU hW => ⟨rfl, by rw [hU], by rw [hU]; exact hPc, va_K.moved hW.alike hKc, hDc.weaken (fun _ _ _ _ => trivial)⟩⟩ rfl rfl hl.1 rfl (lv_room (Nat.le_of_ble_eq_true rfl)) dX23_list_85 ⟨(show (((8 * (pp1 - pp) - 3 * n - 8 * cm) + 8 * (pp22 - pp1) + 3) + 2) + 0 ≤ (8 * (T - pp) + 3) by omega), (show (((120 * (pp1 - pp) + 4 * cp + 8 - 64 * n - 120 * cm) + 120 * (pp22 - pp1) + 48) + 4 * (cp23 - cp)) + 0 ≤ (120 * (T - pp) + 280) by omega)⟩) hS (fun q _ h => hFc q h) hFc (fun r_27 u tS H1 locs ht hvm hw hB hz1 hk1 hS => ?_)
                      obtain ⟨hP1, hK1, hD1⟩ := hB
                      rw [ht] at hP1
                      replace hK1 := va_K.moved hvm.symm hK1
                      obtain ⟨hPj, hDj⟩ := va_joinT (wr := [(mr 6, .inl (kI, 3002, .inl fa)), (mr 8, .inl (kL, 3002, .inr (.inl fn))), (ee, .inr (15, [.int 6, .int tx, .int gx, .int nx, .int 0, .int 0, .long 0, .int 0, .null, .ref la23, .ref sa23, .int (nI (n + 1)), .null, .null])), (la23, .inl (kE, cp23, .inr (.inr (.inr (.inr f23))))), (sa23, .inl (kI, cp23, .inl g23))]) (w1 := [(m9, .inr (23, mA mr mv vf xl (nI zs) 0 xa22 (nI T) (nI (pp22 + 1)) xi xt xn (nI (ns + 1)) (nI vv) (nI bb22))), (mr 5, .inl (kI, 3002, .inl fk))]) hP hD [0, 1] [2, 3, 4, 5, 6] rfl rfl (by decide) (by decide) hk1 hFc hP1 hD1
                      replace hP := hPj
                      replace hD := hDj
                      clear hPj hDj
                      replace hK := hK.app hK1
                      generalize H1 = H at hP hS ⊢
                      replace hP : va_P (dC, dI) vwCl (([(mr 6, .inl (kI, 3002, .inl fa)), (mr 8, .inl (kL, 3002, .inr (.inl fn))), (ee, .inr (15, [.int 6, .int tx, .int gx, .int nx, .int 0, .int 0, .long 0, .int 0, .null, .ref la23, .ref sa23, .int (nI (n + 1)), .null, .null])), (la23, .inl (kE, cp23, .inr (.inr (.inr (.inr f23))))), (sa23, .inl (kI, cp23, .inl g23)), (m9, .inr (23, mA mr mv vf xl (nI zs) 0 xa22 (nI T) (nI (pp22 + 1)) xi xt xn (nI (ns + 1)) (nI vv) (nI bb22))), (mr 5, .inl (kI, 3002, .inl fk))] : va_W) ++ (sT L22 F22)) H := hP
                      replace hD : va_D A (([(mr 6, .inl (kI, 3002, .inl fa)), (mr 8, .inl (kL, 3002, .inr (.inl fn))), (ee, .inr (15, [.int 6, .int tx, .int gx, .int nx, .int 0, .int 0, .long 0, .int 0, .null, .ref la23, .ref sa23, .int (nI (n + 1)), .null, .null])), (la23, .inl (kE, cp23, .inr (.inr (.inr (.inr f23))))), (sa23, .inl (kI, cp23, .inl g23)), (m9, .inr (23, mA mr mv vf xl (nI zs) 0 xa22 (nI T) (nI (pp22 + 1)) xi xt xn (nI (ns + 1)) (nI vv) (nI bb22))), (mr 5, .inl (kI, 3002, .inl fk))] : va_W) ++ (sT L22 F22)) := hD
                      replace hK : va_K (dC, dI) vwCl [(kI, .int), (kL, .long), (kE, .object RX15), (kI, .int)] s := hK
                      replace hK := hK.sub (tys' := [(kI, .int), (kL, .long), (kE, .object RX15)]) [0, 1, 2] rfl
                      clear hz1 hk1 hPc hDc hKc hFc hP1 hD1 hK1
                      obtain rfl : r_27 = 1 := hw
                      have hp_28 : pp22 + 1 < T := kne3 hk0 hf23_1.2.1 hk_26 (by decide)
                      refine lv_istore_n (lv' := [(2, .int 1), (0, .ref m9), (1, .ref ee)]) hx hb dX23_list_88 rfl hl (by decide) rfl (fun ls hl => ?_)
                      refine lv_goto (tgt := 62) hx hb dX23_list_89 (by decide) ?_
                      refine W.widen (k := (8 * ((pp22 + 1) - pp) - 3 * (n + 1) - 8 * 1)) (n := (120 * ((pp22 + 1) - pp) + 4 * cp23 + 8 - 64 * (n + 1) - 120 * 1)) (by omega) (by omega) ?_
                      exact ih1 (pp22 + 1) bb22 la23 sa23 cp23 (n + 1) 1 0 xa22 1 L22 F22 f23 g23 _ _ _ (⟨by omega, by omega, by omega, by omega, by omega, by omega, by omega, by omega, by omega, by omega, by omega, hT⟩) (Or.inr (by omega)) (hr2.tr hf23_0.1) (fun i hi => by
                        by_cases e9 : i = n
                        · subst e9; exact ⟨_, hf24_2.1, hf23_0.2⟩
                        · obtain ⟨x9, y9, z9⟩ := hr3 i (by omega); exact ⟨x9, (hf24_1 i (by omega)).1.trans y9, xO_ex hf23_0.1 z9⟩) (fun _ => ⟨hg22.1, _, chP_add (chP_im (fun x p q b c z => isE_im hf23_0.1 _ (Nat.le_refl _) z) hr5) (fun i hi => hf24_1 i hi) hf24_2.1 (hf24_2.2.trans rfl) hr6 (isE_im exS.rf _ (by omega) hg22.2) (Or.inl ⟨rfl, rfl⟩), Or.inr ⟨by decide, rfl, by omega⟩⟩) (hP.subT [2, 3, 4, 5, 6, 0, 1] rfl) (hD.subT [2, 3, 4, 5, 6, 0, 1] (by decide) rfl) hS (lv_sub hl [0, 1, 2] rfl)
                    · replace hPc := hP.subF (f' := [(m9, .inr (23, mA mr mv vf xl (nI zs) 0 xa22 (nI T) (nI pp22) xi xt xn (nI (ns + 1)) (nI vv) (nI bb22))), (mr 5, .inl (kI, 3002, .inl fk))]) [0, 1] rfl
                      replace hDc := hD.subF (f' := [(m9, .inr (23, mA mr mv vf xl (nI zs) 0 xa22 (nI T) (nI pp22) xi xt xn (nI (ns + 1)) (nI vv) (nI bb22))), (mr 5, .inl (kI, 3002, .inl fk))]) [0, 1] (by decide) rfl
                      replace hKc := hK.sub (tys' := [(kI, .int)]) [0] rfl
                      replace hFc := va_freeT (wc := [(m9, .inr (23, mA mr mv vf xl (nI zs) 0 xa22 (nI T) (nI pp22) xi xt xn (nI (ns + 1)) (nI vv) (nI bb22))), (mr 5, .inl (kI, 3002, .inl fk))]) hD hS hA [0, 1] rfl
                      refine va_calli (va_runV (As := [.int 57]) (rest := []) ⟨hx, hb, hml, hown, hts⟩ (c_rtsN l dC dI m9 mr mv vf xl xa22 xi xt xn zs T pp22 (ns + 1) vv bb22 kI fk fa 57 H.size hT hf23_1.2.1 hk0 (by decide) hk_26) (cwV 1 hts g_c_xli6_c_rtsN_85 rfl rfl rfl (by decide +kernel) ⟨by show 1 + 1 ≤ 2 + 12 * k; omega, by show 8 + (2 + 11) + (21) ≤ 43 + 279 * k; omega⟩) ⟨fun a U g mk q => by obtain ⟨q0, q1, qP, qK, qD⟩ := q; exact ⟨q0, q1, qP, va_K.moved (u := U) (U := U.calling g mk a) (Vm.Alike.refl U.vm) qK, qD⟩, va_recv hKc hPc (ci := 23) (q0 := 0) rfl rfl, fun U hU hW => ⟨rfl, by rw [hU], by rw [hU]; exact hPc, va_K.moved hW.alike hKc, hDc.weaken (fun _ _ _ _ => trivial)⟩⟩ rfl rfl hl.1 rfl (lv_room (Nat.le_of_ble_eq_true rfl)) dX23_list_85 ⟨(show (((8 * (pp1 - pp) - 3 * n - 8 * cm) + 8 * (pp22 - pp1) + 3) + 2) + 0 ≤ (8 * (T - pp) + 3) by omega), (show (((120 * (pp1 - pp) + 4 * cp + 8 - 64 * n - 120 * cm) + 120 * (pp22 - pp1) + 48) + 4 * (cp23 - cp)) + 0 ≤ (120 * (T - pp) + 280) by omega)⟩) hS (fun q _ h => hFc q h) hFc (fun r_27 u tS H1 locs ht hvm hw hB hz1 hk1 hS => ?_)
                      obtain ⟨hP1, hK1, hD1⟩ := hB
                      rw [ht] at hP1
                      replace hK1 := va_K.moved hvm.symm hK1
                      obtain ⟨hPj, hDj⟩ := va_joinT (wr := [(mr 6, .inl (kI, 3002, .inl fa)), (mr 8, .inl (kL, 3002, .inr (.inl fn))), (ee, .inr (15, [.int 6, .int tx, .int gx, .int nx, .int 0, .int 0, .long 0, .int 0, .null, .ref la23, .ref sa23, .int (nI (n + 1)), .null, .null])), (la23, .inl (kE, cp23, .inr (.inr (.inr (.inr f23))))), (sa23, .inl (kI, cp23, .inl g23))]) (w1 := [(m9, .inr (23, mA mr mv vf xl (nI zs) 0 xa22 (nI T) (nI pp22) xi xt xn (nI (ns + 1)) (nI vv) (nI bb22))), (mr 5, .inl (kI, 3002, .inl fk))]) hP hD [0, 1] [2, 3, 4, 5, 6] rfl rfl (by decide) (by decide) hk1 hFc hP1 hD1
                      replace hP := hPj
                      replace hD := hDj
                      clear hPj hDj
                      replace hK := hK.app hK1
                      generalize H1 = H at hP hS ⊢
                      replace hP : va_P (dC, dI) vwCl (([(mr 6, .inl (kI, 3002, .inl fa)), (mr 8, .inl (kL, 3002, .inr (.inl fn))), (ee, .inr (15, [.int 6, .int tx, .int gx, .int nx, .int 0, .int 0, .long 0, .int 0, .null, .ref la23, .ref sa23, .int (nI (n + 1)), .null, .null])), (la23, .inl (kE, cp23, .inr (.inr (.inr (.inr f23))))), (sa23, .inl (kI, cp23, .inl g23)), (m9, .inr (23, mA mr mv vf xl (nI zs) 0 xa22 (nI T) (nI pp22) xi xt xn (nI (ns + 1)) (nI vv) (nI bb22))), (mr 5, .inl (kI, 3002, .inl fk))] : va_W) ++ (sT L22 F22)) H := hP
                      replace hD : va_D A (([(mr 6, .inl (kI, 3002, .inl fa)), (mr 8, .inl (kL, 3002, .inr (.inl fn))), (ee, .inr (15, [.int 6, .int tx, .int gx, .int nx, .int 0, .int 0, .long 0, .int 0, .null, .ref la23, .ref sa23, .int (nI (n + 1)), .null, .null])), (la23, .inl (kE, cp23, .inr (.inr (.inr (.inr f23))))), (sa23, .inl (kI, cp23, .inl g23)), (m9, .inr (23, mA mr mv vf xl (nI zs) 0 xa22 (nI T) (nI pp22) xi xt xn (nI (ns + 1)) (nI vv) (nI bb22))), (mr 5, .inl (kI, 3002, .inl fk))] : va_W) ++ (sT L22 F22)) := hD
                      replace hK : va_K (dC, dI) vwCl [(kI, .int), (kL, .long), (kE, .object RX15), (kI, .int)] s := hK
                      replace hK := hK.sub (tys' := [(kI, .int), (kL, .long), (kE, .object RX15)]) [0, 1, 2] rfl
                      clear hz1 hk1 hPc hDc hKc hFc hP1 hD1 hK1
                      obtain rfl : r_27 = 0 := hw
                      refine lv_istore_n (lv' := [(2, .int 0), (0, .ref m9), (1, .ref ee)]) hx hb dX23_list_88 rfl hl (by decide) rfl (fun ls hl => ?_)
                      refine lv_goto (tgt := 62) hx hb dX23_list_89 (by decide) ?_
                      refine W.widen (k := (8 * (pp22 - pp) - 3 * (n + 1) - 8 * 0)) (n := (120 * (pp22 - pp) + 4 * cp23 + 8 - 64 * (n + 1) - 120 * 0)) (by omega) (by omega) ?_
                      exact ih1 pp22 bb22 la23 sa23 cp23 (n + 1) 0 0 xa22 0 L22 F22 f23 g23 _ _ _ (⟨by omega, by omega, by omega, by omega, by omega, by omega, by omega, by omega, by omega, by omega, by omega, hT⟩) (Or.inr (by omega)) (hr2.tr hf23_0.1) (fun i hi => by
                        by_cases e9 : i = n
                        · subst e9; exact ⟨_, hf24_2.1, hf23_0.2⟩
                        · obtain ⟨x9, y9, z9⟩ := hr3 i (by omega); exact ⟨x9, (hf24_1 i (by omega)).1.trans y9, xO_ex hf23_0.1 z9⟩) (fun _ => ⟨hg22.1, _, chP_add (chP_im (fun x p q b c z => isE_im hf23_0.1 _ (Nat.le_refl _) z) hr5) (fun i hi => hf24_1 i hi) hf24_2.1 (hf24_2.2.trans rfl) hr6 (isE_im exS.rf _ (by omega) hg22.2) (Or.inl ⟨rfl, rfl⟩), Or.inl ⟨rfl, rfl, by omega⟩⟩) (hP.subT [2, 3, 4, 5, 6, 0, 1] rfl) (hD.subT [2, 3, 4, 5, 6, 0, 1] (by decide) rfl) hS (lv_sub hl [0, 1, 2] rfl)
                  · replace hPc := hP.subF (f' := [(m9, .inr (23, mA mr mv vf xl (nI zs) ff22 xa22 (nI T) (nI pp22) xi xt xn (nI (ns + 1)) (nI vv) (nI bb22))), (mr 5, .inl (kI, 3002, .inl fk))]) [0, 1] rfl
                    replace hDc := hD.subF (f' := [(m9, .inr (23, mA mr mv vf xl (nI zs) ff22 xa22 (nI T) (nI pp22) xi xt xn (nI (ns + 1)) (nI vv) (nI bb22))), (mr 5, .inl (kI, 3002, .inl fk))]) [0, 1] (by decide) rfl
                    replace hKc := hK.sub (tys' := [(kI, .int)]) [0] rfl
                    replace hFc := va_freeT (wc := [(m9, .inr (23, mA mr mv vf xl (nI zs) ff22 xa22 (nI T) (nI pp22) xi xt xn (nI (ns + 1)) (nI vv) (nI bb22))), (mr 5, .inl (kI, 3002, .inl fk))]) hD hS hA [0, 1] rfl
                    refine va_calli (va_runV (As := [.int 57]) (rest := []) ⟨hx, hb, hml, hown, hts⟩ (c_rtsB l dC dI m9 mr mv vf xl xa22 xi xt xn zs T pp22 (ns + 1) vv bb22 kI fk fa ff22 57 H.size hz_25) (cwV 1 hts g_c_xli6_c_rtsB_85 rfl rfl rfl (by decide +kernel) ⟨by show 1 + 1 ≤ 2 + 12 * k; omega, by show 8 + (2 + 11) + (20) ≤ 43 + 279 * k; omega⟩) ⟨fun a U g mk q => by obtain ⟨q0, q1, qP, qK, qD⟩ := q; exact ⟨q0, q1, qP, va_K.moved (u := U) (U := U.calling g mk a) (Vm.Alike.refl U.vm) qK, qD⟩, va_recv hKc hPc (ci := 23) (q0 := 0) rfl rfl, fun U hU hW => ⟨rfl, by rw [hU], by rw [hU]; exact hPc, va_K.moved hW.alike hKc, hDc.weaken (fun _ _ _ _ => trivial)⟩⟩ rfl rfl hl.1 rfl (lv_room (Nat.le_of_ble_eq_true rfl)) dX23_list_85 ⟨(show (((8 * (pp1 - pp) - 3 * n - 8 * cm) + 8 * (pp22 - pp1) + 3) + 2) + 0 ≤ (8 * (T - pp) + 3) by omega), (show (((120 * (pp1 - pp) + 4 * cp + 8 - 64 * n - 120 * cm) + 120 * (pp22 - pp1) + 48) + 4 * (cp23 - cp)) + 0 ≤ (120 * (T - pp) + 280) by omega)⟩) hS (fun q _ h => hFc q h) hFc (fun r_26 u tS H1 locs ht hvm hw hB hz1 hk1 hS => ?_)
                    obtain ⟨hP1, hK1, hD1⟩ := hB
                    rw [ht] at hP1
                    replace hK1 := va_K.moved hvm.symm hK1
                    obtain ⟨hPj, hDj⟩ := va_joinT (wr := [(mr 6, .inl (kI, 3002, .inl fa)), (mr 8, .inl (kL, 3002, .inr (.inl fn))), (ee, .inr (15, [.int 6, .int tx, .int gx, .int nx, .int 0, .int 0, .long 0, .int 0, .null, .ref la23, .ref sa23, .int (nI (n + 1)), .null, .null])), (la23, .inl (kE, cp23, .inr (.inr (.inr (.inr f23))))), (sa23, .inl (kI, cp23, .inl g23))]) (w1 := [(m9, .inr (23, mA mr mv vf xl (nI zs) ff22 xa22 (nI T) (nI pp22) xi xt xn (nI (ns + 1)) (nI vv) (nI bb22))), (mr 5, .inl (kI, 3002, .inl fk))]) hP hD [0, 1] [2, 3, 4, 5, 6] rfl rfl (by decide) (by decide) hk1 hFc hP1 hD1
                    replace hP := hPj
                    replace hD := hDj
                    clear hPj hDj
                    replace hK := hK.app hK1
                    generalize H1 = H at hP hS ⊢
                    replace hP : va_P (dC, dI) vwCl (([(mr 6, .inl (kI, 3002, .inl fa)), (mr 8, .inl (kL, 3002, .inr (.inl fn))), (ee, .inr (15, [.int 6, .int tx, .int gx, .int nx, .int 0, .int 0, .long 0, .int 0, .null, .ref la23, .ref sa23, .int (nI (n + 1)), .null, .null])), (la23, .inl (kE, cp23, .inr (.inr (.inr (.inr f23))))), (sa23, .inl (kI, cp23, .inl g23)), (m9, .inr (23, mA mr mv vf xl (nI zs) ff22 xa22 (nI T) (nI pp22) xi xt xn (nI (ns + 1)) (nI vv) (nI bb22))), (mr 5, .inl (kI, 3002, .inl fk))] : va_W) ++ (sT L22 F22)) H := hP
                    replace hD : va_D A (([(mr 6, .inl (kI, 3002, .inl fa)), (mr 8, .inl (kL, 3002, .inr (.inl fn))), (ee, .inr (15, [.int 6, .int tx, .int gx, .int nx, .int 0, .int 0, .long 0, .int 0, .null, .ref la23, .ref sa23, .int (nI (n + 1)), .null, .null])), (la23, .inl (kE, cp23, .inr (.inr (.inr (.inr f23))))), (sa23, .inl (kI, cp23, .inl g23)), (m9, .inr (23, mA mr mv vf xl (nI zs) ff22 xa22 (nI T) (nI pp22) xi xt xn (nI (ns + 1)) (nI vv) (nI bb22))), (mr 5, .inl (kI, 3002, .inl fk))] : va_W) ++ (sT L22 F22)) := hD
                    replace hK : va_K (dC, dI) vwCl [(kI, .int), (kL, .long), (kE, .object RX15), (kI, .int)] s := hK
                    replace hK := hK.sub (tys' := [(kI, .int), (kL, .long), (kE, .object RX15)]) [0, 1, 2] rfl
                    clear hz1 hk1 hPc hDc hKc hFc hP1 hD1 hK1
                    obtain rfl : r_26 = 0 := hw
                    refine lv_istore_n (lv' := [(2, .int 0), (0, .ref m9), (1, .ref ee)]) hx hb dX23_list_88 rfl hl (by decide) rfl (fun ls hl => ?_)
                    refine lv_goto (tgt := 62) hx hb dX23_list_89 (by decide) ?_
                    refine W.widen (k := (8 * (pp22 - pp) - 3 * (n + 1) - 8 * 0)) (n := (120 * (pp22 - pp) + 4 * cp23 + 8 - 64 * (n + 1) - 120 * 0)) (by omega) (by omega) ?_
                    exact ih1 pp22 bb22 la23 sa23 cp23 (n + 1) 0 ff22 xa22 0 L22 F22 f23 g23 _ _ _ (⟨by omega, by omega, by omega, by omega, by omega, by omega, by omega, by omega, by omega, by omega, by omega, hT⟩) (Or.inl hz_25) (hr2.tr hf23_0.1) (fun i hi => by
                      by_cases e9 : i = n
                      · subst e9; exact ⟨_, hf24_2.1, hf23_0.2⟩
                      · obtain ⟨x9, y9, z9⟩ := hr3 i (by omega); exact ⟨x9, (hf24_1 i (by omega)).1.trans y9, xO_ex hf23_0.1 z9⟩) (fun q9 => absurd q9 hz_25) (hP.subT [2, 3, 4, 5, 6, 0, 1] rfl) (hD.subT [2, 3, 4, 5, 6, 0, 1] (by decide) rfl) hS (lv_sub hl [0, 1, 2] rfl)
              · replace hPc := hP.subF (f' := [(m9, .inr (23, mA mr mv vf xl (nI zs) ff1 xa1 (nI T) (nI pp1) xi xt xn (nI (ns + 1)) (nI vv) (nI bb1)))]) [3] rfl
                replace hDc := hD.subF (f' := [(m9, .inr (23, mA mr mv vf xl (nI zs) ff1 xa1 (nI T) (nI pp1) xi xt xn (nI (ns + 1)) (nI vv) (nI bb1)))]) [3] (by decide) rfl
                replace hKc := hK.sub (tys' := []) [] rfl
                replace hFc := va_freeT (wc := [(m9, .inr (23, mA mr mv vf xl (nI zs) ff1 xa1 (nI T) (nI pp1) xi xt xn (nI (ns + 1)) (nI vv) (nI bb1)))]) hD hS hA [3] rfl
                refine va_calli (va_runV (As := []) (rest := []) ⟨hx, hb, hml, hown, hts⟩ (c_rokB l dC dI m9 mr mv vf xl xa1 xi xt xn zs T pp1 (ns + 1) vv bb1 kI fk fa ff1 H.size hz_19) (cwV 0 hts g_c_xli6_c_rokB_63 rfl rfl rfl (by decide +kernel) ⟨by show 0 + 1 ≤ 2 + 12 * k; omega, by show 8 + (1 + 11) + (0) ≤ 43 + 279 * k; omega⟩) ⟨fun a U g mk q => by obtain ⟨q0, q1, qP, qK, qD⟩ := q; exact ⟨q0, q1, qP, va_K.moved (u := U) (U := U.calling g mk a) (Vm.Alike.refl U.vm) qK, qD⟩, va_recv hKc hPc (ci := 23) (q0 := 0) rfl rfl, fun U hU hW => ⟨rfl, by rw [hU], by rw [hU]; exact hPc, va_K.moved hW.alike hKc, hDc.weaken (fun _ _ _ _ => trivial)⟩⟩ rfl rfl hl.1 rfl (lv_room (Nat.le_of_ble_eq_true rfl)) dX23_list_63 ⟨(show (8 * (pp1 - pp) - 3 * n - 8 * cm) + 0 ≤ (8 * (T - pp) + 3) by omega), (show (120 * (pp1 - pp) + 4 * cp + 8 - 64 * n - 120 * cm) + 0 ≤ (120 * (T - pp) + 280) by omega)⟩) hS (fun q _ h => hFc q h) hFc (fun r_20 u tS H1 locs ht hvm hw hB hz1 hk1 hS => ?_)
                obtain ⟨hP1, hK1, hD1⟩ := hB
                rw [ht] at hP1
                replace hK1 := va_K.moved hvm.symm hK1
                obtain ⟨hPj, hDj⟩ := va_joinT (wr := [(ee, .inr (15, [.int 6, .int tx, .int gx, .int nx, .int 0, .int 0, .long 0, .int 0, .null, .ref la, .ref sa, .int (nI n), .null, .null])), (la, .inl (kE, cp, .inr (.inr (.inr (.inr f))))), (sa, .inl (kI, cp, .inl g)), (mr 5, .inl (kI, 3002, .inl fk)), (mr 6, .inl (kI, 3002, .inl fa)), (mr 8, .inl (kL, 3002, .inr (.inl fn)))]) (w1 := [(m9, .inr (23, mA mr mv vf xl (nI zs) ff1 xa1 (nI T) (nI pp1) xi xt xn (nI (ns + 1)) (nI vv) (nI bb1)))]) hP hD [3] [0, 1, 2, 4, 5, 6] rfl rfl (by decide) (by decide) hk1 hFc hP1 hD1
                replace hP := hPj
                replace hD := hDj
                clear hPj hDj
                generalize H1 = H at hP hS ⊢
                replace hP : va_P (dC, dI) vwCl (([(ee, .inr (15, [.int 6, .int tx, .int gx, .int nx, .int 0, .int 0, .long 0, .int 0, .null, .ref la, .ref sa, .int (nI n), .null, .null])), (la, .inl (kE, cp, .inr (.inr (.inr (.inr f))))), (sa, .inl (kI, cp, .inl g)), (mr 5, .inl (kI, 3002, .inl fk)), (mr 6, .inl (kI, 3002, .inl fa)), (mr 8, .inl (kL, 3002, .inr (.inl fn))), (m9, .inr (23, mA mr mv vf xl (nI zs) ff1 xa1 (nI T) (nI pp1) xi xt xn (nI (ns + 1)) (nI vv) (nI bb1)))] : va_W) ++ (sT L1 F1)) H := hP
                replace hD : va_D A (([(ee, .inr (15, [.int 6, .int tx, .int gx, .int nx, .int 0, .int 0, .long 0, .int 0, .null, .ref la, .ref sa, .int (nI n), .null, .null])), (la, .inl (kE, cp, .inr (.inr (.inr (.inr f))))), (sa, .inl (kI, cp, .inl g)), (mr 5, .inl (kI, 3002, .inl fk)), (mr 6, .inl (kI, 3002, .inl fa)), (mr 8, .inl (kL, 3002, .inr (.inl fn))), (m9, .inr (23, mA mr mv vf xl (nI zs) ff1 xa1 (nI T) (nI pp1) xi xt xn (nI (ns + 1)) (nI vv) (nI bb1)))] : va_W) ++ (sT L1 F1)) := hD
                replace hK : va_K (dC, dI) vwCl [(kI, .int), (kL, .long), (kE, .object RX15)] s := hK
                clear hz1 hk1 hPc hDc hKc hFc hP1 hD1 hK1
                obtain rfl : r_20 = 0 := hw
                refine lv_if_eq (tgt := 92) hx hb dX23_list_66 (by decide) (fun _ => ?_) (fun c_21 => absurd (by decide) c_21)
                refine lv_aload_n hx hb dX23_list_92 rfl (lv_at hl 1 rfl) ?_
                refine lv_dup hx hb dX23_list_93 rfl ?_
                refine va_get (D := (dC, dI)) (ci := 23) (v := .int (nI (ns + 1))) (C := RX23) (T := TX23) (N := 89) hx hb hts in_c_xli6_X23 hown hK hP 6 rfl rfl 15 (by decide) (hts (.fieldLink RX23 104 "OwnedPlacesModel" "nest" "I") (wm_c_xli6 14 rfl)) (fun _ h9 => h9) rfl dX23_list_94 ?_
                refine lv_iconst (v := 1) hx hb dX23_list_97 (by decide) ?_
                refine lv_isub hx hb dX23_list_98 ?_
                refine lv_topi (fun f_22 ef_22 => ?_)
                obtain rfl : f_22 = nI ns := ef_22.trans (nI_pred _)
                refine va_put (D := (dC, dI)) (ci := 23) (v := .int (nI ns)) (ty := .int) (C := RX23) (T := TX23) (N := 89) hx hb hts in_c_xli6_X23 tyX23 tyX23_ok nmX23 hown hK hP hD hS 6 rfl rfl 15 (by decide) (hts (.fieldLink RX23 104 "OwnedPlacesModel" "nest" "I") (wm_c_xli6 14 rfl)) (fun _ h9 => h9) rfl (by decide +kernel) rfl rfl (Nat.le_of_ble_eq_true rfl) dX23_list_99 (fun H locs hP hD hS => ?_)
                replace hP : va_P (dC, dI) vwCl (([(ee, .inr (15, [.int 6, .int tx, .int gx, .int nx, .int 0, .int 0, .long 0, .int 0, .null, .ref la, .ref sa, .int (nI n), .null, .null])), (la, .inl (kE, cp, .inr (.inr (.inr (.inr f))))), (sa, .inl (kI, cp, .inl g)), (mr 5, .inl (kI, 3002, .inl fk)), (mr 6, .inl (kI, 3002, .inl fa)), (mr 8, .inl (kL, 3002, .inr (.inl fn))), (m9, .inr (23, mA mr mv vf xl (nI zs) ff1 xa1 (nI T) (nI pp1) xi xt xn (nI ns) (nI vv) (nI bb1)))] : va_W) ++ (sT L1 F1)) H := hP
                replace hD : va_D A (([(ee, .inr (15, [.int 6, .int tx, .int gx, .int nx, .int 0, .int 0, .long 0, .int 0, .null, .ref la, .ref sa, .int (nI n), .null, .null])), (la, .inl (kE, cp, .inr (.inr (.inr (.inr f))))), (sa, .inl (kI, cp, .inl g)), (mr 5, .inl (kI, 3002, .inl fk)), (mr 6, .inl (kI, 3002, .inl fa)), (mr 8, .inl (kL, 3002, .inr (.inl fn))), (m9, .inr (23, mA mr mv vf xl (nI zs) ff1 xa1 (nI T) (nI pp1) xi xt xn (nI ns) (nI vv) (nI bb1)))] : va_W) ++ (sT L1 F1)) := hD
                refine lv_aload_n hx hb dX23_list_102 rfl (lv_at hl 1 rfl) ?_
                refine lv_bipush (v := 62) hx hb dX23_list_103 (by decide) ?_
                replace hPc := hP.subF (f' := [(m9, .inr (23, mA mr mv vf xl (nI zs) ff1 xa1 (nI T) (nI pp1) xi xt xn (nI ns) (nI vv) (nI bb1))), (mr 5, .inl (kI, 3002, .inl fk)), (mr 6, .inl (kI, 3002, .inl fa))]) [6, 3, 4] rfl
                replace hDc := hD.subF (f' := [(m9, .inr (23, mA mr mv vf xl (nI zs) ff1 xa1 (nI T) (nI pp1) xi xt xn (nI ns) (nI vv) (nI bb1))), (mr 5, .inl (kI, 3002, .inl fk)), (mr 6, .inl (kI, 3002, .inl fa))]) [6, 3, 4] (by decide) rfl
                replace hKc := hK.sub (tys' := [(kI, .int)]) [0] rfl
                replace hFc := va_freeT (wc := [(m9, .inr (23, mA mr mv vf xl (nI zs) ff1 xa1 (nI T) (nI pp1) xi xt xn (nI ns) (nI vv) (nI bb1))), (mr 5, .inl (kI, 3002, .inl fk)), (mr 6, .inl (kI, 3002, .inl fa))]) hD hS hA [6, 3, 4] rfl
                refine va_callv (va_runV (As := [.int 62]) (rest := []) ⟨hx, hb, hml, hown, hts⟩ (c_rtkB l dC dI m9 mr mv vf xl xa1 xi xt xn zs T pp1 ns vv bb1 kI fk fa ff1 62 H.size hz_19) (cwV 1 hts g_c_xli6_c_rtkB_105 rfl rfl rfl (by decide +kernel) ⟨by show 1 + 1 ≤ 2 + 12 * k; omega, by show 8 + (2 + 11) + (20) ≤ 43 + 279 * k; omega⟩) ⟨fun a U g mk q => by obtain ⟨q0, q1, qP, qK, qD⟩ := q; exact ⟨q0, q1, qP, va_K.moved (u := U) (U := U.calling g mk a) (Vm.Alike.refl U.vm) qK, qD⟩, va_recv hKc hPc (ci := 23) (q0 := 0) rfl rfl, fun U hU hW => ⟨rfl, by rw [hU], by rw [hU]; exact hPc, va_K.moved hW.alike hKc, hDc.weaken (fun _ _ _ _ => trivial)⟩⟩ rfl rfl hl.1 rfl (lv_room (Nat.le_of_ble_eq_true rfl)) dX23_list_105 ⟨(show (8 * (pp1 - pp) - 3 * n - 8 * cm) + 0 ≤ (8 * (T - pp) + 3) by omega), (show (120 * (pp1 - pp) + 4 * cp + 8 - 64 * n - 120 * cm) + 0 ≤ (120 * (T - pp) + 280) by omega)⟩) hS (fun q _ h => hFc q h) hFc (fun u tS H1 locs ht hvm hw hB hz1 hk1 hS => ?_)
                obtain ⟨hP1, hK1, hD1⟩ := hB
                rw [ht] at hP1
                replace hK1 := va_K.moved hvm.symm hK1
                obtain ⟨hPj, hDj⟩ := va_joinT (wr := [(ee, .inr (15, [.int 6, .int tx, .int gx, .int nx, .int 0, .int 0, .long 0, .int 0, .null, .ref la, .ref sa, .int (nI n), .null, .null])), (la, .inl (kE, cp, .inr (.inr (.inr (.inr f))))), (sa, .inl (kI, cp, .inl g)), (mr 8, .inl (kL, 3002, .inr (.inl fn)))]) (w1 := [(m9, .inr (23, mA mr mv vf xl (nI zs) ff1 xa1 (nI T) (nI pp1) xi xt xn (nI ns) (nI vv) (nI bb1))), (mr 5, .inl (kI, 3002, .inl fk)), (mr 6, .inl (kI, 3002, .inl fa))]) hP hD [6, 3, 4] [0, 1, 2, 5] rfl rfl (by decide) (by decide) hk1 hFc hP1 hD1
                replace hP := hPj
                replace hD := hDj
                clear hPj hDj
                replace hK := hK.app hK1
                generalize H1 = H at hP hS ⊢
                replace hP : va_P (dC, dI) vwCl (([(ee, .inr (15, [.int 6, .int tx, .int gx, .int nx, .int 0, .int 0, .long 0, .int 0, .null, .ref la, .ref sa, .int (nI n), .null, .null])), (la, .inl (kE, cp, .inr (.inr (.inr (.inr f))))), (sa, .inl (kI, cp, .inl g)), (mr 8, .inl (kL, 3002, .inr (.inl fn))), (m9, .inr (23, mA mr mv vf xl (nI zs) ff1 xa1 (nI T) (nI pp1) xi xt xn (nI ns) (nI vv) (nI bb1))), (mr 5, .inl (kI, 3002, .inl fk)), (mr 6, .inl (kI, 3002, .inl fa))] : va_W) ++ (sT L1 F1)) H := hP
                replace hD : va_D A (([(ee, .inr (15, [.int 6, .int tx, .int gx, .int nx, .int 0, .int 0, .long 0, .int 0, .null, .ref la, .ref sa, .int (nI n), .null, .null])), (la, .inl (kE, cp, .inr (.inr (.inr (.inr f))))), (sa, .inl (kI, cp, .inl g)), (mr 8, .inl (kL, 3002, .inr (.inl fn))), (m9, .inr (23, mA mr mv vf xl (nI zs) ff1 xa1 (nI T) (nI pp1) xi xt xn (nI ns) (nI vv) (nI bb1))), (mr 5, .inl (kI, 3002, .inl fk)), (mr 6, .inl (kI, 3002, .inl fa))] : va_W) ++ (sT L1 F1)) := hD
                replace hK : va_K (dC, dI) vwCl [(kI, .int), (kL, .long), (kE, .object RX15), (kI, .int)] s := hK
                replace hK := hK.sub (tys' := [(kI, .int), (kL, .long), (kE, .object RX15)]) [0, 1, 2] rfl
                clear hz1 hk1 hPc hDc hKc hFc hP1 hD1 hK1
                replace hP : va_P (dC, dI) vwCl ((([(ee, .inr (15, [.int 6, .int tx, .int gx, .int nx, .int 0, .int 0, .long 0, .int 0, .null, .ref la, .ref sa, .int (nI n), .null, .null])), (mr 8, .inl (kL, 3002, .inr (.inl fn))), (m9, .inr (23, mA mr mv vf xl (nI zs) ff1 xa1 (nI T) (nI pp1) xi xt xn (nI ns) (nI vv) (nI bb1))), (mr 5, .inl (kI, 3002, .inl fk)), (mr 6, .inl (kI, 3002, .inl fa))] : va_W) ++ ([(la, .inl (kE, cp, .inr (.inr (.inr (.inr f))))), (sa, .inl (kI, cp, .inl g))] : va_W)) ++ sT L1 F1) H := hP.subT (f' := [(ee, .inr (15, [.int 6, .int tx, .int gx, .int nx, .int 0, .int 0, .long 0, .int 0, .null, .ref la, .ref sa, .int (nI n), .null, .null])), (mr 8, .inl (kL, 3002, .inr (.inl fn))), (m9, .inr (23, mA mr mv vf xl (nI zs) ff1 xa1 (nI T) (nI pp1) xi xt xn (nI ns) (nI vv) (nI bb1))), (mr 5, .inl (kI, 3002, .inl fk)), (mr 6, .inl (kI, 3002, .inl fa)), (la, .inl (kE, cp, .inr (.inr (.inr (.inr f))))), (sa, .inl (kI, cp, .inl g))]) [0, 3, 4, 5, 6, 1, 2] rfl
                replace hD : va_D A ((([(ee, .inr (15, [.int 6, .int tx, .int gx, .int nx, .int 0, .int 0, .long 0, .int 0, .null, .ref la, .ref sa, .int (nI n), .null, .null])), (mr 8, .inl (kL, 3002, .inr (.inl fn))), (m9, .inr (23, mA mr mv vf xl (nI zs) ff1 xa1 (nI T) (nI pp1) xi xt xn (nI ns) (nI vv) (nI bb1))), (mr 5, .inl (kI, 3002, .inl fk)), (mr 6, .inl (kI, 3002, .inl fa))] : va_W) ++ ([(la, .inl (kE, cp, .inr (.inr (.inr (.inr f))))), (sa, .inl (kI, cp, .inl g))] : va_W)) ++ sT L1 F1) := hD.subT (f' := [(ee, .inr (15, [.int 6, .int tx, .int gx, .int nx, .int 0, .int 0, .long 0, .int 0, .null, .ref la, .ref sa, .int (nI n), .null, .null])), (mr 8, .inl (kL, 3002, .inr (.inl fn))), (m9, .inr (23, mA mr mv vf xl (nI zs) ff1 xa1 (nI T) (nI pp1) xi xt xn (nI ns) (nI vv) (nI bb1))), (mr 5, .inl (kI, 3002, .inl fk)), (mr 6, .inl (kI, 3002, .inl fa)), (la, .inl (kE, cp, .inr (.inr (.inr (.inr f))))), (sa, .inl (kI, cp, .inl g))]) [0, 3, 4, 5, 6, 1, 2] (by decide) rfl
                obtain ⟨L9, F9, hx9, hm9, hP, hD⟩ := st_fileL [(la, .inl (kE, cp, .inr (.inr (.inr (.inr f))))), (sa, .inl (kI, cp, .inl g))] hP hD
                have hm9_0 := hm9 _ (List.mem_of_getElem? (i := 0) rfl)
                have hm9_1 := hm9 _ (List.mem_of_getElem? (i := 1) rfl)
                refine W.grow (fun hgs0 hgs1 => ?_)
                have hP9 := hP.subT (f' := [(ee, .inr (15, [.int 6, .int tx, .int gx, .int nx, .int 0, .int 0, .long 0, .int 0, .null, (.ref la), (.ref sa), .int (nI n), .null, .null])), (m9, .inr (23, mA mr mv vf xl (nI zs) ff1 xa1 (nI T) (nI pp1) xi xt xn (nI ns) (nI vv) (nI bb1))), (mr 5, .inl (kI, 3002, .inl fk)), (mr 6, .inl (kI, 3002, .inl fa)), (mr 8, .inl (kL, 3002, .inr (.inl fn)))]) [0, 2, 3, 4, 1] rfl
                have hD9 := hD.subT (f' := [(ee, .inr (15, [.int 6, .int tx, .int gx, .int nx, .int 0, .int 0, .long 0, .int 0, .null, (.ref la), (.ref sa), .int (nI n), .null, .null])), (m9, .inr (23, mA mr mv vf xl (nI zs) ff1 xa1 (nI T) (nI pp1) xi xt xn (nI ns) (nI vv) (nI bb1))), (mr 5, .inl (kI, 3002, .inl fk)), (mr 6, .inl (kI, 3002, .inl fa)), (mr 8, .inl (kL, 3002, .inr (.inl fn)))]) [0, 2, 3, 4, 1] (by decide) rfl
                have hK9 := hK.sub (tys' := [(kI, .int), (kL, .long), (kE, .object RX15)]) [0, 1, 2] rfl
                refine W.widen (k := (8 * (T - pp) + 3)) (n := (120 * (T - pp) + 280)) (by omega) (by omega) ?_
                subst hQ1
                exact W.vret hx hb hr (fun tS ht hW => ⟨⟨(), rfl, trivial, L9, F9, ff1, xa1, pp1, bb1, .ref la, .ref sa, n, (hr2).tr hx9, ⟨by omega, by omega, by omega, by omega⟩, (fun q9 => absurd q9 hz_19), by rw [ht]; exact ⟨by omega, by omega⟩, by rw [ht]; exact hP9, va_K.moved hW.alike hK9, hD9⟩, hS.F ht⟩) hS.2.2 dX23_list_108
          refine W.widen (k := (8 * (pp13 - pp) - 3 * 1 - 8 * 0)) (n := (120 * (pp13 - pp) + 4 * 4 + 8 - 64 * 1 - 120 * 0)) (by omega) (by omega) ?_
          exact key1 (T + 1 - (pp13) + 1) pp13 bb13 la14 sa14 4 1 0 0 xa13 0 L13 F13 f14 g14 _ _ _ (⟨by omega, by omega, by omega, by omega, by omega, by omega, by omega, by omega, by omega, by omega, by omega, hT⟩) (Or.inr (by omega)) hf14_0.1 (fun i hi => by obtain rfl : i = 0 := (by omega); exact ⟨_, hf15_1.1, hf14_0.2⟩) (fun _ => ⟨hg13.1, _, chP_add (chP_0 (f := f14) (g := g14) (Nat.le_refl pp)) (fun i hi => absurd hi (by omega)) hf15_1.1 (hf15_1.2.trans rfl) (by omega) (isE_im exS.rf _ (by omega) hg13.2) (Or.inl ⟨rfl, rfl⟩), Or.inl ⟨rfl, rfl, by omega⟩⟩) (hP.subT [2, 3, 4, 5, 6, 0, 1] rfl) (hD.subT [2, 3, 4, 5, 6, 0, 1] (by decide) rfl) hS (lv_sub hl [0, 1, 2] rfl)
      · replace hPc := hP.subF (f' := [(m9, .inr (23, mA mr mv vf xl (nI zs) ff13 xa13 (nI T) (nI pp13) xi xt xn (nI (ns + 1)) (nI vv) (nI bb13))), (mr 5, .inl (kI, 3002, .inl fk))]) [0, 1] rfl
        replace hDc := hD.subF (f' := [(m9, .inr (23, mA mr mv vf xl (nI zs) ff13 xa13 (nI T) (nI pp13) xi xt xn (nI (ns + 1)) (nI vv) (nI bb13))), (mr 5, .inl (kI, 3002, .inl fk))]) [0, 1] (by decide) rfl
        replace hKc := hK.sub (tys' := [(kI, .int)]) [0] rfl
        replace hFc := va_freeT (wc := [(m9, .inr (23, mA mr mv vf xl (nI zs) ff13 xa13 (nI T) (nI pp13) xi xt xn (nI (ns + 1)) (nI vv) (nI bb13))), (mr 5, .inl (kI, 3002, .inl fk))]) hD hS hA [0, 1] rfl
        refine va_calli (va_runV (As := [.int 57]) (rest := []) ⟨hx, hb, hml, hown, hts⟩ (c_rtsB l dC dI m9 mr mv vf xl xa13 xi xt xn zs T pp13 (ns + 1) vv bb13 kI fk fa ff13 57 H.size hz_16) (cwV 1 hts g_c_xli6_c_rtsB_85 rfl rfl rfl (by decide +kernel) ⟨by show 1 + 1 ≤ 2 + 12 * k; omega, by show 8 + (2 + 11) + (20) ≤ 43 + 279 * k; omega⟩) ⟨fun a U g mk q => by obtain ⟨q0, q1, qP, qK, qD⟩ := q; exact ⟨q0, q1, qP, va_K.moved (u := U) (U := U.calling g mk a) (Vm.Alike.refl U.vm) qK, qD⟩, va_recv hKc hPc (ci := 23) (q0 := 0) rfl rfl, fun U hU hW => ⟨rfl, by rw [hU], by rw [hU]; exact hPc, va_K.moved hW.alike hKc, hDc.weaken (fun _ _ _ _ => trivial)⟩⟩ rfl rfl hl.1 rfl (lv_room (Nat.le_of_ble_eq_true rfl)) dX23_list_85 ⟨(show (8 * (pp13 - (pp + 1)) + 3 + 2) + 0 ≤ (8 * (T - pp) + 3) by omega), (show (120 * (pp13 - (pp + 1)) + 48 + 8) + 0 ≤ (120 * (T - pp) + 280) by omega)⟩) hS (fun q _ h => hFc q h) hFc (fun r_17 u tS H1 locs ht hvm hw hB hz1 hk1 hS => ?_)
        obtain ⟨hP1, hK1, hD1⟩ := hB
        rw [ht] at hP1
        replace hK1 := va_K.moved hvm.symm hK1
        obtain ⟨hPj, hDj⟩ := va_joinT (wr := [(mr 6, .inl (kI, 3002, .inl fa)), (mr 8, .inl (kL, 3002, .inr (.inl fn))), (ee, .inr (15, [.int 6, .int tx, .int gx, .int nx, .int 0, .int 0, .long 0, .int 0, .null, .ref la14, .ref sa14, .int 1, .null, .null])), (la14, .inl (kE, 4, .inr (.inr (.inr (.inr f14))))), (sa14, .inl (kI, 4, .inl g14))]) (w1 := [(m9, .inr (23, mA mr mv vf xl (nI zs) ff13 xa13 (nI T) (nI pp13) xi xt xn (nI (ns + 1)) (nI vv) (nI bb13))), (mr 5, .inl (kI, 3002, .inl fk))]) hP hD [0, 1] [2, 3, 4, 5, 6] rfl rfl (by decide) (by decide) hk1 hFc hP1 hD1
        replace hP := hPj
        replace hD := hDj
        clear hPj hDj
        replace hK := hK.app hK1
        generalize H1 = H at hP hS ⊢
        replace hP : va_P (dC, dI) vwCl (([(mr 6, .inl (kI, 3002, .inl fa)), (mr 8, .inl (kL, 3002, .inr (.inl fn))), (ee, .inr (15, [.int 6, .int tx, .int gx, .int nx, .int 0, .int 0, .long 0, .int 0, .null, .ref la14, .ref sa14, .int 1, .null, .null])), (la14, .inl (kE, 4, .inr (.inr (.inr (.inr f14))))), (sa14, .inl (kI, 4, .inl g14)), (m9, .inr (23, mA mr mv vf xl (nI zs) ff13 xa13 (nI T) (nI pp13) xi xt xn (nI (ns + 1)) (nI vv) (nI bb13))), (mr 5, .inl (kI, 3002, .inl fk))] : va_W) ++ (sT L13 F13)) H := hP
        replace hD : va_D A (([(mr 6, .inl (kI, 3002, .inl fa)), (mr 8, .inl (kL, 3002, .inr (.inl fn))), (ee, .inr (15, [.int 6, .int tx, .int gx, .int nx, .int 0, .int 0, .long 0, .int 0, .null, .ref la14, .ref sa14, .int 1, .null, .null])), (la14, .inl (kE, 4, .inr (.inr (.inr (.inr f14))))), (sa14, .inl (kI, 4, .inl g14)), (m9, .inr (23, mA mr mv vf xl (nI zs) ff13 xa13 (nI T) (nI pp13) xi xt xn (nI (ns + 1)) (nI vv) (nI bb13))), (mr 5, .inl (kI, 3002, .inl fk))] : va_W) ++ (sT L13 F13)) := hD
        replace hK : va_K (dC, dI) vwCl [(kI, .int), (kL, .long), (kE, .object RX15), (kI, .int)] s := hK
        replace hK := hK.sub (tys' := [(kI, .int), (kL, .long), (kE, .object RX15)]) [0, 1, 2] rfl
        clear hz1 hk1 hPc hDc hKc hFc hP1 hD1 hK1
        obtain rfl : r_17 = 0 := hw
        refine lv_istore_n (lv' := [(2, .int 0), (0, .ref m9), (1, .ref ee)]) hx hb dX23_list_88 rfl hl (by decide) rfl (fun ls hl => ?_)
        refine lv_goto (tgt := 62) hx hb dX23_list_89 (by decide) ?_
        refine W_q (fun Q1 hQ1 => ?_)
        have key1 : ∀ (n1 : Nat) (pp1 bb1 la sa cp n cm : Nat) (ff1 xa1 mo : Int32) (L1 : List Nat) (F1 : Nat → va_E) (f : Nat → Option Nat) (g : Nat → Int32) (H : Heap) (locs : List Loc) (ls : Array Slot), (1 ≤ n1 ∧ pp ≤ pp1 ∧ pp1 < T ∧ bb ≤ bb1 ∧ bb1 ≤ bb + (pp1 - pp) ∧ 1 ≤ n ∧ n ≤ cp ∧ 4 ≤ cp ∧ cp ≤ 4 + 2 * n ∧ pp + n + cm ≤ pp1 ∧ cm ≤ 1 ∧ T ≤ 3001) → (ff1 ≠ 0 ∨ T + 1 ≤ pp1 + n1) → (exS L F L1 F1) → (∀ i : Nat, i < n → ∃ x : Nat, f i = some x ∧ xO L1 F1 x) → (ff1 = 0 → bb1 ≤ 54 ∧ ∃ q0 : Nat, chP 0 (isE L1 F1 kE kI (24 * k)) f g n pp q0 bb bb1 ∧ ((mo = 0 ∧ cm = 0 ∧ q0 ≤ pp1) ∨ (mo ≠ 0 ∧ cm = 1 ∧ q0 < pp1))) → va_P (dC, dI) vwCl (([(ee, .inr (15, [.int 6, .int tx, .int gx, .int nx, .int 0, .int 0, .long 0, .int 0, .null, .ref la, .ref sa, .int (nI n), .null, .null])), (la, .inl (kE, cp, .inr (.inr (.inr (.inr f))))), (sa, .inl (kI, cp, .inl g)), (m9, .inr (23, mA mr mv vf xl (nI zs) ff1 xa1 (nI T) (nI pp1) xi xt xn (nI (ns + 1)) (nI vv) (nI bb1))), (mr 5, .inl (kI, 3002, .inl fk)), (mr 6, .inl (kI, 3002, .inl fa)), (mr 8, .inl (kL, 3002, .inr (.inl fn)))] : va_W) ++ (sT L1 F1)) H → va_D A (([(ee, .inr (15, [.int 6, .int tx, .int gx, .int nx, .int 0, .int 0, .long 0, .int 0, .null, .ref la, .ref sa, .int (nI n), .null, .null])), (la, .inl (kE, cp, .inr (.inr (.inr (.inr f))))), (sa, .inl (kI, cp, .inl g)), (m9, .inr (23, mA mr mv vf xl (nI zs) ff1 xa1 (nI T) (nI pp1) xi xt xn (nI (ns + 1)) (nI vv) (nI bb1))), (mr 5, .inl (kI, 3002, .inl fk)), (mr 6, .inl (kI, 3002, .inl fa)), (mr 8, .inl (kL, 3002, .inr (.inl fn)))] : va_W) ++ (sT L1 F1)) → va_S A s.heap H locs → lv_has ls 3 [(2, .int mo), (0, .ref m9), (1, .ref ee)] → W p l e (headSpec wp_c_xli6 ({ frames := 2 + 12 * k, cells := (8 * (T - pp) + 3), slots := (120 * (T - pp) + 280), locals := 43 + 279 * k })).room s m ([.ref m9, .ref ee] : List Value).toArray below meth c H locs (8 * (pp1 - pp) - 3 * n - 8 * cm) (120 * (pp1 - pp) + 4 * cp + 8 - 64 * n - 120 * cm) Q1 (F0 m 62 ls []) := by
          intro n1
          induction n1 with
          | zero => intro pp1 bb1 la sa cp n cm ff1 xa1 mo L1 F1 f g H locs ls hr0 hr1 hr2 hr3 hr4; exact absurd hr0 (by omega)
          | succ n1 ih1 =>
            intro pp1 bb1 la sa cp n cm ff1 xa1 mo L1 F1 f g H locs ls hr0 hr1 hr2 hr3 hr4 hP hD hS hl
            refine lv_aload_n hx hb dX23_list_62 rfl (lv_at hl 1 rfl) ?_
            by_cases hz_18 : ff1 = 0
            · subst hz_18
              have hr9 := hr4 rfl
              replace hPc := hP.subF (f' := [(m9, .inr (23, mA mr mv vf xl (nI zs) 0 xa1 (nI T) (nI pp1) xi xt xn (nI (ns + 1)) (nI vv) (nI bb1)))]) [3] rfl
              replace hDc := hD.subF (f' := [(m9, .inr (23, mA mr mv vf xl (nI zs) 0 xa1 (nI T) (nI pp1) xi xt xn (nI (ns + 1)) (nI vv) (nI bb1)))]) [3] (by decide) rfl
              replace hKc := hK.sub (tys' := []) [] rfl
              replace hFc := va_freeT (wc := [(m9, .inr (23, mA mr mv vf xl (nI zs) 0 xa1 (nI T) (nI pp1) xi xt xn (nI (ns + 1)) (nI vv) (nI bb1)))]) hD hS hA [3] rfl
              refine va_calli (va_runV (As := []) (rest := []) ⟨hx, hb, hml, hown, hts⟩ (c_rok0 l dC dI m9 mr mv vf xl xa1 xi xt xn zs T pp1 (ns + 1) vv bb1 kI fk fa H.size) (cwV 0 hts g_c_xli6_c_rok0_63 rfl rfl rfl (by decide +kernel) ⟨by show 0 + 1 ≤ 2 + 12 * k; omega, by show 8 + (1 + 11) + (0) ≤ 43 + 279 * k; omega⟩) ⟨fun a U g mk q => by obtain ⟨q0, q1, qP, qK, qD⟩ := q; exact ⟨q0, q1, qP, va_K.moved (u := U) (U := U.calling g mk a) (Vm.Alike.refl U.vm) qK, qD⟩, va_recv hKc hPc (ci := 23) (q0 := 0) rfl rfl, fun U hU hW => ⟨rfl, by rw [hU], by rw [hU]; exact hPc, va_K.moved hW.alike hKc, hDc.weaken (fun _ _ _ _ => trivial)⟩⟩ rfl rfl hl.1 rfl (lv_room (Nat.le_of_ble_eq_true rfl)) dX23_list_63 ⟨(show (8 * (pp1 - pp) - 3 * n - 8 * cm) + 0 ≤ (8 * (T - pp) + 3) by omega), (show (120 * (pp1 - pp) + 4 * cp + 8 - 64 * n - 120 * cm) + 0 ≤ (120 * (T - pp) + 280) by omega)⟩) hS (fun q _ h => hFc q h) hFc (fun r_19 u tS H1 locs ht hvm hw hB hz1 hk1 hS => ?_)
              obtain ⟨hP1, hK1, hD1⟩ := hB
              rw [ht] at hP1
              replace hK1 := va_K.moved hvm.symm hK1
              obtain ⟨hPj, hDj⟩ := va_joinT (wr := [(ee, .inr (15, [.int 6, .int tx, .int gx, .int nx, .int 0, .int 0, .long 0, .int 0, .null, .ref la, .ref sa, .int (nI n), .null, .null])), (la, .inl (kE, cp, .inr (.inr (.inr (.inr f))))), (sa, .inl (kI, cp, .inl g)), (mr 5, .inl (kI, 3002, .inl fk)), (mr 6, .inl (kI, 3002, .inl fa)), (mr 8, .inl (kL, 3002, .inr (.inl fn)))]) (w1 := [(m9, .inr (23, mA mr mv vf xl (nI zs) 0 xa1 (nI T) (nI pp1) xi xt xn (nI (ns + 1)) (nI vv) (nI bb1)))]) hP hD [3] [0, 1, 2, 4, 5, 6] rfl rfl (by decide) (by decide) hk1 hFc hP1 hD1
              replace hP := hPj
              replace hD := hDj
              clear hPj hDj
              generalize H1 = H at hP hS ⊢
              replace hP : va_P (dC, dI) vwCl (([(ee, .inr (15, [.int 6, .int tx, .int gx, .int nx, .int 0, .int 0, .long 0, .int 0, .null, .ref la, .ref sa, .int (nI n), .null, .null])), (la, .inl (kE, cp, .inr (.inr (.inr (.inr f))))), (sa, .inl (kI, cp, .inl g)), (mr 5, .inl (kI, 3002, .inl fk)), (mr 6, .inl (kI, 3002, .inl fa)), (mr 8, .inl (kL, 3002, .inr (.inl fn))), (m9, .inr (23, mA mr mv vf xl (nI zs) 0 xa1 (nI T) (nI pp1) xi xt xn (nI (ns + 1)) (nI vv) (nI bb1)))] : va_W) ++ (sT L1 F1)) H := hP
              replace hD : va_D A (([(ee, .inr (15, [.int 6, .int tx, .int gx, .int nx, .int 0, .int 0, .long 0, .int 0, .null, .ref la, .ref sa, .int (nI n), .null, .null])), (la, .inl (kE, cp, .inr (.inr (.inr (.inr f))))), (sa, .inl (kI, cp, .inl g)), (mr 5, .inl (kI, 3002, .inl fk)), (mr 6, .inl (kI, 3002, .inl fa)), (mr 8, .inl (kL, 3002, .inr (.inl fn))), (m9, .inr (23, mA mr mv vf xl (nI zs) 0 xa1 (nI T) (nI pp1) xi xt xn (nI (ns + 1)) (nI vv) (nI bb1)))] : va_W) ++ (sT L1 F1)) := hD
              replace hK : va_K (dC, dI) vwCl [(kI, .int), (kL, .long), (kE, .object RX15)] s := hK
              clear hz1 hk1 hPc hDc hKc hFc hP1 hD1 hK1
              obtain rfl : r_19 = 1 := hw
              refine lv_if_eq (tgt := 92) hx hb dX23_list_66 (by decide) (fun c_20 => absurd c_20 (by decide)) (fun _ => ?_)
              refine lv_iload_n hx hb dX23_list_69 rfl (lv_at hl 0 rfl) ?_
              refine lv_if_eq (tgt := 92) hx hb dX23_list_70 (by decide) (fun hm_21 => ?_) (fun hm_21 => ?_)
              · obtain ⟨q0, hr5, hr6⟩ := hr9.2
                replace hr6 : q0 ≤ pp1 := by omega
                refine lv_aload_n hx hb dX23_list_92 rfl (lv_at hl 1 rfl) ?_
                refine lv_dup hx hb dX23_list_93 rfl ?_
                refine va_get (D := (dC, dI)) (ci := 23) (v := .int (nI (ns + 1))) (C := RX23) (T := TX23) (N := 89) hx hb hts in_c_xli6_X23 hown hK hP 6 rfl rfl 15 (by decide) (hts (.fieldLink RX23 104 "OwnedPlacesModel" "nest" "I") (wm_c_xli6 14 rfl)) (fun _ h9 => h9) rfl dX23_list_94 ?_
                refine lv_iconst (v := 1) hx hb dX23_list_97 (by decide) ?_
                refine lv_isub hx hb dX23_list_98 ?_
                refine lv_topi (fun f_22 ef_22 => ?_)
                obtain rfl : f_22 = nI ns := ef_22.trans (nI_pred _)
                refine va_put (D := (dC, dI)) (ci := 23) (v := .int (nI ns)) (ty := .int) (C := RX23) (T := TX23) (N := 89) hx hb hts in_c_xli6_X23 tyX23 tyX23_ok nmX23 hown hK hP hD hS 6 rfl rfl 15 (by decide) (hts (.fieldLink RX23 104 "OwnedPlacesModel" "nest" "I") (wm_c_xli6 14 rfl)) (fun _ h9 => h9) rfl (by decide +kernel) rfl rfl (Nat.le_of_ble_eq_true rfl) dX23_list_99 (fun H locs hP hD hS => ?_)
                replace hP : va_P (dC, dI) vwCl (([(ee, .inr (15, [.int 6, .int tx, .int gx, .int nx, .int 0, .int 0, .long 0, .int 0, .null, .ref la, .ref sa, .int (nI n), .null, .null])), (la, .inl (kE, cp, .inr (.inr (.inr (.inr f))))), (sa, .inl (kI, cp, .inl g)), (mr 5, .inl (kI, 3002, .inl fk)), (mr 6, .inl (kI, 3002, .inl fa)), (mr 8, .inl (kL, 3002, .inr (.inl fn))), (m9, .inr (23, mA mr mv vf xl (nI zs) 0 xa1 (nI T) (nI pp1) xi xt xn (nI ns) (nI vv) (nI bb1)))] : va_W) ++ (sT L1 F1)) H := hP
                replace hD : va_D A (([(ee, .inr (15, [.int 6, .int tx, .int gx, .int nx, .int 0, .int 0, .long 0, .int 0, .null, .ref la, .ref sa, .int (nI n), .null, .null])), (la, .inl (kE, cp, .inr (.inr (.inr (.inr f))))), (sa, .inl (kI, cp, .inl g)), (mr 5, .inl (kI, 3002, .inl fk)), (mr 6, .inl (kI, 3002, .inl fa)), (mr 8, .inl (kL, 3002, .inr (.inl fn))), (m9, .inr (23, mA mr mv vf xl (nI zs) 0 xa1 (nI T) (nI pp1) xi xt xn (nI ns) (nI vv) (nI bb1)))] : va_W) ++ (sT L1 F1)) := hD
                refine lv_aload_n hx hb dX23_list_102 rfl (lv_at hl 1 rfl) ?_
                refine lv_bipush (v := 62) hx hb dX23_list_103 (by decide) ?_
                by_cases hk_23 : fk pp1 = 62
                · replace hPc := hP.subF (f' := [(m9, .inr (23, mA mr mv vf xl (nI zs) 0 xa1 (nI T) (nI pp1) xi xt xn (nI ns) (nI vv) (nI bb1))), (mr 5, .inl (kI, 3002, .inl fk)), (mr 6, .inl (kI, 3002, .inl fa))]) [6, 3, 4] rfl
                  replace hDc := hD.subF (f' := [(m9, .inr (23, mA mr mv vf xl (nI zs) 0 xa1 (nI T) (nI pp1) xi xt xn (nI ns) (nI vv) (nI bb1))), (mr 5, .inl (kI, 3002, .inl fk)), (mr 6, .inl (kI, 3002, .inl fa))]) [6, 3, 4] (by decide) rfl
                  replace hKc := hK.sub (tys' := [(kI, .int)]) [0] rfl
                  replace hFc := va_freeT (wc := [(m9, .inr (23, mA mr mv vf xl (nI zs) 0 xa1 (nI T) (nI pp1) xi xt xn (nI ns) (nI vv) (nI bb1))), (mr 5, .inl (kI, 3002, .inl fk)), (mr 6, .inl (kI, 3002, .inl fa))]) hD hS hA [6, 3, 4] rfl
                  refine va_callv (va_runV (As := [.int 62]) (rest := []) ⟨hx, hb, hml, hown, hts⟩ (c_rtkY l dC dI m9 mr mv vf xl xa1 xi xt xn zs T pp1 ns vv bb1 kI fk fa 62 H.size hT hr0.2.2.1 hk0 (by decide) hk_23) (cwV 1 hts g_c_xli6_c_rtkY_105 rfl rfl rfl (by decide +kernel) ⟨by show 1 + 1 ≤ 2 + 12 * k; omega, by show 8 + (2 + 11) + (21) ≤ 43 + 279 * k; omega⟩) ⟨fun a U g mk q => by obtain ⟨q0, q1, qP, qK, qD⟩ := q; exact ⟨q0, q1, qP, va_K.moved (u := U) (U := U.calling g mk a) (Vm.Alike.refl U.vm) qK, qD⟩, va_recv hKc hPc (ci := 23) (q0 := 0) rfl rfl, fun U hU hW => ⟨rfl, by rw [hU], by rw [hU]; exact hPc, va_K.moved hW.alike hKc, hDc.weaken (fun _ _ _ _ => trivial)⟩⟩ rfl rfl hl.1 rfl (lv_room (Nat.le_of_ble_eq_true rfl)) dX23_list_105 ⟨(show (8 * (pp1 - pp) - 3 * n - 8 * cm) + 0 ≤ (8 * (T - pp) + 3) by omega), (show (120 * (pp1 - pp) + 4 * cp + 8 - 64 * n - 120 * cm) + 0 ≤ (120 * (T - pp) + 280) by omega)⟩) hS (fun q _ h => hFc q h) hFc (fun u tS H1 locs ht hvm hw hB hz1 hk1 hS => ?_)
                  obtain ⟨hP1, hK1, hD1⟩ := hB
                  rw [ht] at hP1
                  replace hK1 := va_K.moved hvm.symm hK1
                  obtain ⟨hPj, hDj⟩ := va_joinT (wr := [(ee, .inr (15, [.int 6, .int tx, .int gx, .int nx, .int 0, .int 0, .long 0, .int 0, .null, .ref la, .ref sa, .int (nI n), .null, .null])), (la, .inl (kE, cp, .inr (.inr (.inr (.inr f))))), (sa, .inl (kI, cp, .inl g)), (mr 8, .inl (kL, 3002, .inr (.inl fn)))]) (w1 := [(m9, .inr (23, mA mr mv vf xl (nI zs) 0 xa1 (nI T) (nI (pp1 + 1)) xi xt xn (nI ns) (nI vv) (nI bb1))), (mr 5, .inl (kI, 3002, .inl fk)), (mr 6, .inl (kI, 3002, .inl fa))]) hP hD [6, 3, 4] [0, 1, 2, 5] rfl rfl (by decide) (by decide) hk1 hFc hP1 hD1
                  replace hP := hPj
                  replace hD := hDj
                  clear hPj hDj
                  replace hK := hK.app hK1
                  generalize H1 = H at hP hS ⊢
                  replace hP : va_P (dC, dI) vwCl (([(ee, .inr (15, [.int 6, .int tx, .int gx, .int nx, .int 0, .int 0, .long 0, .int 0, .null, .ref la, .ref sa, .int (nI n), .null, .null])), (la, .inl (kE, cp, .inr (.inr (.inr (.inr f))))), (sa, .inl (kI, cp, .inl g)), (mr 8, .inl (kL, 3002, .inr (.inl fn))), (m9, .inr (23, mA mr mv vf xl (nI zs) 0 xa1 (nI T) (nI (pp1 + 1)) xi xt xn (nI ns) (nI vv) (nI bb1))), (mr 5, .inl (kI, 3002, .inl fk)), (mr 6, .inl (kI, 3002, .inl fa))] : va_W) ++ (sT L1 F1)) H := hP
                  replace hD : va_D A (([(ee, .inr (15, [.int 6, .int tx, .int gx, .int nx, .int 0, .int 0, .long 0, .int 0, .null, .ref la, .ref sa, .int (nI n), .null, .null])), (la, .inl (kE, cp, .inr (.inr (.inr (.inr f))))), (sa, .inl (kI, cp, .inl g)), (mr 8, .inl (kL, 3002, .inr (.inl fn))), (m9, .inr (23, mA mr mv vf xl (nI zs) 0 xa1 (nI T) (nI (pp1 + 1)) xi xt xn (nI ns) (nI vv) (nI bb1))), (mr 5, .inl (kI, 3002, .inl fk)), (mr 6, .inl (kI, 3002, .inl fa))] : va_W) ++ (sT L1 F1)) := hD
                  replace hK : va_K (dC, dI) vwCl [(kI, .int), (kL, .long), (kE, .object RX15), (kI, .int)] s := hK
                  replace hK := hK.sub (tys' := [(kI, .int), (kL, .long), (kE, .object RX15)]) [0, 1, 2] rfl
                  clear hz1 hk1 hPc hDc hKc hFc hP1 hD1 hK1
                  have hp_25 : pp1 + 1 < T := kne3 hk0 hr0.2.2.1 hk_23 (by decide)
                  replace hP : va_P (dC, dI) vwCl ((([(ee, .inr (15, [.int 6, .int tx, .int gx, .int nx, .int 0, .int 0, .long 0, .int 0, .null, .ref la, .ref sa, .int (nI n), .null, .null])), (mr 8, .inl (kL, 3002, .inr (.inl fn))), (m9, .inr (23, mA mr mv vf xl (nI zs) 0 xa1 (nI T) (nI (pp1 + 1)) xi xt xn (nI ns) (nI vv) (nI bb1))), (mr 5, .inl (kI, 3002, .inl fk)), (mr 6, .inl (kI, 3002, .inl fa))] : va_W) ++ ([(la, .inl (kE, cp, .inr (.inr (.inr (.inr f))))), (sa, .inl (kI, cp, .inl g))] : va_W)) ++ sT L1 F1) H := hP.subT (f' := [(ee, .inr (15, [.int 6, .int tx, .int gx, .int nx, .int 0, .int 0, .long 0, .int 0, .null, .ref la, .ref sa, .int (nI n), .null, .null])), (mr 8, .inl (kL, 3002, .inr (.inl fn))), (m9, .inr (23, mA mr mv vf xl (nI zs) 0 xa1 (nI T) (nI (pp1 + 1)) xi xt xn (nI ns) (nI vv) (nI bb1))), (mr 5, .inl (kI, 3002, .inl fk)), (mr 6, .inl (kI, 3002, .inl fa)), (la, .inl (kE, cp, .inr (.inr (.inr (.inr f))))), (sa, .inl (kI, cp, .inl g))]) [0, 3, 4, 5, 6, 1, 2] rfl
                  replace hD : va_D A ((([(ee, .inr (15, [.int 6, .int tx, .int gx, .int nx, .int 0, .int 0, .long 0, .int 0, .null, .ref la, .ref sa, .int (nI n), .null, .null])), (mr 8, .inl (kL, 3002, .inr (.inl fn))), (m9, .inr (23, mA mr mv vf xl (nI zs) 0 xa1 (nI T) (nI (pp1 + 1)) xi xt xn (nI ns) (nI vv) (nI bb1))), (mr 5, .inl (kI, 3002, .inl fk)), (mr 6, .inl (kI, 3002, .inl fa))] : va_W) ++ ([(la, .inl (kE, cp, .inr (.inr (.inr (.inr f))))), (sa, .inl (kI, cp, .inl g))] : va_W)) ++ sT L1 F1) := hD.subT (f' := [(ee, .inr (15, [.int 6, .int tx, .int gx, .int nx, .int 0, .int 0, .long 0, .int 0, .null, .ref la, .ref sa, .int (nI n), .null, .null])), (mr 8, .inl (kL, 3002, .inr (.inl fn))), (m9, .inr (23, mA mr mv vf xl (nI zs) 0 xa1 (nI T) (nI (pp1 + 1)) xi xt xn (nI ns) (nI vv) (nI bb1))), (mr 5, .inl (kI, 3002, .inl fk)), (mr 6, .inl (kI, 3002, .inl fa)), (la, .inl (kE, cp, .inr (.inr (.inr (.inr f))))), (sa, .inl (kI, cp, .inl g))]) [0, 3, 4, 5, 6, 1, 2] (by decide) rfl
                  obtain ⟨L9, F9, hx9, hm9, hP, hD⟩ := st_fileL [(la, .inl (kE, cp, .inr (.inr (.inr (.inr f))))), (sa, .inl (kI, cp, .inl g))] hP hD
                  have hm9_0 := hm9 _ (List.mem_of_getElem? (i := 0) rfl)
                  have hm9_1 := hm9 _ (List.mem_of_getElem? (i := 1) rfl)
                  refine W.grow (fun hgs0 hgs1 => ?_)
                  have hP9 := hP.subT (f' := [(ee, .inr (15, [.int 6, .int tx, .int gx, .int nx, .int 0, .int 0, .long 0, .int 0, .null, (.ref la), (.ref sa), .int (nI n), .null, .null])), (m9, .inr (23, mA mr mv vf xl (nI zs) 0 xa1 (nI T) (nI (pp1 + 1)) xi xt xn (nI ns) (nI vv) (nI bb1))), (mr 5, .inl (kI, 3002, .inl fk)), (mr 6, .inl (kI, 3002, .inl fa)), (mr 8, .inl (kL, 3002, .inr (.inl fn)))]) [0, 2, 3, 4, 1] rfl
                  have hD9 := hD.subT (f' := [(ee, .inr (15, [.int 6, .int tx, .int gx, .int nx, .int 0, .int 0, .long 0, .int 0, .null, (.ref la), (.ref sa), .int (nI n), .null, .null])), (m9, .inr (23, mA mr mv vf xl (nI zs) 0 xa1 (nI T) (nI (pp1 + 1)) xi xt xn (nI ns) (nI vv) (nI bb1))), (mr 5, .inl (kI, 3002, .inl fk)), (mr 6, .inl (kI, 3002, .inl fa)), (mr 8, .inl (kL, 3002, .inr (.inl fn)))]) [0, 2, 3, 4, 1] (by decide) rfl
                  have hK9 := hK.sub (tys' := [(kI, .int), (kL, .long), (kE, .object RX15)]) [0, 1, 2] rfl
                  refine W.widen (k := (8 * (T - pp) + 3)) (n := (120 * (T - pp) + 280)) (by omega) (by omega) ?_
                  subst hQ1
                  exact W.vret hx hb hr (fun tS ht hW => ⟨⟨(), rfl, trivial, L9, F9, 0, xa1, pp1 + 1, bb1, .ref la, .ref sa, n, (hr2).tr hx9, ⟨by omega, by omega, by omega, by omega⟩, (fun _ => ⟨hr9.1, by omega, Or.inr ⟨la, sa, cp, q0, f, g, rfl, rfl, hm9_0.1, hm9_1.1, hm9_0.2, hm9_1.2, by omega, by omega, chP_im (fun x p q b c z => isE_im hx9 _ (Nat.le_refl _) z) hr5⟩⟩), by rw [ht]; exact ⟨by omega, by omega⟩, by rw [ht]; exact hP9, va_K.moved hW.alike hK9, hD9⟩, hS.F ht⟩) hS.2.2 dX23_list_108
                · replace hPc := hP.subF (f' := [(m9, .inr (23, mA mr mv vf xl (nI zs) 0 xa1 (nI T) (nI pp1) xi xt xn (nI ns) (nI vv) (nI bb1))), (mr 5, .inl (kI, 3002, .inl fk)), (mr 6, .inl (kI, 3002, .inl fa))]) [6, 3, 4] rfl
                  replace hDc := hD.subF (f' := [(m9, .inr (23, mA mr mv vf xl (nI zs) 0 xa1 (nI T) (nI pp1) xi xt xn (nI ns) (nI vv) (nI bb1))), (mr 5, .inl (kI, 3002, .inl fk)), (mr 6, .inl (kI, 3002, .inl fa))]) [6, 3, 4] (by decide) rfl
                  replace hKc := hK.sub (tys' := [(kI, .int)]) [0] rfl
                  replace hFc := va_freeT (wc := [(m9, .inr (23, mA mr mv vf xl (nI zs) 0 xa1 (nI T) (nI pp1) xi xt xn (nI ns) (nI vv) (nI bb1))), (mr 5, .inl (kI, 3002, .inl fk)), (mr 6, .inl (kI, 3002, .inl fa))]) hD hS hA [6, 3, 4] rfl
                  refine va_callv (va_runV (As := [.int 62]) (rest := []) ⟨hx, hb, hml, hown, hts⟩ (c_rtkN l dC dI m9 mr mv vf xl xa1 xi xt xn zs T pp1 ns vv bb1 kI fk fa 62 H.size hT hr0.2.2.1 hk0 (by decide) hk_23) (cwV 1 hts g_c_xli6_c_rtkN_105 rfl rfl rfl (by decide +kernel) ⟨by show 1 + 1 ≤ 2 + 12 * k; omega, by show 8 + (2 + 11) + (22) ≤ 43 + 279 * k; omega⟩) ⟨fun a U g mk q => by obtain ⟨q0, q1, qP, qK, qD⟩ := q; exact ⟨q0, q1, qP, va_K.moved (u := U) (U := U.calling g mk a) (Vm.Alike.refl U.vm) qK, qD⟩, va_recv hKc hPc (ci := 23) (q0 := 0) rfl rfl, fun U hU hW => ⟨rfl, by rw [hU], by rw [hU]; exact hPc, va_K.moved hW.alike hKc, hDc.weaken (fun _ _ _ _ => trivial)⟩⟩ rfl rfl hl.1 rfl (lv_room (Nat.le_of_ble_eq_true rfl)) dX23_list_105 ⟨(show (8 * (pp1 - pp) - 3 * n - 8 * cm) + 0 ≤ (8 * (T - pp) + 3) by omega), (show (120 * (pp1 - pp) + 4 * cp + 8 - 64 * n - 120 * cm) + 0 ≤ (120 * (T - pp) + 280) by omega)⟩) hS (fun q _ h => hFc q h) hFc (fun u tS H1 locs ht hvm hw hB hz1 hk1 hS => ?_)
                  obtain ⟨ff_24, xa_25, hf26_0, hP1, hK1, hD1⟩ := hB
                  rw [ht] at hP1
                  replace hK1 := va_K.moved hvm.symm hK1
                  obtain ⟨hPj, hDj⟩ := va_joinT (wr := [(ee, .inr (15, [.int 6, .int tx, .int gx, .int nx, .int 0, .int 0, .long 0, .int 0, .null, .ref la, .ref sa, .int (nI n), .null, .null])), (la, .inl (kE, cp, .inr (.inr (.inr (.inr f))))), (sa, .inl (kI, cp, .inl g)), (mr 8, .inl (kL, 3002, .inr (.inl fn)))]) (w1 := [(m9, .inr (23, mA mr mv vf xl (nI zs) ff_24 xa_25 (nI T) (nI pp1) xi xt xn (nI ns) (nI vv) (nI bb1))), (mr 5, .inl (kI, 3002, .inl fk)), (mr 6, .inl (kI, 3002, .inl fa))]) hP hD [6, 3, 4] [0, 1, 2, 5] rfl rfl (by decide) (by decide) hk1 hFc hP1 hD1
                  replace hP := hPj
                  replace hD := hDj
                  clear hPj hDj
                  replace hK := hK.app hK1
                  generalize H1 = H at hP hS ⊢
                  replace hP : va_P (dC, dI) vwCl (([(ee, .inr (15, [.int 6, .int tx, .int gx, .int nx, .int 0, .int 0, .long 0, .int 0, .null, .ref la, .ref sa, .int (nI n), .null, .null])), (la, .inl (kE, cp, .inr (.inr (.inr (.inr f))))), (sa, .inl (kI, cp, .inl g)), (mr 8, .inl (kL, 3002, .inr (.inl fn))), (m9, .inr (23, mA mr mv vf xl (nI zs) ff_24 xa_25 (nI T) (nI pp1) xi xt xn (nI ns) (nI vv) (nI bb1))), (mr 5, .inl (kI, 3002, .inl fk)), (mr 6, .inl (kI, 3002, .inl fa))] : va_W) ++ (sT L1 F1)) H := hP
                  replace hD : va_D A (([(ee, .inr (15, [.int 6, .int tx, .int gx, .int nx, .int 0, .int 0, .long 0, .int 0, .null, .ref la, .ref sa, .int (nI n), .null, .null])), (la, .inl (kE, cp, .inr (.inr (.inr (.inr f))))), (sa, .inl (kI, cp, .inl g)), (mr 8, .inl (kL, 3002, .inr (.inl fn))), (m9, .inr (23, mA mr mv vf xl (nI zs) ff_24 xa_25 (nI T) (nI pp1) xi xt xn (nI ns) (nI vv) (nI bb1))), (mr 5, .inl (kI, 3002, .inl fk)), (mr 6, .inl (kI, 3002, .inl fa))] : va_W) ++ (sT L1 F1)) := hD
                  replace hK : va_K (dC, dI) vwCl [(kI, .int), (kL, .long), (kE, .object RX15), (kI, .int)] s := hK
                  replace hK := hK.sub (tys' := [(kI, .int), (kL, .long), (kE, .object RX15)]) [0, 1, 2] rfl
                  clear hz1 hk1 hPc hDc hKc hFc hP1 hD1 hK1
                  replace hP : va_P (dC, dI) vwCl ((([(ee, .inr (15, [.int 6, .int tx, .int gx, .int nx, .int 0, .int 0, .long 0, .int 0, .null, .ref la, .ref sa, .int (nI n), .null, .null])), (mr 8, .inl (kL, 3002, .inr (.inl fn))), (m9, .inr (23, mA mr mv vf xl (nI zs) ff_24 xa_25 (nI T) (nI pp1) xi xt xn (nI ns) (nI vv) (nI bb1))), (mr 5, .inl (kI, 3002, .inl fk)), (mr 6, .inl (kI, 3002, .inl fa))] : va_W) ++ ([(la, .inl (kE, cp, .inr (.inr (.inr (.inr f))))), (sa, .inl (kI, cp, .inl g))] : va_W)) ++ sT L1 F1) H := hP.subT (f' := [(ee, .inr (15, [.int 6, .int tx, .int gx, .int nx, .int 0, .int 0, .long 0, .int 0, .null, .ref la, .ref sa, .int (nI n), .null, .null])), (mr 8, .inl (kL, 3002, .inr (.inl fn))), (m9, .inr (23, mA mr mv vf xl (nI zs) ff_24 xa_25 (nI T) (nI pp1) xi xt xn (nI ns) (nI vv) (nI bb1))), (mr 5, .inl (kI, 3002, .inl fk)), (mr 6, .inl (kI, 3002, .inl fa)), (la, .inl (kE, cp, .inr (.inr (.inr (.inr f))))), (sa, .inl (kI, cp, .inl g))]) [0, 3, 4, 5, 6, 1, 2] rfl
                  replace hD : va_D A ((([(ee, .inr (15, [.int 6, .int tx, .int gx, .int nx, .int 0, .int 0, .long 0, .int 0, .null, .ref la, .ref sa, .int (nI n), .null, .null])), (mr 8, .inl (kL, 3002, .inr (.inl fn))), (m9, .inr (23, mA mr mv vf xl (nI zs) ff_24 xa_25 (nI T) (nI pp1) xi xt xn (nI ns) (nI vv) (nI bb1))), (mr 5, .inl (kI, 3002, .inl fk)), (mr 6, .inl (kI, 3002, .inl fa))] : va_W) ++ ([(la, .inl (kE, cp, .inr (.inr (.inr (.inr f))))), (sa, .inl (kI, cp, .inl g))] : va_W)) ++ sT L1 F1) := hD.subT (f' := [(ee, .inr (15, [.int 6, .int tx, .int gx, .int nx, .int 0, .int 0, .long 0, .int 0, .null, .ref la, .ref sa, .int (nI n), .null, .null])), (mr 8, .inl (kL, 3002, .inr (.inl fn))), (m9, .inr (23, mA mr mv vf xl (nI zs) ff_24 xa_25 (nI T) (nI pp1) xi xt xn (nI ns) (nI vv) (nI bb1))), (mr 5, .inl (kI, 3002, .inl fk)), (mr 6, .inl (kI, 3002, .inl fa)), (la, .inl (kE, cp, .inr (.inr (.inr (.inr f))))), (sa, .inl (kI, cp, .inl g))]) [0, 3, 4, 5, 6, 1, 2] (by decide) rfl
                  obtain ⟨L9, F9, hx9, hm9, hP, hD⟩ := st_fileL [(la, .inl (kE, cp, .inr (.inr (.inr (.inr f))))), (sa, .inl (kI, cp, .inl g))] hP hD
                  have hm9_0 := hm9 _ (List.mem_of_getElem? (i := 0) rfl)
                  have hm9_1 := hm9 _ (List.mem_of_getElem? (i := 1) rfl)
                  refine W.grow (fun hgs0 hgs1 => ?_)
                  have hP9 := hP.subT (f' := [(ee, .inr (15, [.int 6, .int tx, .int gx, .int nx, .int 0, .int 0, .long 0, .int 0, .null, (.ref la), (.ref sa), .int (nI n), .null, .null])), (m9, .inr (23, mA mr mv vf xl (nI zs) ff_24 xa_25 (nI T) (nI pp1) xi xt xn (nI ns) (nI vv) (nI bb1))), (mr 5, .inl (kI, 3002, .inl fk)), (mr 6, .inl (kI, 3002, .inl fa)), (mr 8, .inl (kL, 3002, .inr (.inl fn)))]) [0, 2, 3, 4, 1] rfl
                  have hD9 := hD.subT (f' := [(ee, .inr (15, [.int 6, .int tx, .int gx, .int nx, .int 0, .int 0, .long 0, .int 0, .null, (.ref la), (.ref sa), .int (nI n), .null, .null])), (m9, .inr (23, mA mr mv vf xl (nI zs) ff_24 xa_25 (nI T) (nI pp1) xi xt xn (nI ns) (nI vv) (nI bb1))), (mr 5, .inl (kI, 3002, .inl fk)), (mr 6, .inl (kI, 3002, .inl fa)), (mr 8, .inl (kL, 3002, .inr (.inl fn)))]) [0, 2, 3, 4, 1] (by decide) rfl
                  have hK9 := hK.sub (tys' := [(kI, .int), (kL, .long), (kE, .object RX15)]) [0, 1, 2] rfl
                  refine W.widen (k := (8 * (T - pp) + 3)) (n := (120 * (T - pp) + 280)) (by omega) (by omega) ?_
                  subst hQ1
                  exact W.vret hx hb hr (fun tS ht hW => ⟨⟨(), rfl, trivial, L9, F9, ff_24, xa_25, pp1, bb1, .ref la, .ref sa, n, (hr2).tr hx9, ⟨by omega, by omega, by omega, by omega⟩, (fun q9 => absurd q9 hf26_0), by rw [ht]; exact ⟨by omega, by omega⟩, by rw [ht]; exact hP9, va_K.moved hW.alike hK9, hD9⟩, hS.F ht⟩) hS.2.2 dX23_list_108
              · obtain ⟨q0, hr5, hr6⟩ := hr9.2
                have hcm : cm = 1 := (hr6.resolve_left (fun z => hm_21 z.1)).2.1
                replace hr6 : q0 < pp1 := (hr6.resolve_left (fun z => hm_21 z.1)).2.2
                replace hr1 := hr1.resolve_left (fun q => q rfl)
                refine lv_aload_n hx hb dX23_list_73 rfl (lv_at hl 2 rfl) ?_
                refine lv_aload_n hx hb dX23_list_74 rfl (lv_at hl 1 rfl) ?_
                obtain ⟨k1, hkL⟩ : ∃ k1 : Nat, k = k1 + 1 := ⟨k - 1, by omega⟩
                replace hPc := hP.subT (f' := [(m9, .inr (23, mA mr mv vf xl (nI zs) 0 xa1 (nI T) (nI pp1) xi xt xn (nI (ns + 1)) (nI vv) (nI bb1))), (mr 5, .inl (kI, 3002, .inl fk)), (mr 6, .inl (kI, 3002, .inl fa)), (mr 8, .inl (kL, 3002, .inr (.inl fn)))]) [6, 3, 4, 5] rfl
                replace hDc := hD.subT (f' := [(m9, .inr (23, mA mr mv vf xl (nI zs) 0 xa1 (nI T) (nI pp1) xi xt xn (nI (ns + 1)) (nI vv) (nI bb1))), (mr 5, .inl (kI, 3002, .inl fk)), (mr 6, .inl (kI, 3002, .inl fa)), (mr 8, .inl (kL, 3002, .inr (.inl fn)))]) [6, 3, 4, 5] (by decide) rfl
                replace hKc := hK.sub (tys' := [(kI, .int), (kL, .long), (kE, .object RX15)]) [0, 1, 2] rfl
                replace hFc := va_freeB (wc := [(m9, .inr (23, mA mr mv vf xl (nI zs) 0 xa1 (nI T) (nI pp1) xi xt xn (nI (ns + 1)) (nI vv) (nI bb1))), (mr 5, .inl (kI, 3002, .inl fk)), (mr 6, .inl (kI, 3002, .inl fa)), (mr 8, .inl (kL, 3002, .inr (.inl fn)))]) hD hS hA [6, 3, 4, 5] rfl
                refine W.grow (fun hgs0 hgs1 => ?_)
                refine va_callr (va_runV (As := []) (rest := [.ref ee]) ⟨hx, hb, hml, hown, hts⟩ ((ih k1 hkL).2.2.2.2.2.2 m9 mr mv vf xl xa1 xi xt xn zs T pp1 (ns + 1) vv bb1 kI fk fa kL kE fn L1 F1 (slN H) H.size hT hr0.2.2.1 hk0 hr9.1 (by omega)) (cwV 0 hts g_c_xli6_c_xex_75 rfl rfl rfl (by decide +kernel) ⟨by show 13 + 12 * k1 + 1 ≤ 2 + 12 * k; omega, by show 8 + (1 + 11) + (302 + 279 * k1) ≤ 43 + 279 * k; omega⟩) ⟨fun a U g mk q => by obtain ⟨q0, q1, qP, qK, qD, qx0, qx1⟩ := q; exact ⟨q0, q1, qP, va_K.moved (u := U) (U := U.calling g mk a) (Vm.Alike.refl U.vm) qK, qD, nsM.same (u := U) (U := U.calling g mk a) rfl qx0, qx1⟩, va_recv hKc hPc (ci := 23) (q0 := 0) rfl rfl, fun U hU hW => ⟨rfl, by rw [hU], by rw [hU]; exact hPc, va_K.moved hW.alike hKc, hDc.weaken (fun _ _ _ _ => trivial), nsM.warm hW hns, by rw [hU]⟩⟩ rfl rfl hl.1 rfl (lv_room (Nat.le_of_ble_eq_true rfl)) dX23_list_75 ⟨(show (8 * (pp1 - pp) - 3 * n - 8 * cm) + (8 * (T - pp1) + 8) ≤ (8 * (T - pp) + 3) by omega), (show (120 * (pp1 - pp) + 4 * cp + 8 - 64 * n - 120 * cm) + (120 * (T - pp1) + 360) ≤ (120 * (T - pp) + 280) by omega)⟩) hS (fun q _ h => hFc q h) hFc (fun u r_22 tS H1 locs ht hvm hw hB hz1 hk1 hS => ?_)
                obtain ⟨L21, F21, ff21, xa21, pp21, bb21, hf22_0, hf22_1, hf22_2, hf22_3, hP1, hK1, hD1⟩ := hB
                rw [ht] at hP1
                replace hK1 := va_K.moved hvm.symm hK1
                rw [ht] at hf22_3
                have hgz : H1.size ≤ s.heap.size + (((8 * (pp1 - pp) - 3 * n - 8 * cm) + 8 * (pp21 - pp1) + 3)) ∧ slN H1 ≤ slN s.heap + (((120 * (pp1 - pp) + 4 * cp + 8 - 64 * n - 120 * cm) + 120 * (pp21 - pp1) + 48)) := ⟨by have := hf22_3.1; omega, by have := hf22_3.2; omega⟩
                obtain ⟨hPj, hDj⟩ := va_joinB (wr := [(ee, .inr (15, [.int 6, .int tx, .int gx, .int nx, .int 0, .int 0, .long 0, .int 0, .null, .ref la, .ref sa, .int (nI n), .null, .null])), (la, .inl (kE, cp, .inr (.inr (.inr (.inr f))))), (sa, .inl (kI, cp, .inl g))]) (w1 := [(m9, .inr (23, mA mr mv vf xl (nI zs) ff21 xa21 (nI T) (nI pp21) xi xt xn (nI (ns + 1)) (nI vv) (nI bb21))), (mr 5, .inl (kI, 3002, .inl fk)), (mr 6, .inl (kI, 3002, .inl fa)), (mr 8, .inl (kL, 3002, .inr (.inl fn)))]) hP hD [6, 3, 4, 5] [0, 1, 2] rfl rfl (by decide) (by decide) hk1 hFc hP1 hD1
                replace hP := hPj
                replace hD := hDj
                clear hPj hDj
                replace hK := hK.app hK1
                generalize H1 = H at hP hS hgz ⊢
                replace hP : va_P (dC, dI) vwCl (([(ee, .inr (15, [.int 6, .int tx, .int gx, .int nx, .int 0, .int 0, .long 0, .int 0, .null, .ref la, .ref sa, .int (nI n), .null, .null])), (la, .inl (kE, cp, .inr (.inr (.inr (.inr f))))), (sa, .inl (kI, cp, .inl g)), (m9, .inr (23, mA mr mv vf xl (nI zs) ff21 xa21 (nI T) (nI pp21) xi xt xn (nI (ns + 1)) (nI vv) (nI bb21))), (mr 5, .inl (kI, 3002, .inl fk)), (mr 6, .inl (kI, 3002, .inl fa)), (mr 8, .inl (kL, 3002, .inr (.inl fn)))] : va_W) ++ (sT L21 F21)) H := hP
                replace hD : va_D A (([(ee, .inr (15, [.int 6, .int tx, .int gx, .int nx, .int 0, .int 0, .long 0, .int 0, .null, .ref la, .ref sa, .int (nI n), .null, .null])), (la, .inl (kE, cp, .inr (.inr (.inr (.inr f))))), (sa, .inl (kI, cp, .inl g)), (m9, .inr (23, mA mr mv vf xl (nI zs) ff21 xa21 (nI T) (nI pp21) xi xt xn (nI (ns + 1)) (nI vv) (nI bb21))), (mr 5, .inl (kI, 3002, .inl fk)), (mr 6, .inl (kI, 3002, .inl fa)), (mr 8, .inl (kL, 3002, .inr (.inl fn)))] : va_W) ++ (sT L21 F21)) := hD
                replace hK : va_K (dC, dI) vwCl [(kI, .int), (kL, .long), (kE, .object RX15), (kI, .int), (kL, .long), (kE, .object RX15)] s := hK
                replace hK := hK.sub (tys' := [(kI, .int), (kL, .long), (kE, .object RX15)]) [0, 1, 2] rfl
                refine W.tight (k := ((8 * (pp1 - pp) - 3 * n - 8 * cm) + 8 * (pp21 - pp1) + 3)) (n := ((120 * (pp1 - pp) + 4 * cp + 8 - 64 * n - 120 * cm) + 120 * (pp21 - pp1) + 48)) hgz.1 hgz.2 ?_
                clear hz1 hk1 hPc hDc hKc hFc hP1 hD1 hK1
                refine lv_iconst (v := 0) hx hb dX23_list_78 (by decide) ?_
                replace hPc := hP.subT (f' := [(ee, .inr (15, [.int 6, .int tx, .int gx, .int nx, .int 0, .int 0, .long 0, .int 0, .null, .ref la, .ref sa, .int (nI n), .null, .null])), (la, .inl (kE, cp, .inr (.inr (.inr (.inr f))))), (sa, .inl (kI, cp, .inl g))]) [0, 1, 2] rfl
                replace hDc := hD.subT (f' := [(ee, .inr (15, [.int 6, .int tx, .int gx, .int nx, .int 0, .int 0, .long 0, .int 0, .null, .ref la, .ref sa, .int (nI n), .null, .null])), (la, .inl (kE, cp, .inr (.inr (.inr (.inr f))))), (sa, .inl (kI, cp, .inl g))]) [0, 1, 2] (by decide) rfl
                replace hKc := hK.sub (tys' := [(kI, .int), (kE, .object RX15)]) [0, 2] rfl
                replace hFc := va_freeB (wc := [(ee, .inr (15, [.int 6, .int tx, .int gx, .int nx, .int 0, .int 0, .long 0, .int 0, .null, .ref la, .ref sa, .int (nI n), .null, .null])), (la, .inl (kE, cp, .inr (.inr (.inr (.inr f))))), (sa, .inl (kI, cp, .inl g))]) hD hS hA [0, 1, 2] rfl
                refine W.grow (fun hgs0 hgs1 => ?_)
                refine va_callv (va_runS (As := [.ref ee, .ref r_22, .int 0]) (rest := []) ⟨hx, hb, hml, hown, hts⟩ (c_xaA l dC dI ee r_22 6 tx gx nx 0 0 0 .null kI kE la sa n cp f g L21 F21 (slN H) H.size hf22_0.2 (by omega) (fun i hi => by obtain ⟨x9, y9, z9⟩ := hr3 i hi; exact ⟨x9, y9, xO_ex hf22_0.1 z9⟩)) (va_cwS 3 hts g_c_xli6_c_xaA_79 rfl rfl rfl (by decide +kernel) ⟨by show 0 + 1 ≤ 2 + 12 * k; omega, by show 8 + (6 + 11) + (0) ≤ 43 + 279 * k; omega⟩) ⟨fun a U g mk q => by obtain ⟨q0, q1, qP, qK, qD, qx0, qx1⟩ := q; exact ⟨q0, q1, qP, va_K.moved (u := U) (U := U.calling g mk a) (Vm.Alike.refl U.vm) qK, qD, nsM.same (u := U) (U := U.calling g mk a) rfl qx0, qx1⟩, fun U hU hW => ⟨rfl, by rw [hU], by rw [hU]; exact hPc, va_K.moved hW.alike hKc, hDc.weaken (fun _ _ _ _ => trivial), nsM.warm hW hns, by rw [hU]⟩⟩ rfl rfl hl.1 rfl (lv_room (Nat.le_of_ble_eq_true rfl)) dX23_list_79 ⟨(show ((8 * (pp1 - pp) - 3 * n - 8 * cm) + 8 * (pp21 - pp1) + 3) + 2 ≤ (8 * (T - pp) + 3) by omega), (show ((120 * (pp1 - pp) + 4 * cp + 8 - 64 * n - 120 * cm) + 120 * (pp21 - pp1) + 48) + (4 * cp) ≤ (120 * (T - pp) + 280) by omega)⟩) hS (fun q _ h => hFc q h) hFc (fun u tS H1 locs ht hvm hw hB hz1 hk1 hS => ?_)
                obtain ⟨la22, sa22, cp22, f22, g22, hf23_0, hf23_1, hf23_2, hf23_3, hf23_4, hP1, hK1, hD1⟩ := hB
                rw [ht] at hP1
                replace hK1 := va_K.moved hvm.symm hK1
                rw [ht] at hf23_4
                have hgz : H1.size ≤ s.heap.size + ((((8 * (pp1 - pp) - 3 * n - 8 * cm) + 8 * (pp21 - pp1) + 3) + 2)) ∧ slN H1 ≤ slN s.heap + ((((120 * (pp1 - pp) + 4 * cp + 8 - 64 * n - 120 * cm) + 120 * (pp21 - pp1) + 48) + 4 * (cp22 - cp))) := ⟨by have := hf23_4.1; omega, by have := hf23_4.2; omega⟩
                obtain ⟨hPj, hDj⟩ := va_joinB (wr := [(m9, .inr (23, mA mr mv vf xl (nI zs) ff21 xa21 (nI T) (nI pp21) xi xt xn (nI (ns + 1)) (nI vv) (nI bb21))), (mr 5, .inl (kI, 3002, .inl fk)), (mr 6, .inl (kI, 3002, .inl fa)), (mr 8, .inl (kL, 3002, .inr (.inl fn)))]) (w1 := [(ee, .inr (15, [.int 6, .int tx, .int gx, .int nx, .int 0, .int 0, .long 0, .int 0, .null, .ref la22, .ref sa22, .int (nI (n + 1)), .null, .null])), (la22, .inl (kE, cp22, .inr (.inr (.inr (.inr f22))))), (sa22, .inl (kI, cp22, .inl g22))]) hP hD [0, 1, 2] [3, 4, 5, 6] rfl rfl (by decide) (by decide) hk1 hFc hP1 hD1
                replace hP := hPj
                replace hD := hDj
                clear hPj hDj
                replace hK := hK.app hK1
                generalize H1 = H at hP hS hgz ⊢
                replace hP : va_P (dC, dI) vwCl (([(m9, .inr (23, mA mr mv vf xl (nI zs) ff21 xa21 (nI T) (nI pp21) xi xt xn (nI (ns + 1)) (nI vv) (nI bb21))), (mr 5, .inl (kI, 3002, .inl fk)), (mr 6, .inl (kI, 3002, .inl fa)), (mr 8, .inl (kL, 3002, .inr (.inl fn))), (ee, .inr (15, [.int 6, .int tx, .int gx, .int nx, .int 0, .int 0, .long 0, .int 0, .null, .ref la22, .ref sa22, .int (nI (n + 1)), .null, .null])), (la22, .inl (kE, cp22, .inr (.inr (.inr (.inr f22))))), (sa22, .inl (kI, cp22, .inl g22))] : va_W) ++ (sT L21 F21)) H := hP
                replace hD : va_D A (([(m9, .inr (23, mA mr mv vf xl (nI zs) ff21 xa21 (nI T) (nI pp21) xi xt xn (nI (ns + 1)) (nI vv) (nI bb21))), (mr 5, .inl (kI, 3002, .inl fk)), (mr 6, .inl (kI, 3002, .inl fa)), (mr 8, .inl (kL, 3002, .inr (.inl fn))), (ee, .inr (15, [.int 6, .int tx, .int gx, .int nx, .int 0, .int 0, .long 0, .int 0, .null, .ref la22, .ref sa22, .int (nI (n + 1)), .null, .null])), (la22, .inl (kE, cp22, .inr (.inr (.inr (.inr f22))))), (sa22, .inl (kI, cp22, .inl g22))] : va_W) ++ (sT L21 F21)) := hD
                replace hK : va_K (dC, dI) vwCl [(kI, .int), (kL, .long), (kE, .object RX15), (kI, .int), (kE, .object RX15)] s := hK
                replace hK := hK.sub (tys' := [(kI, .int), (kL, .long), (kE, .object RX15)]) [0, 1, 2] rfl
                refine W.tight (k := (((8 * (pp1 - pp) - 3 * n - 8 * cm) + 8 * (pp21 - pp1) + 3) + 2)) (n := (((120 * (pp1 - pp) + 4 * cp + 8 - 64 * n - 120 * cm) + 120 * (pp21 - pp1) + 48) + 4 * (cp22 - cp))) hgz.1 hgz.2 ?_
                clear hz1 hk1 hPc hDc hKc hFc hP1 hD1 hK1
                refine lv_aload_n hx hb dX23_list_82 rfl (lv_at hl 1 rfl) ?_
                refine lv_bipush (v := 57) hx hb dX23_list_83 (by decide) ?_
                by_cases hz_24 : ff21 = 0
                · subst hz_24
                  have hg21 := hf22_2 rfl
                  have hlthg21 := (isE_mem hg21.2).2
                  by_cases hk_25 : fk pp21 = 57
                  · replace hPc := hP.subF (f' := [(m9, .inr (23, mA mr mv vf xl (nI zs) 0 xa21 (nI T) (nI pp21) xi xt xn (nI (ns + 1)) (nI vv) (nI bb21))), (mr 5, .inl (kI, 3002, .inl fk))]) [0, 1] rfl
                    replace hDc := hD.subF (f' := [(m9, .inr (23, mA mr mv vf xl (nI zs) 0 xa21 (nI T) (nI pp21) xi xt xn (nI (ns + 1)) (nI vv) (nI bb21))), (mr 5, .inl (kI, 3002, .inl fk))]) [0, 1] (by decide) rfl
                    replace hKc := hK.sub (tys' := [(kI, .int)]) [0] rfl
                    replace hFc := va_freeT (wc := [(m9, .inr (23, mA mr mv vf xl (nI zs) 0 xa21 (nI T) (nI pp21) xi xt xn (nI (ns + 1)) (nI vv) (nI bb21))), (mr 5, .inl (kI, 3002, .inl fk))]) hD hS hA [0, 1] rfl
                    refine va_calli (va_runV (As := [.int 57]) (rest := []) ⟨hx, hb, hml, hown, hts⟩ (c_rtsY l dC dI m9 mr mv vf xl xa21 xi xt xn zs T pp21 (ns + 1) vv bb21 kI fk fa 57 H.size hT hf22_1.2.1 hk0 (by decide) hk_25) (cwV 1 hts g_c_xli6_c_rtsY_85 rfl rfl rfl (by decide +kernel) ⟨by show 1 + 1 ≤ 2 + 12 * k; omega, by show 8 + (2 + 11) + (21) ≤ 43 + 279 * k; omega⟩) ⟨fun a U g mk q => by obtain ⟨q0, q1, qP, qK, qD⟩ := q; exact ⟨q0, q1, qP, va_K.moved (u := U) (U := U.calling g mk a) (Vm.Alike.refl U.vm) qK, qD⟩, va_recv hKc hPc (ci := 23) (q0 := 0) rfl rfl, fun U hU hW => ⟨rfl, by rw [hU], by rw [hU]; exact hPc, va_K.moved hW.alike hKc, hDc.weaken (fun _ _ _ _ => trivial)⟩⟩ rfl rfl hl.1 rfl (lv_room (Nat.le_of_ble_eq_true rfl)) dX23_list_85 ⟨(show (((8 * (pp1 - pp) - 3 * n - 8 * cm) + 8 * (pp21 - pp1) + 3) + 2) + 0 ≤ (8 * (T - pp) + 3) by omega), (show (((120 * (pp1 - pp) + 4 * cp + 8 - 64 * n - 120 * cm) + 120 * (pp21 - pp1) + 48) + 4 * (cp22 - cp)) + 0 ≤ (120 * (T - pp) + 280) by omega)⟩) hS (fun q _ h => hFc q h) hFc (fun r_26 u tS H1 locs ht hvm hw hB hz1 hk1 hS => ?_)
                    obtain ⟨hP1, hK1, hD1⟩ := hB
                    rw [ht] at hP1
                    replace hK1 := va_K.moved hvm.symm hK1
                    obtain ⟨hPj, hDj⟩ := va_joinT (wr := [(mr 6, .inl (kI, 3002, .inl fa)), (mr 8, .inl (kL, 3002, .inr (.inl fn))), (ee, .inr (15, [.int 6, .int tx, .int gx, .int nx, .int 0, .int 0, .long 0, .int 0, .null, .ref la22, .ref sa22, .int (nI (n + 1)), .null, .null])), (la22, .inl (kE, cp22, .inr (.inr (.inr (.inr f22))))), (sa22, .inl (kI, cp22, .inl g22))]) (w1 := [(m9, .inr (23, mA mr mv vf xl (nI zs) 0 xa21 (nI T) (nI (pp21 + 1)) xi xt xn (nI (ns + 1)) (nI vv) (nI bb21))), (mr 5, .inl (kI, 3002, .inl fk))]) hP hD [0, 1] [2, 3, 4, 5, 6] rfl rfl (by decide) (by decide) hk1 hFc hP1 hD1
                    replace hP := hPj
                    replace hD := hDj
                    clear hPj hDj
                    replace hK := hK.app hK1
                    generalize H1 = H at hP hS ⊢
                    replace hP : va_P (dC, dI) vwCl (([(mr 6, .inl (kI, 3002, .inl fa)), (mr 8, .inl (kL, 3002, .inr (.inl fn))), (ee, .inr (15, [.int 6, .int tx, .int gx, .int nx, .int 0, .int 0, .long 0, .int 0, .null, .ref la22, .ref sa22, .int (nI (n + 1)), .null, .null])), (la22, .inl (kE, cp22, .inr (.inr (.inr (.inr f22))))), (sa22, .inl (kI, cp22, .inl g22)), (m9, .inr (23, mA mr mv vf xl (nI zs) 0 xa21 (nI T) (nI (pp21 + 1)) xi xt xn (nI (ns + 1)) (nI vv) (nI bb21))), (mr 5, .inl (kI, 3002, .inl fk))] : va_W) ++ (sT L21 F21)) H := hP
                    replace hD : va_D A (([(mr 6, .inl (kI, 3002, .inl fa)), (mr 8, .inl (kL, 3002, .inr (.inl fn))), (ee, .inr (15, [.int 6, .int tx, .int gx, .int nx, .int 0, .int 0, .long 0, .int 0, .null, .ref la22, .ref sa22, .int (nI (n + 1)), .null, .null])), (la22, .inl (kE, cp22, .inr (.inr (.inr (.inr f22))))), (sa22, .inl (kI, cp22, .inl g22)), (m9, .inr (23, mA mr mv vf xl (nI zs) 0 xa21 (nI T) (nI (pp21 + 1)) xi xt xn (nI (ns + 1)) (nI vv) (nI bb21))), (mr 5, .inl (kI, 3002, .inl fk))] : va_W) ++ (sT L21 F21)) := hD
                    replace hK : va_K (dC, dI) vwCl [(kI, .int), (kL, .long), (kE, .object RX15), (kI, .int)] s := hK
                    replace hK := hK.sub (tys' := [(kI, .int), (kL, .long), (kE, .object RX15)]) [0, 1, 2] rfl
                    clear hz1 hk1 hPc hDc hKc hFc hP1 hD1 hK1
                    obtain rfl : r_26 = 1 := hw
                    have hp_27 : pp21 + 1 < T := kne3 hk0 hf22_1.2.1 hk_25 (by decide)
                    refine lv_istore_n (lv' := [(2, .int 1), (0, .ref m9), (1, .ref ee)]) hx hb dX23_list_88 rfl hl (by decide) rfl (fun ls hl => ?_)
                    refine lv_goto (tgt := 62) hx hb dX23_list_89 (by decide) ?_
                    refine W.widen (k := (8 * ((pp21 + 1) - pp) - 3 * (n + 1) - 8 * 1)) (n := (120 * ((pp21 + 1) - pp) + 4 * cp22 + 8 - 64 * (n + 1) - 120 * 1)) (by omega) (by omega) ?_
                    exact ih1 (pp21 + 1) bb21 la22 sa22 cp22 (n + 1) 1 0 xa21 1 L21 F21 f22 g22 _ _ _ (⟨by omega, by omega, by omega, by omega, by omega, by omega, by omega, by omega, by omega, by omega, by omega, hT⟩) (Or.inr (by omega)) (hr2.tr hf22_0.1) (fun i hi => by
                      by_cases e9 : i = n
                      · subst e9; exact ⟨_, hf23_2.1, hf22_0.2⟩
                      · obtain ⟨x9, y9, z9⟩ := hr3 i (by omega); exact ⟨x9, (hf23_1 i (by omega)).1.trans y9, xO_ex hf22_0.1 z9⟩) (fun _ => ⟨hg21.1, _, chP_add (chP_im (fun x p q b c z => isE_im hf22_0.1 _ (Nat.le_refl _) z) hr5) (fun i hi => hf23_1 i hi) hf23_2.1 (hf23_2.2.trans rfl) hr6 (isE_im exS.rf _ (by omega) hg21.2) (Or.inl ⟨rfl, rfl⟩), Or.inr ⟨by decide, rfl, by omega⟩⟩) (hP.subT [2, 3, 4, 5, 6, 0, 1] rfl) (hD.subT [2, 3, 4, 5, 6, 0, 1] (by decide) rfl) hS (lv_sub hl [0, 1, 2] rfl)
                  · replace hPc := hP.subF (f' := [(m9, .inr (23, mA mr mv vf xl (nI zs) 0 xa21 (nI T) (nI pp21) xi xt xn (nI (ns + 1)) (nI vv) (nI bb21))), (mr 5, .inl (kI, 3002, .inl fk))]) [0, 1] rfl
                    replace hDc := hD.subF (f' := [(m9, .inr (23, mA mr mv vf xl (nI zs) 0 xa21 (nI T) (nI pp21) xi xt xn (nI (ns + 1)) (nI vv) (nI bb21))), (mr 5, .inl (kI, 3002, .inl fk))]) [0, 1] (by decide) rfl
                    replace hKc := hK.sub (tys' := [(kI, .int)]) [0] rfl
                    replace hFc := va_freeT (wc := [(m9, .inr (23, mA mr mv vf xl (nI zs) 0 xa21 (nI T) (nI pp21) xi xt xn (nI (ns + 1)) (nI vv) (nI bb21))), (mr 5, .inl (kI, 3002, .inl fk))]) hD hS hA [0, 1] rfl
                    refine va_calli (va_runV (As := [.int 57]) (rest := []) ⟨hx, hb, hml, hown, hts⟩ (c_rtsN l dC dI m9 mr mv vf xl xa21 xi xt xn zs T pp21 (ns + 1) vv bb21 kI fk fa 57 H.size hT hf22_1.2.1 hk0 (by decide) hk_25) (cwV 1 hts g_c_xli6_c_rtsN_85 rfl rfl rfl (by decide +kernel) ⟨by show 1 + 1 ≤ 2 + 12 * k; omega, by show 8 + (2 + 11) + (21) ≤ 43 + 279 * k; omega⟩) ⟨fun a U g mk q => by obtain ⟨q0, q1, qP, qK, qD⟩ := q; exact ⟨q0, q1, qP, va_K.moved (u := U) (U := U.calling g mk a) (Vm.Alike.refl U.vm) qK, qD⟩, va_recv hKc hPc (ci := 23) (q0 := 0) rfl rfl, fun U hU hW => ⟨rfl, by rw [hU], by rw [hU]; exact hPc, va_K.moved hW.alike hKc, hDc.weaken (fun _ _ _ _ => trivial)⟩⟩ rfl rfl hl.1 rfl (lv_room (Nat.le_of_ble_eq_true rfl)) dX23_list_85 ⟨(show (((8 * (pp1 - pp) - 3 * n - 8 * cm) + 8 * (pp21 - pp1) + 3) + 2) + 0 ≤ (8 * (T - pp) + 3) by omega), (show (((120 * (pp1 - pp) + 4 * cp + 8 - 64 * n - 120 * cm) + 120 * (pp21 - pp1) + 48) + 4 * (cp22 - cp)) + 0 ≤ (120 * (T - pp) + 280) by omega)⟩) hS (fun q _ h => hFc q h) hFc (fun r_26 u tS H1 locs ht hvm hw hB hz1 hk1 hS => ?_)
                    obtain ⟨hP1, hK1, hD1⟩ := hB
                    rw [ht] at hP1
                    replace hK1 := va_K.moved hvm.symm hK1
                    obtain ⟨hPj, hDj⟩ := va_joinT (wr := [(mr 6, .inl (kI, 3002, .inl fa)), (mr 8, .inl (kL, 3002, .inr (.inl fn))), (ee, .inr (15, [.int 6, .int tx, .int gx, .int nx, .int 0, .int 0, .long 0, .int 0, .null, .ref la22, .ref sa22, .int (nI (n + 1)), .null, .null])), (la22, .inl (kE, cp22, .inr (.inr (.inr (.inr f22))))), (sa22, .inl (kI, cp22, .inl g22))]) (w1 := [(m9, .inr (23, mA mr mv vf xl (nI zs) 0 xa21 (nI T) (nI pp21) xi xt xn (nI (ns + 1)) (nI vv) (nI bb21))), (mr 5, .inl (kI, 3002, .inl fk))]) hP hD [0, 1] [2, 3, 4, 5, 6] rfl rfl (by decide) (by decide) hk1 hFc hP1 hD1
                    replace hP := hPj
                    replace hD := hDj
                    clear hPj hDj
                    replace hK := hK.app hK1
                    generalize H1 = H at hP hS ⊢
                    replace hP : va_P (dC, dI) vwCl (([(mr 6, .inl (kI, 3002, .inl fa)), (mr 8, .inl (kL, 3002, .inr (.inl fn))), (ee, .inr (15, [.int 6, .int tx, .int gx, .int nx, .int 0, .int 0, .long 0, .int 0, .null, .ref la22, .ref sa22, .int (nI (n + 1)), .null, .null])), (la22, .inl (kE, cp22, .inr (.inr (.inr (.inr f22))))), (sa22, .inl (kI, cp22, .inl g22)), (m9, .inr (23, mA mr mv vf xl (nI zs) 0 xa21 (nI T) (nI pp21) xi xt xn (nI (ns + 1)) (nI vv) (nI bb21))), (mr 5, .inl (kI, 3002, .inl fk))] : va_W) ++ (sT L21 F21)) H := hP
                    replace hD : va_D A (([(mr 6, .inl (kI, 3002, .inl fa)), (mr 8, .inl (kL, 3002, .inr (.inl fn))), (ee, .inr (15, [.int 6, .int tx, .int gx, .int nx, .int 0, .int 0, .long 0, .int 0, .null, .ref la22, .ref sa22, .int (nI (n + 1)), .null, .null])), (la22, .inl (kE, cp22, .inr (.inr (.inr (.inr f22))))), (sa22, .inl (kI, cp22, .inl g22)), (m9, .inr (23, mA mr mv vf xl (nI zs) 0 xa21 (nI T) (nI pp21) xi xt xn (nI (ns + 1)) (nI vv) (nI bb21))), (mr 5, .inl (kI, 3002, .inl fk))] : va_W) ++ (sT L21 F21)) := hD
                    replace hK : va_K (dC, dI) vwCl [(kI, .int), (kL, .long), (kE, .object RX15), (kI, .int)] s := hK
                    replace hK := hK.sub (tys' := [(kI, .int), (kL, .long), (kE, .object RX15)]) [0, 1, 2] rfl
                    clear hz1 hk1 hPc hDc hKc hFc hP1 hD1 hK1
                    obtain rfl : r_26 = 0 := hw
                    refine lv_istore_n (lv' := [(2, .int 0), (0, .ref m9), (1, .ref ee)]) hx hb dX23_list_88 rfl hl (by decide) rfl (fun ls hl => ?_)
                    refine lv_goto (tgt := 62) hx hb dX23_list_89 (by decide) ?_
                    refine W.widen (k := (8 * (pp21 - pp) - 3 * (n + 1) - 8 * 0)) (n := (120 * (pp21 - pp) + 4 * cp22 + 8 - 64 * (n + 1) - 120 * 0)) (by omega) (by omega) ?_
                    exact ih1 pp21 bb21 la22 sa22 cp22 (n + 1) 0 0 xa21 0 L21 F21 f22 g22 _ _ _ (⟨by omega, by omega, by omega, by omega, by omega, by omega, by omega, by omega, by omega, by omega, by omega, hT⟩) (Or.inr (by omega)) (hr2.tr hf22_0.1) (fun i hi => by
                      by_cases e9 : i = n
                      · subst e9; exact ⟨_, hf23_2.1, hf22_0.2⟩
                      · obtain ⟨x9, y9, z9⟩ := hr3 i (by omega); exact ⟨x9, (hf23_1 i (by omega)).1.trans y9, xO_ex hf22_0.1 z9⟩) (fun _ => ⟨hg21.1, _, chP_add (chP_im (fun x p q b c z => isE_im hf22_0.1 _ (Nat.le_refl _) z) hr5) (fun i hi => hf23_1 i hi) hf23_2.1 (hf23_2.2.trans rfl) hr6 (isE_im exS.rf _ (by omega) hg21.2) (Or.inl ⟨rfl, rfl⟩), Or.inl ⟨rfl, rfl, by omega⟩⟩) (hP.subT [2, 3, 4, 5, 6, 0, 1] rfl) (hD.subT [2, 3, 4, 5, 6, 0, 1] (by decide) rfl) hS (lv_sub hl [0, 1, 2] rfl)
                · replace hPc := hP.subF (f' := [(m9, .inr (23, mA mr mv vf xl (nI zs) ff21 xa21 (nI T) (nI pp21) xi xt xn (nI (ns + 1)) (nI vv) (nI bb21))), (mr 5, .inl (kI, 3002, .inl fk))]) [0, 1] rfl
                  replace hDc := hD.subF (f' := [(m9, .inr (23, mA mr mv vf xl (nI zs) ff21 xa21 (nI T) (nI pp21) xi xt xn (nI (ns + 1)) (nI vv) (nI bb21))), (mr 5, .inl (kI, 3002, .inl fk))]) [0, 1] (by decide) rfl
                  replace hKc := hK.sub (tys' := [(kI, .int)]) [0] rfl
                  replace hFc := va_freeT (wc := [(m9, .inr (23, mA mr mv vf xl (nI zs) ff21 xa21 (nI T) (nI pp21) xi xt xn (nI (ns + 1)) (nI vv) (nI bb21))), (mr 5, .inl (kI, 3002, .inl fk))]) hD hS hA [0, 1] rfl
                  refine va_calli (va_runV (As := [.int 57]) (rest := []) ⟨hx, hb, hml, hown, hts⟩ (c_rtsB l dC dI m9 mr mv vf xl xa21 xi xt xn zs T pp21 (ns + 1) vv bb21 kI fk fa ff21 57 H.size hz_24) (cwV 1 hts g_c_xli6_c_rtsB_85 rfl rfl rfl (by decide +kernel) ⟨by show 1 + 1 ≤ 2 + 12 * k; omega, by show 8 + (2 + 11) + (20) ≤ 43 + 279 * k; omega⟩) ⟨fun a U g mk q => by obtain ⟨q0, q1, qP, qK, qD⟩ := q; exact ⟨q0, q1, qP, va_K.moved (u := U) (U := U.calling g mk a) (Vm.Alike.refl U.vm) qK, qD⟩, va_recv hKc hPc (ci := 23) (q0 := 0) rfl rfl, fun U hU hW => ⟨rfl, by rw [hU], by rw [hU]; exact hPc, va_K.moved hW.alike hKc, hDc.weaken (fun _ _ _ _ => trivial)⟩⟩ rfl rfl hl.1 rfl (lv_room (Nat.le_of_ble_eq_true rfl)) dX23_list_85 ⟨(show (((8 * (pp1 - pp) - 3 * n - 8 * cm) + 8 * (pp21 - pp1) + 3) + 2) + 0 ≤ (8 * (T - pp) + 3) by omega), (show (((120 * (pp1 - pp) + 4 * cp + 8 - 64 * n - 120 * cm) + 120 * (pp21 - pp1) + 48) + 4 * (cp22 - cp)) + 0 ≤ (120 * (T - pp) + 280) by omega)⟩) hS (fun q _ h => hFc q h) hFc (fun r_25 u tS H1 locs ht hvm hw hB hz1 hk1 hS => ?_)
                  obtain ⟨hP1, hK1, hD1⟩ := hB
                  rw [ht] at hP1
                  replace hK1 := va_K.moved hvm.symm hK1
                  obtain ⟨hPj, hDj⟩ := va_joinT (wr := [(mr 6, .inl (kI, 3002, .inl fa)), (mr 8, .inl (kL, 3002, .inr (.inl fn))), (ee, .inr (15, [.int 6, .int tx, .int gx, .int nx, .int 0, .int 0, .long 0, .int 0, .null, .ref la22, .ref sa22, .int (nI (n + 1)), .null, .null])), (la22, .inl (kE, cp22, .inr (.inr (.inr (.inr f22))))), (sa22, .inl (kI, cp22, .inl g22))]) (w1 := [(m9, .inr (23, mA mr mv vf xl (nI zs) ff21 xa21 (nI T) (nI pp21) xi xt xn (nI (ns + 1)) (nI vv) (nI bb21))), (mr 5, .inl (kI, 3002, .inl fk))]) hP hD [0, 1] [2, 3, 4, 5, 6] rfl rfl (by decide) (by decide) hk1 hFc hP1 hD1
                  replace hP := hPj
                  replace hD := hDj
                  clear hPj hDj
                  replace hK := hK.app hK1
                  generalize H1 = H at hP hS ⊢
                  replace hP : va_P (dC, dI) vwCl (([(mr 6, .inl (kI, 3002, .inl fa)), (mr 8, .inl (kL, 3002, .inr (.inl fn))), (ee, .inr (15, [.int 6, .int tx, .int gx, .int nx, .int 0, .int 0, .long 0, .int 0, .null, .ref la22, .ref sa22, .int (nI (n + 1)), .null, .null])), (la22, .inl (kE, cp22, .inr (.inr (.inr (.inr f22))))), (sa22, .inl (kI, cp22, .inl g22)), (m9, .inr (23, mA mr mv vf xl (nI zs) ff21 xa21 (nI T) (nI pp21) xi xt xn (nI (ns + 1)) (nI vv) (nI bb21))), (mr 5, .inl (kI, 3002, .inl fk))] : va_W) ++ (sT L21 F21)) H := hP
                  replace hD : va_D A (([(mr 6, .inl (kI, 3002, .inl fa)), (mr 8, .inl (kL, 3002, .inr (.inl fn))), (ee, .inr (15, [.int 6, .int tx, .int gx, .int nx, .int 0, .int 0, .long 0, .int 0, .null, .ref la22, .ref sa22, .int (nI (n + 1)), .null, .null])), (la22, .inl (kE, cp22, .inr (.inr (.inr (.inr f22))))), (sa22, .inl (kI, cp22, .inl g22)), (m9, .inr (23, mA mr mv vf xl (nI zs) ff21 xa21 (nI T) (nI pp21) xi xt xn (nI (ns + 1)) (nI vv) (nI bb21))), (mr 5, .inl (kI, 3002, .inl fk))] : va_W) ++ (sT L21 F21)) := hD
                  replace hK : va_K (dC, dI) vwCl [(kI, .int), (kL, .long), (kE, .object RX15), (kI, .int)] s := hK
                  replace hK := hK.sub (tys' := [(kI, .int), (kL, .long), (kE, .object RX15)]) [0, 1, 2] rfl
                  clear hz1 hk1 hPc hDc hKc hFc hP1 hD1 hK1
                  obtain rfl : r_25 = 0 := hw
                  refine lv_istore_n (lv' := [(2, .int 0), (0, .ref m9), (1, .ref ee)]) hx hb dX23_list_88 rfl hl (by decide) rfl (fun ls hl => ?_)
                  refine lv_goto (tgt := 62) hx hb dX23_list_89 (by decide) ?_
                  refine W.widen (k := (8 * (pp21 - pp) - 3 * (n + 1) - 8 * 0)) (n := (120 * (pp21 - pp) + 4 * cp22 + 8 - 64 * (n + 1) - 120 * 0)) (by omega) (by omega) ?_
                  exact ih1 pp21 bb21 la22 sa22 cp22 (n + 1) 0 ff21 xa21 0 L21 F21 f22 g22 _ _ _ (⟨by omega, by omega, by omega, by omega, by omega, by omega, by omega, by omega, by omega, by omega, by omega, hT⟩) (Or.inl hz_24) (hr2.tr hf22_0.1) (fun i hi => by
                    by_cases e9 : i = n
                    · subst e9; exact ⟨_, hf23_2.1, hf22_0.2⟩
                    · obtain ⟨x9, y9, z9⟩ := hr3 i (by omega); exact ⟨x9, (hf23_1 i (by omega)).1.trans y9, xO_ex hf22_0.1 z9⟩) (fun q9 => absurd q9 hz_24) (hP.subT [2, 3, 4, 5, 6, 0, 1] rfl) (hD.subT [2, 3, 4, 5, 6, 0, 1] (by decide) rfl) hS (lv_sub hl [0, 1, 2] rfl)
            · replace hPc := hP.subF (f' := [(m9, .inr (23, mA mr mv vf xl (nI zs) ff1 xa1 (nI T) (nI pp1) xi xt xn (nI (ns + 1)) (nI vv) (nI bb1)))]) [3] rfl
              replace hDc := hD.subF (f' := [(m9, .inr (23, mA mr mv vf xl (nI zs) ff1 xa1 (nI T) (nI pp1) xi xt xn (nI (ns + 1)) (nI vv) (nI bb1)))]) [3] (by decide) rfl
              replace hKc := hK.sub (tys' := []) [] rfl
              replace hFc := va_freeT (wc := [(m9, .inr (23, mA mr mv vf xl (nI zs) ff1 xa1 (nI T) (nI pp1) xi xt xn (nI (ns + 1)) (nI vv) (nI bb1)))]) hD hS hA [3] rfl
              refine va_calli (va_runV (As := []) (rest := []) ⟨hx, hb, hml, hown, hts⟩ (c_rokB l dC dI m9 mr mv vf xl xa1 xi xt xn zs T pp1 (ns + 1) vv bb1 kI fk fa ff1 H.size hz_18) (cwV 0 hts g_c_xli6_c_rokB_63 rfl rfl rfl (by decide +kernel) ⟨by show 0 + 1 ≤ 2 + 12 * k; omega, by show 8 + (1 + 11) + (0) ≤ 43 + 279 * k; omega⟩) ⟨fun a U g mk q => by obtain ⟨q0, q1, qP, qK, qD⟩ := q; exact ⟨q0, q1, qP, va_K.moved (u := U) (U := U.calling g mk a) (Vm.Alike.refl U.vm) qK, qD⟩, va_recv hKc hPc (ci := 23) (q0 := 0) rfl rfl, fun U hU hW => ⟨rfl, by rw [hU], by rw [hU]; exact hPc, va_K.moved hW.alike hKc, hDc.weaken (fun _ _ _ _ => trivial)⟩⟩ rfl rfl hl.1 rfl (lv_room (Nat.le_of_ble_eq_true rfl)) dX23_list_63 ⟨(show (8 * (pp1 - pp) - 3 * n - 8 * cm) + 0 ≤ (8 * (T - pp) + 3) by omega), (show (120 * (pp1 - pp) + 4 * cp + 8 - 64 * n - 120 * cm) + 0 ≤ (120 * (T - pp) + 280) by omega)⟩) hS (fun q _ h => hFc q h) hFc (fun r_19 u tS H1 locs ht hvm hw hB hz1 hk1 hS => ?_)
              obtain ⟨hP1, hK1, hD1⟩ := hB
              rw [ht] at hP1
              replace hK1 := va_K.moved hvm.symm hK1
              obtain ⟨hPj, hDj⟩ := va_joinT (wr := [(ee, .inr (15, [.int 6, .int tx, .int gx, .int nx, .int 0, .int 0, .long 0, .int 0, .null, .ref la, .ref sa, .int (nI n), .null, .null])), (la, .inl (kE, cp, .inr (.inr (.inr (.inr f))))), (sa, .inl (kI, cp, .inl g)), (mr 5, .inl (kI, 3002, .inl fk)), (mr 6, .inl (kI, 3002, .inl fa)), (mr 8, .inl (kL, 3002, .inr (.inl fn)))]) (w1 := [(m9, .inr (23, mA mr mv vf xl (nI zs) ff1 xa1 (nI T) (nI pp1) xi xt xn (nI (ns + 1)) (nI vv) (nI bb1)))]) hP hD [3] [0, 1, 2, 4, 5, 6] rfl rfl (by decide) (by decide) hk1 hFc hP1 hD1
              replace hP := hPj
              replace hD := hDj
              clear hPj hDj
              generalize H1 = H at hP hS ⊢
              replace hP : va_P (dC, dI) vwCl (([(ee, .inr (15, [.int 6, .int tx, .int gx, .int nx, .int 0, .int 0, .long 0, .int 0, .null, .ref la, .ref sa, .int (nI n), .null, .null])), (la, .inl (kE, cp, .inr (.inr (.inr (.inr f))))), (sa, .inl (kI, cp, .inl g)), (mr 5, .inl (kI, 3002, .inl fk)), (mr 6, .inl (kI, 3002, .inl fa)), (mr 8, .inl (kL, 3002, .inr (.inl fn))), (m9, .inr (23, mA mr mv vf xl (nI zs) ff1 xa1 (nI T) (nI pp1) xi xt xn (nI (ns + 1)) (nI vv) (nI bb1)))] : va_W) ++ (sT L1 F1)) H := hP
              replace hD : va_D A (([(ee, .inr (15, [.int 6, .int tx, .int gx, .int nx, .int 0, .int 0, .long 0, .int 0, .null, .ref la, .ref sa, .int (nI n), .null, .null])), (la, .inl (kE, cp, .inr (.inr (.inr (.inr f))))), (sa, .inl (kI, cp, .inl g)), (mr 5, .inl (kI, 3002, .inl fk)), (mr 6, .inl (kI, 3002, .inl fa)), (mr 8, .inl (kL, 3002, .inr (.inl fn))), (m9, .inr (23, mA mr mv vf xl (nI zs) ff1 xa1 (nI T) (nI pp1) xi xt xn (nI (ns + 1)) (nI vv) (nI bb1)))] : va_W) ++ (sT L1 F1)) := hD
              replace hK : va_K (dC, dI) vwCl [(kI, .int), (kL, .long), (kE, .object RX15)] s := hK
              clear hz1 hk1 hPc hDc hKc hFc hP1 hD1 hK1
              obtain rfl : r_19 = 0 := hw
              refine lv_if_eq (tgt := 92) hx hb dX23_list_66 (by decide) (fun _ => ?_) (fun c_20 => absurd (by decide) c_20)
              refine lv_aload_n hx hb dX23_list_92 rfl (lv_at hl 1 rfl) ?_
              refine lv_dup hx hb dX23_list_93 rfl ?_
              refine va_get (D := (dC, dI)) (ci := 23) (v := .int (nI (ns + 1))) (C := RX23) (T := TX23) (N := 89) hx hb hts in_c_xli6_X23 hown hK hP 6 rfl rfl 15 (by decide) (hts (.fieldLink RX23 104 "OwnedPlacesModel" "nest" "I") (wm_c_xli6 14 rfl)) (fun _ h9 => h9) rfl dX23_list_94 ?_
              refine lv_iconst (v := 1) hx hb dX23_list_97 (by decide) ?_
              refine lv_isub hx hb dX23_list_98 ?_
              refine lv_topi (fun f_21 ef_21 => ?_)
              obtain rfl : f_21 = nI ns := ef_21.trans (nI_pred _)
              refine va_put (D := (dC, dI)) (ci := 23) (v := .int (nI ns)) (ty := .int) (C := RX23) (T := TX23) (N := 89) hx hb hts in_c_xli6_X23 tyX23 tyX23_ok nmX23 hown hK hP hD hS 6 rfl rfl 15 (by decide) (hts (.fieldLink RX23 104 "OwnedPlacesModel" "nest" "I") (wm_c_xli6 14 rfl)) (fun _ h9 => h9) rfl (by decide +kernel) rfl rfl (Nat.le_of_ble_eq_true rfl) dX23_list_99 (fun H locs hP hD hS => ?_)
              replace hP : va_P (dC, dI) vwCl (([(ee, .inr (15, [.int 6, .int tx, .int gx, .int nx, .int 0, .int 0, .long 0, .int 0, .null, .ref la, .ref sa, .int (nI n), .null, .null])), (la, .inl (kE, cp, .inr (.inr (.inr (.inr f))))), (sa, .inl (kI, cp, .inl g)), (mr 5, .inl (kI, 3002, .inl fk)), (mr 6, .inl (kI, 3002, .inl fa)), (mr 8, .inl (kL, 3002, .inr (.inl fn))), (m9, .inr (23, mA mr mv vf xl (nI zs) ff1 xa1 (nI T) (nI pp1) xi xt xn (nI ns) (nI vv) (nI bb1)))] : va_W) ++ (sT L1 F1)) H := hP
              replace hD : va_D A (([(ee, .inr (15, [.int 6, .int tx, .int gx, .int nx, .int 0, .int 0, .long 0, .int 0, .null, .ref la, .ref sa, .int (nI n), .null, .null])), (la, .inl (kE, cp, .inr (.inr (.inr (.inr f))))), (sa, .inl (kI, cp, .inl g)), (mr 5, .inl (kI, 3002, .inl fk)), (mr 6, .inl (kI, 3002, .inl fa)), (mr 8, .inl (kL, 3002, .inr (.inl fn))), (m9, .inr (23, mA mr mv vf xl (nI zs) ff1 xa1 (nI T) (nI pp1) xi xt xn (nI ns) (nI vv) (nI bb1)))] : va_W) ++ (sT L1 F1)) := hD
              refine lv_aload_n hx hb dX23_list_102 rfl (lv_at hl 1 rfl) ?_
              refine lv_bipush (v := 62) hx hb dX23_list_103 (by decide) ?_
              replace hPc := hP.subF (f' := [(m9, .inr (23, mA mr mv vf xl (nI zs) ff1 xa1 (nI T) (nI pp1) xi xt xn (nI ns) (nI vv) (nI bb1))), (mr 5, .inl (kI, 3002, .inl fk)), (mr 6, .inl (kI, 3002, .inl fa))]) [6, 3, 4] rfl
              replace hDc := hD.subF (f' := [(m9, .inr (23, mA mr mv vf xl (nI zs) ff1 xa1 (nI T) (nI pp1) xi xt xn (nI ns) (nI vv) (nI bb1))), (mr 5, .inl (kI, 3002, .inl fk)), (mr 6, .inl (kI, 3002, .inl fa))]) [6, 3, 4] (by decide) rfl
              replace hKc := hK.sub (tys' := [(kI, .int)]) [0] rfl
              replace hFc := va_freeT (wc := [(m9, .inr (23, mA mr mv vf xl (nI zs) ff1 xa1 (nI T) (nI pp1) xi xt xn (nI ns) (nI vv) (nI bb1))), (mr 5, .inl (kI, 3002, .inl fk)), (mr 6, .inl (kI, 3002, .inl fa))]) hD hS hA [6, 3, 4] rfl
              refine va_callv (va_runV (As := [.int 62]) (rest := []) ⟨hx, hb, hml, hown, hts⟩ (c_rtkB l dC dI m9 mr mv vf xl xa1 xi xt xn zs T pp1 ns vv bb1 kI fk fa ff1 62 H.size hz_18) (cwV 1 hts g_c_xli6_c_rtkB_105 rfl rfl rfl (by decide +kernel) ⟨by show 1 + 1 ≤ 2 + 12 * k; omega, by show 8 + (2 + 11) + (20) ≤ 43 + 279 * k; omega⟩) ⟨fun a U g mk q => by obtain ⟨q0, q1, qP, qK, qD⟩ := q; exact ⟨q0, q1, qP, va_K.moved (u := U) (U := U.calling g mk a) (Vm.Alike.refl U.vm) qK, qD⟩, va_recv hKc hPc (ci := 23) (q0 := 0) rfl rfl, fun U hU hW => ⟨rfl, by rw [hU], by rw [hU]; exact hPc, va_K.moved hW.alike hKc, hDc.weaken (fun _ _ _ _ => trivial)⟩⟩ rfl rfl hl.1 rfl (lv_room (Nat.le_of_ble_eq_true rfl)) dX23_list_105 ⟨(show (8 * (pp1 - pp) - 3 * n - 8 * cm) + 0 ≤ (8 * (T - pp) + 3) by omega), (show (120 * (pp1 - pp) + 4 * cp + 8 - 64 * n - 120 * cm) + 0 ≤ (120 * (T - pp) + 280) by omega)⟩) hS (fun q _ h => hFc q h) hFc (fun u tS H1 locs ht hvm hw hB hz1 hk1 hS => ?_)
              obtain ⟨hP1, hK1, hD1⟩ := hB
              rw [ht] at hP1
              replace hK1 := va_K.moved hvm.symm hK1
              obtain ⟨hPj, hDj⟩ := va_joinT (wr := [(ee, .inr (15, [.int 6, .int tx, .int gx, .int nx, .int 0, .int 0, .long 0, .int 0, .null, .ref la, .ref sa, .int (nI n), .null, .null])), (la, .inl (kE, cp, .inr (.inr (.inr (.inr f))))), (sa, .inl (kI, cp, .inl g)), (mr 8, .inl (kL, 3002, .inr (.inl fn)))]) (w1 := [(m9, .inr (23, mA mr mv vf xl (nI zs) ff1 xa1 (nI T) (nI pp1) xi xt xn (nI ns) (nI vv) (nI bb1))), (mr 5, .inl (kI, 3002, .inl fk)), (mr 6, .inl (kI, 3002, .inl fa))]) hP hD [6, 3, 4] [0, 1, 2, 5] rfl rfl (by decide) (by decide) hk1 hFc hP1 hD1
              replace hP := hPj
              replace hD := hDj
              clear hPj hDj
              replace hK := hK.app hK1
              generalize H1 = H at hP hS ⊢
              replace hP : va_P (dC, dI) vwCl (([(ee, .inr (15, [.int 6, .int tx, .int gx, .int nx, .int 0, .int 0, .long 0, .int 0, .null, .ref la, .ref sa, .int (nI n), .null, .null])), (la, .inl (kE, cp, .inr (.inr (.inr (.inr f))))), (sa, .inl (kI, cp, .inl g)), (mr 8, .inl (kL, 3002, .inr (.inl fn))), (m9, .inr (23, mA mr mv vf xl (nI zs) ff1 xa1 (nI T) (nI pp1) xi xt xn (nI ns) (nI vv) (nI bb1))), (mr 5, .inl (kI, 3002, .inl fk)), (mr 6, .inl (kI, 3002, .inl fa))] : va_W) ++ (sT L1 F1)) H := hP
              replace hD : va_D A (([(ee, .inr (15, [.int 6, .int tx, .int gx, .int nx, .int 0, .int 0, .long 0, .int 0, .null, .ref la, .ref sa, .int (nI n), .null, .null])), (la, .inl (kE, cp, .inr (.inr (.inr (.inr f))))), (sa, .inl (kI, cp, .inl g)), (mr 8, .inl (kL, 3002, .inr (.inl fn))), (m9, .inr (23, mA mr mv vf xl (nI zs) ff1 xa1 (nI T) (nI pp1) xi xt xn (nI ns) (nI vv) (nI bb1))), (mr 5, .inl (kI, 3002, .inl fk)), (mr 6, .inl (kI, 3002, .inl fa))] : va_W) ++ (sT L1 F1)) := hD
              replace hK : va_K (dC, dI) vwCl [(kI, .int), (kL, .long), (kE, .object RX15), (kI, .int)] s := hK
              replace hK := hK.sub (tys' := [(kI, .int), (kL, .long), (kE, .object RX15)]) [0, 1, 2] rfl
              clear hz1 hk1 hPc hDc hKc hFc hP1 hD1 hK1
              replace hP : va_P (dC, dI) vwCl ((([(ee, .inr (15, [.int 6, .int tx, .int gx, .int nx, .int 0, .int 0, .long 0, .int 0, .null, .ref la, .ref sa, .int (nI n), .null, .null])), (mr 8, .inl (kL, 3002, .inr (.inl fn))), (m9, .inr (23, mA mr mv vf xl (nI zs) ff1 xa1 (nI T) (nI pp1) xi xt xn (nI ns) (nI vv) (nI bb1))), (mr 5, .inl (kI, 3002, .inl fk)), (mr 6, .inl (kI, 3002, .inl fa))] : va_W) ++ ([(la, .inl (kE, cp, .inr (.inr (.inr (.inr f))))), (sa, .inl (kI, cp, .inl g))] : va_W)) ++ sT L1 F1) H := hP.subT (f' := [(ee, .inr (15, [.int 6, .int tx, .int gx, .int nx, .int 0, .int 0, .long 0, .int 0, .null, .ref la, .ref sa, .int (nI n), .null, .null])), (mr 8, .inl (kL, 3002, .inr (.inl fn))), (m9, .inr (23, mA mr mv vf xl (nI zs) ff1 xa1 (nI T) (nI pp1) xi xt xn (nI ns) (nI vv) (nI bb1))), (mr 5, .inl (kI, 3002, .inl fk)), (mr 6, .inl (kI, 3002, .inl fa)), (la, .inl (kE, cp, .inr (.inr (.inr (.inr f))))), (sa, .inl (kI, cp, .inl g))]) [0, 3, 4, 5, 6, 1, 2] rfl
              replace hD : va_D A ((([(ee, .inr (15, [.int 6, .int tx, .int gx, .int nx, .int 0, .int 0, .long 0, .int 0, .null, .ref la, .ref sa, .int (nI n), .null, .null])), (mr 8, .inl (kL, 3002, .inr (.inl fn))), (m9, .inr (23, mA mr mv vf xl (nI zs) ff1 xa1 (nI T) (nI pp1) xi xt xn (nI ns) (nI vv) (nI bb1))), (mr 5, .inl (kI, 3002, .inl fk)), (mr 6, .inl (kI, 3002, .inl fa))] : va_W) ++ ([(la, .inl (kE, cp, .inr (.inr (.inr (.inr f))))), (sa, .inl (kI, cp, .inl g))] : va_W)) ++ sT L1 F1) := hD.subT (f' := [(ee, .inr (15, [.int 6, .int tx, .int gx, .int nx, .int 0, .int 0, .long 0, .int 0, .null, .ref la, .ref sa, .int (nI n), .null, .null])), (mr 8, .inl (kL, 3002, .inr (.inl fn))), (m9, .inr (23, mA mr mv vf xl (nI zs) ff1 xa1 (nI T) (nI pp1) xi xt xn (nI ns) (nI vv) (nI bb1))), (mr 5, .inl (kI, 3002, .inl fk)), (mr 6, .inl (kI, 3002, .inl fa)), (la, .inl (kE, cp, .inr (.inr (.inr (.inr f))))), (sa, .inl (kI, cp, .inl g))]) [0, 3, 4, 5, 6, 1, 2] (by decide) rfl
              obtain ⟨L9, F9, hx9, hm9, hP, hD⟩ := st_fileL [(la, .inl (kE, cp, .inr (.inr (.inr (.inr f))))), (sa, .inl (kI, cp, .inl g))] hP hD
              have hm9_0 := hm9 _ (List.mem_of_getElem? (i := 0) rfl)
              have hm9_1 := hm9 _ (List.mem_of_getElem? (i := 1) rfl)
              refine W.grow (fun hgs0 hgs1 => ?_)
              have hP9 := hP.subT (f' := [(ee, .inr (15, [.int 6, .int tx, .int gx, .int nx, .int 0, .int 0, .long 0, .int 0, .null, (.ref la), (.ref sa), .int (nI n), .null, .null])), (m9, .inr (23, mA mr mv vf xl (nI zs) ff1 xa1 (nI T) (nI pp1) xi xt xn (nI ns) (nI vv) (nI bb1))), (mr 5, .inl (kI, 3002, .inl fk)), (mr 6, .inl (kI, 3002, .inl fa)), (mr 8, .inl (kL, 3002, .inr (.inl fn)))]) [0, 2, 3, 4, 1] rfl
              have hD9 := hD.subT (f' := [(ee, .inr (15, [.int 6, .int tx, .int gx, .int nx, .int 0, .int 0, .long 0, .int 0, .null, (.ref la), (.ref sa), .int (nI n), .null, .null])), (m9, .inr (23, mA mr mv vf xl (nI zs) ff1 xa1 (nI T) (nI pp1) xi xt xn (nI ns) (nI vv) (nI bb1))), (mr 5, .inl (kI, 3002, .inl fk)), (mr 6, .inl (kI, 3002, .inl fa)), (mr 8, .inl (kL, 3002, .inr (.inl fn)))]) [0, 2, 3, 4, 1] (by decide) rfl
              have hK9 := hK.sub (tys' := [(kI, .int), (kL, .long), (kE, .object RX15)]) [0, 1, 2] rfl
              refine W.widen (k := (8 * (T - pp) + 3)) (n := (120 * (T - pp) + 280)) (by omega) (by omega) ?_
              subst hQ1
              exact W.vret hx hb hr (fun tS ht hW => ⟨⟨(), rfl, trivial, L9, F9, ff1, xa1, pp1, bb1, .ref la, .ref sa, n, (hr2).tr hx9, ⟨by omega, by omega, by omega, by omega⟩, (fun q9 => absurd q9 hz_18), by rw [ht]; exact ⟨by omega, by omega⟩, by rw [ht]; exact hP9, va_K.moved hW.alike hK9, hD9⟩, hS.F ht⟩) hS.2.2 dX23_list_108
        refine W.widen (k := (8 * (pp13 - pp) - 3 * 1 - 8 * 0)) (n := (120 * (pp13 - pp) + 4 * 4 + 8 - 64 * 1 - 120 * 0)) (by omega) (by omega) ?_
        exact key1 (T + 1 - (pp13) + 1) pp13 bb13 la14 sa14 4 1 0 ff13 xa13 0 L13 F13 f14 g14 _ _ _ (⟨by omega, by omega, by omega, by omega, by omega, by omega, by omega, by omega, by omega, by omega, by omega, hT⟩) (Or.inl hz_16) hf14_0.1 (fun i hi => by obtain rfl : i = 0 := (by omega); exact ⟨_, hf15_1.1, hf14_0.2⟩) (fun q9 => absurd q9 hz_16) (hP.subT [2, 3, 4, 5, 6, 0, 1] rfl) (hD.subT [2, 3, 4, 5, 6, 0, 1] (by decide) rfl) hS (lv_sub hl [0, 1, 2] rfl)
  · replace hPc := hP.subF (f' := [(m9, .inr (23, mA mr mv vf xl (nI zs) 0 xa (nI T) (nI pp) xi xt xn (nI ns) (nI vv) (nI bb))), (mr 5, .inl (kI, 3002, .inl fk))]) [4, 1] rfl
    replace hDc := hD.subF (f' := [(m9, .inr (23, mA mr mv vf xl (nI zs) 0 xa (nI T) (nI pp) xi xt xn (nI ns) (nI vv) (nI bb))), (mr 5, .inl (kI, 3002, .inl fk))]) [4, 1] (by decide) rfl
    replace hKc := hK.sub (tys' := [(kI, .int)]) [0] rfl
    replace hFc := va_freeT (wc := [(m9, .inr (23, mA mr mv vf xl (nI zs) 0 xa (nI T) (nI pp) xi xt xn (nI ns) (nI vv) (nI bb))), (mr 5, .inl (kI, 3002, .inl fk))]) hD hS hA [4, 1] rfl
    refine va_calli (va_runV (As := [.int 61]) (rest := []) ⟨hx, hb, hml, hown, hts⟩ (c_risN l dC dI m9 mr mv vf xl xa xi xt xn zs T pp ns vv bb kI fk fa 0 61 H.size hT hp hk_3) (cwV 1 hts g_c_xli6_c_risN_10 rfl rfl rfl (by decide +kernel) ⟨by show 0 + 1 ≤ 2 + 12 * k; omega, by show 8 + (2 + 11) + (0) ≤ 43 + 279 * k; omega⟩) ⟨fun a U g mk q => by obtain ⟨q0, q1, qP, qK, qD⟩ := q; exact ⟨q0, q1, qP, va_K.moved (u := U) (U := U.calling g mk a) (Vm.Alike.refl U.vm) qK, qD⟩, va_recv hKc hPc (ci := 23) (q0 := 0) rfl rfl, fun U hU hW => ⟨rfl, by rw [hU], by rw [hU]; exact hPc, va_K.moved hW.alike hKc, hDc.weaken (fun _ _ _ _ => trivial)⟩⟩ rfl rfl hl.1 rfl (lv_room (Nat.le_of_ble_eq_true rfl)) dX23_list_10 ⟨(show 0 + 0 ≤ (8 * (T - pp) + 3) by omega), (show 0 + 0 ≤ (120 * (T - pp) + 280) by omega)⟩) hS (fun q _ h => hFc q h) hFc (fun r_4 u tS H1 locs ht hvm hw hB hz1 hk1 hS => ?_)
    obtain ⟨hP1, hK1, hD1⟩ := hB
    rw [ht] at hP1
    replace hK1 := va_K.moved hvm.symm hK1
    obtain ⟨hPj, hDj⟩ := va_joinT (wr := [(ee, .inr (15, [.int 6, .int tx, .int gx, .int nx, .int 0, .int 0, .long 0, .int 0, .null, .null, .null, .int 0, .null, .null])), (mr 6, .inl (kI, 3002, .inl fa)), (mr 8, .inl (kL, 3002, .inr (.inl fn)))]) (w1 := [(m9, .inr (23, mA mr mv vf xl (nI zs) 0 xa (nI T) (nI pp) xi xt xn (nI ns) (nI vv) (nI bb))), (mr 5, .inl (kI, 3002, .inl fk))]) hP hD [4, 1] [0, 2, 3] rfl rfl (by decide) (by decide) hk1 hFc hP1 hD1
    replace hP := hPj
    replace hD := hDj
    clear hPj hDj
    replace hK := hK.app hK1
    generalize H1 = H at hP hS ⊢
    replace hP : va_P (dC, dI) vwCl (([(ee, .inr (15, [.int 6, .int tx, .int gx, .int nx, .int 0, .int 0, .long 0, .int 0, .null, .null, .null, .int 0, .null, .null])), (mr 6, .inl (kI, 3002, .inl fa)), (mr 8, .inl (kL, 3002, .inr (.inl fn))), (m9, .inr (23, mA mr mv vf xl (nI zs) 0 xa (nI T) (nI pp) xi xt xn (nI ns) (nI vv) (nI bb))), (mr 5, .inl (kI, 3002, .inl fk))] : va_W) ++ (sT L F)) H := hP
    replace hD : va_D A (([(ee, .inr (15, [.int 6, .int tx, .int gx, .int nx, .int 0, .int 0, .long 0, .int 0, .null, .null, .null, .int 0, .null, .null])), (mr 6, .inl (kI, 3002, .inl fa)), (mr 8, .inl (kL, 3002, .inr (.inl fn))), (m9, .inr (23, mA mr mv vf xl (nI zs) 0 xa (nI T) (nI pp) xi xt xn (nI ns) (nI vv) (nI bb))), (mr 5, .inl (kI, 3002, .inl fk))] : va_W) ++ (sT L F)) := hD
    replace hK : va_K (dC, dI) vwCl [(kI, .int), (kL, .long), (kE, .object RX15), (kI, .int)] s := hK
    replace hK := hK.sub (tys' := [(kI, .int), (kL, .long), (kE, .object RX15)]) [0, 1, 2] rfl
    clear hz1 hk1 hPc hDc hKc hFc hP1 hD1 hK1
    obtain rfl : r_4 = 0 := hw
    refine lv_if_eq (tgt := 27) hx hb dX23_list_13 (by decide) (fun _ => ?_) (fun c_5 => absurd (by decide) c_5)
    refine lv_aload_n hx hb dX23_list_27 rfl (lv_at hl 0 rfl) ?_
    refine lv_dup hx hb dX23_list_28 rfl ?_
    refine va_get (D := (dC, dI)) (ci := 23) (v := .int (nI ns)) (C := RX23) (T := TX23) (N := 89) hx hb hts in_c_xli6_X23 hown hK hP 3 rfl rfl 15 (by decide) (hts (.fieldLink RX23 104 "OwnedPlacesModel" "nest" "I") (wm_c_xli6 14 rfl)) (fun _ h9 => h9) rfl dX23_list_29 ?_
    refine lv_iconst (v := 1) hx hb dX23_list_32 (by decide) ?_
    refine lv_iadd hx hb dX23_list_33 ?_
    refine lv_topi (fun f_6 ef_6 => ?_)
    obtain rfl : f_6 = nI (ns + 1) := ef_6.trans (nI_1 _)
    refine va_put (D := (dC, dI)) (ci := 23) (v := .int (nI (ns + 1))) (ty := .int) (C := RX23) (T := TX23) (N := 89) hx hb hts in_c_xli6_X23 tyX23 tyX23_ok nmX23 hown hK hP hD hS 3 rfl rfl 15 (by decide) (hts (.fieldLink RX23 104 "OwnedPlacesModel" "nest" "I") (wm_c_xli6 14 rfl)) (fun _ h9 => h9) rfl (by decide +kernel) rfl rfl (Nat.le_of_ble_eq_true rfl) dX23_list_34 (fun H locs hP hD hS => ?_)
    replace hP : va_P (dC, dI) vwCl (([(ee, .inr (15, [.int 6, .int tx, .int gx, .int nx, .int 0, .int 0, .long 0, .int 0, .null, .null, .null, .int 0, .null, .null])), (mr 6, .inl (kI, 3002, .inl fa)), (mr 8, .inl (kL, 3002, .inr (.inl fn))), (m9, .inr (23, mA mr mv vf xl (nI zs) 0 xa (nI T) (nI pp) xi xt xn (nI (ns + 1)) (nI vv) (nI bb))), (mr 5, .inl (kI, 3002, .inl fk))] : va_W) ++ (sT L F)) H := hP
    replace hD : va_D A (([(ee, .inr (15, [.int 6, .int tx, .int gx, .int nx, .int 0, .int 0, .long 0, .int 0, .null, .null, .null, .int 0, .null, .null])), (mr 6, .inl (kI, 3002, .inl fa)), (mr 8, .inl (kL, 3002, .inr (.inl fn))), (m9, .inr (23, mA mr mv vf xl (nI zs) 0 xa (nI T) (nI pp) xi xt xn (nI (ns + 1)) (nI vv) (nI bb))), (mr 5, .inl (kI, 3002, .inl fk))] : va_W) ++ (sT L F)) := hD
    refine lv_aload_n hx hb dX23_list_37 rfl (lv_at hl 0 rfl) ?_
    refine lv_bipush (v := 61) hx hb dX23_list_38 (by decide) ?_
    replace hPc := hP.subF (f' := [(m9, .inr (23, mA mr mv vf xl (nI zs) 0 xa (nI T) (nI pp) xi xt xn (nI (ns + 1)) (nI vv) (nI bb))), (mr 5, .inl (kI, 3002, .inl fk)), (mr 6, .inl (kI, 3002, .inl fa))]) [3, 4, 1] rfl
    replace hDc := hD.subF (f' := [(m9, .inr (23, mA mr mv vf xl (nI zs) 0 xa (nI T) (nI pp) xi xt xn (nI (ns + 1)) (nI vv) (nI bb))), (mr 5, .inl (kI, 3002, .inl fk)), (mr 6, .inl (kI, 3002, .inl fa))]) [3, 4, 1] (by decide) rfl
    replace hKc := hK.sub (tys' := [(kI, .int)]) [0] rfl
    replace hFc := va_freeT (wc := [(m9, .inr (23, mA mr mv vf xl (nI zs) 0 xa (nI T) (nI pp) xi xt xn (nI (ns + 1)) (nI vv) (nI bb))), (mr 5, .inl (kI, 3002, .inl fk)), (mr 6, .inl (kI, 3002, .inl fa))]) hD hS hA [3, 4, 1] rfl
    refine va_callv (va_runV (As := [.int 61]) (rest := []) ⟨hx, hb, hml, hown, hts⟩ (c_rtkN l dC dI m9 mr mv vf xl xa xi xt xn zs T pp (ns + 1) vv bb kI fk fa 61 H.size hT hp hk0 (by decide) hk_3) (cwV 1 hts g_c_xli6_c_rtkN_40 rfl rfl rfl (by decide +kernel) ⟨by show 1 + 1 ≤ 2 + 12 * k; omega, by show 8 + (2 + 11) + (22) ≤ 43 + 279 * k; omega⟩) ⟨fun a U g mk q => by obtain ⟨q0, q1, qP, qK, qD⟩ := q; exact ⟨q0, q1, qP, va_K.moved (u := U) (U := U.calling g mk a) (Vm.Alike.refl U.vm) qK, qD⟩, va_recv hKc hPc (ci := 23) (q0 := 0) rfl rfl, fun U hU hW => ⟨rfl, by rw [hU], by rw [hU]; exact hPc, va_K.moved hW.alike hKc, hDc.weaken (fun _ _ _ _ => trivial)⟩⟩ rfl rfl hl.1 rfl (lv_room (Nat.le_of_ble_eq_true rfl)) dX23_list_40 ⟨(show 0 + 0 ≤ (8 * (T - pp) + 3) by omega), (show 0 + 0 ≤ (120 * (T - pp) + 280) by omega)⟩) hS (fun q _ h => hFc q h) hFc (fun u tS H1 locs ht hvm hw hB hz1 hk1 hS => ?_)
    obtain ⟨ff_7, xa_8, hf9_0, hP1, hK1, hD1⟩ := hB
    rw [ht] at hP1
    replace hK1 := va_K.moved hvm.symm hK1
    obtain ⟨hPj, hDj⟩ := va_joinT (wr := [(ee, .inr (15, [.int 6, .int tx, .int gx, .int nx, .int 0, .int 0, .long 0, .int 0, .null, .null, .null, .int 0, .null, .null])), (mr 8, .inl (kL, 3002, .inr (.inl fn)))]) (w1 := [(m9, .inr (23, mA mr mv vf xl (nI zs) ff_7 xa_8 (nI T) (nI pp) xi xt xn (nI (ns + 1)) (nI vv) (nI bb))), (mr 5, .inl (kI, 3002, .inl fk)), (mr 6, .inl (kI, 3002, .inl fa))]) hP hD [3, 4, 1] [0, 2] rfl rfl (by decide) (by decide) hk1 hFc hP1 hD1
    replace hP := hPj
    replace hD := hDj
    clear hPj hDj
    replace hK := hK.app hK1
    generalize H1 = H at hP hS ⊢
    replace hP : va_P (dC, dI) vwCl (([(ee, .inr (15, [.int 6, .int tx, .int gx, .int nx, .int 0, .int 0, .long 0, .int 0, .null, .null, .null, .int 0, .null, .null])), (mr 8, .inl (kL, 3002, .inr (.inl fn))), (m9, .inr (23, mA mr mv vf xl (nI zs) ff_7 xa_8 (nI T) (nI pp) xi xt xn (nI (ns + 1)) (nI vv) (nI bb))), (mr 5, .inl (kI, 3002, .inl fk)), (mr 6, .inl (kI, 3002, .inl fa))] : va_W) ++ (sT L F)) H := hP
    replace hD : va_D A (([(ee, .inr (15, [.int 6, .int tx, .int gx, .int nx, .int 0, .int 0, .long 0, .int 0, .null, .null, .null, .int 0, .null, .null])), (mr 8, .inl (kL, 3002, .inr (.inl fn))), (m9, .inr (23, mA mr mv vf xl (nI zs) ff_7 xa_8 (nI T) (nI pp) xi xt xn (nI (ns + 1)) (nI vv) (nI bb))), (mr 5, .inl (kI, 3002, .inl fk)), (mr 6, .inl (kI, 3002, .inl fa))] : va_W) ++ (sT L F)) := hD
    replace hK : va_K (dC, dI) vwCl [(kI, .int), (kL, .long), (kE, .object RX15), (kI, .int)] s := hK
    replace hK := hK.sub (tys' := [(kI, .int), (kL, .long), (kE, .object RX15)]) [0, 1, 2] rfl
    clear hz1 hk1 hPc hDc hKc hFc hP1 hD1 hK1
    refine lv_aload_n hx hb dX23_list_43 rfl (lv_at hl 1 rfl) ?_
    refine va_get (D := (dC, dI)) (ci := 15) (v := .int 6) (C := RX15) (T := TX15) (N := 14) hx hb hts in_c_xli6_X15 hown hK hP 0 rfl rfl 0 (by decide) (hts (.fieldLink RX23 330 "OwnedPlacesModel$Exp" "kind" "I") (wm_c_xli6 28 rfl)) (fun _ h9 => h9) rfl dX23_list_44 ?_
    refine lv_iconst (v := 3) hx hb dX23_list_47 (by decide) ?_
    refine lv_icmp_ne (tgt := 60) hx hb dX23_list_48 (by decide) (fun _ => ?_) (fun c_10 => absurd c_10 (by decide))
    refine lv_iconst (v := 1) hx hb dX23_list_60 (by decide) ?_
    refine lv_istore_n (lv' := [(2, .int 1), (0, .ref m9), (1, .ref ee)]) hx hb dX23_list_61 rfl hl (by decide) rfl (fun ls hl => ?_)
    refine lv_aload_n hx hb dX23_list_62 rfl (lv_at hl 1 rfl) ?_
    replace hPc := hP.subF (f' := [(m9, .inr (23, mA mr mv vf xl (nI zs) ff_7 xa_8 (nI T) (nI pp) xi xt xn (nI (ns + 1)) (nI vv) (nI bb)))]) [2] rfl
    replace hDc := hD.subF (f' := [(m9, .inr (23, mA mr mv vf xl (nI zs) ff_7 xa_8 (nI T) (nI pp) xi xt xn (nI (ns + 1)) (nI vv) (nI bb)))]) [2] (by decide) rfl
    replace hKc := hK.sub (tys' := []) [] rfl
    replace hFc := va_freeT (wc := [(m9, .inr (23, mA mr mv vf xl (nI zs) ff_7 xa_8 (nI T) (nI pp) xi xt xn (nI (ns + 1)) (nI vv) (nI bb)))]) hD hS hA [2] rfl
    refine va_calli (va_runV (As := []) (rest := []) ⟨hx, hb, hml, hown, hts⟩ (c_rokB l dC dI m9 mr mv vf xl xa_8 xi xt xn zs T pp (ns + 1) vv bb kI fk fa ff_7 H.size hf9_0) (cwV 0 hts g_c_xli6_c_rokB_63 rfl rfl rfl (by decide +kernel) ⟨by show 0 + 1 ≤ 2 + 12 * k; omega, by show 8 + (1 + 11) + (0) ≤ 43 + 279 * k; omega⟩) ⟨fun a U g mk q => by obtain ⟨q0, q1, qP, qK, qD⟩ := q; exact ⟨q0, q1, qP, va_K.moved (u := U) (U := U.calling g mk a) (Vm.Alike.refl U.vm) qK, qD⟩, va_recv hKc hPc (ci := 23) (q0 := 0) rfl rfl, fun U hU hW => ⟨rfl, by rw [hU], by rw [hU]; exact hPc, va_K.moved hW.alike hKc, hDc.weaken (fun _ _ _ _ => trivial)⟩⟩ rfl rfl hl.1 rfl (lv_room (Nat.le_of_ble_eq_true rfl)) dX23_list_63 ⟨(show 0 + 0 ≤ (8 * (T - pp) + 3) by omega), (show 0 + 0 ≤ (120 * (T - pp) + 280) by omega)⟩) hS (fun q _ h => hFc q h) hFc (fun r_11 u tS H1 locs ht hvm hw hB hz1 hk1 hS => ?_)
    obtain ⟨hP1, hK1, hD1⟩ := hB
    rw [ht] at hP1
    replace hK1 := va_K.moved hvm.symm hK1
    obtain ⟨hPj, hDj⟩ := va_joinT (wr := [(ee, .inr (15, [.int 6, .int tx, .int gx, .int nx, .int 0, .int 0, .long 0, .int 0, .null, .null, .null, .int 0, .null, .null])), (mr 8, .inl (kL, 3002, .inr (.inl fn))), (mr 5, .inl (kI, 3002, .inl fk)), (mr 6, .inl (kI, 3002, .inl fa))]) (w1 := [(m9, .inr (23, mA mr mv vf xl (nI zs) ff_7 xa_8 (nI T) (nI pp) xi xt xn (nI (ns + 1)) (nI vv) (nI bb)))]) hP hD [2] [0, 1, 3, 4] rfl rfl (by decide) (by decide) hk1 hFc hP1 hD1
    replace hP := hPj
    replace hD := hDj
    clear hPj hDj
    generalize H1 = H at hP hS ⊢
    replace hP : va_P (dC, dI) vwCl (([(ee, .inr (15, [.int 6, .int tx, .int gx, .int nx, .int 0, .int 0, .long 0, .int 0, .null, .null, .null, .int 0, .null, .null])), (mr 8, .inl (kL, 3002, .inr (.inl fn))), (mr 5, .inl (kI, 3002, .inl fk)), (mr 6, .inl (kI, 3002, .inl fa)), (m9, .inr (23, mA mr mv vf xl (nI zs) ff_7 xa_8 (nI T) (nI pp) xi xt xn (nI (ns + 1)) (nI vv) (nI bb)))] : va_W) ++ (sT L F)) H := hP
    replace hD : va_D A (([(ee, .inr (15, [.int 6, .int tx, .int gx, .int nx, .int 0, .int 0, .long 0, .int 0, .null, .null, .null, .int 0, .null, .null])), (mr 8, .inl (kL, 3002, .inr (.inl fn))), (mr 5, .inl (kI, 3002, .inl fk)), (mr 6, .inl (kI, 3002, .inl fa)), (m9, .inr (23, mA mr mv vf xl (nI zs) ff_7 xa_8 (nI T) (nI pp) xi xt xn (nI (ns + 1)) (nI vv) (nI bb)))] : va_W) ++ (sT L F)) := hD
    replace hK : va_K (dC, dI) vwCl [(kI, .int), (kL, .long), (kE, .object RX15)] s := hK
    clear hz1 hk1 hPc hDc hKc hFc hP1 hD1 hK1
    obtain rfl : r_11 = 0 := hw
    refine lv_if_eq (tgt := 92) hx hb dX23_list_66 (by decide) (fun _ => ?_) (fun c_12 => absurd (by decide) c_12)
    refine lv_aload_n hx hb dX23_list_92 rfl (lv_at hl 1 rfl) ?_
    refine lv_dup hx hb dX23_list_93 rfl ?_
    refine va_get (D := (dC, dI)) (ci := 23) (v := .int (nI (ns + 1))) (C := RX23) (T := TX23) (N := 89) hx hb hts in_c_xli6_X23 hown hK hP 4 rfl rfl 15 (by decide) (hts (.fieldLink RX23 104 "OwnedPlacesModel" "nest" "I") (wm_c_xli6 14 rfl)) (fun _ h9 => h9) rfl dX23_list_94 ?_
    refine lv_iconst (v := 1) hx hb dX23_list_97 (by decide) ?_
    refine lv_isub hx hb dX23_list_98 ?_
    refine lv_topi (fun f_13 ef_13 => ?_)
    obtain rfl : f_13 = nI ns := ef_13.trans (nI_pred _)
    refine va_put (D := (dC, dI)) (ci := 23) (v := .int (nI ns)) (ty := .int) (C := RX23) (T := TX23) (N := 89) hx hb hts in_c_xli6_X23 tyX23 tyX23_ok nmX23 hown hK hP hD hS 4 rfl rfl 15 (by decide) (hts (.fieldLink RX23 104 "OwnedPlacesModel" "nest" "I") (wm_c_xli6 14 rfl)) (fun _ h9 => h9) rfl (by decide +kernel) rfl rfl (Nat.le_of_ble_eq_true rfl) dX23_list_99 (fun H locs hP hD hS => ?_)
    replace hP : va_P (dC, dI) vwCl (([(ee, .inr (15, [.int 6, .int tx, .int gx, .int nx, .int 0, .int 0, .long 0, .int 0, .null, .null, .null, .int 0, .null, .null])), (mr 8, .inl (kL, 3002, .inr (.inl fn))), (mr 5, .inl (kI, 3002, .inl fk)), (mr 6, .inl (kI, 3002, .inl fa)), (m9, .inr (23, mA mr mv vf xl (nI zs) ff_7 xa_8 (nI T) (nI pp) xi xt xn (nI ns) (nI vv) (nI bb)))] : va_W) ++ (sT L F)) H := hP
    replace hD : va_D A (([(ee, .inr (15, [.int 6, .int tx, .int gx, .int nx, .int 0, .int 0, .long 0, .int 0, .null, .null, .null, .int 0, .null, .null])), (mr 8, .inl (kL, 3002, .inr (.inl fn))), (mr 5, .inl (kI, 3002, .inl fk)), (mr 6, .inl (kI, 3002, .inl fa)), (m9, .inr (23, mA mr mv vf xl (nI zs) ff_7 xa_8 (nI T) (nI pp) xi xt xn (nI ns) (nI vv) (nI bb)))] : va_W) ++ (sT L F)) := hD
    refine lv_aload_n hx hb dX23_list_102 rfl (lv_at hl 1 rfl) ?_
    refine lv_bipush (v := 62) hx hb dX23_list_103 (by decide) ?_
    replace hPc := hP.subF (f' := [(m9, .inr (23, mA mr mv vf xl (nI zs) ff_7 xa_8 (nI T) (nI pp) xi xt xn (nI ns) (nI vv) (nI bb))), (mr 5, .inl (kI, 3002, .inl fk)), (mr 6, .inl (kI, 3002, .inl fa))]) [4, 2, 3] rfl
    replace hDc := hD.subF (f' := [(m9, .inr (23, mA mr mv vf xl (nI zs) ff_7 xa_8 (nI T) (nI pp) xi xt xn (nI ns) (nI vv) (nI bb))), (mr 5, .inl (kI, 3002, .inl fk)), (mr 6, .inl (kI, 3002, .inl fa))]) [4, 2, 3] (by decide) rfl
    replace hKc := hK.sub (tys' := [(kI, .int)]) [0] rfl
    replace hFc := va_freeT (wc := [(m9, .inr (23, mA mr mv vf xl (nI zs) ff_7 xa_8 (nI T) (nI pp) xi xt xn (nI ns) (nI vv) (nI bb))), (mr 5, .inl (kI, 3002, .inl fk)), (mr 6, .inl (kI, 3002, .inl fa))]) hD hS hA [4, 2, 3] rfl
    refine va_callv (va_runV (As := [.int 62]) (rest := []) ⟨hx, hb, hml, hown, hts⟩ (c_rtkB l dC dI m9 mr mv vf xl xa_8 xi xt xn zs T pp ns vv bb kI fk fa ff_7 62 H.size hf9_0) (cwV 1 hts g_c_xli6_c_rtkB_105 rfl rfl rfl (by decide +kernel) ⟨by show 1 + 1 ≤ 2 + 12 * k; omega, by show 8 + (2 + 11) + (20) ≤ 43 + 279 * k; omega⟩) ⟨fun a U g mk q => by obtain ⟨q0, q1, qP, qK, qD⟩ := q; exact ⟨q0, q1, qP, va_K.moved (u := U) (U := U.calling g mk a) (Vm.Alike.refl U.vm) qK, qD⟩, va_recv hKc hPc (ci := 23) (q0 := 0) rfl rfl, fun U hU hW => ⟨rfl, by rw [hU], by rw [hU]; exact hPc, va_K.moved hW.alike hKc, hDc.weaken (fun _ _ _ _ => trivial)⟩⟩ rfl rfl hl.1 rfl (lv_room (Nat.le_of_ble_eq_true rfl)) dX23_list_105 ⟨(show 0 + 0 ≤ (8 * (T - pp) + 3) by omega), (show 0 + 0 ≤ (120 * (T - pp) + 280) by omega)⟩) hS (fun q _ h => hFc q h) hFc (fun u tS H1 locs ht hvm hw hB hz1 hk1 hS => ?_)
    obtain ⟨hP1, hK1, hD1⟩ := hB
    rw [ht] at hP1
    replace hK1 := va_K.moved hvm.symm hK1
    obtain ⟨hPj, hDj⟩ := va_joinT (wr := [(ee, .inr (15, [.int 6, .int tx, .int gx, .int nx, .int 0, .int 0, .long 0, .int 0, .null, .null, .null, .int 0, .null, .null])), (mr 8, .inl (kL, 3002, .inr (.inl fn)))]) (w1 := [(m9, .inr (23, mA mr mv vf xl (nI zs) ff_7 xa_8 (nI T) (nI pp) xi xt xn (nI ns) (nI vv) (nI bb))), (mr 5, .inl (kI, 3002, .inl fk)), (mr 6, .inl (kI, 3002, .inl fa))]) hP hD [4, 2, 3] [0, 1] rfl rfl (by decide) (by decide) hk1 hFc hP1 hD1
    replace hP := hPj
    replace hD := hDj
    clear hPj hDj
    replace hK := hK.app hK1
    generalize H1 = H at hP hS ⊢
    replace hP : va_P (dC, dI) vwCl (([(ee, .inr (15, [.int 6, .int tx, .int gx, .int nx, .int 0, .int 0, .long 0, .int 0, .null, .null, .null, .int 0, .null, .null])), (mr 8, .inl (kL, 3002, .inr (.inl fn))), (m9, .inr (23, mA mr mv vf xl (nI zs) ff_7 xa_8 (nI T) (nI pp) xi xt xn (nI ns) (nI vv) (nI bb))), (mr 5, .inl (kI, 3002, .inl fk)), (mr 6, .inl (kI, 3002, .inl fa))] : va_W) ++ (sT L F)) H := hP
    replace hD : va_D A (([(ee, .inr (15, [.int 6, .int tx, .int gx, .int nx, .int 0, .int 0, .long 0, .int 0, .null, .null, .null, .int 0, .null, .null])), (mr 8, .inl (kL, 3002, .inr (.inl fn))), (m9, .inr (23, mA mr mv vf xl (nI zs) ff_7 xa_8 (nI T) (nI pp) xi xt xn (nI ns) (nI vv) (nI bb))), (mr 5, .inl (kI, 3002, .inl fk)), (mr 6, .inl (kI, 3002, .inl fa))] : va_W) ++ (sT L F)) := hD
    replace hK : va_K (dC, dI) vwCl [(kI, .int), (kL, .long), (kE, .object RX15), (kI, .int)] s := hK
    replace hK := hK.sub (tys' := [(kI, .int), (kL, .long), (kE, .object RX15)]) [0, 1, 2] rfl
    clear hz1 hk1 hPc hDc hKc hFc hP1 hD1 hK1
    refine W.grow (fun hgs0 hgs1 => ?_)
    have hP9 := hP.subT (f' := [(ee, .inr (15, [.int 6, .int tx, .int gx, .int nx, .int 0, .int 0, .long 0, .int 0, .null, .null, .null, .int (nI 0), .null, .null])), (m9, .inr (23, mA mr mv vf xl (nI zs) ff_7 xa_8 (nI T) (nI pp) xi xt xn (nI ns) (nI vv) (nI bb))), (mr 5, .inl (kI, 3002, .inl fk)), (mr 6, .inl (kI, 3002, .inl fa)), (mr 8, .inl (kL, 3002, .inr (.inl fn)))]) [0, 2, 3, 4, 1] rfl
    have hD9 := hD.subT (f' := [(ee, .inr (15, [.int 6, .int tx, .int gx, .int nx, .int 0, .int 0, .long 0, .int 0, .null, .null, .null, .int (nI 0), .null, .null])), (m9, .inr (23, mA mr mv vf xl (nI zs) ff_7 xa_8 (nI T) (nI pp) xi xt xn (nI ns) (nI vv) (nI bb))), (mr 5, .inl (kI, 3002, .inl fk)), (mr 6, .inl (kI, 3002, .inl fa)), (mr 8, .inl (kL, 3002, .inr (.inl fn)))]) [0, 2, 3, 4, 1] (by decide) rfl
    have hK9 := hK.sub (tys' := [(kI, .int), (kL, .long), (kE, .object RX15)]) [0, 1, 2] rfl
    refine W.widen (k := (8 * (T - pp) + 3)) (n := (120 * (T - pp) + 280)) (by omega) (by omega) ?_
    exact W.vret hx hb hr (fun tS ht hW => ⟨⟨(), rfl, trivial, L, F, ff_7, xa_8, pp, bb, .null, .null, 0, exS.rf, ⟨by omega, by omega, by omega, by omega⟩, (fun q9 => absurd q9 hf9_0), by rw [ht]; exact ⟨by omega, by omega⟩, by rw [ht]; exact hP9, va_K.moved hW.alike hK9, hD9⟩, hS.F ht⟩) hS.2.2 dX23_list_108
