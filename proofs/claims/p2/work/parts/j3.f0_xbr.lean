set_option maxRecDepth 20000 in
theorem g_c_xbr_c_rok0_1 : GoodIn wp_c_xbr (wsV RX23 89 RX23 yX23_ok wp_c_rok0) := goodIn_app (goodIn_f [.methodLink RX23 89 yX23_ok, .instanceMethod yX23_ok, .selects RX23 yX23_ok yX23_ok, .initialized RX23] [3, 4, 5, 6] rfl (by decide +kernel)) (goodIn_app (goodIn_f (wf_c_rok0) [1, 2] rfl wg_c_rok0) (goodIn_app (goodIn_sub in_c_xbr_X23 gd_X23) (goodIn_n)))
set_option maxRecDepth 20000 in
theorem g_c_xbr_c_risY_10 : GoodIn wp_c_xbr (wsV RX23 93 RX23 yX23_is wp_c_risY) := goodIn_app (goodIn_f [.methodLink RX23 93 yX23_is, .instanceMethod yX23_is, .selects RX23 yX23_is yX23_is, .initialized RX23] [10, 11, 12, 6] rfl (by decide +kernel)) (goodIn_app (goodIn_f (wf_c_risY) [7, 8, 9] rfl wg_c_risY) (goodIn_app (goodIn_sub in_c_xbr_X23 gd_X23) (goodIn_n)))
set_option maxRecDepth 20000 in
theorem g_c_xbr_c_risN_10 : GoodIn wp_c_xbr (wsV RX23 93 RX23 yX23_is wp_c_risY) := goodIn_app (goodIn_f [.methodLink RX23 93 yX23_is, .instanceMethod yX23_is, .selects RX23 yX23_is yX23_is, .initialized RX23] [10, 11, 12, 6] rfl (by decide +kernel)) (goodIn_app (goodIn_f (wf_c_risY) [7, 8, 9] rfl wg_c_risY) (goodIn_app (goodIn_sub in_c_xbr_X23 gd_X23) (goodIn_n)))
set_option maxRecDepth 20000 in
theorem g_c_xbr_c_renN_21 : GoodIn wp_c_xbr (wsV RX23 119 RX23 yX23_enter wp_c_renY) := goodIn_app (goodIn_f [.methodLink RX23 119 yX23_enter, .instanceMethod yX23_enter, .selects RX23 yX23_enter yX23_enter, .initialized RX23] [21, 22, 23, 6] rfl (by decide +kernel)) (goodIn_app (goodIn_f (wf_c_renY) [13, 1, 2, 3, 4, 5, 6, 14, 15, 16, 17, 18, 19, 20] rfl wg_c_renY) (goodIn_app (goodIn_sub in_c_xbr_X23 gd_X23) (goodIn_n)))
set_option maxRecDepth 20000 in
theorem g_c_xbr_c_renY_21 : GoodIn wp_c_xbr (wsV RX23 119 RX23 yX23_enter wp_c_renY) := goodIn_app (goodIn_f [.methodLink RX23 119 yX23_enter, .instanceMethod yX23_enter, .selects RX23 yX23_enter yX23_enter, .initialized RX23] [21, 22, 23, 6] rfl (by decide +kernel)) (goodIn_app (goodIn_f (wf_c_renY) [13, 1, 2, 3, 4, 5, 6, 14, 15, 16, 17, 18, 19, 20] rfl wg_c_renY) (goodIn_app (goodIn_sub in_c_xbr_X23 gd_X23) (goodIn_n)))
set_option maxRecDepth 20000 in
theorem g_c_xbr_c_rtkB_40 : GoodIn wp_c_xbr (wsV RX23 100 RX23 yX23_take wp_c_rtkY) := goodIn_app (goodIn_f [.methodLink RX23 100 yX23_take, .instanceMethod yX23_take, .selects RX23 yX23_take yX23_take, .initialized RX23] [25, 26, 27, 6] rfl (by decide +kernel)) (goodIn_app (goodIn_f (wf_c_rtkY) [24, 1, 2, 3, 4, 5, 6, 7, 8, 9, 10, 11, 12, 15, 16, 17, 18, 19, 20] rfl wg_c_rtkY) (goodIn_app (goodIn_sub in_c_xbr_X23 gd_X23) (goodIn_n)))
set_option maxRecDepth 20000 in
theorem g_c_xbr_c_rokB_44 : GoodIn wp_c_xbr (wsV RX23 89 RX23 yX23_ok wp_c_rok0) := goodIn_app (goodIn_f [.methodLink RX23 89 yX23_ok, .instanceMethod yX23_ok, .selects RX23 yX23_ok yX23_ok, .initialized RX23] [3, 4, 5, 6] rfl (by decide +kernel)) (goodIn_app (goodIn_f (wf_c_rok0) [1, 2] rfl wg_c_rok0) (goodIn_app (goodIn_sub in_c_xbr_X23 gd_X23) (goodIn_n)))
set_option maxRecDepth 20000 in
theorem g_c_xbr_c_rtkB_71 : GoodIn wp_c_xbr (wsV RX23 100 RX23 yX23_take wp_c_rtkY) := goodIn_app (goodIn_f [.methodLink RX23 100 yX23_take, .instanceMethod yX23_take, .selects RX23 yX23_take yX23_take, .initialized RX23] [25, 26, 27, 6] rfl (by decide +kernel)) (goodIn_app (goodIn_f (wf_c_rtkY) [24, 1, 2, 3, 4, 5, 6, 7, 8, 9, 10, 11, 12, 15, 16, 17, 18, 19, 20] rfl wg_c_rtkY) (goodIn_app (goodIn_sub in_c_xbr_X23 gd_X23) (goodIn_n)))
set_option maxRecDepth 20000 in
theorem g_c_xbr_c_rtkY_40 : GoodIn wp_c_xbr (wsV RX23 100 RX23 yX23_take wp_c_rtkY) := goodIn_app (goodIn_f [.methodLink RX23 100 yX23_take, .instanceMethod yX23_take, .selects RX23 yX23_take yX23_take, .initialized RX23] [25, 26, 27, 6] rfl (by decide +kernel)) (goodIn_app (goodIn_f (wf_c_rtkY) [24, 1, 2, 3, 4, 5, 6, 7, 8, 9, 10, 11, 12, 15, 16, 17, 18, 19, 20] rfl wg_c_rtkY) (goodIn_app (goodIn_sub in_c_xbr_X23 gd_X23) (goodIn_n)))
set_option maxRecDepth 20000 in
theorem g_c_xbr_c_rok0_44 : GoodIn wp_c_xbr (wsV RX23 89 RX23 yX23_ok wp_c_rok0) := goodIn_app (goodIn_f [.methodLink RX23 89 yX23_ok, .instanceMethod yX23_ok, .selects RX23 yX23_ok yX23_ok, .initialized RX23] [3, 4, 5, 6] rfl (by decide +kernel)) (goodIn_app (goodIn_f (wf_c_rok0) [1, 2] rfl wg_c_rok0) (goodIn_app (goodIn_sub in_c_xbr_X23 gd_X23) (goodIn_n)))
set_option maxRecDepth 20000 in
theorem g_c_xbr_c_xex_52 : GoodIn wp_c_xbr (wsV RX23 264 RX23 yX23_exp wp_c_xex) := goodIn_app (goodIn_f [.methodLink RX23 264 yX23_exp, .instanceMethod yX23_exp, .selects RX23 yX23_exp yX23_exp, .initialized RX23] [32, 33, 34, 6] rfl (by decide +kernel)) (goodIn_app (goodIn_f (wf_c_xex) [28, 29, 30, 31, 6, 36, 37, 38, 39, 40, 41, 42, 43, 44, 9, 45, 8, 46, 47, 7, 10, 11, 12, 48, 49, 1, 2, 3, 4, 5, 13, 14, 15, 16, 17, 18, 19, 20, 21, 22, 23, 24, 25, 26, 27, 32, 33, 34, 50, 51, 52, 53, 54, 55, 56, 57, 58, 59, 60, 61, 62, 63, 64, 65, 66, 67, 68, 69, 70, 71, 72, 73, 74, 75, 76, 77, 0, 35, 78, 79, 80, 81, 82, 83, 84, 85, 86, 87, 88, 89, 90, 91, 92, 93, 94, 95, 96, 97, 98, 99, 100, 101] rfl wg_c_xex) (goodIn_app (goodIn_sub in_c_xbr_X15 gd_X15) (goodIn_app (goodIn_sub in_c_xbr_X23 gd_X23) (goodIn_n))))
set_option maxRecDepth 20000 in
theorem g_c_xbr_c_rtkY_71 : GoodIn wp_c_xbr (wsV RX23 100 RX23 yX23_take wp_c_rtkY) := goodIn_app (goodIn_f [.methodLink RX23 100 yX23_take, .instanceMethod yX23_take, .selects RX23 yX23_take yX23_take, .initialized RX23] [25, 26, 27, 6] rfl (by decide +kernel)) (goodIn_app (goodIn_f (wf_c_rtkY) [24, 1, 2, 3, 4, 5, 6, 7, 8, 9, 10, 11, 12, 15, 16, 17, 18, 19, 20] rfl wg_c_rtkY) (goodIn_app (goodIn_sub in_c_xbr_X23 gd_X23) (goodIn_n)))
set_option maxRecDepth 20000 in
theorem g_c_xbr_c_rtkN_71 : GoodIn wp_c_xbr (wsV RX23 100 RX23 yX23_take wp_c_rtkY) := goodIn_app (goodIn_f [.methodLink RX23 100 yX23_take, .instanceMethod yX23_take, .selects RX23 yX23_take yX23_take, .initialized RX23] [25, 26, 27, 6] rfl (by decide +kernel)) (goodIn_app (goodIn_f (wf_c_rtkY) [24, 1, 2, 3, 4, 5, 6, 7, 8, 9, 10, 11, 12, 15, 16, 17, 18, 19, 20] rfl wg_c_rtkY) (goodIn_app (goodIn_sub in_c_xbr_X23 gd_X23) (goodIn_n)))
set_option maxRecDepth 20000 in
theorem g_c_xbr_c_rtkN_40 : GoodIn wp_c_xbr (wsV RX23 100 RX23 yX23_take wp_c_rtkY) := goodIn_app (goodIn_f [.methodLink RX23 100 yX23_take, .instanceMethod yX23_take, .selects RX23 yX23_take yX23_take, .initialized RX23] [25, 26, 27, 6] rfl (by decide +kernel)) (goodIn_app (goodIn_f (wf_c_rtkY) [24, 1, 2, 3, 4, 5, 6, 7, 8, 9, 10, 11, 12, 15, 16, 17, 18, 19, 20] rfl wg_c_rtkY) (goodIn_app (goodIn_sub in_c_xbr_X23 gd_X23) (goodIn_n)))
set_option maxHeartbeats 4000000 in
set_option maxRecDepth 100000 in
theorem c_xbr (l : Launch) (dC : Nat → ClassId) (dI : Nat → Nat → Nat) (k : Nat) (ih : ∀ k1 : Nat, k = k1 + 1 → IH_gx l dC dI k1) : st_c_xbr l dC dI k := by
  intro m9 mr mv vf xl xa xi xt xn zs T pp ns vv bb kI fk fa kL kE fn L F ee kx tx sl sz hT hp hk0 hbb hnk
  refine Met.ofW (cc := cX23_enterBracket) (maxL := 2) (ret := none) (by decide) rfl ?_
  intro p e s m args below meth c s₁ B hml hv
  obtain ⟨rfl, hsz, hP, hK, hD0, hpre0, hpre1⟩ := hv
  have hx := B.exec
  have hb := B.bytes
  have hr := B.returns
  have hts := atoms_spec (ws := wp_c_xbr) B.pre
  have hown : s.vm.findClass RX23 = some m.cls := findClass_of_methodNamed B.named
  have hlocks := B.notSynchronized
  subst hsz
  replace hD := hD0.self (sz := s.heap.size)
  generalize hAe : va_A (([(ee, .inr (15, [.int kx, .int tx, .int 0, .int 0, .int 0, .int 0, .long 0, .int 0, .null, .null, .null, .int 0, .null, .null])), (m9, .inr (23, mA mr mv vf xl (nI zs) 0 xa (nI T) (nI pp) xi xt xn (nI ns) (nI vv) (nI bb))), (mr 5, .inl (kI, 3002, .inl fk)), (mr 6, .inl (kI, 3002, .inl fa)), (mr 8, .inl (kL, 3002, .inr (.inl fn)))] : va_W) ++ (sT L F)) s.heap.size = A at hD ⊢
  have hA : ∀ q : Nat, s.heap.size ≤ q → A q := fun q h => by rw [← hAe]; exact Or.inr h
  have hS : va_S A s.heap s.heap [] := va_S.rf
  replace hP : va_P (dC, dI) vwCl (([(ee, .inr (15, [.int kx, .int tx, .int 0, .int 0, .int 0, .int 0, .long 0, .int 0, .null, .null, .null, .int 0, .null, .null])), (m9, .inr (23, mA mr mv vf xl (nI zs) 0 xa (nI T) (nI pp) xi xt xn (nI ns) (nI vv) (nI bb))), (mr 5, .inl (kI, 3002, .inl fk)), (mr 6, .inl (kI, 3002, .inl fa)), (mr 8, .inl (kL, 3002, .inr (.inl fn)))] : va_W) ++ (sT L F)) s.heap := hP
  replace hl := lv_entry ([.ref m9, .ref ee]) (n := 2) (Nat.le_of_ble_eq_true rfl)
  rw [lg_entry_eq]
  generalize (lg_sl ([.ref m9, .ref ee]) ++ List.replicate (2 - (lg_sl ([.ref m9, .ref ee])).length) Slot.unset).toArray = ls at hl ⊢
  replace hl : lv_has ls 2 [(0, .ref m9), (1, .ref ee)] := hl
  have hns := hpre0
  subst hpre1
  refine lv_aload_n hx hb dX23_enterBracket_0 rfl (lv_at hl 0 rfl) ?_
  replace hPc := hP.subF (f' := [(m9, .inr (23, mA mr mv vf xl (nI zs) 0 xa (nI T) (nI pp) xi xt xn (nI ns) (nI vv) (nI bb)))]) [1] rfl
  replace hDc := hD.subF (f' := [(m9, .inr (23, mA mr mv vf xl (nI zs) 0 xa (nI T) (nI pp) xi xt xn (nI ns) (nI vv) (nI bb)))]) [1] (by decide) rfl
  replace hKc := hK.sub (tys' := []) [] rfl
  replace hFc := va_freeT (wc := [(m9, .inr (23, mA mr mv vf xl (nI zs) 0 xa (nI T) (nI pp) xi xt xn (nI ns) (nI vv) (nI bb)))]) hD hS hA [1] rfl
  refine va_calli (va_runV (As := []) (rest := []) ⟨hx, hb, hml, hown, hts⟩ (c_rok0 l dC dI m9 mr mv vf xl xa xi xt xn zs T pp ns vv bb kI fk fa s.heap.size) (cwV 0 hts g_c_xbr_c_rok0_1 rfl rfl rfl (by decide +kernel) ⟨by show 0 + 1 ≤ 2 + 12 * k; omega, by show 8 + (1 + 11) + (0) ≤ 43 + 279 * k; omega⟩) ⟨fun a U g mk q => by obtain ⟨q0, q1, qP, qK, qD⟩ := q; exact ⟨q0, q1, qP, va_K.moved (u := U) (U := U.calling g mk a) (Vm.Alike.refl U.vm) qK, qD⟩, va_recv hKc hPc (ci := 23) (q0 := 0) rfl rfl, fun U hU hW => ⟨rfl, by rw [hU], by rw [hU]; exact hPc, va_K.moved hW.alike hKc, hDc.weaken (fun _ _ _ _ => trivial)⟩⟩ rfl rfl hl.1 rfl (lv_room (Nat.le_of_ble_eq_true rfl)) dX23_enterBracket_1 ⟨(show 0 + 0 ≤ (8 * (T - pp) + 3) by omega), (show 0 + 0 ≤ (120 * (T - pp) + 280) by omega)⟩) hS (fun q _ h => hFc q h) hFc (fun r_1 u tS H1 locs ht hvm hw hB hz1 hk1 hS => ?_)
  obtain ⟨hP1, hK1, hD1⟩ := hB
  rw [ht] at hP1
  replace hK1 := va_K.moved hvm.symm hK1
  obtain ⟨hPj, hDj⟩ := va_joinT (wr := [(ee, .inr (15, [.int kx, .int tx, .int 0, .int 0, .int 0, .int 0, .long 0, .int 0, .null, .null, .null, .int 0, .null, .null])), (mr 5, .inl (kI, 3002, .inl fk)), (mr 6, .inl (kI, 3002, .inl fa)), (mr 8, .inl (kL, 3002, .inr (.inl fn)))]) (w1 := [(m9, .inr (23, mA mr mv vf xl (nI zs) 0 xa (nI T) (nI pp) xi xt xn (nI ns) (nI vv) (nI bb)))]) hP hD [1] [0, 2, 3, 4] rfl rfl (by decide) (by decide) hk1 hFc hP1 hD1
  replace hP := hPj
  replace hD := hDj
  clear hPj hDj
  generalize H1 = H at hP hS ⊢
  replace hP : va_P (dC, dI) vwCl (([(ee, .inr (15, [.int kx, .int tx, .int 0, .int 0, .int 0, .int 0, .long 0, .int 0, .null, .null, .null, .int 0, .null, .null])), (mr 5, .inl (kI, 3002, .inl fk)), (mr 6, .inl (kI, 3002, .inl fa)), (mr 8, .inl (kL, 3002, .inr (.inl fn))), (m9, .inr (23, mA mr mv vf xl (nI zs) 0 xa (nI T) (nI pp) xi xt xn (nI ns) (nI vv) (nI bb)))] : va_W) ++ (sT L F)) H := hP
  replace hD : va_D A (([(ee, .inr (15, [.int kx, .int tx, .int 0, .int 0, .int 0, .int 0, .long 0, .int 0, .null, .null, .null, .int 0, .null, .null])), (mr 5, .inl (kI, 3002, .inl fk)), (mr 6, .inl (kI, 3002, .inl fa)), (mr 8, .inl (kL, 3002, .inr (.inl fn))), (m9, .inr (23, mA mr mv vf xl (nI zs) 0 xa (nI T) (nI pp) xi xt xn (nI ns) (nI vv) (nI bb)))] : va_W) ++ (sT L F)) := hD
  replace hK : va_K (dC, dI) vwCl [(kI, .int), (kL, .long), (kE, .object RX15)] s := hK
  clear hz1 hk1 hPc hDc hKc hFc hP1 hD1 hK1
  obtain rfl : r_1 = 1 := hw
  refine lv_if_eq (tgt := 27) hx hb dX23_enterBracket_4 (by decide) (fun c_2 => absurd c_2 (by decide)) (fun _ => ?_)
  refine lv_aload_n hx hb dX23_enterBracket_7 rfl (lv_at hl 0 rfl) ?_
  refine lv_bipush (v := 61) hx hb dX23_enterBracket_8 (by decide) ?_
  by_cases hk_3 : fk pp = 61
  · replace hPc := hP.subF (f' := [(m9, .inr (23, mA mr mv vf xl (nI zs) 0 xa (nI T) (nI pp) xi xt xn (nI ns) (nI vv) (nI bb))), (mr 5, .inl (kI, 3002, .inl fk))]) [4, 1] rfl
    replace hDc := hD.subF (f' := [(m9, .inr (23, mA mr mv vf xl (nI zs) 0 xa (nI T) (nI pp) xi xt xn (nI ns) (nI vv) (nI bb))), (mr 5, .inl (kI, 3002, .inl fk))]) [4, 1] (by decide) rfl
    replace hKc := hK.sub (tys' := [(kI, .int)]) [0] rfl
    replace hFc := va_freeT (wc := [(m9, .inr (23, mA mr mv vf xl (nI zs) 0 xa (nI T) (nI pp) xi xt xn (nI ns) (nI vv) (nI bb))), (mr 5, .inl (kI, 3002, .inl fk))]) hD hS hA [4, 1] rfl
    refine va_calli (va_runV (As := [.int 61]) (rest := []) ⟨hx, hb, hml, hown, hts⟩ (c_risY l dC dI m9 mr mv vf xl xa xi xt xn zs T pp ns vv bb kI fk fa 0 61 H.size hT hp hk_3) (cwV 1 hts g_c_xbr_c_risY_10 rfl rfl rfl (by decide +kernel) ⟨by show 0 + 1 ≤ 2 + 12 * k; omega, by show 8 + (2 + 11) + (0) ≤ 43 + 279 * k; omega⟩) ⟨fun a U g mk q => by obtain ⟨q0, q1, qP, qK, qD⟩ := q; exact ⟨q0, q1, qP, va_K.moved (u := U) (U := U.calling g mk a) (Vm.Alike.refl U.vm) qK, qD⟩, va_recv hKc hPc (ci := 23) (q0 := 0) rfl rfl, fun U hU hW => ⟨rfl, by rw [hU], by rw [hU]; exact hPc, va_K.moved hW.alike hKc, hDc.weaken (fun _ _ _ _ => trivial)⟩⟩ rfl rfl hl.1 rfl (lv_room (Nat.le_of_ble_eq_true rfl)) dX23_enterBracket_10 ⟨(show 0 + 0 ≤ (8 * (T - pp) + 3) by omega), (show 0 + 0 ≤ (120 * (T - pp) + 280) by omega)⟩) hS (fun q _ h => hFc q h) hFc (fun r_4 u tS H1 locs ht hvm hw hB hz1 hk1 hS => ?_)
    obtain ⟨hP1, hK1, hD1⟩ := hB
    rw [ht] at hP1
    replace hK1 := va_K.moved hvm.symm hK1
    obtain ⟨hPj, hDj⟩ := va_joinT (wr := [(ee, .inr (15, [.int kx, .int tx, .int 0, .int 0, .int 0, .int 0, .long 0, .int 0, .null, .null, .null, .int 0, .null, .null])), (mr 6, .inl (kI, 3002, .inl fa)), (mr 8, .inl (kL, 3002, .inr (.inl fn)))]) (w1 := [(m9, .inr (23, mA mr mv vf xl (nI zs) 0 xa (nI T) (nI pp) xi xt xn (nI ns) (nI vv) (nI bb))), (mr 5, .inl (kI, 3002, .inl fk))]) hP hD [4, 1] [0, 2, 3] rfl rfl (by decide) (by decide) hk1 hFc hP1 hD1
    replace hP := hPj
    replace hD := hDj
    clear hPj hDj
    replace hK := hK.app hK1
    generalize H1 = H at hP hS ⊢
    replace hP : va_P (dC, dI) vwCl (([(ee, .inr (15, [.int kx, .int tx, .int 0, .int 0, .int 0, .int 0, .long 0, .int 0, .null, .null, .null, .int 0, .null, .null])), (mr 6, .inl (kI, 3002, .inl fa)), (mr 8, .inl (kL, 3002, .inr (.inl fn))), (m9, .inr (23, mA mr mv vf xl (nI zs) 0 xa (nI T) (nI pp) xi xt xn (nI ns) (nI vv) (nI bb))), (mr 5, .inl (kI, 3002, .inl fk))] : va_W) ++ (sT L F)) H := hP
    replace hD : va_D A (([(ee, .inr (15, [.int kx, .int tx, .int 0, .int 0, .int 0, .int 0, .long 0, .int 0, .null, .null, .null, .int 0, .null, .null])), (mr 6, .inl (kI, 3002, .inl fa)), (mr 8, .inl (kL, 3002, .inr (.inl fn))), (m9, .inr (23, mA mr mv vf xl (nI zs) 0 xa (nI T) (nI pp) xi xt xn (nI ns) (nI vv) (nI bb))), (mr 5, .inl (kI, 3002, .inl fk))] : va_W) ++ (sT L F)) := hD
    replace hK : va_K (dC, dI) vwCl [(kI, .int), (kL, .long), (kE, .object RX15), (kI, .int)] s := hK
    replace hK := hK.sub (tys' := [(kI, .int), (kL, .long), (kE, .object RX15)]) [0, 1, 2] rfl
    clear hz1 hk1 hPc hDc hKc hFc hP1 hD1 hK1
    obtain rfl : r_4 = 1 := hw
    refine lv_if_eq (tgt := 27) hx hb dX23_enterBracket_13 (by decide) (fun c_5 => absurd c_5 (by decide)) (fun _ => ?_)
    refine lv_aload_n hx hb dX23_enterBracket_16 rfl (lv_at hl 0 rfl) ?_
    refine lv_aload_n hx hb dX23_enterBracket_17 rfl (lv_at hl 0 rfl) ?_
    refine va_get (D := (dC, dI)) (ci := 23) (v := .int (nI pp)) (C := RX23) (T := TX23) (N := 89) hx hb hts in_c_xbr_X23 hown hK hP 3 rfl rfl 10 (by decide) (hts (.fieldLink RX23 86 "OwnedPlacesModel" "p" "I") (wm_c_xbr 9 rfl)) (fun _ h9 => h9) rfl dX23_enterBracket_18 ?_
    by_cases hn_6 : ns = 16
    · replace hPc := hP.subF (f' := [(m9, .inr (23, mA mr mv vf xl (nI zs) 0 xa (nI T) (nI pp) xi xt xn (nI ns) (nI vv) (nI bb))), (mr 6, .inl (kI, 3002, .inl fa))]) [3, 1] rfl
      replace hDc := hD.subF (f' := [(m9, .inr (23, mA mr mv vf xl (nI zs) 0 xa (nI T) (nI pp) xi xt xn (nI ns) (nI vv) (nI bb))), (mr 6, .inl (kI, 3002, .inl fa))]) [3, 1] (by decide) rfl
      replace hKc := hK.sub (tys' := [(kI, .int)]) [0] rfl
      replace hFc := va_freeT (wc := [(m9, .inr (23, mA mr mv vf xl (nI zs) 0 xa (nI T) (nI pp) xi xt xn (nI ns) (nI vv) (nI bb))), (mr 6, .inl (kI, 3002, .inl fa))]) hD hS hA [3, 1] rfl
      refine va_callv (va_runV (As := [.int (nI pp)]) (rest := []) ⟨hx, hb, hml, hown, hts⟩ (c_renN l dC dI m9 mr mv vf xl xa xi xt xn zs T pp ns vv bb kI fk fa pp H.size (by omega) hn_6) (cwV 1 hts g_c_xbr_c_renN_21 rfl rfl rfl (by decide +kernel) ⟨by show 1 + 1 ≤ 2 + 12 * k; omega, by show 8 + (2 + 11) + (22) ≤ 43 + 279 * k; omega⟩) ⟨fun a U g mk q => by obtain ⟨q0, q1, qP, qK, qD⟩ := q; exact ⟨q0, q1, qP, va_K.moved (u := U) (U := U.calling g mk a) (Vm.Alike.refl U.vm) qK, qD⟩, va_recv hKc hPc (ci := 23) (q0 := 0) rfl rfl, fun U hU hW => ⟨rfl, by rw [hU], by rw [hU]; exact hPc, va_K.moved hW.alike hKc, hDc.weaken (fun _ _ _ _ => trivial)⟩⟩ rfl rfl hl.1 rfl (lv_room (Nat.le_of_ble_eq_true rfl)) dX23_enterBracket_21 ⟨(show 0 + 0 ≤ (8 * (T - pp) + 3) by omega), (show 0 + 0 ≤ (120 * (T - pp) + 280) by omega)⟩) hS (fun q _ h => hFc q h) hFc (fun u tS H1 locs ht hvm hw hB hz1 hk1 hS => ?_)
      obtain ⟨ff_7, xa_8, hf9_0, hP1, hK1, hD1⟩ := hB
      rw [ht] at hP1
      replace hK1 := va_K.moved hvm.symm hK1
      obtain ⟨hPj, hDj⟩ := va_joinT (wr := [(ee, .inr (15, [.int kx, .int tx, .int 0, .int 0, .int 0, .int 0, .long 0, .int 0, .null, .null, .null, .int 0, .null, .null])), (mr 8, .inl (kL, 3002, .inr (.inl fn))), (mr 5, .inl (kI, 3002, .inl fk))]) (w1 := [(m9, .inr (23, mA mr mv vf xl (nI zs) ff_7 xa_8 (nI T) (nI pp) xi xt xn (nI (ns + 1)) (nI vv) (nI bb))), (mr 6, .inl (kI, 3002, .inl fa))]) hP hD [3, 1] [0, 2, 4] rfl rfl (by decide) (by decide) hk1 hFc hP1 hD1
      replace hP := hPj
      replace hD := hDj
      clear hPj hDj
      replace hK := hK.app hK1
      generalize H1 = H at hP hS ⊢
      replace hP : va_P (dC, dI) vwCl (([(ee, .inr (15, [.int kx, .int tx, .int 0, .int 0, .int 0, .int 0, .long 0, .int 0, .null, .null, .null, .int 0, .null, .null])), (mr 8, .inl (kL, 3002, .inr (.inl fn))), (mr 5, .inl (kI, 3002, .inl fk)), (m9, .inr (23, mA mr mv vf xl (nI zs) ff_7 xa_8 (nI T) (nI pp) xi xt xn (nI (ns + 1)) (nI vv) (nI bb))), (mr 6, .inl (kI, 3002, .inl fa))] : va_W) ++ (sT L F)) H := hP
      replace hD : va_D A (([(ee, .inr (15, [.int kx, .int tx, .int 0, .int 0, .int 0, .int 0, .long 0, .int 0, .null, .null, .null, .int 0, .null, .null])), (mr 8, .inl (kL, 3002, .inr (.inl fn))), (mr 5, .inl (kI, 3002, .inl fk)), (m9, .inr (23, mA mr mv vf xl (nI zs) ff_7 xa_8 (nI T) (nI pp) xi xt xn (nI (ns + 1)) (nI vv) (nI bb))), (mr 6, .inl (kI, 3002, .inl fa))] : va_W) ++ (sT L F)) := hD
      replace hK : va_K (dC, dI) vwCl [(kI, .int), (kL, .long), (kE, .object RX15), (kI, .int)] s := hK
      replace hK := hK.sub (tys' := [(kI, .int), (kL, .long), (kE, .object RX15)]) [0, 1, 2] rfl
      clear hz1 hk1 hPc hDc hKc hFc hP1 hD1 hK1
      refine lv_goto (tgt := 37) hx hb dX23_enterBracket_24 (by decide) ?_
      refine lv_aload_n hx hb dX23_enterBracket_37 rfl (lv_at hl 0 rfl) ?_
      refine lv_bipush (v := 61) hx hb dX23_enterBracket_38 (by decide) ?_
      replace hPc := hP.subF (f' := [(m9, .inr (23, mA mr mv vf xl (nI zs) ff_7 xa_8 (nI T) (nI pp) xi xt xn (nI (ns + 1)) (nI vv) (nI bb))), (mr 5, .inl (kI, 3002, .inl fk)), (mr 6, .inl (kI, 3002, .inl fa))]) [3, 2, 4] rfl
      replace hDc := hD.subF (f' := [(m9, .inr (23, mA mr mv vf xl (nI zs) ff_7 xa_8 (nI T) (nI pp) xi xt xn (nI (ns + 1)) (nI vv) (nI bb))), (mr 5, .inl (kI, 3002, .inl fk)), (mr 6, .inl (kI, 3002, .inl fa))]) [3, 2, 4] (by decide) rfl
      replace hKc := hK.sub (tys' := [(kI, .int)]) [0] rfl
      replace hFc := va_freeT (wc := [(m9, .inr (23, mA mr mv vf xl (nI zs) ff_7 xa_8 (nI T) (nI pp) xi xt xn (nI (ns + 1)) (nI vv) (nI bb))), (mr 5, .inl (kI, 3002, .inl fk)), (mr 6, .inl (kI, 3002, .inl fa))]) hD hS hA [3, 2, 4] rfl
      refine va_callv (va_runV (As := [.int 61]) (rest := []) ⟨hx, hb, hml, hown, hts⟩ (c_rtkB l dC dI m9 mr mv vf xl xa_8 xi xt xn zs T pp (ns + 1) vv bb kI fk fa ff_7 61 H.size hf9_0) (cwV 1 hts g_c_xbr_c_rtkB_40 rfl rfl rfl (by decide +kernel) ⟨by show 1 + 1 ≤ 2 + 12 * k; omega, by show 8 + (2 + 11) + (20) ≤ 43 + 279 * k; omega⟩) ⟨fun a U g mk q => by obtain ⟨q0, q1, qP, qK, qD⟩ := q; exact ⟨q0, q1, qP, va_K.moved (u := U) (U := U.calling g mk a) (Vm.Alike.refl U.vm) qK, qD⟩, va_recv hKc hPc (ci := 23) (q0 := 0) rfl rfl, fun U hU hW => ⟨rfl, by rw [hU], by rw [hU]; exact hPc, va_K.moved hW.alike hKc, hDc.weaken (fun _ _ _ _ => trivial)⟩⟩ rfl rfl hl.1 rfl (lv_room (Nat.le_of_ble_eq_true rfl)) dX23_enterBracket_40 ⟨(show 0 + 0 ≤ (8 * (T - pp) + 3) by omega), (show 0 + 0 ≤ (120 * (T - pp) + 280) by omega)⟩) hS (fun q _ h => hFc q h) hFc (fun u tS H1 locs ht hvm hw hB hz1 hk1 hS => ?_)
      obtain ⟨hP1, hK1, hD1⟩ := hB
      rw [ht] at hP1
      replace hK1 := va_K.moved hvm.symm hK1
      obtain ⟨hPj, hDj⟩ := va_joinT (wr := [(ee, .inr (15, [.int kx, .int tx, .int 0, .int 0, .int 0, .int 0, .long 0, .int 0, .null, .null, .null, .int 0, .null, .null])), (mr 8, .inl (kL, 3002, .inr (.inl fn)))]) (w1 := [(m9, .inr (23, mA mr mv vf xl (nI zs) ff_7 xa_8 (nI T) (nI pp) xi xt xn (nI (ns + 1)) (nI vv) (nI bb))), (mr 5, .inl (kI, 3002, .inl fk)), (mr 6, .inl (kI, 3002, .inl fa))]) hP hD [3, 2, 4] [0, 1] rfl rfl (by decide) (by decide) hk1 hFc hP1 hD1
      replace hP := hPj
      replace hD := hDj
      clear hPj hDj
      replace hK := hK.app hK1
      generalize H1 = H at hP hS ⊢
      replace hP : va_P (dC, dI) vwCl (([(ee, .inr (15, [.int kx, .int tx, .int 0, .int 0, .int 0, .int 0, .long 0, .int 0, .null, .null, .null, .int 0, .null, .null])), (mr 8, .inl (kL, 3002, .inr (.inl fn))), (m9, .inr (23, mA mr mv vf xl (nI zs) ff_7 xa_8 (nI T) (nI pp) xi xt xn (nI (ns + 1)) (nI vv) (nI bb))), (mr 5, .inl (kI, 3002, .inl fk)), (mr 6, .inl (kI, 3002, .inl fa))] : va_W) ++ (sT L F)) H := hP
      replace hD : va_D A (([(ee, .inr (15, [.int kx, .int tx, .int 0, .int 0, .int 0, .int 0, .long 0, .int 0, .null, .null, .null, .int 0, .null, .null])), (mr 8, .inl (kL, 3002, .inr (.inl fn))), (m9, .inr (23, mA mr mv vf xl (nI zs) ff_7 xa_8 (nI T) (nI pp) xi xt xn (nI (ns + 1)) (nI vv) (nI bb))), (mr 5, .inl (kI, 3002, .inl fk)), (mr 6, .inl (kI, 3002, .inl fa))] : va_W) ++ (sT L F)) := hD
      replace hK : va_K (dC, dI) vwCl [(kI, .int), (kL, .long), (kE, .object RX15), (kI, .int)] s := hK
      replace hK := hK.sub (tys' := [(kI, .int), (kL, .long), (kE, .object RX15)]) [0, 1, 2] rfl
      clear hz1 hk1 hPc hDc hKc hFc hP1 hD1 hK1
      refine lv_aload_n hx hb dX23_enterBracket_43 rfl (lv_at hl 0 rfl) ?_
      replace hPc := hP.subF (f' := [(m9, .inr (23, mA mr mv vf xl (nI zs) ff_7 xa_8 (nI T) (nI pp) xi xt xn (nI (ns + 1)) (nI vv) (nI bb)))]) [2] rfl
      replace hDc := hD.subF (f' := [(m9, .inr (23, mA mr mv vf xl (nI zs) ff_7 xa_8 (nI T) (nI pp) xi xt xn (nI (ns + 1)) (nI vv) (nI bb)))]) [2] (by decide) rfl
      replace hKc := hK.sub (tys' := []) [] rfl
      replace hFc := va_freeT (wc := [(m9, .inr (23, mA mr mv vf xl (nI zs) ff_7 xa_8 (nI T) (nI pp) xi xt xn (nI (ns + 1)) (nI vv) (nI bb)))]) hD hS hA [2] rfl
      refine va_calli (va_runV (As := []) (rest := []) ⟨hx, hb, hml, hown, hts⟩ (c_rokB l dC dI m9 mr mv vf xl xa_8 xi xt xn zs T pp (ns + 1) vv bb kI fk fa ff_7 H.size hf9_0) (cwV 0 hts g_c_xbr_c_rokB_44 rfl rfl rfl (by decide +kernel) ⟨by show 0 + 1 ≤ 2 + 12 * k; omega, by show 8 + (1 + 11) + (0) ≤ 43 + 279 * k; omega⟩) ⟨fun a U g mk q => by obtain ⟨q0, q1, qP, qK, qD⟩ := q; exact ⟨q0, q1, qP, va_K.moved (u := U) (U := U.calling g mk a) (Vm.Alike.refl U.vm) qK, qD⟩, va_recv hKc hPc (ci := 23) (q0 := 0) rfl rfl, fun U hU hW => ⟨rfl, by rw [hU], by rw [hU]; exact hPc, va_K.moved hW.alike hKc, hDc.weaken (fun _ _ _ _ => trivial)⟩⟩ rfl rfl hl.1 rfl (lv_room (Nat.le_of_ble_eq_true rfl)) dX23_enterBracket_44 ⟨(show 0 + 0 ≤ (8 * (T - pp) + 3) by omega), (show 0 + 0 ≤ (120 * (T - pp) + 280) by omega)⟩) hS (fun q _ h => hFc q h) hFc (fun r_11 u tS H1 locs ht hvm hw hB hz1 hk1 hS => ?_)
      obtain ⟨hP1, hK1, hD1⟩ := hB
      rw [ht] at hP1
      replace hK1 := va_K.moved hvm.symm hK1
      obtain ⟨hPj, hDj⟩ := va_joinT (wr := [(ee, .inr (15, [.int kx, .int tx, .int 0, .int 0, .int 0, .int 0, .long 0, .int 0, .null, .null, .null, .int 0, .null, .null])), (mr 8, .inl (kL, 3002, .inr (.inl fn))), (mr 5, .inl (kI, 3002, .inl fk)), (mr 6, .inl (kI, 3002, .inl fa))]) (w1 := [(m9, .inr (23, mA mr mv vf xl (nI zs) ff_7 xa_8 (nI T) (nI pp) xi xt xn (nI (ns + 1)) (nI vv) (nI bb)))]) hP hD [2] [0, 1, 3, 4] rfl rfl (by decide) (by decide) hk1 hFc hP1 hD1
      replace hP := hPj
      replace hD := hDj
      clear hPj hDj
      generalize H1 = H at hP hS ⊢
      replace hP : va_P (dC, dI) vwCl (([(ee, .inr (15, [.int kx, .int tx, .int 0, .int 0, .int 0, .int 0, .long 0, .int 0, .null, .null, .null, .int 0, .null, .null])), (mr 8, .inl (kL, 3002, .inr (.inl fn))), (mr 5, .inl (kI, 3002, .inl fk)), (mr 6, .inl (kI, 3002, .inl fa)), (m9, .inr (23, mA mr mv vf xl (nI zs) ff_7 xa_8 (nI T) (nI pp) xi xt xn (nI (ns + 1)) (nI vv) (nI bb)))] : va_W) ++ (sT L F)) H := hP
      replace hD : va_D A (([(ee, .inr (15, [.int kx, .int tx, .int 0, .int 0, .int 0, .int 0, .long 0, .int 0, .null, .null, .null, .int 0, .null, .null])), (mr 8, .inl (kL, 3002, .inr (.inl fn))), (mr 5, .inl (kI, 3002, .inl fk)), (mr 6, .inl (kI, 3002, .inl fa)), (m9, .inr (23, mA mr mv vf xl (nI zs) ff_7 xa_8 (nI T) (nI pp) xi xt xn (nI (ns + 1)) (nI vv) (nI bb)))] : va_W) ++ (sT L F)) := hD
      replace hK : va_K (dC, dI) vwCl [(kI, .int), (kL, .long), (kE, .object RX15)] s := hK
      clear hz1 hk1 hPc hDc hKc hFc hP1 hD1 hK1
      obtain rfl : r_11 = 0 := hw
      refine lv_if_eq (tgt := 58) hx hb dX23_enterBracket_47 (by decide) (fun _ => ?_) (fun c_12 => absurd (by decide) c_12)
      refine lv_aload_n hx hb dX23_enterBracket_58 rfl (lv_at hl 0 rfl) ?_
      refine lv_dup hx hb dX23_enterBracket_59 rfl ?_
      refine va_get (D := (dC, dI)) (ci := 23) (v := .int (nI (ns + 1))) (C := RX23) (T := TX23) (N := 89) hx hb hts in_c_xbr_X23 hown hK hP 4 rfl rfl 15 (by decide) (hts (.fieldLink RX23 104 "OwnedPlacesModel" "nest" "I") (wm_c_xbr 14 rfl)) (fun _ h9 => h9) rfl dX23_enterBracket_60 ?_
      refine lv_iconst (v := 1) hx hb dX23_enterBracket_63 (by decide) ?_
      refine lv_isub hx hb dX23_enterBracket_64 ?_
      refine lv_topi (fun f_13 ef_13 => ?_)
      obtain rfl : f_13 = nI ns := ef_13.trans (nI_pred _)
      refine va_put (D := (dC, dI)) (ci := 23) (v := .int (nI ns)) (ty := .int) (C := RX23) (T := TX23) (N := 89) hx hb hts in_c_xbr_X23 tyX23 tyX23_ok nmX23 hown hK hP hD hS 4 rfl rfl 15 (by decide) (hts (.fieldLink RX23 104 "OwnedPlacesModel" "nest" "I") (wm_c_xbr 14 rfl)) (fun _ h9 => h9) rfl (by decide +kernel) rfl rfl (Nat.le_of_ble_eq_true rfl) dX23_enterBracket_65 (fun H locs hP hD hS => ?_)
      replace hP : va_P (dC, dI) vwCl (([(ee, .inr (15, [.int kx, .int tx, .int 0, .int 0, .int 0, .int 0, .long 0, .int 0, .null, .null, .null, .int 0, .null, .null])), (mr 8, .inl (kL, 3002, .inr (.inl fn))), (mr 5, .inl (kI, 3002, .inl fk)), (mr 6, .inl (kI, 3002, .inl fa)), (m9, .inr (23, mA mr mv vf xl (nI zs) ff_7 xa_8 (nI T) (nI pp) xi xt xn (nI ns) (nI vv) (nI bb)))] : va_W) ++ (sT L F)) H := hP
      replace hD : va_D A (([(ee, .inr (15, [.int kx, .int tx, .int 0, .int 0, .int 0, .int 0, .long 0, .int 0, .null, .null, .null, .int 0, .null, .null])), (mr 8, .inl (kL, 3002, .inr (.inl fn))), (mr 5, .inl (kI, 3002, .inl fk)), (mr 6, .inl (kI, 3002, .inl fa)), (m9, .inr (23, mA mr mv vf xl (nI zs) ff_7 xa_8 (nI T) (nI pp) xi xt xn (nI ns) (nI vv) (nI bb)))] : va_W) ++ (sT L F)) := hD
      refine lv_aload_n hx hb dX23_enterBracket_68 rfl (lv_at hl 0 rfl) ?_
      refine lv_bipush (v := 62) hx hb dX23_enterBracket_69 (by decide) ?_
      replace hPc := hP.subF (f' := [(m9, .inr (23, mA mr mv vf xl (nI zs) ff_7 xa_8 (nI T) (nI pp) xi xt xn (nI ns) (nI vv) (nI bb))), (mr 5, .inl (kI, 3002, .inl fk)), (mr 6, .inl (kI, 3002, .inl fa))]) [4, 2, 3] rfl
      replace hDc := hD.subF (f' := [(m9, .inr (23, mA mr mv vf xl (nI zs) ff_7 xa_8 (nI T) (nI pp) xi xt xn (nI ns) (nI vv) (nI bb))), (mr 5, .inl (kI, 3002, .inl fk)), (mr 6, .inl (kI, 3002, .inl fa))]) [4, 2, 3] (by decide) rfl
      replace hKc := hK.sub (tys' := [(kI, .int)]) [0] rfl
      replace hFc := va_freeT (wc := [(m9, .inr (23, mA mr mv vf xl (nI zs) ff_7 xa_8 (nI T) (nI pp) xi xt xn (nI ns) (nI vv) (nI bb))), (mr 5, .inl (kI, 3002, .inl fk)), (mr 6, .inl (kI, 3002, .inl fa))]) hD hS hA [4, 2, 3] rfl
      refine va_callv (va_runV (As := [.int 62]) (rest := []) ⟨hx, hb, hml, hown, hts⟩ (c_rtkB l dC dI m9 mr mv vf xl xa_8 xi xt xn zs T pp ns vv bb kI fk fa ff_7 62 H.size hf9_0) (cwV 1 hts g_c_xbr_c_rtkB_71 rfl rfl rfl (by decide +kernel) ⟨by show 1 + 1 ≤ 2 + 12 * k; omega, by show 8 + (2 + 11) + (20) ≤ 43 + 279 * k; omega⟩) ⟨fun a U g mk q => by obtain ⟨q0, q1, qP, qK, qD⟩ := q; exact ⟨q0, q1, qP, va_K.moved (u := U) (U := U.calling g mk a) (Vm.Alike.refl U.vm) qK, qD⟩, va_recv hKc hPc (ci := 23) (q0 := 0) rfl rfl, fun U hU hW => ⟨rfl, by rw [hU], by rw [hU]; exact hPc, va_K.moved hW.alike hKc, hDc.weaken (fun _ _ _ _ => trivial)⟩⟩ rfl rfl hl.1 rfl (lv_room (Nat.le_of_ble_eq_true rfl)) dX23_enterBracket_71 ⟨(show 0 + 0 ≤ (8 * (T - pp) + 3) by omega), (show 0 + 0 ≤ (120 * (T - pp) + 280) by omega)⟩) hS (fun q _ h => hFc q h) hFc (fun u tS H1 locs ht hvm hw hB hz1 hk1 hS => ?_)
      obtain ⟨hP1, hK1, hD1⟩ := hB
      rw [ht] at hP1
      replace hK1 := va_K.moved hvm.symm hK1
      obtain ⟨hPj, hDj⟩ := va_joinT (wr := [(ee, .inr (15, [.int kx, .int tx, .int 0, .int 0, .int 0, .int 0, .long 0, .int 0, .null, .null, .null, .int 0, .null, .null])), (mr 8, .inl (kL, 3002, .inr (.inl fn)))]) (w1 := [(m9, .inr (23, mA mr mv vf xl (nI zs) ff_7 xa_8 (nI T) (nI pp) xi xt xn (nI ns) (nI vv) (nI bb))), (mr 5, .inl (kI, 3002, .inl fk)), (mr 6, .inl (kI, 3002, .inl fa))]) hP hD [4, 2, 3] [0, 1] rfl rfl (by decide) (by decide) hk1 hFc hP1 hD1
      replace hP := hPj
      replace hD := hDj
      clear hPj hDj
      replace hK := hK.app hK1
      generalize H1 = H at hP hS ⊢
      replace hP : va_P (dC, dI) vwCl (([(ee, .inr (15, [.int kx, .int tx, .int 0, .int 0, .int 0, .int 0, .long 0, .int 0, .null, .null, .null, .int 0, .null, .null])), (mr 8, .inl (kL, 3002, .inr (.inl fn))), (m9, .inr (23, mA mr mv vf xl (nI zs) ff_7 xa_8 (nI T) (nI pp) xi xt xn (nI ns) (nI vv) (nI bb))), (mr 5, .inl (kI, 3002, .inl fk)), (mr 6, .inl (kI, 3002, .inl fa))] : va_W) ++ (sT L F)) H := hP
      replace hD : va_D A (([(ee, .inr (15, [.int kx, .int tx, .int 0, .int 0, .int 0, .int 0, .long 0, .int 0, .null, .null, .null, .int 0, .null, .null])), (mr 8, .inl (kL, 3002, .inr (.inl fn))), (m9, .inr (23, mA mr mv vf xl (nI zs) ff_7 xa_8 (nI T) (nI pp) xi xt xn (nI ns) (nI vv) (nI bb))), (mr 5, .inl (kI, 3002, .inl fk)), (mr 6, .inl (kI, 3002, .inl fa))] : va_W) ++ (sT L F)) := hD
      replace hK : va_K (dC, dI) vwCl [(kI, .int), (kL, .long), (kE, .object RX15), (kI, .int)] s := hK
      replace hK := hK.sub (tys' := [(kI, .int), (kL, .long), (kE, .object RX15)]) [0, 1, 2] rfl
      clear hz1 hk1 hPc hDc hKc hFc hP1 hD1 hK1
      refine W.grow (fun hgs0 hgs1 => ?_)
      have hP9 := hP.subT (f' := [(ee, .inr (15, [.int kx, .int tx, .int 0, .int 0, .int 0, .int 0, .long 0, .int 0, .null, .null, .null, .int 0, .null, .null])), (m9, .inr (23, mA mr mv vf xl (nI zs) ff_7 xa_8 (nI T) (nI pp) xi xt xn (nI ns) (nI vv) (nI bb))), (mr 5, .inl (kI, 3002, .inl fk)), (mr 6, .inl (kI, 3002, .inl fa)), (mr 8, .inl (kL, 3002, .inr (.inl fn)))]) [0, 2, 3, 4, 1] rfl
      have hD9 := hD.subT (f' := [(ee, .inr (15, [.int kx, .int tx, .int 0, .int 0, .int 0, .int 0, .long 0, .int 0, .null, .null, .null, .int 0, .null, .null])), (m9, .inr (23, mA mr mv vf xl (nI zs) ff_7 xa_8 (nI T) (nI pp) xi xt xn (nI ns) (nI vv) (nI bb))), (mr 5, .inl (kI, 3002, .inl fk)), (mr 6, .inl (kI, 3002, .inl fa)), (mr 8, .inl (kL, 3002, .inr (.inl fn)))]) [0, 2, 3, 4, 1] (by decide) rfl
      have hK9 := hK.sub (tys' := [(kI, .int), (kL, .long), (kE, .object RX15)]) [0, 1, 2] rfl
      refine W.widen (k := (8 * (T - pp) + 3)) (n := (120 * (T - pp) + 280)) (by omega) (by omega) ?_
      exact W.vret hx hb hr (fun tS ht hW => ⟨⟨(), rfl, trivial, L, F, ff_7, xa_8, pp, bb, .null, exS.rf, ⟨by omega, by omega, by omega, by omega⟩, (fun q9 => absurd q9 hf9_0), by rw [ht]; exact ⟨by omega, by omega⟩, by rw [ht]; exact hP9, va_K.moved hW.alike hK9, hD9⟩, hS.F ht⟩) hS.2.2 dX23_enterBracket_74
    · replace hPc := hP.subF (f' := [(m9, .inr (23, mA mr mv vf xl (nI zs) 0 xa (nI T) (nI pp) xi xt xn (nI ns) (nI vv) (nI bb))), (mr 6, .inl (kI, 3002, .inl fa))]) [3, 1] rfl
      replace hDc := hD.subF (f' := [(m9, .inr (23, mA mr mv vf xl (nI zs) 0 xa (nI T) (nI pp) xi xt xn (nI ns) (nI vv) (nI bb))), (mr 6, .inl (kI, 3002, .inl fa))]) [3, 1] (by decide) rfl
      replace hKc := hK.sub (tys' := [(kI, .int)]) [0] rfl
      replace hFc := va_freeT (wc := [(m9, .inr (23, mA mr mv vf xl (nI zs) 0 xa (nI T) (nI pp) xi xt xn (nI ns) (nI vv) (nI bb))), (mr 6, .inl (kI, 3002, .inl fa))]) hD hS hA [3, 1] rfl
      refine va_callv (va_runV (As := [.int (nI pp)]) (rest := []) ⟨hx, hb, hml, hown, hts⟩ (c_renY l dC dI m9 mr mv vf xl xa xi xt xn zs T pp ns vv bb kI fk fa pp H.size (by omega) (⟨hn_6, by omega⟩)) (cwV 1 hts g_c_xbr_c_renY_21 rfl rfl rfl (by decide +kernel) ⟨by show 1 + 1 ≤ 2 + 12 * k; omega, by show 8 + (2 + 11) + (20) ≤ 43 + 279 * k; omega⟩) ⟨fun a U g mk q => by obtain ⟨q0, q1, qP, qK, qD⟩ := q; exact ⟨q0, q1, qP, va_K.moved (u := U) (U := U.calling g mk a) (Vm.Alike.refl U.vm) qK, qD⟩, va_recv hKc hPc (ci := 23) (q0 := 0) rfl rfl, fun U hU hW => ⟨rfl, by rw [hU], by rw [hU]; exact hPc, va_K.moved hW.alike hKc, hDc.weaken (fun _ _ _ _ => trivial)⟩⟩ rfl rfl hl.1 rfl (lv_room (Nat.le_of_ble_eq_true rfl)) dX23_enterBracket_21 ⟨(show 0 + 0 ≤ (8 * (T - pp) + 3) by omega), (show 0 + 0 ≤ (120 * (T - pp) + 280) by omega)⟩) hS (fun q _ h => hFc q h) hFc (fun u tS H1 locs ht hvm hw hB hz1 hk1 hS => ?_)
      obtain ⟨hP1, hK1, hD1⟩ := hB
      rw [ht] at hP1
      replace hK1 := va_K.moved hvm.symm hK1
      obtain ⟨hPj, hDj⟩ := va_joinT (wr := [(ee, .inr (15, [.int kx, .int tx, .int 0, .int 0, .int 0, .int 0, .long 0, .int 0, .null, .null, .null, .int 0, .null, .null])), (mr 8, .inl (kL, 3002, .inr (.inl fn))), (mr 5, .inl (kI, 3002, .inl fk))]) (w1 := [(m9, .inr (23, mA mr mv vf xl (nI zs) 0 xa (nI T) (nI pp) xi xt xn (nI (ns + 1)) (nI vv) (nI bb))), (mr 6, .inl (kI, 3002, .inl fa))]) hP hD [3, 1] [0, 2, 4] rfl rfl (by decide) (by decide) hk1 hFc hP1 hD1
      replace hP := hPj
      replace hD := hDj
      clear hPj hDj
      replace hK := hK.app hK1
      generalize H1 = H at hP hS ⊢
      replace hP : va_P (dC, dI) vwCl (([(ee, .inr (15, [.int kx, .int tx, .int 0, .int 0, .int 0, .int 0, .long 0, .int 0, .null, .null, .null, .int 0, .null, .null])), (mr 8, .inl (kL, 3002, .inr (.inl fn))), (mr 5, .inl (kI, 3002, .inl fk)), (m9, .inr (23, mA mr mv vf xl (nI zs) 0 xa (nI T) (nI pp) xi xt xn (nI (ns + 1)) (nI vv) (nI bb))), (mr 6, .inl (kI, 3002, .inl fa))] : va_W) ++ (sT L F)) H := hP
      replace hD : va_D A (([(ee, .inr (15, [.int kx, .int tx, .int 0, .int 0, .int 0, .int 0, .long 0, .int 0, .null, .null, .null, .int 0, .null, .null])), (mr 8, .inl (kL, 3002, .inr (.inl fn))), (mr 5, .inl (kI, 3002, .inl fk)), (m9, .inr (23, mA mr mv vf xl (nI zs) 0 xa (nI T) (nI pp) xi xt xn (nI (ns + 1)) (nI vv) (nI bb))), (mr 6, .inl (kI, 3002, .inl fa))] : va_W) ++ (sT L F)) := hD
      replace hK : va_K (dC, dI) vwCl [(kI, .int), (kL, .long), (kE, .object RX15), (kI, .int)] s := hK
      replace hK := hK.sub (tys' := [(kI, .int), (kL, .long), (kE, .object RX15)]) [0, 1, 2] rfl
      clear hz1 hk1 hPc hDc hKc hFc hP1 hD1 hK1
      refine lv_goto (tgt := 37) hx hb dX23_enterBracket_24 (by decide) ?_
      refine lv_aload_n hx hb dX23_enterBracket_37 rfl (lv_at hl 0 rfl) ?_
      refine lv_bipush (v := 61) hx hb dX23_enterBracket_38 (by decide) ?_
      replace hPc := hP.subF (f' := [(m9, .inr (23, mA mr mv vf xl (nI zs) 0 xa (nI T) (nI pp) xi xt xn (nI (ns + 1)) (nI vv) (nI bb))), (mr 5, .inl (kI, 3002, .inl fk)), (mr 6, .inl (kI, 3002, .inl fa))]) [3, 2, 4] rfl
      replace hDc := hD.subF (f' := [(m9, .inr (23, mA mr mv vf xl (nI zs) 0 xa (nI T) (nI pp) xi xt xn (nI (ns + 1)) (nI vv) (nI bb))), (mr 5, .inl (kI, 3002, .inl fk)), (mr 6, .inl (kI, 3002, .inl fa))]) [3, 2, 4] (by decide) rfl
      replace hKc := hK.sub (tys' := [(kI, .int)]) [0] rfl
      replace hFc := va_freeT (wc := [(m9, .inr (23, mA mr mv vf xl (nI zs) 0 xa (nI T) (nI pp) xi xt xn (nI (ns + 1)) (nI vv) (nI bb))), (mr 5, .inl (kI, 3002, .inl fk)), (mr 6, .inl (kI, 3002, .inl fa))]) hD hS hA [3, 2, 4] rfl
      refine va_callv (va_runV (As := [.int 61]) (rest := []) ⟨hx, hb, hml, hown, hts⟩ (c_rtkY l dC dI m9 mr mv vf xl xa xi xt xn zs T pp (ns + 1) vv bb kI fk fa 61 H.size hT hp hk0 (by decide) hk_3) (cwV 1 hts g_c_xbr_c_rtkY_40 rfl rfl rfl (by decide +kernel) ⟨by show 1 + 1 ≤ 2 + 12 * k; omega, by show 8 + (2 + 11) + (21) ≤ 43 + 279 * k; omega⟩) ⟨fun a U g mk q => by obtain ⟨q0, q1, qP, qK, qD⟩ := q; exact ⟨q0, q1, qP, va_K.moved (u := U) (U := U.calling g mk a) (Vm.Alike.refl U.vm) qK, qD⟩, va_recv hKc hPc (ci := 23) (q0 := 0) rfl rfl, fun U hU hW => ⟨rfl, by rw [hU], by rw [hU]; exact hPc, va_K.moved hW.alike hKc, hDc.weaken (fun _ _ _ _ => trivial)⟩⟩ rfl rfl hl.1 rfl (lv_room (Nat.le_of_ble_eq_true rfl)) dX23_enterBracket_40 ⟨(show 0 + 0 ≤ (8 * (T - pp) + 3) by omega), (show 0 + 0 ≤ (120 * (T - pp) + 280) by omega)⟩) hS (fun q _ h => hFc q h) hFc (fun u tS H1 locs ht hvm hw hB hz1 hk1 hS => ?_)
      obtain ⟨hP1, hK1, hD1⟩ := hB
      rw [ht] at hP1
      replace hK1 := va_K.moved hvm.symm hK1
      obtain ⟨hPj, hDj⟩ := va_joinT (wr := [(ee, .inr (15, [.int kx, .int tx, .int 0, .int 0, .int 0, .int 0, .long 0, .int 0, .null, .null, .null, .int 0, .null, .null])), (mr 8, .inl (kL, 3002, .inr (.inl fn)))]) (w1 := [(m9, .inr (23, mA mr mv vf xl (nI zs) 0 xa (nI T) (nI (pp + 1)) xi xt xn (nI (ns + 1)) (nI vv) (nI bb))), (mr 5, .inl (kI, 3002, .inl fk)), (mr 6, .inl (kI, 3002, .inl fa))]) hP hD [3, 2, 4] [0, 1] rfl rfl (by decide) (by decide) hk1 hFc hP1 hD1
      replace hP := hPj
      replace hD := hDj
      clear hPj hDj
      replace hK := hK.app hK1
      generalize H1 = H at hP hS ⊢
      replace hP : va_P (dC, dI) vwCl (([(ee, .inr (15, [.int kx, .int tx, .int 0, .int 0, .int 0, .int 0, .long 0, .int 0, .null, .null, .null, .int 0, .null, .null])), (mr 8, .inl (kL, 3002, .inr (.inl fn))), (m9, .inr (23, mA mr mv vf xl (nI zs) 0 xa (nI T) (nI (pp + 1)) xi xt xn (nI (ns + 1)) (nI vv) (nI bb))), (mr 5, .inl (kI, 3002, .inl fk)), (mr 6, .inl (kI, 3002, .inl fa))] : va_W) ++ (sT L F)) H := hP
      replace hD : va_D A (([(ee, .inr (15, [.int kx, .int tx, .int 0, .int 0, .int 0, .int 0, .long 0, .int 0, .null, .null, .null, .int 0, .null, .null])), (mr 8, .inl (kL, 3002, .inr (.inl fn))), (m9, .inr (23, mA mr mv vf xl (nI zs) 0 xa (nI T) (nI (pp + 1)) xi xt xn (nI (ns + 1)) (nI vv) (nI bb))), (mr 5, .inl (kI, 3002, .inl fk)), (mr 6, .inl (kI, 3002, .inl fa))] : va_W) ++ (sT L F)) := hD
      replace hK : va_K (dC, dI) vwCl [(kI, .int), (kL, .long), (kE, .object RX15), (kI, .int)] s := hK
      replace hK := hK.sub (tys' := [(kI, .int), (kL, .long), (kE, .object RX15)]) [0, 1, 2] rfl
      clear hz1 hk1 hPc hDc hKc hFc hP1 hD1 hK1
      have hp_9 : pp + 1 < T := kne3 hk0 hp hk_3 (by decide)
      refine lv_aload_n hx hb dX23_enterBracket_43 rfl (lv_at hl 0 rfl) ?_
      replace hPc := hP.subF (f' := [(m9, .inr (23, mA mr mv vf xl (nI zs) 0 xa (nI T) (nI (pp + 1)) xi xt xn (nI (ns + 1)) (nI vv) (nI bb)))]) [2] rfl
      replace hDc := hD.subF (f' := [(m9, .inr (23, mA mr mv vf xl (nI zs) 0 xa (nI T) (nI (pp + 1)) xi xt xn (nI (ns + 1)) (nI vv) (nI bb)))]) [2] (by decide) rfl
      replace hKc := hK.sub (tys' := []) [] rfl
      replace hFc := va_freeT (wc := [(m9, .inr (23, mA mr mv vf xl (nI zs) 0 xa (nI T) (nI (pp + 1)) xi xt xn (nI (ns + 1)) (nI vv) (nI bb)))]) hD hS hA [2] rfl
      refine va_calli (va_runV (As := []) (rest := []) ⟨hx, hb, hml, hown, hts⟩ (c_rok0 l dC dI m9 mr mv vf xl xa xi xt xn zs T (pp + 1) (ns + 1) vv bb kI fk fa H.size) (cwV 0 hts g_c_xbr_c_rok0_44 rfl rfl rfl (by decide +kernel) ⟨by show 0 + 1 ≤ 2 + 12 * k; omega, by show 8 + (1 + 11) + (0) ≤ 43 + 279 * k; omega⟩) ⟨fun a U g mk q => by obtain ⟨q0, q1, qP, qK, qD⟩ := q; exact ⟨q0, q1, qP, va_K.moved (u := U) (U := U.calling g mk a) (Vm.Alike.refl U.vm) qK, qD⟩, va_recv hKc hPc (ci := 23) (q0 := 0) rfl rfl, fun U hU hW => ⟨rfl, by rw [hU], by rw [hU]; exact hPc, va_K.moved hW.alike hKc, hDc.weaken (fun _ _ _ _ => trivial)⟩⟩ rfl rfl hl.1 rfl (lv_room (Nat.le_of_ble_eq_true rfl)) dX23_enterBracket_44 ⟨(show 0 + 0 ≤ (8 * (T - pp) + 3) by omega), (show 0 + 0 ≤ (120 * (T - pp) + 280) by omega)⟩) hS (fun q _ h => hFc q h) hFc (fun r_10 u tS H1 locs ht hvm hw hB hz1 hk1 hS => ?_)
      obtain ⟨hP1, hK1, hD1⟩ := hB
      rw [ht] at hP1
      replace hK1 := va_K.moved hvm.symm hK1
      obtain ⟨hPj, hDj⟩ := va_joinT (wr := [(ee, .inr (15, [.int kx, .int tx, .int 0, .int 0, .int 0, .int 0, .long 0, .int 0, .null, .null, .null, .int 0, .null, .null])), (mr 8, .inl (kL, 3002, .inr (.inl fn))), (mr 5, .inl (kI, 3002, .inl fk)), (mr 6, .inl (kI, 3002, .inl fa))]) (w1 := [(m9, .inr (23, mA mr mv vf xl (nI zs) 0 xa (nI T) (nI (pp + 1)) xi xt xn (nI (ns + 1)) (nI vv) (nI bb)))]) hP hD [2] [0, 1, 3, 4] rfl rfl (by decide) (by decide) hk1 hFc hP1 hD1
      replace hP := hPj
      replace hD := hDj
      clear hPj hDj
      generalize H1 = H at hP hS ⊢
      replace hP : va_P (dC, dI) vwCl (([(ee, .inr (15, [.int kx, .int tx, .int 0, .int 0, .int 0, .int 0, .long 0, .int 0, .null, .null, .null, .int 0, .null, .null])), (mr 8, .inl (kL, 3002, .inr (.inl fn))), (mr 5, .inl (kI, 3002, .inl fk)), (mr 6, .inl (kI, 3002, .inl fa)), (m9, .inr (23, mA mr mv vf xl (nI zs) 0 xa (nI T) (nI (pp + 1)) xi xt xn (nI (ns + 1)) (nI vv) (nI bb)))] : va_W) ++ (sT L F)) H := hP
      replace hD : va_D A (([(ee, .inr (15, [.int kx, .int tx, .int 0, .int 0, .int 0, .int 0, .long 0, .int 0, .null, .null, .null, .int 0, .null, .null])), (mr 8, .inl (kL, 3002, .inr (.inl fn))), (mr 5, .inl (kI, 3002, .inl fk)), (mr 6, .inl (kI, 3002, .inl fa)), (m9, .inr (23, mA mr mv vf xl (nI zs) 0 xa (nI T) (nI (pp + 1)) xi xt xn (nI (ns + 1)) (nI vv) (nI bb)))] : va_W) ++ (sT L F)) := hD
      replace hK : va_K (dC, dI) vwCl [(kI, .int), (kL, .long), (kE, .object RX15)] s := hK
      clear hz1 hk1 hPc hDc hKc hFc hP1 hD1 hK1
      obtain rfl : r_10 = 1 := hw
      refine lv_if_eq (tgt := 58) hx hb dX23_enterBracket_47 (by decide) (fun c_11 => absurd c_11 (by decide)) (fun _ => ?_)
      refine lv_aload_n hx hb dX23_enterBracket_50 rfl (lv_at hl 1 rfl) ?_
      refine lv_aload_n hx hb dX23_enterBracket_51 rfl (lv_at hl 0 rfl) ?_
      obtain ⟨k1, hkL⟩ : ∃ k1 : Nat, k = k1 + 1 := ⟨k - 1, by omega⟩
      replace hPc := hP.subT (f' := [(m9, .inr (23, mA mr mv vf xl (nI zs) 0 xa (nI T) (nI (pp + 1)) xi xt xn (nI (ns + 1)) (nI vv) (nI bb))), (mr 5, .inl (kI, 3002, .inl fk)), (mr 6, .inl (kI, 3002, .inl fa)), (mr 8, .inl (kL, 3002, .inr (.inl fn)))]) [4, 2, 3, 1] rfl
      replace hDc := hD.subT (f' := [(m9, .inr (23, mA mr mv vf xl (nI zs) 0 xa (nI T) (nI (pp + 1)) xi xt xn (nI (ns + 1)) (nI vv) (nI bb))), (mr 5, .inl (kI, 3002, .inl fk)), (mr 6, .inl (kI, 3002, .inl fa)), (mr 8, .inl (kL, 3002, .inr (.inl fn)))]) [4, 2, 3, 1] (by decide) rfl
      replace hKc := hK.sub (tys' := [(kI, .int), (kL, .long), (kE, .object RX15)]) [0, 1, 2] rfl
      replace hFc := va_freeB (wc := [(m9, .inr (23, mA mr mv vf xl (nI zs) 0 xa (nI T) (nI (pp + 1)) xi xt xn (nI (ns + 1)) (nI vv) (nI bb))), (mr 5, .inl (kI, 3002, .inl fk)), (mr 6, .inl (kI, 3002, .inl fa)), (mr 8, .inl (kL, 3002, .inr (.inl fn)))]) hD hS hA [4, 2, 3, 1] rfl
      refine W.grow (fun hgs0 hgs1 => ?_)
      refine va_callr (va_runV (As := []) (rest := [.ref ee]) ⟨hx, hb, hml, hown, hts⟩ ((ih k1 hkL).2.2.2.2.2.2 m9 mr mv vf xl xa xi xt xn zs T (pp + 1) (ns + 1) vv bb kI fk fa kL kE fn L F (slN H) H.size hT hp_9 hk0 hbb (by omega)) (cwV 0 hts g_c_xbr_c_xex_52 rfl rfl rfl (by decide +kernel) ⟨by show 13 + 12 * k1 + 1 ≤ 2 + 12 * k; omega, by show 8 + (1 + 11) + (302 + 279 * k1) ≤ 43 + 279 * k; omega⟩) ⟨fun a U g mk q => by obtain ⟨q0, q1, qP, qK, qD, qx0, qx1⟩ := q; exact ⟨q0, q1, qP, va_K.moved (u := U) (U := U.calling g mk a) (Vm.Alike.refl U.vm) qK, qD, nsM.same (u := U) (U := U.calling g mk a) rfl qx0, qx1⟩, va_recv hKc hPc (ci := 23) (q0 := 0) rfl rfl, fun U hU hW => ⟨rfl, by rw [hU], by rw [hU]; exact hPc, va_K.moved hW.alike hKc, hDc.weaken (fun _ _ _ _ => trivial), nsM.warm hW hns, by rw [hU]⟩⟩ rfl rfl hl.1 rfl (lv_room (Nat.le_of_ble_eq_true rfl)) dX23_enterBracket_52 ⟨(show 0 + (8 * (T - (pp + 1)) + 8) ≤ (8 * (T - pp) + 3) by omega), (show 0 + (120 * (T - (pp + 1)) + 360) ≤ (120 * (T - pp) + 280) by omega)⟩) hS (fun q _ h => hFc q h) hFc (fun u r_12 tS H1 locs ht hvm hw hB hz1 hk1 hS => ?_)
      obtain ⟨L11, F11, ff11, xa11, pp11, bb11, hf12_0, hf12_1, hf12_2, hf12_3, hP1, hK1, hD1⟩ := hB
      rw [ht] at hP1
      replace hK1 := va_K.moved hvm.symm hK1
      rw [ht] at hf12_3
      have hgz : H1.size ≤ s.heap.size + (8 * (pp11 - (pp + 1)) + 3) ∧ slN H1 ≤ slN s.heap + (120 * (pp11 - (pp + 1)) + 48) := ⟨by have := hf12_3.1; omega, by have := hf12_3.2; omega⟩
      obtain ⟨hPj, hDj⟩ := va_joinB (wr := [(ee, .inr (15, [.int kx, .int tx, .int 0, .int 0, .int 0, .int 0, .long 0, .int 0, .null, .null, .null, .int 0, .null, .null]))]) (w1 := [(m9, .inr (23, mA mr mv vf xl (nI zs) ff11 xa11 (nI T) (nI pp11) xi xt xn (nI (ns + 1)) (nI vv) (nI bb11))), (mr 5, .inl (kI, 3002, .inl fk)), (mr 6, .inl (kI, 3002, .inl fa)), (mr 8, .inl (kL, 3002, .inr (.inl fn)))]) hP hD [4, 2, 3, 1] [0] rfl rfl (by decide) (by decide) hk1 hFc hP1 hD1
      replace hP := hPj
      replace hD := hDj
      clear hPj hDj
      replace hK := hK.app hK1
      generalize H1 = H at hP hS hgz ⊢
      replace hP : va_P (dC, dI) vwCl (([(ee, .inr (15, [.int kx, .int tx, .int 0, .int 0, .int 0, .int 0, .long 0, .int 0, .null, .null, .null, .int 0, .null, .null])), (m9, .inr (23, mA mr mv vf xl (nI zs) ff11 xa11 (nI T) (nI pp11) xi xt xn (nI (ns + 1)) (nI vv) (nI bb11))), (mr 5, .inl (kI, 3002, .inl fk)), (mr 6, .inl (kI, 3002, .inl fa)), (mr 8, .inl (kL, 3002, .inr (.inl fn)))] : va_W) ++ (sT L11 F11)) H := hP
      replace hD : va_D A (([(ee, .inr (15, [.int kx, .int tx, .int 0, .int 0, .int 0, .int 0, .long 0, .int 0, .null, .null, .null, .int 0, .null, .null])), (m9, .inr (23, mA mr mv vf xl (nI zs) ff11 xa11 (nI T) (nI pp11) xi xt xn (nI (ns + 1)) (nI vv) (nI bb11))), (mr 5, .inl (kI, 3002, .inl fk)), (mr 6, .inl (kI, 3002, .inl fa)), (mr 8, .inl (kL, 3002, .inr (.inl fn)))] : va_W) ++ (sT L11 F11)) := hD
      replace hK : va_K (dC, dI) vwCl [(kI, .int), (kL, .long), (kE, .object RX15), (kI, .int), (kL, .long), (kE, .object RX15)] s := hK
      replace hK := hK.sub (tys' := [(kI, .int), (kL, .long), (kE, .object RX15)]) [0, 1, 2] rfl
      refine W.tight (k := 8 * (pp11 - (pp + 1)) + 3) (n := 120 * (pp11 - (pp + 1)) + 48) hgz.1 hgz.2 ?_
      clear hz1 hk1 hPc hDc hKc hFc hP1 hD1 hK1
      refine va_put (D := (dC, dI)) (ci := 15) (v := .ref r_12) (ty := (.object "OwnedPlacesModel$Exp")) (C := RX15) (T := TX15) (N := 14) hx hb hts in_c_xbr_X15 tyX15 tyX15_ok nmX15 hown hK hP hD hS 0 rfl rfl 8 (by decide) (hts (.fieldLink RX23 331 "OwnedPlacesModel$Exp" "of" "LOwnedPlacesModel$Exp;") (wm_c_xbr 35 rfl)) (fun _ h9 => h9) rfl (by decide +kernel) rfl rfl (Nat.le_of_ble_eq_true rfl) dX23_enterBracket_55 (fun H locs hP hD hS => ?_)
      replace hP : va_P (dC, dI) vwCl (([(ee, .inr (15, [.int kx, .int tx, .int 0, .int 0, .int 0, .int 0, .long 0, .int 0, .ref r_12, .null, .null, .int 0, .null, .null])), (m9, .inr (23, mA mr mv vf xl (nI zs) ff11 xa11 (nI T) (nI pp11) xi xt xn (nI (ns + 1)) (nI vv) (nI bb11))), (mr 5, .inl (kI, 3002, .inl fk)), (mr 6, .inl (kI, 3002, .inl fa)), (mr 8, .inl (kL, 3002, .inr (.inl fn)))] : va_W) ++ (sT L11 F11)) H := hP
      replace hD : va_D A (([(ee, .inr (15, [.int kx, .int tx, .int 0, .int 0, .int 0, .int 0, .long 0, .int 0, .ref r_12, .null, .null, .int 0, .null, .null])), (m9, .inr (23, mA mr mv vf xl (nI zs) ff11 xa11 (nI T) (nI pp11) xi xt xn (nI (ns + 1)) (nI vv) (nI bb11))), (mr 5, .inl (kI, 3002, .inl fk)), (mr 6, .inl (kI, 3002, .inl fa)), (mr 8, .inl (kL, 3002, .inr (.inl fn)))] : va_W) ++ (sT L11 F11)) := hD
      refine lv_aload_n hx hb dX23_enterBracket_58 rfl (lv_at hl 0 rfl) ?_
      refine lv_dup hx hb dX23_enterBracket_59 rfl ?_
      refine va_get (D := (dC, dI)) (ci := 23) (v := .int (nI (ns + 1))) (C := RX23) (T := TX23) (N := 89) hx hb hts in_c_xbr_X23 hown hK hP 1 rfl rfl 15 (by decide) (hts (.fieldLink RX23 104 "OwnedPlacesModel" "nest" "I") (wm_c_xbr 14 rfl)) (fun _ h9 => h9) rfl dX23_enterBracket_60 ?_
      refine lv_iconst (v := 1) hx hb dX23_enterBracket_63 (by decide) ?_
      refine lv_isub hx hb dX23_enterBracket_64 ?_
      refine lv_topi (fun f_13 ef_13 => ?_)
      obtain rfl : f_13 = nI ns := ef_13.trans (nI_pred _)
      refine va_put (D := (dC, dI)) (ci := 23) (v := .int (nI ns)) (ty := .int) (C := RX23) (T := TX23) (N := 89) hx hb hts in_c_xbr_X23 tyX23 tyX23_ok nmX23 hown hK hP hD hS 1 rfl rfl 15 (by decide) (hts (.fieldLink RX23 104 "OwnedPlacesModel" "nest" "I") (wm_c_xbr 14 rfl)) (fun _ h9 => h9) rfl (by decide +kernel) rfl rfl (Nat.le_of_ble_eq_true rfl) dX23_enterBracket_65 (fun H locs hP hD hS => ?_)
      replace hP : va_P (dC, dI) vwCl (([(ee, .inr (15, [.int kx, .int tx, .int 0, .int 0, .int 0, .int 0, .long 0, .int 0, .ref r_12, .null, .null, .int 0, .null, .null])), (m9, .inr (23, mA mr mv vf xl (nI zs) ff11 xa11 (nI T) (nI pp11) xi xt xn (nI ns) (nI vv) (nI bb11))), (mr 5, .inl (kI, 3002, .inl fk)), (mr 6, .inl (kI, 3002, .inl fa)), (mr 8, .inl (kL, 3002, .inr (.inl fn)))] : va_W) ++ (sT L11 F11)) H := hP
      replace hD : va_D A (([(ee, .inr (15, [.int kx, .int tx, .int 0, .int 0, .int 0, .int 0, .long 0, .int 0, .ref r_12, .null, .null, .int 0, .null, .null])), (m9, .inr (23, mA mr mv vf xl (nI zs) ff11 xa11 (nI T) (nI pp11) xi xt xn (nI ns) (nI vv) (nI bb11))), (mr 5, .inl (kI, 3002, .inl fk)), (mr 6, .inl (kI, 3002, .inl fa)), (mr 8, .inl (kL, 3002, .inr (.inl fn)))] : va_W) ++ (sT L11 F11)) := hD
      refine lv_aload_n hx hb dX23_enterBracket_68 rfl (lv_at hl 0 rfl) ?_
      refine lv_bipush (v := 62) hx hb dX23_enterBracket_69 (by decide) ?_
      by_cases hz_14 : ff11 = 0
      · subst hz_14
        have hg11 := hf12_2 rfl
        have hlthg11 := (isE_mem hg11.2).2
        by_cases hk_15 : fk pp11 = 62
        · replace hPc := hP.subF (f' := [(m9, .inr (23, mA mr mv vf xl (nI zs) 0 xa11 (nI T) (nI pp11) xi xt xn (nI ns) (nI vv) (nI bb11))), (mr 5, .inl (kI, 3002, .inl fk)), (mr 6, .inl (kI, 3002, .inl fa))]) [1, 2, 3] rfl
          replace hDc := hD.subF (f' := [(m9, .inr (23, mA mr mv vf xl (nI zs) 0 xa11 (nI T) (nI pp11) xi xt xn (nI ns) (nI vv) (nI bb11))), (mr 5, .inl (kI, 3002, .inl fk)), (mr 6, .inl (kI, 3002, .inl fa))]) [1, 2, 3] (by decide) rfl
          replace hKc := hK.sub (tys' := [(kI, .int)]) [0] rfl
          replace hFc := va_freeT (wc := [(m9, .inr (23, mA mr mv vf xl (nI zs) 0 xa11 (nI T) (nI pp11) xi xt xn (nI ns) (nI vv) (nI bb11))), (mr 5, .inl (kI, 3002, .inl fk)), (mr 6, .inl (kI, 3002, .inl fa))]) hD hS hA [1, 2, 3] rfl
          refine va_callv (va_runV (As := [.int 62]) (rest := []) ⟨hx, hb, hml, hown, hts⟩ (c_rtkY l dC dI m9 mr mv vf xl xa11 xi xt xn zs T pp11 ns vv bb11 kI fk fa 62 H.size hT hf12_1.2.1 hk0 (by decide) hk_15) (cwV 1 hts g_c_xbr_c_rtkY_71 rfl rfl rfl (by decide +kernel) ⟨by show 1 + 1 ≤ 2 + 12 * k; omega, by show 8 + (2 + 11) + (21) ≤ 43 + 279 * k; omega⟩) ⟨fun a U g mk q => by obtain ⟨q0, q1, qP, qK, qD⟩ := q; exact ⟨q0, q1, qP, va_K.moved (u := U) (U := U.calling g mk a) (Vm.Alike.refl U.vm) qK, qD⟩, va_recv hKc hPc (ci := 23) (q0 := 0) rfl rfl, fun U hU hW => ⟨rfl, by rw [hU], by rw [hU]; exact hPc, va_K.moved hW.alike hKc, hDc.weaken (fun _ _ _ _ => trivial)⟩⟩ rfl rfl hl.1 rfl (lv_room (Nat.le_of_ble_eq_true rfl)) dX23_enterBracket_71 ⟨(show 8 * (pp11 - (pp + 1)) + 3 + 0 ≤ (8 * (T - pp) + 3) by omega), (show 120 * (pp11 - (pp + 1)) + 48 + 0 ≤ (120 * (T - pp) + 280) by omega)⟩) hS (fun q _ h => hFc q h) hFc (fun u tS H1 locs ht hvm hw hB hz1 hk1 hS => ?_)
          obtain ⟨hP1, hK1, hD1⟩ := hB
          rw [ht] at hP1
          replace hK1 := va_K.moved hvm.symm hK1
          obtain ⟨hPj, hDj⟩ := va_joinT (wr := [(ee, .inr (15, [.int kx, .int tx, .int 0, .int 0, .int 0, .int 0, .long 0, .int 0, .ref r_12, .null, .null, .int 0, .null, .null])), (mr 8, .inl (kL, 3002, .inr (.inl fn)))]) (w1 := [(m9, .inr (23, mA mr mv vf xl (nI zs) 0 xa11 (nI T) (nI (pp11 + 1)) xi xt xn (nI ns) (nI vv) (nI bb11))), (mr 5, .inl (kI, 3002, .inl fk)), (mr 6, .inl (kI, 3002, .inl fa))]) hP hD [1, 2, 3] [0, 4] rfl rfl (by decide) (by decide) hk1 hFc hP1 hD1
          replace hP := hPj
          replace hD := hDj
          clear hPj hDj
          replace hK := hK.app hK1
          generalize H1 = H at hP hS ⊢
          replace hP : va_P (dC, dI) vwCl (([(ee, .inr (15, [.int kx, .int tx, .int 0, .int 0, .int 0, .int 0, .long 0, .int 0, .ref r_12, .null, .null, .int 0, .null, .null])), (mr 8, .inl (kL, 3002, .inr (.inl fn))), (m9, .inr (23, mA mr mv vf xl (nI zs) 0 xa11 (nI T) (nI (pp11 + 1)) xi xt xn (nI ns) (nI vv) (nI bb11))), (mr 5, .inl (kI, 3002, .inl fk)), (mr 6, .inl (kI, 3002, .inl fa))] : va_W) ++ (sT L11 F11)) H := hP
          replace hD : va_D A (([(ee, .inr (15, [.int kx, .int tx, .int 0, .int 0, .int 0, .int 0, .long 0, .int 0, .ref r_12, .null, .null, .int 0, .null, .null])), (mr 8, .inl (kL, 3002, .inr (.inl fn))), (m9, .inr (23, mA mr mv vf xl (nI zs) 0 xa11 (nI T) (nI (pp11 + 1)) xi xt xn (nI ns) (nI vv) (nI bb11))), (mr 5, .inl (kI, 3002, .inl fk)), (mr 6, .inl (kI, 3002, .inl fa))] : va_W) ++ (sT L11 F11)) := hD
          replace hK : va_K (dC, dI) vwCl [(kI, .int), (kL, .long), (kE, .object RX15), (kI, .int)] s := hK
          replace hK := hK.sub (tys' := [(kI, .int), (kL, .long), (kE, .object RX15)]) [0, 1, 2] rfl
          clear hz1 hk1 hPc hDc hKc hFc hP1 hD1 hK1
          have hp_17 : pp11 + 1 < T := kne3 hk0 hf12_1.2.1 hk_15 (by decide)
          refine W.grow (fun hgs0 hgs1 => ?_)
          have hP9 := hP.subT (f' := [(ee, .inr (15, [.int kx, .int tx, .int 0, .int 0, .int 0, .int 0, .long 0, .int 0, (.ref r_12), .null, .null, .int 0, .null, .null])), (m9, .inr (23, mA mr mv vf xl (nI zs) 0 xa11 (nI T) (nI (pp11 + 1)) xi xt xn (nI ns) (nI vv) (nI bb11))), (mr 5, .inl (kI, 3002, .inl fk)), (mr 6, .inl (kI, 3002, .inl fa)), (mr 8, .inl (kL, 3002, .inr (.inl fn)))]) [0, 2, 3, 4, 1] rfl
          have hD9 := hD.subT (f' := [(ee, .inr (15, [.int kx, .int tx, .int 0, .int 0, .int 0, .int 0, .long 0, .int 0, (.ref r_12), .null, .null, .int 0, .null, .null])), (m9, .inr (23, mA mr mv vf xl (nI zs) 0 xa11 (nI T) (nI (pp11 + 1)) xi xt xn (nI ns) (nI vv) (nI bb11))), (mr 5, .inl (kI, 3002, .inl fk)), (mr 6, .inl (kI, 3002, .inl fa)), (mr 8, .inl (kL, 3002, .inr (.inl fn)))]) [0, 2, 3, 4, 1] (by decide) rfl
          have hK9 := hK.sub (tys' := [(kI, .int), (kL, .long), (kE, .object RX15)]) [0, 1, 2] rfl
          refine W.widen (k := (8 * (T - pp) + 3)) (n := (120 * (T - pp) + 280)) (by omega) (by omega) ?_
          exact W.vret hx hb hr (fun tS ht hW => ⟨⟨(), rfl, trivial, L11, F11, 0, xa11, pp11 + 1, bb11, .ref r_12, hf12_0.1, ⟨by omega, by omega, by omega, by omega⟩, (fun _ => ⟨hg11.1, by omega, r_12, _, _, rfl, by omega, by omega, isE_im exS.rf _ (by omega) hg11.2⟩), by rw [ht]; exact ⟨by omega, by omega⟩, by rw [ht]; exact hP9, va_K.moved hW.alike hK9, hD9⟩, hS.F ht⟩) hS.2.2 dX23_enterBracket_74
        · replace hPc := hP.subF (f' := [(m9, .inr (23, mA mr mv vf xl (nI zs) 0 xa11 (nI T) (nI pp11) xi xt xn (nI ns) (nI vv) (nI bb11))), (mr 5, .inl (kI, 3002, .inl fk)), (mr 6, .inl (kI, 3002, .inl fa))]) [1, 2, 3] rfl
          replace hDc := hD.subF (f' := [(m9, .inr (23, mA mr mv vf xl (nI zs) 0 xa11 (nI T) (nI pp11) xi xt xn (nI ns) (nI vv) (nI bb11))), (mr 5, .inl (kI, 3002, .inl fk)), (mr 6, .inl (kI, 3002, .inl fa))]) [1, 2, 3] (by decide) rfl
          replace hKc := hK.sub (tys' := [(kI, .int)]) [0] rfl
          replace hFc := va_freeT (wc := [(m9, .inr (23, mA mr mv vf xl (nI zs) 0 xa11 (nI T) (nI pp11) xi xt xn (nI ns) (nI vv) (nI bb11))), (mr 5, .inl (kI, 3002, .inl fk)), (mr 6, .inl (kI, 3002, .inl fa))]) hD hS hA [1, 2, 3] rfl
          refine va_callv (va_runV (As := [.int 62]) (rest := []) ⟨hx, hb, hml, hown, hts⟩ (c_rtkN l dC dI m9 mr mv vf xl xa11 xi xt xn zs T pp11 ns vv bb11 kI fk fa 62 H.size hT hf12_1.2.1 hk0 (by decide) hk_15) (cwV 1 hts g_c_xbr_c_rtkN_71 rfl rfl rfl (by decide +kernel) ⟨by show 1 + 1 ≤ 2 + 12 * k; omega, by show 8 + (2 + 11) + (22) ≤ 43 + 279 * k; omega⟩) ⟨fun a U g mk q => by obtain ⟨q0, q1, qP, qK, qD⟩ := q; exact ⟨q0, q1, qP, va_K.moved (u := U) (U := U.calling g mk a) (Vm.Alike.refl U.vm) qK, qD⟩, va_recv hKc hPc (ci := 23) (q0 := 0) rfl rfl, fun U hU hW => ⟨rfl, by rw [hU], by rw [hU]; exact hPc, va_K.moved hW.alike hKc, hDc.weaken (fun _ _ _ _ => trivial)⟩⟩ rfl rfl hl.1 rfl (lv_room (Nat.le_of_ble_eq_true rfl)) dX23_enterBracket_71 ⟨(show 8 * (pp11 - (pp + 1)) + 3 + 0 ≤ (8 * (T - pp) + 3) by omega), (show 120 * (pp11 - (pp + 1)) + 48 + 0 ≤ (120 * (T - pp) + 280) by omega)⟩) hS (fun q _ h => hFc q h) hFc (fun u tS H1 locs ht hvm hw hB hz1 hk1 hS => ?_)
          obtain ⟨ff_16, xa_17, hf18_0, hP1, hK1, hD1⟩ := hB
          rw [ht] at hP1
          replace hK1 := va_K.moved hvm.symm hK1
          obtain ⟨hPj, hDj⟩ := va_joinT (wr := [(ee, .inr (15, [.int kx, .int tx, .int 0, .int 0, .int 0, .int 0, .long 0, .int 0, .ref r_12, .null, .null, .int 0, .null, .null])), (mr 8, .inl (kL, 3002, .inr (.inl fn)))]) (w1 := [(m9, .inr (23, mA mr mv vf xl (nI zs) ff_16 xa_17 (nI T) (nI pp11) xi xt xn (nI ns) (nI vv) (nI bb11))), (mr 5, .inl (kI, 3002, .inl fk)), (mr 6, .inl (kI, 3002, .inl fa))]) hP hD [1, 2, 3] [0, 4] rfl rfl (by decide) (by decide) hk1 hFc hP1 hD1
          replace hP := hPj
          replace hD := hDj
          clear hPj hDj
          replace hK := hK.app hK1
          generalize H1 = H at hP hS ⊢
          replace hP : va_P (dC, dI) vwCl (([(ee, .inr (15, [.int kx, .int tx, .int 0, .int 0, .int 0, .int 0, .long 0, .int 0, .ref r_12, .null, .null, .int 0, .null, .null])), (mr 8, .inl (kL, 3002, .inr (.inl fn))), (m9, .inr (23, mA mr mv vf xl (nI zs) ff_16 xa_17 (nI T) (nI pp11) xi xt xn (nI ns) (nI vv) (nI bb11))), (mr 5, .inl (kI, 3002, .inl fk)), (mr 6, .inl (kI, 3002, .inl fa))] : va_W) ++ (sT L11 F11)) H := hP
          replace hD : va_D A (([(ee, .inr (15, [.int kx, .int tx, .int 0, .int 0, .int 0, .int 0, .long 0, .int 0, .ref r_12, .null, .null, .int 0, .null, .null])), (mr 8, .inl (kL, 3002, .inr (.inl fn))), (m9, .inr (23, mA mr mv vf xl (nI zs) ff_16 xa_17 (nI T) (nI pp11) xi xt xn (nI ns) (nI vv) (nI bb11))), (mr 5, .inl (kI, 3002, .inl fk)), (mr 6, .inl (kI, 3002, .inl fa))] : va_W) ++ (sT L11 F11)) := hD
          replace hK : va_K (dC, dI) vwCl [(kI, .int), (kL, .long), (kE, .object RX15), (kI, .int)] s := hK
          replace hK := hK.sub (tys' := [(kI, .int), (kL, .long), (kE, .object RX15)]) [0, 1, 2] rfl
          clear hz1 hk1 hPc hDc hKc hFc hP1 hD1 hK1
          refine W.grow (fun hgs0 hgs1 => ?_)
          have hP9 := hP.subT (f' := [(ee, .inr (15, [.int kx, .int tx, .int 0, .int 0, .int 0, .int 0, .long 0, .int 0, (.ref r_12), .null, .null, .int 0, .null, .null])), (m9, .inr (23, mA mr mv vf xl (nI zs) ff_16 xa_17 (nI T) (nI pp11) xi xt xn (nI ns) (nI vv) (nI bb11))), (mr 5, .inl (kI, 3002, .inl fk)), (mr 6, .inl (kI, 3002, .inl fa)), (mr 8, .inl (kL, 3002, .inr (.inl fn)))]) [0, 2, 3, 4, 1] rfl
          have hD9 := hD.subT (f' := [(ee, .inr (15, [.int kx, .int tx, .int 0, .int 0, .int 0, .int 0, .long 0, .int 0, (.ref r_12), .null, .null, .int 0, .null, .null])), (m9, .inr (23, mA mr mv vf xl (nI zs) ff_16 xa_17 (nI T) (nI pp11) xi xt xn (nI ns) (nI vv) (nI bb11))), (mr 5, .inl (kI, 3002, .inl fk)), (mr 6, .inl (kI, 3002, .inl fa)), (mr 8, .inl (kL, 3002, .inr (.inl fn)))]) [0, 2, 3, 4, 1] (by decide) rfl
          have hK9 := hK.sub (tys' := [(kI, .int), (kL, .long), (kE, .object RX15)]) [0, 1, 2] rfl
          refine W.widen (k := (8 * (T - pp) + 3)) (n := (120 * (T - pp) + 280)) (by omega) (by omega) ?_
          exact W.vret hx hb hr (fun tS ht hW => ⟨⟨(), rfl, trivial, L11, F11, ff_16, xa_17, pp11, bb11, .ref r_12, hf12_0.1, ⟨by omega, by omega, by omega, by omega⟩, (fun q9 => absurd q9 hf18_0), by rw [ht]; exact ⟨by omega, by omega⟩, by rw [ht]; exact hP9, va_K.moved hW.alike hK9, hD9⟩, hS.F ht⟩) hS.2.2 dX23_enterBracket_74
      · replace hPc := hP.subF (f' := [(m9, .inr (23, mA mr mv vf xl (nI zs) ff11 xa11 (nI T) (nI pp11) xi xt xn (nI ns) (nI vv) (nI bb11))), (mr 5, .inl (kI, 3002, .inl fk)), (mr 6, .inl (kI, 3002, .inl fa))]) [1, 2, 3] rfl
        replace hDc := hD.subF (f' := [(m9, .inr (23, mA mr mv vf xl (nI zs) ff11 xa11 (nI T) (nI pp11) xi xt xn (nI ns) (nI vv) (nI bb11))), (mr 5, .inl (kI, 3002, .inl fk)), (mr 6, .inl (kI, 3002, .inl fa))]) [1, 2, 3] (by decide) rfl
        replace hKc := hK.sub (tys' := [(kI, .int)]) [0] rfl
        replace hFc := va_freeT (wc := [(m9, .inr (23, mA mr mv vf xl (nI zs) ff11 xa11 (nI T) (nI pp11) xi xt xn (nI ns) (nI vv) (nI bb11))), (mr 5, .inl (kI, 3002, .inl fk)), (mr 6, .inl (kI, 3002, .inl fa))]) hD hS hA [1, 2, 3] rfl
        refine va_callv (va_runV (As := [.int 62]) (rest := []) ⟨hx, hb, hml, hown, hts⟩ (c_rtkB l dC dI m9 mr mv vf xl xa11 xi xt xn zs T pp11 ns vv bb11 kI fk fa ff11 62 H.size hz_14) (cwV 1 hts g_c_xbr_c_rtkB_71 rfl rfl rfl (by decide +kernel) ⟨by show 1 + 1 ≤ 2 + 12 * k; omega, by show 8 + (2 + 11) + (20) ≤ 43 + 279 * k; omega⟩) ⟨fun a U g mk q => by obtain ⟨q0, q1, qP, qK, qD⟩ := q; exact ⟨q0, q1, qP, va_K.moved (u := U) (U := U.calling g mk a) (Vm.Alike.refl U.vm) qK, qD⟩, va_recv hKc hPc (ci := 23) (q0 := 0) rfl rfl, fun U hU hW => ⟨rfl, by rw [hU], by rw [hU]; exact hPc, va_K.moved hW.alike hKc, hDc.weaken (fun _ _ _ _ => trivial)⟩⟩ rfl rfl hl.1 rfl (lv_room (Nat.le_of_ble_eq_true rfl)) dX23_enterBracket_71 ⟨(show 8 * (pp11 - (pp + 1)) + 3 + 0 ≤ (8 * (T - pp) + 3) by omega), (show 120 * (pp11 - (pp + 1)) + 48 + 0 ≤ (120 * (T - pp) + 280) by omega)⟩) hS (fun q _ h => hFc q h) hFc (fun u tS H1 locs ht hvm hw hB hz1 hk1 hS => ?_)
        obtain ⟨hP1, hK1, hD1⟩ := hB
        rw [ht] at hP1
        replace hK1 := va_K.moved hvm.symm hK1
        obtain ⟨hPj, hDj⟩ := va_joinT (wr := [(ee, .inr (15, [.int kx, .int tx, .int 0, .int 0, .int 0, .int 0, .long 0, .int 0, .ref r_12, .null, .null, .int 0, .null, .null])), (mr 8, .inl (kL, 3002, .inr (.inl fn)))]) (w1 := [(m9, .inr (23, mA mr mv vf xl (nI zs) ff11 xa11 (nI T) (nI pp11) xi xt xn (nI ns) (nI vv) (nI bb11))), (mr 5, .inl (kI, 3002, .inl fk)), (mr 6, .inl (kI, 3002, .inl fa))]) hP hD [1, 2, 3] [0, 4] rfl rfl (by decide) (by decide) hk1 hFc hP1 hD1
        replace hP := hPj
        replace hD := hDj
        clear hPj hDj
        replace hK := hK.app hK1
        generalize H1 = H at hP hS ⊢
        replace hP : va_P (dC, dI) vwCl (([(ee, .inr (15, [.int kx, .int tx, .int 0, .int 0, .int 0, .int 0, .long 0, .int 0, .ref r_12, .null, .null, .int 0, .null, .null])), (mr 8, .inl (kL, 3002, .inr (.inl fn))), (m9, .inr (23, mA mr mv vf xl (nI zs) ff11 xa11 (nI T) (nI pp11) xi xt xn (nI ns) (nI vv) (nI bb11))), (mr 5, .inl (kI, 3002, .inl fk)), (mr 6, .inl (kI, 3002, .inl fa))] : va_W) ++ (sT L11 F11)) H := hP
        replace hD : va_D A (([(ee, .inr (15, [.int kx, .int tx, .int 0, .int 0, .int 0, .int 0, .long 0, .int 0, .ref r_12, .null, .null, .int 0, .null, .null])), (mr 8, .inl (kL, 3002, .inr (.inl fn))), (m9, .inr (23, mA mr mv vf xl (nI zs) ff11 xa11 (nI T) (nI pp11) xi xt xn (nI ns) (nI vv) (nI bb11))), (mr 5, .inl (kI, 3002, .inl fk)), (mr 6, .inl (kI, 3002, .inl fa))] : va_W) ++ (sT L11 F11)) := hD
        replace hK : va_K (dC, dI) vwCl [(kI, .int), (kL, .long), (kE, .object RX15), (kI, .int)] s := hK
        replace hK := hK.sub (tys' := [(kI, .int), (kL, .long), (kE, .object RX15)]) [0, 1, 2] rfl
        clear hz1 hk1 hPc hDc hKc hFc hP1 hD1 hK1
        refine W.grow (fun hgs0 hgs1 => ?_)
        have hP9 := hP.subT (f' := [(ee, .inr (15, [.int kx, .int tx, .int 0, .int 0, .int 0, .int 0, .long 0, .int 0, (.ref r_12), .null, .null, .int 0, .null, .null])), (m9, .inr (23, mA mr mv vf xl (nI zs) ff11 xa11 (nI T) (nI pp11) xi xt xn (nI ns) (nI vv) (nI bb11))), (mr 5, .inl (kI, 3002, .inl fk)), (mr 6, .inl (kI, 3002, .inl fa)), (mr 8, .inl (kL, 3002, .inr (.inl fn)))]) [0, 2, 3, 4, 1] rfl
        have hD9 := hD.subT (f' := [(ee, .inr (15, [.int kx, .int tx, .int 0, .int 0, .int 0, .int 0, .long 0, .int 0, (.ref r_12), .null, .null, .int 0, .null, .null])), (m9, .inr (23, mA mr mv vf xl (nI zs) ff11 xa11 (nI T) (nI pp11) xi xt xn (nI ns) (nI vv) (nI bb11))), (mr 5, .inl (kI, 3002, .inl fk)), (mr 6, .inl (kI, 3002, .inl fa)), (mr 8, .inl (kL, 3002, .inr (.inl fn)))]) [0, 2, 3, 4, 1] (by decide) rfl
        have hK9 := hK.sub (tys' := [(kI, .int), (kL, .long), (kE, .object RX15)]) [0, 1, 2] rfl
        refine W.widen (k := (8 * (T - pp) + 3)) (n := (120 * (T - pp) + 280)) (by omega) (by omega) ?_
        exact W.vret hx hb hr (fun tS ht hW => ⟨⟨(), rfl, trivial, L11, F11, ff11, xa11, pp11, bb11, .ref r_12, hf12_0.1, ⟨by omega, by omega, by omega, by omega⟩, (fun q9 => absurd q9 hz_14), by rw [ht]; exact ⟨by omega, by omega⟩, by rw [ht]; exact hP9, va_K.moved hW.alike hK9, hD9⟩, hS.F ht⟩) hS.2.2 dX23_enterBracket_74
  · replace hPc := hP.subF (f' := [(m9, .inr (23, mA mr mv vf xl (nI zs) 0 xa (nI T) (nI pp) xi xt xn (nI ns) (nI vv) (nI bb))), (mr 5, .inl (kI, 3002, .inl fk))]) [4, 1] rfl
    replace hDc := hD.subF (f' := [(m9, .inr (23, mA mr mv vf xl (nI zs) 0 xa (nI T) (nI pp) xi xt xn (nI ns) (nI vv) (nI bb))), (mr 5, .inl (kI, 3002, .inl fk))]) [4, 1] (by decide) rfl
    replace hKc := hK.sub (tys' := [(kI, .int)]) [0] rfl
    replace hFc := va_freeT (wc := [(m9, .inr (23, mA mr mv vf xl (nI zs) 0 xa (nI T) (nI pp) xi xt xn (nI ns) (nI vv) (nI bb))), (mr 5, .inl (kI, 3002, .inl fk))]) hD hS hA [4, 1] rfl
    refine va_calli (va_runV (As := [.int 61]) (rest := []) ⟨hx, hb, hml, hown, hts⟩ (c_risN l dC dI m9 mr mv vf xl xa xi xt xn zs T pp ns vv bb kI fk fa 0 61 H.size hT hp hk_3) (cwV 1 hts g_c_xbr_c_risN_10 rfl rfl rfl (by decide +kernel) ⟨by show 0 + 1 ≤ 2 + 12 * k; omega, by show 8 + (2 + 11) + (0) ≤ 43 + 279 * k; omega⟩) ⟨fun a U g mk q => by obtain ⟨q0, q1, qP, qK, qD⟩ := q; exact ⟨q0, q1, qP, va_K.moved (u := U) (U := U.calling g mk a) (Vm.Alike.refl U.vm) qK, qD⟩, va_recv hKc hPc (ci := 23) (q0 := 0) rfl rfl, fun U hU hW => ⟨rfl, by rw [hU], by rw [hU]; exact hPc, va_K.moved hW.alike hKc, hDc.weaken (fun _ _ _ _ => trivial)⟩⟩ rfl rfl hl.1 rfl (lv_room (Nat.le_of_ble_eq_true rfl)) dX23_enterBracket_10 ⟨(show 0 + 0 ≤ (8 * (T - pp) + 3) by omega), (show 0 + 0 ≤ (120 * (T - pp) + 280) by omega)⟩) hS (fun q _ h => hFc q h) hFc (fun r_4 u tS H1 locs ht hvm hw hB hz1 hk1 hS => ?_)
    obtain ⟨hP1, hK1, hD1⟩ := hB
    rw [ht] at hP1
    replace hK1 := va_K.moved hvm.symm hK1
    obtain ⟨hPj, hDj⟩ := va_joinT (wr := [(ee, .inr (15, [.int kx, .int tx, .int 0, .int 0, .int 0, .int 0, .long 0, .int 0, .null, .null, .null, .int 0, .null, .null])), (mr 6, .inl (kI, 3002, .inl fa)), (mr 8, .inl (kL, 3002, .inr (.inl fn)))]) (w1 := [(m9, .inr (23, mA mr mv vf xl (nI zs) 0 xa (nI T) (nI pp) xi xt xn (nI ns) (nI vv) (nI bb))), (mr 5, .inl (kI, 3002, .inl fk))]) hP hD [4, 1] [0, 2, 3] rfl rfl (by decide) (by decide) hk1 hFc hP1 hD1
    replace hP := hPj
    replace hD := hDj
    clear hPj hDj
    replace hK := hK.app hK1
    generalize H1 = H at hP hS ⊢
    replace hP : va_P (dC, dI) vwCl (([(ee, .inr (15, [.int kx, .int tx, .int 0, .int 0, .int 0, .int 0, .long 0, .int 0, .null, .null, .null, .int 0, .null, .null])), (mr 6, .inl (kI, 3002, .inl fa)), (mr 8, .inl (kL, 3002, .inr (.inl fn))), (m9, .inr (23, mA mr mv vf xl (nI zs) 0 xa (nI T) (nI pp) xi xt xn (nI ns) (nI vv) (nI bb))), (mr 5, .inl (kI, 3002, .inl fk))] : va_W) ++ (sT L F)) H := hP
    replace hD : va_D A (([(ee, .inr (15, [.int kx, .int tx, .int 0, .int 0, .int 0, .int 0, .long 0, .int 0, .null, .null, .null, .int 0, .null, .null])), (mr 6, .inl (kI, 3002, .inl fa)), (mr 8, .inl (kL, 3002, .inr (.inl fn))), (m9, .inr (23, mA mr mv vf xl (nI zs) 0 xa (nI T) (nI pp) xi xt xn (nI ns) (nI vv) (nI bb))), (mr 5, .inl (kI, 3002, .inl fk))] : va_W) ++ (sT L F)) := hD
    replace hK : va_K (dC, dI) vwCl [(kI, .int), (kL, .long), (kE, .object RX15), (kI, .int)] s := hK
    replace hK := hK.sub (tys' := [(kI, .int), (kL, .long), (kE, .object RX15)]) [0, 1, 2] rfl
    clear hz1 hk1 hPc hDc hKc hFc hP1 hD1 hK1
    obtain rfl : r_4 = 0 := hw
    refine lv_if_eq (tgt := 27) hx hb dX23_enterBracket_13 (by decide) (fun _ => ?_) (fun c_5 => absurd (by decide) c_5)
    refine lv_aload_n hx hb dX23_enterBracket_27 rfl (lv_at hl 0 rfl) ?_
    refine lv_dup hx hb dX23_enterBracket_28 rfl ?_
    refine va_get (D := (dC, dI)) (ci := 23) (v := .int (nI ns)) (C := RX23) (T := TX23) (N := 89) hx hb hts in_c_xbr_X23 hown hK hP 3 rfl rfl 15 (by decide) (hts (.fieldLink RX23 104 "OwnedPlacesModel" "nest" "I") (wm_c_xbr 14 rfl)) (fun _ h9 => h9) rfl dX23_enterBracket_29 ?_
    refine lv_iconst (v := 1) hx hb dX23_enterBracket_32 (by decide) ?_
    refine lv_iadd hx hb dX23_enterBracket_33 ?_
    refine lv_topi (fun f_6 ef_6 => ?_)
    obtain rfl : f_6 = nI (ns + 1) := ef_6.trans (nI_1 _)
    refine va_put (D := (dC, dI)) (ci := 23) (v := .int (nI (ns + 1))) (ty := .int) (C := RX23) (T := TX23) (N := 89) hx hb hts in_c_xbr_X23 tyX23 tyX23_ok nmX23 hown hK hP hD hS 3 rfl rfl 15 (by decide) (hts (.fieldLink RX23 104 "OwnedPlacesModel" "nest" "I") (wm_c_xbr 14 rfl)) (fun _ h9 => h9) rfl (by decide +kernel) rfl rfl (Nat.le_of_ble_eq_true rfl) dX23_enterBracket_34 (fun H locs hP hD hS => ?_)
    replace hP : va_P (dC, dI) vwCl (([(ee, .inr (15, [.int kx, .int tx, .int 0, .int 0, .int 0, .int 0, .long 0, .int 0, .null, .null, .null, .int 0, .null, .null])), (mr 6, .inl (kI, 3002, .inl fa)), (mr 8, .inl (kL, 3002, .inr (.inl fn))), (m9, .inr (23, mA mr mv vf xl (nI zs) 0 xa (nI T) (nI pp) xi xt xn (nI (ns + 1)) (nI vv) (nI bb))), (mr 5, .inl (kI, 3002, .inl fk))] : va_W) ++ (sT L F)) H := hP
    replace hD : va_D A (([(ee, .inr (15, [.int kx, .int tx, .int 0, .int 0, .int 0, .int 0, .long 0, .int 0, .null, .null, .null, .int 0, .null, .null])), (mr 6, .inl (kI, 3002, .inl fa)), (mr 8, .inl (kL, 3002, .inr (.inl fn))), (m9, .inr (23, mA mr mv vf xl (nI zs) 0 xa (nI T) (nI pp) xi xt xn (nI (ns + 1)) (nI vv) (nI bb))), (mr 5, .inl (kI, 3002, .inl fk))] : va_W) ++ (sT L F)) := hD
    refine lv_aload_n hx hb dX23_enterBracket_37 rfl (lv_at hl 0 rfl) ?_
    refine lv_bipush (v := 61) hx hb dX23_enterBracket_38 (by decide) ?_
    replace hPc := hP.subF (f' := [(m9, .inr (23, mA mr mv vf xl (nI zs) 0 xa (nI T) (nI pp) xi xt xn (nI (ns + 1)) (nI vv) (nI bb))), (mr 5, .inl (kI, 3002, .inl fk)), (mr 6, .inl (kI, 3002, .inl fa))]) [3, 4, 1] rfl
    replace hDc := hD.subF (f' := [(m9, .inr (23, mA mr mv vf xl (nI zs) 0 xa (nI T) (nI pp) xi xt xn (nI (ns + 1)) (nI vv) (nI bb))), (mr 5, .inl (kI, 3002, .inl fk)), (mr 6, .inl (kI, 3002, .inl fa))]) [3, 4, 1] (by decide) rfl
    replace hKc := hK.sub (tys' := [(kI, .int)]) [0] rfl
    replace hFc := va_freeT (wc := [(m9, .inr (23, mA mr mv vf xl (nI zs) 0 xa (nI T) (nI pp) xi xt xn (nI (ns + 1)) (nI vv) (nI bb))), (mr 5, .inl (kI, 3002, .inl fk)), (mr 6, .inl (kI, 3002, .inl fa))]) hD hS hA [3, 4, 1] rfl
    refine va_callv (va_runV (As := [.int 61]) (rest := []) ⟨hx, hb, hml, hown, hts⟩ (c_rtkN l dC dI m9 mr mv vf xl xa xi xt xn zs T pp (ns + 1) vv bb kI fk fa 61 H.size hT hp hk0 (by decide) hk_3) (cwV 1 hts g_c_xbr_c_rtkN_40 rfl rfl rfl (by decide +kernel) ⟨by show 1 + 1 ≤ 2 + 12 * k; omega, by show 8 + (2 + 11) + (22) ≤ 43 + 279 * k; omega⟩) ⟨fun a U g mk q => by obtain ⟨q0, q1, qP, qK, qD⟩ := q; exact ⟨q0, q1, qP, va_K.moved (u := U) (U := U.calling g mk a) (Vm.Alike.refl U.vm) qK, qD⟩, va_recv hKc hPc (ci := 23) (q0 := 0) rfl rfl, fun U hU hW => ⟨rfl, by rw [hU], by rw [hU]; exact hPc, va_K.moved hW.alike hKc, hDc.weaken (fun _ _ _ _ => trivial)⟩⟩ rfl rfl hl.1 rfl (lv_room (Nat.le_of_ble_eq_true rfl)) dX23_enterBracket_40 ⟨(show 0 + 0 ≤ (8 * (T - pp) + 3) by omega), (show 0 + 0 ≤ (120 * (T - pp) + 280) by omega)⟩) hS (fun q _ h => hFc q h) hFc (fun u tS H1 locs ht hvm hw hB hz1 hk1 hS => ?_)
    obtain ⟨ff_7, xa_8, hf9_0, hP1, hK1, hD1⟩ := hB
    rw [ht] at hP1
    replace hK1 := va_K.moved hvm.symm hK1
    obtain ⟨hPj, hDj⟩ := va_joinT (wr := [(ee, .inr (15, [.int kx, .int tx, .int 0, .int 0, .int 0, .int 0, .long 0, .int 0, .null, .null, .null, .int 0, .null, .null])), (mr 8, .inl (kL, 3002, .inr (.inl fn)))]) (w1 := [(m9, .inr (23, mA mr mv vf xl (nI zs) ff_7 xa_8 (nI T) (nI pp) xi xt xn (nI (ns + 1)) (nI vv) (nI bb))), (mr 5, .inl (kI, 3002, .inl fk)), (mr 6, .inl (kI, 3002, .inl fa))]) hP hD [3, 4, 1] [0, 2] rfl rfl (by decide) (by decide) hk1 hFc hP1 hD1
    replace hP := hPj
    replace hD := hDj
    clear hPj hDj
    replace hK := hK.app hK1
    generalize H1 = H at hP hS ⊢
    replace hP : va_P (dC, dI) vwCl (([(ee, .inr (15, [.int kx, .int tx, .int 0, .int 0, .int 0, .int 0, .long 0, .int 0, .null, .null, .null, .int 0, .null, .null])), (mr 8, .inl (kL, 3002, .inr (.inl fn))), (m9, .inr (23, mA mr mv vf xl (nI zs) ff_7 xa_8 (nI T) (nI pp) xi xt xn (nI (ns + 1)) (nI vv) (nI bb))), (mr 5, .inl (kI, 3002, .inl fk)), (mr 6, .inl (kI, 3002, .inl fa))] : va_W) ++ (sT L F)) H := hP
    replace hD : va_D A (([(ee, .inr (15, [.int kx, .int tx, .int 0, .int 0, .int 0, .int 0, .long 0, .int 0, .null, .null, .null, .int 0, .null, .null])), (mr 8, .inl (kL, 3002, .inr (.inl fn))), (m9, .inr (23, mA mr mv vf xl (nI zs) ff_7 xa_8 (nI T) (nI pp) xi xt xn (nI (ns + 1)) (nI vv) (nI bb))), (mr 5, .inl (kI, 3002, .inl fk)), (mr 6, .inl (kI, 3002, .inl fa))] : va_W) ++ (sT L F)) := hD
    replace hK : va_K (dC, dI) vwCl [(kI, .int), (kL, .long), (kE, .object RX15), (kI, .int)] s := hK
    replace hK := hK.sub (tys' := [(kI, .int), (kL, .long), (kE, .object RX15)]) [0, 1, 2] rfl
    clear hz1 hk1 hPc hDc hKc hFc hP1 hD1 hK1
    refine lv_aload_n hx hb dX23_enterBracket_43 rfl (lv_at hl 0 rfl) ?_
    replace hPc := hP.subF (f' := [(m9, .inr (23, mA mr mv vf xl (nI zs) ff_7 xa_8 (nI T) (nI pp) xi xt xn (nI (ns + 1)) (nI vv) (nI bb)))]) [2] rfl
    replace hDc := hD.subF (f' := [(m9, .inr (23, mA mr mv vf xl (nI zs) ff_7 xa_8 (nI T) (nI pp) xi xt xn (nI (ns + 1)) (nI vv) (nI bb)))]) [2] (by decide) rfl
    replace hKc := hK.sub (tys' := []) [] rfl
    replace hFc := va_freeT (wc := [(m9, .inr (23, mA mr mv vf xl (nI zs) ff_7 xa_8 (nI T) (nI pp) xi xt xn (nI (ns + 1)) (nI vv) (nI bb)))]) hD hS hA [2] rfl
    refine va_calli (va_runV (As := []) (rest := []) ⟨hx, hb, hml, hown, hts⟩ (c_rokB l dC dI m9 mr mv vf xl xa_8 xi xt xn zs T pp (ns + 1) vv bb kI fk fa ff_7 H.size hf9_0) (cwV 0 hts g_c_xbr_c_rokB_44 rfl rfl rfl (by decide +kernel) ⟨by show 0 + 1 ≤ 2 + 12 * k; omega, by show 8 + (1 + 11) + (0) ≤ 43 + 279 * k; omega⟩) ⟨fun a U g mk q => by obtain ⟨q0, q1, qP, qK, qD⟩ := q; exact ⟨q0, q1, qP, va_K.moved (u := U) (U := U.calling g mk a) (Vm.Alike.refl U.vm) qK, qD⟩, va_recv hKc hPc (ci := 23) (q0 := 0) rfl rfl, fun U hU hW => ⟨rfl, by rw [hU], by rw [hU]; exact hPc, va_K.moved hW.alike hKc, hDc.weaken (fun _ _ _ _ => trivial)⟩⟩ rfl rfl hl.1 rfl (lv_room (Nat.le_of_ble_eq_true rfl)) dX23_enterBracket_44 ⟨(show 0 + 0 ≤ (8 * (T - pp) + 3) by omega), (show 0 + 0 ≤ (120 * (T - pp) + 280) by omega)⟩) hS (fun q _ h => hFc q h) hFc (fun r_10 u tS H1 locs ht hvm hw hB hz1 hk1 hS => ?_)
    obtain ⟨hP1, hK1, hD1⟩ := hB
    rw [ht] at hP1
    replace hK1 := va_K.moved hvm.symm hK1
    obtain ⟨hPj, hDj⟩ := va_joinT (wr := [(ee, .inr (15, [.int kx, .int tx, .int 0, .int 0, .int 0, .int 0, .long 0, .int 0, .null, .null, .null, .int 0, .null, .null])), (mr 8, .inl (kL, 3002, .inr (.inl fn))), (mr 5, .inl (kI, 3002, .inl fk)), (mr 6, .inl (kI, 3002, .inl fa))]) (w1 := [(m9, .inr (23, mA mr mv vf xl (nI zs) ff_7 xa_8 (nI T) (nI pp) xi xt xn (nI (ns + 1)) (nI vv) (nI bb)))]) hP hD [2] [0, 1, 3, 4] rfl rfl (by decide) (by decide) hk1 hFc hP1 hD1
    replace hP := hPj
    replace hD := hDj
    clear hPj hDj
    generalize H1 = H at hP hS ⊢
    replace hP : va_P (dC, dI) vwCl (([(ee, .inr (15, [.int kx, .int tx, .int 0, .int 0, .int 0, .int 0, .long 0, .int 0, .null, .null, .null, .int 0, .null, .null])), (mr 8, .inl (kL, 3002, .inr (.inl fn))), (mr 5, .inl (kI, 3002, .inl fk)), (mr 6, .inl (kI, 3002, .inl fa)), (m9, .inr (23, mA mr mv vf xl (nI zs) ff_7 xa_8 (nI T) (nI pp) xi xt xn (nI (ns + 1)) (nI vv) (nI bb)))] : va_W) ++ (sT L F)) H := hP
    replace hD : va_D A (([(ee, .inr (15, [.int kx, .int tx, .int 0, .int 0, .int 0, .int 0, .long 0, .int 0, .null, .null, .null, .int 0, .null, .null])), (mr 8, .inl (kL, 3002, .inr (.inl fn))), (mr 5, .inl (kI, 3002, .inl fk)), (mr 6, .inl (kI, 3002, .inl fa)), (m9, .inr (23, mA mr mv vf xl (nI zs) ff_7 xa_8 (nI T) (nI pp) xi xt xn (nI (ns + 1)) (nI vv) (nI bb)))] : va_W) ++ (sT L F)) := hD
    replace hK : va_K (dC, dI) vwCl [(kI, .int), (kL, .long), (kE, .object RX15)] s := hK
    clear hz1 hk1 hPc hDc hKc hFc hP1 hD1 hK1
    obtain rfl : r_10 = 0 := hw
    refine lv_if_eq (tgt := 58) hx hb dX23_enterBracket_47 (by decide) (fun _ => ?_) (fun c_11 => absurd (by decide) c_11)
    refine lv_aload_n hx hb dX23_enterBracket_58 rfl (lv_at hl 0 rfl) ?_
    refine lv_dup hx hb dX23_enterBracket_59 rfl ?_
    refine va_get (D := (dC, dI)) (ci := 23) (v := .int (nI (ns + 1))) (C := RX23) (T := TX23) (N := 89) hx hb hts in_c_xbr_X23 hown hK hP 4 rfl rfl 15 (by decide) (hts (.fieldLink RX23 104 "OwnedPlacesModel" "nest" "I") (wm_c_xbr 14 rfl)) (fun _ h9 => h9) rfl dX23_enterBracket_60 ?_
    refine lv_iconst (v := 1) hx hb dX23_enterBracket_63 (by decide) ?_
    refine lv_isub hx hb dX23_enterBracket_64 ?_
    refine lv_topi (fun f_12 ef_12 => ?_)
    obtain rfl : f_12 = nI ns := ef_12.trans (nI_pred _)
    refine va_put (D := (dC, dI)) (ci := 23) (v := .int (nI ns)) (ty := .int) (C := RX23) (T := TX23) (N := 89) hx hb hts in_c_xbr_X23 tyX23 tyX23_ok nmX23 hown hK hP hD hS 4 rfl rfl 15 (by decide) (hts (.fieldLink RX23 104 "OwnedPlacesModel" "nest" "I") (wm_c_xbr 14 rfl)) (fun _ h9 => h9) rfl (by decide +kernel) rfl rfl (Nat.le_of_ble_eq_true rfl) dX23_enterBracket_65 (fun H locs hP hD hS => ?_)
    replace hP : va_P (dC, dI) vwCl (([(ee, .inr (15, [.int kx, .int tx, .int 0, .int 0, .int 0, .int 0, .long 0, .int 0, .null, .null, .null, .int 0, .null, .null])), (mr 8, .inl (kL, 3002, .inr (.inl fn))), (mr 5, .inl (kI, 3002, .inl fk)), (mr 6, .inl (kI, 3002, .inl fa)), (m9, .inr (23, mA mr mv vf xl (nI zs) ff_7 xa_8 (nI T) (nI pp) xi xt xn (nI ns) (nI vv) (nI bb)))] : va_W) ++ (sT L F)) H := hP
    replace hD : va_D A (([(ee, .inr (15, [.int kx, .int tx, .int 0, .int 0, .int 0, .int 0, .long 0, .int 0, .null, .null, .null, .int 0, .null, .null])), (mr 8, .inl (kL, 3002, .inr (.inl fn))), (mr 5, .inl (kI, 3002, .inl fk)), (mr 6, .inl (kI, 3002, .inl fa)), (m9, .inr (23, mA mr mv vf xl (nI zs) ff_7 xa_8 (nI T) (nI pp) xi xt xn (nI ns) (nI vv) (nI bb)))] : va_W) ++ (sT L F)) := hD
    refine lv_aload_n hx hb dX23_enterBracket_68 rfl (lv_at hl 0 rfl) ?_
    refine lv_bipush (v := 62) hx hb dX23_enterBracket_69 (by decide) ?_
    replace hPc := hP.subF (f' := [(m9, .inr (23, mA mr mv vf xl (nI zs) ff_7 xa_8 (nI T) (nI pp) xi xt xn (nI ns) (nI vv) (nI bb))), (mr 5, .inl (kI, 3002, .inl fk)), (mr 6, .inl (kI, 3002, .inl fa))]) [4, 2, 3] rfl
    replace hDc := hD.subF (f' := [(m9, .inr (23, mA mr mv vf xl (nI zs) ff_7 xa_8 (nI T) (nI pp) xi xt xn (nI ns) (nI vv) (nI bb))), (mr 5, .inl (kI, 3002, .inl fk)), (mr 6, .inl (kI, 3002, .inl fa))]) [4, 2, 3] (by decide) rfl
    replace hKc := hK.sub (tys' := [(kI, .int)]) [0] rfl
    replace hFc := va_freeT (wc := [(m9, .inr (23, mA mr mv vf xl (nI zs) ff_7 xa_8 (nI T) (nI pp) xi xt xn (nI ns) (nI vv) (nI bb))), (mr 5, .inl (kI, 3002, .inl fk)), (mr 6, .inl (kI, 3002, .inl fa))]) hD hS hA [4, 2, 3] rfl
    refine va_callv (va_runV (As := [.int 62]) (rest := []) ⟨hx, hb, hml, hown, hts⟩ (c_rtkB l dC dI m9 mr mv vf xl xa_8 xi xt xn zs T pp ns vv bb kI fk fa ff_7 62 H.size hf9_0) (cwV 1 hts g_c_xbr_c_rtkB_71 rfl rfl rfl (by decide +kernel) ⟨by show 1 + 1 ≤ 2 + 12 * k; omega, by show 8 + (2 + 11) + (20) ≤ 43 + 279 * k; omega⟩) ⟨fun a U g mk q => by obtain ⟨q0, q1, qP, qK, qD⟩ := q; exact ⟨q0, q1, qP, va_K.moved (u := U) (U := U.calling g mk a) (Vm.Alike.refl U.vm) qK, qD⟩, va_recv hKc hPc (ci := 23) (q0 := 0) rfl rfl, fun U hU hW => ⟨rfl, by rw [hU], by rw [hU]; exact hPc, va_K.moved hW.alike hKc, hDc.weaken (fun _ _ _ _ => trivial)⟩⟩ rfl rfl hl.1 rfl (lv_room (Nat.le_of_ble_eq_true rfl)) dX23_enterBracket_71 ⟨(show 0 + 0 ≤ (8 * (T - pp) + 3) by omega), (show 0 + 0 ≤ (120 * (T - pp) + 280) by omega)⟩) hS (fun q _ h => hFc q h) hFc (fun u tS H1 locs ht hvm hw hB hz1 hk1 hS => ?_)
    obtain ⟨hP1, hK1, hD1⟩ := hB
    rw [ht] at hP1
    replace hK1 := va_K.moved hvm.symm hK1
    obtain ⟨hPj, hDj⟩ := va_joinT (wr := [(ee, .inr (15, [.int kx, .int tx, .int 0, .int 0, .int 0, .int 0, .long 0, .int 0, .null, .null, .null, .int 0, .null, .null])), (mr 8, .inl (kL, 3002, .inr (.inl fn)))]) (w1 := [(m9, .inr (23, mA mr mv vf xl (nI zs) ff_7 xa_8 (nI T) (nI pp) xi xt xn (nI ns) (nI vv) (nI bb))), (mr 5, .inl (kI, 3002, .inl fk)), (mr 6, .inl (kI, 3002, .inl fa))]) hP hD [4, 2, 3] [0, 1] rfl rfl (by decide) (by decide) hk1 hFc hP1 hD1
    replace hP := hPj
    replace hD := hDj
    clear hPj hDj
    replace hK := hK.app hK1
    generalize H1 = H at hP hS ⊢
    replace hP : va_P (dC, dI) vwCl (([(ee, .inr (15, [.int kx, .int tx, .int 0, .int 0, .int 0, .int 0, .long 0, .int 0, .null, .null, .null, .int 0, .null, .null])), (mr 8, .inl (kL, 3002, .inr (.inl fn))), (m9, .inr (23, mA mr mv vf xl (nI zs) ff_7 xa_8 (nI T) (nI pp) xi xt xn (nI ns) (nI vv) (nI bb))), (mr 5, .inl (kI, 3002, .inl fk)), (mr 6, .inl (kI, 3002, .inl fa))] : va_W) ++ (sT L F)) H := hP
    replace hD : va_D A (([(ee, .inr (15, [.int kx, .int tx, .int 0, .int 0, .int 0, .int 0, .long 0, .int 0, .null, .null, .null, .int 0, .null, .null])), (mr 8, .inl (kL, 3002, .inr (.inl fn))), (m9, .inr (23, mA mr mv vf xl (nI zs) ff_7 xa_8 (nI T) (nI pp) xi xt xn (nI ns) (nI vv) (nI bb))), (mr 5, .inl (kI, 3002, .inl fk)), (mr 6, .inl (kI, 3002, .inl fa))] : va_W) ++ (sT L F)) := hD
    replace hK : va_K (dC, dI) vwCl [(kI, .int), (kL, .long), (kE, .object RX15), (kI, .int)] s := hK
    replace hK := hK.sub (tys' := [(kI, .int), (kL, .long), (kE, .object RX15)]) [0, 1, 2] rfl
    clear hz1 hk1 hPc hDc hKc hFc hP1 hD1 hK1
    refine W.grow (fun hgs0 hgs1 => ?_)
    have hP9 := hP.subT (f' := [(ee, .inr (15, [.int kx, .int tx, .int 0, .int 0, .int 0, .int 0, .long 0, .int 0, .null, .null, .null, .int 0, .null, .null])), (m9, .inr (23, mA mr mv vf xl (nI zs) ff_7 xa_8 (nI T) (nI pp) xi xt xn (nI ns) (nI vv) (nI bb))), (mr 5, .inl (kI, 3002, .inl fk)), (mr 6, .inl (kI, 3002, .inl fa)), (mr 8, .inl (kL, 3002, .inr (.inl fn)))]) [0, 2, 3, 4, 1] rfl
    have hD9 := hD.subT (f' := [(ee, .inr (15, [.int kx, .int tx, .int 0, .int 0, .int 0, .int 0, .long 0, .int 0, .null, .null, .null, .int 0, .null, .null])), (m9, .inr (23, mA mr mv vf xl (nI zs) ff_7 xa_8 (nI T) (nI pp) xi xt xn (nI ns) (nI vv) (nI bb))), (mr 5, .inl (kI, 3002, .inl fk)), (mr 6, .inl (kI, 3002, .inl fa)), (mr 8, .inl (kL, 3002, .inr (.inl fn)))]) [0, 2, 3, 4, 1] (by decide) rfl
    have hK9 := hK.sub (tys' := [(kI, .int), (kL, .long), (kE, .object RX15)]) [0, 1, 2] rfl
    refine W.widen (k := (8 * (T - pp) + 3)) (n := (120 * (T - pp) + 280)) (by omega) (by omega) ?_
    exact W.vret hx hb hr (fun tS ht hW => ⟨⟨(), rfl, trivial, L, F, ff_7, xa_8, pp, bb, .null, exS.rf, ⟨by omega, by omega, by omega, by omega⟩, (fun q9 => absurd q9 hf9_0), by rw [ht]; exact ⟨by omega, by omega⟩, by rw [ht]; exact hP9, va_K.moved hW.alike hK9, hD9⟩, hS.F ht⟩) hS.2.2 dX23_enterBracket_74
