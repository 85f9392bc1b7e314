set_option maxRecDepth 20000 in
theorem g_c_vpl_c_xex_7 : GoodIn wp_c_vpl (wsV RX23 264 RX23 yX23_exp wp_c_xex) := goodIn_app (goodIn_f [.methodLink RX23 264 yX23_exp, .instanceMethod yX23_exp, .selects RX23 yX23_exp yX23_exp, .initialized RX23] [47, 48, 49, 6] rfl (by decide +kernel)) (goodIn_app (goodIn_f (wf_c_xex) [2, 3, 4, 5, 6, 7, 8, 9, 10, 11, 12, 13, 14, 15, 16, 17, 18, 19, 20, 21, 22, 23, 24, 25, 26, 27, 28, 29, 30, 31, 32, 33, 34, 35, 36, 37, 38, 39, 40, 41, 42, 43, 44, 45, 46, 47, 48, 49, 50, 51, 52, 53, 54, 55, 56, 57, 58, 59, 60, 61, 62, 63, 64, 65, 66, 67, 68, 69, 70, 71, 72, 73, 74, 75, 76, 77, 78, 79, 80, 81, 82, 83, 84, 85, 86, 87, 88, 89, 90, 91, 92, 93, 94, 95, 96, 97, 98, 99, 100, 101, 102, 103] rfl wg_c_xex) (goodIn_app (goodIn_sub in_c_vpl_X15 gd_X15) (goodIn_app (goodIn_sub in_c_vpl_X23 gd_X23) (goodIn_n))))
set_option maxRecDepth 20000 in
theorem g_c_vpl_c_rok0_14 : GoodIn wp_c_vpl (wsV RX23 89 RX23 yX23_ok wp_c_rok0) := goodIn_app (goodIn_f [.methodLink RX23 89 yX23_ok, .instanceMethod yX23_ok, .selects RX23 yX23_ok yX23_ok, .initialized RX23] [29, 30, 31, 6] rfl (by decide +kernel)) (goodIn_app (goodIn_f (wf_c_rok0) [27, 28] rfl wg_c_rok0) (goodIn_app (goodIn_sub in_c_vpl_X23 gd_X23) (goodIn_n)))
set_option maxRecDepth 20000 in
theorem g_c_vpl_c_risY_23 : GoodIn wp_c_vpl (wsV RX23 93 RX23 yX23_is wp_c_risY) := goodIn_app (goodIn_f [.methodLink RX23 93 yX23_is, .instanceMethod yX23_is, .selects RX23 yX23_is yX23_is, .initialized RX23] [22, 23, 24, 6] rfl (by decide +kernel)) (goodIn_app (goodIn_f (wf_c_risY) [21, 18, 16] rfl wg_c_risY) (goodIn_app (goodIn_sub in_c_vpl_X23 gd_X23) (goodIn_n)))
set_option maxRecDepth 20000 in
theorem g_c_vpl_c_risN_23 : GoodIn wp_c_vpl (wsV RX23 93 RX23 yX23_is wp_c_risY) := goodIn_app (goodIn_f [.methodLink RX23 93 yX23_is, .instanceMethod yX23_is, .selects RX23 yX23_is yX23_is, .initialized RX23] [22, 23, 24, 6] rfl (by decide +kernel)) (goodIn_app (goodIn_f (wf_c_risY) [21, 18, 16] rfl wg_c_risY) (goodIn_app (goodIn_sub in_c_vpl_X23 gd_X23) (goodIn_n)))
set_option maxRecDepth 20000 in
theorem g_c_vpl_c_xip_33 : GoodIn wp_c_vpl (va_wsS RX23 288 yX23_isPlace wp_c_xip) := goodIn_app (goodIn_f [.methodLink RX23 288 yX23_isPlace, .static yX23_isPlace, .initialized RX23] [106, 107, 6] rfl (by decide +kernel)) (goodIn_app (goodIn_f (wf_c_xip) [105, 25, 79] rfl wg_c_xip) (goodIn_app (goodIn_sub in_c_vpl_X15 gd_X15) (goodIn_n)))
set_option maxRecDepth 20000 in
theorem g_c_vpl_c_rfa0_45 : GoodIn wp_c_vpl (wsV RX23 96 RX23 yX23_fail wp_c_rfa0) := goodIn_app (goodIn_f [.methodLink RX23 96 yX23_fail, .instanceMethod yX23_fail, .selects RX23 yX23_fail yX23_fail, .initialized RX23] [37, 38, 39, 6] rfl (by decide +kernel)) (goodIn_app (goodIn_f (wf_c_rfa0) [34, 28, 35, 36] rfl wg_c_rfa0) (goodIn_app (goodIn_sub in_c_vpl_X23 gd_X23) (goodIn_n)))
set_option maxRecDepth 20000 in
theorem g_c_vpl_c_xex_74 : GoodIn wp_c_vpl (wsV RX23 264 RX23 yX23_exp wp_c_xex) := goodIn_app (goodIn_f [.methodLink RX23 264 yX23_exp, .instanceMethod yX23_exp, .selects RX23 yX23_exp yX23_exp, .initialized RX23] [47, 48, 49, 6] rfl (by decide +kernel)) (goodIn_app (goodIn_f (wf_c_xex) [2, 3, 4, 5, 6, 7, 8, 9, 10, 11, 12, 13, 14, 15, 16, 17, 18, 19, 20, 21, 22, 23, 24, 25, 26, 27, 28, 29, 30, 31, 32, 33, 34, 35, 36, 37, 38, 39, 40, 41, 42, 43, 44, 45, 46, 47, 48, 49, 50, 51, 52, 53, 54, 55, 56, 57, 58, 59, 60, 61, 62, 63, 64, 65, 66, 67, 68, 69, 70, 71, 72, 73, 74, 75, 76, 77, 78, 79, 80, 81, 82, 83, 84, 85, 86, 87, 88, 89, 90, 91, 92, 93, 94, 95, 96, 97, 98, 99, 100, 101, 102, 103] rfl wg_c_xex) (goodIn_app (goodIn_sub in_c_vpl_X15 gd_X15) (goodIn_app (goodIn_sub in_c_vpl_X23 gd_X23) (goodIn_n))))
set_option maxRecDepth 20000 in
theorem g_c_vpl_c_rtkY_83 : GoodIn wp_c_vpl (wsV RX23 100 RX23 yX23_take wp_c_rtkY) := goodIn_app (goodIn_f [.methodLink RX23 100 yX23_take, .instanceMethod yX23_take, .selects RX23 yX23_take yX23_take, .initialized RX23] [44, 45, 46, 6] rfl (by decide +kernel)) (goodIn_app (goodIn_f (wf_c_rtkY) [43, 27, 28, 29, 30, 31, 6, 21, 18, 16, 22, 23, 24, 34, 35, 36, 37, 38, 39] rfl wg_c_rtkY) (goodIn_app (goodIn_sub in_c_vpl_X23 gd_X23) (goodIn_n)))
set_option maxRecDepth 20000 in
theorem g_c_vpl_c_rtkN_83 : GoodIn wp_c_vpl (wsV RX23 100 RX23 yX23_take wp_c_rtkY) := goodIn_app (goodIn_f [.methodLink RX23 100 yX23_take, .instanceMethod yX23_take, .selects RX23 yX23_take yX23_take, .initialized RX23] [44, 45, 46, 6] rfl (by decide +kernel)) (goodIn_app (goodIn_f (wf_c_rtkY) [43, 27, 28, 29, 30, 31, 6, 21, 18, 16, 22, 23, 24, 34, 35, 36, 37, 38, 39] rfl wg_c_rtkY) (goodIn_app (goodIn_sub in_c_vpl_X23 gd_X23) (goodIn_n)))
set_option maxRecDepth 20000 in
theorem g_c_vpl_c_rtkB_83 : GoodIn wp_c_vpl (wsV RX23 100 RX23 yX23_take wp_c_rtkY) := goodIn_app (goodIn_f [.methodLink RX23 100 yX23_take, .instanceMethod yX23_take, .selects RX23 yX23_take yX23_take, .initialized RX23] [44, 45, 46, 6] rfl (by decide +kernel)) (goodIn_app (goodIn_f (wf_c_rtkY) [43, 27, 28, 29, 30, 31, 6, 21, 18, 16, 22, 23, 24, 34, 35, 36, 37, 38, 39] rfl wg_c_rtkY) (goodIn_app (goodIn_sub in_c_vpl_X23 gd_X23) (goodIn_n)))
set_option maxRecDepth 20000 in
theorem g_c_vpl_c_rokB_14 : GoodIn wp_c_vpl (wsV RX23 89 RX23 yX23_ok wp_c_rok0) := goodIn_app (goodIn_f [.methodLink RX23 89 yX23_ok, .instanceMethod yX23_ok, .selects RX23 yX23_ok yX23_ok, .initialized RX23] [29, 30, 31, 6] rfl (by decide +kernel)) (goodIn_app (goodIn_f (wf_c_rok0) [27, 28] rfl wg_c_rok0) (goodIn_app (goodIn_sub in_c_vpl_X23 gd_X23) (goodIn_n)))
set_option maxHeartbeats 4000000 in
set_option maxRecDepth 100000 in
theorem c_vpl (l : Launch) (dC : Nat → ClassId) (dI : Nat → Nat → Nat) (k : Nat) (ih : ∀ k1 : Nat, k = k1 + 1 → IH_gv l dC dI k1) : st_c_vpl l dC dI k := by
  intro m9 mr mv vf xl xa xi xt xn zs T pp ns vv bb kI fk fa kL kE fn L F kS kB kA kV ss sl sz hT hp hk0 hbb hvv hnk
  refine Met.ofW (cc := cX23_plain) (maxL := 2) (ret := none) (by decide) rfl ?_
  intro p e s m args below meth c s₁ B hml hv
  obtain ⟨rfl, hsz, hP, hK, hD0, hpre0, hpre1⟩ := hv
  have hx := B.exec
  have hb := B.bytes
  have hr := B.returns
  have hts := atoms_spec (ws := wp_c_vpl) B.pre
  have hown : s.vm.findClass RX23 = some m.cls := findClass_of_methodNamed B.named
  have hlocks := B.notSynchronized
  subst hsz
  replace hD := hD0.self (sz := s.heap.size)
  generalize hAe : va_A (([(ss, .inr (19, [.int 0, .int (nI pp), .int 0, .int 0, .int 0, .null, .null, .null, .null, .null, .null, .null, .null, .int 0])), (m9, .inr (23, mA mr mv vf xl (nI zs) 0 xa (nI T) (nI pp) xi xt xn (nI ns) (nI vv) (nI bb))), (mr 5, .inl (kI, 3002, .inl fk)), (mr 6, .inl (kI, 3002, .inl fa)), (mr 8, .inl (kL, 3002, .inr (.inl fn)))] : va_W) ++ (sT L F)) s.heap.size = A at hD ⊢
  have hA : ∀ q : Nat, s.heap.size ≤ q → A q := fun q h => by rw [← hAe]; exact Or.inr h
  have hS : va_S A s.heap s.heap [] := va_S.rf
  replace hP : va_P (dC, dI) vwCl (([(ss, .inr (19, [.int 0, .int (nI pp), .int 0, .int 0, .int 0, .null, .null, .null, .null, .null, .null, .null, .null, .int 0])), (m9, .inr (23, mA mr mv vf xl (nI zs) 0 xa (nI T) (nI pp) xi xt xn (nI ns) (nI vv) (nI bb))), (mr 5, .inl (kI, 3002, .inl fk)), (mr 6, .inl (kI, 3002, .inl fa)), (mr 8, .inl (kL, 3002, .inr (.inl fn)))] : va_W) ++ (sT L F)) s.heap := hP
  replace hl := lv_entry ([.ref m9, .ref ss]) (n := 2) (Nat.le_of_ble_eq_true rfl)
  rw [lg_entry_eq]
  generalize (lg_sl ([.ref m9, .ref ss]) ++ List.replicate (2 - (lg_sl ([.ref m9, .ref ss])).length) Slot.unset).toArray = ls at hl ⊢
  replace hl : lv_has ls 2 [(0, .ref m9), (1, .ref ss)] := hl
  have hns := hpre0
  subst hpre1
  refine lv_aload_n hx hb dX23_plain_0 rfl (lv_at hl 1 rfl) ?_
  refine lv_iconst (v := 1) hx hb dX23_plain_1 (by decide) ?_
  refine va_put (D := (dC, dI)) (ci := 19) (v := .int 1) (ty := .int) (C := RX19) (T := TX19) (N := 14) hx hb hts in_c_vpl_X19 tyX19 tyX19_ok nmX19 hown hK hP hD hS 0 rfl rfl 0 (by decide) (hts (.fieldLink RX23 263 "OwnedPlacesModel$Statement" "kind" "I") (wm_c_vpl 1 rfl)) (fun _ h9 => h9) rfl (by decide +kernel) rfl rfl (Nat.le_of_ble_eq_true rfl) dX23_plain_2 (fun H locs hP hD hS => ?_)
  replace hP : va_P (dC, dI) vwCl (([(ss, .inr (19, [.int 1, .int (nI pp), .int 0, .int 0, .int 0, .null, .null, .null, .null, .null, .null, .null, .null, .int 0])), (m9, .inr (23, mA mr mv vf xl (nI zs) 0 xa (nI T) (nI pp) xi xt xn (nI ns) (nI vv) (nI bb))), (mr 5, .inl (kI, 3002, .inl fk)), (mr 6, .inl (kI, 3002, .inl fa)), (mr 8, .inl (kL, 3002, .inr (.inl fn)))] : va_W) ++ (sT L F)) H := hP
  replace hD : va_D A (([(ss, .inr (19, [.int 1, .int (nI pp), .int 0, .int 0, .int 0, .null, .null, .null, .null, .null, .null, .null, .null, .int 0])), (m9, .inr (23, mA mr mv vf xl (nI zs) 0 xa (nI T) (nI pp) xi xt xn (nI ns) (nI vv) (nI bb))), (mr 5, .inl (kI, 3002, .inl fk)), (mr 6, .inl (kI, 3002, .inl fa)), (mr 8, .inl (kL, 3002, .inr (.inl fn)))] : va_W) ++ (sT L F)) := hD
  refine lv_aload_n hx hb dX23_plain_5 rfl (lv_at hl 1 rfl) ?_
  refine lv_aload_n hx hb dX23_plain_6 rfl (lv_at hl 0 rfl) ?_
  replace hPc := hP.subT (f' := [(m9, .inr (23, mA mr mv vf xl (nI zs) 0 xa (nI T) (nI pp) xi xt xn (nI ns) (nI vv) (nI bb))), (mr 5, .inl (kI, 3002, .inl fk)), (mr 6, .inl (kI, 3002, .inl fa)), (mr 8, .inl (kL, 3002, .inr (.inl fn)))]) [1, 2, 3, 4] rfl
  replace hDc := hD.subT (f' := [(m9, .inr (23, mA mr mv vf xl (nI zs) 0 xa (nI T) (nI pp) xi xt xn (nI ns) (nI vv) (nI bb))), (mr 5, .inl (kI, 3002, .inl fk)), (mr 6, .inl (kI, 3002, .inl fa)), (mr 8, .inl (kL, 3002, .inr (.inl fn)))]) [1, 2, 3, 4] (by decide) rfl
  replace hKc := hK.sub (tys' := [(kI, .int), (kL, .long), (kE, .object RX15)]) [0, 1, 2] rfl
  replace hFc := va_freeB (wc := [(m9, .inr (23, mA mr mv vf xl (nI zs) 0 xa (nI T) (nI pp) xi xt xn (nI ns) (nI vv) (nI bb))), (mr 5, .inl (kI, 3002, .inl fk)), (mr 6, .inl (kI, 3002, .inl fa)), (mr 8, .inl (kL, 3002, .inr (.inl fn)))]) hD hS hA [1, 2, 3, 4] rfl
  refine W.grow (fun hgs0 hgs1 => ?_)
  refine va_callr (va_runV (As := []) (rest := [.ref ss]) ⟨hx, hb, hml, hown, hts⟩ (c_xexA l dC dI k m9 mr mv vf xl xa xi xt xn zs T pp ns vv bb kI fk fa kL kE fn L F (slN H) H.size hT hp hk0 hbb (by omega)) (cwV 0 hts g_c_vpl_c_xex_7 rfl rfl rfl (by decide +kernel) ⟨by show 13 + 12 * k + 1 ≤ 14 + 14 * k; omega, by show 8 + (1 + 11) + (302 + 279 * k) ≤ 322 + 323 * k; omega⟩) ⟨fun a U g mk q => by obtain ⟨q0, q1, qP, qK, qD, qx0, qx1⟩ := q; exact ⟨q0, q1, qP, va_K.moved (u := U) (U := U.calling g mk a) (Vm.Alike.refl U.vm) qK, qD, nsM.same (u := U) (U := U.calling g mk a) rfl qx0, qx1⟩, va_recv hKc hPc (ci := 23) (q0 := 0) rfl rfl, fun U hU hW => ⟨rfl, by rw [hU], by rw [hU]; exact hPc, va_K.moved hW.alike hKc, hDc.weaken (fun _ _ _ _ => trivial), nsM.warm hW hns, by rw [hU]⟩⟩ rfl rfl hl.1 rfl (lv_room (Nat.le_of_ble_eq_true rfl)) dX23_plain_7 ⟨(show 0 + (8 * (T - pp) + 8) ≤ (8 * (T - pp) + 14) by omega), (show 0 + (120 * (T - pp) + 360) ≤ (120 * (T - pp) + 480) by omega)⟩) hS (fun q _ h => hFc q h) hFc (fun u r_1 tS H1 locs ht hvm hw hB hz1 hk1 hS => ?_)
  obtain ⟨L0, F0, ff0, xa0, pp0, bb0, hf1_0, hf1_1, hf1_2, hf1_3, hP1, hK1, hD1⟩ := hB
  rw [ht] at hP1
  replace hK1 := va_K.moved hvm.symm hK1
  rw [ht] at hf1_3
  have hgz : H1.size ≤ s.heap.size + (8 * (pp0 - pp) + 3) ∧ slN H1 ≤ slN s.heap + (120 * (pp0 - pp) + 48) := ⟨by have := hf1_3.1; omega, by have := hf1_3.2; omega⟩
  obtain ⟨hPj, hDj⟩ := va_joinB (wr := [(ss, .inr (19, [.int 1, .int (nI pp), .int 0, .int 0, .int 0, .null, .null, .null, .null, .null, .null, .null, .null, .int 0]))]) (w1 := [(m9, .inr (23, mA mr mv vf xl (nI zs) ff0 xa0 (nI T) (nI pp0) xi xt xn (nI ns) (nI vv) (nI bb0))), (mr 5, .inl (kI, 3002, .inl fk)), (mr 6, .inl (kI, 3002, .inl fa)), (mr 8, .inl (kL, 3002, .inr (.inl fn)))]) hP hD [1, 2, 3, 4] [0] rfl rfl (by decide) (by decide) hk1 hFc hP1 hD1
  replace hP := hPj
  replace hD := hDj
  clear hPj hDj
  replace hK := hK.app hK1
  generalize H1 = H at hP hS hgz ⊢
  replace hP : va_P (dC, dI) vwCl (([(ss, .inr (19, [.int 1, .int (nI pp), .int 0, .int 0, .int 0, .null, .null, .null, .null, .null, .null, .null, .null, .int 0])), (m9, .inr (23, mA mr mv vf xl (nI zs) ff0 xa0 (nI T) (nI pp0) xi xt xn (nI ns) (nI vv) (nI bb0))), (mr 5, .inl (kI, 3002, .inl fk)), (mr 6, .inl (kI, 3002, .inl fa)), (mr 8, .inl (kL, 3002, .inr (.inl fn)))] : va_W) ++ (sT L0 F0)) H := hP
  replace hD : va_D A (([(ss, .inr (19, [.int 1, .int (nI pp), .int 0, .int 0, .int 0, .null, .null, .null, .null, .null, .null, .null, .null, .int 0])), (m9, .inr (23, mA mr mv vf xl (nI zs) ff0 xa0 (nI T) (nI pp0) xi xt xn (nI ns) (nI vv) (nI bb0))), (mr 5, .inl (kI, 3002, .inl fk)), (mr 6, .inl (kI, 3002, .inl fa)), (mr 8, .inl (kL, 3002, .inr (.inl fn)))] : va_W) ++ (sT L0 F0)) := hD
  replace hK : va_K (dC, dI) vwCl [(kI, .int), (kL, .long), (kE, .object RX15), (kS, .object RX19), (kB, .object RX14), (kA, .object RX13), (kV, .object RX21), (kI, .int), (kL, .long), (kE, .object RX15)] s := hK
  replace hK := hK.sub (tys' := [(kI, .int), (kL, .long), (kE, .object RX15), (kS, .object RX19), (kB, .object RX14), (kA, .object RX13), (kV, .object RX21)]) [0, 1, 2, 3, 4, 5, 6] rfl
  refine W.tight (k := 8 * (pp0 - pp) + 3) (n := 120 * (pp0 - pp) + 48) hgz.1 hgz.2 ?_
  clear hz1 hk1 hPc hDc hKc hFc hP1 hD1 hK1
  refine va_put (D := (dC, dI)) (ci := 19) (v := .ref r_1) (ty := (.object "OwnedPlacesModel$Exp")) (C := RX19) (T := TX19) (N := 14) hx hb hts in_c_vpl_X19 tyX19 tyX19_ok nmX19 hown hK hP hD hS 0 rfl rfl 6 (by decide) (hts (.fieldLink RX23 268 "OwnedPlacesModel$Statement" "exp" "LOwnedPlacesModel$Exp;") (wm_c_vpl 104 rfl)) (fun _ h9 => h9) rfl (by decide +kernel) rfl rfl (Nat.le_of_ble_eq_true rfl) dX23_plain_10 (fun H locs hP hD hS => ?_)
  replace hP : va_P (dC, dI) vwCl (([(ss, .inr (19, [.int 1, .int (nI pp), .int 0, .int 0, .int 0, .null, .ref r_1, .null, .null, .null, .null, .null, .null, .int 0])), (m9, .inr (23, mA mr mv vf xl (nI zs) ff0 xa0 (nI T) (nI pp0) xi xt xn (nI ns) (nI vv) (nI bb0))), (mr 5, .inl (kI, 3002, .inl fk)), (mr 6, .inl (kI, 3002, .inl fa)), (mr 8, .inl (kL, 3002, .inr (.inl fn)))] : va_W) ++ (sT L0 F0)) H := hP
  replace hD : va_D A (([(ss, .inr (19, [.int 1, .int (nI pp), .int 0, .int 0, .int 0, .null, .ref r_1, .null, .null, .null, .null, .null, .null, .int 0])), (m9, .inr (23, mA mr mv vf xl (nI zs) ff0 xa0 (nI T) (nI pp0) xi xt xn (nI ns) (nI vv) (nI bb0))), (mr 5, .inl (kI, 3002, .inl fk)), (mr 6, .inl (kI, 3002, .inl fa)), (mr 8, .inl (kL, 3002, .inr (.inl fn)))] : va_W) ++ (sT L0 F0)) := hD
  refine lv_aload_n hx hb dX23_plain_13 rfl (lv_at hl 0 rfl) ?_
  by_cases hz_2 : ff0 = 0
  · subst hz_2
    have hg0 := hf1_2 rfl
    have hlthg0 := (isE_mem hg0.2).2
    replace hPc := hP.subF (f' := [(m9, .inr (23, mA mr mv vf xl (nI zs) 0 xa0 (nI T) (nI pp0) xi xt xn (nI ns) (nI vv) (nI bb0)))]) [1] rfl
    replace hDc := hD.subF (f' := [(m9, .inr (23, mA mr mv vf xl (nI zs) 0 xa0 (nI T) (nI pp0) xi xt xn (nI ns) (nI vv) (nI bb0)))]) [1] (by decide) rfl
    replace hKc := hK.sub (tys' := []) [] rfl
    replace hFc := va_freeT (wc := [(m9, .inr (23, mA mr mv vf xl (nI zs) 0 xa0 (nI T) (nI pp0) xi xt xn (nI ns) (nI vv) (nI bb0)))]) hD hS hA [1] rfl
    refine va_calli (va_runV (As := []) (rest := []) ⟨hx, hb, hml, hown, hts⟩ (c_rok0 l dC dI m9 mr mv vf xl xa0 xi xt xn zs T pp0 ns vv bb0 kI fk fa H.size) (cwV 0 hts g_c_vpl_c_rok0_14 rfl rfl rfl (by decide +kernel) ⟨by show 0 + 1 ≤ 14 + 14 * k; omega, by show 8 + (1 + 11) + (0) ≤ 322 + 323 * k; omega⟩) ⟨fun a U g mk q => by obtain ⟨q0, q1, qP, qK, qD⟩ := q; exact ⟨q0, q1, qP, va_K.moved (u := U) (U := U.calling g mk a) (Vm.Alike.refl U.vm) qK, qD⟩, va_recv hKc hPc (ci := 23) (q0 := 0) rfl rfl, fun U hU hW => ⟨rfl, by rw [hU], by rw [hU]; exact hPc, va_K.moved hW.alike hKc, hDc.weaken (fun _ _ _ _ => trivial)⟩⟩ rfl rfl hl.1 rfl (lv_room (Nat.le_of_ble_eq_true rfl)) dX23_plain_14 ⟨(show 8 * (pp0 - pp) + 3 + 0 ≤ (8 * (T - pp) + 14) by omega), (show 120 * (pp0 - pp) + 48 + 0 ≤ (120 * (T - pp) + 480) by omega)⟩) hS (fun q _ h => hFc q h) hFc (fun r_3 u tS H1 locs ht hvm hw hB hz1 hk1 hS => ?_)
    obtain ⟨hP1, hK1, hD1⟩ := hB
    rw [ht] at hP1
    replace hK1 := va_K.moved hvm.symm hK1
    obtain ⟨hPj, hDj⟩ := va_joinT (wr := [(ss, .inr (19, [.int 1, .int (nI pp), .int 0, .int 0, .int 0, .null, .ref r_1, .null, .null, .null, .null, .null, .null, .int 0])), (mr 5, .inl (kI, 3002, .inl fk)), (mr 6, .inl (kI, 3002, .inl fa)), (mr 8, .inl (kL, 3002, .inr (.inl fn)))]) (w1 := [(m9, .inr (23, mA mr mv vf xl (nI zs) 0 xa0 (nI T) (nI pp0) xi xt xn (nI ns) (nI vv) (nI bb0)))]) hP hD [1] [0, 2, 3, 4] rfl rfl (by decide) (by decide) hk1 hFc hP1 hD1
    replace hP := hPj
    replace hD := hDj
    clear hPj hDj
    generalize H1 = H at hP hS ⊢
    replace hP : va_P (dC, dI) vwCl (([(ss, .inr (19, [.int 1, .int (nI pp), .int 0, .int 0, .int 0, .null, .ref r_1, .null, .null, .null, .null, .null, .null, .int 0])), (mr 5, .inl (kI, 3002, .inl fk)), (mr 6, .inl (kI, 3002, .inl fa)), (mr 8, .inl (kL, 3002, .inr (.inl fn))), (m9, .inr (23, mA mr mv vf xl (nI zs) 0 xa0 (nI T) (nI pp0) xi xt xn (nI ns) (nI vv) (nI bb0)))] : va_W) ++ (sT L0 F0)) H := hP
    replace hD : va_D A (([(ss, .inr (19, [.int 1, .int (nI pp), .int 0, .int 0, .int 0, .null, .ref r_1, .null, .null, .null, .null, .null, .null, .int 0])), (mr 5, .inl (kI, 3002, .inl fk)), (mr 6, .inl (kI, 3002, .inl fa)), (mr 8, .inl (kL, 3002, .inr (.inl fn))), (m9, .inr (23, mA mr mv vf xl (nI zs) 0 xa0 (nI T) (nI pp0) xi xt xn (nI ns) (nI vv) (nI bb0)))] : va_W) ++ (sT L0 F0)) := hD
    replace hK : va_K (dC, dI) vwCl [(kI, .int), (kL, .long), (kE, .object RX15), (kS, .object RX19), (kB, .object RX14), (kA, .object RX13), (kV, .object RX21)] s := hK
    clear hz1 hk1 hPc hDc hKc hFc hP1 hD1 hK1
    obtain rfl : r_3 = 1 := hw
    refine lv_if_eq (tgt := 80) hx hb dX23_plain_17 (by decide) (fun c_4 => absurd c_4 (by decide)) (fun _ => ?_)
    refine lv_aload_n hx hb dX23_plain_20 rfl (lv_at hl 0 rfl) ?_
    refine lv_bipush (v := 54) hx hb dX23_plain_21 (by decide) ?_
    by_cases hk_5 : fk pp0 = 54
    · replace hPc := hP.subF (f' := [(m9, .inr (23, mA mr mv vf xl (nI zs) 0 xa0 (nI T) (nI pp0) xi xt xn (nI ns) (nI vv) (nI bb0))), (mr 5, .inl (kI, 3002, .inl fk))]) [4, 1] rfl
      replace hDc := hD.subF (f' := [(m9, .inr (23, mA mr mv vf xl (nI zs) 0 xa0 (nI T) (nI pp0) xi xt xn (nI ns) (nI vv) (nI bb0))), (mr 5, .inl (kI, 3002, .inl fk))]) [4, 1] (by decide) rfl
      replace hKc := hK.sub (tys' := [(kI, .int)]) [0] rfl
      replace hFc := va_freeT (wc := [(m9, .inr (23, mA mr mv vf xl (nI zs) 0 xa0 (nI T) (nI pp0) xi xt xn (nI ns) (nI vv) (nI bb0))), (mr 5, .inl (kI, 3002, .inl fk))]) hD hS hA [4, 1] rfl
      refine va_calli (va_runV (As := [.int 54]) (rest := []) ⟨hx, hb, hml, hown, hts⟩ (c_risY l dC dI m9 mr mv vf xl xa0 xi xt xn zs T pp0 ns vv bb0 kI fk fa 0 54 H.size hT hf1_1.2.1 hk_5) (cwV 1 hts g_c_vpl_c_risY_23 rfl rfl rfl (by decide +kernel) ⟨by show 0 + 1 ≤ 14 + 14 * k; omega, by show 8 + (2 + 11) + (0) ≤ 322 + 323 * k; omega⟩) ⟨fun a U g mk q => by obtain ⟨q0, q1, qP, qK, qD⟩ := q; exact ⟨q0, q1, qP, va_K.moved (u := U) (U := U.calling g mk a) (Vm.Alike.refl U.vm) qK, qD⟩, va_recv hKc hPc (ci := 23) (q0 := 0) rfl rfl, fun U hU hW => ⟨rfl, by rw [hU], by rw [hU]; exact hPc, va_K.moved hW.alike hKc, hDc.weaken (fun _ _ _ _ => trivial)⟩⟩ rfl rfl hl.1 rfl (lv_room (Nat.le_of_ble_eq_true rfl)) dX23_plain_23 ⟨(show 8 * (pp0 - pp) + 3 + 0 ≤ (8 * (T - pp) + 14) by omega), (show 120 * (pp0 - pp) + 48 + 0 ≤ (120 * (T - pp) + 480) by omega)⟩) hS (fun q _ h => hFc q h) hFc (fun r_6 u tS H1 locs ht hvm hw hB hz1 hk1 hS => ?_)
      obtain ⟨hP1, hK1, hD1⟩ := hB
      rw [ht] at hP1
      replace hK1 := va_K.moved hvm.symm hK1
      obtain ⟨hPj, hDj⟩ := va_joinT (wr := [(ss, .inr (19, [.int 1, .int (nI pp), .int 0, .int 0, .int 0, .null, .ref r_1, .null, .null, .null, .null, .null, .null, .int 0])), (mr 6, .inl (kI, 3002, .inl fa)), (mr 8, .inl (kL, 3002, .inr (.inl fn)))]) (w1 := [(m9, .inr (23, mA mr mv vf xl (nI zs) 0 xa0 (nI T) (nI pp0) xi xt xn (nI ns) (nI vv) (nI bb0))), (mr 5, .inl (kI, 3002, .inl fk))]) hP hD [4, 1] [0, 2, 3] rfl rfl (by decide) (by decide) hk1 hFc hP1 hD1
      replace hP := hPj
      replace hD := hDj
      clear hPj hDj
      replace hK := hK.app hK1
      generalize H1 = H at hP hS ⊢
      replace hP : va_P (dC, dI) vwCl (([(ss, .inr (19, [.int 1, .int (nI pp), .int 0, .int 0, .int 0, .null, .ref r_1, .null, .null, .null, .null, .null, .null, .int 0])), (mr 6, .inl (kI, 3002, .inl fa)), (mr 8, .inl (kL, 3002, .inr (.inl fn))), (m9, .inr (23, mA mr mv vf xl (nI zs) 0 xa0 (nI T) (nI pp0) xi xt xn (nI ns) (nI vv) (nI bb0))), (mr 5, .inl (kI, 3002, .inl fk))] : va_W) ++ (sT L0 F0)) H := hP
      replace hD : va_D A (([(ss, .inr (19, [.int 1, .int (nI pp), .int 0, .int 0, .int 0, .null, .ref r_1, .null, .null, .null, .null, .null, .null, .int 0])), (mr 6, .inl (kI, 3002, .inl fa)), (mr 8, .inl (kL, 3002, .inr (.inl fn))), (m9, .inr (23, mA mr mv vf xl (nI zs) 0 xa0 (nI T) (nI pp0) xi xt xn (nI ns) (nI vv) (nI bb0))), (mr 5, .inl (kI, 3002, .inl fk))] : va_W) ++ (sT L0 F0)) := hD
      replace hK : va_K (dC, dI) vwCl [(kI, .int), (kL, .long), (kE, .object RX15), (kS, .object RX19), (kB, .object RX14), (kA, .object RX13), (kV, .object RX21), (kI, .int)] s := hK
      replace hK := hK.sub (tys' := [(kI, .int), (kL, .long), (kE, .object RX15), (kS, .object RX19), (kB, .object RX14), (kA, .object RX13), (kV, .object RX21)]) [0, 1, 2, 3, 4, 5, 6] rfl
      clear hz1 hk1 hPc hDc hKc hFc hP1 hD1 hK1
      obtain rfl : r_6 = 1 := hw
      refine lv_if_eq (tgt := 80) hx hb dX23_plain_26 (by decide) (fun c_7 => absurd c_7 (by decide)) (fun _ => ?_)
      refine lv_aload_n hx hb dX23_plain_29 rfl (lv_at hl 1 rfl) ?_
      refine va_get (D := (dC, dI)) (ci := 19) (v := .ref r_1) (C := RX19) (T := TX19) (N := 14) hx hb hts in_c_vpl_X19 hown hK hP 0 rfl rfl 6 (by decide) (hts (.fieldLink RX23 268 "OwnedPlacesModel$Statement" "exp" "LOwnedPlacesModel$Exp;") (wm_c_vpl 104 rfl)) (fun _ h9 => h9) rfl dX23_plain_30 ?_
      have hpw9 := isE_pw (isE_im exS.rf 408 (by omega) hg0.2)
      replace hPc := hP.subT (f' := []) [] rfl
      replace hDc := hD.subT (f' := []) [] (by decide) rfl
      replace hKc := hK.sub (tys' := []) [] rfl
      replace hFc := va_freeB (wc := []) hD hS hA [] rfl
      refine va_calli (va_runS (As := [.ref r_1]) (rest := []) ⟨hx, hb, hml, hown, hts⟩ (c_xip l dC dI r_1 408 L0 F0 H.size hpw9) (va_cwS 1 hts g_c_vpl_c_xip_33 rfl rfl rfl (by decide +kernel) ⟨by show 0 + 1 ≤ 14 + 14 * k; omega, by show 8 + (2 + 11) + (0) ≤ 322 + 323 * k; omega⟩) ⟨fun a U g mk q => by obtain ⟨q0, q1, qP, qK, qD⟩ := q; exact ⟨q0, q1, qP, va_K.moved (u := U) (U := U.calling g mk a) (Vm.Alike.refl U.vm) qK, qD⟩, fun U hU hW => ⟨rfl, by rw [hU], by rw [hU]; exact hPc, va_K.moved hW.alike hKc, hDc.weaken (fun _ _ _ _ => trivial)⟩⟩ rfl rfl hl.1 rfl (lv_room (Nat.le_of_ble_eq_true rfl)) dX23_plain_33 ⟨(show 8 * (pp0 - pp) + 3 + 0 ≤ (8 * (T - pp) + 14) by omega), (show 120 * (pp0 - pp) + 48 + 0 ≤ (120 * (T - pp) + 480) by omega)⟩) hS (fun q _ h => hFc q h) hFc (fun r_8 u tS H1 locs ht hvm hw hB hz1 hk1 hS => ?_)
      obtain ⟨hP1, hK1, hD1⟩ := hB
      rw [ht] at hP1
      replace hK1 := va_K.moved hvm.symm hK1
      obtain ⟨hPj, hDj⟩ := va_joinB (wr := [(ss, .inr (19, [.int 1, .int (nI pp), .int 0, .int 0, .int 0, .null, .ref r_1, .null, .null, .null, .null, .null, .null, .int 0])), (mr 6, .inl (kI, 3002, .inl fa)), (mr 8, .inl (kL, 3002, .inr (.inl fn))), (m9, .inr (23, mA mr mv vf xl (nI zs) 0 xa0 (nI T) (nI pp0) xi xt xn (nI ns) (nI vv) (nI bb0))), (mr 5, .inl (kI, 3002, .inl fk))]) (w1 := []) hP hD [] [0, 1, 2, 3, 4] rfl rfl (by decide) (by decide) hk1 hFc hP1 hD1
      replace hP := hPj
      replace hD := hDj
      clear hPj hDj
      generalize H1 = H at hP hS ⊢
      replace hP : va_P (dC, dI) vwCl (([(ss, .inr (19, [.int 1, .int (nI pp), .int 0, .int 0, .int 0, .null, .ref r_1, .null, .null, .null, .null, .null, .null, .int 0])), (mr 6, .inl (kI, 3002, .inl fa)), (mr 8, .inl (kL, 3002, .inr (.inl fn))), (m9, .inr (23, mA mr mv vf xl (nI zs) 0 xa0 (nI T) (nI pp0) xi xt xn (nI ns) (nI vv) (nI bb0))), (mr 5, .inl (kI, 3002, .inl fk))] : va_W) ++ (sT L0 F0)) H := hP
      replace hD : va_D A (([(ss, .inr (19, [.int 1, .int (nI pp), .int 0, .int 0, .int 0, .null, .ref r_1, .null, .null, .null, .null, .null, .null, .int 0])), (mr 6, .inl (kI, 3002, .inl fa)), (mr 8, .inl (kL, 3002, .inr (.inl fn))), (m9, .inr (23, mA mr mv vf xl (nI zs) 0 xa0 (nI T) (nI pp0) xi xt xn (nI ns) (nI vv) (nI bb0))), (mr 5, .inl (kI, 3002, .inl fk))] : va_W) ++ (sT L0 F0)) := hD
      replace hK : va_K (dC, dI) vwCl [(kI, .int), (kL, .long), (kE, .object RX15), (kS, .object RX19), (kB, .object RX14), (kA, .object RX13), (kV, .object RX21)] s := hK
      clear hz1 hk1 hPc hDc hKc hFc hP1 hD1 hK1
      have hpl9 := hw
      by_cases hq_9 : r_8 = 0
      · subst hq_9
        refine lv_if_ne (tgt := 49) hx hb dX23_plain_36 (by decide) (fun c_10 => absurd c_10 (by decide)) (fun _ => ?_)
        refine lv_aload_n hx hb dX23_plain_39 rfl (lv_at hl 0 rfl) ?_
        refine lv_iconst (v := 1) hx hb dX23_plain_40 (by decide) ?_
        refine lv_aload_n hx hb dX23_plain_41 rfl (lv_at hl 0 rfl) ?_
        refine va_get (D := (dC, dI)) (ci := 23) (v := .int (nI pp0)) (C := RX23) (T := TX23) (N := 89) hx hb hts in_c_vpl_X23 hown hK hP 3 rfl rfl 10 (by decide) (hts (.fieldLink RX23 86 "OwnedPlacesModel" "p" "I") (wm_c_vpl 16 rfl)) (fun _ h9 => h9) rfl dX23_plain_42 ?_
        replace hPc := hP.subF (f' := [(m9, .inr (23, mA mr mv vf xl (nI zs) 0 xa0 (nI T) (nI pp0) xi xt xn (nI ns) (nI vv) (nI bb0))), (mr 6, .inl (kI, 3002, .inl fa))]) [3, 1] rfl
        replace hDc := hD.subF (f' := [(m9, .inr (23, mA mr mv vf xl (nI zs) 0 xa0 (nI T) (nI pp0) xi xt xn (nI ns) (nI vv) (nI bb0))), (mr 6, .inl (kI, 3002, .inl fa))]) [3, 1] (by decide) rfl
        replace hKc := hK.sub (tys' := [(kI, .int)]) [0] rfl
        replace hFc := va_freeT (wc := [(m9, .inr (23, mA mr mv vf xl (nI zs) 0 xa0 (nI T) (nI pp0) xi xt xn (nI ns) (nI vv) (nI bb0))), (mr 6, .inl (kI, 3002, .inl fa))]) hD hS hA [3, 1] rfl
        refine va_callv (va_runV (As := [.int 1, .int (nI pp0)]) (rest := []) ⟨hx, hb, hml, hown, hts⟩ (c_rfa0 l dC dI m9 mr mv vf xl xa0 xi xt xn zs T pp0 ns vv bb0 kI fk fa 1 pp0 H.size (by omega)) (cwV 2 hts g_c_vpl_c_rfa0_45 rfl rfl rfl (by decide +kernel) ⟨by show 0 + 1 ≤ 14 + 14 * k; omega, by show 8 + (3 + 11) + (0) ≤ 322 + 323 * k; omega⟩) ⟨fun a U g mk q => by obtain ⟨q0, q1, qP, qK, qD⟩ := q; exact ⟨q0, q1, qP, va_K.moved (u := U) (U := U.calling g mk a) (Vm.Alike.refl U.vm) qK, qD⟩, va_recv hKc hPc (ci := 23) (q0 := 0) rfl rfl, fun U hU hW => ⟨rfl, by rw [hU], by rw [hU]; exact hPc, va_K.moved hW.alike hKc, hDc.weaken (fun _ _ _ _ => trivial)⟩⟩ rfl rfl hl.1 rfl (lv_room (Nat.le_of_ble_eq_true rfl)) dX23_plain_45 ⟨(show 8 * (pp0 - pp) + 3 + 0 ≤ (8 * (T - pp) + 14) by omega), (show 120 * (pp0 - pp) + 48 + 0 ≤ (120 * (T - pp) + 480) by omega)⟩) hS (fun q _ h => hFc q h) hFc (fun u tS H1 locs ht hvm hw hB hz1 hk1 hS => ?_)
        obtain ⟨hP1, hK1, hD1⟩ := hB
        rw [ht] at hP1
        replace hK1 := va_K.moved hvm.symm hK1
        obtain ⟨hPj, hDj⟩ := va_joinT (wr := [(ss, .inr (19, [.int 1, .int (nI pp), .int 0, .int 0, .int 0, .null, .ref r_1, .null, .null, .null, .null, .null, .null, .int 0])), (mr 8, .inl (kL, 3002, .inr (.inl fn))), (mr 5, .inl (kI, 3002, .inl fk))]) (w1 := [(m9, .inr (23, mA mr mv vf xl (nI zs) 1 (fa pp0) (nI T) (nI pp0) xi xt xn (nI ns) (nI vv) (nI bb0))), (mr 6, .inl (kI, 3002, .inl fa))]) hP hD [3, 1] [0, 2, 4] rfl rfl (by decide) (by decide) hk1 hFc hP1 hD1
        replace hP := hPj
        replace hD := hDj
        clear hPj hDj
        replace hK := hK.app hK1
        generalize H1 = H at hP hS ⊢
        replace hP : va_P (dC, dI) vwCl (([(ss, .inr (19, [.int 1, .int (nI pp), .int 0, .int 0, .int 0, .null, .ref r_1, .null, .null, .null, .null, .null, .null, .int 0])), (mr 8, .inl (kL, 3002, .inr (.inl fn))), (mr 5, .inl (kI, 3002, .inl fk)), (m9, .inr (23, mA mr mv vf xl (nI zs) 1 (fa pp0) (nI T) (nI pp0) xi xt xn (nI ns) (nI vv) (nI bb0))), (mr 6, .inl (kI, 3002, .inl fa))] : va_W) ++ (sT L0 F0)) H := hP
        replace hD : va_D A (([(ss, .inr (19, [.int 1, .int (nI pp), .int 0, .int 0, .int 0, .null, .ref r_1, .null, .null, .null, .null, .null, .null, .int 0])), (mr 8, .inl (kL, 3002, .inr (.inl fn))), (mr 5, .inl (kI, 3002, .inl fk)), (m9, .inr (23, mA mr mv vf xl (nI zs) 1 (fa pp0) (nI T) (nI pp0) xi xt xn (nI ns) (nI vv) (nI bb0))), (mr 6, .inl (kI, 3002, .inl fa))] : va_W) ++ (sT L0 F0)) := hD
        replace hK : va_K (dC, dI) vwCl [(kI, .int), (kL, .long), (kE, .object RX15), (kS, .object RX19), (kB, .object RX14), (kA, .object RX13), (kV, .object RX21), (kI, .int)] s := hK
        replace hK := hK.sub (tys' := [(kI, .int), (kL, .long), (kE, .object RX15), (kS, .object RX19), (kB, .object RX14), (kA, .object RX13), (kV, .object RX21)]) [0, 1, 2, 3, 4, 5, 6] rfl
        clear hz1 hk1 hPc hDc hKc hFc hP1 hD1 hK1
        obtain ⟨fq11, efq11⟩ : ∃ zZ : Int32, zZ = 1 := ⟨_, rfl⟩
        obtain ⟨fx11, efx11⟩ : ∃ zZ : Int32, zZ = fa pp0 := ⟨_, rfl⟩
        rw [← efx11] at hP hD
        have hhfq11 : fq11 ≠ 0 := by rw [efq11]; decide
        replace hP : va_P (dC, dI) vwCl (([(ss, .inr (19, [.int 1, .int (nI pp), .int 0, .int 0, .int 0, .null, .ref r_1, .null, .null, .null, .null, .null, .null, .int 0])), (mr 8, .inl (kL, 3002, .inr (.inl fn))), (mr 5, .inl (kI, 3002, .inl fk)), (m9, .inr (23, mA mr mv vf xl (nI zs) fq11 fx11 (nI T) (nI pp0) xi xt xn (nI ns) (nI vv) (nI bb0))), (mr 6, .inl (kI, 3002, .inl fa))] : va_W) ++ (sT L0 F0)) H := by rw [efq11]; exact hP
        replace hD : va_D A (([(ss, .inr (19, [.int 1, .int (nI pp), .int 0, .int 0, .int 0, .null, .ref r_1, .null, .null, .null, .null, .null, .null, .int 0])), (mr 8, .inl (kL, 3002, .inr (.inl fn))), (mr 5, .inl (kI, 3002, .inl fk)), (m9, .inr (23, mA mr mv vf xl (nI zs) fq11 fx11 (nI T) (nI pp0) xi xt xn (nI ns) (nI vv) (nI bb0))), (mr 6, .inl (kI, 3002, .inl fa))] : va_W) ++ (sT L0 F0)) := by rw [efq11]; exact hD
        clear efq11 efx11
        refine W.grow (fun hgs0 hgs1 => ?_)
        have hP9 := hP.subT (f' := [(ss, .inr (19, [.int 1, .int (nI pp), .int 0, .int 0, .int 0, .null, (.ref r_1), .null, .null, .null, .null, .null, .null, .int 0])), (m9, .inr (23, mA mr mv vf xl (nI zs) fq11 fx11 (nI T) (nI pp0) xi xt xn (nI ns) (nI vv) (nI bb0))), (mr 5, .inl (kI, 3002, .inl fk)), (mr 6, .inl (kI, 3002, .inl fa)), (mr 8, .inl (kL, 3002, .inr (.inl fn)))]) [0, 3, 2, 4, 1] rfl
        have hD9 := hD.subT (f' := [(ss, .inr (19, [.int 1, .int (nI pp), .int 0, .int 0, .int 0, .null, (.ref r_1), .null, .null, .null, .null, .null, .null, .int 0])), (m9, .inr (23, mA mr mv vf xl (nI zs) fq11 fx11 (nI T) (nI pp0) xi xt xn (nI ns) (nI vv) (nI bb0))), (mr 5, .inl (kI, 3002, .inl fk)), (mr 6, .inl (kI, 3002, .inl fa)), (mr 8, .inl (kL, 3002, .inr (.inl fn)))]) [0, 3, 2, 4, 1] (by decide) rfl
        have hK9 := hK.sub (tys' := [(kI, .int), (kL, .long), (kE, .object RX15), (kS, .object RX19), (kB, .object RX14), (kA, .object RX13), (kV, .object RX21)]) [0, 1, 2, 3, 4, 5, 6] rfl
        refine W.widen (k := (8 * (T - pp) + 14)) (n := (120 * (T - pp) + 480)) (by omega) (by omega) ?_
        exact W.vret hx hb hr (fun tS ht hW => ⟨⟨(), rfl, trivial, L0, F0, fq11, fx11, pp0, bb0, vv, 1, 1, .ref r_1, .null, hf1_0.1, ⟨by omega, by omega, by omega, by omega, by omega, by omega⟩, ⟨by omega, fun q9 => absurd q9 hhfq11⟩, (fun q9 => absurd q9 hhfq11), by rw [ht]; exact ⟨by omega, by omega⟩, by rw [ht]; exact hP9, va_K.moved hW.alike hK9, hD9⟩, hS.F ht⟩) hS.2.2 dX23_plain_48
      · obtain rfl : r_8 = 1 := hpl9.1.resolve_left hq_9
        have hpl := hpl9.2.mp rfl
        refine lv_if_ne (tgt := 49) hx hb dX23_plain_36 (by decide) (fun _ => ?_) (fun c_10 => absurd c_10 (by decide))
        refine lv_aload_n hx hb dX23_plain_49 rfl (lv_at hl 0 rfl) ?_
        refine lv_dup hx hb dX23_plain_50 rfl ?_
        refine va_get (D := (dC, dI)) (ci := 23) (v := .int (nI pp0)) (C := RX23) (T := TX23) (N := 89) hx hb hts in_c_vpl_X23 hown hK hP 3 rfl rfl 10 (by decide) (hts (.fieldLink RX23 86 "OwnedPlacesModel" "p" "I") (wm_c_vpl 16 rfl)) (fun _ h9 => h9) rfl dX23_plain_51 ?_
        refine lv_iconst (v := 1) hx hb dX23_plain_54 (by decide) ?_
        refine lv_iadd hx hb dX23_plain_55 ?_
        refine lv_topi (fun f_11 ef_11 => ?_)
        obtain rfl : f_11 = nI (pp0 + 1) := ef_11.trans (nI_1 _)
        refine va_put (D := (dC, dI)) (ci := 23) (v := .int (nI (pp0 + 1))) (ty := .int) (C := RX23) (T := TX23) (N := 89) hx hb hts in_c_vpl_X23 tyX23 tyX23_ok nmX23 hown hK hP hD hS 3 rfl rfl 10 (by decide) (hts (.fieldLink RX23 86 "OwnedPlacesModel" "p" "I") (wm_c_vpl 16 rfl)) (fun _ h9 => h9) rfl (by decide +kernel) rfl rfl (Nat.le_of_ble_eq_true rfl) dX23_plain_56 (fun H locs hP hD hS => ?_)
        replace hP : va_P (dC, dI) vwCl (([(ss, .inr (19, [.int 1, .int (nI pp), .int 0, .int 0, .int 0, .null, .ref r_1, .null, .null, .null, .null, .null, .null, .int 0])), (mr 6, .inl (kI, 3002, .inl fa)), (mr 8, .inl (kL, 3002, .inr (.inl fn))), (m9, .inr (23, mA mr mv vf xl (nI zs) 0 xa0 (nI T) (nI (pp0 + 1)) xi xt xn (nI ns) (nI vv) (nI bb0))), (mr 5, .inl (kI, 3002, .inl fk))] : va_W) ++ (sT L0 F0)) H := hP
        replace hD : va_D A (([(ss, .inr (19, [.int 1, .int (nI pp), .int 0, .int 0, .int 0, .null, .ref r_1, .null, .null, .null, .null, .null, .null, .int 0])), (mr 6, .inl (kI, 3002, .inl fa)), (mr 8, .inl (kL, 3002, .inr (.inl fn))), (m9, .inr (23, mA mr mv vf xl (nI zs) 0 xa0 (nI T) (nI (pp0 + 1)) xi xt xn (nI ns) (nI vv) (nI bb0))), (mr 5, .inl (kI, 3002, .inl fk))] : va_W) ++ (sT L0 F0)) := hD
        have hp_12 : pp0 + 1 < T := kne3 hk0 hf1_1.2.1 hk_5 (by decide)
        refine lv_aload_n hx hb dX23_plain_59 rfl (lv_at hl 1 rfl) ?_
        refine lv_iconst (v := 2) hx hb dX23_plain_60 (by decide) ?_
        refine va_put (D := (dC, dI)) (ci := 19) (v := .int 2) (ty := .int) (C := RX19) (T := TX19) (N := 14) hx hb hts in_c_vpl_X19 tyX19 tyX19_ok nmX19 hown hK hP hD hS 0 rfl rfl 0 (by decide) (hts (.fieldLink RX23 263 "OwnedPlacesModel$Statement" "kind" "I") (wm_c_vpl 1 rfl)) (fun _ h9 => h9) rfl (by decide +kernel) rfl rfl (Nat.le_of_ble_eq_true rfl) dX23_plain_61 (fun H locs hP hD hS => ?_)
        replace hP : va_P (dC, dI) vwCl (([(ss, .inr (19, [.int 2, .int (nI pp), .int 0, .int 0, .int 0, .null, .ref r_1, .null, .null, .null, .null, .null, .null, .int 0])), (mr 6, .inl (kI, 3002, .inl fa)), (mr 8, .inl (kL, 3002, .inr (.inl fn))), (m9, .inr (23, mA mr mv vf xl (nI zs) 0 xa0 (nI T) (nI (pp0 + 1)) xi xt xn (nI ns) (nI vv) (nI bb0))), (mr 5, .inl (kI, 3002, .inl fk))] : va_W) ++ (sT L0 F0)) H := hP
        replace hD : va_D A (([(ss, .inr (19, [.int 2, .int (nI pp), .int 0, .int 0, .int 0, .null, .ref r_1, .null, .null, .null, .null, .null, .null, .int 0])), (mr 6, .inl (kI, 3002, .inl fa)), (mr 8, .inl (kL, 3002, .inr (.inl fn))), (m9, .inr (23, mA mr mv vf xl (nI zs) 0 xa0 (nI T) (nI (pp0 + 1)) xi xt xn (nI ns) (nI vv) (nI bb0))), (mr 5, .inl (kI, 3002, .inl fk))] : va_W) ++ (sT L0 F0)) := hD
        refine lv_aload_n hx hb dX23_plain_64 rfl (lv_at hl 1 rfl) ?_
        refine lv_aload_n hx hb dX23_plain_65 rfl (lv_at hl 1 rfl) ?_
        refine va_get (D := (dC, dI)) (ci := 19) (v := .ref r_1) (C := RX19) (T := TX19) (N := 14) hx hb hts in_c_vpl_X19 hown hK hP 0 rfl rfl 6 (by decide) (hts (.fieldLink RX23 268 "OwnedPlacesModel$Statement" "exp" "LOwnedPlacesModel$Exp;") (wm_c_vpl 104 rfl)) (fun _ h9 => h9) rfl dX23_plain_66 ?_
        refine va_put (D := (dC, dI)) (ci := 19) (v := .ref r_1) (ty := (.object "OwnedPlacesModel$Exp")) (C := RX19) (T := TX19) (N := 14) hx hb hts in_c_vpl_X19 tyX19 tyX19_ok nmX19 hown hK hP hD hS 0 rfl rfl 7 (by decide) (hts (.fieldLink RX23 292 "OwnedPlacesModel$Statement" "place" "LOwnedPlacesModel$Exp;") (wm_c_vpl 108 rfl)) (fun _ h9 => h9) rfl (by decide +kernel) rfl rfl (Nat.le_of_ble_eq_true rfl) dX23_plain_69 (fun H locs hP hD hS => ?_)
        replace hP : va_P (dC, dI) vwCl (([(ss, .inr (19, [.int 2, .int (nI pp), .int 0, .int 0, .int 0, .null, .ref r_1, .ref r_1, .null, .null, .null, .null, .null, .int 0])), (mr 6, .inl (kI, 3002, .inl fa)), (mr 8, .inl (kL, 3002, .inr (.inl fn))), (m9, .inr (23, mA mr mv vf xl (nI zs) 0 xa0 (nI T) (nI (pp0 + 1)) xi xt xn (nI ns) (nI vv) (nI bb0))), (mr 5, .inl (kI, 3002, .inl fk))] : va_W) ++ (sT L0 F0)) H := hP
        replace hD : va_D A (([(ss, .inr (19, [.int 2, .int (nI pp), .int 0, .int 0, .int 0, .null, .ref r_1, .ref r_1, .null, .null, .null, .null, .null, .int 0])), (mr 6, .inl (kI, 3002, .inl fa)), (mr 8, .inl (kL, 3002, .inr (.inl fn))), (m9, .inr (23, mA mr mv vf xl (nI zs) 0 xa0 (nI T) (nI (pp0 + 1)) xi xt xn (nI ns) (nI vv) (nI bb0))), (mr 5, .inl (kI, 3002, .inl fk))] : va_W) ++ (sT L0 F0)) := hD
        refine lv_aload_n hx hb dX23_plain_72 rfl (lv_at hl 1 rfl) ?_
        refine lv_aload_n hx hb dX23_plain_73 rfl (lv_at hl 0 rfl) ?_
        replace hPc := hP.subT (f' := [(m9, .inr (23, mA mr mv vf xl (nI zs) 0 xa0 (nI T) (nI (pp0 + 1)) xi xt xn (nI ns) (nI vv) (nI bb0))), (mr 5, .inl (kI, 3002, .inl fk)), (mr 6, .inl (kI, 3002, .inl fa)), (mr 8, .inl (kL, 3002, .inr (.inl fn)))]) [3, 4, 1, 2] rfl
        replace hDc := hD.subT (f' := [(m9, .inr (23, mA mr mv vf xl (nI zs) 0 xa0 (nI T) (nI (pp0 + 1)) xi xt xn (nI ns) (nI vv) (nI bb0))), (mr 5, .inl (kI, 3002, .inl fk)), (mr 6, .inl (kI, 3002, .inl fa)), (mr 8, .inl (kL, 3002, .inr (.inl fn)))]) [3, 4, 1, 2] (by decide) rfl
        replace hKc := hK.sub (tys' := [(kI, .int), (kL, .long), (kE, .object RX15)]) [0, 1, 2] rfl
        replace hFc := va_freeB (wc := [(m9, .inr (23, mA mr mv vf xl (nI zs) 0 xa0 (nI T) (nI (pp0 + 1)) xi xt xn (nI ns) (nI vv) (nI bb0))), (mr 5, .inl (kI, 3002, .inl fk)), (mr 6, .inl (kI, 3002, .inl fa)), (mr 8, .inl (kL, 3002, .inr (.inl fn)))]) hD hS hA [3, 4, 1, 2] rfl
        refine W.grow (fun hgs0 hgs1 => ?_)
        refine va_callr (va_runV (As := []) (rest := [.ref ss]) ⟨hx, hb, hml, hown, hts⟩ (c_xexA l dC dI k m9 mr mv vf xl xa0 xi xt xn zs T (pp0 + 1) ns vv bb0 kI fk fa kL kE fn L0 F0 (slN H) H.size hT hp_12 hk0 hg0.1 (by omega)) (cwV 0 hts g_c_vpl_c_xex_74 rfl rfl rfl (by decide +kernel) ⟨by show 13 + 12 * k + 1 ≤ 14 + 14 * k; omega, by show 8 + (1 + 11) + (302 + 279 * k) ≤ 322 + 323 * k; omega⟩) ⟨fun a U g mk q => by obtain ⟨q0, q1, qP, qK, qD, qx0, qx1⟩ := q; exact ⟨q0, q1, qP, va_K.moved (u := U) (U := U.calling g mk a) (Vm.Alike.refl U.vm) qK, qD, nsM.same (u := U) (U := U.calling g mk a) rfl qx0, qx1⟩, va_recv hKc hPc (ci := 23) (q0 := 0) rfl rfl, fun U hU hW => ⟨rfl, by rw [hU], by rw [hU]; exact hPc, va_K.moved hW.alike hKc, hDc.weaken (fun _ _ _ _ => trivial), nsM.warm hW hns, by rw [hU]⟩⟩ rfl rfl hl.1 rfl (lv_room (Nat.le_of_ble_eq_true rfl)) dX23_plain_74 ⟨(show 8 * (pp0 - pp) + 3 + (8 * (T - (pp0 + 1)) + 8) ≤ (8 * (T - pp) + 14) by omega), (show 120 * (pp0 - pp) + 48 + (120 * (T - (pp0 + 1)) + 360) ≤ (120 * (T - pp) + 480) by omega)⟩) hS (fun q _ h => hFc q h) hFc (fun u r_13 tS H1 locs ht hvm hw hB hz1 hk1 hS => ?_)
        obtain ⟨L12, F12, ff12, xa12, pp12, bb12, hf13_0, hf13_1, hf13_2, hf13_3, hP1, hK1, hD1⟩ := hB
        rw [ht] at hP1
        replace hK1 := va_K.moved hvm.symm hK1
        rw [ht] at hf13_3
        have hgz : H1.size ≤ s.heap.size + ((8 * (pp0 - pp) + 3 + 8 * (pp12 - (pp0 + 1)) + 3)) ∧ slN H1 ≤ slN s.heap + ((120 * (pp0 - pp) + 48 + 120 * (pp12 - (pp0 + 1)) + 48)) := ⟨by have := hf13_3.1; omega, by have := hf13_3.2; omega⟩
        obtain ⟨hPj, hDj⟩ := va_joinB (wr := [(ss, .inr (19, [.int 2, .int (nI pp), .int 0, .int 0, .int 0, .null, .ref r_1, .ref r_1, .null, .null, .null, .null, .null, .int 0]))]) (w1 := [(m9, .inr (23, mA mr mv vf xl (nI zs) ff12 xa12 (nI T) (nI pp12) xi xt xn (nI ns) (nI vv) (nI bb12))), (mr 5, .inl (kI, 3002, .inl fk)), (mr 6, .inl (kI, 3002, .inl fa)), (mr 8, .inl (kL, 3002, .inr (.inl fn)))]) hP hD [3, 4, 1, 2] [0] rfl rfl (by decide) (by decide) hk1 hFc hP1 hD1
        replace hP := hPj
        replace hD := hDj
        clear hPj hDj
        replace hK := hK.app hK1
        generalize H1 = H at hP hS hgz ⊢
        replace hP : va_P (dC, dI) vwCl (([(ss, .inr (19, [.int 2, .int (nI pp), .int 0, .int 0, .int 0, .null, .ref r_1, .ref r_1, .null, .null, .null, .null, .null, .int 0])), (m9, .inr (23, mA mr mv vf xl (nI zs) ff12 xa12 (nI T) (nI pp12) xi xt xn (nI ns) (nI vv) (nI bb12))), (mr 5, .inl (kI, 3002, .inl fk)), (mr 6, .inl (kI, 3002, .inl fa)), (mr 8, .inl (kL, 3002, .inr (.inl fn)))] : va_W) ++ (sT L12 F12)) H := hP
        replace hD : va_D A (([(ss, .inr (19, [.int 2, .int (nI pp), .int 0, .int 0, .int 0, .null, .ref r_1, .ref r_1, .null, .null, .null, .null, .null, .int 0])), (m9, .inr (23, mA mr mv vf xl (nI zs) ff12 xa12 (nI T) (nI pp12) xi xt xn (nI ns) (nI vv) (nI bb12))), (mr 5, .inl (kI, 3002, .inl fk)), (mr 6, .inl (kI, 3002, .inl fa)), (mr 8, .inl (kL, 3002, .inr (.inl fn)))] : va_W) ++ (sT L12 F12)) := hD
        replace hK : va_K (dC, dI) vwCl [(kI, .int), (kL, .long), (kE, .object RX15), (kS, .object RX19), (kB, .object RX14), (kA, .object RX13), (kV, .object RX21), (kI, .int), (kL, .long), (kE, .object RX15)] s := hK
        replace hK := hK.sub (tys' := [(kI, .int), (kL, .long), (kE, .object RX15), (kS, .object RX19), (kB, .object RX14), (kA, .object RX13), (kV, .object RX21)]) [0, 1, 2, 3, 4, 5, 6] rfl
        refine W.tight (k := (8 * (pp0 - pp) + 3 + 8 * (pp12 - (pp0 + 1)) + 3)) (n := (120 * (pp0 - pp) + 48 + 120 * (pp12 - (pp0 + 1)) + 48)) hgz.1 hgz.2 ?_
        clear hz1 hk1 hPc hDc hKc hFc hP1 hD1 hK1
        refine va_put (D := (dC, dI)) (ci := 19) (v := .ref r_13) (ty := (.object "OwnedPlacesModel$Exp")) (C := RX19) (T := TX19) (N := 14) hx hb hts in_c_vpl_X19 tyX19 tyX19_ok nmX19 hown hK hP hD hS 0 rfl rfl 6 (by decide) (hts (.fieldLink RX23 268 "OwnedPlacesModel$Statement" "exp" "LOwnedPlacesModel$Exp;") (wm_c_vpl 104 rfl)) (fun _ h9 => h9) rfl (by decide +kernel) rfl rfl (Nat.le_of_ble_eq_true rfl) dX23_plain_77 (fun H locs hP hD hS => ?_)
        replace hP : va_P (dC, dI) vwCl (([(ss, .inr (19, [.int 2, .int (nI pp), .int 0, .int 0, .int 0, .null, .ref r_13, .ref r_1, .null, .null, .null, .null, .null, .int 0])), (m9, .inr (23, mA mr mv vf xl (nI zs) ff12 xa12 (nI T) (nI pp12) xi xt xn (nI ns) (nI vv) (nI bb12))), (mr 5, .inl (kI, 3002, .inl fk)), (mr 6, .inl (kI, 3002, .inl fa)), (mr 8, .inl (kL, 3002, .inr (.inl fn)))] : va_W) ++ (sT L12 F12)) H := hP
        replace hD : va_D A (([(ss, .inr (19, [.int 2, .int (nI pp), .int 0, .int 0, .int 0, .null, .ref r_13, .ref r_1, .null, .null, .null, .null, .null, .int 0])), (m9, .inr (23, mA mr mv vf xl (nI zs) ff12 xa12 (nI T) (nI pp12) xi xt xn (nI ns) (nI vv) (nI bb12))), (mr 5, .inl (kI, 3002, .inl fk)), (mr 6, .inl (kI, 3002, .inl fa)), (mr 8, .inl (kL, 3002, .inr (.inl fn)))] : va_W) ++ (sT L12 F12)) := hD
        refine lv_aload_n hx hb dX23_plain_80 rfl (lv_at hl 0 rfl) ?_
        refine lv_bipush (v := 60) hx hb dX23_plain_81 (by decide) ?_
        by_cases hz_14 : ff12 = 0
        · subst hz_14
          have hg12 := hf13_2 rfl
          have hlthg12 := (isE_mem hg12.2).2
          by_cases hk_15 : fk pp12 = 60
          · replace hPc := hP.subF (f' := [(m9, .inr (23, mA mr mv vf xl (nI zs) 0 xa12 (nI T) (nI pp12) xi xt xn (nI ns) (nI vv) (nI bb12))), (mr 5, .inl (kI, 3002, .inl fk)), (mr 6, .inl (kI, 3002, .inl fa))]) [1, 2, 3] rfl
            replace hDc := hD.subF (f' := [(m9, .inr (23, mA mr mv vf xl (nI zs) 0 xa12 (nI T) (nI pp12) xi xt xn (nI ns) (nI vv) (nI bb12))), (mr 5, .inl (kI, 3002, .inl fk)), (mr 6, .inl (kI, 3002, .inl fa))]) [1, 2, 3] (by decide) rfl
            replace hKc := hK.sub (tys' := [(kI, .int)]) [0] rfl
            replace hFc := va_freeT (wc := [(m9, .inr (23, mA mr mv vf xl (nI zs) 0 xa12 (nI T) (nI pp12) xi xt xn (nI ns) (nI vv) (nI bb12))), (mr 5, .inl (kI, 3002, .inl fk)), (mr 6, .inl (kI, 3002, .inl fa))]) hD hS hA [1, 2, 3] rfl
            refine va_callv (va_runV (As := [.int 60]) (rest := []) ⟨hx, hb, hml, hown, hts⟩ (c_rtkY l dC dI m9 mr mv vf xl xa12 xi xt xn zs T pp12 ns vv bb12 kI fk fa 60 H.size hT hf13_1.2.1 hk0 (by decide) hk_15) (cwV 1 hts g_c_vpl_c_rtkY_83 rfl rfl rfl (by decide +kernel) ⟨by show 1 + 1 ≤ 14 + 14 * k; omega, by show 8 + (2 + 11) + (21) ≤ 322 + 323 * k; omega⟩) ⟨fun a U g mk q => by obtain ⟨q0, q1, qP, qK, qD⟩ := q; exact ⟨q0, q1, qP, va_K.moved (u := U) (U := U.calling g mk a) (Vm.Alike.refl U.vm) qK, qD⟩, va_recv hKc hPc (ci := 23) (q0 := 0) rfl rfl, fun U hU hW => ⟨rfl, by rw [hU], by rw [hU]; exact hPc, va_K.moved hW.alike hKc, hDc.weaken (fun _ _ _ _ => trivial)⟩⟩ rfl rfl hl.1 rfl (lv_room (Nat.le_of_ble_eq_true rfl)) dX23_plain_83 ⟨(show (8 * (pp0 - pp) + 3 + 8 * (pp12 - (pp0 + 1)) + 3) + 0 ≤ (8 * (T - pp) + 14) by omega), (show (120 * (pp0 - pp) + 48 + 120 * (pp12 - (pp0 + 1)) + 48) + 0 ≤ (120 * (T - pp) + 480) by omega)⟩) hS (fun q _ h => hFc q h) hFc (fun u tS H1 locs ht hvm hw hB hz1 hk1 hS => ?_)
            obtain ⟨hP1, hK1, hD1⟩ := hB
            rw [ht] at hP1
            replace hK1 := va_K.moved hvm.symm hK1
            obtain ⟨hPj, hDj⟩ := va_joinT (wr := [(ss, .inr (19, [.int 2, .int (nI pp), .int 0, .int 0, .int 0, .null, .ref r_13, .ref r_1, .null, .null, .null, .null, .null, .int 0])), (mr 8, .inl (kL, 3002, .inr (.inl fn)))]) (w1 := [(m9, .inr (23, mA mr mv vf xl (nI zs) 0 xa12 (nI T) (nI (pp12 + 1)) xi xt xn (nI ns) (nI vv) (nI bb12))), (mr 5, .inl (kI, 3002, .inl fk)), (mr 6, .inl (kI, 3002, .inl fa))]) hP hD [1, 2, 3] [0, 4] rfl rfl (by decide) (by decide) hk1 hFc hP1 hD1
            replace hP := hPj
            replace hD := hDj
            clear hPj hDj
            replace hK := hK.app hK1
            generalize H1 = H at hP hS ⊢
            replace hP : va_P (dC, dI) vwCl (([(ss, .inr (19, [.int 2, .int (nI pp), .int 0, .int 0, .int 0, .null, .ref r_13, .ref r_1, .null, .null, .null, .null, .null, .int 0])), (mr 8, .inl (kL, 3002, .inr (.inl fn))), (m9, .inr (23, mA mr mv vf xl (nI zs) 0 xa12 (nI T) (nI (pp12 + 1)) xi xt xn (nI ns) (nI vv) (nI bb12))), (mr 5, .inl (kI, 3002, .inl fk)), (mr 6, .inl (kI, 3002, .inl fa))] : va_W) ++ (sT L12 F12)) H := hP
            replace hD : va_D A (([(ss, .inr (19, [.int 2, .int (nI pp), .int 0, .int 0, .int 0, .null, .ref r_13, .ref r_1, .null, .null, .null, .null, .null, .int 0])), (mr 8, .inl (kL, 3002, .inr (.inl fn))), (m9, .inr (23, mA mr mv vf xl (nI zs) 0 xa12 (nI T) (nI (pp12 + 1)) xi xt xn (nI ns) (nI vv) (nI bb12))), (mr 5, .inl (kI, 3002, .inl fk)), (mr 6, .inl (kI, 3002, .inl fa))] : va_W) ++ (sT L12 F12)) := hD
            replace hK : va_K (dC, dI) vwCl [(kI, .int), (kL, .long), (kE, .object RX15), (kS, .object RX19), (kB, .object RX14), (kA, .object RX13), (kV, .object RX21), (kI, .int)] s := hK
            replace hK := hK.sub (tys' := [(kI, .int), (kL, .long), (kE, .object RX15), (kS, .object RX19), (kB, .object RX14), (kA, .object RX13), (kV, .object RX21)]) [0, 1, 2, 3, 4, 5, 6] rfl
            clear hz1 hk1 hPc hDc hKc hFc hP1 hD1 hK1
            have hp_17 : pp12 + 1 < T := kne3 hk0 hf13_1.2.1 hk_15 (by decide)
            refine W.grow (fun hgs0 hgs1 => ?_)
            have hP9 := hP.subT (f' := [(ss, .inr (19, [.int 2, .int (nI pp), .int 0, .int 0, .int 0, .null, (.ref r_13), (.ref r_1), .null, .null, .null, .null, .null, .int 0])), (m9, .inr (23, mA mr mv vf xl (nI zs) 0 xa12 (nI T) (nI (pp12 + 1)) xi xt xn (nI ns) (nI vv) (nI bb12))), (mr 5, .inl (kI, 3002, .inl fk)), (mr 6, .inl (kI, 3002, .inl fa)), (mr 8, .inl (kL, 3002, .inr (.inl fn)))]) [0, 2, 3, 4, 1] rfl
            have hD9 := hD.subT (f' := [(ss, .inr (19, [.int 2, .int (nI pp), .int 0, .int 0, .int 0, .null, (.ref r_13), (.ref r_1), .null, .null, .null, .null, .null, .int 0])), (m9, .inr (23, mA mr mv vf xl (nI zs) 0 xa12 (nI T) (nI (pp12 + 1)) xi xt xn (nI ns) (nI vv) (nI bb12))), (mr 5, .inl (kI, 3002, .inl fk)), (mr 6, .inl (kI, 3002, .inl fa)), (mr 8, .inl (kL, 3002, .inr (.inl fn)))]) [0, 2, 3, 4, 1] (by decide) rfl
            have hK9 := hK.sub (tys' := [(kI, .int), (kL, .long), (kE, .object RX15), (kS, .object RX19), (kB, .object RX14), (kA, .object RX13), (kV, .object RX21)]) [0, 1, 2, 3, 4, 5, 6] rfl
            refine W.widen (k := (8 * (T - pp) + 14)) (n := (120 * (T - pp) + 480)) (by omega) (by omega) ?_
            exact W.vret hx hb hr (fun tS ht hW => ⟨⟨(), rfl, trivial, L12, F12, 0, xa12, pp12 + 1, bb12, vv, 0, 2, .ref r_13, .ref r_1, (hf1_0.1).tr hf13_0.1, ⟨by omega, by omega, by omega, by omega, by omega, by omega⟩, ⟨by omega, fun _ => rfl⟩, (fun _ => ⟨hg12.1, hvv, by omega, fun aZ LZ FZ hxZ haZ hFZ => ⟨haZ, by omega, Or.inr (Or.inr (Or.inl ⟨r_13, r_1, _, _, _, _, hFZ, isE_im (hf13_0.1.tr hxZ) 408 (by omega) hg0.2, plE_ex (hf13_0.1.tr hxZ) hpw9 hpl, by omega, by omega, isE_im hxZ 408 (by omega) hg12.2, rfl⟩))⟩⟩), by rw [ht]; exact ⟨by omega, by omega⟩, by rw [ht]; exact hP9, va_K.moved hW.alike hK9, hD9⟩, hS.F ht⟩) hS.2.2 dX23_plain_86
          · replace hPc := hP.subF (f' := [(m9, .inr (23, mA mr mv vf xl (nI zs) 0 xa12 (nI T) (nI pp12) xi xt xn (nI ns) (nI vv) (nI bb12))), (mr 5, .inl (kI, 3002, .inl fk)), (mr 6, .inl (kI, 3002, .inl fa))]) [1, 2, 3] rfl
            replace hDc := hD.subF (f' := [(m9, .inr (23, mA mr mv vf xl (nI zs) 0 xa12 (nI T) (nI pp12) xi xt xn (nI ns) (nI vv) (nI bb12))), (mr 5, .inl (kI, 3002, .inl fk)), (mr 6, .inl (kI, 3002, .inl fa))]) [1, 2, 3] (by decide) rfl
            replace hKc := hK.sub (tys' := [(kI, .int)]) [0] rfl
            replace hFc := va_freeT (wc := [(m9, .inr (23, mA mr mv vf xl (nI zs) 0 xa12 (nI T) (nI pp12) xi xt xn (nI ns) (nI vv) (nI bb12))), (mr 5, .inl (kI, 3002, .inl fk)), (mr 6, .inl (kI, 3002, .inl fa))]) hD hS hA [1, 2, 3] rfl
            refine va_callv (va_runV (As := [.int 60]) (rest := []) ⟨hx, hb, hml, hown, hts⟩ (c_rtkN l dC dI m9 mr mv vf xl xa12 xi xt xn zs T pp12 ns vv bb12 kI fk fa 60 H.size hT hf13_1.2.1 hk0 (by decide) hk_15) (cwV 1 hts g_c_vpl_c_rtkN_83 rfl rfl rfl (by decide +kernel) ⟨by show 1 + 1 ≤ 14 + 14 * k; omega, by show 8 + (2 + 11) + (22) ≤ 322 + 323 * k; omega⟩) ⟨fun a U g mk q => by obtain ⟨q0, q1, qP, qK, qD⟩ := q; exact ⟨q0, q1, qP, va_K.moved (u := U) (U := U.calling g mk a) (Vm.Alike.refl U.vm) qK, qD⟩, va_recv hKc hPc (ci := 23) (q0 := 0) rfl rfl, fun U hU hW => ⟨rfl, by rw [hU], by rw [hU]; exact hPc, va_K.moved hW.alike hKc, hDc.weaken (fun _ _ _ _ => trivial)⟩⟩ rfl rfl hl.1 rfl (lv_room (Nat.le_of_ble_eq_true rfl)) dX23_plain_83 ⟨(show (8 * (pp0 - pp) + 3 + 8 * (pp12 - (pp0 + 1)) + 3) + 0 ≤ (8 * (T - pp) + 14) by omega), (show (120 * (pp0 - pp) + 48 + 120 * (pp12 - (pp0 + 1)) + 48) + 0 ≤ (120 * (T - pp) + 480) by omega)⟩) hS (fun q _ h => hFc q h) hFc (fun u tS H1 locs ht hvm hw hB hz1 hk1 hS => ?_)
            obtain ⟨ff_16, xa_17, hf18_0, hP1, hK1, hD1⟩ := hB
            rw [ht] at hP1
            replace hK1 := va_K.moved hvm.symm hK1
            obtain ⟨hPj, hDj⟩ := va_joinT (wr := [(ss, .inr (19, [.int 2, .int (nI pp), .int 0, .int 0, .int 0, .null, .ref r_13, .ref r_1, .null, .null, .null, .null, .null, .int 0])), (mr 8, .inl (kL, 3002, .inr (.inl fn)))]) (w1 := [(m9, .inr (23, mA mr mv vf xl (nI zs) ff_16 xa_17 (nI T) (nI pp12) xi xt xn (nI ns) (nI vv) (nI bb12))), (mr 5, .inl (kI, 3002, .inl fk)), (mr 6, .inl (kI, 3002, .inl fa))]) hP hD [1, 2, 3] [0, 4] rfl rfl (by decide) (by decide) hk1 hFc hP1 hD1
            replace hP := hPj
            replace hD := hDj
            clear hPj hDj
            replace hK := hK.app hK1
            generalize H1 = H at hP hS ⊢
            replace hP : va_P (dC, dI) vwCl (([(ss, .inr (19, [.int 2, .int (nI pp), .int 0, .int 0, .int 0, .null, .ref r_13, .ref r_1, .null, .null, .null, .null, .null, .int 0])), (mr 8, .inl (kL, 3002, .inr (.inl fn))), (m9, .inr (23, mA mr mv vf xl (nI zs) ff_16 xa_17 (nI T) (nI pp12) xi xt xn (nI ns) (nI vv) (nI bb12))), (mr 5, .inl (kI, 3002, .inl fk)), (mr 6, .inl (kI, 3002, .inl fa))] : va_W) ++ (sT L12 F12)) H := hP
            replace hD : va_D A (([(ss, .inr (19, [.int 2, .int (nI pp), .int 0, .int 0, .int 0, .null, .ref r_13, .ref r_1, .null, .null, .null, .null, .null, .int 0])), (mr 8, .inl (kL, 3002, .inr (.inl fn))), (m9, .inr (23, mA mr mv vf xl (nI zs) ff_16 xa_17 (nI T) (nI pp12) xi xt xn (nI ns) (nI vv) (nI bb12))), (mr 5, .inl (kI, 3002, .inl fk)), (mr 6, .inl (kI, 3002, .inl fa))] : va_W) ++ (sT L12 F12)) := hD
            replace hK : va_K (dC, dI) vwCl [(kI, .int), (kL, .long), (kE, .object RX15), (kS, .object RX19), (kB, .object RX14), (kA, .object RX13), (kV, .object RX21), (kI, .int)] s := hK
            replace hK := hK.sub (tys' := [(kI, .int), (kL, .long), (kE, .object RX15), (kS, .object RX19), (kB, .object RX14), (kA, .object RX13), (kV, .object RX21)]) [0, 1, 2, 3, 4, 5, 6] rfl
            clear hz1 hk1 hPc hDc hKc hFc hP1 hD1 hK1
            refine W.grow (fun hgs0 hgs1 => ?_)
            have hP9 := hP.subT (f' := [(ss, .inr (19, [.int 2, .int (nI pp), .int 0, .int 0, .int 0, .null, (.ref r_13), (.ref r_1), .null, .null, .null, .null, .null, .int 0])), (m9, .inr (23, mA mr mv vf xl (nI zs) ff_16 xa_17 (nI T) (nI pp12) xi xt xn (nI ns) (nI vv) (nI bb12))), (mr 5, .inl (kI, 3002, .inl fk)), (mr 6, .inl (kI, 3002, .inl fa)), (mr 8, .inl (kL, 3002, .inr (.inl fn)))]) [0, 2, 3, 4, 1] rfl
            have hD9 := hD.subT (f' := [(ss, .inr (19, [.int 2, .int (nI pp), .int 0, .int 0, .int 0, .null, (.ref r_13), (.ref r_1), .null, .null, .null, .null, .null, .int 0])), (m9, .inr (23, mA mr mv vf xl (nI zs) ff_16 xa_17 (nI T) (nI pp12) xi xt xn (nI ns) (nI vv) (nI bb12))), (mr 5, .inl (kI, 3002, .inl fk)), (mr 6, .inl (kI, 3002, .inl fa)), (mr 8, .inl (kL, 3002, .inr (.inl fn)))]) [0, 2, 3, 4, 1] (by decide) rfl
            have hK9 := hK.sub (tys' := [(kI, .int), (kL, .long), (kE, .object RX15), (kS, .object RX19), (kB, .object RX14), (kA, .object RX13), (kV, .object RX21)]) [0, 1, 2, 3, 4, 5, 6] rfl
            refine W.widen (k := (8 * (T - pp) + 14)) (n := (120 * (T - pp) + 480)) (by omega) (by omega) ?_
            exact W.vret hx hb hr (fun tS ht hW => ⟨⟨(), rfl, trivial, L12, F12, ff_16, xa_17, pp12, bb12, vv, 1, 2, .ref r_13, .ref r_1, (hf1_0.1).tr hf13_0.1, ⟨by omega, by omega, by omega, by omega, by omega, by omega⟩, ⟨by omega, fun q9 => absurd q9 hf18_0⟩, (fun q9 => absurd q9 hf18_0), by rw [ht]; exact ⟨by omega, by omega⟩, by rw [ht]; exact hP9, va_K.moved hW.alike hK9, hD9⟩, hS.F ht⟩) hS.2.2 dX23_plain_86
        · replace hPc := hP.subF (f' := [(m9, .inr (23, mA mr mv vf xl (nI zs) ff12 xa12 (nI T) (nI pp12) xi xt xn (nI ns) (nI vv) (nI bb12))), (mr 5, .inl (kI, 3002, .inl fk)), (mr 6, .inl (kI, 3002, .inl fa))]) [1, 2, 3] rfl
          replace hDc := hD.subF (f' := [(m9, .inr (23, mA mr mv vf xl (nI zs) ff12 xa12 (nI T) (nI pp12) xi xt xn (nI ns) (nI vv) (nI bb12))), (mr 5, .inl (kI, 3002, .inl fk)), (mr 6, .inl (kI, 3002, .inl fa))]) [1, 2, 3] (by decide) rfl
          replace hKc := hK.sub (tys' := [(kI, .int)]) [0] rfl
          replace hFc := va_freeT (wc := [(m9, .inr (23, mA mr mv vf xl (nI zs) ff12 xa12 (nI T) (nI pp12) xi xt xn (nI ns) (nI vv) (nI bb12))), (mr 5, .inl (kI, 3002, .inl fk)), (mr 6, .inl (kI, 3002, .inl fa))]) hD hS hA [1, 2, 3] rfl
          refine va_callv (va_runV (As := [.int 60]) (rest := []) ⟨hx, hb, hml, hown, hts⟩ (c_rtkB l dC dI m9 mr mv vf xl xa12 xi xt xn zs T pp12 ns vv bb12 kI fk fa ff12 60 H.size hz_14) (cwV 1 hts g_c_vpl_c_rtkB_83 rfl rfl rfl (by decide +kernel) ⟨by show 1 + 1 ≤ 14 + 14 * k; omega, by show 8 + (2 + 11) + (20) ≤ 322 + 323 * k; omega⟩) ⟨fun a U g mk q => by obtain ⟨q0, q1, qP, qK, qD⟩ := q; exact ⟨q0, q1, qP, va_K.moved (u := U) (U := U.calling g mk a) (Vm.Alike.refl U.vm) qK, qD⟩, va_recv hKc hPc (ci := 23) (q0 := 0) rfl rfl, fun U hU hW => ⟨rfl, by rw [hU], by rw [hU]; exact hPc, va_K.moved hW.alike hKc, hDc.weaken (fun _ _ _ _ => trivial)⟩⟩ rfl rfl hl.1 rfl (lv_room (Nat.le_of_ble_eq_true rfl)) dX23_plain_83 ⟨(show (8 * (pp0 - pp) + 3 + 8 * (pp12 - (pp0 + 1)) + 3) + 0 ≤ (8 * (T - pp) + 14) by omega), (show (120 * (pp0 - pp) + 48 + 120 * (pp12 - (pp0 + 1)) + 48) + 0 ≤ (120 * (T - pp) + 480) by omega)⟩) hS (fun q _ h => hFc q h) hFc (fun u tS H1 locs ht hvm hw hB hz1 hk1 hS => ?_)
          obtain ⟨hP1, hK1, hD1⟩ := hB
          rw [ht] at hP1
          replace hK1 := va_K.moved hvm.symm hK1
          obtain ⟨hPj, hDj⟩ := va_joinT (wr := [(ss, .inr (19, [.int 2, .int (nI pp), .int 0, .int 0, .int 0, .null, .ref r_13, .ref r_1, .null, .null, .null, .null, .null, .int 0])), (mr 8, .inl (kL, 3002, .inr (.inl fn)))]) (w1 := [(m9, .inr (23, mA mr mv vf xl (nI zs) ff12 xa12 (nI T) (nI pp12) xi xt xn (nI ns) (nI vv) (nI bb12))), (mr 5, .inl (kI, 3002, .inl fk)), (mr 6, .inl (kI, 3002, .inl fa))]) hP hD [1, 2, 3] [0, 4] rfl rfl (by decide) (by decide) hk1 hFc hP1 hD1
          replace hP := hPj
          replace hD := hDj
          clear hPj hDj
          replace hK := hK.app hK1
          generalize H1 = H at hP hS ⊢
          replace hP : va_P (dC, dI) vwCl (([(ss, .inr (19, [.int 2, .int (nI pp), .int 0, .int 0, .int 0, .null, .ref r_13, .ref r_1, .null, .null, .null, .null, .null, .int 0])), (mr 8, .inl (kL, 3002, .inr (.inl fn))), (m9, .inr (23, mA mr mv vf xl (nI zs) ff12 xa12 (nI T) (nI pp12) xi xt xn (nI ns) (nI vv) (nI bb12))), (mr 5, .inl (kI, 3002, .inl fk)), (mr 6, .inl (kI, 3002, .inl fa))] : va_W) ++ (sT L12 F12)) H := hP
          replace hD : va_D A (([(ss, .inr (19, [.int 2, .int (nI pp), .int 0, .int 0, .int 0, .null, .ref r_13, .ref r_1, .null, .null, .null, .null, .null, .int 0])), (mr 8, .inl (kL, 3002, .inr (.inl fn))), (m9, .inr (23, mA mr mv vf xl (nI zs) ff12 xa12 (nI T) (nI pp12) xi xt xn (nI ns) (nI vv) (nI bb12))), (mr 5, .inl (kI, 3002, .inl fk)), (mr 6, .inl (kI, 3002, .inl fa))] : va_W) ++ (sT L12 F12)) := hD
          replace hK : va_K (dC, dI) vwCl [(kI, .int), (kL, .long), (kE, .object RX15), (kS, .object RX19), (kB, .object RX14), (kA, .object RX13), (kV, .object RX21), (kI, .int)] s := hK
          replace hK := hK.sub (tys' := [(kI, .int), (kL, .long), (kE, .object RX15), (kS, .object RX19), (kB, .object RX14), (kA, .object RX13), (kV, .object RX21)]) [0, 1, 2, 3, 4, 5, 6] rfl
          clear hz1 hk1 hPc hDc hKc hFc hP1 hD1 hK1
          refine W.grow (fun hgs0 hgs1 => ?_)
          have hP9 := hP.subT (f' := [(ss, .inr (19, [.int 2, .int (nI pp), .int 0, .int 0, .int 0, .null, (.ref r_13), (.ref r_1), .null, .null, .null, .null, .null, .int 0])), (m9, .inr (23, mA mr mv vf xl (nI zs) ff12 xa12 (nI T) (nI pp12) xi xt xn (nI ns) (nI vv) (nI bb12))), (mr 5, .inl (kI, 3002, .inl fk)), (mr 6, .inl (kI, 3002, .inl fa)), (mr 8, .inl (kL, 3002, .inr (.inl fn)))]) [0, 2, 3, 4, 1] rfl
          have hD9 := hD.subT (f' := [(ss, .inr (19, [.int 2, .int (nI pp), .int 0, .int 0, .int 0, .null, (.ref r_13), (.ref r_1), .null, .null, .null, .null, .null, .int 0])), (m9, .inr (23, mA mr mv vf xl (nI zs) ff12 xa12 (nI T) (nI pp12) xi xt xn (nI ns) (nI vv) (nI bb12))), (mr 5, .inl (kI, 3002, .inl fk)), (mr 6, .inl (kI, 3002, .inl fa)), (mr 8, .inl (kL, 3002, .inr (.inl fn)))]) [0, 2, 3, 4, 1] (by decide) rfl
          have hK9 := hK.sub (tys' := [(kI, .int), (kL, .long), (kE, .object RX15), (kS, .object RX19), (kB, .object RX14), (kA, .object RX13), (kV, .object RX21)]) [0, 1, 2, 3, 4, 5, 6] rfl
          refine W.widen (k := (8 * (T - pp) + 14)) (n := (120 * (T - pp) + 480)) (by omega) (by omega) ?_
          exact W.vret hx hb hr (fun tS ht hW => ⟨⟨(), rfl, trivial, L12, F12, ff12, xa12, pp12, bb12, vv, 1, 2, .ref r_13, .ref r_1, (hf1_0.1).tr hf13_0.1, ⟨by omega, by omega, by omega, by omega, by omega, by omega⟩, ⟨by omega, fun q9 => absurd q9 hz_14⟩, (fun q9 => absurd q9 hz_14), by rw [ht]; exact ⟨by omega, by omega⟩, by rw [ht]; exact hP9, va_K.moved hW.alike hK9, hD9⟩, hS.F ht⟩) hS.2.2 dX23_plain_86
    · replace hPc := hP.subF (f' := [(m9, .inr (23, mA mr mv vf xl (nI zs) 0 xa0 (nI T) (nI pp0) xi xt xn (nI ns) (nI vv) (nI bb0))), (mr 5, .inl (kI, 3002, .inl fk))]) [4, 1] rfl
      replace hDc := hD.subF (f' := [(m9, .inr (23, mA mr mv vf xl (nI zs) 0 xa0 (nI T) (nI pp0) xi xt xn (nI ns) (nI vv) (nI bb0))), (mr 5, .inl (kI, 3002, .inl fk))]) [4, 1] (by decide) rfl
      replace hKc := hK.sub (tys' := [(kI, .int)]) [0] rfl
      replace hFc := va_freeT (wc := [(m9, .inr (23, mA mr mv vf xl (nI zs) 0 xa0 (nI T) (nI pp0) xi xt xn (nI ns) (nI vv) (nI bb0))), (mr 5, .inl (kI, 3002, .inl fk))]) hD hS hA [4, 1] rfl
      refine va_calli (va_runV (As := [.int 54]) (rest := []) ⟨hx, hb, hml, hown, hts⟩ (c_risN l dC dI m9 mr mv vf xl xa0 xi xt xn zs T pp0 ns vv bb0 kI fk fa 0 54 H.size hT hf1_1.2.1 hk_5) (cwV 1 hts g_c_vpl_c_risN_23 rfl rfl rfl (by decide +kernel) ⟨by show 0 + 1 ≤ 14 + 14 * k; omega, by show 8 + (2 + 11) + (0) ≤ 322 + 323 * k; omega⟩) ⟨fun a U g mk q => by obtain ⟨q0, q1, qP, qK, qD⟩ := q; exact ⟨q0, q1, qP, va_K.moved (u := U) (U := U.calling g mk a) (Vm.Alike.refl U.vm) qK, qD⟩, va_recv hKc hPc (ci := 23) (q0 := 0) rfl rfl, fun U hU hW => ⟨rfl, by rw [hU], by rw [hU]; exact hPc, va_K.moved hW.alike hKc, hDc.weaken (fun _ _ _ _ => trivial)⟩⟩ rfl rfl hl.1 rfl (lv_room (Nat.le_of_ble_eq_true rfl)) dX23_plain_23 ⟨(show 8 * (pp0 - pp) + 3 + 0 ≤ (8 * (T - pp) + 14) by omega), (show 120 * (pp0 - pp) + 48 + 0 ≤ (120 * (T - pp) + 480) by omega)⟩) hS (fun q _ h => hFc q h) hFc (fun r_6 u tS H1 locs ht hvm hw hB hz1 hk1 hS => ?_)
      obtain ⟨hP1, hK1, hD1⟩ := hB
      rw [ht] at hP1
      replace hK1 := va_K.moved hvm.symm hK1
      obtain ⟨hPj, hDj⟩ := va_joinT (wr := [(ss, .inr (19, [.int 1, .int (nI pp), .int 0, .int 0, .int 0, .null, .ref r_1, .null, .null, .null, .null, .null, .null, .int 0])), (mr 6, .inl (kI, 3002, .inl fa)), (mr 8, .inl (kL, 3002, .inr (.inl fn)))]) (w1 := [(m9, .inr (23, mA mr mv vf xl (nI zs) 0 xa0 (nI T) (nI pp0) xi xt xn (nI ns) (nI vv) (nI bb0))), (mr 5, .inl (kI, 3002, .inl fk))]) hP hD [4, 1] [0, 2, 3] rfl rfl (by decide) (by decide) hk1 hFc hP1 hD1
      replace hP := hPj
      replace hD := hDj
      clear hPj hDj
      replace hK := hK.app hK1
      generalize H1 = H at hP hS ⊢
      replace hP : va_P (dC, dI) vwCl (([(ss, .inr (19, [.int 1, .int (nI pp), .int 0, .int 0, .int 0, .null, .ref r_1, .null, .null, .null, .null, .null, .null, .int 0])), (mr 6, .inl (kI, 3002, .inl fa)), (mr 8, .inl (kL, 3002, .inr (.inl fn))), (m9, .inr (23, mA mr mv vf xl (nI zs) 0 xa0 (nI T) (nI pp0) xi xt xn (nI ns) (nI vv) (nI bb0))), (mr 5, .inl (kI, 3002, .inl fk))] : va_W) ++ (sT L0 F0)) H := hP
      replace hD : va_D A (([(ss, .inr (19, [.int 1, .int (nI pp), .int 0, .int 0, .int 0, .null, .ref r_1, .null, .null, .null, .null, .null, .null, .int 0])), (mr 6, .inl (kI, 3002, .inl fa)), (mr 8, .inl (kL, 3002, .inr (.inl fn))), (m9, .inr (23, mA mr mv vf xl (nI zs) 0 xa0 (nI T) (nI pp0) xi xt xn (nI ns) (nI vv) (nI bb0))), (mr 5, .inl (kI, 3002, .inl fk))] : va_W) ++ (sT L0 F0)) := hD
      replace hK : va_K (dC, dI) vwCl [(kI, .int), (kL, .long), (kE, .object RX15), (kS, .object RX19), (kB, .object RX14), (kA, .object RX13), (kV, .object RX21), (kI, .int)] s := hK
      replace hK := hK.sub (tys' := [(kI, .int), (kL, .long), (kE, .object RX15), (kS, .object RX19), (kB, .object RX14), (kA, .object RX13), (kV, .object RX21)]) [0, 1, 2, 3, 4, 5, 6] rfl
      clear hz1 hk1 hPc hDc hKc hFc hP1 hD1 hK1
      obtain rfl : r_6 = 0 := hw
      refine lv_if_eq (tgt := 80) hx hb dX23_plain_26 (by decide) (fun _ => ?_) (fun c_7 => absurd (by decide) c_7)
      refine lv_aload_n hx hb dX23_plain_80 rfl (lv_at hl 0 rfl) ?_
      refine lv_bipush (v := 60) hx hb dX23_plain_81 (by decide) ?_
      by_cases hk_8 : fk pp0 = 60
      · replace hPc := hP.subF (f' := [(m9, .inr (23, mA mr mv vf xl (nI zs) 0 xa0 (nI T) (nI pp0) xi xt xn (nI ns) (nI vv) (nI bb0))), (mr 5, .inl (kI, 3002, .inl fk)), (mr 6, .inl (kI, 3002, .inl fa))]) [3, 4, 1] rfl
        replace hDc := hD.subF (f' := [(m9, .inr (23, mA mr mv vf xl (nI zs) 0 xa0 (nI T) (nI pp0) xi xt xn (nI ns) (nI vv) (nI bb0))), (mr 5, .inl (kI, 3002, .inl fk)), (mr 6, .inl (kI, 3002, .inl fa))]) [3, 4, 1] (by decide) rfl
        replace hKc := hK.sub (tys' := [(kI, .int)]) [0] rfl
        replace hFc := va_freeT (wc := [(m9, .inr (23, mA mr mv vf xl (nI zs) 0 xa0 (nI T) (nI pp0) xi xt xn (nI ns) (nI vv) (nI bb0))), (mr 5, .inl (kI, 3002, .inl fk)), (mr 6, .inl (kI, 3002, .inl fa))]) hD hS hA [3, 4, 1] rfl
        refine va_callv (va_runV (As := [.int 60]) (rest := []) ⟨hx, hb, hml, hown, hts⟩ (c_rtkY l dC dI m9 mr mv vf xl xa0 xi xt xn zs T pp0 ns vv bb0 kI fk fa 60 H.size hT hf1_1.2.1 hk0 (by decide) hk_8) (cwV 1 hts g_c_vpl_c_rtkY_83 rfl rfl rfl (by decide +kernel) ⟨by show 1 + 1 ≤ 14 + 14 * k; omega, by show 8 + (2 + 11) + (21) ≤ 322 + 323 * k; omega⟩) ⟨fun a U g mk q => by obtain ⟨q0, q1, qP, qK, qD⟩ := q; exact ⟨q0, q1, qP, va_K.moved (u := U) (U := U.calling g mk a) (Vm.Alike.refl U.vm) qK, qD⟩, va_recv hKc hPc (ci := 23) (q0 := 0) rfl rfl, fun U hU hW => ⟨rfl, by rw [hU], by rw [hU]; exact hPc, va_K.moved hW.alike hKc, hDc.weaken (fun _ _ _ _ => trivial)⟩⟩ rfl rfl hl.1 rfl (lv_room (Nat.le_of_ble_eq_true rfl)) dX23_plain_83 ⟨(show 8 * (pp0 - pp) + 3 + 0 ≤ (8 * (T - pp) + 14) by omega), (show 120 * (pp0 - pp) + 48 + 0 ≤ (120 * (T - pp) + 480) by omega)⟩) hS (fun q _ h => hFc q h) hFc (fun u tS H1 locs ht hvm hw hB hz1 hk1 hS => ?_)
        obtain ⟨hP1, hK1, hD1⟩ := hB
        rw [ht] at hP1
        replace hK1 := va_K.moved hvm.symm hK1
        obtain ⟨hPj, hDj⟩ := va_joinT (wr := [(ss, .inr (19, [.int 1, .int (nI pp), .int 0, .int 0, .int 0, .null, .ref r_1, .null, .null, .null, .null, .null, .null, .int 0])), (mr 8, .inl (kL, 3002, .inr (.inl fn)))]) (w1 := [(m9, .inr (23, mA mr mv vf xl (nI zs) 0 xa0 (nI T) (nI (pp0 + 1)) xi xt xn (nI ns) (nI vv) (nI bb0))), (mr 5, .inl (kI, 3002, .inl fk)), (mr 6, .inl (kI, 3002, .inl fa))]) hP hD [3, 4, 1] [0, 2] rfl rfl (by decide) (by decide) hk1 hFc hP1 hD1
        replace hP := hPj
        replace hD := hDj
        clear hPj hDj
        replace hK := hK.app hK1
        generalize H1 = H at hP hS ⊢
        replace hP : va_P (dC, dI) vwCl (([(ss, .inr (19, [.int 1, .int (nI pp), .int 0, .int 0, .int 0, .null, .ref r_1, .null, .null, .null, .null, .null, .null, .int 0])), (mr 8, .inl (kL, 3002, .inr (.inl fn))), (m9, .inr (23, mA mr mv vf xl (nI zs) 0 xa0 (nI T) (nI (pp0 + 1)) xi xt xn (nI ns) (nI vv) (nI bb0))), (mr 5, .inl (kI, 3002, .inl fk)), (mr 6, .inl (kI, 3002, .inl fa))] : va_W) ++ (sT L0 F0)) H := hP
        replace hD : va_D A (([(ss, .inr (19, [.int 1, .int (nI pp), .int 0, .int 0, .int 0, .null, .ref r_1, .null, .null, .null, .null, .null, .null, .int 0])), (mr 8, .inl (kL, 3002, .inr (.inl fn))), (m9, .inr (23, mA mr mv vf xl (nI zs) 0 xa0 (nI T) (nI (pp0 + 1)) xi xt xn (nI ns) (nI vv) (nI bb0))), (mr 5, .inl (kI, 3002, .inl fk)), (mr 6, .inl (kI, 3002, .inl fa))] : va_W) ++ (sT L0 F0)) := hD
        replace hK : va_K (dC, dI) vwCl [(kI, .int), (kL, .long), (kE, .object RX15), (kS, .object RX19), (kB, .object RX14), (kA, .object RX13), (kV, .object RX21), (kI, .int)] s := hK
        replace hK := hK.sub (tys' := [(kI, .int), (kL, .long), (kE, .object RX15), (kS, .object RX19), (kB, .object RX14), (kA, .object RX13), (kV, .object RX21)]) [0, 1, 2, 3, 4, 5, 6] rfl
        clear hz1 hk1 hPc hDc hKc hFc hP1 hD1 hK1
        have hp_10 : pp0 + 1 < T := kne3 hk0 hf1_1.2.1 hk_8 (by decide)
        refine W.grow (fun hgs0 hgs1 => ?_)
        have hP9 := hP.subT (f' := [(ss, .inr (19, [.int 1, .int (nI pp), .int 0, .int 0, .int 0, .null, (.ref r_1), .null, .null, .null, .null, .null, .null, .int 0])), (m9, .inr (23, mA mr mv vf xl (nI zs) 0 xa0 (nI T) (nI (pp0 + 1)) xi xt xn (nI ns) (nI vv) (nI bb0))), (mr 5, .inl (kI, 3002, .inl fk)), (mr 6, .inl (kI, 3002, .inl fa)), (mr 8, .inl (kL, 3002, .inr (.inl fn)))]) [0, 2, 3, 4, 1] rfl
        have hD9 := hD.subT (f' := [(ss, .inr (19, [.int 1, .int (nI pp), .int 0, .int 0, .int 0, .null, (.ref r_1), .null, .null, .null, .null, .null, .null, .int 0])), (m9, .inr (23, mA mr mv vf xl (nI zs) 0 xa0 (nI T) (nI (pp0 + 1)) xi xt xn (nI ns) (nI vv) (nI bb0))), (mr 5, .inl (kI, 3002, .inl fk)), (mr 6, .inl (kI, 3002, .inl fa)), (mr 8, .inl (kL, 3002, .inr (.inl fn)))]) [0, 2, 3, 4, 1] (by decide) rfl
        have hK9 := hK.sub (tys' := [(kI, .int), (kL, .long), (kE, .object RX15), (kS, .object RX19), (kB, .object RX14), (kA, .object RX13), (kV, .object RX21)]) [0, 1, 2, 3, 4, 5, 6] rfl
        refine W.widen (k := (8 * (T - pp) + 14)) (n := (120 * (T - pp) + 480)) (by omega) (by omega) ?_
        exact W.vret hx hb hr (fun tS ht hW => ⟨⟨(), rfl, trivial, L0, F0, 0, xa0, pp0 + 1, bb0, vv, 0, 1, .ref r_1, .null, hf1_0.1, ⟨by omega, by omega, by omega, by omega, by omega, by omega⟩, ⟨by omega, fun _ => rfl⟩, (fun _ => ⟨hg0.1, hvv, by omega, fun aZ LZ FZ hxZ haZ hFZ => ⟨haZ, by omega, Or.inr (Or.inl ⟨1, r_1, _, _, Or.inl rfl, hFZ, Nat.le_refl _, by omega, isE_im hxZ 408 (by omega) hg0.2, rfl⟩)⟩⟩), by rw [ht]; exact ⟨by omega, by omega⟩, by rw [ht]; exact hP9, va_K.moved hW.alike hK9, hD9⟩, hS.F ht⟩) hS.2.2 dX23_plain_86
      · replace hPc := hP.subF (f' := [(m9, .inr (23, mA mr mv vf xl (nI zs) 0 xa0 (nI T) (nI pp0) xi xt xn (nI ns) (nI vv) (nI bb0))), (mr 5, .inl (kI, 3002, .inl fk)), (mr 6, .inl (kI, 3002, .inl fa))]) [3, 4, 1] rfl
        replace hDc := hD.subF (f' := [(m9, .inr (23, mA mr mv vf xl (nI zs) 0 xa0 (nI T) (nI pp0) xi xt xn (nI ns) (nI vv) (nI bb0))), (mr 5, .inl (kI, 3002, .inl fk)), (mr 6, .inl (kI, 3002, .inl fa))]) [3, 4, 1] (by decide) rfl
        replace hKc := hK.sub (tys' := [(kI, .int)]) [0] rfl
        replace hFc := va_freeT (wc := [(m9, .inr (23, mA mr mv vf xl (nI zs) 0 xa0 (nI T) (nI pp0) xi xt xn (nI ns) (nI vv) (nI bb0))), (mr 5, .inl (kI, 3002, .inl fk)), (mr 6, .inl (kI, 3002, .inl fa))]) hD hS hA [3, 4, 1] rfl
        refine va_callv (va_runV (As := [.int 60]) (rest := []) ⟨hx, hb, hml, hown, hts⟩ (c_rtkN l dC dI m9 mr mv vf xl xa0 xi xt xn zs T pp0 ns vv bb0 kI fk fa 60 H.size hT hf1_1.2.1 hk0 (by decide) hk_8) (cwV 1 hts g_c_vpl_c_rtkN_83 rfl rfl rfl (by decide +kernel) ⟨by show 1 + 1 ≤ 14 + 14 * k; omega, by show 8 + (2 + 11) + (22) ≤ 322 + 323 * k; omega⟩) ⟨fun a U g mk q => by obtain ⟨q0, q1, qP, qK, qD⟩ := q; exact ⟨q0, q1, qP, va_K.moved (u := U) (U := U.calling g mk a) (Vm.Alike.refl U.vm) qK, qD⟩, va_recv hKc hPc (ci := 23) (q0 := 0) rfl rfl, fun U hU hW => ⟨rfl, by rw [hU], by rw [hU]; exact hPc, va_K.moved hW.alike hKc, hDc.weaken (fun _ _ _ _ => trivial)⟩⟩ rfl rfl hl.1 rfl (lv_room (Nat.le_of_ble_eq_true rfl)) dX23_plain_83 ⟨(show 8 * (pp0 - pp) + 3 + 0 ≤ (8 * (T - pp) + 14) by omega), (show 120 * (pp0 - pp) + 48 + 0 ≤ (120 * (T - pp) + 480) by omega)⟩) hS (fun q _ h => hFc q h) hFc (fun u tS H1 locs ht hvm hw hB hz1 hk1 hS => ?_)
        obtain ⟨ff_9, xa_10, hf11_0, hP1, hK1, hD1⟩ := hB
        rw [ht] at hP1
        replace hK1 := va_K.moved hvm.symm hK1
        obtain ⟨hPj, hDj⟩ := va_joinT (wr := [(ss, .inr (19, [.int 1, .int (nI pp), .int 0, .int 0, .int 0, .null, .ref r_1, .null, .null, .null, .null, .null, .null, .int 0])), (mr 8, .inl (kL, 3002, .inr (.inl fn)))]) (w1 := [(m9, .inr (23, mA mr mv vf xl (nI zs) ff_9 xa_10 (nI T) (nI pp0) xi xt xn (nI ns) (nI vv) (nI bb0))), (mr 5, .inl (kI, 3002, .inl fk)), (mr 6, .inl (kI, 3002, .inl fa))]) hP hD [3, 4, 1] [0, 2] rfl rfl (by decide) (by decide) hk1 hFc hP1 hD1
        replace hP := hPj
        replace hD := hDj
        clear hPj hDj
        replace hK := hK.app hK1
        generalize H1 = H at hP hS ⊢
        replace hP : va_P (dC, dI) vwCl (([(ss, .inr (19, [.int 1, .int (nI pp), .int 0, .int 0, .int 0, .null, .ref r_1, .null, .null, .null, .null, .null, .null, .int 0])), (mr 8, .inl (kL, 3002, .inr (.inl fn))), (m9, .inr (23, mA mr mv vf xl (nI zs) ff_9 xa_10 (nI T) (nI pp0) xi xt xn (nI ns) (nI vv) (nI bb0))), (mr 5, .inl (kI, 3002, .inl fk)), (mr 6, .inl (kI, 3002, .inl fa))] : va_W) ++ (sT L0 F0)) H := hP
        replace hD : va_D A (([(ss, .inr (19, [.int 1, .int (nI pp), .int 0, .int 0, .int 0, .null, .ref r_1, .null, .null, .null, .null, .null, .null, .int 0])), (mr 8, .inl (kL, 3002, .inr (.inl fn))), (m9, .inr (23, mA mr mv vf xl (nI zs) ff_9 xa_10 (nI T) (nI pp0) xi xt xn (nI ns) (nI vv) (nI bb0))), (mr 5, .inl (kI, 3002, .inl fk)), (mr 6, .inl (kI, 3002, .inl fa))] : va_W) ++ (sT L0 F0)) := hD
        replace hK : va_K (dC, dI) vwCl [(kI, .int), (kL, .long), (kE, .object RX15), (kS, .object RX19), (kB, .object RX14), (kA, .object RX13), (kV, .object RX21), (kI, .int)] s := hK
        replace hK := hK.sub (tys' := [(kI, .int), (kL, .long), (kE, .object RX15), (kS, .object RX19), (kB, .object RX14), (kA, .object RX13), (kV, .object RX21)]) [0, 1, 2, 3, 4, 5, 6] rfl
        clear hz1 hk1 hPc hDc hKc hFc hP1 hD1 hK1
        refine W.grow (fun hgs0 hgs1 => ?_)
        have hP9 := hP.subT (f' := [(ss, .inr (19, [.int 1, .int (nI pp), .int 0, .int 0, .int 0, .null, (.ref r_1), .null, .null, .null, .null, .null, .null, .int 0])), (m9, .inr (23, mA mr mv vf xl (nI zs) ff_9 xa_10 (nI T) (nI pp0) xi xt xn (nI ns) (nI vv) (nI bb0))), (mr 5, .inl (kI, 3002, .inl fk)), (mr 6, .inl (kI, 3002, .inl fa)), (mr 8, .inl (kL, 3002, .inr (.inl fn)))]) [0, 2, 3, 4, 1] rfl
        have hD9 := hD.subT (f' := [(ss, .inr (19, [.int 1, .int (nI pp), .int 0, .int 0, .int 0, .null, (.ref r_1), .null, .null, .null, .null, .null, .null, .int 0])), (m9, .inr (23, mA mr mv vf xl (nI zs) ff_9 xa_10 (nI T) (nI pp0) xi xt xn (nI ns) (nI vv) (nI bb0))), (mr 5, .inl (kI, 3002, .inl fk)), (mr 6, .inl (kI, 3002, .inl fa)), (mr 8, .inl (kL, 3002, .inr (.inl fn)))]) [0, 2, 3, 4, 1] (by decide) rfl
        have hK9 := hK.sub (tys' := [(kI, .int), (kL, .long), (kE, .object RX15), (kS, .object RX19), (kB, .object RX14), (kA, .object RX13), (kV, .object RX21)]) [0, 1, 2, 3, 4, 5, 6] rfl
        refine W.widen (k := (8 * (T - pp) + 14)) (n := (120 * (T - pp) + 480)) (by omega) (by omega) ?_
        exact W.vret hx hb hr (fun tS ht hW => ⟨⟨(), rfl, trivial, L0, F0, ff_9, xa_10, pp0, bb0, vv, 1, 1, .ref r_1, .null, hf1_0.1, ⟨by omega, by omega, by omega, by omega, by omega, by omega⟩, ⟨by omega, fun q9 => absurd q9 hf11_0⟩, (fun q9 => absurd q9 hf11_0), by rw [ht]; exact ⟨by omega, by omega⟩, by rw [ht]; exact hP9, va_K.moved hW.alike hK9, hD9⟩, hS.F ht⟩) hS.2.2 dX23_plain_86
  · replace hPc := hP.subF (f' := [(m9, .inr (23, mA mr mv vf xl (nI zs) ff0 xa0 (nI T) (nI pp0) xi xt xn (nI ns) (nI vv) (nI bb0)))]) [1] rfl
    replace hDc := hD.subF (f' := [(m9, .inr (23, mA mr mv vf xl (nI zs) ff0 xa0 (nI T) (nI pp0) xi xt xn (nI ns) (nI vv) (nI bb0)))]) [1] (by decide) rfl
    replace hKc := hK.sub (tys' := []) [] rfl
    replace hFc := va_freeT (wc := [(m9, .inr (23, mA mr mv vf xl (nI zs) ff0 xa0 (nI T) (nI pp0) xi xt xn (nI ns) (nI vv) (nI bb0)))]) hD hS hA [1] rfl
    refine va_calli (va_runV (As := []) (rest := []) ⟨hx, hb, hml, hown, hts⟩ (c_rokB l dC dI m9 mr mv vf xl xa0 xi xt xn zs T pp0 ns vv bb0 kI fk fa ff0 H.size hz_2) (cwV 0 hts g_c_vpl_c_rokB_14 rfl rfl rfl (by decide +kernel) ⟨by show 0 + 1 ≤ 14 + 14 * k; omega, by show 8 + (1 + 11) + (0) ≤ 322 + 323 * k; omega⟩) ⟨fun a U g mk q => by obtain ⟨q0, q1, qP, qK, qD⟩ := q; exact ⟨q0, q1, qP, va_K.moved (u := U) (U := U.calling g mk a) (Vm.Alike.refl U.vm) qK, qD⟩, va_recv hKc hPc (ci := 23) (q0 := 0) rfl rfl, fun U hU hW => ⟨rfl, by rw [hU], by rw [hU]; exact hPc, va_K.moved hW.alike hKc, hDc.weaken (fun _ _ _ _ => trivial)⟩⟩ rfl rfl hl.1 rfl (lv_room (Nat.le_of_ble_eq_true rfl)) dX23_plain_14 ⟨(show 8 * (pp0 - pp) + 3 + 0 ≤ (8 * (T - pp) + 14) by omega), (show 120 * (pp0 - pp) + 48 + 0 ≤ (120 * (T - pp) + 480) by omega)⟩) hS (fun q _ h => hFc q h) hFc (fun r_3 u tS H1 locs ht hvm hw hB hz1 hk1 hS => ?_)
    obtain ⟨hP1, hK1, hD1⟩ := hB
    rw [ht] at hP1
    replace hK1 := va_K.moved hvm.symm hK1
    obtain ⟨hPj, hDj⟩ := va_joinT (wr := [(ss, .inr (19, [.int 1, .int (nI pp), .int 0, .int 0, .int 0, .null, .ref r_1, .null, .null, .null, .null, .null, .null, .int 0])), (mr 5, .inl (kI, 3002, .inl fk)), (mr 6, .inl (kI, 3002, .inl fa)), (mr 8, .inl (kL, 3002, .inr (.inl fn)))]) (w1 := [(m9, .inr (23, mA mr mv vf xl (nI zs) ff0 xa0 (nI T) (nI pp0) xi xt xn (nI ns) (nI vv) (nI bb0)))]) hP hD [1] [0, 2, 3, 4] rfl rfl (by decide) (by decide) hk1 hFc hP1 hD1
    replace hP := hPj
    replace hD := hDj
    clear hPj hDj
    generalize H1 = H at hP hS ⊢
    replace hP : va_P (dC, dI) vwCl (([(ss, .inr (19, [.int 1, .int (nI pp), .int 0, .int 0, .int 0, .null, .ref r_1, .null, .null, .null, .null, .null, .null, .int 0])), (mr 5, .inl (kI, 3002, .inl fk)), (mr 6, .inl (kI, 3002, .inl fa)), (mr 8, .inl (kL, 3002, .inr (.inl fn))), (m9, .inr (23, mA mr mv vf xl (nI zs) ff0 xa0 (nI T) (nI pp0) xi xt xn (nI ns) (nI vv) (nI bb0)))] : va_W) ++ (sT L0 F0)) H := hP
    replace hD : va_D A (([(ss, .inr (19, [.int 1, .int (nI pp), .int 0, .int 0, .int 0, .null, .ref r_1, .null, .null, .null, .null, .null, .null, .int 0])), (mr 5, .inl (kI, 3002, .inl fk)), (mr 6, .inl (kI, 3002, .inl fa)), (mr 8, .inl (kL, 3002, .inr (.inl fn))), (m9, .inr (23, mA mr mv vf xl (nI zs) ff0 xa0 (nI T) (nI pp0) xi xt xn (nI ns) (nI vv) (nI bb0)))] : va_W) ++ (sT L0 F0)) := hD
    replace hK : va_K (dC, dI) vwCl [(kI, .int), (kL, .long), (kE, .object RX15), (kS, .object RX19), (kB, .object RX14), (kA, .object RX13), (kV, .object RX21)] s := hK
    clear hz1 hk1 hPc hDc hKc hFc hP1 hD1 hK1
    obtain rfl : r_3 = 0 := hw
    refine lv_if_eq (tgt := 80) hx hb dX23_plain_17 (by decide) (fun _ => ?_) (fun c_4 => absurd (by decide) c_4)
    refine lv_aload_n hx hb dX23_plain_80 rfl (lv_at hl 0 rfl) ?_
    refine lv_bipush (v := 60) hx hb dX23_plain_81 (by decide) ?_
    replace hPc := hP.subF (f' := [(m9, .inr (23, mA mr mv vf xl (nI zs) ff0 xa0 (nI T) (nI pp0) xi xt xn (nI ns) (nI vv) (nI bb0))), (mr 5, .inl (kI, 3002, .inl fk)), (mr 6, .inl (kI, 3002, .inl fa))]) [4, 1, 2] rfl
    replace hDc := hD.subF (f' := [(m9, .inr (23, mA mr mv vf xl (nI zs) ff0 xa0 (nI T) (nI pp0) xi xt xn (nI ns) (nI vv) (nI bb0))), (mr 5, .inl (kI, 3002, .inl fk)), (mr 6, .inl (kI, 3002, .inl fa))]) [4, 1, 2] (by decide) rfl
    replace hKc := hK.sub (tys' := [(kI, .int)]) [0] rfl
    replace hFc := va_freeT (wc := [(m9, .inr (23, mA mr mv vf xl (nI zs) ff0 xa0 (nI T) (nI pp0) xi xt xn (nI ns) (nI vv) (nI bb0))), (mr 5, .inl (kI, 3002, .inl fk)), (mr 6, .inl (kI, 3002, .inl fa))]) hD hS hA [4, 1, 2] rfl
    refine va_callv (va_runV (As := [.int 60]) (rest := []) ⟨hx, hb, hml, hown, hts⟩ (c_rtkB l dC dI m9 mr mv vf xl xa0 xi xt xn zs T pp0 ns vv bb0 kI fk fa ff0 60 H.size hz_2) (cwV 1 hts g_c_vpl_c_rtkB_83 rfl rfl rfl (by decide +kernel) ⟨by show 1 + 1 ≤ 14 + 14 * k; omega, by show 8 + (2 + 11) + (20) ≤ 322 + 323 * k; omega⟩) ⟨fun a U g mk q => by obtain ⟨q0, q1, qP, qK, qD⟩ := q; exact ⟨q0, q1, qP, va_K.moved (u := U) (U := U.calling g mk a) (Vm.Alike.refl U.vm) qK, qD⟩, va_recv hKc hPc (ci := 23) (q0 := 0) rfl rfl, fun U hU hW => ⟨rfl, by rw [hU], by rw [hU]; exact hPc, va_K.moved hW.alike hKc, hDc.weaken (fun _ _ _ _ => trivial)⟩⟩ rfl rfl hl.1 rfl (lv_room (Nat.le_of_ble_eq_true rfl)) dX23_plain_83 ⟨(show 8 * (pp0 - pp) + 3 + 0 ≤ (8 * (T - pp) + 14) by omega), (show 120 * (pp0 - pp) + 48 + 0 ≤ (120 * (T - pp) + 480) by omega)⟩) hS (fun q _ h => hFc q h) hFc (fun u tS H1 locs ht hvm hw hB hz1 hk1 hS => ?_)
    obtain ⟨hP1, hK1, hD1⟩ := hB
    rw [ht] at hP1
    replace hK1 := va_K.moved hvm.symm hK1
    obtain ⟨hPj, hDj⟩ := va_joinT (wr := [(ss, .inr (19, [.int 1, .int (nI pp), .int 0, .int 0, .int 0, .null, .ref r_1, .null, .null, .null, .null, .null, .null, .int 0])), (mr 8, .inl (kL, 3002, .inr (.inl fn)))]) (w1 := [(m9, .inr (23, mA mr mv vf xl (nI zs) ff0 xa0 (nI T) (nI pp0) xi xt xn (nI ns) (nI vv) (nI bb0))), (mr 5, .inl (kI, 3002, .inl fk)), (mr 6, .inl (kI, 3002, .inl fa))]) hP hD [4, 1, 2] [0, 3] rfl rfl (by decide) (by decide) hk1 hFc hP1 hD1
    replace hP := hPj
    replace hD := hDj
    clear hPj hDj
    replace hK := hK.app hK1
    generalize H1 = H at hP hS ⊢
    replace hP : va_P (dC, dI) vwCl (([(ss, .inr (19, [.int 1, .int (nI pp), .int 0, .int 0, .int 0, .null, .ref r_1, .null, .null, .null, .null, .null, .null, .int 0])), (mr 8, .inl (kL, 3002, .inr (.inl fn))), (m9, .inr (23, mA mr mv vf xl (nI zs) ff0 xa0 (nI T) (nI pp0) xi xt xn (nI ns) (nI vv) (nI bb0))), (mr 5, .inl (kI, 3002, .inl fk)), (mr 6, .inl (kI, 3002, .inl fa))] : va_W) ++ (sT L0 F0)) H := hP
    replace hD : va_D A (([(ss, .inr (19, [.int 1, .int (nI pp), .int 0, .int 0, .int 0, .null, .ref r_1, .null, .null, .null, .null, .null, .null, .int 0])), (mr 8, .inl (kL, 3002, .inr (.inl fn))), (m9, .inr (23, mA mr mv vf xl (nI zs) ff0 xa0 (nI T) (nI pp0) xi xt xn (nI ns) (nI vv) (nI bb0))), (mr 5, .inl (kI, 3002, .inl fk)), (mr 6, .inl (kI, 3002, .inl fa))] : va_W) ++ (sT L0 F0)) := hD
    replace hK : va_K (dC, dI) vwCl [(kI, .int), (kL, .long), (kE, .object RX15), (kS, .object RX19), (kB, .object RX14), (kA, .object RX13), (kV, .object RX21), (kI, .int)] s := hK
    replace hK := hK.sub (tys' := [(kI, .int), (kL, .long), (kE, .object RX15), (kS, .object RX19), (kB, .object RX14), (kA, .object RX13), (kV, .object RX21)]) [0, 1, 2, 3, 4, 5, 6] rfl
    clear hz1 hk1 hPc hDc hKc hFc hP1 hD1 hK1
    refine W.grow (fun hgs0 hgs1 => ?_)
    have hP9 := hP.subT (f' := [(ss, .inr (19, [.int 1, .int (nI pp), .int 0, .int 0, .int 0, .null, (.ref r_1), .null, .null, .null, .null, .null, .null, .int 0])), (m9, .inr (23, mA mr mv vf xl (nI zs) ff0 xa0 (nI T) (nI pp0) xi xt xn (nI ns) (nI vv) (nI bb0))), (mr 5, .inl (kI, 3002, .inl fk)), (mr 6, .inl (kI, 3002, .inl fa)), (mr 8, .inl (kL, 3002, .inr (.inl fn)))]) [0, 2, 3, 4, 1] rfl
    have hD9 := hD.subT (f' := [(ss, .inr (19, [.int 1, .int (nI pp), .int 0, .int 0, .int 0, .null, (.ref r_1), .null, .null, .null, .null, .null, .null, .int 0])), (m9, .inr (23, mA mr mv vf xl (nI zs) ff0 xa0 (nI T) (nI pp0) xi xt xn (nI ns) (nI vv) (nI bb0))), (mr 5, .inl (kI, 3002, .inl fk)), (mr 6, .inl (kI, 3002, .inl fa)), (mr 8, .inl (kL, 3002, .inr (.inl fn)))]) [0, 2, 3, 4, 1] (by decide) rfl
    have hK9 := hK.sub (tys' := [(kI, .int), (kL, .long), (kE, .object RX15), (kS, .object RX19), (kB, .object RX14), (kA, .object RX13), (kV, .object RX21)]) [0, 1, 2, 3, 4, 5, 6] rfl
    refine W.widen (k := (8 * (T - pp) + 14)) (n := (120 * (T - pp) + 480)) (by omega) (by omega) ?_
    exact W.vret hx hb hr (fun tS ht hW => ⟨⟨(), rfl, trivial, L0, F0, ff0, xa0, pp0, bb0, vv, 1, 1, .ref r_1, .null, hf1_0.1, ⟨by omega, by omega, by omega, by omega, by omega, by omega⟩, ⟨by omega, fun q9 => absurd q9 hz_2⟩, (fun q9 => absurd q9 hz_2), by rw [ht]; exact ⟨by omega, by omega⟩, by rw [ht]; exact hP9, va_K.moved hW.alike hK9, hD9⟩, hS.F ht⟩) hS.2.2 dX23_plain_86
