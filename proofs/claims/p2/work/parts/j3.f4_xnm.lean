set_option maxRecDepth 20000 in
theorem g_c_xnm_c_risY_21 : GoodIn wp_c_xnm (wsV RX23 93 RX23 yX23_is wp_c_risY) := goodIn_app (goodIn_f [.methodLink RX23 93 yX23_is, .instanceMethod yX23_is, .selects RX23 yX23_is yX23_is, .initialized RX23] [5, 6, 7, 8] rfl (by decide +kernel)) (goodIn_app (goodIn_f (wf_c_risY) [3, 4, 1] rfl wg_c_risY) (goodIn_app (goodIn_sub in_c_xnm_X23 gd_X23) (goodIn_n)))
set_option maxRecDepth 20000 in
theorem g_c_xnm_c_risN_21 : GoodIn wp_c_xnm (wsV RX23 93 RX23 yX23_is wp_c_risY) := goodIn_app (goodIn_f [.methodLink RX23 93 yX23_is, .instanceMethod yX23_is, .selects RX23 yX23_is yX23_is, .initialized RX23] [5, 6, 7, 8] rfl (by decide +kernel)) (goodIn_app (goodIn_f (wf_c_risY) [3, 4, 1] rfl wg_c_risY) (goodIn_app (goodIn_sub in_c_xnm_X23 gd_X23) (goodIn_n)))
set_option maxRecDepth 20000 in
theorem g_c_xnm_c_xli3_34 : GoodIn wp_c_xnm (wsV RX23 377 RX23 yX23_list wp_c_xli3) := goodIn_app (goodIn_f [.methodLink RX23 377 yX23_list, .instanceMethod yX23_list, .selects RX23 yX23_list yX23_list, .initialized RX23] [50, 51, 52, 8] rfl (by decide +kernel)) (goodIn_app (goodIn_f (wf_c_xli3) [10, 11, 12, 13, 14, 15, 8, 3, 4, 1, 5, 6, 7, 16, 17, 18, 19, 20, 21, 22, 23, 24, 25, 26, 27, 28, 29, 30, 9, 31, 32, 33, 34, 35, 36, 37, 38, 39, 40, 41, 42, 43, 44, 45, 46, 47, 48, 49, 58, 59, 60, 61, 62, 63, 64, 65, 66, 0, 2, 50, 51, 52, 53, 54, 55, 56, 57, 67, 68, 69, 70, 71, 72, 73, 74, 75, 76, 77, 78, 79, 80, 81, 82, 83, 84, 85, 86, 87, 88, 89, 90, 91, 92, 93, 94, 95, 96, 97, 98, 99, 100, 101] rfl wg_c_xli3) (goodIn_app (goodIn_sub in_c_xnm_X23 gd_X23) (goodIn_app (goodIn_sub in_c_xnm_X15 gd_X15) (goodIn_n))))
set_option maxRecDepth 20000 in
theorem g_c_xnm_c_rtsY_43 : GoodIn wp_c_xnm (wsV RX23 125 RX23 yX23_takes wp_c_rtsY) := goodIn_app (goodIn_f [.methodLink RX23 125 yX23_takes, .instanceMethod yX23_takes, .selects RX23 yX23_takes yX23_takes, .initialized RX23] [47, 48, 49, 8] rfl (by decide +kernel)) (goodIn_app (goodIn_f (wf_c_rtsY) [46, 11, 12, 13, 14, 15, 8, 3, 4, 1, 5, 6, 7] rfl wg_c_rtsY) (goodIn_app (goodIn_sub in_c_xnm_X23 gd_X23) (goodIn_n)))
set_option maxRecDepth 20000 in
theorem g_c_xnm_c_rtsN_43 : GoodIn wp_c_xnm (wsV RX23 125 RX23 yX23_takes wp_c_rtsY) := goodIn_app (goodIn_f [.methodLink RX23 125 yX23_takes, .instanceMethod yX23_takes, .selects RX23 yX23_takes yX23_takes, .initialized RX23] [47, 48, 49, 8] rfl (by decide +kernel)) (goodIn_app (goodIn_f (wf_c_rtsY) [46, 11, 12, 13, 14, 15, 8, 3, 4, 1, 5, 6, 7] rfl wg_c_rtsY) (goodIn_app (goodIn_sub in_c_xnm_X23 gd_X23) (goodIn_n)))
set_option maxRecDepth 20000 in
theorem g_c_xnm_c_rnmY_57 : GoodIn wp_c_xnm (wsV RX23 150 RX23 yX23_name wp_c_rnmY) := goodIn_app (goodIn_f [.methodLink RX23 150 yX23_name, .instanceMethod yX23_name, .selects RX23 yX23_name yX23_name, .initialized RX23] [54, 55, 56, 8] rfl (by decide +kernel)) (goodIn_app (goodIn_f (wf_c_rnmY) [53, 27, 11, 12, 13, 14, 15, 8, 3, 4, 1, 5, 6, 7, 18, 19, 20, 21, 22, 23, 28, 29, 30] rfl wg_c_rnmY) (goodIn_app (goodIn_sub in_c_xnm_X23 gd_X23) (goodIn_n)))
set_option maxRecDepth 20000 in
theorem g_c_xnm_c_rnmN_57 : GoodIn wp_c_xnm (wsV RX23 150 RX23 yX23_name wp_c_rnmY) := goodIn_app (goodIn_f [.methodLink RX23 150 yX23_name, .instanceMethod yX23_name, .selects RX23 yX23_name yX23_name, .initialized RX23] [54, 55, 56, 8] rfl (by decide +kernel)) (goodIn_app (goodIn_f (wf_c_rnmY) [53, 27, 11, 12, 13, 14, 15, 8, 3, 4, 1, 5, 6, 7, 18, 19, 20, 21, 22, 23, 28, 29, 30] rfl wg_c_rnmY) (goodIn_app (goodIn_sub in_c_xnm_X23 gd_X23) (goodIn_n)))
set_option maxRecDepth 20000 in
theorem g_c_xnm_c_rok0_64 : GoodIn wp_c_xnm (wsV RX23 89 RX23 yX23_ok wp_c_rok0) := goodIn_app (goodIn_f [.methodLink RX23 89 yX23_ok, .instanceMethod yX23_ok, .selects RX23 yX23_ok yX23_ok, .initialized RX23] [13, 14, 15, 8] rfl (by decide +kernel)) (goodIn_app (goodIn_f (wf_c_rok0) [11, 12] rfl wg_c_rok0) (goodIn_app (goodIn_sub in_c_xnm_X23 gd_X23) (goodIn_n)))
set_option maxRecDepth 20000 in
theorem g_c_xnm_c_risY_73 : GoodIn wp_c_xnm (wsV RX23 93 RX23 yX23_is wp_c_risY) := goodIn_app (goodIn_f [.methodLink RX23 93 yX23_is, .instanceMethod yX23_is, .selects RX23 yX23_is yX23_is, .initialized RX23] [5, 6, 7, 8] rfl (by decide +kernel)) (goodIn_app (goodIn_f (wf_c_risY) [3, 4, 1] rfl wg_c_risY) (goodIn_app (goodIn_sub in_c_xnm_X23 gd_X23) (goodIn_n)))
set_option maxRecDepth 20000 in
theorem g_c_xnm_c_risN_73 : GoodIn wp_c_xnm (wsV RX23 93 RX23 yX23_is wp_c_risY) := goodIn_app (goodIn_f [.methodLink RX23 93 yX23_is, .instanceMethod yX23_is, .selects RX23 yX23_is yX23_is, .initialized RX23] [5, 6, 7, 8] rfl (by decide +kernel)) (goodIn_app (goodIn_f (wf_c_risY) [3, 4, 1] rfl wg_c_risY) (goodIn_app (goodIn_sub in_c_xnm_X23 gd_X23) (goodIn_n)))
set_option maxRecDepth 20000 in
theorem g_c_xnm_c_xli6_81 : GoodIn wp_c_xnm (wsV RX23 377 RX23 yX23_list wp_c_xli6) := goodIn_app (goodIn_f [.methodLink RX23 377 yX23_list, .instanceMethod yX23_list, .selects RX23 yX23_list yX23_list, .initialized RX23] [50, 51, 52, 8] rfl (by decide +kernel)) (goodIn_app (goodIn_f (wf_c_xli6) [10, 11, 12, 13, 14, 15, 8, 3, 4, 1, 5, 6, 7, 16, 17, 18, 19, 20, 21, 22, 23, 24, 25, 26, 27, 28, 29, 30, 9, 31, 32, 33, 34, 35, 36, 37, 38, 39, 40, 41, 42, 43, 44, 45, 46, 47, 48, 49, 58, 59, 60, 61, 62, 63, 64, 65, 66, 0, 2, 50, 51, 52, 53, 54, 55, 56, 57, 67, 68, 69, 70, 71, 72, 73, 74, 75, 76, 77, 78, 79, 80, 81, 82, 83, 84, 85, 86, 87, 88, 89, 90, 91, 92, 93, 94, 95, 96, 97, 98, 99, 100, 101] rfl wg_c_xli6) (goodIn_app (goodIn_sub in_c_xnm_X23 gd_X23) (goodIn_app (goodIn_sub in_c_xnm_X15 gd_X15) (goodIn_n))))
set_option maxRecDepth 20000 in
theorem g_c_xnm_c_rokB_64 : GoodIn wp_c_xnm (wsV RX23 89 RX23 yX23_ok wp_c_rok0) := goodIn_app (goodIn_f [.methodLink RX23 89 yX23_ok, .instanceMethod yX23_ok, .selects RX23 yX23_ok yX23_ok, .initialized RX23] [13, 14, 15, 8] rfl (by decide +kernel)) (goodIn_app (goodIn_f (wf_c_rok0) [11, 12] rfl wg_c_rok0) (goodIn_app (goodIn_sub in_c_xnm_X23 gd_X23) (goodIn_n)))
set_option maxHeartbeats 4000000 in
set_option maxRecDepth 100000 in
theorem c_xnm (l : Launch) (dC : Nat → ClassId) (dI : Nat → Nat → Nat) (k : Nat) (ih : ∀ k1 : Nat, k = k1 + 1 → IH_gx l dC dI k1) : st_c_xnm l dC dI k := by
  intro m9 mr mv vf xl xa xi xt xn zs T pp ns vv bb kI fk fa kL kE fn L F ee tx sl sz hT hp hk0 hbb hnk hk2
  refine Met.ofW (cc := cX23_named) (maxL := 2) (ret := none) (by decide) rfl ?_
  intro p e s m args below meth c s₁ B hml hv
  obtain ⟨rfl, hsz, hP, hK, hD0, hpre0, hpre1⟩ := hv
  have hx := B.exec
  have hb := B.bytes
  have hr := B.returns
  have hts := atoms_spec (ws := wp_c_xnm) B.pre
  have hown : s.vm.findClass RX23 = some m.cls := findClass_of_methodNamed B.named
  have hlocks := B.notSynchronized
  subst hsz
  replace hD := hD0.self (sz := s.heap.size)
  generalize hAe : va_A (([(ee, .inr (15, [.int 0, .int tx, .int 0, .int 0, .int 0, .int 0, .long 0, .int 0, .null, .null, .null, .int 0, .null, .null])), (m9, .inr (23, mA mr mv vf xl (nI zs) 0 xa (nI T) (nI pp) xi xt xn (nI ns) (nI vv) (nI bb))), (mr 5, .inl (kI, 3002, .inl fk)), (mr 6, .inl (kI, 3002, .inl fa)), (mr 8, .inl (kL, 3002, .inr (.inl fn)))] : va_W) ++ (sT L F)) s.heap.size = A at hD ⊢
  have hA : ∀ q : Nat, s.heap.size ≤ q → A q := fun q h => by rw [← hAe]; exact Or.inr h
  have hS : va_S A s.heap s.heap [] := va_S.rf
  replace hP : va_P (dC, dI) vwCl (([(ee, .inr (15, [.int 0, .int tx, .int 0, .int 0, .int 0, .int 0, .long 0, .int 0, .null, .null, .null, .int 0, .null, .null])), (m9, .inr (23, mA mr mv vf xl (nI zs) 0 xa (nI T) (nI pp) xi xt xn (nI ns) (nI vv) (nI bb))), (mr 5, .inl (kI, 3002, .inl fk)), (mr 6, .inl (kI, 3002, .inl fa)), (mr 8, .inl (kL, 3002, .inr (.inl fn)))] : va_W) ++ (sT L F)) s.heap := hP
  replace hl := lv_entry ([.ref m9, .ref ee]) (n := 2) (Nat.le_of_ble_eq_true rfl)
  rw [lg_entry_eq]
  generalize (lg_sl ([.ref m9, .ref ee]) ++ List.replicate (2 - (lg_sl ([.ref m9, .ref ee])).length) Slot.unset).toArray = ls at hl ⊢
  replace hl : lv_has ls 2 [(0, .ref m9), (1, .ref ee)] := hl
  have hns := hpre0
  subst hpre1
  refine lv_aload_n hx hb dX23_named_0 rfl (lv_at hl 1 rfl) ?_
  refine lv_aload_n hx hb dX23_named_1 rfl (lv_at hl 0 rfl) ?_
  refine va_get (D := (dC, dI)) (ci := 23) (v := .int (nI pp)) (C := RX23) (T := TX23) (N := 89) hx hb hts in_c_xnm_X23 hown hK hP 1 rfl rfl 10 (by decide) (hts (.fieldLink RX23 86 "OwnedPlacesModel" "p" "I") (wm_c_xnm 1 rfl)) (fun _ h9 => h9) rfl dX23_named_2 ?_
  refine va_put (D := (dC, dI)) (ci := 15) (v := .int (nI pp)) (ty := .int) (C := RX15) (T := TX15) (N := 14) hx hb hts in_c_xnm_X15 tyX15 tyX15_ok nmX15 hown hK hP hD hS 0 rfl rfl 3 (by decide) (hts (.fieldLink RX23 362 "OwnedPlacesModel$Exp" "name" "I") (wm_c_xnm 2 rfl)) (fun _ h9 => h9) rfl (by decide +kernel) rfl rfl (Nat.le_of_ble_eq_true rfl) dX23_named_5 (fun H locs hP hD hS => ?_)
  replace hP : va_P (dC, dI) vwCl (([(ee, .inr (15, [.int 0, .int tx, .int 0, .int (nI pp), .int 0, .int 0, .long 0, .int 0, .null, .null, .null, .int 0, .null, .null])), (m9, .inr (23, mA mr mv vf xl (nI zs) 0 xa (nI T) (nI pp) xi xt xn (nI ns) (nI vv) (nI bb))), (mr 5, .inl (kI, 3002, .inl fk)), (mr 6, .inl (kI, 3002, .inl fa)), (mr 8, .inl (kL, 3002, .inr (.inl fn)))] : va_W) ++ (sT L F)) H := hP
  replace hD : va_D A (([(ee, .inr (15, [.int 0, .int tx, .int 0, .int (nI pp), .int 0, .int 0, .long 0, .int 0, .null, .null, .null, .int 0, .null, .null])), (m9, .inr (23, mA mr mv vf xl (nI zs) 0 xa (nI T) (nI pp) xi xt xn (nI ns) (nI vv) (nI bb))), (mr 5, .inl (kI, 3002, .inl fk)), (mr 6, .inl (kI, 3002, .inl fa)), (mr 8, .inl (kL, 3002, .inr (.inl fn)))] : va_W) ++ (sT L F)) := hD
  refine lv_aload_n hx hb dX23_named_8 rfl (lv_at hl 0 rfl) ?_
  refine lv_dup hx hb dX23_named_9 rfl ?_
  refine va_get (D := (dC, dI)) (ci := 23) (v := .int (nI pp)) (C := RX23) (T := TX23) (N := 89) hx hb hts in_c_xnm_X23 hown hK hP 1 rfl rfl 10 (by decide) (hts (.fieldLink RX23 86 "OwnedPlacesModel" "p" "I") (wm_c_xnm 1 rfl)) (fun _ h9 => h9) rfl dX23_named_10 ?_
  refine lv_iconst (v := 1) hx hb dX23_named_13 (by decide) ?_
  refine lv_iadd hx hb dX23_named_14 ?_
  refine lv_topi (fun f_1 ef_1 => ?_)
  obtain rfl : f_1 = nI (pp + 1) := ef_1.trans (nI_1 _)
  refine va_put (D := (dC, dI)) (ci := 23) (v := .int (nI (pp + 1))) (ty := .int) (C := RX23) (T := TX23) (N := 89) hx hb hts in_c_xnm_X23 tyX23 tyX23_ok nmX23 hown hK hP hD hS 1 rfl rfl 10 (by decide) (hts (.fieldLink RX23 86 "OwnedPlacesModel" "p" "I") (wm_c_xnm 1 rfl)) (fun _ h9 => h9) rfl (by decide +kernel) rfl rfl (Nat.le_of_ble_eq_true rfl) dX23_named_15 (fun H locs hP hD hS => ?_)
  replace hP : va_P (dC, dI) vwCl (([(ee, .inr (15, [.int 0, .int tx, .int 0, .int (nI pp), .int 0, .int 0, .long 0, .int 0, .null, .null, .null, .int 0, .null, .null])), (m9, .inr (23, mA mr mv vf xl (nI zs) 0 xa (nI T) (nI (pp + 1)) xi xt xn (nI ns) (nI vv) (nI bb))), (mr 5, .inl (kI, 3002, .inl fk)), (mr 6, .inl (kI, 3002, .inl fa)), (mr 8, .inl (kL, 3002, .inr (.inl fn)))] : va_W) ++ (sT L F)) H := hP
  replace hD : va_D A (([(ee, .inr (15, [.int 0, .int tx, .int 0, .int (nI pp), .int 0, .int 0, .long 0, .int 0, .null, .null, .null, .int 0, .null, .null])), (m9, .inr (23, mA mr mv vf xl (nI zs) 0 xa (nI T) (nI (pp + 1)) xi xt xn (nI ns) (nI vv) (nI bb))), (mr 5, .inl (kI, 3002, .inl fk)), (mr 6, .inl (kI, 3002, .inl fa)), (mr 8, .inl (kL, 3002, .inr (.inl fn)))] : va_W) ++ (sT L F)) := hD
  have hp_2 : pp + 1 < T := kne3 hk0 hp hk2 (by decide)
  refine lv_aload_n hx hb dX23_named_18 rfl (lv_at hl 0 rfl) ?_
  refine lv_bipush (v := 61) hx hb dX23_named_19 (by decide) ?_
  by_cases hk_3 : fk (pp + 1) = 61
  · replace hPc := hP.subF (f' := [(m9, .inr (23, mA mr mv vf xl (nI zs) 0 xa (nI T) (nI (pp + 1)) xi xt xn (nI ns) (nI vv) (nI bb))), (mr 5, .inl (kI, 3002, .inl fk))]) [1, 2] rfl
    replace hDc := hD.subF (f' := [(m9, .inr (23, mA mr mv vf xl (nI zs) 0 xa (nI T) (nI (pp + 1)) xi xt xn (nI ns) (nI vv) (nI bb))), (mr 5, .inl (kI, 3002, .inl fk))]) [1, 2] (by decide) rfl
    replace hKc := hK.sub (tys' := [(kI, .int)]) [0] rfl
    replace hFc := va_freeT (wc := [(m9, .inr (23, mA mr mv vf xl (nI zs) 0 xa (nI T) (nI (pp + 1)) xi xt xn (nI ns) (nI vv) (nI bb))), (mr 5, .inl (kI, 3002, .inl fk))]) hD hS hA [1, 2] rfl
    refine va_calli (va_runV (As := [.int 61]) (rest := []) ⟨hx, hb, hml, hown, hts⟩ (c_risY l dC dI m9 mr mv vf xl xa xi xt xn zs T (pp + 1) ns vv bb kI fk fa 0 61 H.size hT hp_2 hk_3) (cwV 1 hts g_c_xnm_c_risY_21 rfl rfl rfl (by decide +kernel) ⟨by show 0 + 1 ≤ 3 + 12 * k; omega, by show 8 + (2 + 11) + (0) ≤ 65 + 279 * k; omega⟩) ⟨fun a U g mk q => by obtain ⟨q0, q1, qP, qK, qD⟩ := q; exact ⟨q0, q1, qP, va_K.moved (u := U) (U := U.calling g mk a) (Vm.Alike.refl U.vm) qK, qD⟩, va_recv hKc hPc (ci := 23) (q0 := 0) rfl rfl, fun U hU hW => ⟨rfl, by rw [hU], by rw [hU]; exact hPc, va_K.moved hW.alike hKc, hDc.weaken (fun _ _ _ _ => trivial)⟩⟩ rfl rfl hl.1 rfl (lv_room (Nat.le_of_ble_eq_true rfl)) dX23_named_21 ⟨(show 0 + 0 ≤ (8 * (T - pp) + 3) by omega), (show 0 + 0 ≤ (120 * (T - pp) + 280) by omega)⟩) hS (fun q _ h => hFc q h) hFc (fun r_4 u tS H1 locs ht hvm hw hB hz1 hk1 hS => ?_)
    obtain ⟨hP1, hK1, hD1⟩ := hB
    rw [ht] at hP1
    replace hK1 := va_K.moved hvm.symm hK1
    obtain ⟨hPj, hDj⟩ := va_joinT (wr := [(ee, .inr (15, [.int 0, .int tx, .int 0, .int (nI pp), .int 0, .int 0, .long 0, .int 0, .null, .null, .null, .int 0, .null, .null])), (mr 6, .inl (kI, 3002, .inl fa)), (mr 8, .inl (kL, 3002, .inr (.inl fn)))]) (w1 := [(m9, .inr (23, mA mr mv vf xl (nI zs) 0 xa (nI T) (nI (pp + 1)) xi xt xn (nI ns) (nI vv) (nI bb))), (mr 5, .inl (kI, 3002, .inl fk))]) hP hD [1, 2] [0, 3, 4] rfl rfl (by decide) (by decide) hk1 hFc hP1 hD1
    replace hP := hPj
    replace hD := hDj
    clear hPj hDj
    replace hK := hK.app hK1
    generalize H1 = H at hP hS ⊢
    replace hP : va_P (dC, dI) vwCl (([(ee, .inr (15, [.int 0, .int tx, .int 0, .int (nI pp), .int 0, .int 0, .long 0, .int 0, .null, .null, .null, .int 0, .null, .null])), (mr 6, .inl (kI, 3002, .inl fa)), (mr 8, .inl (kL, 3002, .inr (.inl fn))), (m9, .inr (23, mA mr mv vf xl (nI zs) 0 xa (nI T) (nI (pp + 1)) xi xt xn (nI ns) (nI vv) (nI bb))), (mr 5, .inl (kI, 3002, .inl fk))] : va_W) ++ (sT L F)) H := hP
    replace hD : va_D A (([(ee, .inr (15, [.int 0, .int tx, .int 0, .int (nI pp), .int 0, .int 0, .long 0, .int 0, .null, .null, .null, .int 0, .null, .null])), (mr 6, .inl (kI, 3002, .inl fa)), (mr 8, .inl (kL, 3002, .inr (.inl fn))), (m9, .inr (23, mA mr mv vf xl (nI zs) 0 xa (nI T) (nI (pp + 1)) xi xt xn (nI ns) (nI vv) (nI bb))), (mr 5, .inl (kI, 3002, .inl fk))] : va_W) ++ (sT L F)) := hD
    replace hK : va_K (dC, dI) vwCl [(kI, .int), (kL, .long), (kE, .object RX15), (kI, .int)] s := hK
    replace hK := hK.sub (tys' := [(kI, .int), (kL, .long), (kE, .object RX15)]) [0, 1, 2] rfl
    clear hz1 hk1 hPc hDc hKc hFc hP1 hD1 hK1
    obtain rfl : r_4 = 1 := hw
    refine lv_if_eq (tgt := 40) hx hb dX23_named_24 (by decide) (fun c_5 => absurd c_5 (by decide)) (fun _ => ?_)
    refine lv_aload_n hx hb dX23_named_27 rfl (lv_at hl 1 rfl) ?_
    refine lv_iconst (v := 3) hx hb dX23_named_28 (by decide) ?_
    refine va_put (D := (dC, dI)) (ci := 15) (v := .int 3) (ty := .int) (C := RX15) (T := TX15) (N := 14) hx hb hts in_c_xnm_X15 tyX15 tyX15_ok nmX15 hown hK hP hD hS 0 rfl rfl 0 (by decide) (hts (.fieldLink RX23 330 "OwnedPlacesModel$Exp" "kind" "I") (wm_c_xnm 9 rfl)) (fun _ h9 => h9) rfl (by decide +kernel) rfl rfl (Nat.le_of_ble_eq_true rfl) dX23_named_29 (fun H locs hP hD hS => ?_)
    replace hP : va_P (dC, dI) vwCl (([(ee, .inr (15, [.int 3, .int tx, .int 0, .int (nI pp), .int 0, .int 0, .long 0, .int 0, .null, .null, .null, .int 0, .null, .null])), (mr 6, .inl (kI, 3002, .inl fa)), (mr 8, .inl (kL, 3002, .inr (.inl fn))), (m9, .inr (23, mA mr mv vf xl (nI zs) 0 xa (nI T) (nI (pp + 1)) xi xt xn (nI ns) (nI vv) (nI bb))), (mr 5, .inl (kI, 3002, .inl fk))] : va_W) ++ (sT L F)) H := hP
    replace hD : va_D A (([(ee, .inr (15, [.int 3, .int tx, .int 0, .int (nI pp), .int 0, .int 0, .long 0, .int 0, .null, .null, .null, .int 0, .null, .null])), (mr 6, .inl (kI, 3002, .inl fa)), (mr 8, .inl (kL, 3002, .inr (.inl fn))), (m9, .inr (23, mA mr mv vf xl (nI zs) 0 xa (nI T) (nI (pp + 1)) xi xt xn (nI ns) (nI vv) (nI bb))), (mr 5, .inl (kI, 3002, .inl fk))] : va_W) ++ (sT L F)) := hD
    refine lv_aload_n hx hb dX23_named_32 rfl (lv_at hl 0 rfl) ?_
    refine lv_aload_n hx hb dX23_named_33 rfl (lv_at hl 1 rfl) ?_
    replace hPc := hP.subT (f' := [(ee, .inr (15, [.int 3, .int tx, .int 0, .int (nI pp), .int 0, .int 0, .long 0, .int 0, .null, .null, .null, .int 0, .null, .null])), (m9, .inr (23, mA mr mv vf xl (nI zs) 0 xa (nI T) (nI (pp + 1)) xi xt xn (nI ns) (nI vv) (nI bb))), (mr 5, .inl (kI, 3002, .inl fk)), (mr 6, .inl (kI, 3002, .inl fa)), (mr 8, .inl (kL, 3002, .inr (.inl fn)))]) [0, 3, 4, 1, 2] rfl
    replace hDc := hD.subT (f' := [(ee, .inr (15, [.int 3, .int tx, .int 0, .int (nI pp), .int 0, .int 0, .long 0, .int 0, .null, .null, .null, .int 0, .null, .null])), (m9, .inr (23, mA mr mv vf xl (nI zs) 0 xa (nI T) (nI (pp + 1)) xi xt xn (nI ns) (nI vv) (nI bb))), (mr 5, .inl (kI, 3002, .inl fk)), (mr 6, .inl (kI, 3002, .inl fa)), (mr 8, .inl (kL, 3002, .inr (.inl fn)))]) [0, 3, 4, 1, 2] (by decide) rfl
    replace hKc := hK.sub (tys' := [(kI, .int), (kL, .long), (kE, .object RX15)]) [0, 1, 2] rfl
    replace hFc := va_freeB (wc := [(ee, .inr (15, [.int 3, .int tx, .int 0, .int (nI pp), .int 0, .int 0, .long 0, .int 0, .null, .null, .null, .int 0, .null, .null])), (m9, .inr (23, mA mr mv vf xl (nI zs) 0 xa (nI T) (nI (pp + 1)) xi xt xn (nI ns) (nI vv) (nI bb))), (mr 5, .inl (kI, 3002, .inl fk)), (mr 6, .inl (kI, 3002, .inl fa)), (mr 8, .inl (kL, 3002, .inr (.inl fn)))]) hD hS hA [0, 3, 4, 1, 2] rfl
    refine W.grow (fun hgs0 hgs1 => ?_)
    refine va_callv (va_runV (As := [.ref ee]) (rest := []) ⟨hx, hb, hml, hown, hts⟩ (c_xli3 l dC dI k ih m9 mr mv vf xl xa xi xt xn zs T (pp + 1) ns vv bb kI fk fa kL kE fn L F ee tx 0 (nI pp) (slN H) H.size hT hp_2 hk0 hbb (by omega)) (cwV 1 hts g_c_xnm_c_xli3_34 rfl rfl rfl (by decide +kernel) ⟨by show 2 + 12 * k + 1 ≤ 3 + 12 * k; omega, by show 8 + (3 + 11) + (43 + 279 * k) ≤ 65 + 279 * k; omega⟩) ⟨fun a U g mk q => by obtain ⟨q0, q1, qP, qK, qD, qx0, qx1⟩ := q; exact ⟨q0, q1, qP, va_K.moved (u := U) (U := U.calling g mk a) (Vm.Alike.refl U.vm) qK, qD, nsM.same (u := U) (U := U.calling g mk a) rfl qx0, qx1⟩, va_recv hKc hPc (ci := 23) (q0 := 1) rfl rfl, fun U hU hW => ⟨rfl, by rw [hU], by rw [hU]; exact hPc, va_K.moved hW.alike hKc, hDc.weaken (fun _ _ _ _ => trivial), nsM.warm hW hns, by rw [hU]⟩⟩ rfl rfl hl.1 rfl (lv_room (Nat.le_of_ble_eq_true rfl)) dX23_named_34 ⟨(show 0 + (8 * (T - (pp + 1)) + 3) ≤ (8 * (T - pp) + 3) by omega), (show 0 + (120 * (T - (pp + 1)) + 280) ≤ (120 * (T - pp) + 280) by omega)⟩) hS (fun q _ h => hFc q h) hFc (fun u tS H1 locs ht hvm hw hB hz1 hk1 hS => ?_)
    obtain ⟨L5, F5, ff5, xa5, pp5, bb5, li5, si5, mn5, hf6_0, hf6_1, hf6_2, hf6_3, hP1, hK1, hD1⟩ := hB
    rw [ht] at hP1
    replace hK1 := va_K.moved hvm.symm hK1
    rw [ht] at hf6_3
    have hgz : H1.size ≤ s.heap.size + (8 * (pp5 - (pp + 1))) ∧ slN H1 ≤ slN s.heap + (120 * (pp5 - (pp + 1))) := ⟨by have := hf6_3.1; omega, by have := hf6_3.2; omega⟩
    obtain ⟨hPj, hDj⟩ := va_joinB (wr := []) (w1 := [(ee, .inr (15, [.int 3, .int tx, .int 0, .int (nI pp), .int 0, .int 0, .long 0, .int 0, .null, li5, si5, .int (nI mn5), .null, .null])), (m9, .inr (23, mA mr mv vf xl (nI zs) ff5 xa5 (nI T) (nI pp5) xi xt xn (nI ns) (nI vv) (nI bb5))), (mr 5, .inl (kI, 3002, .inl fk)), (mr 6, .inl (kI, 3002, .inl fa)), (mr 8, .inl (kL, 3002, .inr (.inl fn)))]) hP hD [0, 3, 4, 1, 2] [] rfl rfl (by decide) (by decide) hk1 hFc hP1 hD1
    replace hP := hPj
    replace hD := hDj
    clear hPj hDj
    replace hK := hK.app hK1
    generalize H1 = H at hP hS hgz ⊢
    replace hP : va_P (dC, dI) vwCl (([(ee, .inr (15, [.int 3, .int tx, .int 0, .int (nI pp), .int 0, .int 0, .long 0, .int 0, .null, li5, si5, .int (nI mn5), .null, .null])), (m9, .inr (23, mA mr mv vf xl (nI zs) ff5 xa5 (nI T) (nI pp5) xi xt xn (nI ns) (nI vv) (nI bb5))), (mr 5, .inl (kI, 3002, .inl fk)), (mr 6, .inl (kI, 3002, .inl fa)), (mr 8, .inl (kL, 3002, .inr (.inl fn)))] : va_W) ++ (sT L5 F5)) H := hP
    replace hD : va_D A (([(ee, .inr (15, [.int 3, .int tx, .int 0, .int (nI pp), .int 0, .int 0, .long 0, .int 0, .null, li5, si5, .int (nI mn5), .null, .null])), (m9, .inr (23, mA mr mv vf xl (nI zs) ff5 xa5 (nI T) (nI pp5) xi xt xn (nI ns) (nI vv) (nI bb5))), (mr 5, .inl (kI, 3002, .inl fk)), (mr 6, .inl (kI, 3002, .inl fa)), (mr 8, .inl (kL, 3002, .inr (.inl fn)))] : va_W) ++ (sT L5 F5)) := hD
    replace hK : va_K (dC, dI) vwCl [(kI, .int), (kL, .long), (kE, .object RX15), (kI, .int), (kL, .long), (kE, .object RX15)] s := hK
    replace hK := hK.sub (tys' := [(kI, .int), (kL, .long), (kE, .object RX15)]) [0, 1, 2] rfl
    refine W.tight (k := 8 * (pp5 - (pp + 1))) (n := 120 * (pp5 - (pp + 1))) hgz.1 hgz.2 ?_
    clear hz1 hk1 hPc hDc hKc hFc hP1 hD1 hK1
    refine lv_goto (tgt := 92) hx hb dX23_named_37 (by decide) ?_
    by_cases hz_7 : ff5 = 0
    · subst hz_7
      have hg5 := hf6_2 rfl
      refine W.grow (fun hgs0 hgs1 => ?_)
      have hP9 := hP.subT (f' := [(ee, .inr (15, [.int 3, .int tx, .int 0, .int (nI pp), .int 0, .int 0, .long 0, .int 0, .null, li5, si5, .int (nI mn5), .null, .null])), (m9, .inr (23, mA mr mv vf xl (nI zs) 0 xa5 (nI T) (nI pp5) xi xt xn (nI ns) (nI vv) (nI bb5))), (mr 5, .inl (kI, 3002, .inl fk)), (mr 6, .inl (kI, 3002, .inl fa)), (mr 8, .inl (kL, 3002, .inr (.inl fn)))]) [0, 1, 2, 3, 4] rfl
      have hD9 := hD.subT (f' := [(ee, .inr (15, [.int 3, .int tx, .int 0, .int (nI pp), .int 0, .int 0, .long 0, .int 0, .null, li5, si5, .int (nI mn5), .null, .null])), (m9, .inr (23, mA mr mv vf xl (nI zs) 0 xa5 (nI T) (nI pp5) xi xt xn (nI ns) (nI vv) (nI bb5))), (mr 5, .inl (kI, 3002, .inl fk)), (mr 6, .inl (kI, 3002, .inl fa)), (mr 8, .inl (kL, 3002, .inr (.inl fn)))]) [0, 1, 2, 3, 4] (by decide) rfl
      have hK9 := hK.sub (tys' := [(kI, .int), (kL, .long), (kE, .object RX15)]) [0, 1, 2] rfl
      refine W.widen (k := (8 * (T - pp) + 3)) (n := (120 * (T - pp) + 280)) (by omega) (by omega) ?_
      exact W.vret hx hb hr (fun tS ht hW => ⟨⟨(), rfl, trivial, L5, F5, 0, xa5, pp5, bb5, 3, 0, (nI pp), li5, si5, mn5, hf6_0, ⟨by omega, by omega, by omega, by omega⟩, (fun _ => ⟨hg5.1, by omega, Or.inr ⟨Or.inl ⟨rfl, rfl, rfl⟩, hg5.2.2⟩⟩), by rw [ht]; exact ⟨by omega, by omega⟩, by rw [ht]; exact hP9, va_K.moved hW.alike hK9, hD9⟩, hS.F ht⟩) hS.2.2 dX23_named_92
    · refine W.grow (fun hgs0 hgs1 => ?_)
      have hP9 := hP.subT (f' := [(ee, .inr (15, [.int 3, .int tx, .int 0, .int (nI pp), .int 0, .int 0, .long 0, .int 0, .null, li5, si5, .int (nI mn5), .null, .null])), (m9, .inr (23, mA mr mv vf xl (nI zs) ff5 xa5 (nI T) (nI pp5) xi xt xn (nI ns) (nI vv) (nI bb5))), (mr 5, .inl (kI, 3002, .inl fk)), (mr 6, .inl (kI, 3002, .inl fa)), (mr 8, .inl (kL, 3002, .inr (.inl fn)))]) [0, 1, 2, 3, 4] rfl
      have hD9 := hD.subT (f' := [(ee, .inr (15, [.int 3, .int tx, .int 0, .int (nI pp), .int 0, .int 0, .long 0, .int 0, .null, li5, si5, .int (nI mn5), .null, .null])), (m9, .inr (23, mA mr mv vf xl (nI zs) ff5 xa5 (nI T) (nI pp5) xi xt xn (nI ns) (nI vv) (nI bb5))), (mr 5, .inl (kI, 3002, .inl fk)), (mr 6, .inl (kI, 3002, .inl fa)), (mr 8, .inl (kL, 3002, .inr (.inl fn)))]) [0, 1, 2, 3, 4] (by decide) rfl
      have hK9 := hK.sub (tys' := [(kI, .int), (kL, .long), (kE, .object RX15)]) [0, 1, 2] rfl
      refine W.widen (k := (8 * (T - pp) + 3)) (n := (120 * (T - pp) + 280)) (by omega) (by omega) ?_
      exact W.vret hx hb hr (fun tS ht hW => ⟨⟨(), rfl, trivial, L5, F5, ff5, xa5, pp5, bb5, 3, 0, (nI pp), li5, si5, mn5, hf6_0, ⟨by omega, by omega, by omega, by omega⟩, (fun q9 => absurd q9 hz_7), by rw [ht]; exact ⟨by omega, by omega⟩, by rw [ht]; exact hP9, va_K.moved hW.alike hK9, hD9⟩, hS.F ht⟩) hS.2.2 dX23_named_92
  · replace hPc := hP.subF (f' := [(m9, .inr (23, mA mr mv vf xl (nI zs) 0 xa (nI T) (nI (pp + 1)) xi xt xn (nI ns) (nI vv) (nI bb))), (mr 5, .inl (kI, 3002, .inl fk))]) [1, 2] rfl
    replace hDc := hD.subF (f' := [(m9, .inr (23, mA mr mv vf xl (nI zs) 0 xa (nI T) (nI (pp + 1)) xi xt xn (nI ns) (nI vv) (nI bb))), (mr 5, .inl (kI, 3002, .inl fk))]) [1, 2] (by decide) rfl
    replace hKc := hK.sub (tys' := [(kI, .int)]) [0] rfl
    replace hFc := va_freeT (wc := [(m9, .inr (23, mA mr mv vf xl (nI zs) 0 xa (nI T) (nI (pp + 1)) xi xt xn (nI ns) (nI vv) (nI bb))), (mr 5, .inl (kI, 3002, .inl fk))]) hD hS hA [1, 2] rfl
    refine va_calli (va_runV (As := [.int 61]) (rest := []) ⟨hx, hb, hml, hown, hts⟩ (c_risN l dC dI m9 mr mv vf xl xa xi xt xn zs T (pp + 1) ns vv bb kI fk fa 0 61 H.size hT hp_2 hk_3) (cwV 1 hts g_c_xnm_c_risN_21 rfl rfl rfl (by decide +kernel) ⟨by show 0 + 1 ≤ 3 + 12 * k; omega, by show 8 + (2 + 11) + (0) ≤ 65 + 279 * k; omega⟩) ⟨fun a U g mk q => by obtain ⟨q0, q1, qP, qK, qD⟩ := q; exact ⟨q0, q1, qP, va_K.moved (u := U) (U := U.calling g mk a) (Vm.Alike.refl U.vm) qK, qD⟩, va_recv hKc hPc (ci := 23) (q0 := 0) rfl rfl, fun U hU hW => ⟨rfl, by rw [hU], by rw [hU]; exact hPc, va_K.moved hW.alike hKc, hDc.weaken (fun _ _ _ _ => trivial)⟩⟩ rfl rfl hl.1 rfl (lv_room (Nat.le_of_ble_eq_true rfl)) dX23_named_21 ⟨(show 0 + 0 ≤ (8 * (T - pp) + 3) by omega), (show 0 + 0 ≤ (120 * (T - pp) + 280) by omega)⟩) hS (fun q _ h => hFc q h) hFc (fun r_4 u tS H1 locs ht hvm hw hB hz1 hk1 hS => ?_)
    obtain ⟨hP1, hK1, hD1⟩ := hB
    rw [ht] at hP1
    replace hK1 := va_K.moved hvm.symm hK1
    obtain ⟨hPj, hDj⟩ := va_joinT (wr := [(ee, .inr (15, [.int 0, .int tx, .int 0, .int (nI pp), .int 0, .int 0, .long 0, .int 0, .null, .null, .null, .int 0, .null, .null])), (mr 6, .inl (kI, 3002, .inl fa)), (mr 8, .inl (kL, 3002, .inr (.inl fn)))]) (w1 := [(m9, .inr (23, mA mr mv vf xl (nI zs) 0 xa (nI T) (nI (pp + 1)) xi xt xn (nI ns) (nI vv) (nI bb))), (mr 5, .inl (kI, 3002, .inl fk))]) hP hD [1, 2] [0, 3, 4] rfl rfl (by decide) (by decide) hk1 hFc hP1 hD1
    replace hP := hPj
    replace hD := hDj
    clear hPj hDj
    replace hK := hK.app hK1
    generalize H1 = H at hP hS ⊢
    replace hP : va_P (dC, dI) vwCl (([(ee, .inr (15, [.int 0, .int tx, .int 0, .int (nI pp), .int 0, .int 0, .long 0, .int 0, .null, .null, .null, .int 0, .null, .null])), (mr 6, .inl (kI, 3002, .inl fa)), (mr 8, .inl (kL, 3002, .inr (.inl fn))), (m9, .inr (23, mA mr mv vf xl (nI zs) 0 xa (nI T) (nI (pp + 1)) xi xt xn (nI ns) (nI vv) (nI bb))), (mr 5, .inl (kI, 3002, .inl fk))] : va_W) ++ (sT L F)) H := hP
    replace hD : va_D A (([(ee, .inr (15, [.int 0, .int tx, .int 0, .int (nI pp), .int 0, .int 0, .long 0, .int 0, .null, .null, .null, .int 0, .null, .null])), (mr 6, .inl (kI, 3002, .inl fa)), (mr 8, .inl (kL, 3002, .inr (.inl fn))), (m9, .inr (23, mA mr mv vf xl (nI zs) 0 xa (nI T) (nI (pp + 1)) xi xt xn (nI ns) (nI vv) (nI bb))), (mr 5, .inl (kI, 3002, .inl fk))] : va_W) ++ (sT L F)) := hD
    replace hK : va_K (dC, dI) vwCl [(kI, .int), (kL, .long), (kE, .object RX15), (kI, .int)] s := hK
    replace hK := hK.sub (tys' := [(kI, .int), (kL, .long), (kE, .object RX15)]) [0, 1, 2] rfl
    clear hz1 hk1 hPc hDc hKc hFc hP1 hD1 hK1
    obtain rfl : r_4 = 0 := hw
    refine lv_if_eq (tgt := 40) hx hb dX23_named_24 (by decide) (fun _ => ?_) (fun c_5 => absurd (by decide) c_5)
    refine lv_aload_n hx hb dX23_named_40 rfl (lv_at hl 0 rfl) ?_
    refine lv_bipush (v := 59) hx hb dX23_named_41 (by decide) ?_
    by_cases hk_6 : fk (pp + 1) = 59
    · replace hPc := hP.subF (f' := [(m9, .inr (23, mA mr mv vf xl (nI zs) 0 xa (nI T) (nI (pp + 1)) xi xt xn (nI ns) (nI vv) (nI bb))), (mr 5, .inl (kI, 3002, .inl fk))]) [3, 4] rfl
      replace hDc := hD.subF (f' := [(m9, .inr (23, mA mr mv vf xl (nI zs) 0 xa (nI T) (nI (pp + 1)) xi xt xn (nI ns) (nI vv) (nI bb))), (mr 5, .inl (kI, 3002, .inl fk))]) [3, 4] (by decide) rfl
      replace hKc := hK.sub (tys' := [(kI, .int)]) [0] rfl
      replace hFc := va_freeT (wc := [(m9, .inr (23, mA mr mv vf xl (nI zs) 0 xa (nI T) (nI (pp + 1)) xi xt xn (nI ns) (nI vv) (nI bb))), (mr 5, .inl (kI, 3002, .inl fk))]) hD hS hA [3, 4] rfl
      refine va_calli (va_runV (As := [.int 59]) (rest := []) ⟨hx, hb, hml, hown, hts⟩ (c_rtsY l dC dI m9 mr mv vf xl xa xi xt xn zs T (pp + 1) ns vv bb kI fk fa 59 H.size hT hp_2 hk0 (by decide) hk_6) (cwV 1 hts g_c_xnm_c_rtsY_43 rfl rfl rfl (by decide +kernel) ⟨by show 1 + 1 ≤ 3 + 12 * k; omega, by show 8 + (2 + 11) + (21) ≤ 65 + 279 * k; omega⟩) ⟨fun a U g mk q => by obtain ⟨q0, q1, qP, qK, qD⟩ := q; exact ⟨q0, q1, qP, va_K.moved (u := U) (U := U.calling g mk a) (Vm.Alike.refl U.vm) qK, qD⟩, va_recv hKc hPc (ci := 23) (q0 := 0) rfl rfl, fun U hU hW => ⟨rfl, by rw [hU], by rw [hU]; exact hPc, va_K.moved hW.alike hKc, hDc.weaken (fun _ _ _ _ => trivial)⟩⟩ rfl rfl hl.1 rfl (lv_room (Nat.le_of_ble_eq_true rfl)) dX23_named_43 ⟨(show 0 + 0 ≤ (8 * (T - pp) + 3) by omega), (show 0 + 0 ≤ (120 * (T - pp) + 280) by omega)⟩) hS (fun q _ h => hFc q h) hFc (fun r_7 u tS H1 locs ht hvm hw hB hz1 hk1 hS => ?_)
      obtain ⟨hP1, hK1, hD1⟩ := hB
      rw [ht] at hP1
      replace hK1 := va_K.moved hvm.symm hK1
      obtain ⟨hPj, hDj⟩ := va_joinT (wr := [(ee, .inr (15, [.int 0, .int tx, .int 0, .int (nI pp), .int 0, .int 0, .long 0, .int 0, .null, .null, .null, .int 0, .null, .null])), (mr 6, .inl (kI, 3002, .inl fa)), (mr 8, .inl (kL, 3002, .inr (.inl fn)))]) (w1 := [(m9, .inr (23, mA mr mv vf xl (nI zs) 0 xa (nI T) (nI ((pp + 1) + 1)) xi xt xn (nI ns) (nI vv) (nI bb))), (mr 5, .inl (kI, 3002, .inl fk))]) hP hD [3, 4] [0, 1, 2] rfl rfl (by decide) (by decide) hk1 hFc hP1 hD1
      replace hP := hPj
      replace hD := hDj
      clear hPj hDj
      replace hK := hK.app hK1
      generalize H1 = H at hP hS ⊢
      replace hP : va_P (dC, dI) vwCl (([(ee, .inr (15, [.int 0, .int tx, .int 0, .int (nI pp), .int 0, .int 0, .long 0, .int 0, .null, .null, .null, .int 0, .null, .null])), (mr 6, .inl (kI, 3002, .inl fa)), (mr 8, .inl (kL, 3002, .inr (.inl fn))), (m9, .inr (23, mA mr mv vf xl (nI zs) 0 xa (nI T) (nI ((pp + 1) + 1)) xi xt xn (nI ns) (nI vv) (nI bb))), (mr 5, .inl (kI, 3002, .inl fk))] : va_W) ++ (sT L F)) H := hP
      replace hD : va_D A (([(ee, .inr (15, [.int 0, .int tx, .int 0, .int (nI pp), .int 0, .int 0, .long 0, .int 0, .null, .null, .null, .int 0, .null, .null])), (mr 6, .inl (kI, 3002, .inl fa)), (mr 8, .inl (kL, 3002, .inr (.inl fn))), (m9, .inr (23, mA mr mv vf xl (nI zs) 0 xa (nI T) (nI ((pp + 1) + 1)) xi xt xn (nI ns) (nI vv) (nI bb))), (mr 5, .inl (kI, 3002, .inl fk))] : va_W) ++ (sT L F)) := hD
      replace hK : va_K (dC, dI) vwCl [(kI, .int), (kL, .long), (kE, .object RX15), (kI, .int)] s := hK
      replace hK := hK.sub (tys' := [(kI, .int), (kL, .long), (kE, .object RX15)]) [0, 1, 2] rfl
      clear hz1 hk1 hPc hDc hKc hFc hP1 hD1 hK1
      obtain rfl : r_7 = 1 := hw
      have hp_8 : pp + 1 + 1 < T := kne3 hk0 hp_2 hk_6 (by decide)
      refine lv_if_eq (tgt := 87) hx hb dX23_named_46 (by decide) (fun c_9 => absurd c_9 (by decide)) (fun _ => ?_)
      refine lv_aload_n hx hb dX23_named_49 rfl (lv_at hl 1 rfl) ?_
      refine lv_bipush (v := 6) hx hb dX23_named_50 (by decide) ?_
      refine va_put (D := (dC, dI)) (ci := 15) (v := .int 6) (ty := .int) (C := RX15) (T := TX15) (N := 14) hx hb hts in_c_xnm_X15 tyX15 tyX15_ok nmX15 hown hK hP hD hS 0 rfl rfl 0 (by decide) (hts (.fieldLink RX23 330 "OwnedPlacesModel$Exp" "kind" "I") (wm_c_xnm 9 rfl)) (fun _ h9 => h9) rfl (by decide +kernel) rfl rfl (Nat.le_of_ble_eq_true rfl) dX23_named_52 (fun H locs hP hD hS => ?_)
      replace hP : va_P (dC, dI) vwCl (([(ee, .inr (15, [.int 6, .int tx, .int 0, .int (nI pp), .int 0, .int 0, .long 0, .int 0, .null, .null, .null, .int 0, .null, .null])), (mr 6, .inl (kI, 3002, .inl fa)), (mr 8, .inl (kL, 3002, .inr (.inl fn))), (m9, .inr (23, mA mr mv vf xl (nI zs) 0 xa (nI T) (nI (pp + 1 + 1)) xi xt xn (nI ns) (nI vv) (nI bb))), (mr 5, .inl (kI, 3002, .inl fk))] : va_W) ++ (sT L F)) H := hP
      replace hD : va_D A (([(ee, .inr (15, [.int 6, .int tx, .int 0, .int (nI pp), .int 0, .int 0, .long 0, .int 0, .null, .null, .null, .int 0, .null, .null])), (mr 6, .inl (kI, 3002, .inl fa)), (mr 8, .inl (kL, 3002, .inr (.inl fn))), (m9, .inr (23, mA mr mv vf xl (nI zs) 0 xa (nI T) (nI (pp + 1 + 1)) xi xt xn (nI ns) (nI vv) (nI bb))), (mr 5, .inl (kI, 3002, .inl fk))] : va_W) ++ (sT L F)) := hD
      refine lv_aload_n hx hb dX23_named_55 rfl (lv_at hl 1 rfl) ?_
      refine lv_aload_n hx hb dX23_named_56 rfl (lv_at hl 0 rfl) ?_
      by_cases hk_10 : fk (pp + 1 + 1) = 2
      · replace hPc := hP.subF (f' := [(m9, .inr (23, mA mr mv vf xl (nI zs) 0 xa (nI T) (nI (pp + 1 + 1)) xi xt xn (nI ns) (nI vv) (nI bb))), (mr 5, .inl (kI, 3002, .inl fk)), (mr 6, .inl (kI, 3002, .inl fa))]) [3, 4, 1] rfl
        replace hDc := hD.subF (f' := [(m9, .inr (23, mA mr mv vf xl (nI zs) 0 xa (nI T) (nI (pp + 1 + 1)) xi xt xn (nI ns) (nI vv) (nI bb))), (mr 5, .inl (kI, 3002, .inl fk)), (mr 6, .inl (kI, 3002, .inl fa))]) [3, 4, 1] (by decide) rfl
        replace hKc := hK.sub (tys' := [(kI, .int)]) [0] rfl
        replace hFc := va_freeT (wc := [(m9, .inr (23, mA mr mv vf xl (nI zs) 0 xa (nI T) (nI (pp + 1 + 1)) xi xt xn (nI ns) (nI vv) (nI bb))), (mr 5, .inl (kI, 3002, .inl fk)), (mr 6, .inl (kI, 3002, .inl fa))]) hD hS hA [3, 4, 1] rfl
        refine va_calli (va_runV (As := []) (rest := [.ref ee]) ⟨hx, hb, hml, hown, hts⟩ (c_rnmY l dC dI m9 mr mv vf xl xa xi xt xn zs T (pp + 1 + 1) ns vv bb kI fk fa H.size hT hp_8 hk0 hk_10) (cwV 0 hts g_c_xnm_c_rnmY_57 rfl rfl rfl (by decide +kernel) ⟨by show 2 + 1 ≤ 3 + 12 * k; omega, by show 8 + (1 + 11) + (42) ≤ 65 + 279 * k; omega⟩) ⟨fun a U g mk q => by obtain ⟨q0, q1, qP, qK, qD⟩ := q; exact ⟨q0, q1, qP, va_K.moved (u := U) (U := U.calling g mk a) (Vm.Alike.refl U.vm) qK, qD⟩, va_recv hKc hPc (ci := 23) (q0 := 0) rfl rfl, fun U hU hW => ⟨rfl, by rw [hU], by rw [hU]; exact hPc, va_K.moved hW.alike hKc, hDc.weaken (fun _ _ _ _ => trivial)⟩⟩ rfl rfl hl.1 rfl (lv_room (Nat.le_of_ble_eq_true rfl)) dX23_named_57 ⟨(show 0 + 0 ≤ (8 * (T - pp) + 3) by omega), (show 0 + 0 ≤ (120 * (T - pp) + 280) by omega)⟩) hS (fun q _ h => hFc q h) hFc (fun r_11 u tS H1 locs ht hvm hw hB hz1 hk1 hS => ?_)
        obtain ⟨hP1, hK1, hD1⟩ := hB
        rw [ht] at hP1
        replace hK1 := va_K.moved hvm.symm hK1
        obtain ⟨hPj, hDj⟩ := va_joinT (wr := [(ee, .inr (15, [.int 6, .int tx, .int 0, .int (nI pp), .int 0, .int 0, .long 0, .int 0, .null, .null, .null, .int 0, .null, .null])), (mr 8, .inl (kL, 3002, .inr (.inl fn)))]) (w1 := [(m9, .inr (23, mA mr mv vf xl (nI zs) 0 xa (nI T) (nI ((pp + 1 + 1) + 1)) xi xt xn (nI ns) (nI vv) (nI bb))), (mr 5, .inl (kI, 3002, .inl fk)), (mr 6, .inl (kI, 3002, .inl fa))]) hP hD [3, 4, 1] [0, 2] rfl rfl (by decide) (by decide) hk1 hFc hP1 hD1
        replace hP := hPj
        replace hD := hDj
        clear hPj hDj
        replace hK := hK.app hK1
        generalize H1 = H at hP hS ⊢
        replace hP : va_P (dC, dI) vwCl (([(ee, .inr (15, [.int 6, .int tx, .int 0, .int (nI pp), .int 0, .int 0, .long 0, .int 0, .null, .null, .null, .int 0, .null, .null])), (mr 8, .inl (kL, 3002, .inr (.inl fn))), (m9, .inr (23, mA mr mv vf xl (nI zs) 0 xa (nI T) (nI ((pp + 1 + 1) + 1)) xi xt xn (nI ns) (nI vv) (nI bb))), (mr 5, .inl (kI, 3002, .inl fk)), (mr 6, .inl (kI, 3002, .inl fa))] : va_W) ++ (sT L F)) H := hP
        replace hD : va_D A (([(ee, .inr (15, [.int 6, .int tx, .int 0, .int (nI pp), .int 0, .int 0, .long 0, .int 0, .null, .null, .null, .int 0, .null, .null])), (mr 8, .inl (kL, 3002, .inr (.inl fn))), (m9, .inr (23, mA mr mv vf xl (nI zs) 0 xa (nI T) (nI ((pp + 1 + 1) + 1)) xi xt xn (nI ns) (nI vv) (nI bb))), (mr 5, .inl (kI, 3002, .inl fk)), (mr 6, .inl (kI, 3002, .inl fa))] : va_W) ++ (sT L F)) := hD
        replace hK : va_K (dC, dI) vwCl [(kI, .int), (kL, .long), (kE, .object RX15), (kI, .int)] s := hK
        replace hK := hK.sub (tys' := [(kI, .int), (kL, .long), (kE, .object RX15)]) [0, 1, 2] rfl
        clear hz1 hk1 hPc hDc hKc hFc hP1 hD1 hK1
        obtain rfl : r_11 = nI (pp + 1 + 1) := hw
        have hp_12 : pp + 1 + 1 + 1 < T := kne3 hk0 hp_8 hk_10 (by decide)
        refine va_put (D := (dC, dI)) (ci := 15) (v := .int (nI (pp + 1 + 1))) (ty := .int) (C := RX15) (T := TX15) (N := 14) hx hb hts in_c_xnm_X15 tyX15 tyX15_ok nmX15 hown hK hP hD hS 0 rfl rfl 2 (by decide) (hts (.fieldLink RX23 379 "OwnedPlacesModel$Exp" "sign" "I") (wm_c_xnm 57 rfl)) (fun _ h9 => h9) rfl (by decide +kernel) rfl rfl (Nat.le_of_ble_eq_true rfl) dX23_named_60 (fun H locs hP hD hS => ?_)
        replace hP : va_P (dC, dI) vwCl (([(ee, .inr (15, [.int 6, .int tx, .int (nI (pp + 1 + 1)), .int (nI pp), .int 0, .int 0, .long 0, .int 0, .null, .null, .null, .int 0, .null, .null])), (mr 8, .inl (kL, 3002, .inr (.inl fn))), (m9, .inr (23, mA mr mv vf xl (nI zs) 0 xa (nI T) (nI (pp + 1 + 1 + 1)) xi xt xn (nI ns) (nI vv) (nI bb))), (mr 5, .inl (kI, 3002, .inl fk)), (mr 6, .inl (kI, 3002, .inl fa))] : va_W) ++ (sT L F)) H := hP
        replace hD : va_D A (([(ee, .inr (15, [.int 6, .int tx, .int (nI (pp + 1 + 1)), .int (nI pp), .int 0, .int 0, .long 0, .int 0, .null, .null, .null, .int 0, .null, .null])), (mr 8, .inl (kL, 3002, .inr (.inl fn))), (m9, .inr (23, mA mr mv vf xl (nI zs) 0 xa (nI T) (nI (pp + 1 + 1 + 1)) xi xt xn (nI ns) (nI vv) (nI bb))), (mr 5, .inl (kI, 3002, .inl fk)), (mr 6, .inl (kI, 3002, .inl fa))] : va_W) ++ (sT L F)) := hD
        refine lv_aload_n hx hb dX23_named_63 rfl (lv_at hl 0 rfl) ?_
        replace hPc := hP.subF (f' := [(m9, .inr (23, mA mr mv vf xl (nI zs) 0 xa (nI T) (nI (pp + 1 + 1 + 1)) xi xt xn (nI ns) (nI vv) (nI bb)))]) [2] rfl
        replace hDc := hD.subF (f' := [(m9, .inr (23, mA mr mv vf xl (nI zs) 0 xa (nI T) (nI (pp + 1 + 1 + 1)) xi xt xn (nI ns) (nI vv) (nI bb)))]) [2] (by decide) rfl
        replace hKc := hK.sub (tys' := []) [] rfl
        replace hFc := va_freeT (wc := [(m9, .inr (23, mA mr mv vf xl (nI zs) 0 xa (nI T) (nI (pp + 1 + 1 + 1)) xi xt xn (nI ns) (nI vv) (nI bb)))]) hD hS hA [2] rfl
        refine va_calli (va_runV (As := []) (rest := []) ⟨hx, hb, hml, hown, hts⟩ (c_rok0 l dC dI m9 mr mv vf xl xa xi xt xn zs T (pp + 1 + 1 + 1) ns vv bb kI fk fa H.size) (cwV 0 hts g_c_xnm_c_rok0_64 rfl rfl rfl (by decide +kernel) ⟨by show 0 + 1 ≤ 3 + 12 * k; omega, by show 8 + (1 + 11) + (0) ≤ 65 + 279 * k; omega⟩) ⟨fun a U g mk q => by obtain ⟨q0, q1, qP, qK, qD⟩ := q; exact ⟨q0, q1, qP, va_K.moved (u := U) (U := U.calling g mk a) (Vm.Alike.refl U.vm) qK, qD⟩, va_recv hKc hPc (ci := 23) (q0 := 0) rfl rfl, fun U hU hW => ⟨rfl, by rw [hU], by rw [hU]; exact hPc, va_K.moved hW.alike hKc, hDc.weaken (fun _ _ _ _ => trivial)⟩⟩ rfl rfl hl.1 rfl (lv_room (Nat.le_of_ble_eq_true rfl)) dX23_named_64 ⟨(show 0 + 0 ≤ (8 * (T - pp) + 3) by omega), (show 0 + 0 ≤ (120 * (T - pp) + 280) by omega)⟩) hS (fun q _ h => hFc q h) hFc (fun r_13 u tS H1 locs ht hvm hw hB hz1 hk1 hS => ?_)
        obtain ⟨hP1, hK1, hD1⟩ := hB
        rw [ht] at hP1
        replace hK1 := va_K.moved hvm.symm hK1
        obtain ⟨hPj, hDj⟩ := va_joinT (wr := [(ee, .inr (15, [.int 6, .int tx, .int (nI (pp + 1 + 1)), .int (nI pp), .int 0, .int 0, .long 0, .int 0, .null, .null, .null, .int 0, .null, .null])), (mr 8, .inl (kL, 3002, .inr (.inl fn))), (mr 5, .inl (kI, 3002, .inl fk)), (mr 6, .inl (kI, 3002, .inl fa))]) (w1 := [(m9, .inr (23, mA mr mv vf xl (nI zs) 0 xa (nI T) (nI (pp + 1 + 1 + 1)) xi xt xn (nI ns) (nI vv) (nI bb)))]) hP hD [2] [0, 1, 3, 4] rfl rfl (by decide) (by decide) hk1 hFc hP1 hD1
        replace hP := hPj
        replace hD := hDj
        clear hPj hDj
        generalize H1 = H at hP hS ⊢
        replace hP : va_P (dC, dI) vwCl (([(ee, .inr (15, [.int 6, .int tx, .int (nI (pp + 1 + 1)), .int (nI pp), .int 0, .int 0, .long 0, .int 0, .null, .null, .null, .int 0, .null, .null])), (mr 8, .inl (kL, 3002, .inr (.inl fn))), (mr 5, .inl (kI, 3002, .inl fk)), (mr 6, .inl (kI, 3002, .inl fa)), (m9, .inr (23, mA mr mv vf xl (nI zs) 0 xa (nI T) (nI (pp + 1 + 1 + 1)) xi xt xn (nI ns) (nI vv) (nI bb)))] : va_W) ++ (sT L F)) H := hP
        replace hD : va_D A (([(ee, .inr (15, [.int 6, .int tx, .int (nI (pp + 1 + 1)), .int (nI pp), .int 0, .int 0, .long 0, .int 0, .null, .null, .null, .int 0, .null, .null])), (mr 8, .inl (kL, 3002, .inr (.inl fn))), (mr 5, .inl (kI, 3002, .inl fk)), (mr 6, .inl (kI, 3002, .inl fa)), (m9, .inr (23, mA mr mv vf xl (nI zs) 0 xa (nI T) (nI (pp + 1 + 1 + 1)) xi xt xn (nI ns) (nI vv) (nI bb)))] : va_W) ++ (sT L F)) := hD
        replace hK : va_K (dC, dI) vwCl [(kI, .int), (kL, .long), (kE, .object RX15)] s := hK
        clear hz1 hk1 hPc hDc hKc hFc hP1 hD1 hK1
        obtain rfl : r_13 = 1 := hw
        refine lv_if_eq (tgt := 92) hx hb dX23_named_67 (by decide) (fun c_14 => absurd c_14 (by decide)) (fun _ => ?_)
        refine lv_aload_n hx hb dX23_named_70 rfl (lv_at hl 0 rfl) ?_
        refine lv_bipush (v := 61) hx hb dX23_named_71 (by decide) ?_
        by_cases hk_15 : fk (pp + 1 + 1 + 1) = 61
        · replace hPc := hP.subF (f' := [(m9, .inr (23, mA mr mv vf xl (nI zs) 0 xa (nI T) (nI (pp + 1 + 1 + 1)) xi xt xn (nI ns) (nI vv) (nI bb))), (mr 5, .inl (kI, 3002, .inl fk))]) [4, 2] rfl
          replace hDc := hD.subF (f' := [(m9, .inr (23, mA mr mv vf xl (nI zs) 0 xa (nI T) (nI (pp + 1 + 1 + 1)) xi xt xn (nI ns) (nI vv) (nI bb))), (mr 5, .inl (kI, 3002, .inl fk))]) [4, 2] (by decide) rfl
          replace hKc := hK.sub (tys' := [(kI, .int)]) [0] rfl
          replace hFc := va_freeT (wc := [(m9, .inr (23, mA mr mv vf xl (nI zs) 0 xa (nI T) (nI (pp + 1 + 1 + 1)) xi xt xn (nI ns) (nI vv) (nI bb))), (mr 5, .inl (kI, 3002, .inl fk))]) hD hS hA [4, 2] rfl
          refine va_calli (va_runV (As := [.int 61]) (rest := []) ⟨hx, hb, hml, hown, hts⟩ (c_risY l dC dI m9 mr mv vf xl xa xi xt xn zs T (pp + 1 + 1 + 1) ns vv bb kI fk fa 0 61 H.size hT hp_12 hk_15) (cwV 1 hts g_c_xnm_c_risY_73 rfl rfl rfl (by decide +kernel) ⟨by show 0 + 1 ≤ 3 + 12 * k; omega, by show 8 + (2 + 11) + (0) ≤ 65 + 279 * k; omega⟩) ⟨fun a U g mk q => by obtain ⟨q0, q1, qP, qK, qD⟩ := q; exact ⟨q0, q1, qP, va_K.moved (u := U) (U := U.calling g mk a) (Vm.Alike.refl U.vm) qK, qD⟩, va_recv hKc hPc (ci := 23) (q0 := 0) rfl rfl, fun U hU hW => ⟨rfl, by rw [hU], by rw [hU]; exact hPc, va_K.moved hW.alike hKc, hDc.weaken (fun _ _ _ _ => trivial)⟩⟩ rfl rfl hl.1 rfl (lv_room (Nat.le_of_ble_eq_true rfl)) dX23_named_73 ⟨(show 0 + 0 ≤ (8 * (T - pp) + 3) by omega), (show 0 + 0 ≤ (120 * (T - pp) + 280) by omega)⟩) hS (fun q _ h => hFc q h) hFc (fun r_16 u tS H1 locs ht hvm hw hB hz1 hk1 hS => ?_)
          obtain ⟨hP1, hK1, hD1⟩ := hB
          rw [ht] at hP1
          replace hK1 := va_K.moved hvm.symm hK1
          obtain ⟨hPj, hDj⟩ := va_joinT (wr := [(ee, .inr (15, [.int 6, .int tx, .int (nI (pp + 1 + 1)), .int (nI pp), .int 0, .int 0, .long 0, .int 0, .null, .null, .null, .int 0, .null, .null])), (mr 8, .inl (kL, 3002, .inr (.inl fn))), (mr 6, .inl (kI, 3002, .inl fa))]) (w1 := [(m9, .inr (23, mA mr mv vf xl (nI zs) 0 xa (nI T) (nI (pp + 1 + 1 + 1)) xi xt xn (nI ns) (nI vv) (nI bb))), (mr 5, .inl (kI, 3002, .inl fk))]) hP hD [4, 2] [0, 1, 3] rfl rfl (by decide) (by decide) hk1 hFc hP1 hD1
          replace hP := hPj
          replace hD := hDj
          clear hPj hDj
          replace hK := hK.app hK1
          generalize H1 = H at hP hS ⊢
          replace hP : va_P (dC, dI) vwCl (([(ee, .inr (15, [.int 6, .int tx, .int (nI (pp + 1 + 1)), .int (nI pp), .int 0, .int 0, .long 0, .int 0, .null, .null, .null, .int 0, .null, .null])), (mr 8, .inl (kL, 3002, .inr (.inl fn))), (mr 6, .inl (kI, 3002, .inl fa)), (m9, .inr (23, mA mr mv vf xl (nI zs) 0 xa (nI T) (nI (pp + 1 + 1 + 1)) xi xt xn (nI ns) (nI vv) (nI bb))), (mr 5, .inl (kI, 3002, .inl fk))] : va_W) ++ (sT L F)) H := hP
          replace hD : va_D A (([(ee, .inr (15, [.int 6, .int tx, .int (nI (pp + 1 + 1)), .int (nI pp), .int 0, .int 0, .long 0, .int 0, .null, .null, .null, .int 0, .null, .null])), (mr 8, .inl (kL, 3002, .inr (.inl fn))), (mr 6, .inl (kI, 3002, .inl fa)), (m9, .inr (23, mA mr mv vf xl (nI zs) 0 xa (nI T) (nI (pp + 1 + 1 + 1)) xi xt xn (nI ns) (nI vv) (nI bb))), (mr 5, .inl (kI, 3002, .inl fk))] : va_W) ++ (sT L F)) := hD
          replace hK : va_K (dC, dI) vwCl [(kI, .int), (kL, .long), (kE, .object RX15), (kI, .int)] s := hK
          replace hK := hK.sub (tys' := [(kI, .int), (kL, .long), (kE, .object RX15)]) [0, 1, 2] rfl
          clear hz1 hk1 hPc hDc hKc hFc hP1 hD1 hK1
          obtain rfl : r_16 = 1 := hw
          refine lv_if_eq (tgt := 92) hx hb dX23_named_76 (by decide) (fun c_17 => absurd c_17 (by decide)) (fun _ => ?_)
          refine lv_aload_n hx hb dX23_named_79 rfl (lv_at hl 0 rfl) ?_
          refine lv_aload_n hx hb dX23_named_80 rfl (lv_at hl 1 rfl) ?_
          replace hPc := hP.subT (f' := [(ee, .inr (15, [.int 6, .int tx, .int (nI (pp + 1 + 1)), .int (nI pp), .int 0, .int 0, .long 0, .int 0, .null, .null, .null, .int 0, .null, .null])), (m9, .inr (23, mA mr mv vf xl (nI zs) 0 xa (nI T) (nI (pp + 1 + 1 + 1)) xi xt xn (nI ns) (nI vv) (nI bb))), (mr 5, .inl (kI, 3002, .inl fk)), (mr 6, .inl (kI, 3002, .inl fa)), (mr 8, .inl (kL, 3002, .inr (.inl fn)))]) [0, 3, 4, 2, 1] rfl
          replace hDc := hD.subT (f' := [(ee, .inr (15, [.int 6, .int tx, .int (nI (pp + 1 + 1)), .int (nI pp), .int 0, .int 0, .long 0, .int 0, .null, .null, .null, .int 0, .null, .null])), (m9, .inr (23, mA mr mv vf xl (nI zs) 0 xa (nI T) (nI (pp + 1 + 1 + 1)) xi xt xn (nI ns) (nI vv) (nI bb))), (mr 5, .inl (kI, 3002, .inl fk)), (mr 6, .inl (kI, 3002, .inl fa)), (mr 8, .inl (kL, 3002, .inr (.inl fn)))]) [0, 3, 4, 2, 1] (by decide) rfl
          replace hKc := hK.sub (tys' := [(kI, .int), (kL, .long), (kE, .object RX15)]) [0, 1, 2] rfl
          replace hFc := va_freeB (wc := [(ee, .inr (15, [.int 6, .int tx, .int (nI (pp + 1 + 1)), .int (nI pp), .int 0, .int 0, .long 0, .int 0, .null, .null, .null, .int 0, .null, .null])), (m9, .inr (23, mA mr mv vf xl (nI zs) 0 xa (nI T) (nI (pp + 1 + 1 + 1)) xi xt xn (nI ns) (nI vv) (nI bb))), (mr 5, .inl (kI, 3002, .inl fk)), (mr 6, .inl (kI, 3002, .inl fa)), (mr 8, .inl (kL, 3002, .inr (.inl fn)))]) hD hS hA [0, 3, 4, 2, 1] rfl
          refine W.grow (fun hgs0 hgs1 => ?_)
          refine va_callv (va_runV (As := [.ref ee]) (rest := []) ⟨hx, hb, hml, hown, hts⟩ (c_xli6 l dC dI k ih m9 mr mv vf xl xa xi xt xn zs T (pp + 1 + 1 + 1) ns vv bb kI fk fa kL kE fn L F ee tx (nI (pp + 1 + 1)) (nI pp) (slN H) H.size hT hp_12 hk0 hbb (by omega)) (cwV 1 hts g_c_xnm_c_xli6_81 rfl rfl rfl (by decide +kernel) ⟨by show 2 + 12 * k + 1 ≤ 3 + 12 * k; omega, by show 8 + (3 + 11) + (43 + 279 * k) ≤ 65 + 279 * k; omega⟩) ⟨fun a U g mk q => by obtain ⟨q0, q1, qP, qK, qD, qx0, qx1⟩ := q; exact ⟨q0, q1, qP, va_K.moved (u := U) (U := U.calling g mk a) (Vm.Alike.refl U.vm) qK, qD, nsM.same (u := U) (U := U.calling g mk a) rfl qx0, qx1⟩, va_recv hKc hPc (ci := 23) (q0 := 1) rfl rfl, fun U hU hW => ⟨rfl, by rw [hU], by rw [hU]; exact hPc, va_K.moved hW.alike hKc, hDc.weaken (fun _ _ _ _ => trivial), nsM.warm hW hns, by rw [hU]⟩⟩ rfl rfl hl.1 rfl (lv_room (Nat.le_of_ble_eq_true rfl)) dX23_named_81 ⟨(show 0 + (8 * (T - (pp + 1 + 1 + 1)) + 3) ≤ (8 * (T - pp) + 3) by omega), (show 0 + (120 * (T - (pp + 1 + 1 + 1)) + 280) ≤ (120 * (T - pp) + 280) by omega)⟩) hS (fun q _ h => hFc q h) hFc (fun u tS H1 locs ht hvm hw hB hz1 hk1 hS => ?_)
          obtain ⟨L17, F17, ff17, xa17, pp17, bb17, li17, si17, mn17, hf18_0, hf18_1, hf18_2, hf18_3, hP1, hK1, hD1⟩ := hB
          rw [ht] at hP1
          replace hK1 := va_K.moved hvm.symm hK1
          rw [ht] at hf18_3
          have hgz : H1.size ≤ s.heap.size + (8 * (pp17 - (pp + 1 + 1 + 1))) ∧ slN H1 ≤ slN s.heap + (120 * (pp17 - (pp + 1 + 1 + 1))) := ⟨by have := hf18_3.1; omega, by have := hf18_3.2; omega⟩
          obtain ⟨hPj, hDj⟩ := va_joinB (wr := []) (w1 := [(ee, .inr (15, [.int 6, .int tx, .int (nI (pp + 1 + 1)), .int (nI pp), .int 0, .int 0, .long 0, .int 0, .null, li17, si17, .int (nI mn17), .null, .null])), (m9, .inr (23, mA mr mv vf xl (nI zs) ff17 xa17 (nI T) (nI pp17) xi xt xn (nI ns) (nI vv) (nI bb17))), (mr 5, .inl (kI, 3002, .inl fk)), (mr 6, .inl (kI, 3002, .inl fa)), (mr 8, .inl (kL, 3002, .inr (.inl fn)))]) hP hD [0, 3, 4, 2, 1] [] rfl rfl (by decide) (by decide) hk1 hFc hP1 hD1
          replace hP := hPj
          replace hD := hDj
          clear hPj hDj
          replace hK := hK.app hK1
          generalize H1 = H at hP hS hgz ⊢
          replace hP : va_P (dC, dI) vwCl (([(ee, .inr (15, [.int 6, .int tx, .int (nI (pp + 1 + 1)), .int (nI pp), .int 0, .int 0, .long 0, .int 0, .null, li17, si17, .int (nI mn17), .null, .null])), (m9, .inr (23, mA mr mv vf xl (nI zs) ff17 xa17 (nI T) (nI pp17) xi xt xn (nI ns) (nI vv) (nI bb17))), (mr 5, .inl (kI, 3002, .inl fk)), (mr 6, .inl (kI, 3002, .inl fa)), (mr 8, .inl (kL, 3002, .inr (.inl fn)))] : va_W) ++ (sT L17 F17)) H := hP
          replace hD : va_D A (([(ee, .inr (15, [.int 6, .int tx, .int (nI (pp + 1 + 1)), .int (nI pp), .int 0, .int 0, .long 0, .int 0, .null, li17, si17, .int (nI mn17), .null, .null])), (m9, .inr (23, mA mr mv vf xl (nI zs) ff17 xa17 (nI T) (nI pp17) xi xt xn (nI ns) (nI vv) (nI bb17))), (mr 5, .inl (kI, 3002, .inl fk)), (mr 6, .inl (kI, 3002, .inl fa)), (mr 8, .inl (kL, 3002, .inr (.inl fn)))] : va_W) ++ (sT L17 F17)) := hD
          replace hK : va_K (dC, dI) vwCl [(kI, .int), (kL, .long), (kE, .object RX15), (kI, .int), (kL, .long), (kE, .object RX15)] s := hK
          replace hK := hK.sub (tys' := [(kI, .int), (kL, .long), (kE, .object RX15)]) [0, 1, 2] rfl
          refine W.tight (k := 8 * (pp17 - (pp + 1 + 1 + 1))) (n := 120 * (pp17 - (pp + 1 + 1 + 1))) hgz.1 hgz.2 ?_
          clear hz1 hk1 hPc hDc hKc hFc hP1 hD1 hK1
          refine lv_goto (tgt := 92) hx hb dX23_named_84 (by decide) ?_
          by_cases hz_19 : ff17 = 0
          · subst hz_19
            have hg17 := hf18_2 rfl
            refine W.grow (fun hgs0 hgs1 => ?_)
            have hP9 := hP.subT (f' := [(ee, .inr (15, [.int 6, .int tx, .int (nI (pp + 1 + 1)), .int (nI pp), .int 0, .int 0, .long 0, .int 0, .null, li17, si17, .int (nI mn17), .null, .null])), (m9, .inr (23, mA mr mv vf xl (nI zs) 0 xa17 (nI T) (nI pp17) xi xt xn (nI ns) (nI vv) (nI bb17))), (mr 5, .inl (kI, 3002, .inl fk)), (mr 6, .inl (kI, 3002, .inl fa)), (mr 8, .inl (kL, 3002, .inr (.inl fn)))]) [0, 1, 2, 3, 4] rfl
            have hD9 := hD.subT (f' := [(ee, .inr (15, [.int 6, .int tx, .int (nI (pp + 1 + 1)), .int (nI pp), .int 0, .int 0, .long 0, .int 0, .null, li17, si17, .int (nI mn17), .null, .null])), (m9, .inr (23, mA mr mv vf xl (nI zs) 0 xa17 (nI T) (nI pp17) xi xt xn (nI ns) (nI vv) (nI bb17))), (mr 5, .inl (kI, 3002, .inl fk)), (mr 6, .inl (kI, 3002, .inl fa)), (mr 8, .inl (kL, 3002, .inr (.inl fn)))]) [0, 1, 2, 3, 4] (by decide) rfl
            have hK9 := hK.sub (tys' := [(kI, .int), (kL, .long), (kE, .object RX15)]) [0, 1, 2] rfl
            refine W.widen (k := (8 * (T - pp) + 3)) (n := (120 * (T - pp) + 280)) (by omega) (by omega) ?_
            exact W.vret hx hb hr (fun tS ht hW => ⟨⟨(), rfl, trivial, L17, F17, 0, xa17, pp17, bb17, 6, nI (pp + 1 + 1), (nI pp), li17, si17, mn17, hf18_0, ⟨by omega, by omega, by omega, by omega⟩, (fun _ => ⟨hg17.1, by omega, Or.inr ⟨Or.inr ⟨rfl, rfl, rfl, by omega⟩, (isQl_w hg17.2.2 (by omega))⟩⟩), by rw [ht]; exact ⟨by omega, by omega⟩, by rw [ht]; exact hP9, va_K.moved hW.alike hK9, hD9⟩, hS.F ht⟩) hS.2.2 dX23_named_92
          · refine W.grow (fun hgs0 hgs1 => ?_)
            have hP9 := hP.subT (f' := [(ee, .inr (15, [.int 6, .int tx, .int (nI (pp + 1 + 1)), .int (nI pp), .int 0, .int 0, .long 0, .int 0, .null, li17, si17, .int (nI mn17), .null, .null])), (m9, .inr (23, mA mr mv vf xl (nI zs) ff17 xa17 (nI T) (nI pp17) xi xt xn (nI ns) (nI vv) (nI bb17))), (mr 5, .inl (kI, 3002, .inl fk)), (mr 6, .inl (kI, 3002, .inl fa)), (mr 8, .inl (kL, 3002, .inr (.inl fn)))]) [0, 1, 2, 3, 4] rfl
            have hD9 := hD.subT (f' := [(ee, .inr (15, [.int 6, .int tx, .int (nI (pp + 1 + 1)), .int (nI pp), .int 0, .int 0, .long 0, .int 0, .null, li17, si17, .int (nI mn17), .null, .null])), (m9, .inr (23, mA mr mv vf xl (nI zs) ff17 xa17 (nI T) (nI pp17) xi xt xn (nI ns) (nI vv) (nI bb17))), (mr 5, .inl (kI, 3002, .inl fk)), (mr 6, .inl (kI, 3002, .inl fa)), (mr 8, .inl (kL, 3002, .inr (.inl fn)))]) [0, 1, 2, 3, 4] (by decide) rfl
            have hK9 := hK.sub (tys' := [(kI, .int), (kL, .long), (kE, .object RX15)]) [0, 1, 2] rfl
            refine W.widen (k := (8 * (T - pp) + 3)) (n := (120 * (T - pp) + 280)) (by omega) (by omega) ?_
            exact W.vret hx hb hr (fun tS ht hW => ⟨⟨(), rfl, trivial, L17, F17, ff17, xa17, pp17, bb17, 6, nI (pp + 1 + 1), (nI pp), li17, si17, mn17, hf18_0, ⟨by omega, by omega, by omega, by omega⟩, (fun q9 => absurd q9 hz_19), by rw [ht]; exact ⟨by omega, by omega⟩, by rw [ht]; exact hP9, va_K.moved hW.alike hK9, hD9⟩, hS.F ht⟩) hS.2.2 dX23_named_92
        · replace hPc := hP.subF (f' := [(m9, .inr (23, mA mr mv vf xl (nI zs) 0 xa (nI T) (nI (pp + 1 + 1 + 1)) xi xt xn (nI ns) (nI vv) (nI bb))), (mr 5, .inl (kI, 3002, .inl fk))]) [4, 2] rfl
          replace hDc := hD.subF (f' := [(m9, .inr (23, mA mr mv vf xl (nI zs) 0 xa (nI T) (nI (pp + 1 + 1 + 1)) xi xt xn (nI ns) (nI vv) (nI bb))), (mr 5, .inl (kI, 3002, .inl fk))]) [4, 2] (by decide) rfl
          replace hKc := hK.sub (tys' := [(kI, .int)]) [0] rfl
          replace hFc := va_freeT (wc := [(m9, .inr (23, mA mr mv vf xl (nI zs) 0 xa (nI T) (nI (pp + 1 + 1 + 1)) xi xt xn (nI ns) (nI vv) (nI bb))), (mr 5, .inl (kI, 3002, .inl fk))]) hD hS hA [4, 2] rfl
          refine va_calli (va_runV (As := [.int 61]) (rest := []) ⟨hx, hb, hml, hown, hts⟩ (c_risN l dC dI m9 mr mv vf xl xa xi xt xn zs T (pp + 1 + 1 + 1) ns vv bb kI fk fa 0 61 H.size hT hp_12 hk_15) (cwV 1 hts g_c_xnm_c_risN_73 rfl rfl rfl (by decide +kernel) ⟨by show 0 + 1 ≤ 3 + 12 * k; omega, by show 8 + (2 + 11) + (0) ≤ 65 + 279 * k; omega⟩) ⟨fun a U g mk q => by obtain ⟨q0, q1, qP, qK, qD⟩ := q; exact ⟨q0, q1, qP, va_K.moved (u := U) (U := U.calling g mk a) (Vm.Alike.refl U.vm) qK, qD⟩, va_recv hKc hPc (ci := 23) (q0 := 0) rfl rfl, fun U hU hW => ⟨rfl, by rw [hU], by rw [hU]; exact hPc, va_K.moved hW.alike hKc, hDc.weaken (fun _ _ _ _ => trivial)⟩⟩ rfl rfl hl.1 rfl (lv_room (Nat.le_of_ble_eq_true rfl)) dX23_named_73 ⟨(show 0 + 0 ≤ (8 * (T - pp) + 3) by omega), (show 0 + 0 ≤ (120 * (T - pp) + 280) by omega)⟩) hS (fun q _ h => hFc q h) hFc (fun r_16 u tS H1 locs ht hvm hw hB hz1 hk1 hS => ?_)
          obtain ⟨hP1, hK1, hD1⟩ := hB
          rw [ht] at hP1
          replace hK1 := va_K.moved hvm.symm hK1
          obtain ⟨hPj, hDj⟩ := va_joinT (wr := [(ee, .inr (15, [.int 6, .int tx, .int (nI (pp + 1 + 1)), .int (nI pp), .int 0, .int 0, .long 0, .int 0, .null, .null, .null, .int 0, .null, .null])), (mr 8, .inl (kL, 3002, .inr (.inl fn))), (mr 6, .inl (kI, 3002, .inl fa))]) (w1 := [(m9, .inr (23, mA mr mv vf xl (nI zs) 0 xa (nI T) (nI (pp + 1 + 1 + 1)) xi xt xn (nI ns) (nI vv) (nI bb))), (mr 5, .inl (kI, 3002, .inl fk))]) hP hD [4, 2] [0, 1, 3] rfl rfl (by decide) (by decide) hk1 hFc hP1 hD1
          replace hP := hPj
          replace hD := hDj
          clear hPj hDj
          replace hK := hK.app hK1
          generalize H1 = H at hP hS ⊢
          replace hP : va_P (dC, dI) vwCl (([(ee, .inr (15, [.int 6, .int tx, .int (nI (pp + 1 + 1)), .int (nI pp), .int 0, .int 0, .long 0, .int 0, .null, .null, .null, .int 0, .null, .null])), (mr 8, .inl (kL, 3002, .inr (.inl fn))), (mr 6, .inl (kI, 3002, .inl fa)), (m9, .inr (23, mA mr mv vf xl (nI zs) 0 xa (nI T) (nI (pp + 1 + 1 + 1)) xi xt xn (nI ns) (nI vv) (nI bb))), (mr 5, .inl (kI, 3002, .inl fk))] : va_W) ++ (sT L F)) H := hP
          replace hD : va_D A (([(ee, .inr (15, [.int 6, .int tx, .int (nI (pp + 1 + 1)), .int (nI pp), .int 0, .int 0, .long 0, .int 0, .null, .null, .null, .int 0, .null, .null])), (mr 8, .inl (kL, 3002, .inr (.inl fn))), (mr 6, .inl (kI, 3002, .inl fa)), (m9, .inr (23, mA mr mv vf xl (nI zs) 0 xa (nI T) (nI (pp + 1 + 1 + 1)) xi xt xn (nI ns) (nI vv) (nI bb))), (mr 5, .inl (kI, 3002, .inl fk))] : va_W) ++ (sT L F)) := hD
          replace hK : va_K (dC, dI) vwCl [(kI, .int), (kL, .long), (kE, .object RX15), (kI, .int)] s := hK
          replace hK := hK.sub (tys' := [(kI, .int), (kL, .long), (kE, .object RX15)]) [0, 1, 2] rfl
          clear hz1 hk1 hPc hDc hKc hFc hP1 hD1 hK1
          obtain rfl : r_16 = 0 := hw
          refine lv_if_eq (tgt := 92) hx hb dX23_named_76 (by decide) (fun _ => ?_) (fun c_17 => absurd (by decide) c_17)
          refine W.grow (fun hgs0 hgs1 => ?_)
          have hP9 := hP.subT (f' := [(ee, .inr (15, [.int 6, .int tx, .int (nI (pp + 1 + 1)), .int (nI pp), .int 0, .int 0, .long 0, .int 0, .null, .null, .null, .int (nI 0), .null, .null])), (m9, .inr (23, mA mr mv vf xl (nI zs) 0 xa (nI T) (nI (pp + 1 + 1 + 1)) xi xt xn (nI ns) (nI vv) (nI bb))), (mr 5, .inl (kI, 3002, .inl fk)), (mr 6, .inl (kI, 3002, .inl fa)), (mr 8, .inl (kL, 3002, .inr (.inl fn)))]) [0, 3, 4, 2, 1] rfl
          have hD9 := hD.subT (f' := [(ee, .inr (15, [.int 6, .int tx, .int (nI (pp + 1 + 1)), .int (nI pp), .int 0, .int 0, .long 0, .int 0, .null, .null, .null, .int (nI 0), .null, .null])), (m9, .inr (23, mA mr mv vf xl (nI zs) 0 xa (nI T) (nI (pp + 1 + 1 + 1)) xi xt xn (nI ns) (nI vv) (nI bb))), (mr 5, .inl (kI, 3002, .inl fk)), (mr 6, .inl (kI, 3002, .inl fa)), (mr 8, .inl (kL, 3002, .inr (.inl fn)))]) [0, 3, 4, 2, 1] (by decide) rfl
          have hK9 := hK.sub (tys' := [(kI, .int), (kL, .long), (kE, .object RX15)]) [0, 1, 2] rfl
          refine W.widen (k := (8 * (T - pp) + 3)) (n := (120 * (T - pp) + 280)) (by omega) (by omega) ?_
          exact W.vret hx hb hr (fun tS ht hW => ⟨⟨(), rfl, trivial, L, F, 0, xa, pp + 1 + 1 + 1, bb, 6, nI (pp + 1 + 1), nI pp, .null, .null, 0, exS.rf, ⟨by omega, by omega, by omega, by omega⟩, (fun _ => ⟨hbb, by omega, Or.inr ⟨Or.inr ⟨rfl, rfl, rfl, by omega⟩, (Or.inl ⟨rfl, rfl, rfl, by omega⟩)⟩⟩), by rw [ht]; exact ⟨by omega, by omega⟩, by rw [ht]; exact hP9, va_K.moved hW.alike hK9, hD9⟩, hS.F ht⟩) hS.2.2 dX23_named_92
      · replace hPc := hP.subF (f' := [(m9, .inr (23, mA mr mv vf xl (nI zs) 0 xa (nI T) (nI (pp + 1 + 1)) xi xt xn (nI ns) (nI vv) (nI bb))), (mr 5, .inl (kI, 3002, .inl fk)), (mr 6, .inl (kI, 3002, .inl fa))]) [3, 4, 1] rfl
        replace hDc := hD.subF (f' := [(m9, .inr (23, mA mr mv vf xl (nI zs) 0 xa (nI T) (nI (pp + 1 + 1)) xi xt xn (nI ns) (nI vv) (nI bb))), (mr 5, .inl (kI, 3002, .inl fk)), (mr 6, .inl (kI, 3002, .inl fa))]) [3, 4, 1] (by decide) rfl
        replace hKc := hK.sub (tys' := [(kI, .int)]) [0] rfl
        replace hFc := va_freeT (wc := [(m9, .inr (23, mA mr mv vf xl (nI zs) 0 xa (nI T) (nI (pp + 1 + 1)) xi xt xn (nI ns) (nI vv) (nI bb))), (mr 5, .inl (kI, 3002, .inl fk)), (mr 6, .inl (kI, 3002, .inl fa))]) hD hS hA [3, 4, 1] rfl
        refine va_calli (va_runV (As := []) (rest := [.ref ee]) ⟨hx, hb, hml, hown, hts⟩ (c_rnmN l dC dI m9 mr mv vf xl xa xi xt xn zs T (pp + 1 + 1) ns vv bb kI fk fa H.size hT hp_8 hk0 hk_10) (cwV 0 hts g_c_xnm_c_rnmN_57 rfl rfl rfl (by decide +kernel) ⟨by show 2 + 1 ≤ 3 + 12 * k; omega, by show 8 + (1 + 11) + (43) ≤ 65 + 279 * k; omega⟩) ⟨fun a U g mk q => by obtain ⟨q0, q1, qP, qK, qD⟩ := q; exact ⟨q0, q1, qP, va_K.moved (u := U) (U := U.calling g mk a) (Vm.Alike.refl U.vm) qK, qD⟩, va_recv hKc hPc (ci := 23) (q0 := 0) rfl rfl, fun U hU hW => ⟨rfl, by rw [hU], by rw [hU]; exact hPc, va_K.moved hW.alike hKc, hDc.weaken (fun _ _ _ _ => trivial)⟩⟩ rfl rfl hl.1 rfl (lv_room (Nat.le_of_ble_eq_true rfl)) dX23_named_57 ⟨(show 0 + 0 ≤ (8 * (T - pp) + 3) by omega), (show 0 + 0 ≤ (120 * (T - pp) + 280) by omega)⟩) hS (fun q _ h => hFc q h) hFc (fun r_13 u tS H1 locs ht hvm hw hB hz1 hk1 hS => ?_)
        obtain ⟨ff_11, xa_12, hf13_0, hP1, hK1, hD1⟩ := hB
        rw [ht] at hP1
        replace hK1 := va_K.moved hvm.symm hK1
        obtain ⟨hPj, hDj⟩ := va_joinT (wr := [(ee, .inr (15, [.int 6, .int tx, .int 0, .int (nI pp), .int 0, .int 0, .long 0, .int 0, .null, .null, .null, .int 0, .null, .null])), (mr 8, .inl (kL, 3002, .inr (.inl fn)))]) (w1 := [(m9, .inr (23, mA mr mv vf xl (nI zs) ff_11 xa_12 (nI T) (nI (pp + 1 + 1)) xi xt xn (nI ns) (nI vv) (nI bb))), (mr 5, .inl (kI, 3002, .inl fk)), (mr 6, .inl (kI, 3002, .inl fa))]) hP hD [3, 4, 1] [0, 2] rfl rfl (by decide) (by decide) hk1 hFc hP1 hD1
        replace hP := hPj
        replace hD := hDj
        clear hPj hDj
        replace hK := hK.app hK1
        generalize H1 = H at hP hS ⊢
        replace hP : va_P (dC, dI) vwCl (([(ee, .inr (15, [.int 6, .int tx, .int 0, .int (nI pp), .int 0, .int 0, .long 0, .int 0, .null, .null, .null, .int 0, .null, .null])), (mr 8, .inl (kL, 3002, .inr (.inl fn))), (m9, .inr (23, mA mr mv vf xl (nI zs) ff_11 xa_12 (nI T) (nI (pp + 1 + 1)) xi xt xn (nI ns) (nI vv) (nI bb))), (mr 5, .inl (kI, 3002, .inl fk)), (mr 6, .inl (kI, 3002, .inl fa))] : va_W) ++ (sT L F)) H := hP
        replace hD : va_D A (([(ee, .inr (15, [.int 6, .int tx, .int 0, .int (nI pp), .int 0, .int 0, .long 0, .int 0, .null, .null, .null, .int 0, .null, .null])), (mr 8, .inl (kL, 3002, .inr (.inl fn))), (m9, .inr (23, mA mr mv vf xl (nI zs) ff_11 xa_12 (nI T) (nI (pp + 1 + 1)) xi xt xn (nI ns) (nI vv) (nI bb))), (mr 5, .inl (kI, 3002, .inl fk)), (mr 6, .inl (kI, 3002, .inl fa))] : va_W) ++ (sT L F)) := hD
        replace hK : va_K (dC, dI) vwCl [(kI, .int), (kL, .long), (kE, .object RX15), (kI, .int)] s := hK
        replace hK := hK.sub (tys' := [(kI, .int), (kL, .long), (kE, .object RX15)]) [0, 1, 2] rfl
        clear hz1 hk1 hPc hDc hKc hFc hP1 hD1 hK1
        refine va_put (D := (dC, dI)) (ci := 15) (v := .int r_13) (ty := .int) (C := RX15) (T := TX15) (N := 14) hx hb hts in_c_xnm_X15 tyX15 tyX15_ok nmX15 hown hK hP hD hS 0 rfl rfl 2 (by decide) (hts (.fieldLink RX23 379 "OwnedPlacesModel$Exp" "sign" "I") (wm_c_xnm 57 rfl)) (fun _ h9 => h9) rfl (by decide +kernel) rfl rfl (Nat.le_of_ble_eq_true rfl) dX23_named_60 (fun H locs hP hD hS => ?_)
        replace hP : va_P (dC, dI) vwCl (([(ee, .inr (15, [.int 6, .int tx, .int r_13, .int (nI pp), .int 0, .int 0, .long 0, .int 0, .null, .null, .null, .int 0, .null, .null])), (mr 8, .inl (kL, 3002, .inr (.inl fn))), (m9, .inr (23, mA mr mv vf xl (nI zs) ff_11 xa_12 (nI T) (nI (pp + 1 + 1)) xi xt xn (nI ns) (nI vv) (nI bb))), (mr 5, .inl (kI, 3002, .inl fk)), (mr 6, .inl (kI, 3002, .inl fa))] : va_W) ++ (sT L F)) H := hP
        replace hD : va_D A (([(ee, .inr (15, [.int 6, .int tx, .int r_13, .int (nI pp), .int 0, .int 0, .long 0, .int 0, .null, .null, .null, .int 0, .null, .null])), (mr 8, .inl (kL, 3002, .inr (.inl fn))), (m9, .inr (23, mA mr mv vf xl (nI zs) ff_11 xa_12 (nI T) (nI (pp + 1 + 1)) xi xt xn (nI ns) (nI vv) (nI bb))), (mr 5, .inl (kI, 3002, .inl fk)), (mr 6, .inl (kI, 3002, .inl fa))] : va_W) ++ (sT L F)) := hD
        refine lv_aload_n hx hb dX23_named_63 rfl (lv_at hl 0 rfl) ?_
        replace hPc := hP.subF (f' := [(m9, .inr (23, mA mr mv vf xl (nI zs) ff_11 xa_12 (nI T) (nI (pp + 1 + 1)) xi xt xn (nI ns) (nI vv) (nI bb)))]) [2] rfl
        replace hDc := hD.subF (f' := [(m9, .inr (23, mA mr mv vf xl (nI zs) ff_11 xa_12 (nI T) (nI (pp + 1 + 1)) xi xt xn (nI ns) (nI vv) (nI bb)))]) [2] (by decide) rfl
        replace hKc := hK.sub (tys' := []) [] rfl
        replace hFc := va_freeT (wc := [(m9, .inr (23, mA mr mv vf xl (nI zs) ff_11 xa_12 (nI T) (nI (pp + 1 + 1)) xi xt xn (nI ns) (nI vv) (nI bb)))]) hD hS hA [2] rfl
        refine va_calli (va_runV (As := []) (rest := []) ⟨hx, hb, hml, hown, hts⟩ (c_rokB l dC dI m9 mr mv vf xl xa_12 xi xt xn zs T (pp + 1 + 1) ns vv bb kI fk fa ff_11 H.size hf13_0) (cwV 0 hts g_c_xnm_c_rokB_64 rfl rfl rfl (by decide +kernel) ⟨by show 0 + 1 ≤ 3 + 12 * k; omega, by show 8 + (1 + 11) + (0) ≤ 65 + 279 * k; omega⟩) ⟨fun a U g mk q => by obtain ⟨q0, q1, qP, qK, qD⟩ := q; exact ⟨q0, q1, qP, va_K.moved (u := U) (U := U.calling g mk a) (Vm.Alike.refl U.vm) qK, qD⟩, va_recv hKc hPc (ci := 23) (q0 := 0) rfl rfl, fun U hU hW => ⟨rfl, by rw [hU], by rw [hU]; exact hPc, va_K.moved hW.alike hKc, hDc.weaken (fun _ _ _ _ => trivial)⟩⟩ rfl rfl hl.1 rfl (lv_room (Nat.le_of_ble_eq_true rfl)) dX23_named_64 ⟨(show 0 + 0 ≤ (8 * (T - pp) + 3) by omega), (show 0 + 0 ≤ (120 * (T - pp) + 280) by omega)⟩) hS (fun q _ h => hFc q h) hFc (fun r_14 u tS H1 locs ht hvm hw hB hz1 hk1 hS => ?_)
        obtain ⟨hP1, hK1, hD1⟩ := hB
        rw [ht] at hP1
        replace hK1 := va_K.moved hvm.symm hK1
        obtain ⟨hPj, hDj⟩ := va_joinT (wr := [(ee, .inr (15, [.int 6, .int tx, .int r_13, .int (nI pp), .int 0, .int 0, .long 0, .int 0, .null, .null, .null, .int 0, .null, .null])), (mr 8, .inl (kL, 3002, .inr (.inl fn))), (mr 5, .inl (kI, 3002, .inl fk)), (mr 6, .inl (kI, 3002, .inl fa))]) (w1 := [(m9, .inr (23, mA mr mv vf xl (nI zs) ff_11 xa_12 (nI T) (nI (pp + 1 + 1)) xi xt xn (nI ns) (nI vv) (nI bb)))]) hP hD [2] [0, 1, 3, 4] rfl rfl (by decide) (by decide) hk1 hFc hP1 hD1
        replace hP := hPj
        replace hD := hDj
        clear hPj hDj
        generalize H1 = H at hP hS ⊢
        replace hP : va_P (dC, dI) vwCl (([(ee, .inr (15, [.int 6, .int tx, .int r_13, .int (nI pp), .int 0, .int 0, .long 0, .int 0, .null, .null, .null, .int 0, .null, .null])), (mr 8, .inl (kL, 3002, .inr (.inl fn))), (mr 5, .inl (kI, 3002, .inl fk)), (mr 6, .inl (kI, 3002, .inl fa)), (m9, .inr (23, mA mr mv vf xl (nI zs) ff_11 xa_12 (nI T) (nI (pp + 1 + 1)) xi xt xn (nI ns) (nI vv) (nI bb)))] : va_W) ++ (sT L F)) H := hP
        replace hD : va_D A (([(ee, .inr (15, [.int 6, .int tx, .int r_13, .int (nI pp), .int 0, .int 0, .long 0, .int 0, .null, .null, .null, .int 0, .null, .null])), (mr 8, .inl (kL, 3002, .inr (.inl fn))), (mr 5, .inl (kI, 3002, .inl fk)), (mr 6, .inl (kI, 3002, .inl fa)), (m9, .inr (23, mA mr mv vf xl (nI zs) ff_11 xa_12 (nI T) (nI (pp + 1 + 1)) xi xt xn (nI ns) (nI vv) (nI bb)))] : va_W) ++ (sT L F)) := hD
        replace hK : va_K (dC, dI) vwCl [(kI, .int), (kL, .long), (kE, .object RX15)] s := hK
        clear hz1 hk1 hPc hDc hKc hFc hP1 hD1 hK1
        obtain rfl : r_14 = 0 := hw
        refine lv_if_eq (tgt := 92) hx hb dX23_named_67 (by decide) (fun _ => ?_) (fun c_15 => absurd (by decide) c_15)
        refine W.grow (fun hgs0 hgs1 => ?_)
        have hP9 := hP.subT (f' := [(ee, .inr (15, [.int 6, .int tx, .int r_13, .int (nI pp), .int 0, .int 0, .long 0, .int 0, .null, .null, .null, .int (nI 0), .null, .null])), (m9, .inr (23, mA mr mv vf xl (nI zs) ff_11 xa_12 (nI T) (nI (pp + 1 + 1)) xi xt xn (nI ns) (nI vv) (nI bb))), (mr 5, .inl (kI, 3002, .inl fk)), (mr 6, .inl (kI, 3002, .inl fa)), (mr 8, .inl (kL, 3002, .inr (.inl fn)))]) [0, 4, 2, 3, 1] rfl
        have hD9 := hD.subT (f' := [(ee, .inr (15, [.int 6, .int tx, .int r_13, .int (nI pp), .int 0, .int 0, .long 0, .int 0, .null, .null, .null, .int (nI 0), .null, .null])), (m9, .inr (23, mA mr mv vf xl (nI zs) ff_11 xa_12 (nI T) (nI (pp + 1 + 1)) xi xt xn (nI ns) (nI vv) (nI bb))), (mr 5, .inl (kI, 3002, .inl fk)), (mr 6, .inl (kI, 3002, .inl fa)), (mr 8, .inl (kL, 3002, .inr (.inl fn)))]) [0, 4, 2, 3, 1] (by decide) rfl
        have hK9 := hK.sub (tys' := [(kI, .int), (kL, .long), (kE, .object RX15)]) [0, 1, 2] rfl
        refine W.widen (k := (8 * (T - pp) + 3)) (n := (120 * (T - pp) + 280)) (by omega) (by omega) ?_
        exact W.vret hx hb hr (fun tS ht hW => ⟨⟨(), rfl, trivial, L, F, ff_11, xa_12, pp + 1 + 1, bb, 6, r_13, nI pp, .null, .null, 0, exS.rf, ⟨by omega, by omega, by omega, by omega⟩, (fun q9 => absurd q9 hf13_0), by rw [ht]; exact ⟨by omega, by omega⟩, by rw [ht]; exact hP9, va_K.moved hW.alike hK9, hD9⟩, hS.F ht⟩) hS.2.2 dX23_named_92
    · replace hPc := hP.subF (f' := [(m9, .inr (23, mA mr mv vf xl (nI zs) 0 xa (nI T) (nI (pp + 1)) xi xt xn (nI ns) (nI vv) (nI bb))), (mr 5, .inl (kI, 3002, .inl fk))]) [3, 4] rfl
      replace hDc := hD.subF (f' := [(m9, .inr (23, mA mr mv vf xl (nI zs) 0 xa (nI T) (nI (pp + 1)) xi xt xn (nI ns) (nI vv) (nI bb))), (mr 5, .inl (kI, 3002, .inl fk))]) [3, 4] (by decide) rfl
      replace hKc := hK.sub (tys' := [(kI, .int)]) [0] rfl
      replace hFc := va_freeT (wc := [(m9, .inr (23, mA mr mv vf xl (nI zs) 0 xa (nI T) (nI (pp + 1)) xi xt xn (nI ns) (nI vv) (nI bb))), (mr 5, .inl (kI, 3002, .inl fk))]) hD hS hA [3, 4] rfl
      refine va_calli (va_runV (As := [.int 59]) (rest := []) ⟨hx, hb, hml, hown, hts⟩ (c_rtsN l dC dI m9 mr mv vf xl xa xi xt xn zs T (pp + 1) ns vv bb kI fk fa 59 H.size hT hp_2 hk0 (by decide) hk_6) (cwV 1 hts g_c_xnm_c_rtsN_43 rfl rfl rfl (by decide +kernel) ⟨by show 1 + 1 ≤ 3 + 12 * k; omega, by show 8 + (2 + 11) + (21) ≤ 65 + 279 * k; omega⟩) ⟨fun a U g mk q => by obtain ⟨q0, q1, qP, qK, qD⟩ := q; exact ⟨q0, q1, qP, va_K.moved (u := U) (U := U.calling g mk a) (Vm.Alike.refl U.vm) qK, qD⟩, va_recv hKc hPc (ci := 23) (q0 := 0) rfl rfl, fun U hU hW => ⟨rfl, by rw [hU], by rw [hU]; exact hPc, va_K.moved hW.alike hKc, hDc.weaken (fun _ _ _ _ => trivial)⟩⟩ rfl rfl hl.1 rfl (lv_room (Nat.le_of_ble_eq_true rfl)) dX23_named_43 ⟨(show 0 + 0 ≤ (8 * (T - pp) + 3) by omega), (show 0 + 0 ≤ (120 * (T - pp) + 280) by omega)⟩) hS (fun q _ h => hFc q h) hFc (fun r_7 u tS H1 locs ht hvm hw hB hz1 hk1 hS => ?_)
      obtain ⟨hP1, hK1, hD1⟩ := hB
      rw [ht] at hP1
      replace hK1 := va_K.moved hvm.symm hK1
      obtain ⟨hPj, hDj⟩ := va_joinT (wr := [(ee, .inr (15, [.int 0, .int tx, .int 0, .int (nI pp), .int 0, .int 0, .long 0, .int 0, .null, .null, .null, .int 0, .null, .null])), (mr 6, .inl (kI, 3002, .inl fa)), (mr 8, .inl (kL, 3002, .inr (.inl fn)))]) (w1 := [(m9, .inr (23, mA mr mv vf xl (nI zs) 0 xa (nI T) (nI (pp + 1)) xi xt xn (nI ns) (nI vv) (nI bb))), (mr 5, .inl (kI, 3002, .inl fk))]) hP hD [3, 4] [0, 1, 2] rfl rfl (by decide) (by decide) hk1 hFc hP1 hD1
      replace hP := hPj
      replace hD := hDj
      clear hPj hDj
      replace hK := hK.app hK1
      generalize H1 = H at hP hS ⊢
      replace hP : va_P (dC, dI) vwCl (([(ee, .inr (15, [.int 0, .int tx, .int 0, .int (nI pp), .int 0, .int 0, .long 0, .int 0, .null, .null, .null, .int 0, .null, .null])), (mr 6, .inl (kI, 3002, .inl fa)), (mr 8, .inl (kL, 3002, .inr (.inl fn))), (m9, .inr (23, mA mr mv vf xl (nI zs) 0 xa (nI T) (nI (pp + 1)) xi xt xn (nI ns) (nI vv) (nI bb))), (mr 5, .inl (kI, 3002, .inl fk))] : va_W) ++ (sT L F)) H := hP
      replace hD : va_D A (([(ee, .inr (15, [.int 0, .int tx, .int 0, .int (nI pp), .int 0, .int 0, .long 0, .int 0, .null, .null, .null, .int 0, .null, .null])), (mr 6, .inl (kI, 3002, .inl fa)), (mr 8, .inl (kL, 3002, .inr (.inl fn))), (m9, .inr (23, mA mr mv vf xl (nI zs) 0 xa (nI T) (nI (pp + 1)) xi xt xn (nI ns) (nI vv) (nI bb))), (mr 5, .inl (kI, 3002, .inl fk))] : va_W) ++ (sT L F)) := hD
      replace hK : va_K (dC, dI) vwCl [(kI, .int), (kL, .long), (kE, .object RX15), (kI, .int)] s := hK
      replace hK := hK.sub (tys' := [(kI, .int), (kL, .long), (kE, .object RX15)]) [0, 1, 2] rfl
      clear hz1 hk1 hPc hDc hKc hFc hP1 hD1 hK1
      obtain rfl : r_7 = 0 := hw
      refine lv_if_eq (tgt := 87) hx hb dX23_named_46 (by decide) (fun _ => ?_) (fun c_8 => absurd (by decide) c_8)
      refine lv_aload_n hx hb dX23_named_87 rfl (lv_at hl 1 rfl) ?_
      refine lv_iconst (v := 2) hx hb dX23_named_88 (by decide) ?_
      refine va_put (D := (dC, dI)) (ci := 15) (v := .int 2) (ty := .int) (C := RX15) (T := TX15) (N := 14) hx hb hts in_c_xnm_X15 tyX15 tyX15_ok nmX15 hown hK hP hD hS 0 rfl rfl 0 (by decide) (hts (.fieldLink RX23 330 "OwnedPlacesModel$Exp" "kind" "I") (wm_c_xnm 9 rfl)) (fun _ h9 => h9) rfl (by decide +kernel) rfl rfl (Nat.le_of_ble_eq_true rfl) dX23_named_89 (fun H locs hP hD hS => ?_)
      replace hP : va_P (dC, dI) vwCl (([(ee, .inr (15, [.int 2, .int tx, .int 0, .int (nI pp), .int 0, .int 0, .long 0, .int 0, .null, .null, .null, .int 0, .null, .null])), (mr 6, .inl (kI, 3002, .inl fa)), (mr 8, .inl (kL, 3002, .inr (.inl fn))), (m9, .inr (23, mA mr mv vf xl (nI zs) 0 xa (nI T) (nI (pp + 1)) xi xt xn (nI ns) (nI vv) (nI bb))), (mr 5, .inl (kI, 3002, .inl fk))] : va_W) ++ (sT L F)) H := hP
      replace hD : va_D A (([(ee, .inr (15, [.int 2, .int tx, .int 0, .int (nI pp), .int 0, .int 0, .long 0, .int 0, .null, .null, .null, .int 0, .null, .null])), (mr 6, .inl (kI, 3002, .inl fa)), (mr 8, .inl (kL, 3002, .inr (.inl fn))), (m9, .inr (23, mA mr mv vf xl (nI zs) 0 xa (nI T) (nI (pp + 1)) xi xt xn (nI ns) (nI vv) (nI bb))), (mr 5, .inl (kI, 3002, .inl fk))] : va_W) ++ (sT L F)) := hD
      refine W.grow (fun hgs0 hgs1 => ?_)
      have hP9 := hP.subT (f' := [(ee, .inr (15, [.int 2, .int tx, .int 0, .int (nI pp), .int 0, .int 0, .long 0, .int 0, .null, .null, .null, .int (nI 0), .null, .null])), (m9, .inr (23, mA mr mv vf xl (nI zs) 0 xa (nI T) (nI (pp + 1)) xi xt xn (nI ns) (nI vv) (nI bb))), (mr 5, .inl (kI, 3002, .inl fk)), (mr 6, .inl (kI, 3002, .inl fa)), (mr 8, .inl (kL, 3002, .inr (.inl fn)))]) [0, 3, 4, 1, 2] rfl
      have hD9 := hD.subT (f' := [(ee, .inr (15, [.int 2, .int tx, .int 0, .int (nI pp), .int 0, .int 0, .long 0, .int 0, .null, .null, .null, .int (nI 0), .null, .null])), (m9, .inr (23, mA mr mv vf xl (nI zs) 0 xa (nI T) (nI (pp + 1)) xi xt xn (nI ns) (nI vv) (nI bb))), (mr 5, .inl (kI, 3002, .inl fk)), (mr 6, .inl (kI, 3002, .inl fa)), (mr 8, .inl (kL, 3002, .inr (.inl fn)))]) [0, 3, 4, 1, 2] (by decide) rfl
      have hK9 := hK.sub (tys' := [(kI, .int), (kL, .long), (kE, .object RX15)]) [0, 1, 2] rfl
      refine W.widen (k := (8 * (T - pp) + 3)) (n := (120 * (T - pp) + 280)) (by omega) (by omega) ?_
      exact W.vret hx hb hr (fun tS ht hW => ⟨⟨(), rfl, trivial, L, F, 0, xa, pp + 1, bb, 2, 0, nI pp, .null, .null, 0, exS.rf, ⟨by omega, by omega, by omega, by omega⟩, (fun _ => ⟨hbb, by omega, Or.inl ⟨rfl, rfl, rfl, rfl, rfl, rfl, rfl⟩⟩), by rw [ht]; exact ⟨by omega, by omega⟩, by rw [ht]; exact hP9, va_K.moved hW.alike hK9, hD9⟩, hS.F ht⟩) hS.2.2 dX23_named_92
