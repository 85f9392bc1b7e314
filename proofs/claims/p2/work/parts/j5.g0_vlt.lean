set_option maxRecDepth 20000 in
theorem g_c_vlt_c_rtsY_19 : GoodIn wp_c_vlt (wsV RX23 125 RX23 yX23_takes wp_c_rtsY) := goodIn_app (goodIn_f [.methodLink RX23 125 yX23_takes, .instanceMethod yX23_takes, .selects RX23 yX23_takes yX23_takes, .initialized RX23] [15, 16, 17, 9] rfl (by decide +kernel)) (goodIn_app (goodIn_f (wf_c_rtsY) [3, 4, 5, 6, 7, 8, 9, 10, 11, 2, 12, 13, 14] rfl wg_c_rtsY) (goodIn_app (goodIn_sub in_c_vlt_X23 gd_X23) (goodIn_n)))
set_option maxRecDepth 20000 in
theorem g_c_vlt_c_rtsN_19 : GoodIn wp_c_vlt (wsV RX23 125 RX23 yX23_takes wp_c_rtsY) := goodIn_app (goodIn_f [.methodLink RX23 125 yX23_takes, .instanceMethod yX23_takes, .selects RX23 yX23_takes yX23_takes, .initialized RX23] [15, 16, 17, 9] rfl (by decide +kernel)) (goodIn_app (goodIn_f (wf_c_rtsY) [3, 4, 5, 6, 7, 8, 9, 10, 11, 2, 12, 13, 14] rfl wg_c_rtsY) (goodIn_app (goodIn_sub in_c_vlt_X23 gd_X23) (goodIn_n)))
set_option maxRecDepth 20000 in
theorem g_c_vlt_c_rovN_26 : GoodIn wp_c_vlt (wsV RX23 282 RX23 yX23_oneVariable wp_c_rovY) := goodIn_app (goodIn_f [.methodLink RX23 282 yX23_oneVariable, .instanceMethod yX23_oneVariable, .selects RX23 yX23_oneVariable yX23_oneVariable, .initialized RX23] [27, 28, 29, 9] rfl (by decide +kernel)) (goodIn_app (goodIn_f (wf_c_rovY) [19, 4, 5, 6, 7, 8, 9, 10, 11, 2, 12, 13, 14, 20, 21, 22, 23, 24, 25, 26] rfl wg_c_rovY) (goodIn_app (goodIn_sub in_c_vlt_X23 gd_X23) (goodIn_n)))
set_option maxRecDepth 20000 in
theorem g_c_vlt_c_rovY_26 : GoodIn wp_c_vlt (wsV RX23 282 RX23 yX23_oneVariable wp_c_rovY) := goodIn_app (goodIn_f [.methodLink RX23 282 yX23_oneVariable, .instanceMethod yX23_oneVariable, .selects RX23 yX23_oneVariable yX23_oneVariable, .initialized RX23] [27, 28, 29, 9] rfl (by decide +kernel)) (goodIn_app (goodIn_f (wf_c_rovY) [19, 4, 5, 6, 7, 8, 9, 10, 11, 2, 12, 13, 14, 20, 21, 22, 23, 24, 25, 26] rfl wg_c_rovY) (goodIn_app (goodIn_sub in_c_vlt_X23 gd_X23) (goodIn_n)))
set_option maxRecDepth 20000 in
theorem g_c_vlt_c_rnmB_31 : GoodIn wp_c_vlt (wsV RX23 150 RX23 yX23_name wp_c_rnmY) := goodIn_app (goodIn_f [.methodLink RX23 150 yX23_name, .instanceMethod yX23_name, .selects RX23 yX23_name yX23_name, .initialized RX23] [35, 36, 37, 9] rfl (by decide +kernel)) (goodIn_app (goodIn_f (wf_c_rnmY) [30, 31, 4, 5, 6, 7, 8, 9, 10, 11, 2, 12, 13, 14, 21, 22, 23, 24, 25, 26, 32, 33, 34] rfl wg_c_rnmY) (goodIn_app (goodIn_sub in_c_vlt_X23 gd_X23) (goodIn_n)))
set_option maxRecDepth 20000 in
theorem g_c_vlt_c_rtsB_40 : GoodIn wp_c_vlt (wsV RX23 125 RX23 yX23_takes wp_c_rtsY) := goodIn_app (goodIn_f [.methodLink RX23 125 yX23_takes, .instanceMethod yX23_takes, .selects RX23 yX23_takes yX23_takes, .initialized RX23] [15, 16, 17, 9] rfl (by decide +kernel)) (goodIn_app (goodIn_f (wf_c_rtsY) [3, 4, 5, 6, 7, 8, 9, 10, 11, 2, 12, 13, 14] rfl wg_c_rtsY) (goodIn_app (goodIn_sub in_c_vlt_X23 gd_X23) (goodIn_n)))
set_option maxRecDepth 20000 in
theorem g_c_vlt_c_rtsB_57 : GoodIn wp_c_vlt (wsV RX23 125 RX23 yX23_takes wp_c_rtsY) := goodIn_app (goodIn_f [.methodLink RX23 125 yX23_takes, .instanceMethod yX23_takes, .selects RX23 yX23_takes yX23_takes, .initialized RX23] [15, 16, 17, 9] rfl (by decide +kernel)) (goodIn_app (goodIn_f (wf_c_rtsY) [3, 4, 5, 6, 7, 8, 9, 10, 11, 2, 12, 13, 14] rfl wg_c_rtsY) (goodIn_app (goodIn_sub in_c_vlt_X23 gd_X23) (goodIn_n)))
set_option maxRecDepth 20000 in
theorem g_c_vlt_c_rtkB_74 : GoodIn wp_c_vlt (wsV RX23 100 RX23 yX23_take wp_c_rtkY) := goodIn_app (goodIn_f [.methodLink RX23 100 yX23_take, .instanceMethod yX23_take, .selects RX23 yX23_take yX23_take, .initialized RX23] [32, 33, 34, 9] rfl (by decide +kernel)) (goodIn_app (goodIn_f (wf_c_rtkY) [31, 4, 5, 6, 7, 8, 9, 10, 11, 2, 12, 13, 14, 21, 22, 23, 24, 25, 26] rfl wg_c_rtkY) (goodIn_app (goodIn_sub in_c_vlt_X23 gd_X23) (goodIn_n)))
set_option maxRecDepth 20000 in
theorem g_c_vlt_c_rnmY_31 : GoodIn wp_c_vlt (wsV RX23 150 RX23 yX23_name wp_c_rnmY) := goodIn_app (goodIn_f [.methodLink RX23 150 yX23_name, .instanceMethod yX23_name, .selects RX23 yX23_name yX23_name, .initialized RX23] [35, 36, 37, 9] rfl (by decide +kernel)) (goodIn_app (goodIn_f (wf_c_rnmY) [30, 31, 4, 5, 6, 7, 8, 9, 10, 11, 2, 12, 13, 14, 21, 22, 23, 24, 25, 26, 32, 33, 34] rfl wg_c_rnmY) (goodIn_app (goodIn_sub in_c_vlt_X23 gd_X23) (goodIn_n)))
set_option maxRecDepth 20000 in
theorem g_c_vlt_c_rnmN_31 : GoodIn wp_c_vlt (wsV RX23 150 RX23 yX23_name wp_c_rnmY) := goodIn_app (goodIn_f [.methodLink RX23 150 yX23_name, .instanceMethod yX23_name, .selects RX23 yX23_name yX23_name, .initialized RX23] [35, 36, 37, 9] rfl (by decide +kernel)) (goodIn_app (goodIn_f (wf_c_rnmY) [30, 31, 4, 5, 6, 7, 8, 9, 10, 11, 2, 12, 13, 14, 21, 22, 23, 24, 25, 26, 32, 33, 34] rfl wg_c_rnmY) (goodIn_app (goodIn_sub in_c_vlt_X23 gd_X23) (goodIn_n)))
set_option maxRecDepth 20000 in
theorem g_c_vlt_c_rtsY_40 : GoodIn wp_c_vlt (wsV RX23 125 RX23 yX23_takes wp_c_rtsY) := goodIn_app (goodIn_f [.methodLink RX23 125 yX23_takes, .instanceMethod yX23_takes, .selects RX23 yX23_takes yX23_takes, .initialized RX23] [15, 16, 17, 9] rfl (by decide +kernel)) (goodIn_app (goodIn_f (wf_c_rtsY) [3, 4, 5, 6, 7, 8, 9, 10, 11, 2, 12, 13, 14] rfl wg_c_rtsY) (goodIn_app (goodIn_sub in_c_vlt_X23 gd_X23) (goodIn_n)))
set_option maxRecDepth 20000 in
theorem g_c_vlt_c_rtsN_40 : GoodIn wp_c_vlt (wsV RX23 125 RX23 yX23_takes wp_c_rtsY) := goodIn_app (goodIn_f [.methodLink RX23 125 yX23_takes, .instanceMethod yX23_takes, .selects RX23 yX23_takes yX23_takes, .initialized RX23] [15, 16, 17, 9] rfl (by decide +kernel)) (goodIn_app (goodIn_f (wf_c_rtsY) [3, 4, 5, 6, 7, 8, 9, 10, 11, 2, 12, 13, 14] rfl wg_c_rtsY) (goodIn_app (goodIn_sub in_c_vlt_X23 gd_X23) (goodIn_n)))
set_option maxRecDepth 20000 in
theorem g_c_vlt_c_rwr_48 : GoodIn wp_c_vlt (wsV RX23 131 RX23 yX23_written wp_c_rwr) := goodIn_app (goodIn_f [.methodLink RX23 131 yX23_written, .instanceMethod yX23_written, .selects RX23 yX23_written yX23_written, .initialized RX23] [56, 57, 58, 9] rfl (by decide +kernel)) (goodIn_app (goodIn_f (wf_c_rwr) [39, 40, 41, 42, 43, 44, 45, 46, 47, 48, 4, 5, 6, 7, 8, 9, 2, 49, 11, 50, 10, 12, 13, 14, 51, 52, 21, 22, 23, 24, 25, 26, 53, 54, 55, 56, 57, 58, 59, 3, 15, 16, 17, 60, 61] rfl wg_c_rwr) (goodIn_app (goodIn_sub in_c_vlt_X22 gd_X22) (goodIn_app (goodIn_sub in_c_vlt_X23 gd_X23) (goodIn_n))))
set_option maxRecDepth 20000 in
theorem g_c_vlt_c_rtsY_57 : GoodIn wp_c_vlt (wsV RX23 125 RX23 yX23_takes wp_c_rtsY) := goodIn_app (goodIn_f [.methodLink RX23 125 yX23_takes, .instanceMethod yX23_takes, .selects RX23 yX23_takes yX23_takes, .initialized RX23] [15, 16, 17, 9] rfl (by decide +kernel)) (goodIn_app (goodIn_f (wf_c_rtsY) [3, 4, 5, 6, 7, 8, 9, 10, 11, 2, 12, 13, 14] rfl wg_c_rtsY) (goodIn_app (goodIn_sub in_c_vlt_X23 gd_X23) (goodIn_n)))
set_option maxRecDepth 20000 in
theorem g_c_vlt_c_rtsN_57 : GoodIn wp_c_vlt (wsV RX23 125 RX23 yX23_takes wp_c_rtsY) := goodIn_app (goodIn_f [.methodLink RX23 125 yX23_takes, .instanceMethod yX23_takes, .selects RX23 yX23_takes yX23_takes, .initialized RX23] [15, 16, 17, 9] rfl (by decide +kernel)) (goodIn_app (goodIn_f (wf_c_rtsY) [3, 4, 5, 6, 7, 8, 9, 10, 11, 2, 12, 13, 14] rfl wg_c_rtsY) (goodIn_app (goodIn_sub in_c_vlt_X23 gd_X23) (goodIn_n)))
set_option maxRecDepth 20000 in
theorem g_c_vlt_c_xex_65 : GoodIn wp_c_vlt (wsV RX23 264 RX23 yX23_exp wp_c_xex) := goodIn_app (goodIn_f [.methodLink RX23 264 yX23_exp, .instanceMethod yX23_exp, .selects RX23 yX23_exp yX23_exp, .initialized RX23] [79, 80, 81, 9] rfl (by decide +kernel)) (goodIn_app (goodIn_f (wf_c_xex) [63, 64, 65, 66, 9, 67, 68, 69, 70, 71, 72, 45, 46, 73, 2, 74, 11, 75, 76, 10, 12, 13, 14, 77, 78, 4, 5, 6, 7, 8, 51, 52, 21, 22, 23, 24, 25, 26, 53, 54, 55, 31, 32, 33, 34, 79, 80, 81, 82, 83, 84, 85, 86, 87, 88, 3, 15, 16, 17, 89, 90, 91, 30, 35, 36, 37, 92, 93, 94, 95, 96, 97, 98, 99, 100, 101, 102, 103, 104, 105, 106, 107, 108, 109, 110, 111, 112, 113, 114, 115, 116, 117, 118, 119, 120, 121, 122, 123, 124, 125, 126, 127] rfl wg_c_xex) (goodIn_app (goodIn_sub in_c_vlt_X15 gd_X15) (goodIn_app (goodIn_sub in_c_vlt_X23 gd_X23) (goodIn_n))))
set_option maxRecDepth 20000 in
theorem g_c_vlt_c_rtkY_74 : GoodIn wp_c_vlt (wsV RX23 100 RX23 yX23_take wp_c_rtkY) := goodIn_app (goodIn_f [.methodLink RX23 100 yX23_take, .instanceMethod yX23_take, .selects RX23 yX23_take yX23_take, .initialized RX23] [32, 33, 34, 9] rfl (by decide +kernel)) (goodIn_app (goodIn_f (wf_c_rtkY) [31, 4, 5, 6, 7, 8, 9, 10, 11, 2, 12, 13, 14, 21, 22, 23, 24, 25, 26] rfl wg_c_rtkY) (goodIn_app (goodIn_sub in_c_vlt_X23 gd_X23) (goodIn_n)))
set_option maxRecDepth 20000 in
theorem g_c_vlt_c_rtkN_74 : GoodIn wp_c_vlt (wsV RX23 100 RX23 yX23_take wp_c_rtkY) := goodIn_app (goodIn_f [.methodLink RX23 100 yX23_take, .instanceMethod yX23_take, .selects RX23 yX23_take yX23_take, .initialized RX23] [32, 33, 34, 9] rfl (by decide +kernel)) (goodIn_app (goodIn_f (wf_c_rtkY) [31, 4, 5, 6, 7, 8, 9, 10, 11, 2, 12, 13, 14, 21, 22, 23, 24, 25, 26] rfl wg_c_rtkY) (goodIn_app (goodIn_sub in_c_vlt_X23 gd_X23) (goodIn_n)))
set_option maxHeartbeats 4000000 in
set_option maxRecDepth 100000 in
theorem c_vlt (l : Launch) (dC : Nat → ClassId) (dI : Nat → Nat → Nat) (k : Nat) (ih : ∀ k1 : Nat, k = k1 + 1 → IH_gv l dC dI k1) : st_c_vlt l dC dI k := by
  intro m9 mr mv vf xl xa xi xt xn zs T pp ns vv bb kI fk fa kL kE fn L F kS kB kA kV ss sl sz hT hp hk0 hbb hvv hnk hk13
  refine Met.ofW (cc := cX23_let) (maxL := 2) (ret := none) (by decide) rfl ?_
  intro p e s m args below meth c s₁ B hml hv
  obtain ⟨rfl, hsz, hP, hK, hD0, hpre0, hpre1⟩ := hv
  have hx := B.exec
  have hb := B.bytes
  have hr := B.returns
  have hts := atoms_spec (ws := wp_c_vlt) B.pre
  have hown : s.vm.findClass RX23 = some m.cls := findClass_of_methodNamed B.named
  have hlocks := B.notSynchronized
  subst hsz
  replace hD := hD0.self (sz := s.heap.size)
  generalize hAe : va_A (([(ss, .inr (19, [.int 0, .int (nI pp), .int 0, .int 0, .int 0, .null, .null, .null, .null, .null, .null, .null, .null, .int 0])), (m9, .inr (23, mA mr mv vf xl (nI zs) 0 xa (nI T) (nI pp) xi xt xn (nI ns) (nI vv) (nI bb))), (mr 5, .inl (kI, 3002, .inl fk)), (mr 6, .inl (kI, 3002, .inl fa)), (mr 8, .inl (kL, 3002, .inr (.inl fn)))] : va_W) ++ (sT L F)) s.heap.size = A at hD ⊢
  have hA : ∀ q : Nat, s.heap.size ≤ q → A q := fun q h => by rw [← hAe]; exact Or.inr h
  have hS : va_S A s.heap s.heap [] := va_S.rf
  replace hP : va_P (dC, dI) vwCl (([(ss, .inr (19, [.int 0, .int (nI pp), .int 0, .int 0, .int 0, .null, .null, .null, .null, .null, .null, .null, .null, .int 0])), (m9, .inr (23, mA mr mv vf xl (nI zs) 0 xa (nI T) (nI pp) xi xt xn (nI ns) (nI vv) (nI bb))), (mr 5, .inl (kI, 3002, .inl fk)), (mr 6, .inl (kI, 3002, .inl fa)), (mr 8, .inl (kL, 3002, .inr (.inl fn)))] : va_W) ++ (sT L F)) s.heap := hP
  replace hl := lv_entry ([.ref m9, .ref ss]) (n := 2) (Nat.le_of_ble_eq_true rfl)
  rw [lg_entry_eq]
  generalize (lg_sl ([.ref m9, .ref ss]) ++ List.replicate (2 - (lg_sl ([.ref m9, .ref ss])).length) Slot.unset).toArray = ls at hl ⊢
  replace hl : lv_has ls 2 [(0, .ref m9), (1, .ref ss)] := hl
  have hns := hpre0
  subst hpre1
  refine lv_aload_n hx hb dX23_let_0 rfl (lv_at hl 1 rfl) ?_
  refine lv_iconst (v := 0) hx hb dX23_let_1 (by decide) ?_
  refine va_put (D := (dC, dI)) (ci := 19) (v := .int 0) (ty := .int) (C := RX19) (T := TX19) (N := 14) hx hb hts in_c_vlt_X19 tyX19 tyX19_ok nmX19 hown hK hP hD hS 0 rfl rfl 0 (by decide) (hts (.fieldLink RX23 263 "OwnedPlacesModel$Statement" "kind" "I") (wm_c_vlt 1 rfl)) (fun _ h9 => h9) rfl (by decide +kernel) rfl rfl (Nat.le_of_ble_eq_true rfl) dX23_let_2 (fun H locs hP hD hS => ?_)
  replace hP : va_P (dC, dI) vwCl (([(ss, .inr (19, [.int 0, .int (nI pp), .int 0, .int 0, .int 0, .null, .null, .null, .null, .null, .null, .null, .null, .int 0])), (m9, .inr (23, mA mr mv vf xl (nI zs) 0 xa (nI T) (nI pp) xi xt xn (nI ns) (nI vv) (nI bb))), (mr 5, .inl (kI, 3002, .inl fk)), (mr 6, .inl (kI, 3002, .inl fa)), (mr 8, .inl (kL, 3002, .inr (.inl fn)))] : va_W) ++ (sT L F)) H := hP
  replace hD : va_D A (([(ss, .inr (19, [.int 0, .int (nI pp), .int 0, .int 0, .int 0, .null, .null, .null, .null, .null, .null, .null, .null, .int 0])), (m9, .inr (23, mA mr mv vf xl (nI zs) 0 xa (nI T) (nI pp) xi xt xn (nI ns) (nI vv) (nI bb))), (mr 5, .inl (kI, 3002, .inl fk)), (mr 6, .inl (kI, 3002, .inl fa)), (mr 8, .inl (kL, 3002, .inr (.inl fn)))] : va_W) ++ (sT L F)) := hD
  refine lv_aload_n hx hb dX23_let_5 rfl (lv_at hl 0 rfl) ?_
  refine lv_dup hx hb dX23_let_6 rfl ?_
  refine va_get (D := (dC, dI)) (ci := 23) (v := .int (nI pp)) (C := RX23) (T := TX23) (N := 89) hx hb hts in_c_vlt_X23 hown hK hP 1 rfl rfl 10 (by decide) (hts (.fieldLink RX23 86 "OwnedPlacesModel" "p" "I") (wm_c_vlt 2 rfl)) (fun _ h9 => h9) rfl dX23_let_7 ?_
  refine lv_iconst (v := 1) hx hb dX23_let_10 (by decide) ?_
  refine lv_iadd hx hb dX23_let_11 ?_
  refine lv_topi (fun f_1 ef_1 => ?_)
  obtain rfl : f_1 = nI (pp + 1) := ef_1.trans (nI_1 _)
  refine va_put (D := (dC, dI)) (ci := 23) (v := .int (nI (pp + 1))) (ty := .int) (C := RX23) (T := TX23) (N := 89) hx hb hts in_c_vlt_X23 tyX23 tyX23_ok nmX23 hown hK hP hD hS 1 rfl rfl 10 (by decide) (hts (.fieldLink RX23 86 "OwnedPlacesModel" "p" "I") (wm_c_vlt 2 rfl)) (fun _ h9 => h9) rfl (by decide +kernel) rfl rfl (Nat.le_of_ble_eq_true rfl) dX23_let_12 (fun H locs hP hD hS => ?_)
  replace hP : va_P (dC, dI) vwCl (([(ss, .inr (19, [.int 0, .int (nI pp), .int 0, .int 0, .int 0, .null, .null, .null, .null, .null, .null, .null, .null, .int 0])), (m9, .inr (23, mA mr mv vf xl (nI zs) 0 xa (nI T) (nI (pp + 1)) xi xt xn (nI ns) (nI vv) (nI bb))), (mr 5, .inl (kI, 3002, .inl fk)), (mr 6, .inl (kI, 3002, .inl fa)), (mr 8, .inl (kL, 3002, .inr (.inl fn)))] : va_W) ++ (sT L F)) H := hP
  replace hD : va_D A (([(ss, .inr (19, [.int 0, .int (nI pp), .int 0, .int 0, .int 0, .null, .null, .null, .null, .null, .null, .null, .null, .int 0])), (m9, .inr (23, mA mr mv vf xl (nI zs) 0 xa (nI T) (nI (pp + 1)) xi xt xn (nI ns) (nI vv) (nI bb))), (mr 5, .inl (kI, 3002, .inl fk)), (mr 6, .inl (kI, 3002, .inl fa)), (mr 8, .inl (kL, 3002, .inr (.inl fn)))] : va_W) ++ (sT L F)) := hD
  have hp_2 : pp + 1 < T := kne3 hk0 hp hk13 (by decide)
  refine lv_aload_n hx hb dX23_let_15 rfl (lv_at hl 1 rfl) ?_
  refine lv_aload_n hx hb dX23_let_16 rfl (lv_at hl 0 rfl) ?_
  refine lv_bipush (v := 14) hx hb dX23_let_17 (by decide) ?_
  by_cases hk_3 : fk (pp + 1) = 14
  · replace hPc := hP.subF (f' := [(m9, .inr (23, mA mr mv vf xl (nI zs) 0 xa (nI T) (nI (pp + 1)) xi xt xn (nI ns) (nI vv) (nI bb))), (mr 5, .inl (kI, 3002, .inl fk))]) [1, 2] rfl
    replace hDc := hD.subF (f' := [(m9, .inr (23, mA mr mv vf xl (nI zs) 0 xa (nI T) (nI (pp + 1)) xi xt xn (nI ns) (nI vv) (nI bb))), (mr 5, .inl (kI, 3002, .inl fk))]) [1, 2] (by decide) rfl
    replace hKc := hK.sub (tys' := [(kI, .int)]) [0] rfl
    replace hFc := va_freeT (wc := [(m9, .inr (23, mA mr mv vf xl (nI zs) 0 xa (nI T) (nI (pp + 1)) xi xt xn (nI ns) (nI vv) (nI bb))), (mr 5, .inl (kI, 3002, .inl fk))]) hD hS hA [1, 2] rfl
    refine va_calli (va_runV (As := [.int 14]) (rest := [.ref ss]) ⟨hx, hb, hml, hown, hts⟩ (c_rtsY l dC dI m9 mr mv vf xl xa xi xt xn zs T (pp + 1) ns vv bb kI fk fa 14 H.size hT hp_2 hk0 (by decide) hk_3) (cwV 1 hts g_c_vlt_c_rtsY_19 rfl rfl rfl (by decide +kernel) ⟨by show 1 + 1 ≤ 14 + 14 * k; omega, by show 8 + (2 + 11) + (21) ≤ 322 + 323 * k; omega⟩) ⟨fun a U g mk q => by obtain ⟨q0, q1, qP, qK, qD⟩ := q; exact ⟨q0, q1, qP, va_K.moved (u := U) (U := U.calling g mk a) (Vm.Alike.refl U.vm) qK, qD⟩, va_recv hKc hPc (ci := 23) (q0 := 0) rfl rfl, fun U hU hW => ⟨rfl, by rw [hU], by rw [hU]; exact hPc, va_K.moved hW.alike hKc, hDc.weaken (fun _ _ _ _ => trivial)⟩⟩ rfl rfl hl.1 rfl (lv_room (Nat.le_of_ble_eq_true rfl)) dX23_let_19 ⟨(show 0 + 0 ≤ (8 * (T - pp) + 14) by omega), (show 0 + 0 ≤ (120 * (T - pp) + 480) by omega)⟩) hS (fun q _ h => hFc q h) hFc (fun r_4 u tS H1 locs ht hvm hw hB hz1 hk1 hS => ?_)
    obtain ⟨hP1, hK1, hD1⟩ := hB
    rw [ht] at hP1
    replace hK1 := va_K.moved hvm.symm hK1
    obtain ⟨hPj, hDj⟩ := va_joinT (wr := [(ss, .inr (19, [.int 0, .int (nI pp), .int 0, .int 0, .int 0, .null, .null, .null, .null, .null, .null, .null, .null, .int 0])), (mr 6, .inl (kI, 3002, .inl fa)), (mr 8, .inl (kL, 3002, .inr (.inl fn)))]) (w1 := [(m9, .inr (23, mA mr mv vf xl (nI zs) 0 xa (nI T) (nI ((pp + 1) + 1)) xi xt xn (nI ns) (nI vv) (nI bb))), (mr 5, .inl (kI, 3002, .inl fk))]) hP hD [1, 2] [0, 3, 4] rfl rfl (by decide) (by decide) hk1 hFc hP1 hD1
    replace hP := hPj
    replace hD := hDj
    clear hPj hDj
    replace hK := hK.app hK1
    generalize H1 = H at hP hS ⊢
    replace hP : va_P (dC, dI) vwCl (([(ss, .inr (19, [.int 0, .int (nI pp), .int 0, .int 0, .int 0, .null, .null, .null, .null, .null, .null, .null, .null, .int 0])), (mr 6, .inl (kI, 3002, .inl fa)), (mr 8, .inl (kL, 3002, .inr (.inl fn))), (m9, .inr (23, mA mr mv vf xl (nI zs) 0 xa (nI T) (nI ((pp + 1) + 1)) xi xt xn (nI ns) (nI vv) (nI bb))), (mr 5, .inl (kI, 3002, .inl fk))] : va_W) ++ (sT L F)) H := hP
    replace hD : va_D A (([(ss, .inr (19, [.int 0, .int (nI pp), .int 0, .int 0, .int 0, .null, .null, .null, .null, .null, .null, .null, .null, .int 0])), (mr 6, .inl (kI, 3002, .inl fa)), (mr 8, .inl (kL, 3002, .inr (.inl fn))), (m9, .inr (23, mA mr mv vf xl (nI zs) 0 xa (nI T) (nI ((pp + 1) + 1)) xi xt xn (nI ns) (nI vv) (nI bb))), (mr 5, .inl (kI, 3002, .inl fk))] : va_W) ++ (sT L F)) := hD
    replace hK : va_K (dC, dI) vwCl [(kI, .int), (kL, .long), (kE, .object RX15), (kS, .object RX19), (kB, .object RX14), (kA, .object RX13), (kV, .object RX21), (kI, .int)] s := hK
    replace hK := hK.sub (tys' := [(kI, .int), (kL, .long), (kE, .object RX15), (kS, .object RX19), (kB, .object RX14), (kA, .object RX13), (kV, .object RX21)]) [0, 1, 2, 3, 4, 5, 6] rfl
    clear hz1 hk1 hPc hDc hKc hFc hP1 hD1 hK1
    obtain rfl : r_4 = 1 := hw
    have hp_5 : pp + 1 + 1 < T := kne3 hk0 hp_2 hk_3 (by decide)
    refine va_put (D := (dC, dI)) (ci := 19) (v := .int 1) (ty := .boolean) (C := RX19) (T := TX19) (N := 14) hx hb hts in_c_vlt_X19 tyX19 tyX19_ok nmX19 hown hK hP hD hS 0 rfl rfl 3 (by decide) (hts (.fieldLink RX23 278 "OwnedPlacesModel$Statement" "mut" "Z") (wm_c_vlt 18 rfl)) (fun _ h9 => h9) rfl (by decide +kernel) (by decide) (by decide) (Nat.le_of_ble_eq_true rfl) dX23_let_22 (fun H locs hP hD hS => ?_)
    replace hP : va_P (dC, dI) vwCl (([(ss, .inr (19, [.int 0, .int (nI pp), .int 0, .int 1, .int 0, .null, .null, .null, .null, .null, .null, .null, .null, .int 0])), (mr 6, .inl (kI, 3002, .inl fa)), (mr 8, .inl (kL, 3002, .inr (.inl fn))), (m9, .inr (23, mA mr mv vf xl (nI zs) 0 xa (nI T) (nI (pp + 1 + 1)) xi xt xn (nI ns) (nI vv) (nI bb))), (mr 5, .inl (kI, 3002, .inl fk))] : va_W) ++ (sT L F)) H := hP
    replace hD : va_D A (([(ss, .inr (19, [.int 0, .int (nI pp), .int 0, .int 1, .int 0, .null, .null, .null, .null, .null, .null, .null, .null, .int 0])), (mr 6, .inl (kI, 3002, .inl fa)), (mr 8, .inl (kL, 3002, .inr (.inl fn))), (m9, .inr (23, mA mr mv vf xl (nI zs) 0 xa (nI T) (nI (pp + 1 + 1)) xi xt xn (nI ns) (nI vv) (nI bb))), (mr 5, .inl (kI, 3002, .inl fk))] : va_W) ++ (sT L F)) := hD
    refine lv_aload_n hx hb dX23_let_25 rfl (lv_at hl 0 rfl) ?_
    by_cases hv_6 : fk (pp + 1 + 1) = 2 ∧ vv = 40
    · replace hPc := hP.subF (f' := [(m9, .inr (23, mA mr mv vf xl (nI zs) 0 xa (nI T) (nI (pp + 1 + 1)) xi xt xn (nI ns) (nI vv) (nI bb))), (mr 5, .inl (kI, 3002, .inl fk)), (mr 6, .inl (kI, 3002, .inl fa))]) [3, 4, 1] rfl
      replace hDc := hD.subF (f' := [(m9, .inr (23, mA mr mv vf xl (nI zs) 0 xa (nI T) (nI (pp + 1 + 1)) xi xt xn (nI ns) (nI vv) (nI bb))), (mr 5, .inl (kI, 3002, .inl fk)), (mr 6, .inl (kI, 3002, .inl fa))]) [3, 4, 1] (by decide) rfl
      replace hKc := hK.sub (tys' := [(kI, .int)]) [0] rfl
      replace hFc := va_freeT (wc := [(m9, .inr (23, mA mr mv vf xl (nI zs) 0 xa (nI T) (nI (pp + 1 + 1)) xi xt xn (nI ns) (nI vv) (nI bb))), (mr 5, .inl (kI, 3002, .inl fk)), (mr 6, .inl (kI, 3002, .inl fa))]) hD hS hA [3, 4, 1] rfl
      refine va_callv (va_runV (As := []) (rest := []) ⟨hx, hb, hml, hown, hts⟩ (c_rovN l dC dI m9 mr mv vf xl xa xi xt xn zs T (pp + 1 + 1) ns vv bb kI fk fa H.size hT hp_5 (by omega) hv_6) (cwV 0 hts g_c_vlt_c_rovN_26 rfl rfl rfl (by decide +kernel) ⟨by show 1 + 1 ≤ 14 + 14 * k; omega, by show 8 + (1 + 11) + (22) ≤ 322 + 323 * k; omega⟩) ⟨fun a U g mk q => by obtain ⟨q0, q1, qP, qK, qD⟩ := q; exact ⟨q0, q1, qP, va_K.moved (u := U) (U := U.calling g mk a) (Vm.Alike.refl U.vm) qK, qD⟩, va_recv hKc hPc (ci := 23) (q0 := 0) rfl rfl, fun U hU hW => ⟨rfl, by rw [hU], by rw [hU]; exact hPc, va_K.moved hW.alike hKc, hDc.weaken (fun _ _ _ _ => trivial)⟩⟩ rfl rfl hl.1 rfl (lv_room (Nat.le_of_ble_eq_true rfl)) dX23_let_26 ⟨(show 0 + 0 ≤ (8 * (T - pp) + 14) by omega), (show 0 + 0 ≤ (120 * (T - pp) + 480) by omega)⟩) hS (fun q _ h => hFc q h) hFc (fun u tS H1 locs ht hvm hw hB hz1 hk1 hS => ?_)
      obtain ⟨ff_7, xa_8, hf9_0, hP1, hK1, hD1⟩ := hB
      rw [ht] at hP1
      replace hK1 := va_K.moved hvm.symm hK1
      obtain ⟨hPj, hDj⟩ := va_joinT (wr := [(ss, .inr (19, [.int 0, .int (nI pp), .int 0, .int 1, .int 0, .null, .null, .null, .null, .null, .null, .null, .null, .int 0])), (mr 8, .inl (kL, 3002, .inr (.inl fn)))]) (w1 := [(m9, .inr (23, mA mr mv vf xl (nI zs) ff_7 xa_8 (nI T) (nI (pp + 1 + 1)) xi xt xn (nI ns) (nI (vv + 1)) (nI bb))), (mr 5, .inl (kI, 3002, .inl fk)), (mr 6, .inl (kI, 3002, .inl fa))]) hP hD [3, 4, 1] [0, 2] rfl rfl (by decide) (by decide) hk1 hFc hP1 hD1
      replace hP := hPj
      replace hD := hDj
      clear hPj hDj
      replace hK := hK.app hK1
      generalize H1 = H at hP hS ⊢
      replace hP : va_P (dC, dI) vwCl (([(ss, .inr (19, [.int 0, .int (nI pp), .int 0, .int 1, .int 0, .null, .null, .null, .null, .null, .null, .null, .null, .int 0])), (mr 8, .inl (kL, 3002, .inr (.inl fn))), (m9, .inr (23, mA mr mv vf xl (nI zs) ff_7 xa_8 (nI T) (nI (pp + 1 + 1)) xi xt xn (nI ns) (nI (vv + 1)) (nI bb))), (mr 5, .inl (kI, 3002, .inl fk)), (mr 6, .inl (kI, 3002, .inl fa))] : va_W) ++ (sT L F)) H := hP
      replace hD : va_D A (([(ss, .inr (19, [.int 0, .int (nI pp), .int 0, .int 1, .int 0, .null, .null, .null, .null, .null, .null, .null, .null, .int 0])), (mr 8, .inl (kL, 3002, .inr (.inl fn))), (m9, .inr (23, mA mr mv vf xl (nI zs) ff_7 xa_8 (nI T) (nI (pp + 1 + 1)) xi xt xn (nI ns) (nI (vv + 1)) (nI bb))), (mr 5, .inl (kI, 3002, .inl fk)), (mr 6, .inl (kI, 3002, .inl fa))] : va_W) ++ (sT L F)) := hD
      replace hK : va_K (dC, dI) vwCl [(kI, .int), (kL, .long), (kE, .object RX15), (kS, .object RX19), (kB, .object RX14), (kA, .object RX13), (kV, .object RX21), (kI, .int)] s := hK
      replace hK := hK.sub (tys' := [(kI, .int), (kL, .long), (kE, .object RX15), (kS, .object RX19), (kB, .object RX14), (kA, .object RX13), (kV, .object RX21)]) [0, 1, 2, 3, 4, 5, 6] rfl
      clear hz1 hk1 hPc hDc hKc hFc hP1 hD1 hK1
      refine lv_aload_n hx hb dX23_let_29 rfl (lv_at hl 1 rfl) ?_
      refine lv_aload_n hx hb dX23_let_30 rfl (lv_at hl 0 rfl) ?_
      replace hPc := hP.subF (f' := [(m9, .inr (23, mA mr mv vf xl (nI zs) ff_7 xa_8 (nI T) (nI (pp + 1 + 1)) xi xt xn (nI ns) (nI (vv + 1)) (nI bb))), (mr 5, .inl (kI, 3002, .inl fk)), (mr 6, .inl (kI, 3002, .inl fa))]) [2, 3, 4] rfl
      replace hDc := hD.subF (f' := [(m9, .inr (23, mA mr mv vf xl (nI zs) ff_7 xa_8 (nI T) (nI (pp + 1 + 1)) xi xt xn (nI ns) (nI (vv + 1)) (nI bb))), (mr 5, .inl (kI, 3002, .inl fk)), (mr 6, .inl (kI, 3002, .inl fa))]) [2, 3, 4] (by decide) rfl
      replace hKc := hK.sub (tys' := [(kI, .int)]) [0] rfl
      replace hFc := va_freeT (wc := [(m9, .inr (23, mA mr mv vf xl (nI zs) ff_7 xa_8 (nI T) (nI (pp + 1 + 1)) xi xt xn (nI ns) (nI (vv + 1)) (nI bb))), (mr 5, .inl (kI, 3002, .inl fk)), (mr 6, .inl (kI, 3002, .inl fa))]) hD hS hA [2, 3, 4] rfl
      refine va_calli (va_runV (As := []) (rest := [.ref ss]) ⟨hx, hb, hml, hown, hts⟩ (c_rnmB l dC dI m9 mr mv vf xl xa_8 xi xt xn zs T (pp + 1 + 1) ns (vv + 1) bb kI fk fa ff_7 H.size hf9_0) (cwV 0 hts g_c_vlt_c_rnmB_31 rfl rfl rfl (by decide +kernel) ⟨by show 2 + 1 ≤ 14 + 14 * k; omega, by show 8 + (1 + 11) + (41) ≤ 322 + 323 * k; omega⟩) ⟨fun a U g mk q => by obtain ⟨q0, q1, qP, qK, qD⟩ := q; exact ⟨q0, q1, qP, va_K.moved (u := U) (U := U.calling g mk a) (Vm.Alike.refl U.vm) qK, qD⟩, va_recv hKc hPc (ci := 23) (q0 := 0) rfl rfl, fun U hU hW => ⟨rfl, by rw [hU], by rw [hU]; exact hPc, va_K.moved hW.alike hKc, hDc.weaken (fun _ _ _ _ => trivial)⟩⟩ rfl rfl hl.1 rfl (lv_room (Nat.le_of_ble_eq_true rfl)) dX23_let_31 ⟨(show 0 + 0 ≤ (8 * (T - pp) + 14) by omega), (show 0 + 0 ≤ (120 * (T - pp) + 480) by omega)⟩) hS (fun q _ h => hFc q h) hFc (fun r_10 u tS H1 locs ht hvm hw hB hz1 hk1 hS => ?_)
      obtain ⟨hP1, hK1, hD1⟩ := hB
      rw [ht] at hP1
      replace hK1 := va_K.moved hvm.symm hK1
      obtain ⟨hPj, hDj⟩ := va_joinT (wr := [(ss, .inr (19, [.int 0, .int (nI pp), .int 0, .int 1, .int 0, .null, .null, .null, .null, .null, .null, .null, .null, .int 0])), (mr 8, .inl (kL, 3002, .inr (.inl fn)))]) (w1 := [(m9, .inr (23, mA mr mv vf xl (nI zs) ff_7 xa_8 (nI T) (nI (pp + 1 + 1)) xi xt xn (nI ns) (nI (vv + 1)) (nI bb))), (mr 5, .inl (kI, 3002, .inl fk)), (mr 6, .inl (kI, 3002, .inl fa))]) hP hD [2, 3, 4] [0, 1] rfl rfl (by decide) (by decide) hk1 hFc hP1 hD1
      replace hP := hPj
      replace hD := hDj
      clear hPj hDj
      replace hK := hK.app hK1
      generalize H1 = H at hP hS ⊢
      replace hP : va_P (dC, dI) vwCl (([(ss, .inr (19, [.int 0, .int (nI pp), .int 0, .int 1, .int 0, .null, .null, .null, .null, .null, .null, .null, .null, .int 0])), (mr 8, .inl (kL, 3002, .inr (.inl fn))), (m9, .inr (23, mA mr mv vf xl (nI zs) ff_7 xa_8 (nI T) (nI (pp + 1 + 1)) xi xt xn (nI ns) (nI (vv + 1)) (nI bb))), (mr 5, .inl (kI, 3002, .inl fk)), (mr 6, .inl (kI, 3002, .inl fa))] : va_W) ++ (sT L F)) H := hP
      replace hD : va_D A (([(ss, .inr (19, [.int 0, .int (nI pp), .int 0, .int 1, .int 0, .null, .null, .null, .null, .null, .null, .null, .null, .int 0])), (mr 8, .inl (kL, 3002, .inr (.inl fn))), (m9, .inr (23, mA mr mv vf xl (nI zs) ff_7 xa_8 (nI T) (nI (pp + 1 + 1)) xi xt xn (nI ns) (nI (vv + 1)) (nI bb))), (mr 5, .inl (kI, 3002, .inl fk)), (mr 6, .inl (kI, 3002, .inl fa))] : va_W) ++ (sT L F)) := hD
      replace hK : va_K (dC, dI) vwCl [(kI, .int), (kL, .long), (kE, .object RX15), (kS, .object RX19), (kB, .object RX14), (kA, .object RX13), (kV, .object RX21), (kI, .int)] s := hK
      replace hK := hK.sub (tys' := [(kI, .int), (kL, .long), (kE, .object RX15), (kS, .object RX19), (kB, .object RX14), (kA, .object RX13), (kV, .object RX21)]) [0, 1, 2, 3, 4, 5, 6] rfl
      clear hz1 hk1 hPc hDc hKc hFc hP1 hD1 hK1
      refine va_put (D := (dC, dI)) (ci := 19) (v := .int r_10) (ty := .int) (C := RX19) (T := TX19) (N := 14) hx hb hts in_c_vlt_X19 tyX19 tyX19_ok nmX19 hown hK hP hD hS 0 rfl rfl 2 (by decide) (hts (.fieldLink RX23 285 "OwnedPlacesModel$Statement" "name" "I") (wm_c_vlt 38 rfl)) (fun _ h9 => h9) rfl (by decide +kernel) rfl rfl (Nat.le_of_ble_eq_true rfl) dX23_let_34 (fun H locs hP hD hS => ?_)
      replace hP : va_P (dC, dI) vwCl (([(ss, .inr (19, [.int 0, .int (nI pp), .int r_10, .int 1, .int 0, .null, .null, .null, .null, .null, .null, .null, .null, .int 0])), (mr 8, .inl (kL, 3002, .inr (.inl fn))), (m9, .inr (23, mA mr mv vf xl (nI zs) ff_7 xa_8 (nI T) (nI (pp + 1 + 1)) xi xt xn (nI ns) (nI (vv + 1)) (nI bb))), (mr 5, .inl (kI, 3002, .inl fk)), (mr 6, .inl (kI, 3002, .inl fa))] : va_W) ++ (sT L F)) H := hP
      replace hD : va_D A (([(ss, .inr (19, [.int 0, .int (nI pp), .int r_10, .int 1, .int 0, .null, .null, .null, .null, .null, .null, .null, .null, .int 0])), (mr 8, .inl (kL, 3002, .inr (.inl fn))), (m9, .inr (23, mA mr mv vf xl (nI zs) ff_7 xa_8 (nI T) (nI (pp + 1 + 1)) xi xt xn (nI ns) (nI (vv + 1)) (nI bb))), (mr 5, .inl (kI, 3002, .inl fk)), (mr 6, .inl (kI, 3002, .inl fa))] : va_W) ++ (sT L F)) := hD
      refine lv_aload_n hx hb dX23_let_37 rfl (lv_at hl 0 rfl) ?_
      refine lv_bipush (v := 58) hx hb dX23_let_38 (by decide) ?_
      replace hPc := hP.subF (f' := [(m9, .inr (23, mA mr mv vf xl (nI zs) ff_7 xa_8 (nI T) (nI (pp + 1 + 1)) xi xt xn (nI ns) (nI (vv + 1)) (nI bb))), (mr 5, .inl (kI, 3002, .inl fk))]) [2, 3] rfl
      replace hDc := hD.subF (f' := [(m9, .inr (23, mA mr mv vf xl (nI zs) ff_7 xa_8 (nI T) (nI (pp + 1 + 1)) xi xt xn (nI ns) (nI (vv + 1)) (nI bb))), (mr 5, .inl (kI, 3002, .inl fk))]) [2, 3] (by decide) rfl
      replace hKc := hK.sub (tys' := [(kI, .int)]) [0] rfl
      replace hFc := va_freeT (wc := [(m9, .inr (23, mA mr mv vf xl (nI zs) ff_7 xa_8 (nI T) (nI (pp + 1 + 1)) xi xt xn (nI ns) (nI (vv + 1)) (nI bb))), (mr 5, .inl (kI, 3002, .inl fk))]) hD hS hA [2, 3] rfl
      refine va_calli (va_runV (As := [.int 58]) (rest := []) ⟨hx, hb, hml, hown, hts⟩ (c_rtsB l dC dI m9 mr mv vf xl xa_8 xi xt xn zs T (pp + 1 + 1) ns (vv + 1) bb kI fk fa ff_7 58 H.size hf9_0) (cwV 1 hts g_c_vlt_c_rtsB_40 rfl rfl rfl (by decide +kernel) ⟨by show 1 + 1 ≤ 14 + 14 * k; omega, by show 8 + (2 + 11) + (20) ≤ 322 + 323 * k; omega⟩) ⟨fun a U g mk q => by obtain ⟨q0, q1, qP, qK, qD⟩ := q; exact ⟨q0, q1, qP, va_K.moved (u := U) (U := U.calling g mk a) (Vm.Alike.refl U.vm) qK, qD⟩, va_recv hKc hPc (ci := 23) (q0 := 0) rfl rfl, fun U hU hW => ⟨rfl, by rw [hU], by rw [hU]; exact hPc, va_K.moved hW.alike hKc, hDc.weaken (fun _ _ _ _ => trivial)⟩⟩ rfl rfl hl.1 rfl (lv_room (Nat.le_of_ble_eq_true rfl)) dX23_let_40 ⟨(show 0 + 0 ≤ (8 * (T - pp) + 14) by omega), (show 0 + 0 ≤ (120 * (T - pp) + 480) by omega)⟩) hS (fun q _ h => hFc q h) hFc (fun r_11 u tS H1 locs ht hvm hw hB hz1 hk1 hS => ?_)
      obtain ⟨hP1, hK1, hD1⟩ := hB
      rw [ht] at hP1
      replace hK1 := va_K.moved hvm.symm hK1
      obtain ⟨hPj, hDj⟩ := va_joinT (wr := [(ss, .inr (19, [.int 0, .int (nI pp), .int r_10, .int 1, .int 0, .null, .null, .null, .null, .null, .null, .null, .null, .int 0])), (mr 8, .inl (kL, 3002, .inr (.inl fn))), (mr 6, .inl (kI, 3002, .inl fa))]) (w1 := [(m9, .inr (23, mA mr mv vf xl (nI zs) ff_7 xa_8 (nI T) (nI (pp + 1 + 1)) xi xt xn (nI ns) (nI (vv + 1)) (nI bb))), (mr 5, .inl (kI, 3002, .inl fk))]) hP hD [2, 3] [0, 1, 4] rfl rfl (by decide) (by decide) hk1 hFc hP1 hD1
      replace hP := hPj
      replace hD := hDj
      clear hPj hDj
      replace hK := hK.app hK1
      generalize H1 = H at hP hS ⊢
      replace hP : va_P (dC, dI) vwCl (([(ss, .inr (19, [.int 0, .int (nI pp), .int r_10, .int 1, .int 0, .null, .null, .null, .null, .null, .null, .null, .null, .int 0])), (mr 8, .inl (kL, 3002, .inr (.inl fn))), (mr 6, .inl (kI, 3002, .inl fa)), (m9, .inr (23, mA mr mv vf xl (nI zs) ff_7 xa_8 (nI T) (nI (pp + 1 + 1)) xi xt xn (nI ns) (nI (vv + 1)) (nI bb))), (mr 5, .inl (kI, 3002, .inl fk))] : va_W) ++ (sT L F)) H := hP
      replace hD : va_D A (([(ss, .inr (19, [.int 0, .int (nI pp), .int r_10, .int 1, .int 0, .null, .null, .null, .null, .null, .null, .null, .null, .int 0])), (mr 8, .inl (kL, 3002, .inr (.inl fn))), (mr 6, .inl (kI, 3002, .inl fa)), (m9, .inr (23, mA mr mv vf xl (nI zs) ff_7 xa_8 (nI T) (nI (pp + 1 + 1)) xi xt xn (nI ns) (nI (vv + 1)) (nI bb))), (mr 5, .inl (kI, 3002, .inl fk))] : va_W) ++ (sT L F)) := hD
      replace hK : va_K (dC, dI) vwCl [(kI, .int), (kL, .long), (kE, .object RX15), (kS, .object RX19), (kB, .object RX14), (kA, .object RX13), (kV, .object RX21), (kI, .int)] s := hK
      replace hK := hK.sub (tys' := [(kI, .int), (kL, .long), (kE, .object RX15), (kS, .object RX19), (kB, .object RX14), (kA, .object RX13), (kV, .object RX21)]) [0, 1, 2, 3, 4, 5, 6] rfl
      clear hz1 hk1 hPc hDc hKc hFc hP1 hD1 hK1
      obtain rfl : r_11 = 0 := hw
      refine lv_if_eq (tgt := 54) hx hb dX23_let_43 (by decide) (fun _ => ?_) (fun c_12 => absurd (by decide) c_12)
      refine lv_aload_n hx hb dX23_let_54 rfl (lv_at hl 0 rfl) ?_
      refine lv_bipush (v := 54) hx hb dX23_let_55 (by decide) ?_
      replace hPc := hP.subF (f' := [(m9, .inr (23, mA mr mv vf xl (nI zs) ff_7 xa_8 (nI T) (nI (pp + 1 + 1)) xi xt xn (nI ns) (nI (vv + 1)) (nI bb))), (mr 5, .inl (kI, 3002, .inl fk))]) [3, 4] rfl
      replace hDc := hD.subF (f' := [(m9, .inr (23, mA mr mv vf xl (nI zs) ff_7 xa_8 (nI T) (nI (pp + 1 + 1)) xi xt xn (nI ns) (nI (vv + 1)) (nI bb))), (mr 5, .inl (kI, 3002, .inl fk))]) [3, 4] (by decide) rfl
      replace hKc := hK.sub (tys' := [(kI, .int)]) [0] rfl
      replace hFc := va_freeT (wc := [(m9, .inr (23, mA mr mv vf xl (nI zs) ff_7 xa_8 (nI T) (nI (pp + 1 + 1)) xi xt xn (nI ns) (nI (vv + 1)) (nI bb))), (mr 5, .inl (kI, 3002, .inl fk))]) hD hS hA [3, 4] rfl
      refine va_calli (va_runV (As := [.int 54]) (rest := []) ⟨hx, hb, hml, hown, hts⟩ (c_rtsB l dC dI m9 mr mv vf xl xa_8 xi xt xn zs T (pp + 1 + 1) ns (vv + 1) bb kI fk fa ff_7 54 H.size hf9_0) (cwV 1 hts g_c_vlt_c_rtsB_57 rfl rfl rfl (by decide +kernel) ⟨by show 1 + 1 ≤ 14 + 14 * k; omega, by show 8 + (2 + 11) + (20) ≤ 322 + 323 * k; omega⟩) ⟨fun a U g mk q => by obtain ⟨q0, q1, qP, qK, qD⟩ := q; exact ⟨q0, q1, qP, va_K.moved (u := U) (U := U.calling g mk a) (Vm.Alike.refl U.vm) qK, qD⟩, va_recv hKc hPc (ci := 23) (q0 := 0) rfl rfl, fun U hU hW => ⟨rfl, by rw [hU], by rw [hU]; exact hPc, va_K.moved hW.alike hKc, hDc.weaken (fun _ _ _ _ => trivial)⟩⟩ rfl rfl hl.1 rfl (lv_room (Nat.le_of_ble_eq_true rfl)) dX23_let_57 ⟨(show 0 + 0 ≤ (8 * (T - pp) + 14) by omega), (show 0 + 0 ≤ (120 * (T - pp) + 480) by omega)⟩) hS (fun q _ h => hFc q h) hFc (fun r_13 u tS H1 locs ht hvm hw hB hz1 hk1 hS => ?_)
      obtain ⟨hP1, hK1, hD1⟩ := hB
      rw [ht] at hP1
      replace hK1 := va_K.moved hvm.symm hK1
      obtain ⟨hPj, hDj⟩ := va_joinT (wr := [(ss, .inr (19, [.int 0, .int (nI pp), .int r_10, .int 1, .int 0, .null, .null, .null, .null, .null, .null, .null, .null, .int 0])), (mr 8, .inl (kL, 3002, .inr (.inl fn))), (mr 6, .inl (kI, 3002, .inl fa))]) (w1 := [(m9, .inr (23, mA mr mv vf xl (nI zs) ff_7 xa_8 (nI T) (nI (pp + 1 + 1)) xi xt xn (nI ns) (nI (vv + 1)) (nI bb))), (mr 5, .inl (kI, 3002, .inl fk))]) hP hD [3, 4] [0, 1, 2] rfl rfl (by decide) (by decide) hk1 hFc hP1 hD1
      replace hP := hPj
      replace hD := hDj
      clear hPj hDj
      replace hK := hK.app hK1
      generalize H1 = H at hP hS ⊢
      replace hP : va_P (dC, dI) vwCl (([(ss, .inr (19, [.int 0, .int (nI pp), .int r_10, .int 1, .int 0, .null, .null, .null, .null, .null, .null, .null, .null, .int 0])), (mr 8, .inl (kL, 3002, .inr (.inl fn))), (mr 6, .inl (kI, 3002, .inl fa)), (m9, .inr (23, mA mr mv vf xl (nI zs) ff_7 xa_8 (nI T) (nI (pp + 1 + 1)) xi xt xn (nI ns) (nI (vv + 1)) (nI bb))), (mr 5, .inl (kI, 3002, .inl fk))] : va_W) ++ (sT L F)) H := hP
      replace hD : va_D A (([(ss, .inr (19, [.int 0, .int (nI pp), .int r_10, .int 1, .int 0, .null, .null, .null, .null, .null, .null, .null, .null, .int 0])), (mr 8, .inl (kL, 3002, .inr (.inl fn))), (mr 6, .inl (kI, 3002, .inl fa)), (m9, .inr (23, mA mr mv vf xl (nI zs) ff_7 xa_8 (nI T) (nI (pp + 1 + 1)) xi xt xn (nI ns) (nI (vv + 1)) (nI bb))), (mr 5, .inl (kI, 3002, .inl fk))] : va_W) ++ (sT L F)) := hD
      replace hK : va_K (dC, dI) vwCl [(kI, .int), (kL, .long), (kE, .object RX15), (kS, .object RX19), (kB, .object RX14), (kA, .object RX13), (kV, .object RX21), (kI, .int)] s := hK
      replace hK := hK.sub (tys' := [(kI, .int), (kL, .long), (kE, .object RX15), (kS, .object RX19), (kB, .object RX14), (kA, .object RX13), (kV, .object RX21)]) [0, 1, 2, 3, 4, 5, 6] rfl
      clear hz1 hk1 hPc hDc hKc hFc hP1 hD1 hK1
      obtain rfl : r_13 = 0 := hw
      refine lv_if_eq (tgt := 71) hx hb dX23_let_60 (by decide) (fun _ => ?_) (fun c_14 => absurd (by decide) c_14)
      refine lv_aload_n hx hb dX23_let_71 rfl (lv_at hl 0 rfl) ?_
      refine lv_bipush (v := 60) hx hb dX23_let_72 (by decide) ?_
      replace hPc := hP.subF (f' := [(m9, .inr (23, mA mr mv vf xl (nI zs) ff_7 xa_8 (nI T) (nI (pp + 1 + 1)) xi xt xn (nI ns) (nI (vv + 1)) (nI bb))), (mr 5, .inl (kI, 3002, .inl fk)), (mr 6, .inl (kI, 3002, .inl fa))]) [3, 4, 2] rfl
      replace hDc := hD.subF (f' := [(m9, .inr (23, mA mr mv vf xl (nI zs) ff_7 xa_8 (nI T) (nI (pp + 1 + 1)) xi xt xn (nI ns) (nI (vv + 1)) (nI bb))), (mr 5, .inl (kI, 3002, .inl fk)), (mr 6, .inl (kI, 3002, .inl fa))]) [3, 4, 2] (by decide) rfl
      replace hKc := hK.sub (tys' := [(kI, .int)]) [0] rfl
      replace hFc := va_freeT (wc := [(m9, .inr (23, mA mr mv vf xl (nI zs) ff_7 xa_8 (nI T) (nI (pp + 1 + 1)) xi xt xn (nI ns) (nI (vv + 1)) (nI bb))), (mr 5, .inl (kI, 3002, .inl fk)), (mr 6, .inl (kI, 3002, .inl fa))]) hD hS hA [3, 4, 2] rfl
      refine va_callv (va_runV (As := [.int 60]) (rest := []) ⟨hx, hb, hml, hown, hts⟩ (c_rtkB l dC dI m9 mr mv vf xl xa_8 xi xt xn zs T (pp + 1 + 1) ns (vv + 1) bb kI fk fa ff_7 60 H.size hf9_0) (cwV 1 hts g_c_vlt_c_rtkB_74 rfl rfl rfl (by decide +kernel) ⟨by show 1 + 1 ≤ 14 + 14 * k; omega, by show 8 + (2 + 11) + (20) ≤ 322 + 323 * k; omega⟩) ⟨fun a U g mk q => by obtain ⟨q0, q1, qP, qK, qD⟩ := q; exact ⟨q0, q1, qP, va_K.moved (u := U) (U := U.calling g mk a) (Vm.Alike.refl U.vm) qK, qD⟩, va_recv hKc hPc (ci := 23) (q0 := 0) rfl rfl, fun U hU hW => ⟨rfl, by rw [hU], by rw [hU]; exact hPc, va_K.moved hW.alike hKc, hDc.weaken (fun _ _ _ _ => trivial)⟩⟩ rfl rfl hl.1 rfl (lv_room (Nat.le_of_ble_eq_true rfl)) dX23_let_74 ⟨(show 0 + 0 ≤ (8 * (T - pp) + 14) by omega), (show 0 + 0 ≤ (120 * (T - pp) + 480) by omega)⟩) hS (fun q _ h => hFc q h) hFc (fun u tS H1 locs ht hvm hw hB hz1 hk1 hS => ?_)
      obtain ⟨hP1, hK1, hD1⟩ := hB
      rw [ht] at hP1
      replace hK1 := va_K.moved hvm.symm hK1
      obtain ⟨hPj, hDj⟩ := va_joinT (wr := [(ss, .inr (19, [.int 0, .int (nI pp), .int r_10, .int 1, .int 0, .null, .null, .null, .null, .null, .null, .null, .null, .int 0])), (mr 8, .inl (kL, 3002, .inr (.inl fn)))]) (w1 := [(m9, .inr (23, mA mr mv vf xl (nI zs) ff_7 xa_8 (nI T) (nI (pp + 1 + 1)) xi xt xn (nI ns) (nI (vv + 1)) (nI bb))), (mr 5, .inl (kI, 3002, .inl fk)), (mr 6, .inl (kI, 3002, .inl fa))]) hP hD [3, 4, 2] [0, 1] rfl rfl (by decide) (by decide) hk1 hFc hP1 hD1
      replace hP := hPj
      replace hD := hDj
      clear hPj hDj
      replace hK := hK.app hK1
      generalize H1 = H at hP hS ⊢
      replace hP : va_P (dC, dI) vwCl (([(ss, .inr (19, [.int 0, .int (nI pp), .int r_10, .int 1, .int 0, .null, .null, .null, .null, .null, .null, .null, .null, .int 0])), (mr 8, .inl (kL, 3002, .inr (.inl fn))), (m9, .inr (23, mA mr mv vf xl (nI zs) ff_7 xa_8 (nI T) (nI (pp + 1 + 1)) xi xt xn (nI ns) (nI (vv + 1)) (nI bb))), (mr 5, .inl (kI, 3002, .inl fk)), (mr 6, .inl (kI, 3002, .inl fa))] : va_W) ++ (sT L F)) H := hP
      replace hD : va_D A (([(ss, .inr (19, [.int 0, .int (nI pp), .int r_10, .int 1, .int 0, .null, .null, .null, .null, .null, .null, .null, .null, .int 0])), (mr 8, .inl (kL, 3002, .inr (.inl fn))), (m9, .inr (23, mA mr mv vf xl (nI zs) ff_7 xa_8 (nI T) (nI (pp + 1 + 1)) xi xt xn (nI ns) (nI (vv + 1)) (nI bb))), (mr 5, .inl (kI, 3002, .inl fk)), (mr 6, .inl (kI, 3002, .inl fa))] : va_W) ++ (sT L F)) := hD
      replace hK : va_K (dC, dI) vwCl [(kI, .int), (kL, .long), (kE, .object RX15), (kS, .object RX19), (kB, .object RX14), (kA, .object RX13), (kV, .object RX21), (kI, .int)] s := hK
      replace hK := hK.sub (tys' := [(kI, .int), (kL, .long), (kE, .object RX15), (kS, .object RX19), (kB, .object RX14), (kA, .object RX13), (kV, .object RX21)]) [0, 1, 2, 3, 4, 5, 6] rfl
      clear hz1 hk1 hPc hDc hKc hFc hP1 hD1 hK1
      refine W.grow (fun hgs0 hgs1 => ?_)
      have hP9 := hP.subT (f' := [(ss, .inr (19, [.int 0, .int (nI pp), .int r_10, .int 1, .int 0, .null, .null, .null, .null, .null, .null, .null, .null, .int 0])), (m9, .inr (23, mA mr mv vf xl (nI zs) ff_7 xa_8 (nI T) (nI (pp + 1 + 1)) xi xt xn (nI ns) (nI (vv + 1)) (nI bb))), (mr 5, .inl (kI, 3002, .inl fk)), (mr 6, .inl (kI, 3002, .inl fa)), (mr 8, .inl (kL, 3002, .inr (.inl fn)))]) [0, 2, 3, 4, 1] rfl
      have hD9 := hD.subT (f' := [(ss, .inr (19, [.int 0, .int (nI pp), .int r_10, .int 1, .int 0, .null, .null, .null, .null, .null, .null, .null, .null, .int 0])), (m9, .inr (23, mA mr mv vf xl (nI zs) ff_7 xa_8 (nI T) (nI (pp + 1 + 1)) xi xt xn (nI ns) (nI (vv + 1)) (nI bb))), (mr 5, .inl (kI, 3002, .inl fk)), (mr 6, .inl (kI, 3002, .inl fa)), (mr 8, .inl (kL, 3002, .inr (.inl fn)))]) [0, 2, 3, 4, 1] (by decide) rfl
      have hK9 := hK.sub (tys' := [(kI, .int), (kL, .long), (kE, .object RX15), (kS, .object RX19), (kB, .object RX14), (kA, .object RX13), (kV, .object RX21)]) [0, 1, 2, 3, 4, 5, 6] rfl
      refine W.widen (k := (8 * (T - pp) + 14)) (n := (120 * (T - pp) + 480)) (by omega) (by omega) ?_
      exact W.vret hx hb hr (fun tS ht hW => ⟨⟨(), rfl, trivial, L, F, ff_7, xa_8, pp + 1 + 1, bb, vv + 1, 1, r_10, 1, .null, .null, exS.rf, ⟨by omega, by omega, by omega, by omega, by omega, by omega⟩, ⟨by omega, fun q9 => absurd q9 hf9_0⟩, (fun q9 => absurd q9 hf9_0), by rw [ht]; exact ⟨by omega, by omega⟩, by rw [ht]; exact hP9, va_K.moved hW.alike hK9, hD9⟩, hS.F ht⟩) hS.2.2 dX23_let_77
    · replace hPc := hP.subF (f' := [(m9, .inr (23, mA mr mv vf xl (nI zs) 0 xa (nI T) (nI (pp + 1 + 1)) xi xt xn (nI ns) (nI vv) (nI bb))), (mr 5, .inl (kI, 3002, .inl fk)), (mr 6, .inl (kI, 3002, .inl fa))]) [3, 4, 1] rfl
      replace hDc := hD.subF (f' := [(m9, .inr (23, mA mr mv vf xl (nI zs) 0 xa (nI T) (nI (pp + 1 + 1)) xi xt xn (nI ns) (nI vv) (nI bb))), (mr 5, .inl (kI, 3002, .inl fk)), (mr 6, .inl (kI, 3002, .inl fa))]) [3, 4, 1] (by decide) rfl
      replace hKc := hK.sub (tys' := [(kI, .int)]) [0] rfl
      replace hFc := va_freeT (wc := [(m9, .inr (23, mA mr mv vf xl (nI zs) 0 xa (nI T) (nI (pp + 1 + 1)) xi xt xn (nI ns) (nI vv) (nI bb))), (mr 5, .inl (kI, 3002, .inl fk)), (mr 6, .inl (kI, 3002, .inl fa))]) hD hS hA [3, 4, 1] rfl
      refine va_callv (va_runV (As := []) (rest := []) ⟨hx, hb, hml, hown, hts⟩ (c_rovY l dC dI m9 mr mv vf xl xa xi xt xn zs T (pp + 1 + 1) ns vv bb kI fk fa H.size hT hp_5 (by omega) (Classical.not_and_iff_not_or_not.mp hv_6)) (cwV 0 hts g_c_vlt_c_rovY_26 rfl rfl rfl (by decide +kernel) ⟨by show 1 + 1 ≤ 14 + 14 * k; omega, by show 8 + (1 + 11) + (21) ≤ 322 + 323 * k; omega⟩) ⟨fun a U g mk q => by obtain ⟨q0, q1, qP, qK, qD⟩ := q; exact ⟨q0, q1, qP, va_K.moved (u := U) (U := U.calling g mk a) (Vm.Alike.refl U.vm) qK, qD⟩, va_recv hKc hPc (ci := 23) (q0 := 0) rfl rfl, fun U hU hW => ⟨rfl, by rw [hU], by rw [hU]; exact hPc, va_K.moved hW.alike hKc, hDc.weaken (fun _ _ _ _ => trivial)⟩⟩ rfl rfl hl.1 rfl (lv_room (Nat.le_of_ble_eq_true rfl)) dX23_let_26 ⟨(show 0 + 0 ≤ (8 * (T - pp) + 14) by omega), (show 0 + 0 ≤ (120 * (T - pp) + 480) by omega)⟩) hS (fun q _ h => hFc q h) hFc (fun u tS H1 locs ht hvm hw hB hz1 hk1 hS => ?_)
      obtain ⟨hP1, hK1, hD1⟩ := hB
      rw [ht] at hP1
      replace hK1 := va_K.moved hvm.symm hK1
      obtain ⟨hPj, hDj⟩ := va_joinT (wr := [(ss, .inr (19, [.int 0, .int (nI pp), .int 0, .int 1, .int 0, .null, .null, .null, .null, .null, .null, .null, .null, .int 0])), (mr 8, .inl (kL, 3002, .inr (.inl fn)))]) (w1 := [(m9, .inr (23, mA mr mv vf xl (nI zs) 0 xa (nI T) (nI (pp + 1 + 1)) xi xt xn (nI ns) (nI (vv + 1)) (nI bb))), (mr 5, .inl (kI, 3002, .inl fk)), (mr 6, .inl (kI, 3002, .inl fa))]) hP hD [3, 4, 1] [0, 2] rfl rfl (by decide) (by decide) hk1 hFc hP1 hD1
      replace hP := hPj
      replace hD := hDj
      clear hPj hDj
      replace hK := hK.app hK1
      generalize H1 = H at hP hS ⊢
      replace hP : va_P (dC, dI) vwCl (([(ss, .inr (19, [.int 0, .int (nI pp), .int 0, .int 1, .int 0, .null, .null, .null, .null, .null, .null, .null, .null, .int 0])), (mr 8, .inl (kL, 3002, .inr (.inl fn))), (m9, .inr (23, mA mr mv vf xl (nI zs) 0 xa (nI T) (nI (pp + 1 + 1)) xi xt xn (nI ns) (nI (vv + 1)) (nI bb))), (mr 5, .inl (kI, 3002, .inl fk)), (mr 6, .inl (kI, 3002, .inl fa))] : va_W) ++ (sT L F)) H := hP
      replace hD : va_D A (([(ss, .inr (19, [.int 0, .int (nI pp), .int 0, .int 1, .int 0, .null, .null, .null, .null, .null, .null, .null, .null, .int 0])), (mr 8, .inl (kL, 3002, .inr (.inl fn))), (m9, .inr (23, mA mr mv vf xl (nI zs) 0 xa (nI T) (nI (pp + 1 + 1)) xi xt xn (nI ns) (nI (vv + 1)) (nI bb))), (mr 5, .inl (kI, 3002, .inl fk)), (mr 6, .inl (kI, 3002, .inl fa))] : va_W) ++ (sT L F)) := hD
      replace hK : va_K (dC, dI) vwCl [(kI, .int), (kL, .long), (kE, .object RX15), (kS, .object RX19), (kB, .object RX14), (kA, .object RX13), (kV, .object RX21), (kI, .int)] s := hK
      replace hK := hK.sub (tys' := [(kI, .int), (kL, .long), (kE, .object RX15), (kS, .object RX19), (kB, .object RX14), (kA, .object RX13), (kV, .object RX21)]) [0, 1, 2, 3, 4, 5, 6] rfl
      clear hz1 hk1 hPc hDc hKc hFc hP1 hD1 hK1
      refine lv_aload_n hx hb dX23_let_29 rfl (lv_at hl 1 rfl) ?_
      refine lv_aload_n hx hb dX23_let_30 rfl (lv_at hl 0 rfl) ?_
      by_cases hk_8 : fk (pp + 1 + 1) = 2
      · replace hPc := hP.subF (f' := [(m9, .inr (23, mA mr mv vf xl (nI zs) 0 xa (nI T) (nI (pp + 1 + 1)) xi xt xn (nI ns) (nI (vv + 1)) (nI bb))), (mr 5, .inl (kI, 3002, .inl fk)), (mr 6, .inl (kI, 3002, .inl fa))]) [2, 3, 4] rfl
        replace hDc := hD.subF (f' := [(m9, .inr (23, mA mr mv vf xl (nI zs) 0 xa (nI T) (nI (pp + 1 + 1)) xi xt xn (nI ns) (nI (vv + 1)) (nI bb))), (mr 5, .inl (kI, 3002, .inl fk)), (mr 6, .inl (kI, 3002, .inl fa))]) [2, 3, 4] (by decide) rfl
        replace hKc := hK.sub (tys' := [(kI, .int)]) [0] rfl
        replace hFc := va_freeT (wc := [(m9, .inr (23, mA mr mv vf xl (nI zs) 0 xa (nI T) (nI (pp + 1 + 1)) xi xt xn (nI ns) (nI (vv + 1)) (nI bb))), (mr 5, .inl (kI, 3002, .inl fk)), (mr 6, .inl (kI, 3002, .inl fa))]) hD hS hA [2, 3, 4] rfl
        refine va_calli (va_runV (As := []) (rest := [.ref ss]) ⟨hx, hb, hml, hown, hts⟩ (c_rnmY l dC dI m9 mr mv vf xl xa xi xt xn zs T (pp + 1 + 1) ns (vv + 1) bb kI fk fa H.size hT hp_5 hk0 hk_8) (cwV 0 hts g_c_vlt_c_rnmY_31 rfl rfl rfl (by decide +kernel) ⟨by show 2 + 1 ≤ 14 + 14 * k; omega, by show 8 + (1 + 11) + (42) ≤ 322 + 323 * k; omega⟩) ⟨fun a U g mk q => by obtain ⟨q0, q1, qP, qK, qD⟩ := q; exact ⟨q0, q1, qP, va_K.moved (u := U) (U := U.calling g mk a) (Vm.Alike.refl U.vm) qK, qD⟩, va_recv hKc hPc (ci := 23) (q0 := 0) rfl rfl, fun U hU hW => ⟨rfl, by rw [hU], by rw [hU]; exact hPc, va_K.moved hW.alike hKc, hDc.weaken (fun _ _ _ _ => trivial)⟩⟩ rfl rfl hl.1 rfl (lv_room (Nat.le_of_ble_eq_true rfl)) dX23_let_31 ⟨(show 0 + 0 ≤ (8 * (T - pp) + 14) by omega), (show 0 + 0 ≤ (120 * (T - pp) + 480) by omega)⟩) hS (fun q _ h => hFc q h) hFc (fun r_9 u tS H1 locs ht hvm hw hB hz1 hk1 hS => ?_)
        obtain ⟨hP1, hK1, hD1⟩ := hB
        rw [ht] at hP1
        replace hK1 := va_K.moved hvm.symm hK1
        obtain ⟨hPj, hDj⟩ := va_joinT (wr := [(ss, .inr (19, [.int 0, .int (nI pp), .int 0, .int 1, .int 0, .null, .null, .null, .null, .null, .null, .null, .null, .int 0])), (mr 8, .inl (kL, 3002, .inr (.inl fn)))]) (w1 := [(m9, .inr (23, mA mr mv vf xl (nI zs) 0 xa (nI T) (nI ((pp + 1 + 1) + 1)) xi xt xn (nI ns) (nI (vv + 1)) (nI bb))), (mr 5, .inl (kI, 3002, .inl fk)), (mr 6, .inl (kI, 3002, .inl fa))]) hP hD [2, 3, 4] [0, 1] rfl rfl (by decide) (by decide) hk1 hFc hP1 hD1
        replace hP := hPj
        replace hD := hDj
        clear hPj hDj
        replace hK := hK.app hK1
        generalize H1 = H at hP hS ⊢
        replace hP : va_P (dC, dI) vwCl (([(ss, .inr (19, [.int 0, .int (nI pp), .int 0, .int 1, .int 0, .null, .null, .null, .null, .null, .null, .null, .null, .int 0])), (mr 8, .inl (kL, 3002, .inr (.inl fn))), (m9, .inr (23, mA mr mv vf xl (nI zs) 0 xa (nI T) (nI ((pp + 1 + 1) + 1)) xi xt xn (nI ns) (nI (vv + 1)) (nI bb))), (mr 5, .inl (kI, 3002, .inl fk)), (mr 6, .inl (kI, 3002, .inl fa))] : va_W) ++ (sT L F)) H := hP
        replace hD : va_D A (([(ss, .inr (19, [.int 0, .int (nI pp), .int 0, .int 1, .int 0, .null, .null, .null, .null, .null, .null, .null, .null, .int 0])), (mr 8, .inl (kL, 3002, .inr (.inl fn))), (m9, .inr (23, mA mr mv vf xl (nI zs) 0 xa (nI T) (nI ((pp + 1 + 1) + 1)) xi xt xn (nI ns) (nI (vv + 1)) (nI bb))), (mr 5, .inl (kI, 3002, .inl fk)), (mr 6, .inl (kI, 3002, .inl fa))] : va_W) ++ (sT L F)) := hD
        replace hK : va_K (dC, dI) vwCl [(kI, .int), (kL, .long), (kE, .object RX15), (kS, .object RX19), (kB, .object RX14), (kA, .object RX13), (kV, .object RX21), (kI, .int)] s := hK
        replace hK := hK.sub (tys' := [(kI, .int), (kL, .long), (kE, .object RX15), (kS, .object RX19), (kB, .object RX14), (kA, .object RX13), (kV, .object RX21)]) [0, 1, 2, 3, 4, 5, 6] rfl
        clear hz1 hk1 hPc hDc hKc hFc hP1 hD1 hK1
        obtain rfl : r_9 = nI (pp + 1 + 1) := hw
        have hp_10 : pp + 1 + 1 + 1 < T := kne3 hk0 hp_5 hk_8 (by decide)
        have hvq9 : vv ≠ 40 := fun q9 => hv_6 ⟨hk_8, q9⟩
        refine va_put (D := (dC, dI)) (ci := 19) (v := .int (nI (pp + 1 + 1))) (ty := .int) (C := RX19) (T := TX19) (N := 14) hx hb hts in_c_vlt_X19 tyX19 tyX19_ok nmX19 hown hK hP hD hS 0 rfl rfl 2 (by decide) (hts (.fieldLink RX23 285 "OwnedPlacesModel$Statement" "name" "I") (wm_c_vlt 38 rfl)) (fun _ h9 => h9) rfl (by decide +kernel) rfl rfl (Nat.le_of_ble_eq_true rfl) dX23_let_34 (fun H locs hP hD hS => ?_)
        replace hP : va_P (dC, dI) vwCl (([(ss, .inr (19, [.int 0, .int (nI pp), .int (nI (pp + 1 + 1)), .int 1, .int 0, .null, .null, .null, .null, .null, .null, .null, .null, .int 0])), (mr 8, .inl (kL, 3002, .inr (.inl fn))), (m9, .inr (23, mA mr mv vf xl (nI zs) 0 xa (nI T) (nI (pp + 1 + 1 + 1)) xi xt xn (nI ns) (nI (vv + 1)) (nI bb))), (mr 5, .inl (kI, 3002, .inl fk)), (mr 6, .inl (kI, 3002, .inl fa))] : va_W) ++ (sT L F)) H := hP
        replace hD : va_D A (([(ss, .inr (19, [.int 0, .int (nI pp), .int (nI (pp + 1 + 1)), .int 1, .int 0, .null, .null, .null, .null, .null, .null, .null, .null, .int 0])), (mr 8, .inl (kL, 3002, .inr (.inl fn))), (m9, .inr (23, mA mr mv vf xl (nI zs) 0 xa (nI T) (nI (pp + 1 + 1 + 1)) xi xt xn (nI ns) (nI (vv + 1)) (nI bb))), (mr 5, .inl (kI, 3002, .inl fk)), (mr 6, .inl (kI, 3002, .inl fa))] : va_W) ++ (sT L F)) := hD
        refine lv_aload_n hx hb dX23_let_37 rfl (lv_at hl 0 rfl) ?_
        refine lv_bipush (v := 58) hx hb dX23_let_38 (by decide) ?_
        by_cases hk_11 : fk (pp + 1 + 1 + 1) = 58
        · replace hPc := hP.subF (f' := [(m9, .inr (23, mA mr mv vf xl (nI zs) 0 xa (nI T) (nI (pp + 1 + 1 + 1)) xi xt xn (nI ns) (nI (vv + 1)) (nI bb))), (mr 5, .inl (kI, 3002, .inl fk))]) [2, 3] rfl
          replace hDc := hD.subF (f' := [(m9, .inr (23, mA mr mv vf xl (nI zs) 0 xa (nI T) (nI (pp + 1 + 1 + 1)) xi xt xn (nI ns) (nI (vv + 1)) (nI bb))), (mr 5, .inl (kI, 3002, .inl fk))]) [2, 3] (by decide) rfl
          replace hKc := hK.sub (tys' := [(kI, .int)]) [0] rfl
          replace hFc := va_freeT (wc := [(m9, .inr (23, mA mr mv vf xl (nI zs) 0 xa (nI T) (nI (pp + 1 + 1 + 1)) xi xt xn (nI ns) (nI (vv + 1)) (nI bb))), (mr 5, .inl (kI, 3002, .inl fk))]) hD hS hA [2, 3] rfl
          refine va_calli (va_runV (As := [.int 58]) (rest := []) ⟨hx, hb, hml, hown, hts⟩ (c_rtsY l dC dI m9 mr mv vf xl xa xi xt xn zs T (pp + 1 + 1 + 1) ns (vv + 1) bb kI fk fa 58 H.size hT hp_10 hk0 (by decide) hk_11) (cwV 1 hts g_c_vlt_c_rtsY_40 rfl rfl rfl (by decide +kernel) ⟨by show 1 + 1 ≤ 14 + 14 * k; omega, by show 8 + (2 + 11) + (21) ≤ 322 + 323 * k; omega⟩) ⟨fun a U g mk q => by obtain ⟨q0, q1, qP, qK, qD⟩ := q; exact ⟨q0, q1, qP, va_K.moved (u := U) (U := U.calling g mk a) (Vm.Alike.refl U.vm) qK, qD⟩, va_recv hKc hPc (ci := 23) (q0 := 0) rfl rfl, fun U hU hW => ⟨rfl, by rw [hU], by rw [hU]; exact hPc, va_K.moved hW.alike hKc, hDc.weaken (fun _ _ _ _ => trivial)⟩⟩ rfl rfl hl.1 rfl (lv_room (Nat.le_of_ble_eq_true rfl)) dX23_let_40 ⟨(show 0 + 0 ≤ (8 * (T - pp) + 14) by omega), (show 0 + 0 ≤ (120 * (T - pp) + 480) by omega)⟩) hS (fun q _ h => hFc q h) hFc (fun r_12 u tS H1 locs ht hvm hw hB hz1 hk1 hS => ?_)
          obtain ⟨hP1, hK1, hD1⟩ := hB
          rw [ht] at hP1
          replace hK1 := va_K.moved hvm.symm hK1
          obtain ⟨hPj, hDj⟩ := va_joinT (wr := [(ss, .inr (19, [.int 0, .int (nI pp), .int (nI (pp + 1 + 1)), .int 1, .int 0, .null, .null, .null, .null, .null, .null, .null, .null, .int 0])), (mr 8, .inl (kL, 3002, .inr (.inl fn))), (mr 6, .inl (kI, 3002, .inl fa))]) (w1 := [(m9, .inr (23, mA mr mv vf xl (nI zs) 0 xa (nI T) (nI ((pp + 1 + 1 + 1) + 1)) xi xt xn (nI ns) (nI (vv + 1)) (nI bb))), (mr 5, .inl (kI, 3002, .inl fk))]) hP hD [2, 3] [0, 1, 4] rfl rfl (by decide) (by decide) hk1 hFc hP1 hD1
          replace hP := hPj
          replace hD := hDj
          clear hPj hDj
          replace hK := hK.app hK1
          generalize H1 = H at hP hS ⊢
          replace hP : va_P (dC, dI) vwCl (([(ss, .inr (19, [.int 0, .int (nI pp), .int (nI (pp + 1 + 1)), .int 1, .int 0, .null, .null, .null, .null, .null, .null, .null, .null, .int 0])), (mr 8, .inl (kL, 3002, .inr (.inl fn))), (mr 6, .inl (kI, 3002, .inl fa)), (m9, .inr (23, mA mr mv vf xl (nI zs) 0 xa (nI T) (nI ((pp + 1 + 1 + 1) + 1)) xi xt xn (nI ns) (nI (vv + 1)) (nI bb))), (mr 5, .inl (kI, 3002, .inl fk))] : va_W) ++ (sT L F)) H := hP
          replace hD : va_D A (([(ss, .inr (19, [.int 0, .int (nI pp), .int (nI (pp + 1 + 1)), .int 1, .int 0, .null, .null, .null, .null, .null, .null, .null, .null, .int 0])), (mr 8, .inl (kL, 3002, .inr (.inl fn))), (mr 6, .inl (kI, 3002, .inl fa)), (m9, .inr (23, mA mr mv vf xl (nI zs) 0 xa (nI T) (nI ((pp + 1 + 1 + 1) + 1)) xi xt xn (nI ns) (nI (vv + 1)) (nI bb))), (mr 5, .inl (kI, 3002, .inl fk))] : va_W) ++ (sT L F)) := hD
          replace hK : va_K (dC, dI) vwCl [(kI, .int), (kL, .long), (kE, .object RX15), (kS, .object RX19), (kB, .object RX14), (kA, .object RX13), (kV, .object RX21), (kI, .int)] s := hK
          replace hK := hK.sub (tys' := [(kI, .int), (kL, .long), (kE, .object RX15), (kS, .object RX19), (kB, .object RX14), (kA, .object RX13), (kV, .object RX21)]) [0, 1, 2, 3, 4, 5, 6] rfl
          clear hz1 hk1 hPc hDc hKc hFc hP1 hD1 hK1
          obtain rfl : r_12 = 1 := hw
          have hp_13 : pp + 1 + 1 + 1 + 1 < T := kne3 hk0 hp_10 hk_11 (by decide)
          refine lv_if_eq (tgt := 54) hx hb dX23_let_43 (by decide) (fun c_14 => absurd c_14 (by decide)) (fun _ => ?_)
          refine lv_aload_n hx hb dX23_let_46 rfl (lv_at hl 1 rfl) ?_
          refine lv_aload_n hx hb dX23_let_47 rfl (lv_at hl 0 rfl) ?_
          replace hPc := hP.subT (f' := [(m9, .inr (23, mA mr mv vf xl (nI zs) 0 xa (nI T) (nI (pp + 1 + 1 + 1 + 1)) xi xt xn (nI ns) (nI (vv + 1)) (nI bb))), (mr 5, .inl (kI, 3002, .inl fk)), (mr 6, .inl (kI, 3002, .inl fa))]) [3, 4, 2] rfl
          replace hDc := hD.subT (f' := [(m9, .inr (23, mA mr mv vf xl (nI zs) 0 xa (nI T) (nI (pp + 1 + 1 + 1 + 1)) xi xt xn (nI ns) (nI (vv + 1)) (nI bb))), (mr 5, .inl (kI, 3002, .inl fk)), (mr 6, .inl (kI, 3002, .inl fa))]) [3, 4, 2] (by decide) rfl
          replace hKc := hK.sub (tys' := [(kI, .int)]) [0] rfl
          replace hFc := va_freeB (wc := [(m9, .inr (23, mA mr mv vf xl (nI zs) 0 xa (nI T) (nI (pp + 1 + 1 + 1 + 1)) xi xt xn (nI ns) (nI (vv + 1)) (nI bb))), (mr 5, .inl (kI, 3002, .inl fk)), (mr 6, .inl (kI, 3002, .inl fa))]) hD hS hA [3, 4, 2] rfl
          refine W.grow (fun hgs0 hgs1 => ?_)
          refine va_callr (va_runV (As := []) (rest := [.ref ss]) ⟨hx, hb, hml, hown, hts⟩ (c_rwrA l dC dI k m9 mr mv vf xl xa xi xt xn zs T (pp + 1 + 1 + 1 + 1) ns (vv + 1) bb kI fk fa L F (slN H) H.size hT hp_13 hk0 (by omega)) (cwV 0 hts g_c_vlt_c_rwr_48 rfl rfl rfl (by decide +kernel) ⟨by show 3 + 1 * k + 1 ≤ 14 + 14 * k; omega, by show 8 + (3 + 11) + (54 + 22 * k) ≤ 322 + 323 * k; omega⟩) ⟨fun a U g mk q => by obtain ⟨q0, q1, qP, qK, qD, qx0, qx1⟩ := q; exact ⟨q0, q1, qP, va_K.moved (u := U) (U := U.calling g mk a) (Vm.Alike.refl U.vm) qK, qD, nsM.same (u := U) (U := U.calling g mk a) rfl qx0, qx1⟩, va_recv hKc hPc (ci := 23) (q0 := 0) rfl rfl, fun U hU hW => ⟨rfl, by rw [hU], by rw [hU]; exact hPc, va_K.moved hW.alike hKc, hDc.weaken (fun _ _ _ _ => trivial), nsM.warm hW hns, by rw [hU]⟩⟩ rfl rfl hl.1 rfl (lv_room (Nat.le_of_ble_eq_true rfl)) dX23_let_48 ⟨(show 0 + ((T - (pp + 1 + 1 + 1 + 1)) + 2) ≤ (8 * (T - pp) + 14) by omega), (show 0 + (5 * (T - (pp + 1 + 1 + 1 + 1)) + 10) ≤ (120 * (T - pp) + 480) by omega)⟩) hS (fun q _ h => hFc q h) hFc (fun u r_15 tS H1 locs ht hvm hw hB hz1 hk1 hS => ?_)
          obtain ⟨L14, F14, ff14, xa14, pp14, hf15_0, hf15_1, hf15_2, hf15_3, hf15_4, hP1, hK1, hD1⟩ := hB
          rw [ht] at hP1
          replace hK1 := va_K.moved hvm.symm hK1
          rw [ht] at hf15_4
          have hgz : H1.size ≤ s.heap.size + ((pp14 - (pp + 1 + 1 + 1 + 1)) + 1) ∧ slN H1 ≤ slN s.heap + (5 * (pp14 - (pp + 1 + 1 + 1 + 1)) + 5) := ⟨by have := hf15_4.1; omega, by have := hf15_4.2; omega⟩
          obtain ⟨hPj, hDj⟩ := va_joinB (wr := [(ss, .inr (19, [.int 0, .int (nI pp), .int (nI (pp + 1 + 1)), .int 1, .int 0, .null, .null, .null, .null, .null, .null, .null, .null, .int 0])), (mr 8, .inl (kL, 3002, .inr (.inl fn)))]) (w1 := [(m9, .inr (23, mA mr mv vf xl (nI zs) ff14 xa14 (nI T) (nI pp14) xi xt xn (nI ns) (nI (vv + 1)) (nI bb))), (mr 5, .inl (kI, 3002, .inl fk)), (mr 6, .inl (kI, 3002, .inl fa))]) hP hD [3, 4, 2] [0, 1] rfl rfl (by decide) (by decide) hk1 hFc hP1 hD1
          replace hP := hPj
          replace hD := hDj
          clear hPj hDj
          replace hK := hK.app hK1
          generalize H1 = H at hP hS hgz ⊢
          replace hP : va_P (dC, dI) vwCl (([(ss, .inr (19, [.int 0, .int (nI pp), .int (nI (pp + 1 + 1)), .int 1, .int 0, .null, .null, .null, .null, .null, .null, .null, .null, .int 0])), (mr 8, .inl (kL, 3002, .inr (.inl fn))), (m9, .inr (23, mA mr mv vf xl (nI zs) ff14 xa14 (nI T) (nI pp14) xi xt xn (nI ns) (nI (vv + 1)) (nI bb))), (mr 5, .inl (kI, 3002, .inl fk)), (mr 6, .inl (kI, 3002, .inl fa))] : va_W) ++ (sT L14 F14)) H := hP
          replace hD : va_D A (([(ss, .inr (19, [.int 0, .int (nI pp), .int (nI (pp + 1 + 1)), .int 1, .int 0, .null, .null, .null, .null, .null, .null, .null, .null, .int 0])), (mr 8, .inl (kL, 3002, .inr (.inl fn))), (m9, .inr (23, mA mr mv vf xl (nI zs) ff14 xa14 (nI T) (nI pp14) xi xt xn (nI ns) (nI (vv + 1)) (nI bb))), (mr 5, .inl (kI, 3002, .inl fk)), (mr 6, .inl (kI, 3002, .inl fa))] : va_W) ++ (sT L14 F14)) := hD
          replace hK : va_K (dC, dI) vwCl [(kI, .int), (kL, .long), (kE, .object RX15), (kS, .object RX19), (kB, .object RX14), (kA, .object RX13), (kV, .object RX21), (kI, .int)] s := hK
          replace hK := hK.sub (tys' := [(kI, .int), (kL, .long), (kE, .object RX15), (kS, .object RX19), (kB, .object RX14), (kA, .object RX13), (kV, .object RX21)]) [0, 1, 2, 3, 4, 5, 6] rfl
          refine W.tight (k := (pp14 - (pp + 1 + 1 + 1 + 1)) + 1) (n := 5 * (pp14 - (pp + 1 + 1 + 1 + 1)) + 5) hgz.1 hgz.2 ?_
          clear hz1 hk1 hPc hDc hKc hFc hP1 hD1 hK1
          refine va_put (D := (dC, dI)) (ci := 19) (v := .ref r_15) (ty := (.object "OwnedPlacesModel$Written")) (C := RX19) (T := TX19) (N := 14) hx hb hts in_c_vlt_X19 tyX19 tyX19_ok nmX19 hown hK hP hD hS 0 rfl rfl 5 (by decide) (hts (.fieldLink RX23 286 "OwnedPlacesModel$Statement" "written" "LOwnedPlacesModel$Written;") (wm_c_vlt 62 rfl)) (fun _ h9 => h9) rfl (by decide +kernel) rfl rfl (Nat.le_of_ble_eq_true rfl) dX23_let_51 (fun H locs hP hD hS => ?_)
          replace hP : va_P (dC, dI) vwCl (([(ss, .inr (19, [.int 0, .int (nI pp), .int (nI (pp + 1 + 1)), .int 1, .int 0, .ref r_15, .null, .null, .null, .null, .null, .null, .null, .int 0])), (mr 8, .inl (kL, 3002, .inr (.inl fn))), (m9, .inr (23, mA mr mv vf xl (nI zs) ff14 xa14 (nI T) (nI pp14) xi xt xn (nI ns) (nI (vv + 1)) (nI bb))), (mr 5, .inl (kI, 3002, .inl fk)), (mr 6, .inl (kI, 3002, .inl fa))] : va_W) ++ (sT L14 F14)) H := hP
          replace hD : va_D A (([(ss, .inr (19, [.int 0, .int (nI pp), .int (nI (pp + 1 + 1)), .int 1, .int 0, .ref r_15, .null, .null, .null, .null, .null, .null, .null, .int 0])), (mr 8, .inl (kL, 3002, .inr (.inl fn))), (m9, .inr (23, mA mr mv vf xl (nI zs) ff14 xa14 (nI T) (nI pp14) xi xt xn (nI ns) (nI (vv + 1)) (nI bb))), (mr 5, .inl (kI, 3002, .inl fk)), (mr 6, .inl (kI, 3002, .inl fa))] : va_W) ++ (sT L14 F14)) := hD
          refine lv_aload_n hx hb dX23_let_54 rfl (lv_at hl 0 rfl) ?_
          refine lv_bipush (v := 54) hx hb dX23_let_55 (by decide) ?_
          by_cases hz_16 : ff14 = 0
          · subst hz_16
            by_cases hk_17 : fk pp14 = 54
            · replace hPc := hP.subF (f' := [(m9, .inr (23, mA mr mv vf xl (nI zs) 0 xa14 (nI T) (nI pp14) xi xt xn (nI ns) (nI (vv + 1)) (nI bb))), (mr 5, .inl (kI, 3002, .inl fk))]) [2, 3] rfl
              replace hDc := hD.subF (f' := [(m9, .inr (23, mA mr mv vf xl (nI zs) 0 xa14 (nI T) (nI pp14) xi xt xn (nI ns) (nI (vv + 1)) (nI bb))), (mr 5, .inl (kI, 3002, .inl fk))]) [2, 3] (by decide) rfl
              replace hKc := hK.sub (tys' := [(kI, .int)]) [0] rfl
              replace hFc := va_freeT (wc := [(m9, .inr (23, mA mr mv vf xl (nI zs) 0 xa14 (nI T) (nI pp14) xi xt xn (nI ns) (nI (vv + 1)) (nI bb))), (mr 5, .inl (kI, 3002, .inl fk))]) hD hS hA [2, 3] rfl
              refine va_calli (va_runV (As := [.int 54]) (rest := []) ⟨hx, hb, hml, hown, hts⟩ (c_rtsY l dC dI m9 mr mv vf xl xa14 xi xt xn zs T pp14 ns (vv + 1) bb kI fk fa 54 H.size hT hf15_2.2 hk0 (by decide) hk_17) (cwV 1 hts g_c_vlt_c_rtsY_57 rfl rfl rfl (by decide +kernel) ⟨by show 1 + 1 ≤ 14 + 14 * k; omega, by show 8 + (2 + 11) + (21) ≤ 322 + 323 * k; omega⟩) ⟨fun a U g mk q => by obtain ⟨q0, q1, qP, qK, qD⟩ := q; exact ⟨q0, q1, qP, va_K.moved (u := U) (U := U.calling g mk a) (Vm.Alike.refl U.vm) qK, qD⟩, va_recv hKc hPc (ci := 23) (q0 := 0) rfl rfl, fun U hU hW => ⟨rfl, by rw [hU], by rw [hU]; exact hPc, va_K.moved hW.alike hKc, hDc.weaken (fun _ _ _ _ => trivial)⟩⟩ rfl rfl hl.1 rfl (lv_room (Nat.le_of_ble_eq_true rfl)) dX23_let_57 ⟨(show (pp14 - (pp + 1 + 1 + 1 + 1)) + 1 + 0 ≤ (8 * (T - pp) + 14) by omega), (show 5 * (pp14 - (pp + 1 + 1 + 1 + 1)) + 5 + 0 ≤ (120 * (T - pp) + 480) by omega)⟩) hS (fun q _ h => hFc q h) hFc (fun r_18 u tS H1 locs ht hvm hw hB hz1 hk1 hS => ?_)
              obtain ⟨hP1, hK1, hD1⟩ := hB
              rw [ht] at hP1
              replace hK1 := va_K.moved hvm.symm hK1
              obtain ⟨hPj, hDj⟩ := va_joinT (wr := [(ss, .inr (19, [.int 0, .int (nI pp), .int (nI (pp + 1 + 1)), .int 1, .int 0, .ref r_15, .null, .null, .null, .null, .null, .null, .null, .int 0])), (mr 8, .inl (kL, 3002, .inr (.inl fn))), (mr 6, .inl (kI, 3002, .inl fa))]) (w1 := [(m9, .inr (23, mA mr mv vf xl (nI zs) 0 xa14 (nI T) (nI (pp14 + 1)) xi xt xn (nI ns) (nI (vv + 1)) (nI bb))), (mr 5, .inl (kI, 3002, .inl fk))]) hP hD [2, 3] [0, 1, 4] rfl rfl (by decide) (by decide) hk1 hFc hP1 hD1
              replace hP := hPj
              replace hD := hDj
              clear hPj hDj
              replace hK := hK.app hK1
              generalize H1 = H at hP hS ⊢
              replace hP : va_P (dC, dI) vwCl (([(ss, .inr (19, [.int 0, .int (nI pp), .int (nI (pp + 1 + 1)), .int 1, .int 0, .ref r_15, .null, .null, .null, .null, .null, .null, .null, .int 0])), (mr 8, .inl (kL, 3002, .inr (.inl fn))), (mr 6, .inl (kI, 3002, .inl fa)), (m9, .inr (23, mA mr mv vf xl (nI zs) 0 xa14 (nI T) (nI (pp14 + 1)) xi xt xn (nI ns) (nI (vv + 1)) (nI bb))), (mr 5, .inl (kI, 3002, .inl fk))] : va_W) ++ (sT L14 F14)) H := hP
              replace hD : va_D A (([(ss, .inr (19, [.int 0, .int (nI pp), .int (nI (pp + 1 + 1)), .int 1, .int 0, .ref r_15, .null, .null, .null, .null, .null, .null, .null, .int 0])), (mr 8, .inl (kL, 3002, .inr (.inl fn))), (mr 6, .inl (kI, 3002, .inl fa)), (m9, .inr (23, mA mr mv vf xl (nI zs) 0 xa14 (nI T) (nI (pp14 + 1)) xi xt xn (nI ns) (nI (vv + 1)) (nI bb))), (mr 5, .inl (kI, 3002, .inl fk))] : va_W) ++ (sT L14 F14)) := hD
              replace hK : va_K (dC, dI) vwCl [(kI, .int), (kL, .long), (kE, .object RX15), (kS, .object RX19), (kB, .object RX14), (kA, .object RX13), (kV, .object RX21), (kI, .int)] s := hK
              replace hK := hK.sub (tys' := [(kI, .int), (kL, .long), (kE, .object RX15), (kS, .object RX19), (kB, .object RX14), (kA, .object RX13), (kV, .object RX21)]) [0, 1, 2, 3, 4, 5, 6] rfl
              clear hz1 hk1 hPc hDc hKc hFc hP1 hD1 hK1
              obtain rfl : r_18 = 1 := hw
              have hp_19 : pp14 + 1 < T := kne3 hk0 hf15_2.2 hk_17 (by decide)
              refine lv_if_eq (tgt := 71) hx hb dX23_let_60 (by decide) (fun c_20 => absurd c_20 (by decide)) (fun _ => ?_)
              refine lv_aload_n hx hb dX23_let_63 rfl (lv_at hl 1 rfl) ?_
              refine lv_aload_n hx hb dX23_let_64 rfl (lv_at hl 0 rfl) ?_
              replace hPc := hP.subT (f' := [(m9, .inr (23, mA mr mv vf xl (nI zs) 0 xa14 (nI T) (nI (pp14 + 1)) xi xt xn (nI ns) (nI (vv + 1)) (nI bb))), (mr 5, .inl (kI, 3002, .inl fk)), (mr 6, .inl (kI, 3002, .inl fa)), (mr 8, .inl (kL, 3002, .inr (.inl fn)))]) [3, 4, 2, 1] rfl
              replace hDc := hD.subT (f' := [(m9, .inr (23, mA mr mv vf xl (nI zs) 0 xa14 (nI T) (nI (pp14 + 1)) xi xt xn (nI ns) (nI (vv + 1)) (nI bb))), (mr 5, .inl (kI, 3002, .inl fk)), (mr 6, .inl (kI, 3002, .inl fa)), (mr 8, .inl (kL, 3002, .inr (.inl fn)))]) [3, 4, 2, 1] (by decide) rfl
              replace hKc := hK.sub (tys' := [(kI, .int), (kL, .long), (kE, .object RX15)]) [0, 1, 2] rfl
              replace hFc := va_freeB (wc := [(m9, .inr (23, mA mr mv vf xl (nI zs) 0 xa14 (nI T) (nI (pp14 + 1)) xi xt xn (nI ns) (nI (vv + 1)) (nI bb))), (mr 5, .inl (kI, 3002, .inl fk)), (mr 6, .inl (kI, 3002, .inl fa)), (mr 8, .inl (kL, 3002, .inr (.inl fn)))]) hD hS hA [3, 4, 2, 1] rfl
              refine W.grow (fun hgs0 hgs1 => ?_)
              refine va_callr (va_runV (As := []) (rest := [.ref ss]) ⟨hx, hb, hml, hown, hts⟩ (c_xexA l dC dI k m9 mr mv vf xl xa14 xi xt xn zs T (pp14 + 1) ns (vv + 1) bb kI fk fa kL kE fn L14 F14 (slN H) H.size hT hp_19 hk0 hbb (by omega)) (cwV 0 hts g_c_vlt_c_xex_65 rfl rfl rfl (by decide +kernel) ⟨by show 13 + 12 * k + 1 ≤ 14 + 14 * k; omega, by show 8 + (1 + 11) + (302 + 279 * k) ≤ 322 + 323 * k; omega⟩) ⟨fun a U g mk q => by obtain ⟨q0, q1, qP, qK, qD, qx0, qx1⟩ := q; exact ⟨q0, q1, qP, va_K.moved (u := U) (U := U.calling g mk a) (Vm.Alike.refl U.vm) qK, qD, nsM.same (u := U) (U := U.calling g mk a) rfl qx0, qx1⟩, va_recv hKc hPc (ci := 23) (q0 := 0) rfl rfl, fun U hU hW => ⟨rfl, by rw [hU], by rw [hU]; exact hPc, va_K.moved hW.alike hKc, hDc.weaken (fun _ _ _ _ => trivial), nsM.warm hW hns, by rw [hU]⟩⟩ rfl rfl hl.1 rfl (lv_room (Nat.le_of_ble_eq_true rfl)) dX23_let_65 ⟨(show (pp14 - (pp + 1 + 1 + 1 + 1)) + 1 + (8 * (T - (pp14 + 1)) + 8) ≤ (8 * (T - pp) + 14) by omega), (show 5 * (pp14 - (pp + 1 + 1 + 1 + 1)) + 5 + (120 * (T - (pp14 + 1)) + 360) ≤ (120 * (T - pp) + 480) by omega)⟩) hS (fun q _ h => hFc q h) hFc (fun u r_21 tS H1 locs ht hvm hw hB hz1 hk1 hS => ?_)
              obtain ⟨L20, F20, ff20, xa20, pp20, bb20, hf21_0, hf21_1, hf21_2, hf21_3, hP1, hK1, hD1⟩ := hB
              rw [ht] at hP1
              replace hK1 := va_K.moved hvm.symm hK1
              rw [ht] at hf21_3
              have hgz : H1.size ≤ s.heap.size + (((pp14 - (pp + 1 + 1 + 1 + 1)) + 1 + 8 * (pp20 - (pp14 + 1)) + 3)) ∧ slN H1 ≤ slN s.heap + ((5 * (pp14 - (pp + 1 + 1 + 1 + 1)) + 5 + 120 * (pp20 - (pp14 + 1)) + 48)) := ⟨by have := hf21_3.1; omega, by have := hf21_3.2; omega⟩
              obtain ⟨hPj, hDj⟩ := va_joinB (wr := [(ss, .inr (19, [.int 0, .int (nI pp), .int (nI (pp + 1 + 1)), .int 1, .int 0, .ref r_15, .null, .null, .null, .null, .null, .null, .null, .int 0]))]) (w1 := [(m9, .inr (23, mA mr mv vf xl (nI zs) ff20 xa20 (nI T) (nI pp20) xi xt xn (nI ns) (nI (vv + 1)) (nI bb20))), (mr 5, .inl (kI, 3002, .inl fk)), (mr 6, .inl (kI, 3002, .inl fa)), (mr 8, .inl (kL, 3002, .inr (.inl fn)))]) hP hD [3, 4, 2, 1] [0] rfl rfl (by decide) (by decide) hk1 hFc hP1 hD1
              replace hP := hPj
              replace hD := hDj
              clear hPj hDj
              replace hK := hK.app hK1
              generalize H1 = H at hP hS hgz ⊢
              replace hP : va_P (dC, dI) vwCl (([(ss, .inr (19, [.int 0, .int (nI pp), .int (nI (pp + 1 + 1)), .int 1, .int 0, .ref r_15, .null, .null, .null, .null, .null, .null, .null, .int 0])), (m9, .inr (23, mA mr mv vf xl (nI zs) ff20 xa20 (nI T) (nI pp20) xi xt xn (nI ns) (nI (vv + 1)) (nI bb20))), (mr 5, .inl (kI, 3002, .inl fk)), (mr 6, .inl (kI, 3002, .inl fa)), (mr 8, .inl (kL, 3002, .inr (.inl fn)))] : va_W) ++ (sT L20 F20)) H := hP
              replace hD : va_D A (([(ss, .inr (19, [.int 0, .int (nI pp), .int (nI (pp + 1 + 1)), .int 1, .int 0, .ref r_15, .null, .null, .null, .null, .null, .null, .null, .int 0])), (m9, .inr (23, mA mr mv vf xl (nI zs) ff20 xa20 (nI T) (nI pp20) xi xt xn (nI ns) (nI (vv + 1)) (nI bb20))), (mr 5, .inl (kI, 3002, .inl fk)), (mr 6, .inl (kI, 3002, .inl fa)), (mr 8, .inl (kL, 3002, .inr (.inl fn)))] : va_W) ++ (sT L20 F20)) := hD
              replace hK : va_K (dC, dI) vwCl [(kI, .int), (kL, .long), (kE, .object RX15), (kS, .object RX19), (kB, .object RX14), (kA, .object RX13), (kV, .object RX21), (kI, .int), (kL, .long), (kE, .object RX15)] s := hK
              replace hK := hK.sub (tys' := [(kI, .int), (kL, .long), (kE, .object RX15), (kS, .object RX19), (kB, .object RX14), (kA, .object RX13), (kV, .object RX21)]) [0, 1, 2, 3, 4, 5, 6] rfl
              refine W.tight (k := ((pp14 - (pp + 1 + 1 + 1 + 1)) + 1 + 8 * (pp20 - (pp14 + 1)) + 3)) (n := (5 * (pp14 - (pp + 1 + 1 + 1 + 1)) + 5 + 120 * (pp20 - (pp14 + 1)) + 48)) hgz.1 hgz.2 ?_
              clear hz1 hk1 hPc hDc hKc hFc hP1 hD1 hK1
              refine va_put (D := (dC, dI)) (ci := 19) (v := .ref r_21) (ty := (.object "OwnedPlacesModel$Exp")) (C := RX19) (T := TX19) (N := 14) hx hb hts in_c_vlt_X19 tyX19 tyX19_ok nmX19 hown hK hP hD hS 0 rfl rfl 6 (by decide) (hts (.fieldLink RX23 268 "OwnedPlacesModel$Statement" "exp" "LOwnedPlacesModel$Exp;") (wm_c_vlt 128 rfl)) (fun _ h9 => h9) rfl (by decide +kernel) rfl rfl (Nat.le_of_ble_eq_true rfl) dX23_let_68 (fun H locs hP hD hS => ?_)
              replace hP : va_P (dC, dI) vwCl (([(ss, .inr (19, [.int 0, .int (nI pp), .int (nI (pp + 1 + 1)), .int 1, .int 0, .ref r_15, .ref r_21, .null, .null, .null, .null, .null, .null, .int 0])), (m9, .inr (23, mA mr mv vf xl (nI zs) ff20 xa20 (nI T) (nI pp20) xi xt xn (nI ns) (nI (vv + 1)) (nI bb20))), (mr 5, .inl (kI, 3002, .inl fk)), (mr 6, .inl (kI, 3002, .inl fa)), (mr 8, .inl (kL, 3002, .inr (.inl fn)))] : va_W) ++ (sT L20 F20)) H := hP
              replace hD : va_D A (([(ss, .inr (19, [.int 0, .int (nI pp), .int (nI (pp + 1 + 1)), .int 1, .int 0, .ref r_15, .ref r_21, .null, .null, .null, .null, .null, .null, .int 0])), (m9, .inr (23, mA mr mv vf xl (nI zs) ff20 xa20 (nI T) (nI pp20) xi xt xn (nI ns) (nI (vv + 1)) (nI bb20))), (mr 5, .inl (kI, 3002, .inl fk)), (mr 6, .inl (kI, 3002, .inl fa)), (mr 8, .inl (kL, 3002, .inr (.inl fn)))] : va_W) ++ (sT L20 F20)) := hD
              refine lv_aload_n hx hb dX23_let_71 rfl (lv_at hl 0 rfl) ?_
              refine lv_bipush (v := 60) hx hb dX23_let_72 (by decide) ?_
              by_cases hz_22 : ff20 = 0
              · subst hz_22
                have hg20 := hf21_2 rfl
                have hlthg20 := (isE_mem hg20.2).2
                by_cases hk_23 : fk pp20 = 60
                · replace hPc := hP.subF (f' := [(m9, .inr (23, mA mr mv vf xl (nI zs) 0 xa20 (nI T) (nI pp20) xi xt xn (nI ns) (nI (vv + 1)) (nI bb20))), (mr 5, .inl (kI, 3002, .inl fk)), (mr 6, .inl (kI, 3002, .inl fa))]) [1, 2, 3] rfl
                  replace hDc := hD.subF (f' := [(m9, .inr (23, mA mr mv vf xl (nI zs) 0 xa20 (nI T) (nI pp20) xi xt xn (nI ns) (nI (vv + 1)) (nI bb20))), (mr 5, .inl (kI, 3002, .inl fk)), (mr 6, .inl (kI, 3002, .inl fa))]) [1, 2, 3] (by decide) rfl
                  replace hKc := hK.sub (tys' := [(kI, .int)]) [0] rfl
                  replace hFc := va_freeT (wc := [(m9, .inr (23, mA mr mv vf xl (nI zs) 0 xa20 (nI T) (nI pp20) xi xt xn (nI ns) (nI (vv + 1)) (nI bb20))), (mr 5, .inl (kI, 3002, .inl fk)), (mr 6, .inl (kI, 3002, .inl fa))]) hD hS hA [1, 2, 3] rfl
                  refine va_callv (va_runV (As := [.int 60]) (rest := []) ⟨hx, hb, hml, hown, hts⟩ (c_rtkY l dC dI m9 mr mv vf xl xa20 xi xt xn zs T pp20 ns (vv + 1) bb20 kI fk fa 60 H.size hT hf21_1.2.1 hk0 (by decide) hk_23) (cwV 1 hts g_c_vlt_c_rtkY_74 rfl rfl rfl (by decide +kernel) ⟨by show 1 + 1 ≤ 14 + 14 * k; omega, by show 8 + (2 + 11) + (21) ≤ 322 + 323 * k; omega⟩) ⟨fun a U g mk q => by obtain ⟨q0, q1, qP, qK, qD⟩ := q; exact ⟨q0, q1, qP, va_K.moved (u := U) (U := U.calling g mk a) (Vm.Alike.refl U.vm) qK, qD⟩, va_recv hKc hPc (ci := 23) (q0 := 0) rfl rfl, fun U hU hW => ⟨rfl, by rw [hU], by rw [hU]; exact hPc, va_K.moved hW.alike hKc, hDc.weaken (fun _ _ _ _ => trivial)⟩⟩ rfl rfl hl.1 rfl (lv_room (Nat.le_of_ble_eq_true rfl)) dX23_let_74 ⟨(show ((pp14 - (pp + 1 + 1 + 1 + 1)) + 1 + 8 * (pp20 - (pp14 + 1)) + 3) + 0 ≤ (8 * (T - pp) + 14) by omega), (show (5 * (pp14 - (pp + 1 + 1 + 1 + 1)) + 5 + 120 * (pp20 - (pp14 + 1)) + 48) + 0 ≤ (120 * (T - pp) + 480) by omega)⟩) hS (fun q _ h => hFc q h) hFc (fun u tS H1 locs ht hvm hw hB hz1 hk1 hS => ?_)
                  obtain ⟨hP1, hK1, hD1⟩ := hB
                  rw [ht] at hP1
                  replace hK1 := va_K.moved hvm.symm hK1
                  obtain ⟨hPj, hDj⟩ := va_joinT (wr := [(ss, .inr (19, [.int 0, .int (nI pp), .int (nI (pp + 1 + 1)), .int 1, .int 0, .ref r_15, .ref r_21, .null, .null, .null, .null, .null, .null, .int 0])), (mr 8, .inl (kL, 3002, .inr (.inl fn)))]) (w1 := [(m9, .inr (23, mA mr mv vf xl (nI zs) 0 xa20 (nI T) (nI (pp20 + 1)) xi xt xn (nI ns) (nI (vv + 1)) (nI bb20))), (mr 5, .inl (kI, 3002, .inl fk)), (mr 6, .inl (kI, 3002, .inl fa))]) hP hD [1, 2, 3] [0, 4] rfl rfl (by decide) (by decide) hk1 hFc hP1 hD1
                  replace hP := hPj
                  replace hD := hDj
                  clear hPj hDj
                  replace hK := hK.app hK1
                  generalize H1 = H at hP hS ⊢
                  replace hP : va_P (dC, dI) vwCl (([(ss, .inr (19, [.int 0, .int (nI pp), .int (nI (pp + 1 + 1)), .int 1, .int 0, .ref r_15, .ref r_21, .null, .null, .null, .null, .null, .null, .int 0])), (mr 8, .inl (kL, 3002, .inr (.inl fn))), (m9, .inr (23, mA mr mv vf xl (nI zs) 0 xa20 (nI T) (nI (pp20 + 1)) xi xt xn (nI ns) (nI (vv + 1)) (nI bb20))), (mr 5, .inl (kI, 3002, .inl fk)), (mr 6, .inl (kI, 3002, .inl fa))] : va_W) ++ (sT L20 F20)) H := hP
                  replace hD : va_D A (([(ss, .inr (19, [.int 0, .int (nI pp), .int (nI (pp + 1 + 1)), .int 1, .int 0, .ref r_15, .ref r_21, .null, .null, .null, .null, .null, .null, .int 0])), (mr 8, .inl (kL, 3002, .inr (.inl fn))), (m9, .inr (23, mA mr mv vf xl (nI zs) 0 xa20 (nI T) (nI (pp20 + 1)) xi xt xn (nI ns) (nI (vv + 1)) (nI bb20))), (mr 5, .inl (kI, 3002, .inl fk)), (mr 6, .inl (kI, 3002, .inl fa))] : va_W) ++ (sT L20 F20)) := hD
                  replace hK : va_K (dC, dI) vwCl [(kI, .int), (kL, .long), (kE, .object RX15), (kS, .object RX19), (kB, .object RX14), (kA, .object RX13), (kV, .object RX21), (kI, .int)] s := hK
                  replace hK := hK.sub (tys' := [(kI, .int), (kL, .long), (kE, .object RX15), (kS, .object RX19), (kB, .object RX14), (kA, .object RX13), (kV, .object RX21)]) [0, 1, 2, 3, 4, 5, 6] rfl
                  clear hz1 hk1 hPc hDc hKc hFc hP1 hD1 hK1
                  have hp_25 : pp20 + 1 < T := kne3 hk0 hf21_1.2.1 hk_23 (by decide)
                  refine W.grow (fun hgs0 hgs1 => ?_)
                  have hP9 := hP.subT (f' := [(ss, .inr (19, [.int 0, .int (nI pp), .int (nI (pp + 1 + 1)), .int 1, .int 0, (.ref r_15), (.ref r_21), .null, .null, .null, .null, .null, .null, .int 0])), (m9, .inr (23, mA mr mv vf xl (nI zs) 0 xa20 (nI T) (nI (pp20 + 1)) xi xt xn (nI ns) (nI (vv + 1)) (nI bb20))), (mr 5, .inl (kI, 3002, .inl fk)), (mr 6, .inl (kI, 3002, .inl fa)), (mr 8, .inl (kL, 3002, .inr (.inl fn)))]) [0, 2, 3, 4, 1] rfl
                  have hD9 := hD.subT (f' := [(ss, .inr (19, [.int 0, .int (nI pp), .int (nI (pp + 1 + 1)), .int 1, .int 0, (.ref r_15), (.ref r_21), .null, .null, .null, .null, .null, .null, .int 0])), (m9, .inr (23, mA mr mv vf xl (nI zs) 0 xa20 (nI T) (nI (pp20 + 1)) xi xt xn (nI ns) (nI (vv + 1)) (nI bb20))), (mr 5, .inl (kI, 3002, .inl fk)), (mr 6, .inl (kI, 3002, .inl fa)), (mr 8, .inl (kL, 3002, .inr (.inl fn)))]) [0, 2, 3, 4, 1] (by decide) rfl
                  have hK9 := hK.sub (tys' := [(kI, .int), (kL, .long), (kE, .object RX15), (kS, .object RX19), (kB, .object RX14), (kA, .object RX13), (kV, .object RX21)]) [0, 1, 2, 3, 4, 5, 6] rfl
                  refine W.widen (k := (8 * (T - pp) + 14)) (n := (120 * (T - pp) + 480)) (by omega) (by omega) ?_
                  exact W.vret hx hb hr (fun tS ht hW => ⟨⟨(), rfl, trivial, L20, F20, 0, xa20, pp20 + 1, bb20, vv + 1, 0, nI (pp + 1 + 1), 1, .ref r_15, .ref r_21, (hf15_0.1).tr hf21_0.1, ⟨by omega, by omega, by omega, by omega, by omega, by omega⟩, ⟨by omega, fun _ => rfl⟩, (fun _ => ⟨hg20.1, by omega, by omega, fun aZ LZ FZ hxZ haZ hFZ => ⟨haZ, by omega, Or.inl ⟨pp + 1 + 1, _, _, _, hFZ, by omega, by omega, Or.inr rfl, rfl, Or.inr ⟨r_15, pp + 1 + 1 + 1 + 1, pp14, rfl, by omega, by omega, isT_ex hxZ (isT_le (isT_ex hf21_0.1 (hf15_3 rfl)) (by omega))⟩, Or.inr ⟨r_21, pp14 + 1, pp20, rfl, by omega, by omega, isE_im hxZ 408 (by omega) hg20.2⟩⟩⟩⟩), by rw [ht]; exact ⟨by omega, by omega⟩, by rw [ht]; exact hP9, va_K.moved hW.alike hK9, hD9⟩, hS.F ht⟩) hS.2.2 dX23_let_77
                · replace hPc := hP.subF (f' := [(m9, .inr (23, mA mr mv vf xl (nI zs) 0 xa20 (nI T) (nI pp20) xi xt xn (nI ns) (nI (vv + 1)) (nI bb20))), (mr 5, .inl (kI, 3002, .inl fk)), (mr 6, .inl (kI, 3002, .inl fa))]) [1, 2, 3] rfl
                  replace hDc := hD.subF (f' := [(m9, .inr (23, mA mr mv vf xl (nI zs) 0 xa20 (nI T) (nI pp20) xi xt xn (nI ns) (nI (vv + 1)) (nI bb20))), (mr 5, .inl (kI, 3002, .inl fk)), (mr 6, .inl (kI, 3002, .inl fa))]) [1, 2, 3] (by decide) rfl
                  replace hKc := hK.sub (tys' := [(kI, .int)]) [0] rfl
                  replace hFc := va_freeT (wc := [(m9, .inr (23, mA mr mv vf xl (nI zs) 0 xa20 (nI T) (nI pp20) xi xt xn (nI ns) (nI (vv + 1)) (nI bb20))), (mr 5, .inl (kI, 3002, .inl fk)), (mr 6, .inl (kI, 3002, .inl fa))]) hD hS hA [1, 2, 3] rfl
                  refine va_callv (va_runV (As := [.int 60]) (rest := []) ⟨hx, hb, hml, hown, hts⟩ (c_rtkN l dC dI m9 mr mv vf xl xa20 xi xt xn zs T pp20 ns (vv + 1) bb20 kI fk fa 60 H.size hT hf21_1.2.1 hk0 (by decide) hk_23) (cwV 1 hts g_c_vlt_c_rtkN_74 rfl rfl rfl (by decide +kernel) ⟨by show 1 + 1 ≤ 14 + 14 * k; omega, by show 8 + (2 + 11) + (22) ≤ 322 + 323 * k; omega⟩) ⟨fun a U g mk q => by obtain ⟨q0, q1, qP, qK, qD⟩ := q; exact ⟨q0, q1, qP, va_K.moved (u := U) (U := U.calling g mk a) (Vm.Alike.refl U.vm) qK, qD⟩, va_recv hKc hPc (ci := 23) (q0 := 0) rfl rfl, fun U hU hW => ⟨rfl, by rw [hU], by rw [hU]; exact hPc, va_K.moved hW.alike hKc, hDc.weaken (fun _ _ _ _ => trivial)⟩⟩ rfl rfl hl.1 rfl (lv_room (Nat.le_of_ble_eq_true rfl)) dX23_let_74 ⟨(show ((pp14 - (pp + 1 + 1 + 1 + 1)) + 1 + 8 * (pp20 - (pp14 + 1)) + 3) + 0 ≤ (8 * (T - pp) + 14) by omega), (show (5 * (pp14 - (pp + 1 + 1 + 1 + 1)) + 5 + 120 * (pp20 - (pp14 + 1)) + 48) + 0 ≤ (120 * (T - pp) + 480) by omega)⟩) hS (fun q _ h => hFc q h) hFc (fun u tS H1 locs ht hvm hw hB hz1 hk1 hS => ?_)
                  obtain ⟨ff_24, xa_25, hf26_0, hP1, hK1, hD1⟩ := hB
                  rw [ht] at hP1
                  replace hK1 := va_K.moved hvm.symm hK1
                  obtain ⟨hPj, hDj⟩ := va_joinT (wr := [(ss, .inr (19, [.int 0, .int (nI pp), .int (nI (pp + 1 + 1)), .int 1, .int 0, .ref r_15, .ref r_21, .null, .null, .null, .null, .null, .null, .int 0])), (mr 8, .inl (kL, 3002, .inr (.inl fn)))]) (w1 := [(m9, .inr (23, mA mr mv vf xl (nI zs) ff_24 xa_25 (nI T) (nI pp20) xi xt xn (nI ns) (nI (vv + 1)) (nI bb20))), (mr 5, .inl (kI, 3002, .inl fk)), (mr 6, .inl (kI, 3002, .inl fa))]) hP hD [1, 2, 3] [0, 4] rfl rfl (by decide) (by decide) hk1 hFc hP1 hD1
                  replace hP := hPj
                  replace hD := hDj
                  clear hPj hDj
                  replace hK := hK.app hK1
                  generalize H1 = H at hP hS ⊢
                  replace hP : va_P (dC, dI) vwCl (([(ss, .inr (19, [.int 0, .int (nI pp), .int (nI (pp + 1 + 1)), .int 1, .int 0, .ref r_15, .ref r_21, .null, .null, .null, .null, .null, .null, .int 0])), (mr 8, .inl (kL, 3002, .inr (.inl fn))), (m9, .inr (23, mA mr mv vf xl (nI zs) ff_24 xa_25 (nI T) (nI pp20) xi xt xn (nI ns) (nI (vv + 1)) (nI bb20))), (mr 5, .inl (kI, 3002, .inl fk)), (mr 6, .inl (kI, 3002, .inl fa))] : va_W) ++ (sT L20 F20)) H := hP
                  replace hD : va_D A (([(ss, .inr (19, [.int 0, .int (nI pp), .int (nI (pp + 1 + 1)), .int 1, .int 0, .ref r_15, .ref r_21, .null, .null, .null, .null, .null, .null, .int 0])), (mr 8, .inl (kL, 3002, .inr (.inl fn))), (m9, .inr (23, mA mr mv vf xl (nI zs) ff_24 xa_25 (nI T) (nI pp20) xi xt xn (nI ns) (nI (vv + 1)) (nI bb20))), (mr 5, .inl (kI, 3002, .inl fk)), (mr 6, .inl (kI, 3002, .inl fa))] : va_W) ++ (sT L20 F20)) := hD
                  replace hK : va_K (dC, dI) vwCl [(kI, .int), (kL, .long), (kE, .object RX15), (kS, .object RX19), (kB, .object RX14), (kA, .object RX13), (kV, .object RX21), (kI, .int)] s := hK
                  replace hK := hK.sub (tys' := [(kI, .int), (kL, .long), (kE, .object RX15), (kS, .object RX19), (kB, .object RX14), (kA, .object RX13), (kV, .object RX21)]) [0, 1, 2, 3, 4, 5, 6] rfl
                  clear hz1 hk1 hPc hDc hKc hFc hP1 hD1 hK1
                  refine W.grow (fun hgs0 hgs1 => ?_)
                  have hP9 := hP.subT (f' := [(ss, .inr (19, [.int 0, .int (nI pp), .int (nI (pp + 1 + 1)), .int 1, .int 0, (.ref r_15), (.ref r_21), .null, .null, .null, .null, .null, .null, .int 0])), (m9, .inr (23, mA mr mv vf xl (nI zs) ff_24 xa_25 (nI T) (nI pp20) xi xt xn (nI ns) (nI (vv + 1)) (nI bb20))), (mr 5, .inl (kI, 3002, .inl fk)), (mr 6, .inl (kI, 3002, .inl fa)), (mr 8, .inl (kL, 3002, .inr (.inl fn)))]) [0, 2, 3, 4, 1] rfl
                  have hD9 := hD.subT (f' := [(ss, .inr (19, [.int 0, .int (nI pp), .int (nI (pp + 1 + 1)), .int 1, .int 0, (.ref r_15), (.ref r_21), .null, .null, .null, .null, .null, .null, .int 0])), (m9, .inr (23, mA mr mv vf xl (nI zs) ff_24 xa_25 (nI T) (nI pp20) xi xt xn (nI ns) (nI (vv + 1)) (nI bb20))), (mr 5, .inl (kI, 3002, .inl fk)), (mr 6, .inl (kI, 3002, .inl fa)), (mr 8, .inl (kL, 3002, .inr (.inl fn)))]) [0, 2, 3, 4, 1] (by decide) rfl
                  have hK9 := hK.sub (tys' := [(kI, .int), (kL, .long), (kE, .object RX15), (kS, .object RX19), (kB, .object RX14), (kA, .object RX13), (kV, .object RX21)]) [0, 1, 2, 3, 4, 5, 6] rfl
                  refine W.widen (k := (8 * (T - pp) + 14)) (n := (120 * (T - pp) + 480)) (by omega) (by omega) ?_
                  exact W.vret hx hb hr (fun tS ht hW => ⟨⟨(), rfl, trivial, L20, F20, ff_24, xa_25, pp20, bb20, vv + 1, 1, nI (pp + 1 + 1), 1, .ref r_15, .ref r_21, (hf15_0.1).tr hf21_0.1, ⟨by omega, by omega, by omega, by omega, by omega, by omega⟩, ⟨by omega, fun q9 => absurd q9 hf26_0⟩, (fun q9 => absurd q9 hf26_0), by rw [ht]; exact ⟨by omega, by omega⟩, by rw [ht]; exact hP9, va_K.moved hW.alike hK9, hD9⟩, hS.F ht⟩) hS.2.2 dX23_let_77
              · replace hPc := hP.subF (f' := [(m9, .inr (23, mA mr mv vf xl (nI zs) ff20 xa20 (nI T) (nI pp20) xi xt xn (nI ns) (nI (vv + 1)) (nI bb20))), (mr 5, .inl (kI, 3002, .inl fk)), (mr 6, .inl (kI, 3002, .inl fa))]) [1, 2, 3] rfl
                replace hDc := hD.subF (f' := [(m9, .inr (23, mA mr mv vf xl (nI zs) ff20 xa20 (nI T) (nI pp20) xi xt xn (nI ns) (nI (vv + 1)) (nI bb20))), (mr 5, .inl (kI, 3002, .inl fk)), (mr 6, .inl (kI, 3002, .inl fa))]) [1, 2, 3] (by decide) rfl
                replace hKc := hK.sub (tys' := [(kI, .int)]) [0] rfl
                replace hFc := va_freeT (wc := [(m9, .inr (23, mA mr mv vf xl (nI zs) ff20 xa20 (nI T) (nI pp20) xi xt xn (nI ns) (nI (vv + 1)) (nI bb20))), (mr 5, .inl (kI, 3002, .inl fk)), (mr 6, .inl (kI, 3002, .inl fa))]) hD hS hA [1, 2, 3] rfl
                refine va_callv (va_runV (As := [.int 60]) (rest := []) ⟨hx, hb, hml, hown, hts⟩ (c_rtkB l dC dI m9 mr mv vf xl xa20 xi xt xn zs T pp20 ns (vv + 1) bb20 kI fk fa ff20 60 H.size hz_22) (cwV 1 hts g_c_vlt_c_rtkB_74 rfl rfl rfl (by decide +kernel) ⟨by show 1 + 1 ≤ 14 + 14 * k; omega, by show 8 + (2 + 11) + (20) ≤ 322 + 323 * k; omega⟩) ⟨fun a U g mk q => by obtain ⟨q0, q1, qP, qK, qD⟩ := q; exact ⟨q0, q1, qP, va_K.moved (u := U) (U := U.calling g mk a) (Vm.Alike.refl U.vm) qK, qD⟩, va_recv hKc hPc (ci := 23) (q0 := 0) rfl rfl, fun U hU hW => ⟨rfl, by rw [hU], by rw [hU]; exact hPc, va_K.moved hW.alike hKc, hDc.weaken (fun _ _ _ _ => trivial)⟩⟩ rfl rfl hl.1 rfl (lv_room (Nat.le_of_ble_eq_true rfl)) dX23_let_74 ⟨(show ((pp14 - (pp + 1 + 1 + 1 + 1)) + 1 + 8 * (pp20 - (pp14 + 1)) + 3) + 0 ≤ (8 * (T - pp) + 14) by omega), (show (5 * (pp14 - (pp + 1 + 1 + 1 + 1)) + 5 + 120 * (pp20 - (pp14 + 1)) + 48) + 0 ≤ (120 * (T - pp) + 480) by omega)⟩) hS (fun q _ h => hFc q h) hFc (fun u tS H1 locs ht hvm hw hB hz1 hk1 hS => ?_)
                obtain ⟨hP1, hK1, hD1⟩ := hB
                rw [ht] at hP1
                replace hK1 := va_K.moved hvm.symm hK1
                obtain ⟨hPj, hDj⟩ := va_joinT (wr := [(ss, .inr (19, [.int 0, .int (nI pp), .int (nI (pp + 1 + 1)), .int 1, .int 0, .ref r_15, .ref r_21, .null, .null, .null, .null, .null, .null, .int 0])), (mr 8, .inl (kL, 3002, .inr (.inl fn)))]) (w1 := [(m9, .inr (23, mA mr mv vf xl (nI zs) ff20 xa20 (nI T) (nI pp20) xi xt xn (nI ns) (nI (vv + 1)) (nI bb20))), (mr 5, .inl (kI, 3002, .inl fk)), (mr 6, .inl (kI, 3002, .inl fa))]) hP hD [1, 2, 3] [0, 4] rfl rfl (by decide) (by decide) hk1 hFc hP1 hD1
                replace hP := hPj
                replace hD := hDj
                clear hPj hDj
                replace hK := hK.app hK1
                generalize H1 = H at hP hS ⊢
                replace hP : va_P (dC, dI) vwCl (([(ss, .inr (19, [.int 0, .int (nI pp), .int (nI (pp + 1 + 1)), .int 1, .int 0, .ref r_15, .ref r_21, .null, .null, .null, .null, .null, .null, .int 0])), (mr 8, .inl (kL, 3002, .inr (.inl fn))), (m9, .inr (23, mA mr mv vf xl (nI zs) ff20 xa20 (nI T) (nI pp20) xi xt xn (nI ns) (nI (vv + 1)) (nI bb20))), (mr 5, .inl (kI, 3002, .inl fk)), (mr 6, .inl (kI, 3002, .inl fa))] : va_W) ++ (sT L20 F20)) H := hP
                replace hD : va_D A (([(ss, .inr (19, [.int 0, .int (nI pp), .int (nI (pp + 1 + 1)), .int 1, .int 0, .ref r_15, .ref r_21, .null, .null, .null, .null, .null, .null, .int 0])), (mr 8, .inl (kL, 3002, .inr (.inl fn))), (m9, .inr (23, mA mr mv vf xl (nI zs) ff20 xa20 (nI T) (nI pp20) xi xt xn (nI ns) (nI (vv + 1)) (nI bb20))), (mr 5, .inl (kI, 3002, .inl fk)), (mr 6, .inl (kI, 3002, .inl fa))] : va_W) ++ (sT L20 F20)) := hD
                replace hK : va_K (dC, dI) vwCl [(kI, .int), (kL, .long), (kE, .object RX15), (kS, .object RX19), (kB, .object RX14), (kA, .object RX13), (kV, .object RX21), (kI, .int)] s := hK
                replace hK := hK.sub (tys' := [(kI, .int), (kL, .long), (kE, .object RX15), (kS, .object RX19), (kB, .object RX14), (kA, .object RX13), (kV, .object RX21)]) [0, 1, 2, 3, 4, 5, 6] rfl
                clear hz1 hk1 hPc hDc hKc hFc hP1 hD1 hK1
                refine W.grow (fun hgs0 hgs1 => ?_)
                have hP9 := hP.subT (f' := [(ss, .inr (19, [.int 0, .int (nI pp), .int (nI (pp + 1 + 1)), .int 1, .int 0, (.ref r_15), (.ref r_21), .null, .null, .null, .null, .null, .null, .int 0])), (m9, .inr (23, mA mr mv vf xl (nI zs) ff20 xa20 (nI T) (nI pp20) xi xt xn (nI ns) (nI (vv + 1)) (nI bb20))), (mr 5, .inl (kI, 3002, .inl fk)), (mr 6, .inl (kI, 3002, .inl fa)), (mr 8, .inl (kL, 3002, .inr (.inl fn)))]) [0, 2, 3, 4, 1] rfl
                have hD9 := hD.subT (f' := [(ss, .inr (19, [.int 0, .int (nI pp), .int (nI (pp + 1 + 1)), .int 1, .int 0, (.ref r_15), (.ref r_21), .null, .null, .null, .null, .null, .null, .int 0])), (m9, .inr (23, mA mr mv vf xl (nI zs) ff20 xa20 (nI T) (nI pp20) xi xt xn (nI ns) (nI (vv + 1)) (nI bb20))), (mr 5, .inl (kI, 3002, .inl fk)), (mr 6, .inl (kI, 3002, .inl fa)), (mr 8, .inl (kL, 3002, .inr (.inl fn)))]) [0, 2, 3, 4, 1] (by decide) rfl
                have hK9 := hK.sub (tys' := [(kI, .int), (kL, .long), (kE, .object RX15), (kS, .object RX19), (kB, .object RX14), (kA, .object RX13), (kV, .object RX21)]) [0, 1, 2, 3, 4, 5, 6] rfl
                refine W.widen (k := (8 * (T - pp) + 14)) (n := (120 * (T - pp) + 480)) (by omega) (by omega) ?_
                exact W.vret hx hb hr (fun tS ht hW => ⟨⟨(), rfl, trivial, L20, F20, ff20, xa20, pp20, bb20, vv + 1, 1, nI (pp + 1 + 1), 1, .ref r_15, .ref r_21, (hf15_0.1).tr hf21_0.1, ⟨by omega, by omega, by omega, by omega, by omega, by omega⟩, ⟨by omega, fun q9 => absurd q9 hz_22⟩, (fun q9 => absurd q9 hz_22), by rw [ht]; exact ⟨by omega, by omega⟩, by rw [ht]; exact hP9, va_K.moved hW.alike hK9, hD9⟩, hS.F ht⟩) hS.2.2 dX23_let_77
            · replace hPc := hP.subF (f' := [(m9, .inr (23, mA mr mv vf xl (nI zs) 0 xa14 (nI T) (nI pp14) xi xt xn (nI ns) (nI (vv + 1)) (nI bb))), (mr 5, .inl (kI, 3002, .inl fk))]) [2, 3] rfl
              replace hDc := hD.subF (f' := [(m9, .inr (23, mA mr mv vf xl (nI zs) 0 xa14 (nI T) (nI pp14) xi xt xn (nI ns) (nI (vv + 1)) (nI bb))), (mr 5, .inl (kI, 3002, .inl fk))]) [2, 3] (by decide) rfl
              replace hKc := hK.sub (tys' := [(kI, .int)]) [0] rfl
              replace hFc := va_freeT (wc := [(m9, .inr (23, mA mr mv vf xl (nI zs) 0 xa14 (nI T) (nI pp14) xi xt xn (nI ns) (nI (vv + 1)) (nI bb))), (mr 5, .inl (kI, 3002, .inl fk))]) hD hS hA [2, 3] rfl
              refine va_calli (va_runV (As := [.int 54]) (rest := []) ⟨hx, hb, hml, hown, hts⟩ (c_rtsN l dC dI m9 mr mv vf xl xa14 xi xt xn zs T pp14 ns (vv + 1) bb kI fk fa 54 H.size hT hf15_2.2 hk0 (by decide) hk_17) (cwV 1 hts g_c_vlt_c_rtsN_57 rfl rfl rfl (by decide +kernel) ⟨by show 1 + 1 ≤ 14 + 14 * k; omega, by show 8 + (2 + 11) + (21) ≤ 322 + 323 * k; omega⟩) ⟨fun a U g mk q => by obtain ⟨q0, q1, qP, qK, qD⟩ := q; exact ⟨q0, q1, qP, va_K.moved (u := U) (U := U.calling g mk a) (Vm.Alike.refl U.vm) qK, qD⟩, va_recv hKc hPc (ci := 23) (q0 := 0) rfl rfl, fun U hU hW => ⟨rfl, by rw [hU], by rw [hU]; exact hPc, va_K.moved hW.alike hKc, hDc.weaken (fun _ _ _ _ => trivial)⟩⟩ rfl rfl hl.1 rfl (lv_room (Nat.le_of_ble_eq_true rfl)) dX23_let_57 ⟨(show (pp14 - (pp + 1 + 1 + 1 + 1)) + 1 + 0 ≤ (8 * (T - pp) + 14) by omega), (show 5 * (pp14 - (pp + 1 + 1 + 1 + 1)) + 5 + 0 ≤ (120 * (T - pp) + 480) by omega)⟩) hS (fun q _ h => hFc q h) hFc (fun r_18 u tS H1 locs ht hvm hw hB hz1 hk1 hS => ?_)
              obtain ⟨hP1, hK1, hD1⟩ := hB
              rw [ht] at hP1
              replace hK1 := va_K.moved hvm.symm hK1
              obtain ⟨hPj, hDj⟩ := va_joinT (wr := [(ss, .inr (19, [.int 0, .int (nI pp), .int (nI (pp + 1 + 1)), .int 1, .int 0, .ref r_15, .null, .null, .null, .null, .null, .null, .null, .int 0])), (mr 8, .inl (kL, 3002, .inr (.inl fn))), (mr 6, .inl (kI, 3002, .inl fa))]) (w1 := [(m9, .inr (23, mA mr mv vf xl (nI zs) 0 xa14 (nI T) (nI pp14) xi xt xn (nI ns) (nI (vv + 1)) (nI bb))), (mr 5, .inl (kI, 3002, .inl fk))]) hP hD [2, 3] [0, 1, 4] rfl rfl (by decide) (by decide) hk1 hFc hP1 hD1
              replace hP := hPj
              replace hD := hDj
              clear hPj hDj
              replace hK := hK.app hK1
              generalize H1 = H at hP hS ⊢
              replace hP : va_P (dC, dI) vwCl (([(ss, .inr (19, [.int 0, .int (nI pp), .int (nI (pp + 1 + 1)), .int 1, .int 0, .ref r_15, .null, .null, .null, .null, .null, .null, .null, .int 0])), (mr 8, .inl (kL, 3002, .inr (.inl fn))), (mr 6, .inl (kI, 3002, .inl fa)), (m9, .inr (23, mA mr mv vf xl (nI zs) 0 xa14 (nI T) (nI pp14) xi xt xn (nI ns) (nI (vv + 1)) (nI bb))), (mr 5, .inl (kI, 3002, .inl fk))] : va_W) ++ (sT L14 F14)) H := hP
              replace hD : va_D A (([(ss, .inr (19, [.int 0, .int (nI pp), .int (nI (pp + 1 + 1)), .int 1, .int 0, .ref r_15, .null, .null, .null, .null, .null, .null, .null, .int 0])), (mr 8, .inl (kL, 3002, .inr (.inl fn))), (mr 6, .inl (kI, 3002, .inl fa)), (m9, .inr (23, mA mr mv vf xl (nI zs) 0 xa14 (nI T) (nI pp14) xi xt xn (nI ns) (nI (vv + 1)) (nI bb))), (mr 5, .inl (kI, 3002, .inl fk))] : va_W) ++ (sT L14 F14)) := hD
              replace hK : va_K (dC, dI) vwCl [(kI, .int), (kL, .long), (kE, .object RX15), (kS, .object RX19), (kB, .object RX14), (kA, .object RX13), (kV, .object RX21), (kI, .int)] s := hK
              replace hK := hK.sub (tys' := [(kI, .int), (kL, .long), (kE, .object RX15), (kS, .object RX19), (kB, .object RX14), (kA, .object RX13), (kV, .object RX21)]) [0, 1, 2, 3, 4, 5, 6] rfl
              clear hz1 hk1 hPc hDc hKc hFc hP1 hD1 hK1
              obtain rfl : r_18 = 0 := hw
              refine lv_if_eq (tgt := 71) hx hb dX23_let_60 (by decide) (fun _ => ?_) (fun c_19 => absurd (by decide) c_19)
              refine lv_aload_n hx hb dX23_let_71 rfl (lv_at hl 0 rfl) ?_
              refine lv_bipush (v := 60) hx hb dX23_let_72 (by decide) ?_
              by_cases hk_20 : fk pp14 = 60
              · replace hPc := hP.subF (f' := [(m9, .inr (23, mA mr mv vf xl (nI zs) 0 xa14 (nI T) (nI pp14) xi xt xn (nI ns) (nI (vv + 1)) (nI bb))), (mr 5, .inl (kI, 3002, .inl fk)), (mr 6, .inl (kI, 3002, .inl fa))]) [3, 4, 2] rfl
                replace hDc := hD.subF (f' := [(m9, .inr (23, mA mr mv vf xl (nI zs) 0 xa14 (nI T) (nI pp14) xi xt xn (nI ns) (nI (vv + 1)) (nI bb))), (mr 5, .inl (kI, 3002, .inl fk)), (mr 6, .inl (kI, 3002, .inl fa))]) [3, 4, 2] (by decide) rfl
                replace hKc := hK.sub (tys' := [(kI, .int)]) [0] rfl
                replace hFc := va_freeT (wc := [(m9, .inr (23, mA mr mv vf xl (nI zs) 0 xa14 (nI T) (nI pp14) xi xt xn (nI ns) (nI (vv + 1)) (nI bb))), (mr 5, .inl (kI, 3002, .inl fk)), (mr 6, .inl (kI, 3002, .inl fa))]) hD hS hA [3, 4, 2] rfl
                refine va_callv (va_runV (As := [.int 60]) (rest := []) ⟨hx, hb, hml, hown, hts⟩ (c_rtkY l dC dI m9 mr mv vf xl xa14 xi xt xn zs T pp14 ns (vv + 1) bb kI fk fa 60 H.size hT hf15_2.2 hk0 (by decide) hk_20) (cwV 1 hts g_c_vlt_c_rtkY_74 rfl rfl rfl (by decide +kernel) ⟨by show 1 + 1 ≤ 14 + 14 * k; omega, by show 8 + (2 + 11) + (21) ≤ 322 + 323 * k; omega⟩) ⟨fun a U g mk q => by obtain ⟨q0, q1, qP, qK, qD⟩ := q; exact ⟨q0, q1, qP, va_K.moved (u := U) (U := U.calling g mk a) (Vm.Alike.refl U.vm) qK, qD⟩, va_recv hKc hPc (ci := 23) (q0 := 0) rfl rfl, fun U hU hW => ⟨rfl, by rw [hU], by rw [hU]; exact hPc, va_K.moved hW.alike hKc, hDc.weaken (fun _ _ _ _ => trivial)⟩⟩ rfl rfl hl.1 rfl (lv_room (Nat.le_of_ble_eq_true rfl)) dX23_let_74 ⟨(show (pp14 - (pp + 1 + 1 + 1 + 1)) + 1 + 0 ≤ (8 * (T - pp) + 14) by omega), (show 5 * (pp14 - (pp + 1 + 1 + 1 + 1)) + 5 + 0 ≤ (120 * (T - pp) + 480) by omega)⟩) hS (fun q _ h => hFc q h) hFc (fun u tS H1 locs ht hvm hw hB hz1 hk1 hS => ?_)
                obtain ⟨hP1, hK1, hD1⟩ := hB
                rw [ht] at hP1
                replace hK1 := va_K.moved hvm.symm hK1
                obtain ⟨hPj, hDj⟩ := va_joinT (wr := [(ss, .inr (19, [.int 0, .int (nI pp), .int (nI (pp + 1 + 1)), .int 1, .int 0, .ref r_15, .null, .null, .null, .null, .null, .null, .null, .int 0])), (mr 8, .inl (kL, 3002, .inr (.inl fn)))]) (w1 := [(m9, .inr (23, mA mr mv vf xl (nI zs) 0 xa14 (nI T) (nI (pp14 + 1)) xi xt xn (nI ns) (nI (vv + 1)) (nI bb))), (mr 5, .inl (kI, 3002, .inl fk)), (mr 6, .inl (kI, 3002, .inl fa))]) hP hD [3, 4, 2] [0, 1] rfl rfl (by decide) (by decide) hk1 hFc hP1 hD1
                replace hP := hPj
                replace hD := hDj
                clear hPj hDj
                replace hK := hK.app hK1
                generalize H1 = H at hP hS ⊢
                replace hP : va_P (dC, dI) vwCl (([(ss, .inr (19, [.int 0, .int (nI pp), .int (nI (pp + 1 + 1)), .int 1, .int 0, .ref r_15, .null, .null, .null, .null, .null, .null, .null, .int 0])), (mr 8, .inl (kL, 3002, .inr (.inl fn))), (m9, .inr (23, mA mr mv vf xl (nI zs) 0 xa14 (nI T) (nI (pp14 + 1)) xi xt xn (nI ns) (nI (vv + 1)) (nI bb))), (mr 5, .inl (kI, 3002, .inl fk)), (mr 6, .inl (kI, 3002, .inl fa))] : va_W) ++ (sT L14 F14)) H := hP
                replace hD : va_D A (([(ss, .inr (19, [.int 0, .int (nI pp), .int (nI (pp + 1 + 1)), .int 1, .int 0, .ref r_15, .null, .null, .null, .null, .null, .null, .null, .int 0])), (mr 8, .inl (kL, 3002, .inr (.inl fn))), (m9, .inr (23, mA mr mv vf xl (nI zs) 0 xa14 (nI T) (nI (pp14 + 1)) xi xt xn (nI ns) (nI (vv + 1)) (nI bb))), (mr 5, .inl (kI, 3002, .inl fk)), (mr 6, .inl (kI, 3002, .inl fa))] : va_W) ++ (sT L14 F14)) := hD
                replace hK : va_K (dC, dI) vwCl [(kI, .int), (kL, .long), (kE, .object RX15), (kS, .object RX19), (kB, .object RX14), (kA, .object RX13), (kV, .object RX21), (kI, .int)] s := hK
                replace hK := hK.sub (tys' := [(kI, .int), (kL, .long), (kE, .object RX15), (kS, .object RX19), (kB, .object RX14), (kA, .object RX13), (kV, .object RX21)]) [0, 1, 2, 3, 4, 5, 6] rfl
                clear hz1 hk1 hPc hDc hKc hFc hP1 hD1 hK1
                have hp_22 : pp14 + 1 < T := kne3 hk0 hf15_2.2 hk_20 (by decide)
                refine W.grow (fun hgs0 hgs1 => ?_)
                have hP9 := hP.subT (f' := [(ss, .inr (19, [.int 0, .int (nI pp), .int (nI (pp + 1 + 1)), .int 1, .int 0, (.ref r_15), .null, .null, .null, .null, .null, .null, .null, .int 0])), (m9, .inr (23, mA mr mv vf xl (nI zs) 0 xa14 (nI T) (nI (pp14 + 1)) xi xt xn (nI ns) (nI (vv + 1)) (nI bb))), (mr 5, .inl (kI, 3002, .inl fk)), (mr 6, .inl (kI, 3002, .inl fa)), (mr 8, .inl (kL, 3002, .inr (.inl fn)))]) [0, 2, 3, 4, 1] rfl
                have hD9 := hD.subT (f' := [(ss, .inr (19, [.int 0, .int (nI pp), .int (nI (pp + 1 + 1)), .int 1, .int 0, (.ref r_15), .null, .null, .null, .null, .null, .null, .null, .int 0])), (m9, .inr (23, mA mr mv vf xl (nI zs) 0 xa14 (nI T) (nI (pp14 + 1)) xi xt xn (nI ns) (nI (vv + 1)) (nI bb))), (mr 5, .inl (kI, 3002, .inl fk)), (mr 6, .inl (kI, 3002, .inl fa)), (mr 8, .inl (kL, 3002, .inr (.inl fn)))]) [0, 2, 3, 4, 1] (by decide) rfl
                have hK9 := hK.sub (tys' := [(kI, .int), (kL, .long), (kE, .object RX15), (kS, .object RX19), (kB, .object RX14), (kA, .object RX13), (kV, .object RX21)]) [0, 1, 2, 3, 4, 5, 6] rfl
                refine W.widen (k := (8 * (T - pp) + 14)) (n := (120 * (T - pp) + 480)) (by omega) (by omega) ?_
                exact W.vret hx hb hr (fun tS ht hW => ⟨⟨(), rfl, trivial, L14, F14, 0, xa14, pp14 + 1, bb, vv + 1, 0, nI (pp + 1 + 1), 1, .ref r_15, .null, hf15_0.1, ⟨by omega, by omega, by omega, by omega, by omega, by omega⟩, ⟨by omega, fun _ => rfl⟩, (fun _ => ⟨hbb, by omega, by omega, fun aZ LZ FZ hxZ haZ hFZ => ⟨haZ, by omega, Or.inl ⟨pp + 1 + 1, _, _, _, hFZ, by omega, by omega, Or.inr rfl, rfl, Or.inr ⟨r_15, pp + 1 + 1 + 1 + 1, pp14, rfl, by omega, by omega, isT_ex hxZ (isT_le (isT_ex exS.rf (hf15_3 rfl)) (by omega))⟩, Or.inl ⟨rfl, rfl⟩⟩⟩⟩), by rw [ht]; exact ⟨by omega, by omega⟩, by rw [ht]; exact hP9, va_K.moved hW.alike hK9, hD9⟩, hS.F ht⟩) hS.2.2 dX23_let_77
              · replace hPc := hP.subF (f' := [(m9, .inr (23, mA mr mv vf xl (nI zs) 0 xa14 (nI T) (nI pp14) xi xt xn (nI ns) (nI (vv + 1)) (nI bb))), (mr 5, .inl (kI, 3002, .inl fk)), (mr 6, .inl (kI, 3002, .inl fa))]) [3, 4, 2] rfl
                replace hDc := hD.subF (f' := [(m9, .inr (23, mA mr mv vf xl (nI zs) 0 xa14 (nI T) (nI pp14) xi xt xn (nI ns) (nI (vv + 1)) (nI bb))), (mr 5, .inl (kI, 3002, .inl fk)), (mr 6, .inl (kI, 3002, .inl fa))]) [3, 4, 2] (by decide) rfl
                replace hKc := hK.sub (tys' := [(kI, .int)]) [0] rfl
                replace hFc := va_freeT (wc := [(m9, .inr (23, mA mr mv vf xl (nI zs) 0 xa14 (nI T) (nI pp14) xi xt xn (nI ns) (nI (vv + 1)) (nI bb))), (mr 5, .inl (kI, 3002, .inl fk)), (mr 6, .inl (kI, 3002, .inl fa))]) hD hS hA [3, 4, 2] rfl
                refine va_callv (va_runV (As := [.int 60]) (rest := []) ⟨hx, hb, hml, hown, hts⟩ (c_rtkN l dC dI m9 mr mv vf xl xa14 xi xt xn zs T pp14 ns (vv + 1) bb kI fk fa 60 H.size hT hf15_2.2 hk0 (by decide) hk_20) (cwV 1 hts g_c_vlt_c_rtkN_74 rfl rfl rfl (by decide +kernel) ⟨by show 1 + 1 ≤ 14 + 14 * k; omega, by show 8 + (2 + 11) + (22) ≤ 322 + 323 * k; omega⟩) ⟨fun a U g mk q => by obtain ⟨q0, q1, qP, qK, qD⟩ := q; exact ⟨q0, q1, qP, va_K.moved (u := U) (U := U.calling g mk a) (Vm.Alike.refl U.vm) qK, qD⟩, va_recv hKc hPc (ci := 23) (q0 := 0) rfl rfl, fun U hU hW => ⟨rfl, by rw [hU], by rw [hU]; exact hPc, va_K.moved hW.alike hKc, hDc.weaken (fun _ _ _ _ => trivial)⟩⟩ rfl rfl hl.1 rfl (lv_room (Nat.le_of_ble_eq_true rfl)) dX23_let_74 ⟨(show (pp14 - (pp + 1 + 1 + 1 + 1)) + 1 + 0 ≤ (8 * (T - pp) + 14) by omega), (show 5 * (pp14 - (pp + 1 + 1 + 1 + 1)) + 5 + 0 ≤ (120 * (T - pp) + 480) by omega)⟩) hS (fun q _ h => hFc q h) hFc (fun u tS H1 locs ht hvm hw hB hz1 hk1 hS => ?_)
                obtain ⟨ff_21, xa_22, hf23_0, hP1, hK1, hD1⟩ := hB
                rw [ht] at hP1
                replace hK1 := va_K.moved hvm.symm hK1
                obtain ⟨hPj, hDj⟩ := va_joinT (wr := [(ss, .inr (19, [.int 0, .int (nI pp), .int (nI (pp + 1 + 1)), .int 1, .int 0, .ref r_15, .null, .null, .null, .null, .null, .null, .null, .int 0])), (mr 8, .inl (kL, 3002, .inr (.inl fn)))]) (w1 := [(m9, .inr (23, mA mr mv vf xl (nI zs) ff_21 xa_22 (nI T) (nI pp14) xi xt xn (nI ns) (nI (vv + 1)) (nI bb))), (mr 5, .inl (kI, 3002, .inl fk)), (mr 6, .inl (kI, 3002, .inl fa))]) hP hD [3, 4, 2] [0, 1] rfl rfl (by decide) (by decide) hk1 hFc hP1 hD1
                replace hP := hPj
                replace hD := hDj
                clear hPj hDj
                replace hK := hK.app hK1
                generalize H1 = H at hP hS ⊢
                replace hP : va_P (dC, dI) vwCl (([(ss, .inr (19, [.int 0, .int (nI pp), .int (nI (pp + 1 + 1)), .int 1, .int 0, .ref r_15, .null, .null, .null, .null, .null, .null, .null, .int 0])), (mr 8, .inl (kL, 3002, .inr (.inl fn))), (m9, .inr (23, mA mr mv vf xl (nI zs) ff_21 xa_22 (nI T) (nI pp14) xi xt xn (nI ns) (nI (vv + 1)) (nI bb))), (mr 5, .inl (kI, 3002, .inl fk)), (mr 6, .inl (kI, 3002, .inl fa))] : va_W) ++ (sT L14 F14)) H := hP
                replace hD : va_D A (([(ss, .inr (19, [.int 0, .int (nI pp), .int (nI (pp + 1 + 1)), .int 1, .int 0, .ref r_15, .null, .null, .null, .null, .null, .null, .null, .int 0])), (mr 8, .inl (kL, 3002, .inr (.inl fn))), (m9, .inr (23, mA mr mv vf xl (nI zs) ff_21 xa_22 (nI T) (nI pp14) xi xt xn (nI ns) (nI (vv + 1)) (nI bb))), (mr 5, .inl (kI, 3002, .inl fk)), (mr 6, .inl (kI, 3002, .inl fa))] : va_W) ++ (sT L14 F14)) := hD
                replace hK : va_K (dC, dI) vwCl [(kI, .int), (kL, .long), (kE, .object RX15), (kS, .object RX19), (kB, .object RX14), (kA, .object RX13), (kV, .object RX21), (kI, .int)] s := hK
                replace hK := hK.sub (tys' := [(kI, .int), (kL, .long), (kE, .object RX15), (kS, .object RX19), (kB, .object RX14), (kA, .object RX13), (kV, .object RX21)]) [0, 1, 2, 3, 4, 5, 6] rfl
                clear hz1 hk1 hPc hDc hKc hFc hP1 hD1 hK1
                refine W.grow (fun hgs0 hgs1 => ?_)
                have hP9 := hP.subT (f' := [(ss, .inr (19, [.int 0, .int (nI pp), .int (nI (pp + 1 + 1)), .int 1, .int 0, (.ref r_15), .null, .null, .null, .null, .null, .null, .null, .int 0])), (m9, .inr (23, mA mr mv vf xl (nI zs) ff_21 xa_22 (nI T) (nI pp14) xi xt xn (nI ns) (nI (vv + 1)) (nI bb))), (mr 5, .inl (kI, 3002, .inl fk)), (mr 6, .inl (kI, 3002, .inl fa)), (mr 8, .inl (kL, 3002, .inr (.inl fn)))]) [0, 2, 3, 4, 1] rfl
                have hD9 := hD.subT (f' := [(ss, .inr (19, [.int 0, .int (nI pp), .int (nI (pp + 1 + 1)), .int 1, .int 0, (.ref r_15), .null, .null, .null, .null, .null, .null, .null, .int 0])), (m9, .inr (23, mA mr mv vf xl (nI zs) ff_21 xa_22 (nI T) (nI pp14) xi xt xn (nI ns) (nI (vv + 1)) (nI bb))), (mr 5, .inl (kI, 3002, .inl fk)), (mr 6, .inl (kI, 3002, .inl fa)), (mr 8, .inl (kL, 3002, .inr (.inl fn)))]) [0, 2, 3, 4, 1] (by decide) rfl
                have hK9 := hK.sub (tys' := [(kI, .int), (kL, .long), (kE, .object RX15), (kS, .object RX19), (kB, .object RX14), (kA, .object RX13), (kV, .object RX21)]) [0, 1, 2, 3, 4, 5, 6] rfl
                refine W.widen (k := (8 * (T - pp) + 14)) (n := (120 * (T - pp) + 480)) (by omega) (by omega) ?_
                exact W.vret hx hb hr (fun tS ht hW => ⟨⟨(), rfl, trivial, L14, F14, ff_21, xa_22, pp14, bb, vv + 1, 1, nI (pp + 1 + 1), 1, .ref r_15, .null, hf15_0.1, ⟨by omega, by omega, by omega, by omega, by omega, by omega⟩, ⟨by omega, fun q9 => absurd q9 hf23_0⟩, (fun q9 => absurd q9 hf23_0), by rw [ht]; exact ⟨by omega, by omega⟩, by rw [ht]; exact hP9, va_K.moved hW.alike hK9, hD9⟩, hS.F ht⟩) hS.2.2 dX23_let_77
          · replace hPc := hP.subF (f' := [(m9, .inr (23, mA mr mv vf xl (nI zs) ff14 xa14 (nI T) (nI pp14) xi xt xn (nI ns) (nI (vv + 1)) (nI bb))), (mr 5, .inl (kI, 3002, .inl fk))]) [2, 3] rfl
            replace hDc := hD.subF (f' := [(m9, .inr (23, mA mr mv vf xl (nI zs) ff14 xa14 (nI T) (nI pp14) xi xt xn (nI ns) (nI (vv + 1)) (nI bb))), (mr 5, .inl (kI, 3002, .inl fk))]) [2, 3] (by decide) rfl
            replace hKc := hK.sub (tys' := [(kI, .int)]) [0] rfl
            replace hFc := va_freeT (wc := [(m9, .inr (23, mA mr mv vf xl (nI zs) ff14 xa14 (nI T) (nI pp14) xi xt xn (nI ns) (nI (vv + 1)) (nI bb))), (mr 5, .inl (kI, 3002, .inl fk))]) hD hS hA [2, 3] rfl
            refine va_calli (va_runV (As := [.int 54]) (rest := []) ⟨hx, hb, hml, hown, hts⟩ (c_rtsB l dC dI m9 mr mv vf xl xa14 xi xt xn zs T pp14 ns (vv + 1) bb kI fk fa ff14 54 H.size hz_16) (cwV 1 hts g_c_vlt_c_rtsB_57 rfl rfl rfl (by decide +kernel) ⟨by show 1 + 1 ≤ 14 + 14 * k; omega, by show 8 + (2 + 11) + (20) ≤ 322 + 323 * k; omega⟩) ⟨fun a U g mk q => by obtain ⟨q0, q1, qP, qK, qD⟩ := q; exact ⟨q0, q1, qP, va_K.moved (u := U) (U := U.calling g mk a) (Vm.Alike.refl U.vm) qK, qD⟩, va_recv hKc hPc (ci := 23) (q0 := 0) rfl rfl, fun U hU hW => ⟨rfl, by rw [hU], by rw [hU]; exact hPc, va_K.moved hW.alike hKc, hDc.weaken (fun _ _ _ _ => trivial)⟩⟩ rfl rfl hl.1 rfl (lv_room (Nat.le_of_ble_eq_true rfl)) dX23_let_57 ⟨(show (pp14 - (pp + 1 + 1 + 1 + 1)) + 1 + 0 ≤ (8 * (T - pp) + 14) by omega), (show 5 * (pp14 - (pp + 1 + 1 + 1 + 1)) + 5 + 0 ≤ (120 * (T - pp) + 480) by omega)⟩) hS (fun q _ h => hFc q h) hFc (fun r_17 u tS H1 locs ht hvm hw hB hz1 hk1 hS => ?_)
            obtain ⟨hP1, hK1, hD1⟩ := hB
            rw [ht] at hP1
            replace hK1 := va_K.moved hvm.symm hK1
            obtain ⟨hPj, hDj⟩ := va_joinT (wr := [(ss, .inr (19, [.int 0, .int (nI pp), .int (nI (pp + 1 + 1)), .int 1, .int 0, .ref r_15, .null, .null, .null, .null, .null, .null, .null, .int 0])), (mr 8, .inl (kL, 3002, .inr (.inl fn))), (mr 6, .inl (kI, 3002, .inl fa))]) (w1 := [(m9, .inr (23, mA mr mv vf xl (nI zs) ff14 xa14 (nI T) (nI pp14) xi xt xn (nI ns) (nI (vv + 1)) (nI bb))), (mr 5, .inl (kI, 3002, .inl fk))]) hP hD [2, 3] [0, 1, 4] rfl rfl (by decide) (by decide) hk1 hFc hP1 hD1
            replace hP := hPj
            replace hD := hDj
            clear hPj hDj
            replace hK := hK.app hK1
            generalize H1 = H at hP hS ⊢
            replace hP : va_P (dC, dI) vwCl (([(ss, .inr (19, [.int 0, .int (nI pp), .int (nI (pp + 1 + 1)), .int 1, .int 0, .ref r_15, .null, .null, .null, .null, .null, .null, .null, .int 0])), (mr 8, .inl (kL, 3002, .inr (.inl fn))), (mr 6, .inl (kI, 3002, .inl fa)), (m9, .inr (23, mA mr mv vf xl (nI zs) ff14 xa14 (nI T) (nI pp14) xi xt xn (nI ns) (nI (vv + 1)) (nI bb))), (mr 5, .inl (kI, 3002, .inl fk))] : va_W) ++ (sT L14 F14)) H := hP
            replace hD : va_D A (([(ss, .inr (19, [.int 0, .int (nI pp), .int (nI (pp + 1 + 1)), .int 1, .int 0, .ref r_15, .null, .null, .null, .null, .null, .null, .null, .int 0])), (mr 8, .inl (kL, 3002, .inr (.inl fn))), (mr 6, .inl (kI, 3002, .inl fa)), (m9, .inr (23, mA mr mv vf xl (nI zs) ff14 xa14 (nI T) (nI pp14) xi xt xn (nI ns) (nI (vv + 1)) (nI bb))), (mr 5, .inl (kI, 3002, .inl fk))] : va_W) ++ (sT L14 F14)) := hD
            replace hK : va_K (dC, dI) vwCl [(kI, .int), (kL, .long), (kE, .object RX15), (kS, .object RX19), (kB, .object RX14), (kA, .object RX13), (kV, .object RX21), (kI, .int)] s := hK
            replace hK := hK.sub (tys' := [(kI, .int), (kL, .long), (kE, .object RX15), (kS, .object RX19), (kB, .object RX14), (kA, .object RX13), (kV, .object RX21)]) [0, 1, 2, 3, 4, 5, 6] rfl
            clear hz1 hk1 hPc hDc hKc hFc hP1 hD1 hK1
            obtain rfl : r_17 = 0 := hw
            refine lv_if_eq (tgt := 71) hx hb dX23_let_60 (by decide) (fun _ => ?_) (fun c_18 => absurd (by decide) c_18)
            refine lv_aload_n hx hb dX23_let_71 rfl (lv_at hl 0 rfl) ?_
            refine lv_bipush (v := 60) hx hb dX23_let_72 (by decide) ?_
            replace hPc := hP.subF (f' := [(m9, .inr (23, mA mr mv vf xl (nI zs) ff14 xa14 (nI T) (nI pp14) xi xt xn (nI ns) (nI (vv + 1)) (nI bb))), (mr 5, .inl (kI, 3002, .inl fk)), (mr 6, .inl (kI, 3002, .inl fa))]) [3, 4, 2] rfl
            replace hDc := hD.subF (f' := [(m9, .inr (23, mA mr mv vf xl (nI zs) ff14 xa14 (nI T) (nI pp14) xi xt xn (nI ns) (nI (vv + 1)) (nI bb))), (mr 5, .inl (kI, 3002, .inl fk)), (mr 6, .inl (kI, 3002, .inl fa))]) [3, 4, 2] (by decide) rfl
            replace hKc := hK.sub (tys' := [(kI, .int)]) [0] rfl
            replace hFc := va_freeT (wc := [(m9, .inr (23, mA mr mv vf xl (nI zs) ff14 xa14 (nI T) (nI pp14) xi xt xn (nI ns) (nI (vv + 1)) (nI bb))), (mr 5, .inl (kI, 3002, .inl fk)), (mr 6, .inl (kI, 3002, .inl fa))]) hD hS hA [3, 4, 2] rfl
            refine va_callv (va_runV (As := [.int 60]) (rest := []) ⟨hx, hb, hml, hown, hts⟩ (c_rtkB l dC dI m9 mr mv vf xl xa14 xi xt xn zs T pp14 ns (vv + 1) bb kI fk fa ff14 60 H.size hz_16) (cwV 1 hts g_c_vlt_c_rtkB_74 rfl rfl rfl (by decide +kernel) ⟨by show 1 + 1 ≤ 14 + 14 * k; omega, by show 8 + (2 + 11) + (20) ≤ 322 + 323 * k; omega⟩) ⟨fun a U g mk q => by obtain ⟨q0, q1, qP, qK, qD⟩ := q; exact ⟨q0, q1, qP, va_K.moved (u := U) (U := U.calling g mk a) (Vm.Alike.refl U.vm) qK, qD⟩, va_recv hKc hPc (ci := 23) (q0 := 0) rfl rfl, fun U hU hW => ⟨rfl, by rw [hU], by rw [hU]; exact hPc, va_K.moved hW.alike hKc, hDc.weaken (fun _ _ _ _ => trivial)⟩⟩ rfl rfl hl.1 rfl (lv_room (Nat.le_of_ble_eq_true rfl)) dX23_let_74 ⟨(show (pp14 - (pp + 1 + 1 + 1 + 1)) + 1 + 0 ≤ (8 * (T - pp) + 14) by omega), (show 5 * (pp14 - (pp + 1 + 1 + 1 + 1)) + 5 + 0 ≤ (120 * (T - pp) + 480) by omega)⟩) hS (fun q _ h => hFc q h) hFc (fun u tS H1 locs ht hvm hw hB hz1 hk1 hS => ?_)
            obtain ⟨hP1, hK1, hD1⟩ := hB
            rw [ht] at hP1
            replace hK1 := va_K.moved hvm.symm hK1
            obtain ⟨hPj, hDj⟩ := va_joinT (wr := [(ss, .inr (19, [.int 0, .int (nI pp), .int (nI (pp + 1 + 1)), .int 1, .int 0, .ref r_15, .null, .null, .null, .null, .null, .null, .null, .int 0])), (mr 8, .inl (kL, 3002, .inr (.inl fn)))]) (w1 := [(m9, .inr (23, mA mr mv vf xl (nI zs) ff14 xa14 (nI T) (nI pp14) xi xt xn (nI ns) (nI (vv + 1)) (nI bb))), (mr 5, .inl (kI, 3002, .inl fk)), (mr 6, .inl (kI, 3002, .inl fa))]) hP hD [3, 4, 2] [0, 1] rfl rfl (by decide) (by decide) hk1 hFc hP1 hD1
            replace hP := hPj
            replace hD := hDj
            clear hPj hDj
            replace hK := hK.app hK1
            generalize H1 = H at hP hS ⊢
            replace hP : va_P (dC, dI) vwCl (([(ss, .inr (19, [.int 0, .int (nI pp), .int (nI (pp + 1 + 1)), .int 1, .int 0, .ref r_15, .null, .null, .null, .null, .null, .null, .null, .int 0])), (mr 8, .inl (kL, 3002, .inr (.inl fn))), (m9, .inr (23, mA mr mv vf xl (nI zs) ff14 xa14 (nI T) (nI pp14) xi xt xn (nI ns) (nI (vv + 1)) (nI bb))), (mr 5, .inl (kI, 3002, .inl fk)), (mr 6, .inl (kI, 3002, .inl fa))] : va_W) ++ (sT L14 F14)) H := hP
            replace hD : va_D A (([(ss, .inr (19, [.int 0, .int (nI pp), .int (nI (pp + 1 + 1)), .int 1, .int 0, .ref r_15, .null, .null, .null, .null, .null, .null, .null, .int 0])), (mr 8, .inl (kL, 3002, .inr (.inl fn))), (m9, .inr (23, mA mr mv vf xl (nI zs) ff14 xa14 (nI T) (nI pp14) xi xt xn (nI ns) (nI (vv + 1)) (nI bb))), (mr 5, .inl (kI, 3002, .inl fk)), (mr 6, .inl (kI, 3002, .inl fa))] : va_W) ++ (sT L14 F14)) := hD
            replace hK : va_K (dC, dI) vwCl [(kI, .int), (kL, .long), (kE, .object RX15), (kS, .object RX19), (kB, .object RX14), (kA, .object RX13), (kV, .object RX21), (kI, .int)] s := hK
            replace hK := hK.sub (tys' := [(kI, .int), (kL, .long), (kE, .object RX15), (kS, .object RX19), (kB, .object RX14), (kA, .object RX13), (kV, .object RX21)]) [0, 1, 2, 3, 4, 5, 6] rfl
            clear hz1 hk1 hPc hDc hKc hFc hP1 hD1 hK1
            refine W.grow (fun hgs0 hgs1 => ?_)
            have hP9 := hP.subT (f' := [(ss, .inr (19, [.int 0, .int (nI pp), .int (nI (pp + 1 + 1)), .int 1, .int 0, (.ref r_15), .null, .null, .null, .null, .null, .null, .null, .int 0])), (m9, .inr (23, mA mr mv vf xl (nI zs) ff14 xa14 (nI T) (nI pp14) xi xt xn (nI ns) (nI (vv + 1)) (nI bb))), (mr 5, .inl (kI, 3002, .inl fk)), (mr 6, .inl (kI, 3002, .inl fa)), (mr 8, .inl (kL, 3002, .inr (.inl fn)))]) [0, 2, 3, 4, 1] rfl
            have hD9 := hD.subT (f' := [(ss, .inr (19, [.int 0, .int (nI pp), .int (nI (pp + 1 + 1)), .int 1, .int 0, (.ref r_15), .null, .null, .null, .null, .null, .null, .null, .int 0])), (m9, .inr (23, mA mr mv vf xl (nI zs) ff14 xa14 (nI T) (nI pp14) xi xt xn (nI ns) (nI (vv + 1)) (nI bb))), (mr 5, .inl (kI, 3002, .inl fk)), (mr 6, .inl (kI, 3002, .inl fa)), (mr 8, .inl (kL, 3002, .inr (.inl fn)))]) [0, 2, 3, 4, 1] (by decide) rfl
            have hK9 := hK.sub (tys' := [(kI, .int), (kL, .long), (kE, .object RX15), (kS, .object RX19), (kB, .object RX14), (kA, .object RX13), (kV, .object RX21)]) [0, 1, 2, 3, 4, 5, 6] rfl
            refine W.widen (k := (8 * (T - pp) + 14)) (n := (120 * (T - pp) + 480)) (by omega) (by omega) ?_
            exact W.vret hx hb hr (fun tS ht hW => ⟨⟨(), rfl, trivial, L14, F14, ff14, xa14, pp14, bb, vv + 1, 1, nI (pp + 1 + 1), 1, .ref r_15, .null, hf15_0.1, ⟨by omega, by omega, by omega, by omega, by omega, by omega⟩, ⟨by omega, fun q9 => absurd q9 hz_16⟩, (fun q9 => absurd q9 hz_16), by rw [ht]; exact ⟨by omega, by omega⟩, by rw [ht]; exact hP9, va_K.moved hW.alike hK9, hD9⟩, hS.F ht⟩) hS.2.2 dX23_let_77
        · replace hPc := hP.subF (f' := [(m9, .inr (23, mA mr mv vf xl (nI zs) 0 xa (nI T) (nI (pp + 1 + 1 + 1)) xi xt xn (nI ns) (nI (vv + 1)) (nI bb))), (mr 5, .inl (kI, 3002, .inl fk))]) [2, 3] rfl
          replace hDc := hD.subF (f' := [(m9, .inr (23, mA mr mv vf xl (nI zs) 0 xa (nI T) (nI (pp + 1 + 1 + 1)) xi xt xn (nI ns) (nI (vv + 1)) (nI bb))), (mr 5, .inl (kI, 3002, .inl fk))]) [2, 3] (by decide) rfl
          replace hKc := hK.sub (tys' := [(kI, .int)]) [0] rfl
          replace hFc := va_freeT (wc := [(m9, .inr (23, mA mr mv vf xl (nI zs) 0 xa (nI T) (nI (pp + 1 + 1 + 1)) xi xt xn (nI ns) (nI (vv + 1)) (nI bb))), (mr 5, .inl (kI, 3002, .inl fk))]) hD hS hA [2, 3] rfl
          refine va_calli (va_runV (As := [.int 58]) (rest := []) ⟨hx, hb, hml, hown, hts⟩ (c_rtsN l dC dI m9 mr mv vf xl xa xi xt xn zs T (pp + 1 + 1 + 1) ns (vv + 1) bb kI fk fa 58 H.size hT hp_10 hk0 (by decide) hk_11) (cwV 1 hts g_c_vlt_c_rtsN_40 rfl rfl rfl (by decide +kernel) ⟨by show 1 + 1 ≤ 14 + 14 * k; omega, by show 8 + (2 + 11) + (21) ≤ 322 + 323 * k; omega⟩) ⟨fun a U g mk q => by obtain ⟨q0, q1, qP, qK, qD⟩ := q; exact ⟨q0, q1, qP, va_K.moved (u := U) (U := U.calling g mk a) (Vm.Alike.refl U.vm) qK, qD⟩, va_recv hKc hPc (ci := 23) (q0 := 0) rfl rfl, fun U hU hW => ⟨rfl, by rw [hU], by rw [hU]; exact hPc, va_K.moved hW.alike hKc, hDc.weaken (fun _ _ _ _ => trivial)⟩⟩ rfl rfl hl.1 rfl (lv_room (Nat.le_of_ble_eq_true rfl)) dX23_let_40 ⟨(show 0 + 0 ≤ (8 * (T - pp) + 14) by omega), (show 0 + 0 ≤ (120 * (T - pp) + 480) by omega)⟩) hS (fun q _ h => hFc q h) hFc (fun r_12 u tS H1 locs ht hvm hw hB hz1 hk1 hS => ?_)
          obtain ⟨hP1, hK1, hD1⟩ := hB
          rw [ht] at hP1
          replace hK1 := va_K.moved hvm.symm hK1
          obtain ⟨hPj, hDj⟩ := va_joinT (wr := [(ss, .inr (19, [.int 0, .int (nI pp), .int (nI (pp + 1 + 1)), .int 1, .int 0, .null, .null, .null, .null, .null, .null, .null, .null, .int 0])), (mr 8, .inl (kL, 3002, .inr (.inl fn))), (mr 6, .inl (kI, 3002, .inl fa))]) (w1 := [(m9, .inr (23, mA mr mv vf xl (nI zs) 0 xa (nI T) (nI (pp + 1 + 1 + 1)) xi xt xn (nI ns) (nI (vv + 1)) (nI bb))), (mr 5, .inl (kI, 3002, .inl fk))]) hP hD [2, 3] [0, 1, 4] rfl rfl (by decide) (by decide) hk1 hFc hP1 hD1
          replace hP := hPj
          replace hD := hDj
          clear hPj hDj
          replace hK := hK.app hK1
          generalize H1 = H at hP hS ⊢
          replace hP : va_P (dC, dI) vwCl (([(ss, .inr (19, [.int 0, .int (nI pp), .int (nI (pp + 1 + 1)), .int 1, .int 0, .null, .null, .null, .null, .null, .null, .null, .null, .int 0])), (mr 8, .inl (kL, 3002, .inr (.inl fn))), (mr 6, .inl (kI, 3002, .inl fa)), (m9, .inr (23, mA mr mv vf xl (nI zs) 0 xa (nI T) (nI (pp + 1 + 1 + 1)) xi xt xn (nI ns) (nI (vv + 1)) (nI bb))), (mr 5, .inl (kI, 3002, .inl fk))] : va_W) ++ (sT L F)) H := hP
          replace hD : va_D A (([(ss, .inr (19, [.int 0, .int (nI pp), .int (nI (pp + 1 + 1)), .int 1, .int 0, .null, .null, .null, .null, .null, .null, .null, .null, .int 0])), (mr 8, .inl (kL, 3002, .inr (.inl fn))), (mr 6, .inl (kI, 3002, .inl fa)), (m9, .inr (23, mA mr mv vf xl (nI zs) 0 xa (nI T) (nI (pp + 1 + 1 + 1)) xi xt xn (nI ns) (nI (vv + 1)) (nI bb))), (mr 5, .inl (kI, 3002, .inl fk))] : va_W) ++ (sT L F)) := hD
          replace hK : va_K (dC, dI) vwCl [(kI, .int), (kL, .long), (kE, .object RX15), (kS, .object RX19), (kB, .object RX14), (kA, .object RX13), (kV, .object RX21), (kI, .int)] s := hK
          replace hK := hK.sub (tys' := [(kI, .int), (kL, .long), (kE, .object RX15), (kS, .object RX19), (kB, .object RX14), (kA, .object RX13), (kV, .object RX21)]) [0, 1, 2, 3, 4, 5, 6] rfl
          clear hz1 hk1 hPc hDc hKc hFc hP1 hD1 hK1
          obtain rfl : r_12 = 0 := hw
          refine lv_if_eq (tgt := 54) hx hb dX23_let_43 (by decide) (fun _ => ?_) (fun c_13 => absurd (by decide) c_13)
          refine lv_aload_n hx hb dX23_let_54 rfl (lv_at hl 0 rfl) ?_
          refine lv_bipush (v := 54) hx hb dX23_let_55 (by decide) ?_
          by_cases hk_14 : fk (pp + 1 + 1 + 1) = 54
          · replace hPc := hP.subF (f' := [(m9, .inr (23, mA mr mv vf xl (nI zs) 0 xa (nI T) (nI (pp + 1 + 1 + 1)) xi xt xn (nI ns) (nI (vv + 1)) (nI bb))), (mr 5, .inl (kI, 3002, .inl fk))]) [3, 4] rfl
            replace hDc := hD.subF (f' := [(m9, .inr (23, mA mr mv vf xl (nI zs) 0 xa (nI T) (nI (pp + 1 + 1 + 1)) xi xt xn (nI ns) (nI (vv + 1)) (nI bb))), (mr 5, .inl (kI, 3002, .inl fk))]) [3, 4] (by decide) rfl
            replace hKc := hK.sub (tys' := [(kI, .int)]) [0] rfl
            replace hFc := va_freeT (wc := [(m9, .inr (23, mA mr mv vf xl (nI zs) 0 xa (nI T) (nI (pp + 1 + 1 + 1)) xi xt xn (nI ns) (nI (vv + 1)) (nI bb))), (mr 5, .inl (kI, 3002, .inl fk))]) hD hS hA [3, 4] rfl
            refine va_calli (va_runV (As := [.int 54]) (rest := []) ⟨hx, hb, hml, hown, hts⟩ (c_rtsY l dC dI m9 mr mv vf xl xa xi xt xn zs T (pp + 1 + 1 + 1) ns (vv + 1) bb kI fk fa 54 H.size hT hp_10 hk0 (by decide) hk_14) (cwV 1 hts g_c_vlt_c_rtsY_57 rfl rfl rfl (by decide +kernel) ⟨by show 1 + 1 ≤ 14 + 14 * k; omega, by show 8 + (2 + 11) + (21) ≤ 322 + 323 * k; omega⟩) ⟨fun a U g mk q => by obtain ⟨q0, q1, qP, qK, qD⟩ := q; exact ⟨q0, q1, qP, va_K.moved (u := U) (U := U.calling g mk a) (Vm.Alike.refl U.vm) qK, qD⟩, va_recv hKc hPc (ci := 23) (q0 := 0) rfl rfl, fun U hU hW => ⟨rfl, by rw [hU], by rw [hU]; exact hPc, va_K.moved hW.alike hKc, hDc.weaken (fun _ _ _ _ => trivial)⟩⟩ rfl rfl hl.1 rfl (lv_room (Nat.le_of_ble_eq_true rfl)) dX23_let_57 ⟨(show 0 + 0 ≤ (8 * (T - pp) + 14) by omega), (show 0 + 0 ≤ (120 * (T - pp) + 480) by omega)⟩) hS (fun q _ h => hFc q h) hFc (fun r_15 u tS H1 locs ht hvm hw hB hz1 hk1 hS => ?_)
            obtain ⟨hP1, hK1, hD1⟩ := hB
            rw [ht] at hP1
            replace hK1 := va_K.moved hvm.symm hK1
            obtain ⟨hPj, hDj⟩ := va_joinT (wr := [(ss, .inr (19, [.int 0, .int (nI pp), .int (nI (pp + 1 + 1)), .int 1, .int 0, .null, .null, .null, .null, .null, .null, .null, .null, .int 0])), (mr 8, .inl (kL, 3002, .inr (.inl fn))), (mr 6, .inl (kI, 3002, .inl fa))]) (w1 := [(m9, .inr (23, mA mr mv vf xl (nI zs) 0 xa (nI T) (nI ((pp + 1 + 1 + 1) + 1)) xi xt xn (nI ns) (nI (vv + 1)) (nI bb))), (mr 5, .inl (kI, 3002, .inl fk))]) hP hD [3, 4] [0, 1, 2] rfl rfl (by decide) (by decide) hk1 hFc hP1 hD1
            replace hP := hPj
            replace hD := hDj
            clear hPj hDj
            replace hK := hK.app hK1
            generalize H1 = H at hP hS ⊢
            replace hP : va_P (dC, dI) vwCl (([(ss, .inr (19, [.int 0, .int (nI pp), .int (nI (pp + 1 + 1)), .int 1, .int 0, .null, .null, .null, .null, .null, .null, .null, .null, .int 0])), (mr 8, .inl (kL, 3002, .inr (.inl fn))), (mr 6, .inl (kI, 3002, .inl fa)), (m9, .inr (23, mA mr mv vf xl (nI zs) 0 xa (nI T) (nI ((pp + 1 + 1 + 1) + 1)) xi xt xn (nI ns) (nI (vv + 1)) (nI bb))), (mr 5, .inl (kI, 3002, .inl fk))] : va_W) ++ (sT L F)) H := hP
            replace hD : va_D A (([(ss, .inr (19, [.int 0, .int (nI pp), .int (nI (pp + 1 + 1)), .int 1, .int 0, .null, .null, .null, .null, .null, .null, .null, .null, .int 0])), (mr 8, .inl (kL, 3002, .inr (.inl fn))), (mr 6, .inl (kI, 3002, .inl fa)), (m9, .inr (23, mA mr mv vf xl (nI zs) 0 xa (nI T) (nI ((pp + 1 + 1 + 1) + 1)) xi xt xn (nI ns) (nI (vv + 1)) (nI bb))), (mr 5, .inl (kI, 3002, .inl fk))] : va_W) ++ (sT L F)) := hD
            replace hK : va_K (dC, dI) vwCl [(kI, .int), (kL, .long), (kE, .object RX15), (kS, .object RX19), (kB, .object RX14), (kA, .object RX13), (kV, .object RX21), (kI, .int)] s := hK
            replace hK := hK.sub (tys' := [(kI, .int), (kL, .long), (kE, .object RX15), (kS, .object RX19), (kB, .object RX14), (kA, .object RX13), (kV, .object RX21)]) [0, 1, 2, 3, 4, 5, 6] rfl
            clear hz1 hk1 hPc hDc hKc hFc hP1 hD1 hK1
            obtain rfl : r_15 = 1 := hw
            have hp_16 : pp + 1 + 1 + 1 + 1 < T := kne3 hk0 hp_10 hk_14 (by decide)
            refine lv_if_eq (tgt := 71) hx hb dX23_let_60 (by decide) (fun c_17 => absurd c_17 (by decide)) (fun _ => ?_)
            refine lv_aload_n hx hb dX23_let_63 rfl (lv_at hl 1 rfl) ?_
            refine lv_aload_n hx hb dX23_let_64 rfl (lv_at hl 0 rfl) ?_
            replace hPc := hP.subT (f' := [(m9, .inr (23, mA mr mv vf xl (nI zs) 0 xa (nI T) (nI (pp + 1 + 1 + 1 + 1)) xi xt xn (nI ns) (nI (vv + 1)) (nI bb))), (mr 5, .inl (kI, 3002, .inl fk)), (mr 6, .inl (kI, 3002, .inl fa)), (mr 8, .inl (kL, 3002, .inr (.inl fn)))]) [3, 4, 2, 1] rfl
            replace hDc := hD.subT (f' := [(m9, .inr (23, mA mr mv vf xl (nI zs) 0 xa (nI T) (nI (pp + 1 + 1 + 1 + 1)) xi xt xn (nI ns) (nI (vv + 1)) (nI bb))), (mr 5, .inl (kI, 3002, .inl fk)), (mr 6, .inl (kI, 3002, .inl fa)), (mr 8, .inl (kL, 3002, .inr (.inl fn)))]) [3, 4, 2, 1] (by decide) rfl
            replace hKc := hK.sub (tys' := [(kI, .int), (kL, .long), (kE, .object RX15)]) [0, 1, 2] rfl
            replace hFc := va_freeB (wc := [(m9, .inr (23, mA mr mv vf xl (nI zs) 0 xa (nI T) (nI (pp + 1 + 1 + 1 + 1)) xi xt xn (nI ns) (nI (vv + 1)) (nI bb))), (mr 5, .inl (kI, 3002, .inl fk)), (mr 6, .inl (kI, 3002, .inl fa)), (mr 8, .inl (kL, 3002, .inr (.inl fn)))]) hD hS hA [3, 4, 2, 1] rfl
            refine W.grow (fun hgs0 hgs1 => ?_)
            refine va_callr (va_runV (As := []) (rest := [.ref ss]) ⟨hx, hb, hml, hown, hts⟩ (c_xexA l dC dI k m9 mr mv vf xl xa xi xt xn zs T (pp + 1 + 1 + 1 + 1) ns (vv + 1) bb kI fk fa kL kE fn L F (slN H) H.size hT hp_16 hk0 hbb (by omega)) (cwV 0 hts g_c_vlt_c_xex_65 rfl rfl rfl (by decide +kernel) ⟨by show 13 + 12 * k + 1 ≤ 14 + 14 * k; omega, by show 8 + (1 + 11) + (302 + 279 * k) ≤ 322 + 323 * k; omega⟩) ⟨fun a U g mk q => by obtain ⟨q0, q1, qP, qK, qD, qx0, qx1⟩ := q; exact ⟨q0, q1, qP, va_K.moved (u := U) (U := U.calling g mk a) (Vm.Alike.refl U.vm) qK, qD, nsM.same (u := U) (U := U.calling g mk a) rfl qx0, qx1⟩, va_recv hKc hPc (ci := 23) (q0 := 0) rfl rfl, fun U hU hW => ⟨rfl, by rw [hU], by rw [hU]; exact hPc, va_K.moved hW.alike hKc, hDc.weaken (fun _ _ _ _ => trivial), nsM.warm hW hns, by rw [hU]⟩⟩ rfl rfl hl.1 rfl (lv_room (Nat.le_of_ble_eq_true rfl)) dX23_let_65 ⟨(show 0 + (8 * (T - (pp + 1 + 1 + 1 + 1)) + 8) ≤ (8 * (T - pp) + 14) by omega), (show 0 + (120 * (T - (pp + 1 + 1 + 1 + 1)) + 360) ≤ (120 * (T - pp) + 480) by omega)⟩) hS (fun q _ h => hFc q h) hFc (fun u r_18 tS H1 locs ht hvm hw hB hz1 hk1 hS => ?_)
            obtain ⟨L17, F17, ff17, xa17, pp17, bb17, hf18_0, hf18_1, hf18_2, hf18_3, hP1, hK1, hD1⟩ := hB
            rw [ht] at hP1
            replace hK1 := va_K.moved hvm.symm hK1
            rw [ht] at hf18_3
            have hgz : H1.size ≤ s.heap.size + (8 * (pp17 - (pp + 1 + 1 + 1 + 1)) + 3) ∧ slN H1 ≤ slN s.heap + (120 * (pp17 - (pp + 1 + 1 + 1 + 1)) + 48) := ⟨by have := hf18_3.1; omega, by have := hf18_3.2; omega⟩
            obtain ⟨hPj, hDj⟩ := va_joinB (wr := [(ss, .inr (19, [.int 0, .int (nI pp), .int (nI (pp + 1 + 1)), .int 1, .int 0, .null, .null, .null, .null, .null, .null, .null, .null, .int 0]))]) (w1 := [(m9, .inr (23, mA mr mv vf xl (nI zs) ff17 xa17 (nI T) (nI pp17) xi xt xn (nI ns) (nI (vv + 1)) (nI bb17))), (mr 5, .inl (kI, 3002, .inl fk)), (mr 6, .inl (kI, 3002, .inl fa)), (mr 8, .inl (kL, 3002, .inr (.inl fn)))]) hP hD [3, 4, 2, 1] [0] rfl rfl (by decide) (by decide) hk1 hFc hP1 hD1
            replace hP := hPj
            replace hD := hDj
            clear hPj hDj
            replace hK := hK.app hK1
            generalize H1 = H at hP hS hgz ⊢
            replace hP : va_P (dC, dI) vwCl (([(ss, .inr (19, [.int 0, .int (nI pp), .int (nI (pp + 1 + 1)), .int 1, .int 0, .null, .null, .null, .null, .null, .null, .null, .null, .int 0])), (m9, .inr (23, mA mr mv vf xl (nI zs) ff17 xa17 (nI T) (nI pp17) xi xt xn (nI ns) (nI (vv + 1)) (nI bb17))), (mr 5, .inl (kI, 3002, .inl fk)), (mr 6, .inl (kI, 3002, .inl fa)), (mr 8, .inl (kL, 3002, .inr (.inl fn)))] : va_W) ++ (sT L17 F17)) H := hP
            replace hD : va_D A (([(ss, .inr (19, [.int 0, .int (nI pp), .int (nI (pp + 1 + 1)), .int 1, .int 0, .null, .null, .null, .null, .null, .null, .null, .null, .int 0])), (m9, .inr (23, mA mr mv vf xl (nI zs) ff17 xa17 (nI T) (nI pp17) xi xt xn (nI ns) (nI (vv + 1)) (nI bb17))), (mr 5, .inl (kI, 3002, .inl fk)), (mr 6, .inl (kI, 3002, .inl fa)), (mr 8, .inl (kL, 3002, .inr (.inl fn)))] : va_W) ++ (sT L17 F17)) := hD
            replace hK : va_K (dC, dI) vwCl [(kI, .int), (kL, .long), (kE, .object RX15), (kS, .object RX19), (kB, .object RX14), (kA, .object RX13), (kV, .object RX21), (kI, .int), (kL, .long), (kE, .object RX15)] s := hK
            replace hK := hK.sub (tys' := [(kI, .int), (kL, .long), (kE, .object RX15), (kS, .object RX19), (kB, .object RX14), (kA, .object RX13), (kV, .object RX21)]) [0, 1, 2, 3, 4, 5, 6] rfl
            refine W.tight (k := 8 * (pp17 - (pp + 1 + 1 + 1 + 1)) + 3) (n := 120 * (pp17 - (pp + 1 + 1 + 1 + 1)) + 48) hgz.1 hgz.2 ?_
            clear hz1 hk1 hPc hDc hKc hFc hP1 hD1 hK1
            refine va_put (D := (dC, dI)) (ci := 19) (v := .ref r_18) (ty := (.object "OwnedPlacesModel$Exp")) (C := RX19) (T := TX19) (N := 14) hx hb hts in_c_vlt_X19 tyX19 tyX19_ok nmX19 hown hK hP hD hS 0 rfl rfl 6 (by decide) (hts (.fieldLink RX23 268 "OwnedPlacesModel$Statement" "exp" "LOwnedPlacesModel$Exp;") (wm_c_vlt 128 rfl)) (fun _ h9 => h9) rfl (by decide +kernel) rfl rfl (Nat.le_of_ble_eq_true rfl) dX23_let_68 (fun H locs hP hD hS => ?_)
            replace hP : va_P (dC, dI) vwCl (([(ss, .inr (19, [.int 0, .int (nI pp), .int (nI (pp + 1 + 1)), .int 1, .int 0, .null, .ref r_18, .null, .null, .null, .null, .null, .null, .int 0])), (m9, .inr (23, mA mr mv vf xl (nI zs) ff17 xa17 (nI T) (nI pp17) xi xt xn (nI ns) (nI (vv + 1)) (nI bb17))), (mr 5, .inl (kI, 3002, .inl fk)), (mr 6, .inl (kI, 3002, .inl fa)), (mr 8, .inl (kL, 3002, .inr (.inl fn)))] : va_W) ++ (sT L17 F17)) H := hP
            replace hD : va_D A (([(ss, .inr (19, [.int 0, .int (nI pp), .int (nI (pp + 1 + 1)), .int 1, .int 0, .null, .ref r_18, .null, .null, .null, .null, .null, .null, .int 0])), (m9, .inr (23, mA mr mv vf xl (nI zs) ff17 xa17 (nI T) (nI pp17) xi xt xn (nI ns) (nI (vv + 1)) (nI bb17))), (mr 5, .inl (kI, 3002, .inl fk)), (mr 6, .inl (kI, 3002, .inl fa)), (mr 8, .inl (kL, 3002, .inr (.inl fn)))] : va_W) ++ (sT L17 F17)) := hD
            refine lv_aload_n hx hb dX23_let_71 rfl (lv_at hl 0 rfl) ?_
            refine lv_bipush (v := 60) hx hb dX23_let_72 (by decide) ?_
            by_cases hz_19 : ff17 = 0
            · subst hz_19
              have hg17 := hf18_2 rfl
              have hlthg17 := (isE_mem hg17.2).2
              by_cases hk_20 : fk pp17 = 60
              · replace hPc := hP.subF (f' := [(m9, .inr (23, mA mr mv vf xl (nI zs) 0 xa17 (nI T) (nI pp17) xi xt xn (nI ns) (nI (vv + 1)) (nI bb17))), (mr 5, .inl (kI, 3002, .inl fk)), (mr 6, .inl (kI, 3002, .inl fa))]) [1, 2, 3] rfl
                replace hDc := hD.subF (f' := [(m9, .inr (23, mA mr mv vf xl (nI zs) 0 xa17 (nI T) (nI pp17) xi xt xn (nI ns) (nI (vv + 1)) (nI bb17))), (mr 5, .inl (kI, 3002, .inl fk)), (mr 6, .inl (kI, 3002, .inl fa))]) [1, 2, 3] (by decide) rfl
                replace hKc := hK.sub (tys' := [(kI, .int)]) [0] rfl
                replace hFc := va_freeT (wc := [(m9, .inr (23, mA mr mv vf xl (nI zs) 0 xa17 (nI T) (nI pp17) xi xt xn (nI ns) (nI (vv + 1)) (nI bb17))), (mr 5, .inl (kI, 3002, .inl fk)), (mr 6, .inl (kI, 3002, .inl fa))]) hD hS hA [1, 2, 3] rfl
                refine va_callv (va_runV (As := [.int 60]) (rest := []) ⟨hx, hb, hml, hown, hts⟩ (c_rtkY l dC dI m9 mr mv vf xl xa17 xi xt xn zs T pp17 ns (vv + 1) bb17 kI fk fa 60 H.size hT hf18_1.2.1 hk0 (by decide) hk_20) (cwV 1 hts g_c_vlt_c_rtkY_74 rfl rfl rfl (by decide +kernel) ⟨by show 1 + 1 ≤ 14 + 14 * k; omega, by show 8 + (2 + 11) + (21) ≤ 322 + 323 * k; omega⟩) ⟨fun a U g mk q => by obtain ⟨q0, q1, qP, qK, qD⟩ := q; exact ⟨q0, q1, qP, va_K.moved (u := U) (U := U.calling g mk a) (Vm.Alike.refl U.vm) qK, qD⟩, va_recv hKc hPc (ci := 23) (q0 := 0) rfl rfl, fun U hU hW => ⟨rfl, by rw [hU], by rw [hU]; exact hPc, va_K.moved hW.alike hKc, hDc.weaken (fun _ _ _ _ => trivial)⟩⟩ rfl rfl hl.1 rfl (lv_room (Nat.le_of_ble_eq_true rfl)) dX23_let_74 ⟨(show 8 * (pp17 - (pp + 1 + 1 + 1 + 1)) + 3 + 0 ≤ (8 * (T - pp) + 14) by omega), (show 120 * (pp17 - (pp + 1 + 1 + 1 + 1)) + 48 + 0 ≤ (120 * (T - pp) + 480) by omega)⟩) hS (fun q _ h => hFc q h) hFc (fun u tS H1 locs ht hvm hw hB hz1 hk1 hS => ?_)
                obtain ⟨hP1, hK1, hD1⟩ := hB
                rw [ht] at hP1
                replace hK1 := va_K.moved hvm.symm hK1
                obtain ⟨hPj, hDj⟩ := va_joinT (wr := [(ss, .inr (19, [.int 0, .int (nI pp), .int (nI (pp + 1 + 1)), .int 1, .int 0, .null, .ref r_18, .null, .null, .null, .null, .null, .null, .int 0])), (mr 8, .inl (kL, 3002, .inr (.inl fn)))]) (w1 := [(m9, .inr (23, mA mr mv vf xl (nI zs) 0 xa17 (nI T) (nI (pp17 + 1)) xi xt xn (nI ns) (nI (vv + 1)) (nI bb17))), (mr 5, .inl (kI, 3002, .inl fk)), (mr 6, .inl (kI, 3002, .inl fa))]) hP hD [1, 2, 3] [0, 4] rfl rfl (by decide) (by decide) hk1 hFc hP1 hD1
                replace hP := hPj
                replace hD := hDj
                clear hPj hDj
                replace hK := hK.app hK1
                generalize H1 = H at hP hS ⊢
                replace hP : va_P (dC, dI) vwCl (([(ss, .inr (19, [.int 0, .int (nI pp), .int (nI (pp + 1 + 1)), .int 1, .int 0, .null, .ref r_18, .null, .null, .null, .null, .null, .null, .int 0])), (mr 8, .inl (kL, 3002, .inr (.inl fn))), (m9, .inr (23, mA mr mv vf xl (nI zs) 0 xa17 (nI T) (nI (pp17 + 1)) xi xt xn (nI ns) (nI (vv + 1)) (nI bb17))), (mr 5, .inl (kI, 3002, .inl fk)), (mr 6, .inl (kI, 3002, .inl fa))] : va_W) ++ (sT L17 F17)) H := hP
                replace hD : va_D A (([(ss, .inr (19, [.int 0, .int (nI pp), .int (nI (pp + 1 + 1)), .int 1, .int 0, .null, .ref r_18, .null, .null, .null, .null, .null, .null, .int 0])), (mr 8, .inl (kL, 3002, .inr (.inl fn))), (m9, .inr (23, mA mr mv vf xl (nI zs) 0 xa17 (nI T) (nI (pp17 + 1)) xi xt xn (nI ns) (nI (vv + 1)) (nI bb17))), (mr 5, .inl (kI, 3002, .inl fk)), (mr 6, .inl (kI, 3002, .inl fa))] : va_W) ++ (sT L17 F17)) := hD
                replace hK : va_K (dC, dI) vwCl [(kI, .int), (kL, .long), (kE, .object RX15), (kS, .object RX19), (kB, .object RX14), (kA, .object RX13), (kV, .object RX21), (kI, .int)] s := hK
                replace hK := hK.sub (tys' := [(kI, .int), (kL, .long), (kE, .object RX15), (kS, .object RX19), (kB, .object RX14), (kA, .object RX13), (kV, .object RX21)]) [0, 1, 2, 3, 4, 5, 6] rfl
                clear hz1 hk1 hPc hDc hKc hFc hP1 hD1 hK1
                have hp_22 : pp17 + 1 < T := kne3 hk0 hf18_1.2.1 hk_20 (by decide)
                refine W.grow (fun hgs0 hgs1 => ?_)
                have hP9 := hP.subT (f' := [(ss, .inr (19, [.int 0, .int (nI pp), .int (nI (pp + 1 + 1)), .int 1, .int 0, .null, (.ref r_18), .null, .null, .null, .null, .null, .null, .int 0])), (m9, .inr (23, mA mr mv vf xl (nI zs) 0 xa17 (nI T) (nI (pp17 + 1)) xi xt xn (nI ns) (nI (vv + 1)) (nI bb17))), (mr 5, .inl (kI, 3002, .inl fk)), (mr 6, .inl (kI, 3002, .inl fa)), (mr 8, .inl (kL, 3002, .inr (.inl fn)))]) [0, 2, 3, 4, 1] rfl
                have hD9 := hD.subT (f' := [(ss, .inr (19, [.int 0, .int (nI pp), .int (nI (pp + 1 + 1)), .int 1, .int 0, .null, (.ref r_18), .null, .null, .null, .null, .null, .null, .int 0])), (m9, .inr (23, mA mr mv vf xl (nI zs) 0 xa17 (nI T) (nI (pp17 + 1)) xi xt xn (nI ns) (nI (vv + 1)) (nI bb17))), (mr 5, .inl (kI, 3002, .inl fk)), (mr 6, .inl (kI, 3002, .inl fa)), (mr 8, .inl (kL, 3002, .inr (.inl fn)))]) [0, 2, 3, 4, 1] (by decide) rfl
                have hK9 := hK.sub (tys' := [(kI, .int), (kL, .long), (kE, .object RX15), (kS, .object RX19), (kB, .object RX14), (kA, .object RX13), (kV, .object RX21)]) [0, 1, 2, 3, 4, 5, 6] rfl
                refine W.widen (k := (8 * (T - pp) + 14)) (n := (120 * (T - pp) + 480)) (by omega) (by omega) ?_
                exact W.vret hx hb hr (fun tS ht hW => ⟨⟨(), rfl, trivial, L17, F17, 0, xa17, pp17 + 1, bb17, vv + 1, 0, nI (pp + 1 + 1), 1, .null, .ref r_18, hf18_0.1, ⟨by omega, by omega, by omega, by omega, by omega, by omega⟩, ⟨by omega, fun _ => rfl⟩, (fun _ => ⟨hg17.1, by omega, by omega, fun aZ LZ FZ hxZ haZ hFZ => ⟨haZ, by omega, Or.inl ⟨pp + 1 + 1, _, _, _, hFZ, by omega, by omega, Or.inr rfl, rfl, Or.inl rfl, Or.inr ⟨r_18, pp + 1 + 1 + 1 + 1, pp17, rfl, by omega, by omega, isE_im hxZ 408 (by omega) hg17.2⟩⟩⟩⟩), by rw [ht]; exact ⟨by omega, by omega⟩, by rw [ht]; exact hP9, va_K.moved hW.alike hK9, hD9⟩, hS.F ht⟩) hS.2.2 dX23_let_77
              · replace hPc := hP.subF (f' := [(m9, .inr (23, mA mr mv vf xl (nI zs) 0 xa17 (nI T) (nI pp17) xi xt xn (nI ns) (nI (vv + 1)) (nI bb17))), (mr 5, .inl (kI, 3002, .inl fk)), (mr 6, .inl (kI, 3002, .inl fa))]) [1, 2, 3] rfl
                replace hDc := hD.subF (f' := [(m9, .inr (23, mA mr mv vf xl (nI zs) 0 xa17 (nI T) (nI pp17) xi xt xn (nI ns) (nI (vv + 1)) (nI bb17))), (mr 5, .inl (kI, 3002, .inl fk)), (mr 6, .inl (kI, 3002, .inl fa))]) [1, 2, 3] (by decide) rfl
                replace hKc := hK.sub (tys' := [(kI, .int)]) [0] rfl
                replace hFc := va_freeT (wc := [(m9, .inr (23, mA mr mv vf xl (nI zs) 0 xa17 (nI T) (nI pp17) xi xt xn (nI ns) (nI (vv + 1)) (nI bb17))), (mr 5, .inl (kI, 3002, .inl fk)), (mr 6, .inl (kI, 3002, .inl fa))]) hD hS hA [1, 2, 3] rfl
                refine va_callv (va_runV (As := [.int 60]) (rest := []) ⟨hx, hb, hml, hown, hts⟩ (c_rtkN l dC dI m9 mr mv vf xl xa17 xi xt xn zs T pp17 ns (vv + 1) bb17 kI fk fa 60 H.size hT hf18_1.2.1 hk0 (by decide) hk_20) (cwV 1 hts g_c_vlt_c_rtkN_74 rfl rfl rfl (by decide +kernel) ⟨by show 1 + 1 ≤ 14 + 14 * k; omega, by show 8 + (2 + 11) + (22) ≤ 322 + 323 * k; omega⟩) ⟨fun a U g mk q => by obtain ⟨q0, q1, qP, qK, qD⟩ := q; exact ⟨q0, q1, qP, va_K.moved (u := U) (U := U.calling g mk a) (Vm.Alike.refl U.vm) qK, qD⟩, va_recv hKc hPc (ci := 23) (q0 := 0) rfl rfl, fun U hU hW => ⟨rfl, by rw [hU], by rw [hU]; exact hPc, va_K.moved hW.alike hKc, hDc.weaken (fun _ _ _ _ => trivial)⟩⟩ rfl rfl hl.1 rfl (lv_room (Nat.le_of_ble_eq_true rfl)) dX23_let_74 ⟨(show 8 * (pp17 - (pp + 1 + 1 + 1 + 1)) + 3 + 0 ≤ (8 * (T - pp) + 14) by omega), (show 120 * (pp17 - (pp + 1 + 1 + 1 + 1)) + 48 + 0 ≤ (120 * (T - pp) + 480) by omega)⟩) hS (fun q _ h => hFc q h) hFc (fun u tS H1 locs ht hvm hw hB hz1 hk1 hS => ?_)
                obtain ⟨ff_21, xa_22, hf23_0, hP1, hK1, hD1⟩ := hB
                rw [ht] at hP1
                replace hK1 := va_K.moved hvm.symm hK1
                obtain ⟨hPj, hDj⟩ := va_joinT (wr := [(ss, .inr (19, [.int 0, .int (nI pp), .int (nI (pp + 1 + 1)), .int 1, .int 0, .null, .ref r_18, .null, .null, .null, .null, .null, .null, .int 0])), (mr 8, .inl (kL, 3002, .inr (.inl fn)))]) (w1 := [(m9, .inr (23, mA mr mv vf xl (nI zs) ff_21 xa_22 (nI T) (nI pp17) xi xt xn (nI ns) (nI (vv + 1)) (nI bb17))), (mr 5, .inl (kI, 3002, .inl fk)), (mr 6, .inl (kI, 3002, .inl fa))]) hP hD [1, 2, 3] [0, 4] rfl rfl (by decide) (by decide) hk1 hFc hP1 hD1
                replace hP := hPj
                replace hD := hDj
                clear hPj hDj
                replace hK := hK.app hK1
                generalize H1 = H at hP hS ⊢
                replace hP : va_P (dC, dI) vwCl (([(ss, .inr (19, [.int 0, .int (nI pp), .int (nI (pp + 1 + 1)), .int 1, .int 0, .null, .ref r_18, .null, .null, .null, .null, .null, .null, .int 0])), (mr 8, .inl (kL, 3002, .inr (.inl fn))), (m9, .inr (23, mA mr mv vf xl (nI zs) ff_21 xa_22 (nI T) (nI pp17) xi xt xn (nI ns) (nI (vv + 1)) (nI bb17))), (mr 5, .inl (kI, 3002, .inl fk)), (mr 6, .inl (kI, 3002, .inl fa))] : va_W) ++ (sT L17 F17)) H := hP
                replace hD : va_D A (([(ss, .inr (19, [.int 0, .int (nI pp), .int (nI (pp + 1 + 1)), .int 1, .int 0, .null, .ref r_18, .null, .null, .null, .null, .null, .null, .int 0])), (mr 8, .inl (kL, 3002, .inr (.inl fn))), (m9, .inr (23, mA mr mv vf xl (nI zs) ff_21 xa_22 (nI T) (nI pp17) xi xt xn (nI ns) (nI (vv + 1)) (nI bb17))), (mr 5, .inl (kI, 3002, .inl fk)), (mr 6, .inl (kI, 3002, .inl fa))] : va_W) ++ (sT L17 F17)) := hD
                replace hK : va_K (dC, dI) vwCl [(kI, .int), (kL, .long), (kE, .object RX15), (kS, .object RX19), (kB, .object RX14), (kA, .object RX13), (kV, .object RX21), (kI, .int)] s := hK
                replace hK := hK.sub (tys' := [(kI, .int), (kL, .long), (kE, .object RX15), (kS, .object RX19), (kB, .object RX14), (kA, .object RX13), (kV, .object RX21)]) [0, 1, 2, 3, 4, 5, 6] rfl
                clear hz1 hk1 hPc hDc hKc hFc hP1 hD1 hK1
                refine W.grow (fun hgs0 hgs1 => ?_)
                have hP9 := hP.subT (f' := [(ss, .inr (19, [.int 0, .int (nI pp), .int (nI (pp + 1 + 1)), .int 1, .int 0, .null, (.ref r_18), .null, .null, .null, .null, .null, .null, .int 0])), (m9, .inr (23, mA mr mv vf xl (nI zs) ff_21 xa_22 (nI T) (nI pp17) xi xt xn (nI ns) (nI (vv + 1)) (nI bb17))), (mr 5, .inl (kI, 3002, .inl fk)), (mr 6, .inl (kI, 3002, .inl fa)), (mr 8, .inl (kL, 3002, .inr (.inl fn)))]) [0, 2, 3, 4, 1] rfl
                have hD9 := hD.subT (f' := [(ss, .inr (19, [.int 0, .int (nI pp), .int (nI (pp + 1 + 1)), .int 1, .int 0, .null, (.ref r_18), .null, .null, .null, .null, .null, .null, .int 0])), (m9, .inr (23, mA mr mv vf xl (nI zs) ff_21 xa_22 (nI T) (nI pp17) xi xt xn (nI ns) (nI (vv + 1)) (nI bb17))), (mr 5, .inl (kI, 3002, .inl fk)), (mr 6, .inl (kI, 3002, .inl fa)), (mr 8, .inl (kL, 3002, .inr (.inl fn)))]) [0, 2, 3, 4, 1] (by decide) rfl
                have hK9 := hK.sub (tys' := [(kI, .int), (kL, .long), (kE, .object RX15), (kS, .object RX19), (kB, .object RX14), (kA, .object RX13), (kV, .object RX21)]) [0, 1, 2, 3, 4, 5, 6] rfl
                refine W.widen (k := (8 * (T - pp) + 14)) (n := (120 * (T - pp) + 480)) (by omega) (by omega) ?_
                exact W.vret hx hb hr (fun tS ht hW => ⟨⟨(), rfl, trivial, L17, F17, ff_21, xa_22, pp17, bb17, vv + 1, 1, nI (pp + 1 + 1), 1, .null, .ref r_18, hf18_0.1, ⟨by omega, by omega, by omega, by omega, by omega, by omega⟩, ⟨by omega, fun q9 => absurd q9 hf23_0⟩, (fun q9 => absurd q9 hf23_0), by rw [ht]; exact ⟨by omega, by omega⟩, by rw [ht]; exact hP9, va_K.moved hW.alike hK9, hD9⟩, hS.F ht⟩) hS.2.2 dX23_let_77
            · replace hPc := hP.subF (f' := [(m9, .inr (23, mA mr mv vf xl (nI zs) ff17 xa17 (nI T) (nI pp17) xi xt xn (nI ns) (nI (vv + 1)) (nI bb17))), (mr 5, .inl (kI, 3002, .inl fk)), (mr 6, .inl (kI, 3002, .inl fa))]) [1, 2, 3] rfl
              replace hDc := hD.subF (f' := [(m9, .inr (23, mA mr mv vf xl (nI zs) ff17 xa17 (nI T) (nI pp17) xi xt xn (nI ns) (nI (vv + 1)) (nI bb17))), (mr 5, .inl (kI, 3002, .inl fk)), (mr 6, .inl (kI, 3002, .inl fa))]) [1, 2, 3] (by decide) rfl
              replace hKc := hK.sub (tys' := [(kI, .int)]) [0] rfl
              replace hFc := va_freeT (wc := [(m9, .inr (23, mA mr mv vf xl (nI zs) ff17 xa17 (nI T) (nI pp17) xi xt xn (nI ns) (nI (vv + 1)) (nI bb17))), (mr 5, .inl (kI, 3002, .inl fk)), (mr 6, .inl (kI, 3002, .inl fa))]) hD hS hA [1, 2, 3] rfl
              refine va_callv (va_runV (As := [.int 60]) (rest := []) ⟨hx, hb, hml, hown, hts⟩ (c_rtkB l dC dI m9 mr mv vf xl xa17 xi xt xn zs T pp17 ns (vv + 1) bb17 kI fk fa ff17 60 H.size hz_19) (cwV 1 hts g_c_vlt_c_rtkB_74 rfl rfl rfl (by decide +kernel) ⟨by show 1 + 1 ≤ 14 + 14 * k; omega, by show 8 + (2 + 11) + (20) ≤ 322 + 323 * k; omega⟩) ⟨fun a U g mk q => by obtain ⟨q0, q1, qP, qK, qD⟩ := q; exact ⟨q0, q1, qP, va_K.moved (u := U) (U := U.calling g mk a) (Vm.Alike.refl U.vm) qK, qD⟩, va_recv hKc hPc (ci := 23) (q0 := 0) rfl rfl, fun U hU hW => ⟨rfl, by rw [hU], by rw [hU]; exact hPc, va_K.moved hW.alike hKc, hDc.weaken (fun _ _ _ _ => trivial)⟩⟩ rfl rfl hl.1 rfl (lv_room (Nat.le_of_ble_eq_true rfl)) dX23_let_74 ⟨(show 8 * (pp17 - (pp + 1 + 1 + 1 + 1)) + 3 + 0 ≤ (8 * (T - pp) + 14) by omega), (show 120 * (pp17 - (pp + 1 + 1 + 1 + 1)) + 48 + 0 ≤ (120 * (T - pp) + 480) by omega)⟩) hS (fun q _ h => hFc q h) hFc (fun u tS H1 locs ht hvm hw hB hz1 hk1 hS => ?_)
              obtain ⟨hP1, hK1, hD1⟩ := hB
              rw [ht] at hP1
              replace hK1 := va_K.moved hvm.symm hK1
              obtain ⟨hPj, hDj⟩ := va_joinT (wr := [(ss, .inr (19, [.int 0, .int (nI pp), .int (nI (pp + 1 + 1)), .int 1, .int 0, .null, .ref r_18, .null, .null, .null, .null, .null, .null, .int 0])), (mr 8, .inl (kL, 3002, .inr (.inl fn)))]) (w1 := [(m9, .inr (23, mA mr mv vf xl (nI zs) ff17 xa17 (nI T) (nI pp17) xi xt xn (nI ns) (nI (vv + 1)) (nI bb17))), (mr 5, .inl (kI, 3002, .inl fk)), (mr 6, .inl (kI, 3002, .inl fa))]) hP hD [1, 2, 3] [0, 4] rfl rfl (by decide) (by decide) hk1 hFc hP1 hD1
              replace hP := hPj
              replace hD := hDj
              clear hPj hDj
              replace hK := hK.app hK1
              generalize H1 = H at hP hS ⊢
              replace hP : va_P (dC, dI) vwCl (([(ss, .inr (19, [.int 0, .int (nI pp), .int (nI (pp + 1 + 1)), .int 1, .int 0, .null, .ref r_18, .null, .null, .null, .null, .null, .null, .int 0])), (mr 8, .inl (kL, 3002, .inr (.inl fn))), (m9, .inr (23, mA mr mv vf xl (nI zs) ff17 xa17 (nI T) (nI pp17) xi xt xn (nI ns) (nI (vv + 1)) (nI bb17))), (mr 5, .inl (kI, 3002, .inl fk)), (mr 6, .inl (kI, 3002, .inl fa))] : va_W) ++ (sT L17 F17)) H := hP
              replace hD : va_D A (([(ss, .inr (19, [.int 0, .int (nI pp), .int (nI (pp + 1 + 1)), .int 1, .int 0, .null, .ref r_18, .null, .null, .null, .null, .null, .null, .int 0])), (mr 8, .inl (kL, 3002, .inr (.inl fn))), (m9, .inr (23, mA mr mv vf xl (nI zs) ff17 xa17 (nI T) (nI pp17) xi xt xn (nI ns) (nI (vv + 1)) (nI bb17))), (mr 5, .inl (kI, 3002, .inl fk)), (mr 6, .inl (kI, 3002, .inl fa))] : va_W) ++ (sT L17 F17)) := hD
              replace hK : va_K (dC, dI) vwCl [(kI, .int), (kL, .long), (kE, .object RX15), (kS, .object RX19), (kB, .object RX14), (kA, .object RX13), (kV, .object RX21), (kI, .int)] s := hK
              replace hK := hK.sub (tys' := [(kI, .int), (kL, .long), (kE, .object RX15), (kS, .object RX19), (kB, .object RX14), (kA, .object RX13), (kV, .object RX21)]) [0, 1, 2, 3, 4, 5, 6] rfl
              clear hz1 hk1 hPc hDc hKc hFc hP1 hD1 hK1
              refine W.grow (fun hgs0 hgs1 => ?_)
              have hP9 := hP.subT (f' := [(ss, .inr (19, [.int 0, .int (nI pp), .int (nI (pp + 1 + 1)), .int 1, .int 0, .null, (.ref r_18), .null, .null, .null, .null, .null, .null, .int 0])), (m9, .inr (23, mA mr mv vf xl (nI zs) ff17 xa17 (nI T) (nI pp17) xi xt xn (nI ns) (nI (vv + 1)) (nI bb17))), (mr 5, .inl (kI, 3002, .inl fk)), (mr 6, .inl (kI, 3002, .inl fa)), (mr 8, .inl (kL, 3002, .inr (.inl fn)))]) [0, 2, 3, 4, 1] rfl
              have hD9 := hD.subT (f' := [(ss, .inr (19, [.int 0, .int (nI pp), .int (nI (pp + 1 + 1)), .int 1, .int 0, .null, (.ref r_18), .null, .null, .null, .null, .null, .null, .int 0])), (m9, .inr (23, mA mr mv vf xl (nI zs) ff17 xa17 (nI T) (nI pp17) xi xt xn (nI ns) (nI (vv + 1)) (nI bb17))), (mr 5, .inl (kI, 3002, .inl fk)), (mr 6, .inl (kI, 3002, .inl fa)), (mr 8, .inl (kL, 3002, .inr (.inl fn)))]) [0, 2, 3, 4, 1] (by decide) rfl
              have hK9 := hK.sub (tys' := [(kI, .int), (kL, .long), (kE, .object RX15), (kS, .object RX19), (kB, .object RX14), (kA, .object RX13), (kV, .object RX21)]) [0, 1, 2, 3, 4, 5, 6] rfl
              refine W.widen (k := (8 * (T - pp) + 14)) (n := (120 * (T - pp) + 480)) (by omega) (by omega) ?_
              exact W.vret hx hb hr (fun tS ht hW => ⟨⟨(), rfl, trivial, L17, F17, ff17, xa17, pp17, bb17, vv + 1, 1, nI (pp + 1 + 1), 1, .null, .ref r_18, hf18_0.1, ⟨by omega, by omega, by omega, by omega, by omega, by omega⟩, ⟨by omega, fun q9 => absurd q9 hz_19⟩, (fun q9 => absurd q9 hz_19), by rw [ht]; exact ⟨by omega, by omega⟩, by rw [ht]; exact hP9, va_K.moved hW.alike hK9, hD9⟩, hS.F ht⟩) hS.2.2 dX23_let_77
          · replace hPc := hP.subF (f' := [(m9, .inr (23, mA mr mv vf xl (nI zs) 0 xa (nI T) (nI (pp + 1 + 1 + 1)) xi xt xn (nI ns) (nI (vv + 1)) (nI bb))), (mr 5, .inl (kI, 3002, .inl fk))]) [3, 4] rfl
            replace hDc := hD.subF (f' := [(m9, .inr (23, mA mr mv vf xl (nI zs) 0 xa (nI T) (nI (pp + 1 + 1 + 1)) xi xt xn (nI ns) (nI (vv + 1)) (nI bb))), (mr 5, .inl (kI, 3002, .inl fk))]) [3, 4] (by decide) rfl
            replace hKc := hK.sub (tys' := [(kI, .int)]) [0] rfl
            replace hFc := va_freeT (wc := [(m9, .inr (23, mA mr mv vf xl (nI zs) 0 xa (nI T) (nI (pp + 1 + 1 + 1)) xi xt xn (nI ns) (nI (vv + 1)) (nI bb))), (mr 5, .inl (kI, 3002, .inl fk))]) hD hS hA [3, 4] rfl
            refine va_calli (va_runV (As := [.int 54]) (rest := []) ⟨hx, hb, hml, hown, hts⟩ (c_rtsN l dC dI m9 mr mv vf xl xa xi xt xn zs T (pp + 1 + 1 + 1) ns (vv + 1) bb kI fk fa 54 H.size hT hp_10 hk0 (by decide) hk_14) (cwV 1 hts g_c_vlt_c_rtsN_57 rfl rfl rfl (by decide +kernel) ⟨by show 1 + 1 ≤ 14 + 14 * k; omega, by show 8 + (2 + 11) + (21) ≤ 322 + 323 * k; omega⟩) ⟨fun a U g mk q => by obtain ⟨q0, q1, qP, qK, qD⟩ := q; exact ⟨q0, q1, qP, va_K.moved (u := U) (U := U.calling g mk a) (Vm.Alike.refl U.vm) qK, qD⟩, va_recv hKc hPc (ci := 23) (q0 := 0) rfl rfl, fun U hU hW => ⟨rfl, by rw [hU], by rw [hU]; exact hPc, va_K.moved hW.alike hKc, hDc.weaken (fun _ _ _ _ => trivial)⟩⟩ rfl rfl hl.1 rfl (lv_room (Nat.le_of_ble_eq_true rfl)) dX23_let_57 ⟨(show 0 + 0 ≤ (8 * (T - pp) + 14) by omega), (show 0 + 0 ≤ (120 * (T - pp) + 480) by omega)⟩) hS (fun q _ h => hFc q h) hFc (fun r_15 u tS H1 locs ht hvm hw hB hz1 hk1 hS => ?_)
            obtain ⟨hP1, hK1, hD1⟩ := hB
            rw [ht] at hP1
            replace hK1 := va_K.moved hvm.symm hK1
            obtain ⟨hPj, hDj⟩ := va_joinT (wr := [(ss, .inr (19, [.int 0, .int (nI pp), .int (nI (pp + 1 + 1)), .int 1, .int 0, .null, .null, .null, .null, .null, .null, .null, .null, .int 0])), (mr 8, .inl (kL, 3002, .inr (.inl fn))), (mr 6, .inl (kI, 3002, .inl fa))]) (w1 := [(m9, .inr (23, mA mr mv vf xl (nI zs) 0 xa (nI T) (nI (pp + 1 + 1 + 1)) xi xt xn (nI ns) (nI (vv + 1)) (nI bb))), (mr 5, .inl (kI, 3002, .inl fk))]) hP hD [3, 4] [0, 1, 2] rfl rfl (by decide) (by decide) hk1 hFc hP1 hD1
            replace hP := hPj
            replace hD := hDj
            clear hPj hDj
            replace hK := hK.app hK1
            generalize H1 = H at hP hS ⊢
            replace hP : va_P (dC, dI) vwCl (([(ss, .inr (19, [.int 0, .int (nI pp), .int (nI (pp + 1 + 1)), .int 1, .int 0, .null, .null, .null, .null, .null, .null, .null, .null, .int 0])), (mr 8, .inl (kL, 3002, .inr (.inl fn))), (mr 6, .inl (kI, 3002, .inl fa)), (m9, .inr (23, mA mr mv vf xl (nI zs) 0 xa (nI T) (nI (pp + 1 + 1 + 1)) xi xt xn (nI ns) (nI (vv + 1)) (nI bb))), (mr 5, .inl (kI, 3002, .inl fk))] : va_W) ++ (sT L F)) H := hP
            replace hD : va_D A (([(ss, .inr (19, [.int 0, .int (nI pp), .int (nI (pp + 1 + 1)), .int 1, .int 0, .null, .null, .null, .null, .null, .null, .null, .null, .int 0])), (mr 8, .inl (kL, 3002, .inr (.inl fn))), (mr 6, .inl (kI, 3002, .inl fa)), (m9, .inr (23, mA mr mv vf xl (nI zs) 0 xa (nI T) (nI (pp + 1 + 1 + 1)) xi xt xn (nI ns) (nI (vv + 1)) (nI bb))), (mr 5, .inl (kI, 3002, .inl fk))] : va_W) ++ (sT L F)) := hD
            replace hK : va_K (dC, dI) vwCl [(kI, .int), (kL, .long), (kE, .object RX15), (kS, .object RX19), (kB, .object RX14), (kA, .object RX13), (kV, .object RX21), (kI, .int)] s := hK
            replace hK := hK.sub (tys' := [(kI, .int), (kL, .long), (kE, .object RX15), (kS, .object RX19), (kB, .object RX14), (kA, .object RX13), (kV, .object RX21)]) [0, 1, 2, 3, 4, 5, 6] rfl
            clear hz1 hk1 hPc hDc hKc hFc hP1 hD1 hK1
            obtain rfl : r_15 = 0 := hw
            refine lv_if_eq (tgt := 71) hx hb dX23_let_60 (by decide) (fun _ => ?_) (fun c_16 => absurd (by decide) c_16)
            refine lv_aload_n hx hb dX23_let_71 rfl (lv_at hl 0 rfl) ?_
            refine lv_bipush (v := 60) hx hb dX23_let_72 (by decide) ?_
            by_cases hk_17 : fk (pp + 1 + 1 + 1) = 60
            · replace hPc := hP.subF (f' := [(m9, .inr (23, mA mr mv vf xl (nI zs) 0 xa (nI T) (nI (pp + 1 + 1 + 1)) xi xt xn (nI ns) (nI (vv + 1)) (nI bb))), (mr 5, .inl (kI, 3002, .inl fk)), (mr 6, .inl (kI, 3002, .inl fa))]) [3, 4, 2] rfl
              replace hDc := hD.subF (f' := [(m9, .inr (23, mA mr mv vf xl (nI zs) 0 xa (nI T) (nI (pp + 1 + 1 + 1)) xi xt xn (nI ns) (nI (vv + 1)) (nI bb))), (mr 5, .inl (kI, 3002, .inl fk)), (mr 6, .inl (kI, 3002, .inl fa))]) [3, 4, 2] (by decide) rfl
              replace hKc := hK.sub (tys' := [(kI, .int)]) [0] rfl
              replace hFc := va_freeT (wc := [(m9, .inr (23, mA mr mv vf xl (nI zs) 0 xa (nI T) (nI (pp + 1 + 1 + 1)) xi xt xn (nI ns) (nI (vv + 1)) (nI bb))), (mr 5, .inl (kI, 3002, .inl fk)), (mr 6, .inl (kI, 3002, .inl fa))]) hD hS hA [3, 4, 2] rfl
              refine va_callv (va_runV (As := [.int 60]) (rest := []) ⟨hx, hb, hml, hown, hts⟩ (c_rtkY l dC dI m9 mr mv vf xl xa xi xt xn zs T (pp + 1 + 1 + 1) ns (vv + 1) bb kI fk fa 60 H.size hT hp_10 hk0 (by decide) hk_17) (cwV 1 hts g_c_vlt_c_rtkY_74 rfl rfl rfl (by decide +kernel) ⟨by show 1 + 1 ≤ 14 + 14 * k; omega, by show 8 + (2 + 11) + (21) ≤ 322 + 323 * k; omega⟩) ⟨fun a U g mk q => by obtain ⟨q0, q1, qP, qK, qD⟩ := q; exact ⟨q0, q1, qP, va_K.moved (u := U) (U := U.calling g mk a) (Vm.Alike.refl U.vm) qK, qD⟩, va_recv hKc hPc (ci := 23) (q0 := 0) rfl rfl, fun U hU hW => ⟨rfl, by rw [hU], by rw [hU]; exact hPc, va_K.moved hW.alike hKc, hDc.weaken (fun _ _ _ _ => trivial)⟩⟩ rfl rfl hl.1 rfl (lv_room (Nat.le_of_ble_eq_true rfl)) dX23_let_74 ⟨(show 0 + 0 ≤ (8 * (T - pp) + 14) by omega), (show 0 + 0 ≤ (120 * (T - pp) + 480) by omega)⟩) hS (fun q _ h => hFc q h) hFc (fun u tS H1 locs ht hvm hw hB hz1 hk1 hS => ?_)
              obtain ⟨hP1, hK1, hD1⟩ := hB
              rw [ht] at hP1
              replace hK1 := va_K.moved hvm.symm hK1
              obtain ⟨hPj, hDj⟩ := va_joinT (wr := [(ss, .inr (19, [.int 0, .int (nI pp), .int (nI (pp + 1 + 1)), .int 1, .int 0, .null, .null, .null, .null, .null, .null, .null, .null, .int 0])), (mr 8, .inl (kL, 3002, .inr (.inl fn)))]) (w1 := [(m9, .inr (23, mA mr mv vf xl (nI zs) 0 xa (nI T) (nI ((pp + 1 + 1 + 1) + 1)) xi xt xn (nI ns) (nI (vv + 1)) (nI bb))), (mr 5, .inl (kI, 3002, .inl fk)), (mr 6, .inl (kI, 3002, .inl fa))]) hP hD [3, 4, 2] [0, 1] rfl rfl (by decide) (by decide) hk1 hFc hP1 hD1
              replace hP := hPj
              replace hD := hDj
              clear hPj hDj
              replace hK := hK.app hK1
              generalize H1 = H at hP hS ⊢
              replace hP : va_P (dC, dI) vwCl (([(ss, .inr (19, [.int 0, .int (nI pp), .int (nI (pp + 1 + 1)), .int 1, .int 0, .null, .null, .null, .null, .null, .null, .null, .null, .int 0])), (mr 8, .inl (kL, 3002, .inr (.inl fn))), (m9, .inr (23, mA mr mv vf xl (nI zs) 0 xa (nI T) (nI ((pp + 1 + 1 + 1) + 1)) xi xt xn (nI ns) (nI (vv + 1)) (nI bb))), (mr 5, .inl (kI, 3002, .inl fk)), (mr 6, .inl (kI, 3002, .inl fa))] : va_W) ++ (sT L F)) H := hP
              replace hD : va_D A (([(ss, .inr (19, [.int 0, .int (nI pp), .int (nI (pp + 1 + 1)), .int 1, .int 0, .null, .null, .null, .null, .null, .null, .null, .null, .int 0])), (mr 8, .inl (kL, 3002, .inr (.inl fn))), (m9, .inr (23, mA mr mv vf xl (nI zs) 0 xa (nI T) (nI ((pp + 1 + 1 + 1) + 1)) xi xt xn (nI ns) (nI (vv + 1)) (nI bb))), (mr 5, .inl (kI, 3002, .inl fk)), (mr 6, .inl (kI, 3002, .inl fa))] : va_W) ++ (sT L F)) := hD
              replace hK : va_K (dC, dI) vwCl [(kI, .int), (kL, .long), (kE, .object RX15), (kS, .object RX19), (kB, .object RX14), (kA, .object RX13), (kV, .object RX21), (kI, .int)] s := hK
              replace hK := hK.sub (tys' := [(kI, .int), (kL, .long), (kE, .object RX15), (kS, .object RX19), (kB, .object RX14), (kA, .object RX13), (kV, .object RX21)]) [0, 1, 2, 3, 4, 5, 6] rfl
              clear hz1 hk1 hPc hDc hKc hFc hP1 hD1 hK1
              have hp_19 : pp + 1 + 1 + 1 + 1 < T := kne3 hk0 hp_10 hk_17 (by decide)
              refine W.grow (fun hgs0 hgs1 => ?_)
              have hP9 := hP.subT (f' := [(ss, .inr (19, [.int 0, .int (nI pp), .int (nI (pp + 1 + 1)), .int 1, .int 0, .null, .null, .null, .null, .null, .null, .null, .null, .int 0])), (m9, .inr (23, mA mr mv vf xl (nI zs) 0 xa (nI T) (nI (pp + 1 + 1 + 1 + 1)) xi xt xn (nI ns) (nI (vv + 1)) (nI bb))), (mr 5, .inl (kI, 3002, .inl fk)), (mr 6, .inl (kI, 3002, .inl fa)), (mr 8, .inl (kL, 3002, .inr (.inl fn)))]) [0, 2, 3, 4, 1] rfl
              have hD9 := hD.subT (f' := [(ss, .inr (19, [.int 0, .int (nI pp), .int (nI (pp + 1 + 1)), .int 1, .int 0, .null, .null, .null, .null, .null, .null, .null, .null, .int 0])), (m9, .inr (23, mA mr mv vf xl (nI zs) 0 xa (nI T) (nI (pp + 1 + 1 + 1 + 1)) xi xt xn (nI ns) (nI (vv + 1)) (nI bb))), (mr 5, .inl (kI, 3002, .inl fk)), (mr 6, .inl (kI, 3002, .inl fa)), (mr 8, .inl (kL, 3002, .inr (.inl fn)))]) [0, 2, 3, 4, 1] (by decide) rfl
              have hK9 := hK.sub (tys' := [(kI, .int), (kL, .long), (kE, .object RX15), (kS, .object RX19), (kB, .object RX14), (kA, .object RX13), (kV, .object RX21)]) [0, 1, 2, 3, 4, 5, 6] rfl
              refine W.widen (k := (8 * (T - pp) + 14)) (n := (120 * (T - pp) + 480)) (by omega) (by omega) ?_
              exact W.vret hx hb hr (fun tS ht hW => ⟨⟨(), rfl, trivial, L, F, 0, xa, pp + 1 + 1 + 1 + 1, bb, vv + 1, 0, nI (pp + 1 + 1), 1, .null, .null, exS.rf, ⟨by omega, by omega, by omega, by omega, by omega, by omega⟩, ⟨by omega, fun _ => rfl⟩, (fun _ => ⟨hbb, by omega, by omega, fun aZ LZ FZ hxZ haZ hFZ => ⟨haZ, by omega, Or.inl ⟨pp + 1 + 1, _, _, _, hFZ, by omega, by omega, Or.inr rfl, rfl, Or.inl rfl, Or.inl ⟨rfl, rfl⟩⟩⟩⟩), by rw [ht]; exact ⟨by omega, by omega⟩, by rw [ht]; exact hP9, va_K.moved hW.alike hK9, hD9⟩, hS.F ht⟩) hS.2.2 dX23_let_77
            · replace hPc := hP.subF (f' := [(m9, .inr (23, mA mr mv vf xl (nI zs) 0 xa (nI T) (nI (pp + 1 + 1 + 1)) xi xt xn (nI ns) (nI (vv + 1)) (nI bb))), (mr 5, .inl (kI, 3002, .inl fk)), (mr 6, .inl (kI, 3002, .inl fa))]) [3, 4, 2] rfl
              replace hDc := hD.subF (f' := [(m9, .inr (23, mA mr mv vf xl (nI zs) 0 xa (nI T) (nI (pp + 1 + 1 + 1)) xi xt xn (nI ns) (nI (vv + 1)) (nI bb))), (mr 5, .inl (kI, 3002, .inl fk)), (mr 6, .inl (kI, 3002, .inl fa))]) [3, 4, 2] (by decide) rfl
              replace hKc := hK.sub (tys' := [(kI, .int)]) [0] rfl
              replace hFc := va_freeT (wc := [(m9, .inr (23, mA mr mv vf xl (nI zs) 0 xa (nI T) (nI (pp + 1 + 1 + 1)) xi xt xn (nI ns) (nI (vv + 1)) (nI bb))), (mr 5, .inl (kI, 3002, .inl fk)), (mr 6, .inl (kI, 3002, .inl fa))]) hD hS hA [3, 4, 2] rfl
              refine va_callv (va_runV (As := [.int 60]) (rest := []) ⟨hx, hb, hml, hown, hts⟩ (c_rtkN l dC dI m9 mr mv vf xl xa xi xt xn zs T (pp + 1 + 1 + 1) ns (vv + 1) bb kI fk fa 60 H.size hT hp_10 hk0 (by decide) hk_17) (cwV 1 hts g_c_vlt_c_rtkN_74 rfl rfl rfl (by decide +kernel) ⟨by show 1 + 1 ≤ 14 + 14 * k; omega, by show 8 + (2 + 11) + (22) ≤ 322 + 323 * k; omega⟩) ⟨fun a U g mk q => by obtain ⟨q0, q1, qP, qK, qD⟩ := q; exact ⟨q0, q1, qP, va_K.moved (u := U) (U := U.calling g mk a) (Vm.Alike.refl U.vm) qK, qD⟩, va_recv hKc hPc (ci := 23) (q0 := 0) rfl rfl, fun U hU hW => ⟨rfl, by rw [hU], by rw [hU]; exact hPc, va_K.moved hW.alike hKc, hDc.weaken (fun _ _ _ _ => trivial)⟩⟩ rfl rfl hl.1 rfl (lv_room (Nat.le_of_ble_eq_true rfl)) dX23_let_74 ⟨(show 0 + 0 ≤ (8 * (T - pp) + 14) by omega), (show 0 + 0 ≤ (120 * (T - pp) + 480) by omega)⟩) hS (fun q _ h => hFc q h) hFc (fun u tS H1 locs ht hvm hw hB hz1 hk1 hS => ?_)
              obtain ⟨ff_18, xa_19, hf20_0, hP1, hK1, hD1⟩ := hB
              rw [ht] at hP1
              replace hK1 := va_K.moved hvm.symm hK1
              obtain ⟨hPj, hDj⟩ := va_joinT (wr := [(ss, .inr (19, [.int 0, .int (nI pp), .int (nI (pp + 1 + 1)), .int 1, .int 0, .null, .null, .null, .null, .null, .null, .null, .null, .int 0])), (mr 8, .inl (kL, 3002, .inr (.inl fn)))]) (w1 := [(m9, .inr (23, mA mr mv vf xl (nI zs) ff_18 xa_19 (nI T) (nI (pp + 1 + 1 + 1)) xi xt xn (nI ns) (nI (vv + 1)) (nI bb))), (mr 5, .inl (kI, 3002, .inl fk)), (mr 6, .inl (kI, 3002, .inl fa))]) hP hD [3, 4, 2] [0, 1] rfl rfl (by decide) (by decide) hk1 hFc hP1 hD1
              replace hP := hPj
              replace hD := hDj
              clear hPj hDj
              replace hK := hK.app hK1
              generalize H1 = H at hP hS ⊢
              replace hP : va_P (dC, dI) vwCl (([(ss, .inr (19, [.int 0, .int (nI pp), .int (nI (pp + 1 + 1)), .int 1, .int 0, .null, .null, .null, .null, .null, .null, .null, .null, .int 0])), (mr 8, .inl (kL, 3002, .inr (.inl fn))), (m9, .inr (23, mA mr mv vf xl (nI zs) ff_18 xa_19 (nI T) (nI (pp + 1 + 1 + 1)) xi xt xn (nI ns) (nI (vv + 1)) (nI bb))), (mr 5, .inl (kI, 3002, .inl fk)), (mr 6, .inl (kI, 3002, .inl fa))] : va_W) ++ (sT L F)) H := hP
              replace hD : va_D A (([(ss, .inr (19, [.int 0, .int (nI pp), .int (nI (pp + 1 + 1)), .int 1, .int 0, .null, .null, .null, .null, .null, .null, .null, .null, .int 0])), (mr 8, .inl (kL, 3002, .inr (.inl fn))), (m9, .inr (23, mA mr mv vf xl (nI zs) ff_18 xa_19 (nI T) (nI (pp + 1 + 1 + 1)) xi xt xn (nI ns) (nI (vv + 1)) (nI bb))), (mr 5, .inl (kI, 3002, .inl fk)), (mr 6, .inl (kI, 3002, .inl fa))] : va_W) ++ (sT L F)) := hD
              replace hK : va_K (dC, dI) vwCl [(kI, .int), (kL, .long), (kE, .object RX15), (kS, .object RX19), (kB, .object RX14), (kA, .object RX13), (kV, .object RX21), (kI, .int)] s := hK
              replace hK := hK.sub (tys' := [(kI, .int), (kL, .long), (kE, .object RX15), (kS, .object RX19), (kB, .object RX14), (kA, .object RX13), (kV, .object RX21)]) [0, 1, 2, 3, 4, 5, 6] rfl
              clear hz1 hk1 hPc hDc hKc hFc hP1 hD1 hK1
              refine W.grow (fun hgs0 hgs1 => ?_)
              have hP9 := hP.subT (f' := [(ss, .inr (19, [.int 0, .int (nI pp), .int (nI (pp + 1 + 1)), .int 1, .int 0, .null, .null, .null, .null, .null, .null, .null, .null, .int 0])), (m9, .inr (23, mA mr mv vf xl (nI zs) ff_18 xa_19 (nI T) (nI (pp + 1 + 1 + 1)) xi xt xn (nI ns) (nI (vv + 1)) (nI bb))), (mr 5, .inl (kI, 3002, .inl fk)), (mr 6, .inl (kI, 3002, .inl fa)), (mr 8, .inl (kL, 3002, .inr (.inl fn)))]) [0, 2, 3, 4, 1] rfl
              have hD9 := hD.subT (f' := [(ss, .inr (19, [.int 0, .int (nI pp), .int (nI (pp + 1 + 1)), .int 1, .int 0, .null, .null, .null, .null, .null, .null, .null, .null, .int 0])), (m9, .inr (23, mA mr mv vf xl (nI zs) ff_18 xa_19 (nI T) (nI (pp + 1 + 1 + 1)) xi xt xn (nI ns) (nI (vv + 1)) (nI bb))), (mr 5, .inl (kI, 3002, .inl fk)), (mr 6, .inl (kI, 3002, .inl fa)), (mr 8, .inl (kL, 3002, .inr (.inl fn)))]) [0, 2, 3, 4, 1] (by decide) rfl
              have hK9 := hK.sub (tys' := [(kI, .int), (kL, .long), (kE, .object RX15), (kS, .object RX19), (kB, .object RX14), (kA, .object RX13), (kV, .object RX21)]) [0, 1, 2, 3, 4, 5, 6] rfl
              refine W.widen (k := (8 * (T - pp) + 14)) (n := (120 * (T - pp) + 480)) (by omega) (by omega) ?_
              exact W.vret hx hb hr (fun tS ht hW => ⟨⟨(), rfl, trivial, L, F, ff_18, xa_19, pp + 1 + 1 + 1, bb, vv + 1, 1, nI (pp + 1 + 1), 1, .null, .null, exS.rf, ⟨by omega, by omega, by omega, by omega, by omega, by omega⟩, ⟨by omega, fun q9 => absurd q9 hf20_0⟩, (fun q9 => absurd q9 hf20_0), by rw [ht]; exact ⟨by omega, by omega⟩, by rw [ht]; exact hP9, va_K.moved hW.alike hK9, hD9⟩, hS.F ht⟩) hS.2.2 dX23_let_77
      · replace hPc := hP.subF (f' := [(m9, .inr (23, mA mr mv vf xl (nI zs) 0 xa (nI T) (nI (pp + 1 + 1)) xi xt xn (nI ns) (nI (vv + 1)) (nI bb))), (mr 5, .inl (kI, 3002, .inl fk)), (mr 6, .inl (kI, 3002, .inl fa))]) [2, 3, 4] rfl
        replace hDc := hD.subF (f' := [(m9, .inr (23, mA mr mv vf xl (nI zs) 0 xa (nI T) (nI (pp + 1 + 1)) xi xt xn (nI ns) (nI (vv + 1)) (nI bb))), (mr 5, .inl (kI, 3002, .inl fk)), (mr 6, .inl (kI, 3002, .inl fa))]) [2, 3, 4] (by decide) rfl
        replace hKc := hK.sub (tys' := [(kI, .int)]) [0] rfl
        replace hFc := va_freeT (wc := [(m9, .inr (23, mA mr mv vf xl (nI zs) 0 xa (nI T) (nI (pp + 1 + 1)) xi xt xn (nI ns) (nI (vv + 1)) (nI bb))), (mr 5, .inl (kI, 3002, .inl fk)), (mr 6, .inl (kI, 3002, .inl fa))]) hD hS hA [2, 3, 4] rfl
        refine va_calli (va_runV (As := []) (rest := [.ref ss]) ⟨hx, hb, hml, hown, hts⟩ (c_rnmN l dC dI m9 mr mv vf xl xa xi xt xn zs T (pp + 1 + 1) ns (vv + 1) bb kI fk fa H.size hT hp_5 hk0 hk_8) (cwV 0 hts g_c_vlt_c_rnmN_31 rfl rfl rfl (by decide +kernel) ⟨by show 2 + 1 ≤ 14 + 14 * k; omega, by show 8 + (1 + 11) + (43) ≤ 322 + 323 * k; omega⟩) ⟨fun a U g mk q => by obtain ⟨q0, q1, qP, qK, qD⟩ := q; exact ⟨q0, q1, qP, va_K.moved (u := U) (U := U.calling g mk a) (Vm.Alike.refl U.vm) qK, qD⟩, va_recv hKc hPc (ci := 23) (q0 := 0) rfl rfl, fun U hU hW => ⟨rfl, by rw [hU], by rw [hU]; exact hPc, va_K.moved hW.alike hKc, hDc.weaken (fun _ _ _ _ => trivial)⟩⟩ rfl rfl hl.1 rfl (lv_room (Nat.le_of_ble_eq_true rfl)) dX23_let_31 ⟨(show 0 + 0 ≤ (8 * (T - pp) + 14) by omega), (show 0 + 0 ≤ (120 * (T - pp) + 480) by omega)⟩) hS (fun q _ h => hFc q h) hFc (fun r_11 u tS H1 locs ht hvm hw hB hz1 hk1 hS => ?_)
        obtain ⟨ff_9, xa_10, hf11_0, hP1, hK1, hD1⟩ := hB
        rw [ht] at hP1
        replace hK1 := va_K.moved hvm.symm hK1
        obtain ⟨hPj, hDj⟩ := va_joinT (wr := [(ss, .inr (19, [.int 0, .int (nI pp), .int 0, .int 1, .int 0, .null, .null, .null, .null, .null, .null, .null, .null, .int 0])), (mr 8, .inl (kL, 3002, .inr (.inl fn)))]) (w1 := [(m9, .inr (23, mA mr mv vf xl (nI zs) ff_9 xa_10 (nI T) (nI (pp + 1 + 1)) xi xt xn (nI ns) (nI (vv + 1)) (nI bb))), (mr 5, .inl (kI, 3002, .inl fk)), (mr 6, .inl (kI, 3002, .inl fa))]) hP hD [2, 3, 4] [0, 1] rfl rfl (by decide) (by decide) hk1 hFc hP1 hD1
        replace hP := hPj
        replace hD := hDj
        clear hPj hDj
        replace hK := hK.app hK1
        generalize H1 = H at hP hS ⊢
        replace hP : va_P (dC, dI) vwCl (([(ss, .inr (19, [.int 0, .int (nI pp), .int 0, .int 1, .int 0, .null, .null, .null, .null, .null, .null, .null, .null, .int 0])), (mr 8, .inl (kL, 3002, .inr (.inl fn))), (m9, .inr (23, mA mr mv vf xl (nI zs) ff_9 xa_10 (nI T) (nI (pp + 1 + 1)) xi xt xn (nI ns) (nI (vv + 1)) (nI bb))), (mr 5, .inl (kI, 3002, .inl fk)), (mr 6, .inl (kI, 3002, .inl fa))] : va_W) ++ (sT L F)) H := hP
        replace hD : va_D A (([(ss, .inr (19, [.int 0, .int (nI pp), .int 0, .int 1, .int 0, .null, .null, .null, .null, .null, .null, .null, .null, .int 0])), (mr 8, .inl (kL, 3002, .inr (.inl fn))), (m9, .inr (23, mA mr mv vf xl (nI zs) ff_9 xa_10 (nI T) (nI (pp + 1 + 1)) xi xt xn (nI ns) (nI (vv + 1)) (nI bb))), (mr 5, .inl (kI, 3002, .inl fk)), (mr 6, .inl (kI, 3002, .inl fa))] : va_W) ++ (sT L F)) := hD
        replace hK : va_K (dC, dI) vwCl [(kI, .int), (kL, .long), (kE, .object RX15), (kS, .object RX19), (kB, .object RX14), (kA, .object RX13), (kV, .object RX21), (kI, .int)] s := hK
        replace hK := hK.sub (tys' := [(kI, .int), (kL, .long), (kE, .object RX15), (kS, .object RX19), (kB, .object RX14), (kA, .object RX13), (kV, .object RX21)]) [0, 1, 2, 3, 4, 5, 6] rfl
        clear hz1 hk1 hPc hDc hKc hFc hP1 hD1 hK1
        refine va_put (D := (dC, dI)) (ci := 19) (v := .int r_11) (ty := .int) (C := RX19) (T := TX19) (N := 14) hx hb hts in_c_vlt_X19 tyX19 tyX19_ok nmX19 hown hK hP hD hS 0 rfl rfl 2 (by decide) (hts (.fieldLink RX23 285 "OwnedPlacesModel$Statement" "name" "I") (wm_c_vlt 38 rfl)) (fun _ h9 => h9) rfl (by decide +kernel) rfl rfl (Nat.le_of_ble_eq_true rfl) dX23_let_34 (fun H locs hP hD hS => ?_)
        replace hP : va_P (dC, dI) vwCl (([(ss, .inr (19, [.int 0, .int (nI pp), .int r_11, .int 1, .int 0, .null, .null, .null, .null, .null, .null, .null, .null, .int 0])), (mr 8, .inl (kL, 3002, .inr (.inl fn))), (m9, .inr (23, mA mr mv vf xl (nI zs) ff_9 xa_10 (nI T) (nI (pp + 1 + 1)) xi xt xn (nI ns) (nI (vv + 1)) (nI bb))), (mr 5, .inl (kI, 3002, .inl fk)), (mr 6, .inl (kI, 3002, .inl fa))] : va_W) ++ (sT L F)) H := hP
        replace hD : va_D A (([(ss, .inr (19, [.int 0, .int (nI pp), .int r_11, .int 1, .int 0, .null, .null, .null, .null, .null, .null, .null, .null, .int 0])), (mr 8, .inl (kL, 3002, .inr (.inl fn))), (m9, .inr (23, mA mr mv vf xl (nI zs) ff_9 xa_10 (nI T) (nI (pp + 1 + 1)) xi xt xn (nI ns) (nI (vv + 1)) (nI bb))), (mr 5, .inl (kI, 3002, .inl fk)), (mr 6, .inl (kI, 3002, .inl fa))] : va_W) ++ (sT L F)) := hD
        refine lv_aload_n hx hb dX23_let_37 rfl (lv_at hl 0 rfl) ?_
        refine lv_bipush (v := 58) hx hb dX23_let_38 (by decide) ?_
        replace hPc := hP.subF (f' := [(m9, .inr (23, mA mr mv vf xl (nI zs) ff_9 xa_10 (nI T) (nI (pp + 1 + 1)) xi xt xn (nI ns) (nI (vv + 1)) (nI bb))), (mr 5, .inl (kI, 3002, .inl fk))]) [2, 3] rfl
        replace hDc := hD.subF (f' := [(m9, .inr (23, mA mr mv vf xl (nI zs) ff_9 xa_10 (nI T) (nI (pp + 1 + 1)) xi xt xn (nI ns) (nI (vv + 1)) (nI bb))), (mr 5, .inl (kI, 3002, .inl fk))]) [2, 3] (by decide) rfl
        replace hKc := hK.sub (tys' := [(kI, .int)]) [0] rfl
        replace hFc := va_freeT (wc := [(m9, .inr (23, mA mr mv vf xl (nI zs) ff_9 xa_10 (nI T) (nI (pp + 1 + 1)) xi xt xn (nI ns) (nI (vv + 1)) (nI bb))), (mr 5, .inl (kI, 3002, .inl fk))]) hD hS hA [2, 3] rfl
        refine va_calli (va_runV (As := [.int 58]) (rest := []) ⟨hx, hb, hml, hown, hts⟩ (c_rtsB l dC dI m9 mr mv vf xl xa_10 xi xt xn zs T (pp + 1 + 1) ns (vv + 1) bb kI fk fa ff_9 58 H.size hf11_0) (cwV 1 hts g_c_vlt_c_rtsB_40 rfl rfl rfl (by decide +kernel) ⟨by show 1 + 1 ≤ 14 + 14 * k; omega, by show 8 + (2 + 11) + (20) ≤ 322 + 323 * k; omega⟩) ⟨fun a U g mk q => by obtain ⟨q0, q1, qP, qK, qD⟩ := q; exact ⟨q0, q1, qP, va_K.moved (u := U) (U := U.calling g mk a) (Vm.Alike.refl U.vm) qK, qD⟩, va_recv hKc hPc (ci := 23) (q0 := 0) rfl rfl, fun U hU hW => ⟨rfl, by rw [hU], by rw [hU]; exact hPc, va_K.moved hW.alike hKc, hDc.weaken (fun _ _ _ _ => trivial)⟩⟩ rfl rfl hl.1 rfl (lv_room (Nat.le_of_ble_eq_true rfl)) dX23_let_40 ⟨(show 0 + 0 ≤ (8 * (T - pp) + 14) by omega), (show 0 + 0 ≤ (120 * (T - pp) + 480) by omega)⟩) hS (fun q _ h => hFc q h) hFc (fun r_12 u tS H1 locs ht hvm hw hB hz1 hk1 hS => ?_)
        obtain ⟨hP1, hK1, hD1⟩ := hB
        rw [ht] at hP1
        replace hK1 := va_K.moved hvm.symm hK1
        obtain ⟨hPj, hDj⟩ := va_joinT (wr := [(ss, .inr (19, [.int 0, .int (nI pp), .int r_11, .int 1, .int 0, .null, .null, .null, .null, .null, .null, .null, .null, .int 0])), (mr 8, .inl (kL, 3002, .inr (.inl fn))), (mr 6, .inl (kI, 3002, .inl fa))]) (w1 := [(m9, .inr (23, mA mr mv vf xl (nI zs) ff_9 xa_10 (nI T) (nI (pp + 1 + 1)) xi xt xn (nI ns) (nI (vv + 1)) (nI bb))), (mr 5, .inl (kI, 3002, .inl fk))]) hP hD [2, 3] [0, 1, 4] rfl rfl (by decide) (by decide) hk1 hFc hP1 hD1
        replace hP := hPj
        replace hD := hDj
        clear hPj hDj
        replace hK := hK.app hK1
        generalize H1 = H at hP hS ⊢
        replace hP : va_P (dC, dI) vwCl (([(ss, .inr (19, [.int 0, .int (nI pp), .int r_11, .int 1, .int 0, .null, .null, .null, .null, .null, .null, .null, .null, .int 0])), (mr 8, .inl (kL, 3002, .inr (.inl fn))), (mr 6, .inl (kI, 3002, .inl fa)), (m9, .inr (23, mA mr mv vf xl (nI zs) ff_9 xa_10 (nI T) (nI (pp + 1 + 1)) xi xt xn (nI ns) (nI (vv + 1)) (nI bb))), (mr 5, .inl (kI, 3002, .inl fk))] : va_W) ++ (sT L F)) H := hP
        replace hD : va_D A (([(ss, .inr (19, [.int 0, .int (nI pp), .int r_11, .int 1, .int 0, .null, .null, .null, .null, .null, .null, .null, .null, .int 0])), (mr 8, .inl (kL, 3002, .inr (.inl fn))), (mr 6, .inl (kI, 3002, .inl fa)), (m9, .inr (23, mA mr mv vf xl (nI zs) ff_9 xa_10 (nI T) (nI (pp + 1 + 1)) xi xt xn (nI ns) (nI (vv + 1)) (nI bb))), (mr 5, .inl (kI, 3002, .inl fk))] : va_W) ++ (sT L F)) := hD
        replace hK : va_K (dC, dI) vwCl [(kI, .int), (kL, .long), (kE, .object RX15), (kS, .object RX19), (kB, .object RX14), (kA, .object RX13), (kV, .object RX21), (kI, .int)] s := hK
        replace hK := hK.sub (tys' := [(kI, .int), (kL, .long), (kE, .object RX15), (kS, .object RX19), (kB, .object RX14), (kA, .object RX13), (kV, .object RX21)]) [0, 1, 2, 3, 4, 5, 6] rfl
        clear hz1 hk1 hPc hDc hKc hFc hP1 hD1 hK1
        obtain rfl : r_12 = 0 := hw
        refine lv_if_eq (tgt := 54) hx hb dX23_let_43 (by decide) (fun _ => ?_) (fun c_13 => absurd (by decide) c_13)
        refine lv_aload_n hx hb dX23_let_54 rfl (lv_at hl 0 rfl) ?_
        refine lv_bipush (v := 54) hx hb dX23_let_55 (by decide) ?_
        replace hPc := hP.subF (f' := [(m9, .inr (23, mA mr mv vf xl (nI zs) ff_9 xa_10 (nI T) (nI (pp + 1 + 1)) xi xt xn (nI ns) (nI (vv + 1)) (nI bb))), (mr 5, .inl (kI, 3002, .inl fk))]) [3, 4] rfl
        replace hDc := hD.subF (f' := [(m9, .inr (23, mA mr mv vf xl (nI zs) ff_9 xa_10 (nI T) (nI (pp + 1 + 1)) xi xt xn (nI ns) (nI (vv + 1)) (nI bb))), (mr 5, .inl (kI, 3002, .inl fk))]) [3, 4] (by decide) rfl
        replace hKc := hK.sub (tys' := [(kI, .int)]) [0] rfl
        replace hFc := va_freeT (wc := [(m9, .inr (23, mA mr mv vf xl (nI zs) ff_9 xa_10 (nI T) (nI (pp + 1 + 1)) xi xt xn (nI ns) (nI (vv + 1)) (nI bb))), (mr 5, .inl (kI, 3002, .inl fk))]) hD hS hA [3, 4] rfl
        refine va_calli (va_runV (As := [.int 54]) (rest := []) ⟨hx, hb, hml, hown, hts⟩ (c_rtsB l dC dI m9 mr mv vf xl xa_10 xi xt xn zs T (pp + 1 + 1) ns (vv + 1) bb kI fk fa ff_9 54 H.size hf11_0) (cwV 1 hts g_c_vlt_c_rtsB_57 rfl rfl rfl (by decide +kernel) ⟨by show 1 + 1 ≤ 14 + 14 * k; omega, by show 8 + (2 + 11) + (20) ≤ 322 + 323 * k; omega⟩) ⟨fun a U g mk q => by obtain ⟨q0, q1, qP, qK, qD⟩ := q; exact ⟨q0, q1, qP, va_K.moved (u := U) (U := U.calling g mk a) (Vm.Alike.refl U.vm) qK, qD⟩, va_recv hKc hPc (ci := 23) (q0 := 0) rfl rfl, fun U hU hW => ⟨rfl, by rw [hU], by rw [hU]; exact hPc, va_K.moved hW.alike hKc, hDc.weaken (fun _ _ _ _ => trivial)⟩⟩ rfl rfl hl.1 rfl (lv_room (Nat.le_of_ble_eq_true rfl)) dX23_let_57 ⟨(show 0 + 0 ≤ (8 * (T - pp) + 14) by omega), (show 0 + 0 ≤ (120 * (T - pp) + 480) by omega)⟩) hS (fun q _ h => hFc q h) hFc (fun r_14 u tS H1 locs ht hvm hw hB hz1 hk1 hS => ?_)
        obtain ⟨hP1, hK1, hD1⟩ := hB
        rw [ht] at hP1
        replace hK1 := va_K.moved hvm.symm hK1
        obtain ⟨hPj, hDj⟩ := va_joinT (wr := [(ss, .inr (19, [.int 0, .int (nI pp), .int r_11, .int 1, .int 0, .null, .null, .null, .null, .null, .null, .null, .null, .int 0])), (mr 8, .inl (kL, 3002, .inr (.inl fn))), (mr 6, .inl (kI, 3002, .inl fa))]) (w1 := [(m9, .inr (23, mA mr mv vf xl (nI zs) ff_9 xa_10 (nI T) (nI (pp + 1 + 1)) xi xt xn (nI ns) (nI (vv + 1)) (nI bb))), (mr 5, .inl (kI, 3002, .inl fk))]) hP hD [3, 4] [0, 1, 2] rfl rfl (by decide) (by decide) hk1 hFc hP1 hD1
        replace hP := hPj
        replace hD := hDj
        clear hPj hDj
        replace hK := hK.app hK1
        generalize H1 = H at hP hS ⊢
        replace hP : va_P (dC, dI) vwCl (([(ss, .inr (19, [.int 0, .int (nI pp), .int r_11, .int 1, .int 0, .null, .null, .null, .null, .null, .null, .null, .null, .int 0])), (mr 8, .inl (kL, 3002, .inr (.inl fn))), (mr 6, .inl (kI, 3002, .inl fa)), (m9, .inr (23, mA mr mv vf xl (nI zs) ff_9 xa_10 (nI T) (nI (pp + 1 + 1)) xi xt xn (nI ns) (nI (vv + 1)) (nI bb))), (mr 5, .inl (kI, 3002, .inl fk))] : va_W) ++ (sT L F)) H := hP
        replace hD : va_D A (([(ss, .inr (19, [.int 0, .int (nI pp), .int r_11, .int 1, .int 0, .null, .null, .null, .null, .null, .null, .null, .null, .int 0])), (mr 8, .inl (kL, 3002, .inr (.inl fn))), (mr 6, .inl (kI, 3002, .inl fa)), (m9, .inr (23, mA mr mv vf xl (nI zs) ff_9 xa_10 (nI T) (nI (pp + 1 + 1)) xi xt xn (nI ns) (nI (vv + 1)) (nI bb))), (mr 5, .inl (kI, 3002, .inl fk))] : va_W) ++ (sT L F)) := hD
        replace hK : va_K (dC, dI) vwCl [(kI, .int), (kL, .long), (kE, .object RX15), (kS, .object RX19), (kB, .object RX14), (kA, .object RX13), (kV, .object RX21), (kI, .int)] s := hK
        replace hK := hK.sub (tys' := [(kI, .int), (kL, .long), (kE, .object RX15), (kS, .object RX19), (kB, .object RX14), (kA, .object RX13), (kV, .object RX21)]) [0, 1, 2, 3, 4, 5, 6] rfl
        clear hz1 hk1 hPc hDc hKc hFc hP1 hD1 hK1
        obtain rfl : r_14 = 0 := hw
        refine lv_if_eq (tgt := 71) hx hb dX23_let_60 (by decide) (fun _ => ?_) (fun c_15 => absurd (by decide) c_15)
        refine lv_aload_n hx hb dX23_let_71 rfl (lv_at hl 0 rfl) ?_
        refine lv_bipush (v := 60) hx hb dX23_let_72 (by decide) ?_
        replace hPc := hP.subF (f' := [(m9, .inr (23, mA mr mv vf xl (nI zs) ff_9 xa_10 (nI T) (nI (pp + 1 + 1)) xi xt xn (nI ns) (nI (vv + 1)) (nI bb))), (mr 5, .inl (kI, 3002, .inl fk)), (mr 6, .inl (kI, 3002, .inl fa))]) [3, 4, 2] rfl
        replace hDc := hD.subF (f' := [(m9, .inr (23, mA mr mv vf xl (nI zs) ff_9 xa_10 (nI T) (nI (pp + 1 + 1)) xi xt xn (nI ns) (nI (vv + 1)) (nI bb))), (mr 5, .inl (kI, 3002, .inl fk)), (mr 6, .inl (kI, 3002, .inl fa))]) [3, 4, 2] (by decide) rfl
        replace hKc := hK.sub (tys' := [(kI, .int)]) [0] rfl
        replace hFc := va_freeT (wc := [(m9, .inr (23, mA mr mv vf xl (nI zs) ff_9 xa_10 (nI T) (nI (pp + 1 + 1)) xi xt xn (nI ns) (nI (vv + 1)) (nI bb))), (mr 5, .inl (kI, 3002, .inl fk)), (mr 6, .inl (kI, 3002, .inl fa))]) hD hS hA [3, 4, 2] rfl
        refine va_callv (va_runV (As := [.int 60]) (rest := []) ⟨hx, hb, hml, hown, hts⟩ (c_rtkB l dC dI m9 mr mv vf xl xa_10 xi xt xn zs T (pp + 1 + 1) ns (vv + 1) bb kI fk fa ff_9 60 H.size hf11_0) (cwV 1 hts g_c_vlt_c_rtkB_74 rfl rfl rfl (by decide +kernel) ⟨by show 1 + 1 ≤ 14 + 14 * k; omega, by show 8 + (2 + 11) + (20) ≤ 322 + 323 * k; omega⟩) ⟨fun a U g mk q => by obtain ⟨q0, q1, qP, qK, qD⟩ := q; exact ⟨q0, q1, qP, va_K.moved (u := U) (U := U.calling g mk a) (Vm.Alike.refl U.vm) qK, qD⟩, va_recv hKc hPc (ci := 23) (q0 := 0) rfl rfl, fun U hU hW => ⟨rfl, by rw [hU], by rw [hU]; exact hPc, va_K.moved hW.alike hKc, hDc.weaken (fun _ _ _ _ => trivial)⟩⟩ rfl rfl hl.1 rfl (lv_room (Nat.le_of_ble_eq_true rfl)) dX23_let_74 ⟨(show 0 + 0 ≤ (8 * (T - pp) + 14) by omega), (show 0 + 0 ≤ (120 * (T - pp) + 480) by omega)⟩) hS (fun q _ h => hFc q h) hFc (fun u tS H1 locs ht hvm hw hB hz1 hk1 hS => ?_)
        obtain ⟨hP1, hK1, hD1⟩ := hB
        rw [ht] at hP1
        replace hK1 := va_K.moved hvm.symm hK1
        obtain ⟨hPj, hDj⟩ := va_joinT (wr := [(ss, .inr (19, [.int 0, .int (nI pp), .int r_11, .int 1, .int 0, .null, .null, .null, .null, .null, .null, .null, .null, .int 0])), (mr 8, .inl (kL, 3002, .inr (.inl fn)))]) (w1 := [(m9, .inr (23, mA mr mv vf xl (nI zs) ff_9 xa_10 (nI T) (nI (pp + 1 + 1)) xi xt xn (nI ns) (nI (vv + 1)) (nI bb))), (mr 5, .inl (kI, 3002, .inl fk)), (mr 6, .inl (kI, 3002, .inl fa))]) hP hD [3, 4, 2] [0, 1] rfl rfl (by decide) (by decide) hk1 hFc hP1 hD1
        replace hP := hPj
        replace hD := hDj
        clear hPj hDj
        replace hK := hK.app hK1
        generalize H1 = H at hP hS ⊢
        replace hP : va_P (dC, dI) vwCl (([(ss, .inr (19, [.int 0, .int (nI pp), .int r_11, .int 1, .int 0, .null, .null, .null, .null, .null, .null, .null, .null, .int 0])), (mr 8, .inl (kL, 3002, .inr (.inl fn))), (m9, .inr (23, mA mr mv vf xl (nI zs) ff_9 xa_10 (nI T) (nI (pp + 1 + 1)) xi xt xn (nI ns) (nI (vv + 1)) (nI bb))), (mr 5, .inl (kI, 3002, .inl fk)), (mr 6, .inl (kI, 3002, .inl fa))] : va_W) ++ (sT L F)) H := hP
        replace hD : va_D A (([(ss, .inr (19, [.int 0, .int (nI pp), .int r_11, .int 1, .int 0, .null, .null, .null, .null, .null, .null, .null, .null, .int 0])), (mr 8, .inl (kL, 3002, .inr (.inl fn))), (m9, .inr (23, mA mr mv vf xl (nI zs) ff_9 xa_10 (nI T) (nI (pp + 1 + 1)) xi xt xn (nI ns) (nI (vv + 1)) (nI bb))), (mr 5, .inl (kI, 3002, .inl fk)), (mr 6, .inl (kI, 3002, .inl fa))] : va_W) ++ (sT L F)) := hD
        replace hK : va_K (dC, dI) vwCl [(kI, .int), (kL, .long), (kE, .object RX15), (kS, .object RX19), (kB, .object RX14), (kA, .object RX13), (kV, .object RX21), (kI, .int)] s := hK
        replace hK := hK.sub (tys' := [(kI, .int), (kL, .long), (kE, .object RX15), (kS, .object RX19), (kB, .object RX14), (kA, .object RX13), (kV, .object RX21)]) [0, 1, 2, 3, 4, 5, 6] rfl
        clear hz1 hk1 hPc hDc hKc hFc hP1 hD1 hK1
        refine W.grow (fun hgs0 hgs1 => ?_)
        have hP9 := hP.subT (f' := [(ss, .inr (19, [.int 0, .int (nI pp), .int r_11, .int 1, .int 0, .null, .null, .null, .null, .null, .null, .null, .null, .int 0])), (m9, .inr (23, mA mr mv vf xl (nI zs) ff_9 xa_10 (nI T) (nI (pp + 1 + 1)) xi xt xn (nI ns) (nI (vv + 1)) (nI bb))), (mr 5, .inl (kI, 3002, .inl fk)), (mr 6, .inl (kI, 3002, .inl fa)), (mr 8, .inl (kL, 3002, .inr (.inl fn)))]) [0, 2, 3, 4, 1] rfl
        have hD9 := hD.subT (f' := [(ss, .inr (19, [.int 0, .int (nI pp), .int r_11, .int 1, .int 0, .null, .null, .null, .null, .null, .null, .null, .null, .int 0])), (m9, .inr (23, mA mr mv vf xl (nI zs) ff_9 xa_10 (nI T) (nI (pp + 1 + 1)) xi xt xn (nI ns) (nI (vv + 1)) (nI bb))), (mr 5, .inl (kI, 3002, .inl fk)), (mr 6, .inl (kI, 3002, .inl fa)), (mr 8, .inl (kL, 3002, .inr (.inl fn)))]) [0, 2, 3, 4, 1] (by decide) rfl
        have hK9 := hK.sub (tys' := [(kI, .int), (kL, .long), (kE, .object RX15), (kS, .object RX19), (kB, .object RX14), (kA, .object RX13), (kV, .object RX21)]) [0, 1, 2, 3, 4, 5, 6] rfl
        refine W.widen (k := (8 * (T - pp) + 14)) (n := (120 * (T - pp) + 480)) (by omega) (by omega) ?_
        exact W.vret hx hb hr (fun tS ht hW => ⟨⟨(), rfl, trivial, L, F, ff_9, xa_10, pp + 1 + 1, bb, vv + 1, 1, r_11, 1, .null, .null, exS.rf, ⟨by omega, by omega, by omega, by omega, by omega, by omega⟩, ⟨by omega, fun q9 => absurd q9 hf11_0⟩, (fun q9 => absurd q9 hf11_0), by rw [ht]; exact ⟨by omega, by omega⟩, by rw [ht]; exact hP9, va_K.moved hW.alike hK9, hD9⟩, hS.F ht⟩) hS.2.2 dX23_let_77
  · replace hPc := hP.subF (f' := [(m9, .inr (23, mA mr mv vf xl (nI zs) 0 xa (nI T) (nI (pp + 1)) xi xt xn (nI ns) (nI vv) (nI bb))), (mr 5, .inl (kI, 3002, .inl fk))]) [1, 2] rfl
    replace hDc := hD.subF (f' := [(m9, .inr (23, mA mr mv vf xl (nI zs) 0 xa (nI T) (nI (pp + 1)) xi xt xn (nI ns) (nI vv) (nI bb))), (mr 5, .inl (kI, 3002, .inl fk))]) [1, 2] (by decide) rfl
    replace hKc := hK.sub (tys' := [(kI, .int)]) [0] rfl
    replace hFc := va_freeT (wc := [(m9, .inr (23, mA mr mv vf xl (nI zs) 0 xa (nI T) (nI (pp + 1)) xi xt xn (nI ns) (nI vv) (nI bb))), (mr 5, .inl (kI, 3002, .inl fk))]) hD hS hA [1, 2] rfl
    refine va_calli (va_runV (As := [.int 14]) (rest := [.ref ss]) ⟨hx, hb, hml, hown, hts⟩ (c_rtsN l dC dI m9 mr mv vf xl xa xi xt xn zs T (pp + 1) ns vv bb kI fk fa 14 H.size hT hp_2 hk0 (by decide) hk_3) (cwV 1 hts g_c_vlt_c_rtsN_19 rfl rfl rfl (by decide +kernel) ⟨by show 1 + 1 ≤ 14 + 14 * k; omega, by show 8 + (2 + 11) + (21) ≤ 322 + 323 * k; omega⟩) ⟨fun a U g mk q => by obtain ⟨q0, q1, qP, qK, qD⟩ := q; exact ⟨q0, q1, qP, va_K.moved (u := U) (U := U.calling g mk a) (Vm.Alike.refl U.vm) qK, qD⟩, va_recv hKc hPc (ci := 23) (q0 := 0) rfl rfl, fun U hU hW => ⟨rfl, by rw [hU], by rw [hU]; exact hPc, va_K.moved hW.alike hKc, hDc.weaken (fun _ _ _ _ => trivial)⟩⟩ rfl rfl hl.1 rfl (lv_room (Nat.le_of_ble_eq_true rfl)) dX23_let_19 ⟨(show 0 + 0 ≤ (8 * (T - pp) + 14) by omega), (show 0 + 0 ≤ (120 * (T - pp) + 480) by omega)⟩) hS (fun q _ h => hFc q h) hFc (fun r_4 u tS H1 locs ht hvm hw hB hz1 hk1 hS => ?_)
    obtain ⟨hP1, hK1, hD1⟩ := hB
    rw [ht] at hP1
    replace hK1 := va_K.moved hvm.symm hK1
    obtain ⟨hPj, hDj⟩ := va_joinT (wr := [(ss, .inr (19, [.int 0, .int (nI pp), .int 0, .int 0, .int 0, .null, .null, .null, .null, .null, .null, .null, .null, .int 0])), (mr 6, .inl (kI, 3002, .inl fa)), (mr 8, .inl (kL, 3002, .inr (.inl fn)))]) (w1 := [(m9, .inr (23, mA mr mv vf xl (nI zs) 0 xa (nI T) (nI (pp + 1)) xi xt xn (nI ns) (nI vv) (nI bb))), (mr 5, .inl (kI, 3002, .inl fk))]) hP hD [1, 2] [0, 3, 4] rfl rfl (by decide) (by decide) hk1 hFc hP1 hD1
    replace hP := hPj
    replace hD := hDj
    clear hPj hDj
    replace hK := hK.app hK1
    generalize H1 = H at hP hS ⊢
    replace hP : va_P (dC, dI) vwCl (([(ss, .inr (19, [.int 0, .int (nI pp), .int 0, .int 0, .int 0, .null, .null, .null, .null, .null, .null, .null, .null, .int 0])), (mr 6, .inl (kI, 3002, .inl fa)), (mr 8, .inl (kL, 3002, .inr (.inl fn))), (m9, .inr (23, mA mr mv vf xl (nI zs) 0 xa (nI T) (nI (pp + 1)) xi xt xn (nI ns) (nI vv) (nI bb))), (mr 5, .inl (kI, 3002, .inl fk))] : va_W) ++ (sT L F)) H := hP
    replace hD : va_D A (([(ss, .inr (19, [.int 0, .int (nI pp), .int 0, .int 0, .int 0, .null, .null, .null, .null, .null, .null, .null, .null, .int 0])), (mr 6, .inl (kI, 3002, .inl fa)), (mr 8, .inl (kL, 3002, .inr (.inl fn))), (m9, .inr (23, mA mr mv vf xl (nI zs) 0 xa (nI T) (nI (pp + 1)) xi xt xn (nI ns) (nI vv) (nI bb))), (mr 5, .inl (kI, 3002, .inl fk))] : va_W) ++ (sT L F)) := hD
    replace hK : va_K (dC, dI) vwCl [(kI, .int), (kL, .long), (kE, .object RX15), (kS, .object RX19), (kB, .object RX14), (kA, .object RX13), (kV, .object RX21), (kI, .int)] s := hK
    replace hK := hK.sub (tys' := [(kI, .int), (kL, .long), (kE, .object RX15), (kS, .object RX19), (kB, .object RX14), (kA, .object RX13), (kV, .object RX21)]) [0, 1, 2, 3, 4, 5, 6] rfl
    clear hz1 hk1 hPc hDc hKc hFc hP1 hD1 hK1
    obtain rfl : r_4 = 0 := hw
    refine va_put (D := (dC, dI)) (ci := 19) (v := .int 0) (ty := .boolean) (C := RX19) (T := TX19) (N := 14) hx hb hts in_c_vlt_X19 tyX19 tyX19_ok nmX19 hown hK hP hD hS 0 rfl rfl 3 (by decide) (hts (.fieldLink RX23 278 "OwnedPlacesModel$Statement" "mut" "Z") (wm_c_vlt 18 rfl)) (fun _ h9 => h9) rfl (by decide +kernel) (by decide) (by decide) (Nat.le_of_ble_eq_true rfl) dX23_let_22 (fun H locs hP hD hS => ?_)
    replace hP : va_P (dC, dI) vwCl (([(ss, .inr (19, [.int 0, .int (nI pp), .int 0, .int 0, .int 0, .null, .null, .null, .null, .null, .null, .null, .null, .int 0])), (mr 6, .inl (kI, 3002, .inl fa)), (mr 8, .inl (kL, 3002, .inr (.inl fn))), (m9, .inr (23, mA mr mv vf xl (nI zs) 0 xa (nI T) (nI (pp + 1)) xi xt xn (nI ns) (nI vv) (nI bb))), (mr 5, .inl (kI, 3002, .inl fk))] : va_W) ++ (sT L F)) H := hP
    replace hD : va_D A (([(ss, .inr (19, [.int 0, .int (nI pp), .int 0, .int 0, .int 0, .null, .null, .null, .null, .null, .null, .null, .null, .int 0])), (mr 6, .inl (kI, 3002, .inl fa)), (mr 8, .inl (kL, 3002, .inr (.inl fn))), (m9, .inr (23, mA mr mv vf xl (nI zs) 0 xa (nI T) (nI (pp + 1)) xi xt xn (nI ns) (nI vv) (nI bb))), (mr 5, .inl (kI, 3002, .inl fk))] : va_W) ++ (sT L F)) := hD
    refine lv_aload_n hx hb dX23_let_25 rfl (lv_at hl 0 rfl) ?_
    by_cases hv_5 : fk (pp + 1) = 2 ∧ vv = 40
    · replace hPc := hP.subF (f' := [(m9, .inr (23, mA mr mv vf xl (nI zs) 0 xa (nI T) (nI (pp + 1)) xi xt xn (nI ns) (nI vv) (nI bb))), (mr 5, .inl (kI, 3002, .inl fk)), (mr 6, .inl (kI, 3002, .inl fa))]) [3, 4, 1] rfl
      replace hDc := hD.subF (f' := [(m9, .inr (23, mA mr mv vf xl (nI zs) 0 xa (nI T) (nI (pp + 1)) xi xt xn (nI ns) (nI vv) (nI bb))), (mr 5, .inl (kI, 3002, .inl fk)), (mr 6, .inl (kI, 3002, .inl fa))]) [3, 4, 1] (by decide) rfl
      replace hKc := hK.sub (tys' := [(kI, .int)]) [0] rfl
      replace hFc := va_freeT (wc := [(m9, .inr (23, mA mr mv vf xl (nI zs) 0 xa (nI T) (nI (pp + 1)) xi xt xn (nI ns) (nI vv) (nI bb))), (mr 5, .inl (kI, 3002, .inl fk)), (mr 6, .inl (kI, 3002, .inl fa))]) hD hS hA [3, 4, 1] rfl
      refine va_callv (va_runV (As := []) (rest := []) ⟨hx, hb, hml, hown, hts⟩ (c_rovN l dC dI m9 mr mv vf xl xa xi xt xn zs T (pp + 1) ns vv bb kI fk fa H.size hT hp_2 (by omega) hv_5) (cwV 0 hts g_c_vlt_c_rovN_26 rfl rfl rfl (by decide +kernel) ⟨by show 1 + 1 ≤ 14 + 14 * k; omega, by show 8 + (1 + 11) + (22) ≤ 322 + 323 * k; omega⟩) ⟨fun a U g mk q => by obtain ⟨q0, q1, qP, qK, qD⟩ := q; exact ⟨q0, q1, qP, va_K.moved (u := U) (U := U.calling g mk a) (Vm.Alike.refl U.vm) qK, qD⟩, va_recv hKc hPc (ci := 23) (q0 := 0) rfl rfl, fun U hU hW => ⟨rfl, by rw [hU], by rw [hU]; exact hPc, va_K.moved hW.alike hKc, hDc.weaken (fun _ _ _ _ => trivial)⟩⟩ rfl rfl hl.1 rfl (lv_room (Nat.le_of_ble_eq_true rfl)) dX23_let_26 ⟨(show 0 + 0 ≤ (8 * (T - pp) + 14) by omega), (show 0 + 0 ≤ (120 * (T - pp) + 480) by omega)⟩) hS (fun q _ h => hFc q h) hFc (fun u tS H1 locs ht hvm hw hB hz1 hk1 hS => ?_)
      obtain ⟨ff_6, xa_7, hf8_0, hP1, hK1, hD1⟩ := hB
      rw [ht] at hP1
      replace hK1 := va_K.moved hvm.symm hK1
      obtain ⟨hPj, hDj⟩ := va_joinT (wr := [(ss, .inr (19, [.int 0, .int (nI pp), .int 0, .int 0, .int 0, .null, .null, .null, .null, .null, .null, .null, .null, .int 0])), (mr 8, .inl (kL, 3002, .inr (.inl fn)))]) (w1 := [(m9, .inr (23, mA mr mv vf xl (nI zs) ff_6 xa_7 (nI T) (nI (pp + 1)) xi xt xn (nI ns) (nI (vv + 1)) (nI bb))), (mr 5, .inl (kI, 3002, .inl fk)), (mr 6, .inl (kI, 3002, .inl fa))]) hP hD [3, 4, 1] [0, 2] rfl rfl (by decide) (by decide) hk1 hFc hP1 hD1
      replace hP := hPj
      replace hD := hDj
      clear hPj hDj
      replace hK := hK.app hK1
      generalize H1 = H at hP hS ⊢
      replace hP : va_P (dC, dI) vwCl (([(ss, .inr (19, [.int 0, .int (nI pp), .int 0, .int 0, .int 0, .null, .null, .null, .null, .null, .null, .null, .null, .int 0])), (mr 8, .inl (kL, 3002, .inr (.inl fn))), (m9, .inr (23, mA mr mv vf xl (nI zs) ff_6 xa_7 (nI T) (nI (pp + 1)) xi xt xn (nI ns) (nI (vv + 1)) (nI bb))), (mr 5, .inl (kI, 3002, .inl fk)), (mr 6, .inl (kI, 3002, .inl fa))] : va_W) ++ (sT L F)) H := hP
      replace hD : va_D A (([(ss, .inr (19, [.int 0, .int (nI pp), .int 0, .int 0, .int 0, .null, .null, .null, .null, .null, .null, .null, .null, .int 0])), (mr 8, .inl (kL, 3002, .inr (.inl fn))), (m9, .inr (23, mA mr mv vf xl (nI zs) ff_6 xa_7 (nI T) (nI (pp + 1)) xi xt xn (nI ns) (nI (vv + 1)) (nI bb))), (mr 5, .inl (kI, 3002, .inl fk)), (mr 6, .inl (kI, 3002, .inl fa))] : va_W) ++ (sT L F)) := hD
      replace hK : va_K (dC, dI) vwCl [(kI, .int), (kL, .long), (kE, .object RX15), (kS, .object RX19), (kB, .object RX14), (kA, .object RX13), (kV, .object RX21), (kI, .int)] s := hK
      replace hK := hK.sub (tys' := [(kI, .int), (kL, .long), (kE, .object RX15), (kS, .object RX19), (kB, .object RX14), (kA, .object RX13), (kV, .object RX21)]) [0, 1, 2, 3, 4, 5, 6] rfl
      clear hz1 hk1 hPc hDc hKc hFc hP1 hD1 hK1
      refine lv_aload_n hx hb dX23_let_29 rfl (lv_at hl 1 rfl) ?_
      refine lv_aload_n hx hb dX23_let_30 rfl (lv_at hl 0 rfl) ?_
      replace hPc := hP.subF (f' := [(m9, .inr (23, mA mr mv vf xl (nI zs) ff_6 xa_7 (nI T) (nI (pp + 1)) xi xt xn (nI ns) (nI (vv + 1)) (nI bb))), (mr 5, .inl (kI, 3002, .inl fk)), (mr 6, .inl (kI, 3002, .inl fa))]) [2, 3, 4] rfl
      replace hDc := hD.subF (f' := [(m9, .inr (23, mA mr mv vf xl (nI zs) ff_6 xa_7 (nI T) (nI (pp + 1)) xi xt xn (nI ns) (nI (vv + 1)) (nI bb))), (mr 5, .inl (kI, 3002, .inl fk)), (mr 6, .inl (kI, 3002, .inl fa))]) [2, 3, 4] (by decide) rfl
      replace hKc := hK.sub (tys' := [(kI, .int)]) [0] rfl
      replace hFc := va_freeT (wc := [(m9, .inr (23, mA mr mv vf xl (nI zs) ff_6 xa_7 (nI T) (nI (pp + 1)) xi xt xn (nI ns) (nI (vv + 1)) (nI bb))), (mr 5, .inl (kI, 3002, .inl fk)), (mr 6, .inl (kI, 3002, .inl fa))]) hD hS hA [2, 3, 4] rfl
      refine va_calli (va_runV (As := []) (rest := [.ref ss]) ⟨hx, hb, hml, hown, hts⟩ (c_rnmB l dC dI m9 mr mv vf xl xa_7 xi xt xn zs T (pp + 1) ns (vv + 1) bb kI fk fa ff_6 H.size hf8_0) (cwV 0 hts g_c_vlt_c_rnmB_31 rfl rfl rfl (by decide +kernel) ⟨by show 2 + 1 ≤ 14 + 14 * k; omega, by show 8 + (1 + 11) + (41) ≤ 322 + 323 * k; omega⟩) ⟨fun a U g mk q => by obtain ⟨q0, q1, qP, qK, qD⟩ := q; exact ⟨q0, q1, qP, va_K.moved (u := U) (U := U.calling g mk a) (Vm.Alike.refl U.vm) qK, qD⟩, va_recv hKc hPc (ci := 23) (q0 := 0) rfl rfl, fun U hU hW => ⟨rfl, by rw [hU], by rw [hU]; exact hPc, va_K.moved hW.alike hKc, hDc.weaken (fun _ _ _ _ => trivial)⟩⟩ rfl rfl hl.1 rfl (lv_room (Nat.le_of_ble_eq_true rfl)) dX23_let_31 ⟨(show 0 + 0 ≤ (8 * (T - pp) + 14) by omega), (show 0 + 0 ≤ (120 * (T - pp) + 480) by omega)⟩) hS (fun q _ h => hFc q h) hFc (fun r_9 u tS H1 locs ht hvm hw hB hz1 hk1 hS => ?_)
      obtain ⟨hP1, hK1, hD1⟩ := hB
      rw [ht] at hP1
      replace hK1 := va_K.moved hvm.symm hK1
      obtain ⟨hPj, hDj⟩ := va_joinT (wr := [(ss, .inr (19, [.int 0, .int (nI pp), .int 0, .int 0, .int 0, .null, .null, .null, .null, .null, .null, .null, .null, .int 0])), (mr 8, .inl (kL, 3002, .inr (.inl fn)))]) (w1 := [(m9, .inr (23, mA mr mv vf xl (nI zs) ff_6 xa_7 (nI T) (nI (pp + 1)) xi xt xn (nI ns) (nI (vv + 1)) (nI bb))), (mr 5, .inl (kI, 3002, .inl fk)), (mr 6, .inl (kI, 3002, .inl fa))]) hP hD [2, 3, 4] [0, 1] rfl rfl (by decide) (by decide) hk1 hFc hP1 hD1
      replace hP := hPj
      replace hD := hDj
      clear hPj hDj
      replace hK := hK.app hK1
      generalize H1 = H at hP hS ⊢
      replace hP : va_P (dC, dI) vwCl (([(ss, .inr (19, [.int 0, .int (nI pp), .int 0, .int 0, .int 0, .null, .null, .null, .null, .null, .null, .null, .null, .int 0])), (mr 8, .inl (kL, 3002, .inr (.inl fn))), (m9, .inr (23, mA mr mv vf xl (nI zs) ff_6 xa_7 (nI T) (nI (pp + 1)) xi xt xn (nI ns) (nI (vv + 1)) (nI bb))), (mr 5, .inl (kI, 3002, .inl fk)), (mr 6, .inl (kI, 3002, .inl fa))] : va_W) ++ (sT L F)) H := hP
      replace hD : va_D A (([(ss, .inr (19, [.int 0, .int (nI pp), .int 0, .int 0, .int 0, .null, .null, .null, .null, .null, .null, .null, .null, .int 0])), (mr 8, .inl (kL, 3002, .inr (.inl fn))), (m9, .inr (23, mA mr mv vf xl (nI zs) ff_6 xa_7 (nI T) (nI (pp + 1)) xi xt xn (nI ns) (nI (vv + 1)) (nI bb))), (mr 5, .inl (kI, 3002, .inl fk)), (mr 6, .inl (kI, 3002, .inl fa))] : va_W) ++ (sT L F)) := hD
      replace hK : va_K (dC, dI) vwCl [(kI, .int), (kL, .long), (kE, .object RX15), (kS, .object RX19), (kB, .object RX14), (kA, .object RX13), (kV, .object RX21), (kI, .int)] s := hK
      replace hK := hK.sub (tys' := [(kI, .int), (kL, .long), (kE, .object RX15), (kS, .object RX19), (kB, .object RX14), (kA, .object RX13), (kV, .object RX21)]) [0, 1, 2, 3, 4, 5, 6] rfl
      clear hz1 hk1 hPc hDc hKc hFc hP1 hD1 hK1
      refine va_put (D := (dC, dI)) (ci := 19) (v := .int r_9) (ty := .int) (C := RX19) (T := TX19) (N := 14) hx hb hts in_c_vlt_X19 tyX19 tyX19_ok nmX19 hown hK hP hD hS 0 rfl rfl 2 (by decide) (hts (.fieldLink RX23 285 "OwnedPlacesModel$Statement" "name" "I") (wm_c_vlt 38 rfl)) (fun _ h9 => h9) rfl (by decide +kernel) rfl rfl (Nat.le_of_ble_eq_true rfl) dX23_let_34 (fun H locs hP hD hS => ?_)
      replace hP : va_P (dC, dI) vwCl (([(ss, .inr (19, [.int 0, .int (nI pp), .int r_9, .int 0, .int 0, .null, .null, .null, .null, .null, .null, .null, .null, .int 0])), (mr 8, .inl (kL, 3002, .inr (.inl fn))), (m9, .inr (23, mA mr mv vf xl (nI zs) ff_6 xa_7 (nI T) (nI (pp + 1)) xi xt xn (nI ns) (nI (vv + 1)) (nI bb))), (mr 5, .inl (kI, 3002, .inl fk)), (mr 6, .inl (kI, 3002, .inl fa))] : va_W) ++ (sT L F)) H := hP
      replace hD : va_D A (([(ss, .inr (19, [.int 0, .int (nI pp), .int r_9, .int 0, .int 0, .null, .null, .null, .null, .null, .null, .null, .null, .int 0])), (mr 8, .inl (kL, 3002, .inr (.inl fn))), (m9, .inr (23, mA mr mv vf xl (nI zs) ff_6 xa_7 (nI T) (nI (pp + 1)) xi xt xn (nI ns) (nI (vv + 1)) (nI bb))), (mr 5, .inl (kI, 3002, .inl fk)), (mr 6, .inl (kI, 3002, .inl fa))] : va_W) ++ (sT L F)) := hD
      refine lv_aload_n hx hb dX23_let_37 rfl (lv_at hl 0 rfl) ?_
      refine lv_bipush (v := 58) hx hb dX23_let_38 (by decide) ?_
      replace hPc := hP.subF (f' := [(m9, .inr (23, mA mr mv vf xl (nI zs) ff_6 xa_7 (nI T) (nI (pp + 1)) xi xt xn (nI ns) (nI (vv + 1)) (nI bb))), (mr 5, .inl (kI, 3002, .inl fk))]) [2, 3] rfl
      replace hDc := hD.subF (f' := [(m9, .inr (23, mA mr mv vf xl (nI zs) ff_6 xa_7 (nI T) (nI (pp + 1)) xi xt xn (nI ns) (nI (vv + 1)) (nI bb))), (mr 5, .inl (kI, 3002, .inl fk))]) [2, 3] (by decide) rfl
      replace hKc := hK.sub (tys' := [(kI, .int)]) [0] rfl
      replace hFc := va_freeT (wc := [(m9, .inr (23, mA mr mv vf xl (nI zs) ff_6 xa_7 (nI T) (nI (pp + 1)) xi xt xn (nI ns) (nI (vv + 1)) (nI bb))), (mr 5, .inl (kI, 3002, .inl fk))]) hD hS hA [2, 3] rfl
      refine va_calli (va_runV (As := [.int 58]) (rest := []) ⟨hx, hb, hml, hown, hts⟩ (c_rtsB l dC dI m9 mr mv vf xl xa_7 xi xt xn zs T (pp + 1) ns (vv + 1) bb kI fk fa ff_6 58 H.size hf8_0) (cwV 1 hts g_c_vlt_c_rtsB_40 rfl rfl rfl (by decide +kernel) ⟨by show 1 + 1 ≤ 14 + 14 * k; omega, by show 8 + (2 + 11) + (20) ≤ 322 + 323 * k; omega⟩) ⟨fun a U g mk q => by obtain ⟨q0, q1, qP, qK, qD⟩ := q; exact ⟨q0, q1, qP, va_K.moved (u := U) (U := U.calling g mk a) (Vm.Alike.refl U.vm) qK, qD⟩, va_recv hKc hPc (ci := 23) (q0 := 0) rfl rfl, fun U hU hW => ⟨rfl, by rw [hU], by rw [hU]; exact hPc, va_K.moved hW.alike hKc, hDc.weaken (fun _ _ _ _ => trivial)⟩⟩ rfl rfl hl.1 rfl (lv_room (Nat.le_of_ble_eq_true rfl)) dX23_let_40 ⟨(show 0 + 0 ≤ (8 * (T - pp) + 14) by omega), (show 0 + 0 ≤ (120 * (T - pp) + 480) by omega)⟩) hS (fun q _ h => hFc q h) hFc (fun r_10 u tS H1 locs ht hvm hw hB hz1 hk1 hS => ?_)
      obtain ⟨hP1, hK1, hD1⟩ := hB
      rw [ht] at hP1
      replace hK1 := va_K.moved hvm.symm hK1
      obtain ⟨hPj, hDj⟩ := va_joinT (wr := [(ss, .inr (19, [.int 0, .int (nI pp), .int r_9, .int 0, .int 0, .null, .null, .null, .null, .null, .null, .null, .null, .int 0])), (mr 8, .inl (kL, 3002, .inr (.inl fn))), (mr 6, .inl (kI, 3002, .inl fa))]) (w1 := [(m9, .inr (23, mA mr mv vf xl (nI zs) ff_6 xa_7 (nI T) (nI (pp + 1)) xi xt xn (nI ns) (nI (vv + 1)) (nI bb))), (mr 5, .inl (kI, 3002, .inl fk))]) hP hD [2, 3] [0, 1, 4] rfl rfl (by decide) (by decide) hk1 hFc hP1 hD1
      replace hP := hPj
      replace hD := hDj
      clear hPj hDj
      replace hK := hK.app hK1
      generalize H1 = H at hP hS ⊢
      replace hP : va_P (dC, dI) vwCl (([(ss, .inr (19, [.int 0, .int (nI pp), .int r_9, .int 0, .int 0, .null, .null, .null, .null, .null, .null, .null, .null, .int 0])), (mr 8, .inl (kL, 3002, .inr (.inl fn))), (mr 6, .inl (kI, 3002, .inl fa)), (m9, .inr (23, mA mr mv vf xl (nI zs) ff_6 xa_7 (nI T) (nI (pp + 1)) xi xt xn (nI ns) (nI (vv + 1)) (nI bb))), (mr 5, .inl (kI, 3002, .inl fk))] : va_W) ++ (sT L F)) H := hP
      replace hD : va_D A (([(ss, .inr (19, [.int 0, .int (nI pp), .int r_9, .int 0, .int 0, .null, .null, .null, .null, .null, .null, .null, .null, .int 0])), (mr 8, .inl (kL, 3002, .inr (.inl fn))), (mr 6, .inl (kI, 3002, .inl fa)), (m9, .inr (23, mA mr mv vf xl (nI zs) ff_6 xa_7 (nI T) (nI (pp + 1)) xi xt xn (nI ns) (nI (vv + 1)) (nI bb))), (mr 5, .inl (kI, 3002, .inl fk))] : va_W) ++ (sT L F)) := hD
      replace hK : va_K (dC, dI) vwCl [(kI, .int), (kL, .long), (kE, .object RX15), (kS, .object RX19), (kB, .object RX14), (kA, .object RX13), (kV, .object RX21), (kI, .int)] s := hK
      replace hK := hK.sub (tys' := [(kI, .int), (kL, .long), (kE, .object RX15), (kS, .object RX19), (kB, .object RX14), (kA, .object RX13), (kV, .object RX21)]) [0, 1, 2, 3, 4, 5, 6] rfl
      clear hz1 hk1 hPc hDc hKc hFc hP1 hD1 hK1
      obtain rfl : r_10 = 0 := hw
      refine lv_if_eq (tgt := 54) hx hb dX23_let_43 (by decide) (fun _ => ?_) (fun c_11 => absurd (by decide) c_11)
      refine lv_aload_n hx hb dX23_let_54 rfl (lv_at hl 0 rfl) ?_
      refine lv_bipush (v := 54) hx hb dX23_let_55 (by decide) ?_
      replace hPc := hP.subF (f' := [(m9, .inr (23, mA mr mv vf xl (nI zs) ff_6 xa_7 (nI T) (nI (pp + 1)) xi xt xn (nI ns) (nI (vv + 1)) (nI bb))), (mr 5, .inl (kI, 3002, .inl fk))]) [3, 4] rfl
      replace hDc := hD.subF (f' := [(m9, .inr (23, mA mr mv vf xl (nI zs) ff_6 xa_7 (nI T) (nI (pp + 1)) xi xt xn (nI ns) (nI (vv + 1)) (nI bb))), (mr 5, .inl (kI, 3002, .inl fk))]) [3, 4] (by decide) rfl
      replace hKc := hK.sub (tys' := [(kI, .int)]) [0] rfl
      replace hFc := va_freeT (wc := [(m9, .inr (23, mA mr mv vf xl (nI zs) ff_6 xa_7 (nI T) (nI (pp + 1)) xi xt xn (nI ns) (nI (vv + 1)) (nI bb))), (mr 5, .inl (kI, 3002, .inl fk))]) hD hS hA [3, 4] rfl
      refine va_calli (va_runV (As := [.int 54]) (rest := []) ⟨hx, hb, hml, hown, hts⟩ (c_rtsB l dC dI m9 mr mv vf xl xa_7 xi xt xn zs T (pp + 1) ns (vv + 1) bb kI fk fa ff_6 54 H.size hf8_0) (cwV 1 hts g_c_vlt_c_rtsB_57 rfl rfl rfl (by decide +kernel) ⟨by show 1 + 1 ≤ 14 + 14 * k; omega, by show 8 + (2 + 11) + (20) ≤ 322 + 323 * k; omega⟩) ⟨fun a U g mk q => by obtain ⟨q0, q1, qP, qK, qD⟩ := q; exact ⟨q0, q1, qP, va_K.moved (u := U) (U := U.calling g mk a) (Vm.Alike.refl U.vm) qK, qD⟩, va_recv hKc hPc (ci := 23) (q0 := 0) rfl rfl, fun U hU hW => ⟨rfl, by rw [hU], by rw [hU]; exact hPc, va_K.moved hW.alike hKc, hDc.weaken (fun _ _ _ _ => trivial)⟩⟩ rfl rfl hl.1 rfl (lv_room (Nat.le_of_ble_eq_true rfl)) dX23_let_57 ⟨(show 0 + 0 ≤ (8 * (T - pp) + 14) by omega), (show 0 + 0 ≤ (120 * (T - pp) + 480) by omega)⟩) hS (fun q _ h => hFc q h) hFc (fun r_12 u tS H1 locs ht hvm hw hB hz1 hk1 hS => ?_)
      obtain ⟨hP1, hK1, hD1⟩ := hB
      rw [ht] at hP1
      replace hK1 := va_K.moved hvm.symm hK1
      obtain ⟨hPj, hDj⟩ := va_joinT (wr := [(ss, .inr (19, [.int 0, .int (nI pp), .int r_9, .int 0, .int 0, .null, .null, .null, .null, .null, .null, .null, .null, .int 0])), (mr 8, .inl (kL, 3002, .inr (.inl fn))), (mr 6, .inl (kI, 3002, .inl fa))]) (w1 := [(m9, .inr (23, mA mr mv vf xl (nI zs) ff_6 xa_7 (nI T) (nI (pp + 1)) xi xt xn (nI ns) (nI (vv + 1)) (nI bb))), (mr 5, .inl (kI, 3002, .inl fk))]) hP hD [3, 4] [0, 1, 2] rfl rfl (by decide) (by decide) hk1 hFc hP1 hD1
      replace hP := hPj
      replace hD := hDj
      clear hPj hDj
      replace hK := hK.app hK1
      generalize H1 = H at hP hS ⊢
      replace hP : va_P (dC, dI) vwCl (([(ss, .inr (19, [.int 0, .int (nI pp), .int r_9, .int 0, .int 0, .null, .null, .null, .null, .null, .null, .null, .null, .int 0])), (mr 8, .inl (kL, 3002, .inr (.inl fn))), (mr 6, .inl (kI, 3002, .inl fa)), (m9, .inr (23, mA mr mv vf xl (nI zs) ff_6 xa_7 (nI T) (nI (pp + 1)) xi xt xn (nI ns) (nI (vv + 1)) (nI bb))), (mr 5, .inl (kI, 3002, .inl fk))] : va_W) ++ (sT L F)) H := hP
      replace hD : va_D A (([(ss, .inr (19, [.int 0, .int (nI pp), .int r_9, .int 0, .int 0, .null, .null, .null, .null, .null, .null, .null, .null, .int 0])), (mr 8, .inl (kL, 3002, .inr (.inl fn))), (mr 6, .inl (kI, 3002, .inl fa)), (m9, .inr (23, mA mr mv vf xl (nI zs) ff_6 xa_7 (nI T) (nI (pp + 1)) xi xt xn (nI ns) (nI (vv + 1)) (nI bb))), (mr 5, .inl (kI, 3002, .inl fk))] : va_W) ++ (sT L F)) := hD
      replace hK : va_K (dC, dI) vwCl [(kI, .int), (kL, .long), (kE, .object RX15), (kS, .object RX19), (kB, .object RX14), (kA, .object RX13), (kV, .object RX21), (kI, .int)] s := hK
      replace hK := hK.sub (tys' := [(kI, .int), (kL, .long), (kE, .object RX15), (kS, .object RX19), (kB, .object RX14), (kA, .object RX13), (kV, .object RX21)]) [0, 1, 2, 3, 4, 5, 6] rfl
      clear hz1 hk1 hPc hDc hKc hFc hP1 hD1 hK1
      obtain rfl : r_12 = 0 := hw
      refine lv_if_eq (tgt := 71) hx hb dX23_let_60 (by decide) (fun _ => ?_) (fun c_13 => absurd (by decide) c_13)
      refine lv_aload_n hx hb dX23_let_71 rfl (lv_at hl 0 rfl) ?_
      refine lv_bipush (v := 60) hx hb dX23_let_72 (by decide) ?_
      replace hPc := hP.subF (f' := [(m9, .inr (23, mA mr mv vf xl (nI zs) ff_6 xa_7 (nI T) (nI (pp + 1)) xi xt xn (nI ns) (nI (vv + 1)) (nI bb))), (mr 5, .inl (kI, 3002, .inl fk)), (mr 6, .inl (kI, 3002, .inl fa))]) [3, 4, 2] rfl
      replace hDc := hD.subF (f' := [(m9, .inr (23, mA mr mv vf xl (nI zs) ff_6 xa_7 (nI T) (nI (pp + 1)) xi xt xn (nI ns) (nI (vv + 1)) (nI bb))), (mr 5, .inl (kI, 3002, .inl fk)), (mr 6, .inl (kI, 3002, .inl fa))]) [3, 4, 2] (by decide) rfl
      replace hKc := hK.sub (tys' := [(kI, .int)]) [0] rfl
      replace hFc := va_freeT (wc := [(m9, .inr (23, mA mr mv vf xl (nI zs) ff_6 xa_7 (nI T) (nI (pp + 1)) xi xt xn (nI ns) (nI (vv + 1)) (nI bb))), (mr 5, .inl (kI, 3002, .inl fk)), (mr 6, .inl (kI, 3002, .inl fa))]) hD hS hA [3, 4, 2] rfl
      refine va_callv (va_runV (As := [.int 60]) (rest := []) ⟨hx, hb, hml, hown, hts⟩ (c_rtkB l dC dI m9 mr mv vf xl xa_7 xi xt xn zs T (pp + 1) ns (vv + 1) bb kI fk fa ff_6 60 H.size hf8_0) (cwV 1 hts g_c_vlt_c_rtkB_74 rfl rfl rfl (by decide +kernel) ⟨by show 1 + 1 ≤ 14 + 14 * k; omega, by show 8 + (2 + 11) + (20) ≤ 322 + 323 * k; omega⟩) ⟨fun a U g mk q => by obtain ⟨q0, q1, qP, qK, qD⟩ := q; exact ⟨q0, q1, qP, va_K.moved (u := U) (U := U.calling g mk a) (Vm.Alike.refl U.vm) qK, qD⟩, va_recv hKc hPc (ci := 23) (q0 := 0) rfl rfl, fun U hU hW => ⟨rfl, by rw [hU], by rw [hU]; exact hPc, va_K.moved hW.alike hKc, hDc.weaken (fun _ _ _ _ => trivial)⟩⟩ rfl rfl hl.1 rfl (lv_room (Nat.le_of_ble_eq_true rfl)) dX23_let_74 ⟨(show 0 + 0 ≤ (8 * (T - pp) + 14) by omega), (show 0 + 0 ≤ (120 * (T - pp) + 480) by omega)⟩) hS (fun q _ h => hFc q h) hFc (fun u tS H1 locs ht hvm hw hB hz1 hk1 hS => ?_)
      obtain ⟨hP1, hK1, hD1⟩ := hB
      rw [ht] at hP1
      replace hK1 := va_K.moved hvm.symm hK1
      obtain ⟨hPj, hDj⟩ := va_joinT (wr := [(ss, .inr (19, [.int 0, .int (nI pp), .int r_9, .int 0, .int 0, .null, .null, .null, .null, .null, .null, .null, .null, .int 0])), (mr 8, .inl (kL, 3002, .inr (.inl fn)))]) (w1 := [(m9, .inr (23, mA mr mv vf xl (nI zs) ff_6 xa_7 (nI T) (nI (pp + 1)) xi xt xn (nI ns) (nI (vv + 1)) (nI bb))), (mr 5, .inl (kI, 3002, .inl fk)), (mr 6, .inl (kI, 3002, .inl fa))]) hP hD [3, 4, 2] [0, 1] rfl rfl (by decide) (by decide) hk1 hFc hP1 hD1
      replace hP := hPj
      replace hD := hDj
      clear hPj hDj
      replace hK := hK.app hK1
      generalize H1 = H at hP hS ⊢
      replace hP : va_P (dC, dI) vwCl (([(ss, .inr (19, [.int 0, .int (nI pp), .int r_9, .int 0, .int 0, .null, .null, .null, .null, .null, .null, .null, .null, .int 0])), (mr 8, .inl (kL, 3002, .inr (.inl fn))), (m9, .inr (23, mA mr mv vf xl (nI zs) ff_6 xa_7 (nI T) (nI (pp + 1)) xi xt xn (nI ns) (nI (vv + 1)) (nI bb))), (mr 5, .inl (kI, 3002, .inl fk)), (mr 6, .inl (kI, 3002, .inl fa))] : va_W) ++ (sT L F)) H := hP
      replace hD : va_D A (([(ss, .inr (19, [.int 0, .int (nI pp), .int r_9, .int 0, .int 0, .null, .null, .null, .null, .null, .null, .null, .null, .int 0])), (mr 8, .inl (kL, 3002, .inr (.inl fn))), (m9, .inr (23, mA mr mv vf xl (nI zs) ff_6 xa_7 (nI T) (nI (pp + 1)) xi xt xn (nI ns) (nI (vv + 1)) (nI bb))), (mr 5, .inl (kI, 3002, .inl fk)), (mr 6, .inl (kI, 3002, .inl fa))] : va_W) ++ (sT L F)) := hD
      replace hK : va_K (dC, dI) vwCl [(kI, .int), (kL, .long), (kE, .object RX15), (kS, .object RX19), (kB, .object RX14), (kA, .object RX13), (kV, .object RX21), (kI, .int)] s := hK
      replace hK := hK.sub (tys' := [(kI, .int), (kL, .long), (kE, .object RX15), (kS, .object RX19), (kB, .object RX14), (kA, .object RX13), (kV, .object RX21)]) [0, 1, 2, 3, 4, 5, 6] rfl
      clear hz1 hk1 hPc hDc hKc hFc hP1 hD1 hK1
      refine W.grow (fun hgs0 hgs1 => ?_)
      have hP9 := hP.subT (f' := [(ss, .inr (19, [.int 0, .int (nI pp), .int r_9, .int 0, .int 0, .null, .null, .null, .null, .null, .null, .null, .null, .int 0])), (m9, .inr (23, mA mr mv vf xl (nI zs) ff_6 xa_7 (nI T) (nI (pp + 1)) xi xt xn (nI ns) (nI (vv + 1)) (nI bb))), (mr 5, .inl (kI, 3002, .inl fk)), (mr 6, .inl (kI, 3002, .inl fa)), (mr 8, .inl (kL, 3002, .inr (.inl fn)))]) [0, 2, 3, 4, 1] rfl
      have hD9 := hD.subT (f' := [(ss, .inr (19, [.int 0, .int (nI pp), .int r_9, .int 0, .int 0, .null, .null, .null, .null, .null, .null, .null, .null, .int 0])), (m9, .inr (23, mA mr mv vf xl (nI zs) ff_6 xa_7 (nI T) (nI (pp + 1)) xi xt xn (nI ns) (nI (vv + 1)) (nI bb))), (mr 5, .inl (kI, 3002, .inl fk)), (mr 6, .inl (kI, 3002, .inl fa)), (mr 8, .inl (kL, 3002, .inr (.inl fn)))]) [0, 2, 3, 4, 1] (by decide) rfl
      have hK9 := hK.sub (tys' := [(kI, .int), (kL, .long), (kE, .object RX15), (kS, .object RX19), (kB, .object RX14), (kA, .object RX13), (kV, .object RX21)]) [0, 1, 2, 3, 4, 5, 6] rfl
      refine W.widen (k := (8 * (T - pp) + 14)) (n := (120 * (T - pp) + 480)) (by omega) (by omega) ?_
      exact W.vret hx hb hr (fun tS ht hW => ⟨⟨(), rfl, trivial, L, F, ff_6, xa_7, pp + 1, bb, vv + 1, 1, r_9, 0, .null, .null, exS.rf, ⟨by omega, by omega, by omega, by omega, by omega, by omega⟩, ⟨by omega, fun q9 => absurd q9 hf8_0⟩, (fun q9 => absurd q9 hf8_0), by rw [ht]; exact ⟨by omega, by omega⟩, by rw [ht]; exact hP9, va_K.moved hW.alike hK9, hD9⟩, hS.F ht⟩) hS.2.2 dX23_let_77
    · replace hPc := hP.subF (f' := [(m9, .inr (23, mA mr mv vf xl (nI zs) 0 xa (nI T) (nI (pp + 1)) xi xt xn (nI ns) (nI vv) (nI bb))), (mr 5, .inl (kI, 3002, .inl fk)), (mr 6, .inl (kI, 3002, .inl fa))]) [3, 4, 1] rfl
      replace hDc := hD.subF (f' := [(m9, .inr (23, mA mr mv vf xl (nI zs) 0 xa (nI T) (nI (pp + 1)) xi xt xn (nI ns) (nI vv) (nI bb))), (mr 5, .inl (kI, 3002, .inl fk)), (mr 6, .inl (kI, 3002, .inl fa))]) [3, 4, 1] (by decide) rfl
      replace hKc := hK.sub (tys' := [(kI, .int)]) [0] rfl
      replace hFc := va_freeT (wc := [(m9, .inr (23, mA mr mv vf xl (nI zs) 0 xa (nI T) (nI (pp + 1)) xi xt xn (nI ns) (nI vv) (nI bb))), (mr 5, .inl (kI, 3002, .inl fk)), (mr 6, .inl (kI, 3002, .inl fa))]) hD hS hA [3, 4, 1] rfl
      refine va_callv (va_runV (As := []) (rest := []) ⟨hx, hb, hml, hown, hts⟩ (c_rovY l dC dI m9 mr mv vf xl xa xi xt xn zs T (pp + 1) ns vv bb kI fk fa H.size hT hp_2 (by omega) (Classical.not_and_iff_not_or_not.mp hv_5)) (cwV 0 hts g_c_vlt_c_rovY_26 rfl rfl rfl (by decide +kernel) ⟨by show 1 + 1 ≤ 14 + 14 * k; omega, by show 8 + (1 + 11) + (21) ≤ 322 + 323 * k; omega⟩) ⟨fun a U g mk q => by obtain ⟨q0, q1, qP, qK, qD⟩ := q; exact ⟨q0, q1, qP, va_K.moved (u := U) (U := U.calling g mk a) (Vm.Alike.refl U.vm) qK, qD⟩, va_recv hKc hPc (ci := 23) (q0 := 0) rfl rfl, fun U hU hW => ⟨rfl, by rw [hU], by rw [hU]; exact hPc, va_K.moved hW.alike hKc, hDc.weaken (fun _ _ _ _ => trivial)⟩⟩ rfl rfl hl.1 rfl (lv_room (Nat.le_of_ble_eq_true rfl)) dX23_let_26 ⟨(show 0 + 0 ≤ (8 * (T - pp) + 14) by omega), (show 0 + 0 ≤ (120 * (T - pp) + 480) by omega)⟩) hS (fun q _ h => hFc q h) hFc (fun u tS H1 locs ht hvm hw hB hz1 hk1 hS => ?_)
      obtain ⟨hP1, hK1, hD1⟩ := hB
      rw [ht] at hP1
      replace hK1 := va_K.moved hvm.symm hK1
      obtain ⟨hPj, hDj⟩ := va_joinT (wr := [(ss, .inr (19, [.int 0, .int (nI pp), .int 0, .int 0, .int 0, .null, .null, .null, .null, .null, .null, .null, .null, .int 0])), (mr 8, .inl (kL, 3002, .inr (.inl fn)))]) (w1 := [(m9, .inr (23, mA mr mv vf xl (nI zs) 0 xa (nI T) (nI (pp + 1)) xi xt xn (nI ns) (nI (vv + 1)) (nI bb))), (mr 5, .inl (kI, 3002, .inl fk)), (mr 6, .inl (kI, 3002, .inl fa))]) hP hD [3, 4, 1] [0, 2] rfl rfl (by decide) (by decide) hk1 hFc hP1 hD1
      replace hP := hPj
      replace hD := hDj
      clear hPj hDj
      replace hK := hK.app hK1
      generalize H1 = H at hP hS ⊢
      replace hP : va_P (dC, dI) vwCl (([(ss, .inr (19, [.int 0, .int (nI pp), .int 0, .int 0, .int 0, .null, .null, .null, .null, .null, .null, .null, .null, .int 0])), (mr 8, .inl (kL, 3002, .inr (.inl fn))), (m9, .inr (23, mA mr mv vf xl (nI zs) 0 xa (nI T) (nI (pp + 1)) xi xt xn (nI ns) (nI (vv + 1)) (nI bb))), (mr 5, .inl (kI, 3002, .inl fk)), (mr 6, .inl (kI, 3002, .inl fa))] : va_W) ++ (sT L F)) H := hP
      replace hD : va_D A (([(ss, .inr (19, [.int 0, .int (nI pp), .int 0, .int 0, .int 0, .null, .null, .null, .null, .null, .null, .null, .null, .int 0])), (mr 8, .inl (kL, 3002, .inr (.inl fn))), (m9, .inr (23, mA mr mv vf xl (nI zs) 0 xa (nI T) (nI (pp + 1)) xi xt xn (nI ns) (nI (vv + 1)) (nI bb))), (mr 5, .inl (kI, 3002, .inl fk)), (mr 6, .inl (kI, 3002, .inl fa))] : va_W) ++ (sT L F)) := hD
      replace hK : va_K (dC, dI) vwCl [(kI, .int), (kL, .long), (kE, .object RX15), (kS, .object RX19), (kB, .object RX14), (kA, .object RX13), (kV, .object RX21), (kI, .int)] s := hK
      replace hK := hK.sub (tys' := [(kI, .int), (kL, .long), (kE, .object RX15), (kS, .object RX19), (kB, .object RX14), (kA, .object RX13), (kV, .object RX21)]) [0, 1, 2, 3, 4, 5, 6] rfl
      clear hz1 hk1 hPc hDc hKc hFc hP1 hD1 hK1
      refine lv_aload_n hx hb dX23_let_29 rfl (lv_at hl 1 rfl) ?_
      refine lv_aload_n hx hb dX23_let_30 rfl (lv_at hl 0 rfl) ?_
      by_cases hk_7 : fk (pp + 1) = 2
      · replace hPc := hP.subF (f' := [(m9, .inr (23, mA mr mv vf xl (nI zs) 0 xa (nI T) (nI (pp + 1)) xi xt xn (nI ns) (nI (vv + 1)) (nI bb))), (mr 5, .inl (kI, 3002, .inl fk)), (mr 6, .inl (kI, 3002, .inl fa))]) [2, 3, 4] rfl
        replace hDc := hD.subF (f' := [(m9, .inr (23, mA mr mv vf xl (nI zs) 0 xa (nI T) (nI (pp + 1)) xi xt xn (nI ns) (nI (vv + 1)) (nI bb))), (mr 5, .inl (kI, 3002, .inl fk)), (mr 6, .inl (kI, 3002, .inl fa))]) [2, 3, 4] (by decide) rfl
        replace hKc := hK.sub (tys' := [(kI, .int)]) [0] rfl
        replace hFc := va_freeT (wc := [(m9, .inr (23, mA mr mv vf xl (nI zs) 0 xa (nI T) (nI (pp + 1)) xi xt xn (nI ns) (nI (vv + 1)) (nI bb))), (mr 5, .inl (kI, 3002, .inl fk)), (mr 6, .inl (kI, 3002, .inl fa))]) hD hS hA [2, 3, 4] rfl
        refine va_calli (va_runV (As := []) (rest := [.ref ss]) ⟨hx, hb, hml, hown, hts⟩ (c_rnmY l dC dI m9 mr mv vf xl xa xi xt xn zs T (pp + 1) ns (vv + 1) bb kI fk fa H.size hT hp_2 hk0 hk_7) (cwV 0 hts g_c_vlt_c_rnmY_31 rfl rfl rfl (by decide +kernel) ⟨by show 2 + 1 ≤ 14 + 14 * k; omega, by show 8 + (1 + 11) + (42) ≤ 322 + 323 * k; omega⟩) ⟨fun a U g mk q => by obtain ⟨q0, q1, qP, qK, qD⟩ := q; exact ⟨q0, q1, qP, va_K.moved (u := U) (U := U.calling g mk a) (Vm.Alike.refl U.vm) qK, qD⟩, va_recv hKc hPc (ci := 23) (q0 := 0) rfl rfl, fun U hU hW => ⟨rfl, by rw [hU], by rw [hU]; exact hPc, va_K.moved hW.alike hKc, hDc.weaken (fun _ _ _ _ => trivial)⟩⟩ rfl rfl hl.1 rfl (lv_room (Nat.le_of_ble_eq_true rfl)) dX23_let_31 ⟨(show 0 + 0 ≤ (8 * (T - pp) + 14) by omega), (show 0 + 0 ≤ (120 * (T - pp) + 480) by omega)⟩) hS (fun q _ h => hFc q h) hFc (fun r_8 u tS H1 locs ht hvm hw hB hz1 hk1 hS => ?_)
        obtain ⟨hP1, hK1, hD1⟩ := hB
        rw [ht] at hP1
        replace hK1 := va_K.moved hvm.symm hK1
        obtain ⟨hPj, hDj⟩ := va_joinT (wr := [(ss, .inr (19, [.int 0, .int (nI pp), .int 0, .int 0, .int 0, .null, .null, .null, .null, .null, .null, .null, .null, .int 0])), (mr 8, .inl (kL, 3002, .inr (.inl fn)))]) (w1 := [(m9, .inr (23, mA mr mv vf xl (nI zs) 0 xa (nI T) (nI ((pp + 1) + 1)) xi xt xn (nI ns) (nI (vv + 1)) (nI bb))), (mr 5, .inl (kI, 3002, .inl fk)), (mr 6, .inl (kI, 3002, .inl fa))]) hP hD [2, 3, 4] [0, 1] rfl rfl (by decide) (by decide) hk1 hFc hP1 hD1
        replace hP := hPj
        replace hD := hDj
        clear hPj hDj
        replace hK := hK.app hK1
        generalize H1 = H at hP hS ⊢
        replace hP : va_P (dC, dI) vwCl (([(ss, .inr (19, [.int 0, .int (nI pp), .int 0, .int 0, .int 0, .null, .null, .null, .null, .null, .null, .null, .null, .int 0])), (mr 8, .inl (kL, 3002, .inr (.inl fn))), (m9, .inr (23, mA mr mv vf xl (nI zs) 0 xa (nI T) (nI ((pp + 1) + 1)) xi xt xn (nI ns) (nI (vv + 1)) (nI bb))), (mr 5, .inl (kI, 3002, .inl fk)), (mr 6, .inl (kI, 3002, .inl fa))] : va_W) ++ (sT L F)) H := hP
        replace hD : va_D A (([(ss, .inr (19, [.int 0, .int (nI pp), .int 0, .int 0, .int 0, .null, .null, .null, .null, .null, .null, .null, .null, .int 0])), (mr 8, .inl (kL, 3002, .inr (.inl fn))), (m9, .inr (23, mA mr mv vf xl (nI zs) 0 xa (nI T) (nI ((pp + 1) + 1)) xi xt xn (nI ns) (nI (vv + 1)) (nI bb))), (mr 5, .inl (kI, 3002, .inl fk)), (mr 6, .inl (kI, 3002, .inl fa))] : va_W) ++ (sT L F)) := hD
        replace hK : va_K (dC, dI) vwCl [(kI, .int), (kL, .long), (kE, .object RX15), (kS, .object RX19), (kB, .object RX14), (kA, .object RX13), (kV, .object RX21), (kI, .int)] s := hK
        replace hK := hK.sub (tys' := [(kI, .int), (kL, .long), (kE, .object RX15), (kS, .object RX19), (kB, .object RX14), (kA, .object RX13), (kV, .object RX21)]) [0, 1, 2, 3, 4, 5, 6] rfl
        clear hz1 hk1 hPc hDc hKc hFc hP1 hD1 hK1
        obtain rfl : r_8 = nI (pp + 1) := hw
        have hp_9 : pp + 1 + 1 < T := kne3 hk0 hp_2 hk_7 (by decide)
        have hvq9 : vv ≠ 40 := fun q9 => hv_5 ⟨hk_7, q9⟩
        refine va_put (D := (dC, dI)) (ci := 19) (v := .int (nI (pp + 1))) (ty := .int) (C := RX19) (T := TX19) (N := 14) hx hb hts in_c_vlt_X19 tyX19 tyX19_ok nmX19 hown hK hP hD hS 0 rfl rfl 2 (by decide) (hts (.fieldLink RX23 285 "OwnedPlacesModel$Statement" "name" "I") (wm_c_vlt 38 rfl)) (fun _ h9 => h9) rfl (by decide +kernel) rfl rfl (Nat.le_of_ble_eq_true rfl) dX23_let_34 (fun H locs hP hD hS => ?_)
        replace hP : va_P (dC, dI) vwCl (([(ss, .inr (19, [.int 0, .int (nI pp), .int (nI (pp + 1)), .int 0, .int 0, .null, .null, .null, .null, .null, .null, .null, .null, .int 0])), (mr 8, .inl (kL, 3002, .inr (.inl fn))), (m9, .inr (23, mA mr mv vf xl (nI zs) 0 xa (nI T) (nI (pp + 1 + 1)) xi xt xn (nI ns) (nI (vv + 1)) (nI bb))), (mr 5, .inl (kI, 3002, .inl fk)), (mr 6, .inl (kI, 3002, .inl fa))] : va_W) ++ (sT L F)) H := hP
        replace hD : va_D A (([(ss, .inr (19, [.int 0, .int (nI pp), .int (nI (pp + 1)), .int 0, .int 0, .null, .null, .null, .null, .null, .null, .null, .null, .int 0])), (mr 8, .inl (kL, 3002, .inr (.inl fn))), (m9, .inr (23, mA mr mv vf xl (nI zs) 0 xa (nI T) (nI (pp + 1 + 1)) xi xt xn (nI ns) (nI (vv + 1)) (nI bb))), (mr 5, .inl (kI, 3002, .inl fk)), (mr 6, .inl (kI, 3002, .inl fa))] : va_W) ++ (sT L F)) := hD
        refine lv_aload_n hx hb dX23_let_37 rfl (lv_at hl 0 rfl) ?_
        refine lv_bipush (v := 58) hx hb dX23_let_38 (by decide) ?_
        by_cases hk_10 : fk (pp + 1 + 1) = 58
        · replace hPc := hP.subF (f' := [(m9, .inr (23, mA mr mv vf xl (nI zs) 0 xa (nI T) (nI (pp + 1 + 1)) xi xt xn (nI ns) (nI (vv + 1)) (nI bb))), (mr 5, .inl (kI, 3002, .inl fk))]) [2, 3] rfl
          replace hDc := hD.subF (f' := [(m9, .inr (23, mA mr mv vf xl (nI zs) 0 xa (nI T) (nI (pp + 1 + 1)) xi xt xn (nI ns) (nI (vv + 1)) (nI bb))), (mr 5, .inl (kI, 3002, .inl fk))]) [2, 3] (by decide) rfl
          replace hKc := hK.sub (tys' := [(kI, .int)]) [0] rfl
          replace hFc := va_freeT (wc := [(m9, .inr (23, mA mr mv vf xl (nI zs) 0 xa (nI T) (nI (pp + 1 + 1)) xi xt xn (nI ns) (nI (vv + 1)) (nI bb))), (mr 5, .inl (kI, 3002, .inl fk))]) hD hS hA [2, 3] rfl
          refine va_calli (va_runV (As := [.int 58]) (rest := []) ⟨hx, hb, hml, hown, hts⟩ (c_rtsY l dC dI m9 mr mv vf xl xa xi xt xn zs T (pp + 1 + 1) ns (vv + 1) bb kI fk fa 58 H.size hT hp_9 hk0 (by decide) hk_10) (cwV 1 hts g_c_vlt_c_rtsY_40 rfl rfl rfl (by decide +kernel) ⟨by show 1 + 1 ≤ 14 + 14 * k; omega, by show 8 + (2 + 11) + (21) ≤ 322 + 323 * k; omega⟩) ⟨fun a U g mk q => by obtain ⟨q0, q1, qP, qK, qD⟩ := q; exact ⟨q0, q1, qP, va_K.moved (u := U) (U := U.calling g mk a) (Vm.Alike.refl U.vm) qK, qD⟩, va_recv hKc hPc (ci := 23) (q0 := 0) rfl rfl, fun U hU hW => ⟨rfl, by rw [hU], by rw [hU]; exact hPc, va_K.moved hW.alike hKc, hDc.weaken (fun _ _ _ _ => trivial)⟩⟩ rfl rfl hl.1 rfl (lv_room (Nat.le_of_ble_eq_true rfl)) dX23_let_40 ⟨(show 0 + 0 ≤ (8 * (T - pp) + 14) by omega), (show 0 + 0 ≤ (120 * (T - pp) + 480) by omega)⟩) hS (fun q _ h => hFc q h) hFc (fun r_11 u tS H1 locs ht hvm hw hB hz1 hk1 hS => ?_)
          obtain ⟨hP1, hK1, hD1⟩ := hB
          rw [ht] at hP1
          replace hK1 := va_K.moved hvm.symm hK1
          obtain ⟨hPj, hDj⟩ := va_joinT (wr := [(ss, .inr (19, [.int 0, .int (nI pp), .int (nI (pp + 1)), .int 0, .int 0, .null, .null, .null, .null, .null, .null, .null, .null, .int 0])), (mr 8, .inl (kL, 3002, .inr (.inl fn))), (mr 6, .inl (kI, 3002, .inl fa))]) (w1 := [(m9, .inr (23, mA mr mv vf xl (nI zs) 0 xa (nI T) (nI ((pp + 1 + 1) + 1)) xi xt xn (nI ns) (nI (vv + 1)) (nI bb))), (mr 5, .inl (kI, 3002, .inl fk))]) hP hD [2, 3] [0, 1, 4] rfl rfl (by decide) (by decide) hk1 hFc hP1 hD1
          replace hP := hPj
          replace hD := hDj
          clear hPj hDj
          replace hK := hK.app hK1
          generalize H1 = H at hP hS ⊢
          replace hP : va_P (dC, dI) vwCl (([(ss, .inr (19, [.int 0, .int (nI pp), .int (nI (pp + 1)), .int 0, .int 0, .null, .null, .null, .null, .null, .null, .null, .null, .int 0])), (mr 8, .inl (kL, 3002, .inr (.inl fn))), (mr 6, .inl (kI, 3002, .inl fa)), (m9, .inr (23, mA mr mv vf xl (nI zs) 0 xa (nI T) (nI ((pp + 1 + 1) + 1)) xi xt xn (nI ns) (nI (vv + 1)) (nI bb))), (mr 5, .inl (kI, 3002, .inl fk))] : va_W) ++ (sT L F)) H := hP
          replace hD : va_D A (([(ss, .inr (19, [.int 0, .int (nI pp), .int (nI (pp + 1)), .int 0, .int 0, .null, .null, .null, .null, .null, .null, .null, .null, .int 0])), (mr 8, .inl (kL, 3002, .inr (.inl fn))), (mr 6, .inl (kI, 3002, .inl fa)), (m9, .inr (23, mA mr mv vf xl (nI zs) 0 xa (nI T) (nI ((pp + 1 + 1) + 1)) xi xt xn (nI ns) (nI (vv + 1)) (nI bb))), (mr 5, .inl (kI, 3002, .inl fk))] : va_W) ++ (sT L F)) := hD
          replace hK : va_K (dC, dI) vwCl [(kI, .int), (kL, .long), (kE, .object RX15), (kS, .object RX19), (kB, .object RX14), (kA, .object RX13), (kV, .object RX21), (kI, .int)] s := hK
          replace hK := hK.sub (tys' := [(kI, .int), (kL, .long), (kE, .object RX15), (kS, .object RX19), (kB, .object RX14), (kA, .object RX13), (kV, .object RX21)]) [0, 1, 2, 3, 4, 5, 6] rfl
          clear hz1 hk1 hPc hDc hKc hFc hP1 hD1 hK1
          obtain rfl : r_11 = 1 := hw
          have hp_12 : pp + 1 + 1 + 1 < T := kne3 hk0 hp_9 hk_10 (by decide)
          refine lv_if_eq (tgt := 54) hx hb dX23_let_43 (by decide) (fun c_13 => absurd c_13 (by decide)) (fun _ => ?_)
          refine lv_aload_n hx hb dX23_let_46 rfl (lv_at hl 1 rfl) ?_
          refine lv_aload_n hx hb dX23_let_47 rfl (lv_at hl 0 rfl) ?_
          replace hPc := hP.subT (f' := [(m9, .inr (23, mA mr mv vf xl (nI zs) 0 xa (nI T) (nI (pp + 1 + 1 + 1)) xi xt xn (nI ns) (nI (vv + 1)) (nI bb))), (mr 5, .inl (kI, 3002, .inl fk)), (mr 6, .inl (kI, 3002, .inl fa))]) [3, 4, 2] rfl
          replace hDc := hD.subT (f' := [(m9, .inr (23, mA mr mv vf xl (nI zs) 0 xa (nI T) (nI (pp + 1 + 1 + 1)) xi xt xn (nI ns) (nI (vv + 1)) (nI bb))), (mr 5, .inl (kI, 3002, .inl fk)), (mr 6, .inl (kI, 3002, .inl fa))]) [3, 4, 2] (by decide) rfl
          replace hKc := hK.sub (tys' := [(kI, .int)]) [0] rfl
          replace hFc := va_freeB (wc := [(m9, .inr (23, mA mr mv vf xl (nI zs) 0 xa (nI T) (nI (pp + 1 + 1 + 1)) xi xt xn (nI ns) (nI (vv + 1)) (nI bb))), (mr 5, .inl (kI, 3002, .inl fk)), (mr 6, .inl (kI, 3002, .inl fa))]) hD hS hA [3, 4, 2] rfl
          refine W.grow (fun hgs0 hgs1 => ?_)
          refine va_callr (va_runV (As := []) (rest := [.ref ss]) ⟨hx, hb, hml, hown, hts⟩ (c_rwrA l dC dI k m9 mr mv vf xl xa xi xt xn zs T (pp + 1 + 1 + 1) ns (vv + 1) bb kI fk fa L F (slN H) H.size hT hp_12 hk0 (by omega)) (cwV 0 hts g_c_vlt_c_rwr_48 rfl rfl rfl (by decide +kernel) ⟨by show 3 + 1 * k + 1 ≤ 14 + 14 * k; omega, by show 8 + (3 + 11) + (54 + 22 * k) ≤ 322 + 323 * k; omega⟩) ⟨fun a U g mk q => by obtain ⟨q0, q1, qP, qK, qD, qx0, qx1⟩ := q; exact ⟨q0, q1, qP, va_K.moved (u := U) (U := U.calling g mk a) (Vm.Alike.refl U.vm) qK, qD, nsM.same (u := U) (U := U.calling g mk a) rfl qx0, qx1⟩, va_recv hKc hPc (ci := 23) (q0 := 0) rfl rfl, fun U hU hW => ⟨rfl, by rw [hU], by rw [hU]; exact hPc, va_K.moved hW.alike hKc, hDc.weaken (fun _ _ _ _ => trivial), nsM.warm hW hns, by rw [hU]⟩⟩ rfl rfl hl.1 rfl (lv_room (Nat.le_of_ble_eq_true rfl)) dX23_let_48 ⟨(show 0 + ((T - (pp + 1 + 1 + 1)) + 2) ≤ (8 * (T - pp) + 14) by omega), (show 0 + (5 * (T - (pp + 1 + 1 + 1)) + 10) ≤ (120 * (T - pp) + 480) by omega)⟩) hS (fun q _ h => hFc q h) hFc (fun u r_14 tS H1 locs ht hvm hw hB hz1 hk1 hS => ?_)
          obtain ⟨L13, F13, ff13, xa13, pp13, hf14_0, hf14_1, hf14_2, hf14_3, hf14_4, hP1, hK1, hD1⟩ := hB
          rw [ht] at hP1
          replace hK1 := va_K.moved hvm.symm hK1
          rw [ht] at hf14_4
          have hgz : H1.size ≤ s.heap.size + ((pp13 - (pp + 1 + 1 + 1)) + 1) ∧ slN H1 ≤ slN s.heap + (5 * (pp13 - (pp + 1 + 1 + 1)) + 5) := ⟨by have := hf14_4.1; omega, by have := hf14_4.2; omega⟩
          obtain ⟨hPj, hDj⟩ := va_joinB (wr := [(ss, .inr (19, [.int 0, .int (nI pp), .int (nI (pp + 1)), .int 0, .int 0, .null, .null, .null, .null, .null, .null, .null, .null, .int 0])), (mr 8, .inl (kL, 3002, .inr (.inl fn)))]) (w1 := [(m9, .inr (23, mA mr mv vf xl (nI zs) ff13 xa13 (nI T) (nI pp13) xi xt xn (nI ns) (nI (vv + 1)) (nI bb))), (mr 5, .inl (kI, 3002, .inl fk)), (mr 6, .inl (kI, 3002, .inl fa))]) hP hD [3, 4, 2] [0, 1] rfl rfl (by decide) (by decide) hk1 hFc hP1 hD1
          replace hP := hPj
          replace hD := hDj
          clear hPj hDj
          replace hK := hK.app hK1
          generalize H1 = H at hP hS hgz ⊢
          replace hP : va_P (dC, dI) vwCl (([(ss, .inr (19, [.int 0, .int (nI pp), .int (nI (pp + 1)), .int 0, .int 0, .null, .null, .null, .null, .null, .null, .null, .null, .int 0])), (mr 8, .inl (kL, 3002, .inr (.inl fn))), (m9, .inr (23, mA mr mv vf xl (nI zs) ff13 xa13 (nI T) (nI pp13) xi xt xn (nI ns) (nI (vv + 1)) (nI bb))), (mr 5, .inl (kI, 3002, .inl fk)), (mr 6, .inl (kI, 3002, .inl fa))] : va_W) ++ (sT L13 F13)) H := hP
          replace hD : va_D A (([(ss, .inr (19, [.int 0, .int (nI pp), .int (nI (pp + 1)), .int 0, .int 0, .null, .null, .null, .null, .null, .null, .null, .null, .int 0])), (mr 8, .inl (kL, 3002, .inr (.inl fn))), (m9, .inr (23, mA mr mv vf xl (nI zs) ff13 xa13 (nI T) (nI pp13) xi xt xn (nI ns) (nI (vv + 1)) (nI bb))), (mr 5, .inl (kI, 3002, .inl fk)), (mr 6, .inl (kI, 3002, .inl fa))] : va_W) ++ (sT L13 F13)) := hD
          replace hK : va_K (dC, dI) vwCl [(kI, .int), (kL, .long), (kE, .object RX15), (kS, .object RX19), (kB, .object RX14), (kA, .object RX13), (kV, .object RX21), (kI, .int)] s := hK
          replace hK := hK.sub (tys' := [(kI, .int), (kL, .long), (kE, .object RX15), (kS, .object RX19), (kB, .object RX14), (kA, .object RX13), (kV, .object RX21)]) [0, 1, 2, 3, 4, 5, 6] rfl
          refine W.tight (k := (pp13 - (pp + 1 + 1 + 1)) + 1) (n := 5 * (pp13 - (pp + 1 + 1 + 1)) + 5) hgz.1 hgz.2 ?_
          clear hz1 hk1 hPc hDc hKc hFc hP1 hD1 hK1
          refine va_put (D := (dC, dI)) (ci := 19) (v := .ref r_14) (ty := (.object "OwnedPlacesModel$Written")) (C := RX19) (T := TX19) (N := 14) hx hb hts in_c_vlt_X19 tyX19 tyX19_ok nmX19 hown hK hP hD hS 0 rfl rfl 5 (by decide) (hts (.fieldLink RX23 286 "OwnedPlacesModel$Statement" "written" "LOwnedPlacesModel$Written;") (wm_c_vlt 62 rfl)) (fun _ h9 => h9) rfl (by decide +kernel) rfl rfl (Nat.le_of_ble_eq_true rfl) dX23_let_51 (fun H locs hP hD hS => ?_)
          replace hP : va_P (dC, dI) vwCl (([(ss, .inr (19, [.int 0, .int (nI pp), .int (nI (pp + 1)), .int 0, .int 0, .ref r_14, .null, .null, .null, .null, .null, .null, .null, .int 0])), (mr 8, .inl (kL, 3002, .inr (.inl fn))), (m9, .inr (23, mA mr mv vf xl (nI zs) ff13 xa13 (nI T) (nI pp13) xi xt xn (nI ns) (nI (vv + 1)) (nI bb))), (mr 5, .inl (kI, 3002, .inl fk)), (mr 6, .inl (kI, 3002, .inl fa))] : va_W) ++ (sT L13 F13)) H := hP
          replace hD : va_D A (([(ss, .inr (19, [.int 0, .int (nI pp), .int (nI (pp + 1)), .int 0, .int 0, .ref r_14, .null, .null, .null, .null, .null, .null, .null, .int 0])), (mr 8, .inl (kL, 3002, .inr (.inl fn))), (m9, .inr (23, mA mr mv vf xl (nI zs) ff13 xa13 (nI T) (nI pp13) xi xt xn (nI ns) (nI (vv + 1)) (nI bb))), (mr 5, .inl (kI, 3002, .inl fk)), (mr 6, .inl (kI, 3002, .inl fa))] : va_W) ++ (sT L13 F13)) := hD
          refine lv_aload_n hx hb dX23_let_54 rfl (lv_at hl 0 rfl) ?_
          refine lv_bipush (v := 54) hx hb dX23_let_55 (by decide) ?_
          by_cases hz_15 : ff13 = 0
          · subst hz_15
            by_cases hk_16 : fk pp13 = 54
            · replace hPc := hP.subF (f' := [(m9, .inr (23, mA mr mv vf xl (nI zs) 0 xa13 (nI T) (nI pp13) xi xt xn (nI ns) (nI (vv + 1)) (nI bb))), (mr 5, .inl (kI, 3002, .inl fk))]) [2, 3] rfl
              replace hDc := hD.subF (f' := [(m9, .inr (23, mA mr mv vf xl (nI zs) 0 xa13 (nI T) (nI pp13) xi xt xn (nI ns) (nI (vv + 1)) (nI bb))), (mr 5, .inl (kI, 3002, .inl fk))]) [2, 3] (by decide) rfl
              replace hKc := hK.sub (tys' := [(kI, .int)]) [0] rfl
              replace hFc := va_freeT (wc := [(m9, .inr (23, mA mr mv vf xl (nI zs) 0 xa13 (nI T) (nI pp13) xi xt xn (nI ns) (nI (vv + 1)) (nI bb))), (mr 5, .inl (kI, 3002, .inl fk))]) hD hS hA [2, 3] rfl
              refine va_calli (va_runV (As := [.int 54]) (rest := []) ⟨hx, hb, hml, hown, hts⟩ (c_rtsY l dC dI m9 mr mv vf xl xa13 xi xt xn zs T pp13 ns (vv + 1) bb kI fk fa 54 H.size hT hf14_2.2 hk0 (by decide) hk_16) (cwV 1 hts g_c_vlt_c_rtsY_57 rfl rfl rfl (by decide +kernel) ⟨by show 1 + 1 ≤ 14 + 14 * k; omega, by show 8 + (2 + 11) + (21) ≤ 322 + 323 * k; omega⟩) ⟨fun a U g mk q => by obtain ⟨q0, q1, qP, qK, qD⟩ := q; exact ⟨q0, q1, qP, va_K.moved (u := U) (U := U.calling g mk a) (Vm.Alike.refl U.vm) qK, qD⟩, va_recv hKc hPc (ci := 23) (q0 := 0) rfl rfl, fun U hU hW => ⟨rfl, by rw [hU], by rw [hU]; exact hPc, va_K.moved hW.alike hKc, hDc.weaken (fun _ _ _ _ => trivial)⟩⟩ rfl rfl hl.1 rfl (lv_room (Nat.le_of_ble_eq_true rfl)) dX23_let_57 ⟨(show (pp13 - (pp + 1 + 1 + 1)) + 1 + 0 ≤ (8 * (T - pp) + 14) by omega), (show 5 * (pp13 - (pp + 1 + 1 + 1)) + 5 + 0 ≤ (120 * (T - pp) + 480) by omega)⟩) hS (fun q _ h => hFc q h) hFc (fun r_17 u tS H1 locs ht hvm hw hB hz1 hk1 hS => ?_)
              obtain ⟨hP1, hK1, hD1⟩ := hB
              rw [ht] at hP1
              replace hK1 := va_K.moved hvm.symm hK1
              obtain ⟨hPj, hDj⟩ := va_joinT (wr := [(ss, .inr (19, [.int 0, .int (nI pp), .int (nI (pp + 1)), .int 0, .int 0, .ref r_14, .null, .null, .null, .null, .null, .null, .null, .int 0])), (mr 8, .inl (kL, 3002, .inr (.inl fn))), (mr 6, .inl (kI, 3002, .inl fa))]) (w1 := [(m9, .inr (23, mA mr mv vf xl (nI zs) 0 xa13 (nI T) (nI (pp13 + 1)) xi xt xn (nI ns) (nI (vv + 1)) (nI bb))), (mr 5, .inl (kI, 3002, .inl fk))]) hP hD [2, 3] [0, 1, 4] rfl rfl (by decide) (by decide) hk1 hFc hP1 hD1
              replace hP := hPj
              replace hD := hDj
              clear hPj hDj
              replace hK := hK.app hK1
              generalize H1 = H at hP hS ⊢
              replace hP : va_P (dC, dI) vwCl (([(ss, .inr (19, [.int 0, .int (nI pp), .int (nI (pp + 1)), .int 0, .int 0, .ref r_14, .null, .null, .null, .null, .null, .null, .null, .int 0])), (mr 8, .inl (kL, 3002, .inr (.inl fn))), (mr 6, .inl (kI, 3002, .inl fa)), (m9, .inr (23, mA mr mv vf xl (nI zs) 0 xa13 (nI T) (nI (pp13 + 1)) xi xt xn (nI ns) (nI (vv + 1)) (nI bb))), (mr 5, .inl (kI, 3002, .inl fk))] : va_W) ++ (sT L13 F13)) H := hP
              replace hD : va_D A (([(ss, .inr (19, [.int 0, .int (nI pp), .int (nI (pp + 1)), .int 0, .int 0, .ref r_14, .null, .null, .null, .null, .null, .null, .null, .int 0])), (mr 8, .inl (kL, 3002, .inr (.inl fn))), (mr 6, .inl (kI, 3002, .inl fa)), (m9, .inr (23, mA mr mv vf xl (nI zs) 0 xa13 (nI T) (nI (pp13 + 1)) xi xt xn (nI ns) (nI (vv + 1)) (nI bb))), (mr 5, .inl (kI, 3002, .inl fk))] : va_W) ++ (sT L13 F13)) := hD
              replace hK : va_K (dC, dI) vwCl [(kI, .int), (kL, .long), (kE, .object RX15), (kS, .object RX19), (kB, .object RX14), (kA, .object RX13), (kV, .object RX21), (kI, .int)] s := hK
              replace hK := hK.sub (tys' := [(kI, .int), (kL, .long), (kE, .object RX15), (kS, .object RX19), (kB, .object RX14), (kA, .object RX13), (kV, .object RX21)]) [0, 1, 2, 3, 4, 5, 6] rfl
              clear hz1 hk1 hPc hDc hKc hFc hP1 hD1 hK1
              obtain rfl : r_17 = 1 := hw
              have hp_18 : pp13 + 1 < T := kne3 hk0 hf14_2.2 hk_16 (by decide)
              refine lv_if_eq (tgt := 71) hx hb dX23_let_60 (by decide) (fun c_19 => absurd c_19 (by decide)) (fun _ => ?_)
              refine lv_aload_n hx hb dX23_let_63 rfl (lv_at hl 1 rfl) ?_
              refine lv_aload_n hx hb dX23_let_64 rfl (lv_at hl 0 rfl) ?_
              replace hPc := hP.subT (f' := [(m9, .inr (23, mA mr mv vf xl (nI zs) 0 xa13 (nI T) (nI (pp13 + 1)) xi xt xn (nI ns) (nI (vv + 1)) (nI bb))), (mr 5, .inl (kI, 3002, .inl fk)), (mr 6, .inl (kI, 3002, .inl fa)), (mr 8, .inl (kL, 3002, .inr (.inl fn)))]) [3, 4, 2, 1] rfl
              replace hDc := hD.subT (f' := [(m9, .inr (23, mA mr mv vf xl (nI zs) 0 xa13 (nI T) (nI (pp13 + 1)) xi xt xn (nI ns) (nI (vv + 1)) (nI bb))), (mr 5, .inl (kI, 3002, .inl fk)), (mr 6, .inl (kI, 3002, .inl fa)), (mr 8, .inl (kL, 3002, .inr (.inl fn)))]) [3, 4, 2, 1] (by decide) rfl
              replace hKc := hK.sub (tys' := [(kI, .int), (kL, .long), (kE, .object RX15)]) [0, 1, 2] rfl
              replace hFc := va_freeB (wc := [(m9, .inr (23, mA mr mv vf xl (nI zs) 0 xa13 (nI T) (nI (pp13 + 1)) xi xt xn (nI ns) (nI (vv + 1)) (nI bb))), (mr 5, .inl (kI, 3002, .inl fk)), (mr 6, .inl (kI, 3002, .inl fa)), (mr 8, .inl (kL, 3002, .inr (.inl fn)))]) hD hS hA [3, 4, 2, 1] rfl
              refine W.grow (fun hgs0 hgs1 => ?_)
              refine va_callr (va_runV (As := []) (rest := [.ref ss]) ⟨hx, hb, hml, hown, hts⟩ (c_xexA l dC dI k m9 mr mv vf xl xa13 xi xt xn zs T (pp13 + 1) ns (vv + 1) bb kI fk fa kL kE fn L13 F13 (slN H) H.size hT hp_18 hk0 hbb (by omega)) (cwV 0 hts g_c_vlt_c_xex_65 rfl rfl rfl (by decide +kernel) ⟨by show 13 + 12 * k + 1 ≤ 14 + 14 * k; omega, by show 8 + (1 + 11) + (302 + 279 * k) ≤ 322 + 323 * k; omega⟩) ⟨fun a U g mk q => by obtain ⟨q0, q1, qP, qK, qD, qx0, qx1⟩ := q; exact ⟨q0, q1, qP, va_K.moved (u := U) (U := U.calling g mk a) (Vm.Alike.refl U.vm) qK, qD, nsM.same (u := U) (U := U.calling g mk a) rfl qx0, qx1⟩, va_recv hKc hPc (ci := 23) (q0 := 0) rfl rfl, fun U hU hW => ⟨rfl, by rw [hU], by rw [hU]; exact hPc, va_K.moved hW.alike hKc, hDc.weaken (fun _ _ _ _ => trivial), nsM.warm hW hns, by rw [hU]⟩⟩ rfl rfl hl.1 rfl (lv_room (Nat.le_of_ble_eq_true rfl)) dX23_let_65 ⟨(show (pp13 - (pp + 1 + 1 + 1)) + 1 + (8 * (T - (pp13 + 1)) + 8) ≤ (8 * (T - pp) + 14) by omega), (show 5 * (pp13 - (pp + 1 + 1 + 1)) + 5 + (120 * (T - (pp13 + 1)) + 360) ≤ (120 * (T - pp) + 480) by omega)⟩) hS (fun q _ h => hFc q h) hFc (fun u r_20 tS H1 locs ht hvm hw hB hz1 hk1 hS => ?_)
              obtain ⟨L19, F19, ff19, xa19, pp19, bb19, hf20_0, hf20_1, hf20_2, hf20_3, hP1, hK1, hD1⟩ := hB
              rw [ht] at hP1
              replace hK1 := va_K.moved hvm.symm hK1
              rw [ht] at hf20_3
              have hgz : H1.size ≤ s.heap.size + (((pp13 - (pp + 1 + 1 + 1)) + 1 + 8 * (pp19 - (pp13 + 1)) + 3)) ∧ slN H1 ≤ slN s.heap + ((5 * (pp13 - (pp + 1 + 1 + 1)) + 5 + 120 * (pp19 - (pp13 + 1)) + 48)) := ⟨by have := hf20_3.1; omega, by have := hf20_3.2; omega⟩
              obtain ⟨hPj, hDj⟩ := va_joinB (wr := [(ss, .inr (19, [.int 0, .int (nI pp), .int (nI (pp + 1)), .int 0, .int 0, .ref r_14, .null, .null, .null, .null, .null, .null, .null, .int 0]))]) (w1 := [(m9, .inr (23, mA mr mv vf xl (nI zs) ff19 xa19 (nI T) (nI pp19) xi xt xn (nI ns) (nI (vv + 1)) (nI bb19))), (mr 5, .inl (kI, 3002, .inl fk)), (mr 6, .inl (kI, 3002, .inl fa)), (mr 8, .inl (kL, 3002, .inr (.inl fn)))]) hP hD [3, 4, 2, 1] [0] rfl rfl (by decide) (by decide) hk1 hFc hP1 hD1
              replace hP := hPj
              replace hD := hDj
              clear hPj hDj
              replace hK := hK.app hK1
              generalize H1 = H at hP hS hgz ⊢
              replace hP : va_P (dC, dI) vwCl (([(ss, .inr (19, [.int 0, .int (nI pp), .int (nI (pp + 1)), .int 0, .int 0, .ref r_14, .null, .null, .null, .null, .null, .null, .null, .int 0])), (m9, .inr (23, mA mr mv vf xl (nI zs) ff19 xa19 (nI T) (nI pp19) xi xt xn (nI ns) (nI (vv + 1)) (nI bb19))), (mr 5, .inl (kI, 3002, .inl fk)), (mr 6, .inl (kI, 3002, .inl fa)), (mr 8, .inl (kL, 3002, .inr (.inl fn)))] : va_W) ++ (sT L19 F19)) H := hP
              replace hD : va_D A (([(ss, .inr (19, [.int 0, .int (nI pp), .int (nI (pp + 1)), .int 0, .int 0, .ref r_14, .null, .null, .null, .null, .null, .null, .null, .int 0])), (m9, .inr (23, mA mr mv vf xl (nI zs) ff19 xa19 (nI T) (nI pp19) xi xt xn (nI ns) (nI (vv + 1)) (nI bb19))), (mr 5, .inl (kI, 3002, .inl fk)), (mr 6, .inl (kI, 3002, .inl fa)), (mr 8, .inl (kL, 3002, .inr (.inl fn)))] : va_W) ++ (sT L19 F19)) := hD
              replace hK : va_K (dC, dI) vwCl [(kI, .int), (kL, .long), (kE, .object RX15), (kS, .object RX19), (kB, .object RX14), (kA, .object RX13), (kV, .object RX21), (kI, .int), (kL, .long), (kE, .object RX15)] s := hK
              replace hK := hK.sub (tys' := [(kI, .int), (kL, .long), (kE, .object RX15), (kS, .object RX19), (kB, .object RX14), (kA, .object RX13), (kV, .object RX21)]) [0, 1, 2, 3, 4, 5, 6] rfl
              refine W.tight (k := ((pp13 - (pp + 1 + 1 + 1)) + 1 + 8 * (pp19 - (pp13 + 1)) + 3)) (n := (5 * (pp13 - (pp + 1 + 1 + 1)) + 5 + 120 * (pp19 - (pp13 + 1)) + 48)) hgz.1 hgz.2 ?_
              clear hz1 hk1 hPc hDc hKc hFc hP1 hD1 hK1
              refine va_put (D := (dC, dI)) (ci := 19) (v := .ref r_20) (ty := (.object "OwnedPlacesModel$Exp")) (C := RX19) (T := TX19) (N := 14) hx hb hts in_c_vlt_X19 tyX19 tyX19_ok nmX19 hown hK hP hD hS 0 rfl rfl 6 (by decide) (hts (.fieldLink RX23 268 "OwnedPlacesModel$Statement" "exp" "LOwnedPlacesModel$Exp;") (wm_c_vlt 128 rfl)) (fun _ h9 => h9) rfl (by decide +kernel) rfl rfl (Nat.le_of_ble_eq_true rfl) dX23_let_68 (fun H locs hP hD hS => ?_)
              replace hP : va_P (dC, dI) vwCl (([(ss, .inr (19, [.int 0, .int (nI pp), .int (nI (pp + 1)), .int 0, .int 0, .ref r_14, .ref r_20, .null, .null, .null, .null, .null, .null, .int 0])), (m9, .inr (23, mA mr mv vf xl (nI zs) ff19 xa19 (nI T) (nI pp19) xi xt xn (nI ns) (nI (vv + 1)) (nI bb19))), (mr 5, .inl (kI, 3002, .inl fk)), (mr 6, .inl (kI, 3002, .inl fa)), (mr 8, .inl (kL, 3002, .inr (.inl fn)))] : va_W) ++ (sT L19 F19)) H := hP
              replace hD : va_D A (([(ss, .inr (19, [.int 0, .int (nI pp), .int (nI (pp + 1)), .int 0, .int 0, .ref r_14, .ref r_20, .null, .null, .null, .null, .null, .null, .int 0])), (m9, .inr (23, mA mr mv vf xl (nI zs) ff19 xa19 (nI T) (nI pp19) xi xt xn (nI ns) (nI (vv + 1)) (nI bb19))), (mr 5, .inl (kI, 3002, .inl fk)), (mr 6, .inl (kI, 3002, .inl fa)), (mr 8, .inl (kL, 3002, .inr (.inl fn)))] : va_W) ++ (sT L19 F19)) := hD
              refine lv_aload_n hx hb dX23_let_71 rfl (lv_at hl 0 rfl) ?_
              refine lv_bipush (v := 60) hx hb dX23_let_72 (by decide) ?_
              by_cases hz_21 : ff19 = 0
              · subst hz_21
                have hg19 := hf20_2 rfl
                have hlthg19 := (isE_mem hg19.2).2
                by_cases hk_22 : fk pp19 = 60
                · replace hPc := hP.subF (f' := [(m9, .inr (23, mA mr mv vf xl (nI zs) 0 xa19 (nI T) (nI pp19) xi xt xn (nI ns) (nI (vv + 1)) (nI bb19))), (mr 5, .inl (kI, 3002, .inl fk)), (mr 6, .inl (kI, 3002, .inl fa))]) [1, 2, 3] rfl
                  replace hDc := hD.subF (f' := [(m9, .inr (23, mA mr mv vf xl (nI zs) 0 xa19 (nI T) (nI pp19) xi xt xn (nI ns) (nI (vv + 1)) (nI bb19))), (mr 5, .inl (kI, 3002, .inl fk)), (mr 6, .inl (kI, 3002, .inl fa))]) [1, 2, 3] (by decide) rfl
                  replace hKc := hK.sub (tys' := [(kI, .int)]) [0] rfl
                  replace hFc := va_freeT (wc := [(m9, .inr (23, mA mr mv vf xl (nI zs) 0 xa19 (nI T) (nI pp19) xi xt xn (nI ns) (nI (vv + 1)) (nI bb19))), (mr 5, .inl (kI, 3002, .inl fk)), (mr 6, .inl (kI, 3002, .inl fa))]) hD hS hA [1, 2, 3] rfl
                  refine va_callv (va_runV (As := [.int 60]) (rest := []) ⟨hx, hb, hml, hown, hts⟩ (c_rtkY l dC dI m9 mr mv vf xl xa19 xi xt xn zs T pp19 ns (vv + 1) bb19 kI fk fa 60 H.size hT hf20_1.2.1 hk0 (by decide) hk_22) (cwV 1 hts g_c_vlt_c_rtkY_74 rfl rfl rfl (by decide +kernel) ⟨by show 1 + 1 ≤ 14 + 14 * k; omega, by show 8 + (2 + 11) + (21) ≤ 322 + 323 * k; omega⟩) ⟨fun a U g mk q => by obtain ⟨q0, q1, qP, qK, qD⟩ := q; exact ⟨q0, q1, qP, va_K.moved (u := U) (U := U.calling g mk a) (Vm.Alike.refl U.vm) qK, qD⟩, va_recv hKc hPc (ci := 23) (q0 := 0) rfl rfl, fun U hU hW => ⟨rfl, by rw [hU], by rw [hU]; exact hPc, va_K.moved hW.alike hKc, hDc.weaken (fun _ _ _ _ => trivial)⟩⟩ rfl rfl hl.1 rfl (lv_room (Nat.le_of_ble_eq_true rfl)) dX23_let_74 ⟨(show ((pp13 - (pp + 1 + 1 + 1)) + 1 + 8 * (pp19 - (pp13 + 1)) + 3) + 0 ≤ (8 * (T - pp) + 14) by omega), (show (5 * (pp13 - (pp + 1 + 1 + 1)) + 5 + 120 * (pp19 - (pp13 + 1)) + 48) + 0 ≤ (120 * (T - pp) + 480) by omega)⟩) hS (fun q _ h => hFc q h) hFc (fun u tS H1 locs ht hvm hw hB hz1 hk1 hS => ?_)
                  obtain ⟨hP1, hK1, hD1⟩ := hB
                  rw [ht] at hP1
                  replace hK1 := va_K.moved hvm.symm hK1
                  obtain ⟨hPj, hDj⟩ := va_joinT (wr := [(ss, .inr (19, [.int 0, .int (nI pp), .int (nI (pp + 1)), .int 0, .int 0, .ref r_14, .ref r_20, .null, .null, .null, .null, .null, .null, .int 0])), (mr 8, .inl (kL, 3002, .inr (.inl fn)))]) (w1 := [(m9, .inr (23, mA mr mv vf xl (nI zs) 0 xa19 (nI T) (nI (pp19 + 1)) xi xt xn (nI ns) (nI (vv + 1)) (nI bb19))), (mr 5, .inl (kI, 3002, .inl fk)), (mr 6, .inl (kI, 3002, .inl fa))]) hP hD [1, 2, 3] [0, 4] rfl rfl (by decide) (by decide) hk1 hFc hP1 hD1
                  replace hP := hPj
                  replace hD := hDj
                  clear hPj hDj
                  replace hK := hK.app hK1
                  generalize H1 = H at hP hS ⊢
                  replace hP : va_P (dC, dI) vwCl (([(ss, .inr (19, [.int 0, .int (nI pp), .int (nI (pp + 1)), .int 0, .int 0, .ref r_14, .ref r_20, .null, .null, .null, .null, .null, .null, .int 0])), (mr 8, .inl (kL, 3002, .inr (.inl fn))), (m9, .inr (23, mA mr mv vf xl (nI zs) 0 xa19 (nI T) (nI (pp19 + 1)) xi xt xn (nI ns) (nI (vv + 1)) (nI bb19))), (mr 5, .inl (kI, 3002, .inl fk)), (mr 6, .inl (kI, 3002, .inl fa))] : va_W) ++ (sT L19 F19)) H := hP
                  replace hD : va_D A (([(ss, .inr (19, [.int 0, .int (nI pp), .int (nI (pp + 1)), .int 0, .int 0, .ref r_14, .ref r_20, .null, .null, .null, .null, .null, .null, .int 0])), (mr 8, .inl (kL, 3002, .inr (.inl fn))), (m9, .inr (23, mA mr mv vf xl (nI zs) 0 xa19 (nI T) (nI (pp19 + 1)) xi xt xn (nI ns) (nI (vv + 1)) (nI bb19))), (mr 5, .inl (kI, 3002, .inl fk)), (mr 6, .inl (kI, 3002, .inl fa))] : va_W) ++ (sT L19 F19)) := hD
                  replace hK : va_K (dC, dI) vwCl [(kI, .int), (kL, .long), (kE, .object RX15), (kS, .object RX19), (kB, .object RX14), (kA, .object RX13), (kV, .object RX21), (kI, .int)] s := hK
                  replace hK := hK.sub (tys' := [(kI, .int), (kL, .long), (kE, .object RX15), (kS, .object RX19), (kB, .object RX14), (kA, .object RX13), (kV, .object RX21)]) [0, 1, 2, 3, 4, 5, 6] rfl
                  clear hz1 hk1 hPc hDc hKc hFc hP1 hD1 hK1
                  have hp_24 : pp19 + 1 < T := kne3 hk0 hf20_1.2.1 hk_22 (by decide)
                  refine W.grow (fun hgs0 hgs1 => ?_)
                  have hP9 := hP.subT (f' := [(ss, .inr (19, [.int 0, .int (nI pp), .int (nI (pp + 1)), .int 0, .int 0, (.ref r_14), (.ref r_20), .null, .null, .null, .null, .null, .null, .int 0])), (m9, .inr (23, mA mr mv vf xl (nI zs) 0 xa19 (nI T) (nI (pp19 + 1)) xi xt xn (nI ns) (nI (vv + 1)) (nI bb19))), (mr 5, .inl (kI, 3002, .inl fk)), (mr 6, .inl (kI, 3002, .inl fa)), (mr 8, .inl (kL, 3002, .inr (.inl fn)))]) [0, 2, 3, 4, 1] rfl
                  have hD9 := hD.subT (f' := [(ss, .inr (19, [.int 0, .int (nI pp), .int (nI (pp + 1)), .int 0, .int 0, (.ref r_14), (.ref r_20), .null, .null, .null, .null, .null, .null, .int 0])), (m9, .inr (23, mA mr mv vf xl (nI zs) 0 xa19 (nI T) (nI (pp19 + 1)) xi xt xn (nI ns) (nI (vv + 1)) (nI bb19))), (mr 5, .inl (kI, 3002, .inl fk)), (mr 6, .inl (kI, 3002, .inl fa)), (mr 8, .inl (kL, 3002, .inr (.inl fn)))]) [0, 2, 3, 4, 1] (by decide) rfl
                  have hK9 := hK.sub (tys' := [(kI, .int), (kL, .long), (kE, .object RX15), (kS, .object RX19), (kB, .object RX14), (kA, .object RX13), (kV, .object RX21)]) [0, 1, 2, 3, 4, 5, 6] rfl
                  refine W.widen (k := (8 * (T - pp) + 14)) (n := (120 * (T - pp) + 480)) (by omega) (by omega) ?_
                  exact W.vret hx hb hr (fun tS ht hW => ⟨⟨(), rfl, trivial, L19, F19, 0, xa19, pp19 + 1, bb19, vv + 1, 0, nI (pp + 1), 0, .ref r_14, .ref r_20, (hf14_0.1).tr hf20_0.1, ⟨by omega, by omega, by omega, by omega, by omega, by omega⟩, ⟨by omega, fun _ => rfl⟩, (fun _ => ⟨hg19.1, by omega, by omega, fun aZ LZ FZ hxZ haZ hFZ => ⟨haZ, by omega, Or.inl ⟨pp + 1, _, _, _, hFZ, by omega, by omega, Or.inl rfl, rfl, Or.inr ⟨r_14, pp + 1 + 1 + 1, pp13, rfl, by omega, by omega, isT_ex hxZ (isT_le (isT_ex hf20_0.1 (hf14_3 rfl)) (by omega))⟩, Or.inr ⟨r_20, pp13 + 1, pp19, rfl, by omega, by omega, isE_im hxZ 408 (by omega) hg19.2⟩⟩⟩⟩), by rw [ht]; exact ⟨by omega, by omega⟩, by rw [ht]; exact hP9, va_K.moved hW.alike hK9, hD9⟩, hS.F ht⟩) hS.2.2 dX23_let_77
                · replace hPc := hP.subF (f' := [(m9, .inr (23, mA mr mv vf xl (nI zs) 0 xa19 (nI T) (nI pp19) xi xt xn (nI ns) (nI (vv + 1)) (nI bb19))), (mr 5, .inl (kI, 3002, .inl fk)), (mr 6, .inl (kI, 3002, .inl fa))]) [1, 2, 3] rfl
                  replace hDc := hD.subF (f' := [(m9, .inr (23, mA mr mv vf xl (nI zs) 0 xa19 (nI T) (nI pp19) xi xt xn (nI ns) (nI (vv + 1)) (nI bb19))), (mr 5, .inl (kI, 3002, .inl fk)), (mr 6, .inl (kI, 3002, .inl fa))]) [1, 2, 3] (by decide) rfl
                  replace hKc := hK.sub (tys' := [(kI, .int)]) [0] rfl
                  replace hFc := va_freeT (wc := [(m9, .inr (23, mA mr mv vf xl (nI zs) 0 xa19 (nI T) (nI pp19) xi xt xn (nI ns) (nI (vv + 1)) (nI bb19))), (mr 5, .inl (kI, 3002, .inl fk)), (mr 6, .inl (kI, 3002, .inl fa))]) hD hS hA [1, 2, 3] rfl
                  refine va_callv (va_runV (As := [.int 60]) (rest := []) ⟨hx, hb, hml, hown, hts⟩ (c_rtkN l dC dI m9 mr mv vf xl xa19 xi xt xn zs T pp19 ns (vv + 1) bb19 kI fk fa 60 H.size hT hf20_1.2.1 hk0 (by decide) hk_22) (cwV 1 hts g_c_vlt_c_rtkN_74 rfl rfl rfl (by decide +kernel) ⟨by show 1 + 1 ≤ 14 + 14 * k; omega, by show 8 + (2 + 11) + (22) ≤ 322 + 323 * k; omega⟩) ⟨fun a U g mk q => by obtain ⟨q0, q1, qP, qK, qD⟩ := q; exact ⟨q0, q1, qP, va_K.moved (u := U) (U := U.calling g mk a) (Vm.Alike.refl U.vm) qK, qD⟩, va_recv hKc hPc (ci := 23) (q0 := 0) rfl rfl, fun U hU hW => ⟨rfl, by rw [hU], by rw [hU]; exact hPc, va_K.moved hW.alike hKc, hDc.weaken (fun _ _ _ _ => trivial)⟩⟩ rfl rfl hl.1 rfl (lv_room (Nat.le_of_ble_eq_true rfl)) dX23_let_74 ⟨(show ((pp13 - (pp + 1 + 1 + 1)) + 1 + 8 * (pp19 - (pp13 + 1)) + 3) + 0 ≤ (8 * (T - pp) + 14) by omega), (show (5 * (pp13 - (pp + 1 + 1 + 1)) + 5 + 120 * (pp19 - (pp13 + 1)) + 48) + 0 ≤ (120 * (T - pp) + 480) by omega)⟩) hS (fun q _ h => hFc q h) hFc (fun u tS H1 locs ht hvm hw hB hz1 hk1 hS => ?_)
                  obtain ⟨ff_23, xa_24, hf25_0, hP1, hK1, hD1⟩ := hB
                  rw [ht] at hP1
                  replace hK1 := va_K.moved hvm.symm hK1
                  obtain ⟨hPj, hDj⟩ := va_joinT (wr := [(ss, .inr (19, [.int 0, .int (nI pp), .int (nI (pp + 1)), .int 0, .int 0, .ref r_14, .ref r_20, .null, .null, .null, .null, .null, .null, .int 0])), (mr 8, .inl (kL, 3002, .inr (.inl fn)))]) (w1 := [(m9, .inr (23, mA mr mv vf xl (nI zs) ff_23 xa_24 (nI T) (nI pp19) xi xt xn (nI ns) (nI (vv + 1)) (nI bb19))), (mr 5, .inl (kI, 3002, .inl fk)), (mr 6, .inl (kI, 3002, .inl fa))]) hP hD [1, 2, 3] [0, 4] rfl rfl (by decide) (by decide) hk1 hFc hP1 hD1
                  replace hP := hPj
                  replace hD := hDj
                  clear hPj hDj
                  replace hK := hK.app hK1
                  generalize H1 = H at hP hS ⊢
                  replace hP : va_P (dC, dI) vwCl (([(ss, .inr (19, [.int 0, .int (nI pp), .int (nI (pp + 1)), .int 0, .int 0, .ref r_14, .ref r_20, .null, .null, .null, .null, .null, .null, .int 0])), (mr 8, .inl (kL, 3002, .inr (.inl fn))), (m9, .inr (23, mA mr mv vf xl (nI zs) ff_23 xa_24 (nI T) (nI pp19) xi xt xn (nI ns) (nI (vv + 1)) (nI bb19))), (mr 5, .inl (kI, 3002, .inl fk)), (mr 6, .inl (kI, 3002, .inl fa))] : va_W) ++ (sT L19 F19)) H := hP
                  replace hD : va_D A (([(ss, .inr (19, [.int 0, .int (nI pp), .int (nI (pp + 1)), .int 0, .int 0, .ref r_14, .ref r_20, .null, .null, .null, .null, .null, .null, .int 0])), (mr 8, .inl (kL, 3002, .inr (.inl fn))), (m9, .inr (23, mA mr mv vf xl (nI zs) ff_23 xa_24 (nI T) (nI pp19) xi xt xn (nI ns) (nI (vv + 1)) (nI bb19))), (mr 5, .inl (kI, 3002, .inl fk)), (mr 6, .inl (kI, 3002, .inl fa))] : va_W) ++ (sT L19 F19)) := hD
                  replace hK : va_K (dC, dI) vwCl [(kI, .int), (kL, .long), (kE, .object RX15), (kS, .object RX19), (kB, .object RX14), (kA, .object RX13), (kV, .object RX21), (kI, .int)] s := hK
                  replace hK := hK.sub (tys' := [(kI, .int), (kL, .long), (kE, .object RX15), (kS, .object RX19), (kB, .object RX14), (kA, .object RX13), (kV, .object RX21)]) [0, 1, 2, 3, 4, 5, 6] rfl
                  clear hz1 hk1 hPc hDc hKc hFc hP1 hD1 hK1
                  refine W.grow (fun hgs0 hgs1 => ?_)
                  have hP9 := hP.subT (f' := [(ss, .inr (19, [.int 0, .int (nI pp), .int (nI (pp + 1)), .int 0, .int 0, (.ref r_14), (.ref r_20), .null, .null, .null, .null, .null, .null, .int 0])), (m9, .inr (23, mA mr mv vf xl (nI zs) ff_23 xa_24 (nI T) (nI pp19) xi xt xn (nI ns) (nI (vv + 1)) (nI bb19))), (mr 5, .inl (kI, 3002, .inl fk)), (mr 6, .inl (kI, 3002, .inl fa)), (mr 8, .inl (kL, 3002, .inr (.inl fn)))]) [0, 2, 3, 4, 1] rfl
                  have hD9 := hD.subT (f' := [(ss, .inr (19, [.int 0, .int (nI pp), .int (nI (pp + 1)), .int 0, .int 0, (.ref r_14), (.ref r_20), .null, .null, .null, .null, .null, .null, .int 0])), (m9, .inr (23, mA mr mv vf xl (nI zs) ff_23 xa_24 (nI T) (nI pp19) xi xt xn (nI ns) (nI (vv + 1)) (nI bb19))), (mr 5, .inl (kI, 3002, .inl fk)), (mr 6, .inl (kI, 3002, .inl fa)), (mr 8, .inl (kL, 3002, .inr (.inl fn)))]) [0, 2, 3, 4, 1] (by decide) rfl
                  have hK9 := hK.sub (tys' := [(kI, .int), (kL, .long), (kE, .object RX15), (kS, .object RX19), (kB, .object RX14), (kA, .object RX13), (kV, .object RX21)]) [0, 1, 2, 3, 4, 5, 6] rfl
                  refine W.widen (k := (8 * (T - pp) + 14)) (n := (120 * (T - pp) + 480)) (by omega) (by omega) ?_
                  exact W.vret hx hb hr (fun tS ht hW => ⟨⟨(), rfl, trivial, L19, F19, ff_23, xa_24, pp19, bb19, vv + 1, 1, nI (pp + 1), 0, .ref r_14, .ref r_20, (hf14_0.1).tr hf20_0.1, ⟨by omega, by omega, by omega, by omega, by omega, by omega⟩, ⟨by omega, fun q9 => absurd q9 hf25_0⟩, (fun q9 => absurd q9 hf25_0), by rw [ht]; exact ⟨by omega, by omega⟩, by rw [ht]; exact hP9, va_K.moved hW.alike hK9, hD9⟩, hS.F ht⟩) hS.2.2 dX23_let_77
              · replace hPc := hP.subF (f' := [(m9, .inr (23, mA mr mv vf xl (nI zs) ff19 xa19 (nI T) (nI pp19) xi xt xn (nI ns) (nI (vv + 1)) (nI bb19))), (mr 5, .inl (kI, 3002, .inl fk)), (mr 6, .inl (kI, 3002, .inl fa))]) [1, 2, 3] rfl
                replace hDc := hD.subF (f' := [(m9, .inr (23, mA mr mv vf xl (nI zs) ff19 xa19 (nI T) (nI pp19) xi xt xn (nI ns) (nI (vv + 1)) (nI bb19))), (mr 5, .inl (kI, 3002, .inl fk)), (mr 6, .inl (kI, 3002, .inl fa))]) [1, 2, 3] (by decide) rfl
                replace hKc := hK.sub (tys' := [(kI, .int)]) [0] rfl
                replace hFc := va_freeT (wc := [(m9, .inr (23, mA mr mv vf xl (nI zs) ff19 xa19 (nI T) (nI pp19) xi xt xn (nI ns) (nI (vv + 1)) (nI bb19))), (mr 5, .inl (kI, 3002, .inl fk)), (mr 6, .inl (kI, 3002, .inl fa))]) hD hS hA [1, 2, 3] rfl
                refine va_callv (va_runV (As := [.int 60]) (rest := []) ⟨hx, hb, hml, hown, hts⟩ (c_rtkB l dC dI m9 mr mv vf xl xa19 xi xt xn zs T pp19 ns (vv + 1) bb19 kI fk fa ff19 60 H.size hz_21) (cwV 1 hts g_c_vlt_c_rtkB_74 rfl rfl rfl (by decide +kernel) ⟨by show 1 + 1 ≤ 14 + 14 * k; omega, by show 8 + (2 + 11) + (20) ≤ 322 + 323 * k; omega⟩) ⟨fun a U g mk q => by obtain ⟨q0, q1, qP, qK, qD⟩ := q; exact ⟨q0, q1, qP, va_K.moved (u := U) (U := U.calling g mk a) (Vm.Alike.refl U.vm) qK, qD⟩, va_recv hKc hPc (ci := 23) (q0 := 0) rfl rfl, fun U hU hW => ⟨rfl, by rw [hU], by rw [hU]; exact hPc, va_K.moved hW.alike hKc, hDc.weaken (fun _ _ _ _ => trivial)⟩⟩ rfl rfl hl.1 rfl (lv_room (Nat.le_of_ble_eq_true rfl)) dX23_let_74 ⟨(show ((pp13 - (pp + 1 + 1 + 1)) + 1 + 8 * (pp19 - (pp13 + 1)) + 3) + 0 ≤ (8 * (T - pp) + 14) by omega), (show (5 * (pp13 - (pp + 1 + 1 + 1)) + 5 + 120 * (pp19 - (pp13 + 1)) + 48) + 0 ≤ (120 * (T - pp) + 480) by omega)⟩) hS (fun q _ h => hFc q h) hFc (fun u tS H1 locs ht hvm hw hB hz1 hk1 hS => ?_)
                obtain ⟨hP1, hK1, hD1⟩ := hB
                rw [ht] at hP1
                replace hK1 := va_K.moved hvm.symm hK1
                obtain ⟨hPj, hDj⟩ := va_joinT (wr := [(ss, .inr (19, [.int 0, .int (nI pp), .int (nI (pp + 1)), .int 0, .int 0, .ref r_14, .ref r_20, .null, .null, .null, .null, .null, .null, .int 0])), (mr 8, .inl (kL, 3002, .inr (.inl fn)))]) (w1 := [(m9, .inr (23, mA mr mv vf xl (nI zs) ff19 xa19 (nI T) (nI pp19) xi xt xn (nI ns) (nI (vv + 1)) (nI bb19))), (mr 5, .inl (kI, 3002, .inl fk)), (mr 6, .inl (kI, 3002, .inl fa))]) hP hD [1, 2, 3] [0, 4] rfl rfl (by decide) (by decide) hk1 hFc hP1 hD1
                replace hP := hPj
                replace hD := hDj
                clear hPj hDj
                replace hK := hK.app hK1
                generalize H1 = H at hP hS ⊢
                replace hP : va_P (dC, dI) vwCl (([(ss, .inr (19, [.int 0, .int (nI pp), .int (nI (pp + 1)), .int 0, .int 0, .ref r_14, .ref r_20, .null, .null, .null, .null, .null, .null, .int 0])), (mr 8, .inl (kL, 3002, .inr (.inl fn))), (m9, .inr (23, mA mr mv vf xl (nI zs) ff19 xa19 (nI T) (nI pp19) xi xt xn (nI ns) (nI (vv + 1)) (nI bb19))), (mr 5, .inl (kI, 3002, .inl fk)), (mr 6, .inl (kI, 3002, .inl fa))] : va_W) ++ (sT L19 F19)) H := hP
                replace hD : va_D A (([(ss, .inr (19, [.int 0, .int (nI pp), .int (nI (pp + 1)), .int 0, .int 0, .ref r_14, .ref r_20, .null, .null, .null, .null, .null, .null, .int 0])), (mr 8, .inl (kL, 3002, .inr (.inl fn))), (m9, .inr (23, mA mr mv vf xl (nI zs) ff19 xa19 (nI T) (nI pp19) xi xt xn (nI ns) (nI (vv + 1)) (nI bb19))), (mr 5, .inl (kI, 3002, .inl fk)), (mr 6, .inl (kI, 3002, .inl fa))] : va_W) ++ (sT L19 F19)) := hD
                replace hK : va_K (dC, dI) vwCl [(kI, .int), (kL, .long), (kE, .object RX15), (kS, .object RX19), (kB, .object RX14), (kA, .object RX13), (kV, .object RX21), (kI, .int)] s := hK
                replace hK := hK.sub (tys' := [(kI, .int), (kL, .long), (kE, .object RX15), (kS, .object RX19), (kB, .object RX14), (kA, .object RX13), (kV, .object RX21)]) [0, 1, 2, 3, 4, 5, 6] rfl
                clear hz1 hk1 hPc hDc hKc hFc hP1 hD1 hK1
                refine W.grow (fun hgs0 hgs1 => ?_)
                have hP9 := hP.subT (f' := [(ss, .inr (19, [.int 0, .int (nI pp), .int (nI (pp + 1)), .int 0, .int 0, (.ref r_14), (.ref r_20), .null, .null, .null, .null, .null, .null, .int 0])), (m9, .inr (23, mA mr mv vf xl (nI zs) ff19 xa19 (nI T) (nI pp19) xi xt xn (nI ns) (nI (vv + 1)) (nI bb19))), (mr 5, .inl (kI, 3002, .inl fk)), (mr 6, .inl (kI, 3002, .inl fa)), (mr 8, .inl (kL, 3002, .inr (.inl fn)))]) [0, 2, 3, 4, 1] rfl
                have hD9 := hD.subT (f' := [(ss, .inr (19, [.int 0, .int (nI pp), .int (nI (pp + 1)), .int 0, .int 0, (.ref r_14), (.ref r_20), .null, .null, .null, .null, .null, .null, .int 0])), (m9, .inr (23, mA mr mv vf xl (nI zs) ff19 xa19 (nI T) (nI pp19) xi xt xn (nI ns) (nI (vv + 1)) (nI bb19))), (mr 5, .inl (kI, 3002, .inl fk)), (mr 6, .inl (kI, 3002, .inl fa)), (mr 8, .inl (kL, 3002, .inr (.inl fn)))]) [0, 2, 3, 4, 1] (by decide) rfl
                have hK9 := hK.sub (tys' := [(kI, .int), (kL, .long), (kE, .object RX15), (kS, .object RX19), (kB, .object RX14), (kA, .object RX13), (kV, .object RX21)]) [0, 1, 2, 3, 4, 5, 6] rfl
                refine W.widen (k := (8 * (T - pp) + 14)) (n := (120 * (T - pp) + 480)) (by omega) (by omega) ?_
                exact W.vret hx hb hr (fun tS ht hW => ⟨⟨(), rfl, trivial, L19, F19, ff19, xa19, pp19, bb19, vv + 1, 1, nI (pp + 1), 0, .ref r_14, .ref r_20, (hf14_0.1).tr hf20_0.1, ⟨by omega, by omega, by omega, by omega, by omega, by omega⟩, ⟨by omega, fun q9 => absurd q9 hz_21⟩, (fun q9 => absurd q9 hz_21), by rw [ht]; exact ⟨by omega, by omega⟩, by rw [ht]; exact hP9, va_K.moved hW.alike hK9, hD9⟩, hS.F ht⟩) hS.2.2 dX23_let_77
            · replace hPc := hP.subF (f' := [(m9, .inr (23, mA mr mv vf xl (nI zs) 0 xa13 (nI T) (nI pp13) xi xt xn (nI ns) (nI (vv + 1)) (nI bb))), (mr 5, .inl (kI, 3002, .inl fk))]) [2, 3] rfl
              replace hDc := hD.subF (f' := [(m9, .inr (23, mA mr mv vf xl (nI zs) 0 xa13 (nI T) (nI pp13) xi xt xn (nI ns) (nI (vv + 1)) (nI bb))), (mr 5, .inl (kI, 3002, .inl fk))]) [2, 3] (by decide) rfl
              replace hKc := hK.sub (tys' := [(kI, .int)]) [0] rfl
              replace hFc := va_freeT (wc := [(m9, .inr (23, mA mr mv vf xl (nI zs) 0 xa13 (nI T) (nI pp13) xi xt xn (nI ns) (nI (vv + 1)) (nI bb))), (mr 5, .inl (kI, 3002, .inl fk))]) hD hS hA [2, 3] rfl
              refine va_calli (va_runV (As := [.int 54]) (rest := []) ⟨hx, hb, hml, hown, hts⟩ (c_rtsN l dC dI m9 mr mv vf xl xa13 xi xt xn zs T pp13 ns (vv + 1) bb kI fk fa 54 H.size hT hf14_2.2 hk0 (by decide) hk_16) (cwV 1 hts g_c_vlt_c_rtsN_57 rfl rfl rfl (by decide +kernel) ⟨by show 1 + 1 ≤ 14 + 14 * k; omega, by show 8 + (2 + 11) + (21) ≤ 322 + 323 * k; omega⟩) ⟨fun a U g mk q => by obtain ⟨q0, q1, qP, qK, qD⟩ := q; exact ⟨q0, q1, qP, va_K.moved (u := U) (U := U.calling g mk a) (Vm.Alike.refl U.vm) qK, qD⟩, va_recv hKc hPc (ci := 23) (q0 := 0) rfl rfl, fun U hU hW => ⟨rfl, by rw [hU], by rw [hU]; exact hPc, va_K.moved hW.alike hKc, hDc.weaken (fun _ _ _ _ => trivial)⟩⟩ rfl rfl hl.1 rfl (lv_room (Nat.le_of_ble_eq_true rfl)) dX23_let_57 ⟨(show (pp13 - (pp + 1 + 1 + 1)) + 1 + 0 ≤ (8 * (T - pp) + 14) by omega), (show 5 * (pp13 - (pp + 1 + 1 + 1)) + 5 + 0 ≤ (120 * (T - pp) + 480) by omega)⟩) hS (fun q _ h => hFc q h) hFc (fun r_17 u tS H1 locs ht hvm hw hB hz1 hk1 hS => ?_)
              obtain ⟨hP1, hK1, hD1⟩ := hB
              rw [ht] at hP1
              replace hK1 := va_K.moved hvm.symm hK1
              obtain ⟨hPj, hDj⟩ := va_joinT (wr := [(ss, .inr (19, [.int 0, .int (nI pp), .int (nI (pp + 1)), .int 0, .int 0, .ref r_14, .null, .null, .null, .null, .null, .null, .null, .int 0])), (mr 8, .inl (kL, 3002, .inr (.inl fn))), (mr 6, .inl (kI, 3002, .inl fa))]) (w1 := [(m9, .inr (23, mA mr mv vf xl (nI zs) 0 xa13 (nI T) (nI pp13) xi xt xn (nI ns) (nI (vv + 1)) (nI bb))), (mr 5, .inl (kI, 3002, .inl fk))]) hP hD [2, 3] [0, 1, 4] rfl rfl (by decide) (by decide) hk1 hFc hP1 hD1
              replace hP := hPj
              replace hD := hDj
              clear hPj hDj
              replace hK := hK.app hK1
              generalize H1 = H at hP hS ⊢
              replace hP : va_P (dC, dI) vwCl (([(ss, .inr (19, [.int 0, .int (nI pp), .int (nI (pp + 1)), .int 0, .int 0, .ref r_14, .null, .null, .null, .null, .null, .null, .null, .int 0])), (mr 8, .inl (kL, 3002, .inr (.inl fn))), (mr 6, .inl (kI, 3002, .inl fa)), (m9, .inr (23, mA mr mv vf xl (nI zs) 0 xa13 (nI T) (nI pp13) xi xt xn (nI ns) (nI (vv + 1)) (nI bb))), (mr 5, .inl (kI, 3002, .inl fk))] : va_W) ++ (sT L13 F13)) H := hP
              replace hD : va_D A (([(ss, .inr (19, [.int 0, .int (nI pp), .int (nI (pp + 1)), .int 0, .int 0, .ref r_14, .null, .null, .null, .null, .null, .null, .null, .int 0])), (mr 8, .inl (kL, 3002, .inr (.inl fn))), (mr 6, .inl (kI, 3002, .inl fa)), (m9, .inr (23, mA mr mv vf xl (nI zs) 0 xa13 (nI T) (nI pp13) xi xt xn (nI ns) (nI (vv + 1)) (nI bb))), (mr 5, .inl (kI, 3002, .inl fk))] : va_W) ++ (sT L13 F13)) := hD
              replace hK : va_K (dC, dI) vwCl [(kI, .int), (kL, .long), (kE, .object RX15), (kS, .object RX19), (kB, .object RX14), (kA, .object RX13), (kV, .object RX21), (kI, .int)] s := hK
              replace hK := hK.sub (tys' := [(kI, .int), (kL, .long), (kE, .object RX15), (kS, .object RX19), (kB, .object RX14), (kA, .object RX13), (kV, .object RX21)]) [0, 1, 2, 3, 4, 5, 6] rfl
              clear hz1 hk1 hPc hDc hKc hFc hP1 hD1 hK1
              obtain rfl : r_17 = 0 := hw
              refine lv_if_eq (tgt := 71) hx hb dX23_let_60 (by decide) (fun _ => ?_) (fun c_18 => absurd (by decide) c_18)
              refine lv_aload_n hx hb dX23_let_71 rfl (lv_at hl 0 rfl) ?_
              refine lv_bipush (v := 60) hx hb dX23_let_72 (by decide) ?_
              by_cases hk_19 : fk pp13 = 60
              · replace hPc := hP.subF (f' := [(m9, .inr (23, mA mr mv vf xl (nI zs) 0 xa13 (nI T) (nI pp13) xi xt xn (nI ns) (nI (vv + 1)) (nI bb))), (mr 5, .inl (kI, 3002, .inl fk)), (mr 6, .inl (kI, 3002, .inl fa))]) [3, 4, 2] rfl
                replace hDc := hD.subF (f' := [(m9, .inr (23, mA mr mv vf xl (nI zs) 0 xa13 (nI T) (nI pp13) xi xt xn (nI ns) (nI (vv + 1)) (nI bb))), (mr 5, .inl (kI, 3002, .inl fk)), (mr 6, .inl (kI, 3002, .inl fa))]) [3, 4, 2] (by decide) rfl
                replace hKc := hK.sub (tys' := [(kI, .int)]) [0] rfl
                replace hFc := va_freeT (wc := [(m9, .inr (23, mA mr mv vf xl (nI zs) 0 xa13 (nI T) (nI pp13) xi xt xn (nI ns) (nI (vv + 1)) (nI bb))), (mr 5, .inl (kI, 3002, .inl fk)), (mr 6, .inl (kI, 3002, .inl fa))]) hD hS hA [3, 4, 2] rfl
                refine va_callv (va_runV (As := [.int 60]) (rest := []) ⟨hx, hb, hml, hown, hts⟩ (c_rtkY l dC dI m9 mr mv vf xl xa13 xi xt xn zs T pp13 ns (vv + 1) bb kI fk fa 60 H.size hT hf14_2.2 hk0 (by decide) hk_19) (cwV 1 hts g_c_vlt_c_rtkY_74 rfl rfl rfl (by decide +kernel) ⟨by show 1 + 1 ≤ 14 + 14 * k; omega, by show 8 + (2 + 11) + (21) ≤ 322 + 323 * k; omega⟩) ⟨fun a U g mk q => by obtain ⟨q0, q1, qP, qK, qD⟩ := q; exact ⟨q0, q1, qP, va_K.moved (u := U) (U := U.calling g mk a) (Vm.Alike.refl U.vm) qK, qD⟩, va_recv hKc hPc (ci := 23) (q0 := 0) rfl rfl, fun U hU hW => ⟨rfl, by rw [hU], by rw [hU]; exact hPc, va_K.moved hW.alike hKc, hDc.weaken (fun _ _ _ _ => trivial)⟩⟩ rfl rfl hl.1 rfl (lv_room (Nat.le_of_ble_eq_true rfl)) dX23_let_74 ⟨(show (pp13 - (pp + 1 + 1 + 1)) + 1 + 0 ≤ (8 * (T - pp) + 14) by omega), (show 5 * (pp13 - (pp + 1 + 1 + 1)) + 5 + 0 ≤ (120 * (T - pp) + 480) by omega)⟩) hS (fun q _ h => hFc q h) hFc (fun u tS H1 locs ht hvm hw hB hz1 hk1 hS => ?_)
                obtain ⟨hP1, hK1, hD1⟩ := hB
                rw [ht] at hP1
                replace hK1 := va_K.moved hvm.symm hK1
                obtain ⟨hPj, hDj⟩ := va_joinT (wr := [(ss, .inr (19, [.int 0, .int (nI pp), .int (nI (pp + 1)), .int 0, .int 0, .ref r_14, .null, .null, .null, .null, .null, .null, .null, .int 0])), (mr 8, .inl (kL, 3002, .inr (.inl fn)))]) (w1 := [(m9, .inr (23, mA mr mv vf xl (nI zs) 0 xa13 (nI T) (nI (pp13 + 1)) xi xt xn (nI ns) (nI (vv + 1)) (nI bb))), (mr 5, .inl (kI, 3002, .inl fk)), (mr 6, .inl (kI, 3002, .inl fa))]) hP hD [3, 4, 2] [0, 1] rfl rfl (by decide) (by decide) hk1 hFc hP1 hD1
                replace hP := hPj
                replace hD := hDj
                clear hPj hDj
                replace hK := hK.app hK1
                generalize H1 = H at hP hS ⊢
                replace hP : va_P (dC, dI) vwCl (([(ss, .inr (19, [.int 0, .int (nI pp), .int (nI (pp + 1)), .int 0, .int 0, .ref r_14, .null, .null, .null, .null, .null, .null, .null, .int 0])), (mr 8, .inl (kL, 3002, .inr (.inl fn))), (m9, .inr (23, mA mr mv vf xl (nI zs) 0 xa13 (nI T) (nI (pp13 + 1)) xi xt xn (nI ns) (nI (vv + 1)) (nI bb))), (mr 5, .inl (kI, 3002, .inl fk)), (mr 6, .inl (kI, 3002, .inl fa))] : va_W) ++ (sT L13 F13)) H := hP
                replace hD : va_D A (([(ss, .inr (19, [.int 0, .int (nI pp), .int (nI (pp + 1)), .int 0, .int 0, .ref r_14, .null, .null, .null, .null, .null, .null, .null, .int 0])), (mr 8, .inl (kL, 3002, .inr (.inl fn))), (m9, .inr (23, mA mr mv vf xl (nI zs) 0 xa13 (nI T) (nI (pp13 + 1)) xi xt xn (nI ns) (nI (vv + 1)) (nI bb))), (mr 5, .inl (kI, 3002, .inl fk)), (mr 6, .inl (kI, 3002, .inl fa))] : va_W) ++ (sT L13 F13)) := hD
                replace hK : va_K (dC, dI) vwCl [(kI, .int), (kL, .long), (kE, .object RX15), (kS, .object RX19), (kB, .object RX14), (kA, .object RX13), (kV, .object RX21), (kI, .int)] s := hK
                replace hK := hK.sub (tys' := [(kI, .int), (kL, .long), (kE, .object RX15), (kS, .object RX19), (kB, .object RX14), (kA, .object RX13), (kV, .object RX21)]) [0, 1, 2, 3, 4, 5, 6] rfl
                clear hz1 hk1 hPc hDc hKc hFc hP1 hD1 hK1
                have hp_21 : pp13 + 1 < T := kne3 hk0 hf14_2.2 hk_19 (by decide)
                refine W.grow (fun hgs0 hgs1 => ?_)
                have hP9 := hP.subT (f' := [(ss, .inr (19, [.int 0, .int (nI pp), .int (nI (pp + 1)), .int 0, .int 0, (.ref r_14), .null, .null, .null, .null, .null, .null, .null, .int 0])), (m9, .inr (23, mA mr mv vf xl (nI zs) 0 xa13 (nI T) (nI (pp13 + 1)) xi xt xn (nI ns) (nI (vv + 1)) (nI bb))), (mr 5, .inl (kI, 3002, .inl fk)), (mr 6, .inl (kI, 3002, .inl fa)), (mr 8, .inl (kL, 3002, .inr (.inl fn)))]) [0, 2, 3, 4, 1] rfl
                have hD9 := hD.subT (f' := [(ss, .inr (19, [.int 0, .int (nI pp), .int (nI (pp + 1)), .int 0, .int 0, (.ref r_14), .null, .null, .null, .null, .null, .null, .null, .int 0])), (m9, .inr (23, mA mr mv vf xl (nI zs) 0 xa13 (nI T) (nI (pp13 + 1)) xi xt xn (nI ns) (nI (vv + 1)) (nI bb))), (mr 5, .inl (kI, 3002, .inl fk)), (mr 6, .inl (kI, 3002, .inl fa)), (mr 8, .inl (kL, 3002, .inr (.inl fn)))]) [0, 2, 3, 4, 1] (by decide) rfl
                have hK9 := hK.sub (tys' := [(kI, .int), (kL, .long), (kE, .object RX15), (kS, .object RX19), (kB, .object RX14), (kA, .object RX13), (kV, .object RX21)]) [0, 1, 2, 3, 4, 5, 6] rfl
                refine W.widen (k := (8 * (T - pp) + 14)) (n := (120 * (T - pp) + 480)) (by omega) (by omega) ?_
                exact W.vret hx hb hr (fun tS ht hW => ⟨⟨(), rfl, trivial, L13, F13, 0, xa13, pp13 + 1, bb, vv + 1, 0, nI (pp + 1), 0, .ref r_14, .null, hf14_0.1, ⟨by omega, by omega, by omega, by omega, by omega, by omega⟩, ⟨by omega, fun _ => rfl⟩, (fun _ => ⟨hbb, by omega, by omega, fun aZ LZ FZ hxZ haZ hFZ => ⟨haZ, by omega, Or.inl ⟨pp + 1, _, _, _, hFZ, by omega, by omega, Or.inl rfl, rfl, Or.inr ⟨r_14, pp + 1 + 1 + 1, pp13, rfl, by omega, by omega, isT_ex hxZ (isT_le (isT_ex exS.rf (hf14_3 rfl)) (by omega))⟩, Or.inl ⟨rfl, rfl⟩⟩⟩⟩), by rw [ht]; exact ⟨by omega, by omega⟩, by rw [ht]; exact hP9, va_K.moved hW.alike hK9, hD9⟩, hS.F ht⟩) hS.2.2 dX23_let_77
              · replace hPc := hP.subF (f' := [(m9, .inr (23, mA mr mv vf xl (nI zs) 0 xa13 (nI T) (nI pp13) xi xt xn (nI ns) (nI (vv + 1)) (nI bb))), (mr 5, .inl (kI, 3002, .inl fk)), (mr 6, .inl (kI, 3002, .inl fa))]) [3, 4, 2] rfl
                replace hDc := hD.subF (f' := [(m9, .inr (23, mA mr mv vf xl (nI zs) 0 xa13 (nI T) (nI pp13) xi xt xn (nI ns) (nI (vv + 1)) (nI bb))), (mr 5, .inl (kI, 3002, .inl fk)), (mr 6, .inl (kI, 3002, .inl fa))]) [3, 4, 2] (by decide) rfl
                replace hKc := hK.sub (tys' := [(kI, .int)]) [0] rfl
                replace hFc := va_freeT (wc := [(m9, .inr (23, mA mr mv vf xl (nI zs) 0 xa13 (nI T) (nI pp13) xi xt xn (nI ns) (nI (vv + 1)) (nI bb))), (mr 5, .inl (kI, 3002, .inl fk)), (mr 6, .inl (kI, 3002, .inl fa))]) hD hS hA [3, 4, 2] rfl
                refine va_callv (va_runV (As := [.int 60]) (rest := []) ⟨hx, hb, hml, hown, hts⟩ (c_rtkN l dC dI m9 mr mv vf xl xa13 xi xt xn zs T pp13 ns (vv + 1) bb kI fk fa 60 H.size hT hf14_2.2 hk0 (by decide) hk_19) (cwV 1 hts g_c_vlt_c_rtkN_74 rfl rfl rfl (by decide +kernel) ⟨by show 1 + 1 ≤ 14 + 14 * k; omega, by show 8 + (2 + 11) + (22) ≤ 322 + 323 * k; omega⟩) ⟨fun a U g mk q => by obtain ⟨q0, q1, qP, qK, qD⟩ := q; exact ⟨q0, q1, qP, va_K.moved (u := U) (U := U.calling g mk a) (Vm.Alike.refl U.vm) qK, qD⟩, va_recv hKc hPc (ci := 23) (q0 := 0) rfl rfl, fun U hU hW => ⟨rfl, by rw [hU], by rw [hU]; exact hPc, va_K.moved hW.alike hKc, hDc.weaken (fun _ _ _ _ => trivial)⟩⟩ rfl rfl hl.1 rfl (lv_room (Nat.le_of_ble_eq_true rfl)) dX23_let_74 ⟨(show (pp13 - (pp + 1 + 1 + 1)) + 1 + 0 ≤ (8 * (T - pp) + 14) by omega), (show 5 * (pp13 - (pp + 1 + 1 + 1)) + 5 + 0 ≤ (120 * (T - pp) + 480) by omega)⟩) hS (fun q _ h => hFc q h) hFc (fun u tS H1 locs ht hvm hw hB hz1 hk1 hS => ?_)
                obtain ⟨ff_20, xa_21, hf22_0, hP1, hK1, hD1⟩ := hB
                rw [ht] at hP1
                replace hK1 := va_K.moved hvm.symm hK1
                obtain ⟨hPj, hDj⟩ := va_joinT (wr := [(ss, .inr (19, [.int 0, .int (nI pp), .int (nI (pp + 1)), .int 0, .int 0, .ref r_14, .null, .null, .null, .null, .null, .null, .null, .int 0])), (mr 8, .inl (kL, 3002, .inr (.inl fn)))]) (w1 := [(m9, .inr (23, mA mr mv vf xl (nI zs) ff_20 xa_21 (nI T) (nI pp13) xi xt xn (nI ns) (nI (vv + 1)) (nI bb))), (mr 5, .inl (kI, 3002, .inl fk)), (mr 6, .inl (kI, 3002, .inl fa))]) hP hD [3, 4, 2] [0, 1] rfl rfl (by decide) (by decide) hk1 hFc hP1 hD1
                replace hP := hPj
                replace hD := hDj
                clear hPj hDj
                replace hK := hK.app hK1
                generalize H1 = H at hP hS ⊢
                replace hP : va_P (dC, dI) vwCl (([(ss, .inr (19, [.int 0, .int (nI pp), .int (nI (pp + 1)), .int 0, .int 0, .ref r_14, .null, .null, .null, .null, .null, .null, .null, .int 0])), (mr 8, .inl (kL, 3002, .inr (.inl fn))), (m9, .inr (23, mA mr mv vf xl (nI zs) ff_20 xa_21 (nI T) (nI pp13) xi xt xn (nI ns) (nI (vv + 1)) (nI bb))), (mr 5, .inl (kI, 3002, .inl fk)), (mr 6, .inl (kI, 3002, .inl fa))] : va_W) ++ (sT L13 F13)) H := hP
                replace hD : va_D A (([(ss, .inr (19, [.int 0, .int (nI pp), .int (nI (pp + 1)), .int 0, .int 0, .ref r_14, .null, .null, .null, .null, .null, .null, .null, .int 0])), (mr 8, .inl (kL, 3002, .inr (.inl fn))), (m9, .inr (23, mA mr mv vf xl (nI zs) ff_20 xa_21 (nI T) (nI pp13) xi xt xn (nI ns) (nI (vv + 1)) (nI bb))), (mr 5, .inl (kI, 3002, .inl fk)), (mr 6, .inl (kI, 3002, .inl fa))] : va_W) ++ (sT L13 F13)) := hD
                replace hK : va_K (dC, dI) vwCl [(kI, .int), (kL, .long), (kE, .object RX15), (kS, .object RX19), (kB, .object RX14), (kA, .object RX13), (kV, .object RX21), (kI, .int)] s := hK
                replace hK := hK.sub (tys' := [(kI, .int), (kL, .long), (kE, .object RX15), (kS, .object RX19), (kB, .object RX14), (kA, .object RX13), (kV, .object RX21)]) [0, 1, 2, 3, 4, 5, 6] rfl
                clear hz1 hk1 hPc hDc hKc hFc hP1 hD1 hK1
                refine W.grow (fun hgs0 hgs1 => ?_)
                have hP9 := hP.subT (f' := [(ss, .inr (19, [.int 0, .int (nI pp), .int (nI (pp + 1)), .int 0, .int 0, (.ref r_14), .null, .null, .null, .null, .null, .null, .null, .int 0])), (m9, .inr (23, mA mr mv vf xl (nI zs) ff_20 xa_21 (nI T) (nI pp13) xi xt xn (nI ns) (nI (vv + 1)) (nI bb))), (mr 5, .inl (kI, 3002, .inl fk)), (mr 6, .inl (kI, 3002, .inl fa)), (mr 8, .inl (kL, 3002, .inr (.inl fn)))]) [0, 2, 3, 4, 1] rfl
                have hD9 := hD.subT (f' := [(ss, .inr (19, [.int 0, .int (nI pp), .int (nI (pp + 1)), .int 0, .int 0, (.ref r_14), .null, .null, .null, .null, .null, .null, .null, .int 0])), (m9, .inr (23, mA mr mv vf xl (nI zs) ff_20 xa_21 (nI T) (nI pp13) xi xt xn (nI ns) (nI (vv + 1)) (nI bb))), (mr 5, .inl (kI, 3002, .inl fk)), (mr 6, .inl (kI, 3002, .inl fa)), (mr 8, .inl (kL, 3002, .inr (.inl fn)))]) [0, 2, 3, 4, 1] (by decide) rfl
                have hK9 := hK.sub (tys' := [(kI, .int), (kL, .long), (kE, .object RX15), (kS, .object RX19), (kB, .object RX14), (kA, .object RX13), (kV, .object RX21)]) [0, 1, 2, 3, 4, 5, 6] rfl
                refine W.widen (k := (8 * (T - pp) + 14)) (n := (120 * (T - pp) + 480)) (by omega) (by omega) ?_
                exact W.vret hx hb hr (fun tS ht hW => ⟨⟨(), rfl, trivial, L13, F13, ff_20, xa_21, pp13, bb, vv + 1, 1, nI (pp + 1), 0, .ref r_14, .null, hf14_0.1, ⟨by omega, by omega, by omega, by omega, by omega, by omega⟩, ⟨by omega, fun q9 => absurd q9 hf22_0⟩, (fun q9 => absurd q9 hf22_0), by rw [ht]; exact ⟨by omega, by omega⟩, by rw [ht]; exact hP9, va_K.moved hW.alike hK9, hD9⟩, hS.F ht⟩) hS.2.2 dX23_let_77
          · replace hPc := hP.subF (f' := [(m9, .inr (23, mA mr mv vf xl (nI zs) ff13 xa13 (nI T) (nI pp13) xi xt xn (nI ns) (nI (vv + 1)) (nI bb))), (mr 5, .inl (kI, 3002, .inl fk))]) [2, 3] rfl
            replace hDc := hD.subF (f' := [(m9, .inr (23, mA mr mv vf xl (nI zs) ff13 xa13 (nI T) (nI pp13) xi xt xn (nI ns) (nI (vv + 1)) (nI bb))), (mr 5, .inl (kI, 3002, .inl fk))]) [2, 3] (by decide) rfl
            replace hKc := hK.sub (tys' := [(kI, .int)]) [0] rfl
            replace hFc := va_freeT (wc := [(m9, .inr (23, mA mr mv vf xl (nI zs) ff13 xa13 (nI T) (nI pp13) xi xt xn (nI ns) (nI (vv + 1)) (nI bb))), (mr 5, .inl (kI, 3002, .inl fk))]) hD hS hA [2, 3] rfl
            refine va_calli (va_runV (As := [.int 54]) (rest := []) ⟨hx, hb, hml, hown, hts⟩ (c_rtsB l dC dI m9 mr mv vf xl xa13 xi xt xn zs T pp13 ns (vv + 1) bb kI fk fa ff13 54 H.size hz_15) (cwV 1 hts g_c_vlt_c_rtsB_57 rfl rfl rfl (by decide +kernel) ⟨by show 1 + 1 ≤ 14 + 14 * k; omega, by show 8 + (2 + 11) + (20) ≤ 322 + 323 * k; omega⟩) ⟨fun a U g mk q => by obtain ⟨q0, q1, qP, qK, qD⟩ := q; exact ⟨q0, q1, qP, va_K.moved (u := U) (U := U.calling g mk a) (Vm.Alike.refl U.vm) qK, qD⟩, va_recv hKc hPc (ci := 23) (q0 := 0) rfl rfl, fun U hU hW => ⟨rfl, by rw [hU], by rw [hU]; exact hPc, va_K.moved hW.alike hKc, hDc.weaken (fun _ _ _ _ => trivial)⟩⟩ rfl rfl hl.1 rfl (lv_room (Nat.le_of_ble_eq_true rfl)) dX23_let_57 ⟨(show (pp13 - (pp + 1 + 1 + 1)) + 1 + 0 ≤ (8 * (T - pp) + 14) by omega), (show 5 * (pp13 - (pp + 1 + 1 + 1)) + 5 + 0 ≤ (120 * (T - pp) + 480) by omega)⟩) hS (fun q _ h => hFc q h) hFc (fun r_16 u tS H1 locs ht hvm hw hB hz1 hk1 hS => ?_)
            obtain ⟨hP1, hK1, hD1⟩ := hB
            rw [ht] at hP1
            replace hK1 := va_K.moved hvm.symm hK1
            obtain ⟨hPj, hDj⟩ := va_joinT (wr := [(ss, .inr (19, [.int 0, .int (nI pp), .int (nI (pp + 1)), .int 0, .int 0, .ref r_14, .null, .null, .null, .null, .null, .null, .null, .int 0])), (mr 8, .inl (kL, 3002, .inr (.inl fn))), (mr 6, .inl (kI, 3002, .inl fa))]) (w1 := [(m9, .inr (23, mA mr mv vf xl (nI zs) ff13 xa13 (nI T) (nI pp13) xi xt xn (nI ns) (nI (vv + 1)) (nI bb))), (mr 5, .inl (kI, 3002, .inl fk))]) hP hD [2, 3] [0, 1, 4] rfl rfl (by decide) (by decide) hk1 hFc hP1 hD1
            replace hP := hPj
            replace hD := hDj
            clear hPj hDj
            replace hK := hK.app hK1
            generalize H1 = H at hP hS ⊢
            replace hP : va_P (dC, dI) vwCl (([(ss, .inr (19, [.int 0, .int (nI pp), .int (nI (pp + 1)), .int 0, .int 0, .ref r_14, .null, .null, .null, .null, .null, .null, .null, .int 0])), (mr 8, .inl (kL, 3002, .inr (.inl fn))), (mr 6, .inl (kI, 3002, .inl fa)), (m9, .inr (23, mA mr mv vf xl (nI zs) ff13 xa13 (nI T) (nI pp13) xi xt xn (nI ns) (nI (vv + 1)) (nI bb))), (mr 5, .inl (kI, 3002, .inl fk))] : va_W) ++ (sT L13 F13)) H := hP
            replace hD : va_D A (([(ss, .inr (19, [.int 0, .int (nI pp), .int (nI (pp + 1)), .int 0, .int 0, .ref r_14, .null, .null, .null, .null, .null, .null, .null, .int 0])), (mr 8, .inl (kL, 3002, .inr (.inl fn))), (mr 6, .inl (kI, 3002, .inl fa)), (m9, .inr (23, mA mr mv vf xl (nI zs) ff13 xa13 (nI T) (nI pp13) xi xt xn (nI ns) (nI (vv + 1)) (nI bb))), (mr 5, .inl (kI, 3002, .inl fk))] : va_W) ++ (sT L13 F13)) := hD
            replace hK : va_K (dC, dI) vwCl [(kI, .int), (kL, .long), (kE, .object RX15), (kS, .object RX19), (kB, .object RX14), (kA, .object RX13), (kV, .object RX21), (kI, .int)] s := hK
            replace hK := hK.sub (tys' := [(kI, .int), (kL, .long), (kE, .object RX15), (kS, .object RX19), (kB, .object RX14), (kA, .object RX13), (kV, .object RX21)]) [0, 1, 2, 3, 4, 5, 6] rfl
            clear hz1 hk1 hPc hDc hKc hFc hP1 hD1 hK1
            obtain rfl : r_16 = 0 := hw
            refine lv_if_eq (tgt := 71) hx hb dX23_let_60 (by decide) (fun _ => ?_) (fun c_17 => absurd (by decide) c_17)
            refine lv_aload_n hx hb dX23_let_71 rfl (lv_at hl 0 rfl) ?_
            refine lv_bipush (v := 60) hx hb dX23_let_72 (by decide) ?_
            replace hPc := hP.subF (f' := [(m9, .inr (23, mA mr mv vf xl (nI zs) ff13 xa13 (nI T) (nI pp13) xi xt xn (nI ns) (nI (vv + 1)) (nI bb))), (mr 5, .inl (kI, 3002, .inl fk)), (mr 6, .inl (kI, 3002, .inl fa))]) [3, 4, 2] rfl
            replace hDc := hD.subF (f' := [(m9, .inr (23, mA mr mv vf xl (nI zs) ff13 xa13 (nI T) (nI pp13) xi xt xn (nI ns) (nI (vv + 1)) (nI bb))), (mr 5, .inl (kI, 3002, .inl fk)), (mr 6, .inl (kI, 3002, .inl fa))]) [3, 4, 2] (by decide) rfl
            replace hKc := hK.sub (tys' := [(kI, .int)]) [0] rfl
            replace hFc := va_freeT (wc := [(m9, .inr (23, mA mr mv vf xl (nI zs) ff13 xa13 (nI T) (nI pp13) xi xt xn (nI ns) (nI (vv + 1)) (nI bb))), (mr 5, .inl (kI, 3002, .inl fk)), (mr 6, .inl (kI, 3002, .inl fa))]) hD hS hA [3, 4, 2] rfl
            refine va_callv (va_runV (As := [.int 60]) (rest := []) ⟨hx, hb, hml, hown, hts⟩ (c_rtkB l dC dI m9 mr mv vf xl xa13 xi xt xn zs T pp13 ns (vv + 1) bb kI fk fa ff13 60 H.size hz_15) (cwV 1 hts g_c_vlt_c_rtkB_74 rfl rfl rfl (by decide +kernel) ⟨by show 1 + 1 ≤ 14 + 14 * k; omega, by show 8 + (2 + 11) + (20) ≤ 322 + 323 * k; omega⟩) ⟨fun a U g mk q => by obtain ⟨q0, q1, qP, qK, qD⟩ := q; exact ⟨q0, q1, qP, va_K.moved (u := U) (U := U.calling g mk a) (Vm.Alike.refl U.vm) qK, qD⟩, va_recv hKc hPc (ci := 23) (q0 := 0) rfl rfl, fun U hU hW => ⟨rfl, by rw [hU], by rw [hU]; exact hPc, va_K.moved hW.alike hKc, hDc.weaken (fun _ _ _ _ => trivial)⟩⟩ rfl rfl hl.1 rfl (lv_room (Nat.le_of_ble_eq_true rfl)) dX23_let_74 ⟨(show (pp13 - (pp + 1 + 1 + 1)) + 1 + 0 ≤ (8 * (T - pp) + 14) by omega), (show 5 * (pp13 - (pp + 1 + 1 + 1)) + 5 + 0 ≤ (120 * (T - pp) + 480) by omega)⟩) hS (fun q _ h => hFc q h) hFc (fun u tS H1 locs ht hvm hw hB hz1 hk1 hS => ?_)
            obtain ⟨hP1, hK1, hD1⟩ := hB
            rw [ht] at hP1
            replace hK1 := va_K.moved hvm.symm hK1
            obtain ⟨hPj, hDj⟩ := va_joinT (wr := [(ss, .inr (19, [.int 0, .int (nI pp), .int (nI (pp + 1)), .int 0, .int 0, .ref r_14, .null, .null, .null, .null, .null, .null, .null, .int 0])), (mr 8, .inl (kL, 3002, .inr (.inl fn)))]) (w1 := [(m9, .inr (23, mA mr mv vf xl (nI zs) ff13 xa13 (nI T) (nI pp13) xi xt xn (nI ns) (nI (vv + 1)) (nI bb))), (mr 5, .inl (kI, 3002, .inl fk)), (mr 6, .inl (kI, 3002, .inl fa))]) hP hD [3, 4, 2] [0, 1] rfl rfl (by decide) (by decide) hk1 hFc hP1 hD1
            replace hP := hPj
            replace hD := hDj
            clear hPj hDj
            replace hK := hK.app hK1
            generalize H1 = H at hP hS ⊢
            replace hP : va_P (dC, dI) vwCl (([(ss, .inr (19, [.int 0, .int (nI pp), .int (nI (pp + 1)), .int 0, .int 0, .ref r_14, .null, .null, .null, .null, .null, .null, .null, .int 0])), (mr 8, .inl (kL, 3002, .inr (.inl fn))), (m9, .inr (23, mA mr mv vf xl (nI zs) ff13 xa13 (nI T) (nI pp13) xi xt xn (nI ns) (nI (vv + 1)) (nI bb))), (mr 5, .inl (kI, 3002, .inl fk)), (mr 6, .inl (kI, 3002, .inl fa))] : va_W) ++ (sT L13 F13)) H := hP
            replace hD : va_D A (([(ss, .inr (19, [.int 0, .int (nI pp), .int (nI (pp + 1)), .int 0, .int 0, .ref r_14, .null, .null, .null, .null, .null, .null, .null, .int 0])), (mr 8, .inl (kL, 3002, .inr (.inl fn))), (m9, .inr (23, mA mr mv vf xl (nI zs) ff13 xa13 (nI T) (nI pp13) xi xt xn (nI ns) (nI (vv + 1)) (nI bb))), (mr 5, .inl (kI, 3002, .inl fk)), (mr 6, .inl (kI, 3002, .inl fa))] : va_W) ++ (sT L13 F13)) := hD
            replace hK : va_K (dC, dI) vwCl [(kI, .int), (kL, .long), (kE, .object RX15), (kS, .object RX19), (kB, .object RX14), (kA, .object RX13), (kV, .object RX21), (kI, .int)] s := hK
            replace hK := hK.sub (tys' := [(kI, .int), (kL, .long), (kE, .object RX15), (kS, .object RX19), (kB, .object RX14), (kA, .object RX13), (kV, .object RX21)]) [0, 1, 2, 3, 4, 5, 6] rfl
            clear hz1 hk1 hPc hDc hKc hFc hP1 hD1 hK1
            refine W.grow (fun hgs0 hgs1 => ?_)
            have hP9 := hP.subT (f' := [(ss, .inr (19, [.int 0, .int (nI pp), .int (nI (pp + 1)), .int 0, .int 0, (.ref r_14), .null, .null, .null, .null, .null, .null, .null, .int 0])), (m9, .inr (23, mA mr mv vf xl (nI zs) ff13 xa13 (nI T) (nI pp13) xi xt xn (nI ns) (nI (vv + 1)) (nI bb))), (mr 5, .inl (kI, 3002, .inl fk)), (mr 6, .inl (kI, 3002, .inl fa)), (mr 8, .inl (kL, 3002, .inr (.inl fn)))]) [0, 2, 3, 4, 1] rfl
            have hD9 := hD.subT (f' := [(ss, .inr (19, [.int 0, .int (nI pp), .int (nI (pp + 1)), .int 0, .int 0, (.ref r_14), .null, .null, .null, .null, .null, .null, .null, .int 0])), (m9, .inr (23, mA mr mv vf xl (nI zs) ff13 xa13 (nI T) (nI pp13) xi xt xn (nI ns) (nI (vv + 1)) (nI bb))), (mr 5, .inl (kI, 3002, .inl fk)), (mr 6, .inl (kI, 3002, .inl fa)), (mr 8, .inl (kL, 3002, .inr (.inl fn)))]) [0, 2, 3, 4, 1] (by decide) rfl
            have hK9 := hK.sub (tys' := [(kI, .int), (kL, .long), (kE, .object RX15), (kS, .object RX19), (kB, .object RX14), (kA, .object RX13), (kV, .object RX21)]) [0, 1, 2, 3, 4, 5, 6] rfl
            refine W.widen (k := (8 * (T - pp) + 14)) (n := (120 * (T - pp) + 480)) (by omega) (by omega) ?_
            exact W.vret hx hb hr (fun tS ht hW => ⟨⟨(), rfl, trivial, L13, F13, ff13, xa13, pp13, bb, vv + 1, 1, nI (pp + 1), 0, .ref r_14, .null, hf14_0.1, ⟨by omega, by omega, by omega, by omega, by omega, by omega⟩, ⟨by omega, fun q9 => absurd q9 hz_15⟩, (fun q9 => absurd q9 hz_15), by rw [ht]; exact ⟨by omega, by omega⟩, by rw [ht]; exact hP9, va_K.moved hW.alike hK9, hD9⟩, hS.F ht⟩) hS.2.2 dX23_let_77
        · replace hPc := hP.subF (f' := [(m9, .inr (23, mA mr mv vf xl (nI zs) 0 xa (nI T) (nI (pp + 1 + 1)) xi xt xn (nI ns) (nI (vv + 1)) (nI bb))), (mr 5, .inl (kI, 3002, .inl fk))]) [2, 3] rfl
          replace hDc := hD.subF (f' := [(m9, .inr (23, mA mr mv vf xl (nI zs) 0 xa (nI T) (nI (pp + 1 + 1)) xi xt xn (nI ns) (nI (vv + 1)) (nI bb))), (mr 5, .inl (kI, 3002, .inl fk))]) [2, 3] (by decide) rfl
          replace hKc := hK.sub (tys' := [(kI, .int)]) [0] rfl
          replace hFc := va_freeT (wc := [(m9, .inr (23, mA mr mv vf xl (nI zs) 0 xa (nI T) (nI (pp + 1 + 1)) xi xt xn (nI ns) (nI (vv + 1)) (nI bb))), (mr 5, .inl (kI, 3002, .inl fk))]) hD hS hA [2, 3] rfl
          refine va_calli (va_runV (As := [.int 58]) (rest := []) ⟨hx, hb, hml, hown, hts⟩ (c_rtsN l dC dI m9 mr mv vf xl xa xi xt xn zs T (pp + 1 + 1) ns (vv + 1) bb kI fk fa 58 H.size hT hp_9 hk0 (by decide) hk_10) (cwV 1 hts g_c_vlt_c_rtsN_40 rfl rfl rfl (by decide +kernel) ⟨by show 1 + 1 ≤ 14 + 14 * k; omega, by show 8 + (2 + 11) + (21) ≤ 322 + 323 * k; omega⟩) ⟨fun a U g mk q => by obtain ⟨q0, q1, qP, qK, qD⟩ := q; exact ⟨q0, q1, qP, va_K.moved (u := U) (U := U.calling g mk a) (Vm.Alike.refl U.vm) qK, qD⟩, va_recv hKc hPc (ci := 23) (q0 := 0) rfl rfl, fun U hU hW => ⟨rfl, by rw [hU], by rw [hU]; exact hPc, va_K.moved hW.alike hKc, hDc.weaken (fun _ _ _ _ => trivial)⟩⟩ rfl rfl hl.1 rfl (lv_room (Nat.le_of_ble_eq_true rfl)) dX23_let_40 ⟨(show 0 + 0 ≤ (8 * (T - pp) + 14) by omega), (show 0 + 0 ≤ (120 * (T - pp) + 480) by omega)⟩) hS (fun q _ h => hFc q h) hFc (fun r_11 u tS H1 locs ht hvm hw hB hz1 hk1 hS => ?_)
          obtain ⟨hP1, hK1, hD1⟩ := hB
          rw [ht] at hP1
          replace hK1 := va_K.moved hvm.symm hK1
          obtain ⟨hPj, hDj⟩ := va_joinT (wr := [(ss, .inr (19, [.int 0, .int (nI pp), .int (nI (pp + 1)), .int 0, .int 0, .null, .null, .null, .null, .null, .null, .null, .null, .int 0])), (mr 8, .inl (kL, 3002, .inr (.inl fn))), (mr 6, .inl (kI, 3002, .inl fa))]) (w1 := [(m9, .inr (23, mA mr mv vf xl (nI zs) 0 xa (nI T) (nI (pp + 1 + 1)) xi xt xn (nI ns) (nI (vv + 1)) (nI bb))), (mr 5, .inl (kI, 3002, .inl fk))]) hP hD [2, 3] [0, 1, 4] rfl rfl (by decide) (by decide) hk1 hFc hP1 hD1
          replace hP := hPj
          replace hD := hDj
          clear hPj hDj
          replace hK := hK.app hK1
          generalize H1 = H at hP hS ⊢
          replace hP : va_P (dC, dI) vwCl (([(ss, .inr (19, [.int 0, .int (nI pp), .int (nI (pp + 1)), .int 0, .int 0, .null, .null, .null, .null, .null, .null, .null, .null, .int 0])), (mr 8, .inl (kL, 3002, .inr (.inl fn))), (mr 6, .inl (kI, 3002, .inl fa)), (m9, .inr (23, mA mr mv vf xl (nI zs) 0 xa (nI T) (nI (pp + 1 + 1)) xi xt xn (nI ns) (nI (vv + 1)) (nI bb))), (mr 5, .inl (kI, 3002, .inl fk))] : va_W) ++ (sT L F)) H := hP
          replace hD : va_D A (([(ss, .inr (19, [.int 0, .int (nI pp), .int (nI (pp + 1)), .int 0, .int 0, .null, .null, .null, .null, .null, .null, .null, .null, .int 0])), (mr 8, .inl (kL, 3002, .inr (.inl fn))), (mr 6, .inl (kI, 3002, .inl fa)), (m9, .inr (23, mA mr mv vf xl (nI zs) 0 xa (nI T) (nI (pp + 1 + 1)) xi xt xn (nI ns) (nI (vv + 1)) (nI bb))), (mr 5, .inl (kI, 3002, .inl fk))] : va_W) ++ (sT L F)) := hD
          replace hK : va_K (dC, dI) vwCl [(kI, .int), (kL, .long), (kE, .object RX15), (kS, .object RX19), (kB, .object RX14), (kA, .object RX13), (kV, .object RX21), (kI, .int)] s := hK
          replace hK := hK.sub (tys' := [(kI, .int), (kL, .long), (kE, .object RX15), (kS, .object RX19), (kB, .object RX14), (kA, .object RX13), (kV, .object RX21)]) [0, 1, 2, 3, 4, 5, 6] rfl
          clear hz1 hk1 hPc hDc hKc hFc hP1 hD1 hK1
          obtain rfl : r_11 = 0 := hw
          refine lv_if_eq (tgt := 54) hx hb dX23_let_43 (by decide) (fun _ => ?_) (fun c_12 => absurd (by decide) c_12)
          refine lv_aload_n hx hb dX23_let_54 rfl (lv_at hl 0 rfl) ?_
          refine lv_bipush (v := 54) hx hb dX23_let_55 (by decide) ?_
          by_cases hk_13 : fk (pp + 1 + 1) = 54
          · replace hPc := hP.subF (f' := [(m9, .inr (23, mA mr mv vf xl (nI zs) 0 xa (nI T) (nI (pp + 1 + 1)) xi xt xn (nI ns) (nI (vv + 1)) (nI bb))), (mr 5, .inl (kI, 3002, .inl fk))]) [3, 4] rfl
            replace hDc := hD.subF (f' := [(m9, .inr (23, mA mr mv vf xl (nI zs) 0 xa (nI T) (nI (pp + 1 + 1)) xi xt xn (nI ns) (nI (vv + 1)) (nI bb))), (mr 5, .inl (kI, 3002, .inl fk))]) [3, 4] (by decide) rfl
            replace hKc := hK.sub (tys' := [(kI, .int)]) [0] rfl
            replace hFc := va_freeT (wc := [(m9, .inr (23, mA mr mv vf xl (nI zs) 0 xa (nI T) (nI (pp + 1 + 1)) xi xt xn (nI ns) (nI (vv + 1)) (nI bb))), (mr 5, .inl (kI, 3002, .inl fk))]) hD hS hA [3, 4] rfl
            refine va_calli (va_runV (As := [.int 54]) (rest := []) ⟨hx, hb, hml, hown, hts⟩ (c_rtsY l dC dI m9 mr mv vf xl xa xi xt xn zs T (pp + 1 + 1) ns (vv + 1) bb kI fk fa 54 H.size hT hp_9 hk0 (by decide) hk_13) (cwV 1 hts g_c_vlt_c_rtsY_57 rfl rfl rfl (by decide +kernel) ⟨by show 1 + 1 ≤ 14 + 14 * k; omega, by show 8 + (2 + 11) + (21) ≤ 322 + 323 * k; omega⟩) ⟨fun a U g mk q => by obtain ⟨q0, q1, qP, qK, qD⟩ := q; exact ⟨q0, q1, qP, va_K.moved (u := U) (U := U.calling g mk a) (Vm.Alike.refl U.vm) qK, qD⟩, va_recv hKc hPc (ci := 23) (q0 := 0) rfl rfl, fun U hU hW => ⟨rfl, by rw [hU], by rw [hU]; exact hPc, va_K.moved hW.alike hKc, hDc.weaken (fun _ _ _ _ => trivial)⟩⟩ rfl rfl hl.1 rfl (lv_room (Nat.le_of_ble_eq_true rfl)) dX23_let_57 ⟨(show 0 + 0 ≤ (8 * (T - pp) + 14) by omega), (show 0 + 0 ≤ (120 * (T - pp) + 480) by omega)⟩) hS (fun q _ h => hFc q h) hFc (fun r_14 u tS H1 locs ht hvm hw hB hz1 hk1 hS => ?_)
            obtain ⟨hP1, hK1, hD1⟩ := hB
            rw [ht] at hP1
            replace hK1 := va_K.moved hvm.symm hK1
            obtain ⟨hPj, hDj⟩ := va_joinT (wr := [(ss, .inr (19, [.int 0, .int (nI pp), .int (nI (pp + 1)), .int 0, .int 0, .null, .null, .null, .null, .null, .null, .null, .null, .int 0])), (mr 8, .inl (kL, 3002, .inr (.inl fn))), (mr 6, .inl (kI, 3002, .inl fa))]) (w1 := [(m9, .inr (23, mA mr mv vf xl (nI zs) 0 xa (nI T) (nI ((pp + 1 + 1) + 1)) xi xt xn (nI ns) (nI (vv + 1)) (nI bb))), (mr 5, .inl (kI, 3002, .inl fk))]) hP hD [3, 4] [0, 1, 2] rfl rfl (by decide) (by decide) hk1 hFc hP1 hD1
            replace hP := hPj
            replace hD := hDj
            clear hPj hDj
            replace hK := hK.app hK1
            generalize H1 = H at hP hS ⊢
            replace hP : va_P (dC, dI) vwCl (([(ss, .inr (19, [.int 0, .int (nI pp), .int (nI (pp + 1)), .int 0, .int 0, .null, .null, .null, .null, .null, .null, .null, .null, .int 0])), (mr 8, .inl (kL, 3002, .inr (.inl fn))), (mr 6, .inl (kI, 3002, .inl fa)), (m9, .inr (23, mA mr mv vf xl (nI zs) 0 xa (nI T) (nI ((pp + 1 + 1) + 1)) xi xt xn (nI ns) (nI (vv + 1)) (nI bb))), (mr 5, .inl (kI, 3002, .inl fk))] : va_W) ++ (sT L F)) H := hP
            replace hD : va_D A (([(ss, .inr (19, [.int 0, .int (nI pp), .int (nI (pp + 1)), .int 0, .int 0, .null, .null, .null, .null, .null, .null, .null, .null, .int 0])), (mr 8, .inl (kL, 3002, .inr (.inl fn))), (mr 6, .inl (kI, 3002, .inl fa)), (m9, .inr (23, mA mr mv vf xl (nI zs) 0 xa (nI T) (nI ((pp + 1 + 1) + 1)) xi xt xn (nI ns) (nI (vv + 1)) (nI bb))), (mr 5, .inl (kI, 3002, .inl fk))] : va_W) ++ (sT L F)) := hD
            replace hK : va_K (dC, dI) vwCl [(kI, .int), (kL, .long), (kE, .object RX15), (kS, .object RX19), (kB, .object RX14), (kA, .object RX13), (kV, .object RX21), (kI, .int)] s := hK
            replace hK := hK.sub (tys' := [(kI, .int), (kL, .long), (kE, .object RX15), (kS, .object RX19), (kB, .object RX14), (kA, .object RX13), (kV, .object RX21)]) [0, 1, 2, 3, 4, 5, 6] rfl
            clear hz1 hk1 hPc hDc hKc hFc hP1 hD1 hK1
            obtain rfl : r_14 = 1 := hw
            have hp_15 : pp + 1 + 1 + 1 < T := kne3 hk0 hp_9 hk_13 (by decide)
            refine lv_if_eq (tgt := 71) hx hb dX23_let_60 (by decide) (fun c_16 => absurd c_16 (by decide)) (fun _ => ?_)
            refine lv_aload_n hx hb dX23_let_63 rfl (lv_at hl 1 rfl) ?_
            refine lv_aload_n hx hb dX23_let_64 rfl (lv_at hl 0 rfl) ?_
            replace hPc := hP.subT (f' := [(m9, .inr (23, mA mr mv vf xl (nI zs) 0 xa (nI T) (nI (pp + 1 + 1 + 1)) xi xt xn (nI ns) (nI (vv + 1)) (nI bb))), (mr 5, .inl (kI, 3002, .inl fk)), (mr 6, .inl (kI, 3002, .inl fa)), (mr 8, .inl (kL, 3002, .inr (.inl fn)))]) [3, 4, 2, 1] rfl
            replace hDc := hD.subT (f' := [(m9, .inr (23, mA mr mv vf xl (nI zs) 0 xa (nI T) (nI (pp + 1 + 1 + 1)) xi xt xn (nI ns) (nI (vv + 1)) (nI bb))), (mr 5, .inl (kI, 3002, .inl fk)), (mr 6, .inl (kI, 3002, .inl fa)), (mr 8, .inl (kL, 3002, .inr (.inl fn)))]) [3, 4, 2, 1] (by decide) rfl
            replace hKc := hK.sub (tys' := [(kI, .int), (kL, .long), (kE, .object RX15)]) [0, 1, 2] rfl
            replace hFc := va_freeB (wc := [(m9, .inr (23, mA mr mv vf xl (nI zs) 0 xa (nI T) (nI (pp + 1 + 1 + 1)) xi xt xn (nI ns) (nI (vv + 1)) (nI bb))), (mr 5, .inl (kI, 3002, .inl fk)), (mr 6, .inl (kI, 3002, .inl fa)), (mr 8, .inl (kL, 3002, .inr (.inl fn)))]) hD hS hA [3, 4, 2, 1] rfl
            refine W.grow (fun hgs0 hgs1 => ?_)
            refine va_callr (va_runV (As := []) (rest := [.ref ss]) ⟨hx, hb, hml, hown, hts⟩ (c_xexA l dC dI k m9 mr mv vf xl xa xi xt xn zs T (pp + 1 + 1 + 1) ns (vv + 1) bb kI fk fa kL kE fn L F (slN H) H.size hT hp_15 hk0 hbb (by omega)) (cwV 0 hts g_c_vlt_c_xex_65 rfl rfl rfl (by decide +kernel) ⟨by show 13 + 12 * k + 1 ≤ 14 + 14 * k; omega, by show 8 + (1 + 11) + (302 + 279 * k) ≤ 322 + 323 * k; omega⟩) ⟨fun a U g mk q => by obtain ⟨q0, q1, qP, qK, qD, qx0, qx1⟩ := q; exact ⟨q0, q1, qP, va_K.moved (u := U) (U := U.calling g mk a) (Vm.Alike.refl U.vm) qK, qD, nsM.same (u := U) (U := U.calling g mk a) rfl qx0, qx1⟩, va_recv hKc hPc (ci := 23) (q0 := 0) rfl rfl, fun U hU hW => ⟨rfl, by rw [hU], by rw [hU]; exact hPc, va_K.moved hW.alike hKc, hDc.weaken (fun _ _ _ _ => trivial), nsM.warm hW hns, by rw [hU]⟩⟩ rfl rfl hl.1 rfl (lv_room (Nat.le_of_ble_eq_true rfl)) dX23_let_65 ⟨(show 0 + (8 * (T - (pp + 1 + 1 + 1)) + 8) ≤ (8 * (T - pp) + 14) by omega), (show 0 + (120 * (T - (pp + 1 + 1 + 1)) + 360) ≤ (120 * (T - pp) + 480) by omega)⟩) hS (fun q _ h => hFc q h) hFc (fun u r_17 tS H1 locs ht hvm hw hB hz1 hk1 hS => ?_)
            obtain ⟨L16, F16, ff16, xa16, pp16, bb16, hf17_0, hf17_1, hf17_2, hf17_3, hP1, hK1, hD1⟩ := hB
            rw [ht] at hP1
            replace hK1 := va_K.moved hvm.symm hK1
            rw [ht] at hf17_3
            have hgz : H1.size ≤ s.heap.size + (8 * (pp16 - (pp + 1 + 1 + 1)) + 3) ∧ slN H1 ≤ slN s.heap + (120 * (pp16 - (pp + 1 + 1 + 1)) + 48) := ⟨by have := hf17_3.1; omega, by have := hf17_3.2; omega⟩
            obtain ⟨hPj, hDj⟩ := va_joinB (wr := [(ss, .inr (19, [.int 0, .int (nI pp), .int (nI (pp + 1)), .int 0, .int 0, .null, .null, .null, .null, .null, .null, .null, .null, .int 0]))]) (w1 := [(m9, .inr (23, mA mr mv vf xl (nI zs) ff16 xa16 (nI T) (nI pp16) xi xt xn (nI ns) (nI (vv + 1)) (nI bb16))), (mr 5, .inl (kI, 3002, .inl fk)), (mr 6, .inl (kI, 3002, .inl fa)), (mr 8, .inl (kL, 3002, .inr (.inl fn)))]) hP hD [3, 4, 2, 1] [0] rfl rfl (by decide) (by decide) hk1 hFc hP1 hD1
            replace hP := hPj
            replace hD := hDj
            clear hPj hDj
            replace hK := hK.app hK1
            generalize H1 = H at hP hS hgz ⊢
            replace hP : va_P (dC, dI) vwCl (([(ss, .inr (19, [.int 0, .int (nI pp), .int (nI (pp + 1)), .int 0, .int 0, .null, .null, .null, .null, .null, .null, .null, .null, .int 0])), (m9, .inr (23, mA mr mv vf xl (nI zs) ff16 xa16 (nI T) (nI pp16) xi xt xn (nI ns) (nI (vv + 1)) (nI bb16))), (mr 5, .inl (kI, 3002, .inl fk)), (mr 6, .inl (kI, 3002, .inl fa)), (mr 8, .inl (kL, 3002, .inr (.inl fn)))] : va_W) ++ (sT L16 F16)) H := hP
            replace hD : va_D A (([(ss, .inr (19, [.int 0, .int (nI pp), .int (nI (pp + 1)), .int 0, .int 0, .null, .null, .null, .null, .null, .null, .null, .null, .int 0])), (m9, .inr (23, mA mr mv vf xl (nI zs) ff16 xa16 (nI T) (nI pp16) xi xt xn (nI ns) (nI (vv + 1)) (nI bb16))), (mr 5, .inl (kI, 3002, .inl fk)), (mr 6, .inl (kI, 3002, .inl fa)), (mr 8, .inl (kL, 3002, .inr (.inl fn)))] : va_W) ++ (sT L16 F16)) := hD
            replace hK : va_K (dC, dI) vwCl [(kI, .int), (kL, .long), (kE, .object RX15), (kS, .object RX19), (kB, .object RX14), (kA, .object RX13), (kV, .object RX21), (kI, .int), (kL, .long), (kE, .object RX15)] s := hK
            replace hK := hK.sub (tys' := [(kI, .int), (kL, .long), (kE, .object RX15), (kS, .object RX19), (kB, .object RX14), (kA, .object RX13), (kV, .object RX21)]) [0, 1, 2, 3, 4, 5, 6] rfl
            refine W.tight (k := 8 * (pp16 - (pp + 1 + 1 + 1)) + 3) (n := 120 * (pp16 - (pp + 1 + 1 + 1)) + 48) hgz.1 hgz.2 ?_
            clear hz1 hk1 hPc hDc hKc hFc hP1 hD1 hK1
            refine va_put (D := (dC, dI)) (ci := 19) (v := .ref r_17) (ty := (.object "OwnedPlacesModel$Exp")) (C := RX19) (T := TX19) (N := 14) hx hb hts in_c_vlt_X19 tyX19 tyX19_ok nmX19 hown hK hP hD hS 0 rfl rfl 6 (by decide) (hts (.fieldLink RX23 268 "OwnedPlacesModel$Statement" "exp" "LOwnedPlacesModel$Exp;") (wm_c_vlt 128 rfl)) (fun _ h9 => h9) rfl (by decide +kernel) rfl rfl (Nat.le_of_ble_eq_true rfl) dX23_let_68 (fun H locs hP hD hS => ?_)
            replace hP : va_P (dC, dI) vwCl (([(ss, .inr (19, [.int 0, .int (nI pp), .int (nI (pp + 1)), .int 0, .int 0, .null, .ref r_17, .null, .null, .null, .null, .null, .null, .int 0])), (m9, .inr (23, mA mr mv vf xl (nI zs) ff16 xa16 (nI T) (nI pp16) xi xt xn (nI ns) (nI (vv + 1)) (nI bb16))), (mr 5, .inl (kI, 3002, .inl fk)), (mr 6, .inl (kI, 3002, .inl fa)), (mr 8, .inl (kL, 3002, .inr (.inl fn)))] : va_W) ++ (sT L16 F16)) H := hP
            replace hD : va_D A (([(ss, .inr (19, [.int 0, .int (nI pp), .int (nI (pp + 1)), .int 0, .int 0, .null, .ref r_17, .null, .null, .null, .null, .null, .null, .int 0])), (m9, .inr (23, mA mr mv vf xl (nI zs) ff16 xa16 (nI T) (nI pp16) xi xt xn (nI ns) (nI (vv + 1)) (nI bb16))), (mr 5, .inl (kI, 3002, .inl fk)), (mr 6, .inl (kI, 3002, .inl fa)), (mr 8, .inl (kL, 3002, .inr (.inl fn)))] : va_W) ++ (sT L16 F16)) := hD
            refine lv_aload_n hx hb dX23_let_71 rfl (lv_at hl 0 rfl) ?_
            refine lv_bipush (v := 60) hx hb dX23_let_72 (by decide) ?_
            by_cases hz_18 : ff16 = 0
            · subst hz_18
              have hg16 := hf17_2 rfl
              have hlthg16 := (isE_mem hg16.2).2
              by_cases hk_19 : fk pp16 = 60
              · replace hPc := hP.subF (f' := [(m9, .inr (23, mA mr mv vf xl (nI zs) 0 xa16 (nI T) (nI pp16) xi xt xn (nI ns) (nI (vv + 1)) (nI bb16))), (mr 5, .inl (kI, 3002, .inl fk)), (mr 6, .inl (kI, 3002, .inl fa))]) [1, 2, 3] rfl
                replace hDc := hD.subF (f' := [(m9, .inr (23, mA mr mv vf xl (nI zs) 0 xa16 (nI T) (nI pp16) xi xt xn (nI ns) (nI (vv + 1)) (nI bb16))), (mr 5, .inl (kI, 3002, .inl fk)), (mr 6, .inl (kI, 3002, .inl fa))]) [1, 2, 3] (by decide) rfl
                replace hKc := hK.sub (tys' := [(kI, .int)]) [0] rfl
                replace hFc := va_freeT (wc := [(m9, .inr (23, mA mr mv vf xl (nI zs) 0 xa16 (nI T) (nI pp16) xi xt xn (nI ns) (nI (vv + 1)) (nI bb16))), (mr 5, .inl (kI, 3002, .inl fk)), (mr 6, .inl (kI, 3002, .inl fa))]) hD hS hA [1, 2, 3] rfl
                refine va_callv (va_runV (As := [.int 60]) (rest := []) ⟨hx, hb, hml, hown, hts⟩ (c_rtkY l dC dI m9 mr mv vf xl xa16 xi xt xn zs T pp16 ns (vv + 1) bb16 kI fk fa 60 H.size hT hf17_1.2.1 hk0 (by decide) hk_19) (cwV 1 hts g_c_vlt_c_rtkY_74 rfl rfl rfl (by decide +kernel) ⟨by show 1 + 1 ≤ 14 + 14 * k; omega, by show 8 + (2 + 11) + (21) ≤ 322 + 323 * k; omega⟩) ⟨fun a U g mk q => by obtain ⟨q0, q1, qP, qK, qD⟩ := q; exact ⟨q0, q1, qP, va_K.moved (u := U) (U := U.calling g mk a) (Vm.Alike.refl U.vm) qK, qD⟩, va_recv hKc hPc (ci := 23) (q0 := 0) rfl rfl, fun U hU hW => ⟨rfl, by rw [hU], by rw [hU]; exact hPc, va_K.moved hW.alike hKc, hDc.weaken (fun _ _ _ _ => trivial)⟩⟩ rfl rfl hl.1 rfl (lv_room (Nat.le_of_ble_eq_true rfl)) dX23_let_74 ⟨(show 8 * (pp16 - (pp + 1 + 1 + 1)) + 3 + 0 ≤ (8 * (T - pp) + 14) by omega), (show 120 * (pp16 - (pp + 1 + 1 + 1)) + 48 + 0 ≤ (120 * (T - pp) + 480) by omega)⟩) hS (fun q _ h => hFc q h) hFc (fun u tS H1 locs ht hvm hw hB hz1 hk1 hS => ?_)
                obtain ⟨hP1, hK1, hD1⟩ := hB
                rw [ht] at hP1
                replace hK1 := va_K.moved hvm.symm hK1
                obtain ⟨hPj, hDj⟩ := va_joinT (wr := [(ss, .inr (19, [.int 0, .int (nI pp), .int (nI (pp + 1)), .int 0, .int 0, .null, .ref r_17, .null, .null, .null, .null, .null, .null, .int 0])), (mr 8, .inl (kL, 3002, .inr (.inl fn)))]) (w1 := [(m9, .inr (23, mA mr mv vf xl (nI zs) 0 xa16 (nI T) (nI (pp16 + 1)) xi xt xn (nI ns) (nI (vv + 1)) (nI bb16))), (mr 5, .inl (kI, 3002, .inl fk)), (mr 6, .inl (kI, 3002, .inl fa))]) hP hD [1, 2, 3] [0, 4] rfl rfl (by decide) (by decide) hk1 hFc hP1 hD1
                replace hP := hPj
                replace hD := hDj
                clear hPj hDj
                replace hK := hK.app hK1
                generalize H1 = H at hP hS ⊢
                replace hP : va_P (dC, dI) vwCl (([(ss, .inr (19, [.int 0, .int (nI pp), .int (nI (pp + 1)), .int 0, .int 0, .null, .ref r_17, .null, .null, .null, .null, .null, .null, .int 0])), (mr 8, .inl (kL, 3002, .inr (.inl fn))), (m9, .inr (23, mA mr mv vf xl (nI zs) 0 xa16 (nI T) (nI (pp16 + 1)) xi xt xn (nI ns) (nI (vv + 1)) (nI bb16))), (mr 5, .inl (kI, 3002, .inl fk)), (mr 6, .inl (kI, 3002, .inl fa))] : va_W) ++ (sT L16 F16)) H := hP
                replace hD : va_D A (([(ss, .inr (19, [.int 0, .int (nI pp), .int (nI (pp + 1)), .int 0, .int 0, .null, .ref r_17, .null, .null, .null, .null, .null, .null, .int 0])), (mr 8, .inl (kL, 3002, .inr (.inl fn))), (m9, .inr (23, mA mr mv vf xl (nI zs) 0 xa16 (nI T) (nI (pp16 + 1)) xi xt xn (nI ns) (nI (vv + 1)) (nI bb16))), (mr 5, .inl (kI, 3002, .inl fk)), (mr 6, .inl (kI, 3002, .inl fa))] : va_W) ++ (sT L16 F16)) := hD
                replace hK : va_K (dC, dI) vwCl [(kI, .int), (kL, .long), (kE, .object RX15), (kS, .object RX19), (kB, .object RX14), (kA, .object RX13), (kV, .object RX21), (kI, .int)] s := hK
                replace hK := hK.sub (tys' := [(kI, .int), (kL, .long), (kE, .object RX15), (kS, .object RX19), (kB, .object RX14), (kA, .object RX13), (kV, .object RX21)]) [0, 1, 2, 3, 4, 5, 6] rfl
                clear hz1 hk1 hPc hDc hKc hFc hP1 hD1 hK1
                have hp_21 : pp16 + 1 < T := kne3 hk0 hf17_1.2.1 hk_19 (by decide)
                refine W.grow (fun hgs0 hgs1 => ?_)
                have hP9 := hP.subT (f' := [(ss, .inr (19, [.int 0, .int (nI pp), .int (nI (pp + 1)), .int 0, .int 0, .null, (.ref r_17), .null, .null, .null, .null, .null, .null, .int 0])), (m9, .inr (23, mA mr mv vf xl (nI zs) 0 xa16 (nI T) (nI (pp16 + 1)) xi xt xn (nI ns) (nI (vv + 1)) (nI bb16))), (mr 5, .inl (kI, 3002, .inl fk)), (mr 6, .inl (kI, 3002, .inl fa)), (mr 8, .inl (kL, 3002, .inr (.inl fn)))]) [0, 2, 3, 4, 1] rfl
                have hD9 := hD.subT (f' := [(ss, .inr (19, [.int 0, .int (nI pp), .int (nI (pp + 1)), .int 0, .int 0, .null, (.ref r_17), .null, .null, .null, .null, .null, .null, .int 0])), (m9, .inr (23, mA mr mv vf xl (nI zs) 0 xa16 (nI T) (nI (pp16 + 1)) xi xt xn (nI ns) (nI (vv + 1)) (nI bb16))), (mr 5, .inl (kI, 3002, .inl fk)), (mr 6, .inl (kI, 3002, .inl fa)), (mr 8, .inl (kL, 3002, .inr (.inl fn)))]) [0, 2, 3, 4, 1] (by decide) rfl
                have hK9 := hK.sub (tys' := [(kI, .int), (kL, .long), (kE, .object RX15), (kS, .object RX19), (kB, .object RX14), (kA, .object RX13), (kV, .object RX21)]) [0, 1, 2, 3, 4, 5, 6] rfl
                refine W.widen (k := (8 * (T - pp) + 14)) (n := (120 * (T - pp) + 480)) (by omega) (by omega) ?_
                exact W.vret hx hb hr (fun tS ht hW => ⟨⟨(), rfl, trivial, L16, F16, 0, xa16, pp16 + 1, bb16, vv + 1, 0, nI (pp + 1), 0, .null, .ref r_17, hf17_0.1, ⟨by omega, by omega, by omega, by omega, by omega, by omega⟩, ⟨by omega, fun _ => rfl⟩, (fun _ => ⟨hg16.1, by omega, by omega, fun aZ LZ FZ hxZ haZ hFZ => ⟨haZ, by omega, Or.inl ⟨pp + 1, _, _, _, hFZ, by omega, by omega, Or.inl rfl, rfl, Or.inl rfl, Or.inr ⟨r_17, pp + 1 + 1 + 1, pp16, rfl, by omega, by omega, isE_im hxZ 408 (by omega) hg16.2⟩⟩⟩⟩), by rw [ht]; exact ⟨by omega, by omega⟩, by rw [ht]; exact hP9, va_K.moved hW.alike hK9, hD9⟩, hS.F ht⟩) hS.2.2 dX23_let_77
              · replace hPc := hP.subF (f' := [(m9, .inr (23, mA mr mv vf xl (nI zs) 0 xa16 (nI T) (nI pp16) xi xt xn (nI ns) (nI (vv + 1)) (nI bb16))), (mr 5, .inl (kI, 3002, .inl fk)), (mr 6, .inl (kI, 3002, .inl fa))]) [1, 2, 3] rfl
                replace hDc := hD.subF (f' := [(m9, .inr (23, mA mr mv vf xl (nI zs) 0 xa16 (nI T) (nI pp16) xi xt xn (nI ns) (nI (vv + 1)) (nI bb16))), (mr 5, .inl (kI, 3002, .inl fk)), (mr 6, .inl (kI, 3002, .inl fa))]) [1, 2, 3] (by decide) rfl
                replace hKc := hK.sub (tys' := [(kI, .int)]) [0] rfl
                replace hFc := va_freeT (wc := [(m9, .inr (23, mA mr mv vf xl (nI zs) 0 xa16 (nI T) (nI pp16) xi xt xn (nI ns) (nI (vv + 1)) (nI bb16))), (mr 5, .inl (kI, 3002, .inl fk)), (mr 6, .inl (kI, 3002, .inl fa))]) hD hS hA [1, 2, 3] rfl
                refine va_callv (va_runV (As := [.int 60]) (rest := []) ⟨hx, hb, hml, hown, hts⟩ (c_rtkN l dC dI m9 mr mv vf xl xa16 xi xt xn zs T pp16 ns (vv + 1) bb16 kI fk fa 60 H.size hT hf17_1.2.1 hk0 (by decide) hk_19) (cwV 1 hts g_c_vlt_c_rtkN_74 rfl rfl rfl (by decide +kernel) ⟨by show 1 + 1 ≤ 14 + 14 * k; omega, by show 8 + (2 + 11) + (22) ≤ 322 + 323 * k; omega⟩) ⟨fun a U g mk q => by obtain ⟨q0, q1, qP, qK, qD⟩ := q; exact ⟨q0, q1, qP, va_K.moved (u := U) (U := U.calling g mk a) (Vm.Alike.refl U.vm) qK, qD⟩, va_recv hKc hPc (ci := 23) (q0 := 0) rfl rfl, fun U hU hW => ⟨rfl, by rw [hU], by rw [hU]; exact hPc, va_K.moved hW.alike hKc, hDc.weaken (fun _ _ _ _ => trivial)⟩⟩ rfl rfl hl.1 rfl (lv_room (Nat.le_of_ble_eq_true rfl)) dX23_let_74 ⟨(show 8 * (pp16 - (pp + 1 + 1 + 1)) + 3 + 0 ≤ (8 * (T - pp) + 14) by omega), (show 120 * (pp16 - (pp + 1 + 1 + 1)) + 48 + 0 ≤ (120 * (T - pp) + 480) by omega)⟩) hS (fun q _ h => hFc q h) hFc (fun u tS H1 locs ht hvm hw hB hz1 hk1 hS => ?_)
                obtain ⟨ff_20, xa_21, hf22_0, hP1, hK1, hD1⟩ := hB
                rw [ht] at hP1
                replace hK1 := va_K.moved hvm.symm hK1
                obtain ⟨hPj, hDj⟩ := va_joinT (wr := [(ss, .inr (19, [.int 0, .int (nI pp), .int (nI (pp + 1)), .int 0, .int 0, .null, .ref r_17, .null, .null, .null, .null, .null, .null, .int 0])), (mr 8, .inl (kL, 3002, .inr (.inl fn)))]) (w1 := [(m9, .inr (23, mA mr mv vf xl (nI zs) ff_20 xa_21 (nI T) (nI pp16) xi xt xn (nI ns) (nI (vv + 1)) (nI bb16))), (mr 5, .inl (kI, 3002, .inl fk)), (mr 6, .inl (kI, 3002, .inl fa))]) hP hD [1, 2, 3] [0, 4] rfl rfl (by decide) (by decide) hk1 hFc hP1 hD1
                replace hP := hPj
                replace hD := hDj
                clear hPj hDj
                replace hK := hK.app hK1
                generalize H1 = H at hP hS ⊢
                replace hP : va_P (dC, dI) vwCl (([(ss, .inr (19, [.int 0, .int (nI pp), .int (nI (pp + 1)), .int 0, .int 0, .null, .ref r_17, .null, .null, .null, .null, .null, .null, .int 0])), (mr 8, .inl (kL, 3002, .inr (.inl fn))), (m9, .inr (23, mA mr mv vf xl (nI zs) ff_20 xa_21 (nI T) (nI pp16) xi xt xn (nI ns) (nI (vv + 1)) (nI bb16))), (mr 5, .inl (kI, 3002, .inl fk)), (mr 6, .inl (kI, 3002, .inl fa))] : va_W) ++ (sT L16 F16)) H := hP
                replace hD : va_D A (([(ss, .inr (19, [.int 0, .int (nI pp), .int (nI (pp + 1)), .int 0, .int 0, .null, .ref r_17, .null, .null, .null, .null, .null, .null, .int 0])), (mr 8, .inl (kL, 3002, .inr (.inl fn))), (m9, .inr (23, mA mr mv vf xl (nI zs) ff_20 xa_21 (nI T) (nI pp16) xi xt xn (nI ns) (nI (vv + 1)) (nI bb16))), (mr 5, .inl (kI, 3002, .inl fk)), (mr 6, .inl (kI, 3002, .inl fa))] : va_W) ++ (sT L16 F16)) := hD
                replace hK : va_K (dC, dI) vwCl [(kI, .int), (kL, .long), (kE, .object RX15), (kS, .object RX19), (kB, .object RX14), (kA, .object RX13), (kV, .object RX21), (kI, .int)] s := hK
                replace hK := hK.sub (tys' := [(kI, .int), (kL, .long), (kE, .object RX15), (kS, .object RX19), (kB, .object RX14), (kA, .object RX13), (kV, .object RX21)]) [0, 1, 2, 3, 4, 5, 6] rfl
                clear hz1 hk1 hPc hDc hKc hFc hP1 hD1 hK1
                refine W.grow (fun hgs0 hgs1 => ?_)
                have hP9 := hP.subT (f' := [(ss, .inr (19, [.int 0, .int (nI pp), .int (nI (pp + 1)), .int 0, .int 0, .null, (.ref r_17), .null, .null, .null, .null, .null, .null, .int 0])), (m9, .inr (23, mA mr mv vf xl (nI zs) ff_20 xa_21 (nI T) (nI pp16) xi xt xn (nI ns) (nI (vv + 1)) (nI bb16))), (mr 5, .inl (kI, 3002, .inl fk)), (mr 6, .inl (kI, 3002, .inl fa)), (mr 8, .inl (kL, 3002, .inr (.inl fn)))]) [0, 2, 3, 4, 1] rfl
                have hD9 := hD.subT (f' := [(ss, .inr (19, [.int 0, .int (nI pp), .int (nI (pp + 1)), .int 0, .int 0, .null, (.ref r_17), .null, .null, .null, .null, .null, .null, .int 0])), (m9, .inr (23, mA mr mv vf xl (nI zs) ff_20 xa_21 (nI T) (nI pp16) xi xt xn (nI ns) (nI (vv + 1)) (nI bb16))), (mr 5, .inl (kI, 3002, .inl fk)), (mr 6, .inl (kI, 3002, .inl fa)), (mr 8, .inl (kL, 3002, .inr (.inl fn)))]) [0, 2, 3, 4, 1] (by decide) rfl
                have hK9 := hK.sub (tys' := [(kI, .int), (kL, .long), (kE, .object RX15), (kS, .object RX19), (kB, .object RX14), (kA, .object RX13), (kV, .object RX21)]) [0, 1, 2, 3, 4, 5, 6] rfl
                refine W.widen (k := (8 * (T - pp) + 14)) (n := (120 * (T - pp) + 480)) (by omega) (by omega) ?_
                exact W.vret hx hb hr (fun tS ht hW => ⟨⟨(), rfl, trivial, L16, F16, ff_20, xa_21, pp16, bb16, vv + 1, 1, nI (pp + 1), 0, .null, .ref r_17, hf17_0.1, ⟨by omega, by omega, by omega, by omega, by omega, by omega⟩, ⟨by omega, fun q9 => absurd q9 hf22_0⟩, (fun q9 => absurd q9 hf22_0), by rw [ht]; exact ⟨by omega, by omega⟩, by rw [ht]; exact hP9, va_K.moved hW.alike hK9, hD9⟩, hS.F ht⟩) hS.2.2 dX23_let_77
            · replace hPc := hP.subF (f' := [(m9, .inr (23, mA mr mv vf xl (nI zs) ff16 xa16 (nI T) (nI pp16) xi xt xn (nI ns) (nI (vv + 1)) (nI bb16))), (mr 5, .inl (kI, 3002, .inl fk)), (mr 6, .inl (kI, 3002, .inl fa))]) [1, 2, 3] rfl
              replace hDc := hD.subF (f' := [(m9, .inr (23, mA mr mv vf xl (nI zs) ff16 xa16 (nI T) (nI pp16) xi xt xn (nI ns) (nI (vv + 1)) (nI bb16))), (mr 5, .inl (kI, 3002, .inl fk)), (mr 6, .inl (kI, 3002, .inl fa))]) [1, 2, 3] (by decide) rfl
              replace hKc := hK.sub (tys' := [(kI, .int)]) [0] rfl
              replace hFc := va_freeT (wc := [(m9, .inr (23, mA mr mv vf xl (nI zs) ff16 xa16 (nI T) (nI pp16) xi xt xn (nI ns) (nI (vv + 1)) (nI bb16))), (mr 5, .inl (kI, 3002, .inl fk)), (mr 6, .inl (kI, 3002, .inl fa))]) hD hS hA [1, 2, 3] rfl
              refine va_callv (va_runV (As := [.int 60]) (rest := []) ⟨hx, hb, hml, hown, hts⟩ (c_rtkB l dC dI m9 mr mv vf xl xa16 xi xt xn zs T pp16 ns (vv + 1) bb16 kI fk fa ff16 60 H.size hz_18) (cwV 1 hts g_c_vlt_c_rtkB_74 rfl rfl rfl (by decide +kernel) ⟨by show 1 + 1 ≤ 14 + 14 * k; omega, by show 8 + (2 + 11) + (20) ≤ 322 + 323 * k; omega⟩) ⟨fun a U g mk q => by obtain ⟨q0, q1, qP, qK, qD⟩ := q; exact ⟨q0, q1, qP, va_K.moved (u := U) (U := U.calling g mk a) (Vm.Alike.refl U.vm) qK, qD⟩, va_recv hKc hPc (ci := 23) (q0 := 0) rfl rfl, fun U hU hW => ⟨rfl, by rw [hU], by rw [hU]; exact hPc, va_K.moved hW.alike hKc, hDc.weaken (fun _ _ _ _ => trivial)⟩⟩ rfl rfl hl.1 rfl (lv_room (Nat.le_of_ble_eq_true rfl)) dX23_let_74 ⟨(show 8 * (pp16 - (pp + 1 + 1 + 1)) + 3 + 0 ≤ (8 * (T - pp) + 14) by omega), (show 120 * (pp16 - (pp + 1 + 1 + 1)) + 48 + 0 ≤ (120 * (T - pp) + 480) by omega)⟩) hS (fun q _ h => hFc q h) hFc (fun u tS H1 locs ht hvm hw hB hz1 hk1 hS => ?_)
              obtain ⟨hP1, hK1, hD1⟩ := hB
              rw [ht] at hP1
              replace hK1 := va_K.moved hvm.symm hK1
              obtain ⟨hPj, hDj⟩ := va_joinT (wr := [(ss, .inr (19, [.int 0, .int (nI pp), .int (nI (pp + 1)), .int 0, .int 0, .null, .ref r_17, .null, .null, .null, .null, .null, .null, .int 0])), (mr 8, .inl (kL, 3002, .inr (.inl fn)))]) (w1 := [(m9, .inr (23, mA mr mv vf xl (nI zs) ff16 xa16 (nI T) (nI pp16) xi xt xn (nI ns) (nI (vv + 1)) (nI bb16))), (mr 5, .inl (kI, 3002, .inl fk)), (mr 6, .inl (kI, 3002, .inl fa))]) hP hD [1, 2, 3] [0, 4] rfl rfl (by decide) (by decide) hk1 hFc hP1 hD1
              replace hP := hPj
              replace hD := hDj
              clear hPj hDj
              replace hK := hK.app hK1
              generalize H1 = H at hP hS ⊢
              replace hP : va_P (dC, dI) vwCl (([(ss, .inr (19, [.int 0, .int (nI pp), .int (nI (pp + 1)), .int 0, .int 0, .null, .ref r_17, .null, .null, .null, .null, .null, .null, .int 0])), (mr 8, .inl (kL, 3002, .inr (.inl fn))), (m9, .inr (23, mA mr mv vf xl (nI zs) ff16 xa16 (nI T) (nI pp16) xi xt xn (nI ns) (nI (vv + 1)) (nI bb16))), (mr 5, .inl (kI, 3002, .inl fk)), (mr 6, .inl (kI, 3002, .inl fa))] : va_W) ++ (sT L16 F16)) H := hP
              replace hD : va_D A (([(ss, .inr (19, [.int 0, .int (nI pp), .int (nI (pp + 1)), .int 0, .int 0, .null, .ref r_17, .null, .null, .null, .null, .null, .null, .int 0])), (mr 8, .inl (kL, 3002, .inr (.inl fn))), (m9, .inr (23, mA mr mv vf xl (nI zs) ff16 xa16 (nI T) (nI pp16) xi xt xn (nI ns) (nI (vv + 1)) (nI bb16))), (mr 5, .inl (kI, 3002, .inl fk)), (mr 6, .inl (kI, 3002, .inl fa))] : va_W) ++ (sT L16 F16)) := hD
              replace hK : va_K (dC, dI) vwCl [(kI, .int), (kL, .long), (kE, .object RX15), (kS, .object RX19), (kB, .object RX14), (kA, .object RX13), (kV, .object RX21), (kI, .int)] s := hK
              replace hK := hK.sub (tys' := [(kI, .int), (kL, .long), (kE, .object RX15), (kS, .object RX19), (kB, .object RX14), (kA, .object RX13), (kV, .object RX21)]) [0, 1, 2, 3, 4, 5, 6] rfl
              clear hz1 hk1 hPc hDc hKc hFc hP1 hD1 hK1
              refine W.grow (fun hgs0 hgs1 => ?_)
              have hP9 := hP.subT (f' := [(ss, .inr (19, [.int 0, .int (nI pp), .int (nI (pp + 1)), .int 0, .int 0, .null, (.ref r_17), .null, .null, .null, .null, .null, .null, .int 0])), (m9, .inr (23, mA mr mv vf xl (nI zs) ff16 xa16 (nI T) (nI pp16) xi xt xn (nI ns) (nI (vv + 1)) (nI bb16))), (mr 5, .inl (kI, 3002, .inl fk)), (mr 6, .inl (kI, 3002, .inl fa)), (mr 8, .inl (kL, 3002, .inr (.inl fn)))]) [0, 2, 3, 4, 1] rfl
              have hD9 := hD.subT (f' := [(ss, .inr (19, [.int 0, .int (nI pp), .int (nI (pp + 1)), .int 0, .int 0, .null, (.ref r_17), .null, .null, .null, .null, .null, .null, .int 0])), (m9, .inr (23, mA mr mv vf xl (nI zs) ff16 xa16 (nI T) (nI pp16) xi xt xn (nI ns) (nI (vv + 1)) (nI bb16))), (mr 5, .inl (kI, 3002, .inl fk)), (mr 6, .inl (kI, 3002, .inl fa)), (mr 8, .inl (kL, 3002, .inr (.inl fn)))]) [0, 2, 3, 4, 1] (by decide) rfl
              have hK9 := hK.sub (tys' := [(kI, .int), (kL, .long), (kE, .object RX15), (kS, .object RX19), (kB, .object RX14), (kA, .object RX13), (kV, .object RX21)]) [0, 1, 2, 3, 4, 5, 6] rfl
              refine W.widen (k := (8 * (T - pp) + 14)) (n := (120 * (T - pp) + 480)) (by omega) (by omega) ?_
              exact W.vret hx hb hr (fun tS ht hW => ⟨⟨(), rfl, trivial, L16, F16, ff16, xa16, pp16, bb16, vv + 1, 1, nI (pp + 1), 0, .null, .ref r_17, hf17_0.1, ⟨by omega, by omega, by omega, by omega, by omega, by omega⟩, ⟨by omega, fun q9 => absurd q9 hz_18⟩, (fun q9 => absurd q9 hz_18), by rw [ht]; exact ⟨by omega, by omega⟩, by rw [ht]; exact hP9, va_K.moved hW.alike hK9, hD9⟩, hS.F ht⟩) hS.2.2 dX23_let_77
          · replace hPc := hP.subF (f' := [(m9, .inr (23, mA mr mv vf xl (nI zs) 0 xa (nI T) (nI (pp + 1 + 1)) xi xt xn (nI ns) (nI (vv + 1)) (nI bb))), (mr 5, .inl (kI, 3002, .inl fk))]) [3, 4] rfl
            replace hDc := hD.subF (f' := [(m9, .inr (23, mA mr mv vf xl (nI zs) 0 xa (nI T) (nI (pp + 1 + 1)) xi xt xn (nI ns) (nI (vv + 1)) (nI bb))), (mr 5, .inl (kI, 3002, .inl fk))]) [3, 4] (by decide) rfl
            replace hKc := hK.sub (tys' := [(kI, .int)]) [0] rfl
            replace hFc := va_freeT (wc := [(m9, .inr (23, mA mr mv vf xl (nI zs) 0 xa (nI T) (nI (pp + 1 + 1)) xi xt xn (nI ns) (nI (vv + 1)) (nI bb))), (mr 5, .inl (kI, 3002, .inl fk))]) hD hS hA [3, 4] rfl
            refine va_calli (va_runV (As := [.int 54]) (rest := []) ⟨hx, hb, hml, hown, hts⟩ (c_rtsN l dC dI m9 mr mv vf xl xa xi xt xn zs T (pp + 1 + 1) ns (vv + 1) bb kI fk fa 54 H.size hT hp_9 hk0 (by decide) hk_13) (cwV 1 hts g_c_vlt_c_rtsN_57 rfl rfl rfl (by decide +kernel) ⟨by show 1 + 1 ≤ 14 + 14 * k; omega, by show 8 + (2 + 11) + (21) ≤ 322 + 323 * k; omega⟩) ⟨fun a U g mk q => by obtain ⟨q0, q1, qP, qK, qD⟩ := q; exact ⟨q0, q1, qP, va_K.moved (u := U) (U := U.calling g mk a) (Vm.Alike.refl U.vm) qK, qD⟩, va_recv hKc hPc (ci := 23) (q0 := 0) rfl rfl, fun U hU hW => ⟨rfl, by rw [hU], by rw [hU]; exact hPc, va_K.moved hW.alike hKc, hDc.weaken (fun _ _ _ _ => trivial)⟩⟩ rfl rfl hl.1 rfl (lv_room (Nat.le_of_ble_eq_true rfl)) dX23_let_57 ⟨(show 0 + 0 ≤ (8 * (T - pp) + 14) by omega), (show 0 + 0 ≤ (120 * (T - pp) + 480) by omega)⟩) hS (fun q _ h => hFc q h) hFc (fun r_14 u tS H1 locs ht hvm hw hB hz1 hk1 hS => ?_)
            obtain ⟨hP1, hK1, hD1⟩ := hB
            rw [ht] at hP1
            replace hK1 := va_K.moved hvm.symm hK1
            obtain ⟨hPj, hDj⟩ := va_joinT (wr := [(ss, .inr (19, [.int 0, .int (nI pp), .int (nI (pp + 1)), .int 0, .int 0, .null, .null, .null, .null, .null, .null, .null, .null, .int 0])), (mr 8, .inl (kL, 3002, .inr (.inl fn))), (mr 6, .inl (kI, 3002, .inl fa))]) (w1 := [(m9, .inr (23, mA mr mv vf xl (nI zs) 0 xa (nI T) (nI (pp + 1 + 1)) xi xt xn (nI ns) (nI (vv + 1)) (nI bb))), (mr 5, .inl (kI, 3002, .inl fk))]) hP hD [3, 4] [0, 1, 2] rfl rfl (by decide) (by decide) hk1 hFc hP1 hD1
            replace hP := hPj
            replace hD := hDj
            clear hPj hDj
            replace hK := hK.app hK1
            generalize H1 = H at hP hS ⊢
            replace hP : va_P (dC, dI) vwCl (([(ss, .inr (19, [.int 0, .int (nI pp), .int (nI (pp + 1)), .int 0, .int 0, .null, .null, .null, .null, .null, .null, .null, .null, .int 0])), (mr 8, .inl (kL, 3002, .inr (.inl fn))), (mr 6, .inl (kI, 3002, .inl fa)), (m9, .inr (23, mA mr mv vf xl (nI zs) 0 xa (nI T) (nI (pp + 1 + 1)) xi xt xn (nI ns) (nI (vv + 1)) (nI bb))), (mr 5, .inl (kI, 3002, .inl fk))] : va_W) ++ (sT L F)) H := hP
            replace hD : va_D A (([(ss, .inr (19, [.int 0, .int (nI pp), .int (nI (pp + 1)), .int 0, .int 0, .null, .null, .null, .null, .null, .null, .null, .null, .int 0])), (mr 8, .inl (kL, 3002, .inr (.inl fn))), (mr 6, .inl (kI, 3002, .inl fa)), (m9, .inr (23, mA mr mv vf xl (nI zs) 0 xa (nI T) (nI (pp + 1 + 1)) xi xt xn (nI ns) (nI (vv + 1)) (nI bb))), (mr 5, .inl (kI, 3002, .inl fk))] : va_W) ++ (sT L F)) := hD
            replace hK : va_K (dC, dI) vwCl [(kI, .int), (kL, .long), (kE, .object RX15), (kS, .object RX19), (kB, .object RX14), (kA, .object RX13), (kV, .object RX21), (kI, .int)] s := hK
            replace hK := hK.sub (tys' := [(kI, .int), (kL, .long), (kE, .object RX15), (kS, .object RX19), (kB, .object RX14), (kA, .object RX13), (kV, .object RX21)]) [0, 1, 2, 3, 4, 5, 6] rfl
            clear hz1 hk1 hPc hDc hKc hFc hP1 hD1 hK1
            obtain rfl : r_14 = 0 := hw
            refine lv_if_eq (tgt := 71) hx hb dX23_let_60 (by decide) (fun _ => ?_) (fun c_15 => absurd (by decide) c_15)
            refine lv_aload_n hx hb dX23_let_71 rfl (lv_at hl 0 rfl) ?_
            refine lv_bipush (v := 60) hx hb dX23_let_72 (by decide) ?_
            by_cases hk_16 : fk (pp + 1 + 1) = 60
            · replace hPc := hP.subF (f' := [(m9, .inr (23, mA mr mv vf xl (nI zs) 0 xa (nI T) (nI (pp + 1 + 1)) xi xt xn (nI ns) (nI (vv + 1)) (nI bb))), (mr 5, .inl (kI, 3002, .inl fk)), (mr 6, .inl (kI, 3002, .inl fa))]) [3, 4, 2] rfl
              replace hDc := hD.subF (f' := [(m9, .inr (23, mA mr mv vf xl (nI zs) 0 xa (nI T) (nI (pp + 1 + 1)) xi xt xn (nI ns) (nI (vv + 1)) (nI bb))), (mr 5, .inl (kI, 3002, .inl fk)), (mr 6, .inl (kI, 3002, .inl fa))]) [3, 4, 2] (by decide) rfl
              replace hKc := hK.sub (tys' := [(kI, .int)]) [0] rfl
              replace hFc := va_freeT (wc := [(m9, .inr (23, mA mr mv vf xl (nI zs) 0 xa (nI T) (nI (pp + 1 + 1)) xi xt xn (nI ns) (nI (vv + 1)) (nI bb))), (mr 5, .inl (kI, 3002, .inl fk)), (mr 6, .inl (kI, 3002, .inl fa))]) hD hS hA [3, 4, 2] rfl
              refine va_callv (va_runV (As := [.int 60]) (rest := []) ⟨hx, hb, hml, hown, hts⟩ (c_rtkY l dC dI m9 mr mv vf xl xa xi xt xn zs T (pp + 1 + 1) ns (vv + 1) bb kI fk fa 60 H.size hT hp_9 hk0 (by decide) hk_16) (cwV 1 hts g_c_vlt_c_rtkY_74 rfl rfl rfl (by decide +kernel) ⟨by show 1 + 1 ≤ 14 + 14 * k; omega, by show 8 + (2 + 11) + (21) ≤ 322 + 323 * k; omega⟩) ⟨fun a U g mk q => by obtain ⟨q0, q1, qP, qK, qD⟩ := q; exact ⟨q0, q1, qP, va_K.moved (u := U) (U := U.calling g mk a) (Vm.Alike.refl U.vm) qK, qD⟩, va_recv hKc hPc (ci := 23) (q0 := 0) rfl rfl, fun U hU hW => ⟨rfl, by rw [hU], by rw [hU]; exact hPc, va_K.moved hW.alike hKc, hDc.weaken (fun _ _ _ _ => trivial)⟩⟩ rfl rfl hl.1 rfl (lv_room (Nat.le_of_ble_eq_true rfl)) dX23_let_74 ⟨(show 0 + 0 ≤ (8 * (T - pp) + 14) by omega), (show 0 + 0 ≤ (120 * (T - pp) + 480) by omega)⟩) hS (fun q _ h => hFc q h) hFc (fun u tS H1 locs ht hvm hw hB hz1 hk1 hS => ?_)
              obtain ⟨hP1, hK1, hD1⟩ := hB
              rw [ht] at hP1
              replace hK1 := va_K.moved hvm.symm hK1
              obtain ⟨hPj, hDj⟩ := va_joinT (wr := [(ss, .inr (19, [.int 0, .int (nI pp), .int (nI (pp + 1)), .int 0, .int 0, .null, .null, .null, .null, .null, .null, .null, .null, .int 0])), (mr 8, .inl (kL, 3002, .inr (.inl fn)))]) (w1 := [(m9, .inr (23, mA mr mv vf xl (nI zs) 0 xa (nI T) (nI ((pp + 1 + 1) + 1)) xi xt xn (nI ns) (nI (vv + 1)) (nI bb))), (mr 5, .inl (kI, 3002, .inl fk)), (mr 6, .inl (kI, 3002, .inl fa))]) hP hD [3, 4, 2] [0, 1] rfl rfl (by decide) (by decide) hk1 hFc hP1 hD1
              replace hP := hPj
              replace hD := hDj
              clear hPj hDj
              replace hK := hK.app hK1
              generalize H1 = H at hP hS ⊢
              replace hP : va_P (dC, dI) vwCl (([(ss, .inr (19, [.int 0, .int (nI pp), .int (nI (pp + 1)), .int 0, .int 0, .null, .null, .null, .null, .null, .null, .null, .null, .int 0])), (mr 8, .inl (kL, 3002, .inr (.inl fn))), (m9, .inr (23, mA mr mv vf xl (nI zs) 0 xa (nI T) (nI ((pp + 1 + 1) + 1)) xi xt xn (nI ns) (nI (vv + 1)) (nI bb))), (mr 5, .inl (kI, 3002, .inl fk)), (mr 6, .inl (kI, 3002, .inl fa))] : va_W) ++ (sT L F)) H := hP
              replace hD : va_D A (([(ss, .inr (19, [.int 0, .int (nI pp), .int (nI (pp + 1)), .int 0, .int 0, .null, .null, .null, .null, .null, .null, .null, .null, .int 0])), (mr 8, .inl (kL, 3002, .inr (.inl fn))), (m9, .inr (23, mA mr mv vf xl (nI zs) 0 xa (nI T) (nI ((pp + 1 + 1) + 1)) xi xt xn (nI ns) (nI (vv + 1)) (nI bb))), (mr 5, .inl (kI, 3002, .inl fk)), (mr 6, .inl (kI, 3002, .inl fa))] : va_W) ++ (sT L F)) := hD
              replace hK : va_K (dC, dI) vwCl [(kI, .int), (kL, .long), (kE, .object RX15), (kS, .object RX19), (kB, .object RX14), (kA, .object RX13), (kV, .object RX21), (kI, .int)] s := hK
              replace hK := hK.sub (tys' := [(kI, .int), (kL, .long), (kE, .object RX15), (kS, .object RX19), (kB, .object RX14), (kA, .object RX13), (kV, .object RX21)]) [0, 1, 2, 3, 4, 5, 6] rfl
              clear hz1 hk1 hPc hDc hKc hFc hP1 hD1 hK1
              have hp_18 : pp + 1 + 1 + 1 < T := kne3 hk0 hp_9 hk_16 (by decide)
              refine W.grow (fun hgs0 hgs1 => ?_)
              have hP9 := hP.subT (f' := [(ss, .inr (19, [.int 0, .int (nI pp), .int (nI (pp + 1)), .int 0, .int 0, .null, .null, .null, .null, .null, .null, .null, .null, .int 0])), (m9, .inr (23, mA mr mv vf xl (nI zs) 0 xa (nI T) (nI (pp + 1 + 1 + 1)) xi xt xn (nI ns) (nI (vv + 1)) (nI bb))), (mr 5, .inl (kI, 3002, .inl fk)), (mr 6, .inl (kI, 3002, .inl fa)), (mr 8, .inl (kL, 3002, .inr (.inl fn)))]) [0, 2, 3, 4, 1] rfl
              have hD9 := hD.subT (f' := [(ss, .inr (19, [.int 0, .int (nI pp), .int (nI (pp + 1)), .int 0, .int 0, .null, .null, .null, .null, .null, .null, .null, .null, .int 0])), (m9, .inr (23, mA mr mv vf xl (nI zs) 0 xa (nI T) (nI (pp + 1 + 1 + 1)) xi xt xn (nI ns) (nI (vv + 1)) (nI bb))), (mr 5, .inl (kI, 3002, .inl fk)), (mr 6, .inl (kI, 3002, .inl fa)), (mr 8, .inl (kL, 3002, .inr (.inl fn)))]) [0, 2, 3, 4, 1] (by decide) rfl
              have hK9 := hK.sub (tys' := [(kI, .int), (kL, .long), (kE, .object RX15), (kS, .object RX19), (kB, .object RX14), (kA, .object RX13), (kV, .object RX21)]) [0, 1, 2, 3, 4, 5, 6] rfl
              refine W.widen (k := (8 * (T - pp) + 14)) (n := (120 * (T - pp) + 480)) (by omega) (by omega) ?_
              exact W.vret hx hb hr (fun tS ht hW => ⟨⟨(), rfl, trivial, L, F, 0, xa, pp + 1 + 1 + 1, bb, vv + 1, 0, nI (pp + 1), 0, .null, .null, exS.rf, ⟨by omega, by omega, by omega, by omega, by omega, by omega⟩, ⟨by omega, fun _ => rfl⟩, (fun _ => ⟨hbb, by omega, by omega, fun aZ LZ FZ hxZ haZ hFZ => ⟨haZ, by omega, Or.inl ⟨pp + 1, _, _, _, hFZ, by omega, by omega, Or.inl rfl, rfl, Or.inl rfl, Or.inl ⟨rfl, rfl⟩⟩⟩⟩), by rw [ht]; exact ⟨by omega, by omega⟩, by rw [ht]; exact hP9, va_K.moved hW.alike hK9, hD9⟩, hS.F ht⟩) hS.2.2 dX23_let_77
            · replace hPc := hP.subF (f' := [(m9, .inr (23, mA mr mv vf xl (nI zs) 0 xa (nI T) (nI (pp + 1 + 1)) xi xt xn (nI ns) (nI (vv + 1)) (nI bb))), (mr 5, .inl (kI, 3002, .inl fk)), (mr 6, .inl (kI, 3002, .inl fa))]) [3, 4, 2] rfl
              replace hDc := hD.subF (f' := [(m9, .inr (23, mA mr mv vf xl (nI zs) 0 xa (nI T) (nI (pp + 1 + 1)) xi xt xn (nI ns) (nI (vv + 1)) (nI bb))), (mr 5, .inl (kI, 3002, .inl fk)), (mr 6, .inl (kI, 3002, .inl fa))]) [3, 4, 2] (by decide) rfl
              replace hKc := hK.sub (tys' := [(kI, .int)]) [0] rfl
              replace hFc := va_freeT (wc := [(m9, .inr (23, mA mr mv vf xl (nI zs) 0 xa (nI T) (nI (pp + 1 + 1)) xi xt xn (nI ns) (nI (vv + 1)) (nI bb))), (mr 5, .inl (kI, 3002, .inl fk)), (mr 6, .inl (kI, 3002, .inl fa))]) hD hS hA [3, 4, 2] rfl
              refine va_callv (va_runV (As := [.int 60]) (rest := []) ⟨hx, hb, hml, hown, hts⟩ (c_rtkN l dC dI m9 mr mv vf xl xa xi xt xn zs T (pp + 1 + 1) ns (vv + 1) bb kI fk fa 60 H.size hT hp_9 hk0 (by decide) hk_16) (cwV 1 hts g_c_vlt_c_rtkN_74 rfl rfl rfl (by decide +kernel) ⟨by show 1 + 1 ≤ 14 + 14 * k; omega, by show 8 + (2 + 11) + (22) ≤ 322 + 323 * k; omega⟩) ⟨fun a U g mk q => by obtain ⟨q0, q1, qP, qK, qD⟩ := q; exact ⟨q0, q1, qP, va_K.moved (u := U) (U := U.calling g mk a) (Vm.Alike.refl U.vm) qK, qD⟩, va_recv hKc hPc (ci := 23) (q0 := 0) rfl rfl, fun U hU hW => ⟨rfl, by rw [hU], by rw [hU]; exact hPc, va_K.moved hW.alike hKc, hDc.weaken (fun _ _ _ _ => trivial)⟩⟩ rfl rfl hl.1 rfl (lv_room (Nat.le_of_ble_eq_true rfl)) dX23_let_74 ⟨(show 0 + 0 ≤ (8 * (T - pp) + 14) by omega), (show 0 + 0 ≤ (120 * (T - pp) + 480) by omega)⟩) hS (fun q _ h => hFc q h) hFc (fun u tS H1 locs ht hvm hw hB hz1 hk1 hS => ?_)
              obtain ⟨ff_17, xa_18, hf19_0, hP1, hK1, hD1⟩ := hB
              rw [ht] at hP1
              replace hK1 := va_K.moved hvm.symm hK1
              obtain ⟨hPj, hDj⟩ := va_joinT (wr := [(ss, .inr (19, [.int 0, .int (nI pp), .int (nI (pp + 1)), .int 0, .int 0, .null, .null, .null, .null, .null, .null, .null, .null, .int 0])), (mr 8, .inl (kL, 3002, .inr (.inl fn)))]) (w1 := [(m9, .inr (23, mA mr mv vf xl (nI zs) ff_17 xa_18 (nI T) (nI (pp + 1 + 1)) xi xt xn (nI ns) (nI (vv + 1)) (nI bb))), (mr 5, .inl (kI, 3002, .inl fk)), (mr 6, .inl (kI, 3002, .inl fa))]) hP hD [3, 4, 2] [0, 1] rfl rfl (by decide) (by decide) hk1 hFc hP1 hD1
              replace hP := hPj
              replace hD := hDj
              clear hPj hDj
              replace hK := hK.app hK1
              generalize H1 = H at hP hS ⊢
              replace hP : va_P (dC, dI) vwCl (([(ss, .inr (19, [.int 0, .int (nI pp), .int (nI (pp + 1)), .int 0, .int 0, .null, .null, .null, .null, .null, .null, .null, .null, .int 0])), (mr 8, .inl (kL, 3002, .inr (.inl fn))), (m9, .inr (23, mA mr mv vf xl (nI zs) ff_17 xa_18 (nI T) (nI (pp + 1 + 1)) xi xt xn (nI ns) (nI (vv + 1)) (nI bb))), (mr 5, .inl (kI, 3002, .inl fk)), (mr 6, .inl (kI, 3002, .inl fa))] : va_W) ++ (sT L F)) H := hP
              replace hD : va_D A (([(ss, .inr (19, [.int 0, .int (nI pp), .int (nI (pp + 1)), .int 0, .int 0, .null, .null, .null, .null, .null, .null, .null, .null, .int 0])), (mr 8, .inl (kL, 3002, .inr (.inl fn))), (m9, .inr (23, mA mr mv vf xl (nI zs) ff_17 xa_18 (nI T) (nI (pp + 1 + 1)) xi xt xn (nI ns) (nI (vv + 1)) (nI bb))), (mr 5, .inl (kI, 3002, .inl fk)), (mr 6, .inl (kI, 3002, .inl fa))] : va_W) ++ (sT L F)) := hD
              replace hK : va_K (dC, dI) vwCl [(kI, .int), (kL, .long), (kE, .object RX15), (kS, .object RX19), (kB, .object RX14), (kA, .object RX13), (kV, .object RX21), (kI, .int)] s := hK
              replace hK := hK.sub (tys' := [(kI, .int), (kL, .long), (kE, .object RX15), (kS, .object RX19), (kB, .object RX14), (kA, .object RX13), (kV, .object RX21)]) [0, 1, 2, 3, 4, 5, 6] rfl
              clear hz1 hk1 hPc hDc hKc hFc hP1 hD1 hK1
              refine W.grow (fun hgs0 hgs1 => ?_)
              have hP9 := hP.subT (f' := [(ss, .inr (19, [.int 0, .int (nI pp), .int (nI (pp + 1)), .int 0, .int 0, .null, .null, .null, .null, .null, .null, .null, .null, .int 0])), (m9, .inr (23, mA mr mv vf xl (nI zs) ff_17 xa_18 (nI T) (nI (pp + 1 + 1)) xi xt xn (nI ns) (nI (vv + 1)) (nI bb))), (mr 5, .inl (kI, 3002, .inl fk)), (mr 6, .inl (kI, 3002, .inl fa)), (mr 8, .inl (kL, 3002, .inr (.inl fn)))]) [0, 2, 3, 4, 1] rfl
              have hD9 := hD.subT (f' := [(ss, .inr (19, [.int 0, .int (nI pp), .int (nI (pp + 1)), .int 0, .int 0, .null, .null, .null, .null, .null, .null, .null, .null, .int 0])), (m9, .inr (23, mA mr mv vf xl (nI zs) ff_17 xa_18 (nI T) (nI (pp + 1 + 1)) xi xt xn (nI ns) (nI (vv + 1)) (nI bb))), (mr 5, .inl (kI, 3002, .inl fk)), (mr 6, .inl (kI, 3002, .inl fa)), (mr 8, .inl (kL, 3002, .inr (.inl fn)))]) [0, 2, 3, 4, 1] (by decide) rfl
              have hK9 := hK.sub (tys' := [(kI, .int), (kL, .long), (kE, .object RX15), (kS, .object RX19), (kB, .object RX14), (kA, .object RX13), (kV, .object RX21)]) [0, 1, 2, 3, 4, 5, 6] rfl
              refine W.widen (k := (8 * (T - pp) + 14)) (n := (120 * (T - pp) + 480)) (by omega) (by omega) ?_
              exact W.vret hx hb hr (fun tS ht hW => ⟨⟨(), rfl, trivial, L, F, ff_17, xa_18, pp + 1 + 1, bb, vv + 1, 1, nI (pp + 1), 0, .null, .null, exS.rf, ⟨by omega, by omega, by omega, by omega, by omega, by omega⟩, ⟨by omega, fun q9 => absurd q9 hf19_0⟩, (fun q9 => absurd q9 hf19_0), by rw [ht]; exact ⟨by omega, by omega⟩, by rw [ht]; exact hP9, va_K.moved hW.alike hK9, hD9⟩, hS.F ht⟩) hS.2.2 dX23_let_77
      · replace hPc := hP.subF (f' := [(m9, .inr (23, mA mr mv vf xl (nI zs) 0 xa (nI T) (nI (pp + 1)) xi xt xn (nI ns) (nI (vv + 1)) (nI bb))), (mr 5, .inl (kI, 3002, .inl fk)), (mr 6, .inl (kI, 3002, .inl fa))]) [2, 3, 4] rfl
        replace hDc := hD.subF (f' := [(m9, .inr (23, mA mr mv vf xl (nI zs) 0 xa (nI T) (nI (pp + 1)) xi xt xn (nI ns) (nI (vv + 1)) (nI bb))), (mr 5, .inl (kI, 3002, .inl fk)), (mr 6, .inl (kI, 3002, .inl fa))]) [2, 3, 4] (by decide) rfl
        replace hKc := hK.sub (tys' := [(kI, .int)]) [0] rfl
        replace hFc := va_freeT (wc := [(m9, .inr (23, mA mr mv vf xl (nI zs) 0 xa (nI T) (nI (pp + 1)) xi xt xn (nI ns) (nI (vv + 1)) (nI bb))), (mr 5, .inl (kI, 3002, .inl fk)), (mr 6, .inl (kI, 3002, .inl fa))]) hD hS hA [2, 3, 4] rfl
        refine va_calli (va_runV (As := []) (rest := [.ref ss]) ⟨hx, hb, hml, hown, hts⟩ (c_rnmN l dC dI m9 mr mv vf xl xa xi xt xn zs T (pp + 1) ns (vv + 1) bb kI fk fa H.size hT hp_2 hk0 hk_7) (cwV 0 hts g_c_vlt_c_rnmN_31 rfl rfl rfl (by decide +kernel) ⟨by show 2 + 1 ≤ 14 + 14 * k; omega, by show 8 + (1 + 11) + (43) ≤ 322 + 323 * k; omega⟩) ⟨fun a U g mk q => by obtain ⟨q0, q1, qP, qK, qD⟩ := q; exact ⟨q0, q1, qP, va_K.moved (u := U) (U := U.calling g mk a) (Vm.Alike.refl U.vm) qK, qD⟩, va_recv hKc hPc (ci := 23) (q0 := 0) rfl rfl, fun U hU hW => ⟨rfl, by rw [hU], by rw [hU]; exact hPc, va_K.moved hW.alike hKc, hDc.weaken (fun _ _ _ _ => trivial)⟩⟩ rfl rfl hl.1 rfl (lv_room (Nat.le_of_ble_eq_true rfl)) dX23_let_31 ⟨(show 0 + 0 ≤ (8 * (T - pp) + 14) by omega), (show 0 + 0 ≤ (120 * (T - pp) + 480) by omega)⟩) hS (fun q _ h => hFc q h) hFc (fun r_10 u tS H1 locs ht hvm hw hB hz1 hk1 hS => ?_)
        obtain ⟨ff_8, xa_9, hf10_0, hP1, hK1, hD1⟩ := hB
        rw [ht] at hP1
        replace hK1 := va_K.moved hvm.symm hK1
        obtain ⟨hPj, hDj⟩ := va_joinT (wr := [(ss, .inr (19, [.int 0, .int (nI pp), .int 0, .int 0, .int 0, .null, .null, .null, .null, .null, .null, .null, .null, .int 0])), (mr 8, .inl (kL, 3002, .inr (.inl fn)))]) (w1 := [(m9, .inr (23, mA mr mv vf xl (nI zs) ff_8 xa_9 (nI T) (nI (pp + 1)) xi xt xn (nI ns) (nI (vv + 1)) (nI bb))), (mr 5, .inl (kI, 3002, .inl fk)), (mr 6, .inl (kI, 3002, .inl fa))]) hP hD [2, 3, 4] [0, 1] rfl rfl (by decide) (by decide) hk1 hFc hP1 hD1
        replace hP := hPj
        replace hD := hDj
        clear hPj hDj
        replace hK := hK.app hK1
        generalize H1 = H at hP hS ⊢
        replace hP : va_P (dC, dI) vwCl (([(ss, .inr (19, [.int 0, .int (nI pp), .int 0, .int 0, .int 0, .null, .null, .null, .null, .null, .null, .null, .null, .int 0])), (mr 8, .inl (kL, 3002, .inr (.inl fn))), (m9, .inr (23, mA mr mv vf xl (nI zs) ff_8 xa_9 (nI T) (nI (pp + 1)) xi xt xn (nI ns) (nI (vv + 1)) (nI bb))), (mr 5, .inl (kI, 3002, .inl fk)), (mr 6, .inl (kI, 3002, .inl fa))] : va_W) ++ (sT L F)) H := hP
        replace hD : va_D A (([(ss, .inr (19, [.int 0, .int (nI pp), .int 0, .int 0, .int 0, .null, .null, .null, .null, .null, .null, .null, .null, .int 0])), (mr 8, .inl (kL, 3002, .inr (.inl fn))), (m9, .inr (23, mA mr mv vf xl (nI zs) ff_8 xa_9 (nI T) (nI (pp + 1)) xi xt xn (nI ns) (nI (vv + 1)) (nI bb))), (mr 5, .inl (kI, 3002, .inl fk)), (mr 6, .inl (kI, 3002, .inl fa))] : va_W) ++ (sT L F)) := hD
        replace hK : va_K (dC, dI) vwCl [(kI, .int), (kL, .long), (kE, .object RX15), (kS, .object RX19), (kB, .object RX14), (kA, .object RX13), (kV, .object RX21), (kI, .int)] s := hK
        replace hK := hK.sub (tys' := [(kI, .int), (kL, .long), (kE, .object RX15), (kS, .object RX19), (kB, .object RX14), (kA, .object RX13), (kV, .object RX21)]) [0, 1, 2, 3, 4, 5, 6] rfl
        clear hz1 hk1 hPc hDc hKc hFc hP1 hD1 hK1
        refine va_put (D := (dC, dI)) (ci := 19) (v := .int r_10) (ty := .int) (C := RX19) (T := TX19) (N := 14) hx hb hts in_c_vlt_X19 tyX19 tyX19_ok nmX19 hown hK hP hD hS 0 rfl rfl 2 (by decide) (hts (.fieldLink RX23 285 "OwnedPlacesModel$Statement" "name" "I") (wm_c_vlt 38 rfl)) (fun _ h9 => h9) rfl (by decide +kernel) rfl rfl (Nat.le_of_ble_eq_true rfl) dX23_let_34 (fun H locs hP hD hS => ?_)
        replace hP : va_P (dC, dI) vwCl (([(ss, .inr (19, [.int 0, .int (nI pp), .int r_10, .int 0, .int 0, .null, .null, .null, .null, .null, .null, .null, .null, .int 0])), (mr 8, .inl (kL, 3002, .inr (.inl fn))), (m9, .inr (23, mA mr mv vf xl (nI zs) ff_8 xa_9 (nI T) (nI (pp + 1)) xi xt xn (nI ns) (nI (vv + 1)) (nI bb))), (mr 5, .inl (kI, 3002, .inl fk)), (mr 6, .inl (kI, 3002, .inl fa))] : va_W) ++ (sT L F)) H := hP
        replace hD : va_D A (([(ss, .inr (19, [.int 0, .int (nI pp), .int r_10, .int 0, .int 0, .null, .null, .null, .null, .null, .null, .null, .null, .int 0])), (mr 8, .inl (kL, 3002, .inr (.inl fn))), (m9, .inr (23, mA mr mv vf xl (nI zs) ff_8 xa_9 (nI T) (nI (pp + 1)) xi xt xn (nI ns) (nI (vv + 1)) (nI bb))), (mr 5, .inl (kI, 3002, .inl fk)), (mr 6, .inl (kI, 3002, .inl fa))] : va_W) ++ (sT L F)) := hD
        refine lv_aload_n hx hb dX23_let_37 rfl (lv_at hl 0 rfl) ?_
        refine lv_bipush (v := 58) hx hb dX23_let_38 (by decide) ?_
        replace hPc := hP.subF (f' := [(m9, .inr (23, mA mr mv vf xl (nI zs) ff_8 xa_9 (nI T) (nI (pp + 1)) xi xt xn (nI ns) (nI (vv + 1)) (nI bb))), (mr 5, .inl (kI, 3002, .inl fk))]) [2, 3] rfl
        replace hDc := hD.subF (f' := [(m9, .inr (23, mA mr mv vf xl (nI zs) ff_8 xa_9 (nI T) (nI (pp + 1)) xi xt xn (nI ns) (nI (vv + 1)) (nI bb))), (mr 5, .inl (kI, 3002, .inl fk))]) [2, 3] (by decide) rfl
        replace hKc := hK.sub (tys' := [(kI, .int)]) [0] rfl
        replace hFc := va_freeT (wc := [(m9, .inr (23, mA mr mv vf xl (nI zs) ff_8 xa_9 (nI T) (nI (pp + 1)) xi xt xn (nI ns) (nI (vv + 1)) (nI bb))), (mr 5, .inl (kI, 3002, .inl fk))]) hD hS hA [2, 3] rfl
        refine va_calli (va_runV (As := [.int 58]) (rest := []) ⟨hx, hb, hml, hown, hts⟩ (c_rtsB l dC dI m9 mr mv vf xl xa_9 xi xt xn zs T (pp + 1) ns (vv + 1) bb kI fk fa ff_8 58 H.size hf10_0) (cwV 1 hts g_c_vlt_c_rtsB_40 rfl rfl rfl (by decide +kernel) ⟨by show 1 + 1 ≤ 14 + 14 * k; omega, by show 8 + (2 + 11) + (20) ≤ 322 + 323 * k; omega⟩) ⟨fun a U g mk q => by obtain ⟨q0, q1, qP, qK, qD⟩ := q; exact ⟨q0, q1, qP, va_K.moved (u := U) (U := U.calling g mk a) (Vm.Alike.refl U.vm) qK, qD⟩, va_recv hKc hPc (ci := 23) (q0 := 0) rfl rfl, fun U hU hW => ⟨rfl, by rw [hU], by rw [hU]; exact hPc, va_K.moved hW.alike hKc, hDc.weaken (fun _ _ _ _ => trivial)⟩⟩ rfl rfl hl.1 rfl (lv_room (Nat.le_of_ble_eq_true rfl)) dX23_let_40 ⟨(show 0 + 0 ≤ (8 * (T - pp) + 14) by omega), (show 0 + 0 ≤ (120 * (T - pp) + 480) by omega)⟩) hS (fun q _ h => hFc q h) hFc (fun r_11 u tS H1 locs ht hvm hw hB hz1 hk1 hS => ?_)
        obtain ⟨hP1, hK1, hD1⟩ := hB
        rw [ht] at hP1
        replace hK1 := va_K.moved hvm.symm hK1
        obtain ⟨hPj, hDj⟩ := va_joinT (wr := [(ss, .inr (19, [.int 0, .int (nI pp), .int r_10, .int 0, .int 0, .null, .null, .null, .null, .null, .null, .null, .null, .int 0])), (mr 8, .inl (kL, 3002, .inr (.inl fn))), (mr 6, .inl (kI, 3002, .inl fa))]) (w1 := [(m9, .inr (23, mA mr mv vf xl (nI zs) ff_8 xa_9 (nI T) (nI (pp + 1)) xi xt xn (nI ns) (nI (vv + 1)) (nI bb))), (mr 5, .inl (kI, 3002, .inl fk))]) hP hD [2, 3] [0, 1, 4] rfl rfl (by decide) (by decide) hk1 hFc hP1 hD1
        replace hP := hPj
        replace hD := hDj
        clear hPj hDj
        replace hK := hK.app hK1
        generalize H1 = H at hP hS ⊢
        replace hP : va_P (dC, dI) vwCl (([(ss, .inr (19, [.int 0, .int (nI pp), .int r_10, .int 0, .int 0, .null, .null, .null, .null, .null, .null, .null, .null, .int 0])), (mr 8, .inl (kL, 3002, .inr (.inl fn))), (mr 6, .inl (kI, 3002, .inl fa)), (m9, .inr (23, mA mr mv vf xl (nI zs) ff_8 xa_9 (nI T) (nI (pp + 1)) xi xt xn (nI ns) (nI (vv + 1)) (nI bb))), (mr 5, .inl (kI, 3002, .inl fk))] : va_W) ++ (sT L F)) H := hP
        replace hD : va_D A (([(ss, .inr (19, [.int 0, .int (nI pp), .int r_10, .int 0, .int 0, .null, .null, .null, .null, .null, .null, .null, .null, .int 0])), (mr 8, .inl (kL, 3002, .inr (.inl fn))), (mr 6, .inl (kI, 3002, .inl fa)), (m9, .inr (23, mA mr mv vf xl (nI zs) ff_8 xa_9 (nI T) (nI (pp + 1)) xi xt xn (nI ns) (nI (vv + 1)) (nI bb))), (mr 5, .inl (kI, 3002, .inl fk))] : va_W) ++ (sT L F)) := hD
        replace hK : va_K (dC, dI) vwCl [(kI, .int), (kL, .long), (kE, .object RX15), (kS, .object RX19), (kB, .object RX14), (kA, .object RX13), (kV, .object RX21), (kI, .int)] s := hK
        replace hK := hK.sub (tys' := [(kI, .int), (kL, .long), (kE, .object RX15), (kS, .object RX19), (kB, .object RX14), (kA, .object RX13), (kV, .object RX21)]) [0, 1, 2, 3, 4, 5, 6] rfl
        clear hz1 hk1 hPc hDc hKc hFc hP1 hD1 hK1
        obtain rfl : r_11 = 0 := hw
        refine lv_if_eq (tgt := 54) hx hb dX23_let_43 (by decide) (fun _ => ?_) (fun c_12 => absurd (by decide) c_12)
        refine lv_aload_n hx hb dX23_let_54 rfl (lv_at hl 0 rfl) ?_
        refine lv_bipush (v := 54) hx hb dX23_let_55 (by decide) ?_
        replace hPc := hP.subF (f' := [(m9, .inr (23, mA mr mv vf xl (nI zs) ff_8 xa_9 (nI T) (nI (pp + 1)) xi xt xn (nI ns) (nI (vv + 1)) (nI bb))), (mr 5, .inl (kI, 3002, .inl fk))]) [3, 4] rfl
        replace hDc := hD.subF (f' := [(m9, .inr (23, mA mr mv vf xl (nI zs) ff_8 xa_9 (nI T) (nI (pp + 1)) xi xt xn (nI ns) (nI (vv + 1)) (nI bb))), (mr 5, .inl (kI, 3002, .inl fk))]) [3, 4] (by decide) rfl
        replace hKc := hK.sub (tys' := [(kI, .int)]) [0] rfl
        replace hFc := va_freeT (wc := [(m9, .inr (23, mA mr mv vf xl (nI zs) ff_8 xa_9 (nI T) (nI (pp + 1)) xi xt xn (nI ns) (nI (vv + 1)) (nI bb))), (mr 5, .inl (kI, 3002, .inl fk))]) hD hS hA [3, 4] rfl
        refine va_calli (va_runV (As := [.int 54]) (rest := []) ⟨hx, hb, hml, hown, hts⟩ (c_rtsB l dC dI m9 mr mv vf xl xa_9 xi xt xn zs T (pp + 1) ns (vv + 1) bb kI fk fa ff_8 54 H.size hf10_0) (cwV 1 hts g_c_vlt_c_rtsB_57 rfl rfl rfl (by decide +kernel) ⟨by show 1 + 1 ≤ 14 + 14 * k; omega, by show 8 + (2 + 11) + (20) ≤ 322 + 323 * k; omega⟩) ⟨fun a U g mk q => by obtain ⟨q0, q1, qP, qK, qD⟩ := q; exact ⟨q0, q1, qP, va_K.moved (u := U) (U := U.calling g mk a) (Vm.Alike.refl U.vm) qK, qD⟩, va_recv hKc hPc (ci := 23) (q0 := 0) rfl rfl, fun U hU hW => ⟨rfl, by rw [hU], by rw [hU]; exact hPc, va_K.moved hW.alike hKc, hDc.weaken (fun _ _ _ _ => trivial)⟩⟩ rfl rfl hl.1 rfl (lv_room (Nat.le_of_ble_eq_true rfl)) dX23_let_57 ⟨(show 0 + 0 ≤ (8 * (T - pp) + 14) by omega), (show 0 + 0 ≤ (120 * (T - pp) + 480) by omega)⟩) hS (fun q _ h => hFc q h) hFc (fun r_13 u tS H1 locs ht hvm hw hB hz1 hk1 hS => ?_)
        obtain ⟨hP1, hK1, hD1⟩ := hB
        rw [ht] at hP1
        replace hK1 := va_K.moved hvm.symm hK1
        obtain ⟨hPj, hDj⟩ := va_joinT (wr := [(ss, .inr (19, [.int 0, .int (nI pp), .int r_10, .int 0, .int 0, .null, .null, .null, .null, .null, .null, .null, .null, .int 0])), (mr 8, .inl (kL, 3002, .inr (.inl fn))), (mr 6, .inl (kI, 3002, .inl fa))]) (w1 := [(m9, .inr (23, mA mr mv vf xl (nI zs) ff_8 xa_9 (nI T) (nI (pp + 1)) xi xt xn (nI ns) (nI (vv + 1)) (nI bb))), (mr 5, .inl (kI, 3002, .inl fk))]) hP hD [3, 4] [0, 1, 2] rfl rfl (by decide) (by decide) hk1 hFc hP1 hD1
        replace hP := hPj
        replace hD := hDj
        clear hPj hDj
        replace hK := hK.app hK1
        generalize H1 = H at hP hS ⊢
        replace hP : va_P (dC, dI) vwCl (([(ss, .inr (19, [.int 0, .int (nI pp), .int r_10, .int 0, .int 0, .null, .null, .null, .null, .null, .null, .null, .null, .int 0])), (mr 8, .inl (kL, 3002, .inr (.inl fn))), (mr 6, .inl (kI, 3002, .inl fa)), (m9, .inr (23, mA mr mv vf xl (nI zs) ff_8 xa_9 (nI T) (nI (pp + 1)) xi xt xn (nI ns) (nI (vv + 1)) (nI bb))), (mr 5, .inl (kI, 3002, .inl fk))] : va_W) ++ (sT L F)) H := hP
        replace hD : va_D A (([(ss, .inr (19, [.int 0, .int (nI pp), .int r_10, .int 0, .int 0, .null, .null, .null, .null, .null, .null, .null, .null, .int 0])), (mr 8, .inl (kL, 3002, .inr (.inl fn))), (mr 6, .inl (kI, 3002, .inl fa)), (m9, .inr (23, mA mr mv vf xl (nI zs) ff_8 xa_9 (nI T) (nI (pp + 1)) xi xt xn (nI ns) (nI (vv + 1)) (nI bb))), (mr 5, .inl (kI, 3002, .inl fk))] : va_W) ++ (sT L F)) := hD
        replace hK : va_K (dC, dI) vwCl [(kI, .int), (kL, .long), (kE, .object RX15), (kS, .object RX19), (kB, .object RX14), (kA, .object RX13), (kV, .object RX21), (kI, .int)] s := hK
        replace hK := hK.sub (tys' := [(kI, .int), (kL, .long), (kE, .object RX15), (kS, .object RX19), (kB, .object RX14), (kA, .object RX13), (kV, .object RX21)]) [0, 1, 2, 3, 4, 5, 6] rfl
        clear hz1 hk1 hPc hDc hKc hFc hP1 hD1 hK1
        obtain rfl : r_13 = 0 := hw
        refine lv_if_eq (tgt := 71) hx hb dX23_let_60 (by decide) (fun _ => ?_) (fun c_14 => absurd (by decide) c_14)
        refine lv_aload_n hx hb dX23_let_71 rfl (lv_at hl 0 rfl) ?_
        refine lv_bipush (v := 60) hx hb dX23_let_72 (by decide) ?_
        replace hPc := hP.subF (f' := [(m9, .inr (23, mA mr mv vf xl (nI zs) ff_8 xa_9 (nI T) (nI (pp + 1)) xi xt xn (nI ns) (nI (vv + 1)) (nI bb))), (mr 5, .inl (kI, 3002, .inl fk)), (mr 6, .inl (kI, 3002, .inl fa))]) [3, 4, 2] rfl
        replace hDc := hD.subF (f' := [(m9, .inr (23, mA mr mv vf xl (nI zs) ff_8 xa_9 (nI T) (nI (pp + 1)) xi xt xn (nI ns) (nI (vv + 1)) (nI bb))), (mr 5, .inl (kI, 3002, .inl fk)), (mr 6, .inl (kI, 3002, .inl fa))]) [3, 4, 2] (by decide) rfl
        replace hKc := hK.sub (tys' := [(kI, .int)]) [0] rfl
        replace hFc := va_freeT (wc := [(m9, .inr (23, mA mr mv vf xl (nI zs) ff_8 xa_9 (nI T) (nI (pp + 1)) xi xt xn (nI ns) (nI (vv + 1)) (nI bb))), (mr 5, .inl (kI, 3002, .inl fk)), (mr 6, .inl (kI, 3002, .inl fa))]) hD hS hA [3, 4, 2] rfl
        refine va_callv (va_runV (As := [.int 60]) (rest := []) ⟨hx, hb, hml, hown, hts⟩ (c_rtkB l dC dI m9 mr mv vf xl xa_9 xi xt xn zs T (pp + 1) ns (vv + 1) bb kI fk fa ff_8 60 H.size hf10_0) (cwV 1 hts g_c_vlt_c_rtkB_74 rfl rfl rfl (by decide +kernel) ⟨by show 1 + 1 ≤ 14 + 14 * k; omega, by show 8 + (2 + 11) + (20) ≤ 322 + 323 * k; omega⟩) ⟨fun a U g mk q => by obtain ⟨q0, q1, qP, qK, qD⟩ := q; exact ⟨q0, q1, qP, va_K.moved (u := U) (U := U.calling g mk a) (Vm.Alike.refl U.vm) qK, qD⟩, va_recv hKc hPc (ci := 23) (q0 := 0) rfl rfl, fun U hU hW => ⟨rfl, by rw [hU], by rw [hU]; exact hPc, va_K.moved hW.alike hKc, hDc.weaken (fun _ _ _ _ => trivial)⟩⟩ rfl rfl hl.1 rfl (lv_room (Nat.le_of_ble_eq_true rfl)) dX23_let_74 ⟨(show 0 + 0 ≤ (8 * (T - pp) + 14) by omega), (show 0 + 0 ≤ (120 * (T - pp) + 480) by omega)⟩) hS (fun q _ h => hFc q h) hFc (fun u tS H1 locs ht hvm hw hB hz1 hk1 hS => ?_)
        obtain ⟨hP1, hK1, hD1⟩ := hB
        rw [ht] at hP1
        replace hK1 := va_K.moved hvm.symm hK1
        obtain ⟨hPj, hDj⟩ := va_joinT (wr := [(ss, .inr (19, [.int 0, .int (nI pp), .int r_10, .int 0, .int 0, .null, .null, .null, .null, .null, .null, .null, .null, .int 0])), (mr 8, .inl (kL, 3002, .inr (.inl fn)))]) (w1 := [(m9, .inr (23, mA mr mv vf xl (nI zs) ff_8 xa_9 (nI T) (nI (pp + 1)) xi xt xn (nI ns) (nI (vv + 1)) (nI bb))), (mr 5, .inl (kI, 3002, .inl fk)), (mr 6, .inl (kI, 3002, .inl fa))]) hP hD [3, 4, 2] [0, 1] rfl rfl (by decide) (by decide) hk1 hFc hP1 hD1
        replace hP := hPj
        replace hD := hDj
        clear hPj hDj
        replace hK := hK.app hK1
        generalize H1 = H at hP hS ⊢
        replace hP : va_P (dC, dI) vwCl (([(ss, .inr (19, [.int 0, .int (nI pp), .int r_10, .int 0, .int 0, .null, .null, .null, .null, .null, .null, .null, .null, .int 0])), (mr 8, .inl (kL, 3002, .inr (.inl fn))), (m9, .inr (23, mA mr mv vf xl (nI zs) ff_8 xa_9 (nI T) (nI (pp + 1)) xi xt xn (nI ns) (nI (vv + 1)) (nI bb))), (mr 5, .inl (kI, 3002, .inl fk)), (mr 6, .inl (kI, 3002, .inl fa))] : va_W) ++ (sT L F)) H := hP
        replace hD : va_D A (([(ss, .inr (19, [.int 0, .int (nI pp), .int r_10, .int 0, .int 0, .null, .null, .null, .null, .null, .null, .null, .null, .int 0])), (mr 8, .inl (kL, 3002, .inr (.inl fn))), (m9, .inr (23, mA mr mv vf xl (nI zs) ff_8 xa_9 (nI T) (nI (pp + 1)) xi xt xn (nI ns) (nI (vv + 1)) (nI bb))), (mr 5, .inl (kI, 3002, .inl fk)), (mr 6, .inl (kI, 3002, .inl fa))] : va_W) ++ (sT L F)) := hD
        replace hK : va_K (dC, dI) vwCl [(kI, .int), (kL, .long), (kE, .object RX15), (kS, .object RX19), (kB, .object RX14), (kA, .object RX13), (kV, .object RX21), (kI, .int)] s := hK
        replace hK := hK.sub (tys' := [(kI, .int), (kL, .long), (kE, .object RX15), (kS, .object RX19), (kB, .object RX14), (kA, .object RX13), (kV, .object RX21)]) [0, 1, 2, 3, 4, 5, 6] rfl
        clear hz1 hk1 hPc hDc hKc hFc hP1 hD1 hK1
        refine W.grow (fun hgs0 hgs1 => ?_)
        have hP9 := hP.subT (f' := [(ss, .inr (19, [.int 0, .int (nI pp), .int r_10, .int 0, .int 0, .null, .null, .null, .null, .null, .null, .null, .null, .int 0])), (m9, .inr (23, mA mr mv vf xl (nI zs) ff_8 xa_9 (nI T) (nI (pp + 1)) xi xt xn (nI ns) (nI (vv + 1)) (nI bb))), (mr 5, .inl (kI, 3002, .inl fk)), (mr 6, .inl (kI, 3002, .inl fa)), (mr 8, .inl (kL, 3002, .inr (.inl fn)))]) [0, 2, 3, 4, 1] rfl
        have hD9 := hD.subT (f' := [(ss, .inr (19, [.int 0, .int (nI pp), .int r_10, .int 0, .int 0, .null, .null, .null, .null, .null, .null, .null, .null, .int 0])), (m9, .inr (23, mA mr mv vf xl (nI zs) ff_8 xa_9 (nI T) (nI (pp + 1)) xi xt xn (nI ns) (nI (vv + 1)) (nI bb))), (mr 5, .inl (kI, 3002, .inl fk)), (mr 6, .inl (kI, 3002, .inl fa)), (mr 8, .inl (kL, 3002, .inr (.inl fn)))]) [0, 2, 3, 4, 1] (by decide) rfl
        have hK9 := hK.sub (tys' := [(kI, .int), (kL, .long), (kE, .object RX15), (kS, .object RX19), (kB, .object RX14), (kA, .object RX13), (kV, .object RX21)]) [0, 1, 2, 3, 4, 5, 6] rfl
        refine W.widen (k := (8 * (T - pp) + 14)) (n := (120 * (T - pp) + 480)) (by omega) (by omega) ?_
        exact W.vret hx hb hr (fun tS ht hW => ⟨⟨(), rfl, trivial, L, F, ff_8, xa_9, pp + 1, bb, vv + 1, 1, r_10, 0, .null, .null, exS.rf, ⟨by omega, by omega, by omega, by omega, by omega, by omega⟩, ⟨by omega, fun q9 => absurd q9 hf10_0⟩, (fun q9 => absurd q9 hf10_0), by rw [ht]; exact ⟨by omega, by omega⟩, by rw [ht]; exact hP9, va_K.moved hW.alike hK9, hD9⟩, hS.F ht⟩) hS.2.2 dX23_let_77
