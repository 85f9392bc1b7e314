def wf_c_radd : List Cond := [.code yX23_addToken cX23_addToken 6 none, .fieldLink RX23 25 "OwnedPlacesModel" "tokenKind" "[I", .fieldLink RX23 28 "OwnedPlacesModel" "tokens" "I", .fieldLink RX23 31 "OwnedPlacesModel" "tokenAt" "[I", .fieldLink RX23 34 "OwnedPlacesModel" "tokenEnd" "[I", .fieldLink RX23 37 "OwnedPlacesModel" "tokenNumber" "[J"]
def wp_c_radd : List Cond := wf_c_radd ++ (wsX230 ++ [])
theorem in_c_radd_X23 : ∀ w ∈ wsX230, w ∈ wp_c_radd := fun w h => List.mem_append_right _ (List.mem_append_left _ h)
theorem wg_c_radd : wf_c_radd.all goodWord = true := by decide +kernel
theorem wm_c_radd (k : Nat) {w : Cond} (h : wp_c_radd[k]? = some w) : w ∈ wp_c_radd := List.mem_of_getElem? h
set_option maxHeartbeats 4000000 in
set_option maxRecDepth 100000 in
theorem c_radd (l : Launch) (dC : Nat → ClassId) (dI : Nat → Nat → Nat) (m9 : Nat) (mr : Nat → Nat) (mv : Nat → Int32) (vf : Value) (xl xf xa xp xi xt xn xe xv xb : Int32) (zs tk : Nat) (kI kL : ClassId) (ft fk fa fe : Nat → Int32) (fn : Nat → Int64) (kd x y : Int32) (z : Int64) (sz : Nat) (htk : tk < 3002) : Met l yX23_addToken wp_c_radd ({ frames := 0, cells := 0, slots := 0, locals := 0 }) (va_Pc [.ref m9, .int kd, .int x, .int y, .long z] (fun U => U.heap.size = sz ∧ va_P (dC, dI) vwCl [(m9, .inr (23, mA mr mv vf xl (nI zs) xf xa (nI tk) xp xi xt xn xe xv xb)), (mr 5, .inl (kI, 3002, .inl fk)), (mr 6, .inl (kI, 3002, .inl fa)), (mr 7, .inl (kI, 3002, .inl fe)), (mr 8, .inl (kL, 3002, .inr (.inl fn)))] U.heap ∧ va_K (dC, dI) vwCl [(kI, .int), (kL, .long)] U ∧ va_D (fun _ => True) [(m9, .inr (23, mA mr mv vf xl (nI zs) xf xa (nI tk) xp xi xt xn xe xv xb)), (mr 5, .inl (kI, 3002, .inl fk)), (mr 6, .inl (kI, 3002, .inl fa)), (mr 7, .inl (kI, 3002, .inl fe)), (mr 8, .inl (kL, 3002, .inr (.inl fn)))])) (va_Qv (fun _ : Unit => True) (fun (_ : Unit) (tS : State) => ∃ (gn : Nat → Int64), va_P (dC, dI) vwCl [(m9, .inr (23, mA mr mv vf xl (nI zs) xf xa (nI (tk + 1)) xp xi xt xn xe xv xb)), (mr 5, .inl (kI, 3002, .inl (upd fk tk kd))), (mr 6, .inl (kI, 3002, .inl (upd fa tk x))), (mr 7, .inl (kI, 3002, .inl (upd fe tk y))), (mr 8, .inl (kL, 3002, .inr (.inl gn)))] tS.heap ∧ va_K (dC, dI) vwCl [(kI, .int), (kL, .long)] tS ∧ va_D (va_A [(m9, .inr (23, mA mr mv vf xl (nI zs) xf xa (nI tk) xp xi xt xn xe xv xb)), (mr 5, .inl (kI, 3002, .inl fk)), (mr 6, .inl (kI, 3002, .inl fa)), (mr 7, .inl (kI, 3002, .inl fe)), (mr 8, .inl (kL, 3002, .inr (.inl fn)))] sz) [(m9, .inr (23, mA mr mv vf xl (nI zs) xf xa (nI (tk + 1)) xp xi xt xn xe xv xb)), (mr 5, .inl (kI, 3002, .inl (upd fk tk kd))), (mr 6, .inl (kI, 3002, .inl (upd fa tk x))), (mr 7, .inl (kI, 3002, .inl (upd fe tk y))), (mr 8, .inl (kL, 3002, .inr (.inl gn)))]) (va_A [(m9, .inr (23, mA mr mv vf xl (nI zs) xf xa (nI tk) xp xi xt xn xe xv xb)), (mr 5, .inl (kI, 3002, .inl fk)), (mr 6, .inl (kI, 3002, .inl fa)), (mr 7, .inl (kI, 3002, .inl fe)), (mr 8, .inl (kL, 3002, .inr (.inl fn)))] sz)) 0 0 (va_A [(m9, .inr (23, mA mr mv vf xl (nI zs) xf xa (nI tk) xp xi xt xn xe xv xb)), (mr 5, .inl (kI, 3002, .inl fk)), (mr 6, .inl (kI, 3002, .inl fa)), (mr 7, .inl (kI, 3002, .inl fe)), (mr 8, .inl (kL, 3002, .inr (.inl fn)))] sz) := by
  refine Met.ofW (cc := cX23_addToken) (maxL := 6) (ret := none) (by decide) rfl ?_
  intro p e s m args below meth c s₁ B hml hv
  obtain ⟨rfl, hsz, hP, hK, hD0⟩ := hv
  have hx := B.exec
  have hb := B.bytes
  have hr := B.returns
  have hts := atoms_spec (ws := wp_c_radd) B.pre
  have hown : s.vm.findClass RX23 = some m.cls := findClass_of_methodNamed B.named
  have hlocks := B.notSynchronized
  subst hsz
  have hD := hD0.self (sz := s.heap.size)
  generalize hAe : va_A [(m9, .inr (23, mA mr mv vf xl (nI zs) xf xa (nI tk) xp xi xt xn xe xv xb)), (mr 5, .inl (kI, 3002, .inl fk)), (mr 6, .inl (kI, 3002, .inl fa)), (mr 7, .inl (kI, 3002, .inl fe)), (mr 8, .inl (kL, 3002, .inr (.inl fn)))] s.heap.size = A at hD ⊢
  have hA : ∀ q : Nat, s.heap.size ≤ q → A q := fun q h => by rw [← hAe]; exact Or.inr h
  have hS : va_S A s.heap s.heap [] := va_S.rf
  have hP : va_P (dC, dI) vwCl [(m9, .inr (23, mA mr mv vf xl (nI zs) xf xa (nI tk) xp xi xt xn xe xv xb)), (mr 5, .inl (kI, 3002, .inl fk)), (mr 6, .inl (kI, 3002, .inl fa)), (mr 7, .inl (kI, 3002, .inl fe)), (mr 8, .inl (kL, 3002, .inr (.inl fn)))] s.heap := hP
  have hl := lv_entry ([.ref m9, .int kd, .int x, .int y, .long z]) (n := 6) (Nat.le_of_ble_eq_true rfl)
  rw [lg_entry_eq]
  generalize (lg_sl ([.ref m9, .int kd, .int x, .int y, .long z]) ++ List.replicate (6 - (lg_sl ([.ref m9, .int kd, .int x, .int y, .long z])).length) Slot.unset).toArray = ls at hl ⊢
  have hl : lv_has ls 6 [(0, .ref m9), (1, .int kd), (2, .int x), (3, .int y), (4, .long z)] := hl
  refine lv_aload_n hx hb dX23_addToken_0 rfl (lv_at hl 0 rfl) ?_
  refine va_get (D := (dC, dI)) (ci := 23) (v := .ref (mr 5)) (C := RX23) (T := TX23) (N := 89) hx hb hts in_c_radd_X23 hown hK hP 0 rfl rfl 5 (by decide) (hts (.fieldLink RX23 25 "OwnedPlacesModel" "tokenKind" "[I") (wm_c_radd 1 rfl)) (fun _ h9 => h9) rfl dX23_addToken_1 ?_
  refine lv_aload_n hx hb dX23_addToken_4 rfl (lv_at hl 0 rfl) ?_
  refine va_get (D := (dC, dI)) (ci := 23) (v := .int (nI tk)) (C := RX23) (T := TX23) (N := 89) hx hb hts in_c_radd_X23 hown hK hP 0 rfl rfl 9 (by decide) (hts (.fieldLink RX23 28 "OwnedPlacesModel" "tokens" "I") (wm_c_radd 2 rfl)) (fun _ h9 => h9) rfl dX23_addToken_5 ?_
  refine lv_iload_n hx hb dX23_addToken_8 rfl (lv_at hl 1 rfl) ?_
  refine va_iast hx hb hK hP hD hS 1 0 rfl rfl (vp_in_nI htk (by decide)) dX23_addToken_9 (fun H locs hP hD hS => ?_)
  have hP : va_P (dC, dI) vwCl [(m9, .inr (23, mA mr mv vf xl (nI zs) xf xa (nI tk) xp xi xt xn xe xv xb)), (mr 5, .inl (kI, 3002, .inl (upd fk (nI tk : Int32).toNatClampNeg kd))), (mr 6, .inl (kI, 3002, .inl fa)), (mr 7, .inl (kI, 3002, .inl fe)), (mr 8, .inl (kL, 3002, .inr (.inl fn)))] H := hP
  have hD : va_D A [(m9, .inr (23, mA mr mv vf xl (nI zs) xf xa (nI tk) xp xi xt xn xe xv xb)), (mr 5, .inl (kI, 3002, .inl (upd fk (nI tk : Int32).toNatClampNeg kd))), (mr 6, .inl (kI, 3002, .inl fa)), (mr 7, .inl (kI, 3002, .inl fe)), (mr 8, .inl (kL, 3002, .inr (.inl fn)))] := hD
  obtain ⟨k1, ek1⟩ : ∃ zZ : Nat → Int32, zZ = upd fk (nI tk : Int32).toNatClampNeg kd := ⟨_, rfl⟩
  rw [← ek1] at hP hD
  obtain rfl : k1 = upd fk tk kd := by rw [ek1, nI_clamp (by omega)]
  have hP : va_P (dC, dI) vwCl [(m9, .inr (23, mA mr mv vf xl (nI zs) xf xa (nI tk) xp xi xt xn xe xv xb)), (mr 5, .inl (kI, 3002, .inl (upd fk tk kd))), (mr 6, .inl (kI, 3002, .inl fa)), (mr 7, .inl (kI, 3002, .inl fe)), (mr 8, .inl (kL, 3002, .inr (.inl fn)))] H := hP
  have hD : va_D A [(m9, .inr (23, mA mr mv vf xl (nI zs) xf xa (nI tk) xp xi xt xn xe xv xb)), (mr 5, .inl (kI, 3002, .inl (upd fk tk kd))), (mr 6, .inl (kI, 3002, .inl fa)), (mr 7, .inl (kI, 3002, .inl fe)), (mr 8, .inl (kL, 3002, .inr (.inl fn)))] := hD
  refine lv_aload_n hx hb dX23_addToken_10 rfl (lv_at hl 0 rfl) ?_
  refine va_get (D := (dC, dI)) (ci := 23) (v := .ref (mr 6)) (C := RX23) (T := TX23) (N := 89) hx hb hts in_c_radd_X23 hown hK hP 0 rfl rfl 6 (by decide) (hts (.fieldLink RX23 31 "OwnedPlacesModel" "tokenAt" "[I") (wm_c_radd 3 rfl)) (fun _ h9 => h9) rfl dX23_addToken_11 ?_
  refine lv_aload_n hx hb dX23_addToken_14 rfl (lv_at hl 0 rfl) ?_
  refine va_get (D := (dC, dI)) (ci := 23) (v := .int (nI tk)) (C := RX23) (T := TX23) (N := 89) hx hb hts in_c_radd_X23 hown hK hP 0 rfl rfl 9 (by decide) (hts (.fieldLink RX23 28 "OwnedPlacesModel" "tokens" "I") (wm_c_radd 2 rfl)) (fun _ h9 => h9) rfl dX23_addToken_15 ?_
  refine lv_iload_n hx hb dX23_addToken_18 rfl (lv_at hl 2 rfl) ?_
  refine va_iast hx hb hK hP hD hS 2 0 rfl rfl (vp_in_nI htk (by decide)) dX23_addToken_19 (fun H locs hP hD hS => ?_)
  have hP : va_P (dC, dI) vwCl [(m9, .inr (23, mA mr mv vf xl (nI zs) xf xa (nI tk) xp xi xt xn xe xv xb)), (mr 5, .inl (kI, 3002, .inl (upd fk tk kd))), (mr 6, .inl (kI, 3002, .inl (upd fa (nI tk : Int32).toNatClampNeg x))), (mr 7, .inl (kI, 3002, .inl fe)), (mr 8, .inl (kL, 3002, .inr (.inl fn)))] H := hP
  have hD : va_D A [(m9, .inr (23, mA mr mv vf xl (nI zs) xf xa (nI tk) xp xi xt xn xe xv xb)), (mr 5, .inl (kI, 3002, .inl (upd fk tk kd))), (mr 6, .inl (kI, 3002, .inl (upd fa (nI tk : Int32).toNatClampNeg x))), (mr 7, .inl (kI, 3002, .inl fe)), (mr 8, .inl (kL, 3002, .inr (.inl fn)))] := hD
  obtain ⟨a1, ea1⟩ : ∃ zZ : Nat → Int32, zZ = upd fa (nI tk : Int32).toNatClampNeg x := ⟨_, rfl⟩
  rw [← ea1] at hP hD
  obtain rfl : a1 = upd fa tk x := by rw [ea1, nI_clamp (by omega)]
  have hP : va_P (dC, dI) vwCl [(m9, .inr (23, mA mr mv vf xl (nI zs) xf xa (nI tk) xp xi xt xn xe xv xb)), (mr 5, .inl (kI, 3002, .inl (upd fk tk kd))), (mr 6, .inl (kI, 3002, .inl (upd fa tk x))), (mr 7, .inl (kI, 3002, .inl fe)), (mr 8, .inl (kL, 3002, .inr (.inl fn)))] H := hP
  have hD : va_D A [(m9, .inr (23, mA mr mv vf xl (nI zs) xf xa (nI tk) xp xi xt xn xe xv xb)), (mr 5, .inl (kI, 3002, .inl (upd fk tk kd))), (mr 6, .inl (kI, 3002, .inl (upd fa tk x))), (mr 7, .inl (kI, 3002, .inl fe)), (mr 8, .inl (kL, 3002, .inr (.inl fn)))] := hD
  refine lv_aload_n hx hb dX23_addToken_20 rfl (lv_at hl 0 rfl) ?_
  refine va_get (D := (dC, dI)) (ci := 23) (v := .ref (mr 7)) (C := RX23) (T := TX23) (N := 89) hx hb hts in_c_radd_X23 hown hK hP 0 rfl rfl 7 (by decide) (hts (.fieldLink RX23 34 "OwnedPlacesModel" "tokenEnd" "[I") (wm_c_radd 4 rfl)) (fun _ h9 => h9) rfl dX23_addToken_21 ?_
  refine lv_aload_n hx hb dX23_addToken_24 rfl (lv_at hl 0 rfl) ?_
  refine va_get (D := (dC, dI)) (ci := 23) (v := .int (nI tk)) (C := RX23) (T := TX23) (N := 89) hx hb hts in_c_radd_X23 hown hK hP 0 rfl rfl 9 (by decide) (hts (.fieldLink RX23 28 "OwnedPlacesModel" "tokens" "I") (wm_c_radd 2 rfl)) (fun _ h9 => h9) rfl dX23_addToken_25 ?_
  refine lv_iload_n hx hb dX23_addToken_28 rfl (lv_at hl 3 rfl) ?_
  refine va_iast hx hb hK hP hD hS 3 0 rfl rfl (vp_in_nI htk (by decide)) dX23_addToken_29 (fun H locs hP hD hS => ?_)
  have hP : va_P (dC, dI) vwCl [(m9, .inr (23, mA mr mv vf xl (nI zs) xf xa (nI tk) xp xi xt xn xe xv xb)), (mr 5, .inl (kI, 3002, .inl (upd fk tk kd))), (mr 6, .inl (kI, 3002, .inl (upd fa tk x))), (mr 7, .inl (kI, 3002, .inl (upd fe (nI tk : Int32).toNatClampNeg y))), (mr 8, .inl (kL, 3002, .inr (.inl fn)))] H := hP
  have hD : va_D A [(m9, .inr (23, mA mr mv vf xl (nI zs) xf xa (nI tk) xp xi xt xn xe xv xb)), (mr 5, .inl (kI, 3002, .inl (upd fk tk kd))), (mr 6, .inl (kI, 3002, .inl (upd fa tk x))), (mr 7, .inl (kI, 3002, .inl (upd fe (nI tk : Int32).toNatClampNeg y))), (mr 8, .inl (kL, 3002, .inr (.inl fn)))] := hD
  obtain ⟨e1, ee1⟩ : ∃ zZ : Nat → Int32, zZ = upd fe (nI tk : Int32).toNatClampNeg y := ⟨_, rfl⟩
  rw [← ee1] at hP hD
  obtain rfl : e1 = upd fe tk y := by rw [ee1, nI_clamp (by omega)]
  have hP : va_P (dC, dI) vwCl [(m9, .inr (23, mA mr mv vf xl (nI zs) xf xa (nI tk) xp xi xt xn xe xv xb)), (mr 5, .inl (kI, 3002, .inl (upd fk tk kd))), (mr 6, .inl (kI, 3002, .inl (upd fa tk x))), (mr 7, .inl (kI, 3002, .inl (upd fe tk y))), (mr 8, .inl (kL, 3002, .inr (.inl fn)))] H := hP
  have hD : va_D A [(m9, .inr (23, mA mr mv vf xl (nI zs) xf xa (nI tk) xp xi xt xn xe xv xb)), (mr 5, .inl (kI, 3002, .inl (upd fk tk kd))), (mr 6, .inl (kI, 3002, .inl (upd fa tk x))), (mr 7, .inl (kI, 3002, .inl (upd fe tk y))), (mr 8, .inl (kL, 3002, .inr (.inl fn)))] := hD
  refine lv_aload_n hx hb dX23_addToken_30 rfl (lv_at hl 0 rfl) ?_
  refine va_get (D := (dC, dI)) (ci := 23) (v := .ref (mr 8)) (C := RX23) (T := TX23) (N := 89) hx hb hts in_c_radd_X23 hown hK hP 0 rfl rfl 8 (by decide) (hts (.fieldLink RX23 37 "OwnedPlacesModel" "tokenNumber" "[J") (wm_c_radd 5 rfl)) (fun _ h9 => h9) rfl dX23_addToken_31 ?_
  refine lv_aload_n hx hb dX23_addToken_34 rfl (lv_at hl 0 rfl) ?_
  refine va_get (D := (dC, dI)) (ci := 23) (v := .int (nI tk)) (C := RX23) (T := TX23) (N := 89) hx hb hts in_c_radd_X23 hown hK hP 0 rfl rfl 9 (by decide) (hts (.fieldLink RX23 28 "OwnedPlacesModel" "tokens" "I") (wm_c_radd 2 rfl)) (fun _ h9 => h9) rfl dX23_addToken_35 ?_
  refine lv_lload hx hb dX23_addToken_38 (lv_at hl 4 rfl) ?_
  refine va_last hx hb hK hP hD hS 4 1 rfl rfl (vp_in_nI htk (by decide)) dX23_addToken_40 (fun H locs hP hD hS => ?_)
  have hP : va_P (dC, dI) vwCl [(m9, .inr (23, mA mr mv vf xl (nI zs) xf xa (nI tk) xp xi xt xn xe xv xb)), (mr 5, .inl (kI, 3002, .inl (upd fk tk kd))), (mr 6, .inl (kI, 3002, .inl (upd fa tk x))), (mr 7, .inl (kI, 3002, .inl (upd fe tk y))), (mr 8, .inl (kL, 3002, .inr (.inl (vp_updL fn (nI tk : Int32).toNatClampNeg z))))] H := hP
  have hD : va_D A [(m9, .inr (23, mA mr mv vf xl (nI zs) xf xa (nI tk) xp xi xt xn xe xv xb)), (mr 5, .inl (kI, 3002, .inl (upd fk tk kd))), (mr 6, .inl (kI, 3002, .inl (upd fa tk x))), (mr 7, .inl (kI, 3002, .inl (upd fe tk y))), (mr 8, .inl (kL, 3002, .inr (.inl (vp_updL fn (nI tk : Int32).toNatClampNeg z))))] := hD
  obtain ⟨l1, el1⟩ : ∃ zZ : Nat → Int64, zZ = vp_updL fn (nI tk : Int32).toNatClampNeg z := ⟨_, rfl⟩
  rw [← el1] at hP hD
  refine lv_aload_n hx hb dX23_addToken_41 rfl (lv_at hl 0 rfl) ?_
  refine lv_dup hx hb dX23_addToken_42 rfl ?_
  refine va_get (D := (dC, dI)) (ci := 23) (v := .int (nI tk)) (C := RX23) (T := TX23) (N := 89) hx hb hts in_c_radd_X23 hown hK hP 0 rfl rfl 9 (by decide) (hts (.fieldLink RX23 28 "OwnedPlacesModel" "tokens" "I") (wm_c_radd 2 rfl)) (fun _ h9 => h9) rfl dX23_addToken_43 ?_
  refine lv_iconst (v := 1) hx hb dX23_addToken_46 (by decide) ?_
  refine lv_iadd hx hb dX23_addToken_47 ?_
  refine lv_topi (fun f_1 ef_1 => ?_)
  obtain rfl : f_1 = nI (tk + 1) := ef_1.trans (nI_1 _)
  refine va_put (D := (dC, dI)) (ci := 23) (v := .int (nI (tk + 1))) (ty := .int) (C := RX23) (T := TX23) (N := 89) hx hb hts in_c_radd_X23 tyX23 tyX23_ok nmX23 hown hK hP hD hS 0 rfl rfl 9 (by decide) (hts (.fieldLink RX23 28 "OwnedPlacesModel" "tokens" "I") (wm_c_radd 2 rfl)) (fun _ h9 => h9) rfl (by decide +kernel) rfl rfl (Nat.le_of_ble_eq_true rfl) dX23_addToken_48 (fun H locs hP hD hS => ?_)
  have hP : va_P (dC, dI) vwCl [(m9, .inr (23, mA mr mv vf xl (nI zs) xf xa (nI (tk + 1)) xp xi xt xn xe xv xb)), (mr 5, .inl (kI, 3002, .inl (upd fk tk kd))), (mr 6, .inl (kI, 3002, .inl (upd fa tk x))), (mr 7, .inl (kI, 3002, .inl (upd fe tk y))), (mr 8, .inl (kL, 3002, .inr (.inl l1)))] H := hP
  have hD : va_D A [(m9, .inr (23, mA mr mv vf xl (nI zs) xf xa (nI (tk + 1)) xp xi xt xn xe xv xb)), (mr 5, .inl (kI, 3002, .inl (upd fk tk kd))), (mr 6, .inl (kI, 3002, .inl (upd fa tk x))), (mr 7, .inl (kI, 3002, .inl (upd fe tk y))), (mr 8, .inl (kL, 3002, .inr (.inl l1)))] := hD
  have hP9 := hP.sub (ws' := [(m9, .inr (23, mA mr mv vf xl (nI zs) xf xa (nI (tk + 1)) xp xi xt xn xe xv xb)), (mr 5, .inl (kI, 3002, .inl (upd fk tk kd))), (mr 6, .inl (kI, 3002, .inl (upd fa tk x))), (mr 7, .inl (kI, 3002, .inl (upd fe tk y))), (mr 8, .inl (kL, 3002, .inr (.inl l1)))]) [0, 1, 2, 3, 4] rfl
  have hD9 := hD.sub (ws' := [(m9, .inr (23, mA mr mv vf xl (nI zs) xf xa (nI (tk + 1)) xp xi xt xn xe xv xb)), (mr 5, .inl (kI, 3002, .inl (upd fk tk kd))), (mr 6, .inl (kI, 3002, .inl (upd fa tk x))), (mr 7, .inl (kI, 3002, .inl (upd fe tk y))), (mr 8, .inl (kL, 3002, .inr (.inl l1)))]) [0, 1, 2, 3, 4] (by decide) rfl
  have hK9 := hK.sub (tys' := [(kI, .int), (kL, .long)]) [0, 1] rfl
  exact W.vret hx hb hr (fun tS ht hW => ⟨⟨(), rfl, trivial, l1, by rw [ht]; exact hP9, va_K.moved hW.alike hK9, hD9⟩, hS.F ht⟩) hS.2.2 dX23_addToken_51
