def wf_c_addShape : List Cond := [.code yX10_addShape cX10_addShape 4 (some .int), .fieldLink RX10 55 "OwnedPlaces$Types" "shapes" "I", .fieldLink RX10 34 "OwnedPlaces$Types" "shapeToken" "[I", .fieldLink RX10 37 "OwnedPlaces$Types" "variants" "[I", .fieldLink RX10 9 "OwnedPlaces$Types" "kind" "[I"]
def wp_c_addShape : List Cond := wf_c_addShape ++ (wsX100 ++ [])
theorem in_c_addShape_X10 : ∀ w ∈ wsX100, w ∈ wp_c_addShape := fun w h => List.mem_append_right _ (List.mem_append_left _ h)
theorem wg_c_addShape : wf_c_addShape.all goodWord = true := by decide +kernel
theorem wm_c_addShape (k : Nat) {w : Cond} (h : wp_c_addShape[k]? = some w) : w ∈ wp_c_addShape := List.mem_of_getElem? h
set_option maxHeartbeats 4000000 in
set_option maxRecDepth 100000 in
theorem c_addShape (l : Launch) (dC : Nat → ClassId) (dI : Nat → Nat → Nat) (y y0 y1 y2 y3 y4 y5 y6 y7 y8 y9 y10 y11 y12 y13 : Nat) (yt yp : Nat) (kI : ClassId) (fst fv fk : Nat → Int32) (x1 x2 : Int32) (sz : Nat) (hyp : yp < 30) : Met l yX10_addShape wp_c_addShape ({ frames := 0, cells := 0, slots := 0, locals := 0 }) (va_Pc [.ref y, .int x1, .int x2] (fun U => U.heap.size = sz ∧ va_P (dC, dI) vwCl [(y, .inr (10, [.ref y0, .ref y1, .ref y2, .ref y3, .ref y4, .ref y5, .ref y6, .int (nI yt), .int (nI yp), .ref y7, .ref y8, .ref y9, .ref y10, .ref y11, .ref y12, .ref y13])), (y7, .inl (kI, 30, .inl fst)), (y8, .inl (kI, 30, .inl fv)), (y0, .inl (kI, 3040, .inl fk))] U.heap ∧ va_K (dC, dI) vwCl [(kI, .int)] U ∧ va_D (fun _ => True) [(y, .inr (10, [.ref y0, .ref y1, .ref y2, .ref y3, .ref y4, .ref y5, .ref y6, .int (nI yt), .int (nI yp), .ref y7, .ref y8, .ref y9, .ref y10, .ref y11, .ref y12, .ref y13])), (y7, .inl (kI, 30, .inl fst)), (y8, .inl (kI, 30, .inl fv)), (y0, .inl (kI, 3040, .inl fk))])) (va_Qi (fun (r : Int32) (_ : Unit) => r = nI yp) (fun (_ : Unit) (tS : State) => ∃ (gst : Nat → Int32) (gv : Nat → Int32) (gk : Nat → Int32), (gst = upd fst yp x1) ∧ (gv = upd fv yp 0) ∧ (gk = upd fk (4 + yp) x2) ∧ va_P (dC, dI) vwCl [(y, .inr (10, [.ref y0, .ref y1, .ref y2, .ref y3, .ref y4, .ref y5, .ref y6, .int (nI yt), .int (nI (yp + 1)), .ref y7, .ref y8, .ref y9, .ref y10, .ref y11, .ref y12, .ref y13])), (y7, .inl (kI, 30, .inl gst)), (y8, .inl (kI, 30, .inl gv)), (y0, .inl (kI, 3040, .inl gk))] tS.heap ∧ va_K (dC, dI) vwCl [(kI, .int)] tS ∧ va_D (va_A [(y, .inr (10, [.ref y0, .ref y1, .ref y2, .ref y3, .ref y4, .ref y5, .ref y6, .int (nI yt), .int (nI yp), .ref y7, .ref y8, .ref y9, .ref y10, .ref y11, .ref y12, .ref y13])), (y7, .inl (kI, 30, .inl fst)), (y8, .inl (kI, 30, .inl fv)), (y0, .inl (kI, 3040, .inl fk))] sz) [(y, .inr (10, [.ref y0, .ref y1, .ref y2, .ref y3, .ref y4, .ref y5, .ref y6, .int (nI yt), .int (nI (yp + 1)), .ref y7, .ref y8, .ref y9, .ref y10, .ref y11, .ref y12, .ref y13])), (y7, .inl (kI, 30, .inl gst)), (y8, .inl (kI, 30, .inl gv)), (y0, .inl (kI, 3040, .inl gk))]) (va_A [(y, .inr (10, [.ref y0, .ref y1, .ref y2, .ref y3, .ref y4, .ref y5, .ref y6, .int (nI yt), .int (nI yp), .ref y7, .ref y8, .ref y9, .ref y10, .ref y11, .ref y12, .ref y13])), (y7, .inl (kI, 30, .inl fst)), (y8, .inl (kI, 30, .inl fv)), (y0, .inl (kI, 3040, .inl fk))] sz)) 0 0 (va_A [(y, .inr (10, [.ref y0, .ref y1, .ref y2, .ref y3, .ref y4, .ref y5, .ref y6, .int (nI yt), .int (nI yp), .ref y7, .ref y8, .ref y9, .ref y10, .ref y11, .ref y12, .ref y13])), (y7, .inl (kI, 30, .inl fst)), (y8, .inl (kI, 30, .inl fv)), (y0, .inl (kI, 3040, .inl fk))] sz) := by
  refine Met.ofW (cc := cX10_addShape) (maxL := 4) (ret := (some .int)) (by decide) rfl ?_
  intro p e s m args below meth c s₁ B hml hv
  obtain ⟨rfl, hsz, hP, hK, hD0⟩ := hv
  have hx := B.exec
  have hb := B.bytes
  have hr := B.returns
  have hts := atoms_spec (ws := wp_c_addShape) B.pre
  have hown : s.vm.findClass RX10 = some m.cls := findClass_of_methodNamed B.named
  have hlocks := B.notSynchronized
  subst hsz
  have hD := hD0.self (sz := s.heap.size)
  generalize hAe : va_A [(y, .inr (10, [.ref y0, .ref y1, .ref y2, .ref y3, .ref y4, .ref y5, .ref y6, .int (nI yt), .int (nI yp), .ref y7, .ref y8, .ref y9, .ref y10, .ref y11, .ref y12, .ref y13])), (y7, .inl (kI, 30, .inl fst)), (y8, .inl (kI, 30, .inl fv)), (y0, .inl (kI, 3040, .inl fk))] s.heap.size = A at hD ⊢
  have hA : ∀ q : Nat, s.heap.size ≤ q → A q := fun q h => by rw [← hAe]; exact Or.inr h
  have hS : va_S A s.heap s.heap [] := va_S.rf
  have hP : va_P (dC, dI) vwCl [(y, .inr (10, [.ref y0, .ref y1, .ref y2, .ref y3, .ref y4, .ref y5, .ref y6, .int (nI yt), .int (nI yp), .ref y7, .ref y8, .ref y9, .ref y10, .ref y11, .ref y12, .ref y13])), (y7, .inl (kI, 30, .inl fst)), (y8, .inl (kI, 30, .inl fv)), (y0, .inl (kI, 3040, .inl fk))] s.heap := hP
  have hl := lv_entry ([.ref y, .int x1, .int x2]) (n := 4) (Nat.le_of_ble_eq_true rfl)
  rw [lg_entry_eq]
  generalize (lg_sl ([.ref y, .int x1, .int x2]) ++ List.replicate (4 - (lg_sl ([.ref y, .int x1, .int x2])).length) Slot.unset).toArray = ls at hl ⊢
  have hl : lv_has ls 4 [(0, .ref y), (1, .int x1), (2, .int x2)] := hl
  refine lv_aload_n hx hb dX10_addShape_0 rfl (lv_at hl 0 rfl) ?_
  refine va_get (D := (dC, dI)) (ci := 10) (v := .int (nI yp)) (C := RX10) (T := TX10) (N := 16) hx hb hts in_c_addShape_X10 hown hK hP 0 rfl rfl 8 (by decide) (hts (.fieldLink RX10 55 "OwnedPlaces$Types" "shapes" "I") (wm_c_addShape 1 rfl)) (fun _ h9 => h9) rfl dX10_addShape_1 ?_
  refine lv_istore_n (lv' := [(3, .int (nI yp)), (0, .ref y), (1, .int x1), (2, .int x2)]) hx hb dX10_addShape_4 rfl hl (by decide) rfl (fun ls hl => ?_)
  refine lv_aload_n hx hb dX10_addShape_5 rfl (lv_at hl 1 rfl) ?_
  refine va_get (D := (dC, dI)) (ci := 10) (v := .ref y7) (C := RX10) (T := TX10) (N := 16) hx hb hts in_c_addShape_X10 hown hK hP 0 rfl rfl 9 (by decide) (hts (.fieldLink RX10 34 "OwnedPlaces$Types" "shapeToken" "[I") (wm_c_addShape 2 rfl)) (fun _ h9 => h9) rfl dX10_addShape_6 ?_
  refine lv_iload_n hx hb dX10_addShape_9 rfl (lv_at hl 0 rfl) ?_
  refine lv_iload_n hx hb dX10_addShape_10 rfl (lv_at hl 2 rfl) ?_
  refine va_iast hx hb hK hP hD hS 1 0 rfl rfl (vp_in_nI hyp (by decide)) dX10_addShape_11 (fun H locs hP hD hS => ?_)
  have hP : va_P (dC, dI) vwCl [(y, .inr (10, [.ref y0, .ref y1, .ref y2, .ref y3, .ref y4, .ref y5, .ref y6, .int (nI yt), .int (nI yp), .ref y7, .ref y8, .ref y9, .ref y10, .ref y11, .ref y12, .ref y13])), (y7, .inl (kI, 30, .inl (upd fst (nI yp : Int32).toNatClampNeg x1))), (y8, .inl (kI, 30, .inl fv)), (y0, .inl (kI, 3040, .inl fk))] H := hP
  have hD : va_D A [(y, .inr (10, [.ref y0, .ref y1, .ref y2, .ref y3, .ref y4, .ref y5, .ref y6, .int (nI yt), .int (nI yp), .ref y7, .ref y8, .ref y9, .ref y10, .ref y11, .ref y12, .ref y13])), (y7, .inl (kI, 30, .inl (upd fst (nI yp : Int32).toNatClampNeg x1))), (y8, .inl (kI, 30, .inl fv)), (y0, .inl (kI, 3040, .inl fk))] := hD
  obtain ⟨g1, eg1⟩ : ∃ zZ : Nat → Int32, zZ = upd fst (nI yp : Int32).toNatClampNeg x1 := ⟨_, rfl⟩
  rw [← eg1] at hP hD
  refine lv_aload_n hx hb dX10_addShape_12 rfl (lv_at hl 1 rfl) ?_
  refine va_get (D := (dC, dI)) (ci := 10) (v := .ref y8) (C := RX10) (T := TX10) (N := 16) hx hb hts in_c_addShape_X10 hown hK hP 0 rfl rfl 10 (by decide) (hts (.fieldLink RX10 37 "OwnedPlaces$Types" "variants" "[I") (wm_c_addShape 3 rfl)) (fun _ h9 => h9) rfl dX10_addShape_13 ?_
  refine lv_iload_n hx hb dX10_addShape_16 rfl (lv_at hl 0 rfl) ?_
  refine lv_iconst (v := 0) hx hb dX10_addShape_17 (by decide) ?_
  refine va_iast hx hb hK hP hD hS 2 0 rfl rfl (vp_in_nI hyp (by decide)) dX10_addShape_18 (fun H locs hP hD hS => ?_)
  have hP : va_P (dC, dI) vwCl [(y, .inr (10, [.ref y0, .ref y1, .ref y2, .ref y3, .ref y4, .ref y5, .ref y6, .int (nI yt), .int (nI yp), .ref y7, .ref y8, .ref y9, .ref y10, .ref y11, .ref y12, .ref y13])), (y7, .inl (kI, 30, .inl g1)), (y8, .inl (kI, 30, .inl (upd fv (nI yp : Int32).toNatClampNeg 0))), (y0, .inl (kI, 3040, .inl fk))] H := hP
  have hD : va_D A [(y, .inr (10, [.ref y0, .ref y1, .ref y2, .ref y3, .ref y4, .ref y5, .ref y6, .int (nI yt), .int (nI yp), .ref y7, .ref y8, .ref y9, .ref y10, .ref y11, .ref y12, .ref y13])), (y7, .inl (kI, 30, .inl g1)), (y8, .inl (kI, 30, .inl (upd fv (nI yp : Int32).toNatClampNeg 0))), (y0, .inl (kI, 3040, .inl fk))] := hD
  obtain ⟨g2, eg2⟩ : ∃ zZ : Nat → Int32, zZ = upd fv (nI yp : Int32).toNatClampNeg 0 := ⟨_, rfl⟩
  rw [← eg2] at hP hD
  refine lv_aload_n hx hb dX10_addShape_19 rfl (lv_at hl 1 rfl) ?_
  refine va_get (D := (dC, dI)) (ci := 10) (v := .ref y0) (C := RX10) (T := TX10) (N := 16) hx hb hts in_c_addShape_X10 hown hK hP 0 rfl rfl 0 (by decide) (hts (.fieldLink RX10 9 "OwnedPlaces$Types" "kind" "[I") (wm_c_addShape 4 rfl)) (fun _ h9 => h9) rfl dX10_addShape_20 ?_
  refine lv_iconst (v := 4) hx hb dX10_addShape_23 (by decide) ?_
  refine lv_iload_n hx hb dX10_addShape_24 rfl (lv_at hl 0 rfl) ?_
  refine lv_iadd hx hb dX10_addShape_25 ?_
  refine lv_topi (fun f_1 ef_1 => ?_)
  obtain rfl : f_1 = nI (4 + yp) := ef_1.trans (nI_add 4 yp)
  refine lv_iload_n hx hb dX10_addShape_26 rfl (lv_at hl 3 rfl) ?_
  refine va_iast hx hb hK hP hD hS 3 0 rfl rfl (vp_in_nI (by omega) (by decide)) dX10_addShape_27 (fun H locs hP hD hS => ?_)
  have hP : va_P (dC, dI) vwCl [(y, .inr (10, [.ref y0, .ref y1, .ref y2, .ref y3, .ref y4, .ref y5, .ref y6, .int (nI yt), .int (nI yp), .ref y7, .ref y8, .ref y9, .ref y10, .ref y11, .ref y12, .ref y13])), (y7, .inl (kI, 30, .inl g1)), (y8, .inl (kI, 30, .inl g2)), (y0, .inl (kI, 3040, .inl (upd fk (nI (4 + yp) : Int32).toNatClampNeg x2)))] H := hP
  have hD : va_D A [(y, .inr (10, [.ref y0, .ref y1, .ref y2, .ref y3, .ref y4, .ref y5, .ref y6, .int (nI yt), .int (nI yp), .ref y7, .ref y8, .ref y9, .ref y10, .ref y11, .ref y12, .ref y13])), (y7, .inl (kI, 30, .inl g1)), (y8, .inl (kI, 30, .inl g2)), (y0, .inl (kI, 3040, .inl (upd fk (nI (4 + yp) : Int32).toNatClampNeg x2)))] := hD
  obtain ⟨g3, eg3⟩ : ∃ zZ : Nat → Int32, zZ = upd fk (nI (4 + yp) : Int32).toNatClampNeg x2 := ⟨_, rfl⟩
  rw [← eg3] at hP hD
  refine lv_aload_n hx hb dX10_addShape_28 rfl (lv_at hl 1 rfl) ?_
  refine lv_dup hx hb dX10_addShape_29 rfl ?_
  refine va_get (D := (dC, dI)) (ci := 10) (v := .int (nI yp)) (C := RX10) (T := TX10) (N := 16) hx hb hts in_c_addShape_X10 hown hK hP 0 rfl rfl 8 (by decide) (hts (.fieldLink RX10 55 "OwnedPlaces$Types" "shapes" "I") (wm_c_addShape 1 rfl)) (fun _ h9 => h9) rfl dX10_addShape_30 ?_
  refine lv_iconst (v := 1) hx hb dX10_addShape_33 (by decide) ?_
  refine lv_iadd hx hb dX10_addShape_34 ?_
  refine lv_topi (fun f_2 ef_2 => ?_)
  obtain rfl : f_2 = nI (yp + 1) := ef_2.trans (nI_1 _)
  refine va_put (D := (dC, dI)) (ci := 10) (v := .int (nI (yp + 1))) (ty := .int) (C := RX10) (T := TX10) (N := 16) hx hb hts in_c_addShape_X10 tyX10 tyX10_ok nmX10 hown hK hP hD hS 0 rfl rfl 8 (by decide) (hts (.fieldLink RX10 55 "OwnedPlaces$Types" "shapes" "I") (wm_c_addShape 1 rfl)) (fun _ h9 => h9) rfl (by decide +kernel) rfl rfl (Nat.le_of_ble_eq_true rfl) dX10_addShape_35 (fun H locs hP hD hS => ?_)
  have hP : va_P (dC, dI) vwCl [(y, .inr (10, [.ref y0, .ref y1, .ref y2, .ref y3, .ref y4, .ref y5, .ref y6, .int (nI yt), .int (nI (yp + 1)), .ref y7, .ref y8, .ref y9, .ref y10, .ref y11, .ref y12, .ref y13])), (y7, .inl (kI, 30, .inl g1)), (y8, .inl (kI, 30, .inl g2)), (y0, .inl (kI, 3040, .inl g3))] H := hP
  have hD : va_D A [(y, .inr (10, [.ref y0, .ref y1, .ref y2, .ref y3, .ref y4, .ref y5, .ref y6, .int (nI yt), .int (nI (yp + 1)), .ref y7, .ref y8, .ref y9, .ref y10, .ref y11, .ref y12, .ref y13])), (y7, .inl (kI, 30, .inl g1)), (y8, .inl (kI, 30, .inl g2)), (y0, .inl (kI, 3040, .inl g3))] := hD
  refine lv_iload_n hx hb dX10_addShape_38 rfl (lv_at hl 0 rfl) ?_
  have hP9 := hP.sub (ws' := [(y, .inr (10, [.ref y0, .ref y1, .ref y2, .ref y3, .ref y4, .ref y5, .ref y6, .int (nI yt), .int (nI (yp + 1)), .ref y7, .ref y8, .ref y9, .ref y10, .ref y11, .ref y12, .ref y13])), (y7, .inl (kI, 30, .inl g1)), (y8, .inl (kI, 30, .inl g2)), (y0, .inl (kI, 3040, .inl g3))]) [0, 1, 2, 3] rfl
  have hD9 := hD.sub (ws' := [(y, .inr (10, [.ref y0, .ref y1, .ref y2, .ref y3, .ref y4, .ref y5, .ref y6, .int (nI yt), .int (nI (yp + 1)), .ref y7, .ref y8, .ref y9, .ref y10, .ref y11, .ref y12, .ref y13])), (y7, .inl (kI, 30, .inl g1)), (y8, .inl (kI, 30, .inl g2)), (y0, .inl (kI, 3040, .inl g3))]) [0, 1, 2, 3] (by decide) rfl
  have hK9 := hK.sub (tys' := [(kI, .int)]) [0] rfl
  exact W.iret (v := nI yp) hx hb hr (fun tS ht hW => ⟨⟨(nI yp), (), rfl, rfl, g1, g2, g3, by rw [eg1, nI_clamp (by omega)], by rw [eg2, nI_clamp (by omega)], by rw [eg3, nI_clamp (by omega)], by rw [ht]; exact hP9, va_K.moved hW.alike hK9, hD9⟩, hS.F ht⟩) hS.2.2 dX10_addShape_39
def wf_c_addVariant : List Cond := [.code yX10_addVariant cX10_addVariant 4 (some .int), .fieldLink RX10 37 "OwnedPlaces$Types" "variants" "[I", .fieldLink RX10 40 "OwnedPlaces$Types" "variantName" "[I", .fieldLink RX10 43 "OwnedPlaces$Types" "parts" "[I"]
def wp_c_addVariant : List Cond := wf_c_addVariant ++ (wsX100 ++ [])
theorem in_c_addVariant_X10 : ∀ w ∈ wsX100, w ∈ wp_c_addVariant := fun w h => List.mem_append_right _ (List.mem_append_left _ h)
theorem wg_c_addVariant : wf_c_addVariant.all goodWord = true := by decide +kernel
theorem wm_c_addVariant (k : Nat) {w : Cond} (h : wp_c_addVariant[k]? = some w) : w ∈ wp_c_addVariant := List.mem_of_getElem? h
set_option maxHeartbeats 4000000 in
set_option maxRecDepth 100000 in
theorem c_addVariant (l : Launch) (dC : Nat → ClassId) (dI : Nat → Nat → Nat) (y y0 y1 y2 y3 y4 y5 y6 y7 y8 y9 y10 y11 y12 y13 : Nat) (yt yp : Nat) (a kc : Nat) (kI : ClassId) (fv fvn fpa : Nat → Int32) (x2 : Int32) (sz : Nat) (ha : a < 30) (hkc : kc < 12) (hv : fv a = nI kc) : Met l yX10_addVariant wp_c_addVariant ({ frames := 0, cells := 0, slots := 0, locals := 0 }) (va_Pc [.ref y, .int (nI a), .int x2] (fun U => U.heap.size = sz ∧ va_P (dC, dI) vwCl [(y, .inr (10, [.ref y0, .ref y1, .ref y2, .ref y3, .ref y4, .ref y5, .ref y6, .int (nI yt), .int (nI yp), .ref y7, .ref y8, .ref y9, .ref y10, .ref y11, .ref y12, .ref y13])), (y8, .inl (kI, 30, .inl fv)), (y9, .inl (kI, 360, .inl fvn)), (y10, .inl (kI, 360, .inl fpa))] U.heap ∧ va_K (dC, dI) vwCl [(kI, .int)] U ∧ va_D (fun _ => True) [(y, .inr (10, [.ref y0, .ref y1, .ref y2, .ref y3, .ref y4, .ref y5, .ref y6, .int (nI yt), .int (nI yp), .ref y7, .ref y8, .ref y9, .ref y10, .ref y11, .ref y12, .ref y13])), (y8, .inl (kI, 30, .inl fv)), (y9, .inl (kI, 360, .inl fvn)), (y10, .inl (kI, 360, .inl fpa))])) (va_Qi (fun (r : Int32) (_ : Unit) => r = nI (a * 12 + kc)) (fun (_ : Unit) (tS : State) => ∃ (gv : Nat → Int32) (gvn : Nat → Int32) (gpa : Nat → Int32), (gv = upd fv a (nI (kc + 1))) ∧ (gvn = upd fvn (a * 12 + kc) x2) ∧ (gpa = upd fpa (a * 12 + kc) 0) ∧ va_P (dC, dI) vwCl [(y, .inr (10, [.ref y0, .ref y1, .ref y2, .ref y3, .ref y4, .ref y5, .ref y6, .int (nI yt), .int (nI yp), .ref y7, .ref y8, .ref y9, .ref y10, .ref y11, .ref y12, .ref y13])), (y8, .inl (kI, 30, .inl gv)), (y9, .inl (kI, 360, .inl gvn)), (y10, .inl (kI, 360, .inl gpa))] tS.heap ∧ va_K (dC, dI) vwCl [(kI, .int)] tS ∧ va_D (va_A [(y, .inr (10, [.ref y0, .ref y1, .ref y2, .ref y3, .ref y4, .ref y5, .ref y6, .int (nI yt), .int (nI yp), .ref y7, .ref y8, .ref y9, .ref y10, .ref y11, .ref y12, .ref y13])), (y8, .inl (kI, 30, .inl fv)), (y9, .inl (kI, 360, .inl fvn)), (y10, .inl (kI, 360, .inl fpa))] sz) [(y, .inr (10, [.ref y0, .ref y1, .ref y2, .ref y3, .ref y4, .ref y5, .ref y6, .int (nI yt), .int (nI yp), .ref y7, .ref y8, .ref y9, .ref y10, .ref y11, .ref y12, .ref y13])), (y8, .inl (kI, 30, .inl gv)), (y9, .inl (kI, 360, .inl gvn)), (y10, .inl (kI, 360, .inl gpa))]) (va_A [(y, .inr (10, [.ref y0, .ref y1, .ref y2, .ref y3, .ref y4, .ref y5, .ref y6, .int (nI yt), .int (nI yp), .ref y7, .ref y8, .ref y9, .ref y10, .ref y11, .ref y12, .ref y13])), (y8, .inl (kI, 30, .inl fv)), (y9, .inl (kI, 360, .inl fvn)), (y10, .inl (kI, 360, .inl fpa))] sz)) 0 0 (va_A [(y, .inr (10, [.ref y0, .ref y1, .ref y2, .ref y3, .ref y4, .ref y5, .ref y6, .int (nI yt), .int (nI yp), .ref y7, .ref y8, .ref y9, .ref y10, .ref y11, .ref y12, .ref y13])), (y8, .inl (kI, 30, .inl fv)), (y9, .inl (kI, 360, .inl fvn)), (y10, .inl (kI, 360, .inl fpa))] sz) := by
  refine Met.ofW (cc := cX10_addVariant) (maxL := 4) (ret := (some .int)) (by decide) rfl ?_
  intro p e s m args below meth c s₁ B hml hv
  obtain ⟨rfl, hsz, hP, hK, hD0⟩ := hv
  have hx := B.exec
  have hb := B.bytes
  have hr := B.returns
  have hts := atoms_spec (ws := wp_c_addVariant) B.pre
  have hown : s.vm.findClass RX10 = some m.cls := findClass_of_methodNamed B.named
  have hlocks := B.notSynchronized
  subst hsz
  have hD := hD0.self (sz := s.heap.size)
  generalize hAe : va_A [(y, .inr (10, [.ref y0, .ref y1, .ref y2, .ref y3, .ref y4, .ref y5, .ref y6, .int (nI yt), .int (nI yp), .ref y7, .ref y8, .ref y9, .ref y10, .ref y11, .ref y12, .ref y13])), (y8, .inl (kI, 30, .inl fv)), (y9, .inl (kI, 360, .inl fvn)), (y10, .inl (kI, 360, .inl fpa))] s.heap.size = A at hD ⊢
  have hA : ∀ q : Nat, s.heap.size ≤ q → A q := fun q h => by rw [← hAe]; exact Or.inr h
  have hS : va_S A s.heap s.heap [] := va_S.rf
  have hP : va_P (dC, dI) vwCl [(y, .inr (10, [.ref y0, .ref y1, .ref y2, .ref y3, .ref y4, .ref y5, .ref y6, .int (nI yt), .int (nI yp), .ref y7, .ref y8, .ref y9, .ref y10, .ref y11, .ref y12, .ref y13])), (y8, .inl (kI, 30, .inl fv)), (y9, .inl (kI, 360, .inl fvn)), (y10, .inl (kI, 360, .inl fpa))] s.heap := hP
  have hl := lv_entry ([.ref y, .int (nI a), .int x2]) (n := 4) (Nat.le_of_ble_eq_true rfl)
  rw [lg_entry_eq]
  generalize (lg_sl ([.ref y, .int (nI a), .int x2]) ++ List.replicate (4 - (lg_sl ([.ref y, .int (nI a), .int x2])).length) Slot.unset).toArray = ls at hl ⊢
  have hl : lv_has ls 4 [(0, .ref y), (1, .int (nI a)), (2, .int x2)] := hl
  refine lv_iload_n hx hb dX10_addVariant_0 rfl (lv_at hl 1 rfl) ?_
  refine lv_bipush (v := 12) hx hb dX10_addVariant_1 (by decide) ?_
  refine lv_imul hx hb dX10_addVariant_3 ?_
  refine lv_topi (fun f_1 ef_1 => ?_)
  obtain rfl : f_1 = nI (a * 12) := ef_1.trans (pk_mul a 12)
  refine lv_aload_n hx hb dX10_addVariant_4 rfl (lv_at hl 0 rfl) ?_
  refine va_get (D := (dC, dI)) (ci := 10) (v := .ref y8) (C := RX10) (T := TX10) (N := 16) hx hb hts in_c_addVariant_X10 hown hK hP 0 rfl rfl 10 (by decide) (hts (.fieldLink RX10 37 "OwnedPlaces$Types" "variants" "[I") (wm_c_addVariant 1 rfl)) (fun _ h9 => h9) rfl dX10_addVariant_5 ?_
  refine lv_iload_n hx hb dX10_addVariant_8 rfl (lv_at hl 1 rfl) ?_
  refine va_iald hx hb hK hP 1 0 rfl rfl (vp_in_nI (by omega) (by decide)) dX10_addVariant_9 ?_
  refine lv_topi (fun v_2 ev_2 => ?_)
  have hv_2 : v_2 = fv a := ev_2.trans (by rw [nI_clamp (by omega)])
  obtain rfl : v_2 = nI kc := hv_2.trans hv
  refine lv_iadd hx hb dX10_addVariant_10 ?_
  refine lv_topi (fun f_3 ef_3 => ?_)
  obtain rfl : f_3 = nI (a * 12 + kc) := ef_3.trans (nI_add _ _)
  refine lv_istore_n (lv' := [(3, .int (nI (a * 12 + kc))), (0, .ref y), (1, .int (nI a)), (2, .int x2)]) hx hb dX10_addVariant_11 rfl hl (by decide) rfl (fun ls hl => ?_)
  refine lv_aload_n hx hb dX10_addVariant_12 rfl (lv_at hl 1 rfl) ?_
  refine va_get (D := (dC, dI)) (ci := 10) (v := .ref y9) (C := RX10) (T := TX10) (N := 16) hx hb hts in_c_addVariant_X10 hown hK hP 0 rfl rfl 11 (by decide) (hts (.fieldLink RX10 40 "OwnedPlaces$Types" "variantName" "[I") (wm_c_addVariant 2 rfl)) (fun _ h9 => h9) rfl dX10_addVariant_13 ?_
  refine lv_iload_n hx hb dX10_addVariant_16 rfl (lv_at hl 0 rfl) ?_
  refine lv_iload_n hx hb dX10_addVariant_17 rfl (lv_at hl 3 rfl) ?_
  refine va_iast hx hb hK hP hD hS 2 0 rfl rfl (vp_in_nI (by omega) (by decide)) dX10_addVariant_18 (fun H locs hP hD hS => ?_)
  have hP : va_P (dC, dI) vwCl [(y, .inr (10, [.ref y0, .ref y1, .ref y2, .ref y3, .ref y4, .ref y5, .ref y6, .int (nI yt), .int (nI yp), .ref y7, .ref y8, .ref y9, .ref y10, .ref y11, .ref y12, .ref y13])), (y8, .inl (kI, 30, .inl fv)), (y9, .inl (kI, 360, .inl (upd fvn (nI (a * 12 + kc) : Int32).toNatClampNeg x2))), (y10, .inl (kI, 360, .inl fpa))] H := hP
  have hD : va_D A [(y, .inr (10, [.ref y0, .ref y1, .ref y2, .ref y3, .ref y4, .ref y5, .ref y6, .int (nI yt), .int (nI yp), .ref y7, .ref y8, .ref y9, .ref y10, .ref y11, .ref y12, .ref y13])), (y8, .inl (kI, 30, .inl fv)), (y9, .inl (kI, 360, .inl (upd fvn (nI (a * 12 + kc) : Int32).toNatClampNeg x2))), (y10, .inl (kI, 360, .inl fpa))] := hD
  obtain ⟨g1, eg1⟩ : ∃ zZ : Nat → Int32, zZ = upd fvn (nI (a * 12 + kc) : Int32).toNatClampNeg x2 := ⟨_, rfl⟩
  rw [← eg1] at hP hD
  refine lv_aload_n hx hb dX10_addVariant_19 rfl (lv_at hl 1 rfl) ?_
  refine va_get (D := (dC, dI)) (ci := 10) (v := .ref y10) (C := RX10) (T := TX10) (N := 16) hx hb hts in_c_addVariant_X10 hown hK hP 0 rfl rfl 12 (by decide) (hts (.fieldLink RX10 43 "OwnedPlaces$Types" "parts" "[I") (wm_c_addVariant 3 rfl)) (fun _ h9 => h9) rfl dX10_addVariant_20 ?_
  refine lv_iload_n hx hb dX10_addVariant_23 rfl (lv_at hl 0 rfl) ?_
  refine lv_iconst (v := 0) hx hb dX10_addVariant_24 (by decide) ?_
  refine va_iast hx hb hK hP hD hS 3 0 rfl rfl (vp_in_nI (by omega) (by decide)) dX10_addVariant_25 (fun H locs hP hD hS => ?_)
  have hP : va_P (dC, dI) vwCl [(y, .inr (10, [.ref y0, .ref y1, .ref y2, .ref y3, .ref y4, .ref y5, .ref y6, .int (nI yt), .int (nI yp), .ref y7, .ref y8, .ref y9, .ref y10, .ref y11, .ref y12, .ref y13])), (y8, .inl (kI, 30, .inl fv)), (y9, .inl (kI, 360, .inl g1)), (y10, .inl (kI, 360, .inl (upd fpa (nI (a * 12 + kc) : Int32).toNatClampNeg 0)))] H := hP
  have hD : va_D A [(y, .inr (10, [.ref y0, .ref y1, .ref y2, .ref y3, .ref y4, .ref y5, .ref y6, .int (nI yt), .int (nI yp), .ref y7, .ref y8, .ref y9, .ref y10, .ref y11, .ref y12, .ref y13])), (y8, .inl (kI, 30, .inl fv)), (y9, .inl (kI, 360, .inl g1)), (y10, .inl (kI, 360, .inl (upd fpa (nI (a * 12 + kc) : Int32).toNatClampNeg 0)))] := hD
  obtain ⟨g2, eg2⟩ : ∃ zZ : Nat → Int32, zZ = upd fpa (nI (a * 12 + kc) : Int32).toNatClampNeg 0 := ⟨_, rfl⟩
  rw [← eg2] at hP hD
  refine lv_aload_n hx hb dX10_addVariant_26 rfl (lv_at hl 1 rfl) ?_
  refine va_get (D := (dC, dI)) (ci := 10) (v := .ref y8) (C := RX10) (T := TX10) (N := 16) hx hb hts in_c_addVariant_X10 hown hK hP 0 rfl rfl 10 (by decide) (hts (.fieldLink RX10 37 "OwnedPlaces$Types" "variants" "[I") (wm_c_addVariant 1 rfl)) (fun _ h9 => h9) rfl dX10_addVariant_27 ?_
  refine lv_iload_n hx hb dX10_addVariant_30 rfl (lv_at hl 2 rfl) ?_
  refine lv_dup2_11 hx hb dX10_addVariant_31 rfl rfl ?_
  refine va_iald hx hb hK hP 1 0 rfl rfl (vp_in_nI (by omega) (by decide)) dX10_addVariant_32 ?_
  refine lv_topi (fun v_4 ev_4 => ?_)
  have hv_4 : v_4 = fv a := ev_4.trans (by rw [nI_clamp (by omega)])
  obtain rfl : v_4 = nI kc := hv_4.trans hv
  refine lv_iconst (v := 1) hx hb dX10_addVariant_33 (by decide) ?_
  refine lv_iadd hx hb dX10_addVariant_34 ?_
  refine lv_topi (fun f_5 ef_5 => ?_)
  obtain rfl : f_5 = nI (kc + 1) := ef_5.trans (nI_1 _)
  refine va_iast hx hb hK hP hD hS 1 0 rfl rfl (vp_in_nI ha (by decide)) dX10_addVariant_35 (fun H locs hP hD hS => ?_)
  have hP : va_P (dC, dI) vwCl [(y, .inr (10, [.ref y0, .ref y1, .ref y2, .ref y3, .ref y4, .ref y5, .ref y6, .int (nI yt), .int (nI yp), .ref y7, .ref y8, .ref y9, .ref y10, .ref y11, .ref y12, .ref y13])), (y8, .inl (kI, 30, .inl (upd fv (nI a : Int32).toNatClampNeg (nI (kc + 1))))), (y9, .inl (kI, 360, .inl g1)), (y10, .inl (kI, 360, .inl g2))] H := hP
  have hD : va_D A [(y, .inr (10, [.ref y0, .ref y1, .ref y2, .ref y3, .ref y4, .ref y5, .ref y6, .int (nI yt), .int (nI yp), .ref y7, .ref y8, .ref y9, .ref y10, .ref y11, .ref y12, .ref y13])), (y8, .inl (kI, 30, .inl (upd fv (nI a : Int32).toNatClampNeg (nI (kc + 1))))), (y9, .inl (kI, 360, .inl g1)), (y10, .inl (kI, 360, .inl g2))] := hD
  obtain ⟨g3, eg3⟩ : ∃ zZ : Nat → Int32, zZ = upd fv (nI a : Int32).toNatClampNeg (nI (kc + 1)) := ⟨_, rfl⟩
  rw [← eg3] at hP hD
  refine lv_iload_n hx hb dX10_addVariant_36 rfl (lv_at hl 0 rfl) ?_
  have hP9 := hP.sub (ws' := [(y, .inr (10, [.ref y0, .ref y1, .ref y2, .ref y3, .ref y4, .ref y5, .ref y6, .int (nI yt), .int (nI yp), .ref y7, .ref y8, .ref y9, .ref y10, .ref y11, .ref y12, .ref y13])), (y8, .inl (kI, 30, .inl g3)), (y9, .inl (kI, 360, .inl g1)), (y10, .inl (kI, 360, .inl g2))]) [0, 1, 2, 3] rfl
  have hD9 := hD.sub (ws' := [(y, .inr (10, [.ref y0, .ref y1, .ref y2, .ref y3, .ref y4, .ref y5, .ref y6, .int (nI yt), .int (nI yp), .ref y7, .ref y8, .ref y9, .ref y10, .ref y11, .ref y12, .ref y13])), (y8, .inl (kI, 30, .inl g3)), (y9, .inl (kI, 360, .inl g1)), (y10, .inl (kI, 360, .inl g2))]) [0, 1, 2, 3] (by decide) rfl
  have hK9 := hK.sub (tys' := [(kI, .int)]) [0] rfl
  exact W.iret (v := nI (a * 12 + kc)) hx hb hr (fun tS ht hW => ⟨⟨(nI (a * 12 + kc)), (), rfl, rfl, g3, g1, g2, by rw [eg3, nI_clamp (by omega)], by rw [eg1, nI_clamp (by omega)], by rw [eg2, nI_clamp (by omega)], by rw [ht]; exact hP9, va_K.moved hW.alike hK9, hD9⟩, hS.F ht⟩) hS.2.2 dX10_addVariant_37
def wf_c_addPart : List Cond := [.code yX10_addPart cX10_addPart 5 none, .fieldLink RX10 43 "OwnedPlaces$Types" "parts" "[I", .fieldLink RX10 46 "OwnedPlaces$Types" "partName" "[I", .fieldLink RX10 49 "OwnedPlaces$Types" "partType" "[I"]
def wp_c_addPart : List Cond := wf_c_addPart ++ (wsX100 ++ [])
theorem in_c_addPart_X10 : ∀ w ∈ wsX100, w ∈ wp_c_addPart := fun w h => List.mem_append_right _ (List.mem_append_left _ h)
theorem wg_c_addPart : wf_c_addPart.all goodWord = true := by decide +kernel
theorem wm_c_addPart (k : Nat) {w : Cond} (h : wp_c_addPart[k]? = some w) : w ∈ wp_c_addPart := List.mem_of_getElem? h
set_option maxHeartbeats 4000000 in
set_option maxRecDepth 100000 in
theorem c_addPart (l : Launch) (dC : Nat → ClassId) (dI : Nat → Nat → Nat) (y y0 y1 y2 y3 y4 y5 y6 y7 y8 y9 y10 y11 y12 y13 : Nat) (yt yp : Nat) (a kc : Nat) (kI : ClassId) (fpa fpn fpt : Nat → Int32) (x2 x3 : Int32) (sz : Nat) (ha : a < 360) (hkc : kc < 12) (hv : fpa a = nI kc) : Met l yX10_addPart wp_c_addPart ({ frames := 0, cells := 0, slots := 0, locals := 0 }) (va_Pc [.ref y, .int (nI a), .int x2, .int x3] (fun U => U.heap.size = sz ∧ va_P (dC, dI) vwCl [(y, .inr (10, [.ref y0, .ref y1, .ref y2, .ref y3, .ref y4, .ref y5, .ref y6, .int (nI yt), .int (nI yp), .ref y7, .ref y8, .ref y9, .ref y10, .ref y11, .ref y12, .ref y13])), (y10, .inl (kI, 360, .inl fpa)), (y11, .inl (kI, 4320, .inl fpn)), (y12, .inl (kI, 4320, .inl fpt))] U.heap ∧ va_K (dC, dI) vwCl [(kI, .int)] U ∧ va_D (fun _ => True) [(y, .inr (10, [.ref y0, .ref y1, .ref y2, .ref y3, .ref y4, .ref y5, .ref y6, .int (nI yt), .int (nI yp), .ref y7, .ref y8, .ref y9, .ref y10, .ref y11, .ref y12, .ref y13])), (y10, .inl (kI, 360, .inl fpa)), (y11, .inl (kI, 4320, .inl fpn)), (y12, .inl (kI, 4320, .inl fpt))])) (va_Qv (fun _ : Unit => True) (fun (_ : Unit) (tS : State) => ∃ (gpa : Nat → Int32) (gpn : Nat → Int32) (gpt : Nat → Int32), (gpa = upd fpa a (nI (kc + 1))) ∧ (gpn = upd fpn (a * 12 + kc) x2) ∧ (gpt = upd fpt (a * 12 + kc) x3) ∧ va_P (dC, dI) vwCl [(y, .inr (10, [.ref y0, .ref y1, .ref y2, .ref y3, .ref y4, .ref y5, .ref y6, .int (nI yt), .int (nI yp), .ref y7, .ref y8, .ref y9, .ref y10, .ref y11, .ref y12, .ref y13])), (y10, .inl (kI, 360, .inl gpa)), (y11, .inl (kI, 4320, .inl gpn)), (y12, .inl (kI, 4320, .inl gpt))] tS.heap ∧ va_K (dC, dI) vwCl [(kI, .int)] tS ∧ va_D (va_A [(y, .inr (10, [.ref y0, .ref y1, .ref y2, .ref y3, .ref y4, .ref y5, .ref y6, .int (nI yt), .int (nI yp), .ref y7, .ref y8, .ref y9, .ref y10, .ref y11, .ref y12, .ref y13])), (y10, .inl (kI, 360, .inl fpa)), (y11, .inl (kI, 4320, .inl fpn)), (y12, .inl (kI, 4320, .inl fpt))] sz) [(y, .inr (10, [.ref y0, .ref y1, .ref y2, .ref y3, .ref y4, .ref y5, .ref y6, .int (nI yt), .int (nI yp), .ref y7, .ref y8, .ref y9, .ref y10, .ref y11, .ref y12, .ref y13])), (y10, .inl (kI, 360, .inl gpa)), (y11, .inl (kI, 4320, .inl gpn)), (y12, .inl (kI, 4320, .inl gpt))]) (va_A [(y, .inr (10, [.ref y0, .ref y1, .ref y2, .ref y3, .ref y4, .ref y5, .ref y6, .int (nI yt), .int (nI yp), .ref y7, .ref y8, .ref y9, .ref y10, .ref y11, .ref y12, .ref y13])), (y10, .inl (kI, 360, .inl fpa)), (y11, .inl (kI, 4320, .inl fpn)), (y12, .inl (kI, 4320, .inl fpt))] sz)) 0 0 (va_A [(y, .inr (10, [.ref y0, .ref y1, .ref y2, .ref y3, .ref y4, .ref y5, .ref y6, .int (nI yt), .int (nI yp), .ref y7, .ref y8, .ref y9, .ref y10, .ref y11, .ref y12, .ref y13])), (y10, .inl (kI, 360, .inl fpa)), (y11, .inl (kI, 4320, .inl fpn)), (y12, .inl (kI, 4320, .inl fpt))] sz) := by
  refine Met.ofW (cc := cX10_addPart) (maxL := 5) (ret := none) (by decide) rfl ?_
  intro p e s m args below meth c s₁ B hml hv
  obtain ⟨rfl, hsz, hP, hK, hD0⟩ := hv
  have hx := B.exec
  have hb := B.bytes
  have hr := B.returns
  have hts := atoms_spec (ws := wp_c_addPart) B.pre
  have hown : s.vm.findClass RX10 = some m.cls := findClass_of_methodNamed B.named
  have hlocks := B.notSynchronized
  subst hsz
  have hD := hD0.self (sz := s.heap.size)
  generalize hAe : va_A [(y, .inr (10, [.ref y0, .ref y1, .ref y2, .ref y3, .ref y4, .ref y5, .ref y6, .int (nI yt), .int (nI yp), .ref y7, .ref y8, .ref y9, .ref y10, .ref y11, .ref y12, .ref y13])), (y10, .inl (kI, 360, .inl fpa)), (y11, .inl (kI, 4320, .inl fpn)), (y12, .inl (kI, 4320, .inl fpt))] s.heap.size = A at hD ⊢
  have hA : ∀ q : Nat, s.heap.size ≤ q → A q := fun q h => by rw [← hAe]; exact Or.inr h
  have hS : va_S A s.heap s.heap [] := va_S.rf
  have hP : va_P (dC, dI) vwCl [(y, .inr (10, [.ref y0, .ref y1, .ref y2, .ref y3, .ref y4, .ref y5, .ref y6, .int (nI yt), .int (nI yp), .ref y7, .ref y8, .ref y9, .ref y10, .ref y11, .ref y12, .ref y13])), (y10, .inl (kI, 360, .inl fpa)), (y11, .inl (kI, 4320, .inl fpn)), (y12, .inl (kI, 4320, .inl fpt))] s.heap := hP
  have hl := lv_entry ([.ref y, .int (nI a), .int x2, .int x3]) (n := 5) (Nat.le_of_ble_eq_true rfl)
  rw [lg_entry_eq]
  generalize (lg_sl ([.ref y, .int (nI a), .int x2, .int x3]) ++ List.replicate (5 - (lg_sl ([.ref y, .int (nI a), .int x2, .int x3])).length) Slot.unset).toArray = ls at hl ⊢
  have hl : lv_has ls 5 [(0, .ref y), (1, .int (nI a)), (2, .int x2), (3, .int x3)] := hl
  refine lv_iload_n hx hb dX10_addPart_0 rfl (lv_at hl 1 rfl) ?_
  refine lv_bipush (v := 12) hx hb dX10_addPart_1 (by decide) ?_
  refine lv_imul hx hb dX10_addPart_3 ?_
  refine lv_topi (fun f_1 ef_1 => ?_)
  obtain rfl : f_1 = nI (a * 12) := ef_1.trans (pk_mul a 12)
  refine lv_aload_n hx hb dX10_addPart_4 rfl (lv_at hl 0 rfl) ?_
  refine va_get (D := (dC, dI)) (ci := 10) (v := .ref y10) (C := RX10) (T := TX10) (N := 16) hx hb hts in_c_addPart_X10 hown hK hP 0 rfl rfl 12 (by decide) (hts (.fieldLink RX10 43 "OwnedPlaces$Types" "parts" "[I") (wm_c_addPart 1 rfl)) (fun _ h9 => h9) rfl dX10_addPart_5 ?_
  refine lv_iload_n hx hb dX10_addPart_8 rfl (lv_at hl 1 rfl) ?_
  refine va_iald hx hb hK hP 1 0 rfl rfl (vp_in_nI (by omega) (by decide)) dX10_addPart_9 ?_
  refine lv_topi (fun v_2 ev_2 => ?_)
  have hv_2 : v_2 = fpa a := ev_2.trans (by rw [nI_clamp (by omega)])
  obtain rfl : v_2 = nI kc := hv_2.trans hv
  refine lv_iadd hx hb dX10_addPart_10 ?_
  refine lv_topi (fun f_3 ef_3 => ?_)
  obtain rfl : f_3 = nI (a * 12 + kc) := ef_3.trans (nI_add _ _)
  refine lv_istore (lv' := [(4, .int (nI (a * 12 + kc))), (0, .ref y), (1, .int (nI a)), (2, .int x2), (3, .int x3)]) hx hb dX10_addPart_11 hl (by decide) rfl (fun ls hl => ?_)
  refine lv_aload_n hx hb dX10_addPart_13 rfl (lv_at hl 1 rfl) ?_
  refine va_get (D := (dC, dI)) (ci := 10) (v := .ref y11) (C := RX10) (T := TX10) (N := 16) hx hb hts in_c_addPart_X10 hown hK hP 0 rfl rfl 13 (by decide) (hts (.fieldLink RX10 46 "OwnedPlaces$Types" "partName" "[I") (wm_c_addPart 2 rfl)) (fun _ h9 => h9) rfl dX10_addPart_14 ?_
  refine lv_iload hx hb dX10_addPart_17 (lv_at hl 0 rfl) ?_
  refine lv_iload_n hx hb dX10_addPart_19 rfl (lv_at hl 3 rfl) ?_
  refine va_iast hx hb hK hP hD hS 2 0 rfl rfl (vp_in_nI (by omega) (by decide)) dX10_addPart_20 (fun H locs hP hD hS => ?_)
  have hP : va_P (dC, dI) vwCl [(y, .inr (10, [.ref y0, .ref y1, .ref y2, .ref y3, .ref y4, .ref y5, .ref y6, .int (nI yt), .int (nI yp), .ref y7, .ref y8, .ref y9, .ref y10, .ref y11, .ref y12, .ref y13])), (y10, .inl (kI, 360, .inl fpa)), (y11, .inl (kI, 4320, .inl (upd fpn (nI (a * 12 + kc) : Int32).toNatClampNeg x2))), (y12, .inl (kI, 4320, .inl fpt))] H := hP
  have hD : va_D A [(y, .inr (10, [.ref y0, .ref y1, .ref y2, .ref y3, .ref y4, .ref y5, .ref y6, .int (nI yt), .int (nI yp), .ref y7, .ref y8, .ref y9, .ref y10, .ref y11, .ref y12, .ref y13])), (y10, .inl (kI, 360, .inl fpa)), (y11, .inl (kI, 4320, .inl (upd fpn (nI (a * 12 + kc) : Int32).toNatClampNeg x2))), (y12, .inl (kI, 4320, .inl fpt))] := hD
  obtain ⟨g1, eg1⟩ : ∃ zZ : Nat → Int32, zZ = upd fpn (nI (a * 12 + kc) : Int32).toNatClampNeg x2 := ⟨_, rfl⟩
  rw [← eg1] at hP hD
  refine lv_aload_n hx hb dX10_addPart_21 rfl (lv_at hl 1 rfl) ?_
  refine va_get (D := (dC, dI)) (ci := 10) (v := .ref y12) (C := RX10) (T := TX10) (N := 16) hx hb hts in_c_addPart_X10 hown hK hP 0 rfl rfl 14 (by decide) (hts (.fieldLink RX10 49 "OwnedPlaces$Types" "partType" "[I") (wm_c_addPart 3 rfl)) (fun _ h9 => h9) rfl dX10_addPart_22 ?_
  refine lv_iload hx hb dX10_addPart_25 (lv_at hl 0 rfl) ?_
  refine lv_iload_n hx hb dX10_addPart_27 rfl (lv_at hl 4 rfl) ?_
  refine va_iast hx hb hK hP hD hS 3 0 rfl rfl (vp_in_nI (by omega) (by decide)) dX10_addPart_28 (fun H locs hP hD hS => ?_)
  have hP : va_P (dC, dI) vwCl [(y, .inr (10, [.ref y0, .ref y1, .ref y2, .ref y3, .ref y4, .ref y5, .ref y6, .int (nI yt), .int (nI yp), .ref y7, .ref y8, .ref y9, .ref y10, .ref y11, .ref y12, .ref y13])), (y10, .inl (kI, 360, .inl fpa)), (y11, .inl (kI, 4320, .inl g1)), (y12, .inl (kI, 4320, .inl (upd fpt (nI (a * 12 + kc) : Int32).toNatClampNeg x3)))] H := hP
  have hD : va_D A [(y, .inr (10, [.ref y0, .ref y1, .ref y2, .ref y3, .ref y4, .ref y5, .ref y6, .int (nI yt), .int (nI yp), .ref y7, .ref y8, .ref y9, .ref y10, .ref y11, .ref y12, .ref y13])), (y10, .inl (kI, 360, .inl fpa)), (y11, .inl (kI, 4320, .inl g1)), (y12, .inl (kI, 4320, .inl (upd fpt (nI (a * 12 + kc) : Int32).toNatClampNeg x3)))] := hD
  obtain ⟨g2, eg2⟩ : ∃ zZ : Nat → Int32, zZ = upd fpt (nI (a * 12 + kc) : Int32).toNatClampNeg x3 := ⟨_, rfl⟩
  rw [← eg2] at hP hD
  refine lv_aload_n hx hb dX10_addPart_29 rfl (lv_at hl 1 rfl) ?_
  refine va_get (D := (dC, dI)) (ci := 10) (v := .ref y10) (C := RX10) (T := TX10) (N := 16) hx hb hts in_c_addPart_X10 hown hK hP 0 rfl rfl 12 (by decide) (hts (.fieldLink RX10 43 "OwnedPlaces$Types" "parts" "[I") (wm_c_addPart 1 rfl)) (fun _ h9 => h9) rfl dX10_addPart_30 ?_
  refine lv_iload_n hx hb dX10_addPart_33 rfl (lv_at hl 2 rfl) ?_
  refine lv_dup2_11 hx hb dX10_addPart_34 rfl rfl ?_
  refine va_iald hx hb hK hP 1 0 rfl rfl (vp_in_nI (by omega) (by decide)) dX10_addPart_35 ?_
  refine lv_topi (fun v_4 ev_4 => ?_)
  have hv_4 : v_4 = fpa a := ev_4.trans (by rw [nI_clamp (by omega)])
  obtain rfl : v_4 = nI kc := hv_4.trans hv
  refine lv_iconst (v := 1) hx hb dX10_addPart_36 (by decide) ?_
  refine lv_iadd hx hb dX10_addPart_37 ?_
  refine lv_topi (fun f_5 ef_5 => ?_)
  obtain rfl : f_5 = nI (kc + 1) := ef_5.trans (nI_1 _)
  refine va_iast hx hb hK hP hD hS 1 0 rfl rfl (vp_in_nI ha (by decide)) dX10_addPart_38 (fun H locs hP hD hS => ?_)
  have hP : va_P (dC, dI) vwCl [(y, .inr (10, [.ref y0, .ref y1, .ref y2, .ref y3, .ref y4, .ref y5, .ref y6, .int (nI yt), .int (nI yp), .ref y7, .ref y8, .ref y9, .ref y10, .ref y11, .ref y12, .ref y13])), (y10, .inl (kI, 360, .inl (upd fpa (nI a : Int32).toNatClampNeg (nI (kc + 1))))), (y11, .inl (kI, 4320, .inl g1)), (y12, .inl (kI, 4320, .inl g2))] H := hP
  have hD : va_D A [(y, .inr (10, [.ref y0, .ref y1, .ref y2, .ref y3, .ref y4, .ref y5, .ref y6, .int (nI yt), .int (nI yp), .ref y7, .ref y8, .ref y9, .ref y10, .ref y11, .ref y12, .ref y13])), (y10, .inl (kI, 360, .inl (upd fpa (nI a : Int32).toNatClampNeg (nI (kc + 1))))), (y11, .inl (kI, 4320, .inl g1)), (y12, .inl (kI, 4320, .inl g2))] := hD
  obtain ⟨g3, eg3⟩ : ∃ zZ : Nat → Int32, zZ = upd fpa (nI a : Int32).toNatClampNeg (nI (kc + 1)) := ⟨_, rfl⟩
  rw [← eg3] at hP hD
  have hP9 := hP.sub (ws' := [(y, .inr (10, [.ref y0, .ref y1, .ref y2, .ref y3, .ref y4, .ref y5, .ref y6, .int (nI yt), .int (nI yp), .ref y7, .ref y8, .ref y9, .ref y10, .ref y11, .ref y12, .ref y13])), (y10, .inl (kI, 360, .inl g3)), (y11, .inl (kI, 4320, .inl g1)), (y12, .inl (kI, 4320, .inl g2))]) [0, 1, 2, 3] rfl
  have hD9 := hD.sub (ws' := [(y, .inr (10, [.ref y0, .ref y1, .ref y2, .ref y3, .ref y4, .ref y5, .ref y6, .int (nI yt), .int (nI yp), .ref y7, .ref y8, .ref y9, .ref y10, .ref y11, .ref y12, .ref y13])), (y10, .inl (kI, 360, .inl g3)), (y11, .inl (kI, 4320, .inl g1)), (y12, .inl (kI, 4320, .inl g2))]) [0, 1, 2, 3] (by decide) rfl
  have hK9 := hK.sub (tys' := [(kI, .int)]) [0] rfl
  exact W.vret hx hb hr (fun tS ht hW => ⟨⟨(), rfl, trivial, g3, g1, g2, by rw [eg3, nI_clamp (by omega)], by rw [eg1, nI_clamp (by omega)], by rw [eg2, nI_clamp (by omega)], by rw [ht]; exact hP9, va_K.moved hW.alike hK9, hD9⟩, hS.F ht⟩) hS.2.2 dX10_addPart_39
