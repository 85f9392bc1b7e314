theorem ngI_m1 : ∀ f : Nat, f < 40 → (-nI (f + 1) - 1 : Int32) < 0 := by decide +kernel
theorem mnI_neg {nq yp nb kn : Nat} {fm : Nat → Int32} (h : mnI nq yp nb fm) (hy : yp ≤ 30) (hk : kn < nq) (hn : fm kn < 0) : ∃ f : Nat, f < nb ∧ fm kn = -nI (f + 1) := by
  rcases h kn hk with z | ⟨s, h1, h2⟩ | z
  · rw [z] at hn; exact absurd hn (by decide)
  · rw [h2] at hn; exact absurd hn (Int32.not_lt.mpr (Int32.le_of_lt (shI_add s (by omega)).2.1))
  · exact z
theorem mnI_pos {nq yp nb kn : Nat} {fm : Nat → Int32} (h : mnI nq yp nb fm) (hb : nb ≤ 40) (hk : kn < nq) (hn : 0 < fm kn) : ∃ s : Nat, s < yp ∧ fm kn = nI (s + 1) := by
  rcases h kn hk with z | z | ⟨f, h1, h2⟩
  · rw [z] at hn; exact absurd hn (by decide)
  · exact z
  · rw [h2] at hn; exact absurd hn (Int32.not_lt.mpr (Int32.le_of_lt (ngI_lt f (by omega))))
/-- all shapes have a size from 1 to 16 -/
def szI (yp n : Nat) (az : Nat → Int32) : Prop := ∀ s : Nat, s < n → ∃ z : Nat, az (4 + s) = nI z ∧ 1 ≤ z ∧ z ≤ 16
def wf_c_funOf : List Cond := [.code yX1_functionOf cX1_functionOf 2 (some .int), .fieldLink RX1 17 "OwnedPlaces$Declarations" "meanings" "[I"]
def wp_c_funOf : List Cond := wf_c_funOf ++ (wsX10 ++ [])
theorem in_c_funOf_X1 : ∀ w ∈ wsX10, w ∈ wp_c_funOf := fun w h => List.mem_append_right _ (List.mem_append_left _ h)
theorem wg_c_funOf : wf_c_funOf.all goodWord = true := by decide +kernel
theorem wm_c_funOf (k : Nat) {w : Cond} (h : wp_c_funOf[k]? = some w) : w ∈ wp_c_funOf := List.mem_of_getElem? h
set_option maxHeartbeats 4000000 in
set_option maxRecDepth 100000 in
theorem c_funOf (l : Launch) (dC : Nat → ClassId) (dI : Nat → Nat → Nat) (e0 dfn dmn : Nat) (dto dmi lf : Int32) (vfn : Value) (h tk tp tn tu tl tb ts tf tz tx th tw : Nat) (ln ft pl : Int32) (nw tt nq : Nat) (y y0 y1 y2 y3 y4 y5 y6 y7 y8 y9 y10 y11 y12 y13 : Nat) (yt yp : Nat) (kI kZ : ClassId) (fk fp fn fm ak ao az ad ab ah au : Nat → Int32) (nb : Nat) (kn : Nat) (sz : Nat) (hnq : nq ≤ 3020) (hyp : yp ≤ 30) (hnb : nb ≤ 40) (hmn : mnI nq yp nb fm) (hkn : kn < nq) : Met l yX1_functionOf wp_c_funOf ({ frames := 0, cells := 0, slots := 0, locals := 0 }) (va_Pc [.ref e0, .int (nI kn)] (fun U => U.heap.size = sz ∧ va_P (dC, dI) vwCl [(e0, .inr (1, [.ref h, .ref y, .ref dfn, .int dto, .int dmi, .ref dmn, vfn, .int lf])), (dmn, .inl (kI, 3020, .inl fm))] U.heap ∧ va_K (dC, dI) vwCl [(kI, .int)] U ∧ va_D (fun _ => True) [(e0, .inr (1, [.ref h, .ref y, .ref dfn, .int dto, .int dmi, .ref dmn, vfn, .int lf])), (dmn, .inl (kI, 3020, .inl fm))])) (va_Qi (fun (r : Int32) (_ : Unit) => r = -1 ∨ ∃ f : Nat, f < nb ∧ r = nI f ∧ fm kn = -nI (f + 1)) (fun (_ : Unit) (tS : State) => va_P (dC, dI) vwCl [(e0, .inr (1, [.ref h, .ref y, .ref dfn, .int dto, .int dmi, .ref dmn, vfn, .int lf])), (dmn, .inl (kI, 3020, .inl fm))] tS.heap ∧ va_K (dC, dI) vwCl [(kI, .int)] tS ∧ va_D (va_A [(e0, .inr (1, [.ref h, .ref y, .ref dfn, .int dto, .int dmi, .ref dmn, vfn, .int lf])), (dmn, .inl (kI, 3020, .inl fm))] sz) [(e0, .inr (1, [.ref h, .ref y, .ref dfn, .int dto, .int dmi, .ref dmn, vfn, .int lf])), (dmn, .inl (kI, 3020, .inl fm))]) (va_A [(e0, .inr (1, [.ref h, .ref y, .ref dfn, .int dto, .int dmi, .ref dmn, vfn, .int lf])), (dmn, .inl (kI, 3020, .inl fm))] sz)) 0 0 (va_A [(e0, .inr (1, [.ref h, .ref y, .ref dfn, .int dto, .int dmi, .ref dmn, vfn, .int lf])), (dmn, .inl (kI, 3020, .inl fm))] sz) := by
  refine Met.ofW (cc := cX1_functionOf) (maxL := 2) (ret := (some .int)) (by decide) rfl ?_
  intro p e s m args below meth c s₁ B hml hv
  obtain ⟨rfl, hsz, hP, hK, hD0⟩ := hv
  have hx := B.exec
  have hb := B.bytes
  have hr := B.returns
  have hts := atoms_spec (ws := wp_c_funOf) B.pre
  have hown : s.vm.findClass RX1 = some m.cls := findClass_of_methodNamed B.named
  have hlocks := B.notSynchronized
  subst hsz
  have hD := hD0.self (sz := s.heap.size)
  generalize hAe : va_A [(e0, .inr (1, [.ref h, .ref y, .ref dfn, .int dto, .int dmi, .ref dmn, vfn, .int lf])), (dmn, .inl (kI, 3020, .inl fm))] s.heap.size = A at hD ⊢
  have hA : ∀ q : Nat, s.heap.size ≤ q → A q := fun q h => by rw [← hAe]; exact Or.inr h
  have hS : va_S A s.heap s.heap [] := va_S.rf
  have hP : va_P (dC, dI) vwCl [(e0, .inr (1, [.ref h, .ref y, .ref dfn, .int dto, .int dmi, .ref dmn, vfn, .int lf])), (dmn, .inl (kI, 3020, .inl fm))] s.heap := hP
  have hl := lv_entry ([.ref e0, .int (nI kn)]) (n := 2) (Nat.le_of_ble_eq_true rfl)
  rw [lg_entry_eq]
  generalize (lg_sl ([.ref e0, .int (nI kn)]) ++ List.replicate (2 - (lg_sl ([.ref e0, .int (nI kn)])).length) Slot.unset).toArray = ls at hl ⊢
  have hl : lv_has ls 2 [(0, .ref e0), (1, .int (nI kn))] := hl
  refine lv_aload_n hx hb dX1_functionOf_0 rfl (lv_at hl 0 rfl) ?_
  refine va_get (D := (dC, dI)) (ci := 1) (v := .ref dmn) (C := RX1) (T := TX1) (N := 8) hx hb hts in_c_funOf_X1 hown hK hP 0 rfl rfl 5 (by decide) (hts (.fieldLink RX1 17 "OwnedPlaces$Declarations" "meanings" "[I") (wm_c_funOf 1 rfl)) (fun _ h9 => h9) rfl dX1_functionOf_1 ?_
  refine lv_iload_n hx hb dX1_functionOf_4 rfl (lv_at hl 1 rfl) ?_
  refine va_iald hx hb hK hP 1 0 rfl rfl (vp_in_nI (by omega) (by decide)) dX1_functionOf_5 ?_
  refine lv_topi (fun v_1 ev_1 => ?_)
  have hv9 : v_1 = fm kn := ev_1.trans (by rw [nI_clamp (by omega)])
  refine lv_if_ge (tgt := 21) hx hb dX1_functionOf_6 (by decide) (fun hge => ?_) (fun hge => ?_)
  · refine lv_iconst (v := (-1)) hx hb dX1_functionOf_21 (by decide) ?_
    have hP9 := hP.sub (ws' := [(e0, .inr (1, [.ref h, .ref y, .ref dfn, .int dto, .int dmi, .ref dmn, vfn, .int lf])), (dmn, .inl (kI, 3020, .inl fm))]) [0, 1] rfl
    have hD9 := hD.sub (ws' := [(e0, .inr (1, [.ref h, .ref y, .ref dfn, .int dto, .int dmi, .ref dmn, vfn, .int lf])), (dmn, .inl (kI, 3020, .inl fm))]) [0, 1] (by decide) rfl
    have hK9 := hK.sub (tys' := [(kI, .int)]) [0] rfl
    exact W.iret (v := (-1)) hx hb hr (fun tS ht hW => ⟨⟨(-1), (), rfl, (Or.inl rfl), by rw [ht]; exact hP9, va_K.moved hW.alike hK9, hD9⟩, hS.F ht⟩) hS.2.2 dX1_functionOf_22
  · obtain ⟨f9, hf9, hfm⟩ := mnI_neg hmn hyp hkn (by rw [← hv9]; exact Int32.not_le.mp hge)
    refine lv_aload_n hx hb dX1_functionOf_9 rfl (lv_at hl 0 rfl) ?_
    refine va_get (D := (dC, dI)) (ci := 1) (v := .ref dmn) (C := RX1) (T := TX1) (N := 8) hx hb hts in_c_funOf_X1 hown hK hP 0 rfl rfl 5 (by decide) (hts (.fieldLink RX1 17 "OwnedPlaces$Declarations" "meanings" "[I") (wm_c_funOf 1 rfl)) (fun _ h9 => h9) rfl dX1_functionOf_10 ?_
    refine lv_iload_n hx hb dX1_functionOf_13 rfl (lv_at hl 1 rfl) ?_
    refine va_iald hx hb hK hP 1 0 rfl rfl (vp_in_nI (by omega) (by decide)) dX1_functionOf_14 ?_
    refine lv_topi (fun v_2 ev_2 => ?_)
    obtain rfl : v_2 = -nI (f9 + 1) := ev_2.trans (by rw [nI_clamp (by omega)]; exact hfm)
    refine lv_ineg hx hb dX1_functionOf_15 ?_
    refine lv_topi (fun f_3 ef_3 => ?_)
    refine lv_iconst (v := 1) hx hb dX1_functionOf_16 (by decide) ?_
    refine lv_isub hx hb dX1_functionOf_17 ?_
    refine lv_topi (fun f_4 ef_4 => ?_)
    obtain rfl : f_4 = nI f9 := ef_4.trans (by rw [ef_3]; exact ngI_sub f9 (by omega))
    refine lv_goto (tgt := 22) hx hb dX1_functionOf_18 (by decide) ?_
    have hP9 := hP.sub (ws' := [(e0, .inr (1, [.ref h, .ref y, .ref dfn, .int dto, .int dmi, .ref dmn, vfn, .int lf])), (dmn, .inl (kI, 3020, .inl fm))]) [0, 1] rfl
    have hD9 := hD.sub (ws' := [(e0, .inr (1, [.ref h, .ref y, .ref dfn, .int dto, .int dmi, .ref dmn, vfn, .int lf])), (dmn, .inl (kI, 3020, .inl fm))]) [0, 1] (by decide) rfl
    have hK9 := hK.sub (tys' := [(kI, .int)]) [0] rfl
    exact W.iret (v := nI f9) hx hb hr (fun tS ht hW => ⟨⟨(nI f9), (), rfl, (Or.inr ⟨f9, hf9, rfl, hfm⟩), by rw [ht]; exact hP9, va_K.moved hW.alike hK9, hD9⟩, hS.F ht⟩) hS.2.2 dX1_functionOf_22
def wf_c_shapeOf : List Cond := [.code yX1_shapeOf cX1_shapeOf 4 (some .int), .fieldLink RX1 17 "OwnedPlaces$Declarations" "meanings" "[I", .fieldLink RX1 25 "OwnedPlaces$Declarations" "types" "LOwnedPlaces$Types;", .fieldLink RX1 75 "OwnedPlaces$Types" "kind" "[I"]
def wp_c_shapeOf : List Cond := wf_c_shapeOf ++ (wsX10 ++ (wsX100 ++ []))
theorem in_c_shapeOf_X1 : ∀ w ∈ wsX10, w ∈ wp_c_shapeOf := fun w h => List.mem_append_right _ (List.mem_append_left _ h)
theorem in_c_shapeOf_X10 : ∀ w ∈ wsX100, w ∈ wp_c_shapeOf := fun w h => List.mem_append_right _ (List.mem_append_right _ (List.mem_append_left _ h))
theorem wg_c_shapeOf : wf_c_shapeOf.all goodWord = true := by decide +kernel
theorem wm_c_shapeOf (k : Nat) {w : Cond} (h : wp_c_shapeOf[k]? = some w) : w ∈ wp_c_shapeOf := List.mem_of_getElem? h
set_option maxHeartbeats 4000000 in
set_option maxRecDepth 100000 in
theorem c_shapeOf (l : Launch) (dC : Nat → ClassId) (dI : Nat → Nat → Nat) (e0 dfn dmn : Nat) (dto dmi lf : Int32) (vfn : Value) (h tk tp tn tu tl tb ts tf tz tx th tw : Nat) (ln ft pl : Int32) (nw tt nq : Nat) (y y0 y1 y2 y3 y4 y5 y6 y7 y8 y9 y10 y11 y12 y13 : Nat) (yt yp : Nat) (kI kZ : ClassId) (fk fp fn fm ak ao az ad ab ah au : Nat → Int32) (nb : Nat) (kn : Nat) (kd : Int32) (sz : Nat) (hnq : nq ≤ 3020) (hyp : yp ≤ 30) (hnb : nb ≤ 40) (hmn : mnI nq yp nb fm) (hkn : kn < nq) : Met l yX1_shapeOf wp_c_shapeOf ({ frames := 0, cells := 0, slots := 0, locals := 0 }) (va_Pc [.ref e0, .int (nI kn), .int kd] (fun U => U.heap.size = sz ∧ va_P (dC, dI) vwCl [(e0, .inr (1, [.ref h, .ref y, .ref dfn, .int dto, .int dmi, .ref dmn, vfn, .int lf])), (y, .inr (10, [.ref y0, .ref y1, .ref y2, .ref y3, .ref y4, .ref y5, .ref y6, .int (nI yt), .int (nI yp), .ref y7, .ref y8, .ref y9, .ref y10, .ref y11, .ref y12, .ref y13])), (dmn, .inl (kI, 3020, .inl fm)), (y0, .inl (kI, 3040, .inl ak))] U.heap ∧ va_K (dC, dI) vwCl [(kI, .int)] U ∧ va_D (fun _ => True) [(e0, .inr (1, [.ref h, .ref y, .ref dfn, .int dto, .int dmi, .ref dmn, vfn, .int lf])), (y, .inr (10, [.ref y0, .ref y1, .ref y2, .ref y3, .ref y4, .ref y5, .ref y6, .int (nI yt), .int (nI yp), .ref y7, .ref y8, .ref y9, .ref y10, .ref y11, .ref y12, .ref y13])), (dmn, .inl (kI, 3020, .inl fm)), (y0, .inl (kI, 3040, .inl ak))])) (va_Qi (fun (r : Int32) (_ : Unit) => r = -1 ∨ ∃ s : Nat, s < yp ∧ r = nI s ∧ ak (4 + s) = kd) (fun (_ : Unit) (tS : State) => va_P (dC, dI) vwCl [(e0, .inr (1, [.ref h, .ref y, .ref dfn, .int dto, .int dmi, .ref dmn, vfn, .int lf])), (y, .inr (10, [.ref y0, .ref y1, .ref y2, .ref y3, .ref y4, .ref y5, .ref y6, .int (nI yt), .int (nI yp), .ref y7, .ref y8, .ref y9, .ref y10, .ref y11, .ref y12, .ref y13])), (dmn, .inl (kI, 3020, .inl fm)), (y0, .inl (kI, 3040, .inl ak))] tS.heap ∧ va_K (dC, dI) vwCl [(kI, .int)] tS ∧ va_D (va_A [(e0, .inr (1, [.ref h, .ref y, .ref dfn, .int dto, .int dmi, .ref dmn, vfn, .int lf])), (y, .inr (10, [.ref y0, .ref y1, .ref y2, .ref y3, .ref y4, .ref y5, .ref y6, .int (nI yt), .int (nI yp), .ref y7, .ref y8, .ref y9, .ref y10, .ref y11, .ref y12, .ref y13])), (dmn, .inl (kI, 3020, .inl fm)), (y0, .inl (kI, 3040, .inl ak))] sz) [(e0, .inr (1, [.ref h, .ref y, .ref dfn, .int dto, .int dmi, .ref dmn, vfn, .int lf])), (y, .inr (10, [.ref y0, .ref y1, .ref y2, .ref y3, .ref y4, .ref y5, .ref y6, .int (nI yt), .int (nI yp), .ref y7, .ref y8, .ref y9, .ref y10, .ref y11, .ref y12, .ref y13])), (dmn, .inl (kI, 3020, .inl fm)), (y0, .inl (kI, 3040, .inl ak))]) (va_A [(e0, .inr (1, [.ref h, .ref y, .ref dfn, .int dto, .int dmi, .ref dmn, vfn, .int lf])), (y, .inr (10, [.ref y0, .ref y1, .ref y2, .ref y3, .ref y4, .ref y5, .ref y6, .int (nI yt), .int (nI yp), .ref y7, .ref y8, .ref y9, .ref y10, .ref y11, .ref y12, .ref y13])), (dmn, .inl (kI, 3020, .inl fm)), (y0, .inl (kI, 3040, .inl ak))] sz)) 0 0 (va_A [(e0, .inr (1, [.ref h, .ref y, .ref dfn, .int dto, .int dmi, .ref dmn, vfn, .int lf])), (y, .inr (10, [.ref y0, .ref y1, .ref y2, .ref y3, .ref y4, .ref y5, .ref y6, .int (nI yt), .int (nI yp), .ref y7, .ref y8, .ref y9, .ref y10, .ref y11, .ref y12, .ref y13])), (dmn, .inl (kI, 3020, .inl fm)), (y0, .inl (kI, 3040, .inl ak))] sz) := by
  refine Met.ofW (cc := cX1_shapeOf) (maxL := 4) (ret := (some .int)) (by decide) rfl ?_
  intro p e s m args below meth c s₁ B hml hv
  obtain ⟨rfl, hsz, hP, hK, hD0⟩ := hv
  have hx := B.exec
  have hb := B.bytes
  have hr := B.returns
  have hts := atoms_spec (ws := wp_c_shapeOf) B.pre
  have hown : s.vm.findClass RX1 = some m.cls := findClass_of_methodNamed B.named
  have hlocks := B.notSynchronized
  subst hsz
  have hD := hD0.self (sz := s.heap.size)
  generalize hAe : va_A [(e0, .inr (1, [.ref h, .ref y, .ref dfn, .int dto, .int dmi, .ref dmn, vfn, .int lf])), (y, .inr (10, [.ref y0, .ref y1, .ref y2, .ref y3, .ref y4, .ref y5, .ref y6, .int (nI yt), .int (nI yp), .ref y7, .ref y8, .ref y9, .ref y10, .ref y11, .ref y12, .ref y13])), (dmn, .inl (kI, 3020, .inl fm)), (y0, .inl (kI, 3040, .inl ak))] s.heap.size = A at hD ⊢
  have hA : ∀ q : Nat, s.heap.size ≤ q → A q := fun q h => by rw [← hAe]; exact Or.inr h
  have hS : va_S A s.heap s.heap [] := va_S.rf
  have hP : va_P (dC, dI) vwCl [(e0, .inr (1, [.ref h, .ref y, .ref dfn, .int dto, .int dmi, .ref dmn, vfn, .int lf])), (y, .inr (10, [.ref y0, .ref y1, .ref y2, .ref y3, .ref y4, .ref y5, .ref y6, .int (nI yt), .int (nI yp), .ref y7, .ref y8, .ref y9, .ref y10, .ref y11, .ref y12, .ref y13])), (dmn, .inl (kI, 3020, .inl fm)), (y0, .inl (kI, 3040, .inl ak))] s.heap := hP
  have hl := lv_entry ([.ref e0, .int (nI kn), .int kd]) (n := 4) (Nat.le_of_ble_eq_true rfl)
  rw [lg_entry_eq]
  generalize (lg_sl ([.ref e0, .int (nI kn), .int kd]) ++ List.replicate (4 - (lg_sl ([.ref e0, .int (nI kn), .int kd])).length) Slot.unset).toArray = ls at hl ⊢
  have hl : lv_has ls 4 [(0, .ref e0), (1, .int (nI kn)), (2, .int kd)] := hl
  refine lv_aload_n hx hb dX1_shapeOf_0 rfl (lv_at hl 0 rfl) ?_
  refine va_get (D := (dC, dI)) (ci := 1) (v := .ref dmn) (C := RX1) (T := TX1) (N := 8) hx hb hts in_c_shapeOf_X1 hown hK hP 0 rfl rfl 5 (by decide) (hts (.fieldLink RX1 17 "OwnedPlaces$Declarations" "meanings" "[I") (wm_c_shapeOf 1 rfl)) (fun _ h9 => h9) rfl dX1_shapeOf_1 ?_
  refine lv_iload_n hx hb dX1_shapeOf_4 rfl (lv_at hl 1 rfl) ?_
  refine va_iald hx hb hK hP 2 0 rfl rfl (vp_in_nI (by omega) (by decide)) dX1_shapeOf_5 ?_
  refine lv_topi (fun v_1 ev_1 => ?_)
  have hv9 : v_1 = fm kn := ev_1.trans (by rw [nI_clamp (by omega)])
  refine lv_iconst (v := 1) hx hb dX1_shapeOf_6 (by decide) ?_
  refine lv_isub hx hb dX1_shapeOf_7 ?_
  refine lv_topi (fun f_2 ef_2 => ?_)
  have hf9 : f_2 = fm kn - 1 := by rw [ef_2, hv9]
  refine lv_istore_n (lv' := [(3, .int f_2), (0, .ref e0), (1, .int (nI kn)), (2, .int kd)]) hx hb dX1_shapeOf_8 rfl hl (by decide) rfl (fun ls hl => ?_)
  refine lv_iload_n hx hb dX1_shapeOf_9 rfl (lv_at hl 0 rfl) ?_
  refine lv_if_lt (tgt := 32) hx hb dX1_shapeOf_10 (by decide) (fun hlt => ?_) (fun hlt => ?_)
  · refine lv_iconst (v := (-1)) hx hb dX1_shapeOf_32 (by decide) ?_
    have hP9 := hP.sub (ws' := [(e0, .inr (1, [.ref h, .ref y, .ref dfn, .int dto, .int dmi, .ref dmn, vfn, .int lf])), (y, .inr (10, [.ref y0, .ref y1, .ref y2, .ref y3, .ref y4, .ref y5, .ref y6, .int (nI yt), .int (nI yp), .ref y7, .ref y8, .ref y9, .ref y10, .ref y11, .ref y12, .ref y13])), (dmn, .inl (kI, 3020, .inl fm)), (y0, .inl (kI, 3040, .inl ak))]) [0, 1, 2, 3] rfl
    have hD9 := hD.sub (ws' := [(e0, .inr (1, [.ref h, .ref y, .ref dfn, .int dto, .int dmi, .ref dmn, vfn, .int lf])), (y, .inr (10, [.ref y0, .ref y1, .ref y2, .ref y3, .ref y4, .ref y5, .ref y6, .int (nI yt), .int (nI yp), .ref y7, .ref y8, .ref y9, .ref y10, .ref y11, .ref y12, .ref y13])), (dmn, .inl (kI, 3020, .inl fm)), (y0, .inl (kI, 3040, .inl ak))]) [0, 1, 2, 3] (by decide) rfl
    have hK9 := hK.sub (tys' := [(kI, .int)]) [0] rfl
    exact W.iret (v := (-1)) hx hb hr (fun tS ht hW => ⟨⟨(-1), (), rfl, (Or.inl rfl), by rw [ht]; exact hP9, va_K.moved hW.alike hK9, hD9⟩, hS.F ht⟩) hS.2.2 dX1_shapeOf_33
  · obtain ⟨s9, hs9, hfm⟩ := mnI_pos hmn hnb hkn (by
      rcases hmn kn hkn with z | ⟨s, h1, h2⟩ | ⟨f, h1, h2⟩
      · exact absurd (show f_2 < 0 by rw [hf9, z]; decide) hlt
      · rw [h2]; exact (shI_add s (by omega)).2.1
      · exact absurd (show f_2 < 0 by rw [hf9, h2]; exact ngI_m1 f (by omega)) hlt)
    obtain rfl : f_2 = nI s9 := hf9.trans (by rw [hfm]; exact (shI_add s9 (by omega)).2.2)
    have hl : lv_has ls 4 [(3, .int (nI s9)), (0, .ref e0), (1, .int (nI kn)), (2, .int kd)] := hl
    refine lv_aload_n hx hb dX1_shapeOf_13 rfl (lv_at hl 1 rfl) ?_
    refine va_get (D := (dC, dI)) (ci := 1) (v := .ref y) (C := RX1) (T := TX1) (N := 8) hx hb hts in_c_shapeOf_X1 hown hK hP 0 rfl rfl 1 (by decide) (hts (.fieldLink RX1 25 "OwnedPlaces$Declarations" "types" "LOwnedPlaces$Types;") (wm_c_shapeOf 2 rfl)) (fun _ h9 => h9) rfl dX1_shapeOf_14 ?_
    refine va_get (D := (dC, dI)) (ci := 10) (v := .ref y0) (C := RX10) (T := TX10) (N := 16) hx hb hts in_c_shapeOf_X10 hown hK hP 1 rfl rfl 0 (by decide) (hts (.fieldLink RX1 75 "OwnedPlaces$Types" "kind" "[I") (wm_c_shapeOf 3 rfl)) (fun _ h9 => h9) rfl dX1_shapeOf_17 ?_
    refine lv_iconst (v := 4) hx hb dX1_shapeOf_20 (by decide) ?_
    refine lv_iload_n hx hb dX1_shapeOf_21 rfl (lv_at hl 0 rfl) ?_
    refine lv_iadd hx hb dX1_shapeOf_22 ?_
    refine lv_topi (fun f_3 ef_3 => ?_)
    obtain rfl : f_3 = nI (4 + s9) := ef_3.trans (nI_add 4 s9)
    refine va_iald hx hb hK hP 3 0 rfl rfl (vp_in_nI (by omega) (by decide)) dX1_shapeOf_23 ?_
    refine lv_topi (fun v_4 ev_4 => ?_)
    have hk9 : v_4 = ak (4 + s9) := ev_4.trans (by rw [nI_clamp (by omega)])
    refine lv_iload_n hx hb dX1_shapeOf_24 rfl (lv_at hl 3 rfl) ?_
    refine lv_icmp_ne (tgt := 32) hx hb dX1_shapeOf_25 (by decide) (fun hne => ?_) (fun hne => ?_)
    · refine lv_iconst (v := (-1)) hx hb dX1_shapeOf_32 (by decide) ?_
      have hP9 := hP.sub (ws' := [(e0, .inr (1, [.ref h, .ref y, .ref dfn, .int dto, .int dmi, .ref dmn, vfn, .int lf])), (y, .inr (10, [.ref y0, .ref y1, .ref y2, .ref y3, .ref y4, .ref y5, .ref y6, .int (nI yt), .int (nI yp), .ref y7, .ref y8, .ref y9, .ref y10, .ref y11, .ref y12, .ref y13])), (dmn, .inl (kI, 3020, .inl fm)), (y0, .inl (kI, 3040, .inl ak))]) [0, 1, 2, 3] rfl
      have hD9 := hD.sub (ws' := [(e0, .inr (1, [.ref h, .ref y, .ref dfn, .int dto, .int dmi, .ref dmn, vfn, .int lf])), (y, .inr (10, [.ref y0, .ref y1, .ref y2, .ref y3, .ref y4, .ref y5, .ref y6, .int (nI yt), .int (nI yp), .ref y7, .ref y8, .ref y9, .ref y10, .ref y11, .ref y12, .ref y13])), (dmn, .inl (kI, 3020, .inl fm)), (y0, .inl (kI, 3040, .inl ak))]) [0, 1, 2, 3] (by decide) rfl
      have hK9 := hK.sub (tys' := [(kI, .int)]) [0] rfl
      exact W.iret (v := (-1)) hx hb hr (fun tS ht hW => ⟨⟨(-1), (), rfl, (Or.inl rfl), by rw [ht]; exact hP9, va_K.moved hW.alike hK9, hD9⟩, hS.F ht⟩) hS.2.2 dX1_shapeOf_33
    · refine lv_iload_n hx hb dX1_shapeOf_28 rfl (lv_at hl 0 rfl) ?_
      refine lv_goto (tgt := 33) hx hb dX1_shapeOf_29 (by decide) ?_
      have hP9 := hP.sub (ws' := [(e0, .inr (1, [.ref h, .ref y, .ref dfn, .int dto, .int dmi, .ref dmn, vfn, .int lf])), (y, .inr (10, [.ref y0, .ref y1, .ref y2, .ref y3, .ref y4, .ref y5, .ref y6, .int (nI yt), .int (nI yp), .ref y7, .ref y8, .ref y9, .ref y10, .ref y11, .ref y12, .ref y13])), (dmn, .inl (kI, 3020, .inl fm)), (y0, .inl (kI, 3040, .inl ak))]) [0, 1, 2, 3] rfl
      have hD9 := hD.sub (ws' := [(e0, .inr (1, [.ref h, .ref y, .ref dfn, .int dto, .int dmi, .ref dmn, vfn, .int lf])), (y, .inr (10, [.ref y0, .ref y1, .ref y2, .ref y3, .ref y4, .ref y5, .ref y6, .int (nI yt), .int (nI yp), .ref y7, .ref y8, .ref y9, .ref y10, .ref y11, .ref y12, .ref y13])), (dmn, .inl (kI, 3020, .inl fm)), (y0, .inl (kI, 3040, .inl ak))]) [0, 1, 2, 3] (by decide) rfl
      have hK9 := hK.sub (tys' := [(kI, .int)]) [0] rfl
      exact W.iret (v := nI s9) hx hb hr (fun tS ht hW => ⟨⟨(nI s9), (), rfl, (Or.inr ⟨s9, hs9, rfl, hk9.symm.trans hne⟩), by rw [ht]; exact hP9, va_K.moved hW.alike hK9, hD9⟩, hS.F ht⟩) hS.2.2 dX1_shapeOf_33
