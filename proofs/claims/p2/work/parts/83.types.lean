-- 83.types.lean.txt
section
/-- each of the first n is a number up to m -/
def upI (n m : Nat) (f : Nat → Int32) : Prop := ∀ j, j < n → ∃ k : Nat, k ≤ m ∧ f j = nI k
theorem upI_put {n m i : Nat} {f : Nat → Int32} {x : Int32} (h : upI n m f) (hx : ∃ k : Nat, k ≤ m ∧ x = nI k) : upI n m (upd f i x) := by
  intro j hj
  by_cases e : j = i
  · subst e; rw [pk_us]; exact hx
  · rw [pk_un e]; exact h j hj
def wf_c_isRef : List Cond := [.code yX10_isReference cX10_isReference 2 (some .boolean), .fieldLink RX10 9 "OwnedPlaces$Types" "kind" "[I"]
def wp_c_isRef : List Cond := wf_c_isRef ++ (wsX100 ++ [])
theorem in_c_isRef_X10 : ∀ w ∈ wsX100, w ∈ wp_c_isRef := fun w h => List.mem_append_right _ (List.mem_append_left _ h)
theorem wg_c_isRef : wf_c_isRef.all goodWord = true := by decide +kernel
theorem wm_c_isRef (k : Nat) {w : Cond} (h : wp_c_isRef[k]? = some w) : w ∈ wp_c_isRef := List.mem_of_getElem? h
set_option maxHeartbeats 4000000 in
set_option maxRecDepth 100000 in
theorem c_isRef (l : Launch) (dC : Nat → ClassId) (dI : Nat → Nat → Nat) (y y0 y1 y2 y3 y4 y5 y6 y7 y8 y9 y10 y11 y12 y13 : Nat) (yt yp : Nat) (kI : ClassId) (fk : Nat → Int32) (tx : Int32) (sz : Nat) (htx : tx < 0 ∨ ∃ k : Nat, k < 3040 ∧ tx = nI k) : Met l yX10_isReference wp_c_isRef ({ frames := 0, cells := 0, slots := 0, locals := 0 }) (va_Pc [.ref y, .int tx] (fun U => U.heap.size = sz ∧ va_P (dC, dI) vwCl [(y, .inr (10, [.ref y0, .ref y1, .ref y2, .ref y3, .ref y4, .ref y5, .ref y6, .int (nI yt), .int (nI yp), .ref y7, .ref y8, .ref y9, .ref y10, .ref y11, .ref y12, .ref y13])), (y0, .inl (kI, 3040, .inl fk))] U.heap ∧ va_K (dC, dI) vwCl [(kI, .int)] U ∧ va_D (fun _ => True) [(y, .inr (10, [.ref y0, .ref y1, .ref y2, .ref y3, .ref y4, .ref y5, .ref y6, .int (nI yt), .int (nI yp), .ref y7, .ref y8, .ref y9, .ref y10, .ref y11, .ref y12, .ref y13])), (y0, .inl (kI, 3040, .inl fk))])) (va_Qi (fun (r : Int32) (_ : Unit) => (r = 1 ∧ ∃ k : Nat, k < 3040 ∧ tx = nI k ∧ (fk k = 5 ∨ fk k = 6)) ∨ (r = 0 ∧ ∀ k : Nat, k < 3040 → tx = nI k → fk k ≠ 5 ∧ fk k ≠ 6)) (fun (_ : Unit) (tS : State) => va_P (dC, dI) vwCl [(y, .inr (10, [.ref y0, .ref y1, .ref y2, .ref y3, .ref y4, .ref y5, .ref y6, .int (nI yt), .int (nI yp), .ref y7, .ref y8, .ref y9, .ref y10, .ref y11, .ref y12, .ref y13])), (y0, .inl (kI, 3040, .inl fk))] tS.heap ∧ va_K (dC, dI) vwCl [(kI, .int)] tS ∧ va_D (va_A [(y, .inr (10, [.ref y0, .ref y1, .ref y2, .ref y3, .ref y4, .ref y5, .ref y6, .int (nI yt), .int (nI yp), .ref y7, .ref y8, .ref y9, .ref y10, .ref y11, .ref y12, .ref y13])), (y0, .inl (kI, 3040, .inl fk))] sz) [(y, .inr (10, [.ref y0, .ref y1, .ref y2, .ref y3, .ref y4, .ref y5, .ref y6, .int (nI yt), .int (nI yp), .ref y7, .ref y8, .ref y9, .ref y10, .ref y11, .ref y12, .ref y13])), (y0, .inl (kI, 3040, .inl fk))]) (va_A [(y, .inr (10, [.ref y0, .ref y1, .ref y2, .ref y3, .ref y4, .ref y5, .ref y6, .int (nI yt), .int (nI yp), .ref y7, .ref y8, .ref y9, .ref y10, .ref y11, .ref y12, .ref y13])), (y0, .inl (kI, 3040, .inl fk))] sz)) 0 0 (va_A [(y, .inr (10, [.ref y0, .ref y1, .ref y2, .ref y3, .ref y4, .ref y5, .ref y6, .int (nI yt), .int (nI yp), .ref y7, .ref y8, .ref y9, .ref y10, .ref y11, .ref y12, .ref y13])), (y0, .inl (kI, 3040, .inl fk))] sz) := by
  refine Met.ofW (cc := cX10_isReference) (maxL := 2) (ret := (some .boolean)) (by decide) rfl ?_
  intro p e s m args below meth c s₁ B hml hv
  obtain ⟨rfl, hsz, hP, hK, hD0⟩ := hv
  have hx := B.exec
  have hb := B.bytes
  have hr := B.returns
  have hts := atoms_spec (ws := wp_c_isRef) B.pre
  have hown : s.vm.findClass RX10 = some m.cls := findClass_of_methodNamed B.named
  have hlocks := B.notSynchronized
  subst hsz
  have hD := hD0.self (sz := s.heap.size)
  generalize hAe : va_A [(y, .inr (10, [.ref y0, .ref y1, .ref y2, .ref y3, .ref y4, .ref y5, .ref y6, .int (nI yt), .int (nI yp), .ref y7, .ref y8, .ref y9, .ref y10, .ref y11, .ref y12, .ref y13])), (y0, .inl (kI, 3040, .inl fk))] s.heap.size = A at hD ⊢
  have hA : ∀ q : Nat, s.heap.size ≤ q → A q := fun q h => by rw [← hAe]; exact Or.inr h
  have hS : va_S A s.heap s.heap [] := va_S.rf
  have hP : va_P (dC, dI) vwCl [(y, .inr (10, [.ref y0, .ref y1, .ref y2, .ref y3, .ref y4, .ref y5, .ref y6, .int (nI yt), .int (nI yp), .ref y7, .ref y8, .ref y9, .ref y10, .ref y11, .ref y12, .ref y13])), (y0, .inl (kI, 3040, .inl fk))] s.heap := hP
  have hl := lv_entry ([.ref y, .int tx]) (n := 2) (Nat.le_of_ble_eq_true rfl)
  rw [lg_entry_eq]
  generalize (lg_sl ([.ref y, .int tx]) ++ List.replicate (2 - (lg_sl ([.ref y, .int tx])).length) Slot.unset).toArray = ls at hl ⊢
  have hl : lv_has ls 2 [(0, .ref y), (1, .int tx)] := hl
  refine lv_iload_n hx hb dX10_isReference_0 rfl (lv_at hl 1 rfl) ?_
  refine lv_if_lt (tgt := 29) hx hb dX10_isReference_1 (by decide) (fun hc => ?_) (fun hc => ?_)
  · refine lv_iconst (v := 0) hx hb dX10_isReference_29 (by decide) ?_
    have hP9 := hP.sub (ws' := [(y, .inr (10, [.ref y0, .ref y1, .ref y2, .ref y3, .ref y4, .ref y5, .ref y6, .int (nI yt), .int (nI yp), .ref y7, .ref y8, .ref y9, .ref y10, .ref y11, .ref y12, .ref y13])), (y0, .inl (kI, 3040, .inl fk))]) [0, 1] rfl
    have hD9 := hD.sub (ws' := [(y, .inr (10, [.ref y0, .ref y1, .ref y2, .ref y3, .ref y4, .ref y5, .ref y6, .int (nI yt), .int (nI yp), .ref y7, .ref y8, .ref y9, .ref y10, .ref y11, .ref y12, .ref y13])), (y0, .inl (kI, 3040, .inl fk))]) [0, 1] (by decide) rfl
    have hK9 := hK.sub (tys' := [(kI, .int)]) [0] rfl
    exact W.zret (v := 0) hx hb hr (by decide) (fun tS ht hW => ⟨⟨0, (), rfl, (Or.inr ⟨rfl, fun k hk he => absurd (he ▸ hc) (nI_pos (by omega))⟩), by rw [ht]; exact hP9, va_K.moved hW.alike hK9, hD9⟩, hS.F ht⟩) hS.2.2 dX10_isReference_30
  · obtain ⟨k, hk, rfl⟩ : ∃ k : Nat, k < 3040 ∧ tx = nI k := htx.elim (fun q => absurd q hc) id
    refine lv_aload_n hx hb dX10_isReference_4 rfl (lv_at hl 0 rfl) ?_
    refine va_get (D := (dC, dI)) (ci := 10) (v := .ref y0) (C := RX10) (T := TX10) (N := 16) hx hb hts in_c_isRef_X10 hown hK hP 0 rfl rfl 0 (by decide) (hts (.fieldLink RX10 9 "OwnedPlaces$Types" "kind" "[I") (wm_c_isRef 1 rfl)) (fun _ h9 => h9) rfl dX10_isReference_5 ?_
    refine lv_iload_n hx hb dX10_isReference_8 rfl (lv_at hl 1 rfl) ?_
    refine va_iald hx hb hK hP 1 0 rfl rfl (vp_in_nI (by omega) (by decide)) dX10_isReference_9 ?_
    refine lv_topi (fun v_1 ev_1 => ?_)
    have hv_1 : v_1 = fk k := ev_1.trans (by rw [nI_clamp (by omega)])
    refine lv_iconst (v := 5) hx hb dX10_isReference_10 (by decide) ?_
    refine lv_icmp_eq (tgt := 25) hx hb dX10_isReference_11 (by decide) (fun hd => ?_) (fun hd => ?_)
    · refine lv_iconst (v := 1) hx hb dX10_isReference_25 (by decide) ?_
      refine lv_goto (tgt := 30) hx hb dX10_isReference_26 (by decide) ?_
      have hP9 := hP.sub (ws' := [(y, .inr (10, [.ref y0, .ref y1, .ref y2, .ref y3, .ref y4, .ref y5, .ref y6, .int (nI yt), .int (nI yp), .ref y7, .ref y8, .ref y9, .ref y10, .ref y11, .ref y12, .ref y13])), (y0, .inl (kI, 3040, .inl fk))]) [0, 1] rfl
      have hD9 := hD.sub (ws' := [(y, .inr (10, [.ref y0, .ref y1, .ref y2, .ref y3, .ref y4, .ref y5, .ref y6, .int (nI yt), .int (nI yp), .ref y7, .ref y8, .ref y9, .ref y10, .ref y11, .ref y12, .ref y13])), (y0, .inl (kI, 3040, .inl fk))]) [0, 1] (by decide) rfl
      have hK9 := hK.sub (tys' := [(kI, .int)]) [0] rfl
      exact W.zret (v := 1) hx hb hr (by decide) (fun tS ht hW => ⟨⟨1, (), rfl, (Or.inl ⟨rfl, k, hk, rfl, Or.inl (hv_1.symm.trans hd)⟩), by rw [ht]; exact hP9, va_K.moved hW.alike hK9, hD9⟩, hS.F ht⟩) hS.2.2 dX10_isReference_30
    · refine lv_aload_n hx hb dX10_isReference_14 rfl (lv_at hl 0 rfl) ?_
      refine va_get (D := (dC, dI)) (ci := 10) (v := .ref y0) (C := RX10) (T := TX10) (N := 16) hx hb hts in_c_isRef_X10 hown hK hP 0 rfl rfl 0 (by decide) (hts (.fieldLink RX10 9 "OwnedPlaces$Types" "kind" "[I") (wm_c_isRef 1 rfl)) (fun _ h9 => h9) rfl dX10_isReference_15 ?_
      refine lv_iload_n hx hb dX10_isReference_18 rfl (lv_at hl 1 rfl) ?_
      refine va_iald hx hb hK hP 1 0 rfl rfl (vp_in_nI (by omega) (by decide)) dX10_isReference_19 ?_
      refine lv_topi (fun v_2 ev_2 => ?_)
      have hv_2 : v_2 = fk k := ev_2.trans (by rw [nI_clamp (by omega)])
      refine lv_bipush (v := 6) hx hb dX10_isReference_20 (by decide) ?_
      refine lv_icmp_ne (tgt := 29) hx hb dX10_isReference_22 (by decide) (fun he => ?_) (fun he => ?_)
      · refine lv_iconst (v := 0) hx hb dX10_isReference_29 (by decide) ?_
        have hP9 := hP.sub (ws' := [(y, .inr (10, [.ref y0, .ref y1, .ref y2, .ref y3, .ref y4, .ref y5, .ref y6, .int (nI yt), .int (nI yp), .ref y7, .ref y8, .ref y9, .ref y10, .ref y11, .ref y12, .ref y13])), (y0, .inl (kI, 3040, .inl fk))]) [0, 1] rfl
        have hD9 := hD.sub (ws' := [(y, .inr (10, [.ref y0, .ref y1, .ref y2, .ref y3, .ref y4, .ref y5, .ref y6, .int (nI yt), .int (nI yp), .ref y7, .ref y8, .ref y9, .ref y10, .ref y11, .ref y12, .ref y13])), (y0, .inl (kI, 3040, .inl fk))]) [0, 1] (by decide) rfl
        have hK9 := hK.sub (tys' := [(kI, .int)]) [0] rfl
        exact W.zret (v := 0) hx hb hr (by decide) (fun tS ht hW => ⟨⟨0, (), rfl, (Or.inr ⟨rfl, fun k2 hk2 he2 => by obtain rfl : k = k2 := (nI_eq (by omega) (by omega)).mp he2; exact ⟨fun q9 => hd (hv_1.trans q9), fun q9 => he (hv_2.trans q9)⟩⟩), by rw [ht]; exact hP9, va_K.moved hW.alike hK9, hD9⟩, hS.F ht⟩) hS.2.2 dX10_isReference_30
      · refine lv_iconst (v := 1) hx hb dX10_isReference_25 (by decide) ?_
        refine lv_goto (tgt := 30) hx hb dX10_isReference_26 (by decide) ?_
        have hP9 := hP.sub (ws' := [(y, .inr (10, [.ref y0, .ref y1, .ref y2, .ref y3, .ref y4, .ref y5, .ref y6, .int (nI yt), .int (nI yp), .ref y7, .ref y8, .ref y9, .ref y10, .ref y11, .ref y12, .ref y13])), (y0, .inl (kI, 3040, .inl fk))]) [0, 1] rfl
        have hD9 := hD.sub (ws' := [(y, .inr (10, [.ref y0, .ref y1, .ref y2, .ref y3, .ref y4, .ref y5, .ref y6, .int (nI yt), .int (nI yp), .ref y7, .ref y8, .ref y9, .ref y10, .ref y11, .ref y12, .ref y13])), (y0, .inl (kI, 3040, .inl fk))]) [0, 1] (by decide) rfl
        have hK9 := hK.sub (tys' := [(kI, .int)]) [0] rfl
        exact W.zret (v := 1) hx hb hr (by decide) (fun tS ht hW => ⟨⟨1, (), rfl, (Or.inl ⟨rfl, k, hk, rfl, Or.inr (hv_2.symm.trans he)⟩), by rw [ht]; exact hP9, va_K.moved hW.alike hK9, hD9⟩, hS.F ht⟩) hS.2.2 dX10_isReference_30
def wf_c_isCopied : List Cond := [.code yX10_isCopied cX10_isCopied 2 (some .boolean), .fieldLink RX10 9 "OwnedPlaces$Types" "kind" "[I"]
def wp_c_isCopied : List Cond := wf_c_isCopied ++ (wsX100 ++ [])
theorem in_c_isCopied_X10 : ∀ w ∈ wsX100, w ∈ wp_c_isCopied := fun w h => List.mem_append_right _ (List.mem_append_left _ h)
theorem wg_c_isCopied : wf_c_isCopied.all goodWord = true := by decide +kernel
theorem wm_c_isCopied (k : Nat) {w : Cond} (h : wp_c_isCopied[k]? = some w) : w ∈ wp_c_isCopied := List.mem_of_getElem? h
set_option maxHeartbeats 4000000 in
set_option maxRecDepth 100000 in
theorem c_isCopied (l : Launch) (dC : Nat → ClassId) (dI : Nat → Nat → Nat) (y y0 y1 y2 y3 y4 y5 y6 y7 y8 y9 y10 y11 y12 y13 : Nat) (yt yp : Nat) (k : Nat) (kI : ClassId) (fk : Nat → Int32) (sz : Nat) (hk : k < 3040) : Met l yX10_isCopied wp_c_isCopied ({ frames := 0, cells := 0, slots := 0, locals := 0 }) (va_Pc [.ref y, .int (nI k)] (fun U => U.heap.size = sz ∧ va_P (dC, dI) vwCl [(y, .inr (10, [.ref y0, .ref y1, .ref y2, .ref y3, .ref y4, .ref y5, .ref y6, .int (nI yt), .int (nI yp), .ref y7, .ref y8, .ref y9, .ref y10, .ref y11, .ref y12, .ref y13])), (y0, .inl (kI, 3040, .inl fk))] U.heap ∧ va_K (dC, dI) vwCl [(kI, .int)] U ∧ va_D (fun _ => True) [(y, .inr (10, [.ref y0, .ref y1, .ref y2, .ref y3, .ref y4, .ref y5, .ref y6, .int (nI yt), .int (nI yp), .ref y7, .ref y8, .ref y9, .ref y10, .ref y11, .ref y12, .ref y13])), (y0, .inl (kI, 3040, .inl fk))])) (va_Qi (fun (r : Int32) (_ : Unit) => (r = 1 ∧ (fk k = 0 ∨ fk k = 5)) ∨ (r = 0 ∧ fk k ≠ 0 ∧ fk k ≠ 5)) (fun (_ : Unit) (tS : State) => va_P (dC, dI) vwCl [(y, .inr (10, [.ref y0, .ref y1, .ref y2, .ref y3, .ref y4, .ref y5, .ref y6, .int (nI yt), .int (nI yp), .ref y7, .ref y8, .ref y9, .ref y10, .ref y11, .ref y12, .ref y13])), (y0, .inl (kI, 3040, .inl fk))] tS.heap ∧ va_K (dC, dI) vwCl [(kI, .int)] tS ∧ va_D (va_A [(y, .inr (10, [.ref y0, .ref y1, .ref y2, .ref y3, .ref y4, .ref y5, .ref y6, .int (nI yt), .int (nI yp), .ref y7, .ref y8, .ref y9, .ref y10, .ref y11, .ref y12, .ref y13])), (y0, .inl (kI, 3040, .inl fk))] sz) [(y, .inr (10, [.ref y0, .ref y1, .ref y2, .ref y3, .ref y4, .ref y5, .ref y6, .int (nI yt), .int (nI yp), .ref y7, .ref y8, .ref y9, .ref y10, .ref y11, .ref y12, .ref y13])), (y0, .inl (kI, 3040, .inl fk))]) (va_A [(y, .inr (10, [.ref y0, .ref y1, .ref y2, .ref y3, .ref y4, .ref y5, .ref y6, .int (nI yt), .int (nI yp), .ref y7, .ref y8, .ref y9, .ref y10, .ref y11, .ref y12, .ref y13])), (y0, .inl (kI, 3040, .inl fk))] sz)) 0 0 (va_A [(y, .inr (10, [.ref y0, .ref y1, .ref y2, .ref y3, .ref y4, .ref y5, .ref y6, .int (nI yt), .int (nI yp), .ref y7, .ref y8, .ref y9, .ref y10, .ref y11, .ref y12, .ref y13])), (y0, .inl (kI, 3040, .inl fk))] sz) := by
  refine Met.ofW (cc := cX10_isCopied) (maxL := 2) (ret := (some .boolean)) (by decide) rfl ?_
  intro p e s m args below meth c s₁ B hml hv
  obtain ⟨rfl, hsz, hP, hK, hD0⟩ := hv
  have hx := B.exec
  have hb := B.bytes
  have hr := B.returns
  have hts := atoms_spec (ws := wp_c_isCopied) B.pre
  have hown : s.vm.findClass RX10 = some m.cls := findClass_of_methodNamed B.named
  have hlocks := B.notSynchronized
  subst hsz
  have hD := hD0.self (sz := s.heap.size)
  generalize hAe : va_A [(y, .inr (10, [.ref y0, .ref y1, .ref y2, .ref y3, .ref y4, .ref y5, .ref y6, .int (nI yt), .int (nI yp), .ref y7, .ref y8, .ref y9, .ref y10, .ref y11, .ref y12, .ref y13])), (y0, .inl (kI, 3040, .inl fk))] s.heap.size = A at hD ⊢
  have hA : ∀ q : Nat, s.heap.size ≤ q → A q := fun q h => by rw [← hAe]; exact Or.inr h
  have hS : va_S A s.heap s.heap [] := va_S.rf
  have hP : va_P (dC, dI) vwCl [(y, .inr (10, [.ref y0, .ref y1, .ref y2, .ref y3, .ref y4, .ref y5, .ref y6, .int (nI yt), .int (nI yp), .ref y7, .ref y8, .ref y9, .ref y10, .ref y11, .ref y12, .ref y13])), (y0, .inl (kI, 3040, .inl fk))] s.heap := hP
  have hl := lv_entry ([.ref y, .int (nI k)]) (n := 2) (Nat.le_of_ble_eq_true rfl)
  rw [lg_entry_eq]
  generalize (lg_sl ([.ref y, .int (nI k)]) ++ List.replicate (2 - (lg_sl ([.ref y, .int (nI k)])).length) Slot.unset).toArray = ls at hl ⊢
  have hl : lv_has ls 2 [(0, .ref y), (1, .int (nI k))] := hl
  refine lv_aload_n hx hb dX10_isCopied_0 rfl (lv_at hl 0 rfl) ?_
  refine va_get (D := (dC, dI)) (ci := 10) (v := .ref y0) (C := RX10) (T := TX10) (N := 16) hx hb hts in_c_isCopied_X10 hown hK hP 0 rfl rfl 0 (by decide) (hts (.fieldLink RX10 9 "OwnedPlaces$Types" "kind" "[I") (wm_c_isCopied 1 rfl)) (fun _ h9 => h9) rfl dX10_isCopied_1 ?_
  refine lv_iload_n hx hb dX10_isCopied_4 rfl (lv_at hl 1 rfl) ?_
  refine va_iald hx hb hK hP 1 0 rfl rfl (vp_in_nI (by omega) (by decide)) dX10_isCopied_5 ?_
  refine lv_topi (fun v_1 ev_1 => ?_)
  have hv_1 : v_1 = fk k := ev_1.trans (by rw [nI_clamp (by omega)])
  refine lv_if_eq (tgt := 19) hx hb dX10_isCopied_6 (by decide) (fun hc => ?_) (fun hc => ?_)
  · refine lv_iconst (v := 1) hx hb dX10_isCopied_19 (by decide) ?_
    refine lv_goto (tgt := 24) hx hb dX10_isCopied_20 (by decide) ?_
    have hP9 := hP.sub (ws' := [(y, .inr (10, [.ref y0, .ref y1, .ref y2, .ref y3, .ref y4, .ref y5, .ref y6, .int (nI yt), .int (nI yp), .ref y7, .ref y8, .ref y9, .ref y10, .ref y11, .ref y12, .ref y13])), (y0, .inl (kI, 3040, .inl fk))]) [0, 1] rfl
    have hD9 := hD.sub (ws' := [(y, .inr (10, [.ref y0, .ref y1, .ref y2, .ref y3, .ref y4, .ref y5, .ref y6, .int (nI yt), .int (nI yp), .ref y7, .ref y8, .ref y9, .ref y10, .ref y11, .ref y12, .ref y13])), (y0, .inl (kI, 3040, .inl fk))]) [0, 1] (by decide) rfl
    have hK9 := hK.sub (tys' := [(kI, .int)]) [0] rfl
    exact W.zret (v := 1) hx hb hr (by decide) (fun tS ht hW => ⟨⟨1, (), rfl, (Or.inl ⟨rfl, Or.inl (hv_1.symm.trans hc)⟩), by rw [ht]; exact hP9, va_K.moved hW.alike hK9, hD9⟩, hS.F ht⟩) hS.2.2 dX10_isCopied_24
  · refine lv_aload_n hx hb dX10_isCopied_9 rfl (lv_at hl 0 rfl) ?_
    refine va_get (D := (dC, dI)) (ci := 10) (v := .ref y0) (C := RX10) (T := TX10) (N := 16) hx hb hts in_c_isCopied_X10 hown hK hP 0 rfl rfl 0 (by decide) (hts (.fieldLink RX10 9 "OwnedPlaces$Types" "kind" "[I") (wm_c_isCopied 1 rfl)) (fun _ h9 => h9) rfl dX10_isCopied_10 ?_
    refine lv_iload_n hx hb dX10_isCopied_13 rfl (lv_at hl 1 rfl) ?_
    refine va_iald hx hb hK hP 1 0 rfl rfl (vp_in_nI (by omega) (by decide)) dX10_isCopied_14 ?_
    refine lv_topi (fun v_2 ev_2 => ?_)
    have hv_2 : v_2 = fk k := ev_2.trans (by rw [nI_clamp (by omega)])
    refine lv_iconst (v := 5) hx hb dX10_isCopied_15 (by decide) ?_
    refine lv_icmp_ne (tgt := 23) hx hb dX10_isCopied_16 (by decide) (fun hd => ?_) (fun hd => ?_)
    · refine lv_iconst (v := 0) hx hb dX10_isCopied_23 (by decide) ?_
      have hP9 := hP.sub (ws' := [(y, .inr (10, [.ref y0, .ref y1, .ref y2, .ref y3, .ref y4, .ref y5, .ref y6, .int (nI yt), .int (nI yp), .ref y7, .ref y8, .ref y9, .ref y10, .ref y11, .ref y12, .ref y13])), (y0, .inl (kI, 3040, .inl fk))]) [0, 1] rfl
      have hD9 := hD.sub (ws' := [(y, .inr (10, [.ref y0, .ref y1, .ref y2, .ref y3, .ref y4, .ref y5, .ref y6, .int (nI yt), .int (nI yp), .ref y7, .ref y8, .ref y9, .ref y10, .ref y11, .ref y12, .ref y13])), (y0, .inl (kI, 3040, .inl fk))]) [0, 1] (by decide) rfl
      have hK9 := hK.sub (tys' := [(kI, .int)]) [0] rfl
      exact W.zret (v := 0) hx hb hr (by decide) (fun tS ht hW => ⟨⟨0, (), rfl, (Or.inr ⟨rfl, fun q => hc (hv_1.trans q), fun q => hd (hv_2.trans q)⟩), by rw [ht]; exact hP9, va_K.moved hW.alike hK9, hD9⟩, hS.F ht⟩) hS.2.2 dX10_isCopied_24
    · refine lv_iconst (v := 1) hx hb dX10_isCopied_19 (by decide) ?_
      refine lv_goto (tgt := 24) hx hb dX10_isCopied_20 (by decide) ?_
      have hP9 := hP.sub (ws' := [(y, .inr (10, [.ref y0, .ref y1, .ref y2, .ref y3, .ref y4, .ref y5, .ref y6, .int (nI yt), .int (nI yp), .ref y7, .ref y8, .ref y9, .ref y10, .ref y11, .ref y12, .ref y13])), (y0, .inl (kI, 3040, .inl fk))]) [0, 1] rfl
      have hD9 := hD.sub (ws' := [(y, .inr (10, [.ref y0, .ref y1, .ref y2, .ref y3, .ref y4, .ref y5, .ref y6, .int (nI yt), .int (nI yp), .ref y7, .ref y8, .ref y9, .ref y10, .ref y11, .ref y12, .ref y13])), (y0, .inl (kI, 3040, .inl fk))]) [0, 1] (by decide) rfl
      have hK9 := hK.sub (tys' := [(kI, .int)]) [0] rfl
      exact W.zret (v := 1) hx hb hr (by decide) (fun tS ht hW => ⟨⟨1, (), rfl, (Or.inl ⟨rfl, Or.inr (hv_2.symm.trans hd)⟩), by rw [ht]; exact hP9, va_K.moved hW.alike hK9, hD9⟩, hS.F ht⟩) hS.2.2 dX10_isCopied_24
def wf_c_rowOf : List Cond := [.code yX10_rowOf cX10_rowOf 3 (some .int)]
def wp_c_rowOf : List Cond := wf_c_rowOf ++ []
theorem wg_c_rowOf : wf_c_rowOf.all goodWord = true := by decide +kernel
theorem wm_c_rowOf (k : Nat) {w : Cond} (h : wp_c_rowOf[k]? = some w) : w ∈ wp_c_rowOf := List.mem_of_getElem? h
set_option maxHeartbeats 4000000 in
set_option maxRecDepth 100000 in
theorem c_rowOf (l : Launch) (dC : Nat → ClassId) (dI : Nat → Nat → Nat) (y y0 y1 y2 y3 y4 y5 y6 y7 y8 y9 y10 y11 y12 y13 : Nat) (yt yp : Nat) (a b : Nat) (sz : Nat) : Met l yX10_rowOf wp_c_rowOf ({ frames := 0, cells := 0, slots := 0, locals := 0 }) (va_Pc [.ref y, .int (nI a), .int (nI b)] (fun U => U.heap.size = sz ∧ va_P (dC, dI) vwCl [(y, .inr (10, [.ref y0, .ref y1, .ref y2, .ref y3, .ref y4, .ref y5, .ref y6, .int (nI yt), .int (nI yp), .ref y7, .ref y8, .ref y9, .ref y10, .ref y11, .ref y12, .ref y13]))] U.heap ∧ va_K (dC, dI) vwCl [] U ∧ va_D (fun _ => True) [(y, .inr (10, [.ref y0, .ref y1, .ref y2, .ref y3, .ref y4, .ref y5, .ref y6, .int (nI yt), .int (nI yp), .ref y7, .ref y8, .ref y9, .ref y10, .ref y11, .ref y12, .ref y13]))])) (va_Qi (fun (r : Int32) (_ : Unit) => r = nI (a * 12 + b)) (fun (_ : Unit) (tS : State) => va_P (dC, dI) vwCl [(y, .inr (10, [.ref y0, .ref y1, .ref y2, .ref y3, .ref y4, .ref y5, .ref y6, .int (nI yt), .int (nI yp), .ref y7, .ref y8, .ref y9, .ref y10, .ref y11, .ref y12, .ref y13]))] tS.heap ∧ va_K (dC, dI) vwCl [] tS ∧ va_D (va_A [(y, .inr (10, [.ref y0, .ref y1, .ref y2, .ref y3, .ref y4, .ref y5, .ref y6, .int (nI yt), .int (nI yp), .ref y7, .ref y8, .ref y9, .ref y10, .ref y11, .ref y12, .ref y13]))] sz) [(y, .inr (10, [.ref y0, .ref y1, .ref y2, .ref y3, .ref y4, .ref y5, .ref y6, .int (nI yt), .int (nI yp), .ref y7, .ref y8, .ref y9, .ref y10, .ref y11, .ref y12, .ref y13]))]) (va_A [(y, .inr (10, [.ref y0, .ref y1, .ref y2, .ref y3, .ref y4, .ref y5, .ref y6, .int (nI yt), .int (nI yp), .ref y7, .ref y8, .ref y9, .ref y10, .ref y11, .ref y12, .ref y13]))] sz)) 0 0 (va_A [(y, .inr (10, [.ref y0, .ref y1, .ref y2, .ref y3, .ref y4, .ref y5, .ref y6, .int (nI yt), .int (nI yp), .ref y7, .ref y8, .ref y9, .ref y10, .ref y11, .ref y12, .ref y13]))] sz) := by
  refine Met.ofW (cc := cX10_rowOf) (maxL := 3) (ret := (some .int)) (by decide) rfl ?_
  intro p e s m args below meth c s₁ B hml hv
  obtain ⟨rfl, hsz, hP, hK, hD0⟩ := hv
  have hx := B.exec
  have hb := B.bytes
  have hr := B.returns
  have hts := atoms_spec (ws := wp_c_rowOf) B.pre
  have hown : s.vm.findClass RX10 = some m.cls := findClass_of_methodNamed B.named
  have hlocks := B.notSynchronized
  subst hsz
  have hD := hD0.self (sz := s.heap.size)
  generalize hAe : va_A [(y, .inr (10, [.ref y0, .ref y1, .ref y2, .ref y3, .ref y4, .ref y5, .ref y6, .int (nI yt), .int (nI yp), .ref y7, .ref y8, .ref y9, .ref y10, .ref y11, .ref y12, .ref y13]))] s.heap.size = A at hD ⊢
  have hA : ∀ q : Nat, s.heap.size ≤ q → A q := fun q h => by rw [← hAe]; exact Or.inr h
  have hS : va_S A s.heap s.heap [] := va_S.rf
  have hP : va_P (dC, dI) vwCl [(y, .inr (10, [.ref y0, .ref y1, .ref y2, .ref y3, .ref y4, .ref y5, .ref y6, .int (nI yt), .int (nI yp), .ref y7, .ref y8, .ref y9, .ref y10, .ref y11, .ref y12, .ref y13]))] s.heap := hP
  have hl := lv_entry ([.ref y, .int (nI a), .int (nI b)]) (n := 3) (Nat.le_of_ble_eq_true rfl)
  rw [lg_entry_eq]
  generalize (lg_sl ([.ref y, .int (nI a), .int (nI b)]) ++ List.replicate (3 - (lg_sl ([.ref y, .int (nI a), .int (nI b)])).length) Slot.unset).toArray = ls at hl ⊢
  have hl : lv_has ls 3 [(0, .ref y), (1, .int (nI a)), (2, .int (nI b))] := hl
  refine lv_iload_n hx hb dX10_rowOf_0 rfl (lv_at hl 1 rfl) ?_
  refine lv_bipush (v := 12) hx hb dX10_rowOf_1 (by decide) ?_
  refine lv_imul hx hb dX10_rowOf_3 ?_
  refine lv_topi (fun f_1 ef_1 => ?_)
  obtain rfl : f_1 = nI (a * 12) := ef_1.trans (pk_mul a 12)
  refine lv_iload_n hx hb dX10_rowOf_4 rfl (lv_at hl 2 rfl) ?_
  refine lv_iadd hx hb dX10_rowOf_5 ?_
  refine lv_topi (fun f_2 ef_2 => ?_)
  obtain rfl : f_2 = nI (a * 12 + b) := ef_2.trans (nI_add _ _)
  have hP9 := hP.sub (ws' := [(y, .inr (10, [.ref y0, .ref y1, .ref y2, .ref y3, .ref y4, .ref y5, .ref y6, .int (nI yt), .int (nI yp), .ref y7, .ref y8, .ref y9, .ref y10, .ref y11, .ref y12, .ref y13]))]) [0] rfl
  have hD9 := hD.sub (ws' := [(y, .inr (10, [.ref y0, .ref y1, .ref y2, .ref y3, .ref y4, .ref y5, .ref y6, .int (nI yt), .int (nI yp), .ref y7, .ref y8, .ref y9, .ref y10, .ref y11, .ref y12, .ref y13]))]) [0] (by decide) rfl
  have hK9 := hK.sub (tys' := []) [] rfl
  exact W.iret (v := nI (a * 12 + b)) hx hb hr (fun tS ht hW => ⟨⟨(nI (a * 12 + b)), (), rfl, rfl, by rw [ht]; exact hP9, va_K.moved hW.alike hK9, hD9⟩, hS.F ht⟩) hS.2.2 dX10_rowOf_6
end
-- 84.tfind.lean.txt
section
def wf_c_variantOf : List Cond := [.code yX10_variantOf cX10_variantOf 4 (some .int), .fieldLink RX10 37 "OwnedPlaces$Types" "variants" "[I", .fieldLink RX10 40 "OwnedPlaces$Types" "variantName" "[I"]
def wp_c_variantOf : List Cond := wf_c_variantOf ++ (wsX100 ++ [])
theorem in_c_variantOf_X10 : ∀ w ∈ wsX100, w ∈ wp_c_variantOf := fun w h => List.mem_append_right _ (List.mem_append_left _ h)
theorem wg_c_variantOf : wf_c_variantOf.all goodWord = true := by decide +kernel
theorem wm_c_variantOf (k : Nat) {w : Cond} (h : wp_c_variantOf[k]? = some w) : w ∈ wp_c_variantOf := List.mem_of_getElem? h
set_option maxHeartbeats 4000000 in
set_option maxRecDepth 100000 in
theorem c_variantOf (l : Launch) (dC : Nat → ClassId) (dI : Nat → Nat → Nat) (y y0 y1 y2 y3 y4 y5 y6 y7 y8 y9 y10 y11 y12 y13 : Nat) (yt yp : Nat) (a : Nat) (kI : ClassId) (fc fnm : Nat → Int32) (x2 : Int32) (sz : Nat) (ha : a < 30) (hI : upI 30 12 fc) : Met l yX10_variantOf wp_c_variantOf ({ frames := 0, cells := 0, slots := 0, locals := 0 }) (va_Pc [.ref y, .int (nI a), .int x2] (fun U => U.heap.size = sz ∧ va_P (dC, dI) vwCl [(y, .inr (10, [.ref y0, .ref y1, .ref y2, .ref y3, .ref y4, .ref y5, .ref y6, .int (nI yt), .int (nI yp), .ref y7, .ref y8, .ref y9, .ref y10, .ref y11, .ref y12, .ref y13])), (y8, .inl (kI, 30, .inl fc)), (y9, .inl (kI, 360, .inl fnm))] U.heap ∧ va_K (dC, dI) vwCl [(kI, .int)] U ∧ va_D (fun _ => True) [(y, .inr (10, [.ref y0, .ref y1, .ref y2, .ref y3, .ref y4, .ref y5, .ref y6, .int (nI yt), .int (nI yp), .ref y7, .ref y8, .ref y9, .ref y10, .ref y11, .ref y12, .ref y13])), (y8, .inl (kI, 30, .inl fc)), (y9, .inl (kI, 360, .inl fnm))])) (va_Qi (fun (r : Int32) (_ : Unit) => (r = -1 ∧ ∀ i : Nat, i < 12 → nI i < fc a → fnm (a * 12 + i) ≠ x2) ∨ ∃ i : Nat, r = nI i ∧ i < 12 ∧ nI i < fc a ∧ fnm (a * 12 + i) = x2) (fun (_ : Unit) (tS : State) => va_P (dC, dI) vwCl [(y, .inr (10, [.ref y0, .ref y1, .ref y2, .ref y3, .ref y4, .ref y5, .ref y6, .int (nI yt), .int (nI yp), .ref y7, .ref y8, .ref y9, .ref y10, .ref y11, .ref y12, .ref y13])), (y8, .inl (kI, 30, .inl fc)), (y9, .inl (kI, 360, .inl fnm))] tS.heap ∧ va_K (dC, dI) vwCl [(kI, .int)] tS ∧ va_D (va_A [(y, .inr (10, [.ref y0, .ref y1, .ref y2, .ref y3, .ref y4, .ref y5, .ref y6, .int (nI yt), .int (nI yp), .ref y7, .ref y8, .ref y9, .ref y10, .ref y11, .ref y12, .ref y13])), (y8, .inl (kI, 30, .inl fc)), (y9, .inl (kI, 360, .inl fnm))] sz) [(y, .inr (10, [.ref y0, .ref y1, .ref y2, .ref y3, .ref y4, .ref y5, .ref y6, .int (nI yt), .int (nI yp), .ref y7, .ref y8, .ref y9, .ref y10, .ref y11, .ref y12, .ref y13])), (y8, .inl (kI, 30, .inl fc)), (y9, .inl (kI, 360, .inl fnm))]) (va_A [(y, .inr (10, [.ref y0, .ref y1, .ref y2, .ref y3, .ref y4, .ref y5, .ref y6, .int (nI yt), .int (nI yp), .ref y7, .ref y8, .ref y9, .ref y10, .ref y11, .ref y12, .ref y13])), (y8, .inl (kI, 30, .inl fc)), (y9, .inl (kI, 360, .inl fnm))] sz)) 0 0 (va_A [(y, .inr (10, [.ref y0, .ref y1, .ref y2, .ref y3, .ref y4, .ref y5, .ref y6, .int (nI yt), .int (nI yp), .ref y7, .ref y8, .ref y9, .ref y10, .ref y11, .ref y12, .ref y13])), (y8, .inl (kI, 30, .inl fc)), (y9, .inl (kI, 360, .inl fnm))] sz) := by
  refine Met.ofW (cc := cX10_variantOf) (maxL := 4) (ret := (some .int)) (by decide) rfl ?_
  intro p e s m args below meth c s₁ B hml hv
  obtain ⟨rfl, hsz, hP, hK, hD0⟩ := hv
  have hx := B.exec
  have hb := B.bytes
  have hr := B.returns
  have hts := atoms_spec (ws := wp_c_variantOf) B.pre
  have hown : s.vm.findClass RX10 = some m.cls := findClass_of_methodNamed B.named
  have hlocks := B.notSynchronized
  subst hsz
  have hD := hD0.self (sz := s.heap.size)
  generalize hAe : va_A [(y, .inr (10, [.ref y0, .ref y1, .ref y2, .ref y3, .ref y4, .ref y5, .ref y6, .int (nI yt), .int (nI yp), .ref y7, .ref y8, .ref y9, .ref y10, .ref y11, .ref y12, .ref y13])), (y8, .inl (kI, 30, .inl fc)), (y9, .inl (kI, 360, .inl fnm))] s.heap.size = A at hD ⊢
  have hA : ∀ q : Nat, s.heap.size ≤ q → A q := fun q h => by rw [← hAe]; exact Or.inr h
  have hS : va_S A s.heap s.heap [] := va_S.rf
  have hP : va_P (dC, dI) vwCl [(y, .inr (10, [.ref y0, .ref y1, .ref y2, .ref y3, .ref y4, .ref y5, .ref y6, .int (nI yt), .int (nI yp), .ref y7, .ref y8, .ref y9, .ref y10, .ref y11, .ref y12, .ref y13])), (y8, .inl (kI, 30, .inl fc)), (y9, .inl (kI, 360, .inl fnm))] s.heap := hP
  have hl := lv_entry ([.ref y, .int (nI a), .int x2]) (n := 4) (Nat.le_of_ble_eq_true rfl)
  rw [lg_entry_eq]
  generalize (lg_sl ([.ref y, .int (nI a), .int x2]) ++ List.replicate (4 - (lg_sl ([.ref y, .int (nI a), .int x2])).length) Slot.unset).toArray = ls at hl ⊢
  have hl : lv_has ls 4 [(0, .ref y), (1, .int (nI a)), (2, .int x2)] := hl
  obtain ⟨kc, hkc, hkce⟩ := hI a ha
  refine lv_iconst (v := 0) hx hb dX10_variantOf_0 (by decide) ?_
  refine lv_istore_n (lv' := [(3, .int 0), (0, .ref y), (1, .int (nI a)), (2, .int x2)]) hx hb dX10_variantOf_1 rfl hl (by decide) rfl (fun ls hl => ?_)
  refine W_q (fun Q1 hQ1 => ?_)
  have key1 : ∀ (n1 : Nat) (j : Nat) (H : Heap) (locs : List Loc) (ls : Array Slot), (j + n1 = kc + 1 ∧ j ≤ kc) → (∀ i : Nat, i < j → fnm (a * 12 + i) ≠ x2) → va_P (dC, dI) vwCl [(y, .inr (10, [.ref y0, .ref y1, .ref y2, .ref y3, .ref y4, .ref y5, .ref y6, .int (nI yt), .int (nI yp), .ref y7, .ref y8, .ref y9, .ref y10, .ref y11, .ref y12, .ref y13])), (y8, .inl (kI, 30, .inl fc)), (y9, .inl (kI, 360, .inl fnm))] H → va_D A [(y, .inr (10, [.ref y0, .ref y1, .ref y2, .ref y3, .ref y4, .ref y5, .ref y6, .int (nI yt), .int (nI yp), .ref y7, .ref y8, .ref y9, .ref y10, .ref y11, .ref y12, .ref y13])), (y8, .inl (kI, 30, .inl fc)), (y9, .inl (kI, 360, .inl fnm))] → va_S A s.heap H locs → lv_has ls 4 [(3, .int (nI j)), (0, .ref y), (1, .int (nI a)), (2, .int x2)] → W p l e (headSpec wp_c_variantOf ({ frames := 0, cells := 0, slots := 0, locals := 0 })).room s m ([.ref y, .int (nI a), .int x2] : List Value).toArray below meth c H locs 0 0 Q1 (F0 m 2 ls []) := by
    intro n1
    induction n1 with
    | zero => intro j H locs ls hb0 hb1; exact absurd hb0 (by omega)
    | succ n1 ih1 =>
      intro j H locs ls hb0 hb1 hP hD hS hl
      refine lv_iload_n hx hb dX10_variantOf_2 rfl (lv_at hl 0 rfl) ?_
      refine lv_aload_n hx hb dX10_variantOf_3 rfl (lv_at hl 1 rfl) ?_
      refine va_get (D := (dC, dI)) (ci := 10) (v := .ref y8) (C := RX10) (T := TX10) (N := 16) hx hb hts in_c_variantOf_X10 hown hK hP 0 rfl rfl 10 (by decide) (hts (.fieldLink RX10 37 "OwnedPlaces$Types" "variants" "[I") (wm_c_variantOf 1 rfl)) (fun _ h9 => h9) rfl dX10_variantOf_4 ?_
      refine lv_iload_n hx hb dX10_variantOf_7 rfl (lv_at hl 2 rfl) ?_
      refine va_iald hx hb hK hP 1 0 rfl rfl (vp_in_nI (by omega) (by decide)) dX10_variantOf_8 ?_
      refine lv_topi (fun v_1 ev_1 => ?_)
      have hv_1 : v_1 = fc a := ev_1.trans (by rw [nI_clamp (by omega)])
      obtain rfl : v_1 = nI kc := hv_1.trans hkce
      refine lv_icmp_ge (tgt := 35) hx hb dX10_variantOf_9 (by decide) (fun hc => ?_) (fun hc => ?_)
      · have hj : j = kc := by have := (nI_leI (a := kc) (b := j) (by omega) (by omega)).mp hc; omega
        refine lv_iconst (v := (-1)) hx hb dX10_variantOf_35 (by decide) ?_
        have hP9 := hP.sub (ws' := [(y, .inr (10, [.ref y0, .ref y1, .ref y2, .ref y3, .ref y4, .ref y5, .ref y6, .int (nI yt), .int (nI yp), .ref y7, .ref y8, .ref y9, .ref y10, .ref y11, .ref y12, .ref y13])), (y8, .inl (kI, 30, .inl fc)), (y9, .inl (kI, 360, .inl fnm))]) [0, 1, 2] rfl
        have hD9 := hD.sub (ws' := [(y, .inr (10, [.ref y0, .ref y1, .ref y2, .ref y3, .ref y4, .ref y5, .ref y6, .int (nI yt), .int (nI yp), .ref y7, .ref y8, .ref y9, .ref y10, .ref y11, .ref y12, .ref y13])), (y8, .inl (kI, 30, .inl fc)), (y9, .inl (kI, 360, .inl fnm))]) [0, 1, 2] (by decide) rfl
        have hK9 := hK.sub (tys' := [(kI, .int)]) [0] rfl
        subst hQ1
        exact W.iret (v := (-1)) hx hb hr (fun tS ht hW => ⟨⟨(-1), (), rfl, (Or.inl ⟨rfl, fun i hi hlt => hb1 i (by rw [hkce] at hlt; have := (nI_ltI (a := i) (b := kc) (by omega) (by omega)).mp hlt; omega)⟩), by rw [ht]; exact hP9, va_K.moved hW.alike hK9, hD9⟩, hS.F ht⟩) hS.2.2 dX10_variantOf_36
      · have hj : j < kc := by rcases Nat.lt_or_ge j kc with z9 | z9; exact z9; exact absurd (nI_le z9 (by omega)) hc
        refine lv_aload_n hx hb dX10_variantOf_12 rfl (lv_at hl 1 rfl) ?_
        refine va_get (D := (dC, dI)) (ci := 10) (v := .ref y9) (C := RX10) (T := TX10) (N := 16) hx hb hts in_c_variantOf_X10 hown hK hP 0 rfl rfl 11 (by decide) (hts (.fieldLink RX10 40 "OwnedPlaces$Types" "variantName" "[I") (wm_c_variantOf 2 rfl)) (fun _ h9 => h9) rfl dX10_variantOf_13 ?_
        refine lv_iload_n hx hb dX10_variantOf_16 rfl (lv_at hl 2 rfl) ?_
        refine lv_bipush (v := 12) hx hb dX10_variantOf_17 (by decide) ?_
        refine lv_imul hx hb dX10_variantOf_19 ?_
        refine lv_topi (fun f_2 ef_2 => ?_)
        obtain rfl : f_2 = nI (a * 12) := ef_2.trans (pk_mul a 12)
        refine lv_iload_n hx hb dX10_variantOf_20 rfl (lv_at hl 0 rfl) ?_
        refine lv_iadd hx hb dX10_variantOf_21 ?_
        refine lv_topi (fun f_3 ef_3 => ?_)
        obtain rfl : f_3 = nI (a * 12 + j) := ef_3.trans (nI_add _ _)
        refine va_iald hx hb hK hP 2 0 rfl rfl (vp_in_nI (by omega) (by decide)) dX10_variantOf_22 ?_
        refine lv_topi (fun v_4 ev_4 => ?_)
        have hv_4 : v_4 = fnm (a * 12 + j) := ev_4.trans (by rw [nI_clamp (by omega)])
        refine lv_iload_n hx hb dX10_variantOf_23 rfl (lv_at hl 3 rfl) ?_
        refine lv_icmp_ne (tgt := 29) hx hb dX10_variantOf_24 (by decide) (fun hd => ?_) (fun hd => ?_)
        · obtain ⟨x_5, ex_5⟩ : ∃ yY : Int32, yY = (nI j) + 1 := ⟨_, rfl⟩
          refine lv_iinc (v := x_5) (lv' := [(3, .int x_5), (0, .ref y), (1, .int (nI a)), (2, .int x2)]) hx hb dX10_variantOf_29 hl (k := 0) rfl (by rw [ex_5]; rfl) (by decide) rfl (fun ls hl => ?_)
          obtain rfl : x_5 = nI (j + 1) := by rw [ex_5]; exact nI_1 j
          have hl : lv_has ls 4 [(3, .int (nI (j + 1))), (0, .ref y), (1, .int (nI a)), (2, .int x2)] := hl
          refine lv_goto (tgt := 2) hx hb dX10_variantOf_32 (by decide) ?_
          exact ih1 (j + 1) _ _ _ (by omega) (fun i hi => by rcases Nat.lt_or_ge i j with z9 | z9; exact hb1 i z9; rw [show i = j by omega]; exact fun q9 => hd (hv_4.trans q9)) (hP.sub [0, 1, 2] rfl) (hD.sub [0, 1, 2] (by decide) rfl) hS (lv_sub hl [0, 1, 2, 3] rfl)
        · refine lv_iload_n hx hb dX10_variantOf_27 rfl (lv_at hl 0 rfl) ?_
          have hP9 := hP.sub (ws' := [(y, .inr (10, [.ref y0, .ref y1, .ref y2, .ref y3, .ref y4, .ref y5, .ref y6, .int (nI yt), .int (nI yp), .ref y7, .ref y8, .ref y9, .ref y10, .ref y11, .ref y12, .ref y13])), (y8, .inl (kI, 30, .inl fc)), (y9, .inl (kI, 360, .inl fnm))]) [0, 1, 2] rfl
          have hD9 := hD.sub (ws' := [(y, .inr (10, [.ref y0, .ref y1, .ref y2, .ref y3, .ref y4, .ref y5, .ref y6, .int (nI yt), .int (nI yp), .ref y7, .ref y8, .ref y9, .ref y10, .ref y11, .ref y12, .ref y13])), (y8, .inl (kI, 30, .inl fc)), (y9, .inl (kI, 360, .inl fnm))]) [0, 1, 2] (by decide) rfl
          have hK9 := hK.sub (tys' := [(kI, .int)]) [0] rfl
          subst hQ1
          exact W.iret (v := nI j) hx hb hr (fun tS ht hW => ⟨⟨(nI j), (), rfl, (Or.inr ⟨j, rfl, by omega, by rw [hkce]; exact nI_lt hj (by omega), hv_4.symm.trans hd⟩), by rw [ht]; exact hP9, va_K.moved hW.alike hK9, hD9⟩, hS.F ht⟩) hS.2.2 dX10_variantOf_28
  exact key1 (kc + 1) 0 _ _ _ (by omega) (fun i hi => absurd hi (by omega)) (hP.sub [0, 1, 2] rfl) (hD.sub [0, 1, 2] (by decide) rfl) hS (lv_sub hl [0, 1, 2, 3] rfl)
def wf_c_partOf : List Cond := [.code yX10_partOf cX10_partOf 4 (some .int), .fieldLink RX10 43 "OwnedPlaces$Types" "parts" "[I", .fieldLink RX10 46 "OwnedPlaces$Types" "partName" "[I"]
def wp_c_partOf : List Cond := wf_c_partOf ++ (wsX100 ++ [])
theorem in_c_partOf_X10 : ∀ w ∈ wsX100, w ∈ wp_c_partOf := fun w h => List.mem_append_right _ (List.mem_append_left _ h)
theorem wg_c_partOf : wf_c_partOf.all goodWord = true := by decide +kernel
theorem wm_c_partOf (k : Nat) {w : Cond} (h : wp_c_partOf[k]? = some w) : w ∈ wp_c_partOf := List.mem_of_getElem? h
set_option maxHeartbeats 4000000 in
set_option maxRecDepth 100000 in
theorem c_partOf (l : Launch) (dC : Nat → ClassId) (dI : Nat → Nat → Nat) (y y0 y1 y2 y3 y4 y5 y6 y7 y8 y9 y10 y11 y12 y13 : Nat) (yt yp : Nat) (a : Nat) (kI : ClassId) (fc fnm : Nat → Int32) (x2 : Int32) (sz : Nat) (ha : a < 360) (hI : upI 360 12 fc) : Met l yX10_partOf wp_c_partOf ({ frames := 0, cells := 0, slots := 0, locals := 0 }) (va_Pc [.ref y, .int (nI a), .int x2] (fun U => U.heap.size = sz ∧ va_P (dC, dI) vwCl [(y, .inr (10, [.ref y0, .ref y1, .ref y2, .ref y3, .ref y4, .ref y5, .ref y6, .int (nI yt), .int (nI yp), .ref y7, .ref y8, .ref y9, .ref y10, .ref y11, .ref y12, .ref y13])), (y10, .inl (kI, 360, .inl fc)), (y11, .inl (kI, 4320, .inl fnm))] U.heap ∧ va_K (dC, dI) vwCl [(kI, .int)] U ∧ va_D (fun _ => True) [(y, .inr (10, [.ref y0, .ref y1, .ref y2, .ref y3, .ref y4, .ref y5, .ref y6, .int (nI yt), .int (nI yp), .ref y7, .ref y8, .ref y9, .ref y10, .ref y11, .ref y12, .ref y13])), (y10, .inl (kI, 360, .inl fc)), (y11, .inl (kI, 4320, .inl fnm))])) (va_Qi (fun (r : Int32) (_ : Unit) => (r = -1 ∧ ∀ i : Nat, i < 12 → nI i < fc a → fnm (a * 12 + i) ≠ x2) ∨ ∃ i : Nat, r = nI i ∧ i < 12 ∧ nI i < fc a ∧ fnm (a * 12 + i) = x2) (fun (_ : Unit) (tS : State) => va_P (dC, dI) vwCl [(y, .inr (10, [.ref y0, .ref y1, .ref y2, .ref y3, .ref y4, .ref y5, .ref y6, .int (nI yt), .int (nI yp), .ref y7, .ref y8, .ref y9, .ref y10, .ref y11, .ref y12, .ref y13])), (y10, .inl (kI, 360, .inl fc)), (y11, .inl (kI, 4320, .inl fnm))] tS.heap ∧ va_K (dC, dI) vwCl [(kI, .int)] tS ∧ va_D (va_A [(y, .inr (10, [.ref y0, .ref y1, .ref y2, .ref y3, .ref y4, .ref y5, .ref y6, .int (nI yt), .int (nI yp), .ref y7, .ref y8, .ref y9, .ref y10, .ref y11, .ref y12, .ref y13])), (y10, .inl (kI, 360, .inl fc)), (y11, .inl (kI, 4320, .inl fnm))] sz) [(y, .inr (10, [.ref y0, .ref y1, .ref y2, .ref y3, .ref y4, .ref y5, .ref y6, .int (nI yt), .int (nI yp), .ref y7, .ref y8, .ref y9, .ref y10, .ref y11, .ref y12, .ref y13])), (y10, .inl (kI, 360, .inl fc)), (y11, .inl (kI, 4320, .inl fnm))]) (va_A [(y, .inr (10, [.ref y0, .ref y1, .ref y2, .ref y3, .ref y4, .ref y5, .ref y6, .int (nI yt), .int (nI yp), .ref y7, .ref y8, .ref y9, .ref y10, .ref y11, .ref y12, .ref y13])), (y10, .inl (kI, 360, .inl fc)), (y11, .inl (kI, 4320, .inl fnm))] sz)) 0 0 (va_A [(y, .inr (10, [.ref y0, .ref y1, .ref y2, .ref y3, .ref y4, .ref y5, .ref y6, .int (nI yt), .int (nI yp), .ref y7, .ref y8, .ref y9, .ref y10, .ref y11, .ref y12, .ref y13])), (y10, .inl (kI, 360, .inl fc)), (y11, .inl (kI, 4320, .inl fnm))] sz) := by
  refine Met.ofW (cc := cX10_partOf) (maxL := 4) (ret := (some .int)) (by decide) rfl ?_
  intro p e s m args below meth c s₁ B hml hv
  obtain ⟨rfl, hsz, hP, hK, hD0⟩ := hv
  have hx := B.exec
  have hb := B.bytes
  have hr := B.returns
  have hts := atoms_spec (ws := wp_c_partOf) B.pre
  have hown : s.vm.findClass RX10 = some m.cls := findClass_of_methodNamed B.named
  have hlocks := B.notSynchronized
  subst hsz
  have hD := hD0.self (sz := s.heap.size)
  generalize hAe : va_A [(y, .inr (10, [.ref y0, .ref y1, .ref y2, .ref y3, .ref y4, .ref y5, .ref y6, .int (nI yt), .int (nI yp), .ref y7, .ref y8, .ref y9, .ref y10, .ref y11, .ref y12, .ref y13])), (y10, .inl (kI, 360, .inl fc)), (y11, .inl (kI, 4320, .inl fnm))] s.heap.size = A at hD ⊢
  have hA : ∀ q : Nat, s.heap.size ≤ q → A q := fun q h => by rw [← hAe]; exact Or.inr h
  have hS : va_S A s.heap s.heap [] := va_S.rf
  have hP : va_P (dC, dI) vwCl [(y, .inr (10, [.ref y0, .ref y1, .ref y2, .ref y3, .ref y4, .ref y5, .ref y6, .int (nI yt), .int (nI yp), .ref y7, .ref y8, .ref y9, .ref y10, .ref y11, .ref y12, .ref y13])), (y10, .inl (kI, 360, .inl fc)), (y11, .inl (kI, 4320, .inl fnm))] s.heap := hP
  have hl := lv_entry ([.ref y, .int (nI a), .int x2]) (n := 4) (Nat.le_of_ble_eq_true rfl)
  rw [lg_entry_eq]
  generalize (lg_sl ([.ref y, .int (nI a), .int x2]) ++ List.replicate (4 - (lg_sl ([.ref y, .int (nI a), .int x2])).length) Slot.unset).toArray = ls at hl ⊢
  have hl : lv_has ls 4 [(0, .ref y), (1, .int (nI a)), (2, .int x2)] := hl
  obtain ⟨kc, hkc, hkce⟩ := hI a ha
  refine lv_iconst (v := 0) hx hb dX10_partOf_0 (by decide) ?_
  refine lv_istore_n (lv' := [(3, .int 0), (0, .ref y), (1, .int (nI a)), (2, .int x2)]) hx hb dX10_partOf_1 rfl hl (by decide) rfl (fun ls hl => ?_)
  refine W_q (fun Q1 hQ1 => ?_)
  have key1 : ∀ (n1 : Nat) (j : Nat) (H : Heap) (locs : List Loc) (ls : Array Slot), (j + n1 = kc + 1 ∧ j ≤ kc) → (∀ i : Nat, i < j → fnm (a * 12 + i) ≠ x2) → va_P (dC, dI) vwCl [(y, .inr (10, [.ref y0, .ref y1, .ref y2, .ref y3, .ref y4, .ref y5, .ref y6, .int (nI yt), .int (nI yp), .ref y7, .ref y8, .ref y9, .ref y10, .ref y11, .ref y12, .ref y13])), (y10, .inl (kI, 360, .inl fc)), (y11, .inl (kI, 4320, .inl fnm))] H → va_D A [(y, .inr (10, [.ref y0, .ref y1, .ref y2, .ref y3, .ref y4, .ref y5, .ref y6, .int (nI yt), .int (nI yp), .ref y7, .ref y8, .ref y9, .ref y10, .ref y11, .ref y12, .ref y13])), (y10, .inl (kI, 360, .inl fc)), (y11, .inl (kI, 4320, .inl fnm))] → va_S A s.heap H locs → lv_has ls 4 [(3, .int (nI j)), (0, .ref y), (1, .int (nI a)), (2, .int x2)] → W p l e (headSpec wp_c_partOf ({ frames := 0, cells := 0, slots := 0, locals := 0 })).room s m ([.ref y, .int (nI a), .int x2] : List Value).toArray below meth c H locs 0 0 Q1 (F0 m 2 ls []) := by
    intro n1
    induction n1 with
    | zero => intro j H locs ls hb0 hb1; exact absurd hb0 (by omega)
    | succ n1 ih1 =>
      intro j H locs ls hb0 hb1 hP hD hS hl
      refine lv_iload_n hx hb dX10_partOf_2 rfl (lv_at hl 0 rfl) ?_
      refine lv_aload_n hx hb dX10_partOf_3 rfl (lv_at hl 1 rfl) ?_
      refine va_get (D := (dC, dI)) (ci := 10) (v := .ref y10) (C := RX10) (T := TX10) (N := 16) hx hb hts in_c_partOf_X10 hown hK hP 0 rfl rfl 12 (by decide) (hts (.fieldLink RX10 43 "OwnedPlaces$Types" "parts" "[I") (wm_c_partOf 1 rfl)) (fun _ h9 => h9) rfl dX10_partOf_4 ?_
      refine lv_iload_n hx hb dX10_partOf_7 rfl (lv_at hl 2 rfl) ?_
      refine va_iald hx hb hK hP 1 0 rfl rfl (vp_in_nI (by omega) (by decide)) dX10_partOf_8 ?_
      refine lv_topi (fun v_1 ev_1 => ?_)
      have hv_1 : v_1 = fc a := ev_1.trans (by rw [nI_clamp (by omega)])
      obtain rfl : v_1 = nI kc := hv_1.trans hkce
      refine lv_icmp_ge (tgt := 35) hx hb dX10_partOf_9 (by decide) (fun hc => ?_) (fun hc => ?_)
      · have hj : j = kc := by have := (nI_leI (a := kc) (b := j) (by omega) (by omega)).mp hc; omega
        refine lv_iconst (v := (-1)) hx hb dX10_partOf_35 (by decide) ?_
        have hP9 := hP.sub (ws' := [(y, .inr (10, [.ref y0, .ref y1, .ref y2, .ref y3, .ref y4, .ref y5, .ref y6, .int (nI yt), .int (nI yp), .ref y7, .ref y8, .ref y9, .ref y10, .ref y11, .ref y12, .ref y13])), (y10, .inl (kI, 360, .inl fc)), (y11, .inl (kI, 4320, .inl fnm))]) [0, 1, 2] rfl
        have hD9 := hD.sub (ws' := [(y, .inr (10, [.ref y0, .ref y1, .ref y2, .ref y3, .ref y4, .ref y5, .ref y6, .int (nI yt), .int (nI yp), .ref y7, .ref y8, .ref y9, .ref y10, .ref y11, .ref y12, .ref y13])), (y10, .inl (kI, 360, .inl fc)), (y11, .inl (kI, 4320, .inl fnm))]) [0, 1, 2] (by decide) rfl
        have hK9 := hK.sub (tys' := [(kI, .int)]) [0] rfl
        subst hQ1
        exact W.iret (v := (-1)) hx hb hr (fun tS ht hW => ⟨⟨(-1), (), rfl, (Or.inl ⟨rfl, fun i hi hlt => hb1 i (by rw [hkce] at hlt; have := (nI_ltI (a := i) (b := kc) (by omega) (by omega)).mp hlt; omega)⟩), by rw [ht]; exact hP9, va_K.moved hW.alike hK9, hD9⟩, hS.F ht⟩) hS.2.2 dX10_partOf_36
      · have hj : j < kc := by rcases Nat.lt_or_ge j kc with z9 | z9; exact z9; exact absurd (nI_le z9 (by omega)) hc
        refine lv_aload_n hx hb dX10_partOf_12 rfl (lv_at hl 1 rfl) ?_
        refine va_get (D := (dC, dI)) (ci := 10) (v := .ref y11) (C := RX10) (T := TX10) (N := 16) hx hb hts in_c_partOf_X10 hown hK hP 0 rfl rfl 13 (by decide) (hts (.fieldLink RX10 46 "OwnedPlaces$Types" "partName" "[I") (wm_c_partOf 2 rfl)) (fun _ h9 => h9) rfl dX10_partOf_13 ?_
        refine lv_iload_n hx hb dX10_partOf_16 rfl (lv_at hl 2 rfl) ?_
        refine lv_bipush (v := 12) hx hb dX10_partOf_17 (by decide) ?_
        refine lv_imul hx hb dX10_partOf_19 ?_
        refine lv_topi (fun f_2 ef_2 => ?_)
        obtain rfl : f_2 = nI (a * 12) := ef_2.trans (pk_mul a 12)
        refine lv_iload_n hx hb dX10_partOf_20 rfl (lv_at hl 0 rfl) ?_
        refine lv_iadd hx hb dX10_partOf_21 ?_
        refine lv_topi (fun f_3 ef_3 => ?_)
        obtain rfl : f_3 = nI (a * 12 + j) := ef_3.trans (nI_add _ _)
        refine va_iald hx hb hK hP 2 0 rfl rfl (vp_in_nI (by omega) (by decide)) dX10_partOf_22 ?_
        refine lv_topi (fun v_4 ev_4 => ?_)
        have hv_4 : v_4 = fnm (a * 12 + j) := ev_4.trans (by rw [nI_clamp (by omega)])
        refine lv_iload_n hx hb dX10_partOf_23 rfl (lv_at hl 3 rfl) ?_
        refine lv_icmp_ne (tgt := 29) hx hb dX10_partOf_24 (by decide) (fun hd => ?_) (fun hd => ?_)
        · obtain ⟨x_5, ex_5⟩ : ∃ yY : Int32, yY = (nI j) + 1 := ⟨_, rfl⟩
          refine lv_iinc (v := x_5) (lv' := [(3, .int x_5), (0, .ref y), (1, .int (nI a)), (2, .int x2)]) hx hb dX10_partOf_29 hl (k := 0) rfl (by rw [ex_5]; rfl) (by decide) rfl (fun ls hl => ?_)
          obtain rfl : x_5 = nI (j + 1) := by rw [ex_5]; exact nI_1 j
          have hl : lv_has ls 4 [(3, .int (nI (j + 1))), (0, .ref y), (1, .int (nI a)), (2, .int x2)] := hl
          refine lv_goto (tgt := 2) hx hb dX10_partOf_32 (by decide) ?_
          exact ih1 (j + 1) _ _ _ (by omega) (fun i hi => by rcases Nat.lt_or_ge i j with z9 | z9; exact hb1 i z9; rw [show i = j by omega]; exact fun q9 => hd (hv_4.trans q9)) (hP.sub [0, 1, 2] rfl) (hD.sub [0, 1, 2] (by decide) rfl) hS (lv_sub hl [0, 1, 2, 3] rfl)
        · refine lv_iload_n hx hb dX10_partOf_27 rfl (lv_at hl 0 rfl) ?_
          have hP9 := hP.sub (ws' := [(y, .inr (10, [.ref y0, .ref y1, .ref y2, .ref y3, .ref y4, .ref y5, .ref y6, .int (nI yt), .int (nI yp), .ref y7, .ref y8, .ref y9, .ref y10, .ref y11, .ref y12, .ref y13])), (y10, .inl (kI, 360, .inl fc)), (y11, .inl (kI, 4320, .inl fnm))]) [0, 1, 2] rfl
          have hD9 := hD.sub (ws' := [(y, .inr (10, [.ref y0, .ref y1, .ref y2, .ref y3, .ref y4, .ref y5, .ref y6, .int (nI yt), .int (nI yp), .ref y7, .ref y8, .ref y9, .ref y10, .ref y11, .ref y12, .ref y13])), (y10, .inl (kI, 360, .inl fc)), (y11, .inl (kI, 4320, .inl fnm))]) [0, 1, 2] (by decide) rfl
          have hK9 := hK.sub (tys' := [(kI, .int)]) [0] rfl
          subst hQ1
          exact W.iret (v := nI j) hx hb hr (fun tS ht hW => ⟨⟨(nI j), (), rfl, (Or.inr ⟨j, rfl, by omega, by rw [hkce]; exact nI_lt hj (by omega), hv_4.symm.trans hd⟩), by rw [ht]; exact hP9, va_K.moved hW.alike hK9, hD9⟩, hS.F ht⟩) hS.2.2 dX10_partOf_28
  exact key1 (kc + 1) 0 _ _ _ (by omega) (fun i hi => absurd hi (by omega)) (hP.sub [0, 1, 2] rfl) (hD.sub [0, 1, 2] (by decide) rfl) hS (lv_sub hl [0, 1, 2, 3] rfl)
end
