def wf_c_letter : List Cond := [.code yX9_isLetter cX9_isLetter 1 (some .boolean)]
def wp_c_letter : List Cond := wf_c_letter ++ []
theorem wg_c_letter : wf_c_letter.all goodWord = true := by decide +kernel
theorem wm_c_letter (k : Nat) {w : Cond} (h : wp_c_letter[k]? = some w) : w ∈ wp_c_letter := List.mem_of_getElem? h
set_option maxHeartbeats 4000000 in
set_option maxRecDepth 100000 in
theorem c_letter (l : Launch) (dC : Nat → ClassId) (dI : Nat → Nat → Nat) (ch : Int32) (sz : Nat) : Met l yX9_isLetter wp_c_letter ({ frames := 0, cells := 0, slots := 0, locals := 0 }) (va_Pc [.int ch] (fun U => U.heap.size = sz ∧ va_P (dC, dI) vwCl [] U.heap ∧ va_K (dC, dI) vwCl [] U ∧ va_D (fun _ => True) [])) (va_Qi (fun (r : Int32) (_ : Unit) => r = 0 ∨ r = 1) (fun (_ : Unit) (tS : State) => va_P (dC, dI) vwCl [] tS.heap ∧ va_K (dC, dI) vwCl [] tS ∧ va_D (va_A [] sz) []) (va_A [] sz)) 0 0 (va_A [] sz) := by
  refine Met.ofW (cc := cX9_isLetter) (maxL := 1) (ret := (some .boolean)) (by decide) rfl ?_
  intro p e s m args below meth c s₁ B hml hv
  obtain ⟨rfl, hsz, hP, hK, hD0⟩ := hv
  have hx := B.exec
  have hb := B.bytes
  have hr := B.returns
  have hts := atoms_spec (ws := wp_c_letter) B.pre
  have hown : s.vm.findClass RX9 = some m.cls := findClass_of_methodNamed B.named
  have hlocks := B.notSynchronized
  subst hsz
  have hD := hD0.self (sz := s.heap.size)
  generalize hAe : va_A [] s.heap.size = A at hD ⊢
  have hA : ∀ q : Nat, s.heap.size ≤ q → A q := fun q h => by rw [← hAe]; exact Or.inr h
  have hS : va_S A s.heap s.heap [] := va_S.rf
  have hP : va_P (dC, dI) vwCl [] s.heap := hP
  have hl := lv_entry ([.int ch]) (n := 1) (Nat.le_of_ble_eq_true rfl)
  rw [lg_entry_eq]
  generalize (lg_sl ([.int ch]) ++ List.replicate (1 - (lg_sl ([.int ch])).length) Slot.unset).toArray = ls at hl ⊢
  have hl : lv_has ls 1 [(0, .int ch)] := hl
  refine lv_iload_n hx hb dX9_isLetter_0 rfl (lv_at hl 0 rfl) ?_
  refine lv_bipush (v := 97) hx hb dX9_isLetter_1 (by decide) ?_
  refine lv_icmp_lt (tgt := 12) hx hb dX9_isLetter_3 (by decide) (fun hy1 => ?_) (fun hy1 => ?_)
  · refine lv_iload_n hx hb dX9_isLetter_12 rfl (lv_at hl 0 rfl) ?_
    refine lv_bipush (v := 65) hx hb dX9_isLetter_13 (by decide) ?_
    refine lv_icmp_lt (tgt := 24) hx hb dX9_isLetter_15 (by decide) (fun hy2 => ?_) (fun hy2 => ?_)
    · refine lv_iload_n hx hb dX9_isLetter_24 rfl (lv_at hl 0 rfl) ?_
      refine lv_bipush (v := 95) hx hb dX9_isLetter_25 (by decide) ?_
      refine lv_icmp_ne (tgt := 34) hx hb dX9_isLetter_27 (by decide) (fun hy3 => ?_) (fun hy3 => ?_)
      · refine lv_iconst (v := 0) hx hb dX9_isLetter_34 (by decide) ?_
        have hP9 := hP.sub (ws' := []) [] rfl
        have hD9 := hD.sub (ws' := []) [] (by decide) rfl
        have hK9 := hK.sub (tys' := []) [] rfl
        exact W.zret (v := 0) hx hb hr (by decide) (fun tS ht hW => ⟨⟨0, (), rfl, (Or.inl rfl), by rw [ht]; exact hP9, va_K.moved hW.alike hK9, hD9⟩, hS.F ht⟩) hS.2.2 dX9_isLetter_35
      · refine lv_iconst (v := 1) hx hb dX9_isLetter_30 (by decide) ?_
        refine lv_goto (tgt := 35) hx hb dX9_isLetter_31 (by decide) ?_
        have hP9 := hP.sub (ws' := []) [] rfl
        have hD9 := hD.sub (ws' := []) [] (by decide) rfl
        have hK9 := hK.sub (tys' := []) [] rfl
        exact W.zret (v := 1) hx hb hr (by decide) (fun tS ht hW => ⟨⟨1, (), rfl, (Or.inr rfl), by rw [ht]; exact hP9, va_K.moved hW.alike hK9, hD9⟩, hS.F ht⟩) hS.2.2 dX9_isLetter_35
    · refine lv_iload_n hx hb dX9_isLetter_18 rfl (lv_at hl 0 rfl) ?_
      refine lv_bipush (v := 90) hx hb dX9_isLetter_19 (by decide) ?_
      refine lv_icmp_le (tgt := 30) hx hb dX9_isLetter_21 (by decide) (fun hy4 => ?_) (fun hy4 => ?_)
      · refine lv_iconst (v := 1) hx hb dX9_isLetter_30 (by decide) ?_
        refine lv_goto (tgt := 35) hx hb dX9_isLetter_31 (by decide) ?_
        have hP9 := hP.sub (ws' := []) [] rfl
        have hD9 := hD.sub (ws' := []) [] (by decide) rfl
        have hK9 := hK.sub (tys' := []) [] rfl
        exact W.zret (v := 1) hx hb hr (by decide) (fun tS ht hW => ⟨⟨1, (), rfl, (Or.inr rfl), by rw [ht]; exact hP9, va_K.moved hW.alike hK9, hD9⟩, hS.F ht⟩) hS.2.2 dX9_isLetter_35
      · refine lv_iload_n hx hb dX9_isLetter_24 rfl (lv_at hl 0 rfl) ?_
        refine lv_bipush (v := 95) hx hb dX9_isLetter_25 (by decide) ?_
        refine lv_icmp_ne (tgt := 34) hx hb dX9_isLetter_27 (by decide) (fun hy5 => ?_) (fun hy5 => ?_)
        · refine lv_iconst (v := 0) hx hb dX9_isLetter_34 (by decide) ?_
          have hP9 := hP.sub (ws' := []) [] rfl
          have hD9 := hD.sub (ws' := []) [] (by decide) rfl
          have hK9 := hK.sub (tys' := []) [] rfl
          exact W.zret (v := 0) hx hb hr (by decide) (fun tS ht hW => ⟨⟨0, (), rfl, (Or.inl rfl), by rw [ht]; exact hP9, va_K.moved hW.alike hK9, hD9⟩, hS.F ht⟩) hS.2.2 dX9_isLetter_35
        · refine lv_iconst (v := 1) hx hb dX9_isLetter_30 (by decide) ?_
          refine lv_goto (tgt := 35) hx hb dX9_isLetter_31 (by decide) ?_
          have hP9 := hP.sub (ws' := []) [] rfl
          have hD9 := hD.sub (ws' := []) [] (by decide) rfl
          have hK9 := hK.sub (tys' := []) [] rfl
          exact W.zret (v := 1) hx hb hr (by decide) (fun tS ht hW => ⟨⟨1, (), rfl, (Or.inr rfl), by rw [ht]; exact hP9, va_K.moved hW.alike hK9, hD9⟩, hS.F ht⟩) hS.2.2 dX9_isLetter_35
  · refine lv_iload_n hx hb dX9_isLetter_6 rfl (lv_at hl 0 rfl) ?_
    refine lv_bipush (v := 122) hx hb dX9_isLetter_7 (by decide) ?_
    refine lv_icmp_le (tgt := 30) hx hb dX9_isLetter_9 (by decide) (fun hy6 => ?_) (fun hy6 => ?_)
    · refine lv_iconst (v := 1) hx hb dX9_isLetter_30 (by decide) ?_
      refine lv_goto (tgt := 35) hx hb dX9_isLetter_31 (by decide) ?_
      have hP9 := hP.sub (ws' := []) [] rfl
      have hD9 := hD.sub (ws' := []) [] (by decide) rfl
      have hK9 := hK.sub (tys' := []) [] rfl
      exact W.zret (v := 1) hx hb hr (by decide) (fun tS ht hW => ⟨⟨1, (), rfl, (Or.inr rfl), by rw [ht]; exact hP9, va_K.moved hW.alike hK9, hD9⟩, hS.F ht⟩) hS.2.2 dX9_isLetter_35
    · refine lv_iload_n hx hb dX9_isLetter_12 rfl (lv_at hl 0 rfl) ?_
      refine lv_bipush (v := 65) hx hb dX9_isLetter_13 (by decide) ?_
      refine lv_icmp_lt (tgt := 24) hx hb dX9_isLetter_15 (by decide) (fun hy7 => ?_) (fun hy7 => ?_)
      · refine lv_iload_n hx hb dX9_isLetter_24 rfl (lv_at hl 0 rfl) ?_
        refine lv_bipush (v := 95) hx hb dX9_isLetter_25 (by decide) ?_
        refine lv_icmp_ne (tgt := 34) hx hb dX9_isLetter_27 (by decide) (fun hy8 => ?_) (fun hy8 => ?_)
        · refine lv_iconst (v := 0) hx hb dX9_isLetter_34 (by decide) ?_
          have hP9 := hP.sub (ws' := []) [] rfl
          have hD9 := hD.sub (ws' := []) [] (by decide) rfl
          have hK9 := hK.sub (tys' := []) [] rfl
          exact W.zret (v := 0) hx hb hr (by decide) (fun tS ht hW => ⟨⟨0, (), rfl, (Or.inl rfl), by rw [ht]; exact hP9, va_K.moved hW.alike hK9, hD9⟩, hS.F ht⟩) hS.2.2 dX9_isLetter_35
        · refine lv_iconst (v := 1) hx hb dX9_isLetter_30 (by decide) ?_
          refine lv_goto (tgt := 35) hx hb dX9_isLetter_31 (by decide) ?_
          have hP9 := hP.sub (ws' := []) [] rfl
          have hD9 := hD.sub (ws' := []) [] (by decide) rfl
          have hK9 := hK.sub (tys' := []) [] rfl
          exact W.zret (v := 1) hx hb hr (by decide) (fun tS ht hW => ⟨⟨1, (), rfl, (Or.inr rfl), by rw [ht]; exact hP9, va_K.moved hW.alike hK9, hD9⟩, hS.F ht⟩) hS.2.2 dX9_isLetter_35
      · refine lv_iload_n hx hb dX9_isLetter_18 rfl (lv_at hl 0 rfl) ?_
        refine lv_bipush (v := 90) hx hb dX9_isLetter_19 (by decide) ?_
        refine lv_icmp_le (tgt := 30) hx hb dX9_isLetter_21 (by decide) (fun hy9 => ?_) (fun hy9 => ?_)
        · refine lv_iconst (v := 1) hx hb dX9_isLetter_30 (by decide) ?_
          refine lv_goto (tgt := 35) hx hb dX9_isLetter_31 (by decide) ?_
          have hP9 := hP.sub (ws' := []) [] rfl
          have hD9 := hD.sub (ws' := []) [] (by decide) rfl
          have hK9 := hK.sub (tys' := []) [] rfl
          exact W.zret (v := 1) hx hb hr (by decide) (fun tS ht hW => ⟨⟨1, (), rfl, (Or.inr rfl), by rw [ht]; exact hP9, va_K.moved hW.alike hK9, hD9⟩, hS.F ht⟩) hS.2.2 dX9_isLetter_35
        · refine lv_iload_n hx hb dX9_isLetter_24 rfl (lv_at hl 0 rfl) ?_
          refine lv_bipush (v := 95) hx hb dX9_isLetter_25 (by decide) ?_
          refine lv_icmp_ne (tgt := 34) hx hb dX9_isLetter_27 (by decide) (fun hy10 => ?_) (fun hy10 => ?_)
          · refine lv_iconst (v := 0) hx hb dX9_isLetter_34 (by decide) ?_
            have hP9 := hP.sub (ws' := []) [] rfl
            have hD9 := hD.sub (ws' := []) [] (by decide) rfl
            have hK9 := hK.sub (tys' := []) [] rfl
            exact W.zret (v := 0) hx hb hr (by decide) (fun tS ht hW => ⟨⟨0, (), rfl, (Or.inl rfl), by rw [ht]; exact hP9, va_K.moved hW.alike hK9, hD9⟩, hS.F ht⟩) hS.2.2 dX9_isLetter_35
          · refine lv_iconst (v := 1) hx hb dX9_isLetter_30 (by decide) ?_
            refine lv_goto (tgt := 35) hx hb dX9_isLetter_31 (by decide) ?_
            have hP9 := hP.sub (ws' := []) [] rfl
            have hD9 := hD.sub (ws' := []) [] (by decide) rfl
            have hK9 := hK.sub (tys' := []) [] rfl
            exact W.zret (v := 1) hx hb hr (by decide) (fun tS ht hW => ⟨⟨1, (), rfl, (Or.inr rfl), by rw [ht]; exact hP9, va_K.moved hW.alike hK9, hD9⟩, hS.F ht⟩) hS.2.2 dX9_isLetter_35
def wf_c_digit : List Cond := [.code yX9_isDigit cX9_isDigit 1 (some .boolean)]
def wp_c_digit : List Cond := wf_c_digit ++ []
theorem wg_c_digit : wf_c_digit.all goodWord = true := by decide +kernel
theorem wm_c_digit (k : Nat) {w : Cond} (h : wp_c_digit[k]? = some w) : w ∈ wp_c_digit := List.mem_of_getElem? h
set_option maxHeartbeats 4000000 in
set_option maxRecDepth 100000 in
theorem c_digit (l : Launch) (dC : Nat → ClassId) (dI : Nat → Nat → Nat) (ch : Int32) (sz : Nat) : Met l yX9_isDigit wp_c_digit ({ frames := 0, cells := 0, slots := 0, locals := 0 }) (va_Pc [.int ch] (fun U => U.heap.size = sz ∧ va_P (dC, dI) vwCl [] U.heap ∧ va_K (dC, dI) vwCl [] U ∧ va_D (fun _ => True) [])) (va_Qi (fun (r : Int32) (_ : Unit) => r = 0 ∨ r = 1) (fun (_ : Unit) (tS : State) => va_P (dC, dI) vwCl [] tS.heap ∧ va_K (dC, dI) vwCl [] tS ∧ va_D (va_A [] sz) []) (va_A [] sz)) 0 0 (va_A [] sz) := by
  refine Met.ofW (cc := cX9_isDigit) (maxL := 1) (ret := (some .boolean)) (by decide) rfl ?_
  intro p e s m args below meth c s₁ B hml hv
  obtain ⟨rfl, hsz, hP, hK, hD0⟩ := hv
  have hx := B.exec
  have hb := B.bytes
  have hr := B.returns
  have hts := atoms_spec (ws := wp_c_digit) B.pre
  have hown : s.vm.findClass RX9 = some m.cls := findClass_of_methodNamed B.named
  have hlocks := B.notSynchronized
  subst hsz
  have hD := hD0.self (sz := s.heap.size)
  generalize hAe : va_A [] s.heap.size = A at hD ⊢
  have hA : ∀ q : Nat, s.heap.size ≤ q → A q := fun q h => by rw [← hAe]; exact Or.inr h
  have hS : va_S A s.heap s.heap [] := va_S.rf
  have hP : va_P (dC, dI) vwCl [] s.heap := hP
  have hl := lv_entry ([.int ch]) (n := 1) (Nat.le_of_ble_eq_true rfl)
  rw [lg_entry_eq]
  generalize (lg_sl ([.int ch]) ++ List.replicate (1 - (lg_sl ([.int ch])).length) Slot.unset).toArray = ls at hl ⊢
  have hl : lv_has ls 1 [(0, .int ch)] := hl
  refine lv_iload_n hx hb dX9_isDigit_0 rfl (lv_at hl 0 rfl) ?_
  refine lv_bipush (v := 48) hx hb dX9_isDigit_1 (by decide) ?_
  refine lv_icmp_lt (tgt := 16) hx hb dX9_isDigit_3 (by decide) (fun hy1 => ?_) (fun hy1 => ?_)
  · refine lv_iconst (v := 0) hx hb dX9_isDigit_16 (by decide) ?_
    have hP9 := hP.sub (ws' := []) [] rfl
    have hD9 := hD.sub (ws' := []) [] (by decide) rfl
    have hK9 := hK.sub (tys' := []) [] rfl
    exact W.zret (v := 0) hx hb hr (by decide) (fun tS ht hW => ⟨⟨0, (), rfl, (Or.inl rfl), by rw [ht]; exact hP9, va_K.moved hW.alike hK9, hD9⟩, hS.F ht⟩) hS.2.2 dX9_isDigit_17
  · refine lv_iload_n hx hb dX9_isDigit_6 rfl (lv_at hl 0 rfl) ?_
    refine lv_bipush (v := 57) hx hb dX9_isDigit_7 (by decide) ?_
    refine lv_icmp_gt (tgt := 16) hx hb dX9_isDigit_9 (by decide) (fun hy2 => ?_) (fun hy2 => ?_)
    · refine lv_iconst (v := 0) hx hb dX9_isDigit_16 (by decide) ?_
      have hP9 := hP.sub (ws' := []) [] rfl
      have hD9 := hD.sub (ws' := []) [] (by decide) rfl
      have hK9 := hK.sub (tys' := []) [] rfl
      exact W.zret (v := 0) hx hb hr (by decide) (fun tS ht hW => ⟨⟨0, (), rfl, (Or.inl rfl), by rw [ht]; exact hP9, va_K.moved hW.alike hK9, hD9⟩, hS.F ht⟩) hS.2.2 dX9_isDigit_17
    · refine lv_iconst (v := 1) hx hb dX9_isDigit_12 (by decide) ?_
      refine lv_goto (tgt := 17) hx hb dX9_isDigit_13 (by decide) ?_
      have hP9 := hP.sub (ws' := []) [] rfl
      have hD9 := hD.sub (ws' := []) [] (by decide) rfl
      have hK9 := hK.sub (tys' := []) [] rfl
      exact W.zret (v := 1) hx hb hr (by decide) (fun tS ht hW => ⟨⟨1, (), rfl, (Or.inr rfl), by rw [ht]; exact hP9, va_K.moved hW.alike hK9, hD9⟩, hS.F ht⟩) hS.2.2 dX9_isDigit_17
def wf_c_kind : List Cond := [.code yX9_kind cX9_kind 1 (some .int), .fieldLink RX9 9 "OwnedPlaces$Text" "kinds" "[I", .fieldLink RX9 106 "OwnedPlaces$Text" "now" "I"]
def wp_c_kind : List Cond := wf_c_kind ++ (wsX90 ++ [])
theorem in_c_kind_X9 : ∀ w ∈ wsX90, w ∈ wp_c_kind := fun w h => List.mem_append_right _ (List.mem_append_left _ h)
theorem wg_c_kind : wf_c_kind.all goodWord = true := by decide +kernel
theorem wm_c_kind (k : Nat) {w : Cond} (h : wp_c_kind[k]? = some w) : w ∈ wp_c_kind := List.mem_of_getElem? h
set_option maxHeartbeats 4000000 in
set_option maxRecDepth 100000 in
theorem c_kind (l : Launch) (dC : Nat → ClassId) (dI : Nat → Nat → Nat) (h tk tp tn tu tl tb ts tf tz tx th tw : Nat) (ln ft pl nt : Int32) (nw tt : Nat) (kI : ClassId) (f : Nat → Int32) (sz : Nat) (hn : nw < 3002) : Met l yX9_kind wp_c_kind ({ frames := 0, cells := 0, slots := 0, locals := 0 }) (va_Pc [.ref h] (fun U => U.heap.size = sz ∧ va_P (dC, dI) vwCl [(h, .inr (9, [.ref tk, .ref tp, .ref tn, .ref tu, .ref tl, .int ln, .int (nI nw), .int ft, .int pl, .int nt, .ref tb, .int (nI tt), .ref ts, .ref tf, .ref tz, .ref tx, .ref th, .ref tw])), (tk, .inl (kI, 3002, .inl f))] U.heap ∧ va_K (dC, dI) vwCl [(kI, .int)] U ∧ va_D (fun _ => True) [(h, .inr (9, [.ref tk, .ref tp, .ref tn, .ref tu, .ref tl, .int ln, .int (nI nw), .int ft, .int pl, .int nt, .ref tb, .int (nI tt), .ref ts, .ref tf, .ref tz, .ref tx, .ref th, .ref tw])), (tk, .inl (kI, 3002, .inl f))])) (va_Qi (fun (r : Int32) (_ : Unit) => r = f nw) (fun (_ : Unit) (tS : State) => va_P (dC, dI) vwCl [(h, .inr (9, [.ref tk, .ref tp, .ref tn, .ref tu, .ref tl, .int ln, .int (nI nw), .int ft, .int pl, .int nt, .ref tb, .int (nI tt), .ref ts, .ref tf, .ref tz, .ref tx, .ref th, .ref tw])), (tk, .inl (kI, 3002, .inl f))] tS.heap ∧ va_K (dC, dI) vwCl [(kI, .int)] tS ∧ va_D (va_A [(h, .inr (9, [.ref tk, .ref tp, .ref tn, .ref tu, .ref tl, .int ln, .int (nI nw), .int ft, .int pl, .int nt, .ref tb, .int (nI tt), .ref ts, .ref tf, .ref tz, .ref tx, .ref th, .ref tw])), (tk, .inl (kI, 3002, .inl f))] sz) [(h, .inr (9, [.ref tk, .ref tp, .ref tn, .ref tu, .ref tl, .int ln, .int (nI nw), .int ft, .int pl, .int nt, .ref tb, .int (nI tt), .ref ts, .ref tf, .ref tz, .ref tx, .ref th, .ref tw])), (tk, .inl (kI, 3002, .inl f))]) (va_A [(h, .inr (9, [.ref tk, .ref tp, .ref tn, .ref tu, .ref tl, .int ln, .int (nI nw), .int ft, .int pl, .int nt, .ref tb, .int (nI tt), .ref ts, .ref tf, .ref tz, .ref tx, .ref th, .ref tw])), (tk, .inl (kI, 3002, .inl f))] sz)) 0 0 (va_A [(h, .inr (9, [.ref tk, .ref tp, .ref tn, .ref tu, .ref tl, .int ln, .int (nI nw), .int ft, .int pl, .int nt, .ref tb, .int (nI tt), .ref ts, .ref tf, .ref tz, .ref tx, .ref th, .ref tw])), (tk, .inl (kI, 3002, .inl f))] sz) := by
  refine Met.ofW (cc := cX9_kind) (maxL := 1) (ret := (some .int)) (by decide) rfl ?_
  intro p e s m args below meth c s₁ B hml hv
  obtain ⟨rfl, hsz, hP, hK, hD0⟩ := hv
  have hx := B.exec
  have hb := B.bytes
  have hr := B.returns
  have hts := atoms_spec (ws := wp_c_kind) B.pre
  have hown : s.vm.findClass RX9 = some m.cls := findClass_of_methodNamed B.named
  have hlocks := B.notSynchronized
  subst hsz
  have hD := hD0.self (sz := s.heap.size)
  generalize hAe : va_A [(h, .inr (9, [.ref tk, .ref tp, .ref tn, .ref tu, .ref tl, .int ln, .int (nI nw), .int ft, .int pl, .int nt, .ref tb, .int (nI tt), .ref ts, .ref tf, .ref tz, .ref tx, .ref th, .ref tw])), (tk, .inl (kI, 3002, .inl f))] s.heap.size = A at hD ⊢
  have hA : ∀ q : Nat, s.heap.size ≤ q → A q := fun q h => by rw [← hAe]; exact Or.inr h
  have hS : va_S A s.heap s.heap [] := va_S.rf
  have hP : va_P (dC, dI) vwCl [(h, .inr (9, [.ref tk, .ref tp, .ref tn, .ref tu, .ref tl, .int ln, .int (nI nw), .int ft, .int pl, .int nt, .ref tb, .int (nI tt), .ref ts, .ref tf, .ref tz, .ref tx, .ref th, .ref tw])), (tk, .inl (kI, 3002, .inl f))] s.heap := hP
  have hl := lv_entry ([.ref h]) (n := 1) (Nat.le_of_ble_eq_true rfl)
  rw [lg_entry_eq]
  generalize (lg_sl ([.ref h]) ++ List.replicate (1 - (lg_sl ([.ref h])).length) Slot.unset).toArray = ls at hl ⊢
  have hl : lv_has ls 1 [(0, .ref h)] := hl
  refine lv_aload_n hx hb dX9_kind_0 rfl (lv_at hl 0 rfl) ?_
  refine va_get (D := (dC, dI)) (ci := 9) (v := .ref tk) (C := RX9) (T := TX9) (N := 18) hx hb hts in_c_kind_X9 hown hK hP 0 rfl rfl 0 (by decide) (hts (.fieldLink RX9 9 "OwnedPlaces$Text" "kinds" "[I") (wm_c_kind 1 rfl)) (fun _ h9 => h9) rfl dX9_kind_1 ?_
  refine lv_aload_n hx hb dX9_kind_4 rfl (lv_at hl 0 rfl) ?_
  refine va_get (D := (dC, dI)) (ci := 9) (v := .int (nI nw)) (C := RX9) (T := TX9) (N := 18) hx hb hts in_c_kind_X9 hown hK hP 0 rfl rfl 6 (by decide) (hts (.fieldLink RX9 106 "OwnedPlaces$Text" "now" "I") (wm_c_kind 2 rfl)) (fun _ h9 => h9) rfl dX9_kind_5 ?_
  refine va_iald hx hb hK hP 1 0 rfl rfl (vp_in_nI hn (by decide)) dX9_kind_8 ?_
  refine lv_topi (fun v_1 ev_1 => ?_)
  have hP9 := hP.sub (ws' := [(h, .inr (9, [.ref tk, .ref tp, .ref tn, .ref tu, .ref tl, .int ln, .int (nI nw), .int ft, .int pl, .int nt, .ref tb, .int (nI tt), .ref ts, .ref tf, .ref tz, .ref tx, .ref th, .ref tw])), (tk, .inl (kI, 3002, .inl f))]) [0, 1] rfl
  have hD9 := hD.sub (ws' := [(h, .inr (9, [.ref tk, .ref tp, .ref tn, .ref tu, .ref tl, .int ln, .int (nI nw), .int ft, .int pl, .int nt, .ref tb, .int (nI tt), .ref ts, .ref tf, .ref tz, .ref tx, .ref th, .ref tw])), (tk, .inl (kI, 3002, .inl f))]) [0, 1] (by decide) rfl
  have hK9 := hK.sub (tys' := [(kI, .int)]) [0] rfl
  exact W.iret (v := v_1) hx hb hr (fun tS ht hW => ⟨⟨v_1, (), rfl, ev_1.trans (by rw [nI_clamp (by omega)]), by rw [ht]; exact hP9, va_K.moved hW.alike hK9, hD9⟩, hS.F ht⟩) hS.2.2 dX9_kind_9
def wf_c_where : List Cond := [.code yX9_where cX9_where 1 (some .int), .fieldLink RX9 15 "OwnedPlaces$Text" "places" "[I", .fieldLink RX9 106 "OwnedPlaces$Text" "now" "I"]
def wp_c_where : List Cond := wf_c_where ++ (wsX90 ++ [])
theorem in_c_where_X9 : ∀ w ∈ wsX90, w ∈ wp_c_where := fun w h => List.mem_append_right _ (List.mem_append_left _ h)
theorem wg_c_where : wf_c_where.all goodWord = true := by decide +kernel
theorem wm_c_where (k : Nat) {w : Cond} (h : wp_c_where[k]? = some w) : w ∈ wp_c_where := List.mem_of_getElem? h
set_option maxHeartbeats 4000000 in
set_option maxRecDepth 100000 in
theorem c_where (l : Launch) (dC : Nat → ClassId) (dI : Nat → Nat → Nat) (h tk tp tn tu tl tb ts tf tz tx th tw : Nat) (ln ft pl nt : Int32) (nw tt : Nat) (kI : ClassId) (f : Nat → Int32) (sz : Nat) (hn : nw < 3002) : Met l yX9_where wp_c_where ({ frames := 0, cells := 0, slots := 0, locals := 0 }) (va_Pc [.ref h] (fun U => U.heap.size = sz ∧ va_P (dC, dI) vwCl [(h, .inr (9, [.ref tk, .ref tp, .ref tn, .ref tu, .ref tl, .int ln, .int (nI nw), .int ft, .int pl, .int nt, .ref tb, .int (nI tt), .ref ts, .ref tf, .ref tz, .ref tx, .ref th, .ref tw])), (tp, .inl (kI, 3002, .inl f))] U.heap ∧ va_K (dC, dI) vwCl [(kI, .int)] U ∧ va_D (fun _ => True) [(h, .inr (9, [.ref tk, .ref tp, .ref tn, .ref tu, .ref tl, .int ln, .int (nI nw), .int ft, .int pl, .int nt, .ref tb, .int (nI tt), .ref ts, .ref tf, .ref tz, .ref tx, .ref th, .ref tw])), (tp, .inl (kI, 3002, .inl f))])) (va_Qi (fun (r : Int32) (_ : Unit) => r = f nw) (fun (_ : Unit) (tS : State) => va_P (dC, dI) vwCl [(h, .inr (9, [.ref tk, .ref tp, .ref tn, .ref tu, .ref tl, .int ln, .int (nI nw), .int ft, .int pl, .int nt, .ref tb, .int (nI tt), .ref ts, .ref tf, .ref tz, .ref tx, .ref th, .ref tw])), (tp, .inl (kI, 3002, .inl f))] tS.heap ∧ va_K (dC, dI) vwCl [(kI, .int)] tS ∧ va_D (va_A [(h, .inr (9, [.ref tk, .ref tp, .ref tn, .ref tu, .ref tl, .int ln, .int (nI nw), .int ft, .int pl, .int nt, .ref tb, .int (nI tt), .ref ts, .ref tf, .ref tz, .ref tx, .ref th, .ref tw])), (tp, .inl (kI, 3002, .inl f))] sz) [(h, .inr (9, [.ref tk, .ref tp, .ref tn, .ref tu, .ref tl, .int ln, .int (nI nw), .int ft, .int pl, .int nt, .ref tb, .int (nI tt), .ref ts, .ref tf, .ref tz, .ref tx, .ref th, .ref tw])), (tp, .inl (kI, 3002, .inl f))]) (va_A [(h, .inr (9, [.ref tk, .ref tp, .ref tn, .ref tu, .ref tl, .int ln, .int (nI nw), .int ft, .int pl, .int nt, .ref tb, .int (nI tt), .ref ts, .ref tf, .ref tz, .ref tx, .ref th, .ref tw])), (tp, .inl (kI, 3002, .inl f))] sz)) 0 0 (va_A [(h, .inr (9, [.ref tk, .ref tp, .ref tn, .ref tu, .ref tl, .int ln, .int (nI nw), .int ft, .int pl, .int nt, .ref tb, .int (nI tt), .ref ts, .ref tf, .ref tz, .ref tx, .ref th, .ref tw])), (tp, .inl (kI, 3002, .inl f))] sz) := by
  refine Met.ofW (cc := cX9_where) (maxL := 1) (ret := (some .int)) (by decide) rfl ?_
  intro p e s m args below meth c s₁ B hml hv
  obtain ⟨rfl, hsz, hP, hK, hD0⟩ := hv
  have hx := B.exec
  have hb := B.bytes
  have hr := B.returns
  have hts := atoms_spec (ws := wp_c_where) B.pre
  have hown : s.vm.findClass RX9 = some m.cls := findClass_of_methodNamed B.named
  have hlocks := B.notSynchronized
  subst hsz
  have hD := hD0.self (sz := s.heap.size)
  generalize hAe : va_A [(h, .inr (9, [.ref tk, .ref tp, .ref tn, .ref tu, .ref tl, .int ln, .int (nI nw), .int ft, .int pl, .int nt, .ref tb, .int (nI tt), .ref ts, .ref tf, .ref tz, .ref tx, .ref th, .ref tw])), (tp, .inl (kI, 3002, .inl f))] s.heap.size = A at hD ⊢
  have hA : ∀ q : Nat, s.heap.size ≤ q → A q := fun q h => by rw [← hAe]; exact Or.inr h
  have hS : va_S A s.heap s.heap [] := va_S.rf
  have hP : va_P (dC, dI) vwCl [(h, .inr (9, [.ref tk, .ref tp, .ref tn, .ref tu, .ref tl, .int ln, .int (nI nw), .int ft, .int pl, .int nt, .ref tb, .int (nI tt), .ref ts, .ref tf, .ref tz, .ref tx, .ref th, .ref tw])), (tp, .inl (kI, 3002, .inl f))] s.heap := hP
  have hl := lv_entry ([.ref h]) (n := 1) (Nat.le_of_ble_eq_true rfl)
  rw [lg_entry_eq]
  generalize (lg_sl ([.ref h]) ++ List.replicate (1 - (lg_sl ([.ref h])).length) Slot.unset).toArray = ls at hl ⊢
  have hl : lv_has ls 1 [(0, .ref h)] := hl
  refine lv_aload_n hx hb dX9_where_0 rfl (lv_at hl 0 rfl) ?_
  refine va_get (D := (dC, dI)) (ci := 9) (v := .ref tp) (C := RX9) (T := TX9) (N := 18) hx hb hts in_c_where_X9 hown hK hP 0 rfl rfl 1 (by decide) (hts (.fieldLink RX9 15 "OwnedPlaces$Text" "places" "[I") (wm_c_where 1 rfl)) (fun _ h9 => h9) rfl dX9_where_1 ?_
  refine lv_aload_n hx hb dX9_where_4 rfl (lv_at hl 0 rfl) ?_
  refine va_get (D := (dC, dI)) (ci := 9) (v := .int (nI nw)) (C := RX9) (T := TX9) (N := 18) hx hb hts in_c_where_X9 hown hK hP 0 rfl rfl 6 (by decide) (hts (.fieldLink RX9 106 "OwnedPlaces$Text" "now" "I") (wm_c_where 2 rfl)) (fun _ h9 => h9) rfl dX9_where_5 ?_
  refine va_iald hx hb hK hP 1 0 rfl rfl (vp_in_nI hn (by decide)) dX9_where_8 ?_
  refine lv_topi (fun v_1 ev_1 => ?_)
  have hP9 := hP.sub (ws' := [(h, .inr (9, [.ref tk, .ref tp, .ref tn, .ref tu, .ref tl, .int ln, .int (nI nw), .int ft, .int pl, .int nt, .ref tb, .int (nI tt), .ref ts, .ref tf, .ref tz, .ref tx, .ref th, .ref tw])), (tp, .inl (kI, 3002, .inl f))]) [0, 1] rfl
  have hD9 := hD.sub (ws' := [(h, .inr (9, [.ref tk, .ref tp, .ref tn, .ref tu, .ref tl, .int ln, .int (nI nw), .int ft, .int pl, .int nt, .ref tb, .int (nI tt), .ref ts, .ref tf, .ref tz, .ref tx, .ref th, .ref tw])), (tp, .inl (kI, 3002, .inl f))]) [0, 1] (by decide) rfl
  have hK9 := hK.sub (tys' := [(kI, .int)]) [0] rfl
  exact W.iret (v := v_1) hx hb hr (fun tS ht hW => ⟨⟨v_1, (), rfl, ev_1.trans (by rw [nI_clamp (by omega)]), by rw [ht]; exact hP9, va_K.moved hW.alike hK9, hD9⟩, hS.F ht⟩) hS.2.2 dX9_where_9
def wf_c_add : List Cond := [.code yX9_add cX9_add 4 none, .fieldLink RX9 9 "OwnedPlaces$Text" "kinds" "[I", .fieldLink RX9 92 "OwnedPlaces$Text" "total" "I", .fieldLink RX9 15 "OwnedPlaces$Text" "places" "[I", .fieldLink RX9 18 "OwnedPlaces$Text" "names" "[I", .fieldLink RX9 25 "OwnedPlaces$Text" "links" "[I"]
def wp_c_add : List Cond := wf_c_add ++ (wsX90 ++ [])
theorem in_c_add_X9 : ∀ w ∈ wsX90, w ∈ wp_c_add := fun w h => List.mem_append_right _ (List.mem_append_left _ h)
theorem wg_c_add : wf_c_add.all goodWord = true := by decide +kernel
theorem wm_c_add (k : Nat) {w : Cond} (h : wp_c_add[k]? = some w) : w ∈ wp_c_add := List.mem_of_getElem? h
set_option maxHeartbeats 4000000 in
set_option maxRecDepth 100000 in
theorem c_add (l : Launch) (dC : Nat → ClassId) (dI : Nat → Nat → Nat) (h tk tp tn tu tl tb ts tf tz tx th tw : Nat) (ln ft pl nt : Int32) (now : Int32) (tt : Nat) (kI : ClassId) (fk fp fn fl : Nat → Int32) (kd wh na : Int32) (sz : Nat) (ht : tt < 3002) (hwh : wh = aN wh) : Met l yX9_add wp_c_add ({ frames := 0, cells := 0, slots := 0, locals := 0 }) (va_Pc [.ref h, .int kd, .int wh, .int na] (fun U => U.heap.size = sz ∧ va_P (dC, dI) vwCl [(h, .inr (9, [.ref tk, .ref tp, .ref tn, .ref tu, .ref tl, .int ln, .int now, .int ft, .int pl, .int nt, .ref tb, .int (nI tt), .ref ts, .ref tf, .ref tz, .ref tx, .ref th, .ref tw])), (tk, .inl (kI, 3002, .inl fk)), (tp, .inl (kI, 3002, .inl (fun uQ9 => aN (fp uQ9)))), (tn, .inl (kI, 3002, .inl fn)), (tl, .inl (kI, 3002, .inl fl))] U.heap ∧ va_K (dC, dI) vwCl [(kI, .int)] U ∧ va_D (fun _ => True) [(h, .inr (9, [.ref tk, .ref tp, .ref tn, .ref tu, .ref tl, .int ln, .int now, .int ft, .int pl, .int nt, .ref tb, .int (nI tt), .ref ts, .ref tf, .ref tz, .ref tx, .ref th, .ref tw])), (tk, .inl (kI, 3002, .inl fk)), (tp, .inl (kI, 3002, .inl (fun uQ9 => aN (fp uQ9)))), (tn, .inl (kI, 3002, .inl fn)), (tl, .inl (kI, 3002, .inl fl))])) (va_Qv (fun _ : Unit => True) (fun (_ : Unit) (tS : State) => ∃ (gk : Nat → Int32) (gp : Nat → Int32) (gn : Nat → Int32) (gl : Nat → Int32), (gk = upd fk tt kd) ∧ (gn = upd fn tt na) ∧ (gl = upd fl tt 0) ∧ va_P (dC, dI) vwCl [(h, .inr (9, [.ref tk, .ref tp, .ref tn, .ref tu, .ref tl, .int ln, .int now, .int ft, .int pl, .int nt, .ref tb, .int (nI (tt + 1)), .ref ts, .ref tf, .ref tz, .ref tx, .ref th, .ref tw])), (tk, .inl (kI, 3002, .inl gk)), (tp, .inl (kI, 3002, .inl (fun uQ9 => aN (gp uQ9)))), (tn, .inl (kI, 3002, .inl gn)), (tl, .inl (kI, 3002, .inl gl))] tS.heap ∧ va_K (dC, dI) vwCl [(kI, .int)] tS ∧ va_D (va_A [(h, .inr (9, [.ref tk, .ref tp, .ref tn, .ref tu, .ref tl, .int ln, .int now, .int ft, .int pl, .int nt, .ref tb, .int (nI tt), .ref ts, .ref tf, .ref tz, .ref tx, .ref th, .ref tw])), (tk, .inl (kI, 3002, .inl fk)), (tp, .inl (kI, 3002, .inl (fun uQ9 => aN (fp uQ9)))), (tn, .inl (kI, 3002, .inl fn)), (tl, .inl (kI, 3002, .inl fl))] sz) [(h, .inr (9, [.ref tk, .ref tp, .ref tn, .ref tu, .ref tl, .int ln, .int now, .int ft, .int pl, .int nt, .ref tb, .int (nI (tt + 1)), .ref ts, .ref tf, .ref tz, .ref tx, .ref th, .ref tw])), (tk, .inl (kI, 3002, .inl gk)), (tp, .inl (kI, 3002, .inl (fun uQ9 => aN (gp uQ9)))), (tn, .inl (kI, 3002, .inl gn)), (tl, .inl (kI, 3002, .inl gl))]) (va_A [(h, .inr (9, [.ref tk, .ref tp, .ref tn, .ref tu, .ref tl, .int ln, .int now, .int ft, .int pl, .int nt, .ref tb, .int (nI tt), .ref ts, .ref tf, .ref tz, .ref tx, .ref th, .ref tw])), (tk, .inl (kI, 3002, .inl fk)), (tp, .inl (kI, 3002, .inl (fun uQ9 => aN (fp uQ9)))), (tn, .inl (kI, 3002, .inl fn)), (tl, .inl (kI, 3002, .inl fl))] sz)) 0 0 (va_A [(h, .inr (9, [.ref tk, .ref tp, .ref tn, .ref tu, .ref tl, .int ln, .int now, .int ft, .int pl, .int nt, .ref tb, .int (nI tt), .ref ts, .ref tf, .ref tz, .ref tx, .ref th, .ref tw])), (tk, .inl (kI, 3002, .inl fk)), (tp, .inl (kI, 3002, .inl (fun uQ9 => aN (fp uQ9)))), (tn, .inl (kI, 3002, .inl fn)), (tl, .inl (kI, 3002, .inl fl))] sz) := by
  refine Met.ofW (cc := cX9_add) (maxL := 4) (ret := none) (by decide) rfl ?_
  intro p e s m args below meth c s₁ B hml hv
  obtain ⟨rfl, hsz, hP, hK, hD0⟩ := hv
  have hx := B.exec
  have hb := B.bytes
  have hr := B.returns
  have hts := atoms_spec (ws := wp_c_add) B.pre
  have hown : s.vm.findClass RX9 = some m.cls := findClass_of_methodNamed B.named
  have hlocks := B.notSynchronized
  subst hsz
  have hD := hD0.self (sz := s.heap.size)
  generalize hAe : va_A [(h, .inr (9, [.ref tk, .ref tp, .ref tn, .ref tu, .ref tl, .int ln, .int now, .int ft, .int pl, .int nt, .ref tb, .int (nI tt), .ref ts, .ref tf, .ref tz, .ref tx, .ref th, .ref tw])), (tk, .inl (kI, 3002, .inl fk)), (tp, .inl (kI, 3002, .inl (fun uQ9 => aN (fp uQ9)))), (tn, .inl (kI, 3002, .inl fn)), (tl, .inl (kI, 3002, .inl fl))] s.heap.size = A at hD ⊢
  have hA : ∀ q : Nat, s.heap.size ≤ q → A q := fun q h => by rw [← hAe]; exact Or.inr h
  have hS : va_S A s.heap s.heap [] := va_S.rf
  have hP : va_P (dC, dI) vwCl [(h, .inr (9, [.ref tk, .ref tp, .ref tn, .ref tu, .ref tl, .int ln, .int now, .int ft, .int pl, .int nt, .ref tb, .int (nI tt), .ref ts, .ref tf, .ref tz, .ref tx, .ref th, .ref tw])), (tk, .inl (kI, 3002, .inl fk)), (tp, .inl (kI, 3002, .inl (fun uQ9 => aN (fp uQ9)))), (tn, .inl (kI, 3002, .inl fn)), (tl, .inl (kI, 3002, .inl fl))] s.heap := hP
  have hl := lv_entry ([.ref h, .int kd, .int wh, .int na]) (n := 4) (Nat.le_of_ble_eq_true rfl)
  rw [lg_entry_eq]
  generalize (lg_sl ([.ref h, .int kd, .int wh, .int na]) ++ List.replicate (4 - (lg_sl ([.ref h, .int kd, .int wh, .int na])).length) Slot.unset).toArray = ls at hl ⊢
  have hl : lv_has ls 4 [(0, .ref h), (1, .int kd), (2, .int wh), (3, .int na)] := hl
  refine lv_aload_n hx hb dX9_add_0 rfl (lv_at hl 0 rfl) ?_
  refine va_get (D := (dC, dI)) (ci := 9) (v := .ref tk) (C := RX9) (T := TX9) (N := 18) hx hb hts in_c_add_X9 hown hK hP 0 rfl rfl 0 (by decide) (hts (.fieldLink RX9 9 "OwnedPlaces$Text" "kinds" "[I") (wm_c_add 1 rfl)) (fun _ h9 => h9) rfl dX9_add_1 ?_
  refine lv_aload_n hx hb dX9_add_4 rfl (lv_at hl 0 rfl) ?_
  refine va_get (D := (dC, dI)) (ci := 9) (v := .int (nI tt)) (C := RX9) (T := TX9) (N := 18) hx hb hts in_c_add_X9 hown hK hP 0 rfl rfl 11 (by decide) (hts (.fieldLink RX9 92 "OwnedPlaces$Text" "total" "I") (wm_c_add 2 rfl)) (fun _ h9 => h9) rfl dX9_add_5 ?_
  refine lv_iload_n hx hb dX9_add_8 rfl (lv_at hl 1 rfl) ?_
  refine va_iast hx hb hK hP hD hS 1 0 rfl rfl (vp_in_nI ht (by decide)) dX9_add_9 (fun H locs hP hD hS => ?_)
  have hP : va_P (dC, dI) vwCl [(h, .inr (9, [.ref tk, .ref tp, .ref tn, .ref tu, .ref tl, .int ln, .int now, .int ft, .int pl, .int nt, .ref tb, .int (nI tt), .ref ts, .ref tf, .ref tz, .ref tx, .ref th, .ref tw])), (tk, .inl (kI, 3002, .inl (upd fk (nI tt : Int32).toNatClampNeg kd))), (tp, .inl (kI, 3002, .inl (fun uQ9 => aN (fp uQ9)))), (tn, .inl (kI, 3002, .inl fn)), (tl, .inl (kI, 3002, .inl fl))] H := hP
  have hD : va_D A [(h, .inr (9, [.ref tk, .ref tp, .ref tn, .ref tu, .ref tl, .int ln, .int now, .int ft, .int pl, .int nt, .ref tb, .int (nI tt), .ref ts, .ref tf, .ref tz, .ref tx, .ref th, .ref tw])), (tk, .inl (kI, 3002, .inl (upd fk (nI tt : Int32).toNatClampNeg kd))), (tp, .inl (kI, 3002, .inl (fun uQ9 => aN (fp uQ9)))), (tn, .inl (kI, 3002, .inl fn)), (tl, .inl (kI, 3002, .inl fl))] := hD
  obtain ⟨fk1, efk1⟩ : ∃ zZ : Nat → Int32, zZ = upd fk (nI tt : Int32).toNatClampNeg kd := ⟨_, rfl⟩
  rw [← efk1] at hP hD
  refine lv_aload_n hx hb dX9_add_10 rfl (lv_at hl 0 rfl) ?_
  refine va_get (D := (dC, dI)) (ci := 9) (v := .ref tp) (C := RX9) (T := TX9) (N := 18) hx hb hts in_c_add_X9 hown hK hP 0 rfl rfl 1 (by decide) (hts (.fieldLink RX9 15 "OwnedPlaces$Text" "places" "[I") (wm_c_add 3 rfl)) (fun _ h9 => h9) rfl dX9_add_11 ?_
  refine lv_aload_n hx hb dX9_add_14 rfl (lv_at hl 0 rfl) ?_
  refine va_get (D := (dC, dI)) (ci := 9) (v := .int (nI tt)) (C := RX9) (T := TX9) (N := 18) hx hb hts in_c_add_X9 hown hK hP 0 rfl rfl 11 (by decide) (hts (.fieldLink RX9 92 "OwnedPlaces$Text" "total" "I") (wm_c_add 2 rfl)) (fun _ h9 => h9) rfl dX9_add_15 ?_
  refine lv_iload_n hx hb dX9_add_18 rfl (lv_at hl 2 rfl) ?_
  refine va_iast hx hb hK hP hD hS 2 0 rfl rfl (vp_in_nI ht (by decide)) dX9_add_19 (fun H locs hP hD hS => ?_)
  have hP : va_P (dC, dI) vwCl [(h, .inr (9, [.ref tk, .ref tp, .ref tn, .ref tu, .ref tl, .int ln, .int now, .int ft, .int pl, .int nt, .ref tb, .int (nI tt), .ref ts, .ref tf, .ref tz, .ref tx, .ref th, .ref tw])), (tk, .inl (kI, 3002, .inl fk1)), (tp, .inl (kI, 3002, .inl (upd (fun uQ9 => aN (fp uQ9)) (nI tt : Int32).toNatClampNeg wh))), (tn, .inl (kI, 3002, .inl fn)), (tl, .inl (kI, 3002, .inl fl))] H := hP
  have hD : va_D A [(h, .inr (9, [.ref tk, .ref tp, .ref tn, .ref tu, .ref tl, .int ln, .int now, .int ft, .int pl, .int nt, .ref tb, .int (nI tt), .ref ts, .ref tf, .ref tz, .ref tx, .ref th, .ref tw])), (tk, .inl (kI, 3002, .inl fk1)), (tp, .inl (kI, 3002, .inl (upd (fun uQ9 => aN (fp uQ9)) (nI tt : Int32).toNatClampNeg wh))), (tn, .inl (kI, 3002, .inl fn)), (tl, .inl (kI, 3002, .inl fl))] := hD
  obtain ⟨fp1, efp1⟩ : ∃ zZ : Nat → Int32, zZ = upd (fun uQ9 => aN (fp uQ9)) (nI tt : Int32).toNatClampNeg wh := ⟨_, rfl⟩
  rw [← efp1] at hP hD
  refine lv_aload_n hx hb dX9_add_20 rfl (lv_at hl 0 rfl) ?_
  refine va_get (D := (dC, dI)) (ci := 9) (v := .ref tn) (C := RX9) (T := TX9) (N := 18) hx hb hts in_c_add_X9 hown hK hP 0 rfl rfl 2 (by decide) (hts (.fieldLink RX9 18 "OwnedPlaces$Text" "names" "[I") (wm_c_add 4 rfl)) (fun _ h9 => h9) rfl dX9_add_21 ?_
  refine lv_aload_n hx hb dX9_add_24 rfl (lv_at hl 0 rfl) ?_
  refine va_get (D := (dC, dI)) (ci := 9) (v := .int (nI tt)) (C := RX9) (T := TX9) (N := 18) hx hb hts in_c_add_X9 hown hK hP 0 rfl rfl 11 (by decide) (hts (.fieldLink RX9 92 "OwnedPlaces$Text" "total" "I") (wm_c_add 2 rfl)) (fun _ h9 => h9) rfl dX9_add_25 ?_
  refine lv_iload_n hx hb dX9_add_28 rfl (lv_at hl 3 rfl) ?_
  refine va_iast hx hb hK hP hD hS 3 0 rfl rfl (vp_in_nI ht (by decide)) dX9_add_29 (fun H locs hP hD hS => ?_)
  have hP : va_P (dC, dI) vwCl [(h, .inr (9, [.ref tk, .ref tp, .ref tn, .ref tu, .ref tl, .int ln, .int now, .int ft, .int pl, .int nt, .ref tb, .int (nI tt), .ref ts, .ref tf, .ref tz, .ref tx, .ref th, .ref tw])), (tk, .inl (kI, 3002, .inl fk1)), (tp, .inl (kI, 3002, .inl fp1)), (tn, .inl (kI, 3002, .inl (upd fn (nI tt : Int32).toNatClampNeg na))), (tl, .inl (kI, 3002, .inl fl))] H := hP
  have hD : va_D A [(h, .inr (9, [.ref tk, .ref tp, .ref tn, .ref tu, .ref tl, .int ln, .int now, .int ft, .int pl, .int nt, .ref tb, .int (nI tt), .ref ts, .ref tf, .ref tz, .ref tx, .ref th, .ref tw])), (tk, .inl (kI, 3002, .inl fk1)), (tp, .inl (kI, 3002, .inl fp1)), (tn, .inl (kI, 3002, .inl (upd fn (nI tt : Int32).toNatClampNeg na))), (tl, .inl (kI, 3002, .inl fl))] := hD
  obtain ⟨fn1, efn1⟩ : ∃ zZ : Nat → Int32, zZ = upd fn (nI tt : Int32).toNatClampNeg na := ⟨_, rfl⟩
  rw [← efn1] at hP hD
  refine lv_aload_n hx hb dX9_add_30 rfl (lv_at hl 0 rfl) ?_
  refine va_get (D := (dC, dI)) (ci := 9) (v := .ref tl) (C := RX9) (T := TX9) (N := 18) hx hb hts in_c_add_X9 hown hK hP 0 rfl rfl 4 (by decide) (hts (.fieldLink RX9 25 "OwnedPlaces$Text" "links" "[I") (wm_c_add 5 rfl)) (fun _ h9 => h9) rfl dX9_add_31 ?_
  refine lv_aload_n hx hb dX9_add_34 rfl (lv_at hl 0 rfl) ?_
  refine va_get (D := (dC, dI)) (ci := 9) (v := .int (nI tt)) (C := RX9) (T := TX9) (N := 18) hx hb hts in_c_add_X9 hown hK hP 0 rfl rfl 11 (by decide) (hts (.fieldLink RX9 92 "OwnedPlaces$Text" "total" "I") (wm_c_add 2 rfl)) (fun _ h9 => h9) rfl dX9_add_35 ?_
  refine lv_iconst (v := 0) hx hb dX9_add_38 (by decide) ?_
  refine va_iast hx hb hK hP hD hS 4 0 rfl rfl (vp_in_nI ht (by decide)) dX9_add_39 (fun H locs hP hD hS => ?_)
  have hP : va_P (dC, dI) vwCl [(h, .inr (9, [.ref tk, .ref tp, .ref tn, .ref tu, .ref tl, .int ln, .int now, .int ft, .int pl, .int nt, .ref tb, .int (nI tt), .ref ts, .ref tf, .ref tz, .ref tx, .ref th, .ref tw])), (tk, .inl (kI, 3002, .inl fk1)), (tp, .inl (kI, 3002, .inl fp1)), (tn, .inl (kI, 3002, .inl fn1)), (tl, .inl (kI, 3002, .inl (upd fl (nI tt : Int32).toNatClampNeg 0)))] H := hP
  have hD : va_D A [(h, .inr (9, [.ref tk, .ref tp, .ref tn, .ref tu, .ref tl, .int ln, .int now, .int ft, .int pl, .int nt, .ref tb, .int (nI tt), .ref ts, .ref tf, .ref tz, .ref tx, .ref th, .ref tw])), (tk, .inl (kI, 3002, .inl fk1)), (tp, .inl (kI, 3002, .inl fp1)), (tn, .inl (kI, 3002, .inl fn1)), (tl, .inl (kI, 3002, .inl (upd fl (nI tt : Int32).toNatClampNeg 0)))] := hD
  obtain ⟨fl1, efl1⟩ : ∃ zZ : Nat → Int32, zZ = upd fl (nI tt : Int32).toNatClampNeg 0 := ⟨_, rfl⟩
  rw [← efl1] at hP hD
  refine lv_aload_n hx hb dX9_add_40 rfl (lv_at hl 0 rfl) ?_
  refine lv_dup hx hb dX9_add_41 rfl ?_
  refine va_get (D := (dC, dI)) (ci := 9) (v := .int (nI tt)) (C := RX9) (T := TX9) (N := 18) hx hb hts in_c_add_X9 hown hK hP 0 rfl rfl 11 (by decide) (hts (.fieldLink RX9 92 "OwnedPlaces$Text" "total" "I") (wm_c_add 2 rfl)) (fun _ h9 => h9) rfl dX9_add_42 ?_
  refine lv_iconst (v := 1) hx hb dX9_add_45 (by decide) ?_
  refine lv_iadd hx hb dX9_add_46 ?_
  refine lv_topi (fun f_1 ef_1 => ?_)
  obtain rfl : f_1 = nI (tt + 1) := ef_1.trans (nI_1 _)
  refine va_put (D := (dC, dI)) (ci := 9) (v := .int (nI (tt + 1))) (ty := .int) (C := RX9) (T := TX9) (N := 18) hx hb hts in_c_add_X9 tyX9 tyX9_ok nmX9 hown hK hP hD hS 0 rfl rfl 11 (by decide) (hts (.fieldLink RX9 92 "OwnedPlaces$Text" "total" "I") (wm_c_add 2 rfl)) (fun _ h9 => h9) rfl (by decide +kernel) rfl rfl (Nat.le_of_ble_eq_true rfl) dX9_add_47 (fun H locs hP hD hS => ?_)
  have hP : va_P (dC, dI) vwCl [(h, .inr (9, [.ref tk, .ref tp, .ref tn, .ref tu, .ref tl, .int ln, .int now, .int ft, .int pl, .int nt, .ref tb, .int (nI (tt + 1)), .ref ts, .ref tf, .ref tz, .ref tx, .ref th, .ref tw])), (tk, .inl (kI, 3002, .inl fk1)), (tp, .inl (kI, 3002, .inl fp1)), (tn, .inl (kI, 3002, .inl fn1)), (tl, .inl (kI, 3002, .inl fl1))] H := hP
  have hD : va_D A [(h, .inr (9, [.ref tk, .ref tp, .ref tn, .ref tu, .ref tl, .int ln, .int now, .int ft, .int pl, .int nt, .ref tb, .int (nI (tt + 1)), .ref ts, .ref tf, .ref tz, .ref tx, .ref th, .ref tw])), (tk, .inl (kI, 3002, .inl fk1)), (tp, .inl (kI, 3002, .inl fp1)), (tn, .inl (kI, 3002, .inl fn1)), (tl, .inl (kI, 3002, .inl fl1))] := hD
  obtain ⟨fp2, hfp2⟩ : ∃ q : Nat → Int32, fp1 = (fun uQ9 => aN (q uQ9)) := ⟨upd fp tt wh, by rw [efp1, nI_clamp (by omega)]; exact aN_up hwh⟩
  rw [hfp2] at hP hD
  have hP : va_P (dC, dI) vwCl [(h, .inr (9, [.ref tk, .ref tp, .ref tn, .ref tu, .ref tl, .int ln, .int now, .int ft, .int pl, .int nt, .ref tb, .int (nI (tt + 1)), .ref ts, .ref tf, .ref tz, .ref tx, .ref th, .ref tw])), (tk, .inl (kI, 3002, .inl fk1)), (tp, .inl (kI, 3002, .inl (fun uQ9 => aN (fp2 uQ9)))), (tn, .inl (kI, 3002, .inl fn1)), (tl, .inl (kI, 3002, .inl fl1))] H := hP
  have hD : va_D A [(h, .inr (9, [.ref tk, .ref tp, .ref tn, .ref tu, .ref tl, .int ln, .int now, .int ft, .int pl, .int nt, .ref tb, .int (nI (tt + 1)), .ref ts, .ref tf, .ref tz, .ref tx, .ref th, .ref tw])), (tk, .inl (kI, 3002, .inl fk1)), (tp, .inl (kI, 3002, .inl (fun uQ9 => aN (fp2 uQ9)))), (tn, .inl (kI, 3002, .inl fn1)), (tl, .inl (kI, 3002, .inl fl1))] := hD
  have hP9 := hP.sub (ws' := [(h, .inr (9, [.ref tk, .ref tp, .ref tn, .ref tu, .ref tl, .int ln, .int now, .int ft, .int pl, .int nt, .ref tb, .int (nI (tt + 1)), .ref ts, .ref tf, .ref tz, .ref tx, .ref th, .ref tw])), (tk, .inl (kI, 3002, .inl fk1)), (tp, .inl (kI, 3002, .inl (fun uQ9 => aN (fp2 uQ9)))), (tn, .inl (kI, 3002, .inl fn1)), (tl, .inl (kI, 3002, .inl fl1))]) [0, 1, 2, 3, 4] rfl
  have hD9 := hD.sub (ws' := [(h, .inr (9, [.ref tk, .ref tp, .ref tn, .ref tu, .ref tl, .int ln, .int now, .int ft, .int pl, .int nt, .ref tb, .int (nI (tt + 1)), .ref ts, .ref tf, .ref tz, .ref tx, .ref th, .ref tw])), (tk, .inl (kI, 3002, .inl fk1)), (tp, .inl (kI, 3002, .inl (fun uQ9 => aN (fp2 uQ9)))), (tn, .inl (kI, 3002, .inl fn1)), (tl, .inl (kI, 3002, .inl fl1))]) [0, 1, 2, 3, 4] (by decide) rfl
  have hK9 := hK.sub (tys' := [(kI, .int)]) [0] rfl
  exact W.vret hx hb hr (fun tS ht hW => ⟨⟨(), rfl, trivial, fk1, fp2, fn1, fl1, by rw [efk1, nI_clamp (by omega)], by rw [efn1, nI_clamp (by omega)], by rw [efl1, nI_clamp (by omega)], by rw [ht]; exact hP9, va_K.moved hW.alike hK9, hD9⟩, hS.F ht⟩) hS.2.2 dX9_add_50
def wf_c_addBad : List Cond := [.code yX9_addBad cX9_addBad 3 (some .int), .code yX9_add cX9_add 4 none, .fieldLink RX9 9 "OwnedPlaces$Text" "kinds" "[I", .fieldLink RX9 92 "OwnedPlaces$Text" "total" "I", .fieldLink RX9 15 "OwnedPlaces$Text" "places" "[I", .fieldLink RX9 18 "OwnedPlaces$Text" "names" "[I", .fieldLink RX9 25 "OwnedPlaces$Text" "links" "[I", .methodLink RX9 102 yX9_add, .instanceMethod yX9_add, .selects RX9 yX9_add yX9_add, .initialized RX9]
def wp_c_addBad : List Cond := wf_c_addBad ++ (wsX90 ++ [])
theorem in_c_addBad_X9 : ∀ w ∈ wsX90, w ∈ wp_c_addBad := fun w h => List.mem_append_right _ (List.mem_append_left _ h)
theorem wg_c_addBad : wf_c_addBad.all goodWord = true := by decide +kernel
theorem wm_c_addBad (k : Nat) {w : Cond} (h : wp_c_addBad[k]? = some w) : w ∈ wp_c_addBad := List.mem_of_getElem? h
set_option maxRecDepth 20000 in
theorem g_c_addBad_c_add_4 : GoodIn wp_c_addBad (wsV RX9 102 RX9 yX9_add wp_c_add) := goodIn_app (goodIn_f [.methodLink RX9 102 yX9_add, .instanceMethod yX9_add, .selects RX9 yX9_add yX9_add, .initialized RX9] [7, 8, 9, 10] rfl (by decide +kernel)) (goodIn_app (goodIn_f (wf_c_add) [1, 2, 3, 4, 5, 6] rfl wg_c_add) (goodIn_app (goodIn_sub in_c_addBad_X9 gd_X9) (goodIn_n)))
set_option maxHeartbeats 4000000 in
set_option maxRecDepth 100000 in
theorem c_addBad (l : Launch) (dC : Nat → ClassId) (dI : Nat → Nat → Nat) (h tk tp tn tu tl tb ts tf tz tx th tw : Nat) (ln ft pl nt : Int32) (now : Int32) (tt nq : Nat) (kI : ClassId) (fk fp fn fl : Nat → Int32) (wh en : Int32) (sz : Nat) (ht : tt < 3002) (hI : tkI tt nq fn fl) (hq0 : 0 < nq) (hwh : wh = aN wh) : Met l yX9_addBad wp_c_addBad ({ frames := 1, cells := 0, slots := 0, locals := 23 }) (va_Pc [.ref h, .int wh, .int en] (fun U => U.heap.size = sz ∧ va_P (dC, dI) vwCl [(h, .inr (9, [.ref tk, .ref tp, .ref tn, .ref tu, .ref tl, .int ln, .int now, .int ft, .int pl, .int nt, .ref tb, .int (nI tt), .ref ts, .ref tf, .ref tz, .ref tx, .ref th, .ref tw])), (tk, .inl (kI, 3002, .inl fk)), (tp, .inl (kI, 3002, .inl (fun uQ9 => aN (fp uQ9)))), (tn, .inl (kI, 3002, .inl fn)), (tl, .inl (kI, 3002, .inl fl))] U.heap ∧ va_K (dC, dI) vwCl [(kI, .int)] U ∧ va_D (fun _ => True) [(h, .inr (9, [.ref tk, .ref tp, .ref tn, .ref tu, .ref tl, .int ln, .int now, .int ft, .int pl, .int nt, .ref tb, .int (nI tt), .ref ts, .ref tf, .ref tz, .ref tx, .ref th, .ref tw])), (tk, .inl (kI, 3002, .inl fk)), (tp, .inl (kI, 3002, .inl (fun uQ9 => aN (fp uQ9)))), (tn, .inl (kI, 3002, .inl fn)), (tl, .inl (kI, 3002, .inl fl))])) (va_Qi (fun (r : Int32) (_ : Unit) => r = en) (fun (_ : Unit) (tS : State) => ∃ (gk : Nat → Int32) (gp : Nat → Int32) (gn : Nat → Int32) (gl : Nat → Int32), (tkI (tt + 1) nq gn gl) ∧ va_P (dC, dI) vwCl [(h, .inr (9, [.ref tk, .ref tp, .ref tn, .ref tu, .ref tl, .int ln, .int now, .int ft, .int pl, .int nt, .ref tb, .int (nI (tt + 1)), .ref ts, .ref tf, .ref tz, .ref tx, .ref th, .ref tw])), (tk, .inl (kI, 3002, .inl gk)), (tp, .inl (kI, 3002, .inl (fun uQ9 => aN (gp uQ9)))), (tn, .inl (kI, 3002, .inl gn)), (tl, .inl (kI, 3002, .inl gl))] tS.heap ∧ va_K (dC, dI) vwCl [(kI, .int)] tS ∧ va_D (va_A [(h, .inr (9, [.ref tk, .ref tp, .ref tn, .ref tu, .ref tl, .int ln, .int now, .int ft, .int pl, .int nt, .ref tb, .int (nI tt), .ref ts, .ref tf, .ref tz, .ref tx, .ref th, .ref tw])), (tk, .inl (kI, 3002, .inl fk)), (tp, .inl (kI, 3002, .inl (fun uQ9 => aN (fp uQ9)))), (tn, .inl (kI, 3002, .inl fn)), (tl, .inl (kI, 3002, .inl fl))] sz) [(h, .inr (9, [.ref tk, .ref tp, .ref tn, .ref tu, .ref tl, .int ln, .int now, .int ft, .int pl, .int nt, .ref tb, .int (nI (tt + 1)), .ref ts, .ref tf, .ref tz, .ref tx, .ref th, .ref tw])), (tk, .inl (kI, 3002, .inl gk)), (tp, .inl (kI, 3002, .inl (fun uQ9 => aN (gp uQ9)))), (tn, .inl (kI, 3002, .inl gn)), (tl, .inl (kI, 3002, .inl gl))]) (va_A [(h, .inr (9, [.ref tk, .ref tp, .ref tn, .ref tu, .ref tl, .int ln, .int now, .int ft, .int pl, .int nt, .ref tb, .int (nI tt), .ref ts, .ref tf, .ref tz, .ref tx, .ref th, .ref tw])), (tk, .inl (kI, 3002, .inl fk)), (tp, .inl (kI, 3002, .inl (fun uQ9 => aN (fp uQ9)))), (tn, .inl (kI, 3002, .inl fn)), (tl, .inl (kI, 3002, .inl fl))] sz)) 0 0 (va_A [(h, .inr (9, [.ref tk, .ref tp, .ref tn, .ref tu, .ref tl, .int ln, .int now, .int ft, .int pl, .int nt, .ref tb, .int (nI tt), .ref ts, .ref tf, .ref tz, .ref tx, .ref th, .ref tw])), (tk, .inl (kI, 3002, .inl fk)), (tp, .inl (kI, 3002, .inl (fun uQ9 => aN (fp uQ9)))), (tn, .inl (kI, 3002, .inl fn)), (tl, .inl (kI, 3002, .inl fl))] sz) := by
  refine Met.ofW (cc := cX9_addBad) (maxL := 3) (ret := (some .int)) (by decide) rfl ?_
  intro p e s m args below meth c s₁ B hml hv
  obtain ⟨rfl, hsz, hP, hK, hD0⟩ := hv
  have hx := B.exec
  have hb := B.bytes
  have hr := B.returns
  have hts := atoms_spec (ws := wp_c_addBad) B.pre
  have hown : s.vm.findClass RX9 = some m.cls := findClass_of_methodNamed B.named
  have hlocks := B.notSynchronized
  subst hsz
  have hD := hD0.self (sz := s.heap.size)
  generalize hAe : va_A [(h, .inr (9, [.ref tk, .ref tp, .ref tn, .ref tu, .ref tl, .int ln, .int now, .int ft, .int pl, .int nt, .ref tb, .int (nI tt), .ref ts, .ref tf, .ref tz, .ref tx, .ref th, .ref tw])), (tk, .inl (kI, 3002, .inl fk)), (tp, .inl (kI, 3002, .inl (fun uQ9 => aN (fp uQ9)))), (tn, .inl (kI, 3002, .inl fn)), (tl, .inl (kI, 3002, .inl fl))] s.heap.size = A at hD ⊢
  have hA : ∀ q : Nat, s.heap.size ≤ q → A q := fun q h => by rw [← hAe]; exact Or.inr h
  have hS : va_S A s.heap s.heap [] := va_S.rf
  have hP : va_P (dC, dI) vwCl [(h, .inr (9, [.ref tk, .ref tp, .ref tn, .ref tu, .ref tl, .int ln, .int now, .int ft, .int pl, .int nt, .ref tb, .int (nI tt), .ref ts, .ref tf, .ref tz, .ref tx, .ref th, .ref tw])), (tk, .inl (kI, 3002, .inl fk)), (tp, .inl (kI, 3002, .inl (fun uQ9 => aN (fp uQ9)))), (tn, .inl (kI, 3002, .inl fn)), (tl, .inl (kI, 3002, .inl fl))] s.heap := hP
  have hl := lv_entry ([.ref h, .int wh, .int en]) (n := 3) (Nat.le_of_ble_eq_true rfl)
  rw [lg_entry_eq]
  generalize (lg_sl ([.ref h, .int wh, .int en]) ++ List.replicate (3 - (lg_sl ([.ref h, .int wh, .int en])).length) Slot.unset).toArray = ls at hl ⊢
  have hl : lv_has ls 3 [(0, .ref h), (1, .int wh), (2, .int en)] := hl
  refine lv_aload_n hx hb dX9_addBad_0 rfl (lv_at hl 0 rfl) ?_
  refine lv_iconst (v := 1) hx hb dX9_addBad_1 (by decide) ?_
  refine lv_iload_n hx hb dX9_addBad_2 rfl (lv_at hl 1 rfl) ?_
  refine lv_iconst (v := 0) hx hb dX9_addBad_3 (by decide) ?_
  have hPc := hP.sub (ws' := [(h, .inr (9, [.ref tk, .ref tp, .ref tn, .ref tu, .ref tl, .int ln, .int now, .int ft, .int pl, .int nt, .ref tb, .int (nI tt), .ref ts, .ref tf, .ref tz, .ref tx, .ref th, .ref tw])), (tk, .inl (kI, 3002, .inl fk)), (tp, .inl (kI, 3002, .inl (fun uQ9 => aN (fp uQ9)))), (tn, .inl (kI, 3002, .inl fn)), (tl, .inl (kI, 3002, .inl fl))]) [0, 1, 2, 3, 4] rfl
  have hDc := hD.sub (ws' := [(h, .inr (9, [.ref tk, .ref tp, .ref tn, .ref tu, .ref tl, .int ln, .int now, .int ft, .int pl, .int nt, .ref tb, .int (nI tt), .ref ts, .ref tf, .ref tz, .ref tx, .ref th, .ref tw])), (tk, .inl (kI, 3002, .inl fk)), (tp, .inl (kI, 3002, .inl (fun uQ9 => aN (fp uQ9)))), (tn, .inl (kI, 3002, .inl fn)), (tl, .inl (kI, 3002, .inl fl))]) [0, 1, 2, 3, 4] (by decide) rfl
  have hKc := hK.sub (tys' := [(kI, .int)]) [0] rfl
  have hFc := va_free (wc := [(h, .inr (9, [.ref tk, .ref tp, .ref tn, .ref tu, .ref tl, .int ln, .int now, .int ft, .int pl, .int nt, .ref tb, .int (nI tt), .ref ts, .ref tf, .ref tz, .ref tx, .ref th, .ref tw])), (tk, .inl (kI, 3002, .inl fk)), (tp, .inl (kI, 3002, .inl (fun uQ9 => aN (fp uQ9)))), (tn, .inl (kI, 3002, .inl fn)), (tl, .inl (kI, 3002, .inl fl))]) hD hS hA [0, 1, 2, 3, 4] rfl
  refine va_callv (va_runV (As := [.int 1, .int wh, .int 0]) (rest := []) ⟨hx, hb, hml, hown, hts⟩ (c_add l dC dI h tk tp tn tu tl tb ts tf tz tx th tw ln ft pl nt now tt kI fk fp fn fl 1 wh 0 s.heap.size ht hwh) (cwV 3 hts g_c_addBad_c_add_4 rfl rfl rfl (by decide +kernel) ⟨Nat.le_of_ble_eq_true rfl, Nat.le_of_ble_eq_true rfl⟩) ⟨fun a U g mk q => by obtain ⟨q0, q1, qP, qK, qD⟩ := q; exact ⟨q0, q1, qP, va_K.moved (u := U) (U := U.calling g mk a) (Vm.Alike.refl U.vm) qK, qD⟩, va_recv hKc hPc (ci := 9) (q0 := 0) rfl rfl, fun U hU hW => ⟨rfl, by rw [hU], by rw [hU]; exact hPc, va_K.moved hW.alike hKc, hDc.weaken (fun _ _ _ _ => trivial)⟩⟩ rfl rfl hl.1 rfl (lv_room (Nat.le_of_ble_eq_true rfl)) dX9_addBad_4 ⟨(show 0 + 0 ≤ 0 by omega), (show 0 + 0 ≤ 0 by omega)⟩) hS (fun q _ h => hFc q h) hFc (fun u tS H1 locs ht hvm hw hB hz1 hk1 hS => ?_)
  obtain ⟨gk1, gp1, gn1, gl1, hf1_0, hf1_1, hf1_2, hP1, hK1, hD1⟩ := hB
  rw [ht] at hP1
  have hK1 := va_K.moved hvm.symm hK1
  obtain ⟨hP, hD⟩ := va_join (wr := []) (w1 := [(h, .inr (9, [.ref tk, .ref tp, .ref tn, .ref tu, .ref tl, .int ln, .int now, .int ft, .int pl, .int nt, .ref tb, .int (nI (tt + 1)), .ref ts, .ref tf, .ref tz, .ref tx, .ref th, .ref tw])), (tk, .inl (kI, 3002, .inl gk1)), (tp, .inl (kI, 3002, .inl (fun uQ9 => aN (gp1 uQ9)))), (tn, .inl (kI, 3002, .inl gn1)), (tl, .inl (kI, 3002, .inl gl1))]) hP hD [0, 1, 2, 3, 4] [] rfl rfl (by decide) (by decide) hk1 hFc hP1 hD1
  have hK := hK.app hK1
  generalize H1 = H at hP hS ⊢
  have hP : va_P (dC, dI) vwCl [(h, .inr (9, [.ref tk, .ref tp, .ref tn, .ref tu, .ref tl, .int ln, .int now, .int ft, .int pl, .int nt, .ref tb, .int (nI (tt + 1)), .ref ts, .ref tf, .ref tz, .ref tx, .ref th, .ref tw])), (tk, .inl (kI, 3002, .inl gk1)), (tp, .inl (kI, 3002, .inl (fun uQ9 => aN (gp1 uQ9)))), (tn, .inl (kI, 3002, .inl gn1)), (tl, .inl (kI, 3002, .inl gl1))] H := hP
  have hD : va_D A [(h, .inr (9, [.ref tk, .ref tp, .ref tn, .ref tu, .ref tl, .int ln, .int now, .int ft, .int pl, .int nt, .ref tb, .int (nI (tt + 1)), .ref ts, .ref tf, .ref tz, .ref tx, .ref th, .ref tw])), (tk, .inl (kI, 3002, .inl gk1)), (tp, .inl (kI, 3002, .inl (fun uQ9 => aN (gp1 uQ9)))), (tn, .inl (kI, 3002, .inl gn1)), (tl, .inl (kI, 3002, .inl gl1))] := hD
  have hK : va_K (dC, dI) vwCl [(kI, .int), (kI, .int)] s := hK
  have hK := hK.sub (tys' := [(kI, .int)]) [0] rfl
  have hP : va_P (dC, dI) vwCl [(h, .inr (9, [.ref tk, .ref tp, .ref tn, .ref tu, .ref tl, .int ln, .int now, .int ft, .int pl, .int nt, .ref tb, .int (nI (tt + 1)), .ref ts, .ref tf, .ref tz, .ref tx, .ref th, .ref tw])), (tk, .inl (kI, 3002, .inl gk1)), (tp, .inl (kI, 3002, .inl (fun uQ9 => aN (gp1 uQ9)))), (tn, .inl (kI, 3002, .inl gn1)), (tl, .inl (kI, 3002, .inl gl1))] H := hP
  have hD : va_D A [(h, .inr (9, [.ref tk, .ref tp, .ref tn, .ref tu, .ref tl, .int ln, .int now, .int ft, .int pl, .int nt, .ref tb, .int (nI (tt + 1)), .ref ts, .ref tf, .ref tz, .ref tx, .ref th, .ref tw])), (tk, .inl (kI, 3002, .inl gk1)), (tp, .inl (kI, 3002, .inl (fun uQ9 => aN (gp1 uQ9)))), (tn, .inl (kI, 3002, .inl gn1)), (tl, .inl (kI, 3002, .inl gl1))] := hD
  refine lv_iload_n hx hb dX9_addBad_7 rfl (lv_at hl 2 rfl) ?_
  have hP9 := hP.sub (ws' := [(h, .inr (9, [.ref tk, .ref tp, .ref tn, .ref tu, .ref tl, .int ln, .int now, .int ft, .int pl, .int nt, .ref tb, .int (nI (tt + 1)), .ref ts, .ref tf, .ref tz, .ref tx, .ref th, .ref tw])), (tk, .inl (kI, 3002, .inl gk1)), (tp, .inl (kI, 3002, .inl (fun uQ9 => aN (gp1 uQ9)))), (tn, .inl (kI, 3002, .inl gn1)), (tl, .inl (kI, 3002, .inl gl1))]) [0, 1, 2, 3, 4] rfl
  have hD9 := hD.sub (ws' := [(h, .inr (9, [.ref tk, .ref tp, .ref tn, .ref tu, .ref tl, .int ln, .int now, .int ft, .int pl, .int nt, .ref tb, .int (nI (tt + 1)), .ref ts, .ref tf, .ref tz, .ref tx, .ref th, .ref tw])), (tk, .inl (kI, 3002, .inl gk1)), (tp, .inl (kI, 3002, .inl (fun uQ9 => aN (gp1 uQ9)))), (tn, .inl (kI, 3002, .inl gn1)), (tl, .inl (kI, 3002, .inl gl1))]) [0, 1, 2, 3, 4] (by decide) rfl
  have hK9 := hK.sub (tys' := [(kI, .int)]) [0] rfl
  exact W.iret (v := en) hx hb hr (fun tS ht hW => ⟨⟨en, (), rfl, rfl, gk1, gp1, gn1, gl1, by rw [hf1_1, hf1_2]; exact tkI_add (k := 0) hI hq0, by rw [ht]; exact hP9, va_K.moved hW.alike hK9, hD9⟩, hS.F ht⟩) hS.2.2 dX9_addBad_8
