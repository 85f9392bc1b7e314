def wf_c_rat : List Cond := [.code yX23_at cX23_at 2 (some .int), .fieldLink RX23 1 "OwnedPlacesModel" "size" "I", .fieldLink RX23 7 "OwnedPlacesModel" "text" "[I"]
def wp_c_rat : List Cond := wf_c_rat ++ (wsX230 ++ [])
theorem in_c_rat_X23 : ∀ w ∈ wsX230, w ∈ wp_c_rat := fun w h => List.mem_append_right _ (List.mem_append_left _ h)
theorem wg_c_rat : wf_c_rat.all goodWord = true := by decide +kernel
theorem wm_c_rat (k : Nat) {w : Cond} (h : wp_c_rat[k]? = some w) : w ∈ wp_c_rat := List.mem_of_getElem? h
set_option maxHeartbeats 4000000 in
set_option maxRecDepth 100000 in
theorem c_rat (l : Launch) (dC : Nat → ClassId) (dI : Nat → Nat → Nat) (m9 : Nat) (mr : Nat → Nat) (mv : Nat → Int32) (vf : Value) (xl xf xa xp xi xt xn xe xv xb : Int32) (zs tk : Nat) (k : Nat) (kI : ClassId) (ft : Nat → Int32) (sz : Nat) (hzs : zs ≤ 3000) (hk : k < 2 ^ 31) : Met l yX23_at wp_c_rat ({ frames := 0, cells := 0, slots := 0, locals := 0 }) (va_Pc [.ref m9, .int (nI k)] (fun U => U.heap.size = sz ∧ va_P (dC, dI) vwCl [(m9, .inr (23, mA mr mv vf xl (nI zs) xf xa (nI tk) xp xi xt xn xe xv xb)), (mr 0, .inl (kI, 3000, .inl ft))] U.heap ∧ va_K (dC, dI) vwCl [(kI, .int)] U ∧ va_D (fun _ => True) [(m9, .inr (23, mA mr mv vf xl (nI zs) xf xa (nI tk) xp xi xt xn xe xv xb)), (mr 0, .inl (kI, 3000, .inl ft))])) (va_Qi (fun (r : Int32) (_ : Unit) => r = atF ft zs k) (fun (_ : Unit) (tS : State) => va_P (dC, dI) vwCl [(m9, .inr (23, mA mr mv vf xl (nI zs) xf xa (nI tk) xp xi xt xn xe xv xb)), (mr 0, .inl (kI, 3000, .inl ft))] tS.heap ∧ va_K (dC, dI) vwCl [(kI, .int)] tS ∧ va_D (va_A [(m9, .inr (23, mA mr mv vf xl (nI zs) xf xa (nI tk) xp xi xt xn xe xv xb)), (mr 0, .inl (kI, 3000, .inl ft))] sz) [(m9, .inr (23, mA mr mv vf xl (nI zs) xf xa (nI tk) xp xi xt xn xe xv xb)), (mr 0, .inl (kI, 3000, .inl ft))]) (va_A [(m9, .inr (23, mA mr mv vf xl (nI zs) xf xa (nI tk) xp xi xt xn xe xv xb)), (mr 0, .inl (kI, 3000, .inl ft))] sz)) 0 0 (va_A [(m9, .inr (23, mA mr mv vf xl (nI zs) xf xa (nI tk) xp xi xt xn xe xv xb)), (mr 0, .inl (kI, 3000, .inl ft))] sz) := by
  refine Met.ofW (cc := cX23_at) (maxL := 2) (ret := (some .int)) (by decide) rfl ?_
  intro p e s m args below meth c s₁ B hml hv
  obtain ⟨rfl, hsz, hP, hK, hD0⟩ := hv
  have hx := B.exec
  have hb := B.bytes
  have hr := B.returns
  have hts := atoms_spec (ws := wp_c_rat) B.pre
  have hown : s.vm.findClass RX23 = some m.cls := findClass_of_methodNamed B.named
  have hlocks := B.notSynchronized
  subst hsz
  have hD := hD0.self (sz := s.heap.size)
  generalize hAe : va_A [(m9, .inr (23, mA mr mv vf xl (nI zs) xf xa (nI tk) xp xi xt xn xe xv xb)), (mr 0, .inl (kI, 3000, .inl ft))] s.heap.size = A at hD ⊢
  have hA : ∀ q : Nat, s.heap.size ≤ q → A q := fun q h => by rw [← hAe]; exact Or.inr h
  have hS : va_S A s.heap s.heap [] := va_S.rf
  have hP : va_P (dC, dI) vwCl [(m9, .inr (23, mA mr mv vf xl (nI zs) xf xa (nI tk) xp xi xt xn xe xv xb)), (mr 0, .inl (kI, 3000, .inl ft))] s.heap := hP
  have hl := lv_entry ([.ref m9, .int (nI k)]) (n := 2) (Nat.le_of_ble_eq_true rfl)
  rw [lg_entry_eq]
  generalize (lg_sl ([.ref m9, .int (nI k)]) ++ List.replicate (2 - (lg_sl ([.ref m9, .int (nI k)])).length) Slot.unset).toArray = ls at hl ⊢
  have hl : lv_has ls 2 [(0, .ref m9), (1, .int (nI k))] := hl
  refine lv_iload_n hx hb dX23_at_0 rfl (lv_at hl 1 rfl) ?_
  refine lv_aload_n hx hb dX23_at_1 rfl (lv_at hl 0 rfl) ?_
  refine va_get (D := (dC, dI)) (ci := 23) (v := .int (nI zs)) (C := RX23) (T := TX23) (N := 89) hx hb hts in_c_rat_X23 hown hK hP 0 rfl rfl 2 (by decide) (hts (.fieldLink RX23 1 "OwnedPlacesModel" "size" "I") (wm_c_rat 1 rfl)) (fun _ h9 => h9) rfl dX23_at_2 ?_
  refine lv_icmp_ge (tgt := 17) hx hb dX23_at_5 (by decide) (fun hc => ?_) (fun hc => ?_)
  · refine lv_iconst (v := (-1)) hx hb dX23_at_17 (by decide) ?_
    have hP9 := hP.sub (ws' := [(m9, .inr (23, mA mr mv vf xl (nI zs) xf xa (nI tk) xp xi xt xn xe xv xb)), (mr 0, .inl (kI, 3000, .inl ft))]) [0, 1] rfl
    have hD9 := hD.sub (ws' := [(m9, .inr (23, mA mr mv vf xl (nI zs) xf xa (nI tk) xp xi xt xn xe xv xb)), (mr 0, .inl (kI, 3000, .inl ft))]) [0, 1] (by decide) rfl
    have hK9 := hK.sub (tys' := [(kI, .int)]) [0] rfl
    exact W.iret (v := (-1)) hx hb hr (fun tS ht hW => ⟨⟨(-1), (), rfl, (by unfold atF; rw [if_neg (fun q => nI_ge q (by omega) hc)]), by rw [ht]; exact hP9, va_K.moved hW.alike hK9, hD9⟩, hS.F ht⟩) hS.2.2 dX23_at_18
  · have hlt : k < zs := by rcases Nat.lt_or_ge k zs with z9 | z9; exact z9; exact absurd (nI_le z9 hk) hc
    refine lv_aload_n hx hb dX23_at_8 rfl (lv_at hl 0 rfl) ?_
    refine va_get (D := (dC, dI)) (ci := 23) (v := .ref (mr 0)) (C := RX23) (T := TX23) (N := 89) hx hb hts in_c_rat_X23 hown hK hP 0 rfl rfl 0 (by decide) (hts (.fieldLink RX23 7 "OwnedPlacesModel" "text" "[I") (wm_c_rat 2 rfl)) (fun _ h9 => h9) rfl dX23_at_9 ?_
    refine lv_iload_n hx hb dX23_at_12 rfl (lv_at hl 1 rfl) ?_
    refine va_iald hx hb hK hP 1 0 rfl rfl (vp_in_nI (show k < 3000 by omega) (by decide)) dX23_at_13 ?_
    refine lv_topi (fun v_1 ev_1 => ?_)
    refine lv_goto (tgt := 18) hx hb dX23_at_14 (by decide) ?_
    have hP9 := hP.sub (ws' := [(m9, .inr (23, mA mr mv vf xl (nI zs) xf xa (nI tk) xp xi xt xn xe xv xb)), (mr 0, .inl (kI, 3000, .inl ft))]) [0, 1] rfl
    have hD9 := hD.sub (ws' := [(m9, .inr (23, mA mr mv vf xl (nI zs) xf xa (nI tk) xp xi xt xn xe xv xb)), (mr 0, .inl (kI, 3000, .inl ft))]) [0, 1] (by decide) rfl
    have hK9 := hK.sub (tys' := [(kI, .int)]) [0] rfl
    exact W.iret (v := v_1) hx hb hr (fun tS ht hW => ⟨⟨v_1, (), rfl, (by rw [ev_1, nI_clamp hk]; unfold atF; rw [if_pos hlt]), by rw [ht]; exact hP9, va_K.moved hW.alike hK9, hD9⟩, hS.F ht⟩) hS.2.2 dX23_at_18
def wf_c_rlet : List Cond := [.code yX23_isLetter cX23_isLetter 1 (some .boolean)]
def wp_c_rlet : List Cond := wf_c_rlet ++ []
theorem wg_c_rlet : wf_c_rlet.all goodWord = true := by decide +kernel
theorem wm_c_rlet (k : Nat) {w : Cond} (h : wp_c_rlet[k]? = some w) : w ∈ wp_c_rlet := List.mem_of_getElem? h
set_option maxHeartbeats 4000000 in
set_option maxRecDepth 100000 in
theorem c_rlet (l : Launch) (dC : Nat → ClassId) (dI : Nat → Nat → Nat) (ch : Int32) (sz : Nat) : Met l yX23_isLetter wp_c_rlet ({ frames := 0, cells := 0, slots := 0, locals := 0 }) (va_Pc [.int ch] (fun U => U.heap.size = sz ∧ va_P (dC, dI) vwCl [] U.heap ∧ va_K (dC, dI) vwCl [] U ∧ va_D (fun _ => True) [])) (va_Qi (fun (r : Int32) (_ : Unit) => (r = 0 ∨ r = 1) ∧ r = letF ch) (fun (_ : Unit) (tS : State) => va_P (dC, dI) vwCl [] tS.heap ∧ va_K (dC, dI) vwCl [] tS ∧ va_D (va_A [] sz) []) (va_A [] sz)) 0 0 (va_A [] sz) := by
  refine Met.ofW (cc := cX23_isLetter) (maxL := 1) (ret := (some .boolean)) (by decide) rfl ?_
  intro p e s m args below meth c s₁ B hml hv
  obtain ⟨rfl, hsz, hP, hK, hD0⟩ := hv
  have hx := B.exec
  have hb := B.bytes
  have hr := B.returns
  have hts := atoms_spec (ws := wp_c_rlet) B.pre
  have hown : s.vm.findClass RX23 = some m.cls := findClass_of_methodNamed B.named
  have hlocks := B.notSynchronized
  subst hsz
  have hD := hD0.self (sz := s.heap.size)
  generalize hAe : va_A [] s.heap.size = A at hD ⊢
  have hA : ∀ q : Nat, s.heap.size ≤ q → A q := fun q h => by rw [← hAe]; exact Or.inr h
  have hS : va_S A s.heap s.heap [] := va_S.rf
  have hP : va_P (dC, dI) vwCl [] s.heap := hP
  have hl := lv_entry ([.int ch]) (n := 1) (Nat.le_of_ble_eq_true rfl)
  rw [lg_entry_eq]
  generalize (lg_sl ([.int ch]) ++ List.replicate (1 - (lg_sl ([.int ch])).length) Slot.unset).toArray = ls at hl ⊢
  have hl : lv_has ls 1 [(0, .int ch)] := hl
  refine lv_iload_n hx hb dX23_isLetter_0 rfl (lv_at hl 0 rfl) ?_
  refine lv_bipush (v := 97) hx hb dX23_isLetter_1 (by decide) ?_
  refine lv_icmp_lt (tgt := 12) hx hb dX23_isLetter_3 (by decide) (fun hy1 => ?_) (fun hy1 => ?_)
  · refine lv_iload_n hx hb dX23_isLetter_12 rfl (lv_at hl 0 rfl) ?_
    refine lv_bipush (v := 65) hx hb dX23_isLetter_13 (by decide) ?_
    refine lv_icmp_lt (tgt := 24) hx hb dX23_isLetter_15 (by decide) (fun hy2 => ?_) (fun hy2 => ?_)
    · refine lv_iload_n hx hb dX23_isLetter_24 rfl (lv_at hl 0 rfl) ?_
      refine lv_bipush (v := 95) hx hb dX23_isLetter_25 (by decide) ?_
      refine lv_icmp_ne (tgt := 34) hx hb dX23_isLetter_27 (by decide) (fun hy3 => ?_) (fun hy3 => ?_)
      · refine lv_iconst (v := 0) hx hb dX23_isLetter_34 (by decide) ?_
        have hP9 := hP.sub (ws' := []) [] rfl
        have hD9 := hD.sub (ws' := []) [] (by decide) rfl
        have hK9 := hK.sub (tys' := []) [] rfl
        exact W.zret (v := 0) hx hb hr (by decide) (fun tS ht hW => ⟨⟨0, (), rfl, ⟨Or.inl rfl, by unfold letF letA letB; (repeat' split) <;> first | rfl | contradiction⟩, by rw [ht]; exact hP9, va_K.moved hW.alike hK9, hD9⟩, hS.F ht⟩) hS.2.2 dX23_isLetter_35
      · refine lv_iconst (v := 1) hx hb dX23_isLetter_30 (by decide) ?_
        refine lv_goto (tgt := 35) hx hb dX23_isLetter_31 (by decide) ?_
        have hP9 := hP.sub (ws' := []) [] rfl
        have hD9 := hD.sub (ws' := []) [] (by decide) rfl
        have hK9 := hK.sub (tys' := []) [] rfl
        exact W.zret (v := 1) hx hb hr (by decide) (fun tS ht hW => ⟨⟨1, (), rfl, ⟨Or.inr rfl, by unfold letF letA letB; (repeat' split) <;> first | rfl | contradiction⟩, by rw [ht]; exact hP9, va_K.moved hW.alike hK9, hD9⟩, hS.F ht⟩) hS.2.2 dX23_isLetter_35
    · refine lv_iload_n hx hb dX23_isLetter_18 rfl (lv_at hl 0 rfl) ?_
      refine lv_bipush (v := 90) hx hb dX23_isLetter_19 (by decide) ?_
      refine lv_icmp_le (tgt := 30) hx hb dX23_isLetter_21 (by decide) (fun hy4 => ?_) (fun hy4 => ?_)
      · refine lv_iconst (v := 1) hx hb dX23_isLetter_30 (by decide) ?_
        refine lv_goto (tgt := 35) hx hb dX23_isLetter_31 (by decide) ?_
        have hP9 := hP.sub (ws' := []) [] rfl
        have hD9 := hD.sub (ws' := []) [] (by decide) rfl
        have hK9 := hK.sub (tys' := []) [] rfl
        exact W.zret (v := 1) hx hb hr (by decide) (fun tS ht hW => ⟨⟨1, (), rfl, ⟨Or.inr rfl, by unfold letF letA letB; (repeat' split) <;> first | rfl | contradiction⟩, by rw [ht]; exact hP9, va_K.moved hW.alike hK9, hD9⟩, hS.F ht⟩) hS.2.2 dX23_isLetter_35
      · refine lv_iload_n hx hb dX23_isLetter_24 rfl (lv_at hl 0 rfl) ?_
        refine lv_bipush (v := 95) hx hb dX23_isLetter_25 (by decide) ?_
        refine lv_icmp_ne (tgt := 34) hx hb dX23_isLetter_27 (by decide) (fun hy5 => ?_) (fun hy5 => ?_)
        · refine lv_iconst (v := 0) hx hb dX23_isLetter_34 (by decide) ?_
          have hP9 := hP.sub (ws' := []) [] rfl
          have hD9 := hD.sub (ws' := []) [] (by decide) rfl
          have hK9 := hK.sub (tys' := []) [] rfl
          exact W.zret (v := 0) hx hb hr (by decide) (fun tS ht hW => ⟨⟨0, (), rfl, ⟨Or.inl rfl, by unfold letF letA letB; (repeat' split) <;> first | rfl | contradiction⟩, by rw [ht]; exact hP9, va_K.moved hW.alike hK9, hD9⟩, hS.F ht⟩) hS.2.2 dX23_isLetter_35
        · refine lv_iconst (v := 1) hx hb dX23_isLetter_30 (by decide) ?_
          refine lv_goto (tgt := 35) hx hb dX23_isLetter_31 (by decide) ?_
          have hP9 := hP.sub (ws' := []) [] rfl
          have hD9 := hD.sub (ws' := []) [] (by decide) rfl
          have hK9 := hK.sub (tys' := []) [] rfl
          exact W.zret (v := 1) hx hb hr (by decide) (fun tS ht hW => ⟨⟨1, (), rfl, ⟨Or.inr rfl, by unfold letF letA letB; (repeat' split) <;> first | rfl | contradiction⟩, by rw [ht]; exact hP9, va_K.moved hW.alike hK9, hD9⟩, hS.F ht⟩) hS.2.2 dX23_isLetter_35
  · refine lv_iload_n hx hb dX23_isLetter_6 rfl (lv_at hl 0 rfl) ?_
    refine lv_bipush (v := 122) hx hb dX23_isLetter_7 (by decide) ?_
    refine lv_icmp_le (tgt := 30) hx hb dX23_isLetter_9 (by decide) (fun hy6 => ?_) (fun hy6 => ?_)
    · refine lv_iconst (v := 1) hx hb dX23_isLetter_30 (by decide) ?_
      refine lv_goto (tgt := 35) hx hb dX23_isLetter_31 (by decide) ?_
      have hP9 := hP.sub (ws' := []) [] rfl
      have hD9 := hD.sub (ws' := []) [] (by decide) rfl
      have hK9 := hK.sub (tys' := []) [] rfl
      exact W.zret (v := 1) hx hb hr (by decide) (fun tS ht hW => ⟨⟨1, (), rfl, ⟨Or.inr rfl, by unfold letF letA letB; (repeat' split) <;> first | rfl | contradiction⟩, by rw [ht]; exact hP9, va_K.moved hW.alike hK9, hD9⟩, hS.F ht⟩) hS.2.2 dX23_isLetter_35
    · refine lv_iload_n hx hb dX23_isLetter_12 rfl (lv_at hl 0 rfl) ?_
      refine lv_bipush (v := 65) hx hb dX23_isLetter_13 (by decide) ?_
      refine lv_icmp_lt (tgt := 24) hx hb dX23_isLetter_15 (by decide) (fun hy7 => ?_) (fun hy7 => ?_)
      · refine lv_iload_n hx hb dX23_isLetter_24 rfl (lv_at hl 0 rfl) ?_
        refine lv_bipush (v := 95) hx hb dX23_isLetter_25 (by decide) ?_
        refine lv_icmp_ne (tgt := 34) hx hb dX23_isLetter_27 (by decide) (fun hy8 => ?_) (fun hy8 => ?_)
        · refine lv_iconst (v := 0) hx hb dX23_isLetter_34 (by decide) ?_
          have hP9 := hP.sub (ws' := []) [] rfl
          have hD9 := hD.sub (ws' := []) [] (by decide) rfl
          have hK9 := hK.sub (tys' := []) [] rfl
          exact W.zret (v := 0) hx hb hr (by decide) (fun tS ht hW => ⟨⟨0, (), rfl, ⟨Or.inl rfl, by unfold letF letA letB; (repeat' split) <;> first | rfl | contradiction⟩, by rw [ht]; exact hP9, va_K.moved hW.alike hK9, hD9⟩, hS.F ht⟩) hS.2.2 dX23_isLetter_35
        · refine lv_iconst (v := 1) hx hb dX23_isLetter_30 (by decide) ?_
          refine lv_goto (tgt := 35) hx hb dX23_isLetter_31 (by decide) ?_
          have hP9 := hP.sub (ws' := []) [] rfl
          have hD9 := hD.sub (ws' := []) [] (by decide) rfl
          have hK9 := hK.sub (tys' := []) [] rfl
          exact W.zret (v := 1) hx hb hr (by decide) (fun tS ht hW => ⟨⟨1, (), rfl, ⟨Or.inr rfl, by unfold letF letA letB; (repeat' split) <;> first | rfl | contradiction⟩, by rw [ht]; exact hP9, va_K.moved hW.alike hK9, hD9⟩, hS.F ht⟩) hS.2.2 dX23_isLetter_35
      · refine lv_iload_n hx hb dX23_isLetter_18 rfl (lv_at hl 0 rfl) ?_
        refine lv_bipush (v := 90) hx hb dX23_isLetter_19 (by decide) ?_
        refine lv_icmp_le (tgt := 30) hx hb dX23_isLetter_21 (by decide) (fun hy9 => ?_) (fun hy9 => ?_)
        · refine lv_iconst (v := 1) hx hb dX23_isLetter_30 (by decide) ?_
          refine lv_goto (tgt := 35) hx hb dX23_isLetter_31 (by decide) ?_
          have hP9 := hP.sub (ws' := []) [] rfl
          have hD9 := hD.sub (ws' := []) [] (by decide) rfl
          have hK9 := hK.sub (tys' := []) [] rfl
          exact W.zret (v := 1) hx hb hr (by decide) (fun tS ht hW => ⟨⟨1, (), rfl, ⟨Or.inr rfl, by unfold letF letA letB; (repeat' split) <;> first | rfl | contradiction⟩, by rw [ht]; exact hP9, va_K.moved hW.alike hK9, hD9⟩, hS.F ht⟩) hS.2.2 dX23_isLetter_35
        · refine lv_iload_n hx hb dX23_isLetter_24 rfl (lv_at hl 0 rfl) ?_
          refine lv_bipush (v := 95) hx hb dX23_isLetter_25 (by decide) ?_
          refine lv_icmp_ne (tgt := 34) hx hb dX23_isLetter_27 (by decide) (fun hy10 => ?_) (fun hy10 => ?_)
          · refine lv_iconst (v := 0) hx hb dX23_isLetter_34 (by decide) ?_
            have hP9 := hP.sub (ws' := []) [] rfl
            have hD9 := hD.sub (ws' := []) [] (by decide) rfl
            have hK9 := hK.sub (tys' := []) [] rfl
            exact W.zret (v := 0) hx hb hr (by decide) (fun tS ht hW => ⟨⟨0, (), rfl, ⟨Or.inl rfl, by unfold letF letA letB; (repeat' split) <;> first | rfl | contradiction⟩, by rw [ht]; exact hP9, va_K.moved hW.alike hK9, hD9⟩, hS.F ht⟩) hS.2.2 dX23_isLetter_35
          · refine lv_iconst (v := 1) hx hb dX23_isLetter_30 (by decide) ?_
            refine lv_goto (tgt := 35) hx hb dX23_isLetter_31 (by decide) ?_
            have hP9 := hP.sub (ws' := []) [] rfl
            have hD9 := hD.sub (ws' := []) [] (by decide) rfl
            have hK9 := hK.sub (tys' := []) [] rfl
            exact W.zret (v := 1) hx hb hr (by decide) (fun tS ht hW => ⟨⟨1, (), rfl, ⟨Or.inr rfl, by unfold letF letA letB; (repeat' split) <;> first | rfl | contradiction⟩, by rw [ht]; exact hP9, va_K.moved hW.alike hK9, hD9⟩, hS.F ht⟩) hS.2.2 dX23_isLetter_35
def wf_c_rdig : List Cond := [.code yX23_isDigit cX23_isDigit 1 (some .boolean)]
def wp_c_rdig : List Cond := wf_c_rdig ++ []
theorem wg_c_rdig : wf_c_rdig.all goodWord = true := by decide +kernel
theorem wm_c_rdig (k : Nat) {w : Cond} (h : wp_c_rdig[k]? = some w) : w ∈ wp_c_rdig := List.mem_of_getElem? h
set_option maxHeartbeats 4000000 in
set_option maxRecDepth 100000 in
theorem c_rdig (l : Launch) (dC : Nat → ClassId) (dI : Nat → Nat → Nat) (ch : Int32) (sz : Nat) : Met l yX23_isDigit wp_c_rdig ({ frames := 0, cells := 0, slots := 0, locals := 0 }) (va_Pc [.int ch] (fun U => U.heap.size = sz ∧ va_P (dC, dI) vwCl [] U.heap ∧ va_K (dC, dI) vwCl [] U ∧ va_D (fun _ => True) [])) (va_Qi (fun (r : Int32) (_ : Unit) => (r = 0 ∨ r = 1) ∧ r = digF ch) (fun (_ : Unit) (tS : State) => va_P (dC, dI) vwCl [] tS.heap ∧ va_K (dC, dI) vwCl [] tS ∧ va_D (va_A [] sz) []) (va_A [] sz)) 0 0 (va_A [] sz) := by
  refine Met.ofW (cc := cX23_isDigit) (maxL := 1) (ret := (some .boolean)) (by decide) rfl ?_
  intro p e s m args below meth c s₁ B hml hv
  obtain ⟨rfl, hsz, hP, hK, hD0⟩ := hv
  have hx := B.exec
  have hb := B.bytes
  have hr := B.returns
  have hts := atoms_spec (ws := wp_c_rdig) B.pre
  have hown : s.vm.findClass RX23 = some m.cls := findClass_of_methodNamed B.named
  have hlocks := B.notSynchronized
  subst hsz
  have hD := hD0.self (sz := s.heap.size)
  generalize hAe : va_A [] s.heap.size = A at hD ⊢
  have hA : ∀ q : Nat, s.heap.size ≤ q → A q := fun q h => by rw [← hAe]; exact Or.inr h
  have hS : va_S A s.heap s.heap [] := va_S.rf
  have hP : va_P (dC, dI) vwCl [] s.heap := hP
  have hl := lv_entry ([.int ch]) (n := 1) (Nat.le_of_ble_eq_true rfl)
  rw [lg_entry_eq]
  generalize (lg_sl ([.int ch]) ++ List.replicate (1 - (lg_sl ([.int ch])).length) Slot.unset).toArray = ls at hl ⊢
  have hl : lv_has ls 1 [(0, .int ch)] := hl
  refine lv_iload_n hx hb dX23_isDigit_0 rfl (lv_at hl 0 rfl) ?_
  refine lv_bipush (v := 48) hx hb dX23_isDigit_1 (by decide) ?_
  refine lv_icmp_lt (tgt := 16) hx hb dX23_isDigit_3 (by decide) (fun hy1 => ?_) (fun hy1 => ?_)
  · refine lv_iconst (v := 0) hx hb dX23_isDigit_16 (by decide) ?_
    have hP9 := hP.sub (ws' := []) [] rfl
    have hD9 := hD.sub (ws' := []) [] (by decide) rfl
    have hK9 := hK.sub (tys' := []) [] rfl
    exact W.zret (v := 0) hx hb hr (by decide) (fun tS ht hW => ⟨⟨0, (), rfl, ⟨Or.inl rfl, by unfold digF; (repeat' split) <;> first | rfl | contradiction⟩, by rw [ht]; exact hP9, va_K.moved hW.alike hK9, hD9⟩, hS.F ht⟩) hS.2.2 dX23_isDigit_17
  · refine lv_iload_n hx hb dX23_isDigit_6 rfl (lv_at hl 0 rfl) ?_
    refine lv_bipush (v := 57) hx hb dX23_isDigit_7 (by decide) ?_
    refine lv_icmp_gt (tgt := 16) hx hb dX23_isDigit_9 (by decide) (fun hy2 => ?_) (fun hy2 => ?_)
    · refine lv_iconst (v := 0) hx hb dX23_isDigit_16 (by decide) ?_
      have hP9 := hP.sub (ws' := []) [] rfl
      have hD9 := hD.sub (ws' := []) [] (by decide) rfl
      have hK9 := hK.sub (tys' := []) [] rfl
      exact W.zret (v := 0) hx hb hr (by decide) (fun tS ht hW => ⟨⟨0, (), rfl, ⟨Or.inl rfl, by unfold digF; (repeat' split) <;> first | rfl | contradiction⟩, by rw [ht]; exact hP9, va_K.moved hW.alike hK9, hD9⟩, hS.F ht⟩) hS.2.2 dX23_isDigit_17
    · refine lv_iconst (v := 1) hx hb dX23_isDigit_12 (by decide) ?_
      refine lv_goto (tgt := 17) hx hb dX23_isDigit_13 (by decide) ?_
      have hP9 := hP.sub (ws' := []) [] rfl
      have hD9 := hD.sub (ws' := []) [] (by decide) rfl
      have hK9 := hK.sub (tys' := []) [] rfl
      exact W.zret (v := 1) hx hb hr (by decide) (fun tS ht hW => ⟨⟨1, (), rfl, ⟨Or.inr rfl, by unfold digF; (repeat' split) <;> first | rfl | contradiction⟩, by rw [ht]; exact hP9, va_K.moved hW.alike hK9, hD9⟩, hS.F ht⟩) hS.2.2 dX23_isDigit_17
