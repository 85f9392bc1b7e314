def lvR3 (k : Int32) : Int32 := if k = 42 then 5 else if k = 43 then 5 else if ¬ k = 44 then 0 else 5
def lvR2 (k : Int32) : Int32 := if k = 40 then 4 else if ¬ k = 41 then lvR3 k else 4
def lvR (k : Int32) : Int32 := if ¬ k = 52 then (if ¬ k = 51 then (if k < 45 then lvR2 k else if 50 < k then lvR2 k else 3) else 2) else 1
theorem lvR_0 {k x : Int32} (h : lvR k = x) (hx : x ≠ 0) : k ≠ 0 := fun e => by
  subst e
  exact hx (h.symm.trans (by decide +kernel))
def wf_c_rlv : List Cond := [.code yX23_levelOf cX23_levelOf 1 (some .int)]
def wp_c_rlv : List Cond := wf_c_rlv ++ []
theorem wg_c_rlv : wf_c_rlv.all goodWord = true := by decide +kernel
theorem wm_c_rlv (k : Nat) {w : Cond} (h : wp_c_rlv[k]? = some w) : w ∈ wp_c_rlv := List.mem_of_getElem? h
set_option maxHeartbeats 4000000 in
set_option maxRecDepth 100000 in
theorem c_rlv (l : Launch) (dC : Nat → ClassId) (dI : Nat → Nat → Nat) (kd : Int32) (sz : Nat) : Met l yX23_levelOf wp_c_rlv ({ frames := 0, cells := 0, slots := 0, locals := 0 }) (va_Pc [.int kd] (fun U => U.heap.size = sz ∧ va_P (dC, dI) vwCl [] U.heap ∧ va_K (dC, dI) vwCl [] U ∧ va_D (fun _ => True) [])) (va_Qi (fun (r : Int32) (_ : Unit) => r = lvR kd) (fun (_ : Unit) (tS : State) => va_P (dC, dI) vwCl [] tS.heap ∧ va_K (dC, dI) vwCl [] tS ∧ va_D (va_A [] sz) []) (va_A [] sz)) 0 0 (va_A [] sz) := by
  refine Met.ofW (cc := cX23_levelOf) (maxL := 1) (ret := (some .int)) (by decide) rfl ?_
  intro p e s m args below meth c s₁ B hml hv
  obtain ⟨rfl, hsz, hP, hK, hD0⟩ := hv
  have hx := B.exec
  have hb := B.bytes
  have hr := B.returns
  have hts := atoms_spec (ws := wp_c_rlv) B.pre
  have hown : s.vm.findClass RX23 = some m.cls := findClass_of_methodNamed B.named
  have hlocks := B.notSynchronized
  subst hsz
  have hD := hD0.self (sz := s.heap.size)
  generalize hAe : va_A [] s.heap.size = A at hD ⊢
  have hA : ∀ q : Nat, s.heap.size ≤ q → A q := fun q h => by rw [← hAe]; exact Or.inr h
  have hS : va_S A s.heap s.heap [] := va_S.rf
  have hP : va_P (dC, dI) vwCl [] s.heap := hP
  have hl := lv_entry ([.int kd]) (n := 1) (Nat.le_of_ble_eq_true rfl)
  rw [lg_entry_eq]
  generalize (lg_sl ([.int kd]) ++ List.replicate (1 - (lg_sl ([.int kd])).length) Slot.unset).toArray = ls at hl ⊢
  have hl : lv_has ls 1 [(0, .int kd)] := hl
  refine lv_iload_n hx hb dX23_levelOf_0 rfl (lv_at hl 0 rfl) ?_
  refine lv_bipush (v := 52) hx hb dX23_levelOf_1 (by decide) ?_
  refine lv_icmp_ne (tgt := 8) hx hb dX23_levelOf_3 (by decide) (fun hb_1 => ?_) (fun hb_1 => ?_)
  · refine lv_iload_n hx hb dX23_levelOf_8 rfl (lv_at hl 0 rfl) ?_
    refine lv_bipush (v := 51) hx hb dX23_levelOf_9 (by decide) ?_
    refine lv_icmp_ne (tgt := 16) hx hb dX23_levelOf_11 (by decide) (fun hb_2 => ?_) (fun hb_2 => ?_)
    · refine lv_iload_n hx hb dX23_levelOf_16 rfl (lv_at hl 0 rfl) ?_
      refine lv_bipush (v := 45) hx hb dX23_levelOf_17 (by decide) ?_
      refine lv_icmp_lt (tgt := 30) hx hb dX23_levelOf_19 (by decide) (fun hb_3 => ?_) (fun hb_3 => ?_)
      · refine lv_iload_n hx hb dX23_levelOf_30 rfl (lv_at hl 0 rfl) ?_
        refine lv_bipush (v := 40) hx hb dX23_levelOf_31 (by decide) ?_
        refine lv_icmp_eq (tgt := 42) hx hb dX23_levelOf_33 (by decide) (fun hb_4 => ?_) (fun hb_4 => ?_)
        · refine lv_iconst (v := 4) hx hb dX23_levelOf_42 (by decide) ?_
          refine lv_goto (tgt := 69) hx hb dX23_levelOf_43 (by decide) ?_
          have hP9 := hP.sub (ws' := []) [] rfl
          have hD9 := hD.sub (ws' := []) [] (by decide) rfl
          have hK9 := hK.sub (tys' := []) [] rfl
          exact W.iret (v := 4) hx hb hr (fun tS ht hW => ⟨⟨4, (), rfl, (by unfold lvR lvR2 lvR3; (repeat' split) <;> first | rfl | contradiction), by rw [ht]; exact hP9, va_K.moved hW.alike hK9, hD9⟩, hS.F ht⟩) hS.2.2 dX23_levelOf_69
        · refine lv_iload_n hx hb dX23_levelOf_36 rfl (lv_at hl 0 rfl) ?_
          refine lv_bipush (v := 41) hx hb dX23_levelOf_37 (by decide) ?_
          refine lv_icmp_ne (tgt := 46) hx hb dX23_levelOf_39 (by decide) (fun hb_5 => ?_) (fun hb_5 => ?_)
          · refine lv_iload_n hx hb dX23_levelOf_46 rfl (lv_at hl 0 rfl) ?_
            refine lv_bipush (v := 42) hx hb dX23_levelOf_47 (by decide) ?_
            refine lv_icmp_eq (tgt := 64) hx hb dX23_levelOf_49 (by decide) (fun hb_6 => ?_) (fun hb_6 => ?_)
            · refine lv_iconst (v := 5) hx hb dX23_levelOf_64 (by decide) ?_
              refine lv_goto (tgt := 69) hx hb dX23_levelOf_65 (by decide) ?_
              have hP9 := hP.sub (ws' := []) [] rfl
              have hD9 := hD.sub (ws' := []) [] (by decide) rfl
              have hK9 := hK.sub (tys' := []) [] rfl
              exact W.iret (v := 5) hx hb hr (fun tS ht hW => ⟨⟨5, (), rfl, (by unfold lvR lvR2 lvR3; (repeat' split) <;> first | rfl | contradiction), by rw [ht]; exact hP9, va_K.moved hW.alike hK9, hD9⟩, hS.F ht⟩) hS.2.2 dX23_levelOf_69
            · refine lv_iload_n hx hb dX23_levelOf_52 rfl (lv_at hl 0 rfl) ?_
              refine lv_bipush (v := 43) hx hb dX23_levelOf_53 (by decide) ?_
              refine lv_icmp_eq (tgt := 64) hx hb dX23_levelOf_55 (by decide) (fun hb_7 => ?_) (fun hb_7 => ?_)
              · refine lv_iconst (v := 5) hx hb dX23_levelOf_64 (by decide) ?_
                refine lv_goto (tgt := 69) hx hb dX23_levelOf_65 (by decide) ?_
                have hP9 := hP.sub (ws' := []) [] rfl
                have hD9 := hD.sub (ws' := []) [] (by decide) rfl
                have hK9 := hK.sub (tys' := []) [] rfl
                exact W.iret (v := 5) hx hb hr (fun tS ht hW => ⟨⟨5, (), rfl, (by unfold lvR lvR2 lvR3; (repeat' split) <;> first | rfl | contradiction), by rw [ht]; exact hP9, va_K.moved hW.alike hK9, hD9⟩, hS.F ht⟩) hS.2.2 dX23_levelOf_69
              · refine lv_iload_n hx hb dX23_levelOf_58 rfl (lv_at hl 0 rfl) ?_
                refine lv_bipush (v := 44) hx hb dX23_levelOf_59 (by decide) ?_
                refine lv_icmp_ne (tgt := 68) hx hb dX23_levelOf_61 (by decide) (fun hb_8 => ?_) (fun hb_8 => ?_)
                · refine lv_iconst (v := 0) hx hb dX23_levelOf_68 (by decide) ?_
                  have hP9 := hP.sub (ws' := []) [] rfl
                  have hD9 := hD.sub (ws' := []) [] (by decide) rfl
                  have hK9 := hK.sub (tys' := []) [] rfl
                  exact W.iret (v := 0) hx hb hr (fun tS ht hW => ⟨⟨0, (), rfl, (by unfold lvR lvR2 lvR3; (repeat' split) <;> first | rfl | contradiction), by rw [ht]; exact hP9, va_K.moved hW.alike hK9, hD9⟩, hS.F ht⟩) hS.2.2 dX23_levelOf_69
                · refine lv_iconst (v := 5) hx hb dX23_levelOf_64 (by decide) ?_
                  refine lv_goto (tgt := 69) hx hb dX23_levelOf_65 (by decide) ?_
                  have hP9 := hP.sub (ws' := []) [] rfl
                  have hD9 := hD.sub (ws' := []) [] (by decide) rfl
                  have hK9 := hK.sub (tys' := []) [] rfl
                  exact W.iret (v := 5) hx hb hr (fun tS ht hW => ⟨⟨5, (), rfl, (by unfold lvR lvR2 lvR3; (repeat' split) <;> first | rfl | contradiction), by rw [ht]; exact hP9, va_K.moved hW.alike hK9, hD9⟩, hS.F ht⟩) hS.2.2 dX23_levelOf_69
          · refine lv_iconst (v := 4) hx hb dX23_levelOf_42 (by decide) ?_
            refine lv_goto (tgt := 69) hx hb dX23_levelOf_43 (by decide) ?_
            have hP9 := hP.sub (ws' := []) [] rfl
            have hD9 := hD.sub (ws' := []) [] (by decide) rfl
            have hK9 := hK.sub (tys' := []) [] rfl
            exact W.iret (v := 4) hx hb hr (fun tS ht hW => ⟨⟨4, (), rfl, (by unfold lvR lvR2 lvR3; (repeat' split) <;> first | rfl | contradiction), by rw [ht]; exact hP9, va_K.moved hW.alike hK9, hD9⟩, hS.F ht⟩) hS.2.2 dX23_levelOf_69
      · refine lv_iload_n hx hb dX23_levelOf_22 rfl (lv_at hl 0 rfl) ?_
        refine lv_bipush (v := 50) hx hb dX23_levelOf_23 (by decide) ?_
        refine lv_icmp_gt (tgt := 30) hx hb dX23_levelOf_25 (by decide) (fun hb_4 => ?_) (fun hb_4 => ?_)
        · refine lv_iload_n hx hb dX23_levelOf_30 rfl (lv_at hl 0 rfl) ?_
          refine lv_bipush (v := 40) hx hb dX23_levelOf_31 (by decide) ?_
          refine lv_icmp_eq (tgt := 42) hx hb dX23_levelOf_33 (by decide) (fun hb_5 => ?_) (fun hb_5 => ?_)
          · refine lv_iconst (v := 4) hx hb dX23_levelOf_42 (by decide) ?_
            refine lv_goto (tgt := 69) hx hb dX23_levelOf_43 (by decide) ?_
            have hP9 := hP.sub (ws' := []) [] rfl
            have hD9 := hD.sub (ws' := []) [] (by decide) rfl
            have hK9 := hK.sub (tys' := []) [] rfl
            exact W.iret (v := 4) hx hb hr (fun tS ht hW => ⟨⟨4, (), rfl, (by unfold lvR lvR2 lvR3; (repeat' split) <;> first | rfl | contradiction), by rw [ht]; exact hP9, va_K.moved hW.alike hK9, hD9⟩, hS.F ht⟩) hS.2.2 dX23_levelOf_69
          · refine lv_iload_n hx hb dX23_levelOf_36 rfl (lv_at hl 0 rfl) ?_
            refine lv_bipush (v := 41) hx hb dX23_levelOf_37 (by decide) ?_
            refine lv_icmp_ne (tgt := 46) hx hb dX23_levelOf_39 (by decide) (fun hb_6 => ?_) (fun hb_6 => ?_)
            · refine lv_iload_n hx hb dX23_levelOf_46 rfl (lv_at hl 0 rfl) ?_
              refine lv_bipush (v := 42) hx hb dX23_levelOf_47 (by decide) ?_
              refine lv_icmp_eq (tgt := 64) hx hb dX23_levelOf_49 (by decide) (fun hb_7 => ?_) (fun hb_7 => ?_)
              · refine lv_iconst (v := 5) hx hb dX23_levelOf_64 (by decide) ?_
                refine lv_goto (tgt := 69) hx hb dX23_levelOf_65 (by decide) ?_
                have hP9 := hP.sub (ws' := []) [] rfl
                have hD9 := hD.sub (ws' := []) [] (by decide) rfl
                have hK9 := hK.sub (tys' := []) [] rfl
                exact W.iret (v := 5) hx hb hr (fun tS ht hW => ⟨⟨5, (), rfl, (by unfold lvR lvR2 lvR3; (repeat' split) <;> first | rfl | contradiction), by rw [ht]; exact hP9, va_K.moved hW.alike hK9, hD9⟩, hS.F ht⟩) hS.2.2 dX23_levelOf_69
              · refine lv_iload_n hx hb dX23_levelOf_52 rfl (lv_at hl 0 rfl) ?_
                refine lv_bipush (v := 43) hx hb dX23_levelOf_53 (by decide) ?_
                refine lv_icmp_eq (tgt := 64) hx hb dX23_levelOf_55 (by decide) (fun hb_8 => ?_) (fun hb_8 => ?_)
                · refine lv_iconst (v := 5) hx hb dX23_levelOf_64 (by decide) ?_
                  refine lv_goto (tgt := 69) hx hb dX23_levelOf_65 (by decide) ?_
                  have hP9 := hP.sub (ws' := []) [] rfl
                  have hD9 := hD.sub (ws' := []) [] (by decide) rfl
                  have hK9 := hK.sub (tys' := []) [] rfl
                  exact W.iret (v := 5) hx hb hr (fun tS ht hW => ⟨⟨5, (), rfl, (by unfold lvR lvR2 lvR3; (repeat' split) <;> first | rfl | contradiction), by rw [ht]; exact hP9, va_K.moved hW.alike hK9, hD9⟩, hS.F ht⟩) hS.2.2 dX23_levelOf_69
                · refine lv_iload_n hx hb dX23_levelOf_58 rfl (lv_at hl 0 rfl) ?_
                  refine lv_bipush (v := 44) hx hb dX23_levelOf_59 (by decide) ?_
                  refine lv_icmp_ne (tgt := 68) hx hb dX23_levelOf_61 (by decide) (fun hb_9 => ?_) (fun hb_9 => ?_)
                  · refine lv_iconst (v := 0) hx hb dX23_levelOf_68 (by decide) ?_
                    have hP9 := hP.sub (ws' := []) [] rfl
                    have hD9 := hD.sub (ws' := []) [] (by decide) rfl
                    have hK9 := hK.sub (tys' := []) [] rfl
                    exact W.iret (v := 0) hx hb hr (fun tS ht hW => ⟨⟨0, (), rfl, (by unfold lvR lvR2 lvR3; (repeat' split) <;> first | rfl | contradiction), by rw [ht]; exact hP9, va_K.moved hW.alike hK9, hD9⟩, hS.F ht⟩) hS.2.2 dX23_levelOf_69
                  · refine lv_iconst (v := 5) hx hb dX23_levelOf_64 (by decide) ?_
                    refine lv_goto (tgt := 69) hx hb dX23_levelOf_65 (by decide) ?_
                    have hP9 := hP.sub (ws' := []) [] rfl
                    have hD9 := hD.sub (ws' := []) [] (by decide) rfl
                    have hK9 := hK.sub (tys' := []) [] rfl
                    exact W.iret (v := 5) hx hb hr (fun tS ht hW => ⟨⟨5, (), rfl, (by unfold lvR lvR2 lvR3; (repeat' split) <;> first | rfl | contradiction), by rw [ht]; exact hP9, va_K.moved hW.alike hK9, hD9⟩, hS.F ht⟩) hS.2.2 dX23_levelOf_69
            · refine lv_iconst (v := 4) hx hb dX23_levelOf_42 (by decide) ?_
              refine lv_goto (tgt := 69) hx hb dX23_levelOf_43 (by decide) ?_
              have hP9 := hP.sub (ws' := []) [] rfl
              have hD9 := hD.sub (ws' := []) [] (by decide) rfl
              have hK9 := hK.sub (tys' := []) [] rfl
              exact W.iret (v := 4) hx hb hr (fun tS ht hW => ⟨⟨4, (), rfl, (by unfold lvR lvR2 lvR3; (repeat' split) <;> first | rfl | contradiction), by rw [ht]; exact hP9, va_K.moved hW.alike hK9, hD9⟩, hS.F ht⟩) hS.2.2 dX23_levelOf_69
        · refine lv_iconst (v := 3) hx hb dX23_levelOf_28 (by decide) ?_
          have hP9 := hP.sub (ws' := []) [] rfl
          have hD9 := hD.sub (ws' := []) [] (by decide) rfl
          have hK9 := hK.sub (tys' := []) [] rfl
          exact W.iret (v := 3) hx hb hr (fun tS ht hW => ⟨⟨3, (), rfl, (by unfold lvR lvR2 lvR3; (repeat' split) <;> first | rfl | contradiction), by rw [ht]; exact hP9, va_K.moved hW.alike hK9, hD9⟩, hS.F ht⟩) hS.2.2 dX23_levelOf_29
    · refine lv_iconst (v := 2) hx hb dX23_levelOf_14 (by decide) ?_
      have hP9 := hP.sub (ws' := []) [] rfl
      have hD9 := hD.sub (ws' := []) [] (by decide) rfl
      have hK9 := hK.sub (tys' := []) [] rfl
      exact W.iret (v := 2) hx hb hr (fun tS ht hW => ⟨⟨2, (), rfl, (by unfold lvR lvR2 lvR3; (repeat' split) <;> first | rfl | contradiction), by rw [ht]; exact hP9, va_K.moved hW.alike hK9, hD9⟩, hS.F ht⟩) hS.2.2 dX23_levelOf_15
  · refine lv_iconst (v := 1) hx hb dX23_levelOf_6 (by decide) ?_
    have hP9 := hP.sub (ws' := []) [] rfl
    have hD9 := hD.sub (ws' := []) [] (by decide) rfl
    have hK9 := hK.sub (tys' := []) [] rfl
    exact W.iret (v := 1) hx hb hr (fun tS ht hW => ⟨⟨1, (), rfl, (by unfold lvR lvR2 lvR3; (repeat' split) <;> first | rfl | contradiction), by rw [ht]; exact hP9, va_K.moved hW.alike hK9, hD9⟩, hS.F ht⟩) hS.2.2 dX23_levelOf_7
def wf_c_nX : List Cond := [.code yX15_init cX15_init 1 none, .methodLink RX15 1 objectInit, .instanceMethod objectInit, .code objectInit ⟨#[0xb1]⟩ 1 none]
def wp_c_nX : List Cond := wf_c_nX ++ []
theorem wg_c_nX : wf_c_nX.all goodWord = true := by decide +kernel
theorem wm_c_nX (k : Nat) {w : Cond} (h : wp_c_nX[k]? = some w) : w ∈ wp_c_nX := List.mem_of_getElem? h
set_option maxHeartbeats 4000000 in
set_option maxRecDepth 100000 in
theorem c_nX (l : Launch) (dC : Nat → ClassId) (dI : Nat → Nat → Nat) (q : Nat) (sz : Nat) : Met l yX15_init wp_c_nX ({ frames := 1, cells := 0, slots := 0, locals := 12 }) (va_Pc [.ref q] (fun U => U.heap.size = sz ∧ va_P (dC, dI) vwCl [(q, .inr (15, [.int 0, .int 0, .int 0, .int 0, .int 0, .int 0, .long 0, .int 0, .null, .null, .null, .int 0, .null, .null]))] U.heap ∧ va_K (dC, dI) vwCl [] U ∧ va_D (fun _ => True) [(q, .inr (15, [.int 0, .int 0, .int 0, .int 0, .int 0, .int 0, .long 0, .int 0, .null, .null, .null, .int 0, .null, .null]))])) (va_Qv (fun _ : Unit => True) (fun (_ : Unit) (tS : State) => va_P (dC, dI) vwCl [(q, .inr (15, [.int 0, .int 0, .int 0, .int 0, .int 0, .int 0, .long 0, .int 0, .null, .null, .null, .int 0, .null, .null]))] tS.heap ∧ va_K (dC, dI) vwCl [] tS ∧ va_D (va_A [(q, .inr (15, [.int 0, .int 0, .int 0, .int 0, .int 0, .int 0, .long 0, .int 0, .null, .null, .null, .int 0, .null, .null]))] sz) [(q, .inr (15, [.int 0, .int 0, .int 0, .int 0, .int 0, .int 0, .long 0, .int 0, .null, .null, .null, .int 0, .null, .null]))]) (va_A [(q, .inr (15, [.int 0, .int 0, .int 0, .int 0, .int 0, .int 0, .long 0, .int 0, .null, .null, .null, .int 0, .null, .null]))] sz)) 0 0 (va_A [(q, .inr (15, [.int 0, .int 0, .int 0, .int 0, .int 0, .int 0, .long 0, .int 0, .null, .null, .null, .int 0, .null, .null]))] sz) := by
  refine Met.ofW (cc := cX15_init) (maxL := 1) (ret := none) (by decide) rfl ?_
  intro p e s m args below meth c s₁ B hml hv
  obtain ⟨rfl, hsz, hP, hK, hD0⟩ := hv
  have hx := B.exec
  have hb := B.bytes
  have hr := B.returns
  have hts := atoms_spec (ws := wp_c_nX) B.pre
  have hown : s.vm.findClass RX15 = some m.cls := findClass_of_methodNamed B.named
  have hlocks := B.notSynchronized
  have hin : meth.name = "<init>" := (name_of_methodNamed B.named B.method).1
  subst hsz
  have hD := hD0.self (sz := s.heap.size)
  generalize hAe : va_A [(q, .inr (15, [.int 0, .int 0, .int 0, .int 0, .int 0, .int 0, .long 0, .int 0, .null, .null, .null, .int 0, .null, .null]))] s.heap.size = A at hD ⊢
  have hA : ∀ q : Nat, s.heap.size ≤ q → A q := fun q h => by rw [← hAe]; exact Or.inr h
  have hS : va_S A s.heap s.heap [] := va_S.rf
  have hP : va_P (dC, dI) vwCl [(q, .inr (15, [.int 0, .int 0, .int 0, .int 0, .int 0, .int 0, .long 0, .int 0, .null, .null, .null, .int 0, .null, .null]))] s.heap := hP
  have hl := lv_entry ([.ref q]) (n := 1) (Nat.le_of_ble_eq_true rfl)
  rw [lg_entry_eq]
  generalize (lg_sl ([.ref q]) ++ List.replicate (1 - (lg_sl ([.ref q])).length) Slot.unset).toArray = ls at hl ⊢
  have hl : lv_has ls 1 [(0, .ref q)] := hl
  refine lv_aload_n hx hb dX15_init_0 rfl (lv_at hl 0 rfl) ?_
  refine W.objInit hx hb hown (hts (.methodLink RX15 1 objectInit) (wm_c_nX 1 rfl)) (hts (.instanceMethod objectInit) (wm_c_nX 2 rfl)) (hts (.code objectInit ⟨#[0xb1]⟩ 1 none) (wm_c_nX 3 rfl)) rfl (by rw [hml]; exact hl.1) rfl dX15_init_1 (Nat.le_of_ble_eq_true rfl) (Nat.le_of_ble_eq_true rfl) ?_
  refine W.eq (g2 := F0 m 4 ls []) rfl ?_
  have hP9 := hP.sub (ws' := [(q, .inr (15, [.int 0, .int 0, .int 0, .int 0, .int 0, .int 0, .long 0, .int 0, .null, .null, .null, .int 0, .null, .null]))]) [0] rfl
  have hD9 := hD.sub (ws' := [(q, .inr (15, [.int 0, .int 0, .int 0, .int 0, .int 0, .int 0, .long 0, .int 0, .null, .null, .null, .int 0, .null, .null]))]) [0] (by decide) rfl
  have hK9 := hK.sub (tys' := []) [] rfl
  exact W.vret hx hb hr (fun tS ht hW => ⟨⟨(), rfl, trivial, by rw [ht]; exact hP9, va_K.moved hW.alike hK9, hD9⟩, hS.F ht⟩) hS.2.2 dX15_init_4
