/-- how tightly a sign binds; 0: it is none -/
def lvK (k : Int32) : Nat := if k = 37 then 5 else if k = 42 then 5 else if k = 43 then 4 else if k = 45 then 4 else if k = 47 then 5 else if k = 60 then 3 else if k = 62 then 3 else if k = 128 then 3 else if k = 129 then 3 else if k = 130 then 3 else if k = 131 then 3 else if k = 132 then 2 else if k = 133 then 1 else 0
def wf_c_level : List Cond := [.code yX12_levelOf cX12_levelOf 1 (some .int)]
def wp_c_level : List Cond := wf_c_level ++ []
theorem wg_c_level : wf_c_level.all goodWord = true := by decide +kernel
theorem wm_c_level (k : Nat) {w : Cond} (h : wp_c_level[k]? = some w) : w ∈ wp_c_level := List.mem_of_getElem? h
set_option maxHeartbeats 4000000 in
set_option maxRecDepth 100000 in
theorem c_level (l : Launch) (dC : Nat → ClassId) (dI : Nat → Nat → Nat) (kd : Int32) (sz : Nat) : Met l yX12_levelOf wp_c_level ({ frames := 0, cells := 0, slots := 0, locals := 0 }) (va_Pc [.int kd] (fun U => U.heap.size = sz ∧ va_P (dC, dI) vwCl [] U.heap ∧ va_K (dC, dI) vwCl [] U ∧ va_D (fun _ => True) [])) (va_Qi (fun (r : Int32) (_ : Unit) => r = nI (lvK kd)) (fun (_ : Unit) (tS : State) => va_P (dC, dI) vwCl [] tS.heap ∧ va_K (dC, dI) vwCl [] tS ∧ va_D (va_A [] sz) []) (va_A [] sz)) 0 0 (va_A [] sz) := by
  refine Met.ofW (cc := cX12_levelOf) (maxL := 1) (ret := (some .int)) (by decide) rfl ?_
  intro p e s m args below meth c s₁ B hml hv
  obtain ⟨rfl, hsz, hP, hK, hD0⟩ := hv
  have hx := B.exec
  have hb := B.bytes
  have hr := B.returns
  have hts := atoms_spec (ws := wp_c_level) B.pre
  have hown : s.vm.findClass RX12 = some m.cls := findClass_of_methodNamed B.named
  have hlocks := B.notSynchronized
  subst hsz
  have hD := hD0.self (sz := s.heap.size)
  generalize hAe : va_A [] s.heap.size = A at hD ⊢
  have hA : ∀ q : Nat, s.heap.size ≤ q → A q := fun q h => by rw [← hAe]; exact Or.inr h
  have hS : va_S A s.heap s.heap [] := va_S.rf
  have hP : va_P (dC, dI) vwCl [] s.heap := hP
  have hl := lv_entry ([.int kd]) (n := 1) (Nat.le_of_ble_eq_true rfl)
  rw [lg_entry_eq]
  generalize (lg_sl ([.int kd]) ++ List.replicate (1 - (lg_sl ([.int kd])).length) Slot.unset).toArray = ls at hl ⊢
  have hl : lv_has ls 1 [(0, .int kd)] := hl
  refine lv_iload_n hx hb dX12_levelOf_0 rfl (lv_at hl 0 rfl) ?_
  by_cases h37 : kd = 37
  · subst h37
    refine lv_lookup (off := 123) (tgt := 124) hx hb dX12_levelOf_1 (by decide) (by decide) (by decide) ?_
    refine lv_iconst (v := 5) hx hb dX12_levelOf_124 (by decide) ?_
    have hP9 := hP.sub (ws' := []) [] rfl
    have hD9 := hD.sub (ws' := []) [] (by decide) rfl
    have hK9 := hK.sub (tys' := []) [] rfl
    exact W.iret (v := 5) hx hb hr (fun tS ht hW => ⟨⟨5, (), rfl, (by decide), by rw [ht]; exact hP9, va_K.moved hW.alike hK9, hD9⟩, hS.F ht⟩) hS.2.2 dX12_levelOf_125
  · by_cases h42 : kd = 42
    · subst h42
      refine lv_lookup (off := 123) (tgt := 124) hx hb dX12_levelOf_1 (by decide) (by decide) (by decide) ?_
      refine lv_iconst (v := 5) hx hb dX12_levelOf_124 (by decide) ?_
      have hP9 := hP.sub (ws' := []) [] rfl
      have hD9 := hD.sub (ws' := []) [] (by decide) rfl
      have hK9 := hK.sub (tys' := []) [] rfl
      exact W.iret (v := 5) hx hb hr (fun tS ht hW => ⟨⟨5, (), rfl, (by decide), by rw [ht]; exact hP9, va_K.moved hW.alike hK9, hD9⟩, hS.F ht⟩) hS.2.2 dX12_levelOf_125
    · by_cases h43 : kd = 43
      · subst h43
        refine lv_lookup (off := 121) (tgt := 122) hx hb dX12_levelOf_1 (by decide) (by decide) (by decide) ?_
        refine lv_iconst (v := 4) hx hb dX12_levelOf_122 (by decide) ?_
        have hP9 := hP.sub (ws' := []) [] rfl
        have hD9 := hD.sub (ws' := []) [] (by decide) rfl
        have hK9 := hK.sub (tys' := []) [] rfl
        exact W.iret (v := 4) hx hb hr (fun tS ht hW => ⟨⟨4, (), rfl, (by decide), by rw [ht]; exact hP9, va_K.moved hW.alike hK9, hD9⟩, hS.F ht⟩) hS.2.2 dX12_levelOf_123
      · by_cases h45 : kd = 45
        · subst h45
          refine lv_lookup (off := 121) (tgt := 122) hx hb dX12_levelOf_1 (by decide) (by decide) (by decide) ?_
          refine lv_iconst (v := 4) hx hb dX12_levelOf_122 (by decide) ?_
          have hP9 := hP.sub (ws' := []) [] rfl
          have hD9 := hD.sub (ws' := []) [] (by decide) rfl
          have hK9 := hK.sub (tys' := []) [] rfl
          exact W.iret (v := 4) hx hb hr (fun tS ht hW => ⟨⟨4, (), rfl, (by decide), by rw [ht]; exact hP9, va_K.moved hW.alike hK9, hD9⟩, hS.F ht⟩) hS.2.2 dX12_levelOf_123
        · by_cases h47 : kd = 47
          · subst h47
            refine lv_lookup (off := 123) (tgt := 124) hx hb dX12_levelOf_1 (by decide) (by decide) (by decide) ?_
            refine lv_iconst (v := 5) hx hb dX12_levelOf_124 (by decide) ?_
            have hP9 := hP.sub (ws' := []) [] rfl
            have hD9 := hD.sub (ws' := []) [] (by decide) rfl
            have hK9 := hK.sub (tys' := []) [] rfl
            exact W.iret (v := 5) hx hb hr (fun tS ht hW => ⟨⟨5, (), rfl, (by decide), by rw [ht]; exact hP9, va_K.moved hW.alike hK9, hD9⟩, hS.F ht⟩) hS.2.2 dX12_levelOf_125
          · by_cases h60 : kd = 60
            · subst h60
              refine lv_lookup (off := 119) (tgt := 120) hx hb dX12_levelOf_1 (by decide) (by decide) (by decide) ?_
              refine lv_iconst (v := 3) hx hb dX12_levelOf_120 (by decide) ?_
              have hP9 := hP.sub (ws' := []) [] rfl
              have hD9 := hD.sub (ws' := []) [] (by decide) rfl
              have hK9 := hK.sub (tys' := []) [] rfl
              exact W.iret (v := 3) hx hb hr (fun tS ht hW => ⟨⟨3, (), rfl, (by decide), by rw [ht]; exact hP9, va_K.moved hW.alike hK9, hD9⟩, hS.F ht⟩) hS.2.2 dX12_levelOf_121
            · by_cases h62 : kd = 62
              · subst h62
                refine lv_lookup (off := 119) (tgt := 120) hx hb dX12_levelOf_1 (by decide) (by decide) (by decide) ?_
                refine lv_iconst (v := 3) hx hb dX12_levelOf_120 (by decide) ?_
                have hP9 := hP.sub (ws' := []) [] rfl
                have hD9 := hD.sub (ws' := []) [] (by decide) rfl
                have hK9 := hK.sub (tys' := []) [] rfl
                exact W.iret (v := 3) hx hb hr (fun tS ht hW => ⟨⟨3, (), rfl, (by decide), by rw [ht]; exact hP9, va_K.moved hW.alike hK9, hD9⟩, hS.F ht⟩) hS.2.2 dX12_levelOf_121
              · by_cases h128 : kd = 128
                · subst h128
                  refine lv_lookup (off := 119) (tgt := 120) hx hb dX12_levelOf_1 (by decide) (by decide) (by decide) ?_
                  refine lv_iconst (v := 3) hx hb dX12_levelOf_120 (by decide) ?_
                  have hP9 := hP.sub (ws' := []) [] rfl
                  have hD9 := hD.sub (ws' := []) [] (by decide) rfl
                  have hK9 := hK.sub (tys' := []) [] rfl
                  exact W.iret (v := 3) hx hb hr (fun tS ht hW => ⟨⟨3, (), rfl, (by decide), by rw [ht]; exact hP9, va_K.moved hW.alike hK9, hD9⟩, hS.F ht⟩) hS.2.2 dX12_levelOf_121
                · by_cases h129 : kd = 129
                  · subst h129
                    refine lv_lookup (off := 119) (tgt := 120) hx hb dX12_levelOf_1 (by decide) (by decide) (by decide) ?_
                    refine lv_iconst (v := 3) hx hb dX12_levelOf_120 (by decide) ?_
                    have hP9 := hP.sub (ws' := []) [] rfl
                    have hD9 := hD.sub (ws' := []) [] (by decide) rfl
                    have hK9 := hK.sub (tys' := []) [] rfl
                    exact W.iret (v := 3) hx hb hr (fun tS ht hW => ⟨⟨3, (), rfl, (by decide), by rw [ht]; exact hP9, va_K.moved hW.alike hK9, hD9⟩, hS.F ht⟩) hS.2.2 dX12_levelOf_121
                  · by_cases h130 : kd = 130
                    · subst h130
                      refine lv_lookup (off := 119) (tgt := 120) hx hb dX12_levelOf_1 (by decide) (by decide) (by decide) ?_
                      refine lv_iconst (v := 3) hx hb dX12_levelOf_120 (by decide) ?_
                      have hP9 := hP.sub (ws' := []) [] rfl
                      have hD9 := hD.sub (ws' := []) [] (by decide) rfl
                      have hK9 := hK.sub (tys' := []) [] rfl
                      exact W.iret (v := 3) hx hb hr (fun tS ht hW => ⟨⟨3, (), rfl, (by decide), by rw [ht]; exact hP9, va_K.moved hW.alike hK9, hD9⟩, hS.F ht⟩) hS.2.2 dX12_levelOf_121
                    · by_cases h131 : kd = 131
                      · subst h131
                        refine lv_lookup (off := 119) (tgt := 120) hx hb dX12_levelOf_1 (by decide) (by decide) (by decide) ?_
                        refine lv_iconst (v := 3) hx hb dX12_levelOf_120 (by decide) ?_
                        have hP9 := hP.sub (ws' := []) [] rfl
                        have hD9 := hD.sub (ws' := []) [] (by decide) rfl
                        have hK9 := hK.sub (tys' := []) [] rfl
                        exact W.iret (v := 3) hx hb hr (fun tS ht hW => ⟨⟨3, (), rfl, (by decide), by rw [ht]; exact hP9, va_K.moved hW.alike hK9, hD9⟩, hS.F ht⟩) hS.2.2 dX12_levelOf_121
                      · by_cases h132 : kd = 132
                        · subst h132
                          refine lv_lookup (off := 117) (tgt := 118) hx hb dX12_levelOf_1 (by decide) (by decide) (by decide) ?_
                          refine lv_iconst (v := 2) hx hb dX12_levelOf_118 (by decide) ?_
                          have hP9 := hP.sub (ws' := []) [] rfl
                          have hD9 := hD.sub (ws' := []) [] (by decide) rfl
                          have hK9 := hK.sub (tys' := []) [] rfl
                          exact W.iret (v := 2) hx hb hr (fun tS ht hW => ⟨⟨2, (), rfl, (by decide), by rw [ht]; exact hP9, va_K.moved hW.alike hK9, hD9⟩, hS.F ht⟩) hS.2.2 dX12_levelOf_119
                        · by_cases h133 : kd = 133
                          · subst h133
                            refine lv_lookup (off := 115) (tgt := 116) hx hb dX12_levelOf_1 (by decide) (by decide) (by decide) ?_
                            refine lv_iconst (v := 1) hx hb dX12_levelOf_116 (by decide) ?_
                            have hP9 := hP.sub (ws' := []) [] rfl
                            have hD9 := hD.sub (ws' := []) [] (by decide) rfl
                            have hK9 := hK.sub (tys' := []) [] rfl
                            exact W.iret (v := 1) hx hb hr (fun tS ht hW => ⟨⟨1, (), rfl, (by decide), by rw [ht]; exact hP9, va_K.moved hW.alike hK9, hD9⟩, hS.F ht⟩) hS.2.2 dX12_levelOf_117
                          · have z37 : kd.toInt ≠ 37 := fun q => h37 (Int32.toInt_inj.mp q)
                            have z42 : kd.toInt ≠ 42 := fun q => h42 (Int32.toInt_inj.mp q)
                            have z43 : kd.toInt ≠ 43 := fun q => h43 (Int32.toInt_inj.mp q)
                            have z45 : kd.toInt ≠ 45 := fun q => h45 (Int32.toInt_inj.mp q)
                            have z47 : kd.toInt ≠ 47 := fun q => h47 (Int32.toInt_inj.mp q)
                            have z60 : kd.toInt ≠ 60 := fun q => h60 (Int32.toInt_inj.mp q)
                            have z62 : kd.toInt ≠ 62 := fun q => h62 (Int32.toInt_inj.mp q)
                            have z128 : kd.toInt ≠ 128 := fun q => h128 (Int32.toInt_inj.mp q)
                            have z129 : kd.toInt ≠ 129 := fun q => h129 (Int32.toInt_inj.mp q)
                            have z130 : kd.toInt ≠ 130 := fun q => h130 (Int32.toInt_inj.mp q)
                            have z131 : kd.toInt ≠ 131 := fun q => h131 (Int32.toInt_inj.mp q)
                            have z132 : kd.toInt ≠ 132 := fun q => h132 (Int32.toInt_inj.mp q)
                            have z133 : kd.toInt ≠ 133 := fun q => h133 (Int32.toInt_inj.mp q)
                            refine lv_lookup (off := 125) (tgt := 126) hx hb dX12_levelOf_1 (by decide) (by simp [Op.lookupswitch.offset, z37, z42, z43, z45, z47, z60, z62, z128, z129, z130, z131, z132, z133, Ne.symm z37, Ne.symm z42, Ne.symm z43, Ne.symm z45, Ne.symm z47, Ne.symm z60, Ne.symm z62, Ne.symm z128, Ne.symm z129, Ne.symm z130, Ne.symm z131, Ne.symm z132, Ne.symm z133]) (by decide) ?_
                            refine lv_iconst (v := 0) hx hb dX12_levelOf_126 (by decide) ?_
                            have hP9 := hP.sub (ws' := []) [] rfl
                            have hD9 := hD.sub (ws' := []) [] (by decide) rfl
                            have hK9 := hK.sub (tys' := []) [] rfl
                            exact W.iret (v := 0) hx hb hr (fun tS ht hW => ⟨⟨0, (), rfl, (by unfold lvK; simp [h37, h42, h43, h45, h47, h60, h62, h128, h129, h130, h131, h132, h133]; rfl), by rw [ht]; exact hP9, va_K.moved hW.alike hK9, hD9⟩, hS.F ht⟩) hS.2.2 dX12_levelOf_127
