-- 97.level.lean.txt
section
/-- how tightly a sign binds; 0: it is none -/
def lvK (k : Int32) : Nat := if k = 37 then 5 else if k = 42 then 5 else if k = 43 then 4 else if k = 45 then 4 else if k = 47 then 5 else if k = 60 then 3 else if k = 62 then 3 else if k = 128 then 3 else if k = 129 then 3 else if k = 130 then 3 else if k = 131 then 3 else if k = 132 then 2 else if k = 133 then 1 else 0
def wf_c_level : List Cond := [.code yX12_levelOf cX12_levelOf 1 (some .int)]
def wp_c_level : List Cond := wf_c_level ++ []
theorem wg_c_level : wf_c_level.all goodWord = true := by decide +kernel
theorem wm_c_level (k : Nat) {w : Cond} (h : wp_c_level[k]? = some w) : w ∈ wp_c_level := List.mem_of_getElem? h
set_option maxHeartbeats 4000000 in
set_option maxRecDepth 100000 in
theorem c_level (l : Launch) (dC : Nat → ClassId) (dI : Nat → Nat → Nat) (kd : Int32) (sz : Nat) : Met l yX12_levelOf wp_c_level ({ frames := 0, cells := 0, slots := 0, locals := 0 }) (va_Pc [.int kd] (fun U => U.heap.size = sz ∧ va_P (dC, dI) vwCl [] U.heap ∧ va_K (dC, dI) vwCl [] U ∧ va_D (fun _ => True) [])) (va_Qi (fun (r : Int32) (_ : Unit) => r = nI (lvK kd)) (fun (_ : Unit) (tS : State) => va_P (dC, dI) vwCl [] tS.heap ∧ va_K (dC, dI) vwCl [] tS ∧ va_D (va_A [] sz) []) (va_A [] sz)) 0 0 (va_A [] sz) := by
  refine Met.ofW (cc := cX12_levelOf) (maxL := 1) (ret := (some .int)) (by decide) rfl ?_
  intro p e s m args below meth c s₁ B hml hv
  obtain ⟨rfl, hsz, hP, hK, hD0⟩ := hv
  have hx := B.exec
  have hb := B.bytes
  have hr := B.returns
  have hts := atoms_spec (ws := wp_c_level) B.pre
  have hown : s.vm.findClass RX12 = some m.cls := findClass_of_methodNamed B.named
  have hlocks := B.notSynchronized
  subst hsz
  have hD := hD0.self (sz := s.heap.size)
  generalize hAe : va_A [] s.heap.size = A at hD ⊢
  have hA : ∀ q : Nat, s.heap.size ≤ q → A q := fun q h => by rw [← hAe]; exact Or.inr h
  have hS : va_S A s.heap s.heap [] := va_S.rf
  have hP : va_P (dC, dI) vwCl [] s.heap := hP
  have hl := lv_entry ([.int kd]) (n := 1) (Nat.le_of_ble_eq_true rfl)
  rw [lg_entry_eq]
  generalize (lg_sl ([.int kd]) ++ List.replicate (1 - (lg_sl ([.int kd])).length) Slot.unset).toArray = ls at hl ⊢
  have hl : lv_has ls 1 [(0, .int kd)] := hl
  refine lv_iload_n hx hb dX12_levelOf_0 rfl (lv_at hl 0 rfl) ?_
  by_cases h37 : kd = 37
  · subst h37
    refine lv_lookup (off := 123) (tgt := 124) hx hb dX12_levelOf_1 (by decide) (by decide) (by decide) ?_
    refine lv_iconst (v := 5) hx hb dX12_levelOf_124 (by decide) ?_
    have hP9 := hP.sub (ws' := []) [] rfl
    have hD9 := hD.sub (ws' := []) [] (by decide) rfl
    have hK9 := hK.sub (tys' := []) [] rfl
    exact W.iret (v := 5) hx hb hr (fun tS ht hW => ⟨⟨5, (), rfl, (by decide), by rw [ht]; exact hP9, va_K.moved hW.alike hK9, hD9⟩, hS.F ht⟩) hS.2.2 dX12_levelOf_125
  · by_cases h42 : kd = 42
    · subst h42
      refine lv_lookup (off := 123) (tgt := 124) hx hb dX12_levelOf_1 (by decide) (by decide) (by decide) ?_
      refine lv_iconst (v := 5) hx hb dX12_levelOf_124 (by decide) ?_
      have hP9 := hP.sub (ws' := []) [] rfl
      have hD9 := hD.sub (ws' := []) [] (by decide) rfl
      have hK9 := hK.sub (tys' := []) [] rfl
      exact W.iret (v := 5) hx hb hr (fun tS ht hW => ⟨⟨5, (), rfl, (by decide), by rw [ht]; exact hP9, va_K.moved hW.alike hK9, hD9⟩, hS.F ht⟩) hS.2.2 dX12_levelOf_125
    · by_cases h43 : kd = 43
      · subst h43
        refine lv_lookup (off := 121) (tgt := 122) hx hb dX12_levelOf_1 (by decide) (by decide) (by decide) ?_
        refine lv_iconst (v := 4) hx hb dX12_levelOf_122 (by decide) ?_
        have hP9 := hP.sub (ws' := []) [] rfl
        have hD9 := hD.sub (ws' := []) [] (by decide) rfl
        have hK9 := hK.sub (tys' := []) [] rfl
        exact W.iret (v := 4) hx hb hr (fun tS ht hW => ⟨⟨4, (), rfl, (by decide), by rw [ht]; exact hP9, va_K.moved hW.alike hK9, hD9⟩, hS.F ht⟩) hS.2.2 dX12_levelOf_123
      · by_cases h45 : kd = 45
        · subst h45
          refine lv_lookup (off := 121) (tgt := 122) hx hb dX12_levelOf_1 (by decide) (by decide) (by decide) ?_
          refine lv_iconst (v := 4) hx hb dX12_levelOf_122 (by decide) ?_
          have hP9 := hP.sub (ws' := []) [] rfl
          have hD9 := hD.sub (ws' := []) [] (by decide) rfl
          have hK9 := hK.sub (tys' := []) [] rfl
          exact W.iret (v := 4) hx hb hr (fun tS ht hW => ⟨⟨4, (), rfl, (by decide), by rw [ht]; exact hP9, va_K.moved hW.alike hK9, hD9⟩, hS.F ht⟩) hS.2.2 dX12_levelOf_123
        · by_cases h47 : kd = 47
          · subst h47
            refine lv_lookup (off := 123) (tgt := 124) hx hb dX12_levelOf_1 (by decide) (by decide) (by decide) ?_
            refine lv_iconst (v := 5) hx hb dX12_levelOf_124 (by decide) ?_
            have hP9 := hP.sub (ws' := []) [] rfl
            have hD9 := hD.sub (ws' := []) [] (by decide) rfl
            have hK9 := hK.sub (tys' := []) [] rfl
            exact W.iret (v := 5) hx hb hr (fun tS ht hW => ⟨⟨5, (), rfl, (by decide), by rw [ht]; exact hP9, va_K.moved hW.alike hK9, hD9⟩, hS.F ht⟩) hS.2.2 dX12_levelOf_125
          · by_cases h60 : kd = 60
            · subst h60
              refine lv_lookup (off := 119) (tgt := 120) hx hb dX12_levelOf_1 (by decide) (by decide) (by decide) ?_
              refine lv_iconst (v := 3) hx hb dX12_levelOf_120 (by decide) ?_
              have hP9 := hP.sub (ws' := []) [] rfl
              have hD9 := hD.sub (ws' := []) [] (by decide) rfl
              have hK9 := hK.sub (tys' := []) [] rfl
              exact W.iret (v := 3) hx hb hr (fun tS ht hW => ⟨⟨3, (), rfl, (by decide), by rw [ht]; exact hP9, va_K.moved hW.alike hK9, hD9⟩, hS.F ht⟩) hS.2.2 dX12_levelOf_121
            · by_cases h62 : kd = 62
              · subst h62
                refine lv_lookup (off := 119) (tgt := 120) hx hb dX12_levelOf_1 (by decide) (by decide) (by decide) ?_
                refine lv_iconst (v := 3) hx hb dX12_levelOf_120 (by decide) ?_
                have hP9 := hP.sub (ws' := []) [] rfl
                have hD9 := hD.sub (ws' := []) [] (by decide) rfl
                have hK9 := hK.sub (tys' := []) [] rfl
                exact W.iret (v := 3) hx hb hr (fun tS ht hW => ⟨⟨3, (), rfl, (by decide), by rw [ht]; exact hP9, va_K.moved hW.alike hK9, hD9⟩, hS.F ht⟩) hS.2.2 dX12_levelOf_121
              · by_cases h128 : kd = 128
                · subst h128
                  refine lv_lookup (off := 119) (tgt := 120) hx hb dX12_levelOf_1 (by decide) (by decide) (by decide) ?_
                  refine lv_iconst (v := 3) hx hb dX12_levelOf_120 (by decide) ?_
                  have hP9 := hP.sub (ws' := []) [] rfl
                  have hD9 := hD.sub (ws' := []) [] (by decide) rfl
                  have hK9 := hK.sub (tys' := []) [] rfl
                  exact W.iret (v := 3) hx hb hr (fun tS ht hW => ⟨⟨3, (), rfl, (by decide), by rw [ht]; exact hP9, va_K.moved hW.alike hK9, hD9⟩, hS.F ht⟩) hS.2.2 dX12_levelOf_121
                · by_cases h129 : kd = 129
                  · subst h129
                    refine lv_lookup (off := 119) (tgt := 120) hx hb dX12_levelOf_1 (by decide) (by decide) (by decide) ?_
                    refine lv_iconst (v := 3) hx hb dX12_levelOf_120 (by decide) ?_
                    have hP9 := hP.sub (ws' := []) [] rfl
                    have hD9 := hD.sub (ws' := []) [] (by decide) rfl
                    have hK9 := hK.sub (tys' := []) [] rfl
                    exact W.iret (v := 3) hx hb hr (fun tS ht hW => ⟨⟨3, (), rfl, (by decide), by rw [ht]; exact hP9, va_K.moved hW.alike hK9, hD9⟩, hS.F ht⟩) hS.2.2 dX12_levelOf_121
                  · by_cases h130 : kd = 130
                    · subst h130
                      refine lv_lookup (off := 119) (tgt := 120) hx hb dX12_levelOf_1 (by decide) (by decide) (by decide) ?_
                      refine lv_iconst (v := 3) hx hb dX12_levelOf_120 (by decide) ?_
                      have hP9 := hP.sub (ws' := []) [] rfl
                      have hD9 := hD.sub (ws' := []) [] (by decide) rfl
                      have hK9 := hK.sub (tys' := []) [] rfl
                      exact W.iret (v := 3) hx hb hr (fun tS ht hW => ⟨⟨3, (), rfl, (by decide), by rw [ht]; exact hP9, va_K.moved hW.alike hK9, hD9⟩, hS.F ht⟩) hS.2.2 dX12_levelOf_121
                    · by_cases h131 : kd = 131
                      · subst h131
                        refine lv_lookup (off := 119) (tgt := 120) hx hb dX12_levelOf_1 (by decide) (by decide) (by decide) ?_
                        refine lv_iconst (v := 3) hx hb dX12_levelOf_120 (by decide) ?_
                        have hP9 := hP.sub (ws' := []) [] rfl
                        have hD9 := hD.sub (ws' := []) [] (by decide) rfl
                        have hK9 := hK.sub (tys' := []) [] rfl
                        exact W.iret (v := 3) hx hb hr (fun tS ht hW => ⟨⟨3, (), rfl, (by decide), by rw [ht]; exact hP9, va_K.moved hW.alike hK9, hD9⟩, hS.F ht⟩) hS.2.2 dX12_levelOf_121
                      · by_cases h132 : kd = 132
                        · subst h132
                          refine lv_lookup (off := 117) (tgt := 118) hx hb dX12_levelOf_1 (by decide) (by decide) (by decide) ?_
                          refine lv_iconst (v := 2) hx hb dX12_levelOf_118 (by decide) ?_
                          have hP9 := hP.sub (ws' := []) [] rfl
                          have hD9 := hD.sub (ws' := []) [] (by decide) rfl
                          have hK9 := hK.sub (tys' := []) [] rfl
                          exact W.iret (v := 2) hx hb hr (fun tS ht hW => ⟨⟨2, (), rfl, (by decide), by rw [ht]; exact hP9, va_K.moved hW.alike hK9, hD9⟩, hS.F ht⟩) hS.2.2 dX12_levelOf_119
                        · by_cases h133 : kd = 133
                          · subst h133
                            refine lv_lookup (off := 115) (tgt := 116) hx hb dX12_levelOf_1 (by decide) (by decide) (by decide) ?_
                            refine lv_iconst (v := 1) hx hb dX12_levelOf_116 (by decide) ?_
                            have hP9 := hP.sub (ws' := []) [] rfl
                            have hD9 := hD.sub (ws' := []) [] (by decide) rfl
                            have hK9 := hK.sub (tys' := []) [] rfl
                            exact W.iret (v := 1) hx hb hr (fun tS ht hW => ⟨⟨1, (), rfl, (by decide), by rw [ht]; exact hP9, va_K.moved hW.alike hK9, hD9⟩, hS.F ht⟩) hS.2.2 dX12_levelOf_117
                          · have z37 : kd.toInt ≠ 37 := fun q => h37 (Int32.toInt_inj.mp q)
                            have z42 : kd.toInt ≠ 42 := fun q => h42 (Int32.toInt_inj.mp q)
                            have z43 : kd.toInt ≠ 43 := fun q => h43 (Int32.toInt_inj.mp q)
                            have z45 : kd.toInt ≠ 45 := fun q => h45 (Int32.toInt_inj.mp q)
                            have z47 : kd.toInt ≠ 47 := fun q => h47 (Int32.toInt_inj.mp q)
                            have z60 : kd.toInt ≠ 60 := fun q => h60 (Int32.toInt_inj.mp q)
                            have z62 : kd.toInt ≠ 62 := fun q => h62 (Int32.toInt_inj.mp q)
                            have z128 : kd.toInt ≠ 128 := fun q => h128 (Int32.toInt_inj.mp q)
                            have z129 : kd.toInt ≠ 129 := fun q => h129 (Int32.toInt_inj.mp q)
                            have z130 : kd.toInt ≠ 130 := fun q => h130 (Int32.toInt_inj.mp q)
                            have z131 : kd.toInt ≠ 131 := fun q => h131 (Int32.toInt_inj.mp q)
                            have z132 : kd.toInt ≠ 132 := fun q => h132 (Int32.toInt_inj.mp q)
                            have z133 : kd.toInt ≠ 133 := fun q => h133 (Int32.toInt_inj.mp q)
                            refine lv_lookup (off := 125) (tgt := 126) hx hb dX12_levelOf_1 (by decide) (by simp [Op.lookupswitch.offset, z37, z42, z43, z45, z47, z60, z62, z128, z129, z130, z131, z132, z133, Ne.symm z37, Ne.symm z42, Ne.symm z43, Ne.symm z45, Ne.symm z47, Ne.symm z60, Ne.symm z62, Ne.symm z128, Ne.symm z129, Ne.symm z130, Ne.symm z131, Ne.symm z132, Ne.symm z133]) (by decide) ?_
                            refine lv_iconst (v := 0) hx hb dX12_levelOf_126 (by decide) ?_
                            have hP9 := hP.sub (ws' := []) [] rfl
                            have hD9 := hD.sub (ws' := []) [] (by decide) rfl
                            have hK9 := hK.sub (tys' := []) [] rfl
                            exact W.iret (v := 0) hx hb hr (fun tS ht hW => ⟨⟨0, (), rfl, (by unfold lvK; simp [h37, h42, h43, h45, h47, h60, h62, h128, h129, h130, h131, h132, h133]; rfl), by rw [ht]; exact hP9, va_K.moved hW.alike hK9, hD9⟩, hS.F ht⟩) hS.2.2 dX12_levelOf_127
end
-- 98.putText.lean.txt
section
def wf_c_putT : List Cond := [.code yX8_putText cX8_putText 3 none, .code yJ0_length_8abf5 cJ0_length_8abf5 1 (some .int), .fieldLink RJ0 9 "java/lang/String" "value" "[B", .code yJ0_coder_7d493 cJ0_coder_7d493 1 (some .byte), .fieldLink RJ0 38 "java/lang/String" "COMPACT_STRINGS" "Z", .fieldLink RJ0 15 "java/lang/String" "coder" "B", .methodLink RJ0 335 yJ0_coder_7d493, .instanceMethod yJ0_coder_7d493, .selects RJ0 yJ0_coder_7d493 yJ0_coder_7d493, .initialized RJ0, .methodLink RX8 24 yJ0_length_8abf5, .instanceMethod yJ0_length_8abf5, .selects RJ0 yJ0_length_8abf5 yJ0_length_8abf5, .code yJ0_charAt_5068e cJ0_charAt_5068e 2 (some .char), .code yJ0_isLatin1_aae02 cJ0_isLatin1_aae02 1 (some .boolean), .methodLink RJ0 492 yJ0_isLatin1_aae02, .instanceMethod yJ0_isLatin1_aae02, .selects RJ0 yJ0_isLatin1_aae02 yJ0_isLatin1_aae02, .code yJ1_charAt_3b067 cJ1_charAt_3b067 2 (some .char), .code yJ0_checkIndex_df160 cJ0_checkIndex_df160 2 none, .fieldLink RJ0 1053 "jdk/internal/util/Preconditions" "SIOOBE_FORMATTER" "Ljava/util/function/BiFunction;", .code yJ3_checkIndex_8e157 cJ3_checkIndex_8e157 3 (some .int), .methodLink RJ0 1059 yJ3_checkIndex_8e157, .static yJ3_checkIndex_8e157, .initialized RJ3, .methodLink RJ1 9 yJ0_checkIndex_df160, .static yJ0_checkIndex_df160, .methodLink RJ0 495 yJ1_charAt_3b067, .static yJ1_charAt_3b067, .initialized RJ1, .methodLink RX8 30 yJ0_charAt_5068e, .instanceMethod yJ0_charAt_5068e, .selects RJ0 yJ0_charAt_5068e yJ0_charAt_5068e, .code yX8_put cX8_put 3 (some .boolean), .fieldLink RX8 17 "OwnedPlaces$Queue" "size" "I", .fieldLink RX8 13 "OwnedPlaces$Queue" "row" "[J", .fieldLink RX8 21 "OwnedPlaces$Queue" "first" "I", .methodLink RX8 34 yX8_put, .instanceMethod yX8_put, .selects RX8 yX8_put yX8_put, .initialized RX8]
def wp_c_putT : List Cond := wf_c_putT ++ (wsX80 ++ [])
theorem in_c_putT_X8 : ∀ w ∈ wsX80, w ∈ wp_c_putT := fun w h => List.mem_append_right _ (List.mem_append_left _ h)
theorem wg_c_putT : wf_c_putT.all goodWord = true := by decide +kernel
theorem wm_c_putT (k : Nat) {w : Cond} (h : wp_c_putT[k]? = some w) : w ∈ wp_c_putT := List.mem_of_getElem? h
set_option maxRecDepth 20000 in
theorem g_c_putT_c_length_4 : GoodIn wp_c_putT (wsV RX8 24 RJ0 yJ0_length_8abf5 wp_c_length) := goodIn_app (goodIn_f [.methodLink RX8 24 yJ0_length_8abf5, .instanceMethod yJ0_length_8abf5, .selects RJ0 yJ0_length_8abf5 yJ0_length_8abf5, .initialized RJ0] [10, 11, 12, 9] rfl (by decide +kernel)) (goodIn_app (goodIn_f (wf_c_length) [1, 2, 3, 4, 5, 6, 7, 8, 9] rfl wg_c_length) (goodIn_n))
set_option maxRecDepth 20000 in
theorem g_c_putT_c_charAt_13 : GoodIn wp_c_putT (wsV RX8 30 RJ0 yJ0_charAt_5068e wp_c_charAt) := goodIn_app (goodIn_f [.methodLink RX8 30 yJ0_charAt_5068e, .instanceMethod yJ0_charAt_5068e, .selects RJ0 yJ0_charAt_5068e yJ0_charAt_5068e, .initialized RJ0] [30, 31, 32, 9] rfl (by decide +kernel)) (goodIn_app (goodIn_f (wf_c_charAt) [13, 14, 4, 5, 15, 16, 17, 9, 2, 18, 19, 20, 21, 22, 23, 24, 25, 26, 27, 28, 29] rfl wg_c_charAt) (goodIn_n))
set_option maxRecDepth 20000 in
theorem g_c_putT_c_put_17 : GoodIn wp_c_putT (wsV RX8 34 RX8 yX8_put wp_c_put) := goodIn_app (goodIn_f [.methodLink RX8 34 yX8_put, .instanceMethod yX8_put, .selects RX8 yX8_put yX8_put, .initialized RX8] [37, 38, 39, 40] rfl (by decide +kernel)) (goodIn_app (goodIn_f (wf_c_put) [33, 34, 35, 36] rfl wg_c_put) (goodIn_app (goodIn_sub in_c_putT_X8 gd_X8) (goodIn_n)))
set_option maxHeartbeats 4000000 in
set_option maxRecDepth 100000 in
theorem c_putT (l : Launch) (dC : Nat → ClassId) (dI : Nat → Nat → Nat) (q qr qd N fi qz : Nat) (kL : ClassId) (fr : Nat → Int64) (t v Ns : Nat) (b : Nat → Int32) (sz : Nat) (hN0 : 0 < N) (hN : N ≤ 4000) (hfi : fi < N) (hqz : qz ≤ N) (hNs : Ns ≤ 100) : Met l yX8_putText wp_c_putT ({ frames := 4, cells := 0, slots := 0, locals := 85 }) (va_Pc [.ref q, .ref t] (fun U => U.heap.size = sz ∧ va_P (dC, dI) vwCl [(q, .inr (8, [.ref qr, .ref qd, .int (nI fi), .int (nI qz)])), (qr, .inl (kL, N, .inr (.inl fr)))] U.heap ∧ va_K (dC, dI) vwCl [(kL, .long)] U ∧ va_D (fun _ => True) [(q, .inr (8, [.ref qr, .ref qd, .int (nI fi), .int (nI qz)])), (qr, .inl (kL, N, .inr (.inl fr)))] ∧ sgA t v Ns b (va_A [(q, .inr (8, [.ref qr, .ref qd, .int (nI fi), .int (nI qz)])), (qr, .inl (kL, N, .inr (.inl fr)))] sz) U U.heap ∧ sgF (va_A [(q, .inr (8, [.ref qr, .ref qd, .int (nI fi), .int (nI qz)])), (qr, .inl (kL, N, .inr (.inl fr)))] sz) U U.heap)) (va_Qv (fun _ : Unit => True) (fun (_ : Unit) (tS : State) => ∃ (qz2 : Nat) (gr : Nat → Int64), (qz2 ≤ N) ∧ va_P (dC, dI) vwCl [(q, .inr (8, [.ref qr, .ref qd, .int (nI fi), .int (nI qz2)])), (qr, .inl (kL, N, .inr (.inl gr)))] tS.heap ∧ va_K (dC, dI) vwCl [(kL, .long)] tS ∧ va_D (va_A [(q, .inr (8, [.ref qr, .ref qd, .int (nI fi), .int (nI qz)])), (qr, .inl (kL, N, .inr (.inl fr)))] sz) [(q, .inr (8, [.ref qr, .ref qd, .int (nI fi), .int (nI qz2)])), (qr, .inl (kL, N, .inr (.inl gr)))]) (va_A [(q, .inr (8, [.ref qr, .ref qd, .int (nI fi), .int (nI qz)])), (qr, .inl (kL, N, .inr (.inl fr)))] sz)) 0 0 (va_A [(q, .inr (8, [.ref qr, .ref qd, .int (nI fi), .int (nI qz)])), (qr, .inl (kL, N, .inr (.inl fr)))] sz) := by
  refine Met.ofW (cc := cX8_putText) (maxL := 3) (ret := none) (by decide) rfl ?_
  intro p e s m args below meth c s₁ B hml hv
  obtain ⟨rfl, hsz, hP, hK, hD0, hpre0, hpre1⟩ := hv
  have hx := B.exec
  have hb := B.bytes
  have hr := B.returns
  have hts := atoms_spec (ws := wp_c_putT) B.pre
  have hown : s.vm.findClass RX8 = some m.cls := findClass_of_methodNamed B.named
  have hlocks := B.notSynchronized
  subst hsz
  have hD := hD0.self (sz := s.heap.size)
  generalize hAe : va_A [(q, .inr (8, [.ref qr, .ref qd, .int (nI fi), .int (nI qz)])), (qr, .inl (kL, N, .inr (.inl fr)))] s.heap.size = A at hD hpre0 hpre1 ⊢
  have hA : ∀ q : Nat, s.heap.size ≤ q → A q := fun q h => by rw [← hAe]; exact Or.inr h
  have hS : va_S A s.heap s.heap [] := va_S.rf
  have hP : va_P (dC, dI) vwCl [(q, .inr (8, [.ref qr, .ref qd, .int (nI fi), .int (nI qz)])), (qr, .inl (kL, N, .inr (.inl fr)))] s.heap := hP
  have hl := lv_entry ([.ref q, .ref t]) (n := 3) (Nat.le_of_ble_eq_true rfl)
  rw [lg_entry_eq]
  generalize (lg_sl ([.ref q, .ref t]) ++ List.replicate (3 - (lg_sl ([.ref q, .ref t])).length) Slot.unset).toArray = ls at hl ⊢
  have hl : lv_has ls 3 [(0, .ref q), (1, .ref t)] := hl
  refine lv_iconst (v := 0) hx hb dX8_putText_0 (by decide) ?_
  refine lv_istore_n (lv' := [(2, .int 0), (0, .ref q), (1, .ref t)]) hx hb dX8_putText_1 rfl hl (by decide) rfl (fun ls hl => ?_)
  refine W_q (fun Q1 hQ1 => ?_)
  have key1 : ∀ (n1 : Nat) (i z9 : Nat) (f9 : Nat → Int64) (H : Heap) (locs : List Loc) (ls : Array Slot), (i + n1 = Ns + 1 ∧ i ≤ Ns) → (z9 ≤ N) → va_P (dC, dI) vwCl [(q, .inr (8, [.ref qr, .ref qd, .int (nI fi), .int (nI z9)])), (qr, .inl (kL, N, .inr (.inl f9)))] H → va_D A [(q, .inr (8, [.ref qr, .ref qd, .int (nI fi), .int (nI z9)])), (qr, .inl (kL, N, .inr (.inl f9)))] → va_S A s.heap H locs → lv_has ls 3 [(2, .int (nI i)), (0, .ref q), (1, .ref t)] → W p l e (headSpec wp_c_putT ({ frames := 4, cells := 0, slots := 0, locals := 85 })).room s m ([.ref q, .ref t] : List Value).toArray below meth c H locs 0 0 Q1 (F0 m 2 ls []) := by
    intro n1
    induction n1 with
    | zero => intro i z9 f9 H locs ls hb0 hb1; exact absurd hb0 (by omega)
    | succ n1 ih1 =>
      intro i z9 f9 H locs ls hb0 hb1 hP hD hS hl
      refine lv_iload_n hx hb dX8_putText_2 rfl (lv_at hl 0 rfl) ?_
      refine lv_aload_n hx hb dX8_putText_3 rfl (lv_at hl 2 rfl) ?_
      have hPc := hP.sub (ws' := []) [] rfl
      have hDc := hD.sub (ws' := []) [] (by decide) rfl
      have hKc := hK.sub (tys' := []) [] rfl
      have hFc := va_free (wc := []) hD hS hA [] rfl
      refine va_calli (va_runV (As := []) (rest := [.int (nI i)]) ⟨hx, hb, hml, hown, hts⟩ (c_length l dC dI t v Ns b H.size (by omega)) (cwV 0 hts g_c_putT_c_length_4 rfl rfl rfl (by decide +kernel) ⟨Nat.le_of_ble_eq_true rfl, Nat.le_of_ble_eq_true rfl⟩) ⟨fun a U g mk q => by obtain ⟨q0, q1, qP, qK, qD, qx0⟩ := q; exact ⟨q0, q1, qP, va_K.moved (u := U) (U := U.calling g mk a) (Vm.Alike.refl U.vm) qK, qD, sgA.moved (u := U) (U := U.calling g mk a) (Vm.Alike.refl U.vm) qx0⟩, va_Orecv hpre0.1 hS, fun U hU hW => ⟨rfl, by rw [hU], by rw [hU]; exact hPc, va_K.moved hW.alike hKc, hDc.weaken (fun _ _ _ _ => trivial), by rw [hU]; exact ((hpre0.kept hS.2.1).moved hW.alike).narrow hFc⟩⟩ rfl rfl hl.1 rfl (lv_room (Nat.le_of_ble_eq_true rfl)) dX8_putText_4 ⟨(show 0 + 0 ≤ 0 by omega), (show 0 + 0 ≤ 0 by omega)⟩) hS (fun q _ h => hFc q h) hFc (fun r_1 u tS H1 locs ht hvm hw hB hz1 hk1 hS => ?_)
      obtain ⟨hP1, hK1, hD1⟩ := hB
      rw [ht] at hP1
      have hK1 := va_K.moved hvm.symm hK1
      obtain ⟨hP, hD⟩ := va_join (wr := [(q, .inr (8, [.ref qr, .ref qd, .int (nI fi), .int (nI z9)])), (qr, .inl (kL, N, .inr (.inl f9)))]) (w1 := []) hP hD [] [0, 1] rfl rfl (by decide) (by decide) hk1 hFc hP1 hD1
      generalize H1 = H at hP hS ⊢
      have hP : va_P (dC, dI) vwCl [(q, .inr (8, [.ref qr, .ref qd, .int (nI fi), .int (nI z9)])), (qr, .inl (kL, N, .inr (.inl f9)))] H := hP
      have hD : va_D A [(q, .inr (8, [.ref qr, .ref qd, .int (nI fi), .int (nI z9)])), (qr, .inl (kL, N, .inr (.inl f9)))] := hD
      have hK : va_K (dC, dI) vwCl [(kL, .long)] s := hK
      obtain rfl : r_1 = nI Ns := hw
      refine lv_icmp_ge (tgt := 27) hx hb dX8_putText_7 (by decide) (fun hc => ?_) (fun hc => ?_)
      · have hP9 := hP.sub (ws' := [(q, .inr (8, [.ref qr, .ref qd, .int (nI fi), .int (nI z9)])), (qr, .inl (kL, N, .inr (.inl f9)))]) [0, 1] rfl
        have hD9 := hD.sub (ws' := [(q, .inr (8, [.ref qr, .ref qd, .int (nI fi), .int (nI z9)])), (qr, .inl (kL, N, .inr (.inl f9)))]) [0, 1] (by decide) rfl
        have hK9 := hK.sub (tys' := [(kL, .long)]) [0] rfl
        subst hQ1
        exact W.vret hx hb hr (fun tS ht hW => ⟨⟨(), rfl, trivial, z9, f9, hb1, by rw [ht]; exact hP9, va_K.moved hW.alike hK9, hD9⟩, hS.F ht⟩) hS.2.2 dX8_putText_27
      · have hi : i < Ns := by rcases Nat.lt_or_ge i Ns with z8 | z8; exact z8; exact absurd (nI_le z8 (by omega)) hc
        refine lv_aload_n hx hb dX8_putText_10 rfl (lv_at hl 1 rfl) ?_
        refine lv_aload_n hx hb dX8_putText_11 rfl (lv_at hl 2 rfl) ?_
        refine lv_iload_n hx hb dX8_putText_12 rfl (lv_at hl 0 rfl) ?_
        have hPc := hP.sub (ws' := []) [] rfl
        have hDc := hD.sub (ws' := []) [] (by decide) rfl
        have hKc := hK.sub (tys' := []) [] rfl
        have hFc := va_free (wc := []) hD hS hA [] rfl
        refine va_calli (va_runV (As := [.int (nI i)]) (rest := [.ref q]) ⟨hx, hb, hml, hown, hts⟩ (c_charAt l dC dI t v Ns b i H.size hi (by omega)) (cwV 1 hts g_c_putT_c_charAt_13 rfl rfl rfl (by decide +kernel) ⟨Nat.le_of_ble_eq_true rfl, Nat.le_of_ble_eq_true rfl⟩) ⟨fun a U g mk q => by obtain ⟨q0, q1, qP, qK, qD, qx0, qx1⟩ := q; exact ⟨q0, q1, qP, va_K.moved (u := U) (U := U.calling g mk a) (Vm.Alike.refl U.vm) qK, qD, sgA.moved (u := U) (U := U.calling g mk a) (Vm.Alike.refl U.vm) qx0, sgF.moved (u := U) (U := U.calling g mk a) (Vm.Alike.refl U.vm) qx1⟩, va_Orecv hpre0.1 hS, fun U hU hW => ⟨rfl, by rw [hU], by rw [hU]; exact hPc, va_K.moved hW.alike hKc, hDc.weaken (fun _ _ _ _ => trivial), by rw [hU]; exact ((hpre0.kept hS.2.1).moved hW.alike).narrow hFc, by rw [hU]; exact ((hpre1.kept hS.2.1).moved hW.alike).narrow hFc⟩⟩ rfl rfl hl.1 rfl (lv_room (Nat.le_of_ble_eq_true rfl)) dX8_putText_13 ⟨(show 0 + 0 ≤ 0 by omega), (show 0 + 0 ≤ 0 by omega)⟩) hS (fun q _ h => hFc q h) hFc (fun r_2 u tS H1 locs ht hvm hw hB hz1 hk1 hS => ?_)
        obtain ⟨hP1, hK1, hD1⟩ := hB
        rw [ht] at hP1
        have hK1 := va_K.moved hvm.symm hK1
        obtain ⟨hP, hD⟩ := va_join (wr := [(q, .inr (8, [.ref qr, .ref qd, .int (nI fi), .int (nI z9)])), (qr, .inl (kL, N, .inr (.inl f9)))]) (w1 := []) hP hD [] [0, 1] rfl rfl (by decide) (by decide) hk1 hFc hP1 hD1
        generalize H1 = H at hP hS ⊢
        have hP : va_P (dC, dI) vwCl [(q, .inr (8, [.ref qr, .ref qd, .int (nI fi), .int (nI z9)])), (qr, .inl (kL, N, .inr (.inl f9)))] H := hP
        have hD : va_D A [(q, .inr (8, [.ref qr, .ref qd, .int (nI fi), .int (nI z9)])), (qr, .inl (kL, N, .inr (.inl f9)))] := hD
        have hK : va_K (dC, dI) vwCl [(kL, .long)] s := hK
        obtain ⟨f_3, ef_3⟩ : ∃ yY : Int64, yY = (r_2 : Int32).toInt64 := ⟨_, rfl⟩
        refine lv_i2l (v := f_3) hx hb dX8_putText_16 ef_3.symm ?_
        have hPc := hP.sub (ws' := [(q, .inr (8, [.ref qr, .ref qd, .int (nI fi), .int (nI z9)])), (qr, .inl (kL, N, .inr (.inl f9)))]) [0, 1] rfl
        have hDc := hD.sub (ws' := [(q, .inr (8, [.ref qr, .ref qd, .int (nI fi), .int (nI z9)])), (qr, .inl (kL, N, .inr (.inl f9)))]) [0, 1] (by decide) rfl
        have hKc := hK.sub (tys' := [(kL, .long)]) [0] rfl
        have hFc := va_free (wc := [(q, .inr (8, [.ref qr, .ref qd, .int (nI fi), .int (nI z9)])), (qr, .inl (kL, N, .inr (.inl f9)))]) hD hS hA [0, 1] rfl
        refine va_calli (va_runV (As := [.long f_3]) (rest := []) ⟨hx, hb, hml, hown, hts⟩ (c_put l dC dI q qr qd N fi z9 kL f9 f_3 H.size hN0 hN hfi hb1) (cwV 1 hts g_c_putT_c_put_17 rfl rfl rfl (by decide +kernel) ⟨Nat.le_of_ble_eq_true rfl, Nat.le_of_ble_eq_true rfl⟩) ⟨fun a U g mk q => by obtain ⟨q0, q1, qP, qK, qD⟩ := q; exact ⟨q0, q1, qP, va_K.moved (u := U) (U := U.calling g mk a) (Vm.Alike.refl U.vm) qK, qD⟩, va_recv hKc hPc (ci := 8) (q0 := 0) rfl rfl, fun U hU hW => ⟨rfl, by rw [hU], by rw [hU]; exact hPc, va_K.moved hW.alike hKc, hDc.weaken (fun _ _ _ _ => trivial)⟩⟩ rfl rfl hl.1 rfl (lv_room (Nat.le_of_ble_eq_true rfl)) dX8_putText_17 ⟨(show 0 + 0 ≤ 0 by omega), (show 0 + 0 ≤ 0 by omega)⟩) hS (fun q _ h => hFc q h) hFc (fun r_4 u tS H1 locs ht hvm hw hB hz1 hk1 hS => ?_)
        obtain ⟨z7, f7, hf4_0, hP1, hK1, hD1⟩ := hB
        rw [ht] at hP1
        have hK1 := va_K.moved hvm.symm hK1
        obtain ⟨hP, hD⟩ := va_join (wr := []) (w1 := [(q, .inr (8, [.ref qr, .ref qd, .int (nI fi), .int (nI z7)])), (qr, .inl (kL, N, .inr (.inl f7)))]) hP hD [0, 1] [] rfl rfl (by decide) (by decide) hk1 hFc hP1 hD1
        have hK := hK.app hK1
        generalize H1 = H at hP hS ⊢
        have hP : va_P (dC, dI) vwCl [(q, .inr (8, [.ref qr, .ref qd, .int (nI fi), .int (nI z7)])), (qr, .inl (kL, N, .inr (.inl f7)))] H := hP
        have hD : va_D A [(q, .inr (8, [.ref qr, .ref qd, .int (nI fi), .int (nI z7)])), (qr, .inl (kL, N, .inr (.inl f7)))] := hD
        have hK : va_K (dC, dI) vwCl [(kL, .long), (kL, .long)] s := hK
        have hK := hK.sub (tys' := [(kL, .long)]) [0] rfl
        have hP : va_P (dC, dI) vwCl [(q, .inr (8, [.ref qr, .ref qd, .int (nI fi), .int (nI z7)])), (qr, .inl (kL, N, .inr (.inl f7)))] H := hP
        have hD : va_D A [(q, .inr (8, [.ref qr, .ref qd, .int (nI fi), .int (nI z7)])), (qr, .inl (kL, N, .inr (.inl f7)))] := hD
        refine lv_pop hx hb dX8_putText_20 rfl ?_
        obtain ⟨x_5, ex_5⟩ : ∃ yY : Int32, yY = (nI i) + 1 := ⟨_, rfl⟩
        refine lv_iinc (v := x_5) (lv' := [(2, .int x_5), (0, .ref q), (1, .ref t)]) hx hb dX8_putText_21 hl (k := 0) rfl (by rw [ex_5]; rfl) (by decide) rfl (fun ls hl => ?_)
        obtain rfl : x_5 = nI (i + 1) := by rw [ex_5]; exact nI_1 i
        have hl : lv_has ls 3 [(2, .int (nI (i + 1))), (0, .ref q), (1, .ref t)] := hl
        refine lv_goto (tgt := 2) hx hb dX8_putText_24 (by decide) ?_
        exact ih1 (i + 1) z7 f7 _ _ _ (by omega) hf4_0 (hP.sub [0, 1] rfl) (hD.sub [0, 1] (by decide) rfl) hS (lv_sub hl [0, 1, 2] rfl)
  exact key1 (Ns + 1) 0 qz fr _ _ _ (by omega) hqz (hP.sub [0, 1] rfl) (hD.sub [0, 1] (by decide) rfl) hS (lv_sub hl [0, 1, 2] rfl)
end
-- 99.fill.lean.txt
section
def wf_c_range : List Cond := [.code yJ7_rangeCheck_23922 cJ7_rangeCheck_23922 3 none]
def wp_c_range : List Cond := wf_c_range ++ []
theorem wg_c_range : wf_c_range.all goodWord = true := by decide +kernel
theorem wm_c_range (k : Nat) {w : Cond} (h : wp_c_range[k]? = some w) : w ∈ wp_c_range := List.mem_of_getElem? h
set_option maxHeartbeats 4000000 in
set_option maxRecDepth 100000 in
theorem c_range (l : Launch) (dC : Nat → ClassId) (dI : Nat → Nat → Nat) (N a b : Nat) (sz : Nat) (hab : a ≤ b) (hbN : b ≤ N) (hN : N < 2 ^ 30) : Met l yJ7_rangeCheck_23922 wp_c_range ({ frames := 0, cells := 0, slots := 0, locals := 0 }) (va_Pc [.int (nI N), .int (nI a), .int (nI b)] (fun U => U.heap.size = sz ∧ va_P (dC, dI) vwCl [] U.heap ∧ va_K (dC, dI) vwCl [] U ∧ va_D (fun _ => True) [])) (va_Qv (fun _ : Unit => True) (fun (_ : Unit) (tS : State) => va_P (dC, dI) vwCl [] tS.heap ∧ va_K (dC, dI) vwCl [] tS ∧ va_D (va_A [] sz) []) (va_A [] sz)) 0 0 (va_A [] sz) := by
  refine Met.ofW (cc := cJ7_rangeCheck_23922) (maxL := 3) (ret := none) (by decide) rfl ?_
  intro p e s m args below meth c s₁ B hml hv
  obtain ⟨rfl, hsz, hP, hK, hD0⟩ := hv
  have hx := B.exec
  have hb := B.bytes
  have hr := B.returns
  have hts := atoms_spec (ws := wp_c_range) B.pre
  have hown : s.vm.findClass RJ7 = some m.cls := findClass_of_methodNamed B.named
  have hlocks := B.notSynchronized
  subst hsz
  have hD := hD0.self (sz := s.heap.size)
  generalize hAe : va_A [] s.heap.size = A at hD ⊢
  have hA : ∀ q : Nat, s.heap.size ≤ q → A q := fun q h => by rw [← hAe]; exact Or.inr h
  have hS : va_S A s.heap s.heap [] := va_S.rf
  have hP : va_P (dC, dI) vwCl [] s.heap := hP
  have hl := lv_entry ([.int (nI N), .int (nI a), .int (nI b)]) (n := 3) (Nat.le_of_ble_eq_true rfl)
  rw [lg_entry_eq]
  generalize (lg_sl ([.int (nI N), .int (nI a), .int (nI b)]) ++ List.replicate (3 - (lg_sl ([.int (nI N), .int (nI a), .int (nI b)])).length) Slot.unset).toArray = ls at hl ⊢
  have hl : lv_has ls 3 [(0, .int (nI N)), (1, .int (nI a)), (2, .int (nI b))] := hl
  refine lv_iload_n hx hb dJ7_rangeCheck_23922_0 rfl (lv_at hl 1 rfl) ?_
  refine lv_iload_n hx hb dJ7_rangeCheck_23922_1 rfl (lv_at hl 2 rfl) ?_
  refine lv_icmp_le (tgt := 46) hx hb dJ7_rangeCheck_23922_2 (by decide) (fun _ => ?_) (fun c_1 => absurd (nI_le hab (by omega)) c_1)
  refine lv_iload_n hx hb dJ7_rangeCheck_23922_46 rfl (lv_at hl 1 rfl) ?_
  refine lv_if_ge (tgt := 59) hx hb dJ7_rangeCheck_23922_47 (by decide) (fun _ => ?_) (fun c_2 => absurd (nI_pos' (by omega)) c_2)
  refine lv_iload_n hx hb dJ7_rangeCheck_23922_59 rfl (lv_at hl 2 rfl) ?_
  refine lv_iload_n hx hb dJ7_rangeCheck_23922_60 rfl (lv_at hl 0 rfl) ?_
  refine lv_icmp_le (tgt := 73) hx hb dJ7_rangeCheck_23922_61 (by decide) (fun _ => ?_) (fun c_3 => absurd (nI_le hbN (by omega)) c_3)
  have hP9 := hP.sub (ws' := []) [] rfl
  have hD9 := hD.sub (ws' := []) [] (by decide) rfl
  have hK9 := hK.sub (tys' := []) [] rfl
  exact W.vret hx hb hr (fun tS ht hW => ⟨⟨(), rfl, trivial, by rw [ht]; exact hP9, va_K.moved hW.alike hK9, hD9⟩, hS.F ht⟩) hS.2.2 dJ7_rangeCheck_23922_73
/-- from a to b all are x, the others as they were -/
def flI (a b : Nat) (x : Int32) (f g : Nat → Int32) : Prop := ∀ j, (a ≤ j ∧ j < b → g j = x) ∧ (¬ (a ≤ j ∧ j < b) → g j = f j)
def flL (a b : Nat) (x : Int64) (f g : Nat → Int64) : Prop := ∀ j, (a ≤ j ∧ j < b → g j = x) ∧ (¬ (a ≤ j ∧ j < b) → g j = f j)
theorem flI_step {a b : Nat} {x : Int32} {f g : Nat → Int32} (h : flI a b x f g) (hab : a ≤ b) : flI a (b + 1) x f (upd g b x) := by
  intro j
  by_cases e : j = b
  · subst e; rw [pk_us]; exact ⟨fun _ => rfl, fun q => absurd ⟨by omega, by omega⟩ q⟩
  · rw [pk_un e]; exact ⟨fun q => (h j).1 ⟨q.1, by omega⟩, fun q => (h j).2 (fun z => q ⟨z.1, by omega⟩)⟩
theorem flL_step {a b : Nat} {x : Int64} {f g : Nat → Int64} (h : flL a b x f g) (hab : a ≤ b) : flL a (b + 1) x f (vp_updL g b x) := by
  intro j
  by_cases e : j = b
  · subst e; rw [pk_uLs]; exact ⟨fun _ => rfl, fun q => absurd ⟨by omega, by omega⟩ q⟩
  · rw [pk_uLn e]; exact ⟨fun q => (h j).1 ⟨q.1, by omega⟩, fun q => (h j).2 (fun z => q ⟨z.1, by omega⟩)⟩
def wf_c_fillIp : List Cond := [.code yJ7_fill_fda19 cJ7_fill_fda19 5 none, .code yJ7_rangeCheck_23922 cJ7_rangeCheck_23922 3 none, .methodLink RJ7 13 yJ7_rangeCheck_23922, .static yJ7_rangeCheck_23922, .initialized RJ7]
def wp_c_fillIp : List Cond := wf_c_fillIp ++ []
theorem wg_c_fillIp : wf_c_fillIp.all goodWord = true := by decide +kernel
theorem wm_c_fillIp (k : Nat) {w : Cond} (h : wp_c_fillIp[k]? = some w) : w ∈ wp_c_fillIp := List.mem_of_getElem? h
set_option maxRecDepth 20000 in
theorem g_c_fillIp_c_range_4 : GoodIn wp_c_fillIp (va_wsS RJ7 13 yJ7_rangeCheck_23922 wp_c_range) := goodIn_app (goodIn_f [.methodLink RJ7 13 yJ7_rangeCheck_23922, .static yJ7_rangeCheck_23922, .initialized RJ7] [2, 3, 4] rfl (by decide +kernel)) (goodIn_app (goodIn_f (wf_c_range) [1] rfl wg_c_range) (goodIn_n))
set_option maxHeartbeats 4000000 in
set_option maxRecDepth 100000 in
theorem c_fillIp (l : Launch) (dC : Nat → ClassId) (dI : Nat → Nat → Nat) (r N a b : Nat) (kI : ClassId) (f : Nat → Int32) (v : Int32) (sz : Nat) (hab : a ≤ b) (hbN : b ≤ N) (hN : N < 2 ^ 30) : Met l yJ7_fill_fda19 wp_c_fillIp ({ frames := 1, cells := 0, slots := 0, locals := 22 }) (va_Pc [.ref r, .int (nI a), .int (nI b), .int v] (fun U => U.heap.size = sz ∧ va_P (dC, dI) vwCl [(r, .inl (kI, N, .inl f))] U.heap ∧ va_K (dC, dI) vwCl [(kI, .int)] U ∧ va_D (fun _ => True) [(r, .inl (kI, N, .inl f))])) (va_Qv (fun _ : Unit => True) (fun (_ : Unit) (tS : State) => ∃ (g : Nat → Int32), (flI a b v f g) ∧ va_P (dC, dI) vwCl [(r, .inl (kI, N, .inl g))] tS.heap ∧ va_K (dC, dI) vwCl [(kI, .int)] tS ∧ va_D (va_A [(r, .inl (kI, N, .inl f))] sz) [(r, .inl (kI, N, .inl g))]) (va_A [(r, .inl (kI, N, .inl f))] sz)) 0 0 (va_A [(r, .inl (kI, N, .inl f))] sz) := by
  refine Met.ofW (cc := cJ7_fill_fda19) (maxL := 5) (ret := none) (by decide) rfl ?_
  intro p e s m args below meth c s₁ B hml hv
  obtain ⟨rfl, hsz, hP, hK, hD0⟩ := hv
  have hx := B.exec
  have hb := B.bytes
  have hr := B.returns
  have hts := atoms_spec (ws := wp_c_fillIp) B.pre
  have hown : s.vm.findClass RJ7 = some m.cls := findClass_of_methodNamed B.named
  have hlocks := B.notSynchronized
  subst hsz
  have hD := hD0.self (sz := s.heap.size)
  generalize hAe : va_A [(r, .inl (kI, N, .inl f))] s.heap.size = A at hD ⊢
  have hA : ∀ q : Nat, s.heap.size ≤ q → A q := fun q h => by rw [← hAe]; exact Or.inr h
  have hS : va_S A s.heap s.heap [] := va_S.rf
  have hP : va_P (dC, dI) vwCl [(r, .inl (kI, N, .inl f))] s.heap := hP
  have hl := lv_entry ([.ref r, .int (nI a), .int (nI b), .int v]) (n := 5) (Nat.le_of_ble_eq_true rfl)
  rw [lg_entry_eq]
  generalize (lg_sl ([.ref r, .int (nI a), .int (nI b), .int v]) ++ List.replicate (5 - (lg_sl ([.ref r, .int (nI a), .int (nI b), .int v])).length) Slot.unset).toArray = ls at hl ⊢
  have hl : lv_has ls 5 [(0, .ref r), (1, .int (nI a)), (2, .int (nI b)), (3, .int v)] := hl
  refine lv_aload_n hx hb dJ7_fill_fda19_0 rfl (lv_at hl 0 rfl) ?_
  refine va_alen (v := nI N) hx hb hK hP 0 0 rfl rfl rfl dJ7_fill_fda19_1 ?_
  refine lv_iload_n hx hb dJ7_fill_fda19_2 rfl (lv_at hl 1 rfl) ?_
  refine lv_iload_n hx hb dJ7_fill_fda19_3 rfl (lv_at hl 2 rfl) ?_
  have hPc := hP.sub (ws' := []) [] rfl
  have hDc := hD.sub (ws' := []) [] (by decide) rfl
  have hKc := hK.sub (tys' := []) [] rfl
  have hFc := va_free (wc := []) hD hS hA [] rfl
  refine va_callv (va_runS (As := [.int (nI N), .int (nI a), .int (nI b)]) (rest := []) ⟨hx, hb, hml, hown, hts⟩ (c_range l dC dI N a b s.heap.size hab hbN hN) (va_cwS 3 hts g_c_fillIp_c_range_4 rfl rfl rfl (by decide +kernel) ⟨Nat.le_of_ble_eq_true rfl, Nat.le_of_ble_eq_true rfl⟩) ⟨fun a U g mk q => by obtain ⟨q0, q1, qP, qK, qD⟩ := q; exact ⟨q0, q1, qP, va_K.moved (u := U) (U := U.calling g mk a) (Vm.Alike.refl U.vm) qK, qD⟩, fun U hU hW => ⟨rfl, by rw [hU], by rw [hU]; exact hPc, va_K.moved hW.alike hKc, hDc.weaken (fun _ _ _ _ => trivial)⟩⟩ rfl rfl hl.1 rfl (lv_room (Nat.le_of_ble_eq_true rfl)) dJ7_fill_fda19_4 ⟨(show 0 + 0 ≤ 0 by omega), (show 0 + 0 ≤ 0 by omega)⟩) hS (fun q _ h => hFc q h) hFc (fun u tS H1 locs ht hvm hw hB hz1 hk1 hS => ?_)
  obtain ⟨hP1, hK1, hD1⟩ := hB
  rw [ht] at hP1
  have hK1 := va_K.moved hvm.symm hK1
  obtain ⟨hP, hD⟩ := va_join (wr := [(r, .inl (kI, N, .inl f))]) (w1 := []) hP hD [] [0] rfl rfl (by decide) (by decide) hk1 hFc hP1 hD1
  generalize H1 = H at hP hS ⊢
  have hP : va_P (dC, dI) vwCl [(r, .inl (kI, N, .inl f))] H := hP
  have hD : va_D A [(r, .inl (kI, N, .inl f))] := hD
  have hK : va_K (dC, dI) vwCl [(kI, .int)] s := hK
  refine lv_iload_n hx hb dJ7_fill_fda19_7 rfl (lv_at hl 1 rfl) ?_
  refine lv_istore (lv' := [(4, .int (nI a)), (0, .ref r), (1, .int (nI a)), (2, .int (nI b)), (3, .int v)]) hx hb dJ7_fill_fda19_8 hl (by decide) rfl (fun ls hl => ?_)
  refine W_q (fun Q1 hQ1 => ?_)
  have key1 : ∀ (n1 : Nat) (i : Nat) (g1 : Nat → Int32) (H : Heap) (locs : List Loc) (ls : Array Slot), (i + n1 = b + 1 ∧ i ≤ b ∧ a ≤ i) → (flI a i v f g1) → va_P (dC, dI) vwCl [(r, .inl (kI, N, .inl g1))] H → va_D A [(r, .inl (kI, N, .inl g1))] → va_S A s.heap H locs → lv_has ls 5 [(4, .int (nI i)), (0, .ref r), (1, .int (nI a)), (2, .int (nI b)), (3, .int v)] → W p l e (headSpec wp_c_fillIp ({ frames := 1, cells := 0, slots := 0, locals := 22 })).room s m ([.ref r, .int (nI a), .int (nI b), .int v] : List Value).toArray below meth c H locs 0 0 Q1 (F0 m 10 ls []) := by
    intro n1
    induction n1 with
    | zero => intro i g1 H locs ls hb0 hb1; exact absurd hb0 (by omega)
    | succ n1 ih1 =>
      intro i g1 H locs ls hb0 hb1 hP hD hS hl
      refine lv_iload hx hb dJ7_fill_fda19_10 (lv_at hl 0 rfl) ?_
      refine lv_iload_n hx hb dJ7_fill_fda19_12 rfl (lv_at hl 3 rfl) ?_
      refine lv_icmp_ge (tgt := 27) hx hb dJ7_fill_fda19_13 (by decide) (fun hc => ?_) (fun hc => ?_)
      · have hi : i = b := by have := (nI_leI (a := b) (b := i) (by omega) (by omega)).mp hc; omega
        have hP9 := hP.sub (ws' := [(r, .inl (kI, N, .inl g1))]) [0] rfl
        have hD9 := hD.sub (ws' := [(r, .inl (kI, N, .inl g1))]) [0] (by decide) rfl
        have hK9 := hK.sub (tys' := [(kI, .int)]) [0] rfl
        subst hQ1
        exact W.vret hx hb hr (fun tS ht hW => ⟨⟨(), rfl, trivial, g1, by rw [← hi]; exact hb1, by rw [ht]; exact hP9, va_K.moved hW.alike hK9, hD9⟩, hS.F ht⟩) hS.2.2 dJ7_fill_fda19_27
      · have hi : i < b := by rcases Nat.lt_or_ge i b with z | z; exact z; exact absurd (nI_le z (by omega)) hc
        refine lv_aload_n hx hb dJ7_fill_fda19_16 rfl (lv_at hl 1 rfl) ?_
        refine lv_iload hx hb dJ7_fill_fda19_17 (lv_at hl 0 rfl) ?_
        refine lv_iload_n hx hb dJ7_fill_fda19_19 rfl (lv_at hl 4 rfl) ?_
        refine va_iast hx hb hK hP hD hS 0 0 rfl rfl (vp_in_nI (by omega) (by omega)) dJ7_fill_fda19_20 (fun H locs hP hD hS => ?_)
        have hP : va_P (dC, dI) vwCl [(r, .inl (kI, N, .inl (upd g1 (nI i : Int32).toNatClampNeg v)))] H := hP
        have hD : va_D A [(r, .inl (kI, N, .inl (upd g1 (nI i : Int32).toNatClampNeg v)))] := hD
        obtain ⟨g2, eg2⟩ : ∃ zZ : Nat → Int32, zZ = upd g1 (nI i : Int32).toNatClampNeg v := ⟨_, rfl⟩
        rw [← eg2] at hP hD
        have hg2 : flI a (i + 1) v f g2 := by rw [eg2, nI_clamp (by omega)]; exact flI_step hb1 (by omega)
        obtain ⟨x_2, ex_2⟩ : ∃ yY : Int32, yY = (nI i) + 1 := ⟨_, rfl⟩
        refine lv_iinc (v := x_2) (lv' := [(4, .int x_2), (0, .ref r), (1, .int (nI a)), (2, .int (nI b)), (3, .int v)]) hx hb dJ7_fill_fda19_21 hl (k := 0) rfl (by rw [ex_2]; rfl) (by decide) rfl (fun ls hl => ?_)
        obtain rfl : x_2 = nI (i + 1) := by rw [ex_2]; exact nI_1 i
        have hl : lv_has ls 5 [(4, .int (nI (i + 1))), (0, .ref r), (1, .int (nI a)), (2, .int (nI b)), (3, .int v)] := hl
        refine lv_goto (tgt := 10) hx hb dJ7_fill_fda19_24 (by decide) ?_
        exact ih1 (i + 1) g2 _ _ _ (by omega) hg2 (hP.sub [0] rfl) (hD.sub [0] (by decide) rfl) hS (lv_sub hl [0, 1, 2, 3, 4] rfl)
  exact key1 (b + 1 - a) a f _ _ _ (by omega) (fun j => ⟨fun h => absurd h (by omega), fun _ => rfl⟩) (hP.sub [0] rfl) (hD.sub [0] (by decide) rfl) hS (lv_sub hl [0, 1, 2, 3, 4] rfl)
def wf_c_fillLp : List Cond := [.code yJ7_fill_bad5a cJ7_fill_bad5a 6 none, .code yJ7_rangeCheck_23922 cJ7_rangeCheck_23922 3 none, .methodLink RJ7 13 yJ7_rangeCheck_23922, .static yJ7_rangeCheck_23922, .initialized RJ7]
def wp_c_fillLp : List Cond := wf_c_fillLp ++ []
theorem wg_c_fillLp : wf_c_fillLp.all goodWord = true := by decide +kernel
theorem wm_c_fillLp (k : Nat) {w : Cond} (h : wp_c_fillLp[k]? = some w) : w ∈ wp_c_fillLp := List.mem_of_getElem? h
set_option maxRecDepth 20000 in
theorem g_c_fillLp_c_range_4 : GoodIn wp_c_fillLp (va_wsS RJ7 13 yJ7_rangeCheck_23922 wp_c_range) := goodIn_app (goodIn_f [.methodLink RJ7 13 yJ7_rangeCheck_23922, .static yJ7_rangeCheck_23922, .initialized RJ7] [2, 3, 4] rfl (by decide +kernel)) (goodIn_app (goodIn_f (wf_c_range) [1] rfl wg_c_range) (goodIn_n))
set_option maxHeartbeats 4000000 in
set_option maxRecDepth 100000 in
theorem c_fillLp (l : Launch) (dC : Nat → ClassId) (dI : Nat → Nat → Nat) (r N a b : Nat) (kL : ClassId) (f : Nat → Int64) (v : Int64) (sz : Nat) (hab : a ≤ b) (hbN : b ≤ N) (hN : N < 2 ^ 30) : Met l yJ7_fill_bad5a wp_c_fillLp ({ frames := 1, cells := 0, slots := 0, locals := 22 }) (va_Pc [.ref r, .int (nI a), .int (nI b), .long v] (fun U => U.heap.size = sz ∧ va_P (dC, dI) vwCl [(r, .inl (kL, N, .inr (.inl f)))] U.heap ∧ va_K (dC, dI) vwCl [(kL, .long)] U ∧ va_D (fun _ => True) [(r, .inl (kL, N, .inr (.inl f)))])) (va_Qv (fun _ : Unit => True) (fun (_ : Unit) (tS : State) => ∃ (g : Nat → Int64), (flL a b v f g) ∧ va_P (dC, dI) vwCl [(r, .inl (kL, N, .inr (.inl g)))] tS.heap ∧ va_K (dC, dI) vwCl [(kL, .long)] tS ∧ va_D (va_A [(r, .inl (kL, N, .inr (.inl f)))] sz) [(r, .inl (kL, N, .inr (.inl g)))]) (va_A [(r, .inl (kL, N, .inr (.inl f)))] sz)) 0 0 (va_A [(r, .inl (kL, N, .inr (.inl f)))] sz) := by
  refine Met.ofW (cc := cJ7_fill_bad5a) (maxL := 6) (ret := none) (by decide) rfl ?_
  intro p e s m args below meth c s₁ B hml hv
  obtain ⟨rfl, hsz, hP, hK, hD0⟩ := hv
  have hx := B.exec
  have hb := B.bytes
  have hr := B.returns
  have hts := atoms_spec (ws := wp_c_fillLp) B.pre
  have hown : s.vm.findClass RJ7 = some m.cls := findClass_of_methodNamed B.named
  have hlocks := B.notSynchronized
  subst hsz
  have hD := hD0.self (sz := s.heap.size)
  generalize hAe : va_A [(r, .inl (kL, N, .inr (.inl f)))] s.heap.size = A at hD ⊢
  have hA : ∀ q : Nat, s.heap.size ≤ q → A q := fun q h => by rw [← hAe]; exact Or.inr h
  have hS : va_S A s.heap s.heap [] := va_S.rf
  have hP : va_P (dC, dI) vwCl [(r, .inl (kL, N, .inr (.inl f)))] s.heap := hP
  have hl := lv_entry ([.ref r, .int (nI a), .int (nI b), .long v]) (n := 6) (Nat.le_of_ble_eq_true rfl)
  rw [lg_entry_eq]
  generalize (lg_sl ([.ref r, .int (nI a), .int (nI b), .long v]) ++ List.replicate (6 - (lg_sl ([.ref r, .int (nI a), .int (nI b), .long v])).length) Slot.unset).toArray = ls at hl ⊢
  have hl : lv_has ls 6 [(0, .ref r), (1, .int (nI a)), (2, .int (nI b)), (3, .long v)] := hl
  refine lv_aload_n hx hb dJ7_fill_bad5a_0 rfl (lv_at hl 0 rfl) ?_
  refine va_alen (v := nI N) hx hb hK hP 0 0 rfl rfl rfl dJ7_fill_bad5a_1 ?_
  refine lv_iload_n hx hb dJ7_fill_bad5a_2 rfl (lv_at hl 1 rfl) ?_
  refine lv_iload_n hx hb dJ7_fill_bad5a_3 rfl (lv_at hl 2 rfl) ?_
  have hPc := hP.sub (ws' := []) [] rfl
  have hDc := hD.sub (ws' := []) [] (by decide) rfl
  have hKc := hK.sub (tys' := []) [] rfl
  have hFc := va_free (wc := []) hD hS hA [] rfl
  refine va_callv (va_runS (As := [.int (nI N), .int (nI a), .int (nI b)]) (rest := []) ⟨hx, hb, hml, hown, hts⟩ (c_range l dC dI N a b s.heap.size hab hbN hN) (va_cwS 3 hts g_c_fillLp_c_range_4 rfl rfl rfl (by decide +kernel) ⟨Nat.le_of_ble_eq_true rfl, Nat.le_of_ble_eq_true rfl⟩) ⟨fun a U g mk q => by obtain ⟨q0, q1, qP, qK, qD⟩ := q; exact ⟨q0, q1, qP, va_K.moved (u := U) (U := U.calling g mk a) (Vm.Alike.refl U.vm) qK, qD⟩, fun U hU hW => ⟨rfl, by rw [hU], by rw [hU]; exact hPc, va_K.moved hW.alike hKc, hDc.weaken (fun _ _ _ _ => trivial)⟩⟩ rfl rfl hl.1 rfl (lv_room (Nat.le_of_ble_eq_true rfl)) dJ7_fill_bad5a_4 ⟨(show 0 + 0 ≤ 0 by omega), (show 0 + 0 ≤ 0 by omega)⟩) hS (fun q _ h => hFc q h) hFc (fun u tS H1 locs ht hvm hw hB hz1 hk1 hS => ?_)
  obtain ⟨hP1, hK1, hD1⟩ := hB
  rw [ht] at hP1
  have hK1 := va_K.moved hvm.symm hK1
  obtain ⟨hP, hD⟩ := va_join (wr := [(r, .inl (kL, N, .inr (.inl f)))]) (w1 := []) hP hD [] [0] rfl rfl (by decide) (by decide) hk1 hFc hP1 hD1
  generalize H1 = H at hP hS ⊢
  have hP : va_P (dC, dI) vwCl [(r, .inl (kL, N, .inr (.inl f)))] H := hP
  have hD : va_D A [(r, .inl (kL, N, .inr (.inl f)))] := hD
  have hK : va_K (dC, dI) vwCl [(kL, .long)] s := hK
  refine lv_iload_n hx hb dJ7_fill_bad5a_7 rfl (lv_at hl 1 rfl) ?_
  refine lv_istore (lv' := [(5, .int (nI a)), (0, .ref r), (1, .int (nI a)), (2, .int (nI b)), (3, .long v)]) hx hb dJ7_fill_bad5a_8 hl (by decide) rfl (fun ls hl => ?_)
  refine W_q (fun Q1 hQ1 => ?_)
  have key1 : ∀ (n1 : Nat) (i : Nat) (g1 : Nat → Int64) (H : Heap) (locs : List Loc) (ls : Array Slot), (i + n1 = b + 1 ∧ i ≤ b ∧ a ≤ i) → (flL a i v f g1) → va_P (dC, dI) vwCl [(r, .inl (kL, N, .inr (.inl g1)))] H → va_D A [(r, .inl (kL, N, .inr (.inl g1)))] → va_S A s.heap H locs → lv_has ls 6 [(5, .int (nI i)), (0, .ref r), (1, .int (nI a)), (2, .int (nI b)), (3, .long v)] → W p l e (headSpec wp_c_fillLp ({ frames := 1, cells := 0, slots := 0, locals := 22 })).room s m ([.ref r, .int (nI a), .int (nI b), .long v] : List Value).toArray below meth c H locs 0 0 Q1 (F0 m 10 ls []) := by
    intro n1
    induction n1 with
    | zero => intro i g1 H locs ls hb0 hb1; exact absurd hb0 (by omega)
    | succ n1 ih1 =>
      intro i g1 H locs ls hb0 hb1 hP hD hS hl
      refine lv_iload hx hb dJ7_fill_bad5a_10 (lv_at hl 0 rfl) ?_
      refine lv_iload_n hx hb dJ7_fill_bad5a_12 rfl (lv_at hl 3 rfl) ?_
      refine lv_icmp_ge (tgt := 27) hx hb dJ7_fill_bad5a_13 (by decide) (fun hc => ?_) (fun hc => ?_)
      · have hi : i = b := by have := (nI_leI (a := b) (b := i) (by omega) (by omega)).mp hc; omega
        have hP9 := hP.sub (ws' := [(r, .inl (kL, N, .inr (.inl g1)))]) [0] rfl
        have hD9 := hD.sub (ws' := [(r, .inl (kL, N, .inr (.inl g1)))]) [0] (by decide) rfl
        have hK9 := hK.sub (tys' := [(kL, .long)]) [0] rfl
        subst hQ1
        exact W.vret hx hb hr (fun tS ht hW => ⟨⟨(), rfl, trivial, g1, by rw [← hi]; exact hb1, by rw [ht]; exact hP9, va_K.moved hW.alike hK9, hD9⟩, hS.F ht⟩) hS.2.2 dJ7_fill_bad5a_27
      · have hi : i < b := by rcases Nat.lt_or_ge i b with z | z; exact z; exact absurd (nI_le z (by omega)) hc
        refine lv_aload_n hx hb dJ7_fill_bad5a_16 rfl (lv_at hl 1 rfl) ?_
        refine lv_iload hx hb dJ7_fill_bad5a_17 (lv_at hl 0 rfl) ?_
        refine lv_lload_n hx hb dJ7_fill_bad5a_19 rfl (lv_at hl 4 rfl) ?_
        refine va_last hx hb hK hP hD hS 0 0 rfl rfl (vp_in_nI (by omega) (by omega)) dJ7_fill_bad5a_20 (fun H locs hP hD hS => ?_)
        have hP : va_P (dC, dI) vwCl [(r, .inl (kL, N, .inr (.inl (vp_updL g1 (nI i : Int32).toNatClampNeg v))))] H := hP
        have hD : va_D A [(r, .inl (kL, N, .inr (.inl (vp_updL g1 (nI i : Int32).toNatClampNeg v))))] := hD
        obtain ⟨g2, eg2⟩ : ∃ zZ : Nat → Int64, zZ = vp_updL g1 (nI i : Int32).toNatClampNeg v := ⟨_, rfl⟩
        rw [← eg2] at hP hD
        have hg2 : flL a (i + 1) v f g2 := by rw [eg2, nI_clamp (by omega)]; exact flL_step hb1 (by omega)
        obtain ⟨x_2, ex_2⟩ : ∃ yY : Int32, yY = (nI i) + 1 := ⟨_, rfl⟩
        refine lv_iinc (v := x_2) (lv' := [(5, .int x_2), (0, .ref r), (1, .int (nI a)), (2, .int (nI b)), (3, .long v)]) hx hb dJ7_fill_bad5a_21 hl (k := 0) rfl (by rw [ex_2]; rfl) (by decide) rfl (fun ls hl => ?_)
        obtain rfl : x_2 = nI (i + 1) := by rw [ex_2]; exact nI_1 i
        have hl : lv_has ls 6 [(5, .int (nI (i + 1))), (0, .ref r), (1, .int (nI a)), (2, .int (nI b)), (3, .long v)] := hl
        refine lv_goto (tgt := 10) hx hb dJ7_fill_bad5a_24 (by decide) ?_
        exact ih1 (i + 1) g2 _ _ _ (by omega) hg2 (hP.sub [0] rfl) (hD.sub [0] (by decide) rfl) hS (lv_sub hl [0, 1, 2, 3, 4] rfl)
  exact key1 (b + 1 - a) a f _ _ _ (by omega) (fun j => ⟨fun h => absurd h (by omega), fun _ => rfl⟩) (hP.sub [0] rfl) (hD.sub [0] (by decide) rfl) hS (lv_sub hl [0, 1, 2, 3, 4] rfl)
def wf_c_fillBp : List Cond := [.code yJ7_fill_eb02e cJ7_fill_eb02e 5 none, .code yJ7_rangeCheck_23922 cJ7_rangeCheck_23922 3 none, .methodLink RJ7 13 yJ7_rangeCheck_23922, .static yJ7_rangeCheck_23922, .initialized RJ7]
def wp_c_fillBp : List Cond := wf_c_fillBp ++ []
theorem wg_c_fillBp : wf_c_fillBp.all goodWord = true := by decide +kernel
theorem wm_c_fillBp (k : Nat) {w : Cond} (h : wp_c_fillBp[k]? = some w) : w ∈ wp_c_fillBp := List.mem_of_getElem? h
set_option maxRecDepth 20000 in
theorem g_c_fillBp_c_range_4 : GoodIn wp_c_fillBp (va_wsS RJ7 13 yJ7_rangeCheck_23922 wp_c_range) := goodIn_app (goodIn_f [.methodLink RJ7 13 yJ7_rangeCheck_23922, .static yJ7_rangeCheck_23922, .initialized RJ7] [2, 3, 4] rfl (by decide +kernel)) (goodIn_app (goodIn_f (wf_c_range) [1] rfl wg_c_range) (goodIn_n))
set_option maxHeartbeats 4000000 in
set_option maxRecDepth 100000 in
theorem c_fillBp (l : Launch) (dC : Nat → ClassId) (dI : Nat → Nat → Nat) (r N a b : Nat) (kB : ClassId) (f : Nat → Int32) (v : Int32) (sz : Nat) (hab : a ≤ b) (hbN : b ≤ N) (hN : N < 2 ^ 30) : Met l yJ7_fill_eb02e wp_c_fillBp ({ frames := 1, cells := 0, slots := 0, locals := 22 }) (va_Pc [.ref r, .int (nI a), .int (nI b), .int v] (fun U => U.heap.size = sz ∧ va_P (dC, dI) vwCl [(r, .inl (kB, N, .inl f))] U.heap ∧ va_K (dC, dI) vwCl [(kB, .byte)] U ∧ va_D (fun _ => True) [(r, .inl (kB, N, .inl f))])) (va_Qv (fun _ : Unit => True) (fun (_ : Unit) (tS : State) => ∃ (g : Nat → Int32), (flI a b (vp_nar .byte v) f g) ∧ va_P (dC, dI) vwCl [(r, .inl (kB, N, .inl g))] tS.heap ∧ va_K (dC, dI) vwCl [(kB, .byte)] tS ∧ va_D (va_A [(r, .inl (kB, N, .inl f))] sz) [(r, .inl (kB, N, .inl g))]) (va_A [(r, .inl (kB, N, .inl f))] sz)) 0 0 (va_A [(r, .inl (kB, N, .inl f))] sz) := by
  refine Met.ofW (cc := cJ7_fill_eb02e) (maxL := 5) (ret := none) (by decide) rfl ?_
  intro p e s m args below meth c s₁ B hml hv
  obtain ⟨rfl, hsz, hP, hK, hD0⟩ := hv
  have hx := B.exec
  have hb := B.bytes
  have hr := B.returns
  have hts := atoms_spec (ws := wp_c_fillBp) B.pre
  have hown : s.vm.findClass RJ7 = some m.cls := findClass_of_methodNamed B.named
  have hlocks := B.notSynchronized
  subst hsz
  have hD := hD0.self (sz := s.heap.size)
  generalize hAe : va_A [(r, .inl (kB, N, .inl f))] s.heap.size = A at hD ⊢
  have hA : ∀ q : Nat, s.heap.size ≤ q → A q := fun q h => by rw [← hAe]; exact Or.inr h
  have hS : va_S A s.heap s.heap [] := va_S.rf
  have hP : va_P (dC, dI) vwCl [(r, .inl (kB, N, .inl f))] s.heap := hP
  have hl := lv_entry ([.ref r, .int (nI a), .int (nI b), .int v]) (n := 5) (Nat.le_of_ble_eq_true rfl)
  rw [lg_entry_eq]
  generalize (lg_sl ([.ref r, .int (nI a), .int (nI b), .int v]) ++ List.replicate (5 - (lg_sl ([.ref r, .int (nI a), .int (nI b), .int v])).length) Slot.unset).toArray = ls at hl ⊢
  have hl : lv_has ls 5 [(0, .ref r), (1, .int (nI a)), (2, .int (nI b)), (3, .int v)] := hl
  refine lv_aload_n hx hb dJ7_fill_eb02e_0 rfl (lv_at hl 0 rfl) ?_
  refine va_alen (v := nI N) hx hb hK hP 0 0 rfl rfl rfl dJ7_fill_eb02e_1 ?_
  refine lv_iload_n hx hb dJ7_fill_eb02e_2 rfl (lv_at hl 1 rfl) ?_
  refine lv_iload_n hx hb dJ7_fill_eb02e_3 rfl (lv_at hl 2 rfl) ?_
  have hPc := hP.sub (ws' := []) [] rfl
  have hDc := hD.sub (ws' := []) [] (by decide) rfl
  have hKc := hK.sub (tys' := []) [] rfl
  have hFc := va_free (wc := []) hD hS hA [] rfl
  refine va_callv (va_runS (As := [.int (nI N), .int (nI a), .int (nI b)]) (rest := []) ⟨hx, hb, hml, hown, hts⟩ (c_range l dC dI N a b s.heap.size hab hbN hN) (va_cwS 3 hts g_c_fillBp_c_range_4 rfl rfl rfl (by decide +kernel) ⟨Nat.le_of_ble_eq_true rfl, Nat.le_of_ble_eq_true rfl⟩) ⟨fun a U g mk q => by obtain ⟨q0, q1, qP, qK, qD⟩ := q; exact ⟨q0, q1, qP, va_K.moved (u := U) (U := U.calling g mk a) (Vm.Alike.refl U.vm) qK, qD⟩, fun U hU hW => ⟨rfl, by rw [hU], by rw [hU]; exact hPc, va_K.moved hW.alike hKc, hDc.weaken (fun _ _ _ _ => trivial)⟩⟩ rfl rfl hl.1 rfl (lv_room (Nat.le_of_ble_eq_true rfl)) dJ7_fill_eb02e_4 ⟨(show 0 + 0 ≤ 0 by omega), (show 0 + 0 ≤ 0 by omega)⟩) hS (fun q _ h => hFc q h) hFc (fun u tS H1 locs ht hvm hw hB hz1 hk1 hS => ?_)
  obtain ⟨hP1, hK1, hD1⟩ := hB
  rw [ht] at hP1
  have hK1 := va_K.moved hvm.symm hK1
  obtain ⟨hP, hD⟩ := va_join (wr := [(r, .inl (kB, N, .inl f))]) (w1 := []) hP hD [] [0] rfl rfl (by decide) (by decide) hk1 hFc hP1 hD1
  generalize H1 = H at hP hS ⊢
  have hP : va_P (dC, dI) vwCl [(r, .inl (kB, N, .inl f))] H := hP
  have hD : va_D A [(r, .inl (kB, N, .inl f))] := hD
  have hK : va_K (dC, dI) vwCl [(kB, .byte)] s := hK
  refine lv_iload_n hx hb dJ7_fill_eb02e_7 rfl (lv_at hl 1 rfl) ?_
  refine lv_istore (lv' := [(4, .int (nI a)), (0, .ref r), (1, .int (nI a)), (2, .int (nI b)), (3, .int v)]) hx hb dJ7_fill_eb02e_8 hl (by decide) rfl (fun ls hl => ?_)
  refine W_q (fun Q1 hQ1 => ?_)
  have key1 : ∀ (n1 : Nat) (i : Nat) (g1 : Nat → Int32) (H : Heap) (locs : List Loc) (ls : Array Slot), (i + n1 = b + 1 ∧ i ≤ b ∧ a ≤ i) → (flI a i (vp_nar .byte v) f g1) → va_P (dC, dI) vwCl [(r, .inl (kB, N, .inl g1))] H → va_D A [(r, .inl (kB, N, .inl g1))] → va_S A s.heap H locs → lv_has ls 5 [(4, .int (nI i)), (0, .ref r), (1, .int (nI a)), (2, .int (nI b)), (3, .int v)] → W p l e (headSpec wp_c_fillBp ({ frames := 1, cells := 0, slots := 0, locals := 22 })).room s m ([.ref r, .int (nI a), .int (nI b), .int v] : List Value).toArray below meth c H locs 0 0 Q1 (F0 m 10 ls []) := by
    intro n1
    induction n1 with
    | zero => intro i g1 H locs ls hb0 hb1; exact absurd hb0 (by omega)
    | succ n1 ih1 =>
      intro i g1 H locs ls hb0 hb1 hP hD hS hl
      refine lv_iload hx hb dJ7_fill_eb02e_10 (lv_at hl 0 rfl) ?_
      refine lv_iload_n hx hb dJ7_fill_eb02e_12 rfl (lv_at hl 3 rfl) ?_
      refine lv_icmp_ge (tgt := 27) hx hb dJ7_fill_eb02e_13 (by decide) (fun hc => ?_) (fun hc => ?_)
      · have hi : i = b := by have := (nI_leI (a := b) (b := i) (by omega) (by omega)).mp hc; omega
        have hP9 := hP.sub (ws' := [(r, .inl (kB, N, .inl g1))]) [0] rfl
        have hD9 := hD.sub (ws' := [(r, .inl (kB, N, .inl g1))]) [0] (by decide) rfl
        have hK9 := hK.sub (tys' := [(kB, .byte)]) [0] rfl
        subst hQ1
        exact W.vret hx hb hr (fun tS ht hW => ⟨⟨(), rfl, trivial, g1, by rw [← hi]; exact hb1, by rw [ht]; exact hP9, va_K.moved hW.alike hK9, hD9⟩, hS.F ht⟩) hS.2.2 dJ7_fill_eb02e_27
      · have hi : i < b := by rcases Nat.lt_or_ge i b with z | z; exact z; exact absurd (nI_le z (by omega)) hc
        refine lv_aload_n hx hb dJ7_fill_eb02e_16 rfl (lv_at hl 1 rfl) ?_
        refine lv_iload hx hb dJ7_fill_eb02e_17 (lv_at hl 0 rfl) ?_
        refine lv_iload_n hx hb dJ7_fill_eb02e_19 rfl (lv_at hl 4 rfl) ?_
        refine va_bast hx hb hK hP hD hS 0 0 rfl rfl (vp_in_nI (by omega) (by omega)) dJ7_fill_eb02e_20 (fun H locs hP hD hS => ?_)
        have hP : va_P (dC, dI) vwCl [(r, .inl (kB, N, .inl (upd g1 (nI i : Int32).toNatClampNeg (vp_nar .byte v))))] H := hP
        have hD : va_D A [(r, .inl (kB, N, .inl (upd g1 (nI i : Int32).toNatClampNeg (vp_nar .byte v))))] := hD
        obtain ⟨g2, eg2⟩ : ∃ zZ : Nat → Int32, zZ = upd g1 (nI i : Int32).toNatClampNeg (vp_nar .byte v) := ⟨_, rfl⟩
        rw [← eg2] at hP hD
        have hg2 : flI a (i + 1) (vp_nar .byte v) f g2 := by rw [eg2, nI_clamp (by omega)]; exact flI_step hb1 (by omega)
        obtain ⟨x_2, ex_2⟩ : ∃ yY : Int32, yY = (nI i) + 1 := ⟨_, rfl⟩
        refine lv_iinc (v := x_2) (lv' := [(4, .int x_2), (0, .ref r), (1, .int (nI a)), (2, .int (nI b)), (3, .int v)]) hx hb dJ7_fill_eb02e_21 hl (k := 0) rfl (by rw [ex_2]; rfl) (by decide) rfl (fun ls hl => ?_)
        obtain rfl : x_2 = nI (i + 1) := by rw [ex_2]; exact nI_1 i
        have hl : lv_has ls 5 [(4, .int (nI (i + 1))), (0, .ref r), (1, .int (nI a)), (2, .int (nI b)), (3, .int v)] := hl
        refine lv_goto (tgt := 10) hx hb dJ7_fill_eb02e_24 (by decide) ?_
        exact ih1 (i + 1) g2 _ _ _ (by omega) hg2 (hP.sub [0] rfl) (hD.sub [0] (by decide) rfl) hS (lv_sub hl [0, 1, 2, 3, 4] rfl)
  exact key1 (b + 1 - a) a f _ _ _ (by omega) (fun j => ⟨fun h => absurd h (by omega), fun _ => rfl⟩) (hP.sub [0] rfl) (hD.sub [0] (by decide) rfl) hS (lv_sub hl [0, 1, 2, 3, 4] rfl)
end
-- 99y.fill.lean.txt
section
def wf_c_fillIw : List Cond := [.code yJ7_fill_53178 cJ7_fill_53178 4 none]
def wp_c_fillIw : List Cond := wf_c_fillIw ++ []
theorem wg_c_fillIw : wf_c_fillIw.all goodWord = true := by decide +kernel
theorem wm_c_fillIw (k : Nat) {w : Cond} (h : wp_c_fillIw[k]? = some w) : w ∈ wp_c_fillIw := List.mem_of_getElem? h
set_option maxHeartbeats 4000000 in
set_option maxRecDepth 100000 in
theorem c_fillIw (l : Launch) (dC : Nat → ClassId) (dI : Nat → Nat → Nat) (r N : Nat) (kI : ClassId) (f : Nat → Int32) (v : Int32) (sz : Nat) (hN : N < 2 ^ 30) : Met l yJ7_fill_53178 wp_c_fillIw ({ frames := 0, cells := 0, slots := 0, locals := 0 }) (va_Pc [.ref r, .int v] (fun U => U.heap.size = sz ∧ va_P (dC, dI) vwCl [(r, .inl (kI, N, .inl f))] U.heap ∧ va_K (dC, dI) vwCl [(kI, .int)] U ∧ va_D (fun _ => True) [(r, .inl (kI, N, .inl f))])) (va_Qv (fun _ : Unit => True) (fun (_ : Unit) (tS : State) => ∃ (g : Nat → Int32), (flI 0 N v f g) ∧ va_P (dC, dI) vwCl [(r, .inl (kI, N, .inl g))] tS.heap ∧ va_K (dC, dI) vwCl [(kI, .int)] tS ∧ va_D (va_A [(r, .inl (kI, N, .inl f))] sz) [(r, .inl (kI, N, .inl g))]) (va_A [(r, .inl (kI, N, .inl f))] sz)) 0 0 (va_A [(r, .inl (kI, N, .inl f))] sz) := by
  refine Met.ofW (cc := cJ7_fill_53178) (maxL := 4) (ret := none) (by decide) rfl ?_
  intro p e s m args below meth c s₁ B hml hv
  obtain ⟨rfl, hsz, hP, hK, hD0⟩ := hv
  have hx := B.exec
  have hb := B.bytes
  have hr := B.returns
  have hts := atoms_spec (ws := wp_c_fillIw) B.pre
  have hown : s.vm.findClass RJ7 = some m.cls := findClass_of_methodNamed B.named
  have hlocks := B.notSynchronized
  subst hsz
  have hD := hD0.self (sz := s.heap.size)
  generalize hAe : va_A [(r, .inl (kI, N, .inl f))] s.heap.size = A at hD ⊢
  have hA : ∀ q : Nat, s.heap.size ≤ q → A q := fun q h => by rw [← hAe]; exact Or.inr h
  have hS : va_S A s.heap s.heap [] := va_S.rf
  have hP : va_P (dC, dI) vwCl [(r, .inl (kI, N, .inl f))] s.heap := hP
  have hl := lv_entry ([.ref r, .int v]) (n := 4) (Nat.le_of_ble_eq_true rfl)
  rw [lg_entry_eq]
  generalize (lg_sl ([.ref r, .int v]) ++ List.replicate (4 - (lg_sl ([.ref r, .int v])).length) Slot.unset).toArray = ls at hl ⊢
  have hl : lv_has ls 4 [(0, .ref r), (1, .int v)] := hl
  refine lv_iconst (v := 0) hx hb dJ7_fill_53178_0 (by decide) ?_
  refine lv_istore_n (lv' := [(2, .int 0), (0, .ref r), (1, .int v)]) hx hb dJ7_fill_53178_1 rfl hl (by decide) rfl (fun ls hl => ?_)
  refine lv_aload_n hx hb dJ7_fill_53178_2 rfl (lv_at hl 1 rfl) ?_
  refine va_alen (v := nI N) hx hb hK hP 0 0 rfl rfl rfl dJ7_fill_53178_3 ?_
  refine lv_istore_n (lv' := [(3, .int (nI N)), (2, .int 0), (0, .ref r), (1, .int v)]) hx hb dJ7_fill_53178_4 rfl hl (by decide) rfl (fun ls hl => ?_)
  have hl : lv_has ls 4 [(3, .int (nI N)), (2, .int (nI 0)), (0, .ref r), (1, .int v)] := hl
  refine W_q (fun Q1 hQ1 => ?_)
  have key1 : ∀ (n1 : Nat) (i : Nat) (g1 : Nat → Int32) (H : Heap) (locs : List Loc) (ls : Array Slot), (i + n1 = N + 1 ∧ i ≤ N ∧ 0 ≤ i) → (flI 0 i v f g1) → va_P (dC, dI) vwCl [(r, .inl (kI, N, .inl g1))] H → va_D A [(r, .inl (kI, N, .inl g1))] → va_S A s.heap H locs → lv_has ls 4 [(3, .int (nI N)), (2, .int (nI i)), (0, .ref r), (1, .int v)] → W p l e (headSpec wp_c_fillIw ({ frames := 0, cells := 0, slots := 0, locals := 0 })).room s m ([.ref r, .int v] : List Value).toArray below meth c H locs 0 0 Q1 (F0 m 5 ls []) := by
    intro n1
    induction n1 with
    | zero => intro i g1 H locs ls hb0 hb1; exact absurd hb0 (by omega)
    | succ n1 ih1 =>
      intro i g1 H locs ls hb0 hb1 hP hD hS hl
      refine lv_iload_n hx hb dJ7_fill_53178_5 rfl (lv_at hl 1 rfl) ?_
      refine lv_iload_n hx hb dJ7_fill_53178_6 rfl (lv_at hl 0 rfl) ?_
      refine lv_icmp_ge (tgt := 20) hx hb dJ7_fill_53178_7 (by decide) (fun hc => ?_) (fun hc => ?_)
      · have hi : i = N := by have := (nI_leI (a := N) (b := i) (by omega) (by omega)).mp hc; omega
        have hP9 := hP.sub (ws' := [(r, .inl (kI, N, .inl g1))]) [0] rfl
        have hD9 := hD.sub (ws' := [(r, .inl (kI, N, .inl g1))]) [0] (by decide) rfl
        have hK9 := hK.sub (tys' := [(kI, .int)]) [0] rfl
        subst hQ1
        exact W.vret hx hb hr (fun tS ht hW => ⟨⟨(), rfl, trivial, g1, by rw [← hi]; exact hb1, by rw [ht]; exact hP9, va_K.moved hW.alike hK9, hD9⟩, hS.F ht⟩) hS.2.2 dJ7_fill_53178_20
      · have hi : i < N := by rcases Nat.lt_or_ge i N with z | z; exact z; exact absurd (nI_le z (by omega)) hc
        refine lv_aload_n hx hb dJ7_fill_53178_10 rfl (lv_at hl 2 rfl) ?_
        refine lv_iload_n hx hb dJ7_fill_53178_11 rfl (lv_at hl 1 rfl) ?_
        refine lv_iload_n hx hb dJ7_fill_53178_12 rfl (lv_at hl 3 rfl) ?_
        refine va_iast hx hb hK hP hD hS 0 0 rfl rfl (vp_in_nI (by omega) (by omega)) dJ7_fill_53178_13 (fun H locs hP hD hS => ?_)
        have hP : va_P (dC, dI) vwCl [(r, .inl (kI, N, .inl (upd g1 (nI i : Int32).toNatClampNeg v)))] H := hP
        have hD : va_D A [(r, .inl (kI, N, .inl (upd g1 (nI i : Int32).toNatClampNeg v)))] := hD
        obtain ⟨g2, eg2⟩ : ∃ zZ : Nat → Int32, zZ = upd g1 (nI i : Int32).toNatClampNeg v := ⟨_, rfl⟩
        rw [← eg2] at hP hD
        have hg2 : flI 0 (i + 1) v f g2 := by rw [eg2, nI_clamp (by omega)]; exact flI_step hb1 (by omega)
        obtain ⟨x_1, ex_1⟩ : ∃ yY : Int32, yY = (nI i) + 1 := ⟨_, rfl⟩
        refine lv_iinc (v := x_1) (lv' := [(2, .int x_1), (3, .int (nI N)), (0, .ref r), (1, .int v)]) hx hb dJ7_fill_53178_14 hl (k := 1) rfl (by rw [ex_1]; rfl) (by decide) rfl (fun ls hl => ?_)
        obtain rfl : x_1 = nI (i + 1) := by rw [ex_1]; exact nI_1 i
        have hl : lv_has ls 4 [(2, .int (nI (i + 1))), (3, .int (nI N)), (0, .ref r), (1, .int v)] := hl
        refine lv_goto (tgt := 5) hx hb dJ7_fill_53178_17 (by decide) ?_
        exact ih1 (i + 1) g2 _ _ _ (by omega) hg2 (hP.sub [0] rfl) (hD.sub [0] (by decide) rfl) hS (lv_sub hl [1, 0, 2, 3] rfl)
  exact key1 (N + 1 - 0) 0 f _ _ _ (by omega) (fun j => ⟨fun h => absurd h (by omega), fun _ => rfl⟩) (hP.sub [0] rfl) (hD.sub [0] (by decide) rfl) hS (lv_sub hl [0, 1, 2, 3] rfl)
def wf_c_fillLw : List Cond := [.code yJ7_fill_d0a16 cJ7_fill_d0a16 5 none]
def wp_c_fillLw : List Cond := wf_c_fillLw ++ []
theorem wg_c_fillLw : wf_c_fillLw.all goodWord = true := by decide +kernel
theorem wm_c_fillLw (k : Nat) {w : Cond} (h : wp_c_fillLw[k]? = some w) : w ∈ wp_c_fillLw := List.mem_of_getElem? h
set_option maxHeartbeats 4000000 in
set_option maxRecDepth 100000 in
theorem c_fillLw (l : Launch) (dC : Nat → ClassId) (dI : Nat → Nat → Nat) (r N : Nat) (kL : ClassId) (f : Nat → Int64) (v : Int64) (sz : Nat) (hN : N < 2 ^ 30) : Met l yJ7_fill_d0a16 wp_c_fillLw ({ frames := 0, cells := 0, slots := 0, locals := 0 }) (va_Pc [.ref r, .long v] (fun U => U.heap.size = sz ∧ va_P (dC, dI) vwCl [(r, .inl (kL, N, .inr (.inl f)))] U.heap ∧ va_K (dC, dI) vwCl [(kL, .long)] U ∧ va_D (fun _ => True) [(r, .inl (kL, N, .inr (.inl f)))])) (va_Qv (fun _ : Unit => True) (fun (_ : Unit) (tS : State) => ∃ (g : Nat → Int64), (flL 0 N v f g) ∧ va_P (dC, dI) vwCl [(r, .inl (kL, N, .inr (.inl g)))] tS.heap ∧ va_K (dC, dI) vwCl [(kL, .long)] tS ∧ va_D (va_A [(r, .inl (kL, N, .inr (.inl f)))] sz) [(r, .inl (kL, N, .inr (.inl g)))]) (va_A [(r, .inl (kL, N, .inr (.inl f)))] sz)) 0 0 (va_A [(r, .inl (kL, N, .inr (.inl f)))] sz) := by
  refine Met.ofW (cc := cJ7_fill_d0a16) (maxL := 5) (ret := none) (by decide) rfl ?_
  intro p e s m args below meth c s₁ B hml hv
  obtain ⟨rfl, hsz, hP, hK, hD0⟩ := hv
  have hx := B.exec
  have hb := B.bytes
  have hr := B.returns
  have hts := atoms_spec (ws := wp_c_fillLw) B.pre
  have hown : s.vm.findClass RJ7 = some m.cls := findClass_of_methodNamed B.named
  have hlocks := B.notSynchronized
  subst hsz
  have hD := hD0.self (sz := s.heap.size)
  generalize hAe : va_A [(r, .inl (kL, N, .inr (.inl f)))] s.heap.size = A at hD ⊢
  have hA : ∀ q : Nat, s.heap.size ≤ q → A q := fun q h => by rw [← hAe]; exact Or.inr h
  have hS : va_S A s.heap s.heap [] := va_S.rf
  have hP : va_P (dC, dI) vwCl [(r, .inl (kL, N, .inr (.inl f)))] s.heap := hP
  have hl := lv_entry ([.ref r, .long v]) (n := 5) (Nat.le_of_ble_eq_true rfl)
  rw [lg_entry_eq]
  generalize (lg_sl ([.ref r, .long v]) ++ List.replicate (5 - (lg_sl ([.ref r, .long v])).length) Slot.unset).toArray = ls at hl ⊢
  have hl : lv_has ls 5 [(0, .ref r), (1, .long v)] := hl
  refine lv_iconst (v := 0) hx hb dJ7_fill_d0a16_0 (by decide) ?_
  refine lv_istore_n (lv' := [(3, .int 0), (0, .ref r), (1, .long v)]) hx hb dJ7_fill_d0a16_1 rfl hl (by decide) rfl (fun ls hl => ?_)
  refine lv_aload_n hx hb dJ7_fill_d0a16_2 rfl (lv_at hl 1 rfl) ?_
  refine va_alen (v := nI N) hx hb hK hP 0 0 rfl rfl rfl dJ7_fill_d0a16_3 ?_
  refine lv_istore (lv' := [(4, .int (nI N)), (3, .int 0), (0, .ref r), (1, .long v)]) hx hb dJ7_fill_d0a16_4 hl (by decide) rfl (fun ls hl => ?_)
  have hl : lv_has ls 5 [(4, .int (nI N)), (3, .int (nI 0)), (0, .ref r), (1, .long v)] := hl
  refine W_q (fun Q1 hQ1 => ?_)
  have key1 : ∀ (n1 : Nat) (i : Nat) (g1 : Nat → Int64) (H : Heap) (locs : List Loc) (ls : Array Slot), (i + n1 = N + 1 ∧ i ≤ N ∧ 0 ≤ i) → (flL 0 i v f g1) → va_P (dC, dI) vwCl [(r, .inl (kL, N, .inr (.inl g1)))] H → va_D A [(r, .inl (kL, N, .inr (.inl g1)))] → va_S A s.heap H locs → lv_has ls 5 [(4, .int (nI N)), (3, .int (nI i)), (0, .ref r), (1, .long v)] → W p l e (headSpec wp_c_fillLw ({ frames := 0, cells := 0, slots := 0, locals := 0 })).room s m ([.ref r, .long v] : List Value).toArray below meth c H locs 0 0 Q1 (F0 m 6 ls []) := by
    intro n1
    induction n1 with
    | zero => intro i g1 H locs ls hb0 hb1; exact absurd hb0 (by omega)
    | succ n1 ih1 =>
      intro i g1 H locs ls hb0 hb1 hP hD hS hl
      refine lv_iload_n hx hb dJ7_fill_d0a16_6 rfl (lv_at hl 1 rfl) ?_
      refine lv_iload hx hb dJ7_fill_d0a16_7 (lv_at hl 0 rfl) ?_
      refine lv_icmp_ge (tgt := 22) hx hb dJ7_fill_d0a16_9 (by decide) (fun hc => ?_) (fun hc => ?_)
      · have hi : i = N := by have := (nI_leI (a := N) (b := i) (by omega) (by omega)).mp hc; omega
        have hP9 := hP.sub (ws' := [(r, .inl (kL, N, .inr (.inl g1)))]) [0] rfl
        have hD9 := hD.sub (ws' := [(r, .inl (kL, N, .inr (.inl g1)))]) [0] (by decide) rfl
        have hK9 := hK.sub (tys' := [(kL, .long)]) [0] rfl
        subst hQ1
        exact W.vret hx hb hr (fun tS ht hW => ⟨⟨(), rfl, trivial, g1, by rw [← hi]; exact hb1, by rw [ht]; exact hP9, va_K.moved hW.alike hK9, hD9⟩, hS.F ht⟩) hS.2.2 dJ7_fill_d0a16_22
      · have hi : i < N := by rcases Nat.lt_or_ge i N with z | z; exact z; exact absurd (nI_le z (by omega)) hc
        refine lv_aload_n hx hb dJ7_fill_d0a16_12 rfl (lv_at hl 2 rfl) ?_
        refine lv_iload_n hx hb dJ7_fill_d0a16_13 rfl (lv_at hl 1 rfl) ?_
        refine lv_lload_n hx hb dJ7_fill_d0a16_14 rfl (lv_at hl 3 rfl) ?_
        refine va_last hx hb hK hP hD hS 0 0 rfl rfl (vp_in_nI (by omega) (by omega)) dJ7_fill_d0a16_15 (fun H locs hP hD hS => ?_)
        have hP : va_P (dC, dI) vwCl [(r, .inl (kL, N, .inr (.inl (vp_updL g1 (nI i : Int32).toNatClampNeg v))))] H := hP
        have hD : va_D A [(r, .inl (kL, N, .inr (.inl (vp_updL g1 (nI i : Int32).toNatClampNeg v))))] := hD
        obtain ⟨g2, eg2⟩ : ∃ zZ : Nat → Int64, zZ = vp_updL g1 (nI i : Int32).toNatClampNeg v := ⟨_, rfl⟩
        rw [← eg2] at hP hD
        have hg2 : flL 0 (i + 1) v f g2 := by rw [eg2, nI_clamp (by omega)]; exact flL_step hb1 (by omega)
        obtain ⟨x_1, ex_1⟩ : ∃ yY : Int32, yY = (nI i) + 1 := ⟨_, rfl⟩
        refine lv_iinc (v := x_1) (lv' := [(3, .int x_1), (4, .int (nI N)), (0, .ref r), (1, .long v)]) hx hb dJ7_fill_d0a16_16 hl (k := 1) rfl (by rw [ex_1]; rfl) (by decide) rfl (fun ls hl => ?_)
        obtain rfl : x_1 = nI (i + 1) := by rw [ex_1]; exact nI_1 i
        have hl : lv_has ls 5 [(3, .int (nI (i + 1))), (4, .int (nI N)), (0, .ref r), (1, .long v)] := hl
        refine lv_goto (tgt := 6) hx hb dJ7_fill_d0a16_19 (by decide) ?_
        exact ih1 (i + 1) g2 _ _ _ (by omega) hg2 (hP.sub [0] rfl) (hD.sub [0] (by decide) rfl) hS (lv_sub hl [1, 0, 2, 3] rfl)
  exact key1 (N + 1 - 0) 0 f _ _ _ (by omega) (fun j => ⟨fun h => absurd h (by omega), fun _ => rfl⟩) (hP.sub [0] rfl) (hD.sub [0] (by decide) rfl) hS (lv_sub hl [0, 1, 2, 3] rfl)
def wf_c_fillBw : List Cond := [.code yJ7_fill_031fb cJ7_fill_031fb 4 none]
def wp_c_fillBw : List Cond := wf_c_fillBw ++ []
theorem wg_c_fillBw : wf_c_fillBw.all goodWord = true := by decide +kernel
theorem wm_c_fillBw (k : Nat) {w : Cond} (h : wp_c_fillBw[k]? = some w) : w ∈ wp_c_fillBw := List.mem_of_getElem? h
set_option maxHeartbeats 4000000 in
set_option maxRecDepth 100000 in
theorem c_fillBw (l : Launch) (dC : Nat → ClassId) (dI : Nat → Nat → Nat) (r N : Nat) (kB : ClassId) (f : Nat → Int32) (v : Int32) (sz : Nat) (hN : N < 2 ^ 30) : Met l yJ7_fill_031fb wp_c_fillBw ({ frames := 0, cells := 0, slots := 0, locals := 0 }) (va_Pc [.ref r, .int v] (fun U => U.heap.size = sz ∧ va_P (dC, dI) vwCl [(r, .inl (kB, N, .inl f))] U.heap ∧ va_K (dC, dI) vwCl [(kB, .byte)] U ∧ va_D (fun _ => True) [(r, .inl (kB, N, .inl f))])) (va_Qv (fun _ : Unit => True) (fun (_ : Unit) (tS : State) => ∃ (g : Nat → Int32), (flI 0 N (vp_nar .byte v) f g) ∧ va_P (dC, dI) vwCl [(r, .inl (kB, N, .inl g))] tS.heap ∧ va_K (dC, dI) vwCl [(kB, .byte)] tS ∧ va_D (va_A [(r, .inl (kB, N, .inl f))] sz) [(r, .inl (kB, N, .inl g))]) (va_A [(r, .inl (kB, N, .inl f))] sz)) 0 0 (va_A [(r, .inl (kB, N, .inl f))] sz) := by
  refine Met.ofW (cc := cJ7_fill_031fb) (maxL := 4) (ret := none) (by decide) rfl ?_
  intro p e s m args below meth c s₁ B hml hv
  obtain ⟨rfl, hsz, hP, hK, hD0⟩ := hv
  have hx := B.exec
  have hb := B.bytes
  have hr := B.returns
  have hts := atoms_spec (ws := wp_c_fillBw) B.pre
  have hown : s.vm.findClass RJ7 = some m.cls := findClass_of_methodNamed B.named
  have hlocks := B.notSynchronized
  subst hsz
  have hD := hD0.self (sz := s.heap.size)
  generalize hAe : va_A [(r, .inl (kB, N, .inl f))] s.heap.size = A at hD ⊢
  have hA : ∀ q : Nat, s.heap.size ≤ q → A q := fun q h => by rw [← hAe]; exact Or.inr h
  have hS : va_S A s.heap s.heap [] := va_S.rf
  have hP : va_P (dC, dI) vwCl [(r, .inl (kB, N, .inl f))] s.heap := hP
  have hl := lv_entry ([.ref r, .int v]) (n := 4) (Nat.le_of_ble_eq_true rfl)
  rw [lg_entry_eq]
  generalize (lg_sl ([.ref r, .int v]) ++ List.replicate (4 - (lg_sl ([.ref r, .int v])).length) Slot.unset).toArray = ls at hl ⊢
  have hl : lv_has ls 4 [(0, .ref r), (1, .int v)] := hl
  refine lv_iconst (v := 0) hx hb dJ7_fill_031fb_0 (by decide) ?_
  refine lv_istore_n (lv' := [(2, .int 0), (0, .ref r), (1, .int v)]) hx hb dJ7_fill_031fb_1 rfl hl (by decide) rfl (fun ls hl => ?_)
  refine lv_aload_n hx hb dJ7_fill_031fb_2 rfl (lv_at hl 1 rfl) ?_
  refine va_alen (v := nI N) hx hb hK hP 0 0 rfl rfl rfl dJ7_fill_031fb_3 ?_
  refine lv_istore_n (lv' := [(3, .int (nI N)), (2, .int 0), (0, .ref r), (1, .int v)]) hx hb dJ7_fill_031fb_4 rfl hl (by decide) rfl (fun ls hl => ?_)
  have hl : lv_has ls 4 [(3, .int (nI N)), (2, .int (nI 0)), (0, .ref r), (1, .int v)] := hl
  refine W_q (fun Q1 hQ1 => ?_)
  have key1 : ∀ (n1 : Nat) (i : Nat) (g1 : Nat → Int32) (H : Heap) (locs : List Loc) (ls : Array Slot), (i + n1 = N + 1 ∧ i ≤ N ∧ 0 ≤ i) → (flI 0 i (vp_nar .byte v) f g1) → va_P (dC, dI) vwCl [(r, .inl (kB, N, .inl g1))] H → va_D A [(r, .inl (kB, N, .inl g1))] → va_S A s.heap H locs → lv_has ls 4 [(3, .int (nI N)), (2, .int (nI i)), (0, .ref r), (1, .int v)] → W p l e (headSpec wp_c_fillBw ({ frames := 0, cells := 0, slots := 0, locals := 0 })).room s m ([.ref r, .int v] : List Value).toArray below meth c H locs 0 0 Q1 (F0 m 5 ls []) := by
    intro n1
    induction n1 with
    | zero => intro i g1 H locs ls hb0 hb1; exact absurd hb0 (by omega)
    | succ n1 ih1 =>
      intro i g1 H locs ls hb0 hb1 hP hD hS hl
      refine lv_iload_n hx hb dJ7_fill_031fb_5 rfl (lv_at hl 1 rfl) ?_
      refine lv_iload_n hx hb dJ7_fill_031fb_6 rfl (lv_at hl 0 rfl) ?_
      refine lv_icmp_ge (tgt := 20) hx hb dJ7_fill_031fb_7 (by decide) (fun hc => ?_) (fun hc => ?_)
      · have hi : i = N := by have := (nI_leI (a := N) (b := i) (by omega) (by omega)).mp hc; omega
        have hP9 := hP.sub (ws' := [(r, .inl (kB, N, .inl g1))]) [0] rfl
        have hD9 := hD.sub (ws' := [(r, .inl (kB, N, .inl g1))]) [0] (by decide) rfl
        have hK9 := hK.sub (tys' := [(kB, .byte)]) [0] rfl
        subst hQ1
        exact W.vret hx hb hr (fun tS ht hW => ⟨⟨(), rfl, trivial, g1, by rw [← hi]; exact hb1, by rw [ht]; exact hP9, va_K.moved hW.alike hK9, hD9⟩, hS.F ht⟩) hS.2.2 dJ7_fill_031fb_20
      · have hi : i < N := by rcases Nat.lt_or_ge i N with z | z; exact z; exact absurd (nI_le z (by omega)) hc
        refine lv_aload_n hx hb dJ7_fill_031fb_10 rfl (lv_at hl 2 rfl) ?_
        refine lv_iload_n hx hb dJ7_fill_031fb_11 rfl (lv_at hl 1 rfl) ?_
        refine lv_iload_n hx hb dJ7_fill_031fb_12 rfl (lv_at hl 3 rfl) ?_
        refine va_bast hx hb hK hP hD hS 0 0 rfl rfl (vp_in_nI (by omega) (by omega)) dJ7_fill_031fb_13 (fun H locs hP hD hS => ?_)
        have hP : va_P (dC, dI) vwCl [(r, .inl (kB, N, .inl (upd g1 (nI i : Int32).toNatClampNeg (vp_nar .byte v))))] H := hP
        have hD : va_D A [(r, .inl (kB, N, .inl (upd g1 (nI i : Int32).toNatClampNeg (vp_nar .byte v))))] := hD
        obtain ⟨g2, eg2⟩ : ∃ zZ : Nat → Int32, zZ = upd g1 (nI i : Int32).toNatClampNeg (vp_nar .byte v) := ⟨_, rfl⟩
        rw [← eg2] at hP hD
        have hg2 : flI 0 (i + 1) (vp_nar .byte v) f g2 := by rw [eg2, nI_clamp (by omega)]; exact flI_step hb1 (by omega)
        obtain ⟨x_1, ex_1⟩ : ∃ yY : Int32, yY = (nI i) + 1 := ⟨_, rfl⟩
        refine lv_iinc (v := x_1) (lv' := [(2, .int x_1), (3, .int (nI N)), (0, .ref r), (1, .int v)]) hx hb dJ7_fill_031fb_14 hl (k := 1) rfl (by rw [ex_1]; rfl) (by decide) rfl (fun ls hl => ?_)
        obtain rfl : x_1 = nI (i + 1) := by rw [ex_1]; exact nI_1 i
        have hl : lv_has ls 4 [(2, .int (nI (i + 1))), (3, .int (nI N)), (0, .ref r), (1, .int v)] := hl
        refine lv_goto (tgt := 5) hx hb dJ7_fill_031fb_17 (by decide) ?_
        exact ih1 (i + 1) g2 _ _ _ (by omega) hg2 (hP.sub [0] rfl) (hD.sub [0] (by decide) rfl) hS (lv_sub hl [1, 0, 2, 3] rfl)
  exact key1 (N + 1 - 0) 0 f _ _ _ (by omega) (fun j => ⟨fun h => absurd h (by omega), fun _ => rfl⟩) (hP.sub [0] rfl) (hD.sub [0] (by decide) rfl) hS (lv_sub hl [0, 1, 2, 3] rfl)
end
