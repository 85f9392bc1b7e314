def wf_c_xip : List Cond := [.code yX23_isPlace cX23_isPlace 2 (some .boolean), .fieldLink RX23 330 "OwnedPlacesModel$Exp" "kind" "I", .fieldLink RX23 331 "OwnedPlacesModel$Exp" "of" "LOwnedPlacesModel$Exp;"]
def wp_c_xip : List Cond := wf_c_xip ++ (wsX150 ++ [])
theorem in_c_xip_X15 : ∀ w ∈ wsX150, w ∈ wp_c_xip := fun w h => List.mem_append_right _ (List.mem_append_left _ h)
theorem wg_c_xip : wf_c_xip.all goodWord = true := by decide +kernel
theorem wm_c_xip (k : Nat) {w : Cond} (h : wp_c_xip[k]? = some w) : w ∈ wp_c_xip := List.mem_of_getElem? h
set_option maxHeartbeats 4000000 in
set_option maxRecDepth 100000 in
theorem c_xip (l : Launch) (dC : Nat → ClassId) (dI : Nat → Nat → Nat) (ee n : Nat) (L : List Nat) (F : Nat → va_E) (sz : Nat) (hpw : pwE L F n ee) : Met l yX23_isPlace wp_c_xip ({ frames := 0, cells := 0, slots := 0, locals := 0 }) (va_Pc [.ref ee] (fun U => U.heap.size = sz ∧ va_P (dC, dI) vwCl (([] : va_W) ++ (sT L F)) U.heap ∧ va_K (dC, dI) vwCl [] U ∧ va_D (fun _ => True) (([] : va_W) ++ (sT L F)))) (va_Qi (fun (r : Int32) (_ : Unit) => (r = 0 ∨ r = 1) ∧ (r = 1 ↔ plE F n ee)) (fun (_ : Unit) (tS : State) => va_P (dC, dI) vwCl (([] : va_W) ++ (sT L F)) tS.heap ∧ va_K (dC, dI) vwCl [] tS ∧ va_D (va_A (([] : va_W) ++ (sT L F)) sz) (([] : va_W) ++ (sT L F))) (va_A (([] : va_W) ++ (sT L F)) sz)) 0 0 (va_A (([] : va_W) ++ (sT L F)) sz) := by
  refine Met.ofW (cc := cX23_isPlace) (maxL := 2) (ret := (some .boolean)) (by decide) rfl ?_
  intro p e s m args below meth c s₁ B hml hv
  obtain ⟨rfl, hsz, hP, hK, hD0⟩ := hv
  have hx := B.exec
  have hb := B.bytes
  have hr := B.returns
  have hts := atoms_spec (ws := wp_c_xip) B.pre
  have hown : s.vm.findClass RX23 = some m.cls := findClass_of_methodNamed B.named
  have hlocks := B.notSynchronized
  subst hsz
  have hD := hD0.self (sz := s.heap.size)
  generalize hAe : va_A (([] : va_W) ++ (sT L F)) s.heap.size = A at hD ⊢
  have hA : ∀ q : Nat, s.heap.size ≤ q → A q := fun q h => by rw [← hAe]; exact Or.inr h
  have hS : va_S A s.heap s.heap [] := va_S.rf
  have hP : va_P (dC, dI) vwCl (([] : va_W) ++ (sT L F)) s.heap := hP
  have hl := lv_entry ([.ref ee]) (n := 2) (Nat.le_of_ble_eq_true rfl)
  rw [lg_entry_eq]
  generalize (lg_sl ([.ref ee]) ++ List.replicate (2 - (lg_sl ([.ref ee])).length) Slot.unset).toArray = ls at hl ⊢
  have hl : lv_has ls 2 [(0, .ref ee)] := hl
  refine lv_aload_n hx hb dX23_isPlace_0 rfl (lv_at hl 0 rfl) ?_
  refine lv_astore_n (lv' := [(1, .ref ee), (0, .ref ee)]) hx hb dX23_isPlace_1 rfl hl (by decide) rfl (fun ls hl => ?_)
  refine W_q (fun Q1 hQ1 => ?_)
  have key1 : ∀ (n1 : Nat) (x1 m1 : Nat) (H : Heap) (locs : List Loc) (ls : Array Slot), (m1 + 1 ≤ n1) → (pwE L F m1 x1) → (plE F n ee ↔ plE F m1 x1) → va_P (dC, dI) vwCl (([] : va_W) ++ (sT L F)) H → va_D A (([] : va_W) ++ (sT L F)) → va_S A s.heap H locs → lv_has ls 2 [(1, .ref x1), (0, .ref ee)] → W p l e (headSpec wp_c_xip ({ frames := 0, cells := 0, slots := 0, locals := 0 })).room s m ([.ref ee] : List Value).toArray below meth c H locs 0 0 Q1 (F0 m 2 ls []) := by
    intro n1
    induction n1 with
    | zero => intro x1 m1 H locs ls ha0 ha1 ha2; exact absurd ha0 (by omega)
    | succ n1 ih1 =>
      intro x1 m1 H locs ls ha0 ha1 ha2 hP hD hS hl
      obtain ⟨m, rfl⟩ : ∃ m : Nat, m1 = m + 1 := by
        cases m1 with
        | zero => exact ha1.elim
        | succ m => exact ⟨m, rfl⟩
      obtain ⟨hL, kd, vo, fs, h1, h2, h3, h4⟩ := ha1
      refine lv_aload_n hx hb dX23_isPlace_2 rfl (lv_at hl 0 rfl) ?_
      refine lv_ifnull hx hb dX23_isPlace_3 ?_
      refine lv_aload_n hx hb dX23_isPlace_6 rfl (lv_at hl 0 rfl) ?_
      refine va_get (D := (dC, dI)) (ci := 15) (v := .int kd) (C := RX15) (T := TX15) (N := 14) hx hb hts in_c_xip_X15 hown hK (va_P.st hP hL h1) 0 rfl rfl 0 (by decide) (hts (.fieldLink RX23 330 "OwnedPlacesModel$Exp" "kind" "I") (wm_c_xip 1 rfl)) (fun _ h9 => h9) h2 dX23_isPlace_7 ?_
      refine lv_bipush (v := 7) hx hb dX23_isPlace_10 (by decide) ?_
      refine lv_icmp_eq (tgt := 33) hx hb dX23_isPlace_12 (by decide) (fun hb_1 => ?_) (fun hb_1 => ?_)
      · have hk9 : kd = 7 ∨ kd = 14 ∨ kd = 11 := by rw [hb_1]; decide
        obtain ⟨o, rfl, hpo⟩ := h4 hk9
        refine lv_aload_n hx hb dX23_isPlace_33 rfl (lv_at hl 0 rfl) ?_
        refine va_get (D := (dC, dI)) (ci := 15) (v := .ref o) (C := RX15) (T := TX15) (N := 14) hx hb hts in_c_xip_X15 hown hK (va_P.st hP hL h1) 0 rfl rfl 8 (by decide) (hts (.fieldLink RX23 331 "OwnedPlacesModel$Exp" "of" "LOwnedPlacesModel$Exp;") (wm_c_xip 2 rfl)) (fun _ h9 => h9) h3 dX23_isPlace_34 ?_
        refine lv_astore_n (lv' := [(1, .ref o), (0, .ref ee)]) hx hb dX23_isPlace_37 rfl hl (by decide) rfl (fun ls hl => ?_)
        refine lv_goto (tgt := 2) hx hb dX23_isPlace_38 (by decide) ?_
        exact ih1 o m _ _ _ (by omega) hpo (ha2.trans (plE_dn h1 h2 h3 hk9)) (hP.subT [] rfl) (hD.subT [] (by decide) rfl) hS (lv_sub hl [0, 1] rfl)
      · refine lv_aload_n hx hb dX23_isPlace_15 rfl (lv_at hl 0 rfl) ?_
        refine va_get (D := (dC, dI)) (ci := 15) (v := .int kd) (C := RX15) (T := TX15) (N := 14) hx hb hts in_c_xip_X15 hown hK (va_P.st hP hL h1) 0 rfl rfl 0 (by decide) (hts (.fieldLink RX23 330 "OwnedPlacesModel$Exp" "kind" "I") (wm_c_xip 1 rfl)) (fun _ h9 => h9) h2 dX23_isPlace_16 ?_
        refine lv_bipush (v := 14) hx hb dX23_isPlace_19 (by decide) ?_
        refine lv_icmp_eq (tgt := 33) hx hb dX23_isPlace_21 (by decide) (fun hb_2 => ?_) (fun hb_2 => ?_)
        · have hk9 : kd = 7 ∨ kd = 14 ∨ kd = 11 := by rw [hb_2]; decide
          obtain ⟨o, rfl, hpo⟩ := h4 hk9
          refine lv_aload_n hx hb dX23_isPlace_33 rfl (lv_at hl 0 rfl) ?_
          refine va_get (D := (dC, dI)) (ci := 15) (v := .ref o) (C := RX15) (T := TX15) (N := 14) hx hb hts in_c_xip_X15 hown hK (va_P.st hP hL h1) 0 rfl rfl 8 (by decide) (hts (.fieldLink RX23 331 "OwnedPlacesModel$Exp" "of" "LOwnedPlacesModel$Exp;") (wm_c_xip 2 rfl)) (fun _ h9 => h9) h3 dX23_isPlace_34 ?_
          refine lv_astore_n (lv' := [(1, .ref o), (0, .ref ee)]) hx hb dX23_isPlace_37 rfl hl (by decide) rfl (fun ls hl => ?_)
          refine lv_goto (tgt := 2) hx hb dX23_isPlace_38 (by decide) ?_
          exact ih1 o m _ _ _ (by omega) hpo (ha2.trans (plE_dn h1 h2 h3 hk9)) (hP.subT [] rfl) (hD.subT [] (by decide) rfl) hS (lv_sub hl [0, 1] rfl)
        · refine lv_aload_n hx hb dX23_isPlace_24 rfl (lv_at hl 0 rfl) ?_
          refine va_get (D := (dC, dI)) (ci := 15) (v := .int kd) (C := RX15) (T := TX15) (N := 14) hx hb hts in_c_xip_X15 hown hK (va_P.st hP hL h1) 0 rfl rfl 0 (by decide) (hts (.fieldLink RX23 330 "OwnedPlacesModel$Exp" "kind" "I") (wm_c_xip 1 rfl)) (fun _ h9 => h9) h2 dX23_isPlace_25 ?_
          refine lv_bipush (v := 11) hx hb dX23_isPlace_28 (by decide) ?_
          refine lv_icmp_ne (tgt := 41) hx hb dX23_isPlace_30 (by decide) (fun hb_3 => ?_) (fun hb_3 => ?_)
          · have hk9 : ¬ (kd = 7 ∨ kd = 14 ∨ kd = 11) := by
              rintro (z9 | z9 | z9) <;> contradiction
            have he9 := ha2.trans (plE_end h1 h2 h3 hk9)
            refine lv_aload_n hx hb dX23_isPlace_41 rfl (lv_at hl 0 rfl) ?_
            refine lv_ifnull hx hb dX23_isPlace_42 ?_
            refine lv_aload_n hx hb dX23_isPlace_45 rfl (lv_at hl 0 rfl) ?_
            refine va_get (D := (dC, dI)) (ci := 15) (v := .int kd) (C := RX15) (T := TX15) (N := 14) hx hb hts in_c_xip_X15 hown hK (va_P.st hP hL h1) 0 rfl rfl 0 (by decide) (hts (.fieldLink RX23 330 "OwnedPlacesModel$Exp" "kind" "I") (wm_c_xip 1 rfl)) (fun _ h9 => h9) h2 dX23_isPlace_46 ?_
            refine lv_iconst (v := 2) hx hb dX23_isPlace_49 (by decide) ?_
            refine lv_icmp_ne (tgt := 57) hx hb dX23_isPlace_50 (by decide) (fun h29 => ?_) (fun h29 => ?_)
            · refine lv_iconst (v := 0) hx hb dX23_isPlace_57 (by decide) ?_
              have hP9 := hP.subT (f' := []) [] rfl
              have hD9 := hD.subT (f' := []) [] (by decide) rfl
              have hK9 := hK.sub (tys' := []) [] rfl
              subst hQ1
              exact W.zret (v := 0) hx hb hr (by decide) (fun tS ht hW => ⟨⟨0, (), rfl, ⟨Or.inl rfl, fun q => absurd q (by decide), fun q => absurd (he9.mp q) h29⟩, by rw [ht]; exact hP9, va_K.moved hW.alike hK9, hD9⟩, hS.F ht⟩) hS.2.2 dX23_isPlace_58
            · refine lv_iconst (v := 1) hx hb dX23_isPlace_53 (by decide) ?_
              refine lv_goto (tgt := 58) hx hb dX23_isPlace_54 (by decide) ?_
              have hP9 := hP.subT (f' := []) [] rfl
              have hD9 := hD.subT (f' := []) [] (by decide) rfl
              have hK9 := hK.sub (tys' := []) [] rfl
              subst hQ1
              exact W.zret (v := 1) hx hb hr (by decide) (fun tS ht hW => ⟨⟨1, (), rfl, ⟨Or.inr rfl, fun _ => he9.mpr h29, fun _ => rfl⟩, by rw [ht]; exact hP9, va_K.moved hW.alike hK9, hD9⟩, hS.F ht⟩) hS.2.2 dX23_isPlace_58
          · have hk9 : kd = 7 ∨ kd = 14 ∨ kd = 11 := by rw [hb_3]; decide
            obtain ⟨o, rfl, hpo⟩ := h4 hk9
            refine lv_aload_n hx hb dX23_isPlace_33 rfl (lv_at hl 0 rfl) ?_
            refine va_get (D := (dC, dI)) (ci := 15) (v := .ref o) (C := RX15) (T := TX15) (N := 14) hx hb hts in_c_xip_X15 hown hK (va_P.st hP hL h1) 0 rfl rfl 8 (by decide) (hts (.fieldLink RX23 331 "OwnedPlacesModel$Exp" "of" "LOwnedPlacesModel$Exp;") (wm_c_xip 2 rfl)) (fun _ h9 => h9) h3 dX23_isPlace_34 ?_
            refine lv_astore_n (lv' := [(1, .ref o), (0, .ref ee)]) hx hb dX23_isPlace_37 rfl hl (by decide) rfl (fun ls hl => ?_)
            refine lv_goto (tgt := 2) hx hb dX23_isPlace_38 (by decide) ?_
            exact ih1 o m _ _ _ (by omega) hpo (ha2.trans (plE_dn h1 h2 h3 hk9)) (hP.subT [] rfl) (hD.subT [] (by decide) rfl) hS (lv_sub hl [0, 1] rfl)
  exact key1 (n + 1) ee n _ _ _ (Nat.le_refl _) hpw Iff.rfl (hP.subT [] rfl) (hD.subT [] (by decide) rfl) hS (lv_sub hl [0, 1] rfl)
