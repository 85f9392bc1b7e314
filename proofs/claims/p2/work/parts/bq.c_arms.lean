def wf_c_larms : List Cond := [.code yX4_usedInArms cX4_usedInArms 5 (some .long), .fieldLink RX4 46 "OwnedPlaces$Loans" "code" "LOwnedPlaces$Code;", .fieldLink RX4 129 "OwnedPlaces$Code" "c" "[I", .fieldLink RX4 15 "OwnedPlaces$Loans" "usedAt" "[J", .fieldLink RX4 148 "OwnedPlaces$Code" "armLabels" "[I", .fieldLink RX4 123 "OwnedPlaces$Code" "a" "[I"]
def wp_c_larms : List Cond := wf_c_larms ++ (wsX40 ++ (wsX00 ++ []))
theorem in_c_larms_X4 : ∀ w ∈ wsX40, w ∈ wp_c_larms := fun w h => List.mem_append_right _ (List.mem_append_left _ h)
theorem in_c_larms_X0 : ∀ w ∈ wsX00, w ∈ wp_c_larms := fun w h => List.mem_append_right _ (List.mem_append_right _ (List.mem_append_left _ h))
theorem wg_c_larms : wf_c_larms.all goodWord = true := by decide +kernel
theorem wm_c_larms (k : Nat) {w : Cond} (h : wp_c_larms[k]? = some w) : w ∈ wp_c_larms := List.mem_of_getElem? h
set_option maxHeartbeats 4000000 in
set_option maxRecDepth 100000 in
theorem c_larms (l : Launch) (dC : Nat → ClassId) (dI : Nat → Nat → Nat) (lo0 y e0 f0 lu la lh lr lc lt lp lb0 ln0 : Nat) (lsh : Int64) (vir vag vfi : Int32) (tn : Nat) (c0 co ca cb c3 cw cl cpv cpp cpl cpr cpt cpw cpc car : Nat) (ct cb9 cp9 ca9 : Nat) (kI kZ kL : ClassId) (F : tF) (ua : Nat → Int64) (i : Nat) (sz : Nat) (hi : i < 6000) (hB : iBo F i 20) : Met l yX4_usedInArms wp_c_larms ({ frames := 0, cells := 0, slots := 0, locals := 0 }) (va_Pc [.ref lo0, .int (nI i)] (fun U => U.heap.size = sz ∧ va_P (dC, dI) vwCl [(lo0, .inr (4, [.ref y, .ref c0, .ref e0, .ref f0, .ref lu, .ref la, .ref lh, .ref lr, .ref lc, .ref lt, .int (nI tn), .ref lp, .ref lb0, .ref ln0, .long lsh, .int vir, .int vag, .int vfi])), (c0, .inr (0, [.ref co, .ref ca, .ref cb, .ref c3, .ref cw, .int (nI ct), .ref cl, .int (nI cb9), .ref cpv, .ref cpp, .ref cpl, .ref cpr, .ref cpt, .ref cpw, .ref cpc, .int (nI cp9), .ref car, .int (nI ca9)])), (la, .inl (kL, 1100, .inr (.inl ua))), (ca, .inl (kI, 6000, .inl (F 1))), (c3, .inl (kI, 6000, .inl (F 3))), (car, .inl (kI, 3002, .inl (F 13)))] U.heap ∧ va_K (dC, dI) vwCl [(kI, .int), (kL, .long)] U ∧ va_D (fun _ => True) [(lo0, .inr (4, [.ref y, .ref c0, .ref e0, .ref f0, .ref lu, .ref la, .ref lh, .ref lr, .ref lc, .ref lt, .int (nI tn), .ref lp, .ref lb0, .ref ln0, .long lsh, .int vir, .int vag, .int vfi])), (c0, .inr (0, [.ref co, .ref ca, .ref cb, .ref c3, .ref cw, .int (nI ct), .ref cl, .int (nI cb9), .ref cpv, .ref cpp, .ref cpl, .ref cpr, .ref cpt, .ref cpw, .ref cpc, .int (nI cp9), .ref car, .int (nI ca9)])), (la, .inl (kL, 1100, .inr (.inl ua))), (ca, .inl (kI, 6000, .inl (F 1))), (c3, .inl (kI, 6000, .inl (F 3))), (car, .inl (kI, 3002, .inl (F 13)))])) (va_Ql (fun (r : Int64) (_ : Unit) => r = uaA F ua (cN (F 1 i)) (cN (F 3 i))) (fun (_ : Unit) (tS : State) => va_P (dC, dI) vwCl [(lo0, .inr (4, [.ref y, .ref c0, .ref e0, .ref f0, .ref lu, .ref la, .ref lh, .ref lr, .ref lc, .ref lt, .int (nI tn), .ref lp, .ref lb0, .ref ln0, .long lsh, .int vir, .int vag, .int vfi])), (c0, .inr (0, [.ref co, .ref ca, .ref cb, .ref c3, .ref cw, .int (nI ct), .ref cl, .int (nI cb9), .ref cpv, .ref cpp, .ref cpl, .ref cpr, .ref cpt, .ref cpw, .ref cpc, .int (nI cp9), .ref car, .int (nI ca9)])), (la, .inl (kL, 1100, .inr (.inl ua))), (ca, .inl (kI, 6000, .inl (F 1))), (c3, .inl (kI, 6000, .inl (F 3))), (car, .inl (kI, 3002, .inl (F 13)))] tS.heap ∧ va_K (dC, dI) vwCl [(kI, .int), (kL, .long)] tS ∧ va_D (va_A [(lo0, .inr (4, [.ref y, .ref c0, .ref e0, .ref f0, .ref lu, .ref la, .ref lh, .ref lr, .ref lc, .ref lt, .int (nI tn), .ref lp, .ref lb0, .ref ln0, .long lsh, .int vir, .int vag, .int vfi])), (c0, .inr (0, [.ref co, .ref ca, .ref cb, .ref c3, .ref cw, .int (nI ct), .ref cl, .int (nI cb9), .ref cpv, .ref cpp, .ref cpl, .ref cpr, .ref cpt, .ref cpw, .ref cpc, .int (nI cp9), .ref car, .int (nI ca9)])), (la, .inl (kL, 1100, .inr (.inl ua))), (ca, .inl (kI, 6000, .inl (F 1))), (c3, .inl (kI, 6000, .inl (F 3))), (car, .inl (kI, 3002, .inl (F 13)))] sz) [(lo0, .inr (4, [.ref y, .ref c0, .ref e0, .ref f0, .ref lu, .ref la, .ref lh, .ref lr, .ref lc, .ref lt, .int (nI tn), .ref lp, .ref lb0, .ref ln0, .long lsh, .int vir, .int vag, .int vfi])), (c0, .inr (0, [.ref co, .ref ca, .ref cb, .ref c3, .ref cw, .int (nI ct), .ref cl, .int (nI cb9), .ref cpv, .ref cpp, .ref cpl, .ref cpr, .ref cpt, .ref cpw, .ref cpc, .int (nI cp9), .ref car, .int (nI ca9)])), (la, .inl (kL, 1100, .inr (.inl ua))), (ca, .inl (kI, 6000, .inl (F 1))), (c3, .inl (kI, 6000, .inl (F 3))), (car, .inl (kI, 3002, .inl (F 13)))]) (va_A [(lo0, .inr (4, [.ref y, .ref c0, .ref e0, .ref f0, .ref lu, .ref la, .ref lh, .ref lr, .ref lc, .ref lt, .int (nI tn), .ref lp, .ref lb0, .ref ln0, .long lsh, .int vir, .int vag, .int vfi])), (c0, .inr (0, [.ref co, .ref ca, .ref cb, .ref c3, .ref cw, .int (nI ct), .ref cl, .int (nI cb9), .ref cpv, .ref cpp, .ref cpl, .ref cpr, .ref cpt, .ref cpw, .ref cpc, .int (nI cp9), .ref car, .int (nI ca9)])), (la, .inl (kL, 1100, .inr (.inl ua))), (ca, .inl (kI, 6000, .inl (F 1))), (c3, .inl (kI, 6000, .inl (F 3))), (car, .inl (kI, 3002, .inl (F 13)))] sz)) 0 0 (va_A [(lo0, .inr (4, [.ref y, .ref c0, .ref e0, .ref f0, .ref lu, .ref la, .ref lh, .ref lr, .ref lc, .ref lt, .int (nI tn), .ref lp, .ref lb0, .ref ln0, .long lsh, .int vir, .int vag, .int vfi])), (c0, .inr (0, [.ref co, .ref ca, .ref cb, .ref c3, .ref cw, .int (nI ct), .ref cl, .int (nI cb9), .ref cpv, .ref cpp, .ref cpl, .ref cpr, .ref cpt, .ref cpw, .ref cpc, .int (nI cp9), .ref car, .int (nI ca9)])), (la, .inl (kL, 1100, .inr (.inl ua))), (ca, .inl (kI, 6000, .inl (F 1))), (c3, .inl (kI, 6000, .inl (F 3))), (car, .inl (kI, 3002, .inl (F 13)))] sz) := by
  refine Met.ofW (cc := cX4_usedInArms) (maxL := 5) (ret := (some .long)) (by decide) rfl ?_
  intro p e s m args below meth c s₁ B hml hv
  obtain ⟨rfl, hsz, hP, hK, hD0⟩ := hv
  have hx := B.exec
  have hb := B.bytes
  have hr := B.returns
  have hts := atoms_spec (ws := wp_c_larms) B.pre
  have hown : s.vm.findClass RX4 = some m.cls := findClass_of_methodNamed B.named
  have hlocks := B.notSynchronized
  subst hsz
  have hD := hD0.self (sz := s.heap.size)
  generalize hAe : va_A [(lo0, .inr (4, [.ref y, .ref c0, .ref e0, .ref f0, .ref lu, .ref la, .ref lh, .ref lr, .ref lc, .ref lt, .int (nI tn), .ref lp, .ref lb0, .ref ln0, .long lsh, .int vir, .int vag, .int vfi])), (c0, .inr (0, [.ref co, .ref ca, .ref cb, .ref c3, .ref cw, .int (nI ct), .ref cl, .int (nI cb9), .ref cpv, .ref cpp, .ref cpl, .ref cpr, .ref cpt, .ref cpw, .ref cpc, .int (nI cp9), .ref car, .int (nI ca9)])), (la, .inl (kL, 1100, .inr (.inl ua))), (ca, .inl (kI, 6000, .inl (F 1))), (c3, .inl (kI, 6000, .inl (F 3))), (car, .inl (kI, 3002, .inl (F 13)))] s.heap.size = A at hD ⊢
  have hA : ∀ q : Nat, s.heap.size ≤ q → A q := fun q h => by rw [← hAe]; exact Or.inr h
  have hS : va_S A s.heap s.heap [] := va_S.rf
  have hP : va_P (dC, dI) vwCl [(lo0, .inr (4, [.ref y, .ref c0, .ref e0, .ref f0, .ref lu, .ref la, .ref lh, .ref lr, .ref lc, .ref lt, .int (nI tn), .ref lp, .ref lb0, .ref ln0, .long lsh, .int vir, .int vag, .int vfi])), (c0, .inr (0, [.ref co, .ref ca, .ref cb, .ref c3, .ref cw, .int (nI ct), .ref cl, .int (nI cb9), .ref cpv, .ref cpp, .ref cpl, .ref cpr, .ref cpt, .ref cpw, .ref cpc, .int (nI cp9), .ref car, .int (nI ca9)])), (la, .inl (kL, 1100, .inr (.inl ua))), (ca, .inl (kI, 6000, .inl (F 1))), (c3, .inl (kI, 6000, .inl (F 3))), (car, .inl (kI, 3002, .inl (F 13)))] s.heap := hP
  have hl := lv_entry ([.ref lo0, .int (nI i)]) (n := 5) (Nat.le_of_ble_eq_true rfl)
  rw [lg_entry_eq]
  generalize (lg_sl ([.ref lo0, .int (nI i)]) ++ List.replicate (5 - (lg_sl ([.ref lo0, .int (nI i)])).length) Slot.unset).toArray = ls at hl ⊢
  have hl : lv_has ls 5 [(0, .ref lo0), (1, .int (nI i))] := hl
  obtain ⟨tb, c9, hq1, hq3, hc12, htb, hal⟩ := hB
  refine lv_lconst (v := 0) hx hb dX4_usedInArms_0 (by decide) ?_
  refine lv_lstore_n (lv' := [(2, .long 0), (0, .ref lo0), (1, .int (nI i))]) hx hb dX4_usedInArms_1 rfl hl (by decide) rfl (fun ls hl => ?_)
  refine lv_iconst (v := 0) hx hb dX4_usedInArms_2 (by decide) ?_
  refine lv_istore (lv' := [(4, .int 0), (2, .long 0), (0, .ref lo0), (1, .int (nI i))]) hx hb dX4_usedInArms_3 hl (by decide) rfl (fun ls hl => ?_)
  have hl : lv_has ls 5 [(4, .int (nI 0)), (2, .long 0), (0, .ref lo0), (1, .int (nI i))] := hl
  refine W_q (fun Q1 hQ1 => ?_)
  have key1 : ∀ (n1 : Nat) (j : Nat) (xx : Int64) (H : Heap) (locs : List Loc) (ls : Array Slot), (j + n1 = c9 + 1 ∧ j ≤ c9) → (xx = uaA F ua tb j) → va_P (dC, dI) vwCl [(lo0, .inr (4, [.ref y, .ref c0, .ref e0, .ref f0, .ref lu, .ref la, .ref lh, .ref lr, .ref lc, .ref lt, .int (nI tn), .ref lp, .ref lb0, .ref ln0, .long lsh, .int vir, .int vag, .int vfi])), (c0, .inr (0, [.ref co, .ref ca, .ref cb, .ref c3, .ref cw, .int (nI ct), .ref cl, .int (nI cb9), .ref cpv, .ref cpp, .ref cpl, .ref cpr, .ref cpt, .ref cpw, .ref cpc, .int (nI cp9), .ref car, .int (nI ca9)])), (la, .inl (kL, 1100, .inr (.inl ua))), (ca, .inl (kI, 6000, .inl (F 1))), (c3, .inl (kI, 6000, .inl (F 3))), (car, .inl (kI, 3002, .inl (F 13)))] H → va_D A [(lo0, .inr (4, [.ref y, .ref c0, .ref e0, .ref f0, .ref lu, .ref la, .ref lh, .ref lr, .ref lc, .ref lt, .int (nI tn), .ref lp, .ref lb0, .ref ln0, .long lsh, .int vir, .int vag, .int vfi])), (c0, .inr (0, [.ref co, .ref ca, .ref cb, .ref c3, .ref cw, .int (nI ct), .ref cl, .int (nI cb9), .ref cpv, .ref cpp, .ref cpl, .ref cpr, .ref cpt, .ref cpw, .ref cpc, .int (nI cp9), .ref car, .int (nI ca9)])), (la, .inl (kL, 1100, .inr (.inl ua))), (ca, .inl (kI, 6000, .inl (F 1))), (c3, .inl (kI, 6000, .inl (F 3))), (car, .inl (kI, 3002, .inl (F 13)))] → va_S A s.heap H locs → lv_has ls 5 [(4, .int (nI j)), (2, .long xx), (0, .ref lo0), (1, .int (nI i))] → W p l e (headSpec wp_c_larms ({ frames := 0, cells := 0, slots := 0, locals := 0 })).room s m ([.ref lo0, .int (nI i)] : List Value).toArray below meth c H locs 0 0 Q1 (F0 m 5 ls []) := by
    intro n1
    induction n1 with
    | zero => intro j xx H locs ls hb0 hb1; exact absurd hb0 (by omega)
    | succ n1 ih1 =>
      intro j xx H locs ls hb0 hb1 hP hD hS hl
      refine lv_iload hx hb dX4_usedInArms_5 (lv_at hl 0 rfl) ?_
      refine lv_aload_n hx hb dX4_usedInArms_7 rfl (lv_at hl 2 rfl) ?_
      refine va_get (D := (dC, dI)) (ci := 4) (v := .ref c0) (C := RX4) (T := TX4) (N := 18) hx hb hts in_c_larms_X4 hown hK hP 0 rfl rfl 1 (by decide) (hts (.fieldLink RX4 46 "OwnedPlaces$Loans" "code" "LOwnedPlaces$Code;") (wm_c_larms 1 rfl)) (fun _ h9 => h9) rfl dX4_usedInArms_8 ?_
      refine va_get (D := (dC, dI)) (ci := 0) (v := .ref c3) (C := RX0) (T := TX0) (N := 18) hx hb hts in_c_larms_X0 hown hK hP 1 rfl rfl 3 (by decide) (hts (.fieldLink RX4 129 "OwnedPlaces$Code" "c" "[I") (wm_c_larms 2 rfl)) (fun _ h9 => h9) rfl dX4_usedInArms_11 ?_
      refine lv_iload_n hx hb dX4_usedInArms_14 rfl (lv_at hl 3 rfl) ?_
      refine va_iald hx hb hK hP 4 0 rfl rfl (vp_in_nI (by omega) (by decide)) dX4_usedInArms_15 ?_
      refine lv_topi (fun v_1 ev_1 => ?_)
      obtain rfl : v_1 = nI c9 := ev_1.trans (by rw [nI_clamp (by omega)]; exact hq3)
      refine lv_icmp_ge (tgt := 53) hx hb dX4_usedInArms_16 (by decide) (fun hc1 => ?_) (fun hc1 => ?_)
      · have hj9 : j = c9 := by have := (nI_leI (a := c9) (b := j) (by omega) (by omega)).mp hc1; omega
        refine lv_lload_n hx hb dX4_usedInArms_53 rfl (lv_at hl 1 rfl) ?_
        have hP9 := hP.sub (ws' := [(lo0, .inr (4, [.ref y, .ref c0, .ref e0, .ref f0, .ref lu, .ref la, .ref lh, .ref lr, .ref lc, .ref lt, .int (nI tn), .ref lp, .ref lb0, .ref ln0, .long lsh, .int vir, .int vag, .int vfi])), (c0, .inr (0, [.ref co, .ref ca, .ref cb, .ref c3, .ref cw, .int (nI ct), .ref cl, .int (nI cb9), .ref cpv, .ref cpp, .ref cpl, .ref cpr, .ref cpt, .ref cpw, .ref cpc, .int (nI cp9), .ref car, .int (nI ca9)])), (la, .inl (kL, 1100, .inr (.inl ua))), (ca, .inl (kI, 6000, .inl (F 1))), (c3, .inl (kI, 6000, .inl (F 3))), (car, .inl (kI, 3002, .inl (F 13)))]) [0, 1, 2, 3, 4, 5] rfl
        have hD9 := hD.sub (ws' := [(lo0, .inr (4, [.ref y, .ref c0, .ref e0, .ref f0, .ref lu, .ref la, .ref lh, .ref lr, .ref lc, .ref lt, .int (nI tn), .ref lp, .ref lb0, .ref ln0, .long lsh, .int vir, .int vag, .int vfi])), (c0, .inr (0, [.ref co, .ref ca, .ref cb, .ref c3, .ref cw, .int (nI ct), .ref cl, .int (nI cb9), .ref cpv, .ref cpp, .ref cpl, .ref cpr, .ref cpt, .ref cpw, .ref cpc, .int (nI cp9), .ref car, .int (nI ca9)])), (la, .inl (kL, 1100, .inr (.inl ua))), (ca, .inl (kI, 6000, .inl (F 1))), (c3, .inl (kI, 6000, .inl (F 3))), (car, .inl (kI, 3002, .inl (F 13)))]) [0, 1, 2, 3, 4, 5] (by decide) rfl
        have hK9 := hK.sub (tys' := [(kI, .int), (kL, .long)]) [0, 1] rfl
        subst hQ1
        exact W.lret (v := xx) hx hb hr (fun tS ht hW => ⟨⟨xx, (), rfl, (by rw [hq1, hq3, cN_nI (by omega), cN_nI (by omega), ← hj9]; exact hb1), by rw [ht]; exact hP9, va_K.moved hW.alike hK9, hD9⟩, hS.F ht⟩) hS.2.2 dX4_usedInArms_54
      · have hj9 : j < c9 := by rcases Nat.lt_or_ge j c9 with y9 | y9; exact y9; exact absurd (nI_le y9 (by omega)) hc1
        obtain ⟨L, hL1, hL⟩ := hal j hj9
        refine lv_lload_n hx hb dX4_usedInArms_19 rfl (lv_at hl 1 rfl) ?_
        refine lv_aload_n hx hb dX4_usedInArms_20 rfl (lv_at hl 2 rfl) ?_
        refine va_get (D := (dC, dI)) (ci := 4) (v := .ref la) (C := RX4) (T := TX4) (N := 18) hx hb hts in_c_larms_X4 hown hK hP 0 rfl rfl 5 (by decide) (hts (.fieldLink RX4 15 "OwnedPlaces$Loans" "usedAt" "[J") (wm_c_larms 3 rfl)) (fun _ h9 => h9) rfl dX4_usedInArms_21 ?_
        refine lv_aload_n hx hb dX4_usedInArms_24 rfl (lv_at hl 2 rfl) ?_
        refine va_get (D := (dC, dI)) (ci := 4) (v := .ref c0) (C := RX4) (T := TX4) (N := 18) hx hb hts in_c_larms_X4 hown hK hP 0 rfl rfl 1 (by decide) (hts (.fieldLink RX4 46 "OwnedPlaces$Loans" "code" "LOwnedPlaces$Code;") (wm_c_larms 1 rfl)) (fun _ h9 => h9) rfl dX4_usedInArms_25 ?_
        refine va_get (D := (dC, dI)) (ci := 0) (v := .ref car) (C := RX0) (T := TX0) (N := 18) hx hb hts in_c_larms_X0 hown hK hP 1 rfl rfl 16 (by decide) (hts (.fieldLink RX4 148 "OwnedPlaces$Code" "armLabels" "[I") (wm_c_larms 4 rfl)) (fun _ h9 => h9) rfl dX4_usedInArms_28 ?_
        refine lv_aload_n hx hb dX4_usedInArms_31 rfl (lv_at hl 2 rfl) ?_
        refine va_get (D := (dC, dI)) (ci := 4) (v := .ref c0) (C := RX4) (T := TX4) (N := 18) hx hb hts in_c_larms_X4 hown hK hP 0 rfl rfl 1 (by decide) (hts (.fieldLink RX4 46 "OwnedPlaces$Loans" "code" "LOwnedPlaces$Code;") (wm_c_larms 1 rfl)) (fun _ h9 => h9) rfl dX4_usedInArms_32 ?_
        refine va_get (D := (dC, dI)) (ci := 0) (v := .ref ca) (C := RX0) (T := TX0) (N := 18) hx hb hts in_c_larms_X0 hown hK hP 1 rfl rfl 1 (by decide) (hts (.fieldLink RX4 123 "OwnedPlaces$Code" "a" "[I") (wm_c_larms 5 rfl)) (fun _ h9 => h9) rfl dX4_usedInArms_35 ?_
        refine lv_iload_n hx hb dX4_usedInArms_38 rfl (lv_at hl 3 rfl) ?_
        refine va_iald hx hb hK hP 3 0 rfl rfl (vp_in_nI (by omega) (by decide)) dX4_usedInArms_39 ?_
        refine lv_topi (fun v_2 ev_2 => ?_)
        obtain rfl : v_2 = nI tb := ev_2.trans (by rw [nI_clamp (by omega)]; exact hq1)
        refine lv_iload hx hb dX4_usedInArms_40 (lv_at hl 0 rfl) ?_
        refine lv_iadd hx hb dX4_usedInArms_42 ?_
        refine lv_topi (fun f_3 ef_3 => ?_)
        obtain rfl : f_3 = nI (tb + j) := ef_3.trans (nI_add _ _)
        refine va_iald hx hb hK hP 5 0 rfl rfl (vp_in_nI (by omega) (by decide)) dX4_usedInArms_43 ?_
        refine lv_topi (fun v_4 ev_4 => ?_)
        obtain rfl : v_4 = nI L := ev_4.trans (by rw [nI_clamp (by omega)]; exact hL1)
        refine va_lald hx hb hK hP 2 1 rfl rfl (vp_in_nI hL (by decide)) dX4_usedInArms_44 ?_
        refine lv_topl (fun v_5 ev_5 => ?_)
        have h1 : v_5 = ua L := ev_5.trans (by rw [nI_clamp (by omega)])
        refine lv_lor hx hb dX4_usedInArms_45 ?_
        refine lv_topl (fun f_6 ef_6 => ?_)
        have hf9 : f_6 = uaA F ua tb (j + 1) := by show _ = uaA F ua tb j ||| ua (cN (F 13 (tb + j))); rw [ef_6, h1, hb1, hL1, cN_nI (by omega)]
        refine lv_lstore_n (lv' := [(2, .long f_6), (4, .int (nI j)), (0, .ref lo0), (1, .int (nI i))]) hx hb dX4_usedInArms_46 rfl hl (by decide) rfl (fun ls hl => ?_)
        obtain ⟨x_7, ex_7⟩ : ∃ yY : Int32, yY = (nI j) + 1 := ⟨_, rfl⟩
        refine lv_iinc (v := x_7) (lv' := [(4, .int x_7), (2, .long f_6), (0, .ref lo0), (1, .int (nI i))]) hx hb dX4_usedInArms_47 hl (k := 1) rfl (by rw [ex_7]; rfl) (by decide) rfl (fun ls hl => ?_)
        obtain rfl : x_7 = nI (j + 1) := by rw [ex_7]; exact nI_1 j
        have hl : lv_has ls 5 [(4, .int (nI (j + 1))), (2, .long f_6), (0, .ref lo0), (1, .int (nI i))] := hl
        refine lv_goto (tgt := 5) hx hb dX4_usedInArms_50 (by decide) ?_
        exact ih1 (j + 1) f_6 _ _ _ (by omega) hf9 (hP.sub [0, 1, 2, 3, 4, 5] rfl) (hD.sub [0, 1, 2, 3, 4, 5] (by decide) rfl) hS (lv_sub hl [0, 1, 2, 3] rfl)
  exact key1 (c9 + 1) 0 0 _ _ _ (by omega) rfl (hP.sub [0, 1, 2, 3, 4, 5] rfl) (hD.sub [0, 1, 2, 3, 4, 5] (by decide) rfl) hS (lv_sub hl [0, 1, 2, 3] rfl)
