/-- what tells two places of one variable apart; 0: one lies on the other's way -/
def ovB (l1 l2 p1 p2 : Int32) : Int32 := (p1 ^^^ p2) &&& (((1 : Int32) <<< ((4 * (if l2 < l1 then l2 else l1)) &&& 31)) - 1)
def wf_c_overlap : List Cond := [.code yX4_overlap cX4_overlap 5 (some .boolean), .fieldLink RX4 46 "OwnedPlaces$Loans" "code" "LOwnedPlaces$Code;", .fieldLink RX4 139 "OwnedPlaces$Code" "placeLength" "[I", .methodLink RX4 246 Lib.Math.min.name, .static Lib.Math.min.name, .initialized "java/lang/Math", .code Lib.Math.min.name Lib.Math.min.code 2 (some .int), .fieldLink RX4 252 "OwnedPlaces$Code" "placePath" "[I"]
def wp_c_overlap : List Cond := wf_c_overlap ++ (wsX40 ++ (wsX00 ++ []))
theorem in_c_overlap_X4 : ∀ w ∈ wsX40, w ∈ wp_c_overlap := fun w h => List.mem_append_right _ (List.mem_append_left _ h)
theorem in_c_overlap_X0 : ∀ w ∈ wsX00, w ∈ wp_c_overlap := fun w h => List.mem_append_right _ (List.mem_append_right _ (List.mem_append_left _ h))
theorem wg_c_overlap : wf_c_overlap.all goodWord = true := by decide +kernel
theorem wm_c_overlap (k : Nat) {w : Cond} (h : wp_c_overlap[k]? = some w) : w ∈ wp_c_overlap := List.mem_of_getElem? h
set_option maxHeartbeats 4000000 in
set_option maxRecDepth 100000 in
theorem c_overlap (l : Launch) (dC : Nat → ClassId) (dI : Nat → Nat → Nat) (lo0 y e0 f0 lu la lh lr lc lt lp lb0 ln0 : Nat) (lsh : Int64) (vir vag vfi : Int32) (tn : Nat) (c0 co ca cb c3 cw cl cpv cpp cpl cpr cpt cpw cpc car : Nat) (ct cb9 cp9 ca9 : Nat) (kI : ClassId) (pa pb : Nat) (fpl fpp : Nat → Int32) (sz : Nat) (hpa : pa < 3002) (hpb : pb < 3002) : Met l yX4_overlap wp_c_overlap ({ frames := 1, cells := 0, slots := 0, locals := 13 }) (va_Pc [.ref lo0, .int (nI pa), .int (nI pb)] (fun U => U.heap.size = sz ∧ va_P (dC, dI) vwCl [(lo0, .inr (4, [.ref y, .ref c0, .ref e0, .ref f0, .ref lu, .ref la, .ref lh, .ref lr, .ref lc, .ref lt, .int (nI tn), .ref lp, .ref lb0, .ref ln0, .long lsh, .int vir, .int vag, .int vfi])), (c0, .inr (0, [.ref co, .ref ca, .ref cb, .ref c3, .ref cw, .int (nI ct), .ref cl, .int (nI cb9), .ref cpv, .ref cpp, .ref cpl, .ref cpr, .ref cpt, .ref cpw, .ref cpc, .int (nI cp9), .ref car, .int (nI ca9)])), (cpl, .inl (kI, 3002, .inl fpl)), (cpp, .inl (kI, 3002, .inl fpp))] U.heap ∧ va_K (dC, dI) vwCl [(kI, .int)] U ∧ va_D (fun _ => True) [(lo0, .inr (4, [.ref y, .ref c0, .ref e0, .ref f0, .ref lu, .ref la, .ref lh, .ref lr, .ref lc, .ref lt, .int (nI tn), .ref lp, .ref lb0, .ref ln0, .long lsh, .int vir, .int vag, .int vfi])), (c0, .inr (0, [.ref co, .ref ca, .ref cb, .ref c3, .ref cw, .int (nI ct), .ref cl, .int (nI cb9), .ref cpv, .ref cpp, .ref cpl, .ref cpr, .ref cpt, .ref cpw, .ref cpc, .int (nI cp9), .ref car, .int (nI ca9)])), (cpl, .inl (kI, 3002, .inl fpl)), (cpp, .inl (kI, 3002, .inl fpp))])) (va_Qi (fun (r : Int32) (_ : Unit) => (r = 1 ∧ ovB (fpl pa) (fpl pb) (fpp pa) (fpp pb) = 0) ∨ (r = 0 ∧ ovB (fpl pa) (fpl pb) (fpp pa) (fpp pb) ≠ 0)) (fun (_ : Unit) (tS : State) => va_P (dC, dI) vwCl [(lo0, .inr (4, [.ref y, .ref c0, .ref e0, .ref f0, .ref lu, .ref la, .ref lh, .ref lr, .ref lc, .ref lt, .int (nI tn), .ref lp, .ref lb0, .ref ln0, .long lsh, .int vir, .int vag, .int vfi])), (c0, .inr (0, [.ref co, .ref ca, .ref cb, .ref c3, .ref cw, .int (nI ct), .ref cl, .int (nI cb9), .ref cpv, .ref cpp, .ref cpl, .ref cpr, .ref cpt, .ref cpw, .ref cpc, .int (nI cp9), .ref car, .int (nI ca9)])), (cpl, .inl (kI, 3002, .inl fpl)), (cpp, .inl (kI, 3002, .inl fpp))] tS.heap ∧ va_K (dC, dI) vwCl [(kI, .int)] tS ∧ va_D (va_A [(lo0, .inr (4, [.ref y, .ref c0, .ref e0, .ref f0, .ref lu, .ref la, .ref lh, .ref lr, .ref lc, .ref lt, .int (nI tn), .ref lp, .ref lb0, .ref ln0, .long lsh, .int vir, .int vag, .int vfi])), (c0, .inr (0, [.ref co, .ref ca, .ref cb, .ref c3, .ref cw, .int (nI ct), .ref cl, .int (nI cb9), .ref cpv, .ref cpp, .ref cpl, .ref cpr, .ref cpt, .ref cpw, .ref cpc, .int (nI cp9), .ref car, .int (nI ca9)])), (cpl, .inl (kI, 3002, .inl fpl)), (cpp, .inl (kI, 3002, .inl fpp))] sz) [(lo0, .inr (4, [.ref y, .ref c0, .ref e0, .ref f0, .ref lu, .ref la, .ref lh, .ref lr, .ref lc, .ref lt, .int (nI tn), .ref lp, .ref lb0, .ref ln0, .long lsh, .int vir, .int vag, .int vfi])), (c0, .inr (0, [.ref co, .ref ca, .ref cb, .ref c3, .ref cw, .int (nI ct), .ref cl, .int (nI cb9), .ref cpv, .ref cpp, .ref cpl, .ref cpr, .ref cpt, .ref cpw, .ref cpc, .int (nI cp9), .ref car, .int (nI ca9)])), (cpl, .inl (kI, 3002, .inl fpl)), (cpp, .inl (kI, 3002, .inl fpp))]) (va_A [(lo0, .inr (4, [.ref y, .ref c0, .ref e0, .ref f0, .ref lu, .ref la, .ref lh, .ref lr, .ref lc, .ref lt, .int (nI tn), .ref lp, .ref lb0, .ref ln0, .long lsh, .int vir, .int vag, .int vfi])), (c0, .inr (0, [.ref co, .ref ca, .ref cb, .ref c3, .ref cw, .int (nI ct), .ref cl, .int (nI cb9), .ref cpv, .ref cpp, .ref cpl, .ref cpr, .ref cpt, .ref cpw, .ref cpc, .int (nI cp9), .ref car, .int (nI ca9)])), (cpl, .inl (kI, 3002, .inl fpl)), (cpp, .inl (kI, 3002, .inl fpp))] sz)) 0 0 (va_A [(lo0, .inr (4, [.ref y, .ref c0, .ref e0, .ref f0, .ref lu, .ref la, .ref lh, .ref lr, .ref lc, .ref lt, .int (nI tn), .ref lp, .ref lb0, .ref ln0, .long lsh, .int vir, .int vag, .int vfi])), (c0, .inr (0, [.ref co, .ref ca, .ref cb, .ref c3, .ref cw, .int (nI ct), .ref cl, .int (nI cb9), .ref cpv, .ref cpp, .ref cpl, .ref cpr, .ref cpt, .ref cpw, .ref cpc, .int (nI cp9), .ref car, .int (nI ca9)])), (cpl, .inl (kI, 3002, .inl fpl)), (cpp, .inl (kI, 3002, .inl fpp))] sz) := by
  refine Met.ofW (cc := cX4_overlap) (maxL := 5) (ret := (some .boolean)) (by decide) rfl ?_
  intro p e s m args below meth c s₁ B hml hv
  obtain ⟨rfl, hsz, hP, hK, hD0⟩ := hv
  have hx := B.exec
  have hb := B.bytes
  have hr := B.returns
  have hts := atoms_spec (ws := wp_c_overlap) B.pre
  have hown : s.vm.findClass RX4 = some m.cls := findClass_of_methodNamed B.named
  have hlocks := B.notSynchronized
  subst hsz
  have hD := hD0.self (sz := s.heap.size)
  generalize hAe : va_A [(lo0, .inr (4, [.ref y, .ref c0, .ref e0, .ref f0, .ref lu, .ref la, .ref lh, .ref lr, .ref lc, .ref lt, .int (nI tn), .ref lp, .ref lb0, .ref ln0, .long lsh, .int vir, .int vag, .int vfi])), (c0, .inr (0, [.ref co, .ref ca, .ref cb, .ref c3, .ref cw, .int (nI ct), .ref cl, .int (nI cb9), .ref cpv, .ref cpp, .ref cpl, .ref cpr, .ref cpt, .ref cpw, .ref cpc, .int (nI cp9), .ref car, .int (nI ca9)])), (cpl, .inl (kI, 3002, .inl fpl)), (cpp, .inl (kI, 3002, .inl fpp))] s.heap.size = A at hD ⊢
  have hA : ∀ q : Nat, s.heap.size ≤ q → A q := fun q h => by rw [← hAe]; exact Or.inr h
  have hS : va_S A s.heap s.heap [] := va_S.rf
  have hP : va_P (dC, dI) vwCl [(lo0, .inr (4, [.ref y, .ref c0, .ref e0, .ref f0, .ref lu, .ref la, .ref lh, .ref lr, .ref lc, .ref lt, .int (nI tn), .ref lp, .ref lb0, .ref ln0, .long lsh, .int vir, .int vag, .int vfi])), (c0, .inr (0, [.ref co, .ref ca, .ref cb, .ref c3, .ref cw, .int (nI ct), .ref cl, .int (nI cb9), .ref cpv, .ref cpp, .ref cpl, .ref cpr, .ref cpt, .ref cpw, .ref cpc, .int (nI cp9), .ref car, .int (nI ca9)])), (cpl, .inl (kI, 3002, .inl fpl)), (cpp, .inl (kI, 3002, .inl fpp))] s.heap := hP
  have hl := lv_entry ([.ref lo0, .int (nI pa), .int (nI pb)]) (n := 5) (Nat.le_of_ble_eq_true rfl)
  rw [lg_entry_eq]
  generalize (lg_sl ([.ref lo0, .int (nI pa), .int (nI pb)]) ++ List.replicate (5 - (lg_sl ([.ref lo0, .int (nI pa), .int (nI pb)])).length) Slot.unset).toArray = ls at hl ⊢
  have hl : lv_has ls 5 [(0, .ref lo0), (1, .int (nI pa)), (2, .int (nI pb))] := hl
  refine lv_aload_n hx hb dX4_overlap_0 rfl (lv_at hl 0 rfl) ?_
  refine va_get (D := (dC, dI)) (ci := 4) (v := .ref c0) (C := RX4) (T := TX4) (N := 18) hx hb hts in_c_overlap_X4 hown hK hP 0 rfl rfl 1 (by decide) (hts (.fieldLink RX4 46 "OwnedPlaces$Loans" "code" "LOwnedPlaces$Code;") (wm_c_overlap 1 rfl)) (fun _ h9 => h9) rfl dX4_overlap_1 ?_
  refine va_get (D := (dC, dI)) (ci := 0) (v := .ref cpl) (C := RX0) (T := TX0) (N := 18) hx hb hts in_c_overlap_X0 hown hK hP 1 rfl rfl 10 (by decide) (hts (.fieldLink RX4 139 "OwnedPlaces$Code" "placeLength" "[I") (wm_c_overlap 2 rfl)) (fun _ h9 => h9) rfl dX4_overlap_4 ?_
  refine lv_iload_n hx hb dX4_overlap_7 rfl (lv_at hl 1 rfl) ?_
  refine va_iald hx hb hK hP 2 0 rfl rfl (vp_in_nI hpa (by decide)) dX4_overlap_8 ?_
  refine lv_topi (fun v_1 ev_1 => ?_)
  obtain rfl : v_1 = fpl pa := ev_1.trans (by rw [nI_clamp (by omega)])
  refine lv_aload_n hx hb dX4_overlap_9 rfl (lv_at hl 0 rfl) ?_
  refine va_get (D := (dC, dI)) (ci := 4) (v := .ref c0) (C := RX4) (T := TX4) (N := 18) hx hb hts in_c_overlap_X4 hown hK hP 0 rfl rfl 1 (by decide) (hts (.fieldLink RX4 46 "OwnedPlaces$Loans" "code" "LOwnedPlaces$Code;") (wm_c_overlap 1 rfl)) (fun _ h9 => h9) rfl dX4_overlap_10 ?_
  refine va_get (D := (dC, dI)) (ci := 0) (v := .ref cpl) (C := RX0) (T := TX0) (N := 18) hx hb hts in_c_overlap_X0 hown hK hP 1 rfl rfl 10 (by decide) (hts (.fieldLink RX4 139 "OwnedPlaces$Code" "placeLength" "[I") (wm_c_overlap 2 rfl)) (fun _ h9 => h9) rfl dX4_overlap_13 ?_
  refine lv_iload_n hx hb dX4_overlap_16 rfl (lv_at hl 2 rfl) ?_
  refine va_iald hx hb hK hP 2 0 rfl rfl (vp_in_nI hpb (by decide)) dX4_overlap_17 ?_
  refine lv_topi (fun v_2 ev_2 => ?_)
  obtain rfl : v_2 = fpl pb := ev_2.trans (by rw [nI_clamp (by omega)])
  refine va_mmin hx hb (by rw [hml]; exact hl.1.symm) hown (hts (.methodLink RX4 246 Lib.Math.min.name) (wm_c_overlap 3 rfl)) (hts (.static Lib.Math.min.name) (wm_c_overlap 4 rfl)) (hts (.initialized "java/lang/Math") (wm_c_overlap 5 rfl)) (hts (.code Lib.Math.min.name Lib.Math.min.code 2 (some .int)) (wm_c_overlap 6 rfl)) (Nat.le_of_ble_eq_true rfl) (Nat.le_of_ble_eq_true rfl) (Nat.zero_le _) (Nat.zero_le _) dX4_overlap_18 ?_
  refine lv_topi (fun f_3 ef_3 => ?_)
  refine lv_istore_n (lv' := [(3, .int f_3), (0, .ref lo0), (1, .int (nI pa)), (2, .int (nI pb))]) hx hb dX4_overlap_21 rfl hl (by decide) rfl (fun ls hl => ?_)
  refine lv_iconst (v := 1) hx hb dX4_overlap_22 (by decide) ?_
  refine lv_iconst (v := 4) hx hb dX4_overlap_23 (by decide) ?_
  refine lv_iload_n hx hb dX4_overlap_24 rfl (lv_at hl 0 rfl) ?_
  refine lv_imul hx hb dX4_overlap_25 ?_
  refine lv_topi (fun f_4 ef_4 => ?_)
  refine lv_ishl hx hb dX4_overlap_26 ?_
  refine lv_topi (fun f_5 ef_5 => ?_)
  refine lv_iconst (v := 1) hx hb dX4_overlap_27 (by decide) ?_
  refine lv_isub hx hb dX4_overlap_28 ?_
  refine lv_topi (fun f_6 ef_6 => ?_)
  refine lv_istore (lv' := [(4, .int f_6), (3, .int f_3), (0, .ref lo0), (1, .int (nI pa)), (2, .int (nI pb))]) hx hb dX4_overlap_29 hl (by decide) rfl (fun ls hl => ?_)
  refine lv_aload_n hx hb dX4_overlap_31 rfl (lv_at hl 2 rfl) ?_
  refine va_get (D := (dC, dI)) (ci := 4) (v := .ref c0) (C := RX4) (T := TX4) (N := 18) hx hb hts in_c_overlap_X4 hown hK hP 0 rfl rfl 1 (by decide) (hts (.fieldLink RX4 46 "OwnedPlaces$Loans" "code" "LOwnedPlaces$Code;") (wm_c_overlap 1 rfl)) (fun _ h9 => h9) rfl dX4_overlap_32 ?_
  refine va_get (D := (dC, dI)) (ci := 0) (v := .ref cpp) (C := RX0) (T := TX0) (N := 18) hx hb hts in_c_overlap_X0 hown hK hP 1 rfl rfl 9 (by decide) (hts (.fieldLink RX4 252 "OwnedPlaces$Code" "placePath" "[I") (wm_c_overlap 7 rfl)) (fun _ h9 => h9) rfl dX4_overlap_35 ?_
  refine lv_iload_n hx hb dX4_overlap_38 rfl (lv_at hl 3 rfl) ?_
  refine va_iald hx hb hK hP 3 0 rfl rfl (vp_in_nI hpa (by decide)) dX4_overlap_39 ?_
  refine lv_topi (fun v_7 ev_7 => ?_)
  obtain rfl : v_7 = fpp pa := ev_7.trans (by rw [nI_clamp (by omega)])
  refine lv_aload_n hx hb dX4_overlap_40 rfl (lv_at hl 2 rfl) ?_
  refine va_get (D := (dC, dI)) (ci := 4) (v := .ref c0) (C := RX4) (T := TX4) (N := 18) hx hb hts in_c_overlap_X4 hown hK hP 0 rfl rfl 1 (by decide) (hts (.fieldLink RX4 46 "OwnedPlaces$Loans" "code" "LOwnedPlaces$Code;") (wm_c_overlap 1 rfl)) (fun _ h9 => h9) rfl dX4_overlap_41 ?_
  refine va_get (D := (dC, dI)) (ci := 0) (v := .ref cpp) (C := RX0) (T := TX0) (N := 18) hx hb hts in_c_overlap_X0 hown hK hP 1 rfl rfl 9 (by decide) (hts (.fieldLink RX4 252 "OwnedPlaces$Code" "placePath" "[I") (wm_c_overlap 7 rfl)) (fun _ h9 => h9) rfl dX4_overlap_44 ?_
  refine lv_iload_n hx hb dX4_overlap_47 rfl (lv_at hl 4 rfl) ?_
  refine va_iald hx hb hK hP 3 0 rfl rfl (vp_in_nI hpb (by decide)) dX4_overlap_48 ?_
  refine lv_topi (fun v_8 ev_8 => ?_)
  obtain rfl : v_8 = fpp pb := ev_8.trans (by rw [nI_clamp (by omega)])
  refine lv_ixor hx hb dX4_overlap_49 ?_
  refine lv_topi (fun f_9 ef_9 => ?_)
  refine lv_iload hx hb dX4_overlap_50 (lv_at hl 0 rfl) ?_
  refine lv_iand hx hb dX4_overlap_52 ?_
  refine lv_topi (fun f_10 ef_10 => ?_)
  have hO : f_10 = ovB (fpl pa) (fpl pb) (fpp pa) (fpp pb) := by rw [ef_10, ef_9, ef_6, ef_5, ef_4, ef_3]; rfl
  refine lv_if_ne (tgt := 60) hx hb dX4_overlap_53 (by decide) (fun hne => ?_) (fun hne => ?_)
  · refine lv_iconst (v := 0) hx hb dX4_overlap_60 (by decide) ?_
    have hP9 := hP.sub (ws' := [(lo0, .inr (4, [.ref y, .ref c0, .ref e0, .ref f0, .ref lu, .ref la, .ref lh, .ref lr, .ref lc, .ref lt, .int (nI tn), .ref lp, .ref lb0, .ref ln0, .long lsh, .int vir, .int vag, .int vfi])), (c0, .inr (0, [.ref co, .ref ca, .ref cb, .ref c3, .ref cw, .int (nI ct), .ref cl, .int (nI cb9), .ref cpv, .ref cpp, .ref cpl, .ref cpr, .ref cpt, .ref cpw, .ref cpc, .int (nI cp9), .ref car, .int (nI ca9)])), (cpl, .inl (kI, 3002, .inl fpl)), (cpp, .inl (kI, 3002, .inl fpp))]) [0, 1, 2, 3] rfl
    have hD9 := hD.sub (ws' := [(lo0, .inr (4, [.ref y, .ref c0, .ref e0, .ref f0, .ref lu, .ref la, .ref lh, .ref lr, .ref lc, .ref lt, .int (nI tn), .ref lp, .ref lb0, .ref ln0, .long lsh, .int vir, .int vag, .int vfi])), (c0, .inr (0, [.ref co, .ref ca, .ref cb, .ref c3, .ref cw, .int (nI ct), .ref cl, .int (nI cb9), .ref cpv, .ref cpp, .ref cpl, .ref cpr, .ref cpt, .ref cpw, .ref cpc, .int (nI cp9), .ref car, .int (nI ca9)])), (cpl, .inl (kI, 3002, .inl fpl)), (cpp, .inl (kI, 3002, .inl fpp))]) [0, 1, 2, 3] (by decide) rfl
    have hK9 := hK.sub (tys' := [(kI, .int)]) [0] rfl
    exact W.zret (v := 0) hx hb hr (by decide) (fun tS ht hW => ⟨⟨0, (), rfl, (Or.inr ⟨rfl, fun q => hne (hO.trans q)⟩), by rw [ht]; exact hP9, va_K.moved hW.alike hK9, hD9⟩, hS.F ht⟩) hS.2.2 dX4_overlap_61
  · refine lv_iconst (v := 1) hx hb dX4_overlap_56 (by decide) ?_
    refine lv_goto (tgt := 61) hx hb dX4_overlap_57 (by decide) ?_
    have hP9 := hP.sub (ws' := [(lo0, .inr (4, [.ref y, .ref c0, .ref e0, .ref f0, .ref lu, .ref la, .ref lh, .ref lr, .ref lc, .ref lt, .int (nI tn), .ref lp, .ref lb0, .ref ln0, .long lsh, .int vir, .int vag, .int vfi])), (c0, .inr (0, [.ref co, .ref ca, .ref cb, .ref c3, .ref cw, .int (nI ct), .ref cl, .int (nI cb9), .ref cpv, .ref cpp, .ref cpl, .ref cpr, .ref cpt, .ref cpw, .ref cpc, .int (nI cp9), .ref car, .int (nI ca9)])), (cpl, .inl (kI, 3002, .inl fpl)), (cpp, .inl (kI, 3002, .inl fpp))]) [0, 1, 2, 3] rfl
    have hD9 := hD.sub (ws' := [(lo0, .inr (4, [.ref y, .ref c0, .ref e0, .ref f0, .ref lu, .ref la, .ref lh, .ref lr, .ref lc, .ref lt, .int (nI tn), .ref lp, .ref lb0, .ref ln0, .long lsh, .int vir, .int vag, .int vfi])), (c0, .inr (0, [.ref co, .ref ca, .ref cb, .ref c3, .ref cw, .int (nI ct), .ref cl, .int (nI cb9), .ref cpv, .ref cpp, .ref cpl, .ref cpr, .ref cpt, .ref cpw, .ref cpc, .int (nI cp9), .ref car, .int (nI ca9)])), (cpl, .inl (kI, 3002, .inl fpl)), (cpp, .inl (kI, 3002, .inl fpp))]) [0, 1, 2, 3] (by decide) rfl
    have hK9 := hK.sub (tys' := [(kI, .int)]) [0] rfl
    exact W.zret (v := 1) hx hb hr (by decide) (fun tS ht hW => ⟨⟨1, (), rfl, (Or.inl ⟨rfl, hO.symm.trans hne⟩), by rw [ht]; exact hP9, va_K.moved hW.alike hK9, hD9⟩, hS.F ht⟩) hS.2.2 dX4_overlap_61
