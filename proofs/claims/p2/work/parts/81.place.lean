/-- the cells of a place, by its route and size -/
def pCells (rt sz : Int32) : Int32 := (if (0 : Int32) < rt &&& 15 then (1 : Int32) else ((1 : Int32) <<< (sz &&& 31)) - 1) <<< (((rt >>> ((4 : Int32) &&& 31)) &&& 15) &&& 31)
def wf_c_addPlace : List Cond := [.code yX0_addPlace cX0_addPlace 10 (some .int), .fieldLink RX0 61 "OwnedPlaces$Code" "places" "I", .fieldLink RX0 30 "OwnedPlaces$Code" "placeVariable" "[I", .fieldLink RX0 33 "OwnedPlaces$Code" "placePath" "[I", .fieldLink RX0 36 "OwnedPlaces$Code" "placeLength" "[I", .fieldLink RX0 39 "OwnedPlaces$Code" "placeRoute" "[I", .fieldLink RX0 42 "OwnedPlaces$Code" "placeType" "[I", .fieldLink RX0 45 "OwnedPlaces$Code" "placeWhere" "[I", .fieldLink RX0 48 "OwnedPlaces$Code" "placeCells" "[I"]
def wp_c_addPlace : List Cond := wf_c_addPlace ++ (wsX00 ++ [])
theorem in_c_addPlace_X0 : ∀ w ∈ wsX00, w ∈ wp_c_addPlace := fun w h => List.mem_append_right _ (List.mem_append_left _ h)
theorem wg_c_addPlace : wf_c_addPlace.all goodWord = true := by decide +kernel
theorem wm_c_addPlace (k : Nat) {w : Cond} (h : wp_c_addPlace[k]? = some w) : w ∈ wp_c_addPlace := List.mem_of_getElem? h
set_option maxHeartbeats 4000000 in
set_option maxRecDepth 100000 in
theorem c_addPlace (l : Launch) (dC : Nat → ClassId) (dI : Nat → Nat → Nat) (c0 co ca cb c3 cw cl cpv cpp cpl cpr cpt cpw cpc car : Nat) (ct cb9 cp9 ca9 : Nat) (kI : ClassId) (fpv fpp fpl fpr fpt fpw fpc : Nat → Int32) (x1 x2 x3 x4 x5 x6 x7 : Int32) (sz : Nat) (hcp : cp9 ≤ 3001) : Met l yX0_addPlace wp_c_addPlace ({ frames := 0, cells := 0, slots := 0, locals := 0 }) (va_Pc [.ref c0, .int x1, .int x2, .int x3, .int x4, .int x5, .int x6, .int x7] (fun U => U.heap.size = sz ∧ va_P (dC, dI) vwCl [(c0, .inr (0, [.ref co, .ref ca, .ref cb, .ref c3, .ref cw, .int (nI ct), .ref cl, .int (nI cb9), .ref cpv, .ref cpp, .ref cpl, .ref cpr, .ref cpt, .ref cpw, .ref cpc, .int (nI cp9), .ref car, .int (nI ca9)])), (cpv, .inl (kI, 3002, .inl fpv)), (cpp, .inl (kI, 3002, .inl fpp)), (cpl, .inl (kI, 3002, .inl fpl)), (cpr, .inl (kI, 3002, .inl fpr)), (cpt, .inl (kI, 3002, .inl fpt)), (cpw, .inl (kI, 3002, .inl fpw)), (cpc, .inl (kI, 3002, .inl fpc))] U.heap ∧ va_K (dC, dI) vwCl [(kI, .int)] U ∧ va_D (fun _ => True) [(c0, .inr (0, [.ref co, .ref ca, .ref cb, .ref c3, .ref cw, .int (nI ct), .ref cl, .int (nI cb9), .ref cpv, .ref cpp, .ref cpl, .ref cpr, .ref cpt, .ref cpw, .ref cpc, .int (nI cp9), .ref car, .int (nI ca9)])), (cpv, .inl (kI, 3002, .inl fpv)), (cpp, .inl (kI, 3002, .inl fpp)), (cpl, .inl (kI, 3002, .inl fpl)), (cpr, .inl (kI, 3002, .inl fpr)), (cpt, .inl (kI, 3002, .inl fpt)), (cpw, .inl (kI, 3002, .inl fpw)), (cpc, .inl (kI, 3002, .inl fpc))])) (va_Qi (fun (r : Int32) (_ : Unit) => r = nI cp9) (fun (_ : Unit) (tS : State) => ∃ (cp2 : Nat) (gpv : Nat → Int32) (gpp : Nat → Int32) (gpl : Nat → Int32) (gpr : Nat → Int32) (gpt : Nat → Int32) (gpw : Nat → Int32) (gpc : Nat → Int32), (cp2 = min (cp9 + 1) 3001) ∧ (gpv = upd fpv cp9 x1) ∧ (gpp = upd fpp cp9 x2) ∧ (gpl = upd fpl cp9 x3) ∧ (gpr = upd fpr cp9 x4) ∧ (gpt = upd fpt cp9 x5) ∧ (gpw = upd fpw cp9 x7) ∧ (gpc = upd fpc cp9 (pCells x4 x6)) ∧ va_P (dC, dI) vwCl [(c0, .inr (0, [.ref co, .ref ca, .ref cb, .ref c3, .ref cw, .int (nI ct), .ref cl, .int (nI cb9), .ref cpv, .ref cpp, .ref cpl, .ref cpr, .ref cpt, .ref cpw, .ref cpc, .int (nI cp2), .ref car, .int (nI ca9)])), (cpv, .inl (kI, 3002, .inl gpv)), (cpp, .inl (kI, 3002, .inl gpp)), (cpl, .inl (kI, 3002, .inl gpl)), (cpr, .inl (kI, 3002, .inl gpr)), (cpt, .inl (kI, 3002, .inl gpt)), (cpw, .inl (kI, 3002, .inl gpw)), (cpc, .inl (kI, 3002, .inl gpc))] tS.heap ∧ va_K (dC, dI) vwCl [(kI, .int)] tS ∧ va_D (va_A [(c0, .inr (0, [.ref co, .ref ca, .ref cb, .ref c3, .ref cw, .int (nI ct), .ref cl, .int (nI cb9), .ref cpv, .ref cpp, .ref cpl, .ref cpr, .ref cpt, .ref cpw, .ref cpc, .int (nI cp9), .ref car, .int (nI ca9)])), (cpv, .inl (kI, 3002, .inl fpv)), (cpp, .inl (kI, 3002, .inl fpp)), (cpl, .inl (kI, 3002, .inl fpl)), (cpr, .inl (kI, 3002, .inl fpr)), (cpt, .inl (kI, 3002, .inl fpt)), (cpw, .inl (kI, 3002, .inl fpw)), (cpc, .inl (kI, 3002, .inl fpc))] sz) [(c0, .inr (0, [.ref co, .ref ca, .ref cb, .ref c3, .ref cw, .int (nI ct), .ref cl, .int (nI cb9), .ref cpv, .ref cpp, .ref cpl, .ref cpr, .ref cpt, .ref cpw, .ref cpc, .int (nI cp2), .ref car, .int (nI ca9)])), (cpv, .inl (kI, 3002, .inl gpv)), (cpp, .inl (kI, 3002, .inl gpp)), (cpl, .inl (kI, 3002, .inl gpl)), (cpr, .inl (kI, 3002, .inl gpr)), (cpt, .inl (kI, 3002, .inl gpt)), (cpw, .inl (kI, 3002, .inl gpw)), (cpc, .inl (kI, 3002, .inl gpc))]) (va_A [(c0, .inr (0, [.ref co, .ref ca, .ref cb, .ref c3, .ref cw, .int (nI ct), .ref cl, .int (nI cb9), .ref cpv, .ref cpp, .ref cpl, .ref cpr, .ref cpt, .ref cpw, .ref cpc, .int (nI cp9), .ref car, .int (nI ca9)])), (cpv, .inl (kI, 3002, .inl fpv)), (cpp, .inl (kI, 3002, .inl fpp)), (cpl, .inl (kI, 3002, .inl fpl)), (cpr, .inl (kI, 3002, .inl fpr)), (cpt, .inl (kI, 3002, .inl fpt)), (cpw, .inl (kI, 3002, .inl fpw)), (cpc, .inl (kI, 3002, .inl fpc))] sz)) 0 0 (va_A [(c0, .inr (0, [.ref co, .ref ca, .ref cb, .ref c3, .ref cw, .int (nI ct), .ref cl, .int (nI cb9), .ref cpv, .ref cpp, .ref cpl, .ref cpr, .ref cpt, .ref cpw, .ref cpc, .int (nI cp9), .ref car, .int (nI ca9)])), (cpv, .inl (kI, 3002, .inl fpv)), (cpp, .inl (kI, 3002, .inl fpp)), (cpl, .inl (kI, 3002, .inl fpl)), (cpr, .inl (kI, 3002, .inl fpr)), (cpt, .inl (kI, 3002, .inl fpt)), (cpw, .inl (kI, 3002, .inl fpw)), (cpc, .inl (kI, 3002, .inl fpc))] sz) := by
  refine Met.ofW (cc := cX0_addPlace) (maxL := 10) (ret := (some .int)) (by decide) rfl ?_
  intro p e s m args below meth c s₁ B hml hv
  obtain ⟨rfl, hsz, hP, hK, hD0⟩ := hv
  have hx := B.exec
  have hb := B.bytes
  have hr := B.returns
  have hts := atoms_spec (ws := wp_c_addPlace) B.pre
  have hown : s.vm.findClass RX0 = some m.cls := findClass_of_methodNamed B.named
  have hlocks := B.notSynchronized
  subst hsz
  have hD := hD0.self (sz := s.heap.size)
  generalize hAe : va_A [(c0, .inr (0, [.ref co, .ref ca, .ref cb, .ref c3, .ref cw, .int (nI ct), .ref cl, .int (nI cb9), .ref cpv, .ref cpp, .ref cpl, .ref cpr, .ref cpt, .ref cpw, .ref cpc, .int (nI cp9), .ref car, .int (nI ca9)])), (cpv, .inl (kI, 3002, .inl fpv)), (cpp, .inl (kI, 3002, .inl fpp)), (cpl, .inl (kI, 3002, .inl fpl)), (cpr, .inl (kI, 3002, .inl fpr)), (cpt, .inl (kI, 3002, .inl fpt)), (cpw, .inl (kI, 3002, .inl fpw)), (cpc, .inl (kI, 3002, .inl fpc))] s.heap.size = A at hD ⊢
  have hA : ∀ q : Nat, s.heap.size ≤ q → A q := fun q h => by rw [← hAe]; exact Or.inr h
  have hS : va_S A s.heap s.heap [] := va_S.rf
  have hP : va_P (dC, dI) vwCl [(c0, .inr (0, [.ref co, .ref ca, .ref cb, .ref c3, .ref cw, .int (nI ct), .ref cl, .int (nI cb9), .ref cpv, .ref cpp, .ref cpl, .ref cpr, .ref cpt, .ref cpw, .ref cpc, .int (nI cp9), .ref car, .int (nI ca9)])), (cpv, .inl (kI, 3002, .inl fpv)), (cpp, .inl (kI, 3002, .inl fpp)), (cpl, .inl (kI, 3002, .inl fpl)), (cpr, .inl (kI, 3002, .inl fpr)), (cpt, .inl (kI, 3002, .inl fpt)), (cpw, .inl (kI, 3002, .inl fpw)), (cpc, .inl (kI, 3002, .inl fpc))] s.heap := hP
  have hl := lv_entry ([.ref c0, .int x1, .int x2, .int x3, .int x4, .int x5, .int x6, .int x7]) (n := 10) (Nat.le_of_ble_eq_true rfl)
  rw [lg_entry_eq]
  generalize (lg_sl ([.ref c0, .int x1, .int x2, .int x3, .int x4, .int x5, .int x6, .int x7]) ++ List.replicate (10 - (lg_sl ([.ref c0, .int x1, .int x2, .int x3, .int x4, .int x5, .int x6, .int x7])).length) Slot.unset).toArray = ls at hl ⊢
  have hl : lv_has ls 10 [(0, .ref c0), (1, .int x1), (2, .int x2), (3, .int x3), (4, .int x4), (5, .int x5), (6, .int x6), (7, .int x7)] := hl
  refine lv_aload_n hx hb dX0_addPlace_0 rfl (lv_at hl 0 rfl) ?_
  refine va_get (D := (dC, dI)) (ci := 0) (v := .int (nI cp9)) (C := RX0) (T := TX0) (N := 18) hx hb hts in_c_addPlace_X0 hown hK hP 0 rfl rfl 15 (by decide) (hts (.fieldLink RX0 61 "OwnedPlaces$Code" "places" "I") (wm_c_addPlace 1 rfl)) (fun _ h9 => h9) rfl dX0_addPlace_1 ?_
  refine lv_istore (lv' := [(8, .int (nI cp9)), (0, .ref c0), (1, .int x1), (2, .int x2), (3, .int x3), (4, .int x4), (5, .int x5), (6, .int x6), (7, .int x7)]) hx hb dX0_addPlace_4 hl (by decide) rfl (fun ls hl => ?_)
  refine lv_iload hx hb dX0_addPlace_6 (lv_at hl 5 rfl) ?_
  refine lv_bipush (v := 15) hx hb dX0_addPlace_8 (by decide) ?_
  refine lv_iand hx hb dX0_addPlace_10 ?_
  refine lv_topi (fun f_1 ef_1 => ?_)
  refine lv_if_le (tgt := 18) hx hb dX0_addPlace_11 (by decide) (fun hc => ?_) (fun hc => ?_)
  · rw [ef_1] at hc
    refine lv_iconst (v := 1) hx hb dX0_addPlace_18 (by decide) ?_
    refine lv_iload hx hb dX0_addPlace_19 (lv_at hl 7 rfl) ?_
    refine lv_ishl hx hb dX0_addPlace_21 ?_
    refine lv_topi (fun f_2 ef_2 => ?_)
    refine lv_iconst (v := 1) hx hb dX0_addPlace_22 (by decide) ?_
    refine lv_isub hx hb dX0_addPlace_23 ?_
    refine lv_topi (fun f_3 ef_3 => ?_)
    refine lv_istore (lv' := [(9, .int f_3), (8, .int (nI cp9)), (0, .ref c0), (1, .int x1), (2, .int x2), (3, .int x3), (4, .int x4), (5, .int x5), (6, .int x6), (7, .int x7)]) hx hb dX0_addPlace_24 hl (by decide) rfl (fun ls hl => ?_)
    refine lv_aload_n hx hb dX0_addPlace_26 rfl (lv_at hl 2 rfl) ?_
    refine va_get (D := (dC, dI)) (ci := 0) (v := .ref cpv) (C := RX0) (T := TX0) (N := 18) hx hb hts in_c_addPlace_X0 hown hK hP 0 rfl rfl 8 (by decide) (hts (.fieldLink RX0 30 "OwnedPlaces$Code" "placeVariable" "[I") (wm_c_addPlace 2 rfl)) (fun _ h9 => h9) rfl dX0_addPlace_27 ?_
    refine lv_iload hx hb dX0_addPlace_30 (lv_at hl 1 rfl) ?_
    refine lv_iload_n hx hb dX0_addPlace_32 rfl (lv_at hl 3 rfl) ?_
    refine va_iast hx hb hK hP hD hS 1 0 rfl rfl (vp_in_nI (by omega) (by decide)) dX0_addPlace_33 (fun H locs hP hD hS => ?_)
    have hP : va_P (dC, dI) vwCl [(c0, .inr (0, [.ref co, .ref ca, .ref cb, .ref c3, .ref cw, .int (nI ct), .ref cl, .int (nI cb9), .ref cpv, .ref cpp, .ref cpl, .ref cpr, .ref cpt, .ref cpw, .ref cpc, .int (nI cp9), .ref car, .int (nI ca9)])), (cpv, .inl (kI, 3002, .inl (upd fpv (nI cp9 : Int32).toNatClampNeg x1))), (cpp, .inl (kI, 3002, .inl fpp)), (cpl, .inl (kI, 3002, .inl fpl)), (cpr, .inl (kI, 3002, .inl fpr)), (cpt, .inl (kI, 3002, .inl fpt)), (cpw, .inl (kI, 3002, .inl fpw)), (cpc, .inl (kI, 3002, .inl fpc))] H := hP
    have hD : va_D A [(c0, .inr (0, [.ref co, .ref ca, .ref cb, .ref c3, .ref cw, .int (nI ct), .ref cl, .int (nI cb9), .ref cpv, .ref cpp, .ref cpl, .ref cpr, .ref cpt, .ref cpw, .ref cpc, .int (nI cp9), .ref car, .int (nI ca9)])), (cpv, .inl (kI, 3002, .inl (upd fpv (nI cp9 : Int32).toNatClampNeg x1))), (cpp, .inl (kI, 3002, .inl fpp)), (cpl, .inl (kI, 3002, .inl fpl)), (cpr, .inl (kI, 3002, .inl fpr)), (cpt, .inl (kI, 3002, .inl fpt)), (cpw, .inl (kI, 3002, .inl fpw)), (cpc, .inl (kI, 3002, .inl fpc))] := hD
    obtain ⟨g09, eg09⟩ : ∃ zZ : Nat → Int32, zZ = upd fpv (nI cp9 : Int32).toNatClampNeg x1 := ⟨_, rfl⟩
    rw [← eg09] at hP hD
    refine lv_aload_n hx hb dX0_addPlace_34 rfl (lv_at hl 2 rfl) ?_
    refine va_get (D := (dC, dI)) (ci := 0) (v := .ref cpp) (C := RX0) (T := TX0) (N := 18) hx hb hts in_c_addPlace_X0 hown hK hP 0 rfl rfl 9 (by decide) (hts (.fieldLink RX0 33 "OwnedPlaces$Code" "placePath" "[I") (wm_c_addPlace 3 rfl)) (fun _ h9 => h9) rfl dX0_addPlace_35 ?_
    refine lv_iload hx hb dX0_addPlace_38 (lv_at hl 1 rfl) ?_
    refine lv_iload_n hx hb dX0_addPlace_40 rfl (lv_at hl 4 rfl) ?_
    refine va_iast hx hb hK hP hD hS 2 0 rfl rfl (vp_in_nI (by omega) (by decide)) dX0_addPlace_41 (fun H locs hP hD hS => ?_)
    have hP : va_P (dC, dI) vwCl [(c0, .inr (0, [.ref co, .ref ca, .ref cb, .ref c3, .ref cw, .int (nI ct), .ref cl, .int (nI cb9), .ref cpv, .ref cpp, .ref cpl, .ref cpr, .ref cpt, .ref cpw, .ref cpc, .int (nI cp9), .ref car, .int (nI ca9)])), (cpv, .inl (kI, 3002, .inl g09)), (cpp, .inl (kI, 3002, .inl (upd fpp (nI cp9 : Int32).toNatClampNeg x2))), (cpl, .inl (kI, 3002, .inl fpl)), (cpr, .inl (kI, 3002, .inl fpr)), (cpt, .inl (kI, 3002, .inl fpt)), (cpw, .inl (kI, 3002, .inl fpw)), (cpc, .inl (kI, 3002, .inl fpc))] H := hP
    have hD : va_D A [(c0, .inr (0, [.ref co, .ref ca, .ref cb, .ref c3, .ref cw, .int (nI ct), .ref cl, .int (nI cb9), .ref cpv, .ref cpp, .ref cpl, .ref cpr, .ref cpt, .ref cpw, .ref cpc, .int (nI cp9), .ref car, .int (nI ca9)])), (cpv, .inl (kI, 3002, .inl g09)), (cpp, .inl (kI, 3002, .inl (upd fpp (nI cp9 : Int32).toNatClampNeg x2))), (cpl, .inl (kI, 3002, .inl fpl)), (cpr, .inl (kI, 3002, .inl fpr)), (cpt, .inl (kI, 3002, .inl fpt)), (cpw, .inl (kI, 3002, .inl fpw)), (cpc, .inl (kI, 3002, .inl fpc))] := hD
    obtain ⟨g19, eg19⟩ : ∃ zZ : Nat → Int32, zZ = upd fpp (nI cp9 : Int32).toNatClampNeg x2 := ⟨_, rfl⟩
    rw [← eg19] at hP hD
    refine lv_aload_n hx hb dX0_addPlace_42 rfl (lv_at hl 2 rfl) ?_
    refine va_get (D := (dC, dI)) (ci := 0) (v := .ref cpl) (C := RX0) (T := TX0) (N := 18) hx hb hts in_c_addPlace_X0 hown hK hP 0 rfl rfl 10 (by decide) (hts (.fieldLink RX0 36 "OwnedPlaces$Code" "placeLength" "[I") (wm_c_addPlace 4 rfl)) (fun _ h9 => h9) rfl dX0_addPlace_43 ?_
    refine lv_iload hx hb dX0_addPlace_46 (lv_at hl 1 rfl) ?_
    refine lv_iload_n hx hb dX0_addPlace_48 rfl (lv_at hl 5 rfl) ?_
    refine va_iast hx hb hK hP hD hS 3 0 rfl rfl (vp_in_nI (by omega) (by decide)) dX0_addPlace_49 (fun H locs hP hD hS => ?_)
    have hP : va_P (dC, dI) vwCl [(c0, .inr (0, [.ref co, .ref ca, .ref cb, .ref c3, .ref cw, .int (nI ct), .ref cl, .int (nI cb9), .ref cpv, .ref cpp, .ref cpl, .ref cpr, .ref cpt, .ref cpw, .ref cpc, .int (nI cp9), .ref car, .int (nI ca9)])), (cpv, .inl (kI, 3002, .inl g09)), (cpp, .inl (kI, 3002, .inl g19)), (cpl, .inl (kI, 3002, .inl (upd fpl (nI cp9 : Int32).toNatClampNeg x3))), (cpr, .inl (kI, 3002, .inl fpr)), (cpt, .inl (kI, 3002, .inl fpt)), (cpw, .inl (kI, 3002, .inl fpw)), (cpc, .inl (kI, 3002, .inl fpc))] H := hP
    have hD : va_D A [(c0, .inr (0, [.ref co, .ref ca, .ref cb, .ref c3, .ref cw, .int (nI ct), .ref cl, .int (nI cb9), .ref cpv, .ref cpp, .ref cpl, .ref cpr, .ref cpt, .ref cpw, .ref cpc, .int (nI cp9), .ref car, .int (nI ca9)])), (cpv, .inl (kI, 3002, .inl g09)), (cpp, .inl (kI, 3002, .inl g19)), (cpl, .inl (kI, 3002, .inl (upd fpl (nI cp9 : Int32).toNatClampNeg x3))), (cpr, .inl (kI, 3002, .inl fpr)), (cpt, .inl (kI, 3002, .inl fpt)), (cpw, .inl (kI, 3002, .inl fpw)), (cpc, .inl (kI, 3002, .inl fpc))] := hD
    obtain ⟨g29, eg29⟩ : ∃ zZ : Nat → Int32, zZ = upd fpl (nI cp9 : Int32).toNatClampNeg x3 := ⟨_, rfl⟩
    rw [← eg29] at hP hD
    refine lv_aload_n hx hb dX0_addPlace_50 rfl (lv_at hl 2 rfl) ?_
    refine va_get (D := (dC, dI)) (ci := 0) (v := .ref cpr) (C := RX0) (T := TX0) (N := 18) hx hb hts in_c_addPlace_X0 hown hK hP 0 rfl rfl 11 (by decide) (hts (.fieldLink RX0 39 "OwnedPlaces$Code" "placeRoute" "[I") (wm_c_addPlace 5 rfl)) (fun _ h9 => h9) rfl dX0_addPlace_51 ?_
    refine lv_iload hx hb dX0_addPlace_54 (lv_at hl 1 rfl) ?_
    refine lv_iload hx hb dX0_addPlace_56 (lv_at hl 6 rfl) ?_
    refine va_iast hx hb hK hP hD hS 4 0 rfl rfl (vp_in_nI (by omega) (by decide)) dX0_addPlace_58 (fun H locs hP hD hS => ?_)
    have hP : va_P (dC, dI) vwCl [(c0, .inr (0, [.ref co, .ref ca, .ref cb, .ref c3, .ref cw, .int (nI ct), .ref cl, .int (nI cb9), .ref cpv, .ref cpp, .ref cpl, .ref cpr, .ref cpt, .ref cpw, .ref cpc, .int (nI cp9), .ref car, .int (nI ca9)])), (cpv, .inl (kI, 3002, .inl g09)), (cpp, .inl (kI, 3002, .inl g19)), (cpl, .inl (kI, 3002, .inl g29)), (cpr, .inl (kI, 3002, .inl (upd fpr (nI cp9 : Int32).toNatClampNeg x4))), (cpt, .inl (kI, 3002, .inl fpt)), (cpw, .inl (kI, 3002, .inl fpw)), (cpc, .inl (kI, 3002, .inl fpc))] H := hP
    have hD : va_D A [(c0, .inr (0, [.ref co, .ref ca, .ref cb, .ref c3, .ref cw, .int (nI ct), .ref cl, .int (nI cb9), .ref cpv, .ref cpp, .ref cpl, .ref cpr, .ref cpt, .ref cpw, .ref cpc, .int (nI cp9), .ref car, .int (nI ca9)])), (cpv, .inl (kI, 3002, .inl g09)), (cpp, .inl (kI, 3002, .inl g19)), (cpl, .inl (kI, 3002, .inl g29)), (cpr, .inl (kI, 3002, .inl (upd fpr (nI cp9 : Int32).toNatClampNeg x4))), (cpt, .inl (kI, 3002, .inl fpt)), (cpw, .inl (kI, 3002, .inl fpw)), (cpc, .inl (kI, 3002, .inl fpc))] := hD
    obtain ⟨g39, eg39⟩ : ∃ zZ : Nat → Int32, zZ = upd fpr (nI cp9 : Int32).toNatClampNeg x4 := ⟨_, rfl⟩
    rw [← eg39] at hP hD
    refine lv_aload_n hx hb dX0_addPlace_59 rfl (lv_at hl 2 rfl) ?_
    refine va_get (D := (dC, dI)) (ci := 0) (v := .ref cpt) (C := RX0) (T := TX0) (N := 18) hx hb hts in_c_addPlace_X0 hown hK hP 0 rfl rfl 12 (by decide) (hts (.fieldLink RX0 42 "OwnedPlaces$Code" "placeType" "[I") (wm_c_addPlace 6 rfl)) (fun _ h9 => h9) rfl dX0_addPlace_60 ?_
    refine lv_iload hx hb dX0_addPlace_63 (lv_at hl 1 rfl) ?_
    refine lv_iload hx hb dX0_addPlace_65 (lv_at hl 7 rfl) ?_
    refine va_iast hx hb hK hP hD hS 5 0 rfl rfl (vp_in_nI (by omega) (by decide)) dX0_addPlace_67 (fun H locs hP hD hS => ?_)
    have hP : va_P (dC, dI) vwCl [(c0, .inr (0, [.ref co, .ref ca, .ref cb, .ref c3, .ref cw, .int (nI ct), .ref cl, .int (nI cb9), .ref cpv, .ref cpp, .ref cpl, .ref cpr, .ref cpt, .ref cpw, .ref cpc, .int (nI cp9), .ref car, .int (nI ca9)])), (cpv, .inl (kI, 3002, .inl g09)), (cpp, .inl (kI, 3002, .inl g19)), (cpl, .inl (kI, 3002, .inl g29)), (cpr, .inl (kI, 3002, .inl g39)), (cpt, .inl (kI, 3002, .inl (upd fpt (nI cp9 : Int32).toNatClampNeg x5))), (cpw, .inl (kI, 3002, .inl fpw)), (cpc, .inl (kI, 3002, .inl fpc))] H := hP
    have hD : va_D A [(c0, .inr (0, [.ref co, .ref ca, .ref cb, .ref c3, .ref cw, .int (nI ct), .ref cl, .int (nI cb9), .ref cpv, .ref cpp, .ref cpl, .ref cpr, .ref cpt, .ref cpw, .ref cpc, .int (nI cp9), .ref car, .int (nI ca9)])), (cpv, .inl (kI, 3002, .inl g09)), (cpp, .inl (kI, 3002, .inl g19)), (cpl, .inl (kI, 3002, .inl g29)), (cpr, .inl (kI, 3002, .inl g39)), (cpt, .inl (kI, 3002, .inl (upd fpt (nI cp9 : Int32).toNatClampNeg x5))), (cpw, .inl (kI, 3002, .inl fpw)), (cpc, .inl (kI, 3002, .inl fpc))] := hD
    obtain ⟨g49, eg49⟩ : ∃ zZ : Nat → Int32, zZ = upd fpt (nI cp9 : Int32).toNatClampNeg x5 := ⟨_, rfl⟩
    rw [← eg49] at hP hD
    refine lv_aload_n hx hb dX0_addPlace_68 rfl (lv_at hl 2 rfl) ?_
    refine va_get (D := (dC, dI)) (ci := 0) (v := .ref cpw) (C := RX0) (T := TX0) (N := 18) hx hb hts in_c_addPlace_X0 hown hK hP 0 rfl rfl 13 (by decide) (hts (.fieldLink RX0 45 "OwnedPlaces$Code" "placeWhere" "[I") (wm_c_addPlace 7 rfl)) (fun _ h9 => h9) rfl dX0_addPlace_69 ?_
    refine lv_iload hx hb dX0_addPlace_72 (lv_at hl 1 rfl) ?_
    refine lv_iload hx hb dX0_addPlace_74 (lv_at hl 9 rfl) ?_
    refine va_iast hx hb hK hP hD hS 6 0 rfl rfl (vp_in_nI (by omega) (by decide)) dX0_addPlace_76 (fun H locs hP hD hS => ?_)
    have hP : va_P (dC, dI) vwCl [(c0, .inr (0, [.ref co, .ref ca, .ref cb, .ref c3, .ref cw, .int (nI ct), .ref cl, .int (nI cb9), .ref cpv, .ref cpp, .ref cpl, .ref cpr, .ref cpt, .ref cpw, .ref cpc, .int (nI cp9), .ref car, .int (nI ca9)])), (cpv, .inl (kI, 3002, .inl g09)), (cpp, .inl (kI, 3002, .inl g19)), (cpl, .inl (kI, 3002, .inl g29)), (cpr, .inl (kI, 3002, .inl g39)), (cpt, .inl (kI, 3002, .inl g49)), (cpw, .inl (kI, 3002, .inl (upd fpw (nI cp9 : Int32).toNatClampNeg x7))), (cpc, .inl (kI, 3002, .inl fpc))] H := hP
    have hD : va_D A [(c0, .inr (0, [.ref co, .ref ca, .ref cb, .ref c3, .ref cw, .int (nI ct), .ref cl, .int (nI cb9), .ref cpv, .ref cpp, .ref cpl, .ref cpr, .ref cpt, .ref cpw, .ref cpc, .int (nI cp9), .ref car, .int (nI ca9)])), (cpv, .inl (kI, 3002, .inl g09)), (cpp, .inl (kI, 3002, .inl g19)), (cpl, .inl (kI, 3002, .inl g29)), (cpr, .inl (kI, 3002, .inl g39)), (cpt, .inl (kI, 3002, .inl g49)), (cpw, .inl (kI, 3002, .inl (upd fpw (nI cp9 : Int32).toNatClampNeg x7))), (cpc, .inl (kI, 3002, .inl fpc))] := hD
    obtain ⟨g59, eg59⟩ : ∃ zZ : Nat → Int32, zZ = upd fpw (nI cp9 : Int32).toNatClampNeg x7 := ⟨_, rfl⟩
    rw [← eg59] at hP hD
    refine lv_aload_n hx hb dX0_addPlace_77 rfl (lv_at hl 2 rfl) ?_
    refine va_get (D := (dC, dI)) (ci := 0) (v := .ref cpc) (C := RX0) (T := TX0) (N := 18) hx hb hts in_c_addPlace_X0 hown hK hP 0 rfl rfl 14 (by decide) (hts (.fieldLink RX0 48 "OwnedPlaces$Code" "placeCells" "[I") (wm_c_addPlace 8 rfl)) (fun _ h9 => h9) rfl dX0_addPlace_78 ?_
    refine lv_iload hx hb dX0_addPlace_81 (lv_at hl 1 rfl) ?_
    refine lv_iload hx hb dX0_addPlace_83 (lv_at hl 0 rfl) ?_
    refine lv_iload hx hb dX0_addPlace_85 (lv_at hl 6 rfl) ?_
    refine lv_iconst (v := 4) hx hb dX0_addPlace_87 (by decide) ?_
    refine lv_ishr hx hb dX0_addPlace_88 ?_
    refine lv_topi (fun f_4 ef_4 => ?_)
    refine lv_bipush (v := 15) hx hb dX0_addPlace_89 (by decide) ?_
    refine lv_iand hx hb dX0_addPlace_91 ?_
    refine lv_topi (fun f_5 ef_5 => ?_)
    refine lv_ishl hx hb dX0_addPlace_92 ?_
    refine lv_topi (fun f_6 ef_6 => ?_)
    have hsh : f_6 = pCells x4 x6 := by unfold pCells; rw [if_neg (Int32.not_lt.mpr hc)]; subst_vars; rfl
    obtain rfl : f_6 = pCells x4 x6 := hsh
    refine va_iast hx hb hK hP hD hS 7 0 rfl rfl (vp_in_nI (by omega) (by decide)) dX0_addPlace_93 (fun H locs hP hD hS => ?_)
    have hP : va_P (dC, dI) vwCl [(c0, .inr (0, [.ref co, .ref ca, .ref cb, .ref c3, .ref cw, .int (nI ct), .ref cl, .int (nI cb9), .ref cpv, .ref cpp, .ref cpl, .ref cpr, .ref cpt, .ref cpw, .ref cpc, .int (nI cp9), .ref car, .int (nI ca9)])), (cpv, .inl (kI, 3002, .inl g09)), (cpp, .inl (kI, 3002, .inl g19)), (cpl, .inl (kI, 3002, .inl g29)), (cpr, .inl (kI, 3002, .inl g39)), (cpt, .inl (kI, 3002, .inl g49)), (cpw, .inl (kI, 3002, .inl g59)), (cpc, .inl (kI, 3002, .inl (upd fpc (nI cp9 : Int32).toNatClampNeg (pCells x4 x6))))] H := hP
    have hD : va_D A [(c0, .inr (0, [.ref co, .ref ca, .ref cb, .ref c3, .ref cw, .int (nI ct), .ref cl, .int (nI cb9), .ref cpv, .ref cpp, .ref cpl, .ref cpr, .ref cpt, .ref cpw, .ref cpc, .int (nI cp9), .ref car, .int (nI ca9)])), (cpv, .inl (kI, 3002, .inl g09)), (cpp, .inl (kI, 3002, .inl g19)), (cpl, .inl (kI, 3002, .inl g29)), (cpr, .inl (kI, 3002, .inl g39)), (cpt, .inl (kI, 3002, .inl g49)), (cpw, .inl (kI, 3002, .inl g59)), (cpc, .inl (kI, 3002, .inl (upd fpc (nI cp9 : Int32).toNatClampNeg (pCells x4 x6))))] := hD
    obtain ⟨g69, eg69⟩ : ∃ zZ : Nat → Int32, zZ = upd fpc (nI cp9 : Int32).toNatClampNeg (pCells x4 x6) := ⟨_, rfl⟩
    rw [← eg69] at hP hD
    refine lv_aload_n hx hb dX0_addPlace_94 rfl (lv_at hl 2 rfl) ?_
    refine va_get (D := (dC, dI)) (ci := 0) (v := .int (nI cp9)) (C := RX0) (T := TX0) (N := 18) hx hb hts in_c_addPlace_X0 hown hK hP 0 rfl rfl 15 (by decide) (hts (.fieldLink RX0 61 "OwnedPlaces$Code" "places" "I") (wm_c_addPlace 1 rfl)) (fun _ h9 => h9) rfl dX0_addPlace_95 ?_
    refine lv_sipush (v := 3001) hx hb dX0_addPlace_98 (by decide) ?_
    refine lv_icmp_ge (tgt := 114) hx hb dX0_addPlace_101 (by decide) (fun hd => ?_) (fun hd => ?_)
    · have he : cp9 = 3001 := by have := (nI_leI (a := 3001) (b := cp9) (by decide) (by omega)).mp hd; omega
      refine lv_iload hx hb dX0_addPlace_114 (lv_at hl 1 rfl) ?_
      have hP9 := hP.sub (ws' := [(c0, .inr (0, [.ref co, .ref ca, .ref cb, .ref c3, .ref cw, .int (nI ct), .ref cl, .int (nI cb9), .ref cpv, .ref cpp, .ref cpl, .ref cpr, .ref cpt, .ref cpw, .ref cpc, .int (nI cp9), .ref car, .int (nI ca9)])), (cpv, .inl (kI, 3002, .inl g09)), (cpp, .inl (kI, 3002, .inl g19)), (cpl, .inl (kI, 3002, .inl g29)), (cpr, .inl (kI, 3002, .inl g39)), (cpt, .inl (kI, 3002, .inl g49)), (cpw, .inl (kI, 3002, .inl g59)), (cpc, .inl (kI, 3002, .inl g69))]) [0, 1, 2, 3, 4, 5, 6, 7] rfl
      have hD9 := hD.sub (ws' := [(c0, .inr (0, [.ref co, .ref ca, .ref cb, .ref c3, .ref cw, .int (nI ct), .ref cl, .int (nI cb9), .ref cpv, .ref cpp, .ref cpl, .ref cpr, .ref cpt, .ref cpw, .ref cpc, .int (nI cp9), .ref car, .int (nI ca9)])), (cpv, .inl (kI, 3002, .inl g09)), (cpp, .inl (kI, 3002, .inl g19)), (cpl, .inl (kI, 3002, .inl g29)), (cpr, .inl (kI, 3002, .inl g39)), (cpt, .inl (kI, 3002, .inl g49)), (cpw, .inl (kI, 3002, .inl g59)), (cpc, .inl (kI, 3002, .inl g69))]) [0, 1, 2, 3, 4, 5, 6, 7] (by decide) rfl
      have hK9 := hK.sub (tys' := [(kI, .int)]) [0] rfl
      exact W.iret (v := nI cp9) hx hb hr (fun tS ht hW => ⟨⟨(nI cp9), (), rfl, rfl, cp9, g09, g19, g29, g39, g49, g59, g69, by omega, by rw [eg09, nI_clamp (by omega)], by rw [eg19, nI_clamp (by omega)], by rw [eg29, nI_clamp (by omega)], by rw [eg39, nI_clamp (by omega)], by rw [eg49, nI_clamp (by omega)], by rw [eg59, nI_clamp (by omega)], by rw [eg69, nI_clamp (by omega)], by rw [ht]; exact hP9, va_K.moved hW.alike hK9, hD9⟩, hS.F ht⟩) hS.2.2 dX0_addPlace_116
    · have hlt : cp9 < 3001 := by rcases Nat.lt_or_ge cp9 3001 with q | q; exact q; exact absurd (nI_le (a := 3001) q (by omega)) hd
      refine lv_aload_n hx hb dX0_addPlace_104 rfl (lv_at hl 2 rfl) ?_
      refine lv_dup hx hb dX0_addPlace_105 rfl ?_
      refine va_get (D := (dC, dI)) (ci := 0) (v := .int (nI cp9)) (C := RX0) (T := TX0) (N := 18) hx hb hts in_c_addPlace_X0 hown hK hP 0 rfl rfl 15 (by decide) (hts (.fieldLink RX0 61 "OwnedPlaces$Code" "places" "I") (wm_c_addPlace 1 rfl)) (fun _ h9 => h9) rfl dX0_addPlace_106 ?_
      refine lv_iconst (v := 1) hx hb dX0_addPlace_109 (by decide) ?_
      refine lv_iadd hx hb dX0_addPlace_110 ?_
      refine lv_topi (fun f_7 ef_7 => ?_)
      obtain rfl : f_7 = nI (cp9 + 1) := ef_7.trans (nI_1 _)
      refine va_put (D := (dC, dI)) (ci := 0) (v := .int (nI (cp9 + 1))) (ty := .int) (C := RX0) (T := TX0) (N := 18) hx hb hts in_c_addPlace_X0 tyX0 tyX0_ok nmX0 hown hK hP hD hS 0 rfl rfl 15 (by decide) (hts (.fieldLink RX0 61 "OwnedPlaces$Code" "places" "I") (wm_c_addPlace 1 rfl)) (fun _ h9 => h9) rfl (by decide +kernel) rfl rfl (Nat.le_of_ble_eq_true rfl) dX0_addPlace_111 (fun H locs hP hD hS => ?_)
      have hP : va_P (dC, dI) vwCl [(c0, .inr (0, [.ref co, .ref ca, .ref cb, .ref c3, .ref cw, .int (nI ct), .ref cl, .int (nI cb9), .ref cpv, .ref cpp, .ref cpl, .ref cpr, .ref cpt, .ref cpw, .ref cpc, .int (nI (cp9 + 1)), .ref car, .int (nI ca9)])), (cpv, .inl (kI, 3002, .inl g09)), (cpp, .inl (kI, 3002, .inl g19)), (cpl, .inl (kI, 3002, .inl g29)), (cpr, .inl (kI, 3002, .inl g39)), (cpt, .inl (kI, 3002, .inl g49)), (cpw, .inl (kI, 3002, .inl g59)), (cpc, .inl (kI, 3002, .inl g69))] H := hP
      have hD : va_D A [(c0, .inr (0, [.ref co, .ref ca, .ref cb, .ref c3, .ref cw, .int (nI ct), .ref cl, .int (nI cb9), .ref cpv, .ref cpp, .ref cpl, .ref cpr, .ref cpt, .ref cpw, .ref cpc, .int (nI (cp9 + 1)), .ref car, .int (nI ca9)])), (cpv, .inl (kI, 3002, .inl g09)), (cpp, .inl (kI, 3002, .inl g19)), (cpl, .inl (kI, 3002, .inl g29)), (cpr, .inl (kI, 3002, .inl g39)), (cpt, .inl (kI, 3002, .inl g49)), (cpw, .inl (kI, 3002, .inl g59)), (cpc, .inl (kI, 3002, .inl g69))] := hD
      refine lv_iload hx hb dX0_addPlace_114 (lv_at hl 1 rfl) ?_
      have hP9 := hP.sub (ws' := [(c0, .inr (0, [.ref co, .ref ca, .ref cb, .ref c3, .ref cw, .int (nI ct), .ref cl, .int (nI cb9), .ref cpv, .ref cpp, .ref cpl, .ref cpr, .ref cpt, .ref cpw, .ref cpc, .int (nI (cp9 + 1)), .ref car, .int (nI ca9)])), (cpv, .inl (kI, 3002, .inl g09)), (cpp, .inl (kI, 3002, .inl g19)), (cpl, .inl (kI, 3002, .inl g29)), (cpr, .inl (kI, 3002, .inl g39)), (cpt, .inl (kI, 3002, .inl g49)), (cpw, .inl (kI, 3002, .inl g59)), (cpc, .inl (kI, 3002, .inl g69))]) [0, 1, 2, 3, 4, 5, 6, 7] rfl
      have hD9 := hD.sub (ws' := [(c0, .inr (0, [.ref co, .ref ca, .ref cb, .ref c3, .ref cw, .int (nI ct), .ref cl, .int (nI cb9), .ref cpv, .ref cpp, .ref cpl, .ref cpr, .ref cpt, .ref cpw, .ref cpc, .int (nI (cp9 + 1)), .ref car, .int (nI ca9)])), (cpv, .inl (kI, 3002, .inl g09)), (cpp, .inl (kI, 3002, .inl g19)), (cpl, .inl (kI, 3002, .inl g29)), (cpr, .inl (kI, 3002, .inl g39)), (cpt, .inl (kI, 3002, .inl g49)), (cpw, .inl (kI, 3002, .inl g59)), (cpc, .inl (kI, 3002, .inl g69))]) [0, 1, 2, 3, 4, 5, 6, 7] (by decide) rfl
      have hK9 := hK.sub (tys' := [(kI, .int)]) [0] rfl
      exact W.iret (v := nI cp9) hx hb hr (fun tS ht hW => ⟨⟨(nI cp9), (), rfl, rfl, cp9 + 1, g09, g19, g29, g39, g49, g59, g69, by omega, by rw [eg09, nI_clamp (by omega)], by rw [eg19, nI_clamp (by omega)], by rw [eg29, nI_clamp (by omega)], by rw [eg39, nI_clamp (by omega)], by rw [eg49, nI_clamp (by omega)], by rw [eg59, nI_clamp (by omega)], by rw [eg69, nI_clamp (by omega)], by rw [ht]; exact hP9, va_K.moved hW.alike hK9, hD9⟩, hS.F ht⟩) hS.2.2 dX0_addPlace_116
  · rw [ef_1] at hc
    refine lv_iconst (v := 1) hx hb dX0_addPlace_14 (by decide) ?_
    refine lv_goto (tgt := 24) hx hb dX0_addPlace_15 (by decide) ?_
    refine lv_istore (lv' := [(9, .int 1), (8, .int (nI cp9)), (0, .ref c0), (1, .int x1), (2, .int x2), (3, .int x3), (4, .int x4), (5, .int x5), (6, .int x6), (7, .int x7)]) hx hb dX0_addPlace_24 hl (by decide) rfl (fun ls hl => ?_)
    refine lv_aload_n hx hb dX0_addPlace_26 rfl (lv_at hl 2 rfl) ?_
    refine va_get (D := (dC, dI)) (ci := 0) (v := .ref cpv) (C := RX0) (T := TX0) (N := 18) hx hb hts in_c_addPlace_X0 hown hK hP 0 rfl rfl 8 (by decide) (hts (.fieldLink RX0 30 "OwnedPlaces$Code" "placeVariable" "[I") (wm_c_addPlace 2 rfl)) (fun _ h9 => h9) rfl dX0_addPlace_27 ?_
    refine lv_iload hx hb dX0_addPlace_30 (lv_at hl 1 rfl) ?_
    refine lv_iload_n hx hb dX0_addPlace_32 rfl (lv_at hl 3 rfl) ?_
    refine va_iast hx hb hK hP hD hS 1 0 rfl rfl (vp_in_nI (by omega) (by decide)) dX0_addPlace_33 (fun H locs hP hD hS => ?_)
    have hP : va_P (dC, dI) vwCl [(c0, .inr (0, [.ref co, .ref ca, .ref cb, .ref c3, .ref cw, .int (nI ct), .ref cl, .int (nI cb9), .ref cpv, .ref cpp, .ref cpl, .ref cpr, .ref cpt, .ref cpw, .ref cpc, .int (nI cp9), .ref car, .int (nI ca9)])), (cpv, .inl (kI, 3002, .inl (upd fpv (nI cp9 : Int32).toNatClampNeg x1))), (cpp, .inl (kI, 3002, .inl fpp)), (cpl, .inl (kI, 3002, .inl fpl)), (cpr, .inl (kI, 3002, .inl fpr)), (cpt, .inl (kI, 3002, .inl fpt)), (cpw, .inl (kI, 3002, .inl fpw)), (cpc, .inl (kI, 3002, .inl fpc))] H := hP
    have hD : va_D A [(c0, .inr (0, [.ref co, .ref ca, .ref cb, .ref c3, .ref cw, .int (nI ct), .ref cl, .int (nI cb9), .ref cpv, .ref cpp, .ref cpl, .ref cpr, .ref cpt, .ref cpw, .ref cpc, .int (nI cp9), .ref car, .int (nI ca9)])), (cpv, .inl (kI, 3002, .inl (upd fpv (nI cp9 : Int32).toNatClampNeg x1))), (cpp, .inl (kI, 3002, .inl fpp)), (cpl, .inl (kI, 3002, .inl fpl)), (cpr, .inl (kI, 3002, .inl fpr)), (cpt, .inl (kI, 3002, .inl fpt)), (cpw, .inl (kI, 3002, .inl fpw)), (cpc, .inl (kI, 3002, .inl fpc))] := hD
    obtain ⟨g09, eg09⟩ : ∃ zZ : Nat → Int32, zZ = upd fpv (nI cp9 : Int32).toNatClampNeg x1 := ⟨_, rfl⟩
    rw [← eg09] at hP hD
    refine lv_aload_n hx hb dX0_addPlace_34 rfl (lv_at hl 2 rfl) ?_
    refine va_get (D := (dC, dI)) (ci := 0) (v := .ref cpp) (C := RX0) (T := TX0) (N := 18) hx hb hts in_c_addPlace_X0 hown hK hP 0 rfl rfl 9 (by decide) (hts (.fieldLink RX0 33 "OwnedPlaces$Code" "placePath" "[I") (wm_c_addPlace 3 rfl)) (fun _ h9 => h9) rfl dX0_addPlace_35 ?_
    refine lv_iload hx hb dX0_addPlace_38 (lv_at hl 1 rfl) ?_
    refine lv_iload_n hx hb dX0_addPlace_40 rfl (lv_at hl 4 rfl) ?_
    refine va_iast hx hb hK hP hD hS 2 0 rfl rfl (vp_in_nI (by omega) (by decide)) dX0_addPlace_41 (fun H locs hP hD hS => ?_)
    have hP : va_P (dC, dI) vwCl [(c0, .inr (0, [.ref co, .ref ca, .ref cb, .ref c3, .ref cw, .int (nI ct), .ref cl, .int (nI cb9), .ref cpv, .ref cpp, .ref cpl, .ref cpr, .ref cpt, .ref cpw, .ref cpc, .int (nI cp9), .ref car, .int (nI ca9)])), (cpv, .inl (kI, 3002, .inl g09)), (cpp, .inl (kI, 3002, .inl (upd fpp (nI cp9 : Int32).toNatClampNeg x2))), (cpl, .inl (kI, 3002, .inl fpl)), (cpr, .inl (kI, 3002, .inl fpr)), (cpt, .inl (kI, 3002, .inl fpt)), (cpw, .inl (kI, 3002, .inl fpw)), (cpc, .inl (kI, 3002, .inl fpc))] H := hP
    have hD : va_D A [(c0, .inr (0, [.ref co, .ref ca, .ref cb, .ref c3, .ref cw, .int (nI ct), .ref cl, .int (nI cb9), .ref cpv, .ref cpp, .ref cpl, .ref cpr, .ref cpt, .ref cpw, .ref cpc, .int (nI cp9), .ref car, .int (nI ca9)])), (cpv, .inl (kI, 3002, .inl g09)), (cpp, .inl (kI, 3002, .inl (upd fpp (nI cp9 : Int32).toNatClampNeg x2))), (cpl, .inl (kI, 3002, .inl fpl)), (cpr, .inl (kI, 3002, .inl fpr)), (cpt, .inl (kI, 3002, .inl fpt)), (cpw, .inl (kI, 3002, .inl fpw)), (cpc, .inl (kI, 3002, .inl fpc))] := hD
    obtain ⟨g19, eg19⟩ : ∃ zZ : Nat → Int32, zZ = upd fpp (nI cp9 : Int32).toNatClampNeg x2 := ⟨_, rfl⟩
    rw [← eg19] at hP hD
    refine lv_aload_n hx hb dX0_addPlace_42 rfl (lv_at hl 2 rfl) ?_
    refine va_get (D := (dC, dI)) (ci := 0) (v := .ref cpl) (C := RX0) (T := TX0) (N := 18) hx hb hts in_c_addPlace_X0 hown hK hP 0 rfl rfl 10 (by decide) (hts (.fieldLink RX0 36 "OwnedPlaces$Code" "placeLength" "[I") (wm_c_addPlace 4 rfl)) (fun _ h9 => h9) rfl dX0_addPlace_43 ?_
    refine lv_iload hx hb dX0_addPlace_46 (lv_at hl 1 rfl) ?_
    refine lv_iload_n hx hb dX0_addPlace_48 rfl (lv_at hl 5 rfl) ?_
    refine va_iast hx hb hK hP hD hS 3 0 rfl rfl (vp_in_nI (by omega) (by decide)) dX0_addPlace_49 (fun H locs hP hD hS => ?_)
    have hP : va_P (dC, dI) vwCl [(c0, .inr (0, [.ref co, .ref ca, .ref cb, .ref c3, .ref cw, .int (nI ct), .ref cl, .int (nI cb9), .ref cpv, .ref cpp, .ref cpl, .ref cpr, .ref cpt, .ref cpw, .ref cpc, .int (nI cp9), .ref car, .int (nI ca9)])), (cpv, .inl (kI, 3002, .inl g09)), (cpp, .inl (kI, 3002, .inl g19)), (cpl, .inl (kI, 3002, .inl (upd fpl (nI cp9 : Int32).toNatClampNeg x3))), (cpr, .inl (kI, 3002, .inl fpr)), (cpt, .inl (kI, 3002, .inl fpt)), (cpw, .inl (kI, 3002, .inl fpw)), (cpc, .inl (kI, 3002, .inl fpc))] H := hP
    have hD : va_D A [(c0, .inr (0, [.ref co, .ref ca, .ref cb, .ref c3, .ref cw, .int (nI ct), .ref cl, .int (nI cb9), .ref cpv, .ref cpp, .ref cpl, .ref cpr, .ref cpt, .ref cpw, .ref cpc, .int (nI cp9), .ref car, .int (nI ca9)])), (cpv, .inl (kI, 3002, .inl g09)), (cpp, .inl (kI, 3002, .inl g19)), (cpl, .inl (kI, 3002, .inl (upd fpl (nI cp9 : Int32).toNatClampNeg x3))), (cpr, .inl (kI, 3002, .inl fpr)), (cpt, .inl (kI, 3002, .inl fpt)), (cpw, .inl (kI, 3002, .inl fpw)), (cpc, .inl (kI, 3002, .inl fpc))] := hD
    obtain ⟨g29, eg29⟩ : ∃ zZ : Nat → Int32, zZ = upd fpl (nI cp9 : Int32).toNatClampNeg x3 := ⟨_, rfl⟩
    rw [← eg29] at hP hD
    refine lv_aload_n hx hb dX0_addPlace_50 rfl (lv_at hl 2 rfl) ?_
    refine va_get (D := (dC, dI)) (ci := 0) (v := .ref cpr) (C := RX0) (T := TX0) (N := 18) hx hb hts in_c_addPlace_X0 hown hK hP 0 rfl rfl 11 (by decide) (hts (.fieldLink RX0 39 "OwnedPlaces$Code" "placeRoute" "[I") (wm_c_addPlace 5 rfl)) (fun _ h9 => h9) rfl dX0_addPlace_51 ?_
    refine lv_iload hx hb dX0_addPlace_54 (lv_at hl 1 rfl) ?_
    refine lv_iload hx hb dX0_addPlace_56 (lv_at hl 6 rfl) ?_
    refine va_iast hx hb hK hP hD hS 4 0 rfl rfl (vp_in_nI (by omega) (by decide)) dX0_addPlace_58 (fun H locs hP hD hS => ?_)
    have hP : va_P (dC, dI) vwCl [(c0, .inr (0, [.ref co, .ref ca, .ref cb, .ref c3, .ref cw, .int (nI ct), .ref cl, .int (nI cb9), .ref cpv, .ref cpp, .ref cpl, .ref cpr, .ref cpt, .ref cpw, .ref cpc, .int (nI cp9), .ref car, .int (nI ca9)])), (cpv, .inl (kI, 3002, .inl g09)), (cpp, .inl (kI, 3002, .inl g19)), (cpl, .inl (kI, 3002, .inl g29)), (cpr, .inl (kI, 3002, .inl (upd fpr (nI cp9 : Int32).toNatClampNeg x4))), (cpt, .inl (kI, 3002, .inl fpt)), (cpw, .inl (kI, 3002, .inl fpw)), (cpc, .inl (kI, 3002, .inl fpc))] H := hP
    have hD : va_D A [(c0, .inr (0, [.ref co, .ref ca, .ref cb, .ref c3, .ref cw, .int (nI ct), .ref cl, .int (nI cb9), .ref cpv, .ref cpp, .ref cpl, .ref cpr, .ref cpt, .ref cpw, .ref cpc, .int (nI cp9), .ref car, .int (nI ca9)])), (cpv, .inl (kI, 3002, .inl g09)), (cpp, .inl (kI, 3002, .inl g19)), (cpl, .inl (kI, 3002, .inl g29)), (cpr, .inl (kI, 3002, .inl (upd fpr (nI cp9 : Int32).toNatClampNeg x4))), (cpt, .inl (kI, 3002, .inl fpt)), (cpw, .inl (kI, 3002, .inl fpw)), (cpc, .inl (kI, 3002, .inl fpc))] := hD
    obtain ⟨g39, eg39⟩ : ∃ zZ : Nat → Int32, zZ = upd fpr (nI cp9 : Int32).toNatClampNeg x4 := ⟨_, rfl⟩
    rw [← eg39] at hP hD
    refine lv_aload_n hx hb dX0_addPlace_59 rfl (lv_at hl 2 rfl) ?_
    refine va_get (D := (dC, dI)) (ci := 0) (v := .ref cpt) (C := RX0) (T := TX0) (N := 18) hx hb hts in_c_addPlace_X0 hown hK hP 0 rfl rfl 12 (by decide) (hts (.fieldLink RX0 42 "OwnedPlaces$Code" "placeType" "[I") (wm_c_addPlace 6 rfl)) (fun _ h9 => h9) rfl dX0_addPlace_60 ?_
    refine lv_iload hx hb dX0_addPlace_63 (lv_at hl 1 rfl) ?_
    refine lv_iload hx hb dX0_addPlace_65 (lv_at hl 7 rfl) ?_
    refine va_iast hx hb hK hP hD hS 5 0 rfl rfl (vp_in_nI (by omega) (by decide)) dX0_addPlace_67 (fun H locs hP hD hS => ?_)
    have hP : va_P (dC, dI) vwCl [(c0, .inr (0, [.ref co, .ref ca, .ref cb, .ref c3, .ref cw, .int (nI ct), .ref cl, .int (nI cb9), .ref cpv, .ref cpp, .ref cpl, .ref cpr, .ref cpt, .ref cpw, .ref cpc, .int (nI cp9), .ref car, .int (nI ca9)])), (cpv, .inl (kI, 3002, .inl g09)), (cpp, .inl (kI, 3002, .inl g19)), (cpl, .inl (kI, 3002, .inl g29)), (cpr, .inl (kI, 3002, .inl g39)), (cpt, .inl (kI, 3002, .inl (upd fpt (nI cp9 : Int32).toNatClampNeg x5))), (cpw, .inl (kI, 3002, .inl fpw)), (cpc, .inl (kI, 3002, .inl fpc))] H := hP
    have hD : va_D A [(c0, .inr (0, [.ref co, .ref ca, .ref cb, .ref c3, .ref cw, .int (nI ct), .ref cl, .int (nI cb9), .ref cpv, .ref cpp, .ref cpl, .ref cpr, .ref cpt, .ref cpw, .ref cpc, .int (nI cp9), .ref car, .int (nI ca9)])), (cpv, .inl (kI, 3002, .inl g09)), (cpp, .inl (kI, 3002, .inl g19)), (cpl, .inl (kI, 3002, .inl g29)), (cpr, .inl (kI, 3002, .inl g39)), (cpt, .inl (kI, 3002, .inl (upd fpt (nI cp9 : Int32).toNatClampNeg x5))), (cpw, .inl (kI, 3002, .inl fpw)), (cpc, .inl (kI, 3002, .inl fpc))] := hD
    obtain ⟨g49, eg49⟩ : ∃ zZ : Nat → Int32, zZ = upd fpt (nI cp9 : Int32).toNatClampNeg x5 := ⟨_, rfl⟩
    rw [← eg49] at hP hD
    refine lv_aload_n hx hb dX0_addPlace_68 rfl (lv_at hl 2 rfl) ?_
    refine va_get (D := (dC, dI)) (ci := 0) (v := .ref cpw) (C := RX0) (T := TX0) (N := 18) hx hb hts in_c_addPlace_X0 hown hK hP 0 rfl rfl 13 (by decide) (hts (.fieldLink RX0 45 "OwnedPlaces$Code" "placeWhere" "[I") (wm_c_addPlace 7 rfl)) (fun _ h9 => h9) rfl dX0_addPlace_69 ?_
    refine lv_iload hx hb dX0_addPlace_72 (lv_at hl 1 rfl) ?_
    refine lv_iload hx hb dX0_addPlace_74 (lv_at hl 9 rfl) ?_
    refine va_iast hx hb hK hP hD hS 6 0 rfl rfl (vp_in_nI (by omega) (by decide)) dX0_addPlace_76 (fun H locs hP hD hS => ?_)
    have hP : va_P (dC, dI) vwCl [(c0, .inr (0, [.ref co, .ref ca, .ref cb, .ref c3, .ref cw, .int (nI ct), .ref cl, .int (nI cb9), .ref cpv, .ref cpp, .ref cpl, .ref cpr, .ref cpt, .ref cpw, .ref cpc, .int (nI cp9), .ref car, .int (nI ca9)])), (cpv, .inl (kI, 3002, .inl g09)), (cpp, .inl (kI, 3002, .inl g19)), (cpl, .inl (kI, 3002, .inl g29)), (cpr, .inl (kI, 3002, .inl g39)), (cpt, .inl (kI, 3002, .inl g49)), (cpw, .inl (kI, 3002, .inl (upd fpw (nI cp9 : Int32).toNatClampNeg x7))), (cpc, .inl (kI, 3002, .inl fpc))] H := hP
    have hD : va_D A [(c0, .inr (0, [.ref co, .ref ca, .ref cb, .ref c3, .ref cw, .int (nI ct), .ref cl, .int (nI cb9), .ref cpv, .ref cpp, .ref cpl, .ref cpr, .ref cpt, .ref cpw, .ref cpc, .int (nI cp9), .ref car, .int (nI ca9)])), (cpv, .inl (kI, 3002, .inl g09)), (cpp, .inl (kI, 3002, .inl g19)), (cpl, .inl (kI, 3002, .inl g29)), (cpr, .inl (kI, 3002, .inl g39)), (cpt, .inl (kI, 3002, .inl g49)), (cpw, .inl (kI, 3002, .inl (upd fpw (nI cp9 : Int32).toNatClampNeg x7))), (cpc, .inl (kI, 3002, .inl fpc))] := hD
    obtain ⟨g59, eg59⟩ : ∃ zZ : Nat → Int32, zZ = upd fpw (nI cp9 : Int32).toNatClampNeg x7 := ⟨_, rfl⟩
    rw [← eg59] at hP hD
    refine lv_aload_n hx hb dX0_addPlace_77 rfl (lv_at hl 2 rfl) ?_
    refine va_get (D := (dC, dI)) (ci := 0) (v := .ref cpc) (C := RX0) (T := TX0) (N := 18) hx hb hts in_c_addPlace_X0 hown hK hP 0 rfl rfl 14 (by decide) (hts (.fieldLink RX0 48 "OwnedPlaces$Code" "placeCells" "[I") (wm_c_addPlace 8 rfl)) (fun _ h9 => h9) rfl dX0_addPlace_78 ?_
    refine lv_iload hx hb dX0_addPlace_81 (lv_at hl 1 rfl) ?_
    refine lv_iload hx hb dX0_addPlace_83 (lv_at hl 0 rfl) ?_
    refine lv_iload hx hb dX0_addPlace_85 (lv_at hl 6 rfl) ?_
    refine lv_iconst (v := 4) hx hb dX0_addPlace_87 (by decide) ?_
    refine lv_ishr hx hb dX0_addPlace_88 ?_
    refine lv_topi (fun f_2 ef_2 => ?_)
    refine lv_bipush (v := 15) hx hb dX0_addPlace_89 (by decide) ?_
    refine lv_iand hx hb dX0_addPlace_91 ?_
    refine lv_topi (fun f_3 ef_3 => ?_)
    refine lv_ishl hx hb dX0_addPlace_92 ?_
    refine lv_topi (fun f_4 ef_4 => ?_)
    have hsh : f_4 = pCells x4 x6 := by unfold pCells; rw [if_pos (Int32.not_le.mp hc)]; subst_vars; rfl
    obtain rfl : f_4 = pCells x4 x6 := hsh
    refine va_iast hx hb hK hP hD hS 7 0 rfl rfl (vp_in_nI (by omega) (by decide)) dX0_addPlace_93 (fun H locs hP hD hS => ?_)
    have hP : va_P (dC, dI) vwCl [(c0, .inr (0, [.ref co, .ref ca, .ref cb, .ref c3, .ref cw, .int (nI ct), .ref cl, .int (nI cb9), .ref cpv, .ref cpp, .ref cpl, .ref cpr, .ref cpt, .ref cpw, .ref cpc, .int (nI cp9), .ref car, .int (nI ca9)])), (cpv, .inl (kI, 3002, .inl g09)), (cpp, .inl (kI, 3002, .inl g19)), (cpl, .inl (kI, 3002, .inl g29)), (cpr, .inl (kI, 3002, .inl g39)), (cpt, .inl (kI, 3002, .inl g49)), (cpw, .inl (kI, 3002, .inl g59)), (cpc, .inl (kI, 3002, .inl (upd fpc (nI cp9 : Int32).toNatClampNeg (pCells x4 x6))))] H := hP
    have hD : va_D A [(c0, .inr (0, [.ref co, .ref ca, .ref cb, .ref c3, .ref cw, .int (nI ct), .ref cl, .int (nI cb9), .ref cpv, .ref cpp, .ref cpl, .ref cpr, .ref cpt, .ref cpw, .ref cpc, .int (nI cp9), .ref car, .int (nI ca9)])), (cpv, .inl (kI, 3002, .inl g09)), (cpp, .inl (kI, 3002, .inl g19)), (cpl, .inl (kI, 3002, .inl g29)), (cpr, .inl (kI, 3002, .inl g39)), (cpt, .inl (kI, 3002, .inl g49)), (cpw, .inl (kI, 3002, .inl g59)), (cpc, .inl (kI, 3002, .inl (upd fpc (nI cp9 : Int32).toNatClampNeg (pCells x4 x6))))] := hD
    obtain ⟨g69, eg69⟩ : ∃ zZ : Nat → Int32, zZ = upd fpc (nI cp9 : Int32).toNatClampNeg (pCells x4 x6) := ⟨_, rfl⟩
    rw [← eg69] at hP hD
    refine lv_aload_n hx hb dX0_addPlace_94 rfl (lv_at hl 2 rfl) ?_
    refine va_get (D := (dC, dI)) (ci := 0) (v := .int (nI cp9)) (C := RX0) (T := TX0) (N := 18) hx hb hts in_c_addPlace_X0 hown hK hP 0 rfl rfl 15 (by decide) (hts (.fieldLink RX0 61 "OwnedPlaces$Code" "places" "I") (wm_c_addPlace 1 rfl)) (fun _ h9 => h9) rfl dX0_addPlace_95 ?_
    refine lv_sipush (v := 3001) hx hb dX0_addPlace_98 (by decide) ?_
    refine lv_icmp_ge (tgt := 114) hx hb dX0_addPlace_101 (by decide) (fun hd => ?_) (fun hd => ?_)
    · have he : cp9 = 3001 := by have := (nI_leI (a := 3001) (b := cp9) (by decide) (by omega)).mp hd; omega
      refine lv_iload hx hb dX0_addPlace_114 (lv_at hl 1 rfl) ?_
      have hP9 := hP.sub (ws' := [(c0, .inr (0, [.ref co, .ref ca, .ref cb, .ref c3, .ref cw, .int (nI ct), .ref cl, .int (nI cb9), .ref cpv, .ref cpp, .ref cpl, .ref cpr, .ref cpt, .ref cpw, .ref cpc, .int (nI cp9), .ref car, .int (nI ca9)])), (cpv, .inl (kI, 3002, .inl g09)), (cpp, .inl (kI, 3002, .inl g19)), (cpl, .inl (kI, 3002, .inl g29)), (cpr, .inl (kI, 3002, .inl g39)), (cpt, .inl (kI, 3002, .inl g49)), (cpw, .inl (kI, 3002, .inl g59)), (cpc, .inl (kI, 3002, .inl g69))]) [0, 1, 2, 3, 4, 5, 6, 7] rfl
      have hD9 := hD.sub (ws' := [(c0, .inr (0, [.ref co, .ref ca, .ref cb, .ref c3, .ref cw, .int (nI ct), .ref cl, .int (nI cb9), .ref cpv, .ref cpp, .ref cpl, .ref cpr, .ref cpt, .ref cpw, .ref cpc, .int (nI cp9), .ref car, .int (nI ca9)])), (cpv, .inl (kI, 3002, .inl g09)), (cpp, .inl (kI, 3002, .inl g19)), (cpl, .inl (kI, 3002, .inl g29)), (cpr, .inl (kI, 3002, .inl g39)), (cpt, .inl (kI, 3002, .inl g49)), (cpw, .inl (kI, 3002, .inl g59)), (cpc, .inl (kI, 3002, .inl g69))]) [0, 1, 2, 3, 4, 5, 6, 7] (by decide) rfl
      have hK9 := hK.sub (tys' := [(kI, .int)]) [0] rfl
      exact W.iret (v := nI cp9) hx hb hr (fun tS ht hW => ⟨⟨(nI cp9), (), rfl, rfl, cp9, g09, g19, g29, g39, g49, g59, g69, by omega, by rw [eg09, nI_clamp (by omega)], by rw [eg19, nI_clamp (by omega)], by rw [eg29, nI_clamp (by omega)], by rw [eg39, nI_clamp (by omega)], by rw [eg49, nI_clamp (by omega)], by rw [eg59, nI_clamp (by omega)], by rw [eg69, nI_clamp (by omega)], by rw [ht]; exact hP9, va_K.moved hW.alike hK9, hD9⟩, hS.F ht⟩) hS.2.2 dX0_addPlace_116
    · have hlt : cp9 < 3001 := by rcases Nat.lt_or_ge cp9 3001 with q | q; exact q; exact absurd (nI_le (a := 3001) q (by omega)) hd
      refine lv_aload_n hx hb dX0_addPlace_104 rfl (lv_at hl 2 rfl) ?_
      refine lv_dup hx hb dX0_addPlace_105 rfl ?_
      refine va_get (D := (dC, dI)) (ci := 0) (v := .int (nI cp9)) (C := RX0) (T := TX0) (N := 18) hx hb hts in_c_addPlace_X0 hown hK hP 0 rfl rfl 15 (by decide) (hts (.fieldLink RX0 61 "OwnedPlaces$Code" "places" "I") (wm_c_addPlace 1 rfl)) (fun _ h9 => h9) rfl dX0_addPlace_106 ?_
      refine lv_iconst (v := 1) hx hb dX0_addPlace_109 (by decide) ?_
      refine lv_iadd hx hb dX0_addPlace_110 ?_
      refine lv_topi (fun f_5 ef_5 => ?_)
      obtain rfl : f_5 = nI (cp9 + 1) := ef_5.trans (nI_1 _)
      refine va_put (D := (dC, dI)) (ci := 0) (v := .int (nI (cp9 + 1))) (ty := .int) (C := RX0) (T := TX0) (N := 18) hx hb hts in_c_addPlace_X0 tyX0 tyX0_ok nmX0 hown hK hP hD hS 0 rfl rfl 15 (by decide) (hts (.fieldLink RX0 61 "OwnedPlaces$Code" "places" "I") (wm_c_addPlace 1 rfl)) (fun _ h9 => h9) rfl (by decide +kernel) rfl rfl (Nat.le_of_ble_eq_true rfl) dX0_addPlace_111 (fun H locs hP hD hS => ?_)
      have hP : va_P (dC, dI) vwCl [(c0, .inr (0, [.ref co, .ref ca, .ref cb, .ref c3, .ref cw, .int (nI ct), .ref cl, .int (nI cb9), .ref cpv, .ref cpp, .ref cpl, .ref cpr, .ref cpt, .ref cpw, .ref cpc, .int (nI (cp9 + 1)), .ref car, .int (nI ca9)])), (cpv, .inl (kI, 3002, .inl g09)), (cpp, .inl (kI, 3002, .inl g19)), (cpl, .inl (kI, 3002, .inl g29)), (cpr, .inl (kI, 3002, .inl g39)), (cpt, .inl (kI, 3002, .inl g49)), (cpw, .inl (kI, 3002, .inl g59)), (cpc, .inl (kI, 3002, .inl g69))] H := hP
      have hD : va_D A [(c0, .inr (0, [.ref co, .ref ca, .ref cb, .ref c3, .ref cw, .int (nI ct), .ref cl, .int (nI cb9), .ref cpv, .ref cpp, .ref cpl, .ref cpr, .ref cpt, .ref cpw, .ref cpc, .int (nI (cp9 + 1)), .ref car, .int (nI ca9)])), (cpv, .inl (kI, 3002, .inl g09)), (cpp, .inl (kI, 3002, .inl g19)), (cpl, .inl (kI, 3002, .inl g29)), (cpr, .inl (kI, 3002, .inl g39)), (cpt, .inl (kI, 3002, .inl g49)), (cpw, .inl (kI, 3002, .inl g59)), (cpc, .inl (kI, 3002, .inl g69))] := hD
      refine lv_iload hx hb dX0_addPlace_114 (lv_at hl 1 rfl) ?_
      have hP9 := hP.sub (ws' := [(c0, .inr (0, [.ref co, .ref ca, .ref cb, .ref c3, .ref cw, .int (nI ct), .ref cl, .int (nI cb9), .ref cpv, .ref cpp, .ref cpl, .ref cpr, .ref cpt, .ref cpw, .ref cpc, .int (nI (cp9 + 1)), .ref car, .int (nI ca9)])), (cpv, .inl (kI, 3002, .inl g09)), (cpp, .inl (kI, 3002, .inl g19)), (cpl, .inl (kI, 3002, .inl g29)), (cpr, .inl (kI, 3002, .inl g39)), (cpt, .inl (kI, 3002, .inl g49)), (cpw, .inl (kI, 3002, .inl g59)), (cpc, .inl (kI, 3002, .inl g69))]) [0, 1, 2, 3, 4, 5, 6, 7] rfl
      have hD9 := hD.sub (ws' := [(c0, .inr (0, [.ref co, .ref ca, .ref cb, .ref c3, .ref cw, .int (nI ct), .ref cl, .int (nI cb9), .ref cpv, .ref cpp, .ref cpl, .ref cpr, .ref cpt, .ref cpw, .ref cpc, .int (nI (cp9 + 1)), .ref car, .int (nI ca9)])), (cpv, .inl (kI, 3002, .inl g09)), (cpp, .inl (kI, 3002, .inl g19)), (cpl, .inl (kI, 3002, .inl g29)), (cpr, .inl (kI, 3002, .inl g39)), (cpt, .inl (kI, 3002, .inl g49)), (cpw, .inl (kI, 3002, .inl g59)), (cpc, .inl (kI, 3002, .inl g69))]) [0, 1, 2, 3, 4, 5, 6, 7] (by decide) rfl
      have hK9 := hK.sub (tys' := [(kI, .int)]) [0] rfl
      exact W.iret (v := nI cp9) hx hb hr (fun tS ht hW => ⟨⟨(nI cp9), (), rfl, rfl, cp9 + 1, g09, g19, g29, g39, g49, g59, g69, by omega, by rw [eg09, nI_clamp (by omega)], by rw [eg19, nI_clamp (by omega)], by rw [eg29, nI_clamp (by omega)], by rw [eg39, nI_clamp (by omega)], by rw [eg49, nI_clamp (by omega)], by rw [eg59, nI_clamp (by omega)], by rw [eg69, nI_clamp (by omega)], by rw [ht]; exact hP9, va_K.moved hW.alike hK9, hD9⟩, hS.F ht⟩) hS.2.2 dX0_addPlace_116
