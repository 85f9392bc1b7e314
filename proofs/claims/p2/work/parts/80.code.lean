def wf_c_cclear : List Cond := [.code yX0_clear cX0_clear 1 none, .fieldLink RX0 54 "OwnedPlaces$Code" "total" "I", .fieldLink RX0 58 "OwnedPlaces$Code" "labels" "I", .fieldLink RX0 61 "OwnedPlaces$Code" "places" "I", .fieldLink RX0 64 "OwnedPlaces$Code" "arms" "I"]
def wp_c_cclear : List Cond := wf_c_cclear ++ (wsX00 ++ [])
theorem in_c_cclear_X0 : ∀ w ∈ wsX00, w ∈ wp_c_cclear := fun w h => List.mem_append_right _ (List.mem_append_left _ h)
theorem wg_c_cclear : wf_c_cclear.all goodWord = true := by decide +kernel
theorem wm_c_cclear (k : Nat) {w : Cond} (h : wp_c_cclear[k]? = some w) : w ∈ wp_c_cclear := List.mem_of_getElem? h
set_option maxHeartbeats 4000000 in
set_option maxRecDepth 100000 in
theorem c_cclear (l : Launch) (dC : Nat → ClassId) (dI : Nat → Nat → Nat) (c0 co ca cb c3 cw cl cpv cpp cpl cpr cpt cpw cpc car : Nat) (z1 z2 z3 z4 : Int32) (sz : Nat) : Met l yX0_clear wp_c_cclear ({ frames := 0, cells := 0, slots := 0, locals := 0 }) (va_Pc [.ref c0] (fun U => U.heap.size = sz ∧ va_P (dC, dI) vwCl [(c0, .inr (0, [.ref co, .ref ca, .ref cb, .ref c3, .ref cw, .int z1, .ref cl, .int z2, .ref cpv, .ref cpp, .ref cpl, .ref cpr, .ref cpt, .ref cpw, .ref cpc, .int z3, .ref car, .int z4]))] U.heap ∧ va_K (dC, dI) vwCl [] U ∧ va_D (fun _ => True) [(c0, .inr (0, [.ref co, .ref ca, .ref cb, .ref c3, .ref cw, .int z1, .ref cl, .int z2, .ref cpv, .ref cpp, .ref cpl, .ref cpr, .ref cpt, .ref cpw, .ref cpc, .int z3, .ref car, .int z4]))])) (va_Qv (fun _ : Unit => True) (fun (_ : Unit) (tS : State) => va_P (dC, dI) vwCl [(c0, .inr (0, [.ref co, .ref ca, .ref cb, .ref c3, .ref cw, .int 0, .ref cl, .int 0, .ref cpv, .ref cpp, .ref cpl, .ref cpr, .ref cpt, .ref cpw, .ref cpc, .int 0, .ref car, .int 0]))] tS.heap ∧ va_K (dC, dI) vwCl [] tS ∧ va_D (va_A [(c0, .inr (0, [.ref co, .ref ca, .ref cb, .ref c3, .ref cw, .int z1, .ref cl, .int z2, .ref cpv, .ref cpp, .ref cpl, .ref cpr, .ref cpt, .ref cpw, .ref cpc, .int z3, .ref car, .int z4]))] sz) [(c0, .inr (0, [.ref co, .ref ca, .ref cb, .ref c3, .ref cw, .int 0, .ref cl, .int 0, .ref cpv, .ref cpp, .ref cpl, .ref cpr, .ref cpt, .ref cpw, .ref cpc, .int 0, .ref car, .int 0]))]) (va_A [(c0, .inr (0, [.ref co, .ref ca, .ref cb, .ref c3, .ref cw, .int z1, .ref cl, .int z2, .ref cpv, .ref cpp, .ref cpl, .ref cpr, .ref cpt, .ref cpw, .ref cpc, .int z3, .ref car, .int z4]))] sz)) 0 0 (va_A [(c0, .inr (0, [.ref co, .ref ca, .ref cb, .ref c3, .ref cw, .int z1, .ref cl, .int z2, .ref cpv, .ref cpp, .ref cpl, .ref cpr, .ref cpt, .ref cpw, .ref cpc, .int z3, .ref car, .int z4]))] sz) := by
  refine Met.ofW (cc := cX0_clear) (maxL := 1) (ret := none) (by decide) rfl ?_
  intro p e s m args below meth c s₁ B hml hv
  obtain ⟨rfl, hsz, hP, hK, hD0⟩ := hv
  have hx := B.exec
  have hb := B.bytes
  have hr := B.returns
  have hts := atoms_spec (ws := wp_c_cclear) B.pre
  have hown : s.vm.findClass RX0 = some m.cls := findClass_of_methodNamed B.named
  have hlocks := B.notSynchronized
  subst hsz
  have hD := hD0.self (sz := s.heap.size)
  generalize hAe : va_A [(c0, .inr (0, [.ref co, .ref ca, .ref cb, .ref c3, .ref cw, .int z1, .ref cl, .int z2, .ref cpv, .ref cpp, .ref cpl, .ref cpr, .ref cpt, .ref cpw, .ref cpc, .int z3, .ref car, .int z4]))] s.heap.size = A at hD ⊢
  have hA : ∀ q : Nat, s.heap.size ≤ q → A q := fun q h => by rw [← hAe]; exact Or.inr h
  have hS : va_S A s.heap s.heap [] := va_S.rf
  have hP : va_P (dC, dI) vwCl [(c0, .inr (0, [.ref co, .ref ca, .ref cb, .ref c3, .ref cw, .int z1, .ref cl, .int z2, .ref cpv, .ref cpp, .ref cpl, .ref cpr, .ref cpt, .ref cpw, .ref cpc, .int z3, .ref car, .int z4]))] s.heap := hP
  have hl := lv_entry ([.ref c0]) (n := 1) (Nat.le_of_ble_eq_true rfl)
  rw [lg_entry_eq]
  generalize (lg_sl ([.ref c0]) ++ List.replicate (1 - (lg_sl ([.ref c0])).length) Slot.unset).toArray = ls at hl ⊢
  have hl : lv_has ls 1 [(0, .ref c0)] := hl
  refine lv_aload_n hx hb dX0_clear_0 rfl (lv_at hl 0 rfl) ?_
  refine lv_iconst (v := 0) hx hb dX0_clear_1 (by decide) ?_
  refine va_put (D := (dC, dI)) (ci := 0) (v := .int 0) (ty := .int) (C := RX0) (T := TX0) (N := 18) hx hb hts in_c_cclear_X0 tyX0 tyX0_ok nmX0 hown hK hP hD hS 0 rfl rfl 5 (by decide) (hts (.fieldLink RX0 54 "OwnedPlaces$Code" "total" "I") (wm_c_cclear 1 rfl)) (fun _ h9 => h9) rfl (by decide +kernel) rfl rfl (Nat.le_of_ble_eq_true rfl) dX0_clear_2 (fun H locs hP hD hS => ?_)
  have hP : va_P (dC, dI) vwCl [(c0, .inr (0, [.ref co, .ref ca, .ref cb, .ref c3, .ref cw, .int 0, .ref cl, .int z2, .ref cpv, .ref cpp, .ref cpl, .ref cpr, .ref cpt, .ref cpw, .ref cpc, .int z3, .ref car, .int z4]))] H := hP
  have hD : va_D A [(c0, .inr (0, [.ref co, .ref ca, .ref cb, .ref c3, .ref cw, .int 0, .ref cl, .int z2, .ref cpv, .ref cpp, .ref cpl, .ref cpr, .ref cpt, .ref cpw, .ref cpc, .int z3, .ref car, .int z4]))] := hD
  refine lv_aload_n hx hb dX0_clear_5 rfl (lv_at hl 0 rfl) ?_
  refine lv_iconst (v := 0) hx hb dX0_clear_6 (by decide) ?_
  refine va_put (D := (dC, dI)) (ci := 0) (v := .int 0) (ty := .int) (C := RX0) (T := TX0) (N := 18) hx hb hts in_c_cclear_X0 tyX0 tyX0_ok nmX0 hown hK hP hD hS 0 rfl rfl 7 (by decide) (hts (.fieldLink RX0 58 "OwnedPlaces$Code" "labels" "I") (wm_c_cclear 2 rfl)) (fun _ h9 => h9) rfl (by decide +kernel) rfl rfl (Nat.le_of_ble_eq_true rfl) dX0_clear_7 (fun H locs hP hD hS => ?_)
  have hP : va_P (dC, dI) vwCl [(c0, .inr (0, [.ref co, .ref ca, .ref cb, .ref c3, .ref cw, .int 0, .ref cl, .int 0, .ref cpv, .ref cpp, .ref cpl, .ref cpr, .ref cpt, .ref cpw, .ref cpc, .int z3, .ref car, .int z4]))] H := hP
  have hD : va_D A [(c0, .inr (0, [.ref co, .ref ca, .ref cb, .ref c3, .ref cw, .int 0, .ref cl, .int 0, .ref cpv, .ref cpp, .ref cpl, .ref cpr, .ref cpt, .ref cpw, .ref cpc, .int z3, .ref car, .int z4]))] := hD
  refine lv_aload_n hx hb dX0_clear_10 rfl (lv_at hl 0 rfl) ?_
  refine lv_iconst (v := 0) hx hb dX0_clear_11 (by decide) ?_
  refine va_put (D := (dC, dI)) (ci := 0) (v := .int 0) (ty := .int) (C := RX0) (T := TX0) (N := 18) hx hb hts in_c_cclear_X0 tyX0 tyX0_ok nmX0 hown hK hP hD hS 0 rfl rfl 15 (by decide) (hts (.fieldLink RX0 61 "OwnedPlaces$Code" "places" "I") (wm_c_cclear 3 rfl)) (fun _ h9 => h9) rfl (by decide +kernel) rfl rfl (Nat.le_of_ble_eq_true rfl) dX0_clear_12 (fun H locs hP hD hS => ?_)
  have hP : va_P (dC, dI) vwCl [(c0, .inr (0, [.ref co, .ref ca, .ref cb, .ref c3, .ref cw, .int 0, .ref cl, .int 0, .ref cpv, .ref cpp, .ref cpl, .ref cpr, .ref cpt, .ref cpw, .ref cpc, .int 0, .ref car, .int z4]))] H := hP
  have hD : va_D A [(c0, .inr (0, [.ref co, .ref ca, .ref cb, .ref c3, .ref cw, .int 0, .ref cl, .int 0, .ref cpv, .ref cpp, .ref cpl, .ref cpr, .ref cpt, .ref cpw, .ref cpc, .int 0, .ref car, .int z4]))] := hD
  refine lv_aload_n hx hb dX0_clear_15 rfl (lv_at hl 0 rfl) ?_
  refine lv_iconst (v := 0) hx hb dX0_clear_16 (by decide) ?_
  refine va_put (D := (dC, dI)) (ci := 0) (v := .int 0) (ty := .int) (C := RX0) (T := TX0) (N := 18) hx hb hts in_c_cclear_X0 tyX0 tyX0_ok nmX0 hown hK hP hD hS 0 rfl rfl 17 (by decide) (hts (.fieldLink RX0 64 "OwnedPlaces$Code" "arms" "I") (wm_c_cclear 4 rfl)) (fun _ h9 => h9) rfl (by decide +kernel) rfl rfl (Nat.le_of_ble_eq_true rfl) dX0_clear_17 (fun H locs hP hD hS => ?_)
  have hP : va_P (dC, dI) vwCl [(c0, .inr (0, [.ref co, .ref ca, .ref cb, .ref c3, .ref cw, .int 0, .ref cl, .int 0, .ref cpv, .ref cpp, .ref cpl, .ref cpr, .ref cpt, .ref cpw, .ref cpc, .int 0, .ref car, .int 0]))] H := hP
  have hD : va_D A [(c0, .inr (0, [.ref co, .ref ca, .ref cb, .ref c3, .ref cw, .int 0, .ref cl, .int 0, .ref cpv, .ref cpp, .ref cpl, .ref cpr, .ref cpt, .ref cpw, .ref cpc, .int 0, .ref car, .int 0]))] := hD
  have hP9 := hP.sub (ws' := [(c0, .inr (0, [.ref co, .ref ca, .ref cb, .ref c3, .ref cw, .int 0, .ref cl, .int 0, .ref cpv, .ref cpp, .ref cpl, .ref cpr, .ref cpt, .ref cpw, .ref cpc, .int 0, .ref car, .int 0]))]) [0] rfl
  have hD9 := hD.sub (ws' := [(c0, .inr (0, [.ref co, .ref ca, .ref cb, .ref c3, .ref cw, .int 0, .ref cl, .int 0, .ref cpv, .ref cpp, .ref cpl, .ref cpr, .ref cpt, .ref cpw, .ref cpc, .int 0, .ref car, .int 0]))]) [0] (by decide) rfl
  have hK9 := hK.sub (tys' := []) [] rfl
  exact W.vret hx hb hr (fun tS ht hW => ⟨⟨(), rfl, trivial, by rw [ht]; exact hP9, va_K.moved hW.alike hK9, hD9⟩, hS.F ht⟩) hS.2.2 dX0_clear_20
/-- one instruction more -/
def insA (ct ct2 : Nat) (f g : Nat → Int32) (x : Int32) : Prop := (ct < 6000 ∧ ct2 = ct + 1 ∧ g = upd f ct x) ∨ (ct = 6000 ∧ ct2 = ct ∧ g = f)
def wf_c_cadd : List Cond := [.code yX0_add cX0_add 6 none, .fieldLink RX0 54 "OwnedPlaces$Code" "total" "I", .fieldLink RX0 9 "OwnedPlaces$Code" "op" "[I", .fieldLink RX0 15 "OwnedPlaces$Code" "a" "[I", .fieldLink RX0 18 "OwnedPlaces$Code" "b" "[I", .fieldLink RX0 21 "OwnedPlaces$Code" "c" "[I", .fieldLink RX0 24 "OwnedPlaces$Code" "where" "[I"]
def wp_c_cadd : List Cond := wf_c_cadd ++ (wsX00 ++ [])
theorem in_c_cadd_X0 : ∀ w ∈ wsX00, w ∈ wp_c_cadd := fun w h => List.mem_append_right _ (List.mem_append_left _ h)
theorem wg_c_cadd : wf_c_cadd.all goodWord = true := by decide +kernel
theorem wm_c_cadd (k : Nat) {w : Cond} (h : wp_c_cadd[k]? = some w) : w ∈ wp_c_cadd := List.mem_of_getElem? h
set_option maxHeartbeats 4000000 in
set_option maxRecDepth 100000 in
theorem c_cadd (l : Launch) (dC : Nat → ClassId) (dI : Nat → Nat → Nat) (c0 co ca cb c3 cw cl cpv cpp cpl cpr cpt cpw cpc car : Nat) (ct cb9 cp9 ca9 : Nat) (kI : ClassId) (fo fa fbb fc fwh : Nat → Int32) (x0 x1 x2 x3 x4 : Int32) (sz : Nat) (hct : ct ≤ 6000) : Met l yX0_add wp_c_cadd ({ frames := 0, cells := 0, slots := 0, locals := 0 }) (va_Pc [.ref c0, .int x0, .int x1, .int x2, .int x3, .int x4] (fun U => U.heap.size = sz ∧ va_P (dC, dI) vwCl [(c0, .inr (0, [.ref co, .ref ca, .ref cb, .ref c3, .ref cw, .int (nI ct), .ref cl, .int (nI cb9), .ref cpv, .ref cpp, .ref cpl, .ref cpr, .ref cpt, .ref cpw, .ref cpc, .int (nI cp9), .ref car, .int (nI ca9)])), (co, .inl (kI, 6000, .inl fo)), (ca, .inl (kI, 6000, .inl fa)), (cb, .inl (kI, 6000, .inl fbb)), (c3, .inl (kI, 6000, .inl fc)), (cw, .inl (kI, 6000, .inl fwh))] U.heap ∧ va_K (dC, dI) vwCl [(kI, .int)] U ∧ va_D (fun _ => True) [(c0, .inr (0, [.ref co, .ref ca, .ref cb, .ref c3, .ref cw, .int (nI ct), .ref cl, .int (nI cb9), .ref cpv, .ref cpp, .ref cpl, .ref cpr, .ref cpt, .ref cpw, .ref cpc, .int (nI cp9), .ref car, .int (nI ca9)])), (co, .inl (kI, 6000, .inl fo)), (ca, .inl (kI, 6000, .inl fa)), (cb, .inl (kI, 6000, .inl fbb)), (c3, .inl (kI, 6000, .inl fc)), (cw, .inl (kI, 6000, .inl fwh))])) (va_Qv (fun _ : Unit => True) (fun (_ : Unit) (tS : State) => ∃ (ct2 : Nat) (go : Nat → Int32) (ga : Nat → Int32) (gb : Nat → Int32) (gc : Nat → Int32) (gw : Nat → Int32), (insA ct ct2 fo go x0) ∧ (insA ct ct2 fa ga x1) ∧ (insA ct ct2 fbb gb x2) ∧ (insA ct ct2 fc gc x3) ∧ (insA ct ct2 fwh gw x4) ∧ va_P (dC, dI) vwCl [(c0, .inr (0, [.ref co, .ref ca, .ref cb, .ref c3, .ref cw, .int (nI ct2), .ref cl, .int (nI cb9), .ref cpv, .ref cpp, .ref cpl, .ref cpr, .ref cpt, .ref cpw, .ref cpc, .int (nI cp9), .ref car, .int (nI ca9)])), (co, .inl (kI, 6000, .inl go)), (ca, .inl (kI, 6000, .inl ga)), (cb, .inl (kI, 6000, .inl gb)), (c3, .inl (kI, 6000, .inl gc)), (cw, .inl (kI, 6000, .inl gw))] tS.heap ∧ va_K (dC, dI) vwCl [(kI, .int)] tS ∧ va_D (va_A [(c0, .inr (0, [.ref co, .ref ca, .ref cb, .ref c3, .ref cw, .int (nI ct), .ref cl, .int (nI cb9), .ref cpv, .ref cpp, .ref cpl, .ref cpr, .ref cpt, .ref cpw, .ref cpc, .int (nI cp9), .ref car, .int (nI ca9)])), (co, .inl (kI, 6000, .inl fo)), (ca, .inl (kI, 6000, .inl fa)), (cb, .inl (kI, 6000, .inl fbb)), (c3, .inl (kI, 6000, .inl fc)), (cw, .inl (kI, 6000, .inl fwh))] sz) [(c0, .inr (0, [.ref co, .ref ca, .ref cb, .ref c3, .ref cw, .int (nI ct2), .ref cl, .int (nI cb9), .ref cpv, .ref cpp, .ref cpl, .ref cpr, .ref cpt, .ref cpw, .ref cpc, .int (nI cp9), .ref car, .int (nI ca9)])), (co, .inl (kI, 6000, .inl go)), (ca, .inl (kI, 6000, .inl ga)), (cb, .inl (kI, 6000, .inl gb)), (c3, .inl (kI, 6000, .inl gc)), (cw, .inl (kI, 6000, .inl gw))]) (va_A [(c0, .inr (0, [.ref co, .ref ca, .ref cb, .ref c3, .ref cw, .int (nI ct), .ref cl, .int (nI cb9), .ref cpv, .ref cpp, .ref cpl, .ref cpr, .ref cpt, .ref cpw, .ref cpc, .int (nI cp9), .ref car, .int (nI ca9)])), (co, .inl (kI, 6000, .inl fo)), (ca, .inl (kI, 6000, .inl fa)), (cb, .inl (kI, 6000, .inl fbb)), (c3, .inl (kI, 6000, .inl fc)), (cw, .inl (kI, 6000, .inl fwh))] sz)) 0 0 (va_A [(c0, .inr (0, [.ref co, .ref ca, .ref cb, .ref c3, .ref cw, .int (nI ct), .ref cl, .int (nI cb9), .ref cpv, .ref cpp, .ref cpl, .ref cpr, .ref cpt, .ref cpw, .ref cpc, .int (nI cp9), .ref car, .int (nI ca9)])), (co, .inl (kI, 6000, .inl fo)), (ca, .inl (kI, 6000, .inl fa)), (cb, .inl (kI, 6000, .inl fbb)), (c3, .inl (kI, 6000, .inl fc)), (cw, .inl (kI, 6000, .inl fwh))] sz) := by
  refine Met.ofW (cc := cX0_add) (maxL := 6) (ret := none) (by decide) rfl ?_
  intro p e s m args below meth c s₁ B hml hv
  obtain ⟨rfl, hsz, hP, hK, hD0⟩ := hv
  have hx := B.exec
  have hb := B.bytes
  have hr := B.returns
  have hts := atoms_spec (ws := wp_c_cadd) B.pre
  have hown : s.vm.findClass RX0 = some m.cls := findClass_of_methodNamed B.named
  have hlocks := B.notSynchronized
  subst hsz
  have hD := hD0.self (sz := s.heap.size)
  generalize hAe : va_A [(c0, .inr (0, [.ref co, .ref ca, .ref cb, .ref c3, .ref cw, .int (nI ct), .ref cl, .int (nI cb9), .ref cpv, .ref cpp, .ref cpl, .ref cpr, .ref cpt, .ref cpw, .ref cpc, .int (nI cp9), .ref car, .int (nI ca9)])), (co, .inl (kI, 6000, .inl fo)), (ca, .inl (kI, 6000, .inl fa)), (cb, .inl (kI, 6000, .inl fbb)), (c3, .inl (kI, 6000, .inl fc)), (cw, .inl (kI, 6000, .inl fwh))] s.heap.size = A at hD ⊢
  have hA : ∀ q : Nat, s.heap.size ≤ q → A q := fun q h => by rw [← hAe]; exact Or.inr h
  have hS : va_S A s.heap s.heap [] := va_S.rf
  have hP : va_P (dC, dI) vwCl [(c0, .inr (0, [.ref co, .ref ca, .ref cb, .ref c3, .ref cw, .int (nI ct), .ref cl, .int (nI cb9), .ref cpv, .ref cpp, .ref cpl, .ref cpr, .ref cpt, .ref cpw, .ref cpc, .int (nI cp9), .ref car, .int (nI ca9)])), (co, .inl (kI, 6000, .inl fo)), (ca, .inl (kI, 6000, .inl fa)), (cb, .inl (kI, 6000, .inl fbb)), (c3, .inl (kI, 6000, .inl fc)), (cw, .inl (kI, 6000, .inl fwh))] s.heap := hP
  have hl := lv_entry ([.ref c0, .int x0, .int x1, .int x2, .int x3, .int x4]) (n := 6) (Nat.le_of_ble_eq_true rfl)
  rw [lg_entry_eq]
  generalize (lg_sl ([.ref c0, .int x0, .int x1, .int x2, .int x3, .int x4]) ++ List.replicate (6 - (lg_sl ([.ref c0, .int x0, .int x1, .int x2, .int x3, .int x4])).length) Slot.unset).toArray = ls at hl ⊢
  have hl : lv_has ls 6 [(0, .ref c0), (1, .int x0), (2, .int x1), (3, .int x2), (4, .int x3), (5, .int x4)] := hl
  refine lv_aload_n hx hb dX0_add_0 rfl (lv_at hl 0 rfl) ?_
  refine va_get (D := (dC, dI)) (ci := 0) (v := .int (nI ct)) (C := RX0) (T := TX0) (N := 18) hx hb hts in_c_cadd_X0 hown hK hP 0 rfl rfl 5 (by decide) (hts (.fieldLink RX0 54 "OwnedPlaces$Code" "total" "I") (wm_c_cadd 1 rfl)) (fun _ h9 => h9) rfl dX0_add_1 ?_
  refine lv_sipush (v := 6000) hx hb dX0_add_4 (by decide) ?_
  refine lv_icmp_ne (tgt := 11) hx hb dX0_add_7 (by decide) (fun hc => ?_) (fun hc => ?_)
  · have hlt : ct < 6000 := by rcases Nat.lt_or_ge ct 6000 with q | q; exact q; exact absurd (show nI ct = 6000 by rw [show ct = 6000 by omega]; rfl) hc
    refine lv_aload_n hx hb dX0_add_11 rfl (lv_at hl 0 rfl) ?_
    refine va_get (D := (dC, dI)) (ci := 0) (v := .ref co) (C := RX0) (T := TX0) (N := 18) hx hb hts in_c_cadd_X0 hown hK hP 0 rfl rfl 0 (by decide) (hts (.fieldLink RX0 9 "OwnedPlaces$Code" "op" "[I") (wm_c_cadd 2 rfl)) (fun _ h9 => h9) rfl dX0_add_12 ?_
    refine lv_aload_n hx hb dX0_add_15 rfl (lv_at hl 0 rfl) ?_
    refine va_get (D := (dC, dI)) (ci := 0) (v := .int (nI ct)) (C := RX0) (T := TX0) (N := 18) hx hb hts in_c_cadd_X0 hown hK hP 0 rfl rfl 5 (by decide) (hts (.fieldLink RX0 54 "OwnedPlaces$Code" "total" "I") (wm_c_cadd 1 rfl)) (fun _ h9 => h9) rfl dX0_add_16 ?_
    refine lv_iload_n hx hb dX0_add_19 rfl (lv_at hl 1 rfl) ?_
    refine va_iast hx hb hK hP hD hS 1 0 rfl rfl (vp_in_nI hlt (by decide)) dX0_add_20 (fun H locs hP hD hS => ?_)
    have hP : va_P (dC, dI) vwCl [(c0, .inr (0, [.ref co, .ref ca, .ref cb, .ref c3, .ref cw, .int (nI ct), .ref cl, .int (nI cb9), .ref cpv, .ref cpp, .ref cpl, .ref cpr, .ref cpt, .ref cpw, .ref cpc, .int (nI cp9), .ref car, .int (nI ca9)])), (co, .inl (kI, 6000, .inl (upd fo (nI ct : Int32).toNatClampNeg x0))), (ca, .inl (kI, 6000, .inl fa)), (cb, .inl (kI, 6000, .inl fbb)), (c3, .inl (kI, 6000, .inl fc)), (cw, .inl (kI, 6000, .inl fwh))] H := hP
    have hD : va_D A [(c0, .inr (0, [.ref co, .ref ca, .ref cb, .ref c3, .ref cw, .int (nI ct), .ref cl, .int (nI cb9), .ref cpv, .ref cpp, .ref cpl, .ref cpr, .ref cpt, .ref cpw, .ref cpc, .int (nI cp9), .ref car, .int (nI ca9)])), (co, .inl (kI, 6000, .inl (upd fo (nI ct : Int32).toNatClampNeg x0))), (ca, .inl (kI, 6000, .inl fa)), (cb, .inl (kI, 6000, .inl fbb)), (c3, .inl (kI, 6000, .inl fc)), (cw, .inl (kI, 6000, .inl fwh))] := hD
    obtain ⟨g09, eg09⟩ : ∃ zZ : Nat → Int32, zZ = upd fo (nI ct : Int32).toNatClampNeg x0 := ⟨_, rfl⟩
    rw [← eg09] at hP hD
    refine lv_aload_n hx hb dX0_add_21 rfl (lv_at hl 0 rfl) ?_
    refine va_get (D := (dC, dI)) (ci := 0) (v := .ref ca) (C := RX0) (T := TX0) (N := 18) hx hb hts in_c_cadd_X0 hown hK hP 0 rfl rfl 1 (by decide) (hts (.fieldLink RX0 15 "OwnedPlaces$Code" "a" "[I") (wm_c_cadd 3 rfl)) (fun _ h9 => h9) rfl dX0_add_22 ?_
    refine lv_aload_n hx hb dX0_add_25 rfl (lv_at hl 0 rfl) ?_
    refine va_get (D := (dC, dI)) (ci := 0) (v := .int (nI ct)) (C := RX0) (T := TX0) (N := 18) hx hb hts in_c_cadd_X0 hown hK hP 0 rfl rfl 5 (by decide) (hts (.fieldLink RX0 54 "OwnedPlaces$Code" "total" "I") (wm_c_cadd 1 rfl)) (fun _ h9 => h9) rfl dX0_add_26 ?_
    refine lv_iload_n hx hb dX0_add_29 rfl (lv_at hl 2 rfl) ?_
    refine va_iast hx hb hK hP hD hS 2 0 rfl rfl (vp_in_nI hlt (by decide)) dX0_add_30 (fun H locs hP hD hS => ?_)
    have hP : va_P (dC, dI) vwCl [(c0, .inr (0, [.ref co, .ref ca, .ref cb, .ref c3, .ref cw, .int (nI ct), .ref cl, .int (nI cb9), .ref cpv, .ref cpp, .ref cpl, .ref cpr, .ref cpt, .ref cpw, .ref cpc, .int (nI cp9), .ref car, .int (nI ca9)])), (co, .inl (kI, 6000, .inl g09)), (ca, .inl (kI, 6000, .inl (upd fa (nI ct : Int32).toNatClampNeg x1))), (cb, .inl (kI, 6000, .inl fbb)), (c3, .inl (kI, 6000, .inl fc)), (cw, .inl (kI, 6000, .inl fwh))] H := hP
    have hD : va_D A [(c0, .inr (0, [.ref co, .ref ca, .ref cb, .ref c3, .ref cw, .int (nI ct), .ref cl, .int (nI cb9), .ref cpv, .ref cpp, .ref cpl, .ref cpr, .ref cpt, .ref cpw, .ref cpc, .int (nI cp9), .ref car, .int (nI ca9)])), (co, .inl (kI, 6000, .inl g09)), (ca, .inl (kI, 6000, .inl (upd fa (nI ct : Int32).toNatClampNeg x1))), (cb, .inl (kI, 6000, .inl fbb)), (c3, .inl (kI, 6000, .inl fc)), (cw, .inl (kI, 6000, .inl fwh))] := hD
    obtain ⟨g19, eg19⟩ : ∃ zZ : Nat → Int32, zZ = upd fa (nI ct : Int32).toNatClampNeg x1 := ⟨_, rfl⟩
    rw [← eg19] at hP hD
    refine lv_aload_n hx hb dX0_add_31 rfl (lv_at hl 0 rfl) ?_
    refine va_get (D := (dC, dI)) (ci := 0) (v := .ref cb) (C := RX0) (T := TX0) (N := 18) hx hb hts in_c_cadd_X0 hown hK hP 0 rfl rfl 2 (by decide) (hts (.fieldLink RX0 18 "OwnedPlaces$Code" "b" "[I") (wm_c_cadd 4 rfl)) (fun _ h9 => h9) rfl dX0_add_32 ?_
    refine lv_aload_n hx hb dX0_add_35 rfl (lv_at hl 0 rfl) ?_
    refine va_get (D := (dC, dI)) (ci := 0) (v := .int (nI ct)) (C := RX0) (T := TX0) (N := 18) hx hb hts in_c_cadd_X0 hown hK hP 0 rfl rfl 5 (by decide) (hts (.fieldLink RX0 54 "OwnedPlaces$Code" "total" "I") (wm_c_cadd 1 rfl)) (fun _ h9 => h9) rfl dX0_add_36 ?_
    refine lv_iload_n hx hb dX0_add_39 rfl (lv_at hl 3 rfl) ?_
    refine va_iast hx hb hK hP hD hS 3 0 rfl rfl (vp_in_nI hlt (by decide)) dX0_add_40 (fun H locs hP hD hS => ?_)
    have hP : va_P (dC, dI) vwCl [(c0, .inr (0, [.ref co, .ref ca, .ref cb, .ref c3, .ref cw, .int (nI ct), .ref cl, .int (nI cb9), .ref cpv, .ref cpp, .ref cpl, .ref cpr, .ref cpt, .ref cpw, .ref cpc, .int (nI cp9), .ref car, .int (nI ca9)])), (co, .inl (kI, 6000, .inl g09)), (ca, .inl (kI, 6000, .inl g19)), (cb, .inl (kI, 6000, .inl (upd fbb (nI ct : Int32).toNatClampNeg x2))), (c3, .inl (kI, 6000, .inl fc)), (cw, .inl (kI, 6000, .inl fwh))] H := hP
    have hD : va_D A [(c0, .inr (0, [.ref co, .ref ca, .ref cb, .ref c3, .ref cw, .int (nI ct), .ref cl, .int (nI cb9), .ref cpv, .ref cpp, .ref cpl, .ref cpr, .ref cpt, .ref cpw, .ref cpc, .int (nI cp9), .ref car, .int (nI ca9)])), (co, .inl (kI, 6000, .inl g09)), (ca, .inl (kI, 6000, .inl g19)), (cb, .inl (kI, 6000, .inl (upd fbb (nI ct : Int32).toNatClampNeg x2))), (c3, .inl (kI, 6000, .inl fc)), (cw, .inl (kI, 6000, .inl fwh))] := hD
    obtain ⟨g29, eg29⟩ : ∃ zZ : Nat → Int32, zZ = upd fbb (nI ct : Int32).toNatClampNeg x2 := ⟨_, rfl⟩
    rw [← eg29] at hP hD
    refine lv_aload_n hx hb dX0_add_41 rfl (lv_at hl 0 rfl) ?_
    refine va_get (D := (dC, dI)) (ci := 0) (v := .ref c3) (C := RX0) (T := TX0) (N := 18) hx hb hts in_c_cadd_X0 hown hK hP 0 rfl rfl 3 (by decide) (hts (.fieldLink RX0 21 "OwnedPlaces$Code" "c" "[I") (wm_c_cadd 5 rfl)) (fun _ h9 => h9) rfl dX0_add_42 ?_
    refine lv_aload_n hx hb dX0_add_45 rfl (lv_at hl 0 rfl) ?_
    refine va_get (D := (dC, dI)) (ci := 0) (v := .int (nI ct)) (C := RX0) (T := TX0) (N := 18) hx hb hts in_c_cadd_X0 hown hK hP 0 rfl rfl 5 (by decide) (hts (.fieldLink RX0 54 "OwnedPlaces$Code" "total" "I") (wm_c_cadd 1 rfl)) (fun _ h9 => h9) rfl dX0_add_46 ?_
    refine lv_iload hx hb dX0_add_49 (lv_at hl 4 rfl) ?_
    refine va_iast hx hb hK hP hD hS 4 0 rfl rfl (vp_in_nI hlt (by decide)) dX0_add_51 (fun H locs hP hD hS => ?_)
    have hP : va_P (dC, dI) vwCl [(c0, .inr (0, [.ref co, .ref ca, .ref cb, .ref c3, .ref cw, .int (nI ct), .ref cl, .int (nI cb9), .ref cpv, .ref cpp, .ref cpl, .ref cpr, .ref cpt, .ref cpw, .ref cpc, .int (nI cp9), .ref car, .int (nI ca9)])), (co, .inl (kI, 6000, .inl g09)), (ca, .inl (kI, 6000, .inl g19)), (cb, .inl (kI, 6000, .inl g29)), (c3, .inl (kI, 6000, .inl (upd fc (nI ct : Int32).toNatClampNeg x3))), (cw, .inl (kI, 6000, .inl fwh))] H := hP
    have hD : va_D A [(c0, .inr (0, [.ref co, .ref ca, .ref cb, .ref c3, .ref cw, .int (nI ct), .ref cl, .int (nI cb9), .ref cpv, .ref cpp, .ref cpl, .ref cpr, .ref cpt, .ref cpw, .ref cpc, .int (nI cp9), .ref car, .int (nI ca9)])), (co, .inl (kI, 6000, .inl g09)), (ca, .inl (kI, 6000, .inl g19)), (cb, .inl (kI, 6000, .inl g29)), (c3, .inl (kI, 6000, .inl (upd fc (nI ct : Int32).toNatClampNeg x3))), (cw, .inl (kI, 6000, .inl fwh))] := hD
    obtain ⟨g39, eg39⟩ : ∃ zZ : Nat → Int32, zZ = upd fc (nI ct : Int32).toNatClampNeg x3 := ⟨_, rfl⟩
    rw [← eg39] at hP hD
    refine lv_aload_n hx hb dX0_add_52 rfl (lv_at hl 0 rfl) ?_
    refine va_get (D := (dC, dI)) (ci := 0) (v := .ref cw) (C := RX0) (T := TX0) (N := 18) hx hb hts in_c_cadd_X0 hown hK hP 0 rfl rfl 4 (by decide) (hts (.fieldLink RX0 24 "OwnedPlaces$Code" "where" "[I") (wm_c_cadd 6 rfl)) (fun _ h9 => h9) rfl dX0_add_53 ?_
    refine lv_aload_n hx hb dX0_add_56 rfl (lv_at hl 0 rfl) ?_
    refine va_get (D := (dC, dI)) (ci := 0) (v := .int (nI ct)) (C := RX0) (T := TX0) (N := 18) hx hb hts in_c_cadd_X0 hown hK hP 0 rfl rfl 5 (by decide) (hts (.fieldLink RX0 54 "OwnedPlaces$Code" "total" "I") (wm_c_cadd 1 rfl)) (fun _ h9 => h9) rfl dX0_add_57 ?_
    refine lv_iload hx hb dX0_add_60 (lv_at hl 5 rfl) ?_
    refine va_iast hx hb hK hP hD hS 5 0 rfl rfl (vp_in_nI hlt (by decide)) dX0_add_62 (fun H locs hP hD hS => ?_)
    have hP : va_P (dC, dI) vwCl [(c0, .inr (0, [.ref co, .ref ca, .ref cb, .ref c3, .ref cw, .int (nI ct), .ref cl, .int (nI cb9), .ref cpv, .ref cpp, .ref cpl, .ref cpr, .ref cpt, .ref cpw, .ref cpc, .int (nI cp9), .ref car, .int (nI ca9)])), (co, .inl (kI, 6000, .inl g09)), (ca, .inl (kI, 6000, .inl g19)), (cb, .inl (kI, 6000, .inl g29)), (c3, .inl (kI, 6000, .inl g39)), (cw, .inl (kI, 6000, .inl (upd fwh (nI ct : Int32).toNatClampNeg x4)))] H := hP
    have hD : va_D A [(c0, .inr (0, [.ref co, .ref ca, .ref cb, .ref c3, .ref cw, .int (nI ct), .ref cl, .int (nI cb9), .ref cpv, .ref cpp, .ref cpl, .ref cpr, .ref cpt, .ref cpw, .ref cpc, .int (nI cp9), .ref car, .int (nI ca9)])), (co, .inl (kI, 6000, .inl g09)), (ca, .inl (kI, 6000, .inl g19)), (cb, .inl (kI, 6000, .inl g29)), (c3, .inl (kI, 6000, .inl g39)), (cw, .inl (kI, 6000, .inl (upd fwh (nI ct : Int32).toNatClampNeg x4)))] := hD
    obtain ⟨g49, eg49⟩ : ∃ zZ : Nat → Int32, zZ = upd fwh (nI ct : Int32).toNatClampNeg x4 := ⟨_, rfl⟩
    rw [← eg49] at hP hD
    refine lv_aload_n hx hb dX0_add_63 rfl (lv_at hl 0 rfl) ?_
    refine lv_dup hx hb dX0_add_64 rfl ?_
    refine va_get (D := (dC, dI)) (ci := 0) (v := .int (nI ct)) (C := RX0) (T := TX0) (N := 18) hx hb hts in_c_cadd_X0 hown hK hP 0 rfl rfl 5 (by decide) (hts (.fieldLink RX0 54 "OwnedPlaces$Code" "total" "I") (wm_c_cadd 1 rfl)) (fun _ h9 => h9) rfl dX0_add_65 ?_
    refine lv_iconst (v := 1) hx hb dX0_add_68 (by decide) ?_
    refine lv_iadd hx hb dX0_add_69 ?_
    refine lv_topi (fun f_1 ef_1 => ?_)
    obtain rfl : f_1 = nI (ct + 1) := ef_1.trans (nI_1 _)
    refine va_put (D := (dC, dI)) (ci := 0) (v := .int (nI (ct + 1))) (ty := .int) (C := RX0) (T := TX0) (N := 18) hx hb hts in_c_cadd_X0 tyX0 tyX0_ok nmX0 hown hK hP hD hS 0 rfl rfl 5 (by decide) (hts (.fieldLink RX0 54 "OwnedPlaces$Code" "total" "I") (wm_c_cadd 1 rfl)) (fun _ h9 => h9) rfl (by decide +kernel) rfl rfl (Nat.le_of_ble_eq_true rfl) dX0_add_70 (fun H locs hP hD hS => ?_)
    have hP : va_P (dC, dI) vwCl [(c0, .inr (0, [.ref co, .ref ca, .ref cb, .ref c3, .ref cw, .int (nI (ct + 1)), .ref cl, .int (nI cb9), .ref cpv, .ref cpp, .ref cpl, .ref cpr, .ref cpt, .ref cpw, .ref cpc, .int (nI cp9), .ref car, .int (nI ca9)])), (co, .inl (kI, 6000, .inl g09)), (ca, .inl (kI, 6000, .inl g19)), (cb, .inl (kI, 6000, .inl g29)), (c3, .inl (kI, 6000, .inl g39)), (cw, .inl (kI, 6000, .inl g49))] H := hP
    have hD : va_D A [(c0, .inr (0, [.ref co, .ref ca, .ref cb, .ref c3, .ref cw, .int (nI (ct + 1)), .ref cl, .int (nI cb9), .ref cpv, .ref cpp, .ref cpl, .ref cpr, .ref cpt, .ref cpw, .ref cpc, .int (nI cp9), .ref car, .int (nI ca9)])), (co, .inl (kI, 6000, .inl g09)), (ca, .inl (kI, 6000, .inl g19)), (cb, .inl (kI, 6000, .inl g29)), (c3, .inl (kI, 6000, .inl g39)), (cw, .inl (kI, 6000, .inl g49))] := hD
    have hP9 := hP.sub (ws' := [(c0, .inr (0, [.ref co, .ref ca, .ref cb, .ref c3, .ref cw, .int (nI (ct + 1)), .ref cl, .int (nI cb9), .ref cpv, .ref cpp, .ref cpl, .ref cpr, .ref cpt, .ref cpw, .ref cpc, .int (nI cp9), .ref car, .int (nI ca9)])), (co, .inl (kI, 6000, .inl g09)), (ca, .inl (kI, 6000, .inl g19)), (cb, .inl (kI, 6000, .inl g29)), (c3, .inl (kI, 6000, .inl g39)), (cw, .inl (kI, 6000, .inl g49))]) [0, 1, 2, 3, 4, 5] rfl
    have hD9 := hD.sub (ws' := [(c0, .inr (0, [.ref co, .ref ca, .ref cb, .ref c3, .ref cw, .int (nI (ct + 1)), .ref cl, .int (nI cb9), .ref cpv, .ref cpp, .ref cpl, .ref cpr, .ref cpt, .ref cpw, .ref cpc, .int (nI cp9), .ref car, .int (nI ca9)])), (co, .inl (kI, 6000, .inl g09)), (ca, .inl (kI, 6000, .inl g19)), (cb, .inl (kI, 6000, .inl g29)), (c3, .inl (kI, 6000, .inl g39)), (cw, .inl (kI, 6000, .inl g49))]) [0, 1, 2, 3, 4, 5] (by decide) rfl
    have hK9 := hK.sub (tys' := [(kI, .int)]) [0] rfl
    exact W.vret hx hb hr (fun tS ht hW => ⟨⟨(), rfl, trivial, ct + 1, g09, g19, g29, g39, g49, Or.inl ⟨hlt, rfl, by rw [eg09, nI_clamp (by omega)]⟩, Or.inl ⟨hlt, rfl, by rw [eg19, nI_clamp (by omega)]⟩, Or.inl ⟨hlt, rfl, by rw [eg29, nI_clamp (by omega)]⟩, Or.inl ⟨hlt, rfl, by rw [eg39, nI_clamp (by omega)]⟩, Or.inl ⟨hlt, rfl, by rw [eg49, nI_clamp (by omega)]⟩, by rw [ht]; exact hP9, va_K.moved hW.alike hK9, hD9⟩, hS.F ht⟩) hS.2.2 dX0_add_73
  · have he : ct = 6000 := (nI_eq (a := ct) (b := 6000) (by omega) (by decide)).mp hc
    have hP9 := hP.sub (ws' := [(c0, .inr (0, [.ref co, .ref ca, .ref cb, .ref c3, .ref cw, .int (nI ct), .ref cl, .int (nI cb9), .ref cpv, .ref cpp, .ref cpl, .ref cpr, .ref cpt, .ref cpw, .ref cpc, .int (nI cp9), .ref car, .int (nI ca9)])), (co, .inl (kI, 6000, .inl fo)), (ca, .inl (kI, 6000, .inl fa)), (cb, .inl (kI, 6000, .inl fbb)), (c3, .inl (kI, 6000, .inl fc)), (cw, .inl (kI, 6000, .inl fwh))]) [0, 1, 2, 3, 4, 5] rfl
    have hD9 := hD.sub (ws' := [(c0, .inr (0, [.ref co, .ref ca, .ref cb, .ref c3, .ref cw, .int (nI ct), .ref cl, .int (nI cb9), .ref cpv, .ref cpp, .ref cpl, .ref cpr, .ref cpt, .ref cpw, .ref cpc, .int (nI cp9), .ref car, .int (nI ca9)])), (co, .inl (kI, 6000, .inl fo)), (ca, .inl (kI, 6000, .inl fa)), (cb, .inl (kI, 6000, .inl fbb)), (c3, .inl (kI, 6000, .inl fc)), (cw, .inl (kI, 6000, .inl fwh))]) [0, 1, 2, 3, 4, 5] (by decide) rfl
    have hK9 := hK.sub (tys' := [(kI, .int)]) [0] rfl
    exact W.vret hx hb hr (fun tS ht hW => ⟨⟨(), rfl, trivial, ct, fo, fa, fbb, fc, fwh, Or.inr ⟨he, rfl, rfl⟩, Or.inr ⟨he, rfl, rfl⟩, Or.inr ⟨he, rfl, rfl⟩, Or.inr ⟨he, rfl, rfl⟩, Or.inr ⟨he, rfl, rfl⟩, by rw [ht]; exact hP9, va_K.moved hW.alike hK9, hD9⟩, hS.F ht⟩) hS.2.2 dX0_add_10
def wf_c_cadd2 : List Cond := [.code yX0_add_ cX0_add_ 3 none, .code yX0_add cX0_add 6 none, .fieldLink RX0 54 "OwnedPlaces$Code" "total" "I", .fieldLink RX0 9 "OwnedPlaces$Code" "op" "[I", .fieldLink RX0 15 "OwnedPlaces$Code" "a" "[I", .fieldLink RX0 18 "OwnedPlaces$Code" "b" "[I", .fieldLink RX0 21 "OwnedPlaces$Code" "c" "[I", .fieldLink RX0 24 "OwnedPlaces$Code" "where" "[I", .methodLink RX0 67 yX0_add, .instanceMethod yX0_add, .selects RX0 yX0_add yX0_add, .initialized RX0]
def wp_c_cadd2 : List Cond := wf_c_cadd2 ++ (wsX00 ++ [])
theorem in_c_cadd2_X0 : ∀ w ∈ wsX00, w ∈ wp_c_cadd2 := fun w h => List.mem_append_right _ (List.mem_append_left _ h)
theorem wg_c_cadd2 : wf_c_cadd2.all goodWord = true := by decide +kernel
theorem wm_c_cadd2 (k : Nat) {w : Cond} (h : wp_c_cadd2[k]? = some w) : w ∈ wp_c_cadd2 := List.mem_of_getElem? h
set_option maxRecDepth 20000 in
theorem g_c_cadd2_c_cadd_6 : GoodIn wp_c_cadd2 (wsV RX0 67 RX0 yX0_add wp_c_cadd) := goodIn_app (goodIn_f [.methodLink RX0 67 yX0_add, .instanceMethod yX0_add, .selects RX0 yX0_add yX0_add, .initialized RX0] [8, 9, 10, 11] rfl (by decide +kernel)) (goodIn_app (goodIn_f (wf_c_cadd) [1, 2, 3, 4, 5, 6, 7] rfl wg_c_cadd) (goodIn_app (goodIn_sub in_c_cadd2_X0 gd_X0) (goodIn_n)))
set_option maxHeartbeats 4000000 in
set_option maxRecDepth 100000 in
theorem c_cadd2 (l : Launch) (dC : Nat → ClassId) (dI : Nat → Nat → Nat) (c0 co ca cb c3 cw cl cpv cpp cpl cpr cpt cpw cpc car : Nat) (ct cb9 cp9 ca9 : Nat) (kI : ClassId) (fo fa fbb fc fwh : Nat → Int32) (x0 x1 : Int32) (sz : Nat) (hct : ct ≤ 6000) : Met l yX0_add_ wp_c_cadd2 ({ frames := 1, cells := 0, slots := 0, locals := 25 }) (va_Pc [.ref c0, .int x0, .int x1] (fun U => U.heap.size = sz ∧ va_P (dC, dI) vwCl [(c0, .inr (0, [.ref co, .ref ca, .ref cb, .ref c3, .ref cw, .int (nI ct), .ref cl, .int (nI cb9), .ref cpv, .ref cpp, .ref cpl, .ref cpr, .ref cpt, .ref cpw, .ref cpc, .int (nI cp9), .ref car, .int (nI ca9)])), (co, .inl (kI, 6000, .inl fo)), (ca, .inl (kI, 6000, .inl fa)), (cb, .inl (kI, 6000, .inl fbb)), (c3, .inl (kI, 6000, .inl fc)), (cw, .inl (kI, 6000, .inl fwh))] U.heap ∧ va_K (dC, dI) vwCl [(kI, .int)] U ∧ va_D (fun _ => True) [(c0, .inr (0, [.ref co, .ref ca, .ref cb, .ref c3, .ref cw, .int (nI ct), .ref cl, .int (nI cb9), .ref cpv, .ref cpp, .ref cpl, .ref cpr, .ref cpt, .ref cpw, .ref cpc, .int (nI cp9), .ref car, .int (nI ca9)])), (co, .inl (kI, 6000, .inl fo)), (ca, .inl (kI, 6000, .inl fa)), (cb, .inl (kI, 6000, .inl fbb)), (c3, .inl (kI, 6000, .inl fc)), (cw, .inl (kI, 6000, .inl fwh))])) (va_Qv (fun _ : Unit => True) (fun (_ : Unit) (tS : State) => ∃ (ct2 : Nat) (go : Nat → Int32) (ga : Nat → Int32) (gb : Nat → Int32) (gc : Nat → Int32) (gw : Nat → Int32), (insA ct ct2 fo go x0) ∧ (insA ct ct2 fa ga x1) ∧ (insA ct ct2 fbb gb 0) ∧ (insA ct ct2 fc gc 0) ∧ (insA ct ct2 fwh gw (-1)) ∧ va_P (dC, dI) vwCl [(c0, .inr (0, [.ref co, .ref ca, .ref cb, .ref c3, .ref cw, .int (nI ct2), .ref cl, .int (nI cb9), .ref cpv, .ref cpp, .ref cpl, .ref cpr, .ref cpt, .ref cpw, .ref cpc, .int (nI cp9), .ref car, .int (nI ca9)])), (co, .inl (kI, 6000, .inl go)), (ca, .inl (kI, 6000, .inl ga)), (cb, .inl (kI, 6000, .inl gb)), (c3, .inl (kI, 6000, .inl gc)), (cw, .inl (kI, 6000, .inl gw))] tS.heap ∧ va_K (dC, dI) vwCl [(kI, .int)] tS ∧ va_D (va_A [(c0, .inr (0, [.ref co, .ref ca, .ref cb, .ref c3, .ref cw, .int (nI ct), .ref cl, .int (nI cb9), .ref cpv, .ref cpp, .ref cpl, .ref cpr, .ref cpt, .ref cpw, .ref cpc, .int (nI cp9), .ref car, .int (nI ca9)])), (co, .inl (kI, 6000, .inl fo)), (ca, .inl (kI, 6000, .inl fa)), (cb, .inl (kI, 6000, .inl fbb)), (c3, .inl (kI, 6000, .inl fc)), (cw, .inl (kI, 6000, .inl fwh))] sz) [(c0, .inr (0, [.ref co, .ref ca, .ref cb, .ref c3, .ref cw, .int (nI ct2), .ref cl, .int (nI cb9), .ref cpv, .ref cpp, .ref cpl, .ref cpr, .ref cpt, .ref cpw, .ref cpc, .int (nI cp9), .ref car, .int (nI ca9)])), (co, .inl (kI, 6000, .inl go)), (ca, .inl (kI, 6000, .inl ga)), (cb, .inl (kI, 6000, .inl gb)), (c3, .inl (kI, 6000, .inl gc)), (cw, .inl (kI, 6000, .inl gw))]) (va_A [(c0, .inr (0, [.ref co, .ref ca, .ref cb, .ref c3, .ref cw, .int (nI ct), .ref cl, .int (nI cb9), .ref cpv, .ref cpp, .ref cpl, .ref cpr, .ref cpt, .ref cpw, .ref cpc, .int (nI cp9), .ref car, .int (nI ca9)])), (co, .inl (kI, 6000, .inl fo)), (ca, .inl (kI, 6000, .inl fa)), (cb, .inl (kI, 6000, .inl fbb)), (c3, .inl (kI, 6000, .inl fc)), (cw, .inl (kI, 6000, .inl fwh))] sz)) 0 0 (va_A [(c0, .inr (0, [.ref co, .ref ca, .ref cb, .ref c3, .ref cw, .int (nI ct), .ref cl, .int (nI cb9), .ref cpv, .ref cpp, .ref cpl, .ref cpr, .ref cpt, .ref cpw, .ref cpc, .int (nI cp9), .ref car, .int (nI ca9)])), (co, .inl (kI, 6000, .inl fo)), (ca, .inl (kI, 6000, .inl fa)), (cb, .inl (kI, 6000, .inl fbb)), (c3, .inl (kI, 6000, .inl fc)), (cw, .inl (kI, 6000, .inl fwh))] sz) := by
  refine Met.ofW (cc := cX0_add_) (maxL := 3) (ret := none) (by decide) rfl ?_
  intro p e s m args below meth c s₁ B hml hv
  obtain ⟨rfl, hsz, hP, hK, hD0⟩ := hv
  have hx := B.exec
  have hb := B.bytes
  have hr := B.returns
  have hts := atoms_spec (ws := wp_c_cadd2) B.pre
  have hown : s.vm.findClass RX0 = some m.cls := findClass_of_methodNamed B.named
  have hlocks := B.notSynchronized
  subst hsz
  have hD := hD0.self (sz := s.heap.size)
  generalize hAe : va_A [(c0, .inr (0, [.ref co, .ref ca, .ref cb, .ref c3, .ref cw, .int (nI ct), .ref cl, .int (nI cb9), .ref cpv, .ref cpp, .ref cpl, .ref cpr, .ref cpt, .ref cpw, .ref cpc, .int (nI cp9), .ref car, .int (nI ca9)])), (co, .inl (kI, 6000, .inl fo)), (ca, .inl (kI, 6000, .inl fa)), (cb, .inl (kI, 6000, .inl fbb)), (c3, .inl (kI, 6000, .inl fc)), (cw, .inl (kI, 6000, .inl fwh))] s.heap.size = A at hD ⊢
  have hA : ∀ q : Nat, s.heap.size ≤ q → A q := fun q h => by rw [← hAe]; exact Or.inr h
  have hS : va_S A s.heap s.heap [] := va_S.rf
  have hP : va_P (dC, dI) vwCl [(c0, .inr (0, [.ref co, .ref ca, .ref cb, .ref c3, .ref cw, .int (nI ct), .ref cl, .int (nI cb9), .ref cpv, .ref cpp, .ref cpl, .ref cpr, .ref cpt, .ref cpw, .ref cpc, .int (nI cp9), .ref car, .int (nI ca9)])), (co, .inl (kI, 6000, .inl fo)), (ca, .inl (kI, 6000, .inl fa)), (cb, .inl (kI, 6000, .inl fbb)), (c3, .inl (kI, 6000, .inl fc)), (cw, .inl (kI, 6000, .inl fwh))] s.heap := hP
  have hl := lv_entry ([.ref c0, .int x0, .int x1]) (n := 3) (Nat.le_of_ble_eq_true rfl)
  rw [lg_entry_eq]
  generalize (lg_sl ([.ref c0, .int x0, .int x1]) ++ List.replicate (3 - (lg_sl ([.ref c0, .int x0, .int x1])).length) Slot.unset).toArray = ls at hl ⊢
  have hl : lv_has ls 3 [(0, .ref c0), (1, .int x0), (2, .int x1)] := hl
  refine lv_aload_n hx hb dX0_add__0 rfl (lv_at hl 0 rfl) ?_
  refine lv_iload_n hx hb dX0_add__1 rfl (lv_at hl 1 rfl) ?_
  refine lv_iload_n hx hb dX0_add__2 rfl (lv_at hl 2 rfl) ?_
  refine lv_iconst (v := 0) hx hb dX0_add__3 (by decide) ?_
  refine lv_iconst (v := 0) hx hb dX0_add__4 (by decide) ?_
  refine lv_iconst (v := (-1)) hx hb dX0_add__5 (by decide) ?_
  have hPc := hP.sub (ws' := [(c0, .inr (0, [.ref co, .ref ca, .ref cb, .ref c3, .ref cw, .int (nI ct), .ref cl, .int (nI cb9), .ref cpv, .ref cpp, .ref cpl, .ref cpr, .ref cpt, .ref cpw, .ref cpc, .int (nI cp9), .ref car, .int (nI ca9)])), (co, .inl (kI, 6000, .inl fo)), (ca, .inl (kI, 6000, .inl fa)), (cb, .inl (kI, 6000, .inl fbb)), (c3, .inl (kI, 6000, .inl fc)), (cw, .inl (kI, 6000, .inl fwh))]) [0, 1, 2, 3, 4, 5] rfl
  have hDc := hD.sub (ws' := [(c0, .inr (0, [.ref co, .ref ca, .ref cb, .ref c3, .ref cw, .int (nI ct), .ref cl, .int (nI cb9), .ref cpv, .ref cpp, .ref cpl, .ref cpr, .ref cpt, .ref cpw, .ref cpc, .int (nI cp9), .ref car, .int (nI ca9)])), (co, .inl (kI, 6000, .inl fo)), (ca, .inl (kI, 6000, .inl fa)), (cb, .inl (kI, 6000, .inl fbb)), (c3, .inl (kI, 6000, .inl fc)), (cw, .inl (kI, 6000, .inl fwh))]) [0, 1, 2, 3, 4, 5] (by decide) rfl
  have hKc := hK.sub (tys' := [(kI, .int)]) [0] rfl
  have hFc := va_free (wc := [(c0, .inr (0, [.ref co, .ref ca, .ref cb, .ref c3, .ref cw, .int (nI ct), .ref cl, .int (nI cb9), .ref cpv, .ref cpp, .ref cpl, .ref cpr, .ref cpt, .ref cpw, .ref cpc, .int (nI cp9), .ref car, .int (nI ca9)])), (co, .inl (kI, 6000, .inl fo)), (ca, .inl (kI, 6000, .inl fa)), (cb, .inl (kI, 6000, .inl fbb)), (c3, .inl (kI, 6000, .inl fc)), (cw, .inl (kI, 6000, .inl fwh))]) hD hS hA [0, 1, 2, 3, 4, 5] rfl
  refine va_callv (va_runV (As := [.int x0, .int x1, .int 0, .int 0, .int (-1)]) (rest := []) ⟨hx, hb, hml, hown, hts⟩ (c_cadd l dC dI c0 co ca cb c3 cw cl cpv cpp cpl cpr cpt cpw cpc car ct cb9 cp9 ca9 kI fo fa fbb fc fwh x0 x1 0 0 (-1) s.heap.size hct) (cwV 5 hts g_c_cadd2_c_cadd_6 rfl rfl rfl (by decide +kernel) ⟨Nat.le_of_ble_eq_true rfl, Nat.le_of_ble_eq_true rfl⟩) ⟨fun a U g mk q => by obtain ⟨q0, q1, qP, qK, qD⟩ := q; exact ⟨q0, q1, qP, va_K.moved (u := U) (U := U.calling g mk a) (Vm.Alike.refl U.vm) qK, qD⟩, va_recv hKc hPc (ci := 0) (q0 := 0) rfl rfl, fun U hU hW => ⟨rfl, by rw [hU], by rw [hU]; exact hPc, va_K.moved hW.alike hKc, hDc.weaken (fun _ _ _ _ => trivial)⟩⟩ rfl rfl hl.1 rfl (lv_room (Nat.le_of_ble_eq_true rfl)) dX0_add__6 ⟨(show 0 + 0 ≤ 0 by omega), (show 0 + 0 ≤ 0 by omega)⟩) hS (fun q _ h => hFc q h) hFc (fun u tS H1 locs ht hvm hw hB hz1 hk1 hS => ?_)
  obtain ⟨ct9, g09, g19, g29, g39, g49, hf1_0, hf1_1, hf1_2, hf1_3, hf1_4, hP1, hK1, hD1⟩ := hB
  rw [ht] at hP1
  have hK1 := va_K.moved hvm.symm hK1
  obtain ⟨hP, hD⟩ := va_join (wr := []) (w1 := [(c0, .inr (0, [.ref co, .ref ca, .ref cb, .ref c3, .ref cw, .int (nI ct9), .ref cl, .int (nI cb9), .ref cpv, .ref cpp, .ref cpl, .ref cpr, .ref cpt, .ref cpw, .ref cpc, .int (nI cp9), .ref car, .int (nI ca9)])), (co, .inl (kI, 6000, .inl g09)), (ca, .inl (kI, 6000, .inl g19)), (cb, .inl (kI, 6000, .inl g29)), (c3, .inl (kI, 6000, .inl g39)), (cw, .inl (kI, 6000, .inl g49))]) hP hD [0, 1, 2, 3, 4, 5] [] rfl rfl (by decide) (by decide) hk1 hFc hP1 hD1
  have hK := hK.app hK1
  generalize H1 = H at hP hS ⊢
  have hP : va_P (dC, dI) vwCl [(c0, .inr (0, [.ref co, .ref ca, .ref cb, .ref c3, .ref cw, .int (nI ct9), .ref cl, .int (nI cb9), .ref cpv, .ref cpp, .ref cpl, .ref cpr, .ref cpt, .ref cpw, .ref cpc, .int (nI cp9), .ref car, .int (nI ca9)])), (co, .inl (kI, 6000, .inl g09)), (ca, .inl (kI, 6000, .inl g19)), (cb, .inl (kI, 6000, .inl g29)), (c3, .inl (kI, 6000, .inl g39)), (cw, .inl (kI, 6000, .inl g49))] H := hP
  have hD : va_D A [(c0, .inr (0, [.ref co, .ref ca, .ref cb, .ref c3, .ref cw, .int (nI ct9), .ref cl, .int (nI cb9), .ref cpv, .ref cpp, .ref cpl, .ref cpr, .ref cpt, .ref cpw, .ref cpc, .int (nI cp9), .ref car, .int (nI ca9)])), (co, .inl (kI, 6000, .inl g09)), (ca, .inl (kI, 6000, .inl g19)), (cb, .inl (kI, 6000, .inl g29)), (c3, .inl (kI, 6000, .inl g39)), (cw, .inl (kI, 6000, .inl g49))] := hD
  have hK : va_K (dC, dI) vwCl [(kI, .int), (kI, .int)] s := hK
  have hK := hK.sub (tys' := [(kI, .int)]) [0] rfl
  have hP : va_P (dC, dI) vwCl [(c0, .inr (0, [.ref co, .ref ca, .ref cb, .ref c3, .ref cw, .int (nI ct9), .ref cl, .int (nI cb9), .ref cpv, .ref cpp, .ref cpl, .ref cpr, .ref cpt, .ref cpw, .ref cpc, .int (nI cp9), .ref car, .int (nI ca9)])), (co, .inl (kI, 6000, .inl g09)), (ca, .inl (kI, 6000, .inl g19)), (cb, .inl (kI, 6000, .inl g29)), (c3, .inl (kI, 6000, .inl g39)), (cw, .inl (kI, 6000, .inl g49))] H := hP
  have hD : va_D A [(c0, .inr (0, [.ref co, .ref ca, .ref cb, .ref c3, .ref cw, .int (nI ct9), .ref cl, .int (nI cb9), .ref cpv, .ref cpp, .ref cpl, .ref cpr, .ref cpt, .ref cpw, .ref cpc, .int (nI cp9), .ref car, .int (nI ca9)])), (co, .inl (kI, 6000, .inl g09)), (ca, .inl (kI, 6000, .inl g19)), (cb, .inl (kI, 6000, .inl g29)), (c3, .inl (kI, 6000, .inl g39)), (cw, .inl (kI, 6000, .inl g49))] := hD
  have hP9 := hP.sub (ws' := [(c0, .inr (0, [.ref co, .ref ca, .ref cb, .ref c3, .ref cw, .int (nI ct9), .ref cl, .int (nI cb9), .ref cpv, .ref cpp, .ref cpl, .ref cpr, .ref cpt, .ref cpw, .ref cpc, .int (nI cp9), .ref car, .int (nI ca9)])), (co, .inl (kI, 6000, .inl g09)), (ca, .inl (kI, 6000, .inl g19)), (cb, .inl (kI, 6000, .inl g29)), (c3, .inl (kI, 6000, .inl g39)), (cw, .inl (kI, 6000, .inl g49))]) [0, 1, 2, 3, 4, 5] rfl
  have hD9 := hD.sub (ws' := [(c0, .inr (0, [.ref co, .ref ca, .ref cb, .ref c3, .ref cw, .int (nI ct9), .ref cl, .int (nI cb9), .ref cpv, .ref cpp, .ref cpl, .ref cpr, .ref cpt, .ref cpw, .ref cpc, .int (nI cp9), .ref car, .int (nI ca9)])), (co, .inl (kI, 6000, .inl g09)), (ca, .inl (kI, 6000, .inl g19)), (cb, .inl (kI, 6000, .inl g29)), (c3, .inl (kI, 6000, .inl g39)), (cw, .inl (kI, 6000, .inl g49))]) [0, 1, 2, 3, 4, 5] (by decide) rfl
  have hK9 := hK.sub (tys' := [(kI, .int)]) [0] rfl
  exact W.vret hx hb hr (fun tS ht hW => ⟨⟨(), rfl, trivial, ct9, g09, g19, g29, g39, g49, hf1_0, hf1_1, hf1_2, hf1_3, hf1_4, by rw [ht]; exact hP9, va_K.moved hW.alike hK9, hD9⟩, hS.F ht⟩) hS.2.2 dX0_add__9
def wf_c_caddN : List Cond := [.code yX0_addNumber cX0_addNumber 3 none, .code yX0_add cX0_add 6 none, .fieldLink RX0 54 "OwnedPlaces$Code" "total" "I", .fieldLink RX0 9 "OwnedPlaces$Code" "op" "[I", .fieldLink RX0 15 "OwnedPlaces$Code" "a" "[I", .fieldLink RX0 18 "OwnedPlaces$Code" "b" "[I", .fieldLink RX0 21 "OwnedPlaces$Code" "c" "[I", .fieldLink RX0 24 "OwnedPlaces$Code" "where" "[I", .methodLink RX0 67 yX0_add, .instanceMethod yX0_add, .selects RX0 yX0_add yX0_add, .initialized RX0]
def wp_c_caddN : List Cond := wf_c_caddN ++ (wsX00 ++ [])
theorem in_c_caddN_X0 : ∀ w ∈ wsX00, w ∈ wp_c_caddN := fun w h => List.mem_append_right _ (List.mem_append_left _ h)
theorem wg_c_caddN : wf_c_caddN.all goodWord = true := by decide +kernel
theorem wm_c_caddN (k : Nat) {w : Cond} (h : wp_c_caddN[k]? = some w) : w ∈ wp_c_caddN := List.mem_of_getElem? h
set_option maxRecDepth 20000 in
theorem g_c_caddN_c_cadd_11 : GoodIn wp_c_caddN (wsV RX0 67 RX0 yX0_add wp_c_cadd) := goodIn_app (goodIn_f [.methodLink RX0 67 yX0_add, .instanceMethod yX0_add, .selects RX0 yX0_add yX0_add, .initialized RX0] [8, 9, 10, 11] rfl (by decide +kernel)) (goodIn_app (goodIn_f (wf_c_cadd) [1, 2, 3, 4, 5, 6, 7] rfl wg_c_cadd) (goodIn_app (goodIn_sub in_c_caddN_X0 gd_X0) (goodIn_n)))
set_option maxHeartbeats 4000000 in
set_option maxRecDepth 100000 in
theorem c_caddN (l : Launch) (dC : Nat → ClassId) (dI : Nat → Nat → Nat) (c0 co ca cb c3 cw cl cpv cpp cpl cpr cpt cpw cpc car : Nat) (ct cb9 cp9 ca9 : Nat) (kI : ClassId) (fo fa fbb fc fwh : Nat → Int32) (v : Int64) (sz : Nat) (hct : ct ≤ 6000) : Met l yX0_addNumber wp_c_caddN ({ frames := 1, cells := 0, slots := 0, locals := 25 }) (va_Pc [.ref c0, .long v] (fun U => U.heap.size = sz ∧ va_P (dC, dI) vwCl [(c0, .inr (0, [.ref co, .ref ca, .ref cb, .ref c3, .ref cw, .int (nI ct), .ref cl, .int (nI cb9), .ref cpv, .ref cpp, .ref cpl, .ref cpr, .ref cpt, .ref cpw, .ref cpc, .int (nI cp9), .ref car, .int (nI ca9)])), (co, .inl (kI, 6000, .inl fo)), (ca, .inl (kI, 6000, .inl fa)), (cb, .inl (kI, 6000, .inl fbb)), (c3, .inl (kI, 6000, .inl fc)), (cw, .inl (kI, 6000, .inl fwh))] U.heap ∧ va_K (dC, dI) vwCl [(kI, .int)] U ∧ va_D (fun _ => True) [(c0, .inr (0, [.ref co, .ref ca, .ref cb, .ref c3, .ref cw, .int (nI ct), .ref cl, .int (nI cb9), .ref cpv, .ref cpp, .ref cpl, .ref cpr, .ref cpt, .ref cpw, .ref cpc, .int (nI cp9), .ref car, .int (nI ca9)])), (co, .inl (kI, 6000, .inl fo)), (ca, .inl (kI, 6000, .inl fa)), (cb, .inl (kI, 6000, .inl fbb)), (c3, .inl (kI, 6000, .inl fc)), (cw, .inl (kI, 6000, .inl fwh))])) (va_Qv (fun _ : Unit => True) (fun (_ : Unit) (tS : State) => ∃ (ct2 : Nat) (y1 : Int32) (y2 : Int32) (go : Nat → Int32) (ga : Nat → Int32) (gb : Nat → Int32) (gc : Nat → Int32) (gw : Nat → Int32), (insA ct ct2 fo go 0) ∧ (insA ct ct2 fa ga y1) ∧ (insA ct ct2 fbb gb y2) ∧ (insA ct ct2 fc gc 0) ∧ (insA ct ct2 fwh gw (-1)) ∧ va_P (dC, dI) vwCl [(c0, .inr (0, [.ref co, .ref ca, .ref cb, .ref c3, .ref cw, .int (nI ct2), .ref cl, .int (nI cb9), .ref cpv, .ref cpp, .ref cpl, .ref cpr, .ref cpt, .ref cpw, .ref cpc, .int (nI cp9), .ref car, .int (nI ca9)])), (co, .inl (kI, 6000, .inl go)), (ca, .inl (kI, 6000, .inl ga)), (cb, .inl (kI, 6000, .inl gb)), (c3, .inl (kI, 6000, .inl gc)), (cw, .inl (kI, 6000, .inl gw))] tS.heap ∧ va_K (dC, dI) vwCl [(kI, .int)] tS ∧ va_D (va_A [(c0, .inr (0, [.ref co, .ref ca, .ref cb, .ref c3, .ref cw, .int (nI ct), .ref cl, .int (nI cb9), .ref cpv, .ref cpp, .ref cpl, .ref cpr, .ref cpt, .ref cpw, .ref cpc, .int (nI cp9), .ref car, .int (nI ca9)])), (co, .inl (kI, 6000, .inl fo)), (ca, .inl (kI, 6000, .inl fa)), (cb, .inl (kI, 6000, .inl fbb)), (c3, .inl (kI, 6000, .inl fc)), (cw, .inl (kI, 6000, .inl fwh))] sz) [(c0, .inr (0, [.ref co, .ref ca, .ref cb, .ref c3, .ref cw, .int (nI ct2), .ref cl, .int (nI cb9), .ref cpv, .ref cpp, .ref cpl, .ref cpr, .ref cpt, .ref cpw, .ref cpc, .int (nI cp9), .ref car, .int (nI ca9)])), (co, .inl (kI, 6000, .inl go)), (ca, .inl (kI, 6000, .inl ga)), (cb, .inl (kI, 6000, .inl gb)), (c3, .inl (kI, 6000, .inl gc)), (cw, .inl (kI, 6000, .inl gw))]) (va_A [(c0, .inr (0, [.ref co, .ref ca, .ref cb, .ref c3, .ref cw, .int (nI ct), .ref cl, .int (nI cb9), .ref cpv, .ref cpp, .ref cpl, .ref cpr, .ref cpt, .ref cpw, .ref cpc, .int (nI cp9), .ref car, .int (nI ca9)])), (co, .inl (kI, 6000, .inl fo)), (ca, .inl (kI, 6000, .inl fa)), (cb, .inl (kI, 6000, .inl fbb)), (c3, .inl (kI, 6000, .inl fc)), (cw, .inl (kI, 6000, .inl fwh))] sz)) 0 0 (va_A [(c0, .inr (0, [.ref co, .ref ca, .ref cb, .ref c3, .ref cw, .int (nI ct), .ref cl, .int (nI cb9), .ref cpv, .ref cpp, .ref cpl, .ref cpr, .ref cpt, .ref cpw, .ref cpc, .int (nI cp9), .ref car, .int (nI ca9)])), (co, .inl (kI, 6000, .inl fo)), (ca, .inl (kI, 6000, .inl fa)), (cb, .inl (kI, 6000, .inl fbb)), (c3, .inl (kI, 6000, .inl fc)), (cw, .inl (kI, 6000, .inl fwh))] sz) := by
  refine Met.ofW (cc := cX0_addNumber) (maxL := 3) (ret := none) (by decide) rfl ?_
  intro p e s m args below meth c s₁ B hml hv
  obtain ⟨rfl, hsz, hP, hK, hD0⟩ := hv
  have hx := B.exec
  have hb := B.bytes
  have hr := B.returns
  have hts := atoms_spec (ws := wp_c_caddN) B.pre
  have hown : s.vm.findClass RX0 = some m.cls := findClass_of_methodNamed B.named
  have hlocks := B.notSynchronized
  subst hsz
  have hD := hD0.self (sz := s.heap.size)
  generalize hAe : va_A [(c0, .inr (0, [.ref co, .ref ca, .ref cb, .ref c3, .ref cw, .int (nI ct), .ref cl, .int (nI cb9), .ref cpv, .ref cpp, .ref cpl, .ref cpr, .ref cpt, .ref cpw, .ref cpc, .int (nI cp9), .ref car, .int (nI ca9)])), (co, .inl (kI, 6000, .inl fo)), (ca, .inl (kI, 6000, .inl fa)), (cb, .inl (kI, 6000, .inl fbb)), (c3, .inl (kI, 6000, .inl fc)), (cw, .inl (kI, 6000, .inl fwh))] s.heap.size = A at hD ⊢
  have hA : ∀ q : Nat, s.heap.size ≤ q → A q := fun q h => by rw [← hAe]; exact Or.inr h
  have hS : va_S A s.heap s.heap [] := va_S.rf
  have hP : va_P (dC, dI) vwCl [(c0, .inr (0, [.ref co, .ref ca, .ref cb, .ref c3, .ref cw, .int (nI ct), .ref cl, .int (nI cb9), .ref cpv, .ref cpp, .ref cpl, .ref cpr, .ref cpt, .ref cpw, .ref cpc, .int (nI cp9), .ref car, .int (nI ca9)])), (co, .inl (kI, 6000, .inl fo)), (ca, .inl (kI, 6000, .inl fa)), (cb, .inl (kI, 6000, .inl fbb)), (c3, .inl (kI, 6000, .inl fc)), (cw, .inl (kI, 6000, .inl fwh))] s.heap := hP
  have hl := lv_entry ([.ref c0, .long v]) (n := 3) (Nat.le_of_ble_eq_true rfl)
  rw [lg_entry_eq]
  generalize (lg_sl ([.ref c0, .long v]) ++ List.replicate (3 - (lg_sl ([.ref c0, .long v])).length) Slot.unset).toArray = ls at hl ⊢
  have hl : lv_has ls 3 [(0, .ref c0), (1, .long v)] := hl
  refine lv_aload_n hx hb dX0_addNumber_0 rfl (lv_at hl 0 rfl) ?_
  refine lv_iconst (v := 0) hx hb dX0_addNumber_1 (by decide) ?_
  refine lv_lload_n hx hb dX0_addNumber_2 rfl (lv_at hl 1 rfl) ?_
  refine lv_bipush (v := 32) hx hb dX0_addNumber_3 (by decide) ?_
  obtain ⟨f_1, ef_1⟩ : ∃ yY : Int64, yY = (v : Int64) >>> ((32 : Int32).toInt64 &&& 63) := ⟨_, rfl⟩
  refine lv_lshr (v := f_1) hx hb dX0_addNumber_5 ef_1.symm ?_
  obtain ⟨f_2, ef_2⟩ : ∃ yY : Int32, yY = (f_1 : Int64).toInt32 := ⟨_, rfl⟩
  refine lv_l2i (v := f_2) hx hb dX0_addNumber_6 ef_2.symm ?_
  refine lv_lload_n hx hb dX0_addNumber_7 rfl (lv_at hl 1 rfl) ?_
  obtain ⟨f_3, ef_3⟩ : ∃ yY : Int32, yY = (v : Int64).toInt32 := ⟨_, rfl⟩
  refine lv_l2i (v := f_3) hx hb dX0_addNumber_8 ef_3.symm ?_
  refine lv_iconst (v := 0) hx hb dX0_addNumber_9 (by decide) ?_
  refine lv_iconst (v := (-1)) hx hb dX0_addNumber_10 (by decide) ?_
  have hPc := hP.sub (ws' := [(c0, .inr (0, [.ref co, .ref ca, .ref cb, .ref c3, .ref cw, .int (nI ct), .ref cl, .int (nI cb9), .ref cpv, .ref cpp, .ref cpl, .ref cpr, .ref cpt, .ref cpw, .ref cpc, .int (nI cp9), .ref car, .int (nI ca9)])), (co, .inl (kI, 6000, .inl fo)), (ca, .inl (kI, 6000, .inl fa)), (cb, .inl (kI, 6000, .inl fbb)), (c3, .inl (kI, 6000, .inl fc)), (cw, .inl (kI, 6000, .inl fwh))]) [0, 1, 2, 3, 4, 5] rfl
  have hDc := hD.sub (ws' := [(c0, .inr (0, [.ref co, .ref ca, .ref cb, .ref c3, .ref cw, .int (nI ct), .ref cl, .int (nI cb9), .ref cpv, .ref cpp, .ref cpl, .ref cpr, .ref cpt, .ref cpw, .ref cpc, .int (nI cp9), .ref car, .int (nI ca9)])), (co, .inl (kI, 6000, .inl fo)), (ca, .inl (kI, 6000, .inl fa)), (cb, .inl (kI, 6000, .inl fbb)), (c3, .inl (kI, 6000, .inl fc)), (cw, .inl (kI, 6000, .inl fwh))]) [0, 1, 2, 3, 4, 5] (by decide) rfl
  have hKc := hK.sub (tys' := [(kI, .int)]) [0] rfl
  have hFc := va_free (wc := [(c0, .inr (0, [.ref co, .ref ca, .ref cb, .ref c3, .ref cw, .int (nI ct), .ref cl, .int (nI cb9), .ref cpv, .ref cpp, .ref cpl, .ref cpr, .ref cpt, .ref cpw, .ref cpc, .int (nI cp9), .ref car, .int (nI ca9)])), (co, .inl (kI, 6000, .inl fo)), (ca, .inl (kI, 6000, .inl fa)), (cb, .inl (kI, 6000, .inl fbb)), (c3, .inl (kI, 6000, .inl fc)), (cw, .inl (kI, 6000, .inl fwh))]) hD hS hA [0, 1, 2, 3, 4, 5] rfl
  refine va_callv (va_runV (As := [.int 0, .int f_2, .int f_3, .int 0, .int (-1)]) (rest := []) ⟨hx, hb, hml, hown, hts⟩ (c_cadd l dC dI c0 co ca cb c3 cw cl cpv cpp cpl cpr cpt cpw cpc car ct cb9 cp9 ca9 kI fo fa fbb fc fwh 0 f_2 f_3 0 (-1) s.heap.size hct) (cwV 5 hts g_c_caddN_c_cadd_11 rfl rfl rfl (by decide +kernel) ⟨Nat.le_of_ble_eq_true rfl, Nat.le_of_ble_eq_true rfl⟩) ⟨fun a U g mk q => by obtain ⟨q0, q1, qP, qK, qD⟩ := q; exact ⟨q0, q1, qP, va_K.moved (u := U) (U := U.calling g mk a) (Vm.Alike.refl U.vm) qK, qD⟩, va_recv hKc hPc (ci := 0) (q0 := 0) rfl rfl, fun U hU hW => ⟨rfl, by rw [hU], by rw [hU]; exact hPc, va_K.moved hW.alike hKc, hDc.weaken (fun _ _ _ _ => trivial)⟩⟩ rfl rfl hl.1 rfl (lv_room (Nat.le_of_ble_eq_true rfl)) dX0_addNumber_11 ⟨(show 0 + 0 ≤ 0 by omega), (show 0 + 0 ≤ 0 by omega)⟩) hS (fun q _ h => hFc q h) hFc (fun u tS H1 locs ht hvm hw hB hz1 hk1 hS => ?_)
  obtain ⟨ct9, g09, g19, g29, g39, g49, hf4_0, hf4_1, hf4_2, hf4_3, hf4_4, hP1, hK1, hD1⟩ := hB
  rw [ht] at hP1
  have hK1 := va_K.moved hvm.symm hK1
  obtain ⟨hP, hD⟩ := va_join (wr := []) (w1 := [(c0, .inr (0, [.ref co, .ref ca, .ref cb, .ref c3, .ref cw, .int (nI ct9), .ref cl, .int (nI cb9), .ref cpv, .ref cpp, .ref cpl, .ref cpr, .ref cpt, .ref cpw, .ref cpc, .int (nI cp9), .ref car, .int (nI ca9)])), (co, .inl (kI, 6000, .inl g09)), (ca, .inl (kI, 6000, .inl g19)), (cb, .inl (kI, 6000, .inl g29)), (c3, .inl (kI, 6000, .inl g39)), (cw, .inl (kI, 6000, .inl g49))]) hP hD [0, 1, 2, 3, 4, 5] [] rfl rfl (by decide) (by decide) hk1 hFc hP1 hD1
  have hK := hK.app hK1
  generalize H1 = H at hP hS ⊢
  have hP : va_P (dC, dI) vwCl [(c0, .inr (0, [.ref co, .ref ca, .ref cb, .ref c3, .ref cw, .int (nI ct9), .ref cl, .int (nI cb9), .ref cpv, .ref cpp, .ref cpl, .ref cpr, .ref cpt, .ref cpw, .ref cpc, .int (nI cp9), .ref car, .int (nI ca9)])), (co, .inl (kI, 6000, .inl g09)), (ca, .inl (kI, 6000, .inl g19)), (cb, .inl (kI, 6000, .inl g29)), (c3, .inl (kI, 6000, .inl g39)), (cw, .inl (kI, 6000, .inl g49))] H := hP
  have hD : va_D A [(c0, .inr (0, [.ref co, .ref ca, .ref cb, .ref c3, .ref cw, .int (nI ct9), .ref cl, .int (nI cb9), .ref cpv, .ref cpp, .ref cpl, .ref cpr, .ref cpt, .ref cpw, .ref cpc, .int (nI cp9), .ref car, .int (nI ca9)])), (co, .inl (kI, 6000, .inl g09)), (ca, .inl (kI, 6000, .inl g19)), (cb, .inl (kI, 6000, .inl g29)), (c3, .inl (kI, 6000, .inl g39)), (cw, .inl (kI, 6000, .inl g49))] := hD
  have hK : va_K (dC, dI) vwCl [(kI, .int), (kI, .int)] s := hK
  have hK := hK.sub (tys' := [(kI, .int)]) [0] rfl
  have hP : va_P (dC, dI) vwCl [(c0, .inr (0, [.ref co, .ref ca, .ref cb, .ref c3, .ref cw, .int (nI ct9), .ref cl, .int (nI cb9), .ref cpv, .ref cpp, .ref cpl, .ref cpr, .ref cpt, .ref cpw, .ref cpc, .int (nI cp9), .ref car, .int (nI ca9)])), (co, .inl (kI, 6000, .inl g09)), (ca, .inl (kI, 6000, .inl g19)), (cb, .inl (kI, 6000, .inl g29)), (c3, .inl (kI, 6000, .inl g39)), (cw, .inl (kI, 6000, .inl g49))] H := hP
  have hD : va_D A [(c0, .inr (0, [.ref co, .ref ca, .ref cb, .ref c3, .ref cw, .int (nI ct9), .ref cl, .int (nI cb9), .ref cpv, .ref cpp, .ref cpl, .ref cpr, .ref cpt, .ref cpw, .ref cpc, .int (nI cp9), .ref car, .int (nI ca9)])), (co, .inl (kI, 6000, .inl g09)), (ca, .inl (kI, 6000, .inl g19)), (cb, .inl (kI, 6000, .inl g29)), (c3, .inl (kI, 6000, .inl g39)), (cw, .inl (kI, 6000, .inl g49))] := hD
  have hP9 := hP.sub (ws' := [(c0, .inr (0, [.ref co, .ref ca, .ref cb, .ref c3, .ref cw, .int (nI ct9), .ref cl, .int (nI cb9), .ref cpv, .ref cpp, .ref cpl, .ref cpr, .ref cpt, .ref cpw, .ref cpc, .int (nI cp9), .ref car, .int (nI ca9)])), (co, .inl (kI, 6000, .inl g09)), (ca, .inl (kI, 6000, .inl g19)), (cb, .inl (kI, 6000, .inl g29)), (c3, .inl (kI, 6000, .inl g39)), (cw, .inl (kI, 6000, .inl g49))]) [0, 1, 2, 3, 4, 5] rfl
  have hD9 := hD.sub (ws' := [(c0, .inr (0, [.ref co, .ref ca, .ref cb, .ref c3, .ref cw, .int (nI ct9), .ref cl, .int (nI cb9), .ref cpv, .ref cpp, .ref cpl, .ref cpr, .ref cpt, .ref cpw, .ref cpc, .int (nI cp9), .ref car, .int (nI ca9)])), (co, .inl (kI, 6000, .inl g09)), (ca, .inl (kI, 6000, .inl g19)), (cb, .inl (kI, 6000, .inl g29)), (c3, .inl (kI, 6000, .inl g39)), (cw, .inl (kI, 6000, .inl g49))]) [0, 1, 2, 3, 4, 5] (by decide) rfl
  have hK9 := hK.sub (tys' := [(kI, .int)]) [0] rfl
  exact W.vret hx hb hr (fun tS ht hW => ⟨⟨(), rfl, trivial, ct9, f_2, f_3, g09, g19, g29, g39, g49, hf4_0, hf4_1, hf4_2, hf4_3, hf4_4, by rw [ht]; exact hP9, va_K.moved hW.alike hK9, hD9⟩, hS.F ht⟩) hS.2.2 dX0_addNumber_14
def wf_c_newLabel : List Cond := [.code yX0_newLabel cX0_newLabel 1 (some .int), .fieldLink RX0 58 "OwnedPlaces$Code" "labels" "I"]
def wp_c_newLabel : List Cond := wf_c_newLabel ++ (wsX00 ++ [])
theorem in_c_newLabel_X0 : ∀ w ∈ wsX00, w ∈ wp_c_newLabel := fun w h => List.mem_append_right _ (List.mem_append_left _ h)
theorem wg_c_newLabel : wf_c_newLabel.all goodWord = true := by decide +kernel
theorem wm_c_newLabel (k : Nat) {w : Cond} (h : wp_c_newLabel[k]? = some w) : w ∈ wp_c_newLabel := List.mem_of_getElem? h
set_option maxHeartbeats 4000000 in
set_option maxRecDepth 100000 in
theorem c_newLabel (l : Launch) (dC : Nat → ClassId) (dI : Nat → Nat → Nat) (c0 co ca cb c3 cw cl cpv cpp cpl cpr cpt cpw cpc car : Nat) (ct cb9 cp9 ca9 : Nat) (sz : Nat) (hcb : cb9 ≤ 1100) : Met l yX0_newLabel wp_c_newLabel ({ frames := 0, cells := 0, slots := 0, locals := 0 }) (va_Pc [.ref c0] (fun U => U.heap.size = sz ∧ va_P (dC, dI) vwCl [(c0, .inr (0, [.ref co, .ref ca, .ref cb, .ref c3, .ref cw, .int (nI ct), .ref cl, .int (nI cb9), .ref cpv, .ref cpp, .ref cpl, .ref cpr, .ref cpt, .ref cpw, .ref cpc, .int (nI cp9), .ref car, .int (nI ca9)]))] U.heap ∧ va_K (dC, dI) vwCl [] U ∧ va_D (fun _ => True) [(c0, .inr (0, [.ref co, .ref ca, .ref cb, .ref c3, .ref cw, .int (nI ct), .ref cl, .int (nI cb9), .ref cpv, .ref cpp, .ref cpl, .ref cpr, .ref cpt, .ref cpw, .ref cpc, .int (nI cp9), .ref car, .int (nI ca9)]))])) (va_Qi (fun (r : Int32) (n2 : Nat) => r = nI (n2 - 1) ∧ 1 ≤ n2 ∧ n2 ≤ 1100 ∧ ((cb9 < 1100 ∧ n2 = cb9 + 1) ∨ (cb9 = 1100 ∧ n2 = cb9))) (fun (n2 : Nat) (tS : State) => va_P (dC, dI) vwCl [(c0, .inr (0, [.ref co, .ref ca, .ref cb, .ref c3, .ref cw, .int (nI ct), .ref cl, .int (nI n2), .ref cpv, .ref cpp, .ref cpl, .ref cpr, .ref cpt, .ref cpw, .ref cpc, .int (nI cp9), .ref car, .int (nI ca9)]))] tS.heap ∧ va_K (dC, dI) vwCl [] tS ∧ va_D (va_A [(c0, .inr (0, [.ref co, .ref ca, .ref cb, .ref c3, .ref cw, .int (nI ct), .ref cl, .int (nI cb9), .ref cpv, .ref cpp, .ref cpl, .ref cpr, .ref cpt, .ref cpw, .ref cpc, .int (nI cp9), .ref car, .int (nI ca9)]))] sz) [(c0, .inr (0, [.ref co, .ref ca, .ref cb, .ref c3, .ref cw, .int (nI ct), .ref cl, .int (nI n2), .ref cpv, .ref cpp, .ref cpl, .ref cpr, .ref cpt, .ref cpw, .ref cpc, .int (nI cp9), .ref car, .int (nI ca9)]))]) (va_A [(c0, .inr (0, [.ref co, .ref ca, .ref cb, .ref c3, .ref cw, .int (nI ct), .ref cl, .int (nI cb9), .ref cpv, .ref cpp, .ref cpl, .ref cpr, .ref cpt, .ref cpw, .ref cpc, .int (nI cp9), .ref car, .int (nI ca9)]))] sz)) 0 0 (va_A [(c0, .inr (0, [.ref co, .ref ca, .ref cb, .ref c3, .ref cw, .int (nI ct), .ref cl, .int (nI cb9), .ref cpv, .ref cpp, .ref cpl, .ref cpr, .ref cpt, .ref cpw, .ref cpc, .int (nI cp9), .ref car, .int (nI ca9)]))] sz) := by
  refine Met.ofW (cc := cX0_newLabel) (maxL := 1) (ret := (some .int)) (by decide) rfl ?_
  intro p e s m args below meth c s₁ B hml hv
  obtain ⟨rfl, hsz, hP, hK, hD0⟩ := hv
  have hx := B.exec
  have hb := B.bytes
  have hr := B.returns
  have hts := atoms_spec (ws := wp_c_newLabel) B.pre
  have hown : s.vm.findClass RX0 = some m.cls := findClass_of_methodNamed B.named
  have hlocks := B.notSynchronized
  subst hsz
  have hD := hD0.self (sz := s.heap.size)
  generalize hAe : va_A [(c0, .inr (0, [.ref co, .ref ca, .ref cb, .ref c3, .ref cw, .int (nI ct), .ref cl, .int (nI cb9), .ref cpv, .ref cpp, .ref cpl, .ref cpr, .ref cpt, .ref cpw, .ref cpc, .int (nI cp9), .ref car, .int (nI ca9)]))] s.heap.size = A at hD ⊢
  have hA : ∀ q : Nat, s.heap.size ≤ q → A q := fun q h => by rw [← hAe]; exact Or.inr h
  have hS : va_S A s.heap s.heap [] := va_S.rf
  have hP : va_P (dC, dI) vwCl [(c0, .inr (0, [.ref co, .ref ca, .ref cb, .ref c3, .ref cw, .int (nI ct), .ref cl, .int (nI cb9), .ref cpv, .ref cpp, .ref cpl, .ref cpr, .ref cpt, .ref cpw, .ref cpc, .int (nI cp9), .ref car, .int (nI ca9)]))] s.heap := hP
  have hl := lv_entry ([.ref c0]) (n := 1) (Nat.le_of_ble_eq_true rfl)
  rw [lg_entry_eq]
  generalize (lg_sl ([.ref c0]) ++ List.replicate (1 - (lg_sl ([.ref c0])).length) Slot.unset).toArray = ls at hl ⊢
  have hl : lv_has ls 1 [(0, .ref c0)] := hl
  refine lv_aload_n hx hb dX0_newLabel_0 rfl (lv_at hl 0 rfl) ?_
  refine va_get (D := (dC, dI)) (ci := 0) (v := .int (nI cb9)) (C := RX0) (T := TX0) (N := 18) hx hb hts in_c_newLabel_X0 hown hK hP 0 rfl rfl 7 (by decide) (hts (.fieldLink RX0 58 "OwnedPlaces$Code" "labels" "I") (wm_c_newLabel 1 rfl)) (fun _ h9 => h9) rfl dX0_newLabel_1 ?_
  refine lv_sipush (v := 1100) hx hb dX0_newLabel_4 (by decide) ?_
  refine lv_icmp_ge (tgt := 20) hx hb dX0_newLabel_7 (by decide) (fun hc => ?_) (fun hc => ?_)
  · have he : cb9 = 1100 := by have := (nI_leI (a := 1100) (b := cb9) (by decide) (by omega)).mp hc; omega
    refine lv_aload_n hx hb dX0_newLabel_20 rfl (lv_at hl 0 rfl) ?_
    refine va_get (D := (dC, dI)) (ci := 0) (v := .int (nI cb9)) (C := RX0) (T := TX0) (N := 18) hx hb hts in_c_newLabel_X0 hown hK hP 0 rfl rfl 7 (by decide) (hts (.fieldLink RX0 58 "OwnedPlaces$Code" "labels" "I") (wm_c_newLabel 1 rfl)) (fun _ h9 => h9) rfl dX0_newLabel_21 ?_
    refine lv_iconst (v := 1) hx hb dX0_newLabel_24 (by decide) ?_
    refine lv_isub hx hb dX0_newLabel_25 ?_
    refine lv_topi (fun f_1 ef_1 => ?_)
    obtain rfl : f_1 = nI (cb9 - 1) := ef_1.trans (pk_sub (a := cb9) (b := 1) (by omega))
    have hP9 := hP.sub (ws' := [(c0, .inr (0, [.ref co, .ref ca, .ref cb, .ref c3, .ref cw, .int (nI ct), .ref cl, .int (nI cb9), .ref cpv, .ref cpp, .ref cpl, .ref cpr, .ref cpt, .ref cpw, .ref cpc, .int (nI cp9), .ref car, .int (nI ca9)]))]) [0] rfl
    have hD9 := hD.sub (ws' := [(c0, .inr (0, [.ref co, .ref ca, .ref cb, .ref c3, .ref cw, .int (nI ct), .ref cl, .int (nI cb9), .ref cpv, .ref cpp, .ref cpl, .ref cpr, .ref cpt, .ref cpw, .ref cpc, .int (nI cp9), .ref car, .int (nI ca9)]))]) [0] (by decide) rfl
    have hK9 := hK.sub (tys' := []) [] rfl
    exact W.iret (v := nI (cb9 - 1)) hx hb hr (fun tS ht hW => ⟨⟨(nI (cb9 - 1)), cb9, rfl, ⟨rfl, by omega, by omega, by omega⟩, by rw [ht]; exact hP9, va_K.moved hW.alike hK9, hD9⟩, hS.F ht⟩) hS.2.2 dX0_newLabel_26
  · have hlt : cb9 < 1100 := by rcases Nat.lt_or_ge cb9 1100 with q | q; exact q; exact absurd (nI_le (a := 1100) q (by omega)) hc
    refine lv_aload_n hx hb dX0_newLabel_10 rfl (lv_at hl 0 rfl) ?_
    refine lv_dup hx hb dX0_newLabel_11 rfl ?_
    refine va_get (D := (dC, dI)) (ci := 0) (v := .int (nI cb9)) (C := RX0) (T := TX0) (N := 18) hx hb hts in_c_newLabel_X0 hown hK hP 0 rfl rfl 7 (by decide) (hts (.fieldLink RX0 58 "OwnedPlaces$Code" "labels" "I") (wm_c_newLabel 1 rfl)) (fun _ h9 => h9) rfl dX0_newLabel_12 ?_
    refine lv_iconst (v := 1) hx hb dX0_newLabel_15 (by decide) ?_
    refine lv_iadd hx hb dX0_newLabel_16 ?_
    refine lv_topi (fun f_1 ef_1 => ?_)
    obtain rfl : f_1 = nI (cb9 + 1) := ef_1.trans (nI_1 _)
    refine va_put (D := (dC, dI)) (ci := 0) (v := .int (nI (cb9 + 1))) (ty := .int) (C := RX0) (T := TX0) (N := 18) hx hb hts in_c_newLabel_X0 tyX0 tyX0_ok nmX0 hown hK hP hD hS 0 rfl rfl 7 (by decide) (hts (.fieldLink RX0 58 "OwnedPlaces$Code" "labels" "I") (wm_c_newLabel 1 rfl)) (fun _ h9 => h9) rfl (by decide +kernel) rfl rfl (Nat.le_of_ble_eq_true rfl) dX0_newLabel_17 (fun H locs hP hD hS => ?_)
    have hP : va_P (dC, dI) vwCl [(c0, .inr (0, [.ref co, .ref ca, .ref cb, .ref c3, .ref cw, .int (nI ct), .ref cl, .int (nI (cb9 + 1)), .ref cpv, .ref cpp, .ref cpl, .ref cpr, .ref cpt, .ref cpw, .ref cpc, .int (nI cp9), .ref car, .int (nI ca9)]))] H := hP
    have hD : va_D A [(c0, .inr (0, [.ref co, .ref ca, .ref cb, .ref c3, .ref cw, .int (nI ct), .ref cl, .int (nI (cb9 + 1)), .ref cpv, .ref cpp, .ref cpl, .ref cpr, .ref cpt, .ref cpw, .ref cpc, .int (nI cp9), .ref car, .int (nI ca9)]))] := hD
    refine lv_aload_n hx hb dX0_newLabel_20 rfl (lv_at hl 0 rfl) ?_
    refine va_get (D := (dC, dI)) (ci := 0) (v := .int (nI (cb9 + 1))) (C := RX0) (T := TX0) (N := 18) hx hb hts in_c_newLabel_X0 hown hK hP 0 rfl rfl 7 (by decide) (hts (.fieldLink RX0 58 "OwnedPlaces$Code" "labels" "I") (wm_c_newLabel 1 rfl)) (fun _ h9 => h9) rfl dX0_newLabel_21 ?_
    refine lv_iconst (v := 1) hx hb dX0_newLabel_24 (by decide) ?_
    refine lv_isub hx hb dX0_newLabel_25 ?_
    refine lv_topi (fun f_2 ef_2 => ?_)
    obtain rfl : f_2 = nI (cb9 + 1 - 1) := ef_2.trans (pk_sub (a := cb9 + 1) (b := 1) (by omega))
    have hP9 := hP.sub (ws' := [(c0, .inr (0, [.ref co, .ref ca, .ref cb, .ref c3, .ref cw, .int (nI ct), .ref cl, .int (nI (cb9 + 1)), .ref cpv, .ref cpp, .ref cpl, .ref cpr, .ref cpt, .ref cpw, .ref cpc, .int (nI cp9), .ref car, .int (nI ca9)]))]) [0] rfl
    have hD9 := hD.sub (ws' := [(c0, .inr (0, [.ref co, .ref ca, .ref cb, .ref c3, .ref cw, .int (nI ct), .ref cl, .int (nI (cb9 + 1)), .ref cpv, .ref cpp, .ref cpl, .ref cpr, .ref cpt, .ref cpw, .ref cpc, .int (nI cp9), .ref car, .int (nI ca9)]))]) [0] (by decide) rfl
    have hK9 := hK.sub (tys' := []) [] rfl
    exact W.iret (v := nI (cb9 + 1 - 1)) hx hb hr (fun tS ht hW => ⟨⟨(nI (cb9 + 1 - 1)), (cb9 + 1), rfl, ⟨rfl, by omega, by omega, by omega⟩, by rw [ht]; exact hP9, va_K.moved hW.alike hK9, hD9⟩, hS.F ht⟩) hS.2.2 dX0_newLabel_26
def wf_c_setLabel : List Cond := [.code yX0_setLabel cX0_setLabel 3 none, .fieldLink RX0 27 "OwnedPlaces$Code" "labelAt" "[I", .fieldLink RX0 54 "OwnedPlaces$Code" "total" "I", .code yX0_add_ cX0_add_ 3 none, .code yX0_add cX0_add 6 none, .fieldLink RX0 9 "OwnedPlaces$Code" "op" "[I", .fieldLink RX0 15 "OwnedPlaces$Code" "a" "[I", .fieldLink RX0 18 "OwnedPlaces$Code" "b" "[I", .fieldLink RX0 21 "OwnedPlaces$Code" "c" "[I", .fieldLink RX0 24 "OwnedPlaces$Code" "where" "[I", .methodLink RX0 67 yX0_add, .instanceMethod yX0_add, .selects RX0 yX0_add yX0_add, .initialized RX0, .methodLink RX0 71 yX0_add_, .instanceMethod yX0_add_, .selects RX0 yX0_add_ yX0_add_]
def wp_c_setLabel : List Cond := wf_c_setLabel ++ (wsX00 ++ [])
theorem in_c_setLabel_X0 : ∀ w ∈ wsX00, w ∈ wp_c_setLabel := fun w h => List.mem_append_right _ (List.mem_append_left _ h)
theorem wg_c_setLabel : wf_c_setLabel.all goodWord = true := by decide +kernel
theorem wm_c_setLabel (k : Nat) {w : Cond} (h : wp_c_setLabel[k]? = some w) : w ∈ wp_c_setLabel := List.mem_of_getElem? h
set_option maxRecDepth 20000 in
theorem g_c_setLabel_c_cadd2_13 : GoodIn wp_c_setLabel (wsV RX0 71 RX0 yX0_add_ wp_c_cadd2) := goodIn_app (goodIn_f [.methodLink RX0 71 yX0_add_, .instanceMethod yX0_add_, .selects RX0 yX0_add_ yX0_add_, .initialized RX0] [14, 15, 16, 13] rfl (by decide +kernel)) (goodIn_app (goodIn_f (wf_c_cadd2) [3, 4, 2, 5, 6, 7, 8, 9, 10, 11, 12, 13] rfl wg_c_cadd2) (goodIn_app (goodIn_sub in_c_setLabel_X0 gd_X0) (goodIn_n)))
set_option maxHeartbeats 4000000 in
set_option maxRecDepth 100000 in
theorem c_setLabel (l : Launch) (dC : Nat → ClassId) (dI : Nat → Nat → Nat) (c0 co ca cb c3 cw cl cpv cpp cpl cpr cpt cpw cpc car : Nat) (ct cb9 cp9 ca9 : Nat) (lb : Nat) (kI : ClassId) (fo fa fbb fc fwh fla : Nat → Int32) (x0 : Int32) (sz : Nat) (hct : ct ≤ 6000) (hlb : lb < 1100) : Met l yX0_setLabel wp_c_setLabel ({ frames := 2, cells := 0, slots := 0, locals := 47 }) (va_Pc [.ref c0, .int x0, .int (nI lb)] (fun U => U.heap.size = sz ∧ va_P (dC, dI) vwCl [(c0, .inr (0, [.ref co, .ref ca, .ref cb, .ref c3, .ref cw, .int (nI ct), .ref cl, .int (nI cb9), .ref cpv, .ref cpp, .ref cpl, .ref cpr, .ref cpt, .ref cpw, .ref cpc, .int (nI cp9), .ref car, .int (nI ca9)])), (co, .inl (kI, 6000, .inl fo)), (ca, .inl (kI, 6000, .inl fa)), (cb, .inl (kI, 6000, .inl fbb)), (c3, .inl (kI, 6000, .inl fc)), (cw, .inl (kI, 6000, .inl fwh)), (cl, .inl (kI, 1100, .inl fla))] U.heap ∧ va_K (dC, dI) vwCl [(kI, .int)] U ∧ va_D (fun _ => True) [(c0, .inr (0, [.ref co, .ref ca, .ref cb, .ref c3, .ref cw, .int (nI ct), .ref cl, .int (nI cb9), .ref cpv, .ref cpp, .ref cpl, .ref cpr, .ref cpt, .ref cpw, .ref cpc, .int (nI cp9), .ref car, .int (nI ca9)])), (co, .inl (kI, 6000, .inl fo)), (ca, .inl (kI, 6000, .inl fa)), (cb, .inl (kI, 6000, .inl fbb)), (c3, .inl (kI, 6000, .inl fc)), (cw, .inl (kI, 6000, .inl fwh)), (cl, .inl (kI, 1100, .inl fla))])) (va_Qv (fun _ : Unit => True) (fun (_ : Unit) (tS : State) => ∃ (ct2 : Nat) (go : Nat → Int32) (ga : Nat → Int32) (gb : Nat → Int32) (gc : Nat → Int32) (gw : Nat → Int32) (gla : Nat → Int32), (insA ct ct2 fo go x0) ∧ (insA ct ct2 fa ga (nI lb)) ∧ (insA ct ct2 fbb gb 0) ∧ (insA ct ct2 fc gc 0) ∧ (insA ct ct2 fwh gw (-1)) ∧ (gla = upd fla lb (nI ct)) ∧ va_P (dC, dI) vwCl [(c0, .inr (0, [.ref co, .ref ca, .ref cb, .ref c3, .ref cw, .int (nI ct2), .ref cl, .int (nI cb9), .ref cpv, .ref cpp, .ref cpl, .ref cpr, .ref cpt, .ref cpw, .ref cpc, .int (nI cp9), .ref car, .int (nI ca9)])), (co, .inl (kI, 6000, .inl go)), (ca, .inl (kI, 6000, .inl ga)), (cb, .inl (kI, 6000, .inl gb)), (c3, .inl (kI, 6000, .inl gc)), (cw, .inl (kI, 6000, .inl gw)), (cl, .inl (kI, 1100, .inl gla))] tS.heap ∧ va_K (dC, dI) vwCl [(kI, .int)] tS ∧ va_D (va_A [(c0, .inr (0, [.ref co, .ref ca, .ref cb, .ref c3, .ref cw, .int (nI ct), .ref cl, .int (nI cb9), .ref cpv, .ref cpp, .ref cpl, .ref cpr, .ref cpt, .ref cpw, .ref cpc, .int (nI cp9), .ref car, .int (nI ca9)])), (co, .inl (kI, 6000, .inl fo)), (ca, .inl (kI, 6000, .inl fa)), (cb, .inl (kI, 6000, .inl fbb)), (c3, .inl (kI, 6000, .inl fc)), (cw, .inl (kI, 6000, .inl fwh)), (cl, .inl (kI, 1100, .inl fla))] sz) [(c0, .inr (0, [.ref co, .ref ca, .ref cb, .ref c3, .ref cw, .int (nI ct2), .ref cl, .int (nI cb9), .ref cpv, .ref cpp, .ref cpl, .ref cpr, .ref cpt, .ref cpw, .ref cpc, .int (nI cp9), .ref car, .int (nI ca9)])), (co, .inl (kI, 6000, .inl go)), (ca, .inl (kI, 6000, .inl ga)), (cb, .inl (kI, 6000, .inl gb)), (c3, .inl (kI, 6000, .inl gc)), (cw, .inl (kI, 6000, .inl gw)), (cl, .inl (kI, 1100, .inl gla))]) (va_A [(c0, .inr (0, [.ref co, .ref ca, .ref cb, .ref c3, .ref cw, .int (nI ct), .ref cl, .int (nI cb9), .ref cpv, .ref cpp, .ref cpl, .ref cpr, .ref cpt, .ref cpw, .ref cpc, .int (nI cp9), .ref car, .int (nI ca9)])), (co, .inl (kI, 6000, .inl fo)), (ca, .inl (kI, 6000, .inl fa)), (cb, .inl (kI, 6000, .inl fbb)), (c3, .inl (kI, 6000, .inl fc)), (cw, .inl (kI, 6000, .inl fwh)), (cl, .inl (kI, 1100, .inl fla))] sz)) 0 0 (va_A [(c0, .inr (0, [.ref co, .ref ca, .ref cb, .ref c3, .ref cw, .int (nI ct), .ref cl, .int (nI cb9), .ref cpv, .ref cpp, .ref cpl, .ref cpr, .ref cpt, .ref cpw, .ref cpc, .int (nI cp9), .ref car, .int (nI ca9)])), (co, .inl (kI, 6000, .inl fo)), (ca, .inl (kI, 6000, .inl fa)), (cb, .inl (kI, 6000, .inl fbb)), (c3, .inl (kI, 6000, .inl fc)), (cw, .inl (kI, 6000, .inl fwh)), (cl, .inl (kI, 1100, .inl fla))] sz) := by
  refine Met.ofW (cc := cX0_setLabel) (maxL := 3) (ret := none) (by decide) rfl ?_
  intro p e s m args below meth c s₁ B hml hv
  obtain ⟨rfl, hsz, hP, hK, hD0⟩ := hv
  have hx := B.exec
  have hb := B.bytes
  have hr := B.returns
  have hts := atoms_spec (ws := wp_c_setLabel) B.pre
  have hown : s.vm.findClass RX0 = some m.cls := findClass_of_methodNamed B.named
  have hlocks := B.notSynchronized
  subst hsz
  have hD := hD0.self (sz := s.heap.size)
  generalize hAe : va_A [(c0, .inr (0, [.ref co, .ref ca, .ref cb, .ref c3, .ref cw, .int (nI ct), .ref cl, .int (nI cb9), .ref cpv, .ref cpp, .ref cpl, .ref cpr, .ref cpt, .ref cpw, .ref cpc, .int (nI cp9), .ref car, .int (nI ca9)])), (co, .inl (kI, 6000, .inl fo)), (ca, .inl (kI, 6000, .inl fa)), (cb, .inl (kI, 6000, .inl fbb)), (c3, .inl (kI, 6000, .inl fc)), (cw, .inl (kI, 6000, .inl fwh)), (cl, .inl (kI, 1100, .inl fla))] s.heap.size = A at hD ⊢
  have hA : ∀ q : Nat, s.heap.size ≤ q → A q := fun q h => by rw [← hAe]; exact Or.inr h
  have hS : va_S A s.heap s.heap [] := va_S.rf
  have hP : va_P (dC, dI) vwCl [(c0, .inr (0, [.ref co, .ref ca, .ref cb, .ref c3, .ref cw, .int (nI ct), .ref cl, .int (nI cb9), .ref cpv, .ref cpp, .ref cpl, .ref cpr, .ref cpt, .ref cpw, .ref cpc, .int (nI cp9), .ref car, .int (nI ca9)])), (co, .inl (kI, 6000, .inl fo)), (ca, .inl (kI, 6000, .inl fa)), (cb, .inl (kI, 6000, .inl fbb)), (c3, .inl (kI, 6000, .inl fc)), (cw, .inl (kI, 6000, .inl fwh)), (cl, .inl (kI, 1100, .inl fla))] s.heap := hP
  have hl := lv_entry ([.ref c0, .int x0, .int (nI lb)]) (n := 3) (Nat.le_of_ble_eq_true rfl)
  rw [lg_entry_eq]
  generalize (lg_sl ([.ref c0, .int x0, .int (nI lb)]) ++ List.replicate (3 - (lg_sl ([.ref c0, .int x0, .int (nI lb)])).length) Slot.unset).toArray = ls at hl ⊢
  have hl : lv_has ls 3 [(0, .ref c0), (1, .int x0), (2, .int (nI lb))] := hl
  refine lv_aload_n hx hb dX0_setLabel_0 rfl (lv_at hl 0 rfl) ?_
  refine va_get (D := (dC, dI)) (ci := 0) (v := .ref cl) (C := RX0) (T := TX0) (N := 18) hx hb hts in_c_setLabel_X0 hown hK hP 0 rfl rfl 6 (by decide) (hts (.fieldLink RX0 27 "OwnedPlaces$Code" "labelAt" "[I") (wm_c_setLabel 1 rfl)) (fun _ h9 => h9) rfl dX0_setLabel_1 ?_
  refine lv_iload_n hx hb dX0_setLabel_4 rfl (lv_at hl 2 rfl) ?_
  refine lv_aload_n hx hb dX0_setLabel_5 rfl (lv_at hl 0 rfl) ?_
  refine va_get (D := (dC, dI)) (ci := 0) (v := .int (nI ct)) (C := RX0) (T := TX0) (N := 18) hx hb hts in_c_setLabel_X0 hown hK hP 0 rfl rfl 5 (by decide) (hts (.fieldLink RX0 54 "OwnedPlaces$Code" "total" "I") (wm_c_setLabel 2 rfl)) (fun _ h9 => h9) rfl dX0_setLabel_6 ?_
  refine va_iast hx hb hK hP hD hS 6 0 rfl rfl (vp_in_nI hlb (by decide)) dX0_setLabel_9 (fun H locs hP hD hS => ?_)
  have hP : va_P (dC, dI) vwCl [(c0, .inr (0, [.ref co, .ref ca, .ref cb, .ref c3, .ref cw, .int (nI ct), .ref cl, .int (nI cb9), .ref cpv, .ref cpp, .ref cpl, .ref cpr, .ref cpt, .ref cpw, .ref cpc, .int (nI cp9), .ref car, .int (nI ca9)])), (co, .inl (kI, 6000, .inl fo)), (ca, .inl (kI, 6000, .inl fa)), (cb, .inl (kI, 6000, .inl fbb)), (c3, .inl (kI, 6000, .inl fc)), (cw, .inl (kI, 6000, .inl fwh)), (cl, .inl (kI, 1100, .inl (upd fla (nI lb : Int32).toNatClampNeg (nI ct))))] H := hP
  have hD : va_D A [(c0, .inr (0, [.ref co, .ref ca, .ref cb, .ref c3, .ref cw, .int (nI ct), .ref cl, .int (nI cb9), .ref cpv, .ref cpp, .ref cpl, .ref cpr, .ref cpt, .ref cpw, .ref cpc, .int (nI cp9), .ref car, .int (nI ca9)])), (co, .inl (kI, 6000, .inl fo)), (ca, .inl (kI, 6000, .inl fa)), (cb, .inl (kI, 6000, .inl fbb)), (c3, .inl (kI, 6000, .inl fc)), (cw, .inl (kI, 6000, .inl fwh)), (cl, .inl (kI, 1100, .inl (upd fla (nI lb : Int32).toNatClampNeg (nI ct))))] := hD
  obtain ⟨gl9, egl9⟩ : ∃ zZ : Nat → Int32, zZ = upd fla (nI lb : Int32).toNatClampNeg (nI ct) := ⟨_, rfl⟩
  rw [← egl9] at hP hD
  refine lv_aload_n hx hb dX0_setLabel_10 rfl (lv_at hl 0 rfl) ?_
  refine lv_iload_n hx hb dX0_setLabel_11 rfl (lv_at hl 1 rfl) ?_
  refine lv_iload_n hx hb dX0_setLabel_12 rfl (lv_at hl 2 rfl) ?_
  have hPc := hP.sub (ws' := [(c0, .inr (0, [.ref co, .ref ca, .ref cb, .ref c3, .ref cw, .int (nI ct), .ref cl, .int (nI cb9), .ref cpv, .ref cpp, .ref cpl, .ref cpr, .ref cpt, .ref cpw, .ref cpc, .int (nI cp9), .ref car, .int (nI ca9)])), (co, .inl (kI, 6000, .inl fo)), (ca, .inl (kI, 6000, .inl fa)), (cb, .inl (kI, 6000, .inl fbb)), (c3, .inl (kI, 6000, .inl fc)), (cw, .inl (kI, 6000, .inl fwh))]) [0, 1, 2, 3, 4, 5] rfl
  have hDc := hD.sub (ws' := [(c0, .inr (0, [.ref co, .ref ca, .ref cb, .ref c3, .ref cw, .int (nI ct), .ref cl, .int (nI cb9), .ref cpv, .ref cpp, .ref cpl, .ref cpr, .ref cpt, .ref cpw, .ref cpc, .int (nI cp9), .ref car, .int (nI ca9)])), (co, .inl (kI, 6000, .inl fo)), (ca, .inl (kI, 6000, .inl fa)), (cb, .inl (kI, 6000, .inl fbb)), (c3, .inl (kI, 6000, .inl fc)), (cw, .inl (kI, 6000, .inl fwh))]) [0, 1, 2, 3, 4, 5] (by decide) rfl
  have hKc := hK.sub (tys' := [(kI, .int)]) [0] rfl
  have hFc := va_free (wc := [(c0, .inr (0, [.ref co, .ref ca, .ref cb, .ref c3, .ref cw, .int (nI ct), .ref cl, .int (nI cb9), .ref cpv, .ref cpp, .ref cpl, .ref cpr, .ref cpt, .ref cpw, .ref cpc, .int (nI cp9), .ref car, .int (nI ca9)])), (co, .inl (kI, 6000, .inl fo)), (ca, .inl (kI, 6000, .inl fa)), (cb, .inl (kI, 6000, .inl fbb)), (c3, .inl (kI, 6000, .inl fc)), (cw, .inl (kI, 6000, .inl fwh))]) hD hS hA [0, 1, 2, 3, 4, 5] rfl
  refine va_callv (va_runV (As := [.int x0, .int (nI lb)]) (rest := []) ⟨hx, hb, hml, hown, hts⟩ (c_cadd2 l dC dI c0 co ca cb c3 cw cl cpv cpp cpl cpr cpt cpw cpc car ct cb9 cp9 ca9 kI fo fa fbb fc fwh x0 (nI lb) H.size hct) (cwV 2 hts g_c_setLabel_c_cadd2_13 rfl rfl rfl (by decide +kernel) ⟨Nat.le_of_ble_eq_true rfl, Nat.le_of_ble_eq_true rfl⟩) ⟨fun a U g mk q => by obtain ⟨q0, q1, qP, qK, qD⟩ := q; exact ⟨q0, q1, qP, va_K.moved (u := U) (U := U.calling g mk a) (Vm.Alike.refl U.vm) qK, qD⟩, va_recv hKc hPc (ci := 0) (q0 := 0) rfl rfl, fun U hU hW => ⟨rfl, by rw [hU], by rw [hU]; exact hPc, va_K.moved hW.alike hKc, hDc.weaken (fun _ _ _ _ => trivial)⟩⟩ rfl rfl hl.1 rfl (lv_room (Nat.le_of_ble_eq_true rfl)) dX0_setLabel_13 ⟨(show 0 + 0 ≤ 0 by omega), (show 0 + 0 ≤ 0 by omega)⟩) hS (fun q _ h => hFc q h) hFc (fun u tS H1 locs ht hvm hw hB hz1 hk1 hS => ?_)
  obtain ⟨ct9, g09, g19, g29, g39, g49, hf1_0, hf1_1, hf1_2, hf1_3, hf1_4, hP1, hK1, hD1⟩ := hB
  rw [ht] at hP1
  have hK1 := va_K.moved hvm.symm hK1
  obtain ⟨hP, hD⟩ := va_join (wr := [(cl, .inl (kI, 1100, .inl gl9))]) (w1 := [(c0, .inr (0, [.ref co, .ref ca, .ref cb, .ref c3, .ref cw, .int (nI ct9), .ref cl, .int (nI cb9), .ref cpv, .ref cpp, .ref cpl, .ref cpr, .ref cpt, .ref cpw, .ref cpc, .int (nI cp9), .ref car, .int (nI ca9)])), (co, .inl (kI, 6000, .inl g09)), (ca, .inl (kI, 6000, .inl g19)), (cb, .inl (kI, 6000, .inl g29)), (c3, .inl (kI, 6000, .inl g39)), (cw, .inl (kI, 6000, .inl g49))]) hP hD [0, 1, 2, 3, 4, 5] [6] rfl rfl (by decide) (by decide) hk1 hFc hP1 hD1
  have hK := hK.app hK1
  generalize H1 = H at hP hS ⊢
  have hP : va_P (dC, dI) vwCl [(cl, .inl (kI, 1100, .inl gl9)), (c0, .inr (0, [.ref co, .ref ca, .ref cb, .ref c3, .ref cw, .int (nI ct9), .ref cl, .int (nI cb9), .ref cpv, .ref cpp, .ref cpl, .ref cpr, .ref cpt, .ref cpw, .ref cpc, .int (nI cp9), .ref car, .int (nI ca9)])), (co, .inl (kI, 6000, .inl g09)), (ca, .inl (kI, 6000, .inl g19)), (cb, .inl (kI, 6000, .inl g29)), (c3, .inl (kI, 6000, .inl g39)), (cw, .inl (kI, 6000, .inl g49))] H := hP
  have hD : va_D A [(cl, .inl (kI, 1100, .inl gl9)), (c0, .inr (0, [.ref co, .ref ca, .ref cb, .ref c3, .ref cw, .int (nI ct9), .ref cl, .int (nI cb9), .ref cpv, .ref cpp, .ref cpl, .ref cpr, .ref cpt, .ref cpw, .ref cpc, .int (nI cp9), .ref car, .int (nI ca9)])), (co, .inl (kI, 6000, .inl g09)), (ca, .inl (kI, 6000, .inl g19)), (cb, .inl (kI, 6000, .inl g29)), (c3, .inl (kI, 6000, .inl g39)), (cw, .inl (kI, 6000, .inl g49))] := hD
  have hK : va_K (dC, dI) vwCl [(kI, .int), (kI, .int)] s := hK
  have hK := hK.sub (tys' := [(kI, .int)]) [0] rfl
  have hP : va_P (dC, dI) vwCl [(cl, .inl (kI, 1100, .inl gl9)), (c0, .inr (0, [.ref co, .ref ca, .ref cb, .ref c3, .ref cw, .int (nI ct9), .ref cl, .int (nI cb9), .ref cpv, .ref cpp, .ref cpl, .ref cpr, .ref cpt, .ref cpw, .ref cpc, .int (nI cp9), .ref car, .int (nI ca9)])), (co, .inl (kI, 6000, .inl g09)), (ca, .inl (kI, 6000, .inl g19)), (cb, .inl (kI, 6000, .inl g29)), (c3, .inl (kI, 6000, .inl g39)), (cw, .inl (kI, 6000, .inl g49))] H := hP
  have hD : va_D A [(cl, .inl (kI, 1100, .inl gl9)), (c0, .inr (0, [.ref co, .ref ca, .ref cb, .ref c3, .ref cw, .int (nI ct9), .ref cl, .int (nI cb9), .ref cpv, .ref cpp, .ref cpl, .ref cpr, .ref cpt, .ref cpw, .ref cpc, .int (nI cp9), .ref car, .int (nI ca9)])), (co, .inl (kI, 6000, .inl g09)), (ca, .inl (kI, 6000, .inl g19)), (cb, .inl (kI, 6000, .inl g29)), (c3, .inl (kI, 6000, .inl g39)), (cw, .inl (kI, 6000, .inl g49))] := hD
  have hP9 := hP.sub (ws' := [(c0, .inr (0, [.ref co, .ref ca, .ref cb, .ref c3, .ref cw, .int (nI ct9), .ref cl, .int (nI cb9), .ref cpv, .ref cpp, .ref cpl, .ref cpr, .ref cpt, .ref cpw, .ref cpc, .int (nI cp9), .ref car, .int (nI ca9)])), (co, .inl (kI, 6000, .inl g09)), (ca, .inl (kI, 6000, .inl g19)), (cb, .inl (kI, 6000, .inl g29)), (c3, .inl (kI, 6000, .inl g39)), (cw, .inl (kI, 6000, .inl g49)), (cl, .inl (kI, 1100, .inl gl9))]) [1, 2, 3, 4, 5, 6, 0] rfl
  have hD9 := hD.sub (ws' := [(c0, .inr (0, [.ref co, .ref ca, .ref cb, .ref c3, .ref cw, .int (nI ct9), .ref cl, .int (nI cb9), .ref cpv, .ref cpp, .ref cpl, .ref cpr, .ref cpt, .ref cpw, .ref cpc, .int (nI cp9), .ref car, .int (nI ca9)])), (co, .inl (kI, 6000, .inl g09)), (ca, .inl (kI, 6000, .inl g19)), (cb, .inl (kI, 6000, .inl g29)), (c3, .inl (kI, 6000, .inl g39)), (cw, .inl (kI, 6000, .inl g49)), (cl, .inl (kI, 1100, .inl gl9))]) [1, 2, 3, 4, 5, 6, 0] (by decide) rfl
  have hK9 := hK.sub (tys' := [(kI, .int)]) [0] rfl
  exact W.vret hx hb hr (fun tS ht hW => ⟨⟨(), rfl, trivial, ct9, g09, g19, g29, g39, g49, gl9, hf1_0, hf1_1, hf1_2, hf1_3, hf1_4, by rw [egl9, nI_clamp (by omega)], by rw [ht]; exact hP9, va_K.moved hW.alike hK9, hD9⟩, hS.F ht⟩) hS.2.2 dX0_setLabel_16
theorem min_nI {a b : Nat} {x : Int32} (ha : a < 2 ^ 31) (hb : b < 2 ^ 31) (hx : x = if nI b < nI a then nI b else nI a) : x = nI (min a b) := by
  by_cases c : b < a
  · rw [if_pos (nI_lt c ha)] at hx; rw [hx, Nat.min_eq_right (by omega)]
  · rw [if_neg (nI_nlt (by omega) (by omega))] at hx; rw [hx, Nat.min_eq_left (by omega)]
def wf_c_newArms : List Cond := [.code yX0_newArms cX0_newArms 3 (some .int), .fieldLink RX0 64 "OwnedPlaces$Code" "arms" "I", .methodLink RX0 74 Lib.Math.min.name, .static Lib.Math.min.name, .initialized "java/lang/Math", .code Lib.Math.min.name Lib.Math.min.code 2 (some .int)]
def wp_c_newArms : List Cond := wf_c_newArms ++ (wsX00 ++ [])
theorem in_c_newArms_X0 : ∀ w ∈ wsX00, w ∈ wp_c_newArms := fun w h => List.mem_append_right _ (List.mem_append_left _ h)
theorem wg_c_newArms : wf_c_newArms.all goodWord = true := by decide +kernel
theorem wm_c_newArms (k : Nat) {w : Cond} (h : wp_c_newArms[k]? = some w) : w ∈ wp_c_newArms := List.mem_of_getElem? h
set_option maxHeartbeats 4000000 in
set_option maxRecDepth 100000 in
theorem c_newArms (l : Launch) (dC : Nat → ClassId) (dI : Nat → Nat → Nat) (c0 co ca cb c3 cw cl cpv cpp cpl cpr cpt cpw cpc car : Nat) (ct cb9 cp9 ca9 : Nat) (z : Nat) (sz : Nat) (hca : ca9 ≤ 2990) (hz : z ≤ 12) : Met l yX0_newArms wp_c_newArms ({ frames := 1, cells := 0, slots := 0, locals := 14 }) (va_Pc [.ref c0, .int (nI z)] (fun U => U.heap.size = sz ∧ va_P (dC, dI) vwCl [(c0, .inr (0, [.ref co, .ref ca, .ref cb, .ref c3, .ref cw, .int (nI ct), .ref cl, .int (nI cb9), .ref cpv, .ref cpp, .ref cpl, .ref cpr, .ref cpt, .ref cpw, .ref cpc, .int (nI cp9), .ref car, .int (nI ca9)]))] U.heap ∧ va_K (dC, dI) vwCl [] U ∧ va_D (fun _ => True) [(c0, .inr (0, [.ref co, .ref ca, .ref cb, .ref c3, .ref cw, .int (nI ct), .ref cl, .int (nI cb9), .ref cpv, .ref cpp, .ref cpl, .ref cpr, .ref cpt, .ref cpw, .ref cpc, .int (nI cp9), .ref car, .int (nI ca9)]))])) (va_Qi (fun (r : Int32) (_ : Unit) => r = nI ca9) (fun (_ : Unit) (tS : State) => va_P (dC, dI) vwCl [(c0, .inr (0, [.ref co, .ref ca, .ref cb, .ref c3, .ref cw, .int (nI ct), .ref cl, .int (nI cb9), .ref cpv, .ref cpp, .ref cpl, .ref cpr, .ref cpt, .ref cpw, .ref cpc, .int (nI cp9), .ref car, .int (nI (min (ca9 + z) 2990))]))] tS.heap ∧ va_K (dC, dI) vwCl [] tS ∧ va_D (va_A [(c0, .inr (0, [.ref co, .ref ca, .ref cb, .ref c3, .ref cw, .int (nI ct), .ref cl, .int (nI cb9), .ref cpv, .ref cpp, .ref cpl, .ref cpr, .ref cpt, .ref cpw, .ref cpc, .int (nI cp9), .ref car, .int (nI ca9)]))] sz) [(c0, .inr (0, [.ref co, .ref ca, .ref cb, .ref c3, .ref cw, .int (nI ct), .ref cl, .int (nI cb9), .ref cpv, .ref cpp, .ref cpl, .ref cpr, .ref cpt, .ref cpw, .ref cpc, .int (nI cp9), .ref car, .int (nI (min (ca9 + z) 2990))]))]) (va_A [(c0, .inr (0, [.ref co, .ref ca, .ref cb, .ref c3, .ref cw, .int (nI ct), .ref cl, .int (nI cb9), .ref cpv, .ref cpp, .ref cpl, .ref cpr, .ref cpt, .ref cpw, .ref cpc, .int (nI cp9), .ref car, .int (nI ca9)]))] sz)) 0 0 (va_A [(c0, .inr (0, [.ref co, .ref ca, .ref cb, .ref c3, .ref cw, .int (nI ct), .ref cl, .int (nI cb9), .ref cpv, .ref cpp, .ref cpl, .ref cpr, .ref cpt, .ref cpw, .ref cpc, .int (nI cp9), .ref car, .int (nI ca9)]))] sz) := by
  refine Met.ofW (cc := cX0_newArms) (maxL := 3) (ret := (some .int)) (by decide) rfl ?_
  intro p e s m args below meth c s₁ B hml hv
  obtain ⟨rfl, hsz, hP, hK, hD0⟩ := hv
  have hx := B.exec
  have hb := B.bytes
  have hr := B.returns
  have hts := atoms_spec (ws := wp_c_newArms) B.pre
  have hown : s.vm.findClass RX0 = some m.cls := findClass_of_methodNamed B.named
  have hlocks := B.notSynchronized
  subst hsz
  have hD := hD0.self (sz := s.heap.size)
  generalize hAe : va_A [(c0, .inr (0, [.ref co, .ref ca, .ref cb, .ref c3, .ref cw, .int (nI ct), .ref cl, .int (nI cb9), .ref cpv, .ref cpp, .ref cpl, .ref cpr, .ref cpt, .ref cpw, .ref cpc, .int (nI cp9), .ref car, .int (nI ca9)]))] s.heap.size = A at hD ⊢
  have hA : ∀ q : Nat, s.heap.size ≤ q → A q := fun q h => by rw [← hAe]; exact Or.inr h
  have hS : va_S A s.heap s.heap [] := va_S.rf
  have hP : va_P (dC, dI) vwCl [(c0, .inr (0, [.ref co, .ref ca, .ref cb, .ref c3, .ref cw, .int (nI ct), .ref cl, .int (nI cb9), .ref cpv, .ref cpp, .ref cpl, .ref cpr, .ref cpt, .ref cpw, .ref cpc, .int (nI cp9), .ref car, .int (nI ca9)]))] s.heap := hP
  have hl := lv_entry ([.ref c0, .int (nI z)]) (n := 3) (Nat.le_of_ble_eq_true rfl)
  rw [lg_entry_eq]
  generalize (lg_sl ([.ref c0, .int (nI z)]) ++ List.replicate (3 - (lg_sl ([.ref c0, .int (nI z)])).length) Slot.unset).toArray = ls at hl ⊢
  have hl : lv_has ls 3 [(0, .ref c0), (1, .int (nI z))] := hl
  refine lv_aload_n hx hb dX0_newArms_0 rfl (lv_at hl 0 rfl) ?_
  refine va_get (D := (dC, dI)) (ci := 0) (v := .int (nI ca9)) (C := RX0) (T := TX0) (N := 18) hx hb hts in_c_newArms_X0 hown hK hP 0 rfl rfl 17 (by decide) (hts (.fieldLink RX0 64 "OwnedPlaces$Code" "arms" "I") (wm_c_newArms 1 rfl)) (fun _ h9 => h9) rfl dX0_newArms_1 ?_
  refine lv_istore_n (lv' := [(2, .int (nI ca9)), (0, .ref c0), (1, .int (nI z))]) hx hb dX0_newArms_4 rfl hl (by decide) rfl (fun ls hl => ?_)
  refine lv_aload_n hx hb dX0_newArms_5 rfl (lv_at hl 1 rfl) ?_
  refine lv_aload_n hx hb dX0_newArms_6 rfl (lv_at hl 1 rfl) ?_
  refine va_get (D := (dC, dI)) (ci := 0) (v := .int (nI ca9)) (C := RX0) (T := TX0) (N := 18) hx hb hts in_c_newArms_X0 hown hK hP 0 rfl rfl 17 (by decide) (hts (.fieldLink RX0 64 "OwnedPlaces$Code" "arms" "I") (wm_c_newArms 1 rfl)) (fun _ h9 => h9) rfl dX0_newArms_7 ?_
  refine lv_iload_n hx hb dX0_newArms_10 rfl (lv_at hl 2 rfl) ?_
  refine lv_iadd hx hb dX0_newArms_11 ?_
  refine lv_topi (fun f_1 ef_1 => ?_)
  obtain rfl : f_1 = nI (ca9 + z) := ef_1.trans (nI_add _ _)
  refine lv_sipush (v := 2990) hx hb dX0_newArms_12 (by decide) ?_
  refine va_mmin hx hb (by rw [hml]; exact hl.1.symm) hown (hts (.methodLink RX0 74 Lib.Math.min.name) (wm_c_newArms 2 rfl)) (hts (.static Lib.Math.min.name) (wm_c_newArms 3 rfl)) (hts (.initialized "java/lang/Math") (wm_c_newArms 4 rfl)) (hts (.code Lib.Math.min.name Lib.Math.min.code 2 (some .int)) (wm_c_newArms 5 rfl)) (Nat.le_of_ble_eq_true rfl) (Nat.le_of_ble_eq_true rfl) (Nat.zero_le _) (Nat.zero_le _) dX0_newArms_15 ?_
  refine lv_topi (fun f_2 ef_2 => ?_)
  obtain rfl : f_2 = nI (min (ca9 + z) 2990) := min_nI (a := ca9 + z) (b := 2990) (by omega) (by decide) ef_2
  refine va_put (D := (dC, dI)) (ci := 0) (v := .int (nI (min (ca9 + z) 2990))) (ty := .int) (C := RX0) (T := TX0) (N := 18) hx hb hts in_c_newArms_X0 tyX0 tyX0_ok nmX0 hown hK hP hD hS 0 rfl rfl 17 (by decide) (hts (.fieldLink RX0 64 "OwnedPlaces$Code" "arms" "I") (wm_c_newArms 1 rfl)) (fun _ h9 => h9) rfl (by decide +kernel) rfl rfl (Nat.le_of_ble_eq_true rfl) dX0_newArms_18 (fun H locs hP hD hS => ?_)
  have hP : va_P (dC, dI) vwCl [(c0, .inr (0, [.ref co, .ref ca, .ref cb, .ref c3, .ref cw, .int (nI ct), .ref cl, .int (nI cb9), .ref cpv, .ref cpp, .ref cpl, .ref cpr, .ref cpt, .ref cpw, .ref cpc, .int (nI cp9), .ref car, .int (nI (min (ca9 + z) 2990))]))] H := hP
  have hD : va_D A [(c0, .inr (0, [.ref co, .ref ca, .ref cb, .ref c3, .ref cw, .int (nI ct), .ref cl, .int (nI cb9), .ref cpv, .ref cpp, .ref cpl, .ref cpr, .ref cpt, .ref cpw, .ref cpc, .int (nI cp9), .ref car, .int (nI (min (ca9 + z) 2990))]))] := hD
  refine lv_iload_n hx hb dX0_newArms_21 rfl (lv_at hl 0 rfl) ?_
  have hP9 := hP.sub (ws' := [(c0, .inr (0, [.ref co, .ref ca, .ref cb, .ref c3, .ref cw, .int (nI ct), .ref cl, .int (nI cb9), .ref cpv, .ref cpp, .ref cpl, .ref cpr, .ref cpt, .ref cpw, .ref cpc, .int (nI cp9), .ref car, .int (nI (min (ca9 + z) 2990))]))]) [0] rfl
  have hD9 := hD.sub (ws' := [(c0, .inr (0, [.ref co, .ref ca, .ref cb, .ref c3, .ref cw, .int (nI ct), .ref cl, .int (nI cb9), .ref cpv, .ref cpp, .ref cpl, .ref cpr, .ref cpt, .ref cpw, .ref cpc, .int (nI cp9), .ref car, .int (nI (min (ca9 + z) 2990))]))]) [0] (by decide) rfl
  have hK9 := hK.sub (tys' := []) [] rfl
  exact W.iret (v := nI ca9) hx hb hr (fun tS ht hW => ⟨⟨(nI ca9), (), rfl, rfl, by rw [ht]; exact hP9, va_K.moved hW.alike hK9, hD9⟩, hS.F ht⟩) hS.2.2 dX0_newArms_22
def wf_c_hasStars : List Cond := [.code yX0_hasStars cX0_hasStars 2 (some .boolean), .fieldLink RX0 39 "OwnedPlaces$Code" "placeRoute" "[I"]
def wp_c_hasStars : List Cond := wf_c_hasStars ++ (wsX00 ++ [])
theorem in_c_hasStars_X0 : ∀ w ∈ wsX00, w ∈ wp_c_hasStars := fun w h => List.mem_append_right _ (List.mem_append_left _ h)
theorem wg_c_hasStars : wf_c_hasStars.all goodWord = true := by decide +kernel
theorem wm_c_hasStars (k : Nat) {w : Cond} (h : wp_c_hasStars[k]? = some w) : w ∈ wp_c_hasStars := List.mem_of_getElem? h
set_option maxHeartbeats 4000000 in
set_option maxRecDepth 100000 in
theorem c_hasStars (l : Launch) (dC : Nat → ClassId) (dI : Nat → Nat → Nat) (c0 co ca cb c3 cw cl cpv cpp cpl cpr cpt cpw cpc car : Nat) (ct cb9 cp9 ca9 : Nat) (pp : Nat) (kI : ClassId) (fr9 : Nat → Int32) (sz : Nat) (hpp : pp < 3002) : Met l yX0_hasStars wp_c_hasStars ({ frames := 0, cells := 0, slots := 0, locals := 0 }) (va_Pc [.ref c0, .int (nI pp)] (fun U => U.heap.size = sz ∧ va_P (dC, dI) vwCl [(c0, .inr (0, [.ref co, .ref ca, .ref cb, .ref c3, .ref cw, .int (nI ct), .ref cl, .int (nI cb9), .ref cpv, .ref cpp, .ref cpl, .ref cpr, .ref cpt, .ref cpw, .ref cpc, .int (nI cp9), .ref car, .int (nI ca9)])), (cpr, .inl (kI, 3002, .inl fr9))] U.heap ∧ va_K (dC, dI) vwCl [(kI, .int)] U ∧ va_D (fun _ => True) [(c0, .inr (0, [.ref co, .ref ca, .ref cb, .ref c3, .ref cw, .int (nI ct), .ref cl, .int (nI cb9), .ref cpv, .ref cpp, .ref cpl, .ref cpr, .ref cpt, .ref cpw, .ref cpc, .int (nI cp9), .ref car, .int (nI ca9)])), (cpr, .inl (kI, 3002, .inl fr9))])) (va_Qi (fun (r : Int32) (_ : Unit) => (r = 1 ∧ 0 < fr9 pp &&& 15) ∨ (r = 0 ∧ ¬ 0 < fr9 pp &&& 15)) (fun (_ : Unit) (tS : State) => va_P (dC, dI) vwCl [(c0, .inr (0, [.ref co, .ref ca, .ref cb, .ref c3, .ref cw, .int (nI ct), .ref cl, .int (nI cb9), .ref cpv, .ref cpp, .ref cpl, .ref cpr, .ref cpt, .ref cpw, .ref cpc, .int (nI cp9), .ref car, .int (nI ca9)])), (cpr, .inl (kI, 3002, .inl fr9))] tS.heap ∧ va_K (dC, dI) vwCl [(kI, .int)] tS ∧ va_D (va_A [(c0, .inr (0, [.ref co, .ref ca, .ref cb, .ref c3, .ref cw, .int (nI ct), .ref cl, .int (nI cb9), .ref cpv, .ref cpp, .ref cpl, .ref cpr, .ref cpt, .ref cpw, .ref cpc, .int (nI cp9), .ref car, .int (nI ca9)])), (cpr, .inl (kI, 3002, .inl fr9))] sz) [(c0, .inr (0, [.ref co, .ref ca, .ref cb, .ref c3, .ref cw, .int (nI ct), .ref cl, .int (nI cb9), .ref cpv, .ref cpp, .ref cpl, .ref cpr, .ref cpt, .ref cpw, .ref cpc, .int (nI cp9), .ref car, .int (nI ca9)])), (cpr, .inl (kI, 3002, .inl fr9))]) (va_A [(c0, .inr (0, [.ref co, .ref ca, .ref cb, .ref c3, .ref cw, .int (nI ct), .ref cl, .int (nI cb9), .ref cpv, .ref cpp, .ref cpl, .ref cpr, .ref cpt, .ref cpw, .ref cpc, .int (nI cp9), .ref car, .int (nI ca9)])), (cpr, .inl (kI, 3002, .inl fr9))] sz)) 0 0 (va_A [(c0, .inr (0, [.ref co, .ref ca, .ref cb, .ref c3, .ref cw, .int (nI ct), .ref cl, .int (nI cb9), .ref cpv, .ref cpp, .ref cpl, .ref cpr, .ref cpt, .ref cpw, .ref cpc, .int (nI cp9), .ref car, .int (nI ca9)])), (cpr, .inl (kI, 3002, .inl fr9))] sz) := by
  refine Met.ofW (cc := cX0_hasStars) (maxL := 2) (ret := (some .boolean)) (by decide) rfl ?_
  intro p e s m args below meth c s₁ B hml hv
  obtain ⟨rfl, hsz, hP, hK, hD0⟩ := hv
  have hx := B.exec
  have hb := B.bytes
  have hr := B.returns
  have hts := atoms_spec (ws := wp_c_hasStars) B.pre
  have hown : s.vm.findClass RX0 = some m.cls := findClass_of_methodNamed B.named
  have hlocks := B.notSynchronized
  subst hsz
  have hD := hD0.self (sz := s.heap.size)
  generalize hAe : va_A [(c0, .inr (0, [.ref co, .ref ca, .ref cb, .ref c3, .ref cw, .int (nI ct), .ref cl, .int (nI cb9), .ref cpv, .ref cpp, .ref cpl, .ref cpr, .ref cpt, .ref cpw, .ref cpc, .int (nI cp9), .ref car, .int (nI ca9)])), (cpr, .inl (kI, 3002, .inl fr9))] s.heap.size = A at hD ⊢
  have hA : ∀ q : Nat, s.heap.size ≤ q → A q := fun q h => by rw [← hAe]; exact Or.inr h
  have hS : va_S A s.heap s.heap [] := va_S.rf
  have hP : va_P (dC, dI) vwCl [(c0, .inr (0, [.ref co, .ref ca, .ref cb, .ref c3, .ref cw, .int (nI ct), .ref cl, .int (nI cb9), .ref cpv, .ref cpp, .ref cpl, .ref cpr, .ref cpt, .ref cpw, .ref cpc, .int (nI cp9), .ref car, .int (nI ca9)])), (cpr, .inl (kI, 3002, .inl fr9))] s.heap := hP
  have hl := lv_entry ([.ref c0, .int (nI pp)]) (n := 2) (Nat.le_of_ble_eq_true rfl)
  rw [lg_entry_eq]
  generalize (lg_sl ([.ref c0, .int (nI pp)]) ++ List.replicate (2 - (lg_sl ([.ref c0, .int (nI pp)])).length) Slot.unset).toArray = ls at hl ⊢
  have hl : lv_has ls 2 [(0, .ref c0), (1, .int (nI pp))] := hl
  refine lv_aload_n hx hb dX0_hasStars_0 rfl (lv_at hl 0 rfl) ?_
  refine va_get (D := (dC, dI)) (ci := 0) (v := .ref cpr) (C := RX0) (T := TX0) (N := 18) hx hb hts in_c_hasStars_X0 hown hK hP 0 rfl rfl 11 (by decide) (hts (.fieldLink RX0 39 "OwnedPlaces$Code" "placeRoute" "[I") (wm_c_hasStars 1 rfl)) (fun _ h9 => h9) rfl dX0_hasStars_1 ?_
  refine lv_iload_n hx hb dX0_hasStars_4 rfl (lv_at hl 1 rfl) ?_
  refine va_iald hx hb hK hP 1 0 rfl rfl (vp_in_nI hpp (by decide)) dX0_hasStars_5 ?_
  refine lv_topi (fun v_1 ev_1 => ?_)
  have hv : v_1 = fr9 pp := ev_1.trans (by rw [nI_clamp (by omega)])
  refine lv_bipush (v := 15) hx hb dX0_hasStars_6 (by decide) ?_
  refine lv_iand hx hb dX0_hasStars_8 ?_
  refine lv_topi (fun f_2 ef_2 => ?_)
  refine lv_if_le (tgt := 16) hx hb dX0_hasStars_9 (by decide) (fun hc => ?_) (fun hc => ?_)
  · rw [ef_2, hv] at hc
    refine lv_iconst (v := 0) hx hb dX0_hasStars_16 (by decide) ?_
    have hP9 := hP.sub (ws' := [(c0, .inr (0, [.ref co, .ref ca, .ref cb, .ref c3, .ref cw, .int (nI ct), .ref cl, .int (nI cb9), .ref cpv, .ref cpp, .ref cpl, .ref cpr, .ref cpt, .ref cpw, .ref cpc, .int (nI cp9), .ref car, .int (nI ca9)])), (cpr, .inl (kI, 3002, .inl fr9))]) [0, 1] rfl
    have hD9 := hD.sub (ws' := [(c0, .inr (0, [.ref co, .ref ca, .ref cb, .ref c3, .ref cw, .int (nI ct), .ref cl, .int (nI cb9), .ref cpv, .ref cpp, .ref cpl, .ref cpr, .ref cpt, .ref cpw, .ref cpc, .int (nI cp9), .ref car, .int (nI ca9)])), (cpr, .inl (kI, 3002, .inl fr9))]) [0, 1] (by decide) rfl
    have hK9 := hK.sub (tys' := [(kI, .int)]) [0] rfl
    exact W.zret (v := 0) hx hb hr (by decide) (fun tS ht hW => ⟨⟨0, (), rfl, (Or.inr ⟨rfl, Int32.not_lt.mpr hc⟩), by rw [ht]; exact hP9, va_K.moved hW.alike hK9, hD9⟩, hS.F ht⟩) hS.2.2 dX0_hasStars_17
  · rw [ef_2, hv] at hc
    refine lv_iconst (v := 1) hx hb dX0_hasStars_12 (by decide) ?_
    refine lv_goto (tgt := 17) hx hb dX0_hasStars_13 (by decide) ?_
    have hP9 := hP.sub (ws' := [(c0, .inr (0, [.ref co, .ref ca, .ref cb, .ref c3, .ref cw, .int (nI ct), .ref cl, .int (nI cb9), .ref cpv, .ref cpp, .ref cpl, .ref cpr, .ref cpt, .ref cpw, .ref cpc, .int (nI cp9), .ref car, .int (nI ca9)])), (cpr, .inl (kI, 3002, .inl fr9))]) [0, 1] rfl
    have hD9 := hD.sub (ws' := [(c0, .inr (0, [.ref co, .ref ca, .ref cb, .ref c3, .ref cw, .int (nI ct), .ref cl, .int (nI cb9), .ref cpv, .ref cpp, .ref cpl, .ref cpr, .ref cpt, .ref cpw, .ref cpc, .int (nI cp9), .ref car, .int (nI ca9)])), (cpr, .inl (kI, 3002, .inl fr9))]) [0, 1] (by decide) rfl
    have hK9 := hK.sub (tys' := [(kI, .int)]) [0] rfl
    exact W.zret (v := 1) hx hb hr (by decide) (fun tS ht hW => ⟨⟨1, (), rfl, (Or.inl ⟨rfl, Int32.not_le.mp hc⟩), by rw [ht]; exact hP9, va_K.moved hW.alike hK9, hD9⟩, hS.F ht⟩) hS.2.2 dX0_hasStars_17
