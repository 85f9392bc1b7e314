def wf_c_mclear : List Cond := [.code yX6_clear cX6_clear 1 none, .fieldLink RX6 37 "OwnedPlaces$Memory" "taken" "[B", .code yJ7_fill_031fb cJ7_fill_031fb 4 none, .methodLink RX6 41 yJ7_fill_031fb, .static yJ7_fill_031fb, .initialized RJ7, .fieldLink RX6 47 "OwnedPlaces$Memory" "lowest" "I", .fieldLink RX6 50 "OwnedPlaces$Memory" "inUse" "I", .fieldLink RX6 53 "OwnedPlaces$Memory" "mostInUse" "I"]
def wp_c_mclear : List Cond := wf_c_mclear ++ (wsX60 ++ [])
theorem in_c_mclear_X6 : ∀ w ∈ wsX60, w ∈ wp_c_mclear := fun w h => List.mem_append_right _ (List.mem_append_left _ h)
theorem wg_c_mclear : wf_c_mclear.all goodWord = true := by decide +kernel
theorem wm_c_mclear (k : Nat) {w : Cond} (h : wp_c_mclear[k]? = some w) : w ∈ wp_c_mclear := List.mem_of_getElem? h
set_option maxRecDepth 20000 in
theorem g_c_mclear_c_fillB_5 : GoodIn wp_c_mclear (va_wsS RX6 41 yJ7_fill_031fb wp_c_fillB) := goodIn_app (goodIn_f [.methodLink RX6 41 yJ7_fill_031fb, .static yJ7_fill_031fb, .initialized RJ7] [3, 4, 5] rfl (by decide +kernel)) (goodIn_app (goodIn_f (wf_c_fillB) [2] rfl wg_c_fillB) (goodIn_n))
set_option maxHeartbeats 4000000 in
set_option maxRecDepth 100000 in
theorem c_mclear (l : Launch) (dC : Nat → ClassId) (dI : Nat → Nat → Nat) (m0 y qw mc mt m1 m2 m3 k : Nat) (kB : ClassId) (sz : Nat) (hk : k ≤ 4000) : Met l yX6_clear wp_c_mclear ({ frames := 1, cells := 0, slots := 0, locals := 23 }) (va_Pc [.ref m0] (fun U => U.heap.size = sz ∧ va_P (dC, dI) vwCl [(m0, .inr (6, [.ref y, .ref qw, .int (nI k), .ref mc, .ref mt, .int 0, .int 0, .int 0, .ref m1, .ref m2, .ref m3, .int 0])), (mt, .inl (kB, k, .inl (fun _ => 0)))] U.heap ∧ va_K (dC, dI) vwCl [(kB, .byte)] U ∧ va_D (fun _ => True) [(m0, .inr (6, [.ref y, .ref qw, .int (nI k), .ref mc, .ref mt, .int 0, .int 0, .int 0, .ref m1, .ref m2, .ref m3, .int 0])), (mt, .inl (kB, k, .inl (fun _ => 0)))])) (va_Qv (fun _ : Unit => True) (fun (_ : Unit) (_ : State) => True) (va_A [(m0, .inr (6, [.ref y, .ref qw, .int (nI k), .ref mc, .ref mt, .int 0, .int 0, .int 0, .ref m1, .ref m2, .ref m3, .int 0])), (mt, .inl (kB, k, .inl (fun _ => 0)))] sz)) 0 0 (va_A [(m0, .inr (6, [.ref y, .ref qw, .int (nI k), .ref mc, .ref mt, .int 0, .int 0, .int 0, .ref m1, .ref m2, .ref m3, .int 0])), (mt, .inl (kB, k, .inl (fun _ => 0)))] sz) := by
  refine Met.ofW (cc := cX6_clear) (maxL := 1) (ret := none) (by decide) rfl ?_
  intro p e s m args below meth c s₁ B hml hv
  obtain ⟨rfl, hsz, hP, hK, hD0⟩ := hv
  have hx := B.exec
  have hb := B.bytes
  have hr := B.returns
  have hts := atoms_spec (ws := wp_c_mclear) B.pre
  have hown : s.vm.findClass RX6 = some m.cls := findClass_of_methodNamed B.named
  have hlocks := B.notSynchronized
  subst hsz
  have hD := hD0.self (sz := s.heap.size)
  generalize hAe : va_A [(m0, .inr (6, [.ref y, .ref qw, .int (nI k), .ref mc, .ref mt, .int 0, .int 0, .int 0, .ref m1, .ref m2, .ref m3, .int 0])), (mt, .inl (kB, k, .inl (fun _ => 0)))] s.heap.size = A at hD ⊢
  have hA : ∀ q : Nat, s.heap.size ≤ q → A q := fun q h => by rw [← hAe]; exact Or.inr h
  have hS : va_S A s.heap s.heap [] := va_S.rf
  have hP : va_P (dC, dI) vwCl [(m0, .inr (6, [.ref y, .ref qw, .int (nI k), .ref mc, .ref mt, .int 0, .int 0, .int 0, .ref m1, .ref m2, .ref m3, .int 0])), (mt, .inl (kB, k, .inl (fun _ => 0)))] s.heap := hP
  have hl := lv_entry ([.ref m0]) (n := 1) (Nat.le_of_ble_eq_true rfl)
  rw [lg_entry_eq]
  generalize (lg_sl ([.ref m0]) ++ List.replicate (1 - (lg_sl ([.ref m0])).length) Slot.unset).toArray = ls at hl ⊢
  have hl : lv_has ls 1 [(0, .ref m0)] := hl
  refine lv_aload_n hx hb dX6_clear_0 rfl (lv_at hl 0 rfl) ?_
  refine va_get (D := (dC, dI)) (ci := 6) (v := .ref mt) (C := RX6) (T := TX6) (N := 12) hx hb hts in_c_mclear_X6 hown hK hP 0 rfl rfl 4 (by decide) (hts (.fieldLink RX6 37 "OwnedPlaces$Memory" "taken" "[B") (wm_c_mclear 1 rfl)) (fun _ h9 => h9) rfl dX6_clear_1 ?_
  refine lv_iconst (v := 0) hx hb dX6_clear_4 (by decide) ?_
  have hPc := hP.sub (ws' := [(mt, .inl (kB, k, .inl (fun _ => 0)))]) [1] rfl
  have hDc := hD.sub (ws' := [(mt, .inl (kB, k, .inl (fun _ => 0)))]) [1] (by decide) rfl
  have hKc := hK.sub (tys' := [(kB, .byte)]) [0] rfl
  have hFc := va_free (wc := [(mt, .inl (kB, k, .inl (fun _ => 0)))]) hD hS hA [1] rfl
  refine va_callv (va_runS (As := [.ref mt, .int 0]) (rest := []) ⟨hx, hb, hml, hown, hts⟩ (c_fillB l dC dI mt kB k (fun _ => 0) 0 s.heap.size (by omega)) (va_cwS 2 hts g_c_mclear_c_fillB_5 rfl rfl rfl (by decide +kernel) ⟨Nat.le_of_ble_eq_true rfl, Nat.le_of_ble_eq_true rfl⟩) ⟨fun a U g mk q => by obtain ⟨q0, q1, qP, qK, qD⟩ := q; exact ⟨q0, q1, qP, va_K.moved (u := U) (U := U.calling g mk a) (Vm.Alike.refl U.vm) qK, qD⟩, fun U hU hW => ⟨rfl, by rw [hU], by rw [hU]; exact hPc, va_K.moved hW.alike hKc, hDc.weaken (fun _ _ _ _ => trivial)⟩⟩ rfl rfl hl.1 rfl (lv_room (Nat.le_of_ble_eq_true rfl)) dX6_clear_5 ⟨(show 0 + 0 ≤ 0 by omega), (show 0 + 0 ≤ 0 by omega)⟩) hS (fun q _ h => hFc q h) hFc (fun u tS H1 locs ht hvm hw hB hz1 hk1 hS => ?_)
  obtain ⟨ft1, hP1, hK1, hD1⟩ := hB
  rw [ht] at hP1
  have hK1 := va_K.moved hvm.symm hK1
  obtain ⟨hP, hD⟩ := va_join (wr := [(m0, .inr (6, [.ref y, .ref qw, .int (nI k), .ref mc, .ref mt, .int 0, .int 0, .int 0, .ref m1, .ref m2, .ref m3, .int 0]))]) (w1 := [(mt, .inl (kB, k, .inl ft1))]) hP hD [1] [0] rfl rfl (by decide) (by decide) hk1 hFc hP1 hD1
  have hK := hK.app hK1
  generalize H1 = H at hP hS ⊢
  have hP : va_P (dC, dI) vwCl [(m0, .inr (6, [.ref y, .ref qw, .int (nI k), .ref mc, .ref mt, .int 0, .int 0, .int 0, .ref m1, .ref m2, .ref m3, .int 0])), (mt, .inl (kB, k, .inl ft1))] H := hP
  have hD : va_D A [(m0, .inr (6, [.ref y, .ref qw, .int (nI k), .ref mc, .ref mt, .int 0, .int 0, .int 0, .ref m1, .ref m2, .ref m3, .int 0])), (mt, .inl (kB, k, .inl ft1))] := hD
  have hK : va_K (dC, dI) vwCl [(kB, .byte), (kB, .byte)] s := hK
  have hK := hK.sub (tys' := [(kB, .byte)]) [0] rfl
  have hP : va_P (dC, dI) vwCl [(m0, .inr (6, [.ref y, .ref qw, .int (nI k), .ref mc, .ref mt, .int 0, .int 0, .int 0, .ref m1, .ref m2, .ref m3, .int 0])), (mt, .inl (kB, k, .inl ft1))] H := hP
  have hD : va_D A [(m0, .inr (6, [.ref y, .ref qw, .int (nI k), .ref mc, .ref mt, .int 0, .int 0, .int 0, .ref m1, .ref m2, .ref m3, .int 0])), (mt, .inl (kB, k, .inl ft1))] := hD
  refine lv_aload_n hx hb dX6_clear_8 rfl (lv_at hl 0 rfl) ?_
  refine lv_iconst (v := 0) hx hb dX6_clear_9 (by decide) ?_
  refine va_put (D := (dC, dI)) (ci := 6) (v := .int 0) (ty := .int) (C := RX6) (T := TX6) (N := 12) hx hb hts in_c_mclear_X6 tyX6 tyX6_ok nmX6 hown hK hP hD hS 0 rfl rfl 5 (by decide) (hts (.fieldLink RX6 47 "OwnedPlaces$Memory" "lowest" "I") (wm_c_mclear 6 rfl)) (fun _ h9 => h9) rfl (by decide +kernel) rfl rfl (Nat.le_of_ble_eq_true rfl) dX6_clear_10 (fun H locs hP hD hS => ?_)
  have hP : va_P (dC, dI) vwCl [(m0, .inr (6, [.ref y, .ref qw, .int (nI k), .ref mc, .ref mt, .int 0, .int 0, .int 0, .ref m1, .ref m2, .ref m3, .int 0])), (mt, .inl (kB, k, .inl ft1))] H := hP
  have hD : va_D A [(m0, .inr (6, [.ref y, .ref qw, .int (nI k), .ref mc, .ref mt, .int 0, .int 0, .int 0, .ref m1, .ref m2, .ref m3, .int 0])), (mt, .inl (kB, k, .inl ft1))] := hD
  refine lv_aload_n hx hb dX6_clear_13 rfl (lv_at hl 0 rfl) ?_
  refine lv_iconst (v := 0) hx hb dX6_clear_14 (by decide) ?_
  refine va_put (D := (dC, dI)) (ci := 6) (v := .int 0) (ty := .int) (C := RX6) (T := TX6) (N := 12) hx hb hts in_c_mclear_X6 tyX6 tyX6_ok nmX6 hown hK hP hD hS 0 rfl rfl 6 (by decide) (hts (.fieldLink RX6 50 "OwnedPlaces$Memory" "inUse" "I") (wm_c_mclear 7 rfl)) (fun _ h9 => h9) rfl (by decide +kernel) rfl rfl (Nat.le_of_ble_eq_true rfl) dX6_clear_15 (fun H locs hP hD hS => ?_)
  have hP : va_P (dC, dI) vwCl [(m0, .inr (6, [.ref y, .ref qw, .int (nI k), .ref mc, .ref mt, .int 0, .int 0, .int 0, .ref m1, .ref m2, .ref m3, .int 0])), (mt, .inl (kB, k, .inl ft1))] H := hP
  have hD : va_D A [(m0, .inr (6, [.ref y, .ref qw, .int (nI k), .ref mc, .ref mt, .int 0, .int 0, .int 0, .ref m1, .ref m2, .ref m3, .int 0])), (mt, .inl (kB, k, .inl ft1))] := hD
  refine lv_aload_n hx hb dX6_clear_18 rfl (lv_at hl 0 rfl) ?_
  refine lv_iconst (v := 0) hx hb dX6_clear_19 (by decide) ?_
  refine va_put (D := (dC, dI)) (ci := 6) (v := .int 0) (ty := .int) (C := RX6) (T := TX6) (N := 12) hx hb hts in_c_mclear_X6 tyX6 tyX6_ok nmX6 hown hK hP hD hS 0 rfl rfl 7 (by decide) (hts (.fieldLink RX6 53 "OwnedPlaces$Memory" "mostInUse" "I") (wm_c_mclear 8 rfl)) (fun _ h9 => h9) rfl (by decide +kernel) rfl rfl (Nat.le_of_ble_eq_true rfl) dX6_clear_20 (fun H locs hP hD hS => ?_)
  have hP : va_P (dC, dI) vwCl [(m0, .inr (6, [.ref y, .ref qw, .int (nI k), .ref mc, .ref mt, .int 0, .int 0, .int 0, .ref m1, .ref m2, .ref m3, .int 0])), (mt, .inl (kB, k, .inl ft1))] H := hP
  have hD : va_D A [(m0, .inr (6, [.ref y, .ref qw, .int (nI k), .ref mc, .ref mt, .int 0, .int 0, .int 0, .ref m1, .ref m2, .ref m3, .int 0])), (mt, .inl (kB, k, .inl ft1))] := hD
  exact W.vret hx hb hr (fun tS ht hW => ⟨⟨(), rfl, trivial, trivial⟩, hS.F ht⟩) hS.2.2 dX6_clear_23
def wf_c_range : List Cond := [.code yJ7_rangeCheck_23922 cJ7_rangeCheck_23922 3 none]
def wp_c_range : List Cond := wf_c_range ++ []
theorem wg_c_range : wf_c_range.all goodWord = true := by decide +kernel
theorem wm_c_range (k : Nat) {w : Cond} (h : wp_c_range[k]? = some w) : w ∈ wp_c_range := List.mem_of_getElem? h
set_option maxHeartbeats 4000000 in
set_option maxRecDepth 100000 in
theorem c_range (l : Launch) (dC : Nat → ClassId) (dI : Nat → Nat → Nat) (sz : Nat) : Met l yJ7_rangeCheck_23922 wp_c_range ({ frames := 0, cells := 0, slots := 0, locals := 0 }) (va_Pc [.int 3020, .int 0, .int 20] (fun U => U.heap.size = sz ∧ va_P (dC, dI) vwCl [] U.heap ∧ va_K (dC, dI) vwCl [] U ∧ va_D (fun _ => True) [])) (va_Qv (fun _ : Unit => True) (fun (_ : Unit) (tS : State) => va_P (dC, dI) vwCl [] tS.heap ∧ va_K (dC, dI) vwCl [] tS ∧ va_D (va_A [] sz) []) (va_A [] sz)) 0 0 (va_A [] sz) := by
  refine Met.ofW (cc := cJ7_rangeCheck_23922) (maxL := 3) (ret := none) (by decide) rfl ?_
  intro p e s m args below meth c s₁ B hml hv
  obtain ⟨rfl, hsz, hP, hK, hD0⟩ := hv
  have hx := B.exec
  have hb := B.bytes
  have hr := B.returns
  have hts := atoms_spec (ws := wp_c_range) B.pre
  have hown : s.vm.findClass RJ7 = some m.cls := findClass_of_methodNamed B.named
  have hlocks := B.notSynchronized
  subst hsz
  have hD := hD0.self (sz := s.heap.size)
  generalize hAe : va_A [] s.heap.size = A at hD ⊢
  have hA : ∀ q : Nat, s.heap.size ≤ q → A q := fun q h => by rw [← hAe]; exact Or.inr h
  have hS : va_S A s.heap s.heap [] := va_S.rf
  have hP : va_P (dC, dI) vwCl [] s.heap := hP
  have hl := lv_entry ([.int 3020, .int 0, .int 20]) (n := 3) (Nat.le_of_ble_eq_true rfl)
  rw [lg_entry_eq]
  generalize (lg_sl ([.int 3020, .int 0, .int 20]) ++ List.replicate (3 - (lg_sl ([.int 3020, .int 0, .int 20])).length) Slot.unset).toArray = ls at hl ⊢
  have hl : lv_has ls 3 [(0, .int 3020), (1, .int 0), (2, .int 20)] := hl
  refine lv_iload_n hx hb dJ7_rangeCheck_23922_0 rfl (lv_at hl 1 rfl) ?_
  refine lv_iload_n hx hb dJ7_rangeCheck_23922_1 rfl (lv_at hl 2 rfl) ?_
  refine lv_icmp_le (tgt := 46) hx hb dJ7_rangeCheck_23922_2 (by decide) (fun _ => ?_) (fun c_1 => absurd (by decide) c_1)
  refine lv_iload_n hx hb dJ7_rangeCheck_23922_46 rfl (lv_at hl 1 rfl) ?_
  refine lv_if_ge (tgt := 59) hx hb dJ7_rangeCheck_23922_47 (by decide) (fun _ => ?_) (fun c_2 => absurd (by decide) c_2)
  refine lv_iload_n hx hb dJ7_rangeCheck_23922_59 rfl (lv_at hl 2 rfl) ?_
  refine lv_iload_n hx hb dJ7_rangeCheck_23922_60 rfl (lv_at hl 0 rfl) ?_
  refine lv_icmp_le (tgt := 73) hx hb dJ7_rangeCheck_23922_61 (by decide) (fun _ => ?_) (fun c_3 => absurd (by decide) c_3)
  have hP9 := hP.sub (ws' := []) [] rfl
  have hD9 := hD.sub (ws' := []) [] (by decide) rfl
  have hK9 := hK.sub (tys' := []) [] rfl
  exact W.vret hx hb hr (fun tS ht hW => ⟨⟨(), rfl, trivial, by rw [ht]; exact hP9, va_K.moved hW.alike hK9, hD9⟩, hS.F ht⟩) hS.2.2 dJ7_rangeCheck_23922_73
def wf_c_fillR : List Cond := [.code yJ7_fill_fda19 cJ7_fill_fda19 5 none, .code yJ7_rangeCheck_23922 cJ7_rangeCheck_23922 3 none, .methodLink RJ7 13 yJ7_rangeCheck_23922, .static yJ7_rangeCheck_23922, .initialized RJ7]
def wp_c_fillR : List Cond := wf_c_fillR ++ []
theorem wg_c_fillR : wf_c_fillR.all goodWord = true := by decide +kernel
theorem wm_c_fillR (k : Nat) {w : Cond} (h : wp_c_fillR[k]? = some w) : w ∈ wp_c_fillR := List.mem_of_getElem? h
set_option maxRecDepth 20000 in
theorem g_c_fillR_c_range_4 : GoodIn wp_c_fillR (va_wsS RJ7 13 yJ7_rangeCheck_23922 wp_c_range) := goodIn_app (goodIn_f [.methodLink RJ7 13 yJ7_rangeCheck_23922, .static yJ7_rangeCheck_23922, .initialized RJ7] [2, 3, 4] rfl (by decide +kernel)) (goodIn_app (goodIn_f (wf_c_range) [1] rfl wg_c_range) (goodIn_n))
set_option maxHeartbeats 4000000 in
set_option maxRecDepth 100000 in
theorem c_fillR (l : Launch) (dC : Nat → ClassId) (dI : Nat → Nat → Nat) (a : Nat) (kI : ClassId) (f : Nat → Int32) (sz : Nat) (hf : ∀ j, f j = 0) : Met l yJ7_fill_fda19 wp_c_fillR ({ frames := 1, cells := 0, slots := 0, locals := 22 }) (va_Pc [.ref a, .int 0, .int 20, .int 0] (fun U => U.heap.size = sz ∧ va_P (dC, dI) vwCl [(a, .inl (kI, 3020, .inl f))] U.heap ∧ va_K (dC, dI) vwCl [(kI, .int)] U ∧ va_D (fun _ => True) [(a, .inl (kI, 3020, .inl f))])) (va_Qv (fun _ : Unit => True) (fun (_ : Unit) (tS : State) => ∃ (f9 : Nat → Int32), (∀ j, f9 j = 0) ∧ va_P (dC, dI) vwCl [(a, .inl (kI, 3020, .inl f9))] tS.heap ∧ va_K (dC, dI) vwCl [(kI, .int)] tS ∧ va_D (va_A [(a, .inl (kI, 3020, .inl f))] sz) [(a, .inl (kI, 3020, .inl f9))]) (va_A [(a, .inl (kI, 3020, .inl f))] sz)) 0 0 (va_A [(a, .inl (kI, 3020, .inl f))] sz) := by
  refine Met.ofW (cc := cJ7_fill_fda19) (maxL := 5) (ret := none) (by decide) rfl ?_
  intro p e s m args below meth c s₁ B hml hv
  obtain ⟨rfl, hsz, hP, hK, hD0⟩ := hv
  have hx := B.exec
  have hb := B.bytes
  have hr := B.returns
  have hts := atoms_spec (ws := wp_c_fillR) B.pre
  have hown : s.vm.findClass RJ7 = some m.cls := findClass_of_methodNamed B.named
  have hlocks := B.notSynchronized
  subst hsz
  have hD := hD0.self (sz := s.heap.size)
  generalize hAe : va_A [(a, .inl (kI, 3020, .inl f))] s.heap.size = A at hD ⊢
  have hA : ∀ q : Nat, s.heap.size ≤ q → A q := fun q h => by rw [← hAe]; exact Or.inr h
  have hS : va_S A s.heap s.heap [] := va_S.rf
  have hP : va_P (dC, dI) vwCl [(a, .inl (kI, 3020, .inl f))] s.heap := hP
  have hl := lv_entry ([.ref a, .int 0, .int 20, .int 0]) (n := 5) (Nat.le_of_ble_eq_true rfl)
  rw [lg_entry_eq]
  generalize (lg_sl ([.ref a, .int 0, .int 20, .int 0]) ++ List.replicate (5 - (lg_sl ([.ref a, .int 0, .int 20, .int 0])).length) Slot.unset).toArray = ls at hl ⊢
  have hl : lv_has ls 5 [(0, .ref a), (1, .int 0), (2, .int 20), (3, .int 0)] := hl
  refine lv_aload_n hx hb dJ7_fill_fda19_0 rfl (lv_at hl 0 rfl) ?_
  refine va_alen (v := 3020) hx hb hK hP 0 0 rfl rfl rfl dJ7_fill_fda19_1 ?_
  refine lv_iload_n hx hb dJ7_fill_fda19_2 rfl (lv_at hl 1 rfl) ?_
  refine lv_iload_n hx hb dJ7_fill_fda19_3 rfl (lv_at hl 2 rfl) ?_
  have hPc := hP.sub (ws' := []) [] rfl
  have hDc := hD.sub (ws' := []) [] (by decide) rfl
  have hKc := hK.sub (tys' := []) [] rfl
  have hFc := va_free (wc := []) hD hS hA [] rfl
  refine va_callv (va_runS (As := [.int 3020, .int 0, .int 20]) (rest := []) ⟨hx, hb, hml, hown, hts⟩ (c_range l dC dI  s.heap.size) (va_cwS 3 hts g_c_fillR_c_range_4 rfl rfl rfl (by decide +kernel) ⟨Nat.le_of_ble_eq_true rfl, Nat.le_of_ble_eq_true rfl⟩) ⟨fun a U g mk q => by obtain ⟨q0, q1, qP, qK, qD⟩ := q; exact ⟨q0, q1, qP, va_K.moved (u := U) (U := U.calling g mk a) (Vm.Alike.refl U.vm) qK, qD⟩, fun U hU hW => ⟨rfl, by rw [hU], by rw [hU]; exact hPc, va_K.moved hW.alike hKc, hDc.weaken (fun _ _ _ _ => trivial)⟩⟩ rfl rfl hl.1 rfl (lv_room (Nat.le_of_ble_eq_true rfl)) dJ7_fill_fda19_4 ⟨(show 0 + 0 ≤ 0 by omega), (show 0 + 0 ≤ 0 by omega)⟩) hS (fun q _ h => hFc q h) hFc (fun u tS H1 locs ht hvm hw hB hz1 hk1 hS => ?_)
  obtain ⟨hP1, hK1, hD1⟩ := hB
  rw [ht] at hP1
  have hK1 := va_K.moved hvm.symm hK1
  obtain ⟨hP, hD⟩ := va_join (wr := [(a, .inl (kI, 3020, .inl f))]) (w1 := []) hP hD [] [0] rfl rfl (by decide) (by decide) hk1 hFc hP1 hD1
  generalize H1 = H at hP hS ⊢
  have hP : va_P (dC, dI) vwCl [(a, .inl (kI, 3020, .inl f))] H := hP
  have hD : va_D A [(a, .inl (kI, 3020, .inl f))] := hD
  have hK : va_K (dC, dI) vwCl [(kI, .int)] s := hK
  refine lv_iload_n hx hb dJ7_fill_fda19_7 rfl (lv_at hl 1 rfl) ?_
  refine lv_istore (lv' := [(4, .int 0), (0, .ref a), (1, .int 0), (2, .int 20), (3, .int 0)]) hx hb dJ7_fill_fda19_8 hl (by decide) rfl (fun ls hl => ?_)
  refine W_q (fun Q1 hQ1 => ?_)
  have key1 : ∀ (n1 : Nat) (i : Nat) (f1 : Nat → Int32) (H : Heap) (locs : List Loc) (ls : Array Slot), (i + n1 = 21 ∧ i ≤ 20) → (∀ j, f1 j = 0) → va_P (dC, dI) vwCl [(a, .inl (kI, 3020, .inl f1))] H → va_D A [(a, .inl (kI, 3020, .inl f1))] → va_S A s.heap H locs → lv_has ls 5 [(4, .int (nI i)), (0, .ref a), (1, .int 0), (2, .int 20), (3, .int 0)] → W p l e (headSpec wp_c_fillR ({ frames := 1, cells := 0, slots := 0, locals := 22 })).room s m ([.ref a, .int 0, .int 20, .int 0] : List Value).toArray below meth c H locs 0 0 Q1 (F0 m 10 ls []) := by
    intro n1
    induction n1 with
    | zero => intro i f1 H locs ls hb0 hb1; exact absurd hb0 (by omega)
    | succ n1 ih1 =>
      intro i f1 H locs ls hb0 hb1 hP hD hS hl
      refine lv_iload hx hb dJ7_fill_fda19_10 (lv_at hl 0 rfl) ?_
      refine lv_iload_n hx hb dJ7_fill_fda19_12 rfl (lv_at hl 3 rfl) ?_
      refine lv_icmp_ge (tgt := 27) hx hb dJ7_fill_fda19_13 (by decide) (fun hc => ?_) (fun hc => ?_)
      · have hP9 := hP.sub (ws' := [(a, .inl (kI, 3020, .inl f1))]) [0] rfl
        have hD9 := hD.sub (ws' := [(a, .inl (kI, 3020, .inl f1))]) [0] (by decide) rfl
        have hK9 := hK.sub (tys' := [(kI, .int)]) [0] rfl
        subst hQ1
        exact W.vret hx hb hr (fun tS ht hW => ⟨⟨(), rfl, trivial, f1, hb1, by rw [ht]; exact hP9, va_K.moved hW.alike hK9, hD9⟩, hS.F ht⟩) hS.2.2 dJ7_fill_fda19_27
      · have hi : i < 20 := by rcases Nat.lt_or_ge i 20 with q | q; exact q; exact absurd (nI_le (b := i) q (by omega)) hc
        refine lv_aload_n hx hb dJ7_fill_fda19_16 rfl (lv_at hl 1 rfl) ?_
        refine lv_iload hx hb dJ7_fill_fda19_17 (lv_at hl 0 rfl) ?_
        refine lv_iload_n hx hb dJ7_fill_fda19_19 rfl (lv_at hl 4 rfl) ?_
        refine va_iast hx hb hK hP hD hS 0 0 rfl rfl (vp_in_nI (by omega) (by decide)) dJ7_fill_fda19_20 (fun H locs hP hD hS => ?_)
        have hP : va_P (dC, dI) vwCl [(a, .inl (kI, 3020, .inl (upd f1 (nI i : Int32).toNatClampNeg 0)))] H := hP
        have hD : va_D A [(a, .inl (kI, 3020, .inl (upd f1 (nI i : Int32).toNatClampNeg 0)))] := hD
        obtain ⟨f2, ef2⟩ : ∃ zZ : Nat → Int32, zZ = upd f1 (nI i : Int32).toNatClampNeg 0 := ⟨_, rfl⟩
        rw [← ef2] at hP hD
        obtain ⟨x_2, ex_2⟩ : ∃ yY : Int32, yY = (nI i) + 1 := ⟨_, rfl⟩
        refine lv_iinc (v := x_2) (lv' := [(4, .int x_2), (0, .ref a), (1, .int 0), (2, .int 20), (3, .int 0)]) hx hb dJ7_fill_fda19_21 hl (k := 0) rfl (by rw [ex_2]; rfl) (by decide) rfl (fun ls hl => ?_)
        obtain rfl : x_2 = nI (i + 1) := by rw [ex_2]; exact nI_1 i
        have hl : lv_has ls 5 [(4, .int (nI (i + 1))), (0, .ref a), (1, .int 0), (2, .int 20), (3, .int 0)] := hl
        refine lv_goto (tgt := 10) hx hb dJ7_fill_fda19_24 (by decide) ?_
        exact ih1 (i + 1) f2 _ _ _ (by omega) (by intro j; rw [ef2]; by_cases e9 : j = (nI i).toNatClampNeg; rw [e9]; exact pk_us; rw [pk_un e9]; exact hb1 j) (hP.sub [0] rfl) (hD.sub [0] (by decide) rfl) hS (lv_sub hl [0, 1, 2, 3, 4] rfl)
  exact key1 21 0 f _ _ _ (by omega) hf (hP.sub [0] rfl) (hD.sub [0] (by decide) rfl) hS (lv_sub hl [0, 1, 2, 3, 4] rfl)
