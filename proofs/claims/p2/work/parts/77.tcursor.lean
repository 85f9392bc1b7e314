def wf_c_step : List Cond := [.code yX9_step cX9_step 2 none, .fieldLink RX9 106 "OwnedPlaces$Text" "now" "I", .fieldLink RX9 92 "OwnedPlaces$Text" "total" "I", .methodLink RX9 109 Lib.Math.min.name, .static Lib.Math.min.name, .initialized "java/lang/Math", .code Lib.Math.min.name Lib.Math.min.code 2 (some .int)]
def wp_c_step : List Cond := wf_c_step ++ (wsX90 ++ [])
theorem in_c_step_X9 : ∀ w ∈ wsX90, w ∈ wp_c_step := fun w h => List.mem_append_right _ (List.mem_append_left _ h)
theorem wg_c_step : wf_c_step.all goodWord = true := by decide +kernel
theorem wm_c_step (k : Nat) {w : Cond} (h : wp_c_step[k]? = some w) : w ∈ wp_c_step := List.mem_of_getElem? h
set_option maxHeartbeats 4000000 in
set_option maxRecDepth 100000 in
theorem c_step (l : Launch) (dC : Nat → ClassId) (dI : Nat → Nat → Nat) (h tk tp tn tu tl tb ts tf tz tx th tw : Nat) (ln ft pl nt : Int32) (nw tt : Nat) (st : Nat) (sz : Nat) (hn : nw < tt) (htt : tt ≤ 3001) (hst : st ≤ 3002) : Met l yX9_step wp_c_step ({ frames := 1, cells := 0, slots := 0, locals := 14 }) (va_Pc [.ref h, .int (nI st)] (fun U => U.heap.size = sz ∧ va_P (dC, dI) vwCl [(h, .inr (9, [.ref tk, .ref tp, .ref tn, .ref tu, .ref tl, .int ln, .int (nI nw), .int ft, .int pl, .int nt, .ref tb, .int (nI tt), .ref ts, .ref tf, .ref tz, .ref tx, .ref th, .ref tw]))] U.heap ∧ va_K (dC, dI) vwCl [] U ∧ va_D (fun _ => True) [(h, .inr (9, [.ref tk, .ref tp, .ref tn, .ref tu, .ref tl, .int ln, .int (nI nw), .int ft, .int pl, .int nt, .ref tb, .int (nI tt), .ref ts, .ref tf, .ref tz, .ref tx, .ref th, .ref tw]))])) (va_Qv (fun _ : Unit => True) (fun (_ : Unit) (tS : State) => ∃ (nw2 : Nat), (cuT nw st tt nw2) ∧ va_P (dC, dI) vwCl [(h, .inr (9, [.ref tk, .ref tp, .ref tn, .ref tu, .ref tl, .int ln, .int (nI nw2), .int ft, .int pl, .int nt, .ref tb, .int (nI tt), .ref ts, .ref tf, .ref tz, .ref tx, .ref th, .ref tw]))] tS.heap ∧ va_K (dC, dI) vwCl [] tS ∧ va_D (va_A [(h, .inr (9, [.ref tk, .ref tp, .ref tn, .ref tu, .ref tl, .int ln, .int (nI nw), .int ft, .int pl, .int nt, .ref tb, .int (nI tt), .ref ts, .ref tf, .ref tz, .ref tx, .ref th, .ref tw]))] sz) [(h, .inr (9, [.ref tk, .ref tp, .ref tn, .ref tu, .ref tl, .int ln, .int (nI nw2), .int ft, .int pl, .int nt, .ref tb, .int (nI tt), .ref ts, .ref tf, .ref tz, .ref tx, .ref th, .ref tw]))]) (va_A [(h, .inr (9, [.ref tk, .ref tp, .ref tn, .ref tu, .ref tl, .int ln, .int (nI nw), .int ft, .int pl, .int nt, .ref tb, .int (nI tt), .ref ts, .ref tf, .ref tz, .ref tx, .ref th, .ref tw]))] sz)) 0 0 (va_A [(h, .inr (9, [.ref tk, .ref tp, .ref tn, .ref tu, .ref tl, .int ln, .int (nI nw), .int ft, .int pl, .int nt, .ref tb, .int (nI tt), .ref ts, .ref tf, .ref tz, .ref tx, .ref th, .ref tw]))] sz) := by
  refine Met.ofW (cc := cX9_step) (maxL := 2) (ret := none) (by decide) rfl ?_
  intro p e s m args below meth c s₁ B hml hv
  obtain ⟨rfl, hsz, hP, hK, hD0⟩ := hv
  have hx := B.exec
  have hb := B.bytes
  have hr := B.returns
  have hts := atoms_spec (ws := wp_c_step) B.pre
  have hown : s.vm.findClass RX9 = some m.cls := findClass_of_methodNamed B.named
  have hlocks := B.notSynchronized
  subst hsz
  have hD := hD0.self (sz := s.heap.size)
  generalize hAe : va_A [(h, .inr (9, [.ref tk, .ref tp, .ref tn, .ref tu, .ref tl, .int ln, .int (nI nw), .int ft, .int pl, .int nt, .ref tb, .int (nI tt), .ref ts, .ref tf, .ref tz, .ref tx, .ref th, .ref tw]))] s.heap.size = A at hD ⊢
  have hA : ∀ q : Nat, s.heap.size ≤ q → A q := fun q h => by rw [← hAe]; exact Or.inr h
  have hS : va_S A s.heap s.heap [] := va_S.rf
  have hP : va_P (dC, dI) vwCl [(h, .inr (9, [.ref tk, .ref tp, .ref tn, .ref tu, .ref tl, .int ln, .int (nI nw), .int ft, .int pl, .int nt, .ref tb, .int (nI tt), .ref ts, .ref tf, .ref tz, .ref tx, .ref th, .ref tw]))] s.heap := hP
  have hl := lv_entry ([.ref h, .int (nI st)]) (n := 2) (Nat.le_of_ble_eq_true rfl)
  rw [lg_entry_eq]
  generalize (lg_sl ([.ref h, .int (nI st)]) ++ List.replicate (2 - (lg_sl ([.ref h, .int (nI st)])).length) Slot.unset).toArray = ls at hl ⊢
  have hl : lv_has ls 2 [(0, .ref h), (1, .int (nI st))] := hl
  refine lv_aload_n hx hb dX9_step_0 rfl (lv_at hl 0 rfl) ?_
  refine lv_aload_n hx hb dX9_step_1 rfl (lv_at hl 0 rfl) ?_
  refine va_get (D := (dC, dI)) (ci := 9) (v := .int (nI nw)) (C := RX9) (T := TX9) (N := 18) hx hb hts in_c_step_X9 hown hK hP 0 rfl rfl 6 (by decide) (hts (.fieldLink RX9 106 "OwnedPlaces$Text" "now" "I") (wm_c_step 1 rfl)) (fun _ h9 => h9) rfl dX9_step_2 ?_
  refine lv_iload_n hx hb dX9_step_5 rfl (lv_at hl 1 rfl) ?_
  refine lv_iadd hx hb dX9_step_6 ?_
  refine lv_topi (fun f_1 ef_1 => ?_)
  obtain rfl : f_1 = nI (nw + st) := ef_1.trans (nI_add _ _)
  refine lv_aload_n hx hb dX9_step_7 rfl (lv_at hl 0 rfl) ?_
  refine va_get (D := (dC, dI)) (ci := 9) (v := .int (nI tt)) (C := RX9) (T := TX9) (N := 18) hx hb hts in_c_step_X9 hown hK hP 0 rfl rfl 11 (by decide) (hts (.fieldLink RX9 92 "OwnedPlaces$Text" "total" "I") (wm_c_step 2 rfl)) (fun _ h9 => h9) rfl dX9_step_8 ?_
  refine lv_iconst (v := 1) hx hb dX9_step_11 (by decide) ?_
  refine lv_isub hx hb dX9_step_12 ?_
  refine lv_topi (fun f_2 ef_2 => ?_)
  obtain rfl : f_2 = nI (tt - 1) := ef_2.trans (pk_sub (a := tt) (b := 1) (by omega))
  refine va_mmin hx hb (by rw [hml]; exact hl.1.symm) hown (hts (.methodLink RX9 109 Lib.Math.min.name) (wm_c_step 3 rfl)) (hts (.static Lib.Math.min.name) (wm_c_step 4 rfl)) (hts (.initialized "java/lang/Math") (wm_c_step 5 rfl)) (hts (.code Lib.Math.min.name Lib.Math.min.code 2 (some .int)) (wm_c_step 6 rfl)) (Nat.le_of_ble_eq_true rfl) (Nat.le_of_ble_eq_true rfl) (Nat.zero_le _) (Nat.zero_le _) dX9_step_13 ?_
  refine lv_topi (fun f_3 ef_3 => ?_)
  obtain ⟨nw2, hq, hcu⟩ := cuT_min hn htt hst ef_3
  obtain rfl : f_3 = nI nw2 := hq
  refine va_put (D := (dC, dI)) (ci := 9) (v := .int (nI nw2)) (ty := .int) (C := RX9) (T := TX9) (N := 18) hx hb hts in_c_step_X9 tyX9 tyX9_ok nmX9 hown hK hP hD hS 0 rfl rfl 6 (by decide) (hts (.fieldLink RX9 106 "OwnedPlaces$Text" "now" "I") (wm_c_step 1 rfl)) (fun _ h9 => h9) rfl (by decide +kernel) rfl rfl (Nat.le_of_ble_eq_true rfl) dX9_step_16 (fun H locs hP hD hS => ?_)
  have hP : va_P (dC, dI) vwCl [(h, .inr (9, [.ref tk, .ref tp, .ref tn, .ref tu, .ref tl, .int ln, .int (nI nw2), .int ft, .int pl, .int nt, .ref tb, .int (nI tt), .ref ts, .ref tf, .ref tz, .ref tx, .ref th, .ref tw]))] H := hP
  have hD : va_D A [(h, .inr (9, [.ref tk, .ref tp, .ref tn, .ref tu, .ref tl, .int ln, .int (nI nw2), .int ft, .int pl, .int nt, .ref tb, .int (nI tt), .ref ts, .ref tf, .ref tz, .ref tx, .ref th, .ref tw]))] := hD
  have hP9 := hP.sub (ws' := [(h, .inr (9, [.ref tk, .ref tp, .ref tn, .ref tu, .ref tl, .int ln, .int (nI nw2), .int ft, .int pl, .int nt, .ref tb, .int (nI tt), .ref ts, .ref tf, .ref tz, .ref tx, .ref th, .ref tw]))]) [0] rfl
  have hD9 := hD.sub (ws' := [(h, .inr (9, [.ref tk, .ref tp, .ref tn, .ref tu, .ref tl, .int ln, .int (nI nw2), .int ft, .int pl, .int nt, .ref tb, .int (nI tt), .ref ts, .ref tf, .ref tz, .ref tx, .ref th, .ref tw]))]) [0] (by decide) rfl
  have hK9 := hK.sub (tys' := []) [] rfl
  exact W.vret hx hb hr (fun tS ht hW => ⟨⟨(), rfl, trivial, nw2, hcu, by rw [ht]; exact hP9, va_K.moved hW.alike hK9, hD9⟩, hS.F ht⟩) hS.2.2 dX9_step_19
def wf_c_kindB : List Cond := [.code yX9_kindBehind cX9_kindBehind 2 (some .int), .fieldLink RX9 9 "OwnedPlaces$Text" "kinds" "[I", .fieldLink RX9 106 "OwnedPlaces$Text" "now" "I", .fieldLink RX9 92 "OwnedPlaces$Text" "total" "I", .methodLink RX9 109 Lib.Math.min.name, .static Lib.Math.min.name, .initialized "java/lang/Math", .code Lib.Math.min.name Lib.Math.min.code 2 (some .int)]
def wp_c_kindB : List Cond := wf_c_kindB ++ (wsX90 ++ [])
theorem in_c_kindB_X9 : ∀ w ∈ wsX90, w ∈ wp_c_kindB := fun w h => List.mem_append_right _ (List.mem_append_left _ h)
theorem wg_c_kindB : wf_c_kindB.all goodWord = true := by decide +kernel
theorem wm_c_kindB (k : Nat) {w : Cond} (h : wp_c_kindB[k]? = some w) : w ∈ wp_c_kindB := List.mem_of_getElem? h
set_option maxHeartbeats 4000000 in
set_option maxRecDepth 100000 in
theorem c_kindB (l : Launch) (dC : Nat → ClassId) (dI : Nat → Nat → Nat) (h tk tp tn tu tl tb ts tf tz tx th tw : Nat) (ln ft pl nt : Int32) (nw tt : Nat) (st : Nat) (kI : ClassId) (fk : Nat → Int32) (sz : Nat) (hn : nw < tt) (htt : tt ≤ 3001) (hst : st ≤ 3002) : Met l yX9_kindBehind wp_c_kindB ({ frames := 1, cells := 0, slots := 0, locals := 14 }) (va_Pc [.ref h, .int (nI st)] (fun U => U.heap.size = sz ∧ va_P (dC, dI) vwCl [(h, .inr (9, [.ref tk, .ref tp, .ref tn, .ref tu, .ref tl, .int ln, .int (nI nw), .int ft, .int pl, .int nt, .ref tb, .int (nI tt), .ref ts, .ref tf, .ref tz, .ref tx, .ref th, .ref tw])), (tk, .inl (kI, 3002, .inl fk))] U.heap ∧ va_K (dC, dI) vwCl [(kI, .int)] U ∧ va_D (fun _ => True) [(h, .inr (9, [.ref tk, .ref tp, .ref tn, .ref tu, .ref tl, .int ln, .int (nI nw), .int ft, .int pl, .int nt, .ref tb, .int (nI tt), .ref ts, .ref tf, .ref tz, .ref tx, .ref th, .ref tw])), (tk, .inl (kI, 3002, .inl fk))])) (va_Qi (fun (r : Int32) (_ : Unit) => ∃ nw2 : Nat, cuT nw st tt nw2 ∧ r = fk nw2) (fun (_ : Unit) (tS : State) => va_P (dC, dI) vwCl [(h, .inr (9, [.ref tk, .ref tp, .ref tn, .ref tu, .ref tl, .int ln, .int (nI nw), .int ft, .int pl, .int nt, .ref tb, .int (nI tt), .ref ts, .ref tf, .ref tz, .ref tx, .ref th, .ref tw])), (tk, .inl (kI, 3002, .inl fk))] tS.heap ∧ va_K (dC, dI) vwCl [(kI, .int)] tS ∧ va_D (va_A [(h, .inr (9, [.ref tk, .ref tp, .ref tn, .ref tu, .ref tl, .int ln, .int (nI nw), .int ft, .int pl, .int nt, .ref tb, .int (nI tt), .ref ts, .ref tf, .ref tz, .ref tx, .ref th, .ref tw])), (tk, .inl (kI, 3002, .inl fk))] sz) [(h, .inr (9, [.ref tk, .ref tp, .ref tn, .ref tu, .ref tl, .int ln, .int (nI nw), .int ft, .int pl, .int nt, .ref tb, .int (nI tt), .ref ts, .ref tf, .ref tz, .ref tx, .ref th, .ref tw])), (tk, .inl (kI, 3002, .inl fk))]) (va_A [(h, .inr (9, [.ref tk, .ref tp, .ref tn, .ref tu, .ref tl, .int ln, .int (nI nw), .int ft, .int pl, .int nt, .ref tb, .int (nI tt), .ref ts, .ref tf, .ref tz, .ref tx, .ref th, .ref tw])), (tk, .inl (kI, 3002, .inl fk))] sz)) 0 0 (va_A [(h, .inr (9, [.ref tk, .ref tp, .ref tn, .ref tu, .ref tl, .int ln, .int (nI nw), .int ft, .int pl, .int nt, .ref tb, .int (nI tt), .ref ts, .ref tf, .ref tz, .ref tx, .ref th, .ref tw])), (tk, .inl (kI, 3002, .inl fk))] sz) := by
  refine Met.ofW (cc := cX9_kindBehind) (maxL := 2) (ret := (some .int)) (by decide) rfl ?_
  intro p e s m args below meth c s₁ B hml hv
  obtain ⟨rfl, hsz, hP, hK, hD0⟩ := hv
  have hx := B.exec
  have hb := B.bytes
  have hr := B.returns
  have hts := atoms_spec (ws := wp_c_kindB) B.pre
  have hown : s.vm.findClass RX9 = some m.cls := findClass_of_methodNamed B.named
  have hlocks := B.notSynchronized
  subst hsz
  have hD := hD0.self (sz := s.heap.size)
  generalize hAe : va_A [(h, .inr (9, [.ref tk, .ref tp, .ref tn, .ref tu, .ref tl, .int ln, .int (nI nw), .int ft, .int pl, .int nt, .ref tb, .int (nI tt), .ref ts, .ref tf, .ref tz, .ref tx, .ref th, .ref tw])), (tk, .inl (kI, 3002, .inl fk))] s.heap.size = A at hD ⊢
  have hA : ∀ q : Nat, s.heap.size ≤ q → A q := fun q h => by rw [← hAe]; exact Or.inr h
  have hS : va_S A s.heap s.heap [] := va_S.rf
  have hP : va_P (dC, dI) vwCl [(h, .inr (9, [.ref tk, .ref tp, .ref tn, .ref tu, .ref tl, .int ln, .int (nI nw), .int ft, .int pl, .int nt, .ref tb, .int (nI tt), .ref ts, .ref tf, .ref tz, .ref tx, .ref th, .ref tw])), (tk, .inl (kI, 3002, .inl fk))] s.heap := hP
  have hl := lv_entry ([.ref h, .int (nI st)]) (n := 2) (Nat.le_of_ble_eq_true rfl)
  rw [lg_entry_eq]
  generalize (lg_sl ([.ref h, .int (nI st)]) ++ List.replicate (2 - (lg_sl ([.ref h, .int (nI st)])).length) Slot.unset).toArray = ls at hl ⊢
  have hl : lv_has ls 2 [(0, .ref h), (1, .int (nI st))] := hl
  refine lv_aload_n hx hb dX9_kindBehind_0 rfl (lv_at hl 0 rfl) ?_
  refine va_get (D := (dC, dI)) (ci := 9) (v := .ref tk) (C := RX9) (T := TX9) (N := 18) hx hb hts in_c_kindB_X9 hown hK hP 0 rfl rfl 0 (by decide) (hts (.fieldLink RX9 9 "OwnedPlaces$Text" "kinds" "[I") (wm_c_kindB 1 rfl)) (fun _ h9 => h9) rfl dX9_kindBehind_1 ?_
  refine lv_aload_n hx hb dX9_kindBehind_4 rfl (lv_at hl 0 rfl) ?_
  refine va_get (D := (dC, dI)) (ci := 9) (v := .int (nI nw)) (C := RX9) (T := TX9) (N := 18) hx hb hts in_c_kindB_X9 hown hK hP 0 rfl rfl 6 (by decide) (hts (.fieldLink RX9 106 "OwnedPlaces$Text" "now" "I") (wm_c_kindB 2 rfl)) (fun _ h9 => h9) rfl dX9_kindBehind_5 ?_
  refine lv_iload_n hx hb dX9_kindBehind_8 rfl (lv_at hl 1 rfl) ?_
  refine lv_iadd hx hb dX9_kindBehind_9 ?_
  refine lv_topi (fun f_1 ef_1 => ?_)
  obtain rfl : f_1 = nI (nw + st) := ef_1.trans (nI_add _ _)
  refine lv_aload_n hx hb dX9_kindBehind_10 rfl (lv_at hl 0 rfl) ?_
  refine va_get (D := (dC, dI)) (ci := 9) (v := .int (nI tt)) (C := RX9) (T := TX9) (N := 18) hx hb hts in_c_kindB_X9 hown hK hP 0 rfl rfl 11 (by decide) (hts (.fieldLink RX9 92 "OwnedPlaces$Text" "total" "I") (wm_c_kindB 3 rfl)) (fun _ h9 => h9) rfl dX9_kindBehind_11 ?_
  refine lv_iconst (v := 1) hx hb dX9_kindBehind_14 (by decide) ?_
  refine lv_isub hx hb dX9_kindBehind_15 ?_
  refine lv_topi (fun f_2 ef_2 => ?_)
  obtain rfl : f_2 = nI (tt - 1) := ef_2.trans (pk_sub (a := tt) (b := 1) (by omega))
  refine va_mmin hx hb (by rw [hml]; exact hl.1.symm) hown (hts (.methodLink RX9 109 Lib.Math.min.name) (wm_c_kindB 4 rfl)) (hts (.static Lib.Math.min.name) (wm_c_kindB 5 rfl)) (hts (.initialized "java/lang/Math") (wm_c_kindB 6 rfl)) (hts (.code Lib.Math.min.name Lib.Math.min.code 2 (some .int)) (wm_c_kindB 7 rfl)) (Nat.le_of_ble_eq_true rfl) (Nat.le_of_ble_eq_true rfl) (Nat.zero_le _) (Nat.zero_le _) dX9_kindBehind_16 ?_
  refine lv_topi (fun f_3 ef_3 => ?_)
  obtain ⟨nw2, hq, hcu⟩ := cuT_min hn htt hst ef_3
  obtain rfl : f_3 = nI nw2 := hq
  have hn2 : nw2 < tt := hcu.1
  refine va_iald hx hb hK hP 1 0 rfl rfl (vp_in_nI (by omega) (by decide)) dX9_kindBehind_19 ?_
  refine lv_topi (fun v_4 ev_4 => ?_)
  have hP9 := hP.sub (ws' := [(h, .inr (9, [.ref tk, .ref tp, .ref tn, .ref tu, .ref tl, .int ln, .int (nI nw), .int ft, .int pl, .int nt, .ref tb, .int (nI tt), .ref ts, .ref tf, .ref tz, .ref tx, .ref th, .ref tw])), (tk, .inl (kI, 3002, .inl fk))]) [0, 1] rfl
  have hD9 := hD.sub (ws' := [(h, .inr (9, [.ref tk, .ref tp, .ref tn, .ref tu, .ref tl, .int ln, .int (nI nw), .int ft, .int pl, .int nt, .ref tb, .int (nI tt), .ref ts, .ref tf, .ref tz, .ref tx, .ref th, .ref tw])), (tk, .inl (kI, 3002, .inl fk))]) [0, 1] (by decide) rfl
  have hK9 := hK.sub (tys' := [(kI, .int)]) [0] rfl
  exact W.iret (v := v_4) hx hb hr (fun tS ht hW => ⟨⟨v_4, (), rfl, ⟨nw2, hcu, ev_4.trans (by rw [nI_clamp (by omega)])⟩, by rw [ht]; exact hP9, va_K.moved hW.alike hK9, hD9⟩, hS.F ht⟩) hS.2.2 dX9_kindBehind_20
def wf_c_fail : List Cond := [.code yX9_fail cX9_fail 3 none, .fieldLink RX9 95 "OwnedPlaces$Text" "fault" "I", .fieldLink RX9 92 "OwnedPlaces$Text" "total" "I", .fieldLink RX9 106 "OwnedPlaces$Text" "now" "I", .fieldLink RX9 28 "OwnedPlaces$Text" "place" "I"]
def wp_c_fail : List Cond := wf_c_fail ++ (wsX90 ++ [])
theorem in_c_fail_X9 : ∀ w ∈ wsX90, w ∈ wp_c_fail := fun w h => List.mem_append_right _ (List.mem_append_left _ h)
theorem wg_c_fail : wf_c_fail.all goodWord = true := by decide +kernel
theorem wm_c_fail (k : Nat) {w : Cond} (h : wp_c_fail[k]? = some w) : w ∈ wp_c_fail := List.mem_of_getElem? h
set_option maxHeartbeats 4000000 in
set_option maxRecDepth 100000 in
theorem c_fail (l : Launch) (dC : Nat → ClassId) (dI : Nat → Nat → Nat) (h tk tp tn tu tl tb ts tf tz tx th tw : Nat) (ln ft pl nt : Int32) (nw tt : Nat) (wc wh : Int32) (sz : Nat) (hn : nw < tt) (htt : tt ≤ 3001) : Met l yX9_fail wp_c_fail ({ frames := 0, cells := 0, slots := 0, locals := 0 }) (va_Pc [.ref h, .int wc, .int wh] (fun U => U.heap.size = sz ∧ va_P (dC, dI) vwCl [(h, .inr (9, [.ref tk, .ref tp, .ref tn, .ref tu, .ref tl, .int ln, .int (nI nw), .int ft, .int pl, .int nt, .ref tb, .int (nI tt), .ref ts, .ref tf, .ref tz, .ref tx, .ref th, .ref tw]))] U.heap ∧ va_K (dC, dI) vwCl [] U ∧ va_D (fun _ => True) [(h, .inr (9, [.ref tk, .ref tp, .ref tn, .ref tu, .ref tl, .int ln, .int (nI nw), .int ft, .int pl, .int nt, .ref tb, .int (nI tt), .ref ts, .ref tf, .ref tz, .ref tx, .ref th, .ref tw]))])) (va_Qv (fun _ : Unit => True) (fun (_ : Unit) (tS : State) => ∃ (ft2 : Int32) (pl2 : Int32), ((ft = 0 → ft2 = wc ∧ pl2 = wh) ∧ (ft ≠ 0 → ft2 = ft ∧ pl2 = pl)) ∧ va_P (dC, dI) vwCl [(h, .inr (9, [.ref tk, .ref tp, .ref tn, .ref tu, .ref tl, .int ln, .int (nI (tt - 1)), .int ft2, .int pl2, .int nt, .ref tb, .int (nI tt), .ref ts, .ref tf, .ref tz, .ref tx, .ref th, .ref tw]))] tS.heap ∧ va_K (dC, dI) vwCl [] tS ∧ va_D (va_A [(h, .inr (9, [.ref tk, .ref tp, .ref tn, .ref tu, .ref tl, .int ln, .int (nI nw), .int ft, .int pl, .int nt, .ref tb, .int (nI tt), .ref ts, .ref tf, .ref tz, .ref tx, .ref th, .ref tw]))] sz) [(h, .inr (9, [.ref tk, .ref tp, .ref tn, .ref tu, .ref tl, .int ln, .int (nI (tt - 1)), .int ft2, .int pl2, .int nt, .ref tb, .int (nI tt), .ref ts, .ref tf, .ref tz, .ref tx, .ref th, .ref tw]))]) (va_A [(h, .inr (9, [.ref tk, .ref tp, .ref tn, .ref tu, .ref tl, .int ln, .int (nI nw), .int ft, .int pl, .int nt, .ref tb, .int (nI tt), .ref ts, .ref tf, .ref tz, .ref tx, .ref th, .ref tw]))] sz)) 0 0 (va_A [(h, .inr (9, [.ref tk, .ref tp, .ref tn, .ref tu, .ref tl, .int ln, .int (nI nw), .int ft, .int pl, .int nt, .ref tb, .int (nI tt), .ref ts, .ref tf, .ref tz, .ref tx, .ref th, .ref tw]))] sz) := by
  refine Met.ofW (cc := cX9_fail) (maxL := 3) (ret := none) (by decide) rfl ?_
  intro p e s m args below meth c s₁ B hml hv
  obtain ⟨rfl, hsz, hP, hK, hD0⟩ := hv
  have hx := B.exec
  have hb := B.bytes
  have hr := B.returns
  have hts := atoms_spec (ws := wp_c_fail) B.pre
  have hown : s.vm.findClass RX9 = some m.cls := findClass_of_methodNamed B.named
  have hlocks := B.notSynchronized
  subst hsz
  have hD := hD0.self (sz := s.heap.size)
  generalize hAe : va_A [(h, .inr (9, [.ref tk, .ref tp, .ref tn, .ref tu, .ref tl, .int ln, .int (nI nw), .int ft, .int pl, .int nt, .ref tb, .int (nI tt), .ref ts, .ref tf, .ref tz, .ref tx, .ref th, .ref tw]))] s.heap.size = A at hD ⊢
  have hA : ∀ q : Nat, s.heap.size ≤ q → A q := fun q h => by rw [← hAe]; exact Or.inr h
  have hS : va_S A s.heap s.heap [] := va_S.rf
  have hP : va_P (dC, dI) vwCl [(h, .inr (9, [.ref tk, .ref tp, .ref tn, .ref tu, .ref tl, .int ln, .int (nI nw), .int ft, .int pl, .int nt, .ref tb, .int (nI tt), .ref ts, .ref tf, .ref tz, .ref tx, .ref th, .ref tw]))] s.heap := hP
  have hl := lv_entry ([.ref h, .int wc, .int wh]) (n := 3) (Nat.le_of_ble_eq_true rfl)
  rw [lg_entry_eq]
  generalize (lg_sl ([.ref h, .int wc, .int wh]) ++ List.replicate (3 - (lg_sl ([.ref h, .int wc, .int wh])).length) Slot.unset).toArray = ls at hl ⊢
  have hl : lv_has ls 3 [(0, .ref h), (1, .int wc), (2, .int wh)] := hl
  refine lv_aload_n hx hb dX9_fail_0 rfl (lv_at hl 0 rfl) ?_
  refine va_get (D := (dC, dI)) (ci := 9) (v := .int ft) (C := RX9) (T := TX9) (N := 18) hx hb hts in_c_fail_X9 hown hK hP 0 rfl rfl 7 (by decide) (hts (.fieldLink RX9 95 "OwnedPlaces$Text" "fault" "I") (wm_c_fail 1 rfl)) (fun _ h9 => h9) rfl dX9_fail_1 ?_
  refine lv_if_ne (tgt := 17) hx hb dX9_fail_4 (by decide) (fun hc => ?_) (fun hc => ?_)
  · refine lv_aload_n hx hb dX9_fail_17 rfl (lv_at hl 0 rfl) ?_
    refine lv_aload_n hx hb dX9_fail_18 rfl (lv_at hl 0 rfl) ?_
    refine va_get (D := (dC, dI)) (ci := 9) (v := .int (nI tt)) (C := RX9) (T := TX9) (N := 18) hx hb hts in_c_fail_X9 hown hK hP 0 rfl rfl 11 (by decide) (hts (.fieldLink RX9 92 "OwnedPlaces$Text" "total" "I") (wm_c_fail 2 rfl)) (fun _ h9 => h9) rfl dX9_fail_19 ?_
    refine lv_iconst (v := 1) hx hb dX9_fail_22 (by decide) ?_
    refine lv_isub hx hb dX9_fail_23 ?_
    refine lv_topi (fun f_1 ef_1 => ?_)
    obtain rfl : f_1 = nI (tt - 1) := ef_1.trans (pk_sub (a := tt) (b := 1) (by omega))
    refine va_put (D := (dC, dI)) (ci := 9) (v := .int (nI (tt - 1))) (ty := .int) (C := RX9) (T := TX9) (N := 18) hx hb hts in_c_fail_X9 tyX9 tyX9_ok nmX9 hown hK hP hD hS 0 rfl rfl 6 (by decide) (hts (.fieldLink RX9 106 "OwnedPlaces$Text" "now" "I") (wm_c_fail 3 rfl)) (fun _ h9 => h9) rfl (by decide +kernel) rfl rfl (Nat.le_of_ble_eq_true rfl) dX9_fail_24 (fun H locs hP hD hS => ?_)
    have hP : va_P (dC, dI) vwCl [(h, .inr (9, [.ref tk, .ref tp, .ref tn, .ref tu, .ref tl, .int ln, .int (nI (tt - 1)), .int ft, .int pl, .int nt, .ref tb, .int (nI tt), .ref ts, .ref tf, .ref tz, .ref tx, .ref th, .ref tw]))] H := hP
    have hD : va_D A [(h, .inr (9, [.ref tk, .ref tp, .ref tn, .ref tu, .ref tl, .int ln, .int (nI (tt - 1)), .int ft, .int pl, .int nt, .ref tb, .int (nI tt), .ref ts, .ref tf, .ref tz, .ref tx, .ref th, .ref tw]))] := hD
    have hP9 := hP.sub (ws' := [(h, .inr (9, [.ref tk, .ref tp, .ref tn, .ref tu, .ref tl, .int ln, .int (nI (tt - 1)), .int ft, .int pl, .int nt, .ref tb, .int (nI tt), .ref ts, .ref tf, .ref tz, .ref tx, .ref th, .ref tw]))]) [0] rfl
    have hD9 := hD.sub (ws' := [(h, .inr (9, [.ref tk, .ref tp, .ref tn, .ref tu, .ref tl, .int ln, .int (nI (tt - 1)), .int ft, .int pl, .int nt, .ref tb, .int (nI tt), .ref ts, .ref tf, .ref tz, .ref tx, .ref th, .ref tw]))]) [0] (by decide) rfl
    have hK9 := hK.sub (tys' := []) [] rfl
    exact W.vret hx hb hr (fun tS ht hW => ⟨⟨(), rfl, trivial, ft, pl, ⟨fun h => absurd h hc, fun _ => ⟨rfl, rfl⟩⟩, by rw [ht]; exact hP9, va_K.moved hW.alike hK9, hD9⟩, hS.F ht⟩) hS.2.2 dX9_fail_27
  · obtain rfl : ft = 0 := hc
    refine lv_aload_n hx hb dX9_fail_7 rfl (lv_at hl 0 rfl) ?_
    refine lv_iload_n hx hb dX9_fail_8 rfl (lv_at hl 1 rfl) ?_
    refine va_put (D := (dC, dI)) (ci := 9) (v := .int wc) (ty := .int) (C := RX9) (T := TX9) (N := 18) hx hb hts in_c_fail_X9 tyX9 tyX9_ok nmX9 hown hK hP hD hS 0 rfl rfl 7 (by decide) (hts (.fieldLink RX9 95 "OwnedPlaces$Text" "fault" "I") (wm_c_fail 1 rfl)) (fun _ h9 => h9) rfl (by decide +kernel) rfl rfl (Nat.le_of_ble_eq_true rfl) dX9_fail_9 (fun H locs hP hD hS => ?_)
    have hP : va_P (dC, dI) vwCl [(h, .inr (9, [.ref tk, .ref tp, .ref tn, .ref tu, .ref tl, .int ln, .int (nI nw), .int wc, .int pl, .int nt, .ref tb, .int (nI tt), .ref ts, .ref tf, .ref tz, .ref tx, .ref th, .ref tw]))] H := hP
    have hD : va_D A [(h, .inr (9, [.ref tk, .ref tp, .ref tn, .ref tu, .ref tl, .int ln, .int (nI nw), .int wc, .int pl, .int nt, .ref tb, .int (nI tt), .ref ts, .ref tf, .ref tz, .ref tx, .ref th, .ref tw]))] := hD
    refine lv_aload_n hx hb dX9_fail_12 rfl (lv_at hl 0 rfl) ?_
    refine lv_iload_n hx hb dX9_fail_13 rfl (lv_at hl 2 rfl) ?_
    refine va_put (D := (dC, dI)) (ci := 9) (v := .int wh) (ty := .int) (C := RX9) (T := TX9) (N := 18) hx hb hts in_c_fail_X9 tyX9 tyX9_ok nmX9 hown hK hP hD hS 0 rfl rfl 8 (by decide) (hts (.fieldLink RX9 28 "OwnedPlaces$Text" "place" "I") (wm_c_fail 4 rfl)) (fun _ h9 => h9) rfl (by decide +kernel) rfl rfl (Nat.le_of_ble_eq_true rfl) dX9_fail_14 (fun H locs hP hD hS => ?_)
    have hP : va_P (dC, dI) vwCl [(h, .inr (9, [.ref tk, .ref tp, .ref tn, .ref tu, .ref tl, .int ln, .int (nI nw), .int wc, .int wh, .int nt, .ref tb, .int (nI tt), .ref ts, .ref tf, .ref tz, .ref tx, .ref th, .ref tw]))] H := hP
    have hD : va_D A [(h, .inr (9, [.ref tk, .ref tp, .ref tn, .ref tu, .ref tl, .int ln, .int (nI nw), .int wc, .int wh, .int nt, .ref tb, .int (nI tt), .ref ts, .ref tf, .ref tz, .ref tx, .ref th, .ref tw]))] := hD
    refine lv_aload_n hx hb dX9_fail_17 rfl (lv_at hl 0 rfl) ?_
    refine lv_aload_n hx hb dX9_fail_18 rfl (lv_at hl 0 rfl) ?_
    refine va_get (D := (dC, dI)) (ci := 9) (v := .int (nI tt)) (C := RX9) (T := TX9) (N := 18) hx hb hts in_c_fail_X9 hown hK hP 0 rfl rfl 11 (by decide) (hts (.fieldLink RX9 92 "OwnedPlaces$Text" "total" "I") (wm_c_fail 2 rfl)) (fun _ h9 => h9) rfl dX9_fail_19 ?_
    refine lv_iconst (v := 1) hx hb dX9_fail_22 (by decide) ?_
    refine lv_isub hx hb dX9_fail_23 ?_
    refine lv_topi (fun f_1 ef_1 => ?_)
    obtain rfl : f_1 = nI (tt - 1) := ef_1.trans (pk_sub (a := tt) (b := 1) (by omega))
    refine va_put (D := (dC, dI)) (ci := 9) (v := .int (nI (tt - 1))) (ty := .int) (C := RX9) (T := TX9) (N := 18) hx hb hts in_c_fail_X9 tyX9 tyX9_ok nmX9 hown hK hP hD hS 0 rfl rfl 6 (by decide) (hts (.fieldLink RX9 106 "OwnedPlaces$Text" "now" "I") (wm_c_fail 3 rfl)) (fun _ h9 => h9) rfl (by decide +kernel) rfl rfl (Nat.le_of_ble_eq_true rfl) dX9_fail_24 (fun H locs hP hD hS => ?_)
    have hP : va_P (dC, dI) vwCl [(h, .inr (9, [.ref tk, .ref tp, .ref tn, .ref tu, .ref tl, .int ln, .int (nI (tt - 1)), .int wc, .int wh, .int nt, .ref tb, .int (nI tt), .ref ts, .ref tf, .ref tz, .ref tx, .ref th, .ref tw]))] H := hP
    have hD : va_D A [(h, .inr (9, [.ref tk, .ref tp, .ref tn, .ref tu, .ref tl, .int ln, .int (nI (tt - 1)), .int wc, .int wh, .int nt, .ref tb, .int (nI tt), .ref ts, .ref tf, .ref tz, .ref tx, .ref th, .ref tw]))] := hD
    have hP9 := hP.sub (ws' := [(h, .inr (9, [.ref tk, .ref tp, .ref tn, .ref tu, .ref tl, .int ln, .int (nI (tt - 1)), .int wc, .int wh, .int nt, .ref tb, .int (nI tt), .ref ts, .ref tf, .ref tz, .ref tx, .ref th, .ref tw]))]) [0] rfl
    have hD9 := hD.sub (ws' := [(h, .inr (9, [.ref tk, .ref tp, .ref tn, .ref tu, .ref tl, .int ln, .int (nI (tt - 1)), .int wc, .int wh, .int nt, .ref tb, .int (nI tt), .ref ts, .ref tf, .ref tz, .ref tx, .ref th, .ref tw]))]) [0] (by decide) rfl
    have hK9 := hK.sub (tys' := []) [] rfl
    exact W.vret hx hb hr (fun tS ht hW => ⟨⟨(), rfl, trivial, wc, wh, ⟨fun _ => ⟨rfl, rfl⟩, fun h => absurd rfl h⟩, by rw [ht]; exact hP9, va_K.moved hW.alike hK9, hD9⟩, hS.F ht⟩) hS.2.2 dX9_fail_27
def wf_c_take : List Cond := [.code yX9_take cX9_take 2 (some .boolean), .fieldLink RX9 9 "OwnedPlaces$Text" "kinds" "[I", .fieldLink RX9 106 "OwnedPlaces$Text" "now" "I"]
def wp_c_take : List Cond := wf_c_take ++ (wsX90 ++ [])
theorem in_c_take_X9 : ∀ w ∈ wsX90, w ∈ wp_c_take := fun w h => List.mem_append_right _ (List.mem_append_left _ h)
theorem wg_c_take : wf_c_take.all goodWord = true := by decide +kernel
theorem wm_c_take (k : Nat) {w : Cond} (h : wp_c_take[k]? = some w) : w ∈ wp_c_take := List.mem_of_getElem? h
set_option maxHeartbeats 4000000 in
set_option maxRecDepth 100000 in
theorem c_take (l : Launch) (dC : Nat → ClassId) (dI : Nat → Nat → Nat) (h tk tp tn tu tl tb ts tf tz tx th tw : Nat) (ln ft pl nt : Int32) (nw tt : Nat) (kI : ClassId) (fk : Nat → Int32) (wd : Int32) (sz : Nat) (hn : nw < tt) (htt : tt ≤ 3001) (hk : fk (tt - 1) = 0) : Met l yX9_take wp_c_take ({ frames := 0, cells := 0, slots := 0, locals := 0 }) (va_Pc [.ref h, .int wd] (fun U => U.heap.size = sz ∧ va_P (dC, dI) vwCl [(h, .inr (9, [.ref tk, .ref tp, .ref tn, .ref tu, .ref tl, .int ln, .int (nI nw), .int ft, .int pl, .int nt, .ref tb, .int (nI tt), .ref ts, .ref tf, .ref tz, .ref tx, .ref th, .ref tw])), (tk, .inl (kI, 3002, .inl fk))] U.heap ∧ va_K (dC, dI) vwCl [(kI, .int)] U ∧ va_D (fun _ => True) [(h, .inr (9, [.ref tk, .ref tp, .ref tn, .ref tu, .ref tl, .int ln, .int (nI nw), .int ft, .int pl, .int nt, .ref tb, .int (nI tt), .ref ts, .ref tf, .ref tz, .ref tx, .ref th, .ref tw])), (tk, .inl (kI, 3002, .inl fk))])) (va_Qi (fun (r : Int32) (nw2 : Nat) => (r = 1 ∧ nw2 = nw + 1 ∧ nw2 < tt ∧ fk nw = wd ∧ wd ≠ 0) ∨ (r = 0 ∧ nw2 = nw ∧ (fk nw ≠ wd ∨ wd = 0))) (fun (nw2 : Nat) (tS : State) => va_P (dC, dI) vwCl [(h, .inr (9, [.ref tk, .ref tp, .ref tn, .ref tu, .ref tl, .int ln, .int (nI nw2), .int ft, .int pl, .int nt, .ref tb, .int (nI tt), .ref ts, .ref tf, .ref tz, .ref tx, .ref th, .ref tw])), (tk, .inl (kI, 3002, .inl fk))] tS.heap ∧ va_K (dC, dI) vwCl [(kI, .int)] tS ∧ va_D (va_A [(h, .inr (9, [.ref tk, .ref tp, .ref tn, .ref tu, .ref tl, .int ln, .int (nI nw), .int ft, .int pl, .int nt, .ref tb, .int (nI tt), .ref ts, .ref tf, .ref tz, .ref tx, .ref th, .ref tw])), (tk, .inl (kI, 3002, .inl fk))] sz) [(h, .inr (9, [.ref tk, .ref tp, .ref tn, .ref tu, .ref tl, .int ln, .int (nI nw2), .int ft, .int pl, .int nt, .ref tb, .int (nI tt), .ref ts, .ref tf, .ref tz, .ref tx, .ref th, .ref tw])), (tk, .inl (kI, 3002, .inl fk))]) (va_A [(h, .inr (9, [.ref tk, .ref tp, .ref tn, .ref tu, .ref tl, .int ln, .int (nI nw), .int ft, .int pl, .int nt, .ref tb, .int (nI tt), .ref ts, .ref tf, .ref tz, .ref tx, .ref th, .ref tw])), (tk, .inl (kI, 3002, .inl fk))] sz)) 0 0 (va_A [(h, .inr (9, [.ref tk, .ref tp, .ref tn, .ref tu, .ref tl, .int ln, .int (nI nw), .int ft, .int pl, .int nt, .ref tb, .int (nI tt), .ref ts, .ref tf, .ref tz, .ref tx, .ref th, .ref tw])), (tk, .inl (kI, 3002, .inl fk))] sz) := by
  refine Met.ofW (cc := cX9_take) (maxL := 2) (ret := (some .boolean)) (by decide) rfl ?_
  intro p e s m args below meth c s₁ B hml hv
  obtain ⟨rfl, hsz, hP, hK, hD0⟩ := hv
  have hx := B.exec
  have hb := B.bytes
  have hr := B.returns
  have hts := atoms_spec (ws := wp_c_take) B.pre
  have hown : s.vm.findClass RX9 = some m.cls := findClass_of_methodNamed B.named
  have hlocks := B.notSynchronized
  subst hsz
  have hD := hD0.self (sz := s.heap.size)
  generalize hAe : va_A [(h, .inr (9, [.ref tk, .ref tp, .ref tn, .ref tu, .ref tl, .int ln, .int (nI nw), .int ft, .int pl, .int nt, .ref tb, .int (nI tt), .ref ts, .ref tf, .ref tz, .ref tx, .ref th, .ref tw])), (tk, .inl (kI, 3002, .inl fk))] s.heap.size = A at hD ⊢
  have hA : ∀ q : Nat, s.heap.size ≤ q → A q := fun q h => by rw [← hAe]; exact Or.inr h
  have hS : va_S A s.heap s.heap [] := va_S.rf
  have hP : va_P (dC, dI) vwCl [(h, .inr (9, [.ref tk, .ref tp, .ref tn, .ref tu, .ref tl, .int ln, .int (nI nw), .int ft, .int pl, .int nt, .ref tb, .int (nI tt), .ref ts, .ref tf, .ref tz, .ref tx, .ref th, .ref tw])), (tk, .inl (kI, 3002, .inl fk))] s.heap := hP
  have hl := lv_entry ([.ref h, .int wd]) (n := 2) (Nat.le_of_ble_eq_true rfl)
  rw [lg_entry_eq]
  generalize (lg_sl ([.ref h, .int wd]) ++ List.replicate (2 - (lg_sl ([.ref h, .int wd])).length) Slot.unset).toArray = ls at hl ⊢
  have hl : lv_has ls 2 [(0, .ref h), (1, .int wd)] := hl
  refine lv_aload_n hx hb dX9_take_0 rfl (lv_at hl 0 rfl) ?_
  refine va_get (D := (dC, dI)) (ci := 9) (v := .ref tk) (C := RX9) (T := TX9) (N := 18) hx hb hts in_c_take_X9 hown hK hP 0 rfl rfl 0 (by decide) (hts (.fieldLink RX9 9 "OwnedPlaces$Text" "kinds" "[I") (wm_c_take 1 rfl)) (fun _ h9 => h9) rfl dX9_take_1 ?_
  refine lv_aload_n hx hb dX9_take_4 rfl (lv_at hl 0 rfl) ?_
  refine va_get (D := (dC, dI)) (ci := 9) (v := .int (nI nw)) (C := RX9) (T := TX9) (N := 18) hx hb hts in_c_take_X9 hown hK hP 0 rfl rfl 6 (by decide) (hts (.fieldLink RX9 106 "OwnedPlaces$Text" "now" "I") (wm_c_take 2 rfl)) (fun _ h9 => h9) rfl dX9_take_5 ?_
  refine va_iald hx hb hK hP 1 0 rfl rfl (vp_in_nI (by omega) (by decide)) dX9_take_8 ?_
  refine lv_topi (fun v_1 ev_1 => ?_)
  have hv : v_1 = fk nw := ev_1.trans (by rw [nI_clamp (by omega)])
  refine lv_iload_n hx hb dX9_take_9 rfl (lv_at hl 1 rfl) ?_
  refine lv_icmp_ne (tgt := 17) hx hb dX9_take_10 (by decide) (fun hc => ?_) (fun hc => ?_)
  · refine lv_iconst (v := 0) hx hb dX9_take_17 (by decide) ?_
    have hP9 := hP.sub (ws' := [(h, .inr (9, [.ref tk, .ref tp, .ref tn, .ref tu, .ref tl, .int ln, .int (nI nw), .int ft, .int pl, .int nt, .ref tb, .int (nI tt), .ref ts, .ref tf, .ref tz, .ref tx, .ref th, .ref tw])), (tk, .inl (kI, 3002, .inl fk))]) [0, 1] rfl
    have hD9 := hD.sub (ws' := [(h, .inr (9, [.ref tk, .ref tp, .ref tn, .ref tu, .ref tl, .int ln, .int (nI nw), .int ft, .int pl, .int nt, .ref tb, .int (nI tt), .ref ts, .ref tf, .ref tz, .ref tx, .ref th, .ref tw])), (tk, .inl (kI, 3002, .inl fk))]) [0, 1] (by decide) rfl
    have hK9 := hK.sub (tys' := [(kI, .int)]) [0] rfl
    exact W.zret (v := 0) hx hb hr (by decide) (fun tS ht hW => ⟨⟨0, nw, rfl, (Or.inr ⟨rfl, rfl, Or.inl (fun h => hc (hv.trans h))⟩), by rw [ht]; exact hP9, va_K.moved hW.alike hK9, hD9⟩, hS.F ht⟩) hS.2.2 dX9_take_18
  · refine lv_iload_n hx hb dX9_take_13 rfl (lv_at hl 1 rfl) ?_
    refine lv_if_ne (tgt := 19) hx hb dX9_take_14 (by decide) (fun hd => ?_) (fun hd => ?_)
    · have hn2 : nw + 1 < tt := by rcases Nat.lt_or_ge (nw + 1) tt with q | q; exact q; exact absurd (hc.symm.trans (hv.trans (by rw [show nw = tt - 1 by omega]; exact hk))) hd
      refine lv_aload_n hx hb dX9_take_19 rfl (lv_at hl 0 rfl) ?_
      refine lv_dup hx hb dX9_take_20 rfl ?_
      refine va_get (D := (dC, dI)) (ci := 9) (v := .int (nI nw)) (C := RX9) (T := TX9) (N := 18) hx hb hts in_c_take_X9 hown hK hP 0 rfl rfl 6 (by decide) (hts (.fieldLink RX9 106 "OwnedPlaces$Text" "now" "I") (wm_c_take 2 rfl)) (fun _ h9 => h9) rfl dX9_take_21 ?_
      refine lv_iconst (v := 1) hx hb dX9_take_24 (by decide) ?_
      refine lv_iadd hx hb dX9_take_25 ?_
      refine lv_topi (fun f_2 ef_2 => ?_)
      obtain rfl : f_2 = nI (nw + 1) := ef_2.trans (nI_1 _)
      refine va_put (D := (dC, dI)) (ci := 9) (v := .int (nI (nw + 1))) (ty := .int) (C := RX9) (T := TX9) (N := 18) hx hb hts in_c_take_X9 tyX9 tyX9_ok nmX9 hown hK hP hD hS 0 rfl rfl 6 (by decide) (hts (.fieldLink RX9 106 "OwnedPlaces$Text" "now" "I") (wm_c_take 2 rfl)) (fun _ h9 => h9) rfl (by decide +kernel) rfl rfl (Nat.le_of_ble_eq_true rfl) dX9_take_26 (fun H locs hP hD hS => ?_)
      have hP : va_P (dC, dI) vwCl [(h, .inr (9, [.ref tk, .ref tp, .ref tn, .ref tu, .ref tl, .int ln, .int (nI (nw + 1)), .int ft, .int pl, .int nt, .ref tb, .int (nI tt), .ref ts, .ref tf, .ref tz, .ref tx, .ref th, .ref tw])), (tk, .inl (kI, 3002, .inl fk))] H := hP
      have hD : va_D A [(h, .inr (9, [.ref tk, .ref tp, .ref tn, .ref tu, .ref tl, .int ln, .int (nI (nw + 1)), .int ft, .int pl, .int nt, .ref tb, .int (nI tt), .ref ts, .ref tf, .ref tz, .ref tx, .ref th, .ref tw])), (tk, .inl (kI, 3002, .inl fk))] := hD
      refine lv_iconst (v := 1) hx hb dX9_take_29 (by decide) ?_
      have hP9 := hP.sub (ws' := [(h, .inr (9, [.ref tk, .ref tp, .ref tn, .ref tu, .ref tl, .int ln, .int (nI (nw + 1)), .int ft, .int pl, .int nt, .ref tb, .int (nI tt), .ref ts, .ref tf, .ref tz, .ref tx, .ref th, .ref tw])), (tk, .inl (kI, 3002, .inl fk))]) [0, 1] rfl
      have hD9 := hD.sub (ws' := [(h, .inr (9, [.ref tk, .ref tp, .ref tn, .ref tu, .ref tl, .int ln, .int (nI (nw + 1)), .int ft, .int pl, .int nt, .ref tb, .int (nI tt), .ref ts, .ref tf, .ref tz, .ref tx, .ref th, .ref tw])), (tk, .inl (kI, 3002, .inl fk))]) [0, 1] (by decide) rfl
      have hK9 := hK.sub (tys' := [(kI, .int)]) [0] rfl
      exact W.zret (v := 1) hx hb hr (by decide) (fun tS ht hW => ⟨⟨1, (nw + 1), rfl, (Or.inl ⟨rfl, rfl, hn2, hv.symm.trans hc, hd⟩), by rw [ht]; exact hP9, va_K.moved hW.alike hK9, hD9⟩, hS.F ht⟩) hS.2.2 dX9_take_30
    · refine lv_iconst (v := 0) hx hb dX9_take_17 (by decide) ?_
      have hP9 := hP.sub (ws' := [(h, .inr (9, [.ref tk, .ref tp, .ref tn, .ref tu, .ref tl, .int ln, .int (nI nw), .int ft, .int pl, .int nt, .ref tb, .int (nI tt), .ref ts, .ref tf, .ref tz, .ref tx, .ref th, .ref tw])), (tk, .inl (kI, 3002, .inl fk))]) [0, 1] rfl
      have hD9 := hD.sub (ws' := [(h, .inr (9, [.ref tk, .ref tp, .ref tn, .ref tu, .ref tl, .int ln, .int (nI nw), .int ft, .int pl, .int nt, .ref tb, .int (nI tt), .ref ts, .ref tf, .ref tz, .ref tx, .ref th, .ref tw])), (tk, .inl (kI, 3002, .inl fk))]) [0, 1] (by decide) rfl
      have hK9 := hK.sub (tys' := [(kI, .int)]) [0] rfl
      exact W.zret (v := 0) hx hb hr (by decide) (fun tS ht hW => ⟨⟨0, nw, rfl, (Or.inr ⟨rfl, rfl, Or.inr hd⟩), by rw [ht]; exact hP9, va_K.moved hW.alike hK9, hD9⟩, hS.F ht⟩) hS.2.2 dX9_take_18
def wf_c_need : List Cond := [.code yX9_need cX9_need 2 none, .fieldLink RX9 9 "OwnedPlaces$Text" "kinds" "[I", .fieldLink RX9 106 "OwnedPlaces$Text" "now" "I", .fieldLink RX9 15 "OwnedPlaces$Text" "places" "[I", .code yX9_fail cX9_fail 3 none, .fieldLink RX9 95 "OwnedPlaces$Text" "fault" "I", .fieldLink RX9 92 "OwnedPlaces$Text" "total" "I", .fieldLink RX9 28 "OwnedPlaces$Text" "place" "I", .methodLink RX9 114 yX9_fail, .instanceMethod yX9_fail, .selects RX9 yX9_fail yX9_fail, .initialized RX9]
def wp_c_need : List Cond := wf_c_need ++ (wsX90 ++ [])
theorem in_c_need_X9 : ∀ w ∈ wsX90, w ∈ wp_c_need := fun w h => List.mem_append_right _ (List.mem_append_left _ h)
theorem wg_c_need : wf_c_need.all goodWord = true := by decide +kernel
theorem wm_c_need (k : Nat) {w : Cond} (h : wp_c_need[k]? = some w) : w ∈ wp_c_need := List.mem_of_getElem? h
set_option maxRecDepth 20000 in
theorem g_c_need_c_fail_41 : GoodIn wp_c_need (wsV RX9 114 RX9 yX9_fail wp_c_fail) := goodIn_app (goodIn_f [.methodLink RX9 114 yX9_fail, .instanceMethod yX9_fail, .selects RX9 yX9_fail yX9_fail, .initialized RX9] [8, 9, 10, 11] rfl (by decide +kernel)) (goodIn_app (goodIn_f (wf_c_fail) [4, 5, 6, 2, 7] rfl wg_c_fail) (goodIn_app (goodIn_sub in_c_need_X9 gd_X9) (goodIn_n)))
set_option maxHeartbeats 4000000 in
set_option maxRecDepth 100000 in
theorem c_need (l : Launch) (dC : Nat → ClassId) (dI : Nat → Nat → Nat) (h tk tp tn tu tl tb ts tf tz tx th tw : Nat) (ln ft pl nt : Int32) (nw tt : Nat) (kI : ClassId) (fk fp : Nat → Int32) (wd : Int32) (sz : Nat) (hn : nw < tt) (htt : tt ≤ 3001) (hk : fk (tt - 1) = 0) : Met l yX9_need wp_c_need ({ frames := 1, cells := 0, slots := 0, locals := 22 }) (va_Pc [.ref h, .int wd] (fun U => U.heap.size = sz ∧ va_P (dC, dI) vwCl [(h, .inr (9, [.ref tk, .ref tp, .ref tn, .ref tu, .ref tl, .int ln, .int (nI nw), .int ft, .int pl, .int nt, .ref tb, .int (nI tt), .ref ts, .ref tf, .ref tz, .ref tx, .ref th, .ref tw])), (tk, .inl (kI, 3002, .inl fk)), (tp, .inl (kI, 3002, .inl fp))] U.heap ∧ va_K (dC, dI) vwCl [(kI, .int)] U ∧ va_D (fun _ => True) [(h, .inr (9, [.ref tk, .ref tp, .ref tn, .ref tu, .ref tl, .int ln, .int (nI nw), .int ft, .int pl, .int nt, .ref tb, .int (nI tt), .ref ts, .ref tf, .ref tz, .ref tx, .ref th, .ref tw])), (tk, .inl (kI, 3002, .inl fk)), (tp, .inl (kI, 3002, .inl fp))])) (va_Qv (fun _ : Unit => True) (fun (_ : Unit) (tS : State) => ∃ (nw2 : Nat) (ft2 : Int32) (pl2 : Int32), ((nw2 = nw + 1 ∧ nw2 < tt ∧ fk nw = wd ∧ ft2 = ft ∧ pl2 = pl) ∨ (nw2 = tt - 1 ∧ ft2 ≠ 0)) ∧ va_P (dC, dI) vwCl [(h, .inr (9, [.ref tk, .ref tp, .ref tn, .ref tu, .ref tl, .int ln, .int (nI nw2), .int ft2, .int pl2, .int nt, .ref tb, .int (nI tt), .ref ts, .ref tf, .ref tz, .ref tx, .ref th, .ref tw])), (tk, .inl (kI, 3002, .inl fk)), (tp, .inl (kI, 3002, .inl fp))] tS.heap ∧ va_K (dC, dI) vwCl [(kI, .int)] tS ∧ va_D (va_A [(h, .inr (9, [.ref tk, .ref tp, .ref tn, .ref tu, .ref tl, .int ln, .int (nI nw), .int ft, .int pl, .int nt, .ref tb, .int (nI tt), .ref ts, .ref tf, .ref tz, .ref tx, .ref th, .ref tw])), (tk, .inl (kI, 3002, .inl fk)), (tp, .inl (kI, 3002, .inl fp))] sz) [(h, .inr (9, [.ref tk, .ref tp, .ref tn, .ref tu, .ref tl, .int ln, .int (nI nw2), .int ft2, .int pl2, .int nt, .ref tb, .int (nI tt), .ref ts, .ref tf, .ref tz, .ref tx, .ref th, .ref tw])), (tk, .inl (kI, 3002, .inl fk)), (tp, .inl (kI, 3002, .inl fp))]) (va_A [(h, .inr (9, [.ref tk, .ref tp, .ref tn, .ref tu, .ref tl, .int ln, .int (nI nw), .int ft, .int pl, .int nt, .ref tb, .int (nI tt), .ref ts, .ref tf, .ref tz, .ref tx, .ref th, .ref tw])), (tk, .inl (kI, 3002, .inl fk)), (tp, .inl (kI, 3002, .inl fp))] sz)) 0 0 (va_A [(h, .inr (9, [.ref tk, .ref tp, .ref tn, .ref tu, .ref tl, .int ln, .int (nI nw), .int ft, .int pl, .int nt, .ref tb, .int (nI tt), .ref ts, .ref tf, .ref tz, .ref tx, .ref th, .ref tw])), (tk, .inl (kI, 3002, .inl fk)), (tp, .inl (kI, 3002, .inl fp))] sz) := by
  refine Met.ofW (cc := cX9_need) (maxL := 2) (ret := none) (by decide) rfl ?_
  intro p e s m args below meth c s₁ B hml hv
  obtain ⟨rfl, hsz, hP, hK, hD0⟩ := hv
  have hx := B.exec
  have hb := B.bytes
  have hr := B.returns
  have hts := atoms_spec (ws := wp_c_need) B.pre
  have hown : s.vm.findClass RX9 = some m.cls := findClass_of_methodNamed B.named
  have hlocks := B.notSynchronized
  subst hsz
  have hD := hD0.self (sz := s.heap.size)
  generalize hAe : va_A [(h, .inr (9, [.ref tk, .ref tp, .ref tn, .ref tu, .ref tl, .int ln, .int (nI nw), .int ft, .int pl, .int nt, .ref tb, .int (nI tt), .ref ts, .ref tf, .ref tz, .ref tx, .ref th, .ref tw])), (tk, .inl (kI, 3002, .inl fk)), (tp, .inl (kI, 3002, .inl fp))] s.heap.size = A at hD ⊢
  have hA : ∀ q : Nat, s.heap.size ≤ q → A q := fun q h => by rw [← hAe]; exact Or.inr h
  have hS : va_S A s.heap s.heap [] := va_S.rf
  have hP : va_P (dC, dI) vwCl [(h, .inr (9, [.ref tk, .ref tp, .ref tn, .ref tu, .ref tl, .int ln, .int (nI nw), .int ft, .int pl, .int nt, .ref tb, .int (nI tt), .ref ts, .ref tf, .ref tz, .ref tx, .ref th, .ref tw])), (tk, .inl (kI, 3002, .inl fk)), (tp, .inl (kI, 3002, .inl fp))] s.heap := hP
  have hl := lv_entry ([.ref h, .int wd]) (n := 2) (Nat.le_of_ble_eq_true rfl)
  rw [lg_entry_eq]
  generalize (lg_sl ([.ref h, .int wd]) ++ List.replicate (2 - (lg_sl ([.ref h, .int wd])).length) Slot.unset).toArray = ls at hl ⊢
  have hl : lv_has ls 2 [(0, .ref h), (1, .int wd)] := hl
  refine lv_aload_n hx hb dX9_need_0 rfl (lv_at hl 0 rfl) ?_
  refine va_get (D := (dC, dI)) (ci := 9) (v := .ref tk) (C := RX9) (T := TX9) (N := 18) hx hb hts in_c_need_X9 hown hK hP 0 rfl rfl 0 (by decide) (hts (.fieldLink RX9 9 "OwnedPlaces$Text" "kinds" "[I") (wm_c_need 1 rfl)) (fun _ h9 => h9) rfl dX9_need_1 ?_
  refine lv_aload_n hx hb dX9_need_4 rfl (lv_at hl 0 rfl) ?_
  refine va_get (D := (dC, dI)) (ci := 9) (v := .int (nI nw)) (C := RX9) (T := TX9) (N := 18) hx hb hts in_c_need_X9 hown hK hP 0 rfl rfl 6 (by decide) (hts (.fieldLink RX9 106 "OwnedPlaces$Text" "now" "I") (wm_c_need 2 rfl)) (fun _ h9 => h9) rfl dX9_need_5 ?_
  refine va_iald hx hb hK hP 1 0 rfl rfl (vp_in_nI (by omega) (by decide)) dX9_need_8 ?_
  refine lv_topi (fun v_1 ev_1 => ?_)
  have hv : v_1 = fk nw := ev_1.trans (by rw [nI_clamp (by omega)])
  refine lv_iload_n hx hb dX9_need_9 rfl (lv_at hl 1 rfl) ?_
  refine lv_icmp_ne (tgt := 30) hx hb dX9_need_10 (by decide) (fun hc => ?_) (fun hc => ?_)
  · refine lv_aload_n hx hb dX9_need_30 rfl (lv_at hl 0 rfl) ?_
    refine lv_iconst (v := 1) hx hb dX9_need_31 (by decide) ?_
    refine lv_aload_n hx hb dX9_need_32 rfl (lv_at hl 0 rfl) ?_
    refine va_get (D := (dC, dI)) (ci := 9) (v := .ref tp) (C := RX9) (T := TX9) (N := 18) hx hb hts in_c_need_X9 hown hK hP 0 rfl rfl 1 (by decide) (hts (.fieldLink RX9 15 "OwnedPlaces$Text" "places" "[I") (wm_c_need 3 rfl)) (fun _ h9 => h9) rfl dX9_need_33 ?_
    refine lv_aload_n hx hb dX9_need_36 rfl (lv_at hl 0 rfl) ?_
    refine va_get (D := (dC, dI)) (ci := 9) (v := .int (nI nw)) (C := RX9) (T := TX9) (N := 18) hx hb hts in_c_need_X9 hown hK hP 0 rfl rfl 6 (by decide) (hts (.fieldLink RX9 106 "OwnedPlaces$Text" "now" "I") (wm_c_need 2 rfl)) (fun _ h9 => h9) rfl dX9_need_37 ?_
    refine va_iald hx hb hK hP 2 0 rfl rfl (vp_in_nI (by omega) (by decide)) dX9_need_40 ?_
    refine lv_topi (fun v_2 ev_2 => ?_)
    have hPc := hP.sub (ws' := [(h, .inr (9, [.ref tk, .ref tp, .ref tn, .ref tu, .ref tl, .int ln, .int (nI nw), .int ft, .int pl, .int nt, .ref tb, .int (nI tt), .ref ts, .ref tf, .ref tz, .ref tx, .ref th, .ref tw]))]) [0] rfl
    have hDc := hD.sub (ws' := [(h, .inr (9, [.ref tk, .ref tp, .ref tn, .ref tu, .ref tl, .int ln, .int (nI nw), .int ft, .int pl, .int nt, .ref tb, .int (nI tt), .ref ts, .ref tf, .ref tz, .ref tx, .ref th, .ref tw]))]) [0] (by decide) rfl
    have hKc := hK.sub (tys' := []) [] rfl
    have hFc := va_free (wc := [(h, .inr (9, [.ref tk, .ref tp, .ref tn, .ref tu, .ref tl, .int ln, .int (nI nw), .int ft, .int pl, .int nt, .ref tb, .int (nI tt), .ref ts, .ref tf, .ref tz, .ref tx, .ref th, .ref tw]))]) hD hS hA [0] rfl
    refine va_callv (va_runV (As := [.int 1, .int v_2]) (rest := []) ⟨hx, hb, hml, hown, hts⟩ (c_fail l dC dI h tk tp tn tu tl tb ts tf tz tx th tw ln ft pl nt nw tt 1 v_2 s.heap.size hn htt) (cwV 2 hts g_c_need_c_fail_41 rfl rfl rfl (by decide +kernel) ⟨Nat.le_of_ble_eq_true rfl, Nat.le_of_ble_eq_true rfl⟩) ⟨fun a U g mk q => by obtain ⟨q0, q1, qP, qK, qD⟩ := q; exact ⟨q0, q1, qP, va_K.moved (u := U) (U := U.calling g mk a) (Vm.Alike.refl U.vm) qK, qD⟩, va_recv hKc hPc (ci := 9) (q0 := 0) rfl rfl, fun U hU hW => ⟨rfl, by rw [hU], by rw [hU]; exact hPc, va_K.moved hW.alike hKc, hDc.weaken (fun _ _ _ _ => trivial)⟩⟩ rfl rfl hl.1 rfl (lv_room (Nat.le_of_ble_eq_true rfl)) dX9_need_41 ⟨(show 0 + 0 ≤ 0 by omega), (show 0 + 0 ≤ 0 by omega)⟩) hS (fun q _ h => hFc q h) hFc (fun u tS H1 locs ht hvm hw hB hz1 hk1 hS => ?_)
    obtain ⟨ft9, pl9, hf3_0, hP1, hK1, hD1⟩ := hB
    rw [ht] at hP1
    have hK1 := va_K.moved hvm.symm hK1
    obtain ⟨hP, hD⟩ := va_join (wr := [(tk, .inl (kI, 3002, .inl fk)), (tp, .inl (kI, 3002, .inl fp))]) (w1 := [(h, .inr (9, [.ref tk, .ref tp, .ref tn, .ref tu, .ref tl, .int ln, .int (nI (tt - 1)), .int ft9, .int pl9, .int nt, .ref tb, .int (nI tt), .ref ts, .ref tf, .ref tz, .ref tx, .ref th, .ref tw]))]) hP hD [0] [1, 2] rfl rfl (by decide) (by decide) hk1 hFc hP1 hD1
    generalize H1 = H at hP hS ⊢
    have hP : va_P (dC, dI) vwCl [(tk, .inl (kI, 3002, .inl fk)), (tp, .inl (kI, 3002, .inl fp)), (h, .inr (9, [.ref tk, .ref tp, .ref tn, .ref tu, .ref tl, .int ln, .int (nI (tt - 1)), .int ft9, .int pl9, .int nt, .ref tb, .int (nI tt), .ref ts, .ref tf, .ref tz, .ref tx, .ref th, .ref tw]))] H := hP
    have hD : va_D A [(tk, .inl (kI, 3002, .inl fk)), (tp, .inl (kI, 3002, .inl fp)), (h, .inr (9, [.ref tk, .ref tp, .ref tn, .ref tu, .ref tl, .int ln, .int (nI (tt - 1)), .int ft9, .int pl9, .int nt, .ref tb, .int (nI tt), .ref ts, .ref tf, .ref tz, .ref tx, .ref th, .ref tw]))] := hD
    have hK : va_K (dC, dI) vwCl [(kI, .int)] s := hK
    have hP9 := hP.sub (ws' := [(h, .inr (9, [.ref tk, .ref tp, .ref tn, .ref tu, .ref tl, .int ln, .int (nI (tt - 1)), .int ft9, .int pl9, .int nt, .ref tb, .int (nI tt), .ref ts, .ref tf, .ref tz, .ref tx, .ref th, .ref tw])), (tk, .inl (kI, 3002, .inl fk)), (tp, .inl (kI, 3002, .inl fp))]) [2, 0, 1] rfl
    have hD9 := hD.sub (ws' := [(h, .inr (9, [.ref tk, .ref tp, .ref tn, .ref tu, .ref tl, .int ln, .int (nI (tt - 1)), .int ft9, .int pl9, .int nt, .ref tb, .int (nI tt), .ref ts, .ref tf, .ref tz, .ref tx, .ref th, .ref tw])), (tk, .inl (kI, 3002, .inl fk)), (tp, .inl (kI, 3002, .inl fp))]) [2, 0, 1] (by decide) rfl
    have hK9 := hK.sub (tys' := [(kI, .int)]) [0] rfl
    exact W.vret hx hb hr (fun tS ht hW => ⟨⟨(), rfl, trivial, tt - 1, ft9, pl9, Or.inr ⟨rfl, by rcases Classical.em (ft = 0) with q | q; rw [(hf3_0.1 q).1]; decide; rw [(hf3_0.2 q).1]; exact q⟩, by rw [ht]; exact hP9, va_K.moved hW.alike hK9, hD9⟩, hS.F ht⟩) hS.2.2 dX9_need_44
  · refine lv_iload_n hx hb dX9_need_13 rfl (lv_at hl 1 rfl) ?_
    refine lv_if_eq (tgt := 30) hx hb dX9_need_14 (by decide) (fun hd => ?_) (fun hd => ?_)
    · refine lv_aload_n hx hb dX9_need_30 rfl (lv_at hl 0 rfl) ?_
      refine lv_iconst (v := 1) hx hb dX9_need_31 (by decide) ?_
      refine lv_aload_n hx hb dX9_need_32 rfl (lv_at hl 0 rfl) ?_
      refine va_get (D := (dC, dI)) (ci := 9) (v := .ref tp) (C := RX9) (T := TX9) (N := 18) hx hb hts in_c_need_X9 hown hK hP 0 rfl rfl 1 (by decide) (hts (.fieldLink RX9 15 "OwnedPlaces$Text" "places" "[I") (wm_c_need 3 rfl)) (fun _ h9 => h9) rfl dX9_need_33 ?_
      refine lv_aload_n hx hb dX9_need_36 rfl (lv_at hl 0 rfl) ?_
      refine va_get (D := (dC, dI)) (ci := 9) (v := .int (nI nw)) (C := RX9) (T := TX9) (N := 18) hx hb hts in_c_need_X9 hown hK hP 0 rfl rfl 6 (by decide) (hts (.fieldLink RX9 106 "OwnedPlaces$Text" "now" "I") (wm_c_need 2 rfl)) (fun _ h9 => h9) rfl dX9_need_37 ?_
      refine va_iald hx hb hK hP 2 0 rfl rfl (vp_in_nI (by omega) (by decide)) dX9_need_40 ?_
      refine lv_topi (fun v_2 ev_2 => ?_)
      have hPc := hP.sub (ws' := [(h, .inr (9, [.ref tk, .ref tp, .ref tn, .ref tu, .ref tl, .int ln, .int (nI nw), .int ft, .int pl, .int nt, .ref tb, .int (nI tt), .ref ts, .ref tf, .ref tz, .ref tx, .ref th, .ref tw]))]) [0] rfl
      have hDc := hD.sub (ws' := [(h, .inr (9, [.ref tk, .ref tp, .ref tn, .ref tu, .ref tl, .int ln, .int (nI nw), .int ft, .int pl, .int nt, .ref tb, .int (nI tt), .ref ts, .ref tf, .ref tz, .ref tx, .ref th, .ref tw]))]) [0] (by decide) rfl
      have hKc := hK.sub (tys' := []) [] rfl
      have hFc := va_free (wc := [(h, .inr (9, [.ref tk, .ref tp, .ref tn, .ref tu, .ref tl, .int ln, .int (nI nw), .int ft, .int pl, .int nt, .ref tb, .int (nI tt), .ref ts, .ref tf, .ref tz, .ref tx, .ref th, .ref tw]))]) hD hS hA [0] rfl
      refine va_callv (va_runV (As := [.int 1, .int v_2]) (rest := []) ⟨hx, hb, hml, hown, hts⟩ (c_fail l dC dI h tk tp tn tu tl tb ts tf tz tx th tw ln ft pl nt nw tt 1 v_2 s.heap.size hn htt) (cwV 2 hts g_c_need_c_fail_41 rfl rfl rfl (by decide +kernel) ⟨Nat.le_of_ble_eq_true rfl, Nat.le_of_ble_eq_true rfl⟩) ⟨fun a U g mk q => by obtain ⟨q0, q1, qP, qK, qD⟩ := q; exact ⟨q0, q1, qP, va_K.moved (u := U) (U := U.calling g mk a) (Vm.Alike.refl U.vm) qK, qD⟩, va_recv hKc hPc (ci := 9) (q0 := 0) rfl rfl, fun U hU hW => ⟨rfl, by rw [hU], by rw [hU]; exact hPc, va_K.moved hW.alike hKc, hDc.weaken (fun _ _ _ _ => trivial)⟩⟩ rfl rfl hl.1 rfl (lv_room (Nat.le_of_ble_eq_true rfl)) dX9_need_41 ⟨(show 0 + 0 ≤ 0 by omega), (show 0 + 0 ≤ 0 by omega)⟩) hS (fun q _ h => hFc q h) hFc (fun u tS H1 locs ht hvm hw hB hz1 hk1 hS => ?_)
      obtain ⟨ft9, pl9, hf3_0, hP1, hK1, hD1⟩ := hB
      rw [ht] at hP1
      have hK1 := va_K.moved hvm.symm hK1
      obtain ⟨hP, hD⟩ := va_join (wr := [(tk, .inl (kI, 3002, .inl fk)), (tp, .inl (kI, 3002, .inl fp))]) (w1 := [(h, .inr (9, [.ref tk, .ref tp, .ref tn, .ref tu, .ref tl, .int ln, .int (nI (tt - 1)), .int ft9, .int pl9, .int nt, .ref tb, .int (nI tt), .ref ts, .ref tf, .ref tz, .ref tx, .ref th, .ref tw]))]) hP hD [0] [1, 2] rfl rfl (by decide) (by decide) hk1 hFc hP1 hD1
      generalize H1 = H at hP hS ⊢
      have hP : va_P (dC, dI) vwCl [(tk, .inl (kI, 3002, .inl fk)), (tp, .inl (kI, 3002, .inl fp)), (h, .inr (9, [.ref tk, .ref tp, .ref tn, .ref tu, .ref tl, .int ln, .int (nI (tt - 1)), .int ft9, .int pl9, .int nt, .ref tb, .int (nI tt), .ref ts, .ref tf, .ref tz, .ref tx, .ref th, .ref tw]))] H := hP
      have hD : va_D A [(tk, .inl (kI, 3002, .inl fk)), (tp, .inl (kI, 3002, .inl fp)), (h, .inr (9, [.ref tk, .ref tp, .ref tn, .ref tu, .ref tl, .int ln, .int (nI (tt - 1)), .int ft9, .int pl9, .int nt, .ref tb, .int (nI tt), .ref ts, .ref tf, .ref tz, .ref tx, .ref th, .ref tw]))] := hD
      have hK : va_K (dC, dI) vwCl [(kI, .int)] s := hK
      have hP9 := hP.sub (ws' := [(h, .inr (9, [.ref tk, .ref tp, .ref tn, .ref tu, .ref tl, .int ln, .int (nI (tt - 1)), .int ft9, .int pl9, .int nt, .ref tb, .int (nI tt), .ref ts, .ref tf, .ref tz, .ref tx, .ref th, .ref tw])), (tk, .inl (kI, 3002, .inl fk)), (tp, .inl (kI, 3002, .inl fp))]) [2, 0, 1] rfl
      have hD9 := hD.sub (ws' := [(h, .inr (9, [.ref tk, .ref tp, .ref tn, .ref tu, .ref tl, .int ln, .int (nI (tt - 1)), .int ft9, .int pl9, .int nt, .ref tb, .int (nI tt), .ref ts, .ref tf, .ref tz, .ref tx, .ref th, .ref tw])), (tk, .inl (kI, 3002, .inl fk)), (tp, .inl (kI, 3002, .inl fp))]) [2, 0, 1] (by decide) rfl
      have hK9 := hK.sub (tys' := [(kI, .int)]) [0] rfl
      exact W.vret hx hb hr (fun tS ht hW => ⟨⟨(), rfl, trivial, tt - 1, ft9, pl9, Or.inr ⟨rfl, by rcases Classical.em (ft = 0) with q | q; rw [(hf3_0.1 q).1]; decide; rw [(hf3_0.2 q).1]; exact q⟩, by rw [ht]; exact hP9, va_K.moved hW.alike hK9, hD9⟩, hS.F ht⟩) hS.2.2 dX9_need_44
    · have hn2 : nw + 1 < tt := by rcases Nat.lt_or_ge (nw + 1) tt with q | q; exact q; exact absurd (hc.symm.trans (hv.trans (by rw [show nw = tt - 1 by omega]; exact hk))) hd
      refine lv_aload_n hx hb dX9_need_17 rfl (lv_at hl 0 rfl) ?_
      refine lv_dup hx hb dX9_need_18 rfl ?_
      refine va_get (D := (dC, dI)) (ci := 9) (v := .int (nI nw)) (C := RX9) (T := TX9) (N := 18) hx hb hts in_c_need_X9 hown hK hP 0 rfl rfl 6 (by decide) (hts (.fieldLink RX9 106 "OwnedPlaces$Text" "now" "I") (wm_c_need 2 rfl)) (fun _ h9 => h9) rfl dX9_need_19 ?_
      refine lv_iconst (v := 1) hx hb dX9_need_22 (by decide) ?_
      refine lv_iadd hx hb dX9_need_23 ?_
      refine lv_topi (fun f_2 ef_2 => ?_)
      obtain rfl : f_2 = nI (nw + 1) := ef_2.trans (nI_1 _)
      refine va_put (D := (dC, dI)) (ci := 9) (v := .int (nI (nw + 1))) (ty := .int) (C := RX9) (T := TX9) (N := 18) hx hb hts in_c_need_X9 tyX9 tyX9_ok nmX9 hown hK hP hD hS 0 rfl rfl 6 (by decide) (hts (.fieldLink RX9 106 "OwnedPlaces$Text" "now" "I") (wm_c_need 2 rfl)) (fun _ h9 => h9) rfl (by decide +kernel) rfl rfl (Nat.le_of_ble_eq_true rfl) dX9_need_24 (fun H locs hP hD hS => ?_)
      have hP : va_P (dC, dI) vwCl [(h, .inr (9, [.ref tk, .ref tp, .ref tn, .ref tu, .ref tl, .int ln, .int (nI (nw + 1)), .int ft, .int pl, .int nt, .ref tb, .int (nI tt), .ref ts, .ref tf, .ref tz, .ref tx, .ref th, .ref tw])), (tk, .inl (kI, 3002, .inl fk)), (tp, .inl (kI, 3002, .inl fp))] H := hP
      have hD : va_D A [(h, .inr (9, [.ref tk, .ref tp, .ref tn, .ref tu, .ref tl, .int ln, .int (nI (nw + 1)), .int ft, .int pl, .int nt, .ref tb, .int (nI tt), .ref ts, .ref tf, .ref tz, .ref tx, .ref th, .ref tw])), (tk, .inl (kI, 3002, .inl fk)), (tp, .inl (kI, 3002, .inl fp))] := hD
      refine lv_goto (tgt := 44) hx hb dX9_need_27 (by decide) ?_
      have hP9 := hP.sub (ws' := [(h, .inr (9, [.ref tk, .ref tp, .ref tn, .ref tu, .ref tl, .int ln, .int (nI (nw + 1)), .int ft, .int pl, .int nt, .ref tb, .int (nI tt), .ref ts, .ref tf, .ref tz, .ref tx, .ref th, .ref tw])), (tk, .inl (kI, 3002, .inl fk)), (tp, .inl (kI, 3002, .inl fp))]) [0, 1, 2] rfl
      have hD9 := hD.sub (ws' := [(h, .inr (9, [.ref tk, .ref tp, .ref tn, .ref tu, .ref tl, .int ln, .int (nI (nw + 1)), .int ft, .int pl, .int nt, .ref tb, .int (nI tt), .ref ts, .ref tf, .ref tz, .ref tx, .ref th, .ref tw])), (tk, .inl (kI, 3002, .inl fk)), (tp, .inl (kI, 3002, .inl fp))]) [0, 1, 2] (by decide) rfl
      have hK9 := hK.sub (tys' := [(kI, .int)]) [0] rfl
      exact W.vret hx hb hr (fun tS ht hW => ⟨⟨(), rfl, trivial, nw + 1, ft, pl, Or.inl ⟨rfl, hn2, hv.symm.trans hc, rfl, rfl⟩, by rw [ht]; exact hP9, va_K.moved hW.alike hK9, hD9⟩, hS.F ht⟩) hS.2.2 dX9_need_44
