def wf_c_append : List Cond := [.code yX9_append cX9_append 3 none, .fieldLink RX9 32 "OwnedPlaces$Text" "bytes" "[B", .fieldLink RX9 81 "OwnedPlaces$Text" "length" "I"]
def wp_c_append : List Cond := wf_c_append ++ (wsX90 ++ [])
theorem in_c_append_X9 : ∀ w ∈ wsX90, w ∈ wp_c_append := fun w h => List.mem_append_right _ (List.mem_append_left _ h)
theorem wg_c_append : wf_c_append.all goodWord = true := by decide +kernel
theorem wm_c_append (k : Nat) {w : Cond} (h : wp_c_append[k]? = some w) : w ∈ wp_c_append := List.mem_of_getElem? h
set_option maxHeartbeats 4000000 in
set_option maxRecDepth 100000 in
theorem c_append (l : Launch) (dC : Nat → ClassId) (dI : Nat → Nat → Nat) (h tk tp tn tu tl tb ts tf tz tx th tw : Nat) (nt : Int32) (kB : ClassId) (L : Nat) (f : Nat → Int32) (four : Int32) (sz : Nat) (hL : L + 4 ≤ 3000) : Met l yX9_append wp_c_append ({ frames := 0, cells := 0, slots := 0, locals := 0 }) (va_Pc [.ref h, .int four] (fun U => U.heap.size = sz ∧ va_P (dC, dI) vwCl [(h, .inr (9, [.ref tk, .ref tp, .ref tn, .ref tu, .ref tl, .int (nI L), .int 0, .int 0, .int (-1), .int nt, .ref tb, .int 0, .ref ts, .ref tf, .ref tz, .ref tx, .ref th, .ref tw])), (tb, .inl (kB, 3000, .inl f))] U.heap ∧ va_K (dC, dI) vwCl [(kB, .byte)] U ∧ va_D (fun _ => True) [(h, .inr (9, [.ref tk, .ref tp, .ref tn, .ref tu, .ref tl, .int (nI L), .int 0, .int 0, .int (-1), .int nt, .ref tb, .int 0, .ref ts, .ref tf, .ref tz, .ref tx, .ref th, .ref tw])), (tb, .inl (kB, 3000, .inl f))])) (va_Qv (fun _ : Unit => True) (fun (_ : Unit) (tS : State) => ∃ (f9 : Nat → Int32), va_P (dC, dI) vwCl [(h, .inr (9, [.ref tk, .ref tp, .ref tn, .ref tu, .ref tl, .int (nI (L + 4)), .int 0, .int 0, .int (-1), .int nt, .ref tb, .int 0, .ref ts, .ref tf, .ref tz, .ref tx, .ref th, .ref tw])), (tb, .inl (kB, 3000, .inl f9))] tS.heap ∧ va_K (dC, dI) vwCl [(kB, .byte)] tS ∧ va_D (va_A [(h, .inr (9, [.ref tk, .ref tp, .ref tn, .ref tu, .ref tl, .int (nI L), .int 0, .int 0, .int (-1), .int nt, .ref tb, .int 0, .ref ts, .ref tf, .ref tz, .ref tx, .ref th, .ref tw])), (tb, .inl (kB, 3000, .inl f))] sz) [(h, .inr (9, [.ref tk, .ref tp, .ref tn, .ref tu, .ref tl, .int (nI (L + 4)), .int 0, .int 0, .int (-1), .int nt, .ref tb, .int 0, .ref ts, .ref tf, .ref tz, .ref tx, .ref th, .ref tw])), (tb, .inl (kB, 3000, .inl f9))]) (va_A [(h, .inr (9, [.ref tk, .ref tp, .ref tn, .ref tu, .ref tl, .int (nI L), .int 0, .int 0, .int (-1), .int nt, .ref tb, .int 0, .ref ts, .ref tf, .ref tz, .ref tx, .ref th, .ref tw])), (tb, .inl (kB, 3000, .inl f))] sz)) 0 0 (va_A [(h, .inr (9, [.ref tk, .ref tp, .ref tn, .ref tu, .ref tl, .int (nI L), .int 0, .int 0, .int (-1), .int nt, .ref tb, .int 0, .ref ts, .ref tf, .ref tz, .ref tx, .ref th, .ref tw])), (tb, .inl (kB, 3000, .inl f))] sz) := by
  refine Met.ofW (cc := cX9_append) (maxL := 3) (ret := none) (by decide) rfl ?_
  intro p e s m args below meth c s₁ B hml hv
  obtain ⟨rfl, hsz, hP, hK, hD0⟩ := hv
  have hx := B.exec
  have hb := B.bytes
  have hr := B.returns
  have hts := atoms_spec (ws := wp_c_append) B.pre
  have hown : s.vm.findClass RX9 = some m.cls := findClass_of_methodNamed B.named
  have hlocks := B.notSynchronized
  subst hsz
  have hD := hD0.self (sz := s.heap.size)
  generalize hAe : va_A [(h, .inr (9, [.ref tk, .ref tp, .ref tn, .ref tu, .ref tl, .int (nI L), .int 0, .int 0, .int (-1), .int nt, .ref tb, .int 0, .ref ts, .ref tf, .ref tz, .ref tx, .ref th, .ref tw])), (tb, .inl (kB, 3000, .inl f))] s.heap.size = A at hD ⊢
  have hA : ∀ q : Nat, s.heap.size ≤ q → A q := fun q h => by rw [← hAe]; exact Or.inr h
  have hS : va_S A s.heap s.heap [] := va_S.rf
  have hP : va_P (dC, dI) vwCl [(h, .inr (9, [.ref tk, .ref tp, .ref tn, .ref tu, .ref tl, .int (nI L), .int 0, .int 0, .int (-1), .int nt, .ref tb, .int 0, .ref ts, .ref tf, .ref tz, .ref tx, .ref th, .ref tw])), (tb, .inl (kB, 3000, .inl f))] s.heap := hP
  have hl := lv_entry ([.ref h, .int four]) (n := 3) (Nat.le_of_ble_eq_true rfl)
  rw [lg_entry_eq]
  generalize (lg_sl ([.ref h, .int four]) ++ List.replicate (3 - (lg_sl ([.ref h, .int four])).length) Slot.unset).toArray = ls at hl ⊢
  have hl : lv_has ls 3 [(0, .ref h), (1, .int four)] := hl
  refine lv_bipush (v := 24) hx hb dX9_append_0 (by decide) ?_
  refine lv_istore_n (lv' := [(2, .int 24), (0, .ref h), (1, .int four)]) hx hb dX9_append_2 rfl hl (by decide) rfl (fun ls hl => ?_)
  refine lv_iload_n hx hb dX9_append_3 rfl (lv_at hl 0 rfl) ?_
  refine lv_if_lt (tgt := 36) hx hb dX9_append_4 (by decide) (fun c_1 => absurd c_1 (by decide)) (fun _ => ?_)
  refine lv_aload_n hx hb dX9_append_7 rfl (lv_at hl 1 rfl) ?_
  refine va_get (D := (dC, dI)) (ci := 9) (v := .ref tb) (C := RX9) (T := TX9) (N := 18) hx hb hts in_c_append_X9 hown hK hP 0 rfl rfl 10 (by decide) (hts (.fieldLink RX9 32 "OwnedPlaces$Text" "bytes" "[B") (wm_c_append 1 rfl)) (fun _ h9 => h9) rfl dX9_append_8 ?_
  refine lv_aload_n hx hb dX9_append_11 rfl (lv_at hl 1 rfl) ?_
  refine va_get (D := (dC, dI)) (ci := 9) (v := .int (nI L)) (C := RX9) (T := TX9) (N := 18) hx hb hts in_c_append_X9 hown hK hP 0 rfl rfl 5 (by decide) (hts (.fieldLink RX9 81 "OwnedPlaces$Text" "length" "I") (wm_c_append 2 rfl)) (fun _ h9 => h9) rfl dX9_append_12 ?_
  refine lv_iload_n hx hb dX9_append_15 rfl (lv_at hl 2 rfl) ?_
  refine lv_iload_n hx hb dX9_append_16 rfl (lv_at hl 0 rfl) ?_
  refine lv_ishr hx hb dX9_append_17 ?_
  refine lv_topi (fun f_2 ef_2 => ?_)
  obtain ⟨f_3, ef_3⟩ : ∃ yY : Int32, yY = (f_2 : Int32).toInt8.toInt32 := ⟨_, rfl⟩
  refine lv_i2b (v := f_3) hx hb dX9_append_18 ef_3.symm ?_
  refine va_bast hx hb hK hP hD hS 1 0 rfl rfl (vp_in_nI (by omega) (by decide)) dX9_append_19 (fun H locs hP hD hS => ?_)
  have hP : va_P (dC, dI) vwCl [(h, .inr (9, [.ref tk, .ref tp, .ref tn, .ref tu, .ref tl, .int (nI L), .int 0, .int 0, .int (-1), .int nt, .ref tb, .int 0, .ref ts, .ref tf, .ref tz, .ref tx, .ref th, .ref tw])), (tb, .inl (kB, 3000, .inl (upd f (nI L : Int32).toNatClampNeg (vp_nar .byte f_3))))] H := hP
  have hD : va_D A [(h, .inr (9, [.ref tk, .ref tp, .ref tn, .ref tu, .ref tl, .int (nI L), .int 0, .int 0, .int (-1), .int nt, .ref tb, .int 0, .ref ts, .ref tf, .ref tz, .ref tx, .ref th, .ref tw])), (tb, .inl (kB, 3000, .inl (upd f (nI L : Int32).toNatClampNeg (vp_nar .byte f_3))))] := hD
  obtain ⟨fa0, efa0⟩ : ∃ zZ : Nat → Int32, zZ = upd f (nI L : Int32).toNatClampNeg (vp_nar .byte f_3) := ⟨_, rfl⟩
  rw [← efa0] at hP hD
  refine lv_aload_n hx hb dX9_append_20 rfl (lv_at hl 1 rfl) ?_
  refine lv_dup hx hb dX9_append_21 rfl ?_
  refine va_get (D := (dC, dI)) (ci := 9) (v := .int (nI L)) (C := RX9) (T := TX9) (N := 18) hx hb hts in_c_append_X9 hown hK hP 0 rfl rfl 5 (by decide) (hts (.fieldLink RX9 81 "OwnedPlaces$Text" "length" "I") (wm_c_append 2 rfl)) (fun _ h9 => h9) rfl dX9_append_22 ?_
  refine lv_iconst (v := 1) hx hb dX9_append_25 (by decide) ?_
  refine lv_iadd hx hb dX9_append_26 ?_
  refine lv_topi (fun f_4 ef_4 => ?_)
  obtain rfl : f_4 = nI (L + 1) := ef_4.trans (nI_1 _)
  refine va_put (D := (dC, dI)) (ci := 9) (v := .int (nI (L + 1))) (ty := .int) (C := RX9) (T := TX9) (N := 18) hx hb hts in_c_append_X9 tyX9 tyX9_ok nmX9 hown hK hP hD hS 0 rfl rfl 5 (by decide) (hts (.fieldLink RX9 81 "OwnedPlaces$Text" "length" "I") (wm_c_append 2 rfl)) (fun _ h9 => h9) rfl (by decide +kernel) rfl rfl (Nat.le_of_ble_eq_true rfl) dX9_append_27 (fun H locs hP hD hS => ?_)
  have hP : va_P (dC, dI) vwCl [(h, .inr (9, [.ref tk, .ref tp, .ref tn, .ref tu, .ref tl, .int (nI (L + 1)), .int 0, .int 0, .int (-1), .int nt, .ref tb, .int 0, .ref ts, .ref tf, .ref tz, .ref tx, .ref th, .ref tw])), (tb, .inl (kB, 3000, .inl fa0))] H := hP
  have hD : va_D A [(h, .inr (9, [.ref tk, .ref tp, .ref tn, .ref tu, .ref tl, .int (nI (L + 1)), .int 0, .int 0, .int (-1), .int nt, .ref tb, .int 0, .ref ts, .ref tf, .ref tz, .ref tx, .ref th, .ref tw])), (tb, .inl (kB, 3000, .inl fa0))] := hD
  refine lv_iinc (v := 16) (lv' := [(2, .int 16), (0, .ref h), (1, .int four)]) hx hb dX9_append_30 hl (k := 0) rfl (by decide) (by decide) rfl (fun ls hl => ?_)
  refine lv_goto (tgt := 3) hx hb dX9_append_33 (by decide) ?_
  refine lv_iload_n hx hb dX9_append_3 rfl (lv_at hl 0 rfl) ?_
  refine lv_if_lt (tgt := 36) hx hb dX9_append_4 (by decide) (fun c_5 => absurd c_5 (by decide)) (fun _ => ?_)
  refine lv_aload_n hx hb dX9_append_7 rfl (lv_at hl 1 rfl) ?_
  refine va_get (D := (dC, dI)) (ci := 9) (v := .ref tb) (C := RX9) (T := TX9) (N := 18) hx hb hts in_c_append_X9 hown hK hP 0 rfl rfl 10 (by decide) (hts (.fieldLink RX9 32 "OwnedPlaces$Text" "bytes" "[B") (wm_c_append 1 rfl)) (fun _ h9 => h9) rfl dX9_append_8 ?_
  refine lv_aload_n hx hb dX9_append_11 rfl (lv_at hl 1 rfl) ?_
  refine va_get (D := (dC, dI)) (ci := 9) (v := .int (nI (L + 1))) (C := RX9) (T := TX9) (N := 18) hx hb hts in_c_append_X9 hown hK hP 0 rfl rfl 5 (by decide) (hts (.fieldLink RX9 81 "OwnedPlaces$Text" "length" "I") (wm_c_append 2 rfl)) (fun _ h9 => h9) rfl dX9_append_12 ?_
  refine lv_iload_n hx hb dX9_append_15 rfl (lv_at hl 2 rfl) ?_
  refine lv_iload_n hx hb dX9_append_16 rfl (lv_at hl 0 rfl) ?_
  refine lv_ishr hx hb dX9_append_17 ?_
  refine lv_topi (fun f_6 ef_6 => ?_)
  obtain ⟨f_7, ef_7⟩ : ∃ yY : Int32, yY = (f_6 : Int32).toInt8.toInt32 := ⟨_, rfl⟩
  refine lv_i2b (v := f_7) hx hb dX9_append_18 ef_7.symm ?_
  refine va_bast hx hb hK hP hD hS 1 0 rfl rfl (vp_in_nI (by omega) (by decide)) dX9_append_19 (fun H locs hP hD hS => ?_)
  have hP : va_P (dC, dI) vwCl [(h, .inr (9, [.ref tk, .ref tp, .ref tn, .ref tu, .ref tl, .int (nI (L + 1)), .int 0, .int 0, .int (-1), .int nt, .ref tb, .int 0, .ref ts, .ref tf, .ref tz, .ref tx, .ref th, .ref tw])), (tb, .inl (kB, 3000, .inl (upd fa0 (nI (L + 1) : Int32).toNatClampNeg (vp_nar .byte f_7))))] H := hP
  have hD : va_D A [(h, .inr (9, [.ref tk, .ref tp, .ref tn, .ref tu, .ref tl, .int (nI (L + 1)), .int 0, .int 0, .int (-1), .int nt, .ref tb, .int 0, .ref ts, .ref tf, .ref tz, .ref tx, .ref th, .ref tw])), (tb, .inl (kB, 3000, .inl (upd fa0 (nI (L + 1) : Int32).toNatClampNeg (vp_nar .byte f_7))))] := hD
  obtain ⟨fa1, efa1⟩ : ∃ zZ : Nat → Int32, zZ = upd fa0 (nI (L + 1) : Int32).toNatClampNeg (vp_nar .byte f_7) := ⟨_, rfl⟩
  rw [← efa1] at hP hD
  refine lv_aload_n hx hb dX9_append_20 rfl (lv_at hl 1 rfl) ?_
  refine lv_dup hx hb dX9_append_21 rfl ?_
  refine va_get (D := (dC, dI)) (ci := 9) (v := .int (nI (L + 1))) (C := RX9) (T := TX9) (N := 18) hx hb hts in_c_append_X9 hown hK hP 0 rfl rfl 5 (by decide) (hts (.fieldLink RX9 81 "OwnedPlaces$Text" "length" "I") (wm_c_append 2 rfl)) (fun _ h9 => h9) rfl dX9_append_22 ?_
  refine lv_iconst (v := 1) hx hb dX9_append_25 (by decide) ?_
  refine lv_iadd hx hb dX9_append_26 ?_
  refine lv_topi (fun f_8 ef_8 => ?_)
  obtain rfl : f_8 = nI (L + 2) := ef_8.trans (nI_1 _)
  refine va_put (D := (dC, dI)) (ci := 9) (v := .int (nI (L + 2))) (ty := .int) (C := RX9) (T := TX9) (N := 18) hx hb hts in_c_append_X9 tyX9 tyX9_ok nmX9 hown hK hP hD hS 0 rfl rfl 5 (by decide) (hts (.fieldLink RX9 81 "OwnedPlaces$Text" "length" "I") (wm_c_append 2 rfl)) (fun _ h9 => h9) rfl (by decide +kernel) rfl rfl (Nat.le_of_ble_eq_true rfl) dX9_append_27 (fun H locs hP hD hS => ?_)
  have hP : va_P (dC, dI) vwCl [(h, .inr (9, [.ref tk, .ref tp, .ref tn, .ref tu, .ref tl, .int (nI (L + 2)), .int 0, .int 0, .int (-1), .int nt, .ref tb, .int 0, .ref ts, .ref tf, .ref tz, .ref tx, .ref th, .ref tw])), (tb, .inl (kB, 3000, .inl fa1))] H := hP
  have hD : va_D A [(h, .inr (9, [.ref tk, .ref tp, .ref tn, .ref tu, .ref tl, .int (nI (L + 2)), .int 0, .int 0, .int (-1), .int nt, .ref tb, .int 0, .ref ts, .ref tf, .ref tz, .ref tx, .ref th, .ref tw])), (tb, .inl (kB, 3000, .inl fa1))] := hD
  refine lv_iinc (v := 8) (lv' := [(2, .int 8), (0, .ref h), (1, .int four)]) hx hb dX9_append_30 hl (k := 0) rfl (by decide) (by decide) rfl (fun ls hl => ?_)
  refine lv_goto (tgt := 3) hx hb dX9_append_33 (by decide) ?_
  refine lv_iload_n hx hb dX9_append_3 rfl (lv_at hl 0 rfl) ?_
  refine lv_if_lt (tgt := 36) hx hb dX9_append_4 (by decide) (fun c_9 => absurd c_9 (by decide)) (fun _ => ?_)
  refine lv_aload_n hx hb dX9_append_7 rfl (lv_at hl 1 rfl) ?_
  refine va_get (D := (dC, dI)) (ci := 9) (v := .ref tb) (C := RX9) (T := TX9) (N := 18) hx hb hts in_c_append_X9 hown hK hP 0 rfl rfl 10 (by decide) (hts (.fieldLink RX9 32 "OwnedPlaces$Text" "bytes" "[B") (wm_c_append 1 rfl)) (fun _ h9 => h9) rfl dX9_append_8 ?_
  refine lv_aload_n hx hb dX9_append_11 rfl (lv_at hl 1 rfl) ?_
  refine va_get (D := (dC, dI)) (ci := 9) (v := .int (nI (L + 2))) (C := RX9) (T := TX9) (N := 18) hx hb hts in_c_append_X9 hown hK hP 0 rfl rfl 5 (by decide) (hts (.fieldLink RX9 81 "OwnedPlaces$Text" "length" "I") (wm_c_append 2 rfl)) (fun _ h9 => h9) rfl dX9_append_12 ?_
  refine lv_iload_n hx hb dX9_append_15 rfl (lv_at hl 2 rfl) ?_
  refine lv_iload_n hx hb dX9_append_16 rfl (lv_at hl 0 rfl) ?_
  refine lv_ishr hx hb dX9_append_17 ?_
  refine lv_topi (fun f_10 ef_10 => ?_)
  obtain ⟨f_11, ef_11⟩ : ∃ yY : Int32, yY = (f_10 : Int32).toInt8.toInt32 := ⟨_, rfl⟩
  refine lv_i2b (v := f_11) hx hb dX9_append_18 ef_11.symm ?_
  refine va_bast hx hb hK hP hD hS 1 0 rfl rfl (vp_in_nI (by omega) (by decide)) dX9_append_19 (fun H locs hP hD hS => ?_)
  have hP : va_P (dC, dI) vwCl [(h, .inr (9, [.ref tk, .ref tp, .ref tn, .ref tu, .ref tl, .int (nI (L + 2)), .int 0, .int 0, .int (-1), .int nt, .ref tb, .int 0, .ref ts, .ref tf, .ref tz, .ref tx, .ref th, .ref tw])), (tb, .inl (kB, 3000, .inl (upd fa1 (nI (L + 2) : Int32).toNatClampNeg (vp_nar .byte f_11))))] H := hP
  have hD : va_D A [(h, .inr (9, [.ref tk, .ref tp, .ref tn, .ref tu, .ref tl, .int (nI (L + 2)), .int 0, .int 0, .int (-1), .int nt, .ref tb, .int 0, .ref ts, .ref tf, .ref tz, .ref tx, .ref th, .ref tw])), (tb, .inl (kB, 3000, .inl (upd fa1 (nI (L + 2) : Int32).toNatClampNeg (vp_nar .byte f_11))))] := hD
  obtain ⟨fa2, efa2⟩ : ∃ zZ : Nat → Int32, zZ = upd fa1 (nI (L + 2) : Int32).toNatClampNeg (vp_nar .byte f_11) := ⟨_, rfl⟩
  rw [← efa2] at hP hD
  refine lv_aload_n hx hb dX9_append_20 rfl (lv_at hl 1 rfl) ?_
  refine lv_dup hx hb dX9_append_21 rfl ?_
  refine va_get (D := (dC, dI)) (ci := 9) (v := .int (nI (L + 2))) (C := RX9) (T := TX9) (N := 18) hx hb hts in_c_append_X9 hown hK hP 0 rfl rfl 5 (by decide) (hts (.fieldLink RX9 81 "OwnedPlaces$Text" "length" "I") (wm_c_append 2 rfl)) (fun _ h9 => h9) rfl dX9_append_22 ?_
  refine lv_iconst (v := 1) hx hb dX9_append_25 (by decide) ?_
  refine lv_iadd hx hb dX9_append_26 ?_
  refine lv_topi (fun f_12 ef_12 => ?_)
  obtain rfl : f_12 = nI (L + 3) := ef_12.trans (nI_1 _)
  refine va_put (D := (dC, dI)) (ci := 9) (v := .int (nI (L + 3))) (ty := .int) (C := RX9) (T := TX9) (N := 18) hx hb hts in_c_append_X9 tyX9 tyX9_ok nmX9 hown hK hP hD hS 0 rfl rfl 5 (by decide) (hts (.fieldLink RX9 81 "OwnedPlaces$Text" "length" "I") (wm_c_append 2 rfl)) (fun _ h9 => h9) rfl (by decide +kernel) rfl rfl (Nat.le_of_ble_eq_true rfl) dX9_append_27 (fun H locs hP hD hS => ?_)
  have hP : va_P (dC, dI) vwCl [(h, .inr (9, [.ref tk, .ref tp, .ref tn, .ref tu, .ref tl, .int (nI (L + 3)), .int 0, .int 0, .int (-1), .int nt, .ref tb, .int 0, .ref ts, .ref tf, .ref tz, .ref tx, .ref th, .ref tw])), (tb, .inl (kB, 3000, .inl fa2))] H := hP
  have hD : va_D A [(h, .inr (9, [.ref tk, .ref tp, .ref tn, .ref tu, .ref tl, .int (nI (L + 3)), .int 0, .int 0, .int (-1), .int nt, .ref tb, .int 0, .ref ts, .ref tf, .ref tz, .ref tx, .ref th, .ref tw])), (tb, .inl (kB, 3000, .inl fa2))] := hD
  refine lv_iinc (v := 0) (lv' := [(2, .int 0), (0, .ref h), (1, .int four)]) hx hb dX9_append_30 hl (k := 0) rfl (by decide) (by decide) rfl (fun ls hl => ?_)
  refine lv_goto (tgt := 3) hx hb dX9_append_33 (by decide) ?_
  refine lv_iload_n hx hb dX9_append_3 rfl (lv_at hl 0 rfl) ?_
  refine lv_if_lt (tgt := 36) hx hb dX9_append_4 (by decide) (fun c_13 => absurd c_13 (by decide)) (fun _ => ?_)
  refine lv_aload_n hx hb dX9_append_7 rfl (lv_at hl 1 rfl) ?_
  refine va_get (D := (dC, dI)) (ci := 9) (v := .ref tb) (C := RX9) (T := TX9) (N := 18) hx hb hts in_c_append_X9 hown hK hP 0 rfl rfl 10 (by decide) (hts (.fieldLink RX9 32 "OwnedPlaces$Text" "bytes" "[B") (wm_c_append 1 rfl)) (fun _ h9 => h9) rfl dX9_append_8 ?_
  refine lv_aload_n hx hb dX9_append_11 rfl (lv_at hl 1 rfl) ?_
  refine va_get (D := (dC, dI)) (ci := 9) (v := .int (nI (L + 3))) (C := RX9) (T := TX9) (N := 18) hx hb hts in_c_append_X9 hown hK hP 0 rfl rfl 5 (by decide) (hts (.fieldLink RX9 81 "OwnedPlaces$Text" "length" "I") (wm_c_append 2 rfl)) (fun _ h9 => h9) rfl dX9_append_12 ?_
  refine lv_iload_n hx hb dX9_append_15 rfl (lv_at hl 2 rfl) ?_
  refine lv_iload_n hx hb dX9_append_16 rfl (lv_at hl 0 rfl) ?_
  refine lv_ishr hx hb dX9_append_17 ?_
  refine lv_topi (fun f_14 ef_14 => ?_)
  obtain ⟨f_15, ef_15⟩ : ∃ yY : Int32, yY = (f_14 : Int32).toInt8.toInt32 := ⟨_, rfl⟩
  refine lv_i2b (v := f_15) hx hb dX9_append_18 ef_15.symm ?_
  refine va_bast hx hb hK hP hD hS 1 0 rfl rfl (vp_in_nI (by omega) (by decide)) dX9_append_19 (fun H locs hP hD hS => ?_)
  have hP : va_P (dC, dI) vwCl [(h, .inr (9, [.ref tk, .ref tp, .ref tn, .ref tu, .ref tl, .int (nI (L + 3)), .int 0, .int 0, .int (-1), .int nt, .ref tb, .int 0, .ref ts, .ref tf, .ref tz, .ref tx, .ref th, .ref tw])), (tb, .inl (kB, 3000, .inl (upd fa2 (nI (L + 3) : Int32).toNatClampNeg (vp_nar .byte f_15))))] H := hP
  have hD : va_D A [(h, .inr (9, [.ref tk, .ref tp, .ref tn, .ref tu, .ref tl, .int (nI (L + 3)), .int 0, .int 0, .int (-1), .int nt, .ref tb, .int 0, .ref ts, .ref tf, .ref tz, .ref tx, .ref th, .ref tw])), (tb, .inl (kB, 3000, .inl (upd fa2 (nI (L + 3) : Int32).toNatClampNeg (vp_nar .byte f_15))))] := hD
  obtain ⟨fa3, efa3⟩ : ∃ zZ : Nat → Int32, zZ = upd fa2 (nI (L + 3) : Int32).toNatClampNeg (vp_nar .byte f_15) := ⟨_, rfl⟩
  rw [← efa3] at hP hD
  refine lv_aload_n hx hb dX9_append_20 rfl (lv_at hl 1 rfl) ?_
  refine lv_dup hx hb dX9_append_21 rfl ?_
  refine va_get (D := (dC, dI)) (ci := 9) (v := .int (nI (L + 3))) (C := RX9) (T := TX9) (N := 18) hx hb hts in_c_append_X9 hown hK hP 0 rfl rfl 5 (by decide) (hts (.fieldLink RX9 81 "OwnedPlaces$Text" "length" "I") (wm_c_append 2 rfl)) (fun _ h9 => h9) rfl dX9_append_22 ?_
  refine lv_iconst (v := 1) hx hb dX9_append_25 (by decide) ?_
  refine lv_iadd hx hb dX9_append_26 ?_
  refine lv_topi (fun f_16 ef_16 => ?_)
  obtain rfl : f_16 = nI (L + 4) := ef_16.trans (nI_1 _)
  refine va_put (D := (dC, dI)) (ci := 9) (v := .int (nI (L + 4))) (ty := .int) (C := RX9) (T := TX9) (N := 18) hx hb hts in_c_append_X9 tyX9 tyX9_ok nmX9 hown hK hP hD hS 0 rfl rfl 5 (by decide) (hts (.fieldLink RX9 81 "OwnedPlaces$Text" "length" "I") (wm_c_append 2 rfl)) (fun _ h9 => h9) rfl (by decide +kernel) rfl rfl (Nat.le_of_ble_eq_true rfl) dX9_append_27 (fun H locs hP hD hS => ?_)
  have hP : va_P (dC, dI) vwCl [(h, .inr (9, [.ref tk, .ref tp, .ref tn, .ref tu, .ref tl, .int (nI (L + 4)), .int 0, .int 0, .int (-1), .int nt, .ref tb, .int 0, .ref ts, .ref tf, .ref tz, .ref tx, .ref th, .ref tw])), (tb, .inl (kB, 3000, .inl fa3))] H := hP
  have hD : va_D A [(h, .inr (9, [.ref tk, .ref tp, .ref tn, .ref tu, .ref tl, .int (nI (L + 4)), .int 0, .int 0, .int (-1), .int nt, .ref tb, .int 0, .ref ts, .ref tf, .ref tz, .ref tx, .ref th, .ref tw])), (tb, .inl (kB, 3000, .inl fa3))] := hD
  refine lv_iinc (v := (-8)) (lv' := [(2, .int (-8)), (0, .ref h), (1, .int four)]) hx hb dX9_append_30 hl (k := 0) rfl (by decide) (by decide) rfl (fun ls hl => ?_)
  refine lv_goto (tgt := 3) hx hb dX9_append_33 (by decide) ?_
  refine lv_iload_n hx hb dX9_append_3 rfl (lv_at hl 0 rfl) ?_
  refine lv_if_lt (tgt := 36) hx hb dX9_append_4 (by decide) (fun _ => ?_) (fun c_17 => absurd (by decide) c_17)
  have hP9 := hP.sub (ws' := [(h, .inr (9, [.ref tk, .ref tp, .ref tn, .ref tu, .ref tl, .int (nI (L + 4)), .int 0, .int 0, .int (-1), .int nt, .ref tb, .int 0, .ref ts, .ref tf, .ref tz, .ref tx, .ref th, .ref tw])), (tb, .inl (kB, 3000, .inl fa3))]) [0, 1] rfl
  have hD9 := hD.sub (ws' := [(h, .inr (9, [.ref tk, .ref tp, .ref tn, .ref tu, .ref tl, .int (nI (L + 4)), .int 0, .int 0, .int (-1), .int nt, .ref tb, .int 0, .ref ts, .ref tf, .ref tz, .ref tx, .ref th, .ref tw])), (tb, .inl (kB, 3000, .inl fa3))]) [0, 1] (by decide) rfl
  have hK9 := hK.sub (tys' := [(kB, .byte)]) [0] rfl
  exact W.vret hx hb hr (fun tS ht hW => ⟨⟨(), rfl, trivial, fa3, by rw [ht]; exact hP9, va_K.moved hW.alike hK9, hD9⟩, hS.F ht⟩) hS.2.2 dX9_append_36
def wf_c_feed : List Cond := [.code yX12_feed cX12_feed 6 (some .boolean), .fieldLink RX12 12 "OwnedPlaces" "text" "LOwnedPlaces$Text;", .fieldLink RX12 109 "OwnedPlaces$Text" "length" "I", .code yX9_append cX9_append 3 none, .fieldLink RX9 32 "OwnedPlaces$Text" "bytes" "[B", .fieldLink RX9 81 "OwnedPlaces$Text" "length" "I", .methodLink RX12 112 yX9_append, .instanceMethod yX9_append, .selects RX9 yX9_append yX9_append, .initialized RX9]
def wp_c_feed : List Cond := wf_c_feed ++ (wsX120 ++ (wsX90 ++ []))
theorem in_c_feed_X12 : ∀ w ∈ wsX120, w ∈ wp_c_feed := fun w h => List.mem_append_right _ (List.mem_append_left _ h)
theorem in_c_feed_X9 : ∀ w ∈ wsX90, w ∈ wp_c_feed := fun w h => List.mem_append_right _ (List.mem_append_right _ (List.mem_append_left _ h))
theorem wg_c_feed : wf_c_feed.all goodWord = true := by decide +kernel
theorem wm_c_feed (k : Nat) {w : Cond} (h : wp_c_feed[k]? = some w) : w ∈ wp_c_feed := List.mem_of_getElem? h
set_option maxRecDepth 20000 in
theorem g_c_feed_c_append_23 : GoodIn wp_c_feed (wsV RX12 112 RX9 yX9_append wp_c_append) := goodIn_app (goodIn_f [.methodLink RX12 112 yX9_append, .instanceMethod yX9_append, .selects RX9 yX9_append yX9_append, .initialized RX9] [6, 7, 8, 9] rfl (by decide +kernel)) (goodIn_app (goodIn_f (wf_c_append) [3, 4, 5] rfl wg_c_append) (goodIn_app (goodIn_sub in_c_feed_X9 gd_X9) (goodIn_n)))
set_option maxRecDepth 20000 in
theorem g_c_feed_c_append_31 : GoodIn wp_c_feed (wsV RX12 112 RX9 yX9_append wp_c_append) := goodIn_app (goodIn_f [.methodLink RX12 112 yX9_append, .instanceMethod yX9_append, .selects RX9 yX9_append yX9_append, .initialized RX9] [6, 7, 8, 9] rfl (by decide +kernel)) (goodIn_app (goodIn_f (wf_c_append) [3, 4, 5] rfl wg_c_append) (goodIn_app (goodIn_sub in_c_feed_X9 gd_X9) (goodIn_n)))
set_option maxRecDepth 20000 in
theorem g_c_feed_c_append_39 : GoodIn wp_c_feed (wsV RX12 112 RX9 yX9_append wp_c_append) := goodIn_app (goodIn_f [.methodLink RX12 112 yX9_append, .instanceMethod yX9_append, .selects RX9 yX9_append yX9_append, .initialized RX9] [6, 7, 8, 9] rfl (by decide +kernel)) (goodIn_app (goodIn_f (wf_c_append) [3, 4, 5] rfl wg_c_append) (goodIn_app (goodIn_sub in_c_feed_X9 gd_X9) (goodIn_n)))
set_option maxRecDepth 20000 in
theorem g_c_feed_c_append_48 : GoodIn wp_c_feed (wsV RX12 112 RX9 yX9_append wp_c_append) := goodIn_app (goodIn_f [.methodLink RX12 112 yX9_append, .instanceMethod yX9_append, .selects RX9 yX9_append yX9_append, .initialized RX9] [6, 7, 8, 9] rfl (by decide +kernel)) (goodIn_app (goodIn_f (wf_c_append) [3, 4, 5] rfl wg_c_append) (goodIn_app (goodIn_sub in_c_feed_X9 gd_X9) (goodIn_n)))
set_option maxRecDepth 20000 in
theorem g_c_feed_c_append_57 : GoodIn wp_c_feed (wsV RX12 112 RX9 yX9_append wp_c_append) := goodIn_app (goodIn_f [.methodLink RX12 112 yX9_append, .instanceMethod yX9_append, .selects RX9 yX9_append yX9_append, .initialized RX9] [6, 7, 8, 9] rfl (by decide +kernel)) (goodIn_app (goodIn_f (wf_c_append) [3, 4, 5] rfl wg_c_append) (goodIn_app (goodIn_sub in_c_feed_X9 gd_X9) (goodIn_n)))
set_option maxHeartbeats 4000000 in
set_option maxRecDepth 100000 in
theorem c_feed (l : Launch) (dC : Nat → ClassId) (dI : Nat → Nat → Nat) (x0 : Nat) (h g y d o1 o2 o3 o4 o5 qn qw m0 : Nat) (tk tp tn tu tl tb ts tf tz tx th tw : Nat) (nt : Int32) (kB : ClassId) (i0 i1 i2 i3 i4 : Int32) (sz : Nat) : Met l yX12_feed wp_c_feed ({ frames := 1, cells := 0, slots := 0, locals := 22 }) (va_Pc [.ref x0, .int i0, .int i1, .int i2, .int i3, .int i4] (fun U => U.heap.size = sz ∧ va_P (dC, dI) vwCl [(x0, .inr (12, [.ref h, .ref g, .ref y, .ref d, .ref o1, .ref o2, .ref o3, .ref o4, .ref qn, .ref qw, .ref m0, .ref o5, .int 0, .int (-1)])), (h, .inr (9, [.ref tk, .ref tp, .ref tn, .ref tu, .ref tl, .int 0, .int 0, .int 0, .int (-1), .int nt, .ref tb, .int 0, .ref ts, .ref tf, .ref tz, .ref tx, .ref th, .ref tw])), (tb, .inl (kB, 3000, .inl (fun _ => 0)))] U.heap ∧ va_K (dC, dI) vwCl [(kB, .byte)] U ∧ va_D (fun _ => True) [(x0, .inr (12, [.ref h, .ref g, .ref y, .ref d, .ref o1, .ref o2, .ref o3, .ref o4, .ref qn, .ref qw, .ref m0, .ref o5, .int 0, .int (-1)])), (h, .inr (9, [.ref tk, .ref tp, .ref tn, .ref tu, .ref tl, .int 0, .int 0, .int 0, .int (-1), .int nt, .ref tb, .int 0, .ref ts, .ref tf, .ref tz, .ref tx, .ref th, .ref tw])), (tb, .inl (kB, 3000, .inl (fun _ => 0)))])) (va_Qi (fun (r : Int32) (_ : Unit) => r = 1) (fun (_ : Unit) (_ : State) => True) (va_A [(x0, .inr (12, [.ref h, .ref g, .ref y, .ref d, .ref o1, .ref o2, .ref o3, .ref o4, .ref qn, .ref qw, .ref m0, .ref o5, .int 0, .int (-1)])), (h, .inr (9, [.ref tk, .ref tp, .ref tn, .ref tu, .ref tl, .int 0, .int 0, .int 0, .int (-1), .int nt, .ref tb, .int 0, .ref ts, .ref tf, .ref tz, .ref tx, .ref th, .ref tw])), (tb, .inl (kB, 3000, .inl (fun _ => 0)))] sz)) 0 0 (va_A [(x0, .inr (12, [.ref h, .ref g, .ref y, .ref d, .ref o1, .ref o2, .ref o3, .ref o4, .ref qn, .ref qw, .ref m0, .ref o5, .int 0, .int (-1)])), (h, .inr (9, [.ref tk, .ref tp, .ref tn, .ref tu, .ref tl, .int 0, .int 0, .int 0, .int (-1), .int nt, .ref tb, .int 0, .ref ts, .ref tf, .ref tz, .ref tx, .ref th, .ref tw])), (tb, .inl (kB, 3000, .inl (fun _ => 0)))] sz) := by
  refine Met.ofW (cc := cX12_feed) (maxL := 6) (ret := (some .boolean)) (by decide) rfl ?_
  intro p e s m args below meth c s₁ B hml hv
  obtain ⟨rfl, hsz, hP, hK, hD0⟩ := hv
  have hx := B.exec
  have hb := B.bytes
  have hr := B.returns
  have hts := atoms_spec (ws := wp_c_feed) B.pre
  have hown : s.vm.findClass RX12 = some m.cls := findClass_of_methodNamed B.named
  have hlocks := B.notSynchronized
  subst hsz
  have hD := hD0.self (sz := s.heap.size)
  generalize hAe : va_A [(x0, .inr (12, [.ref h, .ref g, .ref y, .ref d, .ref o1, .ref o2, .ref o3, .ref o4, .ref qn, .ref qw, .ref m0, .ref o5, .int 0, .int (-1)])), (h, .inr (9, [.ref tk, .ref tp, .ref tn, .ref tu, .ref tl, .int 0, .int 0, .int 0, .int (-1), .int nt, .ref tb, .int 0, .ref ts, .ref tf, .ref tz, .ref tx, .ref th, .ref tw])), (tb, .inl (kB, 3000, .inl (fun _ => 0)))] s.heap.size = A at hD ⊢
  have hA : ∀ q : Nat, s.heap.size ≤ q → A q := fun q h => by rw [← hAe]; exact Or.inr h
  have hS : va_S A s.heap s.heap [] := va_S.rf
  have hP : va_P (dC, dI) vwCl [(x0, .inr (12, [.ref h, .ref g, .ref y, .ref d, .ref o1, .ref o2, .ref o3, .ref o4, .ref qn, .ref qw, .ref m0, .ref o5, .int 0, .int (-1)])), (h, .inr (9, [.ref tk, .ref tp, .ref tn, .ref tu, .ref tl, .int 0, .int 0, .int 0, .int (-1), .int nt, .ref tb, .int 0, .ref ts, .ref tf, .ref tz, .ref tx, .ref th, .ref tw])), (tb, .inl (kB, 3000, .inl (fun _ => 0)))] s.heap := hP
  have hl := lv_entry ([.ref x0, .int i0, .int i1, .int i2, .int i3, .int i4]) (n := 6) (Nat.le_of_ble_eq_true rfl)
  rw [lg_entry_eq]
  generalize (lg_sl ([.ref x0, .int i0, .int i1, .int i2, .int i3, .int i4]) ++ List.replicate (6 - (lg_sl ([.ref x0, .int i0, .int i1, .int i2, .int i3, .int i4])).length) Slot.unset).toArray = ls at hl ⊢
  have hl : lv_has ls 6 [(0, .ref x0), (1, .int i0), (2, .int i1), (3, .int i2), (4, .int i3), (5, .int i4)] := hl
  refine lv_aload_n hx hb dX12_feed_0 rfl (lv_at hl 0 rfl) ?_
  refine va_get (D := (dC, dI)) (ci := 12) (v := .ref h) (C := RX12) (T := TX12) (N := 14) hx hb hts in_c_feed_X12 hown hK hP 0 rfl rfl 0 (by decide) (hts (.fieldLink RX12 12 "OwnedPlaces" "text" "LOwnedPlaces$Text;") (wm_c_feed 1 rfl)) (fun _ h9 => h9) rfl dX12_feed_1 ?_
  refine va_get (D := (dC, dI)) (ci := 9) (v := .int 0) (C := RX9) (T := TX9) (N := 18) hx hb hts in_c_feed_X9 hown hK hP 1 rfl rfl 5 (by decide) (hts (.fieldLink RX12 109 "OwnedPlaces$Text" "length" "I") (wm_c_feed 2 rfl)) (fun _ h9 => h9) rfl dX12_feed_4 ?_
  refine lv_bipush (v := 20) hx hb dX12_feed_7 (by decide) ?_
  refine lv_iadd hx hb dX12_feed_9 ?_
  refine lv_topi (fun f_1 ef_1 => ?_)
  obtain rfl : f_1 = 20 := ef_1.trans (by decide)
  refine lv_sipush (v := 3000) hx hb dX12_feed_10 (by decide) ?_
  refine lv_icmp_le (tgt := 18) hx hb dX12_feed_13 (by decide) (fun _ => ?_) (fun c_2 => absurd (by decide) c_2)
  refine lv_aload_n hx hb dX12_feed_18 rfl (lv_at hl 0 rfl) ?_
  refine va_get (D := (dC, dI)) (ci := 12) (v := .ref h) (C := RX12) (T := TX12) (N := 14) hx hb hts in_c_feed_X12 hown hK hP 0 rfl rfl 0 (by decide) (hts (.fieldLink RX12 12 "OwnedPlaces" "text" "LOwnedPlaces$Text;") (wm_c_feed 1 rfl)) (fun _ h9 => h9) rfl dX12_feed_19 ?_
  refine lv_iload_n hx hb dX12_feed_22 rfl (lv_at hl 1 rfl) ?_
  have hPc := hP.sub (ws' := [(h, .inr (9, [.ref tk, .ref tp, .ref tn, .ref tu, .ref tl, .int (nI 0), .int 0, .int 0, .int (-1), .int nt, .ref tb, .int 0, .ref ts, .ref tf, .ref tz, .ref tx, .ref th, .ref tw])), (tb, .inl (kB, 3000, .inl (fun _ => 0)))]) [1, 2] rfl
  have hDc := hD.sub (ws' := [(h, .inr (9, [.ref tk, .ref tp, .ref tn, .ref tu, .ref tl, .int (nI 0), .int 0, .int 0, .int (-1), .int nt, .ref tb, .int 0, .ref ts, .ref tf, .ref tz, .ref tx, .ref th, .ref tw])), (tb, .inl (kB, 3000, .inl (fun _ => 0)))]) [1, 2] (by decide) rfl
  have hKc := hK.sub (tys' := [(kB, .byte)]) [0] rfl
  have hFc := va_free (wc := [(h, .inr (9, [.ref tk, .ref tp, .ref tn, .ref tu, .ref tl, .int (nI 0), .int 0, .int 0, .int (-1), .int nt, .ref tb, .int 0, .ref ts, .ref tf, .ref tz, .ref tx, .ref th, .ref tw])), (tb, .inl (kB, 3000, .inl (fun _ => 0)))]) hD hS hA [1, 2] rfl
  refine va_callv (va_runV (As := [.int i0]) (rest := []) ⟨hx, hb, hml, hown, hts⟩ (c_append l dC dI h tk tp tn tu tl tb ts tf tz tx th tw nt kB 0 (fun _ => 0) i0 s.heap.size (by omega)) (cwV 1 hts g_c_feed_c_append_23 rfl rfl rfl (by decide +kernel) ⟨Nat.le_of_ble_eq_true rfl, Nat.le_of_ble_eq_true rfl⟩) ⟨fun a U g mk q => by obtain ⟨q0, q1, qP, qK, qD⟩ := q; exact ⟨q0, q1, qP, va_K.moved (u := U) (U := U.calling g mk a) (Vm.Alike.refl U.vm) qK, qD⟩, va_recv hKc hPc (ci := 9) (q0 := 0) rfl rfl, fun U hU hW => ⟨rfl, by rw [hU], by rw [hU]; exact hPc, va_K.moved hW.alike hKc, hDc.weaken (fun _ _ _ _ => trivial)⟩⟩ rfl rfl hl.1 rfl (lv_room (Nat.le_of_ble_eq_true rfl)) dX12_feed_23 ⟨(show 0 + 0 ≤ 0 by omega), (show 0 + 0 ≤ 0 by omega)⟩) hS (fun q _ h => hFc q h) hFc (fun u tS H1 locs ht hvm hw hB hz1 hk1 hS => ?_)
  obtain ⟨fb0, hP1, hK1, hD1⟩ := hB
  rw [ht] at hP1
  have hK1 := va_K.moved hvm.symm hK1
  obtain ⟨hP, hD⟩ := va_join (wr := [(x0, .inr (12, [.ref h, .ref g, .ref y, .ref d, .ref o1, .ref o2, .ref o3, .ref o4, .ref qn, .ref qw, .ref m0, .ref o5, .int 0, .int (-1)]))]) (w1 := [(h, .inr (9, [.ref tk, .ref tp, .ref tn, .ref tu, .ref tl, .int (nI (0 + 4)), .int 0, .int 0, .int (-1), .int nt, .ref tb, .int 0, .ref ts, .ref tf, .ref tz, .ref tx, .ref th, .ref tw])), (tb, .inl (kB, 3000, .inl fb0))]) hP hD [1, 2] [0] rfl rfl (by decide) (by decide) hk1 hFc hP1 hD1
  have hK := hK.app hK1
  generalize H1 = H at hP hS ⊢
  have hP : va_P (dC, dI) vwCl [(x0, .inr (12, [.ref h, .ref g, .ref y, .ref d, .ref o1, .ref o2, .ref o3, .ref o4, .ref qn, .ref qw, .ref m0, .ref o5, .int 0, .int (-1)])), (h, .inr (9, [.ref tk, .ref tp, .ref tn, .ref tu, .ref tl, .int (nI (0 + 4)), .int 0, .int 0, .int (-1), .int nt, .ref tb, .int 0, .ref ts, .ref tf, .ref tz, .ref tx, .ref th, .ref tw])), (tb, .inl (kB, 3000, .inl fb0))] H := hP
  have hD : va_D A [(x0, .inr (12, [.ref h, .ref g, .ref y, .ref d, .ref o1, .ref o2, .ref o3, .ref o4, .ref qn, .ref qw, .ref m0, .ref o5, .int 0, .int (-1)])), (h, .inr (9, [.ref tk, .ref tp, .ref tn, .ref tu, .ref tl, .int (nI (0 + 4)), .int 0, .int 0, .int (-1), .int nt, .ref tb, .int 0, .ref ts, .ref tf, .ref tz, .ref tx, .ref th, .ref tw])), (tb, .inl (kB, 3000, .inl fb0))] := hD
  have hK : va_K (dC, dI) vwCl [(kB, .byte), (kB, .byte)] s := hK
  have hK := hK.sub (tys' := [(kB, .byte)]) [0] rfl
  have hP : va_P (dC, dI) vwCl [(x0, .inr (12, [.ref h, .ref g, .ref y, .ref d, .ref o1, .ref o2, .ref o3, .ref o4, .ref qn, .ref qw, .ref m0, .ref o5, .int 0, .int (-1)])), (h, .inr (9, [.ref tk, .ref tp, .ref tn, .ref tu, .ref tl, .int (nI (0 + 4)), .int 0, .int 0, .int (-1), .int nt, .ref tb, .int 0, .ref ts, .ref tf, .ref tz, .ref tx, .ref th, .ref tw])), (tb, .inl (kB, 3000, .inl fb0))] H := hP
  have hD : va_D A [(x0, .inr (12, [.ref h, .ref g, .ref y, .ref d, .ref o1, .ref o2, .ref o3, .ref o4, .ref qn, .ref qw, .ref m0, .ref o5, .int 0, .int (-1)])), (h, .inr (9, [.ref tk, .ref tp, .ref tn, .ref tu, .ref tl, .int (nI (0 + 4)), .int 0, .int 0, .int (-1), .int nt, .ref tb, .int 0, .ref ts, .ref tf, .ref tz, .ref tx, .ref th, .ref tw])), (tb, .inl (kB, 3000, .inl fb0))] := hD
  refine lv_aload_n hx hb dX12_feed_26 rfl (lv_at hl 0 rfl) ?_
  refine va_get (D := (dC, dI)) (ci := 12) (v := .ref h) (C := RX12) (T := TX12) (N := 14) hx hb hts in_c_feed_X12 hown hK hP 0 rfl rfl 0 (by decide) (hts (.fieldLink RX12 12 "OwnedPlaces" "text" "LOwnedPlaces$Text;") (wm_c_feed 1 rfl)) (fun _ h9 => h9) rfl dX12_feed_27 ?_
  refine lv_iload_n hx hb dX12_feed_30 rfl (lv_at hl 2 rfl) ?_
  have hPc := hP.sub (ws' := [(h, .inr (9, [.ref tk, .ref tp, .ref tn, .ref tu, .ref tl, .int (nI (0 + 4)), .int 0, .int 0, .int (-1), .int nt, .ref tb, .int 0, .ref ts, .ref tf, .ref tz, .ref tx, .ref th, .ref tw])), (tb, .inl (kB, 3000, .inl fb0))]) [1, 2] rfl
  have hDc := hD.sub (ws' := [(h, .inr (9, [.ref tk, .ref tp, .ref tn, .ref tu, .ref tl, .int (nI (0 + 4)), .int 0, .int 0, .int (-1), .int nt, .ref tb, .int 0, .ref ts, .ref tf, .ref tz, .ref tx, .ref th, .ref tw])), (tb, .inl (kB, 3000, .inl fb0))]) [1, 2] (by decide) rfl
  have hKc := hK.sub (tys' := [(kB, .byte)]) [0] rfl
  have hFc := va_free (wc := [(h, .inr (9, [.ref tk, .ref tp, .ref tn, .ref tu, .ref tl, .int (nI (0 + 4)), .int 0, .int 0, .int (-1), .int nt, .ref tb, .int 0, .ref ts, .ref tf, .ref tz, .ref tx, .ref th, .ref tw])), (tb, .inl (kB, 3000, .inl fb0))]) hD hS hA [1, 2] rfl
  refine va_callv (va_runV (As := [.int i1]) (rest := []) ⟨hx, hb, hml, hown, hts⟩ (c_append l dC dI h tk tp tn tu tl tb ts tf tz tx th tw nt kB (0 + 4) fb0 i1 H.size (by omega)) (cwV 1 hts g_c_feed_c_append_31 rfl rfl rfl (by decide +kernel) ⟨Nat.le_of_ble_eq_true rfl, Nat.le_of_ble_eq_true rfl⟩) ⟨fun a U g mk q => by obtain ⟨q0, q1, qP, qK, qD⟩ := q; exact ⟨q0, q1, qP, va_K.moved (u := U) (U := U.calling g mk a) (Vm.Alike.refl U.vm) qK, qD⟩, va_recv hKc hPc (ci := 9) (q0 := 0) rfl rfl, fun U hU hW => ⟨rfl, by rw [hU], by rw [hU]; exact hPc, va_K.moved hW.alike hKc, hDc.weaken (fun _ _ _ _ => trivial)⟩⟩ rfl rfl hl.1 rfl (lv_room (Nat.le_of_ble_eq_true rfl)) dX12_feed_31 ⟨(show 0 + 0 ≤ 0 by omega), (show 0 + 0 ≤ 0 by omega)⟩) hS (fun q _ h => hFc q h) hFc (fun u tS H1 locs ht hvm hw hB hz1 hk1 hS => ?_)
  obtain ⟨fb1, hP1, hK1, hD1⟩ := hB
  rw [ht] at hP1
  have hK1 := va_K.moved hvm.symm hK1
  obtain ⟨hP, hD⟩ := va_join (wr := [(x0, .inr (12, [.ref h, .ref g, .ref y, .ref d, .ref o1, .ref o2, .ref o3, .ref o4, .ref qn, .ref qw, .ref m0, .ref o5, .int 0, .int (-1)]))]) (w1 := [(h, .inr (9, [.ref tk, .ref tp, .ref tn, .ref tu, .ref tl, .int (nI ((0 + 4) + 4)), .int 0, .int 0, .int (-1), .int nt, .ref tb, .int 0, .ref ts, .ref tf, .ref tz, .ref tx, .ref th, .ref tw])), (tb, .inl (kB, 3000, .inl fb1))]) hP hD [1, 2] [0] rfl rfl (by decide) (by decide) hk1 hFc hP1 hD1
  have hK := hK.app hK1
  generalize H1 = H at hP hS ⊢
  have hP : va_P (dC, dI) vwCl [(x0, .inr (12, [.ref h, .ref g, .ref y, .ref d, .ref o1, .ref o2, .ref o3, .ref o4, .ref qn, .ref qw, .ref m0, .ref o5, .int 0, .int (-1)])), (h, .inr (9, [.ref tk, .ref tp, .ref tn, .ref tu, .ref tl, .int (nI ((0 + 4) + 4)), .int 0, .int 0, .int (-1), .int nt, .ref tb, .int 0, .ref ts, .ref tf, .ref tz, .ref tx, .ref th, .ref tw])), (tb, .inl (kB, 3000, .inl fb1))] H := hP
  have hD : va_D A [(x0, .inr (12, [.ref h, .ref g, .ref y, .ref d, .ref o1, .ref o2, .ref o3, .ref o4, .ref qn, .ref qw, .ref m0, .ref o5, .int 0, .int (-1)])), (h, .inr (9, [.ref tk, .ref tp, .ref tn, .ref tu, .ref tl, .int (nI ((0 + 4) + 4)), .int 0, .int 0, .int (-1), .int nt, .ref tb, .int 0, .ref ts, .ref tf, .ref tz, .ref tx, .ref th, .ref tw])), (tb, .inl (kB, 3000, .inl fb1))] := hD
  have hK : va_K (dC, dI) vwCl [(kB, .byte), (kB, .byte)] s := hK
  have hK := hK.sub (tys' := [(kB, .byte)]) [0] rfl
  have hP : va_P (dC, dI) vwCl [(x0, .inr (12, [.ref h, .ref g, .ref y, .ref d, .ref o1, .ref o2, .ref o3, .ref o4, .ref qn, .ref qw, .ref m0, .ref o5, .int 0, .int (-1)])), (h, .inr (9, [.ref tk, .ref tp, .ref tn, .ref tu, .ref tl, .int (nI ((0 + 4) + 4)), .int 0, .int 0, .int (-1), .int nt, .ref tb, .int 0, .ref ts, .ref tf, .ref tz, .ref tx, .ref th, .ref tw])), (tb, .inl (kB, 3000, .inl fb1))] H := hP
  have hD : va_D A [(x0, .inr (12, [.ref h, .ref g, .ref y, .ref d, .ref o1, .ref o2, .ref o3, .ref o4, .ref qn, .ref qw, .ref m0, .ref o5, .int 0, .int (-1)])), (h, .inr (9, [.ref tk, .ref tp, .ref tn, .ref tu, .ref tl, .int (nI ((0 + 4) + 4)), .int 0, .int 0, .int (-1), .int nt, .ref tb, .int 0, .ref ts, .ref tf, .ref tz, .ref tx, .ref th, .ref tw])), (tb, .inl (kB, 3000, .inl fb1))] := hD
  refine lv_aload_n hx hb dX12_feed_34 rfl (lv_at hl 0 rfl) ?_
  refine va_get (D := (dC, dI)) (ci := 12) (v := .ref h) (C := RX12) (T := TX12) (N := 14) hx hb hts in_c_feed_X12 hown hK hP 0 rfl rfl 0 (by decide) (hts (.fieldLink RX12 12 "OwnedPlaces" "text" "LOwnedPlaces$Text;") (wm_c_feed 1 rfl)) (fun _ h9 => h9) rfl dX12_feed_35 ?_
  refine lv_iload_n hx hb dX12_feed_38 rfl (lv_at hl 3 rfl) ?_
  have hPc := hP.sub (ws' := [(h, .inr (9, [.ref tk, .ref tp, .ref tn, .ref tu, .ref tl, .int (nI ((0 + 4) + 4)), .int 0, .int 0, .int (-1), .int nt, .ref tb, .int 0, .ref ts, .ref tf, .ref tz, .ref tx, .ref th, .ref tw])), (tb, .inl (kB, 3000, .inl fb1))]) [1, 2] rfl
  have hDc := hD.sub (ws' := [(h, .inr (9, [.ref tk, .ref tp, .ref tn, .ref tu, .ref tl, .int (nI ((0 + 4) + 4)), .int 0, .int 0, .int (-1), .int nt, .ref tb, .int 0, .ref ts, .ref tf, .ref tz, .ref tx, .ref th, .ref tw])), (tb, .inl (kB, 3000, .inl fb1))]) [1, 2] (by decide) rfl
  have hKc := hK.sub (tys' := [(kB, .byte)]) [0] rfl
  have hFc := va_free (wc := [(h, .inr (9, [.ref tk, .ref tp, .ref tn, .ref tu, .ref tl, .int (nI ((0 + 4) + 4)), .int 0, .int 0, .int (-1), .int nt, .ref tb, .int 0, .ref ts, .ref tf, .ref tz, .ref tx, .ref th, .ref tw])), (tb, .inl (kB, 3000, .inl fb1))]) hD hS hA [1, 2] rfl
  refine va_callv (va_runV (As := [.int i2]) (rest := []) ⟨hx, hb, hml, hown, hts⟩ (c_append l dC dI h tk tp tn tu tl tb ts tf tz tx th tw nt kB ((0 + 4) + 4) fb1 i2 H.size (by omega)) (cwV 1 hts g_c_feed_c_append_39 rfl rfl rfl (by decide +kernel) ⟨Nat.le_of_ble_eq_true rfl, Nat.le_of_ble_eq_true rfl⟩) ⟨fun a U g mk q => by obtain ⟨q0, q1, qP, qK, qD⟩ := q; exact ⟨q0, q1, qP, va_K.moved (u := U) (U := U.calling g mk a) (Vm.Alike.refl U.vm) qK, qD⟩, va_recv hKc hPc (ci := 9) (q0 := 0) rfl rfl, fun U hU hW => ⟨rfl, by rw [hU], by rw [hU]; exact hPc, va_K.moved hW.alike hKc, hDc.weaken (fun _ _ _ _ => trivial)⟩⟩ rfl rfl hl.1 rfl (lv_room (Nat.le_of_ble_eq_true rfl)) dX12_feed_39 ⟨(show 0 + 0 ≤ 0 by omega), (show 0 + 0 ≤ 0 by omega)⟩) hS (fun q _ h => hFc q h) hFc (fun u tS H1 locs ht hvm hw hB hz1 hk1 hS => ?_)
  obtain ⟨fb2, hP1, hK1, hD1⟩ := hB
  rw [ht] at hP1
  have hK1 := va_K.moved hvm.symm hK1
  obtain ⟨hP, hD⟩ := va_join (wr := [(x0, .inr (12, [.ref h, .ref g, .ref y, .ref d, .ref o1, .ref o2, .ref o3, .ref o4, .ref qn, .ref qw, .ref m0, .ref o5, .int 0, .int (-1)]))]) (w1 := [(h, .inr (9, [.ref tk, .ref tp, .ref tn, .ref tu, .ref tl, .int (nI (((0 + 4) + 4) + 4)), .int 0, .int 0, .int (-1), .int nt, .ref tb, .int 0, .ref ts, .ref tf, .ref tz, .ref tx, .ref th, .ref tw])), (tb, .inl (kB, 3000, .inl fb2))]) hP hD [1, 2] [0] rfl rfl (by decide) (by decide) hk1 hFc hP1 hD1
  have hK := hK.app hK1
  generalize H1 = H at hP hS ⊢
  have hP : va_P (dC, dI) vwCl [(x0, .inr (12, [.ref h, .ref g, .ref y, .ref d, .ref o1, .ref o2, .ref o3, .ref o4, .ref qn, .ref qw, .ref m0, .ref o5, .int 0, .int (-1)])), (h, .inr (9, [.ref tk, .ref tp, .ref tn, .ref tu, .ref tl, .int (nI (((0 + 4) + 4) + 4)), .int 0, .int 0, .int (-1), .int nt, .ref tb, .int 0, .ref ts, .ref tf, .ref tz, .ref tx, .ref th, .ref tw])), (tb, .inl (kB, 3000, .inl fb2))] H := hP
  have hD : va_D A [(x0, .inr (12, [.ref h, .ref g, .ref y, .ref d, .ref o1, .ref o2, .ref o3, .ref o4, .ref qn, .ref qw, .ref m0, .ref o5, .int 0, .int (-1)])), (h, .inr (9, [.ref tk, .ref tp, .ref tn, .ref tu, .ref tl, .int (nI (((0 + 4) + 4) + 4)), .int 0, .int 0, .int (-1), .int nt, .ref tb, .int 0, .ref ts, .ref tf, .ref tz, .ref tx, .ref th, .ref tw])), (tb, .inl (kB, 3000, .inl fb2))] := hD
  have hK : va_K (dC, dI) vwCl [(kB, .byte), (kB, .byte)] s := hK
  have hK := hK.sub (tys' := [(kB, .byte)]) [0] rfl
  have hP : va_P (dC, dI) vwCl [(x0, .inr (12, [.ref h, .ref g, .ref y, .ref d, .ref o1, .ref o2, .ref o3, .ref o4, .ref qn, .ref qw, .ref m0, .ref o5, .int 0, .int (-1)])), (h, .inr (9, [.ref tk, .ref tp, .ref tn, .ref tu, .ref tl, .int (nI (((0 + 4) + 4) + 4)), .int 0, .int 0, .int (-1), .int nt, .ref tb, .int 0, .ref ts, .ref tf, .ref tz, .ref tx, .ref th, .ref tw])), (tb, .inl (kB, 3000, .inl fb2))] H := hP
  have hD : va_D A [(x0, .inr (12, [.ref h, .ref g, .ref y, .ref d, .ref o1, .ref o2, .ref o3, .ref o4, .ref qn, .ref qw, .ref m0, .ref o5, .int 0, .int (-1)])), (h, .inr (9, [.ref tk, .ref tp, .ref tn, .ref tu, .ref tl, .int (nI (((0 + 4) + 4) + 4)), .int 0, .int 0, .int (-1), .int nt, .ref tb, .int 0, .ref ts, .ref tf, .ref tz, .ref tx, .ref th, .ref tw])), (tb, .inl (kB, 3000, .inl fb2))] := hD
  refine lv_aload_n hx hb dX12_feed_42 rfl (lv_at hl 0 rfl) ?_
  refine va_get (D := (dC, dI)) (ci := 12) (v := .ref h) (C := RX12) (T := TX12) (N := 14) hx hb hts in_c_feed_X12 hown hK hP 0 rfl rfl 0 (by decide) (hts (.fieldLink RX12 12 "OwnedPlaces" "text" "LOwnedPlaces$Text;") (wm_c_feed 1 rfl)) (fun _ h9 => h9) rfl dX12_feed_43 ?_
  refine lv_iload hx hb dX12_feed_46 (lv_at hl 4 rfl) ?_
  have hPc := hP.sub (ws' := [(h, .inr (9, [.ref tk, .ref tp, .ref tn, .ref tu, .ref tl, .int (nI (((0 + 4) + 4) + 4)), .int 0, .int 0, .int (-1), .int nt, .ref tb, .int 0, .ref ts, .ref tf, .ref tz, .ref tx, .ref th, .ref tw])), (tb, .inl (kB, 3000, .inl fb2))]) [1, 2] rfl
  have hDc := hD.sub (ws' := [(h, .inr (9, [.ref tk, .ref tp, .ref tn, .ref tu, .ref tl, .int (nI (((0 + 4) + 4) + 4)), .int 0, .int 0, .int (-1), .int nt, .ref tb, .int 0, .ref ts, .ref tf, .ref tz, .ref tx, .ref th, .ref tw])), (tb, .inl (kB, 3000, .inl fb2))]) [1, 2] (by decide) rfl
  have hKc := hK.sub (tys' := [(kB, .byte)]) [0] rfl
  have hFc := va_free (wc := [(h, .inr (9, [.ref tk, .ref tp, .ref tn, .ref tu, .ref tl, .int (nI (((0 + 4) + 4) + 4)), .int 0, .int 0, .int (-1), .int nt, .ref tb, .int 0, .ref ts, .ref tf, .ref tz, .ref tx, .ref th, .ref tw])), (tb, .inl (kB, 3000, .inl fb2))]) hD hS hA [1, 2] rfl
  refine va_callv (va_runV (As := [.int i3]) (rest := []) ⟨hx, hb, hml, hown, hts⟩ (c_append l dC dI h tk tp tn tu tl tb ts tf tz tx th tw nt kB (((0 + 4) + 4) + 4) fb2 i3 H.size (by omega)) (cwV 1 hts g_c_feed_c_append_48 rfl rfl rfl (by decide +kernel) ⟨Nat.le_of_ble_eq_true rfl, Nat.le_of_ble_eq_true rfl⟩) ⟨fun a U g mk q => by obtain ⟨q0, q1, qP, qK, qD⟩ := q; exact ⟨q0, q1, qP, va_K.moved (u := U) (U := U.calling g mk a) (Vm.Alike.refl U.vm) qK, qD⟩, va_recv hKc hPc (ci := 9) (q0 := 0) rfl rfl, fun U hU hW => ⟨rfl, by rw [hU], by rw [hU]; exact hPc, va_K.moved hW.alike hKc, hDc.weaken (fun _ _ _ _ => trivial)⟩⟩ rfl rfl hl.1 rfl (lv_room (Nat.le_of_ble_eq_true rfl)) dX12_feed_48 ⟨(show 0 + 0 ≤ 0 by omega), (show 0 + 0 ≤ 0 by omega)⟩) hS (fun q _ h => hFc q h) hFc (fun u tS H1 locs ht hvm hw hB hz1 hk1 hS => ?_)
  obtain ⟨fb3, hP1, hK1, hD1⟩ := hB
  rw [ht] at hP1
  have hK1 := va_K.moved hvm.symm hK1
  obtain ⟨hP, hD⟩ := va_join (wr := [(x0, .inr (12, [.ref h, .ref g, .ref y, .ref d, .ref o1, .ref o2, .ref o3, .ref o4, .ref qn, .ref qw, .ref m0, .ref o5, .int 0, .int (-1)]))]) (w1 := [(h, .inr (9, [.ref tk, .ref tp, .ref tn, .ref tu, .ref tl, .int (nI ((((0 + 4) + 4) + 4) + 4)), .int 0, .int 0, .int (-1), .int nt, .ref tb, .int 0, .ref ts, .ref tf, .ref tz, .ref tx, .ref th, .ref tw])), (tb, .inl (kB, 3000, .inl fb3))]) hP hD [1, 2] [0] rfl rfl (by decide) (by decide) hk1 hFc hP1 hD1
  have hK := hK.app hK1
  generalize H1 = H at hP hS ⊢
  have hP : va_P (dC, dI) vwCl [(x0, .inr (12, [.ref h, .ref g, .ref y, .ref d, .ref o1, .ref o2, .ref o3, .ref o4, .ref qn, .ref qw, .ref m0, .ref o5, .int 0, .int (-1)])), (h, .inr (9, [.ref tk, .ref tp, .ref tn, .ref tu, .ref tl, .int (nI ((((0 + 4) + 4) + 4) + 4)), .int 0, .int 0, .int (-1), .int nt, .ref tb, .int 0, .ref ts, .ref tf, .ref tz, .ref tx, .ref th, .ref tw])), (tb, .inl (kB, 3000, .inl fb3))] H := hP
  have hD : va_D A [(x0, .inr (12, [.ref h, .ref g, .ref y, .ref d, .ref o1, .ref o2, .ref o3, .ref o4, .ref qn, .ref qw, .ref m0, .ref o5, .int 0, .int (-1)])), (h, .inr (9, [.ref tk, .ref tp, .ref tn, .ref tu, .ref tl, .int (nI ((((0 + 4) + 4) + 4) + 4)), .int 0, .int 0, .int (-1), .int nt, .ref tb, .int 0, .ref ts, .ref tf, .ref tz, .ref tx, .ref th, .ref tw])), (tb, .inl (kB, 3000, .inl fb3))] := hD
  have hK : va_K (dC, dI) vwCl [(kB, .byte), (kB, .byte)] s := hK
  have hK := hK.sub (tys' := [(kB, .byte)]) [0] rfl
  have hP : va_P (dC, dI) vwCl [(x0, .inr (12, [.ref h, .ref g, .ref y, .ref d, .ref o1, .ref o2, .ref o3, .ref o4, .ref qn, .ref qw, .ref m0, .ref o5, .int 0, .int (-1)])), (h, .inr (9, [.ref tk, .ref tp, .ref tn, .ref tu, .ref tl, .int (nI ((((0 + 4) + 4) + 4) + 4)), .int 0, .int 0, .int (-1), .int nt, .ref tb, .int 0, .ref ts, .ref tf, .ref tz, .ref tx, .ref th, .ref tw])), (tb, .inl (kB, 3000, .inl fb3))] H := hP
  have hD : va_D A [(x0, .inr (12, [.ref h, .ref g, .ref y, .ref d, .ref o1, .ref o2, .ref o3, .ref o4, .ref qn, .ref qw, .ref m0, .ref o5, .int 0, .int (-1)])), (h, .inr (9, [.ref tk, .ref tp, .ref tn, .ref tu, .ref tl, .int (nI ((((0 + 4) + 4) + 4) + 4)), .int 0, .int 0, .int (-1), .int nt, .ref tb, .int 0, .ref ts, .ref tf, .ref tz, .ref tx, .ref th, .ref tw])), (tb, .inl (kB, 3000, .inl fb3))] := hD
  refine lv_aload_n hx hb dX12_feed_51 rfl (lv_at hl 0 rfl) ?_
  refine va_get (D := (dC, dI)) (ci := 12) (v := .ref h) (C := RX12) (T := TX12) (N := 14) hx hb hts in_c_feed_X12 hown hK hP 0 rfl rfl 0 (by decide) (hts (.fieldLink RX12 12 "OwnedPlaces" "text" "LOwnedPlaces$Text;") (wm_c_feed 1 rfl)) (fun _ h9 => h9) rfl dX12_feed_52 ?_
  refine lv_iload hx hb dX12_feed_55 (lv_at hl 5 rfl) ?_
  have hPc := hP.sub (ws' := [(h, .inr (9, [.ref tk, .ref tp, .ref tn, .ref tu, .ref tl, .int (nI ((((0 + 4) + 4) + 4) + 4)), .int 0, .int 0, .int (-1), .int nt, .ref tb, .int 0, .ref ts, .ref tf, .ref tz, .ref tx, .ref th, .ref tw])), (tb, .inl (kB, 3000, .inl fb3))]) [1, 2] rfl
  have hDc := hD.sub (ws' := [(h, .inr (9, [.ref tk, .ref tp, .ref tn, .ref tu, .ref tl, .int (nI ((((0 + 4) + 4) + 4) + 4)), .int 0, .int 0, .int (-1), .int nt, .ref tb, .int 0, .ref ts, .ref tf, .ref tz, .ref tx, .ref th, .ref tw])), (tb, .inl (kB, 3000, .inl fb3))]) [1, 2] (by decide) rfl
  have hKc := hK.sub (tys' := [(kB, .byte)]) [0] rfl
  have hFc := va_free (wc := [(h, .inr (9, [.ref tk, .ref tp, .ref tn, .ref tu, .ref tl, .int (nI ((((0 + 4) + 4) + 4) + 4)), .int 0, .int 0, .int (-1), .int nt, .ref tb, .int 0, .ref ts, .ref tf, .ref tz, .ref tx, .ref th, .ref tw])), (tb, .inl (kB, 3000, .inl fb3))]) hD hS hA [1, 2] rfl
  refine va_callv (va_runV (As := [.int i4]) (rest := []) ⟨hx, hb, hml, hown, hts⟩ (c_append l dC dI h tk tp tn tu tl tb ts tf tz tx th tw nt kB ((((0 + 4) + 4) + 4) + 4) fb3 i4 H.size (by omega)) (cwV 1 hts g_c_feed_c_append_57 rfl rfl rfl (by decide +kernel) ⟨Nat.le_of_ble_eq_true rfl, Nat.le_of_ble_eq_true rfl⟩) ⟨fun a U g mk q => by obtain ⟨q0, q1, qP, qK, qD⟩ := q; exact ⟨q0, q1, qP, va_K.moved (u := U) (U := U.calling g mk a) (Vm.Alike.refl U.vm) qK, qD⟩, va_recv hKc hPc (ci := 9) (q0 := 0) rfl rfl, fun U hU hW => ⟨rfl, by rw [hU], by rw [hU]; exact hPc, va_K.moved hW.alike hKc, hDc.weaken (fun _ _ _ _ => trivial)⟩⟩ rfl rfl hl.1 rfl (lv_room (Nat.le_of_ble_eq_true rfl)) dX12_feed_57 ⟨(show 0 + 0 ≤ 0 by omega), (show 0 + 0 ≤ 0 by omega)⟩) hS (fun q _ h => hFc q h) hFc (fun u tS H1 locs ht hvm hw hB hz1 hk1 hS => ?_)
  obtain ⟨fb4, hP1, hK1, hD1⟩ := hB
  rw [ht] at hP1
  have hK1 := va_K.moved hvm.symm hK1
  obtain ⟨hP, hD⟩ := va_join (wr := [(x0, .inr (12, [.ref h, .ref g, .ref y, .ref d, .ref o1, .ref o2, .ref o3, .ref o4, .ref qn, .ref qw, .ref m0, .ref o5, .int 0, .int (-1)]))]) (w1 := [(h, .inr (9, [.ref tk, .ref tp, .ref tn, .ref tu, .ref tl, .int (nI (((((0 + 4) + 4) + 4) + 4) + 4)), .int 0, .int 0, .int (-1), .int nt, .ref tb, .int 0, .ref ts, .ref tf, .ref tz, .ref tx, .ref th, .ref tw])), (tb, .inl (kB, 3000, .inl fb4))]) hP hD [1, 2] [0] rfl rfl (by decide) (by decide) hk1 hFc hP1 hD1
  have hK := hK.app hK1
  generalize H1 = H at hP hS ⊢
  have hP : va_P (dC, dI) vwCl [(x0, .inr (12, [.ref h, .ref g, .ref y, .ref d, .ref o1, .ref o2, .ref o3, .ref o4, .ref qn, .ref qw, .ref m0, .ref o5, .int 0, .int (-1)])), (h, .inr (9, [.ref tk, .ref tp, .ref tn, .ref tu, .ref tl, .int (nI (((((0 + 4) + 4) + 4) + 4) + 4)), .int 0, .int 0, .int (-1), .int nt, .ref tb, .int 0, .ref ts, .ref tf, .ref tz, .ref tx, .ref th, .ref tw])), (tb, .inl (kB, 3000, .inl fb4))] H := hP
  have hD : va_D A [(x0, .inr (12, [.ref h, .ref g, .ref y, .ref d, .ref o1, .ref o2, .ref o3, .ref o4, .ref qn, .ref qw, .ref m0, .ref o5, .int 0, .int (-1)])), (h, .inr (9, [.ref tk, .ref tp, .ref tn, .ref tu, .ref tl, .int (nI (((((0 + 4) + 4) + 4) + 4) + 4)), .int 0, .int 0, .int (-1), .int nt, .ref tb, .int 0, .ref ts, .ref tf, .ref tz, .ref tx, .ref th, .ref tw])), (tb, .inl (kB, 3000, .inl fb4))] := hD
  have hK : va_K (dC, dI) vwCl [(kB, .byte), (kB, .byte)] s := hK
  have hK := hK.sub (tys' := [(kB, .byte)]) [0] rfl
  have hP : va_P (dC, dI) vwCl [(x0, .inr (12, [.ref h, .ref g, .ref y, .ref d, .ref o1, .ref o2, .ref o3, .ref o4, .ref qn, .ref qw, .ref m0, .ref o5, .int 0, .int (-1)])), (h, .inr (9, [.ref tk, .ref tp, .ref tn, .ref tu, .ref tl, .int (nI (((((0 + 4) + 4) + 4) + 4) + 4)), .int 0, .int 0, .int (-1), .int nt, .ref tb, .int 0, .ref ts, .ref tf, .ref tz, .ref tx, .ref th, .ref tw])), (tb, .inl (kB, 3000, .inl fb4))] H := hP
  have hD : va_D A [(x0, .inr (12, [.ref h, .ref g, .ref y, .ref d, .ref o1, .ref o2, .ref o3, .ref o4, .ref qn, .ref qw, .ref m0, .ref o5, .int 0, .int (-1)])), (h, .inr (9, [.ref tk, .ref tp, .ref tn, .ref tu, .ref tl, .int (nI (((((0 + 4) + 4) + 4) + 4) + 4)), .int 0, .int 0, .int (-1), .int nt, .ref tb, .int 0, .ref ts, .ref tf, .ref tz, .ref tx, .ref th, .ref tw])), (tb, .inl (kB, 3000, .inl fb4))] := hD
  refine lv_iconst (v := 1) hx hb dX12_feed_60 (by decide) ?_
  exact W.zret (v := 1) hx hb hr (by decide) (fun tS ht hW => ⟨⟨1, (), rfl, rfl, trivial⟩, hS.F ht⟩) hS.2.2 dX12_feed_61
def wf_c_put : List Cond := [.code yX8_put cX8_put 3 (some .boolean), .fieldLink RX8 17 "OwnedPlaces$Queue" "size" "I", .fieldLink RX8 13 "OwnedPlaces$Queue" "row" "[J", .fieldLink RX8 21 "OwnedPlaces$Queue" "first" "I"]
def wp_c_put : List Cond := wf_c_put ++ (wsX80 ++ [])
theorem in_c_put_X8 : ∀ w ∈ wsX80, w ∈ wp_c_put := fun w h => List.mem_append_right _ (List.mem_append_left _ h)
theorem wg_c_put : wf_c_put.all goodWord = true := by decide +kernel
theorem wm_c_put (k : Nat) {w : Cond} (h : wp_c_put[k]? = some w) : w ∈ wp_c_put := List.mem_of_getElem? h
set_option maxHeartbeats 4000000 in
set_option maxRecDepth 100000 in
theorem c_put (l : Launch) (dC : Nat → ClassId) (dI : Nat → Nat → Nat) (qn qr qd : Nat) (kL : ClassId) (v : Int64) (sz : Nat) : Met l yX8_put wp_c_put ({ frames := 0, cells := 0, slots := 0, locals := 0 }) (va_Pc [.ref qn, .long v] (fun U => U.heap.size = sz ∧ va_P (dC, dI) vwCl [(qn, .inr (8, [.ref qr, .ref qd, .int 0, .int 0])), (qr, .inl (kL, 60, .inr (.inl (fun _ => 0))))] U.heap ∧ va_K (dC, dI) vwCl [(kL, .long)] U ∧ va_D (fun _ => True) [(qn, .inr (8, [.ref qr, .ref qd, .int 0, .int 0])), (qr, .inl (kL, 60, .inr (.inl (fun _ => 0))))])) (va_Qi (fun (r : Int32) (_ : Unit) => r = 1) (fun (_ : Unit) (_ : State) => True) (va_A [(qn, .inr (8, [.ref qr, .ref qd, .int 0, .int 0])), (qr, .inl (kL, 60, .inr (.inl (fun _ => 0))))] sz)) 0 0 (va_A [(qn, .inr (8, [.ref qr, .ref qd, .int 0, .int 0])), (qr, .inl (kL, 60, .inr (.inl (fun _ => 0))))] sz) := by
  refine Met.ofW (cc := cX8_put) (maxL := 3) (ret := (some .boolean)) (by decide) rfl ?_
  intro p e s m args below meth c s₁ B hml hv
  obtain ⟨rfl, hsz, hP, hK, hD0⟩ := hv
  have hx := B.exec
  have hb := B.bytes
  have hr := B.returns
  have hts := atoms_spec (ws := wp_c_put) B.pre
  have hown : s.vm.findClass RX8 = some m.cls := findClass_of_methodNamed B.named
  have hlocks := B.notSynchronized
  subst hsz
  have hD := hD0.self (sz := s.heap.size)
  generalize hAe : va_A [(qn, .inr (8, [.ref qr, .ref qd, .int 0, .int 0])), (qr, .inl (kL, 60, .inr (.inl (fun _ => 0))))] s.heap.size = A at hD ⊢
  have hA : ∀ q : Nat, s.heap.size ≤ q → A q := fun q h => by rw [← hAe]; exact Or.inr h
  have hS : va_S A s.heap s.heap [] := va_S.rf
  have hP : va_P (dC, dI) vwCl [(qn, .inr (8, [.ref qr, .ref qd, .int 0, .int 0])), (qr, .inl (kL, 60, .inr (.inl (fun _ => 0))))] s.heap := hP
  have hl := lv_entry ([.ref qn, .long v]) (n := 3) (Nat.le_of_ble_eq_true rfl)
  rw [lg_entry_eq]
  generalize (lg_sl ([.ref qn, .long v]) ++ List.replicate (3 - (lg_sl ([.ref qn, .long v])).length) Slot.unset).toArray = ls at hl ⊢
  have hl : lv_has ls 3 [(0, .ref qn), (1, .long v)] := hl
  refine lv_aload_n hx hb dX8_put_0 rfl (lv_at hl 0 rfl) ?_
  refine va_get (D := (dC, dI)) (ci := 8) (v := .int 0) (C := RX8) (T := TX8) (N := 4) hx hb hts in_c_put_X8 hown hK hP 0 rfl rfl 3 (by decide) (hts (.fieldLink RX8 17 "OwnedPlaces$Queue" "size" "I") (wm_c_put 1 rfl)) (fun _ h9 => h9) rfl dX8_put_1 ?_
  refine lv_aload_n hx hb dX8_put_4 rfl (lv_at hl 0 rfl) ?_
  refine va_get (D := (dC, dI)) (ci := 8) (v := .ref qr) (C := RX8) (T := TX8) (N := 4) hx hb hts in_c_put_X8 hown hK hP 0 rfl rfl 0 (by decide) (hts (.fieldLink RX8 13 "OwnedPlaces$Queue" "row" "[J") (wm_c_put 2 rfl)) (fun _ h9 => h9) rfl dX8_put_5 ?_
  refine va_alen (v := 60) hx hb hK hP 1 0 rfl rfl rfl dX8_put_8 ?_
  refine lv_icmp_ne (tgt := 14) hx hb dX8_put_9 (by decide) (fun _ => ?_) (fun c_1 => absurd c_1 (by decide))
  refine lv_aload_n hx hb dX8_put_14 rfl (lv_at hl 0 rfl) ?_
  refine va_get (D := (dC, dI)) (ci := 8) (v := .ref qr) (C := RX8) (T := TX8) (N := 4) hx hb hts in_c_put_X8 hown hK hP 0 rfl rfl 0 (by decide) (hts (.fieldLink RX8 13 "OwnedPlaces$Queue" "row" "[J") (wm_c_put 2 rfl)) (fun _ h9 => h9) rfl dX8_put_15 ?_
  refine lv_aload_n hx hb dX8_put_18 rfl (lv_at hl 0 rfl) ?_
  refine va_get (D := (dC, dI)) (ci := 8) (v := .int 0) (C := RX8) (T := TX8) (N := 4) hx hb hts in_c_put_X8 hown hK hP 0 rfl rfl 2 (by decide) (hts (.fieldLink RX8 21 "OwnedPlaces$Queue" "first" "I") (wm_c_put 3 rfl)) (fun _ h9 => h9) rfl dX8_put_19 ?_
  refine lv_aload_n hx hb dX8_put_22 rfl (lv_at hl 0 rfl) ?_
  refine va_get (D := (dC, dI)) (ci := 8) (v := .int 0) (C := RX8) (T := TX8) (N := 4) hx hb hts in_c_put_X8 hown hK hP 0 rfl rfl 3 (by decide) (hts (.fieldLink RX8 17 "OwnedPlaces$Queue" "size" "I") (wm_c_put 1 rfl)) (fun _ h9 => h9) rfl dX8_put_23 ?_
  refine lv_iadd hx hb dX8_put_26 ?_
  refine lv_topi (fun f_2 ef_2 => ?_)
  obtain rfl : f_2 = 0 := ef_2.trans (by decide)
  refine lv_aload_n hx hb dX8_put_27 rfl (lv_at hl 0 rfl) ?_
  refine va_get (D := (dC, dI)) (ci := 8) (v := .ref qr) (C := RX8) (T := TX8) (N := 4) hx hb hts in_c_put_X8 hown hK hP 0 rfl rfl 0 (by decide) (hts (.fieldLink RX8 13 "OwnedPlaces$Queue" "row" "[J") (wm_c_put 2 rfl)) (fun _ h9 => h9) rfl dX8_put_28 ?_
  refine va_alen (v := 60) hx hb hK hP 1 0 rfl rfl rfl dX8_put_31 ?_
  refine lv_irem hx hb dX8_put_32 (by decide) ?_
  refine lv_topi (fun f_3 ef_3 => ?_)
  obtain rfl : f_3 = 0 := ef_3.trans (by decide)
  refine lv_lload_n hx hb dX8_put_33 rfl (lv_at hl 1 rfl) ?_
  refine va_last hx hb hK hP hD hS 1 0 rfl rfl (by unfold vp_in; decide) dX8_put_34 (fun H locs hP hD hS => ?_)
  have hP : va_P (dC, dI) vwCl [(qn, .inr (8, [.ref qr, .ref qd, .int 0, .int 0])), (qr, .inl (kL, 60, .inr (.inl (vp_updL (fun _ => 0) (0 : Int32).toNatClampNeg v))))] H := hP
  have hD : va_D A [(qn, .inr (8, [.ref qr, .ref qd, .int 0, .int 0])), (qr, .inl (kL, 60, .inr (.inl (vp_updL (fun _ => 0) (0 : Int32).toNatClampNeg v))))] := hD
  obtain ⟨fr1, efr1⟩ : ∃ zZ : Nat → Int64, zZ = vp_updL (fun _ => 0) (0 : Int32).toNatClampNeg v := ⟨_, rfl⟩
  rw [← efr1] at hP hD
  refine lv_aload_n hx hb dX8_put_35 rfl (lv_at hl 0 rfl) ?_
  refine lv_dup hx hb dX8_put_36 rfl ?_
  refine va_get (D := (dC, dI)) (ci := 8) (v := .int 0) (C := RX8) (T := TX8) (N := 4) hx hb hts in_c_put_X8 hown hK hP 0 rfl rfl 3 (by decide) (hts (.fieldLink RX8 17 "OwnedPlaces$Queue" "size" "I") (wm_c_put 1 rfl)) (fun _ h9 => h9) rfl dX8_put_37 ?_
  refine lv_iconst (v := 1) hx hb dX8_put_40 (by decide) ?_
  refine lv_iadd hx hb dX8_put_41 ?_
  refine lv_topi (fun f_4 ef_4 => ?_)
  obtain rfl : f_4 = 1 := ef_4.trans (by decide)
  refine va_put (D := (dC, dI)) (ci := 8) (v := .int 1) (ty := .int) (C := RX8) (T := TX8) (N := 4) hx hb hts in_c_put_X8 tyX8 tyX8_ok nmX8 hown hK hP hD hS 0 rfl rfl 3 (by decide) (hts (.fieldLink RX8 17 "OwnedPlaces$Queue" "size" "I") (wm_c_put 1 rfl)) (fun _ h9 => h9) rfl (by decide +kernel) rfl rfl (Nat.le_of_ble_eq_true rfl) dX8_put_42 (fun H locs hP hD hS => ?_)
  have hP : va_P (dC, dI) vwCl [(qn, .inr (8, [.ref qr, .ref qd, .int 0, .int 1])), (qr, .inl (kL, 60, .inr (.inl fr1)))] H := hP
  have hD : va_D A [(qn, .inr (8, [.ref qr, .ref qd, .int 0, .int 1])), (qr, .inl (kL, 60, .inr (.inl fr1)))] := hD
  refine lv_iconst (v := 1) hx hb dX8_put_45 (by decide) ?_
  exact W.zret (v := 1) hx hb hr (by decide) (fun tS ht hW => ⟨⟨1, (), rfl, rfl, trivial⟩, hS.F ht⟩) hS.2.2 dX8_put_46
def wf_c_input : List Cond := [.code yX12_input cX12_input 3 (some .boolean), .fieldLink RX12 80 "OwnedPlaces" "numbers" "LOwnedPlaces$Queue;", .code yX8_put cX8_put 3 (some .boolean), .fieldLink RX8 17 "OwnedPlaces$Queue" "size" "I", .fieldLink RX8 13 "OwnedPlaces$Queue" "row" "[J", .fieldLink RX8 21 "OwnedPlaces$Queue" "first" "I", .methodLink RX12 115 yX8_put, .instanceMethod yX8_put, .selects RX8 yX8_put yX8_put, .initialized RX8]
def wp_c_input : List Cond := wf_c_input ++ (wsX120 ++ (wsX80 ++ []))
theorem in_c_input_X12 : ∀ w ∈ wsX120, w ∈ wp_c_input := fun w h => List.mem_append_right _ (List.mem_append_left _ h)
theorem in_c_input_X8 : ∀ w ∈ wsX80, w ∈ wp_c_input := fun w h => List.mem_append_right _ (List.mem_append_right _ (List.mem_append_left _ h))
theorem wg_c_input : wf_c_input.all goodWord = true := by decide +kernel
theorem wm_c_input (k : Nat) {w : Cond} (h : wp_c_input[k]? = some w) : w ∈ wp_c_input := List.mem_of_getElem? h
set_option maxRecDepth 20000 in
theorem g_c_input_c_put_5 : GoodIn wp_c_input (wsV RX12 115 RX8 yX8_put wp_c_put) := goodIn_app (goodIn_f [.methodLink RX12 115 yX8_put, .instanceMethod yX8_put, .selects RX8 yX8_put yX8_put, .initialized RX8] [6, 7, 8, 9] rfl (by decide +kernel)) (goodIn_app (goodIn_f (wf_c_put) [2, 3, 4, 5] rfl wg_c_put) (goodIn_app (goodIn_sub in_c_input_X8 gd_X8) (goodIn_n)))
set_option maxHeartbeats 4000000 in
set_option maxRecDepth 100000 in
theorem c_input (l : Launch) (dC : Nat → ClassId) (dI : Nat → Nat → Nat) (x0 : Nat) (h g y d o1 o2 o3 o4 o5 qn qw m0 : Nat) (qr qd : Nat) (kL : ClassId) (v : Int64) (sz : Nat) : Met l yX12_input wp_c_input ({ frames := 1, cells := 0, slots := 0, locals := 22 }) (va_Pc [.ref x0, .long v] (fun U => U.heap.size = sz ∧ va_P (dC, dI) vwCl [(x0, .inr (12, [.ref h, .ref g, .ref y, .ref d, .ref o1, .ref o2, .ref o3, .ref o4, .ref qn, .ref qw, .ref m0, .ref o5, .int 0, .int (-1)])), (qn, .inr (8, [.ref qr, .ref qd, .int 0, .int 0])), (qr, .inl (kL, 60, .inr (.inl (fun _ => 0))))] U.heap ∧ va_K (dC, dI) vwCl [(kL, .long)] U ∧ va_D (fun _ => True) [(x0, .inr (12, [.ref h, .ref g, .ref y, .ref d, .ref o1, .ref o2, .ref o3, .ref o4, .ref qn, .ref qw, .ref m0, .ref o5, .int 0, .int (-1)])), (qn, .inr (8, [.ref qr, .ref qd, .int 0, .int 0])), (qr, .inl (kL, 60, .inr (.inl (fun _ => 0))))])) (va_Qi (fun (r : Int32) (_ : Unit) => r = 1) (fun (_ : Unit) (_ : State) => True) (va_A [(x0, .inr (12, [.ref h, .ref g, .ref y, .ref d, .ref o1, .ref o2, .ref o3, .ref o4, .ref qn, .ref qw, .ref m0, .ref o5, .int 0, .int (-1)])), (qn, .inr (8, [.ref qr, .ref qd, .int 0, .int 0])), (qr, .inl (kL, 60, .inr (.inl (fun _ => 0))))] sz)) 0 0 (va_A [(x0, .inr (12, [.ref h, .ref g, .ref y, .ref d, .ref o1, .ref o2, .ref o3, .ref o4, .ref qn, .ref qw, .ref m0, .ref o5, .int 0, .int (-1)])), (qn, .inr (8, [.ref qr, .ref qd, .int 0, .int 0])), (qr, .inl (kL, 60, .inr (.inl (fun _ => 0))))] sz) := by
  refine Met.ofW (cc := cX12_input) (maxL := 3) (ret := (some .boolean)) (by decide) rfl ?_
  intro p e s m args below meth c s₁ B hml hv
  obtain ⟨rfl, hsz, hP, hK, hD0⟩ := hv
  have hx := B.exec
  have hb := B.bytes
  have hr := B.returns
  have hts := atoms_spec (ws := wp_c_input) B.pre
  have hown : s.vm.findClass RX12 = some m.cls := findClass_of_methodNamed B.named
  have hlocks := B.notSynchronized
  subst hsz
  have hD := hD0.self (sz := s.heap.size)
  generalize hAe : va_A [(x0, .inr (12, [.ref h, .ref g, .ref y, .ref d, .ref o1, .ref o2, .ref o3, .ref o4, .ref qn, .ref qw, .ref m0, .ref o5, .int 0, .int (-1)])), (qn, .inr (8, [.ref qr, .ref qd, .int 0, .int 0])), (qr, .inl (kL, 60, .inr (.inl (fun _ => 0))))] s.heap.size = A at hD ⊢
  have hA : ∀ q : Nat, s.heap.size ≤ q → A q := fun q h => by rw [← hAe]; exact Or.inr h
  have hS : va_S A s.heap s.heap [] := va_S.rf
  have hP : va_P (dC, dI) vwCl [(x0, .inr (12, [.ref h, .ref g, .ref y, .ref d, .ref o1, .ref o2, .ref o3, .ref o4, .ref qn, .ref qw, .ref m0, .ref o5, .int 0, .int (-1)])), (qn, .inr (8, [.ref qr, .ref qd, .int 0, .int 0])), (qr, .inl (kL, 60, .inr (.inl (fun _ => 0))))] s.heap := hP
  have hl := lv_entry ([.ref x0, .long v]) (n := 3) (Nat.le_of_ble_eq_true rfl)
  rw [lg_entry_eq]
  generalize (lg_sl ([.ref x0, .long v]) ++ List.replicate (3 - (lg_sl ([.ref x0, .long v])).length) Slot.unset).toArray = ls at hl ⊢
  have hl : lv_has ls 3 [(0, .ref x0), (1, .long v)] := hl
  refine lv_aload_n hx hb dX12_input_0 rfl (lv_at hl 0 rfl) ?_
  refine va_get (D := (dC, dI)) (ci := 12) (v := .ref qn) (C := RX12) (T := TX12) (N := 14) hx hb hts in_c_input_X12 hown hK hP 0 rfl rfl 8 (by decide) (hts (.fieldLink RX12 80 "OwnedPlaces" "numbers" "LOwnedPlaces$Queue;") (wm_c_input 1 rfl)) (fun _ h9 => h9) rfl dX12_input_1 ?_
  refine lv_lload_n hx hb dX12_input_4 rfl (lv_at hl 1 rfl) ?_
  have hPc := hP.sub (ws' := [(qn, .inr (8, [.ref qr, .ref qd, .int 0, .int 0])), (qr, .inl (kL, 60, .inr (.inl (fun _ => 0))))]) [1, 2] rfl
  have hDc := hD.sub (ws' := [(qn, .inr (8, [.ref qr, .ref qd, .int 0, .int 0])), (qr, .inl (kL, 60, .inr (.inl (fun _ => 0))))]) [1, 2] (by decide) rfl
  have hKc := hK.sub (tys' := [(kL, .long)]) [0] rfl
  have hFc := va_free (wc := [(qn, .inr (8, [.ref qr, .ref qd, .int 0, .int 0])), (qr, .inl (kL, 60, .inr (.inl (fun _ => 0))))]) hD hS hA [1, 2] rfl
  refine va_calli (va_runV (As := [.long v]) (rest := []) ⟨hx, hb, hml, hown, hts⟩ (c_put l dC dI qn qr qd kL v s.heap.size) (cwV 1 hts g_c_input_c_put_5 rfl rfl rfl (by decide +kernel) ⟨Nat.le_of_ble_eq_true rfl, Nat.le_of_ble_eq_true rfl⟩) ⟨fun a U g mk q => by obtain ⟨q0, q1, qP, qK, qD⟩ := q; exact ⟨q0, q1, qP, va_K.moved (u := U) (U := U.calling g mk a) (Vm.Alike.refl U.vm) qK, qD⟩, va_recv hKc hPc (ci := 8) (q0 := 0) rfl rfl, fun U hU hW => ⟨rfl, by rw [hU], by rw [hU]; exact hPc, va_K.moved hW.alike hKc, hDc.weaken (fun _ _ _ _ => trivial)⟩⟩ rfl rfl hl.1 rfl (lv_room (Nat.le_of_ble_eq_true rfl)) dX12_input_5 ⟨(show 0 + 0 ≤ 0 by omega), (show 0 + 0 ≤ 0 by omega)⟩) hS (fun q _ h => hFc q h) hFc (fun r_1 u tS H1 locs ht hvm hw hB hz1 hk1 hS => ?_)
  have hP1 : va_P (dC, dI) vwCl [] H1 := fun k q h => by simp at h
  have hD1 : va_D (va_A [(qn, .inr (8, [.ref qr, .ref qd, .int 0, .int 0])), (qr, .inl (kL, 60, .inr (.inl (fun _ => 0))))] s.heap.size) [] := ⟨fun i j p q h => by simp at h, fun k q h => by simp at h⟩
  obtain ⟨hP, hD⟩ := va_join (wr := [(x0, .inr (12, [.ref h, .ref g, .ref y, .ref d, .ref o1, .ref o2, .ref o3, .ref o4, .ref qn, .ref qw, .ref m0, .ref o5, .int 0, .int (-1)]))]) (w1 := []) hP hD [1, 2] [0] rfl rfl (by decide) (by decide) hk1 hFc hP1 hD1
  generalize H1 = H at hP hS ⊢
  have hP : va_P (dC, dI) vwCl [(x0, .inr (12, [.ref h, .ref g, .ref y, .ref d, .ref o1, .ref o2, .ref o3, .ref o4, .ref qn, .ref qw, .ref m0, .ref o5, .int 0, .int (-1)]))] H := hP
  have hD : va_D A [(x0, .inr (12, [.ref h, .ref g, .ref y, .ref d, .ref o1, .ref o2, .ref o3, .ref o4, .ref qn, .ref qw, .ref m0, .ref o5, .int 0, .int (-1)]))] := hD
  have hK : va_K (dC, dI) vwCl [(kL, .long)] s := hK
  obtain rfl : r_1 = 1 := hw
  exact W.zret (v := 1) hx hb hr (by decide) (fun tS ht hW => ⟨⟨1, (), rfl, rfl, trivial⟩, hS.F ht⟩) hS.2.2 dX12_input_8
def wf_c_place : List Cond := [.code yX12_place cX12_place 1 (some .int), .fieldLink RX12 87 "OwnedPlaces" "lastPlace" "I"]
def wp_c_place : List Cond := wf_c_place ++ (wsX120 ++ [])
theorem in_c_place_X12 : ∀ w ∈ wsX120, w ∈ wp_c_place := fun w h => List.mem_append_right _ (List.mem_append_left _ h)
theorem wg_c_place : wf_c_place.all goodWord = true := by decide +kernel
theorem wm_c_place (k : Nat) {w : Cond} (h : wp_c_place[k]? = some w) : w ∈ wp_c_place := List.mem_of_getElem? h
set_option maxHeartbeats 4000000 in
set_option maxRecDepth 100000 in
theorem c_place (l : Launch) (dC : Nat → ClassId) (dI : Nat → Nat → Nat) (x0 : Nat) (h g y d o1 o2 o3 o4 o5 qn qw m0 : Nat) (sz : Nat) : Met l yX12_place wp_c_place ({ frames := 0, cells := 0, slots := 0, locals := 0 }) (va_Pc [.ref x0] (fun U => U.heap.size = sz ∧ va_P (dC, dI) vwCl [(x0, .inr (12, [.ref h, .ref g, .ref y, .ref d, .ref o1, .ref o2, .ref o3, .ref o4, .ref qn, .ref qw, .ref m0, .ref o5, .int 0, .int (-1)]))] U.heap ∧ va_K (dC, dI) vwCl [] U ∧ va_D (fun _ => True) [(x0, .inr (12, [.ref h, .ref g, .ref y, .ref d, .ref o1, .ref o2, .ref o3, .ref o4, .ref qn, .ref qw, .ref m0, .ref o5, .int 0, .int (-1)]))])) (va_Qi (fun (r : Int32) (_ : Unit) => r = -1) (fun (_ : Unit) (_ : State) => True) (va_A [(x0, .inr (12, [.ref h, .ref g, .ref y, .ref d, .ref o1, .ref o2, .ref o3, .ref o4, .ref qn, .ref qw, .ref m0, .ref o5, .int 0, .int (-1)]))] sz)) 0 0 (va_A [(x0, .inr (12, [.ref h, .ref g, .ref y, .ref d, .ref o1, .ref o2, .ref o3, .ref o4, .ref qn, .ref qw, .ref m0, .ref o5, .int 0, .int (-1)]))] sz) := by
  refine Met.ofW (cc := cX12_place) (maxL := 1) (ret := (some .int)) (by decide) rfl ?_
  intro p e s m args below meth c s₁ B hml hv
  obtain ⟨rfl, hsz, hP, hK, hD0⟩ := hv
  have hx := B.exec
  have hb := B.bytes
  have hr := B.returns
  have hts := atoms_spec (ws := wp_c_place) B.pre
  have hown : s.vm.findClass RX12 = some m.cls := findClass_of_methodNamed B.named
  have hlocks := B.notSynchronized
  subst hsz
  have hD := hD0.self (sz := s.heap.size)
  generalize hAe : va_A [(x0, .inr (12, [.ref h, .ref g, .ref y, .ref d, .ref o1, .ref o2, .ref o3, .ref o4, .ref qn, .ref qw, .ref m0, .ref o5, .int 0, .int (-1)]))] s.heap.size = A at hD ⊢
  have hA : ∀ q : Nat, s.heap.size ≤ q → A q := fun q h => by rw [← hAe]; exact Or.inr h
  have hS : va_S A s.heap s.heap [] := va_S.rf
  have hP : va_P (dC, dI) vwCl [(x0, .inr (12, [.ref h, .ref g, .ref y, .ref d, .ref o1, .ref o2, .ref o3, .ref o4, .ref qn, .ref qw, .ref m0, .ref o5, .int 0, .int (-1)]))] s.heap := hP
  have hl := lv_entry ([.ref x0]) (n := 1) (Nat.le_of_ble_eq_true rfl)
  rw [lg_entry_eq]
  generalize (lg_sl ([.ref x0]) ++ List.replicate (1 - (lg_sl ([.ref x0])).length) Slot.unset).toArray = ls at hl ⊢
  have hl : lv_has ls 1 [(0, .ref x0)] := hl
  refine lv_aload_n hx hb dX12_place_0 rfl (lv_at hl 0 rfl) ?_
  refine va_get (D := (dC, dI)) (ci := 12) (v := .int (-1)) (C := RX12) (T := TX12) (N := 14) hx hb hts in_c_place_X12 hown hK hP 0 rfl rfl 13 (by decide) (hts (.fieldLink RX12 87 "OwnedPlaces" "lastPlace" "I") (wm_c_place 1 rfl)) (fun _ h9 => h9) rfl dX12_place_1 ?_
  exact W.iret (v := (-1)) hx hb hr (fun tS ht hW => ⟨⟨(-1), (), rfl, rfl, trivial⟩, hS.F ht⟩) hS.2.2 dX12_place_4
def wf_c_fetch : List Cond := [.code yX12_fetch cX12_fetch 5 (some .long), .fieldLink RX12 84 "OwnedPlaces" "waiting" "LOwnedPlaces$Queue;", .fieldLink RX12 144 "OwnedPlaces$Queue" "size" "I", .methodLink RX12 147 Lib.Math.min.name, .static Lib.Math.min.name, .initialized "java/lang/Math", .code Lib.Math.min.name Lib.Math.min.code 2 (some .int)]
def wp_c_fetch : List Cond := wf_c_fetch ++ (wsX120 ++ (wsX80 ++ []))
theorem in_c_fetch_X12 : ∀ w ∈ wsX120, w ∈ wp_c_fetch := fun w h => List.mem_append_right _ (List.mem_append_left _ h)
theorem in_c_fetch_X8 : ∀ w ∈ wsX80, w ∈ wp_c_fetch := fun w h => List.mem_append_right _ (List.mem_append_right _ (List.mem_append_left _ h))
theorem wg_c_fetch : wf_c_fetch.all goodWord = true := by decide +kernel
theorem wm_c_fetch (k : Nat) {w : Cond} (h : wp_c_fetch[k]? = some w) : w ∈ wp_c_fetch := List.mem_of_getElem? h
set_option maxHeartbeats 4000000 in
set_option maxRecDepth 100000 in
theorem c_fetch (l : Launch) (dC : Nat → ClassId) (dI : Nat → Nat → Nat) (x0 : Nat) (h g y d o1 o2 o3 o4 o5 qn qw m0 : Nat) (qr2 qd2 : Nat) (sz : Nat) : Met l yX12_fetch wp_c_fetch ({ frames := 1, cells := 0, slots := 0, locals := 13 }) (va_Pc [.ref x0] (fun U => U.heap.size = sz ∧ va_P (dC, dI) vwCl [(x0, .inr (12, [.ref h, .ref g, .ref y, .ref d, .ref o1, .ref o2, .ref o3, .ref o4, .ref qn, .ref qw, .ref m0, .ref o5, .int 0, .int (-1)])), (qw, .inr (8, [.ref qr2, .ref qd2, .int 0, .int 0]))] U.heap ∧ va_K (dC, dI) vwCl [] U ∧ va_D (fun _ => True) [(x0, .inr (12, [.ref h, .ref g, .ref y, .ref d, .ref o1, .ref o2, .ref o3, .ref o4, .ref qn, .ref qw, .ref m0, .ref o5, .int 0, .int (-1)])), (qw, .inr (8, [.ref qr2, .ref qd2, .int 0, .int 0]))])) (va_Ql (fun (r : Int64) (_ : Unit) => r = 0) (fun (_ : Unit) (_ : State) => True) (va_A [(x0, .inr (12, [.ref h, .ref g, .ref y, .ref d, .ref o1, .ref o2, .ref o3, .ref o4, .ref qn, .ref qw, .ref m0, .ref o5, .int 0, .int (-1)])), (qw, .inr (8, [.ref qr2, .ref qd2, .int 0, .int 0]))] sz)) 0 0 (va_A [(x0, .inr (12, [.ref h, .ref g, .ref y, .ref d, .ref o1, .ref o2, .ref o3, .ref o4, .ref qn, .ref qw, .ref m0, .ref o5, .int 0, .int (-1)])), (qw, .inr (8, [.ref qr2, .ref qd2, .int 0, .int 0]))] sz) := by
  refine Met.ofW (cc := cX12_fetch) (maxL := 5) (ret := (some .long)) (by decide) rfl ?_
  intro p e s m args below meth c s₁ B hml hv
  obtain ⟨rfl, hsz, hP, hK, hD0⟩ := hv
  have hx := B.exec
  have hb := B.bytes
  have hr := B.returns
  have hts := atoms_spec (ws := wp_c_fetch) B.pre
  have hown : s.vm.findClass RX12 = some m.cls := findClass_of_methodNamed B.named
  have hlocks := B.notSynchronized
  subst hsz
  have hD := hD0.self (sz := s.heap.size)
  generalize hAe : va_A [(x0, .inr (12, [.ref h, .ref g, .ref y, .ref d, .ref o1, .ref o2, .ref o3, .ref o4, .ref qn, .ref qw, .ref m0, .ref o5, .int 0, .int (-1)])), (qw, .inr (8, [.ref qr2, .ref qd2, .int 0, .int 0]))] s.heap.size = A at hD ⊢
  have hA : ∀ q : Nat, s.heap.size ≤ q → A q := fun q h => by rw [← hAe]; exact Or.inr h
  have hS : va_S A s.heap s.heap [] := va_S.rf
  have hP : va_P (dC, dI) vwCl [(x0, .inr (12, [.ref h, .ref g, .ref y, .ref d, .ref o1, .ref o2, .ref o3, .ref o4, .ref qn, .ref qw, .ref m0, .ref o5, .int 0, .int (-1)])), (qw, .inr (8, [.ref qr2, .ref qd2, .int 0, .int 0]))] s.heap := hP
  have hl := lv_entry ([.ref x0]) (n := 5) (Nat.le_of_ble_eq_true rfl)
  rw [lg_entry_eq]
  generalize (lg_sl ([.ref x0]) ++ List.replicate (5 - (lg_sl ([.ref x0])).length) Slot.unset).toArray = ls at hl ⊢
  have hl : lv_has ls 5 [(0, .ref x0)] := hl
  refine lv_aload_n hx hb dX12_fetch_0 rfl (lv_at hl 0 rfl) ?_
  refine va_get (D := (dC, dI)) (ci := 12) (v := .ref qw) (C := RX12) (T := TX12) (N := 14) hx hb hts in_c_fetch_X12 hown hK hP 0 rfl rfl 9 (by decide) (hts (.fieldLink RX12 84 "OwnedPlaces" "waiting" "LOwnedPlaces$Queue;") (wm_c_fetch 1 rfl)) (fun _ h9 => h9) rfl dX12_fetch_1 ?_
  refine va_get (D := (dC, dI)) (ci := 8) (v := .int 0) (C := RX8) (T := TX8) (N := 4) hx hb hts in_c_fetch_X8 hown hK hP 1 rfl rfl 3 (by decide) (hts (.fieldLink RX12 144 "OwnedPlaces$Queue" "size" "I") (wm_c_fetch 2 rfl)) (fun _ h9 => h9) rfl dX12_fetch_4 ?_
  refine lv_bipush (v := 7) hx hb dX12_fetch_7 (by decide) ?_
  refine va_mmin hx hb (by rw [hml]; exact hl.1.symm) hown (hts (.methodLink RX12 147 Lib.Math.min.name) (wm_c_fetch 3 rfl)) (hts (.static Lib.Math.min.name) (wm_c_fetch 4 rfl)) (hts (.initialized "java/lang/Math") (wm_c_fetch 5 rfl)) (hts (.code Lib.Math.min.name Lib.Math.min.code 2 (some .int)) (wm_c_fetch 6 rfl)) (Nat.le_of_ble_eq_true rfl) (Nat.le_of_ble_eq_true rfl) (Nat.zero_le _) (Nat.zero_le _) dX12_fetch_9 ?_
  refine lv_topi (fun f_1 ef_1 => ?_)
  obtain rfl : f_1 = 0 := ef_1.trans (by decide)
  refine lv_istore_n (lv' := [(1, .int 0), (0, .ref x0)]) hx hb dX12_fetch_12 rfl hl (by decide) rfl (fun ls hl => ?_)
  refine lv_iload_n hx hb dX12_fetch_13 rfl (lv_at hl 0 rfl) ?_
  refine lv_i2l (v := 0) hx hb dX12_fetch_14 (by decide) ?_
  refine lv_lstore_n (lv' := [(2, .long 0), (1, .int 0), (0, .ref x0)]) hx hb dX12_fetch_15 rfl hl (by decide) rfl (fun ls hl => ?_)
  refine lv_iconst (v := 0) hx hb dX12_fetch_16 (by decide) ?_
  refine lv_istore (lv' := [(4, .int 0), (2, .long 0), (1, .int 0), (0, .ref x0)]) hx hb dX12_fetch_17 hl (by decide) rfl (fun ls hl => ?_)
  refine lv_iload hx hb dX12_fetch_19 (lv_at hl 0 rfl) ?_
  refine lv_bipush (v := 7) hx hb dX12_fetch_21 (by decide) ?_
  refine lv_icmp_ge (tgt := 55) hx hb dX12_fetch_23 (by decide) (fun c_3 => absurd c_3 (by decide)) (fun _ => ?_)
  refine lv_lload_n hx hb dX12_fetch_26 rfl (lv_at hl 1 rfl) ?_
  refine lv_bipush (v := 8) hx hb dX12_fetch_27 (by decide) ?_
  refine lv_lshl (v := 0) hx hb dX12_fetch_29 (by decide) ?_
  refine lv_iload hx hb dX12_fetch_30 (lv_at hl 0 rfl) ?_
  refine lv_iload_n hx hb dX12_fetch_32 rfl (lv_at hl 2 rfl) ?_
  refine lv_icmp_ge (tgt := 46) hx hb dX12_fetch_33 (by decide) (fun _ => ?_) (fun c_5 => absurd (by decide) c_5)
  refine lv_lconst (v := 0) hx hb dX12_fetch_46 (by decide) ?_
  refine lv_lor hx hb dX12_fetch_47 ?_
  refine lv_topl (fun f_6 ef_6 => ?_)
  obtain rfl : f_6 = 0 := ef_6.trans (by decide)
  refine lv_lstore_n (lv' := [(2, .long 0), (4, .int 0), (1, .int 0), (0, .ref x0)]) hx hb dX12_fetch_48 rfl hl (by decide) rfl (fun ls hl => ?_)
  refine lv_iinc (v := 1) (lv' := [(4, .int 1), (2, .long 0), (1, .int 0), (0, .ref x0)]) hx hb dX12_fetch_49 hl (k := 1) rfl (by decide) (by decide) rfl (fun ls hl => ?_)
  refine lv_goto (tgt := 19) hx hb dX12_fetch_52 (by decide) ?_
  refine lv_iload hx hb dX12_fetch_19 (lv_at hl 0 rfl) ?_
  refine lv_bipush (v := 7) hx hb dX12_fetch_21 (by decide) ?_
  refine lv_icmp_ge (tgt := 55) hx hb dX12_fetch_23 (by decide) (fun c_7 => absurd c_7 (by decide)) (fun _ => ?_)
  refine lv_lload_n hx hb dX12_fetch_26 rfl (lv_at hl 1 rfl) ?_
  refine lv_bipush (v := 8) hx hb dX12_fetch_27 (by decide) ?_
  refine lv_lshl (v := 0) hx hb dX12_fetch_29 (by decide) ?_
  refine lv_iload hx hb dX12_fetch_30 (lv_at hl 0 rfl) ?_
  refine lv_iload_n hx hb dX12_fetch_32 rfl (lv_at hl 2 rfl) ?_
  refine lv_icmp_ge (tgt := 46) hx hb dX12_fetch_33 (by decide) (fun _ => ?_) (fun c_9 => absurd (by decide) c_9)
  refine lv_lconst (v := 0) hx hb dX12_fetch_46 (by decide) ?_
  refine lv_lor hx hb dX12_fetch_47 ?_
  refine lv_topl (fun f_10 ef_10 => ?_)
  obtain rfl : f_10 = 0 := ef_10.trans (by decide)
  refine lv_lstore_n (lv' := [(2, .long 0), (4, .int 1), (1, .int 0), (0, .ref x0)]) hx hb dX12_fetch_48 rfl hl (by decide) rfl (fun ls hl => ?_)
  refine lv_iinc (v := 2) (lv' := [(4, .int 2), (2, .long 0), (1, .int 0), (0, .ref x0)]) hx hb dX12_fetch_49 hl (k := 1) rfl (by decide) (by decide) rfl (fun ls hl => ?_)
  refine lv_goto (tgt := 19) hx hb dX12_fetch_52 (by decide) ?_
  refine lv_iload hx hb dX12_fetch_19 (lv_at hl 0 rfl) ?_
  refine lv_bipush (v := 7) hx hb dX12_fetch_21 (by decide) ?_
  refine lv_icmp_ge (tgt := 55) hx hb dX12_fetch_23 (by decide) (fun c_11 => absurd c_11 (by decide)) (fun _ => ?_)
  refine lv_lload_n hx hb dX12_fetch_26 rfl (lv_at hl 1 rfl) ?_
  refine lv_bipush (v := 8) hx hb dX12_fetch_27 (by decide) ?_
  refine lv_lshl (v := 0) hx hb dX12_fetch_29 (by decide) ?_
  refine lv_iload hx hb dX12_fetch_30 (lv_at hl 0 rfl) ?_
  refine lv_iload_n hx hb dX12_fetch_32 rfl (lv_at hl 2 rfl) ?_
  refine lv_icmp_ge (tgt := 46) hx hb dX12_fetch_33 (by decide) (fun _ => ?_) (fun c_13 => absurd (by decide) c_13)
  refine lv_lconst (v := 0) hx hb dX12_fetch_46 (by decide) ?_
  refine lv_lor hx hb dX12_fetch_47 ?_
  refine lv_topl (fun f_14 ef_14 => ?_)
  obtain rfl : f_14 = 0 := ef_14.trans (by decide)
  refine lv_lstore_n (lv' := [(2, .long 0), (4, .int 2), (1, .int 0), (0, .ref x0)]) hx hb dX12_fetch_48 rfl hl (by decide) rfl (fun ls hl => ?_)
  refine lv_iinc (v := 3) (lv' := [(4, .int 3), (2, .long 0), (1, .int 0), (0, .ref x0)]) hx hb dX12_fetch_49 hl (k := 1) rfl (by decide) (by decide) rfl (fun ls hl => ?_)
  refine lv_goto (tgt := 19) hx hb dX12_fetch_52 (by decide) ?_
  refine lv_iload hx hb dX12_fetch_19 (lv_at hl 0 rfl) ?_
  refine lv_bipush (v := 7) hx hb dX12_fetch_21 (by decide) ?_
  refine lv_icmp_ge (tgt := 55) hx hb dX12_fetch_23 (by decide) (fun c_15 => absurd c_15 (by decide)) (fun _ => ?_)
  refine lv_lload_n hx hb dX12_fetch_26 rfl (lv_at hl 1 rfl) ?_
  refine lv_bipush (v := 8) hx hb dX12_fetch_27 (by decide) ?_
  refine lv_lshl (v := 0) hx hb dX12_fetch_29 (by decide) ?_
  refine lv_iload hx hb dX12_fetch_30 (lv_at hl 0 rfl) ?_
  refine lv_iload_n hx hb dX12_fetch_32 rfl (lv_at hl 2 rfl) ?_
  refine lv_icmp_ge (tgt := 46) hx hb dX12_fetch_33 (by decide) (fun _ => ?_) (fun c_17 => absurd (by decide) c_17)
  refine lv_lconst (v := 0) hx hb dX12_fetch_46 (by decide) ?_
  refine lv_lor hx hb dX12_fetch_47 ?_
  refine lv_topl (fun f_18 ef_18 => ?_)
  obtain rfl : f_18 = 0 := ef_18.trans (by decide)
  refine lv_lstore_n (lv' := [(2, .long 0), (4, .int 3), (1, .int 0), (0, .ref x0)]) hx hb dX12_fetch_48 rfl hl (by decide) rfl (fun ls hl => ?_)
  refine lv_iinc (v := 4) (lv' := [(4, .int 4), (2, .long 0), (1, .int 0), (0, .ref x0)]) hx hb dX12_fetch_49 hl (k := 1) rfl (by decide) (by decide) rfl (fun ls hl => ?_)
  refine lv_goto (tgt := 19) hx hb dX12_fetch_52 (by decide) ?_
  refine lv_iload hx hb dX12_fetch_19 (lv_at hl 0 rfl) ?_
  refine lv_bipush (v := 7) hx hb dX12_fetch_21 (by decide) ?_
  refine lv_icmp_ge (tgt := 55) hx hb dX12_fetch_23 (by decide) (fun c_19 => absurd c_19 (by decide)) (fun _ => ?_)
  refine lv_lload_n hx hb dX12_fetch_26 rfl (lv_at hl 1 rfl) ?_
  refine lv_bipush (v := 8) hx hb dX12_fetch_27 (by decide) ?_
  refine lv_lshl (v := 0) hx hb dX12_fetch_29 (by decide) ?_
  refine lv_iload hx hb dX12_fetch_30 (lv_at hl 0 rfl) ?_
  refine lv_iload_n hx hb dX12_fetch_32 rfl (lv_at hl 2 rfl) ?_
  refine lv_icmp_ge (tgt := 46) hx hb dX12_fetch_33 (by decide) (fun _ => ?_) (fun c_21 => absurd (by decide) c_21)
  refine lv_lconst (v := 0) hx hb dX12_fetch_46 (by decide) ?_
  refine lv_lor hx hb dX12_fetch_47 ?_
  refine lv_topl (fun f_22 ef_22 => ?_)
  obtain rfl : f_22 = 0 := ef_22.trans (by decide)
  refine lv_lstore_n (lv' := [(2, .long 0), (4, .int 4), (1, .int 0), (0, .ref x0)]) hx hb dX12_fetch_48 rfl hl (by decide) rfl (fun ls hl => ?_)
  refine lv_iinc (v := 5) (lv' := [(4, .int 5), (2, .long 0), (1, .int 0), (0, .ref x0)]) hx hb dX12_fetch_49 hl (k := 1) rfl (by decide) (by decide) rfl (fun ls hl => ?_)
  refine lv_goto (tgt := 19) hx hb dX12_fetch_52 (by decide) ?_
  refine lv_iload hx hb dX12_fetch_19 (lv_at hl 0 rfl) ?_
  refine lv_bipush (v := 7) hx hb dX12_fetch_21 (by decide) ?_
  refine lv_icmp_ge (tgt := 55) hx hb dX12_fetch_23 (by decide) (fun c_23 => absurd c_23 (by decide)) (fun _ => ?_)
  refine lv_lload_n hx hb dX12_fetch_26 rfl (lv_at hl 1 rfl) ?_
  refine lv_bipush (v := 8) hx hb dX12_fetch_27 (by decide) ?_
  refine lv_lshl (v := 0) hx hb dX12_fetch_29 (by decide) ?_
  refine lv_iload hx hb dX12_fetch_30 (lv_at hl 0 rfl) ?_
  refine lv_iload_n hx hb dX12_fetch_32 rfl (lv_at hl 2 rfl) ?_
  refine lv_icmp_ge (tgt := 46) hx hb dX12_fetch_33 (by decide) (fun _ => ?_) (fun c_25 => absurd (by decide) c_25)
  refine lv_lconst (v := 0) hx hb dX12_fetch_46 (by decide) ?_
  refine lv_lor hx hb dX12_fetch_47 ?_
  refine lv_topl (fun f_26 ef_26 => ?_)
  obtain rfl : f_26 = 0 := ef_26.trans (by decide)
  refine lv_lstore_n (lv' := [(2, .long 0), (4, .int 5), (1, .int 0), (0, .ref x0)]) hx hb dX12_fetch_48 rfl hl (by decide) rfl (fun ls hl => ?_)
  refine lv_iinc (v := 6) (lv' := [(4, .int 6), (2, .long 0), (1, .int 0), (0, .ref x0)]) hx hb dX12_fetch_49 hl (k := 1) rfl (by decide) (by decide) rfl (fun ls hl => ?_)
  refine lv_goto (tgt := 19) hx hb dX12_fetch_52 (by decide) ?_
  refine lv_iload hx hb dX12_fetch_19 (lv_at hl 0 rfl) ?_
  refine lv_bipush (v := 7) hx hb dX12_fetch_21 (by decide) ?_
  refine lv_icmp_ge (tgt := 55) hx hb dX12_fetch_23 (by decide) (fun c_27 => absurd c_27 (by decide)) (fun _ => ?_)
  refine lv_lload_n hx hb dX12_fetch_26 rfl (lv_at hl 1 rfl) ?_
  refine lv_bipush (v := 8) hx hb dX12_fetch_27 (by decide) ?_
  refine lv_lshl (v := 0) hx hb dX12_fetch_29 (by decide) ?_
  refine lv_iload hx hb dX12_fetch_30 (lv_at hl 0 rfl) ?_
  refine lv_iload_n hx hb dX12_fetch_32 rfl (lv_at hl 2 rfl) ?_
  refine lv_icmp_ge (tgt := 46) hx hb dX12_fetch_33 (by decide) (fun _ => ?_) (fun c_29 => absurd (by decide) c_29)
  refine lv_lconst (v := 0) hx hb dX12_fetch_46 (by decide) ?_
  refine lv_lor hx hb dX12_fetch_47 ?_
  refine lv_topl (fun f_30 ef_30 => ?_)
  obtain rfl : f_30 = 0 := ef_30.trans (by decide)
  refine lv_lstore_n (lv' := [(2, .long 0), (4, .int 6), (1, .int 0), (0, .ref x0)]) hx hb dX12_fetch_48 rfl hl (by decide) rfl (fun ls hl => ?_)
  refine lv_iinc (v := 7) (lv' := [(4, .int 7), (2, .long 0), (1, .int 0), (0, .ref x0)]) hx hb dX12_fetch_49 hl (k := 1) rfl (by decide) (by decide) rfl (fun ls hl => ?_)
  refine lv_goto (tgt := 19) hx hb dX12_fetch_52 (by decide) ?_
  refine lv_iload hx hb dX12_fetch_19 (lv_at hl 0 rfl) ?_
  refine lv_bipush (v := 7) hx hb dX12_fetch_21 (by decide) ?_
  refine lv_icmp_ge (tgt := 55) hx hb dX12_fetch_23 (by decide) (fun _ => ?_) (fun c_31 => absurd (by decide) c_31)
  refine lv_lload_n hx hb dX12_fetch_55 rfl (lv_at hl 1 rfl) ?_
  exact W.lret (v := 0) hx hb hr (fun tS ht hW => ⟨⟨0, (), rfl, rfl, trivial⟩, hS.F ht⟩) hS.2.2 dX12_fetch_56
def cntA (w : Int32) : Int32 := if w.toInt < 0 ∨ 5 < w.toInt then -1 else 0
theorem cntA_out {w : Int32} (h : w.toInt < 0 ∨ 5 < w.toInt) : cntA w = -1 := if_pos h
theorem cnt_in {w : Int32} (h : ¬ (w.toInt < 0 ∨ 5 < w.toInt)) : w = 0 ∨ w = 1 ∨ w = 2 ∨ w = 3 ∨ w = 4 ∨ w = 5 := by
  have h2 : w.toInt = 0 ∨ w.toInt = 1 ∨ w.toInt = 2 ∨ w.toInt = 3 ∨ w.toInt = 4 ∨ w.toInt = 5 := by omega
  rcases h2 with h | h | h | h | h | h
  · exact Or.inl (Int32.toInt_inj.mp h)
  · exact Or.inr (Or.inl (Int32.toInt_inj.mp h))
  · exact Or.inr (Or.inr (Or.inl (Int32.toInt_inj.mp h)))
  · exact Or.inr (Or.inr (Or.inr (Or.inl (Int32.toInt_inj.mp h))))
  · exact Or.inr (Or.inr (Or.inr (Or.inr (Or.inl (Int32.toInt_inj.mp h)))))
  · exact Or.inr (Or.inr (Or.inr (Or.inr (Or.inr (Int32.toInt_inj.mp h)))))
def wf_c_count : List Cond := [.code yX12_count cX12_count 2 (some .int), .fieldLink RX12 128 "OwnedPlaces" "fuelLeft" "I", .fieldLink RX12 96 "OwnedPlaces" "memory" "LOwnedPlaces$Memory;", .fieldLink RX12 156 "OwnedPlaces$Memory" "inUse" "I", .fieldLink RX12 159 "OwnedPlaces$Memory" "mostInUse" "I", .fieldLink RX12 12 "OwnedPlaces" "text" "LOwnedPlaces$Text;", .fieldLink RX12 109 "OwnedPlaces$Text" "length" "I", .fieldLink RX12 84 "OwnedPlaces" "waiting" "LOwnedPlaces$Queue;", .fieldLink RX12 144 "OwnedPlaces$Queue" "size" "I", .fieldLink RX12 80 "OwnedPlaces" "numbers" "LOwnedPlaces$Queue;"]
def wp_c_count : List Cond := wf_c_count ++ (wsX120 ++ (wsX60 ++ (wsX90 ++ (wsX80 ++ []))))
theorem in_c_count_X12 : ∀ w ∈ wsX120, w ∈ wp_c_count := fun w h => List.mem_append_right _ (List.mem_append_left _ h)
theorem in_c_count_X6 : ∀ w ∈ wsX60, w ∈ wp_c_count := fun w h => List.mem_append_right _ (List.mem_append_right _ (List.mem_append_left _ h))
theorem in_c_count_X9 : ∀ w ∈ wsX90, w ∈ wp_c_count := fun w h => List.mem_append_right _ (List.mem_append_right _ (List.mem_append_right _ (List.mem_append_left _ h)))
theorem in_c_count_X8 : ∀ w ∈ wsX80, w ∈ wp_c_count := fun w h => List.mem_append_right _ (List.mem_append_right _ (List.mem_append_right _ (List.mem_append_right _ (List.mem_append_left _ h))))
theorem wg_c_count : wf_c_count.all goodWord = true := by decide +kernel
theorem wm_c_count (k : Nat) {w : Cond} (h : wp_c_count[k]? = some w) : w ∈ wp_c_count := List.mem_of_getElem? h
set_option maxHeartbeats 4000000 in
set_option maxRecDepth 100000 in
theorem c_count (l : Launch) (dC : Nat → ClassId) (dI : Nat → Nat → Nat) (x0 : Nat) (h g y d o1 o2 o3 o4 o5 qn qw m0 : Nat) (tk tp tn tu tl tb ts tf tz tx th tw : Nat) (nt : Int32) (qr qd qr2 qd2 mc mt m1 m2 m3 k : Nat) (wt : Int32) (sz : Nat) : Met l yX12_count wp_c_count ({ frames := 0, cells := 0, slots := 0, locals := 0 }) (va_Pc [.ref x0, .int wt] (fun U => U.heap.size = sz ∧ va_P (dC, dI) vwCl [(x0, .inr (12, [.ref h, .ref g, .ref y, .ref d, .ref o1, .ref o2, .ref o3, .ref o4, .ref qn, .ref qw, .ref m0, .ref o5, .int 0, .int (-1)])), (h, .inr (9, [.ref tk, .ref tp, .ref tn, .ref tu, .ref tl, .int 0, .int 0, .int 0, .int (-1), .int nt, .ref tb, .int 0, .ref ts, .ref tf, .ref tz, .ref tx, .ref th, .ref tw])), (qn, .inr (8, [.ref qr, .ref qd, .int 0, .int 0])), (qw, .inr (8, [.ref qr2, .ref qd2, .int 0, .int 0])), (m0, .inr (6, [.ref y, .ref qw, .int (nI k), .ref mc, .ref mt, .int 0, .int 0, .int 0, .ref m1, .ref m2, .ref m3, .int 0]))] U.heap ∧ va_K (dC, dI) vwCl [] U ∧ va_D (fun _ => True) [(x0, .inr (12, [.ref h, .ref g, .ref y, .ref d, .ref o1, .ref o2, .ref o3, .ref o4, .ref qn, .ref qw, .ref m0, .ref o5, .int 0, .int (-1)])), (h, .inr (9, [.ref tk, .ref tp, .ref tn, .ref tu, .ref tl, .int 0, .int 0, .int 0, .int (-1), .int nt, .ref tb, .int 0, .ref ts, .ref tf, .ref tz, .ref tx, .ref th, .ref tw])), (qn, .inr (8, [.ref qr, .ref qd, .int 0, .int 0])), (qw, .inr (8, [.ref qr2, .ref qd2, .int 0, .int 0])), (m0, .inr (6, [.ref y, .ref qw, .int (nI k), .ref mc, .ref mt, .int 0, .int 0, .int 0, .ref m1, .ref m2, .ref m3, .int 0]))])) (va_Qi (fun (r : Int32) (_ : Unit) => r = cntA wt) (fun (_ : Unit) (_ : State) => True) (va_A [(x0, .inr (12, [.ref h, .ref g, .ref y, .ref d, .ref o1, .ref o2, .ref o3, .ref o4, .ref qn, .ref qw, .ref m0, .ref o5, .int 0, .int (-1)])), (h, .inr (9, [.ref tk, .ref tp, .ref tn, .ref tu, .ref tl, .int 0, .int 0, .int 0, .int (-1), .int nt, .ref tb, .int 0, .ref ts, .ref tf, .ref tz, .ref tx, .ref th, .ref tw])), (qn, .inr (8, [.ref qr, .ref qd, .int 0, .int 0])), (qw, .inr (8, [.ref qr2, .ref qd2, .int 0, .int 0])), (m0, .inr (6, [.ref y, .ref qw, .int (nI k), .ref mc, .ref mt, .int 0, .int 0, .int 0, .ref m1, .ref m2, .ref m3, .int 0]))] sz)) 0 0 (va_A [(x0, .inr (12, [.ref h, .ref g, .ref y, .ref d, .ref o1, .ref o2, .ref o3, .ref o4, .ref qn, .ref qw, .ref m0, .ref o5, .int 0, .int (-1)])), (h, .inr (9, [.ref tk, .ref tp, .ref tn, .ref tu, .ref tl, .int 0, .int 0, .int 0, .int (-1), .int nt, .ref tb, .int 0, .ref ts, .ref tf, .ref tz, .ref tx, .ref th, .ref tw])), (qn, .inr (8, [.ref qr, .ref qd, .int 0, .int 0])), (qw, .inr (8, [.ref qr2, .ref qd2, .int 0, .int 0])), (m0, .inr (6, [.ref y, .ref qw, .int (nI k), .ref mc, .ref mt, .int 0, .int 0, .int 0, .ref m1, .ref m2, .ref m3, .int 0]))] sz) := by
  refine Met.ofW (cc := cX12_count) (maxL := 2) (ret := (some .int)) (by decide) rfl ?_
  intro p e s m args below meth c s₁ B hml hv
  obtain ⟨rfl, hsz, hP, hK, hD0⟩ := hv
  have hx := B.exec
  have hb := B.bytes
  have hr := B.returns
  have hts := atoms_spec (ws := wp_c_count) B.pre
  have hown : s.vm.findClass RX12 = some m.cls := findClass_of_methodNamed B.named
  have hlocks := B.notSynchronized
  subst hsz
  have hD := hD0.self (sz := s.heap.size)
  generalize hAe : va_A [(x0, .inr (12, [.ref h, .ref g, .ref y, .ref d, .ref o1, .ref o2, .ref o3, .ref o4, .ref qn, .ref qw, .ref m0, .ref o5, .int 0, .int (-1)])), (h, .inr (9, [.ref tk, .ref tp, .ref tn, .ref tu, .ref tl, .int 0, .int 0, .int 0, .int (-1), .int nt, .ref tb, .int 0, .ref ts, .ref tf, .ref tz, .ref tx, .ref th, .ref tw])), (qn, .inr (8, [.ref qr, .ref qd, .int 0, .int 0])), (qw, .inr (8, [.ref qr2, .ref qd2, .int 0, .int 0])), (m0, .inr (6, [.ref y, .ref qw, .int (nI k), .ref mc, .ref mt, .int 0, .int 0, .int 0, .ref m1, .ref m2, .ref m3, .int 0]))] s.heap.size = A at hD ⊢
  have hA : ∀ q : Nat, s.heap.size ≤ q → A q := fun q h => by rw [← hAe]; exact Or.inr h
  have hS : va_S A s.heap s.heap [] := va_S.rf
  have hP : va_P (dC, dI) vwCl [(x0, .inr (12, [.ref h, .ref g, .ref y, .ref d, .ref o1, .ref o2, .ref o3, .ref o4, .ref qn, .ref qw, .ref m0, .ref o5, .int 0, .int (-1)])), (h, .inr (9, [.ref tk, .ref tp, .ref tn, .ref tu, .ref tl, .int 0, .int 0, .int 0, .int (-1), .int nt, .ref tb, .int 0, .ref ts, .ref tf, .ref tz, .ref tx, .ref th, .ref tw])), (qn, .inr (8, [.ref qr, .ref qd, .int 0, .int 0])), (qw, .inr (8, [.ref qr2, .ref qd2, .int 0, .int 0])), (m0, .inr (6, [.ref y, .ref qw, .int (nI k), .ref mc, .ref mt, .int 0, .int 0, .int 0, .ref m1, .ref m2, .ref m3, .int 0]))] s.heap := hP
  have hl := lv_entry ([.ref x0, .int wt]) (n := 2) (Nat.le_of_ble_eq_true rfl)
  rw [lg_entry_eq]
  generalize (lg_sl ([.ref x0, .int wt]) ++ List.replicate (2 - (lg_sl ([.ref x0, .int wt])).length) Slot.unset).toArray = ls at hl ⊢
  have hl : lv_has ls 2 [(0, .ref x0), (1, .int wt)] := hl
  refine lv_iload_n hx hb dX12_count_0 rfl (lv_at hl 1 rfl) ?_
  by_cases h5 : wt.toInt < 0 ∨ 5 < wt.toInt
  · refine lv_tableOut (tgt := 85) hx hb dX12_count_1 h5 (by decide) ?_
    refine lv_iconst (v := (-1)) hx hb dX12_count_85 (by decide) ?_
    exact W.iret (v := (-1)) hx hb hr (fun tS ht hW => ⟨⟨(-1), (), rfl, (cntA_out h5).symm, trivial⟩, hS.F ht⟩) hS.2.2 dX12_count_86
  · rcases cnt_in h5 with rfl | rfl | rfl | rfl | rfl | rfl
    · refine lv_tableIn (off := 39) (tgt := 40) hx hb dX12_count_1 (by decide) (by decide) (by decide) (by decide) ?_
      refine lv_aload_n hx hb dX12_count_40 rfl (lv_at hl 0 rfl) ?_
      refine va_get (D := (dC, dI)) (ci := 12) (v := .int 0) (C := RX12) (T := TX12) (N := 14) hx hb hts in_c_count_X12 hown hK hP 0 rfl rfl 12 (by decide) (hts (.fieldLink RX12 128 "OwnedPlaces" "fuelLeft" "I") (wm_c_count 1 rfl)) (fun _ h9 => h9) rfl dX12_count_41 ?_
      exact W.iret (v := 0) hx hb hr (fun tS ht hW => ⟨⟨0, (), rfl, (by decide), trivial⟩, hS.F ht⟩) hS.2.2 dX12_count_44
    · refine lv_tableIn (off := 44) (tgt := 45) hx hb dX12_count_1 (by decide) (by decide) (by decide) (by decide) ?_
      refine lv_aload_n hx hb dX12_count_45 rfl (lv_at hl 0 rfl) ?_
      refine va_get (D := (dC, dI)) (ci := 12) (v := .ref m0) (C := RX12) (T := TX12) (N := 14) hx hb hts in_c_count_X12 hown hK hP 0 rfl rfl 10 (by decide) (hts (.fieldLink RX12 96 "OwnedPlaces" "memory" "LOwnedPlaces$Memory;") (wm_c_count 2 rfl)) (fun _ h9 => h9) rfl dX12_count_46 ?_
      refine va_get (D := (dC, dI)) (ci := 6) (v := .int 0) (C := RX6) (T := TX6) (N := 12) hx hb hts in_c_count_X6 hown hK hP 4 rfl rfl 6 (by decide) (hts (.fieldLink RX12 156 "OwnedPlaces$Memory" "inUse" "I") (wm_c_count 3 rfl)) (fun _ h9 => h9) rfl dX12_count_49 ?_
      exact W.iret (v := 0) hx hb hr (fun tS ht hW => ⟨⟨0, (), rfl, (by decide), trivial⟩, hS.F ht⟩) hS.2.2 dX12_count_52
    · refine lv_tableIn (off := 52) (tgt := 53) hx hb dX12_count_1 (by decide) (by decide) (by decide) (by decide) ?_
      refine lv_aload_n hx hb dX12_count_53 rfl (lv_at hl 0 rfl) ?_
      refine va_get (D := (dC, dI)) (ci := 12) (v := .ref m0) (C := RX12) (T := TX12) (N := 14) hx hb hts in_c_count_X12 hown hK hP 0 rfl rfl 10 (by decide) (hts (.fieldLink RX12 96 "OwnedPlaces" "memory" "LOwnedPlaces$Memory;") (wm_c_count 2 rfl)) (fun _ h9 => h9) rfl dX12_count_54 ?_
      refine va_get (D := (dC, dI)) (ci := 6) (v := .int 0) (C := RX6) (T := TX6) (N := 12) hx hb hts in_c_count_X6 hown hK hP 4 rfl rfl 7 (by decide) (hts (.fieldLink RX12 159 "OwnedPlaces$Memory" "mostInUse" "I") (wm_c_count 4 rfl)) (fun _ h9 => h9) rfl dX12_count_57 ?_
      exact W.iret (v := 0) hx hb hr (fun tS ht hW => ⟨⟨0, (), rfl, (by decide), trivial⟩, hS.F ht⟩) hS.2.2 dX12_count_60
    · refine lv_tableIn (off := 60) (tgt := 61) hx hb dX12_count_1 (by decide) (by decide) (by decide) (by decide) ?_
      refine lv_aload_n hx hb dX12_count_61 rfl (lv_at hl 0 rfl) ?_
      refine va_get (D := (dC, dI)) (ci := 12) (v := .ref h) (C := RX12) (T := TX12) (N := 14) hx hb hts in_c_count_X12 hown hK hP 0 rfl rfl 0 (by decide) (hts (.fieldLink RX12 12 "OwnedPlaces" "text" "LOwnedPlaces$Text;") (wm_c_count 5 rfl)) (fun _ h9 => h9) rfl dX12_count_62 ?_
      refine va_get (D := (dC, dI)) (ci := 9) (v := .int 0) (C := RX9) (T := TX9) (N := 18) hx hb hts in_c_count_X9 hown hK hP 1 rfl rfl 5 (by decide) (hts (.fieldLink RX12 109 "OwnedPlaces$Text" "length" "I") (wm_c_count 6 rfl)) (fun _ h9 => h9) rfl dX12_count_65 ?_
      exact W.iret (v := 0) hx hb hr (fun tS ht hW => ⟨⟨0, (), rfl, (by decide), trivial⟩, hS.F ht⟩) hS.2.2 dX12_count_68
    · refine lv_tableIn (off := 68) (tgt := 69) hx hb dX12_count_1 (by decide) (by decide) (by decide) (by decide) ?_
      refine lv_aload_n hx hb dX12_count_69 rfl (lv_at hl 0 rfl) ?_
      refine va_get (D := (dC, dI)) (ci := 12) (v := .ref qw) (C := RX12) (T := TX12) (N := 14) hx hb hts in_c_count_X12 hown hK hP 0 rfl rfl 9 (by decide) (hts (.fieldLink RX12 84 "OwnedPlaces" "waiting" "LOwnedPlaces$Queue;") (wm_c_count 7 rfl)) (fun _ h9 => h9) rfl dX12_count_70 ?_
      refine va_get (D := (dC, dI)) (ci := 8) (v := .int 0) (C := RX8) (T := TX8) (N := 4) hx hb hts in_c_count_X8 hown hK hP 3 rfl rfl 3 (by decide) (hts (.fieldLink RX12 144 "OwnedPlaces$Queue" "size" "I") (wm_c_count 8 rfl)) (fun _ h9 => h9) rfl dX12_count_73 ?_
      exact W.iret (v := 0) hx hb hr (fun tS ht hW => ⟨⟨0, (), rfl, (by decide), trivial⟩, hS.F ht⟩) hS.2.2 dX12_count_76
    · refine lv_tableIn (off := 76) (tgt := 77) hx hb dX12_count_1 (by decide) (by decide) (by decide) (by decide) ?_
      refine lv_aload_n hx hb dX12_count_77 rfl (lv_at hl 0 rfl) ?_
      refine va_get (D := (dC, dI)) (ci := 12) (v := .ref qn) (C := RX12) (T := TX12) (N := 14) hx hb hts in_c_count_X12 hown hK hP 0 rfl rfl 8 (by decide) (hts (.fieldLink RX12 80 "OwnedPlaces" "numbers" "LOwnedPlaces$Queue;") (wm_c_count 9 rfl)) (fun _ h9 => h9) rfl dX12_count_78 ?_
      refine va_get (D := (dC, dI)) (ci := 8) (v := .int 0) (C := RX8) (T := TX8) (N := 4) hx hb hts in_c_count_X8 hown hK hP 2 rfl rfl 3 (by decide) (hts (.fieldLink RX12 144 "OwnedPlaces$Queue" "size" "I") (wm_c_count 8 rfl)) (fun _ h9 => h9) rfl dX12_count_81 ?_
      exact W.iret (v := 0) hx hb hr (fun tS ht hW => ⟨⟨0, (), rfl, (by decide), trivial⟩, hS.F ht⟩) hS.2.2 dX12_count_84
