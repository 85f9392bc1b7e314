def wf_c_append : List Cond := [.code yX9_append cX9_append 3 none, .fieldLink RX9 32 "OwnedPlaces$Text" "bytes" "[B", .fieldLink RX9 81 "OwnedPlaces$Text" "length" "I"]
def wp_c_append : List Cond := wf_c_append ++ (wsX90 ++ [])
theorem in_c_append_X9 : ∀ w ∈ wsX90, w ∈ wp_c_append := fun w h => List.mem_append_right _ (List.mem_append_left _ h)
theorem wg_c_append : wf_c_append.all goodWord = true := by decide +kernel
theorem wm_c_append (k : Nat) {w : Cond} (h : wp_c_append[k]? = some w) : w ∈ wp_c_append := List.mem_of_getElem? h
set_option maxHeartbeats 4000000 in
set_option maxRecDepth 100000 in
theorem c_append (l : Launch) (dC : Nat → ClassId) (dI : Nat → Nat → Nat) (h tk tp tn tu tl tb ts tf tz tx th tw : Nat) (now ft pl nt tot four : Int32) (L : Nat) (kB : ClassId) (fb : Nat → Int32) (sz : Nat) (hL : L + 4 ≤ 3000) (hg : ∀ j, fits .byte (.int (fb j)) = true) : Met l yX9_append wp_c_append ({ frames := 0, cells := 0, slots := 0, locals := 0 }) (va_Pc [.ref h, .int four] (fun U => U.heap.size = sz ∧ va_P (dC, dI) vwCl [(h, .inr (9, [.ref tk, .ref tp, .ref tn, .ref tu, .ref tl, .int (nI L), .int now, .int ft, .int pl, .int nt, .ref tb, .int tot, .ref ts, .ref tf, .ref tz, .ref tx, .ref th, .ref tw])), (tb, .inl (kB, 3000, .inl fb))] U.heap ∧ va_K (dC, dI) vwCl [(kB, .byte)] U ∧ va_D (fun _ => True) [(h, .inr (9, [.ref tk, .ref tp, .ref tn, .ref tu, .ref tl, .int (nI L), .int now, .int ft, .int pl, .int nt, .ref tb, .int tot, .ref ts, .ref tf, .ref tz, .ref tx, .ref th, .ref tw])), (tb, .inl (kB, 3000, .inl fb))])) (va_Qv (fun _ : Unit => True) (fun (_ : Unit) (tS : State) => ∃ (gb : Nat → Int32), (∀ j, fits .byte (.int (gb j)) = true) ∧ va_P (dC, dI) vwCl [(h, .inr (9, [.ref tk, .ref tp, .ref tn, .ref tu, .ref tl, .int (nI (L + 4)), .int now, .int ft, .int pl, .int nt, .ref tb, .int tot, .ref ts, .ref tf, .ref tz, .ref tx, .ref th, .ref tw])), (tb, .inl (kB, 3000, .inl gb))] tS.heap ∧ va_K (dC, dI) vwCl [(kB, .byte)] tS ∧ va_D (va_A [(h, .inr (9, [.ref tk, .ref tp, .ref tn, .ref tu, .ref tl, .int (nI L), .int now, .int ft, .int pl, .int nt, .ref tb, .int tot, .ref ts, .ref tf, .ref tz, .ref tx, .ref th, .ref tw])), (tb, .inl (kB, 3000, .inl fb))] sz) [(h, .inr (9, [.ref tk, .ref tp, .ref tn, .ref tu, .ref tl, .int (nI (L + 4)), .int now, .int ft, .int pl, .int nt, .ref tb, .int tot, .ref ts, .ref tf, .ref tz, .ref tx, .ref th, .ref tw])), (tb, .inl (kB, 3000, .inl gb))]) (va_A [(h, .inr (9, [.ref tk, .ref tp, .ref tn, .ref tu, .ref tl, .int (nI L), .int now, .int ft, .int pl, .int nt, .ref tb, .int tot, .ref ts, .ref tf, .ref tz, .ref tx, .ref th, .ref tw])), (tb, .inl (kB, 3000, .inl fb))] sz)) 0 0 (va_A [(h, .inr (9, [.ref tk, .ref tp, .ref tn, .ref tu, .ref tl, .int (nI L), .int now, .int ft, .int pl, .int nt, .ref tb, .int tot, .ref ts, .ref tf, .ref tz, .ref tx, .ref th, .ref tw])), (tb, .inl (kB, 3000, .inl fb))] sz) := by
  refine Met.ofW (cc := cX9_append) (maxL := 3) (ret := none) (by decide) rfl ?_
  intro p e s m args below meth c s₁ B hml hv
  obtain ⟨rfl, hsz, hP, hK, hD0⟩ := hv
  have hx := B.exec
  have hb := B.bytes
  have hr := B.returns
  have hts := atoms_spec (ws := wp_c_append) B.pre
  have hown : s.vm.findClass RX9 = some m.cls := findClass_of_methodNamed B.named
  have hlocks := B.notSynchronized
  subst hsz
  have hD := hD0.self (sz := s.heap.size)
  generalize hAe : va_A [(h, .inr (9, [.ref tk, .ref tp, .ref tn, .ref tu, .ref tl, .int (nI L), .int now, .int ft, .int pl, .int nt, .ref tb, .int tot, .ref ts, .ref tf, .ref tz, .ref tx, .ref th, .ref tw])), (tb, .inl (kB, 3000, .inl fb))] s.heap.size = A at hD ⊢
  have hA : ∀ q : Nat, s.heap.size ≤ q → A q := fun q h => by rw [← hAe]; exact Or.inr h
  have hS : va_S A s.heap s.heap [] := va_S.rf
  have hP : va_P (dC, dI) vwCl [(h, .inr (9, [.ref tk, .ref tp, .ref tn, .ref tu, .ref tl, .int (nI L), .int now, .int ft, .int pl, .int nt, .ref tb, .int tot, .ref ts, .ref tf, .ref tz, .ref tx, .ref th, .ref tw])), (tb, .inl (kB, 3000, .inl fb))] s.heap := hP
  have hl := lv_entry ([.ref h, .int four]) (n := 3) (Nat.le_of_ble_eq_true rfl)
  rw [lg_entry_eq]
  generalize (lg_sl ([.ref h, .int four]) ++ List.replicate (3 - (lg_sl ([.ref h, .int four])).length) Slot.unset).toArray = ls at hl ⊢
  have hl : lv_has ls 3 [(0, .ref h), (1, .int four)] := hl
  refine lv_bipush (v := 24) hx hb dX9_append_0 (by decide) ?_
  refine lv_istore_n (lv' := [(2, .int 24), (0, .ref h), (1, .int four)]) hx hb dX9_append_2 rfl hl (by decide) rfl (fun ls hl => ?_)
  refine lv_iload_n hx hb dX9_append_3 rfl (lv_at hl 0 rfl) ?_
  refine lv_if_lt (tgt := 36) hx hb dX9_append_4 (by decide) (fun c_1 => absurd c_1 (by decide)) (fun _ => ?_)
  refine lv_aload_n hx hb dX9_append_7 rfl (lv_at hl 1 rfl) ?_
  refine va_get (D := (dC, dI)) (ci := 9) (v := .ref tb) (C := RX9) (T := TX9) (N := 18) hx hb hts in_c_append_X9 hown hK hP 0 rfl rfl 10 (by decide) (hts (.fieldLink RX9 32 "OwnedPlaces$Text" "bytes" "[B") (wm_c_append 1 rfl)) (fun _ h9 => h9) rfl dX9_append_8 ?_
  refine lv_aload_n hx hb dX9_append_11 rfl (lv_at hl 1 rfl) ?_
  refine va_get (D := (dC, dI)) (ci := 9) (v := .int (nI L)) (C := RX9) (T := TX9) (N := 18) hx hb hts in_c_append_X9 hown hK hP 0 rfl rfl 5 (by decide) (hts (.fieldLink RX9 81 "OwnedPlaces$Text" "length" "I") (wm_c_append 2 rfl)) (fun _ h9 => h9) rfl dX9_append_12 ?_
  refine lv_iload_n hx hb dX9_append_15 rfl (lv_at hl 2 rfl) ?_
  refine lv_iload_n hx hb dX9_append_16 rfl (lv_at hl 0 rfl) ?_
  refine lv_ishr hx hb dX9_append_17 ?_
  refine lv_topi (fun f_2 ef_2 => ?_)
  obtain ⟨f_3, ef_3⟩ : ∃ yY : Int32, yY = (f_2 : Int32).toInt8.toInt32 := ⟨_, rfl⟩
  refine lv_i2b (v := f_3) hx hb dX9_append_18 ef_3.symm ?_
  refine va_bast hx hb hK hP hD hS 1 0 rfl rfl (vp_in_nI (by omega) (by decide)) dX9_append_19 (fun H locs hP hD hS => ?_)
  have hP : va_P (dC, dI) vwCl [(h, .inr (9, [.ref tk, .ref tp, .ref tn, .ref tu, .ref tl, .int (nI L), .int now, .int ft, .int pl, .int nt, .ref tb, .int tot, .ref ts, .ref tf, .ref tz, .ref tx, .ref th, .ref tw])), (tb, .inl (kB, 3000, .inl (upd fb (nI L : Int32).toNatClampNeg (vp_nar .byte f_3))))] H := hP
  have hD : va_D A [(h, .inr (9, [.ref tk, .ref tp, .ref tn, .ref tu, .ref tl, .int (nI L), .int now, .int ft, .int pl, .int nt, .ref tb, .int tot, .ref ts, .ref tf, .ref tz, .ref tx, .ref th, .ref tw])), (tb, .inl (kB, 3000, .inl (upd fb (nI L : Int32).toNatClampNeg (vp_nar .byte f_3))))] := hD
  obtain ⟨b0, eb0⟩ : ∃ zZ : Nat → Int32, zZ = upd fb (nI L : Int32).toNatClampNeg (vp_nar .byte f_3) := ⟨_, rfl⟩
  rw [← eb0] at hP hD
  have hg0 : ∀ j, fits .byte (.int (b0 j)) = true := by intro j; rw [eb0]; by_cases e9 : j = (nI L).toNatClampNeg; rw [e9, pk_us, vp_nar_byte]; exact pk_fb _; rw [pk_un e9]; exact hg j
  refine lv_aload_n hx hb dX9_append_20 rfl (lv_at hl 1 rfl) ?_
  refine lv_dup hx hb dX9_append_21 rfl ?_
  refine va_get (D := (dC, dI)) (ci := 9) (v := .int (nI L)) (C := RX9) (T := TX9) (N := 18) hx hb hts in_c_append_X9 hown hK hP 0 rfl rfl 5 (by decide) (hts (.fieldLink RX9 81 "OwnedPlaces$Text" "length" "I") (wm_c_append 2 rfl)) (fun _ h9 => h9) rfl dX9_append_22 ?_
  refine lv_iconst (v := 1) hx hb dX9_append_25 (by decide) ?_
  refine lv_iadd hx hb dX9_append_26 ?_
  refine lv_topi (fun f_4 ef_4 => ?_)
  obtain rfl : f_4 = nI (L + 1) := ef_4.trans (nI_1 _)
  refine va_put (D := (dC, dI)) (ci := 9) (v := .int (nI (L + 1))) (ty := .int) (C := RX9) (T := TX9) (N := 18) hx hb hts in_c_append_X9 tyX9 tyX9_ok nmX9 hown hK hP hD hS 0 rfl rfl 5 (by decide) (hts (.fieldLink RX9 81 "OwnedPlaces$Text" "length" "I") (wm_c_append 2 rfl)) (fun _ h9 => h9) rfl (by decide +kernel) rfl rfl (Nat.le_of_ble_eq_true rfl) dX9_append_27 (fun H locs hP hD hS => ?_)
  have hP : va_P (dC, dI) vwCl [(h, .inr (9, [.ref tk, .ref tp, .ref tn, .ref tu, .ref tl, .int (nI (L + 1)), .int now, .int ft, .int pl, .int nt, .ref tb, .int tot, .ref ts, .ref tf, .ref tz, .ref tx, .ref th, .ref tw])), (tb, .inl (kB, 3000, .inl b0))] H := hP
  have hD : va_D A [(h, .inr (9, [.ref tk, .ref tp, .ref tn, .ref tu, .ref tl, .int (nI (L + 1)), .int now, .int ft, .int pl, .int nt, .ref tb, .int tot, .ref ts, .ref tf, .ref tz, .ref tx, .ref th, .ref tw])), (tb, .inl (kB, 3000, .inl b0))] := hD
  refine lv_iinc (v := 16) (lv' := [(2, .int 16), (0, .ref h), (1, .int four)]) hx hb dX9_append_30 hl (k := 0) rfl (by decide) (by decide) rfl (fun ls hl => ?_)
  refine lv_goto (tgt := 3) hx hb dX9_append_33 (by decide) ?_
  refine lv_iload_n hx hb dX9_append_3 rfl (lv_at hl 0 rfl) ?_
  refine lv_if_lt (tgt := 36) hx hb dX9_append_4 (by decide) (fun c_5 => absurd c_5 (by decide)) (fun _ => ?_)
  refine lv_aload_n hx hb dX9_append_7 rfl (lv_at hl 1 rfl) ?_
  refine va_get (D := (dC, dI)) (ci := 9) (v := .ref tb) (C := RX9) (T := TX9) (N := 18) hx hb hts in_c_append_X9 hown hK hP 0 rfl rfl 10 (by decide) (hts (.fieldLink RX9 32 "OwnedPlaces$Text" "bytes" "[B") (wm_c_append 1 rfl)) (fun _ h9 => h9) rfl dX9_append_8 ?_
  refine lv_aload_n hx hb dX9_append_11 rfl (lv_at hl 1 rfl) ?_
  refine va_get (D := (dC, dI)) (ci := 9) (v := .int (nI (L + 1))) (C := RX9) (T := TX9) (N := 18) hx hb hts in_c_append_X9 hown hK hP 0 rfl rfl 5 (by decide) (hts (.fieldLink RX9 81 "OwnedPlaces$Text" "length" "I") (wm_c_append 2 rfl)) (fun _ h9 => h9) rfl dX9_append_12 ?_
  refine lv_iload_n hx hb dX9_append_15 rfl (lv_at hl 2 rfl) ?_
  refine lv_iload_n hx hb dX9_append_16 rfl (lv_at hl 0 rfl) ?_
  refine lv_ishr hx hb dX9_append_17 ?_
  refine lv_topi (fun f_6 ef_6 => ?_)
  obtain ⟨f_7, ef_7⟩ : ∃ yY : Int32, yY = (f_6 : Int32).toInt8.toInt32 := ⟨_, rfl⟩
  refine lv_i2b (v := f_7) hx hb dX9_append_18 ef_7.symm ?_
  refine va_bast hx hb hK hP hD hS 1 0 rfl rfl (vp_in_nI (by omega) (by decide)) dX9_append_19 (fun H locs hP hD hS => ?_)
  have hP : va_P (dC, dI) vwCl [(h, .inr (9, [.ref tk, .ref tp, .ref tn, .ref tu, .ref tl, .int (nI (L + 1)), .int now, .int ft, .int pl, .int nt, .ref tb, .int tot, .ref ts, .ref tf, .ref tz, .ref tx, .ref th, .ref tw])), (tb, .inl (kB, 3000, .inl (upd b0 (nI (L + 1) : Int32).toNatClampNeg (vp_nar .byte f_7))))] H := hP
  have hD : va_D A [(h, .inr (9, [.ref tk, .ref tp, .ref tn, .ref tu, .ref tl, .int (nI (L + 1)), .int now, .int ft, .int pl, .int nt, .ref tb, .int tot, .ref ts, .ref tf, .ref tz, .ref tx, .ref th, .ref tw])), (tb, .inl (kB, 3000, .inl (upd b0 (nI (L + 1) : Int32).toNatClampNeg (vp_nar .byte f_7))))] := hD
  obtain ⟨b1, eb1⟩ : ∃ zZ : Nat → Int32, zZ = upd b0 (nI (L + 1) : Int32).toNatClampNeg (vp_nar .byte f_7) := ⟨_, rfl⟩
  rw [← eb1] at hP hD
  have hg1 : ∀ j, fits .byte (.int (b1 j)) = true := by intro j; rw [eb1]; by_cases e9 : j = (nI (L + 1)).toNatClampNeg; rw [e9, pk_us, vp_nar_byte]; exact pk_fb _; rw [pk_un e9]; exact hg0 j
  refine lv_aload_n hx hb dX9_append_20 rfl (lv_at hl 1 rfl) ?_
  refine lv_dup hx hb dX9_append_21 rfl ?_
  refine va_get (D := (dC, dI)) (ci := 9) (v := .int (nI (L + 1))) (C := RX9) (T := TX9) (N := 18) hx hb hts in_c_append_X9 hown hK hP 0 rfl rfl 5 (by decide) (hts (.fieldLink RX9 81 "OwnedPlaces$Text" "length" "I") (wm_c_append 2 rfl)) (fun _ h9 => h9) rfl dX9_append_22 ?_
  refine lv_iconst (v := 1) hx hb dX9_append_25 (by decide) ?_
  refine lv_iadd hx hb dX9_append_26 ?_
  refine lv_topi (fun f_8 ef_8 => ?_)
  obtain rfl : f_8 = nI (L + 2) := ef_8.trans (nI_1 _)
  refine va_put (D := (dC, dI)) (ci := 9) (v := .int (nI (L + 2))) (ty := .int) (C := RX9) (T := TX9) (N := 18) hx hb hts in_c_append_X9 tyX9 tyX9_ok nmX9 hown hK hP hD hS 0 rfl rfl 5 (by decide) (hts (.fieldLink RX9 81 "OwnedPlaces$Text" "length" "I") (wm_c_append 2 rfl)) (fun _ h9 => h9) rfl (by decide +kernel) rfl rfl (Nat.le_of_ble_eq_true rfl) dX9_append_27 (fun H locs hP hD hS => ?_)
  have hP : va_P (dC, dI) vwCl [(h, .inr (9, [.ref tk, .ref tp, .ref tn, .ref tu, .ref tl, .int (nI (L + 2)), .int now, .int ft, .int pl, .int nt, .ref tb, .int tot, .ref ts, .ref tf, .ref tz, .ref tx, .ref th, .ref tw])), (tb, .inl (kB, 3000, .inl b1))] H := hP
  have hD : va_D A [(h, .inr (9, [.ref tk, .ref tp, .ref tn, .ref tu, .ref tl, .int (nI (L + 2)), .int now, .int ft, .int pl, .int nt, .ref tb, .int tot, .ref ts, .ref tf, .ref tz, .ref tx, .ref th, .ref tw])), (tb, .inl (kB, 3000, .inl b1))] := hD
  refine lv_iinc (v := 8) (lv' := [(2, .int 8), (0, .ref h), (1, .int four)]) hx hb dX9_append_30 hl (k := 0) rfl (by decide) (by decide) rfl (fun ls hl => ?_)
  refine lv_goto (tgt := 3) hx hb dX9_append_33 (by decide) ?_
  refine lv_iload_n hx hb dX9_append_3 rfl (lv_at hl 0 rfl) ?_
  refine lv_if_lt (tgt := 36) hx hb dX9_append_4 (by decide) (fun c_9 => absurd c_9 (by decide)) (fun _ => ?_)
  refine lv_aload_n hx hb dX9_append_7 rfl (lv_at hl 1 rfl) ?_
  refine va_get (D := (dC, dI)) (ci := 9) (v := .ref tb) (C := RX9) (T := TX9) (N := 18) hx hb hts in_c_append_X9 hown hK hP 0 rfl rfl 10 (by decide) (hts (.fieldLink RX9 32 "OwnedPlaces$Text" "bytes" "[B") (wm_c_append 1 rfl)) (fun _ h9 => h9) rfl dX9_append_8 ?_
  refine lv_aload_n hx hb dX9_append_11 rfl (lv_at hl 1 rfl) ?_
  refine va_get (D := (dC, dI)) (ci := 9) (v := .int (nI (L + 2))) (C := RX9) (T := TX9) (N := 18) hx hb hts in_c_append_X9 hown hK hP 0 rfl rfl 5 (by decide) (hts (.fieldLink RX9 81 "OwnedPlaces$Text" "length" "I") (wm_c_append 2 rfl)) (fun _ h9 => h9) rfl dX9_append_12 ?_
  refine lv_iload_n hx hb dX9_append_15 rfl (lv_at hl 2 rfl) ?_
  refine lv_iload_n hx hb dX9_append_16 rfl (lv_at hl 0 rfl) ?_
  refine lv_ishr hx hb dX9_append_17 ?_
  refine lv_topi (fun f_10 ef_10 => ?_)
  obtain ⟨f_11, ef_11⟩ : ∃ yY : Int32, yY = (f_10 : Int32).toInt8.toInt32 := ⟨_, rfl⟩
  refine lv_i2b (v := f_11) hx hb dX9_append_18 ef_11.symm ?_
  refine va_bast hx hb hK hP hD hS 1 0 rfl rfl (vp_in_nI (by omega) (by decide)) dX9_append_19 (fun H locs hP hD hS => ?_)
  have hP : va_P (dC, dI) vwCl [(h, .inr (9, [.ref tk, .ref tp, .ref tn, .ref tu, .ref tl, .int (nI (L + 2)), .int now, .int ft, .int pl, .int nt, .ref tb, .int tot, .ref ts, .ref tf, .ref tz, .ref tx, .ref th, .ref tw])), (tb, .inl (kB, 3000, .inl (upd b1 (nI (L + 2) : Int32).toNatClampNeg (vp_nar .byte f_11))))] H := hP
  have hD : va_D A [(h, .inr (9, [.ref tk, .ref tp, .ref tn, .ref tu, .ref tl, .int (nI (L + 2)), .int now, .int ft, .int pl, .int nt, .ref tb, .int tot, .ref ts, .ref tf, .ref tz, .ref tx, .ref th, .ref tw])), (tb, .inl (kB, 3000, .inl (upd b1 (nI (L + 2) : Int32).toNatClampNeg (vp_nar .byte f_11))))] := hD
  obtain ⟨b2, eb2⟩ : ∃ zZ : Nat → Int32, zZ = upd b1 (nI (L + 2) : Int32).toNatClampNeg (vp_nar .byte f_11) := ⟨_, rfl⟩
  rw [← eb2] at hP hD
  have hg2 : ∀ j, fits .byte (.int (b2 j)) = true := by intro j; rw [eb2]; by_cases e9 : j = (nI (L + 2)).toNatClampNeg; rw [e9, pk_us, vp_nar_byte]; exact pk_fb _; rw [pk_un e9]; exact hg1 j
  refine lv_aload_n hx hb dX9_append_20 rfl (lv_at hl 1 rfl) ?_
  refine lv_dup hx hb dX9_append_21 rfl ?_
  refine va_get (D := (dC, dI)) (ci := 9) (v := .int (nI (L + 2))) (C := RX9) (T := TX9) (N := 18) hx hb hts in_c_append_X9 hown hK hP 0 rfl rfl 5 (by decide) (hts (.fieldLink RX9 81 "OwnedPlaces$Text" "length" "I") (wm_c_append 2 rfl)) (fun _ h9 => h9) rfl dX9_append_22 ?_
  refine lv_iconst (v := 1) hx hb dX9_append_25 (by decide) ?_
  refine lv_iadd hx hb dX9_append_26 ?_
  refine lv_topi (fun f_12 ef_12 => ?_)
  obtain rfl : f_12 = nI (L + 3) := ef_12.trans (nI_1 _)
  refine va_put (D := (dC, dI)) (ci := 9) (v := .int (nI (L + 3))) (ty := .int) (C := RX9) (T := TX9) (N := 18) hx hb hts in_c_append_X9 tyX9 tyX9_ok nmX9 hown hK hP hD hS 0 rfl rfl 5 (by decide) (hts (.fieldLink RX9 81 "OwnedPlaces$Text" "length" "I") (wm_c_append 2 rfl)) (fun _ h9 => h9) rfl (by decide +kernel) rfl rfl (Nat.le_of_ble_eq_true rfl) dX9_append_27 (fun H locs hP hD hS => ?_)
  have hP : va_P (dC, dI) vwCl [(h, .inr (9, [.ref tk, .ref tp, .ref tn, .ref tu, .ref tl, .int (nI (L + 3)), .int now, .int ft, .int pl, .int nt, .ref tb, .int tot, .ref ts, .ref tf, .ref tz, .ref tx, .ref th, .ref tw])), (tb, .inl (kB, 3000, .inl b2))] H := hP
  have hD : va_D A [(h, .inr (9, [.ref tk, .ref tp, .ref tn, .ref tu, .ref tl, .int (nI (L + 3)), .int now, .int ft, .int pl, .int nt, .ref tb, .int tot, .ref ts, .ref tf, .ref tz, .ref tx, .ref th, .ref tw])), (tb, .inl (kB, 3000, .inl b2))] := hD
  refine lv_iinc (v := 0) (lv' := [(2, .int 0), (0, .ref h), (1, .int four)]) hx hb dX9_append_30 hl (k := 0) rfl (by decide) (by decide) rfl (fun ls hl => ?_)
  refine lv_goto (tgt := 3) hx hb dX9_append_33 (by decide) ?_
  refine lv_iload_n hx hb dX9_append_3 rfl (lv_at hl 0 rfl) ?_
  refine lv_if_lt (tgt := 36) hx hb dX9_append_4 (by decide) (fun c_13 => absurd c_13 (by decide)) (fun _ => ?_)
  refine lv_aload_n hx hb dX9_append_7 rfl (lv_at hl 1 rfl) ?_
  refine va_get (D := (dC, dI)) (ci := 9) (v := .ref tb) (C := RX9) (T := TX9) (N := 18) hx hb hts in_c_append_X9 hown hK hP 0 rfl rfl 10 (by decide) (hts (.fieldLink RX9 32 "OwnedPlaces$Text" "bytes" "[B") (wm_c_append 1 rfl)) (fun _ h9 => h9) rfl dX9_append_8 ?_
  refine lv_aload_n hx hb dX9_append_11 rfl (lv_at hl 1 rfl) ?_
  refine va_get (D := (dC, dI)) (ci := 9) (v := .int (nI (L + 3))) (C := RX9) (T := TX9) (N := 18) hx hb hts in_c_append_X9 hown hK hP 0 rfl rfl 5 (by decide) (hts (.fieldLink RX9 81 "OwnedPlaces$Text" "length" "I") (wm_c_append 2 rfl)) (fun _ h9 => h9) rfl dX9_append_12 ?_
  refine lv_iload_n hx hb dX9_append_15 rfl (lv_at hl 2 rfl) ?_
  refine lv_iload_n hx hb dX9_append_16 rfl (lv_at hl 0 rfl) ?_
  refine lv_ishr hx hb dX9_append_17 ?_
  refine lv_topi (fun f_14 ef_14 => ?_)
  obtain ⟨f_15, ef_15⟩ : ∃ yY : Int32, yY = (f_14 : Int32).toInt8.toInt32 := ⟨_, rfl⟩
  refine lv_i2b (v := f_15) hx hb dX9_append_18 ef_15.symm ?_
  refine va_bast hx hb hK hP hD hS 1 0 rfl rfl (vp_in_nI (by omega) (by decide)) dX9_append_19 (fun H locs hP hD hS => ?_)
  have hP : va_P (dC, dI) vwCl [(h, .inr (9, [.ref tk, .ref tp, .ref tn, .ref tu, .ref tl, .int (nI (L + 3)), .int now, .int ft, .int pl, .int nt, .ref tb, .int tot, .ref ts, .ref tf, .ref tz, .ref tx, .ref th, .ref tw])), (tb, .inl (kB, 3000, .inl (upd b2 (nI (L + 3) : Int32).toNatClampNeg (vp_nar .byte f_15))))] H := hP
  have hD : va_D A [(h, .inr (9, [.ref tk, .ref tp, .ref tn, .ref tu, .ref tl, .int (nI (L + 3)), .int now, .int ft, .int pl, .int nt, .ref tb, .int tot, .ref ts, .ref tf, .ref tz, .ref tx, .ref th, .ref tw])), (tb, .inl (kB, 3000, .inl (upd b2 (nI (L + 3) : Int32).toNatClampNeg (vp_nar .byte f_15))))] := hD
  obtain ⟨b3, eb3⟩ : ∃ zZ : Nat → Int32, zZ = upd b2 (nI (L + 3) : Int32).toNatClampNeg (vp_nar .byte f_15) := ⟨_, rfl⟩
  rw [← eb3] at hP hD
  have hg3 : ∀ j, fits .byte (.int (b3 j)) = true := by intro j; rw [eb3]; by_cases e9 : j = (nI (L + 3)).toNatClampNeg; rw [e9, pk_us, vp_nar_byte]; exact pk_fb _; rw [pk_un e9]; exact hg2 j
  refine lv_aload_n hx hb dX9_append_20 rfl (lv_at hl 1 rfl) ?_
  refine lv_dup hx hb dX9_append_21 rfl ?_
  refine va_get (D := (dC, dI)) (ci := 9) (v := .int (nI (L + 3))) (C := RX9) (T := TX9) (N := 18) hx hb hts in_c_append_X9 hown hK hP 0 rfl rfl 5 (by decide) (hts (.fieldLink RX9 81 "OwnedPlaces$Text" "length" "I") (wm_c_append 2 rfl)) (fun _ h9 => h9) rfl dX9_append_22 ?_
  refine lv_iconst (v := 1) hx hb dX9_append_25 (by decide) ?_
  refine lv_iadd hx hb dX9_append_26 ?_
  refine lv_topi (fun f_16 ef_16 => ?_)
  obtain rfl : f_16 = nI (L + 4) := ef_16.trans (nI_1 _)
  refine va_put (D := (dC, dI)) (ci := 9) (v := .int (nI (L + 4))) (ty := .int) (C := RX9) (T := TX9) (N := 18) hx hb hts in_c_append_X9 tyX9 tyX9_ok nmX9 hown hK hP hD hS 0 rfl rfl 5 (by decide) (hts (.fieldLink RX9 81 "OwnedPlaces$Text" "length" "I") (wm_c_append 2 rfl)) (fun _ h9 => h9) rfl (by decide +kernel) rfl rfl (Nat.le_of_ble_eq_true rfl) dX9_append_27 (fun H locs hP hD hS => ?_)
  have hP : va_P (dC, dI) vwCl [(h, .inr (9, [.ref tk, .ref tp, .ref tn, .ref tu, .ref tl, .int (nI (L + 4)), .int now, .int ft, .int pl, .int nt, .ref tb, .int tot, .ref ts, .ref tf, .ref tz, .ref tx, .ref th, .ref tw])), (tb, .inl (kB, 3000, .inl b3))] H := hP
  have hD : va_D A [(h, .inr (9, [.ref tk, .ref tp, .ref tn, .ref tu, .ref tl, .int (nI (L + 4)), .int now, .int ft, .int pl, .int nt, .ref tb, .int tot, .ref ts, .ref tf, .ref tz, .ref tx, .ref th, .ref tw])), (tb, .inl (kB, 3000, .inl b3))] := hD
  refine lv_iinc (v := (-8)) (lv' := [(2, .int (-8)), (0, .ref h), (1, .int four)]) hx hb dX9_append_30 hl (k := 0) rfl (by decide) (by decide) rfl (fun ls hl => ?_)
  refine lv_goto (tgt := 3) hx hb dX9_append_33 (by decide) ?_
  refine lv_iload_n hx hb dX9_append_3 rfl (lv_at hl 0 rfl) ?_
  refine lv_if_lt (tgt := 36) hx hb dX9_append_4 (by decide) (fun _ => ?_) (fun c_17 => absurd (by decide) c_17)
  have hP9 := hP.sub (ws' := [(h, .inr (9, [.ref tk, .ref tp, .ref tn, .ref tu, .ref tl, .int (nI (L + 4)), .int now, .int ft, .int pl, .int nt, .ref tb, .int tot, .ref ts, .ref tf, .ref tz, .ref tx, .ref th, .ref tw])), (tb, .inl (kB, 3000, .inl b3))]) [0, 1] rfl
  have hD9 := hD.sub (ws' := [(h, .inr (9, [.ref tk, .ref tp, .ref tn, .ref tu, .ref tl, .int (nI (L + 4)), .int now, .int ft, .int pl, .int nt, .ref tb, .int tot, .ref ts, .ref tf, .ref tz, .ref tx, .ref th, .ref tw])), (tb, .inl (kB, 3000, .inl b3))]) [0, 1] (by decide) rfl
  have hK9 := hK.sub (tys' := [(kB, .byte)]) [0] rfl
  exact W.vret hx hb hr (fun tS ht hW => ⟨⟨(), rfl, trivial, b3, hg3, by rw [ht]; exact hP9, va_K.moved hW.alike hK9, hD9⟩, hS.F ht⟩) hS.2.2 dX9_append_36
def wf_c_feed : List Cond := [.code yX12_feed cX12_feed 6 (some .boolean), .fieldLink RX12 12 "OwnedPlaces" "text" "LOwnedPlaces$Text;", .fieldLink RX12 109 "OwnedPlaces$Text" "length" "I", .code yX9_append cX9_append 3 none, .fieldLink RX9 32 "OwnedPlaces$Text" "bytes" "[B", .fieldLink RX9 81 "OwnedPlaces$Text" "length" "I", .methodLink RX12 112 yX9_append, .instanceMethod yX9_append, .selects RX9 yX9_append yX9_append, .initialized RX9]
def wp_c_feed : List Cond := wf_c_feed ++ (wsX120 ++ (wsX90 ++ []))
theorem in_c_feed_X12 : ∀ w ∈ wsX120, w ∈ wp_c_feed := fun w h => List.mem_append_right _ (List.mem_append_left _ h)
theorem in_c_feed_X9 : ∀ w ∈ wsX90, w ∈ wp_c_feed := fun w h => List.mem_append_right _ (List.mem_append_right _ (List.mem_append_left _ h))
theorem wg_c_feed : wf_c_feed.all goodWord = true := by decide +kernel
theorem wm_c_feed (k : Nat) {w : Cond} (h : wp_c_feed[k]? = some w) : w ∈ wp_c_feed := List.mem_of_getElem? h
set_option maxRecDepth 20000 in
theorem g_c_feed_c_append_23 : GoodIn wp_c_feed (wsV RX12 112 RX9 yX9_append wp_c_append) := goodIn_app (goodIn_f [.methodLink RX12 112 yX9_append, .instanceMethod yX9_append, .selects RX9 yX9_append yX9_append, .initialized RX9] [6, 7, 8, 9] rfl (by decide +kernel)) (goodIn_app (goodIn_f (wf_c_append) [3, 4, 5] rfl wg_c_append) (goodIn_app (goodIn_sub in_c_feed_X9 gd_X9) (goodIn_n)))
set_option maxRecDepth 20000 in
theorem g_c_feed_c_append_31 : GoodIn wp_c_feed (wsV RX12 112 RX9 yX9_append wp_c_append) := goodIn_app (goodIn_f [.methodLink RX12 112 yX9_append, .instanceMethod yX9_append, .selects RX9 yX9_append yX9_append, .initialized RX9] [6, 7, 8, 9] rfl (by decide +kernel)) (goodIn_app (goodIn_f (wf_c_append) [3, 4, 5] rfl wg_c_append) (goodIn_app (goodIn_sub in_c_feed_X9 gd_X9) (goodIn_n)))
set_option maxRecDepth 20000 in
theorem g_c_feed_c_append_39 : GoodIn wp_c_feed (wsV RX12 112 RX9 yX9_append wp_c_append) := goodIn_app (goodIn_f [.methodLink RX12 112 yX9_append, .instanceMethod yX9_append, .selects RX9 yX9_append yX9_append, .initialized RX9] [6, 7, 8, 9] rfl (by decide +kernel)) (goodIn_app (goodIn_f (wf_c_append) [3, 4, 5] rfl wg_c_append) (goodIn_app (goodIn_sub in_c_feed_X9 gd_X9) (goodIn_n)))
set_option maxRecDepth 20000 in
theorem g_c_feed_c_append_48 : GoodIn wp_c_feed (wsV RX12 112 RX9 yX9_append wp_c_append) := goodIn_app (goodIn_f [.methodLink RX12 112 yX9_append, .instanceMethod yX9_append, .selects RX9 yX9_append yX9_append, .initialized RX9] [6, 7, 8, 9] rfl (by decide +kernel)) (goodIn_app (goodIn_f (wf_c_append) [3, 4, 5] rfl wg_c_append) (goodIn_app (goodIn_sub in_c_feed_X9 gd_X9) (goodIn_n)))
set_option maxRecDepth 20000 in
theorem g_c_feed_c_append_57 : GoodIn wp_c_feed (wsV RX12 112 RX9 yX9_append wp_c_append) := goodIn_app (goodIn_f [.methodLink RX12 112 yX9_append, .instanceMethod yX9_append, .selects RX9 yX9_append yX9_append, .initialized RX9] [6, 7, 8, 9] rfl (by decide +kernel)) (goodIn_app (goodIn_f (wf_c_append) [3, 4, 5] rfl wg_c_append) (goodIn_app (goodIn_sub in_c_feed_X9 gd_X9) (goodIn_n)))
set_option maxHeartbeats 4000000 in
set_option maxRecDepth 100000 in
theorem c_feed (l : Launch) (dC : Nat → ClassId) (dI : Nat → Nat → Nat) (x xg y xd c0 xt xm xl qn qw xe xc : Nat) (xf xp : Int32) (h tk tp tn tu tl tb ts tf tz tx th tw : Nat) (now ft pl nt tot : Int32) (L : Nat) (kB : ClassId) (fb : Nat → Int32) (i0 i1 i2 i3 i4 : Int32) (sz : Nat) (hL : L + 20 ≤ 3000) (hg : ∀ j, fits .byte (.int (fb j)) = true) : Met l yX12_feed wp_c_feed ({ frames := 1, cells := 0, slots := 0, locals := 22 }) (va_Pc [.ref x, .int i0, .int i1, .int i2, .int i3, .int i4] (fun U => U.heap.size = sz ∧ va_P (dC, dI) vwCl [(x, .inr (12, [.ref h, .ref xg, .ref y, .ref xd, .ref c0, .ref xt, .ref xm, .ref xl, .ref qn, .ref qw, .ref xe, .ref xc, .int xf, .int xp])), (h, .inr (9, [.ref tk, .ref tp, .ref tn, .ref tu, .ref tl, .int (nI L), .int now, .int ft, .int pl, .int nt, .ref tb, .int tot, .ref ts, .ref tf, .ref tz, .ref tx, .ref th, .ref tw])), (tb, .inl (kB, 3000, .inl fb))] U.heap ∧ va_K (dC, dI) vwCl [(kB, .byte)] U ∧ va_D (fun _ => True) [(x, .inr (12, [.ref h, .ref xg, .ref y, .ref xd, .ref c0, .ref xt, .ref xm, .ref xl, .ref qn, .ref qw, .ref xe, .ref xc, .int xf, .int xp])), (h, .inr (9, [.ref tk, .ref tp, .ref tn, .ref tu, .ref tl, .int (nI L), .int now, .int ft, .int pl, .int nt, .ref tb, .int tot, .ref ts, .ref tf, .ref tz, .ref tx, .ref th, .ref tw])), (tb, .inl (kB, 3000, .inl fb))])) (va_Qi (fun (r : Int32) (_ : Unit) => r = 1) (fun (_ : Unit) (tS : State) => ∃ (gb : Nat → Int32), (∀ j, fits .byte (.int (gb j)) = true) ∧ va_P (dC, dI) vwCl [(x, .inr (12, [.ref h, .ref xg, .ref y, .ref xd, .ref c0, .ref xt, .ref xm, .ref xl, .ref qn, .ref qw, .ref xe, .ref xc, .int xf, .int xp])), (h, .inr (9, [.ref tk, .ref tp, .ref tn, .ref tu, .ref tl, .int (nI (L + 20)), .int now, .int ft, .int pl, .int nt, .ref tb, .int tot, .ref ts, .ref tf, .ref tz, .ref tx, .ref th, .ref tw])), (tb, .inl (kB, 3000, .inl gb))] tS.heap ∧ va_K (dC, dI) vwCl [(kB, .byte)] tS ∧ va_D (va_A [(x, .inr (12, [.ref h, .ref xg, .ref y, .ref xd, .ref c0, .ref xt, .ref xm, .ref xl, .ref qn, .ref qw, .ref xe, .ref xc, .int xf, .int xp])), (h, .inr (9, [.ref tk, .ref tp, .ref tn, .ref tu, .ref tl, .int (nI L), .int now, .int ft, .int pl, .int nt, .ref tb, .int tot, .ref ts, .ref tf, .ref tz, .ref tx, .ref th, .ref tw])), (tb, .inl (kB, 3000, .inl fb))] sz) [(x, .inr (12, [.ref h, .ref xg, .ref y, .ref xd, .ref c0, .ref xt, .ref xm, .ref xl, .ref qn, .ref qw, .ref xe, .ref xc, .int xf, .int xp])), (h, .inr (9, [.ref tk, .ref tp, .ref tn, .ref tu, .ref tl, .int (nI (L + 20)), .int now, .int ft, .int pl, .int nt, .ref tb, .int tot, .ref ts, .ref tf, .ref tz, .ref tx, .ref th, .ref tw])), (tb, .inl (kB, 3000, .inl gb))]) (va_A [(x, .inr (12, [.ref h, .ref xg, .ref y, .ref xd, .ref c0, .ref xt, .ref xm, .ref xl, .ref qn, .ref qw, .ref xe, .ref xc, .int xf, .int xp])), (h, .inr (9, [.ref tk, .ref tp, .ref tn, .ref tu, .ref tl, .int (nI L), .int now, .int ft, .int pl, .int nt, .ref tb, .int tot, .ref ts, .ref tf, .ref tz, .ref tx, .ref th, .ref tw])), (tb, .inl (kB, 3000, .inl fb))] sz)) 0 0 (va_A [(x, .inr (12, [.ref h, .ref xg, .ref y, .ref xd, .ref c0, .ref xt, .ref xm, .ref xl, .ref qn, .ref qw, .ref xe, .ref xc, .int xf, .int xp])), (h, .inr (9, [.ref tk, .ref tp, .ref tn, .ref tu, .ref tl, .int (nI L), .int now, .int ft, .int pl, .int nt, .ref tb, .int tot, .ref ts, .ref tf, .ref tz, .ref tx, .ref th, .ref tw])), (tb, .inl (kB, 3000, .inl fb))] sz) := by
  refine Met.ofW (cc := cX12_feed) (maxL := 6) (ret := (some .boolean)) (by decide) rfl ?_
  intro p e s m args below meth c s₁ B hml hv
  obtain ⟨rfl, hsz, hP, hK, hD0⟩ := hv
  have hx := B.exec
  have hb := B.bytes
  have hr := B.returns
  have hts := atoms_spec (ws := wp_c_feed) B.pre
  have hown : s.vm.findClass RX12 = some m.cls := findClass_of_methodNamed B.named
  have hlocks := B.notSynchronized
  subst hsz
  have hD := hD0.self (sz := s.heap.size)
  generalize hAe : va_A [(x, .inr (12, [.ref h, .ref xg, .ref y, .ref xd, .ref c0, .ref xt, .ref xm, .ref xl, .ref qn, .ref qw, .ref xe, .ref xc, .int xf, .int xp])), (h, .inr (9, [.ref tk, .ref tp, .ref tn, .ref tu, .ref tl, .int (nI L), .int now, .int ft, .int pl, .int nt, .ref tb, .int tot, .ref ts, .ref tf, .ref tz, .ref tx, .ref th, .ref tw])), (tb, .inl (kB, 3000, .inl fb))] s.heap.size = A at hD ⊢
  have hA : ∀ q : Nat, s.heap.size ≤ q → A q := fun q h => by rw [← hAe]; exact Or.inr h
  have hS : va_S A s.heap s.heap [] := va_S.rf
  have hP : va_P (dC, dI) vwCl [(x, .inr (12, [.ref h, .ref xg, .ref y, .ref xd, .ref c0, .ref xt, .ref xm, .ref xl, .ref qn, .ref qw, .ref xe, .ref xc, .int xf, .int xp])), (h, .inr (9, [.ref tk, .ref tp, .ref tn, .ref tu, .ref tl, .int (nI L), .int now, .int ft, .int pl, .int nt, .ref tb, .int tot, .ref ts, .ref tf, .ref tz, .ref tx, .ref th, .ref tw])), (tb, .inl (kB, 3000, .inl fb))] s.heap := hP
  have hl := lv_entry ([.ref x, .int i0, .int i1, .int i2, .int i3, .int i4]) (n := 6) (Nat.le_of_ble_eq_true rfl)
  rw [lg_entry_eq]
  generalize (lg_sl ([.ref x, .int i0, .int i1, .int i2, .int i3, .int i4]) ++ List.replicate (6 - (lg_sl ([.ref x, .int i0, .int i1, .int i2, .int i3, .int i4])).length) Slot.unset).toArray = ls at hl ⊢
  have hl : lv_has ls 6 [(0, .ref x), (1, .int i0), (2, .int i1), (3, .int i2), (4, .int i3), (5, .int i4)] := hl
  refine lv_aload_n hx hb dX12_feed_0 rfl (lv_at hl 0 rfl) ?_
  refine va_get (D := (dC, dI)) (ci := 12) (v := .ref h) (C := RX12) (T := TX12) (N := 14) hx hb hts in_c_feed_X12 hown hK hP 0 rfl rfl 0 (by decide) (hts (.fieldLink RX12 12 "OwnedPlaces" "text" "LOwnedPlaces$Text;") (wm_c_feed 1 rfl)) (fun _ h9 => h9) rfl dX12_feed_1 ?_
  refine va_get (D := (dC, dI)) (ci := 9) (v := .int (nI L)) (C := RX9) (T := TX9) (N := 18) hx hb hts in_c_feed_X9 hown hK hP 1 rfl rfl 5 (by decide) (hts (.fieldLink RX12 109 "OwnedPlaces$Text" "length" "I") (wm_c_feed 2 rfl)) (fun _ h9 => h9) rfl dX12_feed_4 ?_
  refine lv_bipush (v := 20) hx hb dX12_feed_7 (by decide) ?_
  refine lv_iadd hx hb dX12_feed_9 ?_
  refine lv_topi (fun f_1 ef_1 => ?_)
  obtain rfl : f_1 = nI (L + 20) := ef_1.trans (nI_add L 20)
  refine lv_sipush (v := 3000) hx hb dX12_feed_10 (by decide) ?_
  refine lv_icmp_le (tgt := 18) hx hb dX12_feed_13 (by decide) (fun _ => ?_) (fun c_2 => absurd (nI_le (a := L + 20) (b := 3000) hL (by decide)) c_2)
  refine lv_aload_n hx hb dX12_feed_18 rfl (lv_at hl 0 rfl) ?_
  refine va_get (D := (dC, dI)) (ci := 12) (v := .ref h) (C := RX12) (T := TX12) (N := 14) hx hb hts in_c_feed_X12 hown hK hP 0 rfl rfl 0 (by decide) (hts (.fieldLink RX12 12 "OwnedPlaces" "text" "LOwnedPlaces$Text;") (wm_c_feed 1 rfl)) (fun _ h9 => h9) rfl dX12_feed_19 ?_
  refine lv_iload_n hx hb dX12_feed_22 rfl (lv_at hl 1 rfl) ?_
  have hPc := hP.sub (ws' := [(h, .inr (9, [.ref tk, .ref tp, .ref tn, .ref tu, .ref tl, .int (nI L), .int now, .int ft, .int pl, .int nt, .ref tb, .int tot, .ref ts, .ref tf, .ref tz, .ref tx, .ref th, .ref tw])), (tb, .inl (kB, 3000, .inl fb))]) [1, 2] rfl
  have hDc := hD.sub (ws' := [(h, .inr (9, [.ref tk, .ref tp, .ref tn, .ref tu, .ref tl, .int (nI L), .int now, .int ft, .int pl, .int nt, .ref tb, .int tot, .ref ts, .ref tf, .ref tz, .ref tx, .ref th, .ref tw])), (tb, .inl (kB, 3000, .inl fb))]) [1, 2] (by decide) rfl
  have hKc := hK.sub (tys' := [(kB, .byte)]) [0] rfl
  have hFc := va_free (wc := [(h, .inr (9, [.ref tk, .ref tp, .ref tn, .ref tu, .ref tl, .int (nI L), .int now, .int ft, .int pl, .int nt, .ref tb, .int tot, .ref ts, .ref tf, .ref tz, .ref tx, .ref th, .ref tw])), (tb, .inl (kB, 3000, .inl fb))]) hD hS hA [1, 2] rfl
  refine va_callv (va_runV (As := [.int i0]) (rest := []) ⟨hx, hb, hml, hown, hts⟩ (c_append l dC dI h tk tp tn tu tl tb ts tf tz tx th tw now ft pl nt tot i0 L kB fb s.heap.size (by omega) hg) (cwV 1 hts g_c_feed_c_append_23 rfl rfl rfl (by decide +kernel) ⟨Nat.le_of_ble_eq_true rfl, Nat.le_of_ble_eq_true rfl⟩) ⟨fun a U g mk q => by obtain ⟨q0, q1, qP, qK, qD⟩ := q; exact ⟨q0, q1, qP, va_K.moved (u := U) (U := U.calling g mk a) (Vm.Alike.refl U.vm) qK, qD⟩, va_recv hKc hPc (ci := 9) (q0 := 0) rfl rfl, fun U hU hW => ⟨rfl, by rw [hU], by rw [hU]; exact hPc, va_K.moved hW.alike hKc, hDc.weaken (fun _ _ _ _ => trivial)⟩⟩ rfl rfl hl.1 rfl (lv_room (Nat.le_of_ble_eq_true rfl)) dX12_feed_23 ⟨(show 0 + 0 ≤ 0 by omega), (show 0 + 0 ≤ 0 by omega)⟩) hS (fun q _ h => hFc q h) hFc (fun u tS H1 locs ht hvm hw hB hz1 hk1 hS => ?_)
  obtain ⟨fb0, hf3_0, hP1, hK1, hD1⟩ := hB
  rw [ht] at hP1
  have hK1 := va_K.moved hvm.symm hK1
  obtain ⟨hP, hD⟩ := va_join (wr := [(x, .inr (12, [.ref h, .ref xg, .ref y, .ref xd, .ref c0, .ref xt, .ref xm, .ref xl, .ref qn, .ref qw, .ref xe, .ref xc, .int xf, .int xp]))]) (w1 := [(h, .inr (9, [.ref tk, .ref tp, .ref tn, .ref tu, .ref tl, .int (nI (L + 4)), .int now, .int ft, .int pl, .int nt, .ref tb, .int tot, .ref ts, .ref tf, .ref tz, .ref tx, .ref th, .ref tw])), (tb, .inl (kB, 3000, .inl fb0))]) hP hD [1, 2] [0] rfl rfl (by decide) (by decide) hk1 hFc hP1 hD1
  have hK := hK.app hK1
  generalize H1 = H at hP hS ⊢
  have hP : va_P (dC, dI) vwCl [(x, .inr (12, [.ref h, .ref xg, .ref y, .ref xd, .ref c0, .ref xt, .ref xm, .ref xl, .ref qn, .ref qw, .ref xe, .ref xc, .int xf, .int xp])), (h, .inr (9, [.ref tk, .ref tp, .ref tn, .ref tu, .ref tl, .int (nI (L + 4)), .int now, .int ft, .int pl, .int nt, .ref tb, .int tot, .ref ts, .ref tf, .ref tz, .ref tx, .ref th, .ref tw])), (tb, .inl (kB, 3000, .inl fb0))] H := hP
  have hD : va_D A [(x, .inr (12, [.ref h, .ref xg, .ref y, .ref xd, .ref c0, .ref xt, .ref xm, .ref xl, .ref qn, .ref qw, .ref xe, .ref xc, .int xf, .int xp])), (h, .inr (9, [.ref tk, .ref tp, .ref tn, .ref tu, .ref tl, .int (nI (L + 4)), .int now, .int ft, .int pl, .int nt, .ref tb, .int tot, .ref ts, .ref tf, .ref tz, .ref tx, .ref th, .ref tw])), (tb, .inl (kB, 3000, .inl fb0))] := hD
  have hK : va_K (dC, dI) vwCl [(kB, .byte), (kB, .byte)] s := hK
  have hK := hK.sub (tys' := [(kB, .byte)]) [0] rfl
  have hP : va_P (dC, dI) vwCl [(x, .inr (12, [.ref h, .ref xg, .ref y, .ref xd, .ref c0, .ref xt, .ref xm, .ref xl, .ref qn, .ref qw, .ref xe, .ref xc, .int xf, .int xp])), (h, .inr (9, [.ref tk, .ref tp, .ref tn, .ref tu, .ref tl, .int (nI (L + 4)), .int now, .int ft, .int pl, .int nt, .ref tb, .int tot, .ref ts, .ref tf, .ref tz, .ref tx, .ref th, .ref tw])), (tb, .inl (kB, 3000, .inl fb0))] H := hP
  have hD : va_D A [(x, .inr (12, [.ref h, .ref xg, .ref y, .ref xd, .ref c0, .ref xt, .ref xm, .ref xl, .ref qn, .ref qw, .ref xe, .ref xc, .int xf, .int xp])), (h, .inr (9, [.ref tk, .ref tp, .ref tn, .ref tu, .ref tl, .int (nI (L + 4)), .int now, .int ft, .int pl, .int nt, .ref tb, .int tot, .ref ts, .ref tf, .ref tz, .ref tx, .ref th, .ref tw])), (tb, .inl (kB, 3000, .inl fb0))] := hD
  have hP : va_P (dC, dI) vwCl [(x, .inr (12, [.ref h, .ref xg, .ref y, .ref xd, .ref c0, .ref xt, .ref xm, .ref xl, .ref qn, .ref qw, .ref xe, .ref xc, .int xf, .int xp])), (h, .inr (9, [.ref tk, .ref tp, .ref tn, .ref tu, .ref tl, .int (nI (L + 4)), .int now, .int ft, .int pl, .int nt, .ref tb, .int tot, .ref ts, .ref tf, .ref tz, .ref tx, .ref th, .ref tw])), (tb, .inl (kB, 3000, .inl fb0))] H := hP
  have hD : va_D A [(x, .inr (12, [.ref h, .ref xg, .ref y, .ref xd, .ref c0, .ref xt, .ref xm, .ref xl, .ref qn, .ref qw, .ref xe, .ref xc, .int xf, .int xp])), (h, .inr (9, [.ref tk, .ref tp, .ref tn, .ref tu, .ref tl, .int (nI (L + 4)), .int now, .int ft, .int pl, .int nt, .ref tb, .int tot, .ref ts, .ref tf, .ref tz, .ref tx, .ref th, .ref tw])), (tb, .inl (kB, 3000, .inl fb0))] := hD
  refine lv_aload_n hx hb dX12_feed_26 rfl (lv_at hl 0 rfl) ?_
  refine va_get (D := (dC, dI)) (ci := 12) (v := .ref h) (C := RX12) (T := TX12) (N := 14) hx hb hts in_c_feed_X12 hown hK hP 0 rfl rfl 0 (by decide) (hts (.fieldLink RX12 12 "OwnedPlaces" "text" "LOwnedPlaces$Text;") (wm_c_feed 1 rfl)) (fun _ h9 => h9) rfl dX12_feed_27 ?_
  refine lv_iload_n hx hb dX12_feed_30 rfl (lv_at hl 2 rfl) ?_
  have hPc := hP.sub (ws' := [(h, .inr (9, [.ref tk, .ref tp, .ref tn, .ref tu, .ref tl, .int (nI (L + 4)), .int now, .int ft, .int pl, .int nt, .ref tb, .int tot, .ref ts, .ref tf, .ref tz, .ref tx, .ref th, .ref tw])), (tb, .inl (kB, 3000, .inl fb0))]) [1, 2] rfl
  have hDc := hD.sub (ws' := [(h, .inr (9, [.ref tk, .ref tp, .ref tn, .ref tu, .ref tl, .int (nI (L + 4)), .int now, .int ft, .int pl, .int nt, .ref tb, .int tot, .ref ts, .ref tf, .ref tz, .ref tx, .ref th, .ref tw])), (tb, .inl (kB, 3000, .inl fb0))]) [1, 2] (by decide) rfl
  have hKc := hK.sub (tys' := [(kB, .byte)]) [0] rfl
  have hFc := va_free (wc := [(h, .inr (9, [.ref tk, .ref tp, .ref tn, .ref tu, .ref tl, .int (nI (L + 4)), .int now, .int ft, .int pl, .int nt, .ref tb, .int tot, .ref ts, .ref tf, .ref tz, .ref tx, .ref th, .ref tw])), (tb, .inl (kB, 3000, .inl fb0))]) hD hS hA [1, 2] rfl
  refine va_callv (va_runV (As := [.int i1]) (rest := []) ⟨hx, hb, hml, hown, hts⟩ (c_append l dC dI h tk tp tn tu tl tb ts tf tz tx th tw now ft pl nt tot i1 (L + 4) kB fb0 H.size (by omega) hf3_0) (cwV 1 hts g_c_feed_c_append_31 rfl rfl rfl (by decide +kernel) ⟨Nat.le_of_ble_eq_true rfl, Nat.le_of_ble_eq_true rfl⟩) ⟨fun a U g mk q => by obtain ⟨q0, q1, qP, qK, qD⟩ := q; exact ⟨q0, q1, qP, va_K.moved (u := U) (U := U.calling g mk a) (Vm.Alike.refl U.vm) qK, qD⟩, va_recv hKc hPc (ci := 9) (q0 := 0) rfl rfl, fun U hU hW => ⟨rfl, by rw [hU], by rw [hU]; exact hPc, va_K.moved hW.alike hKc, hDc.weaken (fun _ _ _ _ => trivial)⟩⟩ rfl rfl hl.1 rfl (lv_room (Nat.le_of_ble_eq_true rfl)) dX12_feed_31 ⟨(show 0 + 0 ≤ 0 by omega), (show 0 + 0 ≤ 0 by omega)⟩) hS (fun q _ h => hFc q h) hFc (fun u tS H1 locs ht hvm hw hB hz1 hk1 hS => ?_)
  obtain ⟨fb1, hf4_0, hP1, hK1, hD1⟩ := hB
  rw [ht] at hP1
  have hK1 := va_K.moved hvm.symm hK1
  obtain ⟨hP, hD⟩ := va_join (wr := [(x, .inr (12, [.ref h, .ref xg, .ref y, .ref xd, .ref c0, .ref xt, .ref xm, .ref xl, .ref qn, .ref qw, .ref xe, .ref xc, .int xf, .int xp]))]) (w1 := [(h, .inr (9, [.ref tk, .ref tp, .ref tn, .ref tu, .ref tl, .int (nI ((L + 4) + 4)), .int now, .int ft, .int pl, .int nt, .ref tb, .int tot, .ref ts, .ref tf, .ref tz, .ref tx, .ref th, .ref tw])), (tb, .inl (kB, 3000, .inl fb1))]) hP hD [1, 2] [0] rfl rfl (by decide) (by decide) hk1 hFc hP1 hD1
  have hK := hK.app hK1
  generalize H1 = H at hP hS ⊢
  have hP : va_P (dC, dI) vwCl [(x, .inr (12, [.ref h, .ref xg, .ref y, .ref xd, .ref c0, .ref xt, .ref xm, .ref xl, .ref qn, .ref qw, .ref xe, .ref xc, .int xf, .int xp])), (h, .inr (9, [.ref tk, .ref tp, .ref tn, .ref tu, .ref tl, .int (nI ((L + 4) + 4)), .int now, .int ft, .int pl, .int nt, .ref tb, .int tot, .ref ts, .ref tf, .ref tz, .ref tx, .ref th, .ref tw])), (tb, .inl (kB, 3000, .inl fb1))] H := hP
  have hD : va_D A [(x, .inr (12, [.ref h, .ref xg, .ref y, .ref xd, .ref c0, .ref xt, .ref xm, .ref xl, .ref qn, .ref qw, .ref xe, .ref xc, .int xf, .int xp])), (h, .inr (9, [.ref tk, .ref tp, .ref tn, .ref tu, .ref tl, .int (nI ((L + 4) + 4)), .int now, .int ft, .int pl, .int nt, .ref tb, .int tot, .ref ts, .ref tf, .ref tz, .ref tx, .ref th, .ref tw])), (tb, .inl (kB, 3000, .inl fb1))] := hD
  have hK : va_K (dC, dI) vwCl [(kB, .byte), (kB, .byte)] s := hK
  have hK := hK.sub (tys' := [(kB, .byte)]) [0] rfl
  have hP : va_P (dC, dI) vwCl [(x, .inr (12, [.ref h, .ref xg, .ref y, .ref xd, .ref c0, .ref xt, .ref xm, .ref xl, .ref qn, .ref qw, .ref xe, .ref xc, .int xf, .int xp])), (h, .inr (9, [.ref tk, .ref tp, .ref tn, .ref tu, .ref tl, .int (nI ((L + 4) + 4)), .int now, .int ft, .int pl, .int nt, .ref tb, .int tot, .ref ts, .ref tf, .ref tz, .ref tx, .ref th, .ref tw])), (tb, .inl (kB, 3000, .inl fb1))] H := hP
  have hD : va_D A [(x, .inr (12, [.ref h, .ref xg, .ref y, .ref xd, .ref c0, .ref xt, .ref xm, .ref xl, .ref qn, .ref qw, .ref xe, .ref xc, .int xf, .int xp])), (h, .inr (9, [.ref tk, .ref tp, .ref tn, .ref tu, .ref tl, .int (nI ((L + 4) + 4)), .int now, .int ft, .int pl, .int nt, .ref tb, .int tot, .ref ts, .ref tf, .ref tz, .ref tx, .ref th, .ref tw])), (tb, .inl (kB, 3000, .inl fb1))] := hD
  have hP : va_P (dC, dI) vwCl [(x, .inr (12, [.ref h, .ref xg, .ref y, .ref xd, .ref c0, .ref xt, .ref xm, .ref xl, .ref qn, .ref qw, .ref xe, .ref xc, .int xf, .int xp])), (h, .inr (9, [.ref tk, .ref tp, .ref tn, .ref tu, .ref tl, .int (nI (L + 8)), .int now, .int ft, .int pl, .int nt, .ref tb, .int tot, .ref ts, .ref tf, .ref tz, .ref tx, .ref th, .ref tw])), (tb, .inl (kB, 3000, .inl fb1))] H := hP
  have hD : va_D A [(x, .inr (12, [.ref h, .ref xg, .ref y, .ref xd, .ref c0, .ref xt, .ref xm, .ref xl, .ref qn, .ref qw, .ref xe, .ref xc, .int xf, .int xp])), (h, .inr (9, [.ref tk, .ref tp, .ref tn, .ref tu, .ref tl, .int (nI (L + 8)), .int now, .int ft, .int pl, .int nt, .ref tb, .int tot, .ref ts, .ref tf, .ref tz, .ref tx, .ref th, .ref tw])), (tb, .inl (kB, 3000, .inl fb1))] := hD
  refine lv_aload_n hx hb dX12_feed_34 rfl (lv_at hl 0 rfl) ?_
  refine va_get (D := (dC, dI)) (ci := 12) (v := .ref h) (C := RX12) (T := TX12) (N := 14) hx hb hts in_c_feed_X12 hown hK hP 0 rfl rfl 0 (by decide) (hts (.fieldLink RX12 12 "OwnedPlaces" "text" "LOwnedPlaces$Text;") (wm_c_feed 1 rfl)) (fun _ h9 => h9) rfl dX12_feed_35 ?_
  refine lv_iload_n hx hb dX12_feed_38 rfl (lv_at hl 3 rfl) ?_
  have hPc := hP.sub (ws' := [(h, .inr (9, [.ref tk, .ref tp, .ref tn, .ref tu, .ref tl, .int (nI (L + 8)), .int now, .int ft, .int pl, .int nt, .ref tb, .int tot, .ref ts, .ref tf, .ref tz, .ref tx, .ref th, .ref tw])), (tb, .inl (kB, 3000, .inl fb1))]) [1, 2] rfl
  have hDc := hD.sub (ws' := [(h, .inr (9, [.ref tk, .ref tp, .ref tn, .ref tu, .ref tl, .int (nI (L + 8)), .int now, .int ft, .int pl, .int nt, .ref tb, .int tot, .ref ts, .ref tf, .ref tz, .ref tx, .ref th, .ref tw])), (tb, .inl (kB, 3000, .inl fb1))]) [1, 2] (by decide) rfl
  have hKc := hK.sub (tys' := [(kB, .byte)]) [0] rfl
  have hFc := va_free (wc := [(h, .inr (9, [.ref tk, .ref tp, .ref tn, .ref tu, .ref tl, .int (nI (L + 8)), .int now, .int ft, .int pl, .int nt, .ref tb, .int tot, .ref ts, .ref tf, .ref tz, .ref tx, .ref th, .ref tw])), (tb, .inl (kB, 3000, .inl fb1))]) hD hS hA [1, 2] rfl
  refine va_callv (va_runV (As := [.int i2]) (rest := []) ⟨hx, hb, hml, hown, hts⟩ (c_append l dC dI h tk tp tn tu tl tb ts tf tz tx th tw now ft pl nt tot i2 (L + 8) kB fb1 H.size (by omega) hf4_0) (cwV 1 hts g_c_feed_c_append_39 rfl rfl rfl (by decide +kernel) ⟨Nat.le_of_ble_eq_true rfl, Nat.le_of_ble_eq_true rfl⟩) ⟨fun a U g mk q => by obtain ⟨q0, q1, qP, qK, qD⟩ := q; exact ⟨q0, q1, qP, va_K.moved (u := U) (U := U.calling g mk a) (Vm.Alike.refl U.vm) qK, qD⟩, va_recv hKc hPc (ci := 9) (q0 := 0) rfl rfl, fun U hU hW => ⟨rfl, by rw [hU], by rw [hU]; exact hPc, va_K.moved hW.alike hKc, hDc.weaken (fun _ _ _ _ => trivial)⟩⟩ rfl rfl hl.1 rfl (lv_room (Nat.le_of_ble_eq_true rfl)) dX12_feed_39 ⟨(show 0 + 0 ≤ 0 by omega), (show 0 + 0 ≤ 0 by omega)⟩) hS (fun q _ h => hFc q h) hFc (fun u tS H1 locs ht hvm hw hB hz1 hk1 hS => ?_)
  obtain ⟨fb2, hf5_0, hP1, hK1, hD1⟩ := hB
  rw [ht] at hP1
  have hK1 := va_K.moved hvm.symm hK1
  obtain ⟨hP, hD⟩ := va_join (wr := [(x, .inr (12, [.ref h, .ref xg, .ref y, .ref xd, .ref c0, .ref xt, .ref xm, .ref xl, .ref qn, .ref qw, .ref xe, .ref xc, .int xf, .int xp]))]) (w1 := [(h, .inr (9, [.ref tk, .ref tp, .ref tn, .ref tu, .ref tl, .int (nI ((L + 8) + 4)), .int now, .int ft, .int pl, .int nt, .ref tb, .int tot, .ref ts, .ref tf, .ref tz, .ref tx, .ref th, .ref tw])), (tb, .inl (kB, 3000, .inl fb2))]) hP hD [1, 2] [0] rfl rfl (by decide) (by decide) hk1 hFc hP1 hD1
  have hK := hK.app hK1
  generalize H1 = H at hP hS ⊢
  have hP : va_P (dC, dI) vwCl [(x, .inr (12, [.ref h, .ref xg, .ref y, .ref xd, .ref c0, .ref xt, .ref xm, .ref xl, .ref qn, .ref qw, .ref xe, .ref xc, .int xf, .int xp])), (h, .inr (9, [.ref tk, .ref tp, .ref tn, .ref tu, .ref tl, .int (nI ((L + 8) + 4)), .int now, .int ft, .int pl, .int nt, .ref tb, .int tot, .ref ts, .ref tf, .ref tz, .ref tx, .ref th, .ref tw])), (tb, .inl (kB, 3000, .inl fb2))] H := hP
  have hD : va_D A [(x, .inr (12, [.ref h, .ref xg, .ref y, .ref xd, .ref c0, .ref xt, .ref xm, .ref xl, .ref qn, .ref qw, .ref xe, .ref xc, .int xf, .int xp])), (h, .inr (9, [.ref tk, .ref tp, .ref tn, .ref tu, .ref tl, .int (nI ((L + 8) + 4)), .int now, .int ft, .int pl, .int nt, .ref tb, .int tot, .ref ts, .ref tf, .ref tz, .ref tx, .ref th, .ref tw])), (tb, .inl (kB, 3000, .inl fb2))] := hD
  have hK : va_K (dC, dI) vwCl [(kB, .byte), (kB, .byte)] s := hK
  have hK := hK.sub (tys' := [(kB, .byte)]) [0] rfl
  have hP : va_P (dC, dI) vwCl [(x, .inr (12, [.ref h, .ref xg, .ref y, .ref xd, .ref c0, .ref xt, .ref xm, .ref xl, .ref qn, .ref qw, .ref xe, .ref xc, .int xf, .int xp])), (h, .inr (9, [.ref tk, .ref tp, .ref tn, .ref tu, .ref tl, .int (nI ((L + 8) + 4)), .int now, .int ft, .int pl, .int nt, .ref tb, .int tot, .ref ts, .ref tf, .ref tz, .ref tx, .ref th, .ref tw])), (tb, .inl (kB, 3000, .inl fb2))] H := hP
  have hD : va_D A [(x, .inr (12, [.ref h, .ref xg, .ref y, .ref xd, .ref c0, .ref xt, .ref xm, .ref xl, .ref qn, .ref qw, .ref xe, .ref xc, .int xf, .int xp])), (h, .inr (9, [.ref tk, .ref tp, .ref tn, .ref tu, .ref tl, .int (nI ((L + 8) + 4)), .int now, .int ft, .int pl, .int nt, .ref tb, .int tot, .ref ts, .ref tf, .ref tz, .ref tx, .ref th, .ref tw])), (tb, .inl (kB, 3000, .inl fb2))] := hD
  have hP : va_P (dC, dI) vwCl [(x, .inr (12, [.ref h, .ref xg, .ref y, .ref xd, .ref c0, .ref xt, .ref xm, .ref xl, .ref qn, .ref qw, .ref xe, .ref xc, .int xf, .int xp])), (h, .inr (9, [.ref tk, .ref tp, .ref tn, .ref tu, .ref tl, .int (nI (L + 12)), .int now, .int ft, .int pl, .int nt, .ref tb, .int tot, .ref ts, .ref tf, .ref tz, .ref tx, .ref th, .ref tw])), (tb, .inl (kB, 3000, .inl fb2))] H := hP
  have hD : va_D A [(x, .inr (12, [.ref h, .ref xg, .ref y, .ref xd, .ref c0, .ref xt, .ref xm, .ref xl, .ref qn, .ref qw, .ref xe, .ref xc, .int xf, .int xp])), (h, .inr (9, [.ref tk, .ref tp, .ref tn, .ref tu, .ref tl, .int (nI (L + 12)), .int now, .int ft, .int pl, .int nt, .ref tb, .int tot, .ref ts, .ref tf, .ref tz, .ref tx, .ref th, .ref tw])), (tb, .inl (kB, 3000, .inl fb2))] := hD
  refine lv_aload_n hx hb dX12_feed_42 rfl (lv_at hl 0 rfl) ?_
  refine va_get (D := (dC, dI)) (ci := 12) (v := .ref h) (C := RX12) (T := TX12) (N := 14) hx hb hts in_c_feed_X12 hown hK hP 0 rfl rfl 0 (by decide) (hts (.fieldLink RX12 12 "OwnedPlaces" "text" "LOwnedPlaces$Text;") (wm_c_feed 1 rfl)) (fun _ h9 => h9) rfl dX12_feed_43 ?_
  refine lv_iload hx hb dX12_feed_46 (lv_at hl 4 rfl) ?_
  have hPc := hP.sub (ws' := [(h, .inr (9, [.ref tk, .ref tp, .ref tn, .ref tu, .ref tl, .int (nI (L + 12)), .int now, .int ft, .int pl, .int nt, .ref tb, .int tot, .ref ts, .ref tf, .ref tz, .ref tx, .ref th, .ref tw])), (tb, .inl (kB, 3000, .inl fb2))]) [1, 2] rfl
  have hDc := hD.sub (ws' := [(h, .inr (9, [.ref tk, .ref tp, .ref tn, .ref tu, .ref tl, .int (nI (L + 12)), .int now, .int ft, .int pl, .int nt, .ref tb, .int tot, .ref ts, .ref tf, .ref tz, .ref tx, .ref th, .ref tw])), (tb, .inl (kB, 3000, .inl fb2))]) [1, 2] (by decide) rfl
  have hKc := hK.sub (tys' := [(kB, .byte)]) [0] rfl
  have hFc := va_free (wc := [(h, .inr (9, [.ref tk, .ref tp, .ref tn, .ref tu, .ref tl, .int (nI (L + 12)), .int now, .int ft, .int pl, .int nt, .ref tb, .int tot, .ref ts, .ref tf, .ref tz, .ref tx, .ref th, .ref tw])), (tb, .inl (kB, 3000, .inl fb2))]) hD hS hA [1, 2] rfl
  refine va_callv (va_runV (As := [.int i3]) (rest := []) ⟨hx, hb, hml, hown, hts⟩ (c_append l dC dI h tk tp tn tu tl tb ts tf tz tx th tw now ft pl nt tot i3 (L + 12) kB fb2 H.size (by omega) hf5_0) (cwV 1 hts g_c_feed_c_append_48 rfl rfl rfl (by decide +kernel) ⟨Nat.le_of_ble_eq_true rfl, Nat.le_of_ble_eq_true rfl⟩) ⟨fun a U g mk q => by obtain ⟨q0, q1, qP, qK, qD⟩ := q; exact ⟨q0, q1, qP, va_K.moved (u := U) (U := U.calling g mk a) (Vm.Alike.refl U.vm) qK, qD⟩, va_recv hKc hPc (ci := 9) (q0 := 0) rfl rfl, fun U hU hW => ⟨rfl, by rw [hU], by rw [hU]; exact hPc, va_K.moved hW.alike hKc, hDc.weaken (fun _ _ _ _ => trivial)⟩⟩ rfl rfl hl.1 rfl (lv_room (Nat.le_of_ble_eq_true rfl)) dX12_feed_48 ⟨(show 0 + 0 ≤ 0 by omega), (show 0 + 0 ≤ 0 by omega)⟩) hS (fun q _ h => hFc q h) hFc (fun u tS H1 locs ht hvm hw hB hz1 hk1 hS => ?_)
  obtain ⟨fb3, hf6_0, hP1, hK1, hD1⟩ := hB
  rw [ht] at hP1
  have hK1 := va_K.moved hvm.symm hK1
  obtain ⟨hP, hD⟩ := va_join (wr := [(x, .inr (12, [.ref h, .ref xg, .ref y, .ref xd, .ref c0, .ref xt, .ref xm, .ref xl, .ref qn, .ref qw, .ref xe, .ref xc, .int xf, .int xp]))]) (w1 := [(h, .inr (9, [.ref tk, .ref tp, .ref tn, .ref tu, .ref tl, .int (nI ((L + 12) + 4)), .int now, .int ft, .int pl, .int nt, .ref tb, .int tot, .ref ts, .ref tf, .ref tz, .ref tx, .ref th, .ref tw])), (tb, .inl (kB, 3000, .inl fb3))]) hP hD [1, 2] [0] rfl rfl (by decide) (by decide) hk1 hFc hP1 hD1
  have hK := hK.app hK1
  generalize H1 = H at hP hS ⊢
  have hP : va_P (dC, dI) vwCl [(x, .inr (12, [.ref h, .ref xg, .ref y, .ref xd, .ref c0, .ref xt, .ref xm, .ref xl, .ref qn, .ref qw, .ref xe, .ref xc, .int xf, .int xp])), (h, .inr (9, [.ref tk, .ref tp, .ref tn, .ref tu, .ref tl, .int (nI ((L + 12) + 4)), .int now, .int ft, .int pl, .int nt, .ref tb, .int tot, .ref ts, .ref tf, .ref tz, .ref tx, .ref th, .ref tw])), (tb, .inl (kB, 3000, .inl fb3))] H := hP
  have hD : va_D A [(x, .inr (12, [.ref h, .ref xg, .ref y, .ref xd, .ref c0, .ref xt, .ref xm, .ref xl, .ref qn, .ref qw, .ref xe, .ref xc, .int xf, .int xp])), (h, .inr (9, [.ref tk, .ref tp, .ref tn, .ref tu, .ref tl, .int (nI ((L + 12) + 4)), .int now, .int ft, .int pl, .int nt, .ref tb, .int tot, .ref ts, .ref tf, .ref tz, .ref tx, .ref th, .ref tw])), (tb, .inl (kB, 3000, .inl fb3))] := hD
  have hK : va_K (dC, dI) vwCl [(kB, .byte), (kB, .byte)] s := hK
  have hK := hK.sub (tys' := [(kB, .byte)]) [0] rfl
  have hP : va_P (dC, dI) vwCl [(x, .inr (12, [.ref h, .ref xg, .ref y, .ref xd, .ref c0, .ref xt, .ref xm, .ref xl, .ref qn, .ref qw, .ref xe, .ref xc, .int xf, .int xp])), (h, .inr (9, [.ref tk, .ref tp, .ref tn, .ref tu, .ref tl, .int (nI ((L + 12) + 4)), .int now, .int ft, .int pl, .int nt, .ref tb, .int tot, .ref ts, .ref tf, .ref tz, .ref tx, .ref th, .ref tw])), (tb, .inl (kB, 3000, .inl fb3))] H := hP
  have hD : va_D A [(x, .inr (12, [.ref h, .ref xg, .ref y, .ref xd, .ref c0, .ref xt, .ref xm, .ref xl, .ref qn, .ref qw, .ref xe, .ref xc, .int xf, .int xp])), (h, .inr (9, [.ref tk, .ref tp, .ref tn, .ref tu, .ref tl, .int (nI ((L + 12) + 4)), .int now, .int ft, .int pl, .int nt, .ref tb, .int tot, .ref ts, .ref tf, .ref tz, .ref tx, .ref th, .ref tw])), (tb, .inl (kB, 3000, .inl fb3))] := hD
  have hP : va_P (dC, dI) vwCl [(x, .inr (12, [.ref h, .ref xg, .ref y, .ref xd, .ref c0, .ref xt, .ref xm, .ref xl, .ref qn, .ref qw, .ref xe, .ref xc, .int xf, .int xp])), (h, .inr (9, [.ref tk, .ref tp, .ref tn, .ref tu, .ref tl, .int (nI (L + 16)), .int now, .int ft, .int pl, .int nt, .ref tb, .int tot, .ref ts, .ref tf, .ref tz, .ref tx, .ref th, .ref tw])), (tb, .inl (kB, 3000, .inl fb3))] H := hP
  have hD : va_D A [(x, .inr (12, [.ref h, .ref xg, .ref y, .ref xd, .ref c0, .ref xt, .ref xm, .ref xl, .ref qn, .ref qw, .ref xe, .ref xc, .int xf, .int xp])), (h, .inr (9, [.ref tk, .ref tp, .ref tn, .ref tu, .ref tl, .int (nI (L + 16)), .int now, .int ft, .int pl, .int nt, .ref tb, .int tot, .ref ts, .ref tf, .ref tz, .ref tx, .ref th, .ref tw])), (tb, .inl (kB, 3000, .inl fb3))] := hD
  refine lv_aload_n hx hb dX12_feed_51 rfl (lv_at hl 0 rfl) ?_
  refine va_get (D := (dC, dI)) (ci := 12) (v := .ref h) (C := RX12) (T := TX12) (N := 14) hx hb hts in_c_feed_X12 hown hK hP 0 rfl rfl 0 (by decide) (hts (.fieldLink RX12 12 "OwnedPlaces" "text" "LOwnedPlaces$Text;") (wm_c_feed 1 rfl)) (fun _ h9 => h9) rfl dX12_feed_52 ?_
  refine lv_iload hx hb dX12_feed_55 (lv_at hl 5 rfl) ?_
  have hPc := hP.sub (ws' := [(h, .inr (9, [.ref tk, .ref tp, .ref tn, .ref tu, .ref tl, .int (nI (L + 16)), .int now, .int ft, .int pl, .int nt, .ref tb, .int tot, .ref ts, .ref tf, .ref tz, .ref tx, .ref th, .ref tw])), (tb, .inl (kB, 3000, .inl fb3))]) [1, 2] rfl
  have hDc := hD.sub (ws' := [(h, .inr (9, [.ref tk, .ref tp, .ref tn, .ref tu, .ref tl, .int (nI (L + 16)), .int now, .int ft, .int pl, .int nt, .ref tb, .int tot, .ref ts, .ref tf, .ref tz, .ref tx, .ref th, .ref tw])), (tb, .inl (kB, 3000, .inl fb3))]) [1, 2] (by decide) rfl
  have hKc := hK.sub (tys' := [(kB, .byte)]) [0] rfl
  have hFc := va_free (wc := [(h, .inr (9, [.ref tk, .ref tp, .ref tn, .ref tu, .ref tl, .int (nI (L + 16)), .int now, .int ft, .int pl, .int nt, .ref tb, .int tot, .ref ts, .ref tf, .ref tz, .ref tx, .ref th, .ref tw])), (tb, .inl (kB, 3000, .inl fb3))]) hD hS hA [1, 2] rfl
  refine va_callv (va_runV (As := [.int i4]) (rest := []) ⟨hx, hb, hml, hown, hts⟩ (c_append l dC dI h tk tp tn tu tl tb ts tf tz tx th tw now ft pl nt tot i4 (L + 16) kB fb3 H.size (by omega) hf6_0) (cwV 1 hts g_c_feed_c_append_57 rfl rfl rfl (by decide +kernel) ⟨Nat.le_of_ble_eq_true rfl, Nat.le_of_ble_eq_true rfl⟩) ⟨fun a U g mk q => by obtain ⟨q0, q1, qP, qK, qD⟩ := q; exact ⟨q0, q1, qP, va_K.moved (u := U) (U := U.calling g mk a) (Vm.Alike.refl U.vm) qK, qD⟩, va_recv hKc hPc (ci := 9) (q0 := 0) rfl rfl, fun U hU hW => ⟨rfl, by rw [hU], by rw [hU]; exact hPc, va_K.moved hW.alike hKc, hDc.weaken (fun _ _ _ _ => trivial)⟩⟩ rfl rfl hl.1 rfl (lv_room (Nat.le_of_ble_eq_true rfl)) dX12_feed_57 ⟨(show 0 + 0 ≤ 0 by omega), (show 0 + 0 ≤ 0 by omega)⟩) hS (fun q _ h => hFc q h) hFc (fun u tS H1 locs ht hvm hw hB hz1 hk1 hS => ?_)
  obtain ⟨fb4, hf7_0, hP1, hK1, hD1⟩ := hB
  rw [ht] at hP1
  have hK1 := va_K.moved hvm.symm hK1
  obtain ⟨hP, hD⟩ := va_join (wr := [(x, .inr (12, [.ref h, .ref xg, .ref y, .ref xd, .ref c0, .ref xt, .ref xm, .ref xl, .ref qn, .ref qw, .ref xe, .ref xc, .int xf, .int xp]))]) (w1 := [(h, .inr (9, [.ref tk, .ref tp, .ref tn, .ref tu, .ref tl, .int (nI ((L + 16) + 4)), .int now, .int ft, .int pl, .int nt, .ref tb, .int tot, .ref ts, .ref tf, .ref tz, .ref tx, .ref th, .ref tw])), (tb, .inl (kB, 3000, .inl fb4))]) hP hD [1, 2] [0] rfl rfl (by decide) (by decide) hk1 hFc hP1 hD1
  have hK := hK.app hK1
  generalize H1 = H at hP hS ⊢
  have hP : va_P (dC, dI) vwCl [(x, .inr (12, [.ref h, .ref xg, .ref y, .ref xd, .ref c0, .ref xt, .ref xm, .ref xl, .ref qn, .ref qw, .ref xe, .ref xc, .int xf, .int xp])), (h, .inr (9, [.ref tk, .ref tp, .ref tn, .ref tu, .ref tl, .int (nI ((L + 16) + 4)), .int now, .int ft, .int pl, .int nt, .ref tb, .int tot, .ref ts, .ref tf, .ref tz, .ref tx, .ref th, .ref tw])), (tb, .inl (kB, 3000, .inl fb4))] H := hP
  have hD : va_D A [(x, .inr (12, [.ref h, .ref xg, .ref y, .ref xd, .ref c0, .ref xt, .ref xm, .ref xl, .ref qn, .ref qw, .ref xe, .ref xc, .int xf, .int xp])), (h, .inr (9, [.ref tk, .ref tp, .ref tn, .ref tu, .ref tl, .int (nI ((L + 16) + 4)), .int now, .int ft, .int pl, .int nt, .ref tb, .int tot, .ref ts, .ref tf, .ref tz, .ref tx, .ref th, .ref tw])), (tb, .inl (kB, 3000, .inl fb4))] := hD
  have hK : va_K (dC, dI) vwCl [(kB, .byte), (kB, .byte)] s := hK
  have hK := hK.sub (tys' := [(kB, .byte)]) [0] rfl
  have hP : va_P (dC, dI) vwCl [(x, .inr (12, [.ref h, .ref xg, .ref y, .ref xd, .ref c0, .ref xt, .ref xm, .ref xl, .ref qn, .ref qw, .ref xe, .ref xc, .int xf, .int xp])), (h, .inr (9, [.ref tk, .ref tp, .ref tn, .ref tu, .ref tl, .int (nI ((L + 16) + 4)), .int now, .int ft, .int pl, .int nt, .ref tb, .int tot, .ref ts, .ref tf, .ref tz, .ref tx, .ref th, .ref tw])), (tb, .inl (kB, 3000, .inl fb4))] H := hP
  have hD : va_D A [(x, .inr (12, [.ref h, .ref xg, .ref y, .ref xd, .ref c0, .ref xt, .ref xm, .ref xl, .ref qn, .ref qw, .ref xe, .ref xc, .int xf, .int xp])), (h, .inr (9, [.ref tk, .ref tp, .ref tn, .ref tu, .ref tl, .int (nI ((L + 16) + 4)), .int now, .int ft, .int pl, .int nt, .ref tb, .int tot, .ref ts, .ref tf, .ref tz, .ref tx, .ref th, .ref tw])), (tb, .inl (kB, 3000, .inl fb4))] := hD
  have hP : va_P (dC, dI) vwCl [(x, .inr (12, [.ref h, .ref xg, .ref y, .ref xd, .ref c0, .ref xt, .ref xm, .ref xl, .ref qn, .ref qw, .ref xe, .ref xc, .int xf, .int xp])), (h, .inr (9, [.ref tk, .ref tp, .ref tn, .ref tu, .ref tl, .int (nI (L + 20)), .int now, .int ft, .int pl, .int nt, .ref tb, .int tot, .ref ts, .ref tf, .ref tz, .ref tx, .ref th, .ref tw])), (tb, .inl (kB, 3000, .inl fb4))] H := hP
  have hD : va_D A [(x, .inr (12, [.ref h, .ref xg, .ref y, .ref xd, .ref c0, .ref xt, .ref xm, .ref xl, .ref qn, .ref qw, .ref xe, .ref xc, .int xf, .int xp])), (h, .inr (9, [.ref tk, .ref tp, .ref tn, .ref tu, .ref tl, .int (nI (L + 20)), .int now, .int ft, .int pl, .int nt, .ref tb, .int tot, .ref ts, .ref tf, .ref tz, .ref tx, .ref th, .ref tw])), (tb, .inl (kB, 3000, .inl fb4))] := hD
  refine lv_iconst (v := 1) hx hb dX12_feed_60 (by decide) ?_
  have hP9 := hP.sub (ws' := [(x, .inr (12, [.ref h, .ref xg, .ref y, .ref xd, .ref c0, .ref xt, .ref xm, .ref xl, .ref qn, .ref qw, .ref xe, .ref xc, .int xf, .int xp])), (h, .inr (9, [.ref tk, .ref tp, .ref tn, .ref tu, .ref tl, .int (nI (L + 20)), .int now, .int ft, .int pl, .int nt, .ref tb, .int tot, .ref ts, .ref tf, .ref tz, .ref tx, .ref th, .ref tw])), (tb, .inl (kB, 3000, .inl fb4))]) [0, 1, 2] rfl
  have hD9 := hD.sub (ws' := [(x, .inr (12, [.ref h, .ref xg, .ref y, .ref xd, .ref c0, .ref xt, .ref xm, .ref xl, .ref qn, .ref qw, .ref xe, .ref xc, .int xf, .int xp])), (h, .inr (9, [.ref tk, .ref tp, .ref tn, .ref tu, .ref tl, .int (nI (L + 20)), .int now, .int ft, .int pl, .int nt, .ref tb, .int tot, .ref ts, .ref tf, .ref tz, .ref tx, .ref th, .ref tw])), (tb, .inl (kB, 3000, .inl fb4))]) [0, 1, 2] (by decide) rfl
  have hK9 := hK.sub (tys' := [(kB, .byte)]) [0] rfl
  exact W.zret (v := 1) hx hb hr (by decide) (fun tS ht hW => ⟨⟨1, (), rfl, rfl, fb4, hf7_0, by rw [ht]; exact hP9, va_K.moved hW.alike hK9, hD9⟩, hS.F ht⟩) hS.2.2 dX12_feed_61
def wf_c_input : List Cond := [.code yX12_input cX12_input 3 (some .boolean), .fieldLink RX12 80 "OwnedPlaces" "numbers" "LOwnedPlaces$Queue;", .code yX8_put cX8_put 3 (some .boolean), .fieldLink RX8 17 "OwnedPlaces$Queue" "size" "I", .fieldLink RX8 13 "OwnedPlaces$Queue" "row" "[J", .fieldLink RX8 21 "OwnedPlaces$Queue" "first" "I", .methodLink RX12 115 yX8_put, .instanceMethod yX8_put, .selects RX8 yX8_put yX8_put, .initialized RX8]
def wp_c_input : List Cond := wf_c_input ++ (wsX120 ++ (wsX80 ++ []))
theorem in_c_input_X12 : ∀ w ∈ wsX120, w ∈ wp_c_input := fun w h => List.mem_append_right _ (List.mem_append_left _ h)
theorem in_c_input_X8 : ∀ w ∈ wsX80, w ∈ wp_c_input := fun w h => List.mem_append_right _ (List.mem_append_right _ (List.mem_append_left _ h))
theorem wg_c_input : wf_c_input.all goodWord = true := by decide +kernel
theorem wm_c_input (k : Nat) {w : Cond} (h : wp_c_input[k]? = some w) : w ∈ wp_c_input := List.mem_of_getElem? h
set_option maxRecDepth 20000 in
theorem g_c_input_c_put_5 : GoodIn wp_c_input (wsV RX12 115 RX8 yX8_put wp_c_put) := goodIn_app (goodIn_f [.methodLink RX12 115 yX8_put, .instanceMethod yX8_put, .selects RX8 yX8_put yX8_put, .initialized RX8] [6, 7, 8, 9] rfl (by decide +kernel)) (goodIn_app (goodIn_f (wf_c_put) [2, 3, 4, 5] rfl wg_c_put) (goodIn_app (goodIn_sub in_c_input_X8 gd_X8) (goodIn_n)))
set_option maxHeartbeats 4000000 in
set_option maxRecDepth 100000 in
theorem c_input (l : Launch) (dC : Nat → ClassId) (dI : Nat → Nat → Nat) (x xg y xd c0 xt xm xl qn qw xe xc : Nat) (xf xp : Int32) (h : Nat) (qr qd fi qz : Nat) (kL : ClassId) (fr : Nat → Int64) (v : Int64) (sz : Nat) (hfi : fi < 60) (hqz : qz ≤ 60) : Met l yX12_input wp_c_input ({ frames := 1, cells := 0, slots := 0, locals := 22 }) (va_Pc [.ref x, .long v] (fun U => U.heap.size = sz ∧ va_P (dC, dI) vwCl [(x, .inr (12, [.ref h, .ref xg, .ref y, .ref xd, .ref c0, .ref xt, .ref xm, .ref xl, .ref qn, .ref qw, .ref xe, .ref xc, .int xf, .int xp])), (qn, .inr (8, [.ref qr, .ref qd, .int (nI fi), .int (nI qz)])), (qr, .inl (kL, 60, .inr (.inl fr)))] U.heap ∧ va_K (dC, dI) vwCl [(kL, .long)] U ∧ va_D (fun _ => True) [(x, .inr (12, [.ref h, .ref xg, .ref y, .ref xd, .ref c0, .ref xt, .ref xm, .ref xl, .ref qn, .ref qw, .ref xe, .ref xc, .int xf, .int xp])), (qn, .inr (8, [.ref qr, .ref qd, .int (nI fi), .int (nI qz)])), (qr, .inl (kL, 60, .inr (.inl fr)))])) (va_Qi (fun (r : Int32) (_ : Unit) => r = 0 ∨ r = 1) (fun (_ : Unit) (tS : State) => ∃ (qz2 : Nat) (gr : Nat → Int64), (qz2 ≤ 60) ∧ va_P (dC, dI) vwCl [(x, .inr (12, [.ref h, .ref xg, .ref y, .ref xd, .ref c0, .ref xt, .ref xm, .ref xl, .ref qn, .ref qw, .ref xe, .ref xc, .int xf, .int xp])), (qn, .inr (8, [.ref qr, .ref qd, .int (nI fi), .int (nI qz2)])), (qr, .inl (kL, 60, .inr (.inl gr)))] tS.heap ∧ va_K (dC, dI) vwCl [(kL, .long)] tS ∧ va_D (va_A [(x, .inr (12, [.ref h, .ref xg, .ref y, .ref xd, .ref c0, .ref xt, .ref xm, .ref xl, .ref qn, .ref qw, .ref xe, .ref xc, .int xf, .int xp])), (qn, .inr (8, [.ref qr, .ref qd, .int (nI fi), .int (nI qz)])), (qr, .inl (kL, 60, .inr (.inl fr)))] sz) [(x, .inr (12, [.ref h, .ref xg, .ref y, .ref xd, .ref c0, .ref xt, .ref xm, .ref xl, .ref qn, .ref qw, .ref xe, .ref xc, .int xf, .int xp])), (qn, .inr (8, [.ref qr, .ref qd, .int (nI fi), .int (nI qz2)])), (qr, .inl (kL, 60, .inr (.inl gr)))]) (va_A [(x, .inr (12, [.ref h, .ref xg, .ref y, .ref xd, .ref c0, .ref xt, .ref xm, .ref xl, .ref qn, .ref qw, .ref xe, .ref xc, .int xf, .int xp])), (qn, .inr (8, [.ref qr, .ref qd, .int (nI fi), .int (nI qz)])), (qr, .inl (kL, 60, .inr (.inl fr)))] sz)) 0 0 (va_A [(x, .inr (12, [.ref h, .ref xg, .ref y, .ref xd, .ref c0, .ref xt, .ref xm, .ref xl, .ref qn, .ref qw, .ref xe, .ref xc, .int xf, .int xp])), (qn, .inr (8, [.ref qr, .ref qd, .int (nI fi), .int (nI qz)])), (qr, .inl (kL, 60, .inr (.inl fr)))] sz) := by
  refine Met.ofW (cc := cX12_input) (maxL := 3) (ret := (some .boolean)) (by decide) rfl ?_
  intro p e s m args below meth c s₁ B hml hv
  obtain ⟨rfl, hsz, hP, hK, hD0⟩ := hv
  have hx := B.exec
  have hb := B.bytes
  have hr := B.returns
  have hts := atoms_spec (ws := wp_c_input) B.pre
  have hown : s.vm.findClass RX12 = some m.cls := findClass_of_methodNamed B.named
  have hlocks := B.notSynchronized
  subst hsz
  have hD := hD0.self (sz := s.heap.size)
  generalize hAe : va_A [(x, .inr (12, [.ref h, .ref xg, .ref y, .ref xd, .ref c0, .ref xt, .ref xm, .ref xl, .ref qn, .ref qw, .ref xe, .ref xc, .int xf, .int xp])), (qn, .inr (8, [.ref qr, .ref qd, .int (nI fi), .int (nI qz)])), (qr, .inl (kL, 60, .inr (.inl fr)))] s.heap.size = A at hD ⊢
  have hA : ∀ q : Nat, s.heap.size ≤ q → A q := fun q h => by rw [← hAe]; exact Or.inr h
  have hS : va_S A s.heap s.heap [] := va_S.rf
  have hP : va_P (dC, dI) vwCl [(x, .inr (12, [.ref h, .ref xg, .ref y, .ref xd, .ref c0, .ref xt, .ref xm, .ref xl, .ref qn, .ref qw, .ref xe, .ref xc, .int xf, .int xp])), (qn, .inr (8, [.ref qr, .ref qd, .int (nI fi), .int (nI qz)])), (qr, .inl (kL, 60, .inr (.inl fr)))] s.heap := hP
  have hl := lv_entry ([.ref x, .long v]) (n := 3) (Nat.le_of_ble_eq_true rfl)
  rw [lg_entry_eq]
  generalize (lg_sl ([.ref x, .long v]) ++ List.replicate (3 - (lg_sl ([.ref x, .long v])).length) Slot.unset).toArray = ls at hl ⊢
  have hl : lv_has ls 3 [(0, .ref x), (1, .long v)] := hl
  refine lv_aload_n hx hb dX12_input_0 rfl (lv_at hl 0 rfl) ?_
  refine va_get (D := (dC, dI)) (ci := 12) (v := .ref qn) (C := RX12) (T := TX12) (N := 14) hx hb hts in_c_input_X12 hown hK hP 0 rfl rfl 8 (by decide) (hts (.fieldLink RX12 80 "OwnedPlaces" "numbers" "LOwnedPlaces$Queue;") (wm_c_input 1 rfl)) (fun _ h9 => h9) rfl dX12_input_1 ?_
  refine lv_lload_n hx hb dX12_input_4 rfl (lv_at hl 1 rfl) ?_
  have hPc := hP.sub (ws' := [(qn, .inr (8, [.ref qr, .ref qd, .int (nI fi), .int (nI qz)])), (qr, .inl (kL, 60, .inr (.inl fr)))]) [1, 2] rfl
  have hDc := hD.sub (ws' := [(qn, .inr (8, [.ref qr, .ref qd, .int (nI fi), .int (nI qz)])), (qr, .inl (kL, 60, .inr (.inl fr)))]) [1, 2] (by decide) rfl
  have hKc := hK.sub (tys' := [(kL, .long)]) [0] rfl
  have hFc := va_free (wc := [(qn, .inr (8, [.ref qr, .ref qd, .int (nI fi), .int (nI qz)])), (qr, .inl (kL, 60, .inr (.inl fr)))]) hD hS hA [1, 2] rfl
  refine va_calli (va_runV (As := [.long v]) (rest := []) ⟨hx, hb, hml, hown, hts⟩ (c_put l dC dI qn qr qd 60 fi qz kL fr v s.heap.size (by decide) (by decide) hfi hqz) (cwV 1 hts g_c_input_c_put_5 rfl rfl rfl (by decide +kernel) ⟨Nat.le_of_ble_eq_true rfl, Nat.le_of_ble_eq_true rfl⟩) ⟨fun a U g mk q => by obtain ⟨q0, q1, qP, qK, qD⟩ := q; exact ⟨q0, q1, qP, va_K.moved (u := U) (U := U.calling g mk a) (Vm.Alike.refl U.vm) qK, qD⟩, va_recv hKc hPc (ci := 8) (q0 := 0) rfl rfl, fun U hU hW => ⟨rfl, by rw [hU], by rw [hU]; exact hPc, va_K.moved hW.alike hKc, hDc.weaken (fun _ _ _ _ => trivial)⟩⟩ rfl rfl hl.1 rfl (lv_room (Nat.le_of_ble_eq_true rfl)) dX12_input_5 ⟨(show 0 + 0 ≤ 0 by omega), (show 0 + 0 ≤ 0 by omega)⟩) hS (fun q _ h => hFc q h) hFc (fun r_1 u tS H1 locs ht hvm hw hB hz1 hk1 hS => ?_)
  obtain ⟨qz9, gr9, hf1_0, hP1, hK1, hD1⟩ := hB
  rw [ht] at hP1
  have hK1 := va_K.moved hvm.symm hK1
  obtain ⟨hP, hD⟩ := va_join (wr := [(x, .inr (12, [.ref h, .ref xg, .ref y, .ref xd, .ref c0, .ref xt, .ref xm, .ref xl, .ref qn, .ref qw, .ref xe, .ref xc, .int xf, .int xp]))]) (w1 := [(qn, .inr (8, [.ref qr, .ref qd, .int (nI fi), .int (nI qz9)])), (qr, .inl (kL, 60, .inr (.inl gr9)))]) hP hD [1, 2] [0] rfl rfl (by decide) (by decide) hk1 hFc hP1 hD1
  have hK := hK.app hK1
  generalize H1 = H at hP hS ⊢
  have hP : va_P (dC, dI) vwCl [(x, .inr (12, [.ref h, .ref xg, .ref y, .ref xd, .ref c0, .ref xt, .ref xm, .ref xl, .ref qn, .ref qw, .ref xe, .ref xc, .int xf, .int xp])), (qn, .inr (8, [.ref qr, .ref qd, .int (nI fi), .int (nI qz9)])), (qr, .inl (kL, 60, .inr (.inl gr9)))] H := hP
  have hD : va_D A [(x, .inr (12, [.ref h, .ref xg, .ref y, .ref xd, .ref c0, .ref xt, .ref xm, .ref xl, .ref qn, .ref qw, .ref xe, .ref xc, .int xf, .int xp])), (qn, .inr (8, [.ref qr, .ref qd, .int (nI fi), .int (nI qz9)])), (qr, .inl (kL, 60, .inr (.inl gr9)))] := hD
  have hK : va_K (dC, dI) vwCl [(kL, .long), (kL, .long)] s := hK
  have hK := hK.sub (tys' := [(kL, .long)]) [0] rfl
  have hP : va_P (dC, dI) vwCl [(x, .inr (12, [.ref h, .ref xg, .ref y, .ref xd, .ref c0, .ref xt, .ref xm, .ref xl, .ref qn, .ref qw, .ref xe, .ref xc, .int xf, .int xp])), (qn, .inr (8, [.ref qr, .ref qd, .int (nI fi), .int (nI qz9)])), (qr, .inl (kL, 60, .inr (.inl gr9)))] H := hP
  have hD : va_D A [(x, .inr (12, [.ref h, .ref xg, .ref y, .ref xd, .ref c0, .ref xt, .ref xm, .ref xl, .ref qn, .ref qw, .ref xe, .ref xc, .int xf, .int xp])), (qn, .inr (8, [.ref qr, .ref qd, .int (nI fi), .int (nI qz9)])), (qr, .inl (kL, 60, .inr (.inl gr9)))] := hD
  rcases hw with hw | hw
  · obtain rfl : r_1 = 0 := hw
    have hP9 := hP.sub (ws' := [(x, .inr (12, [.ref h, .ref xg, .ref y, .ref xd, .ref c0, .ref xt, .ref xm, .ref xl, .ref qn, .ref qw, .ref xe, .ref xc, .int xf, .int xp])), (qn, .inr (8, [.ref qr, .ref qd, .int (nI fi), .int (nI qz9)])), (qr, .inl (kL, 60, .inr (.inl gr9)))]) [0, 1, 2] rfl
    have hD9 := hD.sub (ws' := [(x, .inr (12, [.ref h, .ref xg, .ref y, .ref xd, .ref c0, .ref xt, .ref xm, .ref xl, .ref qn, .ref qw, .ref xe, .ref xc, .int xf, .int xp])), (qn, .inr (8, [.ref qr, .ref qd, .int (nI fi), .int (nI qz9)])), (qr, .inl (kL, 60, .inr (.inl gr9)))]) [0, 1, 2] (by decide) rfl
    have hK9 := hK.sub (tys' := [(kL, .long)]) [0] rfl
    exact W.zret (v := 0) hx hb hr (by decide) (fun tS ht hW => ⟨⟨0, (), rfl, (Or.inl rfl), qz9, gr9, hf1_0, by rw [ht]; exact hP9, va_K.moved hW.alike hK9, hD9⟩, hS.F ht⟩) hS.2.2 dX12_input_8
  · obtain rfl : r_1 = 1 := hw
    have hP9 := hP.sub (ws' := [(x, .inr (12, [.ref h, .ref xg, .ref y, .ref xd, .ref c0, .ref xt, .ref xm, .ref xl, .ref qn, .ref qw, .ref xe, .ref xc, .int xf, .int xp])), (qn, .inr (8, [.ref qr, .ref qd, .int (nI fi), .int (nI qz9)])), (qr, .inl (kL, 60, .inr (.inl gr9)))]) [0, 1, 2] rfl
    have hD9 := hD.sub (ws' := [(x, .inr (12, [.ref h, .ref xg, .ref y, .ref xd, .ref c0, .ref xt, .ref xm, .ref xl, .ref qn, .ref qw, .ref xe, .ref xc, .int xf, .int xp])), (qn, .inr (8, [.ref qr, .ref qd, .int (nI fi), .int (nI qz9)])), (qr, .inl (kL, 60, .inr (.inl gr9)))]) [0, 1, 2] (by decide) rfl
    have hK9 := hK.sub (tys' := [(kL, .long)]) [0] rfl
    exact W.zret (v := 1) hx hb hr (by decide) (fun tS ht hW => ⟨⟨1, (), rfl, (Or.inr rfl), qz9, gr9, hf1_0, by rw [ht]; exact hP9, va_K.moved hW.alike hK9, hD9⟩, hS.F ht⟩) hS.2.2 dX12_input_8
def wf_c_place : List Cond := [.code yX12_place cX12_place 1 (some .int), .fieldLink RX12 87 "OwnedPlaces" "lastPlace" "I"]
def wp_c_place : List Cond := wf_c_place ++ (wsX120 ++ [])
theorem in_c_place_X12 : ∀ w ∈ wsX120, w ∈ wp_c_place := fun w h => List.mem_append_right _ (List.mem_append_left _ h)
theorem wg_c_place : wf_c_place.all goodWord = true := by decide +kernel
theorem wm_c_place (k : Nat) {w : Cond} (h : wp_c_place[k]? = some w) : w ∈ wp_c_place := List.mem_of_getElem? h
set_option maxHeartbeats 4000000 in
set_option maxRecDepth 100000 in
theorem c_place (l : Launch) (dC : Nat → ClassId) (dI : Nat → Nat → Nat) (x xg y xd c0 xt xm xl qn qw xe xc : Nat) (xf xp : Int32) (h : Nat) (sz : Nat) : Met l yX12_place wp_c_place ({ frames := 0, cells := 0, slots := 0, locals := 0 }) (va_Pc [.ref x] (fun U => U.heap.size = sz ∧ va_P (dC, dI) vwCl [(x, .inr (12, [.ref h, .ref xg, .ref y, .ref xd, .ref c0, .ref xt, .ref xm, .ref xl, .ref qn, .ref qw, .ref xe, .ref xc, .int xf, .int xp]))] U.heap ∧ va_K (dC, dI) vwCl [] U ∧ va_D (fun _ => True) [(x, .inr (12, [.ref h, .ref xg, .ref y, .ref xd, .ref c0, .ref xt, .ref xm, .ref xl, .ref qn, .ref qw, .ref xe, .ref xc, .int xf, .int xp]))])) (va_Qi (fun (_ : Int32) (_ : Unit) => True) (fun (_ : Unit) (tS : State) => va_P (dC, dI) vwCl [(x, .inr (12, [.ref h, .ref xg, .ref y, .ref xd, .ref c0, .ref xt, .ref xm, .ref xl, .ref qn, .ref qw, .ref xe, .ref xc, .int xf, .int xp]))] tS.heap ∧ va_K (dC, dI) vwCl [] tS ∧ va_D (va_A [(x, .inr (12, [.ref h, .ref xg, .ref y, .ref xd, .ref c0, .ref xt, .ref xm, .ref xl, .ref qn, .ref qw, .ref xe, .ref xc, .int xf, .int xp]))] sz) [(x, .inr (12, [.ref h, .ref xg, .ref y, .ref xd, .ref c0, .ref xt, .ref xm, .ref xl, .ref qn, .ref qw, .ref xe, .ref xc, .int xf, .int xp]))]) (va_A [(x, .inr (12, [.ref h, .ref xg, .ref y, .ref xd, .ref c0, .ref xt, .ref xm, .ref xl, .ref qn, .ref qw, .ref xe, .ref xc, .int xf, .int xp]))] sz)) 0 0 (va_A [(x, .inr (12, [.ref h, .ref xg, .ref y, .ref xd, .ref c0, .ref xt, .ref xm, .ref xl, .ref qn, .ref qw, .ref xe, .ref xc, .int xf, .int xp]))] sz) := by
  refine Met.ofW (cc := cX12_place) (maxL := 1) (ret := (some .int)) (by decide) rfl ?_
  intro p e s m args below meth c s₁ B hml hv
  obtain ⟨rfl, hsz, hP, hK, hD0⟩ := hv
  have hx := B.exec
  have hb := B.bytes
  have hr := B.returns
  have hts := atoms_spec (ws := wp_c_place) B.pre
  have hown : s.vm.findClass RX12 = some m.cls := findClass_of_methodNamed B.named
  have hlocks := B.notSynchronized
  subst hsz
  have hD := hD0.self (sz := s.heap.size)
  generalize hAe : va_A [(x, .inr (12, [.ref h, .ref xg, .ref y, .ref xd, .ref c0, .ref xt, .ref xm, .ref xl, .ref qn, .ref qw, .ref xe, .ref xc, .int xf, .int xp]))] s.heap.size = A at hD ⊢
  have hA : ∀ q : Nat, s.heap.size ≤ q → A q := fun q h => by rw [← hAe]; exact Or.inr h
  have hS : va_S A s.heap s.heap [] := va_S.rf
  have hP : va_P (dC, dI) vwCl [(x, .inr (12, [.ref h, .ref xg, .ref y, .ref xd, .ref c0, .ref xt, .ref xm, .ref xl, .ref qn, .ref qw, .ref xe, .ref xc, .int xf, .int xp]))] s.heap := hP
  have hl := lv_entry ([.ref x]) (n := 1) (Nat.le_of_ble_eq_true rfl)
  rw [lg_entry_eq]
  generalize (lg_sl ([.ref x]) ++ List.replicate (1 - (lg_sl ([.ref x])).length) Slot.unset).toArray = ls at hl ⊢
  have hl : lv_has ls 1 [(0, .ref x)] := hl
  refine lv_aload_n hx hb dX12_place_0 rfl (lv_at hl 0 rfl) ?_
  refine va_get (D := (dC, dI)) (ci := 12) (v := .int xp) (C := RX12) (T := TX12) (N := 14) hx hb hts in_c_place_X12 hown hK hP 0 rfl rfl 13 (by decide) (hts (.fieldLink RX12 87 "OwnedPlaces" "lastPlace" "I") (wm_c_place 1 rfl)) (fun _ h9 => h9) rfl dX12_place_1 ?_
  have hP9 := hP.sub (ws' := [(x, .inr (12, [.ref h, .ref xg, .ref y, .ref xd, .ref c0, .ref xt, .ref xm, .ref xl, .ref qn, .ref qw, .ref xe, .ref xc, .int xf, .int xp]))]) [0] rfl
  have hD9 := hD.sub (ws' := [(x, .inr (12, [.ref h, .ref xg, .ref y, .ref xd, .ref c0, .ref xt, .ref xm, .ref xl, .ref qn, .ref qw, .ref xe, .ref xc, .int xf, .int xp]))]) [0] (by decide) rfl
  have hK9 := hK.sub (tys' := []) [] rfl
  exact W.iret (v := xp) hx hb hr (fun tS ht hW => ⟨⟨xp, (), rfl, trivial, by rw [ht]; exact hP9, va_K.moved hW.alike hK9, hD9⟩, hS.F ht⟩) hS.2.2 dX12_place_4
