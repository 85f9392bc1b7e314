def wf_c_addName : List Cond := [.code yX9_addName cX9_addName 7 (some .int), .fieldLink RX9 89 "OwnedPlaces$Text" "nameTotal" "I", .fieldLink RX9 39 "OwnedPlaces$Text" "nameFrom" "[I", .fieldLink RX9 42 "OwnedPlaces$Text" "nameSize" "[I", .fieldLink RX9 36 "OwnedPlaces$Text" "spelled" "[B", .methodLink RX9 83 arraycopyName, .native arraycopyName, .static arraycopyName, .initialized "java/lang/System", .fieldLink RX9 45 "OwnedPlaces$Text" "nameNext" "[I", .fieldLink RX9 48 "OwnedPlaces$Text" "heads" "[I"]
def wp_c_addName : List Cond := wf_c_addName ++ (wsX90 ++ [])
theorem in_c_addName_X9 : ∀ w ∈ wsX90, w ∈ wp_c_addName := fun w h => List.mem_append_right _ (List.mem_append_left _ h)
theorem wg_c_addName : wf_c_addName.all goodWord = true := by decide +kernel
theorem wm_c_addName (k : Nat) {w : Cond} (h : wp_c_addName[k]? = some w) : w ∈ wp_c_addName := List.mem_of_getElem? h
set_option maxHeartbeats 4000000 in
set_option maxRecDepth 100000 in
theorem c_addName (l : Launch) (dC : Nat → ClassId) (dI : Nat → Nat → Nat) (h tk tp tn tu tl tb ts tf tz tx th src : Nat) (kI kB : ClassId) (t j pf z sl F : Nat) (fh fx ff fz fs g : Nat → Int32) (sz : Nat) (hj : j < 256) (ht : t < 3000) (hpz : pf + z ≤ sl) (hsl : sl < 2 ^ 30) (hF : F + z ≤ 3120) (hI : nmI F ff fz) (hh : lkI fh 256) (hxx : lkI fx 3020) (hg : ∀ j, fits .byte (.int (g j)) = true) : Met l yX9_addName wp_c_addName ({ frames := 1, cells := 0, slots := 0, locals := 64 }) (va_Pc [.ref h, .int (nI j), .ref src, .int (nI pf), .int (nI z)] (fun U => U.heap.size = sz ∧ va_P (dC, dI) vwCl [(h, .inr (9, [.ref tk, .ref tp, .ref tn, .ref tu, .ref tl, .int 0, .int 0, .int 0, .int (-1), .int (nI t), .ref tb, .int 0, .ref ts, .ref tf, .ref tz, .ref tx, .ref th, .null])), (th, .inl (kI, 256, .inl fh)), (tx, .inl (kI, 3020, .inl fx)), (tf, .inl (kI, 3020, .inl ff)), (tz, .inl (kI, 3020, .inl fz)), (ts, .inl (kB, 3120, .inl fs)), (src, .inl (kB, sl, .inl g))] U.heap ∧ va_K (dC, dI) vwCl [(kI, .int), (kB, .byte)] U ∧ va_D (fun _ => True) [(h, .inr (9, [.ref tk, .ref tp, .ref tn, .ref tu, .ref tl, .int 0, .int 0, .int 0, .int (-1), .int (nI t), .ref tb, .int 0, .ref ts, .ref tf, .ref tz, .ref tx, .ref th, .null])), (th, .inl (kI, 256, .inl fh)), (tx, .inl (kI, 3020, .inl fx)), (tf, .inl (kI, 3020, .inl ff)), (tz, .inl (kI, 3020, .inl fz)), (ts, .inl (kB, 3120, .inl fs)), (src, .inl (kB, sl, .inl g))])) (va_Qi (fun (_ : Int32) (_ : Unit) => True) (fun (_ : Unit) (tS : State) => ∃ (fh2 : Nat → Int32) (fx2 : Nat → Int32) (ff2 : Nat → Int32) (fz2 : Nat → Int32) (fs2 : Nat → Int32), (lkI fh2 256) ∧ (lkI fx2 3020) ∧ (nmI (F + z) ff2 fz2) ∧ va_P (dC, dI) vwCl [(h, .inr (9, [.ref tk, .ref tp, .ref tn, .ref tu, .ref tl, .int 0, .int 0, .int 0, .int (-1), .int (nI (t + 1)), .ref tb, .int 0, .ref ts, .ref tf, .ref tz, .ref tx, .ref th, .null])), (th, .inl (kI, 256, .inl fh2)), (tx, .inl (kI, 3020, .inl fx2)), (tf, .inl (kI, 3020, .inl ff2)), (tz, .inl (kI, 3020, .inl fz2)), (ts, .inl (kB, 3120, .inl fs2)), (src, .inl (kB, sl, .inl g))] tS.heap ∧ va_K (dC, dI) vwCl [(kI, .int), (kB, .byte)] tS ∧ va_D (va_A [(h, .inr (9, [.ref tk, .ref tp, .ref tn, .ref tu, .ref tl, .int 0, .int 0, .int 0, .int (-1), .int (nI t), .ref tb, .int 0, .ref ts, .ref tf, .ref tz, .ref tx, .ref th, .null])), (th, .inl (kI, 256, .inl fh)), (tx, .inl (kI, 3020, .inl fx)), (tf, .inl (kI, 3020, .inl ff)), (tz, .inl (kI, 3020, .inl fz)), (ts, .inl (kB, 3120, .inl fs)), (src, .inl (kB, sl, .inl g))] sz) [(h, .inr (9, [.ref tk, .ref tp, .ref tn, .ref tu, .ref tl, .int 0, .int 0, .int 0, .int (-1), .int (nI (t + 1)), .ref tb, .int 0, .ref ts, .ref tf, .ref tz, .ref tx, .ref th, .null])), (th, .inl (kI, 256, .inl fh2)), (tx, .inl (kI, 3020, .inl fx2)), (tf, .inl (kI, 3020, .inl ff2)), (tz, .inl (kI, 3020, .inl fz2)), (ts, .inl (kB, 3120, .inl fs2)), (src, .inl (kB, sl, .inl g))]) (va_A [(h, .inr (9, [.ref tk, .ref tp, .ref tn, .ref tu, .ref tl, .int 0, .int 0, .int 0, .int (-1), .int (nI t), .ref tb, .int 0, .ref ts, .ref tf, .ref tz, .ref tx, .ref th, .null])), (th, .inl (kI, 256, .inl fh)), (tx, .inl (kI, 3020, .inl fx)), (tf, .inl (kI, 3020, .inl ff)), (tz, .inl (kI, 3020, .inl fz)), (ts, .inl (kB, 3120, .inl fs)), (src, .inl (kB, sl, .inl g))] sz)) 0 0 (va_A [(h, .inr (9, [.ref tk, .ref tp, .ref tn, .ref tu, .ref tl, .int 0, .int 0, .int 0, .int (-1), .int (nI t), .ref tb, .int 0, .ref ts, .ref tf, .ref tz, .ref tx, .ref th, .null])), (th, .inl (kI, 256, .inl fh)), (tx, .inl (kI, 3020, .inl fx)), (tf, .inl (kI, 3020, .inl ff)), (tz, .inl (kI, 3020, .inl fz)), (ts, .inl (kB, 3120, .inl fs)), (src, .inl (kB, sl, .inl g))] sz) := by
  refine Met.ofW (cc := cX9_addName) (maxL := 7) (ret := (some .int)) (by decide) rfl ?_
  intro p e s m args below meth c s₁ B hml hv
  obtain ⟨rfl, hsz, hP, hK, hD0⟩ := hv
  have hx := B.exec
  have hb := B.bytes
  have hr := B.returns
  have hts := atoms_spec (ws := wp_c_addName) B.pre
  have hown : s.vm.findClass RX9 = some m.cls := findClass_of_methodNamed B.named
  have hlocks := B.notSynchronized
  subst hsz
  have hD := hD0.self (sz := s.heap.size)
  generalize hAe : va_A [(h, .inr (9, [.ref tk, .ref tp, .ref tn, .ref tu, .ref tl, .int 0, .int 0, .int 0, .int (-1), .int (nI t), .ref tb, .int 0, .ref ts, .ref tf, .ref tz, .ref tx, .ref th, .null])), (th, .inl (kI, 256, .inl fh)), (tx, .inl (kI, 3020, .inl fx)), (tf, .inl (kI, 3020, .inl ff)), (tz, .inl (kI, 3020, .inl fz)), (ts, .inl (kB, 3120, .inl fs)), (src, .inl (kB, sl, .inl g))] s.heap.size = A at hD ⊢
  have hA : ∀ q : Nat, s.heap.size ≤ q → A q := fun q h => by rw [← hAe]; exact Or.inr h
  have hS : va_S A s.heap s.heap [] := va_S.rf
  have hP : va_P (dC, dI) vwCl [(h, .inr (9, [.ref tk, .ref tp, .ref tn, .ref tu, .ref tl, .int 0, .int 0, .int 0, .int (-1), .int (nI t), .ref tb, .int 0, .ref ts, .ref tf, .ref tz, .ref tx, .ref th, .null])), (th, .inl (kI, 256, .inl fh)), (tx, .inl (kI, 3020, .inl fx)), (tf, .inl (kI, 3020, .inl ff)), (tz, .inl (kI, 3020, .inl fz)), (ts, .inl (kB, 3120, .inl fs)), (src, .inl (kB, sl, .inl g))] s.heap := hP
  have hl := lv_entry ([.ref h, .int (nI j), .ref src, .int (nI pf), .int (nI z)]) (n := 7) (Nat.le_of_ble_eq_true rfl)
  rw [lg_entry_eq]
  generalize (lg_sl ([.ref h, .int (nI j), .ref src, .int (nI pf), .int (nI z)]) ++ List.replicate (7 - (lg_sl ([.ref h, .int (nI j), .ref src, .int (nI pf), .int (nI z)])).length) Slot.unset).toArray = ls at hl ⊢
  have hl : lv_has ls 7 [(0, .ref h), (1, .int (nI j)), (2, .ref src), (3, .int (nI pf)), (4, .int (nI z))] := hl
  refine lv_aload_n hx hb dX9_addName_0 rfl (lv_at hl 0 rfl) ?_
  refine va_get (D := (dC, dI)) (ci := 9) (v := .int (nI t)) (C := RX9) (T := TX9) (N := 18) hx hb hts in_c_addName_X9 hown hK hP 0 rfl rfl 9 (by decide) (hts (.fieldLink RX9 89 "OwnedPlaces$Text" "nameTotal" "I") (wm_c_addName 1 rfl)) (fun _ h9 => h9) rfl dX9_addName_1 ?_
  refine lv_istore (lv' := [(5, .int (nI t)), (0, .ref h), (1, .int (nI j)), (2, .ref src), (3, .int (nI pf)), (4, .int (nI z))]) hx hb dX9_addName_4 hl (by decide) rfl (fun ls hl => ?_)
  refine lv_iload hx hb dX9_addName_6 (lv_at hl 0 rfl) ?_
  refine lv_if_ne (tgt := 15) hx hb dX9_addName_8 (by decide) (fun hc => ?_) (fun hc => ?_)
  · have h0 : 0 < t := by rcases Nat.eq_zero_or_pos t with q | q; subst q; exact absurd rfl hc; exact q
    obtain ⟨a1, b1, hf1, hf2, hf3⟩ := hI (t - 1) (by omega)
    refine lv_aload_n hx hb dX9_addName_15 rfl (lv_at hl 1 rfl) ?_
    refine va_get (D := (dC, dI)) (ci := 9) (v := .ref tf) (C := RX9) (T := TX9) (N := 18) hx hb hts in_c_addName_X9 hown hK hP 0 rfl rfl 13 (by decide) (hts (.fieldLink RX9 39 "OwnedPlaces$Text" "nameFrom" "[I") (wm_c_addName 2 rfl)) (fun _ h9 => h9) rfl dX9_addName_16 ?_
    refine lv_iload hx hb dX9_addName_19 (lv_at hl 0 rfl) ?_
    refine lv_iconst (v := 1) hx hb dX9_addName_21 (by decide) ?_
    refine lv_isub hx hb dX9_addName_22 ?_
    refine lv_topi (fun f_1 ef_1 => ?_)
    obtain rfl : f_1 = nI (t - 1) := ef_1.trans (pk_sub (a := t) (b := 1) h0)
    refine va_iald hx hb hK hP 3 0 rfl rfl (vp_in_nI (by omega) (by decide)) dX9_addName_23 ?_
    refine lv_topi (fun v_2 ev_2 => ?_)
    obtain rfl : v_2 = nI a1 := ev_2.trans (by rw [nI_clamp (by omega)]; exact hf1)
    refine lv_aload_n hx hb dX9_addName_24 rfl (lv_at hl 1 rfl) ?_
    refine va_get (D := (dC, dI)) (ci := 9) (v := .ref tz) (C := RX9) (T := TX9) (N := 18) hx hb hts in_c_addName_X9 hown hK hP 0 rfl rfl 14 (by decide) (hts (.fieldLink RX9 42 "OwnedPlaces$Text" "nameSize" "[I") (wm_c_addName 3 rfl)) (fun _ h9 => h9) rfl dX9_addName_25 ?_
    refine lv_iload hx hb dX9_addName_28 (lv_at hl 0 rfl) ?_
    refine lv_iconst (v := 1) hx hb dX9_addName_30 (by decide) ?_
    refine lv_isub hx hb dX9_addName_31 ?_
    refine lv_topi (fun f_3 ef_3 => ?_)
    obtain rfl : f_3 = nI (t - 1) := ef_3.trans (pk_sub (a := t) (b := 1) h0)
    refine va_iald hx hb hK hP 4 0 rfl rfl (vp_in_nI (by omega) (by decide)) dX9_addName_32 ?_
    refine lv_topi (fun v_4 ev_4 => ?_)
    obtain rfl : v_4 = nI b1 := ev_4.trans (by rw [nI_clamp (by omega)]; exact hf2)
    refine lv_iadd hx hb dX9_addName_33 ?_
    refine lv_topi (fun f_5 ef_5 => ?_)
    obtain rfl : f_5 = nI (a1 + b1) := ef_5.trans (nI_add _ _)
    have hst : a1 + b1 ≤ F := hf3
    refine lv_istore (lv' := [(6, .int (nI (a1 + b1))), (5, .int (nI t)), (0, .ref h), (1, .int (nI j)), (2, .ref src), (3, .int (nI pf)), (4, .int (nI z))]) hx hb dX9_addName_34 hl (by decide) rfl (fun ls hl => ?_)
    refine lv_aload_n hx hb dX9_addName_36 rfl (lv_at hl 4 rfl) ?_
    refine lv_iload_n hx hb dX9_addName_37 rfl (lv_at hl 5 rfl) ?_
    refine lv_aload_n hx hb dX9_addName_38 rfl (lv_at hl 2 rfl) ?_
    refine va_get (D := (dC, dI)) (ci := 9) (v := .ref ts) (C := RX9) (T := TX9) (N := 18) hx hb hts in_c_addName_X9 hown hK hP 0 rfl rfl 12 (by decide) (hts (.fieldLink RX9 36 "OwnedPlaces$Text" "spelled" "[B") (wm_c_addName 4 rfl)) (fun _ h9 => h9) rfl dX9_addName_39 ?_
    refine lv_iload hx hb dX9_addName_42 (lv_at hl 0 rfl) ?_
    refine lv_iload hx hb dX9_addName_44 (lv_at hl 6 rfl) ?_
    refine va_copyi (ty := .byte) hx hb (by rw [hml]; exact hl.1.symm) hown (hts (.methodLink RX9 83 arraycopyName) (wm_c_addName 5 rfl)) (hts (.native arraycopyName) (wm_c_addName 6 rfl)) (hts (.static arraycopyName) (wm_c_addName 7 rfl)) (hts (.initialized "java/lang/System") (wm_c_addName 8 rfl)) hK hP hD hS 6 5 1 1 rfl rfl rfl rfl rfl (nI_pos (by omega)) (nI_pos (by omega)) (nI_pos (by omega)) (by rw [nI_clamp (by omega), nI_clamp (by omega)]; omega) (by rw [nI_clamp (by omega), nI_clamp (by omega)]; omega) (fun _ _ => hg _) (Nat.le_of_ble_eq_true rfl) (by decide) dX9_addName_46 (fun H locs hP hD hS => ?_)
    have hP : va_P (dC, dI) vwCl [(h, .inr (9, [.ref tk, .ref tp, .ref tn, .ref tu, .ref tl, .int 0, .int 0, .int 0, .int (-1), .int (nI t), .ref tb, .int 0, .ref ts, .ref tf, .ref tz, .ref tx, .ref th, .null])), (th, .inl (kI, 256, .inl fh)), (tx, .inl (kI, 3020, .inl fx)), (tf, .inl (kI, 3020, .inl ff)), (tz, .inl (kI, 3020, .inl fz)), (ts, .inl (kB, 3120, .inl (va_cpy g fs (nI pf : Int32).toNatClampNeg (nI (a1 + b1) : Int32).toNatClampNeg (nI z : Int32).toNatClampNeg))), (src, .inl (kB, sl, .inl g))] H := hP
    have hD : va_D A [(h, .inr (9, [.ref tk, .ref tp, .ref tn, .ref tu, .ref tl, .int 0, .int 0, .int 0, .int (-1), .int (nI t), .ref tb, .int 0, .ref ts, .ref tf, .ref tz, .ref tx, .ref th, .null])), (th, .inl (kI, 256, .inl fh)), (tx, .inl (kI, 3020, .inl fx)), (tf, .inl (kI, 3020, .inl ff)), (tz, .inl (kI, 3020, .inl fz)), (ts, .inl (kB, 3120, .inl (va_cpy g fs (nI pf : Int32).toNatClampNeg (nI (a1 + b1) : Int32).toNatClampNeg (nI z : Int32).toNatClampNeg))), (src, .inl (kB, sl, .inl g))] := hD
    obtain ⟨fs1, efs1⟩ : ∃ zZ : Nat → Int32, zZ = va_cpy g fs (nI pf : Int32).toNatClampNeg (nI (a1 + b1) : Int32).toNatClampNeg (nI z : Int32).toNatClampNeg := ⟨_, rfl⟩
    rw [← efs1] at hP hD
    refine lv_aload_n hx hb dX9_addName_49 rfl (lv_at hl 2 rfl) ?_
    refine va_get (D := (dC, dI)) (ci := 9) (v := .ref tf) (C := RX9) (T := TX9) (N := 18) hx hb hts in_c_addName_X9 hown hK hP 0 rfl rfl 13 (by decide) (hts (.fieldLink RX9 39 "OwnedPlaces$Text" "nameFrom" "[I") (wm_c_addName 2 rfl)) (fun _ h9 => h9) rfl dX9_addName_50 ?_
    refine lv_iload hx hb dX9_addName_53 (lv_at hl 1 rfl) ?_
    refine lv_iload hx hb dX9_addName_55 (lv_at hl 0 rfl) ?_
    refine va_iast hx hb hK hP hD hS 3 0 rfl rfl (vp_in_nI (by omega) (by decide)) dX9_addName_57 (fun H locs hP hD hS => ?_)
    have hP : va_P (dC, dI) vwCl [(h, .inr (9, [.ref tk, .ref tp, .ref tn, .ref tu, .ref tl, .int 0, .int 0, .int 0, .int (-1), .int (nI t), .ref tb, .int 0, .ref ts, .ref tf, .ref tz, .ref tx, .ref th, .null])), (th, .inl (kI, 256, .inl fh)), (tx, .inl (kI, 3020, .inl fx)), (tf, .inl (kI, 3020, .inl (upd ff (nI t : Int32).toNatClampNeg (nI (a1 + b1))))), (tz, .inl (kI, 3020, .inl fz)), (ts, .inl (kB, 3120, .inl fs1)), (src, .inl (kB, sl, .inl g))] H := hP
    have hD : va_D A [(h, .inr (9, [.ref tk, .ref tp, .ref tn, .ref tu, .ref tl, .int 0, .int 0, .int 0, .int (-1), .int (nI t), .ref tb, .int 0, .ref ts, .ref tf, .ref tz, .ref tx, .ref th, .null])), (th, .inl (kI, 256, .inl fh)), (tx, .inl (kI, 3020, .inl fx)), (tf, .inl (kI, 3020, .inl (upd ff (nI t : Int32).toNatClampNeg (nI (a1 + b1))))), (tz, .inl (kI, 3020, .inl fz)), (ts, .inl (kB, 3120, .inl fs1)), (src, .inl (kB, sl, .inl g))] := hD
    obtain ⟨ff1, eff1⟩ : ∃ zZ : Nat → Int32, zZ = upd ff (nI t : Int32).toNatClampNeg (nI (a1 + b1)) := ⟨_, rfl⟩
    rw [← eff1] at hP hD
    refine lv_aload_n hx hb dX9_addName_58 rfl (lv_at hl 2 rfl) ?_
    refine va_get (D := (dC, dI)) (ci := 9) (v := .ref tz) (C := RX9) (T := TX9) (N := 18) hx hb hts in_c_addName_X9 hown hK hP 0 rfl rfl 14 (by decide) (hts (.fieldLink RX9 42 "OwnedPlaces$Text" "nameSize" "[I") (wm_c_addName 3 rfl)) (fun _ h9 => h9) rfl dX9_addName_59 ?_
    refine lv_iload hx hb dX9_addName_62 (lv_at hl 1 rfl) ?_
    refine lv_iload hx hb dX9_addName_64 (lv_at hl 6 rfl) ?_
    refine va_iast hx hb hK hP hD hS 4 0 rfl rfl (vp_in_nI (by omega) (by decide)) dX9_addName_66 (fun H locs hP hD hS => ?_)
    have hP : va_P (dC, dI) vwCl [(h, .inr (9, [.ref tk, .ref tp, .ref tn, .ref tu, .ref tl, .int 0, .int 0, .int 0, .int (-1), .int (nI t), .ref tb, .int 0, .ref ts, .ref tf, .ref tz, .ref tx, .ref th, .null])), (th, .inl (kI, 256, .inl fh)), (tx, .inl (kI, 3020, .inl fx)), (tf, .inl (kI, 3020, .inl ff1)), (tz, .inl (kI, 3020, .inl (upd fz (nI t : Int32).toNatClampNeg (nI z)))), (ts, .inl (kB, 3120, .inl fs1)), (src, .inl (kB, sl, .inl g))] H := hP
    have hD : va_D A [(h, .inr (9, [.ref tk, .ref tp, .ref tn, .ref tu, .ref tl, .int 0, .int 0, .int 0, .int (-1), .int (nI t), .ref tb, .int 0, .ref ts, .ref tf, .ref tz, .ref tx, .ref th, .null])), (th, .inl (kI, 256, .inl fh)), (tx, .inl (kI, 3020, .inl fx)), (tf, .inl (kI, 3020, .inl ff1)), (tz, .inl (kI, 3020, .inl (upd fz (nI t : Int32).toNatClampNeg (nI z)))), (ts, .inl (kB, 3120, .inl fs1)), (src, .inl (kB, sl, .inl g))] := hD
    obtain ⟨fz1, efz1⟩ : ∃ zZ : Nat → Int32, zZ = upd fz (nI t : Int32).toNatClampNeg (nI z) := ⟨_, rfl⟩
    rw [← efz1] at hP hD
    refine lv_aload_n hx hb dX9_addName_67 rfl (lv_at hl 2 rfl) ?_
    refine va_get (D := (dC, dI)) (ci := 9) (v := .ref tx) (C := RX9) (T := TX9) (N := 18) hx hb hts in_c_addName_X9 hown hK hP 0 rfl rfl 15 (by decide) (hts (.fieldLink RX9 45 "OwnedPlaces$Text" "nameNext" "[I") (wm_c_addName 9 rfl)) (fun _ h9 => h9) rfl dX9_addName_68 ?_
    refine lv_iload hx hb dX9_addName_71 (lv_at hl 1 rfl) ?_
    refine lv_aload_n hx hb dX9_addName_73 rfl (lv_at hl 2 rfl) ?_
    refine va_get (D := (dC, dI)) (ci := 9) (v := .ref th) (C := RX9) (T := TX9) (N := 18) hx hb hts in_c_addName_X9 hown hK hP 0 rfl rfl 16 (by decide) (hts (.fieldLink RX9 48 "OwnedPlaces$Text" "heads" "[I") (wm_c_addName 10 rfl)) (fun _ h9 => h9) rfl dX9_addName_74 ?_
    refine lv_iload_n hx hb dX9_addName_77 rfl (lv_at hl 3 rfl) ?_
    refine va_iald hx hb hK hP 1 0 rfl rfl (vp_in_nI hj (by decide)) dX9_addName_78 ?_
    refine lv_topi (fun v_6 ev_6 => ?_)
    have hv9 : v_6 < 0 ∨ ∃ k : Nat, k < 3020 ∧ v_6 = nI k := by rw [ev_6, nI_clamp (by omega)]; exact hh j hj
    refine va_iast hx hb hK hP hD hS 2 0 rfl rfl (vp_in_nI (by omega) (by decide)) dX9_addName_79 (fun H locs hP hD hS => ?_)
    have hP : va_P (dC, dI) vwCl [(h, .inr (9, [.ref tk, .ref tp, .ref tn, .ref tu, .ref tl, .int 0, .int 0, .int 0, .int (-1), .int (nI t), .ref tb, .int 0, .ref ts, .ref tf, .ref tz, .ref tx, .ref th, .null])), (th, .inl (kI, 256, .inl fh)), (tx, .inl (kI, 3020, .inl (upd fx (nI t : Int32).toNatClampNeg v_6))), (tf, .inl (kI, 3020, .inl ff1)), (tz, .inl (kI, 3020, .inl fz1)), (ts, .inl (kB, 3120, .inl fs1)), (src, .inl (kB, sl, .inl g))] H := hP
    have hD : va_D A [(h, .inr (9, [.ref tk, .ref tp, .ref tn, .ref tu, .ref tl, .int 0, .int 0, .int 0, .int (-1), .int (nI t), .ref tb, .int 0, .ref ts, .ref tf, .ref tz, .ref tx, .ref th, .null])), (th, .inl (kI, 256, .inl fh)), (tx, .inl (kI, 3020, .inl (upd fx (nI t : Int32).toNatClampNeg v_6))), (tf, .inl (kI, 3020, .inl ff1)), (tz, .inl (kI, 3020, .inl fz1)), (ts, .inl (kB, 3120, .inl fs1)), (src, .inl (kB, sl, .inl g))] := hD
    obtain ⟨fx1, efx1⟩ : ∃ zZ : Nat → Int32, zZ = upd fx (nI t : Int32).toNatClampNeg v_6 := ⟨_, rfl⟩
    rw [← efx1] at hP hD
    refine lv_aload_n hx hb dX9_addName_80 rfl (lv_at hl 2 rfl) ?_
    refine va_get (D := (dC, dI)) (ci := 9) (v := .ref th) (C := RX9) (T := TX9) (N := 18) hx hb hts in_c_addName_X9 hown hK hP 0 rfl rfl 16 (by decide) (hts (.fieldLink RX9 48 "OwnedPlaces$Text" "heads" "[I") (wm_c_addName 10 rfl)) (fun _ h9 => h9) rfl dX9_addName_81 ?_
    refine lv_iload_n hx hb dX9_addName_84 rfl (lv_at hl 3 rfl) ?_
    refine lv_iload hx hb dX9_addName_85 (lv_at hl 1 rfl) ?_
    refine va_iast hx hb hK hP hD hS 1 0 rfl rfl (vp_in_nI hj (by decide)) dX9_addName_87 (fun H locs hP hD hS => ?_)
    have hP : va_P (dC, dI) vwCl [(h, .inr (9, [.ref tk, .ref tp, .ref tn, .ref tu, .ref tl, .int 0, .int 0, .int 0, .int (-1), .int (nI t), .ref tb, .int 0, .ref ts, .ref tf, .ref tz, .ref tx, .ref th, .null])), (th, .inl (kI, 256, .inl (upd fh (nI j : Int32).toNatClampNeg (nI t)))), (tx, .inl (kI, 3020, .inl fx1)), (tf, .inl (kI, 3020, .inl ff1)), (tz, .inl (kI, 3020, .inl fz1)), (ts, .inl (kB, 3120, .inl fs1)), (src, .inl (kB, sl, .inl g))] H := hP
    have hD : va_D A [(h, .inr (9, [.ref tk, .ref tp, .ref tn, .ref tu, .ref tl, .int 0, .int 0, .int 0, .int (-1), .int (nI t), .ref tb, .int 0, .ref ts, .ref tf, .ref tz, .ref tx, .ref th, .null])), (th, .inl (kI, 256, .inl (upd fh (nI j : Int32).toNatClampNeg (nI t)))), (tx, .inl (kI, 3020, .inl fx1)), (tf, .inl (kI, 3020, .inl ff1)), (tz, .inl (kI, 3020, .inl fz1)), (ts, .inl (kB, 3120, .inl fs1)), (src, .inl (kB, sl, .inl g))] := hD
    obtain ⟨fh1, efh1⟩ : ∃ zZ : Nat → Int32, zZ = upd fh (nI j : Int32).toNatClampNeg (nI t) := ⟨_, rfl⟩
    rw [← efh1] at hP hD
    refine lv_aload_n hx hb dX9_addName_88 rfl (lv_at hl 2 rfl) ?_
    refine lv_dup hx hb dX9_addName_89 rfl ?_
    refine va_get (D := (dC, dI)) (ci := 9) (v := .int (nI t)) (C := RX9) (T := TX9) (N := 18) hx hb hts in_c_addName_X9 hown hK hP 0 rfl rfl 9 (by decide) (hts (.fieldLink RX9 89 "OwnedPlaces$Text" "nameTotal" "I") (wm_c_addName 1 rfl)) (fun _ h9 => h9) rfl dX9_addName_90 ?_
    refine lv_iconst (v := 1) hx hb dX9_addName_93 (by decide) ?_
    refine lv_iadd hx hb dX9_addName_94 ?_
    refine lv_topi (fun f_7 ef_7 => ?_)
    obtain rfl : f_7 = nI (t + 1) := ef_7.trans (nI_1 t)
    refine va_put (D := (dC, dI)) (ci := 9) (v := .int (nI (t + 1))) (ty := .int) (C := RX9) (T := TX9) (N := 18) hx hb hts in_c_addName_X9 tyX9 tyX9_ok nmX9 hown hK hP hD hS 0 rfl rfl 9 (by decide) (hts (.fieldLink RX9 89 "OwnedPlaces$Text" "nameTotal" "I") (wm_c_addName 1 rfl)) (fun _ h9 => h9) rfl (by decide +kernel) rfl rfl (Nat.le_of_ble_eq_true rfl) dX9_addName_95 (fun H locs hP hD hS => ?_)
    have hP : va_P (dC, dI) vwCl [(h, .inr (9, [.ref tk, .ref tp, .ref tn, .ref tu, .ref tl, .int 0, .int 0, .int 0, .int (-1), .int (nI (t + 1)), .ref tb, .int 0, .ref ts, .ref tf, .ref tz, .ref tx, .ref th, .null])), (th, .inl (kI, 256, .inl fh1)), (tx, .inl (kI, 3020, .inl fx1)), (tf, .inl (kI, 3020, .inl ff1)), (tz, .inl (kI, 3020, .inl fz1)), (ts, .inl (kB, 3120, .inl fs1)), (src, .inl (kB, sl, .inl g))] H := hP
    have hD : va_D A [(h, .inr (9, [.ref tk, .ref tp, .ref tn, .ref tu, .ref tl, .int 0, .int 0, .int 0, .int (-1), .int (nI (t + 1)), .ref tb, .int 0, .ref ts, .ref tf, .ref tz, .ref tx, .ref th, .null])), (th, .inl (kI, 256, .inl fh1)), (tx, .inl (kI, 3020, .inl fx1)), (tf, .inl (kI, 3020, .inl ff1)), (tz, .inl (kI, 3020, .inl fz1)), (ts, .inl (kB, 3120, .inl fs1)), (src, .inl (kB, sl, .inl g))] := hD
    refine lv_iload hx hb dX9_addName_98 (lv_at hl 1 rfl) ?_
    have hP9 := hP.sub (ws' := [(h, .inr (9, [.ref tk, .ref tp, .ref tn, .ref tu, .ref tl, .int 0, .int 0, .int 0, .int (-1), .int (nI (t + 1)), .ref tb, .int 0, .ref ts, .ref tf, .ref tz, .ref tx, .ref th, .null])), (th, .inl (kI, 256, .inl fh1)), (tx, .inl (kI, 3020, .inl fx1)), (tf, .inl (kI, 3020, .inl ff1)), (tz, .inl (kI, 3020, .inl fz1)), (ts, .inl (kB, 3120, .inl fs1)), (src, .inl (kB, sl, .inl g))]) [0, 1, 2, 3, 4, 5, 6] rfl
    have hD9 := hD.sub (ws' := [(h, .inr (9, [.ref tk, .ref tp, .ref tn, .ref tu, .ref tl, .int 0, .int 0, .int 0, .int (-1), .int (nI (t + 1)), .ref tb, .int 0, .ref ts, .ref tf, .ref tz, .ref tx, .ref th, .null])), (th, .inl (kI, 256, .inl fh1)), (tx, .inl (kI, 3020, .inl fx1)), (tf, .inl (kI, 3020, .inl ff1)), (tz, .inl (kI, 3020, .inl fz1)), (ts, .inl (kB, 3120, .inl fs1)), (src, .inl (kB, sl, .inl g))]) [0, 1, 2, 3, 4, 5, 6] (by decide) rfl
    have hK9 := hK.sub (tys' := [(kI, .int), (kB, .byte)]) [0, 1] rfl
    exact W.iret (v := nI t) hx hb hr (fun tS ht hW => ⟨⟨(nI t), (), rfl, trivial, fh1, fx1, ff1, fz1, fs1, by rw [efh1]; exact lkI_put hh (Or.inr ⟨t, by omega, rfl⟩), by rw [efx1]; exact lkI_put hxx hv9, by rw [eff1, efz1]; exact nmI_put hI hst, by rw [ht]; exact hP9, va_K.moved hW.alike hK9, hD9⟩, hS.F ht⟩) hS.2.2 dX9_addName_100
  · have hst : 0 ≤ F := Nat.zero_le _
    refine lv_iconst (v := 0) hx hb dX9_addName_11 (by decide) ?_
    refine lv_goto (tgt := 34) hx hb dX9_addName_12 (by decide) ?_
    refine W.eq (g2 := F0 m 34 ls [.int (nI 0)]) rfl ?_
    refine lv_istore (lv' := [(6, .int (nI 0)), (5, .int (nI t)), (0, .ref h), (1, .int (nI j)), (2, .ref src), (3, .int (nI pf)), (4, .int (nI z))]) hx hb dX9_addName_34 hl (by decide) rfl (fun ls hl => ?_)
    refine lv_aload_n hx hb dX9_addName_36 rfl (lv_at hl 4 rfl) ?_
    refine lv_iload_n hx hb dX9_addName_37 rfl (lv_at hl 5 rfl) ?_
    refine lv_aload_n hx hb dX9_addName_38 rfl (lv_at hl 2 rfl) ?_
    refine va_get (D := (dC, dI)) (ci := 9) (v := .ref ts) (C := RX9) (T := TX9) (N := 18) hx hb hts in_c_addName_X9 hown hK hP 0 rfl rfl 12 (by decide) (hts (.fieldLink RX9 36 "OwnedPlaces$Text" "spelled" "[B") (wm_c_addName 4 rfl)) (fun _ h9 => h9) rfl dX9_addName_39 ?_
    refine lv_iload hx hb dX9_addName_42 (lv_at hl 0 rfl) ?_
    refine lv_iload hx hb dX9_addName_44 (lv_at hl 6 rfl) ?_
    refine va_copyi (ty := .byte) hx hb (by rw [hml]; exact hl.1.symm) hown (hts (.methodLink RX9 83 arraycopyName) (wm_c_addName 5 rfl)) (hts (.native arraycopyName) (wm_c_addName 6 rfl)) (hts (.static arraycopyName) (wm_c_addName 7 rfl)) (hts (.initialized "java/lang/System") (wm_c_addName 8 rfl)) hK hP hD hS 6 5 1 1 rfl rfl rfl rfl rfl (nI_pos (by omega)) (nI_pos (by omega)) (nI_pos (by omega)) (by rw [nI_clamp (by omega), nI_clamp (by omega)]; omega) (by rw [nI_clamp (by omega), nI_clamp (by omega)]; omega) (fun _ _ => hg _) (Nat.le_of_ble_eq_true rfl) (by decide) dX9_addName_46 (fun H locs hP hD hS => ?_)
    have hP : va_P (dC, dI) vwCl [(h, .inr (9, [.ref tk, .ref tp, .ref tn, .ref tu, .ref tl, .int 0, .int 0, .int 0, .int (-1), .int (nI t), .ref tb, .int 0, .ref ts, .ref tf, .ref tz, .ref tx, .ref th, .null])), (th, .inl (kI, 256, .inl fh)), (tx, .inl (kI, 3020, .inl fx)), (tf, .inl (kI, 3020, .inl ff)), (tz, .inl (kI, 3020, .inl fz)), (ts, .inl (kB, 3120, .inl (va_cpy g fs (nI pf : Int32).toNatClampNeg (nI 0 : Int32).toNatClampNeg (nI z : Int32).toNatClampNeg))), (src, .inl (kB, sl, .inl g))] H := hP
    have hD : va_D A [(h, .inr (9, [.ref tk, .ref tp, .ref tn, .ref tu, .ref tl, .int 0, .int 0, .int 0, .int (-1), .int (nI t), .ref tb, .int 0, .ref ts, .ref tf, .ref tz, .ref tx, .ref th, .null])), (th, .inl (kI, 256, .inl fh)), (tx, .inl (kI, 3020, .inl fx)), (tf, .inl (kI, 3020, .inl ff)), (tz, .inl (kI, 3020, .inl fz)), (ts, .inl (kB, 3120, .inl (va_cpy g fs (nI pf : Int32).toNatClampNeg (nI 0 : Int32).toNatClampNeg (nI z : Int32).toNatClampNeg))), (src, .inl (kB, sl, .inl g))] := hD
    obtain ⟨fs1, efs1⟩ : ∃ zZ : Nat → Int32, zZ = va_cpy g fs (nI pf : Int32).toNatClampNeg (nI 0 : Int32).toNatClampNeg (nI z : Int32).toNatClampNeg := ⟨_, rfl⟩
    rw [← efs1] at hP hD
    refine lv_aload_n hx hb dX9_addName_49 rfl (lv_at hl 2 rfl) ?_
    refine va_get (D := (dC, dI)) (ci := 9) (v := .ref tf) (C := RX9) (T := TX9) (N := 18) hx hb hts in_c_addName_X9 hown hK hP 0 rfl rfl 13 (by decide) (hts (.fieldLink RX9 39 "OwnedPlaces$Text" "nameFrom" "[I") (wm_c_addName 2 rfl)) (fun _ h9 => h9) rfl dX9_addName_50 ?_
    refine lv_iload hx hb dX9_addName_53 (lv_at hl 1 rfl) ?_
    refine lv_iload hx hb dX9_addName_55 (lv_at hl 0 rfl) ?_
    refine va_iast hx hb hK hP hD hS 3 0 rfl rfl (vp_in_nI (by omega) (by decide)) dX9_addName_57 (fun H locs hP hD hS => ?_)
    have hP : va_P (dC, dI) vwCl [(h, .inr (9, [.ref tk, .ref tp, .ref tn, .ref tu, .ref tl, .int 0, .int 0, .int 0, .int (-1), .int (nI t), .ref tb, .int 0, .ref ts, .ref tf, .ref tz, .ref tx, .ref th, .null])), (th, .inl (kI, 256, .inl fh)), (tx, .inl (kI, 3020, .inl fx)), (tf, .inl (kI, 3020, .inl (upd ff (nI t : Int32).toNatClampNeg (nI 0)))), (tz, .inl (kI, 3020, .inl fz)), (ts, .inl (kB, 3120, .inl fs1)), (src, .inl (kB, sl, .inl g))] H := hP
    have hD : va_D A [(h, .inr (9, [.ref tk, .ref tp, .ref tn, .ref tu, .ref tl, .int 0, .int 0, .int 0, .int (-1), .int (nI t), .ref tb, .int 0, .ref ts, .ref tf, .ref tz, .ref tx, .ref th, .null])), (th, .inl (kI, 256, .inl fh)), (tx, .inl (kI, 3020, .inl fx)), (tf, .inl (kI, 3020, .inl (upd ff (nI t : Int32).toNatClampNeg (nI 0)))), (tz, .inl (kI, 3020, .inl fz)), (ts, .inl (kB, 3120, .inl fs1)), (src, .inl (kB, sl, .inl g))] := hD
    obtain ⟨ff1, eff1⟩ : ∃ zZ : Nat → Int32, zZ = upd ff (nI t : Int32).toNatClampNeg (nI 0) := ⟨_, rfl⟩
    rw [← eff1] at hP hD
    refine lv_aload_n hx hb dX9_addName_58 rfl (lv_at hl 2 rfl) ?_
    refine va_get (D := (dC, dI)) (ci := 9) (v := .ref tz) (C := RX9) (T := TX9) (N := 18) hx hb hts in_c_addName_X9 hown hK hP 0 rfl rfl 14 (by decide) (hts (.fieldLink RX9 42 "OwnedPlaces$Text" "nameSize" "[I") (wm_c_addName 3 rfl)) (fun _ h9 => h9) rfl dX9_addName_59 ?_
    refine lv_iload hx hb dX9_addName_62 (lv_at hl 1 rfl) ?_
    refine lv_iload hx hb dX9_addName_64 (lv_at hl 6 rfl) ?_
    refine va_iast hx hb hK hP hD hS 4 0 rfl rfl (vp_in_nI (by omega) (by decide)) dX9_addName_66 (fun H locs hP hD hS => ?_)
    have hP : va_P (dC, dI) vwCl [(h, .inr (9, [.ref tk, .ref tp, .ref tn, .ref tu, .ref tl, .int 0, .int 0, .int 0, .int (-1), .int (nI t), .ref tb, .int 0, .ref ts, .ref tf, .ref tz, .ref tx, .ref th, .null])), (th, .inl (kI, 256, .inl fh)), (tx, .inl (kI, 3020, .inl fx)), (tf, .inl (kI, 3020, .inl ff1)), (tz, .inl (kI, 3020, .inl (upd fz (nI t : Int32).toNatClampNeg (nI z)))), (ts, .inl (kB, 3120, .inl fs1)), (src, .inl (kB, sl, .inl g))] H := hP
    have hD : va_D A [(h, .inr (9, [.ref tk, .ref tp, .ref tn, .ref tu, .ref tl, .int 0, .int 0, .int 0, .int (-1), .int (nI t), .ref tb, .int 0, .ref ts, .ref tf, .ref tz, .ref tx, .ref th, .null])), (th, .inl (kI, 256, .inl fh)), (tx, .inl (kI, 3020, .inl fx)), (tf, .inl (kI, 3020, .inl ff1)), (tz, .inl (kI, 3020, .inl (upd fz (nI t : Int32).toNatClampNeg (nI z)))), (ts, .inl (kB, 3120, .inl fs1)), (src, .inl (kB, sl, .inl g))] := hD
    obtain ⟨fz1, efz1⟩ : ∃ zZ : Nat → Int32, zZ = upd fz (nI t : Int32).toNatClampNeg (nI z) := ⟨_, rfl⟩
    rw [← efz1] at hP hD
    refine lv_aload_n hx hb dX9_addName_67 rfl (lv_at hl 2 rfl) ?_
    refine va_get (D := (dC, dI)) (ci := 9) (v := .ref tx) (C := RX9) (T := TX9) (N := 18) hx hb hts in_c_addName_X9 hown hK hP 0 rfl rfl 15 (by decide) (hts (.fieldLink RX9 45 "OwnedPlaces$Text" "nameNext" "[I") (wm_c_addName 9 rfl)) (fun _ h9 => h9) rfl dX9_addName_68 ?_
    refine lv_iload hx hb dX9_addName_71 (lv_at hl 1 rfl) ?_
    refine lv_aload_n hx hb dX9_addName_73 rfl (lv_at hl 2 rfl) ?_
    refine va_get (D := (dC, dI)) (ci := 9) (v := .ref th) (C := RX9) (T := TX9) (N := 18) hx hb hts in_c_addName_X9 hown hK hP 0 rfl rfl 16 (by decide) (hts (.fieldLink RX9 48 "OwnedPlaces$Text" "heads" "[I") (wm_c_addName 10 rfl)) (fun _ h9 => h9) rfl dX9_addName_74 ?_
    refine lv_iload_n hx hb dX9_addName_77 rfl (lv_at hl 3 rfl) ?_
    refine va_iald hx hb hK hP 1 0 rfl rfl (vp_in_nI hj (by decide)) dX9_addName_78 ?_
    refine lv_topi (fun v_1 ev_1 => ?_)
    have hv9 : v_1 < 0 ∨ ∃ k : Nat, k < 3020 ∧ v_1 = nI k := by rw [ev_1, nI_clamp (by omega)]; exact hh j hj
    refine va_iast hx hb hK hP hD hS 2 0 rfl rfl (vp_in_nI (by omega) (by decide)) dX9_addName_79 (fun H locs hP hD hS => ?_)
    have hP : va_P (dC, dI) vwCl [(h, .inr (9, [.ref tk, .ref tp, .ref tn, .ref tu, .ref tl, .int 0, .int 0, .int 0, .int (-1), .int (nI t), .ref tb, .int 0, .ref ts, .ref tf, .ref tz, .ref tx, .ref th, .null])), (th, .inl (kI, 256, .inl fh)), (tx, .inl (kI, 3020, .inl (upd fx (nI t : Int32).toNatClampNeg v_1))), (tf, .inl (kI, 3020, .inl ff1)), (tz, .inl (kI, 3020, .inl fz1)), (ts, .inl (kB, 3120, .inl fs1)), (src, .inl (kB, sl, .inl g))] H := hP
    have hD : va_D A [(h, .inr (9, [.ref tk, .ref tp, .ref tn, .ref tu, .ref tl, .int 0, .int 0, .int 0, .int (-1), .int (nI t), .ref tb, .int 0, .ref ts, .ref tf, .ref tz, .ref tx, .ref th, .null])), (th, .inl (kI, 256, .inl fh)), (tx, .inl (kI, 3020, .inl (upd fx (nI t : Int32).toNatClampNeg v_1))), (tf, .inl (kI, 3020, .inl ff1)), (tz, .inl (kI, 3020, .inl fz1)), (ts, .inl (kB, 3120, .inl fs1)), (src, .inl (kB, sl, .inl g))] := hD
    obtain ⟨fx1, efx1⟩ : ∃ zZ : Nat → Int32, zZ = upd fx (nI t : Int32).toNatClampNeg v_1 := ⟨_, rfl⟩
    rw [← efx1] at hP hD
    refine lv_aload_n hx hb dX9_addName_80 rfl (lv_at hl 2 rfl) ?_
    refine va_get (D := (dC, dI)) (ci := 9) (v := .ref th) (C := RX9) (T := TX9) (N := 18) hx hb hts in_c_addName_X9 hown hK hP 0 rfl rfl 16 (by decide) (hts (.fieldLink RX9 48 "OwnedPlaces$Text" "heads" "[I") (wm_c_addName 10 rfl)) (fun _ h9 => h9) rfl dX9_addName_81 ?_
    refine lv_iload_n hx hb dX9_addName_84 rfl (lv_at hl 3 rfl) ?_
    refine lv_iload hx hb dX9_addName_85 (lv_at hl 1 rfl) ?_
    refine va_iast hx hb hK hP hD hS 1 0 rfl rfl (vp_in_nI hj (by decide)) dX9_addName_87 (fun H locs hP hD hS => ?_)
    have hP : va_P (dC, dI) vwCl [(h, .inr (9, [.ref tk, .ref tp, .ref tn, .ref tu, .ref tl, .int 0, .int 0, .int 0, .int (-1), .int (nI t), .ref tb, .int 0, .ref ts, .ref tf, .ref tz, .ref tx, .ref th, .null])), (th, .inl (kI, 256, .inl (upd fh (nI j : Int32).toNatClampNeg (nI t)))), (tx, .inl (kI, 3020, .inl fx1)), (tf, .inl (kI, 3020, .inl ff1)), (tz, .inl (kI, 3020, .inl fz1)), (ts, .inl (kB, 3120, .inl fs1)), (src, .inl (kB, sl, .inl g))] H := hP
    have hD : va_D A [(h, .inr (9, [.ref tk, .ref tp, .ref tn, .ref tu, .ref tl, .int 0, .int 0, .int 0, .int (-1), .int (nI t), .ref tb, .int 0, .ref ts, .ref tf, .ref tz, .ref tx, .ref th, .null])), (th, .inl (kI, 256, .inl (upd fh (nI j : Int32).toNatClampNeg (nI t)))), (tx, .inl (kI, 3020, .inl fx1)), (tf, .inl (kI, 3020, .inl ff1)), (tz, .inl (kI, 3020, .inl fz1)), (ts, .inl (kB, 3120, .inl fs1)), (src, .inl (kB, sl, .inl g))] := hD
    obtain ⟨fh1, efh1⟩ : ∃ zZ : Nat → Int32, zZ = upd fh (nI j : Int32).toNatClampNeg (nI t) := ⟨_, rfl⟩
    rw [← efh1] at hP hD
    refine lv_aload_n hx hb dX9_addName_88 rfl (lv_at hl 2 rfl) ?_
    refine lv_dup hx hb dX9_addName_89 rfl ?_
    refine va_get (D := (dC, dI)) (ci := 9) (v := .int (nI t)) (C := RX9) (T := TX9) (N := 18) hx hb hts in_c_addName_X9 hown hK hP 0 rfl rfl 9 (by decide) (hts (.fieldLink RX9 89 "OwnedPlaces$Text" "nameTotal" "I") (wm_c_addName 1 rfl)) (fun _ h9 => h9) rfl dX9_addName_90 ?_
    refine lv_iconst (v := 1) hx hb dX9_addName_93 (by decide) ?_
    refine lv_iadd hx hb dX9_addName_94 ?_
    refine lv_topi (fun f_2 ef_2 => ?_)
    obtain rfl : f_2 = nI (t + 1) := ef_2.trans (nI_1 t)
    refine va_put (D := (dC, dI)) (ci := 9) (v := .int (nI (t + 1))) (ty := .int) (C := RX9) (T := TX9) (N := 18) hx hb hts in_c_addName_X9 tyX9 tyX9_ok nmX9 hown hK hP hD hS 0 rfl rfl 9 (by decide) (hts (.fieldLink RX9 89 "OwnedPlaces$Text" "nameTotal" "I") (wm_c_addName 1 rfl)) (fun _ h9 => h9) rfl (by decide +kernel) rfl rfl (Nat.le_of_ble_eq_true rfl) dX9_addName_95 (fun H locs hP hD hS => ?_)
    have hP : va_P (dC, dI) vwCl [(h, .inr (9, [.ref tk, .ref tp, .ref tn, .ref tu, .ref tl, .int 0, .int 0, .int 0, .int (-1), .int (nI (t + 1)), .ref tb, .int 0, .ref ts, .ref tf, .ref tz, .ref tx, .ref th, .null])), (th, .inl (kI, 256, .inl fh1)), (tx, .inl (kI, 3020, .inl fx1)), (tf, .inl (kI, 3020, .inl ff1)), (tz, .inl (kI, 3020, .inl fz1)), (ts, .inl (kB, 3120, .inl fs1)), (src, .inl (kB, sl, .inl g))] H := hP
    have hD : va_D A [(h, .inr (9, [.ref tk, .ref tp, .ref tn, .ref tu, .ref tl, .int 0, .int 0, .int 0, .int (-1), .int (nI (t + 1)), .ref tb, .int 0, .ref ts, .ref tf, .ref tz, .ref tx, .ref th, .null])), (th, .inl (kI, 256, .inl fh1)), (tx, .inl (kI, 3020, .inl fx1)), (tf, .inl (kI, 3020, .inl ff1)), (tz, .inl (kI, 3020, .inl fz1)), (ts, .inl (kB, 3120, .inl fs1)), (src, .inl (kB, sl, .inl g))] := hD
    refine lv_iload hx hb dX9_addName_98 (lv_at hl 1 rfl) ?_
    have hP9 := hP.sub (ws' := [(h, .inr (9, [.ref tk, .ref tp, .ref tn, .ref tu, .ref tl, .int 0, .int 0, .int 0, .int (-1), .int (nI (t + 1)), .ref tb, .int 0, .ref ts, .ref tf, .ref tz, .ref tx, .ref th, .null])), (th, .inl (kI, 256, .inl fh1)), (tx, .inl (kI, 3020, .inl fx1)), (tf, .inl (kI, 3020, .inl ff1)), (tz, .inl (kI, 3020, .inl fz1)), (ts, .inl (kB, 3120, .inl fs1)), (src, .inl (kB, sl, .inl g))]) [0, 1, 2, 3, 4, 5, 6] rfl
    have hD9 := hD.sub (ws' := [(h, .inr (9, [.ref tk, .ref tp, .ref tn, .ref tu, .ref tl, .int 0, .int 0, .int 0, .int (-1), .int (nI (t + 1)), .ref tb, .int 0, .ref ts, .ref tf, .ref tz, .ref tx, .ref th, .null])), (th, .inl (kI, 256, .inl fh1)), (tx, .inl (kI, 3020, .inl fx1)), (tf, .inl (kI, 3020, .inl ff1)), (tz, .inl (kI, 3020, .inl fz1)), (ts, .inl (kB, 3120, .inl fs1)), (src, .inl (kB, sl, .inl g))]) [0, 1, 2, 3, 4, 5, 6] (by decide) rfl
    have hK9 := hK.sub (tys' := [(kI, .int), (kB, .byte)]) [0, 1] rfl
    exact W.iret (v := nI t) hx hb hr (fun tS ht hW => ⟨⟨(nI t), (), rfl, trivial, fh1, fx1, ff1, fz1, fs1, by rw [efh1]; exact lkI_put hh (Or.inr ⟨t, by omega, rfl⟩), by rw [efx1]; exact lkI_put hxx hv9, by rw [eff1, efz1]; exact nmI_put hI hst, by rw [ht]; exact hP9, va_K.moved hW.alike hK9, hD9⟩, hS.F ht⟩) hS.2.2 dX9_addName_100
