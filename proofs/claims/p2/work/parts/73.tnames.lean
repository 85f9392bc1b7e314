def wf_c_spelled : List Cond := [.code yX9_isSpelled cX9_isSpelled 6 (some .boolean), .fieldLink RX9 42 "OwnedPlaces$Text" "nameSize" "[I", .fieldLink RX9 36 "OwnedPlaces$Text" "spelled" "[B", .fieldLink RX9 39 "OwnedPlaces$Text" "nameFrom" "[I"]
def wp_c_spelled : List Cond := wf_c_spelled ++ (wsX90 ++ [])
theorem in_c_spelled_X9 : ∀ w ∈ wsX90, w ∈ wp_c_spelled := fun w h => List.mem_append_right _ (List.mem_append_left _ h)
theorem wg_c_spelled : wf_c_spelled.all goodWord = true := by decide +kernel
theorem wm_c_spelled (k : Nat) {w : Cond} (h : wp_c_spelled[k]? = some w) : w ∈ wp_c_spelled := List.mem_of_getElem? h
set_option maxHeartbeats 4000000 in
set_option maxRecDepth 100000 in
theorem c_spelled (l : Launch) (dC : Nat → ClassId) (dI : Nat → Nat → Nat) (h tk tp tn tu tl tb ts tf tz tx th tw src : Nat) (kI kB : ClassId) (ln now ft pl : Int32) (tt : Nat) (nt : Int32) (a pf z sl : Nat) (ff fz fs g : Nat → Int32) (sz : Nat) (ha : a < 3020) (hpz : pf + z ≤ sl) (hsl : sl < 2 ^ 30) (hI : nmI 3120 ff fz) : Met l yX9_isSpelled wp_c_spelled ({ frames := 0, cells := 0, slots := 0, locals := 0 }) (va_Pc [.ref h, .int (nI a), .ref src, .int (nI pf), .int (nI z)] (fun U => U.heap.size = sz ∧ va_P (dC, dI) vwCl [(h, .inr (9, [.ref tk, .ref tp, .ref tn, .ref tu, .ref tl, .int ln, .int now, .int ft, .int pl, .int nt, .ref tb, .int (nI tt), .ref ts, .ref tf, .ref tz, .ref tx, .ref th, .ref tw])), (tf, .inl (kI, 3020, .inl ff)), (tz, .inl (kI, 3020, .inl fz)), (ts, .inl (kB, 3120, .inl fs)), (src, .inl (kB, sl, .inl g))] U.heap ∧ va_K (dC, dI) vwCl [(kI, .int), (kB, .byte)] U ∧ va_D (fun _ => True) [(h, .inr (9, [.ref tk, .ref tp, .ref tn, .ref tu, .ref tl, .int ln, .int now, .int ft, .int pl, .int nt, .ref tb, .int (nI tt), .ref ts, .ref tf, .ref tz, .ref tx, .ref th, .ref tw])), (tf, .inl (kI, 3020, .inl ff)), (tz, .inl (kI, 3020, .inl fz)), (ts, .inl (kB, 3120, .inl fs)), (src, .inl (kB, sl, .inl g))])) (va_Qi (fun (r : Int32) (_ : Unit) => r = 0 ∨ r = 1) (fun (_ : Unit) (tS : State) => va_P (dC, dI) vwCl [(h, .inr (9, [.ref tk, .ref tp, .ref tn, .ref tu, .ref tl, .int ln, .int now, .int ft, .int pl, .int nt, .ref tb, .int (nI tt), .ref ts, .ref tf, .ref tz, .ref tx, .ref th, .ref tw])), (tf, .inl (kI, 3020, .inl ff)), (tz, .inl (kI, 3020, .inl fz)), (ts, .inl (kB, 3120, .inl fs)), (src, .inl (kB, sl, .inl g))] tS.heap ∧ va_K (dC, dI) vwCl [(kI, .int), (kB, .byte)] tS ∧ va_D (va_A [(h, .inr (9, [.ref tk, .ref tp, .ref tn, .ref tu, .ref tl, .int ln, .int now, .int ft, .int pl, .int nt, .ref tb, .int (nI tt), .ref ts, .ref tf, .ref tz, .ref tx, .ref th, .ref tw])), (tf, .inl (kI, 3020, .inl ff)), (tz, .inl (kI, 3020, .inl fz)), (ts, .inl (kB, 3120, .inl fs)), (src, .inl (kB, sl, .inl g))] sz) [(h, .inr (9, [.ref tk, .ref tp, .ref tn, .ref tu, .ref tl, .int ln, .int now, .int ft, .int pl, .int nt, .ref tb, .int (nI tt), .ref ts, .ref tf, .ref tz, .ref tx, .ref th, .ref tw])), (tf, .inl (kI, 3020, .inl ff)), (tz, .inl (kI, 3020, .inl fz)), (ts, .inl (kB, 3120, .inl fs)), (src, .inl (kB, sl, .inl g))]) (va_A [(h, .inr (9, [.ref tk, .ref tp, .ref tn, .ref tu, .ref tl, .int ln, .int now, .int ft, .int pl, .int nt, .ref tb, .int (nI tt), .ref ts, .ref tf, .ref tz, .ref tx, .ref th, .ref tw])), (tf, .inl (kI, 3020, .inl ff)), (tz, .inl (kI, 3020, .inl fz)), (ts, .inl (kB, 3120, .inl fs)), (src, .inl (kB, sl, .inl g))] sz)) 0 0 (va_A [(h, .inr (9, [.ref tk, .ref tp, .ref tn, .ref tu, .ref tl, .int ln, .int now, .int ft, .int pl, .int nt, .ref tb, .int (nI tt), .ref ts, .ref tf, .ref tz, .ref tx, .ref th, .ref tw])), (tf, .inl (kI, 3020, .inl ff)), (tz, .inl (kI, 3020, .inl fz)), (ts, .inl (kB, 3120, .inl fs)), (src, .inl (kB, sl, .inl g))] sz) := by
  refine Met.ofW (cc := cX9_isSpelled) (maxL := 6) (ret := (some .boolean)) (by decide) rfl ?_
  intro p e s m args below meth c s₁ B hml hv
  obtain ⟨rfl, hsz, hP, hK, hD0⟩ := hv
  have hx := B.exec
  have hb := B.bytes
  have hr := B.returns
  have hts := atoms_spec (ws := wp_c_spelled) B.pre
  have hown : s.vm.findClass RX9 = some m.cls := findClass_of_methodNamed B.named
  have hlocks := B.notSynchronized
  subst hsz
  have hD := hD0.self (sz := s.heap.size)
  generalize hAe : va_A [(h, .inr (9, [.ref tk, .ref tp, .ref tn, .ref tu, .ref tl, .int ln, .int now, .int ft, .int pl, .int nt, .ref tb, .int (nI tt), .ref ts, .ref tf, .ref tz, .ref tx, .ref th, .ref tw])), (tf, .inl (kI, 3020, .inl ff)), (tz, .inl (kI, 3020, .inl fz)), (ts, .inl (kB, 3120, .inl fs)), (src, .inl (kB, sl, .inl g))] s.heap.size = A at hD ⊢
  have hA : ∀ q : Nat, s.heap.size ≤ q → A q := fun q h => by rw [← hAe]; exact Or.inr h
  have hS : va_S A s.heap s.heap [] := va_S.rf
  have hP : va_P (dC, dI) vwCl [(h, .inr (9, [.ref tk, .ref tp, .ref tn, .ref tu, .ref tl, .int ln, .int now, .int ft, .int pl, .int nt, .ref tb, .int (nI tt), .ref ts, .ref tf, .ref tz, .ref tx, .ref th, .ref tw])), (tf, .inl (kI, 3020, .inl ff)), (tz, .inl (kI, 3020, .inl fz)), (ts, .inl (kB, 3120, .inl fs)), (src, .inl (kB, sl, .inl g))] s.heap := hP
  have hl := lv_entry ([.ref h, .int (nI a), .ref src, .int (nI pf), .int (nI z)]) (n := 6) (Nat.le_of_ble_eq_true rfl)
  rw [lg_entry_eq]
  generalize (lg_sl ([.ref h, .int (nI a), .ref src, .int (nI pf), .int (nI z)]) ++ List.replicate (6 - (lg_sl ([.ref h, .int (nI a), .ref src, .int (nI pf), .int (nI z)])).length) Slot.unset).toArray = ls at hl ⊢
  have hl : lv_has ls 6 [(0, .ref h), (1, .int (nI a)), (2, .ref src), (3, .int (nI pf)), (4, .int (nI z))] := hl
  obtain ⟨a1, b1, hf1, hf2, hf3⟩ := hI a ha
  refine lv_aload_n hx hb dX9_isSpelled_0 rfl (lv_at hl 0 rfl) ?_
  refine va_get (D := (dC, dI)) (ci := 9) (v := .ref tz) (C := RX9) (T := TX9) (N := 18) hx hb hts in_c_spelled_X9 hown hK hP 0 rfl rfl 14 (by decide) (hts (.fieldLink RX9 42 "OwnedPlaces$Text" "nameSize" "[I") (wm_c_spelled 1 rfl)) (fun _ h9 => h9) rfl dX9_isSpelled_1 ?_
  refine lv_iload_n hx hb dX9_isSpelled_4 rfl (lv_at hl 1 rfl) ?_
  refine va_iald hx hb hK hP 2 0 rfl rfl (vp_in_nI ha (by decide)) dX9_isSpelled_5 ?_
  refine lv_topi (fun v_1 ev_1 => ?_)
  obtain rfl : v_1 = nI b1 := ev_1.trans (by rw [nI_clamp (by omega)]; exact hf2)
  refine lv_iload hx hb dX9_isSpelled_6 (lv_at hl 4 rfl) ?_
  refine lv_icmp_eq (tgt := 13) hx hb dX9_isSpelled_8 (by decide) (fun hc => ?_) (fun hc => ?_)
  · obtain rfl : z = b1 := ((nI_eq (by omega) (by omega)).mp hc).symm
    refine lv_iconst (v := 0) hx hb dX9_isSpelled_13 (by decide) ?_
    refine lv_istore (lv' := [(5, .int 0), (0, .ref h), (1, .int (nI a)), (2, .ref src), (3, .int (nI pf)), (4, .int (nI z))]) hx hb dX9_isSpelled_14 hl (by decide) rfl (fun ls hl => ?_)
    refine W_q (fun Q1 hQ1 => ?_)
    have key1 : ∀ (n1 : Nat) (i : Nat) (H : Heap) (locs : List Loc) (ls : Array Slot), (i + n1 = z + 1 ∧ i ≤ z) → va_P (dC, dI) vwCl [(h, .inr (9, [.ref tk, .ref tp, .ref tn, .ref tu, .ref tl, .int ln, .int now, .int ft, .int pl, .int nt, .ref tb, .int (nI tt), .ref ts, .ref tf, .ref tz, .ref tx, .ref th, .ref tw])), (tf, .inl (kI, 3020, .inl ff)), (tz, .inl (kI, 3020, .inl fz)), (ts, .inl (kB, 3120, .inl fs)), (src, .inl (kB, sl, .inl g))] H → va_D A [(h, .inr (9, [.ref tk, .ref tp, .ref tn, .ref tu, .ref tl, .int ln, .int now, .int ft, .int pl, .int nt, .ref tb, .int (nI tt), .ref ts, .ref tf, .ref tz, .ref tx, .ref th, .ref tw])), (tf, .inl (kI, 3020, .inl ff)), (tz, .inl (kI, 3020, .inl fz)), (ts, .inl (kB, 3120, .inl fs)), (src, .inl (kB, sl, .inl g))] → va_S A s.heap H locs → lv_has ls 6 [(5, .int (nI i)), (0, .ref h), (1, .int (nI a)), (2, .ref src), (3, .int (nI pf)), (4, .int (nI z))] → W p l e (headSpec wp_c_spelled ({ frames := 0, cells := 0, slots := 0, locals := 0 })).room s m ([.ref h, .int (nI a), .ref src, .int (nI pf), .int (nI z)] : List Value).toArray below meth c H locs 0 0 Q1 (F0 m 16 ls []) := by
      intro n1
      induction n1 with
      | zero => intro i H locs ls hb0; exact absurd hb0 (by omega)
      | succ n1 ih1 =>
        intro i H locs ls hb0 hP hD hS hl
        refine lv_iload hx hb dX9_isSpelled_16 (lv_at hl 0 rfl) ?_
        refine lv_iload hx hb dX9_isSpelled_18 (lv_at hl 5 rfl) ?_
        refine lv_icmp_ge (tgt := 54) hx hb dX9_isSpelled_20 (by decide) (fun hd => ?_) (fun hd => ?_)
        · refine lv_iconst (v := 1) hx hb dX9_isSpelled_54 (by decide) ?_
          have hP9 := hP.sub (ws' := [(h, .inr (9, [.ref tk, .ref tp, .ref tn, .ref tu, .ref tl, .int ln, .int now, .int ft, .int pl, .int nt, .ref tb, .int (nI tt), .ref ts, .ref tf, .ref tz, .ref tx, .ref th, .ref tw])), (tf, .inl (kI, 3020, .inl ff)), (tz, .inl (kI, 3020, .inl fz)), (ts, .inl (kB, 3120, .inl fs)), (src, .inl (kB, sl, .inl g))]) [0, 1, 2, 3, 4] rfl
          have hD9 := hD.sub (ws' := [(h, .inr (9, [.ref tk, .ref tp, .ref tn, .ref tu, .ref tl, .int ln, .int now, .int ft, .int pl, .int nt, .ref tb, .int (nI tt), .ref ts, .ref tf, .ref tz, .ref tx, .ref th, .ref tw])), (tf, .inl (kI, 3020, .inl ff)), (tz, .inl (kI, 3020, .inl fz)), (ts, .inl (kB, 3120, .inl fs)), (src, .inl (kB, sl, .inl g))]) [0, 1, 2, 3, 4] (by decide) rfl
          have hK9 := hK.sub (tys' := [(kI, .int), (kB, .byte)]) [0, 1] rfl
          subst hQ1
          exact W.zret (v := 1) hx hb hr (by decide) (fun tS ht hW => ⟨⟨1, (), rfl, Or.inr rfl, by rw [ht]; exact hP9, va_K.moved hW.alike hK9, hD9⟩, hS.F ht⟩) hS.2.2 dX9_isSpelled_55
        · have hi : i < z := by rcases Nat.lt_or_ge i z with q | q; exact q; exact absurd (nI_le q (by omega)) hd
          refine lv_aload_n hx hb dX9_isSpelled_23 rfl (lv_at hl 1 rfl) ?_
          refine va_get (D := (dC, dI)) (ci := 9) (v := .ref ts) (C := RX9) (T := TX9) (N := 18) hx hb hts in_c_spelled_X9 hown hK hP 0 rfl rfl 12 (by decide) (hts (.fieldLink RX9 36 "OwnedPlaces$Text" "spelled" "[B") (wm_c_spelled 2 rfl)) (fun _ h9 => h9) rfl dX9_isSpelled_24 ?_
          refine lv_aload_n hx hb dX9_isSpelled_27 rfl (lv_at hl 1 rfl) ?_
          refine va_get (D := (dC, dI)) (ci := 9) (v := .ref tf) (C := RX9) (T := TX9) (N := 18) hx hb hts in_c_spelled_X9 hown hK hP 0 rfl rfl 13 (by decide) (hts (.fieldLink RX9 39 "OwnedPlaces$Text" "nameFrom" "[I") (wm_c_spelled 3 rfl)) (fun _ h9 => h9) rfl dX9_isSpelled_28 ?_
          refine lv_iload_n hx hb dX9_isSpelled_31 rfl (lv_at hl 2 rfl) ?_
          refine va_iald hx hb hK hP 1 0 rfl rfl (vp_in_nI ha (by decide)) dX9_isSpelled_32 ?_
          refine lv_topi (fun v_2 ev_2 => ?_)
          obtain rfl : v_2 = nI a1 := ev_2.trans (by rw [nI_clamp (by omega)]; exact hf1)
          refine lv_iload hx hb dX9_isSpelled_33 (lv_at hl 0 rfl) ?_
          refine lv_iadd hx hb dX9_isSpelled_35 ?_
          refine lv_topi (fun f_3 ef_3 => ?_)
          obtain rfl : f_3 = nI (a1 + i) := ef_3.trans (nI_add _ _)
          refine va_bald hx hb hK hP 3 1 rfl rfl (vp_in_nI (by omega) (by decide)) dX9_isSpelled_36 ?_
          refine lv_topi (fun v_4 ev_4 => ?_)
          refine lv_aload_n hx hb dX9_isSpelled_37 rfl (lv_at hl 3 rfl) ?_
          refine lv_iload_n hx hb dX9_isSpelled_38 rfl (lv_at hl 4 rfl) ?_
          refine lv_iload hx hb dX9_isSpelled_39 (lv_at hl 0 rfl) ?_
          refine lv_iadd hx hb dX9_isSpelled_41 ?_
          refine lv_topi (fun f_5 ef_5 => ?_)
          obtain rfl : f_5 = nI (pf + i) := ef_5.trans (nI_add _ _)
          refine va_bald hx hb hK hP 4 1 rfl rfl (vp_in_nI (by omega) (by omega)) dX9_isSpelled_42 ?_
          refine lv_topi (fun v_6 ev_6 => ?_)
          refine lv_icmp_eq (tgt := 48) hx hb dX9_isSpelled_43 (by decide) (fun he => ?_) (fun he => ?_)
          · obtain ⟨x_7, ex_7⟩ : ∃ yY : Int32, yY = (nI i) + 1 := ⟨_, rfl⟩
            refine lv_iinc (v := x_7) (lv' := [(5, .int x_7), (0, .ref h), (1, .int (nI a)), (2, .ref src), (3, .int (nI pf)), (4, .int (nI z))]) hx hb dX9_isSpelled_48 hl (k := 0) rfl (by rw [ex_7]; rfl) (by decide) rfl (fun ls hl => ?_)
            obtain rfl : x_7 = nI (i + 1) := by rw [ex_7]; exact nI_1 i
            have hl : lv_has ls 6 [(5, .int (nI (i + 1))), (0, .ref h), (1, .int (nI a)), (2, .ref src), (3, .int (nI pf)), (4, .int (nI z))] := hl
            refine lv_goto (tgt := 16) hx hb dX9_isSpelled_51 (by decide) ?_
            exact ih1 (i + 1) _ _ _ (by omega) (hP.sub [0, 1, 2, 3, 4] rfl) (hD.sub [0, 1, 2, 3, 4] (by decide) rfl) hS (lv_sub hl [0, 1, 2, 3, 4, 5] rfl)
          · refine lv_iconst (v := 0) hx hb dX9_isSpelled_46 (by decide) ?_
            have hP9 := hP.sub (ws' := [(h, .inr (9, [.ref tk, .ref tp, .ref tn, .ref tu, .ref tl, .int ln, .int now, .int ft, .int pl, .int nt, .ref tb, .int (nI tt), .ref ts, .ref tf, .ref tz, .ref tx, .ref th, .ref tw])), (tf, .inl (kI, 3020, .inl ff)), (tz, .inl (kI, 3020, .inl fz)), (ts, .inl (kB, 3120, .inl fs)), (src, .inl (kB, sl, .inl g))]) [0, 1, 2, 3, 4] rfl
            have hD9 := hD.sub (ws' := [(h, .inr (9, [.ref tk, .ref tp, .ref tn, .ref tu, .ref tl, .int ln, .int now, .int ft, .int pl, .int nt, .ref tb, .int (nI tt), .ref ts, .ref tf, .ref tz, .ref tx, .ref th, .ref tw])), (tf, .inl (kI, 3020, .inl ff)), (tz, .inl (kI, 3020, .inl fz)), (ts, .inl (kB, 3120, .inl fs)), (src, .inl (kB, sl, .inl g))]) [0, 1, 2, 3, 4] (by decide) rfl
            have hK9 := hK.sub (tys' := [(kI, .int), (kB, .byte)]) [0, 1] rfl
            subst hQ1
            exact W.zret (v := 0) hx hb hr (by decide) (fun tS ht hW => ⟨⟨0, (), rfl, Or.inl rfl, by rw [ht]; exact hP9, va_K.moved hW.alike hK9, hD9⟩, hS.F ht⟩) hS.2.2 dX9_isSpelled_47
    exact key1 (z + 1) 0 _ _ _ (by omega) (hP.sub [0, 1, 2, 3, 4] rfl) (hD.sub [0, 1, 2, 3, 4] (by decide) rfl) hS (lv_sub hl [0, 1, 2, 3, 4, 5] rfl)
  · refine lv_iconst (v := 0) hx hb dX9_isSpelled_11 (by decide) ?_
    have hP9 := hP.sub (ws' := [(h, .inr (9, [.ref tk, .ref tp, .ref tn, .ref tu, .ref tl, .int ln, .int now, .int ft, .int pl, .int nt, .ref tb, .int (nI tt), .ref ts, .ref tf, .ref tz, .ref tx, .ref th, .ref tw])), (tf, .inl (kI, 3020, .inl ff)), (tz, .inl (kI, 3020, .inl fz)), (ts, .inl (kB, 3120, .inl fs)), (src, .inl (kB, sl, .inl g))]) [0, 1, 2, 3, 4] rfl
    have hD9 := hD.sub (ws' := [(h, .inr (9, [.ref tk, .ref tp, .ref tn, .ref tu, .ref tl, .int ln, .int now, .int ft, .int pl, .int nt, .ref tb, .int (nI tt), .ref ts, .ref tf, .ref tz, .ref tx, .ref th, .ref tw])), (tf, .inl (kI, 3020, .inl ff)), (tz, .inl (kI, 3020, .inl fz)), (ts, .inl (kB, 3120, .inl fs)), (src, .inl (kB, sl, .inl g))]) [0, 1, 2, 3, 4] (by decide) rfl
    have hK9 := hK.sub (tys' := [(kI, .int), (kB, .byte)]) [0, 1] rfl
    exact W.zret (v := 0) hx hb hr (by decide) (fun tS ht hW => ⟨⟨0, (), rfl, Or.inl rfl, by rw [ht]; exact hP9, va_K.moved hW.alike hK9, hD9⟩, hS.F ht⟩) hS.2.2 dX9_isSpelled_12
def wf_c_addName : List Cond := [.code yX9_addName cX9_addName 7 (some .int), .fieldLink RX9 89 "OwnedPlaces$Text" "nameTotal" "I", .fieldLink RX9 39 "OwnedPlaces$Text" "nameFrom" "[I", .fieldLink RX9 42 "OwnedPlaces$Text" "nameSize" "[I", .fieldLink RX9 36 "OwnedPlaces$Text" "spelled" "[B", .methodLink RX9 83 arraycopyName, .native arraycopyName, .static arraycopyName, .initialized "java/lang/System", .fieldLink RX9 45 "OwnedPlaces$Text" "nameNext" "[I", .fieldLink RX9 48 "OwnedPlaces$Text" "heads" "[I"]
def wp_c_addName : List Cond := wf_c_addName ++ (wsX90 ++ [])
theorem in_c_addName_X9 : ∀ w ∈ wsX90, w ∈ wp_c_addName := fun w h => List.mem_append_right _ (List.mem_append_left _ h)
theorem wg_c_addName : wf_c_addName.all goodWord = true := by decide +kernel
theorem wm_c_addName (k : Nat) {w : Cond} (h : wp_c_addName[k]? = some w) : w ∈ wp_c_addName := List.mem_of_getElem? h
set_option maxHeartbeats 4000000 in
set_option maxRecDepth 100000 in
theorem c_addName (l : Launch) (dC : Nat → ClassId) (dI : Nat → Nat → Nat) (h tk tp tn tu tl tb ts tf tz tx th tw src : Nat) (kI kB : ClassId) (ln now ft pl : Int32) (tt : Nat) (t j pf z sl F : Nat) (fh fx ff fz fs g : Nat → Int32) (sz : Nat) (hj : j < 256) (ht : t < 3020) (ht0 : 20 ≤ t) (hpz : pf + z ≤ sl) (hsl : sl < 2 ^ 30) (hF : F + z ≤ 3120) (hI : nmI 3120 ff fz) (hcu : nmC t F ff fz) (hh : lkT fh 256 t) (hxx : lkT fx t t) (hg : ∀ j, fits .byte (.int (g j)) = true) : Met l yX9_addName wp_c_addName ({ frames := 1, cells := 0, slots := 0, locals := 64 }) (va_Pc [.ref h, .int (nI j), .ref src, .int (nI pf), .int (nI z)] (fun U => U.heap.size = sz ∧ va_P (dC, dI) vwCl [(h, .inr (9, [.ref tk, .ref tp, .ref tn, .ref tu, .ref tl, .int ln, .int now, .int ft, .int pl, .int (nI t), .ref tb, .int (nI tt), .ref ts, .ref tf, .ref tz, .ref tx, .ref th, .ref tw])), (th, .inl (kI, 256, .inl fh)), (tx, .inl (kI, 3020, .inl fx)), (tf, .inl (kI, 3020, .inl ff)), (tz, .inl (kI, 3020, .inl fz)), (ts, .inl (kB, 3120, .inl fs)), (src, .inl (kB, sl, .inl g))] U.heap ∧ va_K (dC, dI) vwCl [(kI, .int), (kB, .byte)] U ∧ va_D (fun _ => True) [(h, .inr (9, [.ref tk, .ref tp, .ref tn, .ref tu, .ref tl, .int ln, .int now, .int ft, .int pl, .int (nI t), .ref tb, .int (nI tt), .ref ts, .ref tf, .ref tz, .ref tx, .ref th, .ref tw])), (th, .inl (kI, 256, .inl fh)), (tx, .inl (kI, 3020, .inl fx)), (tf, .inl (kI, 3020, .inl ff)), (tz, .inl (kI, 3020, .inl fz)), (ts, .inl (kB, 3120, .inl fs)), (src, .inl (kB, sl, .inl g))])) (va_Qi (fun (r : Int32) (_ : Unit) => r = nI t) (fun (_ : Unit) (tS : State) => ∃ (fh2 : Nat → Int32) (fx2 : Nat → Int32) (ff2 : Nat → Int32) (fz2 : Nat → Int32) (fs2 : Nat → Int32), (lkT fh2 256 (t + 1)) ∧ (lkT fx2 (t + 1) (t + 1)) ∧ (nmI 3120 ff2 fz2) ∧ (nmC (t + 1) (F + z) ff2 fz2) ∧ (nmL ff fz ff2 fz2) ∧ (xL fx fx2) ∧ va_P (dC, dI) vwCl [(h, .inr (9, [.ref tk, .ref tp, .ref tn, .ref tu, .ref tl, .int ln, .int now, .int ft, .int pl, .int (nI (t + 1)), .ref tb, .int (nI tt), .ref ts, .ref tf, .ref tz, .ref tx, .ref th, .ref tw])), (th, .inl (kI, 256, .inl fh2)), (tx, .inl (kI, 3020, .inl fx2)), (tf, .inl (kI, 3020, .inl ff2)), (tz, .inl (kI, 3020, .inl fz2)), (ts, .inl (kB, 3120, .inl fs2)), (src, .inl (kB, sl, .inl g))] tS.heap ∧ va_K (dC, dI) vwCl [(kI, .int), (kB, .byte)] tS ∧ va_D (va_A [(h, .inr (9, [.ref tk, .ref tp, .ref tn, .ref tu, .ref tl, .int ln, .int now, .int ft, .int pl, .int (nI t), .ref tb, .int (nI tt), .ref ts, .ref tf, .ref tz, .ref tx, .ref th, .ref tw])), (th, .inl (kI, 256, .inl fh)), (tx, .inl (kI, 3020, .inl fx)), (tf, .inl (kI, 3020, .inl ff)), (tz, .inl (kI, 3020, .inl fz)), (ts, .inl (kB, 3120, .inl fs)), (src, .inl (kB, sl, .inl g))] sz) [(h, .inr (9, [.ref tk, .ref tp, .ref tn, .ref tu, .ref tl, .int ln, .int now, .int ft, .int pl, .int (nI (t + 1)), .ref tb, .int (nI tt), .ref ts, .ref tf, .ref tz, .ref tx, .ref th, .ref tw])), (th, .inl (kI, 256, .inl fh2)), (tx, .inl (kI, 3020, .inl fx2)), (tf, .inl (kI, 3020, .inl ff2)), (tz, .inl (kI, 3020, .inl fz2)), (ts, .inl (kB, 3120, .inl fs2)), (src, .inl (kB, sl, .inl g))]) (va_A [(h, .inr (9, [.ref tk, .ref tp, .ref tn, .ref tu, .ref tl, .int ln, .int now, .int ft, .int pl, .int (nI t), .ref tb, .int (nI tt), .ref ts, .ref tf, .ref tz, .ref tx, .ref th, .ref tw])), (th, .inl (kI, 256, .inl fh)), (tx, .inl (kI, 3020, .inl fx)), (tf, .inl (kI, 3020, .inl ff)), (tz, .inl (kI, 3020, .inl fz)), (ts, .inl (kB, 3120, .inl fs)), (src, .inl (kB, sl, .inl g))] sz)) 0 0 (va_A [(h, .inr (9, [.ref tk, .ref tp, .ref tn, .ref tu, .ref tl, .int ln, .int now, .int ft, .int pl, .int (nI t), .ref tb, .int (nI tt), .ref ts, .ref tf, .ref tz, .ref tx, .ref th, .ref tw])), (th, .inl (kI, 256, .inl fh)), (tx, .inl (kI, 3020, .inl fx)), (tf, .inl (kI, 3020, .inl ff)), (tz, .inl (kI, 3020, .inl fz)), (ts, .inl (kB, 3120, .inl fs)), (src, .inl (kB, sl, .inl g))] sz) := by
  refine Met.ofW (cc := cX9_addName) (maxL := 7) (ret := (some .int)) (by decide) rfl ?_
  intro p e s m args below meth c s₁ B hml hv
  obtain ⟨rfl, hsz, hP, hK, hD0⟩ := hv
  have hx := B.exec
  have hb := B.bytes
  have hr := B.returns
  have hts := atoms_spec (ws := wp_c_addName) B.pre
  have hown : s.vm.findClass RX9 = some m.cls := findClass_of_methodNamed B.named
  have hlocks := B.notSynchronized
  subst hsz
  have hD := hD0.self (sz := s.heap.size)
  generalize hAe : va_A [(h, .inr (9, [.ref tk, .ref tp, .ref tn, .ref tu, .ref tl, .int ln, .int now, .int ft, .int pl, .int (nI t), .ref tb, .int (nI tt), .ref ts, .ref tf, .ref tz, .ref tx, .ref th, .ref tw])), (th, .inl (kI, 256, .inl fh)), (tx, .inl (kI, 3020, .inl fx)), (tf, .inl (kI, 3020, .inl ff)), (tz, .inl (kI, 3020, .inl fz)), (ts, .inl (kB, 3120, .inl fs)), (src, .inl (kB, sl, .inl g))] s.heap.size = A at hD ⊢
  have hA : ∀ q : Nat, s.heap.size ≤ q → A q := fun q h => by rw [← hAe]; exact Or.inr h
  have hS : va_S A s.heap s.heap [] := va_S.rf
  have hP : va_P (dC, dI) vwCl [(h, .inr (9, [.ref tk, .ref tp, .ref tn, .ref tu, .ref tl, .int ln, .int now, .int ft, .int pl, .int (nI t), .ref tb, .int (nI tt), .ref ts, .ref tf, .ref tz, .ref tx, .ref th, .ref tw])), (th, .inl (kI, 256, .inl fh)), (tx, .inl (kI, 3020, .inl fx)), (tf, .inl (kI, 3020, .inl ff)), (tz, .inl (kI, 3020, .inl fz)), (ts, .inl (kB, 3120, .inl fs)), (src, .inl (kB, sl, .inl g))] s.heap := hP
  have hl := lv_entry ([.ref h, .int (nI j), .ref src, .int (nI pf), .int (nI z)]) (n := 7) (Nat.le_of_ble_eq_true rfl)
  rw [lg_entry_eq]
  generalize (lg_sl ([.ref h, .int (nI j), .ref src, .int (nI pf), .int (nI z)]) ++ List.replicate (7 - (lg_sl ([.ref h, .int (nI j), .ref src, .int (nI pf), .int (nI z)])).length) Slot.unset).toArray = ls at hl ⊢
  have hl : lv_has ls 7 [(0, .ref h), (1, .int (nI j)), (2, .ref src), (3, .int (nI pf)), (4, .int (nI z))] := hl
  refine lv_aload_n hx hb dX9_addName_0 rfl (lv_at hl 0 rfl) ?_
  refine va_get (D := (dC, dI)) (ci := 9) (v := .int (nI t)) (C := RX9) (T := TX9) (N := 18) hx hb hts in_c_addName_X9 hown hK hP 0 rfl rfl 9 (by decide) (hts (.fieldLink RX9 89 "OwnedPlaces$Text" "nameTotal" "I") (wm_c_addName 1 rfl)) (fun _ h9 => h9) rfl dX9_addName_1 ?_
  refine lv_istore (lv' := [(5, .int (nI t)), (0, .ref h), (1, .int (nI j)), (2, .ref src), (3, .int (nI pf)), (4, .int (nI z))]) hx hb dX9_addName_4 hl (by decide) rfl (fun ls hl => ?_)
  refine lv_iload hx hb dX9_addName_6 (lv_at hl 0 rfl) ?_
  refine lv_if_ne (tgt := 15) hx hb dX9_addName_8 (by decide) (fun hc => ?_) (fun hc => ?_)
  · have h0 : 0 < t := by omega
    obtain ⟨a1, b1, hf1, hf2, hf3⟩ := hcu
    refine lv_aload_n hx hb dX9_addName_15 rfl (lv_at hl 1 rfl) ?_
    refine va_get (D := (dC, dI)) (ci := 9) (v := .ref tf) (C := RX9) (T := TX9) (N := 18) hx hb hts in_c_addName_X9 hown hK hP 0 rfl rfl 13 (by decide) (hts (.fieldLink RX9 39 "OwnedPlaces$Text" "nameFrom" "[I") (wm_c_addName 2 rfl)) (fun _ h9 => h9) rfl dX9_addName_16 ?_
    refine lv_iload hx hb dX9_addName_19 (lv_at hl 0 rfl) ?_
    refine lv_iconst (v := 1) hx hb dX9_addName_21 (by decide) ?_
    refine lv_isub hx hb dX9_addName_22 ?_
    refine lv_topi (fun f_1 ef_1 => ?_)
    obtain rfl : f_1 = nI (t - 1) := ef_1.trans (pk_sub (a := t) (b := 1) h0)
    refine va_iald hx hb hK hP 3 0 rfl rfl (vp_in_nI (by omega) (by decide)) dX9_addName_23 ?_
    refine lv_topi (fun v_2 ev_2 => ?_)
    obtain rfl : v_2 = nI a1 := ev_2.trans (by rw [nI_clamp (by omega)]; exact hf1)
    refine lv_aload_n hx hb dX9_addName_24 rfl (lv_at hl 1 rfl) ?_
    refine va_get (D := (dC, dI)) (ci := 9) (v := .ref tz) (C := RX9) (T := TX9) (N := 18) hx hb hts in_c_addName_X9 hown hK hP 0 rfl rfl 14 (by decide) (hts (.fieldLink RX9 42 "OwnedPlaces$Text" "nameSize" "[I") (wm_c_addName 3 rfl)) (fun _ h9 => h9) rfl dX9_addName_25 ?_
    refine lv_iload hx hb dX9_addName_28 (lv_at hl 0 rfl) ?_
    refine lv_iconst (v := 1) hx hb dX9_addName_30 (by decide) ?_
    refine lv_isub hx hb dX9_addName_31 ?_
    refine lv_topi (fun f_3 ef_3 => ?_)
    obtain rfl : f_3 = nI (t - 1) := ef_3.trans (pk_sub (a := t) (b := 1) h0)
    refine va_iald hx hb hK hP 4 0 rfl rfl (vp_in_nI (by omega) (by decide)) dX9_addName_32 ?_
    refine lv_topi (fun v_4 ev_4 => ?_)
    obtain rfl : v_4 = nI b1 := ev_4.trans (by rw [nI_clamp (by omega)]; exact hf2)
    refine lv_iadd hx hb dX9_addName_33 ?_
    refine lv_topi (fun f_5 ef_5 => ?_)
    obtain rfl : f_5 = nI (a1 + b1) := ef_5.trans (nI_add _ _)
    have hst : a1 + b1 ≤ F := hf3
    refine lv_istore (lv' := [(6, .int (nI (a1 + b1))), (5, .int (nI t)), (0, .ref h), (1, .int (nI j)), (2, .ref src), (3, .int (nI pf)), (4, .int (nI z))]) hx hb dX9_addName_34 hl (by decide) rfl (fun ls hl => ?_)
    refine lv_aload_n hx hb dX9_addName_36 rfl (lv_at hl 4 rfl) ?_
    refine lv_iload_n hx hb dX9_addName_37 rfl (lv_at hl 5 rfl) ?_
    refine lv_aload_n hx hb dX9_addName_38 rfl (lv_at hl 2 rfl) ?_
    refine va_get (D := (dC, dI)) (ci := 9) (v := .ref ts) (C := RX9) (T := TX9) (N := 18) hx hb hts in_c_addName_X9 hown hK hP 0 rfl rfl 12 (by decide) (hts (.fieldLink RX9 36 "OwnedPlaces$Text" "spelled" "[B") (wm_c_addName 4 rfl)) (fun _ h9 => h9) rfl dX9_addName_39 ?_
    refine lv_iload hx hb dX9_addName_42 (lv_at hl 0 rfl) ?_
    refine lv_iload hx hb dX9_addName_44 (lv_at hl 6 rfl) ?_
    refine va_copyi (ty := .byte) hx hb (by rw [hml]; exact hl.1.symm) hown (hts (.methodLink RX9 83 arraycopyName) (wm_c_addName 5 rfl)) (hts (.native arraycopyName) (wm_c_addName 6 rfl)) (hts (.static arraycopyName) (wm_c_addName 7 rfl)) (hts (.initialized "java/lang/System") (wm_c_addName 8 rfl)) hK hP hD hS 6 5 1 1 rfl rfl rfl rfl rfl (nI_pos (by omega)) (nI_pos (by omega)) (nI_pos (by omega)) (by rw [nI_clamp (by omega), nI_clamp (by omega)]; omega) (by rw [nI_clamp (by omega), nI_clamp (by omega)]; omega) (fun _ _ => hg _) (Nat.le_of_ble_eq_true rfl) (by decide) dX9_addName_46 (fun H locs hP hD hS => ?_)
    have hP : va_P (dC, dI) vwCl [(h, .inr (9, [.ref tk, .ref tp, .ref tn, .ref tu, .ref tl, .int ln, .int now, .int ft, .int pl, .int (nI t), .ref tb, .int (nI tt), .ref ts, .ref tf, .ref tz, .ref tx, .ref th, .ref tw])), (th, .inl (kI, 256, .inl fh)), (tx, .inl (kI, 3020, .inl fx)), (tf, .inl (kI, 3020, .inl ff)), (tz, .inl (kI, 3020, .inl fz)), (ts, .inl (kB, 3120, .inl (va_cpy g fs (nI pf : Int32).toNatClampNeg (nI (a1 + b1) : Int32).toNatClampNeg (nI z : Int32).toNatClampNeg))), (src, .inl (kB, sl, .inl g))] H := hP
    have hD : va_D A [(h, .inr (9, [.ref tk, .ref tp, .ref tn, .ref tu, .ref tl, .int ln, .int now, .int ft, .int pl, .int (nI t), .ref tb, .int (nI tt), .ref ts, .ref tf, .ref tz, .ref tx, .ref th, .ref tw])), (th, .inl (kI, 256, .inl fh)), (tx, .inl (kI, 3020, .inl fx)), (tf, .inl (kI, 3020, .inl ff)), (tz, .inl (kI, 3020, .inl fz)), (ts, .inl (kB, 3120, .inl (va_cpy g fs (nI pf : Int32).toNatClampNeg (nI (a1 + b1) : Int32).toNatClampNeg (nI z : Int32).toNatClampNeg))), (src, .inl (kB, sl, .inl g))] := hD
    obtain ⟨fs1, efs1⟩ : ∃ zZ : Nat → Int32, zZ = va_cpy g fs (nI pf : Int32).toNatClampNeg (nI (a1 + b1) : Int32).toNatClampNeg (nI z : Int32).toNatClampNeg := ⟨_, rfl⟩
    rw [← efs1] at hP hD
    refine lv_aload_n hx hb dX9_addName_49 rfl (lv_at hl 2 rfl) ?_
    refine va_get (D := (dC, dI)) (ci := 9) (v := .ref tf) (C := RX9) (T := TX9) (N := 18) hx hb hts in_c_addName_X9 hown hK hP 0 rfl rfl 13 (by decide) (hts (.fieldLink RX9 39 "OwnedPlaces$Text" "nameFrom" "[I") (wm_c_addName 2 rfl)) (fun _ h9 => h9) rfl dX9_addName_50 ?_
    refine lv_iload hx hb dX9_addName_53 (lv_at hl 1 rfl) ?_
    refine lv_iload hx hb dX9_addName_55 (lv_at hl 0 rfl) ?_
    refine va_iast hx hb hK hP hD hS 3 0 rfl rfl (vp_in_nI (by omega) (by decide)) dX9_addName_57 (fun H locs hP hD hS => ?_)
    have hP : va_P (dC, dI) vwCl [(h, .inr (9, [.ref tk, .ref tp, .ref tn, .ref tu, .ref tl, .int ln, .int now, .int ft, .int pl, .int (nI t), .ref tb, .int (nI tt), .ref ts, .ref tf, .ref tz, .ref tx, .ref th, .ref tw])), (th, .inl (kI, 256, .inl fh)), (tx, .inl (kI, 3020, .inl fx)), (tf, .inl (kI, 3020, .inl (upd ff (nI t : Int32).toNatClampNeg (nI (a1 + b1))))), (tz, .inl (kI, 3020, .inl fz)), (ts, .inl (kB, 3120, .inl fs1)), (src, .inl (kB, sl, .inl g))] H := hP
    have hD : va_D A [(h, .inr (9, [.ref tk, .ref tp, .ref tn, .ref tu, .ref tl, .int ln, .int now, .int ft, .int pl, .int (nI t), .ref tb, .int (nI tt), .ref ts, .ref tf, .ref tz, .ref tx, .ref th, .ref tw])), (th, .inl (kI, 256, .inl fh)), (tx, .inl (kI, 3020, .inl fx)), (tf, .inl (kI, 3020, .inl (upd ff (nI t : Int32).toNatClampNeg (nI (a1 + b1))))), (tz, .inl (kI, 3020, .inl fz)), (ts, .inl (kB, 3120, .inl fs1)), (src, .inl (kB, sl, .inl g))] := hD
    obtain ⟨ff1, eff1⟩ : ∃ zZ : Nat → Int32, zZ = upd ff (nI t : Int32).toNatClampNeg (nI (a1 + b1)) := ⟨_, rfl⟩
    rw [← eff1] at hP hD
    refine lv_aload_n hx hb dX9_addName_58 rfl (lv_at hl 2 rfl) ?_
    refine va_get (D := (dC, dI)) (ci := 9) (v := .ref tz) (C := RX9) (T := TX9) (N := 18) hx hb hts in_c_addName_X9 hown hK hP 0 rfl rfl 14 (by decide) (hts (.fieldLink RX9 42 "OwnedPlaces$Text" "nameSize" "[I") (wm_c_addName 3 rfl)) (fun _ h9 => h9) rfl dX9_addName_59 ?_
    refine lv_iload hx hb dX9_addName_62 (lv_at hl 1 rfl) ?_
    refine lv_iload hx hb dX9_addName_64 (lv_at hl 6 rfl) ?_
    refine va_iast hx hb hK hP hD hS 4 0 rfl rfl (vp_in_nI (by omega) (by decide)) dX9_addName_66 (fun H locs hP hD hS => ?_)
    have hP : va_P (dC, dI) vwCl [(h, .inr (9, [.ref tk, .ref tp, .ref tn, .ref tu, .ref tl, .int ln, .int now, .int ft, .int pl, .int (nI t), .ref tb, .int (nI tt), .ref ts, .ref tf, .ref tz, .ref tx, .ref th, .ref tw])), (th, .inl (kI, 256, .inl fh)), (tx, .inl (kI, 3020, .inl fx)), (tf, .inl (kI, 3020, .inl ff1)), (tz, .inl (kI, 3020, .inl (upd fz (nI t : Int32).toNatClampNeg (nI z)))), (ts, .inl (kB, 3120, .inl fs1)), (src, .inl (kB, sl, .inl g))] H := hP
    have hD : va_D A [(h, .inr (9, [.ref tk, .ref tp, .ref tn, .ref tu, .ref tl, .int ln, .int now, .int ft, .int pl, .int (nI t), .ref tb, .int (nI tt), .ref ts, .ref tf, .ref tz, .ref tx, .ref th, .ref tw])), (th, .inl (kI, 256, .inl fh)), (tx, .inl (kI, 3020, .inl fx)), (tf, .inl (kI, 3020, .inl ff1)), (tz, .inl (kI, 3020, .inl (upd fz (nI t : Int32).toNatClampNeg (nI z)))), (ts, .inl (kB, 3120, .inl fs1)), (src, .inl (kB, sl, .inl g))] := hD
    obtain ⟨fz1, efz1⟩ : ∃ zZ : Nat → Int32, zZ = upd fz (nI t : Int32).toNatClampNeg (nI z) := ⟨_, rfl⟩
    rw [← efz1] at hP hD
    refine lv_aload_n hx hb dX9_addName_67 rfl (lv_at hl 2 rfl) ?_
    refine va_get (D := (dC, dI)) (ci := 9) (v := .ref tx) (C := RX9) (T := TX9) (N := 18) hx hb hts in_c_addName_X9 hown hK hP 0 rfl rfl 15 (by decide) (hts (.fieldLink RX9 45 "OwnedPlaces$Text" "nameNext" "[I") (wm_c_addName 9 rfl)) (fun _ h9 => h9) rfl dX9_addName_68 ?_
    refine lv_iload hx hb dX9_addName_71 (lv_at hl 1 rfl) ?_
    refine lv_aload_n hx hb dX9_addName_73 rfl (lv_at hl 2 rfl) ?_
    refine va_get (D := (dC, dI)) (ci := 9) (v := .ref th) (C := RX9) (T := TX9) (N := 18) hx hb hts in_c_addName_X9 hown hK hP 0 rfl rfl 16 (by decide) (hts (.fieldLink RX9 48 "OwnedPlaces$Text" "heads" "[I") (wm_c_addName 10 rfl)) (fun _ h9 => h9) rfl dX9_addName_74 ?_
    refine lv_iload_n hx hb dX9_addName_77 rfl (lv_at hl 3 rfl) ?_
    refine va_iald hx hb hK hP 1 0 rfl rfl (vp_in_nI hj (by decide)) dX9_addName_78 ?_
    refine lv_topi (fun v_6 ev_6 => ?_)
    have hv9 : v_6 < 0 ∨ ∃ k : Nat, k < t ∧ v_6 = nI k := by rw [ev_6, nI_clamp (by omega)]; exact hh j hj
    refine va_iast hx hb hK hP hD hS 2 0 rfl rfl (vp_in_nI (by omega) (by decide)) dX9_addName_79 (fun H locs hP hD hS => ?_)
    have hP : va_P (dC, dI) vwCl [(h, .inr (9, [.ref tk, .ref tp, .ref tn, .ref tu, .ref tl, .int ln, .int now, .int ft, .int pl, .int (nI t), .ref tb, .int (nI tt), .ref ts, .ref tf, .ref tz, .ref tx, .ref th, .ref tw])), (th, .inl (kI, 256, .inl fh)), (tx, .inl (kI, 3020, .inl (upd fx (nI t : Int32).toNatClampNeg v_6))), (tf, .inl (kI, 3020, .inl ff1)), (tz, .inl (kI, 3020, .inl fz1)), (ts, .inl (kB, 3120, .inl fs1)), (src, .inl (kB, sl, .inl g))] H := hP
    have hD : va_D A [(h, .inr (9, [.ref tk, .ref tp, .ref tn, .ref tu, .ref tl, .int ln, .int now, .int ft, .int pl, .int (nI t), .ref tb, .int (nI tt), .ref ts, .ref tf, .ref tz, .ref tx, .ref th, .ref tw])), (th, .inl (kI, 256, .inl fh)), (tx, .inl (kI, 3020, .inl (upd fx (nI t : Int32).toNatClampNeg v_6))), (tf, .inl (kI, 3020, .inl ff1)), (tz, .inl (kI, 3020, .inl fz1)), (ts, .inl (kB, 3120, .inl fs1)), (src, .inl (kB, sl, .inl g))] := hD
    obtain ⟨fx1, efx1⟩ : ∃ zZ : Nat → Int32, zZ = upd fx (nI t : Int32).toNatClampNeg v_6 := ⟨_, rfl⟩
    rw [← efx1] at hP hD
    refine lv_aload_n hx hb dX9_addName_80 rfl (lv_at hl 2 rfl) ?_
    refine va_get (D := (dC, dI)) (ci := 9) (v := .ref th) (C := RX9) (T := TX9) (N := 18) hx hb hts in_c_addName_X9 hown hK hP 0 rfl rfl 16 (by decide) (hts (.fieldLink RX9 48 "OwnedPlaces$Text" "heads" "[I") (wm_c_addName 10 rfl)) (fun _ h9 => h9) rfl dX9_addName_81 ?_
    refine lv_iload_n hx hb dX9_addName_84 rfl (lv_at hl 3 rfl) ?_
    refine lv_iload hx hb dX9_addName_85 (lv_at hl 1 rfl) ?_
    refine va_iast hx hb hK hP hD hS 1 0 rfl rfl (vp_in_nI hj (by decide)) dX9_addName_87 (fun H locs hP hD hS => ?_)
    have hP : va_P (dC, dI) vwCl [(h, .inr (9, [.ref tk, .ref tp, .ref tn, .ref tu, .ref tl, .int ln, .int now, .int ft, .int pl, .int (nI t), .ref tb, .int (nI tt), .ref ts, .ref tf, .ref tz, .ref tx, .ref th, .ref tw])), (th, .inl (kI, 256, .inl (upd fh (nI j : Int32).toNatClampNeg (nI t)))), (tx, .inl (kI, 3020, .inl fx1)), (tf, .inl (kI, 3020, .inl ff1)), (tz, .inl (kI, 3020, .inl fz1)), (ts, .inl (kB, 3120, .inl fs1)), (src, .inl (kB, sl, .inl g))] H := hP
    have hD : va_D A [(h, .inr (9, [.ref tk, .ref tp, .ref tn, .ref tu, .ref tl, .int ln, .int now, .int ft, .int pl, .int (nI t), .ref tb, .int (nI tt), .ref ts, .ref tf, .ref tz, .ref tx, .ref th, .ref tw])), (th, .inl (kI, 256, .inl (upd fh (nI j : Int32).toNatClampNeg (nI t)))), (tx, .inl (kI, 3020, .inl fx1)), (tf, .inl (kI, 3020, .inl ff1)), (tz, .inl (kI, 3020, .inl fz1)), (ts, .inl (kB, 3120, .inl fs1)), (src, .inl (kB, sl, .inl g))] := hD
    obtain ⟨fh1, efh1⟩ : ∃ zZ : Nat → Int32, zZ = upd fh (nI j : Int32).toNatClampNeg (nI t) := ⟨_, rfl⟩
    rw [← efh1] at hP hD
    refine lv_aload_n hx hb dX9_addName_88 rfl (lv_at hl 2 rfl) ?_
    refine lv_dup hx hb dX9_addName_89 rfl ?_
    refine va_get (D := (dC, dI)) (ci := 9) (v := .int (nI t)) (C := RX9) (T := TX9) (N := 18) hx hb hts in_c_addName_X9 hown hK hP 0 rfl rfl 9 (by decide) (hts (.fieldLink RX9 89 "OwnedPlaces$Text" "nameTotal" "I") (wm_c_addName 1 rfl)) (fun _ h9 => h9) rfl dX9_addName_90 ?_
    refine lv_iconst (v := 1) hx hb dX9_addName_93 (by decide) ?_
    refine lv_iadd hx hb dX9_addName_94 ?_
    refine lv_topi (fun f_7 ef_7 => ?_)
    obtain rfl : f_7 = nI (t + 1) := ef_7.trans (nI_1 t)
    refine va_put (D := (dC, dI)) (ci := 9) (v := .int (nI (t + 1))) (ty := .int) (C := RX9) (T := TX9) (N := 18) hx hb hts in_c_addName_X9 tyX9 tyX9_ok nmX9 hown hK hP hD hS 0 rfl rfl 9 (by decide) (hts (.fieldLink RX9 89 "OwnedPlaces$Text" "nameTotal" "I") (wm_c_addName 1 rfl)) (fun _ h9 => h9) rfl (by decide +kernel) rfl rfl (Nat.le_of_ble_eq_true rfl) dX9_addName_95 (fun H locs hP hD hS => ?_)
    have hP : va_P (dC, dI) vwCl [(h, .inr (9, [.ref tk, .ref tp, .ref tn, .ref tu, .ref tl, .int ln, .int now, .int ft, .int pl, .int (nI (t + 1)), .ref tb, .int (nI tt), .ref ts, .ref tf, .ref tz, .ref tx, .ref th, .ref tw])), (th, .inl (kI, 256, .inl fh1)), (tx, .inl (kI, 3020, .inl fx1)), (tf, .inl (kI, 3020, .inl ff1)), (tz, .inl (kI, 3020, .inl fz1)), (ts, .inl (kB, 3120, .inl fs1)), (src, .inl (kB, sl, .inl g))] H := hP
    have hD : va_D A [(h, .inr (9, [.ref tk, .ref tp, .ref tn, .ref tu, .ref tl, .int ln, .int now, .int ft, .int pl, .int (nI (t + 1)), .ref tb, .int (nI tt), .ref ts, .ref tf, .ref tz, .ref tx, .ref th, .ref tw])), (th, .inl (kI, 256, .inl fh1)), (tx, .inl (kI, 3020, .inl fx1)), (tf, .inl (kI, 3020, .inl ff1)), (tz, .inl (kI, 3020, .inl fz1)), (ts, .inl (kB, 3120, .inl fs1)), (src, .inl (kB, sl, .inl g))] := hD
    refine lv_iload hx hb dX9_addName_98 (lv_at hl 1 rfl) ?_
    have hP9 := hP.sub (ws' := [(h, .inr (9, [.ref tk, .ref tp, .ref tn, .ref tu, .ref tl, .int ln, .int now, .int ft, .int pl, .int (nI (t + 1)), .ref tb, .int (nI tt), .ref ts, .ref tf, .ref tz, .ref tx, .ref th, .ref tw])), (th, .inl (kI, 256, .inl fh1)), (tx, .inl (kI, 3020, .inl fx1)), (tf, .inl (kI, 3020, .inl ff1)), (tz, .inl (kI, 3020, .inl fz1)), (ts, .inl (kB, 3120, .inl fs1)), (src, .inl (kB, sl, .inl g))]) [0, 1, 2, 3, 4, 5, 6] rfl
    have hD9 := hD.sub (ws' := [(h, .inr (9, [.ref tk, .ref tp, .ref tn, .ref tu, .ref tl, .int ln, .int now, .int ft, .int pl, .int (nI (t + 1)), .ref tb, .int (nI tt), .ref ts, .ref tf, .ref tz, .ref tx, .ref th, .ref tw])), (th, .inl (kI, 256, .inl fh1)), (tx, .inl (kI, 3020, .inl fx1)), (tf, .inl (kI, 3020, .inl ff1)), (tz, .inl (kI, 3020, .inl fz1)), (ts, .inl (kB, 3120, .inl fs1)), (src, .inl (kB, sl, .inl g))]) [0, 1, 2, 3, 4, 5, 6] (by decide) rfl
    have hK9 := hK.sub (tys' := [(kI, .int), (kB, .byte)]) [0, 1] rfl
    exact W.iret (v := nI t) hx hb hr (fun tS ht hW => ⟨⟨(nI t), (), rfl, rfl, fh1, fx1, ff1, fz1, fs1, by rw [efh1]; exact lkT_put (lkT_up hh (by omega)) (Or.inr ⟨t, by omega, rfl⟩), by rw [efx1, nI_clamp (by omega)]; exact lkT_new hxx hv9, by rw [eff1, efz1]; exact nmA_put hI (by omega), by rw [eff1, efz1, nI_clamp (by omega)]; exact nmC_put hst, by rw [eff1, efz1, nI_clamp (by omega)]; exact nmL_put ht0, by rw [efx1, nI_clamp (by omega)]; exact xL_put ht0, by rw [ht]; exact hP9, va_K.moved hW.alike hK9, hD9⟩, hS.F ht⟩) hS.2.2 dX9_addName_100
  · exact absurd ((nI_eq (a := t) (b := 0) (by omega) (by omega)).mp hc) (by omega)
def wf_c_nameOf : List Cond := [.code yX9_nameOf cX9_nameOf 8 (some .int), .fieldLink RX9 48 "OwnedPlaces$Text" "heads" "[I", .code yX9_addName cX9_addName 7 (some .int), .fieldLink RX9 89 "OwnedPlaces$Text" "nameTotal" "I", .fieldLink RX9 39 "OwnedPlaces$Text" "nameFrom" "[I", .fieldLink RX9 42 "OwnedPlaces$Text" "nameSize" "[I", .fieldLink RX9 36 "OwnedPlaces$Text" "spelled" "[B", .methodLink RX9 83 arraycopyName, .native arraycopyName, .static arraycopyName, .initialized "java/lang/System", .fieldLink RX9 45 "OwnedPlaces$Text" "nameNext" "[I", .methodLink RX9 158 yX9_addName, .instanceMethod yX9_addName, .selects RX9 yX9_addName yX9_addName, .initialized RX9, .code yX9_isSpelled cX9_isSpelled 6 (some .boolean), .methodLink RX9 154 yX9_isSpelled, .instanceMethod yX9_isSpelled, .selects RX9 yX9_isSpelled yX9_isSpelled]
def wp_c_nameOf : List Cond := wf_c_nameOf ++ (wsX90 ++ [])
theorem in_c_nameOf_X9 : ∀ w ∈ wsX90, w ∈ wp_c_nameOf := fun w h => List.mem_append_right _ (List.mem_append_left _ h)
theorem wg_c_nameOf : wf_c_nameOf.all goodWord = true := by decide +kernel
theorem wm_c_nameOf (k : Nat) {w : Cond} (h : wp_c_nameOf[k]? = some w) : w ∈ wp_c_nameOf := List.mem_of_getElem? h
set_option maxRecDepth 20000 in
theorem g_c_nameOf_c_addName_101 : GoodIn wp_c_nameOf (wsV RX9 158 RX9 yX9_addName wp_c_addName) := goodIn_app (goodIn_f [.methodLink RX9 158 yX9_addName, .instanceMethod yX9_addName, .selects RX9 yX9_addName yX9_addName, .initialized RX9] [12, 13, 14, 15] rfl (by decide +kernel)) (goodIn_app (goodIn_f (wf_c_addName) [2, 3, 4, 5, 6, 7, 8, 9, 10, 11, 1] rfl wg_c_addName) (goodIn_app (goodIn_sub in_c_nameOf_X9 gd_X9) (goodIn_n)))
set_option maxRecDepth 20000 in
theorem g_c_nameOf_c_spelled_71 : GoodIn wp_c_nameOf (wsV RX9 154 RX9 yX9_isSpelled wp_c_spelled) := goodIn_app (goodIn_f [.methodLink RX9 154 yX9_isSpelled, .instanceMethod yX9_isSpelled, .selects RX9 yX9_isSpelled yX9_isSpelled, .initialized RX9] [17, 18, 19, 15] rfl (by decide +kernel)) (goodIn_app (goodIn_f (wf_c_spelled) [16, 5, 6, 4] rfl wg_c_spelled) (goodIn_app (goodIn_sub in_c_nameOf_X9 gd_X9) (goodIn_n)))
set_option maxHeartbeats 4000000 in
set_option maxRecDepth 100000 in
theorem c_nameOf (l : Launch) (dC : Nat → ClassId) (dI : Nat → Nat → Nat) (h tk tp tn tu tl tb ts tf tz tx th tw src : Nat) (kI kB : ClassId) (ln now ft pl : Int32) (tt : Nat) (t pf z sl F : Nat) (fh fx ff fz fs g : Nat → Int32) (sz : Nat) (ht : t < 3020) (ht0 : 20 ≤ t) (hpz : pf + z ≤ sl) (hsl : sl < 2 ^ 30) (hF : F + z ≤ 3120) (hI : nmI 3120 ff fz) (hcu : nmC t F ff fz) (hh : lkT fh 256 t) (hxx : lkT fx t t) (hg : ∀ j, fits .byte (.int (g j)) = true) : Met l yX9_nameOf wp_c_nameOf ({ frames := 2, cells := 0, slots := 0, locals := 90 }) (va_Pc [.ref h, .ref src, .int (nI pf), .int (nI z)] (fun U => U.heap.size = sz ∧ va_P (dC, dI) vwCl [(h, .inr (9, [.ref tk, .ref tp, .ref tn, .ref tu, .ref tl, .int ln, .int now, .int ft, .int pl, .int (nI t), .ref tb, .int (nI tt), .ref ts, .ref tf, .ref tz, .ref tx, .ref th, .ref tw])), (th, .inl (kI, 256, .inl fh)), (tx, .inl (kI, 3020, .inl fx)), (tf, .inl (kI, 3020, .inl ff)), (tz, .inl (kI, 3020, .inl fz)), (ts, .inl (kB, 3120, .inl fs)), (src, .inl (kB, sl, .inl g))] U.heap ∧ va_K (dC, dI) vwCl [(kI, .int), (kB, .byte)] U ∧ va_D (fun _ => True) [(h, .inr (9, [.ref tk, .ref tp, .ref tn, .ref tu, .ref tl, .int ln, .int now, .int ft, .int pl, .int (nI t), .ref tb, .int (nI tt), .ref ts, .ref tf, .ref tz, .ref tx, .ref th, .ref tw])), (th, .inl (kI, 256, .inl fh)), (tx, .inl (kI, 3020, .inl fx)), (tf, .inl (kI, 3020, .inl ff)), (tz, .inl (kI, 3020, .inl fz)), (ts, .inl (kB, 3120, .inl fs)), (src, .inl (kB, sl, .inl g))])) (va_Qi (fun (r : Int32) (kq : Nat) => r = nI kq) (fun (kq : Nat) (tS : State) => ∃ (fh2 : Nat → Int32) (fx2 : Nat → Int32) (ff2 : Nat → Int32) (fz2 : Nat → Int32) (fs2 : Nat → Int32) (t2 : Nat), (lkT fh2 256 t2) ∧ (lkT fx2 t2 t2) ∧ (nmI 3120 ff2 fz2) ∧ (nmC t2 (F + z) ff2 fz2) ∧ (nmL ff fz ff2 fz2) ∧ (t2 ≤ t + 1) ∧ (t ≤ t2) ∧ (kq < t2) ∧ (xL fx fx2) ∧ va_P (dC, dI) vwCl [(h, .inr (9, [.ref tk, .ref tp, .ref tn, .ref tu, .ref tl, .int ln, .int now, .int ft, .int pl, .int (nI t2), .ref tb, .int (nI tt), .ref ts, .ref tf, .ref tz, .ref tx, .ref th, .ref tw])), (th, .inl (kI, 256, .inl fh2)), (tx, .inl (kI, 3020, .inl fx2)), (tf, .inl (kI, 3020, .inl ff2)), (tz, .inl (kI, 3020, .inl fz2)), (ts, .inl (kB, 3120, .inl fs2)), (src, .inl (kB, sl, .inl g))] tS.heap ∧ va_K (dC, dI) vwCl [(kI, .int), (kB, .byte)] tS ∧ va_D (va_A [(h, .inr (9, [.ref tk, .ref tp, .ref tn, .ref tu, .ref tl, .int ln, .int now, .int ft, .int pl, .int (nI t), .ref tb, .int (nI tt), .ref ts, .ref tf, .ref tz, .ref tx, .ref th, .ref tw])), (th, .inl (kI, 256, .inl fh)), (tx, .inl (kI, 3020, .inl fx)), (tf, .inl (kI, 3020, .inl ff)), (tz, .inl (kI, 3020, .inl fz)), (ts, .inl (kB, 3120, .inl fs)), (src, .inl (kB, sl, .inl g))] sz) [(h, .inr (9, [.ref tk, .ref tp, .ref tn, .ref tu, .ref tl, .int ln, .int now, .int ft, .int pl, .int (nI t2), .ref tb, .int (nI tt), .ref ts, .ref tf, .ref tz, .ref tx, .ref th, .ref tw])), (th, .inl (kI, 256, .inl fh2)), (tx, .inl (kI, 3020, .inl fx2)), (tf, .inl (kI, 3020, .inl ff2)), (tz, .inl (kI, 3020, .inl fz2)), (ts, .inl (kB, 3120, .inl fs2)), (src, .inl (kB, sl, .inl g))]) (va_A [(h, .inr (9, [.ref tk, .ref tp, .ref tn, .ref tu, .ref tl, .int ln, .int now, .int ft, .int pl, .int (nI t), .ref tb, .int (nI tt), .ref ts, .ref tf, .ref tz, .ref tx, .ref th, .ref tw])), (th, .inl (kI, 256, .inl fh)), (tx, .inl (kI, 3020, .inl fx)), (tf, .inl (kI, 3020, .inl ff)), (tz, .inl (kI, 3020, .inl fz)), (ts, .inl (kB, 3120, .inl fs)), (src, .inl (kB, sl, .inl g))] sz)) 0 0 (va_A [(h, .inr (9, [.ref tk, .ref tp, .ref tn, .ref tu, .ref tl, .int ln, .int now, .int ft, .int pl, .int (nI t), .ref tb, .int (nI tt), .ref ts, .ref tf, .ref tz, .ref tx, .ref th, .ref tw])), (th, .inl (kI, 256, .inl fh)), (tx, .inl (kI, 3020, .inl fx)), (tf, .inl (kI, 3020, .inl ff)), (tz, .inl (kI, 3020, .inl fz)), (ts, .inl (kB, 3120, .inl fs)), (src, .inl (kB, sl, .inl g))] sz) := by
  refine Met.ofW (cc := cX9_nameOf) (maxL := 8) (ret := (some .int)) (by decide) rfl ?_
  intro p e s m args below meth c s₁ B hml hv
  obtain ⟨rfl, hsz, hP, hK, hD0⟩ := hv
  have hx := B.exec
  have hb := B.bytes
  have hr := B.returns
  have hts := atoms_spec (ws := wp_c_nameOf) B.pre
  have hown : s.vm.findClass RX9 = some m.cls := findClass_of_methodNamed B.named
  have hlocks := B.notSynchronized
  subst hsz
  have hD := hD0.self (sz := s.heap.size)
  generalize hAe : va_A [(h, .inr (9, [.ref tk, .ref tp, .ref tn, .ref tu, .ref tl, .int ln, .int now, .int ft, .int pl, .int (nI t), .ref tb, .int (nI tt), .ref ts, .ref tf, .ref tz, .ref tx, .ref th, .ref tw])), (th, .inl (kI, 256, .inl fh)), (tx, .inl (kI, 3020, .inl fx)), (tf, .inl (kI, 3020, .inl ff)), (tz, .inl (kI, 3020, .inl fz)), (ts, .inl (kB, 3120, .inl fs)), (src, .inl (kB, sl, .inl g))] s.heap.size = A at hD ⊢
  have hA : ∀ q : Nat, s.heap.size ≤ q → A q := fun q h => by rw [← hAe]; exact Or.inr h
  have hS : va_S A s.heap s.heap [] := va_S.rf
  have hP : va_P (dC, dI) vwCl [(h, .inr (9, [.ref tk, .ref tp, .ref tn, .ref tu, .ref tl, .int ln, .int now, .int ft, .int pl, .int (nI t), .ref tb, .int (nI tt), .ref ts, .ref tf, .ref tz, .ref tx, .ref th, .ref tw])), (th, .inl (kI, 256, .inl fh)), (tx, .inl (kI, 3020, .inl fx)), (tf, .inl (kI, 3020, .inl ff)), (tz, .inl (kI, 3020, .inl fz)), (ts, .inl (kB, 3120, .inl fs)), (src, .inl (kB, sl, .inl g))] s.heap := hP
  have hl := lv_entry ([.ref h, .ref src, .int (nI pf), .int (nI z)]) (n := 8) (Nat.le_of_ble_eq_true rfl)
  rw [lg_entry_eq]
  generalize (lg_sl ([.ref h, .ref src, .int (nI pf), .int (nI z)]) ++ List.replicate (8 - (lg_sl ([.ref h, .ref src, .int (nI pf), .int (nI z)])).length) Slot.unset).toArray = ls at hl ⊢
  have hl : lv_has ls 8 [(0, .ref h), (1, .ref src), (2, .int (nI pf)), (3, .int (nI z))] := hl
  refine lv_iload_n hx hb dX9_nameOf_0 rfl (lv_at hl 3 rfl) ?_
  refine lv_istore (lv' := [(4, .int (nI z)), (0, .ref h), (1, .ref src), (2, .int (nI pf)), (3, .int (nI z))]) hx hb dX9_nameOf_1 hl (by decide) rfl (fun ls hl => ?_)
  refine lv_iload_n hx hb dX9_nameOf_3 rfl (lv_at hl 3 rfl) ?_
  refine lv_istore (lv' := [(5, .int (nI pf)), (4, .int (nI z)), (0, .ref h), (1, .ref src), (2, .int (nI pf)), (3, .int (nI z))]) hx hb dX9_nameOf_4 hl (by decide) rfl (fun ls hl => ?_)
  refine W_q (fun Q1 hQ1 => ?_)
  have key1 : ∀ (n1 : Nat) (i : Nat) (hs : Int32) (H : Heap) (locs : List Loc) (ls : Array Slot), (i + n1 = pf + z + 1 ∧ i ≤ pf + z) → (pf ≤ i) → va_P (dC, dI) vwCl [(h, .inr (9, [.ref tk, .ref tp, .ref tn, .ref tu, .ref tl, .int ln, .int now, .int ft, .int pl, .int (nI t), .ref tb, .int (nI tt), .ref ts, .ref tf, .ref tz, .ref tx, .ref th, .ref tw])), (th, .inl (kI, 256, .inl fh)), (tx, .inl (kI, 3020, .inl fx)), (tf, .inl (kI, 3020, .inl ff)), (tz, .inl (kI, 3020, .inl fz)), (ts, .inl (kB, 3120, .inl fs)), (src, .inl (kB, sl, .inl g))] H → va_D A [(h, .inr (9, [.ref tk, .ref tp, .ref tn, .ref tu, .ref tl, .int ln, .int now, .int ft, .int pl, .int (nI t), .ref tb, .int (nI tt), .ref ts, .ref tf, .ref tz, .ref tx, .ref th, .ref tw])), (th, .inl (kI, 256, .inl fh)), (tx, .inl (kI, 3020, .inl fx)), (tf, .inl (kI, 3020, .inl ff)), (tz, .inl (kI, 3020, .inl fz)), (ts, .inl (kB, 3120, .inl fs)), (src, .inl (kB, sl, .inl g))] → va_S A s.heap H locs → lv_has ls 8 [(5, .int (nI i)), (4, .int hs), (0, .ref h), (1, .ref src), (2, .int (nI pf)), (3, .int (nI z))] → W p l e (headSpec wp_c_nameOf ({ frames := 2, cells := 0, slots := 0, locals := 90 })).room s m ([.ref h, .ref src, .int (nI pf), .int (nI z)] : List Value).toArray below meth c H locs 0 0 Q1 (F0 m 6 ls []) := by
    intro n1
    induction n1 with
    | zero => intro i hs H locs ls hb0 hb1; exact absurd hb0 (by omega)
    | succ n1 ih1 =>
      intro i hs H locs ls hb0 hb1 hP hD hS hl
      refine lv_iload hx hb dX9_nameOf_6 (lv_at hl 0 rfl) ?_
      refine lv_iload_n hx hb dX9_nameOf_8 rfl (lv_at hl 4 rfl) ?_
      refine lv_iload_n hx hb dX9_nameOf_9 rfl (lv_at hl 5 rfl) ?_
      refine lv_iadd hx hb dX9_nameOf_10 ?_
      refine lv_topi (fun f_1 ef_1 => ?_)
      obtain rfl : f_1 = nI (pf + z) := ef_1.trans (nI_add _ _)
      refine lv_icmp_ge (tgt := 32) hx hb dX9_nameOf_11 (by decide) (fun hc => ?_) (fun hc => ?_)
      · refine lv_iload hx hb dX9_nameOf_32 (lv_at hl 1 rfl) ?_
        refine lv_sipush (v := 255) hx hb dX9_nameOf_34 (by decide) ?_
        refine lv_iand hx hb dX9_nameOf_37 ?_
        refine lv_topi (fun f_2 ef_2 => ?_)
        obtain ⟨j, hj, hj2⟩ : ∃ j : Nat, j < 2 ^ 8 ∧ f_2 = nI j := by rw [ef_2]; exact pk_andE _ 8 (by decide)
        obtain rfl : f_2 = nI j := hj2
        have hj : j < 256 := hj
        refine lv_istore (lv' := [(5, .int (nI j)), (4, .int hs), (0, .ref h), (1, .ref src), (2, .int (nI pf)), (3, .int (nI z))]) hx hb dX9_nameOf_38 hl (by decide) rfl (fun ls hl => ?_)
        refine lv_aload_n hx hb dX9_nameOf_40 rfl (lv_at hl 2 rfl) ?_
        refine va_get (D := (dC, dI)) (ci := 9) (v := .ref th) (C := RX9) (T := TX9) (N := 18) hx hb hts in_c_nameOf_X9 hown hK hP 0 rfl rfl 16 (by decide) (hts (.fieldLink RX9 48 "OwnedPlaces$Text" "heads" "[I") (wm_c_nameOf 1 rfl)) (fun _ h9 => h9) rfl dX9_nameOf_41 ?_
        refine lv_iload hx hb dX9_nameOf_44 (lv_at hl 0 rfl) ?_
        refine va_iald hx hb hK hP 1 0 rfl rfl (vp_in_nI hj (by decide)) dX9_nameOf_46 ?_
        refine lv_topi (fun v_3 ev_3 => ?_)
        have hv9 : v_3 < 0 ∨ ∃ k : Nat, k < t ∧ v_3 = nI k := by rw [ev_3, nI_clamp (by omega)]; exact hh j hj
        refine lv_istore (lv' := [(6, .int v_3), (5, .int (nI j)), (4, .int hs), (0, .ref h), (1, .ref src), (2, .int (nI pf)), (3, .int (nI z))]) hx hb dX9_nameOf_47 hl (by decide) rfl (fun ls hl => ?_)
        refine lv_iconst (v := 0) hx hb dX9_nameOf_49 (by decide) ?_
        refine lv_istore (lv' := [(7, .int 0), (6, .int v_3), (5, .int (nI j)), (4, .int hs), (0, .ref h), (1, .ref src), (2, .int (nI pf)), (3, .int (nI z))]) hx hb dX9_nameOf_50 hl (by decide) rfl (fun ls hl => ?_)
        refine W_q (fun Q2 hQ2 => ?_)
        have key2 : ∀ (n2 : Nat) (q : Nat) (na : Int32) (H : Heap) (locs : List Loc) (ls : Array Slot), (q + n2 = 3021 ∧ q ≤ 3020) → (na < 0 ∨ ∃ k : Nat, k < t ∧ na = nI k) → va_P (dC, dI) vwCl [(h, .inr (9, [.ref tk, .ref tp, .ref tn, .ref tu, .ref tl, .int ln, .int now, .int ft, .int pl, .int (nI t), .ref tb, .int (nI tt), .ref ts, .ref tf, .ref tz, .ref tx, .ref th, .ref tw])), (th, .inl (kI, 256, .inl fh)), (tx, .inl (kI, 3020, .inl fx)), (tf, .inl (kI, 3020, .inl ff)), (tz, .inl (kI, 3020, .inl fz)), (ts, .inl (kB, 3120, .inl fs)), (src, .inl (kB, sl, .inl g))] H → va_D A [(h, .inr (9, [.ref tk, .ref tp, .ref tn, .ref tu, .ref tl, .int ln, .int now, .int ft, .int pl, .int (nI t), .ref tb, .int (nI tt), .ref ts, .ref tf, .ref tz, .ref tx, .ref th, .ref tw])), (th, .inl (kI, 256, .inl fh)), (tx, .inl (kI, 3020, .inl fx)), (tf, .inl (kI, 3020, .inl ff)), (tz, .inl (kI, 3020, .inl fz)), (ts, .inl (kB, 3120, .inl fs)), (src, .inl (kB, sl, .inl g))] → va_S A s.heap H locs → lv_has ls 8 [(7, .int (nI q)), (6, .int na), (5, .int (nI j)), (0, .ref h), (1, .ref src), (2, .int (nI pf)), (3, .int (nI z))] → W p l e (headSpec wp_c_nameOf ({ frames := 2, cells := 0, slots := 0, locals := 90 })).room s m ([.ref h, .ref src, .int (nI pf), .int (nI z)] : List Value).toArray below meth c H locs 0 0 Q2 (F0 m 52 ls []) := by
          intro n2
          induction n2 with
          | zero => intro q na H locs ls hc0 hc1; exact absurd hc0 (by omega)
          | succ n2 ih2 =>
            intro q na H locs ls hc0 hc1 hP hD hS hl
            refine lv_iload hx hb dX9_nameOf_52 (lv_at hl 0 rfl) ?_
            refine lv_sipush (v := 3020) hx hb dX9_nameOf_54 (by decide) ?_
            refine lv_icmp_ge (tgt := 95) hx hb dX9_nameOf_57 (by decide) (fun hd => ?_) (fun hd => ?_)
            · refine lv_aload_n hx hb dX9_nameOf_95 rfl (lv_at hl 3 rfl) ?_
              refine lv_iload hx hb dX9_nameOf_96 (lv_at hl 2 rfl) ?_
              refine lv_aload_n hx hb dX9_nameOf_98 rfl (lv_at hl 4 rfl) ?_
              refine lv_iload_n hx hb dX9_nameOf_99 rfl (lv_at hl 5 rfl) ?_
              refine lv_iload_n hx hb dX9_nameOf_100 rfl (lv_at hl 6 rfl) ?_
              have hPc := hP.sub (ws' := [(h, .inr (9, [.ref tk, .ref tp, .ref tn, .ref tu, .ref tl, .int ln, .int now, .int ft, .int pl, .int (nI t), .ref tb, .int (nI tt), .ref ts, .ref tf, .ref tz, .ref tx, .ref th, .ref tw])), (th, .inl (kI, 256, .inl fh)), (tx, .inl (kI, 3020, .inl fx)), (tf, .inl (kI, 3020, .inl ff)), (tz, .inl (kI, 3020, .inl fz)), (ts, .inl (kB, 3120, .inl fs)), (src, .inl (kB, sl, .inl g))]) [0, 1, 2, 3, 4, 5, 6] rfl
              have hDc := hD.sub (ws' := [(h, .inr (9, [.ref tk, .ref tp, .ref tn, .ref tu, .ref tl, .int ln, .int now, .int ft, .int pl, .int (nI t), .ref tb, .int (nI tt), .ref ts, .ref tf, .ref tz, .ref tx, .ref th, .ref tw])), (th, .inl (kI, 256, .inl fh)), (tx, .inl (kI, 3020, .inl fx)), (tf, .inl (kI, 3020, .inl ff)), (tz, .inl (kI, 3020, .inl fz)), (ts, .inl (kB, 3120, .inl fs)), (src, .inl (kB, sl, .inl g))]) [0, 1, 2, 3, 4, 5, 6] (by decide) rfl
              have hKc := hK.sub (tys' := [(kI, .int), (kB, .byte)]) [0, 1] rfl
              have hFc := va_free (wc := [(h, .inr (9, [.ref tk, .ref tp, .ref tn, .ref tu, .ref tl, .int ln, .int now, .int ft, .int pl, .int (nI t), .ref tb, .int (nI tt), .ref ts, .ref tf, .ref tz, .ref tx, .ref th, .ref tw])), (th, .inl (kI, 256, .inl fh)), (tx, .inl (kI, 3020, .inl fx)), (tf, .inl (kI, 3020, .inl ff)), (tz, .inl (kI, 3020, .inl fz)), (ts, .inl (kB, 3120, .inl fs)), (src, .inl (kB, sl, .inl g))]) hD hS hA [0, 1, 2, 3, 4, 5, 6] rfl
              refine va_calli (va_runV (As := [.int (nI j), .ref src, .int (nI pf), .int (nI z)]) (rest := []) ⟨hx, hb, hml, hown, hts⟩ (c_addName l dC dI h tk tp tn tu tl tb ts tf tz tx th tw src kI kB ln now ft pl tt t j pf z sl F fh fx ff fz fs g H.size hj ht ht0 hpz hsl hF hI hcu hh hxx hg) (cwV 4 hts g_c_nameOf_c_addName_101 rfl rfl rfl (by decide +kernel) ⟨Nat.le_of_ble_eq_true rfl, Nat.le_of_ble_eq_true rfl⟩) ⟨fun a U g mk q => by obtain ⟨q0, q1, qP, qK, qD⟩ := q; exact ⟨q0, q1, qP, va_K.moved (u := U) (U := U.calling g mk a) (Vm.Alike.refl U.vm) qK, qD⟩, va_recv hKc hPc (ci := 9) (q0 := 0) rfl rfl, fun U hU hW => ⟨rfl, by rw [hU], by rw [hU]; exact hPc, va_K.moved hW.alike hKc, hDc.weaken (fun _ _ _ _ => trivial)⟩⟩ rfl rfl hl.1 rfl (lv_room (Nat.le_of_ble_eq_true rfl)) dX9_nameOf_101 ⟨(show 0 + 0 ≤ 0 by omega), (show 0 + 0 ≤ 0 by omega)⟩) hS (fun q _ h => hFc q h) hFc (fun r_4 u tS H1 locs ht hvm hw hB hz1 hk1 hS => ?_)
              obtain ⟨gh, gx, gf, gz, gs, hf4_0, hf4_1, hf4_2, hf4_3, hf4_4, hf4_5, hP1, hK1, hD1⟩ := hB
              rw [ht] at hP1
              have hK1 := va_K.moved hvm.symm hK1
              obtain ⟨hP, hD⟩ := va_join (wr := []) (w1 := [(h, .inr (9, [.ref tk, .ref tp, .ref tn, .ref tu, .ref tl, .int ln, .int now, .int ft, .int pl, .int (nI (t + 1)), .ref tb, .int (nI tt), .ref ts, .ref tf, .ref tz, .ref tx, .ref th, .ref tw])), (th, .inl (kI, 256, .inl gh)), (tx, .inl (kI, 3020, .inl gx)), (tf, .inl (kI, 3020, .inl gf)), (tz, .inl (kI, 3020, .inl gz)), (ts, .inl (kB, 3120, .inl gs)), (src, .inl (kB, sl, .inl g))]) hP hD [0, 1, 2, 3, 4, 5, 6] [] rfl rfl (by decide) (by decide) hk1 hFc hP1 hD1
              have hK := hK.app hK1
              generalize H1 = H at hP hS ⊢
              have hP : va_P (dC, dI) vwCl [(h, .inr (9, [.ref tk, .ref tp, .ref tn, .ref tu, .ref tl, .int ln, .int now, .int ft, .int pl, .int (nI (t + 1)), .ref tb, .int (nI tt), .ref ts, .ref tf, .ref tz, .ref tx, .ref th, .ref tw])), (th, .inl (kI, 256, .inl gh)), (tx, .inl (kI, 3020, .inl gx)), (tf, .inl (kI, 3020, .inl gf)), (tz, .inl (kI, 3020, .inl gz)), (ts, .inl (kB, 3120, .inl gs)), (src, .inl (kB, sl, .inl g))] H := hP
              have hD : va_D A [(h, .inr (9, [.ref tk, .ref tp, .ref tn, .ref tu, .ref tl, .int ln, .int now, .int ft, .int pl, .int (nI (t + 1)), .ref tb, .int (nI tt), .ref ts, .ref tf, .ref tz, .ref tx, .ref th, .ref tw])), (th, .inl (kI, 256, .inl gh)), (tx, .inl (kI, 3020, .inl gx)), (tf, .inl (kI, 3020, .inl gf)), (tz, .inl (kI, 3020, .inl gz)), (ts, .inl (kB, 3120, .inl gs)), (src, .inl (kB, sl, .inl g))] := hD
              have hK : va_K (dC, dI) vwCl [(kI, .int), (kB, .byte), (kI, .int), (kB, .byte)] s := hK
              have hK := hK.sub (tys' := [(kI, .int), (kB, .byte)]) [0, 1] rfl
              have hP : va_P (dC, dI) vwCl [(h, .inr (9, [.ref tk, .ref tp, .ref tn, .ref tu, .ref tl, .int ln, .int now, .int ft, .int pl, .int (nI (t + 1)), .ref tb, .int (nI tt), .ref ts, .ref tf, .ref tz, .ref tx, .ref th, .ref tw])), (th, .inl (kI, 256, .inl gh)), (tx, .inl (kI, 3020, .inl gx)), (tf, .inl (kI, 3020, .inl gf)), (tz, .inl (kI, 3020, .inl gz)), (ts, .inl (kB, 3120, .inl gs)), (src, .inl (kB, sl, .inl g))] H := hP
              have hD : va_D A [(h, .inr (9, [.ref tk, .ref tp, .ref tn, .ref tu, .ref tl, .int ln, .int now, .int ft, .int pl, .int (nI (t + 1)), .ref tb, .int (nI tt), .ref ts, .ref tf, .ref tz, .ref tx, .ref th, .ref tw])), (th, .inl (kI, 256, .inl gh)), (tx, .inl (kI, 3020, .inl gx)), (tf, .inl (kI, 3020, .inl gf)), (tz, .inl (kI, 3020, .inl gz)), (ts, .inl (kB, 3120, .inl gs)), (src, .inl (kB, sl, .inl g))] := hD
              have hP9 := hP.sub (ws' := [(h, .inr (9, [.ref tk, .ref tp, .ref tn, .ref tu, .ref tl, .int ln, .int now, .int ft, .int pl, .int (nI (t + 1)), .ref tb, .int (nI tt), .ref ts, .ref tf, .ref tz, .ref tx, .ref th, .ref tw])), (th, .inl (kI, 256, .inl gh)), (tx, .inl (kI, 3020, .inl gx)), (tf, .inl (kI, 3020, .inl gf)), (tz, .inl (kI, 3020, .inl gz)), (ts, .inl (kB, 3120, .inl gs)), (src, .inl (kB, sl, .inl g))]) [0, 1, 2, 3, 4, 5, 6] rfl
              have hD9 := hD.sub (ws' := [(h, .inr (9, [.ref tk, .ref tp, .ref tn, .ref tu, .ref tl, .int ln, .int now, .int ft, .int pl, .int (nI (t + 1)), .ref tb, .int (nI tt), .ref ts, .ref tf, .ref tz, .ref tx, .ref th, .ref tw])), (th, .inl (kI, 256, .inl gh)), (tx, .inl (kI, 3020, .inl gx)), (tf, .inl (kI, 3020, .inl gf)), (tz, .inl (kI, 3020, .inl gz)), (ts, .inl (kB, 3120, .inl gs)), (src, .inl (kB, sl, .inl g))]) [0, 1, 2, 3, 4, 5, 6] (by decide) rfl
              have hK9 := hK.sub (tys' := [(kI, .int), (kB, .byte)]) [0, 1] rfl
              subst hQ2
              subst hQ1
              exact W.iret (v := r_4) hx hb hr (fun tS ht hW => ⟨⟨r_4, t, rfl, hw, gh, gx, gf, gz, gs, t + 1, hf4_0, hf4_1, hf4_2, hf4_3, hf4_4, by omega, by omega, by omega, hf4_5, by rw [ht]; exact hP9, va_K.moved hW.alike hK9, hD9⟩, hS.F ht⟩) hS.2.2 dX9_nameOf_104
            · refine lv_iload hx hb dX9_nameOf_60 (lv_at hl 1 rfl) ?_
              refine lv_if_lt (tgt := 95) hx hb dX9_nameOf_62 (by decide) (fun he => ?_) (fun he => ?_)
              · refine lv_aload_n hx hb dX9_nameOf_95 rfl (lv_at hl 3 rfl) ?_
                refine lv_iload hx hb dX9_nameOf_96 (lv_at hl 2 rfl) ?_
                refine lv_aload_n hx hb dX9_nameOf_98 rfl (lv_at hl 4 rfl) ?_
                refine lv_iload_n hx hb dX9_nameOf_99 rfl (lv_at hl 5 rfl) ?_
                refine lv_iload_n hx hb dX9_nameOf_100 rfl (lv_at hl 6 rfl) ?_
                have hPc := hP.sub (ws' := [(h, .inr (9, [.ref tk, .ref tp, .ref tn, .ref tu, .ref tl, .int ln, .int now, .int ft, .int pl, .int (nI t), .ref tb, .int (nI tt), .ref ts, .ref tf, .ref tz, .ref tx, .ref th, .ref tw])), (th, .inl (kI, 256, .inl fh)), (tx, .inl (kI, 3020, .inl fx)), (tf, .inl (kI, 3020, .inl ff)), (tz, .inl (kI, 3020, .inl fz)), (ts, .inl (kB, 3120, .inl fs)), (src, .inl (kB, sl, .inl g))]) [0, 1, 2, 3, 4, 5, 6] rfl
                have hDc := hD.sub (ws' := [(h, .inr (9, [.ref tk, .ref tp, .ref tn, .ref tu, .ref tl, .int ln, .int now, .int ft, .int pl, .int (nI t), .ref tb, .int (nI tt), .ref ts, .ref tf, .ref tz, .ref tx, .ref th, .ref tw])), (th, .inl (kI, 256, .inl fh)), (tx, .inl (kI, 3020, .inl fx)), (tf, .inl (kI, 3020, .inl ff)), (tz, .inl (kI, 3020, .inl fz)), (ts, .inl (kB, 3120, .inl fs)), (src, .inl (kB, sl, .inl g))]) [0, 1, 2, 3, 4, 5, 6] (by decide) rfl
                have hKc := hK.sub (tys' := [(kI, .int), (kB, .byte)]) [0, 1] rfl
                have hFc := va_free (wc := [(h, .inr (9, [.ref tk, .ref tp, .ref tn, .ref tu, .ref tl, .int ln, .int now, .int ft, .int pl, .int (nI t), .ref tb, .int (nI tt), .ref ts, .ref tf, .ref tz, .ref tx, .ref th, .ref tw])), (th, .inl (kI, 256, .inl fh)), (tx, .inl (kI, 3020, .inl fx)), (tf, .inl (kI, 3020, .inl ff)), (tz, .inl (kI, 3020, .inl fz)), (ts, .inl (kB, 3120, .inl fs)), (src, .inl (kB, sl, .inl g))]) hD hS hA [0, 1, 2, 3, 4, 5, 6] rfl
                refine va_calli (va_runV (As := [.int (nI j), .ref src, .int (nI pf), .int (nI z)]) (rest := []) ⟨hx, hb, hml, hown, hts⟩ (c_addName l dC dI h tk tp tn tu tl tb ts tf tz tx th tw src kI kB ln now ft pl tt t j pf z sl F fh fx ff fz fs g H.size hj ht ht0 hpz hsl hF hI hcu hh hxx hg) (cwV 4 hts g_c_nameOf_c_addName_101 rfl rfl rfl (by decide +kernel) ⟨Nat.le_of_ble_eq_true rfl, Nat.le_of_ble_eq_true rfl⟩) ⟨fun a U g mk q => by obtain ⟨q0, q1, qP, qK, qD⟩ := q; exact ⟨q0, q1, qP, va_K.moved (u := U) (U := U.calling g mk a) (Vm.Alike.refl U.vm) qK, qD⟩, va_recv hKc hPc (ci := 9) (q0 := 0) rfl rfl, fun U hU hW => ⟨rfl, by rw [hU], by rw [hU]; exact hPc, va_K.moved hW.alike hKc, hDc.weaken (fun _ _ _ _ => trivial)⟩⟩ rfl rfl hl.1 rfl (lv_room (Nat.le_of_ble_eq_true rfl)) dX9_nameOf_101 ⟨(show 0 + 0 ≤ 0 by omega), (show 0 + 0 ≤ 0 by omega)⟩) hS (fun q _ h => hFc q h) hFc (fun r_4 u tS H1 locs ht hvm hw hB hz1 hk1 hS => ?_)
                obtain ⟨gh, gx, gf, gz, gs, hf4_0, hf4_1, hf4_2, hf4_3, hf4_4, hf4_5, hP1, hK1, hD1⟩ := hB
                rw [ht] at hP1
                have hK1 := va_K.moved hvm.symm hK1
                obtain ⟨hP, hD⟩ := va_join (wr := []) (w1 := [(h, .inr (9, [.ref tk, .ref tp, .ref tn, .ref tu, .ref tl, .int ln, .int now, .int ft, .int pl, .int (nI (t + 1)), .ref tb, .int (nI tt), .ref ts, .ref tf, .ref tz, .ref tx, .ref th, .ref tw])), (th, .inl (kI, 256, .inl gh)), (tx, .inl (kI, 3020, .inl gx)), (tf, .inl (kI, 3020, .inl gf)), (tz, .inl (kI, 3020, .inl gz)), (ts, .inl (kB, 3120, .inl gs)), (src, .inl (kB, sl, .inl g))]) hP hD [0, 1, 2, 3, 4, 5, 6] [] rfl rfl (by decide) (by decide) hk1 hFc hP1 hD1
                have hK := hK.app hK1
                generalize H1 = H at hP hS ⊢
                have hP : va_P (dC, dI) vwCl [(h, .inr (9, [.ref tk, .ref tp, .ref tn, .ref tu, .ref tl, .int ln, .int now, .int ft, .int pl, .int (nI (t + 1)), .ref tb, .int (nI tt), .ref ts, .ref tf, .ref tz, .ref tx, .ref th, .ref tw])), (th, .inl (kI, 256, .inl gh)), (tx, .inl (kI, 3020, .inl gx)), (tf, .inl (kI, 3020, .inl gf)), (tz, .inl (kI, 3020, .inl gz)), (ts, .inl (kB, 3120, .inl gs)), (src, .inl (kB, sl, .inl g))] H := hP
                have hD : va_D A [(h, .inr (9, [.ref tk, .ref tp, .ref tn, .ref tu, .ref tl, .int ln, .int now, .int ft, .int pl, .int (nI (t + 1)), .ref tb, .int (nI tt), .ref ts, .ref tf, .ref tz, .ref tx, .ref th, .ref tw])), (th, .inl (kI, 256, .inl gh)), (tx, .inl (kI, 3020, .inl gx)), (tf, .inl (kI, 3020, .inl gf)), (tz, .inl (kI, 3020, .inl gz)), (ts, .inl (kB, 3120, .inl gs)), (src, .inl (kB, sl, .inl g))] := hD
                have hK : va_K (dC, dI) vwCl [(kI, .int), (kB, .byte), (kI, .int), (kB, .byte)] s := hK
                have hK := hK.sub (tys' := [(kI, .int), (kB, .byte)]) [0, 1] rfl
                have hP : va_P (dC, dI) vwCl [(h, .inr (9, [.ref tk, .ref tp, .ref tn, .ref tu, .ref tl, .int ln, .int now, .int ft, .int pl, .int (nI (t + 1)), .ref tb, .int (nI tt), .ref ts, .ref tf, .ref tz, .ref tx, .ref th, .ref tw])), (th, .inl (kI, 256, .inl gh)), (tx, .inl (kI, 3020, .inl gx)), (tf, .inl (kI, 3020, .inl gf)), (tz, .inl (kI, 3020, .inl gz)), (ts, .inl (kB, 3120, .inl gs)), (src, .inl (kB, sl, .inl g))] H := hP
                have hD : va_D A [(h, .inr (9, [.ref tk, .ref tp, .ref tn, .ref tu, .ref tl, .int ln, .int now, .int ft, .int pl, .int (nI (t + 1)), .ref tb, .int (nI tt), .ref ts, .ref tf, .ref tz, .ref tx, .ref th, .ref tw])), (th, .inl (kI, 256, .inl gh)), (tx, .inl (kI, 3020, .inl gx)), (tf, .inl (kI, 3020, .inl gf)), (tz, .inl (kI, 3020, .inl gz)), (ts, .inl (kB, 3120, .inl gs)), (src, .inl (kB, sl, .inl g))] := hD
                have hP9 := hP.sub (ws' := [(h, .inr (9, [.ref tk, .ref tp, .ref tn, .ref tu, .ref tl, .int ln, .int now, .int ft, .int pl, .int (nI (t + 1)), .ref tb, .int (nI tt), .ref ts, .ref tf, .ref tz, .ref tx, .ref th, .ref tw])), (th, .inl (kI, 256, .inl gh)), (tx, .inl (kI, 3020, .inl gx)), (tf, .inl (kI, 3020, .inl gf)), (tz, .inl (kI, 3020, .inl gz)), (ts, .inl (kB, 3120, .inl gs)), (src, .inl (kB, sl, .inl g))]) [0, 1, 2, 3, 4, 5, 6] rfl
                have hD9 := hD.sub (ws' := [(h, .inr (9, [.ref tk, .ref tp, .ref tn, .ref tu, .ref tl, .int ln, .int now, .int ft, .int pl, .int (nI (t + 1)), .ref tb, .int (nI tt), .ref ts, .ref tf, .ref tz, .ref tx, .ref th, .ref tw])), (th, .inl (kI, 256, .inl gh)), (tx, .inl (kI, 3020, .inl gx)), (tf, .inl (kI, 3020, .inl gf)), (tz, .inl (kI, 3020, .inl gz)), (ts, .inl (kB, 3120, .inl gs)), (src, .inl (kB, sl, .inl g))]) [0, 1, 2, 3, 4, 5, 6] (by decide) rfl
                have hK9 := hK.sub (tys' := [(kI, .int), (kB, .byte)]) [0, 1] rfl
                subst hQ2
                subst hQ1
                exact W.iret (v := r_4) hx hb hr (fun tS ht hW => ⟨⟨r_4, t, rfl, hw, gh, gx, gf, gz, gs, t + 1, hf4_0, hf4_1, hf4_2, hf4_3, hf4_4, by omega, by omega, by omega, hf4_5, by rw [ht]; exact hP9, va_K.moved hW.alike hK9, hD9⟩, hS.F ht⟩) hS.2.2 dX9_nameOf_104
              · obtain ⟨k, hkt, rfl⟩ : ∃ k : Nat, k < t ∧ na = nI k := hc1.elim (fun q9 => absurd q9 he) id
                have hk : k < 3020 := by omega
                refine lv_aload_n hx hb dX9_nameOf_65 rfl (lv_at hl 3 rfl) ?_
                refine lv_iload hx hb dX9_nameOf_66 (lv_at hl 1 rfl) ?_
                refine lv_aload_n hx hb dX9_nameOf_68 rfl (lv_at hl 4 rfl) ?_
                refine lv_iload_n hx hb dX9_nameOf_69 rfl (lv_at hl 5 rfl) ?_
                refine lv_iload_n hx hb dX9_nameOf_70 rfl (lv_at hl 6 rfl) ?_
                have hPc := hP.sub (ws' := [(h, .inr (9, [.ref tk, .ref tp, .ref tn, .ref tu, .ref tl, .int ln, .int now, .int ft, .int pl, .int (nI t), .ref tb, .int (nI tt), .ref ts, .ref tf, .ref tz, .ref tx, .ref th, .ref tw])), (tf, .inl (kI, 3020, .inl ff)), (tz, .inl (kI, 3020, .inl fz)), (ts, .inl (kB, 3120, .inl fs)), (src, .inl (kB, sl, .inl g))]) [0, 3, 4, 5, 6] rfl
                have hDc := hD.sub (ws' := [(h, .inr (9, [.ref tk, .ref tp, .ref tn, .ref tu, .ref tl, .int ln, .int now, .int ft, .int pl, .int (nI t), .ref tb, .int (nI tt), .ref ts, .ref tf, .ref tz, .ref tx, .ref th, .ref tw])), (tf, .inl (kI, 3020, .inl ff)), (tz, .inl (kI, 3020, .inl fz)), (ts, .inl (kB, 3120, .inl fs)), (src, .inl (kB, sl, .inl g))]) [0, 3, 4, 5, 6] (by decide) rfl
                have hKc := hK.sub (tys' := [(kI, .int), (kB, .byte)]) [0, 1] rfl
                have hFc := va_free (wc := [(h, .inr (9, [.ref tk, .ref tp, .ref tn, .ref tu, .ref tl, .int ln, .int now, .int ft, .int pl, .int (nI t), .ref tb, .int (nI tt), .ref ts, .ref tf, .ref tz, .ref tx, .ref th, .ref tw])), (tf, .inl (kI, 3020, .inl ff)), (tz, .inl (kI, 3020, .inl fz)), (ts, .inl (kB, 3120, .inl fs)), (src, .inl (kB, sl, .inl g))]) hD hS hA [0, 3, 4, 5, 6] rfl
                refine va_calli (va_runV (As := [.int (nI k), .ref src, .int (nI pf), .int (nI z)]) (rest := []) ⟨hx, hb, hml, hown, hts⟩ (c_spelled l dC dI h tk tp tn tu tl tb ts tf tz tx th tw src kI kB ln now ft pl tt (nI t) k pf z sl ff fz fs g H.size hk hpz hsl hI) (cwV 4 hts g_c_nameOf_c_spelled_71 rfl rfl rfl (by decide +kernel) ⟨Nat.le_of_ble_eq_true rfl, Nat.le_of_ble_eq_true rfl⟩) ⟨fun a U g mk q => by obtain ⟨q0, q1, qP, qK, qD⟩ := q; exact ⟨q0, q1, qP, va_K.moved (u := U) (U := U.calling g mk a) (Vm.Alike.refl U.vm) qK, qD⟩, va_recv hKc hPc (ci := 9) (q0 := 0) rfl rfl, fun U hU hW => ⟨rfl, by rw [hU], by rw [hU]; exact hPc, va_K.moved hW.alike hKc, hDc.weaken (fun _ _ _ _ => trivial)⟩⟩ rfl rfl hl.1 rfl (lv_room (Nat.le_of_ble_eq_true rfl)) dX9_nameOf_71 ⟨(show 0 + 0 ≤ 0 by omega), (show 0 + 0 ≤ 0 by omega)⟩) hS (fun q _ h => hFc q h) hFc (fun r_4 u tS H1 locs ht hvm hw hB hz1 hk1 hS => ?_)
                obtain ⟨hP1, hK1, hD1⟩ := hB
                rw [ht] at hP1
                have hK1 := va_K.moved hvm.symm hK1
                obtain ⟨hP, hD⟩ := va_join (wr := [(th, .inl (kI, 256, .inl fh)), (tx, .inl (kI, 3020, .inl fx))]) (w1 := [(h, .inr (9, [.ref tk, .ref tp, .ref tn, .ref tu, .ref tl, .int ln, .int now, .int ft, .int pl, .int (nI t), .ref tb, .int (nI tt), .ref ts, .ref tf, .ref tz, .ref tx, .ref th, .ref tw])), (tf, .inl (kI, 3020, .inl ff)), (tz, .inl (kI, 3020, .inl fz)), (ts, .inl (kB, 3120, .inl fs)), (src, .inl (kB, sl, .inl g))]) hP hD [0, 3, 4, 5, 6] [1, 2] rfl rfl (by decide) (by decide) hk1 hFc hP1 hD1
                have hK := hK.app hK1
                generalize H1 = H at hP hS ⊢
                have hP : va_P (dC, dI) vwCl [(th, .inl (kI, 256, .inl fh)), (tx, .inl (kI, 3020, .inl fx)), (h, .inr (9, [.ref tk, .ref tp, .ref tn, .ref tu, .ref tl, .int ln, .int now, .int ft, .int pl, .int (nI t), .ref tb, .int (nI tt), .ref ts, .ref tf, .ref tz, .ref tx, .ref th, .ref tw])), (tf, .inl (kI, 3020, .inl ff)), (tz, .inl (kI, 3020, .inl fz)), (ts, .inl (kB, 3120, .inl fs)), (src, .inl (kB, sl, .inl g))] H := hP
                have hD : va_D A [(th, .inl (kI, 256, .inl fh)), (tx, .inl (kI, 3020, .inl fx)), (h, .inr (9, [.ref tk, .ref tp, .ref tn, .ref tu, .ref tl, .int ln, .int now, .int ft, .int pl, .int (nI t), .ref tb, .int (nI tt), .ref ts, .ref tf, .ref tz, .ref tx, .ref th, .ref tw])), (tf, .inl (kI, 3020, .inl ff)), (tz, .inl (kI, 3020, .inl fz)), (ts, .inl (kB, 3120, .inl fs)), (src, .inl (kB, sl, .inl g))] := hD
                have hK : va_K (dC, dI) vwCl [(kI, .int), (kB, .byte), (kI, .int), (kB, .byte)] s := hK
                have hK := hK.sub (tys' := [(kI, .int), (kB, .byte)]) [0, 1] rfl
                have hP : va_P (dC, dI) vwCl [(th, .inl (kI, 256, .inl fh)), (tx, .inl (kI, 3020, .inl fx)), (h, .inr (9, [.ref tk, .ref tp, .ref tn, .ref tu, .ref tl, .int ln, .int now, .int ft, .int pl, .int (nI t), .ref tb, .int (nI tt), .ref ts, .ref tf, .ref tz, .ref tx, .ref th, .ref tw])), (tf, .inl (kI, 3020, .inl ff)), (tz, .inl (kI, 3020, .inl fz)), (ts, .inl (kB, 3120, .inl fs)), (src, .inl (kB, sl, .inl g))] H := hP
                have hD : va_D A [(th, .inl (kI, 256, .inl fh)), (tx, .inl (kI, 3020, .inl fx)), (h, .inr (9, [.ref tk, .ref tp, .ref tn, .ref tu, .ref tl, .int ln, .int now, .int ft, .int pl, .int (nI t), .ref tb, .int (nI tt), .ref ts, .ref tf, .ref tz, .ref tx, .ref th, .ref tw])), (tf, .inl (kI, 3020, .inl ff)), (tz, .inl (kI, 3020, .inl fz)), (ts, .inl (kB, 3120, .inl fs)), (src, .inl (kB, sl, .inl g))] := hD
                refine lv_if_eq (tgt := 80) hx hb dX9_nameOf_74 (by decide) (fun hg9 => ?_) (fun hg9 => ?_)
                · refine lv_aload_n hx hb dX9_nameOf_80 rfl (lv_at hl 3 rfl) ?_
                  refine va_get (D := (dC, dI)) (ci := 9) (v := .ref tx) (C := RX9) (T := TX9) (N := 18) hx hb hts in_c_nameOf_X9 hown hK hP 2 rfl rfl 15 (by decide) (hts (.fieldLink RX9 45 "OwnedPlaces$Text" "nameNext" "[I") (wm_c_nameOf 11 rfl)) (fun _ h9 => h9) rfl dX9_nameOf_81 ?_
                  refine lv_iload hx hb dX9_nameOf_84 (lv_at hl 1 rfl) ?_
                  refine va_iald hx hb hK hP 1 0 rfl rfl (vp_in_nI hk (by decide)) dX9_nameOf_86 ?_
                  refine lv_topi (fun v_5 ev_5 => ?_)
                  have hv8 : v_5 < 0 ∨ ∃ k : Nat, k < t ∧ v_5 = nI k := by rw [ev_5, nI_clamp (by omega)]; exact hxx k hkt
                  refine lv_istore (lv' := [(6, .int v_5), (7, .int (nI q)), (5, .int (nI j)), (0, .ref h), (1, .ref src), (2, .int (nI pf)), (3, .int (nI z))]) hx hb dX9_nameOf_87 hl (by decide) rfl (fun ls hl => ?_)
                  have hq : q < 3020 := by rcases Nat.lt_or_ge q 3020 with q9 | q9; exact q9; exact absurd (nI_le q9 (by omega)) hd
                  obtain ⟨x_6, ex_6⟩ : ∃ yY : Int32, yY = (nI q) + 1 := ⟨_, rfl⟩
                  refine lv_iinc (v := x_6) (lv' := [(7, .int x_6), (6, .int v_5), (5, .int (nI j)), (0, .ref h), (1, .ref src), (2, .int (nI pf)), (3, .int (nI z))]) hx hb dX9_nameOf_89 hl (k := 1) rfl (by rw [ex_6]; rfl) (by decide) rfl (fun ls hl => ?_)
                  obtain rfl : x_6 = nI (q + 1) := by rw [ex_6]; exact nI_1 q
                  have hl : lv_has ls 8 [(7, .int (nI (q + 1))), (6, .int v_5), (5, .int (nI j)), (0, .ref h), (1, .ref src), (2, .int (nI pf)), (3, .int (nI z))] := hl
                  refine lv_goto (tgt := 52) hx hb dX9_nameOf_92 (by decide) ?_
                  exact ih2 (q + 1) v_5 _ _ _ (by omega) hv8 (hP.sub [2, 0, 1, 3, 4, 5, 6] rfl) (hD.sub [2, 0, 1, 3, 4, 5, 6] (by decide) rfl) hS (lv_sub hl [0, 1, 2, 3, 4, 5, 6] rfl)
                · refine lv_iload hx hb dX9_nameOf_77 (lv_at hl 1 rfl) ?_
                  have hP9 := hP.sub (ws' := [(h, .inr (9, [.ref tk, .ref tp, .ref tn, .ref tu, .ref tl, .int ln, .int now, .int ft, .int pl, .int (nI t), .ref tb, .int (nI tt), .ref ts, .ref tf, .ref tz, .ref tx, .ref th, .ref tw])), (th, .inl (kI, 256, .inl fh)), (tx, .inl (kI, 3020, .inl fx)), (tf, .inl (kI, 3020, .inl ff)), (tz, .inl (kI, 3020, .inl fz)), (ts, .inl (kB, 3120, .inl fs)), (src, .inl (kB, sl, .inl g))]) [2, 0, 1, 3, 4, 5, 6] rfl
                  have hD9 := hD.sub (ws' := [(h, .inr (9, [.ref tk, .ref tp, .ref tn, .ref tu, .ref tl, .int ln, .int now, .int ft, .int pl, .int (nI t), .ref tb, .int (nI tt), .ref ts, .ref tf, .ref tz, .ref tx, .ref th, .ref tw])), (th, .inl (kI, 256, .inl fh)), (tx, .inl (kI, 3020, .inl fx)), (tf, .inl (kI, 3020, .inl ff)), (tz, .inl (kI, 3020, .inl fz)), (ts, .inl (kB, 3120, .inl fs)), (src, .inl (kB, sl, .inl g))]) [2, 0, 1, 3, 4, 5, 6] (by decide) rfl
                  have hK9 := hK.sub (tys' := [(kI, .int), (kB, .byte)]) [0, 1] rfl
                  subst hQ2
                  subst hQ1
                  exact W.iret (v := nI k) hx hb hr (fun tS ht hW => ⟨⟨(nI k), k, rfl, rfl, fh, fx, ff, fz, fs, t, hh, hxx, hI, nmC_up hcu (by omega), nmL_rf, by omega, by omega, hkt, xL_rf, by rw [ht]; exact hP9, va_K.moved hW.alike hK9, hD9⟩, hS.F ht⟩) hS.2.2 dX9_nameOf_79
        exact key2 3021 0 v_3 _ _ _ (by omega) hv9 (hP.sub [0, 1, 2, 3, 4, 5, 6] rfl) (hD.sub [0, 1, 2, 3, 4, 5, 6] (by decide) rfl) hS (lv_sub hl [0, 1, 2, 4, 5, 6, 7] rfl)
      · have hi : i < pf + z := by rcases Nat.lt_or_ge i (pf + z) with q | q; exact q; exact absurd (nI_le q (by omega)) hc
        refine lv_iload hx hb dX9_nameOf_14 (lv_at hl 1 rfl) ?_
        refine lv_bipush (v := 31) hx hb dX9_nameOf_16 (by decide) ?_
        refine lv_imul hx hb dX9_nameOf_18 ?_
        refine lv_topi (fun f_2 ef_2 => ?_)
        refine lv_aload_n hx hb dX9_nameOf_19 rfl (lv_at hl 3 rfl) ?_
        refine lv_iload hx hb dX9_nameOf_20 (lv_at hl 0 rfl) ?_
        refine va_bald hx hb hK hP 6 1 rfl rfl (vp_in_nI (by omega) (by omega)) dX9_nameOf_22 ?_
        refine lv_topi (fun v_3 ev_3 => ?_)
        refine lv_iadd hx hb dX9_nameOf_23 ?_
        refine lv_topi (fun f_4 ef_4 => ?_)
        refine lv_istore (lv' := [(4, .int f_4), (5, .int (nI i)), (0, .ref h), (1, .ref src), (2, .int (nI pf)), (3, .int (nI z))]) hx hb dX9_nameOf_24 hl (by decide) rfl (fun ls hl => ?_)
        obtain ⟨x_5, ex_5⟩ : ∃ yY : Int32, yY = (nI i) + 1 := ⟨_, rfl⟩
        refine lv_iinc (v := x_5) (lv' := [(5, .int x_5), (4, .int f_4), (0, .ref h), (1, .ref src), (2, .int (nI pf)), (3, .int (nI z))]) hx hb dX9_nameOf_26 hl (k := 1) rfl (by rw [ex_5]; rfl) (by decide) rfl (fun ls hl => ?_)
        obtain rfl : x_5 = nI (i + 1) := by rw [ex_5]; exact nI_1 i
        have hl : lv_has ls 8 [(5, .int (nI (i + 1))), (4, .int f_4), (0, .ref h), (1, .ref src), (2, .int (nI pf)), (3, .int (nI z))] := hl
        refine lv_goto (tgt := 6) hx hb dX9_nameOf_29 (by decide) ?_
        exact ih1 (i + 1) f_4 _ _ _ (by omega) (by omega) (hP.sub [0, 1, 2, 3, 4, 5, 6] rfl) (hD.sub [0, 1, 2, 3, 4, 5, 6] (by decide) rfl) hS (lv_sub hl [0, 1, 2, 3, 4, 5] rfl)
  exact key1 (z + 1) pf (nI z) _ _ _ (by omega) (Nat.le_refl _) (hP.sub [0, 1, 2, 3, 4, 5, 6] rfl) (hD.sub [0, 1, 2, 3, 4, 5, 6] (by decide) rfl) hS (lv_sub hl [0, 1, 2, 3, 4, 5] rfl)
