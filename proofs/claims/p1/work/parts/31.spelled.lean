def wf_c_spelled : List Cond := [.code yX9_isSpelled cX9_isSpelled 6 (some .boolean), .fieldLink RX9 42 "OwnedPlaces$Text" "nameSize" "[I", .fieldLink RX9 36 "OwnedPlaces$Text" "spelled" "[B", .fieldLink RX9 39 "OwnedPlaces$Text" "nameFrom" "[I"]
def wp_c_spelled : List Cond := wf_c_spelled ++ (wsX90 ++ [])
theorem in_c_spelled_X9 : ∀ w ∈ wsX90, w ∈ wp_c_spelled := fun w h => List.mem_append_right _ (List.mem_append_left _ h)
theorem wg_c_spelled : wf_c_spelled.all goodWord = true := by decide +kernel
theorem wm_c_spelled (k : Nat) {w : Cond} (h : wp_c_spelled[k]? = some w) : w ∈ wp_c_spelled := List.mem_of_getElem? h
set_option maxHeartbeats 4000000 in
set_option maxRecDepth 100000 in
theorem c_spelled (l : Launch) (dC : Nat → ClassId) (dI : Nat → Nat → Nat) (h tk tp tn tu tl tb ts tf tz tx th src : Nat) (kI kB : ClassId) (nt : Int32) (a pf z sl F : Nat) (ff fz fs g : Nat → Int32) (sz : Nat) (ha : a < 3020) (hpz : pf + z ≤ sl) (hsl : sl < 2 ^ 30) (hF : F ≤ 3120) (hI : nmI F ff fz) : Met l yX9_isSpelled wp_c_spelled ({ frames := 0, cells := 0, slots := 0, locals := 0 }) (va_Pc [.ref h, .int (nI a), .ref src, .int (nI pf), .int (nI z)] (fun U => U.heap.size = sz ∧ va_P (dC, dI) vwCl [(h, .inr (9, [.ref tk, .ref tp, .ref tn, .ref tu, .ref tl, .int 0, .int 0, .int 0, .int (-1), .int nt, .ref tb, .int 0, .ref ts, .ref tf, .ref tz, .ref tx, .ref th, .null])), (tf, .inl (kI, 3020, .inl ff)), (tz, .inl (kI, 3020, .inl fz)), (ts, .inl (kB, 3120, .inl fs)), (src, .inl (kB, sl, .inl g))] U.heap ∧ va_K (dC, dI) vwCl [(kI, .int), (kB, .byte)] U ∧ va_D (fun _ => True) [(h, .inr (9, [.ref tk, .ref tp, .ref tn, .ref tu, .ref tl, .int 0, .int 0, .int 0, .int (-1), .int nt, .ref tb, .int 0, .ref ts, .ref tf, .ref tz, .ref tx, .ref th, .null])), (tf, .inl (kI, 3020, .inl ff)), (tz, .inl (kI, 3020, .inl fz)), (ts, .inl (kB, 3120, .inl fs)), (src, .inl (kB, sl, .inl g))])) (va_Qi (fun (r : Int32) (_ : Unit) => r = 0 ∨ r = 1) (fun (_ : Unit) (tS : State) => va_P (dC, dI) vwCl [(h, .inr (9, [.ref tk, .ref tp, .ref tn, .ref tu, .ref tl, .int 0, .int 0, .int 0, .int (-1), .int nt, .ref tb, .int 0, .ref ts, .ref tf, .ref tz, .ref tx, .ref th, .null])), (tf, .inl (kI, 3020, .inl ff)), (tz, .inl (kI, 3020, .inl fz)), (ts, .inl (kB, 3120, .inl fs)), (src, .inl (kB, sl, .inl g))] tS.heap ∧ va_K (dC, dI) vwCl [(kI, .int), (kB, .byte)] tS ∧ va_D (va_A [(h, .inr (9, [.ref tk, .ref tp, .ref tn, .ref tu, .ref tl, .int 0, .int 0, .int 0, .int (-1), .int nt, .ref tb, .int 0, .ref ts, .ref tf, .ref tz, .ref tx, .ref th, .null])), (tf, .inl (kI, 3020, .inl ff)), (tz, .inl (kI, 3020, .inl fz)), (ts, .inl (kB, 3120, .inl fs)), (src, .inl (kB, sl, .inl g))] sz) [(h, .inr (9, [.ref tk, .ref tp, .ref tn, .ref tu, .ref tl, .int 0, .int 0, .int 0, .int (-1), .int nt, .ref tb, .int 0, .ref ts, .ref tf, .ref tz, .ref tx, .ref th, .null])), (tf, .inl (kI, 3020, .inl ff)), (tz, .inl (kI, 3020, .inl fz)), (ts, .inl (kB, 3120, .inl fs)), (src, .inl (kB, sl, .inl g))]) (va_A [(h, .inr (9, [.ref tk, .ref tp, .ref tn, .ref tu, .ref tl, .int 0, .int 0, .int 0, .int (-1), .int nt, .ref tb, .int 0, .ref ts, .ref tf, .ref tz, .ref tx, .ref th, .null])), (tf, .inl (kI, 3020, .inl ff)), (tz, .inl (kI, 3020, .inl fz)), (ts, .inl (kB, 3120, .inl fs)), (src, .inl (kB, sl, .inl g))] sz)) 0 0 (va_A [(h, .inr (9, [.ref tk, .ref tp, .ref tn, .ref tu, .ref tl, .int 0, .int 0, .int 0, .int (-1), .int nt, .ref tb, .int 0, .ref ts, .ref tf, .ref tz, .ref tx, .ref th, .null])), (tf, .inl (kI, 3020, .inl ff)), (tz, .inl (kI, 3020, .inl fz)), (ts, .inl (kB, 3120, .inl fs)), (src, .inl (kB, sl, .inl g))] sz) := by
  refine Met.ofW (cc := cX9_isSpelled) (maxL := 6) (ret := (some .boolean)) (by decide) rfl ?_
  intro p e s m args below meth c s₁ B hml hv
  obtain ⟨rfl, hsz, hP, hK, hD0⟩ := hv
  have hx := B.exec
  have hb := B.bytes
  have hr := B.returns
  have hts := atoms_spec (ws := wp_c_spelled) B.pre
  have hown : s.vm.findClass RX9 = some m.cls := findClass_of_methodNamed B.named
  have hlocks := B.notSynchronized
  subst hsz
  have hD := hD0.self (sz := s.heap.size)
  generalize hAe : va_A [(h, .inr (9, [.ref tk, .ref tp, .ref tn, .ref tu, .ref tl, .int 0, .int 0, .int 0, .int (-1), .int nt, .ref tb, .int 0, .ref ts, .ref tf, .ref tz, .ref tx, .ref th, .null])), (tf, .inl (kI, 3020, .inl ff)), (tz, .inl (kI, 3020, .inl fz)), (ts, .inl (kB, 3120, .inl fs)), (src, .inl (kB, sl, .inl g))] s.heap.size = A at hD ⊢
  have hA : ∀ q : Nat, s.heap.size ≤ q → A q := fun q h => by rw [← hAe]; exact Or.inr h
  have hS : va_S A s.heap s.heap [] := va_S.rf
  have hP : va_P (dC, dI) vwCl [(h, .inr (9, [.ref tk, .ref tp, .ref tn, .ref tu, .ref tl, .int 0, .int 0, .int 0, .int (-1), .int nt, .ref tb, .int 0, .ref ts, .ref tf, .ref tz, .ref tx, .ref th, .null])), (tf, .inl (kI, 3020, .inl ff)), (tz, .inl (kI, 3020, .inl fz)), (ts, .inl (kB, 3120, .inl fs)), (src, .inl (kB, sl, .inl g))] s.heap := hP
  have hl := lv_entry ([.ref h, .int (nI a), .ref src, .int (nI pf), .int (nI z)]) (n := 6) (Nat.le_of_ble_eq_true rfl)
  rw [lg_entry_eq]
  generalize (lg_sl ([.ref h, .int (nI a), .ref src, .int (nI pf), .int (nI z)]) ++ List.replicate (6 - (lg_sl ([.ref h, .int (nI a), .ref src, .int (nI pf), .int (nI z)])).length) Slot.unset).toArray = ls at hl ⊢
  have hl : lv_has ls 6 [(0, .ref h), (1, .int (nI a)), (2, .ref src), (3, .int (nI pf)), (4, .int (nI z))] := hl
  obtain ⟨a1, b1, hf1, hf2, hf3⟩ := hI a ha
  refine lv_aload_n hx hb dX9_isSpelled_0 rfl (lv_at hl 0 rfl) ?_
  refine va_get (D := (dC, dI)) (ci := 9) (v := .ref tz) (C := RX9) (T := TX9) (N := 18) hx hb hts in_c_spelled_X9 hown hK hP 0 rfl rfl 14 (by decide) (hts (.fieldLink RX9 42 "OwnedPlaces$Text" "nameSize" "[I") (wm_c_spelled 1 rfl)) (fun _ h9 => h9) rfl dX9_isSpelled_1 ?_
  refine lv_iload_n hx hb dX9_isSpelled_4 rfl (lv_at hl 1 rfl) ?_
  refine va_iald hx hb hK hP 2 0 rfl rfl (vp_in_nI ha (by decide)) dX9_isSpelled_5 ?_
  refine lv_topi (fun v_1 ev_1 => ?_)
  obtain rfl : v_1 = nI b1 := ev_1.trans (by rw [nI_clamp (by omega)]; exact hf2)
  refine lv_iload hx hb dX9_isSpelled_6 (lv_at hl 4 rfl) ?_
  refine lv_icmp_eq (tgt := 13) hx hb dX9_isSpelled_8 (by decide) (fun hc => ?_) (fun hc => ?_)
  · obtain rfl : z = b1 := ((nI_eq (by omega) (by omega)).mp hc).symm
    refine lv_iconst (v := 0) hx hb dX9_isSpelled_13 (by decide) ?_
    refine lv_istore (lv' := [(5, .int 0), (0, .ref h), (1, .int (nI a)), (2, .ref src), (3, .int (nI pf)), (4, .int (nI z))]) hx hb dX9_isSpelled_14 hl (by decide) rfl (fun ls hl => ?_)
    refine W_q (fun Q1 hQ1 => ?_)
    have key1 : ∀ (n1 : Nat) (i : Nat) (H : Heap) (locs : List Loc) (ls : Array Slot), (i + n1 = z + 1 ∧ i ≤ z) → va_P (dC, dI) vwCl [(h, .inr (9, [.ref tk, .ref tp, .ref tn, .ref tu, .ref tl, .int 0, .int 0, .int 0, .int (-1), .int nt, .ref tb, .int 0, .ref ts, .ref tf, .ref tz, .ref tx, .ref th, .null])), (tf, .inl (kI, 3020, .inl ff)), (tz, .inl (kI, 3020, .inl fz)), (ts, .inl (kB, 3120, .inl fs)), (src, .inl (kB, sl, .inl g))] H → va_D A [(h, .inr (9, [.ref tk, .ref tp, .ref tn, .ref tu, .ref tl, .int 0, .int 0, .int 0, .int (-1), .int nt, .ref tb, .int 0, .ref ts, .ref tf, .ref tz, .ref tx, .ref th, .null])), (tf, .inl (kI, 3020, .inl ff)), (tz, .inl (kI, 3020, .inl fz)), (ts, .inl (kB, 3120, .inl fs)), (src, .inl (kB, sl, .inl g))] → va_S A s.heap H locs → lv_has ls 6 [(5, .int (nI i)), (0, .ref h), (1, .int (nI a)), (2, .ref src), (3, .int (nI pf)), (4, .int (nI z))] → W p l e (headSpec wp_c_spelled ({ frames := 0, cells := 0, slots := 0, locals := 0 })).room s m ([.ref h, .int (nI a), .ref src, .int (nI pf), .int (nI z)] : List Value).toArray below meth c H locs 0 0 Q1 (F0 m 16 ls []) := by
      intro n1
      induction n1 with
      | zero => intro i H locs ls hb0; exact absurd hb0 (by omega)
      | succ n1 ih1 =>
        intro i H locs ls hb0 hP hD hS hl
        refine lv_iload hx hb dX9_isSpelled_16 (lv_at hl 0 rfl) ?_
        refine lv_iload hx hb dX9_isSpelled_18 (lv_at hl 5 rfl) ?_
        refine lv_icmp_ge (tgt := 54) hx hb dX9_isSpelled_20 (by decide) (fun hd => ?_) (fun hd => ?_)
        · refine lv_iconst (v := 1) hx hb dX9_isSpelled_54 (by decide) ?_
          have hP9 := hP.sub (ws' := [(h, .inr (9, [.ref tk, .ref tp, .ref tn, .ref tu, .ref tl, .int 0, .int 0, .int 0, .int (-1), .int nt, .ref tb, .int 0, .ref ts, .ref tf, .ref tz, .ref tx, .ref th, .null])), (tf, .inl (kI, 3020, .inl ff)), (tz, .inl (kI, 3020, .inl fz)), (ts, .inl (kB, 3120, .inl fs)), (src, .inl (kB, sl, .inl g))]) [0, 1, 2, 3, 4] rfl
          have hD9 := hD.sub (ws' := [(h, .inr (9, [.ref tk, .ref tp, .ref tn, .ref tu, .ref tl, .int 0, .int 0, .int 0, .int (-1), .int nt, .ref tb, .int 0, .ref ts, .ref tf, .ref tz, .ref tx, .ref th, .null])), (tf, .inl (kI, 3020, .inl ff)), (tz, .inl (kI, 3020, .inl fz)), (ts, .inl (kB, 3120, .inl fs)), (src, .inl (kB, sl, .inl g))]) [0, 1, 2, 3, 4] (by decide) rfl
          have hK9 := hK.sub (tys' := [(kI, .int), (kB, .byte)]) [0, 1] rfl
          subst hQ1
          exact W.zret (v := 1) hx hb hr (by decide) (fun tS ht hW => ⟨⟨1, (), rfl, Or.inr rfl, by rw [ht]; exact hP9, va_K.moved hW.alike hK9, hD9⟩, hS.F ht⟩) hS.2.2 dX9_isSpelled_55
        · have hi : i < z := by rcases Nat.lt_or_ge i z with q | q; exact q; exact absurd (nI_le q (by omega)) hd
          refine lv_aload_n hx hb dX9_isSpelled_23 rfl (lv_at hl 1 rfl) ?_
          refine va_get (D := (dC, dI)) (ci := 9) (v := .ref ts) (C := RX9) (T := TX9) (N := 18) hx hb hts in_c_spelled_X9 hown hK hP 0 rfl rfl 12 (by decide) (hts (.fieldLink RX9 36 "OwnedPlaces$Text" "spelled" "[B") (wm_c_spelled 2 rfl)) (fun _ h9 => h9) rfl dX9_isSpelled_24 ?_
          refine lv_aload_n hx hb dX9_isSpelled_27 rfl (lv_at hl 1 rfl) ?_
          refine va_get (D := (dC, dI)) (ci := 9) (v := .ref tf) (C := RX9) (T := TX9) (N := 18) hx hb hts in_c_spelled_X9 hown hK hP 0 rfl rfl 13 (by decide) (hts (.fieldLink RX9 39 "OwnedPlaces$Text" "nameFrom" "[I") (wm_c_spelled 3 rfl)) (fun _ h9 => h9) rfl dX9_isSpelled_28 ?_
          refine lv_iload_n hx hb dX9_isSpelled_31 rfl (lv_at hl 2 rfl) ?_
          refine va_iald hx hb hK hP 1 0 rfl rfl (vp_in_nI ha (by decide)) dX9_isSpelled_32 ?_
          refine lv_topi (fun v_2 ev_2 => ?_)
          obtain rfl : v_2 = nI a1 := ev_2.trans (by rw [nI_clamp (by omega)]; exact hf1)
          refine lv_iload hx hb dX9_isSpelled_33 (lv_at hl 0 rfl) ?_
          refine lv_iadd hx hb dX9_isSpelled_35 ?_
          refine lv_topi (fun f_3 ef_3 => ?_)
          obtain rfl : f_3 = nI (a1 + i) := ef_3.trans (nI_add _ _)
          refine va_bald hx hb hK hP 3 1 rfl rfl (vp_in_nI (by omega) (by decide)) dX9_isSpelled_36 ?_
          refine lv_topi (fun v_4 ev_4 => ?_)
          refine lv_aload_n hx hb dX9_isSpelled_37 rfl (lv_at hl 3 rfl) ?_
          refine lv_iload_n hx hb dX9_isSpelled_38 rfl (lv_at hl 4 rfl) ?_
          refine lv_iload hx hb dX9_isSpelled_39 (lv_at hl 0 rfl) ?_
          refine lv_iadd hx hb dX9_isSpelled_41 ?_
          refine lv_topi (fun f_5 ef_5 => ?_)
          obtain rfl : f_5 = nI (pf + i) := ef_5.trans (nI_add _ _)
          refine va_bald hx hb hK hP 4 1 rfl rfl (vp_in_nI (by omega) (by omega)) dX9_isSpelled_42 ?_
          refine lv_topi (fun v_6 ev_6 => ?_)
          refine lv_icmp_eq (tgt := 48) hx hb dX9_isSpelled_43 (by decide) (fun he => ?_) (fun he => ?_)
          · obtain ⟨x_7, ex_7⟩ : ∃ yY : Int32, yY = (nI i) + 1 := ⟨_, rfl⟩
            refine lv_iinc (v := x_7) (lv' := [(5, .int x_7), (0, .ref h), (1, .int (nI a)), (2, .ref src), (3, .int (nI pf)), (4, .int (nI z))]) hx hb dX9_isSpelled_48 hl (k := 0) rfl (by rw [ex_7]; rfl) (by decide) rfl (fun ls hl => ?_)
            obtain rfl : x_7 = nI (i + 1) := by rw [ex_7]; exact nI_1 i
            have hl : lv_has ls 6 [(5, .int (nI (i + 1))), (0, .ref h), (1, .int (nI a)), (2, .ref src), (3, .int (nI pf)), (4, .int (nI z))] := hl
            refine lv_goto (tgt := 16) hx hb dX9_isSpelled_51 (by decide) ?_
            exact ih1 (i + 1) _ _ _ (by omega) (hP.sub [0, 1, 2, 3, 4] rfl) (hD.sub [0, 1, 2, 3, 4] (by decide) rfl) hS (lv_sub hl [0, 1, 2, 3, 4, 5] rfl)
          · refine lv_iconst (v := 0) hx hb dX9_isSpelled_46 (by decide) ?_
            have hP9 := hP.sub (ws' := [(h, .inr (9, [.ref tk, .ref tp, .ref tn, .ref tu, .ref tl, .int 0, .int 0, .int 0, .int (-1), .int nt, .ref tb, .int 0, .ref ts, .ref tf, .ref tz, .ref tx, .ref th, .null])), (tf, .inl (kI, 3020, .inl ff)), (tz, .inl (kI, 3020, .inl fz)), (ts, .inl (kB, 3120, .inl fs)), (src, .inl (kB, sl, .inl g))]) [0, 1, 2, 3, 4] rfl
            have hD9 := hD.sub (ws' := [(h, .inr (9, [.ref tk, .ref tp, .ref tn, .ref tu, .ref tl, .int 0, .int 0, .int 0, .int (-1), .int nt, .ref tb, .int 0, .ref ts, .ref tf, .ref tz, .ref tx, .ref th, .null])), (tf, .inl (kI, 3020, .inl ff)), (tz, .inl (kI, 3020, .inl fz)), (ts, .inl (kB, 3120, .inl fs)), (src, .inl (kB, sl, .inl g))]) [0, 1, 2, 3, 4] (by decide) rfl
            have hK9 := hK.sub (tys' := [(kI, .int), (kB, .byte)]) [0, 1] rfl
            subst hQ1
            exact W.zret (v := 0) hx hb hr (by decide) (fun tS ht hW => ⟨⟨0, (), rfl, Or.inl rfl, by rw [ht]; exact hP9, va_K.moved hW.alike hK9, hD9⟩, hS.F ht⟩) hS.2.2 dX9_isSpelled_47
    exact key1 (z + 1) 0 _ _ _ (by omega) (hP.sub [0, 1, 2, 3, 4] rfl) (hD.sub [0, 1, 2, 3, 4] (by decide) rfl) hS (lv_sub hl [0, 1, 2, 3, 4, 5] rfl)
  · refine lv_iconst (v := 0) hx hb dX9_isSpelled_11 (by decide) ?_
    have hP9 := hP.sub (ws' := [(h, .inr (9, [.ref tk, .ref tp, .ref tn, .ref tu, .ref tl, .int 0, .int 0, .int 0, .int (-1), .int nt, .ref tb, .int 0, .ref ts, .ref tf, .ref tz, .ref tx, .ref th, .null])), (tf, .inl (kI, 3020, .inl ff)), (tz, .inl (kI, 3020, .inl fz)), (ts, .inl (kB, 3120, .inl fs)), (src, .inl (kB, sl, .inl g))]) [0, 1, 2, 3, 4] rfl
    have hD9 := hD.sub (ws' := [(h, .inr (9, [.ref tk, .ref tp, .ref tn, .ref tu, .ref tl, .int 0, .int 0, .int 0, .int (-1), .int nt, .ref tb, .int 0, .ref ts, .ref tf, .ref tz, .ref tx, .ref th, .null])), (tf, .inl (kI, 3020, .inl ff)), (tz, .inl (kI, 3020, .inl fz)), (ts, .inl (kB, 3120, .inl fs)), (src, .inl (kB, sl, .inl g))]) [0, 1, 2, 3, 4] (by decide) rfl
    have hK9 := hK.sub (tys' := [(kI, .int), (kB, .byte)]) [0, 1] rfl
    exact W.zret (v := 0) hx hb hr (by decide) (fun tS ht hW => ⟨⟨0, (), rfl, Or.inl rfl, by rw [ht]; exact hP9, va_K.moved hW.alike hK9, hD9⟩, hS.F ht⟩) hS.2.2 dX9_isSpelled_12
