def wf_c_wordEnd : List Cond := [.code yX9_wordEnd cX9_wordEnd 4 (some .int), .fieldLink RX9 32 "OwnedPlaces$Text" "bytes" "[B", .code yX9_isLetter cX9_isLetter 1 (some .boolean), .methodLink RX9 121 yX9_isLetter, .static yX9_isLetter, .initialized RX9, .code yX9_isDigit cX9_isDigit 1 (some .boolean), .methodLink RX9 128 yX9_isDigit, .static yX9_isDigit]
def wp_c_wordEnd : List Cond := wf_c_wordEnd ++ (wsX90 ++ [])
theorem in_c_wordEnd_X9 : ∀ w ∈ wsX90, w ∈ wp_c_wordEnd := fun w h => List.mem_append_right _ (List.mem_append_left _ h)
theorem wg_c_wordEnd : wf_c_wordEnd.all goodWord = true := by decide +kernel
theorem wm_c_wordEnd (k : Nat) {w : Cond} (h : wp_c_wordEnd[k]? = some w) : w ∈ wp_c_wordEnd := List.mem_of_getElem? h
set_option maxRecDepth 20000 in
theorem g_c_wordEnd_c_letter_13 : GoodIn wp_c_wordEnd (va_wsS RX9 121 yX9_isLetter wp_c_letter) := goodIn_app (goodIn_f [.methodLink RX9 121 yX9_isLetter, .static yX9_isLetter, .initialized RX9] [3, 4, 5] rfl (by decide +kernel)) (goodIn_app (goodIn_f (wf_c_letter) [2] rfl wg_c_letter) (goodIn_n))
set_option maxRecDepth 20000 in
theorem g_c_wordEnd_c_digit_25 : GoodIn wp_c_wordEnd (va_wsS RX9 128 yX9_isDigit wp_c_digit) := goodIn_app (goodIn_f [.methodLink RX9 128 yX9_isDigit, .static yX9_isDigit, .initialized RX9] [7, 8, 5] rfl (by decide +kernel)) (goodIn_app (goodIn_f (wf_c_digit) [6] rfl wg_c_digit) (goodIn_n))
set_option maxHeartbeats 4000000 in
set_option maxRecDepth 100000 in
theorem c_wordEnd (l : Launch) (dC : Nat → ClassId) (dI : Nat → Nat → Nat) (h tk tp tn tu tl tb ts tf tz tx th tw : Nat) (ln ft pl nt : Int32) (now : Int32) (tt i0 en : Nat) (kB : ClassId) (fb : Nat → Int32) (sz : Nat) (hi0 : i0 ≤ en) (hen : en ≤ 3000) : Met l yX9_wordEnd wp_c_wordEnd ({ frames := 1, cells := 0, slots := 0, locals := 20 }) (va_Pc [.ref h, .int (nI i0), .int (nI en)] (fun U => U.heap.size = sz ∧ va_P (dC, dI) vwCl [(h, .inr (9, [.ref tk, .ref tp, .ref tn, .ref tu, .ref tl, .int ln, .int now, .int ft, .int pl, .int nt, .ref tb, .int (nI tt), .ref ts, .ref tf, .ref tz, .ref tx, .ref th, .ref tw])), (tb, .inl (kB, 3000, .inl fb))] U.heap ∧ va_K (dC, dI) vwCl [(kB, .byte)] U ∧ va_D (fun _ => True) [(h, .inr (9, [.ref tk, .ref tp, .ref tn, .ref tu, .ref tl, .int ln, .int now, .int ft, .int pl, .int nt, .ref tb, .int (nI tt), .ref ts, .ref tf, .ref tz, .ref tx, .ref th, .ref tw])), (tb, .inl (kB, 3000, .inl fb))])) (va_Qi (fun (r : Int32) (_ : Unit) => ∃ e1 : Nat, r = nI e1 ∧ i0 ≤ e1 ∧ e1 ≤ en) (fun (_ : Unit) (tS : State) => va_P (dC, dI) vwCl [(h, .inr (9, [.ref tk, .ref tp, .ref tn, .ref tu, .ref tl, .int ln, .int now, .int ft, .int pl, .int nt, .ref tb, .int (nI tt), .ref ts, .ref tf, .ref tz, .ref tx, .ref th, .ref tw])), (tb, .inl (kB, 3000, .inl fb))] tS.heap ∧ va_K (dC, dI) vwCl [(kB, .byte)] tS ∧ va_D (va_A [(h, .inr (9, [.ref tk, .ref tp, .ref tn, .ref tu, .ref tl, .int ln, .int now, .int ft, .int pl, .int nt, .ref tb, .int (nI tt), .ref ts, .ref tf, .ref tz, .ref tx, .ref th, .ref tw])), (tb, .inl (kB, 3000, .inl fb))] sz) [(h, .inr (9, [.ref tk, .ref tp, .ref tn, .ref tu, .ref tl, .int ln, .int now, .int ft, .int pl, .int nt, .ref tb, .int (nI tt), .ref ts, .ref tf, .ref tz, .ref tx, .ref th, .ref tw])), (tb, .inl (kB, 3000, .inl fb))]) (va_A [(h, .inr (9, [.ref tk, .ref tp, .ref tn, .ref tu, .ref tl, .int ln, .int now, .int ft, .int pl, .int nt, .ref tb, .int (nI tt), .ref ts, .ref tf, .ref tz, .ref tx, .ref th, .ref tw])), (tb, .inl (kB, 3000, .inl fb))] sz)) 0 0 (va_A [(h, .inr (9, [.ref tk, .ref tp, .ref tn, .ref tu, .ref tl, .int ln, .int now, .int ft, .int pl, .int nt, .ref tb, .int (nI tt), .ref ts, .ref tf, .ref tz, .ref tx, .ref th, .ref tw])), (tb, .inl (kB, 3000, .inl fb))] sz) := by
  refine Met.ofW (cc := cX9_wordEnd) (maxL := 4) (ret := (some .int)) (by decide) rfl ?_
  intro p e s m args below meth c s₁ B hml hv
  obtain ⟨rfl, hsz, hP, hK, hD0⟩ := hv
  have hx := B.exec
  have hb := B.bytes
  have hr := B.returns
  have hts := atoms_spec (ws := wp_c_wordEnd) B.pre
  have hown : s.vm.findClass RX9 = some m.cls := findClass_of_methodNamed B.named
  have hlocks := B.notSynchronized
  subst hsz
  have hD := hD0.self (sz := s.heap.size)
  generalize hAe : va_A [(h, .inr (9, [.ref tk, .ref tp, .ref tn, .ref tu, .ref tl, .int ln, .int now, .int ft, .int pl, .int nt, .ref tb, .int (nI tt), .ref ts, .ref tf, .ref tz, .ref tx, .ref th, .ref tw])), (tb, .inl (kB, 3000, .inl fb))] s.heap.size = A at hD ⊢
  have hA : ∀ q : Nat, s.heap.size ≤ q → A q := fun q h => by rw [← hAe]; exact Or.inr h
  have hS : va_S A s.heap s.heap [] := va_S.rf
  have hP : va_P (dC, dI) vwCl [(h, .inr (9, [.ref tk, .ref tp, .ref tn, .ref tu, .ref tl, .int ln, .int now, .int ft, .int pl, .int nt, .ref tb, .int (nI tt), .ref ts, .ref tf, .ref tz, .ref tx, .ref th, .ref tw])), (tb, .inl (kB, 3000, .inl fb))] s.heap := hP
  have hl := lv_entry ([.ref h, .int (nI i0), .int (nI en)]) (n := 4) (Nat.le_of_ble_eq_true rfl)
  rw [lg_entry_eq]
  generalize (lg_sl ([.ref h, .int (nI i0), .int (nI en)]) ++ List.replicate (4 - (lg_sl ([.ref h, .int (nI i0), .int (nI en)])).length) Slot.unset).toArray = ls at hl ⊢
  have hl : lv_has ls 4 [(0, .ref h), (1, .int (nI i0)), (2, .int (nI en))] := hl
  refine lv_iload_n hx hb dX9_wordEnd_0 rfl (lv_at hl 1 rfl) ?_
  refine lv_istore_n (lv' := [(3, .int (nI i0)), (0, .ref h), (1, .int (nI i0)), (2, .int (nI en))]) hx hb dX9_wordEnd_1 rfl hl (by decide) rfl (fun ls hl => ?_)
  refine W_q (fun Q1 hQ1 => ?_)
  have key1 : ∀ (n1 : Nat) (i : Nat) (H : Heap) (locs : List Loc) (ls : Array Slot), (i + n1 = en + 1 ∧ i ≤ en) → (i0 ≤ i) → va_P (dC, dI) vwCl [(h, .inr (9, [.ref tk, .ref tp, .ref tn, .ref tu, .ref tl, .int ln, .int now, .int ft, .int pl, .int nt, .ref tb, .int (nI tt), .ref ts, .ref tf, .ref tz, .ref tx, .ref th, .ref tw])), (tb, .inl (kB, 3000, .inl fb))] H → va_D A [(h, .inr (9, [.ref tk, .ref tp, .ref tn, .ref tu, .ref tl, .int ln, .int now, .int ft, .int pl, .int nt, .ref tb, .int (nI tt), .ref ts, .ref tf, .ref tz, .ref tx, .ref th, .ref tw])), (tb, .inl (kB, 3000, .inl fb))] → va_S A s.heap H locs → lv_has ls 4 [(3, .int (nI i)), (0, .ref h), (1, .int (nI i0)), (2, .int (nI en))] → W p l e (headSpec wp_c_wordEnd ({ frames := 1, cells := 0, slots := 0, locals := 20 })).room s m ([.ref h, .int (nI i0), .int (nI en)] : List Value).toArray below meth c H locs 0 0 Q1 (F0 m 2 ls []) := by
    intro n1
    induction n1 with
    | zero => intro i H locs ls hb0 hb1; exact absurd hb0 (by omega)
    | succ n1 ih1 =>
      intro i H locs ls hb0 hb1 hP hD hS hl
      refine lv_iload_n hx hb dX9_wordEnd_2 rfl (lv_at hl 0 rfl) ?_
      refine lv_iload_n hx hb dX9_wordEnd_3 rfl (lv_at hl 3 rfl) ?_
      refine lv_icmp_ge (tgt := 37) hx hb dX9_wordEnd_4 (by decide) (fun hy1 => ?_) (fun hy1 => ?_)
      · refine lv_iload_n hx hb dX9_wordEnd_37 rfl (lv_at hl 0 rfl) ?_
        have hP9 := hP.sub (ws' := [(h, .inr (9, [.ref tk, .ref tp, .ref tn, .ref tu, .ref tl, .int ln, .int now, .int ft, .int pl, .int nt, .ref tb, .int (nI tt), .ref ts, .ref tf, .ref tz, .ref tx, .ref th, .ref tw])), (tb, .inl (kB, 3000, .inl fb))]) [0, 1] rfl
        have hD9 := hD.sub (ws' := [(h, .inr (9, [.ref tk, .ref tp, .ref tn, .ref tu, .ref tl, .int ln, .int now, .int ft, .int pl, .int nt, .ref tb, .int (nI tt), .ref ts, .ref tf, .ref tz, .ref tx, .ref th, .ref tw])), (tb, .inl (kB, 3000, .inl fb))]) [0, 1] (by decide) rfl
        have hK9 := hK.sub (tys' := [(kB, .byte)]) [0] rfl
        subst hQ1
        exact W.iret (v := nI i) hx hb hr (fun tS ht hW => ⟨⟨(nI i), (), rfl, ⟨i, rfl, by omega, by omega⟩, by rw [ht]; exact hP9, va_K.moved hW.alike hK9, hD9⟩, hS.F ht⟩) hS.2.2 dX9_wordEnd_38
      · have hi : i < en := by rcases Nat.lt_or_ge i en with q | q; exact q; exact absurd (nI_le q (by omega)) hy1
        refine lv_aload_n hx hb dX9_wordEnd_7 rfl (lv_at hl 1 rfl) ?_
        refine va_get (D := (dC, dI)) (ci := 9) (v := .ref tb) (C := RX9) (T := TX9) (N := 18) hx hb hts in_c_wordEnd_X9 hown hK hP 0 rfl rfl 10 (by decide) (hts (.fieldLink RX9 32 "OwnedPlaces$Text" "bytes" "[B") (wm_c_wordEnd 1 rfl)) (fun _ h9 => h9) rfl dX9_wordEnd_8 ?_
        refine lv_iload_n hx hb dX9_wordEnd_11 rfl (lv_at hl 0 rfl) ?_
        refine va_bald hx hb hK hP 1 0 rfl rfl (vp_in_nI (by omega) (by decide)) dX9_wordEnd_12 ?_
        refine lv_topi (fun v_1 ev_1 => ?_)
        have hPc := hP.sub (ws' := []) [] rfl
        have hDc := hD.sub (ws' := []) [] (by decide) rfl
        have hKc := hK.sub (tys' := []) [] rfl
        have hFc := va_free (wc := []) hD hS hA [] rfl
        refine va_calli (va_runS (As := [.int v_1]) (rest := []) ⟨hx, hb, hml, hown, hts⟩ (c_letter l dC dI v_1 H.size) (va_cwS 1 hts g_c_wordEnd_c_letter_13 rfl rfl rfl (by decide +kernel) ⟨Nat.le_of_ble_eq_true rfl, Nat.le_of_ble_eq_true rfl⟩) ⟨fun a U g mk q => by obtain ⟨q0, q1, qP, qK, qD⟩ := q; exact ⟨q0, q1, qP, va_K.moved (u := U) (U := U.calling g mk a) (Vm.Alike.refl U.vm) qK, qD⟩, fun U hU hW => ⟨rfl, by rw [hU], by rw [hU]; exact hPc, va_K.moved hW.alike hKc, hDc.weaken (fun _ _ _ _ => trivial)⟩⟩ rfl rfl hl.1 rfl (lv_room (Nat.le_of_ble_eq_true rfl)) dX9_wordEnd_13 ⟨(show 0 + 0 ≤ 0 by omega), (show 0 + 0 ≤ 0 by omega)⟩) hS (fun q _ h => hFc q h) hFc (fun r_2 u tS H1 locs ht hvm hw hB hz1 hk1 hS => ?_)
        obtain ⟨hP1, hK1, hD1⟩ := hB
        rw [ht] at hP1
        have hK1 := va_K.moved hvm.symm hK1
        obtain ⟨hP, hD⟩ := va_join (wr := [(h, .inr (9, [.ref tk, .ref tp, .ref tn, .ref tu, .ref tl, .int ln, .int now, .int ft, .int pl, .int nt, .ref tb, .int (nI tt), .ref ts, .ref tf, .ref tz, .ref tx, .ref th, .ref tw])), (tb, .inl (kB, 3000, .inl fb))]) (w1 := []) hP hD [] [0, 1] rfl rfl (by decide) (by decide) hk1 hFc hP1 hD1
        generalize H1 = H at hP hS ⊢
        have hP : va_P (dC, dI) vwCl [(h, .inr (9, [.ref tk, .ref tp, .ref tn, .ref tu, .ref tl, .int ln, .int now, .int ft, .int pl, .int nt, .ref tb, .int (nI tt), .ref ts, .ref tf, .ref tz, .ref tx, .ref th, .ref tw])), (tb, .inl (kB, 3000, .inl fb))] H := hP
        have hD : va_D A [(h, .inr (9, [.ref tk, .ref tp, .ref tn, .ref tu, .ref tl, .int ln, .int now, .int ft, .int pl, .int nt, .ref tb, .int (nI tt), .ref ts, .ref tf, .ref tz, .ref tx, .ref th, .ref tw])), (tb, .inl (kB, 3000, .inl fb))] := hD
        have hK : va_K (dC, dI) vwCl [(kB, .byte)] s := hK
        refine lv_if_ne (tgt := 31) hx hb dX9_wordEnd_16 (by decide) (fun hy2 => ?_) (fun hy2 => ?_)
        · obtain ⟨x_3, ex_3⟩ : ∃ yY : Int32, yY = (nI i) + 1 := ⟨_, rfl⟩
          refine lv_iinc (v := x_3) (lv' := [(3, .int x_3), (0, .ref h), (1, .int (nI i0)), (2, .int (nI en))]) hx hb dX9_wordEnd_31 hl (k := 0) rfl (by rw [ex_3]; rfl) (by decide) rfl (fun ls hl => ?_)
          obtain rfl : x_3 = nI (i + 1) := by rw [ex_3]; exact nI_1 i
          have hl : lv_has ls 4 [(3, .int (nI (i + 1))), (0, .ref h), (1, .int (nI i0)), (2, .int (nI en))] := hl
          refine lv_goto (tgt := 2) hx hb dX9_wordEnd_34 (by decide) ?_
          exact ih1 (i + 1) _ _ _ (by omega) (by omega) (hP.sub [0, 1] rfl) (hD.sub [0, 1] (by decide) rfl) hS (lv_sub hl [0, 1, 2, 3] rfl)
        · refine lv_aload_n hx hb dX9_wordEnd_19 rfl (lv_at hl 1 rfl) ?_
          refine va_get (D := (dC, dI)) (ci := 9) (v := .ref tb) (C := RX9) (T := TX9) (N := 18) hx hb hts in_c_wordEnd_X9 hown hK hP 0 rfl rfl 10 (by decide) (hts (.fieldLink RX9 32 "OwnedPlaces$Text" "bytes" "[B") (wm_c_wordEnd 1 rfl)) (fun _ h9 => h9) rfl dX9_wordEnd_20 ?_
          refine lv_iload_n hx hb dX9_wordEnd_23 rfl (lv_at hl 0 rfl) ?_
          refine va_bald hx hb hK hP 1 0 rfl rfl (vp_in_nI (by omega) (by decide)) dX9_wordEnd_24 ?_
          refine lv_topi (fun v_3 ev_3 => ?_)
          have hPc := hP.sub (ws' := []) [] rfl
          have hDc := hD.sub (ws' := []) [] (by decide) rfl
          have hKc := hK.sub (tys' := []) [] rfl
          have hFc := va_free (wc := []) hD hS hA [] rfl
          refine va_calli (va_runS (As := [.int v_3]) (rest := []) ⟨hx, hb, hml, hown, hts⟩ (c_digit l dC dI v_3 H.size) (va_cwS 1 hts g_c_wordEnd_c_digit_25 rfl rfl rfl (by decide +kernel) ⟨Nat.le_of_ble_eq_true rfl, Nat.le_of_ble_eq_true rfl⟩) ⟨fun a U g mk q => by obtain ⟨q0, q1, qP, qK, qD⟩ := q; exact ⟨q0, q1, qP, va_K.moved (u := U) (U := U.calling g mk a) (Vm.Alike.refl U.vm) qK, qD⟩, fun U hU hW => ⟨rfl, by rw [hU], by rw [hU]; exact hPc, va_K.moved hW.alike hKc, hDc.weaken (fun _ _ _ _ => trivial)⟩⟩ rfl rfl hl.1 rfl (lv_room (Nat.le_of_ble_eq_true rfl)) dX9_wordEnd_25 ⟨(show 0 + 0 ≤ 0 by omega), (show 0 + 0 ≤ 0 by omega)⟩) hS (fun q _ h => hFc q h) hFc (fun r_4 u tS H1 locs ht hvm hw hB hz1 hk1 hS => ?_)
          obtain ⟨hP1, hK1, hD1⟩ := hB
          rw [ht] at hP1
          have hK1 := va_K.moved hvm.symm hK1
          obtain ⟨hP, hD⟩ := va_join (wr := [(h, .inr (9, [.ref tk, .ref tp, .ref tn, .ref tu, .ref tl, .int ln, .int now, .int ft, .int pl, .int nt, .ref tb, .int (nI tt), .ref ts, .ref tf, .ref tz, .ref tx, .ref th, .ref tw])), (tb, .inl (kB, 3000, .inl fb))]) (w1 := []) hP hD [] [0, 1] rfl rfl (by decide) (by decide) hk1 hFc hP1 hD1
          generalize H1 = H at hP hS ⊢
          have hP : va_P (dC, dI) vwCl [(h, .inr (9, [.ref tk, .ref tp, .ref tn, .ref tu, .ref tl, .int ln, .int now, .int ft, .int pl, .int nt, .ref tb, .int (nI tt), .ref ts, .ref tf, .ref tz, .ref tx, .ref th, .ref tw])), (tb, .inl (kB, 3000, .inl fb))] H := hP
          have hD : va_D A [(h, .inr (9, [.ref tk, .ref tp, .ref tn, .ref tu, .ref tl, .int ln, .int now, .int ft, .int pl, .int nt, .ref tb, .int (nI tt), .ref ts, .ref tf, .ref tz, .ref tx, .ref th, .ref tw])), (tb, .inl (kB, 3000, .inl fb))] := hD
          have hK : va_K (dC, dI) vwCl [(kB, .byte)] s := hK
          refine lv_if_eq (tgt := 37) hx hb dX9_wordEnd_28 (by decide) (fun hy3 => ?_) (fun hy3 => ?_)
          · refine lv_iload_n hx hb dX9_wordEnd_37 rfl (lv_at hl 0 rfl) ?_
            have hP9 := hP.sub (ws' := [(h, .inr (9, [.ref tk, .ref tp, .ref tn, .ref tu, .ref tl, .int ln, .int now, .int ft, .int pl, .int nt, .ref tb, .int (nI tt), .ref ts, .ref tf, .ref tz, .ref tx, .ref th, .ref tw])), (tb, .inl (kB, 3000, .inl fb))]) [0, 1] rfl
            have hD9 := hD.sub (ws' := [(h, .inr (9, [.ref tk, .ref tp, .ref tn, .ref tu, .ref tl, .int ln, .int now, .int ft, .int pl, .int nt, .ref tb, .int (nI tt), .ref ts, .ref tf, .ref tz, .ref tx, .ref th, .ref tw])), (tb, .inl (kB, 3000, .inl fb))]) [0, 1] (by decide) rfl
            have hK9 := hK.sub (tys' := [(kB, .byte)]) [0] rfl
            subst hQ1
            exact W.iret (v := nI i) hx hb hr (fun tS ht hW => ⟨⟨(nI i), (), rfl, ⟨i, rfl, by omega, by omega⟩, by rw [ht]; exact hP9, va_K.moved hW.alike hK9, hD9⟩, hS.F ht⟩) hS.2.2 dX9_wordEnd_38
          · obtain ⟨x_5, ex_5⟩ : ∃ yY : Int32, yY = (nI i) + 1 := ⟨_, rfl⟩
            refine lv_iinc (v := x_5) (lv' := [(3, .int x_5), (0, .ref h), (1, .int (nI i0)), (2, .int (nI en))]) hx hb dX9_wordEnd_31 hl (k := 0) rfl (by rw [ex_5]; rfl) (by decide) rfl (fun ls hl => ?_)
            obtain rfl : x_5 = nI (i + 1) := by rw [ex_5]; exact nI_1 i
            have hl : lv_has ls 4 [(3, .int (nI (i + 1))), (0, .ref h), (1, .int (nI i0)), (2, .int (nI en))] := hl
            refine lv_goto (tgt := 2) hx hb dX9_wordEnd_34 (by decide) ?_
            exact ih1 (i + 1) _ _ _ (by omega) (by omega) (hP.sub [0, 1] rfl) (hD.sub [0, 1] (by decide) rfl) hS (lv_sub hl [0, 1, 2, 3] rfl)
  exact key1 (en + 1 - i0) i0 _ _ _ (by omega) (by omega) (hP.sub [0, 1] rfl) (hD.sub [0, 1] (by decide) rfl) hS (lv_sub hl [0, 1, 2, 3] rfl)
def wf_c_comment : List Cond := [.code yX9_readComment cX9_readComment 5 (some .int), .fieldLink RX9 32 "OwnedPlaces$Text" "bytes" "[B", .code yX9_addBad cX9_addBad 3 (some .int), .code yX9_add cX9_add 4 none, .fieldLink RX9 9 "OwnedPlaces$Text" "kinds" "[I", .fieldLink RX9 92 "OwnedPlaces$Text" "total" "I", .fieldLink RX9 15 "OwnedPlaces$Text" "places" "[I", .fieldLink RX9 18 "OwnedPlaces$Text" "names" "[I", .fieldLink RX9 25 "OwnedPlaces$Text" "links" "[I", .methodLink RX9 102 yX9_add, .instanceMethod yX9_add, .selects RX9 yX9_add yX9_add, .initialized RX9, .methodLink RX9 140 yX9_addBad, .instanceMethod yX9_addBad, .selects RX9 yX9_addBad yX9_addBad]
def wp_c_comment : List Cond := wf_c_comment ++ (wsX90 ++ [])
theorem in_c_comment_X9 : ∀ w ∈ wsX90, w ∈ wp_c_comment := fun w h => List.mem_append_right _ (List.mem_append_left _ h)
theorem wg_c_comment : wf_c_comment.all goodWord = true := by decide +kernel
theorem wm_c_comment (k : Nat) {w : Cond} (h : wp_c_comment[k]? = some w) : w ∈ wp_c_comment := List.mem_of_getElem? h
set_option maxRecDepth 20000 in
theorem g_c_comment_c_addBad_57 : GoodIn wp_c_comment (wsV RX9 140 RX9 yX9_addBad wp_c_addBad) := goodIn_app (goodIn_f [.methodLink RX9 140 yX9_addBad, .instanceMethod yX9_addBad, .selects RX9 yX9_addBad yX9_addBad, .initialized RX9] [13, 14, 15, 12] rfl (by decide +kernel)) (goodIn_app (goodIn_f (wf_c_addBad) [2, 3, 4, 5, 6, 7, 8, 9, 10, 11, 12] rfl wg_c_addBad) (goodIn_app (goodIn_sub in_c_comment_X9 gd_X9) (goodIn_n)))
set_option maxHeartbeats 4000000 in
set_option maxRecDepth 100000 in
theorem c_comment (l : Launch) (dC : Nat → ClassId) (dI : Nat → Nat → Nat) (h tk tp tn tu tl tb ts tf tz tx th tw : Nat) (ln ft pl nt : Int32) (now : Int32) (tt nq i0 en : Nat) (kI kB : ClassId) (fb fk fp fn fl : Nat → Int32) (sz : Nat) (hi0 : i0 ≤ en) (hen : en ≤ 3000) (ht : tt < 3002) (hI : tkI tt nq fn fl) (hq0 : 0 < nq) : Met l yX9_readComment wp_c_comment ({ frames := 2, cells := 0, slots := 0, locals := 45 }) (va_Pc [.ref h, .int (nI i0), .int (nI en)] (fun U => U.heap.size = sz ∧ va_P (dC, dI) vwCl [(h, .inr (9, [.ref tk, .ref tp, .ref tn, .ref tu, .ref tl, .int ln, .int now, .int ft, .int pl, .int nt, .ref tb, .int (nI tt), .ref ts, .ref tf, .ref tz, .ref tx, .ref th, .ref tw])), (tb, .inl (kB, 3000, .inl fb)), (tk, .inl (kI, 3002, .inl fk)), (tp, .inl (kI, 3002, .inl (fun uQ9 => aN (fp uQ9)))), (tn, .inl (kI, 3002, .inl fn)), (tl, .inl (kI, 3002, .inl fl))] U.heap ∧ va_K (dC, dI) vwCl [(kI, .int), (kB, .byte)] U ∧ va_D (fun _ => True) [(h, .inr (9, [.ref tk, .ref tp, .ref tn, .ref tu, .ref tl, .int ln, .int now, .int ft, .int pl, .int nt, .ref tb, .int (nI tt), .ref ts, .ref tf, .ref tz, .ref tx, .ref th, .ref tw])), (tb, .inl (kB, 3000, .inl fb)), (tk, .inl (kI, 3002, .inl fk)), (tp, .inl (kI, 3002, .inl (fun uQ9 => aN (fp uQ9)))), (tn, .inl (kI, 3002, .inl fn)), (tl, .inl (kI, 3002, .inl fl))])) (va_Qi (fun (r : Int32) (_ : Unit) => ∃ e1 : Nat, r = nI e1 ∧ i0 ≤ e1 ∧ e1 ≤ en) (fun (_ : Unit) (tS : State) => ∃ (gk : Nat → Int32) (gp : Nat → Int32) (gn : Nat → Int32) (gl : Nat → Int32) (t2 : Nat), (t2 ≤ tt + 1) ∧ (tkI t2 nq gn gl) ∧ va_P (dC, dI) vwCl [(h, .inr (9, [.ref tk, .ref tp, .ref tn, .ref tu, .ref tl, .int ln, .int now, .int ft, .int pl, .int nt, .ref tb, .int (nI t2), .ref ts, .ref tf, .ref tz, .ref tx, .ref th, .ref tw])), (tb, .inl (kB, 3000, .inl fb)), (tk, .inl (kI, 3002, .inl gk)), (tp, .inl (kI, 3002, .inl (fun uQ9 => aN (gp uQ9)))), (tn, .inl (kI, 3002, .inl gn)), (tl, .inl (kI, 3002, .inl gl))] tS.heap ∧ va_K (dC, dI) vwCl [(kI, .int), (kB, .byte)] tS ∧ va_D (va_A [(h, .inr (9, [.ref tk, .ref tp, .ref tn, .ref tu, .ref tl, .int ln, .int now, .int ft, .int pl, .int nt, .ref tb, .int (nI tt), .ref ts, .ref tf, .ref tz, .ref tx, .ref th, .ref tw])), (tb, .inl (kB, 3000, .inl fb)), (tk, .inl (kI, 3002, .inl fk)), (tp, .inl (kI, 3002, .inl (fun uQ9 => aN (fp uQ9)))), (tn, .inl (kI, 3002, .inl fn)), (tl, .inl (kI, 3002, .inl fl))] sz) [(h, .inr (9, [.ref tk, .ref tp, .ref tn, .ref tu, .ref tl, .int ln, .int now, .int ft, .int pl, .int nt, .ref tb, .int (nI t2), .ref ts, .ref tf, .ref tz, .ref tx, .ref th, .ref tw])), (tb, .inl (kB, 3000, .inl fb)), (tk, .inl (kI, 3002, .inl gk)), (tp, .inl (kI, 3002, .inl (fun uQ9 => aN (gp uQ9)))), (tn, .inl (kI, 3002, .inl gn)), (tl, .inl (kI, 3002, .inl gl))]) (va_A [(h, .inr (9, [.ref tk, .ref tp, .ref tn, .ref tu, .ref tl, .int ln, .int now, .int ft, .int pl, .int nt, .ref tb, .int (nI tt), .ref ts, .ref tf, .ref tz, .ref tx, .ref th, .ref tw])), (tb, .inl (kB, 3000, .inl fb)), (tk, .inl (kI, 3002, .inl fk)), (tp, .inl (kI, 3002, .inl (fun uQ9 => aN (fp uQ9)))), (tn, .inl (kI, 3002, .inl fn)), (tl, .inl (kI, 3002, .inl fl))] sz)) 0 0 (va_A [(h, .inr (9, [.ref tk, .ref tp, .ref tn, .ref tu, .ref tl, .int ln, .int now, .int ft, .int pl, .int nt, .ref tb, .int (nI tt), .ref ts, .ref tf, .ref tz, .ref tx, .ref th, .ref tw])), (tb, .inl (kB, 3000, .inl fb)), (tk, .inl (kI, 3002, .inl fk)), (tp, .inl (kI, 3002, .inl (fun uQ9 => aN (fp uQ9)))), (tn, .inl (kI, 3002, .inl fn)), (tl, .inl (kI, 3002, .inl fl))] sz) := by
  refine Met.ofW (cc := cX9_readComment) (maxL := 5) (ret := (some .int)) (by decide) rfl ?_
  intro p e s m args below meth c s₁ B hml hv
  obtain ⟨rfl, hsz, hP, hK, hD0⟩ := hv
  have hx := B.exec
  have hb := B.bytes
  have hr := B.returns
  have hts := atoms_spec (ws := wp_c_comment) B.pre
  have hown : s.vm.findClass RX9 = some m.cls := findClass_of_methodNamed B.named
  have hlocks := B.notSynchronized
  subst hsz
  have hD := hD0.self (sz := s.heap.size)
  generalize hAe : va_A [(h, .inr (9, [.ref tk, .ref tp, .ref tn, .ref tu, .ref tl, .int ln, .int now, .int ft, .int pl, .int nt, .ref tb, .int (nI tt), .ref ts, .ref tf, .ref tz, .ref tx, .ref th, .ref tw])), (tb, .inl (kB, 3000, .inl fb)), (tk, .inl (kI, 3002, .inl fk)), (tp, .inl (kI, 3002, .inl (fun uQ9 => aN (fp uQ9)))), (tn, .inl (kI, 3002, .inl fn)), (tl, .inl (kI, 3002, .inl fl))] s.heap.size = A at hD ⊢
  have hA : ∀ q : Nat, s.heap.size ≤ q → A q := fun q h => by rw [← hAe]; exact Or.inr h
  have hS : va_S A s.heap s.heap [] := va_S.rf
  have hP : va_P (dC, dI) vwCl [(h, .inr (9, [.ref tk, .ref tp, .ref tn, .ref tu, .ref tl, .int ln, .int now, .int ft, .int pl, .int nt, .ref tb, .int (nI tt), .ref ts, .ref tf, .ref tz, .ref tx, .ref th, .ref tw])), (tb, .inl (kB, 3000, .inl fb)), (tk, .inl (kI, 3002, .inl fk)), (tp, .inl (kI, 3002, .inl (fun uQ9 => aN (fp uQ9)))), (tn, .inl (kI, 3002, .inl fn)), (tl, .inl (kI, 3002, .inl fl))] s.heap := hP
  have hl := lv_entry ([.ref h, .int (nI i0), .int (nI en)]) (n := 5) (Nat.le_of_ble_eq_true rfl)
  rw [lg_entry_eq]
  generalize (lg_sl ([.ref h, .int (nI i0), .int (nI en)]) ++ List.replicate (5 - (lg_sl ([.ref h, .int (nI i0), .int (nI en)])).length) Slot.unset).toArray = ls at hl ⊢
  have hl : lv_has ls 5 [(0, .ref h), (1, .int (nI i0)), (2, .int (nI en))] := hl
  refine lv_iload_n hx hb dX9_readComment_0 rfl (lv_at hl 1 rfl) ?_
  refine lv_istore_n (lv' := [(3, .int (nI i0)), (0, .ref h), (1, .int (nI i0)), (2, .int (nI en))]) hx hb dX9_readComment_1 rfl hl (by decide) rfl (fun ls hl => ?_)
  refine W_q (fun Q1 hQ1 => ?_)
  have key1 : ∀ (n1 : Nat) (i : Nat) (H : Heap) (locs : List Loc) (ls : Array Slot), (i + n1 = en + 1 ∧ i ≤ en) → (i0 ≤ i) → va_P (dC, dI) vwCl [(h, .inr (9, [.ref tk, .ref tp, .ref tn, .ref tu, .ref tl, .int ln, .int now, .int ft, .int pl, .int nt, .ref tb, .int (nI tt), .ref ts, .ref tf, .ref tz, .ref tx, .ref th, .ref tw])), (tb, .inl (kB, 3000, .inl fb)), (tk, .inl (kI, 3002, .inl fk)), (tp, .inl (kI, 3002, .inl (fun uQ9 => aN (fp uQ9)))), (tn, .inl (kI, 3002, .inl fn)), (tl, .inl (kI, 3002, .inl fl))] H → va_D A [(h, .inr (9, [.ref tk, .ref tp, .ref tn, .ref tu, .ref tl, .int ln, .int now, .int ft, .int pl, .int nt, .ref tb, .int (nI tt), .ref ts, .ref tf, .ref tz, .ref tx, .ref th, .ref tw])), (tb, .inl (kB, 3000, .inl fb)), (tk, .inl (kI, 3002, .inl fk)), (tp, .inl (kI, 3002, .inl (fun uQ9 => aN (fp uQ9)))), (tn, .inl (kI, 3002, .inl fn)), (tl, .inl (kI, 3002, .inl fl))] → va_S A s.heap H locs → lv_has ls 5 [(3, .int (nI i)), (0, .ref h), (1, .int (nI i0)), (2, .int (nI en))] → W p l e (headSpec wp_c_comment ({ frames := 2, cells := 0, slots := 0, locals := 45 })).room s m ([.ref h, .int (nI i0), .int (nI en)] : List Value).toArray below meth c H locs 0 0 Q1 (F0 m 2 ls []) := by
    intro n1
    induction n1 with
    | zero => intro i H locs ls hb0 hb1; exact absurd hb0 (by omega)
    | succ n1 ih1 =>
      intro i H locs ls hb0 hb1 hP hD hS hl
      refine lv_iload_n hx hb dX9_readComment_2 rfl (lv_at hl 0 rfl) ?_
      refine lv_iload_n hx hb dX9_readComment_3 rfl (lv_at hl 3 rfl) ?_
      refine lv_icmp_ge (tgt := 67) hx hb dX9_readComment_4 (by decide) (fun hy1 => ?_) (fun hy1 => ?_)
      · refine lv_iload_n hx hb dX9_readComment_67 rfl (lv_at hl 3 rfl) ?_
        have hP9 := hP.sub (ws' := [(h, .inr (9, [.ref tk, .ref tp, .ref tn, .ref tu, .ref tl, .int ln, .int now, .int ft, .int pl, .int nt, .ref tb, .int (nI tt), .ref ts, .ref tf, .ref tz, .ref tx, .ref th, .ref tw])), (tb, .inl (kB, 3000, .inl fb)), (tk, .inl (kI, 3002, .inl fk)), (tp, .inl (kI, 3002, .inl (fun uQ9 => aN (fp uQ9)))), (tn, .inl (kI, 3002, .inl fn)), (tl, .inl (kI, 3002, .inl fl))]) [0, 1, 2, 3, 4, 5] rfl
        have hD9 := hD.sub (ws' := [(h, .inr (9, [.ref tk, .ref tp, .ref tn, .ref tu, .ref tl, .int ln, .int now, .int ft, .int pl, .int nt, .ref tb, .int (nI tt), .ref ts, .ref tf, .ref tz, .ref tx, .ref th, .ref tw])), (tb, .inl (kB, 3000, .inl fb)), (tk, .inl (kI, 3002, .inl fk)), (tp, .inl (kI, 3002, .inl (fun uQ9 => aN (fp uQ9)))), (tn, .inl (kI, 3002, .inl fn)), (tl, .inl (kI, 3002, .inl fl))]) [0, 1, 2, 3, 4, 5] (by decide) rfl
        have hK9 := hK.sub (tys' := [(kI, .int), (kB, .byte)]) [0, 1] rfl
        subst hQ1
        exact W.iret (v := nI en) hx hb hr (fun tS ht hW => ⟨⟨(nI en), (), rfl, ⟨en, rfl, by omega, by omega⟩, fk, fp, fn, fl, tt, by omega, hI, by rw [ht]; exact hP9, va_K.moved hW.alike hK9, hD9⟩, hS.F ht⟩) hS.2.2 dX9_readComment_68
      · have hi : i < en := by rcases Nat.lt_or_ge i en with q | q; exact q; exact absurd (nI_le q (by omega)) hy1
        refine lv_aload_n hx hb dX9_readComment_7 rfl (lv_at hl 1 rfl) ?_
        refine va_get (D := (dC, dI)) (ci := 9) (v := .ref tb) (C := RX9) (T := TX9) (N := 18) hx hb hts in_c_comment_X9 hown hK hP 0 rfl rfl 10 (by decide) (hts (.fieldLink RX9 32 "OwnedPlaces$Text" "bytes" "[B") (wm_c_comment 1 rfl)) (fun _ h9 => h9) rfl dX9_readComment_8 ?_
        refine lv_iload_n hx hb dX9_readComment_11 rfl (lv_at hl 0 rfl) ?_
        refine va_bald hx hb hK hP 1 1 rfl rfl (vp_in_nI (by omega) (by decide)) dX9_readComment_12 ?_
        refine lv_topi (fun v_1 ev_1 => ?_)
        refine lv_istore (lv' := [(4, .int v_1), (3, .int (nI i)), (0, .ref h), (1, .int (nI i0)), (2, .int (nI en))]) hx hb dX9_readComment_13 hl (by decide) rfl (fun ls hl => ?_)
        refine lv_iload hx hb dX9_readComment_15 (lv_at hl 0 rfl) ?_
        refine lv_bipush (v := 10) hx hb dX9_readComment_17 (by decide) ?_
        refine lv_icmp_ne (tgt := 26) hx hb dX9_readComment_19 (by decide) (fun hy2 => ?_) (fun hy2 => ?_)
        · refine lv_iload hx hb dX9_readComment_26 (lv_at hl 0 rfl) ?_
          refine lv_bipush (v := 9) hx hb dX9_readComment_28 (by decide) ?_
          refine lv_icmp_eq (tgt := 61) hx hb dX9_readComment_30 (by decide) (fun hy3 => ?_) (fun hy3 => ?_)
          · obtain ⟨x_2, ex_2⟩ : ∃ yY : Int32, yY = (nI i) + 1 := ⟨_, rfl⟩
            refine lv_iinc (v := x_2) (lv' := [(3, .int x_2), (4, .int v_1), (0, .ref h), (1, .int (nI i0)), (2, .int (nI en))]) hx hb dX9_readComment_61 hl (k := 1) rfl (by rw [ex_2]; rfl) (by decide) rfl (fun ls hl => ?_)
            obtain rfl : x_2 = nI (i + 1) := by rw [ex_2]; exact nI_1 i
            have hl : lv_has ls 5 [(3, .int (nI (i + 1))), (4, .int v_1), (0, .ref h), (1, .int (nI i0)), (2, .int (nI en))] := hl
            refine lv_goto (tgt := 2) hx hb dX9_readComment_64 (by decide) ?_
            exact ih1 (i + 1) _ _ _ (by omega) (by omega) (hP.sub [0, 1, 2, 3, 4, 5] rfl) (hD.sub [0, 1, 2, 3, 4, 5] (by decide) rfl) hS (lv_sub hl [0, 2, 3, 4] rfl)
          · refine lv_iload hx hb dX9_readComment_33 (lv_at hl 0 rfl) ?_
            refine lv_bipush (v := 13) hx hb dX9_readComment_35 (by decide) ?_
            refine lv_icmp_eq (tgt := 61) hx hb dX9_readComment_37 (by decide) (fun hy4 => ?_) (fun hy4 => ?_)
            · obtain ⟨x_2, ex_2⟩ : ∃ yY : Int32, yY = (nI i) + 1 := ⟨_, rfl⟩
              refine lv_iinc (v := x_2) (lv' := [(3, .int x_2), (4, .int v_1), (0, .ref h), (1, .int (nI i0)), (2, .int (nI en))]) hx hb dX9_readComment_61 hl (k := 1) rfl (by rw [ex_2]; rfl) (by decide) rfl (fun ls hl => ?_)
              obtain rfl : x_2 = nI (i + 1) := by rw [ex_2]; exact nI_1 i
              have hl : lv_has ls 5 [(3, .int (nI (i + 1))), (4, .int v_1), (0, .ref h), (1, .int (nI i0)), (2, .int (nI en))] := hl
              refine lv_goto (tgt := 2) hx hb dX9_readComment_64 (by decide) ?_
              exact ih1 (i + 1) _ _ _ (by omega) (by omega) (hP.sub [0, 1, 2, 3, 4, 5] rfl) (hD.sub [0, 1, 2, 3, 4, 5] (by decide) rfl) hS (lv_sub hl [0, 2, 3, 4] rfl)
            · refine lv_iload hx hb dX9_readComment_40 (lv_at hl 0 rfl) ?_
              refine lv_bipush (v := 32) hx hb dX9_readComment_42 (by decide) ?_
              refine lv_icmp_lt (tgt := 54) hx hb dX9_readComment_44 (by decide) (fun hy5 => ?_) (fun hy5 => ?_)
              · refine lv_aload_n hx hb dX9_readComment_54 rfl (lv_at hl 2 rfl) ?_
                refine lv_iload_n hx hb dX9_readComment_55 rfl (lv_at hl 1 rfl) ?_
                refine lv_iload_n hx hb dX9_readComment_56 rfl (lv_at hl 4 rfl) ?_
                have hPc := hP.sub (ws' := [(h, .inr (9, [.ref tk, .ref tp, .ref tn, .ref tu, .ref tl, .int ln, .int now, .int ft, .int pl, .int nt, .ref tb, .int (nI tt), .ref ts, .ref tf, .ref tz, .ref tx, .ref th, .ref tw])), (tk, .inl (kI, 3002, .inl fk)), (tp, .inl (kI, 3002, .inl (fun uQ9 => aN (fp uQ9)))), (tn, .inl (kI, 3002, .inl fn)), (tl, .inl (kI, 3002, .inl fl))]) [0, 2, 3, 4, 5] rfl
                have hDc := hD.sub (ws' := [(h, .inr (9, [.ref tk, .ref tp, .ref tn, .ref tu, .ref tl, .int ln, .int now, .int ft, .int pl, .int nt, .ref tb, .int (nI tt), .ref ts, .ref tf, .ref tz, .ref tx, .ref th, .ref tw])), (tk, .inl (kI, 3002, .inl fk)), (tp, .inl (kI, 3002, .inl (fun uQ9 => aN (fp uQ9)))), (tn, .inl (kI, 3002, .inl fn)), (tl, .inl (kI, 3002, .inl fl))]) [0, 2, 3, 4, 5] (by decide) rfl
                have hKc := hK.sub (tys' := [(kI, .int)]) [0] rfl
                have hFc := va_free (wc := [(h, .inr (9, [.ref tk, .ref tp, .ref tn, .ref tu, .ref tl, .int ln, .int now, .int ft, .int pl, .int nt, .ref tb, .int (nI tt), .ref ts, .ref tf, .ref tz, .ref tx, .ref th, .ref tw])), (tk, .inl (kI, 3002, .inl fk)), (tp, .inl (kI, 3002, .inl (fun uQ9 => aN (fp uQ9)))), (tn, .inl (kI, 3002, .inl fn)), (tl, .inl (kI, 3002, .inl fl))]) hD hS hA [0, 2, 3, 4, 5] rfl
                refine va_calli (va_runV (As := [.int (nI i), .int (nI en)]) (rest := []) ⟨hx, hb, hml, hown, hts⟩ (c_addBad l dC dI h tk tp tn tu tl tb ts tf tz tx th tw ln ft pl nt now tt nq kI fk fp fn fl (nI i) (nI en) H.size ht hI hq0 (aN_nI (by omega))) (cwV 2 hts g_c_comment_c_addBad_57 rfl rfl rfl (by decide +kernel) ⟨Nat.le_of_ble_eq_true rfl, Nat.le_of_ble_eq_true rfl⟩) ⟨fun a U g mk q => by obtain ⟨q0, q1, qP, qK, qD⟩ := q; exact ⟨q0, q1, qP, va_K.moved (u := U) (U := U.calling g mk a) (Vm.Alike.refl U.vm) qK, qD⟩, va_recv hKc hPc (ci := 9) (q0 := 0) rfl rfl, fun U hU hW => ⟨rfl, by rw [hU], by rw [hU]; exact hPc, va_K.moved hW.alike hKc, hDc.weaken (fun _ _ _ _ => trivial)⟩⟩ rfl rfl hl.1 rfl (lv_room (Nat.le_of_ble_eq_true rfl)) dX9_readComment_57 ⟨(show 0 + 0 ≤ 0 by omega), (show 0 + 0 ≤ 0 by omega)⟩) hS (fun q _ h => hFc q h) hFc (fun r_2 u tS H1 locs ht hvm hw hB hz1 hk1 hS => ?_)
                obtain ⟨gk1, gp1, gn1, gl1, hf2_0, hP1, hK1, hD1⟩ := hB
                rw [ht] at hP1
                have hK1 := va_K.moved hvm.symm hK1
                obtain ⟨hP, hD⟩ := va_join (wr := [(tb, .inl (kB, 3000, .inl fb))]) (w1 := [(h, .inr (9, [.ref tk, .ref tp, .ref tn, .ref tu, .ref tl, .int ln, .int now, .int ft, .int pl, .int nt, .ref tb, .int (nI (tt + 1)), .ref ts, .ref tf, .ref tz, .ref tx, .ref th, .ref tw])), (tk, .inl (kI, 3002, .inl gk1)), (tp, .inl (kI, 3002, .inl (fun uQ9 => aN (gp1 uQ9)))), (tn, .inl (kI, 3002, .inl gn1)), (tl, .inl (kI, 3002, .inl gl1))]) hP hD [0, 2, 3, 4, 5] [1] rfl rfl (by decide) (by decide) hk1 hFc hP1 hD1
                have hK := hK.app hK1
                generalize H1 = H at hP hS ⊢
                have hP : va_P (dC, dI) vwCl [(tb, .inl (kB, 3000, .inl fb)), (h, .inr (9, [.ref tk, .ref tp, .ref tn, .ref tu, .ref tl, .int ln, .int now, .int ft, .int pl, .int nt, .ref tb, .int (nI (tt + 1)), .ref ts, .ref tf, .ref tz, .ref tx, .ref th, .ref tw])), (tk, .inl (kI, 3002, .inl gk1)), (tp, .inl (kI, 3002, .inl (fun uQ9 => aN (gp1 uQ9)))), (tn, .inl (kI, 3002, .inl gn1)), (tl, .inl (kI, 3002, .inl gl1))] H := hP
                have hD : va_D A [(tb, .inl (kB, 3000, .inl fb)), (h, .inr (9, [.ref tk, .ref tp, .ref tn, .ref tu, .ref tl, .int ln, .int now, .int ft, .int pl, .int nt, .ref tb, .int (nI (tt + 1)), .ref ts, .ref tf, .ref tz, .ref tx, .ref th, .ref tw])), (tk, .inl (kI, 3002, .inl gk1)), (tp, .inl (kI, 3002, .inl (fun uQ9 => aN (gp1 uQ9)))), (tn, .inl (kI, 3002, .inl gn1)), (tl, .inl (kI, 3002, .inl gl1))] := hD
                have hK : va_K (dC, dI) vwCl [(kI, .int), (kB, .byte), (kI, .int)] s := hK
                have hK := hK.sub (tys' := [(kI, .int), (kB, .byte)]) [0, 1] rfl
                have hP : va_P (dC, dI) vwCl [(tb, .inl (kB, 3000, .inl fb)), (h, .inr (9, [.ref tk, .ref tp, .ref tn, .ref tu, .ref tl, .int ln, .int now, .int ft, .int pl, .int nt, .ref tb, .int (nI (tt + 1)), .ref ts, .ref tf, .ref tz, .ref tx, .ref th, .ref tw])), (tk, .inl (kI, 3002, .inl gk1)), (tp, .inl (kI, 3002, .inl (fun uQ9 => aN (gp1 uQ9)))), (tn, .inl (kI, 3002, .inl gn1)), (tl, .inl (kI, 3002, .inl gl1))] H := hP
                have hD : va_D A [(tb, .inl (kB, 3000, .inl fb)), (h, .inr (9, [.ref tk, .ref tp, .ref tn, .ref tu, .ref tl, .int ln, .int now, .int ft, .int pl, .int nt, .ref tb, .int (nI (tt + 1)), .ref ts, .ref tf, .ref tz, .ref tx, .ref th, .ref tw])), (tk, .inl (kI, 3002, .inl gk1)), (tp, .inl (kI, 3002, .inl (fun uQ9 => aN (gp1 uQ9)))), (tn, .inl (kI, 3002, .inl gn1)), (tl, .inl (kI, 3002, .inl gl1))] := hD
                obtain rfl : r_2 = nI en := hw
                have hP9 := hP.sub (ws' := [(h, .inr (9, [.ref tk, .ref tp, .ref tn, .ref tu, .ref tl, .int ln, .int now, .int ft, .int pl, .int nt, .ref tb, .int (nI (tt + 1)), .ref ts, .ref tf, .ref tz, .ref tx, .ref th, .ref tw])), (tb, .inl (kB, 3000, .inl fb)), (tk, .inl (kI, 3002, .inl gk1)), (tp, .inl (kI, 3002, .inl (fun uQ9 => aN (gp1 uQ9)))), (tn, .inl (kI, 3002, .inl gn1)), (tl, .inl (kI, 3002, .inl gl1))]) [1, 0, 2, 3, 4, 5] rfl
                have hD9 := hD.sub (ws' := [(h, .inr (9, [.ref tk, .ref tp, .ref tn, .ref tu, .ref tl, .int ln, .int now, .int ft, .int pl, .int nt, .ref tb, .int (nI (tt + 1)), .ref ts, .ref tf, .ref tz, .ref tx, .ref th, .ref tw])), (tb, .inl (kB, 3000, .inl fb)), (tk, .inl (kI, 3002, .inl gk1)), (tp, .inl (kI, 3002, .inl (fun uQ9 => aN (gp1 uQ9)))), (tn, .inl (kI, 3002, .inl gn1)), (tl, .inl (kI, 3002, .inl gl1))]) [1, 0, 2, 3, 4, 5] (by decide) rfl
                have hK9 := hK.sub (tys' := [(kI, .int), (kB, .byte)]) [0, 1] rfl
                subst hQ1
                exact W.iret (v := nI en) hx hb hr (fun tS ht hW => ⟨⟨(nI en), (), rfl, ⟨en, rfl, by omega, by omega⟩, gk1, gp1, gn1, gl1, tt + 1, by omega, hf2_0, by rw [ht]; exact hP9, va_K.moved hW.alike hK9, hD9⟩, hS.F ht⟩) hS.2.2 dX9_readComment_60
              · refine lv_iload hx hb dX9_readComment_47 (lv_at hl 0 rfl) ?_
                refine lv_bipush (v := 126) hx hb dX9_readComment_49 (by decide) ?_
                refine lv_icmp_le (tgt := 61) hx hb dX9_readComment_51 (by decide) (fun hy6 => ?_) (fun hy6 => ?_)
                · obtain ⟨x_2, ex_2⟩ : ∃ yY : Int32, yY = (nI i) + 1 := ⟨_, rfl⟩
                  refine lv_iinc (v := x_2) (lv' := [(3, .int x_2), (4, .int v_1), (0, .ref h), (1, .int (nI i0)), (2, .int (nI en))]) hx hb dX9_readComment_61 hl (k := 1) rfl (by rw [ex_2]; rfl) (by decide) rfl (fun ls hl => ?_)
                  obtain rfl : x_2 = nI (i + 1) := by rw [ex_2]; exact nI_1 i
                  have hl : lv_has ls 5 [(3, .int (nI (i + 1))), (4, .int v_1), (0, .ref h), (1, .int (nI i0)), (2, .int (nI en))] := hl
                  refine lv_goto (tgt := 2) hx hb dX9_readComment_64 (by decide) ?_
                  exact ih1 (i + 1) _ _ _ (by omega) (by omega) (hP.sub [0, 1, 2, 3, 4, 5] rfl) (hD.sub [0, 1, 2, 3, 4, 5] (by decide) rfl) hS (lv_sub hl [0, 2, 3, 4] rfl)
                · refine lv_aload_n hx hb dX9_readComment_54 rfl (lv_at hl 2 rfl) ?_
                  refine lv_iload_n hx hb dX9_readComment_55 rfl (lv_at hl 1 rfl) ?_
                  refine lv_iload_n hx hb dX9_readComment_56 rfl (lv_at hl 4 rfl) ?_
                  have hPc := hP.sub (ws' := [(h, .inr (9, [.ref tk, .ref tp, .ref tn, .ref tu, .ref tl, .int ln, .int now, .int ft, .int pl, .int nt, .ref tb, .int (nI tt), .ref ts, .ref tf, .ref tz, .ref tx, .ref th, .ref tw])), (tk, .inl (kI, 3002, .inl fk)), (tp, .inl (kI, 3002, .inl (fun uQ9 => aN (fp uQ9)))), (tn, .inl (kI, 3002, .inl fn)), (tl, .inl (kI, 3002, .inl fl))]) [0, 2, 3, 4, 5] rfl
                  have hDc := hD.sub (ws' := [(h, .inr (9, [.ref tk, .ref tp, .ref tn, .ref tu, .ref tl, .int ln, .int now, .int ft, .int pl, .int nt, .ref tb, .int (nI tt), .ref ts, .ref tf, .ref tz, .ref tx, .ref th, .ref tw])), (tk, .inl (kI, 3002, .inl fk)), (tp, .inl (kI, 3002, .inl (fun uQ9 => aN (fp uQ9)))), (tn, .inl (kI, 3002, .inl fn)), (tl, .inl (kI, 3002, .inl fl))]) [0, 2, 3, 4, 5] (by decide) rfl
                  have hKc := hK.sub (tys' := [(kI, .int)]) [0] rfl
                  have hFc := va_free (wc := [(h, .inr (9, [.ref tk, .ref tp, .ref tn, .ref tu, .ref tl, .int ln, .int now, .int ft, .int pl, .int nt, .ref tb, .int (nI tt), .ref ts, .ref tf, .ref tz, .ref tx, .ref th, .ref tw])), (tk, .inl (kI, 3002, .inl fk)), (tp, .inl (kI, 3002, .inl (fun uQ9 => aN (fp uQ9)))), (tn, .inl (kI, 3002, .inl fn)), (tl, .inl (kI, 3002, .inl fl))]) hD hS hA [0, 2, 3, 4, 5] rfl
                  refine va_calli (va_runV (As := [.int (nI i), .int (nI en)]) (rest := []) ⟨hx, hb, hml, hown, hts⟩ (c_addBad l dC dI h tk tp tn tu tl tb ts tf tz tx th tw ln ft pl nt now tt nq kI fk fp fn fl (nI i) (nI en) H.size ht hI hq0 (aN_nI (by omega))) (cwV 2 hts g_c_comment_c_addBad_57 rfl rfl rfl (by decide +kernel) ⟨Nat.le_of_ble_eq_true rfl, Nat.le_of_ble_eq_true rfl⟩) ⟨fun a U g mk q => by obtain ⟨q0, q1, qP, qK, qD⟩ := q; exact ⟨q0, q1, qP, va_K.moved (u := U) (U := U.calling g mk a) (Vm.Alike.refl U.vm) qK, qD⟩, va_recv hKc hPc (ci := 9) (q0 := 0) rfl rfl, fun U hU hW => ⟨rfl, by rw [hU], by rw [hU]; exact hPc, va_K.moved hW.alike hKc, hDc.weaken (fun _ _ _ _ => trivial)⟩⟩ rfl rfl hl.1 rfl (lv_room (Nat.le_of_ble_eq_true rfl)) dX9_readComment_57 ⟨(show 0 + 0 ≤ 0 by omega), (show 0 + 0 ≤ 0 by omega)⟩) hS (fun q _ h => hFc q h) hFc (fun r_2 u tS H1 locs ht hvm hw hB hz1 hk1 hS => ?_)
                  obtain ⟨gk1, gp1, gn1, gl1, hf2_0, hP1, hK1, hD1⟩ := hB
                  rw [ht] at hP1
                  have hK1 := va_K.moved hvm.symm hK1
                  obtain ⟨hP, hD⟩ := va_join (wr := [(tb, .inl (kB, 3000, .inl fb))]) (w1 := [(h, .inr (9, [.ref tk, .ref tp, .ref tn, .ref tu, .ref tl, .int ln, .int now, .int ft, .int pl, .int nt, .ref tb, .int (nI (tt + 1)), .ref ts, .ref tf, .ref tz, .ref tx, .ref th, .ref tw])), (tk, .inl (kI, 3002, .inl gk1)), (tp, .inl (kI, 3002, .inl (fun uQ9 => aN (gp1 uQ9)))), (tn, .inl (kI, 3002, .inl gn1)), (tl, .inl (kI, 3002, .inl gl1))]) hP hD [0, 2, 3, 4, 5] [1] rfl rfl (by decide) (by decide) hk1 hFc hP1 hD1
                  have hK := hK.app hK1
                  generalize H1 = H at hP hS ⊢
                  have hP : va_P (dC, dI) vwCl [(tb, .inl (kB, 3000, .inl fb)), (h, .inr (9, [.ref tk, .ref tp, .ref tn, .ref tu, .ref tl, .int ln, .int now, .int ft, .int pl, .int nt, .ref tb, .int (nI (tt + 1)), .ref ts, .ref tf, .ref tz, .ref tx, .ref th, .ref tw])), (tk, .inl (kI, 3002, .inl gk1)), (tp, .inl (kI, 3002, .inl (fun uQ9 => aN (gp1 uQ9)))), (tn, .inl (kI, 3002, .inl gn1)), (tl, .inl (kI, 3002, .inl gl1))] H := hP
                  have hD : va_D A [(tb, .inl (kB, 3000, .inl fb)), (h, .inr (9, [.ref tk, .ref tp, .ref tn, .ref tu, .ref tl, .int ln, .int now, .int ft, .int pl, .int nt, .ref tb, .int (nI (tt + 1)), .ref ts, .ref tf, .ref tz, .ref tx, .ref th, .ref tw])), (tk, .inl (kI, 3002, .inl gk1)), (tp, .inl (kI, 3002, .inl (fun uQ9 => aN (gp1 uQ9)))), (tn, .inl (kI, 3002, .inl gn1)), (tl, .inl (kI, 3002, .inl gl1))] := hD
                  have hK : va_K (dC, dI) vwCl [(kI, .int), (kB, .byte), (kI, .int)] s := hK
                  have hK := hK.sub (tys' := [(kI, .int), (kB, .byte)]) [0, 1] rfl
                  have hP : va_P (dC, dI) vwCl [(tb, .inl (kB, 3000, .inl fb)), (h, .inr (9, [.ref tk, .ref tp, .ref tn, .ref tu, .ref tl, .int ln, .int now, .int ft, .int pl, .int nt, .ref tb, .int (nI (tt + 1)), .ref ts, .ref tf, .ref tz, .ref tx, .ref th, .ref tw])), (tk, .inl (kI, 3002, .inl gk1)), (tp, .inl (kI, 3002, .inl (fun uQ9 => aN (gp1 uQ9)))), (tn, .inl (kI, 3002, .inl gn1)), (tl, .inl (kI, 3002, .inl gl1))] H := hP
                  have hD : va_D A [(tb, .inl (kB, 3000, .inl fb)), (h, .inr (9, [.ref tk, .ref tp, .ref tn, .ref tu, .ref tl, .int ln, .int now, .int ft, .int pl, .int nt, .ref tb, .int (nI (tt + 1)), .ref ts, .ref tf, .ref tz, .ref tx, .ref th, .ref tw])), (tk, .inl (kI, 3002, .inl gk1)), (tp, .inl (kI, 3002, .inl (fun uQ9 => aN (gp1 uQ9)))), (tn, .inl (kI, 3002, .inl gn1)), (tl, .inl (kI, 3002, .inl gl1))] := hD
                  obtain rfl : r_2 = nI en := hw
                  have hP9 := hP.sub (ws' := [(h, .inr (9, [.ref tk, .ref tp, .ref tn, .ref tu, .ref tl, .int ln, .int now, .int ft, .int pl, .int nt, .ref tb, .int (nI (tt + 1)), .ref ts, .ref tf, .ref tz, .ref tx, .ref th, .ref tw])), (tb, .inl (kB, 3000, .inl fb)), (tk, .inl (kI, 3002, .inl gk1)), (tp, .inl (kI, 3002, .inl (fun uQ9 => aN (gp1 uQ9)))), (tn, .inl (kI, 3002, .inl gn1)), (tl, .inl (kI, 3002, .inl gl1))]) [1, 0, 2, 3, 4, 5] rfl
                  have hD9 := hD.sub (ws' := [(h, .inr (9, [.ref tk, .ref tp, .ref tn, .ref tu, .ref tl, .int ln, .int now, .int ft, .int pl, .int nt, .ref tb, .int (nI (tt + 1)), .ref ts, .ref tf, .ref tz, .ref tx, .ref th, .ref tw])), (tb, .inl (kB, 3000, .inl fb)), (tk, .inl (kI, 3002, .inl gk1)), (tp, .inl (kI, 3002, .inl (fun uQ9 => aN (gp1 uQ9)))), (tn, .inl (kI, 3002, .inl gn1)), (tl, .inl (kI, 3002, .inl gl1))]) [1, 0, 2, 3, 4, 5] (by decide) rfl
                  have hK9 := hK.sub (tys' := [(kI, .int), (kB, .byte)]) [0, 1] rfl
                  subst hQ1
                  exact W.iret (v := nI en) hx hb hr (fun tS ht hW => ⟨⟨(nI en), (), rfl, ⟨en, rfl, by omega, by omega⟩, gk1, gp1, gn1, gl1, tt + 1, by omega, hf2_0, by rw [ht]; exact hP9, va_K.moved hW.alike hK9, hD9⟩, hS.F ht⟩) hS.2.2 dX9_readComment_60
        · refine lv_iload_n hx hb dX9_readComment_22 rfl (lv_at hl 1 rfl) ?_
          refine lv_iconst (v := 1) hx hb dX9_readComment_23 (by decide) ?_
          refine lv_iadd hx hb dX9_readComment_24 ?_
          refine lv_topi (fun f_2 ef_2 => ?_)
          obtain rfl : f_2 = nI (i + 1) := ef_2.trans (nI_1 _)
          have hP9 := hP.sub (ws' := [(h, .inr (9, [.ref tk, .ref tp, .ref tn, .ref tu, .ref tl, .int ln, .int now, .int ft, .int pl, .int nt, .ref tb, .int (nI tt), .ref ts, .ref tf, .ref tz, .ref tx, .ref th, .ref tw])), (tb, .inl (kB, 3000, .inl fb)), (tk, .inl (kI, 3002, .inl fk)), (tp, .inl (kI, 3002, .inl (fun uQ9 => aN (fp uQ9)))), (tn, .inl (kI, 3002, .inl fn)), (tl, .inl (kI, 3002, .inl fl))]) [0, 1, 2, 3, 4, 5] rfl
          have hD9 := hD.sub (ws' := [(h, .inr (9, [.ref tk, .ref tp, .ref tn, .ref tu, .ref tl, .int ln, .int now, .int ft, .int pl, .int nt, .ref tb, .int (nI tt), .ref ts, .ref tf, .ref tz, .ref tx, .ref th, .ref tw])), (tb, .inl (kB, 3000, .inl fb)), (tk, .inl (kI, 3002, .inl fk)), (tp, .inl (kI, 3002, .inl (fun uQ9 => aN (fp uQ9)))), (tn, .inl (kI, 3002, .inl fn)), (tl, .inl (kI, 3002, .inl fl))]) [0, 1, 2, 3, 4, 5] (by decide) rfl
          have hK9 := hK.sub (tys' := [(kI, .int), (kB, .byte)]) [0, 1] rfl
          subst hQ1
          exact W.iret (v := nI (i + 1)) hx hb hr (fun tS ht hW => ⟨⟨(nI (i + 1)), (), rfl, ⟨i + 1, rfl, by omega, by omega⟩, fk, fp, fn, fl, tt, by omega, hI, by rw [ht]; exact hP9, va_K.moved hW.alike hK9, hD9⟩, hS.F ht⟩) hS.2.2 dX9_readComment_25
  exact key1 (en + 1 - i0) i0 _ _ _ (by omega) (by omega) (hP.sub [0, 1, 2, 3, 4, 5] rfl) (hD.sub [0, 1, 2, 3, 4, 5] (by decide) rfl) hS (lv_sub hl [0, 1, 2, 3] rfl)
