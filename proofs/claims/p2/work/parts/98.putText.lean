def wf_c_putT : List Cond := [.code yX8_putText cX8_putText 3 none, .code yJ0_length_8abf5 cJ0_length_8abf5 1 (some .int), .fieldLink RJ0 9 "java/lang/String" "value" "[B", .code yJ0_coder_7d493 cJ0_coder_7d493 1 (some .byte), .fieldLink RJ0 38 "java/lang/String" "COMPACT_STRINGS" "Z", .fieldLink RJ0 15 "java/lang/String" "coder" "B", .methodLink RJ0 335 yJ0_coder_7d493, .instanceMethod yJ0_coder_7d493, .selects RJ0 yJ0_coder_7d493 yJ0_coder_7d493, .initialized RJ0, .methodLink RX8 24 yJ0_length_8abf5, .instanceMethod yJ0_length_8abf5, .selects RJ0 yJ0_length_8abf5 yJ0_length_8abf5, .code yJ0_charAt_5068e cJ0_charAt_5068e 2 (some .char), .code yJ0_isLatin1_aae02 cJ0_isLatin1_aae02 1 (some .boolean), .methodLink RJ0 492 yJ0_isLatin1_aae02, .instanceMethod yJ0_isLatin1_aae02, .selects RJ0 yJ0_isLatin1_aae02 yJ0_isLatin1_aae02, .code yJ1_charAt_3b067 cJ1_charAt_3b067 2 (some .char), .code yJ0_checkIndex_df160 cJ0_checkIndex_df160 2 none, .fieldLink RJ0 1053 "jdk/internal/util/Preconditions" "SIOOBE_FORMATTER" "Ljava/util/function/BiFunction;", .code yJ3_checkIndex_8e157 cJ3_checkIndex_8e157 3 (some .int), .methodLink RJ0 1059 yJ3_checkIndex_8e157, .static yJ3_checkIndex_8e157, .initialized RJ3, .methodLink RJ1 9 yJ0_checkIndex_df160, .static yJ0_checkIndex_df160, .methodLink RJ0 495 yJ1_charAt_3b067, .static yJ1_charAt_3b067, .initialized RJ1, .methodLink RX8 30 yJ0_charAt_5068e, .instanceMethod yJ0_charAt_5068e, .selects RJ0 yJ0_charAt_5068e yJ0_charAt_5068e, .code yX8_put cX8_put 3 (some .boolean), .fieldLink RX8 17 "OwnedPlaces$Queue" "size" "I", .fieldLink RX8 13 "OwnedPlaces$Queue" "row" "[J", .fieldLink RX8 21 "OwnedPlaces$Queue" "first" "I", .methodLink RX8 34 yX8_put, .instanceMethod yX8_put, .selects RX8 yX8_put yX8_put, .initialized RX8]
def wp_c_putT : List Cond := wf_c_putT ++ (wsX80 ++ [])
theorem in_c_putT_X8 : ∀ w ∈ wsX80, w ∈ wp_c_putT := fun w h => List.mem_append_right _ (List.mem_append_left _ h)
theorem wg_c_putT : wf_c_putT.all goodWord = true := by decide +kernel
theorem wm_c_putT (k : Nat) {w : Cond} (h : wp_c_putT[k]? = some w) : w ∈ wp_c_putT := List.mem_of_getElem? h
set_option maxRecDepth 20000 in
theorem g_c_putT_c_length_4 : GoodIn wp_c_putT (wsV RX8 24 RJ0 yJ0_length_8abf5 wp_c_length) := goodIn_app (goodIn_f [.methodLink RX8 24 yJ0_length_8abf5, .instanceMethod yJ0_length_8abf5, .selects RJ0 yJ0_length_8abf5 yJ0_length_8abf5, .initialized RJ0] [10, 11, 12, 9] rfl (by decide +kernel)) (goodIn_app (goodIn_f (wf_c_length) [1, 2, 3, 4, 5, 6, 7, 8, 9] rfl wg_c_length) (goodIn_n))
set_option maxRecDepth 20000 in
theorem g_c_putT_c_charAt_13 : GoodIn wp_c_putT (wsV RX8 30 RJ0 yJ0_charAt_5068e wp_c_charAt) := goodIn_app (goodIn_f [.methodLink RX8 30 yJ0_charAt_5068e, .instanceMethod yJ0_charAt_5068e, .selects RJ0 yJ0_charAt_5068e yJ0_charAt_5068e, .initialized RJ0] [30, 31, 32, 9] rfl (by decide +kernel)) (goodIn_app (goodIn_f (wf_c_charAt) [13, 14, 4, 5, 15, 16, 17, 9, 2, 18, 19, 20, 21, 22, 23, 24, 25, 26, 27, 28, 29] rfl wg_c_charAt) (goodIn_n))
set_option maxRecDepth 20000 in
theorem g_c_putT_c_put_17 : GoodIn wp_c_putT (wsV RX8 34 RX8 yX8_put wp_c_put) := goodIn_app (goodIn_f [.methodLink RX8 34 yX8_put, .instanceMethod yX8_put, .selects RX8 yX8_put yX8_put, .initialized RX8] [37, 38, 39, 40] rfl (by decide +kernel)) (goodIn_app (goodIn_f (wf_c_put) [33, 34, 35, 36] rfl wg_c_put) (goodIn_app (goodIn_sub in_c_putT_X8 gd_X8) (goodIn_n)))
set_option maxHeartbeats 4000000 in
set_option maxRecDepth 100000 in
theorem c_putT (l : Launch) (dC : Nat → ClassId) (dI : Nat → Nat → Nat) (q qr qd N fi qz : Nat) (kL : ClassId) (fr : Nat → Int64) (t v Ns : Nat) (b : Nat → Int32) (sz : Nat) (hN0 : 0 < N) (hN : N ≤ 4000) (hfi : fi < N) (hqz : qz ≤ N) (hNs : Ns ≤ 100) : Met l yX8_putText wp_c_putT ({ frames := 4, cells := 0, slots := 0, locals := 85 }) (va_Pc [.ref q, .ref t] (fun U => U.heap.size = sz ∧ va_P (dC, dI) vwCl [(q, .inr (8, [.ref qr, .ref qd, .int (nI fi), .int (nI qz)])), (qr, .inl (kL, N, .inr (.inl fr)))] U.heap ∧ va_K (dC, dI) vwCl [(kL, .long)] U ∧ va_D (fun _ => True) [(q, .inr (8, [.ref qr, .ref qd, .int (nI fi), .int (nI qz)])), (qr, .inl (kL, N, .inr (.inl fr)))] ∧ sgA t v Ns b (va_A [(q, .inr (8, [.ref qr, .ref qd, .int (nI fi), .int (nI qz)])), (qr, .inl (kL, N, .inr (.inl fr)))] sz) U U.heap ∧ sgF (va_A [(q, .inr (8, [.ref qr, .ref qd, .int (nI fi), .int (nI qz)])), (qr, .inl (kL, N, .inr (.inl fr)))] sz) U U.heap)) (va_Qv (fun _ : Unit => True) (fun (_ : Unit) (tS : State) => ∃ (qz2 : Nat) (gr : Nat → Int64), (qz2 ≤ N) ∧ va_P (dC, dI) vwCl [(q, .inr (8, [.ref qr, .ref qd, .int (nI fi), .int (nI qz2)])), (qr, .inl (kL, N, .inr (.inl gr)))] tS.heap ∧ va_K (dC, dI) vwCl [(kL, .long)] tS ∧ va_D (va_A [(q, .inr (8, [.ref qr, .ref qd, .int (nI fi), .int (nI qz)])), (qr, .inl (kL, N, .inr (.inl fr)))] sz) [(q, .inr (8, [.ref qr, .ref qd, .int (nI fi), .int (nI qz2)])), (qr, .inl (kL, N, .inr (.inl gr)))]) (va_A [(q, .inr (8, [.ref qr, .ref qd, .int (nI fi), .int (nI qz)])), (qr, .inl (kL, N, .inr (.inl fr)))] sz)) 0 0 (va_A [(q, .inr (8, [.ref qr, .ref qd, .int (nI fi), .int (nI qz)])), (qr, .inl (kL, N, .inr (.inl fr)))] sz) := by
  refine Met.ofW (cc := cX8_putText) (maxL := 3) (ret := none) (by decide) rfl ?_
  intro p e s m args below meth c s₁ B hml hv
  obtain ⟨rfl, hsz, hP, hK, hD0, hpre0, hpre1⟩ := hv
  have hx := B.exec
  have hb := B.bytes
  have hr := B.returns
  have hts := atoms_spec (ws := wp_c_putT) B.pre
  have hown : s.vm.findClass RX8 = some m.cls := findClass_of_methodNamed B.named
  have hlocks := B.notSynchronized
  subst hsz
  have hD := hD0.self (sz := s.heap.size)
  generalize hAe : va_A [(q, .inr (8, [.ref qr, .ref qd, .int (nI fi), .int (nI qz)])), (qr, .inl (kL, N, .inr (.inl fr)))] s.heap.size = A at hD hpre0 hpre1 ⊢
  have hA : ∀ q : Nat, s.heap.size ≤ q → A q := fun q h => by rw [← hAe]; exact Or.inr h
  have hS : va_S A s.heap s.heap [] := va_S.rf
  have hP : va_P (dC, dI) vwCl [(q, .inr (8, [.ref qr, .ref qd, .int (nI fi), .int (nI qz)])), (qr, .inl (kL, N, .inr (.inl fr)))] s.heap := hP
  have hl := lv_entry ([.ref q, .ref t]) (n := 3) (Nat.le_of_ble_eq_true rfl)
  rw [lg_entry_eq]
  generalize (lg_sl ([.ref q, .ref t]) ++ List.replicate (3 - (lg_sl ([.ref q, .ref t])).length) Slot.unset).toArray = ls at hl ⊢
  have hl : lv_has ls 3 [(0, .ref q), (1, .ref t)] := hl
  refine lv_iconst (v := 0) hx hb dX8_putText_0 (by decide) ?_
  refine lv_istore_n (lv' := [(2, .int 0), (0, .ref q), (1, .ref t)]) hx hb dX8_putText_1 rfl hl (by decide) rfl (fun ls hl => ?_)
  refine W_q (fun Q1 hQ1 => ?_)
  have key1 : ∀ (n1 : Nat) (i z9 : Nat) (f9 : Nat → Int64) (H : Heap) (locs : List Loc) (ls : Array Slot), (i + n1 = Ns + 1 ∧ i ≤ Ns) → (z9 ≤ N) → va_P (dC, dI) vwCl [(q, .inr (8, [.ref qr, .ref qd, .int (nI fi), .int (nI z9)])), (qr, .inl (kL, N, .inr (.inl f9)))] H → va_D A [(q, .inr (8, [.ref qr, .ref qd, .int (nI fi), .int (nI z9)])), (qr, .inl (kL, N, .inr (.inl f9)))] → va_S A s.heap H locs → lv_has ls 3 [(2, .int (nI i)), (0, .ref q), (1, .ref t)] → W p l e (headSpec wp_c_putT ({ frames := 4, cells := 0, slots := 0, locals := 85 })).room s m ([.ref q, .ref t] : List Value).toArray below meth c H locs 0 0 Q1 (F0 m 2 ls []) := by
    intro n1
    induction n1 with
    | zero => intro i z9 f9 H locs ls hb0 hb1; exact absurd hb0 (by omega)
    | succ n1 ih1 =>
      intro i z9 f9 H locs ls hb0 hb1 hP hD hS hl
      refine lv_iload_n hx hb dX8_putText_2 rfl (lv_at hl 0 rfl) ?_
      refine lv_aload_n hx hb dX8_putText_3 rfl (lv_at hl 2 rfl) ?_
      have hPc := hP.sub (ws' := []) [] rfl
      have hDc := hD.sub (ws' := []) [] (by decide) rfl
      have hKc := hK.sub (tys' := []) [] rfl
      have hFc := va_free (wc := []) hD hS hA [] rfl
      refine va_calli (va_runV (As := []) (rest := [.int (nI i)]) ⟨hx, hb, hml, hown, hts⟩ (c_length l dC dI t v Ns b H.size (by omega)) (cwV 0 hts g_c_putT_c_length_4 rfl rfl rfl (by decide +kernel) ⟨Nat.le_of_ble_eq_true rfl, Nat.le_of_ble_eq_true rfl⟩) ⟨fun a U g mk q => by obtain ⟨q0, q1, qP, qK, qD, qx0⟩ := q; exact ⟨q0, q1, qP, va_K.moved (u := U) (U := U.calling g mk a) (Vm.Alike.refl U.vm) qK, qD, sgA.moved (u := U) (U := U.calling g mk a) (Vm.Alike.refl U.vm) qx0⟩, va_Orecv hpre0.1 hS, fun U hU hW => ⟨rfl, by rw [hU], by rw [hU]; exact hPc, va_K.moved hW.alike hKc, hDc.weaken (fun _ _ _ _ => trivial), by rw [hU]; exact ((hpre0.kept hS.2.1).moved hW.alike).narrow hFc⟩⟩ rfl rfl hl.1 rfl (lv_room (Nat.le_of_ble_eq_true rfl)) dX8_putText_4 ⟨(show 0 + 0 ≤ 0 by omega), (show 0 + 0 ≤ 0 by omega)⟩) hS (fun q _ h => hFc q h) hFc (fun r_1 u tS H1 locs ht hvm hw hB hz1 hk1 hS => ?_)
      obtain ⟨hP1, hK1, hD1⟩ := hB
      rw [ht] at hP1
      have hK1 := va_K.moved hvm.symm hK1
      obtain ⟨hP, hD⟩ := va_join (wr := [(q, .inr (8, [.ref qr, .ref qd, .int (nI fi), .int (nI z9)])), (qr, .inl (kL, N, .inr (.inl f9)))]) (w1 := []) hP hD [] [0, 1] rfl rfl (by decide) (by decide) hk1 hFc hP1 hD1
      generalize H1 = H at hP hS ⊢
      have hP : va_P (dC, dI) vwCl [(q, .inr (8, [.ref qr, .ref qd, .int (nI fi), .int (nI z9)])), (qr, .inl (kL, N, .inr (.inl f9)))] H := hP
      have hD : va_D A [(q, .inr (8, [.ref qr, .ref qd, .int (nI fi), .int (nI z9)])), (qr, .inl (kL, N, .inr (.inl f9)))] := hD
      have hK : va_K (dC, dI) vwCl [(kL, .long)] s := hK
      obtain rfl : r_1 = nI Ns := hw
      refine lv_icmp_ge (tgt := 27) hx hb dX8_putText_7 (by decide) (fun hc => ?_) (fun hc => ?_)
      · have hP9 := hP.sub (ws' := [(q, .inr (8, [.ref qr, .ref qd, .int (nI fi), .int (nI z9)])), (qr, .inl (kL, N, .inr (.inl f9)))]) [0, 1] rfl
        have hD9 := hD.sub (ws' := [(q, .inr (8, [.ref qr, .ref qd, .int (nI fi), .int (nI z9)])), (qr, .inl (kL, N, .inr (.inl f9)))]) [0, 1] (by decide) rfl
        have hK9 := hK.sub (tys' := [(kL, .long)]) [0] rfl
        subst hQ1
        exact W.vret hx hb hr (fun tS ht hW => ⟨⟨(), rfl, trivial, z9, f9, hb1, by rw [ht]; exact hP9, va_K.moved hW.alike hK9, hD9⟩, hS.F ht⟩) hS.2.2 dX8_putText_27
      · have hi : i < Ns := by rcases Nat.lt_or_ge i Ns with z8 | z8; exact z8; exact absurd (nI_le z8 (by omega)) hc
        refine lv_aload_n hx hb dX8_putText_10 rfl (lv_at hl 1 rfl) ?_
        refine lv_aload_n hx hb dX8_putText_11 rfl (lv_at hl 2 rfl) ?_
        refine lv_iload_n hx hb dX8_putText_12 rfl (lv_at hl 0 rfl) ?_
        have hPc := hP.sub (ws' := []) [] rfl
        have hDc := hD.sub (ws' := []) [] (by decide) rfl
        have hKc := hK.sub (tys' := []) [] rfl
        have hFc := va_free (wc := []) hD hS hA [] rfl
        refine va_calli (va_runV (As := [.int (nI i)]) (rest := [.ref q]) ⟨hx, hb, hml, hown, hts⟩ (c_charAt l dC dI t v Ns b i H.size hi (by omega)) (cwV 1 hts g_c_putT_c_charAt_13 rfl rfl rfl (by decide +kernel) ⟨Nat.le_of_ble_eq_true rfl, Nat.le_of_ble_eq_true rfl⟩) ⟨fun a U g mk q => by obtain ⟨q0, q1, qP, qK, qD, qx0, qx1⟩ := q; exact ⟨q0, q1, qP, va_K.moved (u := U) (U := U.calling g mk a) (Vm.Alike.refl U.vm) qK, qD, sgA.moved (u := U) (U := U.calling g mk a) (Vm.Alike.refl U.vm) qx0, sgF.moved (u := U) (U := U.calling g mk a) (Vm.Alike.refl U.vm) qx1⟩, va_Orecv hpre0.1 hS, fun U hU hW => ⟨rfl, by rw [hU], by rw [hU]; exact hPc, va_K.moved hW.alike hKc, hDc.weaken (fun _ _ _ _ => trivial), by rw [hU]; exact ((hpre0.kept hS.2.1).moved hW.alike).narrow hFc, by rw [hU]; exact ((hpre1.kept hS.2.1).moved hW.alike).narrow hFc⟩⟩ rfl rfl hl.1 rfl (lv_room (Nat.le_of_ble_eq_true rfl)) dX8_putText_13 ⟨(show 0 + 0 ≤ 0 by omega), (show 0 + 0 ≤ 0 by omega)⟩) hS (fun q _ h => hFc q h) hFc (fun r_2 u tS H1 locs ht hvm hw hB hz1 hk1 hS => ?_)
        obtain ⟨hP1, hK1, hD1⟩ := hB
        rw [ht] at hP1
        have hK1 := va_K.moved hvm.symm hK1
        obtain ⟨hP, hD⟩ := va_join (wr := [(q, .inr (8, [.ref qr, .ref qd, .int (nI fi), .int (nI z9)])), (qr, .inl (kL, N, .inr (.inl f9)))]) (w1 := []) hP hD [] [0, 1] rfl rfl (by decide) (by decide) hk1 hFc hP1 hD1
        generalize H1 = H at hP hS ⊢
        have hP : va_P (dC, dI) vwCl [(q, .inr (8, [.ref qr, .ref qd, .int (nI fi), .int (nI z9)])), (qr, .inl (kL, N, .inr (.inl f9)))] H := hP
        have hD : va_D A [(q, .inr (8, [.ref qr, .ref qd, .int (nI fi), .int (nI z9)])), (qr, .inl (kL, N, .inr (.inl f9)))] := hD
        have hK : va_K (dC, dI) vwCl [(kL, .long)] s := hK
        obtain ⟨f_3, ef_3⟩ : ∃ yY : Int64, yY = (r_2 : Int32).toInt64 := ⟨_, rfl⟩
        refine lv_i2l (v := f_3) hx hb dX8_putText_16 ef_3.symm ?_
        have hPc := hP.sub (ws' := [(q, .inr (8, [.ref qr, .ref qd, .int (nI fi), .int (nI z9)])), (qr, .inl (kL, N, .inr (.inl f9)))]) [0, 1] rfl
        have hDc := hD.sub (ws' := [(q, .inr (8, [.ref qr, .ref qd, .int (nI fi), .int (nI z9)])), (qr, .inl (kL, N, .inr (.inl f9)))]) [0, 1] (by decide) rfl
        have hKc := hK.sub (tys' := [(kL, .long)]) [0] rfl
        have hFc := va_free (wc := [(q, .inr (8, [.ref qr, .ref qd, .int (nI fi), .int (nI z9)])), (qr, .inl (kL, N, .inr (.inl f9)))]) hD hS hA [0, 1] rfl
        refine va_calli (va_runV (As := [.long f_3]) (rest := []) ⟨hx, hb, hml, hown, hts⟩ (c_put l dC dI q qr qd N fi z9 kL f9 f_3 H.size hN0 hN hfi hb1) (cwV 1 hts g_c_putT_c_put_17 rfl rfl rfl (by decide +kernel) ⟨Nat.le_of_ble_eq_true rfl, Nat.le_of_ble_eq_true rfl⟩) ⟨fun a U g mk q => by obtain ⟨q0, q1, qP, qK, qD⟩ := q; exact ⟨q0, q1, qP, va_K.moved (u := U) (U := U.calling g mk a) (Vm.Alike.refl U.vm) qK, qD⟩, va_recv hKc hPc (ci := 8) (q0 := 0) rfl rfl, fun U hU hW => ⟨rfl, by rw [hU], by rw [hU]; exact hPc, va_K.moved hW.alike hKc, hDc.weaken (fun _ _ _ _ => trivial)⟩⟩ rfl rfl hl.1 rfl (lv_room (Nat.le_of_ble_eq_true rfl)) dX8_putText_17 ⟨(show 0 + 0 ≤ 0 by omega), (show 0 + 0 ≤ 0 by omega)⟩) hS (fun q _ h => hFc q h) hFc (fun r_4 u tS H1 locs ht hvm hw hB hz1 hk1 hS => ?_)
        obtain ⟨z7, f7, hf4_0, hP1, hK1, hD1⟩ := hB
        rw [ht] at hP1
        have hK1 := va_K.moved hvm.symm hK1
        obtain ⟨hP, hD⟩ := va_join (wr := []) (w1 := [(q, .inr (8, [.ref qr, .ref qd, .int (nI fi), .int (nI z7)])), (qr, .inl (kL, N, .inr (.inl f7)))]) hP hD [0, 1] [] rfl rfl (by decide) (by decide) hk1 hFc hP1 hD1
        have hK := hK.app hK1
        generalize H1 = H at hP hS ⊢
        have hP : va_P (dC, dI) vwCl [(q, .inr (8, [.ref qr, .ref qd, .int (nI fi), .int (nI z7)])), (qr, .inl (kL, N, .inr (.inl f7)))] H := hP
        have hD : va_D A [(q, .inr (8, [.ref qr, .ref qd, .int (nI fi), .int (nI z7)])), (qr, .inl (kL, N, .inr (.inl f7)))] := hD
        have hK : va_K (dC, dI) vwCl [(kL, .long), (kL, .long)] s := hK
        have hK := hK.sub (tys' := [(kL, .long)]) [0] rfl
        have hP : va_P (dC, dI) vwCl [(q, .inr (8, [.ref qr, .ref qd, .int (nI fi), .int (nI z7)])), (qr, .inl (kL, N, .inr (.inl f7)))] H := hP
        have hD : va_D A [(q, .inr (8, [.ref qr, .ref qd, .int (nI fi), .int (nI z7)])), (qr, .inl (kL, N, .inr (.inl f7)))] := hD
        refine lv_pop hx hb dX8_putText_20 rfl ?_
        obtain ⟨x_5, ex_5⟩ : ∃ yY : Int32, yY = (nI i) + 1 := ⟨_, rfl⟩
        refine lv_iinc (v := x_5) (lv' := [(2, .int x_5), (0, .ref q), (1, .ref t)]) hx hb dX8_putText_21 hl (k := 0) rfl (by rw [ex_5]; rfl) (by decide) rfl (fun ls hl => ?_)
        obtain rfl : x_5 = nI (i + 1) := by rw [ex_5]; exact nI_1 i
        have hl : lv_has ls 3 [(2, .int (nI (i + 1))), (0, .ref q), (1, .ref t)] := hl
        refine lv_goto (tgt := 2) hx hb dX8_putText_24 (by decide) ?_
        exact ih1 (i + 1) z7 f7 _ _ _ (by omega) hf4_0 (hP.sub [0, 1] rfl) (hD.sub [0, 1] (by decide) rfl) hS (lv_sub hl [0, 1, 2] rfl)
  exact key1 (Ns + 1) 0 qz fr _ _ _ (by omega) hqz (hP.sub [0, 1] rfl) (hD.sub [0, 1] (by decide) rfl) hS (lv_sub hl [0, 1, 2] rfl)
