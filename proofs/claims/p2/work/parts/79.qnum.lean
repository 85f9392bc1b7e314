def wf_c_putN : List Cond := [.code yX8_putNumber cX8_putNumber 7 none, .fieldLink RX8 7 "OwnedPlaces$Queue" "digits" "[B", .constantLong RX8 38 48, .constantLong RX8 40 10, .code yX8_put cX8_put 3 (some .boolean), .fieldLink RX8 17 "OwnedPlaces$Queue" "size" "I", .fieldLink RX8 13 "OwnedPlaces$Queue" "row" "[J", .fieldLink RX8 21 "OwnedPlaces$Queue" "first" "I", .methodLink RX8 34 yX8_put, .instanceMethod yX8_put, .selects RX8 yX8_put yX8_put, .initialized RX8, .constantLong RX8 42 45]
def wp_c_putN : List Cond := wf_c_putN ++ (wsX80 ++ [])
theorem in_c_putN_X8 : ∀ w ∈ wsX80, w ∈ wp_c_putN := fun w h => List.mem_append_right _ (List.mem_append_left _ h)
theorem wg_c_putN : wf_c_putN.all goodWord = true := by decide +kernel
theorem wm_c_putN (k : Nat) {w : Cond} (h : wp_c_putN[k]? = some w) : w ∈ wp_c_putN := List.mem_of_getElem? h
set_option maxRecDepth 20000 in
theorem g_c_putN_c_put_95 : GoodIn wp_c_putN (wsV RX8 34 RX8 yX8_put wp_c_put) := goodIn_app (goodIn_f [.methodLink RX8 34 yX8_put, .instanceMethod yX8_put, .selects RX8 yX8_put yX8_put, .initialized RX8] [8, 9, 10, 11] rfl (by decide +kernel)) (goodIn_app (goodIn_f (wf_c_put) [4, 5, 6, 7] rfl wg_c_put) (goodIn_app (goodIn_sub in_c_putN_X8 gd_X8) (goodIn_n)))
set_option maxRecDepth 20000 in
theorem g_c_putN_c_put_72 : GoodIn wp_c_putN (wsV RX8 34 RX8 yX8_put wp_c_put) := goodIn_app (goodIn_f [.methodLink RX8 34 yX8_put, .instanceMethod yX8_put, .selects RX8 yX8_put yX8_put, .initialized RX8] [8, 9, 10, 11] rfl (by decide +kernel)) (goodIn_app (goodIn_f (wf_c_put) [4, 5, 6, 7] rfl wg_c_put) (goodIn_app (goodIn_sub in_c_putN_X8 gd_X8) (goodIn_n)))
set_option maxHeartbeats 4000000 in
set_option maxRecDepth 100000 in
theorem c_putN (l : Launch) (dC : Nat → ClassId) (dI : Nat → Nat → Nat) (q qr qd N fi qz : Nat) (kL : ClassId) (fr : Nat → Int64) (kB : ClassId) (fd : Nat → Int32) (v : Int64) (sz : Nat) (hN0 : 0 < N) (hN : N ≤ 4000) (hfi : fi < N) (hqz : qz ≤ N) : Met l yX8_putNumber wp_c_putN ({ frames := 1, cells := 0, slots := 0, locals := 22 }) (va_Pc [.ref q, .long v] (fun U => U.heap.size = sz ∧ va_P (dC, dI) vwCl [(q, .inr (8, [.ref qr, .ref qd, .int (nI fi), .int (nI qz)])), (qr, .inl (kL, N, .inr (.inl fr))), (qd, .inl (kB, 20, .inl fd))] U.heap ∧ va_K (dC, dI) vwCl [(kL, .long), (kB, .byte)] U ∧ va_D (fun _ => True) [(q, .inr (8, [.ref qr, .ref qd, .int (nI fi), .int (nI qz)])), (qr, .inl (kL, N, .inr (.inl fr))), (qd, .inl (kB, 20, .inl fd))])) (va_Qv (fun _ : Unit => True) (fun (_ : Unit) (tS : State) => ∃ (qz2 : Nat) (gr : Nat → Int64) (gd : Nat → Int32), (qz2 ≤ N) ∧ va_P (dC, dI) vwCl [(q, .inr (8, [.ref qr, .ref qd, .int (nI fi), .int (nI qz2)])), (qr, .inl (kL, N, .inr (.inl gr))), (qd, .inl (kB, 20, .inl gd))] tS.heap ∧ va_K (dC, dI) vwCl [(kL, .long), (kB, .byte)] tS ∧ va_D (va_A [(q, .inr (8, [.ref qr, .ref qd, .int (nI fi), .int (nI qz)])), (qr, .inl (kL, N, .inr (.inl fr))), (qd, .inl (kB, 20, .inl fd))] sz) [(q, .inr (8, [.ref qr, .ref qd, .int (nI fi), .int (nI qz2)])), (qr, .inl (kL, N, .inr (.inl gr))), (qd, .inl (kB, 20, .inl gd))]) (va_A [(q, .inr (8, [.ref qr, .ref qd, .int (nI fi), .int (nI qz)])), (qr, .inl (kL, N, .inr (.inl fr))), (qd, .inl (kB, 20, .inl fd))] sz)) 0 0 (va_A [(q, .inr (8, [.ref qr, .ref qd, .int (nI fi), .int (nI qz)])), (qr, .inl (kL, N, .inr (.inl fr))), (qd, .inl (kB, 20, .inl fd))] sz) := by
  refine Met.ofW (cc := cX8_putNumber) (maxL := 7) (ret := none) (by decide) rfl ?_
  intro p e s m args below meth c s₁ B hml hv
  obtain ⟨rfl, hsz, hP, hK, hD0⟩ := hv
  have hx := B.exec
  have hb := B.bytes
  have hr := B.returns
  have hts := atoms_spec (ws := wp_c_putN) B.pre
  have hown : s.vm.findClass RX8 = some m.cls := findClass_of_methodNamed B.named
  have hlocks := B.notSynchronized
  subst hsz
  have hD := hD0.self (sz := s.heap.size)
  generalize hAe : va_A [(q, .inr (8, [.ref qr, .ref qd, .int (nI fi), .int (nI qz)])), (qr, .inl (kL, N, .inr (.inl fr))), (qd, .inl (kB, 20, .inl fd))] s.heap.size = A at hD ⊢
  have hA : ∀ q : Nat, s.heap.size ≤ q → A q := fun q h => by rw [← hAe]; exact Or.inr h
  have hS : va_S A s.heap s.heap [] := va_S.rf
  have hP : va_P (dC, dI) vwCl [(q, .inr (8, [.ref qr, .ref qd, .int (nI fi), .int (nI qz)])), (qr, .inl (kL, N, .inr (.inl fr))), (qd, .inl (kB, 20, .inl fd))] s.heap := hP
  have hl := lv_entry ([.ref q, .long v]) (n := 7) (Nat.le_of_ble_eq_true rfl)
  rw [lg_entry_eq]
  generalize (lg_sl ([.ref q, .long v]) ++ List.replicate (7 - (lg_sl ([.ref q, .long v])).length) Slot.unset).toArray = ls at hl ⊢
  have hl : lv_has ls 7 [(0, .ref q), (1, .long v)] := hl
  refine lv_iconst (v := 0) hx hb dX8_putNumber_0 (by decide) ?_
  refine lv_istore_n (lv' := [(3, .int 0), (0, .ref q), (1, .long v)]) hx hb dX8_putNumber_1 rfl hl (by decide) rfl (fun ls hl => ?_)
  refine lv_lload_n hx hb dX8_putNumber_2 rfl (lv_at hl 2 rfl) ?_
  refine lv_lstore (lv' := [(4, .long v), (3, .int 0), (0, .ref q), (1, .long v)]) hx hb dX8_putNumber_3 hl (by decide) rfl (fun ls hl => ?_)
  refine lv_lload hx hb dX8_putNumber_5 (lv_at hl 0 rfl) ?_
  refine lv_lconst (v := 0) hx hb dX8_putNumber_7 (by decide) ?_
  refine W.lcmp hx hb dX8_putNumber_8 ?_
  refine lv_topi (fun f_1 ef_1 => ?_)
  refine lv_if_le (tgt := 17) hx hb dX8_putNumber_9 (by decide) (fun hz0 => ?_) (fun hz0 => ?_)
  · refine W_q (fun Q1 hQ1 => ?_)
    have key1 : ∀ (n1 : Nat) (i : Nat) (rs : Int64) (d1 : Nat → Int32) (H : Heap) (locs : List Loc) (ls : Array Slot), (i + n1 = 20 ∧ i < 20) → va_P (dC, dI) vwCl [(q, .inr (8, [.ref qr, .ref qd, .int (nI fi), .int (nI qz)])), (qr, .inl (kL, N, .inr (.inl fr))), (qd, .inl (kB, 20, .inl d1))] H → va_D A [(q, .inr (8, [.ref qr, .ref qd, .int (nI fi), .int (nI qz)])), (qr, .inl (kL, N, .inr (.inl fr))), (qd, .inl (kB, 20, .inl d1))] → va_S A s.heap H locs → lv_has ls 7 [(3, .int (nI i)), (4, .long rs), (0, .ref q), (1, .long v)] → W p l e (headSpec wp_c_putN ({ frames := 1, cells := 0, slots := 0, locals := 22 })).room s m ([.ref q, .long v] : List Value).toArray below meth c H locs 0 0 Q1 (F0 m 17 ls []) := by
      intro n1
      induction n1 with
      | zero => intro i rs d1 H locs ls hb0; exact absurd hb0 (by omega)
      | succ n1 ih1 =>
        intro i rs d1 H locs ls hb0 hP hD hS hl
        refine lv_aload_n hx hb dX8_putNumber_17 rfl (lv_at hl 2 rfl) ?_
        refine va_get (D := (dC, dI)) (ci := 8) (v := .ref qd) (C := RX8) (T := TX8) (N := 4) hx hb hts in_c_putN_X8 hown hK hP 0 rfl rfl 1 (by decide) (hts (.fieldLink RX8 7 "OwnedPlaces$Queue" "digits" "[B") (wm_c_putN 1 rfl)) (fun _ h9 => h9) rfl dX8_putNumber_18 ?_
        refine lv_iload_n hx hb dX8_putNumber_21 rfl (lv_at hl 0 rfl) ?_
        refine lv_ldc2 (v := 48) hx hb hown (hts (.constantLong RX8 38 48) (wm_c_putN 2 rfl)) dX8_putNumber_22 ?_
        refine lv_lload hx hb dX8_putNumber_25 (lv_at hl 1 rfl) ?_
        refine lv_ldc2 (v := 10) hx hb hown (hts (.constantLong RX8 40 10) (wm_c_putN 3 rfl)) dX8_putNumber_27 ?_
        refine lv_lrem hx hb dX8_putNumber_30 (by decide) ?_
        refine lv_topl (fun f_2 ef_2 => ?_)
        refine lv_lsub hx hb dX8_putNumber_31 ?_
        refine lv_topl (fun f_3 ef_3 => ?_)
        obtain ⟨f_4, ef_4⟩ : ∃ yY : Int32, yY = (f_3 : Int64).toInt32 := ⟨_, rfl⟩
        refine lv_l2i (v := f_4) hx hb dX8_putNumber_32 ef_4.symm ?_
        obtain ⟨f_5, ef_5⟩ : ∃ yY : Int32, yY = (f_4 : Int32).toInt8.toInt32 := ⟨_, rfl⟩
        refine lv_i2b (v := f_5) hx hb dX8_putNumber_33 ef_5.symm ?_
        refine va_bast hx hb hK hP hD hS 2 1 rfl rfl (vp_in_nI (by omega) (by decide)) dX8_putNumber_34 (fun H locs hP hD hS => ?_)
        have hP : va_P (dC, dI) vwCl [(q, .inr (8, [.ref qr, .ref qd, .int (nI fi), .int (nI qz)])), (qr, .inl (kL, N, .inr (.inl fr))), (qd, .inl (kB, 20, .inl (upd d1 (nI i : Int32).toNatClampNeg (vp_nar .byte f_5))))] H := hP
        have hD : va_D A [(q, .inr (8, [.ref qr, .ref qd, .int (nI fi), .int (nI qz)])), (qr, .inl (kL, N, .inr (.inl fr))), (qd, .inl (kB, 20, .inl (upd d1 (nI i : Int32).toNatClampNeg (vp_nar .byte f_5))))] := hD
        obtain ⟨d2, ed2⟩ : ∃ zZ : Nat → Int32, zZ = upd d1 (nI i : Int32).toNatClampNeg (vp_nar .byte f_5) := ⟨_, rfl⟩
        rw [← ed2] at hP hD
        refine lv_lload hx hb dX8_putNumber_35 (lv_at hl 1 rfl) ?_
        refine lv_ldc2 (v := 10) hx hb hown (hts (.constantLong RX8 40 10) (wm_c_putN 3 rfl)) dX8_putNumber_37 ?_
        refine lv_ldiv hx hb dX8_putNumber_40 (by decide) ?_
        refine lv_topl (fun f_6 ef_6 => ?_)
        refine lv_lstore (lv' := [(4, .long f_6), (3, .int (nI i)), (0, .ref q), (1, .long v)]) hx hb dX8_putNumber_41 hl (by decide) rfl (fun ls hl => ?_)
        obtain ⟨x_7, ex_7⟩ : ∃ yY : Int32, yY = (nI i) + 1 := ⟨_, rfl⟩
        refine lv_iinc (v := x_7) (lv' := [(3, .int x_7), (4, .long f_6), (0, .ref q), (1, .long v)]) hx hb dX8_putNumber_43 hl (k := 1) rfl (by rw [ex_7]; rfl) (by decide) rfl (fun ls hl => ?_)
        obtain rfl : x_7 = nI (i + 1) := by rw [ex_7]; exact nI_1 i
        have hl : lv_has ls 7 [(3, .int (nI (i + 1))), (4, .long f_6), (0, .ref q), (1, .long v)] := hl
        refine lv_lload hx hb dX8_putNumber_46 (lv_at hl 1 rfl) ?_
        refine lv_lconst (v := 0) hx hb dX8_putNumber_48 (by decide) ?_
        refine W.lcmp hx hb dX8_putNumber_49 ?_
        refine lv_topi (fun f_8 ef_8 => ?_)
        refine lv_if_eq (tgt := 62) hx hb dX8_putNumber_50 (by decide) (fun hz1 => ?_) (fun hz1 => ?_)
        · refine lv_lload_n hx hb dX8_putNumber_62 rfl (lv_at hl 3 rfl) ?_
          refine lv_lconst (v := 0) hx hb dX8_putNumber_63 (by decide) ?_
          refine W.lcmp hx hb dX8_putNumber_64 ?_
          refine lv_topi (fun f_9 ef_9 => ?_)
          refine lv_if_ge (tgt := 76) hx hb dX8_putNumber_65 (by decide) (fun hz3 => ?_) (fun hz3 => ?_)
          · refine lv_iload_n hx hb dX8_putNumber_76 rfl (lv_at hl 0 rfl) ?_
            refine lv_iconst (v := 1) hx hb dX8_putNumber_77 (by decide) ?_
            refine lv_isub hx hb dX8_putNumber_78 ?_
            refine lv_topi (fun f_10 ef_10 => ?_)
            obtain rfl : f_10 = (nI (i + 1) - 1) := ef_10
            refine lv_istore (lv' := [(6, .int (nI (i + 1) - 1)), (3, .int (nI (i + 1))), (4, .long f_6), (0, .ref q), (1, .long v)]) hx hb dX8_putNumber_79 hl (by decide) rfl (fun ls hl => ?_)
            refine W_q (fun Q2 hQ2 => ?_)
            have key2 : ∀ (n2 : Nat) (j z9 : Nat) (f9 : Nat → Int64) (H : Heap) (locs : List Loc) (ls : Array Slot), (j + 1 = n2 + 0 ∧ j ≤ 20) → (z9 ≤ N) → va_P (dC, dI) vwCl [(q, .inr (8, [.ref qr, .ref qd, .int (nI fi), .int (nI z9)])), (qr, .inl (kL, N, .inr (.inl f9))), (qd, .inl (kB, 20, .inl d2))] H → va_D A [(q, .inr (8, [.ref qr, .ref qd, .int (nI fi), .int (nI z9)])), (qr, .inl (kL, N, .inr (.inl f9))), (qd, .inl (kB, 20, .inl d2))] → va_S A s.heap H locs → lv_has ls 7 [(6, .int (nI j - 1)), (0, .ref q)] → W p l e (headSpec wp_c_putN ({ frames := 1, cells := 0, slots := 0, locals := 22 })).room s m ([.ref q, .long v] : List Value).toArray below meth c H locs 0 0 Q2 (F0 m 81 ls []) := by
              intro n2
              induction n2 with
              | zero => intro j z9 f9 H locs ls hc0 hc1; exact absurd hc0 (by omega)
              | succ n2 ih2 =>
                intro j z9 f9 H locs ls hc0 hc1 hP hD hS hl
                refine lv_iload hx hb dX8_putNumber_81 (lv_at hl 0 rfl) ?_
                refine lv_if_lt (tgt := 105) hx hb dX8_putNumber_83 (by decide) (fun hz7 => ?_) (fun hz7 => ?_)
                · have hP9 := hP.sub (ws' := [(q, .inr (8, [.ref qr, .ref qd, .int (nI fi), .int (nI z9)])), (qr, .inl (kL, N, .inr (.inl f9))), (qd, .inl (kB, 20, .inl d2))]) [0, 1, 2] rfl
                  have hD9 := hD.sub (ws' := [(q, .inr (8, [.ref qr, .ref qd, .int (nI fi), .int (nI z9)])), (qr, .inl (kL, N, .inr (.inl f9))), (qd, .inl (kB, 20, .inl d2))]) [0, 1, 2] (by decide) rfl
                  have hK9 := hK.sub (tys' := [(kL, .long), (kB, .byte)]) [0, 1] rfl
                  subst hQ2
                  subst hQ1
                  exact W.vret hx hb hr (fun tS ht hW => ⟨⟨(), rfl, trivial, z9, f9, d2, hc1, by rw [ht]; exact hP9, va_K.moved hW.alike hK9, hD9⟩, hS.F ht⟩) hS.2.2 dX8_putNumber_105
                · obtain ⟨j1, rfl⟩ : ∃ j1, j = j1 + 1 := by rcases Nat.eq_zero_or_pos j with z8 | z8; exact absurd (show nI j - 1 < 0 by rw [z8]; decide) hz7; exact ⟨j - 1, by omega⟩
                  have ej : nI (j1 + 1) - 1 = nI j1 := nI_pred j1
                  rw [ej] at hl
                  refine lv_aload_n hx hb dX8_putNumber_86 rfl (lv_at hl 1 rfl) ?_
                  refine lv_aload_n hx hb dX8_putNumber_87 rfl (lv_at hl 1 rfl) ?_
                  refine va_get (D := (dC, dI)) (ci := 8) (v := .ref qd) (C := RX8) (T := TX8) (N := 4) hx hb hts in_c_putN_X8 hown hK hP 0 rfl rfl 1 (by decide) (hts (.fieldLink RX8 7 "OwnedPlaces$Queue" "digits" "[B") (wm_c_putN 1 rfl)) (fun _ h9 => h9) rfl dX8_putNumber_88 ?_
                  refine lv_iload hx hb dX8_putNumber_91 (lv_at hl 0 rfl) ?_
                  refine va_bald hx hb hK hP 2 1 rfl rfl (vp_in_nI (by omega) (by decide)) dX8_putNumber_93 ?_
                  refine lv_topi (fun v_11 ev_11 => ?_)
                  obtain ⟨f_12, ef_12⟩ : ∃ yY : Int64, yY = (v_11 : Int32).toInt64 := ⟨_, rfl⟩
                  refine lv_i2l (v := f_12) hx hb dX8_putNumber_94 ef_12.symm ?_
                  have hPc := hP.sub (ws' := [(q, .inr (8, [.ref qr, .ref qd, .int (nI fi), .int (nI z9)])), (qr, .inl (kL, N, .inr (.inl f9)))]) [0, 1] rfl
                  have hDc := hD.sub (ws' := [(q, .inr (8, [.ref qr, .ref qd, .int (nI fi), .int (nI z9)])), (qr, .inl (kL, N, .inr (.inl f9)))]) [0, 1] (by decide) rfl
                  have hKc := hK.sub (tys' := [(kL, .long)]) [0] rfl
                  have hFc := va_free (wc := [(q, .inr (8, [.ref qr, .ref qd, .int (nI fi), .int (nI z9)])), (qr, .inl (kL, N, .inr (.inl f9)))]) hD hS hA [0, 1] rfl
                  refine va_calli (va_runV (As := [.long f_12]) (rest := []) ⟨hx, hb, hml, hown, hts⟩ (c_put l dC dI q qr qd N fi z9 kL f9 f_12 H.size hN0 hN hfi hc1) (cwV 1 hts g_c_putN_c_put_95 rfl rfl rfl (by decide +kernel) ⟨Nat.le_of_ble_eq_true rfl, Nat.le_of_ble_eq_true rfl⟩) ⟨fun a U g mk q => by obtain ⟨q0, q1, qP, qK, qD⟩ := q; exact ⟨q0, q1, qP, va_K.moved (u := U) (U := U.calling g mk a) (Vm.Alike.refl U.vm) qK, qD⟩, va_recv hKc hPc (ci := 8) (q0 := 0) rfl rfl, fun U hU hW => ⟨rfl, by rw [hU], by rw [hU]; exact hPc, va_K.moved hW.alike hKc, hDc.weaken (fun _ _ _ _ => trivial)⟩⟩ rfl rfl hl.1 rfl (lv_room (Nat.le_of_ble_eq_true rfl)) dX8_putNumber_95 ⟨(show 0 + 0 ≤ 0 by omega), (show 0 + 0 ≤ 0 by omega)⟩) hS (fun q _ h => hFc q h) hFc (fun r_13 u tS H1 locs ht hvm hw hB hz1 hk1 hS => ?_)
                  obtain ⟨z7, f7, hf13_0, hP1, hK1, hD1⟩ := hB
                  rw [ht] at hP1
                  have hK1 := va_K.moved hvm.symm hK1
                  obtain ⟨hP, hD⟩ := va_join (wr := [(qd, .inl (kB, 20, .inl d2))]) (w1 := [(q, .inr (8, [.ref qr, .ref qd, .int (nI fi), .int (nI z7)])), (qr, .inl (kL, N, .inr (.inl f7)))]) hP hD [0, 1] [2] rfl rfl (by decide) (by decide) hk1 hFc hP1 hD1
                  have hK := hK.app hK1
                  generalize H1 = H at hP hS ⊢
                  have hP : va_P (dC, dI) vwCl [(qd, .inl (kB, 20, .inl d2)), (q, .inr (8, [.ref qr, .ref qd, .int (nI fi), .int (nI z7)])), (qr, .inl (kL, N, .inr (.inl f7)))] H := hP
                  have hD : va_D A [(qd, .inl (kB, 20, .inl d2)), (q, .inr (8, [.ref qr, .ref qd, .int (nI fi), .int (nI z7)])), (qr, .inl (kL, N, .inr (.inl f7)))] := hD
                  have hK : va_K (dC, dI) vwCl [(kL, .long), (kB, .byte), (kL, .long)] s := hK
                  have hK := hK.sub (tys' := [(kL, .long), (kB, .byte)]) [0, 1] rfl
                  have hP : va_P (dC, dI) vwCl [(qd, .inl (kB, 20, .inl d2)), (q, .inr (8, [.ref qr, .ref qd, .int (nI fi), .int (nI z7)])), (qr, .inl (kL, N, .inr (.inl f7)))] H := hP
                  have hD : va_D A [(qd, .inl (kB, 20, .inl d2)), (q, .inr (8, [.ref qr, .ref qd, .int (nI fi), .int (nI z7)])), (qr, .inl (kL, N, .inr (.inl f7)))] := hD
                  refine lv_pop hx hb dX8_putNumber_98 rfl ?_
                  obtain ⟨x_14, ex_14⟩ : ∃ yY : Int32, yY = (nI j1) + (-1) := ⟨_, rfl⟩
                  refine lv_iinc (v := x_14) (lv' := [(6, .int x_14), (0, .ref q)]) hx hb dX8_putNumber_99 hl (k := 0) rfl (by rw [ex_14]; rfl) (by decide) rfl (fun ls hl => ?_)
                  obtain rfl : x_14 = (nI j1 - 1) := by rw [ex_14]; exact (Int32.sub_eq_add_neg (a := nI j1) (b := 1)).symm
                  have hl : lv_has ls 7 [(6, .int (nI j1 - 1)), (0, .ref q)] := hl
                  refine lv_goto (tgt := 81) hx hb dX8_putNumber_102 (by decide) ?_
                  exact ih2 j1 z7 f7 _ _ _ (by omega) hf13_0 (hP.sub [1, 2, 0] rfl) (hD.sub [1, 2, 0] (by decide) rfl) hS (lv_sub hl [0, 1] rfl)
            exact key2 (i + 1 + 1) (i + 1) qz fr _ _ _ (by omega) hqz (hP.sub [0, 1, 2] rfl) (hD.sub [0, 1, 2] (by decide) rfl) hS (lv_sub hl [0, 3] rfl)
          · refine lv_aload_n hx hb dX8_putNumber_68 rfl (lv_at hl 2 rfl) ?_
            refine lv_ldc2 (v := 45) hx hb hown (hts (.constantLong RX8 42 45) (wm_c_putN 12 rfl)) dX8_putNumber_69 ?_
            have hPc := hP.sub (ws' := [(q, .inr (8, [.ref qr, .ref qd, .int (nI fi), .int (nI qz)])), (qr, .inl (kL, N, .inr (.inl fr)))]) [0, 1] rfl
            have hDc := hD.sub (ws' := [(q, .inr (8, [.ref qr, .ref qd, .int (nI fi), .int (nI qz)])), (qr, .inl (kL, N, .inr (.inl fr)))]) [0, 1] (by decide) rfl
            have hKc := hK.sub (tys' := [(kL, .long)]) [0] rfl
            have hFc := va_free (wc := [(q, .inr (8, [.ref qr, .ref qd, .int (nI fi), .int (nI qz)])), (qr, .inl (kL, N, .inr (.inl fr)))]) hD hS hA [0, 1] rfl
            refine va_calli (va_runV (As := [.long 45]) (rest := []) ⟨hx, hb, hml, hown, hts⟩ (c_put l dC dI q qr qd N fi qz kL fr 45 H.size hN0 hN hfi hqz) (cwV 1 hts g_c_putN_c_put_72 rfl rfl rfl (by decide +kernel) ⟨Nat.le_of_ble_eq_true rfl, Nat.le_of_ble_eq_true rfl⟩) ⟨fun a U g mk q => by obtain ⟨q0, q1, qP, qK, qD⟩ := q; exact ⟨q0, q1, qP, va_K.moved (u := U) (U := U.calling g mk a) (Vm.Alike.refl U.vm) qK, qD⟩, va_recv hKc hPc (ci := 8) (q0 := 0) rfl rfl, fun U hU hW => ⟨rfl, by rw [hU], by rw [hU]; exact hPc, va_K.moved hW.alike hKc, hDc.weaken (fun _ _ _ _ => trivial)⟩⟩ rfl rfl hl.1 rfl (lv_room (Nat.le_of_ble_eq_true rfl)) dX8_putNumber_72 ⟨(show 0 + 0 ≤ 0 by omega), (show 0 + 0 ≤ 0 by omega)⟩) hS (fun q _ h => hFc q h) hFc (fun r_10 u tS H1 locs ht hvm hw hB hz1 hk1 hS => ?_)
            obtain ⟨qz5, gr5, hf10_0, hP1, hK1, hD1⟩ := hB
            rw [ht] at hP1
            have hK1 := va_K.moved hvm.symm hK1
            obtain ⟨hP, hD⟩ := va_join (wr := [(qd, .inl (kB, 20, .inl d2))]) (w1 := [(q, .inr (8, [.ref qr, .ref qd, .int (nI fi), .int (nI qz5)])), (qr, .inl (kL, N, .inr (.inl gr5)))]) hP hD [0, 1] [2] rfl rfl (by decide) (by decide) hk1 hFc hP1 hD1
            have hK := hK.app hK1
            generalize H1 = H at hP hS ⊢
            have hP : va_P (dC, dI) vwCl [(qd, .inl (kB, 20, .inl d2)), (q, .inr (8, [.ref qr, .ref qd, .int (nI fi), .int (nI qz5)])), (qr, .inl (kL, N, .inr (.inl gr5)))] H := hP
            have hD : va_D A [(qd, .inl (kB, 20, .inl d2)), (q, .inr (8, [.ref qr, .ref qd, .int (nI fi), .int (nI qz5)])), (qr, .inl (kL, N, .inr (.inl gr5)))] := hD
            have hK : va_K (dC, dI) vwCl [(kL, .long), (kB, .byte), (kL, .long)] s := hK
            have hK := hK.sub (tys' := [(kL, .long), (kB, .byte)]) [0, 1] rfl
            have hP : va_P (dC, dI) vwCl [(qd, .inl (kB, 20, .inl d2)), (q, .inr (8, [.ref qr, .ref qd, .int (nI fi), .int (nI qz5)])), (qr, .inl (kL, N, .inr (.inl gr5)))] H := hP
            have hD : va_D A [(qd, .inl (kB, 20, .inl d2)), (q, .inr (8, [.ref qr, .ref qd, .int (nI fi), .int (nI qz5)])), (qr, .inl (kL, N, .inr (.inl gr5)))] := hD
            refine lv_pop hx hb dX8_putNumber_75 rfl ?_
            refine lv_iload_n hx hb dX8_putNumber_76 rfl (lv_at hl 0 rfl) ?_
            refine lv_iconst (v := 1) hx hb dX8_putNumber_77 (by decide) ?_
            refine lv_isub hx hb dX8_putNumber_78 ?_
            refine lv_topi (fun f_11 ef_11 => ?_)
            obtain rfl : f_11 = (nI (i + 1) - 1) := ef_11
            refine lv_istore (lv' := [(6, .int (nI (i + 1) - 1)), (3, .int (nI (i + 1))), (4, .long f_6), (0, .ref q), (1, .long v)]) hx hb dX8_putNumber_79 hl (by decide) rfl (fun ls hl => ?_)
            refine W_q (fun Q2 hQ2 => ?_)
            have key2 : ∀ (n2 : Nat) (j z9 : Nat) (f9 : Nat → Int64) (H : Heap) (locs : List Loc) (ls : Array Slot), (j + 1 = n2 + 0 ∧ j ≤ 20) → (z9 ≤ N) → va_P (dC, dI) vwCl [(q, .inr (8, [.ref qr, .ref qd, .int (nI fi), .int (nI z9)])), (qr, .inl (kL, N, .inr (.inl f9))), (qd, .inl (kB, 20, .inl d2))] H → va_D A [(q, .inr (8, [.ref qr, .ref qd, .int (nI fi), .int (nI z9)])), (qr, .inl (kL, N, .inr (.inl f9))), (qd, .inl (kB, 20, .inl d2))] → va_S A s.heap H locs → lv_has ls 7 [(6, .int (nI j - 1)), (0, .ref q)] → W p l e (headSpec wp_c_putN ({ frames := 1, cells := 0, slots := 0, locals := 22 })).room s m ([.ref q, .long v] : List Value).toArray below meth c H locs 0 0 Q2 (F0 m 81 ls []) := by
              intro n2
              induction n2 with
              | zero => intro j z9 f9 H locs ls hc0 hc1; exact absurd hc0 (by omega)
              | succ n2 ih2 =>
                intro j z9 f9 H locs ls hc0 hc1 hP hD hS hl
                refine lv_iload hx hb dX8_putNumber_81 (lv_at hl 0 rfl) ?_
                refine lv_if_lt (tgt := 105) hx hb dX8_putNumber_83 (by decide) (fun hz7 => ?_) (fun hz7 => ?_)
                · have hP9 := hP.sub (ws' := [(q, .inr (8, [.ref qr, .ref qd, .int (nI fi), .int (nI z9)])), (qr, .inl (kL, N, .inr (.inl f9))), (qd, .inl (kB, 20, .inl d2))]) [0, 1, 2] rfl
                  have hD9 := hD.sub (ws' := [(q, .inr (8, [.ref qr, .ref qd, .int (nI fi), .int (nI z9)])), (qr, .inl (kL, N, .inr (.inl f9))), (qd, .inl (kB, 20, .inl d2))]) [0, 1, 2] (by decide) rfl
                  have hK9 := hK.sub (tys' := [(kL, .long), (kB, .byte)]) [0, 1] rfl
                  subst hQ2
                  subst hQ1
                  exact W.vret hx hb hr (fun tS ht hW => ⟨⟨(), rfl, trivial, z9, f9, d2, hc1, by rw [ht]; exact hP9, va_K.moved hW.alike hK9, hD9⟩, hS.F ht⟩) hS.2.2 dX8_putNumber_105
                · obtain ⟨j1, rfl⟩ : ∃ j1, j = j1 + 1 := by rcases Nat.eq_zero_or_pos j with z8 | z8; exact absurd (show nI j - 1 < 0 by rw [z8]; decide) hz7; exact ⟨j - 1, by omega⟩
                  have ej : nI (j1 + 1) - 1 = nI j1 := nI_pred j1
                  rw [ej] at hl
                  refine lv_aload_n hx hb dX8_putNumber_86 rfl (lv_at hl 1 rfl) ?_
                  refine lv_aload_n hx hb dX8_putNumber_87 rfl (lv_at hl 1 rfl) ?_
                  refine va_get (D := (dC, dI)) (ci := 8) (v := .ref qd) (C := RX8) (T := TX8) (N := 4) hx hb hts in_c_putN_X8 hown hK hP 0 rfl rfl 1 (by decide) (hts (.fieldLink RX8 7 "OwnedPlaces$Queue" "digits" "[B") (wm_c_putN 1 rfl)) (fun _ h9 => h9) rfl dX8_putNumber_88 ?_
                  refine lv_iload hx hb dX8_putNumber_91 (lv_at hl 0 rfl) ?_
                  refine va_bald hx hb hK hP 2 1 rfl rfl (vp_in_nI (by omega) (by decide)) dX8_putNumber_93 ?_
                  refine lv_topi (fun v_12 ev_12 => ?_)
                  obtain ⟨f_13, ef_13⟩ : ∃ yY : Int64, yY = (v_12 : Int32).toInt64 := ⟨_, rfl⟩
                  refine lv_i2l (v := f_13) hx hb dX8_putNumber_94 ef_13.symm ?_
                  have hPc := hP.sub (ws' := [(q, .inr (8, [.ref qr, .ref qd, .int (nI fi), .int (nI z9)])), (qr, .inl (kL, N, .inr (.inl f9)))]) [0, 1] rfl
                  have hDc := hD.sub (ws' := [(q, .inr (8, [.ref qr, .ref qd, .int (nI fi), .int (nI z9)])), (qr, .inl (kL, N, .inr (.inl f9)))]) [0, 1] (by decide) rfl
                  have hKc := hK.sub (tys' := [(kL, .long)]) [0] rfl
                  have hFc := va_free (wc := [(q, .inr (8, [.ref qr, .ref qd, .int (nI fi), .int (nI z9)])), (qr, .inl (kL, N, .inr (.inl f9)))]) hD hS hA [0, 1] rfl
                  refine va_calli (va_runV (As := [.long f_13]) (rest := []) ⟨hx, hb, hml, hown, hts⟩ (c_put l dC dI q qr qd N fi z9 kL f9 f_13 H.size hN0 hN hfi hc1) (cwV 1 hts g_c_putN_c_put_95 rfl rfl rfl (by decide +kernel) ⟨Nat.le_of_ble_eq_true rfl, Nat.le_of_ble_eq_true rfl⟩) ⟨fun a U g mk q => by obtain ⟨q0, q1, qP, qK, qD⟩ := q; exact ⟨q0, q1, qP, va_K.moved (u := U) (U := U.calling g mk a) (Vm.Alike.refl U.vm) qK, qD⟩, va_recv hKc hPc (ci := 8) (q0 := 0) rfl rfl, fun U hU hW => ⟨rfl, by rw [hU], by rw [hU]; exact hPc, va_K.moved hW.alike hKc, hDc.weaken (fun _ _ _ _ => trivial)⟩⟩ rfl rfl hl.1 rfl (lv_room (Nat.le_of_ble_eq_true rfl)) dX8_putNumber_95 ⟨(show 0 + 0 ≤ 0 by omega), (show 0 + 0 ≤ 0 by omega)⟩) hS (fun q _ h => hFc q h) hFc (fun r_14 u tS H1 locs ht hvm hw hB hz1 hk1 hS => ?_)
                  obtain ⟨z7, f7, hf14_0, hP1, hK1, hD1⟩ := hB
                  rw [ht] at hP1
                  have hK1 := va_K.moved hvm.symm hK1
                  obtain ⟨hP, hD⟩ := va_join (wr := [(qd, .inl (kB, 20, .inl d2))]) (w1 := [(q, .inr (8, [.ref qr, .ref qd, .int (nI fi), .int (nI z7)])), (qr, .inl (kL, N, .inr (.inl f7)))]) hP hD [0, 1] [2] rfl rfl (by decide) (by decide) hk1 hFc hP1 hD1
                  have hK := hK.app hK1
                  generalize H1 = H at hP hS ⊢
                  have hP : va_P (dC, dI) vwCl [(qd, .inl (kB, 20, .inl d2)), (q, .inr (8, [.ref qr, .ref qd, .int (nI fi), .int (nI z7)])), (qr, .inl (kL, N, .inr (.inl f7)))] H := hP
                  have hD : va_D A [(qd, .inl (kB, 20, .inl d2)), (q, .inr (8, [.ref qr, .ref qd, .int (nI fi), .int (nI z7)])), (qr, .inl (kL, N, .inr (.inl f7)))] := hD
                  have hK : va_K (dC, dI) vwCl [(kL, .long), (kB, .byte), (kL, .long)] s := hK
                  have hK := hK.sub (tys' := [(kL, .long), (kB, .byte)]) [0, 1] rfl
                  have hP : va_P (dC, dI) vwCl [(qd, .inl (kB, 20, .inl d2)), (q, .inr (8, [.ref qr, .ref qd, .int (nI fi), .int (nI z7)])), (qr, .inl (kL, N, .inr (.inl f7)))] H := hP
                  have hD : va_D A [(qd, .inl (kB, 20, .inl d2)), (q, .inr (8, [.ref qr, .ref qd, .int (nI fi), .int (nI z7)])), (qr, .inl (kL, N, .inr (.inl f7)))] := hD
                  refine lv_pop hx hb dX8_putNumber_98 rfl ?_
                  obtain ⟨x_15, ex_15⟩ : ∃ yY : Int32, yY = (nI j1) + (-1) := ⟨_, rfl⟩
                  refine lv_iinc (v := x_15) (lv' := [(6, .int x_15), (0, .ref q)]) hx hb dX8_putNumber_99 hl (k := 0) rfl (by rw [ex_15]; rfl) (by decide) rfl (fun ls hl => ?_)
                  obtain rfl : x_15 = (nI j1 - 1) := by rw [ex_15]; exact (Int32.sub_eq_add_neg (a := nI j1) (b := 1)).symm
                  have hl : lv_has ls 7 [(6, .int (nI j1 - 1)), (0, .ref q)] := hl
                  refine lv_goto (tgt := 81) hx hb dX8_putNumber_102 (by decide) ?_
                  exact ih2 j1 z7 f7 _ _ _ (by omega) hf14_0 (hP.sub [1, 2, 0] rfl) (hD.sub [1, 2, 0] (by decide) rfl) hS (lv_sub hl [0, 1] rfl)
            exact key2 (i + 1 + 1) (i + 1) qz5 gr5 _ _ _ (by omega) hf10_0 (hP.sub [1, 2, 0] rfl) (hD.sub [1, 2, 0] (by decide) rfl) hS (lv_sub hl [0, 3] rfl)
        · refine lv_iload_n hx hb dX8_putNumber_53 rfl (lv_at hl 0 rfl) ?_
          refine lv_aload_n hx hb dX8_putNumber_54 rfl (lv_at hl 2 rfl) ?_
          refine va_get (D := (dC, dI)) (ci := 8) (v := .ref qd) (C := RX8) (T := TX8) (N := 4) hx hb hts in_c_putN_X8 hown hK hP 0 rfl rfl 1 (by decide) (hts (.fieldLink RX8 7 "OwnedPlaces$Queue" "digits" "[B") (wm_c_putN 1 rfl)) (fun _ h9 => h9) rfl dX8_putNumber_55 ?_
          refine va_alen (v := 20) hx hb hK hP 2 1 rfl rfl rfl dX8_putNumber_58 ?_
          refine lv_icmp_lt (tgt := 17) hx hb dX8_putNumber_59 (by decide) (fun hz2 => ?_) (fun hz2 => ?_)
          · have hi : i + 1 < 20 := (nI_ltI (a := i + 1) (b := 20) (by omega) (by decide)).mp hz2
            exact ih1 (i + 1) f_6 d2 _ _ _ (by omega) (hP.sub [0, 1, 2] rfl) (hD.sub [0, 1, 2] (by decide) rfl) hS (lv_sub hl [0, 1, 2, 3] rfl)
          · refine lv_lload_n hx hb dX8_putNumber_62 rfl (lv_at hl 3 rfl) ?_
            refine lv_lconst (v := 0) hx hb dX8_putNumber_63 (by decide) ?_
            refine W.lcmp hx hb dX8_putNumber_64 ?_
            refine lv_topi (fun f_9 ef_9 => ?_)
            refine lv_if_ge (tgt := 76) hx hb dX8_putNumber_65 (by decide) (fun hz3 => ?_) (fun hz3 => ?_)
            · refine lv_iload_n hx hb dX8_putNumber_76 rfl (lv_at hl 0 rfl) ?_
              refine lv_iconst (v := 1) hx hb dX8_putNumber_77 (by decide) ?_
              refine lv_isub hx hb dX8_putNumber_78 ?_
              refine lv_topi (fun f_10 ef_10 => ?_)
              obtain rfl : f_10 = (nI (i + 1) - 1) := ef_10
              refine lv_istore (lv' := [(6, .int (nI (i + 1) - 1)), (3, .int (nI (i + 1))), (4, .long f_6), (0, .ref q), (1, .long v)]) hx hb dX8_putNumber_79 hl (by decide) rfl (fun ls hl => ?_)
              refine W_q (fun Q2 hQ2 => ?_)
              have key2 : ∀ (n2 : Nat) (j z9 : Nat) (f9 : Nat → Int64) (H : Heap) (locs : List Loc) (ls : Array Slot), (j + 1 = n2 + 0 ∧ j ≤ 20) → (z9 ≤ N) → va_P (dC, dI) vwCl [(q, .inr (8, [.ref qr, .ref qd, .int (nI fi), .int (nI z9)])), (qr, .inl (kL, N, .inr (.inl f9))), (qd, .inl (kB, 20, .inl d2))] H → va_D A [(q, .inr (8, [.ref qr, .ref qd, .int (nI fi), .int (nI z9)])), (qr, .inl (kL, N, .inr (.inl f9))), (qd, .inl (kB, 20, .inl d2))] → va_S A s.heap H locs → lv_has ls 7 [(6, .int (nI j - 1)), (0, .ref q)] → W p l e (headSpec wp_c_putN ({ frames := 1, cells := 0, slots := 0, locals := 22 })).room s m ([.ref q, .long v] : List Value).toArray below meth c H locs 0 0 Q2 (F0 m 81 ls []) := by
                intro n2
                induction n2 with
                | zero => intro j z9 f9 H locs ls hc0 hc1; exact absurd hc0 (by omega)
                | succ n2 ih2 =>
                  intro j z9 f9 H locs ls hc0 hc1 hP hD hS hl
                  refine lv_iload hx hb dX8_putNumber_81 (lv_at hl 0 rfl) ?_
                  refine lv_if_lt (tgt := 105) hx hb dX8_putNumber_83 (by decide) (fun hz7 => ?_) (fun hz7 => ?_)
                  · have hP9 := hP.sub (ws' := [(q, .inr (8, [.ref qr, .ref qd, .int (nI fi), .int (nI z9)])), (qr, .inl (kL, N, .inr (.inl f9))), (qd, .inl (kB, 20, .inl d2))]) [0, 1, 2] rfl
                    have hD9 := hD.sub (ws' := [(q, .inr (8, [.ref qr, .ref qd, .int (nI fi), .int (nI z9)])), (qr, .inl (kL, N, .inr (.inl f9))), (qd, .inl (kB, 20, .inl d2))]) [0, 1, 2] (by decide) rfl
                    have hK9 := hK.sub (tys' := [(kL, .long), (kB, .byte)]) [0, 1] rfl
                    subst hQ2
                    subst hQ1
                    exact W.vret hx hb hr (fun tS ht hW => ⟨⟨(), rfl, trivial, z9, f9, d2, hc1, by rw [ht]; exact hP9, va_K.moved hW.alike hK9, hD9⟩, hS.F ht⟩) hS.2.2 dX8_putNumber_105
                  · obtain ⟨j1, rfl⟩ : ∃ j1, j = j1 + 1 := by rcases Nat.eq_zero_or_pos j with z8 | z8; exact absurd (show nI j - 1 < 0 by rw [z8]; decide) hz7; exact ⟨j - 1, by omega⟩
                    have ej : nI (j1 + 1) - 1 = nI j1 := nI_pred j1
                    rw [ej] at hl
                    refine lv_aload_n hx hb dX8_putNumber_86 rfl (lv_at hl 1 rfl) ?_
                    refine lv_aload_n hx hb dX8_putNumber_87 rfl (lv_at hl 1 rfl) ?_
                    refine va_get (D := (dC, dI)) (ci := 8) (v := .ref qd) (C := RX8) (T := TX8) (N := 4) hx hb hts in_c_putN_X8 hown hK hP 0 rfl rfl 1 (by decide) (hts (.fieldLink RX8 7 "OwnedPlaces$Queue" "digits" "[B") (wm_c_putN 1 rfl)) (fun _ h9 => h9) rfl dX8_putNumber_88 ?_
                    refine lv_iload hx hb dX8_putNumber_91 (lv_at hl 0 rfl) ?_
                    refine va_bald hx hb hK hP 2 1 rfl rfl (vp_in_nI (by omega) (by decide)) dX8_putNumber_93 ?_
                    refine lv_topi (fun v_11 ev_11 => ?_)
                    obtain ⟨f_12, ef_12⟩ : ∃ yY : Int64, yY = (v_11 : Int32).toInt64 := ⟨_, rfl⟩
                    refine lv_i2l (v := f_12) hx hb dX8_putNumber_94 ef_12.symm ?_
                    have hPc := hP.sub (ws' := [(q, .inr (8, [.ref qr, .ref qd, .int (nI fi), .int (nI z9)])), (qr, .inl (kL, N, .inr (.inl f9)))]) [0, 1] rfl
                    have hDc := hD.sub (ws' := [(q, .inr (8, [.ref qr, .ref qd, .int (nI fi), .int (nI z9)])), (qr, .inl (kL, N, .inr (.inl f9)))]) [0, 1] (by decide) rfl
                    have hKc := hK.sub (tys' := [(kL, .long)]) [0] rfl
                    have hFc := va_free (wc := [(q, .inr (8, [.ref qr, .ref qd, .int (nI fi), .int (nI z9)])), (qr, .inl (kL, N, .inr (.inl f9)))]) hD hS hA [0, 1] rfl
                    refine va_calli (va_runV (As := [.long f_12]) (rest := []) ⟨hx, hb, hml, hown, hts⟩ (c_put l dC dI q qr qd N fi z9 kL f9 f_12 H.size hN0 hN hfi hc1) (cwV 1 hts g_c_putN_c_put_95 rfl rfl rfl (by decide +kernel) ⟨Nat.le_of_ble_eq_true rfl, Nat.le_of_ble_eq_true rfl⟩) ⟨fun a U g mk q => by obtain ⟨q0, q1, qP, qK, qD⟩ := q; exact ⟨q0, q1, qP, va_K.moved (u := U) (U := U.calling g mk a) (Vm.Alike.refl U.vm) qK, qD⟩, va_recv hKc hPc (ci := 8) (q0 := 0) rfl rfl, fun U hU hW => ⟨rfl, by rw [hU], by rw [hU]; exact hPc, va_K.moved hW.alike hKc, hDc.weaken (fun _ _ _ _ => trivial)⟩⟩ rfl rfl hl.1 rfl (lv_room (Nat.le_of_ble_eq_true rfl)) dX8_putNumber_95 ⟨(show 0 + 0 ≤ 0 by omega), (show 0 + 0 ≤ 0 by omega)⟩) hS (fun q _ h => hFc q h) hFc (fun r_13 u tS H1 locs ht hvm hw hB hz1 hk1 hS => ?_)
                    obtain ⟨z7, f7, hf13_0, hP1, hK1, hD1⟩ := hB
                    rw [ht] at hP1
                    have hK1 := va_K.moved hvm.symm hK1
                    obtain ⟨hP, hD⟩ := va_join (wr := [(qd, .inl (kB, 20, .inl d2))]) (w1 := [(q, .inr (8, [.ref qr, .ref qd, .int (nI fi), .int (nI z7)])), (qr, .inl (kL, N, .inr (.inl f7)))]) hP hD [0, 1] [2] rfl rfl (by decide) (by decide) hk1 hFc hP1 hD1
                    have hK := hK.app hK1
                    generalize H1 = H at hP hS ⊢
                    have hP : va_P (dC, dI) vwCl [(qd, .inl (kB, 20, .inl d2)), (q, .inr (8, [.ref qr, .ref qd, .int (nI fi), .int (nI z7)])), (qr, .inl (kL, N, .inr (.inl f7)))] H := hP
                    have hD : va_D A [(qd, .inl (kB, 20, .inl d2)), (q, .inr (8, [.ref qr, .ref qd, .int (nI fi), .int (nI z7)])), (qr, .inl (kL, N, .inr (.inl f7)))] := hD
                    have hK : va_K (dC, dI) vwCl [(kL, .long), (kB, .byte), (kL, .long)] s := hK
                    have hK := hK.sub (tys' := [(kL, .long), (kB, .byte)]) [0, 1] rfl
                    have hP : va_P (dC, dI) vwCl [(qd, .inl (kB, 20, .inl d2)), (q, .inr (8, [.ref qr, .ref qd, .int (nI fi), .int (nI z7)])), (qr, .inl (kL, N, .inr (.inl f7)))] H := hP
                    have hD : va_D A [(qd, .inl (kB, 20, .inl d2)), (q, .inr (8, [.ref qr, .ref qd, .int (nI fi), .int (nI z7)])), (qr, .inl (kL, N, .inr (.inl f7)))] := hD
                    refine lv_pop hx hb dX8_putNumber_98 rfl ?_
                    obtain ⟨x_14, ex_14⟩ : ∃ yY : Int32, yY = (nI j1) + (-1) := ⟨_, rfl⟩
                    refine lv_iinc (v := x_14) (lv' := [(6, .int x_14), (0, .ref q)]) hx hb dX8_putNumber_99 hl (k := 0) rfl (by rw [ex_14]; rfl) (by decide) rfl (fun ls hl => ?_)
                    obtain rfl : x_14 = (nI j1 - 1) := by rw [ex_14]; exact (Int32.sub_eq_add_neg (a := nI j1) (b := 1)).symm
                    have hl : lv_has ls 7 [(6, .int (nI j1 - 1)), (0, .ref q)] := hl
                    refine lv_goto (tgt := 81) hx hb dX8_putNumber_102 (by decide) ?_
                    exact ih2 j1 z7 f7 _ _ _ (by omega) hf13_0 (hP.sub [1, 2, 0] rfl) (hD.sub [1, 2, 0] (by decide) rfl) hS (lv_sub hl [0, 1] rfl)
              exact key2 (i + 1 + 1) (i + 1) qz fr _ _ _ (by omega) hqz (hP.sub [0, 1, 2] rfl) (hD.sub [0, 1, 2] (by decide) rfl) hS (lv_sub hl [0, 3] rfl)
            · refine lv_aload_n hx hb dX8_putNumber_68 rfl (lv_at hl 2 rfl) ?_
              refine lv_ldc2 (v := 45) hx hb hown (hts (.constantLong RX8 42 45) (wm_c_putN 12 rfl)) dX8_putNumber_69 ?_
              have hPc := hP.sub (ws' := [(q, .inr (8, [.ref qr, .ref qd, .int (nI fi), .int (nI qz)])), (qr, .inl (kL, N, .inr (.inl fr)))]) [0, 1] rfl
              have hDc := hD.sub (ws' := [(q, .inr (8, [.ref qr, .ref qd, .int (nI fi), .int (nI qz)])), (qr, .inl (kL, N, .inr (.inl fr)))]) [0, 1] (by decide) rfl
              have hKc := hK.sub (tys' := [(kL, .long)]) [0] rfl
              have hFc := va_free (wc := [(q, .inr (8, [.ref qr, .ref qd, .int (nI fi), .int (nI qz)])), (qr, .inl (kL, N, .inr (.inl fr)))]) hD hS hA [0, 1] rfl
              refine va_calli (va_runV (As := [.long 45]) (rest := []) ⟨hx, hb, hml, hown, hts⟩ (c_put l dC dI q qr qd N fi qz kL fr 45 H.size hN0 hN hfi hqz) (cwV 1 hts g_c_putN_c_put_72 rfl rfl rfl (by decide +kernel) ⟨Nat.le_of_ble_eq_true rfl, Nat.le_of_ble_eq_true rfl⟩) ⟨fun a U g mk q => by obtain ⟨q0, q1, qP, qK, qD⟩ := q; exact ⟨q0, q1, qP, va_K.moved (u := U) (U := U.calling g mk a) (Vm.Alike.refl U.vm) qK, qD⟩, va_recv hKc hPc (ci := 8) (q0 := 0) rfl rfl, fun U hU hW => ⟨rfl, by rw [hU], by rw [hU]; exact hPc, va_K.moved hW.alike hKc, hDc.weaken (fun _ _ _ _ => trivial)⟩⟩ rfl rfl hl.1 rfl (lv_room (Nat.le_of_ble_eq_true rfl)) dX8_putNumber_72 ⟨(show 0 + 0 ≤ 0 by omega), (show 0 + 0 ≤ 0 by omega)⟩) hS (fun q _ h => hFc q h) hFc (fun r_10 u tS H1 locs ht hvm hw hB hz1 hk1 hS => ?_)
              obtain ⟨qz5, gr5, hf10_0, hP1, hK1, hD1⟩ := hB
              rw [ht] at hP1
              have hK1 := va_K.moved hvm.symm hK1
              obtain ⟨hP, hD⟩ := va_join (wr := [(qd, .inl (kB, 20, .inl d2))]) (w1 := [(q, .inr (8, [.ref qr, .ref qd, .int (nI fi), .int (nI qz5)])), (qr, .inl (kL, N, .inr (.inl gr5)))]) hP hD [0, 1] [2] rfl rfl (by decide) (by decide) hk1 hFc hP1 hD1
              have hK := hK.app hK1
              generalize H1 = H at hP hS ⊢
              have hP : va_P (dC, dI) vwCl [(qd, .inl (kB, 20, .inl d2)), (q, .inr (8, [.ref qr, .ref qd, .int (nI fi), .int (nI qz5)])), (qr, .inl (kL, N, .inr (.inl gr5)))] H := hP
              have hD : va_D A [(qd, .inl (kB, 20, .inl d2)), (q, .inr (8, [.ref qr, .ref qd, .int (nI fi), .int (nI qz5)])), (qr, .inl (kL, N, .inr (.inl gr5)))] := hD
              have hK : va_K (dC, dI) vwCl [(kL, .long), (kB, .byte), (kL, .long)] s := hK
              have hK := hK.sub (tys' := [(kL, .long), (kB, .byte)]) [0, 1] rfl
              have hP : va_P (dC, dI) vwCl [(qd, .inl (kB, 20, .inl d2)), (q, .inr (8, [.ref qr, .ref qd, .int (nI fi), .int (nI qz5)])), (qr, .inl (kL, N, .inr (.inl gr5)))] H := hP
              have hD : va_D A [(qd, .inl (kB, 20, .inl d2)), (q, .inr (8, [.ref qr, .ref qd, .int (nI fi), .int (nI qz5)])), (qr, .inl (kL, N, .inr (.inl gr5)))] := hD
              refine lv_pop hx hb dX8_putNumber_75 rfl ?_
              refine lv_iload_n hx hb dX8_putNumber_76 rfl (lv_at hl 0 rfl) ?_
              refine lv_iconst (v := 1) hx hb dX8_putNumber_77 (by decide) ?_
              refine lv_isub hx hb dX8_putNumber_78 ?_
              refine lv_topi (fun f_11 ef_11 => ?_)
              obtain rfl : f_11 = (nI (i + 1) - 1) := ef_11
              refine lv_istore (lv' := [(6, .int (nI (i + 1) - 1)), (3, .int (nI (i + 1))), (4, .long f_6), (0, .ref q), (1, .long v)]) hx hb dX8_putNumber_79 hl (by decide) rfl (fun ls hl => ?_)
              refine W_q (fun Q2 hQ2 => ?_)
              have key2 : ∀ (n2 : Nat) (j z9 : Nat) (f9 : Nat → Int64) (H : Heap) (locs : List Loc) (ls : Array Slot), (j + 1 = n2 + 0 ∧ j ≤ 20) → (z9 ≤ N) → va_P (dC, dI) vwCl [(q, .inr (8, [.ref qr, .ref qd, .int (nI fi), .int (nI z9)])), (qr, .inl (kL, N, .inr (.inl f9))), (qd, .inl (kB, 20, .inl d2))] H → va_D A [(q, .inr (8, [.ref qr, .ref qd, .int (nI fi), .int (nI z9)])), (qr, .inl (kL, N, .inr (.inl f9))), (qd, .inl (kB, 20, .inl d2))] → va_S A s.heap H locs → lv_has ls 7 [(6, .int (nI j - 1)), (0, .ref q)] → W p l e (headSpec wp_c_putN ({ frames := 1, cells := 0, slots := 0, locals := 22 })).room s m ([.ref q, .long v] : List Value).toArray below meth c H locs 0 0 Q2 (F0 m 81 ls []) := by
                intro n2
                induction n2 with
                | zero => intro j z9 f9 H locs ls hc0 hc1; exact absurd hc0 (by omega)
                | succ n2 ih2 =>
                  intro j z9 f9 H locs ls hc0 hc1 hP hD hS hl
                  refine lv_iload hx hb dX8_putNumber_81 (lv_at hl 0 rfl) ?_
                  refine lv_if_lt (tgt := 105) hx hb dX8_putNumber_83 (by decide) (fun hz7 => ?_) (fun hz7 => ?_)
                  · have hP9 := hP.sub (ws' := [(q, .inr (8, [.ref qr, .ref qd, .int (nI fi), .int (nI z9)])), (qr, .inl (kL, N, .inr (.inl f9))), (qd, .inl (kB, 20, .inl d2))]) [0, 1, 2] rfl
                    have hD9 := hD.sub (ws' := [(q, .inr (8, [.ref qr, .ref qd, .int (nI fi), .int (nI z9)])), (qr, .inl (kL, N, .inr (.inl f9))), (qd, .inl (kB, 20, .inl d2))]) [0, 1, 2] (by decide) rfl
                    have hK9 := hK.sub (tys' := [(kL, .long), (kB, .byte)]) [0, 1] rfl
                    subst hQ2
                    subst hQ1
                    exact W.vret hx hb hr (fun tS ht hW => ⟨⟨(), rfl, trivial, z9, f9, d2, hc1, by rw [ht]; exact hP9, va_K.moved hW.alike hK9, hD9⟩, hS.F ht⟩) hS.2.2 dX8_putNumber_105
                  · obtain ⟨j1, rfl⟩ : ∃ j1, j = j1 + 1 := by rcases Nat.eq_zero_or_pos j with z8 | z8; exact absurd (show nI j - 1 < 0 by rw [z8]; decide) hz7; exact ⟨j - 1, by omega⟩
                    have ej : nI (j1 + 1) - 1 = nI j1 := nI_pred j1
                    rw [ej] at hl
                    refine lv_aload_n hx hb dX8_putNumber_86 rfl (lv_at hl 1 rfl) ?_
                    refine lv_aload_n hx hb dX8_putNumber_87 rfl (lv_at hl 1 rfl) ?_
                    refine va_get (D := (dC, dI)) (ci := 8) (v := .ref qd) (C := RX8) (T := TX8) (N := 4) hx hb hts in_c_putN_X8 hown hK hP 0 rfl rfl 1 (by decide) (hts (.fieldLink RX8 7 "OwnedPlaces$Queue" "digits" "[B") (wm_c_putN 1 rfl)) (fun _ h9 => h9) rfl dX8_putNumber_88 ?_
                    refine lv_iload hx hb dX8_putNumber_91 (lv_at hl 0 rfl) ?_
                    refine va_bald hx hb hK hP 2 1 rfl rfl (vp_in_nI (by omega) (by decide)) dX8_putNumber_93 ?_
                    refine lv_topi (fun v_12 ev_12 => ?_)
                    obtain ⟨f_13, ef_13⟩ : ∃ yY : Int64, yY = (v_12 : Int32).toInt64 := ⟨_, rfl⟩
                    refine lv_i2l (v := f_13) hx hb dX8_putNumber_94 ef_13.symm ?_
                    have hPc := hP.sub (ws' := [(q, .inr (8, [.ref qr, .ref qd, .int (nI fi), .int (nI z9)])), (qr, .inl (kL, N, .inr (.inl f9)))]) [0, 1] rfl
                    have hDc := hD.sub (ws' := [(q, .inr (8, [.ref qr, .ref qd, .int (nI fi), .int (nI z9)])), (qr, .inl (kL, N, .inr (.inl f9)))]) [0, 1] (by decide) rfl
                    have hKc := hK.sub (tys' := [(kL, .long)]) [0] rfl
                    have hFc := va_free (wc := [(q, .inr (8, [.ref qr, .ref qd, .int (nI fi), .int (nI z9)])), (qr, .inl (kL, N, .inr (.inl f9)))]) hD hS hA [0, 1] rfl
                    refine va_calli (va_runV (As := [.long f_13]) (rest := []) ⟨hx, hb, hml, hown, hts⟩ (c_put l dC dI q qr qd N fi z9 kL f9 f_13 H.size hN0 hN hfi hc1) (cwV 1 hts g_c_putN_c_put_95 rfl rfl rfl (by decide +kernel) ⟨Nat.le_of_ble_eq_true rfl, Nat.le_of_ble_eq_true rfl⟩) ⟨fun a U g mk q => by obtain ⟨q0, q1, qP, qK, qD⟩ := q; exact ⟨q0, q1, qP, va_K.moved (u := U) (U := U.calling g mk a) (Vm.Alike.refl U.vm) qK, qD⟩, va_recv hKc hPc (ci := 8) (q0 := 0) rfl rfl, fun U hU hW => ⟨rfl, by rw [hU], by rw [hU]; exact hPc, va_K.moved hW.alike hKc, hDc.weaken (fun _ _ _ _ => trivial)⟩⟩ rfl rfl hl.1 rfl (lv_room (Nat.le_of_ble_eq_true rfl)) dX8_putNumber_95 ⟨(show 0 + 0 ≤ 0 by omega), (show 0 + 0 ≤ 0 by omega)⟩) hS (fun q _ h => hFc q h) hFc (fun r_14 u tS H1 locs ht hvm hw hB hz1 hk1 hS => ?_)
                    obtain ⟨z7, f7, hf14_0, hP1, hK1, hD1⟩ := hB
                    rw [ht] at hP1
                    have hK1 := va_K.moved hvm.symm hK1
                    obtain ⟨hP, hD⟩ := va_join (wr := [(qd, .inl (kB, 20, .inl d2))]) (w1 := [(q, .inr (8, [.ref qr, .ref qd, .int (nI fi), .int (nI z7)])), (qr, .inl (kL, N, .inr (.inl f7)))]) hP hD [0, 1] [2] rfl rfl (by decide) (by decide) hk1 hFc hP1 hD1
                    have hK := hK.app hK1
                    generalize H1 = H at hP hS ⊢
                    have hP : va_P (dC, dI) vwCl [(qd, .inl (kB, 20, .inl d2)), (q, .inr (8, [.ref qr, .ref qd, .int (nI fi), .int (nI z7)])), (qr, .inl (kL, N, .inr (.inl f7)))] H := hP
                    have hD : va_D A [(qd, .inl (kB, 20, .inl d2)), (q, .inr (8, [.ref qr, .ref qd, .int (nI fi), .int (nI z7)])), (qr, .inl (kL, N, .inr (.inl f7)))] := hD
                    have hK : va_K (dC, dI) vwCl [(kL, .long), (kB, .byte), (kL, .long)] s := hK
                    have hK := hK.sub (tys' := [(kL, .long), (kB, .byte)]) [0, 1] rfl
                    have hP : va_P (dC, dI) vwCl [(qd, .inl (kB, 20, .inl d2)), (q, .inr (8, [.ref qr, .ref qd, .int (nI fi), .int (nI z7)])), (qr, .inl (kL, N, .inr (.inl f7)))] H := hP
                    have hD : va_D A [(qd, .inl (kB, 20, .inl d2)), (q, .inr (8, [.ref qr, .ref qd, .int (nI fi), .int (nI z7)])), (qr, .inl (kL, N, .inr (.inl f7)))] := hD
                    refine lv_pop hx hb dX8_putNumber_98 rfl ?_
                    obtain ⟨x_15, ex_15⟩ : ∃ yY : Int32, yY = (nI j1) + (-1) := ⟨_, rfl⟩
                    refine lv_iinc (v := x_15) (lv' := [(6, .int x_15), (0, .ref q)]) hx hb dX8_putNumber_99 hl (k := 0) rfl (by rw [ex_15]; rfl) (by decide) rfl (fun ls hl => ?_)
                    obtain rfl : x_15 = (nI j1 - 1) := by rw [ex_15]; exact (Int32.sub_eq_add_neg (a := nI j1) (b := 1)).symm
                    have hl : lv_has ls 7 [(6, .int (nI j1 - 1)), (0, .ref q)] := hl
                    refine lv_goto (tgt := 81) hx hb dX8_putNumber_102 (by decide) ?_
                    exact ih2 j1 z7 f7 _ _ _ (by omega) hf14_0 (hP.sub [1, 2, 0] rfl) (hD.sub [1, 2, 0] (by decide) rfl) hS (lv_sub hl [0, 1] rfl)
              exact key2 (i + 1 + 1) (i + 1) qz5 gr5 _ _ _ (by omega) hf10_0 (hP.sub [1, 2, 0] rfl) (hD.sub [1, 2, 0] (by decide) rfl) hS (lv_sub hl [0, 3] rfl)
    exact key1 20 0 v fd _ _ _ (by omega) (hP.sub [0, 1, 2] rfl) (hD.sub [0, 1, 2] (by decide) rfl) hS (lv_sub hl [1, 0, 2, 3] rfl)
  · refine lv_lload hx hb dX8_putNumber_12 (lv_at hl 0 rfl) ?_
    refine lv_lneg hx hb dX8_putNumber_14 ?_
    refine lv_topl (fun f_2 ef_2 => ?_)
    refine lv_lstore (lv' := [(4, .long f_2), (3, .int 0), (0, .ref q), (1, .long v)]) hx hb dX8_putNumber_15 hl (by decide) rfl (fun ls hl => ?_)
    refine W_q (fun Q1 hQ1 => ?_)
    have key1 : ∀ (n1 : Nat) (i : Nat) (rs : Int64) (d1 : Nat → Int32) (H : Heap) (locs : List Loc) (ls : Array Slot), (i + n1 = 20 ∧ i < 20) → va_P (dC, dI) vwCl [(q, .inr (8, [.ref qr, .ref qd, .int (nI fi), .int (nI qz)])), (qr, .inl (kL, N, .inr (.inl fr))), (qd, .inl (kB, 20, .inl d1))] H → va_D A [(q, .inr (8, [.ref qr, .ref qd, .int (nI fi), .int (nI qz)])), (qr, .inl (kL, N, .inr (.inl fr))), (qd, .inl (kB, 20, .inl d1))] → va_S A s.heap H locs → lv_has ls 7 [(3, .int (nI i)), (4, .long rs), (0, .ref q), (1, .long v)] → W p l e (headSpec wp_c_putN ({ frames := 1, cells := 0, slots := 0, locals := 22 })).room s m ([.ref q, .long v] : List Value).toArray below meth c H locs 0 0 Q1 (F0 m 17 ls []) := by
      intro n1
      induction n1 with
      | zero => intro i rs d1 H locs ls hb0; exact absurd hb0 (by omega)
      | succ n1 ih1 =>
        intro i rs d1 H locs ls hb0 hP hD hS hl
        refine lv_aload_n hx hb dX8_putNumber_17 rfl (lv_at hl 2 rfl) ?_
        refine va_get (D := (dC, dI)) (ci := 8) (v := .ref qd) (C := RX8) (T := TX8) (N := 4) hx hb hts in_c_putN_X8 hown hK hP 0 rfl rfl 1 (by decide) (hts (.fieldLink RX8 7 "OwnedPlaces$Queue" "digits" "[B") (wm_c_putN 1 rfl)) (fun _ h9 => h9) rfl dX8_putNumber_18 ?_
        refine lv_iload_n hx hb dX8_putNumber_21 rfl (lv_at hl 0 rfl) ?_
        refine lv_ldc2 (v := 48) hx hb hown (hts (.constantLong RX8 38 48) (wm_c_putN 2 rfl)) dX8_putNumber_22 ?_
        refine lv_lload hx hb dX8_putNumber_25 (lv_at hl 1 rfl) ?_
        refine lv_ldc2 (v := 10) hx hb hown (hts (.constantLong RX8 40 10) (wm_c_putN 3 rfl)) dX8_putNumber_27 ?_
        refine lv_lrem hx hb dX8_putNumber_30 (by decide) ?_
        refine lv_topl (fun f_3 ef_3 => ?_)
        refine lv_lsub hx hb dX8_putNumber_31 ?_
        refine lv_topl (fun f_4 ef_4 => ?_)
        obtain ⟨f_5, ef_5⟩ : ∃ yY : Int32, yY = (f_4 : Int64).toInt32 := ⟨_, rfl⟩
        refine lv_l2i (v := f_5) hx hb dX8_putNumber_32 ef_5.symm ?_
        obtain ⟨f_6, ef_6⟩ : ∃ yY : Int32, yY = (f_5 : Int32).toInt8.toInt32 := ⟨_, rfl⟩
        refine lv_i2b (v := f_6) hx hb dX8_putNumber_33 ef_6.symm ?_
        refine va_bast hx hb hK hP hD hS 2 1 rfl rfl (vp_in_nI (by omega) (by decide)) dX8_putNumber_34 (fun H locs hP hD hS => ?_)
        have hP : va_P (dC, dI) vwCl [(q, .inr (8, [.ref qr, .ref qd, .int (nI fi), .int (nI qz)])), (qr, .inl (kL, N, .inr (.inl fr))), (qd, .inl (kB, 20, .inl (upd d1 (nI i : Int32).toNatClampNeg (vp_nar .byte f_6))))] H := hP
        have hD : va_D A [(q, .inr (8, [.ref qr, .ref qd, .int (nI fi), .int (nI qz)])), (qr, .inl (kL, N, .inr (.inl fr))), (qd, .inl (kB, 20, .inl (upd d1 (nI i : Int32).toNatClampNeg (vp_nar .byte f_6))))] := hD
        obtain ⟨d2, ed2⟩ : ∃ zZ : Nat → Int32, zZ = upd d1 (nI i : Int32).toNatClampNeg (vp_nar .byte f_6) := ⟨_, rfl⟩
        rw [← ed2] at hP hD
        refine lv_lload hx hb dX8_putNumber_35 (lv_at hl 1 rfl) ?_
        refine lv_ldc2 (v := 10) hx hb hown (hts (.constantLong RX8 40 10) (wm_c_putN 3 rfl)) dX8_putNumber_37 ?_
        refine lv_ldiv hx hb dX8_putNumber_40 (by decide) ?_
        refine lv_topl (fun f_7 ef_7 => ?_)
        refine lv_lstore (lv' := [(4, .long f_7), (3, .int (nI i)), (0, .ref q), (1, .long v)]) hx hb dX8_putNumber_41 hl (by decide) rfl (fun ls hl => ?_)
        obtain ⟨x_8, ex_8⟩ : ∃ yY : Int32, yY = (nI i) + 1 := ⟨_, rfl⟩
        refine lv_iinc (v := x_8) (lv' := [(3, .int x_8), (4, .long f_7), (0, .ref q), (1, .long v)]) hx hb dX8_putNumber_43 hl (k := 1) rfl (by rw [ex_8]; rfl) (by decide) rfl (fun ls hl => ?_)
        obtain rfl : x_8 = nI (i + 1) := by rw [ex_8]; exact nI_1 i
        have hl : lv_has ls 7 [(3, .int (nI (i + 1))), (4, .long f_7), (0, .ref q), (1, .long v)] := hl
        refine lv_lload hx hb dX8_putNumber_46 (lv_at hl 1 rfl) ?_
        refine lv_lconst (v := 0) hx hb dX8_putNumber_48 (by decide) ?_
        refine W.lcmp hx hb dX8_putNumber_49 ?_
        refine lv_topi (fun f_9 ef_9 => ?_)
        refine lv_if_eq (tgt := 62) hx hb dX8_putNumber_50 (by decide) (fun hz1 => ?_) (fun hz1 => ?_)
        · refine lv_lload_n hx hb dX8_putNumber_62 rfl (lv_at hl 3 rfl) ?_
          refine lv_lconst (v := 0) hx hb dX8_putNumber_63 (by decide) ?_
          refine W.lcmp hx hb dX8_putNumber_64 ?_
          refine lv_topi (fun f_10 ef_10 => ?_)
          refine lv_if_ge (tgt := 76) hx hb dX8_putNumber_65 (by decide) (fun hz3 => ?_) (fun hz3 => ?_)
          · refine lv_iload_n hx hb dX8_putNumber_76 rfl (lv_at hl 0 rfl) ?_
            refine lv_iconst (v := 1) hx hb dX8_putNumber_77 (by decide) ?_
            refine lv_isub hx hb dX8_putNumber_78 ?_
            refine lv_topi (fun f_11 ef_11 => ?_)
            obtain rfl : f_11 = (nI (i + 1) - 1) := ef_11
            refine lv_istore (lv' := [(6, .int (nI (i + 1) - 1)), (3, .int (nI (i + 1))), (4, .long f_7), (0, .ref q), (1, .long v)]) hx hb dX8_putNumber_79 hl (by decide) rfl (fun ls hl => ?_)
            refine W_q (fun Q2 hQ2 => ?_)
            have key2 : ∀ (n2 : Nat) (j z9 : Nat) (f9 : Nat → Int64) (H : Heap) (locs : List Loc) (ls : Array Slot), (j + 1 = n2 + 0 ∧ j ≤ 20) → (z9 ≤ N) → va_P (dC, dI) vwCl [(q, .inr (8, [.ref qr, .ref qd, .int (nI fi), .int (nI z9)])), (qr, .inl (kL, N, .inr (.inl f9))), (qd, .inl (kB, 20, .inl d2))] H → va_D A [(q, .inr (8, [.ref qr, .ref qd, .int (nI fi), .int (nI z9)])), (qr, .inl (kL, N, .inr (.inl f9))), (qd, .inl (kB, 20, .inl d2))] → va_S A s.heap H locs → lv_has ls 7 [(6, .int (nI j - 1)), (0, .ref q)] → W p l e (headSpec wp_c_putN ({ frames := 1, cells := 0, slots := 0, locals := 22 })).room s m ([.ref q, .long v] : List Value).toArray below meth c H locs 0 0 Q2 (F0 m 81 ls []) := by
              intro n2
              induction n2 with
              | zero => intro j z9 f9 H locs ls hc0 hc1; exact absurd hc0 (by omega)
              | succ n2 ih2 =>
                intro j z9 f9 H locs ls hc0 hc1 hP hD hS hl
                refine lv_iload hx hb dX8_putNumber_81 (lv_at hl 0 rfl) ?_
                refine lv_if_lt (tgt := 105) hx hb dX8_putNumber_83 (by decide) (fun hz7 => ?_) (fun hz7 => ?_)
                · have hP9 := hP.sub (ws' := [(q, .inr (8, [.ref qr, .ref qd, .int (nI fi), .int (nI z9)])), (qr, .inl (kL, N, .inr (.inl f9))), (qd, .inl (kB, 20, .inl d2))]) [0, 1, 2] rfl
                  have hD9 := hD.sub (ws' := [(q, .inr (8, [.ref qr, .ref qd, .int (nI fi), .int (nI z9)])), (qr, .inl (kL, N, .inr (.inl f9))), (qd, .inl (kB, 20, .inl d2))]) [0, 1, 2] (by decide) rfl
                  have hK9 := hK.sub (tys' := [(kL, .long), (kB, .byte)]) [0, 1] rfl
                  subst hQ2
                  subst hQ1
                  exact W.vret hx hb hr (fun tS ht hW => ⟨⟨(), rfl, trivial, z9, f9, d2, hc1, by rw [ht]; exact hP9, va_K.moved hW.alike hK9, hD9⟩, hS.F ht⟩) hS.2.2 dX8_putNumber_105
                · obtain ⟨j1, rfl⟩ : ∃ j1, j = j1 + 1 := by rcases Nat.eq_zero_or_pos j with z8 | z8; exact absurd (show nI j - 1 < 0 by rw [z8]; decide) hz7; exact ⟨j - 1, by omega⟩
                  have ej : nI (j1 + 1) - 1 = nI j1 := nI_pred j1
                  rw [ej] at hl
                  refine lv_aload_n hx hb dX8_putNumber_86 rfl (lv_at hl 1 rfl) ?_
                  refine lv_aload_n hx hb dX8_putNumber_87 rfl (lv_at hl 1 rfl) ?_
                  refine va_get (D := (dC, dI)) (ci := 8) (v := .ref qd) (C := RX8) (T := TX8) (N := 4) hx hb hts in_c_putN_X8 hown hK hP 0 rfl rfl 1 (by decide) (hts (.fieldLink RX8 7 "OwnedPlaces$Queue" "digits" "[B") (wm_c_putN 1 rfl)) (fun _ h9 => h9) rfl dX8_putNumber_88 ?_
                  refine lv_iload hx hb dX8_putNumber_91 (lv_at hl 0 rfl) ?_
                  refine va_bald hx hb hK hP 2 1 rfl rfl (vp_in_nI (by omega) (by decide)) dX8_putNumber_93 ?_
                  refine lv_topi (fun v_12 ev_12 => ?_)
                  obtain ⟨f_13, ef_13⟩ : ∃ yY : Int64, yY = (v_12 : Int32).toInt64 := ⟨_, rfl⟩
                  refine lv_i2l (v := f_13) hx hb dX8_putNumber_94 ef_13.symm ?_
                  have hPc := hP.sub (ws' := [(q, .inr (8, [.ref qr, .ref qd, .int (nI fi), .int (nI z9)])), (qr, .inl (kL, N, .inr (.inl f9)))]) [0, 1] rfl
                  have hDc := hD.sub (ws' := [(q, .inr (8, [.ref qr, .ref qd, .int (nI fi), .int (nI z9)])), (qr, .inl (kL, N, .inr (.inl f9)))]) [0, 1] (by decide) rfl
                  have hKc := hK.sub (tys' := [(kL, .long)]) [0] rfl
                  have hFc := va_free (wc := [(q, .inr (8, [.ref qr, .ref qd, .int (nI fi), .int (nI z9)])), (qr, .inl (kL, N, .inr (.inl f9)))]) hD hS hA [0, 1] rfl
                  refine va_calli (va_runV (As := [.long f_13]) (rest := []) ⟨hx, hb, hml, hown, hts⟩ (c_put l dC dI q qr qd N fi z9 kL f9 f_13 H.size hN0 hN hfi hc1) (cwV 1 hts g_c_putN_c_put_95 rfl rfl rfl (by decide +kernel) ⟨Nat.le_of_ble_eq_true rfl, Nat.le_of_ble_eq_true rfl⟩) ⟨fun a U g mk q => by obtain ⟨q0, q1, qP, qK, qD⟩ := q; exact ⟨q0, q1, qP, va_K.moved (u := U) (U := U.calling g mk a) (Vm.Alike.refl U.vm) qK, qD⟩, va_recv hKc hPc (ci := 8) (q0 := 0) rfl rfl, fun U hU hW => ⟨rfl, by rw [hU], by rw [hU]; exact hPc, va_K.moved hW.alike hKc, hDc.weaken (fun _ _ _ _ => trivial)⟩⟩ rfl rfl hl.1 rfl (lv_room (Nat.le_of_ble_eq_true rfl)) dX8_putNumber_95 ⟨(show 0 + 0 ≤ 0 by omega), (show 0 + 0 ≤ 0 by omega)⟩) hS (fun q _ h => hFc q h) hFc (fun r_14 u tS H1 locs ht hvm hw hB hz1 hk1 hS => ?_)
                  obtain ⟨z7, f7, hf14_0, hP1, hK1, hD1⟩ := hB
                  rw [ht] at hP1
                  have hK1 := va_K.moved hvm.symm hK1
                  obtain ⟨hP, hD⟩ := va_join (wr := [(qd, .inl (kB, 20, .inl d2))]) (w1 := [(q, .inr (8, [.ref qr, .ref qd, .int (nI fi), .int (nI z7)])), (qr, .inl (kL, N, .inr (.inl f7)))]) hP hD [0, 1] [2] rfl rfl (by decide) (by decide) hk1 hFc hP1 hD1
                  have hK := hK.app hK1
                  generalize H1 = H at hP hS ⊢
                  have hP : va_P (dC, dI) vwCl [(qd, .inl (kB, 20, .inl d2)), (q, .inr (8, [.ref qr, .ref qd, .int (nI fi), .int (nI z7)])), (qr, .inl (kL, N, .inr (.inl f7)))] H := hP
                  have hD : va_D A [(qd, .inl (kB, 20, .inl d2)), (q, .inr (8, [.ref qr, .ref qd, .int (nI fi), .int (nI z7)])), (qr, .inl (kL, N, .inr (.inl f7)))] := hD
                  have hK : va_K (dC, dI) vwCl [(kL, .long), (kB, .byte), (kL, .long)] s := hK
                  have hK := hK.sub (tys' := [(kL, .long), (kB, .byte)]) [0, 1] rfl
                  have hP : va_P (dC, dI) vwCl [(qd, .inl (kB, 20, .inl d2)), (q, .inr (8, [.ref qr, .ref qd, .int (nI fi), .int (nI z7)])), (qr, .inl (kL, N, .inr (.inl f7)))] H := hP
                  have hD : va_D A [(qd, .inl (kB, 20, .inl d2)), (q, .inr (8, [.ref qr, .ref qd, .int (nI fi), .int (nI z7)])), (qr, .inl (kL, N, .inr (.inl f7)))] := hD
                  refine lv_pop hx hb dX8_putNumber_98 rfl ?_
                  obtain ⟨x_15, ex_15⟩ : ∃ yY : Int32, yY = (nI j1) + (-1) := ⟨_, rfl⟩
                  refine lv_iinc (v := x_15) (lv' := [(6, .int x_15), (0, .ref q)]) hx hb dX8_putNumber_99 hl (k := 0) rfl (by rw [ex_15]; rfl) (by decide) rfl (fun ls hl => ?_)
                  obtain rfl : x_15 = (nI j1 - 1) := by rw [ex_15]; exact (Int32.sub_eq_add_neg (a := nI j1) (b := 1)).symm
                  have hl : lv_has ls 7 [(6, .int (nI j1 - 1)), (0, .ref q)] := hl
                  refine lv_goto (tgt := 81) hx hb dX8_putNumber_102 (by decide) ?_
                  exact ih2 j1 z7 f7 _ _ _ (by omega) hf14_0 (hP.sub [1, 2, 0] rfl) (hD.sub [1, 2, 0] (by decide) rfl) hS (lv_sub hl [0, 1] rfl)
            exact key2 (i + 1 + 1) (i + 1) qz fr _ _ _ (by omega) hqz (hP.sub [0, 1, 2] rfl) (hD.sub [0, 1, 2] (by decide) rfl) hS (lv_sub hl [0, 3] rfl)
          · refine lv_aload_n hx hb dX8_putNumber_68 rfl (lv_at hl 2 rfl) ?_
            refine lv_ldc2 (v := 45) hx hb hown (hts (.constantLong RX8 42 45) (wm_c_putN 12 rfl)) dX8_putNumber_69 ?_
            have hPc := hP.sub (ws' := [(q, .inr (8, [.ref qr, .ref qd, .int (nI fi), .int (nI qz)])), (qr, .inl (kL, N, .inr (.inl fr)))]) [0, 1] rfl
            have hDc := hD.sub (ws' := [(q, .inr (8, [.ref qr, .ref qd, .int (nI fi), .int (nI qz)])), (qr, .inl (kL, N, .inr (.inl fr)))]) [0, 1] (by decide) rfl
            have hKc := hK.sub (tys' := [(kL, .long)]) [0] rfl
            have hFc := va_free (wc := [(q, .inr (8, [.ref qr, .ref qd, .int (nI fi), .int (nI qz)])), (qr, .inl (kL, N, .inr (.inl fr)))]) hD hS hA [0, 1] rfl
            refine va_calli (va_runV (As := [.long 45]) (rest := []) ⟨hx, hb, hml, hown, hts⟩ (c_put l dC dI q qr qd N fi qz kL fr 45 H.size hN0 hN hfi hqz) (cwV 1 hts g_c_putN_c_put_72 rfl rfl rfl (by decide +kernel) ⟨Nat.le_of_ble_eq_true rfl, Nat.le_of_ble_eq_true rfl⟩) ⟨fun a U g mk q => by obtain ⟨q0, q1, qP, qK, qD⟩ := q; exact ⟨q0, q1, qP, va_K.moved (u := U) (U := U.calling g mk a) (Vm.Alike.refl U.vm) qK, qD⟩, va_recv hKc hPc (ci := 8) (q0 := 0) rfl rfl, fun U hU hW => ⟨rfl, by rw [hU], by rw [hU]; exact hPc, va_K.moved hW.alike hKc, hDc.weaken (fun _ _ _ _ => trivial)⟩⟩ rfl rfl hl.1 rfl (lv_room (Nat.le_of_ble_eq_true rfl)) dX8_putNumber_72 ⟨(show 0 + 0 ≤ 0 by omega), (show 0 + 0 ≤ 0 by omega)⟩) hS (fun q _ h => hFc q h) hFc (fun r_11 u tS H1 locs ht hvm hw hB hz1 hk1 hS => ?_)
            obtain ⟨qz5, gr5, hf11_0, hP1, hK1, hD1⟩ := hB
            rw [ht] at hP1
            have hK1 := va_K.moved hvm.symm hK1
            obtain ⟨hP, hD⟩ := va_join (wr := [(qd, .inl (kB, 20, .inl d2))]) (w1 := [(q, .inr (8, [.ref qr, .ref qd, .int (nI fi), .int (nI qz5)])), (qr, .inl (kL, N, .inr (.inl gr5)))]) hP hD [0, 1] [2] rfl rfl (by decide) (by decide) hk1 hFc hP1 hD1
            have hK := hK.app hK1
            generalize H1 = H at hP hS ⊢
            have hP : va_P (dC, dI) vwCl [(qd, .inl (kB, 20, .inl d2)), (q, .inr (8, [.ref qr, .ref qd, .int (nI fi), .int (nI qz5)])), (qr, .inl (kL, N, .inr (.inl gr5)))] H := hP
            have hD : va_D A [(qd, .inl (kB, 20, .inl d2)), (q, .inr (8, [.ref qr, .ref qd, .int (nI fi), .int (nI qz5)])), (qr, .inl (kL, N, .inr (.inl gr5)))] := hD
            have hK : va_K (dC, dI) vwCl [(kL, .long), (kB, .byte), (kL, .long)] s := hK
            have hK := hK.sub (tys' := [(kL, .long), (kB, .byte)]) [0, 1] rfl
            have hP : va_P (dC, dI) vwCl [(qd, .inl (kB, 20, .inl d2)), (q, .inr (8, [.ref qr, .ref qd, .int (nI fi), .int (nI qz5)])), (qr, .inl (kL, N, .inr (.inl gr5)))] H := hP
            have hD : va_D A [(qd, .inl (kB, 20, .inl d2)), (q, .inr (8, [.ref qr, .ref qd, .int (nI fi), .int (nI qz5)])), (qr, .inl (kL, N, .inr (.inl gr5)))] := hD
            refine lv_pop hx hb dX8_putNumber_75 rfl ?_
            refine lv_iload_n hx hb dX8_putNumber_76 rfl (lv_at hl 0 rfl) ?_
            refine lv_iconst (v := 1) hx hb dX8_putNumber_77 (by decide) ?_
            refine lv_isub hx hb dX8_putNumber_78 ?_
            refine lv_topi (fun f_12 ef_12 => ?_)
            obtain rfl : f_12 = (nI (i + 1) - 1) := ef_12
            refine lv_istore (lv' := [(6, .int (nI (i + 1) - 1)), (3, .int (nI (i + 1))), (4, .long f_7), (0, .ref q), (1, .long v)]) hx hb dX8_putNumber_79 hl (by decide) rfl (fun ls hl => ?_)
            refine W_q (fun Q2 hQ2 => ?_)
            have key2 : ∀ (n2 : Nat) (j z9 : Nat) (f9 : Nat → Int64) (H : Heap) (locs : List Loc) (ls : Array Slot), (j + 1 = n2 + 0 ∧ j ≤ 20) → (z9 ≤ N) → va_P (dC, dI) vwCl [(q, .inr (8, [.ref qr, .ref qd, .int (nI fi), .int (nI z9)])), (qr, .inl (kL, N, .inr (.inl f9))), (qd, .inl (kB, 20, .inl d2))] H → va_D A [(q, .inr (8, [.ref qr, .ref qd, .int (nI fi), .int (nI z9)])), (qr, .inl (kL, N, .inr (.inl f9))), (qd, .inl (kB, 20, .inl d2))] → va_S A s.heap H locs → lv_has ls 7 [(6, .int (nI j - 1)), (0, .ref q)] → W p l e (headSpec wp_c_putN ({ frames := 1, cells := 0, slots := 0, locals := 22 })).room s m ([.ref q, .long v] : List Value).toArray below meth c H locs 0 0 Q2 (F0 m 81 ls []) := by
              intro n2
              induction n2 with
              | zero => intro j z9 f9 H locs ls hc0 hc1; exact absurd hc0 (by omega)
              | succ n2 ih2 =>
                intro j z9 f9 H locs ls hc0 hc1 hP hD hS hl
                refine lv_iload hx hb dX8_putNumber_81 (lv_at hl 0 rfl) ?_
                refine lv_if_lt (tgt := 105) hx hb dX8_putNumber_83 (by decide) (fun hz7 => ?_) (fun hz7 => ?_)
                · have hP9 := hP.sub (ws' := [(q, .inr (8, [.ref qr, .ref qd, .int (nI fi), .int (nI z9)])), (qr, .inl (kL, N, .inr (.inl f9))), (qd, .inl (kB, 20, .inl d2))]) [0, 1, 2] rfl
                  have hD9 := hD.sub (ws' := [(q, .inr (8, [.ref qr, .ref qd, .int (nI fi), .int (nI z9)])), (qr, .inl (kL, N, .inr (.inl f9))), (qd, .inl (kB, 20, .inl d2))]) [0, 1, 2] (by decide) rfl
                  have hK9 := hK.sub (tys' := [(kL, .long), (kB, .byte)]) [0, 1] rfl
                  subst hQ2
                  subst hQ1
                  exact W.vret hx hb hr (fun tS ht hW => ⟨⟨(), rfl, trivial, z9, f9, d2, hc1, by rw [ht]; exact hP9, va_K.moved hW.alike hK9, hD9⟩, hS.F ht⟩) hS.2.2 dX8_putNumber_105
                · obtain ⟨j1, rfl⟩ : ∃ j1, j = j1 + 1 := by rcases Nat.eq_zero_or_pos j with z8 | z8; exact absurd (show nI j - 1 < 0 by rw [z8]; decide) hz7; exact ⟨j - 1, by omega⟩
                  have ej : nI (j1 + 1) - 1 = nI j1 := nI_pred j1
                  rw [ej] at hl
                  refine lv_aload_n hx hb dX8_putNumber_86 rfl (lv_at hl 1 rfl) ?_
                  refine lv_aload_n hx hb dX8_putNumber_87 rfl (lv_at hl 1 rfl) ?_
                  refine va_get (D := (dC, dI)) (ci := 8) (v := .ref qd) (C := RX8) (T := TX8) (N := 4) hx hb hts in_c_putN_X8 hown hK hP 0 rfl rfl 1 (by decide) (hts (.fieldLink RX8 7 "OwnedPlaces$Queue" "digits" "[B") (wm_c_putN 1 rfl)) (fun _ h9 => h9) rfl dX8_putNumber_88 ?_
                  refine lv_iload hx hb dX8_putNumber_91 (lv_at hl 0 rfl) ?_
                  refine va_bald hx hb hK hP 2 1 rfl rfl (vp_in_nI (by omega) (by decide)) dX8_putNumber_93 ?_
                  refine lv_topi (fun v_13 ev_13 => ?_)
                  obtain ⟨f_14, ef_14⟩ : ∃ yY : Int64, yY = (v_13 : Int32).toInt64 := ⟨_, rfl⟩
                  refine lv_i2l (v := f_14) hx hb dX8_putNumber_94 ef_14.symm ?_
                  have hPc := hP.sub (ws' := [(q, .inr (8, [.ref qr, .ref qd, .int (nI fi), .int (nI z9)])), (qr, .inl (kL, N, .inr (.inl f9)))]) [0, 1] rfl
                  have hDc := hD.sub (ws' := [(q, .inr (8, [.ref qr, .ref qd, .int (nI fi), .int (nI z9)])), (qr, .inl (kL, N, .inr (.inl f9)))]) [0, 1] (by decide) rfl
                  have hKc := hK.sub (tys' := [(kL, .long)]) [0] rfl
                  have hFc := va_free (wc := [(q, .inr (8, [.ref qr, .ref qd, .int (nI fi), .int (nI z9)])), (qr, .inl (kL, N, .inr (.inl f9)))]) hD hS hA [0, 1] rfl
                  refine va_calli (va_runV (As := [.long f_14]) (rest := []) ⟨hx, hb, hml, hown, hts⟩ (c_put l dC dI q qr qd N fi z9 kL f9 f_14 H.size hN0 hN hfi hc1) (cwV 1 hts g_c_putN_c_put_95 rfl rfl rfl (by decide +kernel) ⟨Nat.le_of_ble_eq_true rfl, Nat.le_of_ble_eq_true rfl⟩) ⟨fun a U g mk q => by obtain ⟨q0, q1, qP, qK, qD⟩ := q; exact ⟨q0, q1, qP, va_K.moved (u := U) (U := U.calling g mk a) (Vm.Alike.refl U.vm) qK, qD⟩, va_recv hKc hPc (ci := 8) (q0 := 0) rfl rfl, fun U hU hW => ⟨rfl, by rw [hU], by rw [hU]; exact hPc, va_K.moved hW.alike hKc, hDc.weaken (fun _ _ _ _ => trivial)⟩⟩ rfl rfl hl.1 rfl (lv_room (Nat.le_of_ble_eq_true rfl)) dX8_putNumber_95 ⟨(show 0 + 0 ≤ 0 by omega), (show 0 + 0 ≤ 0 by omega)⟩) hS (fun q _ h => hFc q h) hFc (fun r_15 u tS H1 locs ht hvm hw hB hz1 hk1 hS => ?_)
                  obtain ⟨z7, f7, hf15_0, hP1, hK1, hD1⟩ := hB
                  rw [ht] at hP1
                  have hK1 := va_K.moved hvm.symm hK1
                  obtain ⟨hP, hD⟩ := va_join (wr := [(qd, .inl (kB, 20, .inl d2))]) (w1 := [(q, .inr (8, [.ref qr, .ref qd, .int (nI fi), .int (nI z7)])), (qr, .inl (kL, N, .inr (.inl f7)))]) hP hD [0, 1] [2] rfl rfl (by decide) (by decide) hk1 hFc hP1 hD1
                  have hK := hK.app hK1
                  generalize H1 = H at hP hS ⊢
                  have hP : va_P (dC, dI) vwCl [(qd, .inl (kB, 20, .inl d2)), (q, .inr (8, [.ref qr, .ref qd, .int (nI fi), .int (nI z7)])), (qr, .inl (kL, N, .inr (.inl f7)))] H := hP
                  have hD : va_D A [(qd, .inl (kB, 20, .inl d2)), (q, .inr (8, [.ref qr, .ref qd, .int (nI fi), .int (nI z7)])), (qr, .inl (kL, N, .inr (.inl f7)))] := hD
                  have hK : va_K (dC, dI) vwCl [(kL, .long), (kB, .byte), (kL, .long)] s := hK
                  have hK := hK.sub (tys' := [(kL, .long), (kB, .byte)]) [0, 1] rfl
                  have hP : va_P (dC, dI) vwCl [(qd, .inl (kB, 20, .inl d2)), (q, .inr (8, [.ref qr, .ref qd, .int (nI fi), .int (nI z7)])), (qr, .inl (kL, N, .inr (.inl f7)))] H := hP
                  have hD : va_D A [(qd, .inl (kB, 20, .inl d2)), (q, .inr (8, [.ref qr, .ref qd, .int (nI fi), .int (nI z7)])), (qr, .inl (kL, N, .inr (.inl f7)))] := hD
                  refine lv_pop hx hb dX8_putNumber_98 rfl ?_
                  obtain ⟨x_16, ex_16⟩ : ∃ yY : Int32, yY = (nI j1) + (-1) := ⟨_, rfl⟩
                  refine lv_iinc (v := x_16) (lv' := [(6, .int x_16), (0, .ref q)]) hx hb dX8_putNumber_99 hl (k := 0) rfl (by rw [ex_16]; rfl) (by decide) rfl (fun ls hl => ?_)
                  obtain rfl : x_16 = (nI j1 - 1) := by rw [ex_16]; exact (Int32.sub_eq_add_neg (a := nI j1) (b := 1)).symm
                  have hl : lv_has ls 7 [(6, .int (nI j1 - 1)), (0, .ref q)] := hl
                  refine lv_goto (tgt := 81) hx hb dX8_putNumber_102 (by decide) ?_
                  exact ih2 j1 z7 f7 _ _ _ (by omega) hf15_0 (hP.sub [1, 2, 0] rfl) (hD.sub [1, 2, 0] (by decide) rfl) hS (lv_sub hl [0, 1] rfl)
            exact key2 (i + 1 + 1) (i + 1) qz5 gr5 _ _ _ (by omega) hf11_0 (hP.sub [1, 2, 0] rfl) (hD.sub [1, 2, 0] (by decide) rfl) hS (lv_sub hl [0, 3] rfl)
        · refine lv_iload_n hx hb dX8_putNumber_53 rfl (lv_at hl 0 rfl) ?_
          refine lv_aload_n hx hb dX8_putNumber_54 rfl (lv_at hl 2 rfl) ?_
          refine va_get (D := (dC, dI)) (ci := 8) (v := .ref qd) (C := RX8) (T := TX8) (N := 4) hx hb hts in_c_putN_X8 hown hK hP 0 rfl rfl 1 (by decide) (hts (.fieldLink RX8 7 "OwnedPlaces$Queue" "digits" "[B") (wm_c_putN 1 rfl)) (fun _ h9 => h9) rfl dX8_putNumber_55 ?_
          refine va_alen (v := 20) hx hb hK hP 2 1 rfl rfl rfl dX8_putNumber_58 ?_
          refine lv_icmp_lt (tgt := 17) hx hb dX8_putNumber_59 (by decide) (fun hz2 => ?_) (fun hz2 => ?_)
          · have hi : i + 1 < 20 := (nI_ltI (a := i + 1) (b := 20) (by omega) (by decide)).mp hz2
            exact ih1 (i + 1) f_7 d2 _ _ _ (by omega) (hP.sub [0, 1, 2] rfl) (hD.sub [0, 1, 2] (by decide) rfl) hS (lv_sub hl [0, 1, 2, 3] rfl)
          · refine lv_lload_n hx hb dX8_putNumber_62 rfl (lv_at hl 3 rfl) ?_
            refine lv_lconst (v := 0) hx hb dX8_putNumber_63 (by decide) ?_
            refine W.lcmp hx hb dX8_putNumber_64 ?_
            refine lv_topi (fun f_10 ef_10 => ?_)
            refine lv_if_ge (tgt := 76) hx hb dX8_putNumber_65 (by decide) (fun hz3 => ?_) (fun hz3 => ?_)
            · refine lv_iload_n hx hb dX8_putNumber_76 rfl (lv_at hl 0 rfl) ?_
              refine lv_iconst (v := 1) hx hb dX8_putNumber_77 (by decide) ?_
              refine lv_isub hx hb dX8_putNumber_78 ?_
              refine lv_topi (fun f_11 ef_11 => ?_)
              obtain rfl : f_11 = (nI (i + 1) - 1) := ef_11
              refine lv_istore (lv' := [(6, .int (nI (i + 1) - 1)), (3, .int (nI (i + 1))), (4, .long f_7), (0, .ref q), (1, .long v)]) hx hb dX8_putNumber_79 hl (by decide) rfl (fun ls hl => ?_)
              refine W_q (fun Q2 hQ2 => ?_)
              have key2 : ∀ (n2 : Nat) (j z9 : Nat) (f9 : Nat → Int64) (H : Heap) (locs : List Loc) (ls : Array Slot), (j + 1 = n2 + 0 ∧ j ≤ 20) → (z9 ≤ N) → va_P (dC, dI) vwCl [(q, .inr (8, [.ref qr, .ref qd, .int (nI fi), .int (nI z9)])), (qr, .inl (kL, N, .inr (.inl f9))), (qd, .inl (kB, 20, .inl d2))] H → va_D A [(q, .inr (8, [.ref qr, .ref qd, .int (nI fi), .int (nI z9)])), (qr, .inl (kL, N, .inr (.inl f9))), (qd, .inl (kB, 20, .inl d2))] → va_S A s.heap H locs → lv_has ls 7 [(6, .int (nI j - 1)), (0, .ref q)] → W p l e (headSpec wp_c_putN ({ frames := 1, cells := 0, slots := 0, locals := 22 })).room s m ([.ref q, .long v] : List Value).toArray below meth c H locs 0 0 Q2 (F0 m 81 ls []) := by
                intro n2
                induction n2 with
                | zero => intro j z9 f9 H locs ls hc0 hc1; exact absurd hc0 (by omega)
                | succ n2 ih2 =>
                  intro j z9 f9 H locs ls hc0 hc1 hP hD hS hl
                  refine lv_iload hx hb dX8_putNumber_81 (lv_at hl 0 rfl) ?_
                  refine lv_if_lt (tgt := 105) hx hb dX8_putNumber_83 (by decide) (fun hz7 => ?_) (fun hz7 => ?_)
                  · have hP9 := hP.sub (ws' := [(q, .inr (8, [.ref qr, .ref qd, .int (nI fi), .int (nI z9)])), (qr, .inl (kL, N, .inr (.inl f9))), (qd, .inl (kB, 20, .inl d2))]) [0, 1, 2] rfl
                    have hD9 := hD.sub (ws' := [(q, .inr (8, [.ref qr, .ref qd, .int (nI fi), .int (nI z9)])), (qr, .inl (kL, N, .inr (.inl f9))), (qd, .inl (kB, 20, .inl d2))]) [0, 1, 2] (by decide) rfl
                    have hK9 := hK.sub (tys' := [(kL, .long), (kB, .byte)]) [0, 1] rfl
                    subst hQ2
                    subst hQ1
                    exact W.vret hx hb hr (fun tS ht hW => ⟨⟨(), rfl, trivial, z9, f9, d2, hc1, by rw [ht]; exact hP9, va_K.moved hW.alike hK9, hD9⟩, hS.F ht⟩) hS.2.2 dX8_putNumber_105
                  · obtain ⟨j1, rfl⟩ : ∃ j1, j = j1 + 1 := by rcases Nat.eq_zero_or_pos j with z8 | z8; exact absurd (show nI j - 1 < 0 by rw [z8]; decide) hz7; exact ⟨j - 1, by omega⟩
                    have ej : nI (j1 + 1) - 1 = nI j1 := nI_pred j1
                    rw [ej] at hl
                    refine lv_aload_n hx hb dX8_putNumber_86 rfl (lv_at hl 1 rfl) ?_
                    refine lv_aload_n hx hb dX8_putNumber_87 rfl (lv_at hl 1 rfl) ?_
                    refine va_get (D := (dC, dI)) (ci := 8) (v := .ref qd) (C := RX8) (T := TX8) (N := 4) hx hb hts in_c_putN_X8 hown hK hP 0 rfl rfl 1 (by decide) (hts (.fieldLink RX8 7 "OwnedPlaces$Queue" "digits" "[B") (wm_c_putN 1 rfl)) (fun _ h9 => h9) rfl dX8_putNumber_88 ?_
                    refine lv_iload hx hb dX8_putNumber_91 (lv_at hl 0 rfl) ?_
                    refine va_bald hx hb hK hP 2 1 rfl rfl (vp_in_nI (by omega) (by decide)) dX8_putNumber_93 ?_
                    refine lv_topi (fun v_12 ev_12 => ?_)
                    obtain ⟨f_13, ef_13⟩ : ∃ yY : Int64, yY = (v_12 : Int32).toInt64 := ⟨_, rfl⟩
                    refine lv_i2l (v := f_13) hx hb dX8_putNumber_94 ef_13.symm ?_
                    have hPc := hP.sub (ws' := [(q, .inr (8, [.ref qr, .ref qd, .int (nI fi), .int (nI z9)])), (qr, .inl (kL, N, .inr (.inl f9)))]) [0, 1] rfl
                    have hDc := hD.sub (ws' := [(q, .inr (8, [.ref qr, .ref qd, .int (nI fi), .int (nI z9)])), (qr, .inl (kL, N, .inr (.inl f9)))]) [0, 1] (by decide) rfl
                    have hKc := hK.sub (tys' := [(kL, .long)]) [0] rfl
                    have hFc := va_free (wc := [(q, .inr (8, [.ref qr, .ref qd, .int (nI fi), .int (nI z9)])), (qr, .inl (kL, N, .inr (.inl f9)))]) hD hS hA [0, 1] rfl
                    refine va_calli (va_runV (As := [.long f_13]) (rest := []) ⟨hx, hb, hml, hown, hts⟩ (c_put l dC dI q qr qd N fi z9 kL f9 f_13 H.size hN0 hN hfi hc1) (cwV 1 hts g_c_putN_c_put_95 rfl rfl rfl (by decide +kernel) ⟨Nat.le_of_ble_eq_true rfl, Nat.le_of_ble_eq_true rfl⟩) ⟨fun a U g mk q => by obtain ⟨q0, q1, qP, qK, qD⟩ := q; exact ⟨q0, q1, qP, va_K.moved (u := U) (U := U.calling g mk a) (Vm.Alike.refl U.vm) qK, qD⟩, va_recv hKc hPc (ci := 8) (q0 := 0) rfl rfl, fun U hU hW => ⟨rfl, by rw [hU], by rw [hU]; exact hPc, va_K.moved hW.alike hKc, hDc.weaken (fun _ _ _ _ => trivial)⟩⟩ rfl rfl hl.1 rfl (lv_room (Nat.le_of_ble_eq_true rfl)) dX8_putNumber_95 ⟨(show 0 + 0 ≤ 0 by omega), (show 0 + 0 ≤ 0 by omega)⟩) hS (fun q _ h => hFc q h) hFc (fun r_14 u tS H1 locs ht hvm hw hB hz1 hk1 hS => ?_)
                    obtain ⟨z7, f7, hf14_0, hP1, hK1, hD1⟩ := hB
                    rw [ht] at hP1
                    have hK1 := va_K.moved hvm.symm hK1
                    obtain ⟨hP, hD⟩ := va_join (wr := [(qd, .inl (kB, 20, .inl d2))]) (w1 := [(q, .inr (8, [.ref qr, .ref qd, .int (nI fi), .int (nI z7)])), (qr, .inl (kL, N, .inr (.inl f7)))]) hP hD [0, 1] [2] rfl rfl (by decide) (by decide) hk1 hFc hP1 hD1
                    have hK := hK.app hK1
                    generalize H1 = H at hP hS ⊢
                    have hP : va_P (dC, dI) vwCl [(qd, .inl (kB, 20, .inl d2)), (q, .inr (8, [.ref qr, .ref qd, .int (nI fi), .int (nI z7)])), (qr, .inl (kL, N, .inr (.inl f7)))] H := hP
                    have hD : va_D A [(qd, .inl (kB, 20, .inl d2)), (q, .inr (8, [.ref qr, .ref qd, .int (nI fi), .int (nI z7)])), (qr, .inl (kL, N, .inr (.inl f7)))] := hD
                    have hK : va_K (dC, dI) vwCl [(kL, .long), (kB, .byte), (kL, .long)] s := hK
                    have hK := hK.sub (tys' := [(kL, .long), (kB, .byte)]) [0, 1] rfl
                    have hP : va_P (dC, dI) vwCl [(qd, .inl (kB, 20, .inl d2)), (q, .inr (8, [.ref qr, .ref qd, .int (nI fi), .int (nI z7)])), (qr, .inl (kL, N, .inr (.inl f7)))] H := hP
                    have hD : va_D A [(qd, .inl (kB, 20, .inl d2)), (q, .inr (8, [.ref qr, .ref qd, .int (nI fi), .int (nI z7)])), (qr, .inl (kL, N, .inr (.inl f7)))] := hD
                    refine lv_pop hx hb dX8_putNumber_98 rfl ?_
                    obtain ⟨x_15, ex_15⟩ : ∃ yY : Int32, yY = (nI j1) + (-1) := ⟨_, rfl⟩
                    refine lv_iinc (v := x_15) (lv' := [(6, .int x_15), (0, .ref q)]) hx hb dX8_putNumber_99 hl (k := 0) rfl (by rw [ex_15]; rfl) (by decide) rfl (fun ls hl => ?_)
                    obtain rfl : x_15 = (nI j1 - 1) := by rw [ex_15]; exact (Int32.sub_eq_add_neg (a := nI j1) (b := 1)).symm
                    have hl : lv_has ls 7 [(6, .int (nI j1 - 1)), (0, .ref q)] := hl
                    refine lv_goto (tgt := 81) hx hb dX8_putNumber_102 (by decide) ?_
                    exact ih2 j1 z7 f7 _ _ _ (by omega) hf14_0 (hP.sub [1, 2, 0] rfl) (hD.sub [1, 2, 0] (by decide) rfl) hS (lv_sub hl [0, 1] rfl)
              exact key2 (i + 1 + 1) (i + 1) qz fr _ _ _ (by omega) hqz (hP.sub [0, 1, 2] rfl) (hD.sub [0, 1, 2] (by decide) rfl) hS (lv_sub hl [0, 3] rfl)
            · refine lv_aload_n hx hb dX8_putNumber_68 rfl (lv_at hl 2 rfl) ?_
              refine lv_ldc2 (v := 45) hx hb hown (hts (.constantLong RX8 42 45) (wm_c_putN 12 rfl)) dX8_putNumber_69 ?_
              have hPc := hP.sub (ws' := [(q, .inr (8, [.ref qr, .ref qd, .int (nI fi), .int (nI qz)])), (qr, .inl (kL, N, .inr (.inl fr)))]) [0, 1] rfl
              have hDc := hD.sub (ws' := [(q, .inr (8, [.ref qr, .ref qd, .int (nI fi), .int (nI qz)])), (qr, .inl (kL, N, .inr (.inl fr)))]) [0, 1] (by decide) rfl
              have hKc := hK.sub (tys' := [(kL, .long)]) [0] rfl
              have hFc := va_free (wc := [(q, .inr (8, [.ref qr, .ref qd, .int (nI fi), .int (nI qz)])), (qr, .inl (kL, N, .inr (.inl fr)))]) hD hS hA [0, 1] rfl
              refine va_calli (va_runV (As := [.long 45]) (rest := []) ⟨hx, hb, hml, hown, hts⟩ (c_put l dC dI q qr qd N fi qz kL fr 45 H.size hN0 hN hfi hqz) (cwV 1 hts g_c_putN_c_put_72 rfl rfl rfl (by decide +kernel) ⟨Nat.le_of_ble_eq_true rfl, Nat.le_of_ble_eq_true rfl⟩) ⟨fun a U g mk q => by obtain ⟨q0, q1, qP, qK, qD⟩ := q; exact ⟨q0, q1, qP, va_K.moved (u := U) (U := U.calling g mk a) (Vm.Alike.refl U.vm) qK, qD⟩, va_recv hKc hPc (ci := 8) (q0 := 0) rfl rfl, fun U hU hW => ⟨rfl, by rw [hU], by rw [hU]; exact hPc, va_K.moved hW.alike hKc, hDc.weaken (fun _ _ _ _ => trivial)⟩⟩ rfl rfl hl.1 rfl (lv_room (Nat.le_of_ble_eq_true rfl)) dX8_putNumber_72 ⟨(show 0 + 0 ≤ 0 by omega), (show 0 + 0 ≤ 0 by omega)⟩) hS (fun q _ h => hFc q h) hFc (fun r_11 u tS H1 locs ht hvm hw hB hz1 hk1 hS => ?_)
              obtain ⟨qz5, gr5, hf11_0, hP1, hK1, hD1⟩ := hB
              rw [ht] at hP1
              have hK1 := va_K.moved hvm.symm hK1
              obtain ⟨hP, hD⟩ := va_join (wr := [(qd, .inl (kB, 20, .inl d2))]) (w1 := [(q, .inr (8, [.ref qr, .ref qd, .int (nI fi), .int (nI qz5)])), (qr, .inl (kL, N, .inr (.inl gr5)))]) hP hD [0, 1] [2] rfl rfl (by decide) (by decide) hk1 hFc hP1 hD1
              have hK := hK.app hK1
              generalize H1 = H at hP hS ⊢
              have hP : va_P (dC, dI) vwCl [(qd, .inl (kB, 20, .inl d2)), (q, .inr (8, [.ref qr, .ref qd, .int (nI fi), .int (nI qz5)])), (qr, .inl (kL, N, .inr (.inl gr5)))] H := hP
              have hD : va_D A [(qd, .inl (kB, 20, .inl d2)), (q, .inr (8, [.ref qr, .ref qd, .int (nI fi), .int (nI qz5)])), (qr, .inl (kL, N, .inr (.inl gr5)))] := hD
              have hK : va_K (dC, dI) vwCl [(kL, .long), (kB, .byte), (kL, .long)] s := hK
              have hK := hK.sub (tys' := [(kL, .long), (kB, .byte)]) [0, 1] rfl
              have hP : va_P (dC, dI) vwCl [(qd, .inl (kB, 20, .inl d2)), (q, .inr (8, [.ref qr, .ref qd, .int (nI fi), .int (nI qz5)])), (qr, .inl (kL, N, .inr (.inl gr5)))] H := hP
              have hD : va_D A [(qd, .inl (kB, 20, .inl d2)), (q, .inr (8, [.ref qr, .ref qd, .int (nI fi), .int (nI qz5)])), (qr, .inl (kL, N, .inr (.inl gr5)))] := hD
              refine lv_pop hx hb dX8_putNumber_75 rfl ?_
              refine lv_iload_n hx hb dX8_putNumber_76 rfl (lv_at hl 0 rfl) ?_
              refine lv_iconst (v := 1) hx hb dX8_putNumber_77 (by decide) ?_
              refine lv_isub hx hb dX8_putNumber_78 ?_
              refine lv_topi (fun f_12 ef_12 => ?_)
              obtain rfl : f_12 = (nI (i + 1) - 1) := ef_12
              refine lv_istore (lv' := [(6, .int (nI (i + 1) - 1)), (3, .int (nI (i + 1))), (4, .long f_7), (0, .ref q), (1, .long v)]) hx hb dX8_putNumber_79 hl (by decide) rfl (fun ls hl => ?_)
              refine W_q (fun Q2 hQ2 => ?_)
              have key2 : ∀ (n2 : Nat) (j z9 : Nat) (f9 : Nat → Int64) (H : Heap) (locs : List Loc) (ls : Array Slot), (j + 1 = n2 + 0 ∧ j ≤ 20) → (z9 ≤ N) → va_P (dC, dI) vwCl [(q, .inr (8, [.ref qr, .ref qd, .int (nI fi), .int (nI z9)])), (qr, .inl (kL, N, .inr (.inl f9))), (qd, .inl (kB, 20, .inl d2))] H → va_D A [(q, .inr (8, [.ref qr, .ref qd, .int (nI fi), .int (nI z9)])), (qr, .inl (kL, N, .inr (.inl f9))), (qd, .inl (kB, 20, .inl d2))] → va_S A s.heap H locs → lv_has ls 7 [(6, .int (nI j - 1)), (0, .ref q)] → W p l e (headSpec wp_c_putN ({ frames := 1, cells := 0, slots := 0, locals := 22 })).room s m ([.ref q, .long v] : List Value).toArray below meth c H locs 0 0 Q2 (F0 m 81 ls []) := by
                intro n2
                induction n2 with
                | zero => intro j z9 f9 H locs ls hc0 hc1; exact absurd hc0 (by omega)
                | succ n2 ih2 =>
                  intro j z9 f9 H locs ls hc0 hc1 hP hD hS hl
                  refine lv_iload hx hb dX8_putNumber_81 (lv_at hl 0 rfl) ?_
                  refine lv_if_lt (tgt := 105) hx hb dX8_putNumber_83 (by decide) (fun hz7 => ?_) (fun hz7 => ?_)
                  · have hP9 := hP.sub (ws' := [(q, .inr (8, [.ref qr, .ref qd, .int (nI fi), .int (nI z9)])), (qr, .inl (kL, N, .inr (.inl f9))), (qd, .inl (kB, 20, .inl d2))]) [0, 1, 2] rfl
                    have hD9 := hD.sub (ws' := [(q, .inr (8, [.ref qr, .ref qd, .int (nI fi), .int (nI z9)])), (qr, .inl (kL, N, .inr (.inl f9))), (qd, .inl (kB, 20, .inl d2))]) [0, 1, 2] (by decide) rfl
                    have hK9 := hK.sub (tys' := [(kL, .long), (kB, .byte)]) [0, 1] rfl
                    subst hQ2
                    subst hQ1
                    exact W.vret hx hb hr (fun tS ht hW => ⟨⟨(), rfl, trivial, z9, f9, d2, hc1, by rw [ht]; exact hP9, va_K.moved hW.alike hK9, hD9⟩, hS.F ht⟩) hS.2.2 dX8_putNumber_105
                  · obtain ⟨j1, rfl⟩ : ∃ j1, j = j1 + 1 := by rcases Nat.eq_zero_or_pos j with z8 | z8; exact absurd (show nI j - 1 < 0 by rw [z8]; decide) hz7; exact ⟨j - 1, by omega⟩
                    have ej : nI (j1 + 1) - 1 = nI j1 := nI_pred j1
                    rw [ej] at hl
                    refine lv_aload_n hx hb dX8_putNumber_86 rfl (lv_at hl 1 rfl) ?_
                    refine lv_aload_n hx hb dX8_putNumber_87 rfl (lv_at hl 1 rfl) ?_
                    refine va_get (D := (dC, dI)) (ci := 8) (v := .ref qd) (C := RX8) (T := TX8) (N := 4) hx hb hts in_c_putN_X8 hown hK hP 0 rfl rfl 1 (by decide) (hts (.fieldLink RX8 7 "OwnedPlaces$Queue" "digits" "[B") (wm_c_putN 1 rfl)) (fun _ h9 => h9) rfl dX8_putNumber_88 ?_
                    refine lv_iload hx hb dX8_putNumber_91 (lv_at hl 0 rfl) ?_
                    refine va_bald hx hb hK hP 2 1 rfl rfl (vp_in_nI (by omega) (by decide)) dX8_putNumber_93 ?_
                    refine lv_topi (fun v_13 ev_13 => ?_)
                    obtain ⟨f_14, ef_14⟩ : ∃ yY : Int64, yY = (v_13 : Int32).toInt64 := ⟨_, rfl⟩
                    refine lv_i2l (v := f_14) hx hb dX8_putNumber_94 ef_14.symm ?_
                    have hPc := hP.sub (ws' := [(q, .inr (8, [.ref qr, .ref qd, .int (nI fi), .int (nI z9)])), (qr, .inl (kL, N, .inr (.inl f9)))]) [0, 1] rfl
                    have hDc := hD.sub (ws' := [(q, .inr (8, [.ref qr, .ref qd, .int (nI fi), .int (nI z9)])), (qr, .inl (kL, N, .inr (.inl f9)))]) [0, 1] (by decide) rfl
                    have hKc := hK.sub (tys' := [(kL, .long)]) [0] rfl
                    have hFc := va_free (wc := [(q, .inr (8, [.ref qr, .ref qd, .int (nI fi), .int (nI z9)])), (qr, .inl (kL, N, .inr (.inl f9)))]) hD hS hA [0, 1] rfl
                    refine va_calli (va_runV (As := [.long f_14]) (rest := []) ⟨hx, hb, hml, hown, hts⟩ (c_put l dC dI q qr qd N fi z9 kL f9 f_14 H.size hN0 hN hfi hc1) (cwV 1 hts g_c_putN_c_put_95 rfl rfl rfl (by decide +kernel) ⟨Nat.le_of_ble_eq_true rfl, Nat.le_of_ble_eq_true rfl⟩) ⟨fun a U g mk q => by obtain ⟨q0, q1, qP, qK, qD⟩ := q; exact ⟨q0, q1, qP, va_K.moved (u := U) (U := U.calling g mk a) (Vm.Alike.refl U.vm) qK, qD⟩, va_recv hKc hPc (ci := 8) (q0 := 0) rfl rfl, fun U hU hW => ⟨rfl, by rw [hU], by rw [hU]; exact hPc, va_K.moved hW.alike hKc, hDc.weaken (fun _ _ _ _ => trivial)⟩⟩ rfl rfl hl.1 rfl (lv_room (Nat.le_of_ble_eq_true rfl)) dX8_putNumber_95 ⟨(show 0 + 0 ≤ 0 by omega), (show 0 + 0 ≤ 0 by omega)⟩) hS (fun q _ h => hFc q h) hFc (fun r_15 u tS H1 locs ht hvm hw hB hz1 hk1 hS => ?_)
                    obtain ⟨z7, f7, hf15_0, hP1, hK1, hD1⟩ := hB
                    rw [ht] at hP1
                    have hK1 := va_K.moved hvm.symm hK1
                    obtain ⟨hP, hD⟩ := va_join (wr := [(qd, .inl (kB, 20, .inl d2))]) (w1 := [(q, .inr (8, [.ref qr, .ref qd, .int (nI fi), .int (nI z7)])), (qr, .inl (kL, N, .inr (.inl f7)))]) hP hD [0, 1] [2] rfl rfl (by decide) (by decide) hk1 hFc hP1 hD1
                    have hK := hK.app hK1
                    generalize H1 = H at hP hS ⊢
                    have hP : va_P (dC, dI) vwCl [(qd, .inl (kB, 20, .inl d2)), (q, .inr (8, [.ref qr, .ref qd, .int (nI fi), .int (nI z7)])), (qr, .inl (kL, N, .inr (.inl f7)))] H := hP
                    have hD : va_D A [(qd, .inl (kB, 20, .inl d2)), (q, .inr (8, [.ref qr, .ref qd, .int (nI fi), .int (nI z7)])), (qr, .inl (kL, N, .inr (.inl f7)))] := hD
                    have hK : va_K (dC, dI) vwCl [(kL, .long), (kB, .byte), (kL, .long)] s := hK
                    have hK := hK.sub (tys' := [(kL, .long), (kB, .byte)]) [0, 1] rfl
                    have hP : va_P (dC, dI) vwCl [(qd, .inl (kB, 20, .inl d2)), (q, .inr (8, [.ref qr, .ref qd, .int (nI fi), .int (nI z7)])), (qr, .inl (kL, N, .inr (.inl f7)))] H := hP
                    have hD : va_D A [(qd, .inl (kB, 20, .inl d2)), (q, .inr (8, [.ref qr, .ref qd, .int (nI fi), .int (nI z7)])), (qr, .inl (kL, N, .inr (.inl f7)))] := hD
                    refine lv_pop hx hb dX8_putNumber_98 rfl ?_
                    obtain ⟨x_16, ex_16⟩ : ∃ yY : Int32, yY = (nI j1) + (-1) := ⟨_, rfl⟩
                    refine lv_iinc (v := x_16) (lv' := [(6, .int x_16), (0, .ref q)]) hx hb dX8_putNumber_99 hl (k := 0) rfl (by rw [ex_16]; rfl) (by decide) rfl (fun ls hl => ?_)
                    obtain rfl : x_16 = (nI j1 - 1) := by rw [ex_16]; exact (Int32.sub_eq_add_neg (a := nI j1) (b := 1)).symm
                    have hl : lv_has ls 7 [(6, .int (nI j1 - 1)), (0, .ref q)] := hl
                    refine lv_goto (tgt := 81) hx hb dX8_putNumber_102 (by decide) ?_
                    exact ih2 j1 z7 f7 _ _ _ (by omega) hf15_0 (hP.sub [1, 2, 0] rfl) (hD.sub [1, 2, 0] (by decide) rfl) hS (lv_sub hl [0, 1] rfl)
              exact key2 (i + 1 + 1) (i + 1) qz5 gr5 _ _ _ (by omega) hf11_0 (hP.sub [1, 2, 0] rfl) (hD.sub [1, 2, 0] (by decide) rfl) hS (lv_sub hl [0, 3] rfl)
    exact key1 20 0 f_2 fd _ _ _ (by omega) (hP.sub [0, 1, 2] rfl) (hD.sub [0, 1, 2] (by decide) rfl) hS (lv_sub hl [1, 0, 2, 3] rfl)
