def wf_c_fetch : List Cond := [.code yX12_fetch cX12_fetch 5 (some .long), .fieldLink RX12 84 "OwnedPlaces" "waiting" "LOwnedPlaces$Queue;", .fieldLink RX12 144 "OwnedPlaces$Queue" "size" "I", .methodLink RX12 147 Lib.Math.min.name, .static Lib.Math.min.name, .initialized "java/lang/Math", .code Lib.Math.min.name Lib.Math.min.code 2 (some .int), .code yX8_take cX8_take 3 (some .long), .fieldLink RX8 17 "OwnedPlaces$Queue" "size" "I", .fieldLink RX8 13 "OwnedPlaces$Queue" "row" "[J", .fieldLink RX8 21 "OwnedPlaces$Queue" "first" "I", .methodLink RX12 152 yX8_take, .instanceMethod yX8_take, .selects RX8 yX8_take yX8_take, .initialized RX8]
def wp_c_fetch : List Cond := wf_c_fetch ++ (wsX120 ++ (wsX80 ++ []))
theorem in_c_fetch_X12 : ∀ w ∈ wsX120, w ∈ wp_c_fetch := fun w h => List.mem_append_right _ (List.mem_append_left _ h)
theorem in_c_fetch_X8 : ∀ w ∈ wsX80, w ∈ wp_c_fetch := fun w h => List.mem_append_right _ (List.mem_append_right _ (List.mem_append_left _ h))
theorem wg_c_fetch : wf_c_fetch.all goodWord = true := by decide +kernel
theorem wm_c_fetch (k : Nat) {w : Cond} (h : wp_c_fetch[k]? = some w) : w ∈ wp_c_fetch := List.mem_of_getElem? h
set_option maxRecDepth 20000 in
theorem g_c_fetch_c_qtake_40 : GoodIn wp_c_fetch (wsV RX12 152 RX8 yX8_take wp_c_qtake) := goodIn_app (goodIn_f [.methodLink RX12 152 yX8_take, .instanceMethod yX8_take, .selects RX8 yX8_take yX8_take, .initialized RX8] [11, 12, 13, 14] rfl (by decide +kernel)) (goodIn_app (goodIn_f (wf_c_qtake) [7, 8, 9, 10] rfl wg_c_qtake) (goodIn_app (goodIn_sub in_c_fetch_X8 gd_X8) (goodIn_n)))
set_option maxHeartbeats 4000000 in
set_option maxRecDepth 100000 in
theorem c_fetch (l : Launch) (dC : Nat → ClassId) (dI : Nat → Nat → Nat) (x xg y xd c0 xt xm xl qn qw xe xc : Nat) (xf xp : Int32) (h : Nat) (qwr qwd wi wz : Nat) (kL : ClassId) (fw : Nat → Int64) (sz : Nat) (hwi : wi < 4000) (hwz : wz ≤ 4000) : Met l yX12_fetch wp_c_fetch ({ frames := 1, cells := 0, slots := 0, locals := 22 }) (va_Pc [.ref x] (fun U => U.heap.size = sz ∧ va_P (dC, dI) vwCl [(x, .inr (12, [.ref h, .ref xg, .ref y, .ref xd, .ref c0, .ref xt, .ref xm, .ref xl, .ref qn, .ref qw, .ref xe, .ref xc, .int xf, .int xp])), (qw, .inr (8, [.ref qwr, .ref qwd, .int (nI wi), .int (nI wz)])), (qwr, .inl (kL, 4000, .inr (.inl fw)))] U.heap ∧ va_K (dC, dI) vwCl [(kL, .long)] U ∧ va_D (fun _ => True) [(x, .inr (12, [.ref h, .ref xg, .ref y, .ref xd, .ref c0, .ref xt, .ref xm, .ref xl, .ref qn, .ref qw, .ref xe, .ref xc, .int xf, .int xp])), (qw, .inr (8, [.ref qwr, .ref qwd, .int (nI wi), .int (nI wz)])), (qwr, .inl (kL, 4000, .inr (.inl fw)))])) (va_Ql (fun (_ : Int64) (_ : Unit) => True) (fun (_ : Unit) (tS : State) => ∃ (wi2 : Nat) (wz2 : Nat), (wi2 < 4000) ∧ (wz2 ≤ 4000) ∧ va_P (dC, dI) vwCl [(x, .inr (12, [.ref h, .ref xg, .ref y, .ref xd, .ref c0, .ref xt, .ref xm, .ref xl, .ref qn, .ref qw, .ref xe, .ref xc, .int xf, .int xp])), (qw, .inr (8, [.ref qwr, .ref qwd, .int (nI wi2), .int (nI wz2)])), (qwr, .inl (kL, 4000, .inr (.inl fw)))] tS.heap ∧ va_K (dC, dI) vwCl [(kL, .long)] tS ∧ va_D (va_A [(x, .inr (12, [.ref h, .ref xg, .ref y, .ref xd, .ref c0, .ref xt, .ref xm, .ref xl, .ref qn, .ref qw, .ref xe, .ref xc, .int xf, .int xp])), (qw, .inr (8, [.ref qwr, .ref qwd, .int (nI wi), .int (nI wz)])), (qwr, .inl (kL, 4000, .inr (.inl fw)))] sz) [(x, .inr (12, [.ref h, .ref xg, .ref y, .ref xd, .ref c0, .ref xt, .ref xm, .ref xl, .ref qn, .ref qw, .ref xe, .ref xc, .int xf, .int xp])), (qw, .inr (8, [.ref qwr, .ref qwd, .int (nI wi2), .int (nI wz2)])), (qwr, .inl (kL, 4000, .inr (.inl fw)))]) (va_A [(x, .inr (12, [.ref h, .ref xg, .ref y, .ref xd, .ref c0, .ref xt, .ref xm, .ref xl, .ref qn, .ref qw, .ref xe, .ref xc, .int xf, .int xp])), (qw, .inr (8, [.ref qwr, .ref qwd, .int (nI wi), .int (nI wz)])), (qwr, .inl (kL, 4000, .inr (.inl fw)))] sz)) 0 0 (va_A [(x, .inr (12, [.ref h, .ref xg, .ref y, .ref xd, .ref c0, .ref xt, .ref xm, .ref xl, .ref qn, .ref qw, .ref xe, .ref xc, .int xf, .int xp])), (qw, .inr (8, [.ref qwr, .ref qwd, .int (nI wi), .int (nI wz)])), (qwr, .inl (kL, 4000, .inr (.inl fw)))] sz) := by
  refine Met.ofW (cc := cX12_fetch) (maxL := 5) (ret := (some .long)) (by decide) rfl ?_
  intro p e s m args below meth c s₁ B hml hv
  obtain ⟨rfl, hsz, hP, hK, hD0⟩ := hv
  have hx := B.exec
  have hb := B.bytes
  have hr := B.returns
  have hts := atoms_spec (ws := wp_c_fetch) B.pre
  have hown : s.vm.findClass RX12 = some m.cls := findClass_of_methodNamed B.named
  have hlocks := B.notSynchronized
  subst hsz
  have hD := hD0.self (sz := s.heap.size)
  generalize hAe : va_A [(x, .inr (12, [.ref h, .ref xg, .ref y, .ref xd, .ref c0, .ref xt, .ref xm, .ref xl, .ref qn, .ref qw, .ref xe, .ref xc, .int xf, .int xp])), (qw, .inr (8, [.ref qwr, .ref qwd, .int (nI wi), .int (nI wz)])), (qwr, .inl (kL, 4000, .inr (.inl fw)))] s.heap.size = A at hD ⊢
  have hA : ∀ q : Nat, s.heap.size ≤ q → A q := fun q h => by rw [← hAe]; exact Or.inr h
  have hS : va_S A s.heap s.heap [] := va_S.rf
  have hP : va_P (dC, dI) vwCl [(x, .inr (12, [.ref h, .ref xg, .ref y, .ref xd, .ref c0, .ref xt, .ref xm, .ref xl, .ref qn, .ref qw, .ref xe, .ref xc, .int xf, .int xp])), (qw, .inr (8, [.ref qwr, .ref qwd, .int (nI wi), .int (nI wz)])), (qwr, .inl (kL, 4000, .inr (.inl fw)))] s.heap := hP
  have hl := lv_entry ([.ref x]) (n := 5) (Nat.le_of_ble_eq_true rfl)
  rw [lg_entry_eq]
  generalize (lg_sl ([.ref x]) ++ List.replicate (5 - (lg_sl ([.ref x])).length) Slot.unset).toArray = ls at hl ⊢
  have hl : lv_has ls 5 [(0, .ref x)] := hl
  refine lv_aload_n hx hb dX12_fetch_0 rfl (lv_at hl 0 rfl) ?_
  refine va_get (D := (dC, dI)) (ci := 12) (v := .ref qw) (C := RX12) (T := TX12) (N := 14) hx hb hts in_c_fetch_X12 hown hK hP 0 rfl rfl 9 (by decide) (hts (.fieldLink RX12 84 "OwnedPlaces" "waiting" "LOwnedPlaces$Queue;") (wm_c_fetch 1 rfl)) (fun _ h9 => h9) rfl dX12_fetch_1 ?_
  refine va_get (D := (dC, dI)) (ci := 8) (v := .int (nI wz)) (C := RX8) (T := TX8) (N := 4) hx hb hts in_c_fetch_X8 hown hK hP 1 rfl rfl 3 (by decide) (hts (.fieldLink RX12 144 "OwnedPlaces$Queue" "size" "I") (wm_c_fetch 2 rfl)) (fun _ h9 => h9) rfl dX12_fetch_4 ?_
  refine lv_bipush (v := 7) hx hb dX12_fetch_7 (by decide) ?_
  refine va_mmin hx hb (by rw [hml]; exact hl.1.symm) hown (hts (.methodLink RX12 147 Lib.Math.min.name) (wm_c_fetch 3 rfl)) (hts (.static Lib.Math.min.name) (wm_c_fetch 4 rfl)) (hts (.initialized "java/lang/Math") (wm_c_fetch 5 rfl)) (hts (.code Lib.Math.min.name Lib.Math.min.code 2 (some .int)) (wm_c_fetch 6 rfl)) (Nat.le_of_ble_eq_true rfl) (Nat.le_of_ble_eq_true rfl) (Nat.zero_le _) (Nat.zero_le _) dX12_fetch_9 ?_
  refine lv_topi (fun f_1 ef_1 => ?_)
  obtain rfl : f_1 = nI (min wz 7) := min_nI (a := wz) (b := 7) (by omega) (by decide) ef_1
  refine lv_istore_n (lv' := [(1, .int (nI (min wz 7))), (0, .ref x)]) hx hb dX12_fetch_12 rfl hl (by decide) rfl (fun ls hl => ?_)
  refine lv_iload_n hx hb dX12_fetch_13 rfl (lv_at hl 0 rfl) ?_
  obtain ⟨f_2, ef_2⟩ : ∃ yY : Int64, yY = (nI (min wz 7) : Int32).toInt64 := ⟨_, rfl⟩
  refine lv_i2l (v := f_2) hx hb dX12_fetch_14 ef_2.symm ?_
  refine lv_lstore_n (lv' := [(2, .long f_2), (1, .int (nI (min wz 7))), (0, .ref x)]) hx hb dX12_fetch_15 rfl hl (by decide) rfl (fun ls hl => ?_)
  refine lv_iconst (v := 0) hx hb dX12_fetch_16 (by decide) ?_
  refine lv_istore (lv' := [(4, .int 0), (2, .long f_2), (1, .int (nI (min wz 7))), (0, .ref x)]) hx hb dX12_fetch_17 hl (by decide) rfl (fun ls hl => ?_)
  refine W_q (fun Q1 hQ1 => ?_)
  have key1 : ∀ (n1 : Nat) (i wi1 wz1 : Nat) (av : Int64) (H : Heap) (locs : List Loc) (ls : Array Slot), (i + n1 = 8 ∧ i ≤ 7) → (wi1 < 4000 ∧ wz1 ≤ 4000) → va_P (dC, dI) vwCl [(x, .inr (12, [.ref h, .ref xg, .ref y, .ref xd, .ref c0, .ref xt, .ref xm, .ref xl, .ref qn, .ref qw, .ref xe, .ref xc, .int xf, .int xp])), (qw, .inr (8, [.ref qwr, .ref qwd, .int (nI wi1), .int (nI wz1)])), (qwr, .inl (kL, 4000, .inr (.inl fw)))] H → va_D A [(x, .inr (12, [.ref h, .ref xg, .ref y, .ref xd, .ref c0, .ref xt, .ref xm, .ref xl, .ref qn, .ref qw, .ref xe, .ref xc, .int xf, .int xp])), (qw, .inr (8, [.ref qwr, .ref qwd, .int (nI wi1), .int (nI wz1)])), (qwr, .inl (kL, 4000, .inr (.inl fw)))] → va_S A s.heap H locs → lv_has ls 5 [(4, .int (nI i)), (2, .long av), (1, .int (nI (min wz 7))), (0, .ref x)] → W p l e (headSpec wp_c_fetch ({ frames := 1, cells := 0, slots := 0, locals := 22 })).room s m ([.ref x] : List Value).toArray below meth c H locs 0 0 Q1 (F0 m 19 ls []) := by
    intro n1
    induction n1 with
    | zero => intro i wi1 wz1 av H locs ls hb0 hb1; exact absurd hb0 (by omega)
    | succ n1 ih1 =>
      intro i wi1 wz1 av H locs ls hb0 hb1 hP hD hS hl
      refine lv_iload hx hb dX12_fetch_19 (lv_at hl 0 rfl) ?_
      refine lv_bipush (v := 7) hx hb dX12_fetch_21 (by decide) ?_
      refine lv_icmp_ge (tgt := 55) hx hb dX12_fetch_23 (by decide) (fun hc => ?_) (fun hc => ?_)
      · refine lv_lload_n hx hb dX12_fetch_55 rfl (lv_at hl 1 rfl) ?_
        have hP9 := hP.sub (ws' := [(x, .inr (12, [.ref h, .ref xg, .ref y, .ref xd, .ref c0, .ref xt, .ref xm, .ref xl, .ref qn, .ref qw, .ref xe, .ref xc, .int xf, .int xp])), (qw, .inr (8, [.ref qwr, .ref qwd, .int (nI wi1), .int (nI wz1)])), (qwr, .inl (kL, 4000, .inr (.inl fw)))]) [0, 1, 2] rfl
        have hD9 := hD.sub (ws' := [(x, .inr (12, [.ref h, .ref xg, .ref y, .ref xd, .ref c0, .ref xt, .ref xm, .ref xl, .ref qn, .ref qw, .ref xe, .ref xc, .int xf, .int xp])), (qw, .inr (8, [.ref qwr, .ref qwd, .int (nI wi1), .int (nI wz1)])), (qwr, .inl (kL, 4000, .inr (.inl fw)))]) [0, 1, 2] (by decide) rfl
        have hK9 := hK.sub (tys' := [(kL, .long)]) [0] rfl
        subst hQ1
        exact W.lret (v := av) hx hb hr (fun tS ht hW => ⟨⟨av, (), rfl, trivial, wi1, wz1, hb1.1, hb1.2, by rw [ht]; exact hP9, va_K.moved hW.alike hK9, hD9⟩, hS.F ht⟩) hS.2.2 dX12_fetch_56
      · have hi : i < 7 := by rcases Nat.lt_or_ge i 7 with z9 | z9; exact z9; exact absurd (nI_le (a := 7) z9 (by omega)) hc
        refine lv_lload_n hx hb dX12_fetch_26 rfl (lv_at hl 1 rfl) ?_
        refine lv_bipush (v := 8) hx hb dX12_fetch_27 (by decide) ?_
        obtain ⟨f_3, ef_3⟩ : ∃ yY : Int64, yY = (av : Int64) <<< ((8 : Int32).toInt64 &&& 63) := ⟨_, rfl⟩
        refine lv_lshl (v := f_3) hx hb dX12_fetch_29 ef_3.symm ?_
        refine lv_iload hx hb dX12_fetch_30 (lv_at hl 0 rfl) ?_
        refine lv_iload_n hx hb dX12_fetch_32 rfl (lv_at hl 2 rfl) ?_
        refine lv_icmp_ge (tgt := 46) hx hb dX12_fetch_33 (by decide) (fun hd => ?_) (fun hd => ?_)
        · refine lv_lconst (v := 0) hx hb dX12_fetch_46 (by decide) ?_
          refine lv_lor hx hb dX12_fetch_47 ?_
          refine lv_topl (fun f_4 ef_4 => ?_)
          refine lv_lstore_n (lv' := [(2, .long f_4), (4, .int (nI i)), (1, .int (nI (min wz 7))), (0, .ref x)]) hx hb dX12_fetch_48 rfl hl (by decide) rfl (fun ls hl => ?_)
          obtain ⟨x_5, ex_5⟩ : ∃ yY : Int32, yY = (nI i) + 1 := ⟨_, rfl⟩
          refine lv_iinc (v := x_5) (lv' := [(4, .int x_5), (2, .long f_4), (1, .int (nI (min wz 7))), (0, .ref x)]) hx hb dX12_fetch_49 hl (k := 1) rfl (by rw [ex_5]; rfl) (by decide) rfl (fun ls hl => ?_)
          obtain rfl : x_5 = nI (i + 1) := by rw [ex_5]; exact nI_1 i
          have hl : lv_has ls 5 [(4, .int (nI (i + 1))), (2, .long f_4), (1, .int (nI (min wz 7))), (0, .ref x)] := hl
          refine lv_goto (tgt := 19) hx hb dX12_fetch_52 (by decide) ?_
          exact ih1 (i + 1) wi1 wz1 f_4 _ _ _ (by omega) hb1 (hP.sub [0, 1, 2] rfl) (hD.sub [0, 1, 2] (by decide) rfl) hS (lv_sub hl [0, 1, 2, 3] rfl)
        · refine lv_aload_n hx hb dX12_fetch_36 rfl (lv_at hl 3 rfl) ?_
          refine va_get (D := (dC, dI)) (ci := 12) (v := .ref qw) (C := RX12) (T := TX12) (N := 14) hx hb hts in_c_fetch_X12 hown hK hP 0 rfl rfl 9 (by decide) (hts (.fieldLink RX12 84 "OwnedPlaces" "waiting" "LOwnedPlaces$Queue;") (wm_c_fetch 1 rfl)) (fun _ h9 => h9) rfl dX12_fetch_37 ?_
          have hPc := hP.sub (ws' := [(qw, .inr (8, [.ref qwr, .ref qwd, .int (nI wi1), .int (nI wz1)])), (qwr, .inl (kL, 4000, .inr (.inl fw)))]) [1, 2] rfl
          have hDc := hD.sub (ws' := [(qw, .inr (8, [.ref qwr, .ref qwd, .int (nI wi1), .int (nI wz1)])), (qwr, .inl (kL, 4000, .inr (.inl fw)))]) [1, 2] (by decide) rfl
          have hKc := hK.sub (tys' := [(kL, .long)]) [0] rfl
          have hFc := va_free (wc := [(qw, .inr (8, [.ref qwr, .ref qwd, .int (nI wi1), .int (nI wz1)])), (qwr, .inl (kL, 4000, .inr (.inl fw)))]) hD hS hA [1, 2] rfl
          refine va_calll (va_runV (As := []) (rest := [.long f_3]) ⟨hx, hb, hml, hown, hts⟩ (c_qtake l dC dI qw qwr qwd 4000 wi1 wz1 kL fw H.size (by decide) (by decide) hb1.1 hb1.2) (cwV 0 hts g_c_fetch_c_qtake_40 rfl rfl rfl (by decide +kernel) ⟨Nat.le_of_ble_eq_true rfl, Nat.le_of_ble_eq_true rfl⟩) ⟨fun a U g mk q => by obtain ⟨q0, q1, qP, qK, qD⟩ := q; exact ⟨q0, q1, qP, va_K.moved (u := U) (U := U.calling g mk a) (Vm.Alike.refl U.vm) qK, qD⟩, va_recv hKc hPc (ci := 8) (q0 := 0) rfl rfl, fun U hU hW => ⟨rfl, by rw [hU], by rw [hU]; exact hPc, va_K.moved hW.alike hKc, hDc.weaken (fun _ _ _ _ => trivial)⟩⟩ rfl rfl hl.1 rfl (lv_room (Nat.le_of_ble_eq_true rfl)) dX12_fetch_40 ⟨(show 0 + 0 ≤ 0 by omega), (show 0 + 0 ≤ 0 by omega)⟩) hS (fun q _ h => hFc q h) hFc (fun r_4 u tS H1 locs ht hvm hw hB hz1 hk1 hS => ?_)
          obtain ⟨wi9, wz9, hf4_0, hf4_1, hP1, hK1, hD1⟩ := hB
          rw [ht] at hP1
          have hK1 := va_K.moved hvm.symm hK1
          obtain ⟨hP, hD⟩ := va_join (wr := [(x, .inr (12, [.ref h, .ref xg, .ref y, .ref xd, .ref c0, .ref xt, .ref xm, .ref xl, .ref qn, .ref qw, .ref xe, .ref xc, .int xf, .int xp]))]) (w1 := [(qw, .inr (8, [.ref qwr, .ref qwd, .int (nI wi9), .int (nI wz9)])), (qwr, .inl (kL, 4000, .inr (.inl fw)))]) hP hD [1, 2] [0] rfl rfl (by decide) (by decide) hk1 hFc hP1 hD1
          have hK := hK.app hK1
          generalize H1 = H at hP hS ⊢
          have hP : va_P (dC, dI) vwCl [(x, .inr (12, [.ref h, .ref xg, .ref y, .ref xd, .ref c0, .ref xt, .ref xm, .ref xl, .ref qn, .ref qw, .ref xe, .ref xc, .int xf, .int xp])), (qw, .inr (8, [.ref qwr, .ref qwd, .int (nI wi9), .int (nI wz9)])), (qwr, .inl (kL, 4000, .inr (.inl fw)))] H := hP
          have hD : va_D A [(x, .inr (12, [.ref h, .ref xg, .ref y, .ref xd, .ref c0, .ref xt, .ref xm, .ref xl, .ref qn, .ref qw, .ref xe, .ref xc, .int xf, .int xp])), (qw, .inr (8, [.ref qwr, .ref qwd, .int (nI wi9), .int (nI wz9)])), (qwr, .inl (kL, 4000, .inr (.inl fw)))] := hD
          have hK : va_K (dC, dI) vwCl [(kL, .long), (kL, .long)] s := hK
          have hK := hK.sub (tys' := [(kL, .long)]) [0] rfl
          have hP : va_P (dC, dI) vwCl [(x, .inr (12, [.ref h, .ref xg, .ref y, .ref xd, .ref c0, .ref xt, .ref xm, .ref xl, .ref qn, .ref qw, .ref xe, .ref xc, .int xf, .int xp])), (qw, .inr (8, [.ref qwr, .ref qwd, .int (nI wi9), .int (nI wz9)])), (qwr, .inl (kL, 4000, .inr (.inl fw)))] H := hP
          have hD : va_D A [(x, .inr (12, [.ref h, .ref xg, .ref y, .ref xd, .ref c0, .ref xt, .ref xm, .ref xl, .ref qn, .ref qw, .ref xe, .ref xc, .int xf, .int xp])), (qw, .inr (8, [.ref qwr, .ref qwd, .int (nI wi9), .int (nI wz9)])), (qwr, .inl (kL, 4000, .inr (.inl fw)))] := hD
          refine lv_goto (tgt := 47) hx hb dX12_fetch_43 (by decide) ?_
          refine lv_lor hx hb dX12_fetch_47 ?_
          refine lv_topl (fun f_5 ef_5 => ?_)
          refine lv_lstore_n (lv' := [(2, .long f_5), (4, .int (nI i)), (1, .int (nI (min wz 7))), (0, .ref x)]) hx hb dX12_fetch_48 rfl hl (by decide) rfl (fun ls hl => ?_)
          obtain ⟨x_6, ex_6⟩ : ∃ yY : Int32, yY = (nI i) + 1 := ⟨_, rfl⟩
          refine lv_iinc (v := x_6) (lv' := [(4, .int x_6), (2, .long f_5), (1, .int (nI (min wz 7))), (0, .ref x)]) hx hb dX12_fetch_49 hl (k := 1) rfl (by rw [ex_6]; rfl) (by decide) rfl (fun ls hl => ?_)
          obtain rfl : x_6 = nI (i + 1) := by rw [ex_6]; exact nI_1 i
          have hl : lv_has ls 5 [(4, .int (nI (i + 1))), (2, .long f_5), (1, .int (nI (min wz 7))), (0, .ref x)] := hl
          refine lv_goto (tgt := 19) hx hb dX12_fetch_52 (by decide) ?_
          exact ih1 (i + 1) wi9 wz9 f_5 _ _ _ (by omega) (⟨hf4_0, hf4_1⟩) (hP.sub [0, 1, 2] rfl) (hD.sub [0, 1, 2] (by decide) rfl) hS (lv_sub hl [0, 1, 2, 3] rfl)
  exact key1 8 0 wi wz f_2 _ _ _ (by omega) (⟨hwi, hwz⟩) (hP.sub [0, 1, 2] rfl) (hD.sub [0, 1, 2] (by decide) rfl) hS (lv_sub hl [0, 1, 2, 3] rfl)
theorem cnt_in {w : Int32} (h : ¬ (w.toInt < 0 ∨ 5 < w.toInt)) : w = 0 ∨ w = 1 ∨ w = 2 ∨ w = 3 ∨ w = 4 ∨ w = 5 := by
  have h2 : w.toInt = 0 ∨ w.toInt = 1 ∨ w.toInt = 2 ∨ w.toInt = 3 ∨ w.toInt = 4 ∨ w.toInt = 5 := by omega
  rcases h2 with h | h | h | h | h | h
  · exact Or.inl (Int32.toInt_inj.mp h)
  · exact Or.inr (Or.inl (Int32.toInt_inj.mp h))
  · exact Or.inr (Or.inr (Or.inl (Int32.toInt_inj.mp h)))
  · exact Or.inr (Or.inr (Or.inr (Or.inl (Int32.toInt_inj.mp h))))
  · exact Or.inr (Or.inr (Or.inr (Or.inr (Or.inl (Int32.toInt_inj.mp h)))))
  · exact Or.inr (Or.inr (Or.inr (Or.inr (Or.inr (Int32.toInt_inj.mp h)))))
def wf_c_count : List Cond := [.code yX12_count cX12_count 2 (some .int), .fieldLink RX12 128 "OwnedPlaces" "fuelLeft" "I", .fieldLink RX12 96 "OwnedPlaces" "memory" "LOwnedPlaces$Memory;", .fieldLink RX12 156 "OwnedPlaces$Memory" "inUse" "I", .fieldLink RX12 159 "OwnedPlaces$Memory" "mostInUse" "I", .fieldLink RX12 12 "OwnedPlaces" "text" "LOwnedPlaces$Text;", .fieldLink RX12 109 "OwnedPlaces$Text" "length" "I", .fieldLink RX12 84 "OwnedPlaces" "waiting" "LOwnedPlaces$Queue;", .fieldLink RX12 144 "OwnedPlaces$Queue" "size" "I", .fieldLink RX12 80 "OwnedPlaces" "numbers" "LOwnedPlaces$Queue;"]
def wp_c_count : List Cond := wf_c_count ++ (wsX120 ++ (wsX60 ++ (wsX90 ++ (wsX80 ++ []))))
theorem in_c_count_X12 : ∀ w ∈ wsX120, w ∈ wp_c_count := fun w h => List.mem_append_right _ (List.mem_append_left _ h)
theorem in_c_count_X6 : ∀ w ∈ wsX60, w ∈ wp_c_count := fun w h => List.mem_append_right _ (List.mem_append_right _ (List.mem_append_left _ h))
theorem in_c_count_X9 : ∀ w ∈ wsX90, w ∈ wp_c_count := fun w h => List.mem_append_right _ (List.mem_append_right _ (List.mem_append_right _ (List.mem_append_left _ h)))
theorem in_c_count_X8 : ∀ w ∈ wsX80, w ∈ wp_c_count := fun w h => List.mem_append_right _ (List.mem_append_right _ (List.mem_append_right _ (List.mem_append_right _ (List.mem_append_left _ h))))
theorem wg_c_count : wf_c_count.all goodWord = true := by decide +kernel
theorem wm_c_count (k : Nat) {w : Cond} (h : wp_c_count[k]? = some w) : w ∈ wp_c_count := List.mem_of_getElem? h
set_option maxHeartbeats 4000000 in
set_option maxRecDepth 100000 in
theorem c_count (l : Launch) (dC : Nat → ClassId) (dI : Nat → Nat → Nat) (x xg y xd c0 xt xm xl qn qw xe xc : Nat) (xf xp : Int32) (h tk tp tn tu tl tb ts tf tz tx th tw : Nat) (ln now ft pl nt tot zn zf zw zg : Int32) (qr qd qwr qwd : Nat) (ec et e1 e2 e3 hp : Nat) (elo ein emo edt : Int32) (wt : Int32) (sz : Nat) : Met l yX12_count wp_c_count ({ frames := 0, cells := 0, slots := 0, locals := 0 }) (va_Pc [.ref x, .int wt] (fun U => U.heap.size = sz ∧ va_P (dC, dI) vwCl [(x, .inr (12, [.ref h, .ref xg, .ref y, .ref xd, .ref c0, .ref xt, .ref xm, .ref xl, .ref qn, .ref qw, .ref xe, .ref xc, .int xf, .int xp])), (h, .inr (9, [.ref tk, .ref tp, .ref tn, .ref tu, .ref tl, .int ln, .int now, .int ft, .int pl, .int nt, .ref tb, .int tot, .ref ts, .ref tf, .ref tz, .ref tx, .ref th, .ref tw])), (qn, .inr (8, [.ref qr, .ref qd, .int zf, .int zn])), (qw, .inr (8, [.ref qwr, .ref qwd, .int zg, .int zw])), (xe, .inr (6, [.ref y, .ref qw, .int (nI hp), .ref ec, .ref et, .int elo, .int ein, .int emo, .ref e1, .ref e2, .ref e3, .int edt]))] U.heap ∧ va_K (dC, dI) vwCl [] U ∧ va_D (fun _ => True) [(x, .inr (12, [.ref h, .ref xg, .ref y, .ref xd, .ref c0, .ref xt, .ref xm, .ref xl, .ref qn, .ref qw, .ref xe, .ref xc, .int xf, .int xp])), (h, .inr (9, [.ref tk, .ref tp, .ref tn, .ref tu, .ref tl, .int ln, .int now, .int ft, .int pl, .int nt, .ref tb, .int tot, .ref ts, .ref tf, .ref tz, .ref tx, .ref th, .ref tw])), (qn, .inr (8, [.ref qr, .ref qd, .int zf, .int zn])), (qw, .inr (8, [.ref qwr, .ref qwd, .int zg, .int zw])), (xe, .inr (6, [.ref y, .ref qw, .int (nI hp), .ref ec, .ref et, .int elo, .int ein, .int emo, .ref e1, .ref e2, .ref e3, .int edt]))])) (va_Qi (fun (_ : Int32) (_ : Unit) => True) (fun (_ : Unit) (tS : State) => va_P (dC, dI) vwCl [(x, .inr (12, [.ref h, .ref xg, .ref y, .ref xd, .ref c0, .ref xt, .ref xm, .ref xl, .ref qn, .ref qw, .ref xe, .ref xc, .int xf, .int xp])), (h, .inr (9, [.ref tk, .ref tp, .ref tn, .ref tu, .ref tl, .int ln, .int now, .int ft, .int pl, .int nt, .ref tb, .int tot, .ref ts, .ref tf, .ref tz, .ref tx, .ref th, .ref tw])), (qn, .inr (8, [.ref qr, .ref qd, .int zf, .int zn])), (qw, .inr (8, [.ref qwr, .ref qwd, .int zg, .int zw])), (xe, .inr (6, [.ref y, .ref qw, .int (nI hp), .ref ec, .ref et, .int elo, .int ein, .int emo, .ref e1, .ref e2, .ref e3, .int edt]))] tS.heap ∧ va_K (dC, dI) vwCl [] tS ∧ va_D (va_A [(x, .inr (12, [.ref h, .ref xg, .ref y, .ref xd, .ref c0, .ref xt, .ref xm, .ref xl, .ref qn, .ref qw, .ref xe, .ref xc, .int xf, .int xp])), (h, .inr (9, [.ref tk, .ref tp, .ref tn, .ref tu, .ref tl, .int ln, .int now, .int ft, .int pl, .int nt, .ref tb, .int tot, .ref ts, .ref tf, .ref tz, .ref tx, .ref th, .ref tw])), (qn, .inr (8, [.ref qr, .ref qd, .int zf, .int zn])), (qw, .inr (8, [.ref qwr, .ref qwd, .int zg, .int zw])), (xe, .inr (6, [.ref y, .ref qw, .int (nI hp), .ref ec, .ref et, .int elo, .int ein, .int emo, .ref e1, .ref e2, .ref e3, .int edt]))] sz) [(x, .inr (12, [.ref h, .ref xg, .ref y, .ref xd, .ref c0, .ref xt, .ref xm, .ref xl, .ref qn, .ref qw, .ref xe, .ref xc, .int xf, .int xp])), (h, .inr (9, [.ref tk, .ref tp, .ref tn, .ref tu, .ref tl, .int ln, .int now, .int ft, .int pl, .int nt, .ref tb, .int tot, .ref ts, .ref tf, .ref tz, .ref tx, .ref th, .ref tw])), (qn, .inr (8, [.ref qr, .ref qd, .int zf, .int zn])), (qw, .inr (8, [.ref qwr, .ref qwd, .int zg, .int zw])), (xe, .inr (6, [.ref y, .ref qw, .int (nI hp), .ref ec, .ref et, .int elo, .int ein, .int emo, .ref e1, .ref e2, .ref e3, .int edt]))]) (va_A [(x, .inr (12, [.ref h, .ref xg, .ref y, .ref xd, .ref c0, .ref xt, .ref xm, .ref xl, .ref qn, .ref qw, .ref xe, .ref xc, .int xf, .int xp])), (h, .inr (9, [.ref tk, .ref tp, .ref tn, .ref tu, .ref tl, .int ln, .int now, .int ft, .int pl, .int nt, .ref tb, .int tot, .ref ts, .ref tf, .ref tz, .ref tx, .ref th, .ref tw])), (qn, .inr (8, [.ref qr, .ref qd, .int zf, .int zn])), (qw, .inr (8, [.ref qwr, .ref qwd, .int zg, .int zw])), (xe, .inr (6, [.ref y, .ref qw, .int (nI hp), .ref ec, .ref et, .int elo, .int ein, .int emo, .ref e1, .ref e2, .ref e3, .int edt]))] sz)) 0 0 (va_A [(x, .inr (12, [.ref h, .ref xg, .ref y, .ref xd, .ref c0, .ref xt, .ref xm, .ref xl, .ref qn, .ref qw, .ref xe, .ref xc, .int xf, .int xp])), (h, .inr (9, [.ref tk, .ref tp, .ref tn, .ref tu, .ref tl, .int ln, .int now, .int ft, .int pl, .int nt, .ref tb, .int tot, .ref ts, .ref tf, .ref tz, .ref tx, .ref th, .ref tw])), (qn, .inr (8, [.ref qr, .ref qd, .int zf, .int zn])), (qw, .inr (8, [.ref qwr, .ref qwd, .int zg, .int zw])), (xe, .inr (6, [.ref y, .ref qw, .int (nI hp), .ref ec, .ref et, .int elo, .int ein, .int emo, .ref e1, .ref e2, .ref e3, .int edt]))] sz) := by
  refine Met.ofW (cc := cX12_count) (maxL := 2) (ret := (some .int)) (by decide) rfl ?_
  intro p e s m args below meth c s₁ B hml hv
  obtain ⟨rfl, hsz, hP, hK, hD0⟩ := hv
  have hx := B.exec
  have hb := B.bytes
  have hr := B.returns
  have hts := atoms_spec (ws := wp_c_count) B.pre
  have hown : s.vm.findClass RX12 = some m.cls := findClass_of_methodNamed B.named
  have hlocks := B.notSynchronized
  subst hsz
  have hD := hD0.self (sz := s.heap.size)
  generalize hAe : va_A [(x, .inr (12, [.ref h, .ref xg, .ref y, .ref xd, .ref c0, .ref xt, .ref xm, .ref xl, .ref qn, .ref qw, .ref xe, .ref xc, .int xf, .int xp])), (h, .inr (9, [.ref tk, .ref tp, .ref tn, .ref tu, .ref tl, .int ln, .int now, .int ft, .int pl, .int nt, .ref tb, .int tot, .ref ts, .ref tf, .ref tz, .ref tx, .ref th, .ref tw])), (qn, .inr (8, [.ref qr, .ref qd, .int zf, .int zn])), (qw, .inr (8, [.ref qwr, .ref qwd, .int zg, .int zw])), (xe, .inr (6, [.ref y, .ref qw, .int (nI hp), .ref ec, .ref et, .int elo, .int ein, .int emo, .ref e1, .ref e2, .ref e3, .int edt]))] s.heap.size = A at hD ⊢
  have hA : ∀ q : Nat, s.heap.size ≤ q → A q := fun q h => by rw [← hAe]; exact Or.inr h
  have hS : va_S A s.heap s.heap [] := va_S.rf
  have hP : va_P (dC, dI) vwCl [(x, .inr (12, [.ref h, .ref xg, .ref y, .ref xd, .ref c0, .ref xt, .ref xm, .ref xl, .ref qn, .ref qw, .ref xe, .ref xc, .int xf, .int xp])), (h, .inr (9, [.ref tk, .ref tp, .ref tn, .ref tu, .ref tl, .int ln, .int now, .int ft, .int pl, .int nt, .ref tb, .int tot, .ref ts, .ref tf, .ref tz, .ref tx, .ref th, .ref tw])), (qn, .inr (8, [.ref qr, .ref qd, .int zf, .int zn])), (qw, .inr (8, [.ref qwr, .ref qwd, .int zg, .int zw])), (xe, .inr (6, [.ref y, .ref qw, .int (nI hp), .ref ec, .ref et, .int elo, .int ein, .int emo, .ref e1, .ref e2, .ref e3, .int edt]))] s.heap := hP
  have hl := lv_entry ([.ref x, .int wt]) (n := 2) (Nat.le_of_ble_eq_true rfl)
  rw [lg_entry_eq]
  generalize (lg_sl ([.ref x, .int wt]) ++ List.replicate (2 - (lg_sl ([.ref x, .int wt])).length) Slot.unset).toArray = ls at hl ⊢
  have hl : lv_has ls 2 [(0, .ref x), (1, .int wt)] := hl
  refine lv_iload_n hx hb dX12_count_0 rfl (lv_at hl 1 rfl) ?_
  by_cases h5 : wt.toInt < 0 ∨ 5 < wt.toInt
  · refine lv_tableOut (tgt := 85) hx hb dX12_count_1 h5 (by decide) ?_
    refine lv_iconst (v := (-1)) hx hb dX12_count_85 (by decide) ?_
    have hP9 := hP.sub (ws' := [(x, .inr (12, [.ref h, .ref xg, .ref y, .ref xd, .ref c0, .ref xt, .ref xm, .ref xl, .ref qn, .ref qw, .ref xe, .ref xc, .int xf, .int xp])), (h, .inr (9, [.ref tk, .ref tp, .ref tn, .ref tu, .ref tl, .int ln, .int now, .int ft, .int pl, .int nt, .ref tb, .int tot, .ref ts, .ref tf, .ref tz, .ref tx, .ref th, .ref tw])), (qn, .inr (8, [.ref qr, .ref qd, .int zf, .int zn])), (qw, .inr (8, [.ref qwr, .ref qwd, .int zg, .int zw])), (xe, .inr (6, [.ref y, .ref qw, .int (nI hp), .ref ec, .ref et, .int elo, .int ein, .int emo, .ref e1, .ref e2, .ref e3, .int edt]))]) [0, 1, 2, 3, 4] rfl
    have hD9 := hD.sub (ws' := [(x, .inr (12, [.ref h, .ref xg, .ref y, .ref xd, .ref c0, .ref xt, .ref xm, .ref xl, .ref qn, .ref qw, .ref xe, .ref xc, .int xf, .int xp])), (h, .inr (9, [.ref tk, .ref tp, .ref tn, .ref tu, .ref tl, .int ln, .int now, .int ft, .int pl, .int nt, .ref tb, .int tot, .ref ts, .ref tf, .ref tz, .ref tx, .ref th, .ref tw])), (qn, .inr (8, [.ref qr, .ref qd, .int zf, .int zn])), (qw, .inr (8, [.ref qwr, .ref qwd, .int zg, .int zw])), (xe, .inr (6, [.ref y, .ref qw, .int (nI hp), .ref ec, .ref et, .int elo, .int ein, .int emo, .ref e1, .ref e2, .ref e3, .int edt]))]) [0, 1, 2, 3, 4] (by decide) rfl
    have hK9 := hK.sub (tys' := []) [] rfl
    exact W.iret (v := (-1)) hx hb hr (fun tS ht hW => ⟨⟨(-1), (), rfl, trivial, by rw [ht]; exact hP9, va_K.moved hW.alike hK9, hD9⟩, hS.F ht⟩) hS.2.2 dX12_count_86
  · rcases cnt_in h5 with rfl | rfl | rfl | rfl | rfl | rfl
    · refine lv_tableIn (off := 39) (tgt := 40) hx hb dX12_count_1 (by decide) (by decide) (by decide) (by decide) ?_
      refine lv_aload_n hx hb dX12_count_40 rfl (lv_at hl 0 rfl) ?_
      refine va_get (D := (dC, dI)) (ci := 12) (v := .int xf) (C := RX12) (T := TX12) (N := 14) hx hb hts in_c_count_X12 hown hK hP 0 rfl rfl 12 (by decide) (hts (.fieldLink RX12 128 "OwnedPlaces" "fuelLeft" "I") (wm_c_count 1 rfl)) (fun _ h9 => h9) rfl dX12_count_41 ?_
      have hP9 := hP.sub (ws' := [(x, .inr (12, [.ref h, .ref xg, .ref y, .ref xd, .ref c0, .ref xt, .ref xm, .ref xl, .ref qn, .ref qw, .ref xe, .ref xc, .int xf, .int xp])), (h, .inr (9, [.ref tk, .ref tp, .ref tn, .ref tu, .ref tl, .int ln, .int now, .int ft, .int pl, .int nt, .ref tb, .int tot, .ref ts, .ref tf, .ref tz, .ref tx, .ref th, .ref tw])), (qn, .inr (8, [.ref qr, .ref qd, .int zf, .int zn])), (qw, .inr (8, [.ref qwr, .ref qwd, .int zg, .int zw])), (xe, .inr (6, [.ref y, .ref qw, .int (nI hp), .ref ec, .ref et, .int elo, .int ein, .int emo, .ref e1, .ref e2, .ref e3, .int edt]))]) [0, 1, 2, 3, 4] rfl
      have hD9 := hD.sub (ws' := [(x, .inr (12, [.ref h, .ref xg, .ref y, .ref xd, .ref c0, .ref xt, .ref xm, .ref xl, .ref qn, .ref qw, .ref xe, .ref xc, .int xf, .int xp])), (h, .inr (9, [.ref tk, .ref tp, .ref tn, .ref tu, .ref tl, .int ln, .int now, .int ft, .int pl, .int nt, .ref tb, .int tot, .ref ts, .ref tf, .ref tz, .ref tx, .ref th, .ref tw])), (qn, .inr (8, [.ref qr, .ref qd, .int zf, .int zn])), (qw, .inr (8, [.ref qwr, .ref qwd, .int zg, .int zw])), (xe, .inr (6, [.ref y, .ref qw, .int (nI hp), .ref ec, .ref et, .int elo, .int ein, .int emo, .ref e1, .ref e2, .ref e3, .int edt]))]) [0, 1, 2, 3, 4] (by decide) rfl
      have hK9 := hK.sub (tys' := []) [] rfl
      exact W.iret (v := xf) hx hb hr (fun tS ht hW => ⟨⟨xf, (), rfl, trivial, by rw [ht]; exact hP9, va_K.moved hW.alike hK9, hD9⟩, hS.F ht⟩) hS.2.2 dX12_count_44
    · refine lv_tableIn (off := 44) (tgt := 45) hx hb dX12_count_1 (by decide) (by decide) (by decide) (by decide) ?_
      refine lv_aload_n hx hb dX12_count_45 rfl (lv_at hl 0 rfl) ?_
      refine va_get (D := (dC, dI)) (ci := 12) (v := .ref xe) (C := RX12) (T := TX12) (N := 14) hx hb hts in_c_count_X12 hown hK hP 0 rfl rfl 10 (by decide) (hts (.fieldLink RX12 96 "OwnedPlaces" "memory" "LOwnedPlaces$Memory;") (wm_c_count 2 rfl)) (fun _ h9 => h9) rfl dX12_count_46 ?_
      refine va_get (D := (dC, dI)) (ci := 6) (v := .int ein) (C := RX6) (T := TX6) (N := 12) hx hb hts in_c_count_X6 hown hK hP 4 rfl rfl 6 (by decide) (hts (.fieldLink RX12 156 "OwnedPlaces$Memory" "inUse" "I") (wm_c_count 3 rfl)) (fun _ h9 => h9) rfl dX12_count_49 ?_
      have hP9 := hP.sub (ws' := [(x, .inr (12, [.ref h, .ref xg, .ref y, .ref xd, .ref c0, .ref xt, .ref xm, .ref xl, .ref qn, .ref qw, .ref xe, .ref xc, .int xf, .int xp])), (h, .inr (9, [.ref tk, .ref tp, .ref tn, .ref tu, .ref tl, .int ln, .int now, .int ft, .int pl, .int nt, .ref tb, .int tot, .ref ts, .ref tf, .ref tz, .ref tx, .ref th, .ref tw])), (qn, .inr (8, [.ref qr, .ref qd, .int zf, .int zn])), (qw, .inr (8, [.ref qwr, .ref qwd, .int zg, .int zw])), (xe, .inr (6, [.ref y, .ref qw, .int (nI hp), .ref ec, .ref et, .int elo, .int ein, .int emo, .ref e1, .ref e2, .ref e3, .int edt]))]) [0, 1, 2, 3, 4] rfl
      have hD9 := hD.sub (ws' := [(x, .inr (12, [.ref h, .ref xg, .ref y, .ref xd, .ref c0, .ref xt, .ref xm, .ref xl, .ref qn, .ref qw, .ref xe, .ref xc, .int xf, .int xp])), (h, .inr (9, [.ref tk, .ref tp, .ref tn, .ref tu, .ref tl, .int ln, .int now, .int ft, .int pl, .int nt, .ref tb, .int tot, .ref ts, .ref tf, .ref tz, .ref tx, .ref th, .ref tw])), (qn, .inr (8, [.ref qr, .ref qd, .int zf, .int zn])), (qw, .inr (8, [.ref qwr, .ref qwd, .int zg, .int zw])), (xe, .inr (6, [.ref y, .ref qw, .int (nI hp), .ref ec, .ref et, .int elo, .int ein, .int emo, .ref e1, .ref e2, .ref e3, .int edt]))]) [0, 1, 2, 3, 4] (by decide) rfl
      have hK9 := hK.sub (tys' := []) [] rfl
      exact W.iret (v := ein) hx hb hr (fun tS ht hW => ⟨⟨ein, (), rfl, trivial, by rw [ht]; exact hP9, va_K.moved hW.alike hK9, hD9⟩, hS.F ht⟩) hS.2.2 dX12_count_52
    · refine lv_tableIn (off := 52) (tgt := 53) hx hb dX12_count_1 (by decide) (by decide) (by decide) (by decide) ?_
      refine lv_aload_n hx hb dX12_count_53 rfl (lv_at hl 0 rfl) ?_
      refine va_get (D := (dC, dI)) (ci := 12) (v := .ref xe) (C := RX12) (T := TX12) (N := 14) hx hb hts in_c_count_X12 hown hK hP 0 rfl rfl 10 (by decide) (hts (.fieldLink RX12 96 "OwnedPlaces" "memory" "LOwnedPlaces$Memory;") (wm_c_count 2 rfl)) (fun _ h9 => h9) rfl dX12_count_54 ?_
      refine va_get (D := (dC, dI)) (ci := 6) (v := .int emo) (C := RX6) (T := TX6) (N := 12) hx hb hts in_c_count_X6 hown hK hP 4 rfl rfl 7 (by decide) (hts (.fieldLink RX12 159 "OwnedPlaces$Memory" "mostInUse" "I") (wm_c_count 4 rfl)) (fun _ h9 => h9) rfl dX12_count_57 ?_
      have hP9 := hP.sub (ws' := [(x, .inr (12, [.ref h, .ref xg, .ref y, .ref xd, .ref c0, .ref xt, .ref xm, .ref xl, .ref qn, .ref qw, .ref xe, .ref xc, .int xf, .int xp])), (h, .inr (9, [.ref tk, .ref tp, .ref tn, .ref tu, .ref tl, .int ln, .int now, .int ft, .int pl, .int nt, .ref tb, .int tot, .ref ts, .ref tf, .ref tz, .ref tx, .ref th, .ref tw])), (qn, .inr (8, [.ref qr, .ref qd, .int zf, .int zn])), (qw, .inr (8, [.ref qwr, .ref qwd, .int zg, .int zw])), (xe, .inr (6, [.ref y, .ref qw, .int (nI hp), .ref ec, .ref et, .int elo, .int ein, .int emo, .ref e1, .ref e2, .ref e3, .int edt]))]) [0, 1, 2, 3, 4] rfl
      have hD9 := hD.sub (ws' := [(x, .inr (12, [.ref h, .ref xg, .ref y, .ref xd, .ref c0, .ref xt, .ref xm, .ref xl, .ref qn, .ref qw, .ref xe, .ref xc, .int xf, .int xp])), (h, .inr (9, [.ref tk, .ref tp, .ref tn, .ref tu, .ref tl, .int ln, .int now, .int ft, .int pl, .int nt, .ref tb, .int tot, .ref ts, .ref tf, .ref tz, .ref tx, .ref th, .ref tw])), (qn, .inr (8, [.ref qr, .ref qd, .int zf, .int zn])), (qw, .inr (8, [.ref qwr, .ref qwd, .int zg, .int zw])), (xe, .inr (6, [.ref y, .ref qw, .int (nI hp), .ref ec, .ref et, .int elo, .int ein, .int emo, .ref e1, .ref e2, .ref e3, .int edt]))]) [0, 1, 2, 3, 4] (by decide) rfl
      have hK9 := hK.sub (tys' := []) [] rfl
      exact W.iret (v := emo) hx hb hr (fun tS ht hW => ⟨⟨emo, (), rfl, trivial, by rw [ht]; exact hP9, va_K.moved hW.alike hK9, hD9⟩, hS.F ht⟩) hS.2.2 dX12_count_60
    · refine lv_tableIn (off := 60) (tgt := 61) hx hb dX12_count_1 (by decide) (by decide) (by decide) (by decide) ?_
      refine lv_aload_n hx hb dX12_count_61 rfl (lv_at hl 0 rfl) ?_
      refine va_get (D := (dC, dI)) (ci := 12) (v := .ref h) (C := RX12) (T := TX12) (N := 14) hx hb hts in_c_count_X12 hown hK hP 0 rfl rfl 0 (by decide) (hts (.fieldLink RX12 12 "OwnedPlaces" "text" "LOwnedPlaces$Text;") (wm_c_count 5 rfl)) (fun _ h9 => h9) rfl dX12_count_62 ?_
      refine va_get (D := (dC, dI)) (ci := 9) (v := .int ln) (C := RX9) (T := TX9) (N := 18) hx hb hts in_c_count_X9 hown hK hP 1 rfl rfl 5 (by decide) (hts (.fieldLink RX12 109 "OwnedPlaces$Text" "length" "I") (wm_c_count 6 rfl)) (fun _ h9 => h9) rfl dX12_count_65 ?_
      have hP9 := hP.sub (ws' := [(x, .inr (12, [.ref h, .ref xg, .ref y, .ref xd, .ref c0, .ref xt, .ref xm, .ref xl, .ref qn, .ref qw, .ref xe, .ref xc, .int xf, .int xp])), (h, .inr (9, [.ref tk, .ref tp, .ref tn, .ref tu, .ref tl, .int ln, .int now, .int ft, .int pl, .int nt, .ref tb, .int tot, .ref ts, .ref tf, .ref tz, .ref tx, .ref th, .ref tw])), (qn, .inr (8, [.ref qr, .ref qd, .int zf, .int zn])), (qw, .inr (8, [.ref qwr, .ref qwd, .int zg, .int zw])), (xe, .inr (6, [.ref y, .ref qw, .int (nI hp), .ref ec, .ref et, .int elo, .int ein, .int emo, .ref e1, .ref e2, .ref e3, .int edt]))]) [0, 1, 2, 3, 4] rfl
      have hD9 := hD.sub (ws' := [(x, .inr (12, [.ref h, .ref xg, .ref y, .ref xd, .ref c0, .ref xt, .ref xm, .ref xl, .ref qn, .ref qw, .ref xe, .ref xc, .int xf, .int xp])), (h, .inr (9, [.ref tk, .ref tp, .ref tn, .ref tu, .ref tl, .int ln, .int now, .int ft, .int pl, .int nt, .ref tb, .int tot, .ref ts, .ref tf, .ref tz, .ref tx, .ref th, .ref tw])), (qn, .inr (8, [.ref qr, .ref qd, .int zf, .int zn])), (qw, .inr (8, [.ref qwr, .ref qwd, .int zg, .int zw])), (xe, .inr (6, [.ref y, .ref qw, .int (nI hp), .ref ec, .ref et, .int elo, .int ein, .int emo, .ref e1, .ref e2, .ref e3, .int edt]))]) [0, 1, 2, 3, 4] (by decide) rfl
      have hK9 := hK.sub (tys' := []) [] rfl
      exact W.iret (v := ln) hx hb hr (fun tS ht hW => ⟨⟨ln, (), rfl, trivial, by rw [ht]; exact hP9, va_K.moved hW.alike hK9, hD9⟩, hS.F ht⟩) hS.2.2 dX12_count_68
    · refine lv_tableIn (off := 68) (tgt := 69) hx hb dX12_count_1 (by decide) (by decide) (by decide) (by decide) ?_
      refine lv_aload_n hx hb dX12_count_69 rfl (lv_at hl 0 rfl) ?_
      refine va_get (D := (dC, dI)) (ci := 12) (v := .ref qw) (C := RX12) (T := TX12) (N := 14) hx hb hts in_c_count_X12 hown hK hP 0 rfl rfl 9 (by decide) (hts (.fieldLink RX12 84 "OwnedPlaces" "waiting" "LOwnedPlaces$Queue;") (wm_c_count 7 rfl)) (fun _ h9 => h9) rfl dX12_count_70 ?_
      refine va_get (D := (dC, dI)) (ci := 8) (v := .int zw) (C := RX8) (T := TX8) (N := 4) hx hb hts in_c_count_X8 hown hK hP 3 rfl rfl 3 (by decide) (hts (.fieldLink RX12 144 "OwnedPlaces$Queue" "size" "I") (wm_c_count 8 rfl)) (fun _ h9 => h9) rfl dX12_count_73 ?_
      have hP9 := hP.sub (ws' := [(x, .inr (12, [.ref h, .ref xg, .ref y, .ref xd, .ref c0, .ref xt, .ref xm, .ref xl, .ref qn, .ref qw, .ref xe, .ref xc, .int xf, .int xp])), (h, .inr (9, [.ref tk, .ref tp, .ref tn, .ref tu, .ref tl, .int ln, .int now, .int ft, .int pl, .int nt, .ref tb, .int tot, .ref ts, .ref tf, .ref tz, .ref tx, .ref th, .ref tw])), (qn, .inr (8, [.ref qr, .ref qd, .int zf, .int zn])), (qw, .inr (8, [.ref qwr, .ref qwd, .int zg, .int zw])), (xe, .inr (6, [.ref y, .ref qw, .int (nI hp), .ref ec, .ref et, .int elo, .int ein, .int emo, .ref e1, .ref e2, .ref e3, .int edt]))]) [0, 1, 2, 3, 4] rfl
      have hD9 := hD.sub (ws' := [(x, .inr (12, [.ref h, .ref xg, .ref y, .ref xd, .ref c0, .ref xt, .ref xm, .ref xl, .ref qn, .ref qw, .ref xe, .ref xc, .int xf, .int xp])), (h, .inr (9, [.ref tk, .ref tp, .ref tn, .ref tu, .ref tl, .int ln, .int now, .int ft, .int pl, .int nt, .ref tb, .int tot, .ref ts, .ref tf, .ref tz, .ref tx, .ref th, .ref tw])), (qn, .inr (8, [.ref qr, .ref qd, .int zf, .int zn])), (qw, .inr (8, [.ref qwr, .ref qwd, .int zg, .int zw])), (xe, .inr (6, [.ref y, .ref qw, .int (nI hp), .ref ec, .ref et, .int elo, .int ein, .int emo, .ref e1, .ref e2, .ref e3, .int edt]))]) [0, 1, 2, 3, 4] (by decide) rfl
      have hK9 := hK.sub (tys' := []) [] rfl
      exact W.iret (v := zw) hx hb hr (fun tS ht hW => ⟨⟨zw, (), rfl, trivial, by rw [ht]; exact hP9, va_K.moved hW.alike hK9, hD9⟩, hS.F ht⟩) hS.2.2 dX12_count_76
    · refine lv_tableIn (off := 76) (tgt := 77) hx hb dX12_count_1 (by decide) (by decide) (by decide) (by decide) ?_
      refine lv_aload_n hx hb dX12_count_77 rfl (lv_at hl 0 rfl) ?_
      refine va_get (D := (dC, dI)) (ci := 12) (v := .ref qn) (C := RX12) (T := TX12) (N := 14) hx hb hts in_c_count_X12 hown hK hP 0 rfl rfl 8 (by decide) (hts (.fieldLink RX12 80 "OwnedPlaces" "numbers" "LOwnedPlaces$Queue;") (wm_c_count 9 rfl)) (fun _ h9 => h9) rfl dX12_count_78 ?_
      refine va_get (D := (dC, dI)) (ci := 8) (v := .int zn) (C := RX8) (T := TX8) (N := 4) hx hb hts in_c_count_X8 hown hK hP 2 rfl rfl 3 (by decide) (hts (.fieldLink RX12 144 "OwnedPlaces$Queue" "size" "I") (wm_c_count 8 rfl)) (fun _ h9 => h9) rfl dX12_count_81 ?_
      have hP9 := hP.sub (ws' := [(x, .inr (12, [.ref h, .ref xg, .ref y, .ref xd, .ref c0, .ref xt, .ref xm, .ref xl, .ref qn, .ref qw, .ref xe, .ref xc, .int xf, .int xp])), (h, .inr (9, [.ref tk, .ref tp, .ref tn, .ref tu, .ref tl, .int ln, .int now, .int ft, .int pl, .int nt, .ref tb, .int tot, .ref ts, .ref tf, .ref tz, .ref tx, .ref th, .ref tw])), (qn, .inr (8, [.ref qr, .ref qd, .int zf, .int zn])), (qw, .inr (8, [.ref qwr, .ref qwd, .int zg, .int zw])), (xe, .inr (6, [.ref y, .ref qw, .int (nI hp), .ref ec, .ref et, .int elo, .int ein, .int emo, .ref e1, .ref e2, .ref e3, .int edt]))]) [0, 1, 2, 3, 4] rfl
      have hD9 := hD.sub (ws' := [(x, .inr (12, [.ref h, .ref xg, .ref y, .ref xd, .ref c0, .ref xt, .ref xm, .ref xl, .ref qn, .ref qw, .ref xe, .ref xc, .int xf, .int xp])), (h, .inr (9, [.ref tk, .ref tp, .ref tn, .ref tu, .ref tl, .int ln, .int now, .int ft, .int pl, .int nt, .ref tb, .int tot, .ref ts, .ref tf, .ref tz, .ref tx, .ref th, .ref tw])), (qn, .inr (8, [.ref qr, .ref qd, .int zf, .int zn])), (qw, .inr (8, [.ref qwr, .ref qwd, .int zg, .int zw])), (xe, .inr (6, [.ref y, .ref qw, .int (nI hp), .ref ec, .ref et, .int elo, .int ein, .int emo, .ref e1, .ref e2, .ref e3, .int edt]))]) [0, 1, 2, 3, 4] (by decide) rfl
      have hK9 := hK.sub (tys' := []) [] rfl
      exact W.iret (v := zn) hx hb hr (fun tS ht hW => ⟨⟨zn, (), rfl, trivial, by rw [ht]; exact hP9, va_K.moved hW.alike hK9, hD9⟩, hS.F ht⟩) hS.2.2 dX12_count_84
