def wf_c_put : List Cond := [.code yX8_put cX8_put 3 (some .boolean), .fieldLink RX8 17 "OwnedPlaces$Queue" "size" "I", .fieldLink RX8 13 "OwnedPlaces$Queue" "row" "[J", .fieldLink RX8 21 "OwnedPlaces$Queue" "first" "I"]
def wp_c_put : List Cond := wf_c_put ++ (wsX80 ++ [])
theorem in_c_put_X8 : ∀ w ∈ wsX80, w ∈ wp_c_put := fun w h => List.mem_append_right _ (List.mem_append_left _ h)
theorem wg_c_put : wf_c_put.all goodWord = true := by decide +kernel
theorem wm_c_put (k : Nat) {w : Cond} (h : wp_c_put[k]? = some w) : w ∈ wp_c_put := List.mem_of_getElem? h
set_option maxHeartbeats 4000000 in
set_option maxRecDepth 100000 in
theorem c_put (l : Launch) (dC : Nat → ClassId) (dI : Nat → Nat → Nat) (q qr qd N fi qz : Nat) (kL : ClassId) (fr : Nat → Int64) (v : Int64) (sz : Nat) (hN0 : 0 < N) (hN : N ≤ 4000) (hfi : fi < N) (hqz : qz ≤ N) : Met l yX8_put wp_c_put ({ frames := 0, cells := 0, slots := 0, locals := 0 }) (va_Pc [.ref q, .long v] (fun U => U.heap.size = sz ∧ va_P (dC, dI) vwCl [(q, .inr (8, [.ref qr, .ref qd, .int (nI fi), .int (nI qz)])), (qr, .inl (kL, N, .inr (.inl fr)))] U.heap ∧ va_K (dC, dI) vwCl [(kL, .long)] U ∧ va_D (fun _ => True) [(q, .inr (8, [.ref qr, .ref qd, .int (nI fi), .int (nI qz)])), (qr, .inl (kL, N, .inr (.inl fr)))])) (va_Qi (fun (r : Int32) (_ : Unit) => r = 0 ∨ r = 1) (fun (_ : Unit) (tS : State) => ∃ (qz2 : Nat) (gr : Nat → Int64), (qz2 ≤ N) ∧ va_P (dC, dI) vwCl [(q, .inr (8, [.ref qr, .ref qd, .int (nI fi), .int (nI qz2)])), (qr, .inl (kL, N, .inr (.inl gr)))] tS.heap ∧ va_K (dC, dI) vwCl [(kL, .long)] tS ∧ va_D (va_A [(q, .inr (8, [.ref qr, .ref qd, .int (nI fi), .int (nI qz)])), (qr, .inl (kL, N, .inr (.inl fr)))] sz) [(q, .inr (8, [.ref qr, .ref qd, .int (nI fi), .int (nI qz2)])), (qr, .inl (kL, N, .inr (.inl gr)))]) (va_A [(q, .inr (8, [.ref qr, .ref qd, .int (nI fi), .int (nI qz)])), (qr, .inl (kL, N, .inr (.inl fr)))] sz)) 0 0 (va_A [(q, .inr (8, [.ref qr, .ref qd, .int (nI fi), .int (nI qz)])), (qr, .inl (kL, N, .inr (.inl fr)))] sz) := by
  refine Met.ofW (cc := cX8_put) (maxL := 3) (ret := (some .boolean)) (by decide) rfl ?_
  intro p e s m args below meth c s₁ B hml hv
  obtain ⟨rfl, hsz, hP, hK, hD0⟩ := hv
  have hx := B.exec
  have hb := B.bytes
  have hr := B.returns
  have hts := atoms_spec (ws := wp_c_put) B.pre
  have hown : s.vm.findClass RX8 = some m.cls := findClass_of_methodNamed B.named
  have hlocks := B.notSynchronized
  subst hsz
  have hD := hD0.self (sz := s.heap.size)
  generalize hAe : va_A [(q, .inr (8, [.ref qr, .ref qd, .int (nI fi), .int (nI qz)])), (qr, .inl (kL, N, .inr (.inl fr)))] s.heap.size = A at hD ⊢
  have hA : ∀ q : Nat, s.heap.size ≤ q → A q := fun q h => by rw [← hAe]; exact Or.inr h
  have hS : va_S A s.heap s.heap [] := va_S.rf
  have hP : va_P (dC, dI) vwCl [(q, .inr (8, [.ref qr, .ref qd, .int (nI fi), .int (nI qz)])), (qr, .inl (kL, N, .inr (.inl fr)))] s.heap := hP
  have hl := lv_entry ([.ref q, .long v]) (n := 3) (Nat.le_of_ble_eq_true rfl)
  rw [lg_entry_eq]
  generalize (lg_sl ([.ref q, .long v]) ++ List.replicate (3 - (lg_sl ([.ref q, .long v])).length) Slot.unset).toArray = ls at hl ⊢
  have hl : lv_has ls 3 [(0, .ref q), (1, .long v)] := hl
  refine lv_aload_n hx hb dX8_put_0 rfl (lv_at hl 0 rfl) ?_
  refine va_get (D := (dC, dI)) (ci := 8) (v := .int (nI qz)) (C := RX8) (T := TX8) (N := 4) hx hb hts in_c_put_X8 hown hK hP 0 rfl rfl 3 (by decide) (hts (.fieldLink RX8 17 "OwnedPlaces$Queue" "size" "I") (wm_c_put 1 rfl)) (fun _ h9 => h9) rfl dX8_put_1 ?_
  refine lv_aload_n hx hb dX8_put_4 rfl (lv_at hl 0 rfl) ?_
  refine va_get (D := (dC, dI)) (ci := 8) (v := .ref qr) (C := RX8) (T := TX8) (N := 4) hx hb hts in_c_put_X8 hown hK hP 0 rfl rfl 0 (by decide) (hts (.fieldLink RX8 13 "OwnedPlaces$Queue" "row" "[J") (wm_c_put 2 rfl)) (fun _ h9 => h9) rfl dX8_put_5 ?_
  refine va_alen (v := nI N) hx hb hK hP 1 0 rfl rfl rfl dX8_put_8 ?_
  refine lv_icmp_ne (tgt := 14) hx hb dX8_put_9 (by decide) (fun hc => ?_) (fun hc => ?_)
  · have hlt : qz < N := by rcases Nat.lt_or_ge qz N with z9 | z9; exact z9; exact absurd (show nI qz = nI N by rw [show qz = N by omega]) hc
    refine lv_aload_n hx hb dX8_put_14 rfl (lv_at hl 0 rfl) ?_
    refine va_get (D := (dC, dI)) (ci := 8) (v := .ref qr) (C := RX8) (T := TX8) (N := 4) hx hb hts in_c_put_X8 hown hK hP 0 rfl rfl 0 (by decide) (hts (.fieldLink RX8 13 "OwnedPlaces$Queue" "row" "[J") (wm_c_put 2 rfl)) (fun _ h9 => h9) rfl dX8_put_15 ?_
    refine lv_aload_n hx hb dX8_put_18 rfl (lv_at hl 0 rfl) ?_
    refine va_get (D := (dC, dI)) (ci := 8) (v := .int (nI fi)) (C := RX8) (T := TX8) (N := 4) hx hb hts in_c_put_X8 hown hK hP 0 rfl rfl 2 (by decide) (hts (.fieldLink RX8 21 "OwnedPlaces$Queue" "first" "I") (wm_c_put 3 rfl)) (fun _ h9 => h9) rfl dX8_put_19 ?_
    refine lv_aload_n hx hb dX8_put_22 rfl (lv_at hl 0 rfl) ?_
    refine va_get (D := (dC, dI)) (ci := 8) (v := .int (nI qz)) (C := RX8) (T := TX8) (N := 4) hx hb hts in_c_put_X8 hown hK hP 0 rfl rfl 3 (by decide) (hts (.fieldLink RX8 17 "OwnedPlaces$Queue" "size" "I") (wm_c_put 1 rfl)) (fun _ h9 => h9) rfl dX8_put_23 ?_
    refine lv_iadd hx hb dX8_put_26 ?_
    refine lv_topi (fun f_1 ef_1 => ?_)
    obtain rfl : f_1 = nI (fi + qz) := ef_1.trans (nI_add _ _)
    refine lv_aload_n hx hb dX8_put_27 rfl (lv_at hl 0 rfl) ?_
    refine va_get (D := (dC, dI)) (ci := 8) (v := .ref qr) (C := RX8) (T := TX8) (N := 4) hx hb hts in_c_put_X8 hown hK hP 0 rfl rfl 0 (by decide) (hts (.fieldLink RX8 13 "OwnedPlaces$Queue" "row" "[J") (wm_c_put 2 rfl)) (fun _ h9 => h9) rfl dX8_put_28 ?_
    refine va_alen (v := nI N) hx hb hK hP 1 0 rfl rfl rfl dX8_put_31 ?_
    refine lv_irem hx hb dX8_put_32 (nI_ne0 hN0 (by omega)) ?_
    refine lv_topi (fun f_2 ef_2 => ?_)
    obtain rfl : f_2 = nI ((fi + qz) % N) := ef_2.trans (pk_rem (by omega) hN0 (by omega))
    refine lv_lload_n hx hb dX8_put_33 rfl (lv_at hl 1 rfl) ?_
    have hmod : (fi + qz) % N < N := Nat.mod_lt _ hN0
    refine va_last hx hb hK hP hD hS 1 0 rfl rfl (vp_in_nI hmod (by omega)) dX8_put_34 (fun H locs hP hD hS => ?_)
    have hP : va_P (dC, dI) vwCl [(q, .inr (8, [.ref qr, .ref qd, .int (nI fi), .int (nI qz)])), (qr, .inl (kL, N, .inr (.inl (vp_updL fr (nI ((fi + qz) % N) : Int32).toNatClampNeg v))))] H := hP
    have hD : va_D A [(q, .inr (8, [.ref qr, .ref qd, .int (nI fi), .int (nI qz)])), (qr, .inl (kL, N, .inr (.inl (vp_updL fr (nI ((fi + qz) % N) : Int32).toNatClampNeg v))))] := hD
    obtain ⟨gr1, egr1⟩ : ∃ zZ : Nat → Int64, zZ = vp_updL fr (nI ((fi + qz) % N) : Int32).toNatClampNeg v := ⟨_, rfl⟩
    rw [← egr1] at hP hD
    refine lv_aload_n hx hb dX8_put_35 rfl (lv_at hl 0 rfl) ?_
    refine lv_dup hx hb dX8_put_36 rfl ?_
    refine va_get (D := (dC, dI)) (ci := 8) (v := .int (nI qz)) (C := RX8) (T := TX8) (N := 4) hx hb hts in_c_put_X8 hown hK hP 0 rfl rfl 3 (by decide) (hts (.fieldLink RX8 17 "OwnedPlaces$Queue" "size" "I") (wm_c_put 1 rfl)) (fun _ h9 => h9) rfl dX8_put_37 ?_
    refine lv_iconst (v := 1) hx hb dX8_put_40 (by decide) ?_
    refine lv_iadd hx hb dX8_put_41 ?_
    refine lv_topi (fun f_3 ef_3 => ?_)
    obtain rfl : f_3 = nI (qz + 1) := ef_3.trans (nI_1 _)
    refine va_put (D := (dC, dI)) (ci := 8) (v := .int (nI (qz + 1))) (ty := .int) (C := RX8) (T := TX8) (N := 4) hx hb hts in_c_put_X8 tyX8 tyX8_ok nmX8 hown hK hP hD hS 0 rfl rfl 3 (by decide) (hts (.fieldLink RX8 17 "OwnedPlaces$Queue" "size" "I") (wm_c_put 1 rfl)) (fun _ h9 => h9) rfl (by decide +kernel) rfl rfl (Nat.le_of_ble_eq_true rfl) dX8_put_42 (fun H locs hP hD hS => ?_)
    have hP : va_P (dC, dI) vwCl [(q, .inr (8, [.ref qr, .ref qd, .int (nI fi), .int (nI (qz + 1))])), (qr, .inl (kL, N, .inr (.inl gr1)))] H := hP
    have hD : va_D A [(q, .inr (8, [.ref qr, .ref qd, .int (nI fi), .int (nI (qz + 1))])), (qr, .inl (kL, N, .inr (.inl gr1)))] := hD
    refine lv_iconst (v := 1) hx hb dX8_put_45 (by decide) ?_
    have hP9 := hP.sub (ws' := [(q, .inr (8, [.ref qr, .ref qd, .int (nI fi), .int (nI (qz + 1))])), (qr, .inl (kL, N, .inr (.inl gr1)))]) [0, 1] rfl
    have hD9 := hD.sub (ws' := [(q, .inr (8, [.ref qr, .ref qd, .int (nI fi), .int (nI (qz + 1))])), (qr, .inl (kL, N, .inr (.inl gr1)))]) [0, 1] (by decide) rfl
    have hK9 := hK.sub (tys' := [(kL, .long)]) [0] rfl
    exact W.zret (v := 1) hx hb hr (by decide) (fun tS ht hW => ⟨⟨1, (), rfl, (Or.inr rfl), qz + 1, gr1, hlt, by rw [ht]; exact hP9, va_K.moved hW.alike hK9, hD9⟩, hS.F ht⟩) hS.2.2 dX8_put_46
  · refine lv_iconst (v := 0) hx hb dX8_put_12 (by decide) ?_
    have hP9 := hP.sub (ws' := [(q, .inr (8, [.ref qr, .ref qd, .int (nI fi), .int (nI qz)])), (qr, .inl (kL, N, .inr (.inl fr)))]) [0, 1] rfl
    have hD9 := hD.sub (ws' := [(q, .inr (8, [.ref qr, .ref qd, .int (nI fi), .int (nI qz)])), (qr, .inl (kL, N, .inr (.inl fr)))]) [0, 1] (by decide) rfl
    have hK9 := hK.sub (tys' := [(kL, .long)]) [0] rfl
    exact W.zret (v := 0) hx hb hr (by decide) (fun tS ht hW => ⟨⟨0, (), rfl, (Or.inl rfl), qz, fr, hqz, by rw [ht]; exact hP9, va_K.moved hW.alike hK9, hD9⟩, hS.F ht⟩) hS.2.2 dX8_put_13
def wf_c_qtake : List Cond := [.code yX8_take cX8_take 3 (some .long), .fieldLink RX8 17 "OwnedPlaces$Queue" "size" "I", .fieldLink RX8 13 "OwnedPlaces$Queue" "row" "[J", .fieldLink RX8 21 "OwnedPlaces$Queue" "first" "I"]
def wp_c_qtake : List Cond := wf_c_qtake ++ (wsX80 ++ [])
theorem in_c_qtake_X8 : ∀ w ∈ wsX80, w ∈ wp_c_qtake := fun w h => List.mem_append_right _ (List.mem_append_left _ h)
theorem wg_c_qtake : wf_c_qtake.all goodWord = true := by decide +kernel
theorem wm_c_qtake (k : Nat) {w : Cond} (h : wp_c_qtake[k]? = some w) : w ∈ wp_c_qtake := List.mem_of_getElem? h
set_option maxHeartbeats 4000000 in
set_option maxRecDepth 100000 in
theorem c_qtake (l : Launch) (dC : Nat → ClassId) (dI : Nat → Nat → Nat) (q qr qd N fi qz : Nat) (kL : ClassId) (fr : Nat → Int64) (sz : Nat) (hN0 : 0 < N) (hN : N ≤ 4000) (hfi : fi < N) (hqz : qz ≤ N) : Met l yX8_take wp_c_qtake ({ frames := 0, cells := 0, slots := 0, locals := 0 }) (va_Pc [.ref q] (fun U => U.heap.size = sz ∧ va_P (dC, dI) vwCl [(q, .inr (8, [.ref qr, .ref qd, .int (nI fi), .int (nI qz)])), (qr, .inl (kL, N, .inr (.inl fr)))] U.heap ∧ va_K (dC, dI) vwCl [(kL, .long)] U ∧ va_D (fun _ => True) [(q, .inr (8, [.ref qr, .ref qd, .int (nI fi), .int (nI qz)])), (qr, .inl (kL, N, .inr (.inl fr)))])) (va_Ql (fun (_ : Int64) (_ : Unit) => True) (fun (_ : Unit) (tS : State) => ∃ (fi2 : Nat) (qz2 : Nat), (fi2 < N) ∧ (qz2 ≤ N) ∧ va_P (dC, dI) vwCl [(q, .inr (8, [.ref qr, .ref qd, .int (nI fi2), .int (nI qz2)])), (qr, .inl (kL, N, .inr (.inl fr)))] tS.heap ∧ va_K (dC, dI) vwCl [(kL, .long)] tS ∧ va_D (va_A [(q, .inr (8, [.ref qr, .ref qd, .int (nI fi), .int (nI qz)])), (qr, .inl (kL, N, .inr (.inl fr)))] sz) [(q, .inr (8, [.ref qr, .ref qd, .int (nI fi2), .int (nI qz2)])), (qr, .inl (kL, N, .inr (.inl fr)))]) (va_A [(q, .inr (8, [.ref qr, .ref qd, .int (nI fi), .int (nI qz)])), (qr, .inl (kL, N, .inr (.inl fr)))] sz)) 0 0 (va_A [(q, .inr (8, [.ref qr, .ref qd, .int (nI fi), .int (nI qz)])), (qr, .inl (kL, N, .inr (.inl fr)))] sz) := by
  refine Met.ofW (cc := cX8_take) (maxL := 3) (ret := (some .long)) (by decide) rfl ?_
  intro p e s m args below meth c s₁ B hml hv
  obtain ⟨rfl, hsz, hP, hK, hD0⟩ := hv
  have hx := B.exec
  have hb := B.bytes
  have hr := B.returns
  have hts := atoms_spec (ws := wp_c_qtake) B.pre
  have hown : s.vm.findClass RX8 = some m.cls := findClass_of_methodNamed B.named
  have hlocks := B.notSynchronized
  subst hsz
  have hD := hD0.self (sz := s.heap.size)
  generalize hAe : va_A [(q, .inr (8, [.ref qr, .ref qd, .int (nI fi), .int (nI qz)])), (qr, .inl (kL, N, .inr (.inl fr)))] s.heap.size = A at hD ⊢
  have hA : ∀ q : Nat, s.heap.size ≤ q → A q := fun q h => by rw [← hAe]; exact Or.inr h
  have hS : va_S A s.heap s.heap [] := va_S.rf
  have hP : va_P (dC, dI) vwCl [(q, .inr (8, [.ref qr, .ref qd, .int (nI fi), .int (nI qz)])), (qr, .inl (kL, N, .inr (.inl fr)))] s.heap := hP
  have hl := lv_entry ([.ref q]) (n := 3) (Nat.le_of_ble_eq_true rfl)
  rw [lg_entry_eq]
  generalize (lg_sl ([.ref q]) ++ List.replicate (3 - (lg_sl ([.ref q])).length) Slot.unset).toArray = ls at hl ⊢
  have hl : lv_has ls 3 [(0, .ref q)] := hl
  refine lv_aload_n hx hb dX8_take_0 rfl (lv_at hl 0 rfl) ?_
  refine va_get (D := (dC, dI)) (ci := 8) (v := .int (nI qz)) (C := RX8) (T := TX8) (N := 4) hx hb hts in_c_qtake_X8 hown hK hP 0 rfl rfl 3 (by decide) (hts (.fieldLink RX8 17 "OwnedPlaces$Queue" "size" "I") (wm_c_qtake 1 rfl)) (fun _ h9 => h9) rfl dX8_take_1 ?_
  refine lv_if_ne (tgt := 9) hx hb dX8_take_4 (by decide) (fun hc => ?_) (fun hc => ?_)
  · have h0 : 0 < qz := by rcases Nat.eq_zero_or_pos qz with z9 | z9; exact absurd (show nI qz = 0 by rw [z9]; rfl) hc; exact z9
    refine lv_aload_n hx hb dX8_take_9 rfl (lv_at hl 0 rfl) ?_
    refine va_get (D := (dC, dI)) (ci := 8) (v := .ref qr) (C := RX8) (T := TX8) (N := 4) hx hb hts in_c_qtake_X8 hown hK hP 0 rfl rfl 0 (by decide) (hts (.fieldLink RX8 13 "OwnedPlaces$Queue" "row" "[J") (wm_c_qtake 2 rfl)) (fun _ h9 => h9) rfl dX8_take_10 ?_
    refine lv_aload_n hx hb dX8_take_13 rfl (lv_at hl 0 rfl) ?_
    refine va_get (D := (dC, dI)) (ci := 8) (v := .int (nI fi)) (C := RX8) (T := TX8) (N := 4) hx hb hts in_c_qtake_X8 hown hK hP 0 rfl rfl 2 (by decide) (hts (.fieldLink RX8 21 "OwnedPlaces$Queue" "first" "I") (wm_c_qtake 3 rfl)) (fun _ h9 => h9) rfl dX8_take_14 ?_
    refine va_lald hx hb hK hP 1 0 rfl rfl (vp_in_nI hfi (by omega)) dX8_take_17 ?_
    refine lv_topl (fun v_1 ev_1 => ?_)
    refine lv_lstore_n (lv' := [(1, .long v_1), (0, .ref q)]) hx hb dX8_take_18 rfl hl (by decide) rfl (fun ls hl => ?_)
    refine lv_aload_n hx hb dX8_take_19 rfl (lv_at hl 1 rfl) ?_
    refine lv_aload_n hx hb dX8_take_20 rfl (lv_at hl 1 rfl) ?_
    refine va_get (D := (dC, dI)) (ci := 8) (v := .int (nI fi)) (C := RX8) (T := TX8) (N := 4) hx hb hts in_c_qtake_X8 hown hK hP 0 rfl rfl 2 (by decide) (hts (.fieldLink RX8 21 "OwnedPlaces$Queue" "first" "I") (wm_c_qtake 3 rfl)) (fun _ h9 => h9) rfl dX8_take_21 ?_
    refine lv_iconst (v := 1) hx hb dX8_take_24 (by decide) ?_
    refine lv_iadd hx hb dX8_take_25 ?_
    refine lv_topi (fun f_2 ef_2 => ?_)
    obtain rfl : f_2 = nI (fi + 1) := ef_2.trans (nI_1 _)
    refine lv_aload_n hx hb dX8_take_26 rfl (lv_at hl 1 rfl) ?_
    refine va_get (D := (dC, dI)) (ci := 8) (v := .ref qr) (C := RX8) (T := TX8) (N := 4) hx hb hts in_c_qtake_X8 hown hK hP 0 rfl rfl 0 (by decide) (hts (.fieldLink RX8 13 "OwnedPlaces$Queue" "row" "[J") (wm_c_qtake 2 rfl)) (fun _ h9 => h9) rfl dX8_take_27 ?_
    refine va_alen (v := nI N) hx hb hK hP 1 0 rfl rfl rfl dX8_take_30 ?_
    refine lv_irem hx hb dX8_take_31 (nI_ne0 hN0 (by omega)) ?_
    refine lv_topi (fun f_3 ef_3 => ?_)
    obtain rfl : f_3 = nI ((fi + 1) % N) := ef_3.trans (pk_rem (by omega) hN0 (by omega))
    refine va_put (D := (dC, dI)) (ci := 8) (v := .int (nI ((fi + 1) % N))) (ty := .int) (C := RX8) (T := TX8) (N := 4) hx hb hts in_c_qtake_X8 tyX8 tyX8_ok nmX8 hown hK hP hD hS 0 rfl rfl 2 (by decide) (hts (.fieldLink RX8 21 "OwnedPlaces$Queue" "first" "I") (wm_c_qtake 3 rfl)) (fun _ h9 => h9) rfl (by decide +kernel) rfl rfl (Nat.le_of_ble_eq_true rfl) dX8_take_32 (fun H locs hP hD hS => ?_)
    have hP : va_P (dC, dI) vwCl [(q, .inr (8, [.ref qr, .ref qd, .int (nI ((fi + 1) % N)), .int (nI qz)])), (qr, .inl (kL, N, .inr (.inl fr)))] H := hP
    have hD : va_D A [(q, .inr (8, [.ref qr, .ref qd, .int (nI ((fi + 1) % N)), .int (nI qz)])), (qr, .inl (kL, N, .inr (.inl fr)))] := hD
    refine lv_aload_n hx hb dX8_take_35 rfl (lv_at hl 1 rfl) ?_
    refine lv_dup hx hb dX8_take_36 rfl ?_
    refine va_get (D := (dC, dI)) (ci := 8) (v := .int (nI qz)) (C := RX8) (T := TX8) (N := 4) hx hb hts in_c_qtake_X8 hown hK hP 0 rfl rfl 3 (by decide) (hts (.fieldLink RX8 17 "OwnedPlaces$Queue" "size" "I") (wm_c_qtake 1 rfl)) (fun _ h9 => h9) rfl dX8_take_37 ?_
    refine lv_iconst (v := 1) hx hb dX8_take_40 (by decide) ?_
    refine lv_isub hx hb dX8_take_41 ?_
    refine lv_topi (fun f_4 ef_4 => ?_)
    obtain rfl : f_4 = nI (qz - 1) := ef_4.trans (pk_sub (a := qz) (b := 1) (by omega))
    refine va_put (D := (dC, dI)) (ci := 8) (v := .int (nI (qz - 1))) (ty := .int) (C := RX8) (T := TX8) (N := 4) hx hb hts in_c_qtake_X8 tyX8 tyX8_ok nmX8 hown hK hP hD hS 0 rfl rfl 3 (by decide) (hts (.fieldLink RX8 17 "OwnedPlaces$Queue" "size" "I") (wm_c_qtake 1 rfl)) (fun _ h9 => h9) rfl (by decide +kernel) rfl rfl (Nat.le_of_ble_eq_true rfl) dX8_take_42 (fun H locs hP hD hS => ?_)
    have hP : va_P (dC, dI) vwCl [(q, .inr (8, [.ref qr, .ref qd, .int (nI ((fi + 1) % N)), .int (nI (qz - 1))])), (qr, .inl (kL, N, .inr (.inl fr)))] H := hP
    have hD : va_D A [(q, .inr (8, [.ref qr, .ref qd, .int (nI ((fi + 1) % N)), .int (nI (qz - 1))])), (qr, .inl (kL, N, .inr (.inl fr)))] := hD
    refine lv_lload_n hx hb dX8_take_45 rfl (lv_at hl 0 rfl) ?_
    have hP9 := hP.sub (ws' := [(q, .inr (8, [.ref qr, .ref qd, .int (nI ((fi + 1) % N)), .int (nI (qz - 1))])), (qr, .inl (kL, N, .inr (.inl fr)))]) [0, 1] rfl
    have hD9 := hD.sub (ws' := [(q, .inr (8, [.ref qr, .ref qd, .int (nI ((fi + 1) % N)), .int (nI (qz - 1))])), (qr, .inl (kL, N, .inr (.inl fr)))]) [0, 1] (by decide) rfl
    have hK9 := hK.sub (tys' := [(kL, .long)]) [0] rfl
    exact W.lret (v := v_1) hx hb hr (fun tS ht hW => ⟨⟨v_1, (), rfl, trivial, (fi + 1) % N, qz - 1, Nat.mod_lt _ hN0, by omega, by rw [ht]; exact hP9, va_K.moved hW.alike hK9, hD9⟩, hS.F ht⟩) hS.2.2 dX8_take_46
  · refine lv_lconst (v := 0) hx hb dX8_take_7 (by decide) ?_
    have hP9 := hP.sub (ws' := [(q, .inr (8, [.ref qr, .ref qd, .int (nI fi), .int (nI qz)])), (qr, .inl (kL, N, .inr (.inl fr)))]) [0, 1] rfl
    have hD9 := hD.sub (ws' := [(q, .inr (8, [.ref qr, .ref qd, .int (nI fi), .int (nI qz)])), (qr, .inl (kL, N, .inr (.inl fr)))]) [0, 1] (by decide) rfl
    have hK9 := hK.sub (tys' := [(kL, .long)]) [0] rfl
    exact W.lret (v := 0) hx hb hr (fun tS ht hW => ⟨⟨0, (), rfl, trivial, fi, qz, hfi, hqz, by rw [ht]; exact hP9, va_K.moved hW.alike hK9, hD9⟩, hS.F ht⟩) hS.2.2 dX8_take_8
