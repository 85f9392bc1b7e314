section STT
variable {K : Ky} {T : Nat} {V : Sg → Option (Sg × Option Nat)} {d : Nat}
/-- a statement -/
theorem stm_ (hV : HVb K T V d) : HSt K T V d := fun S pp ns vv bb h q0 hb hv hn hd r1 r2 => by
  have hp := h.1.2.1; have hT := h.1.2.2.1
  unfold f_statement f_statement_247
  refine Rt.nw (X := nX) h (by omega) (by omega) (fun S1 s1 z1 i1 => ?_)
  refine Rt.pv s1 z1 (Nat.le_of_ble_eq_true rfl) (show Value.int (Zi S1 10) = .int (nI pp) by rw [z1.1.1]) (fun S5 s5 z5 u5 => ?_)
  have s5 : St nX S S5 (Zz S) (.inr (19, sxV 0 pp 0 0 0 .null .null .null .null .null .null .null 0)) 1 14 := s5
  have hss := z5.2.2.2.2 _ s5.2.2.1
  have y1 : Zz S5 = Zz S + 1 := by have := s5.2.2.2.2.1; omega
  have y2 := s5.2.2.2.2.2
  have q5 : Zi S5 3 = 0 := by rw [u5.2.2.2.2.1, i1]; exact q0
  have f5 : Zr S5 5 = Zr S 5 := by rw [s5.1.2.1.1]
  refine Rt.bd z5.kd ?_
  -- a member has filled it
  have hSP : ∀ S7 : Sg, SP K T S5 pp ns vv bb (Zz S) S7 → Rt (some (S7, some (Zz S))) (NP K T S pp ns vv bb 0 19 (2 * (16 - ns) + 2) 3 50 7 110) := fun S7 q7 => by
    obtain ⟨p7, v7, b7, fs7, z7, s7, k1, k2⟩ := q7
    have x1 := s7.2.2.2.2.1; have x2 := s7.2.2.2.2.2
    refine Rt.rt ⟨p7, v7, b7, Zz S, rfl, z7, s5.1.tr s7.1 (fun c hc q => absurd q (by omega)), k1, by omega, by omega, ⟨Nat.le_refl _, z7.2.2.2.2 _ s7.2.2.1, _, s7.2.2.2.1⟩, fun q => ?_⟩
    obtain ⟨c1, c2, c3, c4, c5, c6⟩ := k2 q
    rw [f5] at c6
    exact ⟨by omega, by omega, c3, c4, c6⟩
  have hnx : ∀ k : Int32, Zr S5 5 pp = k → k ≠ 0 → pp + 1 < T := fun k e1 e2 => z5.nx e1 e2
  have hal : ∀ {Q : Sg} {c : va_E} {p2 n2 v2 b2 zz nn : Nat}, St nX S Q (Zz S) c zz nn → RZ Q T p2 n2 v2 b2 → Zz S < Zz Q := fun s w => w.2.2.2.2 _ s.2.2.1
  -- an end with a semicolon, over an exp or none
  have hsem : ∀ (S7 : Sg) (p7 b7 : Nat) (kd : Int32) (ex : Value) (zz nn : Nat), St nX S S7 (Zz S) (.inr (19, sxV kd pp 0 0 0 .null ex .null .null .null .null .null 0)) zz nn → RZ S7 T p7 ns vv b7 → (pp < p7 ∧ bb ≤ b7 ∧ b7 ≤ bb + (p7 - pp)) → zz + 3 ≤ 8 * (p7 - pp) + 8 → nn + 50 ≤ 120 * (p7 - pp) + 120 → zz ≤ 8 * (p7 - pp) + 7 → nn ≤ 120 * (p7 - pp) + 110 → (Zi S7 3 = 0 → b7 ≤ 54 ∧ ((kd = 6 ∧ Zr S 5 pp = 19 ∧ ((ex = .null ∧ bb = b7) ∨ ∃ a p' q' : Nat, ex = .ref a ∧ pp < p' ∧ q' ≤ p7 ∧ isE (iv (Zz S + 1) (Zz S7)) (ZF S7) (K.1 9) (K.1 0) 408 16 a p' q' bb b7)) ∨ (kd = 7 ∧ ∃ a p' q' : Nat, ex = .ref a ∧ pp ≤ p' ∧ q' ≤ p7 ∧ isE (iv (Zz S + 1) (Zz S7)) (ZF S7) (K.1 9) (K.1 0) 408 16 a p' q' bb b7))) → Rt (bnd (f_take K S7 60) fun S41 v42 => some (S41, some (Zz S))) (NP K T S pp ns vv bb 0 19 (2 * (16 - ns) + 2) 3 50 7 110) := fun S7 p7 b7 kd ex zz nn s7 z7 k1 k2 k3 k4 k5 k6 => by
    refine Rt.bn (take_ z7 (by decide)) (fun S8 _ q8 => Rt.rt ?_)
    obtain ⟨p8, z8, g8, w1, w2, w3⟩ := q8
    have s8 := s7.ss g8
    have x1 := s8.2.2.2.2.1; have x2 := s8.2.2.2.2.2
    refine ⟨p8, vv, b7, Zz S, rfl, z8, s8.1, by omega, by omega, by omega, ⟨Nat.le_refl _, hal s8 z8, _, s8.2.2.2.1⟩, fun q => ?_⟩
    have q7 : Zi S7 3 = 0 := g8.1.2.2.2.2.2 q
    have w4 := (w3 q).2
    obtain ⟨c1, c2⟩ := k6 q7
    have hx : exS (iv (Zz S + 1) (Zz S7)) (ZF S7) (iv (Zz S) (Zz S8)) (ZF S8) := iv_ex (by omega) (by rw [g8.2.2.2.1]; exact Nat.le_refl _) (fun a _ _ => by rw [g8.2.1])
    have hm := iv_m.mpr ⟨Nat.le_refl (Zz S), hal s8 z8⟩
    refine ⟨by omega, by omega, c1, hv, hm, by omega, ?_⟩
    rcases c2 with ⟨c2, c9, c3⟩ | ⟨c2, a, p', q', d1, d2, d3, d4⟩
    · subst c2
      refine Or.inr (Or.inr (Or.inr (Or.inr (Or.inr (Or.inr (Or.inl ⟨ex, s8.2.2.2.1, ?_, rfl, c9⟩))))))
      rcases c3 with c3 | ⟨a, p', q', d1, d2, d3, d4⟩
      · exact Or.inl c3
      · exact Or.inr ⟨a, p', q', d1, d2, by omega, isE_im hx _ (Nat.le_refl _) d4⟩
    · subst c2 d1
      exact Or.inr (Or.inl ⟨7, a, p', q', Or.inr rfl, s8.2.2.2.1, d2, by omega, isE_im hx _ (Nat.le_refl _) d4, rfl⟩)
  -- an exp is read into it
  have hexp : ∀ (S7 : Sg) (p7 : Nat) (kd : Int32) (P : Sg → Option Nat → Prop) (g : Sg → Option (Sg × Option Nat)), St nX S S7 (Zz S) (.inr (19, sxV kd pp 0 0 0 .null .null .null .null .null .null .null 0)) 1 14 → RZ S7 T p7 ns vv bb → Zz S7 = Zz S + 1 → pp < p7 → (∀ (S9 : Sg) (p9 b9 x : Nat), St nX S S9 (Zz S) (.inr (19, sxV kd pp 0 0 0 .null (.ref x) .null .null .null .null .null 0)) (1 + (8 * (p9 - p7) + 3)) (14 + (120 * (p9 - p7) + 48)) → RZ S9 T p9 ns vv b9 → (p7 ≤ p9 ∧ bb ≤ b9 ∧ b9 ≤ bb + (p9 - p7)) → (Zi S9 3 = 0 → b9 ≤ 54 ∧ p7 < p9 ∧ isE (iv (Zz S + 1) (Zz S9)) (ZF S9) (K.1 9) (K.1 0) 408 16 x p7 p9 bb b9) → Rt (g S9) P) → Rt (bnd (f_exp K (f_chain9 K 140) (f_unary9 K 140) S7) fun S13 v14 => (pV S13 19 (some (Zz S)) 6 (va_rf v14)).bind g) P := fun S7 p7 kd P g s7 z7 e7 hp7 kk => by
    have x1 := s7.2.2.2.2.1; have x2 := s7.2.2.2.2.2; have hT7 := z7.1.2.1
    refine Rt.bn (ex140 z7 (fun _ => hb) (fun _ => hn) (by omega) (by omega)) (fun S8 r8 q8 => ?_)
    obtain ⟨p8, b8, x, e8, z8, g8, w1, w2, w3, w4, w5⟩ := q8
    subst e8
    have s8 := s7.cl g8 (hal s7 z7) (z1 := 8 * (p8 - p7) + 3) (n1 := 120 * (p8 - p7) + 48) (by omega) (by omega)
    refine Rt.pv s8 z8 (Nat.le_of_ble_eq_true rfl) (show va_rf (some x) = .ref x from rfl) (fun S9 s9 z9 u9 => kk S9 p8 b8 x s9 z9 w1 (fun q => ?_))
    obtain ⟨c1, c2⟩ := w5 (by rw [← u9.2.2.2.2.1]; exact q)
    exact ⟨c1, (isE_mem c2).2, isE_im (iv_ex (by omega) (by rw [u9.2.2.1]; exact Nat.le_refl _) (fun a h1 h2 => u9.1 a (by omega))) _ (Nat.le_refl _) c2⟩
  refine Rt.it (fun k13 => ?_) (fun _ => Rt.it (fun k15 => ?_) (fun _ => Rt.it (fun k17 => ?_) (fun _ => Rt.it (fun k18 => ?_) (fun _ => Rt.it (fun k19 => ?_) (fun _ => Rt.it (fun k20 => ?_) (fun _ => Rt.it (fun k63 => ?_) (fun _ => ?_)))))))
  · exact Rt.bn (let_ z5 y1 s5.2.2.1 s5.2.2.2.1 k13 q5 hb hv hn (by omega) (by omega)) (fun S7 _ q7 => hSP S7 q7)
  · exact Rt.bn (bra_ hV z5 y1 s5.2.2.1 s5.2.2.2.1 q5 hb hv hn hd (by omega) (by omega)) (fun S7 _ q7 => hSP S7 q7)
  · -- while
    refine Rt.pv s5 z5 (Nat.le_of_ble_eq_true rfl) rfl (fun S6 s6 z6 u6 => ?_)
    refine Rt.pi z6 (hnx _ k17 (by decide)) (fun S7 g7 z7 i7 => ?_)
    refine hexp S7 (pp + 1) 4 _ _ (s6.ss g7) z7 (g7.2.2.2.1.trans (u6.2.2.1.trans y1)) (by omega) (fun S9 p9 b9 x s9 z9 a1 a2 => ?_)
    have x1 := s9.2.2.2.2.1; have x2 := s9.2.2.2.2.2; have hT9 := z9.1.2.1
    refine Rt.bn (hV S9 p9 ns vv b9 z9 (fun q => ⟨(a2 q).1, hv⟩) (by omega) (fun _ => ⟨hn, hd⟩) (by omega) (by omega)) (fun S10 r10 q10 => ?_)
    obtain ⟨p10, v10, b10, y, e10, z10, g10, w1, w2, w3, w4, w5⟩ := q10
    subst e10
    have s10 := s9.cl g10 (hal s9 z9) (z1 := 8 * (p10 - p9) + 2) (n1 := 120 * (p10 - p9) + 10) (by omega) (by omega)
    refine Rt.pv s10 z10 (Nat.le_of_ble_eq_true rfl) (show va_rf (some y) = .ref y from rfl) (fun S11 s11 z11 u11 => Rt.rt ?_)
    have x3 := s11.2.2.2.2.1; have x4 := s11.2.2.2.2.2
    have e1 := u11.2.2.1; have e2 := u11.2.2.2.1
    refine ⟨p10, v10, b10, Zz S, rfl, z11, s11.1, by omega, by omega, by omega, ⟨Nat.le_refl _, hal s11 z11, _, s11.2.2.2.1⟩, fun q => ?_⟩
    have q10 : Zi S10 3 = 0 := by rw [← u11.2.2.2.2.1]; exact q
    obtain ⟨d1, d2, d3, d4, d5⟩ := w5 q10
    obtain ⟨c1, c2, c3⟩ := a2 (g10.2.2.2.2.2 q10)
    rw [show Zr S9 5 = Zr S 5 by rw [s9.1.2.1.1]] at d5
    have h09 := s9.1.2.2.2.2.1.1; have hs9 := hal s9 z9
    have h910 := g10.2.2.2.2.1.1
    refine ⟨by omega, by omega, d3, d4, iv_m.mpr ⟨Nat.le_refl _, hal s11 z11⟩, by omega, Or.inr (Or.inr (Or.inr (Or.inr (Or.inl ⟨x, y, p9, b9, s11.2.2.2.1, isE_im (iv_ex (by omega) (by omega) (fun a h1 h2 => by rw [u11.1 a (by omega), g10.2.2.1 a (by omega) (fun q => q)])) _ (Nat.le_refl _) c3, isS_im (iv_ex (by omega) (by omega) (fun a h1 h2 => u11.1 a (by omega))) _ (Nat.le_refl _) d5⟩))))⟩
  · exact Rt.bn (mat_ hV z5 y1 s5.2.2.1 s5.2.2.2.1 k18 q5 hb hv hn hd (by omega) (by omega)) (fun S7 _ q7 => hSP S7 q7)
  · -- return
    refine Rt.pv s5 z5 (Nat.le_of_ble_eq_true rfl) rfl (fun S6 s6 z6 u6 => ?_)
    refine Rt.pi z6 (hnx _ k19 (by decide)) (fun S7 g7 z7 i7 => ?_)
    have s7 := s6.ss g7
    unfold f_statement_183 f_statement_247
    refine Rt.is z7 (fun _ => ?_) (fun _ => ?_)
    · exact hsem S7 (pp + 1) bb 6 .null 1 14 s7 z7 (by omega) (by omega) (by omega) (by omega) (by omega) (fun _ => ⟨hb, Or.inl ⟨rfl, by rw [← f5]; exact k19, Or.inl ⟨rfl, rfl⟩⟩⟩)
    · refine hexp S7 (pp + 1) 6 _ _ s7 z7 (g7.2.2.2.1.trans (u6.2.2.1.trans y1)) (by omega) (fun S9 p9 b9 x s9 z9 a1 a2 => ?_)
      exact hsem S9 p9 b9 6 (.ref x) _ _ s9 z9 (by omega) (by omega) (by omega) (by omega) (by omega) (fun q => ⟨(a2 q).1, Or.inl ⟨rfl, by rw [← f5]; exact k19, Or.inr ⟨x, pp + 1, p9, rfl, by omega, Nat.le_refl _, (a2 q).2.2⟩⟩⟩)
  · -- print
    refine Rt.pv s5 z5 (Nat.le_of_ble_eq_true rfl) rfl (fun S6 s6 z6 u6 => ?_)
    refine Rt.pi z6 (hnx _ k20 (by decide)) (fun S7 g7 z7 i7 => ?_)
    refine hexp S7 (pp + 1) 7 _ _ (s6.ss g7) z7 (g7.2.2.2.1.trans (u6.2.2.1.trans y1)) (by omega) (fun S9 p9 b9 x s9 z9 a1 a2 => ?_)
    exact hsem S9 p9 b9 7 (.ref x) _ _ s9 z9 (by omega) (by omega) (by omega) (by omega) (by omega) (fun q => ⟨(a2 q).1, Or.inr ⟨rfl, x, pp + 1, p9, rfl, by omega, Nat.le_refl _, (a2 q).2.2⟩⟩)
  · -- a block
    refine Rt.pv s5 z5 (Nat.le_of_ble_eq_true rfl) rfl (fun S9 s9 z9 u9 => ?_)
    have x1 := s9.2.2.2.2.1; have x2 := s9.2.2.2.2.2
    have e9 : Zz S9 = Zz S + 1 := u9.2.2.1.trans y1
    refine Rt.bn (hV S9 pp ns vv bb z9 (fun _ => ⟨hb, hv⟩) (by omega) (fun _ => ⟨hn, hd⟩) (by omega) (by omega)) (fun S10 r10 q10 => ?_)
    obtain ⟨p10, v10, b10, y, e10, z10, g10, w1, w2, w3, w4, w5⟩ := q10
    subst e10
    have s10 := s9.cl g10 (hal s9 z9) (z1 := 8 * (p10 - pp) + 2) (n1 := 120 * (p10 - pp) + 10) (by omega) (by omega)
    refine Rt.pv s10 z10 (Nat.le_of_ble_eq_true rfl) (show va_rf (some y) = .ref y from rfl) (fun S11 s11 z11 u11 => Rt.rt ?_)
    have x3 := s11.2.2.2.2.1; have x4 := s11.2.2.2.2.2
    have e1 := u11.2.2.1; have e2 := u11.2.2.2.1
    refine ⟨p10, v10, b10, Zz S, rfl, z11, s11.1, by omega, by omega, by omega, ⟨Nat.le_refl _, hal s11 z11, _, s11.2.2.2.1⟩, fun q => ?_⟩
    have q10 : Zi S10 3 = 0 := by rw [← u11.2.2.2.2.1]; exact q
    obtain ⟨d1, d2, d3, d4, d5⟩ := w5 q10
    rw [show Zr S9 5 = Zr S 5 by rw [s9.1.2.1.1]] at d5
    have hlt := (isN_lt d5).2
    refine ⟨by omega, by omega, d3, d4, iv_m.mpr ⟨Nat.le_refl _, hal s11 z11⟩, by omega, Or.inr (Or.inr (Or.inr (Or.inr (Or.inr (Or.inr (Or.inr ⟨y, s11.2.2.2.1, isS_im (iv_ex (by omega) (by omega) (fun a h1 h2 => u11.1 a (by omega))) _ (Nat.le_refl _) d5⟩))))))⟩
  · exact Rt.bn (pln_ z5 y1 s5.2.2.1 s5.2.2.2.1 q5 hb hv hn (by omega) (by omega)) (fun S7 _ q7 => hSP S7 q7)
/-- all blocks -/
theorem blocks_ : ∀ d : Nat, HVb K T (f_block K d) d
  | 0 => fun S pp ns vv bb _ _ h _ _ _ => absurd h (by omega)
  | d + 1 => blk_ (stm_ (blocks_ d))
end STT
