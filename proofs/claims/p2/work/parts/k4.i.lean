section SUL
variable {K : Ky} {T : Nat} {V : Sg → Int32 → Option (Sg × Option Nat)} {V2 : Sg → Option (Sg × Option Nat)} {d : Nat} {S : Sg} {pp ns vv bb e : Nat}
/-- members behind -/
theorem suf7 (r1 : Zz S + 8 * (T - pp) + 5 ≤ K.2.1) (r2 : Zn S + 120 * (T - pp) + 320 ≤ K.2.2) : ∀ (m : Nat) {S1 : Sg} {p1 b1 e1 i : Nat}, 1 ≤ m → (Zi S1 3 = 0 → T + 1 ≤ p1 + m ∧ i ≤ 16) → RZ S1 T p1 ns vv b1 → GR nX S S1 → (pp ≤ p1 ∧ bb ≤ b1 ∧ b1 ≤ bb + (p1 - pp)) → Zz S1 ≤ Zz S + 8 * (p1 - pp) + 1 → Zn S1 ≤ Zn S + 120 * (p1 - pp) + 14 → (Zz S ≤ e1 ∧ e1 < Zz S1 ∧ ∃ vs : List Value, ZF S1 e1 = .inr (15, vs)) → (Zi S1 3 = 0 → b1 ≤ 54 ∧ isE (iv (Zz S) (Zz S1)) (ZF S1) (K.1 9) (K.1 0) (24 * (16 - ns) + 1 + i) (16 - ns) e1 pp p1 bb b1) → Rt (f_suffixed_7 K V V2 m S1 (some e1) (nI i)) (XP K T S pp ns vv bb (24 * (16 - ns) + 17) 1 14)
  | 0, _, _, _, _, _, h, _, _, _, _, _, _, _, _ => absurd h (by omega)
  | m + 1, S1, p1, b1, e1, i, _, hm, z1, g1, k1, k2, k3, k4, k5 => by
    have hT1 := z1.1.2.1; have hT := z1.1.2.2.1
    have hend : (Zi S1 3 = 0 → i ≤ 16) → Rt (some (S1, some e1)) (XP K T S pp ns vv bb (24 * (16 - ns) + 17) 1 14) := fun hi => Rt.rt ⟨p1, b1, e1, rfl, z1, g1, k1, k2, k3, k4, fun q => ⟨(k5 q).1, isE_im exS.rf _ (by have := hi q; omega) (k5 q).2⟩⟩
    unfold f_suffixed_7 f_suffixed_91
    refine Rt.ok (fun q1 => ?_) (fun q1 => hend (fun q => absurd q q1))
    obtain ⟨hm1, hi⟩ := hm q1
    refine Rt.is z1 (fun hk => ?_) (fun _ => hend (fun _ => hi))
    obtain ⟨c1, c2⟩ := k5 q1
    have hp1 := z1.nx hk (by decide)
    obtain ⟨vs, hv1, hv2⟩ := isE_tok c2
    have h38 : ∀ S2 : Sg, SS S1 S2 → RZ S2 T p1 ns vv b1 → (Zi S2 3 = 0 → i < 16) → Rt (f_suffixed_38 K V V2 (f_suffixed_7 K V V2 m) S2 (some e1) (nI i)) (XP K T S pp ns vv bb (24 * (16 - ns) + 17) 1 14) := fun S2 g2 z2 h2 => by
      unfold f_suffixed_38
      refine Rt.pi z2 hp1 (fun S3 g3 z3 i3 => ?_)
      have g13 := g2.tr g3
      have y1 := g13.2.2.2.1; have y2 := g13.2.2.2.2
      refine Rt.nw (X := nX) z3 (by omega) (by omega) (fun S4 s4 z4 i4 => ?_)
      refine Rt.pv s4 z4 (Nat.le_of_ble_eq_true rfl) rfl (fun S5 s5 z5 u5 => ?_)
      have hne : e1 ≠ Zz S3 := by omega
      have he5 : e1 ∈ ZL S5 := (s5.1.2.2.2.1 e1).mpr (Or.inl (by rw [g13.2.2.1]; exact (g1.2.2.2.1 e1).mpr (Or.inr ⟨k4.1, k4.2.1⟩)))
      have hF5 : ZF S5 e1 = .inr (15, vs) := (s5.1.2.2.1 e1 (by omega) (fun q => q)).trans (by rw [g13.2.1]; exact hv1)
      refine Rt.bd (oI_mk he5 hF5 hv2) ?_
      refine Rt.pv s5 z5 (Nat.le_of_ble_eq_true rfl) rfl (fun S6 s6 z6 u6 => ?_)
      refine Rt.pv s6 z6 (Nat.le_of_ble_eq_true rfl) (show va_rf (some e1) = .ref e1 from rfl) (fun S7 s7 z7 u7 => ?_)
      refine Rt.bn (name_ z7) (fun S8 r8 q8 => ?_)
      obtain ⟨p8, z8, g8, w1, w2, w3⟩ := q8
      refine Rt.pv (s7.ss g8) z8 (Nat.le_of_ble_eq_true rfl) rfl (fun S9 s9 z9 u9 => ?_)
      rw [nI_1]
      have s9 : St nX S3 S9 (Zz S3) (.inr (15, xpV 14 pp 0 r8 0 0 (.ref e1) .null .null 0)) 1 14 := s9
      have x1 := s9.2.2.2.2.1; have x2 := s9.2.2.2.2.2
      have x3 := z9.2.2.2.2 _ s9.2.2.1
      have i9 : Zi S9 3 = Zi S8 3 := by rw [u9.2.2.2.2.1]
      have hgd : Zi S9 3 = 0 → Zi S2 3 = 0 := fun q => by rw [← i3]; exact s9.1.2.2.2.2.2 q
      have g19 : GR nX S1 S9 := g13.1.n s9.1
      have x4 := g1.2.2.2.2.1.1
      refine suf7 r1 r2 m (by omega) (fun q => ⟨?_, by have := h2 (hgd q); omega⟩) z9 (g1.n g19) (by omega) (by omega) (by omega) ⟨by omega, x3, _, s9.2.2.2.1⟩ (fun q => ⟨c1, ?_⟩)
      · have := w3 (by rw [← i9]; exact q); omega
      · obtain ⟨w4, w5, w6⟩ := w3 (by rw [← i9]; exact q)
        subst w6
        have hx : exS (iv (Zz S) (Zz S1)) (ZF S1) (iv (Zz S) (Zz S9)) (ZF S9) := iv_ex (Nat.le_refl _) (by omega) (fun a _ h => g19.2.2.1 a h (fun q => q))
        exact isE_5 (n := 24 * (16 - ns) + 1 + i) (iv_m.mpr ⟨by omega, x3⟩) (by omega) s9.2.2.2.1 (show p1 < p1 + 1 by omega) (by omega) (isE_im hx _ (Nat.le_refl _) c2)
    refine Rt.it (fun h16 => ?_) (fun h16 => ?_)
    · rw [z1.1.1]
      exact Rt.be (fail_ (by omega)) (h38 _ SS.fl z1.fl (fun q => absurd q (flS_n0 (by decide))))
    · refine h38 S1 SS.rf z1 (fun _ => ?_)
      rcases Nat.lt_or_ge i 16 with w | w
      · exact w
      · exact absurd (by rw [show i = 16 by omega]; rfl) h16
theorem suf_ (hV : HVc K T V d) (h : RZ S T pp ns vv bb) (q0 : Zi S 3 = 0) (hb : bb ≤ 54) (hn : ns ≤ 16) (hd : 7 * (17 - ns) ≤ d) (r1 : Zz S + 8 * (T - pp) + 5 ≤ K.2.1) (r2 : Zn S + 120 * (T - pp) + 320 ≤ K.2.2) : Rt (f_suffixed K V V2 S) (XP K T S pp ns vv bb (24 * (16 - ns) + 17) 1 14) := by
  have hp := h.1.2.1; have hT := h.1.2.2.1
  unfold f_suffixed
  refine Rt.bn (pri_ hV h q0 hb hn hd (by omega) (by omega)) (fun S1 r1' q1 => ?_)
  obtain ⟨p1, b1, e1, c0, c1, c2, c3, c4, c5, c6, c7⟩ := q1
  subst c0
  exact suf7 r1 r2 bigN (i := 0) (by decide) (fun _ => ⟨by show T + 1 ≤ p1 + 1000000000000; omega, by omega⟩) c1 c2 c3 c4 c5 c6 c7
/-- unary -/
theorem una_ (hV : HVc K T V d) (hU : HVu K T V2 d) (h : RZ S T pp ns vv bb) (hb : Zi S 3 = 0 → bb ≤ 54) (hd : Zi S 3 = 0 → ns ≤ 16 ∧ 7 * (17 - ns) ≤ d) (r1 : Zz S + 8 * (T - pp) + 7 ≤ K.2.1) (r2 : Zn S + 120 * (T - pp) + 340 ≤ K.2.2) : Rt (f_unary K V V2 S) (XP K T S pp ns vv bb (24 * (16 - ns) + 18) 3 48) := by
  have hp := h.1.2.1; have hT := h.1.2.2.1
  unfold f_unary
  refine Rt.nw (X := nX) h (by omega) (by omega) (fun S5 s5 z5 i5 => ?_)
  have x1 := s5.2.2.2.2.1; have x2 := s5.2.2.2.2.2; have x3 := z5.2.2.2.2 _ s5.2.2.1
  have hal : ∀ {Q : Sg} {c : va_E} {p2 n2 v2 b2 zz nn : Nat}, St nX S Q (Zz S) c zz nn → RZ Q T p2 n2 v2 b2 → Zz S ≤ Zz S ∧ Zz S < Zz Q := fun s w => ⟨Nat.le_refl _, w.2.2.2.2 _ s.2.2.1⟩
  refine Rt.ok (fun q5 => ?_) (fun q5 => Rt.rt ⟨pp, bb, Zz S, rfl, z5, s5.1, by omega, by omega, by omega, ⟨Nat.le_refl _, x3, _, s5.2.2.2.1⟩, fun q => absurd q q5⟩)
  have q0 : Zi S 3 = 0 := by rw [← i5]; exact q5
  have hb := hb q0
  obtain ⟨hn, hd⟩ := hd q0
  refine Rt.bd z5.kd ?_
  have s5 : St nX S S5 (Zz S) (.inr (15, xpV 0 0 0 0 0 0 .null .null .null 0)) 1 14 := s5
  have f5 : Zr S5 5 = Zr S 5 := by rw [s5.1.2.1.1]
  -- the exp below
  have h164 : ∀ (S6 : Sg) (kd mu : Int32) (p6 b6 : Nat), St nX S S6 (Zz S) (.inr (15, xpV kd pp 0 0 0 mu .null .null .null 0)) 1 14 → RZ S6 T p6 (ns + 1) vv b6 → pp < p6 → bb ≤ b6 → b6 ≤ bb + (p6 - pp) → (Zi S6 3 = 0 → ns ≠ 16 ∧ b6 ≤ 54 ∧ (((kd = 9 ∨ kd = 10 ∨ kd = 11 ∨ kd = 13) ∧ mu = 0 ∧ b6 = bb) ∨ (kd = 12 ∧ (mu = 0 ∨ mu = 1) ∧ b6 = bb + 1))) → Rt (f_unary_164 K V V2 S6 (some (Zz S))) (XP K T S pp ns vv bb (24 * (16 - ns) + 18) 3 48) := fun S6 kd mu p6 b6 s6 z6 hp6 hb6 hb7 hg => by
    have e1 := s6.2.2.2.2.1; have e2 := s6.2.2.2.2.2; have e3 := z6.1.2.1
    unfold f_unary_164
    refine Rt.bn (hU S6 p6 (ns + 1) vv b6 z6 (fun q => (hg q).2.1) (by omega) (fun q => by have := (hg q).1; omega) (by omega) (by omega)) (fun S7 r7 q7 => ?_)
    obtain ⟨p7, b7, o, c0, z7, g7, k1, k2, k3, k4, k5⟩ := q7
    subst c0
    have s7 := s6.cl g7 (hal s6 z6).2 (z1 := 8 * (p7 - p6) + 3) (n1 := 120 * (p7 - p6) + 48) (by omega) (by omega)
    refine Rt.pv s7 z7 (Nat.le_of_ble_eq_true rfl) (show va_rf (some o) = .ref o from rfl) (fun S8 s8 z8 u8 => ?_)
    refine Rt.nd z8 (fun S9 g9 z9 i9 => Rt.rt ?_)
    have s9 : St nX S S9 (Zz S) (.inr (15, xpV kd pp 0 0 0 mu (.ref o) .null .null 0)) (1 + (8 * (p7 - p6) + 3)) (14 + (120 * (p7 - p6) + 48)) := s8.ss g9
    have e4 := s9.2.2.2.2.1; have e5 := s9.2.2.2.2.2
    refine ⟨p7, b7, Zz S, rfl, z9, s9.1, by omega, by omega, by omega, ⟨(hal s9 z9).1, (hal s9 z9).2, _, s9.2.2.2.1⟩, fun q => ?_⟩
    have q7 : Zi S7 3 = 0 := by rw [← u8.2.2.2.2.1, ← i9]; exact q
    have q6 : Zi S6 3 = 0 := g7.2.2.2.2.2 q7
    obtain ⟨c1, c2⟩ := k5 q7
    obtain ⟨c3, c4, c5⟩ := hg q6
    have b3 := s6.1.2.2.2.2.1.1
    have b4 := (hal s6 z6).2
    have b5 : Zz S9 = Zz S7 := g9.2.2.2.1.trans u8.2.2.1
    have hx : exS (iv (Zz S6) (Zz S7)) (ZF S7) (iv (Zz S) (Zz S9)) (ZF S9) := iv_ex (by omega) (by omega) (fun a h1 _ => by rw [g9.2.1]; exact u8.1 a (by omega))
    have c6 := isE_im (k2 := 16 - ns) hx (24 * (16 - ns) + 17) (by omega) c2
    have c7 := (isE_mem c2).2
    refine ⟨c1, ?_⟩
    rcases c5 with ⟨c5, c8, c9⟩ | ⟨c5, c8, c9⟩
    · subst c8 c9
      refine isE_3 (n := 24 * (16 - ns) + 17) (iv_m.mpr (hal s9 z9)) (by omega) ?_ s9.2.2.2.1 hp6 (Nat.le_refl _) c6
      rcases c5 with w | w | w | w
      · exact Or.inr (Or.inr (Or.inl w))
      · exact Or.inr (Or.inr (Or.inr (Or.inl w)))
      · exact Or.inr (Or.inr (Or.inr (Or.inr (Or.inl w))))
      · exact Or.inr (Or.inr (Or.inr (Or.inr (Or.inr w))))
    · subst c5 c9
      exact isE_4 (n := 24 * (16 - ns) + 17) (iv_m.mpr (hal s9 z9)) (by omega) c8 s9.2.2.2.1 hp6 c6
  have h117 : ∀ (S6 : Sg) (kd : Int32), St nX S S6 (Zz S) (.inr (15, xpV 0 pp 0 0 0 0 .null .null .null 0)) 1 14 → RZ S6 T pp ns vv bb → (Zr S 5 pp = 55 ∧ kd = 12) ∨ (¬ Zr S 5 pp = 55 ∧ Zr S 5 pp ≠ 0 ∧ (kd = 9 ∨ kd = 10 ∨ kd = 11 ∨ kd = 13)) → Rt (f_unary_117 K V V2 S6 (some (Zz S)) (Zr S 5 pp) kd (some (Zz S))) (XP K T S pp ns vv bb (24 * (16 - ns) + 18) 3 48) := fun S6 kd s6 z6 hk => by
    have hk0 : Zr S 5 pp ≠ 0 := by rcases hk with ⟨w, _⟩ | ⟨_, w, _⟩; rw [w]; decide; exact w
    unfold f_unary_117
    refine Rt.pv s6 z6 (Nat.le_of_ble_eq_true rfl) rfl (fun S7 s7 z7 u7 => ?_)
    rw [z7.1.1]
    refine Rt.bn (enter_ z7 (by omega)) (fun S8 _ q8 => ?_)
    obtain ⟨z8, g8, h8⟩ := q8
    have s8 : St nX S S8 (Zz S) (.inr (15, xpV kd pp 0 0 0 0 .null .null .null 0)) 1 14 := s7.ss g8
    have hp8 := z8.nx (k := Zr S 5 pp) (by rw [s8.1.2.1.1]) hk0
    rcases hk with ⟨w1, w2⟩ | ⟨w1, w0, w2⟩
    · refine Rt.ip w1 (Rt.bn (borrow_ z8) (fun S9 _ q9 => ?_))
      obtain ⟨z9, g9, h9⟩ := q9
      have s9 := s8.ss g9
      unfold f_unary_138
      refine Rt.pi z9 hp8 (fun S10 g10 z10 i10 => Rt.ip w1 (Rt.bn (takes_ z10 (by decide)) (fun S11 r11 q11 => ?_)))
      obtain ⟨p11, z11, g11, i11, q11⟩ := q11
      have hr : r11 = 0 ∨ r11 = 1 := by rcases q11 with ⟨w, _⟩ | ⟨w, _⟩; exact Or.inl w; exact Or.inr w
      have hp11 : pp < p11 := by rcases q11 with ⟨_, w, _⟩ | ⟨_, w, _⟩ <;> omega
      refine Rt.pz ((s9.ss g10).ss g11) z11 (Nat.le_of_ble_eq_true rfl) hr (fun S12 s12 z12 u12 => ?_)
      refine h164 S12 kd r11 p11 (bb + 1) s12 z12 hp11 (by omega) (by omega) (fun q => ?_)
      have q9 : Zi S9 3 = 0 := by rw [← i10, ← i11, ← u12.2.2.2.2.1]; exact q
      have := h9 q9
      exact ⟨h8 (g9.1.2.2.2.2.2 q9), by omega, Or.inr ⟨w2, hr, rfl⟩⟩
    · refine Rt.iq w1 ?_
      unfold f_unary_138
      refine Rt.pi z8 hp8 (fun S10 g10 z10 i10 => Rt.iq w1 ?_)
      exact h164 S10 kd 0 (pp + 1) bb (s8.ss g10) z10 (by omega) (by omega) (by omega) (fun q => ⟨h8 (by rw [← i10]; exact q), hb, Or.inl ⟨w2, rfl, rfl⟩⟩)
  have h62 : (Zr S 5 pp = 53 ∨ Zr S 5 pp = 41 ∨ Zr S 5 pp = 42 ∨ Zr S 5 pp = 55 ∨ Zr S 5 pp = 23) → Rt (f_unary_62 K V V2 S5 (some (Zz S)) (Zr S 5 pp)) (XP K T S pp ns vv bb (24 * (16 - ns) + 18) 3 48) := fun hk => by
    unfold f_unary_62
    refine Rt.pv s5 z5 (Nat.le_of_ble_eq_true rfl) (show Value.int (Zi S5 10) = .int (nI pp) by rw [z5.1.1]) (fun S6 s6 z6 u6 => ?_)
    have s6 : St nX S S6 (Zz S) (.inr (15, xpV 0 pp 0 0 0 0 .null .null .null 0)) 1 14 := s6
    have h0 : Zr S 5 pp ≠ 0 := by rcases hk with w | w | w | w | w <;> rw [w] <;> decide
    refine Rt.it (fun w => h117 S6 9 s6 z6 (Or.inr ⟨by rw [w]; decide, h0, Or.inl rfl⟩)) (fun _ => Rt.it (fun w => h117 S6 10 s6 z6 (Or.inr ⟨by rw [w]; decide, h0, Or.inr (Or.inl rfl)⟩)) (fun _ => Rt.it (fun w => h117 S6 11 s6 z6 (Or.inr ⟨by rw [w]; decide, h0, Or.inr (Or.inr (Or.inl rfl))⟩)) (fun _ => Rt.it (fun w => h117 S6 12 s6 z6 (Or.inl ⟨w, rfl⟩)) (fun w => h117 S6 13 s6 z6 (Or.inr ⟨w, h0, Or.inr (Or.inr (Or.inr rfl))⟩)))))
  rw [f5]
  refine Rt.it (fun w => h62 (Or.inl w)) (fun _ => Rt.it (fun w => h62 (Or.inr (Or.inl w))) (fun _ => Rt.it (fun w => h62 (Or.inr (Or.inr (Or.inl w)))) (fun _ => Rt.it (fun w => h62 (Or.inr (Or.inr (Or.inr (Or.inl w))))) (fun _ => Rt.it (fun w => h62 (Or.inr (Or.inr (Or.inr (Or.inr w))))) (fun _ => ?_)))))
  refine Rt.bn (suf_ hV z5 q5 hb hn hd (by omega) (by omega)) (fun S6 r6 q6 => Rt.rt ?_)
  obtain ⟨p6, b6, e6, c0, c1, c2, c3, c4, c5, c6, c7⟩ := q6
  have c8 := s5.1.2.2.2.2.1.1
  refine ⟨p6, b6, e6, c0, c1, s5.1.n c2, c3, by omega, by omega, ⟨by omega, c6.2.1, c6.2.2⟩, fun q => ⟨(c7 q).1, isE_im (iv_ex (by omega) (Nat.le_refl _) (fun _ _ _ => rfl)) _ (by omega) (c7 q).2⟩⟩
end SUL
