/-- the names of the arm e that were read since S -/
def AW (K : Ky) (S S1 : Sg) (pp n p1 vv v1 : Nat) (tk : Int32) : Prop := ∃ g : Nat → Int32, Zz S ∈ ZL S1 ∧ ZF S1 (Zz S) = .inr (13, [.int tk, .int 0, .ref (Zz S + 1), .int (nI n), .ref (Zz S + 2), .null]) ∧ Zz S + 1 ∈ ZL S1 ∧ ZF S1 (Zz S + 1) = .inl (K.1 0, 12, .inl g) ∧ Zz S + 2 ∈ ZL S1 ∧ ZF S1 (Zz S + 2) = .inl (K.1 5, 12, .inr (.inr (.inr (.inr (fun _ => none))))) ∧ Zz S1 = Zz S + 3 ∧ Zn S1 ≤ Zn S + 30 ∧ (Zi S1 3 = 0 → tk = nI pp ∧ n ≤ 12 ∧ v1 = vv + n ∧ v1 ≤ 40 ∧ ∀ i : Nat, i < n → ∃ s : Nat, g i = nI s ∧ pp < s ∧ s < p1)
theorem AW.ss {K : Ky} {S S1 S2 : Sg} {pp n p1 p2 vv v1 v2 : Nat} {tk : Int32} (h : AW K S S1 pp n p1 vv v1 tk) (g : SS S1 S2) (hp : p1 ≤ p2) (hv : Zi S2 3 = 0 → v2 = v1) : AW K S S2 pp n p2 vv v2 tk := by
  obtain ⟨g0, h1, h2, h3, h4, h5, h6, h7, h8, h9⟩ := h
  refine ⟨g0, by rw [g.2.2.1]; exact h1, by rw [g.2.1]; exact h2, by rw [g.2.2.1]; exact h3, by rw [g.2.1]; exact h4, by rw [g.2.2.1]; exact h5, by rw [g.2.1]; exact h6, g.2.2.2.1.trans h7, by rw [g.2.2.2.2]; exact h8, fun q => ?_⟩
  obtain ⟨c1, c2, c3, c4, c5⟩ := h9 (g.1.2.2.2.2.2 q)
  rw [hv q]
  exact ⟨c1, c2, c3, c4, fun i hi => by obtain ⟨s, d1, d2, d3⟩ := c5 i hi; exact ⟨s, d1, d2, by omega⟩⟩
section ARM
variable {K : Ky} {T : Nat} {V : Sg → Option (Sg × Option Nat)} {d pp ns bb vv : Nat} {S : Sg} {tk : Int32}
/-- the block of an arm -/
theorem ar100 (hV : HVb K T V d) (hb : bb ≤ 54) (hn : ns ≤ 16) (hd : 18 ≤ ns + d) (r1 : Zz S + 8 * (T - pp) + 16 ≤ K.2.1) (r2 : Zn S + 120 * (T - pp) + 520 ≤ K.2.2) {S1 : Sg} {p1 v1 n : Nat} (hA : AW K S S1 pp n p1 vv v1 tk) (hg : GR nX S S1) (z1 : RZ S1 T p1 ns v1 bb) (hp : pp ≤ p1 ∧ (Zi S1 3 = 0 → pp + n < p1)) : Rt (f_arm_100 K V S1 (some (Zz S))) (NP K T S pp ns vv bb 2 13 (2 * (16 - ns) + 2) 8 100 5 50) := by
  unfold f_arm_100
  refine Rt.bn (take_ z1 (by decide)) (fun S2 _ q2 => ?_)
  obtain ⟨p2, z2, g2, w1, w2, w3⟩ := q2
  have hT2 := z2.1.2.1; have hT := z2.1.2.2.1
  have hA2 := hA.ss g2 (p2 := p2) (v2 := v1) w1 (fun _ => rfl)
  obtain ⟨g0, h1, h2, h3, h4, h5, h6, h7, h8, h9⟩ := hA2
  have hg2 := hg.n g2.1
  refine Rt.bn (hV S2 p2 ns v1 bb z2 (fun q => ⟨hb, (h9 q).2.2.2.1⟩) (by omega) (fun _ => ⟨hn, hd⟩) (by omega) (by omega)) (fun S3 r3 q3 => ?_)
  obtain ⟨p3, v3, b3, bk, e3, z3, g3, k1, k2, k3, k4, k5⟩ := q3
  subst e3
  have s3 : St nX S S3 (Zz S) (.inr (13, [.int tk, .int 0, .ref (Zz S + 1), .int (nI n), .ref (Zz S + 2), .null])) (3 + (8 * (p3 - p2) + 2)) (30 + (120 * (p3 - p2) + 10)) := ⟨hg2.n g3, fun q => absurd q (by omega), g3.in h1, (g3.2.2.1 _ (by omega) (fun q => q)).trans h2, by omega, by omega⟩
  refine Rt.pv s3 z3 (Nat.le_of_ble_eq_true rfl) (show va_rf (some bk) = .ref bk from rfl) (fun S4 s4 z4 u4 => Rt.rt ?_)
  have x1 := s4.2.2.2.2.1; have x2 := s4.2.2.2.2.2
  have y1 := u4.2.2.1; have y2 := u4.2.2.2.1
  have hss := z4.2.2.2.2 _ s4.2.2.1
  have h23 := g3.2.2.2.2.1.1
  refine ⟨p3, v3, b3, Zz S, rfl, z4, s4.1, by omega, by omega, by omega, ⟨Nat.le_refl _, hss, _, s4.2.2.2.1⟩, fun q => ?_⟩
  have q3 : Zi S3 3 = 0 := by rw [← u4.2.2.2.2.1]; exact q
  have q2 : Zi S2 3 = 0 := g3.2.2.2.2.2 q3
  obtain ⟨c1, c2, c3, c4, c5⟩ := h9 q2
  obtain ⟨d1, d2, d3, d4, d5⟩ := k5 q3
  have w4 := (w3 q2).2
  have hp1 := hp.2 (g2.1.2.2.2.2.2 q2)
  have hlt := (isN_lt d5).2
  subst c1 c3
  have hF : ∀ a : Nat, a < Zz S2 → a ≠ Zz S → ZF S4 a = ZF S2 a := fun a h1 h2 => by rw [u4.1 a h2, g3.2.2.1 a h1 (fun q => q)]
  have hfk : Zr S2 5 = Zr S 5 := by rw [hg2.2.1.1]
  rw [hfk] at d5
  refine ⟨by omega, by omega, d3, d4, isN_A (n := 2 * (16 - ns) + 1) (iv_m.mpr ⟨Nat.le_refl _, hss⟩) (iv_m.mpr ⟨by omega, by omega⟩) (iv_m.mpr ⟨by omega, by omega⟩) s4.2.2.2.1 ((hF _ (by omega) (by omega)).trans h4) ((hF _ (by omega) (by omega)).trans h6) c2 (fun i hi => by obtain ⟨s, e1, e2, e3⟩ := c5 i hi; exact ⟨s, e1, e2, by omega⟩) (show pp + n < p2 by omega) (isS_im (iv_ex (by omega) (by omega) (fun a h1 h2 => u4.1 a (by omega))) _ (Nat.le_refl _) d5) rfl⟩
theorem ar27 (hV : HVb K T V d) (hb : bb ≤ 54) (hn : ns ≤ 16) (hd : 18 ≤ ns + d) (r1 : Zz S + 8 * (T - pp) + 16 ≤ K.2.1) (r2 : Zn S + 120 * (T - pp) + 520 ≤ K.2.2) : ∀ (m : Nat) {S1 : Sg} {p1 v1 n : Nat} {mo : Int32}, 1 ≤ m → (Zi S1 3 = 0 → T + 1 ≤ p1 + m) → AW K S S1 pp n p1 vv v1 tk → GR nX S S1 → RZ S1 T p1 ns v1 bb → pp ≤ p1 → (Zi S1 3 = 0 → pp + n < p1) → Rt (f_arm_27 K V m S1 (some (Zz S)) mo) (NP K T S pp ns vv bb 2 13 (2 * (16 - ns) + 2) 8 100 5 50)
  | 0, _, _, _, _, _, h, _, _, _, _, _, _ => absurd h (by omega)
  | m + 1, S1, p1, v1, n, mo, _, hm, hA, hg, z1, hp0, hp => by
    have hT1 := z1.1.2.1; have hT := z1.1.2.2.1
    have h94 : Rt (f_arm_94 K V S1 (some (Zz S))) (NP K T S pp ns vv bb 2 13 (2 * (16 - ns) + 2) 8 100 5 50) := by
      unfold f_arm_94
      refine Rt.bn (take_ z1 (by decide)) (fun S2 _ q2 => ?_)
      obtain ⟨p2, z2, g2, w1, w2, w3⟩ := q2
      exact ar100 hV hb hn hd r1 r2 (hA.ss g2 (p2 := p2) (v2 := v1) w1 (fun _ => rfl)) (hg.n g2.1) z2 ⟨by omega, fun q => by have := hp (g2.1.2.2.2.2.2 q); omega⟩
    unfold f_arm_27
    refine Rt.ok (fun q1 => Rt.it (fun _ => h94) (fun _ => ?_)) (fun _ => h94)
    have hm1 := hm q1
    have hp1 := hp q1
    have hA' := hA
    obtain ⟨g0, h1, h2, h3, h4, h5, h6, h7, h8, h9⟩ := hA'
    obtain ⟨c1, c2, c3, c4, c5⟩ := h9 q1
    refine Rt.bd (oI_mk h1 h2 rfl) ?_
    refine Rt.bn (limit_ (mx := 12) z1) (fun S2 _ q2 => ?_)
    obtain ⟨z2, g2, w2⟩ := q2
    refine Rt.bn (oneV_ z2) (fun S3 _ q3 => ?_)
    obtain ⟨z3, g3, w3⟩ := q3
    refine Rt.bn (name_ z3) (fun S4 r4 q4 => ?_)
    obtain ⟨p4, z4, g4, w4, w5, w6⟩ := q4
    have g14 := (g2.tr g3).tr g4
    have hgd : Zi S4 3 = 0 → n < 12 ∧ v1 < 40 ∧ p4 = p1 + 1 ∧ r4 = nI p1 := fun q => by
      obtain ⟨d1, d2, d3⟩ := w6 q
      have q3 := g4.1.2.2.2.2.2 q
      have q2 := g3.1.2.2.2.2.2 q3
      have hk : Zr S1 5 p1 = 2 := by rw [← g2.1.2.1.1, ← g3.1.2.1.1]; exact d1
      have e1 := w2 q2 hk
      have e2 := w3 q3 (by rw [g2.1.2.1.1]; exact hk)
      exact ⟨by omega, by omega, d2, d3⟩
    have e1 : Zz S + 1 ∈ ZL S4 := by rw [g14.2.2.1]; exact h3
    have e2 : ZF S4 (Zz S + 1) = .inl (K.1 0, 12, .inl g0) := by rw [g14.2.1]; exact h4
    have e3 : Zz S ∈ ZL S4 := by rw [g14.2.2.1]; exact h1
    have e4 : ZF S4 (Zz S) = .inr (13, [.int tk, .int 0, .ref (Zz S + 1), .int (nI n), .ref (Zz S + 2), .null]) := by rw [g14.2.1]; exact h2
    -- one more
    have h74 : ∀ (S5 : Sg) (g5 : Nat → Int32), Zz S ∈ ZL S5 → ZF S5 (Zz S) = .inr (13, [.int tk, .int 0, .ref (Zz S + 1), .int (nI n), .ref (Zz S + 2), .null]) → Zz S + 1 ∈ ZL S5 → ZF S5 (Zz S + 1) = .inl (K.1 0, 12, .inl g5) → Zz S + 2 ∈ ZL S5 → ZF S5 (Zz S + 2) = .inl (K.1 5, 12, .inr (.inr (.inr (.inr (fun _ => none))))) → Zz S5 = Zz S + 3 → Zn S5 ≤ Zn S + 30 → GR nX S S5 → RZ S5 T p4 ns (v1 + 1) bb → (Zi S5 3 = 0 → Zi S4 3 = 0 ∧ ∀ i : Nat, i < n + 1 → ∃ s : Nat, g5 i = nI s ∧ pp < s ∧ s < p4) → Rt (f_arm_74 K V (f_arm_27 K V m) S5 (some (Zz S))) (NP K T S pp ns vv bb 2 13 (2 * (16 - ns) + 2) 8 100 5 50) := fun S5 g5 x1 x2 x3 x4 x5 x6 x7 x8 x9 z5 x10 => by
      unfold f_arm_74
      refine Rt.bd (oI_mk x1 x2 rfl) ?_
      rw [nI_1]
      have s5 : St nX S S5 (Zz S) (.inr (13, [.int tk, .int 0, .ref (Zz S + 1), .int (nI n), .ref (Zz S + 2), .null])) 3 30 := ⟨x9, fun q => absurd q (by omega), x1, x2, by omega, by omega⟩
      refine Rt.pv s5 z5 (Nat.le_of_ble_eq_true rfl) rfl (fun S6 s6 z6 u6 => ?_)
      have hA6 : AW K S S6 pp (n + 1) p4 vv (v1 + 1) tk := ⟨g5, s6.2.2.1, s6.2.2.2.1, by rw [u6.2.1]; exact x3, by rw [u6.1 _ (by omega)]; exact x4, by rw [u6.2.1]; exact x5, by rw [u6.1 _ (by omega)]; exact x6, u6.2.2.1.trans x7, by rw [u6.2.2.2.1]; exact x8, fun q => by
        obtain ⟨d1, d2⟩ := x10 (by rw [← u6.2.2.2.2.1]; exact q)
        have := hgd d1
        exact ⟨c1, by omega, by omega, by omega, d2⟩⟩
      refine Rt.bn (takes_ z6 (by decide)) (fun S7 r7 q7 => ?_)
      obtain ⟨p7, z7, g7, i7, q7⟩ := q7
      have hp7 : p4 ≤ p7 := by rcases q7 with ⟨_, w, _⟩ | ⟨_, w, _⟩ <;> omega
      refine ar27 hV hb hn hd r1 r2 m (by omega) (fun q => ?_) (hA6.ss g7 hp7 (fun _ => rfl)) (s6.1.n g7.1) z7 (by omega) (fun q => ?_)
      · obtain ⟨d1, _⟩ := x10 (by rw [← u6.2.2.2.2.1, ← i7]; exact q)
        have := hgd d1; omega
      · obtain ⟨d1, _⟩ := x10 (by rw [← u6.2.2.2.2.1, ← i7]; exact q)
        have := hgd d1; omega
    refine Rt.ok (fun q4 => ?_) (fun q4 => h74 S4 g0 e3 e4 e1 e2 (by rw [g14.2.2.1]; exact h5) (by rw [g14.2.1]; exact h6) (g14.2.2.2.1.trans h7) (by rw [g14.2.2.2.2]; exact h8) (hg.n g14.1) z4 (fun q => absurd q q4))
    obtain ⟨d1, d2, d3, d4⟩ := hgd q4
    refine Rt.bd (oR_mk (v := some (Zz S + 1)) e3 e4 rfl) (Rt.bd (oI_mk e3 e4 rfl) (Rt.bd (bI_n e1 e2 d1 (by decide)) ?_))
    refine h74 _ (upd g0 n r4) e3 ((ZF_n (by omega)).trans e4) e1 ZF_s (by show _ ∈ ZL S4; rw [g14.2.2.1]; exact h5) ((ZF_n (by omega)).trans (by rw [g14.2.1]; exact h6)) (g14.2.2.2.1.trans h7) (by show Zn S4 ≤ _; rw [g14.2.2.2.2]; exact h8) ((hg.n g14.1).tr GR.uf (fun c hc q => absurd q (by omega))) z4.uf (fun q => ⟨q, fun i hi => ?_⟩)
    by_cases ei : i = n
    · subst ei; exact ⟨p1, (if_pos rfl).trans d4, by omega, by omega⟩
    · obtain ⟨s, k1, k2, k3⟩ := c5 i (by omega)
      exact ⟨s, (if_neg ei).trans k1, k2, by omega⟩
/-- an arm -/
theorem arm_ (hV : HVb K T V d) (h : RZ S T pp ns vv bb) (q0 : Zi S 3 = 0) (hb : bb ≤ 54) (hv : vv ≤ 40) (hn : ns ≤ 16) (hd : 18 ≤ ns + d) (r1 : Zz S + 8 * (T - pp) + 16 ≤ K.2.1) (r2 : Zn S + 120 * (T - pp) + 520 ≤ K.2.2) : Rt (f_arm K V S) (NP K T S pp ns vv bb 2 13 (2 * (16 - ns) + 2) 8 100 5 50) := by
  have hp := h.1.2.1; have hT := h.1.2.2.1
  unfold f_arm
  refine Rt.nw (X := nX) h (by omega) (by omega) (fun S1 s1 z1 i1 => ?_)
  have hez := z1.2.2.2.2 _ s1.2.2.1
  have y1 : Zz S1 = Zz S + 1 := by have := s1.2.2.2.2.1; omega
  have y2 := s1.2.2.2.2.2
  refine Rt.bn (Q := fun S3 _ => St nX S S3 (Zz S) (.inr (13, [.int 0, .int 0, .ref (Zz S + 1), .int (nI 0), .ref (Zz S + 2), .null])) 3 30 ∧ RZ S3 T pp ns vv bb ∧ Zi S3 = Zi S ∧ Zz S + 1 ∈ ZL S3 ∧ ZF S3 (Zz S + 1) = .inl (K.1 0, 12, .inl (fun _ => 0)) ∧ Zz S + 2 ∈ ZL S3 ∧ ZF S3 (Zz S + 2) = .inl (K.1 5, 12, .inr (.inr (.inr (.inr (fun _ => none))))) ∧ Zz S3 = Zz S + 3) ?_ (fun S3 _ q3 => ?_)
  · unfold f_X13_init
    refine Rt.be (nA_ok (n := 12) (by decide) ⟨by omega, by omega⟩) ?_
    have s2 := s1.cl (GR.un (X := nX) (S := S1) (c := .inl (K.1 0, 12, .inl (fun _ => 0))) (n := 12)) hez (z1 := 1) (n1 := 12) (Nat.le_refl _) (Nat.le_refl _)
    refine Rt.pv s2 z1.un (Nat.le_of_ble_eq_true rfl) (show va_rf (some (Zz S1)) = .ref (Zz S + 1) by rw [y1]; rfl) (fun S4 s4 z4 u4 => ?_)
    have y4 : Zz S4 = Zz S + 2 := u4.2.2.1.trans (by show Zz S1 + 1 = _; omega)
    have y5 := s4.2.2.2.2.2
    have f4 : ZF S4 (Zz S + 1) = .inl (K.1 0, 12, .inl (fun _ => 0)) := by rw [u4.1 _ (by omega), ← y1]; exact updE_s
    have m4 : Zz S + 1 ∈ ZL S4 := by rw [u4.2.1, ← y1]; exact List.mem_cons_self
    refine Rt.be (nQ_ok (n := 12) (by decide) ⟨by omega, by omega⟩) ?_
    have s5 := s4.cl (GR.un (X := nX) (S := S4) (c := .inl (K.1 5, 12, .inr (.inr (.inr (.inr (fun _ => none)))))) (n := 12)) (by omega) (z1 := 1) (n1 := 12) (Nat.le_refl _) (Nat.le_refl _)
    refine Rt.pv s5 z4.un (Nat.le_of_ble_eq_true rfl) (show va_rf (some (Zz S4)) = .ref (Zz S + 2) by rw [y4]; rfl) (fun S6 s6 z6 u6 => Rt.rt ⟨s6, z6, u6.2.2.2.2.1.trans (u4.2.2.2.2.1.trans i1), by rw [u6.2.1]; exact List.mem_cons_of_mem _ m4, ?_, by rw [u6.2.1, ← y4]; exact List.mem_cons_self, by rw [u6.1 _ (by omega), ← y4]; exact updE_s, u6.2.2.1.trans (by show Zz S4 + 1 = _; omega)⟩)
    rw [u6.1 _ (by omega)]
    exact (updE_n (by omega)).trans f4
  obtain ⟨s3, z3, i3, m1, f1, m2, f2, e3⟩ := q3
  refine Rt.bn (name_ z3) (fun S5 r5 q5 => ?_)
  obtain ⟨p5, z5, g5, w1, w2, w3⟩ := q5
  refine Rt.pv (s3.ss g5) z5 (Nat.le_of_ble_eq_true rfl) rfl (fun S7 s7 z7 u7 => ?_)
  have hA : AW K S S7 pp 0 p5 vv vv r5 := ⟨fun _ => 0, s7.2.2.1, s7.2.2.2.1, by rw [u7.2.1, g5.2.2.1]; exact m1, by rw [u7.1 _ (by omega), g5.2.1]; exact f1, by rw [u7.2.1, g5.2.2.1]; exact m2, by rw [u7.1 _ (by omega), g5.2.1]; exact f2, u7.2.2.1.trans (g5.2.2.2.1.trans e3), s7.2.2.2.2.2, fun q => by
    obtain ⟨c1, c2, c3⟩ := w3 (by rw [← u7.2.2.2.2.1]; exact q)
    exact ⟨c3, by omega, rfl, hv, fun i hi => absurd hi (by omega)⟩⟩
  have hgd : Zi S7 3 = 0 → pp < p5 := fun q => by
    obtain ⟨c1, c2, c3⟩ := w3 (by rw [← u7.2.2.2.2.1]; exact q)
    omega
  refine Rt.bn (takes_ z7 (by decide)) (fun S8 r8 q8 => ?_)
  obtain ⟨p8, z8, g8, i8, q8⟩ := q8
  have hp8 : p5 ≤ p8 := by rcases q8 with ⟨_, w, _⟩ | ⟨_, w, _⟩ <;> omega
  have hA8 := hA.ss g8 (p2 := p8) (v2 := vv) hp8 (fun _ => rfl)
  have hg8 := s7.1.n g8.1
  have hgd8 : Zi S8 3 = 0 → pp < p8 := fun q => by have := hgd (by rw [← i8]; exact q); omega
  refine Rt.it (fun _ => ar100 hV hb hn hd r1 r2 hA8 hg8 z8 ⟨by omega, hgd8⟩) (fun _ => ?_)
  exact ar27 hV hb hn hd r1 r2 bigN (by decide) (fun _ => by show T + 1 ≤ p8 + 1000000000000; omega) hA8 hg8 z8 (by omega) hgd8
end ARM
