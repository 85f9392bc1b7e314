-- k4.p.lean.txt
section
/-- the names of the arm e that were read since S -/
def AW (K : Ky) (S S1 : Sg) (pp n p1 vv v1 : Nat) (tk : Int32) : Prop := ∃ g : Nat → Int32, Zz S ∈ ZL S1 ∧ ZF S1 (Zz S) = .inr (13, [.int tk, .int 0, .ref (Zz S + 1), .int (nI n), .ref (Zz S + 2), .null]) ∧ Zz S + 1 ∈ ZL S1 ∧ ZF S1 (Zz S + 1) = .inl (K.1 0, 12, .inl g) ∧ Zz S + 2 ∈ ZL S1 ∧ ZF S1 (Zz S + 2) = .inl (K.1 5, 12, .inr (.inr (.inr (.inr (fun _ => none))))) ∧ Zz S1 = Zz S + 3 ∧ Zn S1 ≤ Zn S + 30 ∧ (Zi S1 3 = 0 → tk = nI pp ∧ n ≤ 12 ∧ v1 = vv + n ∧ v1 ≤ 40 ∧ ∀ i : Nat, i < n → ∃ s : Nat, g i = nI s ∧ pp < s ∧ s < p1)
theorem AW.ss {K : Ky} {S S1 S2 : Sg} {pp n p1 p2 vv v1 v2 : Nat} {tk : Int32} (h : AW K S S1 pp n p1 vv v1 tk) (g : SS S1 S2) (hp : p1 ≤ p2) (hv : Zi S2 3 = 0 → v2 = v1) : AW K S S2 pp n p2 vv v2 tk := by
  obtain ⟨g0, h1, h2, h3, h4, h5, h6, h7, h8, h9⟩ := h
  refine ⟨g0, by rw [g.2.2.1]; exact h1, by rw [g.2.1]; exact h2, by rw [g.2.2.1]; exact h3, by rw [g.2.1]; exact h4, by rw [g.2.2.1]; exact h5, by rw [g.2.1]; exact h6, g.2.2.2.1.trans h7, by rw [g.2.2.2.2]; exact h8, fun q => ?_⟩
  obtain ⟨c1, c2, c3, c4, c5⟩ := h9 (g.1.2.2.2.2.2 q)
  rw [hv q]
  exact ⟨c1, c2, c3, c4, fun i hi => by obtain ⟨s, d1, d2, d3⟩ := c5 i hi; exact ⟨s, d1, d2, by omega⟩⟩
section ARM
variable {K : Ky} {T : Nat} {V : Sg → Option (Sg × Option Nat)} {d pp ns bb vv : Nat} {S : Sg} {tk : Int32}
/-- the block of an arm -/
theorem ar100 (hV : HVb K T V d) (hb : bb ≤ 54) (hn : ns ≤ 16) (hd : 18 ≤ ns + d) (r1 : Zz S + 8 * (T - pp) + 16 ≤ K.2.1) (r2 : Zn S + 120 * (T - pp) + 520 ≤ K.2.2) {S1 : Sg} {p1 v1 n : Nat} (hA : AW K S S1 pp n p1 vv v1 tk) (hg : GR nX S S1) (z1 : RZ S1 T p1 ns v1 bb) (hp : pp ≤ p1 ∧ (Zi S1 3 = 0 → pp + n < p1)) : Rt (f_arm_100 K V S1 (some (Zz S))) (NP K T S pp ns vv bb 2 13 (2 * (16 - ns) + 2) 8 100 5 50) := by
  unfold f_arm_100
  refine Rt.bn (take_ z1 (by decide)) (fun S2 _ q2 => ?_)
  obtain ⟨p2, z2, g2, w1, w2, w3⟩ := q2
  have hT2 := z2.1.2.1; have hT := z2.1.2.2.1
  have hA2 := hA.ss g2 (p2 := p2) (v2 := v1) w1 (fun _ => rfl)
  obtain ⟨g0, h1, h2, h3, h4, h5, h6, h7, h8, h9⟩ := hA2
  have hg2 := hg.n g2.1
  refine Rt.bn (hV S2 p2 ns v1 bb z2 (fun q => ⟨hb, (h9 q).2.2.2.1⟩) (by omega) (fun _ => ⟨hn, hd⟩) (by omega) (by omega)) (fun S3 r3 q3 => ?_)
  obtain ⟨p3, v3, b3, bk, e3, z3, g3, k1, k2, k3, k4, k5⟩ := q3
  subst e3
  have s3 : St nX S S3 (Zz S) (.inr (13, [.int tk, .int 0, .ref (Zz S + 1), .int (nI n), .ref (Zz S + 2), .null])) (3 + (8 * (p3 - p2) + 2)) (30 + (120 * (p3 - p2) + 10)) := ⟨hg2.n g3, fun q => absurd q (by omega), g3.in h1, (g3.2.2.1 _ (by omega) (fun q => q)).trans h2, by omega, by omega⟩
  refine Rt.pv s3 z3 (Nat.le_of_ble_eq_true rfl) (show va_rf (some bk) = .ref bk from rfl) (fun S4 s4 z4 u4 => Rt.rt ?_)
  have x1 := s4.2.2.2.2.1; have x2 := s4.2.2.2.2.2
  have y1 := u4.2.2.1; have y2 := u4.2.2.2.1
  have hss := z4.2.2.2.2 _ s4.2.2.1
  have h23 := g3.2.2.2.2.1.1
  refine ⟨p3, v3, b3, Zz S, rfl, z4, s4.1, by omega, by omega, by omega, ⟨Nat.le_refl _, hss, _, s4.2.2.2.1⟩, fun q => ?_⟩
  have q3 : Zi S3 3 = 0 := by rw [← u4.2.2.2.2.1]; exact q
  have q2 : Zi S2 3 = 0 := g3.2.2.2.2.2 q3
  obtain ⟨c1, c2, c3, c4, c5⟩ := h9 q2
  obtain ⟨d1, d2, d3, d4, d5⟩ := k5 q3
  have w4 := (w3 q2).2
  have hp1 := hp.2 (g2.1.2.2.2.2.2 q2)
  have hlt := (isN_lt d5).2
  subst c1 c3
  have hF : ∀ a : Nat, a < Zz S2 → a ≠ Zz S → ZF S4 a = ZF S2 a := fun a h1 h2 => by rw [u4.1 a h2, g3.2.2.1 a h1 (fun q => q)]
  have hfk : Zr S2 5 = Zr S 5 := by rw [hg2.2.1.1]
  rw [hfk] at d5
  refine ⟨by omega, by omega, d3, d4, isN_A (n := 2 * (16 - ns) + 1) (iv_m.mpr ⟨Nat.le_refl _, hss⟩) (iv_m.mpr ⟨by omega, by omega⟩) (iv_m.mpr ⟨by omega, by omega⟩) s4.2.2.2.1 ((hF _ (by omega) (by omega)).trans h4) ((hF _ (by omega) (by omega)).trans h6) c2 (fun i hi => by obtain ⟨s, e1, e2, e3⟩ := c5 i hi; exact ⟨s, e1, e2, by omega⟩) (show pp + n < p2 by omega) (isS_im (iv_ex (by omega) (by omega) (fun a h1 h2 => u4.1 a (by omega))) _ (Nat.le_refl _) d5) rfl⟩
theorem ar27 (hV : HVb K T V d) (hb : bb ≤ 54) (hn : ns ≤ 16) (hd : 18 ≤ ns + d) (r1 : Zz S + 8 * (T - pp) + 16 ≤ K.2.1) (r2 : Zn S + 120 * (T - pp) + 520 ≤ K.2.2) : ∀ (m : Nat) {S1 : Sg} {p1 v1 n : Nat} {mo : Int32}, 1 ≤ m → (Zi S1 3 = 0 → T + 1 ≤ p1 + m) → AW K S S1 pp n p1 vv v1 tk → GR nX S S1 → RZ S1 T p1 ns v1 bb → pp ≤ p1 → (Zi S1 3 = 0 → pp + n < p1) → Rt (f_arm_27 K V m S1 (some (Zz S)) mo) (NP K T S pp ns vv bb 2 13 (2 * (16 - ns) + 2) 8 100 5 50)
  | 0, _, _, _, _, _, h, _, _, _, _, _, _ => absurd h (by omega)
  | m + 1, S1, p1, v1, n, mo, _, hm, hA, hg, z1, hp0, hp => by
    have hT1 := z1.1.2.1; have hT := z1.1.2.2.1
    have h94 : Rt (f_arm_94 K V S1 (some (Zz S))) (NP K T S pp ns vv bb 2 13 (2 * (16 - ns) + 2) 8 100 5 50) := by
      unfold f_arm_94
      refine Rt.bn (take_ z1 (by decide)) (fun S2 _ q2 => ?_)
      obtain ⟨p2, z2, g2, w1, w2, w3⟩ := q2
      exact ar100 hV hb hn hd r1 r2 (hA.ss g2 (p2 := p2) (v2 := v1) w1 (fun _ => rfl)) (hg.n g2.1) z2 ⟨by omega, fun q => by have := hp (g2.1.2.2.2.2.2 q); omega⟩
    unfold f_arm_27
    refine Rt.ok (fun q1 => Rt.it (fun _ => h94) (fun _ => ?_)) (fun _ => h94)
    have hm1 := hm q1
    have hp1 := hp q1
    have hA' := hA
    obtain ⟨g0, h1, h2, h3, h4, h5, h6, h7, h8, h9⟩ := hA'
    obtain ⟨c1, c2, c3, c4, c5⟩ := h9 q1
    refine Rt.bd (oI_mk h1 h2 rfl) ?_
    refine Rt.bn (limit_ (mx := 12) z1) (fun S2 _ q2 => ?_)
    obtain ⟨z2, g2, w2⟩ := q2
    refine Rt.bn (oneV_ z2) (fun S3 _ q3 => ?_)
    obtain ⟨z3, g3, w3⟩ := q3
    refine Rt.bn (name_ z3) (fun S4 r4 q4 => ?_)
    obtain ⟨p4, z4, g4, w4, w5, w6⟩ := q4
    have g14 := (g2.tr g3).tr g4
    have hgd : Zi S4 3 = 0 → n < 12 ∧ v1 < 40 ∧ p4 = p1 + 1 ∧ r4 = nI p1 := fun q => by
      obtain ⟨d1, d2, d3⟩ := w6 q
      have q3 := g4.1.2.2.2.2.2 q
      have q2 := g3.1.2.2.2.2.2 q3
      have hk : Zr S1 5 p1 = 2 := by rw [← g2.1.2.1.1, ← g3.1.2.1.1]; exact d1
      have e1 := w2 q2 hk
      have e2 := w3 q3 (by rw [g2.1.2.1.1]; exact hk)
      exact ⟨by omega, by omega, d2, d3⟩
    have e1 : Zz S + 1 ∈ ZL S4 := by rw [g14.2.2.1]; exact h3
    have e2 : ZF S4 (Zz S + 1) = .inl (K.1 0, 12, .inl g0) := by rw [g14.2.1]; exact h4
    have e3 : Zz S ∈ ZL S4 := by rw [g14.2.2.1]; exact h1
    have e4 : ZF S4 (Zz S) = .inr (13, [.int tk, .int 0, .ref (Zz S + 1), .int (nI n), .ref (Zz S + 2), .null]) := by rw [g14.2.1]; exact h2
    -- one more
    have h74 : ∀ (S5 : Sg) (g5 : Nat → Int32), Zz S ∈ ZL S5 → ZF S5 (Zz S) = .inr (13, [.int tk, .int 0, .ref (Zz S + 1), .int (nI n), .ref (Zz S + 2), .null]) → Zz S + 1 ∈ ZL S5 → ZF S5 (Zz S + 1) = .inl (K.1 0, 12, .inl g5) → Zz S + 2 ∈ ZL S5 → ZF S5 (Zz S + 2) = .inl (K.1 5, 12, .inr (.inr (.inr (.inr (fun _ => none))))) → Zz S5 = Zz S + 3 → Zn S5 ≤ Zn S + 30 → GR nX S S5 → RZ S5 T p4 ns (v1 + 1) bb → (Zi S5 3 = 0 → Zi S4 3 = 0 ∧ ∀ i : Nat, i < n + 1 → ∃ s : Nat, g5 i = nI s ∧ pp < s ∧ s < p4) → Rt (f_arm_74 K V (f_arm_27 K V m) S5 (some (Zz S))) (NP K T S pp ns vv bb 2 13 (2 * (16 - ns) + 2) 8 100 5 50) := fun S5 g5 x1 x2 x3 x4 x5 x6 x7 x8 x9 z5 x10 => by
      unfold f_arm_74
      refine Rt.bd (oI_mk x1 x2 rfl) ?_
      rw [nI_1]
      have s5 : St nX S S5 (Zz S) (.inr (13, [.int tk, .int 0, .ref (Zz S + 1), .int (nI n), .ref (Zz S + 2), .null])) 3 30 := ⟨x9, fun q => absurd q (by omega), x1, x2, by omega, by omega⟩
      refine Rt.pv s5 z5 (Nat.le_of_ble_eq_true rfl) rfl (fun S6 s6 z6 u6 => ?_)
      have hA6 : AW K S S6 pp (n + 1) p4 vv (v1 + 1) tk := ⟨g5, s6.2.2.1, s6.2.2.2.1, by rw [u6.2.1]; exact x3, by rw [u6.1 _ (by omega)]; exact x4, by rw [u6.2.1]; exact x5, by rw [u6.1 _ (by omega)]; exact x6, u6.2.2.1.trans x7, by rw [u6.2.2.2.1]; exact x8, fun q => by
        obtain ⟨d1, d2⟩ := x10 (by rw [← u6.2.2.2.2.1]; exact q)
        have := hgd d1
        exact ⟨c1, by omega, by omega, by omega, d2⟩⟩
      refine Rt.bn (takes_ z6 (by decide)) (fun S7 r7 q7 => ?_)
      obtain ⟨p7, z7, g7, i7, q7⟩ := q7
      have hp7 : p4 ≤ p7 := by rcases q7 with ⟨_, w, _⟩ | ⟨_, w, _⟩ <;> omega
      refine ar27 hV hb hn hd r1 r2 m (by omega) (fun q => ?_) (hA6.ss g7 hp7 (fun _ => rfl)) (s6.1.n g7.1) z7 (by omega) (fun q => ?_)
      · obtain ⟨d1, _⟩ := x10 (by rw [← u6.2.2.2.2.1, ← i7]; exact q)
        have := hgd d1; omega
      · obtain ⟨d1, _⟩ := x10 (by rw [← u6.2.2.2.2.1, ← i7]; exact q)
        have := hgd d1; omega
    refine Rt.ok (fun q4 => ?_) (fun q4 => h74 S4 g0 e3 e4 e1 e2 (by rw [g14.2.2.1]; exact h5) (by rw [g14.2.1]; exact h6) (g14.2.2.2.1.trans h7) (by rw [g14.2.2.2.2]; exact h8) (hg.n g14.1) z4 (fun q => absurd q q4))
    obtain ⟨d1, d2, d3, d4⟩ := hgd q4
    refine Rt.bd (oR_mk (v := some (Zz S + 1)) e3 e4 rfl) (Rt.bd (oI_mk e3 e4 rfl) (Rt.bd (bI_n e1 e2 d1 (by decide)) ?_))
    refine h74 _ (upd g0 n r4) e3 ((ZF_n (by omega)).trans e4) e1 ZF_s (by show _ ∈ ZL S4; rw [g14.2.2.1]; exact h5) ((ZF_n (by omega)).trans (by rw [g14.2.1]; exact h6)) (g14.2.2.2.1.trans h7) (by show Zn S4 ≤ _; rw [g14.2.2.2.2]; exact h8) ((hg.n g14.1).tr GR.uf (fun c hc q => absurd q (by omega))) z4.uf (fun q => ⟨q, fun i hi => ?_⟩)
    by_cases ei : i = n
    · subst ei; exact ⟨p1, (if_pos rfl).trans d4, by omega, by omega⟩
    · obtain ⟨s, k1, k2, k3⟩ := c5 i (by omega)
      exact ⟨s, (if_neg ei).trans k1, k2, by omega⟩
/-- an arm -/
theorem arm_ (hV : HVb K T V d) (h : RZ S T pp ns vv bb) (q0 : Zi S 3 = 0) (hb : bb ≤ 54) (hv : vv ≤ 40) (hn : ns ≤ 16) (hd : 18 ≤ ns + d) (r1 : Zz S + 8 * (T - pp) + 16 ≤ K.2.1) (r2 : Zn S + 120 * (T - pp) + 520 ≤ K.2.2) : Rt (f_arm K V S) (NP K T S pp ns vv bb 2 13 (2 * (16 - ns) + 2) 8 100 5 50) := by
  have hp := h.1.2.1; have hT := h.1.2.2.1
  unfold f_arm
  refine Rt.nw (X := nX) h (by omega) (by omega) (fun S1 s1 z1 i1 => ?_)
  have hez := z1.2.2.2.2 _ s1.2.2.1
  have y1 : Zz S1 = Zz S + 1 := by have := s1.2.2.2.2.1; omega
  have y2 := s1.2.2.2.2.2
  refine Rt.bn (Q := fun S3 _ => St nX S S3 (Zz S) (.inr (13, [.int 0, .int 0, .ref (Zz S + 1), .int (nI 0), .ref (Zz S + 2), .null])) 3 30 ∧ RZ S3 T pp ns vv bb ∧ Zi S3 = Zi S ∧ Zz S + 1 ∈ ZL S3 ∧ ZF S3 (Zz S + 1) = .inl (K.1 0, 12, .inl (fun _ => 0)) ∧ Zz S + 2 ∈ ZL S3 ∧ ZF S3 (Zz S + 2) = .inl (K.1 5, 12, .inr (.inr (.inr (.inr (fun _ => none))))) ∧ Zz S3 = Zz S + 3) ?_ (fun S3 _ q3 => ?_)
  · unfold f_X13_init
    refine Rt.be (nA_ok (n := 12) (by decide) ⟨by omega, by omega⟩) ?_
    have s2 := s1.cl (GR.un (X := nX) (S := S1) (c := .inl (K.1 0, 12, .inl (fun _ => 0))) (n := 12)) hez (z1 := 1) (n1 := 12) (Nat.le_refl _) (Nat.le_refl _)
    refine Rt.pv s2 z1.un (Nat.le_of_ble_eq_true rfl) (show va_rf (some (Zz S1)) = .ref (Zz S + 1) by rw [y1]; rfl) (fun S4 s4 z4 u4 => ?_)
    have y4 : Zz S4 = Zz S + 2 := u4.2.2.1.trans (by show Zz S1 + 1 = _; omega)
    have y5 := s4.2.2.2.2.2
    have f4 : ZF S4 (Zz S + 1) = .inl (K.1 0, 12, .inl (fun _ => 0)) := by rw [u4.1 _ (by omega), ← y1]; exact updE_s
    have m4 : Zz S + 1 ∈ ZL S4 := by rw [u4.2.1, ← y1]; exact List.mem_cons_self
    refine Rt.be (nQ_ok (n := 12) (by decide) ⟨by omega, by omega⟩) ?_
    have s5 := s4.cl (GR.un (X := nX) (S := S4) (c := .inl (K.1 5, 12, .inr (.inr (.inr (.inr (fun _ => none)))))) (n := 12)) (by omega) (z1 := 1) (n1 := 12) (Nat.le_refl _) (Nat.le_refl _)
    refine Rt.pv s5 z4.un (Nat.le_of_ble_eq_true rfl) (show va_rf (some (Zz S4)) = .ref (Zz S + 2) by rw [y4]; rfl) (fun S6 s6 z6 u6 => Rt.rt ⟨s6, z6, u6.2.2.2.2.1.trans (u4.2.2.2.2.1.trans i1), by rw [u6.2.1]; exact List.mem_cons_of_mem _ m4, ?_, by rw [u6.2.1, ← y4]; exact List.mem_cons_self, by rw [u6.1 _ (by omega), ← y4]; exact updE_s, u6.2.2.1.trans (by show Zz S4 + 1 = _; omega)⟩)
    rw [u6.1 _ (by omega)]
    exact (updE_n (by omega)).trans f4
  obtain ⟨s3, z3, i3, m1, f1, m2, f2, e3⟩ := q3
  refine Rt.bn (name_ z3) (fun S5 r5 q5 => ?_)
  obtain ⟨p5, z5, g5, w1, w2, w3⟩ := q5
  refine Rt.pv (s3.ss g5) z5 (Nat.le_of_ble_eq_true rfl) rfl (fun S7 s7 z7 u7 => ?_)
  have hA : AW K S S7 pp 0 p5 vv vv r5 := ⟨fun _ => 0, s7.2.2.1, s7.2.2.2.1, by rw [u7.2.1, g5.2.2.1]; exact m1, by rw [u7.1 _ (by omega), g5.2.1]; exact f1, by rw [u7.2.1, g5.2.2.1]; exact m2, by rw [u7.1 _ (by omega), g5.2.1]; exact f2, u7.2.2.1.trans (g5.2.2.2.1.trans e3), s7.2.2.2.2.2, fun q => by
    obtain ⟨c1, c2, c3⟩ := w3 (by rw [← u7.2.2.2.2.1]; exact q)
    exact ⟨c3, by omega, rfl, hv, fun i hi => absurd hi (by omega)⟩⟩
  have hgd : Zi S7 3 = 0 → pp < p5 := fun q => by
    obtain ⟨c1, c2, c3⟩ := w3 (by rw [← u7.2.2.2.2.1]; exact q)
    omega
  refine Rt.bn (takes_ z7 (by decide)) (fun S8 r8 q8 => ?_)
  obtain ⟨p8, z8, g8, i8, q8⟩ := q8
  have hp8 : p5 ≤ p8 := by rcases q8 with ⟨_, w, _⟩ | ⟨_, w, _⟩ <;> omega
  have hA8 := hA.ss g8 (p2 := p8) (v2 := vv) hp8 (fun _ => rfl)
  have hg8 := s7.1.n g8.1
  have hgd8 : Zi S8 3 = 0 → pp < p8 := fun q => by have := hgd (by rw [← i8]; exact q); omega
  refine Rt.it (fun _ => ar100 hV hb hn hd r1 r2 hA8 hg8 z8 ⟨by omega, hgd8⟩) (fun _ => ?_)
  exact ar27 hV hb hn hd r1 r2 bigN (by decide) (fun _ => by show T + 1 ≤ p8 + 1000000000000; omega) hA8 hg8 z8 (by omega) hgd8
end ARM
end
-- k4.q.lean.txt
section
/-- the arms of the match s that were read since S -/
def MW (K : Ky) (fk : Nat → Int32) (N : Nat) (S S1 : Sg) (s x : Nat) (mu rf : Int32) (pp p0 q0 b0 b9 n cp p1 b1 vv v1 : Nat) : Prop := ∃ (f : Nat → Option Nat) (L : List Nat) (la : Nat), s ∈ ZL S1 ∧ ZF S1 s = .inr (19, sxV 5 pp 0 mu rf .null (.ref x) .null .null .null .null (.ref la) n) ∧ la ∈ ZL S1 ∧ ZF S1 la = .inl (K.1 7, cp, .inr (.inr (.inr (.inr f)))) ∧ Zz S ≤ la ∧ la ∉ L ∧ n ≤ cp ∧ 4 ≤ cp ∧ cp ≤ 4 + 2 * n ∧ (∀ a ∈ L, Zz S ≤ a ∧ a < Zz S1) ∧ (∀ i : Nat, i < n → ∃ y : Nat, f i = some y ∧ okO S1 13 (some y) = true) ∧ (Zi S1 3 = 0 → isE L (ZF S1) (K.1 9) (K.1 0) 408 16 x p0 q0 b0 b9 ∧ (rf = 1 → plE (ZF S1) 408 x) ∧ chN (isS K L (ZF S1) fk N 2) f n (q0 + 1) p1 b9 b1 vv v1)
section MAT
variable {K : Ky} {T : Nat} {V : Sg → Option (Sg × Option Nat)} {fk : Nat → Int32} {N d pp ns bb vv s x p0 q0 b0 b9 : Nat} {S : Sg} {mu rf : Int32} {P : Sg → Unit → Prop}
theorem MW.cp {n cp p1 b1 v1 : Nat} {S1 : Sg} (h : MW K fk N S S1 s x mu rf pp p0 q0 b0 b9 n cp p1 b1 vv v1) : 4 ≤ cp ∧ cp ≤ 4 + 2 * n ∧ n ≤ cp := by
  obtain ⟨f, L, la, h1, h2, h3, h4, h5, h6, h7, h8, h9, _⟩ := h
  exact ⟨h8, h9, h7⟩
/-- the row is made longer -/
theorem mt186 {k146 : Sg → Option Nat → Option (Sg × Unit)} {S0 : Sg} {la l2 cp n : Nat} {f : Nat → Option Nat} (hn : n ≤ 3001) (hcp : n = cp) (hl2 : Zz S0 ≤ l2) (he0 : s < Zz S0) (kk : ∀ (S : Sg) (f2 : Nat → Option Nat), s ∈ ZL S → ZF S s = .inr (19, sxV 5 pp 0 mu rf .null (.ref x) .null .null .null .null (.ref l2) n) → l2 ∈ ZL S → ZF S l2 = .inl (K.1 7, 2 * n, .inr (.inr (.inr (.inr f2)))) → (∀ i : Nat, i < n → f2 i = f i) → GR (fun c => c = s) S0 S → Zi S = Zi S0 → Zz S = l2 + 1 → Zn S = Zn S0 + 2 * n → (∀ y : Nat, okO S0 13 (some y) = true → okO S 13 (some y) = true) → Rt (f_match_214 K V k146 S (some s)) P) : ∀ (m j : Nat), n < j + m → j ≤ n → ∀ {S : Sg} {f2 : Nat → Option Nat}, s ∈ ZL S → ZF S s = .inr (19, sxV 5 pp 0 mu rf .null (.ref x) .null .null .null .null (.ref la) n) → la ∈ ZL S → ZF S la = .inl (K.1 7, cp, .inr (.inr (.inr (.inr f)))) → l2 ∈ ZL S → ZF S l2 = .inl (K.1 7, 2 * n, .inr (.inr (.inr (.inr f2)))) → la ≠ l2 → (∀ i : Nat, i < n → ∃ y : Nat, f i = some y ∧ okO S 13 (some y) = true) → (∀ i : Nat, i < j → f2 i = f i) → GR (fun c => c = s) S0 S → Zi S = Zi S0 → Zz S = l2 + 1 → Zn S = Zn S0 + 2 * n → (∀ y : Nat, okO S0 13 (some y) = true → okO S 13 (some y) = true) → Rt (f_match_186 K V k146 m S (some s) (some l2) (nI j)) P
  | 0, j, w1, w2, _, _, _, _, _, _, _, _, _, _, _, _, _, _, _, _ => absurd w1 (by omega)
  | m + 1, j, w1, w2, S, f2, he, hF, hl, hR, h2, hR2, hne, hy, hfg, hg, hi, hz, hnn, hok => by
    have e1 : s ≠ l2 := ne_or hF hR2
    unfold f_match_186
    refine Rt.bd (oI_mk (v := nI n) he hF rfl) (Rt.it (fun q => ?_) (fun q => ?_))
    · have hj : j = n := by
        rcases Nat.lt_or_ge j n with w | w
        · exact absurd q (fun q => by have := (nI_leI (by omega) (by omega)).mp q; omega)
        · omega
      subst hj
      refine Rt.bd (pV_mk (v := va_rf (some l2)) he hF (Nat.le_of_ble_eq_true rfl)) ?_
      refine kk _ f2 he ZF_s h2 ((ZF_n (fun q => e1 q.symm)).trans hR2) hfg (hg.tr GR.uf (fun c _ q => q)) hi hz hnn (fun y hy1 => ?_)
      have hy2 := hok y hy1
      obtain ⟨y1, vs, y2⟩ := okO_of hy2
      exact okO_mk y1 ((ZF_n (fun q => by rw [q, hF] at y2; cases y2)).trans y2)
    · have hj : j < n := by
        rcases Nat.lt_or_ge j n with w | w
        · exact w
        · exact absurd (nI_le w (by omega)) q
      obtain ⟨y, hfy, hoy⟩ := hy j hj
      refine Rt.bd (oR_mk (v := some la) he hF rfl) (Rt.bd (aQ_n hl hR (show j < cp by omega) (by omega)) ?_)
      rw [hfy]
      refine Rt.bd (bQ_n h2 hR2 (show j < 2 * n by omega) (by omega) hoy) ?_
      rw [nI_1]
      have hok2 : ∀ {u : Nat} {c : vp_A}, okO S 13 (some u) = true → okO (UF S l2 (.inl (K.1 7, c))) 13 (some u) = true := fun {u c} h => by
        obtain ⟨y1, vs, y2⟩ := okO_of h
        exact okO_mk y1 ((ZF_n (ne_or y2 hR2)).trans y2)
      refine mt186 hn hcp hl2 he0 kk m (j + 1) (by omega) (by omega) he ((ZF_n e1).trans hF) hl ((ZF_n hne).trans hR) h2 ZF_s hne (fun i hi => by obtain ⟨u, h1, h3⟩ := hy i hi; exact ⟨u, h1, hok2 h3⟩) (fun i hi => ?_) (hg.tr GR.uf (fun c hc q => absurd q (by omega))) hi hz hnn (fun u hu => hok2 (hok u hu))
      by_cases ei : i = j
      · subst ei; exact (va_up_self _ _ _).trans hfy.symm
      · exact (va_up_ne _ _ ei).trans (hfg i (by omega))
/-- the end -/
theorem mt240 (hs : Zz S = s + 1) {S1 : Sg} {p1 b1 v1 n cp : Nat} (hp : pp ≤ p1 ∧ bb ≤ b1 ∧ b1 ≤ bb + (p1 - pp)) (hB : MW K (Zr S 5) (2 * (16 - ns) + 1) S S1 s x mu rf pp p0 q0 b0 b9 n cp p1 b1 vv v1) (hg : GR (fun c => c = s) S S1) (z1 : RZ S1 T p1 (ns + 1) v1 b1) (k1 : Zz S1 ≤ Zz S + 8 * (p1 - pp) + 6) (k2 : Zn S1 ≤ Zn S + 120 * (p1 - pp) + 96) (k3 : Zi S1 3 = 0 → pp < p0 ∧ b1 ≤ 54 ∧ v1 ≤ 40 ∧ Zz S1 + 4 * n + 12 ≤ Zz S + 8 * (p1 - pp) ∧ Zn S1 + 50 * n + 180 ≤ Zn S + 120 * (p1 - pp) + 2 * cp ∧ ((rf = 0 ∧ mu = 0 ∧ b0 = bb) ∨ (rf = 1 ∧ (mu = 0 ∨ mu = 1) ∧ b0 = bb + 1))) : Rt (f_match_240 K V S1) (fun S2 _ => SP K T S pp ns vv bb s S2) := by
  have hcp := hB.cp
  obtain ⟨f, L, la, h1, h2, h3, h4, h5, h6, h7, h8, h9, h10, h11, h12⟩ := hB
  unfold f_match_240
  refine Rt.nd z1 (fun S5 g5 z5 i5 => Rt.bn (take_ z5 (by decide)) (fun S6 _ q6 => Rt.rt ?_))
  obtain ⟨p6, z6, g6, w1, w2, w3⟩ := q6
  have g16 := g5.tr g6
  have s1 : St (fun c => c = s) S S1 s (.inr (19, sxV 5 pp 0 mu rf .null (.ref x) .null .null .null .null (.ref la) n)) (8 * (p1 - pp) + 6) (120 * (p1 - pp) + 96) := ⟨hg, fun _ => rfl, h1, h2, k1, k2⟩
  have s6 := s1.ss g16
  have y1 := g16.2.2.2.1; have y2 := g16.2.2.2.2
  refine ⟨p6, v1, b1, _, z6, s6.le (by omega) (by omega), by omega, fun q => ?_⟩
  have q1 : Zi S1 3 = 0 := by rw [← i5]; exact g6.1.2.2.2.2.2 q
  have w4 := (w3 q).2
  subst w4
  obtain ⟨c1, c2, c3, c4, c5, c6⟩ := k3 q1
  obtain ⟨d1, d2, d3⟩ := h12 q1
  have hss := z6.2.2.2.2 _ s6.2.2.1
  have hlz := z1.2.2.2.2 _ h3
  have hx : exS L (ZF S1) (iv s (Zz S6)) (ZF S6) := fun a ha => ⟨iv_m.mpr ⟨by have := (h10 a ha).1; omega, by have := (h10 a ha).2; omega⟩, by rw [g16.2.1]⟩
  refine ⟨by omega, by omega, c2, c3, by omega, isN_M (n := 2 * (16 - ns) + 1) (iv_m.mpr ⟨Nat.le_refl _, hss⟩) (by omega) s6.2.2.2.1 ?_ c1 (isE_im hx _ (Nat.le_refl _) d1) (iv_m.mpr ⟨by omega, by omega⟩) (by rw [g16.2.1]; exact h4) h7 (chN_im (fun y p q b c v w z => isS_im hx _ (Nat.le_refl _) z) d3)⟩
  rcases c6 with c6 | ⟨c6, c7, c8⟩
  · exact Or.inl c6
  · exact Or.inr ⟨c6, c7, c8, plE_ex hx (isE_pw d1) (d2 c6)⟩
/-- one arm more, with room in the row -/
theorem mt214 {k146 : Sg → Option Nat → Option (Sg × Unit)} (hV : HVb K T V d) (hs : Zz S = s + 1) {S1 S5 : Sg} {p1 b1 v1 n cp cq lb : Nat} {f f5 : Nat → Option Nat} {L : List Nat} (hb : b1 ≤ 54) (hv : v1 ≤ 40) (hn16 : ns + 1 ≤ 16) (hd : 18 ≤ ns + 1 + d) (q1 : Zi S1 3 = 0) (hg : GR (fun c => c = s) S S1) (z1 : RZ S1 T p1 (ns + 1) v1 b1) (hL : ∀ a ∈ L, Zz S ≤ a ∧ a < Zz S1) (hy : ∀ i : Nat, i < n → ∃ y : Nat, f i = some y ∧ okO S1 13 (some y) = true) (hgd : isE L (ZF S1) (K.1 9) (K.1 0) 408 16 x p0 q0 b0 b9 ∧ (rf = 1 → plE (ZF S1) 408 x) ∧ chN (isS K L (ZF S1) (Zr S 5) (2 * (16 - ns) + 1) 2) f n (q0 + 1) p1 b9 b1 vv v1)
    (w1 : s ∈ ZL S5) (w2 : ZF S5 s = .inr (19, sxV 5 pp 0 mu rf .null (.ref x) .null .null .null .null (.ref lb) n)) (w3 : lb ∈ ZL S5) (w4 : ZF S5 lb = .inl (K.1 7, cq, .inr (.inr (.inr (.inr f5))))) (w5 : n < cq) (w6 : cq ≤ 4 + 2 * n) (w7 : 4 ≤ cq) (w9 : lb ∉ L ∧ Zz S ≤ lb) (w10 : ∀ i : Nat, i < n → f5 i = f i) (w11 : GR (fun c => c = s) S1 S5) (w12 : Zi S5 = Zi S1) (w15 : ∀ y : Nat, okO S1 13 (some y) = true → okO S5 13 (some y) = true) (r1 : Zz S5 + 8 * (T - p1) + 16 ≤ K.2.1) (r2 : Zn S5 + 120 * (T - p1) + 520 ≤ K.2.2) (hn : n ≤ 3000)
    (kk : ∀ (S3 : Sg) (p2 b2 v2 : Nat), MW K (Zr S 5) (2 * (16 - ns) + 1) S S3 s x mu rf pp p0 q0 b0 b9 (n + 1) cq p2 b2 vv v2 → GR (fun c => c = s) S S3 → RZ S3 T p2 (ns + 1) v2 b2 → (p1 ≤ p2 ∧ b1 ≤ b2 ∧ b2 ≤ b1 + (p2 - p1)) → Zz S3 ≤ Zz S5 + 8 * (p2 - p1) + 5 → Zn S3 ≤ Zn S5 + 120 * (p2 - p1) + 50 → (Zi S3 3 = 0 → p1 < p2 ∧ b2 ≤ 54 ∧ v2 ≤ 40 ∧ Zz S3 + 8 ≤ Zz S5 + 8 * (p2 - p1) ∧ Zn S3 + 100 ≤ Zn S5 + 120 * (p2 - p1)) → Rt (k146 S3 (some s)) P) : Rt (f_match_214 K V k146 S5 (some s)) P := by
  have z5 : RZ S5 T p1 (ns + 1) v1 b1 := ⟨⟨by rw [w12]; exact z1.1.1, z1.1.2.1, z1.1.2.2.1, by rw [w11.2.1.1]; exact z1.1.2.2.2⟩, by rw [w12]; exact z1.2.1, by rw [w12]; exact z1.2.2.1, by rw [w12]; exact z1.2.2.2.1, w11.lt z1.2.2.2.2⟩
  have q5 : Zi S5 3 = 0 := by rw [w12]; exact q1
  unfold f_match_214
  refine Rt.bd (oR_mk (v := some lb) w1 w2 rfl) (Rt.bd (oI_mk (v := nI n) w1 w2 rfl) ?_)
  refine Rt.bn (arm_ hV z5 q5 hb hv hn16 hd (by omega) (by omega)) (fun S6 r6 q6 => ?_)
  obtain ⟨p6, v6, b6, y, e6, z6, g6, k1, k2, k3, k4, k5⟩ := q6
  subst e6
  have hsz := z5.2.2.2.2 _ w1; have hlz := z5.2.2.2.2 _ w3
  have h15 := w11.2.2.2.2.1.1; have h56 := g6.2.2.2.2.1.1; have h01 := hg.2.2.2.2.1.1
  have hs6 : ZF S6 s = .inr (19, sxV 5 pp 0 mu rf .null (.ref x) .null .null .null .null (.ref lb) n) := (g6.2.2.1 s hsz (fun q => q)).trans w2
  have hl6 : ZF S6 lb = .inl (K.1 7, cq, .inr (.inr (.inr (.inr f5)))) := (g6.2.2.1 lb hlz (fun q => q)).trans w4
  have e1 : s ≠ lb := ne_or w2 w4
  have hyo : okO S6 13 (some y) = true := by
    obtain ⟨vs, hv⟩ := k4.2.2
    exact okO_mk ((g6.2.2.2.1 y).mpr (Or.inr ⟨k4.1, k4.2.1⟩)) hv
  refine Rt.bd (bQ_n (g6.in w3) hl6 w5 (by omega) hyo) ?_
  refine Rt.bd (oI_mk (S := UF S6 lb _) (v := nI n) (g6.in w1) ((ZF_n e1).trans hs6) rfl) ?_
  rw [nI_1]
  refine Rt.bd (pV_mk (S := UF S6 lb _) (v := .int (nI (n + 1))) (g6.in w1) ((ZF_n e1).trans hs6) (Nat.le_of_ble_eq_true rfl)) ?_
  have hg6 : GR (fun c => c = s) S S6 := (hg.tr w11 (fun _ _ q => q)).n g6
  have hg3 : GR (fun c => c = s) S (UF (UF S6 lb (.inl (K.1 7, cq, .inr (.inr (.inr (.inr (va_up f5 n (some y)))))))) s (.inr (19, sxV 5 pp 0 mu rf .null (.ref x) .null .null .null .null (.ref lb) (n + 1)))) := (hg6.tr GR.uf (fun c hc q => absurd q (by omega))).tr GR.uf (fun c _ q => q)
  have hcl : ∀ a : Nat, a ≠ s → a ≠ lb → ZF (UF (UF S6 lb (.inl (K.1 7, cq, .inr (.inr (.inr (.inr (va_up f5 n (some y)))))))) s (.inr (19, sxV 5 pp 0 mu rf .null (.ref x) .null .null .null .null (.ref lb) (n + 1)))) a = ZF S6 a := fun a h1 h2 => by rw [ZF_n h1, ZF_n h2]
  have hLs : ∀ a ∈ L, a ≠ s ∧ a ≠ lb := fun a ha => ⟨by have := (hL a ha).1; omega, fun w => w9.1 (w ▸ ha)⟩
  have hx1 : exS L (ZF S1) (L ++ iv (Zz S5) (Zz S6)) (ZF (UF (UF S6 lb (.inl (K.1 7, cq, .inr (.inr (.inr (.inr (va_up f5 n (some y)))))))) s (.inr (19, sxV 5 pp 0 mu rf .null (.ref x) .null .null .null .null (.ref lb) (n + 1))))) := fun a ha => ⟨List.mem_append_left _ ha, by
    rw [hcl a (hLs a ha).1 (hLs a ha).2, g6.2.2.1 a (by have := (hL a ha).2; omega) (fun q => q), w11.2.2.1 a (hL a ha).2 (hLs a ha).1]⟩
  have hx2 : exS (iv (Zz S5) (Zz S6)) (ZF S6) (L ++ iv (Zz S5) (Zz S6)) (ZF (UF (UF S6 lb (.inl (K.1 7, cq, .inr (.inr (.inr (.inr (va_up f5 n (some y)))))))) s (.inr (19, sxV 5 pp 0 mu rf .null (.ref x) .null .null .null .null (.ref lb) (n + 1))))) := fun a ha => ⟨List.mem_append_right _ ha, hcl a (by have := (iv_m.mp ha).1; omega) (by have := (iv_m.mp ha).1; omega)⟩
  refine kk _ p6 b6 v6 ⟨va_up f5 n (some y), L ++ iv (Zz S5) (Zz S6), lb, g6.in w1, ZF_s, g6.in w3, (ZF_n (fun q => e1 q.symm)).trans ZF_s, w9.2, fun q => ?_, by omega, w7, by omega, fun a ha => ?_, fun i hi => ?_, fun q => ?_⟩ hg3 z6.uf.uf k1 k2 k3 (fun q => ?_)
  · rcases List.mem_append.mp q with w | w
    · exact w9.1 w
    · have := (iv_m.mp w).1; omega
  · rcases List.mem_append.mp ha with w | w
    · exact ⟨(hL a w).1, show a < Zz S6 by have := (hL a w).2; omega⟩
    · have := iv_m.mp w; exact ⟨by omega, this.2⟩
  · have key : ∀ {u : Nat}, okO S6 13 (some u) = true → okO (UF (UF S6 lb (.inl (K.1 7, cq, .inr (.inr (.inr (.inr (va_up f5 n (some y)))))))) s (.inr (19, sxV 5 pp 0 mu rf .null (.ref x) .null .null .null .null (.ref lb) (n + 1)))) 13 (some u) = true := fun {u} h => by
      obtain ⟨u1, vs, u2⟩ := okO_of h
      exact okO_mk u1 ((hcl u (fun q => by rw [q, hs6] at u2; cases u2) (ne_or u2 hl6)).trans u2)
    by_cases ei : i = n
    · subst ei; exact ⟨y, va_up_self _ _ _, key hyo⟩
    · obtain ⟨u, u1, u2⟩ := hy i (by omega)
      obtain ⟨u3, vs, u4⟩ := okO_of (w15 u u2)
      exact ⟨u, (va_up_ne _ _ ei).trans ((w10 i (by omega)).trans u1), key (okO_mk (g6.in u3) ((g6.2.2.1 u (z5.2.2.2.2 u u3) (fun q => q)).trans u4))⟩
  · obtain ⟨d1, d2, d3, d4, d5⟩ := k5 q
    rw [show Zr S5 5 = Zr S 5 by rw [w11.2.1.1, hg.2.1.1]] at d5
    exact ⟨isE_im hx1 _ (Nat.le_refl _) hgd.1, fun w => plE_ex hx1 (isE_pw hgd.1) (hgd.2.1 w), chN_add (chN_im (fun y p q b c v w z => isS_im hx1 _ (Nat.le_refl _) z) hgd.2.2) (fun i hi => (va_up_ne _ _ (by omega)).trans (w10 i hi)) (va_up_self _ _ _) (isS_im hx2 _ (by omega) d5)⟩
  · obtain ⟨d1, d2, d3, d4, d5⟩ := k5 q
    exact ⟨(isN_lt d5).2, d3, d4, d1, d2⟩
end MAT
end
-- k4.r.lean.txt
section
section MAU
variable {K : Ky} {T : Nat} {V : Sg → Option (Sg × Option Nat)} {d pp ns bb vv s x p0 q0 b0 b9 : Nat} {S : Sg} {mu rf : Int32}
/-- the arms -/
theorem mt146 (hV : HVb K T V d) (hs : Zz S = s + 1) (hd : 18 ≤ ns + 1 + d) (hrf : (rf = 0 ∧ mu = 0 ∧ b0 = bb) ∨ (rf = 1 ∧ (mu = 0 ∨ mu = 1) ∧ b0 = bb + 1)) (hp0 : pp < p0) (r1 : Zz S + 8 * (T - pp) + 14 ≤ K.2.1) (r2 : Zn S + 120 * (T - pp) + 480 ≤ K.2.2) : ∀ (m : Nat) {S1 : Sg} {p1 b1 v1 n cp : Nat}, 1 ≤ m → (Zi S1 3 = 0 → T + 1 ≤ p1 + m) → (pp ≤ p1 ∧ bb ≤ b1 ∧ b1 ≤ bb + (p1 - pp)) → MW K (Zr S 5) (2 * (16 - ns) + 1) S S1 s x mu rf pp p0 q0 b0 b9 n cp p1 b1 vv v1 → GR (fun c => c = s) S S1 → RZ S1 T p1 (ns + 1) v1 b1 → Zz S1 ≤ Zz S + 8 * (p1 - pp) + 6 → Zn S1 ≤ Zn S + 120 * (p1 - pp) + 96 → (Zi S1 3 = 0 → ns + 1 ≤ 16 ∧ pp + 1 + n ≤ p1 ∧ b1 ≤ 54 ∧ v1 ≤ 40 ∧ Zz S1 + 4 * n + 12 ≤ Zz S + 8 * (p1 - pp) ∧ Zn S1 + 50 * n + 180 ≤ Zn S + 120 * (p1 - pp) + 2 * cp) → Rt (f_match_146 K V m S1 (some s)) (fun S2 _ => SP K T S pp ns vv bb s S2)
  | 0, _, _, _, _, _, _, h, _, _, _, _, _, _, _, _ => absurd h (by omega)
  | m + 1, S1, p1, b1, v1, n, cp, _, hm, hp, hB, hg, z1, k1, k2, k3 => by
    have hT1 := z1.1.2.1; have hT := z1.1.2.2.1
    have hcp := hB.cp
    have hend : Rt (f_match_240 K V S1) (fun S2 _ => SP K T S pp ns vv bb s S2) := mt240 hs hp hB hg z1 k1 k2 (fun q => by have := k3 q; exact ⟨hp0, this.2.2.1, this.2.2.2.1, this.2.2.2.2.1, this.2.2.2.2.2, hrf⟩)
    unfold f_match_146
    refine Rt.ok (fun q1 => Rt.is z1 (fun _ => hend) (fun _ => ?_)) (fun _ => hend)
    obtain ⟨c1, c2, c3, c4, c5, c6⟩ := k3 q1
    have hm1 := hm q1
    obtain ⟨f, L, la, h1, h2, h3, h4, h5, h6, h7, h8, h9, h10, h11, h12⟩ := hB
    have h01 := hg.2.2.2.2.1.1
    have hsz := z1.2.2.2.2 _ h1; have hlz := z1.2.2.2.2 _ h3
    have hgo : ∀ (S5 : Sg) (lb cq : Nat) (f5 : Nat → Option Nat), s ∈ ZL S5 → ZF S5 s = .inr (19, sxV 5 pp 0 mu rf .null (.ref x) .null .null .null .null (.ref lb) n) → lb ∈ ZL S5 → ZF S5 lb = .inl (K.1 7, cq, .inr (.inr (.inr (.inr f5)))) → n < cq → cq ≤ 4 + 2 * n → 4 ≤ cq → cp ≤ cq → (lb ∉ L ∧ Zz S ≤ lb) → (∀ i : Nat, i < n → f5 i = f i) → GR (fun c => c = s) S1 S5 → Zi S5 = Zi S1 → Zz S5 ≤ Zz S1 + 1 → Zn S5 + 2 * cp ≤ Zn S1 + 2 * cq → (∀ y : Nat, okO S1 13 (some y) = true → okO S5 13 (some y) = true) → Rt (f_match_214 K V (f_match_146 K V m) S5 (some s)) (fun S2 _ => SP K T S pp ns vv bb s S2) := fun S5 lb cq f5 w1 w2 w3 w4 w5 w6 w7 w8 w9 w10 w11 w12 w13 w14 w15 => by
      refine mt214 (cp := cp) hV hs c3 c4 c1 hd q1 hg z1 h10 h11 (h12 q1) w1 w2 w3 w4 w5 w6 w7 w9 w10 w11 w12 w15 (by omega) (by omega) (by omega) (fun S3 p2 b2 v2 x1 x2 x3 x4 x5 x6 x7 => ?_)
      refine mt146 hV hs hd hrf hp0 r1 r2 m (by omega) (fun q => ?_) (by omega) x1 x2 x3 (by omega) (by omega) (fun q => ?_)
      · have := (x7 q).1; omega
      · obtain ⟨y1, y2, y3, y4, y5⟩ := x7 q
        exact ⟨c1, by omega, y2, y3, by omega, by omega⟩
    refine Rt.bd (oI_mk (v := nI n) h1 h2 rfl) (Rt.bd (oR_mk (v := some la) h1 h2 rfl) (Rt.bd (v := nI cp) ?_ ?_))
    · unfold aLn
      rw [aC_mk h3 h4]; exact if_pos rfl
    refine Rt.it (fun q => ?_) (fun q => ?_)
    · have hcn : n = cp := (nI_eq (by omega) (by omega)).mp q
      refine Rt.bd (oI_mk (v := nI n) h1 h2 rfl) ?_
      rw [nI_2]
      refine Rt.be (nQ_ok (n := 2 * n) (by omega) ⟨by omega, by omega⟩) ?_
      have hup : ∀ {a : Nat} {c : va_E}, a ∈ ZL S1 → ZF S1 a = c → ZF (Un S1 (.inl (K.1 7, 2 * n, .inr (.inr (.inr (.inr (fun _ => none)))))) (2 * n)) a = c := fun {a c} h1 h2 => (updE_n (by have := z1.2.2.2.2 a h1; omega)).trans h2
      have hoku : ∀ {y : Nat}, okO S1 13 (some y) = true → okO (Un S1 (.inl (K.1 7, 2 * n, .inr (.inr (.inr (.inr (fun _ => none)))))) (2 * n)) 13 (some y) = true := fun {y} h => by
        obtain ⟨y1, vs, y2⟩ := okO_of h
        exact okO_mk (List.mem_cons_of_mem _ y1) (hup y1 y2)
      refine mt186 (S0 := S1) (la := la) (l2 := Zz S1) (cp := cp) (f := f) (by omega) hcn (Nat.le_refl _) hsz (fun S5 f5 w1 w2 w3 w4 w5 w6 w7 w8 w9 w10 => hgo S5 (Zz S1) (2 * n) f5 w1 w2 w3 w4 (by omega) (by omega) (by omega) (by omega) ⟨fun q => by have := (h10 _ q).2; omega, h01⟩ w5 w6 w7 (by omega) (by omega) w10) bigN 0 (by show n < 0 + 1000000000000; omega) (by omega) (List.mem_cons_of_mem _ h1) (hup h1 h2) (List.mem_cons_of_mem _ h3) (hup h3 h4) List.mem_cons_self updE_s (by omega) (fun i hi => by obtain ⟨y, y1, y2⟩ := h11 i hi; exact ⟨y, y1, hoku y2⟩) (fun i hi => absurd hi (by omega)) GR.un rfl rfl rfl (fun y hy => hoku hy)
    · have hlt : n < cp := by
        rcases Nat.lt_or_ge n cp with w | w
        · exact w
        · exact absurd (by rw [show n = cp by omega]) q
      exact hgo S1 la cp f h1 h2 h3 h4 hlt h9 h8 (Nat.le_refl _) ⟨h6, h5⟩ (fun _ _ => rfl) GR.rf rfl (by omega) (Nat.le_refl _) (fun _ h => h)
/-- match -/
theorem mat_ (hV : HVb K T V d) (h : RZ S T pp ns vv bb) (hs : Zz S = s + 1) (he : s ∈ ZL S) (hF : ZF S s = .inr (19, sxV 0 pp 0 0 0 .null .null .null .null .null .null .null 0)) (hk : Zr S 5 pp = 18) (q0' : Zi S 3 = 0) (hb : bb ≤ 54) (hv : vv ≤ 40) (hn : ns ≤ 16) (hd : 18 ≤ ns + d) (r1 : Zz S + 8 * (T - pp) + 14 ≤ K.2.1) (r2 : Zn S + 120 * (T - pp) + 480 ≤ K.2.2) : Rt (f_match K V S (some s)) (fun S2 _ => SP K T S pp ns vv bb s S2) := by
  have hp := h.1.2.1; have hT := h.1.2.2.1
  have s0 : St (fun b => b = s) S S s (.inr (19, sxV 0 pp 0 0 0 .null .null .null .null .null .null .null 0)) 0 0 := ⟨GR.rf, fun _ => rfl, he, hF, Nat.le_refl _, Nat.le_refl _⟩
  -- the exp is read
  have h53 : ∀ (S3 : Sg) (p3 b3 : Nat) (mu rf : Int32), St (fun b => b = s) S S3 s (.inr (19, sxV 5 pp 0 mu rf .null .null .null .null .null .null .null 0)) 0 0 → RZ S3 T p3 ns vv b3 → pp < p3 → (bb ≤ b3 ∧ b3 ≤ bb + (p3 - pp)) → (Zi S3 3 = 0 → b3 ≤ 54) → ((rf = 0 ∧ mu = 0 ∧ b3 = bb) ∨ (rf = 1 ∧ (mu = 0 ∨ mu = 1) ∧ b3 = bb + 1)) → Rt (f_match_53 K V S3 (some s)) (fun S2 _ => SP K T S pp ns vv bb s S2) := fun S3 p3 b3 mu rf s3 z3 hp3 hb3 hb4 hrf => by
    have x1 := s3.2.2.2.2.1; have x2 := s3.2.2.2.2.2; have hT3 := z3.1.2.1
    unfold f_match_53
    refine Rt.bn (ex140 z3 hb4 (fun _ => hn) (by omega) (by omega)) (fun S4 r4 q4 => ?_)
    obtain ⟨p4, b4, x, e4, z4, g4, w1, w2, w3, w4, w5⟩ := q4
    subst e4
    have hsz := z3.2.2.2.2 _ s3.2.2.1
    have s4 := s3.cl g4 hsz (z1 := 8 * (p4 - p3) + 3) (n1 := 120 * (p4 - p3) + 48) (by omega) (by omega)
    refine Rt.pv s4 z4 (Nat.le_of_ble_eq_true rfl) (show va_rf (some x) = .ref x from rfl) (fun S5 s5 z5 u5 => ?_)
    have s5 : St (fun b => b = s) S S5 s (.inr (19, sxV 5 pp 0 mu rf .null (.ref x) .null .null .null .null .null 0)) (0 + (8 * (p4 - p3) + 3)) (0 + (120 * (p4 - p3) + 48)) := s5
    have y1 := s5.2.2.2.2.1; have y2 := s5.2.2.2.2.2; have hT5 := z5.1.2.1
    have h03 := s3.1.2.2.2.2.1.1
    have h05 := s5.1.2.2.2.2.1.1
    have hgd : Zi S5 3 = 0 → b4 ≤ 54 ∧ isE (iv (Zz S) (Zz S5)) (ZF S5) (K.1 9) (K.1 0) 408 16 x p3 p4 b3 b4 := fun q => by
      obtain ⟨c1, c2⟩ := w5 (by rw [← u5.2.2.2.2.1]; exact q)
      exact ⟨c1, isE_im (iv_ex h03 (by rw [u5.2.2.1]; exact Nat.le_refl _) (fun a h1 h2 => u5.1 a (by omega))) _ (Nat.le_refl _) c2⟩
    have h94 : ∀ S6 : Sg, SS S5 S6 → RZ S6 T p4 ns vv b4 → (Zi S6 3 = 0 → rf = 1 → plE (ZF S5) 408 x) → Rt (f_match_94 K V S6 (some s)) (fun S2 _ => SP K T S pp ns vv bb s S2) := fun S6 g6 z6 h6 => by
      have s6 := s5.ss g6
      unfold f_match_94
      refine Rt.ok (fun q6 => ?_) (fun q6 => Rt.rt ⟨p4, vv, b4, _, z6, s6.le (by omega) (by omega), by omega, fun q => absurd q q6⟩)
      obtain ⟨c1, c2⟩ := hgd (g6.1.2.2.2.2.2 q6)
      have hlt := (isE_mem c2).2
      have h132 : ∀ S7 : Sg, SS S6 S7 → RZ S7 T p4 (ns + 1) vv b4 → (Zi S7 3 = 0 → ns ≠ 16 ∨ ¬ Zr S 5 p4 = 63) → Rt (f_match_132 K V S7 (some s)) (fun S2 _ => SP K T S pp ns vv bb s S2) := fun S7 g7 z7 h7 => by
        unfold f_match_132
        refine Rt.bn (take_ z7 (by decide)) (fun S8 _ q8 => ?_)
        obtain ⟨p8, z8, g8, v1, v2, v3⟩ := q8
        have g58 := (g6.tr g7).tr g8
        have s8 := s5.ss g58
        have t1 := s8.2.2.2.2.1; have t2 := s8.2.2.2.2.2; have hT8 := z8.1.2.1
        have e58 : Zz S8 = Zz S5 := g58.2.2.2.1
        refine Rt.be (nQ_ok (n := 4) (by decide) ⟨by omega, by omega⟩) ?_
        have hs8 := z8.2.2.2.2 _ s8.2.2.1
        have s9 := s8.cl (GR.un (X := nX) (S := S8) (c := .inl (K.1 7, 4, .inr (.inr (.inr (.inr (fun _ => none)))))) (n := 4)) hs8 (z1 := 1) (n1 := 4) (Nat.le_refl _) (Nat.le_refl _)
        refine Rt.pv s9 z8.un (Nat.le_of_ble_eq_true rfl) (show va_rf (some (Zz S8)) = .ref (Zz S8) from rfl) (fun S10 s10 z10 u10 => ?_)
        have t3 := s10.2.2.2.2.1; have t4 := s10.2.2.2.2.2
        have hF10 : ∀ a : Nat, a ≠ s → a < Zz S8 → ZF S10 a = ZF S5 a := fun a h1 h2 => by rw [u10.1 a h1]; exact (updE_n (by omega)).trans (by rw [g58.2.1])
        have e10 : Zz S10 = Zz S8 + 1 := u10.2.2.1
        have hgd8 : Zi S10 3 = 0 → p8 = p4 + 1 ∧ ns + 1 ≤ 16 := fun q => by
          have q8 : Zi S8 3 = 0 := by rw [u10.2.2.2.2.1] at q; exact q
          have k1 := v3 q8
          have := (h7 (g8.1.2.2.2.2.2 q8)).resolve_right (fun w => w (by rw [← k1.1, g7.1.2.1.1, g6.1.2.1.1, s5.1.2.1.1]))
          exact ⟨k1.2, by omega⟩
        have hxx : exS (iv (Zz S) (Zz S5)) (ZF S5) (iv (Zz S) (Zz S8)) (ZF S10) := iv_ex (Nat.le_refl _) (by omega) (fun a h1 h2 => hF10 a (by omega) (by omega))
        refine mt146 (x := x) (p0 := p3) (q0 := p4) (b0 := b3) (b9 := b4) (mu := mu) (rf := rf) hV hs (by omega) hrf hp3 r1 r2 bigN (n := 0) (cp := 4) (by decide) (fun _ => by show T + 1 ≤ p8 + 1000000000000; omega) (by omega) ⟨fun _ => none, iv (Zz S) (Zz S8), Zz S8, s10.2.2.1, s10.2.2.2.1, by rw [u10.2.1]; exact List.mem_cons_self, by rw [u10.1 _ (by omega)]; exact updE_s, by omega, fun q => by have := (iv_m.mp q).2; omega, by omega, by omega, by omega, fun a ha => by have := iv_m.mp ha; exact ⟨this.1, by omega⟩, fun i hi => absurd hi (by omega), fun q => ?_⟩ s10.1 z10 (by omega) (by omega) (fun q => ?_)
        · rw [(hgd8 q).1]
          exact ⟨isE_im hxx _ (Nat.le_refl _) c2, fun w => plE_ex hxx (isE_pw c2) (h6 q6 w), chN_0⟩
        · have := hgd8 q
          exact ⟨this.2, by omega, c1, hv, by omega, by omega⟩
      refine Rt.is z6 (fun hk => ?_) (fun hk => ?_)
      · rw [z6.1.1]
        refine Rt.bn (enter_ z6 (by omega)) (fun S7 _ q7 => ?_)
        exact h132 S7 q7.2.1 q7.1 (fun q => Or.inl (q7.2.2 q))
      · refine Rt.ni z6 (fun S7 g7 z7 i7 => h132 S7 g7 z7 (fun _ => Or.inr (by rw [← s5.1.2.1.1, ← g6.1.2.1.1]; exact hk)))
    refine Rt.ok (fun q5 => ?_) (fun q5 => h94 S5 SS.rf z5 (fun q => absurd q q5))
    obtain ⟨c1, c2⟩ := hgd q5
    refine Rt.bd (oI_mk (v := rf) s5.2.2.1 s5.2.2.2.1 rfl) (Rt.it (fun er => h94 S5 SS.rf z5 (fun _ w => absurd (er.symm.trans w) (by decide))) (fun _ => ?_))
    refine Rt.bd (oR_mk (v := some x) s5.2.2.1 s5.2.2.2.1 rfl) ?_
    refine Rt.bn (isp_ (fun a ha => (s5.1.2.2.2.1 a).mpr (Or.inr (iv_m.mp ha))) (isE_pw c2) (by omega)) (fun S6 r6 q6 => ?_)
    obtain ⟨e6, q6⟩ := q6
    rw [e6]
    rcases q6 with ⟨er, hpl⟩ | ⟨er, _⟩
    · subst er
      exact Rt.iq (by decide) (h94 S5 SS.rf z5 (fun _ _ => hpl))
    · subst er
      refine Rt.ip rfl ?_
      rw [z5.1.1]
      exact Rt.be (fail_ (by omega)) (h94 _ SS.fl z5.fl (fun q => absurd q (flS_n0 (by decide))))
  unfold f_match
  refine Rt.pv s0 h (Nat.le_of_ble_eq_true rfl) rfl (fun S1 s1 z1 u1 => ?_)
  refine Rt.pi z1 (z1.nx (k := 18) (by rw [u1.2.2.2.2.2.1]; exact hk) (by decide)) (fun S2 g2 z2 i2 => ?_)
  have s2 := s1.ss g2
  refine Rt.is z2 (fun hk2 => ?_) (fun _ => h53 S2 (pp + 1) bb 0 0 s2 z2 (by omega) (by omega) (fun _ => hb) (Or.inl ⟨rfl, rfl, rfl⟩))
  refine Rt.bn (borrow_ z2) (fun S5 _ q5 => ?_)
  obtain ⟨z5, g5, h5⟩ := q5
  refine Rt.pi z5 (z5.nx (k := 55) (by rw [g5.1.2.1.1]; exact hk2) (by decide)) (fun S7 g7 z7 i7 => ?_)
  have s7 := (s2.ss g5).ss g7
  refine Rt.pz s7 z7 (Nat.le_of_ble_eq_true rfl) (Or.inr rfl) (fun S8 s8 z8 u8 => ?_)
  refine Rt.bn (takes_ z8 (by decide)) (fun S9 r9 q9 => ?_)
  obtain ⟨p9, z9, g9, i9, q9⟩ := q9
  have hr9 : r9 = 0 ∨ r9 = 1 := by rcases q9 with ⟨w, _⟩ | ⟨w, _⟩; exact Or.inl w; exact Or.inr w
  have hp9 : pp + 2 ≤ p9 := by rcases q9 with ⟨_, w, _⟩ | ⟨_, w, _⟩ <;> omega
  refine Rt.pz (s8.ss g9) z9 (Nat.le_of_ble_eq_true rfl) hr9 (fun S11 s11 z11 u11 => ?_)
  refine h53 S11 p9 (bb + 1) r9 1 s11 z11 (by omega) (by omega) (fun q => ?_) (Or.inr ⟨rfl, hr9, rfl⟩)
  have q5 : Zi S5 3 = 0 := by rw [← i7, ← u8.2.2.2.2.1, ← i9, ← u11.2.2.2.2.1]; exact q
  have := h5 q5
  omega
end MAU
end
-- k4.s.lean.txt
section
section GRB
variable {K : Ky} {pp s n cp : Nat} {f g : Nat → Option Nat}
/-- two rows of the same length: conditions, blocks -/
def rwB (K : Ky) (S : Sg) (ca ba cp : Nat) (f g : Nat → Option Nat) : Prop := ca ∈ ZL S ∧ ba ∈ ZL S ∧ ca ≠ ba ∧ ZF S ca = .inl (K.1 9, cp, .inr (.inr (.inr (.inr f)))) ∧ ZF S ba = .inl (K.1 10, cp, .inr (.inr (.inr (.inr g))))
theorem gb22 {S0 : Sg} {ca ba c2 b2 : Nat} (hn : n ≤ 3001) (hcp : n = cp) (hc2 : Zz S0 ≤ c2) (hb2 : Zz S0 ≤ b2) : ∀ (m j : Nat), n < j + m → j ≤ n → ∀ {S : Sg} {f2 g2 : Nat → Option Nat}, s ∈ ZL S → ZF S s = .inr (19, sxV 3 pp 0 0 0 .null .null .null .null (.ref ca) (.ref ba) .null n) → rwB K S ca ba cp f g → rwB K S c2 b2 (2 * n) f2 g2 → (ca ≠ c2 ∧ ca ≠ b2 ∧ ba ≠ c2 ∧ ba ≠ b2) → (∀ i : Nat, i < n → ∃ x y : Nat, f i = some x ∧ okO S 15 (some x) = true ∧ g i = some y ∧ okO S 14 (some y) = true) → (∀ i : Nat, i < j → f2 i = f i ∧ g2 i = g i) → (∀ i : Nat, j ≤ i → f2 i = none) → GR (fun c => c = s) S0 S → Rt (f_growBranch_22 K m S (some s) (some c2) (some b2) (nI j)) (fun S2 _ => ∃ f3 g3 : Nat → Option Nat, s ∈ ZL S2 ∧ ZF S2 s = .inr (19, sxV 3 pp 0 0 0 .null .null .null .null (.ref c2) (.ref b2) .null n) ∧ rwB K S2 c2 b2 (2 * n) f3 g3 ∧ (∀ i : Nat, i < n → f3 i = f i ∧ g3 i = g i) ∧ (∀ i : Nat, n ≤ i → f3 i = none) ∧ GR (fun c => c = s) S0 S2 ∧ Zi S2 = Zi S ∧ Zz S2 = Zz S ∧ Zn S2 = Zn S ∧ ∀ a : Nat, a ≠ s → a ≠ c2 → a ≠ b2 → ZF S2 a = ZF S a)
  | 0, j, w1, w2, _, _, _, _, _, _, _, _, _, _, _, _ => absurd w1 (by omega)
  | m + 1, j, w1, w2, S, f2, g2, he, hF, hr, hr2, hne, hy, hfg, hfn, hg => by
    obtain ⟨r1, r2, r0, r3, r4⟩ := hr
    obtain ⟨t1, t2, t0, t3, t4⟩ := hr2
    obtain ⟨n1, n2, n3, n4⟩ := hne
    have e1 : s ≠ c2 := ne_or hF t3
    have e2 : s ≠ b2 := ne_or hF t4
    unfold f_growBranch_22
    refine Rt.bd (oI_mk (v := nI n) he hF rfl) (Rt.it (fun q => ?_) (fun q => ?_))
    · have hj : j = n := by
        rcases Nat.lt_or_ge j n with w | w
        · exact absurd q (fun q => by have := (nI_leI (by omega) (by omega)).mp q; omega)
        · omega
      subst hj
      refine Rt.bd (pV_mk (v := va_rf (some c2)) he hF (Nat.le_of_ble_eq_true rfl)) (Rt.bd (pV_mk (v := va_rf (some b2)) (fs := sxV 3 pp 0 0 0 .null .null .null .null (.ref c2) (.ref ba) .null j) he ZF_s (Nat.le_of_ble_eq_true rfl)) (Rt.rt ⟨f2, g2, he, ZF_s, ⟨t1, t2, t0, ?_, ?_⟩, hfg, hfn, (hg.tr GR.uf (fun c _ q => q)).tr GR.uf (fun c _ q => q), rfl, rfl, rfl, fun a h1 _ _ => (ZF_n h1).trans (ZF_n h1)⟩))
      · exact (ZF_n (fun q => e1 q.symm)).trans ((ZF_n (fun q => e1 q.symm)).trans t3)
      · exact (ZF_n (fun q => e2 q.symm)).trans ((ZF_n (fun q => e2 q.symm)).trans t4)
    · have hj : j < n := by
        rcases Nat.lt_or_ge j n with w | w
        · exact w
        · exact absurd (nI_le w (by omega)) q
      obtain ⟨x, y, hfx, hox, hgy, hoy⟩ := hy j hj
      have hF2 : ZF (UF S c2 (.inl (K.1 9, 2 * n, .inr (.inr (.inr (.inr (va_up f2 j (some x)))))))) s = .inr (19, sxV 3 pp 0 0 0 .null .null .null .null (.ref ca) (.ref ba) .null n) := (ZF_n e1).trans hF
      refine Rt.bd (oR_mk (v := some ca) he hF rfl) (Rt.bd (aQ_n r1 r3 (show j < cp by omega) (by omega)) ?_)
      rw [hfx]
      refine Rt.bd (bQ_n t1 t3 (show j < 2 * n by omega) (by omega) hox) (Rt.bd (oR_mk (v := some ba) he hF2 rfl) (Rt.bd (aQ_n r2 ((ZF_n n3).trans r4) (show j < cp by omega) (by omega)) ?_))
      rw [hgy]
      have hk1 : ∀ {u ci : Nat} {c : vp_A}, okO S ci (some u) = true → okO (UF S c2 (.inl (K.1 9, c))) ci (some u) = true := fun {u ci c} h => by
        obtain ⟨y1, vs, y2⟩ := okO_of h
        exact okO_mk y1 ((ZF_n (ne_or y2 t3)).trans y2)
      have t4' : ∀ {c : vp_A}, ZF (UF S c2 (.inl (K.1 9, c))) b2 = .inl (K.1 10, 2 * n, .inr (.inr (.inr (.inr g2)))) := fun {c} => (ZF_n (fun q => t0 q.symm)).trans t4
      refine Rt.bd (bQ_n t2 t4' (show j < 2 * n by omega) (by omega) (hk1 hoy)) ?_
      rw [nI_1]
      have hk2 : ∀ {u ci : Nat}, okO S ci (some u) = true → okO (UF (UF S c2 (.inl (K.1 9, 2 * n, .inr (.inr (.inr (.inr (va_up f2 j (some x)))))))) b2 (.inl (K.1 10, 2 * n, .inr (.inr (.inr (.inr (va_up g2 j (some y)))))))) ci (some u) = true := fun {u ci} h => by
        obtain ⟨y1, vs, y2⟩ := okO_of (hk1 (c := (2 * n, .inr (.inr (.inr (.inr (va_up f2 j (some x))))))) h)
        exact okO_mk y1 ((ZF_n (ne_or y2 t4')).trans y2)
      refine Rt.mo (gb22 hn hcp hc2 hb2 m (j + 1) (by omega) (by omega) he ((ZF_n e2).trans hF2) ⟨r1, r2, r0, (ZF_n n2).trans ((ZF_n n1).trans r3), (ZF_n n4).trans ((ZF_n n3).trans r4)⟩ ⟨t1, t2, t0, (ZF_n t0).trans ZF_s, ZF_s⟩ ⟨n1, n2, n3, n4⟩ (fun i hi => by obtain ⟨u, v, h1, h2, h3, h4⟩ := hy i hi; exact ⟨u, v, h1, hk2 h2, h3, hk2 h4⟩) (fun i hi => ?_) (fun i hi => (va_up_ne _ _ (by omega)).trans (hfn i (by omega))) ((hg.tr GR.uf (fun c hc q => absurd q (by omega))).tr GR.uf (fun c hc q => absurd q (by omega)))) (fun S2 _ q => ?_)
      · by_cases ei : i = j
        · subst ei; exact ⟨(va_up_self _ _ _).trans hfx.symm, (va_up_self _ _ _).trans hgy.symm⟩
        · exact ⟨(va_up_ne _ _ ei).trans (hfg i (by omega)).1, (va_up_ne _ _ ei).trans (hfg i (by omega)).2⟩
      · obtain ⟨f3, g3, k1, k2, k3, k4, k5, k6, k7, k8, k9, k10⟩ := q
        exact ⟨f3, g3, k1, k2, k3, k4, k5, k6, k7, k8, k9, fun a h1 h2 h3 => by rw [k10 a h1 h2 h3, ZF_n h3, ZF_n h2]⟩
theorem gb_ {S : Sg} {ca ba : Nat} (hz : ∀ a ∈ ZL S, a < Zz S) (hn : n ≤ 3001) (hcp : n = cp) (he : s ∈ ZL S) (hF : ZF S s = .inr (19, sxV 3 pp 0 0 0 .null .null .null .null (.ref ca) (.ref ba) .null n)) (hr : rwB K S ca ba cp f g) (hy : ∀ i : Nat, i < n → ∃ x y : Nat, f i = some x ∧ okO S 15 (some x) = true ∧ g i = some y ∧ okO S 14 (some y) = true) (r1 : Zz S + 2 ≤ K.2.1) (r2 : Zn S + 4 * n ≤ K.2.2) : Rt (f_growBranch K S (some s)) (fun S2 _ => ∃ f3 g3 : Nat → Option Nat, s ∈ ZL S2 ∧ ZF S2 s = .inr (19, sxV 3 pp 0 0 0 .null .null .null .null (.ref (Zz S)) (.ref (Zz S + 1)) .null n) ∧ rwB K S2 (Zz S) (Zz S + 1) (2 * n) f3 g3 ∧ (∀ i : Nat, i < n → f3 i = f i ∧ g3 i = g i) ∧ (∀ i : Nat, n ≤ i → f3 i = none) ∧ GR (fun c => c = s) S S2 ∧ Zi S2 = Zi S ∧ Zz S2 = Zz S + 2 ∧ Zn S2 = Zn S + 4 * n ∧ ∀ a : Nat, a ≠ s → a < Zz S → ZF S2 a = ZF S a) := by
  unfold f_growBranch
  obtain ⟨t1, t2, t0, t3, t4⟩ := hr
  have hza := hz ca t1; have hzb := hz ba t2; have hzs := hz s he
  refine Rt.bd (oI_mk (v := nI n) he hF rfl) ?_
  rw [nI_2]
  refine Rt.be (nQ_ok (n := 2 * n) (by omega) ⟨by omega, by omega⟩) ?_
  refine Rt.bd (oI_mk (v := nI n) (List.mem_cons_of_mem _ he) ((updE_n (by omega)).trans hF) rfl) ?_
  rw [nI_2]
  refine Rt.be (nQ_ok (n := 2 * n) (by omega) ⟨by show Zz S + 1 + 1 ≤ _; omega, by show Zn S + 2 * n + 2 * n ≤ _; omega⟩) ?_
  have hup : ∀ {a : Nat} {c : va_E}, a ∈ ZL S → ZF S a = c → ZF (Un (Un S (.inl (K.1 9, 2 * n, .inr (.inr (.inr (.inr (fun _ => none)))))) (2 * n)) (.inl (K.1 10, 2 * n, .inr (.inr (.inr (.inr (fun _ => none)))))) (2 * n)) a = c := fun {a c} h1 h2 => by
    have := hz a h1
    exact (updE_n (by show a ≠ Zz S + 1; omega)).trans ((updE_n (by omega)).trans h2)
  have hok : ∀ {u ci : Nat}, okO S ci (some u) = true → okO (Un (Un S (.inl (K.1 9, 2 * n, .inr (.inr (.inr (.inr (fun _ => none)))))) (2 * n)) (.inl (K.1 10, 2 * n, .inr (.inr (.inr (.inr (fun _ => none)))))) (2 * n)) ci (some u) = true := fun {u ci} h => by
    obtain ⟨y1, vs, y2⟩ := okO_of h
    exact okO_mk (List.mem_cons_of_mem _ (List.mem_cons_of_mem _ y1)) (hup y1 y2)
  refine Rt.mo (gb22 (S0 := S) (c2 := Zz S) (b2 := Zz S + 1) (f2 := fun _ => none) (g2 := fun _ => none) hn hcp (Nat.le_refl _) (Nat.le_succ _) bigN 0 (by show n < 0 + 1000000000000; omega) (by omega) (List.mem_cons_of_mem _ (List.mem_cons_of_mem _ he)) (hup he hF) ⟨List.mem_cons_of_mem _ (List.mem_cons_of_mem _ t1), List.mem_cons_of_mem _ (List.mem_cons_of_mem _ t2), t0, hup t1 t3, hup t2 t4⟩ ⟨List.mem_cons_of_mem _ List.mem_cons_self, List.mem_cons_self, by omega, (updE_n (by show Zz S ≠ Zz S + 1; omega)).trans updE_s, updE_s⟩ ⟨by omega, by omega, by omega, by omega⟩ (fun i hi => by obtain ⟨u, v, h1, h2, h3, h4⟩ := hy i hi; exact ⟨u, v, h1, hok h2, h3, hok h4⟩) (fun i hi => absurd hi (by omega)) (fun _ _ => rfl) (GR.un.n GR.un)) (fun S2 _ q => ?_)
  obtain ⟨f3, g3, k1, k2, k3, k4, k5, k6, k7, k8, k9, k10⟩ := q
  exact ⟨f3, g3, k1, k2, k3, k4, k5, k6, k7, k8, k9.trans (by show Zn S + 2 * n + 2 * n = _; omega), fun a h1 h2 => (k10 a h1 (by omega) (by omega)).trans ((updE_n (by show a ≠ Zz S + 1; omega)).trans (updE_n (by omega)))⟩
end GRB
end
-- k4.t.lean.txt
section
/-- the branches of the if s that were read since S -/
def RW (K : Ky) (fk : Nat → Int32) (N : Nat) (S S1 : Sg) (s pp : Nat) (mo : Int32) (n cp q0 bb b1 vv v1 : Nat) : Prop := ∃ (f g : Nat → Option Nat) (L : List Nat) (ca ba : Nat), s ∈ ZL S1 ∧ ZF S1 s = .inr (19, sxV 3 pp 0 0 0 .null .null .null .null (.ref ca) (.ref ba) .null n) ∧ rwB K S1 ca ba cp f g ∧ (Zz S ≤ ca ∧ Zz S ≤ ba ∧ ca ∉ L ∧ ba ∉ L) ∧ (n ≤ cp ∧ 4 ≤ cp ∧ cp ≤ 4 + 2 * n) ∧ (∀ a ∈ L, Zz S ≤ a ∧ a < Zz S1) ∧ (∀ i : Nat, i < n → ∃ y : Nat, g i = some y ∧ okO S1 14 (some y) = true) ∧ (∀ i : Nat, n ≤ i → f i = none) ∧ (∀ i x : Nat, f i = some x → okO S1 15 (some x) = true) ∧ (mo ≠ 0 → ∀ i : Nat, i < n → f i ≠ none) ∧ (∀ i : Nat, i < n → f i = none → i + 1 = n) ∧ (Zi S1 3 = 0 → chJ (brP L (ZF S1) fk (K.1 9) (K.1 0) (K.1 11) (K.1 10) (K.1 7) (K.1 5) N f) g n pp q0 bb b1 vv v1)
theorem chJ_r {P : Nat → Nat → Nat → Nat → Nat → Nat → Nat → Nat → Prop} {f f2 : Nat → Option Nat} {n p q b c v w : Nat} (hs : ∀ i : Nat, i < n → f2 i = f i) (h : chJ P f n p q b c v w) : chJ P f2 n p q b c v w := by
  obtain ⟨ps, bs, vs, h1, h2, h3, h4, h5, h6, h7⟩ := h
  refine ⟨ps, bs, vs, h1, h2, h3, h4, h5, h6, fun i hi => ?_⟩
  obtain ⟨x, g1, g2⟩ := h7 i hi
  exact ⟨x, (hs i hi).trans g1, g2⟩
theorem RW.ss {K : Ky} {fk : Nat → Int32} {N : Nat} {S S1 S2 : Sg} {s pp : Nat} {mo : Int32} {n cp q0 bb b1 vv v1 : Nat} (h : RW K fk N S S1 s pp mo n cp q0 bb b1 vv v1) (g : SS S1 S2) : RW K fk N S S2 s pp mo n cp q0 bb b1 vv v1 := by
  obtain ⟨f, g0, L, ca, ba, h1, h2, ⟨t1, t2, t0, t3, t4⟩, h4, h5, h11, h12, h13, h14, h15, h16, h17⟩ := h
  have hok : ∀ {u ci : Nat}, okO S1 ci (some u) = true → okO S2 ci (some u) = true := fun {u ci} h => by
    obtain ⟨u1, vs, u2⟩ := okO_of h
    exact okO_mk (by rw [g.2.2.1]; exact u1) (by rw [g.2.1]; exact u2)
  exact ⟨f, g0, L, ca, ba, by rw [g.2.2.1]; exact h1, by rw [g.2.1]; exact h2, ⟨by rw [g.2.2.1]; exact t1, by rw [g.2.2.1]; exact t2, t0, by rw [g.2.1]; exact t3, by rw [g.2.1]; exact t4⟩, h4, h5, by rw [g.2.2.2.1]; exact h11, fun i hi => by obtain ⟨y, y1, y2⟩ := h12 i hi; exact ⟨y, y1, hok y2⟩, h13, fun i x hx => hok (h14 i x hx), h15, h16, fun q => by rw [g.2.1]; exact h17 (g.1.2.2.2.2.2 q)⟩
section BRA
variable {K : Ky} {T : Nat} {V : Sg → Option (Sg × Option Nat)} {d pp ns bb vv s : Nat} {S : Sg}
/-- if -/
theorem br23 (hV : HVb K T V d) (hs : Zz S = s + 1) (hn16 : ns ≤ 16) (hd : 18 ≤ ns + d) (r1 : Zz S + 8 * (T - pp) + 14 ≤ K.2.1) (r2 : Zn S + 120 * (T - pp) + 480 ≤ K.2.2) : ∀ (m : Nat) {S1 : Sg} {p1 b1 v1 n cp q0 cm : Nat} {mo : Int32}, 1 ≤ m → (Zi S1 3 = 0 → T + 1 ≤ p1 + m) → (pp ≤ p1 ∧ bb ≤ b1 ∧ b1 ≤ bb + (p1 - pp)) → RW K (Zr S 5) (2 * (16 - ns) + 1) S S1 s pp mo n cp q0 bb b1 vv v1 → GR (fun c => c = s) S S1 → RZ S1 T p1 ns v1 b1 → Zz S1 ≤ Zz S + 8 * (p1 - pp) + 6 → Zn S1 ≤ Zn S + 120 * (p1 - pp) + 96 → (Zi S1 3 = 0 → pp + n + cm ≤ p1 ∧ b1 ≤ 54 ∧ v1 ≤ 40 ∧ Zz S1 + 6 * n + 8 * cm ≤ Zz S + 2 + 8 * (p1 - pp) ∧ Zn S1 + 100 * n + 120 * cm + 8 ≤ Zn S + 120 * (p1 - pp) + 4 * cp ∧ ((mo = 0 ∧ q0 = p1 ∧ 1 ≤ n) ∨ (mo ≠ 0 ∧ q0 ≤ p1 ∧ (n = 0 ∨ cm = 1)))) → Rt (f_branch_23 K V m S1 (some s) mo) (fun S2 _ => SP K T S pp ns vv bb s S2)
  | 0, _, _, _, _, _, _, _, _, _, h, _, _, _, _, _, _, _, _ => absurd h (by omega)
  | m + 1, S1, p1, b1, v1, n, cp, q0, cm, mo, _, hm, hp, hB, hg, z1, k1, k2, k3 => by
    have hT1 := z1.1.2.1; have hT := z1.1.2.2.1
    obtain ⟨f, g, L, ca, ba, h1, h2, h3, ⟨h4, h5, h6, h7⟩, ⟨h8, h9, h10⟩, h11, h12, h13, h14, h15, h16, h17⟩ := hB
    have h01 := hg.2.2.2.2.1.1
    have hsz := z1.2.2.2.2 _ h1
    have s1 : St (fun c => c = s) S S1 s (.inr (19, sxV 3 pp 0 0 0 .null .null .null .null (.ref ca) (.ref ba) .null n)) (8 * (p1 - pp) + 6) (120 * (p1 - pp) + 96) := ⟨hg, fun _ => rfl, h1, h2, k1, k2⟩
    have hend : (Zi S1 3 = 0 → mo = 0) → Rt (f_branch_119 K V S1) (fun S2 _ => SP K T S pp ns vv bb s S2) := fun hmo => by
      unfold f_branch_119
      refine Rt.rt ⟨p1, v1, b1, _, z1, s1, hp, fun q => ?_⟩
      obtain ⟨c1, c2, c3, c4, c5, c6⟩ := k3 q
      obtain ⟨c7, c8, c9⟩ := c6.resolve_right (fun w => w.1 (hmo q))
      subst c8
      obtain ⟨t1, t2, t0, t3, t4⟩ := h3
      have hx : exS L (ZF S1) (iv s (Zz S1)) (ZF S1) := fun a ha => ⟨iv_m.mpr ⟨by have := (h11 a ha).1; omega, (h11 a ha).2⟩, rfl⟩
      exact ⟨by omega, by omega, c2, c3, by omega, isN_R (n := 2 * (16 - ns) + 1) (iv_m.mpr ⟨Nat.le_refl _, hsz⟩) (by omega) h2 c9 h8 (iv_m.mpr ⟨by omega, z1.2.2.2.2 _ t1⟩) (iv_m.mpr ⟨by omega, z1.2.2.2.2 _ t2⟩) t3 t4 h16 (chJ_im (fun i y p1 q1 b1 c1 v1 w1 _ z => brP_im hx (Nat.le_refl _) rfl z) (h17 q))⟩
    unfold f_branch_23
    refine Rt.ok (fun q1 => Rt.it (fun e => hend (fun _ => e)) (fun hmo => ?_)) (fun q1 => hend (fun q => absurd q q1))
    obtain ⟨c1, c2, c3, c4, c5, c6⟩ := k3 q1
    obtain ⟨_, c7, c8⟩ := c6.resolve_left (fun w => hmo w.1)
    have hm1 := hm q1
    have hch := h17 q1
    -- with room in the rows
    have hgo : ∀ (S5 : Sg) (cc bc cq : Nat) (f5 g5 : Nat → Option Nat), s ∈ ZL S5 → ZF S5 s = .inr (19, sxV 3 pp 0 0 0 .null .null .null .null (.ref cc) (.ref bc) .null n) → rwB K S5 cc bc cq f5 g5 → (Zz S ≤ cc ∧ Zz S ≤ bc ∧ cc ∉ L ∧ bc ∉ L) → n < cq → 4 ≤ cq → cq ≤ 4 + 2 * n → cp ≤ cq → (∀ i : Nat, i < n → f5 i = f i ∧ g5 i = g i) → (∀ i : Nat, n ≤ i → f5 i = none) → GR (fun c => c = s) S1 S5 → Zi S5 = Zi S1 → Zz S5 ≤ Zz S1 + 2 → (n = 0 → Zz S5 = Zz S1) → Zn S5 + 4 * cp ≤ Zn S1 + 4 * cq → (∀ a : Nat, a ≠ s → a ≠ cc → a ≠ bc → a < Zz S1 → ZF S5 a = ZF S1 a) → Rt (f_branch_50 K V (f_branch_23 K V m) S5 (some s)) (fun S2 _ => SP K T S pp ns vv bb s S2) := fun S5 cc bc cq f5 g5 w1 w2 w3 w4 w5 w6 w7 w8 w9 w10 w11 w12 w13 w13' w14 w15 => by
      have z5 : RZ S5 T p1 ns v1 b1 := ⟨⟨by rw [w12]; exact z1.1.1, z1.1.2.1, z1.1.2.2.1, by rw [w11.2.1.1]; exact z1.1.2.2.2⟩, by rw [w12]; exact z1.2.1, by rw [w12]; exact z1.2.2.1, by rw [w12]; exact z1.2.2.2.1, w11.lt z1.2.2.2.2⟩
      have hg5 : GR (fun c => c = s) S S5 := hg.tr w11 (fun _ _ q => q)
      have h15' := w11.2.2.2.2.1.1
      have hLc : ∀ a ∈ L, a ≠ s ∧ a ≠ cc ∧ a ≠ bc ∧ a < Zz S1 := fun a ha => ⟨by have := (h11 a ha).1; omega, fun w => w4.2.2.1 (w ▸ ha), fun w => w4.2.2.2 (w ▸ ha), (h11 a ha).2⟩
      have hL5 : exS L (ZF S1) L (ZF S5) := fun a ha => ⟨ha, w15 a (hLc a ha).1 (hLc a ha).2.1 (hLc a ha).2.2.1 (hLc a ha).2.2.2⟩
      -- objects of the store stay
      have hok5 : ∀ {u ci : Nat}, okO S1 ci (some u) = true → ci ≠ 19 → okO S5 ci (some u) = true := fun {u ci} h hci => by
        obtain ⟨u1, vs, u2⟩ := okO_of h
        have hus : u ≠ s := fun w => by rw [w, h2] at u2; cases u2; exact hci rfl
        exact okO_mk (w11.in u1) ((w11.2.2.1 u (z1.2.2.2.2 u u1) hus).trans u2)
      -- the block of the branch
      have h74 : ∀ (S8 : Sg) (p8 b8 : Nat) (f8 : Nat → Option Nat) (L8 : List Nat) (x3 : Int32), s ∈ ZL S8 → ZF S8 s = .inr (19, sxV 3 pp 0 0 0 .null .null .null .null (.ref cc) (.ref bc) .null n) → rwB K S8 cc bc cq f8 g5 → (cc ∉ L8 ∧ bc ∉ L8) → (∀ a ∈ L8, Zz S ≤ a ∧ a < Zz S8) → (∀ i : Nat, i < n → f8 i = f i) → (∀ i : Nat, n < i → f8 i = none) → (∀ i x : Nat, f8 i = some x → okO S8 15 (some x) = true) → (∀ i : Nat, i < n → ∃ y : Nat, g5 i = some y ∧ okO S8 14 (some y) = true) → GR (fun c => c = s) S S8 → RZ S8 T p8 ns v1 b8 → (p1 ≤ p8 ∧ b1 ≤ b8 ∧ b8 ≤ bb + (p8 - pp)) → ((x3 = 0 ∧ Zi S8 3 = Zi S1 3) ∨ (x3 ≠ 0 ∧ f8 n ≠ none)) → Zz S8 ≤ Zz S5 + 8 * (p8 - p1) → Zn S8 ≤ Zn S5 + 120 * (p8 - p1) → (Zi S8 3 = 0 → b8 ≤ 54 ∧ chJ (brP L8 (ZF S8) (Zr S 5) (K.1 9) (K.1 0) (K.1 11) (K.1 10) (K.1 7) (K.1 5) (2 * (16 - ns) + 1) f8) g5 n pp q0 bb b1 vv v1 ∧ ((f8 n = none ∧ b8 = b1) ∨ ∃ x p' q' : Nat, f8 n = some x ∧ q0 < p' ∧ q' ≤ p8 ∧ isE L8 (ZF S8) (K.1 9) (K.1 0) 408 16 x p' q' b1 b8)) → Rt (f_branch_74 K V (f_branch_23 K V m) S8 (some s) x3) (fun S2 _ => SP K T S pp ns vv bb s S2) := fun S8 p8 b8 f8 L8 x3 y1 y2 y3 y4 y5 y6 y7 y8 y9 y10 z8 y11 y12 y13 y14 y15 => by
        have hT8 := z8.1.2.1
        obtain ⟨t1, t2, t0, t3, t4⟩ := y3
        unfold f_branch_74
        refine Rt.bd (oR_mk (v := some bc) y1 y2 rfl) (Rt.bd (oI_mk (v := nI n) y1 y2 rfl) ?_)
        refine Rt.bn (hV S8 p8 ns v1 b8 z8 (fun q => ⟨(y15 q).1, c3⟩) (by omega) (fun _ => ⟨hn16, hd⟩) (by omega) (by omega)) (fun S9 r9 q9 => ?_)
        obtain ⟨p9, v9, b9, y, e9, z9, g9, a1, a2, a3, a4, a5⟩ := q9
        subst e9
        have hT9 := z9.1.2.1
        have hs8 := z8.2.2.2.2 _ y1; have hc8 := z8.2.2.2.2 _ t1; have hb8 := z8.2.2.2.2 _ t2
        have h89 := g9.2.2.2.2.1.1; have h08 := y10.2.2.2.2.1.1
        have hs9 : ZF S9 s = .inr (19, sxV 3 pp 0 0 0 .null .null .null .null (.ref cc) (.ref bc) .null n) := (g9.2.2.1 s hs8 (fun q => q)).trans y2
        have hc9 : ZF S9 cc = .inl (K.1 9, cq, .inr (.inr (.inr (.inr f8)))) := (g9.2.2.1 cc hc8 (fun q => q)).trans t3
        have hb9 : ZF S9 bc = .inl (K.1 10, cq, .inr (.inr (.inr (.inr g5)))) := (g9.2.2.1 bc hb8 (fun q => q)).trans t4
        have e1 : s ≠ bc := ne_or y2 t4
        have e2 : s ≠ cc := ne_or y2 t3
        have hyo : okO S9 14 (some y) = true := by
          obtain ⟨vs, hv⟩ := a4.2.2
          exact okO_mk ((g9.2.2.2.1 y).mpr (Or.inr ⟨a4.1, a4.2.1⟩)) hv
        refine Rt.bd (bQ_n (g9.in t2) hb9 w5 (by omega) hyo) ?_
        refine Rt.bd (oI_mk (S := UF S9 bc _) (v := nI n) (g9.in y1) ((ZF_n e1).trans hs9) rfl) ?_
        rw [nI_1]
        refine Rt.bd (pV_mk (S := UF S9 bc _) (v := .int (nI (n + 1))) (g9.in y1) ((ZF_n e1).trans hs9) (Nat.le_of_ble_eq_true rfl)) ?_
        have hg11 : GR (fun c => c = s) S (UF (UF S9 bc (.inl (K.1 10, cq, .inr (.inr (.inr (.inr (va_up g5 n (some y)))))))) s (.inr (19, sxV 3 pp 0 0 0 .null .null .null .null (.ref cc) (.ref bc) .null (n + 1)))) := ((y10.n g9).tr GR.uf (fun c hc q => absurd q (by have := w4.2.1; omega))).tr GR.uf (fun c _ q => q)
        have hcl : ∀ a : Nat, a ≠ s → a ≠ bc → ZF (UF (UF S9 bc (.inl (K.1 10, cq, .inr (.inr (.inr (.inr (va_up g5 n (some y)))))))) s (.inr (19, sxV 3 pp 0 0 0 .null .null .null .null (.ref cc) (.ref bc) .null (n + 1)))) a = ZF S9 a := fun a h1 h2 => by rw [ZF_n h1, ZF_n h2]
        have hx1 : exS L8 (ZF S8) (L8 ++ iv (Zz S8) (Zz S9)) (ZF (UF (UF S9 bc (.inl (K.1 10, cq, .inr (.inr (.inr (.inr (va_up g5 n (some y)))))))) s (.inr (19, sxV 3 pp 0 0 0 .null .null .null .null (.ref cc) (.ref bc) .null (n + 1))))) := fun a ha => ⟨List.mem_append_left _ ha, by rw [hcl a (by have := (y5 a ha).1; omega) (fun w => y4.2 (w ▸ ha)), g9.2.2.1 a (y5 a ha).2 (fun q => q)]⟩
        have hx2 : exS (iv (Zz S8) (Zz S9)) (ZF S9) (L8 ++ iv (Zz S8) (Zz S9)) (ZF (UF (UF S9 bc (.inl (K.1 10, cq, .inr (.inr (.inr (.inr (va_up g5 n (some y)))))))) s (.inr (19, sxV 3 pp 0 0 0 .null .null .null .null (.ref cc) (.ref bc) .null (n + 1))))) := fun a ha => ⟨List.mem_append_right _ ha, hcl a (by have := (iv_m.mp ha).1; omega) (by have := (iv_m.mp ha).1; omega)⟩
        have key : ∀ {u ci : Nat}, okO S9 ci (some u) = true → ci ≠ 19 → okO (UF (UF S9 bc (.inl (K.1 10, cq, .inr (.inr (.inr (.inr (va_up g5 n (some y)))))))) s (.inr (19, sxV 3 pp 0 0 0 .null .null .null .null (.ref cc) (.ref bc) .null (n + 1)))) ci (some u) = true := fun {u ci} h hci => by
          obtain ⟨u1, vs, u2⟩ := okO_of h
          exact okO_mk u1 ((hcl u (fun w => by rw [w, hs9] at u2; cases u2; exact hci rfl) (ne_or u2 hb9)).trans u2)
        have key8 : ∀ {u ci : Nat}, okO S8 ci (some u) = true → okO S9 ci (some u) = true := fun {u ci} h => by
          obtain ⟨u1, vs, u2⟩ := okO_of h
          exact okO_mk (g9.in u1) ((g9.2.2.1 u (z8.2.2.2.2 u u1) (fun q => q)).trans u2)
        -- the new state, for any way on
        have hRW : ∀ mo2 : Int32, (mo2 ≠ 0 → f8 n ≠ none) → RW K (Zr S 5) (2 * (16 - ns) + 1) S (UF (UF S9 bc (.inl (K.1 10, cq, .inr (.inr (.inr (.inr (va_up g5 n (some y)))))))) s (.inr (19, sxV 3 pp 0 0 0 .null .null .null .null (.ref cc) (.ref bc) .null (n + 1)))) s pp mo2 (n + 1) cq p9 bb b9 vv v9 := fun mo2 hmo2 => by
          refine ⟨f8, va_up g5 n (some y), L8 ++ iv (Zz S8) (Zz S9), cc, bc, g9.in y1, ZF_s, ⟨g9.in t1, g9.in t2, t0, (hcl cc (fun q => e2 q.symm) t0).trans hc9, (ZF_n (fun q => e1 q.symm)).trans ZF_s⟩, ⟨w4.1, w4.2.1, fun q => ?_, fun q => ?_⟩, ⟨by omega, w6, by omega⟩, fun a ha => ?_, fun i hi => ?_, fun i hi => y7 i (by omega), fun i u hu => key (key8 (y8 i u hu)) (by decide), fun hne i hi => ?_, fun i hi hnone => ?_, fun q => ?_⟩
          · rcases List.mem_append.mp q with w | w
            · exact y4.1 w
            · have := (iv_m.mp w).1; omega
          · rcases List.mem_append.mp q with w | w
            · exact y4.2 w
            · have := (iv_m.mp w).1; omega
          · rcases List.mem_append.mp ha with w | w
            · exact ⟨(y5 a w).1, show a < Zz S9 by have := (y5 a w).2; omega⟩
            · have := iv_m.mp w; exact ⟨by omega, this.2⟩
          · by_cases ei : i = n
            · subst ei; exact ⟨y, va_up_self _ _ _, key hyo (by decide)⟩
            · obtain ⟨u, u1, u2⟩ := y9 i (by omega)
              exact ⟨u, (va_up_ne _ _ ei).trans u1, key (key8 u2) (by decide)⟩
          · by_cases ei : i = n
            · subst ei; exact hmo2 hne
            · rw [y6 i (by omega)]; exact h15 hmo i (by omega)
          · by_cases ei : i = n
            · omega
            · rw [y6 i (by omega)] at hnone; exact absurd hnone (h15 hmo i (by omega))
          · have q8 : Zi S8 3 = 0 := g9.2.2.2.2.2 q
            obtain ⟨d1, d2, d3⟩ := y15 q8
            obtain ⟨d4, d5, d6, d7, d8⟩ := a5 q
            rw [show Zr S8 5 = Zr S 5 by rw [y10.2.1.1]] at d8
            refine chJ_add (chJ_im (fun i y p1 q1 b1 c1 v1 w1 _ z => brP_im hx1 (Nat.le_refl _) rfl z) d2) (fun i hi => va_up_ne _ _ (by omega)) (va_up_self _ _ _) ⟨p8, b8, ?_, by omega, isS_im hx2 _ (Nat.le_refl _) d8⟩
            rcases d3 with d3 | ⟨x, p', q', d9, d10, d11, d12⟩
            · exact Or.inl d3
            · exact Or.inr ⟨x, p', q', d9, d10, d11, isE_im hx1 _ (Nat.le_refl _) d12⟩
        have hgood : Zi S9 3 = 0 → p8 < p9 ∧ b9 ≤ 54 ∧ v9 ≤ 40 ∧ Zz S9 + 8 ≤ Zz S8 + 8 * (p9 - p8) ∧ Zn S9 + 100 ≤ Zn S8 + 120 * (p9 - p8) := fun q => by
          obtain ⟨d4, d5, d6, d7, d8⟩ := a5 q
          exact ⟨(isN_lt d8).2, d6, d7, d4, d5⟩
        unfold f_branch_115 f_branch_114 f_branch_115
        have hz11 : Zz (UF (UF S9 bc (.inl (K.1 10, cq, .inr (.inr (.inr (.inr (va_up g5 n (some y)))))))) s (.inr (19, sxV 3 pp 0 0 0 .null .null .null .null (.ref cc) (.ref bc) .null (n + 1)))) = Zz S9 := rfl
        have hn11 : Zn (UF (UF S9 bc (.inl (K.1 10, cq, .inr (.inr (.inr (.inr (va_up g5 n (some y)))))))) s (.inr (19, sxV 3 pp 0 0 0 .null .null .null .null (.ref cc) (.ref bc) .null (n + 1)))) = Zn S9 := rfl
        have hbad1 : Zz S9 ≤ Zz S + 8 * (p9 - pp) + 6 := by rcases Nat.eq_zero_or_pos n with w | w; have := w13' w; omega; omega
        have hbad2 : Zn S9 ≤ Zn S + 120 * (p9 - pp) + 96 := by omega
        have hgo2 : ∀ (S12 : Sg) (p12 cm2 : Nat) (mo2 : Int32), SS (UF (UF S9 bc (.inl (K.1 10, cq, .inr (.inr (.inr (.inr (va_up g5 n (some y)))))))) s (.inr (19, sxV 3 pp 0 0 0 .null .null .null .null (.ref cc) (.ref bc) .null (n + 1)))) S12 → RZ S12 T p12 ns v9 b9 → p12 = p9 + cm2 → (Zi S12 3 = 0 → Zi S9 3 = 0) → ((mo2 = 0 ∧ cm2 = 0) ∨ (mo2 ≠ 0 ∧ cm2 = 1 ∧ f8 n ≠ none)) → Rt (f_branch_23 K V m S12 (some s) mo2) (fun S2 _ => SP K T S pp ns vv bb s S2) := fun S12 p12 cm2 mo2 g12 z12 hp12 hi12 hmo2 => by
          have x1 : Zz S12 = Zz S9 := g12.2.2.2.1
          have x2 : Zn S12 = Zn S9 := g12.2.2.2.2
          refine br23 hV hs hn16 hd r1 r2 m (cm := cm2) (by omega) (fun q => ?_) (by omega) ((hRW mo2 (fun w => (hmo2.resolve_left (fun u => w u.1)).2.2)).ss g12) (hg11.n g12.1) z12 (by omega) (by omega) (fun q => ?_)
          · have := hgood (hi12 q); omega
          · obtain ⟨d1, d2, d3, d4, d5⟩ := hgood (hi12 q)
            refine ⟨by omega, d2, d3, by omega, by omega, ?_⟩
            rcases hmo2 with ⟨u1, u2⟩ | ⟨u1, u2, _⟩
            · exact Or.inl ⟨u1, by omega, by omega⟩
            · exact Or.inr ⟨u1, by omega, Or.inr u2⟩
        have z11 : RZ (UF (UF S9 bc (.inl (K.1 10, cq, .inr (.inr (.inr (.inr (va_up g5 n (some y)))))))) s (.inr (19, sxV 3 pp 0 0 0 .null .null .null .null (.ref cc) (.ref bc) .null (n + 1)))) T p9 ns v9 b9 := z9
        refine Rt.it (fun _ => hgo2 _ p9 0 0 SS.rf z11 (by omega) id (Or.inl ⟨rfl, rfl⟩)) (fun hx3 => ?_)
        have hfn : f8 n ≠ none := (y12.resolve_left (fun u => hx3 u.1)).2
        refine Rt.bn (takes_ z11 (by decide)) (fun S12 r12 q12 => ?_)
        obtain ⟨p12, z12, g12, i12, q12⟩ := q12
        rcases q12 with ⟨u1, u2, _⟩ | ⟨u1, u2, _⟩
        · subst u1 u2
          exact Rt.ip rfl (hgo2 S12 _ 0 0 g12 z12 (by omega) (fun q => by rw [i12] at q; exact q) (Or.inl ⟨rfl, rfl⟩))
        · subst u1 u2
          exact Rt.iq (by decide) (hgo2 S12 _ 1 1 g12 z12 rfl (fun q => by rw [i12] at q; exact q) (Or.inr ⟨by decide, rfl, hfn⟩))
      -- its condition
      unfold f_branch_50
      refine Rt.bn (takes_ z5 (by decide)) (fun S6 r6 q6 => ?_)
      obtain ⟨p6, z6, g6, i6, q6⟩ := q6
      have hok6 : ∀ {u ci : Nat}, okO S5 ci (some u) = true → okO S6 ci (some u) = true := fun {u ci} h => by
        obtain ⟨u1, vs, u2⟩ := okO_of h
        exact okO_mk (by rw [g6.2.2.1]; exact u1) (by rw [g6.2.1]; exact u2)
      obtain ⟨t1, t2, t0, t3, t4⟩ := w3
      have hs6 : s ∈ ZL S6 := by rw [g6.2.2.1]; exact w1
      have hF6 : ZF S6 s = .inr (19, sxV 3 pp 0 0 0 .null .null .null .null (.ref cc) (.ref bc) .null n) := by rw [g6.2.1]; exact w2
      have hc6 : cc ∈ ZL S6 := by rw [g6.2.2.1]; exact t1
      have hb6 : bc ∈ ZL S6 := by rw [g6.2.2.1]; exact t2
      have hC6 : ZF S6 cc = .inl (K.1 9, cq, .inr (.inr (.inr (.inr f5)))) := by rw [g6.2.1]; exact t3
      have hB6 : ZF S6 bc = .inl (K.1 10, cq, .inr (.inr (.inr (.inr g5)))) := by rw [g6.2.1]; exact t4
      have x1 := g6.2.2.2.1; have x2 := g6.2.2.2.2
      have hg6 := hg5.n g6.1
      have hf5 : ∀ i x : Nat, f5 i = some x → okO S5 15 (some x) = true := fun i x hx => by
        rcases Nat.lt_or_ge i n with w | w
        · rw [(w9 i w).1] at hx; exact hok5 (h14 i x hx) (by decide)
        · rw [w10 i w] at hx; cases hx
      have hg5y : ∀ i : Nat, i < n → ∃ y : Nat, g5 i = some y ∧ okO S6 14 (some y) = true := fun i hi => by
        obtain ⟨y, y1, y2⟩ := h12 i hi
        exact ⟨y, (w9 i hi).2.trans y1, hok6 (hok5 y2 (by decide))⟩
      have hL6 : exS L (ZF S1) L (ZF S6) := fun a ha => ⟨ha, by rw [g6.2.1]; exact (hL5 a ha).2⟩
      rcases q6 with ⟨u1, u2, _⟩ | ⟨u1, u2, u3, _⟩
      · subst u1 u2
        refine Rt.ip rfl (h74 S6 _ b1 f5 L 0 hs6 hF6 ⟨hc6, hb6, t0, hC6, hB6⟩ ⟨w4.2.2.1, w4.2.2.2⟩ (fun a ha => ⟨(h11 a ha).1, by have := (h11 a ha).2; omega⟩) (fun i hi => (w9 i hi).1) (fun i hi => w10 i (by omega)) (fun i x hx => hok6 (hf5 i x hx)) hg5y hg6 z6 (by omega) (Or.inl ⟨rfl, by rw [i6, w12]⟩) (by omega) (by omega) (fun q => ⟨c2, ?_, Or.inl ⟨w10 n (Nat.le_refl _), rfl⟩⟩))
        exact chJ_im (fun i y p1 q1 b1 c1 v1 w1 hi z => brP_im hL6 (Nat.le_refl _) (w9 i hi).1 z) (chJ_r (fun i hi => (w9 i hi).2) hch)
      · subst u1 u2
        have hT6 := z6.1.2.1
        refine Rt.iq (by decide) (Rt.bd (oR_mk (v := some cc) hs6 hF6 rfl) (Rt.bd (oI_mk (v := nI n) hs6 hF6 rfl) (Rt.bn (ex140 z6 (fun _ => c2) (fun _ => hn16) (by omega) (by omega)) (fun S7 r7 q7 => ?_))))
        obtain ⟨p7, b7, x, e7, z7, g7, a1, a2, a3, a4, a5⟩ := q7
        subst e7
        have hsz6 := z6.2.2.2.2 _ hs6; have hcz6 := z6.2.2.2.2 _ hc6; have hbz6 := z6.2.2.2.2 _ hb6
        have h67 := g7.2.2.2.2.1.1; have h06 := hg6.2.2.2.2.1.1
        have hC7 : ZF S7 cc = .inl (K.1 9, cq, .inr (.inr (.inr (.inr f5)))) := (g7.2.2.1 cc hcz6 (fun q => q)).trans hC6
        have hB7 : ZF S7 bc = .inl (K.1 10, cq, .inr (.inr (.inr (.inr g5)))) := (g7.2.2.1 bc hbz6 (fun q => q)).trans hB6
        have hF7 : ZF S7 s = .inr (19, sxV 3 pp 0 0 0 .null .null .null .null (.ref cc) (.ref bc) .null n) := (g7.2.2.1 s hsz6 (fun q => q)).trans hF6
        have e2 : s ≠ cc := ne_or hF7 hC7
        have hxo : okO S7 15 (some x) = true := by
          obtain ⟨vs, hv⟩ := a4.2.2
          exact okO_mk ((g7.2.2.2.1 x).mpr (Or.inr ⟨a4.1, a4.2.1⟩)) hv
        have hok7 : ∀ {u ci : Nat}, okO S6 ci (some u) = true → okO S7 ci (some u) = true := fun {u ci} h => by
          obtain ⟨u1, vs, u2⟩ := okO_of h
          exact okO_mk (g7.in u1) ((g7.2.2.1 u (z6.2.2.2.2 u u1) (fun q => q)).trans u2)
        have hok8 : ∀ {u ci : Nat} {c : vp_A}, okO S7 ci (some u) = true → okO (UF S7 cc (.inl (K.1 9, c))) ci (some u) = true := fun {u ci c} h => by
          obtain ⟨u1, vs, u2⟩ := okO_of h
          exact okO_mk u1 ((ZF_n (ne_or u2 hC7)).trans u2)
        refine Rt.bd (bQ_n (g7.in hc6) hC7 w5 (by omega) hxo) ?_
        have hcl : ∀ a : Nat, a ≠ cc → ZF (UF S7 cc (.inl (K.1 9, cq, .inr (.inr (.inr (.inr (va_up f5 n (some x)))))))) a = ZF S7 a := fun a h => ZF_n h
        have hx1 : exS L (ZF S1) (L ++ iv (Zz S6) (Zz S7)) (ZF (UF S7 cc (.inl (K.1 9, cq, .inr (.inr (.inr (.inr (va_up f5 n (some x))))))))) := fun a ha => ⟨List.mem_append_left _ ha, by rw [hcl a (hLc a ha).2.1, g7.2.2.1 a (by have := (hLc a ha).2.2.2; omega) (fun q => q)]; exact (hL6 a ha).2⟩
        have hx2 : exS (iv (Zz S6) (Zz S7)) (ZF S7) (L ++ iv (Zz S6) (Zz S7)) (ZF (UF S7 cc (.inl (K.1 9, cq, .inr (.inr (.inr (.inr (va_up f5 n (some x))))))))) := fun a ha => ⟨List.mem_append_right _ ha, hcl a (by have := (iv_m.mp ha).1; omega)⟩
        refine h74 _ p7 b7 (va_up f5 n (some x)) (L ++ iv (Zz S6) (Zz S7)) 1 (g7.in hs6) ((ZF_n e2).trans hF7) ⟨g7.in hc6, g7.in hb6, t0, ZF_s, (ZF_n (fun q => t0 q.symm)).trans hB7⟩ ⟨fun q => ?_, fun q => ?_⟩ (fun a ha => ?_) (fun i hi => (va_up_ne _ _ (by omega)).trans (w9 i hi).1) (fun i hi => (va_up_ne _ _ (by omega)).trans (w10 i (by omega))) (fun i u hu => ?_) (fun i hi => by obtain ⟨y, y1, y2⟩ := hg5y i hi; exact ⟨y, y1, hok8 (hok7 y2)⟩) ((hg6.n g7).tr GR.uf (fun c hc q => absurd q (by have := w4.1; omega))) z7.uf (by omega) (Or.inr ⟨by decide, by rw [va_up_self]; exact fun q => nomatch q⟩) (show Zz S7 ≤ _ by omega) (show Zn S7 ≤ _ by omega) (fun q => ?_)
        · rcases List.mem_append.mp q with w | w
          · exact w4.2.2.1 w
          · have := (iv_m.mp w).1; omega
        · rcases List.mem_append.mp q with w | w
          · exact w4.2.2.2 w
          · have := (iv_m.mp w).1; omega
        · rcases List.mem_append.mp ha with w | w
          · exact ⟨(h11 a w).1, show a < Zz S7 by have := (h11 a w).2; omega⟩
          · have := iv_m.mp w; exact ⟨by omega, this.2⟩
        · by_cases ei : i = n
          · subst ei; rw [va_up_self] at hu; cases hu; exact hok8 hxo
          · rw [va_up_ne _ _ ei] at hu; exact hok8 (hok7 (hok6 (hf5 i u hu)))
        · obtain ⟨d1, d2⟩ := a5 q
          exact ⟨d1, chJ_im (fun i y p1 q1 b1 c1 v1 w1 hi z => brP_im hx1 (Nat.le_refl _) ((va_up_ne _ _ (by omega)).trans (w9 i hi).1) z) (chJ_r (fun i hi => (w9 i hi).2) hch), Or.inr ⟨x, p1 + 1, p7, va_up_self _ _ _, by omega, Nat.le_refl _, isE_im hx2 _ (Nat.le_refl _) d2⟩⟩
    obtain ⟨t1, t2, t0, t3, t4⟩ := h3
    refine Rt.bd (oI_mk (v := nI n) h1 h2 rfl) (Rt.bd (oR_mk (v := some ba) h1 h2 rfl) (Rt.bd (v := nI cp) ?_ ?_))
    · unfold aLn
      rw [aC_mk t2 t4]; exact if_pos rfl
    refine Rt.it (fun q => ?_) (fun q => ?_)
    · have hcn : n = cp := (nI_eq (by omega) (by omega)).mp q
      refine Rt.bn (gb_ (f := f) (g := g) z1.2.2.2.2 (by omega) hcn h1 h2 ⟨t1, t2, t0, t3, t4⟩ (fun i hi => ?_) (by omega) (by omega)) (fun S5 _ q5 => ?_)
      · obtain ⟨y, y1, y2⟩ := h12 i hi
        cases ef : f i with
        | none => exact absurd ef (h15 hmo i hi)
        | some x => exact ⟨x, y, rfl, h14 i x ef, y1, y2⟩
      · obtain ⟨f3, g3, x1, x2, x3, x4, x5, x6, x7, x8, x9, x10⟩ := q5
        exact hgo S5 (Zz S1) (Zz S1 + 1) (2 * n) f3 g3 x1 x2 x3 ⟨h01, by omega, fun w => by have := (h11 _ w).2; omega, fun w => by have := (h11 _ w).2; omega⟩ (by omega) (by omega) (by omega) (by omega) x4 x5 x6 x7 (by omega) (fun w => by omega) (by omega) (fun a e1 _ _ e4 => x10 a e1 e4)
    · have hlt : n < cp := by
        rcases Nat.lt_or_ge n cp with w | w
        · exact w
        · exact absurd (by rw [show n = cp by omega]) q
      exact hgo S1 ca ba cp f g h1 h2 ⟨t1, t2, t0, t3, t4⟩ ⟨h4, h5, h6, h7⟩ hlt h9 h10 (Nat.le_refl _) (fun _ _ => ⟨rfl, rfl⟩) h13 GR.rf rfl (by omega) (fun _ => rfl) (Nat.le_refl _) (fun _ _ _ _ _ => rfl)
theorem bra_ (hV : HVb K T V d) (h : RZ S T pp ns vv bb) (hs : Zz S = s + 1) (he : s ∈ ZL S) (hF : ZF S s = .inr (19, sxV 0 pp 0 0 0 .null .null .null .null .null .null .null 0)) (q0 : Zi S 3 = 0) (hb : bb ≤ 54) (hv : vv ≤ 40) (hn : ns ≤ 16) (hd : 18 ≤ ns + d) (r1 : Zz S + 8 * (T - pp) + 14 ≤ K.2.1) (r2 : Zn S + 120 * (T - pp) + 480 ≤ K.2.2) : Rt (f_branch K V S (some s)) (fun S2 _ => SP K T S pp ns vv bb s S2) := by
  have hp := h.1.2.1; have hT := h.1.2.2.1
  have s0 : St (fun b => b = s) S S s (.inr (19, sxV 0 pp 0 0 0 .null .null .null .null .null .null .null 0)) 0 0 := ⟨GR.rf, fun _ => rfl, he, hF, Nat.le_refl _, Nat.le_refl _⟩
  unfold f_branch
  refine Rt.pv s0 h (Nat.le_of_ble_eq_true rfl) rfl (fun S1 s1 z1 u1 => ?_)
  have y1 : Zz S1 = Zz S := u1.2.2.1
  have y2 : Zn S1 = Zn S := u1.2.2.2.1
  refine Rt.be (nQ_ok (n := 4) (by decide) ⟨by omega, by omega⟩) ?_
  have s2 := s1.cl (GR.un (X := nX) (S := S1) (c := .inl (K.1 9, 4, .inr (.inr (.inr (.inr (fun _ => none)))))) (n := 4)) (by omega) (z1 := 1) (n1 := 4) (Nat.le_refl _) (Nat.le_refl _)
  refine Rt.pv s2 z1.un (Nat.le_of_ble_eq_true rfl) (show va_rf (some (Zz S1)) = .ref (Zz S) by rw [y1]; rfl) (fun S4 s4 z4 u4 => ?_)
  have y4 : Zz S4 = Zz S + 1 := u4.2.2.1.trans (by show Zz S1 + 1 = _; omega)
  have y5 := s4.2.2.2.2.2
  have f4 : ZF S4 (Zz S) = .inl (K.1 9, 4, .inr (.inr (.inr (.inr (fun _ => none))))) := by rw [u4.1 _ (by omega), ← y1]; exact updE_s
  have m4 : Zz S ∈ ZL S4 := by rw [u4.2.1, ← y1]; exact List.mem_cons_self
  refine Rt.be (nQ_ok (n := 4) (by decide) ⟨by omega, by omega⟩) ?_
  have s5 := s4.cl (GR.un (X := nX) (S := S4) (c := .inl (K.1 10, 4, .inr (.inr (.inr (.inr (fun _ => none)))))) (n := 4)) (by omega) (z1 := 1) (n1 := 4) (Nat.le_refl _) (Nat.le_refl _)
  refine Rt.pv s5 z4.un (Nat.le_of_ble_eq_true rfl) (show va_rf (some (Zz S4)) = .ref (Zz S + 1) by rw [y4]; rfl) (fun S6 s6 z6 u6 => ?_)
  have y6 : Zz S6 = Zz S + 2 := u6.2.2.1.trans (by show Zz S4 + 1 = _; omega)
  have y7 := s6.2.2.2.2.2
  refine br23 (mo := 1) hV hs hn hd r1 r2 bigN (n := 0) (cp := 4) (q0 := pp) (cm := 0) (by decide) (fun _ => by show T + 1 ≤ pp + 1000000000000; omega) (by omega) ⟨fun _ => none, fun _ => none, [], Zz S, Zz S + 1, s6.2.2.1, s6.2.2.2.1, ⟨by rw [u6.2.1]; exact List.mem_cons_of_mem _ m4, by rw [u6.2.1, ← y4]; exact List.mem_cons_self, by omega, ?_, by rw [u6.1 _ (by omega), ← y4]; exact updE_s⟩, ⟨Nat.le_refl _, by omega, List.not_mem_nil, List.not_mem_nil⟩, ⟨by omega, by omega, by omega⟩, fun a ha => absurd ha List.not_mem_nil, fun i hi => absurd hi (by omega), fun _ _ => rfl, fun i x hx => (by cases hx), fun _ i hi => absurd hi (by omega), fun i hi => absurd hi (by omega), fun _ => chJ_0⟩ s6.1 z6 (by omega) (by omega) (fun _ => ⟨by omega, hb, hv, by omega, by omega, Or.inr ⟨by decide, by omega, Or.inl rfl⟩⟩)
  rw [u6.1 _ (by omega)]
  exact (updE_n (by omega)).trans f4
end BRA
end
-- k4.u.lean.txt
section
section STT
variable {K : Ky} {T : Nat} {V : Sg → Option (Sg × Option Nat)} {d : Nat}
/-- a statement -/
theorem stm_ (hV : HVb K T V d) : HSt K T V d := fun S pp ns vv bb h q0 hb hv hn hd r1 r2 => by
  have hp := h.1.2.1; have hT := h.1.2.2.1
  unfold f_statement f_statement_247
  refine Rt.nw (X := nX) h (by omega) (by omega) (fun S1 s1 z1 i1 => ?_)
  refine Rt.pv s1 z1 (Nat.le_of_ble_eq_true rfl) (show Value.int (Zi S1 10) = .int (nI pp) by rw [z1.1.1]) (fun S5 s5 z5 u5 => ?_)
  have s5 : St nX S S5 (Zz S) (.inr (19, sxV 0 pp 0 0 0 .null .null .null .null .null .null .null 0)) 1 14 := s5
  have hss := z5.2.2.2.2 _ s5.2.2.1
  have y1 : Zz S5 = Zz S + 1 := by have := s5.2.2.2.2.1; omega
  have y2 := s5.2.2.2.2.2
  have q5 : Zi S5 3 = 0 := by rw [u5.2.2.2.2.1, i1]; exact q0
  have f5 : Zr S5 5 = Zr S 5 := by rw [s5.1.2.1.1]
  refine Rt.bd z5.kd ?_
  -- a member has filled it
  have hSP : ∀ S7 : Sg, SP K T S5 pp ns vv bb (Zz S) S7 → Rt (some (S7, some (Zz S))) (NP K T S pp ns vv bb 0 19 (2 * (16 - ns) + 2) 3 50 7 110) := fun S7 q7 => by
    obtain ⟨p7, v7, b7, fs7, z7, s7, k1, k2⟩ := q7
    have x1 := s7.2.2.2.2.1; have x2 := s7.2.2.2.2.2
    refine Rt.rt ⟨p7, v7, b7, Zz S, rfl, z7, s5.1.tr s7.1 (fun c hc q => absurd q (by omega)), k1, by omega, by omega, ⟨Nat.le_refl _, z7.2.2.2.2 _ s7.2.2.1, _, s7.2.2.2.1⟩, fun q => ?_⟩
    obtain ⟨c1, c2, c3, c4, c5, c6⟩ := k2 q
    rw [f5] at c6
    exact ⟨by omega, by omega, c3, c4, c6⟩
  have hnx : ∀ k : Int32, Zr S5 5 pp = k → k ≠ 0 → pp + 1 < T := fun k e1 e2 => z5.nx e1 e2
  have hal : ∀ {Q : Sg} {c : va_E} {p2 n2 v2 b2 zz nn : Nat}, St nX S Q (Zz S) c zz nn → RZ Q T p2 n2 v2 b2 → Zz S < Zz Q := fun s w => w.2.2.2.2 _ s.2.2.1
  -- an end with a semicolon, over an exp or none
  have hsem : ∀ (S7 : Sg) (p7 b7 : Nat) (kd : Int32) (ex : Value) (zz nn : Nat), St nX S S7 (Zz S) (.inr (19, sxV kd pp 0 0 0 .null ex .null .null .null .null .null 0)) zz nn → RZ S7 T p7 ns vv b7 → (pp < p7 ∧ bb ≤ b7 ∧ b7 ≤ bb + (p7 - pp)) → zz + 3 ≤ 8 * (p7 - pp) + 8 → nn + 50 ≤ 120 * (p7 - pp) + 120 → zz ≤ 8 * (p7 - pp) + 7 → nn ≤ 120 * (p7 - pp) + 110 → (Zi S7 3 = 0 → b7 ≤ 54 ∧ ((kd = 6 ∧ Zr S 5 pp = 19 ∧ ((ex = .null ∧ bb = b7) ∨ ∃ a p' q' : Nat, ex = .ref a ∧ pp < p' ∧ q' ≤ p7 ∧ isE (iv (Zz S + 1) (Zz S7)) (ZF S7) (K.1 9) (K.1 0) 408 16 a p' q' bb b7)) ∨ (kd = 7 ∧ ∃ a p' q' : Nat, ex = .ref a ∧ pp ≤ p' ∧ q' ≤ p7 ∧ isE (iv (Zz S + 1) (Zz S7)) (ZF S7) (K.1 9) (K.1 0) 408 16 a p' q' bb b7))) → Rt (bnd (f_take K S7 60) fun S41 v42 => some (S41, some (Zz S))) (NP K T S pp ns vv bb 0 19 (2 * (16 - ns) + 2) 3 50 7 110) := fun S7 p7 b7 kd ex zz nn s7 z7 k1 k2 k3 k4 k5 k6 => by
    refine Rt.bn (take_ z7 (by decide)) (fun S8 _ q8 => Rt.rt ?_)
    obtain ⟨p8, z8, g8, w1, w2, w3⟩ := q8
    have s8 := s7.ss g8
    have x1 := s8.2.2.2.2.1; have x2 := s8.2.2.2.2.2
    refine ⟨p8, vv, b7, Zz S, rfl, z8, s8.1, by omega, by omega, by omega, ⟨Nat.le_refl _, hal s8 z8, _, s8.2.2.2.1⟩, fun q => ?_⟩
    have q7 : Zi S7 3 = 0 := g8.1.2.2.2.2.2 q
    have w4 := (w3 q).2
    obtain ⟨c1, c2⟩ := k6 q7
    have hx : exS (iv (Zz S + 1) (Zz S7)) (ZF S7) (iv (Zz S) (Zz S8)) (ZF S8) := iv_ex (by omega) (by rw [g8.2.2.2.1]; exact Nat.le_refl _) (fun a _ _ => by rw [g8.2.1])
    have hm := iv_m.mpr ⟨Nat.le_refl (Zz S), hal s8 z8⟩
    refine ⟨by omega, by omega, c1, hv, hm, by omega, ?_⟩
    rcases c2 with ⟨c2, c9, c3⟩ | ⟨c2, a, p', q', d1, d2, d3, d4⟩
    · subst c2
      refine Or.inr (Or.inr (Or.inr (Or.inr (Or.inr (Or.inr (Or.inl ⟨ex, s8.2.2.2.1, ?_, rfl, c9⟩))))))
      rcases c3 with c3 | ⟨a, p', q', d1, d2, d3, d4⟩
      · exact Or.inl c3
      · exact Or.inr ⟨a, p', q', d1, d2, by omega, isE_im hx _ (Nat.le_refl _) d4⟩
    · subst c2 d1
      exact Or.inr (Or.inl ⟨7, a, p', q', Or.inr rfl, s8.2.2.2.1, d2, by omega, isE_im hx _ (Nat.le_refl _) d4, rfl⟩)
  -- an exp is read into it
  have hexp : ∀ (S7 : Sg) (p7 : Nat) (kd : Int32) (P : Sg → Option Nat → Prop) (g : Sg → Option (Sg × Option Nat)), St nX S S7 (Zz S) (.inr (19, sxV kd pp 0 0 0 .null .null .null .null .null .null .null 0)) 1 14 → RZ S7 T p7 ns vv bb → Zz S7 = Zz S + 1 → pp < p7 → (∀ (S9 : Sg) (p9 b9 x : Nat), St nX S S9 (Zz S) (.inr (19, sxV kd pp 0 0 0 .null (.ref x) .null .null .null .null .null 0)) (1 + (8 * (p9 - p7) + 3)) (14 + (120 * (p9 - p7) + 48)) → RZ S9 T p9 ns vv b9 → (p7 ≤ p9 ∧ bb ≤ b9 ∧ b9 ≤ bb + (p9 - p7)) → (Zi S9 3 = 0 → b9 ≤ 54 ∧ p7 < p9 ∧ isE (iv (Zz S + 1) (Zz S9)) (ZF S9) (K.1 9) (K.1 0) 408 16 x p7 p9 bb b9) → Rt (g S9) P) → Rt (bnd (f_exp K (f_chain9 K 140) (f_unary9 K 140) S7) fun S13 v14 => (pV S13 19 (some (Zz S)) 6 (va_rf v14)).bind g) P := fun S7 p7 kd P g s7 z7 e7 hp7 kk => by
    have x1 := s7.2.2.2.2.1; have x2 := s7.2.2.2.2.2; have hT7 := z7.1.2.1
    refine Rt.bn (ex140 z7 (fun _ => hb) (fun _ => hn) (by omega) (by omega)) (fun S8 r8 q8 => ?_)
    obtain ⟨p8, b8, x, e8, z8, g8, w1, w2, w3, w4, w5⟩ := q8
    subst e8
    have s8 := s7.cl g8 (hal s7 z7) (z1 := 8 * (p8 - p7) + 3) (n1 := 120 * (p8 - p7) + 48) (by omega) (by omega)
    refine Rt.pv s8 z8 (Nat.le_of_ble_eq_true rfl) (show va_rf (some x) = .ref x from rfl) (fun S9 s9 z9 u9 => kk S9 p8 b8 x s9 z9 w1 (fun q => ?_))
    obtain ⟨c1, c2⟩ := w5 (by rw [← u9.2.2.2.2.1]; exact q)
    exact ⟨c1, (isE_mem c2).2, isE_im (iv_ex (by omega) (by rw [u9.2.2.1]; exact Nat.le_refl _) (fun a h1 h2 => u9.1 a (by omega))) _ (Nat.le_refl _) c2⟩
  refine Rt.it (fun k13 => ?_) (fun _ => Rt.it (fun k15 => ?_) (fun _ => Rt.it (fun k17 => ?_) (fun _ => Rt.it (fun k18 => ?_) (fun _ => Rt.it (fun k19 => ?_) (fun _ => Rt.it (fun k20 => ?_) (fun _ => Rt.it (fun k63 => ?_) (fun _ => ?_)))))))
  · exact Rt.bn (let_ z5 y1 s5.2.2.1 s5.2.2.2.1 k13 q5 hb hv hn (by omega) (by omega)) (fun S7 _ q7 => hSP S7 q7)
  · exact Rt.bn (bra_ hV z5 y1 s5.2.2.1 s5.2.2.2.1 q5 hb hv hn hd (by omega) (by omega)) (fun S7 _ q7 => hSP S7 q7)
  · -- while
    refine Rt.pv s5 z5 (Nat.le_of_ble_eq_true rfl) rfl (fun S6 s6 z6 u6 => ?_)
    refine Rt.pi z6 (hnx _ k17 (by decide)) (fun S7 g7 z7 i7 => ?_)
    refine hexp S7 (pp + 1) 4 _ _ (s6.ss g7) z7 (g7.2.2.2.1.trans (u6.2.2.1.trans y1)) (by omega) (fun S9 p9 b9 x s9 z9 a1 a2 => ?_)
    have x1 := s9.2.2.2.2.1; have x2 := s9.2.2.2.2.2; have hT9 := z9.1.2.1
    refine Rt.bn (hV S9 p9 ns vv b9 z9 (fun q => ⟨(a2 q).1, hv⟩) (by omega) (fun _ => ⟨hn, hd⟩) (by omega) (by omega)) (fun S10 r10 q10 => ?_)
    obtain ⟨p10, v10, b10, y, e10, z10, g10, w1, w2, w3, w4, w5⟩ := q10
    subst e10
    have s10 := s9.cl g10 (hal s9 z9) (z1 := 8 * (p10 - p9) + 2) (n1 := 120 * (p10 - p9) + 10) (by omega) (by omega)
    refine Rt.pv s10 z10 (Nat.le_of_ble_eq_true rfl) (show va_rf (some y) = .ref y from rfl) (fun S11 s11 z11 u11 => Rt.rt ?_)
    have x3 := s11.2.2.2.2.1; have x4 := s11.2.2.2.2.2
    have e1 := u11.2.2.1; have e2 := u11.2.2.2.1
    refine ⟨p10, v10, b10, Zz S, rfl, z11, s11.1, by omega, by omega, by omega, ⟨Nat.le_refl _, hal s11 z11, _, s11.2.2.2.1⟩, fun q => ?_⟩
    have q10 : Zi S10 3 = 0 := by rw [← u11.2.2.2.2.1]; exact q
    obtain ⟨d1, d2, d3, d4, d5⟩ := w5 q10
    obtain ⟨c1, c2, c3⟩ := a2 (g10.2.2.2.2.2 q10)
    rw [show Zr S9 5 = Zr S 5 by rw [s9.1.2.1.1]] at d5
    have h09 := s9.1.2.2.2.2.1.1; have hs9 := hal s9 z9
    have h910 := g10.2.2.2.2.1.1
    refine ⟨by omega, by omega, d3, d4, iv_m.mpr ⟨Nat.le_refl _, hal s11 z11⟩, by omega, Or.inr (Or.inr (Or.inr (Or.inr (Or.inl ⟨x, y, p9, b9, s11.2.2.2.1, isE_im (iv_ex (by omega) (by omega) (fun a h1 h2 => by rw [u11.1 a (by omega), g10.2.2.1 a (by omega) (fun q => q)])) _ (Nat.le_refl _) c3, isS_im (iv_ex (by omega) (by omega) (fun a h1 h2 => u11.1 a (by omega))) _ (Nat.le_refl _) d5⟩))))⟩
  · exact Rt.bn (mat_ hV z5 y1 s5.2.2.1 s5.2.2.2.1 k18 q5 hb hv hn hd (by omega) (by omega)) (fun S7 _ q7 => hSP S7 q7)
  · -- return
    refine Rt.pv s5 z5 (Nat.le_of_ble_eq_true rfl) rfl (fun S6 s6 z6 u6 => ?_)
    refine Rt.pi z6 (hnx _ k19 (by decide)) (fun S7 g7 z7 i7 => ?_)
    have s7 := s6.ss g7
    unfold f_statement_183 f_statement_247
    refine Rt.is z7 (fun _ => ?_) (fun _ => ?_)
    · exact hsem S7 (pp + 1) bb 6 .null 1 14 s7 z7 (by omega) (by omega) (by omega) (by omega) (by omega) (fun _ => ⟨hb, Or.inl ⟨rfl, by rw [← f5]; exact k19, Or.inl ⟨rfl, rfl⟩⟩⟩)
    · refine hexp S7 (pp + 1) 6 _ _ s7 z7 (g7.2.2.2.1.trans (u6.2.2.1.trans y1)) (by omega) (fun S9 p9 b9 x s9 z9 a1 a2 => ?_)
      exact hsem S9 p9 b9 6 (.ref x) _ _ s9 z9 (by omega) (by omega) (by omega) (by omega) (by omega) (fun q => ⟨(a2 q).1, Or.inl ⟨rfl, by rw [← f5]; exact k19, Or.inr ⟨x, pp + 1, p9, rfl, by omega, Nat.le_refl _, (a2 q).2.2⟩⟩⟩)
  · -- print
    refine Rt.pv s5 z5 (Nat.le_of_ble_eq_true rfl) rfl (fun S6 s6 z6 u6 => ?_)
    refine Rt.pi z6 (hnx _ k20 (by decide)) (fun S7 g7 z7 i7 => ?_)
    refine hexp S7 (pp + 1) 7 _ _ (s6.ss g7) z7 (g7.2.2.2.1.trans (u6.2.2.1.trans y1)) (by omega) (fun S9 p9 b9 x s9 z9 a1 a2 => ?_)
    exact hsem S9 p9 b9 7 (.ref x) _ _ s9 z9 (by omega) (by omega) (by omega) (by omega) (by omega) (fun q => ⟨(a2 q).1, Or.inr ⟨rfl, x, pp + 1, p9, rfl, by omega, Nat.le_refl _, (a2 q).2.2⟩⟩)
  · -- a block
    refine Rt.pv s5 z5 (Nat.le_of_ble_eq_true rfl) rfl (fun S9 s9 z9 u9 => ?_)
    have x1 := s9.2.2.2.2.1; have x2 := s9.2.2.2.2.2
    have e9 : Zz S9 = Zz S + 1 := u9.2.2.1.trans y1
    refine Rt.bn (hV S9 pp ns vv bb z9 (fun _ => ⟨hb, hv⟩) (by omega) (fun _ => ⟨hn, hd⟩) (by omega) (by omega)) (fun S10 r10 q10 => ?_)
    obtain ⟨p10, v10, b10, y, e10, z10, g10, w1, w2, w3, w4, w5⟩ := q10
    subst e10
    have s10 := s9.cl g10 (hal s9 z9) (z1 := 8 * (p10 - pp) + 2) (n1 := 120 * (p10 - pp) + 10) (by omega) (by omega)
    refine Rt.pv s10 z10 (Nat.le_of_ble_eq_true rfl) (show va_rf (some y) = .ref y from rfl) (fun S11 s11 z11 u11 => Rt.rt ?_)
    have x3 := s11.2.2.2.2.1; have x4 := s11.2.2.2.2.2
    have e1 := u11.2.2.1; have e2 := u11.2.2.2.1
    refine ⟨p10, v10, b10, Zz S, rfl, z11, s11.1, by omega, by omega, by omega, ⟨Nat.le_refl _, hal s11 z11, _, s11.2.2.2.1⟩, fun q => ?_⟩
    have q10 : Zi S10 3 = 0 := by rw [← u11.2.2.2.2.1]; exact q
    obtain ⟨d1, d2, d3, d4, d5⟩ := w5 q10
    rw [show Zr S9 5 = Zr S 5 by rw [s9.1.2.1.1]] at d5
    have hlt := (isN_lt d5).2
    refine ⟨by omega, by omega, d3, d4, iv_m.mpr ⟨Nat.le_refl _, hal s11 z11⟩, by omega, Or.inr (Or.inr (Or.inr (Or.inr (Or.inr (Or.inr (Or.inr ⟨y, s11.2.2.2.1, isS_im (iv_ex (by omega) (by omega) (fun a h1 h2 => u11.1 a (by omega))) _ (Nat.le_refl _) d5⟩))))))⟩
  · exact Rt.bn (pln_ z5 y1 s5.2.2.1 s5.2.2.2.1 q5 hb hv hn (by omega) (by omega)) (fun S7 _ q7 => hSP S7 q7)
/-- all blocks -/
theorem blocks_ : ∀ d : Nat, HVb K T (f_block K d) d
  | 0 => fun S pp ns vv bb _ _ h _ _ _ => absurd h (by omega)
  | d + 1 => blk_ (stm_ (blocks_ d))
end STT
end
