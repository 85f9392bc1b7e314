/-- types came: the table of t grew out of that of s -/
theorem tY_ok {yp : Nat} {X : tF} {s t : tgS} {lo : Nat} (h : tI yp X s) (a1 : ∀ i : Nat, i ≠ 7 → t.1 i = s.1 i) (a2 : ∀ i : Nat, i < 20 → t.2 i = s.2 i) (c1 : tyOK yp (tTy t)) (c2 : tyEx (tTy s) (tTy t)) : tI yp X t ∧ tOK lo 0 0 0 0 (t.1 7 - s.1 7) s t (fun _ a b => b = a) := by
  have he : ∀ j : Nat, j < s.1 7 → t.2 20 j = s.2 20 j := fun j hj => (c2.2 j hj).1
  have h7 : s.1 7 ≤ t.1 7 := c2.1
  have hvc : ∀ v : Nat, v < s.1 4 → s.2 15 v ≠ -1 → vSz t v = vSz s v := fun v hv hn => by
    unfold vSz
    rw [a2 15 (by decide)]
    rcases h.2.2.1 v hv with q | ⟨u, q1, q2⟩
    · exact absurd q hn
    · have hu : u < s.1 7 := q2.2
      have h30 : s.1 7 ≤ 3040 := h.1.2.1
      have e22 : t.2 22 u = s.2 22 u := (c2.2 u hu).2.2.1
      rw [q1, cN_nI (by omega), e22]
  refine ⟨⟨c1, lbI_same h.2.1 (a1 0 (by decide)) (Nat.le_of_eq (a1 1 (by decide)).symm) (a2 0 (by decide)) (a2 1 (by decide)) (a2 5 (by decide)), fun v hv => ?_, shQ_up h.2.2.2.1 h7 he h.1.1 h.1.2.2.1, vcI_of h.2.2.2.2.1 (a1 4 (by decide)) (a1 6 (by decide)) (a2 15 (by decide)) (a2 17 (by decide)) hvc, brI_same h.2.2.2.2.2 (a1 0 (by decide)) (Nat.le_of_eq (a1 5 (by decide)).symm) (a1 8 (by decide)) (a2 0 (by decide)) (a2 2 (by decide)) (a1 4 (by decide)) (a2 19 (by decide))⟩, ⟨fun k hk => ?_, fun k hk i hi => by rw [a2 k (by omega)], fun k h1 h2 i hi => by rw [a2 k (by omega)], fun i hi => by rw [a2 13 (by decide)], fun k h1 h2 i hi => ?_, fun v hv => ⟨by rw [a2 14 (by decide)], by rw [a2 16 (by decide)], by rw [a2 18 (by decide)], fun _ => ⟨by rw [a2 15 (by decide)], by rw [a2 17 (by decide)]⟩, Or.inl (by rw [a2 19 (by decide)])⟩⟩, ⟨fun i h1 h2 h3 => absurd h2 (by rw [a1 0 (by decide)]; omega), fun v _ => by rw [a2 19 (by decide)]⟩, ⟨by rw [a1 0 (by decide)]; omega, by rw [a1 1 (by decide)]; omega, by rw [a1 2 (by decide)]; omega, by rw [a1 3 (by decide)]; omega, by omega⟩, fun F hF => a1 0 (by decide)⟩
  · rw [a2 15 (by decide)]
    rcases h.2.2.1 v (by rw [← a1 4 (by decide)]; exact hv) with q | ⟨u, q1, q2⟩
    · exact Or.inl q
    · exact Or.inr ⟨u, q1, tyV_up q2 he h7⟩
  · by_cases z : k = 7
    · subst z; exact h7
    · rw [a1 k z]; exact Nat.le_refl _
  · obtain ⟨e1, e2, e3, e4⟩ := c2.2 i hi
    have hk9 : k = 20 ∨ k = 21 ∨ k = 22 ∨ k = 23 := by omega
    rcases hk9 with rfl | rfl | rfl | rfl
    · exact e1
    · exact e2
    · exact e3
    · exact e4
/-- behind the type of a let: tv: the type told, or -1 -/
def tLt (yp : Nat) (X : tF) (tt p p2 n1 : Nat) (ft f1 tv : Int32) (s t : tgS) : Prop := n1 < tt ∧ (f1 ≠ 0 → n1 = tt - 1) ∧ tJ t ∧ (∀ i : Nat, i ≠ 7 → t.1 i = s.1 i) ∧ (tv = -1 ∨ ∃ T : Nat, T < 3040 ∧ tv = nI T ∧ (f1 = 0 → tyV yp (t.1 7) (t.2 20) T)) ∧ (f1 = 0 → ft = 0 ∧ n1 = p2 ∧ tI yp X t ∧ tOK (s.1 1) 0 0 0 0 (p2 - p) s t (fun _ a b => b = a))
theorem tY_J {s : tgS} {n : Nat} {g0 g1 g2 g3 g4 g5 g6 : Nat → Int32} (hJ : tJ s) (hn : n ≤ 3040) (hS : tyS g1 g2 g4 g5 g6) : tJ (tY s n g0 g1 g2 g3 g4 g5 g6) ∧ (∀ i : Nat, i ≠ 7 → (tY s n g0 g1 g2 g3 g4 g5 g6).1 i = s.1 i) ∧ (∀ i : Nat, i < 20 → (tY s n g0 g1 g2 g3 g4 g5 g6).2 i = s.2 i) ∧ tTy (tY s n g0 g1 g2 g3 g4 g5 g6) = (n, g0, g1, g2, g3, g4, g5, g6) := by
  have a1 : ∀ i : Nat, i ≠ 7 → (tY s n g0 g1 g2 g3 g4 g5 g6).1 i = s.1 i := fun i hi => if_neg hi
  have a2 : ∀ i : Nat, i < 20 → (tY s n g0 g1 g2 g3 g4 g5 g6).2 i = s.2 i := fun i hi => if_pos hi
  obtain ⟨c0, c1, c2, c3, c4, c5, c7, cy, cv, cm⟩ := hJ
  refine ⟨⟨by rw [a1 0 (by decide)]; exact c0, by rw [a1 1 (by decide)]; exact c1, by rw [a1 2 (by decide)]; exact c2, by rw [a1 3 (by decide)]; exact c3, by rw [a1 4 (by decide)]; exact c4, by rw [a1 5 (by decide)]; exact c5, hn, hS, by rw [a2 15 (by decide)]; exact cv, by rw [a2 16 (by decide)]; exact cm⟩, a1, a2, rfl⟩
theorem gTy_0 {fk lF : Nat → Int32} {d p q b v : Nat} (h : gTy fk d lF p q b v) : gTy fk 0 lF p q b v := by
  obtain ⟨⟨n, r, h1, h2, h3, h4⟩, h5⟩ := h
  exact ⟨⟨n, r, h1, by omega, h3, h4⟩, h5⟩
theorem let_of {fk lF : Nat → Int32} {k d p q b v : Nat} (h : sLet fk d (gEx fk k 1) lF p q b v) : ∃ p1 p2 p3 : Nat, fk p = 8 ∧ ((fk (p + 1) = 9 ∧ p1 = p + 2) ∨ (fk (p + 1) ≠ 9 ∧ p1 = p + 1)) ∧ fk p1 = 2 ∧ ((fk (p1 + 1) = 58 ∧ gTy fk 0 lF (p1 + 2) p2 0 0) ∨ (fk (p1 + 1) ≠ 58 ∧ p2 = p1 + 1)) ∧ ((fk p2 = 61 ∧ ∃ ip : Int32, gE fk lF k 1 (p2 + 1) p3 b ip) ∨ (fk p2 ≠ 61 ∧ p3 = p2 ∧ b = 0)) ∧ fk p3 = 59 ∧ q = p3 + 1 ∧ v = 1 := by
  obtain ⟨p3, x1, y1, x2, y2, ⟨p2, x3, y3, x4, y4, ⟨p0, x5, y5, x6, y6, ⟨p1, x7, y7, x8, y8, ⟨r1, x9, y9, x10, y10, ⟨rfl, h8, rfl, rfl⟩, ⟨hm, rfl, rfl⟩, rfl, rfl⟩, ⟨rfl, hk2, rfl, rfl⟩, rfl, rfl⟩, hty, rfl, rfl⟩, hex, rfl, rfl⟩, ⟨rfl, h59, rfl, rfl⟩, rfl, rfl⟩ := h
  have hty2 : ((fk (p1 + 1) = 58 ∧ gTy fk 0 lF (p1 + 2) p2 0 0) ∨ (fk (p1 + 1) ≠ 58 ∧ p2 = p1 + 1)) ∧ x6 = 0 ∧ y6 = 0 := by
    rcases hty with ⟨r2, z1, w1, z2, w2, ⟨rfl, g1, rfl, rfl⟩, g2, rfl, rfl⟩ | ⟨g1, rfl, rfl, rfl⟩
    · have e := g2.2
      have g3 : gTy fk 0 lF (p1 + 2) p2 0 0 := by
        have := gTy_0 g2
        exact ⟨this.1, rfl, rfl⟩
      exact ⟨Or.inl ⟨g1, g3⟩, by omega, by omega⟩
    · exact ⟨Or.inr ⟨g1, rfl⟩, rfl, rfl⟩
  obtain ⟨hty3, e6, e6'⟩ := hty2
  have hex2 : ((fk p2 = 61 ∧ ∃ ip : Int32, gE fk lF k 1 (p2 + 1) p3 x4 ip) ∨ (fk p2 ≠ 61 ∧ p3 = p2 ∧ x4 = 0)) ∧ y4 = 0 := by
    rcases hex with ⟨r2, z1, w1, z2, w2, ⟨rfl, g1, rfl, rfl⟩, ⟨ip, rfl, g2⟩, rfl, rfl⟩ | ⟨g1, rfl, rfl, rfl⟩
    · exact ⟨Or.inl ⟨g1, ip, by rw [Nat.zero_add]; exact g2⟩, rfl⟩
    · exact ⟨Or.inr ⟨g1, rfl, rfl⟩, rfl⟩
  obtain ⟨hex3, e4'⟩ := hex2
  refine ⟨p1, p2, p3, h8, ?_, hk2, hty3, ?_, h59, rfl, by omega⟩
  · rcases hm with ⟨rfl, g⟩ | ⟨rfl, g⟩
    · exact Or.inl ⟨g, rfl⟩
    · exact Or.inr ⟨g, rfl⟩
  · have e9 : 0 + 0 + 0 + x6 + x4 + 0 = x4 := by omega
    rw [e9]; exact hex3
theorem tyX_le {fk : Nat → Int32} : ∀ (n p q : Nat), tyX fk n p q → p ≤ q
  | 0, p, q, h => Nat.le_of_eq h.symm
  | n + 1, p, q, h => by
    obtain ⟨r, h1, h2⟩ := tyX_cons n p q h
    have := tyX_le n r q h2
    have := ampR_gt fk p
    rcases h1 with ⟨-, h1⟩ | ⟨-, h1⟩ <;> omega
/-- a type of the grammar ends where it ends -/
theorem gTy_en {fk lF : Nat → Int32} {d p q b v tt : Nat} (h : gTy fk d lF p q b v) : (fk p = 38 → tyEn fk q tt (ampR fk p)) ∧ tyEn fk q tt p := by
  obtain ⟨⟨n, r, h1, -, h3, h4⟩, -⟩ := h
  have key : ∀ a : Nat, a ≤ r → tyEn fk q tt a := fun a ha hp m hm => by
    rcases Nat.lt_or_ge r (a + m) with c | c
    · have h5 := hm (r - a) (by omega)
      rw [show a + (r - a) = r by omega] at h5
      exact absurd h5 (plain_19 h3).1
    · omega
  refine ⟨fun h38 => ?_, key p (tyX_le n p r h1)⟩
  cases n with
  | zero =>
    have e : r = p := h1
    rw [e] at h3
    exact absurd h38 (plain_19 h3).2
  | succ n =>
    obtain ⟨r0, x1, x2⟩ := tyX_cons n p r h1
    rcases x1 with ⟨x1, -⟩ | ⟨-, x1⟩
    · rw [h38] at x1; exact absurd x1 (by decide)
    · exact key _ (by rw [← x1]; exact tyX_le n r0 r x2)
/-- let with an exp, behind its type -/
theorem l_let2 {yp rs k tt nw pa p2 p q n1 n3 nA b T z : Nat} {X : tF} {G : Nat → Nat → Nat} {ft0 ft f1 f2 na mu tvA : Int32} {s0 s u w x t : tgS} {qv ql : Nat} {qp qm : Int32} (hLt : tLt yp X tt pa p2 nA ft0 ft tvA s0 s) (hv : tRw yp X G (rs + 4096 * k) tt (p2 + 1) p n1 b ft f1 s u T qv ql qp qm) (hrs : rs < 4096) (hk : k ≤ 16) (hD : tDe u w na mu (nI (u.1 0))) (hS : tSe w x (s.1 4) T z) (hz : u.2 22 T = nI z ∧ z ≤ 17) (hA : tAd x t 24 (nI (s.1 4)) 0 0 (-1)) (hJ : tJ t) (h4 : s0.1 4 < 40) (hn : n3 < tt) (hf : f2 ≠ 0 → n3 = tt - 1) (h2 : f2 = 0 → f1 = 0 ∧ n3 = q ∧ T ≠ 0) (hp : f2 = 0 → nw + 2 ≤ pa ∧ pa ≤ p2 ∧ p2 + 1 < p ∧ p < q) (hcp : ft0 = 0 → tCq X nw q s0) : tSs 1 yp X G rs tt nw q n3 b 1 ft0 f2 s0 t 0 T qv ql qp qm := by
  obtain ⟨y1, y2, y3, y4, y5, y6⟩ := hLt
  have e4 := y4 4 (by decide); have e5 := y4 5 (by decide)
  by_cases c : f2 = 0
  · obtain ⟨p1, p3, p4, p5⟩ := hp c
    have hcs : ft = 0 → tCq X (p2 - 1) q s := fun q9 => by
      obtain ⟨g1, g2, g3, g4⟩ := y6 q9
      obtain ⟨c0, c1, c2, c3, c7⟩ := hcp g1
      obtain ⟨v0, v1, v2, v3, v7⟩ := g4.2.2.1
      have k0 := y4 0 (by decide); have k1 := y4 1 (by decide); have k2 := y4 2 (by decide); have k3 := y4 3 (by decide)
      have l1 := cL_le (X := X) (show nw ≤ p2 - 1 by omega); have l2 := cL_le (X := X) (show p2 - 1 ≤ q by omega)
      unfold tCq; omega
    have h := l_let (nw := p2 - 1) (q := q) hv hrs hk hD hS hz hA hJ (by omega) hn hf h2 (fun _ => ⟨by omega, p4, p5⟩) hcs
    obtain ⟨⟨a1, a2, a3, a4, a5, a6, a7⟩, h3⟩ := h
    refine ⟨⟨a1, a2, a3, a4, by omega, by omega, a7⟩, fun z9 => ?_⟩
    obtain ⟨b1, b2, b3, N, b4, b5⟩ := h3 z9
    obtain ⟨g1, g2, g3, g4⟩ := y6 b1
    have k1 := y4 1 (by decide)
    have l1 := cL_le (X := X) (show nw ≤ p2 - 1 by omega); have l2 := cL_le (X := X) (show p2 - 1 ≤ q by omega)
    rw [k1] at b5
    rw [e4] at b4 b5
    refine ⟨g1, b2, b3, N, b4, tOK_sq g4 b5 (by omega) (fun F hF x1 x2 J O hO => ?_)⟩
    have x1 : s.1 0 = s0.1 0 := x1
    rw [x1] at x2
    exact x2 J O hO
  · obtain ⟨⟨a1, a2, a3, a4, a5, a6⟩, -⟩ := hv
    have t4 : t.1 4 = u.1 4 + 1 := by rw [hA.1 4 (by decide), hS.2.1 4 (by decide), hD.1]
    have t5 : t.1 5 = u.1 5 := by rw [hA.1 5 (by decide), hS.2.1 5 (by decide), hD.2.1 5 (by decide)]
    exact ⟨⟨hn, hf, hJ, a4, by omega, by omega, Or.inl rfl⟩, fun z9 => absurd z9 c⟩
/-- an assignment: behind its value, where a variable may have been settled -/
theorem l_a8 {yp rs1 tt nw r p2 q n1 b2 T qv ql : Nat} {X : tF} {G : Nat → Nat → Nat} {ft f1 : Int32} {s u S8 : tgS} {qp qm : Int32} (hv : tRw yp X G rs1 tt (r + 1) p2 n1 b2 ft f1 s u T qv ql qp qm) (hf1 : f1 = 0) (hcp : tCq X nw q s) (hp : nw < r ∧ r + 1 < p2 ∧ p2 < q) (h40 : s.1 4 ≤ 40) (hS8 : S8 = u ∨ ∃ v9 z9 : Nat, tSe u S8 v9 T z9 ∧ v9 < u.1 4 ∧ u.2 15 v9 = -1 ∧ T ≠ 0 ∧ u.2 22 T = nI z9 ∧ z9 ≤ 17) : tI yp X S8 ∧ tXt s S8 ∧ S8.1 4 = s.1 4 ∧ S8.1 5 = u.1 5 ∧ tCp X nw r S8 := by
  obtain ⟨⟨-, -, -, -, a5, -⟩, h5⟩ := hv
  obtain ⟨-, -, y3, y4, y5⟩ := h5 hf1
  obtain ⟨c0, c1, c2, c3, c7⟩ := hcp
  obtain ⟨r0, r1, r2, r3, r7⟩ := y5.2.2.1
  have l1 := cL_le (X := X) (show nw ≤ r by omega); have l2 := cL_le (X := X) (show r ≤ r + 1 by omega); have l3 := cL_le (X := X) (show r + 1 ≤ p2 by omega); have l4 := cL_le (X := X) (show p2 ≤ q by omega)
  rcases hS8 with e | ⟨v9, z9, q1, q2, q3, q4, q5, q6⟩
  · rw [e]
    exact ⟨y3, y5.1, a5, rfl, by unfold tCp; omega⟩
  · have k0 := q1.2.1 0 (by decide); have k1 := q1.2.1 1 (by decide); have k2 := q1.2.1 2 (by decide); have k3 := q1.2.1 3 (by decide); have k7 := q1.2.1 7 (by decide)
    exact ⟨tI_se y3 q1 q2 q3 (y4.elim (fun q9 => absurd q9 q4) id) q5 q6 (by omega), tXt_tr y5.1 (tXt_se q1 q3), by rw [q1.2.1 4 (by decide)]; exact a5, q1.2.1 5 (by decide), by unfold tCp; omega⟩
