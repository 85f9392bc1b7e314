-- bl.z.lean.txt
section
theorem c_xnamed (l : Launch) (dC : Nat → ClassId) (dI : Nat → Nat → Nat) (k : Nat) (ih : ∀ k1 : Nat, k = k1 + 1 → IH_tX l dC dI k1) : st_c_xnamed l dC dI k := w_c_xnamed l dC dI k ih (c_xcall l dC dI k ih) (c_xvar l dC dI k ih)
theorem c_xprim (l : Launch) (dC : Nat → ClassId) (dI : Nat → Nat → Nat) (k : Nat) (ih : ∀ k1 : Nat, k = k1 + 1 → IH_tX l dC dI k1) : st_c_xprim l dC dI k := w_c_xprim l dC dI k ih (c_xnamed l dC dI k ih) (c_xbuild l dC dI k ih)
theorem c_xsuf (l : Launch) (dC : Nat → ClassId) (dI : Nat → Nat → Nat) (k : Nat) (ih : ∀ k1 : Nat, k = k1 + 1 → IH_tX l dC dI k1) : st_c_xsuf l dC dI k := w_c_xsuf l dC dI k ih (c_xprim l dC dI k ih)
theorem c_xun_0 (l : Launch) (dC : Nat → ClassId) (dI : Nat → Nat → Nat) (k : Nat) (ih : ∀ k1 : Nat, k = k1 + 1 → IH_tX l dC dI k1) : st_c_xun_0 l dC dI k := w_c_xun_0 l dC dI k ih (c_xsuf l dC dI k ih)
theorem c_xun (l : Launch) (dC : Nat → ClassId) (dI : Nat → Nat → Nat) (k : Nat) (ih : ∀ k1 : Nat, k = k1 + 1 → IH_tX l dC dI k1) : st_c_xun l dC dI k := w_c_xun l dC dI k ih (c_xun_33 l dC dI k ih) (c_xun_45 l dC dI k ih) (c_xun_42 l dC dI k ih) (c_xun_38 l dC dI k ih) (c_xun_19 l dC dI k ih) (c_xun_0 l dC dI k ih)
theorem c_xbin (l : Launch) (dC : Nat → ClassId) (dI : Nat → Nat → Nat) (k : Nat) (ih : ∀ k1 : Nat, k = k1 + 1 → IH_tX l dC dI k1) : st_c_xbin l dC dI k := w_c_xbin l dC dI k ih (c_xun l dC dI k ih)
theorem c_xval (l : Launch) (dC : Nat → ClassId) (dI : Nat → Nat → Nat) (k : Nat) (ih : ∀ k1 : Nat, k = k1 + 1 → IH_tX l dC dI k1) : st_c_xval l dC dI k := w_c_xval l dC dI k ih (c_xbin l dC dI k ih)
theorem c_xfit (l : Launch) (dC : Nat → ClassId) (dI : Nat → Nat → Nat) (k : Nat) (ih : ∀ k1 : Nat, k = k1 + 1 → IH_tX l dC dI k1) : st_c_xfit l dC dI k := w_c_xfit l dC dI k ih (c_xval l dC dI k ih)
theorem all_tX (l : Launch) (dC : Nat → ClassId) (dI : Nat → Nat → Nat) : ∀ k : Nat, IH_tX l dC dI k
  | 0 => ⟨c_xbin l dC dI 0 (fun _ h => absurd h (by omega)), c_xun l dC dI 0 (fun _ h => absurd h (by omega)), c_xval l dC dI 0 (fun _ h => absurd h (by omega)), c_xfit l dC dI 0 (fun _ h => absurd h (by omega))⟩
  | k + 1 => ⟨c_xbin l dC dI (k + 1) (fun k1 h => by obtain rfl : k = k1 := (by omega); exact all_tX l dC dI k), c_xun l dC dI (k + 1) (fun k1 h => by obtain rfl : k = k1 := (by omega); exact all_tX l dC dI k), c_xval l dC dI (k + 1) (fun k1 h => by obtain rfl : k = k1 := (by omega); exact all_tX l dC dI k), c_xfit l dC dI (k + 1) (fun k1 h => by obtain rfl : k = k1 := (by omega); exact all_tX l dC dI k)⟩
theorem c_xbinA (l : Launch) (dC : Nat → ClassId) (dI : Nat → Nat → Nat) (k : Nat) : st_c_xbin l dC dI k := c_xbin l dC dI k (fun k1 _ => all_tX l dC dI k1)
theorem c_xunA (l : Launch) (dC : Nat → ClassId) (dI : Nat → Nat → Nat) (k : Nat) : st_c_xun l dC dI k := c_xun l dC dI k (fun k1 _ => all_tX l dC dI k1)
theorem c_xvalA (l : Launch) (dC : Nat → ClassId) (dI : Nat → Nat → Nat) (k : Nat) : st_c_xval l dC dI k := c_xval l dC dI k (fun k1 _ => all_tX l dC dI k1)
theorem c_xfitA (l : Launch) (dC : Nat → ClassId) (dI : Nat → Nat → Nat) (k : Nat) : st_c_xfit l dC dI k := c_xfit l dC dI k (fun k1 _ => all_tX l dC dI k1)
theorem c_xsufA (l : Launch) (dC : Nat → ClassId) (dI : Nat → Nat → Nat) (k : Nat) : st_c_xsuf l dC dI k := c_xsuf l dC dI k (fun k1 _ => all_tX l dC dI k1)
theorem c_xun_33A (l : Launch) (dC : Nat → ClassId) (dI : Nat → Nat → Nat) (k : Nat) : st_c_xun_33 l dC dI k := c_xun_33 l dC dI k (fun k1 _ => all_tX l dC dI k1)
theorem c_xun_45A (l : Launch) (dC : Nat → ClassId) (dI : Nat → Nat → Nat) (k : Nat) : st_c_xun_45 l dC dI k := c_xun_45 l dC dI k (fun k1 _ => all_tX l dC dI k1)
theorem c_xun_42A (l : Launch) (dC : Nat → ClassId) (dI : Nat → Nat → Nat) (k : Nat) : st_c_xun_42 l dC dI k := c_xun_42 l dC dI k (fun k1 _ => all_tX l dC dI k1)
theorem c_xun_38A (l : Launch) (dC : Nat → ClassId) (dI : Nat → Nat → Nat) (k : Nat) : st_c_xun_38 l dC dI k := c_xun_38 l dC dI k (fun k1 _ => all_tX l dC dI k1)
theorem c_xun_19A (l : Launch) (dC : Nat → ClassId) (dI : Nat → Nat → Nat) (k : Nat) : st_c_xun_19 l dC dI k := c_xun_19 l dC dI k (fun k1 _ => all_tX l dC dI k1)
theorem c_xun_0A (l : Launch) (dC : Nat → ClassId) (dI : Nat → Nat → Nat) (k : Nat) : st_c_xun_0 l dC dI k := c_xun_0 l dC dI k (fun k1 _ => all_tX l dC dI k1)
theorem c_xprimA (l : Launch) (dC : Nat → ClassId) (dI : Nat → Nat → Nat) (k : Nat) : st_c_xprim l dC dI k := c_xprim l dC dI k (fun k1 _ => all_tX l dC dI k1)
theorem c_xnamedA (l : Launch) (dC : Nat → ClassId) (dI : Nat → Nat → Nat) (k : Nat) : st_c_xnamed l dC dI k := c_xnamed l dC dI k (fun k1 _ => all_tX l dC dI k1)
theorem c_xbuildA (l : Launch) (dC : Nat → ClassId) (dI : Nat → Nat → Nat) (k : Nat) : st_c_xbuild l dC dI k := c_xbuild l dC dI k (fun k1 _ => all_tX l dC dI k1)
theorem c_xcallA (l : Launch) (dC : Nat → ClassId) (dI : Nat → Nat → Nat) (k : Nat) : st_c_xcall l dC dI k := c_xcall l dC dI k (fun k1 _ => all_tX l dC dI k1)
theorem c_xvarA (l : Launch) (dC : Nat → ClassId) (dI : Nat → Nat → Nat) (k : Nat) : st_c_xvar l dC dI k := c_xvar l dC dI k (fun k1 _ => all_tX l dC dI k1)
end
-- bm.tst7.lean.txt
section
/-- types came: the table of t grew out of that of s -/
theorem tY_ok {yp : Nat} {X : tF} {s t : tgS} {lo : Nat} (h : tI yp X s) (a1 : ∀ i : Nat, i ≠ 7 → t.1 i = s.1 i) (a2 : ∀ i : Nat, i < 20 → t.2 i = s.2 i) (c1 : tyOK yp (tTy t)) (c2 : tyEx (tTy s) (tTy t)) : tI yp X t ∧ tOK lo 0 0 0 0 (t.1 7 - s.1 7) s t (fun _ a b => b = a) := by
  have he : ∀ j : Nat, j < s.1 7 → t.2 20 j = s.2 20 j := fun j hj => (c2.2 j hj).1
  have h7 : s.1 7 ≤ t.1 7 := c2.1
  have hvc : ∀ v : Nat, v < s.1 4 → s.2 15 v ≠ -1 → vSz t v = vSz s v := fun v hv hn => by
    unfold vSz
    rw [a2 15 (by decide)]
    rcases h.2.2.1 v hv with q | ⟨u, q1, q2⟩
    · exact absurd q hn
    · have hu : u < s.1 7 := q2.2
      have h30 : s.1 7 ≤ 3040 := h.1.2.1
      have e22 : t.2 22 u = s.2 22 u := (c2.2 u hu).2.2.1
      rw [q1, cN_nI (by omega), e22]
  refine ⟨⟨c1, lbI_same h.2.1 (a1 0 (by decide)) (Nat.le_of_eq (a1 1 (by decide)).symm) (a2 0 (by decide)) (a2 1 (by decide)) (a2 5 (by decide)), fun v hv => ?_, shQ_up h.2.2.2.1 h7 he h.1.1 h.1.2.2.1, vcI_of h.2.2.2.2.1 (a1 4 (by decide)) (a1 6 (by decide)) (a2 15 (by decide)) (a2 17 (by decide)) hvc, brI_same h.2.2.2.2.2 (a1 0 (by decide)) (Nat.le_of_eq (a1 5 (by decide)).symm) (a1 8 (by decide)) (a2 0 (by decide)) (a2 2 (by decide)) (a1 4 (by decide)) (a2 19 (by decide))⟩, ⟨fun k hk => ?_, fun k hk i hi => by rw [a2 k (by omega)], fun k h1 h2 i hi => by rw [a2 k (by omega)], fun i hi => by rw [a2 13 (by decide)], fun k h1 h2 i hi => ?_, fun v hv => ⟨by rw [a2 14 (by decide)], by rw [a2 16 (by decide)], by rw [a2 18 (by decide)], fun _ => ⟨by rw [a2 15 (by decide)], by rw [a2 17 (by decide)]⟩, Or.inl (by rw [a2 19 (by decide)])⟩⟩, ⟨fun i h1 h2 h3 => absurd h2 (by rw [a1 0 (by decide)]; omega), fun v _ => by rw [a2 19 (by decide)]⟩, ⟨by rw [a1 0 (by decide)]; omega, by rw [a1 1 (by decide)]; omega, by rw [a1 2 (by decide)]; omega, by rw [a1 3 (by decide)]; omega, by omega⟩, fun F hF => a1 0 (by decide)⟩
  · rw [a2 15 (by decide)]
    rcases h.2.2.1 v (by rw [← a1 4 (by decide)]; exact hv) with q | ⟨u, q1, q2⟩
    · exact Or.inl q
    · exact Or.inr ⟨u, q1, tyV_up q2 he h7⟩
  · by_cases z : k = 7
    · subst z; exact h7
    · rw [a1 k z]; exact Nat.le_refl _
  · obtain ⟨e1, e2, e3, e4⟩ := c2.2 i hi
    have hk9 : k = 20 ∨ k = 21 ∨ k = 22 ∨ k = 23 := by omega
    rcases hk9 with rfl | rfl | rfl | rfl
    · exact e1
    · exact e2
    · exact e3
    · exact e4
/-- behind the type of a let: tv: the type told, or -1 -/
def tLt (yp : Nat) (X : tF) (tt p p2 n1 : Nat) (ft f1 tv : Int32) (s t : tgS) : Prop := n1 < tt ∧ (f1 ≠ 0 → n1 = tt - 1) ∧ tJ t ∧ (∀ i : Nat, i ≠ 7 → t.1 i = s.1 i) ∧ (tv = -1 ∨ ∃ T : Nat, T < 3040 ∧ tv = nI T ∧ (f1 = 0 → tyV yp (t.1 7) (t.2 20) T)) ∧ (f1 = 0 → ft = 0 ∧ n1 = p2 ∧ tI yp X t ∧ tOK (s.1 1) 0 0 0 0 (p2 - p) s t (fun _ a b => b = a))
theorem tY_J {s : tgS} {n : Nat} {g0 g1 g2 g3 g4 g5 g6 : Nat → Int32} (hJ : tJ s) (hn : n ≤ 3040) (hS : tyS g1 g2 g4 g5 g6) : tJ (tY s n g0 g1 g2 g3 g4 g5 g6) ∧ (∀ i : Nat, i ≠ 7 → (tY s n g0 g1 g2 g3 g4 g5 g6).1 i = s.1 i) ∧ (∀ i : Nat, i < 20 → (tY s n g0 g1 g2 g3 g4 g5 g6).2 i = s.2 i) ∧ tTy (tY s n g0 g1 g2 g3 g4 g5 g6) = (n, g0, g1, g2, g3, g4, g5, g6) := by
  have a1 : ∀ i : Nat, i ≠ 7 → (tY s n g0 g1 g2 g3 g4 g5 g6).1 i = s.1 i := fun i hi => if_neg hi
  have a2 : ∀ i : Nat, i < 20 → (tY s n g0 g1 g2 g3 g4 g5 g6).2 i = s.2 i := fun i hi => if_pos hi
  obtain ⟨c0, c1, c2, c3, c4, c5, c7, cy, cv, cm⟩ := hJ
  refine ⟨⟨by rw [a1 0 (by decide)]; exact c0, by rw [a1 1 (by decide)]; exact c1, by rw [a1 2 (by decide)]; exact c2, by rw [a1 3 (by decide)]; exact c3, by rw [a1 4 (by decide)]; exact c4, by rw [a1 5 (by decide)]; exact c5, hn, hS, by rw [a2 15 (by decide)]; exact cv, by rw [a2 16 (by decide)]; exact cm⟩, a1, a2, rfl⟩
theorem gTy_0 {fk lF : Nat → Int32} {d p q b v : Nat} (h : gTy fk d lF p q b v) : gTy fk 0 lF p q b v := by
  obtain ⟨⟨n, r, h1, h2, h3, h4⟩, h5⟩ := h
  exact ⟨⟨n, r, h1, by omega, h3, h4⟩, h5⟩
theorem let_of {fk lF : Nat → Int32} {k d p q b v : Nat} (h : sLet fk d (gEx fk k 1) lF p q b v) : ∃ p1 p2 p3 : Nat, fk p = 8 ∧ ((fk (p + 1) = 9 ∧ p1 = p + 2) ∨ (fk (p + 1) ≠ 9 ∧ p1 = p + 1)) ∧ fk p1 = 2 ∧ ((fk (p1 + 1) = 58 ∧ gTy fk 0 lF (p1 + 2) p2 0 0) ∨ (fk (p1 + 1) ≠ 58 ∧ p2 = p1 + 1)) ∧ ((fk p2 = 61 ∧ ∃ ip : Int32, gE fk lF k 1 (p2 + 1) p3 b ip) ∨ (fk p2 ≠ 61 ∧ p3 = p2 ∧ b = 0)) ∧ fk p3 = 59 ∧ q = p3 + 1 ∧ v = 1 := by
  obtain ⟨p3, x1, y1, x2, y2, ⟨p2, x3, y3, x4, y4, ⟨p0, x5, y5, x6, y6, ⟨p1, x7, y7, x8, y8, ⟨r1, x9, y9, x10, y10, ⟨rfl, h8, rfl, rfl⟩, ⟨hm, rfl, rfl⟩, rfl, rfl⟩, ⟨rfl, hk2, rfl, rfl⟩, rfl, rfl⟩, hty, rfl, rfl⟩, hex, rfl, rfl⟩, ⟨rfl, h59, rfl, rfl⟩, rfl, rfl⟩ := h
  have hty2 : ((fk (p1 + 1) = 58 ∧ gTy fk 0 lF (p1 + 2) p2 0 0) ∨ (fk (p1 + 1) ≠ 58 ∧ p2 = p1 + 1)) ∧ x6 = 0 ∧ y6 = 0 := by
    rcases hty with ⟨r2, z1, w1, z2, w2, ⟨rfl, g1, rfl, rfl⟩, g2, rfl, rfl⟩ | ⟨g1, rfl, rfl, rfl⟩
    · have e := g2.2
      have g3 : gTy fk 0 lF (p1 + 2) p2 0 0 := by
        have := gTy_0 g2
        exact ⟨this.1, rfl, rfl⟩
      exact ⟨Or.inl ⟨g1, g3⟩, by omega, by omega⟩
    · exact ⟨Or.inr ⟨g1, rfl⟩, rfl, rfl⟩
  obtain ⟨hty3, e6, e6'⟩ := hty2
  have hex2 : ((fk p2 = 61 ∧ ∃ ip : Int32, gE fk lF k 1 (p2 + 1) p3 x4 ip) ∨ (fk p2 ≠ 61 ∧ p3 = p2 ∧ x4 = 0)) ∧ y4 = 0 := by
    rcases hex with ⟨r2, z1, w1, z2, w2, ⟨rfl, g1, rfl, rfl⟩, ⟨ip, rfl, g2⟩, rfl, rfl⟩ | ⟨g1, rfl, rfl, rfl⟩
    · exact ⟨Or.inl ⟨g1, ip, by rw [Nat.zero_add]; exact g2⟩, rfl⟩
    · exact ⟨Or.inr ⟨g1, rfl, rfl⟩, rfl⟩
  obtain ⟨hex3, e4'⟩ := hex2
  refine ⟨p1, p2, p3, h8, ?_, hk2, hty3, ?_, h59, rfl, by omega⟩
  · rcases hm with ⟨rfl, g⟩ | ⟨rfl, g⟩
    · exact Or.inl ⟨g, rfl⟩
    · exact Or.inr ⟨g, rfl⟩
  · have e9 : 0 + 0 + 0 + x6 + x4 + 0 = x4 := by omega
    rw [e9]; exact hex3
theorem tyX_le {fk : Nat → Int32} : ∀ (n p q : Nat), tyX fk n p q → p ≤ q
  | 0, p, q, h => Nat.le_of_eq h.symm
  | n + 1, p, q, h => by
    obtain ⟨r, h1, h2⟩ := tyX_cons n p q h
    have := tyX_le n r q h2
    have := ampR_gt fk p
    rcases h1 with ⟨-, h1⟩ | ⟨-, h1⟩ <;> omega
/-- a type of the grammar ends where it ends -/
theorem gTy_en {fk lF : Nat → Int32} {d p q b v tt : Nat} (h : gTy fk d lF p q b v) : (fk p = 38 → tyEn fk q tt (ampR fk p)) ∧ tyEn fk q tt p := by
  obtain ⟨⟨n, r, h1, -, h3, h4⟩, -⟩ := h
  have key : ∀ a : Nat, a ≤ r → tyEn fk q tt a := fun a ha hp m hm => by
    rcases Nat.lt_or_ge r (a + m) with c | c
    · have h5 := hm (r - a) (by omega)
      rw [show a + (r - a) = r by omega] at h5
      exact absurd h5 (plain_19 h3).1
    · omega
  refine ⟨fun h38 => ?_, key p (tyX_le n p r h1)⟩
  cases n with
  | zero =>
    have e : r = p := h1
    rw [e] at h3
    exact absurd h38 (plain_19 h3).2
  | succ n =>
    obtain ⟨r0, x1, x2⟩ := tyX_cons n p r h1
    rcases x1 with ⟨x1, -⟩ | ⟨-, x1⟩
    · rw [h38] at x1; exact absurd x1 (by decide)
    · exact key _ (by rw [← x1]; exact tyX_le n r0 r x2)
/-- let with an exp, behind its type -/
theorem l_let2 {yp rs k tt nw pa p2 p q n1 n3 nA b T z : Nat} {X : tF} {G : Nat → Nat → Nat} {ft0 ft f1 f2 na mu tvA : Int32} {s0 s u w x t : tgS} {qv ql : Nat} {qp qm : Int32} (hLt : tLt yp X tt pa p2 nA ft0 ft tvA s0 s) (hv : tRw yp X G (rs + 4096 * k) tt (p2 + 1) p n1 b ft f1 s u T qv ql qp qm) (hrs : rs < 4096) (hk : k ≤ 16) (hD : tDe u w na mu (nI (u.1 0))) (hS : tSe w x (s.1 4) T z) (hz : u.2 22 T = nI z ∧ z ≤ 17) (hA : tAd x t 24 (nI (s.1 4)) 0 0 (-1)) (hJ : tJ t) (h4 : s0.1 4 < 40) (hn : n3 < tt) (hf : f2 ≠ 0 → n3 = tt - 1) (h2 : f2 = 0 → f1 = 0 ∧ n3 = q ∧ T ≠ 0) (hp : f2 = 0 → nw + 2 ≤ pa ∧ pa ≤ p2 ∧ p2 + 1 < p ∧ p < q) (hcp : ft0 = 0 → tCq X nw q s0) : tSs 1 yp X G rs tt nw q n3 b 1 ft0 f2 s0 t 0 T qv ql qp qm := by
  obtain ⟨y1, y2, y3, y4, y5, y6⟩ := hLt
  have e4 := y4 4 (by decide); have e5 := y4 5 (by decide)
  by_cases c : f2 = 0
  · obtain ⟨p1, p3, p4, p5⟩ := hp c
    have hcs : ft = 0 → tCq X (p2 - 1) q s := fun q9 => by
      obtain ⟨g1, g2, g3, g4⟩ := y6 q9
      obtain ⟨c0, c1, c2, c3, c7⟩ := hcp g1
      obtain ⟨v0, v1, v2, v3, v7⟩ := g4.2.2.1
      have k0 := y4 0 (by decide); have k1 := y4 1 (by decide); have k2 := y4 2 (by decide); have k3 := y4 3 (by decide)
      have l1 := cL_le (X := X) (show nw ≤ p2 - 1 by omega); have l2 := cL_le (X := X) (show p2 - 1 ≤ q by omega)
      unfold tCq; omega
    have h := l_let (nw := p2 - 1) (q := q) hv hrs hk hD hS hz hA hJ (by omega) hn hf h2 (fun _ => ⟨by omega, p4, p5⟩) hcs
    obtain ⟨⟨a1, a2, a3, a4, a5, a6, a7⟩, h3⟩ := h
    refine ⟨⟨a1, a2, a3, a4, by omega, by omega, a7⟩, fun z9 => ?_⟩
    obtain ⟨b1, b2, b3, N, b4, b5⟩ := h3 z9
    obtain ⟨g1, g2, g3, g4⟩ := y6 b1
    have k1 := y4 1 (by decide)
    have l1 := cL_le (X := X) (show nw ≤ p2 - 1 by omega); have l2 := cL_le (X := X) (show p2 - 1 ≤ q by omega)
    rw [k1] at b5
    rw [e4] at b4 b5
    refine ⟨g1, b2, b3, N, b4, tOK_sq g4 b5 (by omega) (fun F hF x1 x2 J O hO => ?_)⟩
    have x1 : s.1 0 = s0.1 0 := x1
    rw [x1] at x2
    exact x2 J O hO
  · obtain ⟨⟨a1, a2, a3, a4, a5, a6⟩, -⟩ := hv
    have t4 : t.1 4 = u.1 4 + 1 := by rw [hA.1 4 (by decide), hS.2.1 4 (by decide), hD.1]
    have t5 : t.1 5 = u.1 5 := by rw [hA.1 5 (by decide), hS.2.1 5 (by decide), hD.2.1 5 (by decide)]
    exact ⟨⟨hn, hf, hJ, a4, by omega, by omega, Or.inl rfl⟩, fun z9 => absurd z9 c⟩
/-- an assignment: behind its value, where a variable may have been settled -/
theorem l_a8 {yp rs1 tt nw r p2 q n1 b2 T qv ql : Nat} {X : tF} {G : Nat → Nat → Nat} {ft f1 : Int32} {s u S8 : tgS} {qp qm : Int32} (hv : tRw yp X G rs1 tt (r + 1) p2 n1 b2 ft f1 s u T qv ql qp qm) (hf1 : f1 = 0) (hcp : tCq X nw q s) (hp : nw < r ∧ r + 1 < p2 ∧ p2 < q) (h40 : s.1 4 ≤ 40) (hS8 : S8 = u ∨ ∃ v9 z9 : Nat, tSe u S8 v9 T z9 ∧ v9 < u.1 4 ∧ u.2 15 v9 = -1 ∧ T ≠ 0 ∧ u.2 22 T = nI z9 ∧ z9 ≤ 17) : tI yp X S8 ∧ tXt s S8 ∧ S8.1 4 = s.1 4 ∧ S8.1 5 = u.1 5 ∧ tCp X nw r S8 := by
  obtain ⟨⟨-, -, -, -, a5, -⟩, h5⟩ := hv
  obtain ⟨-, -, y3, y4, y5⟩ := h5 hf1
  obtain ⟨c0, c1, c2, c3, c7⟩ := hcp
  obtain ⟨r0, r1, r2, r3, r7⟩ := y5.2.2.1
  have l1 := cL_le (X := X) (show nw ≤ r by omega); have l2 := cL_le (X := X) (show r ≤ r + 1 by omega); have l3 := cL_le (X := X) (show r + 1 ≤ p2 by omega); have l4 := cL_le (X := X) (show p2 ≤ q by omega)
  rcases hS8 with e | ⟨v9, z9, q1, q2, q3, q4, q5, q6⟩
  · rw [e]
    exact ⟨y3, y5.1, a5, rfl, by unfold tCp; omega⟩
  · have k0 := q1.2.1 0 (by decide); have k1 := q1.2.1 1 (by decide); have k2 := q1.2.1 2 (by decide); have k3 := q1.2.1 3 (by decide); have k7 := q1.2.1 7 (by decide)
    exact ⟨tI_se y3 q1 q2 q3 (y4.elim (fun q9 => absurd q9 q4) id) q5 q6 (by omega), tXt_tr y5.1 (tXt_se q1 q3), by rw [q1.2.1 4 (by decide)]; exact a5, q1.2.1 5 (by decide), by unfold tCp; omega⟩
end
-- bm.tst8.lean.txt
section
/-- bit g of sn -/
def bS (sn : Int32) (g : Nat) : Prop := (sn >>> (nI g &&& 31)) &&& 1 = 1
theorem i32_dist {x y z : Int32} : (x ||| y) &&& z = (x &&& z) ||| (y &&& z) := by
  rw [← Int32.toBitVec_inj, Int32.toBitVec_and, Int32.toBitVec_or, Int32.toBitVec_or, Int32.toBitVec_and, Int32.toBitVec_and]
  exact BitVec.and_or_distrib_right
theorem i32_and1 (x : Int32) : x &&& 1 = 0 ∨ x &&& 1 = 1 := by
  have h : (x &&& 1).toBitVec = BitVec.setWidth 32 (BitVec.ofBool (x.toBitVec.getLsbD 0)) := by
    rw [Int32.toBitVec_and]; exact BitVec.and_one_eq_setWidth_ofBool_getLsbD
  cases h2 : x.toBitVec.getLsbD 0 with
  | false => left; rw [← Int32.toBitVec_inj, h, h2]; rfl
  | true => right; rw [← Int32.toBitVec_inj, h, h2]; rfl
theorem bS_0 : ∀ g : Nat, g < 12 → ¬ bS 0 g := by unfold bS; decide +kernel
theorem bS_all : ∀ n : Nat, n < 13 → ∀ g : Nat, g < n → bS (((1 : Int32) <<< (nI n &&& 31)) - 1) g := by unfold bS; decide +kernel
theorem bS_1 : ∀ a : Nat, a < 12 → ∀ b : Nat, b < 12 → (((1 : Int32) <<< (nI a &&& 31)) >>> (nI b &&& 31)) &&& 1 = if b = a then 1 else 0 := by decide +kernel
theorem bS_or {sn : Int32} {a b : Nat} (ha : a < 12) (hb : b < 12) : bS (sn ||| ((1 : Int32) <<< (nI a &&& 31))) b ↔ b = a ∨ bS sn b := by
  unfold bS
  rw [Int32.shiftRight_or, i32_dist, bS_1 a ha b hb]
  by_cases e : b = a
  · rw [if_pos e]
    rcases i32_and1 (sn >>> (nI b &&& 31)) with h | h <;> rw [h]
    · exact ⟨fun _ => Or.inl e, fun _ => by decide⟩
    · exact ⟨fun _ => Or.inl e, fun _ => by decide⟩
  · rw [if_neg e, Int32.or_zero]
    exact ⟨Or.inr, fun h => h.elim (fun z => absurd z e) id⟩
/-- the value that is matched, as an arm has it: q = 0: the value itself, j parts of which are gone; q = 1, 2: a reference of loan m -/
def mE (q row m j : Nat) : tE := if q = 0 then (4, row, j) else (q + 4, row, m + 64 * j)
theorem wl_mE {q row m j : Nat} {s : List tE} (hq : q = 0 ∨ q = 1 ∨ q = 2) (hs : wl s = 0) : wl (mE q row m j :: s) = 0 := by
  show wl s + (if (mE q row m j).1 = 8 ∨ (mE q row m j).1 = 4 ∨ (mE q row m j).1 = 5 ∨ (mE q row m j).1 = 6 then 0 else 1) = 0
  rw [hs, if_pos]
  unfold mE
  rcases hq with rfl | rfl | rfl
  · exact Or.inr (Or.inl rfl)
  · exact Or.inr (Or.inr (Or.inl rfl))
  · exact Or.inr (Or.inr (Or.inr rfl))
/-- ahead of the arms -/
def sE (q sh m : Nat) : tE := if q = 0 then (0, 4 + sh, 0) else (q, 4 + sh, m)
theorem mE_r {q row m j : Nat} (h : q ≠ 0) : mE q row m j = (q + 4, row, m + 64 * j) := if_neg h
theorem vl_m {x : tE} {v : Nat} {O : List tE} (h : vl O = 0) : vl (x :: (8, v, 0) :: O) ≤ 211 := by
  have h1 := vl_any (x := x) (s := (8, v, 0) :: O)
  rw [vl_8] at h1
  omega
theorem vl_n {x : tE} {O : List tE} (h : vl O = 0) : vl (x :: O) ≤ 211 := by
  have h1 := vl_any (x := x) (s := O)
  omega
/-- a stack's rest below which variables from n on are not in scope -/
def oB (n : Nat) (O : List tE) : Prop := vl O = 0 ∧ ∀ x : tE, x ∈ O → ∀ w : Nat, x = (8, w, 0) → w < n
theorem oB_sc {F : tF} {n a b : Nat} {O : List tE} (h : scI F n a b O) : oB n O := by
  refine ⟨scI_vl h, fun x hx w e => ?_⟩
  obtain ⟨v, f, g, e2, hv, -⟩ := h x hx
  rw [e2] at e
  injection e with e3 e4
  injection e4 with e5 e6
  omega
/-- BIND: variable v takes part j -/
def tBd (X : tF) (G : Nat → Nat → Nat) (rs q row m j v : Nat) : tR := fun F a b => b = a + 1 ∧ ∀ (J : Int32 → List tE → Prop) (O : List tE), oB v O → sg F X G rs J a b (some (mE q row m j :: O)) (some (mE q row m (j + 1) :: (8, v, 0) :: O))
/-- a part of a value -/
theorem l_bindv {yp lo rs sh g j n m T z : Nat} {X : tF} {G : Nat → Nat → Nat} {na mu : Int32} {s w x t : tgS} (hI : tI yp X s) (hD : tDe s w na mu (nI (s.1 0))) (hS : tSe w x (s.1 4) T z) (hz : s.2 22 T = nI z ∧ z ≤ 17) (hA : tAd x t 29 (nI (s.1 4)) (X 3 ((sh * 12 + g) * 12 + j)) (x.2 22 (4 + sh)) (-1)) (h4 : s.1 4 < 40) (hc : s.1 0 < 6000) (hsh : sh < yp) (hK : s.2 20 (4 + sh) = 3) (hg : g < 12) (hn : X 1 (sh * 12 + g) = nI n) (hj : j < n) (hn12 : n ≤ 12) (hT : X 2 ((sh * 12 + g) * 12 + j) = nI T) (hV : tyV yp (s.1 7) (s.2 20) T) : tI yp X t ∧ nwI (s.1 4) t [(8, s.1 4, 0)] ∧ tOK lo 1 0 0 0 1 s t (tBd X G rs 0 (sh * 12 + g) m j (s.1 4)) := by
  have t4 : t.1 4 = s.1 4 + 1 := by rw [hA.1 4 (by decide), hS.2.1 4 (by decide), hD.1]
  have w7 := hD.2.1 7 (by decide); have w0 := hD.2.1 0 (by decide); have x0 := hS.2.1 0 (by decide)
  have hu9 : w.2 15 (s.1 4) = -1 := by rw [hD.2.2.2.2.1, pk_us]
  have hx0 : x.1 0 < 6000 := by omega
  have hIw := tI_de hI hD
  have hIx := tI_se hIw hS (by rw [hD.1]; omega) hu9 (by rw [w7, hD.2.2.1 20 (by decide)]; exact hV) (by rw [hD.2.2.1 22 (by decide)]; exact hz.1) hz.2 (by rw [hD.1]; omega)
  have hIt := tI_ad hIx hA hx0 (by unfold isL; decide)
  have hT7 : T < s.1 7 := hV.2
  have hT34 : 34 ≤ s.1 7 := hI.1.1
  have hT30 : s.1 7 ≤ 3040 := hI.1.2.1
  have hyp : yp ≤ 30 := hI.1.2.2.1
  have t18 : t.2 18 (s.1 4) = nI (x.1 0) := by rw [hA.2.1 18 (by decide), hS.2.2.1 18 (by decide) (by decide), hD.2.2.2.2.2.2.2.1, pk_us, x0, w0]
  have t19 : t.2 19 (s.1 4) = 1073741824 := by rw [hA.2.1 19 (by decide), hS.2.2.1 19 (by decide) (by decide), hD.2.2.2.2.2.2.2.2, pk_us]
  have t15 : t.2 15 (s.1 4) = nI T := by rw [hA.2.1 15 (by decide), hS.2.2.2.1, pk_us]
  have t0 : t.1 0 = x.1 0 + 1 := (insA_lt hA.2.2.1 hx0).1
  have t7 : t.1 7 = s.1 7 := by rw [hA.1 7 (by decide), hS.2.1 7 (by decide), w7]
  have t20 : t.2 20 = s.2 20 := by rw [hA.2.1 20 (by decide), hS.2.2.1 20 (by decide) (by decide), hD.2.2.1 20 (by decide)]
  have t22 : t.2 22 = x.2 22 := hA.2.1 22 (by decide)
  have h3 := tOK_nc (tOK_de (lo := lo) hD) (tOK_se (lo := lo) hS hu9)
  refine ⟨hIt, ⟨fun x9 hx9 => ?_, nwC_1 (by omega)⟩, tOK_sq h3 (tOK_ad (lo := lo) hA hx0 (by unfold isL; decide)) (by omega) (fun F hF g1 g2 => ?_)⟩
  · rw [List.mem_singleton] at hx9
    exact ⟨s.1 4, x.1 0, hx9, Nat.le_refl _, by omega, t19, t18, by omega⟩
  · have g1 : x.1 0 = s.1 0 := g1
    obtain ⟨b1, k0, k1, k2, k3, -⟩ := g2
    refine ⟨by omega, fun J O hO => ?_⟩
    rw [b1, ← g1]
    obtain ⟨f1', f2', f3', -⟩ := hF.2.2.2.2 (s.1 4) (by omega)
    have f15 : F 15 (s.1 4) = nI T := by rw [(f1' (by rw [t15]; exact nI_ne1 (by omega))).1, t15]
    have f20 : F 20 (4 + sh) = 3 := by rw [hF.2.2.2.1 20 (by decide) (by decide) (4 + sh) (by omega), t20]; exact hK
    have f22 : F 22 (4 + sh) = x.2 22 (4 + sh) := by rw [hF.2.2.2.1 22 (by decide) (by decide) (4 + sh) (by omega), t22]
    exact sg_one (o := 29) k0 ⟨s.1 4, k1, h4⟩ (vl_n hO.1) (vs (vl_m hO.1)) (fun k hk9 => ⟨s.1 4, sh, g, j, n, T, O, h4, k1, by omega, f20, hg, hn, hj, hn12, hT, f15, f3'.trans t18, fun x9 hx9 e9 => absurd (hO.2 x9 hx9 _ e9) (Nat.lt_irrefl _), k2, k3.trans f22.symm, rfl, hk9⟩)
/-- a reference to a part -/
theorem l_bindr {yp lo rs sh g j n u ri b q : Nat} {X : tF} {G : Nat → Nat → Nat} {na mu kd : Int32} {s w y x t : tgS} (hI : tI yp X s) (hD : tDe s w na mu (nI (s.1 0))) (hM : tMk kd u ri w y) (hkd : (q = 1 ∧ kd = 5) ∨ (q = 2 ∧ kd = 6)) (hS : tSe y x (s.1 4) ri 1) (hA : tAd x t 30 (nI (s.1 4)) (X 3 ((sh * 12 + g) * 12 + j)) (nI b) (-1)) (h4 : s.1 4 < 40) (hc : s.1 0 < 6000) (hc7 : s.1 7 < 3040) (hb : b < 54) (hsh : sh < yp) (hK : s.2 20 (4 + sh) = 3) (hg : g < 12) (hn : X 1 (sh * 12 + g) = nI n) (hj : j < n) (hn12 : n ≤ 12) (hT : X 2 ((sh * 12 + g) * 12 + j) = nI u) (hN : tyN yp (s.2 20) u) (hu : u < s.1 7) : tI yp X t ∧ nwI (s.1 4) t [(8, s.1 4, 0)] ∧ tOK lo 1 0 0 0 1 s t (tBd X G rs q (sh * 12 + g) (b + 1) j (s.1 4)) := by
  have w7 := hD.2.1 7 (by decide); have w0 := hD.2.1 0 (by decide); have w20 := hD.2.2.1 20 (by decide)
  have hIw := tI_de hI hD
  have hNw : tyN yp (w.2 20) u := by rw [w20]; exact hN
  have hIy := tI_mk hIw hM hNw (by omega) (by omega)
  obtain ⟨o2, hty, hr34, hr7, hrk⟩ := tOK_mk (lo := lo) hM hIw.1 hNw (by omega) (by omega)
  have y4 := hM.1 4 (by decide); have y0 := hM.1 0 (by decide)
  have hu9 : y.2 15 (s.1 4) = -1 := by rw [hM.2.1 15 (by decide), hD.2.2.2.2.1, pk_us]
  have hz1 : y.2 22 ri = nI 1 := (hIy.1.2.2.2.2.2.2.2.1 ri hr34 hr7).2.1
  have hkk : kd = 5 ∨ kd = 6 := hkd.imp (fun z => z.2) (fun z => z.2)
  have hIx := tI_se hIy hS (by rw [y4, hD.1]; omega) hu9 ⟨Or.inr ⟨hr34, by rw [hrk]; exact hkk⟩, hr7⟩ hz1 (by decide) (by rw [y4, hD.1]; omega)
  have x0 := hS.2.1 0 (by decide)
  have hx0 : x.1 0 < 6000 := by omega
  have hIt := tI_ad hIx hA hx0 (by unfold isL; decide)
  have hT34 : 34 ≤ s.1 7 := hI.1.1
  have hyp : yp ≤ 30 := hI.1.2.2.1
  have t4 : t.1 4 = s.1 4 + 1 := by rw [hA.1 4 (by decide), hS.2.1 4 (by decide), y4, hD.1]
  have t18 : t.2 18 (s.1 4) = nI (x.1 0) := by rw [hA.2.1 18 (by decide), hS.2.2.1 18 (by decide) (by decide), hM.2.1 18 (by decide), hD.2.2.2.2.2.2.2.1, pk_us, x0, y0, w0]
  have t19 : t.2 19 (s.1 4) = 1073741824 := by rw [hA.2.1 19 (by decide), hS.2.2.1 19 (by decide) (by decide), hM.2.1 19 (by decide), hD.2.2.2.2.2.2.2.2, pk_us]
  have t15 : t.2 15 (s.1 4) = nI ri := by rw [hA.2.1 15 (by decide), hS.2.2.2.1, pk_us]
  have t0 : t.1 0 = x.1 0 + 1 := (insA_lt hA.2.2.1 hx0).1
  have t7 : t.1 7 = y.1 7 := by rw [hA.1 7 (by decide), hS.2.1 7 (by decide)]
  have hy7 := o2.1.1 7 (by decide)
  have hri : ri < 3040 := hM.2.2.2.1
  have t20 : t.2 20 = y.2 20 := by rw [hA.2.1 20 (by decide), hS.2.2.1 20 (by decide) (by decide)]
  have y20 : y.2 20 (4 + sh) = 3 := by rw [o2.1.2.2.2.2.1 20 (by decide) (by decide) (4 + sh) (by omega), w20]; exact hK
  have K := tOK_seq (tOK_seq (tOK_seq (tOK_de (lo := lo) hD) o2) (tOK_se (lo := lo) hS hu9)) (tOK_ad (lo := lo) hA hx0 (by unfold isL; decide))
  refine ⟨hIt, ⟨fun x9 hx9 => ?_, nwC_1 (by omega)⟩, tOK_mn K (Nat.le_refl _) (by omega) (fun F hF hz => ?_)⟩
  · rw [List.mem_singleton] at hx9
    exact ⟨s.1 4, x.1 0, hx9, Nat.le_refl _, by omega, t19, t18, by omega⟩
  · obtain ⟨m3, -, -, ⟨m2, -, -, ⟨m1, -, -, e1, e2, f20, f21⟩, e3⟩, b1, k0, k1, k2, k3, -⟩ := hz
    have e1 : m1 = s.1 0 := e1
    have e3 : m3 = m2 := e3
    have em : m3 = s.1 0 := by omega
    rw [em] at b1 k0 k1 k2 k3
    refine ⟨b1, fun J O hO => ?_⟩
    rw [b1]
    obtain ⟨f1', f2', f3', -⟩ := hF.2.2.2.2 (s.1 4) (by omega)
    have f15 : F 15 (s.1 4) = nI ri := by rw [(f1' (by rw [t15]; exact nI_ne1 (by omega))).1, t15]
    have f18 : F 18 (s.1 4) = nI (s.1 0) := by rw [f3', t18, show x.1 0 = s.1 0 by omega]
    have g20 : F 20 (4 + sh) = 3 := by rw [hF.2.2.2.1 20 (by decide) (by decide) (4 + sh) (by omega), t20]; exact y20
    have hq0 : q ≠ 0 := by rcases hkd with z | z <;> omega
    have hNf : tNf F ri = (q, cN (X 2 ((sh * 12 + g) * 12 + j)), 0) := by
      rw [hT, cN_nI (by omega)]
      rcases hkd with ⟨z1, z2⟩ | ⟨z1, z2⟩
      · rw [tNf_5 (by omega) (f20.trans z2) f21 (by omega), z1]
      · rw [tNf_6 (by omega) (f20.trans z2) f21 (by omega), z1]
    rw [mE_r hq0, mE_r hq0]
    exact sg_one (o := 30) k0 ⟨s.1 4, b, k1, h4, k3, hb⟩ (vl_n hO.1) (vs (vl_m hO.1)) (fun k hk9 => ⟨s.1 4, sh, g, j, n, ri, b, q, O, h4, k1, by omega, g20, hg, hn, hj, hn12, by rcases hkd with z | z <;> omega, f15, hri, hNf, f18, fun x9 hx9 e9 => absurd (hO.2 x9 hx9 _ e9) (Nat.lt_irrefl _), k2, k3, hb, rfl, hk9⟩)
theorem tnwA_vl {fi : Nat} {t : tgS} : ∀ {N : List tE}, tnwA fi t N → vl N = 0
  | [], _ => rfl
  | x :: N, h => by
    obtain ⟨v, f, e, -⟩ := h x (List.mem_cons_self ..)
    have h2 := tnwA_vl (N := N) (fun y hy => h y (List.mem_cons_of_mem _ hy))
    rw [e, vl_8, h2]
/-- j parts are bound: N: their variables -/
def tBi (yp : Nat) (X : tF) (G : Nat → Nat → Nat) (rs q row m j : Nat) (s t : tgS) : Prop := tI yp X t ∧ tJ t ∧ t.1 4 = s.1 4 + j ∧ t.1 5 = s.1 5 ∧ t.1 0 = s.1 0 + j ∧ t.1 1 = s.1 1 ∧ t.1 2 = s.1 2 ∧ t.1 3 = s.1 3 ∧ ∃ N : List tE, nwI (s.1 4) t N ∧ tOK (s.1 1) j 0 0 0 j s t (fun F a b => ∀ (J : Int32 → List tE → Prop) (O : List tE), oB (s.1 4) O → sg F X G rs J a b (some (mE q row m 0 :: O)) (some (mE q row m j :: (N ++ O))))
theorem tBi_0 {yp rs q row m : Nat} {X : tF} {G : Nat → Nat → Nat} {s : tgS} (hI : tI yp X s) (hJ : tJ s) : tBi yp X G rs q row m 0 s s := ⟨hI, hJ, rfl, rfl, rfl, rfl, rfl, rfl, [], nwI_0 (Nat.le_refl _), tOK_mn tOK_rf (Nat.le_refl _) (by omega) (fun F hF y J O hO => sg_nil (vs (vl_n hO.1)))⟩
theorem tBi_S {yp rs q row m j : Nat} {X : tF} {G : Nat → Nat → Nat} {s t u : tgS} (h : tBi yp X G rs q row m j s t) (hI : tI yp X u) (hJ : tJ u) (hN : nwI (t.1 4) u [(8, t.1 4, 0)]) (ho : tOK (s.1 1) 1 0 0 0 1 t u (tBd X G rs q row m j (t.1 4))) (hu : u.1 4 = t.1 4 + 1 ∧ u.1 5 = t.1 5 ∧ u.1 0 = t.1 0 + 1 ∧ u.1 1 = t.1 1 ∧ u.1 2 = t.1 2 ∧ u.1 3 = t.1 3) : tBi yp X G rs q row m (j + 1) s u := by
  obtain ⟨a1, a2, a3, a4, a5, a6, a7, a8, N, a9, a10⟩ := h
  refine ⟨hI, hJ, by omega, by omega, by omega, by omega, by omega, by omega, (8, t.1 4, 0) :: N, ?_, tOK_sq a10 ho (by omega) (fun F hF y1 y2 J O hO => ?_)⟩
  · exact ⟨tnwA_app (M := [(8, t.1 4, 0)]) (tnwA_le hN.1 (by omega)) (tnwA_x a9.1 ho.1 ho.2.1.2), nwC_cat (M := N) (N := [(8, t.1 4, 0)]) a9.2 hN.2 ho.1 ho.2.1.2⟩
  · have hv := tnwA_vl a9.1
    have hv2 : oB (t.1 4) (N ++ O) := by
      refine ⟨by rw [vl_app, hv]; have := hO.1; omega, fun x9 hx9 w9 e9 => ?_⟩
      rcases List.mem_append.mp hx9 with z9 | z9
      · obtain ⟨v9, f9, e8, g1, g2, -⟩ := a9.1 x9 z9
        rw [e8] at e9
        injection e9 with e3 e4
        injection e4 with e5 e6
        omega
      · have := hO.2 x9 z9 w9 e9
        omega
    exact sg_app (y1 J O hO) (y2.2 J (N ++ O) hv2) (a10.1.1 0 (by decide)) (ho.1.1 0 (by decide))
/-- an arm, behind its label -/
def tAm (X : tF) (G : Nat → Nat → Nat) (rs n q row m : Nat) (r : Int32) : tR := fun F a b => ∀ (J : Int32 → List tE → Prop) (O : List tE), scJ F n a b O → sg F X G rs J a b (some (mE q row m 0 :: O)) (if r = 1 then none else some O)
def tArm (yp : Nat) (X : tF) (G : Nat → Nat → Nat) (rs tt nw q nw2 b v mq row m : Nat) (ft ft2 : Int32) (s t : tgS) (r : Int32) (qt2 qv2 ql2 : Nat) (qp2 qm2 : Int32) : Prop := tSb0 tt nw2 b v ft2 s t r qt2 qv2 ql2 qp2 qm2 ∧ (ft2 = 0 → ft = 0 ∧ nw2 = q ∧ tI yp X t ∧ tOK (s.1 1) (2 * (q - nw) - 4) (2 * (cL X q - cL X nw) - 2) (q - nw) (2 * (q - nw) - 4) (q - nw) s t (tAm X G rs (s.1 4) mq row m r) ∧ nwC (s.1 4) t [])
/-- its binds, POP, its block -/
theorem l_marm {yp rs tt nw B q n2 b v j mq sh g m : Nat} {X : tF} {G : Nat → Nat → Nat} {ft f2 x1 r : Int32} {s t w y : tgS} {qt qv ql : Nat} {qp qm : Int32} (h : tBi yp X G rs mq (sh * 12 + g) m j s t) (hA : tAd t w 31 x1 0 0 (-1)) (hb : tBs 3 yp X G rs tt B q n2 b v (s.1 4) ft f2 w y r qt qv ql qp qm) (hx1 : x1 = if mq = 0 then s.2 22 (4 + sh) else 1) (hmq : mq = 0 ∨ mq = 1 ∨ mq = 2) (hsh : sh < yp) (hg : g < 12) (hX : X 1 (sh * 12 + g) = nI j) (hp : nw + j + 2 ≤ B ∧ B + 2 ≤ q) (hcl : cL X nw + 1 ≤ cL X B) (hc0 : s.1 0 + j < 6000) (hf : ft = 0) (hI : tI yp X s) : tArm yp X G rs tt nw q n2 b (j + v) mq (sh * 12 + g) m ft f2 s y r qt qv ql qp qm := by
  obtain ⟨a1, a2, a3, a4, a5, a6, a7, a8, N, a9, a10⟩ := h
  obtain ⟨⟨b1, b2, b3, b4, b5, b6, b7⟩, h5⟩ := hb
  have w4 := hA.1 4 (by decide); have w5 := hA.1 5 (by decide)
  refine ⟨⟨b1, b2, b3, b4, by omega, by omega, b7⟩, fun z => ?_⟩
  obtain ⟨c1, c2, c3, c4⟩ := h5 z
  have ht0 : t.1 0 < 6000 := by omega
  have oA := tOK_ad (lo := s.1 1) hA ht0 (by unfold isL; decide)
  have hNw : nwI (s.1 4) w N := ⟨tnwA_x a9.1 oA.1 oA.2.1.2, nwC_x a9.2 oA.1 oA.2.1.2 (by omega)⟩
  have c5 := c4.1 N hNw
  have w1 := hA.1 1 (by decide)
  have cl2 := cL_le (X := X) (show B ≤ q by omega)
  have w0 : w.1 0 = t.1 0 + 1 := (insA_lt hA.2.2.1 ht0).1
  have k1 := tOKb_of (fi := s.1 4) a10 (Nat.le_refl _)
  have k2 := tOKb_of (fi := s.1 4) oA (by omega)
  have c5 : tOKb (s.1 4) (s.1 1) (2 * (q - B) - 3) (2 * (cL X q - cL X B)) (q - B) (2 * (q - B)) (q - B) w y (tBm X G rs (s.1 4) N r) := by
    have e : w.1 1 = s.1 1 := by omega
    rw [← e]; exact c5
  have k3 := tOKb_sq (k0 := j + 1) (k1 := 0) (k2 := 0) (k3 := 0) (k7 := j) (R := tSq (fun F a b => ∀ (J : Int32 → List tE → Prop) (O : List tE), oB (s.1 4) O → sg F X G rs J a b (some (mE mq (sh * 12 + g) m 0 :: O)) (some (mE mq (sh * 12 + g) m j :: (N ++ O)))) (tIn 31 x1 0 0 (-1))) k1 k2 (by omega) (fun F hF y1 y2 => ⟨t.1 0, a10.1.1 0 (by decide), oA.1.1 0 (by decide), y1, y2⟩)
  refine ⟨c1, c2, c3, tOKb_ok (tOKb_sq k3 c5 (by omega) (fun F hF y1 y2 J O hO => ?_)), c4.2⟩
  obtain ⟨m1, m2, m3, y3, z1, g0, g1, -⟩ := y1
  have hv := scI_vl hO.1
  have hvN := tnwA_vl a9.1
  have hvNO : vl (N ++ O) = 0 := by rw [vl_app, hvN]; omega
  have x1' := y3 J O (oB_sc hO.1)
  have hFt := hF.2.2.2
  have hxs : tXt s y := tXt_tr a10.1 (tXt_tr oA.1 c5.1)
  have hT34 : 34 ≤ s.1 7 := hI.1.1
  have hyp : yp ≤ 30 := hI.1.2.2.1
  have f22 : F 22 (4 + sh) = s.2 22 (4 + sh) := (tFu_dn hFt hxs).1 22 (by decide) (by decide) (4 + sh) (by omega)
  have hpop : sg F X G rs J m1 (w.1 0) (some (mE mq (sh * 12 + g) m j :: (N ++ O))) (some (N ++ O)) := by
    rw [z1]
    refine sg_one (o := 31) g0 (show (31 : Nat) < 33 by decide) (vl_n hvNO) (vs (by omega)) (fun k hk9 => ?_)
    by_cases e : mq = 0
    · rw [if_pos e] at hx1
      refine ⟨sh * 12 + g, 4, j, N ++ O, ?_, Or.inl ⟨rfl, sh, g, by omega, hg, rfl, hX, ?_⟩, hk9⟩
      · unfold mE; rw [if_pos e]
      · rw [g1, hx1, f22]
    · rw [if_neg e] at hx1
      exact ⟨sh * 12 + g, mq + 4, m + 64 * j, N ++ O, by rw [mE_r e], Or.inr ⟨by omega, by rw [g1, hx1]⟩, hk9⟩
  have x3 := y2 J O (scJ_sub hO (Nat.le_trans m2 m3) (Nat.le_refl _))
  exact sg_app (sg_app x1' hpop m2 m3) x3 (Nat.le_trans m2 m3) (c5.1.1 0 (by decide))
/-- newArms -/
def tNa (s t : tgS) (z : Nat) : Prop := t.2 = s.2 ∧ t.1 3 = min (s.1 3 + z) 2990 ∧ ∀ k : Nat, k ≠ 3 → t.1 k = s.1 k
theorem tJ_na {s t : tgS} {z : Nat} (h : tJ s) (ha : tNa s t z) : tJ t := by
  obtain ⟨a1, a2, a3⟩ := ha
  unfold tJ at *
  rw [a1, a3 0 (by decide), a3 1 (by decide), a3 2 (by decide), a3 4 (by decide), a3 5 (by decide), a3 7 (by decide)]
  exact ⟨h.1, h.2.1, h.2.2.1, by omega, h.2.2.2.2⟩
theorem tI_na {yp z : Nat} {X : tF} {s t : tgS} (h : tI yp X s) (ha : tNa s t z) : tI yp X t := by
  obtain ⟨a1, a2, a3⟩ := ha
  refine tI_of h (by unfold tTy; rw [a1, a3 7 (by decide)]) (a3 4 (by decide)) (by rw [a1]) (a3 6 (by decide)) (by rw [a1]) ?_ (brI_same h.2.2.2.2.2 (a3 0 (by decide)) (Nat.le_of_eq (a3 5 (by decide)).symm) (a3 8 (by decide)) (by rw [a1]) (by rw [a1]) (a3 4 (by decide)) (by rw [a1]))
  unfold lbI
  rw [a1, a3 0 (by decide), a3 1 (by decide)]
  exact h.2.1
theorem tOK_na {lo z : Nat} {s t : tgS} (h : tNa s t z) (hz : s.1 3 + z ≤ 2990) : tOK lo 0 0 0 z 0 s t (fun _ a b => b = a) := by
  obtain ⟨e, a2, a3⟩ := h
  refine ⟨⟨fun k hk => ?_, fun k hk i hi => by rw [e], fun k h1 h2 i hi => by rw [e], fun i hi => by rw [e], fun k h1 h2 i hi => by rw [e], fun v hv => ⟨by rw [e], by rw [e], by rw [e], fun _ => ⟨by rw [e], by rw [e]⟩, Or.inl (by rw [e])⟩⟩, ⟨fun i h1 h2 h3 => absurd h2 (by rw [a3 0 (by decide)]; omega), fun v _ => by rw [e]⟩, ⟨by rw [a3 0 (by decide)]; omega, by rw [a3 1 (by decide)]; omega, by rw [a3 2 (by decide)]; omega, by omega, by rw [a3 7 (by decide)]; omega⟩, fun F hF => a3 0 (by decide)⟩
  by_cases q : k = 3
  · subst q; omega
  · rw [a3 k q]; exact Nat.le_refl _
/-- an arm's label is kept -/
def tArl (s t : tgS) (i L : Nat) : Prop := t.1 = s.1 ∧ (∀ k : Nat, k ≠ 13 → t.2 k = s.2 k) ∧ t.2 13 = upd (s.2 13) i (nI L)
theorem tJ_al {s t : tgS} {i L : Nat} (h : tJ s) (ha : tArl s t i L) : tJ t := by
  obtain ⟨a1, a2, a3⟩ := ha
  unfold tJ at *
  rw [a1, a2 15 (by decide), a2 16 (by decide), a2 21 (by decide), a2 22 (by decide), a2 24 (by decide), a2 25 (by decide), a2 26 (by decide)]
  exact h
theorem tI_al {yp i L : Nat} {X : tF} {s t : tgS} (h : tI yp X s) (ha : tArl s t i L) : tI yp X t := by
  obtain ⟨a1, a2, a3⟩ := ha
  refine tI_of h (by unfold tTy; rw [a1, a2 20 (by decide), a2 21 (by decide), a2 22 (by decide), a2 23 (by decide), a2 24 (by decide), a2 25 (by decide), a2 26 (by decide)]) (by rw [a1]) (a2 15 (by decide)) (by rw [a1]) (a2 17 (by decide)) ?_ (brI_same h.2.2.2.2.2 (by rw [a1]) (Nat.le_of_eq (by rw [a1])) (by rw [a1]) (a2 0 (by decide)) (a2 2 (by decide)) (by rw [a1]) (a2 19 (by decide)))
  unfold lbI
  rw [a1, a2 0 (by decide), a2 1 (by decide), a2 5 (by decide)]
  exact h.2.1
theorem lbU_al {s t : tgS} {i L M : Nat} (h : lbU s M) (ha : tArl s t i L) : lbU t M := by
  obtain ⟨a1, a2, a3⟩ := ha
  unfold lbU
  rw [a1, a2 0 (by decide), a2 1 (by decide)]
  exact h
/-- t is s and more, but for labels of arms from n on -/
def tXn (n : Nat) (s t : tgS) : Prop := (∀ k : Nat, k < 9 → s.1 k ≤ t.1 k) ∧ (∀ k : Nat, k < 5 → ∀ i : Nat, i < s.1 0 → t.2 k i = s.2 k i) ∧ (∀ k : Nat, 6 ≤ k → k < 13 → ∀ i : Nat, i < s.1 2 → t.2 k i = s.2 k i) ∧ (∀ i : Nat, i < n → t.2 13 i = s.2 13 i) ∧ (∀ k : Nat, 20 ≤ k → k < 24 → ∀ i : Nat, i < s.1 7 → t.2 k i = s.2 k i) ∧ ∀ v : Nat, v < s.1 4 → tXv s t v
theorem tXn_of {n : Nat} {s t : tgS} (h : tXt s t) (hn : n ≤ s.1 3) : tXn n s t := ⟨h.1, h.2.1, h.2.2.1, fun i hi => h.2.2.2.1 i (by omega), h.2.2.2.2.1, h.2.2.2.2.2⟩
theorem tXn_al {n i L : Nat} {s t : tgS} (ha : tArl s t i L) (hn : n ≤ i) : tXn n s t := by
  obtain ⟨a1, a2, a3⟩ := ha
  exact ⟨fun k hk => by rw [a1]; exact Nat.le_refl _, fun k hk j hj => by rw [a2 k (by omega)], fun k h1 h2 j hj => by rw [a2 k (by omega)], fun j hj => by rw [a3]; exact pk_un (by omega), fun k h1 h2 j hj => by rw [a2 k (by omega)], fun v hv => ⟨by rw [a2 14 (by decide)], by rw [a2 16 (by decide)], by rw [a2 18 (by decide)], fun _ => ⟨by rw [a2 15 (by decide)], by rw [a2 17 (by decide)]⟩, Or.inl (by rw [a2 19 (by decide)])⟩⟩
theorem tXn_tr {n : Nat} {s u t : tgS} (h1 : tXn n s u) (h2 : tXn n u t) : tXn n s t := by
  obtain ⟨a1, a2, a3, a4, a5, a6⟩ := h1
  obtain ⟨b1, b2, b3, b4, b5, b6⟩ := h2
  have c0 := a1 0 (by decide); have c2 := a1 2 (by decide); have c3 := a1 3 (by decide); have c4 := a1 4 (by decide); have c7 := a1 7 (by decide)
  refine ⟨fun k hk => Nat.le_trans (a1 k hk) (b1 k hk), fun k hk i hi => (b2 k hk i (by omega)).trans (a2 k hk i hi), fun k h h' i hi => (b3 k h h' i (by omega)).trans (a3 k h h' i hi), fun i hi => (b4 i hi).trans (a4 i hi), fun k h h' i hi => (b5 k h h' i (by omega)).trans (a5 k h h' i hi), fun v hv => ?_⟩
  obtain ⟨d1, d2, d3, d4, d5⟩ := a6 v hv
  obtain ⟨e1, e2, e3, e4, e5⟩ := b6 v (by omega)
  refine ⟨e1.trans d1, e2.trans d2, e3.trans d3, fun h => ?_, ?_⟩
  · obtain ⟨f1, f2⟩ := d4 h
    obtain ⟨g1, g2⟩ := e4 (by rw [f1]; exact h)
    exact ⟨g1.trans f1, g2.trans f2⟩
  · rcases e5 with e5 | ⟨e5, e, e6, e7, e8⟩
    · rcases d5 with d5 | ⟨d5, e, d6, d7, d8⟩
      · exact Or.inl (e5.trans d5)
      · exact Or.inr ⟨d5, e, e5.trans d6, d7, d8⟩
    · rcases d5 with d5 | ⟨d5, e', d6, d7, d8⟩
      · exact Or.inr ⟨d5.symm.trans e5, e, e6, by omega, e8⟩
      · exact absurd (d6.symm.trans e5) (open_ne d8)
theorem tFu_dnn {n : Nat} {s t : tgS} {F : tF} (h : tFu t F) (hx : tXn n s t) : tFu s F := by
  obtain ⟨a1, a2, a3, a4, a5, a6⟩ := hx
  obtain ⟨h1, h2⟩ := h
  have c0 := a1 0 (by decide); have c4 := a1 4 (by decide); have c7 := a1 7 (by decide)
  refine ⟨fun k h h' i hi => (h1 k h h' i (by omega)).trans (a5 k h h' i hi), fun v hv => ?_⟩
  obtain ⟨d1, d2, d3, d4, d5⟩ := a6 v hv
  obtain ⟨e1, e2, e3, e4, e5⟩ := h2 v (by omega)
  refine ⟨fun h => ?_, e2.trans d2, e3.trans d3, fun h => ?_, fun h => ?_⟩
  · obtain ⟨f1, f2⟩ := d4 h
    obtain ⟨g1, g2⟩ := e1 (by rw [f1]; exact h)
    exact ⟨g1.trans f1, g2.trans f2⟩
  · rcases d5 with d5 | ⟨d5, -⟩
    · exact (e4 (by rw [d5]; exact h)).trans d5
    · exact absurd d5 h
  · rcases d5 with d5 | ⟨-, e, d6, d7, d8⟩
    · obtain ⟨e, g1, g2, g3⟩ := e5 (d5.trans h)
      exact ⟨e, g1, by omega, g3⟩
    · exact ⟨e, (e4 (by rw [d6]; exact open_ne d8)).trans d6, d7, Nat.le_of_lt d8⟩
/-- F agrees with what came, but for labels of arms that are not in sn -/
def tAgm (tb tot : Nat) (sn : Int32) (s t : tgS) (F : tF) : Prop := (∀ k : Nat, k < 5 → ∀ i : Nat, s.1 0 ≤ i → i < t.1 0 → F k i = t.2 k i) ∧ (∀ k : Nat, 6 ≤ k → k < 13 → ∀ i : Nat, s.1 2 ≤ i → i < t.1 2 → F k i = t.2 k i) ∧ (∀ i : Nat, s.1 3 ≤ i → i < t.1 3 → (∀ g : Nat, g < tot → i = tb + g → bS sn g) → F 13 i = t.2 13 i) ∧ tFu t F
/-- arms of a match so far: sn: those that are there; table tb of tot -/
def tOKm (tb tot : Nat) (sn : Int32) (lo n0 n1 n2 n3 n7 : Nat) (s t : tgS) (R : tR) : Prop := tXt s t ∧ ((∀ i : Nat, s.1 0 ≤ i → i < t.1 0 → isL (t.2 0 i) → ∃ L : Nat, lo ≤ L ∧ L < t.1 1 ∧ t.2 1 i = nI L) ∧ tOp s t) ∧ (t.1 0 ≤ s.1 0 + n0 ∧ 2 * t.1 1 ≤ 2 * s.1 1 + n1 ∧ t.1 2 ≤ s.1 2 + n2 ∧ t.1 3 ≤ s.1 3 + n3 ∧ t.1 7 ≤ s.1 7 + n7) ∧ (s.1 3 ≤ tb ∧ tb + tot ≤ t.1 3 ∧ (∀ g : Nat, g < tot → bS sn g → ∃ L : Nat, t.2 13 (tb + g) = nI L ∧ L < 1100) ∧ nwC (s.1 4) t []) ∧ ∀ F : tF, tAgm tb tot sn s t F → R F (s.1 0) (t.1 0)
/-- SWITCH and arms so far: z: whether all of them return -/
def tMm (X : tF) (G : Nat → Nat → Nat) (rs n q sh m tb tot Le : Nat) (sn z : Int32) : tR := fun F a b => a < b ∧ ((∀ g : Nat, g < tot → ∃ L : Nat, F 13 (tb + g) = nI L ∧ L < 1100) → ∀ (J : Int32 → List tE → Prop) (O : List tE), scJ F n a b O → sg F X G rs (fun M st => J M st ∨ (∃ g : Nat, g < tot ∧ ¬ bS sn g ∧ M = F 13 (tb + g) ∧ st = mE q (sh * 12 + g) m 0 :: O) ∨ (z ≠ 1 ∧ M = nI Le ∧ st = O)) a b (some (sE q sh m :: O)) none)
/-- the SWITCH -/
theorem l_msw {yp rs q sh m tot Le : Nat} {X : tF} {G : Nat → Nat → Nat} {x2 : Int32} {s s1 s2 s3 : tgS} (h1 : tNa s s1 tot) (h2 : tNl s1 s2 Le) (h3 : tAd s2 s3 20 (nI (s.1 3)) x2 (nI tot) (-1)) (hI : tI yp X s) (hx2 : x2 = if q = 0 then s.2 22 (4 + sh) else 0) (hq : q = 0 ∨ q = 1 ∨ q = 2) (hsh : sh < yp) (hK : s.2 20 (4 + sh) = 3) (hn : X 0 sh = nI tot) (h12 : tot ≤ 12) (h0 : s.1 0 < 6000) (hl1 : s.1 1 < 1100) (h29 : s.1 3 ≤ 2978) : tI yp X s3 ∧ lbU s3 Le ∧ Le = s.1 1 ∧ s3.1 1 = s.1 1 + 1 ∧ s3.1 3 = s.1 3 + tot ∧ s3.1 0 = s.1 0 + 1 ∧ s3.1 4 = s.1 4 ∧ s3.1 5 = s.1 5 ∧ s3.1 7 = s.1 7 ∧ s3.1 2 = s.1 2 ∧ tOKm (s.1 3) tot 0 (s.1 1) 1 2 0 tot 0 s s3 (tMm X G rs (s.1 4) q sh m (s.1 3) tot Le 0 1) := by
  have i1 := tI_na hI h1
  have o1 := tOK_na (lo := s.1 1) h1 (by omega)
  have s11 : s1.1 1 = s.1 1 := h1.2.2 1 (by decide)
  obtain ⟨o2, q2, m2⟩ := nl_x (lo := s.1 1) h2 (by omega)
  have u2 := (tNl_up h2 (by omega)).1
  have i2 := tI_up i1 u2 (Or.inr (Or.inl rfl))
  have hU2 : lbU s2 Le := by rw [q2]; exact lbU_new i1.2.1 u2 (by omega)
  have s10 : s1.1 0 = s.1 0 := h1.2.2 0 (by decide)
  have s20 : s2.1 0 = s1.1 0 := h2.2.1 0 (by decide)
  have hc : s2.1 0 < 6000 := by omega
  have o3 := tOK_ad (lo := s.1 1) h3 hc (by unfold isL; decide)
  have i3 := tI_ad i2 h3 hc (by unfold isL; decide)
  have hU3 : lbU s3 Le := lbU_x (lo := Le + 1) hU2 (tOK_ad (lo := Le + 1) h3 hc (by unfold isL; decide)) (by omega) (by rw [h3.1 1 (by decide)]; omega)
  have s33 : s3.1 3 = s.1 3 + tot := by
    have e1 := h3.1 3 (by decide); have e2 := h2.2.1 3 (by decide); have e3 := h1.2.1
    omega
  have s30 : s3.1 0 = s2.1 0 + 1 := (insA_lt h3.2.2.1 hc).1
  have K := tOK_seq (tOK_seq o1 o2) o3
  have hT34 : 34 ≤ s.1 7 := hI.1.1
  have hyp : yp ≤ 30 := hI.1.2.2.1
  refine ⟨i3, hU3, by omega, by rw [h3.1 1 (by decide)]; omega, s33, by omega, by rw [h3.1 4 (by decide), h2.2.1 4 (by decide), h1.2.2 4 (by decide)], by rw [h3.1 5 (by decide), h2.2.1 5 (by decide), h1.2.2 5 (by decide)], by rw [h3.1 7 (by decide), h2.2.1 7 (by decide), h1.2.2 7 (by decide)], by rw [h3.1 2 (by decide), h2.2.1 2 (by decide), h1.2.2 2 (by decide)], K.1, K.2.1, ?_, ⟨Nat.le_refl _, by omega, fun g hg hb => absurd hb (bS_0 g (by omega)), nwC_0 (by rw [h3.1 4 (by decide), h2.2.1 4 (by decide), h1.2.2 4 (by decide)]; exact Nat.le_refl _)⟩, fun F hF => ⟨by omega, fun hall J O hO => ?_⟩⟩
  · have := K.2.2.1
    omega
  have g0 : F 0 (s.1 0) = nI 20 := by
    rw [hF.1 0 (by decide) (s.1 0) (Nat.le_refl _) (by omega), (insA_lt h3.2.2.1 hc).2, show s.1 0 = s2.1 0 by omega, pk_us]; rfl
  have g1 : F 1 (s.1 0) = nI (s.1 3) := by
    rw [hF.1 1 (by decide) (s.1 0) (Nat.le_refl _) (by omega), (insA_lt h3.2.2.2.1 hc).2, show s.1 0 = s2.1 0 by omega, pk_us]
  have g2 : F 2 (s.1 0) = x2 := by
    rw [hF.1 2 (by decide) (s.1 0) (Nat.le_refl _) (by omega), (insA_lt h3.2.2.2.2.1 hc).2, show s.1 0 = s2.1 0 by omega, pk_us]
  have g3 : F 3 (s.1 0) = nI tot := by
    rw [hF.1 3 (by decide) (s.1 0) (Nat.le_refl _) (by omega), (insA_lt h3.2.2.2.2.2.1 hc).2, show s.1 0 = s2.1 0 by omega, pk_us]
  have hFs : tFu s F := tFu_dn hF.2.2.2 K.1
  have f20 : F 20 (4 + sh) = 3 := (hFs.1 20 (by decide) (by decide) (4 + sh) (by omega)).trans hK
  have f22 : F 22 (4 + sh) = s.2 22 (4 + sh) := hFs.1 22 (by decide) (by decide) (4 + sh) (by omega)
  have hv := scI_vl hO.1
  rw [show s3.1 0 = s.1 0 + 1 by omega]
  refine sg_one (o := 20) g0 ⟨s.1 3, tot, g1, g3, h12, by omega, hall⟩ (vl_n (by omega)) (fun r9 hr9 => absurd hr9 (by simp)) (fun k hk9 => ⟨sh, tot, s.1 3, O, by omega, f20, hn, h12, g1, by omega, ⟨g3, hv⟩, ?_⟩)
  by_cases e : q = 0
  · rw [if_pos e] at hx2
    refine Or.inl ⟨by unfold sE; rw [if_pos e], by rw [g2, hx2, f22], fun g hg => Or.inr (Or.inl ⟨g, hg, bS_0 g (by omega), rfl, ?_⟩)⟩
    unfold mE; rw [if_pos e]
  · rw [if_neg e] at hx2
    refine Or.inr ⟨q, m, by omega, by unfold sE; rw [if_neg e], by rw [g2, hx2], fun g hg => Or.inr (Or.inl ⟨g, hg, bS_0 g (by omega), rfl, ?_⟩)⟩
    simp only [mE, if_neg e, Nat.mul_zero, Nat.add_zero]
end
-- bm.tst9.lean.txt
section
/-- behind the label of an arm -/
theorem l_mlab {yp tag tb L : Nat} {X : tF} {s t u e w : tgS} (hx : tXt s t) (hI : tI yp X t) (h1 : tNl t u L) (h2 : tArl u e (tb + tag) L) (h3 : tSb e w 13 L) (htb : s.1 3 ≤ tb) (hl : t.1 1 < 1100) (hc0 : t.1 0 < 6000) : tI yp X w ∧ tXt s w ∧ w.1 0 = t.1 0 + 1 ∧ w.1 1 = t.1 1 + 1 ∧ w.1 2 = t.1 2 ∧ w.1 3 = t.1 3 ∧ w.1 4 = t.1 4 ∧ w.1 5 = t.1 5 ∧ w.1 7 = t.1 7 := by
  obtain ⟨o1, q1, m1⟩ := nl_x (lo := 0) h1 hl
  have hu := (tNl_up h1 hl).1
  have hIu := tI_up hI hu (Or.inr (Or.inl rfl))
  have hUu : lbU u L := by rw [q1]; exact lbU_new hI.2.1 hu (by omega)
  have hIe := tI_al hIu h2
  have hUe := lbU_al hUu h2
  have e0 : e.1 0 = t.1 0 := by rw [h2.1]; exact h1.2.1 0 (by decide)
  have e1 : e.1 1 = t.1 1 + 1 := by rw [h2.1]; exact m1
  have hc : e.1 0 < 6000 := by omega
  have o3 := tOK_sb (lo := 0) h3 hc (by omega) hUe.1
  have c3 := hx.1 3 (by decide)
  have u3 := h1.2.1 3 (by decide)
  have e3 : e.1 3 = u.1 3 := by rw [h2.1]
  refine ⟨tI_sb hIe hUe h3 hc (by omega), tXn_tr (tXn_of hx (Nat.le_refl _)) (tXn_tr (tXn_of o1.1 c3) (tXn_tr (tXn_al h2 (by omega)) (tXn_of o3.1 (by omega)))), by have := (insA_lt h3.2.2.2.1 hc).1; omega, by rw [h3.1 1 (by decide)]; omega, ?_, ?_, ?_, ?_, ?_⟩
  · rw [h3.1 2 (by decide), h2.1]; exact h1.2.1 2 (by decide)
  · rw [h3.1 3 (by decide), h2.1]; exact h1.2.1 3 (by decide)
  · rw [h3.1 4 (by decide), h2.1]; exact h1.2.1 4 (by decide)
  · rw [h3.1 5 (by decide), h2.1]; exact h1.2.1 5 (by decide)
  · rw [h3.1 7 (by decide), h2.1]; exact h1.2.1 7 (by decide)
/-- one arm more -/
theorem l_mstep {yp lo n0 n1 n2 n3 n7 m0 m1 m2 m3 m7 rs q sh m tb tot Le tag L : Nat} {X : tF} {G : Nat → Nat → Nat} {sn z r z2 : Int32} {s t u e w y t2 : tgS} (h : tOKm tb tot sn lo n0 n1 n2 n3 n7 s t (tMm X G rs (s.1 4) q sh m tb tot Le sn z)) (hI : tI yp X t) (hU : lbU t Le) (h1 : tNl t u L) (h2 : tArl u e (tb + tag) L) (h3 : tSb e w 13 L) (hIy : tI yp X y) (ha : tOK (w.1 1) m0 m1 m2 m3 m7 w y (tAm X G rs (w.1 4) q (sh * 12 + tag) m r)) (hna : nwC (w.1 4) y []) (h5 : tAd y t2 16 (nI Le) 0 0 (-1)) (htag : tag < tot) (h12 : tot ≤ 12) (hns : ¬ bS sn tag) (hlo : lo ≤ t.1 1) (hl : t.1 1 < 1100) (hc0 : t.1 0 < 6000) (hcy : y.1 0 < 6000) (hly : y.1 1 ≤ 1100) (hz : z2 = if z = 1 then r else 0) (hq : q = 0 ∨ q = 1 ∨ q = 2) : tI yp X t2 ∧ lbU t2 Le ∧ tOKm tb tot (sn ||| ((1 : Int32) <<< (nI tag &&& 31))) lo (n0 + m0 + 2) (n1 + m1 + 2) (n2 + m2) (n3 + m3) (n7 + m7) s t2 (tMm X G rs (s.1 4) q sh m tb tot Le (sn ||| ((1 : Int32) <<< (nI tag &&& 31))) z2) := by
  obtain ⟨x1, x2, x3, ⟨x4, x5, x6, x9⟩, x7⟩ := h
  obtain ⟨o1, q1, p1⟩ := nl_x (lo := Le + 1) h1 hl
  have hu := (tNl_up h1 hl).1
  have hUu : lbU u L := by rw [q1]; exact lbU_new hI.2.1 hu (by omega)
  have hUe := lbU_al hUu h2
  obtain ⟨hIw, xsw, w0, w1, w2, w3, w4, w5, w7⟩ := l_mlab x1 hI h1 h2 h3 x4 hl hc0
  have e0 : e.1 0 = t.1 0 := by rw [h2.1]; exact h1.2.1 0 (by decide)
  have e1 : e.1 1 = t.1 1 + 1 := by rw [h2.1]; exact p1
  have e2 : e.1 2 = t.1 2 := by rw [h2.1]; exact h1.2.1 2 (by decide)
  have e3 : e.1 3 = t.1 3 := by rw [h2.1]; exact h1.2.1 3 (by decide)
  have hc : e.1 0 < 6000 := by omega
  have o3 := tOK_sb (lo := lo) h3 hc (by omega) hUe.1
  have o5 := tOK_ad (lo := lo) h5 hcy (by unfold isL; decide)
  have hLe : Le < t.1 1 := hU.1
  have f1 := lbU_al (lbU_x hU o1 (by omega) (by omega)) h2
  have f2 := lbU_sb f1 h3 hc (by omega) (by omega) (by omega)
  have f3 := lbU_x f2 ha (by omega) hly
  have f4 := lbU_x (lo := Le + 1) f3 (tOK_ad (lo := Le + 1) h5 hcy (by unfold isL; decide)) (by omega) (by rw [h5.1 1 (by decide)]; exact hly)
  have y0 : t2.1 0 = y.1 0 + 1 := (insA_lt h5.2.2.1 hcy).1
  have y1 := h5.1 1 (by decide); have y2 := h5.1 2 (by decide); have y3 := h5.1 3 (by decide); have y7 := h5.1 7 (by decide); have y4 := h5.1 4 (by decide)
  have c0 := ha.1.1 0 (by decide); have c2 := ha.1.1 2 (by decide); have c3 := ha.1.1 3 (by decide); have c4 := ha.1.1 4 (by decide); have c1 := ha.1.1 1 (by decide)
  have d0 := x1.1 0 (by decide); have d2 := x1.1 2 (by decide); have d3 := x1.1 3 (by decide); have d4 := x1.1 4 (by decide)
  have W : tXt w t2 := tXt_tr ha.1 o5.1
  have Xt : tXn (s.1 3) t t2 := tXn_tr (tXn_of o1.1 d3) (tXn_tr (tXn_al h2 (by omega)) (tXn_tr (tXn_of o3.1 (by omega)) (tXn_of W (by omega))))
  have r13 : ∀ i : Nat, i < t.1 3 → i ≠ tb + tag → t2.2 13 i = t.2 13 i := fun i hi hne => by
    rw [h5.2.1 13 (by decide), ha.1.2.2.2.1 i (by omega), h3.2.1 13 (by decide), h2.2.2, pk_un hne, h1.1]
  have r13t : t2.2 13 (tb + tag) = nI L := by
    rw [h5.2.1 13 (by decide), ha.1.2.2.2.1 (tb + tag) (by omega), h3.2.1 13 (by decide), h2.2.2, pk_us]
  have hL11 : L < 1100 := by omega
  have hcl9 : nwC (s.1 4) t2 [] := fun v b1 b2 => by
    rcases Nat.lt_or_ge v (t.1 4) with c | c
    · rcases x9 v b1 c with q9 | ⟨e9, g1, g2, g3⟩
      · exact absurd q9 (by simp)
      · exact Or.inr ⟨e9, by rw [h5.2.1 19 (by decide), ha.2.1.2 v (by omega), h3.2.1 19 (by decide), h2.2.1 19 (by decide), h1.1]; exact g1, by omega, g3⟩
    · rcases hna v (by omega) (by omega) with q9 | ⟨e9, g1, g2, g3⟩
      · exact absurd q9 (by simp)
      · exact Or.inr ⟨e9, by rw [h5.2.1 19 (by decide)]; exact g1, by omega, g3⟩
  obtain ⟨k0, k1, k2, k3, k7⟩ := x3
  obtain ⟨j0, j1, j2, j3, j7⟩ := ha.2.2.1
  refine ⟨tI_ad hIy h5 hcy (by unfold isL; decide), f4, tXn_tr (tXn_of x1 (Nat.le_refl _)) Xt, ⟨fun i hi hj hL => ?_, fun a ha9 => ?_⟩, ⟨by omega, by omega, by omega, by omega, by omega⟩, ⟨x4, by omega, fun g hg hb => ?_, hcl9⟩, fun F hF => ?_⟩
  · rcases Nat.lt_or_ge i (t.1 0) with c | c
    · rw [Xt.2.1 0 (by decide) i c] at hL
      obtain ⟨M, g1, g2, g3⟩ := x2.1 i hi c hL
      exact ⟨M, g1, by omega, (Xt.2.1 1 (by decide) i c).trans g3⟩
    · rcases Nat.lt_or_ge i (w.1 0) with c9 | c9
      · rw [W.2.1 0 (by decide) i c9] at hL
        obtain ⟨M, g1, g2, g3⟩ := o3.2.1.1 i (by omega) c9 hL
        exact ⟨M, g1, by omega, (W.2.1 1 (by decide) i c9).trans g3⟩
      · rcases Nat.lt_or_ge i (y.1 0) with c8 | c8
        · rw [o5.1.2.1 0 (by decide) i c8] at hL
          obtain ⟨M, g1, g2, g3⟩ := ha.2.1.1 i c9 c8 hL
          exact ⟨M, by omega, by omega, (o5.1.2.1 1 (by decide) i c8).trans g3⟩
        · exact o5.2.1.1 i c8 hj hL
  · rw [h5.2.1 19 (by decide), ha.2.1.2 a (by omega), h3.2.1 19 (by decide), h2.2.1 19 (by decide), h1.1]
    exact x2.2 a ha9
  · rcases (bS_or (by omega) (by omega)).mp hb with q9 | q9
    · rw [q9]; exact ⟨L, r13t, hL11⟩
    · obtain ⟨M, g1, g2⟩ := x6 g hg q9
      by_cases q8 : g = tag
      · rw [q8]; exact ⟨L, r13t, hL11⟩
      · exact ⟨M, (r13 (tb + g) (by omega) (by omega)).trans g1, g2⟩
  · have hFm : tAgm tb tot sn s t F := ⟨fun k hk i hi hj => (hF.1 k hk i hi (by omega)).trans (Xt.2.1 k hk i hj), fun k hk hk2 i hi hj => (hF.2.1 k hk hk2 i hi (by omega)).trans (Xt.2.2.1 k hk hk2 i hj), fun i hi hj hs => (hF.2.2.1 i hi (by omega) (fun g hg q9 => (bS_or (by omega) (by omega)).mpr (Or.inr (hs g hg q9)))).trans (r13 i hj (fun q9 => hns (hs tag htag q9))), tFu_dnn hF.2.2.2 Xt⟩
    have f13 : F 13 (tb + tag) = nI L := (hF.2.2.1 (tb + tag) (by omega) (by omega) (fun g hg q9 => (bS_or (by omega) (by omega)).mpr (Or.inl (by omega)))).trans r13t
    have hF3 : tAg e w F := ⟨fun k hk i hi hj => (hF.1 k hk i (by omega) (by omega)).trans (W.2.1 k hk i hj), fun k hk hk2 i hi hj => absurd hi (by omega), fun i hi hj => absurd hi (by omega), tFu_dn hF.2.2.2 W⟩
    have hFa : tAg w y F := ⟨fun k hk i hi hj => (hF.1 k hk i (by omega) (by omega)).trans (o5.1.2.1 k hk i hj), fun k hk hk2 i hi hj => (hF.2.1 k hk hk2 i (by omega) (by omega)).trans (o5.1.2.2.1 k hk hk2 i hj), fun i hi hj => (hF.2.2.1 i (by omega) (by omega) (fun g hg q9 => absurd q9 (by omega))).trans (o5.1.2.2.2.1 i hj), tFu_dn hF.2.2.2 o5.1⟩
    have hF5 : tAg y t2 F := ⟨fun k hk i hi hj => hF.1 k hk i (by omega) hj, fun k hk hk2 i hi hj => hF.2.1 k hk hk2 i (by omega) hj, fun i hi hj => absurd hi (by omega), hF.2.2.2⟩
    obtain ⟨hab, hseg⟩ := x7 F hFm
    obtain ⟨l1, l2, l3, -⟩ := o3.2.2.2 F hF3
    have harm := ha.2.2.2 F hFa
    obtain ⟨n1', n2', n3', -⟩ := o5.2.2.2 F hF5
    refine ⟨by omega, fun hall J O hO => ?_⟩
    have hv := scI_vl hO.1
    have hvO : vl O ≤ 211 := by omega
    have hvm : vl (mE q (sh * 12 + tag) m 0 :: O) ≤ 211 := vl_n (by omega)
    have seg1 := sg_none (y := some (mE q (sh * 12 + tag) m 0 :: O)) (hseg hall J O (scJ_sub hO (Nat.le_refl _) (by omega))) hab (vs hvm)
    have seg2 : sg F X G rs (fun M st => J M st ∨ (∃ g : Nat, g < tot ∧ ¬ bS (sn ||| ((1 : Int32) <<< (nI tag &&& 31))) g ∧ M = F 13 (tb + g) ∧ st = mE q (sh * 12 + g) m 0 :: O) ∨ (z2 ≠ 1 ∧ M = nI Le ∧ st = O)) (t.1 0) (w.1 0) (some (mE q (sh * 12 + tag) m 0 :: O)) (some (mE q (sh * 12 + tag) m 0 :: O)) := by
      rw [w0, ← e0]
      exact sg_one (o := 13) l2 ⟨L, l3, hL11⟩ hvm (vs hvm) (fun k9 hk9 => hk9)
    have seg3 := harm (fun M st => J M st ∨ (∃ g : Nat, g < tot ∧ ¬ bS (sn ||| ((1 : Int32) <<< (nI tag &&& 31))) g ∧ M = F 13 (tb + g) ∧ st = mE q (sh * 12 + g) m 0 :: O) ∨ (z2 ≠ 1 ∧ M = nI Le ∧ st = O)) O ⟨scI_sub hO.1 (by omega) (by omega) (by omega), by rw [w4]; exact scX_m (scX_nw (N := []) hO.2 x9 hFm.2.2.2 d0) (by omega)⟩
    have seg4 : sg F X G rs (fun M st => J M st ∨ (∃ g : Nat, g < tot ∧ ¬ bS (sn ||| ((1 : Int32) <<< (nI tag &&& 31))) g ∧ M = F 13 (tb + g) ∧ st = mE q (sh * 12 + g) m 0 :: O) ∨ (z2 ≠ 1 ∧ M = nI Le ∧ st = O)) (y.1 0) (t2.1 0) (if r = 1 then none else some O) none := by
      rw [y0]
      by_cases q9 : r = 1
      · rw [if_pos q9]; exact sg_dead (o := 16) n2' ⟨Le, n3', by omega⟩
      · rw [if_neg q9]
        refine sg_one (o := 16) n2' ⟨Le, n3', by omega⟩ hvO (fun r9 hr9 => absurd hr9 (by simp)) (fun k9 hk9 => ⟨hv, Or.inr (Or.inr ⟨?_, n3', rfl⟩)⟩)
        rw [hz]
        by_cases q8 : z = 1
        · rw [if_pos q8]; exact q9
        · rw [if_neg q8]; decide
    have seg := sg_app (sg_app seg2 seg3 (by omega) c0) seg4 (by omega) (by omega)
    refine sg_app2 seg1 seg (by omega) (by omega) (fun M st h9 => ?_)
    rcases h9 with h9 | ⟨g, g1, g2, g3, g4⟩ | ⟨g1, g2, g3⟩
    · exact Or.inl (Or.inl h9)
    · by_cases q9 : g = tag
      · refine Or.inr ⟨⟨by omega, by rw [g4]; exact wl_mE hq (wl_vl hv)⟩, by rw [← e0]; exact l2, by rw [← e0, l3, g3, q9, f13], by rw [g4, q9]⟩
      · exact Or.inl (Or.inr (Or.inl ⟨g, g1, fun h8 => ((bS_or (by omega) (by omega)).mp h8).elim q9 g2, g3, g4⟩))
    · refine Or.inl (Or.inr (Or.inr ⟨?_, g2, g3⟩))
      rw [hz, if_neg g1]; decide
/-- all arms -/
def tMt (X : tF) (G : Nat → Nat → Nat) (rs n q sh m : Nat) (z : Int32) : tR := fun F a b => ∀ (J : Int32 → List tE → Prop) (O : List tE), scJ F n a b O → sg F X G rs J a b (some (sE q sh m :: O)) (if z = 1 then none else some O)
theorem l_mend {yp lo n0 n1 n2 n3 n7 rs q sh m tb tot Le : Nat} {X : tF} {G : Nat → Nat → Nat} {sn z : Int32} {s t u : tgS} (h : tOKm tb tot sn lo n0 n1 n2 n3 n7 s t (tMm X G rs (s.1 4) q sh m tb tot Le sn z)) (hI : tI yp X t) (hU : lbU t Le) (h3 : tSb t u 13 Le) (hsn : sn = ((1 : Int32) <<< (nI tot &&& 31)) - 1) (h12 : tot ≤ 12) (hlo : lo ≤ Le) (hc0 : t.1 0 < 6000) (hl : t.1 1 ≤ 1100) : tI yp X u ∧ tOK lo (n0 + 1) n1 n2 n3 n7 s u (tMt X G rs (s.1 4) q sh m z) ∧ nwC (s.1 4) u [] := by
  obtain ⟨x1, x2, x3, ⟨x4, x5, x6, x9⟩, x7⟩ := h
  have o3 := tOK_sb (lo := lo) h3 hc0 hlo hU.1
  have u0 : u.1 0 = t.1 0 + 1 := (insA_lt h3.2.2.2.1 hc0).1
  have u1 := h3.1 1 (by decide); have u2 := h3.1 2 (by decide); have u3 := h3.1 3 (by decide); have u4 := h3.1 4 (by decide); have u7 := h3.1 7 (by decide)
  have d0 := x1.1 0 (by decide); have d4 := x1.1 4 (by decide)
  have hLe : Le < 1100 := by have := hU.1; omega
  have hb : ∀ g : Nat, g < tot → bS sn g := fun g hg => by rw [hsn]; exact bS_all tot (by omega) g hg
  refine ⟨tI_sb hI hU h3 hc0 hl, ⟨tXt_tr x1 o3.1, ⟨fun i hi hj hL => ?_, tOp_tr x2.2 o3.2.1.2 d4⟩, by omega, fun F hF => ?_⟩, nwC_x x9 o3.1 o3.2.1.2 (by omega)⟩
  · rcases Nat.lt_or_ge i (t.1 0) with c | c
    · rw [o3.1.2.1 0 (by decide) i c] at hL
      obtain ⟨M, g1, g2, g3⟩ := x2.1 i hi c hL
      exact ⟨M, g1, by omega, (o3.1.2.1 1 (by decide) i c).trans g3⟩
    · exact o3.2.1.1 i c hj hL
  · have hFt := tAg_l hF o3.1 x1
    obtain ⟨hab, hseg⟩ := x7 F ⟨hFt.1, hFt.2.1, fun i a b _ => hFt.2.2.1 i a b, hFt.2.2.2⟩
    obtain ⟨l1, l2, l3, -⟩ := o3.2.2.2 F (tAg_r hF x1)
    intro J O hO
    have hv := scI_vl hO.1
    have hvO : vl O ≤ 211 := by omega
    have seg1 := hseg (fun g hg => by
      obtain ⟨M, g1, g2⟩ := x6 g hg (hb g hg)
      exact ⟨M, (hFt.2.2.1 (tb + g) (by omega) (by omega)).trans g1, g2⟩) J O (scJ_sub hO (Nat.le_refl _) (by omega))
    rw [u0]
    by_cases q9 : z = 1
    · rw [if_pos q9]
      have seg2 : sg F X G rs J (s.1 0) (t.1 0) (some (sE q sh m :: O)) none := sg_wk seg1 (fun M st h9 => by
        rcases h9 with h9 | ⟨g, g1, g2, -⟩ | ⟨g1, -⟩
        · exact h9
        · exact absurd (hb g g1) g2
        · exact absurd q9 g1)
      exact sg_app seg2 (sg_dead (o := 13) l2 ⟨Le, l3, hLe⟩) d0 (Nat.le_succ _)
    · rw [if_neg q9]
      have seg2 : sg F X G rs (fun M st => J M st ∨ (M = nI Le ∧ st = O)) (s.1 0) (t.1 0) (some (sE q sh m :: O)) (some O) := sg_none (sg_wk seg1 (fun M st h9 => by
        rcases h9 with h9 | ⟨g, g1, g2, -⟩ | ⟨-, g2, g3⟩
        · exact Or.inl h9
        · exact absurd (hb g g1) g2
        · exact Or.inr ⟨g2, g3⟩)) hab (vs hvO)
      exact sg_lab (j := t.1 0) (L := nI Le) (r := O) seg2 (sg_one (o := 13) l2 ⟨Le, l3, hLe⟩ hvO (vs hvO) (fun k9 hk9 => hk9)) d0 (Nat.lt_succ_self _) l2 l3 (scI_vl hO.1)
end
-- bm.tsta.lean.txt
section
/-- room for the arms from nw to q; for one arm -/
def tCr (X : tF) (nw q : Nat) (s : tgS) : Prop := s.1 0 + 2 * (q - nw) ≤ 5994 ∧ 2 * s.1 1 + 2 * (cL X q - cL X nw) + 2 ≤ 2200 ∧ s.1 2 + (q - nw) ≤ 3000 ∧ s.1 3 + 2 * (q - nw) + 8 ≤ 2978 ∧ s.1 7 + (q - nw) ≤ 3039
def tCm (X : tF) (nw q : Nat) (s : tgS) : Prop := s.1 0 + 2 * (q - nw) ≤ 5998 ∧ 2 * s.1 1 + 2 * (cL X q - cL X nw) ≤ 2202 ∧ s.1 2 + (q - nw) ≤ 3000 ∧ s.1 3 + 2 * (q - nw) ≤ 2982 ∧ s.1 7 + (q - nw) ≤ 3039
/-- arms so far -/
def tMl (yp : Nat) (X : tF) (G : Nat → Nat → Nat) (rs tt nw pos n9 b8 v8 mq sh m tot Le : Nat) (ft f9 : Int32) (s t : tgS) (sn z : Int32) (qt qv ql : Nat) (qp qm : Int32) : Prop := tSb0 tt n9 b8 v8 f9 s t z qt qv ql qp qm ∧ (f9 = 0 → ft = 0 ∧ n9 = pos ∧ tI yp X t ∧ lbU t Le ∧ Le = s.1 1 ∧ tXt s t ∧ ((sn = 0 ∧ pos = nw ∧ t.1 3 ≤ s.1 3 + 12) ∨ (nw < pos ∧ t.1 3 + 4 ≤ s.1 3 + 12 + 2 * (pos - nw))) ∧ (t.1 0 ≤ s.1 0 + (2 * (pos - nw) + 1) ∧ 2 * t.1 1 ≤ 2 * s.1 1 + (2 * (cL X pos - cL X nw) + 2) ∧ t.1 2 ≤ s.1 2 + (pos - nw) ∧ t.1 7 ≤ s.1 7 + (pos - nw)) ∧ tOKm (s.1 3) tot sn (s.1 1) (2 * (pos - nw) + 1) (2 * (cL X pos - cL X nw) + 2) (pos - nw) (t.1 3 - s.1 3) (pos - nw) s t (tMm X G rs (s.1 4) mq sh m (s.1 3) tot Le sn z))
theorem tMl_0 {yp rs tt nw n9 mq sh m tot Le : Nat} {X : tF} {G : Nat → Nat → Nat} {ft x2 : Int32} {s s1 s2 s3 : tgS} {qt qv ql : Nat} {qp qm : Int32} (h1 : tNa s s1 tot) (h2 : tNl s1 s2 Le) (h3 : tAd s2 s3 20 (nI (s.1 3)) x2 (nI tot) (-1)) (hI : ft = 0 → tI yp X s) (hJ : tJ s3) (hQ : tQ qt qv ql qp qm) (hx2 : x2 = if mq = 0 then s.2 22 (4 + sh) else 0) (hq : mq = 0 ∨ mq = 1 ∨ mq = 2) (hsh : sh < yp) (hK : s.2 20 (4 + sh) = 3) (hn : X 0 sh = nI tot) (h12 : tot ≤ 12) (hcp : ft = 0 → n9 = nw ∧ s.1 0 < 6000 ∧ s.1 1 < 1100 ∧ s.1 3 ≤ 2978) (hn9 : n9 < tt) (hfl : ft ≠ 0 → n9 = tt - 1) : tMl yp X G rs tt nw nw n9 0 0 mq sh m tot Le ft ft s s3 0 1 qt qv ql qp qm := by
  have a4 : s3.1 4 = s.1 4 := by rw [h3.1 4 (by decide), h2.2.1 4 (by decide), h1.2.2 4 (by decide)]
  have a5 : s3.1 5 = s.1 5 := by rw [h3.1 5 (by decide), h2.2.1 5 (by decide), h1.2.2 5 (by decide)]
  refine ⟨⟨hn9, hfl, hJ, hQ, by omega, by omega, Or.inr rfl⟩, fun y => ?_⟩
  obtain ⟨e1, e2, e3, e4⟩ := hcp y
  obtain ⟨i3, hU, hL, b1, b3, b0, b4, b5, b7, b2, hO⟩ := l_msw (rs := rs) (G := G) (q := mq) (m := m) h1 h2 h3 (hI y) hx2 hq hsh hK hn h12 e2 e3 e4
  obtain ⟨y1, y2, y3, y4, y5⟩ := hO
  exact ⟨y, e1, i3, hU, hL, y1, Or.inl ⟨rfl, rfl, by omega⟩, by omega, y1, y2, by omega, y4, y5⟩
/-- one arm more, from A to E -/
theorem tMl_S {yp rs tt nw A E n9 n2 b8 v8 bb vv mq sh m tot Le tag L : Nat} {X : tF} {G : Nat → Nat → Nat} {ft f9 f2 sn z r z2 : Int32} {s t u e w y t2 : tgS} {qt qv ql qt2 qv2 ql2 : Nat} {qp qm qp2 qm2 : Int32} (h : tMl yp X G rs tt nw A n9 b8 v8 mq sh m tot Le ft f9 s t sn z qt qv ql qp qm) (hf9 : f9 = 0) (h1 : tNl t u L) (h2 : tArl u e (s.1 3 + tag) L) (h3 : tSb e w 13 L) (ha : tArm yp X G rs tt A E n2 bb vv mq (sh * 12 + tag) m f9 f2 w y r qt2 qv2 ql2 qp2 qm2) (h5 : tAd y t2 16 (nI Le) 0 0 (-1)) (hJ2 : tJ t2) (htag : tag < tot) (h12 : tot ≤ 12) (hns : ¬ bS sn tag) (hz : z2 = if z = 1 then r else 0) (hp : nw ≤ A ∧ A + 4 ≤ E) (hcl : cL X A + 1 ≤ cL X E) (hcp : tCr X nw E s) (hq3 : mq = 0 ∨ mq = 1 ∨ mq = 2) : tMl yp X G rs tt nw E n2 (b8 + bb) (v8 + vv) mq sh m tot Le ft f2 s t2 (sn ||| ((1 : Int32) <<< (nI tag &&& 31))) z2 qt2 qv2 ql2 qp2 qm2 := by
  obtain ⟨⟨a1, a2, a3, a4, a5, a6, a7⟩, h6⟩ := h
  obtain ⟨⟨b1, b2, b3, b4, b5, b6, b7⟩, h7⟩ := ha
  obtain ⟨c1, c2, c3, c4, cL9, cX, c5, ⟨c6, c7, c8, c9⟩, c10⟩ := h6 hf9
  obtain ⟨r0, r1, r2, r3, r7⟩ := hcp
  have l1 := cL_le (X := X) hp.1; have l2 := cL_le (X := X) (show A ≤ E by omega)
  have hl : t.1 1 < 1100 := by omega
  have hc0 : t.1 0 < 6000 := by omega
  obtain ⟨hIw, xsw, w0, w1, w2, w3, w4, w5, w7⟩ := l_mlab cX c3 h1 h2 h3 (Nat.le_refl _) hl hc0
  have y4 := h5.1 4 (by decide); have y5 := h5.1 5 (by decide); have y3 := h5.1 3 (by decide); have y1 := h5.1 1 (by decide); have y2 := h5.1 2 (by decide); have y7 := h5.1 7 (by decide)
  refine ⟨⟨b1, b2, hJ2, b4, by omega, by omega, ?_⟩, fun f0 => ?_⟩
  · rw [hz]
    by_cases q9 : z = 1
    · rw [if_pos q9]; exact b7
    · rw [if_neg q9]; exact Or.inl rfl
  obtain ⟨d1, d2, d3, d4, d5⟩ := h7 f0
  obtain ⟨j0, j1, j2, j3, j7⟩ := d4.2.2.1
  have k3 := d4.1.1 3 (by decide); have t3 := cX.1 3 (by decide)
  have hcy : y.1 0 < 6000 := by omega
  have hly : y.1 1 ≤ 1100 := by omega
  have y0 : t2.1 0 = y.1 0 + 1 := (insA_lt h5.2.2.1 hcy).1
  have hlo := cX.1 1 (by decide)
  obtain ⟨g1, g2, g3⟩ := l_mstep c10 c3 c4 h1 h2 h3 d3 d4 d5 h5 htag h12 hns hlo hl hc0 hcy hly hz hq3
  obtain ⟨i1, i2, i3, i4, i5⟩ := g3
  have hcc : (sn = 0 ∧ A = nw ∧ t.1 3 ≤ s.1 3 + 12) ∨ (nw < A ∧ t.1 3 + 4 ≤ s.1 3 + 12 + 2 * (A - nw)) := c5
  have hc3 : t.1 3 ≤ s.1 3 + 12 + 2 * (A - nw) := by rcases hcc with q9 | q9 <;> omega
  exact ⟨c1, d2, g1, g2, cL9, i1, Or.inr ⟨by omega, by omega⟩, by omega, i1, i2, by omega, i4, i5⟩
/-- behind the arms -/
def tMr (yp : Nat) (X : tF) (G : Nat → Nat → Nat) (rs tt nw q nw2 b v mq sh m : Nat) (ft ft2 : Int32) (s t : tgS) (r : Int32) (qt2 qv2 ql2 : Nat) (qp2 qm2 : Int32) : Prop := tSb0 tt nw2 b v ft2 s t r qt2 qv2 ql2 qp2 qm2 ∧ (ft2 = 0 → ft = 0 ∧ nw2 = q ∧ tI yp X t ∧ tOK (s.1 1) (2 * (q - nw) + 2) (2 * (cL X q - cL X nw) + 2) (q - nw) (2 * (q - nw) + 8) (q - nw) s t (tMt X G rs (s.1 4) mq sh m r) ∧ nwC (s.1 4) t [])
theorem tMl_E {yp rs tt nw pos q n9 b8 v8 b v mq sh m tot Le : Nat} {X : tF} {G : Nat → Nat → Nat} {ft f9 sn z : Int32} {s t u : tgS} {qt qv ql : Nat} {qp qm : Int32} (h : tMl yp X G rs tt nw pos n9 b8 v8 mq sh m tot Le ft f9 s t sn z qt qv ql qp qm) (h3 : tSb t u 13 Le) (hJ : tJ u) (hsn : f9 = 0 → sn = ((1 : Int32) <<< (nI tot &&& 31)) - 1) (h12 : tot ≤ 12) (h1 : 1 ≤ tot) (hb : b8 ≤ b ∧ v8 ≤ v) (hp : f9 = 0 → nw ≤ pos ∧ pos = q) (hcp : ft = 0 → tCr X nw q s) : tMr yp X G rs tt nw q n9 b v mq sh m ft f9 s u z qt qv ql qp qm := by
  obtain ⟨⟨a1, a2, a3, a4, a5, a6, a7⟩, h6⟩ := h
  have u4 := h3.1 4 (by decide); have u5 := h3.1 5 (by decide)
  refine ⟨⟨a1, a2, hJ, a4, by omega, by omega, a7⟩, fun f0 => ?_⟩
  obtain ⟨c1, c2, c3, c4, cL9, cX, c5, ⟨c6, c7, c8, c9⟩, c10⟩ := h6 f0
  obtain ⟨p1, p2⟩ := hp f0
  obtain ⟨r0, r1, r2, r3, r7⟩ := hcp c1
  subst p2
  have l1 := cL_le (X := X) p1
  have hS := hsn f0
  obtain ⟨g1, g2, g3⟩ := l_mend c10 c3 c4 h3 hS h12 (by omega) (by omega) (by omega)
  have hne : sn ≠ 0 := fun q9 => bS_0 0 (by decide) (by rw [← q9, hS]; exact bS_all tot (by omega) 0 (by omega))
  have t3 := cX.1 3 (by decide)
  have hc3 : nw < pos ∧ t.1 3 + 4 ≤ s.1 3 + 12 + 2 * (pos - nw) := c5.elim (fun q9 => absurd q9.1 hne) id
  exact ⟨c1, c2, g1, tOK_mn g2 (Nat.le_refl _) (by omega) (fun F hF y9 => y9), g3⟩
/-- arms that can't be read on: a fault -/
theorem tMr_bad {yp rs tt nw pos q n9 nX b8 v8 b v mq sh m tot Le : Nat} {X : tF} {G : Nat → Nat → Nat} {ft f9 fX sn z r : Int32} {s t u : tgS} {qt qv ql : Nat} {qp qm : Int32} (h : tMl yp X G rs tt nw pos n9 b8 v8 mq sh m tot Le ft f9 s t sn z qt qv ql qp qm) (hX : fX ≠ 0 ∧ nX = tt - 1) (hn : nX < tt) (hJ : tJ u) (hu : u.1 4 = t.1 4 ∧ u.1 5 = t.1 5) (hr : r = 0 ∨ r = 1) (hb : b8 ≤ b ∧ v8 ≤ v) : tMr yp X G rs tt nw q nX b v mq sh m ft fX s u r qt qv ql qp qm := by
  obtain ⟨⟨a1, a2, a3, a4, a5, a6, a7⟩, -⟩ := h
  exact ⟨⟨hn, fun _ => hX.2, hJ, a4, by omega, by omega, hr⟩, fun f0 => absurd f0 hX.1⟩
/-- match of a value -/
theorem l_mat0 {yp rs k tt nw p0 p q n1 n2 n3 b1 b2 v2 sh m : Nat} {X : tF} {G : Nat → Nat → Nat} {ft f1 f2 r : Int32} {s u t : tgS} {T qv ql qt2 qv2 ql2 : Nat} {qp qm qp2 qm2 : Int32} (hv : tRw yp X G (rs + 4096 * k) tt p0 p n1 b1 ft f1 s u T qv ql qp qm) (hrs : rs < 4096) (hk : k ≤ 16) (hT : T = 4 + sh) (hK : u.2 20 T = 3) (hm : tMr yp X G rs tt (p + 1) q n2 b2 v2 0 sh m f1 f2 u t r qt2 qv2 ql2 qp2 qm2) (hn : n3 < tt) (hf : f2 ≠ 0 → n3 = tt - 1) (h3 : f2 = 0 → n3 = q + 1) (hp : p0 = nw + 1 ∧ p0 < p ∧ p + 1 ≤ q) (hcK : cL X (nw + 1) = cL X nw + 1) : tSs 1 yp X G rs tt nw (q + 1) n3 (b1 + b2) v2 ft f2 s t r qt2 qv2 ql2 qp2 qm2 := by
  obtain ⟨⟨a1, a2, a3, a4, a5, a6⟩, h5⟩ := hv
  obtain ⟨⟨b1', b2', b3, b4, b5, b6, b7⟩, h7⟩ := hm
  refine ⟨⟨hn, hf, b3, b4, by omega, by omega, b7⟩, fun f0 => ?_⟩
  obtain ⟨c1, c2, c3, c4, c5⟩ := h7 f0
  obtain ⟨e1, e2, e3, e4, e5⟩ := h5 c1
  have l1 := cL_le (X := X) (show p0 ≤ p by omega); have l2 := cL_le (X := X) (show p ≤ p + 1 by omega); have l3 := cL_le (X := X) (show p + 1 ≤ q by omega); have l4 := cL_le (X := X) (show q ≤ q + 1 by omega)
  have hlo := e5.1.1 1 (by decide)
  obtain ⟨r0, r1, r2, r3, r7⟩ := e5.2.2.1
  rw [hp.1] at e5 l1 r1
  refine ⟨e1, h3 f0, c3, [], ⟨tnwA_nil, by rw [← a5]; exact c5⟩, tOK_sq e5 (tOK_lo (lo2 := s.1 1) c4 hlo) (by omega) (fun F hF y1 y2 J O hO => ?_)⟩
  have m1 := e5.1.1 0 (by decide); have m2 := c4.1.1 0 (by decide)
  have x1 := s_val (J := J) hrs hk y1 (scJ_sub hO (Nat.le_refl _) (Nat.le_refl _))
  have hT7 : T < u.1 7 := by
    rcases e4 with q9 | q9
    · omega
    · exact q9.2
  have f20 : F 20 T = 3 := ((tFu_dn hF.2.2.2 c4.1).1 20 (by decide) (by decide) T hT7).trans hK
  have eT : tNf F T = sE 0 sh m := by
    rw [tNf_0 (by omega) (by rw [f20]; decide) (by rw [f20]; decide), hT]; rfl
  rw [eT] at x1
  exact sg_app x1 (y2 J O (by rw [a5]; exact scJ_sub hO m1 (Nat.le_refl _))) m1 m2
/-- a loan of what is matched -/
theorem v_lend {lo yp rs : Nat} {X : tF} {G : Nat → Nat → Nat} {s t : tgS} {qt qv ql : Nat} {qa qr qf qm un : Int32} (hI : tI yp X s) (hp : plV yp X s qv ql qa qr qt qm) (hv : qv < 40) (hql : ql ≤ 4) (hc : s.1 0 < 6000) (hc2 : s.1 2 < 3001) (hb : s.1 5 < 54) (h5 : s.2 20 qt ≠ 5) (h6 : s.2 20 qt ≠ 6) (hun : un = 0 ∨ un = 1) (hmu : un = 0 ∨ qm ≠ 0) (h : tLn s t qt qv ql qa qr qf un) : tOK lo 1 0 1 0 0 s t (fun F a b => ∀ (J : Int32 → List tE → Prop) (st : List tE), scX (s.1 4) F a st → vl st ≤ 210 → sg F X G rs J a b (some st) (some ((if un = 1 then 2 else 1, qt, s.1 5 + 1) :: st))) := by
  obtain ⟨S0, S2, u1, p1, a1⟩ := h
  have hT : qt < s.1 7 := hp.2.2.2.2
  have h7 : s.1 7 ≤ 3040 := hI.1.2.1
  have n2 : S0.1 2 = s.1 2 := u1.2.2 2 (by decide)
  have n0 : S0.1 0 = s.1 0 := u1.2.2 0 (by decide)
  have m0 : S2.1 0 = S0.1 0 := p1.1 0 (by decide)
  have q1 := tOK_up5 (lo := lo) u1
  have q2 := tOK_pl (lo := lo) p1 (by rw [n2]; exact hc2)
  have q3 := tOK_ad (lo := lo) a1 (by rw [m0, n0]; exact hc) (by unfold isL; decide)
  have q := tOK_seq q1 (tOK_seq q2 q3)
  refine tOK_mn q (Nat.le_refl _) (by omega) (fun F hF9 hR J st hsc hst => ?_)
  have hF := hF9.2.2.2
  obtain ⟨m, -, -, rfl, m1, -, -, ⟨rfl, f6, f7, f8, f9, f10, f11, f12⟩, e9, g0, g1, g2, g3, g4⟩ := hR
  have hm9 : (8, qv, 0) ∈ st := sc_mem hsc q.1 q.2.1.2 hF hp.1 (Nat.le_refl _) hp.2.1.2 (by omega)
  rw [e9]
  rw [n2] at f6 f7 f8 f9 f10 f11 f12
  have hFs := tFu_dn hF q.1
  have k20 := hFs.1 20 (by decide) (by decide) qt hT
  have k22 := hFs.1 22 (by decide) (by decide) qt hT
  have hpl : plI F X (s.1 2) qv ql qt qa qr qm := ⟨⟨hc2, by rw [f11]; exact aN_ge _⟩, hv, hql, by omega, f6, f7, f8, f9, f10, by rw [f12, k22], plS_F hp.1 hp.2.1.1 hFs h7 _ _ _ _ _ hp.2.2.1⟩
  refine sg_one (o := 4) g0 ⟨s.1 2, qv, s.1 5, g1, hc2, f6, hv, g2, hb⟩ (by omega) (vs (Nat.le_trans vl_cons (Nat.succ_le_succ hst))) (fun k hk' => ⟨s.1 2, qt, s.1 5, s.1 5 + 1, qm, g1, ⟨qv, ql, qa, qr, hpl⟩, by rw [k20]; exact h5, by rw [k20]; exact h6, g2, hb, Or.inr rfl, ?_⟩) (hvi := Or.inr (vIs_pl (o := 4) g0 (Or.inr (Or.inr (Or.inl rfl))) g1 hc2 f6 hv hm9))
  rcases hun with rfl | rfl
  · exact Or.inl ⟨g3, hk'⟩
  · exact Or.inr ⟨g3, hmu.elim (fun q9 => absurd q9 (by decide)) id, hk'⟩
theorem l_ml {yp rs1 tt p0 p n1 b1 : Nat} {X : tF} {G : Nat → Nat → Nat} {ft f1 : Int32} {s u w : tgS} {T qv ql : Nat} {qp qa qr qm qf un : Int32} (hv : tRs yp X G rs1 tt p0 p n1 b1 1 ft f1 s u T qv ql qp qa qr qm) (hf1 : f1 = 0) (hK : u.2 20 T = 3) (hun : un = 0 ∨ un = 1) (hmu : un = 0 ∨ qm ≠ 0) (hL : tLn u w T qv ql qa qr qf un) (hc : s.1 0 < 6000) (hc2 : s.1 2 < 3001) (hb5 : s.1 5 < 54) : u = s ∧ tI yp X w ∧ tXt s w ∧ (w.1 0 ≤ s.1 0 + 1 ∧ 2 * w.1 1 ≤ 2 * s.1 1 + 0 ∧ w.1 2 ≤ s.1 2 + 1 ∧ w.1 3 ≤ s.1 3 + 0 ∧ w.1 7 ≤ s.1 7 + 0) ∧ w.1 4 = s.1 4 ∧ w.1 5 = s.1 5 + 1 ∧ plV yp X s qv ql qa qr T qm := by
  obtain ⟨⟨a1, a2, a3, a4, a5, a6⟩, h5⟩ := hv
  obtain ⟨e1, e2, e3, e4, e5⟩ := h5 hf1
  obtain ⟨hus, hpl⟩ : u = s ∧ plV yp X s qv ql qa qr T qm := by
    rcases e5 with ⟨-, q8, q9⟩ | ⟨q9, -⟩
    · exact ⟨q8, q9⟩
    · exact absurd ((e4 rfl).symm.trans q9) (by decide)
  subst hus
  obtain ⟨n4, n5, n7, n20, nT⟩ := ln_n hL
  have o1 := v_lend (lo := 0) (rs := 0) (G := G) e3 hpl a4.2.1 a4.2.2.1 hc hc2 hb5 (by rw [hK]; decide) (by rw [hK]; decide) hun hmu hL
  exact ⟨rfl, tI_ln e3 hL hc (by omega), o1.1, o1.2.2.1, n4, n5, hpl⟩
/-- match of a place by reference -/
theorem l_mat1 {yp rs k tt nw p0 p q n1 n2 n3 b1 b2 v2 sh mq : Nat} {X : tF} {G : Nat → Nat → Nat} {ft f1 f2 r : Int32} {s u w t : tgS} {T qv ql qt2 qv2 ql2 : Nat} {qp qa qr qm qp2 qm2 qf un : Int32} (hv : tRs yp X G (rs + 4096 * k) tt p0 p n1 b1 1 ft f1 s u T qv ql qp qa qr qm) (hT : T = 4 + sh) (hK : u.2 20 T = 3) (hq : (mq = 1 ∧ un = 0) ∨ (mq = 2 ∧ un = 1)) (hmu : un = 0 ∨ qm ≠ 0) (hL : tLn u w T qv ql qa qr qf un) (hm : tMr yp X G rs tt (p + 1) q n2 b2 v2 mq sh (u.1 5 + 1) f1 f2 w t r qt2 qv2 ql2 qp2 qm2) (hn : n3 < tt) (hf : f2 ≠ 0 → n3 = tt - 1) (h3 : f2 = 0 → n3 = q + 1) (hp : nw + 2 ≤ p0 ∧ p0 < p ∧ p + 1 ≤ q) (hcK : cL X (nw + 1) = cL X nw + 1) (hb5 : s.1 5 + (b1 + 1) ≤ 54) (hcp : ft = 0 → tCq X nw (q + 1) s) : tSs 1 yp X G rs tt nw (q + 1) n3 (b1 + 1 + b2) v2 ft f2 s t r qt2 qv2 ql2 qp2 qm2 := by
  have hv9 := hv
  obtain ⟨⟨a1, a2, a3, a4, a5, a6⟩, h5⟩ := hv
  obtain ⟨⟨b1', b2', b3, b4, b5, b6, b7⟩, h7⟩ := hm
  obtain ⟨n4, n5, n7, n20, nT⟩ := ln_n hL
  have hun : un = 0 ∨ un = 1 := hq.imp (fun z => z.2) (fun z => z.2)
  refine ⟨⟨hn, hf, b3, b4, by omega, by omega, b7⟩, fun f0 => ?_⟩
  obtain ⟨c1, c2, c3, c4, c5⟩ := h7 f0
  obtain ⟨e1, e2, e3, e4, e5⟩ := h5 c1
  obtain ⟨r0, r1, r2, r3, r7⟩ := hcp e1
  have l1 := cL_le (X := X) (show nw + 1 ≤ p + 1 by omega); have l3 := cL_le (X := X) (show p + 1 ≤ q by omega); have l4 := cL_le (X := X) (show q ≤ q + 1 by omega)
  obtain ⟨hus, -, -, -, -, -, hpl⟩ := l_ml hv9 c1 hK hun hmu hL (by omega) (by omega) (by omega)
  subst hus
  have o1 := v_lend (lo := u.1 1) (rs := rs) (G := G) e3 hpl a4.2.1 a4.2.2.1 (by omega) (by omega) (by omega) (by rw [hK]; decide) (by rw [hK]; decide) hun hmu hL
  have hlo := o1.1.1 1 (by decide)
  refine ⟨e1, h3 f0, c3, [], ⟨tnwA_nil, by rw [← n4]; exact c5⟩, tOK_sq o1 (tOK_lo (lo2 := u.1 1) c4 hlo) (by omega) (fun F hF y1 y2 J O hO => ?_)⟩
  have m1 := o1.1.1 0 (by decide); have m2 := c4.1.1 0 (by decide)
  have hv0 := scI_vl hO.1
  have x1 : sg F X G rs J (u.1 0) (w.1 0) (some O) (some (sE mq sh (u.1 5 + 1) :: O)) := by
    have x2 := y1 J O hO.2 (by omega)
    rcases hq with ⟨z1, z2⟩ | ⟨z1, z2⟩
    · rw [z2, hT, if_neg (by decide)] at x2
      rw [z1]; exact x2
    · rw [z2, hT, if_pos rfl] at x2
      rw [z1]; exact x2
  exact sg_app x1 (y2 J O (by rw [n4]; exact scJ_sub hO m1 (Nat.le_refl _))) m1 m2
theorem ty_en {yp T : Nat} {X : tF} {s : tgS} (hI : tI yp X s) (hT : T = 0 ∨ tyV yp (s.1 7) (s.2 20) T) (hk : s.2 20 T = 3) : ∃ sh : Nat, sh < yp ∧ T = 4 + sh := by
  have h0 : s.2 20 0 = 0 ∧ s.2 20 1 = 0 ∧ s.2 20 2 = 0 ∧ s.2 20 3 = 1 := hI.1.2.2.2.1
  rcases hT with h | ⟨((h | h | h) | h | h) | h, h7⟩
  · rw [h, h0.1] at hk; exact absurd hk (by decide)
  · rw [h, h0.2.1] at hk; exact absurd hk (by decide)
  · rw [h, h0.2.2.1] at hk; exact absurd hk (by decide)
  · rw [h, h0.2.2.2] at hk; exact absurd hk (by decide)
  · exact ⟨T - 4, by omega, by omega⟩
  · rw [h.2] at hk; exact absurd hk (by decide)
  · rcases h.2 with z | z <;> rw [z] at hk <;> exact absurd hk (by decide)
end
-- bm.tstb.lean.txt
section
/-- bind: variable S.1 4 takes part j of row sh * 12 + g -/
def tBq (X : tF) (mq sh g j mb : Nat) (S S2 : tgS) : Prop := (mq = 0 ∧ ∃ (w x : tgS) (T z : Nat) (na mu : Int32), tDe S w na mu (nI (S.1 0)) ∧ tSe w x (S.1 4) T z ∧ X 2 ((sh * 12 + g) * 12 + j) = nI T ∧ T < 3040 ∧ S.2 22 T = nI z ∧ z ≤ 17 ∧ tAd x S2 29 (nI (S.1 4)) (X 3 ((sh * 12 + g) * 12 + j)) (x.2 22 (4 + sh)) (-1)) ∨ ((mq = 1 ∨ mq = 2) ∧ ∃ (w y x : tgS) (u ri : Nat) (na mu : Int32), tDe S w na mu (nI (S.1 0)) ∧ tMk (if mq = 2 then 6 else 5) u ri w y ∧ tSe y x (S.1 4) ri 1 ∧ X 2 ((sh * 12 + g) * 12 + j) = nI u ∧ u < 3040 ∧ tAd x S2 30 (nI (S.1 4)) (X 3 ((sh * 12 + g) * 12 + j)) (nI mb) (-1))
theorem l_bq {yp lo rs mq sh g j n mb : Nat} {X : tF} {G : Nat → Nat → Nat} {s t : tgS} (h : tBq X mq sh g j mb s t) (hI : tI yp X s) (h4 : s.1 4 < 40) (hc : s.1 0 < 6000) (hc7 : s.1 7 < 3040) (hb : mq = 0 ∨ mb < 54) (hsh : sh < yp) (hK : s.2 20 (4 + sh) = 3) (hg : g < 12) (hn : X 1 (sh * 12 + g) = nI n) (hj : j < n) (hn12 : n ≤ 12) (hQ : ∃ u : Nat, X 2 ((sh * 12 + g) * 12 + j) = nI u ∧ tyN yp (s.2 20) u ∧ u < s.1 7) : tI yp X t ∧ nwI (s.1 4) t [(8, s.1 4, 0)] ∧ tOK lo 1 0 0 0 1 s t (tBd X G rs mq (sh * 12 + g) (mb + 1) j (s.1 4)) ∧ (t.1 4 = s.1 4 + 1 ∧ t.1 5 = s.1 5 ∧ t.1 0 = s.1 0 + 1 ∧ t.1 1 = s.1 1 ∧ t.1 2 = s.1 2 ∧ t.1 3 = s.1 3) := by
  obtain ⟨u0, hu1, hu2, hu3⟩ := hQ
  have h7 : s.1 7 ≤ 3040 := hI.1.2.1
  rcases h with ⟨rfl, w, x, T, z, na, mu, hD, hS, hT, hT3, hz, hz17, hA⟩ | ⟨hq, w, y, x, u, ri, na, mu, hD, hM, hS, hT, hT3, hA⟩
  · have e : T = u0 := (nI_eq (by omega) (by omega)).mp (hT.symm.trans hu1)
    subst e
    obtain ⟨a1, a2, a3⟩ := l_bindv (lo := lo) (rs := rs) (G := G) (m := mb + 1) hI hD hS ⟨hz, hz17⟩ hA h4 hc hsh hK hg hn hj hn12 hT ⟨Or.inl hu2, hu3⟩
    have x0 := hS.2.1 0 (by decide); have w0 := hD.2.1 0 (by decide)
    refine ⟨a1, a2, a3, by rw [hA.1 4 (by decide), hS.2.1 4 (by decide), hD.1], by rw [hA.1 5 (by decide), hS.2.1 5 (by decide), hD.2.1 5 (by decide)], ?_, by rw [hA.1 1 (by decide), hS.2.1 1 (by decide), hD.2.1 1 (by decide)], by rw [hA.1 2 (by decide), hS.2.1 2 (by decide), hD.2.1 2 (by decide)], by rw [hA.1 3 (by decide), hS.2.1 3 (by decide), hD.2.1 3 (by decide)]⟩
    rw [(insA_lt hA.2.2.1 (by omega)).1]; omega
  · have e : u = u0 := (nI_eq (by omega) (by omega)).mp (hT.symm.trans hu1)
    subst e
    obtain ⟨a1, a2, a3⟩ := l_bindr (lo := lo) (rs := rs) (G := G) (q := mq) hI hD hM (by rcases hq with q9 | q9 <;> subst q9; exact Or.inl ⟨rfl, rfl⟩; exact Or.inr ⟨rfl, rfl⟩) hS hA h4 hc hc7 (by rcases hb with q9 | q9; omega; exact q9) hsh hK hg hn hj hn12 hT hu2 hu3
    have x0 := hS.2.1 0 (by decide); have w0 := hD.2.1 0 (by decide); have y0 := hM.1 0 (by decide)
    refine ⟨a1, a2, a3, by rw [hA.1 4 (by decide), hS.2.1 4 (by decide), hM.1 4 (by decide), hD.1], by rw [hA.1 5 (by decide), hS.2.1 5 (by decide), hM.1 5 (by decide), hD.2.1 5 (by decide)], ?_, by rw [hA.1 1 (by decide), hS.2.1 1 (by decide), hM.1 1 (by decide), hD.2.1 1 (by decide)], by rw [hA.1 2 (by decide), hS.2.1 2 (by decide), hM.1 2 (by decide), hD.2.1 2 (by decide)], by rw [hA.1 3 (by decide), hS.2.1 3 (by decide), hM.1 3 (by decide), hD.2.1 3 (by decide)]⟩
    rw [(insA_lt hA.2.2.1 (by omega)).1]; omega
theorem marm_of {fk lF : Nat → Int32} {NB : gP} {p q b v : Nat} (h : sArm fk NB lF p q b v) : ∃ n B w : Nat, fk p = 2 ∧ ((n = 0 ∧ fk (p + 1) ≠ 40 ∧ B = p + 2) ∨ (0 < n ∧ n ≤ 12 ∧ fk (p + 1) = 40 ∧ lF (p + 1) = nI n ∧ B = p + 3 + 2 * n)) ∧ fk (B - 1) = 136 ∧ NB lF B q b w ∧ v = n + w := by
  obtain ⟨r, b1, v1, b2, v2, ⟨r2, b3, v3, b4, v4, ⟨r3, b5, v5, b6, v6, ⟨e1, h1, e2, e3⟩, h2, e4, e5⟩, ⟨e6, h3, e7, e8⟩, e9, e10⟩, h4, e11, e12⟩ := h
  subst e1
  rcases h2 with ⟨h5, h6, h7, h8⟩ | ⟨n, h5, r4, b7, v7, b8, v8, ⟨r5, b9, v9, b10, v10, ⟨g1, h6, g2, g3⟩, ⟨g4, g5, g6, g7, g8, -, -⟩, g9, g10⟩, ⟨g11, h7, g12, g13⟩, g14, g15⟩
  · refine ⟨0, r, v2, h1, Or.inl ⟨rfl, h5, by omega⟩, by rw [e6, Nat.add_sub_cancel]; exact h3, ?_, by omega⟩
    rw [show b = b2 by omega]; exact h4
  · refine ⟨n, r, v2, h1, Or.inr ⟨g4, g8, h6, h5, by omega⟩, by rw [e6, Nat.add_sub_cancel]; exact h3, ?_, by omega⟩
    rw [show b = b2 by omega]; exact h4
theorem mat_of {fk lF : Nat → Int32} {k p q b v : Nat} {NB : gP} (h : sMatch fk (gEx fk k 1) NB lF p q b v) : ∃ (n p0 p1 q1 b1 b2 : Nat) (ip : Int32), fk p = 13 ∧ ((fk (p + 1) = 38 ∧ p0 = unR fk (p + 1) ∧ gE fk lF k 1 p0 p1 b1 1 ∧ b = b1 + 1 + b2) ∨ (fk (p + 1) ≠ 38 ∧ p0 = p + 1 ∧ gE fk lF k 1 p0 p1 b1 ip ∧ b = b1 + b2)) ∧ fk p1 = 123 ∧ seqP (sArm fk NB) n lF (p1 + 1) q1 b2 v ∧ fk q1 = 125 ∧ q = q1 + 1 := by
  obtain ⟨n, r, b1, v1, b2, v2, ⟨r2, b3, v3, b4, v4, ⟨r3, b5, v5, b6, v6, ⟨r4, b7, v7, b8, v8, ⟨e1, h1, e2, e3⟩, h2, e4, e5⟩, ⟨e6, h3, e7, e8⟩, e9, e10⟩, h4, e11, e12⟩, ⟨e13, h5, e14, e15⟩, e16, e17⟩ := h
  subst e1 e6 e13
  rcases h2 with ⟨r5, b9, v9, b10, v10, ⟨g1, g2, g3, g4⟩, ⟨g5, g6⟩, g7, g8⟩ | ⟨g1, ip, g5, g6⟩
  · refine ⟨n, r5, r3, r, b10, b4, 0, h1, Or.inl ⟨g1, g2, g6, by omega⟩, h3, ?_, h5, rfl⟩
    rw [show v = v4 by omega]; exact h4
  · refine ⟨n, p + 1, r3, r, b8, b4, ip, h1, Or.inr ⟨g1, rfl, g6, by omega⟩, h3, ?_, h5, rfl⟩
    rw [show v = v4 by omega]; exact h4
theorem arms_fn {fk lF : Nat → Int32} {NB : gP} {n p q b v : Nat} (h : seqP (sArm fk NB) n lF p q b v) : ∃ P B V : Nat → Nat, P 0 = p ∧ P n = q ∧ B 0 = 0 ∧ B n = b ∧ V 0 = 0 ∧ V n = v ∧ (∀ i : Nat, i < n → ∃ c w : Nat, sArm fk NB lF (P i) (P (i + 1)) c w ∧ B (i + 1) = B i + c ∧ V (i + 1) = V i + w) ∧ ((∀ c d e f : Nat, NB lF c d e f → c + 2 ≤ d) → ∀ i : Nat, i ≤ n → p + i ≤ P i ∧ P i + (n - i) ≤ P n ∧ B i ≤ b ∧ V i ≤ v ∧ (i < n → P i + 4 ≤ P (i + 1))) := by
  obtain ⟨P, B, V, p0, pn, c0, cn, w0, wn, hs⟩ := seqP_fn n p q b v h
  refine ⟨P, B, V, p0, pn, c0, cn, w0, wn, hs, fun hNB => ?_⟩
  have l1 : ∀ i : Nat, i < n → P i + 4 ≤ P (i + 1) := fun i hi => by
    obtain ⟨c, w, g1, -⟩ := hs i hi
    obtain ⟨m, C, w9, -, g2, -, g3, -⟩ := marm_of g1
    have := hNB _ _ _ _ g3
    rcases g2 with g2 | g2 <;> omega
  have l2 : ∀ i : Nat, i < n → B i ≤ B (i + 1) := fun i hi => by obtain ⟨c, w, -, g2, -⟩ := hs i hi; omega
  have l3 : ∀ i : Nat, i < n → V i ≤ V (i + 1) := fun i hi => by obtain ⟨c, w, -, -, g3⟩ := hs i hi; omega
  have l4 : ∀ i : Nat, i < n → P i < P (i + 1) := fun i hi => by have := l1 i hi; omega
  intro i hi
  have u1 := up_lt l4 i (n - i) (by omega)
  have u2 := up_lt0 l4 i hi
  have u3 := up_le l2 i (n - i) (by omega)
  have u4 := up_le l3 i (n - i) (by omega)
  exact ⟨by omega, by omega, by omega, by omega, l1 i⟩
def hid (p : Prop) : Prop := p
theorem hid_mk {p : Prop} (h : p) : hid p := h
theorem hid_of {p : Prop} (h : hid p) : p := h
theorem gNB_of {fk lF : Nat → Int32} {k p q b v : Nat} (h : gNB fk k lF p q b v) : ∃ k1 : Nat, k = k1 + 1 ∧ gBlk fk k1 lF p q b v := by
  cases k with
  | zero => exact absurd h id
  | succ k1 => exact ⟨k1, rfl, h⟩
theorem gNB_2 {fk lF : Nat → Int32} {k : Nat} : ∀ c d e f : Nat, gNB fk k lF c d e f → c + 2 ≤ d := fun c d e f h => by
  obtain ⟨k1, -, h1⟩ := gNB_of h
  exact gBlk_2 h1
/-- newArms, the labels of arms -/
theorem tNa_mk {s : tgS} {z : Nat} : tNa s (tN s 3 (min (s.1 3 + z) 2990)) z := ⟨rfl, tN_s, fun _ h => tN_n h⟩
def t11 (s : tgS) (g : Nat → Int32) : tgS := (s.1, fun k => if k = 13 then g else s.2 k)
theorem tArl_mk {s : tgS} {i L : Nat} {g : Nat → Int32} (h : g = upd (s.2 13) i (nI L)) : tArl s (t11 s g) i L := ⟨rfl, fun k hk => if_neg hk, h⟩
theorem cL_136 {X : tF} {fk : Nat → Int32} {p B : Nat} (hX : X 4 = fk) (h : fk (B - 1) = 136) (hB : p + 1 ≤ B) : cL X p + 1 ≤ cL X B := by
  have e : cL X (B - 1 + 1) = cL X (B - 1) + 1 := by
    show cL X (B - 1) + lw (X 4 (B - 1)) = _
    rw [hX, h]; rfl
  rw [show B - 1 + 1 = B by omega] at e
  have := cL_le (X := X) (show p ≤ B - 1 by omega)
  omega
end
