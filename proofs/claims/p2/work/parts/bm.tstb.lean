/-- bind: variable S.1 4 takes part j of row sh * 12 + g -/
def tBq (X : tF) (mq sh g j mb : Nat) (S S2 : tgS) : Prop := (mq = 0 ∧ ∃ (w x : tgS) (T z : Nat) (na mu : Int32), tDe S w na mu (nI (S.1 0)) ∧ tSe w x (S.1 4) T z ∧ X 2 ((sh * 12 + g) * 12 + j) = nI T ∧ T < 3040 ∧ S.2 22 T = nI z ∧ z ≤ 17 ∧ tAd x S2 29 (nI (S.1 4)) (X 3 ((sh * 12 + g) * 12 + j)) (x.2 22 (4 + sh)) (-1)) ∨ ((mq = 1 ∨ mq = 2) ∧ ∃ (w y x : tgS) (u ri : Nat) (na mu : Int32), tDe S w na mu (nI (S.1 0)) ∧ tMk (if mq = 2 then 6 else 5) u ri w y ∧ tSe y x (S.1 4) ri 1 ∧ X 2 ((sh * 12 + g) * 12 + j) = nI u ∧ u < 3040 ∧ tAd x S2 30 (nI (S.1 4)) (X 3 ((sh * 12 + g) * 12 + j)) (nI mb) (-1))
theorem l_bq {yp lo rs mq sh g j n mb : Nat} {X : tF} {G : Nat → Nat → Nat} {s t : tgS} (h : tBq X mq sh g j mb s t) (hI : tI yp X s) (h4 : s.1 4 < 40) (hc : s.1 0 < 6000) (hc7 : s.1 7 < 3040) (hb : mq = 0 ∨ mb < 54) (hsh : sh < yp) (hK : s.2 20 (4 + sh) = 3) (hg : g < 12) (hn : X 1 (sh * 12 + g) = nI n) (hj : j < n) (hn12 : n ≤ 12) (hQ : ∃ u : Nat, X 2 ((sh * 12 + g) * 12 + j) = nI u ∧ tyN yp (s.2 20) u ∧ u < s.1 7) : tI yp X t ∧ nwI (s.1 4) t [(8, s.1 4, 0)] ∧ tOK lo 1 0 0 0 1 s t (tBd X G rs mq (sh * 12 + g) (mb + 1) j (s.1 4)) ∧ (t.1 4 = s.1 4 + 1 ∧ t.1 5 = s.1 5 ∧ t.1 0 = s.1 0 + 1 ∧ t.1 1 = s.1 1 ∧ t.1 2 = s.1 2 ∧ t.1 3 = s.1 3) := by
  obtain ⟨u0, hu1, hu2, hu3⟩ := hQ
  have h7 : s.1 7 ≤ 3040 := hI.1.2.1
  rcases h with ⟨rfl, w, x, T, z, na, mu, hD, hS, hT, hT3, hz, hz17, hA⟩ | ⟨hq, w, y, x, u, ri, na, mu, hD, hM, hS, hT, hT3, hA⟩
  · have e : T = u0 := (nI_eq (by omega) (by omega)).mp (hT.symm.trans hu1)
    subst e
    obtain ⟨a1, a2, a3⟩ := l_bindv (lo := lo) (rs := rs) (G := G) (m := mb + 1) hI hD hS ⟨hz, hz17⟩ hA h4 hc hsh hK hg hn hj hn12 hT ⟨Or.inl hu2, hu3⟩
    have x0 := hS.2.1 0 (by decide); have w0 := hD.2.1 0 (by decide)
    refine ⟨a1, a2, a3, by rw [hA.1 4 (by decide), hS.2.1 4 (by decide), hD.1], by rw [hA.1 5 (by decide), hS.2.1 5 (by decide), hD.2.1 5 (by decide)], ?_, by rw [hA.1 1 (by decide), hS.2.1 1 (by decide), hD.2.1 1 (by decide)], by rw [hA.1 2 (by decide), hS.2.1 2 (by decide), hD.2.1 2 (by decide)], by rw [hA.1 3 (by decide), hS.2.1 3 (by decide), hD.2.1 3 (by decide)]⟩
    rw [(insA_lt hA.2.2.1 (by omega)).1]; omega
  · have e : u = u0 := (nI_eq (by omega) (by omega)).mp (hT.symm.trans hu1)
    subst e
    obtain ⟨a1, a2, a3⟩ := l_bindr (lo := lo) (rs := rs) (G := G) (q := mq) hI hD hM (by rcases hq with q9 | q9 <;> subst q9; exact Or.inl ⟨rfl, rfl⟩; exact Or.inr ⟨rfl, rfl⟩) hS hA h4 hc hc7 (by rcases hb with q9 | q9; omega; exact q9) hsh hK hg hn hj hn12 hT hu2 hu3
    have x0 := hS.2.1 0 (by decide); have w0 := hD.2.1 0 (by decide); have y0 := hM.1 0 (by decide)
    refine ⟨a1, a2, a3, by rw [hA.1 4 (by decide), hS.2.1 4 (by decide), hM.1 4 (by decide), hD.1], by rw [hA.1 5 (by decide), hS.2.1 5 (by decide), hM.1 5 (by decide), hD.2.1 5 (by decide)], ?_, by rw [hA.1 1 (by decide), hS.2.1 1 (by decide), hM.1 1 (by decide), hD.2.1 1 (by decide)], by rw [hA.1 2 (by decide), hS.2.1 2 (by decide), hM.1 2 (by decide), hD.2.1 2 (by decide)], by rw [hA.1 3 (by decide), hS.2.1 3 (by decide), hM.1 3 (by decide), hD.2.1 3 (by decide)]⟩
    rw [(insA_lt hA.2.2.1 (by omega)).1]; omega
theorem marm_of {fk lF : Nat → Int32} {NB : gP} {p q b v : Nat} (h : sArm fk NB lF p q b v) : ∃ n B w : Nat, fk p = 2 ∧ ((n = 0 ∧ fk (p + 1) ≠ 40 ∧ B = p + 2) ∨ (0 < n ∧ n ≤ 12 ∧ fk (p + 1) = 40 ∧ lF (p + 1) = nI n ∧ B = p + 3 + 2 * n)) ∧ fk (B - 1) = 136 ∧ NB lF B q b w ∧ v = n + w := by
  obtain ⟨r, b1, v1, b2, v2, ⟨r2, b3, v3, b4, v4, ⟨r3, b5, v5, b6, v6, ⟨e1, h1, e2, e3⟩, h2, e4, e5⟩, ⟨e6, h3, e7, e8⟩, e9, e10⟩, h4, e11, e12⟩ := h
  subst e1
  rcases h2 with ⟨h5, h6, h7, h8⟩ | ⟨n, h5, r4, b7, v7, b8, v8, ⟨r5, b9, v9, b10, v10, ⟨g1, h6, g2, g3⟩, ⟨g4, g5, g6, g7, g8, -, -⟩, g9, g10⟩, ⟨g11, h7, g12, g13⟩, g14, g15⟩
  · refine ⟨0, r, v2, h1, Or.inl ⟨rfl, h5, by omega⟩, by rw [e6, Nat.add_sub_cancel]; exact h3, ?_, by omega⟩
    rw [show b = b2 by omega]; exact h4
  · refine ⟨n, r, v2, h1, Or.inr ⟨g4, g8, h6, h5, by omega⟩, by rw [e6, Nat.add_sub_cancel]; exact h3, ?_, by omega⟩
    rw [show b = b2 by omega]; exact h4
theorem mat_of {fk lF : Nat → Int32} {k p q b v : Nat} {NB : gP} (h : sMatch fk (gEx fk k 1) NB lF p q b v) : ∃ (n p0 p1 q1 b1 b2 : Nat) (ip : Int32), fk p = 13 ∧ ((fk (p + 1) = 38 ∧ p0 = unR fk (p + 1) ∧ gE fk lF k 1 p0 p1 b1 1 ∧ b = b1 + 1 + b2) ∨ (fk (p + 1) ≠ 38 ∧ p0 = p + 1 ∧ gE fk lF k 1 p0 p1 b1 ip ∧ b = b1 + b2)) ∧ fk p1 = 123 ∧ seqP (sArm fk NB) n lF (p1 + 1) q1 b2 v ∧ fk q1 = 125 ∧ q = q1 + 1 := by
  obtain ⟨n, r, b1, v1, b2, v2, ⟨r2, b3, v3, b4, v4, ⟨r3, b5, v5, b6, v6, ⟨r4, b7, v7, b8, v8, ⟨e1, h1, e2, e3⟩, h2, e4, e5⟩, ⟨e6, h3, e7, e8⟩, e9, e10⟩, h4, e11, e12⟩, ⟨e13, h5, e14, e15⟩, e16, e17⟩ := h
  subst e1 e6 e13
  rcases h2 with ⟨r5, b9, v9, b10, v10, ⟨g1, g2, g3, g4⟩, ⟨g5, g6⟩, g7, g8⟩ | ⟨g1, ip, g5, g6⟩
  · refine ⟨n, r5, r3, r, b10, b4, 0, h1, Or.inl ⟨g1, g2, g6, by omega⟩, h3, ?_, h5, rfl⟩
    rw [show v = v4 by omega]; exact h4
  · refine ⟨n, p + 1, r3, r, b8, b4, ip, h1, Or.inr ⟨g1, rfl, g6, by omega⟩, h3, ?_, h5, rfl⟩
    rw [show v = v4 by omega]; exact h4
theorem arms_fn {fk lF : Nat → Int32} {NB : gP} {n p q b v : Nat} (h : seqP (sArm fk NB) n lF p q b v) : ∃ P B V : Nat → Nat, P 0 = p ∧ P n = q ∧ B 0 = 0 ∧ B n = b ∧ V 0 = 0 ∧ V n = v ∧ (∀ i : Nat, i < n → ∃ c w : Nat, sArm fk NB lF (P i) (P (i + 1)) c w ∧ B (i + 1) = B i + c ∧ V (i + 1) = V i + w) ∧ ((∀ c d e f : Nat, NB lF c d e f → c + 2 ≤ d) → ∀ i : Nat, i ≤ n → p + i ≤ P i ∧ P i + (n - i) ≤ P n ∧ B i ≤ b ∧ V i ≤ v ∧ (i < n → P i + 4 ≤ P (i + 1))) := by
  obtain ⟨P, B, V, p0, pn, c0, cn, w0, wn, hs⟩ := seqP_fn n p q b v h
  refine ⟨P, B, V, p0, pn, c0, cn, w0, wn, hs, fun hNB => ?_⟩
  have l1 : ∀ i : Nat, i < n → P i + 4 ≤ P (i + 1) := fun i hi => by
    obtain ⟨c, w, g1, -⟩ := hs i hi
    obtain ⟨m, C, w9, -, g2, -, g3, -⟩ := marm_of g1
    have := hNB _ _ _ _ g3
    rcases g2 with g2 | g2 <;> omega
  have l2 : ∀ i : Nat, i < n → B i ≤ B (i + 1) := fun i hi => by obtain ⟨c, w, -, g2, -⟩ := hs i hi; omega
  have l3 : ∀ i : Nat, i < n → V i ≤ V (i + 1) := fun i hi => by obtain ⟨c, w, -, -, g3⟩ := hs i hi; omega
  have l4 : ∀ i : Nat, i < n → P i < P (i + 1) := fun i hi => by have := l1 i hi; omega
  intro i hi
  have u1 := up_lt l4 i (n - i) (by omega)
  have u2 := up_lt0 l4 i hi
  have u3 := up_le l2 i (n - i) (by omega)
  have u4 := up_le l3 i (n - i) (by omega)
  exact ⟨by omega, by omega, by omega, by omega, l1 i⟩
def hid (p : Prop) : Prop := p
theorem hid_mk {p : Prop} (h : p) : hid p := h
theorem hid_of {p : Prop} (h : hid p) : p := h
theorem gNB_of {fk lF : Nat → Int32} {k p q b v : Nat} (h : gNB fk k lF p q b v) : ∃ k1 : Nat, k = k1 + 1 ∧ gBlk fk k1 lF p q b v := by
  cases k with
  | zero => exact absurd h id
  | succ k1 => exact ⟨k1, rfl, h⟩
theorem gNB_2 {fk lF : Nat → Int32} {k : Nat} : ∀ c d e f : Nat, gNB fk k lF c d e f → c + 2 ≤ d := fun c d e f h => by
  obtain ⟨k1, -, h1⟩ := gNB_of h
  exact gBlk_2 h1
/-- newArms, the labels of arms -/
theorem tNa_mk {s : tgS} {z : Nat} : tNa s (tN s 3 (min (s.1 3 + z) 2990)) z := ⟨rfl, tN_s, fun _ h => tN_n h⟩
def t11 (s : tgS) (g : Nat → Int32) : tgS := (s.1, fun k => if k = 13 then g else s.2 k)
theorem tArl_mk {s : tgS} {i L : Nat} {g : Nat → Int32} (h : g = upd (s.2 13) i (nI L)) : tArl s (t11 s g) i L := ⟨rfl, fun k hk => if_neg hk, h⟩
theorem cL_136 {X : tF} {fk : Nat → Int32} {p B : Nat} (hX : X 4 = fk) (h : fk (B - 1) = 136) (hB : p + 1 ≤ B) : cL X p + 1 ≤ cL X B := by
  have e : cL X (B - 1 + 1) = cL X (B - 1) + 1 := by
    show cL X (B - 1) + lw (X 4 (B - 1)) = _
    rw [hX, h]; rfl
  rw [show B - 1 + 1 = B by omega] at e
  have := cL_le (X := X) (show p ≤ B - 1 by omega)
  omega
