/-- the labels that a token brings (X 4: the tokens' kinds) -/
def lw (k : Int32) : Nat := if k = 132 ∨ k = 133 ∨ k = 136 ∨ k = 13 then 1 else if k = 10 ∨ k = 12 then 2 else 0
def cL (X : tF) : Nat → Nat
  | 0 => 0
  | p + 1 => cL X p + lw (X 4 p)
theorem cL_add {X : tF} (p : Nat) : ∀ n : Nat, cL X p ≤ cL X (p + n)
  | 0 => Nat.le_refl _
  | n + 1 => Nat.le_trans (cL_add p n) (Nat.le_add_right _ _)
theorem cL_le {X : tF} {p q : Nat} (h : p ≤ q) : cL X p ≤ cL X q := by
  have := cL_add (X := X) p (q - p)
  rw [show p + (q - p) = q by omega] at this
  exact this
/-- room for the tokens from nw to q -/
def tCp (X : tF) (nw q : Nat) (s : tgS) : Prop := s.1 0 + 2 * (q - nw) ≤ 6000 ∧ 2 * s.1 1 + 2 * (cL X q - cL X nw) ≤ 2200 ∧ s.1 2 + (q - nw) ≤ 3000 ∧ s.1 3 + 2 * (q - nw) ≤ 2978 ∧ s.1 7 + (q - nw) ≤ 3039
theorem tCp_sub {X : tF} {nw q nw1 q1 : Nat} {s : tgS} (h : tCp X nw q s) (h1 : nw ≤ nw1) (h2 : q1 ≤ q) : tCp X nw1 q1 s := by
  obtain ⟨a, b, c, d, e⟩ := h
  have := cL_le (X := X) h1
  have := cL_le (X := X) h2
  exact ⟨by omega, by omega, by omega, by omega, by omega⟩
abbrev tOn (X : tF) (lo nw q : Nat) (s t : tgS) (R : tR) : Prop := tOK lo (2 * (q - nw) - 1) (2 * (cL X q - cL X nw)) (q - nw) 0 (q - nw) s t R
/-- at any time behind an exp -/
def tRb (tt nw2 b : Nat) (ft2 : Int32) (s t : tgS) (qt2 qv2 ql2 : Nat) (qp2 qm2 : Int32) : Prop := nw2 < tt ∧ (ft2 ≠ 0 → nw2 = tt - 1) ∧ tJ t ∧ tQ qt2 qv2 ql2 qp2 qm2 ∧ t.1 4 = s.1 4 ∧ t.1 5 ≤ s.1 5 + b
/-- an exp was read from nw to q -/
def tRs (yp : Nat) (X : tF) (G : Nat → Nat → Nat) (rs tt nw q nw2 b : Nat) (ip ft ft2 : Int32) (s t : tgS) (qt2 qv2 ql2 : Nat) (qp2 qa2 qr2 qm2 : Int32) : Prop := tRb tt nw2 b ft2 s t qt2 qv2 ql2 qp2 qm2 ∧ (ft2 = 0 → ft = 0 ∧ nw2 = q ∧ tI yp X t ∧ (ip = 1 → qp2 = 1) ∧ ((qp2 = 1 ∧ t = s ∧ plV yp X s qv2 ql2 qa2 qr2 qt2 qm2) ∨ (qp2 = 0 ∧ (qt2 = 0 ∨ tyV yp (t.1 7) (t.2 20) qt2) ∧ tOn X (s.1 1) nw q s t (tVl (s.1 4) X G rs qt2))))
/-- a value was read -/
def tRw (yp : Nat) (X : tF) (G : Nat → Nat → Nat) (rs tt nw q nw2 b : Nat) (ft ft2 : Int32) (s t : tgS) (qt2 qv2 ql2 : Nat) (qp2 qm2 : Int32) : Prop := tRb tt nw2 b ft2 s t qt2 qv2 ql2 qp2 qm2 ∧ (ft2 = 0 → ft = 0 ∧ nw2 = q ∧ tI yp X t ∧ (qt2 = 0 ∨ tyV yp (t.1 7) (t.2 20) qt2) ∧ tOn X (s.1 1) nw q s t (tVl (s.1 4) X G rs qt2))
/-- an exp of the next level is one of this -/
theorem tRs_up {yp rs tt nw q nw2 b : Nat} {X : tF} {G : Nat → Nat → Nat} {ip ft ft2 : Int32} {s t : tgS} {qt2 qv2 ql2 : Nat} {qp2 qa2 qr2 qm2 : Int32} {rs2 : Nat} (h : tRs yp X G rs tt nw q nw2 b ip ft ft2 s t qt2 qv2 ql2 qp2 qa2 qr2 qm2) (hr : rs2 = rs + 4096) : tRs yp X G rs2 tt nw q nw2 b ip ft ft2 s t qt2 qv2 ql2 qp2 qa2 qr2 qm2 := by
  subst hr
  obtain ⟨h1, h2⟩ := h
  refine ⟨h1, fun z => ?_⟩
  obtain ⟨a1, a2, a3, a4, a5⟩ := h2 z
  refine ⟨a1, a2, a3, a4, a5.imp id (fun a => ⟨a.1, a.2.1, tOK_mono a.2.2 (Nat.le_refl _) (by omega) (fun F x y _ _ hz => tVl_up hz)⟩)⟩
theorem tRw_up {yp rs tt nw q nw2 b : Nat} {X : tF} {G : Nat → Nat → Nat} {ft ft2 : Int32} {s t : tgS} {qt2 qv2 ql2 : Nat} {qp2 qm2 : Int32} {rs2 : Nat} (h : tRw yp X G rs tt nw q nw2 b ft ft2 s t qt2 qv2 ql2 qp2 qm2) (hr : rs2 = rs + 4096) : tRw yp X G rs2 tt nw q nw2 b ft ft2 s t qt2 qv2 ql2 qp2 qm2 := by
  subst hr
  obtain ⟨h1, h2⟩ := h
  refine ⟨h1, fun z => ?_⟩
  obtain ⟨a1, a2, a3, a4, a5⟩ := h2 z
  exact ⟨a1, a2, a3, a4, tOK_mono a5 (Nat.le_refl _) (by omega) (fun F x y _ _ hz => tVl_up hz)⟩
theorem tI_us {yp : Nat} {X : tF} {s t : tgS} {qt qv ql : Nat} {qa qr qf : Int32} (h : tI yp X s) (hu : tUs s t qt qv ql qa qr qf) (hc : s.1 0 < 6000) : tI yp X t := by
  obtain ⟨S1, p1, o, ho, a1⟩ := hu
  exact tI_ad (tI_pl h p1) a1 (by rw [p1.1 0 (by decide)]; exact hc) (by rcases ho with ⟨rfl, -⟩ | ⟨rfl, -⟩ <;> unfold isL <;> decide) (by rcases ho with ⟨rfl, -⟩ | ⟨rfl, -⟩ <;> decide)
theorem us_n {s t : tgS} {qt qv ql : Nat} {qa qr qf : Int32} (hu : tUs s t qt qv ql qa qr qf) : t.1 4 = s.1 4 ∧ t.1 5 = s.1 5 ∧ t.1 7 = s.1 7 ∧ t.2 20 = s.2 20 := by
  obtain ⟨S1, p1, o, ho, a1⟩ := hu
  exact ⟨by rw [a1.1 4 (by decide), p1.1 4 (by decide)], by rw [a1.1 5 (by decide), p1.1 5 (by decide)], by rw [a1.1 7 (by decide), p1.1 7 (by decide)], by rw [a1.2.1 20 (by decide), p1.2.1 20 (by decide)]⟩
theorem use_n {tt nw nw2 : Nat} {ft ft2 : Int32} {s t : tgS} {qp qp2 : Int32} {qt qv ql : Nat} {qa qr qf : Int32} (hU : tUse tt nw nw2 ft ft2 s t qp qp2 qt qv ql qa qr qf) (hn : nw < tt) (hf : ft ≠ 0 → nw = tt - 1) (hq : qp = 0 ∨ qp = 1) : nw2 < tt ∧ (ft2 ≠ 0 → nw2 = tt - 1) ∧ t.1 4 = s.1 4 ∧ t.1 5 = s.1 5 ∧ (qp2 = 0 ∨ qp2 = 1) ∧ (ft2 = 0 → ft = 0 ∧ nw2 = nw) := by
  rcases hU with ⟨rfl, rfl, rfl, rfl, -⟩ | ⟨rfl, u2, u3, u4⟩ | ⟨rfl, rfl, u3, u4, u5, u6⟩
  · exact ⟨hn, hf, rfl, rfl, hq, fun z => ⟨z, rfl⟩⟩
  · exact ⟨by omega, fun _ => u3, rfl, rfl, Or.inl u4, fun z => absurd z u2⟩
  · obtain ⟨n1, n2, -⟩ := us_n u6
    exact ⟨hn, hf, n1, n2, Or.inl u5, fun z => ⟨z, rfl⟩⟩
/-- value(): an exp, then its use -/
theorem l_val {yp rs tt nw q nw1 nw2 b : Nat} {X : tF} {G : Nat → Nat → Nat} {ip ft ft1 ft2 : Int32} {s u t : tgS} {qt qv ql : Nat} {qp qp2 qa qr qm qf : Int32} (h : tRs yp X G rs tt nw q nw1 b ip ft ft1 s u qt qv ql qp qa qr qm) (hJ : tJ t) (hU : tUse tt nw1 nw2 ft1 ft2 u t qp qp2 qt qv ql qa qr qf) (hJs : tJ s) (hcp : ft = 0 → tCp X nw q s ∧ nw < q) : tRw yp X G rs tt nw q nw2 b ft ft2 s t qt qv ql qp2 qm := by
  obtain ⟨⟨a1, a2, a3, a4, a5, a6⟩, h2⟩ := h
  obtain ⟨n1, n2, n3, n4, n5, n6⟩ := use_n hU a1 a2 a4.2.2.2.1
  refine ⟨⟨n1, n2, hJ, ⟨a4.1, a4.2.1, a4.2.2.1, n5, a4.2.2.2.2⟩, n3.trans a5, by omega⟩, fun z => ?_⟩
  obtain ⟨z1, z2⟩ := n6 z
  obtain ⟨b1, b2, b3, b4, b5⟩ := h2 z1
  obtain ⟨⟨c0, c1, c2, c3, c7⟩, cq⟩ := hcp b1
  rcases b5 with ⟨d1, d2, d3⟩ | ⟨d1, d2, d3⟩
  · subst d2
    rcases hU with ⟨-, -, -, -, e | e⟩ | ⟨-, e, -⟩ | ⟨-, -, -, -, -, e⟩
    · rw [e] at d1; exact absurd d1 (by decide)
    · exact absurd z1 e
    · exact absurd z e
    · have e2 := us_n e
      refine ⟨b1, z2.trans b2, tI_us b3 e (by omega), Or.inr (by rw [e2.2.2.1, e2.2.2.2]; exact d3.2.2.2), tOK_mono (v_use (lo := u.1 1) b3 hJs d3 a4.2.1 a4.2.2.1 (by omega) (by omega) e) (Nat.le_refl _) (by omega) (fun F x y _ _ hz => hz)⟩
  · rcases hU with ⟨rfl, -, -, -, e | e⟩ | ⟨-, e, -⟩ | ⟨-, -, -, e, -⟩
    · exact ⟨b1, z2.trans b2, b3, d2, d3⟩
    · exact absurd z1 e
    · exact absurd z e
    · exact absurd d1 e
/-- a fault that was there stays -/
theorem l_same {yp rs tt nw q b : Nat} {X : tF} {G : Nat → Nat → Nat} {ip ft : Int32} {s : tgS} {qt qv ql : Nat} {qp qa qr qm : Int32} (hf : ft ≠ 0) (hn : nw < tt) (hfl : ft ≠ 0 → nw = tt - 1) (hJ : tJ s) (hQ : tQ qt qv ql qp qm) : tRs yp X G rs tt nw q nw b ip ft ft s s qt qv ql qp qa qr qm := ⟨⟨hn, hfl, hJ, hQ, rfl, by omega⟩, fun z => absurd z hf⟩
/-- with a fault only the bounds count -/
theorem l_bad {yp rs tt nw nw1 q q1 n1 b b1 : Nat} {X : tF} {G : Nat → Nat → Nat} {ip ip1 ft ft1 f1 : Int32} {s u : tgS} {qt qv ql : Nat} {qp qa qr qm : Int32} (h : tRs yp X G rs tt nw1 q1 n1 b1 ip1 ft1 f1 s u qt qv ql qp qa qr qm) (hf : f1 ≠ 0) (hb : b1 ≤ b) : tRs yp X G rs tt nw q n1 b ip ft f1 s u qt qv ql qp qa qr qm := by
  obtain ⟨⟨a1, a2, a3, a4, a5, a6⟩, -⟩ := h
  exact ⟨⟨a1, a2, a3, a4, a5, by omega⟩, fun z => absurd z hf⟩
theorem l_star {yp rs tt nw nw1 q n1 n2 b ql2 qt2 : Nat} {X : tF} {G : Nat → Nat → Nat} {ip ft ft1 f1 f2 : Int32} {s u : tgS} {qt qv ql : Nat} {qp qa qr qm qa2 qr2 qm2 qf2 wh : Int32} (h : tRs yp X G rs tt nw1 q n1 b ip ft1 f1 s u qt qv ql qp qa qr qm) (hft : ft = 0) (h2 : qt2 < 3040 ∧ ql2 ≤ 4 ∧ (qm2 = 0 ∨ qm2 = 1)) (h3 : (f2 ≠ 0 ∧ n2 = tt - 1) ∨ (n2 = n1 ∧ f2 = f1 ∧ tSt u qt qp ql qm qt2 qm2 ∧ qa2 = qa ||| ((13 : Int32) <<< (nI (ql * 4) &&& 31)) ∧ ql2 = ql + 1 ∧ qr2 = qr + 1 ∧ qf2 = wh)) (hJ : tJ s) : tRs yp X G rs tt nw q n2 b ip ft f2 s u qt2 qv ql2 qp qa2 qr2 qm2 := by
  obtain ⟨⟨a1, a2, a3, a4, a5, a6⟩, h4⟩ := h
  refine ⟨⟨by rcases h3 with z | z <;> omega, fun z => ?_, a3, ⟨h2.1, a4.2.1, h2.2.1, a4.2.2.2.1, h2.2.2⟩, a5, a6⟩, fun z => ?_⟩
  · rcases h3 with z3 | ⟨z3, z4, -⟩
    · exact z3.2
    · rw [z3]; exact a2 (by rw [← z4]; exact z)
  · rcases h3 with z3 | ⟨rfl, rfl, g1, rfl, rfl, rfl, -⟩
    · exact absurd z z3.1
    · obtain ⟨b1, b2, b3, b4, b5⟩ := h4 z
      refine ⟨hft, b2, b3, b4, ?_⟩
      rcases b5 with ⟨d1, d2, d3⟩ | ⟨d1, -⟩
      · subst d2; exact Or.inl ⟨d1, rfl, plV_st b3 hJ.2.2.2.2.2.2.1 h2.1 d3 g1⟩
      · exact absurd d1 g1.1
theorem l_mem {yp rs tt nw nw1 q q2 n1 n2 n3 b ql2 qt2 : Nat} {X : tF} {G : Nat → Nat → Nat} {ip ft f1 f2 na : Int32} {s u : tgS} {qt qv ql : Nat} {fpn : Nat → Int32} {qp qa qr qm qa2 qr2 : Int32} (h : tRs yp X G rs tt nw q n1 b ip ft f1 s u qt qv ql qp qa qr qm) (h2 : qt2 < 3040 ∧ ql2 ≤ 4) (h3 : (f2 ≠ 0 ∧ n2 = tt - 1) ∨ (n2 = nw1 ∧ f2 = f1 ∧ ∃ j : Nat, tMe u (X 1) (X 2) (X 3) qt ql qp qa qr qt2 ql2 qa2 qr2 j ∧ fpn ((qt - 4) * 12 * 12 + j) = na)) (hnw : nw1 < tt) (h4 : cuT n2 1 tt n3) (hq : f1 = 0 → n2 = nw1 → n3 = q2) (hf0 : f1 = 0) (hJ : tJ s) : tRs yp X G rs tt nw q2 n3 b ip ft f2 s u qt2 qv ql2 qp qa2 qr2 qm := by
  obtain ⟨⟨a1, a2, a3, a4, a5, a6⟩, h5⟩ := h
  refine ⟨⟨h4.1, fun z => ?_, a3, ⟨h2.1, a4.2.1, h2.2, a4.2.2.2.1, a4.2.2.2.2⟩, a5, a6⟩, fun z => ?_⟩
  · rcases h3 with z3 | ⟨z3, z4, -⟩
    · exact h4.2.2.2 (by omega)
    · exact absurd hf0 (by rw [← z4]; exact z)
  · rcases h3 with z3 | ⟨z3, rfl, j, g1, -⟩
    · exact absurd z z3.1
    · obtain ⟨b1, b2, b3, b4, b5⟩ := h5 z
      refine ⟨b1, hq z z3, b3, b4, ?_⟩
      rcases b5 with ⟨d1, d2, d3⟩ | ⟨d1, -⟩
      · subst d2; exact Or.inl ⟨d1, rfl, plV_me b3 hJ.2.2.2.2.2.2.1 h2.1 d3 g1⟩
      · exact absurd d1 g1.1
theorem ln_n {s t : tgS} {qt qv ql : Nat} {qa qr qf un : Int32} (h : tLn s t qt qv ql qa qr qf un) : t.1 4 = s.1 4 ∧ t.1 5 = s.1 5 + 1 ∧ t.1 7 = s.1 7 ∧ t.2 20 = s.2 20 ∧ tTy t = tTy s := by
  obtain ⟨S0, S2, u1, p1, a1⟩ := h
  refine ⟨by rw [a1.1 4 (by decide), p1.1 4 (by decide), u1.2.2 4 (by decide)], by rw [a1.1 5 (by decide), p1.1 5 (by decide), u1.2.1], by rw [a1.1 7 (by decide), p1.1 7 (by decide), u1.2.2 7 (by decide)], by rw [a1.2.1 20 (by decide), p1.2.1 20 (by decide), u1.1], ?_⟩
  rw [tTy_ad a1, tTy_pl p1, tTy_up u1 (by decide)]
theorem tI_ln {yp : Nat} {X : tF} {s t : tgS} {qt qv ql : Nat} {qa qr qf un : Int32} (hI : tI yp X s) (h : tLn s t qt qv ql qa qr qf un) (hc : s.1 0 < 6000) (h54 : s.1 5 < 2 ^ 31) : tI yp X t := by
  obtain ⟨S0, S2, u1, p1, a1⟩ := h
  have hi := tI_pl (tI_up hI u1 (Or.inl rfl)) p1
  have e0 : S2.1 0 = s.1 0 := by rw [p1.1 0 (by decide), u1.2.2 0 (by decide)]
  have e5 : t.1 5 = s.1 5 + 1 := by rw [a1.1 5 (by decide), p1.1 5 (by decide), u1.2.1]
  have hc2 : S2.1 0 < 6000 := by omega
  have c0 := a1.2.2.1; have c2 := a1.2.2.2.2.1
  refine tI_of hi (tTy_ad a1) (a1.1 4 (by decide)) (a1.2.1 15 (by decide)) (a1.1 6 (by decide)) (a1.2.1 17 (by decide)) (lbI_ad hi.2.1 a1 hc2 (by unfold isL; decide)) ?_
  have f0 : S2.2 0 = s.2 0 := by rw [p1.2.1 0 (by decide), u1.1]
  have f2 : S2.2 2 = s.2 2 := by rw [p1.2.1 2 (by decide), u1.1]
  have f8 : t.1 8 = s.1 8 := by rw [a1.1 8 (by decide), p1.1 8 (by decide), u1.2.2 8 (by decide)]
  exact brI_ins (x0 := 4) (x2 := nI (s.1 5)) hI.2.2.2.2.2 (by rw [← e0, ← f0]; exact c0) (by rw [← e0, ← f2]; exact c2) hc (by omega) f8 (by rw [a1.1 4 (by decide), p1.1 4 (by decide), u1.2.2 4 (by decide)]) (by rw [a1.2.1 19 (by decide), p1.2.1 19 (by decide), u1.1]) (fun _ => ⟨s.1 5, rfl, Nat.le_refl _, by omega, h54⟩)
theorem l_bor {yp rs tt nw nw1 q n1 n2 b2 qt2 : Nat} {X : tF} {G : Nat → Nat → Nat} {ip1 ft ft1 f1 f2 : Int32} {s u t : tgS} {qt qv ql : Nat} {qp qp2 qa qr qm qf un : Int32} (h : tRs yp X G rs tt nw1 q n1 b2 ip1 ft1 f1 s u qt qv ql qp qa qr qm) (hft : ft = 0) (hf1 : f1 = 0) (hun : un = 0 ∨ un = 1) (h2 : tJ t ∧ qt2 < 3040 ∧ (qp2 = qp ∨ qp2 = 0)) (hB : tBr tt n1 n2 f1 f2 u t qp qp2 qt qt2 qv ql qa qr qf qm un) (hJ : tJ s) (hcp : tCp X nw q s) (hnw : nw < nw1) (hq : nw1 ≤ q) (hb : s.1 5 + (b2 + 1) ≤ 54) : tRs yp X G rs tt nw q n2 (b2 + 1) 0 ft f2 s t qt2 qv ql qp2 qa qr qm := by
  have cl1 := cL_le (X := X) (show nw ≤ q by omega)
  obtain ⟨⟨a1, a2, a3, a4, a5, a6⟩, h5⟩ := h
  have hqp : qp2 = 0 ∨ qp2 = 1 := by
    rcases h2.2.2 with z | z
    · rw [z]; exact a4.2.2.2.1
    · exact Or.inl z
  rcases hB with ⟨rfl, c2, c3⟩ | ⟨c1, c2, c3, c4, ⟨S1, c5, c6⟩, c7⟩
  · exact ⟨⟨by omega, fun _ => c3, h2.1, ⟨h2.2.1, a4.2.1, a4.2.2.1, hqp, a4.2.2.2.2⟩, a5, by omega⟩, fun z => absurd z c2⟩
  · obtain ⟨e4, e5, e7, e20, eT⟩ := ln_n c5
    have d4 := c6.1 4 (by decide); have d5 := c6.1 5 (by decide)
    refine ⟨⟨by rcases c7 with z | z <;> omega, fun z => ?_, h2.1, ⟨h2.2.1, a4.2.1, a4.2.2.1, hqp, a4.2.2.2.2⟩, by rw [d4, e4]; exact a5, by omega⟩, fun z => ?_⟩
    · rcases c7 with z7 | z7
      · exact z7.2
      · rw [z7.2.1] at z; exact absurd hf1 z
    · rcases c7 with z7 | ⟨z7, z8, z9⟩
      · exact absurd z z7.1
      · obtain ⟨b1, b2', b3, b4, b5⟩ := h5 hf1
        rcases b5 with ⟨g1, g2, g3⟩ | ⟨g1, -⟩
        · subst g2
          obtain ⟨p0, p1, p2, p3, p7⟩ := hcp
          obtain ⟨w1, w2, w3⟩ := v_borrow (lo := u.1 1) (rs := rs) (G := G) b3 hJ g3 a4.2.1 a4.2.2.1 (by omega) (by omega) (by omega) (by omega) c3 c4 hun z9 c5 c6
          have hN : tyN yp (u.2 20) qt := by
            rcases g3.2.2.2.1 with q | ⟨-, q | q⟩
            · exact q
            · exact absurd q c3
            · exact absurd q c4
          have hT : qt < u.1 7 := g3.2.2.2.2
          refine ⟨hft, z7.trans b2', tI_mk (tI_ln b3 c5 (by omega) (by omega)) c6 (by rw [e20]; exact hN) (by rw [e7]; exact hT) (by omega), fun z => absurd z (by decide), Or.inr ⟨c2, Or.inr w3, tOK_mono w1 (Nat.le_refl _) (by omega) (fun F x y _ _ hz => hz)⟩⟩
        · exact absurd g1 c1
theorem v_un {yp rs T x m nv : Nat} {X F : tF} {G : Nat → Nat → Nat} {s : tgS} (hI : tyOK yp (tTy s)) (hF : tFu s F) (h1 : tVl nv X G rs T F x m) (h2 : (T = 1 ∧ F 0 m = 5) ∨ (T = 2 ∧ F 0 m = 6)) (hxm : x ≤ m) : tVl nv X G rs T F x (m + 1) := fun J st hsc hst => by
  have e1 : tNf F T = (0, T, 0) := tF_low (t := s) hI hF (by omega)
  refine sgw_app (h1 J st hsc hst) ?_ hxm (Nat.le_succ m)
  rw [e1]
  rcases h2 with ⟨rfl, h2⟩ | ⟨rfl, h2⟩
  · exact sgw_one (o := 5) wl_le h2 (show 5 < 33 by decide) (vb2 hst) (vb1 hst) (fun k hk => ⟨⟨st, rfl⟩, hk⟩)
  · exact sgw_one (o := 6) wl_le h2 (show 6 < 33 by decide) (vb2 hst) (vb1 hst) (fun k hk => ⟨⟨st, rfl⟩, hk⟩)
theorem v_box {yp rs T U x m nv : Nat} {X F : tF} {G : Nat → Nat → Nat} (h1 : tVl nv X G rs T F x m) (h2 : F 0 m = 8) (h3 : F 1 m = nI T) (hT : T ≠ 0 ∧ T < 3040 ∧ F 20 T ≠ 5 ∧ F 20 T ≠ 6) (hU : 34 ≤ U ∧ U < 3040 ∧ F 20 U = 4 ∧ F 21 U = nI T) (hxm : x ≤ m) : tVl nv X G rs U F x (m + 1) := fun J st hsc hst => by
  refine sgw_app (h1 J st hsc hst) (sgw_one (o := 8) wl_le h2 (show 8 < 33 by decide) (vb2 hst) (vb1 hst) (fun k hk => ⟨T, U, st, h3, hT.1, hT.2.1, hU.2.1, hU.2.2.1, hU.2.2.2, hT.2.2.1, hT.2.2.2, rfl, ?_⟩)) hxm (Nat.le_succ m)
  rw [hk, tNf_0 (by omega) (by rw [hU.2.2.1]; decide) (by rw [hU.2.2.1]; decide)]
theorem l_sgn {yp rs tt nw nw1 q n2 n3 b b1 qt2 : Nat} {X : tF} {G : Nat → Nat → Nat} {ft ft1 f2 f3 sg9 : Int32} {s w t : tgS} {qt qv ql : Nat} {qp2 qa qr qm : Int32} (h : tRw yp X G rs tt nw1 q n2 b1 ft1 f2 s w qt qv ql qp2 qm) (hft : ft = 0) (h2 : tJ t ∧ qt2 < 3040 ∧ tSg sg9 w t qt qt2) (h3 : (f3 ≠ 0 ∧ n3 = tt - 1) ∨ (n3 = n2 ∧ f3 = f2 ∧ tSf sg9 w qt)) (hcp : tCp X nw q s) (hnw : nw < nw1) (hq : nw1 ≤ q) (hb : b1 ≤ b) : tRs yp X G rs tt nw q n3 b 0 ft f3 s t qt2 qv ql 0 qa qr qm := by
  have cl1 := cL_le (X := X) (show nw ≤ nw1 by omega); have cl2 := cL_le (X := X) hq
  obtain ⟨⟨a1, a2, a3, a4, a5, a6⟩, h5⟩ := h
  have hg : t.1 4 = w.1 4 ∧ t.1 5 = w.1 5 := by
    rcases h2.2.2 with ⟨-, S1, c1, c2⟩ | ⟨-, -, c1⟩ | ⟨-, -, -, c1⟩
    · exact ⟨by rw [c2.1 4 (by decide), c1.1 4 (by decide)], by rw [c2.1 5 (by decide), c1.1 5 (by decide)]⟩
    · exact ⟨c1.1 4 (by decide), c1.1 5 (by decide)⟩
    · exact ⟨c1.1 4 (by decide), c1.1 5 (by decide)⟩
  refine ⟨⟨by rcases h3 with z | z <;> omega, fun z => ?_, h2.1, ⟨h2.2.1, a4.2.1, a4.2.2.1, Or.inl rfl, a4.2.2.2.2⟩, by rw [hg.1]; exact a5, by omega⟩, fun z => ?_⟩
  · rcases h3 with z3 | ⟨z3, z4, -⟩
    · exact z3.2
    · rw [z3]; exact a2 (by rw [← z4]; exact z)
  · rcases h3 with z3 | ⟨rfl, rfl, z5⟩
    · exact absurd z z3.1
    · obtain ⟨b1', b2, b3, b4, b5⟩ := h5 z
      obtain ⟨p0, p1, p2, p3, p7⟩ := hcp
      obtain ⟨q0, q1, q2, q3, q7⟩ := b5.2.2.1
      have hw0 : w.1 0 < 6000 := by omega
      have hw7 : w.1 7 < 3040 := by omega
      have hc1 := b5.1.1 1 (by decide)
      rcases h2.2.2 with ⟨s1, S1, c1, c2⟩ | ⟨s1, s2, c1⟩ | ⟨s1, s2, s3, c1⟩
      · obtain ⟨t1, t2, t3⟩ : qt ≠ 0 ∧ w.2 20 qt ≠ 5 ∧ w.2 20 qt ≠ 6 := by
          rcases z5 with z5 | ⟨z5, -⟩ | ⟨z5, -⟩
          · exact z5.2
          · rw [s1] at z5; exact absurd z5 (by decide)
          · exact absurd s1 z5
        have hV : tyV yp (w.1 7) (w.2 20) qt := b4.elim (fun z => absurd z t1) id
        have hN : tyN yp (w.2 20) qt := by
          rcases hV.1 with z | ⟨-, z | z⟩
          · exact z
          · exact absurd z t2
          · exact absurd z t3
        have r7 : S1.1 7 = w.1 7 := c1.1 7 (by decide)
        have r20 : S1.2 20 = w.2 20 := c1.2.1 20 (by decide)
        have i1 := tI_ad b3 c1 hw0 (by unfold isL; decide)
        obtain ⟨k1, k2, k3, k4, k5⟩ := tOK_mk (lo := s.1 1) c2 i1.1 (by rw [r20]; exact hN) (by rw [r7]; exact hV.2) (by omega)
        refine ⟨hft, b2, tI_mk i1 c2 (by rw [r20]; exact hN) (by rw [r7]; exact hV.2) (by omega), fun z => absurd z (by decide), Or.inr ⟨rfl, Or.inr ⟨Or.inl (Or.inr (Or.inr ⟨k3, k5⟩)), k4⟩, tOK_mono (tOK_seq b5 (tOK_seq (tOK_ad (lo := s.1 1) c1 hw0 (by unfold isL; decide)) k1)) (Nat.le_refl _) (by omega) (fun F x y hxy hF hz => ?_)⟩⟩
        obtain ⟨m, m1, m2, z1, m3, m4, m5, ⟨rfl, g0, g1, -⟩, rfl, g5, g6⟩ := hz
        have hx := tXt_tr (tXt_ad c1 hw0) k1.1
        have hFw := tFu_dn hF hx
        have e20 := hFw.1 20 (by decide) (by decide) qt hV.2
        have hqt := hV.2
        exact v_box (yp := yp) z1 g0 g1 ⟨t1, by omega, by rw [e20]; exact t2, by rw [e20]; exact t3⟩ ⟨k3, h2.2.1, g5, g6⟩ m1
      · have t1 : qt = 2 := by
          rcases z5 with ⟨z5, -⟩ | z5 | ⟨-, z5, -⟩
          · rw [s1] at z5; exact absurd z5 (by decide)
          · exact z5.2
          · exact absurd s1 z5
        subst t1; subst s2
        refine ⟨hft, b2, tI_ad b3 c1 hw0 (by unfold isL; decide), fun z => absurd z (by decide), Or.inr ⟨rfl, Or.inr ⟨Or.inl (Or.inl (Or.inr (Or.inl rfl))), by have h34 : 34 ≤ w.1 7 := b3.1.1; rw [c1.1 7 (by decide)]; omega⟩, tOK_mono (tOK_seq b5 (tOK_ad (lo := s.1 1) c1 hw0 (by unfold isL; decide))) (Nat.le_refl _) (by omega) (fun F x y hxy hF hz => ?_)⟩⟩
        obtain ⟨m, m1, m2, z1, rfl, g0, -⟩ := hz
        exact v_un b3.1 (tFu_dn hF (tXt_ad c1 hw0)) z1 (Or.inr ⟨rfl, g0⟩) m1
      · have t1 : qt = 1 := by
          rcases z5 with ⟨z5, -⟩ | ⟨z5, -⟩ | z5
          · exact absurd z5 s1
          · exact absurd z5 s2
          · exact z5.2.2
        subst t1; subst s3
        refine ⟨hft, b2, tI_ad b3 c1 hw0 (by unfold isL; decide), fun z => absurd z (by decide), Or.inr ⟨rfl, Or.inr ⟨Or.inl (Or.inl (Or.inl rfl)), by have h34 : 34 ≤ w.1 7 := b3.1.1; rw [c1.1 7 (by decide)]; omega⟩, tOK_mono (tOK_seq b5 (tOK_ad (lo := s.1 1) c1 hw0 (by unfold isL; decide))) (Nat.le_refl _) (by omega) (fun F x y hxy hF hz => ?_)⟩⟩
        obtain ⟨m, m1, m2, z1, rfl, g0, -⟩ := hz
        exact v_un b3.1 (tFu_dn hF (tXt_ad c1 hw0)) z1 (Or.inl ⟨rfl, g0⟩) m1
theorem l_sh {yp rs tt nw q n1 b : Nat} {X : tF} {G : Nat → Nat → Nat} {ip ft f1 : Int32} {s u : tgS} {qt qv ql : Nat} {qp qa qr qm : Int32} (h : tRs yp X G rs tt nw q n1 b ip ft f1 s u qt qv ql qp qa qr qm) (hf : f1 = 0) : u.2 20 qt = 2 → 4 ≤ qt ∧ qt < 34 := fun hk => by
  obtain ⟨b1, b2, b3, b4, b5⟩ := h.2 hf
  have hV : qt = 0 ∨ tyV yp (u.1 7) (u.2 20) qt := by
    rcases b5 with ⟨-, rfl, d3⟩ | ⟨-, d2, -⟩
    · exact Or.inr d3.2.2.2
    · exact d2
  rcases hV with rfl | hV
  · exact absurd (b3.1.2.2.2.1.1.symm.trans hk) (by decide)
  · have := ty_2 b3.1 hV hk
    have := b3.1.2.2.1
    omega
theorem l_q {yp rs tt nw q q2 n1 b : Nat} {X : tF} {G : Nat → Nat → Nat} {ip ft f1 : Int32} {s u : tgS} {qt qv ql : Nat} {qp qa qr qm : Int32} (h : tRs yp X G rs tt nw q n1 b ip ft f1 s u qt qv ql qp qa qr qm) (hq : f1 = 0 → q = q2) : tRs yp X G rs tt nw q2 n1 b ip ft f1 s u qt qv ql qp qa qr qm := by
  rcases Classical.em (f1 = 0) with z | z
  · rw [← hq z]; exact h
  · exact ⟨h.1, fun q => absurd q z⟩
/-- a value whose code came by R, with n tokens, without places or variables -/
theorem l_one {yp rs tt nw q nw2 b T : Nat} {X : tF} {G : Nat → Nat → Nat} {ip ft : Int32} {s t : tgS} {qv ql : Nat} {qa qr qm : Int32} (hQ : qv < 40 ∧ ql ≤ 4 ∧ (qm = 0 ∨ qm = 1)) (hft : ft = 0) (hT : T < 3040) (hip : ip = 0) (hn : nw2 < tt) (hq : nw2 = q) (hJ : tJ t) (h4 : t.1 4 = s.1 4) (h5 : t.1 5 ≤ s.1 5 + b) (hI : tI yp X t) (hV : T = 0 ∨ tyV yp (t.1 7) (t.2 20) T) (hO : tOn X (s.1 1) nw q s t (tVl (s.1 4) X G rs T)) : tRs yp X G rs tt nw q nw2 b ip ft ft s t T qv ql 0 qa qr qm := ⟨⟨hn, fun z => absurd hft z, hJ, ⟨hT, hQ.1, hQ.2.1, Or.inl rfl, hQ.2.2⟩, h4, h5⟩, fun _ => ⟨hft, hq, hI, fun z => absurd (hip.symm.trans z) (by decide), Or.inr ⟨rfl, hV, hO⟩⟩⟩
theorem v_rd {lo yp rs nv : Nat} {X : tF} {G : Nat → Nat → Nat} {s t : tgS} (hI : tyOK yp (tTy s)) (hc : s.1 0 < 6000) (h : tAd s t 1 0 0 0 (-1)) : tOK lo 1 0 0 0 0 s t (tVl nv X G rs 1) := by
  have q := tOK_ad (lo := lo) h hc (by unfold isL; decide)
  refine tOK_mono q (Nat.le_refl _) (by omega) (fun F a b hab hF hR J st hsc hst => ?_)
  obtain ⟨rfl, g0, -⟩ := hR
  refine sgw_one (o := 1) (Nat.le_refl _) g0 (show 1 < 33 by decide) (vb0 hst) (vb1 hst) (fun k hk' => ?_)
  show k (a + 1) = _
  rw [hk', tF_low (t := t) hI (tFu_dn hF q.1) (Or.inr (Or.inl rfl))]
theorem tyV_low {yp yt T : Nat} {ak : Nat → Int32} (h : 34 ≤ yt) (hT : T = 1 ∨ T = 2 ∨ T = 3) : tyV yp yt ak T := ⟨Or.inl (Or.inl hT), by omega⟩
/-- brackets around an exp -/
theorem l_brk {yp rs tt nw r q n1 n2 b : Nat} {X : tF} {G : Nat → Nat → Nat} {ip ft ft1 f1 : Int32} {s u : tgS} {qt qv ql : Nat} {qp qa qr qm : Int32} (h : tRs yp X G rs tt (nw + 1) r n1 b ip ft1 f1 s u qt qv ql qp qa qr qm) (hft : ft = 0) (hc : cuT n1 1 tt n2) (hq : q = r + 1) (hqt : q < tt) (hr : nw + 1 < r) : tRs yp X G rs tt nw q n2 b ip ft f1 s u qt qv ql qp qa qr qm := by
  have cl1 := cL_le (X := X) (show nw ≤ nw + 1 by omega); have cl2 := cL_le (X := X) (show r ≤ q by omega); have cl3 := cL_le (X := X) (show nw + 1 ≤ r by omega)
  obtain ⟨⟨a1, a2, a3, a4, a5, a6⟩, h5⟩ := h
  refine ⟨⟨hc.1, fun z => hc.2.2.2 (by have := a2 z; omega), a3, a4, a5, a6⟩, fun z => ?_⟩
  obtain ⟨b1, b2, b3, b4, b5⟩ := h5 z
  refine ⟨hft, by rw [hc.2.2.1 (by omega)]; omega, b3, b4, b5.imp id (fun d => ⟨d.1, d.2.1, tOK_mono d.2.2 (Nat.le_refl _) (by omega) (fun F x y _ _ hz => hz)⟩)⟩
/-- token(exp) -/
theorem l_tok {yp rs tt nw r q n1 n2 n3 b : Nat} {X : tF} {G : Nat → Nat → Nat} {ip ft ft1 f1 f2 : Int32} {s u : tgS} {qt qv ql : Nat} {qp qa qr qm : Int32} (h : tRw yp X G rs tt (nw + 2) r n1 b ft1 f1 s u qt qv ql qp qm) (hft : ft = 0) (hip : ip = 0) (h1 : (f2 ≠ 0 ∧ n2 = tt - 1) ∨ (f2 = f1 ∧ n2 = n1 ∧ qt = 1)) (hc : cuT n2 1 tt n3) (hq : q = r + 1) (hqt : q < tt) (hr : nw + 2 < r) : tRs yp X G rs tt nw q n3 b ip ft f2 s u 3 qv ql 0 qa qr qm := by
  have cl1 := cL_le (X := X) (show nw ≤ nw + 2 by omega); have cl2 := cL_le (X := X) (show r ≤ q by omega); have cl3 := cL_le (X := X) (show nw + 2 ≤ r by omega)
  obtain ⟨⟨a1, a2, a3, a4, a5, a6⟩, h5⟩ := h
  refine ⟨⟨hc.1, fun z => hc.2.2.2 ?_, a3, ⟨by decide, a4.2.1, a4.2.2.1, Or.inl rfl, a4.2.2.2.2⟩, a5, a6⟩, fun z => ?_⟩
  · rcases h1 with h1 | ⟨h1, h2, -⟩
    · omega
    · have := a2 (by rw [← h1]; exact z); omega
  · rcases h1 with h1 | ⟨rfl, rfl, rfl⟩
    · exact absurd z h1.1
    · obtain ⟨b1, b2, b3, b4, b5⟩ := h5 z
      refine ⟨hft, by rw [hc.2.2.1 (by omega)]; omega, b3, fun z => absurd (hip.symm.trans z) (by decide), Or.inr ⟨rfl, Or.inr (tyV_low b3.1.1 (Or.inr (Or.inr rfl))), tOK_mono b5 (Nat.le_refl _) (by omega) (fun F x y _ hF hz J st hsc hst => ?_)⟩⟩
      have e := hz J st hsc hst
      rw [tF_low (t := u) b3.1 hF (Or.inr (Or.inl rfl))] at e
      have e3 : tNf F 3 = (0, 1, 0) := by unfold tNf; rw [if_pos rfl]
      rw [e3]; exact e
theorem lvK_12 {x : Int32} (h1 : 1 ≤ lvK x) (h2 : lvK x ≤ 2) : x = 132 ∨ x = 133 := by
  unfold lvK at h1 h2
  (repeat' split at h1) <;> simp_all
theorem lvK_132 : lvK 132 = 2 := by decide
theorem lvK_133 : lvK 133 = 1 := by decide
theorem seqR_fn {S : Nat → Nat → Nat → Prop} : ∀ (n p q b : Nat), seqR S n p q b → ∃ P B : Nat → Nat, P 0 = p ∧ P n = q ∧ B 0 = 0 ∧ B n = b ∧ ∀ i : Nat, i < n → ∃ c : Nat, S (P i) (P (i + 1)) c ∧ B (i + 1) = B i + c
  | 0, p, q, b, h => ⟨fun _ => p, fun _ => 0, rfl, h.1.symm, rfl, h.2.symm, fun i hi => absurd hi (Nat.not_lt_zero i)⟩
  | n + 1, p, q, b, h => by
    obtain ⟨r, b1, b2, h1, h2, h3⟩ := h
    obtain ⟨P, B, p0, pn, c0, cn, hs⟩ := seqR_fn n p r b1 h1
    have e1 : ∀ i : Nat, i ≤ n → (if i ≤ n then P i else q) = P i := fun i hi => if_pos hi
    have e2 : ∀ i : Nat, i ≤ n → (if i ≤ n then B i else b) = B i := fun i hi => if_pos hi
    have e3 : (if n + 1 ≤ n then P (n + 1) else q) = q := if_neg (by omega)
    have e4 : (if n + 1 ≤ n then B (n + 1) else b) = b := if_neg (by omega)
    refine ⟨fun i => if i ≤ n then P i else q, fun i => if i ≤ n then B i else b, (e1 0 (by omega)).trans p0, e3, (e2 0 (by omega)).trans c0, e4, fun i hi => ?_⟩
    show ∃ c : Nat, S (if i ≤ n then P i else q) (if i + 1 ≤ n then P (i + 1) else q) c ∧ (if i + 1 ≤ n then B (i + 1) else b) = (if i ≤ n then B i else b) + c
    rcases Nat.lt_or_ge i n with z | z
    · rw [e1 i (by omega), e1 (i + 1) (by omega), e2 i (by omega), e2 (i + 1) (by omega)]; exact hs i z
    · obtain rfl : i = n := by omega
      rw [e1 i (Nat.le_refl _), e2 i (Nat.le_refl _), e3, e4, pn, cn]; exact ⟨b2, h2, h3⟩
/-- newLabel, at any time -/
def tNl (s t : tgS) (L : Nat) : Prop := t.2 = s.2 ∧ (∀ k : Nat, k ≠ 1 → t.1 k = s.1 k) ∧ L < 1100 ∧ L + 1 = t.1 1 ∧ t.1 1 ≤ 1100 ∧ (s.1 1 < 1100 → t.1 1 = s.1 1 + 1)
theorem tNl_mk {s : tgS} {n2 : Nat} (h : 1 ≤ n2 ∧ n2 ≤ 1100 ∧ ((s.1 1 < 1100 ∧ n2 = s.1 1 + 1) ∨ (s.1 1 = 1100 ∧ n2 = s.1 1))) : tNl s (tN s 1 n2) (n2 - 1) := ⟨rfl, fun _ hk => tN_n hk, by omega, by rw [tN_s]; omega, by rw [tN_s]; omega, fun z => by rw [tN_s]; omega⟩
theorem tJ_nl {s t : tgS} {L : Nat} (h : tJ s) (ha : tNl s t L) : tJ t := by
  obtain ⟨a1, a2, a3, a4, a5, a6⟩ := ha
  unfold tJ at *
  rw [a1, a2 0 (by decide), a2 2 (by decide), a2 3 (by decide), a2 4 (by decide), a2 5 (by decide), a2 7 (by decide)]
  exact ⟨h.1, a5, h.2.2⟩
theorem tNl_up {s t : tgS} {L : Nat} (ha : tNl s t L) (hs : s.1 1 < 1100) : tUp s t 1 ∧ L = s.1 1 := by
  obtain ⟨a1, a2, a3, a4, a5, a6⟩ := ha
  exact ⟨⟨a1, a6 hs, a2⟩, by have := a6 hs; omega⟩
theorem l_opr {yp rs rs1 tt nw p1 p2 q n1 n2 n3 b1 c z : Nat} {X : tF} {G : Nat → Nat → Nat} {ft f1 f2 f3 sg9 : Int32} {s u w t : tgS} {a bT qv ql qv2 ql2 : Nat} {qp qm qp2 qm2 qa qr : Int32} (hv : tRw yp X G rs tt nw p1 n1 b1 ft f1 s u a qv ql qp qm) (hr : tRw yp X G rs1 tt (p1 + 1) p2 n2 c f1 f2 u w bT qv2 ql2 qp2 qm2) (hrs : rs = rs1 + 4096) (ho1 : tJ t ∧ z = if lvK sg9 ≤ 3 then 2 else 1) (ho2 : (f3 ≠ 0 ∧ n3 = tt - 1) ∨ (n3 = n2 ∧ f3 = f2 ∧ tFit sg9 a bT)) (ho3 : (lvK sg9 ≤ 2 ∧ t = w) ∨ (2 < lvK sg9 ∧ tAd w t 7 sg9 0 0 (-1))) (h2 : 2 < lvK sg9) (hcp : ft = 0 → tCp X nw q s) (hp1 : nw < p1) (hp2 : p1 + 1 < p2) (hq : p2 ≤ q) : tRs yp X G rs tt nw p2 n3 (b1 + c) 0 ft f3 s t z qv2 ql2 0 qa qr qm2 := by
  have cl1 := cL_le (X := X) (show nw ≤ p1 by omega); have cl2 := cL_le (X := X) (show p1 ≤ p1 + 1 by omega); have cl3 := cL_le (X := X) (show p1 + 1 ≤ p2 by omega); have cl4 := cL_le (X := X) hq
  obtain ⟨⟨a1, a2, a3, a4, a5, a6⟩, h5⟩ := hv
  obtain ⟨⟨c1, c2, c3, c4, c5, c6⟩, d5⟩ := hr
  rcases ho3 with ⟨z3, -⟩ | ⟨-, ho3⟩
  · omega
  have hz : z = 1 ∨ z = 2 := by rw [ho1.2]; split <;> simp
  refine ⟨⟨by rcases ho2 with z | z <;> omega, fun z => ?_, ho1.1, ⟨by omega, c4.2.1, c4.2.2.1, Or.inl rfl, c4.2.2.2.2⟩, by rw [ho3.1 4 (by decide), c5, a5], by rw [ho3.1 5 (by decide)]; omega⟩, fun z9 => ?_⟩
  · rcases ho2 with z3 | ⟨z3, z4, -⟩
    · exact z3.2
    · rw [z3]; exact c2 (by rw [← z4]; exact z)
  · rcases ho2 with z3 | ⟨rfl, rfl, hfit⟩
    · exact absurd z9 z3.1
    · obtain ⟨e1, e2, e3, e4, e5⟩ := d5 z9
      rw [a5] at e5
      obtain ⟨g1, g2, g3, g4, g5⟩ := h5 e1
      obtain ⟨p0, p1', p2', p3, p7⟩ := hcp g1
      obtain ⟨q0, q1, q2, q3, q7⟩ := g5.2.2.1
      obtain ⟨r0, r1, r2, r3, r7⟩ := e5.2.2.1
      have hw0 : w.1 0 < 6000 := by omega
      have hlo : s.1 1 ≤ u.1 1 := g5.1.1 1 (by decide)
      have hab : (a = 1 ∨ a = 2) ∧ (bT = 1 ∨ bT = 2) := by rcases hfit with h | ⟨-, h | h⟩ <;> omega
      have hi := tI_ad e3 ho3 hw0 (by unfold isL; decide)
      refine ⟨g1, e2, hi, fun z => absurd z (by decide), Or.inr ⟨rfl, Or.inr (tyV_low hi.1.1 (by omega)), tOK_mono (tOK_seq (tOK_seq g5 (tOK_lo (lo2 := s.1 1) e5 hlo)) (tOK_ad (lo := s.1 1) ho3 hw0 (by unfold isL; decide))) (Nat.le_refl _) (by omega) (fun F x y hxy hF hz9 => ?_)⟩⟩
      obtain ⟨m, m1, m2, ⟨m3, m4, m5, y1, y2⟩, rfl, k0, -⟩ := hz9
      exact v_op (yp := yp) (s := t) (t := t) (g := sg9) hi.1 hF hab.1 hab.2 hz hrs y1 y2 k0 m4 m5
theorem l_and {yp rs tt nw p1 p2 q n1 n2 n3 b1 c z L : Nat} {X : tF} {G : Nat → Nat → Nat} {ft f1 f2 f3 sg9 o9 : Int32} {s u x9 y9 w t : tgS} {a bT qv ql qv2 ql2 : Nat} {qp qm qp2 qm2 qa qr : Int32} (hv : tRw yp X G rs tt nw p1 n1 b1 ft f1 s u a qv ql qp qm) (hL : tNl u x9 L) (hA : tAd x9 y9 o9 (nI L) 0 0 (-1)) (ho9 : o9 = 18 ∨ o9 = 19) (hr : tRw yp X G rs tt (p1 + 1) p2 n2 c f1 f2 y9 w bT qv2 ql2 qp2 qm2) (ho1 : tJ t ∧ z = if lvK sg9 ≤ 3 then 2 else 1) (ho2 : (f3 ≠ 0 ∧ n3 = tt - 1) ∨ (n3 = n2 ∧ f3 = f2 ∧ tFit sg9 a bT)) (ho3 : tSb w t 13 L) (h2 : lvK sg9 ≤ 2) (hcp : ft = 0 → tCp X nw q s) (hcK : cL X (p1 + 1) = cL X p1 + 1) (hp1 : nw < p1) (hp2 : p1 + 1 < p2) (hq : p2 ≤ q) : tRs yp X G rs tt nw p2 n3 (b1 + c) 0 ft f3 s t z qv2 ql2 0 qa qr qm2 := by
  have cl1 := cL_le (X := X) (show nw ≤ p1 by omega); have cl3 := cL_le (X := X) (show p1 + 1 ≤ p2 by omega); have cl4 := cL_le (X := X) hq
  obtain ⟨⟨a1, a2, a3, a4, a5, a6⟩, h5⟩ := hv
  obtain ⟨⟨c1, c2, c3, c4, c5, c6⟩, d5⟩ := hr
  have hz : z = 2 := by rw [ho1.2, if_pos (by omega)]
  have x4 := hL.2.1 4 (by decide); have x5 := hL.2.1 5 (by decide); have y4 := hA.1 4 (by decide); have y5 := hA.1 5 (by decide)
  refine ⟨⟨by rcases ho2 with z | z <;> omega, fun z => ?_, ho1.1, ⟨by omega, c4.2.1, c4.2.2.1, Or.inl rfl, c4.2.2.2.2⟩, by rw [ho3.1 4 (by decide), c5, y4, x4, a5], by rw [ho3.1 5 (by decide)]; omega⟩, fun z9 => ?_⟩
  · rcases ho2 with z3 | ⟨z3, z4, -⟩
    · exact z3.2
    · rw [z3]; exact c2 (by rw [← z4]; exact z)
  · rcases ho2 with z3 | ⟨rfl, rfl, hfit⟩
    · exact absurd z9 z3.1
    · obtain ⟨e1, e2, e3, e4, e5⟩ := d5 z9
      rw [y4, x4, a5] at e5
      obtain ⟨g1, g2, g3, g4, g5⟩ := h5 e1
      obtain ⟨p0, p1', p2', p3, p7⟩ := hcp g1
      obtain ⟨q0, q1, q2, q3, q7⟩ := g5.2.2.1
      obtain ⟨r0, r1, r2, r3, r7⟩ := e5.2.2.1
      have s1 := g5.1.1 1 (by decide)
      obtain ⟨u1, uL⟩ := tNl_up hL (by omega)
      have ux1 := u1.2.1
      have x0 := hL.2.1 0 (by decide)
      have hx0 : x9.1 0 < 6000 := by omega
      have yct := (insA_lt hA.2.2.1 hx0).1
      have y1 := hA.1 1 (by decide); have y2 := hA.1 2 (by decide); have y3 := hA.1 3 (by decide); have y7 := hA.1 7 (by decide)
      have x2 := hL.2.1 2 (by decide); have x3 := hL.2.1 3 (by decide); have x7 := hL.2.1 7 (by decide)
      have hw0 : w.1 0 < 6000 := by omega
      have hnl : ¬ isL o9 := by rcases ho9 with rfl | rfl <;> unfold isL <;> decide
      have hix := tI_up g3 u1 (Or.inr (Or.inl rfl))
      have kx := lbU_new g3.2.1 u1 (by omega)
      rw [← uL] at kx
      have qA := tOK_ad (lo := L + 1) hA hx0 hnl
      have ky := lbU_x kx qA (by omega) (by omega)
      have kw := lbU_x ky e5 (by omega) c3.2.1
      have hab : a = 2 ∧ bT = 2 := by rcases hfit with h | ⟨h, -⟩; exact h.2; omega
      obtain ⟨rfl, rfl⟩ := hab
      have w1 := e5.1.1 1 (by decide)
      have hi := tI_sb e3 kw ho3 hw0 c3.2.1
      have qB := tOK_sb (lo := s.1 1) ho3 hw0 (by omega) kw.1
      refine ⟨g1, e2, hi, fun z => absurd z (by decide), Or.inr ⟨rfl, Or.inr (tyV_low hi.1.1 (by omega)), tOK_mono (tOK_seq (tOK_seq g5 (tOK_seq (tOK_up1 (lo := s.1 1) u1) (tOK_seq (tOK_lo (lo2 := s.1 1) qA (by omega)) (tOK_lo (lo2 := s.1 1) e5 (by omega))))) qB) (Nat.le_refl _) (by omega) (fun F x y hxy hF hz9 => ?_)⟩⟩
      obtain ⟨m, m1, m2, ⟨m3, m4, m5, v1, m6, m7, m8, rfl, m9, m10, m11, ⟨rfl, k0, k1, -⟩, v2⟩, rfl, l0, l1, -⟩ := hz9
      rw [hz]
      have hL11 := hL.2.2.1
      exact v_and (yp := yp) (s := t) (t := t) hi.1 hF v1 (by rw [k0]; exact ho9) k1 v2 l0 l1 hL11 m4 (by omega)
/-- what stands fast while functions are typed -/
def tEv (tt nq yp nb : Nat) (fk fn fm : Nat → Int32) (X : tF) (G : Nat → Nat → Nat) (fc : Nat → Nat → Int32) (fr : Nat → Nat → Nat → Int32) (i9 ypr : Nat) (yrs : Int32) : Prop := tt ≤ 3001 ∧ fk (tt - 1) = 0 ∧ nq ≤ 3020 ∧ tnI tt nq fn ∧ yp ≤ 30 ∧ nb ≤ 40 ∧ mnI nq yp nb fm ∧ upI 30 12 (X 0) ∧ upI 360 12 (X 1) ∧ upI 4320 3039 (X 2) ∧ i9 < nb ∧ G i9 0 = ypr ∧ yrs = nI (G i9 1) ∧ X 4 = fk ∧ ∀ g : Nat, g < nb → G g 0 ≤ 12 ∧ G g 1 < 3040 ∧ (∀ j : Nat, j < G g 0 → G g (j + 2) < 3040) ∧ (g ≠ i9 → fc g 3 = nI (G g 0) ∧ fc g 5 = nI (G g 1) ∧ ∀ j : Nat, j < G g 0 → fr g 3 j = nI (G g (j + 2)))
/-- the function's own parameters, and types of all heads, while there is no fault -/
def tHd (yp nb ypr i9 : Nat) (G : Nat → Nat → Nat) (s : tgS) : Prop := ypr ≤ s.1 4 ∧ (∀ j : Nat, j < ypr → s.2 15 j = nI (G i9 (j + 2)) ∧ G i9 (j + 2) < 3040) ∧ ∀ g : Nat, g < nb → (G g 1 = 0 ∨ tyV yp (s.1 7) (s.2 20) (G g 1)) ∧ ∀ j : Nat, j < G g 0 → tyV yp (s.1 7) (s.2 20) (G g (j + 2))
theorem tHd_x {yp nb ypr i9 : Nat} {G : Nat → Nat → Nat} {s t : tgS} (h : tHd yp nb ypr i9 G s) (hx : tXt s t) : tHd yp nb ypr i9 G t := by
  obtain ⟨h1, h2, h3⟩ := h
  have c4 := hx.1 4 (by decide); have c7 := hx.1 7 (by decide)
  have he : ∀ j : Nat, j < s.1 7 → t.2 20 j = s.2 20 j := fun j hj => hx.2.2.2.2.1 20 (by decide) (by decide) j hj
  refine ⟨by omega, fun j hj => ?_, fun g hg => ⟨(h3 g hg).1.imp id (fun q => tyV_up q he c7), fun j hj => tyV_up ((h3 g hg).2 j hj) he c7⟩⟩
  obtain ⟨g1, g2⟩ := h2 j hj
  have hv := (hx.2.2.2.2.2 j (by omega)).2.2.2.1
  rcases Classical.em (s.2 15 j = -1) with q | q
  · rw [g1] at q
    exact absurd (show nI (G i9 (j + 2)) < 0 by rw [q]; decide) (nI_pos (by omega))
  · rw [(hv q).1]; exact ⟨g1, g2⟩
theorem un_suf {fk lF : Nat → Int32} {k0 nw q b : Nat} {ip : Int32} (h : gE fk lF k0 0 nw q b ip) (hs : ¬ sgK (fk nw)) : eSuf fk lF (gN fk lF k0) nw q b ip := by
  rw [gE_eq] at h
  rcases h with ⟨-, h⟩ | ⟨h, -⟩
  · rcases h with ⟨-, h⟩ | ⟨h, -⟩
    · exact h
    · exact absurd h hs
  · exact absurd h (by omega)
theorem un_sg {fk lF : Nat → Int32} {k0 nw q b : Nat} {ip : Int32} (h : gE fk lF k0 0 nw q b ip) (hs : sgK (fk nw)) : ∃ (i2 : Int32) (b2 k1 : Nat), k0 = k1 + 1 ∧ gE fk lF k1 0 (unR fk nw) q b2 i2 ∧ b = b2 + (if fk nw = 38 then 1 else 0) ∧ ip = if fk nw = 42 then i2 else 0 := by
  rw [gE_eq] at h
  rcases h with ⟨-, h⟩ | ⟨h, -⟩
  · rcases h with ⟨h, -⟩ | ⟨-, i2, b2, h1, h2, h3⟩
    · exact absurd hs h
    · cases k0 with
      | zero => exact absurd h1 id
      | succ k1 => exact ⟨i2, b2, k1, rfl, h1, h2, h3⟩
  · exact absurd h (by omega)
theorem sgK_ne {x : Int32} (h : sgK x) : x ≠ 0 := by rcases h with h | h | h | h | h <;> rw [h] <;> decide
theorem suf_of {fk lF : Nat → Int32} {N : gRel} {nw q b : Nat} {ip : Int32} (h : eSuf fk lF N nw q b ip) : ∃ r n : Nat, ePrim fk lF N nw r b ip ∧ eMem fk n r q ∧ n ≤ 16 ∧ fk q ≠ 46 := h
theorem prim_k {fk lF : Nat → Int32} {N : gRel} {nw q b : Nat} {ip : Int32} (h : ePrim fk lF N nw q b ip) : fk nw = 2 ∨ fk nw = 4 ∨ fk nw = 16 ∨ fk nw = 17 ∨ fk nw = 18 ∨ fk nw = 20 ∨ fk nw = 21 ∨ fk nw = 40 := by
  rcases h with ⟨h, -⟩ | ⟨h, -⟩ | ⟨h, -⟩ | ⟨h, -⟩ | ⟨h, -⟩
  · rcases h with h | h | h | h <;> simp [h]
  · simp [h]
  · simp [h]
  · simp [h]
  · simp [h]
theorem prim_1 {fk lF : Nat → Int32} {N : gRel} {nw q b : Nat} {ip : Int32} (h : ePrim fk lF N nw q b ip) (hk : fk nw = 4 ∨ fk nw = 16 ∨ fk nw = 17 ∨ fk nw = 18) : ip = 0 ∧ q = nw + 1 ∧ b = 0 := by
  rcases h with ⟨-, h⟩ | ⟨h, -⟩ | ⟨h, -⟩ | ⟨h, -⟩ | ⟨h, -⟩
  · exact h
  all_goals (exfalso; rw [h] at hk; revert hk; decide)
theorem prim_2 {fk lF : Nat → Int32} {N : gRel} {nw q b : Nat} {ip : Int32} (h : ePrim fk lF N nw q b ip) (hk : fk nw = 2) : eNamed fk lF N nw q b ip := by
  rcases h with ⟨h, -⟩ | ⟨-, h⟩ | ⟨h, -⟩ | ⟨h, -⟩ | ⟨h, -⟩
  · exfalso; rw [hk] at h; revert h; decide
  · exact h
  all_goals (exfalso; rw [hk] at h; revert h; decide)
theorem prim_40 {fk lF : Nat → Int32} {N : gRel} {nw q b : Nat} {ip : Int32} (h : ePrim fk lF N nw q b ip) (hk : fk nw = 40) : eBrk fk N nw q b ip := by
  rcases h with ⟨h, -⟩ | ⟨h, -⟩ | ⟨-, h⟩ | ⟨h, -⟩ | ⟨h, -⟩
  · exfalso; rw [hk] at h; revert h; decide
  · exfalso; rw [hk] at h; revert h; decide
  · exact h
  all_goals (exfalso; rw [hk] at h; revert h; decide)
theorem prim_21 {fk lF : Nat → Int32} {N : gRel} {nw q b : Nat} {ip : Int32} (h : ePrim fk lF N nw q b ip) (hk : fk nw = 21) : ip = 0 ∧ ∃ i2 : Int32, eBrk fk N (nw + 1) q b i2 := by
  rcases h with ⟨h, -⟩ | ⟨h, -⟩ | ⟨h, -⟩ | ⟨-, h⟩ | ⟨h, -⟩
  · exfalso; rw [hk] at h; revert h; decide
  · exfalso; rw [hk] at h; revert h; decide
  · exfalso; rw [hk] at h; revert h; decide
  · exact h
  · exfalso; rw [hk] at h; revert h; decide
theorem prim_20 {fk lF : Nat → Int32} {N : gRel} {nw q b : Nat} {ip : Int32} (h : ePrim fk lF N nw q b ip) (hk : fk nw = 20) : ip = 0 ∧ eBuilt fk N nw q b := by
  rcases h with ⟨h, -⟩ | ⟨h, -⟩ | ⟨h, -⟩ | ⟨h, -⟩ | ⟨-, h⟩
  · exfalso; rw [hk] at h; revert h; decide
  · exfalso; rw [hk] at h; revert h; decide
  · exfalso; rw [hk] at h; revert h; decide
  · exfalso; rw [hk] at h; revert h; decide
  · exact h
theorem gN_of {fk lF : Nat → Int32} {k0 t p q b : Nat} {ip : Int32} (h : gN fk lF k0 t p q b ip) : ∃ k1 : Nat, k0 = k1 + 1 ∧ gE fk lF k1 t p q b ip := by
  cases k0 with
  | zero => exact absurd h id
  | succ k1 => exact ⟨k1, rfl, h⟩
theorem tQ_0 {qt qv ql : Nat} {qp qm : Int32} (h : tQ qt qv ql qp qm) : tQ 0 qv ql 0 qm := ⟨by decide, h.2.1, h.2.2.1, Or.inl rfl, h.2.2.2.2⟩
theorem l_var {yp rs tt nw q n2 b : Nat} {X : tF} {G : Nat → Nat → Nat} {ip ft f2 na wh : Int32} {s : tgS} {qt2 qv2 ql2 : Nat} {qp2 qa2 qr2 qm2 qf2 : Int32} (hft : ft = 0) (hQ : tQ qt2 qv2 ql2 qp2 qm2) (h : (f2 ≠ 0 ∧ n2 = tt - 1) ∨ (f2 = ft ∧ cuT nw 1 tt n2 ∧ tVn s na wh qt2 qv2 ql2 qp2 qa2 qr2 qm2 qf2)) (hn1 : nw + 1 < tt) (hq : q = nw + 1) (hJ : tJ s) (hI : tI yp X s) : tRs yp X G rs tt nw q n2 b ip ft f2 s s qt2 qv2 ql2 qp2 qa2 qr2 qm2 := by
  refine ⟨⟨by rcases h with z | z; omega; exact z.2.1.1, fun z => ?_, hJ, hQ, rfl, by omega⟩, fun z => ?_⟩
  · rcases h with h | ⟨h, -⟩
    · exact h.2
    · exact absurd (h.trans hft) z
  · rcases h with h | ⟨-, h1, h2⟩
    · exact absurd z h.1
    · exact ⟨hft, by rw [h1.2.2.1 hn1]; omega, hI, fun _ => h2.2.2.2.2.1, Or.inl ⟨h2.2.2.2.2.1, rfl, plV_0 hI hJ.2.2.2.2.2.2.1 hQ.1 h2⟩⟩
theorem bin_of {fk lF : Nat → Int32} {k0 le nw q b : Nat} {ip : Int32} (h : gE fk lF k0 le nw q b ip) (hl : 1 ≤ le) : ∃ (r b1 n : Nat) (i1 : Int32) (P B : Nat → Nat), gE fk lF k0 0 nw r b1 i1 ∧ P 0 = r ∧ P n = q ∧ B 0 = 0 ∧ b = b1 + B n ∧ (∀ i : Nat, i < n → ∃ c : Nat, eOp fk (gN fk lF k0) le (P i) (P (i + 1)) c ∧ B (i + 1) = B i + c) ∧ lvK (fk q) < le ∧ ip = if n = 0 then i1 else 0 := by
  rw [gE_eq] at h
  rcases h with ⟨h, -⟩ | ⟨-, r, b1, i1, n, b2, h1, h2, h3, h4, h5⟩
  · omega
  · obtain ⟨P, B, p0, pn, c0, cn, hs⟩ := seqR_fn n r q b2 h2
    exact ⟨r, b1, n, i1, P, B, by rw [gE_eq]; exact Or.inl ⟨rfl, h1⟩, p0, pn, c0, by rw [cn]; exact h3, hs, h4, h5⟩
/-- the places of signs grow -/
theorem bin_up {fk : Nat → Int32} {N : gRel} {le n : Nat} {P B : Nat → Nat} (hN : ∀ (t p q b : Nat) (ip : Int32), N t p q b ip → p < q) (h : ∀ i : Nat, i < n → ∃ c : Nat, eOp fk N le (P i) (P (i + 1)) c ∧ B (i + 1) = B i + c) : ∀ i j : Nat, i + j = n → P i + 2 * j ≤ P n ∧ B i ≤ B n
  | i, 0, e => by rw [show i = n by omega]; omega
  | i, j + 1, e => by
    obtain ⟨c, ⟨-, ip, h1⟩, h2⟩ := h i (by omega)
    have h3 := hN _ _ _ _ _ h1
    have h4 := bin_up hN h (i + 1) j (by omega)
    omega
theorem bin_up2 {fk : Nat → Int32} {N : gRel} {le n : Nat} {P B : Nat → Nat} (hN : ∀ (t p q b : Nat) (ip : Int32), N t p q b ip → p < q) (h : ∀ i : Nat, i < n → ∃ c : Nat, eOp fk N le (P i) (P (i + 1)) c ∧ B (i + 1) = B i + c) : ∀ i : Nat, i ≤ n → P 0 + 2 * i ≤ P i
  | 0, _ => by omega
  | i + 1, hi => by
    obtain ⟨c, ⟨-, ip, h1⟩, -⟩ := h i (by omega)
    have h3 := hN _ _ _ _ _ h1
    have h4 := bin_up2 hN h i (by omega)
    omega
theorem gN_lt {fk lF : Nat → Int32} {k0 : Nat} : ∀ (t p q b : Nat) (ip : Int32), gN fk lF k0 t p q b ip → p < q := fun t p q b ip h => by
  obtain ⟨k1, -, h1⟩ := gN_of h
  exact gE_lt _ _ _ _ _ _ h1
