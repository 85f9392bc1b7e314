theorem lbU_sb {s t : tgS} {x0 : Int32} {L M : Nat} (h : lbU s L) (ha : tSb s t x0 M) (hc : s.1 0 < 6000) (hne : M ≠ L) (hM : M < 2 ^ 31) (hL : L < 2 ^ 31) : lbU t L := by
  obtain ⟨a1, a2, a5, b0, b1, -⟩ := ha
  obtain ⟨e, b0⟩ := insA_lt b0 hc
  have b1 := (insA_lt b1 hc).2
  refine ⟨by rw [a1 1 (by decide)]; exact h.1, fun i hi hj => ?_⟩
  by_cases z : i = s.1 0
  · subst z
    rw [b1, pk_us]
    exact fun q => hne ((nI_eq hM hL).mp q)
  · rw [b0, pk_un z] at hj
    rw [b1, pk_un z]
    exact h.2 i (by omega) hj
theorem nl_x {s t : tgS} {L : Nat} (h : tNl s t L) (hs : s.1 1 < 1100) {lo : Nat} : tOK lo 0 2 0 0 0 s t (fun _ a b => b = a) ∧ L = s.1 1 ∧ t.1 1 = s.1 1 + 1 := ⟨tOK_up1 (tNl_up h hs).1, (tNl_up h hs).2, (tNl_up h hs).1.2.1⟩
theorem sg_any {F X : tF} {G : Nat → Nat → Nat} {rs a b : Nat} {J : Int32 → List tE → Prop} {x O : List tE} {r : Int32} (h : sg F X G rs J a b (some x) (if r = 1 then none else some O)) (hab : a ≤ b) (hO : vl O ≤ 211) : sg F X G rs J a b (some x) (some O) := by
  by_cases e : r = 1
  · rw [if_pos e] at h
    have hlt : a < b := by
      rcases Nat.lt_or_ge a b with c | c
      · exact c
      · exfalso
        obtain ⟨k, e1, e2, -⟩ := h
        rw [show b = a by omega, e1] at e2
        exact absurd e2 (by simp)
    exact sg_none h hlt (vs hO)
  · rw [if_neg e] at h
    exact h
/-- while -/
theorem l_loop {yp rs k tt nw p1 p2 q n1 n2 b1 b2 v2 L1 L2 T : Nat} {X : tF} {G : Nat → Nat → Nat} {ft f1 f2 r : Int32} {s a1 a2 a3 a4 a5 a6 a7 a8 t : tgS} {qv ql qt2 qv2 ql2 : Nat} {qp qm qp2 qm2 : Int32} (h1 : tNl s a1 L1) (h2 : tNl a1 a2 L2) (h3 : tSb a2 a3 14 L1) (h4 : tAd a3 a4 23 0 0 0 (-1)) (hc : tRw yp X G (rs + 4096 * k) tt p1 p2 n1 b1 ft f1 a4 a5 T qv ql qp qm) (hT : f1 = 0 → T = 2) (h6 : tAd a5 a6 17 (nI L2) 0 0 (-1)) (hb : tBs 3 yp X G rs tt p2 q n2 b2 v2 (a6.1 4) f1 f2 a6 a7 r qt2 qv2 ql2 qp2 qm2) (h8 : tAd a7 a8 15 (nI L1) 0 0 (-1)) (h9 : tSb a8 t 13 L2) (hJ : tJ t) (hrs : rs < 4096) (hk : k ≤ 16) (hp : p1 = nw + 1 ∧ p1 < p2 ∧ p2 + 2 ≤ q) (hcL : cL X (nw + 1) = cL X nw + 2) (hcp : ft = 0 → tCq X nw q s) (hI : ft = 0 → tI yp X s) : tSs 1 yp X G rs tt nw q n2 (b1 + b2) v2 ft f2 s t 0 qt2 qv2 ql2 qp2 qm2 := by
  obtain ⟨⟨c1, c2, c3, c4, c5, c6⟩, hc2⟩ := hc
  obtain ⟨⟨d1, d2, d3, d4, d5, d6, d7⟩, hd2⟩ := hb
  have x4 : a6.1 4 = s.1 4 := by rw [h6.1 4 (by decide), c5, h4.1 4 (by decide), h3.1 4 (by decide), h2.2.1 4 (by decide), h1.2.1 4 (by decide)]
  have x5 : a4.1 5 = s.1 5 := by rw [h4.1 5 (by decide), h3.1 5 (by decide), h2.2.1 5 (by decide), h1.2.1 5 (by decide)]
  have x65 := h6.1 5 (by decide)
  have x44 : a4.1 4 = s.1 4 := by rw [h4.1 4 (by decide), h3.1 4 (by decide), h2.2.1 4 (by decide), h1.2.1 4 (by decide)]
  have t4 : t.1 4 = a7.1 4 := by rw [h9.1 4 (by decide), h8.1 4 (by decide)]
  have t5 : t.1 5 = a7.1 5 := by rw [h9.1 5 (by decide), h8.1 5 (by decide)]
  refine ⟨⟨d1, d2, hJ, d4, by omega, by omega, Or.inl rfl⟩, fun z => ?_⟩
  obtain ⟨g1, g2, g3, g4⟩ := hd2 z
  obtain ⟨e1, e2, e3, e4, e5⟩ := hc2 g1
  rw [x44] at e5
  obtain ⟨w0, w1, w2, w3, w7⟩ := hcp e1
  obtain ⟨rfl, p3, p4⟩ := hp
  have l1 := cL_le (X := X) (show nw + 1 ≤ p2 by omega); have l2 := cL_le (X := X) (show p2 ≤ q by omega)
  have hI0 := hI e1
  obtain ⟨o1, q1, m1⟩ := nl_x (lo := s.1 1) h1 (by omega)
  obtain ⟨o2, q2, m2⟩ := nl_x (lo := s.1 1) h2 (by omega)
  have u1 := (tNl_up h1 (by omega)).1; have u2 := (tNl_up h2 (by omega)).1
  have s0 : a2.1 0 = s.1 0 := by rw [h2.2.1 0 (by decide), h1.2.1 0 (by decide)]
  have ha2 : a2.1 0 < 6000 := by omega
  have a31 : a3.1 1 = a2.1 1 := h3.1 1 (by decide)
  have a30 : a3.1 0 = a2.1 0 + 1 := (insA_lt h3.2.2.2.1 ha2).1
  have ha3 : a3.1 0 < 6000 := by omega
  have a40 : a4.1 0 = a3.1 0 + 1 := (insA_lt h4.2.2.1 ha3).1
  have a41 : a4.1 1 = a3.1 1 := h4.1 1 (by decide)
  obtain ⟨r0, r1, r2, r3, r7⟩ := e5.2.2.1
  have ha5 : a5.1 0 < 6000 := by omega
  have a60 : a6.1 0 = a5.1 0 + 1 := (insA_lt h6.2.2.1 ha5).1
  have a61 : a6.1 1 = a5.1 1 := h6.1 1 (by decide)
  have hbk := tOKb_ok (g4.1 [] (nwI_0 (Nat.le_refl _)))
  obtain ⟨y0, y1, y2, y3, y7⟩ := hbk.2.2.1
  have ha7 : a7.1 0 < 6000 := by omega
  have a80 : a8.1 0 = a7.1 0 + 1 := (insA_lt h8.2.2.1 ha7).1
  have a81 : a8.1 1 = a7.1 1 := h8.1 1 (by decide)
  have ha8 : a8.1 0 < 6000 := by omega
  have a51 := e5.1.1 1 (by decide); have a71 := hbk.1.1 1 (by decide)
  have x2 : a4.1 2 = s.1 2 := by rw [h4.1 2 (by decide), h3.1 2 (by decide), h2.2.1 2 (by decide), h1.2.1 2 (by decide)]
  have x3 : a4.1 3 = s.1 3 := by rw [h4.1 3 (by decide), h3.1 3 (by decide), h2.2.1 3 (by decide), h1.2.1 3 (by decide)]
  have x7 : a4.1 7 = s.1 7 := by rw [h4.1 7 (by decide), h3.1 7 (by decide), h2.2.1 7 (by decide), h1.2.1 7 (by decide)]
  have x62 := h6.1 2 (by decide); have x63 := h6.1 3 (by decide); have x67 := h6.1 7 (by decide)
  have hU : lbU a2 L2 := by rw [q2]; exact lbU_new (tI_up hI0 u1 (Or.inr (Or.inl rfl))).2.1 u2 (by omega)
  have hU3 := lbU_sb hU h3 ha2 (by omega) (by omega) (by omega)
  have hU4 := lbU_x (lo := L2 + 1) hU3 (tOK_ad (lo := L2 + 1) h4 ha3 (by unfold isL; decide)) (by omega) (by omega)
  have hU5 := lbU_x hU4 (tOK_lo (lo2 := L2 + 1) e5 (by omega)) (by omega) (by omega)
  have hU6 := lbU_x (lo := L2 + 1) hU5 (tOK_ad (lo := L2 + 1) h6 ha5 (by unfold isL; decide)) (by omega) (by omega)
  have hU7 := lbU_x hU6 (tOK_lo (lo2 := L2 + 1) hbk (by omega)) (by omega) (by omega)
  have hU8 := lbU_x (lo := L2 + 1) hU7 (tOK_ad (lo := L2 + 1) h8 ha7 (by unfold isL; decide)) (by omega) (by omega)
  have hIt := tI_sb (tI_ad g3 h8 ha7 (by unfold isL; decide)) hU8 h9 ha8 (by omega)
  have K := tOK_seq (tOK_seq (tOK_seq (tOK_seq (tOK_seq (tOK_seq (tOK_seq (tOK_seq o1 o2) (tOK_sb (lo := s.1 1) h3 ha2 (by omega) (by omega))) (tOK_ad (lo := s.1 1) h4 ha3 (by unfold isL; decide))) (tOK_lo (lo2 := s.1 1) e5 (by omega))) (tOK_ad (lo := s.1 1) h6 ha5 (by unfold isL; decide))) (tOK_lo (lo2 := s.1 1) hbk (by omega))) (tOK_ad (lo := s.1 1) h8 ha7 (by unfold isL; decide))) (tOK_sb (lo := s.1 1) h9 ha8 (by omega) hU8.1)
  have K9 := tOK_seq (tOK_ad (lo := s.1 1) h8 ha7 (by unfold isL; decide)) (tOK_sb (lo := s.1 1) h9 ha8 (by omega) hU8.1)
  have hcl9 : nwC (s.1 4) t [] := by rw [← x4]; exact nwC_x g4.2 K9.1 K9.2.1.2 (by omega)
  refine ⟨e1, g2, hIt, [], ⟨tnwA_nil, hcl9⟩, tOK_mn K (Nat.le_refl _) (by omega) (fun F hF hz J O hO => ?_)⟩
  obtain ⟨j8, j8a, j8b, ⟨j7, j7a, j7b, ⟨j6, j6a, j6b, ⟨j5, j5a, j5b, ⟨j4, j4a, j4b, ⟨j3, j3a, j3b, ⟨j2, j2a, j2b, ⟨j1, j1a, j1b, y1', y2'⟩, y3'⟩, y4'⟩, y5'⟩, y6'⟩, y7'⟩, y8'⟩, y9'⟩ := hz
  have y1' : j1 = s.1 0 := y1'
  have y2' : j2 = j1 := y2'
  obtain ⟨z3, f30, f31, -⟩ := y3'
  obtain ⟨z4, f40, -⟩ := y4'
  obtain ⟨z6, f60, f61, -⟩ := y6'
  obtain ⟨z8, f80, f81, -⟩ := y8'
  obtain ⟨z9, f90, f91, -⟩ := y9'
  have hv0 := scI_vl hO.1
  have hvO : vl O ≤ 211 := by omega
  have hT2 := hT g1
  subst hT2
  have eT : tNf F 2 = (0, 2, 0) := tF_low (t := t) hIt.1 hF.2.2.2 (Or.inr (Or.inr rfl))
  have L1b : L1 < 1100 := by omega
  have L2b : L2 < 1100 := by omega
  rw [if_neg (by decide)]
  show sg F X G rs J (s.1 0) (t.1 0) (some O) (some O)
  rw [z9, ← y1', ← y2']
  have b1' : sg F X G rs (fun M st => J M st ∨ (M = nI L2 ∧ st = O)) j3 j4 (some O) (some O) := by
    rw [z4]; exact sg_one (o := 23) f40 (show 23 < 33 by decide) hvO (vs hvO) (fun k9 hk9 => hk9)
  have b2' := s_val (J := fun M st => J M st ∨ (M = nI L2 ∧ st = O)) hrs hk y5' (scJ_sub hO (show s.1 0 ≤ j4 by omega) (Nat.le_refl _))
  have b3' : sg F X G rs (fun M st => J M st ∨ (M = nI L2 ∧ st = O)) j5 j6 (some (tNf F 2 :: O)) (some O) := by
    rw [z6, eT]
    exact sg_one (o := 17) f60 ⟨L2, f61, L2b⟩ (by rw [eT] at b2'; exact sg_end b2' (by omega)) (vs hvO) (fun k9 hk9 => ⟨O, rfl, ⟨hk9, scI_vl hO.1⟩, Or.inr ⟨f61, rfl⟩⟩)
  have b4' : sg F X G rs (fun M st => J M st ∨ (M = nI L2 ∧ st = O)) j6 j7 (some O) (some O) := sg_any (y7' (fun M st => J M st ∨ (M = nI L2 ∧ st = O)) O (by rw [x4]; exact scJ_sub hO (show s.1 0 ≤ j6 by omega) (show j7 ≤ t.1 0 by omega))) (by omega) hvO
  have b5' := sg_app (sg_app (sg_app b1' b2' (by omega) (by omega)) b3' (by omega) (by omega)) b4' (by omega) (by omega)
  have b6' := sg_loop (a := j2) (L := nI L1) f30 ⟨L1, j8, f31, L1b, by have := hJ.1; omega, f90, by rw [f91, show L2 = L1 + 1 by omega]⟩ f31 (by rw [← z3]; exact b5') (by omega) f80 ⟨L1, f81, L1b⟩ f81 ⟨L1, L1b, f31, by rw [← z8]; exact f90, by rw [← z8, f91, show L2 = L1 + 1 by omega]⟩ (scI_vl hO.1)
  rw [← z8] at b6'
  exact sg_lab (j := j8) (L := nI L2) (r := O) (sg_none b6' (by omega) (vs hvO)) (sg_one (o := 13) f90 ⟨L2, f91, L2b⟩ hvO (vs hvO) (fun k9 hk9 => hk9)) (by omega) (Nat.lt_succ_self _) f90 f91 (scI_vl hO.1)
