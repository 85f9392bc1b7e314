theorem sg_dead {F X : tF} {G : Nat → Nat → Nat} {rs a : Nat} {o : Nat} {J : Int32 → List tE → Prop} (h0 : F 0 a = nI o) (hB : iBo F a o) (h14 : nI o ≠ 14 := by decide) : sg F X G rs J a (a + 1) none none := ⟨fun _ => none, rfl, rfl, fun i ha hb s hs => absurd hs (by simp), fun i ha hb => ⟨by rw [show i = a by omega]; exact ⟨⟨o, h0, hB⟩, fun z => absurd (h0.symm.trans z) h14⟩, fun s hs => absurd hs (by simp)⟩⟩
/-- arms of an if so far: z: whether all of them return; Le: the label behind the if -/
def tIm (X : tF) (G : Nat → Nat → Nat) (rs n Le : Nat) (z : Int32) : tR := fun F a b => ∀ (J : Int32 → List tE → Prop) (O : List tE), scJ F n a b O → sg F X G rs (fun M st => J M st ∨ (z ≠ 1 ∧ M = nI Le ∧ st = O)) a b (some O) (some O)
/-- one arm -/
theorem l_arm {yp rs k tt p1 p2 p3 n1 n2 b1 b2 v2 L Le T : Nat} {X : tF} {G : Nat → Nat → Nat} {f0 f1 f2 r : Int32} {a0 a1 a2 a3 a4 a5 a6 : tgS} {qv ql qt2 qv2 ql2 : Nat} {qp qm qp2 qm2 : Int32} (hc : tRw yp X G (rs + 4096 * k) tt p1 p2 n1 b1 f0 f1 a0 a1 T qv ql qp qm) (hT : f1 = 0 → T = 2) (h2 : tNl a1 a2 L) (h3 : tAd a2 a3 17 (nI L) 0 0 (-1)) (hb : tBs 3 yp X G rs tt p2 p3 n2 b2 v2 (a3.1 4) f1 f2 a3 a4 r qt2 qv2 ql2 qp2 qm2) (h5 : tAd a4 a5 16 (nI Le) 0 0 (-1)) (h6 : tSb a5 a6 13 L) (hrs : rs < 4096) (hk : k ≤ 16) (hp : p1 < p2 ∧ p2 + 2 ≤ p3) (hLe : Le < 1100) (hcp : f0 = 0 → a0.1 0 + 2 * (p3 - p1) ≤ 6000 ∧ 2 * a0.1 1 + 2 * (cL X p3 - cL X p1) + 2 ≤ 2200) (z : f2 = 0) : f0 = 0 ∧ n2 = p3 ∧ tI yp X a6 ∧ tOK (a0.1 1) (2 * (p3 - p1) - 1) (2 + 2 * (cL X p3 - cL X p1)) (p3 - p1) (2 * (p3 - p1)) (p3 - p1) a0 a6 (tIm X G rs (a0.1 4) Le r) ∧ nwC (a0.1 4) a6 [] := by
  obtain ⟨⟨c1, c2, c3, c4, c5, c6⟩, hc2⟩ := hc
  obtain ⟨⟨d1, d2, d3, d4, d5, d6, d7⟩, hd2⟩ := hb
  obtain ⟨g1, g2, g3, g4⟩ := hd2 z
  obtain ⟨e1, e2, e3, e4, e5⟩ := hc2 g1
  obtain ⟨w0, w1⟩ := hcp e1
  obtain ⟨p4, p5⟩ := hp
  have l1 := cL_le (X := X) (show p1 ≤ p2 by omega); have l2 := cL_le (X := X) (show p2 ≤ p3 by omega)
  obtain ⟨r0, r1, r2, r3, r7⟩ := e5.2.2.1
  obtain ⟨o2, q2, m2⟩ := nl_x (lo := a0.1 1) h2 (by omega)
  have u2 := (tNl_up h2 (by omega)).1
  have a20 : a2.1 0 = a1.1 0 := h2.2.1 0 (by decide)
  have ha2 : a2.1 0 < 6000 := by omega
  have a30 : a3.1 0 = a2.1 0 + 1 := (insA_lt h3.2.2.1 ha2).1
  have a31 : a3.1 1 = a2.1 1 := h3.1 1 (by decide)
  have a34 : a3.1 4 = a0.1 4 := by rw [h3.1 4 (by decide), h2.2.1 4 (by decide), c5]
  have a32 : a3.1 2 = a1.1 2 := by rw [h3.1 2 (by decide), h2.2.1 2 (by decide)]
  have a33 : a3.1 3 = a1.1 3 := by rw [h3.1 3 (by decide), h2.2.1 3 (by decide)]
  have a37 : a3.1 7 = a1.1 7 := by rw [h3.1 7 (by decide), h2.2.1 7 (by decide)]
  have hbk := tOKb_ok (g4.1 [] (nwI_0 (Nat.le_refl _)))
  obtain ⟨y0, y1, y2, y3, y7⟩ := hbk.2.2.1
  have ha4 : a4.1 0 < 6000 := by omega
  have a50 : a5.1 0 = a4.1 0 + 1 := (insA_lt h5.2.2.1 ha4).1
  have a51 : a5.1 1 = a4.1 1 := h5.1 1 (by decide)
  have ha5 : a5.1 0 < 6000 := by omega
  have a11 := e5.1.1 1 (by decide); have a41 := hbk.1.1 1 (by decide)
  have hU : lbU a2 L := by rw [q2]; exact lbU_new e3.2.1 u2 (by omega)
  have hU3 := lbU_x (lo := L + 1) hU (tOK_ad (lo := L + 1) h3 ha2 (by unfold isL; decide)) (by omega) (by omega)
  have hU4 := lbU_x hU3 (tOK_lo (lo2 := L + 1) hbk (by omega)) (by omega) (by omega)
  have hU5 := lbU_x (lo := L + 1) hU4 (tOK_ad (lo := L + 1) h5 ha4 (by unfold isL; decide)) (by omega) (by omega)
  have hI6 := tI_sb (tI_ad g3 h5 ha4 (by unfold isL; decide)) hU5 h6 ha5 (by omega)
  have K := tOK_seq (tOK_seq (tOK_seq (tOK_seq (tOK_seq e5 o2) (tOK_ad (lo := a0.1 1) h3 ha2 (by unfold isL; decide))) (tOK_lo (lo2 := a0.1 1) hbk (by omega))) (tOK_ad (lo := a0.1 1) h5 ha4 (by unfold isL; decide))) (tOK_sb (lo := a0.1 1) h6 ha5 (by omega) hU5.1)
  have K9 := tOK_seq (tOK_ad (lo := a0.1 1) h5 ha4 (by unfold isL; decide)) (tOK_sb (lo := a0.1 1) h6 ha5 (by omega) hU5.1)
  have hcl9 : nwC (a0.1 4) a6 [] := by rw [← a34]; exact nwC_x g4.2 K9.1 K9.2.1.2 (by rw [h6.1 4 (by decide), h5.1 4 (by decide)]; exact Nat.le_refl _)
  refine ⟨e1, g2, hI6, tOK_mn K (Nat.le_refl _) (by omega) (fun F hF hz J O hO => ?_), hcl9⟩
  obtain ⟨j5, j5a, j5b, ⟨j4, j4a, j4b, ⟨j3, j3a, j3b, ⟨j2, j2a, j2b, ⟨j1, j1a, j1b, y1', y2'⟩, y3'⟩, y4'⟩, y5'⟩, y6'⟩ := hz
  have y2' : j2 = j1 := y2'
  obtain ⟨z3, f30, f31, -⟩ := y3'
  obtain ⟨z5, f50, f51, -⟩ := y5'
  obtain ⟨z6, f60, f61, -⟩ := y6'
  have hv0 := scI_vl hO.1
  have hvO : vl O ≤ 211 := by omega
  have hT2 := hT g1
  subst hT2
  have eT : tNf F 2 = (0, 2, 0) := tF_low (t := a6) hI6.1 hF.2.2.2 (Or.inr (Or.inr rfl))
  have Lb : L < 1100 := by omega
  rw [z6]
  have b1' := s_val (J := fun M st => (J M st ∨ (r ≠ 1 ∧ M = nI Le ∧ st = O)) ∨ (M = nI L ∧ st = O)) hrs hk y1' (scJ_sub hO (Nat.le_refl _) (Nat.le_refl _))
  have b2' : sg F X G rs (fun M st => (J M st ∨ (r ≠ 1 ∧ M = nI Le ∧ st = O)) ∨ (M = nI L ∧ st = O)) j2 j3 (some (tNf F 2 :: O)) (some O) := by
    rw [z3, eT]
    exact sg_one (o := 17) f30 ⟨L, f31, Lb⟩ (by rw [eT] at b1'; exact sg_end b1' (by omega)) (vs hvO) (fun k9 hk9 => ⟨O, rfl, ⟨hk9, scI_vl hO.1⟩, Or.inr ⟨f31, rfl⟩⟩)
  rw [y2'] at b2'
  have b3' : sg F X G rs (fun M st => (J M st ∨ (r ≠ 1 ∧ M = nI Le ∧ st = O)) ∨ (M = nI L ∧ st = O)) j3 j4 (some O) (if r = 1 then none else some O) := y4' _ O (by rw [a34]; exact scJ_sub hO (by omega) (by omega))
  have b4' : sg F X G rs (fun M st => (J M st ∨ (r ≠ 1 ∧ M = nI Le ∧ st = O)) ∨ (M = nI L ∧ st = O)) j4 j5 (if r = 1 then none else some O) none := by
    rw [z5]
    by_cases e : r = 1
    · rw [if_pos e]; exact sg_dead (o := 16) f50 ⟨Le, f51, hLe⟩
    · rw [if_neg e]
      exact sg_one (o := 16) f50 ⟨Le, f51, hLe⟩ hvO (fun r9 hr9 => absurd hr9 (by simp)) (fun k9 hk9 => ⟨scI_vl hO.1, Or.inl (Or.inr ⟨e, f51, rfl⟩)⟩)
  have b5' := sg_app (sg_app (sg_app b1' b2' (by omega) (by omega)) b3' (by omega) (by omega)) b4' (by omega) (by omega)
  exact sg_lab (j := j5) (L := nI L) (r := O) (sg_none b5' (by omega) (vs hvO)) (sg_one (o := 13) f60 ⟨L, f61, Lb⟩ hvO (vs hvO) (fun k9 hk9 => hk9)) (by omega) (Nat.lt_succ_self _) f60 f61 (scI_vl hO.1)
/-- arms read so far, from nw to pos; s: behind the making of Le -/
def tIs (yp : Nat) (X : tF) (G : Nat → Nat → Nat) (rs tt nw pos n9 b8 v8 Le : Nat) (ft f9 : Int32) (s t : tgS) (z : Int32) (qt qv ql : Nat) (qp qm : Int32) : Prop := tSb0 tt n9 b8 v8 f9 s t z qt qv ql qp qm ∧ (f9 = 0 → ft = 0 ∧ n9 = pos ∧ tI yp X t ∧ tOK (s.1 1) (2 * (pos - nw) - 3) (2 * (cL X pos - cL X nw) - 2) (pos - nw) (2 * (pos - nw)) (pos - nw) s t (tIm X G rs (s.1 4) Le z) ∧ nwC (s.1 4) t [])
theorem tIs_0 {yp rs tt nw n9 Le : Nat} {X : tF} {G : Nat → Nat → Nat} {ft : Int32} {s : tgS} {qt qv ql : Nat} {qp qm : Int32} (hn : n9 < tt) (hf : ft ≠ 0 → n9 = tt - 1) (hJ : tJ s) (hQ : tQ qt qv ql qp qm) (hI : ft = 0 → n9 = nw ∧ tI yp X s) : tIs yp X G rs tt nw nw n9 0 0 Le ft ft s s 1 qt qv ql qp qm := by
  refine ⟨⟨hn, hf, hJ, hQ, by omega, by omega, Or.inr rfl⟩, fun z => ⟨z, (hI z).1, (hI z).2, tOK_mn tOK_rf (Nat.le_refl _) (by omega) (fun F hF y J O hO => ?_), nwC_0 (Nat.le_refl _)⟩⟩
  have hv := scI_vl hO.1
  exact sg_nil (vs (show vl O ≤ 211 by omega))
/-- one arm more: from the word if at A to E; then the cursor goes on to E2 -/
theorem tIs_S {yp rs tt nw A E E2 n9 n2 n3 b8 v8 bb vv Le : Nat} {X : tF} {G : Nat → Nat → Nat} {ft f9 f2 : Int32} {s t a6 : tgS} {z r z2 : Int32} {qt qv ql qt2 qv2 ql2 : Nat} {qp qm qp2 qm2 : Int32} (h : tIs yp X G rs tt nw A n9 b8 v8 Le ft f9 s t z qt qv ql qp qm) (hf : f2 = 0 → f9 = 0) (h2 : f2 = 0 → tI yp X a6 ∧ tOK (t.1 1) (2 * (E - (A + 1)) - 1) (2 + 2 * (cL X E - cL X (A + 1))) (E - (A + 1)) (2 * (E - (A + 1))) (E - (A + 1)) t a6 (tIm X G rs (t.1 4) Le r) ∧ nwC (t.1 4) a6 []) (hb : n3 < tt ∧ (f2 ≠ 0 → n3 = tt - 1) ∧ tJ a6 ∧ tQ qt2 qv2 ql2 qp2 qm2 ∧ (t.1 4 ≤ a6.1 4 ∧ a6.1 4 ≤ t.1 4 + vv) ∧ a6.1 5 ≤ t.1 5 + bb) (hr : r = 0 ∨ r = 1) (hz : z2 = if z = 1 then r else 0) (hp : f2 = 0 → nw ≤ A ∧ A + 3 ≤ E ∧ E ≤ E2 ∧ n3 = E2) (hcK : f2 = 0 → cL X (A + 1) = cL X A + 2) : tIs yp X G rs tt nw E2 n3 (b8 + bb) (v8 + vv) Le ft f2 s a6 z2 qt2 qv2 ql2 qp2 qm2 := by
  obtain ⟨⟨a1, a2, a3, a4, a5, a6', a7⟩, ha⟩ := h
  obtain ⟨b1, b2, b3, b4, b5, b6⟩ := hb
  refine ⟨⟨b1, b2, b3, b4, by omega, by omega, ?_⟩, fun y => ?_⟩
  · rw [hz]
    by_cases e : z = 1
    · rw [if_pos e]; exact hr
    · rw [if_neg e]; exact Or.inl rfl
  obtain ⟨c1, c2, c3, c4, c5⟩ := ha (hf y)
  obtain ⟨d1, d2, d3⟩ := h2 y
  obtain ⟨p1, p2, p3, p4⟩ := hp y
  have hK := hcK y
  have l1 := cL_le (X := X) p1; have l2 := cL_le (X := X) (show A + 1 ≤ E by omega); have l3 := cL_le (X := X) p3
  have hlo := c4.1.1 1 (by decide); have h04 := c4.1.1 4 (by decide)
  refine ⟨c1, p4, d1, tOK_sq c4 (tOK_lo (lo2 := s.1 1) d2 hlo) (by omega) (fun F hF y1 y2 J O hO => ?_), nwC_cat (M := []) (N := []) c5 d3 d2.1 d2.2.1.2⟩
  have m1 := c4.1.1 0 (by decide); have m2 := d2.1.1 0 (by decide)
  have x1 := y1 J O (scJ_sub hO (Nat.le_refl _) m2)
  have x2 := y2 J O ⟨scI_sub hO.1 h04 m1 (Nat.le_refl _), scX_nw (N := []) hO.2 c5 (tFu_dn hF.2.2.2 d2.1) m1⟩
  refine sg_app (sg_wk x1 (fun M st q => q.imp id (fun q => ⟨?_, q.2⟩))) (sg_wk x2 (fun M st q => q.imp id (fun q => ⟨?_, q.2⟩))) m1 m2
  · rw [hz, if_neg q.1]; decide
  · rw [hz]
    by_cases e : z = 1
    · rw [if_pos e]; exact q.1
    · rw [if_neg e]; decide
/-- the same, as the walk has it -/
theorem tIs_S2 {yp rs tt nw pos A c E E2 n9 n2 n4 n3 b8 v8 b1 b2 vv Le : Nat} {X : tF} {G : Nat → Nat → Nat} {ft f9 f1 f2 rt : Int32} {s t a1 a3 a4 a6 : tgS} {z r z2 : Int32} {qt qv ql qt2 qv2 ql2 : Nat} {qp qm qp2 qm2 : Int32} (hps : pos = A) (h : tIs yp X G rs tt nw pos n9 b8 v8 Le ft f9 s t z qt qv ql qp qm) (hf : f9 = 0) (h2 : f2 = 0 → f1 = 0 ∧ n2 = E ∧ tI yp X a6 ∧ tOK (t.1 1) (2 * (E - (A + 1)) - 1) (2 + 2 * (cL X E - cL X (A + 1))) (E - (A + 1)) (2 * (E - (A + 1))) (E - (A + 1)) t a6 (tIm X G rs (t.1 4) Le r) ∧ nwC (t.1 4) a6 []) (hut : n3 < tt ∧ (f2 ≠ 0 → n3 = tt - 1 ∧ rt = 0)) (hJ : tJ a6) (hb : tSb0 tt n4 b2 vv f2 a3 a4 r qt2 qv2 ql2 qp2 qm2) (e1 : a3.1 4 = a1.1 4) (e2 : a3.1 5 = a1.1 5) (e3 : a1.1 4 = t.1 4) (e4 : a1.1 5 ≤ t.1 5 + b1) (e5 : a6.1 4 = a4.1 4) (e6 : a6.1 5 = a4.1 5) (hz : z2 = if z = 1 then r else 0) (hw : nw ≤ A) (hl : A + 1 < c) (hl2 : c + 2 ≤ E) (hE2 : f2 = 0 → E ≤ E2 ∧ n3 = E2) (hcK : cL X (A + 1) = cL X A + 2) : tIs yp X G rs tt nw E2 n3 (b8 + (b1 + b2)) (v8 + vv) Le ft f2 s a6 z2 qt2 qv2 ql2 qp2 qm2 := by
  subst hps
  obtain ⟨g1, g2, g3, g4, g5, g6, g7⟩ := hb
  exact tIs_S (n2 := 0) h (fun _ => hf) (fun y => ⟨(h2 y).2.2.1, (h2 y).2.2.2⟩) ⟨hut.1, fun y => (hut.2 y).1, hJ, g4, by omega, by omega⟩ g7 hz (fun y => ⟨hw, by omega, (hE2 y).1, (hE2 y).2⟩) (fun _ => hcK)
/-- the end of an if without else -/
theorem l_if0 {yp rs tt nw q n9 b v Le : Nat} {X : tF} {G : Nat → Nat → Nat} {ft f9 : Int32} {S s t u : tgS} {z : Int32} {qt qv ql : Nat} {qp qm : Int32} (h0 : tNl S s Le) (h : tIs yp X G rs tt nw q n9 b v Le ft f9 s t z qt qv ql qp qm) (h9 : tSb t u 13 Le) (hJ : tJ u) (hp : f9 = 0 → nw + 3 ≤ q) (hcK : f9 = 0 → cL X nw + 2 ≤ cL X q) (hcp : ft = 0 → tCq X nw q S) (hI : ft = 0 → tI yp X S) : tSs 1 yp X G rs tt nw q n9 b v ft f9 S u 0 qt qv ql qp qm := by
  obtain ⟨⟨a1, a2, a3, a4, a5, a6, a7⟩, ha⟩ := h
  have s4 := h0.2.1 4 (by decide); have s5 := h0.2.1 5 (by decide); have u4 := h9.1 4 (by decide); have u5 := h9.1 5 (by decide)
  refine ⟨⟨a1, a2, hJ, a4, by omega, by omega, Or.inl rfl⟩, fun y => ?_⟩
  obtain ⟨c1, c2, c3, c4, c5⟩ := ha y
  obtain ⟨w0, w1, w2, w3, w7⟩ := hcp c1
  have p1 := hp y
  have hK := hcK y
  obtain ⟨o1, q1, m1⟩ := nl_x (lo := S.1 1) h0 (by omega)
  have u1 := (tNl_up h0 (by omega)).1
  have s0 := h0.2.1 0 (by decide)
  obtain ⟨r0, r1, r2, r3, r7⟩ := c4.2.2.1
  have ht0 : t.1 0 < 6000 := by omega
  have hU : lbU s Le := by rw [q1]; exact lbU_new (hI c1).2.1 u1 (by omega)
  have hUt := lbU_x hU c4 (by omega) (by omega)
  have hIu := tI_sb c3 hUt h9 ht0 (by omega)
  have K := tOK_seq (tOK_seq o1 (tOK_lo (lo2 := S.1 1) c4 (by omega))) (tOK_sb (lo := S.1 1) h9 ht0 (by omega) hUt.1)
  have K9 := tOK_sb (lo := S.1 1) h9 ht0 (by omega) hUt.1
  have hcl9 : nwC (S.1 4) u [] := by rw [← s4]; exact nwC_x c5 K9.1 K9.2.1.2 (by omega)
  refine ⟨c1, c2, hIu, [], ⟨tnwA_nil, hcl9⟩, tOK_mn K (Nat.le_refl _) (by omega) (fun F hF hz J O hO => ?_)⟩
  obtain ⟨j2, j2a, j2b, ⟨j1, j1a, j1b, y1, y2⟩, y3⟩ := hz
  have y1 : j1 = S.1 0 := y1
  obtain ⟨z3, f30, f31, -⟩ := y3
  have hv0 := scI_vl hO.1
  have hvO : vl O ≤ 211 := by omega
  rw [if_neg (by decide), z3]
  show sg F X G rs J (S.1 0) (j2 + 1) (some O) (some O)
  have x1 := y2 J O (by rw [s4]; exact scJ_sub hO (by omega) (by omega))
  rw [y1] at x1
  exact sg_lab (j := j2) (L := nI Le) (r := O) (sg_wk x1 (fun M st q => q.imp id (fun q => q.2))) (sg_one (o := 13) f30 ⟨Le, f31, by omega⟩ hvO (vs hvO) (fun k9 hk9 => hk9)) (by omega) (Nat.lt_succ_self _) f30 f31 (scI_vl hO.1)
/-- the end of an if with else -/
theorem l_if1 {yp rs tt nw E q n9 n2 b v b2 v2 Le : Nat} {X : tF} {G : Nat → Nat → Nat} {ft f9 f2 : Int32} {S s t w u : tgS} {z r z2 : Int32} {qt qv ql qt2 qv2 ql2 : Nat} {qp qm qp2 qm2 : Int32} (h0 : tNl S s Le) (h : tIs yp X G rs tt nw E n9 b v Le ft f9 s t z qt qv ql qp qm) (hb : tBs 3 yp X G rs tt E q n2 b2 v2 (t.1 4) f9 f2 t w r qt2 qv2 ql2 qp2 qm2) (h9 : tSb w u 13 Le) (hJ : tJ u) (hz : z2 = if z = 1 then r else 0) (hp : f9 = 0 → nw + 3 ≤ E ∧ E + 2 ≤ q) (hcK : f9 = 0 → cL X nw + 2 ≤ cL X E) (hcp : ft = 0 → tCq X nw q S) (hI : ft = 0 → tI yp X S) : tSs 1 yp X G rs tt nw q n2 (b + b2) (v + v2) ft f2 S u z2 qt2 qv2 ql2 qp2 qm2 := by
  obtain ⟨⟨a1, a2, a3, a4, a5, a6, a7⟩, ha⟩ := h
  obtain ⟨⟨d1, d2, d3, d4, d5, d6, d7⟩, hd2⟩ := hb
  have s4 := h0.2.1 4 (by decide); have s5 := h0.2.1 5 (by decide); have u4 := h9.1 4 (by decide); have u5 := h9.1 5 (by decide)
  refine ⟨⟨d1, d2, hJ, d4, by omega, by omega, ?_⟩, fun y => ?_⟩
  · rw [hz]
    by_cases e : z = 1
    · rw [if_pos e]; exact d7
    · rw [if_neg e]; exact Or.inl rfl
  obtain ⟨g1, g2, g3, g4⟩ := hd2 y
  obtain ⟨c1, c2, c3, c4, c5⟩ := ha g1
  obtain ⟨w0, w1, w2, w3, w7⟩ := hcp c1
  obtain ⟨p1, p2⟩ := hp g1
  have hK := hcK g1
  have l1 := cL_le (X := X) (show E ≤ q by omega)
  obtain ⟨o1, q1, m1⟩ := nl_x (lo := S.1 1) h0 (by omega)
  have u1 := (tNl_up h0 (by omega)).1
  have s0 := h0.2.1 0 (by decide)
  obtain ⟨r0, r1, r2, r3, r7⟩ := c4.2.2.1
  have hbk := tOKb_ok (g4.1 [] (nwI_0 (Nat.le_refl _)))
  obtain ⟨y0, y1, y2, y3, y7⟩ := hbk.2.2.1
  have hw0 : w.1 0 < 6000 := by omega
  have t1 := c4.1.1 1 (by decide); have t4 := c4.1.1 4 (by decide)
  have hU : lbU s Le := by rw [q1]; exact lbU_new (hI c1).2.1 u1 (by omega)
  have hUt := lbU_x hU c4 (by omega) (by omega)
  have hUw := lbU_x hUt (tOK_lo (lo2 := s.1 1) hbk (by omega)) (by omega) (by omega)
  have hIu := tI_sb g3 hUw h9 hw0 (by omega)
  have K := tOK_seq (tOK_seq (tOK_seq o1 (tOK_lo (lo2 := S.1 1) c4 (by omega))) (tOK_lo (lo2 := S.1 1) hbk (by omega))) (tOK_sb (lo := S.1 1) h9 hw0 (by omega) hUw.1)
  have K9 := tOK_sb (lo := S.1 1) h9 hw0 (by omega) hUw.1
  have hcl9 : nwC (S.1 4) u [] := by rw [← s4]; exact nwC_x (nwC_cat (M := []) (N := []) c5 g4.2 hbk.1 hbk.2.1.2) K9.1 K9.2.1.2 (by omega)
  refine ⟨c1, g2, hIu, [], ⟨tnwA_nil, hcl9⟩, tOK_mn K (Nat.le_refl _) (by omega) (fun F hF hz9 J O hO => ?_)⟩
  have hFs := tAg_r hF o1.1
  have hFst := tAg_l hFs (tXt_tr hbk.1 K9.1) c4.1
  have hFt := tAg_r hFs c4.1
  have x2 := c4.2.2.2 F hFst
  have x3 := hbk.2.2.2 F (tAg_l hFt K9.1 hbk.1)
  obtain ⟨z3, f30, f31, -⟩ := K9.2.2.2 F (tAg_r hFt hbk.1)
  have j2a := c4.1.1 0 (by decide); have j3a := hbk.1.1 0 (by decide)
  have hv0 := scI_vl hO.1
  have hvO : vl O ≤ 211 := by omega
  have hLe : Le < 1100 := by omega
  rw [z3]
  have v1 := x2 J O (by rw [s4]; exact scJ_sub hO (by omega) (by omega))
  rw [s0] at v1
  have hsc : scJ F (t.1 4) (t.1 0) (w.1 0) O := ⟨scI_sub hO.1 (by omega) (by omega) (by omega), scX_nw (N := []) (n := s.1 4) (by rw [s4]; exact hO.2) c5 hFst.2.2.2 (by omega)⟩
  by_cases e : z2 = 1
  · rw [if_pos e]
    have ez : z = 1 := by
      by_cases e2 : z = 1
      · exact e2
      · rw [hz, if_neg e2] at e; exact absurd e (by decide)
    have er : r = 1 := by rw [hz, if_pos ez] at e; exact e
    have v2' : sg F X G rs J (S.1 0) (t.1 0) (some O) (some O) := sg_wk v1 (fun M st q => q.elim id (fun q => absurd ez q.1))
    have v3 : sg F X G rs J (t.1 0) (w.1 0) (some O) (if r = 1 then none else some O) := x3 J O hsc
    rw [if_pos er] at v3
    exact sg_app (sg_app v2' v3 (by omega) (by omega)) (sg_dead (o := 13) f30 ⟨Le, f31, hLe⟩) (by omega) (Nat.le_succ _)
  · rw [if_neg e]
    show sg F X G rs J (S.1 0) ((w.1 0) + 1) (some O) (some O)
    have v3 : sg F X G rs (fun M st => J M st ∨ (M = nI Le ∧ st = O)) (t.1 0) (w.1 0) (some O) (some O) := sg_any (x3 _ O hsc) (by omega) hvO
    exact sg_lab (j := (w.1 0)) (L := nI Le) (r := O) (sg_app (sg_wk v1 (fun M st q => q.imp id (fun q => q.2))) v3 (by omega) (by omega)) (sg_one (o := 13) f30 ⟨Le, f31, hLe⟩ hvO (vs hvO) (fun k9 hk9 => hk9)) (by omega) (Nat.lt_succ_self _) f30 f31 (scI_vl hO.1)
theorem l_cl3 {X : tF} {p0 nw pos : Nat} (e : p0 = nw) (h1 : cL X (p0 + 1) = cL X p0 + 2) (h2 : cL X (p0 + 1) ≤ cL X pos) : cL X nw + 2 ≤ cL X pos := by
  subst e
  omega
def armR (fk lF : Nat → Int32) (k A E : Nat) (x w : Nat) : Prop := ∃ (c b1 b2 : Nat) (ip : Int32), fk A = 10 ∧ gE fk lF k 1 (A + 1) c b1 ip ∧ gBlk fk k lF c E b2 w ∧ x = b1 + b2
theorem arm_of {fk lF : Nat → Int32} {k p q b v : Nat} (h : sArmI fk (gEx fk k 1) (gBlk fk k) lF p q b v) : armR fk lF k p q b v := by
  obtain ⟨r, b1, v1, b2, v2, ⟨r2, b3, v3, b4, v4, ⟨rfl, h1, rfl, rfl⟩, ⟨ip, rfl, h2⟩, rfl, rfl⟩, h3, rfl, rfl⟩ := h
  have h3' : gBlk fk k lF r q b2 (0 + 0 + v2) := by rw [show 0 + 0 + v2 = v2 by omega]; exact h3
  exact ⟨r, b4, b2, ip, h1, h2, h3', by omega⟩
theorem arm_lt {fk lF : Nat → Int32} {k A E x w : Nat} (h : armR fk lF k A E x w) : A + 4 ≤ E := by
  obtain ⟨c, b1, b2, ip, -, h1, h2, -⟩ := h
  have := gE_lt _ _ _ _ _ _ h1
  have := gBlk_2 h2
  omega
theorem if_fn {fk lF : Nat → Int32} {k p q b v : Nat} (h : sIf fk (gEx fk k 1) (gBlk fk k) lF p q b v) : ∃ (n r : Nat) (P E B V : Nat → Nat), P 0 = p ∧ B 0 = 0 ∧ V 0 = 0 ∧ E n = r ∧ (∀ j : Nat, j ≤ n → ∃ x w : Nat, armR fk lF k (P j) (E j) x w ∧ B (j + 1) = B j + x ∧ V (j + 1) = V j + w ∧ (j < n → fk (E j) = 11 ∧ P (j + 1) = E j + 1)) ∧ ((fk r ≠ 11 ∧ q = r ∧ b = B (n + 1) ∧ v = V (n + 1)) ∨ (fk r = 11 ∧ fk (r + 1) ≠ 10 ∧ ∃ b3 w3 : Nat, gBlk fk k lF (r + 1) q b3 w3 ∧ b = B (n + 1) + b3 ∧ v = V (n + 1) + w3)) ∧ ∀ j : Nat, j ≤ n → p + 4 * j ≤ P j ∧ P j + 4 * (n - j) + 4 ≤ r ∧ B (j + 1) ≤ b ∧ V (j + 1) ≤ v := by
  obtain ⟨n, r0, b1, v1, b2, v2, h1, ⟨r, b3, v3, b4, v4, h2, h3, rfl, rfl⟩, rfl, rfl⟩ := h
  obtain ⟨P, B, V, p0, pn, c0, cn, w0, wn, hs⟩ := seqP_fn n p r0 b1 v1 h1
  have ha := arm_of h2
  have hP : ∀ i : Nat, i < n → ∃ x w : Nat, armR fk lF k (P i) (P (i + 1) - 1) x w ∧ B (i + 1) = B i + x ∧ V (i + 1) = V i + w ∧ fk (P (i + 1) - 1) = 11 ∧ P (i + 1) = P (i + 1) - 1 + 1 := fun i hi => by
    obtain ⟨c, w, ⟨rr, x1, y1, x2, y2, g1, ⟨g2, g3, g4, g5⟩, g6, g7⟩, g8, g9⟩ := hs i hi
    have e : P (i + 1) - 1 = rr := by omega
    rw [e]
    exact ⟨x1, y1, arm_of g1, by omega, by omega, g3, by omega⟩
  have e1 : ∀ (f : Nat → Nat) (x i : Nat), i ≤ n → (if i ≤ n then f i else x) = f i := fun f x i hi => if_pos hi
  have e2 : ∀ (f : Nat → Nat) (x : Nat), (if n + 1 ≤ n then f (n + 1) else x) = x := fun f x => if_neg (by omega)
  have hE : ∀ (x i : Nat), i < n → (if i < n then P (i + 1) - 1 else x) = P (i + 1) - 1 := fun x i hi => if_pos hi
  have up : ∀ i : Nat, i < n → P i + 4 ≤ P (i + 1) := fun i hi => by obtain ⟨x, w, g1, -, -, -, g5⟩ := hP i hi; have := arm_lt g1; omega
  have up1 : ∀ i : Nat, i ≤ n → p + 4 * i ≤ P i := by
    intro i
    induction i with
    | zero => intro _; omega
    | succ i ih => intro hi; have := ih (by omega); have := up i (by omega); omega
  have up2 : ∀ j i : Nat, i + j = n → P i + 4 * j ≤ r0 := by
    intro j
    induction j with
    | zero => intro i hi; rw [show i = n by omega, pn]; omega
    | succ j ih => intro i hi; have := ih (i + 1) (by omega); have := up i (by omega); omega
  have bm := up_le (n := n) (P := B) (fun i hi => by obtain ⟨x, w, -, g, -⟩ := hP i hi; omega)
  have vm := up_le (n := n) (P := V) (fun i hi => by obtain ⟨x, w, -, -, g, -⟩ := hP i hi; omega)
  have har := arm_lt ha
  have hlast : (fk r ≠ 11 ∧ q = r ∧ b4 = 0 ∧ v4 = 0) ∨ (fk r = 11 ∧ fk (r + 1) ≠ 10 ∧ gBlk fk k lF (r + 1) q b4 v4) := by
    rcases h3 with ⟨g1, rfl, rfl, rfl⟩ | ⟨r9, x1, y1, x2, y2, ⟨rfl, g1, rfl, rfl⟩, ⟨g2, g3⟩, g4, g5⟩
    · exact Or.inl ⟨g1, rfl, rfl, rfl⟩
    · exact Or.inr ⟨g1, g2, by rw [g4, g5, Nat.zero_add, Nat.zero_add]; exact g3⟩
  refine ⟨n, r, P, fun i => if i < n then P (i + 1) - 1 else r, fun i => if i ≤ n then B i else b1 + b3, fun i => if i ≤ n then V i else v1 + v3, p0, (e1 B _ 0 (by omega)).trans c0, (e1 V _ 0 (by omega)).trans w0, if_neg (by omega), fun j hj => ?_, ?_, fun j hj => ?_⟩
  · rcases Nat.lt_or_ge j n with c | c
    · obtain ⟨x, w, g1, g2, g3, g4, g5⟩ := hP j c
      refine ⟨x, w, ?_, ?_, ?_, fun _ => ⟨?_, ?_⟩⟩
      · show armR fk lF k (P j) (if j < n then P (j + 1) - 1 else r) x w
        rw [hE r j c]; exact g1
      · show (if j + 1 ≤ n then B (j + 1) else b1 + b3) = (if j ≤ n then B j else b1 + b3) + x
        rw [e1 B _ j hj, e1 B _ (j + 1) (by omega)]; exact g2
      · show (if j + 1 ≤ n then V (j + 1) else v1 + v3) = (if j ≤ n then V j else v1 + v3) + w
        rw [e1 V _ j hj, e1 V _ (j + 1) (by omega)]; exact g3
      · show fk (if j < n then P (j + 1) - 1 else r) = 11
        rw [hE r j c]; exact g4
      · show P (j + 1) = (if j < n then P (j + 1) - 1 else r) + 1
        rw [hE r j c]; exact g5
    · have ej : j = n := by omega
      subst ej
      refine ⟨b3, v3, ?_, ?_, ?_, fun q9 => absurd q9 (by omega)⟩
      · show armR fk lF k (P j) (if j < j then P (j + 1) - 1 else r) b3 v3
        rw [if_neg (Nat.lt_irrefl j), pn]; exact ha
      · show (if j + 1 ≤ j then B (j + 1) else b1 + b3) = (if j ≤ j then B j else b1 + b3) + b3
        rw [e2 B, e1 B _ j hj, cn]
      · show (if j + 1 ≤ j then V (j + 1) else v1 + v3) = (if j ≤ j then V j else v1 + v3) + v3
        rw [e2 V, e1 V _ j hj, wn]
  · show (fk r ≠ 11 ∧ q = r ∧ b1 + (b3 + b4) = (if n + 1 ≤ n then B (n + 1) else b1 + b3) ∧ v1 + (v3 + v4) = (if n + 1 ≤ n then V (n + 1) else v1 + v3)) ∨ _
    rcases hlast with ⟨g1, g2, g3, g4⟩ | ⟨g1, g2, g3⟩
    · exact Or.inl ⟨g1, g2, by rw [e2 B]; omega, by rw [e2 V]; omega⟩
    · exact Or.inr ⟨g1, g2, b4, v4, g3, by show b1 + (b3 + b4) = (if n + 1 ≤ n then B (n + 1) else b1 + b3) + b4; rw [e2 B]; omega, by show v1 + (v3 + v4) = (if n + 1 ≤ n then V (n + 1) else v1 + v3) + v4; rw [e2 V]; omega⟩
  · have u1 := up1 j hj
    have u2 := up2 (n - j) j (by omega)
    have hB : (if j + 1 ≤ n then B (j + 1) else b1 + b3) ≤ b1 + (b3 + b4) := by
      by_cases c : j + 1 ≤ n
      · rw [if_pos c]; have := bm (j + 1) (n - (j + 1)) (by omega); omega
      · rw [if_neg c]; omega
    have hV : (if j + 1 ≤ n then V (j + 1) else v1 + v3) ≤ v1 + (v3 + v4) := by
      by_cases c : j + 1 ≤ n
      · rw [if_pos c]; have := vm (j + 1) (n - (j + 1)) (by omega); omega
      · rw [if_neg c]; omega
    exact ⟨u1, by omega, hB, hV⟩
