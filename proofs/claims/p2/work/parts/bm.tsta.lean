/-- room for the arms from nw to q; for one arm -/
def tCr (X : tF) (nw q : Nat) (s : tgS) : Prop := s.1 0 + 2 * (q - nw) ≤ 5994 ∧ 2 * s.1 1 + 2 * (cL X q - cL X nw) + 2 ≤ 2200 ∧ s.1 2 + (q - nw) ≤ 3000 ∧ s.1 3 + 2 * (q - nw) + 8 ≤ 2978 ∧ s.1 7 + (q - nw) ≤ 3039
def tCm (X : tF) (nw q : Nat) (s : tgS) : Prop := s.1 0 + 2 * (q - nw) ≤ 5998 ∧ 2 * s.1 1 + 2 * (cL X q - cL X nw) ≤ 2202 ∧ s.1 2 + (q - nw) ≤ 3000 ∧ s.1 3 + 2 * (q - nw) ≤ 2982 ∧ s.1 7 + (q - nw) ≤ 3039
/-- arms so far -/
def tMl (yp : Nat) (X : tF) (G : Nat → Nat → Nat) (rs tt nw pos n9 b8 v8 mq sh m tot Le : Nat) (ft f9 : Int32) (s t : tgS) (sn z : Int32) (qt qv ql : Nat) (qp qm : Int32) : Prop := tSb0 tt n9 b8 v8 f9 s t z qt qv ql qp qm ∧ (f9 = 0 → ft = 0 ∧ n9 = pos ∧ tI yp X t ∧ lbU t Le ∧ Le = s.1 1 ∧ tXt s t ∧ ((sn = 0 ∧ pos = nw ∧ t.1 3 ≤ s.1 3 + 12) ∨ (nw < pos ∧ t.1 3 + 4 ≤ s.1 3 + 12 + 2 * (pos - nw))) ∧ (t.1 0 ≤ s.1 0 + (2 * (pos - nw) + 1) ∧ 2 * t.1 1 ≤ 2 * s.1 1 + (2 * (cL X pos - cL X nw) + 2) ∧ t.1 2 ≤ s.1 2 + (pos - nw) ∧ t.1 7 ≤ s.1 7 + (pos - nw)) ∧ tOKm (s.1 3) tot sn (s.1 1) (2 * (pos - nw) + 1) (2 * (cL X pos - cL X nw) + 2) (pos - nw) (t.1 3 - s.1 3) (pos - nw) s t (tMm X G rs (s.1 4) mq sh m (s.1 3) tot Le sn z))
theorem tMl_0 {yp rs tt nw n9 mq sh m tot Le : Nat} {X : tF} {G : Nat → Nat → Nat} {ft x2 : Int32} {s s1 s2 s3 : tgS} {qt qv ql : Nat} {qp qm : Int32} (h1 : tNa s s1 tot) (h2 : tNl s1 s2 Le) (h3 : tAd s2 s3 20 (nI (s.1 3)) x2 (nI tot) (-1)) (hI : ft = 0 → tI yp X s) (hJ : tJ s3) (hQ : tQ qt qv ql qp qm) (hx2 : x2 = if mq = 0 then s.2 22 (4 + sh) else 0) (hq : mq = 0 ∨ mq = 1 ∨ mq = 2) (hsh : sh < yp) (hK : s.2 20 (4 + sh) = 3) (hn : X 0 sh = nI tot) (h12 : tot ≤ 12) (hcp : ft = 0 → n9 = nw ∧ s.1 0 < 6000 ∧ s.1 1 < 1100 ∧ s.1 3 ≤ 2978) (hn9 : n9 < tt) (hfl : ft ≠ 0 → n9 = tt - 1) : tMl yp X G rs tt nw nw n9 0 0 mq sh m tot Le ft ft s s3 0 1 qt qv ql qp qm := by
  have a4 : s3.1 4 = s.1 4 := by rw [h3.1 4 (by decide), h2.2.1 4 (by decide), h1.2.2 4 (by decide)]
  have a5 : s3.1 5 = s.1 5 := by rw [h3.1 5 (by decide), h2.2.1 5 (by decide), h1.2.2 5 (by decide)]
  refine ⟨⟨hn9, hfl, hJ, hQ, by omega, by omega, Or.inr rfl⟩, fun y => ?_⟩
  obtain ⟨e1, e2, e3, e4⟩ := hcp y
  obtain ⟨i3, hU, hL, b1, b3, b0, b4, b5, b7, b2, hO⟩ := l_msw (rs := rs) (G := G) (q := mq) (m := m) h1 h2 h3 (hI y) hx2 hq hsh hK hn h12 e2 e3 e4
  obtain ⟨y1, y2, y3, y4, y5⟩ := hO
  exact ⟨y, e1, i3, hU, hL, y1, Or.inl ⟨rfl, rfl, by omega⟩, by omega, y1, y2, by omega, y4, y5⟩
/-- one arm more, from A to E -/
theorem tMl_S {yp rs tt nw A E n9 n2 b8 v8 bb vv mq sh m tot Le tag L : Nat} {X : tF} {G : Nat → Nat → Nat} {ft f9 f2 sn z r z2 : Int32} {s t u e w y t2 : tgS} {qt qv ql qt2 qv2 ql2 : Nat} {qp qm qp2 qm2 : Int32} (h : tMl yp X G rs tt nw A n9 b8 v8 mq sh m tot Le ft f9 s t sn z qt qv ql qp qm) (hf9 : f9 = 0) (h1 : tNl t u L) (h2 : tArl u e (s.1 3 + tag) L) (h3 : tSb e w 13 L) (ha : tArm yp X G rs tt A E n2 bb vv mq (sh * 12 + tag) m f9 f2 w y r qt2 qv2 ql2 qp2 qm2) (h5 : tAd y t2 16 (nI Le) 0 0 (-1)) (hJ2 : tJ t2) (htag : tag < tot) (h12 : tot ≤ 12) (hns : ¬ bS sn tag) (hz : z2 = if z = 1 then r else 0) (hp : nw ≤ A ∧ A + 4 ≤ E) (hcl : cL X A + 1 ≤ cL X E) (hcp : tCr X nw E s) (hq3 : mq = 0 ∨ mq = 1 ∨ mq = 2) : tMl yp X G rs tt nw E n2 (b8 + bb) (v8 + vv) mq sh m tot Le ft f2 s t2 (sn ||| ((1 : Int32) <<< (nI tag &&& 31))) z2 qt2 qv2 ql2 qp2 qm2 := by
  obtain ⟨⟨a1, a2, a3, a4, a5, a6, a7⟩, h6⟩ := h
  obtain ⟨⟨b1, b2, b3, b4, b5, b6, b7⟩, h7⟩ := ha
  obtain ⟨c1, c2, c3, c4, cL9, cX, c5, ⟨c6, c7, c8, c9⟩, c10⟩ := h6 hf9
  obtain ⟨r0, r1, r2, r3, r7⟩ := hcp
  have l1 := cL_le (X := X) hp.1; have l2 := cL_le (X := X) (show A ≤ E by omega)
  have hl : t.1 1 < 1100 := by omega
  have hc0 : t.1 0 < 6000 := by omega
  obtain ⟨hIw, xsw, w0, w1, w2, w3, w4, w5, w7⟩ := l_mlab cX c3 h1 h2 h3 (Nat.le_refl _) hl hc0
  have y4 := h5.1 4 (by decide); have y5 := h5.1 5 (by decide); have y3 := h5.1 3 (by decide); have y1 := h5.1 1 (by decide); have y2 := h5.1 2 (by decide); have y7 := h5.1 7 (by decide)
  refine ⟨⟨b1, b2, hJ2, b4, by omega, by omega, ?_⟩, fun f0 => ?_⟩
  · rw [hz]
    by_cases q9 : z = 1
    · rw [if_pos q9]; exact b7
    · rw [if_neg q9]; exact Or.inl rfl
  obtain ⟨d1, d2, d3, d4, d5⟩ := h7 f0
  obtain ⟨j0, j1, j2, j3, j7⟩ := d4.2.2.1
  have k3 := d4.1.1 3 (by decide); have t3 := cX.1 3 (by decide)
  have hcy : y.1 0 < 6000 := by omega
  have hly : y.1 1 ≤ 1100 := by omega
  have y0 : t2.1 0 = y.1 0 + 1 := (insA_lt h5.2.2.1 hcy).1
  have hlo := cX.1 1 (by decide)
  obtain ⟨g1, g2, g3⟩ := l_mstep c10 c3 c4 h1 h2 h3 d3 d4 d5 h5 htag h12 hns hlo hl hc0 hcy hly hz hq3
  obtain ⟨i1, i2, i3, i4, i5⟩ := g3
  have hcc : (sn = 0 ∧ A = nw ∧ t.1 3 ≤ s.1 3 + 12) ∨ (nw < A ∧ t.1 3 + 4 ≤ s.1 3 + 12 + 2 * (A - nw)) := c5
  have hc3 : t.1 3 ≤ s.1 3 + 12 + 2 * (A - nw) := by rcases hcc with q9 | q9 <;> omega
  exact ⟨c1, d2, g1, g2, cL9, i1, Or.inr ⟨by omega, by omega⟩, by omega, i1, i2, by omega, i4, i5⟩
/-- behind the arms -/
def tMr (yp : Nat) (X : tF) (G : Nat → Nat → Nat) (rs tt nw q nw2 b v mq sh m : Nat) (ft ft2 : Int32) (s t : tgS) (r : Int32) (qt2 qv2 ql2 : Nat) (qp2 qm2 : Int32) : Prop := tSb0 tt nw2 b v ft2 s t r qt2 qv2 ql2 qp2 qm2 ∧ (ft2 = 0 → ft = 0 ∧ nw2 = q ∧ tI yp X t ∧ tOK (s.1 1) (2 * (q - nw) + 2) (2 * (cL X q - cL X nw) + 2) (q - nw) (2 * (q - nw) + 8) (q - nw) s t (tMt X G rs (s.1 4) mq sh m r) ∧ nwC (s.1 4) t [])
theorem tMl_E {yp rs tt nw pos q n9 b8 v8 b v mq sh m tot Le : Nat} {X : tF} {G : Nat → Nat → Nat} {ft f9 sn z : Int32} {s t u : tgS} {qt qv ql : Nat} {qp qm : Int32} (h : tMl yp X G rs tt nw pos n9 b8 v8 mq sh m tot Le ft f9 s t sn z qt qv ql qp qm) (h3 : tSb t u 13 Le) (hJ : tJ u) (hsn : f9 = 0 → sn = ((1 : Int32) <<< (nI tot &&& 31)) - 1) (h12 : tot ≤ 12) (h1 : 1 ≤ tot) (hb : b8 ≤ b ∧ v8 ≤ v) (hp : f9 = 0 → nw ≤ pos ∧ pos = q) (hcp : ft = 0 → tCr X nw q s) : tMr yp X G rs tt nw q n9 b v mq sh m ft f9 s u z qt qv ql qp qm := by
  obtain ⟨⟨a1, a2, a3, a4, a5, a6, a7⟩, h6⟩ := h
  have u4 := h3.1 4 (by decide); have u5 := h3.1 5 (by decide)
  refine ⟨⟨a1, a2, hJ, a4, by omega, by omega, a7⟩, fun f0 => ?_⟩
  obtain ⟨c1, c2, c3, c4, cL9, cX, c5, ⟨c6, c7, c8, c9⟩, c10⟩ := h6 f0
  obtain ⟨p1, p2⟩ := hp f0
  obtain ⟨r0, r1, r2, r3, r7⟩ := hcp c1
  subst p2
  have l1 := cL_le (X := X) p1
  have hS := hsn f0
  obtain ⟨g1, g2, g3⟩ := l_mend c10 c3 c4 h3 hS h12 (by omega) (by omega) (by omega)
  have hne : sn ≠ 0 := fun q9 => bS_0 0 (by decide) (by rw [← q9, hS]; exact bS_all tot (by omega) 0 (by omega))
  have t3 := cX.1 3 (by decide)
  have hc3 : nw < pos ∧ t.1 3 + 4 ≤ s.1 3 + 12 + 2 * (pos - nw) := c5.elim (fun q9 => absurd q9.1 hne) id
  exact ⟨c1, c2, g1, tOK_mn g2 (Nat.le_refl _) (by omega) (fun F hF y9 => y9), g3⟩
/-- arms that can't be read on: a fault -/
theorem tMr_bad {yp rs tt nw pos q n9 nX b8 v8 b v mq sh m tot Le : Nat} {X : tF} {G : Nat → Nat → Nat} {ft f9 fX sn z r : Int32} {s t u : tgS} {qt qv ql : Nat} {qp qm : Int32} (h : tMl yp X G rs tt nw pos n9 b8 v8 mq sh m tot Le ft f9 s t sn z qt qv ql qp qm) (hX : fX ≠ 0 ∧ nX = tt - 1) (hn : nX < tt) (hJ : tJ u) (hu : u.1 4 = t.1 4 ∧ u.1 5 = t.1 5) (hr : r = 0 ∨ r = 1) (hb : b8 ≤ b ∧ v8 ≤ v) : tMr yp X G rs tt nw q nX b v mq sh m ft fX s u r qt qv ql qp qm := by
  obtain ⟨⟨a1, a2, a3, a4, a5, a6, a7⟩, -⟩ := h
  exact ⟨⟨hn, fun _ => hX.2, hJ, a4, by omega, by omega, hr⟩, fun f0 => absurd f0 hX.1⟩
/-- match of a value -/
theorem l_mat0 {yp rs k tt nw p0 p q n1 n2 n3 b1 b2 v2 sh m : Nat} {X : tF} {G : Nat → Nat → Nat} {ft f1 f2 r : Int32} {s u t : tgS} {T qv ql qt2 qv2 ql2 : Nat} {qp qm qp2 qm2 : Int32} (hv : tRw yp X G (rs + 4096 * k) tt p0 p n1 b1 ft f1 s u T qv ql qp qm) (hrs : rs < 4096) (hk : k ≤ 16) (hT : T = 4 + sh) (hK : u.2 20 T = 3) (hm : tMr yp X G rs tt (p + 1) q n2 b2 v2 0 sh m f1 f2 u t r qt2 qv2 ql2 qp2 qm2) (hn : n3 < tt) (hf : f2 ≠ 0 → n3 = tt - 1) (h3 : f2 = 0 → n3 = q + 1) (hp : p0 = nw + 1 ∧ p0 < p ∧ p + 1 ≤ q) (hcK : cL X (nw + 1) = cL X nw + 1) : tSs 1 yp X G rs tt nw (q + 1) n3 (b1 + b2) v2 ft f2 s t r qt2 qv2 ql2 qp2 qm2 := by
  obtain ⟨⟨a1, a2, a3, a4, a5, a6⟩, h5⟩ := hv
  obtain ⟨⟨b1', b2', b3, b4, b5, b6, b7⟩, h7⟩ := hm
  refine ⟨⟨hn, hf, b3, b4, by omega, by omega, b7⟩, fun f0 => ?_⟩
  obtain ⟨c1, c2, c3, c4, c5⟩ := h7 f0
  obtain ⟨e1, e2, e3, e4, e5⟩ := h5 c1
  have l1 := cL_le (X := X) (show p0 ≤ p by omega); have l2 := cL_le (X := X) (show p ≤ p + 1 by omega); have l3 := cL_le (X := X) (show p + 1 ≤ q by omega); have l4 := cL_le (X := X) (show q ≤ q + 1 by omega)
  have hlo := e5.1.1 1 (by decide)
  obtain ⟨r0, r1, r2, r3, r7⟩ := e5.2.2.1
  rw [hp.1] at e5 l1 r1
  refine ⟨e1, h3 f0, c3, [], ⟨tnwA_nil, by rw [← a5]; exact c5⟩, tOK_sq e5 (tOK_lo (lo2 := s.1 1) c4 hlo) (by omega) (fun F hF y1 y2 J O hO => ?_)⟩
  have m1 := e5.1.1 0 (by decide); have m2 := c4.1.1 0 (by decide)
  have x1 := s_val (J := J) hrs hk y1 (scJ_sub hO (Nat.le_refl _) (Nat.le_refl _))
  have hT7 : T < u.1 7 := by
    rcases e4 with q9 | q9
    · omega
    · exact q9.2
  have f20 : F 20 T = 3 := ((tFu_dn hF.2.2.2 c4.1).1 20 (by decide) (by decide) T hT7).trans hK
  have eT : tNf F T = sE 0 sh m := by
    rw [tNf_0 (by omega) (by rw [f20]; decide) (by rw [f20]; decide), hT]; rfl
  rw [eT] at x1
  exact sg_app x1 (y2 J O (by rw [a5]; exact scJ_sub hO m1 (Nat.le_refl _))) m1 m2
/-- a loan of what is matched -/
theorem v_lend {lo yp rs : Nat} {X : tF} {G : Nat → Nat → Nat} {s t : tgS} {qt qv ql : Nat} {qa qr qf qm un : Int32} (hI : tI yp X s) (hp : plV yp X s qv ql qa qr qt qm) (hv : qv < 40) (hql : ql ≤ 4) (hc : s.1 0 < 6000) (hc2 : s.1 2 < 3001) (hb : s.1 5 < 54) (h5 : s.2 20 qt ≠ 5) (h6 : s.2 20 qt ≠ 6) (hun : un = 0 ∨ un = 1) (hmu : un = 0 ∨ qm ≠ 0) (h : tLn s t qt qv ql qa qr qf un) : tOK lo 1 0 1 0 0 s t (fun F a b => ∀ (J : Int32 → List tE → Prop) (st : List tE), scX (s.1 4) F a st → vl st ≤ 210 → sg F X G rs J a b (some st) (some ((if un = 1 then 2 else 1, qt, s.1 5 + 1) :: st))) := by
  obtain ⟨S0, S2, u1, p1, a1⟩ := h
  have hT : qt < s.1 7 := hp.2.2.2.2
  have h7 : s.1 7 ≤ 3040 := hI.1.2.1
  have n2 : S0.1 2 = s.1 2 := u1.2.2 2 (by decide)
  have n0 : S0.1 0 = s.1 0 := u1.2.2 0 (by decide)
  have m0 : S2.1 0 = S0.1 0 := p1.1 0 (by decide)
  have q1 := tOK_up5 (lo := lo) u1
  have q2 := tOK_pl (lo := lo) p1 (by rw [n2]; exact hc2)
  have q3 := tOK_ad (lo := lo) a1 (by rw [m0, n0]; exact hc) (by unfold isL; decide)
  have q := tOK_seq q1 (tOK_seq q2 q3)
  refine tOK_mn q (Nat.le_refl _) (by omega) (fun F hF9 hR J st hsc hst => ?_)
  have hF := hF9.2.2.2
  obtain ⟨m, -, -, rfl, m1, -, -, ⟨rfl, f6, f7, f8, f9, f10, f11, f12⟩, e9, g0, g1, g2, g3, g4⟩ := hR
  have hm9 : (8, qv, 0) ∈ st := sc_mem hsc q.1 q.2.1.2 hF hp.1 (Nat.le_refl _) hp.2.1.2 (by omega)
  rw [e9]
  rw [n2] at f6 f7 f8 f9 f10 f11 f12
  have hFs := tFu_dn hF q.1
  have k20 := hFs.1 20 (by decide) (by decide) qt hT
  have k22 := hFs.1 22 (by decide) (by decide) qt hT
  have hpl : plI F X (s.1 2) qv ql qt qa qr qm := ⟨⟨hc2, by rw [f11]; exact aN_ge _⟩, hv, hql, by omega, f6, f7, f8, f9, f10, by rw [f12, k22], plS_F hp.1 hp.2.1.1 hFs h7 _ _ _ _ _ hp.2.2.1⟩
  refine sg_one (o := 4) g0 ⟨s.1 2, qv, s.1 5, g1, hc2, f6, hv, g2, hb⟩ (by omega) (vs (Nat.le_trans vl_cons (Nat.succ_le_succ hst))) (fun k hk' => ⟨s.1 2, qt, s.1 5, s.1 5 + 1, qm, g1, ⟨qv, ql, qa, qr, hpl⟩, by rw [k20]; exact h5, by rw [k20]; exact h6, g2, hb, Or.inr rfl, ?_⟩) (hvi := Or.inr (vIs_pl (o := 4) g0 (Or.inr (Or.inr (Or.inl rfl))) g1 hc2 f6 hv hm9))
  rcases hun with rfl | rfl
  · exact Or.inl ⟨g3, hk'⟩
  · exact Or.inr ⟨g3, hmu.elim (fun q9 => absurd q9 (by decide)) id, hk'⟩
theorem l_ml {yp rs1 tt p0 p n1 b1 : Nat} {X : tF} {G : Nat → Nat → Nat} {ft f1 : Int32} {s u w : tgS} {T qv ql : Nat} {qp qa qr qm qf un : Int32} (hv : tRs yp X G rs1 tt p0 p n1 b1 1 ft f1 s u T qv ql qp qa qr qm) (hf1 : f1 = 0) (hK : u.2 20 T = 3) (hun : un = 0 ∨ un = 1) (hmu : un = 0 ∨ qm ≠ 0) (hL : tLn u w T qv ql qa qr qf un) (hc : s.1 0 < 6000) (hc2 : s.1 2 < 3001) (hb5 : s.1 5 < 54) : u = s ∧ tI yp X w ∧ tXt s w ∧ (w.1 0 ≤ s.1 0 + 1 ∧ 2 * w.1 1 ≤ 2 * s.1 1 + 0 ∧ w.1 2 ≤ s.1 2 + 1 ∧ w.1 3 ≤ s.1 3 + 0 ∧ w.1 7 ≤ s.1 7 + 0) ∧ w.1 4 = s.1 4 ∧ w.1 5 = s.1 5 + 1 ∧ plV yp X s qv ql qa qr T qm := by
  obtain ⟨⟨a1, a2, a3, a4, a5, a6⟩, h5⟩ := hv
  obtain ⟨e1, e2, e3, e4, e5⟩ := h5 hf1
  obtain ⟨hus, hpl⟩ : u = s ∧ plV yp X s qv ql qa qr T qm := by
    rcases e5 with ⟨-, q8, q9⟩ | ⟨q9, -⟩
    · exact ⟨q8, q9⟩
    · exact absurd ((e4 rfl).symm.trans q9) (by decide)
  subst hus
  obtain ⟨n4, n5, n7, n20, nT⟩ := ln_n hL
  have o1 := v_lend (lo := 0) (rs := 0) (G := G) e3 hpl a4.2.1 a4.2.2.1 hc hc2 hb5 (by rw [hK]; decide) (by rw [hK]; decide) hun hmu hL
  exact ⟨rfl, tI_ln e3 hL hc (by omega), o1.1, o1.2.2.1, n4, n5, hpl⟩
/-- match of a place by reference -/
theorem l_mat1 {yp rs k tt nw p0 p q n1 n2 n3 b1 b2 v2 sh mq : Nat} {X : tF} {G : Nat → Nat → Nat} {ft f1 f2 r : Int32} {s u w t : tgS} {T qv ql qt2 qv2 ql2 : Nat} {qp qa qr qm qp2 qm2 qf un : Int32} (hv : tRs yp X G (rs + 4096 * k) tt p0 p n1 b1 1 ft f1 s u T qv ql qp qa qr qm) (hT : T = 4 + sh) (hK : u.2 20 T = 3) (hq : (mq = 1 ∧ un = 0) ∨ (mq = 2 ∧ un = 1)) (hmu : un = 0 ∨ qm ≠ 0) (hL : tLn u w T qv ql qa qr qf un) (hm : tMr yp X G rs tt (p + 1) q n2 b2 v2 mq sh (u.1 5 + 1) f1 f2 w t r qt2 qv2 ql2 qp2 qm2) (hn : n3 < tt) (hf : f2 ≠ 0 → n3 = tt - 1) (h3 : f2 = 0 → n3 = q + 1) (hp : nw + 2 ≤ p0 ∧ p0 < p ∧ p + 1 ≤ q) (hcK : cL X (nw + 1) = cL X nw + 1) (hb5 : s.1 5 + (b1 + 1) ≤ 54) (hcp : ft = 0 → tCq X nw (q + 1) s) : tSs 1 yp X G rs tt nw (q + 1) n3 (b1 + 1 + b2) v2 ft f2 s t r qt2 qv2 ql2 qp2 qm2 := by
  have hv9 := hv
  obtain ⟨⟨a1, a2, a3, a4, a5, a6⟩, h5⟩ := hv
  obtain ⟨⟨b1', b2', b3, b4, b5, b6, b7⟩, h7⟩ := hm
  obtain ⟨n4, n5, n7, n20, nT⟩ := ln_n hL
  have hun : un = 0 ∨ un = 1 := hq.imp (fun z => z.2) (fun z => z.2)
  refine ⟨⟨hn, hf, b3, b4, by omega, by omega, b7⟩, fun f0 => ?_⟩
  obtain ⟨c1, c2, c3, c4, c5⟩ := h7 f0
  obtain ⟨e1, e2, e3, e4, e5⟩ := h5 c1
  obtain ⟨r0, r1, r2, r3, r7⟩ := hcp e1
  have l1 := cL_le (X := X) (show nw + 1 ≤ p + 1 by omega); have l3 := cL_le (X := X) (show p + 1 ≤ q by omega); have l4 := cL_le (X := X) (show q ≤ q + 1 by omega)
  obtain ⟨hus, -, -, -, -, -, hpl⟩ := l_ml hv9 c1 hK hun hmu hL (by omega) (by omega) (by omega)
  subst hus
  have o1 := v_lend (lo := u.1 1) (rs := rs) (G := G) e3 hpl a4.2.1 a4.2.2.1 (by omega) (by omega) (by omega) (by rw [hK]; decide) (by rw [hK]; decide) hun hmu hL
  have hlo := o1.1.1 1 (by decide)
  refine ⟨e1, h3 f0, c3, [], ⟨tnwA_nil, by rw [← n4]; exact c5⟩, tOK_sq o1 (tOK_lo (lo2 := u.1 1) c4 hlo) (by omega) (fun F hF y1 y2 J O hO => ?_)⟩
  have m1 := o1.1.1 0 (by decide); have m2 := c4.1.1 0 (by decide)
  have hv0 := scI_vl hO.1
  have x1 : sg F X G rs J (u.1 0) (w.1 0) (some O) (some (sE mq sh (u.1 5 + 1) :: O)) := by
    have x2 := y1 J O hO.2 (by omega)
    rcases hq with ⟨z1, z2⟩ | ⟨z1, z2⟩
    · rw [z2, hT, if_neg (by decide)] at x2
      rw [z1]; exact x2
    · rw [z2, hT, if_pos rfl] at x2
      rw [z1]; exact x2
  exact sg_app x1 (y2 J O (by rw [n4]; exact scJ_sub hO m1 (Nat.le_refl _))) m1 m2
theorem ty_en {yp T : Nat} {X : tF} {s : tgS} (hI : tI yp X s) (hT : T = 0 ∨ tyV yp (s.1 7) (s.2 20) T) (hk : s.2 20 T = 3) : ∃ sh : Nat, sh < yp ∧ T = 4 + sh := by
  have h0 : s.2 20 0 = 0 ∧ s.2 20 1 = 0 ∧ s.2 20 2 = 0 ∧ s.2 20 3 = 1 := hI.1.2.2.2.1
  rcases hT with h | ⟨((h | h | h) | h | h) | h, h7⟩
  · rw [h, h0.1] at hk; exact absurd hk (by decide)
  · rw [h, h0.2.1] at hk; exact absurd hk (by decide)
  · rw [h, h0.2.2.1] at hk; exact absurd hk (by decide)
  · rw [h, h0.2.2.2] at hk; exact absurd hk (by decide)
  · exact ⟨T - 4, by omega, by omega⟩
  · rw [h.2] at hk; exact absurd hk (by decide)
  · rcases h.2 with z | z <;> rw [z] at hk <;> exact absurd hk (by decide)
