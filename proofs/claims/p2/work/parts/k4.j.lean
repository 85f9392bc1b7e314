section CHL
variable {K : Ky} {T : Nat} {V : Sg → Int32 → Option (Sg × Option Nat)} {V2 : Sg → Option (Sg × Option Nat)} {d : Nat} {S SA : Sg} {pp ns vv bb ppA bbA x0 c l : Nat}
theorem lev_ {S : Sg} {x : Int32} : Rt (f_levelOf K S x) (fun S2 r => S2 = S ∧ (x = 0 → r = 0)) := by
  have h30 : Rt (f_levelOf_30 K S x) (fun S2 r => S2 = S ∧ (x = 0 → r = 0)) := by
    unfold f_levelOf_30 f_levelOf_42 f_levelOf_64 f_levelOf_69
    exact Rt.it (fun w => Rt.rt ⟨rfl, fun e => absurd (w.symm.trans e) (by decide)⟩) (fun _ => Rt.it (fun w => Rt.rt ⟨rfl, fun e => absurd (w.symm.trans e) (by decide)⟩) (fun _ => Rt.it (fun w => Rt.rt ⟨rfl, fun e => absurd (w.symm.trans e) (by decide)⟩) (fun _ => Rt.it (fun w => Rt.rt ⟨rfl, fun e => absurd (w.symm.trans e) (by decide)⟩) (fun _ => Rt.it (fun w => Rt.rt ⟨rfl, fun e => absurd (w.symm.trans e) (by decide)⟩) (fun _ => Rt.rt ⟨rfl, fun _ => rfl⟩)))))
  unfold f_levelOf
  exact Rt.it (fun w => Rt.rt ⟨rfl, fun e => absurd (w.symm.trans e) (by decide)⟩) (fun _ => Rt.it (fun w => Rt.rt ⟨rfl, fun e => absurd (w.symm.trans e) (by decide)⟩) (fun _ => Rt.it (fun _ => h30) (fun w => Rt.it (fun _ => h30) (fun _ => Rt.rt ⟨rfl, fun e => absurd (by rw [e]; decide) w⟩))))
/-- the first exp of a row whose owner came behind it -/
theorem rfirst {N kq z p0 q0 b1 b2 e x pp1 pp2 N1 : Nat} {S S2 : Sg} {fs : List Value} {sg : Int32} {M : List Nat} (hl : fs.length = 14) (h9 : fs[9]? = some .null) (h10 : fs[10]? = some .null) (h11 : fs[11]? = some (.int (nI 0))) (he : e ∈ ZL S2) (heS : Zz S ≤ e) (hF : ZF S2 e = .inr (15, fs)) (z2 : RZ S2 T pp2 ns vv b2) (hg : GR nX S S2) (hM : ∀ a ∈ M, Zz S ≤ a ∧ a < Zz S2) (heM : e ∉ M) (hx : okO S2 15 (some x) = true) (hxE : Zi S2 3 = 0 → isE M (ZF S2) (K.1 9) (K.1 0) N1 kq x pp1 pp2 b1 b2) (hN : N1 ≤ N) (hp0 : p0 ≤ q0) (hs : Zi S2 3 = 0 → q0 < pp1 ∧ ∃ s : Nat, sg = nI s ∧ ((s = 0 ∧ z = 0) ∨ (q0 ≤ s ∧ s < pp1))) (r1 : Zz S2 + 2 ≤ K.2.1) (r2 : Zn S2 + 8 ≤ K.2.2) : Rt (f_add K S2 (some e) (some x) sg) (fun S3 _ => ∃ cp3 : Nat, RD K N kq z S S3 e fs 1 cp3 p0 pp2 b1 b2 ∧ GR nX S S3 ∧ RZ S3 T pp2 ns vv b2 ∧ Zi S3 = Zi S2 ∧ Zz S3 ≤ Zz S2 + 2 ∧ Zn S3 ≤ Zn S2 + 4 * cp3) := by
  refine Rt.mo (add_ (X := fun b => b = e) (n := 0) (cp := 0) (f := fun _ => none) (g := fun _ => 0) z2.2.2.2.2 he hF hl h11 (by omega) hx rfl (Or.inl ⟨rfl, rfl, h9⟩) (fun i hi => absurd hi (by omega)) (by omega) r1 (by omega)) (fun S3 _ q => ?_)
  obtain ⟨la, sa, cp3, f2, g3, a1, a2, a3, a4, a5, a6, a7, a8, a9, a10, a11, a12, a13, a14⟩ := q
  have h23 := a2.2.2.2.2.1.1; have h02 := hg.2.2.2.2.1.1
  have hne : ∀ {b : Nat} {r : ClassId × vp_A}, ZF S3 b = .inl r → b ≠ e := fun hb q => by rw [q, a3] at hb; cases hb
  have hla := a11.resolve_left (hne a4.2.2.1)
  have hsa := a12.resolve_left (hne a4.2.2.2)
  have hcl : ∀ b ∈ M, ZF S3 b = ZF S2 b := fun b hb => a2.2.2.1 b (hM b hb).2 (fun q => heM (q ▸ hb))
  refine ⟨cp3, ⟨f2, g3, M, _, a2.in he, a3, heM, Or.inr ⟨la, sa, rfl, a4, by omega, a5, by omega, by omega, fun q => ?_, fun q => ?_⟩, by omega, fun a ha => ⟨(hM a ha).1, by have := (hM a ha).2; omega⟩, fun i hi => ?_, fun q3 => ?_⟩, hg.tr a2 (fun b hb q => absurd q (by omega)), ?_, a1, a13, by omega⟩
  · have := (hM _ q).2; omega
  · have := (hM _ q).2; omega
  · obtain rfl : i = 0 := by omega
    refine ⟨x, a9, ?_⟩
    obtain ⟨y1, vs, y2⟩ := okO_of hx
    by_cases ex : x = e
    · subst ex; exact okO_mk (a2.in y1) a3
    · exact okO_mk (a2.in y1) ((a2.2.2.1 x (z2.2.2.2.2 x y1) ex).trans y2)
  · have q2 : Zi S2 3 = 0 := by rw [← a1]; exact q3
    obtain ⟨c1, s, c2, c3⟩ := hs q2
    have hx2 : exS M (ZF S2) M (ZF S3) := fun b hb => ⟨hb, hcl b hb⟩
    exact chP_add (chP_0 (f := fun _ => none) (g := fun _ => 0) hp0) a8 a9 (a10.trans c2) c1 (isE_im hx2 _ hN (hxE q2)) c3
  · exact ⟨⟨by rw [a1]; exact z2.1.1, z2.1.2.1, z2.1.2.2.1, by rw [a2.2.1.1]; exact z2.1.2.2.2⟩, by rw [a1]; exact z2.2.1, by rw [a1]; exact z2.2.2.1, by rw [a1]; exact z2.2.2.2.1, a2.lt z2.2.2.2.2⟩
/-- a chain: the further exps -/
theorem chn29 (hV : HVc K T V d) (hl : 1 ≤ l ∧ l ≤ 5) (hd : 7 - l ≤ d) (hd2 : Zi SA 3 = 0 → ns ≤ 16 ∧ 7 * (17 - ns) + 7 - l ≤ d) (r1 : Zz S + 8 * (T - pp) + 8 ≤ K.2.1) (r2 : Zn S + 120 * (T - pp) + 360 ≤ K.2.2) (gA : GR nX S SA) (hpA : pp ≤ ppA ∧ bb ≤ bbA ∧ bbA ≤ bb + (ppA - pp)) (hfi : Zi SA 3 = 0 → isE (iv (Zz S) (Zz SA)) (ZF SA) (K.1 9) (K.1 0) (24 * (16 - ns) + (23 - l)) (16 - ns) x0 pp ppA bb bbA) (hc : Zz SA ≤ c) : ∀ (m : Nat) {S1 : Sg} {p1 b1 n cp : Nat}, 1 ≤ m → (Zi S1 3 = 0 → T + 1 ≤ p1 + m) → RD K (24 * (16 - ns) + (23 - l)) (15 - ns) 1 SA S1 c (xpV 8 pp 0 0 0 0 (.ref x0) .null .null 0) n cp ppA p1 bbA b1 → GR nX SA S1 → RZ S1 T p1 ns vv b1 → (bbA ≤ b1 ∧ b1 ≤ bb + (p1 - pp)) → 1 ≤ n → ppA + n ≤ p1 → Zz S1 + 3 * n ≤ Zz S + 8 * (p1 - pp) + 4 → Zn S1 + 72 * n ≤ Zn S + 120 * (p1 - pp) + 62 + 4 * cp → (Zi S1 3 = 0 → b1 ≤ 54) → (Zi S1 3 = 0 → ns ≤ 15) → Rt (f_chain_29 K V V2 m S1 (nI l) (some x0) (some c)) (XP K T S pp ns vv bb (24 * (16 - ns) + (24 - l)) 3 48)
  | 0, _, _, _, _, _, h, _, _, _, _, _, _, _, _, _, _, _ => absurd h (by omega)
  | m + 1, S1, p1, b1, n, cp, _, hm, hR, hg, z1, k1, k2, k3, k4, k5, k6, k15 => by
    have hT1 := z1.1.2.1; have hT := z1.1.2.2.1
    obtain ⟨c1, c2, fs1, c3, c4⟩ := hR.len rfl
    have h0A := gA.2.2.2.2.1.1
    have hA1 := hg.2.2.2.2.1.1
    have hend : Rt (f_chain_135 K V V2 S1 (some x0) (some c)) (XP K T S pp ns vv bb (24 * (16 - ns) + (24 - l)) 3 48) := by
      unfold f_chain_135 f_chain_144
      refine Rt.iq (fun q => by cases q) (Rt.rt ⟨p1, b1, c, rfl, z1, gA.n hg, by omega, by omega, by omega, ⟨by omega, z1.2.2.2.2 c c1, fs1, c3⟩, fun q => ⟨k6 q, ?_⟩⟩)
      have qA := hg.2.2.2.2.2 q
      obtain ⟨li, si, fs3, e1, e2, e3⟩ := RD.ql z1.2.2.2.2 hR rfl rfl rfl q
      subst e2
      have hx1 : exS (iv (Zz S) (Zz SA)) (ZF SA) (iv (Zz S) (Zz S1)) (ZF S1) := iv_ex (Nat.le_refl _) hA1 (fun a _ h => hg.2.2.1 a h (fun q => q))
      have hx2 : exS (iv (Zz SA) (Zz S1)) (ZF S1) (iv (Zz S) (Zz S1)) (ZF S1) := iv_ex h0A (Nat.le_refl _) (fun _ _ _ => rfl)
      rw [show 24 - l = 23 - l + 1 by omega]
      have hlt := (isE_mem (hfi qA)).2
      exact isE_6 (n := 24 * (16 - ns) + (23 - l)) (iv_m.mpr ⟨by omega, z1.2.2.2.2 c c1⟩) (by omega) e1 k2 (isE_im hx1 _ (Nat.le_refl _) (hfi qA)) ⟨15 - ns, Or.inl (by have := k15 q; omega), isQl_im hx2 (fun x p q b c w => isE_im hx2 _ (Nat.le_refl _) w) (e3 p1 (Nat.le_refl _))⟩
    unfold f_chain_29
    refine Rt.ok (fun q1 => ?_) (fun _ => hend)
    refine Rt.bd z1.kd (Rt.bn lev_ (fun S8 r8 q8 => ?_))
    obtain ⟨e8, q8⟩ := q8
    rw [e8]
    refine Rt.it (fun hv => ?_) (fun _ => hend)
    have hk0 : Zr S1 5 p1 ≠ 0 := fun w => by
      have := q8 w
      rw [hv] at this
      have := (nI_eq (a := l) (b := 0) (by omega) (by decide)).mp this
      omega
    have qA := hg.2.2.2.2.2 q1
    obtain ⟨d1, d2⟩ := hd2 qA
    have hm1 := hm q1
    refine Rt.pi z1 (z1.nx rfl hk0) (fun S10 g10 z10 i10 => ?_)
    rw [z1.1.1]
    refine Rt.bn (enter_ z10 (by omega)) (fun S11 _ q11 => ?_)
    obtain ⟨z11, g11, h11⟩ := q11
    have g111 := g10.tr g11
    have y1 := g111.2.2.2.1; have y2 := g111.2.2.2.2
    rw [nI_1]
    refine Rt.bn (hV S11 (p1 + 1) (ns + 1) vv b1 (l + 1) (by omega) (by omega) z11 (fun _ => k6 q1) (by omega) (fun q => by have := h11 q; omega) (by omega) (by omega)) (fun S13 r13 q13 => ?_)
    obtain ⟨p13, b13, x, e13, z13, g13, w1, w2, w3, w4, w5⟩ := q13
    subst e13
    have hT13 := z13.1.2.1
    refine Rt.nd z13 (fun S15 g15 z15 i15 => Rt.iq (fun q => by cases q) ?_)
    unfold f_chain_124
    have y3 := g15.2.2.2.1; have y4 := g15.2.2.2.2
    refine Rt.bn (rstep (X := nX) (S2 := S15) (fun q => absurd q (by omega)) rfl rfl rfl rfl (hR.ss g111) (hg.n g111.1) z11.2.2.2.2 z15 (g13.n g15.1) ⟨w4.1, by omega, by rw [g15.2.1]; exact w4.2.2⟩ (fun q => by rw [g15.2.1, y3]; exact isE_im exS.rf _ (Nat.le_refl _) (w5 (by rw [← i15]; exact q)).2) (show 24 * (16 - (ns + 1)) + (24 - (l + 1)) ≤ 24 * (16 - ns) + (23 - l) by omega) (fun q => ⟨by omega, p1, rfl, Or.inr ⟨by omega, by omega⟩⟩) (by omega) (by omega) (by omega)) (fun S3 _ q3 => ?_)
    obtain ⟨cp3, v1, v2, v3, v4, v5, v6, v7⟩ := q3
    have hgd : Zi S3 3 = 0 → Zi S13 3 = 0 := fun q => by rw [← i15, ← v4]; exact q
    refine chn29 hV hl hd hd2 r1 r2 gA hpA hfi hc m (by omega) (fun q => ?_) v1 v2 v3 (by omega) (by omega) (by omega) (by omega) (by omega) (fun q => (w5 (hgd q)).1) (fun q => k15 q1)
    omega
/-- chain -/
theorem chn_ (hV : HVc K T V d) (hU : HVu K T V2 d) (hl : 1 ≤ l ∧ l ≤ 6) (h : RZ S T pp ns vv bb) (hb : Zi S 3 = 0 → bb ≤ 54) (hd : 7 - l ≤ d) (hd2 : Zi S 3 = 0 → ns ≤ 16 ∧ 7 * (17 - ns) + 7 - l ≤ d) (r1 : Zz S + 8 * (T - pp) + 8 ≤ K.2.1) (r2 : Zn S + 120 * (T - pp) + 360 ≤ K.2.2) : Rt (f_chain K V V2 S (nI l)) (XP K T S pp ns vv bb (24 * (16 - ns) + (24 - l)) 3 48) := by
  have hp := h.1.2.1; have hT := h.1.2.2.1
  unfold f_chain f_chain_19
  rcases Nat.lt_or_ge 5 l with h6 | h5
  · obtain rfl : l = 6 := by omega
    refine Rt.iq (by decide) (Rt.bn (hU S pp ns vv bb h hb (by omega) (fun q => by have := hd2 q; omega) (by omega) (by omega)) (fun S3 r3 q3 => Rt.iq (by decide) (Rt.rt (q3.le (by omega) (by omega) (by omega)))))
  · have hle : nI l ≤ 5 := (nI_leI (a := l) (b := 5) (by omega) (by decide)).mpr h5
    refine Rt.ip hle ?_
    rw [nI_1]
    refine Rt.bn (hV S pp ns vv bb (l + 1) (by omega) (by omega) h hb (by omega) (fun q => by have := hd2 q; omega) r1 r2) (fun SA rA qA => ?_)
    have hXA := qA
    obtain ⟨ppA, bbA, x0, eA, zA, gA, w1, w2, w3, w4, w5⟩ := qA
    subst eA
    refine Rt.ip hle ?_
    have hend : Rt (f_chain_135 K V V2 SA (some x0) none) (XP K T S pp ns vv bb (24 * (16 - ns) + (24 - l)) 3 48) := by
      unfold f_chain_135 f_chain_144
      exact Rt.ip rfl (Rt.rt (hXA.le (by omega) (Nat.le_refl _) (Nat.le_refl _)))
    obtain ⟨m, em, hm⟩ := bigN_gt (n := 10000) (by decide)
    rw [em]
    unfold f_chain_29
    have hTA := zA.1.2.1
    refine Rt.ok (fun q1 => ?_) (fun _ => hend)
    refine Rt.bd zA.kd (Rt.bn lev_ (fun S8 r8 q8 => ?_))
    obtain ⟨e8, q8⟩ := q8
    rw [e8]
    refine Rt.it (fun hv => ?_) (fun _ => hend)
    have hk0 : Zr SA 5 ppA ≠ 0 := fun w => by
      have := q8 w
      rw [hv] at this
      have := (nI_eq (a := l) (b := 0) (by omega) (by decide)).mp this
      omega
    have q0 := gA.2.2.2.2.2 q1
    obtain ⟨d1, d2⟩ := hd2 q0
    obtain ⟨c1, c2⟩ := w5 q1
    obtain ⟨vs, hv1, hv2⟩ := isE_tok c2
    have hlt := (isE_mem c2).2
    refine Rt.pi zA (zA.nx rfl hk0) (fun S10 g10 z10 i10 => ?_)
    rw [zA.1.1]
    refine Rt.bn (enter_ z10 (by omega)) (fun S11 _ q11 => ?_)
    obtain ⟨z11, g11, h11⟩ := q11
    have g111 := g10.tr g11
    have y1 := g111.2.2.2.1; have y2 := g111.2.2.2.2
    rw [nI_1]
    refine Rt.bn (hV S11 (ppA + 1) (ns + 1) vv bbA (l + 1) (by omega) (by omega) z11 (fun _ => c1) (by omega) (fun q => by have := h11 q; omega) (by omega) (by omega)) (fun S13 r13 q13 => ?_)
    obtain ⟨p13, b13, x, e13, z13, g13, v1, v2, v3, v4, v5⟩ := q13
    subst e13
    have hT13 := z13.1.2.1
    refine Rt.nd z13 (fun S15 g15 z15 i15 => Rt.ip rfl ?_)
    have y3 := g15.2.2.2.1; have y4 := g15.2.2.2.2
    refine Rt.nw (X := nX) z15 (by omega) (by omega) (fun S16 s16 z16 i16 => ?_)
    refine Rt.pv s16 z16 (Nat.le_of_ble_eq_true rfl) rfl (fun S20 s20 z20 u20 => ?_)
    have hgA20 : GR nX SA S20 := ((g111.1.n g13).n g15.1).n s20.1
    have hx0A : x0 ∈ ZL SA := (gA.2.2.2.1 x0).mpr (Or.inr ⟨w4.1, w4.2.1⟩)
    refine Rt.bd (oI_mk (hgA20.in hx0A) ((hgA20.2.2.1 x0 w4.2.1 (fun q => q)).trans hv1) hv2) ?_
    refine Rt.pv s20 z20 (Nat.le_of_ble_eq_true rfl) rfl (fun S22 s22 z22 u22 => ?_)
    refine Rt.pv s22 z22 (Nat.le_of_ble_eq_true rfl) (show va_rf (some x0) = .ref x0 from rfl) (fun S23 s23 z23 u23 => ?_)
    have s23 : St nX S15 S23 (Zz S15) (.inr (15, xpV 8 pp 0 0 0 0 (.ref x0) .null .null 0)) 1 14 := s23
    have hgA23 : GR nX SA S23 := ((g111.1.n g13).n g15.1).n s23.1
    have x1 := s23.2.2.2.2.1; have x2 := s23.2.2.2.2.2
    have x3 := z23.2.2.2.2 _ s23.2.2.1
    have x4 := hgA23.2.2.2.2.1.1
    have x5 := g13.2.2.2.2.1.1
    have x6 := gA.2.2.2.2.1.1
    have hcl : ∀ a : Nat, a < Zz S13 → ZF S23 a = ZF S13 a := fun a ha => (s23.1.2.2.1 a (by omega) (fun q => q)).trans (by rw [g15.2.1])
    have q23 : Zi S23 3 = 0 → Zi S13 3 = 0 := fun q => by rw [← i15]; exact s23.1.2.2.2.2.2 q
    unfold f_chain_124
    refine Rt.bn (rfirst (S := SA) (kq := 15 - ns) (z := 1) (N := 24 * (16 - ns) + (23 - l)) (p0 := ppA) (q0 := ppA) (b1 := bbA) (N1 := 24 * (16 - (ns + 1)) + (24 - (l + 1))) (pp1 := ppA + 1) (M := iv (Zz S11) (Zz S13)) rfl rfl rfl rfl s23.2.2.1 (by omega) s23.2.2.2.1 z23 hgA23 (fun a ha => by have := iv_m.mp ha; omega) (fun q => by have := iv_m.mp q; omega) ?_ (fun q => isE_im (fun a ha => ⟨ha, hcl a (iv_m.mp ha).2⟩) _ (Nat.le_refl _) (v5 (q23 q)).2) (by omega) (Nat.le_refl _) (fun _ => ⟨by omega, ppA, rfl, Or.inr ⟨by omega, by omega⟩⟩) (by omega) (by omega)) (fun S3 _ q3 => ?_)
    · obtain ⟨vs2, hv3⟩ := v4.2.2
      exact okO_mk (s23.1.in (by rw [g15.2.2.1]; exact (g13.2.2.2.1 x).mpr (Or.inr ⟨v4.1, v4.2.1⟩))) ((hcl x v4.2.1).trans hv3)
    obtain ⟨cp3, t1, t2, t3, t4, t5, t6⟩ := q3
    refine chn29 hV ⟨hl.1, h5⟩ hd (fun q => ⟨d1, by omega⟩) r1 r2 gA (by omega) (fun q => isE_im exS.rf _ (by omega) (w5 q).2) (by omega) m (by omega) (fun q => by omega) t1 t2 t3 (by omega) (Nat.le_refl _) (by omega) (by omega) (by omega) (fun q => (v5 (q23 (by rw [← t4]; exact q))).1) (fun q => by have := h11 (g13.2.2.2.2.2 (q23 (by rw [← t4]; exact q))); omega)
/-- all exps -/
theorem exps_ : ∀ d : Nat, HVc K T (f_chain9 K d) d ∧ HVu K T (f_unary9 K d) d
  | 0 => ⟨fun S pp ns vv bb l h1 h2 _ _ h5 _ _ _ => absurd h5 (by omega), fun S pp ns vv bb _ _ h5 _ _ _ => absurd h5 (by omega)⟩
  | d + 1 => by
    obtain ⟨h1, h2⟩ := exps_ d
    refine ⟨fun S pp ns vv bb l k1 k2 z hb k5 k6 r1 r2 => ?_, fun S pp ns vv bb z hb k5 k6 r1 r2 => ?_⟩
    · exact chn_ (V := f_chain9 K d) (V2 := f_unary9 K d) h1 h2 ⟨k1, k2⟩ z hb (by omega) (fun q => by have := k6 q; omega) r1 r2
    · exact una_ (V := f_chain9 K d) (V2 := f_unary9 K d) h1 h2 z hb (fun q => by have := k6 q; omega) r1 r2
end CHL
