section RDM
variable {K : Ky} {T N kq z n cp p0 q0 bb b1 e ns vv d pp : Nat} {S S1 : Sg} {fs : List Value} {V : Sg → Int32 → Option (Sg × Option Nat)} {V2 : Sg → Option (Sg × Option Nat)}
theorem RD.len (h : RD K N kq z S S1 e fs n cp p0 q0 bb b1) (hl : fs.length = 14) : e ∈ ZL S1 ∧ cp ≤ 4 + 2 * n ∧ ∃ fs1 : List Value, ZF S1 e = .inr (15, fs1) ∧ fs1.length = 14 := by
  obtain ⟨f, g, L, fs1, h1, h2, h3, h4, h5, _⟩ := h
  refine ⟨h1, h5, fs1, h2, ?_⟩
  rcases h4 with ⟨_, _, q⟩ | ⟨la, sa, q, _⟩
  · rw [q]; exact hl
  · rw [q, List.length_set, List.length_set, List.length_set]; exact hl
theorem RD.z0 (h : RD K N kq z S S1 e fs n cp p0 q0 bb b1) : n = 0 → cp = 0 := by
  obtain ⟨f, g, L, fs1, h1, h2, h3, h4, _⟩ := h
  intro q
  rcases h4 with ⟨_, q, _⟩ | ⟨la, sa, _, _, w, _⟩
  · exact q
  · omega
theorem RD.ss {S2 : Sg} (h : RD K N kq z S S1 e fs n cp p0 q0 bb b1) (g : SS S1 S2) : RD K N kq z S S2 e fs n cp p0 q0 bb b1 := by
  obtain ⟨f, g0, L, fs1, h1, h2, h3, h4, h5, h6, h7, h8⟩ := h
  refine ⟨f, g0, L, fs1, by rw [g.2.2.1]; exact h1, by rw [g.2.1]; exact h2, h3, ?_, h5, by rw [g.2.2.2.1]; exact h6, fun i hi => ?_, fun q => by rw [g.2.1]; exact h8 (g.1.2.2.2.2.2 q)⟩
  · rcases h4 with h4 | ⟨la, sa, q1, q2, q3⟩
    · exact Or.inl h4
    · refine Or.inr ⟨la, sa, q1, ?_, q3⟩
      obtain ⟨t1, t2, t3, t4⟩ := q2
      exact ⟨by rw [g.2.2.1]; exact t1, by rw [g.2.2.1]; exact t2, by rw [g.2.1]; exact t3, by rw [g.2.1]; exact t4⟩
  · obtain ⟨y, y1, y2⟩ := h7 i hi
    obtain ⟨y3, vs, y4⟩ := okO_of y2
    exact ⟨y, y1, okO_mk (by rw [g.2.2.1]; exact y3) (by rw [g.2.1]; exact y4)⟩
/-- nothing was read yet -/
theorem RD.beg (he : e ∈ ZL S1) (hF : ZF S1 e = .inr (15, fs)) (hp : p0 ≤ q0) : RD K N kq z S S1 e fs 0 0 p0 q0 bb bb := ⟨fun _ => none, fun _ => 0, [], fs, he, hF, List.not_mem_nil, Or.inl ⟨rfl, rfl, rfl⟩, by omega, fun a ha => absurd ha List.not_mem_nil, fun i hi => absurd hi (by omega), fun _ => chP_0 hp⟩
/-- without a fault: a row of exps -/
theorem RD.ql (hz1 : ∀ a ∈ ZL S1, a < Zz S1) (h : RD K N kq z S S1 e fs n cp p0 q0 bb b1) (h9 : fs[9]? = some .null) (h10 : fs[10]? = some .null) (h11 : fs[11]? = some (.int (nI 0))) (hz : Zi S1 3 = 0) : ∃ (li si : Value) (fs1 : List Value), ZF S1 e = .inr (15, fs1) ∧ fs1 = ((fs.set 9 li).set 10 si).set 11 (.int (nI n)) ∧ ∀ q : Nat, q0 ≤ q → isQl z (isE (iv (Zz S) (Zz S1)) (ZF S1) (K.1 9) (K.1 0) N kq) (iv (Zz S) (Zz S1)) (ZF S1) (K.1 9) (K.1 0) li si n p0 q bb b1 := by
  obtain ⟨f, g, L, fs1, h1, h2, h3, h4, h5, h6, h7, h8⟩ := h
  have hch := h8 hz
  rcases h4 with ⟨q1, q2, q3⟩ | ⟨la, sa, q1, q2, q3, q4, q5, q6, q7, q8⟩
  · refine ⟨.null, .null, fs1, h2, ?_, fun q hq => Or.inl ⟨q1, rfl, ?_, ?_⟩⟩
    · rw [q3, set_self h9, set_self h10, q1, set_self h11]
    · obtain ⟨ps, bs, c1, c2, c3, c4, _⟩ := hch; rw [q1] at c4; exact c3.symm.trans c4
    · obtain ⟨ps, bs, c1, c2, c3, c4, _⟩ := hch; rw [q1] at c2; omega
  · obtain ⟨t1, t2, t3, t4⟩ := q2
    have hx : exS L (ZF S1) (iv (Zz S) (Zz S1)) (ZF S1) := fun a ha => ⟨iv_m.mpr (h6 a ha), rfl⟩
    refine ⟨.ref la, .ref sa, fs1, h2, q1, fun q hq => Or.inr ⟨la, sa, cp, q0, f, g, rfl, rfl, iv_m.mpr ⟨q5, hz1 _ t1⟩, iv_m.mpr ⟨q6, hz1 _ t2⟩, t3, t4, q4, hq, chP_im (fun x p q b c w => isE_im hx _ (Nat.le_refl _) w) hch⟩⟩
/-- a list of exps: its end -/
theorem lst92 (hl : fs.length = 14) (h9 : fs[9]? = some .null) (h10 : fs[10]? = some .null) (h11 : fs[11]? = some (.int (nI 0))) {cm p1 : Nat} (hz1 : ∀ a ∈ ZL S1, a < Zz S1) (hR : RD K N kq 0 S S1 e fs n cp pp q0 bb b1) (hg : GR (fun b => b = e) S S1) (z1 : RZ S1 T p1 (ns + 1) vv b1) (h1 : pp ≤ p1 ∧ bb ≤ b1 ∧ b1 ≤ bb + (p1 - pp)) (h2 : Zz S1 + 3 * n + 8 * cm ≤ Zz S + 8 * (p1 - pp)) (h3 : Zn S1 + 64 * n + 120 * cm ≤ Zn S + 120 * (p1 - pp) + 4 * cp) (hkq : Zi S1 3 = 0 → 16 - ns = kq + 1) (h4 : Zi S1 3 = 0 → b1 ≤ 54 ∧ pp < p1 ∧ q0 ≤ p1) : Rt (f_list_92 K V V2 S1) (fun S2 _ => EP K T S pp ns vv bb e (fun S2 pp2 bb2 fs2 => ∃ (li si : Value) (mn : Nat), fs2 = ((fs.set 9 li).set 10 si).set 11 (.int (nI mn)) ∧ isQk 0 (16 - ns) (isE (iv (Zz S) (Zz S2)) (ZF S2) (K.1 9) (K.1 0) N) (iv (Zz S) (Zz S2)) (ZF S2) (K.1 9) (K.1 0) li si mn pp pp2 bb bb2) S2) := by
  unfold f_list_92
  refine Rt.nd z1 (fun S5 g5 z5 i5 => Rt.bn (take_ z5 (by decide)) (fun S6 _ q6 => Rt.rt ?_))
  obtain ⟨p6, z6, g6, k1, k2, k3⟩ := q6
  have g16 := g5.tr g6
  obtain ⟨c1, c2, fs1, c3, c4⟩ := hR.len hl
  have c5 := hR.z0
  have s1 : St (fun b => b = e) S S1 e (.inr (15, fs1)) (8 * (p1 - pp)) (120 * (p1 - pp)) := ⟨hg, fun _ => rfl, c1, c3, by omega, by rcases Nat.eq_zero_or_pos n with q | q <;> omega⟩
  refine ⟨p6, b1, fs1, z6, (s1.ss g16).le (by omega) (by omega), by omega, c4, fun q => ?_⟩
  have q1 : Zi S1 3 = 0 := by rw [← i5]; exact g6.1.2.2.2.2.2 q
  obtain ⟨d1, d2, d3⟩ := h4 q1
  obtain ⟨li, si, fs3, e1, e2, e3⟩ := RD.ql hz1 hR h9 h10 h11 q1
  refine ⟨d1, by omega, li, si, n, ?_, ?_⟩
  · rw [c3] at e1; cases e1; exact e2
  · rw [g16.2.1, g16.2.2.2.1]; exact ⟨kq, Or.inl (hkq q1), e3 p6 (by omega)⟩
/-- .. its loop -/
theorem lst62 (hV : HVc K T V d) (hb : bb ≤ 54) (hd : 7 ≤ d) (hn16 : ns + 1 ≤ 16 ∧ 7 * (17 - ns) ≤ d) (r1 : Zz S + 8 * (T - pp) + 3 ≤ K.2.1) (r2 : Zn S + 120 * (T - pp) + 280 ≤ K.2.2) (hez : e < Zz S) (hl : fs.length = 14) (h9 : fs[9]? = some .null) (h10 : fs[10]? = some .null) (h11 : fs[11]? = some (.int (nI 0))) (hN : 24 * (16 - ns) = N) (hq : 15 - ns = kq) : ∀ (m : Nat) {S1 : Sg} {p1 b1 n cp q0 cm : Nat} {mo : Int32}, 1 ≤ m → (Zi S1 3 = 0 → T + 1 ≤ p1 + m) → RD K N kq 0 S S1 e fs n cp pp q0 bb b1 → GR (fun b => b = e) S S1 → RZ S1 T p1 (ns + 1) vv b1 → (pp ≤ p1 ∧ bb ≤ b1 ∧ b1 ≤ bb + (p1 - pp)) → Zz S1 + 3 * n + 8 * cm ≤ Zz S + 8 * (p1 - pp) → Zn S1 + 64 * n + 120 * cm ≤ Zn S + 120 * (p1 - pp) + 4 * cp → pp + n + cm ≤ p1 → (Zi S1 3 = 0 → b1 ≤ 54 ∧ pp < p1 ∧ ((mo = 0 ∧ q0 ≤ p1) ∨ (mo ≠ 0 ∧ cm = 1 ∧ q0 < p1))) → Rt (f_list_62 K V V2 m S1 (some e) mo) (fun S2 _ => EP K T S pp ns vv bb e (fun S2 pp2 bb2 fs2 => ∃ (li si : Value) (mn : Nat), fs2 = ((fs.set 9 li).set 10 si).set 11 (.int (nI mn)) ∧ isQk 0 (16 - ns) (isE (iv (Zz S) (Zz S2)) (ZF S2) (K.1 9) (K.1 0) N) (iv (Zz S) (Zz S2)) (ZF S2) (K.1 9) (K.1 0) li si mn pp pp2 bb bb2) S2)
  | 0, _, _, _, _, _, _, _, _, h, _, _, _, _, _, _, _, _, _ => absurd h (by omega)
  | m + 1, S1, p1, b1, n, cp, q0, cm, mo, _, hm, hR, hg, z1, k1, k2, k3, k4, k5 => by
    unfold f_list_62
    refine Rt.ok (fun q1 => ?_) (fun q1 => lst92 hl h9 h10 h11 (cm := cm) z1.2.2.2.2 hR hg z1 k1 k2 k3 (fun _ => by omega) (fun q => absurd q q1))
    obtain ⟨c1, c2, c3⟩ := k5 q1
    have hT1 := z1.1.2.1; have hT := z1.1.2.2.1
    refine Rt.it (fun hmo => ?_) (fun hmo => ?_)
    · refine lst92 hl h9 h10 h11 (cm := cm) z1.2.2.2.2 hR hg z1 k1 k2 k3 (fun _ => by omega) (fun _ => ⟨c1, c2, ?_⟩)
      rcases c3 with ⟨_, c3⟩ | ⟨c3, _⟩
      · exact c3
      · exact absurd hmo c3
    · obtain ⟨c4, c5⟩ := (c3.resolve_left (fun w => hmo w.1)).2
      subst c4
      obtain ⟨_, hcp, _⟩ := hR.len hl
      have hm1 := hm q1
      refine Rt.bn (exp_ hV z1 (fun _ => c1) hd (fun _ => ⟨by omega, by omega⟩) (by omega) (by omega)) (fun S2 r2 q2 => ?_)
      obtain ⟨p2, b2, x, e2, z2, g2, w1, w2, w3, w4, w5⟩ := q2
      subst e2
      have hT2 := z2.1.2.1
      refine Rt.bn (rstep (X := fun b => b = e) (fun _ => rfl) hl h9 h10 h11 hR hg z1.2.2.2.2 z2 g2 w4 (fun q => isE_im exS.rf _ (Nat.le_refl _) (w5 q).2) (show 24 * (16 - (ns + 1)) + 23 ≤ N by omega) (fun q => ⟨c5, 0, rfl, Or.inl ⟨rfl, rfl⟩⟩) (by omega) (by omega) (by omega)) (fun S3 _ q3 => ?_)
      obtain ⟨cp3, v1, v2, v3, v4, v5, v6, v7⟩ := q3
      refine Rt.bn (takes_ v3 (by decide)) (fun S4 r4 q4 => ?_)
      obtain ⟨p4, z4, g4, i4, q4⟩ := q4
      have hR4 := v1.ss g4
      have hg4 := v2.n g4.1
      have y1 := g4.2.2.2.1; have y2 := g4.2.2.2.2
      have hgood : Zi S4 3 = 0 → b2 ≤ 54 ∧ p1 < p2 := fun q => by
        have q2 : Zi S2 3 = 0 := by rw [← v4, ← i4]; exact q
        exact ⟨(w5 q2).1, (isE_mem (w5 q2).2).2⟩
      rcases q4 with ⟨e4, e5, e6⟩ | ⟨e4, e5, e6, e7⟩
      · subst e4 e5
        refine lst62 hV hb hd hn16 r1 r2 hez hl h9 h10 h11 hN hq m (cm := 0) (by omega) (fun q => ?_) hR4 hg4 z4 (by omega) (by omega) (by omega) (by omega) (fun q => ⟨(hgood q).1, by have := (hgood q).2; omega, Or.inl ⟨rfl, Nat.le_refl _⟩⟩)
        have := (hgood q).2; omega
      · subst e4 e5
        refine lst62 hV hb hd hn16 r1 r2 hez hl h9 h10 h11 hN hq m (cm := 1) (by omega) (fun q => ?_) hR4 hg4 z4 (by omega) (by omega) (by omega) (by omega) (fun q => ⟨(hgood q).1, by have := (hgood q).2; omega, Or.inr ⟨by decide, rfl, by omega⟩⟩)
        have := (hgood q).2; omega
/-- list -/
theorem lst_ (hV : HVc K T V d) (h : RZ S T pp ns vv bb) (hb : Zi S 3 = 0 → bb ≤ 54) (hd : 7 ≤ d) (hd2 : Zi S 3 = 0 → ns ≤ 16 ∧ 7 * (17 - ns) ≤ d) (hn : ns ≤ 99) (r1 : Zz S + 8 * (T - pp) + 3 ≤ K.2.1) (r2 : Zn S + 120 * (T - pp) + 280 ≤ K.2.2) (he : e ∈ ZL S) (hF : ZF S e = .inr (15, fs)) (hl : fs.length = 14) (h9 : fs[9]? = some .null) (h10 : fs[10]? = some .null) (h11 : fs[11]? = some (.int (nI 0))) {kd : Int32} (h0 : fs[0]? = some (.int kd)) : Rt (f_list K V V2 S (some e)) (fun S2 _ => EP K T S pp ns vv bb e (fun S2 pp2 bb2 fs2 => ∃ (li si : Value) (mn : Nat), fs2 = ((fs.set 9 li).set 10 si).set 11 (.int (nI mn)) ∧ isQk 0 (16 - ns) (isE (iv (Zz S) (Zz S2)) (ZF S2) (K.1 9) (K.1 0) (24 * (16 - ns))) (iv (Zz S) (Zz S2)) (ZF S2) (K.1 9) (K.1 0) li si mn pp pp2 bb bb2) S2) := by
  have hp := h.1.2.1; have hT := h.1.2.2.1
  have hez := h.2.2.2.2 e he
  have h37 : ∀ S1 : Sg, SS S S1 → RZ S1 T pp (ns + 1) vv bb → (Zi S1 3 = 0 → ns ≠ 16 ∨ ¬ Zr S 5 pp = 61) → Rt (f_list_37 K V V2 S1 (some e)) (fun S2 _ => EP K T S pp ns vv bb e (fun S2 pp2 bb2 fs2 => ∃ (li si : Value) (mn : Nat), fs2 = ((fs.set 9 li).set 10 si).set 11 (.int (nI mn)) ∧ isQk 0 (16 - ns) (isE (iv (Zz S) (Zz S2)) (ZF S2) (K.1 9) (K.1 0) (24 * (16 - ns))) (iv (Zz S) (Zz S2)) (ZF S2) (K.1 9) (K.1 0) li si mn pp pp2 bb bb2) S2) := fun S1 g1 z1 h1 => by
    unfold f_list_37
    refine Rt.bn (take_ z1 (by decide)) (fun S2 _ q2 => ?_)
    obtain ⟨p2, z2, g2, k1, k2, k3⟩ := q2
    have g02 := g1.tr g2
    have e1 := g02.2.2.2.1; have e2 := g02.2.2.2.2
    have he2 : e ∈ ZL S2 := by rw [g02.2.2.1]; exact he
    have hF2 : ZF S2 e = .inr (15, fs) := by rw [g02.2.1]; exact hF
    have hgd : Zi S2 3 = 0 → bb ≤ 54 ∧ p2 = pp + 1 ∧ ns + 1 ≤ 16 ∧ 7 * (17 - ns) ≤ d := fun q => by
      have q1 : Zi S1 3 = 0 := g2.1.2.2.2.2.2 q
      have q0 : Zi S 3 = 0 := g1.1.2.2.2.2.2 q1
      have := hd2 q0; have hk := k3 q
      have hk1 : Zr S 5 pp = 61 := by rw [← g1.1.2.1.1]; exact hk.1
      have h16 := (h1 q1).resolve_right (fun w => w hk1)
      exact ⟨hb q0, hk.2, by omega, by omega⟩
    refine Rt.bd (oI_mk he2 hF2 h0) ?_
    have h92 : Rt (f_list_92 K V V2 S2) (fun S2 _ => EP K T S pp ns vv bb e (fun S2 pp2 bb2 fs2 => ∃ (li si : Value) (mn : Nat), fs2 = ((fs.set 9 li).set 10 si).set 11 (.int (nI mn)) ∧ isQk 0 (16 - ns) (isE (iv (Zz S) (Zz S2)) (ZF S2) (K.1 9) (K.1 0) (24 * (16 - ns))) (iv (Zz S) (Zz S2)) (ZF S2) (K.1 9) (K.1 0) li si mn pp pp2 bb bb2) S2) := lst92 (N := 24 * (16 - ns)) (kq := 15 - ns) (n := 0) (cp := 0) (q0 := pp) (cm := 0) hl h9 h10 h11 z2.2.2.2.2 (RD.beg he2 hF2 (Nat.le_refl _)) (g02.1.mo (fun _ _ q => q.elim)) z2 (by omega) (by omega) (by omega) (fun q => by have := (hgd q).2.2.1; omega) (fun q => ⟨(hgd q).1, by have := (hgd q).2.1; omega, by omega⟩)
    have h60 : Rt (f_list_60 K V V2 S2 (some e)) (fun S2 _ => EP K T S pp ns vv bb e (fun S2 pp2 bb2 fs2 => ∃ (li si : Value) (mn : Nat), fs2 = ((fs.set 9 li).set 10 si).set 11 (.int (nI mn)) ∧ isQk 0 (16 - ns) (isE (iv (Zz S) (Zz S2)) (ZF S2) (K.1 9) (K.1 0) (24 * (16 - ns))) (iv (Zz S) (Zz S2)) (ZF S2) (K.1 9) (K.1 0) li si mn pp pp2 bb bb2) S2) := by
      unfold f_list_60
      by_cases q : Zi S2 3 = 0
      · obtain ⟨c1, c2, c3, c4⟩ := hgd q
        exact lst62 hV c1 hd ⟨c3, c4⟩ r1 r2 hez hl h9 h10 h11 rfl rfl bigN (n := 0) (cp := 0) (q0 := pp) (cm := 1) (by decide) (fun _ => by show T + 1 ≤ p2 + 1000000000000; omega) (RD.beg he2 hF2 (Nat.le_refl _)) (g02.1.mo (fun _ _ q => q.elim)) z2 (by omega) (by omega) (by omega) (by omega) (fun _ => ⟨c1, by omega, Or.inr ⟨by decide, rfl, by omega⟩⟩)
      · obtain ⟨m, em, _⟩ := bigN_gt (n := 0) (by decide)
        rw [em]
        unfold f_list_62
        exact Rt.be (ok_0 q) (Rt.ip rfl h92)
    exact Rt.it (fun _ => Rt.is z2 (fun _ => h92) (fun _ => h60)) (fun _ => h60)
  unfold f_list
  have h27 : (Zi S 3 = 0 → ¬ Zr S 5 pp = 61) → Rt (f_list_27 K V V2 S (some e)) (fun S2 _ => EP K T S pp ns vv bb e (fun S2 pp2 bb2 fs2 => ∃ (li si : Value) (mn : Nat), fs2 = ((fs.set 9 li).set 10 si).set 11 (.int (nI mn)) ∧ isQk 0 (16 - ns) (isE (iv (Zz S) (Zz S2)) (ZF S2) (K.1 9) (K.1 0) (24 * (16 - ns))) (iv (Zz S) (Zz S2)) (ZF S2) (K.1 9) (K.1 0) li si mn pp pp2 bb bb2) S2) := fun hk => by
    unfold f_list_27
    exact Rt.ni h (fun S1 g1 z1 i1 => h37 S1 g1 z1 (fun q => Or.inr (hk (by rw [← i1]; exact q))))
  refine Rt.ok (fun q => Rt.is h (fun hk => ?_) (fun hk => h27 (fun _ => hk))) (fun q => h27 (fun w => absurd w q))
  rw [h.1.1]
  refine Rt.bn (enter_ h (by omega)) (fun S1 _ q1 => ?_)
  exact h37 S1 q1.2.1 q1.1 (fun q => Or.inl (q1.2.2 q))
end RDM
