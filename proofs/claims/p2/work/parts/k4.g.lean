section NFL
variable {K : Ky} {T N kq n cp q0 bb b1 e ns vv d pp : Nat} {S S1 : Sg} {fs : List Value} {vn : Int32} {V : Sg → Int32 → Option (Sg × Option Nat)} {V2 : Sg → Option (Sg × Option Nat)}
theorem nf111 (hl : fs.length = 14) (h9 : fs[9]? = some .null) (h10 : fs[10]? = some .null) (h11 : fs[11]? = some (.int (nI 0))) {cm p1 : Nat} (hR : RD K N kq 1 S S1 e (fs.set 3 (.int vn)) n cp (pp + 1) q0 bb b1) (hg : GR (fun b => b = e) S S1) (z1 : RZ S1 T p1 (ns + 1) vv b1) (h1 : pp + 1 ≤ p1 ∧ bb ≤ b1 ∧ b1 ≤ bb + (p1 - pp)) (h2 : Zz S1 + 3 * n + 8 * cm ≤ Zz S + 8 * (p1 - pp)) (h3 : Zn S1 + 64 * n + 120 * cm ≤ Zn S + 120 * (p1 - pp) + 4 * cp) (hkq : Zi S1 3 = 0 → 16 - ns = kq + 1) (h4 : Zi S1 3 = 0 → b1 ≤ 54 ∧ vn = nI (pp + 1) ∧ pp + 1 < p1 ∧ q0 ≤ p1) : Rt (f_newFields_111 K V V2 S1) (fun S2 _ => EP K T S pp ns vv bb e (fun S2 pp2 bb2 fs2 => ∃ (li si : Value) (mn : Nat), fs2 = (((fs.set 3 (.int (nI (pp + 1)))).set 9 li).set 10 si).set 11 (.int (nI mn)) ∧ pp + 1 < pp2 ∧ isQk 1 (16 - ns) (isE (iv (Zz S) (Zz S2)) (ZF S2) (K.1 9) (K.1 0) N) (iv (Zz S) (Zz S2)) (ZF S2) (K.1 9) (K.1 0) li si mn (pp + 1) pp2 bb bb2) S2) := by
  unfold f_newFields_111
  have hl' : (fs.set 3 (.int vn)).length = 14 := by rw [List.length_set]; exact hl
  refine Rt.nd z1 (fun S5 g5 z5 i5 => Rt.bn (take_ z5 (by decide)) (fun S6 _ q6 => Rt.rt ?_))
  obtain ⟨p6, z6, g6, k1, k2, k3⟩ := q6
  have g16 := g5.tr g6
  obtain ⟨c1, c2, fs1, c3, c4⟩ := hR.len hl'
  have c5 := hR.z0
  have s1 : St (fun b => b = e) S S1 e (.inr (15, fs1)) (8 * (p1 - pp)) (120 * (p1 - pp)) := ⟨hg, fun _ => rfl, c1, c3, by omega, by rcases Nat.eq_zero_or_pos n with q | q <;> omega⟩
  refine ⟨p6, b1, fs1, z6, (s1.ss g16).le (by omega) (by omega), by omega, c4, fun q => ?_⟩
  have q1 : Zi S1 3 = 0 := by rw [← i5]; exact g6.1.2.2.2.2.2 q
  obtain ⟨d1, d0, d2, d3⟩ := h4 q1
  obtain ⟨li, si, fs3, e1, e2, e3⟩ := RD.ql z1.2.2.2.2 hR (by rw [List.getElem?_set_ne (by decide)]; exact h9) (by rw [List.getElem?_set_ne (by decide)]; exact h10) (by rw [List.getElem?_set_ne (by decide)]; exact h11) q1
  refine ⟨d1, by omega, li, si, n, ?_, by omega, ?_⟩
  · rw [c3] at e1; cases e1; rw [← d0]; exact e2
  · rw [g16.2.1, g16.2.2.2.1]; exact ⟨kq, Or.inl (hkq q1), e3 p6 (by omega)⟩
theorem nf63 (hV : HVc K T V d) (hb : bb ≤ 54) (hd : 7 ≤ d) (hn16 : ns + 1 ≤ 16 ∧ 7 * (17 - ns) ≤ d) (r1 : Zz S + 8 * (T - pp) + 3 ≤ K.2.1) (r2 : Zn S + 120 * (T - pp) + 280 ≤ K.2.2) (hl : fs.length = 14) (h9 : fs[9]? = some .null) (h10 : fs[10]? = some .null) (h11 : fs[11]? = some (.int (nI 0))) (hN : 24 * (16 - ns) = N) (hq : 15 - ns = kq) (hvn : vn = nI (pp + 1)) : ∀ (m : Nat) {S1 : Sg} {p1 b1 n cp q0 cm : Nat} {mo : Int32}, 1 ≤ m → (Zi S1 3 = 0 → T + 1 ≤ p1 + m) → RD K N kq 1 S S1 e (fs.set 3 (.int vn)) n cp (pp + 1) q0 bb b1 → GR (fun b => b = e) S S1 → RZ S1 T p1 (ns + 1) vv b1 → (pp + 1 ≤ p1 ∧ bb ≤ b1 ∧ b1 ≤ bb + (p1 - pp)) → Zz S1 + 3 * n + 8 * cm ≤ Zz S + 8 * (p1 - pp) → Zn S1 + 64 * n + 120 * cm ≤ Zn S + 120 * (p1 - pp) + 4 * cp → pp + n + cm ≤ p1 → (Zi S1 3 = 0 → b1 ≤ 54 ∧ pp + 1 < p1 ∧ ((mo = 0 ∧ q0 ≤ p1) ∨ (mo ≠ 0 ∧ cm = 1 ∧ q0 < p1))) → Rt (f_newFields_63 K V V2 m S1 (some e) mo) (fun S2 _ => EP K T S pp ns vv bb e (fun S2 pp2 bb2 fs2 => ∃ (li si : Value) (mn : Nat), fs2 = (((fs.set 3 (.int (nI (pp + 1)))).set 9 li).set 10 si).set 11 (.int (nI mn)) ∧ pp + 1 < pp2 ∧ isQk 1 (16 - ns) (isE (iv (Zz S) (Zz S2)) (ZF S2) (K.1 9) (K.1 0) N) (iv (Zz S) (Zz S2)) (ZF S2) (K.1 9) (K.1 0) li si mn (pp + 1) pp2 bb bb2) S2)
  | 0, _, _, _, _, _, _, _, _, h, _, _, _, _, _, _, _, _, _ => absurd h (by omega)
  | m + 1, S1, p1, b1, n, cp, q0, cm, mo, _, hm, hR, hg, z1, k1, k2, k3, k4, k5 => by
    unfold f_newFields_63
    refine Rt.ok (fun q1 => ?_) (fun q1 => nf111 hl h9 h10 h11 (cm := cm) hR hg z1 k1 k2 k3 (fun _ => by omega) (fun q => absurd q q1))
    obtain ⟨c1, c2, c3⟩ := k5 q1
    have hT1 := z1.1.2.1; have hT := z1.1.2.2.1
    refine Rt.it (fun hmo => ?_) (fun hmo => ?_)
    · refine nf111 hl h9 h10 h11 (cm := cm) hR hg z1 k1 k2 k3 (fun _ => by omega) (fun _ => ⟨c1, hvn, c2, ?_⟩)
      rcases c3 with ⟨_, c3⟩ | ⟨c3, _⟩
      · exact c3
      · exact absurd hmo c3
    · obtain ⟨c4, c5⟩ := (c3.resolve_left (fun w => hmo w.1)).2
      subst c4
      obtain ⟨_, hcp, _⟩ := hR.len (by rw [List.length_set]; exact hl)
      have hm1 := hm q1
      refine Rt.bn (name_ z1) (fun S2 rn q2 => ?_)
      obtain ⟨p2, z2, g2, u1, u2, u3⟩ := q2
      refine Rt.bn (take_ z2 (by decide)) (fun S3 _ q3 => ?_)
      obtain ⟨p3, z3, g3, u4, u5, u6⟩ := q3
      have g13 := g2.tr g3
      have y1 := g13.2.2.2.1; have y2 := g13.2.2.2.2
      have hR3 := hR.ss g13
      have hg3 := hg.n g13.1
      have hT3 := z3.1.2.1
      have h101 : ∀ {S5 : Sg} {p5 b5 n5 cp5 q5 : Nat}, RD K N kq 1 S S5 e (fs.set 3 (.int vn)) n5 cp5 (pp + 1) q5 bb b5 → GR (fun b => b = e) S S5 → RZ S5 T p5 (ns + 1) vv b5 → (pp + 1 ≤ p5 ∧ bb ≤ b5 ∧ b5 ≤ bb + (p5 - pp)) → Zz S5 + 3 * n5 ≤ Zz S + 8 * (p5 - pp) → Zn S5 + 64 * n5 ≤ Zn S + 120 * (p5 - pp) + 4 * cp5 → pp + n5 ≤ p5 → (Zi S5 3 = 0 → b5 ≤ 54 ∧ pp + 1 < p5 ∧ q5 ≤ p5 ∧ p1 < p5) → Rt (f_newFields_101 K V V2 (f_newFields_63 K V V2 m) S5 (some e)) (fun S2 _ => EP K T S pp ns vv bb e (fun S2 pp2 bb2 fs2 => ∃ (li si : Value) (mn : Nat), fs2 = (((fs.set 3 (.int (nI (pp + 1)))).set 9 li).set 10 si).set 11 (.int (nI mn)) ∧ pp + 1 < pp2 ∧ isQk 1 (16 - ns) (isE (iv (Zz S) (Zz S2)) (ZF S2) (K.1 9) (K.1 0) N) (iv (Zz S) (Zz S2)) (ZF S2) (K.1 9) (K.1 0) li si mn (pp + 1) pp2 bb bb2) S2) := fun {S5 p5 b5 n5 cp5 q5} w1 w2 w3 w4 w5 w6 w7 w8 => by
        unfold f_newFields_101
        refine Rt.bn (takes_ w3 (by decide)) (fun S6 r6 q6 => ?_)
        obtain ⟨p6, z6, g6, i6, q6⟩ := q6
        have x1 := g6.2.2.2.1; have x2 := g6.2.2.2.2
        rcases q6 with ⟨e4, e5, e6⟩ | ⟨e4, e5, e6, e7⟩
        · subst e4 e5
          refine nf63 hV hb hd hn16 r1 r2 hl h9 h10 h11 hN hq hvn m (cm := 0) (by omega) (fun q => ?_) (w1.ss g6) (w2.n g6.1) z6 (by omega) (by omega) (by omega) (by omega) (fun q => ?_)
          · have := w8 (by rw [← i6]; exact q); omega
          · have := w8 (by rw [← i6]; exact q); exact ⟨this.1, this.2.1, Or.inl ⟨rfl, this.2.2.1⟩⟩
        · subst e4 e5
          refine nf63 hV hb hd hn16 r1 r2 hl h9 h10 h11 hN hq hvn m (cm := 1) (by omega) (fun q => ?_) (w1.ss g6) (w2.n g6.1) z6 (by omega) (by omega) (by omega) (by omega) (fun q => ?_)
          · have := w8 (by rw [← i6]; exact q); omega
          · have := w8 (by rw [← i6]; exact q); exact ⟨this.1, by omega, Or.inr ⟨by decide, rfl, by omega⟩⟩
      refine Rt.ok (fun q3 => ?_) (fun q3 => h101 hR3 hg3 z3 (by omega) (by omega) (by omega) (by omega) (fun q => absurd q q3))
      have q2 : Zi S2 3 = 0 := g3.1.2.2.2.2.2 q3
      obtain ⟨u7, u8, u9⟩ := u3 q2
      obtain ⟨u10, u11⟩ := u6 q3
      refine Rt.bn (exp_ hV z3 (fun _ => c1) hd (fun _ => ⟨by omega, by omega⟩) (by omega) (by omega)) (fun S4 r4 q4 => ?_)
      obtain ⟨p4, b4, x, e2, z4, g4, w1, w2, w3, w4, w5⟩ := q4
      subst e2
      have hT4 := z4.1.2.1
      refine Rt.bn (rstep (X := fun b => b = e) (fun _ => rfl) (by rw [List.length_set]; exact hl) (by rw [List.getElem?_set_ne (by decide)]; exact h9) (by rw [List.getElem?_set_ne (by decide)]; exact h10) (by rw [List.getElem?_set_ne (by decide)]; exact h11) hR3 hg3 z3.2.2.2.2 z4 g4 w4 (fun q => isE_im exS.rf _ (Nat.le_refl _) (w5 q).2) (show 24 * (16 - (ns + 1)) + 23 ≤ N by omega) (fun q => ⟨by omega, p1, u9, Or.inr ⟨by omega, by omega⟩⟩) (by omega) (by omega) (by omega)) (fun S5 _ q5 => ?_)
      obtain ⟨cp5, v1, v2, v3, v4, v5, v6, v7⟩ := q5
      refine h101 v1 v2 v3 (by omega) (by omega) (by omega) (by omega) (fun q => ?_)
      have q4 : Zi S4 3 = 0 := by rw [← v4]; exact q
      have := isE_mem (w5 q4).2
      exact ⟨(w5 q4).1, by omega, Nat.le_refl _, by omega⟩
theorem nfs_ (hV : HVc K T V d) (h : RZ S T pp ns vv bb) (hk24 : Zr S 5 pp = 24) (hb : Zi S 3 = 0 → bb ≤ 54) (hd : 7 ≤ d) (hd2 : Zi S 3 = 0 → ns ≤ 16 ∧ 7 * (17 - ns) ≤ d) (hn : ns ≤ 99) (r1 : Zz S + 8 * (T - pp) + 3 ≤ K.2.1) (r2 : Zn S + 120 * (T - pp) + 280 ≤ K.2.2) (he : e ∈ ZL S) (hF : ZF S e = .inr (15, fs)) (hl : fs.length = 14) (h9 : fs[9]? = some .null) (h10 : fs[10]? = some .null) (h11 : fs[11]? = some (.int (nI 0))) (hN : 24 * (16 - ns) = N) (hq : 15 - ns = kq) : Rt (f_newFields K V V2 S (some e)) (fun S2 _ => EP K T S pp ns vv bb e (fun S2 pp2 bb2 fs2 => ∃ (li si : Value) (mn : Nat), fs2 = (((fs.set 3 (.int (nI (pp + 1)))).set 9 li).set 10 si).set 11 (.int (nI mn)) ∧ pp + 1 < pp2 ∧ isQk 1 (16 - ns) (isE (iv (Zz S) (Zz S2)) (ZF S2) (K.1 9) (K.1 0) N) (iv (Zz S) (Zz S2)) (ZF S2) (K.1 9) (K.1 0) li si mn (pp + 1) pp2 bb bb2) S2) := by
  have hp := h.1.2.1; have hT := h.1.2.2.1
  have hez := h.2.2.2.2 e he
  have s0 : St (fun b => b = e) S S e (.inr (15, fs)) 0 0 := ⟨GR.rf, fun _ => rfl, he, hF, Nat.le_refl _, Nat.le_refl _⟩
  unfold f_newFields
  refine Rt.pi h (h.nx hk24 (by decide)) (fun S1 g1 z1 i1 => Rt.bn (name_ z1) (fun S2 rn q2 => ?_))
  obtain ⟨p2, z2, g2, u1, u2, u3⟩ := q2
  refine Rt.pv ((s0.ss g1).ss g2) z2 (by rw [hl]; decide) rfl (fun S4 s4 z4 v4 => ?_)
  have y1 : Zz S4 = Zz S := v4.2.2.1.trans (g2.2.2.2.1.trans g1.2.2.2.1)
  have y2 : Zn S4 = Zn S := v4.2.2.2.1.trans (g2.2.2.2.2.trans g1.2.2.2.2)
  have i4 : Zi S4 3 = Zi S2 3 := by rw [v4.2.2.2.2.1]
  have h55 : ∀ S9 : Sg, SS S4 S9 → RZ S9 T p2 (ns + 1) vv bb → (Zi S9 3 = 0 → ns ≠ 16 ∨ ¬ Zr S 5 p2 = 63) → Rt (f_newFields_55 K V V2 S9 (some e)) (fun S2 _ => EP K T S pp ns vv bb e (fun S2 pp2 bb2 fs2 => ∃ (li si : Value) (mn : Nat), fs2 = (((fs.set 3 (.int (nI (pp + 1)))).set 9 li).set 10 si).set 11 (.int (nI mn)) ∧ pp + 1 < pp2 ∧ isQk 1 (16 - ns) (isE (iv (Zz S) (Zz S2)) (ZF S2) (K.1 9) (K.1 0) N) (iv (Zz S) (Zz S2)) (ZF S2) (K.1 9) (K.1 0) li si mn (pp + 1) pp2 bb bb2) S2) := fun S9 g9 z9 hz9 => by
    unfold f_newFields_55
    refine Rt.bn (take_ z9 (by decide)) (fun S10 _ q10 => ?_)
    obtain ⟨p10, z10, g10, k1, k2, k3⟩ := q10
    have g410 := g9.tr g10
    have s10 := s4.ss g410
    have x1 := g410.2.2.2.1; have x2 := g410.2.2.2.2
    have hR : RD K N kq 1 S S10 e (fs.set 3 (.int rn)) 0 0 (pp + 1) (pp + 1) bb bb := RD.beg s10.2.2.1 s10.2.2.2.1 (Nat.le_refl _)
    by_cases q : Zi S10 3 = 0
    · have q9 : Zi S9 3 = 0 := g10.1.2.2.2.2.2 q
      have q4 : Zi S4 3 = 0 := g9.1.2.2.2.2.2 q9
      have q2 : Zi S2 3 = 0 := by rw [← i4]; exact q4
      have q0 : Zi S 3 = 0 := g1.1.2.2.2.2.2 (g2.1.2.2.2.2.2 q2)
      obtain ⟨u4, u5, u6⟩ := u3 q2
      obtain ⟨k4, k5⟩ := k3 q
      have hz := (hz9 q9).resolve_right (fun w => w (by rw [← k4, g9.1.2.1.1, v4.2.2.2.2.2.1, g2.1.2.1.1, g1.1.2.1.1]))
      have := hd2 q0
      exact nf63 hV (hb q0) hd ⟨by omega, by omega⟩ r1 r2 hl h9 h10 h11 hN hq u6 bigN (n := 0) (cp := 0) (q0 := pp + 1) (cm := 1) (by decide) (fun _ => by show T + 1 ≤ p10 + 1000000000000; omega) hR s10.1 z10 (by omega) (by omega) (by omega) (by omega) (fun _ => ⟨hb q0, by omega, Or.inr ⟨by decide, rfl, by omega⟩⟩)
    · obtain ⟨m, em, _⟩ := bigN_gt (n := 0) (by decide)
      rw [em]
      unfold f_newFields_63
      exact Rt.be (ok_0 q) (Rt.ip rfl (nf111 hl h9 h10 h11 (cm := 0) hR s10.1 z10 (by omega) (by omega) (by omega) (fun w => absurd w q) (fun w => absurd w q)))
  have h45 : (Zi S4 3 = 0 → ¬ Zr S 5 p2 = 63) → Rt (f_newFields_45 K V V2 S4 (some e)) (fun S2 _ => EP K T S pp ns vv bb e (fun S2 pp2 bb2 fs2 => ∃ (li si : Value) (mn : Nat), fs2 = (((fs.set 3 (.int (nI (pp + 1)))).set 9 li).set 10 si).set 11 (.int (nI mn)) ∧ pp + 1 < pp2 ∧ isQk 1 (16 - ns) (isE (iv (Zz S) (Zz S2)) (ZF S2) (K.1 9) (K.1 0) N) (iv (Zz S) (Zz S2)) (ZF S2) (K.1 9) (K.1 0) li si mn (pp + 1) pp2 bb bb2) S2) := fun hk => by
    unfold f_newFields_45
    exact Rt.ni z4 (fun S9 g9 z9 i9 => h55 S9 g9 z9 (fun q => Or.inr (hk (by rw [← i9]; exact q))))
  have f4 : Zr S4 5 = Zr S 5 := by rw [s4.1.2.1.1]
  refine Rt.ok (fun q => Rt.is z4 (fun hk => ?_) (fun hk => h45 (fun _ => by rw [← f4]; exact hk))) (fun q => h45 (fun w => absurd w q))
  rw [z4.1.1]
  have hT4 := z4.1.2.1
  refine Rt.bn (enter_ z4 (by omega)) (fun S9 _ q9 => ?_)
  exact h55 S9 q9.2.1 q9.1 (fun q => Or.inl (q9.2.2 q))
end NFL
