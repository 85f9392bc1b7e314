section FNC
variable {K : Ky} {T e pp : Nat} {S : Sg} {nm : Int32}
theorem fn177 (hs : Zz S = e + 2) (r1 : Zz S + 8 * (T - pp) + 30 ≤ K.2.1) (r2 : Zn S + 120 * (T - pp) + 700 ≤ K.2.2) {S1 : Sg} {p1 n q0 lv vv : Nat} (hB : FB K S S1 e pp n p1 q0 lv nm) (z1 : RZ S1 T p1 0 vv 0) (hp : pp < p1) (k1 : Zz S1 ≤ Zz S + 7 + 2 * (p1 - pp)) (k2 : Zn S1 ≤ Zn S + 70 + 10 * (p1 - pp)) (hgd : Zi S1 3 = 0 → vv = n ∧ pp + 4 ≤ p1 ∧ Zz S1 ≤ Zz S + 5 + 2 * (p1 - pp) ∧ Zn S1 ≤ Zn S + 60 + 10 * (p1 - pp)) : Rt (f_function_177 K S1 (some e)) (fun S2 _ => ItP K T S pp e S2) := by
  have hT1 := z1.1.2.1; have hT := z1.1.2.2.1
  unfold f_function_177
  refine Rt.bn (takes_ z1 (by decide)) (fun S2 r2' q2 => ?_)
  obtain ⟨p2, z2, g2, i2, q2⟩ := q2
  have hp2 : p1 ≤ p2 := by rcases q2 with ⟨_, w, _⟩ | ⟨_, w, _⟩ <;> omega
  have y1 := g2.2.2.2.1; have y2 := g2.2.2.2.2
  obtain ⟨hFI, h2, m3, m4, m6, gl, m5, f5, h7⟩ := hB.ss g2 hp2
  have hgd2 : Zi S2 3 = 0 → vv = n ∧ pp + 4 ≤ p1 ∧ Zz S2 ≤ Zz S + 5 + 2 * (p1 - pp) ∧ Zn S2 ≤ Zn S + 60 + 10 * (p1 - pp) := fun q => by have := hgd (by rw [← i2]; exact q); omega
  rcases q2 with ⟨u1, u2, _⟩ | ⟨u1, u2, u3, _⟩
  · subst u1 u2
    refine Rt.ip rfl (fn194 hs r1 r2 hFI h2 m3 m4 m6 ⟨m5, f5⟩ z2 (by omega) (by omega) (by omega) (fun q => ?_))
    obtain ⟨c1, c2, c3, c4⟩ := hgd2 q
    obtain ⟨d1, d2, d3, d4⟩ := h7 q
    exact ⟨c1, d1, by omega, d3, d4, by omega, by omega, Or.inl rfl⟩
  · subst u1 u2
    have hT2 := z2.1.2.1
    refine Rt.iq (by decide) (Rt.bn (wr20 z2 (fun _ => by omega) (by omega) (by omega)) (fun S3 r3 q3 => ?_))
    obtain ⟨p3, t, e3, z3, g3, w1, w2, w3, w4, w5⟩ := q3
    subst e3
    obtain ⟨f, g0, L, ⟨h1, h2', h3, h4, h5, h6⟩, ⟨h7', h8⟩, ⟨h9, h10, h11, h12⟩, h13, h14⟩ := hFI
    have hz := z2.2.2.2.2
    have h23 := g3.2.2.2.2.1.1
    have hx : ∀ a : Nat, a < Zz S2 → ZF S3 a = ZF S2 a := fun a ha => g3.2.2.1 a ha (fun q => q)
    have s3 : St (fun b => b = e ∨ b = e + 1) S S3 e (.inr (16, itV pp nm 12 n lv (e + 1) (.ref (e + 2)) (.ref (e + 3)) .null (.ref (e + 5)) (.ref (e + 6)) .null .null (.ref (e + 4)) 0)) (7 + 2 * (p1 - pp) + (p3 - (p1 + 1) + 1)) (70 + 10 * (p1 - pp) + (5 * (p3 - (p1 + 1)) + 5)) := ⟨h2.n g3, fun _ => Or.inl rfl, g3.in h1, (hx e (hz e h1)).trans h2', by omega, by omega⟩
    refine Rt.pv s3 z3 (Nat.le_of_ble_eq_true rfl) (show va_rf (some t) = .ref t from rfl) (fun S4 s4 z4 u4 => ?_)
    have y3 := u4.2.2.1; have y4 := u4.2.2.2.1
    have hx4 : ∀ a : Nat, a ≠ e → a < Zz S2 → ZF S4 a = ZF S2 a := fun a e1 e2 => (u4.1 a e1).trans (hx a e2)
    have mm : ∀ a : Nat, a ∈ ZL S2 → a ∈ ZL S4 := fun a ha => by rw [u4.2.1]; exact g3.in ha
    have h02 := h2.2.2.2.2.1.1
    have q43 : Zi S4 3 = 0 → Zi S3 3 = 0 := fun q => by rw [← u4.2.2.2.2.1]; exact q
    refine fn194 (rs := .ref t) (q0 := q0) hs r1 r2 ⟨f, g0, L, ⟨mm _ h1, s4.2.2.2.1, rfl, rfl, rfl, rfl⟩, ⟨mm _ h7', (hx4 _ (by omega) (hz _ h7')).trans h8⟩, ⟨mm _ h9, (hx4 _ (by omega) (hz _ h9)).trans h10, h11, h12⟩, fun a ha => ⟨(h13 a ha).1, by have := (h13 a ha).2; omega⟩, fun q => ?_⟩ s4.1 ⟨mm _ m3.1, (hx4 _ (by omega) (hz _ m3.1)).trans m3.2⟩ ⟨mm _ m4.1, (hx4 _ (by omega) (hz _ m4.1)).trans m4.2⟩ ⟨mm _ m6.1, (hx4 _ (by omega) (hz _ m6.1)).trans m6.2⟩ ⟨mm _ m5, (hx4 _ (by omega) (hz _ m5)).trans f5⟩ z4 (by omega) (by omega) (by omega) (fun q => ?_)
    · obtain ⟨c1, c2, c3, c4⟩ := h14 (g3.2.2.2.2.2 (q43 q))
      exact ⟨c1, fun i hi => by obtain ⟨s, d1, d2, d3⟩ := c2 i hi; exact ⟨s, d1, d2, by omega⟩, chT_im (fun a ha => ⟨ha, hx4 a (by have := (h13 a ha).1; omega) (h13 a ha).2⟩) (fun _ _ => rfl) c3, by omega⟩
    · have q2 := g3.2.2.2.2.2 (q43 q)
      obtain ⟨c1, c2, c3, c4⟩ := hgd2 q2
      obtain ⟨d1, d2, d3, d4⟩ := h7 q2
      obtain ⟨e1, e2, e3, e4⟩ := h14 q2
      have w6 := w5 (q43 q)
      rw [show Zr S2 5 = Zr S 5 by rw [h2.2.1.1]] at w6
      have w7 := isT_lt w6
      exact ⟨c1, d1, by omega, d3, fun i hi => by obtain ⟨s, k1, k2, k3⟩ := d4 i hi; exact ⟨s, k1, k2, by omega⟩, by omega, by omega, Or.inr ⟨t, p1 + 1, p3, rfl, by omega, Nat.le_refl _, isT_ex (iv_ex (by omega) (by omega) (fun a k1 k2 => u4.1 a (by omega))) (isT_le w6 (by omega))⟩⟩
/-- the parameters -/
theorem fn135 (hs : Zz S = e + 2) (r1 : Zz S + 8 * (T - pp) + 30 ≤ K.2.1) (r2 : Zn S + 120 * (T - pp) + 700 ≤ K.2.2) : ∀ (m : Nat) {S1 : Sg} {p1 n q0 lv vv : Nat} {mo : Int32}, 1 ≤ m → (Zi S1 3 = 0 → T + 1 ≤ p1 + m) → FB K S S1 e pp n p1 q0 lv nm → RZ S1 T p1 0 vv 0 → pp < p1 → Zz S1 ≤ Zz S + 7 + 2 * (p1 - pp) → Zn S1 ≤ Zn S + 70 + 10 * (p1 - pp) → (Zi S1 3 = 0 → vv = n ∧ pp + 3 ≤ p1 ∧ Zz S1 ≤ Zz S + 5 + 2 * (p1 - pp) ∧ Zn S1 ≤ Zn S + 60 + 10 * (p1 - pp)) → Rt (f_function_135 K m S1 (some e) mo) (fun S2 _ => ItP K T S pp e S2)
  | 0, _, _, _, _, _, _, _, h, _, _, _, _, _, _, _ => absurd h (by omega)
  | m + 1, S1, p1, n, q0, lv, vv, mo, _, hm, hB, z1, hp, k1, k2, hgd => by
    have hT1 := z1.1.2.1; have hT := z1.1.2.2.1
    have h171 : Rt (f_function_171 K S1 (some e)) (fun S2 _ => ItP K T S pp e S2) := by
      unfold f_function_171
      refine Rt.bn (take_ z1 (by decide)) (fun S2 _ q2 => ?_)
      obtain ⟨p2, z2, g2, w1, w2, w3⟩ := q2
      have y1 := g2.2.2.2.1; have y2 := g2.2.2.2.2
      refine fn177 hs r1 r2 (hB.ss g2 w1) z2 (by omega) (by omega) (by omega) (fun q => ?_)
      have c := hgd (g2.1.2.2.2.2.2 q); have := (w3 q).2
      exact ⟨c.1, by omega, by omega, by omega⟩
    unfold f_function_135
    refine Rt.ok (fun q1 => Rt.it (fun _ => h171) (fun _ => ?_)) (fun _ => h171)
    have hm1 := hm q1
    obtain ⟨c1, c2, c3, c4⟩ := hgd q1
    obtain ⟨hFI, hg, m3, m4, m6, gl, m5, f5, h7⟩ := hB
    have hz := z1.2.2.2.2
    refine Rt.bn (fld_ hs hFI hg.2.1.1 hg.2.2.2.2.1.1 z1 q1 (by omega) hp (by omega) (by omega)) (fun S2 _ q2 => ?_)
    obtain ⟨p2, q2', w1, z2, g2, w2, w3, w4, w5⟩ := q2
    have hx : ∀ a : Nat, a ≠ e → a ≠ e + 1 → a ≠ e + 2 → a < Zz S1 → ZF S2 a = ZF S1 a := fun a e1 e2 e3 e4 => g2.2.2.1 a e4 (fun w => by rcases w with w | w | w <;> contradiction)
    have hB2 : FB K S S2 e pp (n + 1) p2 q2' lv nm := ⟨w1, hg.tr g2 (fun b hb q => by rcases q with q | q | q; exact Or.inl q; exact Or.inr q; omega), ⟨g2.in m3.1, (hx _ (by omega) (by omega) (by omega) (hz _ m3.1)).trans m3.2⟩, ⟨g2.in m4.1, (hx _ (by omega) (by omega) (by omega) (hz _ m4.1)).trans m4.2⟩, ⟨g2.in m6.1, (hx _ (by omega) (by omega) (by omega) (hz _ m6.1)).trans m6.2⟩, gl, g2.in m5, (hx _ (by omega) (by omega) (by omega) (hz _ m5)).trans f5, fun q => by
      obtain ⟨d1, d2, d3, d4⟩ := h7 q1
      exact ⟨d1, by omega, d3, fun i hi => by obtain ⟨s, k1, k2, k3⟩ := d4 i hi; exact ⟨s, k1, k2, by omega⟩⟩⟩
    refine Rt.bd (v := Ui S2 16 (nI (vv + 1))) (by rw [z2.2.2.1, ← nI_1]; rfl) ?_
    have g3 : SS S2 (Ui S2 16 (nI (vv + 1))) := SS.ui (by decide)
    have z3 : RZ (Ui S2 16 (nI (vv + 1))) T p2 0 (vv + 1) 0 := z2.va
    refine Rt.bn (takes_ z3 (by decide)) (fun S4 r4 q4 => ?_)
    obtain ⟨p4, z4, g4, i4, q4⟩ := q4
    have hp4 : p2 ≤ p4 := by rcases q4 with ⟨_, w, _⟩ | ⟨_, w, _⟩ <;> omega
    have g24 := g3.tr g4
    have y1 := g24.2.2.2.1; have y2 := g24.2.2.2.2
    refine fn135 hs r1 r2 m (by omega) (fun q => ?_) (hB2.ss g24 hp4) z4 (by omega) (by omega) (by omega) (fun q => ?_)
    · have := w5 (g24.1.2.2.2.2.2 q); omega
    · have := w5 (g24.1.2.2.2.2.2 q)
      exact ⟨by omega, by omega, by omega, by omega⟩
theorem fn103 (hs : Zz S = e + 2) (r1 : Zz S + 8 * (T - pp) + 30 ≤ K.2.1) (r2 : Zn S + 120 * (T - pp) + 700 ≤ K.2.2) {S1 : Sg} {p1 q0 lv ns vv bb : Nat} (hB : FB K S S1 e pp 0 p1 q0 lv nm) (z1 : RZ S1 T p1 ns vv bb) (hp : pp < p1) (k1 : Zz S1 ≤ Zz S + 5) (k2 : Zn S1 ≤ Zn S + 60) : Rt (f_function_103 K S1 (some e)) (fun S2 _ => ItP K T S pp e S2) := by
  have hT1 := z1.1.2.1; have hT := z1.1.2.2.1
  unfold f_function_103
  refine Rt.bd (v := Ui S1 15 (nI 0)) rfl (Rt.bd (v := Ui (Ui S1 15 (nI 0)) 16 (nI 0)) rfl (Rt.bd (v := Ui (Ui (Ui S1 15 (nI 0)) 16 (nI 0)) 17 (nI 0)) rfl ?_))
  have g2 : SS S1 (Ui (Ui (Ui S1 15 (nI 0)) 16 (nI 0)) 17 (nI 0)) := ((SS.ui (by decide)).tr (SS.ui (by decide))).tr (SS.ui (by decide))
  have z2 : RZ (Ui (Ui (Ui S1 15 (nI 0)) 16 (nI 0)) 17 (nI 0)) T p1 0 0 0 := (RZ.va (RZ.ne z1)).bo
  refine Rt.bn (take_ z2 (by decide)) (fun S3 _ q3 => ?_)
  obtain ⟨p3, z3, g3, w1, w2, w3⟩ := q3
  refine Rt.bn (takes_ z3 (by decide)) (fun S4 r4 q4 => ?_)
  obtain ⟨p4, z4, g4, i4, q4⟩ := q4
  have g14 := (g2.tr g3).tr g4
  have y1 := g14.2.2.2.1; have y2 := g14.2.2.2.2
  have hp4 : p3 ≤ p4 := by rcases q4 with ⟨_, w, _⟩ | ⟨_, w, _⟩ <;> omega
  have hB4 := hB.ss g14 (p2 := p4) (by omega)
  have hgd : Zi S4 3 = 0 → p3 = p1 + 1 ∧ pp + 2 ≤ p1 := fun q => by
    have q3 := g4.1.2.2.2.2.2 q
    obtain ⟨_, _, _, _, _, gl, _, _, h7⟩ := hB
    have := h7 ((g2.tr g3).1.2.2.2.2.2 q3)
    exact ⟨(w3 q3).2, this.2.1⟩
  rcases q4 with ⟨u1, u2, _⟩ | ⟨u1, u2, _⟩
  · subst u1 u2
    refine Rt.ip rfl (fn135 hs r1 r2 bigN (by decide) (fun _ => by show T + 1 ≤ _ + 1000000000000; omega) hB4 z4 (by omega) (by omega) (by omega) (fun q => ?_))
    have := hgd q
    exact ⟨rfl, by omega, by omega, by omega⟩
  · subst u1 u2
    refine Rt.iq (by decide) (fn177 hs r1 r2 hB4 z4 (by omega) (by omega) (by omega) (fun q => ?_))
    have := hgd q
    exact ⟨rfl, by omega, by omega, by omega⟩
end FNC
