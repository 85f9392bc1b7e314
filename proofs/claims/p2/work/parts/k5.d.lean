section TIT
variable {K : Ky} {T e pp vv bb : Nat} {S : Sg} {nm : Int32}
/-- the fields of a struct -/
theorem tiS (hs : Zz S = e + 2) (r1 : Zz S + 8 * (T - pp) + 30 ≤ K.2.1) (r2 : Zn S + 120 * (T - pp) + 700 ≤ K.2.2) : ∀ (m : Nat) {S1 : Sg} {p1 n q0 : Nat} {mo : Int32}, 1 ≤ m → (mo ≠ 0 ∨ 1 ≤ n) → (Zi S1 3 = 0 → T + 1 ≤ p1 + m) → FI K (Zr S 5) S S1 e (e + 2) pp n p1 q0 (itV pp nm 10 n 0 (e + 1) (.ref (e + 2)) (.ref (e + 3)) .null .null .null .null .null .null 0) → (e + 3 ∈ ZL S1 ∧ ZF S1 (e + 3) = .inl (K.1 4, 13, .inr (.inr (.inr (.inr (fun _ => none)))))) → GR (fun b => b = e ∨ b = e + 1) S S1 → RZ S1 T p1 0 vv bb → pp < p1 → Zz S1 ≤ Zz S + 4 + 2 * (p1 - pp) → Zn S1 ≤ Zn S + 40 + 10 * (p1 - pp) → (Zi S1 3 = 0 → nm = nI (pp + 1) ∧ pp + 3 ≤ p1 ∧ Zz S1 ≤ Zz S + 2 + 2 * (p1 - pp) ∧ Zn S1 ≤ Zn S + 26 + 10 * (p1 - pp)) → Rt (f_typeItem_120 K m S1 (some e) mo) (fun S2 _ => ItP K T S pp e S2)
  | 0, _, _, _, _, _, h, _, _, _, _, _, _, _, _, _, _ => absurd h (by omega)
  | m + 1, S1, p1, n, q0, mo, _, hmo, hm, hI, m3, hg, z1, hp, k1, k2, hgd => by
    have hT1 := z1.1.2.1; have hT := z1.1.2.2.1
    have hI' := hI
    obtain ⟨f, g, L, ⟨h1, h2, h3, h4, h5, h6⟩, ⟨h7, h8⟩, ⟨h9, h10, h11, h12⟩, h13, h14⟩ := hI'
    have hz := z1.2.2.2.2
    have h163 : (Zi S1 3 = 0 → 1 ≤ n) → Rt (f_typeItem_163 K S1) (fun S2 _ => ItP K T S pp e S2) := fun hn1 => by
      unfold f_typeItem_163
      refine Rt.bn (take_ z1 (by decide)) (fun S2 _ q2 => Rt.rt ?_)
      obtain ⟨p2, z2, g2, w1, w2, w3⟩ := q2
      have y1 := g2.2.2.2.1; have y2 := g2.2.2.2.2
      refine ⟨p2, 0, vv, bb, _, z2, hg.n g2.1, by omega, by omega, by omega, ⟨g2.1.in h1, by rw [g2.2.1]; exact h2⟩, fun q => ?_⟩
      have q1 := g2.1.2.2.2.2.2 q
      obtain ⟨c1, c2, c3, c4⟩ := hgd q1
      obtain ⟨d1, d2, d3, d4⟩ := h14 q1
      have w4 := (w3 q).2
      subst c1
      have hm9 : ∀ a : Nat, a ∈ ZL S1 → e ≤ a → a ∈ iv e (Zz S2) := fun a k1 k2 => iv_m.mpr ⟨k2, by have := hz a k1; omega⟩
      have hxL : exS L (ZF S1) (iv e (Zz S2)) (ZF S2) := fun a ha => ⟨iv_m.mpr ⟨by have := (h13 a ha).1; omega, by have := (h13 a ha).2; omega⟩, by rw [g2.2.1]⟩
      refine ⟨by omega, rfl, by omega, by omega, p2, hm9 e h1 (Nat.le_refl _), by omega, Nat.le_refl _, n, e + 1, g, hm9 _ h7 (by omega), by rw [g2.2.1]; exact h8, d1, fun i hi => by obtain ⟨s, u1, u2, u3⟩ := d2 i hi; exact ⟨s, u1, u2, by omega⟩, Or.inl ⟨e + 2, e + 3, q0, f, by rw [g2.2.1]; exact h2, ⟨rfl, hn1 q1⟩, hm9 _ h9 (by omega), hm9 _ m3.1 (by omega), by rw [g2.2.1]; exact h10, by rw [g2.2.1]; exact m3.2, by omega, chT_im hxL (fun _ _ => rfl) d3⟩⟩
    unfold f_typeItem_120
    refine Rt.ok (fun q1 => Rt.it (fun w => h163 (fun _ => hmo.resolve_left (fun z => z w))) (fun _ => ?_)) (fun z => h163 (fun q => absurd q z))
    have hm1 := hm q1
    obtain ⟨c1, c2, c3, c4⟩ := hgd q1
    refine Rt.bd (oI_mk (v := 10) h1 h2 rfl) (Rt.ip rfl ?_)
    refine Rt.bn (fld_ hs hI hg.2.1.1 hg.2.2.2.2.1.1 z1 q1 (by omega) hp (by omega) (by omega)) (fun S2 _ q2 => ?_)
    obtain ⟨p2, q2', w1, z2, g2, w2, w3, w4, w5⟩ := q2
    unfold f_typeItem_153
    refine Rt.bn (takes_ z2 (by decide)) (fun S4 r4 q4 => ?_)
    obtain ⟨p4, z4, g4, i4, q4⟩ := q4
    have hp4 : p2 ≤ p4 := by rcases q4 with ⟨_, w, _⟩ | ⟨_, w, _⟩ <;> omega
    have y1 := g4.2.2.2.1; have y2 := g4.2.2.2.2
    have hI4 : FI K (Zr S 5) S S4 e (e + 2) pp (n + 1) p4 q2' (itV pp nm 10 (n + 1) 0 (e + 1) (.ref (e + 2)) (.ref (e + 3)) .null .null .null .null .null .null 0) := by
      obtain ⟨f, g, L, ⟨h1, h2, h3, h4, h5, h6⟩, ⟨h7, h8⟩, ⟨h9, h10, h11, h12⟩, h13, h14⟩ := w1
      refine ⟨f, g, L, ⟨g4.1.in h1, by rw [g4.2.1]; exact h2, rfl, rfl, rfl, rfl⟩, ⟨g4.1.in h7, by rw [g4.2.1]; exact h8⟩, ⟨g4.1.in h9, by rw [g4.2.1]; exact h10, h11, h12⟩, by rw [g4.2.2.2.1]; exact h13, fun q => ?_⟩
      obtain ⟨d1, d2, d3, d4⟩ := h14 (g4.1.2.2.2.2.2 q)
      exact ⟨d1, fun i hi => by obtain ⟨s, u1, u2, u3⟩ := d2 i hi; exact ⟨s, u1, u2, by omega⟩, by rw [g4.2.1]; exact d3, by omega⟩
    have hx : ZF S2 (e + 3) = ZF S1 (e + 3) := g2.2.2.1 _ (hz _ m3.1) (fun w => by rcases w with w | w | w <;> omega)
    refine tiS hs r1 r2 m (by omega) (Or.inr (by omega)) (fun q => ?_) hI4 ⟨g4.1.in (g2.in m3.1), by rw [g4.2.1, hx]; exact m3.2⟩ ((hg.tr g2 (fun b hb q => by rcases q with q | q | q; exact Or.inl q; exact Or.inr q; omega)).n g4.1) z4 (by omega) (by omega) (by omega) (fun q => ?_)
    · have := w5 (g4.1.2.2.2.2.2 q); omega
    · have := w5 (g4.1.2.2.2.2.2 q)
      exact ⟨c1, by omega, by omega, by omega⟩
/-- the variants of an enum -/
theorem tiE (hs : Zz S = e + 2) (r1 : Zz S + 8 * (T - pp) + 30 ≤ K.2.1) (r2 : Zn S + 120 * (T - pp) + 700 ≤ K.2.2) : ∀ (m : Nat) {S1 : Sg} {p1 n q0 : Nat} {mo : Int32}, 1 ≤ m → (mo ≠ 0 ∨ 1 ≤ n) → (Zi S1 3 = 0 → T + 1 ≤ p1 + m) → EV K (Zr S 5) S S1 e (e + 2) pp n p1 q0 (itV pp nm 11 n 0 (e + 1) .null .null (.ref (e + 2)) .null .null .null .null .null 0) → GR (fun b => b = e ∨ b = e + 1) S S1 → RZ S1 T p1 0 vv bb → pp < p1 → Zz S1 ≤ Zz S + 6 + 2 * (p1 - pp) → Zn S1 ≤ Zn S + 60 + 30 * (p1 - pp) → (Zi S1 3 = 0 → nm = nI (pp + 1) ∧ pp + 3 ≤ p1 ∧ Zz S1 ≤ Zz S + 1 + 2 * (p1 - pp) ∧ Zn S1 ≤ Zn S + 13 + 30 * (p1 - pp)) → Rt (f_typeItem_120 K m S1 (some e) mo) (fun S2 _ => ItP K T S pp e S2)
  | 0, _, _, _, _, _, h, _, _, _, _, _, _, _, _, _ => absurd h (by omega)
  | m + 1, S1, p1, n, q0, mo, _, hmo, hm, hI, hg, z1, hp, k1, k2, hgd => by
    have hT1 := z1.1.2.1; have hT := z1.1.2.2.1
    have hI' := hI
    obtain ⟨f, g, L, ⟨h1, h2, h3, h4, h5, h6⟩, ⟨h7, h8⟩, ⟨h9, h10, h11, h12⟩, h13, h14⟩ := hI'
    have hz := z1.2.2.2.2
    have h163 : (Zi S1 3 = 0 → 1 ≤ n) → Rt (f_typeItem_163 K S1) (fun S2 _ => ItP K T S pp e S2) := fun hn1 => by
      unfold f_typeItem_163
      refine Rt.bn (take_ z1 (by decide)) (fun S2 _ q2 => Rt.rt ?_)
      obtain ⟨p2, z2, g2, w1, w2, w3⟩ := q2
      have y1 := g2.2.2.2.1; have y2 := g2.2.2.2.2
      refine ⟨p2, 0, vv, bb, _, z2, hg.n g2.1, by omega, by omega, by omega, ⟨g2.1.in h1, by rw [g2.2.1]; exact h2⟩, fun q => ?_⟩
      have q1 := g2.1.2.2.2.2.2 q
      obtain ⟨c1, c2, c3, c4⟩ := hgd q1
      obtain ⟨d1, d2, d3, d4⟩ := h14 q1
      have w4 := (w3 q).2
      subst c1
      have hm9 : ∀ a : Nat, a ∈ ZL S1 → e ≤ a → a ∈ iv e (Zz S2) := fun a k1 k2 => iv_m.mpr ⟨k2, by have := hz a k1; omega⟩
      have hxL : exS L (ZF S1) (iv e (Zz S2)) (ZF S2) := fun a ha => ⟨iv_m.mpr ⟨by have := (h13 a ha).1; omega, by have := (h13 a ha).2; omega⟩, by rw [g2.2.1]⟩
      refine ⟨by omega, rfl, by omega, by omega, p2, hm9 e h1 (Nat.le_refl _), by omega, Nat.le_refl _, n, e + 1, g, hm9 _ h7 (by omega), by rw [g2.2.1]; exact h8, d1, fun i hi => by obtain ⟨s, u1, u2, u3⟩ := d2 i hi; exact ⟨s, u1, u2, by omega⟩, Or.inr (Or.inl ⟨e + 2, q0, f, by rw [g2.2.1]; exact h2, ⟨rfl, hn1 q1⟩, hm9 _ h9 (by omega), by rw [g2.2.1]; exact h10, by omega, chV_im hxL (fun _ _ => rfl) d3⟩)⟩
    unfold f_typeItem_120
    refine Rt.ok (fun q1 => Rt.it (fun w => h163 (fun _ => hmo.resolve_left (fun z => z w))) (fun _ => ?_)) (fun z => h163 (fun q => absurd q z))
    have hm1 := hm q1
    obtain ⟨c1, c2, c3, c4⟩ := hgd q1
    refine Rt.bd (oI_mk (v := 11) h1 h2 rfl) (Rt.iq (by decide) ?_)
    refine Rt.bn (vrt_ hs hI hg.2.1.1 hg.2.2.2.2.1.1 z1 q1 (by omega) hp (by omega) (by omega)) (fun S2 _ q2 => ?_)
    obtain ⟨p2, q2', w1, z2, g2, w2, w3, w4, w5⟩ := q2
    unfold f_typeItem_153
    refine Rt.bn (takes_ z2 (by decide)) (fun S4 r4 q4 => ?_)
    obtain ⟨p4, z4, g4, i4, q4⟩ := q4
    have hp4 : p2 ≤ p4 := by rcases q4 with ⟨_, w, _⟩ | ⟨_, w, _⟩ <;> omega
    have y1 := g4.2.2.2.1; have y2 := g4.2.2.2.2
    have hI4 : EV K (Zr S 5) S S4 e (e + 2) pp (n + 1) p4 q2' (itV pp nm 11 (n + 1) 0 (e + 1) .null .null (.ref (e + 2)) .null .null .null .null .null 0) := by
      obtain ⟨f, g, L, ⟨h1, h2, h3, h4, h5, h6⟩, ⟨h7, h8⟩, ⟨h9, h10, h11, h12⟩, h13, h14⟩ := w1
      refine ⟨f, g, L, ⟨g4.1.in h1, by rw [g4.2.1]; exact h2, rfl, rfl, rfl, rfl⟩, ⟨g4.1.in h7, by rw [g4.2.1]; exact h8⟩, ⟨g4.1.in h9, by rw [g4.2.1]; exact h10, h11, h12⟩, by rw [g4.2.2.2.1]; exact h13, fun q => ?_⟩
      obtain ⟨d1, d2, d3, d4⟩ := h14 (g4.1.2.2.2.2.2 q)
      exact ⟨d1, fun i hi => by obtain ⟨s, u1, u2, u3⟩ := d2 i hi; exact ⟨s, u1, u2, by omega⟩, by rw [g4.2.1]; exact d3, by omega⟩
    refine tiE hs r1 r2 m (by omega) (Or.inr (by omega)) (fun q => ?_) hI4 ((hg.tr g2 (fun b hb q => by rcases q with q | q | q; exact Or.inl q; exact Or.inr q; omega)).n g4.1) z4 (by omega) (by omega) (by omega) (fun q => ?_)
    · have := w5 (g4.1.2.2.2.2.2 q); omega
    · have := w5 (g4.1.2.2.2.2.2 q)
      exact ⟨c1, by omega, by omega, by omega⟩
end TIT
