/-- a function's head, as far as it was read -/
def FB (K : Ky) (S S1 : Sg) (e pp n p1 q0 lv : Nat) (nm : Int32) : Prop := FI K (Zr S 5) S S1 e (e + 2) pp n p1 q0 (itV pp nm 12 n lv (e + 1) (.ref (e + 2)) (.ref (e + 3)) .null (.ref (e + 5)) (.ref (e + 6)) .null .null (.ref (e + 4)) 0) ∧ GR (fun b => b = e ∨ b = e + 1) S S1 ∧ (e + 3 ∈ ZL S1 ∧ ZF S1 (e + 3) = .inl (K.1 4, 13, .inr (.inr (.inr (.inr (fun _ => none)))))) ∧ (e + 4 ∈ ZL S1 ∧ ZF S1 (e + 4) = .inl (K.1 5, 13, .inr (.inr (.inr (.inr (fun _ => none)))))) ∧ (e + 6 ∈ ZL S1 ∧ ZF S1 (e + 6) = .inl (K.1 0, 13, .inl (fun _ => 0))) ∧ (∃ gl : Nat → Int32, e + 5 ∈ ZL S1 ∧ ZF S1 (e + 5) = .inl (K.1 0, 8, .inl gl) ∧ (Zi S1 3 = 0 → nm = nI (pp + 1) ∧ pp + 2 ≤ p1 ∧ lv ≤ 8 ∧ ∀ i : Nat, i < lv → ∃ s : Nat, gl i = nI s ∧ pp < s ∧ s < p1))
theorem FB.ss {K : Ky} {S S1 S2 : Sg} {e pp n p1 p2 q0 lv : Nat} {nm : Int32} (h : FB K S S1 e pp n p1 q0 lv nm) (g : SS S1 S2) (hp : p1 ≤ p2) : FB K S S2 e pp n p2 q0 lv nm := by
  obtain ⟨⟨f, g0, L, ⟨h1, h2, h3, h4, h5, h6⟩, ⟨h7, h8⟩, ⟨h9, h10, h11, h12⟩, h13, h14⟩, k1, k2, k3, k4, gl, k5, k6, k7⟩ := h
  refine ⟨⟨f, g0, L, ⟨by rw [g.2.2.1]; exact h1, by rw [g.2.1]; exact h2, h3, h4, h5, h6⟩, ⟨by rw [g.2.2.1]; exact h7, by rw [g.2.1]; exact h8⟩, ⟨by rw [g.2.2.1]; exact h9, by rw [g.2.1]; exact h10, h11, h12⟩, by rw [g.2.2.2.1]; exact h13, fun q => ?_⟩, k1.n g.1, ⟨by rw [g.2.2.1]; exact k2.1, by rw [g.2.1]; exact k2.2⟩, ⟨by rw [g.2.2.1]; exact k3.1, by rw [g.2.1]; exact k3.2⟩, ⟨by rw [g.2.2.1]; exact k4.1, by rw [g.2.1]; exact k4.2⟩, gl, by rw [g.2.2.1]; exact k5, by rw [g.2.1]; exact k6, fun q => ?_⟩
  · obtain ⟨c1, c2, c3, c4⟩ := h14 (g.1.2.2.2.2.2 q)
    exact ⟨c1, fun i hi => by obtain ⟨s, d1, d2, d3⟩ := c2 i hi; exact ⟨s, d1, d2, by omega⟩, by rw [g.2.1]; exact c3, by omega⟩
  · obtain ⟨c1, c2, c3, c4⟩ := k7 (g.1.2.2.2.2.2 q)
    exact ⟨c1, by omega, c3, fun i hi => by obtain ⟨s, d1, d2, d3⟩ := c4 i hi; exact ⟨s, d1, d2, by omega⟩⟩
/-- an item in the store -/
def isIt (K : Ky) (L : List Nat) (F : Nat → va_E) (fk : Nat → Int32) (a p m q : Nat) : Prop := isI L F fk (K.1 9) (K.1 0) (K.1 11) (K.1 10) (K.1 7) (K.1 5) (K.1 12) (K.1 4) (K.1 13) a p m q
/-- what the reading of an item gives -/
def ItP (K : Ky) (T : Nat) (S : Sg) (pp e : Nat) (S2 : Sg) : Prop := ∃ (p2 ns2 vv2 bb2 : Nat) (fs2 : List Value), RZ S2 T p2 ns2 vv2 bb2 ∧ GR (fun b => b = e ∨ b = e + 1) S S2 ∧ pp ≤ p2 ∧ Zz S2 ≤ Zz S + 8 * (p2 - pp) + 12 ∧ Zn S2 ≤ Zn S + 120 * (p2 - pp) + 150 ∧ (e ∈ ZL S2 ∧ ZF S2 e = .inr (16, fs2)) ∧ (Zi S2 3 = 0 → pp < p2 ∧ ns2 = 0 ∧ Zz S2 + 2 ≤ Zz S + 8 * (p2 - pp) ∧ Zn S2 + 35 ≤ Zn S + 120 * (p2 - pp) ∧ ∃ m : Nat, isIt K (iv e (Zz S2)) (ZF S2) (Zr S 5) e pp m p2)
section FNB
variable {K : Ky} {T e pp : Nat} {S : Sg} {nm : Int32}
/-- the body of a function -/
theorem fn194 (hs : Zz S = e + 2) (r1 : Zz S + 8 * (T - pp) + 30 ≤ K.2.1) (r2 : Zn S + 120 * (T - pp) + 700 ≤ K.2.2) {S1 : Sg} {p1 n q0 lv vv : Nat} {rs : Value} (hFI : FI K (Zr S 5) S S1 e (e + 2) pp n p1 q0 (itV pp nm 12 n lv (e + 1) (.ref (e + 2)) (.ref (e + 3)) .null (.ref (e + 5)) (.ref (e + 6)) rs .null (.ref (e + 4)) 0)) (hg : GR (fun b => b = e ∨ b = e + 1) S S1) (m3 : e + 3 ∈ ZL S1 ∧ ZF S1 (e + 3) = .inl (K.1 4, 13, .inr (.inr (.inr (.inr (fun _ => none)))))) (m4 : e + 4 ∈ ZL S1 ∧ ZF S1 (e + 4) = .inl (K.1 5, 13, .inr (.inr (.inr (.inr (fun _ => none)))))) (m6 : e + 6 ∈ ZL S1 ∧ ZF S1 (e + 6) = .inl (K.1 0, 13, .inl (fun _ => 0))) {gl : Nat → Int32} (m5 : e + 5 ∈ ZL S1 ∧ ZF S1 (e + 5) = .inl (K.1 0, 8, .inl gl)) (z1 : RZ S1 T p1 0 vv 0) (hp : pp < p1) (k1 : Zz S1 ≤ Zz S + 8 + 2 * (p1 - pp)) (k2 : Zn S1 ≤ Zn S + 75 + 10 * (p1 - pp)) (hgd : Zi S1 3 = 0 → vv = n ∧ nm = nI (pp + 1) ∧ pp + 4 ≤ p1 ∧ lv ≤ 8 ∧ (∀ i : Nat, i < lv → ∃ s : Nat, gl i = nI s ∧ pp < s ∧ s < p1) ∧ Zz S1 ≤ Zz S + 6 + 2 * (p1 - pp) ∧ Zn S1 ≤ Zn S + 65 + 10 * (p1 - pp) ∧ (rs = .null ∨ ∃ t p' q2 : Nat, rs = .ref t ∧ q0 ≤ p' ∧ q2 ≤ p1 ∧ isT (iv (e + 2) (Zz S1)) (ZF S1) (Zr S 5) 17 t p' q2)) : Rt (f_function_194 K S1 (some e)) (fun S2 _ => ItP K T S pp e S2) := by
  obtain ⟨f, g0, L, ⟨h1, h2, h3, h4, h5, h6⟩, ⟨h7, h8⟩, ⟨h9, h10, h11, h12⟩, h13, h14⟩ := hFI
  have hT1 := z1.1.2.1; have hT := z1.1.2.2.1
  have h01 := hg.2.2.2.2.1.1
  unfold f_function_194
  refine Rt.bn (blocks_ 20 S1 p1 0 vv 0 z1 (fun q => ⟨by omega, by have := (hgd q).1; have := (h14 q).1; omega⟩) (by omega) (fun _ => ⟨by omega, by omega⟩) (by omega) (by omega)) (fun S2 r2' q2 => ?_)
  obtain ⟨p2, v2, b2, bl, e2, z2, g2, w1, w2, w3, w4, w5⟩ := q2
  subst e2
  have hz := z1.2.2.2.2
  have s2 : St (fun b => b = e ∨ b = e + 1) S S2 e (.inr (16, itV pp nm 12 n lv (e + 1) (.ref (e + 2)) (.ref (e + 3)) .null (.ref (e + 5)) (.ref (e + 6)) rs .null (.ref (e + 4)) 0)) (8 + 2 * (p1 - pp) + (8 * (p2 - p1) + 2)) (75 + 10 * (p1 - pp) + (120 * (p2 - p1) + 10)) := ⟨hg.n g2, fun _ => Or.inl rfl, g2.in h1, (g2.2.2.1 e (hz e h1) (fun q => q)).trans h2, by omega, by omega⟩
  refine Rt.pv s2 z2 (Nat.le_of_ble_eq_true rfl) (show va_rf (some bl) = .ref bl from rfl) (fun S3 s3 z3 u3 => ?_)
  refine Rt.pv s3 z3 (Nat.le_of_ble_eq_true rfl) (show Value.int (Zi S3 16) = .int (nI v2) by rw [z3.2.2.1]) (fun S4 s4 z4 u4 => Rt.rt ?_)
  have s4 : St (fun b => b = e ∨ b = e + 1) S S4 e (.inr (16, itV pp nm 12 n lv (e + 1) (.ref (e + 2)) (.ref (e + 3)) .null (.ref (e + 5)) (.ref (e + 6)) rs (.ref bl) (.ref (e + 4)) v2)) (8 + 2 * (p1 - pp) + (8 * (p2 - p1) + 2)) (75 + 10 * (p1 - pp) + (120 * (p2 - p1) + 10)) := s4
  have x1 := s4.2.2.2.2.1; have x2 := s4.2.2.2.2.2
  have y1 : Zz S4 = Zz S2 := u4.2.2.1.trans u3.2.2.1
  have y2 : Zn S4 = Zn S2 := u4.2.2.2.1.trans u3.2.2.2.1
  refine ⟨p2, 0, v2, b2, _, z4, s4.1, by omega, by omega, by omega, ⟨s4.2.2.1, s4.2.2.2.1⟩, fun q => ?_⟩
  have q2 : Zi S2 3 = 0 := by rw [← u3.2.2.2.2.1, ← u4.2.2.2.2.1]; exact q
  have q1 := g2.2.2.2.2.2 q2
  obtain ⟨c1, c2, c3, c4, c5, c6, c7, c8⟩ := hgd q1
  obtain ⟨d1, d2, d3, d4⟩ := h14 q1
  obtain ⟨a1, a2, a3, a4, a5⟩ := w5 q2
  rw [show Zr S1 5 = Zr S 5 by rw [hg.2.1.1]] at a5
  have hlt := (isN_lt a5).2
  subst c1 c2
  have hF1 : ∀ a : Nat, a ≠ e → a < Zz S1 → ZF S4 a = ZF S1 a := fun a k1 k2 => by rw [u4.1 a k1, u3.1 a k1, g2.2.2.1 a k2 (fun q => q)]
  have hF2 : ∀ a : Nat, a ≠ e → ZF S4 a = ZF S2 a := fun a k1 => by rw [u4.1 a k1, u3.1 a k1]
  have h12' := g2.2.2.2.2.1.1
  have hm : ∀ a : Nat, a ∈ ZL S1 → e ≤ a → a ∈ iv e (Zz S4) := fun a k1 k2 => iv_m.mpr ⟨k2, by have := hz a k1; omega⟩
  have hxL : exS L (ZF S1) (iv e (Zz S4)) (ZF S4) := fun a ha => ⟨iv_m.mpr ⟨by have := (h13 a ha).1; omega, by have := (h13 a ha).2; omega⟩, hF1 a (by have := (h13 a ha).1; omega) (h13 a ha).2⟩
  have hxI : exS (iv (e + 2) (Zz S1)) (ZF S1) (iv e (Zz S4)) (ZF S4) := iv_ex (by omega) (by omega) (fun a k1 k2 => hF1 a (by omega) k2)
  refine ⟨by omega, rfl, by omega, by omega, p1, hm e h1 (Nat.le_refl _), by omega, by omega, vv, e + 1, g0, hm _ h7 (by omega), (hF1 _ (by omega) (hz _ h7)).trans h8, d1, d2, Or.inr (Or.inr ⟨lv, e + 2, e + 3, e + 4, e + 5, e + 6, q0, v2, b2, bl, rs, f, gl, s4.2.2.2.1, hm _ h9 (by omega), hm _ m3.1 (by omega), hm _ m4.1 (by omega), hm _ m5.1 (by omega), hm _ m6.1 (by omega), (hF1 _ (by omega) (hz _ h9)).trans h10, (hF1 _ (by omega) (hz _ m3.1)).trans m3.2, (hF1 _ (by omega) (hz _ m4.1)).trans m4.2, (hF1 _ (by omega) (hz _ m5.1)).trans m5.2, (hF1 _ (by omega) (hz _ m6.1)).trans m6.2, c4, c5, chT_im hxL (fun _ _ => rfl) d3, d4, ?_, a4, a3, isS_im (iv_ex (by omega) (by omega) (fun a k1 k2 => hF2 a (by omega))) _ (by omega) a5⟩)⟩
  rcases c8 with c8 | ⟨t, p', q', k1, k2, k3, k4⟩
  · exact Or.inl c8
  · exact Or.inr ⟨t, p', q', k1, k2, k3, isT_ex hxI k4⟩
end FNB
