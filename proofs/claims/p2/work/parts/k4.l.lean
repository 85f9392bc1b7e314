section PLN
variable {K : Ky} {T : Nat} {S : Sg} {pp ns vv bb s : Nat}
/-- an exp, or a setting -/
theorem pln_ (h : RZ S T pp ns vv bb) (hs : Zz S = s + 1) (he : s ∈ ZL S) (hF : ZF S s = .inr (19, sxV 0 pp 0 0 0 .null .null .null .null .null .null .null 0)) (q0 : Zi S 3 = 0) (hb : bb ≤ 54) (hv : vv ≤ 40) (hn : ns ≤ 16) (r1 : Zz S + 8 * (T - pp) + 14 ≤ K.2.1) (r2 : Zn S + 120 * (T - pp) + 480 ≤ K.2.2) : Rt (f_plain K S (some s)) (fun S2 _ => SP K T S pp ns vv bb s S2) := by
  have hp := h.1.2.1; have hT := h.1.2.2.1
  have s0 : St (fun b => b = s) S S s (.inr (19, sxV 0 pp 0 0 0 .null .null .null .null .null .null .null 0)) 0 0 := ⟨GR.rf, fun _ => rfl, he, hF, Nat.le_refl _, Nat.le_refl _⟩
  have h80 : ∀ (S9 : Sg) (p9 b9 : Nat) (fs9 : List Value) (zz nn : Nat), St (fun b => b = s) S S9 s (.inr (19, fs9)) zz nn → RZ S9 T p9 ns vv b9 → (pp ≤ p9 ∧ bb ≤ b9 ∧ b9 ≤ bb + (p9 - pp)) → zz ≤ 8 * (p9 - pp) + 4 → nn ≤ 120 * (p9 - pp) + 56 → (Zi S9 3 = 0 → b9 ≤ 54 ∧ ((∃ x : Nat, fs9 = sxV 1 pp 0 0 0 .null (.ref x) .null .null .null .null .null 0 ∧ isE (iv (Zz S) (Zz S9)) (ZF S9) (K.1 9) (K.1 0) 408 16 x pp p9 bb b9) ∨ (∃ x y q1 p2 b1 : Nat, fs9 = sxV 2 pp 0 0 0 .null (.ref x) (.ref y) .null .null .null .null 0 ∧ isE (iv (Zz S) (Zz S9)) (ZF S9) (K.1 9) (K.1 0) 408 16 y pp q1 bb b1 ∧ plE (ZF S9) 408 y ∧ q1 < p2 ∧ isE (iv (Zz S) (Zz S9)) (ZF S9) (K.1 9) (K.1 0) 408 16 x p2 p9 b1 b9))) → Rt (f_plain_80 K S9) (fun S2 _ => SP K T S pp ns vv bb s S2) := fun S9 p9 b9 fs9 zz nn s9 z9 k1 k2 k3 k4 => by
    unfold f_plain_80
    refine Rt.bn (take_ z9 (by decide)) (fun S2 _ q2 => Rt.rt ?_)
    obtain ⟨p2, z2, g2, w1, w2, w3⟩ := q2
    have s2 := s9.ss g2
    have x1 := s2.2.2.2.2.1; have x2 := s2.2.2.2.2.2
    refine ⟨p2, vv, b9, _, z2, s2.le (by omega) (by omega), by omega, fun q => ?_⟩
    have q9 : Zi S9 3 = 0 := g2.1.2.2.2.2.2 q
    have w4 := (w3 q).2
    obtain ⟨c1, c2⟩ := k4 q9
    have hx9 : exS (iv (Zz S) (Zz S9)) (ZF S9) (iv s (Zz S2)) (ZF S2) := iv_ex (by omega) (by rw [g2.2.2.2.1]; exact Nat.le_refl _) (fun a _ _ => by rw [g2.2.1])
    have hm := iv_m.mpr ⟨Nat.le_refl s, z2.2.2.2.2 _ s2.2.2.1⟩
    refine ⟨by omega, by omega, c1, hv, by omega, hm, by omega, ?_⟩
    rcases c2 with ⟨x, e1, e2⟩ | ⟨x, y, q1, p3, b1, e1, e2, e3, e4, e5⟩
    · subst e1
      exact Or.inr (Or.inl ⟨1, x, pp, p9, Or.inl rfl, s2.2.2.2.1, Nat.le_refl _, by omega, isE_im hx9 _ (Nat.le_refl _) e2, rfl⟩)
    · subst e1
      exact Or.inr (Or.inr (Or.inl ⟨x, y, q1, p3, p9, b1, s2.2.2.2.1, isE_im hx9 _ (Nat.le_refl _) e2, plE_ex hx9 (isE_pw e2) e3, e4, by omega, isE_im hx9 _ (Nat.le_refl _) e5, rfl⟩))
  unfold f_plain
  refine Rt.pv s0 h (Nat.le_of_ble_eq_true rfl) rfl (fun S1 s1 z1 u1 => ?_)
  have y1 := u1.2.2.1; have y2 := u1.2.2.2.1
  have q1 : Zi S1 3 = 0 := by rw [u1.2.2.2.2.1]; exact q0
  refine Rt.bn (ex140 z1 (fun _ => hb) (fun _ => hn) (by omega) (by omega)) (fun S2 r2' q2 => ?_)
  obtain ⟨p2, b2, x, e2, z2, g2, w1, w2, w3, w4, w5⟩ := q2
  subst e2
  have hT2 := z2.1.2.1
  have s2 := s1.cl g2 (z1.2.2.2.2 _ s1.2.2.1) (z1 := 8 * (p2 - pp) + 3) (n1 := 120 * (p2 - pp) + 48) (by omega) (by omega)
  refine Rt.pv s2 z2 (Nat.le_of_ble_eq_true rfl) (show va_rf (some x) = .ref x from rfl) (fun S4 s4 z4 u4 => ?_)
  have s4 : St (fun b => b = s) S S4 s (.inr (19, sxV 1 pp 0 0 0 .null (.ref x) .null .null .null .null .null 0)) (0 + (8 * (p2 - pp) + 3)) (0 + (120 * (p2 - pp) + 48)) := s4
  have h24 := g2.2.2.2.2.1.1
  have hgd : Zi S4 3 = 0 → b2 ≤ 54 ∧ isE (iv (Zz S) (Zz S4)) (ZF S4) (K.1 9) (K.1 0) 408 16 x pp p2 bb b2 := fun q => by
    obtain ⟨c1, c2⟩ := w5 (by rw [← u4.2.2.2.2.1]; exact q)
    exact ⟨c1, isE_im (iv_ex (by omega) (by rw [u4.2.2.1]; exact Nat.le_refl _) (fun a h1 h2 => u4.1 a (by omega))) _ (Nat.le_refl _) c2⟩
  have hend : Rt (f_plain_80 K S4) (fun S2 _ => SP K T S pp ns vv bb s S2) := h80 S4 p2 b2 _ _ _ s4 z4 (by omega) (by omega) (by omega) (fun q => ⟨(hgd q).1, Or.inl ⟨x, rfl, (hgd q).2⟩⟩)
  refine Rt.ok (fun q4 => Rt.is z4 (fun hk => ?_) (fun _ => hend)) (fun _ => hend)
  obtain ⟨c1, c2⟩ := hgd q4
  have hlt := (isE_mem c2).2
  refine Rt.bd (oR_mk (v := some x) s4.2.2.1 s4.2.2.2.1 rfl) ?_
  refine Rt.bn (isp_ (fun a ha => (s4.1.2.2.2.1 a).mpr (Or.inr (iv_m.mp ha))) (isE_pw c2) (by omega)) (fun S10 r10 q10 => ?_)
  obtain ⟨e10, q10⟩ := q10
  rw [e10]
  rcases q10 with ⟨er, hpl⟩ | ⟨er, _⟩
  · subst er
    refine Rt.iq (by decide) (Rt.pi z4 (z4.nx hk (by decide)) (fun S12 g12 z12 i12 => ?_))
    have s12 := s4.ss g12
    refine Rt.pv s12 z12 (Nat.le_of_ble_eq_true rfl) rfl (fun S13 s13 z13 u13 => ?_)
    refine Rt.bd (oR_mk (v := some x) s13.2.2.1 s13.2.2.2.1 rfl) ?_
    refine Rt.pv s13 z13 (Nat.le_of_ble_eq_true rfl) (show va_rf (some x) = .ref x from rfl) (fun S15 s15 z15 u15 => ?_)
    have x1 := s15.2.2.2.2.1; have x2 := s15.2.2.2.2.2
    have h415 : ∀ a : Nat, a ≠ s → ZF S15 a = ZF S4 a := fun a ha => by rw [u15.1 a ha, u13.1 a ha, g12.2.1]
    have z415 : Zz S15 = Zz S4 := u15.2.2.1.trans (u13.2.2.1.trans g12.2.2.2.1)
    have hT15 := z15.1.2.1
    refine Rt.bn (ex140 z15 (fun _ => c1) (fun _ => hn) (by omega) (by omega)) (fun S16 r16 q16 => ?_)
    obtain ⟨p16, b16, y, e16, z16, g16, v1, v2, v3, v4, v5⟩ := q16
    subst e16
    have s16 := s15.cl g16 (z15.2.2.2.2 _ s15.2.2.1) (z1 := 8 * (p16 - (p2 + 1)) + 3) (n1 := 120 * (p16 - (p2 + 1)) + 48) (by omega) (by omega)
    refine Rt.pv s16 z16 (Nat.le_of_ble_eq_true rfl) (show va_rf (some y) = .ref y from rfl) (fun S18 s18 z18 u18 => ?_)
    have h15 := s15.1.2.2.2.2.1.1
    have hss : s < Zz S15 := z15.2.2.2.2 _ s15.2.2.1
    have h1516 := g16.2.2.2.2.1.1
    have hxa : exS (iv (Zz S) (Zz S4)) (ZF S4) (iv (Zz S) (Zz S18)) (ZF S18) := iv_ex (Nat.le_refl _) (by rw [u18.2.2.1]; omega) (fun a h1 h2 => by rw [u18.1 a (by omega), g16.2.2.1 a (by omega) (fun q => q)]; exact h415 a (by omega))
    refine h80 S18 p16 b16 _ _ _ s18 z18 (by omega) (by omega) (by omega) (fun q => ?_)
    obtain ⟨d1, d2⟩ := v5 (by rw [← u18.2.2.2.2.1]; exact q)
    exact ⟨d1, Or.inr ⟨y, x, p2, p2 + 1, b2, rfl, isE_im hxa _ (Nat.le_refl _) c2, plE_ex hxa (isE_pw c2) hpl, by omega, isE_im (iv_ex h15 (by rw [u18.2.2.1]; exact Nat.le_refl _) (fun a h1 h2 => u18.1 a (by omega))) _ (Nat.le_refl _) d2⟩⟩
  · subst er
    refine Rt.ip rfl ?_
    rw [z4.1.1]
    refine Rt.be (fail_ (by omega)) (Rt.rt ⟨p2, vv, b2, _, z4.fl, (s4.ss SS.fl).le (by omega) (by omega), by omega, fun q => absurd q (flS_n0 (by decide))⟩)
end PLN
