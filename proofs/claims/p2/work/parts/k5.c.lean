/-- the variants of the enum e that were read since S: its names lie at e + 1, its variants at vr -/
def EV (K : Ky) (fk : Nat → Int32) (S S1 : Sg) (e vr pp n p1 q0 : Nat) (fs1 : List Value) : Prop := ∃ (f : Nat → Option Nat) (g : Nat → Int32) (L : List Nat), (e ∈ ZL S1 ∧ ZF S1 e = .inr (16, fs1) ∧ fs1.length = 22 ∧ fs1[3]? = some (.int (nI n)) ∧ fs1[8]? = some (.ref (e + 1)) ∧ fs1[11]? = some (.ref vr)) ∧ (e + 1 ∈ ZL S1 ∧ ZF S1 (e + 1) = .inl (K.1 0, 13, .inl g)) ∧ (vr ∈ ZL S1 ∧ ZF S1 vr = .inl (K.1 13, 13, .inr (.inr (.inr (.inr f)))) ∧ Zz S ≤ vr ∧ vr ∉ L) ∧ (∀ a ∈ L, Zz S ≤ a ∧ a < Zz S1) ∧ (Zi S1 3 = 0 → n ≤ 12 ∧ (∀ i : Nat, i < n → ∃ s : Nat, g i = nI s ∧ pp < s ∧ s < p1) ∧ chV L (ZF S1) fk (K.1 12) (K.1 4) f n (pp + 1) q0 ∧ q0 ≤ p1)
section VRT
variable {K : Ky} {T ns vv bb e vr pp n p1 q0 : Nat} {S S1 : Sg} {fs1 : List Value}
theorem vrt_ (hs : Zz S = e + 2) (hI : EV K (Zr S 5) S S1 e vr pp n p1 q0 fs1) (hg : Zr S1 = Zr S) (h01 : Zz S ≤ Zz S1) (z1 : RZ S1 T p1 ns vv bb) (q1 : Zi S1 3 = 0) (hn : ns ≤ 16) (hp : pp < p1) (r1 : Zz S1 + 2 * (T - p1) + 8 ≤ K.2.1) (r2 : Zn S1 + 30 * (T - p1) + 60 ≤ K.2.2) : Rt (f_variant K S1 (some e)) (fun S2 _ => ∃ p2 q2 : Nat, EV K (Zr S 5) S S2 e vr pp (n + 1) p2 q2 (fs1.set 3 (.int (nI (n + 1)))) ∧ RZ S2 T p2 ns vv bb ∧ GR (fun b => b = e ∨ b = e + 1 ∨ b = vr) S1 S2 ∧ p1 ≤ p2 ∧ Zz S2 ≤ Zz S1 + 2 * (p2 - p1) + 4 ∧ Zn S2 ≤ Zn S1 + 30 * (p2 - p1) + 40 ∧ (Zi S2 3 = 0 → p1 < p2 ∧ Zz S2 ≤ Zz S1 + 2 * (p2 - p1) ∧ Zn S2 ≤ Zn S1 + 30 * (p2 - p1))) := by
  obtain ⟨f, g, L, ⟨h1, h2, h3, h4, h5, h6⟩, ⟨h7, h8⟩, ⟨h9, h10, h11, h12⟩, h13, h14⟩ := hI
  obtain ⟨c1, c2, c3, c4⟩ := h14 q1
  have hT1 := z1.1.2.1; have hT := z1.1.2.2.1
  have hz := z1.2.2.2.2
  have hez := hz e h1; have hnz := hz (e + 1) h7; have hvz := hz vr h9
  have hwe : vr ≠ e := fun w => ne_or h2 h10 w.symm
  have hwe1 : vr ≠ e + 1 := ne_rr h10 h8
  unfold f_variant
  refine Rt.bd (oI_mk h1 h2 h4) ?_
  refine Rt.bn (limit_ (mx := 12) z1) (fun S2 _ q2 => ?_)
  obtain ⟨z2, g2, w2⟩ := q2
  have y2 := g2.2.2.2.1; have x2 := g2.2.2.2.2
  refine Rt.nw (X := nX) z2 (by omega) (by omega) (fun S4 s4 z4 i4 => ?_)
  have y4 : Zz S4 = Zz S1 + 1 := by have := s4.2.2.2.2.1; have := z4.2.2.2.2 _ s4.2.2.1; omega
  have x4 := s4.2.2.2.2.2
  have F4 : ∀ a : Nat, a < Zz S1 → ZF S4 a = ZF S1 a := fun a ha => (s4.1.2.2.1 a (by omega) (fun q => q)).trans (by rw [g2.2.1])
  have L4 : ∀ a : Nat, a ∈ ZL S1 → a ∈ ZL S4 := fun a ha => s4.1.in (by rw [g2.2.2.1]; exact ha)
  have v4 : ZF S4 (Zz S1) = .inr (17, [.int 0, .null, .null]) := by rw [← y2]; exact s4.2.2.2.1
  have mv4 : Zz S1 ∈ ZL S4 := by rw [← y2]; exact s4.2.2.1
  have m2 : ZF S4 e = .inr (16, fs1) := (F4 e hez).trans h2
  rw [y2]
  refine Rt.bd (oR_mk (v := some (e + 1)) (L4 e h1) m2 h5) (Rt.bd (oI_mk (L4 e h1) m2 h4) (Rt.iq (fun q => ?_) (Rt.bd (oI_mk (L4 e h1) m2 h4) ?_)))
  · have := (nI_leI (a := 13) (b := n) (by decide) (by omega)).mp q; omega
  unfold f_variant_40
  refine Rt.bn (name_ z4) (fun S5 r5 q5 => ?_)
  obtain ⟨p5, z5, g5, w3, w4, w5⟩ := q5
  have m4 : ZF S5 (e + 1) = .inl (K.1 0, 13, .inl g) := by rw [g5.2.1, F4 _ hnz]; exact h8
  refine Rt.bd (bI_n (by rw [g5.2.2.1]; exact L4 _ h7) m4 (show n < 13 by omega) (by decide)) ?_
  have m5 : ZF (UF S5 (e + 1) (.inl (K.1 0, 13, .inl (upd g n r5)))) e = .inr (16, fs1) := (ZF_n (by omega)).trans (by rw [g5.2.1]; exact m2)
  have me5 : e ∈ ZL (UF S5 (e + 1) (.inl (K.1 0, 13, .inl (upd g n r5)))) := by show e ∈ ZL S5; rw [g5.2.2.1]; exact L4 e h1
  refine Rt.bd (oR_mk (v := some vr) me5 m5 h6) (Rt.bd (oI_mk me5 m5 h4) (Rt.iq (fun q => ?_) (Rt.bd (oI_mk me5 m5 h4) ?_)))
  · have := (nI_leI (a := 13) (b := n) (by decide) (by omega)).mp q; omega
  unfold f_variant_67
  have m6 : ZF (UF S5 (e + 1) (.inl (K.1 0, 13, .inl (upd g n r5)))) vr = .inl (K.1 13, 13, .inr (.inr (.inr (.inr f)))) := (ZF_n hwe1).trans (by rw [g5.2.1, F4 _ hvz]; exact h10)
  have hvo : okO (UF S5 (e + 1) (.inl (K.1 0, 13, .inl (upd g n r5)))) 17 (some (Zz S1)) = true := okO_mk (vs := [.int 0, .null, .null]) (by show Zz S1 ∈ ZL S5; rw [g5.2.2.1]; exact mv4) ((ZF_n (by omega)).trans (by rw [g5.2.1]; exact v4))
  refine Rt.bd (bQ_n (by show vr ∈ ZL S5; rw [g5.2.2.1]; exact L4 _ h9) m6 (show n < 13 by omega) (by decide) hvo) ?_
  refine Rt.bd (oI_mk (S := UF (UF S5 (e + 1) _) vr _) me5 ((ZF_n (fun q => hwe q.symm)).trans m5) h4) ?_
  rw [nI_1]
  refine Rt.bd (pV_mk (S := UF (UF S5 (e + 1) _) vr _) (v := .int (nI (n + 1))) me5 ((ZF_n (fun q => hwe q.symm)).trans m5) (by rw [h3]; decide)) ?_
  -- the state with all three written
  have hS8 : ∃ S8 : Sg, S8 = UF (UF (UF S5 (e + 1) (.inl (K.1 0, 13, .inl (upd g n r5)))) vr (.inl (K.1 13, 13, .inr (.inr (.inr (.inr (va_up f n (some (Zz S1)))))))) ) e (.inr (16, fs1.set 3 (.int (nI (n + 1))))) := ⟨_, rfl⟩
  obtain ⟨S8, e8⟩ := hS8
  rw [← e8]
  have z8 : RZ S8 T p5 ns vv bb := by rw [e8]; exact z5.uf.uf.uf
  have g18 : GR (fun b => b = e ∨ b = e + 1 ∨ b = vr) S1 S8 := by
    rw [e8]
    exact (((((g2.1.n s4.1).n g5.1).mo (fun _ _ q => q.elim)).tr GR.uf (fun b _ q => Or.inr (Or.inl q))).tr GR.uf (fun b _ q => Or.inr (Or.inr q))).tr GR.uf (fun b _ q => Or.inl q)
  have F8 : ∀ a : Nat, a ≠ e → a ≠ e + 1 → a ≠ vr → ZF S8 a = ZF S4 a := fun a k1 k2 k3 => by rw [e8, ZF_n k1, ZF_n k3, ZF_n k2, g5.2.1]
  have y8 : Zz S8 = Zz S1 + 1 := by rw [e8]; exact g5.2.2.2.1.trans y4
  have x8 : Zn S8 = Zn S4 := by rw [e8]; exact g5.2.2.2.2
  have i8 : Zi S8 3 = 0 → Zi S5 3 = 0 := fun q => by rw [e8] at q; exact q
  have c8 : ZF S8 e = .inr (16, fs1.set 3 (.int (nI (n + 1)))) := by rw [e8]; exact ZF_s
  have n8 : ZF S8 (e + 1) = .inl (K.1 0, 13, .inl (upd g n r5)) := by rw [e8, ZF_n (by omega), ZF_n (fun q => hwe1 q.symm)]; exact ZF_s
  have r8 : ZF S8 vr = .inl (K.1 13, 13, .inr (.inr (.inr (.inr (va_up f n (some (Zz S1))))))) := by rw [e8, ZF_n hwe]; exact ZF_s
  have v8 : ZF S8 (Zz S1) = .inr (17, [.int 0, .null, .null]) := (F8 _ (by omega) (by omega) (by omega)).trans v4
  have mv8 : Zz S1 ∈ ZL S8 := (g18.2.2.2.1 _).mpr (Or.inr ⟨Nat.le_refl _, by omega⟩)
  have hgd : Zi S8 3 = 0 → n < 12 ∧ p5 = p1 + 1 ∧ r5 = nI p1 := fun q => by
    obtain ⟨d1, d2, d3⟩ := w5 (i8 q)
    have hk : Zr S1 5 p1 = 2 := by rw [← g2.1.2.1.1, ← s4.1.2.1.1]; exact d1
    have d5 := w2 (by rw [← i4]; exact g5.1.2.2.2.2.2 (i8 q)) hk
    exact ⟨by omega, d2, d3⟩
  have hL1 : ∀ a ∈ L, a ≠ e ∧ a ≠ e + 1 ∧ a ≠ vr ∧ a < Zz S1 := fun a ha => ⟨by have := (h13 a ha).1; omega, by have := (h13 a ha).1; omega, fun w => h12 (w ▸ ha), (h13 a ha).2⟩
  -- the end: the new variant's cells are closed
  have hfin : ∀ (S9 : Sg) (p9 : Nat), RZ S9 T p9 ns vv bb → GR (fun b => b = Zz S1) S8 S9 → p5 ≤ p9 → Zz S9 ≤ Zz S1 + 2 * (p9 - p1) + 4 → Zn S9 ≤ Zn S1 + 30 * (p9 - p1) + 40 → (Zi S9 3 = 0 → Zz S9 ≤ Zz S1 + 2 * (p9 - p1) ∧ Zn S9 ≤ Zn S1 + 30 * (p9 - p1) ∧ ∃ p' : Nat, p5 ≤ p' ∧ isPa (iv (Zz S1) (Zz S9)) (ZF S9) (Zr S 5) (K.1 12) (K.1 4) (Zz S1) p' p9) → Rt (some (S9, ())) (fun S2 _ => ∃ p2 q2 : Nat, EV K (Zr S 5) S S2 e vr pp (n + 1) p2 q2 (fs1.set 3 (.int (nI (n + 1)))) ∧ RZ S2 T p2 ns vv bb ∧ GR (fun b => b = e ∨ b = e + 1 ∨ b = vr) S1 S2 ∧ p1 ≤ p2 ∧ Zz S2 ≤ Zz S1 + 2 * (p2 - p1) + 4 ∧ Zn S2 ≤ Zn S1 + 30 * (p2 - p1) + 40 ∧ (Zi S2 3 = 0 → p1 < p2 ∧ Zz S2 ≤ Zz S1 + 2 * (p2 - p1) ∧ Zn S2 ≤ Zn S1 + 30 * (p2 - p1))) := fun S9 p9 z9 g9 k1 k2 k3 k4 => by
    have h89 := g9.2.2.2.2.1.1
    have F9 : ∀ a : Nat, a < Zz S1 → ZF S9 a = ZF S8 a := fun a ha => g9.2.2.1 a (by omega) (by omega)
    have mm : ∀ a : Nat, a ∈ ZL S1 → a ∈ ZL S9 := fun a ha => g9.in (g18.in ha)
    have hx1 : exS L (ZF S1) (L ++ iv (Zz S1) (Zz S9)) (ZF S9) := fun a ha => ⟨List.mem_append_left _ ha, by rw [F9 a (hL1 a ha).2.2.2, F8 a (hL1 a ha).1 (hL1 a ha).2.1 (hL1 a ha).2.2.1, F4 a (hL1 a ha).2.2.2]⟩
    have hx2 : exS (iv (Zz S1) (Zz S9)) (ZF S9) (L ++ iv (Zz S1) (Zz S9)) (ZF S9) := fun a ha => ⟨List.mem_append_right _ ha, rfl⟩
    refine Rt.rt ⟨p9, p9, ⟨va_up f n (some (Zz S1)), upd g n r5, L ++ iv (Zz S1) (Zz S9), ⟨mm _ h1, (F9 _ hez).trans c8, by rw [List.length_set]; exact h3, by rw [List.getElem?_set_self (by rw [h3]; decide)], by rw [List.getElem?_set_ne (by decide)]; exact h5, by rw [List.getElem?_set_ne (by decide)]; exact h6⟩, ⟨mm _ h7, (F9 _ hnz).trans n8⟩, ⟨mm _ h9, (F9 _ hvz).trans r8, h11, fun q => ?_⟩, fun a ha => ?_, fun q => ?_⟩, z9, g18.tr g9 (fun b hb q => absurd q (by omega)), by omega, k2, k3, fun q => ?_⟩
    · rcases List.mem_append.mp q with w | w
      · exact h12 w
      · have := (iv_m.mp w).1; omega
    · rcases List.mem_append.mp ha with w | w
      · exact ⟨(h13 a w).1, by have := (h13 a w).2; omega⟩
      · have := iv_m.mp w; exact ⟨by omega, this.2⟩
    · obtain ⟨d1, d2, d3⟩ := hgd (g9.2.2.2.2.2 q)
      obtain ⟨d4, d5, p', d7, d6⟩ := k4 q
      refine ⟨by omega, fun i hi => ?_, chV_add (chV_im hx1 (fun i hi => va_up_ne _ _ (by omega)) c3) (fun _ _ => rfl) (va_up_self _ _ _) (show q0 ≤ p' by omega) (Nat.le_refl p9) (isPa_ex hx2 d6) (fun i u ta hi e1 k1 k2 => ?_), Nat.le_refl _⟩
      · by_cases ei : i = n
        · subst ei; exact ⟨p1, (if_pos rfl).trans d3, hp, by omega⟩
        · obtain ⟨s, u1, u2, u3⟩ := c2 i (by omega)
          exact ⟨s, (if_neg ei).trans u1, u2, by omega⟩
      · have y1 := isPa_ta d6 k2
        obtain ⟨ps9, _, _, c4, _⟩ := c3
        obtain ⟨t9, _, _, i1, _, _, i2⟩ := c4 i hi
        rw [va_up_ne _ _ (show i ≠ n by omega), i1] at e1
        cases e1
        unfold taOf at k1
        rw [(hx1 _ i2.1).2] at k1
        have y2 := (h13 _ (isPa_ta i2 k1)).2
        have := (iv_m.mp y1).1
        omega
    · obtain ⟨d1, d2, d3⟩ := hgd (g9.2.2.2.2.2 q)
      obtain ⟨d4, d5, d6⟩ := k4 q
      exact ⟨by omega, d4, d5⟩
  refine Rt.bn (takes_ z8 (by decide)) (fun S9 r9 q9 => ?_)
  obtain ⟨p9, z9, g9, i9, q9⟩ := q9
  have y9 := g9.2.2.2.1; have x9 := g9.2.2.2.2
  rcases q9 with ⟨u1, u2, _⟩ | ⟨u1, u2, u3, _⟩
  · subst u1 u2
    refine Rt.ip rfl (hfin S9 _ z9 (g9.1.mo (fun _ _ q => q.elim)) (Nat.le_refl _) (by omega) (by omega) (fun q => ?_))
    have := hgd (by rw [← i9]; exact q)
    exact ⟨by omega, by omega, _, Nat.le_refl _, iv_m.mpr ⟨Nat.le_refl _, by omega⟩, Nat.le_refl _, Or.inl (by rw [g9.2.1]; exact v8)⟩
  · subst u1 u2
    have hT9 := z9.1.2.1
    obtain ⟨e1, e2, e3⟩ := hgd u3
    have s9 : St (fun b => b = Zz S1) S8 S9 (Zz S1) (.inr (17, [.int 0, .null, .null])) 0 0 := ⟨g9.1.mo (fun _ _ q => q.elim), fun _ => rfl, by rw [g9.2.2.1]; exact mv8, by rw [g9.2.1]; exact v8, by omega, by omega⟩
    refine Rt.iq (by decide) (Rt.nqp (n := 12) s9 z9 (Nat.le_of_ble_eq_true rfl) (by decide) (by omega) (by omega) (fun S10 s10 z10 n10 => ?_))
    have y10 := n10.2.2.2.1; have x10 := s10.2.2.2.2.2
    refine Rt.nqp (n := 12) s10 z10 (Nat.le_of_ble_eq_true rfl) (by decide) (by omega) (by omega) (fun S11 s11 z11 n11 => ?_)
    have y11 := n11.2.2.2.1; have x11 := s11.2.2.2.2.2
    have w11 : ZF S11 (Zz S9) = .inl (K.1 12, 12, .inr (.inr (.inr (.inr (fun _ => none))))) := (n11.1 _ (by omega) (by omega)).trans n10.2.2.1
    have mw11 : Zz S9 ∈ ZL S11 := (s11.1.2.2.2.1 _).mpr (((s10.1.2.2.2.1 _).mp n10.2.1).imp id (fun w => ⟨w.1, by omega⟩))
    refine Rt.mo (va109 (S := S11) (v := Zz S1) (wa := Zz S9) (ta := Zz S10) (pA := p5 + 1) hn s11.2.2.1 mw11 (by omega) (by omega) (by omega) (by omega) bigN (k := 0) (M := []) (by decide) (fun _ => by show T + 1 ≤ p5 + 1 + 1000000000000; omega) z11 GR.rf s11.2.2.2.1 w11 (fun a ha => absurd ha List.not_mem_nil) (Nat.le_refl _) (by omega) (by omega) (fun _ => ⟨by omega, by omega, by omega, p5 + 1, chT_0, Nat.le_refl _⟩)) (fun S12 _ q12 => ?_)
    obtain ⟨p12, k, f12, M, z12, g12, a1, a2, a3, a4, a5, a6, a7⟩ := q12
    have hg812 : GR (fun b => b = Zz S1) S8 S12 := s11.1.tr g12 (fun b hb q => by rcases q with q | q; exact q; omega)
    have hh := hfin S12 p12 z12 hg812 (by omega) (by omega) (by omega) (fun q => ?_)
    · obtain ⟨SS2, rr, er, hr⟩ := hh
      cases er
      exact hr
    · obtain ⟨d1, d2, d3, q', d4, d5⟩ := a7 q
      have h112 := g12.2.2.2.2.1.1
      rw [show Zr S11 5 = Zr S 5 by rw [s11.1.2.1.1, g18.2.1.1, hg]] at d4
      have t12 : ZF S12 (Zz S10) = .inl (K.1 4, 12, .inr (.inr (.inr (.inr (fun _ => none))))) := (g12.2.2.1 _ (by omega) (fun w => by rcases w with w | w <;> omega)).trans n11.2.2.1
      have hxM : exS M (ZF S12) (iv (Zz S1) (Zz S12)) (ZF S12) := fun a ha => ⟨iv_m.mpr ⟨by have := (a3 a ha).1; omega, (a3 a ha).2⟩, rfl⟩
      exact ⟨by omega, by omega, p5 + 1, by omega, iv_m.mpr ⟨Nat.le_refl _, by omega⟩, by omega, Or.inr ⟨Zz S9, Zz S10, k, q', f12, a1, d1, iv_m.mpr ⟨by omega, by omega⟩, iv_m.mpr ⟨by omega, by omega⟩, a2, t12, d5, chT_im hxM (fun _ _ => rfl) d4⟩⟩
end VRT
