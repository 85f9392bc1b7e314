/-- the statements below -/
def HSt (K : Ky) (T : Nat) (V : Sg → Option (Sg × Option Nat)) (d : Nat) : Prop := ∀ (S : Sg) (pp ns vv bb : Nat), RZ S T pp ns vv bb → Zi S 3 = 0 → bb ≤ 54 → vv ≤ 40 → ns ≤ 16 → 18 ≤ ns + d → Zz S + 8 * (T - pp) + 16 ≤ K.2.1 → Zn S + 120 * (T - pp) + 520 ≤ K.2.2 → Rt (f_statement K V S) (NP K T S pp ns vv bb 0 19 (2 * (16 - ns) + 2) 3 50 7 110)
section BLO
variable {K : Ky} {T : Nat} {V : Sg → Option (Sg × Option Nat)} {d pp ns bb vv : Nat} {S : Sg} {e : Nat}
/-- the end of a block -/
theorem bl161 {S1 : Sg} {p1 b1 v1 n cp : Nat} (hp : pp ≤ p1 ∧ bb ≤ b1 ∧ b1 ≤ bb + (p1 - pp)) (hB : BW K (Zr S 5) (2 * (16 - ns)) S S1 e pp n cp p1 bb b1 vv v1) (hg : GR nX S S1) (z1 : RZ S1 T p1 (ns + 1) v1 b1) (k1 : Zz S1 ≤ Zz S + 8 * (p1 - pp) + 2) (k2 : Zn S1 ≤ Zn S + 120 * (p1 - pp) + 10) (k3 : Zi S1 3 = 0 → pp < p1 ∧ b1 ≤ 54 ∧ v1 ≤ 40 ∧ Zz S1 + 2 * n + 6 ≤ Zz S + 8 * (p1 - pp) ∧ Zn S1 + 50 * n + 120 ≤ Zn S + 120 * (p1 - pp) + 2 * cp) : Rt (f_block_161 K V S1 (some e)) (NP K T S pp ns vv bb 1 14 (2 * (16 - ns) + 1) 8 100 2 10) := by
  obtain ⟨f, L, la, h1, h2, h3, h4, h5, h6, h7, h8, h9, h10, h11, h12, h13, h14⟩ := hB
  unfold f_block_161
  refine Rt.nd z1 (fun S5 g5 z5 i5 => ?_)
  have s5 : St nX S S5 e (.inr (14, [.int (nI pp), .int 0, .ref la, .int (nI n)])) (8 * (p1 - pp) + 2) (120 * (p1 - pp) + 10) := St.ss ⟨hg, fun q => absurd q (by omega), h1, h2, k1, k2⟩ g5
  refine Rt.pv s5 z5 (Nat.le_of_ble_eq_true rfl) (show Value.int (Zi S5 10) = .int (nI p1) by rw [z5.1.1]) (fun S6 s6 z6 u6 => ?_)
  refine Rt.bn (take_ z6 (by decide)) (fun S7 _ q7 => Rt.rt ?_)
  obtain ⟨p7, z7, g7, w1, w2, w3⟩ := q7
  have s7 : St nX S S7 e (.inr (14, [.int (nI pp), .int (nI p1), .ref la, .int (nI n)])) (8 * (p1 - pp) + 2) (120 * (p1 - pp) + 10) := s6.ss g7
  have x1 := s7.2.2.2.2.1; have x2 := s7.2.2.2.2.2
  have y1 : Zz S7 = Zz S1 := g7.2.2.2.1.trans (u6.2.2.1.trans g5.2.2.2.1)
  have y2 : Zn S7 = Zn S1 := g7.2.2.2.2.trans (u6.2.2.2.1.trans g5.2.2.2.2)
  have hss := z7.2.2.2.2 _ s7.2.2.1
  refine ⟨p7, v1, b1, e, rfl, z7, s7.1, by omega, by omega, by omega, ⟨h5, hss, _, s7.2.2.2.1⟩, fun q => ?_⟩
  have q1 : Zi S1 3 = 0 := by rw [← i5, ← u6.2.2.2.2.1]; exact g7.1.2.2.2.2.2 q
  have w4 := (w3 q).2
  obtain ⟨c1, c2, c3, c4, c5⟩ := k3 q1
  subst w4
  have hF : ∀ a : Nat, a ≠ e → ZF S7 a = ZF S1 a := fun a ha => by rw [g7.2.1, u6.1 a ha, g5.2.1]
  have hlz := z1.2.2.2.2 _ h3
  have e1 : la ≠ e := fun w => ne_or h2 h4 w.symm
  refine ⟨by omega, by omega, c2, c3, isN_B (n := 2 * (16 - ns)) (iv_m.mpr ⟨h5, hss⟩) (iv_m.mpr ⟨h6, by omega⟩) s7.2.2.2.1 ((hF la e1).trans h4) (by omega) h9 (chN_im (fun y p q b c v w z => isS_im (fun a ha => ⟨iv_m.mpr ⟨(h12 a ha).1, by have := (h12 a ha).2; omega⟩, hF a (fun w => h7 (w ▸ ha))⟩) _ (Nat.le_refl _) z) (h14 q1))⟩
theorem BW.cp {fk : Nat → Int32} {N n cp p1 b1 v1 : Nat} {S1 : Sg} (h : BW K fk N S S1 e pp n cp p1 bb b1 vv v1) : 4 ≤ cp ∧ cp ≤ 4 + 2 * n := by
  obtain ⟨f, L, la, h1, h2, h3, h4, h5, h6, h7, h8, h9, h10, h11, _⟩ := h
  exact ⟨h10, h11⟩
/-- .. its loop -/
theorem bl61 (hst : HSt K T V d) (hd : 18 ≤ ns + 1 + d) (r1 : Zz S + 8 * (T - pp) + 12 ≤ K.2.1) (r2 : Zn S + 120 * (T - pp) + 460 ≤ K.2.2) : ∀ (m : Nat) {S1 : Sg} {p1 b1 v1 n cp : Nat}, 1 ≤ m → (Zi S1 3 = 0 → T + 1 ≤ p1 + m) → (pp ≤ p1 ∧ bb ≤ b1 ∧ b1 ≤ bb + (p1 - pp)) → BW K (Zr S 5) (2 * (16 - ns)) S S1 e pp n cp p1 bb b1 vv v1 → GR nX S S1 → RZ S1 T p1 (ns + 1) v1 b1 → Zz S1 ≤ Zz S + 8 * (p1 - pp) + 2 → Zn S1 ≤ Zn S + 120 * (p1 - pp) + 10 → (Zi S1 3 = 0 → ns + 1 ≤ 16 ∧ pp + 1 + n ≤ p1 ∧ b1 ≤ 54 ∧ v1 ≤ 40 ∧ Zz S1 + 2 * n + 6 ≤ Zz S + 8 * (p1 - pp) ∧ Zn S1 + 50 * n + 120 ≤ Zn S + 120 * (p1 - pp) + 2 * cp) → Rt (f_block_61 K V m S1 (some e)) (NP K T S pp ns vv bb 1 14 (2 * (16 - ns) + 1) 8 100 2 10)
  | 0, _, _, _, _, _, _, h, _, _, _, _, _, _, _, _ => absurd h (by omega)
  | m + 1, S1, p1, b1, v1, n, cp, _, hm, hp, hB, hg, z1, k1, k2, k3 => by
    have hT1 := z1.1.2.1; have hT := z1.1.2.2.1
    have hcp := hB.cp
    have hend : Rt (f_block_161 K V S1 (some e)) (NP K T S pp ns vv bb 1 14 (2 * (16 - ns) + 1) 8 100 2 10) := bl161 hp hB hg z1 k1 k2 (fun q => by have := k3 q; exact ⟨by omega, this.2.2⟩)
    unfold f_block_61
    refine Rt.ok (fun q1 => Rt.is z1 (fun _ => hend) (fun _ => ?_)) (fun _ => hend)
    obtain ⟨c1, c2, c3, c4, c5, c6⟩ := k3 q1
    have hm1 := hm q1
    refine Rt.bn (hst S1 p1 (ns + 1) v1 b1 z1 q1 c3 c4 c1 hd (by omega) (by omega)) (fun S2 r2' q2 => ?_)
    obtain ⟨p2, v2, b2, x, e2, z2, g2, w1, w2, w3, w4, w5⟩ := q2
    subst e2
    have hT2 := z2.1.2.1
    have hfk : Zr S1 5 = Zr S 5 := by rw [hg.2.1.1]
    refine bstep hB hg z1.2.2.2.2 z2 g2 w4 (fun q => by rw [← hfk]; exact (w5 q).2.2.2.2) (show 2 * (16 - (ns + 1)) + 2 ≤ 2 * (16 - ns) by omega) (by omega) (by omega) (by omega) (fun S3 cp3 v3 g3 z3 i3 y1 y2 y3 => ?_)
    have hcp3 := v3.cp
    have hq2 : Zi S3 3 = 0 → Zi S2 3 = 0 := fun q => by rw [← i3]; exact q
    refine bl61 hst hd r1 r2 m (by omega) (fun q => ?_) (by omega) v3 g3 z3 (by omega) (by omega) (fun q => ?_)
    · have := (isN_lt (w5 (hq2 q)).2.2.2.2).2; omega
    · obtain ⟨d1, d2, d3, d4, d5⟩ := w5 (hq2 q)
      have := (isN_lt d5).2
      exact ⟨c1, by omega, d3, d4, by omega, by omega⟩
/-- a block -/
theorem blk_ (hst : HSt K T (f_block K d) d) : HVb K T (f_block K (d + 1)) (d + 1) := fun S pp ns vv bb h hb hd0 hd r1 r2 => by
  have hp := h.1.2.1; have hT := h.1.2.2.1
  unfold f_block
  refine Rt.nw (X := nX) h (by omega) (by omega) (fun S1 s1 z1 i1 => ?_)
  have x1 := s1.2.2.2.2.1; have x2 := s1.2.2.2.2.2
  have hez := z1.2.2.2.2 _ s1.2.2.1
  -- its row
  refine Rt.bn (Q := fun S3 _ => St nX S S3 (Zz S) (.inr (14, [.int 0, .int 0, .ref (Zz S1), .int (nI 0)])) 2 8 ∧ RZ S3 T pp ns vv bb ∧ Zi S3 = Zi S ∧ Zz S1 ∈ ZL S3 ∧ ZF S3 (Zz S1) = .inl (K.1 11, 4, .inr (.inr (.inr (.inr (fun _ => none))))) ∧ Zz S3 = Zz S1 + 1) ?_ (fun S3 _ q3 => ?_)
  · unfold f_X14_init
    refine Rt.be (nQ_ok (n := 4) (by decide) ⟨by omega, by omega⟩) ?_
    have s2 := s1.cl (GR.un (X := nX) (S := S1) (c := .inl (K.1 11, 4, .inr (.inr (.inr (.inr (fun _ => none)))))) (n := 4)) hez (z1 := 1) (n1 := 4) (Nat.le_refl _) (Nat.le_refl _)
    refine Rt.pv s2 z1.un (Nat.le_of_ble_eq_true rfl) (show va_rf (some (Zz S1)) = .ref (Zz S1) from rfl) (fun S3 s3 z3 u3 => Rt.rt ⟨s3, z3, u3.2.2.2.2.1.trans i1, by rw [u3.2.1]; exact List.mem_cons_self, by rw [u3.1 _ (by omega)]; exact updE_s, u3.2.2.1⟩)
  obtain ⟨s3, z3, i3, m3, f3, e3⟩ := q3
  have h01 := s1.1.2.2.2.2.1.1
  refine Rt.ok (fun q => ?_) (fun q => Rt.rt ⟨pp, vv, bb, Zz S, rfl, z3, s3.1, by omega, by have := s3.2.2.2.2.1; omega, by have := s3.2.2.2.2.2; omega, ⟨Nat.le_refl _, by omega, _, s3.2.2.2.1⟩, fun w => absurd w q⟩)
  have q0 : Zi S 3 = 0 := by rw [← i3]; exact q
  obtain ⟨hb1, hv1⟩ := hb q0
  obtain ⟨hn, hd⟩ := hd q0
  refine Rt.pv s3 z3 (Nat.le_of_ble_eq_true rfl) (show Value.int (Zi S3 10) = .int (nI pp) by rw [z3.1.1]) (fun S7 s7 z7 u7 => ?_)
  have s7 : St nX S S7 (Zz S) (.inr (14, [.int (nI pp), .int 0, .ref (Zz S1), .int (nI 0)])) 2 8 := s7
  have f7 : ZF S7 (Zz S1) = .inl (K.1 11, 4, .inr (.inr (.inr (.inr (fun _ => none))))) := by rw [u7.1 _ (by omega)]; exact f3
  have m7 : Zz S1 ∈ ZL S7 := by rw [u7.2.1]; exact m3
  have h55 : ∀ S8 : Sg, SS S7 S8 → RZ S8 T pp (ns + 1) vv bb → (Zi S8 3 = 0 → ns ≠ 16 ∨ ¬ Zr S 5 pp = 63) → Rt (f_block_55 K (f_block K d) S8 (some (Zz S))) (NP K T S pp ns vv bb 1 14 (2 * (16 - ns) + 1) 8 100 2 10) := fun S8 g8 z8 h8 => by
    unfold f_block_55
    refine Rt.bn (take_ z8 (by decide)) (fun S9 _ q9 => ?_)
    obtain ⟨p9, z9, g9, w1, w2, w3⟩ := q9
    have g79 := g8.tr g9
    have s9 := s7.ss g79
    have y1 := s9.2.2.2.2.1; have y2 := s9.2.2.2.2.2
    have hgd : Zi S9 3 = 0 → p9 = pp + 1 ∧ ns + 1 ≤ 16 := fun q => by
      have k1 := w3 q
      have := (h8 (g9.1.2.2.2.2.2 q)).resolve_right (fun w => w (by rw [← k1.1, g8.1.2.1.1, s7.1.2.1.1]))
      exact ⟨k1.2, by omega⟩
    refine bl61 hst (by omega) r1 r2 bigN (n := 0) (cp := 4) (by decide) (fun _ => by show T + 1 ≤ p9 + 1000000000000; omega) (by omega) ⟨fun _ => none, [], Zz S1, s9.2.2.1, s9.2.2.2.1, by rw [g79.2.2.1]; exact m7, by rw [g79.2.1]; exact f7, Nat.le_refl _, h01, List.not_mem_nil, List.not_mem_nil, by omega, by omega, by omega, fun a ha => absurd ha List.not_mem_nil, fun i hi => absurd hi (by omega), fun q => ?_⟩ s9.1 z9 (by omega) (by omega) (fun q => ?_)
    · rw [(hgd q).1]; exact chN_0
    · have := hgd q
      exact ⟨by omega, by omega, hb1, hv1, by omega, by omega⟩
  refine Rt.is z7 (fun hk => ?_) (fun hk => ?_)
  · rw [z7.1.1]
    refine Rt.bn (enter_ z7 (by omega)) (fun S8 _ q8 => ?_)
    exact h55 S8 q8.2.1 q8.1 (fun q => Or.inl (q8.2.2 q))
  · refine Rt.ni z7 (fun S8 g8 z8 i8 => h55 S8 g8 z8 (fun _ => Or.inr (by rw [← s7.1.2.1.1]; exact hk)))
end BLO
