/-- the fields (parameters) of the item e that were read since S: its names lie at e + 1, its written types at wa -/
def FI (K : Ky) (fk : Nat → Int32) (S S1 : Sg) (e wa pp n p1 q0 : Nat) (fs1 : List Value) : Prop := ∃ (f : Nat → Option Nat) (g : Nat → Int32) (L : List Nat), (e ∈ ZL S1 ∧ ZF S1 e = .inr (16, fs1) ∧ fs1.length = 22 ∧ fs1[3]? = some (.int (nI n)) ∧ fs1[8]? = some (.ref (e + 1)) ∧ fs1[9]? = some (.ref wa)) ∧ (e + 1 ∈ ZL S1 ∧ ZF S1 (e + 1) = .inl (K.1 0, 13, .inl g)) ∧ (wa ∈ ZL S1 ∧ ZF S1 wa = .inl (K.1 12, 13, .inr (.inr (.inr (.inr f)))) ∧ Zz S ≤ wa ∧ wa ∉ L) ∧ (∀ a ∈ L, Zz S ≤ a ∧ a < Zz S1) ∧ (Zi S1 3 = 0 → n ≤ 12 ∧ (∀ i : Nat, i < n → ∃ s : Nat, g i = nI s ∧ pp < s ∧ s < p1) ∧ chT L (ZF S1) fk f n (pp + 1) q0 ∧ q0 ≤ p1)
section FLD
variable {K : Ky} {T ns vv bb e wa pp n p1 q0 : Nat} {S S1 : Sg} {fs1 : List Value}
theorem fld_ (hs : Zz S = e + 2) (hI : FI K (Zr S 5) S S1 e wa pp n p1 q0 fs1) (hg : Zr S1 = Zr S) (h01 : Zz S ≤ Zz S1) (z1 : RZ S1 T p1 ns vv bb) (q1 : Zi S1 3 = 0) (hn : ns ≤ 16) (hp : pp < p1) (r1 : Zz S1 + (T - p1) + 2 ≤ K.2.1) (r2 : Zn S1 + 5 * (T - p1) + 10 ≤ K.2.2) : Rt (f_fields K S1 (some e)) (fun S2 _ => ∃ p2 q2 : Nat, FI K (Zr S 5) S S2 e wa pp (n + 1) p2 q2 (fs1.set 3 (.int (nI (n + 1)))) ∧ RZ S2 T p2 ns vv bb ∧ GR (fun b => b = e ∨ b = e + 1 ∨ b = wa) S1 S2 ∧ p1 ≤ p2 ∧ Zz S2 ≤ Zz S1 + (p2 - p1) + 1 ∧ Zn S2 ≤ Zn S1 + 5 * (p2 - p1) + 5 ∧ (Zi S2 3 = 0 → p1 + 2 < p2)) := by
  obtain ⟨f, g, L, ⟨h1, h2, h3, h4, h5, h6⟩, ⟨h7, h8⟩, ⟨h9, h10, h11, h12⟩, h13, h14⟩ := hI
  obtain ⟨c1, c2, c3, c4⟩ := h14 q1
  have hT1 := z1.1.2.1; have hT := z1.1.2.2.1
  have hwe : wa ≠ e := fun w => ne_or h2 h10 w.symm
  have hwe1 : wa ≠ e + 1 := ne_rr h10 h8
  unfold f_fields
  refine Rt.bd (oI_mk h1 h2 h4) ?_
  refine Rt.bn (limit_ (mx := 12) z1) (fun S2 _ q2 => ?_)
  obtain ⟨z2, g2, w2⟩ := q2
  have m1 : e ∈ ZL S2 := by rw [g2.2.2.1]; exact h1
  have m2 : ZF S2 e = .inr (16, fs1) := by rw [g2.2.1]; exact h2
  refine Rt.bd (oR_mk (v := some (e + 1)) m1 m2 h5) (Rt.bd (oI_mk m1 m2 h4) (Rt.iq (fun q => ?_) (Rt.bd (oI_mk m1 m2 h4) ?_)))
  · have := (nI_leI (a := 13) (b := n) (by decide) (by omega)).mp q; omega
  unfold f_fields_32
  refine Rt.bn (name_ z2) (fun S3 r3 q3 => ?_)
  obtain ⟨p3, z3, g3, w3, w4, w5⟩ := q3
  have g13 := g2.tr g3
  have m3 : e + 1 ∈ ZL S3 := by rw [g13.2.2.1]; exact h7
  have m4 : ZF S3 (e + 1) = .inl (K.1 0, 13, .inl g) := by rw [g13.2.1]; exact h8
  refine Rt.bd (bI_n m3 m4 (show n < 13 by omega) (by decide)) ?_
  have z4 : RZ (UF S3 (e + 1) (.inl (K.1 0, 13, .inl (upd g n r3)))) T p3 ns vv bb := z3.uf
  refine Rt.bn (take_ z4 (by decide)) (fun S5 _ q5 => ?_)
  obtain ⟨p5, z5, g5, w6, w7, w8⟩ := q5
  have g15 : GR (fun b => b = e ∨ b = e + 1 ∨ b = wa) S1 S5 := ((g13.1.mo (fun _ _ q => q.elim)).tr GR.uf (fun b _ q => Or.inr (Or.inl q))).n g5.1
  have F5 : ∀ a : Nat, a ≠ e + 1 → ZF S5 a = ZF S1 a := fun a ha => by rw [g5.2.1, ZF_n ha, g13.2.1]
  have y1 : Zz S5 = Zz S1 := g5.2.2.2.1.trans g13.2.2.2.1
  have y2 : Zn S5 = Zn S1 := g5.2.2.2.2.trans g13.2.2.2.2
  have L5 : ∀ a : Nat, a ∈ ZL S1 → a ∈ ZL S5 := fun a ha => g15.in ha
  have m5 : ZF S5 e = .inr (16, fs1) := (F5 e (by omega)).trans h2
  have m6 : ZF S5 wa = .inl (K.1 12, 13, .inr (.inr (.inr (.inr f)))) := (F5 wa hwe1).trans h10
  have m7 : ZF S5 (e + 1) = .inl (K.1 0, 13, .inl (upd g n r3)) := by rw [g5.2.1]; exact ZF_s
  have i5 : Zi S5 3 = 0 → Zi S3 3 = 0 := fun q => g5.1.2.2.2.2.2 q
  refine Rt.bd (oR_mk (v := some wa) (L5 e h1) m5 h6) (Rt.bd (oI_mk (L5 e h1) m5 h4) (Rt.iq (fun q => ?_) (Rt.bd (oI_mk (L5 e h1) m5 h4) ?_)))
  · have := (nI_leI (a := 13) (b := n) (by decide) (by omega)).mp q; omega
  unfold f_fields_65
  have hT5 := z5.1.2.1
  refine Rt.bn (wr20 z5 (fun _ => hn) (by omega) (by omega)) (fun S6 r6 q6 => ?_)
  obtain ⟨p6, t, e6, z6, g6, w9, w10, w11, w12, w13⟩ := q6
  subst e6
  have hz := z1.2.2.2.2
  have hee := hz e h1; have hwz := hz wa h9; have hnz := hz (e + 1) h7
  have h56 := g6.2.2.2.2.1.1
  have n1 : ZF S6 e = .inr (16, fs1) := (g6.2.2.1 e (by omega) (fun q => q)).trans m5
  have n2 : ZF S6 wa = .inl (K.1 12, 13, .inr (.inr (.inr (.inr f)))) := (g6.2.2.1 wa (by omega) (fun q => q)).trans m6
  have n3 : ZF S6 (e + 1) = .inl (K.1 0, 13, .inl (upd g n r3)) := (g6.2.2.1 (e + 1) (by omega) (fun q => q)).trans m7
  have hto : okO S6 22 (some t) = true := by
    obtain ⟨vs, hv⟩ := w12.2.2
    exact okO_mk ((g6.2.2.2.1 t).mpr (Or.inr ⟨w12.1, w12.2.1⟩)) hv
  refine Rt.bd (bQ_n (g6.in (L5 wa h9)) n2 (show n < 13 by omega) (by decide) hto) ?_
  refine Rt.bd (oI_mk (S := UF S6 wa _) (g6.in (L5 e h1)) ((ZF_n (fun q => hwe q.symm)).trans n1) h4) ?_
  rw [nI_1]
  refine Rt.bd (pV_mk (S := UF S6 wa _) (v := .int (nI (n + 1))) (g6.in (L5 e h1)) ((ZF_n (fun q => hwe q.symm)).trans n1) (by rw [h3]; decide)) (Rt.rt ?_)
  have hcl : ∀ a : Nat, a ≠ e → a ≠ wa → ZF (UF (UF S6 wa (.inl (K.1 12, 13, .inr (.inr (.inr (.inr (va_up f n (some t)))))))) e (.inr (16, fs1.set 3 (.int (nI (n + 1)))))) a = ZF S6 a := fun a q1 q2 => by rw [ZF_n q1, ZF_n q2]
  have hL1 : ∀ a ∈ L, a ≠ e ∧ a ≠ e + 1 ∧ a ≠ wa := fun a ha => ⟨by have := (h13 a ha).1; omega, by have := (h13 a ha).1; omega, fun w => h12 (w ▸ ha)⟩
  have hx1 : exS L (ZF S1) (L ++ iv (Zz S5) (Zz S6)) (ZF (UF (UF S6 wa (.inl (K.1 12, 13, .inr (.inr (.inr (.inr (va_up f n (some t)))))))) e (.inr (16, fs1.set 3 (.int (nI (n + 1))))))) := fun a ha => ⟨List.mem_append_left _ ha, by rw [hcl a (hL1 a ha).1 (hL1 a ha).2.2, g6.2.2.1 a (by have := (h13 a ha).2; omega) (fun q => q), F5 a (hL1 a ha).2.1]⟩
  have hx2 : exS (iv (Zz S5) (Zz S6)) (ZF S6) (L ++ iv (Zz S5) (Zz S6)) (ZF (UF (UF S6 wa (.inl (K.1 12, 13, .inr (.inr (.inr (.inr (va_up f n (some t)))))))) e (.inr (16, fs1.set 3 (.int (nI (n + 1))))))) := fun a ha => ⟨List.mem_append_right _ ha, hcl a (by have := (iv_m.mp ha).1; omega) (by have := (iv_m.mp ha).1; omega)⟩
  refine ⟨p6, p6, ⟨va_up f n (some t), upd g n r3, L ++ iv (Zz S5) (Zz S6), ⟨g6.in (L5 e h1), ZF_s, by rw [List.length_set]; exact h3, by rw [List.getElem?_set_self (by rw [h3]; decide)], by rw [List.getElem?_set_ne (by decide)]; exact h5, by rw [List.getElem?_set_ne (by decide)]; exact h6⟩, ⟨g6.in (L5 _ h7), (hcl (e + 1) (by omega) (fun q => hwe1 q.symm)).trans n3⟩, ⟨g6.in (L5 _ h9), (ZF_n hwe).trans ZF_s, h11, fun q => ?_⟩, fun a ha => ?_, fun q => ?_⟩, z6.uf.uf, ((g15.n g6).tr GR.uf (fun b _ q => Or.inr (Or.inr q))).tr GR.uf (fun b _ q => Or.inl q), by omega, show Zz S6 ≤ _ by omega, show Zn S6 ≤ _ by omega, fun q => ?_⟩
  · rcases List.mem_append.mp q with w | w
    · exact h12 w
    · have := (iv_m.mp w).1; omega
  · rcases List.mem_append.mp ha with w | w
    · exact ⟨(h13 a w).1, show a < Zz S6 by have := (h13 a w).2; omega⟩
    · have := iv_m.mp w; exact ⟨by omega, this.2⟩
  · have q6 : Zi S6 3 = 0 := q
    have q5 := g6.2.2.2.2.2 q6
    obtain ⟨d1, d2, d3⟩ := w5 (i5 q5)
    have d4 := (w8 q5).2
    have hk : Zr S1 5 p1 = 2 := by rw [← g2.1.2.1.1]; exact d1
    have d5 := w2 (g3.1.2.2.2.2.2 (i5 q5)) hk
    have d6 := w13 q6
    rw [show Zr S5 5 = Zr S 5 by rw [g15.2.1.1, hg]] at d6
    have d7 := isT_lt d6
    refine ⟨by omega, fun i hi => ?_, chT_add (chT_im hx1 (fun i hi => va_up_ne _ _ (by omega)) c3) (fun _ _ => rfl) (va_up_self _ _ _) (show q0 ≤ p5 by omega) (Nat.le_refl p6) (isT_ex hx2 (isT_le d6 (by omega))), Nat.le_refl _⟩
    by_cases ei : i = n
    · subst ei; exact ⟨p1, (if_pos rfl).trans d3, hp, by omega⟩
    · obtain ⟨s, k1, k2, k3⟩ := c2 i (by omega)
      exact ⟨s, (if_neg ei).trans k1, k2, by omega⟩
  · have q6 : Zi S6 3 = 0 := q
    have q5 := g6.2.2.2.2.2 q6
    obtain ⟨d1, d2, d3⟩ := w5 (i5 q5)
    have d4 := (w8 q5).2
    have d7 := isT_lt (w13 q6)
    omega
end FLD
