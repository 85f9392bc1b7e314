-- k4.v.lean.txt
section
/-- the fields (parameters) of the item e that were read since S: its names lie at e + 1, its written types at wa -/
def FI (K : Ky) (fk : Nat → Int32) (S S1 : Sg) (e wa pp n p1 q0 : Nat) (fs1 : List Value) : Prop := ∃ (f : Nat → Option Nat) (g : Nat → Int32) (L : List Nat), (e ∈ ZL S1 ∧ ZF S1 e = .inr (16, fs1) ∧ fs1.length = 22 ∧ fs1[3]? = some (.int (nI n)) ∧ fs1[8]? = some (.ref (e + 1)) ∧ fs1[9]? = some (.ref wa)) ∧ (e + 1 ∈ ZL S1 ∧ ZF S1 (e + 1) = .inl (K.1 0, 13, .inl g)) ∧ (wa ∈ ZL S1 ∧ ZF S1 wa = .inl (K.1 12, 13, .inr (.inr (.inr (.inr f)))) ∧ Zz S ≤ wa ∧ wa ∉ L) ∧ (∀ a ∈ L, Zz S ≤ a ∧ a < Zz S1) ∧ (Zi S1 3 = 0 → n ≤ 12 ∧ (∀ i : Nat, i < n → ∃ s : Nat, g i = nI s ∧ pp < s ∧ s < p1) ∧ chT L (ZF S1) fk f n (pp + 1) q0 ∧ q0 ≤ p1)
section FLD
variable {K : Ky} {T ns vv bb e wa pp n p1 q0 : Nat} {S S1 : Sg} {fs1 : List Value}
theorem fld_ (hs : Zz S = e + 2) (hI : FI K (Zr S 5) S S1 e wa pp n p1 q0 fs1) (hg : Zr S1 = Zr S) (h01 : Zz S ≤ Zz S1) (z1 : RZ S1 T p1 ns vv bb) (q1 : Zi S1 3 = 0) (hn : ns ≤ 16) (hp : pp < p1) (r1 : Zz S1 + (T - p1) + 2 ≤ K.2.1) (r2 : Zn S1 + 5 * (T - p1) + 10 ≤ K.2.2) : Rt (f_fields K S1 (some e)) (fun S2 _ => ∃ p2 q2 : Nat, FI K (Zr S 5) S S2 e wa pp (n + 1) p2 q2 (fs1.set 3 (.int (nI (n + 1)))) ∧ RZ S2 T p2 ns vv bb ∧ GR (fun b => b = e ∨ b = e + 1 ∨ b = wa) S1 S2 ∧ p1 ≤ p2 ∧ Zz S2 ≤ Zz S1 + (p2 - p1) + 1 ∧ Zn S2 ≤ Zn S1 + 5 * (p2 - p1) + 5 ∧ (Zi S2 3 = 0 → p1 + 2 < p2)) := by
  obtain ⟨f, g, L, ⟨h1, h2, h3, h4, h5, h6⟩, ⟨h7, h8⟩, ⟨h9, h10, h11, h12⟩, h13, h14⟩ := hI
  obtain ⟨c1, c2, c3, c4⟩ := h14 q1
  have hT1 := z1.1.2.1; have hT := z1.1.2.2.1
  have hwe : wa ≠ e := fun w => ne_or h2 h10 w.symm
  have hwe1 : wa ≠ e + 1 := ne_rr h10 h8
  unfold f_fields
  refine Rt.bd (oI_mk h1 h2 h4) ?_
  refine Rt.bn (limit_ (mx := 12) z1) (fun S2 _ q2 => ?_)
  obtain ⟨z2, g2, w2⟩ := q2
  have m1 : e ∈ ZL S2 := by rw [g2.2.2.1]; exact h1
  have m2 : ZF S2 e = .inr (16, fs1) := by rw [g2.2.1]; exact h2
  refine Rt.bd (oR_mk (v := some (e + 1)) m1 m2 h5) (Rt.bd (oI_mk m1 m2 h4) (Rt.iq (fun q => ?_) (Rt.bd (oI_mk m1 m2 h4) ?_)))
  · have := (nI_leI (a := 13) (b := n) (by decide) (by omega)).mp q; omega
  unfold f_fields_32
  refine Rt.bn (name_ z2) (fun S3 r3 q3 => ?_)
  obtain ⟨p3, z3, g3, w3, w4, w5⟩ := q3
  have g13 := g2.tr g3
  have m3 : e + 1 ∈ ZL S3 := by rw [g13.2.2.1]; exact h7
  have m4 : ZF S3 (e + 1) = .inl (K.1 0, 13, .inl g) := by rw [g13.2.1]; exact h8
  refine Rt.bd (bI_n m3 m4 (show n < 13 by omega) (by decide)) ?_
  have z4 : RZ (UF S3 (e + 1) (.inl (K.1 0, 13, .inl (upd g n r3)))) T p3 ns vv bb := z3.uf
  refine Rt.bn (take_ z4 (by decide)) (fun S5 _ q5 => ?_)
  obtain ⟨p5, z5, g5, w6, w7, w8⟩ := q5
  have g15 : GR (fun b => b = e ∨ b = e + 1 ∨ b = wa) S1 S5 := ((g13.1.mo (fun _ _ q => q.elim)).tr GR.uf (fun b _ q => Or.inr (Or.inl q))).n g5.1
  have F5 : ∀ a : Nat, a ≠ e + 1 → ZF S5 a = ZF S1 a := fun a ha => by rw [g5.2.1, ZF_n ha, g13.2.1]
  have y1 : Zz S5 = Zz S1 := g5.2.2.2.1.trans g13.2.2.2.1
  have y2 : Zn S5 = Zn S1 := g5.2.2.2.2.trans g13.2.2.2.2
  have L5 : ∀ a : Nat, a ∈ ZL S1 → a ∈ ZL S5 := fun a ha => g15.in ha
  have m5 : ZF S5 e = .inr (16, fs1) := (F5 e (by omega)).trans h2
  have m6 : ZF S5 wa = .inl (K.1 12, 13, .inr (.inr (.inr (.inr f)))) := (F5 wa hwe1).trans h10
  have m7 : ZF S5 (e + 1) = .inl (K.1 0, 13, .inl (upd g n r3)) := by rw [g5.2.1]; exact ZF_s
  have i5 : Zi S5 3 = 0 → Zi S3 3 = 0 := fun q => g5.1.2.2.2.2.2 q
  refine Rt.bd (oR_mk (v := some wa) (L5 e h1) m5 h6) (Rt.bd (oI_mk (L5 e h1) m5 h4) (Rt.iq (fun q => ?_) (Rt.bd (oI_mk (L5 e h1) m5 h4) ?_)))
  · have := (nI_leI (a := 13) (b := n) (by decide) (by omega)).mp q; omega
  unfold f_fields_65
  have hT5 := z5.1.2.1
  refine Rt.bn (wr20 z5 (fun _ => hn) (by omega) (by omega)) (fun S6 r6 q6 => ?_)
  obtain ⟨p6, t, e6, z6, g6, w9, w10, w11, w12, w13⟩ := q6
  subst e6
  have hz := z1.2.2.2.2
  have hee := hz e h1; have hwz := hz wa h9; have hnz := hz (e + 1) h7
  have h56 := g6.2.2.2.2.1.1
  have n1 : ZF S6 e = .inr (16, fs1) := (g6.2.2.1 e (by omega) (fun q => q)).trans m5
  have n2 : ZF S6 wa = .inl (K.1 12, 13, .inr (.inr (.inr (.inr f)))) := (g6.2.2.1 wa (by omega) (fun q => q)).trans m6
  have n3 : ZF S6 (e + 1) = .inl (K.1 0, 13, .inl (upd g n r3)) := (g6.2.2.1 (e + 1) (by omega) (fun q => q)).trans m7
  have hto : okO S6 22 (some t) = true := by
    obtain ⟨vs, hv⟩ := w12.2.2
    exact okO_mk ((g6.2.2.2.1 t).mpr (Or.inr ⟨w12.1, w12.2.1⟩)) hv
  refine Rt.bd (bQ_n (g6.in (L5 wa h9)) n2 (show n < 13 by omega) (by decide) hto) ?_
  refine Rt.bd (oI_mk (S := UF S6 wa _) (g6.in (L5 e h1)) ((ZF_n (fun q => hwe q.symm)).trans n1) h4) ?_
  rw [nI_1]
  refine Rt.bd (pV_mk (S := UF S6 wa _) (v := .int (nI (n + 1))) (g6.in (L5 e h1)) ((ZF_n (fun q => hwe q.symm)).trans n1) (by rw [h3]; decide)) (Rt.rt ?_)
  have hcl : ∀ a : Nat, a ≠ e → a ≠ wa → ZF (UF (UF S6 wa (.inl (K.1 12, 13, .inr (.inr (.inr (.inr (va_up f n (some t)))))))) e (.inr (16, fs1.set 3 (.int (nI (n + 1)))))) a = ZF S6 a := fun a q1 q2 => by rw [ZF_n q1, ZF_n q2]
  have hL1 : ∀ a ∈ L, a ≠ e ∧ a ≠ e + 1 ∧ a ≠ wa := fun a ha => ⟨by have := (h13 a ha).1; omega, by have := (h13 a ha).1; omega, fun w => h12 (w ▸ ha)⟩
  have hx1 : exS L (ZF S1) (L ++ iv (Zz S5) (Zz S6)) (ZF (UF (UF S6 wa (.inl (K.1 12, 13, .inr (.inr (.inr (.inr (va_up f n (some t)))))))) e (.inr (16, fs1.set 3 (.int (nI (n + 1))))))) := fun a ha => ⟨List.mem_append_left _ ha, by rw [hcl a (hL1 a ha).1 (hL1 a ha).2.2, g6.2.2.1 a (by have := (h13 a ha).2; omega) (fun q => q), F5 a (hL1 a ha).2.1]⟩
  have hx2 : exS (iv (Zz S5) (Zz S6)) (ZF S6) (L ++ iv (Zz S5) (Zz S6)) (ZF (UF (UF S6 wa (.inl (K.1 12, 13, .inr (.inr (.inr (.inr (va_up f n (some t)))))))) e (.inr (16, fs1.set 3 (.int (nI (n + 1))))))) := fun a ha => ⟨List.mem_append_right _ ha, hcl a (by have := (iv_m.mp ha).1; omega) (by have := (iv_m.mp ha).1; omega)⟩
  refine ⟨p6, p6, ⟨va_up f n (some t), upd g n r3, L ++ iv (Zz S5) (Zz S6), ⟨g6.in (L5 e h1), ZF_s, by rw [List.length_set]; exact h3, by rw [List.getElem?_set_self (by rw [h3]; decide)], by rw [List.getElem?_set_ne (by decide)]; exact h5, by rw [List.getElem?_set_ne (by decide)]; exact h6⟩, ⟨g6.in (L5 _ h7), (hcl (e + 1) (by omega) (fun q => hwe1 q.symm)).trans n3⟩, ⟨g6.in (L5 _ h9), (ZF_n hwe).trans ZF_s, h11, fun q => ?_⟩, fun a ha => ?_, fun q => ?_⟩, z6.uf.uf, ((g15.n g6).tr GR.uf (fun b _ q => Or.inr (Or.inr q))).tr GR.uf (fun b _ q => Or.inl q), by omega, show Zz S6 ≤ _ by omega, show Zn S6 ≤ _ by omega, fun q => ?_⟩
  · rcases List.mem_append.mp q with w | w
    · exact h12 w
    · have := (iv_m.mp w).1; omega
  · rcases List.mem_append.mp ha with w | w
    · exact ⟨(h13 a w).1, show a < Zz S6 by have := (h13 a w).2; omega⟩
    · have := iv_m.mp w; exact ⟨by omega, this.2⟩
  · have q6 : Zi S6 3 = 0 := q
    have q5 := g6.2.2.2.2.2 q6
    obtain ⟨d1, d2, d3⟩ := w5 (i5 q5)
    have d4 := (w8 q5).2
    have hk : Zr S1 5 p1 = 2 := by rw [← g2.1.2.1.1]; exact d1
    have d5 := w2 (g3.1.2.2.2.2.2 (i5 q5)) hk
    have d6 := w13 q6
    rw [show Zr S5 5 = Zr S 5 by rw [g15.2.1.1, hg]] at d6
    have d7 := isT_lt d6
    refine ⟨by omega, fun i hi => ?_, chT_add (chT_im hx1 (fun i hi => va_up_ne _ _ (by omega)) c3) (fun _ _ => rfl) (va_up_self _ _ _) (show q0 ≤ p5 by omega) (Nat.le_refl p6) (isT_ex hx2 (isT_le d6 (by omega))), Nat.le_refl _⟩
    by_cases ei : i = n
    · subst ei; exact ⟨p1, (if_pos rfl).trans d3, hp, by omega⟩
    · obtain ⟨s, k1, k2, k3⟩ := c2 i (by omega)
      exact ⟨s, (if_neg ei).trans k1, k2, by omega⟩
  · have q6 : Zi S6 3 = 0 := q
    have q5 := g6.2.2.2.2.2 q6
    obtain ⟨d1, d2, d3⟩ := w5 (i5 q5)
    have d4 := (w8 q5).2
    have d7 := isT_lt (w13 q6)
    omega
end FLD
end
-- k4.w.lean.txt
section
section TLV
variable {K : Ky} {T ns vv bb e lf pp pa : Nat} {S : Sg} {fs : List Value}
/-- what takeLives gives: since S, from the token pa on; the item's first token is pp -/
def TLP (K : Ky) (T : Nat) (S : Sg) (ns vv bb e lf pp pa : Nat) (fs : List Value) (S2 : Sg) : Prop := ∃ (p2 lv : Nat) (gl : Nat → Int32), RZ S2 T p2 ns vv bb ∧ GR (fun b => b = e ∨ b = lf) S S2 ∧ (Zz S2 = Zz S ∧ Zn S2 = Zn S) ∧ ZF S2 e = .inr (16, fs.set 6 (.int (nI lv))) ∧ ZF S2 lf = .inl (K.1 0, 8, .inl gl) ∧ pa ≤ p2 ∧ (Zi S2 3 = 0 → lv ≤ 8 ∧ ∀ i : Nat, i < lv → ∃ s : Nat, gl i = nI s ∧ pp < s ∧ s < p2)
theorem tlv2 (hl : fs.length = 22) (h12 : fs[12]? = some (.ref lf)) (hpp : pp < pa) : ∀ (m : Nat) {S1 : Sg} {p1 lv : Nat} {gl : Nat → Int32} {mo : Int32}, 1 ≤ m → (Zi S1 3 = 0 → T + 1 ≤ p1 + m) → RZ S1 T p1 ns vv bb → GR (fun b => b = e ∨ b = lf) S S1 → (Zz S1 = Zz S ∧ Zn S1 = Zn S) → e ∈ ZL S1 → lf ∈ ZL S1 → ZF S1 e = .inr (16, fs.set 6 (.int (nI lv))) → ZF S1 lf = .inl (K.1 0, 8, .inl gl) → pa ≤ p1 → (Zi S1 3 = 0 → lv ≤ 8 ∧ ∀ i : Nat, i < lv → ∃ s : Nat, gl i = nI s ∧ pp < s ∧ s < p1) → Rt (f_takeLives_2 K m S1 (some e) mo) (fun S2 _ => TLP K T S ns vv bb e lf pp pa fs S2)
  | 0, _, _, _, _, _, h, _, _, _, _, _, _, _, _, _, _ => absurd h (by omega)
  | m + 1, S1, p1, lv, gl, mo, _, hm, z1, g1, hz, he, hlf, hF, hR, hp, hgd => by
    have hT1 := z1.1.2.1; have hT := z1.1.2.2.1
    have hel : e ≠ lf := ne_or hF hR
    have hend : Rt (f_takeLives_86 K S1) (fun S2 _ => TLP K T S ns vv bb e lf pp pa fs S2) := by
      unfold f_takeLives_86
      refine Rt.bn (take_ z1 (by decide)) (fun S2 _ q2 => Rt.rt ?_)
      obtain ⟨p2, z2, g2, w1, w2, w3⟩ := q2
      refine ⟨p2, lv, gl, z2, g1.n g2.1, ⟨g2.2.2.2.1.trans hz.1, g2.2.2.2.2.trans hz.2⟩, by rw [g2.2.1]; exact hF, by rw [g2.2.1]; exact hR, by omega, fun q => ?_⟩
      obtain ⟨c1, c2⟩ := hgd (g2.1.2.2.2.2.2 q)
      exact ⟨c1, fun i hi => by obtain ⟨s, d1, d2, d3⟩ := c2 i hi; exact ⟨s, d1, d2, by omega⟩⟩
    unfold f_takeLives_2
    refine Rt.ok (fun q1 => Rt.it (fun _ => hend) (fun _ => ?_)) (fun _ => hend)
    have hm1 := hm q1
    obtain ⟨c1, c2⟩ := hgd q1
    have h6 : (fs.set 6 (.int (nI lv)))[6]? = some (.int (nI lv)) := by rw [List.getElem?_set_self (by rw [hl]; decide)]
    have h12' : (fs.set 6 (.int (nI lv)))[12]? = some (.ref lf) := by rw [List.getElem?_set_ne (by decide)]; exact h12
    have h39 : ∀ S2 : Sg, SS S1 S2 → RZ S2 T p1 ns vv bb → (Zi S2 3 = 0 → Zr S1 5 p1 = 4 → lv ≠ 8) → Rt (f_takeLives_39 K (f_takeLives_2 K m) S2 (some e)) (fun S2 _ => TLP K T S ns vv bb e lf pp pa fs S2) := fun S2 g2 z2 h2 => by
      unfold f_takeLives_39
      refine Rt.bn (take_ z2 (by decide)) (fun S3 _ q3 => ?_)
      obtain ⟨p3, z3, g3, w1, w2, w3⟩ := q3
      have g13 := g2.tr g3
      have he3 : e ∈ ZL S3 := by rw [g13.2.2.1]; exact he
      have hl3 : lf ∈ ZL S3 := by rw [g13.2.2.1]; exact hlf
      have hF3 : ZF S3 e = .inr (16, fs.set 6 (.int (nI lv))) := by rw [g13.2.1]; exact hF
      have hR3 : ZF S3 lf = .inl (K.1 0, 8, .inl gl) := by rw [g13.2.1]; exact hR
      have hg3 := g1.n g13.1
      have hz3 : Zz S3 = Zz S ∧ Zn S3 = Zn S := ⟨g13.2.2.2.1.trans hz.1, g13.2.2.2.2.trans hz.2⟩
      -- one more
      have h66 : ∀ (S5 : Sg) (g5 : Nat → Int32), RZ S5 T p3 ns vv bb → GR (fun b => b = e ∨ b = lf) S S5 → (Zz S5 = Zz S ∧ Zn S5 = Zn S) → e ∈ ZL S5 → lf ∈ ZL S5 → ZF S5 e = .inr (16, fs.set 6 (.int (nI lv))) → ZF S5 lf = .inl (K.1 0, 8, .inl g5) → (Zi S5 3 = 0 → p1 < p3 ∧ lv + 1 ≤ 8 ∧ ∀ i : Nat, i < lv + 1 → ∃ s : Nat, g5 i = nI s ∧ pp < s ∧ s < p3) → Rt (f_takeLives_66 K (f_takeLives_2 K m) S5 (some e)) (fun S2 _ => TLP K T S ns vv bb e lf pp pa fs S2) := fun S5 g5 z5 x1 x2 x3 x4 x5 x6 x7 => by
        unfold f_takeLives_66
        refine Rt.bd (oI_mk x3 x5 h6) ?_
        rw [nI_1]
        refine Rt.bd (pV_mk (v := .int (nI (lv + 1))) x3 x5 (by rw [List.length_set, hl]; decide)) ?_
        rw [List.set_set]
        have z6 : RZ (UF S5 e (.inr (16, fs.set 6 (.int (nI (lv + 1)))))) T p3 ns vv bb := z5.uf
        refine Rt.bn (takes_ z6 (by decide)) (fun S7 r7 q7 => ?_)
        obtain ⟨p7, z7, g7, i7, q7⟩ := q7
        have hp7 : p3 ≤ p7 := by rcases q7 with ⟨_, w, _⟩ | ⟨_, w, _⟩ <;> omega
        refine tlv2 hl h12 hpp m (by omega) (fun q => ?_) z7 ((x1.tr GR.uf (fun b _ q => Or.inl q)).n g7.1) ⟨g7.2.2.2.1.trans x2.1, g7.2.2.2.2.trans x2.2⟩ (g7.1.in x3) (g7.1.in x4) (by rw [g7.2.1]; exact ZF_s) (by rw [g7.2.1]; exact (ZF_n (fun q => hel q.symm)).trans x6) (by omega) (fun q => ?_)
        · have := x7 (by rw [i7] at q; exact q); omega
        · obtain ⟨d1, d2, d3⟩ := x7 (by rw [i7] at q; exact q)
          exact ⟨d2, fun i hi => by obtain ⟨s, e1, e2, e3⟩ := d3 i hi; exact ⟨s, e1, e2, by omega⟩⟩
      refine Rt.ok (fun q3 => ?_) (fun q3 => h66 S3 gl z3 hg3 hz3 he3 hl3 hF3 hR3 (fun q => absurd q q3))
      obtain ⟨d1, d2⟩ := w3 q3
      have hk : Zr S1 5 p1 = 4 := by rw [← g2.1.2.1.1]; exact d1
      have d3 := h2 (g3.1.2.2.2.2.2 q3) hk
      refine Rt.bd (oR_mk (v := some lf) he3 hF3 h12') (Rt.bd (oI_mk he3 hF3 h6) (Rt.bd (bI_n hl3 hR3 (show lv < 8 by omega) (by decide)) ?_))
      refine h66 _ (upd gl lv (Zi S3 10 - 1)) z3.uf (hg3.tr GR.uf (fun b _ q => Or.inr q)) hz3 he3 hl3 ((ZF_n hel).trans hF3) ZF_s (fun _ => ⟨by omega, by omega, fun i hi => ?_⟩)
      by_cases ei : i = lv
      · subst ei; exact ⟨p1, (if_pos rfl).trans (by rw [z3.1.1, d2, nI_pred]), by omega, by omega⟩
      · obtain ⟨s, k1, k2, k3⟩ := c2 i (by omega)
        exact ⟨s, (if_neg ei).trans k1, k2, by omega⟩
    refine Rt.is z1 (fun hk => ?_) (fun hk => h39 S1 SS.rf z1 (fun _ w => absurd w hk))
    refine Rt.bd (oI_mk he hF h6) (Rt.it (fun w => ?_) (fun w => ?_))
    · rw [z1.1.1]
      exact Rt.be (fail_ (by omega)) (h39 _ SS.fl z1.fl (fun q => absurd q (flS_n0 (by decide))))
    · exact h39 S1 SS.rf z1 (fun _ _ u => w (by rw [u]; rfl))
theorem tlv_ (hl : fs.length = 22) (h12 : fs[12]? = some (.ref lf)) (h6 : fs[6]? = some (.int (nI 0))) (hpp : pp < pa) {gl : Nat → Int32} (h : RZ S T pa ns vv bb) (he : e ∈ ZL S) (hlf : lf ∈ ZL S) (hF : ZF S e = .inr (16, fs)) (hR : ZF S lf = .inl (K.1 0, 8, .inl gl)) : Rt (f_takeLives K S (some e)) (fun S2 _ => TLP K T S ns vv bb e lf pp pa fs S2) := by
  have hT1 := h.1.2.1; have hT := h.1.2.2.1
  unfold f_takeLives
  exact tlv2 hl h12 hpp bigN (lv := 0) (by decide) (fun _ => by show T + 1 ≤ pa + 1000000000000; omega) h GR.rf ⟨rfl, rfl⟩ he hlf (by rw [set_self h6]; exact hF) hR (Nat.le_refl _) (fun _ => ⟨by omega, fun i hi => absurd hi (by omega)⟩)
end TLV
end
-- k4.x.lean.txt
section
/-- the values of an item -/
def itV (tk : Nat) (nm : Int32) (kd : Int32) (mn : Nat) (lv : Nat) (na : Nat) (wr ty vr lf lo rs bl pm : Value) (va : Nat) : List Value := [.int (nI tk), .int nm, .int kd, .int (nI mn), .int 0, .int 0, .int (nI lv), .int 0, .ref na, wr, ty, vr, lf, lo, rs, .null, bl, pm, .int (nI va), .int 0, .int 0, .int 0]
/-- a new cell, told in the held one -/
def NR (S S2 : Sg) (a : Nat) (c : va_E) : Prop := (∀ b : Nat, b ≠ a → b < Zz S → ZF S2 b = ZF S b) ∧ Zz S ∈ ZL S2 ∧ ZF S2 (Zz S) = c ∧ Zz S2 = Zz S + 1 ∧ Zi S2 = Zi S
section NRL
variable {α : Type} {K : Ky} {X : Nat → Prop} {S S2 : Sg} {a zz nn T pp ns vv bb : Nat} {P : Sg → α → Prop}
theorem Rt.nqp {t n ci k9 : Nat} {fs : List Value} {g : Sg → Option (Sg × α)} (s : St X S S2 a (.inr (ci, fs)) zz nn) (h : RZ S2 T pp ns vv bb) (hk : k9 < fs.length) (hn : n ≤ 100000) (r1 : Zz S2 + 1 ≤ K.2.1) (r2 : Zn S2 + n ≤ K.2.2) (k : ∀ S3 : Sg, St X S S3 a (.inr (ci, fs.set k9 (.ref (Zz S2)))) (zz + 1) (nn + n) → RZ S3 T pp ns vv bb → NR S2 S3 a (.inl (K.1 t, n, .inr (.inr (.inr (.inr (fun _ => none)))))) → Rt (g S3) P) : Rt (bnd (nQ K t S2 (nI n)) fun S5 a6 => (pV S5 ci (some a) k9 (va_rf (some a6))).bind g) P := by
  have ha := h.2.2.2.2 _ s.2.2.1
  refine Rt.be (nQ_ok hn ⟨r1, r2⟩) ?_
  have s2 := s.cl (GR.un (X := nX) (S := S2) (c := .inl (K.1 t, n, .inr (.inr (.inr (.inr (fun _ => none)))))) (n := n)) ha (z1 := 1) (n1 := n) (Nat.le_refl _) (Nat.le_refl _)
  refine Rt.pv s2 h.un hk (show va_rf (some (Zz S2)) = .ref (Zz S2) from rfl) (fun S3 s3 z3 u3 => k S3 s3 z3 ⟨fun b h1 h2 => (u3.1 b h1).trans (updE_n (by omega)), by rw [u3.2.1]; exact List.mem_cons_self, (u3.1 _ (by omega)).trans updE_s, u3.2.2.1, u3.2.2.2.2.1⟩)
theorem Rt.nap {n ci k9 : Nat} {fs : List Value} {g : Sg → Option (Sg × α)} (s : St X S S2 a (.inr (ci, fs)) zz nn) (h : RZ S2 T pp ns vv bb) (hk : k9 < fs.length) (hn : n ≤ 100000) (r1 : Zz S2 + 1 ≤ K.2.1) (r2 : Zn S2 + n ≤ K.2.2) (k : ∀ S3 : Sg, St X S S3 a (.inr (ci, fs.set k9 (.ref (Zz S2)))) (zz + 1) (nn + n) → RZ S3 T pp ns vv bb → NR S2 S3 a (.inl (K.1 0, n, .inl (fun _ => 0))) → Rt (g S3) P) : Rt (bnd (nA K S2 (nI n)) fun S5 a6 => (pV S5 ci (some a) k9 (va_rf (some a6))).bind g) P := by
  have ha := h.2.2.2.2 _ s.2.2.1
  refine Rt.be (nA_ok hn ⟨r1, r2⟩) ?_
  have s2 := s.cl (GR.un (X := nX) (S := S2) (c := .inl (K.1 0, n, .inl (fun _ => 0))) (n := n)) ha (z1 := 1) (n1 := n) (Nat.le_refl _) (Nat.le_refl _)
  refine Rt.pv s2 h.un hk (show va_rf (some (Zz S2)) = .ref (Zz S2) from rfl) (fun S3 s3 z3 u3 => k S3 s3 z3 ⟨fun b h1 h2 => (u3.1 b h1).trans (updE_n (by omega)), by rw [u3.2.1]; exact List.mem_cons_self, (u3.1 _ (by omega)).trans updE_s, u3.2.2.1, u3.2.2.2.2.1⟩)
end NRL
section FNA
variable {K : Ky} {T ns vv bb e pp : Nat} {S : Sg} {P : Sg → Unit → Prop}
/-- a function's rows: written, types, parameters, lives, lives of parameters, at e + 2 .. e + 6 -/
def FnA (K : Ky) (S S3 : Sg) (e pp : Nat) : Prop := St (fun b => b = e) S S3 e (.inr (16, itV pp 0 12 0 0 (e + 1) (.ref (e + 2)) (.ref (e + 3)) .null (.ref (e + 5)) (.ref (e + 6)) .null .null (.ref (e + 4)) 0)) 5 60 ∧ Zz S3 = e + 7 ∧ Zi S3 3 = Zi S 3 ∧ (∀ b : Nat, b ≠ e → b < e + 2 → ZF S3 b = ZF S b) ∧ (e + 2 ∈ ZL S3 ∧ ZF S3 (e + 2) = .inl (K.1 12, 13, .inr (.inr (.inr (.inr (fun _ => none)))))) ∧ (e + 3 ∈ ZL S3 ∧ ZF S3 (e + 3) = .inl (K.1 4, 13, .inr (.inr (.inr (.inr (fun _ => none)))))) ∧ (e + 4 ∈ ZL S3 ∧ ZF S3 (e + 4) = .inl (K.1 5, 13, .inr (.inr (.inr (.inr (fun _ => none)))))) ∧ (e + 5 ∈ ZL S3 ∧ ZF S3 (e + 5) = .inl (K.1 0, 8, .inl (fun _ => 0))) ∧ (e + 6 ∈ ZL S3 ∧ ZF S3 (e + 6) = .inl (K.1 0, 13, .inl (fun _ => 0)))
theorem fnA_ {g : Sg → Option (Sg × Unit)} {S4 : Sg} {p4 : Nat} (hs : Zz S4 = e + 2) (h0 : SS S S4) (s4 : St (fun b => b = e) S S4 e (.inr (16, itV pp 0 12 0 0 (e + 1) .null .null .null .null .null .null .null .null 0)) 0 0) (z4 : RZ S4 T p4 ns vv bb) (i4 : Zi S4 3 = Zi S 3) (r1 : Zz S4 + 5 ≤ K.2.1) (r2 : Zn S4 + 60 ≤ K.2.2) (kk : ∀ S3 : Sg, FnA K S S3 e pp → RZ S3 T p4 ns vv bb → Rt (g S3) P) : Rt (bnd (nQ K 12 S4 13) fun S5 a6 => (pV S5 16 (some e) 9 (va_rf (some a6))).bind fun S7 => bnd (nQ K 4 S7 13) fun S8 a9 => (pV S8 16 (some e) 10 (va_rf (some a9))).bind fun S10 => bnd (nQ K 5 S10 13) fun S11 a12 => (pV S11 16 (some e) 17 (va_rf (some a12))).bind fun S13 => bnd (nA K S13 8) fun S14 a15 => (pV S14 16 (some e) 12 (va_rf (some a15))).bind fun S16 => bnd (nA K S16 13) fun S17 a18 => (pV S17 16 (some e) 13 (va_rf (some a18))).bind g) P := by
  refine Rt.nqp (n := 13) s4 z4 (Nat.le_of_ble_eq_true rfl) (by decide) (by omega) (by omega) (fun S7 s7 z7 n7 => ?_)
  have x7 := s7.2.2.2.2.2; have x4 := s4.2.2.2.2.2
  have y7 := n7.2.2.2.1; have m7 : Zn S7 ≤ Zn S4 + 13 := by have := h0.2.2.2.2; omega
  have h02 := h0.2.2.2.2
  refine Rt.nqp (n := 13) s7 z7 (Nat.le_of_ble_eq_true rfl) (by decide) (by omega) (by omega) (fun S10 s10 z10 n10 => ?_)
  have y10 := n10.2.2.2.1; have x10 := s10.2.2.2.2.2
  refine Rt.nqp (n := 13) s10 z10 (Nat.le_of_ble_eq_true rfl) (by decide) (by omega) (by omega) (fun S13 s13 z13 n13 => ?_)
  have y13 := n13.2.2.2.1; have x13 := s13.2.2.2.2.2
  refine Rt.nap (n := 8) s13 z13 (Nat.le_of_ble_eq_true rfl) (by decide) (by omega) (by omega) (fun S16 s16 z16 n16 => ?_)
  have y16 := n16.2.2.2.1; have x16 := s16.2.2.2.2.2
  refine Rt.nap (n := 13) s16 z16 (Nat.le_of_ble_eq_true rfl) (by decide) (by omega) (by omega) (fun S19 s19 z19 n19 => ?_)
  have y19 := n19.2.2.2.1
  have e1 : Zz S7 = e + 3 := by omega
  have e2 : Zz S10 = e + 4 := by omega
  have e3 : Zz S13 = e + 5 := by omega
  have e4 : Zz S16 = e + 6 := by omega
  rw [hs, e1, e2, e3, e4] at s19
  unfold NR at n7 n10 n13 n16 n19
  rw [hs] at n7; rw [e1] at n10; rw [e2] at n13; rw [e3] at n16; rw [e4] at n19
  have k7 := n7.1; have k10 := n10.1; have k13 := n13.1; have k16 := n16.1; have k19 := n19.1
  have mem : ∀ {A B : Sg} {q : Nat} {c1 c2 : va_E} {z1 z2 u1 u2 : Nat}, St (fun b => b = e) S A e c1 z1 u1 → St (fun b => b = e) S B e c2 z2 u2 → (∀ a : Nat, a ∈ ZL A → a ∈ ZL B) → True := fun _ _ _ => trivial
  have up : ∀ {A B : Sg} {c1 c2 : va_E} {z1 z2 u1 u2 q : Nat}, St (fun b => b = e) S A e c1 z1 u1 → St (fun b => b = e) S B e c2 z2 u2 → Zz A ≤ Zz B → q ∈ ZL A → q ∈ ZL B := fun {A B c1 c2 z1 z2 u1 u2 q} sa sb hab hq => (sb.1.2.2.2.1 q).mpr (((sa.1.2.2.2.1 q).mp hq).imp id (fun w => ⟨w.1, by omega⟩))
  refine kk S19 ⟨s19.le (by omega) (by omega), by omega, ?_, fun b h1 h2 => ?_, ⟨up s7 s19 (by omega) n7.2.1, ?_⟩, ⟨up s10 s19 (by omega) n10.2.1, ?_⟩, ⟨up s13 s19 (by omega) n13.2.1, ?_⟩, ⟨up s16 s19 (by omega) n16.2.1, ?_⟩, ⟨n19.2.1, n19.2.2.1⟩⟩ z19
  · rw [n19.2.2.2.2, n16.2.2.2.2, n13.2.2.2.2, n10.2.2.2.2, n7.2.2.2.2, i4]
  · rw [k19 b h1 (by omega), k16 b h1 (by omega), k13 b h1 (by omega), k10 b h1 (by omega), k7 b h1 (by omega), h0.2.1]
  · rw [k19 _ (by omega) (by omega), k16 _ (by omega) (by omega), k13 _ (by omega) (by omega), k10 _ (by omega) (by omega)]; exact n7.2.2.1
  · rw [k19 _ (by omega) (by omega), k16 _ (by omega) (by omega), k13 _ (by omega) (by omega)]; exact n10.2.2.1
  · rw [k19 _ (by omega) (by omega), k16 _ (by omega) (by omega)]; exact n13.2.2.1
  · rw [k19 _ (by omega) (by omega)]; exact n16.2.2.1
end FNA
end
-- k4.y.lean.txt
section
/-- a function's head, as far as it was read -/
def FB (K : Ky) (S S1 : Sg) (e pp n p1 q0 lv : Nat) (nm : Int32) : Prop := FI K (Zr S 5) S S1 e (e + 2) pp n p1 q0 (itV pp nm 12 n lv (e + 1) (.ref (e + 2)) (.ref (e + 3)) .null (.ref (e + 5)) (.ref (e + 6)) .null .null (.ref (e + 4)) 0) ∧ GR (fun b => b = e ∨ b = e + 1) S S1 ∧ (e + 3 ∈ ZL S1 ∧ ZF S1 (e + 3) = .inl (K.1 4, 13, .inr (.inr (.inr (.inr (fun _ => none)))))) ∧ (e + 4 ∈ ZL S1 ∧ ZF S1 (e + 4) = .inl (K.1 5, 13, .inr (.inr (.inr (.inr (fun _ => none)))))) ∧ (e + 6 ∈ ZL S1 ∧ ZF S1 (e + 6) = .inl (K.1 0, 13, .inl (fun _ => 0))) ∧ (∃ gl : Nat → Int32, e + 5 ∈ ZL S1 ∧ ZF S1 (e + 5) = .inl (K.1 0, 8, .inl gl) ∧ (Zi S1 3 = 0 → nm = nI (pp + 1) ∧ pp + 2 ≤ p1 ∧ lv ≤ 8 ∧ ∀ i : Nat, i < lv → ∃ s : Nat, gl i = nI s ∧ pp < s ∧ s < p1))
theorem FB.ss {K : Ky} {S S1 S2 : Sg} {e pp n p1 p2 q0 lv : Nat} {nm : Int32} (h : FB K S S1 e pp n p1 q0 lv nm) (g : SS S1 S2) (hp : p1 ≤ p2) : FB K S S2 e pp n p2 q0 lv nm := by
  obtain ⟨⟨f, g0, L, ⟨h1, h2, h3, h4, h5, h6⟩, ⟨h7, h8⟩, ⟨h9, h10, h11, h12⟩, h13, h14⟩, k1, k2, k3, k4, gl, k5, k6, k7⟩ := h
  refine ⟨⟨f, g0, L, ⟨by rw [g.2.2.1]; exact h1, by rw [g.2.1]; exact h2, h3, h4, h5, h6⟩, ⟨by rw [g.2.2.1]; exact h7, by rw [g.2.1]; exact h8⟩, ⟨by rw [g.2.2.1]; exact h9, by rw [g.2.1]; exact h10, h11, h12⟩, by rw [g.2.2.2.1]; exact h13, fun q => ?_⟩, k1.n g.1, ⟨by rw [g.2.2.1]; exact k2.1, by rw [g.2.1]; exact k2.2⟩, ⟨by rw [g.2.2.1]; exact k3.1, by rw [g.2.1]; exact k3.2⟩, ⟨by rw [g.2.2.1]; exact k4.1, by rw [g.2.1]; exact k4.2⟩, gl, by rw [g.2.2.1]; exact k5, by rw [g.2.1]; exact k6, fun q => ?_⟩
  · obtain ⟨c1, c2, c3, c4⟩ := h14 (g.1.2.2.2.2.2 q)
    exact ⟨c1, fun i hi => by obtain ⟨s, d1, d2, d3⟩ := c2 i hi; exact ⟨s, d1, d2, by omega⟩, by rw [g.2.1]; exact c3, by omega⟩
  · obtain ⟨c1, c2, c3, c4⟩ := k7 (g.1.2.2.2.2.2 q)
    exact ⟨c1, by omega, c3, fun i hi => by obtain ⟨s, d1, d2, d3⟩ := c4 i hi; exact ⟨s, d1, d2, by omega⟩⟩
/-- an item in the store -/
def isIt (K : Ky) (L : List Nat) (F : Nat → va_E) (fk : Nat → Int32) (a p m q : Nat) : Prop := isI L F fk (K.1 9) (K.1 0) (K.1 11) (K.1 10) (K.1 7) (K.1 5) (K.1 12) (K.1 4) (K.1 13) a p m q
/-- what the reading of an item gives -/
def ItP (K : Ky) (T : Nat) (S : Sg) (pp e : Nat) (S2 : Sg) : Prop := ∃ (p2 ns2 vv2 bb2 : Nat) (fs2 : List Value), RZ S2 T p2 ns2 vv2 bb2 ∧ GR (fun b => b = e ∨ b = e + 1) S S2 ∧ pp ≤ p2 ∧ Zz S2 ≤ Zz S + 8 * (p2 - pp) + 12 ∧ Zn S2 ≤ Zn S + 120 * (p2 - pp) + 150 ∧ (e ∈ ZL S2 ∧ ZF S2 e = .inr (16, fs2)) ∧ (Zi S2 3 = 0 → pp < p2 ∧ ns2 = 0 ∧ Zz S2 + 2 ≤ Zz S + 8 * (p2 - pp) ∧ Zn S2 + 35 ≤ Zn S + 120 * (p2 - pp) ∧ ∃ m : Nat, isIt K (iv e (Zz S2)) (ZF S2) (Zr S 5) e pp m p2)
section FNB
variable {K : Ky} {T e pp : Nat} {S : Sg} {nm : Int32}
/-- the body of a function -/
theorem fn194 (hs : Zz S = e + 2) (r1 : Zz S + 8 * (T - pp) + 30 ≤ K.2.1) (r2 : Zn S + 120 * (T - pp) + 700 ≤ K.2.2) {S1 : Sg} {p1 n q0 lv vv : Nat} {rs : Value} (hFI : FI K (Zr S 5) S S1 e (e + 2) pp n p1 q0 (itV pp nm 12 n lv (e + 1) (.ref (e + 2)) (.ref (e + 3)) .null (.ref (e + 5)) (.ref (e + 6)) rs .null (.ref (e + 4)) 0)) (hg : GR (fun b => b = e ∨ b = e + 1) S S1) (m3 : e + 3 ∈ ZL S1 ∧ ZF S1 (e + 3) = .inl (K.1 4, 13, .inr (.inr (.inr (.inr (fun _ => none)))))) (m4 : e + 4 ∈ ZL S1 ∧ ZF S1 (e + 4) = .inl (K.1 5, 13, .inr (.inr (.inr (.inr (fun _ => none)))))) (m6 : e + 6 ∈ ZL S1 ∧ ZF S1 (e + 6) = .inl (K.1 0, 13, .inl (fun _ => 0))) {gl : Nat → Int32} (m5 : e + 5 ∈ ZL S1 ∧ ZF S1 (e + 5) = .inl (K.1 0, 8, .inl gl)) (z1 : RZ S1 T p1 0 vv 0) (hp : pp < p1) (k1 : Zz S1 ≤ Zz S + 8 + 2 * (p1 - pp)) (k2 : Zn S1 ≤ Zn S + 75 + 10 * (p1 - pp)) (hgd : Zi S1 3 = 0 → vv = n ∧ nm = nI (pp + 1) ∧ pp + 4 ≤ p1 ∧ lv ≤ 8 ∧ (∀ i : Nat, i < lv → ∃ s : Nat, gl i = nI s ∧ pp < s ∧ s < p1) ∧ Zz S1 ≤ Zz S + 6 + 2 * (p1 - pp) ∧ Zn S1 ≤ Zn S + 65 + 10 * (p1 - pp) ∧ (rs = .null ∨ ∃ t p' q2 : Nat, rs = .ref t ∧ q0 ≤ p' ∧ q2 ≤ p1 ∧ isT (iv (e + 2) (Zz S1)) (ZF S1) (Zr S 5) 17 t p' q2)) : Rt (f_function_194 K S1 (some e)) (fun S2 _ => ItP K T S pp e S2) := by
  obtain ⟨f, g0, L, ⟨h1, h2, h3, h4, h5, h6⟩, ⟨h7, h8⟩, ⟨h9, h10, h11, h12⟩, h13, h14⟩ := hFI
  have hT1 := z1.1.2.1; have hT := z1.1.2.2.1
  have h01 := hg.2.2.2.2.1.1
  unfold f_function_194
  refine Rt.bn (blocks_ 20 S1 p1 0 vv 0 z1 (fun q => ⟨by omega, by have := (hgd q).1; have := (h14 q).1; omega⟩) (by omega) (fun _ => ⟨by omega, by omega⟩) (by omega) (by omega)) (fun S2 r2' q2 => ?_)
  obtain ⟨p2, v2, b2, bl, e2, z2, g2, w1, w2, w3, w4, w5⟩ := q2
  subst e2
  have hz := z1.2.2.2.2
  have s2 : St (fun b => b = e ∨ b = e + 1) S S2 e (.inr (16, itV pp nm 12 n lv (e + 1) (.ref (e + 2)) (.ref (e + 3)) .null (.ref (e + 5)) (.ref (e + 6)) rs .null (.ref (e + 4)) 0)) (8 + 2 * (p1 - pp) + (8 * (p2 - p1) + 2)) (75 + 10 * (p1 - pp) + (120 * (p2 - p1) + 10)) := ⟨hg.n g2, fun _ => Or.inl rfl, g2.in h1, (g2.2.2.1 e (hz e h1) (fun q => q)).trans h2, by omega, by omega⟩
  refine Rt.pv s2 z2 (Nat.le_of_ble_eq_true rfl) (show va_rf (some bl) = .ref bl from rfl) (fun S3 s3 z3 u3 => ?_)
  refine Rt.pv s3 z3 (Nat.le_of_ble_eq_true rfl) (show Value.int (Zi S3 16) = .int (nI v2) by rw [z3.2.2.1]) (fun S4 s4 z4 u4 => Rt.rt ?_)
  have s4 : St (fun b => b = e ∨ b = e + 1) S S4 e (.inr (16, itV pp nm 12 n lv (e + 1) (.ref (e + 2)) (.ref (e + 3)) .null (.ref (e + 5)) (.ref (e + 6)) rs (.ref bl) (.ref (e + 4)) v2)) (8 + 2 * (p1 - pp) + (8 * (p2 - p1) + 2)) (75 + 10 * (p1 - pp) + (120 * (p2 - p1) + 10)) := s4
  have x1 := s4.2.2.2.2.1; have x2 := s4.2.2.2.2.2
  have y1 : Zz S4 = Zz S2 := u4.2.2.1.trans u3.2.2.1
  have y2 : Zn S4 = Zn S2 := u4.2.2.2.1.trans u3.2.2.2.1
  refine ⟨p2, 0, v2, b2, _, z4, s4.1, by omega, by omega, by omega, ⟨s4.2.2.1, s4.2.2.2.1⟩, fun q => ?_⟩
  have q2 : Zi S2 3 = 0 := by rw [← u3.2.2.2.2.1, ← u4.2.2.2.2.1]; exact q
  have q1 := g2.2.2.2.2.2 q2
  obtain ⟨c1, c2, c3, c4, c5, c6, c7, c8⟩ := hgd q1
  obtain ⟨d1, d2, d3, d4⟩ := h14 q1
  obtain ⟨a1, a2, a3, a4, a5⟩ := w5 q2
  rw [show Zr S1 5 = Zr S 5 by rw [hg.2.1.1]] at a5
  have hlt := (isN_lt a5).2
  subst c1 c2
  have hF1 : ∀ a : Nat, a ≠ e → a < Zz S1 → ZF S4 a = ZF S1 a := fun a k1 k2 => by rw [u4.1 a k1, u3.1 a k1, g2.2.2.1 a k2 (fun q => q)]
  have hF2 : ∀ a : Nat, a ≠ e → ZF S4 a = ZF S2 a := fun a k1 => by rw [u4.1 a k1, u3.1 a k1]
  have h12' := g2.2.2.2.2.1.1
  have hm : ∀ a : Nat, a ∈ ZL S1 → e ≤ a → a ∈ iv e (Zz S4) := fun a k1 k2 => iv_m.mpr ⟨k2, by have := hz a k1; omega⟩
  have hxL : exS L (ZF S1) (iv e (Zz S4)) (ZF S4) := fun a ha => ⟨iv_m.mpr ⟨by have := (h13 a ha).1; omega, by have := (h13 a ha).2; omega⟩, hF1 a (by have := (h13 a ha).1; omega) (h13 a ha).2⟩
  have hxI : exS (iv (e + 2) (Zz S1)) (ZF S1) (iv e (Zz S4)) (ZF S4) := iv_ex (by omega) (by omega) (fun a k1 k2 => hF1 a (by omega) k2)
  refine ⟨by omega, rfl, by omega, by omega, p1, hm e h1 (Nat.le_refl _), by omega, by omega, vv, e + 1, g0, hm _ h7 (by omega), (hF1 _ (by omega) (hz _ h7)).trans h8, d1, d2, Or.inr (Or.inr ⟨lv, e + 2, e + 3, e + 4, e + 5, e + 6, q0, v2, b2, bl, rs, f, gl, s4.2.2.2.1, hm _ h9 (by omega), hm _ m3.1 (by omega), hm _ m4.1 (by omega), hm _ m5.1 (by omega), hm _ m6.1 (by omega), (hF1 _ (by omega) (hz _ h9)).trans h10, (hF1 _ (by omega) (hz _ m3.1)).trans m3.2, (hF1 _ (by omega) (hz _ m4.1)).trans m4.2, (hF1 _ (by omega) (hz _ m5.1)).trans m5.2, (hF1 _ (by omega) (hz _ m6.1)).trans m6.2, c4, c5, chT_im hxL (fun _ _ => rfl) d3, d4, ?_, a4, a3, isS_im (iv_ex (by omega) (by omega) (fun a k1 k2 => hF2 a (by omega))) _ (by omega) a5⟩)⟩
  rcases c8 with c8 | ⟨t, p', q', k1, k2, k3, k4⟩
  · exact Or.inl c8
  · exact Or.inr ⟨t, p', q', k1, k2, k3, isT_ex hxI k4⟩
end FNB
end
-- k4.z.lean.txt
section
section FNC
variable {K : Ky} {T e pp : Nat} {S : Sg} {nm : Int32}
theorem fn177 (hs : Zz S = e + 2) (r1 : Zz S + 8 * (T - pp) + 30 ≤ K.2.1) (r2 : Zn S + 120 * (T - pp) + 700 ≤ K.2.2) {S1 : Sg} {p1 n q0 lv vv : Nat} (hB : FB K S S1 e pp n p1 q0 lv nm) (z1 : RZ S1 T p1 0 vv 0) (hp : pp < p1) (k1 : Zz S1 ≤ Zz S + 7 + 2 * (p1 - pp)) (k2 : Zn S1 ≤ Zn S + 70 + 10 * (p1 - pp)) (hgd : Zi S1 3 = 0 → vv = n ∧ pp + 4 ≤ p1 ∧ Zz S1 ≤ Zz S + 5 + 2 * (p1 - pp) ∧ Zn S1 ≤ Zn S + 60 + 10 * (p1 - pp)) : Rt (f_function_177 K S1 (some e)) (fun S2 _ => ItP K T S pp e S2) := by
  have hT1 := z1.1.2.1; have hT := z1.1.2.2.1
  unfold f_function_177
  refine Rt.bn (takes_ z1 (by decide)) (fun S2 r2' q2 => ?_)
  obtain ⟨p2, z2, g2, i2, q2⟩ := q2
  have hp2 : p1 ≤ p2 := by rcases q2 with ⟨_, w, _⟩ | ⟨_, w, _⟩ <;> omega
  have y1 := g2.2.2.2.1; have y2 := g2.2.2.2.2
  obtain ⟨hFI, h2, m3, m4, m6, gl, m5, f5, h7⟩ := hB.ss g2 hp2
  have hgd2 : Zi S2 3 = 0 → vv = n ∧ pp + 4 ≤ p1 ∧ Zz S2 ≤ Zz S + 5 + 2 * (p1 - pp) ∧ Zn S2 ≤ Zn S + 60 + 10 * (p1 - pp) := fun q => by have := hgd (by rw [← i2]; exact q); omega
  rcases q2 with ⟨u1, u2, _⟩ | ⟨u1, u2, u3, _⟩
  · subst u1 u2
    refine Rt.ip rfl (fn194 hs r1 r2 hFI h2 m3 m4 m6 ⟨m5, f5⟩ z2 (by omega) (by omega) (by omega) (fun q => ?_))
    obtain ⟨c1, c2, c3, c4⟩ := hgd2 q
    obtain ⟨d1, d2, d3, d4⟩ := h7 q
    exact ⟨c1, d1, by omega, d3, d4, by omega, by omega, Or.inl rfl⟩
  · subst u1 u2
    have hT2 := z2.1.2.1
    refine Rt.iq (by decide) (Rt.bn (wr20 z2 (fun _ => by omega) (by omega) (by omega)) (fun S3 r3 q3 => ?_))
    obtain ⟨p3, t, e3, z3, g3, w1, w2, w3, w4, w5⟩ := q3
    subst e3
    obtain ⟨f, g0, L, ⟨h1, h2', h3, h4, h5, h6⟩, ⟨h7', h8⟩, ⟨h9, h10, h11, h12⟩, h13, h14⟩ := hFI
    have hz := z2.2.2.2.2
    have h23 := g3.2.2.2.2.1.1
    have hx : ∀ a : Nat, a < Zz S2 → ZF S3 a = ZF S2 a := fun a ha => g3.2.2.1 a ha (fun q => q)
    have s3 : St (fun b => b = e ∨ b = e + 1) S S3 e (.inr (16, itV pp nm 12 n lv (e + 1) (.ref (e + 2)) (.ref (e + 3)) .null (.ref (e + 5)) (.ref (e + 6)) .null .null (.ref (e + 4)) 0)) (7 + 2 * (p1 - pp) + (p3 - (p1 + 1) + 1)) (70 + 10 * (p1 - pp) + (5 * (p3 - (p1 + 1)) + 5)) := ⟨h2.n g3, fun _ => Or.inl rfl, g3.in h1, (hx e (hz e h1)).trans h2', by omega, by omega⟩
    refine Rt.pv s3 z3 (Nat.le_of_ble_eq_true rfl) (show va_rf (some t) = .ref t from rfl) (fun S4 s4 z4 u4 => ?_)
    have y3 := u4.2.2.1; have y4 := u4.2.2.2.1
    have hx4 : ∀ a : Nat, a ≠ e → a < Zz S2 → ZF S4 a = ZF S2 a := fun a e1 e2 => (u4.1 a e1).trans (hx a e2)
    have mm : ∀ a : Nat, a ∈ ZL S2 → a ∈ ZL S4 := fun a ha => by rw [u4.2.1]; exact g3.in ha
    have h02 := h2.2.2.2.2.1.1
    have q43 : Zi S4 3 = 0 → Zi S3 3 = 0 := fun q => by rw [← u4.2.2.2.2.1]; exact q
    refine fn194 (rs := .ref t) (q0 := q0) hs r1 r2 ⟨f, g0, L, ⟨mm _ h1, s4.2.2.2.1, rfl, rfl, rfl, rfl⟩, ⟨mm _ h7', (hx4 _ (by omega) (hz _ h7')).trans h8⟩, ⟨mm _ h9, (hx4 _ (by omega) (hz _ h9)).trans h10, h11, h12⟩, fun a ha => ⟨(h13 a ha).1, by have := (h13 a ha).2; omega⟩, fun q => ?_⟩ s4.1 ⟨mm _ m3.1, (hx4 _ (by omega) (hz _ m3.1)).trans m3.2⟩ ⟨mm _ m4.1, (hx4 _ (by omega) (hz _ m4.1)).trans m4.2⟩ ⟨mm _ m6.1, (hx4 _ (by omega) (hz _ m6.1)).trans m6.2⟩ ⟨mm _ m5, (hx4 _ (by omega) (hz _ m5)).trans f5⟩ z4 (by omega) (by omega) (by omega) (fun q => ?_)
    · obtain ⟨c1, c2, c3, c4⟩ := h14 (g3.2.2.2.2.2 (q43 q))
      exact ⟨c1, fun i hi => by obtain ⟨s, d1, d2, d3⟩ := c2 i hi; exact ⟨s, d1, d2, by omega⟩, chT_im (fun a ha => ⟨ha, hx4 a (by have := (h13 a ha).1; omega) (h13 a ha).2⟩) (fun _ _ => rfl) c3, by omega⟩
    · have q2 := g3.2.2.2.2.2 (q43 q)
      obtain ⟨c1, c2, c3, c4⟩ := hgd2 q2
      obtain ⟨d1, d2, d3, d4⟩ := h7 q2
      obtain ⟨e1, e2, e3, e4⟩ := h14 q2
      have w6 := w5 (q43 q)
      rw [show Zr S2 5 = Zr S 5 by rw [h2.2.1.1]] at w6
      have w7 := isT_lt w6
      exact ⟨c1, d1, by omega, d3, fun i hi => by obtain ⟨s, k1, k2, k3⟩ := d4 i hi; exact ⟨s, k1, k2, by omega⟩, by omega, by omega, Or.inr ⟨t, p1 + 1, p3, rfl, by omega, Nat.le_refl _, isT_ex (iv_ex (by omega) (by omega) (fun a k1 k2 => u4.1 a (by omega))) (isT_le w6 (by omega))⟩⟩
/-- the parameters -/
theorem fn135 (hs : Zz S = e + 2) (r1 : Zz S + 8 * (T - pp) + 30 ≤ K.2.1) (r2 : Zn S + 120 * (T - pp) + 700 ≤ K.2.2) : ∀ (m : Nat) {S1 : Sg} {p1 n q0 lv vv : Nat} {mo : Int32}, 1 ≤ m → (Zi S1 3 = 0 → T + 1 ≤ p1 + m) → FB K S S1 e pp n p1 q0 lv nm → RZ S1 T p1 0 vv 0 → pp < p1 → Zz S1 ≤ Zz S + 7 + 2 * (p1 - pp) → Zn S1 ≤ Zn S + 70 + 10 * (p1 - pp) → (Zi S1 3 = 0 → vv = n ∧ pp + 3 ≤ p1 ∧ Zz S1 ≤ Zz S + 5 + 2 * (p1 - pp) ∧ Zn S1 ≤ Zn S + 60 + 10 * (p1 - pp)) → Rt (f_function_135 K m S1 (some e) mo) (fun S2 _ => ItP K T S pp e S2)
  | 0, _, _, _, _, _, _, _, h, _, _, _, _, _, _, _ => absurd h (by omega)
  | m + 1, S1, p1, n, q0, lv, vv, mo, _, hm, hB, z1, hp, k1, k2, hgd => by
    have hT1 := z1.1.2.1; have hT := z1.1.2.2.1
    have h171 : Rt (f_function_171 K S1 (some e)) (fun S2 _ => ItP K T S pp e S2) := by
      unfold f_function_171
      refine Rt.bn (take_ z1 (by decide)) (fun S2 _ q2 => ?_)
      obtain ⟨p2, z2, g2, w1, w2, w3⟩ := q2
      have y1 := g2.2.2.2.1; have y2 := g2.2.2.2.2
      refine fn177 hs r1 r2 (hB.ss g2 w1) z2 (by omega) (by omega) (by omega) (fun q => ?_)
      have c := hgd (g2.1.2.2.2.2.2 q); have := (w3 q).2
      exact ⟨c.1, by omega, by omega, by omega⟩
    unfold f_function_135
    refine Rt.ok (fun q1 => Rt.it (fun _ => h171) (fun _ => ?_)) (fun _ => h171)
    have hm1 := hm q1
    obtain ⟨c1, c2, c3, c4⟩ := hgd q1
    obtain ⟨hFI, hg, m3, m4, m6, gl, m5, f5, h7⟩ := hB
    have hz := z1.2.2.2.2
    refine Rt.bn (fld_ hs hFI hg.2.1.1 hg.2.2.2.2.1.1 z1 q1 (by omega) hp (by omega) (by omega)) (fun S2 _ q2 => ?_)
    obtain ⟨p2, q2', w1, z2, g2, w2, w3, w4, w5⟩ := q2
    have hx : ∀ a : Nat, a ≠ e → a ≠ e + 1 → a ≠ e + 2 → a < Zz S1 → ZF S2 a = ZF S1 a := fun a e1 e2 e3 e4 => g2.2.2.1 a e4 (fun w => by rcases w with w | w | w <;> contradiction)
    have hB2 : FB K S S2 e pp (n + 1) p2 q2' lv nm := ⟨w1, hg.tr g2 (fun b hb q => by rcases q with q | q | q; exact Or.inl q; exact Or.inr q; omega), ⟨g2.in m3.1, (hx _ (by omega) (by omega) (by omega) (hz _ m3.1)).trans m3.2⟩, ⟨g2.in m4.1, (hx _ (by omega) (by omega) (by omega) (hz _ m4.1)).trans m4.2⟩, ⟨g2.in m6.1, (hx _ (by omega) (by omega) (by omega) (hz _ m6.1)).trans m6.2⟩, gl, g2.in m5, (hx _ (by omega) (by omega) (by omega) (hz _ m5)).trans f5, fun q => by
      obtain ⟨d1, d2, d3, d4⟩ := h7 q1
      exact ⟨d1, by omega, d3, fun i hi => by obtain ⟨s, k1, k2, k3⟩ := d4 i hi; exact ⟨s, k1, k2, by omega⟩⟩⟩
    refine Rt.bd (v := Ui S2 16 (nI (vv + 1))) (by rw [z2.2.2.1, ← nI_1]; rfl) ?_
    have g3 : SS S2 (Ui S2 16 (nI (vv + 1))) := SS.ui (by decide)
    have z3 : RZ (Ui S2 16 (nI (vv + 1))) T p2 0 (vv + 1) 0 := z2.va
    refine Rt.bn (takes_ z3 (by decide)) (fun S4 r4 q4 => ?_)
    obtain ⟨p4, z4, g4, i4, q4⟩ := q4
    have hp4 : p2 ≤ p4 := by rcases q4 with ⟨_, w, _⟩ | ⟨_, w, _⟩ <;> omega
    have g24 := g3.tr g4
    have y1 := g24.2.2.2.1; have y2 := g24.2.2.2.2
    refine fn135 hs r1 r2 m (by omega) (fun q => ?_) (hB2.ss g24 hp4) z4 (by omega) (by omega) (by omega) (fun q => ?_)
    · have := w5 (g24.1.2.2.2.2.2 q); omega
    · have := w5 (g24.1.2.2.2.2.2 q)
      exact ⟨by omega, by omega, by omega, by omega⟩
theorem fn103 (hs : Zz S = e + 2) (r1 : Zz S + 8 * (T - pp) + 30 ≤ K.2.1) (r2 : Zn S + 120 * (T - pp) + 700 ≤ K.2.2) {S1 : Sg} {p1 q0 lv ns vv bb : Nat} (hB : FB K S S1 e pp 0 p1 q0 lv nm) (z1 : RZ S1 T p1 ns vv bb) (hp : pp < p1) (k1 : Zz S1 ≤ Zz S + 5) (k2 : Zn S1 ≤ Zn S + 60) : Rt (f_function_103 K S1 (some e)) (fun S2 _ => ItP K T S pp e S2) := by
  have hT1 := z1.1.2.1; have hT := z1.1.2.2.1
  unfold f_function_103
  refine Rt.bd (v := Ui S1 15 (nI 0)) rfl (Rt.bd (v := Ui (Ui S1 15 (nI 0)) 16 (nI 0)) rfl (Rt.bd (v := Ui (Ui (Ui S1 15 (nI 0)) 16 (nI 0)) 17 (nI 0)) rfl ?_))
  have g2 : SS S1 (Ui (Ui (Ui S1 15 (nI 0)) 16 (nI 0)) 17 (nI 0)) := ((SS.ui (by decide)).tr (SS.ui (by decide))).tr (SS.ui (by decide))
  have z2 : RZ (Ui (Ui (Ui S1 15 (nI 0)) 16 (nI 0)) 17 (nI 0)) T p1 0 0 0 := (RZ.va (RZ.ne z1)).bo
  refine Rt.bn (take_ z2 (by decide)) (fun S3 _ q3 => ?_)
  obtain ⟨p3, z3, g3, w1, w2, w3⟩ := q3
  refine Rt.bn (takes_ z3 (by decide)) (fun S4 r4 q4 => ?_)
  obtain ⟨p4, z4, g4, i4, q4⟩ := q4
  have g14 := (g2.tr g3).tr g4
  have y1 := g14.2.2.2.1; have y2 := g14.2.2.2.2
  have hp4 : p3 ≤ p4 := by rcases q4 with ⟨_, w, _⟩ | ⟨_, w, _⟩ <;> omega
  have hB4 := hB.ss g14 (p2 := p4) (by omega)
  have hgd : Zi S4 3 = 0 → p3 = p1 + 1 ∧ pp + 2 ≤ p1 := fun q => by
    have q3 := g4.1.2.2.2.2.2 q
    obtain ⟨_, _, _, _, _, gl, _, _, h7⟩ := hB
    have := h7 ((g2.tr g3).1.2.2.2.2.2 q3)
    exact ⟨(w3 q3).2, this.2.1⟩
  rcases q4 with ⟨u1, u2, _⟩ | ⟨u1, u2, _⟩
  · subst u1 u2
    refine Rt.ip rfl (fn135 hs r1 r2 bigN (by decide) (fun _ => by show T + 1 ≤ _ + 1000000000000; omega) hB4 z4 (by omega) (by omega) (by omega) (fun q => ?_))
    have := hgd q
    exact ⟨rfl, by omega, by omega, by omega⟩
  · subst u1 u2
    refine Rt.iq (by decide) (fn177 hs r1 r2 hB4 z4 (by omega) (by omega) (by omega) (fun q => ?_))
    have := hgd q
    exact ⟨rfl, by omega, by omega, by omega⟩
end FNC
end
-- k5.a.lean.txt
section
/-- of all but counters and fault nothing has changed -/
def PF (S S2 : Sg) : Prop := (ZF S2 = ZF S ∧ ZL S2 = ZL S ∧ Zz S2 = Zz S ∧ Zn S2 = Zn S) ∧ (Zr S2 = Zr S ∧ Zl S2 = Zl S ∧ Zq S2 = Zq S ∧ Zf S2 = Zf S) ∧ (∀ j : Nat, j ≠ 3 → j ≠ 4 → j ≠ 13 → j ≠ 14 → Zi S2 j = Zi S j) ∧ (Zi S2 3 = 0 → Zi S 3 = 0)
theorem PF.fl {S : Sg} {wh x : Int32} : PF S (flS S wh x) := ⟨⟨flS_st.2.1, flS_st.1, flS_st.2.2.1, flS_st.2.2.2.1⟩, SS.fl.1.2.1, fun _ a b _ _ => flS_i a b, SS.fl.1.2.2.2.2.2⟩
theorem PF.cu {S S1 : Sg} {k : Nat} {v : Int32} (h : PF S S1) (hk : k = 13 ∨ k = 14) : PF S (Ui S1 k v) := ⟨h.1, h.2.1, fun j a b c d => (Zi_n (by rcases hk with w | w <;> rw [w] <;> assumption)).trans (h.2.2.1 j a b c d), fun q => h.2.2.2 (by rwa [Zi_n (by rcases hk with w | w <;> rw [w] <;> decide)] at q)⟩
theorem PF.rf {S : Sg} : PF S S := ⟨⟨rfl, rfl, rfl, rfl⟩, ⟨rfl, rfl, rfl, rfl⟩, fun _ _ _ _ _ => rfl, id⟩
theorem RZ.cu {S : Sg} {T pp ns vv bb k : Nat} {v : Int32} (h : RZ S T pp ns vv bb) (hk : k = 13 ∨ k = 14) : RZ (Ui S k v) T pp ns vv bb := ⟨⟨(Zi_n (by rcases hk with w | w <;> rw [w] <;> decide)).trans h.1.1, h.1.2⟩, (Zi_n (by rcases hk with w | w <;> rw [w] <;> decide)).trans h.2.1, (Zi_n (by rcases hk with w | w <;> rw [w] <;> decide)).trans h.2.2.1, (Zi_n (by rcases hk with w | w <;> rw [w] <;> decide)).trans h.2.2.2.1, h.2.2.2.2⟩
/-- what an item's reading gives: its counter k, at most mx, has gone up -/
def ItC (K : Ky) (T : Nat) (S : Sg) (pp e k : Nat) (mx : Int32) (S2 : Sg) : Prop := ∃ S1 : Sg, PF S S1 ∧ ItP K T S1 pp e S2 ∧ (Zi S2 3 = 0 → Zi S k ≠ mx ∧ S1 = Ui S k (Zi S k + 1))
section FND
variable {K : Ky} {T e pp ns vv bb : Nat} {S : Sg}
/-- function, behind its count -/
theorem fun18 {S1 : Sg} (hS1 : Ui S1 14 (Zi S1 14 + 1) = S) (h : RZ S T pp ns vv bb) (hs : Zz S = e + 2) (he : e ∈ ZL S) (hF : ZF S e = .inr (16, itV pp 0 12 0 0 (e + 1) .null .null .null .null .null .null .null .null 0)) {g1 : Nat → Int32} (hna : e + 1 ∈ ZL S) (hN : ZF S (e + 1) = .inl (K.1 0, 13, .inl g1)) (hk : Zr S 5 pp = 12) (r1 : Zz S + 8 * (T - pp) + 30 ≤ K.2.1) (r2 : Zn S + 120 * (T - pp) + 700 ≤ K.2.2) : Rt (f_function_18 K S1 (some e)) (fun S2 _ => ItP K T S pp e S2) := by
    have hp := h.1.2.1; have hT := h.1.2.2.1
    unfold f_function_18
    refine Rt.bd (v := S) (by rw [← hS1]; rfl) ?_
    have z2 := h
    refine Rt.pi z2 (z2.nx (k := 12) hk (by decide)) (fun S4 g4 z4 i4 => ?_)
    have g04 := g4
    have s4 : St (fun b => b = e) S S4 e (.inr (16, itV pp 0 12 0 0 (e + 1) .null .null .null .null .null .null .null .null 0)) 0 0 := St.ss ⟨GR.rf, fun _ => rfl, he, hF, Nat.le_refl _, Nat.le_refl _⟩ g04
    have y1 := g04.2.2.2.1; have y2 := g04.2.2.2.2
    -- its rows, against S4
    have s44 : St (fun b => b = e) S4 S4 e (.inr (16, itV pp 0 12 0 0 (e + 1) .null .null .null .null .null .null .null .null 0)) 0 0 := ⟨GR.rf, fun _ => rfl, s4.2.2.1, s4.2.2.2.1, Nat.le_refl _, Nat.le_refl _⟩
    refine fnA_ (S := S4) (by omega) SS.rf s44 z4 rfl (by omega) (by omega) (fun S3 hA z3 => ?_)
    obtain ⟨a1, a2, a3, a4, a5, a6, a7, a8, a9⟩ := hA
    refine Rt.bn (name_ z3) (fun S5 r5 q5 => ?_)
    obtain ⟨p5, z5, g5, w1, w2, w3⟩ := q5
    refine Rt.pv (a1.ss g5) z5 (Nat.le_of_ble_eq_true rfl) rfl (fun S7 s7 z7 u7 => ?_)
    have hzr : Zr S7 = Zr S := by rw [s7.1.2.1.1, g04.1.2.1.1]
    have e7 : Zz S7 = e + 7 := u7.2.2.1.trans (g5.2.2.2.1.trans a2)
    have x7 := s7.2.2.2.2.2
    have hx : ∀ b : Nat, b ≠ e → ZF S7 b = ZF S3 b := fun b hb => by rw [u7.1 b hb, g5.2.1]
    have mm : ∀ b : Nat, b ∈ ZL S3 → b ∈ ZL S7 := fun b hb => by rw [u7.2.1, g5.2.2.1]; exact hb
    have hg7 : GR (fun b => b = e ∨ b = e + 1) S S7 := (g04.1.mo (fun _ _ q => q.elim)).tr s7.1 (fun b _ q => Or.inl q)
    have hB : FB K S S7 e pp 0 p5 (pp + 1) 0 r5 := by
      refine ⟨⟨fun _ => none, g1, [], ⟨s7.2.2.1, s7.2.2.2.1, rfl, rfl, rfl, rfl⟩, ⟨s7.1.in (by rw [g04.2.2.1]; exact hna), ?_⟩, ⟨mm _ a5.1, (hx _ (by omega)).trans a5.2, by omega, List.not_mem_nil⟩, fun a ha => absurd ha List.not_mem_nil, fun q => ⟨by omega, fun i hi => absurd hi (by omega), chT_0, ?_⟩⟩, hg7, ⟨mm _ a6.1, (hx _ (by omega)).trans a6.2⟩, ⟨mm _ a7.1, (hx _ (by omega)).trans a7.2⟩, ⟨mm _ a9.1, (hx _ (by omega)).trans a9.2⟩, fun _ => 0, mm _ a8.1, (hx _ (by omega)).trans a8.2, fun q => ?_⟩
      · rw [hx _ (by omega), a4 _ (by omega) (by omega), g04.2.1]; exact hN
      · have := w3 (by rw [← u7.2.2.2.2.1]; exact q); omega
      · obtain ⟨c1, c2, c3⟩ := w3 (by rw [← u7.2.2.2.2.1]; exact q)
        exact ⟨c3, by omega, by omega, fun i hi => absurd hi (by omega)⟩
    refine Rt.bn (takes_ z7 (by decide)) (fun S8 r8 q8 => ?_)
    obtain ⟨p8, z8, g8, i8, q8⟩ := q8
    have hp8 : p5 ≤ p8 := by rcases q8 with ⟨_, w, _⟩ | ⟨_, w, _⟩ <;> omega
    have hB8 := hB.ss g8 hp8
    have y8 := g8.2.2.2.1; have m8 := g8.2.2.2.2
    have hno := fn103 hs r1 r2 hB8 z8 (by omega) (by omega) (by omega)
    refine Rt.it (fun _ => hno) (fun hr => ?_)
    obtain ⟨hFI, hg, m3, m4, m6, gl, m5, f5, h7⟩ := hB8
    obtain ⟨f, g0, L, ⟨h1, h2', h3, h4, h5, h6⟩, ⟨h7', h8⟩, ⟨h9, h10, h11, h12⟩, h13, h14⟩ := hFI
    refine Rt.bn (tlv_ (lf := e + 5) (pp := pp) rfl rfl rfl (by omega) z8 h1 m5 h2' f5) (fun S9 _ q9 => ?_)
    obtain ⟨p9, lv, gl9, z9, g9, ⟨y9, m9⟩, c9, l9, k9, t9⟩ := q9
    have hz := z8.2.2.2.2
    have hx9 : ∀ b : Nat, b ≠ e → b ≠ e + 5 → b < Zz S8 → ZF S9 b = ZF S8 b := fun b e1 e2 e3 => g9.2.2.1 b e3 (fun w => by rcases w with w | w <;> contradiction)
    refine fn103 (lv := lv) (q0 := pp + 1) hs r1 r2 ⟨⟨f, g0, L, ⟨g9.in h1, c9, rfl, rfl, rfl, rfl⟩, ⟨g9.in h7', (hx9 _ (by omega) (by omega) (hz _ h7')).trans h8⟩, ⟨g9.in h9, (hx9 _ (by omega) (by omega) (hz _ h9)).trans h10, h11, h12⟩, by rw [y9]; exact h13, fun q => ?_⟩, hg.tr g9 (fun b hb q => by rcases q with q | q; exact Or.inl q; omega), ⟨g9.in m3.1, (hx9 _ (by omega) (by omega) (hz _ m3.1)).trans m3.2⟩, ⟨g9.in m4.1, (hx9 _ (by omega) (by omega) (hz _ m4.1)).trans m4.2⟩, ⟨g9.in m6.1, (hx9 _ (by omega) (by omega) (hz _ m6.1)).trans m6.2⟩, gl9, g9.in m5, l9, fun q => ?_⟩ z9 (by omega) (by omega) (by omega)
    · have q8 := g9.2.2.2.2.2 q
      obtain ⟨c1, c2, c3, c4⟩ := h14 q8
      exact ⟨c1, fun i hi => absurd hi (by omega), chT_0, by omega⟩
    · have q8 := g9.2.2.2.2.2 q
      obtain ⟨d1, d2, d3, d4⟩ := h7 q8
      obtain ⟨t1, t2⟩ := t9 q
      exact ⟨d1, by omega, t1, t2⟩
/-- function -/
theorem fun_ (h : RZ S T pp ns vv bb) (hs : Zz S = e + 2) (he : e ∈ ZL S) (hF : ZF S e = .inr (16, itV pp 0 12 0 0 (e + 1) .null .null .null .null .null .null .null .null 0)) {g1 : Nat → Int32} (hna : e + 1 ∈ ZL S) (hN : ZF S (e + 1) = .inl (K.1 0, 13, .inl g1)) (hk : Zr S 5 pp = 12) (r1 : Zz S + 8 * (T - pp) + 30 ≤ K.2.1) (r2 : Zn S + 120 * (T - pp) + 700 ≤ K.2.2) : Rt (f_function K S (some e)) (fun S2 _ => ItC K T S pp e 14 40 S2) := by
  have hp := h.1.2.1; have hT := h.1.2.2.1
  have hg : ∀ S1 : Sg, PF S S1 → RZ S1 T pp ns vv bb → Rt (f_function_18 K S1 (some e)) (fun S2 _ => ItP K T (Ui S1 14 (Zi S1 14 + 1)) pp e S2) := fun S1 f1 z1 => fun18 (S := Ui S1 14 (Zi S1 14 + 1)) rfl (z1.cu (Or.inr rfl)) (f1.1.2.2.1.trans hs) (by show e ∈ ZL S1; rw [f1.1.2.1]; exact he) (by show ZF S1 e = _; rw [f1.1.1]; exact hF) (by show e + 1 ∈ ZL S1; rw [f1.1.2.1]; exact hna) (by show ZF S1 (e + 1) = _; rw [f1.1.1]; exact hN) (by show Zr S1 5 pp = _; rw [f1.2.1.1]; exact hk) (by show Zz S1 + 8 * (T - pp) + 30 ≤ _; rw [f1.1.2.2.1]; exact r1) (by show Zn S1 + 120 * (T - pp) + 700 ≤ _; rw [f1.1.2.2.2]; exact r2)
  unfold f_function
  refine Rt.it (fun _ => ?_) (fun w => (hg S PF.rf h).mo (fun S2 _ q => ⟨_, PF.rf.cu (Or.inr rfl), q, fun _ => ⟨w, rfl⟩⟩))
  rw [h.1.1]
  refine Rt.be (fail_ (by omega)) ((hg _ PF.fl h.fl).mo (fun S2 _ q => ⟨_, PF.fl.cu (Or.inr rfl), q, fun z => ?_⟩))
  obtain ⟨_, _, _, _, _, _, g, _⟩ := q
  have := g.2.2.2.2.2 z
  rw [Zi_n (by decide)] at this
  exact absurd this (flS_n0 (by decide))
end FND
end
-- k5.b.lean.txt
section
section VAR
variable {K : Ky} {T ns vv bb v wa ta pA : Nat} {S : Sg}
/-- what the parts of a variant give -/
def PaP (K : Ky) (T : Nat) (S : Sg) (ns vv bb v wa ta pA : Nat) (S2 : Sg) : Prop := ∃ (p2 k : Nat) (f : Nat → Option Nat) (M : List Nat), RZ S2 T p2 ns vv bb ∧ GR (fun b => b = v ∨ b = wa) S S2 ∧ ZF S2 v = .inr (17, [.int (nI k), .ref wa, .ref ta]) ∧ ZF S2 wa = .inl (K.1 12, 12, .inr (.inr (.inr (.inr f)))) ∧ (∀ a ∈ M, Zz S ≤ a ∧ a < Zz S2) ∧ pA ≤ p2 ∧ Zz S2 ≤ Zz S + 2 * (p2 - pA) + 1 ∧ Zn S2 ≤ Zn S + 10 * (p2 - pA) + 5 ∧ (Zi S2 3 = 0 → k ≤ 12 ∧ Zz S2 ≤ Zz S + 2 * (p2 - pA) ∧ Zn S2 ≤ Zn S + 10 * (p2 - pA) ∧ ∃ q' : Nat, chT M (ZF S2) (Zr S 5) f k pA q' ∧ q' ≤ p2)
theorem va109 (hn : ns ≤ 16) (hv : v ∈ ZL S) (hw : wa ∈ ZL S) (hvz : v < Zz S) (hwz : wa < Zz S) (r1 : Zz S + 2 * (T - pA) + 3 ≤ K.2.1) (r2 : Zn S + 10 * (T - pA) + 20 ≤ K.2.2) : ∀ (m : Nat) {S1 : Sg} {p1 k : Nat} {f : Nat → Option Nat} {M : List Nat} {mo : Int32}, 1 ≤ m → (Zi S1 3 = 0 → T + 1 ≤ p1 + m) → RZ S1 T p1 ns vv bb → GR (fun b => b = v ∨ b = wa) S S1 → ZF S1 v = .inr (17, [.int (nI k), .ref wa, .ref ta]) → ZF S1 wa = .inl (K.1 12, 12, .inr (.inr (.inr (.inr f)))) → (∀ a ∈ M, Zz S ≤ a ∧ a < Zz S1) → pA ≤ p1 → Zz S1 ≤ Zz S + 2 * (p1 - pA) + 1 → Zn S1 ≤ Zn S + 10 * (p1 - pA) + 5 → (Zi S1 3 = 0 → k ≤ 12 ∧ Zz S1 ≤ Zz S + 2 * (p1 - pA) ∧ Zn S1 ≤ Zn S + 10 * (p1 - pA) ∧ ∃ q' : Nat, chT M (ZF S1) (Zr S 5) f k pA q' ∧ q' ≤ p1) → Rt (f_variant_109 K m S1 (some v) mo) (fun S2 _ => PaP K T S ns vv bb v wa ta pA S2)
  | 0, _, _, _, _, _, _, h, _, _, _, _, _, _, _, _, _, _ => absurd h (by omega)
  | m + 1, S1, p1, k, f, M, mo, _, hm, z1, g1, hV, hR, hM, hp, k1, k2, hgd => by
    have hT1 := z1.1.2.1; have hT := z1.1.2.2.1
    have hvw : v ≠ wa := ne_or hV hR
    have h01 := g1.2.2.2.2.1.1
    have hend : Rt (f_variant_247 K S1) (fun S2 _ => PaP K T S ns vv bb v wa ta pA S2) := by
      unfold f_variant_247
      refine Rt.bn (take_ z1 (by decide)) (fun S2 _ q2 => Rt.rt ?_)
      obtain ⟨p2, z2, g2, w1, w2, w3⟩ := q2
      have y1 := g2.2.2.2.1; have y2 := g2.2.2.2.2
      refine ⟨p2, k, f, M, z2, g1.n g2.1, by rw [g2.2.1]; exact hV, by rw [g2.2.1]; exact hR, by rw [y1]; exact hM, by omega, by omega, by omega, fun q => ?_⟩
      obtain ⟨c1, c2, c3, q', c4, c5⟩ := hgd (g2.1.2.2.2.2.2 q)
      exact ⟨c1, by omega, by omega, q', by rw [g2.2.1]; exact c4, by omega⟩
    unfold f_variant_109
    refine Rt.ok (fun q1 => Rt.it (fun _ => hend) (fun _ => ?_)) (fun _ => hend)
    have hm1 := hm q1
    obtain ⟨c1, c2, c3, q', c4, c5⟩ := hgd q1
    have hkd : Zr S1 5 = Zr S 5 := by rw [g1.2.1.1]
    have h203 : ∀ S2 : Sg, SS S1 S2 → RZ S2 T p1 ns vv bb → (Zi S2 3 = 0 → (Zr S 5 p1 = 26 ∨ Zr S 5 p1 = 27 ∨ Zr S 5 p1 = 25 ∨ Zr S 5 p1 = 2 ∨ Zr S 5 p1 = 23 ∨ Zr S 5 p1 = 55) → k ≠ 12) → Rt (f_variant_203 K (f_variant_109 K m) S2 (some v)) (fun S2 _ => PaP K T S ns vv bb v wa ta pA S2) := fun S2 g2 z2 h2 => by
      have y1 := g2.2.2.2.1; have y2 := g2.2.2.2.2
      unfold f_variant_203
      refine Rt.bn (wr20 z2 (fun _ => hn) (by omega) (by omega)) (fun S3 r3 q3 => ?_)
      obtain ⟨p3, t, e3, z3, g3, w1, w2, w3, w4, w5⟩ := q3
      subst e3
      have h23 := g3.2.2.2.2.1.1
      have g13 := g1.n (g2.1.n g3)
      have hV3 : ZF S3 v = .inr (17, [.int (nI k), .ref wa, .ref ta]) := (g3.2.2.1 v (by omega) (fun q => q)).trans (by rw [g2.2.1]; exact hV)
      have hR3 : ZF S3 wa = .inl (K.1 12, 12, .inr (.inr (.inr (.inr f)))) := (g3.2.2.1 wa (by omega) (fun q => q)).trans (by rw [g2.2.1]; exact hR)
      have mv := g13.in hv; have mw := g13.in hw
      have hMv : ∀ a ∈ M, a ≠ v ∧ a ≠ wa ∧ a < Zz S1 := fun a ha => ⟨by have := (hM a ha).1; omega, by have := (hM a ha).1; omega, (hM a ha).2⟩
      -- one more
      have h227 : ∀ (S5 : Sg) (f5 : Nat → Option Nat), RZ S5 T p3 ns vv bb → GR (fun b => b = v ∨ b = wa) S S5 → Zz S5 = Zz S3 → Zn S5 = Zn S3 → ZF S5 v = .inr (17, [.int (nI k), .ref wa, .ref ta]) → ZF S5 wa = .inl (K.1 12, 12, .inr (.inr (.inr (.inr f5)))) → (Zi S5 3 = 0 → p1 < p3 ∧ k + 1 ≤ 12 ∧ chT (M ++ iv (Zz S2) (Zz S3)) (ZF S5) (Zr S 5) f5 (k + 1) pA p3) → Rt (f_variant_227 K (f_variant_109 K m) S5 (some v)) (fun S2 _ => PaP K T S ns vv bb v wa ta pA S2) := fun S5 f5 z5 x1 x2 x3 x4 x5 x6 => by
        unfold f_variant_227
        refine Rt.bd (oI_mk (v := nI k) (x1.in hv) x4 rfl) ?_
        rw [nI_1]
        refine Rt.bd (pV_mk (v := .int (nI (k + 1))) (x1.in hv) x4 (Nat.le_of_ble_eq_true rfl)) ?_
        have z6 : RZ (UF S5 v (.inr (17, [.int (nI (k + 1)), .ref wa, .ref ta]))) T p3 ns vv bb := z5.uf
        refine Rt.bn (takes_ z6 (by decide)) (fun S7 r7 q7 => ?_)
        obtain ⟨p7, z7, g7, i7, q7⟩ := q7
        have hp7 : p3 ≤ p7 := by rcases q7 with ⟨_, w, _⟩ | ⟨_, w, _⟩ <;> omega
        have e7 : Zz S7 = Zz S3 := g7.2.2.2.1.trans x2
        have n7 : Zn S7 = Zn S3 := g7.2.2.2.2.trans x3
        have hMM : ∀ a ∈ M ++ iv (Zz S2) (Zz S3), Zz S ≤ a ∧ a < Zz S3 := fun a ha => by
          rcases List.mem_append.mp ha with w | w
          · exact ⟨(hM a w).1, by have := (hM a w).2; omega⟩
          · have := iv_m.mp w; exact ⟨by omega, this.2⟩
        refine va109 hn hv hw hvz hwz r1 r2 m (by omega) (fun q => ?_) z7 ((x1.tr GR.uf (fun b _ q => Or.inl q)).n g7.1) (by rw [g7.2.1]; exact ZF_s) (by rw [g7.2.1]; exact (ZF_n (fun q => hvw q.symm)).trans x5) (by rw [e7]; exact hMM) (by omega) (by omega) (by omega) (fun q => ?_)
        · have := x6 (by rw [i7] at q; exact q); omega
        · obtain ⟨d1, d2, d3⟩ := x6 (by rw [i7] at q; exact q)
          exact ⟨d2, by omega, by omega, p3, by rw [g7.2.1]; exact chT_im (fun a ha => ⟨ha, ZF_n (by have := (hMM a ha).1; omega)⟩) (fun _ _ => rfl) d3, by omega⟩
      refine Rt.ok (fun q3 => ?_) (fun q3 => h227 S3 f z3 g13 rfl rfl hV3 hR3 (fun q => absurd q q3))
      have d6 := w5 q3
      rw [show Zr S2 5 = Zr S 5 by rw [g2.1.2.1.1, hkd]] at d6
      have d7 := isT_lt d6
      have d8 : k ≠ 12 := h2 (g3.2.2.2.2.2 q3) (by rcases isT_kd d6 with w | w | w | w | w | w; exact Or.inl w; exact Or.inr (Or.inl w); exact Or.inr (Or.inr (Or.inl w)); exact Or.inr (Or.inr (Or.inr (Or.inl w))); exact Or.inr (Or.inr (Or.inr (Or.inr (Or.inl w)))); exact Or.inr (Or.inr (Or.inr (Or.inr (Or.inr w)))))
      have hto : okO S3 22 (some t) = true := by
        obtain ⟨vs, hv⟩ := w4.2.2
        exact okO_mk ((g3.2.2.2.1 t).mpr (Or.inr ⟨w4.1, w4.2.1⟩)) hv
      refine Rt.bd (oR_mk (v := some wa) mv hV3 rfl) (Rt.bd (oI_mk (v := nI k) mv hV3 rfl) (Rt.bd (bQ_n mw hR3 (show k < 12 by omega) (by decide) hto) ?_))
      have hx1 : exS M (ZF S1) (M ++ iv (Zz S2) (Zz S3)) (ZF (UF S3 wa (.inl (K.1 12, 12, .inr (.inr (.inr (.inr (va_up f k (some t))))))))) := fun a ha => ⟨List.mem_append_left _ ha, by rw [ZF_n (hMv a ha).2.1, g3.2.2.1 a (by have := (hMv a ha).2.2; omega) (fun q => q), g2.2.1]⟩
      have hx2 : exS (iv (Zz S2) (Zz S3)) (ZF S3) (M ++ iv (Zz S2) (Zz S3)) (ZF (UF S3 wa (.inl (K.1 12, 12, .inr (.inr (.inr (.inr (va_up f k (some t))))))))) := fun a ha => ⟨List.mem_append_right _ ha, ZF_n (by have := (iv_m.mp ha).1; omega)⟩
      exact h227 _ (va_up f k (some t)) z3.uf (g13.tr GR.uf (fun b _ q => Or.inr q)) rfl rfl ((ZF_n hvw).trans hV3) ZF_s (fun _ => ⟨d7, by omega, chT_add (chT_im hx1 (fun i hi => va_up_ne _ _ (by omega)) c4) (fun _ _ => rfl) (va_up_self _ _ _) (show q' ≤ p1 by omega) (Nat.le_refl p3) (isT_ex hx2 (isT_le d6 (by omega)))⟩)
    have h178 : Rt (f_variant_178 K (f_variant_109 K m) S1 (some v) 1) (fun S2 _ => PaP K T S ns vv bb v wa ta pA S2) := by
      unfold f_variant_178
      refine Rt.iq (by decide) (Rt.bd (oI_mk (v := nI k) (g1.in hv) hV rfl) (Rt.it (fun w => ?_) (fun w => ?_)))
      · rw [z1.1.1]
        exact Rt.be (fail_ (by omega)) (h203 _ SS.fl z1.fl (fun q => absurd q (flS_n0 (by decide))))
      · exact h203 S1 SS.rf z1 (fun _ _ u => w (by rw [u]; rfl))
    unfold f_variant_173
    refine Rt.is z1 (fun _ => h178) (fun n1 => Rt.is z1 (fun _ => h178) (fun n2 => Rt.is z1 (fun _ => h178) (fun n3 => Rt.is z1 (fun _ => h178) (fun n4 => Rt.is z1 (fun _ => h178) (fun n5 => Rt.is z1 (fun _ => h178) (fun n6 => ?_))))))
    unfold f_variant_178
    refine Rt.ip rfl (h203 S1 SS.rf z1 (fun _ w => ?_))
    rw [hkd] at n1 n2 n3 n4 n5 n6
    rcases w with w | w | w | w | w | w
    · exact absurd w n1
    · exact absurd w n2
    · exact absurd w n3
    · exact absurd w n4
    · exact absurd w n5
    · exact absurd w n6
end VAR
end
-- k5.c.lean.txt
section
/-- the variants of the enum e that were read since S: its names lie at e + 1, its variants at vr -/
def EV (K : Ky) (fk : Nat → Int32) (S S1 : Sg) (e vr pp n p1 q0 : Nat) (fs1 : List Value) : Prop := ∃ (f : Nat → Option Nat) (g : Nat → Int32) (L : List Nat), (e ∈ ZL S1 ∧ ZF S1 e = .inr (16, fs1) ∧ fs1.length = 22 ∧ fs1[3]? = some (.int (nI n)) ∧ fs1[8]? = some (.ref (e + 1)) ∧ fs1[11]? = some (.ref vr)) ∧ (e + 1 ∈ ZL S1 ∧ ZF S1 (e + 1) = .inl (K.1 0, 13, .inl g)) ∧ (vr ∈ ZL S1 ∧ ZF S1 vr = .inl (K.1 13, 13, .inr (.inr (.inr (.inr f)))) ∧ Zz S ≤ vr ∧ vr ∉ L) ∧ (∀ a ∈ L, Zz S ≤ a ∧ a < Zz S1) ∧ (Zi S1 3 = 0 → n ≤ 12 ∧ (∀ i : Nat, i < n → ∃ s : Nat, g i = nI s ∧ pp < s ∧ s < p1) ∧ chV L (ZF S1) fk (K.1 12) (K.1 4) f n (pp + 1) q0 ∧ q0 ≤ p1)
section VRT
variable {K : Ky} {T ns vv bb e vr pp n p1 q0 : Nat} {S S1 : Sg} {fs1 : List Value}
theorem vrt_ (hs : Zz S = e + 2) (hI : EV K (Zr S 5) S S1 e vr pp n p1 q0 fs1) (hg : Zr S1 = Zr S) (h01 : Zz S ≤ Zz S1) (z1 : RZ S1 T p1 ns vv bb) (q1 : Zi S1 3 = 0) (hn : ns ≤ 16) (hp : pp < p1) (r1 : Zz S1 + 2 * (T - p1) + 8 ≤ K.2.1) (r2 : Zn S1 + 30 * (T - p1) + 60 ≤ K.2.2) : Rt (f_variant K S1 (some e)) (fun S2 _ => ∃ p2 q2 : Nat, EV K (Zr S 5) S S2 e vr pp (n + 1) p2 q2 (fs1.set 3 (.int (nI (n + 1)))) ∧ RZ S2 T p2 ns vv bb ∧ GR (fun b => b = e ∨ b = e + 1 ∨ b = vr) S1 S2 ∧ p1 ≤ p2 ∧ Zz S2 ≤ Zz S1 + 2 * (p2 - p1) + 4 ∧ Zn S2 ≤ Zn S1 + 30 * (p2 - p1) + 40 ∧ (Zi S2 3 = 0 → p1 < p2 ∧ Zz S2 ≤ Zz S1 + 2 * (p2 - p1) ∧ Zn S2 ≤ Zn S1 + 30 * (p2 - p1))) := by
  obtain ⟨f, g, L, ⟨h1, h2, h3, h4, h5, h6⟩, ⟨h7, h8⟩, ⟨h9, h10, h11, h12⟩, h13, h14⟩ := hI
  obtain ⟨c1, c2, c3, c4⟩ := h14 q1
  have hT1 := z1.1.2.1; have hT := z1.1.2.2.1
  have hz := z1.2.2.2.2
  have hez := hz e h1; have hnz := hz (e + 1) h7; have hvz := hz vr h9
  have hwe : vr ≠ e := fun w => ne_or h2 h10 w.symm
  have hwe1 : vr ≠ e + 1 := ne_rr h10 h8
  unfold f_variant
  refine Rt.bd (oI_mk h1 h2 h4) ?_
  refine Rt.bn (limit_ (mx := 12) z1) (fun S2 _ q2 => ?_)
  obtain ⟨z2, g2, w2⟩ := q2
  have y2 := g2.2.2.2.1; have x2 := g2.2.2.2.2
  refine Rt.nw (X := nX) z2 (by omega) (by omega) (fun S4 s4 z4 i4 => ?_)
  have y4 : Zz S4 = Zz S1 + 1 := by have := s4.2.2.2.2.1; have := z4.2.2.2.2 _ s4.2.2.1; omega
  have x4 := s4.2.2.2.2.2
  have F4 : ∀ a : Nat, a < Zz S1 → ZF S4 a = ZF S1 a := fun a ha => (s4.1.2.2.1 a (by omega) (fun q => q)).trans (by rw [g2.2.1])
  have L4 : ∀ a : Nat, a ∈ ZL S1 → a ∈ ZL S4 := fun a ha => s4.1.in (by rw [g2.2.2.1]; exact ha)
  have v4 : ZF S4 (Zz S1) = .inr (17, [.int 0, .null, .null]) := by rw [← y2]; exact s4.2.2.2.1
  have mv4 : Zz S1 ∈ ZL S4 := by rw [← y2]; exact s4.2.2.1
  have m2 : ZF S4 e = .inr (16, fs1) := (F4 e hez).trans h2
  rw [y2]
  refine Rt.bd (oR_mk (v := some (e + 1)) (L4 e h1) m2 h5) (Rt.bd (oI_mk (L4 e h1) m2 h4) (Rt.iq (fun q => ?_) (Rt.bd (oI_mk (L4 e h1) m2 h4) ?_)))
  · have := (nI_leI (a := 13) (b := n) (by decide) (by omega)).mp q; omega
  unfold f_variant_40
  refine Rt.bn (name_ z4) (fun S5 r5 q5 => ?_)
  obtain ⟨p5, z5, g5, w3, w4, w5⟩ := q5
  have m4 : ZF S5 (e + 1) = .inl (K.1 0, 13, .inl g) := by rw [g5.2.1, F4 _ hnz]; exact h8
  refine Rt.bd (bI_n (by rw [g5.2.2.1]; exact L4 _ h7) m4 (show n < 13 by omega) (by decide)) ?_
  have m5 : ZF (UF S5 (e + 1) (.inl (K.1 0, 13, .inl (upd g n r5)))) e = .inr (16, fs1) := (ZF_n (by omega)).trans (by rw [g5.2.1]; exact m2)
  have me5 : e ∈ ZL (UF S5 (e + 1) (.inl (K.1 0, 13, .inl (upd g n r5)))) := by show e ∈ ZL S5; rw [g5.2.2.1]; exact L4 e h1
  refine Rt.bd (oR_mk (v := some vr) me5 m5 h6) (Rt.bd (oI_mk me5 m5 h4) (Rt.iq (fun q => ?_) (Rt.bd (oI_mk me5 m5 h4) ?_)))
  · have := (nI_leI (a := 13) (b := n) (by decide) (by omega)).mp q; omega
  unfold f_variant_67
  have m6 : ZF (UF S5 (e + 1) (.inl (K.1 0, 13, .inl (upd g n r5)))) vr = .inl (K.1 13, 13, .inr (.inr (.inr (.inr f)))) := (ZF_n hwe1).trans (by rw [g5.2.1, F4 _ hvz]; exact h10)
  have hvo : okO (UF S5 (e + 1) (.inl (K.1 0, 13, .inl (upd g n r5)))) 17 (some (Zz S1)) = true := okO_mk (vs := [.int 0, .null, .null]) (by show Zz S1 ∈ ZL S5; rw [g5.2.2.1]; exact mv4) ((ZF_n (by omega)).trans (by rw [g5.2.1]; exact v4))
  refine Rt.bd (bQ_n (by show vr ∈ ZL S5; rw [g5.2.2.1]; exact L4 _ h9) m6 (show n < 13 by omega) (by decide) hvo) ?_
  refine Rt.bd (oI_mk (S := UF (UF S5 (e + 1) _) vr _) me5 ((ZF_n (fun q => hwe q.symm)).trans m5) h4) ?_
  rw [nI_1]
  refine Rt.bd (pV_mk (S := UF (UF S5 (e + 1) _) vr _) (v := .int (nI (n + 1))) me5 ((ZF_n (fun q => hwe q.symm)).trans m5) (by rw [h3]; decide)) ?_
  -- the state with all three written
  have hS8 : ∃ S8 : Sg, S8 = UF (UF (UF S5 (e + 1) (.inl (K.1 0, 13, .inl (upd g n r5)))) vr (.inl (K.1 13, 13, .inr (.inr (.inr (.inr (va_up f n (some (Zz S1)))))))) ) e (.inr (16, fs1.set 3 (.int (nI (n + 1))))) := ⟨_, rfl⟩
  obtain ⟨S8, e8⟩ := hS8
  rw [← e8]
  have z8 : RZ S8 T p5 ns vv bb := by rw [e8]; exact z5.uf.uf.uf
  have g18 : GR (fun b => b = e ∨ b = e + 1 ∨ b = vr) S1 S8 := by
    rw [e8]
    exact (((((g2.1.n s4.1).n g5.1).mo (fun _ _ q => q.elim)).tr GR.uf (fun b _ q => Or.inr (Or.inl q))).tr GR.uf (fun b _ q => Or.inr (Or.inr q))).tr GR.uf (fun b _ q => Or.inl q)
  have F8 : ∀ a : Nat, a ≠ e → a ≠ e + 1 → a ≠ vr → ZF S8 a = ZF S4 a := fun a k1 k2 k3 => by rw [e8, ZF_n k1, ZF_n k3, ZF_n k2, g5.2.1]
  have y8 : Zz S8 = Zz S1 + 1 := by rw [e8]; exact g5.2.2.2.1.trans y4
  have x8 : Zn S8 = Zn S4 := by rw [e8]; exact g5.2.2.2.2
  have i8 : Zi S8 3 = 0 → Zi S5 3 = 0 := fun q => by rw [e8] at q; exact q
  have c8 : ZF S8 e = .inr (16, fs1.set 3 (.int (nI (n + 1)))) := by rw [e8]; exact ZF_s
  have n8 : ZF S8 (e + 1) = .inl (K.1 0, 13, .inl (upd g n r5)) := by rw [e8, ZF_n (by omega), ZF_n (fun q => hwe1 q.symm)]; exact ZF_s
  have r8 : ZF S8 vr = .inl (K.1 13, 13, .inr (.inr (.inr (.inr (va_up f n (some (Zz S1))))))) := by rw [e8, ZF_n hwe]; exact ZF_s
  have v8 : ZF S8 (Zz S1) = .inr (17, [.int 0, .null, .null]) := (F8 _ (by omega) (by omega) (by omega)).trans v4
  have mv8 : Zz S1 ∈ ZL S8 := (g18.2.2.2.1 _).mpr (Or.inr ⟨Nat.le_refl _, by omega⟩)
  have hgd : Zi S8 3 = 0 → n < 12 ∧ p5 = p1 + 1 ∧ r5 = nI p1 := fun q => by
    obtain ⟨d1, d2, d3⟩ := w5 (i8 q)
    have hk : Zr S1 5 p1 = 2 := by rw [← g2.1.2.1.1, ← s4.1.2.1.1]; exact d1
    have d5 := w2 (by rw [← i4]; exact g5.1.2.2.2.2.2 (i8 q)) hk
    exact ⟨by omega, d2, d3⟩
  have hL1 : ∀ a ∈ L, a ≠ e ∧ a ≠ e + 1 ∧ a ≠ vr ∧ a < Zz S1 := fun a ha => ⟨by have := (h13 a ha).1; omega, by have := (h13 a ha).1; omega, fun w => h12 (w ▸ ha), (h13 a ha).2⟩
  -- the end: the new variant's cells are closed
  have hfin : ∀ (S9 : Sg) (p9 : Nat), RZ S9 T p9 ns vv bb → GR (fun b => b = Zz S1) S8 S9 → p5 ≤ p9 → Zz S9 ≤ Zz S1 + 2 * (p9 - p1) + 4 → Zn S9 ≤ Zn S1 + 30 * (p9 - p1) + 40 → (Zi S9 3 = 0 → Zz S9 ≤ Zz S1 + 2 * (p9 - p1) ∧ Zn S9 ≤ Zn S1 + 30 * (p9 - p1) ∧ ∃ p' : Nat, p5 ≤ p' ∧ isPa (iv (Zz S1) (Zz S9)) (ZF S9) (Zr S 5) (K.1 12) (K.1 4) (Zz S1) p' p9) → Rt (some (S9, ())) (fun S2 _ => ∃ p2 q2 : Nat, EV K (Zr S 5) S S2 e vr pp (n + 1) p2 q2 (fs1.set 3 (.int (nI (n + 1)))) ∧ RZ S2 T p2 ns vv bb ∧ GR (fun b => b = e ∨ b = e + 1 ∨ b = vr) S1 S2 ∧ p1 ≤ p2 ∧ Zz S2 ≤ Zz S1 + 2 * (p2 - p1) + 4 ∧ Zn S2 ≤ Zn S1 + 30 * (p2 - p1) + 40 ∧ (Zi S2 3 = 0 → p1 < p2 ∧ Zz S2 ≤ Zz S1 + 2 * (p2 - p1) ∧ Zn S2 ≤ Zn S1 + 30 * (p2 - p1))) := fun S9 p9 z9 g9 k1 k2 k3 k4 => by
    have h89 := g9.2.2.2.2.1.1
    have F9 : ∀ a : Nat, a < Zz S1 → ZF S9 a = ZF S8 a := fun a ha => g9.2.2.1 a (by omega) (by omega)
    have mm : ∀ a : Nat, a ∈ ZL S1 → a ∈ ZL S9 := fun a ha => g9.in (g18.in ha)
    have hx1 : exS L (ZF S1) (L ++ iv (Zz S1) (Zz S9)) (ZF S9) := fun a ha => ⟨List.mem_append_left _ ha, by rw [F9 a (hL1 a ha).2.2.2, F8 a (hL1 a ha).1 (hL1 a ha).2.1 (hL1 a ha).2.2.1, F4 a (hL1 a ha).2.2.2]⟩
    have hx2 : exS (iv (Zz S1) (Zz S9)) (ZF S9) (L ++ iv (Zz S1) (Zz S9)) (ZF S9) := fun a ha => ⟨List.mem_append_right _ ha, rfl⟩
    refine Rt.rt ⟨p9, p9, ⟨va_up f n (some (Zz S1)), upd g n r5, L ++ iv (Zz S1) (Zz S9), ⟨mm _ h1, (F9 _ hez).trans c8, by rw [List.length_set]; exact h3, by rw [List.getElem?_set_self (by rw [h3]; decide)], by rw [List.getElem?_set_ne (by decide)]; exact h5, by rw [List.getElem?_set_ne (by decide)]; exact h6⟩, ⟨mm _ h7, (F9 _ hnz).trans n8⟩, ⟨mm _ h9, (F9 _ hvz).trans r8, h11, fun q => ?_⟩, fun a ha => ?_, fun q => ?_⟩, z9, g18.tr g9 (fun b hb q => absurd q (by omega)), by omega, k2, k3, fun q => ?_⟩
    · rcases List.mem_append.mp q with w | w
      · exact h12 w
      · have := (iv_m.mp w).1; omega
    · rcases List.mem_append.mp ha with w | w
      · exact ⟨(h13 a w).1, by have := (h13 a w).2; omega⟩
      · have := iv_m.mp w; exact ⟨by omega, this.2⟩
    · obtain ⟨d1, d2, d3⟩ := hgd (g9.2.2.2.2.2 q)
      obtain ⟨d4, d5, p', d7, d6⟩ := k4 q
      refine ⟨by omega, fun i hi => ?_, chV_add (chV_im hx1 (fun i hi => va_up_ne _ _ (by omega)) c3) (fun _ _ => rfl) (va_up_self _ _ _) (show q0 ≤ p' by omega) (Nat.le_refl p9) (isPa_ex hx2 d6) (fun i u ta hi e1 k1 k2 => ?_), Nat.le_refl _⟩
      · by_cases ei : i = n
        · subst ei; exact ⟨p1, (if_pos rfl).trans d3, hp, by omega⟩
        · obtain ⟨s, u1, u2, u3⟩ := c2 i (by omega)
          exact ⟨s, (if_neg ei).trans u1, u2, by omega⟩
      · have y1 := isPa_ta d6 k2
        obtain ⟨ps9, _, _, c4, _⟩ := c3
        obtain ⟨t9, _, _, i1, _, _, i2⟩ := c4 i hi
        rw [va_up_ne _ _ (show i ≠ n by omega), i1] at e1
        cases e1
        unfold taOf at k1
        rw [(hx1 _ i2.1).2] at k1
        have y2 := (h13 _ (isPa_ta i2 k1)).2
        have := (iv_m.mp y1).1
        omega
    · obtain ⟨d1, d2, d3⟩ := hgd (g9.2.2.2.2.2 q)
      obtain ⟨d4, d5, d6⟩ := k4 q
      exact ⟨by omega, d4, d5⟩
  refine Rt.bn (takes_ z8 (by decide)) (fun S9 r9 q9 => ?_)
  obtain ⟨p9, z9, g9, i9, q9⟩ := q9
  have y9 := g9.2.2.2.1; have x9 := g9.2.2.2.2
  rcases q9 with ⟨u1, u2, _⟩ | ⟨u1, u2, u3, _⟩
  · subst u1 u2
    refine Rt.ip rfl (hfin S9 _ z9 (g9.1.mo (fun _ _ q => q.elim)) (Nat.le_refl _) (by omega) (by omega) (fun q => ?_))
    have := hgd (by rw [← i9]; exact q)
    exact ⟨by omega, by omega, _, Nat.le_refl _, iv_m.mpr ⟨Nat.le_refl _, by omega⟩, Nat.le_refl _, Or.inl (by rw [g9.2.1]; exact v8)⟩
  · subst u1 u2
    have hT9 := z9.1.2.1
    obtain ⟨e1, e2, e3⟩ := hgd u3
    have s9 : St (fun b => b = Zz S1) S8 S9 (Zz S1) (.inr (17, [.int 0, .null, .null])) 0 0 := ⟨g9.1.mo (fun _ _ q => q.elim), fun _ => rfl, by rw [g9.2.2.1]; exact mv8, by rw [g9.2.1]; exact v8, by omega, by omega⟩
    refine Rt.iq (by decide) (Rt.nqp (n := 12) s9 z9 (Nat.le_of_ble_eq_true rfl) (by decide) (by omega) (by omega) (fun S10 s10 z10 n10 => ?_))
    have y10 := n10.2.2.2.1; have x10 := s10.2.2.2.2.2
    refine Rt.nqp (n := 12) s10 z10 (Nat.le_of_ble_eq_true rfl) (by decide) (by omega) (by omega) (fun S11 s11 z11 n11 => ?_)
    have y11 := n11.2.2.2.1; have x11 := s11.2.2.2.2.2
    have w11 : ZF S11 (Zz S9) = .inl (K.1 12, 12, .inr (.inr (.inr (.inr (fun _ => none))))) := (n11.1 _ (by omega) (by omega)).trans n10.2.2.1
    have mw11 : Zz S9 ∈ ZL S11 := (s11.1.2.2.2.1 _).mpr (((s10.1.2.2.2.1 _).mp n10.2.1).imp id (fun w => ⟨w.1, by omega⟩))
    refine Rt.mo (va109 (S := S11) (v := Zz S1) (wa := Zz S9) (ta := Zz S10) (pA := p5 + 1) hn s11.2.2.1 mw11 (by omega) (by omega) (by omega) (by omega) bigN (k := 0) (M := []) (by decide) (fun _ => by show T + 1 ≤ p5 + 1 + 1000000000000; omega) z11 GR.rf s11.2.2.2.1 w11 (fun a ha => absurd ha List.not_mem_nil) (Nat.le_refl _) (by omega) (by omega) (fun _ => ⟨by omega, by omega, by omega, p5 + 1, chT_0, Nat.le_refl _⟩)) (fun S12 _ q12 => ?_)
    obtain ⟨p12, k, f12, M, z12, g12, a1, a2, a3, a4, a5, a6, a7⟩ := q12
    have hg812 : GR (fun b => b = Zz S1) S8 S12 := s11.1.tr g12 (fun b hb q => by rcases q with q | q; exact q; omega)
    have hh := hfin S12 p12 z12 hg812 (by omega) (by omega) (by omega) (fun q => ?_)
    · obtain ⟨SS2, rr, er, hr⟩ := hh
      cases er
      exact hr
    · obtain ⟨d1, d2, d3, q', d4, d5⟩ := a7 q
      have h112 := g12.2.2.2.2.1.1
      rw [show Zr S11 5 = Zr S 5 by rw [s11.1.2.1.1, g18.2.1.1, hg]] at d4
      have t12 : ZF S12 (Zz S10) = .inl (K.1 4, 12, .inr (.inr (.inr (.inr (fun _ => none))))) := (g12.2.2.1 _ (by omega) (fun w => by rcases w with w | w <;> omega)).trans n11.2.2.1
      have hxM : exS M (ZF S12) (iv (Zz S1) (Zz S12)) (ZF S12) := fun a ha => ⟨iv_m.mpr ⟨by have := (a3 a ha).1; omega, (a3 a ha).2⟩, rfl⟩
      exact ⟨by omega, by omega, p5 + 1, by omega, iv_m.mpr ⟨Nat.le_refl _, by omega⟩, by omega, Or.inr ⟨Zz S9, Zz S10, k, q', f12, a1, d1, iv_m.mpr ⟨by omega, by omega⟩, iv_m.mpr ⟨by omega, by omega⟩, a2, t12, d5, chT_im hxM (fun _ _ => rfl) d4⟩⟩
end VRT
end
-- k5.d.lean.txt
section
section TIT
variable {K : Ky} {T e pp vv bb : Nat} {S : Sg} {nm : Int32}
/-- the fields of a struct -/
theorem tiS (hs : Zz S = e + 2) (r1 : Zz S + 8 * (T - pp) + 30 ≤ K.2.1) (r2 : Zn S + 120 * (T - pp) + 700 ≤ K.2.2) : ∀ (m : Nat) {S1 : Sg} {p1 n q0 : Nat} {mo : Int32}, 1 ≤ m → (mo ≠ 0 ∨ 1 ≤ n) → (Zi S1 3 = 0 → T + 1 ≤ p1 + m) → FI K (Zr S 5) S S1 e (e + 2) pp n p1 q0 (itV pp nm 10 n 0 (e + 1) (.ref (e + 2)) (.ref (e + 3)) .null .null .null .null .null .null 0) → (e + 3 ∈ ZL S1 ∧ ZF S1 (e + 3) = .inl (K.1 4, 13, .inr (.inr (.inr (.inr (fun _ => none)))))) → GR (fun b => b = e ∨ b = e + 1) S S1 → RZ S1 T p1 0 vv bb → pp < p1 → Zz S1 ≤ Zz S + 4 + 2 * (p1 - pp) → Zn S1 ≤ Zn S + 40 + 10 * (p1 - pp) → (Zi S1 3 = 0 → nm = nI (pp + 1) ∧ pp + 3 ≤ p1 ∧ Zz S1 ≤ Zz S + 2 + 2 * (p1 - pp) ∧ Zn S1 ≤ Zn S + 26 + 10 * (p1 - pp)) → Rt (f_typeItem_120 K m S1 (some e) mo) (fun S2 _ => ItP K T S pp e S2)
  | 0, _, _, _, _, _, h, _, _, _, _, _, _, _, _, _, _ => absurd h (by omega)
  | m + 1, S1, p1, n, q0, mo, _, hmo, hm, hI, m3, hg, z1, hp, k1, k2, hgd => by
    have hT1 := z1.1.2.1; have hT := z1.1.2.2.1
    have hI' := hI
    obtain ⟨f, g, L, ⟨h1, h2, h3, h4, h5, h6⟩, ⟨h7, h8⟩, ⟨h9, h10, h11, h12⟩, h13, h14⟩ := hI'
    have hz := z1.2.2.2.2
    have h163 : (Zi S1 3 = 0 → 1 ≤ n) → Rt (f_typeItem_163 K S1) (fun S2 _ => ItP K T S pp e S2) := fun hn1 => by
      unfold f_typeItem_163
      refine Rt.bn (take_ z1 (by decide)) (fun S2 _ q2 => Rt.rt ?_)
      obtain ⟨p2, z2, g2, w1, w2, w3⟩ := q2
      have y1 := g2.2.2.2.1; have y2 := g2.2.2.2.2
      refine ⟨p2, 0, vv, bb, _, z2, hg.n g2.1, by omega, by omega, by omega, ⟨g2.1.in h1, by rw [g2.2.1]; exact h2⟩, fun q => ?_⟩
      have q1 := g2.1.2.2.2.2.2 q
      obtain ⟨c1, c2, c3, c4⟩ := hgd q1
      obtain ⟨d1, d2, d3, d4⟩ := h14 q1
      have w4 := (w3 q).2
      subst c1
      have hm9 : ∀ a : Nat, a ∈ ZL S1 → e ≤ a → a ∈ iv e (Zz S2) := fun a k1 k2 => iv_m.mpr ⟨k2, by have := hz a k1; omega⟩
      have hxL : exS L (ZF S1) (iv e (Zz S2)) (ZF S2) := fun a ha => ⟨iv_m.mpr ⟨by have := (h13 a ha).1; omega, by have := (h13 a ha).2; omega⟩, by rw [g2.2.1]⟩
      refine ⟨by omega, rfl, by omega, by omega, p2, hm9 e h1 (Nat.le_refl _), by omega, Nat.le_refl _, n, e + 1, g, hm9 _ h7 (by omega), by rw [g2.2.1]; exact h8, d1, fun i hi => by obtain ⟨s, u1, u2, u3⟩ := d2 i hi; exact ⟨s, u1, u2, by omega⟩, Or.inl ⟨e + 2, e + 3, q0, f, by rw [g2.2.1]; exact h2, ⟨rfl, hn1 q1⟩, hm9 _ h9 (by omega), hm9 _ m3.1 (by omega), by rw [g2.2.1]; exact h10, by rw [g2.2.1]; exact m3.2, by omega, chT_im hxL (fun _ _ => rfl) d3⟩⟩
    unfold f_typeItem_120
    refine Rt.ok (fun q1 => Rt.it (fun w => h163 (fun _ => hmo.resolve_left (fun z => z w))) (fun _ => ?_)) (fun z => h163 (fun q => absurd q z))
    have hm1 := hm q1
    obtain ⟨c1, c2, c3, c4⟩ := hgd q1
    refine Rt.bd (oI_mk (v := 10) h1 h2 rfl) (Rt.ip rfl ?_)
    refine Rt.bn (fld_ hs hI hg.2.1.1 hg.2.2.2.2.1.1 z1 q1 (by omega) hp (by omega) (by omega)) (fun S2 _ q2 => ?_)
    obtain ⟨p2, q2', w1, z2, g2, w2, w3, w4, w5⟩ := q2
    unfold f_typeItem_153
    refine Rt.bn (takes_ z2 (by decide)) (fun S4 r4 q4 => ?_)
    obtain ⟨p4, z4, g4, i4, q4⟩ := q4
    have hp4 : p2 ≤ p4 := by rcases q4 with ⟨_, w, _⟩ | ⟨_, w, _⟩ <;> omega
    have y1 := g4.2.2.2.1; have y2 := g4.2.2.2.2
    have hI4 : FI K (Zr S 5) S S4 e (e + 2) pp (n + 1) p4 q2' (itV pp nm 10 (n + 1) 0 (e + 1) (.ref (e + 2)) (.ref (e + 3)) .null .null .null .null .null .null 0) := by
      obtain ⟨f, g, L, ⟨h1, h2, h3, h4, h5, h6⟩, ⟨h7, h8⟩, ⟨h9, h10, h11, h12⟩, h13, h14⟩ := w1
      refine ⟨f, g, L, ⟨g4.1.in h1, by rw [g4.2.1]; exact h2, rfl, rfl, rfl, rfl⟩, ⟨g4.1.in h7, by rw [g4.2.1]; exact h8⟩, ⟨g4.1.in h9, by rw [g4.2.1]; exact h10, h11, h12⟩, by rw [g4.2.2.2.1]; exact h13, fun q => ?_⟩
      obtain ⟨d1, d2, d3, d4⟩ := h14 (g4.1.2.2.2.2.2 q)
      exact ⟨d1, fun i hi => by obtain ⟨s, u1, u2, u3⟩ := d2 i hi; exact ⟨s, u1, u2, by omega⟩, by rw [g4.2.1]; exact d3, by omega⟩
    have hx : ZF S2 (e + 3) = ZF S1 (e + 3) := g2.2.2.1 _ (hz _ m3.1) (fun w => by rcases w with w | w | w <;> omega)
    refine tiS hs r1 r2 m (by omega) (Or.inr (by omega)) (fun q => ?_) hI4 ⟨g4.1.in (g2.in m3.1), by rw [g4.2.1, hx]; exact m3.2⟩ ((hg.tr g2 (fun b hb q => by rcases q with q | q | q; exact Or.inl q; exact Or.inr q; omega)).n g4.1) z4 (by omega) (by omega) (by omega) (fun q => ?_)
    · have := w5 (g4.1.2.2.2.2.2 q); omega
    · have := w5 (g4.1.2.2.2.2.2 q)
      exact ⟨c1, by omega, by omega, by omega⟩
/-- the variants of an enum -/
theorem tiE (hs : Zz S = e + 2) (r1 : Zz S + 8 * (T - pp) + 30 ≤ K.2.1) (r2 : Zn S + 120 * (T - pp) + 700 ≤ K.2.2) : ∀ (m : Nat) {S1 : Sg} {p1 n q0 : Nat} {mo : Int32}, 1 ≤ m → (mo ≠ 0 ∨ 1 ≤ n) → (Zi S1 3 = 0 → T + 1 ≤ p1 + m) → EV K (Zr S 5) S S1 e (e + 2) pp n p1 q0 (itV pp nm 11 n 0 (e + 1) .null .null (.ref (e + 2)) .null .null .null .null .null 0) → GR (fun b => b = e ∨ b = e + 1) S S1 → RZ S1 T p1 0 vv bb → pp < p1 → Zz S1 ≤ Zz S + 6 + 2 * (p1 - pp) → Zn S1 ≤ Zn S + 60 + 30 * (p1 - pp) → (Zi S1 3 = 0 → nm = nI (pp + 1) ∧ pp + 3 ≤ p1 ∧ Zz S1 ≤ Zz S + 1 + 2 * (p1 - pp) ∧ Zn S1 ≤ Zn S + 13 + 30 * (p1 - pp)) → Rt (f_typeItem_120 K m S1 (some e) mo) (fun S2 _ => ItP K T S pp e S2)
  | 0, _, _, _, _, _, h, _, _, _, _, _, _, _, _, _ => absurd h (by omega)
  | m + 1, S1, p1, n, q0, mo, _, hmo, hm, hI, hg, z1, hp, k1, k2, hgd => by
    have hT1 := z1.1.2.1; have hT := z1.1.2.2.1
    have hI' := hI
    obtain ⟨f, g, L, ⟨h1, h2, h3, h4, h5, h6⟩, ⟨h7, h8⟩, ⟨h9, h10, h11, h12⟩, h13, h14⟩ := hI'
    have hz := z1.2.2.2.2
    have h163 : (Zi S1 3 = 0 → 1 ≤ n) → Rt (f_typeItem_163 K S1) (fun S2 _ => ItP K T S pp e S2) := fun hn1 => by
      unfold f_typeItem_163
      refine Rt.bn (take_ z1 (by decide)) (fun S2 _ q2 => Rt.rt ?_)
      obtain ⟨p2, z2, g2, w1, w2, w3⟩ := q2
      have y1 := g2.2.2.2.1; have y2 := g2.2.2.2.2
      refine ⟨p2, 0, vv, bb, _, z2, hg.n g2.1, by omega, by omega, by omega, ⟨g2.1.in h1, by rw [g2.2.1]; exact h2⟩, fun q => ?_⟩
      have q1 := g2.1.2.2.2.2.2 q
      obtain ⟨c1, c2, c3, c4⟩ := hgd q1
      obtain ⟨d1, d2, d3, d4⟩ := h14 q1
      have w4 := (w3 q).2
      subst c1
      have hm9 : ∀ a : Nat, a ∈ ZL S1 → e ≤ a → a ∈ iv e (Zz S2) := fun a k1 k2 => iv_m.mpr ⟨k2, by have := hz a k1; omega⟩
      have hxL : exS L (ZF S1) (iv e (Zz S2)) (ZF S2) := fun a ha => ⟨iv_m.mpr ⟨by have := (h13 a ha).1; omega, by have := (h13 a ha).2; omega⟩, by rw [g2.2.1]⟩
      refine ⟨by omega, rfl, by omega, by omega, p2, hm9 e h1 (Nat.le_refl _), by omega, Nat.le_refl _, n, e + 1, g, hm9 _ h7 (by omega), by rw [g2.2.1]; exact h8, d1, fun i hi => by obtain ⟨s, u1, u2, u3⟩ := d2 i hi; exact ⟨s, u1, u2, by omega⟩, Or.inr (Or.inl ⟨e + 2, q0, f, by rw [g2.2.1]; exact h2, ⟨rfl, hn1 q1⟩, hm9 _ h9 (by omega), by rw [g2.2.1]; exact h10, by omega, chV_im hxL (fun _ _ => rfl) d3⟩)⟩
    unfold f_typeItem_120
    refine Rt.ok (fun q1 => Rt.it (fun w => h163 (fun _ => hmo.resolve_left (fun z => z w))) (fun _ => ?_)) (fun z => h163 (fun q => absurd q z))
    have hm1 := hm q1
    obtain ⟨c1, c2, c3, c4⟩ := hgd q1
    refine Rt.bd (oI_mk (v := 11) h1 h2 rfl) (Rt.iq (by decide) ?_)
    refine Rt.bn (vrt_ hs hI hg.2.1.1 hg.2.2.2.2.1.1 z1 q1 (by omega) hp (by omega) (by omega)) (fun S2 _ q2 => ?_)
    obtain ⟨p2, q2', w1, z2, g2, w2, w3, w4, w5⟩ := q2
    unfold f_typeItem_153
    refine Rt.bn (takes_ z2 (by decide)) (fun S4 r4 q4 => ?_)
    obtain ⟨p4, z4, g4, i4, q4⟩ := q4
    have hp4 : p2 ≤ p4 := by rcases q4 with ⟨_, w, _⟩ | ⟨_, w, _⟩ <;> omega
    have y1 := g4.2.2.2.1; have y2 := g4.2.2.2.2
    have hI4 : EV K (Zr S 5) S S4 e (e + 2) pp (n + 1) p4 q2' (itV pp nm 11 (n + 1) 0 (e + 1) .null .null (.ref (e + 2)) .null .null .null .null .null 0) := by
      obtain ⟨f, g, L, ⟨h1, h2, h3, h4, h5, h6⟩, ⟨h7, h8⟩, ⟨h9, h10, h11, h12⟩, h13, h14⟩ := w1
      refine ⟨f, g, L, ⟨g4.1.in h1, by rw [g4.2.1]; exact h2, rfl, rfl, rfl, rfl⟩, ⟨g4.1.in h7, by rw [g4.2.1]; exact h8⟩, ⟨g4.1.in h9, by rw [g4.2.1]; exact h10, h11, h12⟩, by rw [g4.2.2.2.1]; exact h13, fun q => ?_⟩
      obtain ⟨d1, d2, d3, d4⟩ := h14 (g4.1.2.2.2.2.2 q)
      exact ⟨d1, fun i hi => by obtain ⟨s, u1, u2, u3⟩ := d2 i hi; exact ⟨s, u1, u2, by omega⟩, by rw [g4.2.1]; exact d3, by omega⟩
    refine tiE hs r1 r2 m (by omega) (Or.inr (by omega)) (fun q => ?_) hI4 ((hg.tr g2 (fun b hb q => by rcases q with q | q | q; exact Or.inl q; exact Or.inr q; omega)).n g4.1) z4 (by omega) (by omega) (by omega) (fun q => ?_)
    · have := w5 (g4.1.2.2.2.2.2 q); omega
    · have := w5 (g4.1.2.2.2.2.2 q)
      exact ⟨c1, by omega, by omega, by omega⟩
end TIT
end
-- k5.e.lean.txt
section
section TIU
variable {K : Ky} {T e pp vv bb : Nat} {S : Sg}
/-- typeItem, behind its count -/
theorem tit18 {kd : Int32} {S1 : Sg} (hS1 : Ui S1 13 (Zi S1 13 + 1) = S) (h : RZ S T pp 0 vv bb) (hs : Zz S = e + 2) (he : e ∈ ZL S) (hF : ZF S e = .inr (16, itV pp 0 kd 0 0 (e + 1) .null .null .null .null .null .null .null .null 0)) {g1 : Nat → Int32} (hna : e + 1 ∈ ZL S) (hN : ZF S (e + 1) = .inl (K.1 0, 13, .inl g1)) (hkd : kd = 10 ∨ kd = 11) (hk : Zr S 5 pp = kd) (r1 : Zz S + 8 * (T - pp) + 30 ≤ K.2.1) (r2 : Zn S + 120 * (T - pp) + 700 ≤ K.2.2) : Rt (f_typeItem_18 K S1 (some e)) (fun S2 _ => ItP K T S pp e S2) := by
    have hp := h.1.2.1; have hT := h.1.2.2.1
    unfold f_typeItem_18
    refine Rt.bd (v := S) (by rw [← hS1]; rfl) ?_
    have z2 := h
    refine Rt.pi z2 (z2.nx (k := kd) hk (by rcases hkd with w | w <;> rw [w] <;> decide)) (fun S4 g4 z4 i4 => ?_)
    have g04 := g4
    have y4 := g04.2.2.2.1; have x4 := g04.2.2.2.2
    have s4 : St (fun b => b = e) S S4 e (.inr (16, itV pp 0 kd 0 0 (e + 1) .null .null .null .null .null .null .null .null 0)) 0 0 := St.ss ⟨GR.rf, fun _ => rfl, he, hF, Nat.le_refl _, Nat.le_refl _⟩ g04
    -- name and brace, then the loop
    have hend : ∀ (S8 : Sg) (ty vr wr : Value) (zz nn : Nat) (P : Sg → Unit → Prop), St (fun b => b = e) S S8 e (.inr (16, itV pp 0 kd 0 0 (e + 1) wr ty vr .null .null .null .null .null 0)) zz nn → RZ S8 T (pp + 1) 0 vv bb → (∀ (S9 : Sg) (p9 : Nat) (nm : Int32), St (fun b => b = e) S S9 e (.inr (16, itV pp nm kd 0 0 (e + 1) wr ty vr .null .null .null .null .null 0)) zz nn → RZ S9 T p9 0 vv bb → (∀ b : Nat, b ≠ e → ZF S9 b = ZF S8 b) → ZL S9 = ZL S8 → Zz S9 = Zz S8 → pp < p9 → (Zi S9 3 = 0 → nm = nI (pp + 1) ∧ pp + 3 ≤ p9) → Rt (f_typeItem_120 K bigN S9 (some e) 1) P) → Rt (bnd (f_name K S8) fun S17 v18 => (pV S17 16 (some e) 1 (.int v18)).bind fun S19 => bnd (f_take K S19 63) fun S20 v21 => f_typeItem_120 K bigN S20 (some e) 1) P := fun S8 ty vr wr zz nn P s8 z8 kk => by
      refine Rt.bn (name_ z8) (fun S9 r9 q9 => ?_)
      obtain ⟨p9, z9, g9, w1, w2, w3⟩ := q9
      refine Rt.pv (s8.ss g9) z9 (Nat.le_of_ble_eq_true rfl) rfl (fun S10 s10 z10 u10 => ?_)
      refine Rt.bn (take_ z10 (by decide)) (fun S11 _ q11 => ?_)
      obtain ⟨p11, z11, g11, w4, w5, w6⟩ := q11
      refine kk S11 p11 r9 (s10.ss g11) z11 (fun b hb => by rw [g11.2.1, u10.1 b hb, g9.2.1]) (by rw [g11.2.2.1, u10.2.1, g9.2.2.1]) (by rw [g11.2.2.2.1, u10.2.2.1, g9.2.2.2.1]) (by omega) (fun q => ?_)
      obtain ⟨d1, d2, d3⟩ := w3 (by rw [← u10.2.2.2.2.1]; exact g11.1.2.2.2.2.2 q)
      have := (w6 q).2
      exact ⟨d3, by omega⟩
    rcases hkd with hkd | hkd
    · subst hkd
      refine Rt.bd (oI_mk (v := 10) s4.2.2.1 s4.2.2.2.1 rfl) (Rt.ip rfl ?_)
      unfold f_typeItem_57 f_typeItem_79 f_typeItem_101
      refine Rt.nqp (n := 13) s4 z4 (Nat.le_of_ble_eq_true rfl) (by decide) (by omega) (by omega) (fun S5 s5 z5 n5 => ?_)
      have y5 := n5.2.2.2.1; have x5 := s5.2.2.2.2.2
      refine Rt.bd (oI_mk (v := 10) s5.2.2.1 s5.2.2.2.1 rfl) (Rt.ip rfl ?_)
      refine Rt.nqp (n := 13) s5 z5 (Nat.le_of_ble_eq_true rfl) (by decide) (by omega) (by omega) (fun S6 s6 z6 n6 => ?_)
      have y6 := n6.2.2.2.1; have x6 := s6.2.2.2.2.2
      refine Rt.bd (oI_mk (v := 10) s6.2.2.1 s6.2.2.2.1 rfl) (Rt.iq (by decide) ?_)
      refine Rt.pv s6 z6 (Nat.le_of_ble_eq_true rfl) (show va_rf none = .null from rfl) (fun S7 s7 z7 u7 => ?_)
      have e1 : Zz S4 = e + 2 := by omega
      have e2 : Zz S5 = e + 3 := by omega
      rw [e1, e2] at s7
      unfold NR at n5 n6
      rw [e1] at n5; rw [e2] at n6
      refine hend S7 (.ref (e + 3)) .null (.ref (e + 2)) _ _ _ s7 z7 (fun S9 p9 nm s9 z9 f9 l9 q9 hp9 hgd => ?_)
      have y9 : Zz S9 = e + 4 := by rw [q9, u7.2.2.1]; omega
      have x9 := s9.2.2.2.2.2
      have hF9 : ∀ b : Nat, b ≠ e → ZF S9 b = ZF S6 b := fun b hb => by rw [f9 b hb, u7.1 b hb]
      have m2 : e + 2 ∈ ZL S9 := (s9.1.2.2.2.1 _).mpr (Or.inr ⟨by omega, by omega⟩)
      have m3 : e + 3 ∈ ZL S9 := (s9.1.2.2.2.1 _).mpr (Or.inr ⟨by omega, by omega⟩)
      refine tiS (nm := nm) hs r1 r2 bigN (n := 0) (q0 := pp + 1) (by decide) (Or.inl (by decide)) (fun _ => by show T + 1 ≤ p9 + 1000000000000; omega) ⟨fun _ => none, g1, [], ⟨s9.2.2.1, s9.2.2.2.1, rfl, rfl, rfl, rfl⟩, ⟨s9.1.in hna, ?_⟩, ⟨m2, ?_, by omega, List.not_mem_nil⟩, fun a ha => absurd ha List.not_mem_nil, fun q => ⟨by omega, fun i hi => absurd hi (by omega), chT_0, by have := hgd q; omega⟩⟩ ⟨m3, ?_⟩ (s9.1.mo (fun _ _ q => Or.inl q)) z9 hp9 (by omega) (by omega) (fun q => ⟨(hgd q).1, (hgd q).2, by omega, by omega⟩)
      · rw [s9.1.2.2.1 _ (by omega) (by omega)]; exact hN
      · rw [hF9 _ (by omega), n6.1 _ (by omega) (by omega)]; exact n5.2.2.1
      · rw [hF9 _ (by omega)]; exact n6.2.2.1
    · subst hkd
      refine Rt.bd (oI_mk (v := 11) s4.2.2.1 s4.2.2.2.1 rfl) (Rt.iq (by decide) ?_)
      unfold f_typeItem_57 f_typeItem_79 f_typeItem_101
      refine Rt.pv s4 z4 (Nat.le_of_ble_eq_true rfl) (show va_rf none = .null from rfl) (fun S5 s5 z5 u5 => ?_)
      refine Rt.bd (oI_mk (v := 11) s5.2.2.1 s5.2.2.2.1 rfl) (Rt.iq (by decide) ?_)
      refine Rt.pv s5 z5 (Nat.le_of_ble_eq_true rfl) (show va_rf none = .null from rfl) (fun S6 s6 z6 u6 => ?_)
      refine Rt.bd (oI_mk (v := 11) s6.2.2.1 s6.2.2.2.1 rfl) (Rt.ip rfl ?_)
      have y5 := u5.2.2.1; have y6 := u6.2.2.1; have x6 := s6.2.2.2.2.2
      refine Rt.nqp (n := 13) s6 z6 (Nat.le_of_ble_eq_true rfl) (by decide) (by omega) (by omega) (fun S7 s7 z7 n7 => ?_)
      have y7 := n7.2.2.2.1
      have e1 : Zz S6 = e + 2 := by omega
      rw [e1] at s7
      unfold NR at n7
      rw [e1] at n7
      refine hend S7 .null (.ref (e + 2)) .null _ _ _ s7 z7 (fun S9 p9 nm s9 z9 f9 l9 q9 hp9 hgd => ?_)
      have y9 : Zz S9 = e + 3 := by rw [q9]; omega
      have x9 := s9.2.2.2.2.2
      have m2 : e + 2 ∈ ZL S9 := (s9.1.2.2.2.1 _).mpr (Or.inr ⟨by omega, by omega⟩)
      refine tiE (nm := nm) hs r1 r2 bigN (n := 0) (q0 := pp + 1) (by decide) (Or.inl (by decide)) (fun _ => by show T + 1 ≤ p9 + 1000000000000; omega) ⟨fun _ => none, g1, [], ⟨s9.2.2.1, s9.2.2.2.1, rfl, rfl, rfl, rfl⟩, ⟨s9.1.in hna, ?_⟩, ⟨m2, ?_, by omega, List.not_mem_nil⟩, fun a ha => absurd ha List.not_mem_nil, fun q => ⟨by omega, fun i hi => absurd hi (by omega), chV_0, by have := hgd q; omega⟩⟩ (s9.1.mo (fun _ _ q => Or.inl q)) z9 hp9 (by omega) (by omega) (fun q => ⟨(hgd q).1, (hgd q).2, by omega, by omega⟩)
      · rw [s9.1.2.2.1 _ (by omega) (by omega)]; exact hN
      · rw [f9 _ (by omega)]; exact n7.2.2.1
/-- typeItem -/
theorem tit_ {kd : Int32} (h : RZ S T pp 0 vv bb) (hs : Zz S = e + 2) (he : e ∈ ZL S) (hF : ZF S e = .inr (16, itV pp 0 kd 0 0 (e + 1) .null .null .null .null .null .null .null .null 0)) {g1 : Nat → Int32} (hna : e + 1 ∈ ZL S) (hN : ZF S (e + 1) = .inl (K.1 0, 13, .inl g1)) (hkd : kd = 10 ∨ kd = 11) (hk : Zr S 5 pp = kd) (r1 : Zz S + 8 * (T - pp) + 30 ≤ K.2.1) (r2 : Zn S + 120 * (T - pp) + 700 ≤ K.2.2) : Rt (f_typeItem K S (some e)) (fun S2 _ => ItC K T S pp e 13 30 S2) := by
  have hp := h.1.2.1; have hT := h.1.2.2.1
  have hg : ∀ S1 : Sg, PF S S1 → RZ S1 T pp 0 vv bb → Rt (f_typeItem_18 K S1 (some e)) (fun S2 _ => ItP K T (Ui S1 13 (Zi S1 13 + 1)) pp e S2) := fun S1 f1 z1 => tit18 (S := Ui S1 13 (Zi S1 13 + 1)) rfl (z1.cu (Or.inl rfl)) (f1.1.2.2.1.trans hs) (by show e ∈ ZL S1; rw [f1.1.2.1]; exact he) (by show ZF S1 e = _; rw [f1.1.1]; exact hF) (by show e + 1 ∈ ZL S1; rw [f1.1.2.1]; exact hna) (by show ZF S1 (e + 1) = _; rw [f1.1.1]; exact hN) hkd (by show Zr S1 5 pp = _; rw [f1.2.1.1]; exact hk) (by show Zz S1 + 8 * (T - pp) + 30 ≤ _; rw [f1.1.2.2.1]; exact r1) (by show Zn S1 + 120 * (T - pp) + 700 ≤ _; rw [f1.1.2.2.2]; exact r2)
  unfold f_typeItem
  refine Rt.it (fun _ => ?_) (fun w => (hg S PF.rf h).mo (fun S2 _ q => ⟨_, PF.rf.cu (Or.inl rfl), q, fun _ => ⟨w, rfl⟩⟩))
  rw [h.1.1]
  refine Rt.be (fail_ (by omega)) ((hg _ PF.fl h.fl).mo (fun S2 _ q => ⟨_, PF.fl.cu (Or.inl rfl), q, fun z => ?_⟩))
  obtain ⟨_, _, _, _, _, _, g, _⟩ := q
  have := g.2.2.2.2.2 z
  rw [Zi_n (by decide)] at this
  exact absurd this (flS_n0 (by decide))
end TIU
end
