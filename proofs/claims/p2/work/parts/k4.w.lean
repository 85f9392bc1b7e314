section TLV
variable {K : Ky} {T ns vv bb e lf pp pa : Nat} {S : Sg} {fs : List Value}
/-- what takeLives gives: since S, from the token pa on; the item's first token is pp -/
def TLP (K : Ky) (T : Nat) (S : Sg) (ns vv bb e lf pp pa : Nat) (fs : List Value) (S2 : Sg) : Prop := ∃ (p2 lv : Nat) (gl : Nat → Int32), RZ S2 T p2 ns vv bb ∧ GR (fun b => b = e ∨ b = lf) S S2 ∧ (Zz S2 = Zz S ∧ Zn S2 = Zn S) ∧ ZF S2 e = .inr (16, fs.set 6 (.int (nI lv))) ∧ ZF S2 lf = .inl (K.1 0, 8, .inl gl) ∧ pa ≤ p2 ∧ (Zi S2 3 = 0 → lv ≤ 8 ∧ ∀ i : Nat, i < lv → ∃ s : Nat, gl i = nI s ∧ pp < s ∧ s < p2)
theorem tlv2 (hl : fs.length = 22) (h12 : fs[12]? = some (.ref lf)) (hpp : pp < pa) : ∀ (m : Nat) {S1 : Sg} {p1 lv : Nat} {gl : Nat → Int32} {mo : Int32}, 1 ≤ m → (Zi S1 3 = 0 → T + 1 ≤ p1 + m) → RZ S1 T p1 ns vv bb → GR (fun b => b = e ∨ b = lf) S S1 → (Zz S1 = Zz S ∧ Zn S1 = Zn S) → e ∈ ZL S1 → lf ∈ ZL S1 → ZF S1 e = .inr (16, fs.set 6 (.int (nI lv))) → ZF S1 lf = .inl (K.1 0, 8, .inl gl) → pa ≤ p1 → (Zi S1 3 = 0 → lv ≤ 8 ∧ ∀ i : Nat, i < lv → ∃ s : Nat, gl i = nI s ∧ pp < s ∧ s < p1) → Rt (f_takeLives_2 K m S1 (some e) mo) (fun S2 _ => TLP K T S ns vv bb e lf pp pa fs S2)
  | 0, _, _, _, _, _, h, _, _, _, _, _, _, _, _, _, _ => absurd h (by omega)
  | m + 1, S1, p1, lv, gl, mo, _, hm, z1, g1, hz, he, hlf, hF, hR, hp, hgd => by
    have hT1 := z1.1.2.1; have hT := z1.1.2.2.1
    have hel : e ≠ lf := ne_or hF hR
    have hend : Rt (f_takeLives_86 K S1) (fun S2 _ => TLP K T S ns vv bb e lf pp pa fs S2) := by
      unfold f_takeLives_86
      refine Rt.bn (take_ z1 (by decide)) (fun S2 _ q2 => Rt.rt ?_)
      obtain ⟨p2, z2, g2, w1, w2, w3⟩ := q2
      refine ⟨p2, lv, gl, z2, g1.n g2.1, ⟨g2.2.2.2.1.trans hz.1, g2.2.2.2.2.trans hz.2⟩, by rw [g2.2.1]; exact hF, by rw [g2.2.1]; exact hR, by omega, fun q => ?_⟩
      obtain ⟨c1, c2⟩ := hgd (g2.1.2.2.2.2.2 q)
      exact ⟨c1, fun i hi => by obtain ⟨s, d1, d2, d3⟩ := c2 i hi; exact ⟨s, d1, d2, by omega⟩⟩
    unfold f_takeLives_2
    refine Rt.ok (fun q1 => Rt.it (fun _ => hend) (fun _ => ?_)) (fun _ => hend)
    have hm1 := hm q1
    obtain ⟨c1, c2⟩ := hgd q1
    have h6 : (fs.set 6 (.int (nI lv)))[6]? = some (.int (nI lv)) := by rw [List.getElem?_set_self (by rw [hl]; decide)]
    have h12' : (fs.set 6 (.int (nI lv)))[12]? = some (.ref lf) := by rw [List.getElem?_set_ne (by decide)]; exact h12
    have h39 : ∀ S2 : Sg, SS S1 S2 → RZ S2 T p1 ns vv bb → (Zi S2 3 = 0 → Zr S1 5 p1 = 4 → lv ≠ 8) → Rt (f_takeLives_39 K (f_takeLives_2 K m) S2 (some e)) (fun S2 _ => TLP K T S ns vv bb e lf pp pa fs S2) := fun S2 g2 z2 h2 => by
      unfold f_takeLives_39
      refine Rt.bn (take_ z2 (by decide)) (fun S3 _ q3 => ?_)
      obtain ⟨p3, z3, g3, w1, w2, w3⟩ := q3
      have g13 := g2.tr g3
      have he3 : e ∈ ZL S3 := by rw [g13.2.2.1]; exact he
      have hl3 : lf ∈ ZL S3 := by rw [g13.2.2.1]; exact hlf
      have hF3 : ZF S3 e = .inr (16, fs.set 6 (.int (nI lv))) := by rw [g13.2.1]; exact hF
      have hR3 : ZF S3 lf = .inl (K.1 0, 8, .inl gl) := by rw [g13.2.1]; exact hR
      have hg3 := g1.n g13.1
      have hz3 : Zz S3 = Zz S ∧ Zn S3 = Zn S := ⟨g13.2.2.2.1.trans hz.1, g13.2.2.2.2.trans hz.2⟩
      -- one more
      have h66 : ∀ (S5 : Sg) (g5 : Nat → Int32), RZ S5 T p3 ns vv bb → GR (fun b => b = e ∨ b = lf) S S5 → (Zz S5 = Zz S ∧ Zn S5 = Zn S) → e ∈ ZL S5 → lf ∈ ZL S5 → ZF S5 e = .inr (16, fs.set 6 (.int (nI lv))) → ZF S5 lf = .inl (K.1 0, 8, .inl g5) → (Zi S5 3 = 0 → p1 < p3 ∧ lv + 1 ≤ 8 ∧ ∀ i : Nat, i < lv + 1 → ∃ s : Nat, g5 i = nI s ∧ pp < s ∧ s < p3) → Rt (f_takeLives_66 K (f_takeLives_2 K m) S5 (some e)) (fun S2 _ => TLP K T S ns vv bb e lf pp pa fs S2) := fun S5 g5 z5 x1 x2 x3 x4 x5 x6 x7 => by
        unfold f_takeLives_66
        refine Rt.bd (oI_mk x3 x5 h6) ?_
        rw [nI_1]
        refine Rt.bd (pV_mk (v := .int (nI (lv + 1))) x3 x5 (by rw [List.length_set, hl]; decide)) ?_
        rw [List.set_set]
        have z6 : RZ (UF S5 e (.inr (16, fs.set 6 (.int (nI (lv + 1)))))) T p3 ns vv bb := z5.uf
        refine Rt.bn (takes_ z6 (by decide)) (fun S7 r7 q7 => ?_)
        obtain ⟨p7, z7, g7, i7, q7⟩ := q7
        have hp7 : p3 ≤ p7 := by rcases q7 with ⟨_, w, _⟩ | ⟨_, w, _⟩ <;> omega
        refine tlv2 hl h12 hpp m (by omega) (fun q => ?_) z7 ((x1.tr GR.uf (fun b _ q => Or.inl q)).n g7.1) ⟨g7.2.2.2.1.trans x2.1, g7.2.2.2.2.trans x2.2⟩ (g7.1.in x3) (g7.1.in x4) (by rw [g7.2.1]; exact ZF_s) (by rw [g7.2.1]; exact (ZF_n (fun q => hel q.symm)).trans x6) (by omega) (fun q => ?_)
        · have := x7 (by rw [i7] at q; exact q); omega
        · obtain ⟨d1, d2, d3⟩ := x7 (by rw [i7] at q; exact q)
          exact ⟨d2, fun i hi => by obtain ⟨s, e1, e2, e3⟩ := d3 i hi; exact ⟨s, e1, e2, by omega⟩⟩
      refine Rt.ok (fun q3 => ?_) (fun q3 => h66 S3 gl z3 hg3 hz3 he3 hl3 hF3 hR3 (fun q => absurd q q3))
      obtain ⟨d1, d2⟩ := w3 q3
      have hk : Zr S1 5 p1 = 4 := by rw [← g2.1.2.1.1]; exact d1
      have d3 := h2 (g3.1.2.2.2.2.2 q3) hk
      refine Rt.bd (oR_mk (v := some lf) he3 hF3 h12') (Rt.bd (oI_mk he3 hF3 h6) (Rt.bd (bI_n hl3 hR3 (show lv < 8 by omega) (by decide)) ?_))
      refine h66 _ (upd gl lv (Zi S3 10 - 1)) z3.uf (hg3.tr GR.uf (fun b _ q => Or.inr q)) hz3 he3 hl3 ((ZF_n hel).trans hF3) ZF_s (fun _ => ⟨by omega, by omega, fun i hi => ?_⟩)
      by_cases ei : i = lv
      · subst ei; exact ⟨p1, (if_pos rfl).trans (by rw [z3.1.1, d2, nI_pred]), by omega, by omega⟩
      · obtain ⟨s, k1, k2, k3⟩ := c2 i (by omega)
        exact ⟨s, (if_neg ei).trans k1, k2, by omega⟩
    refine Rt.is z1 (fun hk => ?_) (fun hk => h39 S1 SS.rf z1 (fun _ w => absurd w hk))
    refine Rt.bd (oI_mk he hF h6) (Rt.it (fun w => ?_) (fun w => ?_))
    · rw [z1.1.1]
      exact Rt.be (fail_ (by omega)) (h39 _ SS.fl z1.fl (fun q => absurd q (flS_n0 (by decide))))
    · exact h39 S1 SS.rf z1 (fun _ _ u => w (by rw [u]; rfl))
theorem tlv_ (hl : fs.length = 22) (h12 : fs[12]? = some (.ref lf)) (h6 : fs[6]? = some (.int (nI 0))) (hpp : pp < pa) {gl : Nat → Int32} (h : RZ S T pa ns vv bb) (he : e ∈ ZL S) (hlf : lf ∈ ZL S) (hF : ZF S e = .inr (16, fs)) (hR : ZF S lf = .inl (K.1 0, 8, .inl gl)) : Rt (f_takeLives K S (some e)) (fun S2 _ => TLP K T S ns vv bb e lf pp pa fs S2) := by
  have hT1 := h.1.2.1; have hT := h.1.2.2.1
  unfold f_takeLives
  exact tlv2 hl h12 hpp bigN (lv := 0) (by decide) (fun _ => by show T + 1 ≤ pa + 1000000000000; omega) h GR.rf ⟨rfl, rfl⟩ he hlf (by rw [set_self h6]; exact hF) hR (Nat.le_refl _) (fun _ => ⟨by omega, fun i hi => absurd hi (by omega)⟩)
end TLV
