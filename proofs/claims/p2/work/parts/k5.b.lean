section VAR
variable {K : Ky} {T ns vv bb v wa ta pA : Nat} {S : Sg}
/-- what the parts of a variant give -/
def PaP (K : Ky) (T : Nat) (S : Sg) (ns vv bb v wa ta pA : Nat) (S2 : Sg) : Prop := ∃ (p2 k : Nat) (f : Nat → Option Nat) (M : List Nat), RZ S2 T p2 ns vv bb ∧ GR (fun b => b = v ∨ b = wa) S S2 ∧ ZF S2 v = .inr (17, [.int (nI k), .ref wa, .ref ta]) ∧ ZF S2 wa = .inl (K.1 12, 12, .inr (.inr (.inr (.inr f)))) ∧ (∀ a ∈ M, Zz S ≤ a ∧ a < Zz S2) ∧ pA ≤ p2 ∧ Zz S2 ≤ Zz S + 2 * (p2 - pA) + 1 ∧ Zn S2 ≤ Zn S + 10 * (p2 - pA) + 5 ∧ (Zi S2 3 = 0 → k ≤ 12 ∧ Zz S2 ≤ Zz S + 2 * (p2 - pA) ∧ Zn S2 ≤ Zn S + 10 * (p2 - pA) ∧ ∃ q' : Nat, chT M (ZF S2) (Zr S 5) f k pA q' ∧ q' ≤ p2)
theorem va109 (hn : ns ≤ 16) (hv : v ∈ ZL S) (hw : wa ∈ ZL S) (hvz : v < Zz S) (hwz : wa < Zz S) (r1 : Zz S + 2 * (T - pA) + 3 ≤ K.2.1) (r2 : Zn S + 10 * (T - pA) + 20 ≤ K.2.2) : ∀ (m : Nat) {S1 : Sg} {p1 k : Nat} {f : Nat → Option Nat} {M : List Nat} {mo : Int32}, 1 ≤ m → (Zi S1 3 = 0 → T + 1 ≤ p1 + m) → RZ S1 T p1 ns vv bb → GR (fun b => b = v ∨ b = wa) S S1 → ZF S1 v = .inr (17, [.int (nI k), .ref wa, .ref ta]) → ZF S1 wa = .inl (K.1 12, 12, .inr (.inr (.inr (.inr f)))) → (∀ a ∈ M, Zz S ≤ a ∧ a < Zz S1) → pA ≤ p1 → Zz S1 ≤ Zz S + 2 * (p1 - pA) + 1 → Zn S1 ≤ Zn S + 10 * (p1 - pA) + 5 → (Zi S1 3 = 0 → k ≤ 12 ∧ Zz S1 ≤ Zz S + 2 * (p1 - pA) ∧ Zn S1 ≤ Zn S + 10 * (p1 - pA) ∧ ∃ q' : Nat, chT M (ZF S1) (Zr S 5) f k pA q' ∧ q' ≤ p1) → Rt (f_variant_109 K m S1 (some v) mo) (fun S2 _ => PaP K T S ns vv bb v wa ta pA S2)
  | 0, _, _, _, _, _, _, h, _, _, _, _, _, _, _, _, _, _ => absurd h (by omega)
  | m + 1, S1, p1, k, f, M, mo, _, hm, z1, g1, hV, hR, hM, hp, k1, k2, hgd => by
    have hT1 := z1.1.2.1; have hT := z1.1.2.2.1
    have hvw : v ≠ wa := ne_or hV hR
    have h01 := g1.2.2.2.2.1.1
    have hend : Rt (f_variant_247 K S1) (fun S2 _ => PaP K T S ns vv bb v wa ta pA S2) := by
      unfold f_variant_247
      refine Rt.bn (take_ z1 (by decide)) (fun S2 _ q2 => Rt.rt ?_)
      obtain ⟨p2, z2, g2, w1, w2, w3⟩ := q2
      have y1 := g2.2.2.2.1; have y2 := g2.2.2.2.2
      refine ⟨p2, k, f, M, z2, g1.n g2.1, by rw [g2.2.1]; exact hV, by rw [g2.2.1]; exact hR, by rw [y1]; exact hM, by omega, by omega, by omega, fun q => ?_⟩
      obtain ⟨c1, c2, c3, q', c4, c5⟩ := hgd (g2.1.2.2.2.2.2 q)
      exact ⟨c1, by omega, by omega, q', by rw [g2.2.1]; exact c4, by omega⟩
    unfold f_variant_109
    refine Rt.ok (fun q1 => Rt.it (fun _ => hend) (fun _ => ?_)) (fun _ => hend)
    have hm1 := hm q1
    obtain ⟨c1, c2, c3, q', c4, c5⟩ := hgd q1
    have hkd : Zr S1 5 = Zr S 5 := by rw [g1.2.1.1]
    have h203 : ∀ S2 : Sg, SS S1 S2 → RZ S2 T p1 ns vv bb → (Zi S2 3 = 0 → (Zr S 5 p1 = 26 ∨ Zr S 5 p1 = 27 ∨ Zr S 5 p1 = 25 ∨ Zr S 5 p1 = 2 ∨ Zr S 5 p1 = 23 ∨ Zr S 5 p1 = 55) → k ≠ 12) → Rt (f_variant_203 K (f_variant_109 K m) S2 (some v)) (fun S2 _ => PaP K T S ns vv bb v wa ta pA S2) := fun S2 g2 z2 h2 => by
      have y1 := g2.2.2.2.1; have y2 := g2.2.2.2.2
      unfold f_variant_203
      refine Rt.bn (wr20 z2 (fun _ => hn) (by omega) (by omega)) (fun S3 r3 q3 => ?_)
      obtain ⟨p3, t, e3, z3, g3, w1, w2, w3, w4, w5⟩ := q3
      subst e3
      have h23 := g3.2.2.2.2.1.1
      have g13 := g1.n (g2.1.n g3)
      have hV3 : ZF S3 v = .inr (17, [.int (nI k), .ref wa, .ref ta]) := (g3.2.2.1 v (by omega) (fun q => q)).trans (by rw [g2.2.1]; exact hV)
      have hR3 : ZF S3 wa = .inl (K.1 12, 12, .inr (.inr (.inr (.inr f)))) := (g3.2.2.1 wa (by omega) (fun q => q)).trans (by rw [g2.2.1]; exact hR)
      have mv := g13.in hv; have mw := g13.in hw
      have hMv : ∀ a ∈ M, a ≠ v ∧ a ≠ wa ∧ a < Zz S1 := fun a ha => ⟨by have := (hM a ha).1; omega, by have := (hM a ha).1; omega, (hM a ha).2⟩
      -- one more
      have h227 : ∀ (S5 : Sg) (f5 : Nat → Option Nat), RZ S5 T p3 ns vv bb → GR (fun b => b = v ∨ b = wa) S S5 → Zz S5 = Zz S3 → Zn S5 = Zn S3 → ZF S5 v = .inr (17, [.int (nI k), .ref wa, .ref ta]) → ZF S5 wa = .inl (K.1 12, 12, .inr (.inr (.inr (.inr f5)))) → (Zi S5 3 = 0 → p1 < p3 ∧ k + 1 ≤ 12 ∧ chT (M ++ iv (Zz S2) (Zz S3)) (ZF S5) (Zr S 5) f5 (k + 1) pA p3) → Rt (f_variant_227 K (f_variant_109 K m) S5 (some v)) (fun S2 _ => PaP K T S ns vv bb v wa ta pA S2) := fun S5 f5 z5 x1 x2 x3 x4 x5 x6 => by
        unfold f_variant_227
        refine Rt.bd (oI_mk (v := nI k) (x1.in hv) x4 rfl) ?_
        rw [nI_1]
        refine Rt.bd (pV_mk (v := .int (nI (k + 1))) (x1.in hv) x4 (Nat.le_of_ble_eq_true rfl)) ?_
        have z6 : RZ (UF S5 v (.inr (17, [.int (nI (k + 1)), .ref wa, .ref ta]))) T p3 ns vv bb := z5.uf
        refine Rt.bn (takes_ z6 (by decide)) (fun S7 r7 q7 => ?_)
        obtain ⟨p7, z7, g7, i7, q7⟩ := q7
        have hp7 : p3 ≤ p7 := by rcases q7 with ⟨_, w, _⟩ | ⟨_, w, _⟩ <;> omega
        have e7 : Zz S7 = Zz S3 := g7.2.2.2.1.trans x2
        have n7 : Zn S7 = Zn S3 := g7.2.2.2.2.trans x3
        have hMM : ∀ a ∈ M ++ iv (Zz S2) (Zz S3), Zz S ≤ a ∧ a < Zz S3 := fun a ha => by
          rcases List.mem_append.mp ha with w | w
          · exact ⟨(hM a w).1, by have := (hM a w).2; omega⟩
          · have := iv_m.mp w; exact ⟨by omega, this.2⟩
        refine va109 hn hv hw hvz hwz r1 r2 m (by omega) (fun q => ?_) z7 ((x1.tr GR.uf (fun b _ q => Or.inl q)).n g7.1) (by rw [g7.2.1]; exact ZF_s) (by rw [g7.2.1]; exact (ZF_n (fun q => hvw q.symm)).trans x5) (by rw [e7]; exact hMM) (by omega) (by omega) (by omega) (fun q => ?_)
        · have := x6 (by rw [i7] at q; exact q); omega
        · obtain ⟨d1, d2, d3⟩ := x6 (by rw [i7] at q; exact q)
          exact ⟨d2, by omega, by omega, p3, by rw [g7.2.1]; exact chT_im (fun a ha => ⟨ha, ZF_n (by have := (hMM a ha).1; omega)⟩) (fun _ _ => rfl) d3, by omega⟩
      refine Rt.ok (fun q3 => ?_) (fun q3 => h227 S3 f z3 g13 rfl rfl hV3 hR3 (fun q => absurd q q3))
      have d6 := w5 q3
      rw [show Zr S2 5 = Zr S 5 by rw [g2.1.2.1.1, hkd]] at d6
      have d7 := isT_lt d6
      have d8 : k ≠ 12 := h2 (g3.2.2.2.2.2 q3) (by rcases isT_kd d6 with w | w | w | w | w | w; exact Or.inl w; exact Or.inr (Or.inl w); exact Or.inr (Or.inr (Or.inl w)); exact Or.inr (Or.inr (Or.inr (Or.inl w))); exact Or.inr (Or.inr (Or.inr (Or.inr (Or.inl w)))); exact Or.inr (Or.inr (Or.inr (Or.inr (Or.inr w)))))
      have hto : okO S3 22 (some t) = true := by
        obtain ⟨vs, hv⟩ := w4.2.2
        exact okO_mk ((g3.2.2.2.1 t).mpr (Or.inr ⟨w4.1, w4.2.1⟩)) hv
      refine Rt.bd (oR_mk (v := some wa) mv hV3 rfl) (Rt.bd (oI_mk (v := nI k) mv hV3 rfl) (Rt.bd (bQ_n mw hR3 (show k < 12 by omega) (by decide) hto) ?_))
      have hx1 : exS M (ZF S1) (M ++ iv (Zz S2) (Zz S3)) (ZF (UF S3 wa (.inl (K.1 12, 12, .inr (.inr (.inr (.inr (va_up f k (some t))))))))) := fun a ha => ⟨List.mem_append_left _ ha, by rw [ZF_n (hMv a ha).2.1, g3.2.2.1 a (by have := (hMv a ha).2.2; omega) (fun q => q), g2.2.1]⟩
      have hx2 : exS (iv (Zz S2) (Zz S3)) (ZF S3) (M ++ iv (Zz S2) (Zz S3)) (ZF (UF S3 wa (.inl (K.1 12, 12, .inr (.inr (.inr (.inr (va_up f k (some t))))))))) := fun a ha => ⟨List.mem_append_right _ ha, ZF_n (by have := (iv_m.mp ha).1; omega)⟩
      exact h227 _ (va_up f k (some t)) z3.uf (g13.tr GR.uf (fun b _ q => Or.inr q)) rfl rfl ((ZF_n hvw).trans hV3) ZF_s (fun _ => ⟨d7, by omega, chT_add (chT_im hx1 (fun i hi => va_up_ne _ _ (by omega)) c4) (fun _ _ => rfl) (va_up_self _ _ _) (show q' ≤ p1 by omega) (Nat.le_refl p3) (isT_ex hx2 (isT_le d6 (by omega)))⟩)
    have h178 : Rt (f_variant_178 K (f_variant_109 K m) S1 (some v) 1) (fun S2 _ => PaP K T S ns vv bb v wa ta pA S2) := by
      unfold f_variant_178
      refine Rt.iq (by decide) (Rt.bd (oI_mk (v := nI k) (g1.in hv) hV rfl) (Rt.it (fun w => ?_) (fun w => ?_)))
      · rw [z1.1.1]
        exact Rt.be (fail_ (by omega)) (h203 _ SS.fl z1.fl (fun q => absurd q (flS_n0 (by decide))))
      · exact h203 S1 SS.rf z1 (fun _ _ u => w (by rw [u]; rfl))
    unfold f_variant_173
    refine Rt.is z1 (fun _ => h178) (fun n1 => Rt.is z1 (fun _ => h178) (fun n2 => Rt.is z1 (fun _ => h178) (fun n3 => Rt.is z1 (fun _ => h178) (fun n4 => Rt.is z1 (fun _ => h178) (fun n5 => Rt.is z1 (fun _ => h178) (fun n6 => ?_))))))
    unfold f_variant_178
    refine Rt.ip rfl (h203 S1 SS.rf z1 (fun _ w => ?_))
    rw [hkd] at n1 n2 n3 n4 n5 n6
    rcases w with w | w | w | w | w | w
    · exact absurd w n1
    · exact absurd w n2
    · exact absurd w n3
    · exact absurd w n4
    · exact absurd w n5
    · exact absurd w n6
end VAR
