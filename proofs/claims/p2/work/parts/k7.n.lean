section TAF
variable {R : yR} {nv : Nat} {S : Sg}
/-- items, rows of types, types are as they were -/
def NX0 (R : yR) (S S2 : Sg) : Prop := (∀ a : Nat, nXo R a → ZF S2 a = ZF S a) ∧ ∀ (x : Nat) (kd ix : Int32) (o : Option Nat), isTy S x kd ix o → isTy S2 x kd ix o
/-- .. main too -/
def NX (R : yR) (S S2 : Sg) : Prop := NX0 R S S2 ∧ Zi S2 21 = Zi S 21 ∧ (Zi S2 3 = 0 → Zi S 3 = 0)
theorem NX0.tr {S1 S2 : Sg} (h : NX0 R S S1) (q : NX0 R S1 S2) : NX0 R S S2 := ⟨fun a ha => (q.1 a ha).trans (h.1 a ha), fun x kd ix o w => q.2 x kd ix o (h.2 x kd ix o w)⟩
theorem NX.rf : NX R S S := ⟨⟨fun _ _ => rfl, fun _ _ _ _ q => q⟩, rfl, fun q => q⟩
theorem NX.tr {S1 S2 : Sg} (h : NX R S S1) (q : NX R S1 S2) : NX R S S2 := ⟨h.1.tr q.1, q.2.1.trans h.2.1, fun z => h.2.2 (q.2.2 z)⟩
theorem VZ.nx0 {S2 : Sg} {p q : Nat} (h : VZ R (Xo R p q) S S2) : NX0 R S S2 := ⟨fun a ha => h.1 a ha.1 (fun w => ha.2 _ _ w), h.2.2.1⟩
theorem VZ.nxx {S2 : Sg} {p q : Nat} (h : VZ R (Xo R p q) S S2) (e : Zi S2 21 = Zi S 21) : NX R S S2 := ⟨h.nx0, e, h.2.2.2.2⟩
/-- the functions, typed one behind the other: what is known behind the first k items -/
def FA (R : yR) (nv : Nat) (S9 : Sg) (k : Nat) (S1 : Sg) : Prop := ∃ nv1 : Nat, nv1 ≤ nv + 40 * k ∧ TS R (hdT R R.im + bdT R k) nv1 S1 ∧ (Zi S1 3 = 0 → ITA R S1 ∧ ROW R S1 ∧ (∀ i : Nat, i < k → R.ik i = 12 → FnT R S1 i) ∧ Unt R S1 (R.ps k) (R.ps R.im) ∧ NX R S9 S1)
/-- what the typing gives -/
def TYD (R : yR) (nv : Nat) (S9 S2 : Sg) : Prop := ∃ c2 nv2 : Nat, c2 ≤ R.ps R.im ∧ nv2 ≤ nv + 40 * R.im ∧ TS R c2 nv2 S2 ∧ (Zi S2 3 = 0 → ITA R S2 ∧ ROW R S2 ∧ (∀ i : Nat, i < R.im → R.ik i = 12 → FnT R S2 i) ∧ NX R S9 S2)
theorem ta77 (hK : yRm R) (hD : RDI R) (hnv : nv + 40 * R.im ≤ 10000) (hp : R.ps R.im ≤ 1990) {S9 : Sg} : ∀ (m k : Nat) {S1 : Sg}, R.im < k + m → k ≤ R.im → FA R nv S9 k S1 → Rt (f_typeAll_77 R.K m S1 (nI k)) (fun S2 _ => TYD R nv S9 S2)
  | 0, k, _, h1, h2, _ => by omega
  | m + 1, k, S1, h1, h2, ⟨nv1, n1, t1, g1⟩ => by
    have hD0 := hD.1
    have hb := hbT hD R.im (Nat.le_refl _)
    have hb2 := bdT_mo (R := R) h2
    have hend : (Zi S1 3 = 0 → k = R.im) → Rt (f_typeAll_117 R.K S1) (fun S2 _ => TYD R nv S9 S2) := fun hz => by
      refine Rt.rt ⟨_, nv1, Nat.le_trans (Nat.add_le_add_left hb2 _) hb, by omega, t1, fun z => ?_⟩
      obtain ⟨q1, q2, q3, _, q5⟩ := g1 z
      exact ⟨q1, q2, fun i hi => q3 i (by rw [hz z]; exact hi), q5⟩
    unfold f_typeAll_77
    rw [t1.i12 hD]
    refine Rt.it (fun w9 => hend (fun _ => ?_)) (fun w9 => ?_)
    · have := (nI_leI (a := R.im) (b := k) (by omega) (by omega)).mp w9; omega
    have hlt : k < R.im := by
      rcases Nat.lt_or_ge k R.im with z | z
      · exact z
      · exact absurd (nI_le z (by omega)) w9
    have hms := hD.ms hlt
    have hs2 := bdT_mo (R := R) (show k + 1 ≤ R.im by omega)
    have hs3 : bdT R (k + 1) = bdT R k + (R.ps (k + 1) - R.ms k) := rfl
    have hpT := (hD.2.2.1 (k + 1) R.im (by omega) (Nat.le_refl _)).1
    have hpT2 := hD.2.2.2.1
    refine Rt.ok (fun z => ?_) (fun z => hend (fun w => absurd w z))
    obtain ⟨b1, b2, b3, fs9, gs9, b4, b5, b6, b7, b8, b9, b10, b11⟩ := hD.ob t1 hlt
    obtain ⟨q1, q2, q3, q4, q5⟩ := g1 z
    unfold f_typeAll_111
    rw [nI_1]
    refine Rt.bd (hD.it t1 hlt) (Rt.bd (oI_mk b2 b5 b11) (Rt.it (fun ek => ?_) (fun ek => ?_)))
    · obtain ⟨z1, z2, z3, z5, hiv⟩ := hD.2.2.2.2 k hlt
      refine Rt.bn (tfn_ hK t1 q1 q2 hlt ek z (isI_ex (fun a ha => ⟨hiv a ha, rfl⟩) z2) (by rw [← ek]; exact z3) z5 (fun a ha w => q4 a ha (Xo_mo w (by omega) hpT)) (by omega) (by omega) (by omega)) (fun S2 _ r2 => ?_)
      obtain ⟨c2, nv2, e1, e2, t2, v2, ⟨_, e21⟩, g2⟩ := r2
      refine ta77 hK hD hnv hp m (k + 1) (by omega) (by omega) ⟨nv2, by omega, t2.up (by omega), fun z9 => ⟨q1.vz v2, q2.vz v2, fun i hi hik => ?_, fun a ha w => (v2.1 a ha (fun x => Xo_dj x w (Or.inl (Nat.le_refl _)))).trans (q4 a ha (Xo_mo w (by omega) (Nat.le_refl _))), q5.tr (v2.nxx e21)⟩⟩
      by_cases e : i = k
      · subst e; exact g2 z9
      · have := (hD.2.2.1 (i + 1) k (by omega) (by omega)).1
        exact (q3 i (by omega) hik).vz v2 (Or.inl (by omega))
    · refine ta77 hK hD hnv hp m (k + 1) (by omega) (by omega) ⟨nv1, by omega, t1.up (by omega), fun _ => ⟨q1, q2, fun i hi hik => ?_, fun a ha w => q4 a ha (Xo_mo w (by omega) (Nat.le_refl _)), q5⟩⟩
      by_cases e : i = k
      · subst e; exact absurd hik ek
      · exact q3 i (by omega) hik
end TAF
