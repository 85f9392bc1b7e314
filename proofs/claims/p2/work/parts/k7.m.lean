section TAL
variable {R : yR} {nv : Nat} {S : Sg}
/-- the tokens of heads, and of bodies -/
def hdT (R : yR) : Nat → Nat
  | 0 => 0
  | k + 1 => hdT R k + (R.ms k - R.ps k)
def bdT (R : yR) : Nat → Nat
  | 0 => 0
  | k + 1 => bdT R k + (R.ps (k + 1) - R.ms k)
theorem RDI.ms (hD : RDI R) {i : Nat} (hi : i < R.im) : R.ps i + 1 < R.ms i ∧ R.ms i ≤ R.ps (i + 1) := by
  obtain ⟨_, ⟨_, z2, z3, _⟩, _⟩ := hD.2.2.2.2 i hi
  exact ⟨z2, z3⟩
theorem hbT (hD : RDI R) : ∀ k : Nat, k ≤ R.im → hdT R k + bdT R k ≤ R.ps k
  | 0, _ => Nat.zero_le _
  | k + 1, h => by
    have := hbT hD k (by omega)
    have := hD.ms (show k < R.im by omega)
    unfold hdT bdT
    omega
theorem hdT_mo {k m : Nat} (h : k ≤ m) : hdT R k ≤ hdT R m := by
  induction h with
  | refl => exact Nat.le_refl _
  | step h ih => exact Nat.le_trans ih (Nat.le_add_right _ _)
theorem bdT_mo {k m : Nat} (h : k ≤ m) : bdT R k ≤ bdT R m := by
  induction h with
  | refl => exact Nat.le_refl _
  | step h ih => exact Nat.le_trans ih (Nat.le_add_right _ _)
/-- the items' field of leaves is a number -/
def F20 (R : yR) (Pz : Int32 → Prop) (S : Sg) : Prop := ∀ a : Nat, a < R.im → ∃ (fs : List Value) (v : Int32), ZF S (R.ws a) = .inr (16, fs) ∧ fs[20]? = some (.int v) ∧ Pz v
theorem F20.it {Pz : Int32 → Prop} (hD : RDI R) {S2 : Sg} {k : Nat} (hk : k < R.im) (h : F20 R Pz S) (hV : VX R (cX R k) S S2) (h2 : K20 R S k S2) : F20 R Pz S2 := fun a ha => by
  obtain ⟨fs, v, h3, h4, h5⟩ := h a ha
  by_cases e : a = k
  · subst e
    obtain ⟨gs, g1, g2⟩ := h2 fs v h3 h4
    exact ⟨gs, v, g1, g2, h5⟩
  · obtain ⟨_, ⟨z1, _⟩, _, _, z5⟩ := hD.2.2.2.2 a ha
    refine ⟨fs, v, (hV.2.1 _ (z5 _ z1) (fun w => ?_)).trans h3, h4, h5⟩
    have z2 := iv_m.mp z1
    rcases Nat.lt_or_ge a k with z | z
    · have := (hD.2.2.1 (a + 1) k (by omega) (by omega)).2; have := w.1.1; omega
    · have := (hD.2.2.1 (k + 1) a (by omega) (by omega)).2; have := w.1.2; omega
/-- the items, typed one behind the other: what is known behind the first k -/
def IA (R : yR) (nv k : Nat) (S1 : Sg) : Prop := TS R (hdT R k) nv S1 ∧ ROW R S1 ∧ (F20 R (fun v => v = 0) S1 ∧ Unt R S1 0 (R.ps R.im)) ∧ (Zi S1 3 = 0 → ∀ i : Nat, i < k → ItZ R S1 i)
theorem ta11 (hK : yRm R) (hD : RDI R) (hnv : nv ≤ 10000) (hp : R.ps R.im ≤ 1990) {P : Sg → Unit → Prop} (hk : ∀ S2 : Sg, TS R (hdT R R.im) nv S2 → ROW R S2 → F20 R (fun v => v = 0) S2 → Unt R S2 0 (R.ps R.im) → (Zi S2 3 = 0 → ITA R S2) → Rt (f_typeAll_42 R.K S2) P) : ∀ (m k : Nat) {S1 : Sg}, R.im < k + m → k ≤ R.im → IA R nv k S1 → Rt (f_typeAll_11 R.K m S1 (nI k)) P
  | 0, k, _, h1, h2, _ => by omega
  | m + 1, k, S1, h1, h2, ⟨t1, w1, ⟨f1, u1⟩, g1⟩ => by
    have hD0 := hD.1
    have hm := (hD.2.2.1 k R.im h2 (Nat.le_refl _)).1
    unfold f_typeAll_11
    rw [t1.i12 hD]
    refine Rt.it (fun w9 => ?_) (fun w9 => ?_)
    · have : k = R.im := by have := (nI_leI (a := R.im) (b := k) (by omega) (by omega)).mp w9; omega
      subst this
      exact hk S1 t1 w1 f1 u1 (fun z i hi => (g1 z i hi).y)
    have hlt : k < R.im := by
      rcases Nat.lt_or_ge k R.im with z | z
      · exact z
      · exact absurd (nI_le z (by omega)) w9
    have hs := hbT hD R.im (Nat.le_refl _)
    have hs2 := hdT_mo (R := R) (show k + 1 ≤ R.im by omega)
    have hs3 : hdT R (k + 1) = hdT R k + (R.ms k - R.ps k) := rfl
    refine Rt.ok (fun z => ?_) (fun z => hk S1 (t1.up (by omega)) w1 f1 u1 (fun w => absurd w z))
    refine Rt.bd (hD.it t1 hlt) (Rt.bn (itt_ hK hD hnv t1 hlt (by omega)) (fun S2 _ q2 => ?_))
    obtain ⟨c2, e1, t2, v2, g2, g20⟩ := q2
    rw [nI_1]
    refine ta11 hK hD hnv hp hk m (k + 1) (by omega) (by omega) ⟨t2.up (by omega), w1.cx v2, ⟨f1.it hD hlt v2 g20, fun a ha w => (v2.2.1 a ha (fun x => cX.nx hK ha w x)).trans (u1 a ha w)⟩, fun z2 i hi => ?_⟩
    by_cases e : i = k
    · subst e; exact g2 z2
    · exact (g1 z i (by omega)).vx hD (by omega) hlt e v2
end TAL
