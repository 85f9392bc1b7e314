theorem ibit_shl (p : Int32) {i : Nat} (h : i < 16) : ibit (p <<< ((16 : Int32) &&& 31)) i = false := by
  unfold ibit
  rw [show ((16 : Int32) &&& 31) = (nI 16 &&& 31) from rfl, Int32.toBitVec_shiftLeft, BitVec.shiftLeft_eq', sh5 16 (by decide), BitVec.getLsbD_shiftLeft, decide_eq_true h, Bool.not_true, Bool.and_false, Bool.false_and]
/-- a way may be without a value -/
def LcF (y : qY) (z : qZ) (T0 : Nat) (x : Int32) (π : lLc) : Prop := T0 = 0 ∨ ((∃ T : Nat, qM π ∧ qW y T0 π T) → loF y z T0 x π)
theorem LcF_up {y : qY} {z : qZ} {T0 : Nat} {x x2 : Int32} {π : lLc} (h : iS x x2) (hl : LcF y z T0 x π) : LcF y z T0 x2 π := hl.imp id (fun q g => loF_up h (q g))
section
variable {y : qY} {z : qZ} {T0 T o n v : Nat} {ρ σ : lLc} {os ds : List Nat} {pa ro x x2 : Int32} {lo : Nat → lLc → Prop}
theorem rtF_M : ∀ {ρ : lLc} {T o t : Nat}, qM ρ → qW y T ρ t → (rtU y z T o ρ).1 = [] ∧ (rtU y z T o ρ).2 = o + qA y z (fun _ => 0) T 0 ρ
  | [], T, o, t, _, _ => ⟨rfl, rfl⟩
  | (q, j) :: ρ, T, o, t, h, hw => by
    obtain ⟨h1, h2⟩ := qM_cons.mp h
    obtain rfl : q = 0 := h1
    obtain ⟨g1, g2⟩ := rtF_M (ρ := ρ) (o := o + z.2 T 0 j) h2 hw.2.2
    have e := qA_sh (z := z) (c := fun _ => 0) (c2 := fun _ => 0) (a := 0 + z.2 T 0 j) (b := 0) hw.2.2 (qN_M h2)
    refine ⟨g1, ?_⟩
    show (rtU y z (y.2.2.2.2 T 0 j) (o + z.2 T 0 j) ρ).2 = o + qA y z (fun _ => 0) (y.2.2.2.2 T 0 j) (0 + z.2 T 0 j) ρ
    rw [g2]; omega
theorem rtF_st : ∀ {ρ ρ1 : lLc} {T o t j : Nat}, qM ρ → qW y T ρ t → ∃ l : List Nat, (rtU y z T o (ρ ++ (1, j) :: ρ1)).1 = (o + qA y z (fun _ => 0) T 0 ρ) :: l
  | [], ρ1, T, o, t, j, _, _ => ⟨_, rfl⟩
  | (q, i) :: ρ, ρ1, T, o, t, j, h, hw => by
    obtain ⟨h1, h2⟩ := qM_cons.mp h
    obtain rfl : q = 0 := h1
    obtain ⟨l, g⟩ := rtF_st (ρ := ρ) (ρ1 := ρ1) (o := o + z.2 T 0 i) (j := j) h2 hw.2.2
    have e := qA_sh (z := z) (c := fun _ => 0) (c2 := fun _ => 0) (a := 0 + z.2 T 0 i) (b := 0) hw.2.2 (qN_M h2)
    refine ⟨l, ?_⟩
    show (rtU y z (y.2.2.2.2 T 0 i) (o + z.2 T 0 i) (ρ ++ (1, j) :: ρ1)).1 = (o + qA y z (fun _ => 0) (y.2.2.2.2 T 0 i) (0 + z.2 T 0 i) ρ) :: l
    rw [g]
    congr 1; omega
theorem cut0 {c : Nat} {cl : Int32} (hx : x &&& cl = 0) (hb : ibit x c = true) : ibit cl c = false := by
  have := ibit_and x cl c
  rw [hx, ibit_0, hb, Bool.true_and] at this
  exact this.symm
/-- what a use of a place finds -/
theorem fu_of (hz : qLy y z) (hz4 : ∀ t : Nat, y.1 t = 4 ∨ y.1 t = 5 ∨ y.1 t = 6 → z.1 t = 1) (hT0 : T0 ≠ 0) (hw : plW y z T0 T ρ os o) (hpw : pW ds os o n pa ro) (hn4 : n ≤ 4) (hsz : o + z.1 T ≤ 16) (hx : x &&& pCells ro (nI (z.1 T)) = 0) (hlo : ∀ π : lLc, lo v π → LcF y z T0 x π) : fuL y lo v ρ T := by
  have bt := fun (c : Nat) (hc : c < 32) => pc_bit hpw hn4 hsz (c := c) hc
  refine ⟨fun hm τ t g1 g2 hl => ?_, fun ρ0 j ρ1 e hm hl => ?_⟩
  · rcases hlo _ hl with q | q
    · exact hT0 q
    · rcases hw with ⟨-, -, w1, -, e1, e2⟩ | ⟨-, ρ2, rfl, -⟩
      · obtain ⟨f1, f2⟩ := rtF_M (z := z) (o := 0) hm w1
        have wt := qW_app w1 g2
        have mt : qM (ρ ++ τ) := qM_app.mpr ⟨hm, g1⟩
        obtain ⟨c, c16, ⟨T2, w2, i1, i2⟩, hb⟩ := q ⟨t, mt, wt⟩
        obtain rfl := qW_det wt w2
        have i3 := qA_in (c := fun _ => 0) (a := qA y z (fun _ => 0) T0 0 ρ) hz g2 (qN_M g1)
        rw [qA_app w1] at i1 i2
        have hb2 := cut0 hx hb
        rw [bt c (by omega), if_pos (e1.trans f1)] at hb2
        rw [e2, f2] at hb2
        rw [decide_eq_true (by omega), decide_eq_true (by omega)] at hb2
        exact absurd hb2 (by decide)
      · have := (qM_cons.mp hm).1
        exact absurd this (by show ¬ ((1 : Nat) = 0); decide)
  · rcases hlo _ hl with q | q
    · exact hT0 q
    · rcases hw with ⟨-, -, w1, -, e1, e2⟩ | ⟨h56, ρ2, e0, w1, -, e1, -⟩
      · subst e
        obtain ⟨B, v1, v2⟩ := qW_cut w1
        obtain ⟨l, f1⟩ := rtF_st (z := z) (ρ1 := ρ1) (o := 0) (j := j) hm v1
        obtain ⟨c, c16, ⟨T2, w2, i1, i2⟩, hb⟩ := q ⟨B, hm, v1⟩
        obtain rfl := qW_det v1 w2
        rw [hz4 B (Or.inl v2.2.1)] at i2
        have hb2 := cut0 hx hb
        rw [bt c (by omega), if_neg (by rw [e1, f1]; simp), e1, f1] at hb2
        have hb2 : decide (c = 0 + qA y z (fun _ => 0) T0 0 ρ0) = false := hb2
        rw [decide_eq_true (by omega)] at hb2
        exact absurd hb2 (by decide)
      · rw [e0] at e
        have er : ρ0 = [] := by
          cases ρ0 with
          | nil => rfl
          | cons a ρ0 =>
            have e : (1, 0) :: ρ2 = a :: (ρ0 ++ (1, j) :: ρ1) := e
            injection e with e _
            have := (qM_cons.mp hm).1
            rw [← e] at this
            exact absurd this (by show ¬ ((1 : Nat) = 0); decide)
        subst er
        obtain ⟨c, c16, ⟨T2, w2, i1, i2⟩, hb⟩ := q ⟨T0, qM_nil, rfl⟩
        obtain rfl : T2 = T0 := w2
        rw [hz4 T2 (Or.inr h56)] at i2
        have i2 : c < 0 + 1 := i2
        have hb2 := cut0 hx hb
        rw [bt c (by omega), if_neg (by rw [e1]; simp), e1] at hb2
        have hb2 : decide (c = 0) = false := hb2
        rw [decide_eq_true (by omega)] at hb2
        exact absurd hb2 (by decide)
/-- a whole variable is used -/
theorem fu_ref (hz1 : z.1 T0 = 1) (hT0 : T0 ≠ 0) (hpw : pW ds [] 0 n pa ro) (hn4 : n ≤ 4) (hx : x &&& pCells ro (nI (z.1 T0)) = 0) : ¬ LcF y z T0 x [] := fun q => by
  rcases q with q | q
  · exact hT0 q
  · obtain ⟨c, c16, ⟨T2, w2, i1, i2⟩, hb⟩ := q ⟨T0, qM_nil, rfl⟩
    obtain rfl : T2 = T0 := w2
    have i2 : c < 0 + z.1 T2 := i2
    have hb2 := cut0 hx hb
    rw [pc_bit hpw hn4 (by omega) (by omega), if_pos rfl, decide_eq_true (by omega), decide_eq_true (by omega)] at hb2
    exact absurd hb2 (by decide)
theorem inW_16 (hz : qLy y z) (hz16 : z.1 T0 ≤ 16) {π : lLc} {c : Nat} (hm : qM π) (h : inW y z T0 π c) : c < 16 := by
  obtain ⟨T2, w2, i1, i2⟩ := h
  have := qA_in (c := fun _ => 0) (a := 0) hz w2 (qN_M hm)
  omega
/-- ways that share a cell: one lies on the other's way -/
theorem inW_to (hz : qLy y z) : ∀ {π σ : lLc} {T0 A B c : Nat}, qM π → qM σ → qW y T0 π A → qW y T0 σ B → (∃ a : Nat, a ≤ c ∧ qA y z (fun _ => 0) T0 a π ≤ c ∧ c < qA y z (fun _ => 0) T0 a π + z.1 A ∧ qA y z (fun _ => 0) T0 a σ ≤ c ∧ c < qA y z (fun _ => 0) T0 a σ + z.1 B) → lCmp π σ
  | [], σ, _, _, _, _, _, _, _, _, _ => Or.inl ⟨σ, rfl⟩
  | s :: π, [], _, _, _, _, _, _, _, _, _ => Or.inr ⟨s :: π, rfl⟩
  | (q1, i) :: π, (q2, j) :: σ, T0, A, B, c, h1, h2, w1, w2, h => by
    obtain ⟨a, h0, i1, i2, i3, i4⟩ := h
    obtain ⟨m1, m2⟩ := qM_cons.mp h1
    obtain ⟨m3, m4⟩ := qM_cons.mp h2
    obtain rfl : q1 = 0 := m1
    obtain rfl : q2 = 0 := m3
    have p1 := qA_in (c := fun _ => 0) (a := a + z.2 T0 0 i) hz w1.2.2 (qN_M m2)
    have p2 := qA_in (c := fun _ => 0) (a := a + z.2 T0 0 j) hz w2.2.2 (qN_M m4)
    have i1 : qA y z (fun _ => 0) (y.2.2.2.2 T0 0 i) (a + z.2 T0 0 i) π ≤ c := i1
    have i2 : c < qA y z (fun _ => 0) (y.2.2.2.2 T0 0 i) (a + z.2 T0 0 i) π + z.1 A := i2
    have i3 : qA y z (fun _ => 0) (y.2.2.2.2 T0 0 j) (a + z.2 T0 0 j) σ ≤ c := i3
    have i4 : c < qA y z (fun _ => 0) (y.2.2.2.2 T0 0 j) (a + z.2 T0 0 j) σ + z.1 B := i4
    by_cases e : i = j
    · subst e
      exact (inW_to hz m2 m4 w1.2.2 w2.2.2 ⟨a + z.2 T0 0 i, by omega, i1, i2, i3, i4⟩).imp lP_consI lP_consI
    · exfalso
      rcases Nat.lt_or_gt_of_ne e with q | q
      · have := hz.2.2.1 T0 i j w1.1 q w2.2.1
        omega
      · have := hz.2.2.1 T0 j i w1.1 q w1.2.1
        omega
/-- a place is moved out of -/
theorem mv_lo (hz : qLy y z) (hz16 : z.1 T0 ≤ 16) {B : Nat} (hm : qM σ) (hσ : qW y T0 σ B) (h1 : ∀ c : Nat, c < 16 → ibit x c = true → ibit x2 c = true) (h2 : ∀ c : Nat, c < 16 → inW y z T0 σ c → ibit x2 c = true) {π : lLc} (hn : ¬ LcF y z T0 x2 π) : ¬ LcF y z T0 x π ∧ ¬ lCmp π σ := by
  have hT0 : T0 ≠ 0 := fun q => hn (Or.inl q)
  have hv : ∃ T : Nat, qM π ∧ qW y T0 π T := Classical.byContradiction (fun q => hn (Or.inr (fun g => absurd g q)))
  have hl : ¬ loF y z T0 x2 π := fun q => hn (Or.inr (fun _ => q))
  obtain ⟨T, v1, v2⟩ := hv
  constructor
  · rintro (q | q)
    · exact hT0 q
    · obtain ⟨c, c1, c2, c3⟩ := q ⟨T, v1, v2⟩
      exact hl ⟨c, c1, c2, h1 c c1 c3⟩
  · intro q
    obtain ⟨c, c1, c2⟩ := inW_cmp hz v2 hσ (qN_M v1) (qN_M hm) q
    have c16 := inW_16 hz hz16 v1 c1
    exact hl ⟨c, c16, c1, h2 c c16 c2⟩
/-- a place gets a value -/
theorem as_lo (hz : qLy y z) {B : Nat} (hm : qM ρ) (hρ : qW y T0 ρ B) (h1 : ∀ c : Nat, c < 16 → ibit x c = true → ibit x2 c = true ∨ inW y z T0 ρ c) {π : lLc} (hl : LcF y z T0 x π) : LcF y z T0 x2 π ∨ lCmp π ρ := by
  rcases hl with q | q
  · exact Or.inl (Or.inl q)
  · by_cases hv : ∃ T : Nat, qM π ∧ qW y T0 π T
    · obtain ⟨c, c1, ⟨A, c2, i1, i2⟩, c3⟩ := q hv
      rcases h1 c c1 c3 with g | ⟨B2, g1, g2, g3⟩
      · exact Or.inl (Or.inr (fun _ => ⟨c, c1, ⟨A, c2, i1, i2⟩, g⟩))
      · obtain ⟨T, v1, v2⟩ := hv
        exact Or.inr (inW_to hz v1 hm c2 g1 ⟨0, by omega, i1, i2, g2, g3⟩)
    · exact Or.inl (Or.inr (fun g => absurd g hv))
/-- nothing of it has a value -/
theorem no_lo (hz : qLy y z) (hz16 : z.1 T0 ≤ 16) (h : T0 = 0 ∨ ∀ c : Nat, c < z.1 T0 → ibit x c = true) (π : lLc) : LcF y z T0 x π := by
  rcases h with q | q
  · exact Or.inl q
  · refine Or.inr (fun g => ?_)
    obtain ⟨T, g1, g2⟩ := g
    have i1 := qA_in (c := fun _ => 0) (a := 0) hz g2 (qN_M g1)
    have i2 := hz.1 T
    exact ⟨qA y z (fun _ => 0) T0 0 π, by omega, ⟨T, g2, Nat.le_refl _, by omega⟩, q _ (by omega)⟩
end
