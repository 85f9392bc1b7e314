/-- sizes of types, where parts lie -/
abbrev qZ := (Nat → Nat) × (Nat → Nat → Nat → Nat)
/-- parts lie inside and apart; an enum's first cell is its variant's -/
def qLy (y : qY) (z : qZ) : Prop :=
  (∀ t : Nat, 1 ≤ z.1 t) ∧
  (∀ t j : Nat, y.1 t = 2 → j < y.2.2.2.1 t 0 → z.2 t 0 j + z.1 (y.2.2.2.2 t 0 j) ≤ z.1 t) ∧
  (∀ t i j : Nat, y.1 t = 2 → i < j → j < y.2.2.2.1 t 0 → z.2 t 0 i + z.1 (y.2.2.2.2 t 0 i) ≤ z.2 t 0 j) ∧
  (∀ t g j : Nat, y.1 t = 3 → g < y.2.2.1 t → j < y.2.2.2.1 t g → 1 ≤ z.2 t g j ∧ z.2 t g j + z.1 (y.2.2.2.2 t g j) ≤ z.1 t) ∧
  (∀ t g i j : Nat, y.1 t = 3 → g < y.2.2.1 t → i < j → j < y.2.2.2.1 t g → z.2 t g i + z.1 (y.2.2.2.2 t g i) ≤ z.2 t g j)
/-- the address at the end of a way (c: what the cells hold) -/
def qA (y : qY) (z : qZ) (c : Nat → Int) : Nat → Nat → lLc → Nat
  | _, a, [] => a
  | T, a, (0, j) :: π => qA y z c (y.2.2.2.2 T 0 j) (a + z.2 T 0 j) π
  | T, a, (1, _) :: π => qA y z c (y.2.1 T) (c a).toNat π
  | T, a, (g + 2, j) :: π => qA y z c (y.2.2.2.2 T g j) (a + z.2 T g j) π
/-- no star -/
def qN (π : lLc) : Prop := ∀ x : Nat × Nat, x ∈ π → x.1 ≠ 1
theorem qN_nil : qN [] := fun x h => by simp at h
theorem qN_cons {x : Nat × Nat} {a : lLc} : qN (x :: a) ↔ x.1 ≠ 1 ∧ qN a := by
  constructor
  · intro h
    exact ⟨h x (List.mem_cons_self ..), fun z hz => h z (List.mem_cons_of_mem x hz)⟩
  · intro h z hz
    rcases List.mem_cons.mp hz with e | e
    · rw [e]; exact h.1
    · exact h.2 z e
theorem qN_M {π : lLc} (h : qM π) : qN π := fun x hx => by rw [h x hx]; decide
theorem qA_app {y : qY} {z : qZ} {c : Nat → Int} : ∀ {π σ : lLc} {T T1 a : Nat}, qW y T π T1 → qA y z c T a (π ++ σ) = qA y z c T1 (qA y z c T a π) σ
  | [], _, _, _, _, h => by
    obtain rfl := (show _ = _ from h)
    rfl
  | (0, j) :: π, σ, _, _, _, h => qA_app (π := π) h.2.2
  | (1, j) :: π, σ, _, _, _, h => qA_app (π := π) h.2.2
  | (g + 2, j) :: π, σ, _, _, _, h => qA_app (π := π) h.2.2.2
/-- without a star: inside -/
theorem qA_in {y : qY} {z : qZ} {c : Nat → Int} (hz : qLy y z) : ∀ {π : lLc} {T t a : Nat}, qW y T π t → qN π → a ≤ qA y z c T a π ∧ qA y z c T a π + z.1 t ≤ a + z.1 T
  | [], T, t, a, h, _ => by
    obtain rfl := (show _ = _ from h)
    exact ⟨Nat.le_refl _, Nat.le_refl _⟩
  | (0, j) :: π, T, t, a, h, hn => by
    obtain ⟨h1, h2⟩ := qA_in (c := c) hz (π := π) (a := a + z.2 T 0 j) h.2.2 (qN_cons.mp hn).2
    have h3 := hz.2.1 T j h.1 h.2.1
    show a ≤ qA y z c (y.2.2.2.2 T 0 j) (a + z.2 T 0 j) π ∧ qA y z c (y.2.2.2.2 T 0 j) (a + z.2 T 0 j) π + z.1 t ≤ a + z.1 T
    omega
  | (1, j) :: π, T, t, a, h, hn => absurd rfl (qN_cons.mp hn).1
  | (g + 2, j) :: π, T, t, a, h, hn => by
    obtain ⟨h1, h2⟩ := qA_in (c := c) hz (π := π) (a := a + z.2 T g j) h.2.2.2 (qN_cons.mp hn).2
    have h3 := hz.2.2.2.1 T g j h.1 h.2.1 h.2.2.1
    show a ≤ qA y z c (y.2.2.2.2 T g j) (a + z.2 T g j) π ∧ qA y z c (y.2.2.2.2 T g j) (a + z.2 T g j) π + z.1 t ≤ a + z.1 T
    omega
/-- it doesn't ask the cells -/
theorem qA_sh {y : qY} {z : qZ} {c c2 : Nat → Int} : ∀ {π : lLc} {T t a b : Nat}, qW y T π t → qN π → qA y z c T a π + b = qA y z c2 T b π + a
  | [], _, _, _, _, _, _ => Nat.add_comm _ _
  | (0, j) :: π, T, t, a, b, h, hn => by
    have := qA_sh (z := z) (c := c) (c2 := c2) (π := π) (a := a + z.2 T 0 j) (b := b + z.2 T 0 j) h.2.2 (qN_cons.mp hn).2
    show qA y z c (y.2.2.2.2 T 0 j) (a + z.2 T 0 j) π + b = qA y z c2 (y.2.2.2.2 T 0 j) (b + z.2 T 0 j) π + a
    omega
  | (1, j) :: π, T, t, a, b, h, hn => absurd rfl (qN_cons.mp hn).1
  | (g + 2, j) :: π, T, t, a, b, h, hn => by
    have := qA_sh (z := z) (c := c) (c2 := c2) (π := π) (a := a + z.2 T g j) (b := b + z.2 T g j) h.2.2.2 (qN_cons.mp hn).2
    show qA y z c (y.2.2.2.2 T g j) (a + z.2 T g j) π + b = qA y z c2 (y.2.2.2.2 T g j) (b + z.2 T g j) π + a
    omega
/-- the last star of a way -/
theorem qN_last : ∀ (π : lLc), qN π ∨ ∃ (π1 : lLc) (j : Nat) (π2 : lLc), π = π1 ++ (1, j) :: π2 ∧ qN π2
  | [] => Or.inl qN_nil
  | (q, j) :: π => by
    rcases qN_last π with h | ⟨π1, i, π2, e, h⟩
    · by_cases c : q = 1
      · subst c
        exact Or.inr ⟨[], j, π, rfl, h⟩
      · exact Or.inl (qN_cons.mpr ⟨c, h⟩)
    · exact Or.inr ⟨(q, j) :: π1, i, π2, by rw [e]; rfl, h⟩
/-- two ways without a star from one place of type T: the one isn't ahead of the other: apart; g: variants agree -/
theorem qA_ap {y : qY} {z : qZ} {c : Nat → Int} (hz : qLy y z) : ∀ {ρ π : lLc} {T T1 t a : Nat}, qW y T ρ T1 → qW y T π t → qN ρ → qN π → ¬ lP ρ π → y.1 t ≠ 2 → (∀ (κ ρ1 π1 : lLc) (g1 j1 g2 j2 : Nat), ρ = κ ++ (g1 + 2, j1) :: ρ1 → π = κ ++ (g2 + 2, j2) :: π1 → g1 = g2) → ¬ (qA y z c T a ρ ≤ qA y z c T a π ∧ qA y z c T a π < qA y z c T a ρ + z.1 T1)
  | [], π, _, _, _, _, _, _, _, _, hn, _, _ => absurd ⟨π, rfl⟩ hn
  | (0, j) :: ρ, [], T, T1, t, a, hρ, hπ, _, _, _, h2, _ => by
    obtain rfl := (show _ = _ from hπ)
    exact absurd hρ.1 h2
  | (1, j) :: ρ, _, _, _, _, _, _, _, hn, _, _, _, _ => absurd rfl (qN_cons.mp hn).1
  | (g + 2, j) :: ρ, [], T, T1, t, a, hρ, hπ, n1, n2, hn, h2, hg => by
    have h3 := (hz.2.2.2.1 T g j hρ.1 hρ.2.1 hρ.2.2.1).1
    have h4 := (qA_in (c := c) hz (a := a + z.2 T g j) hρ.2.2.2 (qN_cons.mp n1).2).1
    show ¬ (qA y z c (y.2.2.2.2 T g j) (a + z.2 T g j) ρ ≤ a ∧ _)
    omega
  | (0, j) :: ρ, (1, i) :: π, _, _, _, _, _, _, _, hn, _, _, _ => absurd rfl (qN_cons.mp hn).1
  | (g + 2, j) :: ρ, (1, i) :: π, _, _, _, _, _, _, _, hn, _, _, _ => absurd rfl (qN_cons.mp hn).1
  | (0, j) :: ρ, (h + 2, i) :: π, T, _, _, _, hρ, hπ, _, _, _, _, _ => absurd (hρ.1.symm.trans hπ.1) (by decide)
  | (h + 2, i) :: ρ, (0, j) :: π, T, _, _, _, hρ, hπ, _, _, _, _, _ => absurd (hρ.1.symm.trans hπ.1) (by decide)
  | (0, j) :: ρ, (0, i) :: π, T, T1, t, a, hρ, hπ, n1, n2, hn, h2, hg => by
    by_cases e : j = i
    · subst e
      exact qA_ap hz (ρ := ρ) (π := π) hρ.2.2 hπ.2.2 (qN_cons.mp n1).2 (qN_cons.mp n2).2 (fun q => hn (lP_consI q)) h2 (fun κ ρ1 π1 g1 j1 g2 j2 e1 e2 => hg ((0, j) :: κ) ρ1 π1 g1 j1 g2 j2 (by rw [e1]; rfl) (by rw [e2]; rfl))
    · have a1 := qA_in (c := c) hz (a := a + z.2 T 0 j) hρ.2.2 (qN_cons.mp n1).2
      have a2 := qA_in (c := c) hz (a := a + z.2 T 0 i) hπ.2.2 (qN_cons.mp n2).2
      have p1 := hz.1 t
      show ¬ (qA y z c (y.2.2.2.2 T 0 j) (a + z.2 T 0 j) ρ ≤ qA y z c (y.2.2.2.2 T 0 i) (a + z.2 T 0 i) π ∧ qA y z c (y.2.2.2.2 T 0 i) (a + z.2 T 0 i) π < qA y z c (y.2.2.2.2 T 0 j) (a + z.2 T 0 j) ρ + z.1 T1)
      rcases Nat.lt_or_gt_of_ne e with e | e
      · have := hz.2.2.1 T j i hρ.1 e hπ.2.1
        omega
      · have := hz.2.2.1 T i j hρ.1 e hρ.2.1
        omega
  | (g + 2, j) :: ρ, (h + 2, i) :: π, T, T1, t, a, hρ, hπ, n1, n2, hn, h2, hg => by
    obtain rfl : g = h := hg [] ρ π g j h i rfl rfl
    by_cases e : j = i
    · subst e
      exact qA_ap hz (ρ := ρ) (π := π) hρ.2.2.2 hπ.2.2.2 (qN_cons.mp n1).2 (qN_cons.mp n2).2 (fun q => hn (lP_consI q)) h2 (fun κ ρ1 π1 g1 j1 g2 j2 e1 e2 => hg ((g + 2, j) :: κ) ρ1 π1 g1 j1 g2 j2 (by rw [e1]; rfl) (by rw [e2]; rfl))
    · have a1 := qA_in (c := c) hz (a := a + z.2 T g j) hρ.2.2.2 (qN_cons.mp n1).2
      have a2 := qA_in (c := c) hz (a := a + z.2 T g i) hπ.2.2.2 (qN_cons.mp n2).2
      have p1 := hz.1 t
      show ¬ (qA y z c (y.2.2.2.2 T g j) (a + z.2 T g j) ρ ≤ qA y z c (y.2.2.2.2 T g i) (a + z.2 T g i) π ∧ qA y z c (y.2.2.2.2 T g i) (a + z.2 T g i) π < qA y z c (y.2.2.2.2 T g j) (a + z.2 T g j) ρ + z.1 T1)
      rcases Nat.lt_or_gt_of_ne e with e | e
      · have := hz.2.2.2.2 T g j i hρ.1 hρ.2.1 e hπ.2.2.1
        omega
      · have := hz.2.2.2.2 T g i j hρ.1 hρ.2.1 e hρ.2.2.1
        omega
