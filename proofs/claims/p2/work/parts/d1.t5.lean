theorem qPl_par {y : qY} {T : Nat} {V : qV} (h : qOk y T V) {ρ1 : lLc} {j : Nat} {ρ2 : lLc} (hp : qPl V (ρ1 ++ (1, j) :: ρ2)) : ∃ x : Nat × Nat, V ρ1 = some x := by
  obtain ⟨τ, x, hx⟩ := hp
  exact h.2.1 ρ1 (ρ2 ++ τ) j x (by rw [List.append_assoc] at hx; exact hx)
/-- no cell of a star on the way is written: the same address -/
theorem qA_pl {y : qY} {z : qZ} {c c2 : Nat → Int} {T t a : Nat} {V : qV} {π : lLc} (h : qOk y T V) (hp : qPl V π) (hw : qW y T π t) (hc : ∀ (π1 : lLc) (x : Nat × Nat), V π1 = some x → lP π1 π → π1 ≠ π → c2 (qA y z c T a π1) = c (qA y z c T a π1)) : qA y z c2 T a π = qA y z c T a π := by
  refine qA_fr π.length (Nat.le_refl _) hw (fun π1 j π2 e => ?_)
  subst e
  obtain ⟨x, hx⟩ := qPl_par h hp
  refine hc π1 x hx (lP_app _ _) (fun e => ?_)
  have := congrArg List.length e
  simp only [List.length_append, List.length_cons] at this
  omega
/-- what lies elsewhere keeps its address -/
theorem qMv_ad {y : qY} {z : qZ} {hp : Nat} {tk : Nat → Prop} {c c2 : Nat → Int} {rt ra : Nat × Nat → Nat} {V : Nat × Nat → qV} (h : qMm y z hp tk c rt ra V) {s d : Nat × Nat} {σ ρ : lLc} {T1 : Nat} (e1 : ∀ (r : Nat × Nat) (π : lLc) (x : Nat × Nat), V r π = some x → ¬ (r = d ∧ lP ρ π) → (r = s → lP σ π → ¬ qN π) → ¬ (qA y z c (rt d) (ra d) ρ ≤ qA y z c (rt r) (ra r) π ∧ qA y z c (rt r) (ra r) π < qA y z c (rt d) (ra d) ρ + z.1 T1)) (e2 : ∀ k : Nat, ¬ (qA y z c (rt d) (ra d) ρ ≤ k ∧ k < qA y z c (rt d) (ra d) ρ + z.1 T1) → c2 k = c k) {r : Nat × Nat} {π : lLc} {t : Nat} (hpl : qPl (V r) π) (hw : qW y (rt r) π t) (hn : r = d → lCmp π ρ → lP π ρ) (h9 : r = s → ¬ lP σ π) : qA y z c2 (rt r) (ra r) π = qA y z c (rt r) (ra r) π := by
  refine qA_pl (h.1 r) hpl hw (fun π1 x hx h1 h2 => e2 _ (e1 r π1 x hx (fun q => h2 ?_) (fun q1 q2 => absurd (lP_tr q2 h1) (h9 q1))))
  have h3 := hn q.1 (Or.inr (lP_tr q.2 h1))
  exact lP_anti h1 (lP_tr h3 q.2)
/-- a fresh root that nothing lies near: no cell of others is in it -/
theorem qFresh {y : qY} {z : qZ} {hp : Nat} {tk : Nat → Prop} {c : Nat → Int} {rt ra : Nat × Nat → Nat} {V : Nat × Nat → qV} (hz : qLy y z) (h : qMm y z hp tk c rt ra V) {a n : Nat} (ha : hp ≤ a) {r : Nat × Nat} {π : lLc} {x : Nat × Nat} (hx : V r π = some x) (hd : ra r + z.1 (rt r) ≤ a ∨ a + n ≤ ra r) : ¬ (a ≤ qA y z c (rt r) (ra r) π ∧ qA y z c (rt r) (ra r) π < a + n) := by
  obtain ⟨t, g⟩ := x
  obtain ⟨m1, m2, m3, m4, m5⟩ := h
  have w1 := ((m1 r).1 π t g hx).1
  have p1 := hz.1 t
  rcases qN_last π with nπ | ⟨π1, i, π2, rfl, nπ⟩
  · have i2 := qA_in (c := c) hz (a := ra r) w1 nπ
    omega
  · obtain ⟨t1, g1, k1, k2, k3, k4, k5⟩ := qH (z := z) (c := c) (m1 r) (σ := []) (by rw [List.append_nil]; exact hx) w1
    obtain ⟨b, b1, b2, b3⟩ := (m2 r π1 t1 g1 k1).2 k2
    have k6 := k5 (ra r)
    rw [b1] at k6
    have i2 := qA_in (c := c) hz (a := b) k4 nπ
    rw [k6]
    show ¬ (_ ≤ qA y z c (y.2.1 t1) b π2 ∧ _)
    omega
/-- cells outside of all that lies there may be written -/
theorem qMm_c {y : qY} {z : qZ} {hp : Nat} {tk : Nat → Prop} {c c2 : Nat → Int} {rt ra : Nat × Nat → Nat} {V : Nat × Nat → qV} (h : qMm y z hp tk c rt ra V) (hc : ∀ (r : Nat × Nat) (π : lLc) (x : Nat × Nat), V r π = some x → c2 (qA y z c (rt r) (ra r) π) = c (qA y z c (rt r) (ra r) π)) : qMm y z hp tk c2 rt ra V := by
  have hw := h
  obtain ⟨m1, m2, m3, m4, m5⟩ := h
  have ad : ∀ (r : Nat × Nat) (π : lLc) (x : Nat × Nat), V r π = some x → c2 (qA y z c2 (rt r) (ra r) π) = c (qA y z c (rt r) (ra r) π) := fun r π x hx => by
    obtain ⟨t, g⟩ := x
    rw [qA_pl (c2 := c2) (m1 r) ⟨[], (t, g), by rw [List.append_nil]; exact hx⟩ ((m1 r).1 π t g hx).1 (fun π1 u hu _ _ => hc r π1 u hu)]
    exact hc r π _ hx
  exact qMm_map hw (fun r π r0 π0 => r0 = r ∧ π0 = π) (fun r π r2 π2 r0 π0 a b => by rw [← a.1, ← a.2, ← b.1, ← b.2]) m1 (fun r π t g hv => Or.inl ⟨r, π, ⟨rfl, rfl⟩, hv, ad r π _ hv⟩) m4 m5
/-- a new value of one cell -/
theorem qMm_pl {y : qY} {z : qZ} {hp : Nat} {tk : Nat → Prop} {c : Nat → Int} {rt ra : Nat × Nat → Nat} {V : Nat × Nat → qV} (h : qMm y z hp tk c rt ra V) {d : Nat × Nat} (h2 : y.1 (rt d) ≠ 2) (h3 : y.1 (rt d) ≠ 3) (h4 : y.1 (rt d) ≠ 4) (e4 : hp ≤ ra d) (e5 : ∀ (r : Nat × Nat) (π : lLc) (x : Nat × Nat), r ≠ d → V r π = some x → ra r + z.1 (rt r) ≤ ra d ∨ ra d + z.1 (rt d) ≤ ra r) : qMm y z hp tk c rt ra (qUp V d (qL (rt d))) := by
  have hw := h
  obtain ⟨m1, m2, m3, m4, m5⟩ := h
  have cls : ∀ (r : Nat × Nat) (π : lLc) (x : Nat × Nat), qUp V d (qL (rt d)) r π = some x → (r = d ∧ x = (rt d, 0)) ∨ (r ≠ d ∧ V r π = some x) := fun r π x hx => by
    by_cases e : r = d
    · subst e
      rw [qUp_eq] at hx
      cases π with
      | nil => exact Or.inl ⟨rfl, (Option.some.inj hx).symm⟩
      | cons a b => exact absurd (show none = some x from hx) (by simp)
    · rw [qUp_ne e] at hx
      exact Or.inr ⟨e, hx⟩
  refine qMm_map hw (fun r π r0 π0 => r0 = r ∧ π0 = π) (fun r π r2 π2 r0 π0 a b => by rw [← a.1, ← a.2, ← b.1, ← b.2]) (fun r => ?_) (fun r π t g hv => ?_) (fun r π x hx => ?_) (fun r r2 π π2 x x2 hne hx hx2 => ?_)
  · by_cases e : r = d
    · subst e; rw [qUp_eq]; exact (qFu_L h2 h3 h4).1
    · rw [qUp_ne e]; exact m1 r
  · rcases cls r π _ hv with ⟨a1, a2⟩ | ⟨a1, a2⟩
    · injection a2 with a3 a4
      exact Or.inr ⟨by rw [a3]; exact h4, fun q => absurd (by rw [← a3]; exact q) h3⟩
    · exact Or.inl ⟨r, π, ⟨rfl, rfl⟩, a2, rfl⟩
  · rcases cls r π _ hx with ⟨a1, a2⟩ | ⟨a1, a2⟩
    · rw [a1]; exact e4
    · exact m4 r π x a2
  · rcases cls r π _ hx with ⟨a1, a2⟩ | ⟨a1, a2⟩
    · rcases cls r2 π2 _ hx2 with ⟨b1, b2⟩ | ⟨b1, b2⟩
      · exact absurd (a1.trans b1.symm) hne
      · subst a1; exact (e5 r2 π2 x2 b1 b2).symm
    · rcases cls r2 π2 _ hx2 with ⟨b1, b2⟩ | ⟨b1, b2⟩
      · subst b1; exact e5 r π x a1 a2
      · exact m5 r r2 π π2 x x2 hne a2 b2
