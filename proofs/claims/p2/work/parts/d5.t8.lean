/-- the table's number of the class's type u -/
def ymF (F : tF) (u : Nat) : Nat := if F 20 u = 5 then 10000 + 2 * cN (F 21 u) else if F 20 u = 6 then 10001 + 2 * cN (F 21 u) else u
theorem ymF_n {F X : tF} {yp yt u : Nat} (h : tbO F X yp yt) (hu : tyN yp (F 20) u) : ymF F u = u := by
  have := tyN_nr h hu
  unfold ymF
  rw [if_neg this.1, if_neg this.2]
theorem ty_sz {F X : tF} {yp yt u : Nat} (h : tbO F X yp yt) (hu : tyV yp yt (F 20) u) : (zF F X yt).1 (ymF F u) = cN (F 22 u) ∧ 1 ≤ cN (F 22 u) ∧ cN (F 22 u) ≤ 16 := by
  obtain ⟨hty, hsq, hsz, hms⟩ := h
  have h30 : yt ≤ 3040 := hty.2.1
  obtain ⟨z0, z1, z2, z3⟩ := hty.2.2.2.2.1
  rcases hu with ⟨hu | hu, hy⟩
  · have e : ymF F u = u := ymF_n ⟨hty, hsq, hsz, hms⟩ hu
    have e2 : (zF F X yt).1 u = max 1 (min 16 (cN (F 22 u))) := if_pos hy
    have e3 : 1 ≤ cN (F 22 u) ∧ cN (F 22 u) ≤ 16 := by
      rcases hu with hu | hu | hu
      · rcases hu with rfl | rfl | rfl
        · have z1 : F 22 1 = 1 := z1
          rw [z1]; decide
        · have z2 : F 22 2 = 1 := z2
          rw [z2]; decide
        · have z3 : F 22 3 = 1 := z3
          rw [z3]; decide
      · obtain ⟨z, q1, q2, q3⟩ := hsz (u - 4) (by omega)
        rw [show 4 + (u - 4) = u by omega] at q1
        rw [q1, cN_nI (by omega)]; omega
      · have q : F 22 u = 1 := (hty.2.2.2.2.2.2.2.1 u hu.1 hy).2.1
        rw [q]; decide
    rw [e, e2]
    exact ⟨by omega, e3⟩
  · have q : F 22 u = 1 := (hty.2.2.2.2.2.2.2.1 u hu.1 hy).2.1
    have e1 : cN (F 22 u) = 1 := by rw [q]; rfl
    have e : (zF F X yt).1 (ymF F u) = 1 := by
      unfold ymF
      rcases hu.2 with z | z
      · rw [if_pos z]
        show (if 10000 + 2 * cN (F 21 u) < yt then _ else 1) = 1
        rw [if_neg (by omega)]
      · rw [if_neg (by rw [z]; decide), if_pos z]
        show (if 10001 + 2 * cN (F 21 u) < yt then _ else 1) = 1
        rw [if_neg (by omega)]
    rw [e, e1]; decide
theorem ymF_0 {F X : tF} {yp yt u : Nat} (h : tbO F X yp yt) (hu : tyV yp yt (F 20) u) : ymF F u ≠ 0 := by
  rcases hu with ⟨hu | hu, hy⟩
  · rw [ymF_n h hu]
    rcases hu with hu | hu | hu <;> omega
  · unfold ymF
    rcases hu.2 with z | z
    · rw [if_pos z]; omega
    · rw [if_neg (by rw [z]; decide), if_pos z]; omega
/-- what a reference's type is of is a proper type -/
theorem ty_of {F X : tF} {yp yt u : Nat} (h : tbO F X yp yt) (h34 : 34 ≤ u) (hy : u < yt) : ∃ U : Nat, U < u ∧ F 21 u = nI U ∧ tyN yp (F 20) U := by
  obtain ⟨-, -, -, U, u1, u2, u3⟩ := h.1.2.2.2.2.2.2.2.1 u h34 hy
  exact ⟨U, u1, u2, u3⟩
/-- functions' variables: their types, where they lie, how many cells: F their rows -/
def vtF (Fg : Nat → tF) (nv : Nat → Nat) (g v : Nat) : Nat := if v < nv g ∧ Fg g 15 v ≠ -1 then ymF (Fg g) (cN (Fg g 15 v)) else 0
def voF (Fg : Nat → tF) (g v : Nat) : Nat := cN (Fg g 17 v)
theorem kFt_of {Fg : Nat → tF} {F X : tF} {yp yt : Nat} {nv vc : Nat → Nat} (h : tbO F X yp yt) (hF : ∀ (g k i : Nat), 20 ≤ k → Fg g k i = F k i) (hv : ∀ g v : Nat, v < nv g → Fg g 15 v = -1 ∨ ∃ u : Nat, Fg g 15 v = nI u ∧ tyV yp yt (F 20) u)
    (h1 : ∀ g v : Nat, v < nv g → Fg g 15 v ≠ -1 → ∃ o : Nat, Fg g 17 v = nI o ∧ o < 2 ^ 31 ∧ o + cN (F 22 (cN (Fg g 15 v))) ≤ vc g)
    (h2 : ∀ g v w : Nat, v < nv g → w < nv g → v ≠ w → Fg g 15 v ≠ -1 → Fg g 15 w ≠ -1 → cN (Fg g 17 v) + cN (F 22 (cN (Fg g 15 v))) ≤ cN (Fg g 17 w) ∨ cN (Fg g 17 w) + cN (F 22 (cN (Fg g 15 w))) ≤ cN (Fg g 17 v)) : kFt (zF F X yt) (vtF Fg nv) (voF Fg) vc := by
  have hyt : yt ≤ 3040 := h.1.2.1
  have key : ∀ g v : Nat, vtF Fg nv g v ≠ 0 → v < nv g ∧ Fg g 15 v ≠ -1 ∧ (zF F X yt).1 (vtF Fg nv g v) = cN (F 22 (cN (Fg g 15 v))) := fun g v hn => by
    unfold vtF at hn ⊢
    by_cases c : v < nv g ∧ Fg g 15 v ≠ -1
    · rw [if_pos c]
      refine ⟨c.1, c.2, ?_⟩
      obtain ⟨u, u1, u2⟩ := (hv g v c.1).resolve_left c.2
      have e : ymF (Fg g) (cN (Fg g 15 v)) = ymF F (cN (Fg g 15 v)) := by unfold ymF; rw [hF g 20 _ (by omega), hF g 21 _ (by omega)]
      rw [e, u1, cN_nI (by have := u2.2; omega)]
      exact (ty_sz h u2).1
    · rw [if_neg c] at hn; exact absurd rfl hn
  refine ⟨fun g v v4 hn => ?_, fun g v w v4 w4 hne hn hm => ?_⟩
  · obtain ⟨k1, k2, k3⟩ := key g v hn
    obtain ⟨o, o1, o2, o3⟩ := h1 g v k1 k2
    rw [k3]
    show cN (Fg g 17 v) + _ ≤ _
    rw [o1, cN_nI o2]; exact o3
  · obtain ⟨k1, k2, k3⟩ := key g v hn
    obtain ⟨m1, m2, m3⟩ := key g w hm
    rw [k3, m3]
    exact h2 g v w k1 m1 hne k2 m2
