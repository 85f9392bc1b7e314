/-- the place of an instruction that ways come to has a type -/
theorem ce_pt {F X : tF} {G : Nat → Nat → Nat} {rs a b i : Nat} {k : Nat → Option (List tE)} (h : ceI F X G rs a b k) (ha : a ≤ i) (hb : i < b) (hk : ∃ r : List tE, k i = some r) : ∀ p : Nat, (F 0 i = nI 2 ∨ F 0 i = nI 3 ∨ F 0 i = nI 26) → F 1 i = nI p → p < 3001 → ∃ T : Nat, T ≤ 3039 ∧ F 10 p = nI T := fun p ho h1 hp => by
  obtain ⟨s, hs⟩ := hk
  have key : ∀ (p9 v9 n T : Nat) (pa ro mu : Int32), F 1 i = nI p9 → plI F X p9 v9 n T pa ro mu → ∃ T : Nat, T ≤ 3039 ∧ F 10 p = nI T := fun p9 v9 n T pa ro mu q1 q2 => by
    obtain ⟨⟨z1, -⟩, -, -, z2, -, -, -, -, z3, -⟩ := q2
    have e1 : p9 = p := (nI_eq (by omega) (by omega)).mp (q1.symm.trans h1)
    subst e1
    exact ⟨T, by omega, z3⟩
  rcases ho with ho | ho | ho
  · obtain ⟨p9, T, mu, q1, ⟨v9, n, pa, ro, q2⟩, -⟩ := ce_op h ha hb hs ho (by decide)
    exact key p9 v9 n T pa ro mu q1 q2
  · obtain ⟨p9, T, q1, ⟨v9, n, pa, ro, mu, q2, -⟩, -⟩ := ce_op h ha hb hs ho (by decide)
    exact key p9 v9 n T pa ro mu q1 q2
  · obtain ⟨p9, v9, n, T, pa, ro, mu, r, q1, q2, -⟩ := ce_op h ha hb hs ho (by decide)
    exact key p9 v9 n T pa ro mu q1 q2
