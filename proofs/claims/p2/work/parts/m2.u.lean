section PS20
variable {R : yR} {S0 : Sg} {nv : Nat}
/-- behind the typing: all that the laying asks for -/
theorem enb_ (hD : RDI R) (hT : R.T ≤ 3001) (hp : R.ps R.im ≤ 1990) (h : TYF R nv S0) (h3 : Zi S0 3 = 0) : ENb R S0 ∧ (∃ g : Nat → Int32, LFS R S0 g) ∧ (∀ i : Nat, i < R.im → R.ik i = 12 → FnT R S0 i) ∧ MN R S0 ∧ (∀ a ∈ ZL S0, a < Zz S0) ∧ Zi S0 12 = nI R.im := by
  obtain ⟨c2, nv2, t1, t2, hS, t4⟩ := h
  obtain ⟨hA, hW, hFT, hM, g, hg⟩ := t4 h3
  have hc : c2 ≤ 1990 := by omega
  have hS2 := hS
  obtain ⟨G, tm, Y, ad, s1, s2, s3, s4, s5, s6, s7⟩ := hS2
  have htm : tm ≤ 2000 := by have := ptN_ge (Y := Y) (tm := tm); omega
  have hR : RIn R S0 := fun a ha => (s2 a ha).1
  have hY : YK R S0 := ⟨by rw [s1.tm9 htm]; exact htm, hD.1, fun x kd ix o q => (hS.at hc q).1⟩
  have h11 : Zq S0 11 = Zq R.S 11 := s7 11 (by decide) (by decide)
  have hM1 : MN1 R S0 := fun i mn fs hi hk e1 e2 e3 => by
    obtain ⟨s, _, _, fs2, mn2, q1, q2, q3, q4, _⟩ := hg.1 i hi hk
    have : fs2 = fs := by rw [e1] at q1; cases q1; rfl
    subst this
    rw [q2] at e2
    have := nI_e (by omega) (by omega) (Value.int.inj (Option.some.inj e2))
    omega
  have hN : SNH R S0 := by
    refine ⟨hT, ⟨s5 0 (by decide), s5 6 (by decide), s5 7 (by decide)⟩, fun t ht => ?_⟩
    obtain ⟨⟨⟨k1, k2, ⟨a, b, k3, _⟩, k4, k5, k6⟩, k7, k8⟩, _⟩ := s1.1
    by_cases e : t = R.T - 1
    · subst e
      exact ⟨R.zs, R.zs, k5, k6, Nat.le_refl _, k7⟩
    · obtain ⟨g1, g2, g3, g4, _⟩ := k3 t (by omega)
      exact ⟨a t, b t, g1, g2, by omega, by omega⟩
  exact ⟨⟨hR, hY, hS.keq, hA, ⟨h11, s5 5 (by decide)⟩, hT, hM1, hN⟩, ⟨g, hY, hR, hA, h11, hg⟩, hFT, hM, s1.2.2.2.2.2.2, s1.2.2.1⟩
/-- the items' addresses differ, their heads are ahead of their bodies -/
theorem RDI.wi (hD : RDI R) {i j : Nat} (hi : i < R.im) (hj : j < R.im) (h : i ≠ j) : R.ws i ≠ R.ws j := by
  have key : ∀ i j : Nat, i < j → j < R.im → R.ws i < R.ws j := fun i j hij hj => by
    obtain ⟨_, k2, _⟩ := hD.2.2.2.2 i (by omega)
    have m1 : R.ws i ∈ iv (R.ws i) (R.ws (i + 1)) := k2.1
    have m2 : R.ws i < R.ws (i + 1) := by
      unfold iv at m1
      have := List.mem_range'_1.mp m1
      omega
    have := (hD.2.2.1 (i + 1) j (by omega) (by omega)).2
    omega
  rcases Nat.lt_or_gt_of_ne h with w | w
  · exact Nat.ne_of_lt (key i j w hj)
  · exact Nat.ne_of_gt (key j i w hi)
end PS20
