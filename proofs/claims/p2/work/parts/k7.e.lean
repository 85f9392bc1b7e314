theorem nI_ij {a b : Nat} (h : nI a = nI b) (ha : a ≤ 100000) (hb : b ≤ 100000) : a = b := by
  have e := congrArg Int32.toNatClampNeg h
  rw [nI_clamp (by omega), nI_clamp (by omega)] at e
  exact e
section EBV
variable {R : yR} {S S2 : Sg} {Λ : List Nat} {gv p2 q2 : Nat}
theorem eS_vz (hV : VZ R (Xo R p2 q2) S S2) {P P2 : Nat → Prop} {n : Nat} (hP : ∀ {m : Nat}, m < n → ∀ {a p q b b2 v w : Nat} {Γ Γ2 : List Nat} {κ : Nat × Nat × Nat}, sN R S Λ gv m 1 a p q b b2 v w Γ Γ2 κ → dj p q p2 q2 → q ≤ 100000 → P a → P2 a) {y p q b b2 v w : Nat} {Γ Γ2 : List Nat} (h : sN R S Λ gv n 0 y p q b b2 v w Γ Γ2 (0, 0, 0)) (hd : dj p q p2 q2) (hq : q ≤ 100000) (he : eS S P y) : eS S2 P2 y := by
  cases n with
  | zero => exact h.elim
  | succ n =>
  obtain ⟨⟨h1, h2, h3⟩, h5⟩ := h
  obtain ⟨fs, g1, g2⟩ := he
  have hy : ZF S2 y = ZF S y := hV.1 y h1 (fun x => Xo_dj (Or.inl ⟨p, h2, Nat.le_refl _, h3⟩) x hd)
  refine ⟨fs, hy.trans g1, ?_⟩
  rcases h5 with ⟨nm, y9, mu, wr, ex, k1, _⟩ | ⟨kd, x, p', q', t, e1, k1, _⟩ | ⟨x, y9, q9, p3, q3, vv, t, mu, mv, π, k1, _⟩ | ⟨ca, ba, cap, mn, f, g, k1, k2, k3, k4, k5, k6, k7, k8, k9, l1⟩ | ⟨x, y9, q0, b9, t, k1, _⟩ | ⟨x, ar, cap, mn, p0, q0, b9, i, t, bd, mu, rf, f, vf, k1, k2, k3, k4, k5, k6, k7, k8, k9, l1, l2, l3⟩ | ⟨ex, k1, _⟩ | ⟨y9, k1, k2, k3⟩ <;> (have e := (Prod.mk.inj (Sum.inr.inj (g1.symm.trans k1))).2; subst e)
  · rcases g2 with g2 | ⟨g2, _⟩ | ⟨g2, _⟩ | ⟨g2, _⟩ <;> exact absurd (Value.int.inj (Option.some.inj g2)) (by decide)
  · have hk : kd ≠ 6 ∧ kd ≠ 8 ∧ kd ≠ 5 ∧ kd ≠ 3 := by rcases e1 with e | ⟨e, _⟩ <;> subst e <;> decide
    rcases g2 with g2 | ⟨g2, _⟩ | ⟨g2, _⟩ | ⟨g2, _⟩
    · exact absurd (Value.int.inj (Option.some.inj g2)) hk.1
    · exact absurd (Value.int.inj (Option.some.inj g2)) hk.2.1
    · exact absurd (Value.int.inj (Option.some.inj g2)) hk.2.2.1
    · exact absurd (Value.int.inj (Option.some.inj g2)) hk.2.2.2
  · rcases g2 with g2 | ⟨g2, _⟩ | ⟨g2, _⟩ | ⟨g2, _⟩ <;> exact absurd (Value.int.inj (Option.some.inj g2)) (by decide)
  · rcases g2 with g2 | ⟨g2, _⟩ | ⟨g2, _⟩ | ⟨g2, ca2, ba2, mn2, cap2, cap3, k10, k11, f2, g3, j1, j2, j3, j4, j5, j6, j7, j8, j9⟩
    · exact absurd (Value.int.inj (Option.some.inj g2)) (by decide)
    · exact absurd (Value.int.inj (Option.some.inj g2)) (by decide)
    · exact absurd (Value.int.inj (Option.some.inj g2)) (by decide)
    · have ec : ca = ca2 := Value.ref.inj (Option.some.inj j1)
      have eb : ba = ba2 := Value.ref.inj (Option.some.inj j2)
      subst ec; subst eb
      have hlt : ∀ i x p q b c v w : Nat, (∃ p0 b0 : Nat, ((f i = none ∧ b0 = b) ∨ ∃ x p' q0 t : Nat, f i = some x ∧ p < p' ∧ q0 ≤ p0 ∧ xE R S Γ 408 16 x p' q0 b b0 t ∧ isTy S t 1 0 none) ∧ p ≤ p0 ∧ sN R S Λ gv n 1 x p0 q b0 c v w Γ Γ (0, 0, 0)) → p < q := fun i x p q b c v w ⟨p0, b0, _, z2, z3⟩ => by have := sN_lt z3; omega
      have hml := chJ_le l1 hlt
      have em : mn = mn2 := nI_ij (Value.int.inj (Option.some.inj j3)) (by omega) j5
      subst em
      have ef : g = g3 := by rw [k7] at j8; cases j8; rfl
      have ef2 : f = f2 := by rw [k6] at j6; cases j6; rfl
      subst ef; subst ef2
      refine Or.inr (Or.inr (Or.inr ⟨g2, ca, ba, mn, cap2, cap3, k10, k11, f, g, j1, j2, j3, j4, j5, (hV.nx k4).trans j6, j7, (hV.nx k5).trans j8, fun k hk => ?_⟩))
      obtain ⟨y2, z1, z2⟩ := j9 k hk
      obtain ⟨x, p1, q1, b1, c1, v1, w1, z3, z4, ⟨p0, b0, _, z5, z6⟩, z7⟩ := chJ_el l1 hlt k hk
      rw [z3] at z1; cases z1
      exact ⟨_, z3, hP (Nat.lt_succ_self n) z6 (by unfold dj at *; omega) (by omega) z2⟩
  · rcases g2 with g2 | ⟨g2, _⟩ | ⟨g2, _⟩ | ⟨g2, _⟩ <;> exact absurd (Value.int.inj (Option.some.inj g2)) (by decide)
  · rcases g2 with g2 | ⟨g2, _⟩ | ⟨g2, ar2, mn2, cap2, k10, f2, j1, j2, j3, j4, j5⟩ | ⟨g2, _⟩
    · exact absurd (Value.int.inj (Option.some.inj g2)) (by decide)
    · exact absurd (Value.int.inj (Option.some.inj g2)) (by decide)
    · have ea : ar = ar2 := Value.ref.inj (Option.some.inj j1)
      subst ea
      have hmn : mn ≤ 12 := by obtain ⟨_, _, _, _, _, _, z⟩ := k5; exact z
      have em : mn = mn2 := nI_ij (Value.int.inj (Option.some.inj j2)) (by omega) j3
      subst em
      have ef : f = f2 := by rw [k7] at j4; cases j4; rfl
      subst ef
      refine Or.inr (Or.inr (Or.inl ⟨g2, ar, mn, cap2, k10, f, j1, j2, j3, (hV.nx k6).trans j4, fun k hk => ?_⟩))
      obtain ⟨y2, bk, ys, z1, z2, z3, z4⟩ := j5 k hk
      obtain ⟨x, p1, q1, b1, c1, v1, w1, z5, z6, z7, z8⟩ := chJ_el l1 (fun i x p q b c v w z => sN_lt z) k hk
      rw [z5] at z1; cases z1
      have hq0 : p ≤ q0 := by
        rcases k3 with ⟨_, _, _, z⟩ | ⟨_, _, vv, m2, w2, π, _, z, _⟩
        · have := xE_lt z; omega
        · have : p0 < q0 := z.1.2.2; omega
      have hd1 : dj p1 q1 p2 q2 := by unfold dj at *; omega
      cases n with
      | zero => exact z7.elim
      | succ n =>
      obtain ⟨⟨y1, y2, y3⟩, na, bk2, mk, p', fv, tx, us, y4, _, _, _, _, _, _, _, y6, y5⟩ := z7
      have e9 := (Prod.mk.inj (Sum.inr.inj (z2.symm.trans y4))).2
      subst e9
      have eb : bk2 = bk := Value.ref.inj (Option.some.inj z3)
      subst eb
      exact ⟨_, bk2, _, z5, (hV.1 _ y1 (fun x => Xo_dj (Or.inl ⟨p1, y2, Nat.le_refl _, y3⟩) x hd1)).trans z2, z3, hP (by omega) y5 (by unfold dj at *; omega) (by omega) z4⟩
    · exact absurd (Value.int.inj (Option.some.inj g2)) (by decide)
  · rcases g2 with g2 | ⟨g2, _⟩ | ⟨g2, _⟩ | ⟨g2, _⟩
    · exact Or.inl g2
    · exact absurd (Value.int.inj (Option.some.inj g2)) (by decide)
    · exact absurd (Value.int.inj (Option.some.inj g2)) (by decide)
    · exact absurd (Value.int.inj (Option.some.inj g2)) (by decide)
  · rcases g2 with g2 | ⟨g2, y8, j1, j2⟩ | ⟨g2, _⟩ | ⟨g2, _⟩
    · exact absurd (Value.int.inj (Option.some.inj g2)) (by decide)
    · have ea : y9 = y8 := Value.ref.inj (Option.some.inj j1)
      subst ea
      exact Or.inr (Or.inl ⟨g2, y9, j1, hP (Nat.lt_succ_self n) k2 hd hq j2⟩)
    · exact absurd (Value.int.inj (Option.some.inj g2)) (by decide)
    · exact absurd (Value.int.inj (Option.some.inj g2)) (by decide)
theorem eB_vz (hV : VZ R (Xo R p2 q2) S S2) : ∀ (d : Nat) {n a p q b b2 v w : Nat} {Γ Γ2 : List Nat} {κ : Nat × Nat × Nat}, sN R S Λ gv n 1 a p q b b2 v w Γ Γ2 κ → dj p q p2 q2 → q ≤ 100000 → eB S d a → eB S2 d a
  | 0, _, _, _, _, _, _, _, _, _, _, _, _, _, _, h => h.elim
  | d + 1, 0, _, _, _, _, _, _, _, _, _, _, h, _, _, _ => h.elim
  | d + 1, n + 1, a, p, q, b, b2, v, w, Γ, Γ2, κ, h, hd, hq, he => by
    obtain ⟨nxa, hpq, _, la, cap, mn, f, gs, k1, k2, k3, k4, k5, k6⟩ := h
    obtain ⟨fs, la2, mn2, cap2, k, y, k9, f2, e1, e2, e3, e4, e5, e6, e7, e8⟩ := he
    have e9 := (Prod.mk.inj (Sum.inr.inj (e1.symm.trans k1))).2
    subst e9
    have ea : la = la2 := Value.ref.inj (Option.some.inj e2)
    subst ea
    have hml := chJ_le k6 (fun i x p q b c v w z => sN_lt z)
    have em : mn = mn2 := nI_ij (Value.int.inj (Option.some.inj e3)) (by omega) e4
    subst em
    have ef : f = f2 := by rw [k3] at e5; cases e5; rfl
    subst ef
    obtain ⟨x, p1, q1, b1, c1, v1, w1, z5, z6, z7, z8⟩ := chJ_el k6 (fun i x p q b c v w z => sN_lt z) k e6
    rw [z5] at e7; cases e7
    exact ⟨_, la, mn, cap2, k, _, k9, f, (hV.nx nxa).trans e1, e2, e3, e4, (hV.nx k2).trans e5, e6, z5, eS_vz hV (fun {m} _ {a p q b b2 v w Γ Γ2 κ} h9 hd9 hq9 he9 => eB_vz hV d h9 hd9 hq9 he9) z7 (by unfold dj at *; omega) (by omega) e8⟩
theorem eB_vx (hV : VX R (Xo R p2 q2) S S2) : ∀ (d : Nat) {n a p q b b2 v w : Nat} {Γ Γ2 : List Nat} {κ : Nat × Nat × Nat}, sN R S Λ gv n 1 a p q b b2 v w Γ Γ2 κ → dj p q p2 q2 → q ≤ 100000 → eB S d a → eB S2 d a := eB_vz hV.2
end EBV
