/-- what lies in the rows at point k, but for loans -/
def rzq (R : yR) (S0 S : Sg) (k : Nat) (i : iR) : Prop := Zr S 27 k = nI i.kd ∧ i.kd < 28 ∧ Zr S 33 k = nI i.ac ∧ i.ac < 8 ∧ (∃ tk : Nat, Zr S 32 k = nI tk ∧ tk < R.T) ∧
  ((Zq S 38 k = none ∧ i.pa = none) ∨ ∃ (w v T : Nat) (ρ : lLc), Zq S 38 k = some w ∧ i.pa = some (v, ρ, T) ∧ isPt R S0 S w v ρ T ∧ pVa S w i.n2) ∧
  ((i.kd = 26 ∧ i.sc = []) ∨ (i.kd = 16 ∧ ∃ j : Nat, Zr S 30 k = nI j ∧ i.sc = [j] ∧ j < 24000) ∨ ((i.kd = 17 ∨ i.kd = 18 ∨ i.kd = 19) ∧ ∃ j : Nat, Zr S 30 k = nI j ∧ i.sc = [k + 1, j] ∧ j < 24000) ∨ ((i.kd = 20 ∨ i.kd = 21) ∧ rAr R S (Zq S 42 k) i.sc ∧ i.sc ≠ []) ∨ (i.kd ≠ 26 ∧ i.kd ≠ 16 ∧ i.kd ≠ 17 ∧ i.kd ≠ 18 ∧ i.kd ≠ 19 ∧ i.kd ≠ 20 ∧ i.kd ≠ 21 ∧ Zr S 30 k = -1 ∧ i.sc = [k + 1])) ∧
  ((i.kd = 7 ∨ i.kd = 11 ∨ i.kd = 15) → ∃ x : Nat, Zq S 39 k = some x ∧ rTy S0 x ∧ abT S0 x = i.n1) ∧
  ((i.kd = 8 ∨ i.kd = 9 ∨ i.kd = 10) → Zr S 28 k = nI i.n1 ∧ Zr S 29 k = nI i.n2 ∧ Zl S 31 k = Int32.toInt64 (nI i.n3)) ∧
  (i.kd = 8 → rAr R S (Zq S 42 k) i.vs) ∧
  ((i.kd = 12 ∨ i.kd = 13 ∨ i.kd = 23 ∨ i.kd = 24) → ∃ (va v : Nat) (ty : Option Nat) (mu : Int32), Zq S 40 k = some va ∧ i.vs = [v] ∧ isU S va v ty mu ∧ abU S0 ty = i.n1 ∧ ∀ x : Nat, ty = some x → rTy S0 x) ∧
  (i.kd = 22 → rAm R S0 S (Zq S 41 k) i.n1 i.n2 i.vs) ∧
  (i.kd = 25 → Zr S 28 k = nI i.n1) ∧ (i.kd = 10 → R.ik i.n1 = 12 ∧ i.n1 < R.im)
section PS17
variable {R : yR} {S0 S S1 S2 Sr : Sg} {E : eV} {i : iR} {s : List tE} {k L : Nat} {lv : Prop} {J : Nat → List tE → Prop}
theorem rz.q (h : rz R S0 S k i) : rzq R S0 S k i := by
  obtain ⟨q1, q2, q3, q4, q5, q6, q7, q8, q9, q10, q11, q12, q13, q14, q15, q16, q17, q18⟩ := h
  exact ⟨q1, q2, q3, q4, q9, q10, q12, q13, q14, q15, q16, q17, q18⟩
theorem rzq.st (h : LX S S2) (hk : RK S S2 k) (q : rzq R S0 S k i) : rzq R S0 S2 k i := by
  obtain ⟨q1, q2, q3, q4, q9, q10, q12, q13, q14, q15, q16, q17, q18⟩ := q
  obtain ⟨k1, k2, k3⟩ := hk
  refine ⟨(k1 27 (by decide) (by decide)).trans q1, q2, (k1 33 (by decide) (by decide)).trans q3, q4, by rw [k1 32 (by decide) (by decide)]; exact q9, ?_, ?_, ?_, ?_, ?_, ?_, ?_, ?_⟩
  · rw [k3 38 (by decide) (by decide)]
    exact q10.imp id (fun ⟨w, v, T, ρ, a, b, c, d⟩ => ⟨w, v, T, ρ, a, b, c.st h, d.st h c⟩)
  · rw [k1 30 (by decide) (by decide), k3 42 (by decide) (by decide)]
    exact q12.imp id (fun z => z.imp id (fun z => z.imp id (fun z => z.imp (fun ⟨a, b, c⟩ => ⟨a, b.st h, c⟩) id)))
  · rw [k3 39 (by decide) (by decide)]; exact q13
  · rw [k1 28 (by decide) (by decide), k1 29 (by decide) (by decide), k2]; exact q14
  · rw [k3 42 (by decide) (by decide)]; exact fun e => (q15 e).st h
  · rw [k3 40 (by decide) (by decide)]
    intro e
    obtain ⟨va, v, ty, mu, a, b, c, d⟩ := q16 e
    exact ⟨va, v, ty, mu, a, b, c.st h, d⟩
  · rw [k3 41 (by decide) (by decide)]; exact fun e => (q17 e).st h
  · rw [k1 28 (by decide) (by decide)]; exact q18
theorem rz.sl (h : rz R S0 S k i) (h2 : (i.kd = 20 ∨ i.kd = 21) → i.sc.length ≤ 12) : i.sc.length ≤ 12 := by
  obtain ⟨_, _, _, _, _, _, _, _, _, _, _, q12, _⟩ := h
  rcases q12 with ⟨_, h⟩ | ⟨_, j, _, h, _⟩ | ⟨_, j, _, h, _⟩ | ⟨h, _⟩ | ⟨_, _, _, _, _, _, _, _, h⟩
  · rw [h]; simp
  · rw [h]; simp
  · rw [h]; simp
  · exact h2 h
  · rw [h]; simp
theorem iPa.v {v v2 T T2 : Nat} {ρ ρ2 : lLc} (h : iPa E i s v ρ T) (e : i.pa = some (v2, ρ2, T2)) : E.ad v2 = i.n2 ∧ ∃ (ρ : lLc) (T : Nat), pTy E.y (E.vt v2) ρ T ∧ T ≠ 0 := by
  obtain ⟨h1, h2, h3, h4, h5, h6, h7⟩ := h
  rw [h1] at e; cases e
  exact ⟨h2.2, ρ, T, h4, h6⟩
/-- a path's variable -/
theorem tPt.pv (h : tPt E k lv i s J) (h24 : i.kd ≠ 24) {v2 T2 : Nat} {ρ2 : lLc} (e : i.pa = some (v2, ρ2, T2)) : E.ad v2 = i.n2 ∧ ∃ (ρ : lLc) (T : Nat), pTy E.y (E.vt v2) ρ T ∧ T ≠ 0 := by
  have d0 : i.pa = none → E.ad v2 = i.n2 ∧ ∃ (ρ : lLc) (T : Nat), pTy E.y (E.vt v2) ρ T ∧ T ≠ 0 := fun w => by rw [w] at e; cases e
  unfold tPt at h
  split at h
  next => exact d0 h.1.1.2.1
  next => exact d0 h.1.1.2.1
  next => exact d0 h.1.1.2.1
  next => obtain ⟨_, v, ρ, T, hp, _⟩ := h; exact hp.v e
  next => obtain ⟨v, ρ, T, hp, _⟩ := h; exact hp.v e
  next => exact d0 h.1.2.1
  next => exact d0 h.1.2.1
  next => exact d0 h.1.2.1
  next => exact d0 h.1.2.1
  next => exact d0 h.1.2.1
  next => exact d0 h.1.1.2.1
  next => exact d0 h.2.1
  next => exact d0 h.1.2.1
  next => exact d0 h.2.1
  next => exact d0 h.2.1
  next => obtain ⟨_, _, v, ρ, T, r, hp, _⟩ := h; exact hp.v e
  next => exact d0 h.1.2.1
  next => exact d0 h.1.1.2.1
  next => exact d0 h.1.2.1
  next => exact d0 h.1.2.1
  next => exact d0 h.1.2.1
  next => exact d0 h.1.2.1
  next => obtain ⟨_, _, v, ρ, hp, _⟩ := h; exact hp.v e
  next => exact d0 h.1.2.1
  next =>
    obtain ⟨h1, v, ρ, w, q, g, m, r, _, _, _, _, _, _, _, _, _, _, _, _, p1, ⟨_, p2⟩, _, p3, _⟩ := h
    rw [p1] at e; cases e
    exact ⟨p2, ρ, 4 + q, p3, by omega⟩
  next hk => exact absurd hk h24
  next => exact d0 h.2.1
  next => exact d0 h.1.2.1
  exact h.elim
theorem qW_0 {y : qY} (hy : y.1 0 = 0) : ∀ {ρ : lLc} {T : Nat}, qW y 0 ρ T → T = 0
  | [], T, h => h
  | (0, j) :: π, T, h => by have := h.1; rw [hy] at this; exact absurd this (by decide)
  | (1, j) :: π, T, h => by have := h.2.1; rw [hy] at this; exact absurd this (by decide)
  | (g + 2, j) :: π, T, h => by have := h.1; rw [hy] at this; exact absurd this (by decide)
/-- a path's variable is one of the function's; its type -/
theorem tv_ {Λ : List Nat} {gv v T : Nat} {ρ : lLc} (hF : FEn R S0 (eVf R S0 Λ gv) Λ gv) (hx : LX S0 S) (h : tPt (eVf R S0 Λ gv) k lv i s J) (h24 : i.kd ≠ 24) (e : i.pa = some (v, ρ, T)) : vTp S0 S i.n2 = (eVf R S0 Λ gv).vt v ∧ v < Λ.length := by
  obtain ⟨h1, ρ2, T2, h2, h3⟩ := h.pv h24 e
  have hn : (eVf R S0 Λ gv).vt v ≠ 0 := fun w => by
    rcases h2 with ⟨_, q⟩ | ⟨q, _⟩
    · rw [w] at q
      refine h3 (qW_0 ?_ q)
      show yK R S0 0 = 0
      unfold yK
      rw [if_neg (by omega), if_neg (by omega), if_neg (by omega)]
    · rw [w] at q; exact absurd q.1 (by decide)
  cases hv : Λ[v]? with
  | none =>
    refine absurd ?_ hn
    show vtS S0 Λ v = 0
    unfold vtS; rw [hv]
  | some a =>
    obtain ⟨⟨_, f1⟩, nm, mu, ty, f2, f3, _⟩ := hF.2.1 v a hv
    refine ⟨?_, (List.getElem?_eq_some_iff.mp hv).1⟩
    rw [f3, ← h1, f1]
    obtain ⟨g1, g2, g3, g4, g5⟩ := hx.it f2.1 f2.2
    unfold vTp
    rw [obF_o g3]
    have : g2[2]? = some (va_rf ty) := by rw [g5 2 (by decide) (Or.inl (by decide))]; rfl
    unfold rN
    rw [this]
    cases ty <;> rfl
end PS17
