section PS38
variable {R : yR} {S0 Sl S : Sg} {g : Nat → Int32} {x : Nat}
/-- a struct's type, while it runs -/
theorem vwS (hL : LFS R S0 g) (hx : LX S0 Sl) (e : RNx Sl S) (hr : rTy S0 x) (hk : yK R S0 (abT S0 x) = 2) : ∃ (i ta : Nat) (f : Nat → Option Nat), oI S 20 (some x) 0 = some 3 ∧ oI S 20 (some x) 1 = some (nI i) ∧ rQ S 11 (nI i) = some (some (R.ws i)) ∧ oR S 16 (some (R.ws i)) 10 = some (some ta) ∧ oI S 16 (some (R.ws i)) 3 = some (nI (yP R S0 (abT S0 x) 0)) ∧ (ta ∈ ZL Sl ∧ ZF Sl ta = .inl (R.K.1 4, 13, .inr (.inr (.inr (.inr f))))) ∧ yP R S0 (abT S0 x) 0 ≤ 12 ∧ ∀ k : Nat, k < yP R S0 (abT S0 x) 0 → ∃ z : Nat, f k = some z ∧ vTy S0 z ∧ abT S0 z = yQ R S0 (abT S0 x) 0 k := by
  obtain ⟨kd, ix, o, q, _⟩ := hr.ty
  obtain ⟨t, _, _, xl, xf⟩ := e.ty (hx.ty q)
  have o0 : oI S 20 (some x) 0 = some kd := oI_mk xl xf rfl
  have o1 : oI S 20 (some x) 1 = some ix := oI_mk xl xf rfl
  rcases yK_k hL hr q with ⟨_, h⟩ | ⟨k3, i, hi, hk2, ei, eo, et, _⟩ | ⟨_, i, hi, hk2, ei, eo, et, h⟩ | ⟨_, u, _, h, _⟩ | ⟨_, h | h⟩
  · rw [h] at hk; cases hk
  · obtain ⟨fs, mn, ta, f, w1, w2, w3, w4, w5, w6, w7, w8, _⟩ := zN_st hL hi hk2
    have ey : yP R S0 (4 + i) 0 = mn := by
      unfold yP
      rw [show 4 + i - 4 = i by omega, if_pos hk2, if_pos rfl, obF_o w2, fN_i w3 (by omega)]
    rw [et, ey]
    obtain ⟨c1, f2, c2, c3, c4⟩ := hx.it w1 w2
    refine ⟨i, ta, f, by rw [o0, k3], by rw [o1, ei], it11r hL hx e hi, ?_, ?_, hx.ro w6 w7, w4, fun k hk => ?_⟩
    · exact oR_mk (v := some ta) (by rw [e.1]; exact c1) (by rw [e.2.1]; exact c2) (by rw [c4 10 (by decide) (Or.inl (by decide))]; exact w5)
    · exact oI_mk (by rw [e.1]; exact c1) (by rw [e.2.1]; exact c2) (by rw [c4 3 (by decide) (Or.inl (by decide))]; exact w3)
    · obtain ⟨z, z1, z2, z3, _⟩ := w8 k hk
      exact ⟨z, z1, z2, z3⟩
  · rw [h] at hk; cases hk
  · rw [h] at hk; cases hk
  · rw [h] at hk; cases hk
  · rw [h] at hk; cases hk
/-- an enum's type: the variant v -/
theorem vwE {v : Nat} (hL : LFS R S0 g) (hx : LX S0 Sl) (e : RNx Sl S) (hr : rTy S0 x) (hk : yK R S0 (abT S0 x) = 3) (hv : v < (yT R S0).2.2.1 (abT S0 x)) : ∃ (i vr pa : Nat) (ot : Option Nat) (f : Nat → Option Nat), oI S 20 (some x) 0 = some 4 ∧ oI S 20 (some x) 1 = some (nI i) ∧ rQ S 11 (nI i) = some (some (R.ws i)) ∧ oR S 16 (some (R.ws i)) 11 = some (some vr) ∧ (∀ S2 : Sg, RNx Sl S2 → aQ R.K 13 S2 (some vr) (nI v) = some (some pa) ∧ oR S2 17 (some pa) 2 = some ot ∧ oI S2 17 (some pa) 0 = some (nI (yP R S0 (abT S0 x) v))) ∧ v ≤ 12 ∧ yP R S0 (abT S0 x) v ≤ 12 ∧ (yP R S0 (abT S0 x) v = 0 ∨ ∃ ta : Nat, ot = some ta ∧ ta ∈ ZL Sl ∧ ZF Sl ta = .inl (R.K.1 4, 12, .inr (.inr (.inr (.inr f))))) ∧ ∀ k : Nat, k < yP R S0 (abT S0 x) v → ∃ z : Nat, f k = some z ∧ vTy S0 z ∧ abT S0 z = yQ R S0 (abT S0 x) v k := by
  obtain ⟨kd, ix, o, q, _⟩ := hr.ty
  obtain ⟨t, _, _, xl, xf⟩ := e.ty (hx.ty q)
  have o0 : oI S 20 (some x) 0 = some kd := oI_mk xl xf rfl
  have o1 : oI S 20 (some x) 1 = some ix := oI_mk xl xf rfl
  rcases yK_k hL hr q with ⟨_, h⟩ | ⟨_, i, hi, hk2, ei, eo, et, h⟩ | ⟨k3, i, hi, hk2, ei, eo, et, h⟩ | ⟨_, u, _, h, _⟩ | ⟨_, h | h⟩
  · rw [h] at hk; cases hk
  · rw [h] at hk; cases hk
  · have hv2 : v < fN (obF S0 (R.ws i)) 3 := by
      have h9 : v < fN (obF S0 (R.ws (abT S0 x - 4))) 3 := hv
      rw [et, show 4 + i - 4 = i by omega] at h9; exact h9
    obtain ⟨fs, mn, vr, pa, mk, fv, f, w1, w2, w3, w4, w5, w6, w7, w8, w9, w10, w11, w12, w13, _⟩ := zN_en hL hi hk2 hv2
    have hvm : v < mn := by
      rw [obF_o w2, fN_i w3 (by omega)] at hv2; exact hv2
    rw [et, ← w10]
    obtain ⟨c1, f2, c2, c3, c4⟩ := hx.it w1 w2
    obtain ⟨r1, r2⟩ := hx.ro w6 w7
    have oR11 : oR S 16 (some (R.ws i)) 11 = some (some vr) := oR_mk (v := some vr) (by rw [e.1]; exact c1) (by rw [e.2.1]; exact c2) (by rw [c4 11 (by decide) (Or.inl (by decide))]; exact w5)
    rcases w12 with ⟨p1, p2⟩ | ⟨wa, ta, p1, p2, p3⟩
    · obtain ⟨b1, b2⟩ := hx.ob w9 p1 (by decide) (by decide)
      refine ⟨i, vr, pa, none, f, by rw [o0, k3], by rw [o1, ei], it11r hL hx e hi, oR11, fun S2 e2 => ⟨?_, ?_, ?_⟩, by omega, by omega, Or.inl p2, w13⟩
      · rw [← w8]; exact aQ_n (by rw [e2.1]; exact r1) (by rw [e2.2.1]; exact r2) (show v < 13 by omega) (by omega)
      · exact oR_mk (v := none) (by rw [e2.1]; exact b1) (by rw [e2.2.1]; exact b2) rfl
      · exact oI_mk (by rw [e2.1]; exact b1) (by rw [e2.2.1]; exact b2) (by rw [p2]; rfl)
    · obtain ⟨b1, b2⟩ := hx.ob w9 p1 (by decide) (by decide)
      refine ⟨i, vr, pa, some ta, f, by rw [o0, k3], by rw [o1, ei], it11r hL hx e hi, oR11, fun S2 e2 => ⟨?_, ?_, ?_⟩, by omega, by omega, Or.inr ⟨ta, rfl, hx.ro p2 p3⟩, w13⟩
      · rw [← w8]; exact aQ_n (by rw [e2.1]; exact r1) (by rw [e2.2.1]; exact r2) (show v < 13 by omega) (by omega)
      · exact oR_mk (v := some ta) (by rw [e2.1]; exact b1) (by rw [e2.2.1]; exact b2) rfl
      · exact oI_mk (by rw [e2.1]; exact b1) (by rw [e2.2.1]; exact b2) rfl
  · rw [h] at hk; cases hk
  · rw [h] at hk; cases hk
  · rw [h] at hk; cases hk
/-- a box's type -/
theorem vwB (hL : LFS R S0 g) (hx : LX S0 Sl) (e : RNx Sl S) (hr : rTy S0 x) (hk : yK R S0 (abT S0 x) = 4) : ∃ u : Nat, oI S 20 (some x) 0 = some 5 ∧ (∀ S2 : Sg, RNx Sl S2 → oR S2 20 (some x) 3 = some (some u)) ∧ vTy S0 u ∧ abT S0 u = yO S0 (abT S0 x) := by
  obtain ⟨kd, ix, o, q, _⟩ := hr.ty
  obtain ⟨t, _, _, xl, xf⟩ := e.ty (hx.ty q)
  have o0 : oI S 20 (some x) 0 = some kd := oI_mk xl xf rfl
  rcases yK_k hL hr q with ⟨_, h⟩ | ⟨_, i, hi, hk2, ei, eo, et, h⟩ | ⟨k3, i, hi, hk2, ei, eo, et, h⟩ | ⟨k5, u, eu, h, h2⟩ | ⟨_, h | h⟩
  · rw [h] at hk; cases hk
  · rw [h] at hk; cases hk
  · rw [h] at hk; cases hk
  · have hu : vTy S0 u := by
      rcases hr with ⟨n, hn⟩ | ⟨kd2, u2, q2, q3, _⟩
      · cases n with
        | zero => exact hn.elim
        | succ n =>
          obtain ⟨kd2, ix2, o2, q2, q3⟩ := hn
          obtain ⟨e1, e2, e3⟩ := isTy_fn q q2
          subst e1; subst e3; subst k5
          rcases q3 with q3 | ⟨_, u2, q4, q5⟩
          · exact absurd q3 (by decide)
          · rw [eu] at q4; cases q4; exact ⟨n, q5⟩
      · obtain ⟨e1, _, _⟩ := isTy_fn q q2
        subst e1; subst k5
        exact absurd q3 (by decide)
    refine ⟨u, by rw [o0, k5], fun S2 e2 => ?_, hu, ?_⟩
    · obtain ⟨t2, _, _, xl2, xf2⟩ := e2.ty (hx.ty q)
      exact oR_mk (v := some u) xl2 xf2 (by rw [eu]; rfl)
    · rw [h2]; exact (vTy.nm hL.1 hu).2.2
  · rw [h] at hk; cases hk
  · rw [h] at hk; cases hk
/-- all other types -/
theorem vwO (hL : LFS R S0 g) (hx : LX S0 Sl) (e : RNx Sl S) (hr : rTy S0 x) (h2 : yK R S0 (abT S0 x) ≠ 2) (h3 : yK R S0 (abT S0 x) ≠ 3) (h4 : yK R S0 (abT S0 x) ≠ 4) : ∃ kd : Int32, oI S 20 (some x) 0 = some kd ∧ kd ≠ 3 ∧ kd ≠ 4 ∧ kd ≠ 5 := by
  obtain ⟨kd, ix, o, q, _⟩ := hr.ty
  obtain ⟨t, _, _, xl, xf⟩ := e.ty (hx.ty q)
  have o0 : oI S 20 (some x) 0 = some kd := oI_mk xl xf rfl
  rcases yK_k hL hr q with ⟨h | h | h | h, _⟩ | ⟨_, i, hi, hk2, ei, eo, et, h⟩ | ⟨k3, i, hi, hk2, ei, eo, et, h⟩ | ⟨k5, u, eu, h, _⟩ | ⟨h | h, _⟩
  · exact ⟨kd, o0, by rw [h]; decide, by rw [h]; decide, by rw [h]; decide⟩
  · exact ⟨kd, o0, by rw [h]; decide, by rw [h]; decide, by rw [h]; decide⟩
  · exact ⟨kd, o0, by rw [h]; decide, by rw [h]; decide, by rw [h]; decide⟩
  · exact ⟨kd, o0, by rw [h]; decide, by rw [h]; decide, by rw [h]; decide⟩
  · exact absurd h h2
  · exact absurd h h3
  · exact absurd h h4
  · exact ⟨kd, o0, by rw [h]; decide, by rw [h]; decide, by rw [h]; decide⟩
  · exact ⟨kd, o0, by rw [h]; decide, by rw [h]; decide, by rw [h]; decide⟩
end PS38
