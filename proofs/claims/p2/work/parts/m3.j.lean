/-- a type's size, by its number -/
def szN (R : yR) (S : Sg) (T : Nat) : Nat := if yK R S T = 2 ∨ yK R S T = 3 then fN (obF S (R.ws (T - 4))) 19 else 1
/-- a rank of structs -/
def rkN (R : yR) (S : Sg) (g : Nat → Int32) (T : Nat) : Nat := if yK R S T = 2 then hN g (T - 4) R.im + 1 else 0
section PS35
variable {R : yR} {S0 S Sl : Sg} {g : Nat → Int32}
/-- what a type is, by its object -/
theorem yK_k (h : LFS R S0 g) {x : Nat} {kd ix : Int32} {o : Option Nat} (hr : rTy S0 x) (q : isTy S0 x kd ix o) : ((kd = 0 ∨ kd = 1 ∨ kd = 2 ∨ kd = 8) ∧ yK R S0 (abT S0 x) = 0) ∨ (kd = 3 ∧ ∃ i : Nat, i < R.im ∧ R.ik i = 10 ∧ ix = nI i ∧ o = none ∧ abT S0 x = 4 + i ∧ yK R S0 (abT S0 x) = 2) ∨ (kd = 4 ∧ ∃ i : Nat, i < R.im ∧ R.ik i = 11 ∧ ix = nI i ∧ o = none ∧ abT S0 x = 4 + i ∧ yK R S0 (abT S0 x) = 3) ∨ (kd = 5 ∧ ∃ u : Nat, o = some u ∧ yK R S0 (abT S0 x) = 4 ∧ yO S0 (abT S0 x) = abV S0 u) ∨ ((kd = 6 ∨ kd = 7) ∧ (yK R S0 (abT S0 x) = 5 ∨ yK R S0 (abT S0 x) = 6)) := by
  have hY := h.1
  have hy := hY.2.2 _ _ _ _ q
  obtain ⟨t, a1, _, a3, a4, a5⟩ := abV_is hY q
  have lo : ∀ T : Nat, T < 4 → yK R S0 T = 0 := fun T hT => by
    unfold yK
    rw [if_neg (by omega), if_neg (by omega), if_neg (by omega)]
  rcases hy with ⟨z, _⟩ | ⟨z, ⟨i, i1, i2, i3⟩, i4⟩ | ⟨z, ⟨i, i1, i2, i3⟩, i4⟩ | ⟨z, z2, u, z3⟩
  · have z : kd = 0 ∨ kd = 1 ∨ kd = 2 ∨ kd = 8 := z
    have hT : abT S0 x < 4 := by
      rw [a5, a4]; unfold abK
      rcases z with z | z | z | z <;> subst z <;> simp
    exact Or.inl ⟨z, lo _ hT⟩
  · have z : kd = 3 := z
    have i2 : ix = nI i := i2
    have i4 : o = none := i4
    subst z; subst i2; subst i4
    rw [if_neg (by decide), if_neg (by decide), abV_it hY (Or.inl rfl) i1 q] at a5
    exact Or.inr (Or.inl ⟨rfl, i, i1, i3, rfl, rfl, a5, by rw [a5, yK_it hY i1, if_pos i3]⟩)
  · have z : kd = 4 := z
    have i2 : ix = nI i := i2
    have i4 : o = none := i4
    subst z; subst i2; subst i4
    rw [if_neg (by decide), if_neg (by decide), abV_it hY (Or.inr rfl) i1 q] at a5
    exact Or.inr (Or.inr (Or.inl ⟨rfl, i, i1, i3, rfl, rfl, a5, by rw [a5, yK_it hY i1, if_neg (by rw [i3]; decide), if_pos i3]⟩))
  · have z : kd = 5 ∨ kd = 6 ∨ kd = 7 := z
    have z2 : ix = 0 := z2
    have z3 : o = some u := z3
    subst z2; subst z3
    rcases z with z | z
    · subst z
      rw [if_neg (by decide), if_neg (by decide)] at a5
      have := bx_y hY q
      exact Or.inr (Or.inr (Or.inr (Or.inl ⟨rfl, u, rfl, by rw [a5]; exact this.1, by rw [a5]; exact this.2.1⟩)))
    · have hrf := (hr.rf hY q).mpr z
      refine Or.inr (Or.inr (Or.inr (Or.inr ⟨z, ?_⟩)))
      unfold yK
      rw [if_pos hrf.1, if_pos hrf.2]
      by_cases e : abT S0 x % 2 = 0
      · rw [if_pos e]; exact Or.inl rfl
      · rw [if_neg e]; exact Or.inr rfl
theorem szN_ty (h : LFS R S0 g) {x s : Nat} (hr : rTy S0 x) (q : tySz R S0 x s) : szN R S0 (abT S0 x) = s ∧ 1 ≤ s := by
  obtain ⟨kd, ix, o, q1, q2⟩ := q
  have hk := yK_k h hr q1
  unfold szN
  rcases q2 with ⟨e, j, hj, e2, hk2, fs, f1, f2, f3, f4⟩ | ⟨e3, e4, e⟩
  · have e : kd = 3 ∨ kd = 4 := e
    have him := h.1.2.1
    have : ∃ i : Nat, i < R.im ∧ ix = nI i ∧ abT S0 x = 4 + i ∧ (yK R S0 (abT S0 x) = 2 ∨ yK R S0 (abT S0 x) = 3) := by
      rcases hk with ⟨z, _⟩ | ⟨_, i, i1, i2, i3, i4, i5, i6⟩ | ⟨_, i, i1, i2, i3, i4, i5, i6⟩ | ⟨z, _⟩ | ⟨z, _⟩
      · rcases e with e | e <;> subst e <;> exact absurd z (by decide)
      · exact ⟨i, i1, i3, i5, Or.inl i6⟩
      · exact ⟨i, i1, i3, i5, Or.inr i6⟩
      · rcases e with e | e <;> subst e <;> exact absurd z (by decide)
      · rcases e with e | e <;> subst e <;> exact absurd z (by decide)
    obtain ⟨i, i1, i2, i3, i4⟩ := this
    have ei : i = j := nI_e (by omega) (by omega) (i2.symm.trans e2)
    subst ei
    rw [if_pos i4, i3, show 4 + i - 4 = i by omega, obF_o f1, fN_i f2 (by omega)]
    exact ⟨rfl, f3⟩
  · have : ¬ (yK R S0 (abT S0 x) = 2 ∨ yK R S0 (abT S0 x) = 3) := by
      rcases hk with ⟨_, z⟩ | ⟨z, _⟩ | ⟨z, _⟩ | ⟨_, u, _, z, _⟩ | ⟨_, z⟩
      · rw [z]; decide
      · exact absurd z e3
      · exact absurd z e4
      · rw [z]; decide
      · rcases z with z | z <;> rw [z] <;> decide
    rw [if_neg this, e]
    exact ⟨rfl, Nat.le_refl _⟩
/-- a struct or an enum has a number -/
theorem yK_n {T : Nat} (h : yK R S0 T = 2 ∨ yK R S0 T = 3) : ∃ i : Nat, T = 4 + i ∧ i < R.im ∧ ((yK R S0 T = 2 ∧ R.ik i = 10) ∨ (yK R S0 T = 3 ∧ R.ik i = 11)) := by
  unfold yK at h
  by_cases c : 10000 ≤ T
  · rw [if_pos c] at h
    by_cases c2 : T < 30000
    · rw [if_pos c2] at h
      by_cases c3 : T % 2 = 0
      · rw [if_pos c3] at h; exact absurd h (by decide)
      · rw [if_neg c3] at h; exact absurd h (by decide)
    · rw [if_neg c2] at h; exact absurd h (by decide)
  · rw [if_neg c] at h
    by_cases c2 : 4 ≤ T ∧ T < 4 + R.im
    · refine ⟨T - 4, by omega, by omega, ?_⟩
      unfold yK
      rw [if_neg c, if_pos c2]
      rw [if_pos c2] at h
      by_cases c3 : R.ik (T - 4) = 10
      · rw [if_pos c3]; exact Or.inl ⟨rfl, c3⟩
      · rw [if_neg c3] at h ⊢
        by_cases c4 : R.ik (T - 4) = 11
        · rw [if_pos c4]; exact Or.inr ⟨rfl, c4⟩
        · rw [if_neg c4] at h; exact absurd h (by decide)
    · rw [if_neg c2] at h
      by_cases c3 : 100 ≤ T ∧ T < 100 + tmS S0
      · rw [if_pos c3] at h
        cases hz : Zq S0 18 (T - 100) with
        | none => rw [hz] at h; exact absurd h (by simp)
        | some x =>
          rw [hz] at h
          by_cases c4 : fN (obF S0 x) 0 = 5
          · simp [c4] at h
          · simp [c4] at h
      · rw [if_neg c3] at h; exact absurd h (by decide)
/-- an enum's variants -/
theorem zN_en (h : LFS R S0 g) {j v : Nat} (hj : j < R.im) (hk : R.ik j = 11) (hv : v < fN (obF S0 (R.ws j)) 3) : ∃ (fs : List Value) (mn vr pa mk : Nat) (fv f : Nat → Option Nat), R.ws j ∈ ZL S0 ∧ ZF S0 (R.ws j) = .inr (16, fs) ∧ fs[3]? = some (.int (nI mn)) ∧ mn ≤ 12 ∧ fs[11]? = some (.ref vr) ∧ vr ∈ ZL S0 ∧ ZF S0 vr = .inl (R.K.1 13, 13, .inr (.inr (.inr (.inr fv)))) ∧ fv v = some pa ∧ pa ∈ ZL S0 ∧ mk = yP R S0 (4 + j) v ∧ mk ≤ 12 ∧ ((ZF S0 pa = .inr (17, [.int 0, .null, .null]) ∧ mk = 0) ∨ ∃ wa ta : Nat, ZF S0 pa = .inr (17, [.int (nI mk), .ref wa, .ref ta]) ∧ ta ∈ ZL S0 ∧ ZF S0 ta = .inl (R.K.1 4, 12, .inr (.inr (.inr (.inr f))))) ∧ (∀ k : Nat, k < mk → ∃ x : Nat, f k = some x ∧ vTy S0 x ∧ abT S0 x = yQ R S0 (4 + j) v k) ∧ psN (fun k => szN R S0 (yQ R S0 (4 + j) v k)) mk + 1 ≤ szN R S0 (4 + j) := by
  have h0 := h
  obtain ⟨hY, hR, hA, _, hS⟩ := h
  obtain ⟨s, s1, s2, fs, mn, e1, e2, e3, e4, e5⟩ := hS.1 j hj (by rw [hk]; decide)
  obtain ⟨a1, a2, fs2, mn2, na, gg, b1, b2, b3, b4, b5, b6, b7, b8, b9⟩ := hA j hj
  have e4j : 4 + j - 4 = j := by omega
  have ef : fs2 = fs := by
    have := b1.symm.trans e1; cases this; rfl
  subst ef
  have em : mn2 = mn := by
    rw [b3] at e2
    have := Value.int.inj (Option.some.inj e2)
    exact nI_e (by omega) (by omega) this
  subst em
  rw [obF_o e1, fN_i e2 (by omega)] at hv
  have hne : ¬ R.ik j = 10 := by rw [hk]; decide
  rcases e5 with ⟨z, _⟩ | ⟨_, vr, fv, c1, c2, c3⟩
  · exact absurd z hne
  obtain ⟨pa, mk, f, w, d1, d2, d3, d4⟩ := c3 v hv
  rcases b9 with ⟨z, _⟩ | ⟨_, vr2, fv2, r1, r2, r3, r4⟩ | ⟨z, _⟩
  · exact absurd z hne
  · have ev : vr2 = vr := by rw [c1] at r1; cases r1; rfl
    subst ev
    have ey : yP R S0 (4 + j) v = mk := by
      unfold yP paI
      rw [e4j, if_neg hne, obF_o e1, rN_r c1]
      show fN (match roQ S0 vr2 v with | some pa => obF S0 pa | none => []) 0 = mk
      rw [roQ_o c2, d1]
      show fN (obF S0 pa) 0 = mk
      rcases d2.2 with ⟨p1, p2⟩ | ⟨wa, ta, p1, p2, p3⟩
      · rw [obF_o p1, p2]; rfl
      · rw [obF_o p1]; exact fN_i rfl (by omega)
    have hq : ∀ k : Nat, k < mk → ∃ x : Nat, f k = some x ∧ vTy S0 x ∧ abT S0 x = yQ R S0 (4 + j) v k ∧ tySz R S0 x (w k) := fun k hk2 => by
      rcases d2.2 with ⟨p1, p2⟩ | ⟨wa, ta, p1, p2, p3⟩
      · omega
      · obtain ⟨x, x1, x2⟩ := p3.2.2 k hk2
        obtain ⟨x9, y1, y2⟩ := d3 k hk2
        rw [x1] at y1; cases y1
        refine ⟨x, x1, x2, ?_, y2⟩
        unfold yQ paI
        rw [e4j, if_neg hne, obF_o e1, rN_r c1]
        show abT S0 x = abR S0 (rN (match roQ S0 vr2 v with | some pa => obF S0 pa | none => []) 2) k
        rw [roQ_o c2, d1]
        show abT S0 x = abR S0 (rN (obF S0 pa) 2) k
        rw [obF_o p1, rN_r (a := ta) rfl, abR_o p3.2.1 x1, (x2.nm hY).2.2]
    have hm : mk ≤ 12 := by
      rcases d2.2 with ⟨p1, p2⟩ | ⟨wa, ta, p1, p2, p3⟩
      · omega
      · exact p2
    have hs9 : szN R S0 (4 + j) = s := by
      obtain ⟨fs9, g1, g2, g3, g4⟩ := s2
      unfold szN
      rw [yK_it hY hj, if_neg hne, if_pos hk, if_pos (Or.inr rfl), e4j, obF_o g1, fN_i g2 (by omega)]
    refine ⟨fs2, mn2, vr2, pa, mk, fv, f, hR _ a1.1, e1, e2, e4, c1, hR _ r2.1, c2, d1, hR _ d2.1.1, ey.symm, hm, ?_, fun k hk2 => ?_, ?_⟩
    · rcases d2.2 with ⟨p1, p2⟩ | ⟨wa, ta, p1, p2, p3⟩
      · exact Or.inl ⟨p1, p2⟩
      · exact Or.inr ⟨wa, ta, p1, hR _ p3.1.1, p3.2.1⟩
    · obtain ⟨x, x1, x2, x3, x4⟩ := hq k hk2
      exact ⟨x, x1, x2, x3⟩
    · rw [hs9, psN_cg (w2 := w) (fun k hk2 => by
        obtain ⟨x, x1, x2, x3, x4⟩ := hq k hk2
        rw [← x3]
        exact (szN_ty h0 (Or.inl x2) x4).1)]
      rcases d4 with d4 | d4 <;> omega
  · rw [hk] at z; exact absurd z (by decide)
/-- a struct's size -/
theorem szN_st (h : LFS R S0 g) {j : Nat} (hj : j < R.im) (hk : R.ik j = 10) : 1 ≤ yP R S0 (4 + j) 0 ∧ yP R S0 (4 + j) 0 ≤ 12 ∧ psN (fun k => szN R S0 (yQ R S0 (4 + j) 0 k)) (yP R S0 (4 + j) 0) ≤ szN R S0 (4 + j) := by
  have h0 := h
  obtain ⟨fs9, mn9, ta9, f9, w1, w2, w3, w4, w5, w6, w7, w8, _⟩ := zN_st h hj hk
  obtain ⟨hY, hR, hA, _, hS⟩ := h
  obtain ⟨s, s1, s2, fs, mn, e1, e2, e3, e4, e5⟩ := hS.1 j hj (by rw [hk]; decide)
  have e4j : 4 + j - 4 = j := by omega
  have ef : fs9 = fs := by
    have := w2.symm.trans e1; cases this; rfl
  subst ef
  have em : mn9 = mn := by
    rw [w3] at e2
    have := Value.int.inj (Option.some.inj e2)
    exact nI_e (by omega) (by omega) this
  subst em
  have ey : yP R S0 (4 + j) 0 = mn9 := by
    unfold yP
    rw [e4j, if_pos hk, if_pos rfl, obF_o e1, fN_i e2 (by omega)]
  rw [ey]
  refine ⟨e3, e4, ?_⟩
  have hs9 : szN R S0 (4 + j) = s := by
    obtain ⟨fs2, g1, g2, g3, g4⟩ := s2
    unfold szN
    rw [yK_it hY hj, if_pos hk, if_pos (Or.inl rfl), e4j, obF_o g1, fN_i g2 (by omega)]
  rcases e5 with ⟨_, ta, f, w, c1, c2, c3, c4⟩ | ⟨z, _⟩
  · have et : ta9 = ta := by rw [w5] at c1; cases c1; rfl
    subst et
    have ff : f9 = f := by have := w7.symm.trans c2; cases this; rfl
    subst ff
    rw [hs9, psN_cg (w2 := w) (fun k hk2 => by
      obtain ⟨x, x1, x2, x3, _⟩ := w8 k hk2
      obtain ⟨x9, y1, y2⟩ := c3 k hk2
      rw [x1] at y1; cases y1
      rw [← x3]
      exact (szN_ty h0 (Or.inl x2) y2).1)]
    rcases c4 with c4 | c4 <;> omega
  · rw [hk] at z; exact absurd z (by decide)
theorem szN_b (h : LFS R S0 g) (T : Nat) : 1 ≤ szN R S0 T ∧ szN R S0 T ≤ 16 := by
  by_cases c : yK R S0 T = 2 ∨ yK R S0 T = 3
  · obtain ⟨i, e, hi, hk⟩ := yK_n c
    obtain ⟨s, s1, ⟨fs, g1, g2, g3, g4⟩, _⟩ := h.2.2.2.2.1 i hi (by rcases hk with ⟨_, w⟩ | ⟨_, w⟩ <;> rw [w] <;> decide)
    unfold szN
    rw [if_pos c, e, show 4 + i - 4 = i by omega, obF_o g1, fN_i g2 (by omega)]
    exact ⟨g3, s1⟩
  · unfold szN
    rw [if_neg c]
    omega
/-- .. all of it -/
theorem nYk_of (h : LFS R S0 g) : nYk (yT R S0) (zN R S0) (szN R S0) (rkN R S0 g) := by
  have him := h.1.2.1
  refine ⟨fun T => ?_, fun T hT => if_neg hT, fun T hT => ?_, fun T v hT hv => ?_⟩
  · obtain ⟨s1, s2⟩ := szN_b h T
    have r1 : rkN R S0 g T ≤ 100 := by
      unfold rkN
      have := hN_le (f := g) (i := T - 4) R.im
      by_cases c : yK R S0 T = 2
      · rw [if_pos c]; omega
      · rw [if_neg c]; omega
    by_cases c : yK R S0 T = 2
    · obtain ⟨i, e, hi, ⟨_, hk⟩ | ⟨w, _⟩⟩ := yK_n (Or.inl c)
      · obtain ⟨_, _, _, _, _, _, _, _, _, _, _, _, b9, _⟩ := zN_st h hi hk
        obtain ⟨⟨fs, f1, f2, f3⟩, s, t1, t2, t3⟩ := b9
        subst e
        exact ⟨f3, by omega, s1, s2, r1⟩
      · rw [c] at w; exact absurd w (by decide)
    · have : zN R S0 T = 1 := if_neg c
      exact ⟨by omega, by omega, s1, s2, r1⟩
  · have hT : yK R S0 T = 2 := hT
    obtain ⟨i, e, hi, ⟨_, hk⟩ | ⟨w, _⟩⟩ := yK_n (Or.inl hT)
    · subst e
      obtain ⟨fs, mn, ta, f, w1, w2, w3, w4, w5, w6, w7, w8, w9, w10, _⟩ := zN_st h hi hk
      obtain ⟨p1, p2, p3⟩ := szN_st h hi hk
      have ey : yP R S0 (4 + i) 0 = mn := by
        unfold yP
        rw [show 4 + i - 4 = i by omega, if_pos hk, if_pos rfl, obF_o w2, fN_i w3 (by omega)]
      refine ⟨?_, p3, p1, p2, fun k hk2 => ?_⟩
      · show zN R S0 (4 + i) = psN (fun j => zN R S0 (yQ R S0 (4 + i) 0 j)) (yP R S0 (4 + i) 0)
        rw [ey]; exact w10
      · have hk2 : k < yP R S0 (4 + i) 0 := hk2
        obtain ⟨x, x1, x2, x3, kd, ix, o, q1, q2⟩ := w8 k (by rw [← ey]; exact hk2)
        show rkN R S0 g (yQ R S0 (4 + i) 0 k) < rkN R S0 g (4 + i)
        rw [← x3]
        unfold rkN
        rw [if_pos hT, show 4 + i - 4 = i by omega]
        by_cases c : yK R S0 (abT S0 x) = 2
        · rw [if_pos c]
          rcases yK_k h (Or.inl x2) q1 with ⟨_, z⟩ | ⟨z, i9, i1, i2, i3, i4, i5, i6⟩ | ⟨_, _, _, _, _, _, _, z⟩ | ⟨_, u, _, z, _⟩ | ⟨_, z⟩
          · rw [c] at z; exact absurd z (by decide)
          · rcases q2 with ⟨_, j9, j1, j2, j3, j4, _⟩ | ⟨z9, _⟩
            · have : i9 = j9 := nI_e (by omega) (by omega) (i3.symm.trans j2)
              subst this
              rw [i5, show 4 + i9 - 4 = i9 by omega]; omega
            · exact absurd z z9
          · rw [c] at z; exact absurd z (by decide)
          · rw [c] at z; exact absurd z (by decide)
          · rw [c] at z; exact absurd z (by decide)
        · rw [if_neg c]; omega
    · rw [hT] at w; exact absurd w (by decide)
  · have hT : yK R S0 T = 3 := hT
    obtain ⟨i, e, hi, ⟨w, _⟩ | ⟨_, hk⟩⟩ := yK_n (Or.inr hT)
    · rw [hT] at w; exact absurd w (by decide)
    · subst e
      have hv : v < fN (obF S0 (R.ws i)) 3 := by
        have hv : v < fN (obF S0 (R.ws (4 + i - 4))) 3 := hv
        rw [show 4 + i - 4 = i by omega] at hv
        exact hv
      obtain ⟨fs, mn, vr, pa, mk, fv, f, c1, c2, c3, c4, c5, c6, c7, c8, c9, c10, c11, c12, c13, c14⟩ := zN_en h hi hk hv
      show psN (fun j => szN R S0 (yQ R S0 (4 + i) v j)) (yP R S0 (4 + i) v) + 1 ≤ szN R S0 (4 + i) ∧ yP R S0 (4 + i) v ≤ 12 ∧ psN (fun j => zN R S0 (yQ R S0 (4 + i) v j)) (yP R S0 (4 + i) v) ≤ 16
      rw [← c10]
      refine ⟨c14, c11, ?_⟩
      have hle : psN (fun j => zN R S0 (yQ R S0 (4 + i) v j)) mk ≤ psN (fun j => szN R S0 (yQ R S0 (4 + i) v j)) mk := psN_le (fun k hk2 => by
        obtain ⟨x, x1, x2, x3⟩ := c13 k hk2
        show zN R S0 (yQ R S0 (4 + i) v k) ≤ szN R S0 (yQ R S0 (4 + i) v k)
        rw [← x3]
        by_cases c : yK R S0 (abT S0 x) = 2
        · obtain ⟨i9, e9, hi9, ⟨_, hk9⟩ | ⟨w, _⟩⟩ := yK_n (Or.inl c)
          · obtain ⟨_, _, _, _, _, _, _, _, _, _, _, _, b9, _⟩ := zN_st h hi9 hk9
            obtain ⟨_, s, ⟨fs3, t1, t2, t3, t4⟩, t5, t6⟩ := b9
            have : szN R S0 (4 + i9) = s := by
              unfold szN
              rw [← e9, if_pos (Or.inl c), e9, show 4 + i9 - 4 = i9 by omega, obF_o t1, fN_i t2 (by omega)]
            rw [e9, this]; exact t5
          · rw [c] at w; exact absurd w (by decide)
        · have e1 : zN R S0 (abT S0 x) = 1 := if_neg c
          rw [e1]; exact (szN_b h _).1)
      have := (szN_b h (4 + i)).2
      omega
end PS35
