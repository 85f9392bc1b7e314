section LY10
variable {R : yR} {S S0 : Sg} {Γ : List Nat}
theorem fN_i {fs : List Value} {k n : Nat} (h : fs[k]? = some (.int (nI n))) (hn : n ≤ 100000) : fN fs k = n := by
  unfold fN; rw [h]; exact nI_clamp (by omega)
theorem rN_r {fs : List Value} {k a : Nat} (h : fs[k]? = some (.ref a)) : rN fs k = some a := by
  unfold rN; rw [h]
theorem obF_o {a k : Nat} {fs : List Value} (h : ZF S a = .inr (k, fs)) : obF S a = fs := by
  unfold obF; rw [h]
theorem roQ_o {a n k : Nat} {c : ClassId} {f : Nat → Option Nat} (h : ZF S a = .inl (c, n, .inr (.inr (.inr (.inr f))))) : roQ S a k = f k := by
  unfold roQ; rw [h]
theorem abR_o {a n k x : Nat} {c : ClassId} {f : Nat → Option Nat} (h : ZF S a = .inl (c, n, .inr (.inr (.inr (.inr f))))) (hx : f k = some x) : abR S (some a) k = abV S x := by
  show (match roQ S a k with | some x => abV S x | none => 0) = _
  rw [roQ_o h, hx]
theorem abV_it (hY : YK R S) {x i : Nat} {kd : Int32} (hk : kd = 3 ∨ kd = 4) (hi : i < R.im) (h : isTy S x kd (nI i) none) : abV S x = 4 + i := by
  obtain ⟨t, _, _, _, a, _⟩ := abV_is hY h
  have := hY.2.1
  rw [a]; unfold abK
  rcases hk with e | e <;> subst e
  · show 4 + (nI i).toNatClampNeg = _; rw [nI_clamp (by omega)]
  · show 4 + (nI i).toNatClampNeg = _; rw [nI_clamp (by omega)]
theorem yK_it {i : Nat} (hY : YK R S) (hi : i < R.im) : yK R S (4 + i) = if R.ik i = 10 then 2 else if R.ik i = 11 then 3 else 0 := by
  have := hY.2.1
  unfold yK
  rw [if_neg (by omega), if_pos ⟨by omega, by omega⟩, show 4 + i - 4 = i by omega]
/-- a struct's field -/
theorem fld.y (hY : YK R S) {i k x : Nat} (h : fld R S i k x) : yK R S (4 + i) = 2 ∧ k < yP R S (4 + i) 0 ∧ yP R S (4 + i) 0 ≤ 12 ∧ yQ R S (4 + i) 0 k = abV S x := by
  obtain ⟨fs, mn, ta, f, h1, h2, h3, h4, h5, h6, h7, h8, h9, h10, h11, h12⟩ := h
  have e4 : 4 + i - 4 = i := by omega
  have ep : yP R S (4 + i) 0 = mn := by
    unfold yP; rw [e4, if_pos h2, if_pos rfl, obF_o h4, fN_i h5 (by omega)]
  refine ⟨by rw [yK_it hY h1, if_pos h2], by rw [ep]; exact h6, by rw [ep]; exact h7, ?_⟩
  unfold yQ
  rw [e4, if_pos h2, obF_o h4, rN_r h8, abR_o h10 h11]
/-- an enum's variant -/
theorem enY.y (hY : YK R S) {i g mk : Nat} {tx : Nat → Nat} (h : enY R S i g mk tx) : yK R S (4 + i) = 3 ∧ g < fN (obF S (R.ws i)) 3 ∧ fN (obF S (R.ws i)) 3 ≤ 12 ∧ yP R S (4 + i) g = mk ∧ mk ≤ 12 ∧ ∀ k : Nat, k < mk → yQ R S (4 + i) g k = abV S (tx k) ∧ vTy S (tx k) := by
  obtain ⟨fs, mn, vr, pa, fv, f, h1, h2, h3, h4, h5, h6, h7, h8, h9, h10, h11, h12, h13⟩ := h
  have e4 : 4 + i - 4 = i := by omega
  have ne : ¬ R.ik i = 10 := by rw [h2]; decide
  have em : fN (obF S (R.ws i)) 3 = mn := by rw [obF_o h4, fN_i h5 (by omega)]
  have epa : paI R S i g = obF S pa := by
    unfold paI; rw [obF_o h4, rN_r h8]
    show (match roQ S vr g with | some pa => obF S pa | none => []) = _
    rw [roQ_o h10, h11]
  refine ⟨by rw [yK_it hY h1, if_neg ne, if_pos h2], by omega, by omega, ?_⟩
  obtain ⟨_, ⟨q1, q2⟩ | ⟨wa, ta, q1, q2, q3⟩⟩ := h12
  · refine ⟨?_, by omega, fun k hk => by omega⟩
    unfold yP; rw [e4, if_neg ne, epa, obF_o q1, q2]; rfl
  · refine ⟨?_, q2, fun k hk => ⟨?_, ?_⟩⟩
    · unfold yP; rw [e4, if_neg ne, epa, obF_o q1, fN_i rfl (by omega)]
    · unfold yQ; rw [e4, if_neg ne, epa, obF_o q1]
      exact abR_o q3.2.1 (h13 k hk)
    · obtain ⟨x, x1, x2⟩ := q3.2.2 k hk
      rw [h13 k hk] at x1; cases x1; exact x2
/-- a box -/
theorem bx_y (hY : YK R S) {x u : Nat} (h : isTy S x 5 0 (some u)) : yK R S (abV S x) = 4 ∧ yO S (abV S x) = abV S u ∧ 100 ≤ abV S x ∧ abV S x < 10000 := by
  obtain ⟨t, h1, h2, h3, h4, _⟩ := abV_is hY h
  have := hY.1
  have := hY.2.1
  have e : abV S x = 100 + t := h4.trans rfl
  rw [e]
  have e1 : 100 + t - 100 = t := by omega
  refine ⟨?_, ?_, by omega, by omega⟩
  · unfold yK
    rw [if_neg (by omega), if_neg (by omega), if_pos ⟨by omega, by omega⟩, e1, h2]
    show (if fN (obF S x) 0 = 5 then 4 else 0) = 4
    rw [obF_o h3]; rfl
  · unfold yO
    rw [if_neg (by omega), e1, h2]
    show (match (obF S x)[3]? with | some v => abO S v | none => 0) = _
    rw [obF_o h3]; rfl
/-- one step from a type of values -/
theorem stY2.qw (hY : YK R S) {x y : Nat} {s : Nat × Nat} (hx : vTy S x) (h : stY2 R S x s y) : vTy S y ∧ ∀ {π : lLc} {t : Nat}, qW (yT R S) (abV S y) π t → qW (yT R S) (abV S x) (s :: π) t := by
  rcases h with ⟨rfl, kd, h1, h2⟩ | ⟨i, k, rfl, h1, h2⟩ | ⟨i, g, k, mk, tx, rfl, h1, h2, h3, h4⟩
  · have hk : kd = 5 := by
      obtain ⟨k2, i2, o2, q2, n6, n7, _⟩ := hx.ty
      obtain ⟨e1, _⟩ := isTy_fn h2 q2
      rcases h1 with e | e | e
      · exact e
      · exact absurd (e1.symm.trans e) n6
      · exact absurd (e1.symm.trans e) n7
    subst hk
    obtain ⟨b1, b2, _⟩ := bx_y hY h2
    refine ⟨hx.of h2, fun {π t} q => ⟨rfl, b1, ?_⟩⟩
    show qW (yT R S) (yO S (abV S x)) π t
    rw [b2]; exact q
  · obtain ⟨f1, f2, f3, f4⟩ := h2.y hY
    have hi : i < R.im := by obtain ⟨_, _, _, _, hi, _⟩ := h2; exact hi
    have hv : vTy S y := by obtain ⟨_, _, _, _, _, _, _, _, _, _, _, _, _, _, _, hv⟩ := h2; exact hv
    refine ⟨hv, fun {π t} q => ?_⟩
    rw [abV_it hY (Or.inl rfl) hi h1]
    refine ⟨f1, f2, ?_⟩
    show qW (yT R S) (yQ R S (4 + i) 0 k) π t
    rw [f4]; exact q
  · obtain ⟨f1, f2, f3, f4, f5, f6⟩ := h2.y hY
    have hi : i < R.im := by obtain ⟨_, _, _, _, _, _, hi, _⟩ := h2; exact hi
    obtain ⟨g1, g2⟩ := f6 k h3
    rw [h4] at g1 g2
    refine ⟨g2, fun {π t} q => ?_⟩
    rw [abV_it hY (Or.inr rfl) hi h1]
    refine ⟨f1, ?_, ?_, ?_⟩
    · show g < fN (obF S (R.ws (4 + i - 4))) 3
      rw [show 4 + i - 4 = i by omega]; exact f2
    · show k < yP R S (4 + i) g
      rw [f4]; exact h3
    · show qW (yT R S) (yQ R S (4 + i) g k) π t
      rw [g1]; exact q
theorem wy_qw (hY : YK R S) : ∀ (ρ : lLc) {g : Nat → Option Nat} {a x : Nat}, vTy S a → g 0 = some a → (∀ (j : Nat) (s : Nat × Nat), ρ[j]? = some s → ∃ x y : Nat, g j = some x ∧ g (j + 1) = some y ∧ stY2 R S x s y) → g ρ.length = some x → qW (yT R S) (abV S a) ρ (abV S x) ∧ vTy S x
  | [], g, a, x, hv, h0, _, hx => by
    rw [show g [].length = g 0 from rfl, h0] at hx; cases hx
    exact ⟨rfl, hv⟩
  | s :: ρ, g, a, x, hv, h0, hs, hx => by
    obtain ⟨a2, b, g1, g2, g3⟩ := hs 0 s rfl
    rw [h0] at g1; cases g1
    obtain ⟨hb, hq⟩ := g3.qw hY hv
    obtain ⟨r1, r2⟩ := wy_qw hY ρ (g := fun j => g (j + 1)) (a := b) (x := x) hb g2 (fun j t e => hs (j + 1) t e) hx
    exact ⟨hq r1, r2⟩
/-- a path's way leads where its types say -/
theorem wyT.ty (hY : YK R S) {f : Nat → Int32} {g : Nat → Option Nat} {ρ : lLc} {x tv : Nat} (h : wyT R S f g ρ x) (h0 : g 0 = some tv) : pTy (yT R S) (abT S tv) ρ (abT S x) := by
  have hr : rTy S tv := h.2.1 0 tv (Nat.zero_le _) h0
  rcases hr.nm hY with ⟨q1, q2, _, _⟩ | ⟨kd, u, q1, q2, q3, q4⟩
  · left
    obtain ⟨r1, r2⟩ := wy_qw hY ρ q1 h0 (fun j s e => (h.1 j s e).2) h.2.2
    refine ⟨q2, ?_⟩
    rw [(q1.nm hY).2.2, (r2.nm hY).2.2]; exact r1
  · right
    refine ⟨q3, ?_⟩
    cases ρ with
    | nil =>
      have := h.2.2
      rw [show g [].length = g 0 from rfl, h0] at this; cases this
      exact Or.inl ⟨rfl, rfl⟩
    | cons s ρ =>
      right
      obtain ⟨_, a2, b, g1, g2, g3⟩ := h.1 0 s rfl
      rw [h0] at g1; cases g1
      have hs : s = (1, 0) ∧ b = u := by
        rcases g3 with ⟨e, k2, e2, e3⟩ | ⟨i, k, e, e2, _⟩ | ⟨i, g, k, mk, tx, e, e2, _⟩
        · obtain ⟨_, _, e4⟩ := isTy_fn e3 q1
          exact ⟨e, Option.some.inj e4⟩
        · obtain ⟨_, _, e4⟩ := isTy_fn e2 q1
          cases e4
        · obtain ⟨_, _, e4⟩ := isTy_fn e2 q1
          cases e4
      obtain ⟨rfl, rfl⟩ := hs
      obtain ⟨r1, r2⟩ := wy_qw hY ρ (g := fun j => g (j + 1)) (a := b) (x := x) q2 g2 (fun j t e => (h.1 (j + 1) t e).2) h.2.2
      refine ⟨ρ, rfl, ?_⟩
      have ey : (yT R S).2.1 (abT S tv) = abV S b := by
        show yO S (abT S tv) = _
        unfold yO
        rcases q4 with ⟨_, e, _⟩ | ⟨_, e, _⟩
        · rw [e, if_pos (by omega)]; omega
        · rw [e, if_pos (by omega)]; omega
      rw [ey, (r2.nm hY).2.2]; exact r1
/-- what a typed place is -/
theorem xPl_in (hY : YK R S) : ∀ {n e p q v : Nat} {π : List (Nat × Nat)} {x mu mv : Nat}, xPl R S Γ n e p q v π x mu mv → ∃ (tv ix : Nat) (nm mt : Int32), isV S v ix nm (some tv) mt ∧ v ∈ Γ ∧ rTy S tv ∧ rTy S x ∧ qMs π ∧ (mv = 1 → qM π) ∧ (mv = 2 → ∃ σ : lLc, π = σ ++ [(1, 0)] ∧ qM σ) ∧ (π ≠ [] → vTy S x) ∧ (π = [] → x = tv ∧ mv = 1 ∧ mt = nI mu) ∧ (isRf (abT S tv) → π ≠ [] → mv = 0 ∧ (mu = 1 → abT S tv % 2 = 1))
  | 0, _, _, _, _, _, _, _, _, h => h.elim
  | n + 1, e, p, q, v, π, x, mu, mv, h => by
    obtain ⟨⟨h1, h2, h3⟩, h4, h5⟩ := h
    have hne : ∀ {π2 : List (Nat × Nat)} {s : Nat × Nat}, π = π2 ++ [s] → π ≠ [] := fun e w => by rw [e] at w; exact absurd (congrArg List.length w) (by rw [List.length_append]; show ¬ (_ + 1 = 0); omega)
    rcases h5 with ⟨ix, nm, k1, k2, k3, k4, k5, k6⟩ | ⟨o, p', q', k1, k2, k3, k4⟩ | ⟨o, p', q', y, m2, w2, kd, π2, k1, k2, k3, k4, k5, k6, k7⟩ | ⟨o, nm, q', y, i, k, w2, π2, k1, k2, k3, k4, k5, k6, k7, k8⟩
    · subst k2
      exact ⟨x, ix, nm, _, k4, k3, h4, h4, (fun _ w => nomatch w), fun _ => (fun _ w => nomatch w), fun w => absurd (k6.symm.trans w) (by decide), fun w => absurd rfl w, fun _ => ⟨rfl, k6, rfl⟩, fun _ w => absurd rfl w⟩
    · exact xPl_in hY k4
    · obtain ⟨tv, ix, nm, mt, a1, a2, a3, a4, a5, a6, a7, a8, a9, a10⟩ := xPl_in hY k4
      have hn := hne k6
      have hvx : vTy S x := a4.of k5 (k7.imp (fun w => w.1) (fun w => w.imp (fun w => w.1) (fun w => w.1)))
      refine ⟨tv, ix, nm, mt, a1, a2, a3, h4, ?_, fun w => ?_, fun w => ?_, fun _ => hvx, fun w => absurd w hn, fun w _ => ?_⟩
      · rw [k6]
        intro z hz
        rcases List.mem_append.mp hz with hz | hz
        · exact a5 z hz
        · rw [List.mem_singleton.mp hz]; exact Or.inr rfl
      · exfalso
        rcases k7 with ⟨_, _, e⟩ | ⟨_, _, e⟩ | ⟨_, _, e⟩
        · rw [e] at w; by_cases z : w2 = 1
          · rw [if_pos z] at w; cases w
          · rw [if_neg z] at w; cases w
        · rw [e] at w; cases w
        · rw [e] at w; cases w
      · refine ⟨π2, k6, a6 ?_⟩
        rcases k7 with ⟨_, _, e⟩ | ⟨_, _, e⟩ | ⟨_, _, e⟩
        · rw [e] at w; by_cases z : w2 = 1
          · exact z
          · rw [if_neg z] at w; cases w
        · rw [e] at w; cases w
        · rw [e] at w; cases w
      · by_cases e2 : π2 = []
        · obtain ⟨b1, b2, b3⟩ := a9 e2
          rw [← b1] at w ⊢
          have hr := (a4.rf hY k5).mp w
          rcases k7 with ⟨e, _, _⟩ | ⟨e, e3, e4⟩ | ⟨e, e3, e4⟩
          · subst e; exact absurd hr (by decide)
          · exact ⟨e4, fun z => absurd (e3.symm.trans z) (by decide)⟩
          · refine ⟨e4, fun _ => ?_⟩
            rcases a4.nm hY with ⟨_, z, _⟩ | ⟨kd2, u, z1, z2, z3, z4⟩
            · exact absurd w z
            · obtain ⟨z5, _⟩ := isTy_fn k5 z1
              rcases z4 with ⟨z6, _⟩ | ⟨_, z6, _⟩
              · exact absurd ((e.symm.trans z5).trans z6) (by decide)
              · omega
        · obtain ⟨b1, b2⟩ := a10 w e2
          have hvy := a8 e2
          obtain ⟨k2', i2, o2, z1, n6, n7, _⟩ := hvy.ty
          obtain ⟨z5, _⟩ := isTy_fn k5 z1
          rcases k7 with ⟨e, e3, e4⟩ | ⟨e, _⟩ | ⟨e, _⟩
          · refine ⟨?_, fun z => b2 (e3.symm.trans z)⟩
            rw [e4, b1]; exact if_neg (by decide)
          · exact absurd (z5.symm.trans e) n6
          · exact absurd (z5.symm.trans e) n7
    · obtain ⟨tv, ix, nm2, mt, a1, a2, a3, a4, a5, a6, a7, a8, a9, a10⟩ := xPl_in hY k4
      have hn := hne k7
      have hvx : vTy S x := by obtain ⟨_, _, _, _, _, _, _, _, _, _, _, _, _, _, _, hv⟩ := k6; exact hv
      refine ⟨tv, ix, nm2, mt, a1, a2, a3, h4, ?_, fun w => ?_, fun w => ?_, fun _ => hvx, fun w => absurd w hn, fun w _ => ?_⟩
      · rw [k7]
        intro z hz
        rcases List.mem_append.mp hz with hz | hz
        · exact a5 z hz
        · rw [List.mem_singleton.mp hz]; exact Or.inl rfl
      · have hw : w2 = 1 := by
          rw [k8] at w; by_cases z : w2 = 1
          · exact z
          · rw [if_neg z] at w; cases w
        rw [k7]
        intro z hz
        rcases List.mem_append.mp hz with hz | hz
        · exact a6 hw z hz
        · rw [List.mem_singleton.mp hz]
      · exfalso
        rw [k8] at w; by_cases z : w2 = 1
        · rw [if_pos z] at w; cases w
        · rw [if_neg z] at w; cases w
      · by_cases e2 : π2 = []
        · obtain ⟨b1, b2, b3⟩ := a9 e2
          rw [← b1] at w
          have hr := (a4.rf hY k5).mp w
          exact absurd hr (by decide)
        · obtain ⟨b1, b2⟩ := a10 w e2
          refine ⟨?_, b2⟩
          rw [k8, b1]; exact if_neg (by decide)
end LY10
