/-- how many leaves a type has, by its number -/
def zN (R : yR) (S : Sg) (T : Nat) : Nat := if yK R S T = 2 then fN (obF S (R.ws (T - 4))) 20 else 1
/-- where a member's leaves begin -/
def ofN (R : yR) (S : Sg) (T q : Nat) : Nat := psN (fun j => zN R S (yQ R S T 0 j)) q
/-- the leaves that a way's members lead to: the first one, the type -/
def pfO (R : yR) (S : Sg) : Nat → lLc → Nat × Nat
  | T, [] => (0, T)
  | T, s :: ρ => if s.1 = 0 then (ofN R S T s.2 + (pfO R S (yQ R S T 0 s.2) ρ).1, (pfO R S (yQ R S T 0 s.2) ρ).2) else (0, T)
/-- the leaves are told -/
def LFS (R : yR) (S0 : Sg) (g : Nat → Int32) : Prop := YK R S0 ∧ RIn R S0 ∧ ITA R S0 ∧ Zq S0 11 = Zq R.S 11 ∧ SLF R S0 g
/-- the type of the variable a -/
def vTp (S0 S : Sg) (a : Nat) : Nat := abU S0 (rN (obF S a) 2)
section PS9
variable {R : yR} {S0 S : Sg} {g : Nat → Int32}
theorem zN_ty (h : LFS R S0 g) {m x n : Nat} (q : tyLv R g m S0 x n) : zN R S0 (abT S0 x) = n ∧ 1 ≤ n ∧ n ≤ 16 := by
  obtain ⟨hY, _⟩ := h
  obtain ⟨kd, ix, o, q1, q2⟩ := q
  have hy := hY.2.2 _ _ _ _ q1
  have him := hY.2.1
  obtain ⟨t, a1, _, a3, a4, a5⟩ := abV_is hY q1
  have ht := hY.1
  rcases q2 with ⟨e, j, hj, e2, hk, hm, ⟨fs, f1, f2, f3⟩, s, s1, s2, s3⟩ | ⟨hk, e⟩
  · subst e; subst e2
    have eo : o = none := by
      rcases hy with ⟨w, _⟩ | ⟨_, _, w⟩ | ⟨w, _⟩ | ⟨w, _⟩
      · exact absurd (show (3 : Int32) = 0 ∨ (3 : Int32) = 1 ∨ (3 : Int32) = 2 ∨ (3 : Int32) = 8 from w) (by decide)
      · exact w
      · exact absurd (show (3 : Int32) = 4 from w) (by decide)
      · exact absurd (show (3 : Int32) = 5 ∨ (3 : Int32) = 6 ∨ (3 : Int32) = 7 from w) (by decide)
    subst eo
    rw [if_neg (by decide), if_neg (by decide), abV_it hY (Or.inl rfl) hj q1] at a5
    refine ⟨?_, f3, by omega⟩
    unfold zN
    rw [a5, yK_it hY hj, if_pos hk, if_pos rfl, show 4 + j - 4 = j by omega, obF_o f1, fN_i f2 (by omega)]
  · subst e
    refine ⟨?_, by omega, by omega⟩
    unfold zN
    refine if_neg (fun w => ?_)
    have lo : ∀ T : Nat, T < 4 → yK R S0 T = 0 := fun T hT => by
      unfold yK
      rw [if_neg (by omega), if_neg (by omega), if_neg (by omega)]
    have hi : ∀ T : Nat, 10000 ≤ T → yK R S0 T ≠ 2 := fun T hT => by
      unfold yK
      rw [if_pos hT]
      by_cases c : T < 30000
      · rw [if_pos c]
        by_cases c2 : T % 2 = 0
        · rw [if_pos c2]; decide
        · rw [if_neg c2]; decide
      · rw [if_neg c]; decide
    rcases hy with ⟨z, _⟩ | ⟨z, _⟩ | ⟨z, ⟨i, i1, i2, i3⟩, i4⟩ | ⟨z, z2, u, z3⟩
    · have z : kd = 0 ∨ kd = 1 ∨ kd = 2 ∨ kd = 8 := z
      have hT : abT S0 x < 4 := by
        rw [a5, a4]; unfold abK
        rcases z with z | z | z | z <;> subst z <;> simp
      rw [lo _ hT] at w; exact absurd w (by decide)
    · exact hk z
    · have z : kd = 4 := z
      have i2 : ix = nI i := i2
      have i4 : o = none := i4
      subst z; subst i2; subst i4
      rw [if_neg (by decide), if_neg (by decide), abV_it hY (Or.inr rfl) i1 q1] at a5
      rw [a5, yK_it hY i1, if_neg (by rw [i3]; decide), if_pos i3] at w
      exact absurd w (by decide)
    · have z : kd = 5 ∨ kd = 6 ∨ kd = 7 := z
      have z2 : ix = 0 := z2
      have z3 : o = some u := z3
      subst z2; subst z3
      rcases z with z | z | z
      · subst z
        rw [if_neg (by decide), if_neg (by decide)] at a5
        rw [a5, (bx_y hY q1).1] at w
        exact absurd w (by decide)
      · subst z
        rw [if_pos rfl] at a5
        exact hi _ (by omega) w
      · subst z
        rw [if_neg (by decide), if_pos rfl] at a5
        exact hi _ (by omega) w
theorem zN_0 : zN R S0 0 = 1 := by
  unfold zN
  refine if_neg (fun w => ?_)
  unfold yK at w
  rw [if_neg (by omega), if_neg (by omega), if_neg (by omega)] at w
  exact absurd w (by decide)
theorem zN_st (h : LFS R S0 g) {j : Nat} (hj : j < R.im) (hk : R.ik j = 10) : ∃ (fs : List Value) (mn ta : Nat) (f : Nat → Option Nat), R.ws j ∈ ZL S0 ∧ ZF S0 (R.ws j) = .inr (16, fs) ∧ fs[3]? = some (.int (nI mn)) ∧ mn ≤ 12 ∧ fs[10]? = some (.ref ta) ∧ ta ∈ ZL S0 ∧ ZF S0 ta = .inl (R.K.1 4, 13, .inr (.inr (.inr (.inr f)))) ∧ (∀ k : Nat, k < mn → ∃ x : Nat, f k = some x ∧ vTy S0 x ∧ abT S0 x = yQ R S0 (4 + j) 0 k ∧ tyLv R g (hN g j R.im) S0 x (zN R S0 (abT S0 x))) ∧ iLv R S0 j (zN R S0 (4 + j)) ∧ zN R S0 (4 + j) = ofN R S0 (4 + j) mn ∧ 1 ≤ zN R S0 (4 + j) ∧ zN R S0 (4 + j) ≤ 16 := by
  have h0 := h
  obtain ⟨hY, hR, hA, _, hS⟩ := h
  obtain ⟨n, n1, fs, mn, ta, f, w, e1, e2, e3, e4, e5, e6, e7⟩ := hS.2 j hj hk
  obtain ⟨a1, a2, fs2, mn2, na, gg, b1, b2, b3, b4, b5, b6, b7, b8, b9⟩ := hA j hj
  have e4j : 4 + j - 4 = j := by omega
  have ef : fs2 = fs := by
    have := b1.symm.trans e1; cases this; rfl
  subst ef
  have em : mn2 = mn := by
    rw [b3] at e2
    have := Value.int.inj (Option.some.inj e2)
    exact nI_e (by omega) (by omega) this
  subst em
  obtain ⟨m1, m2⟩ : nXo R ta ∧ ∀ k : Nat, k < mn2 → ∃ x : Nat, f k = some x ∧ vTy S0 x := by
    rcases b9 with ⟨_, ta2, f2, c1, c2⟩ | ⟨c, _⟩ | ⟨c, _⟩
    · have et : ta2 = ta := by rw [c1] at e4; cases e4; rfl
      subst et
      have ff : f2 = f := by have := c2.2.1.symm.trans e5; cases this; rfl
      subst ff
      exact ⟨c2.1, c2.2.2⟩
    · rw [hk] at c; exact absurd c (by decide)
    · rw [hk] at c; exact absurd c (by decide)
  have hq : ∀ k : Nat, k < mn2 → ∃ x : Nat, f k = some x ∧ vTy S0 x ∧ abT S0 x = yQ R S0 (4 + j) 0 k ∧ tyLv R g (hN g j R.im) S0 x (w k) := fun k hk2 => by
    obtain ⟨x, x1, x2⟩ := m2 k hk2
    obtain ⟨y, y1, y2⟩ := e6 k hk2
    rw [x1] at y1; cases y1
    refine ⟨x, x1, x2, ?_, y2⟩
    unfold yQ
    rw [e4j, if_pos hk, obF_o e1, rN_r e4, abR_o e5 x1, (x2.nm hY).2.2]
  have hw : ∀ k : Nat, k < mn2 → zN R S0 (yQ R S0 (4 + j) 0 k) = w k := fun k hk2 => by
    obtain ⟨x, _, _, x3, x4⟩ := hq k hk2
    rw [← x3]; exact (zN_ty h0 x4).1
  have hz : zN R S0 (4 + j) = n := by
    obtain ⟨⟨fs3, f1, f2, f3⟩, s, s1, s2, s3⟩ := n1
    unfold zN
    rw [yK_it hY hj, if_pos hk, if_pos rfl, e4j, obF_o f1, fN_i f2 (by omega)]
  have hn : 1 ≤ n ∧ n ≤ 16 := by
    obtain ⟨⟨fs3, f1, f2, f3⟩, s, s1, s2, s3⟩ := n1
    omega
  refine ⟨fs2, mn2, ta, f, hR _ a1.1, e1, e2, e3, e4, hR _ m1.1, e5, fun k hk2 => ?_, by rw [hz]; exact n1, ?_, by omega, by omega⟩
  · obtain ⟨x, x1, x2, x3, x4⟩ := hq k hk2
    exact ⟨x, x1, x2, x3, by rw [(zN_ty h0 x4).1]; exact x4⟩
  · rw [hz, e7]
    unfold ofN
    exact psN_cg (fun k hk2 => (hw k hk2).symm)
theorem it11 (h : LFS R S0 g) (hx : LX S0 S) {j : Nat} (hj : j < R.im) : rQ S 11 (nI j) = some (some (R.ws j)) := by
  have := h.1.2.1
  rw [rQ_n (show j < rlen 11 from by show j < 70; omega) (by decide), hx.2.2.2.2.1 11 (fun w => by rcases w with w | w | w <;> omega), h.2.2.2.1, (h.2.2.1 j hj).2.1]
theorem pt29 (h : LFS R S0 g) (hx : LX S0 S) {j : Nat} (hj : j < R.im) (hk : R.ik j = 10) {V : Sg → Option Nat → Option (Sg × Int32)} (hV : ∀ x n : Nat, tyLv R g (hN g j R.im) S0 x n → V S (some x) = some (S, nI n)) : ∀ (d k : Nat), 12 < k + d → ofN R S0 (4 + j) k ≤ zN R S0 (4 + j) → (∀ fs mn, ZF S0 (R.ws j) = .inr (16, fs) → fs[3]? = some (.int (nI mn)) → mn ≤ 12 → k ≤ mn) → f_partsOf_29 R.K V d S (nI (ofN R S0 (4 + j) k)) (some (R.ws j)) (nI k) = some (S, nI (zN R S0 (4 + j)))
  | 0, k, hd, _, hm => by
    obtain ⟨fs, mn, ta, f, b1, b2, b3, b4, _⟩ := zN_st h hj hk
    have := hm fs mn b2 b3 b4
    omega
  | d + 1, k, hd, hle, hm => by
    obtain ⟨fs, mn, ta, f, b1, b2, b3, b4, b5, b6, b7, b8, b9, b10, b11, b12⟩ := zN_st h hj hk
    have hkm := hm fs mn b2 b3 b4
    obtain ⟨c1, f2, c2, c3, c4⟩ := hx.it b1 b2
    obtain ⟨d1, d2⟩ := hx.ro b6 b7
    have r3 : oI S 16 (some (R.ws j)) 3 = some (nI mn) := oI_mk c1 c2 (by rw [c4 3 (by decide) (Or.inl (by decide))]; exact b3)
    have r10 : oR S 16 (some (R.ws j)) 10 = some (some ta) := oR_mk c1 c2 (v := some ta) (by rw [c4 10 (by decide) (Or.inl (by decide))]; exact b5)
    unfold f_partsOf_29
    rw [r3]
    simp only [Option.bind_some]
    by_cases e : k = mn
    · subst e
      rw [if_pos (nI_le (Nat.le_refl _) (by omega)), b10]
    · have hlt : k < mn := by omega
      rw [if_neg (Int32.not_le.mpr (nI_lt hlt (by omega))), r10]
      simp only [Option.bind_some]
      rw [aQ_n d1 d2 (show k < 13 by omega) (by decide)]
      simp only [Option.bind_some]
      obtain ⟨x, x1, x2, x3, x4⟩ := b8 k hlt
      rw [x1, hV x _ x4]
      show f_partsOf_29 R.K V d S (nI (ofN R S0 (4 + j) k) + nI (zN R S0 (abT S0 x))) (some (R.ws j)) (nI k + 1) = _
      have es : ofN R S0 (4 + j) k + zN R S0 (abT S0 x) = ofN R S0 (4 + j) (k + 1) := by
        rw [x3]; rfl
      rw [nI_add, nI_1, es]
      refine pt29 h hx hj hk hV d (k + 1) (by omega) ?_ (fun fs' mn' q1 q2 q3 => ?_)
      · rw [b10]; exact psN_mo (by omega)
      · have : fs' = fs := by have := q1.symm.trans b2; cases this; rfl
        subst this
        rw [b3] at q2
        have := nI_e (by omega) (by omega) (Value.int.inj (Option.some.inj q2))
        omega
/-- partsOf -/
theorem pto_ (h : LFS R S0 g) (hx : LX S0 S) : ∀ (d m x n : Nat), m < d → tyLv R g m S0 x n → f_partsOf R.K d S (some x) = some (S, nI n)
  | 0, m, x, n, hd, _ => by omega
  | d + 1, m, x, n, hd, q => by
    have hn := (zN_ty h q).1
    obtain ⟨kd, ix, o, q1, q2⟩ := q
    obtain ⟨t, _, _, xl, xf⟩ := hx.ty q1
    have o0 : oI S 20 (some x) 0 = some kd := oI_mk xl xf rfl
    have o1 : oI S 20 (some x) 1 = some ix := oI_mk xl xf rfl
    unfold f_partsOf
    rw [if_neg (by simp), o0]
    simp only [Option.bind_some]
    rcases q2 with ⟨e, j, hj, e2, hk, hm, hl⟩ | ⟨hk, e⟩
    · subst e; subst e2
      rw [if_pos rfl, o1]
      simp only [Option.bind_some]
      rw [it11 h hx hj]
      simp only [Option.bind_some]
      have hz : zN R S0 (4 + j) = n := by
        obtain ⟨⟨fs, f1, f2, f3⟩, s, s1, s2, s3⟩ := hl
        unfold zN
        rw [yK_it h.1 hj, if_pos hk, if_pos rfl, show 4 + j - 4 = j by omega, obF_o f1, fN_i f2 (by omega)]
      rw [← hz]
      exact pt29 h hx hj hk (fun y n2 q9 => pto_ h hx d (hN g j R.im) y n2 (by omega) q9) bigN 0 (by unfold bigN; omega) (Nat.zero_le _) (fun _ _ _ _ _ => Nat.zero_le _)
    · subst e
      rw [if_neg hk]; rfl
theorem tyLv_of (h : LFS R S0 g) {x : Nat} {kd ix : Int32} {o : Option Nat} (q : isTy S0 x kd ix o) : tyLv R g 71 S0 x (zN R S0 (abT S0 x)) := by
  have hy := h.1.2.2 _ _ _ _ q
  have him := h.1.2.1
  by_cases e : kd = 3
  · subst e
    rcases hy with ⟨w, _⟩ | ⟨_, ⟨i, i1, i2, i3⟩, w⟩ | ⟨w, _⟩ | ⟨w, _⟩
    · exact absurd (show (3 : Int32) = 0 ∨ (3 : Int32) = 1 ∨ (3 : Int32) = 2 ∨ (3 : Int32) = 8 from w) (by decide)
    · have i2 : ix = nI i := i2
      subst i2
      obtain ⟨_, _, _, _, _, _, _, _, _, _, _, _, b9, _⟩ := zN_st h i1 i3
      have q9 : tyLv R g 71 S0 x (zN R S0 (4 + i)) := ⟨3, nI i, o, q, Or.inl ⟨rfl, i, i1, rfl, i3, by have := hN_le (f := g) (i := i) R.im; omega, b9⟩⟩
      rw [(zN_ty h q9).1]; exact q9
    · exact absurd (show (3 : Int32) = 4 from w) (by decide)
    · have w : (3 : Int32) = 5 ∨ (3 : Int32) = 6 ∨ (3 : Int32) = 7 := w
      exact absurd w (by decide)
  · have q9 : tyLv R g 71 S0 x 1 := ⟨kd, ix, o, q, Or.inr ⟨e, rfl⟩⟩
    rw [(zN_ty h q9).1]; exact q9
/-- .. of what may be none -/
theorem pto0 (h : LFS R S0 g) (hx : LX S0 S) {o : Option Nat} (ho : ∀ x : Nat, o = some x → rTy S0 x) : f_partsOf R.K 80 S o = some (S, nI (zN R S0 (abU S0 o))) ∧ 1 ≤ zN R S0 (abU S0 o) ∧ zN R S0 (abU S0 o) ≤ 16 := by
  cases o with
  | none =>
    rw [show abU S0 none = 0 from rfl, zN_0]
    refine ⟨?_, by omega, by omega⟩
    unfold f_partsOf
    rw [if_pos rfl]; rfl
  | some x =>
    obtain ⟨kd, ix, o, q, _⟩ := (ho x rfl).ty
    have := tyLv_of h q
    exact ⟨pto_ h hx 80 71 x _ (by omega) this, (zN_ty h this).2⟩
end PS9
