/-- the rows of a function, as its certificate has them: Z the program's, T the function's -/
def gF (Z T : tgS) : tF := fun k => match k with | 0 => Z.2 0 | 1 => Z.2 1 | 2 => Z.2 2 | 3 => Z.2 3 | 4 => Z.2 4 | 5 => Z.2 5 | 6 => Z.2 6 | 7 => Z.2 7 | 8 => Z.2 8 | 9 => Z.2 9 | 10 => Z.2 10 | 11 => Z.2 11 | 12 => Z.2 12 | 13 => Z.2 13 | 14 => T.2 14 | 15 => (fun v => if v < T.1 4 then T.2 15 v else -1) | 16 => (fun v => if v < T.1 4 then T.2 16 v else -1) | 17 => T.2 17 | 18 => (fun v => if v < T.1 4 then T.2 18 v else -1) | 19 => T.2 19 | 20 => (fun t => if t < Z.1 7 then Z.2 20 t else -1) | k + 21 => Z.2 (k + 21)
theorem gF_lo {Z T : tgS} : ∀ k : Nat, k < 14 → gF Z T k = Z.2 k
  | 0, _ => rfl
  | 1, _ => rfl
  | 2, _ => rfl
  | 3, _ => rfl
  | 4, _ => rfl
  | 5, _ => rfl
  | 6, _ => rfl
  | 7, _ => rfl
  | 8, _ => rfl
  | 9, _ => rfl
  | 10, _ => rfl
  | 11, _ => rfl
  | 12, _ => rfl
  | 13, _ => rfl
  | k + 14, h => absurd h (by omega)
theorem gF_hi {Z T : tgS} {k : Nat} (h : 21 ≤ k) : gF Z T k = Z.2 k := by
  obtain ⟨j, rfl⟩ : ∃ j : Nat, k = j + 21 := ⟨k - 21, by omega⟩
  rfl
theorem gF_20 {Z T : tgS} {t : Nat} (h : t < Z.1 7) : gF Z T 20 t = Z.2 20 t := if_pos h
theorem gF_15 {Z T : tgS} {v : Nat} (h : v < T.1 4) : gF Z T 15 v = T.2 15 v := if_pos h
theorem gF_15n {Z T : tgS} {v : Nat} (h : gF Z T 15 v ≠ -1) : v < T.1 4 := by
  rcases Nat.lt_or_ge v (T.1 4) with c | c
  · exact c
  · exact absurd (if_neg (by omega) : gF Z T 15 v = -1) h
theorem gF_18 {Z T : tgS} {v : Nat} (h : v < T.1 4) : gF Z T 18 v = T.2 18 v := if_pos h
theorem gF_ag {s Z T : tgS} (hgw : tGw T Z) (h60 : T.1 0 ≤ 6000) : tAg s T (gF Z T) := by
  refine ⟨fun k hk i _ hi => ?_, fun k h6 h13 i _ hi => ?_, fun i _ hi => hgw.2.2.2.1 i hi, fun k h20 h24 i hi => ?_, fun v hv => ⟨fun _ => ⟨gF_15 hv, rfl⟩, if_pos hv, gF_18 hv, fun _ => rfl, fun h => ⟨1073741824, h, by omega, by decide⟩⟩⟩
  · rw [gF_lo k (by omega)]; exact hgw.2.1 k hk i hi
  · rw [gF_lo k (by omega)]; exact hgw.2.2.1 k h6 h13 i hi
  · have h7 := hgw.1 7 (by omega)
    by_cases e : k = 20
    · subst e
      rw [gF_20 (by omega)]; exact hgw.2.2.2.2 20 (by omega) (by omega) i hi
    · rw [gF_hi (by omega)]; exact hgw.2.2.2.2 k h20 h24 i hi
/-- the cells of the first n variables -/
def gSm (Z T : tgS) : Nat → Nat
  | 0 => 0
  | n + 1 => gSm Z T n + cN (Z.2 22 (cN (T.2 15 n)))
/-- a function's code, and what is known of it: x its numbers, y its rows -/
def gC (yp : Nat) (X : tF) (G : Nat → Nat → Nat) (g : Nat) (x : Nat → Int32) (y : Nat → Nat → Int32) (Z T : tgS) (a b lf lt : Nat) (k : Nat → Option (List tE)) : Prop :=
  (a < b ∧ b ≤ 6000 ∧ lf ≤ lt ∧ lt ≤ 650 ∧ T.1 4 ≤ 40 ∧ T.1 5 ≤ 54 ∧ T.1 6 ≤ 680) ∧
  (x 9 = nI a ∧ x 10 = nI b ∧ x 11 = nI lf ∧ x 12 = nI lt ∧ x 7 = nI (T.1 4) ∧ x 13 = nI (T.1 5) ∧ x 8 = nI (T.1 6) ∧ ∀ k : Nat, 2 ≤ k → k < 8 → y k = T.2 (k + 12)) ∧
  ceI (gF Z T) X G (G g 1) a b k ∧
  (∀ (i : Nat) (s : List tE), a ≤ i → i < b → k i = some s → vl s ≤ 211 ∧ vIs (gF Z T) i s) ∧
  (k a = some (bdO (G g 0)) ∧ k b = none) ∧
  (∀ i : Nat, a ≤ i → i < b → Z.2 0 i = 14 → ∃ L m : Nat, L < 1100 ∧ a ≤ m ∧ m < b ∧ Z.2 1 i = nI L ∧ Z.2 0 m = 13 ∧ Z.2 1 m = nI (L + 1)) ∧
  (∀ i : Nat, a ≤ i → i < b → isL (Z.2 0 i) → ∃ L : Nat, lf ≤ L ∧ L < lt ∧ Z.2 1 i = nI L) ∧
  ((∀ i : Nat, a ≤ i → i < b → Z.2 0 i = 4 → ∃ c : Nat, Z.2 2 i = nI c ∧ c < T.1 5) ∧ ∀ i j : Nat, a ≤ i → i < b → a ≤ j → j < b → Z.2 0 i = 4 → Z.2 0 j = 4 → Z.2 2 i = Z.2 2 j → i = j) ∧
  (∀ v : Nat, v < T.1 4 → T.2 15 v = -1 ∨ ∃ u : Nat, T.2 15 v = nI u ∧ tyV yp (Z.1 7) (Z.2 20) u) ∧
  ((∀ v : Nat, v < T.1 4 → T.2 15 v ≠ -1 → ∃ o : Nat, T.2 17 v = nI o ∧ o + cN (Z.2 22 (cN (T.2 15 v))) ≤ T.1 6) ∧ ∀ v w : Nat, v < T.1 4 → w < T.1 4 → v ≠ w → T.2 15 v ≠ -1 → T.2 15 w ≠ -1 → cN (T.2 17 v) + cN (Z.2 22 (cN (T.2 15 v))) ≤ cN (T.2 17 w) ∨ cN (T.2 17 w) + cN (Z.2 22 (cN (T.2 15 w))) ≤ cN (T.2 17 v)) ∧
  (G g 0 ≤ T.1 4 ∧ x 4 = nI (gSm Z T (G g 0)) ∧ ∀ v : Nat, v < G g 0 → T.2 15 v = nI (G g (v + 2)) ∧ T.2 17 v = nI (gSm Z T v) ∧ G g (v + 2) < Z.1 7)
theorem gC_of {yp nb tt g : Nat} {X : tF} {G : Nat → Nat → Nat} {lo : Nat → Nat} {fc : Nat → Nat → Int32} {fr : Nat → Nat → Nat → Int32} {Z : tgS} (hp : pgI yp nb tt nb X G lo fc fr Z) (htt : tt ≤ 1300) (hg : g < nb) : ∃ (T : tgS) (a b lf lt : Nat) (k : Nat → Option (List tE)), gC yp X G g (fc g) (fr g) Z T a b lf lt k ∧ tGw T Z ∧ tJ T := by
  obtain ⟨a1, a2, a3, a4, ⟨B, b1, b2, b3, b4, b5, b6, b7⟩, a6, a7⟩ := hp
  obtain ⟨p, q, S, T, ⟨U, u1, u2, u3, u4, u5, u6, u7, u8⟩, hJ, x7, x13, x8, hy, hgw, hhd⟩ := a6 g hg
  have hF : tAg (tg8 U) T (gF Z T) := gF_ag hgw hJ.1
  have eU0 : (tg8 U).1 0 = S.1 0 := u1.1 0 (by decide)
  have eU4 : (tg8 U).1 4 = S.1 4 := u1.1 4 (by decide)
  have eU7 : (tg8 U).1 7 = S.1 7 := u1.1 7 (by decide)
  have R := u3.2.2.2 (gF Z T) hF
  rw [eU0] at R
  obtain ⟨⟨k, e1, e2, eb, e3⟩, hd⟩ := R
  have x0 := u3.1.1 0 (by decide)
  have x1 := u3.1.1 1 (by decide)
  have x4 := u3.1.1 4 (by decide)
  have x7' := u3.1.1 7 (by decide)
  have h8 : 10000 - U.1 0 ≤ T.1 8 := u3.1.1 8 (by decide)
  have eU : U.1 0 = S.1 0 := u1.1 0 (by decide)
  have eU1 : (tg8 U).1 1 = S.1 1 := u1.1 1 (by decide)
  have g0 := hgw.1 0 (by omega); have g1 := hgw.1 1 (by omega); have g7 := hgw.1 7 (by omega)
  have j0 : T.1 0 ≤ 6000 := hJ.1
  have j4 : T.1 4 ≤ 40 := hJ.2.2.2.2.1
  have j5 : T.1 5 ≤ 54 := hJ.2.2.2.2.2.1
  have j7 : T.1 7 ≤ 3040 := hJ.2.2.2.2.2.2.1
  have r20 : ∀ t : Nat, t < T.1 7 → Z.2 20 t = T.2 20 t := fun t ht => hgw.2.2.2.2 20 (by omega) (by omega) t ht
  have r22 : ∀ t : Nat, t < T.1 7 → Z.2 22 t = T.2 22 t := fun t ht => hgw.2.2.2.2 22 (by omega) (by omega) t ht
  have hab : S.1 0 < T.1 0 := by
    rcases Nat.lt_or_ge (S.1 0) (T.1 0) with c | c
    · exact c
    · rw [show T.1 0 = S.1 0 by omega, e1] at e2; exact absurd e2 (by simp)
  obtain ⟨v1, v2, v3⟩ := u2.2.2.2.2.1
  have hvc := vcN_le (f := T.2 15) (T.1 4)
  have hvt := u2.2.2.1
  have hsz : ∀ v : Nat, v < T.1 4 → T.2 15 v ≠ -1 → vSz T v = cN (Z.2 22 (cN (T.2 15 v))) := fun v hv hne => by
    obtain ⟨u, q1, q2⟩ := (hvt v hv).resolve_left hne
    have hu : u < T.1 7 := q2.2
    unfold vSz
    rw [q1, cN_nI (by omega), r22 u hu]
  have hpar : ∀ v : Nat, v < G g 0 → T.2 15 v = nI (G g (v + 2)) ∧ T.2 17 v = U.2 17 v ∧ G g (v + 2) < S.1 7 := fun v hv => by
    obtain ⟨⟨h1, h2⟩, h3⟩ := hhd v hv
    obtain ⟨-, -, -, tx, -⟩ := u3.1.2.2.2.2.2 v (by omega)
    have e15 : (tg8 U).2 15 v = nI (G g (v + 2)) := by
      show U.2 15 v = _
      rw [u1.2.1 15 (by decide) (by decide)]; exact h1
    obtain ⟨t1, t2⟩ := tx (by rw [e15]; exact nI_ne1 (by omega))
    exact ⟨t1.trans e15, t2, h2⟩
  have hgs : ∀ n : Nat, n ≤ G g 0 → vSm S n = gSm Z T n := fun n => by
    induction n with
    | zero => exact fun _ => rfl
    | succ n ih =>
      intro hn
      obtain ⟨⟨h1, h2⟩, h3⟩ := hhd n (by omega)
      have e22 : T.2 22 (G g (n + 2)) = S.2 22 (G g (n + 2)) := by
        rw [u3.1.2.2.2.2.1 22 (by omega) (by omega) _ (by omega)]
        show U.2 22 _ = _
        rw [u1.2.1 22 (by decide) (by decide)]
      show vSm S n + vSz S n = gSm Z T n + cN (Z.2 22 (cN (T.2 15 n)))
      rw [ih (by omega), (hpar n (by omega)).1]
      unfold vSz
      rw [h1, cN_nI (by omega), r22 _ (by omega), e22]
  refine ⟨T, S.1 0, T.1 0, S.1 1, T.1 1, k, ⟨⟨hab, j0, by omega, by omega, j4, j5, by omega⟩, ⟨u5, u6, u7, u8, x7, x13, x8, hy⟩, ⟨fun i h1 h2 => ⟨(e3 i h1 h2).1.1, fun s hs => ?_⟩, j0, fun i h1 h2 hl => ?_⟩, fun i s h1 h2 hs => ⟨eb i h1 (by omega) s hs, ?_⟩, ⟨e1, e2⟩, fun i h1 h2 h3 => ?_, fun i h1 h2 hl => ?_, ⟨fun i h1 h2 h4 => ?_, fun i j h1 h2 h3 h4 h5 h6 h7 => ?_⟩, fun v hv => ?_, ⟨fun v hv hne => ?_, fun v w hv hw hvw hnv hnw => ?_⟩, ?_, ?_, fun v hv => ?_⟩, hgw, hJ⟩
  · obtain ⟨o, w1, w2⟩ := (e3 i h1 h2).2 s hs
    exact ⟨o, w1, w2.1⟩
  · obtain ⟨L, l1, l2, l3⟩ := a2 i (by omega) hl
    exact ⟨L, by omega, l2, l3⟩
  · obtain ⟨o, w1, w2⟩ := (e3 i h1 h2).2 s hs
    exact w2.2
  · obtain ⟨L, m, q1, q2, q3, q4⟩ := hd i h1 h2 h3
    exact ⟨L, m, q1, by omega, q3, q4⟩
  · rw [hgw.2.1 0 (by decide) i h2] at hl
    obtain ⟨L, q1, q2, q3⟩ := u3.2.1.1 i (by omega) h2 hl
    exact ⟨L, q1, q2, (hgw.2.1 1 (by decide) i h2).trans q3⟩
  · rw [hgw.2.1 0 (by decide) i h2] at h4
    obtain ⟨c, c1, c2⟩ := u2.2.2.2.2.2.2.1 i (by omega) h2 h4
    exact ⟨c, (hgw.2.1 2 (by decide) i h2).trans c1, c2⟩
  · rw [hgw.2.1 0 (by decide) i h2] at h5
    rw [hgw.2.1 0 (by decide) j h4] at h6
    rw [hgw.2.1 2 (by decide) i h2, hgw.2.1 2 (by decide) j h4] at h7
    exact u2.2.2.2.2.2.2.2 i j (by omega) h2 (by omega) h4 h5 h6 h7
  · rcases hvt v hv with z | ⟨u, q1, q2⟩
    · exact Or.inl z
    · exact Or.inr ⟨u, q1, tyV_up q2 r20 g7⟩
  · rw [← hsz v hv hne]; exact v1 v hv hne
  · rw [← hsz v hv hnv, ← hsz w hw hnw]; exact v2 v w hv hw hvw hnv hnw
  · rcases Nat.eq_zero_or_pos (G g 0) with c | c
    · omega
    · have := (hhd 0 c).2
      omega
  · rw [u4, u1.2.2.2.2.2.2.1, hgs _ (Nat.le_refl _)]
  · obtain ⟨p1, p2, p3⟩ := hpar v hv
    refine ⟨p1, ?_, by omega⟩
    rw [p2, u1.2.2.2.2.2.2.2 v hv, hgs v (by omega)]
