-- h0.r1.lean.txt
section
/-- the rows of a function, as its certificate has them: Z the program's, T the function's -/
def gF (Z T : tgS) : tF := fun k => match k with | 0 => Z.2 0 | 1 => Z.2 1 | 2 => Z.2 2 | 3 => Z.2 3 | 4 => Z.2 4 | 5 => Z.2 5 | 6 => Z.2 6 | 7 => Z.2 7 | 8 => Z.2 8 | 9 => Z.2 9 | 10 => Z.2 10 | 11 => Z.2 11 | 12 => Z.2 12 | 13 => Z.2 13 | 14 => T.2 14 | 15 => (fun v => if v < T.1 4 then T.2 15 v else -1) | 16 => (fun v => if v < T.1 4 then T.2 16 v else -1) | 17 => T.2 17 | 18 => (fun v => if v < T.1 4 then T.2 18 v else -1) | 19 => T.2 19 | 20 => (fun t => if t < Z.1 7 then Z.2 20 t else -1) | k + 21 => Z.2 (k + 21)
theorem gF_lo {Z T : tgS} : ∀ k : Nat, k < 14 → gF Z T k = Z.2 k
  | 0, _ => rfl
  | 1, _ => rfl
  | 2, _ => rfl
  | 3, _ => rfl
  | 4, _ => rfl
  | 5, _ => rfl
  | 6, _ => rfl
  | 7, _ => rfl
  | 8, _ => rfl
  | 9, _ => rfl
  | 10, _ => rfl
  | 11, _ => rfl
  | 12, _ => rfl
  | 13, _ => rfl
  | k + 14, h => absurd h (by omega)
theorem gF_hi {Z T : tgS} {k : Nat} (h : 21 ≤ k) : gF Z T k = Z.2 k := by
  obtain ⟨j, rfl⟩ : ∃ j : Nat, k = j + 21 := ⟨k - 21, by omega⟩
  rfl
theorem gF_20 {Z T : tgS} {t : Nat} (h : t < Z.1 7) : gF Z T 20 t = Z.2 20 t := if_pos h
theorem gF_15 {Z T : tgS} {v : Nat} (h : v < T.1 4) : gF Z T 15 v = T.2 15 v := if_pos h
theorem gF_15n {Z T : tgS} {v : Nat} (h : gF Z T 15 v ≠ -1) : v < T.1 4 := by
  rcases Nat.lt_or_ge v (T.1 4) with c | c
  · exact c
  · exact absurd (if_neg (by omega) : gF Z T 15 v = -1) h
theorem gF_18 {Z T : tgS} {v : Nat} (h : v < T.1 4) : gF Z T 18 v = T.2 18 v := if_pos h
theorem gF_ag {s Z T : tgS} (hgw : tGw T Z) (h60 : T.1 0 ≤ 6000) : tAg s T (gF Z T) := by
  refine ⟨fun k hk i _ hi => ?_, fun k h6 h13 i _ hi => ?_, fun i _ hi => hgw.2.2.2.1 i hi, fun k h20 h24 i hi => ?_, fun v hv => ⟨fun _ => ⟨gF_15 hv, rfl⟩, if_pos hv, gF_18 hv, fun _ => rfl, fun h => ⟨1073741824, h, by omega, by decide⟩⟩⟩
  · rw [gF_lo k (by omega)]; exact hgw.2.1 k hk i hi
  · rw [gF_lo k (by omega)]; exact hgw.2.2.1 k h6 h13 i hi
  · have h7 := hgw.1 7 (by omega)
    by_cases e : k = 20
    · subst e
      rw [gF_20 (by omega)]; exact hgw.2.2.2.2 20 (by omega) (by omega) i hi
    · rw [gF_hi (by omega)]; exact hgw.2.2.2.2 k h20 h24 i hi
/-- the cells of the first n variables -/
def gSm (Z T : tgS) : Nat → Nat
  | 0 => 0
  | n + 1 => gSm Z T n + cN (Z.2 22 (cN (T.2 15 n)))
/-- a function's code, and what is known of it: x its numbers, y its rows -/
def gC (yp : Nat) (X : tF) (G : Nat → Nat → Nat) (g : Nat) (x : Nat → Int32) (y : Nat → Nat → Int32) (Z T : tgS) (a b lf lt : Nat) (k : Nat → Option (List tE)) : Prop :=
  (a < b ∧ b ≤ 6000 ∧ lf ≤ lt ∧ lt ≤ 650 ∧ T.1 4 ≤ 40 ∧ T.1 5 ≤ 54 ∧ T.1 6 ≤ 680) ∧
  (x 9 = nI a ∧ x 10 = nI b ∧ x 11 = nI lf ∧ x 12 = nI lt ∧ x 7 = nI (T.1 4) ∧ x 13 = nI (T.1 5) ∧ x 8 = nI (T.1 6) ∧ ∀ k : Nat, 2 ≤ k → k < 8 → y k = T.2 (k + 12)) ∧
  ceI (gF Z T) X G (G g 1) a b k ∧
  (∀ (i : Nat) (s : List tE), a ≤ i → i < b → k i = some s → vl s ≤ 211 ∧ vIs (gF Z T) i s) ∧
  (k a = some (bdO (G g 0)) ∧ k b = none) ∧
  (∀ i : Nat, a ≤ i → i < b → Z.2 0 i = 14 → ∃ L m : Nat, L < 1100 ∧ a ≤ m ∧ m < b ∧ Z.2 1 i = nI L ∧ Z.2 0 m = 13 ∧ Z.2 1 m = nI (L + 1)) ∧
  (∀ i : Nat, a ≤ i → i < b → isL (Z.2 0 i) → ∃ L : Nat, lf ≤ L ∧ L < lt ∧ Z.2 1 i = nI L) ∧
  ((∀ i : Nat, a ≤ i → i < b → Z.2 0 i = 4 → ∃ c : Nat, Z.2 2 i = nI c ∧ c < T.1 5) ∧ ∀ i j : Nat, a ≤ i → i < b → a ≤ j → j < b → Z.2 0 i = 4 → Z.2 0 j = 4 → Z.2 2 i = Z.2 2 j → i = j) ∧
  (∀ v : Nat, v < T.1 4 → T.2 15 v = -1 ∨ ∃ u : Nat, T.2 15 v = nI u ∧ tyV yp (Z.1 7) (Z.2 20) u) ∧
  ((∀ v : Nat, v < T.1 4 → T.2 15 v ≠ -1 → ∃ o : Nat, T.2 17 v = nI o ∧ o + cN (Z.2 22 (cN (T.2 15 v))) ≤ T.1 6) ∧ ∀ v w : Nat, v < T.1 4 → w < T.1 4 → v ≠ w → T.2 15 v ≠ -1 → T.2 15 w ≠ -1 → cN (T.2 17 v) + cN (Z.2 22 (cN (T.2 15 v))) ≤ cN (T.2 17 w) ∨ cN (T.2 17 w) + cN (Z.2 22 (cN (T.2 15 w))) ≤ cN (T.2 17 v)) ∧
  (G g 0 ≤ T.1 4 ∧ x 4 = nI (gSm Z T (G g 0)) ∧ ∀ v : Nat, v < G g 0 → T.2 15 v = nI (G g (v + 2)) ∧ T.2 17 v = nI (gSm Z T v) ∧ G g (v + 2) < Z.1 7)
theorem gC_of {yp nb tt g : Nat} {X : tF} {G : Nat → Nat → Nat} {lo : Nat → Nat} {fc : Nat → Nat → Int32} {fr : Nat → Nat → Nat → Int32} {Z : tgS} (hp : pgI yp nb tt nb X G lo fc fr Z) (htt : tt ≤ 1300) (hg : g < nb) : ∃ (T : tgS) (a b lf lt : Nat) (k : Nat → Option (List tE)), gC yp X G g (fc g) (fr g) Z T a b lf lt k ∧ tGw T Z ∧ tJ T := by
  obtain ⟨a1, a2, a3, a4, ⟨B, b1, b2, b3, b4, b5, b6, b7⟩, a6, a7⟩ := hp
  obtain ⟨p, q, S, T, ⟨U, u1, u2, u3, u4, u5, u6, u7, u8⟩, hJ, x7, x13, x8, hy, hgw, hhd⟩ := a6 g hg
  have hF : tAg (tg8 U) T (gF Z T) := gF_ag hgw hJ.1
  have eU0 : (tg8 U).1 0 = S.1 0 := u1.1 0 (by decide)
  have eU4 : (tg8 U).1 4 = S.1 4 := u1.1 4 (by decide)
  have eU7 : (tg8 U).1 7 = S.1 7 := u1.1 7 (by decide)
  have R := u3.2.2.2 (gF Z T) hF
  rw [eU0] at R
  obtain ⟨⟨k, e1, e2, eb, e3⟩, hd⟩ := R
  have x0 := u3.1.1 0 (by decide)
  have x1 := u3.1.1 1 (by decide)
  have x4 := u3.1.1 4 (by decide)
  have x7' := u3.1.1 7 (by decide)
  have h8 : 10000 - U.1 0 ≤ T.1 8 := u3.1.1 8 (by decide)
  have eU : U.1 0 = S.1 0 := u1.1 0 (by decide)
  have eU1 : (tg8 U).1 1 = S.1 1 := u1.1 1 (by decide)
  have g0 := hgw.1 0 (by omega); have g1 := hgw.1 1 (by omega); have g7 := hgw.1 7 (by omega)
  have j0 : T.1 0 ≤ 6000 := hJ.1
  have j4 : T.1 4 ≤ 40 := hJ.2.2.2.2.1
  have j5 : T.1 5 ≤ 54 := hJ.2.2.2.2.2.1
  have j7 : T.1 7 ≤ 3040 := hJ.2.2.2.2.2.2.1
  have r20 : ∀ t : Nat, t < T.1 7 → Z.2 20 t = T.2 20 t := fun t ht => hgw.2.2.2.2 20 (by omega) (by omega) t ht
  have r22 : ∀ t : Nat, t < T.1 7 → Z.2 22 t = T.2 22 t := fun t ht => hgw.2.2.2.2 22 (by omega) (by omega) t ht
  have hab : S.1 0 < T.1 0 := by
    rcases Nat.lt_or_ge (S.1 0) (T.1 0) with c | c
    · exact c
    · rw [show T.1 0 = S.1 0 by omega, e1] at e2; exact absurd e2 (by simp)
  obtain ⟨v1, v2, v3⟩ := u2.2.2.2.2.1
  have hvc := vcN_le (f := T.2 15) (T.1 4)
  have hvt := u2.2.2.1
  have hsz : ∀ v : Nat, v < T.1 4 → T.2 15 v ≠ -1 → vSz T v = cN (Z.2 22 (cN (T.2 15 v))) := fun v hv hne => by
    obtain ⟨u, q1, q2⟩ := (hvt v hv).resolve_left hne
    have hu : u < T.1 7 := q2.2
    unfold vSz
    rw [q1, cN_nI (by omega), r22 u hu]
  have hpar : ∀ v : Nat, v < G g 0 → T.2 15 v = nI (G g (v + 2)) ∧ T.2 17 v = U.2 17 v ∧ G g (v + 2) < S.1 7 := fun v hv => by
    obtain ⟨⟨h1, h2⟩, h3⟩ := hhd v hv
    obtain ⟨-, -, -, tx, -⟩ := u3.1.2.2.2.2.2 v (by omega)
    have e15 : (tg8 U).2 15 v = nI (G g (v + 2)) := by
      show U.2 15 v = _
      rw [u1.2.1 15 (by decide) (by decide)]; exact h1
    obtain ⟨t1, t2⟩ := tx (by rw [e15]; exact nI_ne1 (by omega))
    exact ⟨t1.trans e15, t2, h2⟩
  have hgs : ∀ n : Nat, n ≤ G g 0 → vSm S n = gSm Z T n := fun n => by
    induction n with
    | zero => exact fun _ => rfl
    | succ n ih =>
      intro hn
      obtain ⟨⟨h1, h2⟩, h3⟩ := hhd n (by omega)
      have e22 : T.2 22 (G g (n + 2)) = S.2 22 (G g (n + 2)) := by
        rw [u3.1.2.2.2.2.1 22 (by omega) (by omega) _ (by omega)]
        show U.2 22 _ = _
        rw [u1.2.1 22 (by decide) (by decide)]
      show vSm S n + vSz S n = gSm Z T n + cN (Z.2 22 (cN (T.2 15 n)))
      rw [ih (by omega), (hpar n (by omega)).1]
      unfold vSz
      rw [h1, cN_nI (by omega), r22 _ (by omega), e22]
  refine ⟨T, S.1 0, T.1 0, S.1 1, T.1 1, k, ⟨⟨hab, j0, by omega, by omega, j4, j5, by omega⟩, ⟨u5, u6, u7, u8, x7, x13, x8, hy⟩, ⟨fun i h1 h2 => ⟨(e3 i h1 h2).1.1, fun s hs => ?_⟩, j0, fun i h1 h2 hl => ?_⟩, fun i s h1 h2 hs => ⟨eb i h1 (by omega) s hs, ?_⟩, ⟨e1, e2⟩, fun i h1 h2 h3 => ?_, fun i h1 h2 hl => ?_, ⟨fun i h1 h2 h4 => ?_, fun i j h1 h2 h3 h4 h5 h6 h7 => ?_⟩, fun v hv => ?_, ⟨fun v hv hne => ?_, fun v w hv hw hvw hnv hnw => ?_⟩, ?_, ?_, fun v hv => ?_⟩, hgw, hJ⟩
  · obtain ⟨o, w1, w2⟩ := (e3 i h1 h2).2 s hs
    exact ⟨o, w1, w2.1⟩
  · obtain ⟨L, l1, l2, l3⟩ := a2 i (by omega) hl
    exact ⟨L, by omega, l2, l3⟩
  · obtain ⟨o, w1, w2⟩ := (e3 i h1 h2).2 s hs
    exact w2.2
  · obtain ⟨L, m, q1, q2, q3, q4⟩ := hd i h1 h2 h3
    exact ⟨L, m, q1, by omega, q3, q4⟩
  · rw [hgw.2.1 0 (by decide) i h2] at hl
    obtain ⟨L, q1, q2, q3⟩ := u3.2.1.1 i (by omega) h2 hl
    exact ⟨L, q1, q2, (hgw.2.1 1 (by decide) i h2).trans q3⟩
  · rw [hgw.2.1 0 (by decide) i h2] at h4
    obtain ⟨c, c1, c2⟩ := u2.2.2.2.2.2.2.1 i (by omega) h2 h4
    exact ⟨c, (hgw.2.1 2 (by decide) i h2).trans c1, c2⟩
  · rw [hgw.2.1 0 (by decide) i h2] at h5
    rw [hgw.2.1 0 (by decide) j h4] at h6
    rw [hgw.2.1 2 (by decide) i h2, hgw.2.1 2 (by decide) j h4] at h7
    exact u2.2.2.2.2.2.2.2 i j (by omega) h2 (by omega) h4 h5 h6 h7
  · rcases hvt v hv with z | ⟨u, q1, q2⟩
    · exact Or.inl z
    · exact Or.inr ⟨u, q1, tyV_up q2 r20 g7⟩
  · rw [← hsz v hv hne]; exact v1 v hv hne
  · rw [← hsz v hv hnv, ← hsz w hw hnw]; exact v2 v w hv hw hvw hnv hnw
  · rcases Nat.eq_zero_or_pos (G g 0) with c | c
    · omega
    · have := (hhd 0 c).2
      omega
  · rw [u4, u1.2.2.2.2.2.2.1, hgs _ (Nat.le_refl _)]
  · obtain ⟨p1, p2, p3⟩ := hpar v hv
    refine ⟨p1, ?_, by omega⟩
    rw [p2, u1.2.2.2.2.2.2.2 v hv, hgs v (by omega)]
end
-- h0.r2.lean.txt
section
/-- j may come behind i -/
def sc1 (F : tF) (a b i j : Nat) : Prop := ∃ o : Nat, F 0 i = nI o ∧ o < 33 ∧ (((o ≠ 15 ∧ o ≠ 16 ∧ o ≠ 20 ∧ o ≠ 22) ∧ j = i + 1) ∨ ((o = 16 ∨ o = 17 ∨ o = 18 ∨ o = 19) ∧ i < j ∧ j < b ∧ F 0 j = 13 ∧ F 1 j = F 1 i) ∨ (o = 15 ∧ a ≤ j ∧ j ≤ i ∧ F 0 j = 14 ∧ F 1 j = F 1 i) ∨ (o = 20 ∧ ∃ tc c g : Nat, F 1 i = nI tc ∧ tc ≤ 3002 ∧ F 3 i = nI c ∧ c ≤ 12 ∧ g < c ∧ F 13 (tc + g) = F 1 j ∧ i < j ∧ j < b ∧ F 0 j = 13))
/-- a way leads from a to i -/
def rch (F : tF) (a b i : Nat) : Prop := ∀ P : Nat → Prop, P a → (∀ m n : Nat, P m → sc1 F a b m n → P n) → P i
theorem rch_0 {F : tF} {a b : Nat} : rch F a b a := fun _ h _ => h
theorem rch_S {F : tF} {a b i j : Nat} (h : rch F a b i) (hs : sc1 F a b i j) : rch F a b j := fun P h0 hS => hS i j (h P h0 hS) hs
def gdE (F : tF) (yp yt : Nat) (e : tE) : Prop := (e.1 = 0 → e.2.1 = 0 ∨ (tyN yp (F 20) e.2.1 ∧ e.2.1 < yt)) ∧ ((e.1 = 1 ∨ e.1 = 2) → tyN yp (F 20) e.2.1 ∧ e.2.1 < yt ∧ e.2.2 < 64)
theorem gd_c {F : tF} {yp yt : Nat} {e : tE} {s : List tE} (h : gd F yp yt s) (he : gdE F yp yt e) : gd F yp yt (e :: s) := fun x hx => by
  rcases List.mem_cons.mp hx with q | q
  · rw [q]; exact he
  · exact h x q
theorem gd_sub {F : tF} {yp yt : Nat} {s s2 : List tE} (h : gd F yp yt s) (hs : ∀ e : tE, e ∈ s2 → e ∈ s) : gd F yp yt s2 := fun x hx => h x (hs x hx)
theorem gd_t {F : tF} {yp yt : Nat} {e : tE} {s : List tE} (h : gd F yp yt (e :: s)) : gd F yp yt s := gd_sub h (fun _ hx => List.mem_cons_of_mem _ hx)
theorem gd_a {F : tF} {yp yt : Nat} {E s : List tE} (h : gd F yp yt (E ++ s)) : gd F yp yt s := gd_sub h (fun _ hx => List.mem_append_right _ hx)
theorem gdE_3 {F : tF} {yp yt : Nat} {e : tE} (h : 3 ≤ e.1) : gdE F yp yt e := ⟨fun q => by omega, fun q => by omega⟩
theorem gdE_0 {F : tF} {yp yt T m : Nat} (h : T = 0 ∨ (tyN yp (F 20) T ∧ T < yt)) : gdE F yp yt (0, T, m) := ⟨fun _ => h, fun q => by
  have q : (0 : Nat) = 1 ∨ (0 : Nat) = 2 := q
  omega⟩
theorem gdE_r {F : tF} {yp yt q T m : Nat} (hq : q = 1 ∨ q = 2) (h : tyN yp (F 20) T ∧ T < yt) (hm : m < 64) : gdE F yp yt (q, T, m) := ⟨fun e => by
  have e : q = 0 := e
  omega, fun _ => ⟨h.1, h.2, hm⟩⟩
section
variable {F X : tF} {G : Nat → Nat → Nat} {rs a b yp yt i j o : Nat} {k : Nat → Option (List tE)} {s : List tE}
theorem gdE_12 (hy : 34 ≤ yt) {T : Nat} (hT : T = 1 ∨ T = 2) : gdE F yp yt (0, T, 0) := gdE_0 (Or.inr ⟨Or.inl (by omega), by omega⟩)
theorem gdE_s (hy : 34 ≤ yt) {sh : Nat} (hp : yp ≤ 30) (hsh : sh < yp) : gdE F yp yt (0, 4 + sh, 0) := gdE_0 (Or.inr ⟨Or.inr (Or.inl ⟨by omega, by omega⟩), by omega⟩)
theorem gdE_p (hy : 34 ≤ yt) {n sh : Nat} {sn : Int32} (hp : yp ≤ 30) (hsh : sh < yp) : gdE F yp yt (pE n sh sn) := by
  unfold pE
  by_cases c : sn = ((1 : Int32) <<< (nI n &&& 31)) - 1
  · rw [if_pos c]; exact gdE_s hy hp hsh
  · rw [if_neg c]; exact gdE_3 (show 3 ≤ 7 by decide)
theorem gdE_t (tb : tbO F X yp yt) (hkd : ∀ t : Nat, t < 3040 → (F 20 t = 4 ∨ F 20 t = 5 ∨ F 20 t = 6) → 34 ≤ t ∧ t < yt) {T : Nat} (hT : T = 0 ∨ tyV yp yt (F 20) T) : gdE F yp yt (tNf F T) := by
  have hy : 34 ≤ yt := tb.1.1
  have h30 : yt ≤ 3040 := tb.1.2.1
  unfold tNf
  by_cases c3 : T = 3
  · rw [if_pos c3]; exact gdE_12 hy (Or.inl rfl)
  · rw [if_neg c3]
    have h0 : F 20 0 = 0 := tb.1.2.2.2.1.1
    have key : (F 20 T = 5 ∨ F 20 T = 6) → tyN yp (F 20) (cN (F 21 T)) ∧ cN (F 21 T) < yt := fun h => by
      rcases hT with rfl | hT
      · rw [h0] at h; rcases h with q | q <;> exact absurd q (by decide)
      · have hT7 := hT.2
        have h34 := hkd T (by omega) (by rcases h with q | q; exact Or.inr (Or.inl q); exact Or.inr (Or.inr q))
        obtain ⟨U, w1, w2, w3⟩ := ty_of tb h34.1 h34.2
        rw [w2, cN_nI (by omega)]
        exact ⟨w3, by omega⟩
    by_cases c5 : F 20 T = 5
    · rw [if_pos c5]; exact gdE_r (Or.inl rfl) (key (Or.inl c5)) (by decide)
    · rw [if_neg c5]
      by_cases c6 : F 20 T = 6
      · rw [if_pos c6]; exact gdE_r (Or.inr rfl) (key (Or.inr c6)) (by decide)
      · rw [if_neg c6]
        refine gdE_0 ?_
        rcases hT with hT | ⟨hT | ⟨-, q | q⟩, hT7⟩
        · exact Or.inl hT
        · exact Or.inr ⟨hT, hT7⟩
        · exact absurd q c5
        · exact absurd q c6
/-- the type of a place is one of the table -/
theorem pl_tyV (tb : tbO F X yp yt) (hv : ∀ w : Nat, w < 40 → F 15 w ≠ -1 → ∃ T0 : Nat, F 15 w = nI T0 ∧ tyV yp yt (F 20) T0) {p v n T : Nat} {pa ro mu : Int32} (hp : plI F X p v n T pa ro mu) : tyV yp yt (F 20) T := by
  have hne : F 15 v ≠ -1 := pl_ne n pa ro T mu hp.2.2.2.1 hp.2.2.2.2.2.2.2.2.2.2
  obtain ⟨T0, f1, f2⟩ := hv v hp.2.1 hne
  obtain ⟨ds, os, o, -, -, q⟩ := pG_of tb f1 f2 hp
  rcases q with ⟨-, -, -, q1, q3, q2, q4⟩ | ⟨-, d⟩ | ⟨-, -, -, -, U, ds', os', -, -, -, -, d⟩
  · rw [q1]; exact ⟨Or.inr ⟨q3, q4⟩, q2⟩
  · exact ⟨Or.inl d.2.2.2.2.1, d.2.2.2.2.2⟩
  · exact ⟨Or.inl d.2.2.2.2.1, d.2.2.2.2.2⟩
theorem gd_f (tb : tbO F X yp yt) (hsh : ∀ sh : Nat, sh < 30 → (F 20 (4 + sh) = 2 ∨ F 20 (4 + sh) = 3) → sh < yp) (hkd : ∀ t : Nat, t < 3040 → (F 20 t = 4 ∨ F 20 t = 5 ∨ F 20 t = 6) → 34 ≤ t ∧ t < yt) (hv : ∀ w : Nat, w < 40 → F 15 w ≠ -1 → ∃ T0 : Nat, F 15 w = nI T0 ∧ tyV yp yt (F 20) T0) (hG : ∀ g : Nat, g < 40 → G g 1 < 3040 → G g 1 = 0 ∨ tyV yp yt (F 20) (G g 1)) {J K : Int32 → List tE → Prop} (hg : gd F yp yt s) : ∀ o : Nat, iOp F X G rs k J K i s o → (o ≠ 15 ∧ o ≠ 16 ∧ o ≠ 20 ∧ o ≠ 22) → ∃ s2 : List tE, k (i + 1) = some s2 ∧ gd F yp yt s2
  | 0, h, _ => by
    obtain ⟨T, hT, e⟩ := h
    exact ⟨_, e, gd_c hg (gdE_12 tb.1.1 hT)⟩
  | 1, h, _ => ⟨_, h, gd_c hg (gdE_12 tb.1.1 (Or.inl rfl))⟩
  | 2, h, _ => by
    obtain ⟨p, T, mu, -, ⟨v, n, pa, ro, h2⟩, -, e⟩ := h
    exact ⟨_, e, gd_c hg (gdE_t tb hkd (Or.inr (pl_tyV tb hv h2)))⟩
  | 3, h, _ => by
    obtain ⟨p, T, -, ⟨v, n, pa, ro, mu, h2, -⟩, -, -, e⟩ := h
    exact ⟨_, e, gd_c hg (gdE_t tb hkd (Or.inr (pl_tyV tb hv h2)))⟩
  | 4, h, _ => by
    obtain ⟨p, T, c, m, mu, -, ⟨v, n, pa, ro, h2⟩, h5, h6, -, hc, hm, e⟩ := h
    have hT := pl_tyV tb hv h2
    have hN : tyN yp (F 20) T ∧ T < yt := ⟨by
      rcases hT.1 with q | ⟨-, q | q⟩
      · exact q
      · exact absurd q h5
      · exact absurd q h6, hT.2⟩
    rcases e with ⟨-, e⟩ | ⟨-, -, e⟩
    · exact ⟨_, e, gd_c hg (gdE_r (Or.inl rfl) hN (by omega))⟩
    · exact ⟨_, e, gd_c hg (gdE_r (Or.inr rfl) hN (by omega))⟩
  | 5, h, _ => ⟨_, h.2, hg⟩
  | 6, h, _ => ⟨_, h.2, hg⟩
  | 7, h, _ => by
    obtain ⟨x, y, z, r, -, -, hz, hs, e⟩ := h
    rw [hs] at hg
    exact ⟨_, e, gd_c (gd_t (gd_t hg)) (gdE_12 tb.1.1 hz)⟩
  | 8, h, _ => by
    obtain ⟨T, U, r, -, -, -, hU, hU4, -, -, -, hs, e⟩ := h
    rw [hs] at hg
    obtain ⟨q1, q2⟩ := hkd U hU (Or.inl hU4)
    exact ⟨_, e, gd_c (gd_t hg) (gdE_0 (Or.inr ⟨Or.inr (Or.inr ⟨q1, hU4⟩), q2⟩))⟩
  | 9, h, _ => by
    obtain ⟨sh, n, h1, h2, -, -, -, e⟩ := h
    exact ⟨_, e, gd_c hg (gdE_p tb.1.1 tb.1.2.2.1 (hsh sh h1 (Or.inl h2)))⟩
  | 10, h, _ => by
    obtain ⟨sh, j, n, sn, r, h1, h2, -, -, -, -, -, -, -, hs, e⟩ := h
    rw [hs] at hg
    exact ⟨_, e, gd_c (gd_t (gd_t hg)) (gdE_p tb.1.1 tb.1.2.2.1 (hsh sh h1 (Or.inl h2)))⟩
  | 11, h, _ => by
    obtain ⟨g, -, -, e⟩ := h
    exact ⟨_, e, gd_c hg (gdE_3 (show 3 ≤ 3 by decide))⟩
  | 12, h, _ => by
    obtain ⟨sh, g, n, r, h1, h2, -, -, -, -, -, -, hs, e⟩ := h
    rw [hs] at hg
    exact ⟨_, e, gd_c (gd_t (gd_a hg)) (gdE_s tb.1.1 tb.1.2.2.1 (hsh sh h1 (Or.inr h2)))⟩
  | 13, h, _ => ⟨_, h, hg⟩
  | 14, h, _ => ⟨_, h, hg⟩
  | 15, _, q => absurd rfl q.1
  | 16, _, q => absurd rfl q.2.1
  | 17, h, _ => by
    obtain ⟨r, hs, e, -⟩ := h
    rw [hs] at hg
    exact ⟨_, e.1, gd_t hg⟩
  | 18, h, _ => by
    obtain ⟨r, hs, e, -⟩ := h
    rw [hs] at hg
    exact ⟨_, e, gd_t hg⟩
  | 19, h, _ => by
    obtain ⟨r, hs, e, -⟩ := h
    rw [hs] at hg
    exact ⟨_, e, gd_t hg⟩
  | 20, _, q => absurd rfl q.2.2.1
  | 21, h, _ => by
    obtain ⟨g, r, h1, -, hs, e⟩ := h
    rw [hs] at hg
    exact ⟨_, e, gd_c (gd_a hg) (gdE_t tb hkd (hG g h1.1 h1.2))⟩
  | 22, _, q => absurd rfl q.2.2.2
  | 23, h, _ => ⟨_, h, hg⟩
  | 24, h, _ => by
    obtain ⟨v, T, r, -, -, -, -, -, -, hs, e⟩ := h
    rw [hs] at hg
    exact ⟨_, e, gd_c (gd_t hg) (gdE_3 (show 3 ≤ 8 by decide))⟩
  | 25, h, _ => by
    obtain ⟨v, -, -, -, -, e⟩ := h
    exact ⟨_, e, gd_c hg (gdE_3 (show 3 ≤ 8 by decide))⟩
  | 26, h, _ => by
    obtain ⟨p, v, n, T, pa, ro, mu, r, -, -, -, hs, e⟩ := h
    rw [hs] at hg
    exact ⟨_, e, gd_t hg⟩
  | 27, h, _ => by
    obtain ⟨T, r, -, -, hs, e⟩ := h
    rw [hs] at hg
    exact ⟨_, e, gd_t hg⟩
  | 28, h, _ => by
    obtain ⟨T, r, -, -, hs, e⟩ := h
    rw [hs] at hg
    exact ⟨_, e, gd_t hg⟩
  | 29, h, _ => by
    obtain ⟨v, sh, g, j, n, T, r, -, -, -, -, -, -, -, -, -, -, -, -, -, -, hs, e⟩ := h
    rw [hs] at hg
    exact ⟨_, e, gd_c (gd_c (gd_t hg) (gdE_3 (show 3 ≤ 8 by decide))) (gdE_3 (show 3 ≤ 4 by decide))⟩
  | 30, h, _ => by
    obtain ⟨v, sh, g, j, n, T, c, q, r, -, -, -, -, -, -, -, -, hq, -, -, -, -, -, -, -, -, hs, e⟩ := h
    rw [hs] at hg
    exact ⟨_, e, gd_c (gd_c (gd_t hg) (gdE_3 (show 3 ≤ 8 by decide))) (gdE_3 (show 3 ≤ q + 4 by omega))⟩
  | 31, h, _ => by
    obtain ⟨r0, q, m, r, hs, -, e⟩ := h
    rw [hs] at hg
    exact ⟨_, e, gd_t hg⟩
  | 32, h, _ => by
    obtain ⟨v0, v1, O, r, -, -, -, -, hs, -, -, e⟩ := h
    rw [hs] at hg
    exact ⟨_, e, gd_a hg⟩
  | n + 33, h, _ => absurd h id
theorem gd_st (hc : ceI F X G rs a b k) (hkb : k b = none) (tb : tbO F X yp yt) (hsh : ∀ sh : Nat, sh < 30 → (F 20 (4 + sh) = 2 ∨ F 20 (4 + sh) = 3) → sh < yp) (hkd : ∀ t : Nat, t < 3040 → (F 20 t = 4 ∨ F 20 t = 5 ∨ F 20 t = 6) → 34 ≤ t ∧ t < yt) (hv : ∀ w : Nat, w < 40 → F 15 w ≠ -1 → ∃ T0 : Nat, F 15 w = nI T0 ∧ tyV yp yt (F 20) T0) (hG : ∀ g : Nat, g < 40 → G g 1 < 3040 → G g 1 = 0 ∨ tyV yp yt (F 20) (G g 1)) (ha : a ≤ i) (hb : i < b) (hs : k i = some s) (hg : gd F yp yt s) (hij : sc1 F a b i j) : a ≤ j ∧ j < b ∧ ∃ s2 : List tE, k j = some s2 ∧ gd F yp yt s2 := by
  obtain ⟨o, ho, h33, hj⟩ := hij
  have hce := ce_op hc ha hb hs ho h33
  have jmp : ∀ (x : Int32) (y : List tE), False ∨ tJm F G k i b x y → i < j → j < b → F 0 j = 13 → F 1 j = x → k j = some y := fun x y h h1 h2 h3 h4 => by
    obtain ⟨m, ⟨m1, -⟩, m2, m3, m4, m5⟩ := h.resolve_left id
    have e := ce_one hc (by omega) h2 (Or.inl h3) (by omega) m2 (Or.inl m3) h4 m4
    rw [e]; exact m5
  rcases hj with ⟨hn, rfl⟩ | ⟨hn, h1, h2, h3, h4⟩ | ⟨rfl, h1, h2, h3, h4⟩ | ⟨rfl, tc, c, g, t1, t2, t3, t4, t5, t6, h1, h2, h3⟩
  · obtain ⟨s2, e1, e2⟩ := gd_f tb hsh hkd hv hG hg o hce hn
    refine ⟨by omega, ?_, s2, e1, e2⟩
    rcases Nat.lt_or_ge (i + 1) b with q | q
    · exact q
    · rw [show i + 1 = b by omega, hkb] at e1; exact absurd e1 (by simp)
  · refine ⟨by omega, h2, ?_⟩
    rcases hn with rfl | rfl | rfl | rfl
    · exact ⟨_, jmp _ _ hce.2 h1 h2 h3 h4, hg⟩
    · obtain ⟨r, e1, -, e3⟩ := hce
      rw [e1] at hg
      exact ⟨_, jmp _ _ e3 h1 h2 h3 h4, gd_t hg⟩
    · obtain ⟨r, e1, -, e3⟩ := hce
      exact ⟨_, jmp _ _ e3 h1 h2 h3 h4, hg⟩
    · obtain ⟨r, e1, -, e3⟩ := hce
      exact ⟨_, jmp _ _ e3 h1 h2 h3 h4, hg⟩
  · obtain ⟨-, m, m1, m2, m3, m4, m5⟩ := hce
    have e := ce_one hc h1 (by omega) (Or.inr h3) m1 (by omega) (Or.inr m3) h4 m4
    exact ⟨h1, by omega, s, by rw [e]; exact m5, hg⟩
  · obtain ⟨sh, n, tb9, r, -, -, -, n12, e1, e2, ⟨e3, -⟩, e4⟩ := hce
    have et : tc = tb9 := (nI_eq (by omega) (by omega)).mp (t1.symm.trans e1)
    have en : c = n := (nI_eq (by omega) (by omega)).mp (t3.symm.trans e3)
    subst et en
    refine ⟨by omega, h2, ?_⟩
    rcases e4 with ⟨f1, -, f3⟩ | ⟨q, m, hq, f1, -, f3⟩
    · rw [f1] at hg
      exact ⟨_, jmp _ _ (f3 g t5) h1 h2 h3 t6.symm, gd_c (gd_t hg) (gdE_3 (show 3 ≤ 4 by decide))⟩
    · rw [f1] at hg
      exact ⟨_, jmp _ _ (f3 g t5) h1 h2 h3 t6.symm, gd_c (gd_t hg) (gdE_3 (show 3 ≤ q + 4 by omega))⟩
/-- along ways from the beginning -/
theorem gd_rch (hc : ceI F X G rs a b k) (hkb : k b = none) (hka : k a = some s) (hab : a < b) (hg : gd F yp yt s) (tb : tbO F X yp yt) (hsh : ∀ sh : Nat, sh < 30 → (F 20 (4 + sh) = 2 ∨ F 20 (4 + sh) = 3) → sh < yp) (hkd : ∀ t : Nat, t < 3040 → (F 20 t = 4 ∨ F 20 t = 5 ∨ F 20 t = 6) → 34 ≤ t ∧ t < yt) (hv : ∀ w : Nat, w < 40 → F 15 w ≠ -1 → ∃ T0 : Nat, F 15 w = nI T0 ∧ tyV yp yt (F 20) T0) (hG : ∀ g : Nat, g < 40 → G g 1 < 3040 → G g 1 = 0 ∨ tyV yp yt (F 20) (G g 1)) (h : rch F a b i) : a ≤ i ∧ i < b ∧ ∃ s2 : List tE, k i = some s2 ∧ gd F yp yt s2 := by
  refine h (fun i => a ≤ i ∧ i < b ∧ ∃ s2 : List tE, k i = some s2 ∧ gd F yp yt s2) ⟨Nat.le_refl _, hab, s, hka, hg⟩ (fun m n hm hs => ?_)
  obtain ⟨m1, m2, s2, m3, m4⟩ := hm
  exact gd_st hc hkb tb hsh hkd hv hG m1 m2 m3 m4 hs
end
end
-- h0.r3.lean.txt
section
/-- the table of types told by other rows of kinds that agree on it -/
theorem tyN_cg {yp yt u : Nat} {ak gk : Nat → Int32} (h : tyN yp ak u) (hu : u < yt) (he : ∀ t : Nat, t < yt → gk t = ak t) : tyN yp gk u := tyN_up h hu he
theorem tyOK_cg {yp yt : Nat} {ak gk ao az ad ab ah au : Nat → Int32} (h : tyOK yp (yt, ak, ao, az, ad, ab, ah, au)) (he : ∀ t : Nat, t < yt → gk t = ak t) : tyOK yp (yt, gk, ao, az, ad, ab, ah, au) := by
  obtain ⟨a1, a2, a3, ⟨b1, b2, b3, b4⟩, c1, ⟨d1, d2, d3, d4, d5⟩, e1, f1, g1⟩ := h
  have qc : ∀ {kd : Int32} {f : Nat → Int32} {j : Nat}, tyC kd yt ak ao f j → tyC kd yt gk ao f j := fun {kd f j} h => by
    rcases h with h | ⟨r, h1, h2, h3, h4, h5⟩
    · exact Or.inl h
    · exact Or.inr ⟨r, h1, h2, h3, (he r h2).trans h4, h5⟩
  refine ⟨a1, a2, a3, ⟨by rw [he 0 (by omega)]; exact b1, by rw [he 1 (by omega)]; exact b2, by rw [he 2 (by omega)]; exact b3, by rw [he 3 (by omega)]; exact b4⟩, c1, ⟨d1, d2, d3, d4, fun s h1 h2 => by rw [he (4 + s) (by omega)]; exact d5 s h1 h2⟩, fun s hs => by rw [he (4 + s) (by omega)]; exact e1 s hs, fun t h1 h2 => ?_, fun j hj => ⟨qc (g1 j hj).1, qc (g1 j hj).2.1, qc (g1 j hj).2.2⟩⟩
  obtain ⟨x1, x2, x3, u, x4, x5, x6⟩ := f1 t h1 h2
  rw [he t h2]
  exact ⟨x1, x2, x3, u, x4, x5, tyN_cg x6 (by omega) he⟩
theorem shQ_cg {yp yt : Nat} {ak gk : Nat → Int32} {X : tF} (h : shQ yp yt ak X) (h34 : 34 ≤ yt) (h30 : yp ≤ 30) (he : ∀ t : Nat, t < yt → gk t = ak t) : shQ yp yt gk X := shQ_up h (Nat.le_refl _) he h34 h30
theorem lyP_cq {hd r : Nat} {fs gs fpt : Nat → Int32} : ∀ n : Nat, (∀ k : Nat, k < n → szP gs fpt (r * 12 + k) = szP fs fpt (r * 12 + k)) → lyP hd r gs fpt n = lyP hd r fs fpt n
  | 0, _ => rfl
  | n + 1, h => by
    show min (lyP hd r gs fpt n + szP gs fpt (r * 12 + n)) 17 = min (lyP hd r fs fpt n + szP fs fpt (r * 12 + n)) 17
    rw [lyP_cq n (fun k hk => h k (by omega)), h n (by omega)]
/-- sizes and layout, told by rows that agree on the types of parts -/
theorem msI_cg {yp yt : Nat} {ak gk fs gs : Nat → Int32} {X : tF} (h : msI yp ak (X 0) (X 1) fs (X 2) (X 3)) (hq : shQ yp yt ak X) (h34 : 34 ≤ yt) (h30 : yp ≤ 30) (hy : yt ≤ 3040) (he : ∀ t : Nat, t < yt → gk t = ak t ∧ gs t = fs t) : msI yp gk (X 0) (X 1) gs (X 2) (X 3) := fun a ha => by
  rw [(he (4 + a) (by omega)).1, (he (4 + a) (by omega)).2]
  rcases h a ha with q | ⟨mo, m1, m2, m3⟩
  · exact Or.inl q
  · refine Or.inr ⟨mo, m1, m2, fun j hj => ?_⟩
    obtain ⟨n, n1, n2, n3, n4, n5⟩ := hq a ha
    have hjn : j < n := by
      have hj : j < (X 0 a).toNatClampNeg := hj
      rw [n1, nI_clamp (by omega)] at hj; exact hj
    obtain ⟨m, p1, p2, p3⟩ := n5 j hjn
    have hsz : ∀ k : Nat, k < pcR (X 1) (a * 12 + j) → szP gs (X 2) ((a * 12 + j) * 12 + k) = szP fs (X 2) ((a * 12 + j) * 12 + k) := fun k hk => by
      have hk : k < (X 1 (a * 12 + j)).toNatClampNeg := hk
      rw [p1, nI_clamp (by omega)] at hk
      obtain ⟨u, u1, u2, u3⟩ := p3 k hk
      unfold szP
      rw [u1, nI_clamp (by omega), (he u u3).2]
    obtain ⟨q1, q2⟩ := m3 j hj
    refine ⟨?_, fun k hk => ?_⟩
    · rw [lyP_cq _ hsz]; exact q1
    · rw [lyP_cq k (fun m hm => hsz m (by omega)), hsz k hk]; exact q2 k hk
theorem gF_tb {yp nb tt : Nat} {X : tF} {G : Nat → Nat → Nat} {lo : Nat → Nat} {fc : Nat → Nat → Int32} {fr : Nat → Nat → Nat → Int32} {Z T : tgS} (hp : pgI yp nb tt nb X G lo fc fr Z) (hsz : szI yp yp (X 5)) (hms : msI yp (X 7) (X 0) (X 1) (X 5) (X 2) (X 3)) (hsq : shQ yp (cN (X 6 0)) (X 7) X) (h34 : 34 ≤ cN (X 6 0)) : tbO (gF Z T) X yp (Z.1 7) := by
  obtain ⟨a1, a2, a3, a4, -, -, a7, a8⟩ := hp
  have h7 : Z.1 7 ≤ 3040 := a1.2.1
  have h30 : yp ≤ 30 := a1.2.2.1
  have hZ34 : 34 ≤ Z.1 7 := a1.1
  have e20 : ∀ t : Nat, t < Z.1 7 → gF Z T 20 t = Z.2 20 t := fun t ht => gF_20 ht
  refine ⟨tyOK_cg (ak := Z.2 20) a1 e20, shQ_cg a3 hZ34 h30 e20, fun s hs => ?_, msI_cg (ak := X 7) (fs := X 5) hms hsq h34 h30 (by omega) (fun t ht => ⟨(e20 t (by omega)).trans (a8 t ht).2, (a8 t ht).1⟩)⟩
  obtain ⟨z, z1, z2⟩ := hsz s hs
  exact ⟨z, ((a8 (4 + s) (by omega)).1).trans z1, z2⟩
section
variable {F X : tF} {G : Nat → Nat → Nat} {rs a b : Nat} {k : Nat → Option (List tE)}
theorem al_nx {i o : Nat} {s : List tE} (hc : ceI F X G rs a b k) (hkb : k b = none) (hi : a ≤ i) (hb : i < b) (hs : k i = some s) (ho : F 0 i = nI o) (h33 : o < 33) (hn : o ≠ 15 ∧ o ≠ 16 ∧ o ≠ 20 ∧ o ≠ 22) : a ≤ i + 1 ∧ i + 1 < b ∧ ∃ r : List tE, k (i + 1) = some r := by
  cases e9 : k (i + 1) with
  | some r =>
    refine ⟨by omega, ?_, r, rfl⟩
    rcases Nat.lt_or_ge (i + 1) b with q | q
    · exact q
    · rw [show i + 1 = b by omega, hkb] at e9; simp at e9
  | none =>
    exfalso
    have q := iOp_nx e9 o (ce_op hc hi hb hs ho h33)
    omega
/-- Moves' last pass -/
theorem mvW_of {n : Nat} {et em az : Nat → Int32} {h : Nat → mvT} (hc : ceI F X G rs a b k) (hn : n ≤ 40) (hab : a ≤ b) (hka : ∃ r : List tE, k a = some r) (htr : ∀ i : Nat, a ≤ i → i < b → mvR F n et em az i (h i) (h (i + 1))) (hrc : rcK F k a b (h a).2.2.1) (hag : (h b).2.2.2.2.1 = 0) (hfi : (h b).2.2.2.2.2 < 0) : mvW F X G rs a b k n et em az h := by
  have key : ∀ d i : Nat, i = a + d → i ≤ b → ((h i).2.2.2.1 ≠ 0 → ∃ s : List tE, k i = some s) ∧ rcK F k a b (h i).2.2.1 := fun d => by
    induction d with
    | zero =>
      intro i e _
      have e : i = a := e
      rw [e]; exact ⟨fun _ => hka, hrc⟩
    | succ d ih =>
      intro i e hib
      obtain ⟨q1, q2⟩ := ih (a + d) rfl (by omega)
      have hi : i = (a + d) + 1 := by omega
      rw [hi]
      exact fl_K hc (by omega) (by omega) (mvR_al hn (hc.1 (a + d) (by omega) (by omega)).1 (htr (a + d) (by omega) (by omega))).2.1 q1 q2
  exact ⟨hc, hn, htr, fun i h1 h2 => (key (i - a) i (by omega) (by omega)).1, hag, hfi⟩
/-- Loans' last pass -/
theorem lnW_of {C : lnC} {Q : lnQ} {h : Nat → lnT} (hc : ceI F X G rs a b k) (hv : ∀ (i : Nat) (s : List tE), a ≤ i → i < b → k i = some s → vl s ≤ 211) (hn : C.2.2.2.2.2 ≤ 40) (hab : a ≤ b) (hka : ∃ r : List tE, k a = some r) (htr : ∀ i : Nat, a ≤ i → i < b → lnR F C Q i (h i) (h (i + 1))) (hrc : rcK F k a b (h a).2.2.1) (hG : ∀ g : Nat, g < Q.2.2.2.2.2.1 → Q.2.2.2.2.2.2.1 g 3 = nI (G g 0) ∧ G g 0 ≤ 12) (h40 : Q.2.2.2.2.2.1 ≤ 40) (ht0 : lnN (h a) = 0) (hag : (h b).2.2.2.2.1 = 0) : lnW F X G rs a b k C Q h := by
  have key : ∀ d i : Nat, i = a + d → i ≤ b → ((h i).2.2.2.1 ≠ 0 → ∃ s : List tE, k i = some s) ∧ rcK F k a b (h i).2.2.1 := fun d => by
    induction d with
    | zero =>
      intro i e _
      have e : i = a := e
      rw [e]; exact ⟨fun _ => hka, hrc⟩
    | succ d ih =>
      intro i e hib
      obtain ⟨q1, q2⟩ := ih (a + d) rfl (by omega)
      have hi : i = (a + d) + 1 := by omega
      rw [hi]
      exact lnR_K hc hn (by omega) (by omega) (htr (a + d) (by omega) (by omega)) q1 q2
  exact ⟨hc, hv, hn, htr, fun i h1 h2 => (key (i - a) i (by omega) (by omega)).1, fun i h1 h2 => (key (i - a) i (by omega) (by omega)).2, hG, h40, ht0, hag⟩
/-- where Loans had nothing to look at -/
def N0 (F : tF) (k : Nat → Option (List tE)) (a b : Nat) : lK := (fun _ _ l => 54 ≤ l, fun _ u => F 20 (cN (F 15 u)) = 5 ∨ F 20 (cN (F 15 u)) = 6, fun i => a ≤ i ∧ i < b ∧ ∃ s : List tE, k i = some s)
def tb0 (F : tF) : lTb := (fun _ => 0, fun _ => [], fun _ => True, fun l => 54 ≤ l, fun w => F 20 (cN (F 15 w)) = 5 ∨ F 20 (cN (F 15 w)) = 6)
theorem lk0 {i j w : Nat} {E : Nat → Prop} (h : a ≤ j ∧ j < b ∧ ∃ s : List tE, k j = some s) : lkp (N0 F k a b) i j w E := ⟨h, fun _ _ _ _ q => q, fun _ _ _ q => q⟩
theorem lR_0 {i o : Nat} {s : List tE} {rl : Nat → Int32} {pl : Nat → Nat → Int32} {me : Int32} (hc : ceI F X G rs a b k) (hkb : k b = none) (hno : ∀ i : Nat, a ≤ i → i < b → F 0 i ≠ 4) (hrs : ¬ (F 20 rs = 5 ∨ F 20 rs = 6)) (hi : a ≤ i) (hb : i < b) (hs : k i = some s) (ho : F 0 i = nI o) (h33 : o < 33) : lRu F G (tb0 F) rl pl me k a b (N0 F k a b) i s o := by
  have nx := fun (q : o ≠ 15 ∧ o ≠ 16 ∧ o ≠ 20 ∧ o ≠ 22) => al_nx hc hkb hi hb hs ho h33 q
  have hce := ce_op hc hi hb hs ho h33
  have nC : ∀ (A2 : Nat → Prop) (v : Nat) (r : lLc) (rd : Prop) (H : Nat → Nat → Prop), (∀ u l : Nat, H u l → 54 ≤ l) → lCk (tb0 F) H A2 v r rd := fun A2 v r rd H hH u l _ h1 h2 => absurd (hH u l h1) h2
  refine ⟨fun q => lk0 (nx (by omega)), fun q => ⟨lk0 (nx (by omega)), fun l h => h⟩, fun q => lk0 (nx (by omega)), fun q n _ _ => lk0 (nx (by omega)), fun q => ⟨lk0 (nx (by omega)), fun p v _ _ _ _ => ⟨fun h => h, nC _ _ _ _ _ (fun _ _ h => h), fun _ l h => h⟩⟩, fun q => absurd (by rw [ho, q]; rfl) (hno i hi hb), fun q v _ _ => ⟨lk0 (nx (by omega)), fun l h => h⟩, fun q v _ _ => lk0 (nx (by omega)), fun q v _ _ => ⟨lk0 (nx (by omega)), fun l h => h, fun l h => h⟩, fun q p v _ _ _ _ => ⟨fun _ => ⟨lk0 (nx (by omega)), fun l h => h⟩, fun _ => ⟨nx (by omega), fun u l _ h => h, fun u _ _ h => h, fun _ h => h, nC _ _ _ _ _ (fun _ _ h => h)⟩⟩, fun q v0 v1 _ _ _ _ => ⟨lk0 (nx (by omega)), fun u l _ _ h1 h2 => absurd h1 h2⟩, fun q g _ _ => ⟨lk0 (nx (by omega)), fun _ q l _ _ h => h⟩, fun q _ => ⟨fun l h1 h2 => absurd h1 h2, fun hrf => ?_⟩, fun q j r _ hr h1 h2 _ _ => lk0 ⟨by omega, h2, r, hr⟩, fun q j h1 h2 h3 h4 => ?_, fun q j tc g r _ _ _ h1 h2 _ hr _ _ => ⟨lk0 ⟨by omega, h2, r, hr⟩, fun _ _ _ _ _ _ _ l h => h⟩, fun q l h => h⟩
  · subst q
    obtain ⟨T, O, e1, ⟨e2, -⟩, e3, -⟩ := hce
    rw [rf_eq e1 e3, e2] at hrf
    exact absurd hrf hrs
  · subst q
    obtain ⟨-, m, m1, m2, m3, m4, m5⟩ := hce
    have e := ce_one hc h1 (by omega) (Or.inr h3) m1 (by omega) (Or.inr m3) h4 m4
    exact lk0 ⟨h1, by omega, s, by rw [e]; exact m5⟩
end
end
-- h0.r4.lean.txt
section
section
variable {yp g a b lf lt : Nat} {X : tF} {G : Nat → Nat → Nat} {x : Nat → Int32} {y9 : Nat → Nat → Int32} {Z T : tgS} {k : Nat → Option (List tE)}
theorem gF_sh (hty : tyOK yp (tTy Z)) : ∀ sh : Nat, sh < 30 → (gF Z T 20 (4 + sh) = 2 ∨ gF Z T 20 (4 + sh) = 3) → sh < yp := fun sh h30 h => by
  have h34 : 34 ≤ Z.1 7 := hty.1
  rw [gF_20 (by omega)] at h
  rcases Nat.lt_or_ge sh yp with c | c
  · exact c
  · have e : Z.2 20 (4 + sh) = 0 := hty.2.2.2.2.2.1.2.2.2.2 sh c h30
    rw [e] at h
    rcases h with q | q <;> exact absurd q (by decide)
theorem gF_kd (hty : tyOK yp (tTy Z)) : ∀ t : Nat, t < 3040 → (gF Z T 20 t = 4 ∨ gF Z T 20 t = 5 ∨ gF Z T 20 t = 6) → 34 ≤ t ∧ t < Z.1 7 := fun t _ h => by
  have h34 : 34 ≤ Z.1 7 := hty.1
  have hlt : t < Z.1 7 := by
    rcases Nat.lt_or_ge t (Z.1 7) with c | c
    · exact c
    · have e : gF Z T 20 t = -1 := if_neg (by omega)
      rw [e] at h
      rcases h with q | q | q <;> exact absurd q (by decide)
  refine ⟨?_, hlt⟩
  rw [gF_20 hlt] at h
  rcases Nat.lt_or_ge t 34 with c | c
  · exfalso
    have low : ∀ w : Int32, Z.2 20 t = w → w ≠ 4 → w ≠ 5 → w ≠ 6 → False := fun w q q4 q5 q6 => by
      rw [q] at h
      rcases h with h | h | h
      · exact q4 h
      · exact q5 h
      · exact q6 h
    have b0 : Z.2 20 0 = 0 ∧ Z.2 20 1 = 0 ∧ Z.2 20 2 = 0 ∧ Z.2 20 3 = 1 := hty.2.2.2.1
    by_cases c4 : t < 4
    · have hc : t = 0 ∨ t = 1 ∨ t = 2 ∨ t = 3 := by omega
      rcases hc with rfl | rfl | rfl | rfl
      · exact low _ b0.1 (by decide) (by decide) (by decide)
      · exact low _ b0.2.1 (by decide) (by decide) (by decide)
      · exact low _ b0.2.2.1 (by decide) (by decide) (by decide)
      · exact low _ b0.2.2.2 (by decide) (by decide) (by decide)
    · have e : 4 + (t - 4) = t := by omega
      rcases Nat.lt_or_ge (t - 4) yp with c5 | c5
      · have q := hty.2.2.2.2.2.2.1 (t - 4) c5
        have q : Z.2 20 (4 + (t - 4)) = 2 ∨ Z.2 20 (4 + (t - 4)) = 3 := q
        rw [e] at q
        rcases q with q | q
        · exact low _ q (by decide) (by decide) (by decide)
        · exact low _ q (by decide) (by decide) (by decide)
      · have q : Z.2 20 (4 + (t - 4)) = 0 := hty.2.2.2.2.2.1.2.2.2.2 (t - 4) c5 (by omega)
        rw [e] at q
        exact low _ q (by decide) (by decide) (by decide)
  · exact c
theorem tyV_gF {u : Nat} (h : tyV yp (Z.1 7) (Z.2 20) u) : tyV yp (Z.1 7) (gF Z T 20) u := tyV_up h (fun t ht => gF_20 ht) (Nat.le_refl _)
theorem gC_v (hC : gC yp X G g x y9 Z T a b lf lt k) (h7 : Z.1 7 ≤ 3040) : ∀ w : Nat, w < 40 → gF Z T 15 w ≠ -1 → w < T.1 4 ∧ ∃ T0 : Nat, gF Z T 15 w = nI T0 ∧ tyV yp (Z.1 7) (gF Z T 20) T0 := fun w _ hne => by
  have hw := gF_15n hne
  refine ⟨hw, ?_⟩
  rw [gF_15 hw] at hne ⊢
  obtain ⟨u, q1, q2⟩ := (hC.2.2.2.2.2.2.2.2.1 w hw).resolve_left hne
  exact ⟨u, q1, tyV_gF q2⟩
/-- where Moves' last pass comes, on ways from the beginning -/
def gRm (F : tF) (a b : Nat) (hM : Nat → mvT) (j : Nat) : Prop := (a ≤ j ∧ j < b ∧ cA F (fun j => mvp (hM j)) j) ∧ rch F a b j
theorem gRm_0 {F : tF} {et em az : Nat → Int32} {n : Nat} {hM : Nat → mvT} (wM : mvW F X G (G g 1) a b k n et em az hM) (hab : a < b) (h1 : (hM a).2.2.2.1 ≠ 0) : gRm F a b hM a := by
  refine ⟨⟨Nat.le_refl _, hab, ?_⟩, rch_0⟩
  by_cases c : isL (F 0 a)
  · rw [cA_l (h := fun j => mvp (hM j)) c]
    obtain ⟨o, o1, o2, q⟩ := wM.tr a (Nat.le_refl _) hab
    show (hM (a + 1)).2.2.2.1 ≠ 0
    rcases q with ⟨-, L, -, -, -, -, -, q | ⟨-, -, q⟩⟩ | ⟨n1, n2, -⟩
    · rw [q.2]; exact h1
    · rw [q]; decide
    · exfalso
      rcases c with c | c
      · exact n1 ((nI_eq (a := o) (b := 13) (by omega) (by decide)).mp (o1.symm.trans c))
      · exact n2 ((nI_eq (a := o) (b := 14) (by omega) (by decide)).mp (o1.symm.trans c))
  · rw [cA_n (h := fun j => mvp (hM j)) c]; exact h1
theorem mRu_rc {F : tF} {y : qY} {z : qZ} {vg : Nat → Nat} {n i o : Nat} {L : Nat → Nat → lLc → Prop} {Rc : Nat → Prop} (h : mRu F y z vg n k a b L Rc i o) (ho : F 0 i = nI o) (h33 : o < 33) (hr : rch F a b i) : mRu F y z vg n k a b L (fun j => Rc j ∧ rch F a b j) i o := by
  obtain ⟨m1, m2, m3, m4, m5, m6, m7, m8, m9, m10⟩ := h
  exact ⟨fun q => ⟨m1 q, rch_S hr ⟨o, ho, h33, Or.inl ⟨q, rfl⟩⟩⟩, m2, m3, m4, m5, m6, m7, fun q j h1 h2 h3 h4 => ⟨⟨(m8 q j h1 h2 h3 h4).1, rch_S hr ⟨o, ho, h33, Or.inr (Or.inl ⟨q, h1, h2, h3, h4⟩)⟩⟩, (m8 q j h1 h2 h3 h4).2⟩, fun q j h1 h2 h3 h4 => ⟨⟨(m9 q j h1 h2 h3 h4).1, rch_S hr ⟨o, ho, h33, Or.inr (Or.inr (Or.inl ⟨q, h1, h2, h3, h4⟩))⟩⟩, (m9 q j h1 h2 h3 h4).2⟩, fun q j tc c g t1 t2 t3 t4 t5 t6 h1 h2 h3 => ⟨⟨(m10 q j tc c g t1 t2 t3 t4 t5 t6 h1 h2 h3).1, rch_S hr ⟨o, ho, h33, Or.inr (Or.inr (Or.inr ⟨q, tc, c, g, t1, t2, t3, t4, t5, t6, h1, h2, h3⟩))⟩⟩, (m10 q j tc c g t1 t2 t3 t4 t5 t6 h1 h2 h3).2⟩⟩
theorem sgE_mk (hC : gC yp X G g x y9 Z T a b lf lt k) (htb : tbO (gF Z T) X yp (Z.1 7)) (hty : tyOK yp (tTy Z)) (hG : ∀ g : Nat, g < 40 → G g 1 < 3040 → G g 1 = 0 ∨ tyV yp (Z.1 7) (Z.2 20) (G g 1)) {hM : Nat → mvT} {em : Nat → Int32} (wM : mvW (gF Z T) X G (G g 1) a b k (T.1 4) (T.2 15) em (Z.2 22) hM) {N : lK} {tb : lTb} {rl : Nat → Int32} {pl : Nat → Nat → Int32} {me : Int32} {vg : Nat → Nat} (hvg : ∀ w : Nat, w < T.1 4 → T.2 15 w ≠ -1 → vg w = ymF (gF Z T) (cN (T.2 15 w))) (hvg0 : ∀ w : Nat, ¬ (w < T.1 4 ∧ T.2 15 w ≠ -1) → vg w = 0)
    (hR : ∀ (i o : Nat) (s : List tE), a ≤ i → i < b → k i = some s → gF Z T 0 i = nI o → o < 33 → N.2.2 i → lRu (gF Z T) G tb rl pl me k a b N i s o)
    (hb5 : ∀ v : Nat, v < T.1 4 → (tb.2.2.2.2 v ↔ (gF Z T 20 (cN (gF Z T 15 v)) = 5 ∨ gF Z T 20 (cN (gF Z T 15 v)) = 6)))
    (hJ : ∀ (i p v c : Nat) (s : List tE), a ≤ i → i < b → k i = some s → gF Z T 0 i = 4 → gF Z T 1 i = nI p → p < 3001 → gF Z T 6 p = nI v → v < 40 → gF Z T 2 i = nI c → c < 54 → ¬ tb.2.2.2.1 c ∧ tb.1 c = v ∧ tb.2.1 c = wyF (gF Z T) p ∧ (gF Z T 3 i = 1 → ¬ tb.2.2.1 c))
    (hK : ∀ i u l v : Nat, N.1 i u l → ¬ tb.2.2.2.1 l → tb.1 l = v → v < T.1 4 → gF Z T 20 (cN (gF Z T 15 v)) = 5 → tb.2.2.1 l)
    (hU : ∀ i u : Nat, N.2.1 i u → gF Z T 20 (cN (gF Z T 15 u)) = 5 ∨ gF Z T 20 (cN (gF Z T 15 u)) = 6) :
    sgE (yF (gF Z T) X yp (Z.1 7)) (zF (gF Z T) X (Z.1 7)) (gF Z T) X G (G g 1) a b (T.1 4) yp (Z.1 7) k N (LMt (gF Z T) (yF (gF Z T) X yp (Z.1 7)) (zF (gF Z T) X (Z.1 7)) vg hM) (gRm (gF Z T) a b hM) tb rl pl me vg := by
  have h7 : Z.1 7 ≤ 3040 := hty.2.1
  have hv := gC_v hC h7
  have hv2 : ∀ w : Nat, w < 40 → gF Z T 15 w ≠ -1 → ∃ T0 : Nat, gF Z T 15 w = nI T0 ∧ tyV yp (Z.1 7) (gF Z T 20) T0 := fun w h1 h2 => (hv w h1 h2).2
  have hG2 : ∀ g : Nat, g < 40 → G g 1 < 3040 → G g 1 = 0 ∨ tyV yp (Z.1 7) (gF Z T 20) (G g 1) := fun g h1 h2 => (hG g h1 h2).imp id tyV_gF
  obtain ⟨⟨c1, c2, c3, c4, c5, c6, c7⟩, cx, hce, hvl, ⟨hka, hkb⟩, -⟩ := hC
  have g0 : gd (gF Z T) yp (Z.1 7) (bdO (G g 0)) := fun e he => by
    obtain ⟨v, q, -⟩ := bdO_in he
    rw [q]; exact gdE_3 (show 3 ≤ 8 by decide)
  have hgd := fun (i : Nat) (h : rch (gF Z T) a b i) => gd_rch hce hkb hka c1 g0 htb (gF_sh hty) (gF_kd hty) hv2 hG2 h
  obtain ⟨hyz, -⟩ := yz_ok htb.1 htb.2.1 htb.2.2.1 htb.2.2.2
  refine ⟨⟨htb, rfl, rfl, gF_sh hty, gF_kd hty, fun j s hr hs => ?_, fun i o p v s hr hs ho hoo h1 hp h6 hv4 => ?_⟩, hce, fun i s h1 h2 hs => (hvl i s h1 h2 hs).1, hkb, c5, fun w h1 h2 => ?_, fun v i hv4 hi e => ?_, fun i o s h1 h2 hs ho h33 hN hr => ⟨hR i o s h1 h2 hs ho h33 hN, ?_⟩, fun i v π hn => ?_, hb5, hJ, ⟨hK, fun j hr => ⟨hr.1.1, hr.1.2.1⟩⟩, hU⟩
  · obtain ⟨q1, q2, s2, q3, q4⟩ := hgd j hr.2
    rw [hs] at q3
    injection q3 with q3
    rw [← q3] at q4
    exact ⟨q4, (hvl j s q1 q2 hs).2.2.1⟩
  · exact (hvl i s hr.1.1 hr.1.2.1 hs).2.1 o p v ho hoo h1 hp h6 hv4
  · obtain ⟨q1, T0, q2, q3⟩ := hv w h1 h2
    refine ⟨q1, T0, q2, q3, ?_⟩
    have q3' := q3.2
    have e15 : T.2 15 w = nI T0 := (gF_15 q1).symm.trans q2
    rw [hvg w q1 (by rw [e15]; exact nI_ne1 (by omega)), e15, cN_nI (by omega)]
  · rcases Nat.lt_or_ge v (T.1 4) with c | c
    · exact c
    · have e9 : gF Z T 18 v = -1 := if_neg (by omega)
      exact absurd (e.symm.trans e9) (nI_ne1 (by omega))
  · refine mRu_rc (mR_tr wM hkb hyz (fun t => zF_le) (fun v hv9 => ?_) h1 h2 hr.1.2.2 hs ho h33) ho h33 hr.2
    by_cases c : T.2 15 v = -1
    · exact Or.inl (hvg0 v (fun q => q.2 c))
    · right
      obtain ⟨-, T0, q2, q3⟩ := hv v (by omega) (by rw [gF_15 hv9]; exact c)
      have q3' := q3.2
      have e15 : T.2 15 v = nI T0 := (gF_15 hv9).symm.trans q2
      obtain ⟨s1, s2, s3⟩ := ty_sz htb q3
      refine ⟨c, ?_⟩
      rw [hvg v hv9 c, e15, cN_nI (by omega), s1]
      exact nI_cN s2
  · exact Or.inl (hvg0 v (fun q => by omega))
end
end
-- h0.r5.lean.txt
section
/-- types of a function's variables, as the running sees them -/
def gvt (Z T : tgS) (v : Nat) : Nat := if v < T.1 4 ∧ T.2 15 v ≠ -1 then ymF (gF Z T) (cN (T.2 15 v)) else 0
/-- what Moves told of a function -/
def mvF (F : tF) (k : Nat → Option (List tE)) (a b n np : Nat) (et em az : Nat → Int32) (r9 : Int32) : Prop := ∃ (s0 fr0 rc0 gs gr gc : Nat → Int32) (ir9 fi0 : Int32), (∀ v : Nat, v < n → s0 v = if v < np then fuV et az v <<< ((16 : Int32) &&& 31) else 0) ∧ rcK F k a b rc0 ∧ mvP F n et em az a b (s0, fr0, rc0, 1, 0, fi0) (gs, gr, gc, ir9, 0, r9)
/-- what Loans told of it -/
def lnFa (F : tF) (k : Nat → Option (List tE)) (a b n np nbo nb : Nat) (ak et ef ez epl : Nat → Int32) (yrs yrl : Int32) (fc : Nat → Nat → Int32) (fr : Nat → Nat → Nat → Int32) (r9 : Int32) : Prop := (nbo = 0 ∧ ¬ rfB ak yrs) ∨ ∃ (pof gp : Nat → Int32) (gl gb ga : Nat → Int64) (gsh : Int64) (l0 u0 s0 fr1 ft0 hb0 : Nat → Int64) (x9 : Int64) (rc0 : Nat → Int32) (fi0 : Int32) (t : lnT), (gp, gl, gsh) = gaS F pof l0 a (b - a) ∧ fuP F a b gb (0, u0, 0) (x9, ga, 0) ∧ (∀ v : Nat, v < n → (v < np ∧ rfB ak (et v) ∧ s0 v = (1 : Int64) <<< ((if epl v < 0 then (62 : Int32) else 54 + epl v).toInt64 &&& 63)) ∨ (¬ (v < np ∧ rfB ak (et v)) ∧ s0 v = 0)) ∧ rcK F k a b rc0 ∧ lnP F ((gb, gl, gsh, gp, nbo, n) : lnC) ((ak, et, ef, ez, yrl, nb, fc, fr) : lnQ) a b ((s0, fr1, rc0, 1, 0, fi0, ft0, 0, hb0) : lnT) t ∧ t.2.2.2.2.1 = 0 ∧ t.2.2.2.2.2.1 = r9
theorem wl_bdO : ∀ n : Nat, wl (bdO n) = 0
  | 0 => rfl
  | n + 1 => by
    show wl (bdO n) + (if (8 : Nat) = 8 ∨ (8 : Nat) = 4 ∨ (8 : Nat) = 5 ∨ (8 : Nat) = 6 then 0 else 1) = 0
    rw [if_pos (Or.inl rfl), wl_bdO n]
theorem bdO_iff {n : Nat} {e : tE} : e ∈ bdO n ↔ ∃ v : Nat, e = (8, v, 0) ∧ v < n := ⟨bdO_in, fun ⟨v, q1, q2⟩ => by rw [q1]; exact bdO_mem q2⟩
theorem yF_rf {F X : tF} {yp yt u : Nat} (hu : u < 3040) (h5 : F 20 u ≠ 5) (h6 : F 20 u ≠ 6) : ¬ ((yF F X yp yt).1 (ymF F u) = 5 ∨ (yF F X yp yt).1 (ymF F u) = 6) := by
  have e : ymF F u = u := by unfold ymF; rw [if_neg h5, if_neg h6]
  rw [e]
  show ¬ ((if 10000 ≤ u ∧ u < 30000 then 5 + u % 2 else if 4 ≤ u ∧ u < 4 + yp then (if F 20 u = 3 then 3 else if cN (X 1 ((u - 4) * 12)) = 0 then 0 else 2) else if 34 ≤ u ∧ u < yt ∧ F 20 u = 4 then 4 else 0) = 5 ∨ (if 10000 ≤ u ∧ u < 30000 then 5 + u % 2 else if 4 ≤ u ∧ u < 4 + yp then (if F 20 u = 3 then 3 else if cN (X 1 ((u - 4) * 12)) = 0 then 0 else 2) else if 34 ≤ u ∧ u < yt ∧ F 20 u = 4 then 4 else 0) = 6)
  rw [if_neg (by omega)]
  split
  · split
    · omega
    · split <;> omega
  · split <;> omega
theorem psum_16 {F X : tF} {yt : Nat} {p : Nat → Nat} : ∀ n : Nat, psum (zF F X yt) p n ≤ 16 * n
  | 0 => Nat.le_refl _
  | n + 1 => by
    have h1 := zF_le (F := F) (X := X) (yt := yt) (t := p n)
    have h2 := psum_16 (F := F) (X := X) (yt := yt) (p := p) n
    show psum (zF F X yt) p n + (zF F X yt).1 (p n) ≤ 16 * (n + 1)
    omega
section
variable {yp g a b lf lt nb : Nat} {X : tF} {G : Nat → Nat → Nat} {Z T : tgS} {k : Nat → Option (List tE)} {fc : Nat → Nat → Int32} {fr : Nat → Nat → Nat → Int32}
theorem gvt_y (hC : gC yp X G g (fc g) (fr g) Z T a b lf lt k) (h7 : Z.1 7 ≤ 3040) {q : Nat} (hq : q < G g 0) : tyV yp (Z.1 7) (gF Z T 20) (G g (q + 2)) ∧ gvt Z T q = ymF (gF Z T) (G g (q + 2)) ∧ T.2 15 q = nI (G g (q + 2)) ∧ q < T.1 4 ∧ G g (q + 2) < Z.1 7 := by
  obtain ⟨-, -, -, -, -, -, -, -, hv, -, p1, -, p3⟩ := hC
  obtain ⟨e, -, hlt⟩ := p3 q hq
  have hq4 : q < T.1 4 := by omega
  have hne : T.2 15 q ≠ -1 := by rw [e]; exact nI_ne1 (by omega)
  obtain ⟨u, u1, u2⟩ := (hv q hq4).resolve_left hne
  have hu := u2.2
  have eu : u = G g (q + 2) := (nI_eq (by omega) (by omega)).mp (u1.symm.trans e)
  rw [eu] at u2
  refine ⟨tyV_gF u2, ?_, e, hq4, hlt⟩
  unfold gvt
  rw [if_pos ⟨hq4, hne⟩, e, cN_nI (by omega)]
theorem gvt_s (hC : gC yp X G g (fc g) (fr g) Z T a b lf lt k) (htb : tbO (gF Z T) X yp (Z.1 7)) (h7 : Z.1 7 ≤ 3040) {vg : Nat → Nat} (hvg : ∀ v : Nat, vg v = gvt Z T v) : ∀ n : Nat, n ≤ G g 0 → gSm Z T n = psum (zF (gF Z T) X (Z.1 7)) vg n := fun n => by
  induction n with
  | zero => exact fun _ => rfl
  | succ n ih =>
    intro hn
    obtain ⟨q1, q2, q3, q4, q5⟩ := gvt_y hC h7 (q := n) (by omega)
    show gSm Z T n + cN (Z.2 22 (cN (T.2 15 n))) = psum _ vg n + (zF (gF Z T) X (Z.1 7)).1 (vg n)
    rw [ih (by omega), hvg n, q2, (ty_sz htb q1).1, q3, cN_nI (by omega)]
    rfl
/-- what the running needs of function g: the code's certificate, the rules of moves and loans along it, how it begins -/
def gX (yp : Nat) (X : tF) (G : Nat → Nat → Nat) (rl : Nat → Int32) (pl : Nat → Nat → Int32) (Z : tgS) (g : Nat) (T : tgS) (a b : Nat) (k : Nat → Option (List tE)) (N : lK) (L : Nat → Nat → lLc → Prop) (Rm : Nat → Prop) (tb : lTb) : Prop := ∀ vt vo : Nat → Nat → Nat, (∀ v : Nat, vt g v = gvt Z T v) → (∀ v : Nat, vo g v = cN (T.2 17 v)) → sgE (yF (gF Z T) X yp (Z.1 7)) (zF (gF Z T) X (Z.1 7)) (gF Z T) X G (G g 1) a b (T.1 4) yp (Z.1 7) k N L Rm tb rl pl (rl g) (vt g) ∧ enF (yF (gF Z T) X yp (Z.1 7)) (zF (gF Z T) X (Z.1 7)) (gF Z T) G yp (Z.1 7) a k N Rm tb rl pl (rl g) vt vo g
theorem enF_mk (hC : gC yp X G g (fc g) (fr g) Z T a b lf lt k) (htb : tbO (gF Z T) X yp (Z.1 7)) (h7 : Z.1 7 ≤ 3040) (h12 : G g 0 ≤ 12) {N : lK} {Rm : Nat → Prop} {tb : lTb} {rl : Nat → Int32} {pl : Nat → Nat → Int32} {vt vo : Nat → Nat → Nat} (hvt : ∀ v : Nat, vt g v = gvt Z T v) (hvo : ∀ v : Nat, vo g v = cN (T.2 17 v)) (hN : N.2.2 a) (hR : Rm a) (hou : ∀ q : Nat, q < G g 0 → tb.2.2.2.1 (ouF pl g q) ∧ ((gF Z T 20 (G g (q + 2)) = 5 ∨ gF Z T 20 (G g (q + 2)) = 6) → N.1 a q (ouF pl g q)) ∧ (pl g q < 0 ∨ ∃ w : Nat, w < 8 ∧ pl g q = nI w)) (hrl : rl g < 0 ∨ ∃ w : Nat, w < 8 ∧ rl g = nI w) : enF (yF (gF Z T) X yp (Z.1 7)) (zF (gF Z T) X (Z.1 7)) (gF Z T) G yp (Z.1 7) a k N Rm tb rl pl (rl g) vt vo g := by
  have hps := gvt_s hC htb h7 hvt
  have hy := fun (q : Nat) (hq : q < G g 0) => gvt_y hC h7 hq
  obtain ⟨-, -, -, -, ⟨hka, -⟩, -, -, -, -, -, p1, -, p3⟩ := hC
  refine ⟨bdO (G g 0), hka, fun e => bdO_iff, h12, hN, hR, fun q hq => ?_, fun q hq => ?_, hrl, rfl⟩
  · obtain ⟨q1, q2, q3, q4, q5⟩ := hy q hq
    refine ⟨q1, (hvt q).trans q2, ?_⟩
    have e17 := (p3 q hq).2.1
    rw [hvo q, e17, hps q (by omega)]
    have hle := psum_16 (F := gF Z T) (X := X) (yt := Z.1 7) (p := vt g) q
    exact cN_nI (by omega)
  · obtain ⟨q1, q2, q3, q4, q5⟩ := hy q hq
    obtain ⟨o1, o2, o3⟩ := hou q hq
    refine ⟨o1, fun h => o2 ?_, o3⟩
    rw [hvt q, q2] at h
    by_cases c5 : gF Z T 20 (G g (q + 2)) = 5
    · exact Or.inl c5
    · by_cases c6 : gF Z T 20 (G g (q + 2)) = 6
      · exact Or.inr c6
      · exact absurd h (yF_rf (by omega) c5 c6)
end
end
-- h0.r6.lean.txt
section
section
variable {yp g a b lf lt nb tt : Nat} {X : tF} {G : Nat → Nat → Nat} {Z T : tgS} {k : Nat → Option (List tE)} {lo : Nat → Nat} {fc : Nat → Nat → Int32} {fr : Nat → Nat → Nat → Int32}
theorem mvW_fa (hC : gC yp X G g (fc g) (fr g) Z T a b lf lt k) {em : Nat → Int32} {r9 : Int32} {np : Nat} (hm : mvF (gF Z T) k a b (T.1 4) np (T.2 15) em (Z.2 22) r9) (hr : r9 < 0) : ∃ hM : Nat → mvT, mvW (gF Z T) X G (G g 1) a b k (T.1 4) (T.2 15) em (Z.2 22) hM ∧ (hM a).2.2.2.1 ≠ 0 := by
  obtain ⟨⟨c1, c2, c3, c4, c5, -⟩, -, hce, -, ⟨hka, -⟩, -⟩ := hC
  obtain ⟨s0, fr0, rc0, gs, gr, gc, ir9, fi0, -, q2, h, h1, h2, h3⟩ := hm
  refine ⟨h, mvW_of hce c5 (Nat.le_of_lt c1) ⟨_, hka⟩ h3 (by rw [h1]; exact q2) (by rw [h2]) (by rw [h2]; exact hr), ?_⟩
  rw [h1]
  show (1 : Int32) ≠ 0
  decide
/-- at the beginning -/
theorem cS_a {F : tF} {rs : Nat} {C : lnC} {Q : lnQ} {h : Nat → lnT} (w : lnW F X G rs a b k C Q h) (hab : a < b) (h1 : (h a).2.2.2.1 ≠ 0) : cA F (fun j => lnp (h j)) a ∧ ∀ v : Nat, v < C.2.2.2.2.2 → lS ((h a).1 v) (cS F (fun j => lnp (h j)) a v) := by
  by_cases c : isL (F 0 a)
  · rw [cA_l (h := fun j => lnp (h j)) c, cS_l (h := fun j => lnp (h j)) c]
    obtain ⟨L, l1, l2⟩ := ce_lb w.ce a (Nat.le_refl _) hab c
    obtain ⟨-, -, q, -⟩ := lnW_p w a (Nat.le_refl _) hab
    obtain ⟨-, -, -, q1, q2⟩ := q c L l1 l2
    by_cases e : (lnp (h a)).2.2.1 L = 0
    · obtain ⟨e1, e2⟩ := q1 e
      refine ⟨by rw [e2]; exact h1, fun v _ => ?_⟩
      rw [e1]; exact lS_rf _
    · obtain ⟨e1, e2⟩ := q2 e
      exact ⟨e1, fun v hv => (e2 v hv).2 h1⟩
  · rw [cA_n (h := fun j => lnp (h j)) c, cS_n (h := fun j => lnp (h j)) c]
    exact ⟨h1, fun v _ => lS_rf _⟩
theorem ouF_54 {pl : Nat → Nat → Int32} {q : Nat} : 54 ≤ ouF pl g q := by
  unfold ouF
  split <;> omega
theorem ouF_I {pl : Nat → Nat → Int32} {q : Nat} (h : pl g q < 0 ∨ ∃ w : Nat, w < 8 ∧ pl g q = nI w) : (if pl g q < 0 then (62 : Int32) else 54 + pl g q) = nI (ouF pl g q) ∧ ouF pl g q < 64 := by
  unfold ouF
  by_cases c : pl g q < 0
  · rw [if_pos c, if_pos c]; exact ⟨rfl, by decide⟩
  · obtain ⟨w, w1, w2⟩ := h.resolve_left c
    rw [if_neg c, if_neg c, w2, cN_nI (by omega)]
    exact ⟨nI_add 54 w, by omega⟩
theorem gX_0 (hp : pgI yp nb tt nb X G lo fc fr Z) (hC : gC yp X G g (fc g) (fr g) Z T a b lf lt k) (htb : tbO (gF Z T) X yp (Z.1 7)) (h12 : G g 0 ≤ 12) (h30 : G g 1 < 3040) (hG : ∀ g : Nat, g < 40 → G g 1 < 3040 → G g 1 = 0 ∨ tyV yp (Z.1 7) (Z.2 20) (G g 1)) (hpl : ∀ q : Nat, q < G g 0 → fr g 1 q < 0 ∨ ∃ w : Nat, w < 8 ∧ fr g 1 q = nI w) (hrl : fc g 6 < 0 ∨ ∃ w : Nat, w < 8 ∧ fc g 6 = nI w) {em : Nat → Int32} {hM : Nat → mvT} (wM : mvW (gF Z T) X G (G g 1) a b k (T.1 4) (T.2 15) em (Z.2 22) hM) (hM0 : (hM a).2.2.2.1 ≠ 0) (h0 : T.1 5 = 0) (hrs : ¬ rfB (Z.2 20) (nI (G g 1))) : ∃ (N : lK) (L : Nat → Nat → lLc → Prop) (Rm : Nat → Prop) (tb : lTb), gX yp X G (fun g => fc g 6) (fun g => fr g 1) Z g T a b k N L Rm tb := by
  have hty := hp.1
  have h7 : Z.1 7 ≤ 3040 := hty.2.1
  have hC2 := hC
  obtain ⟨⟨c1, c2, c3, c4, c5, c6, c7⟩, -, hce, -, ⟨hka, hkb⟩, -, -, ⟨hB, -⟩, -⟩ := hC2
  have hno : ∀ i : Nat, a ≤ i → i < b → gF Z T 0 i ≠ 4 := fun i h1 h2 h4 => by
    obtain ⟨c, -, q⟩ := hB i h1 h2 h4
    omega
  have hrs2 : ¬ (gF Z T 20 (G g 1) = 5 ∨ gF Z T 20 (G g 1) = 6) := fun q => hrs (by
    obtain ⟨-, q2⟩ := gF_kd (T := T) hty (G g 1) h30 (by rcases q with q | q; exact Or.inr (Or.inl q); exact Or.inr (Or.inr q))
    rw [gF_20 q2] at q
    exact (rf_eq rfl h30).mpr q)
  refine ⟨N0 (gF Z T) k a b, LMt (gF Z T) (yF (gF Z T) X yp (Z.1 7)) (zF (gF Z T) X (Z.1 7)) (gvt Z T) hM, gRm (gF Z T) a b hM, tb0 (gF Z T), fun vt vo hvt hvo => ⟨?_, enF_mk hC htb h7 h12 hvt hvo ⟨Nat.le_refl _, c1, _, hka⟩ (gRm_0 wM c1 hM0) (fun q hq => ⟨ouF_54, fun _ => ouF_54, hpl q hq⟩) hrl⟩⟩
  rw [show vt g = gvt Z T from funext hvt]
  exact sgE_mk hC htb hty hG wM (fun w h1 h2 => if_pos ⟨h1, h2⟩) (fun w h1 => if_neg h1) (fun i o s h1 h2 hs ho h33 _ => lR_0 hce hkb hno hrs2 h1 h2 hs ho h33) (fun v _ => Iff.rfl) (fun i p v c s h1 h2 _ h4 => absurd h4 (hno i h1 h2)) (fun i u l v h1 h2 => absurd h1 h2) (fun i u h => h)
set_option maxHeartbeats 4000000 in
theorem gX_ln (hp : pgI yp nb tt nb X G lo fc fr Z) (hC : gC yp X G g (fc g) (fr g) Z T a b lf lt k) (htb : tbO (gF Z T) X yp (Z.1 7)) (h12 : G g 0 ≤ 12) (hG : ∀ g : Nat, g < 40 → G g 1 < 3040 → G g 1 = 0 ∨ tyV yp (Z.1 7) (Z.2 20) (G g 1)) (hGb : ∀ g : Nat, g < 40 → G g 1 < 3040 → g < nb ∧ fc g 5 = nI (G g 1)) (hG3 : ∀ g : Nat, g < nb → fc g 3 = nI (G g 0) ∧ G g 0 ≤ 12) (hnb : nb ≤ 40) (hpl : ∀ q : Nat, q < G g 0 → fr g 1 q < 0 ∨ ∃ w : Nat, w < 8 ∧ fr g 1 q = nI w) (hrl : fc g 6 < 0 ∨ ∃ w : Nat, w < 8 ∧ fc g 6 = nI w) {em : Nat → Int32} {hM : Nat → mvT} (wM : mvW (gF Z T) X G (G g 1) a b k (T.1 4) (T.2 15) em (Z.2 22) hM) (hM0 : (hM a).2.2.2.1 ≠ 0) {r9 : Int32} (hr9 : r9 < 0) {pof gp : Nat → Int32} {gl gb ga l0 u0 s0 fr1 ft0 hb0 : Nat → Int64} {gsh x9 : Int64} {rc0 : Nat → Int32} {fi0 : Int32} {t : lnT} (e1 : (gp, gl, gsh) = gaS (gF Z T) pof l0 a (b - a)) (e2 : fuP (gF Z T) a b gb (0, u0, 0) (x9, ga, 0)) (e3 : ∀ v : Nat, v < T.1 4 → (v < G g 0 ∧ rfB (Z.2 20) (T.2 15 v) ∧ s0 v = (1 : Int64) <<< ((if fr g 1 v < 0 then (62 : Int32) else 54 + fr g 1 v).toInt64 &&& 63)) ∨ (¬ (v < G g 0 ∧ rfB (Z.2 20) (T.2 15 v)) ∧ s0 v = 0)) (e4 : rcK (gF Z T) k a b rc0) (e5 : lnP (gF Z T) ((gb, gl, gsh, gp, T.1 5, T.1 4) : lnC) ((Z.2 20, T.2 15, T.2 18, T.2 19, fc g 6, nb, fc, fr) : lnQ) a b ((s0, fr1, rc0, 1, 0, fi0, ft0, 0, hb0) : lnT) t) (e6 : t.2.2.2.2.1 = 0) (e7 : t.2.2.2.2.2.1 = r9) : ∃ (N : lK) (L : Nat → Nat → lLc → Prop) (Rm : Nat → Prop) (tb : lTb), gX yp X G (fun g => fc g 6) (fun g => fr g 1) Z g T a b k N L Rm tb := by
  have hty := hp.1
  have h7 : Z.1 7 ≤ 3040 := hty.2.1
  have h34 : 34 ≤ Z.1 7 := hty.1
  have hC2 := hC
  have hv := gC_v hC h7
  have hv2 : ∀ w : Nat, w < 40 → gF Z T 15 w ≠ -1 → ∃ T0 : Nat, gF Z T 15 w = nI T0 ∧ tyV yp (Z.1 7) (gF Z T 20) T0 := fun w h1 h2 => (hv w h1 h2).2
  have hyy := fun (q : Nat) (hq : q < G g 0) => gvt_y hC h7 hq
  obtain ⟨⟨c1, c2, c3, c4, c5, c6, c7⟩, -, hce, hvl, ⟨hka, hkb⟩, -, -, ⟨hB, hB2⟩, -⟩ := hC2
  obtain ⟨h, t1, t2, t3⟩ := e5
  obtain ⟨hU, w1, w2, w3⟩ := e2
  have hB4 : ∀ i : Nat, a ≤ i → i < b → gF Z T 0 i = 4 → ∃ p v l : Nat, gF Z T 1 i = nI p ∧ p < 3001 ∧ gF Z T 6 p = nI v ∧ v < 40 ∧ gF Z T 2 i = nI l ∧ l < 54 := fun i h1 h2 h4 => by
    obtain ⟨o, o1, o2, o3⟩ := iB_o (hce.1 i h1 h2).1
    have e : o = 4 := (nI_eq (a := o) (b := 4) (by omega) (by decide)).mp (o1.symm.trans h4)
    subst e
    obtain ⟨p, v, l, q1, q2, q3, q4, q5, q6⟩ := o3
    exact ⟨p, v, l, q1, q2, q3, q4, q5, q6⟩
  have hBu : ∀ i j : Nat, a ≤ i → i < b → a ≤ j → j < b → gF Z T 0 i = 4 → gF Z T 0 j = 4 → gF Z T 2 i = gF Z T 2 j → i = j := hB2
  have hvl2 : ∀ (i : Nat) (s : List tE), a ≤ i → i < b → k i = some s → vl s ≤ 211 := fun i s h1 h2 hs => (hvl i s h1 h2 hs).1
  have w : lnW (gF Z T) X G (G g 1) a b k ((gb, gl, gsh, gp, T.1 5, T.1 4) : lnC) ((Z.2 20, T.2 15, T.2 18, T.2 19, fc g 6, nb, fc, fr) : lnQ) h := lnW_of hce hvl2 c5 (Nat.le_of_lt c1) ⟨_, hka⟩ t3 (by rw [t1]; exact e4) hG3 hnb (by rw [t1]; rfl) (by rw [t2]; exact e6)
  have hs1 : (h a).2.2.2.1 ≠ 0 := by
    rw [t1]
    show (1 : Int32) ≠ 0
    decide
  obtain ⟨ca, cs⟩ := cS_a w c1 hs1
  have zz : lnZ (gF Z T) X G a b k ((gb, gl, gsh, gp, T.1 5, T.1 4) : lnC) ((Z.2 20, T.2 15, T.2 18, T.2 19, fc g 6, nb, fc, fr) : lnQ) yp (Z.1 7) := by
    refine ⟨htb, hv2, ⟨pof, l0, e1⟩, hB4, hBu, fun j l h1 h2 h4 hl _ => ?_, c6, hkb, fun t ht => (gF_20 ht).symm, fun v hv9 => ⟨(gF_15 hv9).symm, (gF_18 hv9).symm, rfl⟩, fun v h1 h2 => (hv v h1 h2).1, fun v i h1 h2 h3 => ?_, fun g h1 h2 => ⟨(hGb g h1 h2).1, (hGb g h1 h2).2, ?_⟩⟩
    · obtain ⟨c, q1, q2⟩ := hB j h1 h2 h4
      have e : c = l := (nI_eq (by omega) (by omega)).mp (q1.symm.trans hl)
      show l < T.1 5
      omega
    · rcases Nat.lt_or_ge v (T.1 4) with c | c
      · exact c
      · have e9 : gF Z T 18 v = -1 := if_neg (by omega)
        exact absurd (h3.symm.trans e9) (nI_ne1 (by omega))
    · rcases hG g h1 h2 with q | q
      · rw [q]; omega
      · exact q.2
  have gae : ∀ l : Nat, gp l = (gaS (gF Z T) pof l0 a (b - a)).1 l ∧ lbit gsh l = lbit (gaS (gF Z T) pof l0 a (b - a)).2.2 l := fun l => by rw [← e1]; exact ⟨rfl, rfl⟩
  refine ⟨lnkT (gF Z T) k a b (T.1 4) h hU, LMt (gF Z T) (yF (gF Z T) X yp (Z.1 7)) (zF (gF Z T) X (Z.1 7)) (gvt Z T) hM, gRm (gF Z T) a b hM, tbF (gF Z T) gp gsh, fun vt vo hvt hvo => ⟨?_, enF_mk hC htb h7 h12 hvt hvo ⟨Nat.le_refl _, c1, a, Nat.le_refl _, Nat.le_refl _, ca, ⟨_, hka, wl_bdO _⟩, fun m h1 h2 => absurd h1 (by omega)⟩ (gRm_0 wM c1 hM0) (fun q hq => ⟨ouF_54, fun hk => ?_, hpl q hq⟩) hrl⟩⟩
  · rw [show vt g = gvt Z T from funext hvt]
    refine sgE_mk hC htb hty hG wM (fun w h1 h2 => if_pos ⟨h1, h2⟩) (fun w h1 => if_neg h1) (fun i o s h1 h2 hs ho h33 hN => ?_) (fun v _ => Iff.rfl) (fun i p v c s h1 h2 hs h4 f1 fp f6 fv f2 fc9 => ?_) (fun i u l v h1 h2 h3 h4 h5 => ?_) (fun i u h => h.2)
    · obtain ⟨-, -, p, hc⟩ := hN
      have k1 : (hU a).2.2 = 0 := by rw [w2]
      have k2 : (h b).2.2.2.2.2.1 < 0 := by rw [t2, e7]; exact hr9
      have k3 := lR_tr w zz (fun i h1 h2 => (w3 i h1 h2).1) k1 (fun i h1 h2 => (w3 i h1 h2).2) k2 h1 h2 hc hs ho h33
      exact k3
    · obtain ⟨q1, q2, q3⟩ := ga_tb (pof := pof) (lon := l0) hB4 (b - a) (by omega) (fun i j a1 a2 a3 a4 => hBu i j a1 (by omega) a3 (by omega)) i p v c h1 (by omega) h4 f1 fp f6 fv f2 fc9
      have eg : gp c = nI p := (gae c).1.trans q1
      refine ⟨fun z => ?_, ?_, ?_, fun f3 z => ?_⟩
      · have z : 54 ≤ c := z
        omega
      · show cN (gF Z T 6 (cN (gp c))) = v
        rw [eg, cN_nI (by omega), f6, cN_nI (by omega)]
      · show wyF (gF Z T) (cN (gp c)) = _
        rw [eg, cN_nI (by omega)]
      · have z : lbit gsh c = true := z
        rw [(gae c).2, q3, f3] at z
        exact absurd z (by decide)
    · obtain ⟨hb9, -⟩ := h1
      have h2 : ¬ 54 ≤ l := h2
      have hl := hb9.resolve_left h2
      show lbit gsh l = true
      rw [(gae l).2]
      have hne : gF Z T 15 v ≠ -1 := fun q => by
        have h5 : gF Z T 20 (cN (gF Z T 15 v)) = 5 := h5
        have e0 : gF Z T 20 0 = 0 := htb.1.2.2.2.1.1
        rw [q, show cN (-1) = 0 from rfl, e0] at h5
        exact absurd h5 (by decide)
      obtain ⟨T0, q1, q2⟩ := hv2 v (by omega) hne
      have q3 := q2.2
      refine sh_of hce (Nat.le_of_lt c1) htb hB4 hBu q1 q2 ?_ hl (by omega) ?_
      · have h5 : gF Z T 20 (cN (gF Z T 15 v)) = 5 := h5
        rw [q1, cN_nI (by omega)] at h5; exact h5
      · rw [← (gae l).1]; exact h3
  · obtain ⟨y1, y2, y3, y4, y5⟩ := hyy q hq
    refine ⟨Or.inl ouF_54, Or.inl ⟨y4, lS_b (cs q y4) ?_⟩⟩
    rw [t1]
    show lbit (s0 q) _ = true
    obtain ⟨o1, o2⟩ := ouF_I (g := g) (pl := fun g => fr g 1) (hpl q hq)
    rcases e3 q y4 with ⟨-, -, q3⟩ | ⟨q3, -⟩
    · have o1 : (if fr g 1 q < 0 then (62 : Int32) else 54 + fr g 1 q) = nI (ouF (fun g => fr g 1) g q) := o1
      rw [q3, o1]
      show lbit (bt (ouF (fun g => fr g 1) g q)) _ = true
      rw [lbit_bt _ _ o2 o2]
      exact decide_eq_true rfl
    · refine absurd ⟨hq, ?_⟩ q3
      rw [y3]
      refine (rf_eq rfl (by omega)).mpr ?_
      rw [gF_20 y5] at hk; exact hk
/-- a function that was looked over -/
theorem gX_of (hp : pgI yp nb tt nb X G lo fc fr Z) (hC : gC yp X G g (fc g) (fr g) Z T a b lf lt k) (htb : tbO (gF Z T) X yp (Z.1 7)) (hd : hdI nb G fc fr) (hg : g < nb) (hG : ∀ g : Nat, g < nb → G g 1 = 0 ∨ tyV yp (Z.1 7) (Z.2 20) (G g 1)) (hGb : ∀ g : Nat, g < 40 → G g 1 < 3040 → g < nb) (hnb : nb ≤ 40) (hpl : ∀ q : Nat, q < G g 0 → fr g 1 q < 0 ∨ ∃ w : Nat, w < 8 ∧ fr g 1 q = nI w) (hrl : fc g 6 < 0 ∨ ∃ w : Nat, w < 8 ∧ fc g 6 = nI w) {em : Nat → Int32} {r8 r9 : Int32} (hm : mvF (gF Z T) k a b (T.1 4) (G g 0) (T.2 15) em (Z.2 22) r8) (hr8 : r8 < 0) (hl : lnFa (gF Z T) k a b (T.1 4) (G g 0) (T.1 5) nb (Z.2 20) (T.2 15) (T.2 18) (T.2 19) (fr g 1) (nI (G g 1)) (fc g 6) fc fr r9) (hr9 : r9 < 0) : ∃ (N : lK) (L : Nat → Nat → lLc → Prop) (Rm : Nat → Prop) (tb : lTb), gX yp X G (fun g => fc g 6) (fun g => fr g 1) Z g T a b k N L Rm tb := by
  obtain ⟨hM, wM, hM0⟩ := mvW_fa hC hm hr8
  obtain ⟨d1, d2, -⟩ := hd g hg
  have hG2 : ∀ g : Nat, g < 40 → G g 1 < 3040 → G g 1 = 0 ∨ tyV yp (Z.1 7) (Z.2 20) (G g 1) := fun g h1 h2 => hG g (hGb g h1 h2)
  rcases hl with ⟨l1, l2⟩ | ⟨pof, gp, gl, gb, ga, gsh, l0, u0, s0, fr1, ft0, hb0, x9, rc0, fi0, t, e1, e2, e3, e4, e5, e6, e7⟩
  · exact gX_0 hp hC htb d1 d2 hG2 hpl hrl wM hM0 l1 l2
  · exact gX_ln hp hC htb d1 hG2 (fun g h1 h2 => ⟨hGb g h1 h2, (hd g (hGb g h1 h2)).2.2.2.1⟩) (fun g h1 => ⟨(hd g h1).2.2.1, (hd g h1).1⟩) hnb hpl hrl wM hM0 hr9 e1 e2 e3 e4 e5 e6 e7
end
end
-- h0.r7.lean.txt
section
/-- what stands below stays -/
theorem e8_t {e : tE} {s : List tE} {v : Nat} (h : ((8, v, 0) : tE) ∈ e :: s) (he : e.1 ≠ 8) : ((8, v, 0) : tE) ∈ s := by
  rcases List.mem_cons.mp h with q | q
  · exact absurd (by rw [← q]) he
  · exact q
theorem e8_n {F : tF} {T : Nat} : (tNf F T).1 ≠ 8 := fun q => nm_t (Or.inl q)
theorem e8_pE {n sh : Nat} {sn : Int32} : (pE n sh sn).1 ≠ 8 := by
  unfold pE
  split
  · show (0 : Nat) ≠ 8; decide
  · show (7 : Nat) ≠ 8; decide
theorem e8_A {F : tF} {G : Nat → Nat → Nat} {g v : Nat} {r : List tE} : ∀ n : Nat, ((8, v, 0) : tE) ∈ tAs F G g n ++ r → ((8, v, 0) : tE) ∈ r
  | 0, h => h
  | n + 1, h => e8_A n (e8_t (show ((8, v, 0) : tE) ∈ tNf F (G g (n + 2)) :: (tAs F G g n ++ r) from h) e8_n)
theorem e8_P {F X : tF} {q v : Nat} {r : List tE} : ∀ n : Nat, ((8, v, 0) : tE) ∈ tPs F X q n ++ r → ((8, v, 0) : tE) ∈ r
  | 0, h => h
  | n + 1, h => e8_P n (e8_t (show ((8, v, 0) : tE) ∈ tNf F (cN (X 2 (q * 12 + n))) :: (tPs F X q n ++ r) from h) e8_n)
section
variable {F X : tF} {G : Nat → Nat → Nat} {rs a b yp yt i j o : Nat} {k : Nat → Option (List tE)} {s : List tE}
/-- variables that are kept by an instruction -/
def k8 (F : tF) (i o : Nat) (s s2 : List tE) : Prop := (∀ v : Nat, ((8, v, 0) : tE) ∈ s → (o = 32 → ∀ v0 v1 : Nat, v0 ≤ 40 → v1 ≤ 40 → F 1 i = nI v0 → F 2 i = nI v1 → ¬ (v0 ≤ v ∧ v < v1)) → ((8, v, 0) : tE) ∈ s2) ∧ ((o = 24 ∨ o = 25 ∨ o = 29 ∨ o = 30) → ∀ v : Nat, v < 40 → F 1 i = nI v → ((8, v, 0) : tE) ∈ s2)
theorem k8_of {s2 : List tE} (h : ∀ v : Nat, ((8, v, 0) : tE) ∈ s → ((8, v, 0) : tE) ∈ s2) (ho : ¬ (o = 24 ∨ o = 25 ∨ o = 29 ∨ o = 30)) : k8 F i o s s2 := ⟨fun v hv _ => h v hv, fun q => absurd q ho⟩
theorem k8_c {e : tE} (ho : ¬ (o = 24 ∨ o = 25 ∨ o = 29 ∨ o = 30)) : k8 F i o s (e :: s) := k8_of (fun v hv => List.mem_cons_of_mem _ hv) ho
theorem k8_i (ho : ¬ (o = 24 ∨ o = 25 ∨ o = 29 ∨ o = 30)) : k8 F i o s s := k8_of (fun v hv => hv) ho
theorem k8_l {v : Nat} {s2 : List tE} (hv : v < 40) (h1 : F 1 i = nI v) (h : ∀ w : Nat, ((8, w, 0) : tE) ∈ s → ((8, w, 0) : tE) ∈ s2) (h8 : ((8, v, 0) : tE) ∈ s2) : k8 F i o s s2 := ⟨fun w hw _ => h w hw, fun _ w hw h2 => by
  have e : w = v := (nI_eq (by omega) (by omega)).mp (h2.symm.trans h1)
  rw [e]; exact h8⟩
theorem e8_f {J K : Int32 → List tE → Prop} : ∀ o : Nat, iOp F X G rs k J K i s o → (o ≠ 15 ∧ o ≠ 16 ∧ o ≠ 20 ∧ o ≠ 22) → ∃ s2 : List tE, k (i + 1) = some s2 ∧ k8 F i o s s2
  | 0, h, _ => by
    obtain ⟨T, hT, e⟩ := h
    exact ⟨_, e, k8_c (by decide)⟩
  | 1, h, _ => ⟨_, h, k8_c (by decide)⟩
  | 2, h, _ => by
    obtain ⟨p, T, mu, -, -, -, e⟩ := h
    exact ⟨_, e, k8_c (by decide)⟩
  | 3, h, _ => by
    obtain ⟨p, T, -, -, -, -, e⟩ := h
    exact ⟨_, e, k8_c (by decide)⟩
  | 4, h, _ => by
    obtain ⟨p, T, c, m, mu, -, -, -, -, -, -, -, e⟩ := h
    rcases e with ⟨-, e⟩ | ⟨-, -, e⟩
    · exact ⟨_, e, k8_c (by decide)⟩
    · exact ⟨_, e, k8_c (by decide)⟩
  | 5, h, _ => ⟨_, h.2, k8_i (by decide)⟩
  | 6, h, _ => ⟨_, h.2, k8_i (by decide)⟩
  | 7, h, _ => by
    obtain ⟨x, y, z, r, -, -, hz, rfl, e⟩ := h
    exact ⟨_, e, k8_of (fun v hv => List.mem_cons_of_mem _ (e8_t (e8_t hv (show (0 : Nat) ≠ 8 by decide)) (show (0 : Nat) ≠ 8 by decide))) (by decide)⟩
  | 8, h, _ => by
    obtain ⟨T, U, r, -, -, -, -, -, -, -, -, rfl, e⟩ := h
    exact ⟨_, e, k8_of (fun v hv => List.mem_cons_of_mem _ (e8_t hv e8_n)) (by decide)⟩
  | 9, h, _ => by
    obtain ⟨sh, n, h1, h2, -, -, -, e⟩ := h
    exact ⟨_, e, k8_c (by decide)⟩
  | 10, h, _ => by
    obtain ⟨sh, j, n, sn, r, h1, h2, -, -, -, -, -, -, -, rfl, e⟩ := h
    exact ⟨_, e, k8_of (fun v hv => List.mem_cons_of_mem _ (e8_t (e8_t hv e8_n) e8_pE)) (by decide)⟩
  | 11, h, _ => by
    obtain ⟨g, -, -, e⟩ := h
    exact ⟨_, e, k8_c (by decide)⟩
  | 12, h, _ => by
    obtain ⟨sh, g, n, r, h1, h2, -, -, -, -, -, -, rfl, e⟩ := h
    exact ⟨_, e, k8_of (fun v hv => List.mem_cons_of_mem _ (e8_t (e8_P n hv) (show (3 : Nat) ≠ 8 by decide))) (by decide)⟩
  | 13, h, _ => ⟨_, h, k8_i (by decide)⟩
  | 14, h, _ => ⟨_, h, k8_i (by decide)⟩
  | 15, _, q => absurd rfl q.1
  | 16, _, q => absurd rfl q.2.1
  | 17, h, _ => by
    obtain ⟨r, rfl, e, -⟩ := h
    exact ⟨_, e.1, k8_of (fun v hv => e8_t hv (show (0 : Nat) ≠ 8 by decide)) (by decide)⟩
  | 18, h, _ => by
    obtain ⟨r, rfl, e, -⟩ := h
    exact ⟨_, e, k8_of (fun v hv => e8_t hv (show (0 : Nat) ≠ 8 by decide)) (by decide)⟩
  | 19, h, _ => by
    obtain ⟨r, rfl, e, -⟩ := h
    exact ⟨_, e, k8_of (fun v hv => e8_t hv (show (0 : Nat) ≠ 8 by decide)) (by decide)⟩
  | 20, _, q => absurd rfl q.2.2.1
  | 21, h, _ => by
    obtain ⟨g, r, h1, -, rfl, e⟩ := h
    exact ⟨_, e, k8_of (fun v hv => List.mem_cons_of_mem _ (e8_A _ hv)) (by decide)⟩
  | 22, _, q => absurd rfl q.2.2.2
  | 23, h, _ => ⟨_, h, k8_i (by decide)⟩
  | 24, h, _ => by
    obtain ⟨v, T, r, h1, h2, -, -, -, -, rfl, e⟩ := h
    exact ⟨_, e, k8_l h1 h2 (fun w hw => List.mem_cons_of_mem _ (e8_t hw e8_n)) (List.mem_cons_self ..)⟩
  | 25, h, _ => by
    obtain ⟨v, h1, h2, -, -, e⟩ := h
    exact ⟨_, e, k8_l h1 h2 (fun w hw => List.mem_cons_of_mem _ hw) (List.mem_cons_self ..)⟩
  | 26, h, _ => by
    obtain ⟨p, v, n, T, pa, ro, mu, r, -, -, -, rfl, e⟩ := h
    exact ⟨_, e, k8_of (fun v hv => e8_t hv e8_n) (by decide)⟩
  | 27, h, _ => by
    obtain ⟨T, r, -, -, rfl, e⟩ := h
    exact ⟨_, e, k8_of (fun v hv => e8_t hv e8_n) (by decide)⟩
  | 28, h, _ => by
    obtain ⟨T, r, -, -, rfl, e⟩ := h
    exact ⟨_, e, k8_of (fun v hv => e8_t hv (show (0 : Nat) ≠ 8 by decide)) (by decide)⟩
  | 29, h, _ => by
    obtain ⟨v, sh, g, j, n, T, r, h1, h2, -, -, -, -, -, -, -, -, -, -, -, -, rfl, e⟩ := h
    exact ⟨_, e, k8_l h1 h2 (fun w hw => List.mem_cons_of_mem _ (List.mem_cons_of_mem _ (e8_t hw (show (4 : Nat) ≠ 8 by decide)))) (List.mem_cons_of_mem _ (List.mem_cons_self ..))⟩
  | 30, h, _ => by
    obtain ⟨v, sh, g, j, n, T, c, q, r, h1, h2, -, -, -, -, -, -, hq, -, -, -, -, -, -, -, -, rfl, e⟩ := h
    exact ⟨_, e, k8_l h1 h2 (fun w hw => List.mem_cons_of_mem _ (List.mem_cons_of_mem _ (e8_t hw (show q + 4 ≠ 8 by omega)))) (List.mem_cons_of_mem _ (List.mem_cons_self ..))⟩
  | 31, h, _ => by
    obtain ⟨r0, q, m, r, rfl, hq, e⟩ := h
    refine ⟨_, e, k8_of (fun v hv => e8_t hv (show q ≠ 8 from ?_)) (by decide)⟩
    rcases hq with ⟨rfl, -⟩ | ⟨rfl | rfl, -⟩ <;> decide
  | 32, h, _ => by
    obtain ⟨v0, v1, O, r, ⟨h0, -⟩, h40, h1, h2, rfl, hO, -, e⟩ := h
    refine ⟨_, e, fun v hv hn => ?_, fun q => absurd q (by decide)⟩
    rcases List.mem_append.mp hv with q | q
    · obtain ⟨w, w1, w2⟩ := hO _ q
      have e9 : v = w := by
        injection w1 with _ w1
        injection w1
      exact absurd (by rw [e9]; exact w2) (hn rfl v0 v1 (by omega) h40 h1 h2)
    · exact q
  | n + 33, h, _ => absurd h id
/-- where a jump leads to, variables stay -/
theorem e8_j (hc : ceI F X G rs a b k) (ha : a ≤ i) (hb : i < b) (hs : k i = some s) (ho : F 0 i = nI o) (h33 : o < 33) {l : Nat} (hl : l < 1100) (h5 : F 5 l = nI j) (hj6 : j < 6000) {s2 : List tE} (hs2 : k j = some s2) (h : ((o = 15 ∨ o = 16 ∨ o = 17 ∨ o = 18 ∨ o = 19) ∧ F 1 i = nI l) ∨ (o = 20 ∧ ∃ tc gg n9 : Nat, F 1 i = nI tc ∧ tc < 6000 ∧ F 3 i = nI n9 ∧ n9 ≤ 12 ∧ gg < n9 ∧ F 13 (tc + gg) = nI l)) : ∀ v : Nat, ((8, v, 0) : tE) ∈ s → ((8, v, 0) : tE) ∈ s2 := by
  have hce := ce_op hc ha hb hs ho h33
  have h60 : b ≤ 6000 := hc.2.1
  have lab : ∀ (m : Nat) (y : List tE), a ≤ m → m < b → (F 0 m = 13 ∨ F 0 m = 14) → F 1 m = nI l → k m = some y → s2 = y := fun m y m1 m2 m3 m4 m5 => by
    obtain ⟨l9, l1, l2, l3⟩ := hc.2.2 m m1 m2 m3
    have e1 : l9 = l := (nI_eq (by omega) (by omega)).mp (l2.symm.trans m4)
    rw [e1] at l3
    have e2 : m = j := (nI_eq (by omega) (by omega)).mp (l3.symm.trans h5)
    rw [e2, hs2] at m5
    exact Option.some.inj m5
  have jmp : ∀ y : List tE, False ∨ tJm F G k i b (nI l) y → s2 = y := fun y h => by
    obtain ⟨m, ⟨m1, -⟩, m2, m3, m4, m5⟩ := h.resolve_left id
    exact lab m y (by omega) m2 (Or.inl m3) m4 m5
  rcases h with ⟨hn, h1⟩ | ⟨rfl, tc, gg, n9, t1, t2, t3, t4, t5, t6⟩
  · rcases hn with rfl | rfl | rfl | rfl | rfl
    · obtain ⟨-, m, m1, m2, m3, m4, m5⟩ := hce
      have e := lab m s m1 (by omega) (Or.inr m3) (m4.trans h1) m5
      intro v hv; rw [e]; exact hv
    · have e3 := hce.2
      rw [h1] at e3
      have e := jmp _ e3
      intro v hv; rw [e]; exact hv
    · obtain ⟨r, rfl, -, e3⟩ := hce
      rw [h1] at e3
      have e := jmp _ e3
      intro v hv; rw [e]; exact e8_t hv (show (0 : Nat) ≠ 8 by decide)
    · obtain ⟨r, e1, -, e3⟩ := hce
      rw [h1] at e3
      have e := jmp _ e3
      intro v hv; rw [e]; exact hv
    · obtain ⟨r, e1, -, e3⟩ := hce
      rw [h1] at e3
      have e := jmp _ e3
      intro v hv; rw [e]; exact hv
  · obtain ⟨sh, n, tb9, r, -, -, -, n12, e1, e2, ⟨e3, -⟩, e4⟩ := hce
    have et : tc = tb9 := (nI_eq (by omega) (by omega)).mp (t1.symm.trans e1)
    have en : n9 = n := (nI_eq (by omega) (by omega)).mp (t3.symm.trans e3)
    subst et en
    rcases e4 with ⟨f1, -, f3⟩ | ⟨q, m, hq, f1, -, f3⟩
    · have f := f3 gg t5
      rw [t6] at f
      have e := jmp _ f
      intro v hv
      rw [f1] at hv
      rw [e]; exact List.mem_cons_of_mem _ (e8_t hv (show (0 : Nat) ≠ 8 by decide))
    · have f := f3 gg t5
      rw [t6] at f
      have e := jmp _ f
      intro v hv
      rw [f1] at hv
      rw [e]; exact List.mem_cons_of_mem _ (e8_t hv (show q ≠ 8 by omega))
end
end
-- h0.r8.lean.txt
section
/-- the class's rows, as the runs of the model have them -/
def cI (fc : Nat → Int64) (k : Nat) : Int := (fc k).toInt
def tkP (ft : Nat → Int32) (k : Nat) : Prop := ft k ≠ 0
def filP (ff : Nat → Int32) (j v q : Nat) : Prop := v < 40 ∧ q < 16 ∧ ibit (ff (40 * j + v)) q = true
theorem i64_n {a : Nat} (h : a < 2 ^ 31) : ((nI a).toInt64).toInt = (a : Int) := by
  rw [Int32.toInt_toInt64]
  exact Int32.toInt_ofNat_of_lt h
theorem i64_e {x : Int64} {a : Nat} (h : x.toInt = (a : Int)) (ha : a < 2 ^ 31) : x = (nI a).toInt64 := Int64.toInt_inj.mp (h.trans (i64_n ha).symm)
theorem i32_n {x : Int64} {a : Nat} (h : x.toInt = (a : Int)) (ha : a < 2 ^ 31) : x.toInt32 = nI a := by
  rw [i64_e h ha]
  exact Int32.toInt32_toInt64 _
theorem i64_a {x : Int64} {a b : Nat} (h : x.toInt = (a : Int)) (ha : a < 2 ^ 31) (hb : b < 2 ^ 31) : (x + (nI b).toInt64).toInt = (a : Int) + (b : Int) := by
  rw [Int64.toInt_add, h, i64_n hb]
  have e : ((a : Int) + (b : Int)).bmod (2 ^ 64) = (a : Int) + (b : Int) := by
    rw [Int.bmod_def]
    split <;> omega
  exact e
theorem cp_in {fc : Nat → Int64} {sp dp n q : Nat} (h : q < n) : cI (va_cpy fc fc sp dp n) (dp + q) = cI fc (sp + q) := by
  unfold cI va_cpy
  rw [if_pos (by omega), show dp + q - dp = q by omega]
theorem cp_out {fc : Nat → Int64} {sp dp n k : Nat} (h : ¬ (dp ≤ k ∧ k < dp + n)) : cI (va_cpy fc fc sp dp n) k = cI fc k := by
  unfold cI va_cpy
  rw [if_neg h]
theorem up_in {fc : Nat → Int64} {a : Nat} {x : Int64} : cI (vp_updL fc a x) a = x.toInt := by
  unfold cI vp_updL
  rw [if_pos rfl]
theorem up_out {fc : Nat → Int64} {a k : Nat} {x : Int64} (h : k ≠ a) : cI (vp_updL fc a x) k = cI fc k := by
  unfold cI vp_updL
  rw [if_neg h]
theorem fil_ne {ff : Nat → Int32} {f v j w : Nat} {x : Int32} (hv : v < 40) (h : (j, w) ≠ (f, v)) : filP (upd ff (40 * f + v) x) j w = filP ff j w := funext fun q => by
  unfold filP
  by_cases hw : w < 40
  · have : 40 * j + w ≠ 40 * f + v := fun e => h (by
      have e1 : j = f := by omega
      have e2 : w = v := by omega
      rw [e1, e2])
    rw [pk_un this]
  · exact propext ⟨fun q => absurd q.1 hw, fun q => absurd q.1 hw⟩
theorem fil_eq {ff : Nat → Int32} {f v q : Nat} {x : Int32} : filP (upd ff (40 * f + v) x) f v q → v < 40 ∧ q < 16 ∧ ibit x q = true := fun h => by
  unfold filP at h
  rw [pk_us] at h
  exact h
/-- the addresses on a way -/
def adL (c : Nat → Int) : Nat → List Nat → Nat → Nat → Nat
  | a, [], o, _ => a + o
  | a, x :: _, _, 0 => a + x
  | a, x :: os, o, i + 1 => adL c (c (a + x)).toNat os o i
theorem adL_end {c : Nat → Int} {o : Nat} : ∀ {os : List Nat} {a : Nat}, adL c a os o os.length = rA c a os o
  | [], a => rfl
  | x :: os, a => by
    show adL c (c (a + x)).toNat os o os.length = rA c (c (a + x)).toNat os o
    exact adL_end
theorem adL_0 {c : Nat → Int} {o a : Nat} : ∀ {os : List Nat}, adL c a os o 0 = a + dgP (os ++ [o]) % 16 ∨ (∃ x : Nat, x ∈ os ++ [o] ∧ 16 ≤ x)
  | [] => by
    show a + o = a + (o + 16 * 0) % 16 ∨ _
    by_cases h : 16 ≤ o
    · exact Or.inr ⟨o, List.mem_append_right _ (List.mem_singleton.mpr rfl), h⟩
    · left; rw [show (o + 16 * 0) % 16 = o by omega]
  | x :: os => by
    show a + x = a + (x + 16 * dgP (os ++ [o])) % 16 ∨ _
    by_cases h : 16 ≤ x
    · exact Or.inr ⟨x, List.mem_cons_self .., h⟩
    · left; rw [show (x + 16 * dgP (os ++ [o])) % 16 = x by omega]
/-- the digit of step i -/
theorem ad_dg {c : Nat → Int} {o : Nat} (ho : o ≤ 15) : ∀ (i : Nat) {os : List Nat} {a top : Nat}, (∀ x : Nat, x ∈ os → x ≤ 15) → rOk c top a os → i < os.length → adL c a os o i < top ∧ ∃ b : Nat, c (adL c a os o i) = (b : Int) ∧ b < 2 ^ 31 ∧ adL c a os o (i + 1) = b + dgP (os ++ [o]) / 16 ^ (i + 1) % 16
  | i, [], a, top, _, _, h => absurd h (Nat.not_lt_zero _)
  | 0, x :: os, a, top, hx, hr, _ => by
    obtain ⟨r1, ⟨b, r2, r3⟩, r4⟩ := hr
    refine ⟨r1, b, r2, r3, ?_⟩
    show adL c (c (a + x)).toNat os o 0 = b + (x + 16 * dgP (os ++ [o])) / 16 ^ 1 % 16
    have hx0 := hx x (List.mem_cons_self ..)
    rw [r2, Int.toNat_natCast, Nat.pow_one, show (x + 16 * dgP (os ++ [o])) / 16 = dgP (os ++ [o]) by omega]
    rcases adL_0 (c := c) (o := o) (a := b) (os := os) with e | ⟨w, w1, w2⟩
    · exact e
    · exfalso
      rcases List.mem_append.mp w1 with q | q
      · have := hx w (List.mem_cons_of_mem _ q); omega
      · have := List.mem_singleton.mp q; omega
  | i + 1, x :: os, a, top, hx, hr, hi => by
    obtain ⟨r1, ⟨b, r2, r3⟩, r4⟩ := hr
    have hi : i + 1 < os.length + 1 := hi
    obtain ⟨q1, b2, q2, q3, q4⟩ := ad_dg ho i (fun w hw => hx w (List.mem_cons_of_mem _ hw)) r4 (by omega)
    have hx0 := hx x (List.mem_cons_self ..)
    refine ⟨q1, b2, q2, q3, ?_⟩
    show adL c (c (a + x)).toNat os o (i + 1) = b2 + (x + 16 * dgP (os ++ [o])) / 16 ^ (i + 1 + 1) % 16
    rw [q4, Nat.pow_succ 16 (i + 1), Nat.mul_comm (16 ^ (i + 1)) 16, ← Nat.div_div_eq_div_mul, show (x + 16 * dgP (os ++ [o])) / 16 = dgP (os ++ [o]) by omega]
theorem rt_nib {L D k : Nat} (hL : L < 16) (hD : L + 16 * D < 2 ^ 31) (hk : k < 7) : (nI (L + 16 * D) >>> (nI (4 + 4 * k) &&& 31)) &&& 15 = nI (D / 16 ^ k % 16) := by
  rw [nI_shr hD (by omega), nI_and15, show (2 : Nat) ^ (4 + 4 * k) = 16 * 16 ^ k by rw [show (16 : Nat) ^ k = 2 ^ (4 * k) by rw [show (16 : Nat) = 2 ^ 4 by decide, ← Nat.pow_mul], Nat.pow_add], ← Nat.div_div_eq_div_mul, show (L + 16 * D) / 16 = D by omega]
/-- a place, as the class's rows tell it -/
theorem pl_C {F : tF} {fc : Nat → Int64} {bs mln top v p T m nd o q9 : Nat} {ds os : List Nat} {pa ro : Int32} (h : plF F (cI fc) top (bs + q9) p v T m nd ds os o pa ro) (h17 : F 17 v = nI q9) (htop : top ≤ mln) (hml : mln < 2 ^ 31) : plC F fc bs mln p v T m os.length (adL (cI fc) (bs + q9) os o) ∧ adL (cI fc) (bs + q9) os o os.length = rA (cI fc) (bs + q9) os o ∧ os.length ≤ 4 := by
  obtain ⟨-, h1, h2, h3, h4, h5, h6, h7, h8, h9, hw, hn, hr, ha⟩ := h
  have hw2 := hw
  obtain ⟨w1, w2, w3, w4, w5, w6, w7⟩ := hw
  have hl : os.length ≤ 4 := by omega
  have hD : dgP (os ++ [o]) < 16 ^ (os.length + 1) := dgP_lt6 w6 w7
  have hD5 : dgP (os ++ [o]) < 16 ^ 5 := Nat.lt_of_lt_of_le hD (Nat.pow_le_pow_right (by decide) (by omega))
  have hD6 : dgP (os ++ [o]) < 1048576 := hD5
  refine ⟨⟨by omega, h3, h2, ⟨by rw [h4]; exact pW_15 hw2 hn, by omega⟩, ?_, fun i hi => ?_, h5, h6, h7, h9, by rw [adL_end]; omega⟩, adL_end, hl⟩
  · rw [h4, w4, h17]
    have e := rt_nib (L := os.length) (D := dgP (os ++ [o])) (k := 0) (by omega) (by omega) (by omega)
    rw [show (4 : Int32) = nI (4 + 4 * 0) from rfl, e, Nat.pow_zero, Nat.div_one, nI_add, nI_add]
    rcases adL_0 (c := cI fc) (o := o) (a := bs + q9) (os := os) with e | ⟨w, z1, z2⟩
    · rw [e]
    · exfalso
      rcases List.mem_append.mp z1 with q | q
      · have := w6 w q; omega
      · have := List.mem_singleton.mp q; omega
  · obtain ⟨q1, b, q2, q3, q4⟩ := ad_dg w7 i w6 hr hi
    refine ⟨by omega, ?_⟩
    have e := rt_nib (L := os.length) (D := dgP (os ++ [o])) (k := i + 1) (by omega) (by omega) (by omega)
    rw [i32_n q2 q3, h4, w4, show (4 : Int32) + 4 * nI (i + 1) = nI (4 + 4 * (i + 1)) by rw [show (4 : Int32) = nI 4 from rfl, pk_mul 4 (i + 1), nI_add], e, nI_add, q4]
theorem bit_0 {p : Int32} (h : p &&& 1 ≠ 0) : ibit p 0 = true := by
  cases e : ibit p 0 with
  | true => rfl
  | false =>
    refine absurd (ibit_ext (fun c hc => ?_)) h
    rw [ibit_and, ibit_0, ibit_1 hc]
    by_cases e9 : c = 0
    · rw [e9, e]; rfl
    · rw [decide_eq_false e9, Bool.and_false]
/-- what may be dropped, by the class's rows -/
theorem drK_of {F X : tF} {yp yt hp top mh mln : Nat} {ak : Nat → Int32} {fc : Nat → Int64} {P : Nat → Nat → Int32 → Prop} {B : Nat → Prop} (tb : tbO F X yp yt) (hak : ∀ t : Nat, t < yt → ak t = F 20 t) (hhp : hp ≤ mh) (hmh : mh ≤ 4000) (htop : top ≤ mln) (h : drC (yF F X yp yt) (zF F X yt) (cI fc) hp top P B) : drK ak (F 21) (F 22) (F 23) (X 1) (X 2) (X 3) fc mh mln (fun t a p => F 23 t ≠ 0 ∧ tyN yp (F 20) t ∧ t < yt ∧ P t a p) B := by
  have tb0 := tb
  obtain ⟨⟨t1, t2, t3, t4, t5, t6, t7, t8, -⟩, hsq, hsz, hms⟩ := tb
  intro t a p hP
  obtain ⟨p1, p2, p3, p4⟩ := hP
  obtain ⟨d1, d2, d3, d4⟩ := h t a p p4
  have nz : F 23 1 = 0 ∧ F 23 2 = 0 := ⟨t6.2.1, t6.2.2.1⟩
  -- what kind of type it is
  have kd : (t = 3 ∧ F 20 t = 1) ∨ (∃ sh : Nat, sh < yp ∧ t = 4 + sh ∧ (F 20 t = 2 ∨ F 20 t = 3)) ∨ (34 ≤ t ∧ F 20 t = 4) := by
    rcases p2 with (q | q | q) | ⟨q1, q2⟩ | q
    · rw [q] at p1; exact absurd nz.1 p1
    · rw [q] at p1; exact absurd nz.2 p1
    · exact Or.inl ⟨q, by rw [q]; exact t4.2.2.2⟩
    · exact Or.inr (Or.inl ⟨t - 4, by omega, by omega, by have := t7 (t - 4) (by omega); rw [show 4 + (t - 4) = t by omega] at this; exact this⟩)
    · exact Or.inr (Or.inr q)
  -- parts
  have prt : ∀ (sh g i n : Nat), sh < yp → (∃ m : Nat, X 0 sh = nI m ∧ m ≤ 12 ∧ g < m) → X 1 (sh * 12 + g) = nI n → n ≤ 12 → i < n → X 3 ((sh * 12 + g) * 12 + i) = nI (cN (X 3 ((sh * 12 + g) * 12 + i))) ∧ tyN yp (F 20) (cN (X 2 ((sh * 12 + g) * 12 + i))) ∧ cN (X 2 ((sh * 12 + g) * 12 + i)) < yt := fun sh g i n hsh hg hn hn12 hi => by
    obtain ⟨m, m1, m2, m3⟩ := hg
    obtain ⟨n0, a1, a2, a3, a4, a5⟩ := hsq sh hsh
    have e0 : n0 = m := (nI_eq (by omega) (by omega)).mp (a1.symm.trans m1)
    subst e0
    obtain ⟨n1, b1, b2, b3⟩ := a5 g m3
    have e1 : n1 = n := (nI_eq (by omega) (by omega)).mp (b1.symm.trans hn)
    subst e1
    obtain ⟨u, u1, u2, u3⟩ := b3 i hi
    refine ⟨x3_any (yt := yt) tb0 hsh (by rw [a1, cN_nI (by omega)]; exact m3) i (by rw [b1, cN_nI (by omega)]; exact hi), ?_, ?_⟩
    · rw [u1, cN_nI (by omega)]; exact u2
    · rw [u1, cN_nI (by omega)]; exact u3
  refine ⟨by omega, fun k2 => ?_, fun k2 hp1 => ?_⟩
  · rw [hak t p3] at k2
    obtain ⟨sh, s1, s2, -⟩ : ∃ sh : Nat, sh < yp ∧ t = 4 + sh ∧ (F 20 t = 2 ∨ F 20 t = 3) := by
      rcases kd with ⟨-, q⟩ | q | ⟨-, q⟩
      · rw [q] at k2; exact absurd k2 (by decide)
      · exact q
      · rw [q] at k2; exact absurd k2 (by decide)
    subst s2
    have es : 4 + sh - 4 = sh := by omega
    obtain ⟨n0, a1, a2, a3, a4, a5⟩ := hsq sh s1
    have n1 : n0 = 1 := a4 k2
    subst n1
    obtain ⟨n, b1, b2, -⟩ := a5 0 (by omega)
    rw [Nat.add_zero] at b1
    refine ⟨by omega, by omega, n, b2, by rw [es]; exact b1, fun i hi => ?_⟩
    obtain ⟨c1, c2, c3⟩ := prt sh 0 i n s1 ⟨1, a1, by omega, by omega⟩ (by rw [Nat.add_zero]; exact b1) b2 hi
    rw [Nat.add_zero] at c1 c2 c3
    have y2 : (yF F X yp yt).1 (4 + sh) = 2 := by
      show (if 10000 ≤ 4 + sh ∧ 4 + sh < 30000 then 5 + (4 + sh) % 2 else if 4 ≤ 4 + sh ∧ 4 + sh < 4 + yp then (if F 20 (4 + sh) = 3 then 3 else if cN (X 1 ((4 + sh - 4) * 12)) = 0 then 0 else 2) else _) = 2
      rw [if_neg (by omega), if_pos (by omega), k2, if_neg (by decide), es, b1, cN_nI (by omega), if_neg (by omega)]
    have ey : (yF F X yp yt).2.2.2.1 (4 + sh) 0 = n := by
      show cN (X 1 ((4 + sh - 4) * 12 + 0)) = n
      rw [es, Nat.add_zero, b1, cN_nI (by omega)]
    have hq := d2 y2 i (by rw [ey]; exact hi)
    have e4 : (yF F X yp yt).2.2.2.2 (4 + sh) 0 i = cN (X 2 (sh * 12 * 12 + i)) := by
      show cN (X 2 (((4 + sh - 4) * 12 + 0) * 12 + i)) = _
      rw [es, Nat.add_zero]
    have e5 : (zF F X yt).2 (4 + sh) 0 i = cN (X 3 (sh * 12 * 12 + i)) := by
      show cN (X 3 (((4 + sh - 4) * 12 + 0) * 12 + i)) = _
      rw [es, Nat.add_zero]
    rw [e4, e5] at hq
    rw [es]
    exact ⟨_, c1, fun q => ⟨q, c2, c3, hq⟩⟩
  · have hb := bit_0 hp1
    rw [hak t p3] at k2
    have y2 : (yF F X yp yt).1 t ≠ 2 := fun q => by
      rcases kd with ⟨q1, -⟩ | ⟨sh, s1, s2, s3⟩ | ⟨q1, q2⟩
      · have q : (if 10000 ≤ t ∧ t < 30000 then 5 + t % 2 else if 4 ≤ t ∧ t < 4 + yp then (if F 20 t = 3 then 3 else if cN (X 1 ((t - 4) * 12)) = 0 then 0 else 2) else if 34 ≤ t ∧ t < yt ∧ F 20 t = 4 then 4 else 0) = 2 := q
        rw [if_neg (by omega), if_neg (by omega), if_neg (by omega)] at q
        exact absurd q (by decide)
      · have q : (if 10000 ≤ t ∧ t < 30000 then 5 + t % 2 else if 4 ≤ t ∧ t < 4 + yp then (if F 20 t = 3 then 3 else if cN (X 1 ((t - 4) * 12)) = 0 then 0 else 2) else if 34 ≤ t ∧ t < yt ∧ F 20 t = 4 then 4 else 0) = 2 := q
        rw [if_neg (by omega), if_pos (by omega), if_pos (s3.resolve_left k2)] at q
        exact absurd q (by decide)
      · have q : (if 10000 ≤ t ∧ t < 30000 then 5 + t % 2 else if 4 ≤ t ∧ t < 4 + yp then (if F 20 t = 3 then 3 else if cN (X 1 ((t - 4) * 12)) = 0 then 0 else 2) else if 34 ≤ t ∧ t < yt ∧ F 20 t = 4 then 4 else 0) = 2 := q
        rw [if_neg (by omega), if_neg (by omega), if_pos ⟨q1, p3, q2⟩] at q
        exact absurd q (by decide)
    have ha := d1 y2 hb
    refine ⟨by omega, fun k3 => ?_, fun k3 k1 => ?_⟩
    · rw [hak t p3] at k3
      obtain ⟨sh, s1, s2, -⟩ : ∃ sh : Nat, sh < yp ∧ t = 4 + sh ∧ (F 20 t = 2 ∨ F 20 t = 3) := by
        rcases kd with ⟨-, q⟩ | q | ⟨-, q⟩
        · rw [q] at k3; exact absurd k3 (by decide)
        · exact q
        · rw [q] at k3; exact absurd k3 (by decide)
      subst s2
      have es : 4 + sh - 4 = sh := by omega
      have y3 : (yF F X yp yt).1 (4 + sh) = 3 := by
        show (if 10000 ≤ 4 + sh ∧ 4 + sh < 30000 then 5 + (4 + sh) % 2 else if 4 ≤ 4 + sh ∧ 4 + sh < 4 + yp then (if F 20 (4 + sh) = 3 then 3 else if cN (X 1 ((4 + sh - 4) * 12)) = 0 then 0 else 2) else _) = 3
        rw [if_neg (by omega), if_pos (by omega), if_pos k3]
      obtain ⟨g, g1, g2, g3⟩ := d3 y3 hb
      obtain ⟨n0, a1, a2, a3, a4, a5⟩ := hsq sh s1
      have ev : (yF F X yp yt).2.2.1 (4 + sh) = n0 := by
        show cN (X 0 (4 + sh - 4)) = n0
        rw [es, a1, cN_nI (by omega)]
      rw [ev] at g2
      obtain ⟨n, b1, b2, -⟩ := a5 g g2
      refine ⟨by omega, by omega, g, n, by omega, b2, i32_n g1 (by omega), by rw [es]; exact b1, fun i hi => ?_⟩
      obtain ⟨c1, c2, c3⟩ := prt sh g i n s1 ⟨n0, a1, by omega, g2⟩ b1 b2 hi
      have ey : (yF F X yp yt).2.2.2.1 (4 + sh) g = n := by
        show cN (X 1 ((4 + sh - 4) * 12 + g)) = n
        rw [es, b1, cN_nI (by omega)]
      have e4 : (yF F X yp yt).2.2.2.2 (4 + sh) g i = cN (X 2 ((sh * 12 + g) * 12 + i)) := by
        show cN (X 2 (((4 + sh - 4) * 12 + g) * 12 + i)) = _
        rw [es]
      have e5 : (zF F X yt).2 (4 + sh) g i = cN (X 3 ((sh * 12 + g) * 12 + i)) := by
        show cN (X 3 (((4 + sh - 4) * 12 + g) * 12 + i)) = _
        rw [es]
      rw [es]
      refine ⟨_, c1, fun q p2 => ⟨q, c2, c3, ?_⟩⟩
      have hq := g3 i p2 (by rw [ey]; exact hi)
      rw [e4, e5] at hq
      exact hq
    · rw [hak t p3] at k3 k1
      obtain ⟨q1, q2⟩ : 34 ≤ t ∧ F 20 t = 4 := by
        rcases kd with ⟨-, q⟩ | ⟨sh, -, -, q | q⟩ | q
        · exact absurd q k1
        · exact absurd q k2
        · exact absurd q k3
        · exact q
      have y4 : (yF F X yp yt).1 t = 4 := by
        show (if 10000 ≤ t ∧ t < 30000 then 5 + t % 2 else if 4 ≤ t ∧ t < 4 + yp then (if F 20 t = 3 then 3 else if cN (X 1 ((t - 4) * 12)) = 0 then 0 else 2) else if 34 ≤ t ∧ t < yt ∧ F 20 t = 4 then 4 else 0) = 4
        rw [if_neg (by omega), if_neg (by omega), if_pos ⟨q1, p3, q2⟩]
      obtain ⟨b, b1, b2, b3, b4⟩ := d4 y4 hb
      obtain ⟨-, -, -, u, u1, u2, u3⟩ := t8 t q1 p3
      have eo : (yF F X yp yt).2.1 t = u := by
        show (if 10000 ≤ t then (t - 10000) / 2 else cN (F 21 t)) = u
        rw [if_neg (by omega)]
        have u2 : F 21 t = nI u := u2
        rw [u2, cN_nI (by omega)]
      rw [eo] at b2 b3 b4
      have u3 : tyN yp (F 20) u := u3
      obtain ⟨z1, z2, z3⟩ := ty_sz tb0 (u := u) ⟨Or.inl u3, by omega⟩
      rw [ymF_n tb0 u3] at z1
      rw [z1] at b2 b3
      exact ⟨b, u, cN (F 22 u), i32_n b1 (by omega), u2, by omega, nI_cN z2, by omega, b3, fun q p2 => ⟨q, u3, by omega, b4 p2⟩⟩
end
