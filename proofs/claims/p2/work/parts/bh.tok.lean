/-- F, as the rows will be, agrees with the tables of types and variables of t -/
def tFu (t : tgS) (F : tF) : Prop := (∀ k : Nat, 20 ≤ k → k < 24 → ∀ i : Nat, i < t.1 7 → F k i = t.2 k i) ∧ ∀ v : Nat, v < t.1 4 → (t.2 15 v ≠ -1 → F 15 v = t.2 15 v ∧ F 17 v = t.2 17 v) ∧ F 16 v = t.2 16 v ∧ F 18 v = t.2 18 v ∧ (t.2 19 v ≠ 1073741824 → F 19 v = t.2 19 v) ∧ (t.2 19 v = 1073741824 → ∃ e : Nat, F 19 v = nI e ∧ t.1 0 ≤ e ∧ e ≤ 2 ^ 30)
/-- and with what came between s and t -/
def tAg (s t : tgS) (F : tF) : Prop := (∀ k : Nat, k < 5 → ∀ i : Nat, s.1 0 ≤ i → i < t.1 0 → F k i = t.2 k i) ∧ (∀ k : Nat, 6 ≤ k → k < 13 → ∀ i : Nat, s.1 2 ≤ i → i < t.1 2 → F k i = t.2 k i) ∧ (∀ i : Nat, s.1 3 ≤ i → i < t.1 3 → F 13 i = t.2 13 i) ∧ tFu t F
/-- variable v of s is the same in t, or was settled, or closed -/
def tXv (s t : tgS) (v : Nat) : Prop := t.2 14 v = s.2 14 v ∧ t.2 16 v = s.2 16 v ∧ t.2 18 v = s.2 18 v ∧ (s.2 15 v ≠ -1 → t.2 15 v = s.2 15 v ∧ t.2 17 v = s.2 17 v) ∧ (t.2 19 v = s.2 19 v ∨ (s.2 19 v = 1073741824 ∧ ∃ e : Nat, t.2 19 v = nI e ∧ s.1 0 ≤ e ∧ e < 2 ^ 30))
/-- t is s and more -/
def tXt (s t : tgS) : Prop := (∀ k : Nat, k < 9 → s.1 k ≤ t.1 k) ∧ (∀ k : Nat, k < 5 → ∀ i : Nat, i < s.1 0 → t.2 k i = s.2 k i) ∧ (∀ k : Nat, 6 ≤ k → k < 13 → ∀ i : Nat, i < s.1 2 → t.2 k i = s.2 k i) ∧ (∀ i : Nat, i < s.1 3 → t.2 13 i = s.2 13 i) ∧ (∀ k : Nat, 20 ≤ k → k < 24 → ∀ i : Nat, i < s.1 7 → t.2 k i = s.2 k i) ∧ ∀ v : Nat, v < s.1 4 → tXv s t v
theorem tXt_rf {s : tgS} : tXt s s := ⟨fun _ _ => Nat.le_refl _, fun _ _ _ _ => rfl, fun _ _ _ _ _ => rfl, fun _ _ => rfl, fun _ _ _ _ _ => rfl, fun _ _ => ⟨rfl, rfl, rfl, fun _ => ⟨rfl, rfl⟩, Or.inl rfl⟩⟩
theorem open_ne {e : Nat} (h : e < 2 ^ 30) : nI e ≠ 1073741824 := fun q => by
  have h2 : e = 1073741824 := (nI_eq (a := e) (b := 1073741824) (by omega) (by decide)).mp q
  omega
theorem tXt_tr {s u t : tgS} (h1 : tXt s u) (h2 : tXt u t) : tXt s t := by
  obtain ⟨a1, a2, a3, a4, a5, a6⟩ := h1
  obtain ⟨b1, b2, b3, b4, b5, b6⟩ := h2
  have c0 := a1 0 (by decide); have c2 := a1 2 (by decide); have c3 := a1 3 (by decide); have c4 := a1 4 (by decide); have c7 := a1 7 (by decide)
  refine ⟨fun k hk => Nat.le_trans (a1 k hk) (b1 k hk), fun k hk i hi => (b2 k hk i (by omega)).trans (a2 k hk i hi), fun k h h' i hi => (b3 k h h' i (by omega)).trans (a3 k h h' i hi), fun i hi => (b4 i (by omega)).trans (a4 i hi), fun k h h' i hi => (b5 k h h' i (by omega)).trans (a5 k h h' i hi), fun v hv => ?_⟩
  obtain ⟨d1, d2, d3, d4, d5⟩ := a6 v hv
  obtain ⟨e1, e2, e3, e4, e5⟩ := b6 v (by omega)
  refine ⟨e1.trans d1, e2.trans d2, e3.trans d3, fun h => ?_, ?_⟩
  · obtain ⟨f1, f2⟩ := d4 h
    obtain ⟨g1, g2⟩ := e4 (by rw [f1]; exact h)
    exact ⟨g1.trans f1, g2.trans f2⟩
  · rcases e5 with e5 | ⟨e5, e, e6, e7, e8⟩
    · rcases d5 with d5 | ⟨d5, e, d6, d7, d8⟩
      · exact Or.inl (e5.trans d5)
      · exact Or.inr ⟨d5, e, e5.trans d6, d7, d8⟩
    · rcases d5 with d5 | ⟨d5, e', d6, d7, d8⟩
      · exact Or.inr ⟨d5.symm.trans e5, e, e6, by omega, e8⟩
      · exact absurd (d6.symm.trans e5) (open_ne d8)
theorem tFu_dn {s t : tgS} {F : tF} (h : tFu t F) (hx : tXt s t) : tFu s F := by
  obtain ⟨a1, a2, a3, a4, a5, a6⟩ := hx
  obtain ⟨h1, h2⟩ := h
  have c0 := a1 0 (by decide); have c4 := a1 4 (by decide); have c7 := a1 7 (by decide)
  refine ⟨fun k h h' i hi => (h1 k h h' i (by omega)).trans (a5 k h h' i hi), fun v hv => ?_⟩
  obtain ⟨d1, d2, d3, d4, d5⟩ := a6 v hv
  obtain ⟨e1, e2, e3, e4, e5⟩ := h2 v (by omega)
  refine ⟨fun h => ?_, e2.trans d2, e3.trans d3, fun h => ?_, fun h => ?_⟩
  · obtain ⟨f1, f2⟩ := d4 h
    obtain ⟨g1, g2⟩ := e1 (by rw [f1]; exact h)
    exact ⟨g1.trans f1, g2.trans f2⟩
  · rcases d5 with d5 | ⟨d5, -⟩
    · exact (e4 (by rw [d5]; exact h)).trans d5
    · exact absurd d5 h
  · rcases d5 with d5 | ⟨-, e, d6, d7, d8⟩
    · obtain ⟨e, g1, g2, g3⟩ := e5 (d5.trans h)
      exact ⟨e, g1, by omega, g3⟩
    · exact ⟨e, (e4 (by rw [d6]; exact open_ne d8)).trans d6, d7, Nat.le_of_lt d8⟩
theorem tAg_l {s u t : tgS} {F : tF} (h : tAg s t F) (hx : tXt u t) (hs : tXt s u) : tAg s u F := by
  obtain ⟨h1, h2, h3, h4⟩ := h
  have c0 := hx.1 0 (by decide); have c2 := hx.1 2 (by decide); have c3 := hx.1 3 (by decide)
  exact ⟨fun k hk i hi hj => (h1 k hk i hi (by omega)).trans (hx.2.1 k hk i hj), fun k hk hk' i hi hj => (h2 k hk hk' i hi (by omega)).trans (hx.2.2.1 k hk hk' i hj), fun i hi hj => (h3 i hi (by omega)).trans (hx.2.2.2.1 i hj), tFu_dn h4 hx⟩
theorem tAg_r {s u t : tgS} {F : tF} (h : tAg s t F) (hs : tXt s u) : tAg u t F := by
  obtain ⟨h1, h2, h3, h4⟩ := h
  have c0 := hs.1 0 (by decide); have c2 := hs.1 2 (by decide); have c3 := hs.1 3 (by decide)
  exact ⟨fun k hk i hi hj => h1 k hk i (by omega) hj, fun k hk hk' i hi hj => h2 k hk hk' i (by omega) hj, fun i hi hj => h3 i (by omega) hj, h4⟩
def isL (x : Int32) : Prop := x = 13 ∨ x = 14
/-- each label that is set stands where labelAt says -/
def lbI (s : tgS) : Prop := ∀ i : Nat, i < s.1 0 → isL (s.2 0 i) → ∃ L : Nat, L < s.1 1 ∧ s.2 1 i = nI L ∧ s.2 5 L = nI i
/-- label L was made and isn't set -/
def lbU (s : tgS) (L : Nat) : Prop := L < s.1 1 ∧ ∀ i : Nat, i < s.1 0 → isL (s.2 0 i) → s.2 1 i ≠ nI L
abbrev tR := tF → Nat → Nat → Prop
/-- the variables' ends stay as they are -/
def tOp (s t : tgS) : Prop := ∀ v : Nat, v < s.1 4 → t.2 19 v = s.2 19 v
theorem tOp_tr {s u t : tgS} (h1 : tOp s u) (h2 : tOp u t) (h4 : s.1 4 ≤ u.1 4) : tOp s t := fun v hv => (h2 v (by omega)).trans (h1 v hv)
/-- from s to t came R; labels from lo on were set; so many instructions, half labels, places, arms, types -/
def tOK (lo n0 n1 n2 n3 n7 : Nat) (s t : tgS) (R : tR) : Prop := tXt s t ∧ ((∀ i : Nat, s.1 0 ≤ i → i < t.1 0 → isL (t.2 0 i) → ∃ L : Nat, lo ≤ L ∧ L < t.1 1 ∧ t.2 1 i = nI L) ∧ tOp s t) ∧ (t.1 0 ≤ s.1 0 + n0 ∧ 2 * t.1 1 ≤ 2 * s.1 1 + n1 ∧ t.1 2 ≤ s.1 2 + n2 ∧ t.1 3 ≤ s.1 3 + n3 ∧ t.1 7 ≤ s.1 7 + n7) ∧ ∀ F : tF, tAg s t F → R F (s.1 0) (t.1 0)
def tSq (R1 R2 : tR) : tR := fun F a b => ∃ m : Nat, a ≤ m ∧ m ≤ b ∧ R1 F a m ∧ R2 F m b
theorem tOK_seq {lo n0 n1 n2 n3 n7 m0 m1 m2 m3 m7 : Nat} {s u t : tgS} {R1 R2 : tR} (h1 : tOK lo n0 n1 n2 n3 n7 s u R1) (h2 : tOK lo m0 m1 m2 m3 m7 u t R2) : tOK lo (n0 + m0) (n1 + m1) (n2 + m2) (n3 + m3) (n7 + m7) s t (tSq R1 R2) := by
  obtain ⟨a1, a2, a3, a4⟩ := h1
  obtain ⟨b1, b2, b3, b4⟩ := h2
  refine ⟨tXt_tr a1 b1, ⟨fun i hi hj hL => ?_, tOp_tr a2.2 b2.2 (a1.1 4 (by decide))⟩, by omega, fun F hF => ⟨u.1 0, a1.1 0 (by decide), b1.1 0 (by decide), a4 F (tAg_l hF b1 a1), b4 F (tAg_r hF a1)⟩⟩
  have c1 := b1.1 1 (by decide)
  rcases Nat.lt_or_ge i (u.1 0) with c | c
  · rw [b1.2.1 0 (by decide) i c] at hL
    obtain ⟨L, q1, q2, q3⟩ := a2.1 i hi c hL
    exact ⟨L, q1, by omega, (b1.2.1 1 (by decide) i c).trans q3⟩
  · exact b2.1 i c hj hL
theorem tOK_mono {lo lo2 n0 n1 n2 n3 n7 m0 m1 m2 m3 m7 : Nat} {s t : tgS} {R R2 : tR} (h : tOK lo n0 n1 n2 n3 n7 s t R) (hl : lo2 ≤ lo) (hn : n0 ≤ m0 ∧ n1 ≤ m1 ∧ n2 ≤ m2 ∧ n3 ≤ m3 ∧ n7 ≤ m7) (hR : ∀ (F : tF) (a b : Nat), a ≤ b → tFu t F → R F a b → R2 F a b) : tOK lo2 m0 m1 m2 m3 m7 s t R2 := by
  obtain ⟨a1, a2, a3, a4⟩ := h
  refine ⟨a1, ⟨fun i hi hj hL => ?_, a2.2⟩, by omega, fun F hF => hR F _ _ (a1.1 0 (by decide)) hF.2.2.2 (a4 F hF)⟩
  obtain ⟨L, q1, q2, q3⟩ := a2.1 i hi hj hL
  exact ⟨L, by omega, q2, q3⟩
theorem tOK_rf {lo : Nat} {s : tgS} : tOK lo 0 0 0 0 0 s s (fun _ a b => a = b) := ⟨tXt_rf, ⟨fun i h1 h2 => absurd h1 (by omega), fun _ _ => rfl⟩, by omega, fun _ _ => rfl⟩
theorem lbU_x {lo n0 n1 n2 n3 n7 L : Nat} {s t : tgS} {R : tR} (h : lbU s L) (hx : tOK lo n0 n1 n2 n3 n7 s t R) (hL : L < lo) (hb : t.1 1 ≤ 1100) : lbU t L := by
  obtain ⟨a1, a2, a3, a4⟩ := hx
  have c1 := a1.1 1 (by decide)
  have hLs := h.1
  refine ⟨by omega, fun i hi hj => ?_⟩
  rcases Nat.lt_or_ge i (s.1 0) with c | c
  · rw [a1.2.1 0 (by decide) i c] at hj
    rw [a1.2.1 1 (by decide) i c]
    exact h.2 i c hj
  · obtain ⟨M, q1, q2, q3⟩ := a2.1 i c hi hj
    intro q
    have h3 := (nI_eq (a := M) (b := L) (by omega) (by omega)).mp (q3.symm.trans q)
    omega
theorem insA_lt {ct ct2 : Nat} {f g : Nat → Int32} {x : Int32} (h : insA ct ct2 f g x) (hc : ct < 6000) : ct2 = ct + 1 ∧ g = upd f ct x := by
  rcases h with ⟨-, h2, h3⟩ | ⟨h1, -⟩
  · exact ⟨h2, h3⟩
  · omega
/-- one instruction -/
def tIn (x0 x1 x2 x3 x4 : Int32) : tR := fun F a b => b = a + 1 ∧ F 0 a = x0 ∧ F 1 a = x1 ∧ F 2 a = x2 ∧ F 3 a = x3 ∧ F 4 a = x4
theorem tXt_ad {s t : tgS} {x0 x1 x2 x3 x4 : Int32} (h : tAd s t x0 x1 x2 x3 x4) (hc : s.1 0 < 6000) : tXt s t := by
  obtain ⟨a1, a2, b0, b1, b2, b3, b4⟩ := h
  obtain ⟨e, b0⟩ := insA_lt b0 hc
  have b1 := (insA_lt b1 hc).2; have b2 := (insA_lt b2 hc).2; have b3 := (insA_lt b3 hc).2; have b4 := (insA_lt b4 hc).2
  refine ⟨fun k hk => ?_, fun k hk i hi => ?_, fun k h1 h2 i hi => by rw [a2 k (by omega)], fun i hi => by rw [a2 13 (by decide)], fun k h1 h2 i hi => by rw [a2 k (by omega)], fun v hv => ⟨by rw [a2 14 (by decide)], by rw [a2 16 (by decide)], by rw [a2 18 (by decide)], fun _ => ⟨by rw [a2 15 (by decide)], by rw [a2 17 (by decide)]⟩, Or.inl (by rw [a2 19 (by decide)])⟩⟩
  · rcases Nat.eq_zero_or_pos k with z | z
    · subst z; omega
    · rw [a1 k z]; exact Nat.le_refl _
  · match k, hk with
    | 0, _ => rw [b0]; exact pk_un (by omega)
    | 1, _ => rw [b1]; exact pk_un (by omega)
    | 2, _ => rw [b2]; exact pk_un (by omega)
    | 3, _ => rw [b3]; exact pk_un (by omega)
    | 4, _ => rw [b4]; exact pk_un (by omega)
theorem tOK_ad {lo : Nat} {s t : tgS} {x0 x1 x2 x3 x4 : Int32} (h : tAd s t x0 x1 x2 x3 x4) (hc : s.1 0 < 6000) (hL : ¬ isL x0) : tOK lo 1 0 0 0 0 s t (tIn x0 x1 x2 x3 x4) := by
  have hx := tXt_ad h hc
  obtain ⟨a1, a2, b0, b1, b2, b3, b4⟩ := h
  obtain ⟨e, b0⟩ := insA_lt b0 hc
  have b1 := (insA_lt b1 hc).2; have b2 := (insA_lt b2 hc).2; have b3 := (insA_lt b3 hc).2; have b4 := (insA_lt b4 hc).2
  refine ⟨hx, ⟨fun i h1 h2 h3 => ?_, fun v _ => by rw [a2 19 (by decide)]⟩, ⟨by omega, by rw [a1 1 (by decide)]; omega, by rw [a1 2 (by decide)]; omega, by rw [a1 3 (by decide)]; omega, by rw [a1 7 (by decide)]; omega⟩, fun F hF => ⟨e, ?_, ?_, ?_, ?_, ?_⟩⟩
  · obtain rfl : i = s.1 0 := by omega
    rw [b0, pk_us] at h3; exact absurd h3 hL
  · rw [hF.1 0 (by decide) _ (Nat.le_refl _) (by omega), b0, pk_us]
  · rw [hF.1 1 (by decide) _ (Nat.le_refl _) (by omega), b1, pk_us]
  · rw [hF.1 2 (by decide) _ (Nat.le_refl _) (by omega), b2, pk_us]
  · rw [hF.1 3 (by decide) _ (Nat.le_refl _) (by omega), b3, pk_us]
  · rw [hF.1 4 (by decide) _ (Nat.le_refl _) (by omega), b4, pk_us]
/-- a place p came -/
def tPR (p : Nat) (x1 x2 x3 x4 x5 x6 x7 : Int32) : tR := fun F a b => b = a ∧ F 6 p = x1 ∧ F 7 p = x2 ∧ F 8 p = x3 ∧ F 9 p = x4 ∧ F 10 p = x5 ∧ F 11 p = x7 ∧ F 12 p = pCells x4 x6
theorem tOK_pl {lo : Nat} {s t : tgS} {x1 x2 x3 x4 x5 x6 x7 : Int32} (h : tPl s t x1 x2 x3 x4 x5 x6 x7) (hc : s.1 2 < 3001) : tOK lo 0 0 1 0 0 s t (tPR (s.1 2) x1 x2 x3 x4 x5 x6 x7) := by
  obtain ⟨a1, a2, e, b1, b2, b3, b4, b5, b6, b7⟩ := h
  have e : t.1 2 = s.1 2 + 1 := by omega
  have g : ∀ k : Nat, 6 ≤ k → k < 13 → ∀ i : Nat, i ≠ s.1 2 → t.2 k i = s.2 k i := fun k h1 h2 i hi => by
    match k, h1, h2 with
    | 6, _, _ => rw [b1]; exact pk_un hi
    | 7, _, _ => rw [b2]; exact pk_un hi
    | 8, _, _ => rw [b3]; exact pk_un hi
    | 9, _, _ => rw [b4]; exact pk_un hi
    | 10, _, _ => rw [b5]; exact pk_un hi
    | 11, _, _ => rw [b6]; exact pk_un hi
    | 12, _, _ => rw [b7]; exact pk_un hi
  refine ⟨⟨fun k hk => ?_, fun k hk i hi => by rw [a2 k (by omega)], fun k h1 h2 i hi => g k h1 h2 i (by omega), fun i hi => by rw [a2 13 (by decide)], fun k h1 h2 i hi => by rw [a2 k (by omega)], fun v hv => ⟨by rw [a2 14 (by decide)], by rw [a2 16 (by decide)], by rw [a2 18 (by decide)], fun _ => ⟨by rw [a2 15 (by decide)], by rw [a2 17 (by decide)]⟩, Or.inl (by rw [a2 19 (by decide)])⟩⟩, ⟨fun i h1 h2 h3 => absurd h2 (by rw [a1 0 (by decide)]; omega), fun v _ => by rw [a2 19 (by decide)]⟩, ⟨by rw [a1 0 (by decide)]; omega, by rw [a1 1 (by decide)]; omega, by omega, by rw [a1 3 (by decide)]; omega, by rw [a1 7 (by decide)]; omega⟩, fun F hF => ⟨a1 0 (by decide), ?_, ?_, ?_, ?_, ?_, ?_, ?_⟩⟩
  · by_cases z : k = 2
    · subst z; omega
    · rw [a1 k z]; exact Nat.le_refl _
  · rw [hF.2.1 6 (by decide) (by decide) _ (Nat.le_refl _) (by omega), b1, pk_us]
  · rw [hF.2.1 7 (by decide) (by decide) _ (Nat.le_refl _) (by omega), b2, pk_us]
  · rw [hF.2.1 8 (by decide) (by decide) _ (Nat.le_refl _) (by omega), b3, pk_us]
  · rw [hF.2.1 9 (by decide) (by decide) _ (Nat.le_refl _) (by omega), b4, pk_us]
  · rw [hF.2.1 10 (by decide) (by decide) _ (Nat.le_refl _) (by omega), b5, pk_us]
  · rw [hF.2.1 11 (by decide) (by decide) _ (Nat.le_refl _) (by omega), b6, pk_us]
  · rw [hF.2.1 12 (by decide) (by decide) _ (Nat.le_refl _) (by omega), b7, pk_us]
theorem tOK_lo {lo lo2 n0 n1 n2 n3 n7 : Nat} {s t : tgS} {R : tR} (h : tOK lo n0 n1 n2 n3 n7 s t R) (hl : lo2 ≤ lo) : tOK lo2 n0 n1 n2 n3 n7 s t R := tOK_mono h hl ⟨Nat.le_refl _, Nat.le_refl _, Nat.le_refl _, Nat.le_refl _, Nat.le_refl _⟩ (fun _ _ _ _ _ hz => hz)
theorem tOK_mn {lo lo2 n0 n1 n2 n3 n7 m0 m1 m2 m3 m7 : Nat} {s t : tgS} {R R2 : tR} (h : tOK lo n0 n1 n2 n3 n7 s t R) (hl : lo2 ≤ lo) (hn : n0 ≤ m0 ∧ n1 ≤ m1 ∧ n2 ≤ m2 ∧ n3 ≤ m3 ∧ n7 ≤ m7) (hR : ∀ F : tF, tAg s t F → R F (s.1 0) (t.1 0) → R2 F (s.1 0) (t.1 0)) : tOK lo2 m0 m1 m2 m3 m7 s t R2 := by
  obtain ⟨a1, a2, a3, a4⟩ := h
  refine ⟨a1, ⟨fun i hi hj hL => ?_, a2.2⟩, by omega, fun F hF => hR F hF (a4 F hF)⟩
  obtain ⟨L, q1, q2, q3⟩ := a2.1 i hi hj hL
  exact ⟨L, by omega, q2, q3⟩
/-- the first n variables that are open at a are in scope in st -/
def scX (n : Nat) (F : tF) (a : Nat) (st : List tE) : Prop := ∀ v e : Nat, v < n → F 19 v = nI e → e ≤ 2 ^ 30 → a < e → (8, v, 0) ∈ st
theorem scX_m {n : Nat} {F : tF} {a m : Nat} {st : List tE} (h : scX n F a st) (hm : a ≤ m) : scX n F m st := fun v e h1 h2 h3 h4 => h v e h1 h2 h3 (by omega)
theorem scX_c {n : Nat} {F : tF} {a m : Nat} {x : tE} {st : List tE} (h : scX n F a st) (hm : a ≤ m) : scX n F m (x :: st) := fun v e h1 h2 h3 h4 => List.mem_cons_of_mem _ (h v e h1 h2 h3 (by omega))
theorem scX_a {n : Nat} {F : tF} {a m : Nat} {E st : List tE} (h : scX n F a st) (hm : a ≤ m) : scX n F m (E ++ st) := fun v e h1 h2 h3 h4 => List.mem_append_right _ (h v e h1 h2 h3 (by omega))
theorem sc_mem {n a v : Nat} {F : tF} {s t : tgS} {O : List tE} (hsc : scX n F a O) (hx : tXt s t) (ho : tOp s t) (hF : tFu t F) (hv : v < s.1 4) (hn : s.1 4 ≤ n) (h19 : s.2 19 v = 1073741824) (h0 : a < t.1 0) : (8, v, 0) ∈ O := by
  have c4 := hx.1 4 (by decide)
  obtain ⟨-, -, -, -, g5⟩ := hF.2 v (by omega)
  obtain ⟨e, e1, e2, e3⟩ := g5 ((ho v hv).trans h19)
  exact hsc v e (by omega) e1 e3 (by omega)
