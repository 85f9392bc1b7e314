/-- the state with a function's numbers and rows -/
def tgF (s : tgS) (n : Nat) (r : Nat → Nat → Int32) : tgS := (fun k => match k with | 0 => s.1 0 | 1 => s.1 1 | 2 => s.1 2 | 3 => s.1 3 | 4 => n | 5 => 0 | 6 => 0 | k + 7 => s.1 (k + 7), fun k => match k with | 0 => s.2 0 | 1 => s.2 1 | 2 => s.2 2 | 3 => s.2 3 | 4 => s.2 4 | 5 => s.2 5 | 6 => s.2 6 | 7 => s.2 7 | 8 => s.2 8 | 9 => s.2 9 | 10 => s.2 10 | 11 => s.2 11 | 12 => s.2 12 | 13 => s.2 13 | 14 => r 2 | 15 => r 3 | 16 => r 4 | 17 => r 5 | 18 => r 6 | 19 => r 7 | k + 20 => s.2 (k + 20))
def tgZ (s : tgS) : tgS := (fun k => match k with | 0 => 0 | 1 => 0 | 2 => 0 | 3 => 0 | k + 4 => s.1 (k + 4), s.2)
theorem tgF_r {s : tgS} {n : Nat} {r : Nat → Nat → Int32} : ∀ k : Nat, k < 14 ∨ 20 ≤ k → (tgF s n r).2 k = s.2 k
  | 0, _ => rfl
  | 1, _ => rfl
  | 2, _ => rfl
  | 3, _ => rfl
  | 4, _ => rfl
  | 5, _ => rfl
  | 6, _ => rfl
  | 7, _ => rfl
  | 8, _ => rfl
  | 9, _ => rfl
  | 10, _ => rfl
  | 11, _ => rfl
  | 12, _ => rfl
  | 13, _ => rfl
  | 14, h => by omega
  | 15, h => by omega
  | 16, h => by omega
  | 17, h => by omega
  | 18, h => by omega
  | 19, h => by omega
  | k + 20, _ => rfl
theorem tgF_c {s : tgS} {n : Nat} {r : Nat → Nat → Int32} : ∀ k : Nat, k < 4 ∨ 7 ≤ k → (tgF s n r).1 k = s.1 k
  | 0, _ => rfl
  | 1, _ => rfl
  | 2, _ => rfl
  | 3, _ => rfl
  | 4, h => by omega
  | 5, h => by omega
  | 6, h => by omega
  | k + 7, _ => rfl
/-- code, places, arms and types grew -/
def tGw (s t : tgS) : Prop := (∀ k : Nat, k < 4 ∨ k = 7 → s.1 k ≤ t.1 k) ∧ (∀ k : Nat, k < 5 → ∀ i : Nat, i < s.1 0 → t.2 k i = s.2 k i) ∧ (∀ k : Nat, 6 ≤ k → k < 13 → ∀ i : Nat, i < s.1 2 → t.2 k i = s.2 k i) ∧ (∀ i : Nat, i < s.1 3 → t.2 13 i = s.2 13 i) ∧ ∀ k : Nat, 20 ≤ k → k < 24 → ∀ i : Nat, i < s.1 7 → t.2 k i = s.2 k i
theorem tGw_rf {s : tgS} : tGw s s := ⟨fun _ _ => Nat.le_refl _, fun _ _ _ _ => rfl, fun _ _ _ _ _ => rfl, fun _ _ => rfl, fun _ _ _ _ _ => rfl⟩
theorem tGw_of {s t : tgS} (h : tXt s t) : tGw s t := ⟨fun k hk => h.1 k (by omega), h.2.1, h.2.2.1, h.2.2.2.1, h.2.2.2.2.1⟩
theorem tGw_tr {s u t : tgS} (h1 : tGw s u) (h2 : tGw u t) : tGw s t := by
  have c0 := h1.1 0 (by omega); have c2 := h1.1 2 (by omega); have c3 := h1.1 3 (by omega); have c7 := h1.1 7 (by omega)
  refine ⟨fun k hk => Nat.le_trans (h1.1 k hk) (h2.1 k hk), fun k hk i hi => ?_, fun k ha hb i hi => ?_, fun i hi => ?_, fun k ha hb i hi => ?_⟩
  · rw [h2.2.1 k hk i (by omega)]; exact h1.2.1 k hk i hi
  · rw [h2.2.2.1 k ha hb i (by omega)]; exact h1.2.2.1 k ha hb i hi
  · rw [h2.2.2.2.1 i (by omega)]; exact h1.2.2.2.1 i hi
  · rw [h2.2.2.2.2 k ha hb i (by omega)]; exact h1.2.2.2.2 k ha hb i hi
/-- function g was typed: x its numbers, y its rows -/
def fnD (yp : Nat) (X : tF) (G : Nat → Nat → Nat) (g : Nat) (x : Nat → Int32) (y : Nat → Nat → Int32) (Z : tgS) : Prop := ∃ (p q : Nat) (S T : tgS), bdF yp X G (G g 1) p q (G g 0) S T (x 4) (x 9) (x 10) (x 11) (x 12) ∧ tJ T ∧ x 7 = nI (T.1 4) ∧ x 13 = nI (T.1 5) ∧ x 8 = nI (T.1 6) ∧ (∀ k : Nat, 2 ≤ k → k < 8 → y k = T.2 (k + 12)) ∧ tGw T Z ∧ ∀ j : Nat, j < G g 0 → (S.2 15 j = nI (G g (j + 2)) ∧ G g (j + 2) < S.1 7) ∧ S.1 4 = G g 0
theorem fnD_up {yp g : Nat} {X : tF} {G : Nat → Nat → Nat} {x : Nat → Int32} {y : Nat → Nat → Int32} {Z Z2 : tgS} (h : fnD yp X G g x y Z) (hz : tGw Z Z2) : fnD yp X G g x y Z2 := by
  obtain ⟨p, q, S, T, h1, h2, h3, h4, h5, h6, h7, h8⟩ := h
  exact ⟨p, q, S, T, h1, h2, h3, h4, h5, h6, tGw_tr h7 hz, h8⟩
/-- the heads as they were read -/
def hdI (nb : Nat) (G : Nat → Nat → Nat) (fc : Nat → Nat → Int32) (fr : Nat → Nat → Nat → Int32) : Prop := ∀ g : Nat, g < nb → G g 0 ≤ 12 ∧ G g 1 < 3040 ∧ fc g 3 = nI (G g 0) ∧ fc g 5 = nI (G g 1) ∧ ∀ j : Nat, j < G g 0 → G g (j + 2) < 3040 ∧ fr g 3 j = nI (G g (j + 2))
/-- functions below i are typed; no fault -/
def pgI (yp nb tt i : Nat) (X : tF) (G : Nat → Nat → Nat) (lo : Nat → Nat) (fc : Nat → Nat → Int32) (fr : Nat → Nat → Nat → Int32) (Z : tgS) : Prop := tyOK yp (tTy Z) ∧ lbI Z ∧ shQ yp (Z.1 7) (Z.2 20) X ∧ (∀ g : Nat, g < nb → (G g 1 = 0 ∨ tyV yp (Z.1 7) (Z.2 20) (G g 1)) ∧ ∀ j : Nat, j < G g 0 → tyV yp (Z.1 7) (Z.2 20) (G g (j + 2))) ∧ (∃ B : Nat, B ≤ tt ∧ Z.1 0 ≤ 2 * B ∧ 2 * Z.1 1 ≤ B ∧ Z.1 2 ≤ B ∧ Z.1 3 ≤ 2 * B ∧ Z.1 7 ≤ 34 + tt + B ∧ ∀ g : Nat, i ≤ g → g < nb → B ≤ lo g) ∧ (∀ g : Nat, g < i → fnD yp X G g (fc g) (fr g) Z) ∧ cN (X 6 0) ≤ Z.1 7 ∧ ∀ t : Nat, t < cN (X 6 0) → Z.2 22 t = X 5 t ∧ Z.2 20 t = X 7 t
theorem pr_S {yp nb tt i p q n : Nat} {X : tF} {G : Nat → Nat → Nat} {lo hi : Nat → Nat} {fc gc : Nat → Nat → Int32} {fr gr : Nat → Nat → Nat → Int32} {Z T : tgS} (h : pgI yp nb tt i X G lo fc fr Z) (hi9 : i < nb) (hB : bdF yp X G (G i 1) p q (G i 0) (tgF Z n (fr i)) T (gc i 4) (gc i 9) (gc i 10) (gc i 11) (gc i 12)) (hJ : tJ T) (h7 : gc i 7 = nI (T.1 4)) (h13 : gc i 13 = nI (T.1 5)) (h8 : gc i 8 = nI (T.1 6)) (hy : ∀ k : Nat, 2 ≤ k → k < 8 → gr i k = T.2 (k + 12)) (hg : ∀ g : Nat, g ≠ i → gc g = fc g ∧ gr g = fr g) (hlo : lo i < p) (hhi : q ≤ hi i) (hlh : ∀ g : Nat, i < g → g < nb → hi i ≤ lo g) (hw : 2 * cL X q + p + 2 ≤ 2 * cL X p + q) (hpq : p < q) (hqt : q ≤ tt) (hH : ∀ j : Nat, j < G i 0 → fr i 3 j = nI (G i (j + 2))) (hn0 : n = G i 0) : pgI yp nb tt (i + 1) X G lo gc gr T := by
  obtain ⟨a1, a2, a3, a4, ⟨B, b1, b2, b3, b4, b5, b6, b7⟩, a6, a7⟩ := h
  have hB0 := hB
  obtain ⟨U, u1, u2, u3, -⟩ := hB
  have uc : ∀ k : Nat, k < 4 ∨ k = 7 → (tg8 U).1 k = Z.1 k := fun k hk => by
    rw [tg8_k k (by omega), u1.1 k (by omega)]
    exact tgF_c k (by omega)
  have ur : ∀ k : Nat, k < 14 ∨ 20 ≤ k → (tg8 U).2 k = Z.2 k := fun k hk => (u1.2.1 k (by omega) (by omega)).trans (tgF_r k hk)
  have hZU : tGw Z (tg8 U) := ⟨fun k hk => Nat.le_of_eq (uc k hk).symm, fun k hk i _ => by rw [ur k (by omega)], fun k ha hb i _ => by rw [ur k (by omega)], fun i _ => by rw [ur 13 (by omega)], fun k ha hb i _ => by rw [ur k (by omega)]⟩
  have hZT : tGw Z T := tGw_tr hZU (tGw_of u3.1)
  have c7 := hZT.1 7 (by omega)
  have he : ∀ j : Nat, j < Z.1 7 → T.2 20 j = Z.2 20 j := fun j hj => hZT.2.2.2.2 20 (by omega) (by omega) j hj
  have hcl := cL_le (X := X) (Nat.le_of_lt hpq)
  have hBl := b7 i (Nat.le_refl _) hi9
  obtain ⟨d0, d1, d2, d3, d7⟩ := u3.2.2.1
  have e0 := uc 0 (by omega); have e1 := uc 1 (by omega); have e2 := uc 2 (by omega); have e3 := uc 3 (by omega); have e7 := uc 7 (by omega)
  refine ⟨u2.1, u2.2.1, u2.2.2.2.1, fun g hg9 => ⟨(a4 g hg9).1.imp id (fun z => tyV_up z he c7), fun j hj => tyV_up ((a4 g hg9).2 j hj) he c7⟩, ⟨q, hqt, by omega, by omega, by omega, by omega, by omega, fun g g1 g2 => Nat.le_trans hhi (hlh g (by omega) g2)⟩, fun g hg9 => ?_, Nat.le_trans a7.1 c7, fun t ht => ⟨(hZT.2.2.2.2 22 (by omega) (by omega) t (Nat.lt_of_lt_of_le ht a7.1)).trans (a7.2 t ht).1, (he t (Nat.lt_of_lt_of_le ht a7.1)).trans (a7.2 t ht).2⟩⟩
  by_cases e : g = i
  · rw [e]
    exact ⟨p, q, tgF Z n (fr i), T, hB0, hJ, h7, h13, h8, hy, tGw_rf, fun j hj => ⟨⟨hH j hj, ((a4 i hi9).2 j hj).2⟩, hn0⟩⟩
  · rw [(hg g e).1, (hg g e).2]
    exact fnD_up (a6 g (by omega)) hZT
theorem pr_0 {yp nb tt : Nat} {X : tF} {G : Nat → Nat → Nat} {lo : Nat → Nat} {fc : Nat → Nat → Int32} {fr : Nat → Nat → Nat → Int32} {S : tgS} {r : Nat → Nat → Int32} (h1 : tyOK yp (tTy S)) (h2 : shQ yp (S.1 7) (S.2 20) X) (h3 : ∀ g : Nat, g < nb → (G g 1 = 0 ∨ tyV yp (S.1 7) (S.2 20) (G g 1)) ∧ ∀ j : Nat, j < G g 0 → tyV yp (S.1 7) (S.2 20) (G g (j + 2))) (h7 : S.1 7 ≤ 34 + tt) (h9 : X 5 = S.2 22 ∧ X 6 0 = nI (S.1 7) ∧ X 7 = S.2 20) : pgI yp nb tt 0 X G lo fc fr (tgF (tgZ S) 0 r) := ⟨h1, fun i hi => absurd hi (Nat.not_lt_zero i), h2, h3, ⟨0, Nat.zero_le _, Nat.le_refl 0, Nat.le_refl 0, Nat.le_refl 0, Nat.le_refl 0, h7, fun g _ _ => Nat.zero_le _⟩, fun g hg => absurd hg (Nat.not_lt_zero g), by have h30 : S.1 7 ≤ 3040 := h1.2.1; rw [h9.2.1, cN_nI (by omega)]; exact Nat.le_refl _, fun t _ => ⟨by rw [h9.1]; rfl, by rw [h9.2.2]; rfl⟩⟩
theorem tJ_F {s : tgS} {n : Nat} {r : Nat → Nat → Int32} (h : tJ s) (hn : n ≤ 40) (hr : vrI (r 3) (r 4)) : tJ (tgF s n r) := ⟨h.1, h.2.1, h.2.2.1, h.2.2.2.1, hn, Nat.zero_le _, h.2.2.2.2.2.2.1, h.2.2.2.2.2.2.2.1, hr.1, hr.2⟩
theorem tJ_0 {s : tgS} {r : Nat → Nat → Int32} (h7 : s.1 7 ≤ 3040) (hs : tyS (s.2 21) (s.2 22) (s.2 24) (s.2 25) (s.2 26)) (hr : vrI (r 3) (r 4)) : tJ (tgF (tgZ s) 0 r) := ⟨Nat.zero_le _, Nat.zero_le _, Nat.zero_le _, Nat.zero_le _, Nat.zero_le _, Nat.zero_le _, h7, hs, hr.1, hr.2⟩
theorem tJ_vr {s : tgS} (h : tJ s) : vrI (s.2 15) (s.2 16) := ⟨h.2.2.2.2.2.2.2.2.1, h.2.2.2.2.2.2.2.2.2⟩
