/-- Typing's state: counters (instructions, labels, places, arms, variables, borrows, cells, types), rows (op a b c where, labelAt, a place's variable path length route type where cells, armLabels, a variable's name type mutable offset from to, a type's kind of size drops boxes shared unique) -/
abbrev tgS := (Nat → Nat) × (Nat → Nat → Int32)
def t5 (s : tgS) (n : Nat) (g0 g1 g2 g3 g4 : Nat → Int32) : tgS := (fun k => match k with | 0 => n | k + 1 => s.1 (k + 1), fun k => match k with | 0 => g0 | 1 => g1 | 2 => g2 | 3 => g3 | 4 => g4 | k + 5 => s.2 (k + 5))
/-- one instruction came -/
def tAd (s t : tgS) (x0 x1 x2 x3 x4 : Int32) : Prop := (∀ k : Nat, 1 ≤ k → t.1 k = s.1 k) ∧ (∀ k : Nat, 5 ≤ k → t.2 k = s.2 k) ∧ insA (s.1 0) (t.1 0) (s.2 0) (t.2 0) x0 ∧ insA (s.1 0) (t.1 0) (s.2 1) (t.2 1) x1 ∧ insA (s.1 0) (t.1 0) (s.2 2) (t.2 2) x2 ∧ insA (s.1 0) (t.1 0) (s.2 3) (t.2 3) x3 ∧ insA (s.1 0) (t.1 0) (s.2 4) (t.2 4) x4
theorem tAd_mk {s : tgS} {n : Nat} {g0 g1 g2 g3 g4 : Nat → Int32} {x0 x1 x2 x3 x4 : Int32} (h0 : insA (s.1 0) n (s.2 0) g0 x0) (h1 : insA (s.1 0) n (s.2 1) g1 x1) (h2 : insA (s.1 0) n (s.2 2) g2 x2) (h3 : insA (s.1 0) n (s.2 3) g3 x3) (h4 : insA (s.1 0) n (s.2 4) g4 x4) : tAd s (t5 s n g0 g1 g2 g3 g4) x0 x1 x2 x3 x4 := by
  refine ⟨fun k hk => ?_, fun k hk => ?_, h0, h1, h2, h3, h4⟩
  · match k, hk with
    | k + 1, _ => rfl
  · match k, hk with
    | k + 5, _ => rfl
def t7 (s : tgS) (n : Nat) (g0 g1 g2 g3 g4 g5 g6 : Nat → Int32) : tgS := (fun k => match k with | 2 => n | 0 => s.1 0 | 1 => s.1 1 | k + 3 => s.1 (k + 3), fun k => match k with | 0 => s.2 0 | 1 => s.2 1 | 2 => s.2 2 | 3 => s.2 3 | 4 => s.2 4 | 5 => s.2 5 | 6 => g0 | 7 => g1 | 8 => g2 | 9 => g3 | 10 => g4 | 11 => g5 | 12 => g6 | k + 13 => s.2 (k + 13))
/-- one place came -/
def tPl (s t : tgS) (x1 x2 x3 x4 x5 x6 x7 : Int32) : Prop := (∀ k : Nat, k ≠ 2 → t.1 k = s.1 k) ∧ (∀ k : Nat, k < 6 ∨ 13 ≤ k → t.2 k = s.2 k) ∧ t.1 2 = min (s.1 2 + 1) 3001 ∧ t.2 6 = upd (s.2 6) (s.1 2) x1 ∧ t.2 7 = upd (s.2 7) (s.1 2) x2 ∧ t.2 8 = upd (s.2 8) (s.1 2) x3 ∧ t.2 9 = upd (s.2 9) (s.1 2) x4 ∧ t.2 10 = upd (s.2 10) (s.1 2) x5 ∧ t.2 11 = upd (s.2 11) (s.1 2) x7 ∧ t.2 12 = upd (s.2 12) (s.1 2) (pCells x4 x6)
theorem tPl_mk {s : tgS} {n : Nat} {g0 g1 g2 g3 g4 g5 g6 : Nat → Int32} {x1 x2 x3 x4 x5 x6 x7 : Int32} (h : n = min (s.1 2 + 1) 3001) (h0 : g0 = upd (s.2 6) (s.1 2) x1) (h1 : g1 = upd (s.2 7) (s.1 2) x2) (h2 : g2 = upd (s.2 8) (s.1 2) x3) (h3 : g3 = upd (s.2 9) (s.1 2) x4) (h4 : g4 = upd (s.2 10) (s.1 2) x5) (h5 : g5 = upd (s.2 11) (s.1 2) x7) (h6 : g6 = upd (s.2 12) (s.1 2) (pCells x4 x6)) : tPl s (t7 s n g0 g1 g2 g3 g4 g5 g6) x1 x2 x3 x4 x5 x6 x7 := by
  refine ⟨fun k hk => ?_, fun k hk => ?_, h, h0, h1, h2, h3, h4, h5, h6⟩
  · match k, hk with
    | 0, _ => rfl
    | 1, _ => rfl
    | 2, h => exact absurd rfl h
    | k + 3, _ => rfl
  · match k, hk with
    | 0, _ => rfl
    | 1, _ => rfl
    | 2, _ => rfl
    | 3, _ => rfl
    | 4, _ => rfl
    | 5, _ => rfl
    | 6, h => omega
    | 7, h => omega
    | 8, h => omega
    | 9, h => omega
    | 10, h => omega
    | 11, h => omega
    | 12, h => omega
    | k + 13, _ => rfl
/-- counter i is x now -/
def tN (s : tgS) (i x : Nat) : tgS := (fun k => if k = i then x else s.1 k, s.2)
def tY (s : tgS) (n : Nat) (g0 g1 g2 g3 g4 g5 g6 : Nat → Int32) : tgS := (fun k => if k = 7 then n else s.1 k, fun k => if k < 20 then s.2 k else (match k with | 20 => g0 | 21 => g1 | 22 => g2 | 23 => g3 | 24 => g4 | 25 => g5 | 26 => g6 | _ => s.2 k))
/-- the table of types -/
def tTy (s : tgS) : tyT := (s.1 7, s.2 20, s.2 21, s.2 22, s.2 23, s.2 24, s.2 25, s.2 26)
/-- what holds at any time, with a fault too -/
def tJ (s : tgS) : Prop := s.1 0 ≤ 6000 ∧ s.1 1 ≤ 1100 ∧ s.1 2 ≤ 3001 ∧ s.1 3 ≤ 2990 ∧ s.1 4 ≤ 40 ∧ s.1 5 ≤ 54 ∧ s.1 7 ≤ 3040 ∧ tyS (s.2 21) (s.2 22) (s.2 24) (s.2 25) (s.2 26) ∧ (∀ v : Nat, v < 40 → s.2 15 v = -1 ∨ ∃ k : Nat, k < 3040 ∧ s.2 15 v = nI k) ∧ ∀ v : Nat, v < 40 → s.2 16 v = 0 ∨ s.2 16 v = 1
theorem insA_le {ct ct2 : Nat} {f g : Nat → Int32} {x : Int32} (h : insA ct ct2 f g x) (hc : ct ≤ 6000) : ct2 ≤ 6000 := by
  rcases h with ⟨h1, h2, -⟩ | ⟨h1, h2, -⟩ <;> omega
theorem tJ_ad {s t : tgS} {x0 x1 x2 x3 x4 : Int32} (h : tJ s) (ha : tAd s t x0 x1 x2 x3 x4) : tJ t := by
  obtain ⟨a1, a2, a3, -⟩ := ha
  unfold tJ at *
  rw [a1 1 (by decide), a1 2 (by decide), a1 3 (by decide), a1 4 (by decide), a1 5 (by decide), a1 7 (by decide), a2 21 (by decide), a2 22 (by decide), a2 24 (by decide), a2 25 (by decide), a2 26 (by decide), a2 15 (by decide), a2 16 (by decide)]
  exact ⟨insA_le a3 h.1, h.2⟩
theorem tJ_pl {s t : tgS} {x1 x2 x3 x4 x5 x6 x7 : Int32} (h : tJ s) (ha : tPl s t x1 x2 x3 x4 x5 x6 x7) : tJ t := by
  obtain ⟨a1, a2, a3, -⟩ := ha
  unfold tJ at *
  rw [a1 0 (by decide), a1 1 (by decide), a1 3 (by decide), a1 4 (by decide), a1 5 (by decide), a1 7 (by decide), a3, a2 21 (by decide), a2 22 (by decide), a2 24 (by decide), a2 25 (by decide), a2 26 (by decide), a2 15 (by decide), a2 16 (by decide)]
  exact ⟨h.1, h.2.1, by omega, h.2.2.2⟩
/-- a type kd of k was asked for: it is ri -/
def tMk (kd : Int32) (k ri : Nat) (s t : tgS) : Prop := (∀ i : Nat, i ≠ 7 → t.1 i = s.1 i) ∧ (∀ i : Nat, i < 20 → t.2 i = s.2 i) ∧ tJ t ∧ ri < 3040 ∧ ∀ yp : Nat, tyOK yp (tTy s) → tyN yp (s.2 20) k → k < s.1 7 → s.1 7 < 3040 → tyOK yp (tTy t) ∧ tyEx (tTy s) (tTy t) ∧ t.1 7 ≤ s.1 7 + 1 ∧ 34 ≤ ri ∧ ri < t.1 7 ∧ t.2 20 ri = kd ∧ t.2 21 ri = nI k
theorem tMk_b {s : tgS} {yt2 k ri : Nat} {g0 g1 g2 g3 g4 g5 g6 : Nat → Int32} (hJ : tJ s) (hk : k < 3040) (hr : ri < 3040) (hb : bxT 4 k (s.1 7) yt2 ri (g0 = s.2 20 ∧ g1 = s.2 21 ∧ g2 = s.2 22 ∧ g3 = s.2 23 ∧ g5 = s.2 25 ∧ g6 = s.2 26) (fun hr => mkT 4 (nI k) (s.1 7) yt2 ri (s.2 20) (s.2 21) (s.2 22) (s.2 23) (s.2 24) (s.2 25) (s.2 26) g0 g1 g2 g3 hr g5 g6) (s.2 24) g4) : tMk 4 k ri s (tY s yt2 g0 g1 g2 g3 g4 g5 g6) := by
  obtain ⟨q1, q2⟩ := tyS_b hJ.2.2.2.2.2.2.2.1 hk hr hb hJ.2.2.2.2.2.2.1
  refine ⟨fun i h => if_neg h, fun i h => if_pos h, ?_, hr, fun yp h1 h2 h3 h4 => ?_⟩
  · exact ⟨hJ.1, hJ.2.1, hJ.2.2.1, hJ.2.2.2.1, hJ.2.2.2.2.1, hJ.2.2.2.2.2.1, q2, q1, hJ.2.2.2.2.2.2.2.2⟩
  · exact ty_box h1 h2 h3 h4 hr hb
theorem tMk_h {s : tgS} {yt2 k ri : Nat} {g0 g1 g2 g3 g4 g5 g6 : Nat → Int32} (hJ : tJ s) (hk : k < 3040) (hr : ri < 3040) (hb : bxT 5 k (s.1 7) yt2 ri (g0 = s.2 20 ∧ g1 = s.2 21 ∧ g2 = s.2 22 ∧ g3 = s.2 23 ∧ g4 = s.2 24 ∧ g6 = s.2 26) (fun hr => mkT 5 (nI k) (s.1 7) yt2 ri (s.2 20) (s.2 21) (s.2 22) (s.2 23) (s.2 24) (s.2 25) (s.2 26) g0 g1 g2 g3 g4 hr g6) (s.2 25) g5) : tMk 5 k ri s (tY s yt2 g0 g1 g2 g3 g4 g5 g6) := by
  obtain ⟨q1, q2⟩ := tyS_h hJ.2.2.2.2.2.2.2.1 hk hr hb hJ.2.2.2.2.2.2.1
  refine ⟨fun i h => if_neg h, fun i h => if_pos h, ?_, hr, fun yp h1 h2 h3 h4 => ?_⟩
  · exact ⟨hJ.1, hJ.2.1, hJ.2.2.1, hJ.2.2.2.1, hJ.2.2.2.2.1, hJ.2.2.2.2.2.1, q2, q1, hJ.2.2.2.2.2.2.2.2⟩
  · exact ty_shr h1 h2 h3 h4 hr hb
theorem tMk_u {s : tgS} {yt2 k ri : Nat} {g0 g1 g2 g3 g4 g5 g6 : Nat → Int32} (hJ : tJ s) (hk : k < 3040) (hr : ri < 3040) (hb : bxT 6 k (s.1 7) yt2 ri (g0 = s.2 20 ∧ g1 = s.2 21 ∧ g2 = s.2 22 ∧ g3 = s.2 23 ∧ g4 = s.2 24 ∧ g5 = s.2 25) (fun hr => mkT 6 (nI k) (s.1 7) yt2 ri (s.2 20) (s.2 21) (s.2 22) (s.2 23) (s.2 24) (s.2 25) (s.2 26) g0 g1 g2 g3 g4 g5 hr) (s.2 26) g6) : tMk 6 k ri s (tY s yt2 g0 g1 g2 g3 g4 g5 g6) := by
  obtain ⟨q1, q2⟩ := tyS_u hJ.2.2.2.2.2.2.2.1 hk hr hb hJ.2.2.2.2.2.2.1
  refine ⟨fun i h => if_neg h, fun i h => if_pos h, ?_, hr, fun yp h1 h2 h3 h4 => ?_⟩
  · exact ⟨hJ.1, hJ.2.1, hJ.2.2.1, hJ.2.2.2.1, hJ.2.2.2.2.1, hJ.2.2.2.2.2.1, q2, q1, hJ.2.2.2.2.2.2.2.2⟩
  · exact ty_unq h1 h2 h3 h4 hr hb
