/-- a way forward, or to where fuel is burnt -/
def bkO (S : Sg) (k j : Nat) : Prop := k < j ∨ Zr S 27 j = 0
/-- points from a to b lead from the stack x to the stack y; cl: no way leads through. L: loans below it -/
def tsg (R : yR) (S0 S : Sg) (E : eV) (L a b : Nat) (x y : List tE) (cl : Prop) : Prop := ∃ (st : Nat → List tE) (W : Nat → Prop), wkS x (st a) ∧ st b = y ∧ W a ∧ (cl → ¬ W b) ∧ a ≤ b ∧ ∀ k : Nat, a ≤ k → k < b → ∃ i : iR, rz R S0 S k i ∧ (∀ l : Nat, i.ln = some l → l < L) ∧ (∀ j ∈ i.sc, a ≤ j ∧ j ≤ b ∧ (W k → W j) ∧ bkO S k j) ∧ wl (st k) ≤ 177 ∧ tPt E k (W k) i (st k) (fun j s => a ≤ j ∧ j ≤ b ∧ wkS s (st j))
def pwL {α : Type} (b : Nat) (f g : Nat → α) : Nat → α := fun k => if k < b then f k else g k
theorem pwL_l {α : Type} {b k : Nat} {f g : Nat → α} (h : k < b) : pwL b f g k = f k := if_pos h
theorem pwL_r {α : Type} {b k : Nat} {f g : Nat → α} (h : ¬ k < b) : pwL b f g k = g k := if_neg h
def pcE {α : Type} (b : Nat) (y : α) (f : Nat → α) : Nat → α := fun k => if k = b then y else f k
theorem pcE_s {α : Type} {b : Nat} {y : α} {f : Nat → α} : pcE b y f b = y := if_pos rfl
theorem pcE_n {α : Type} {b k : Nat} {y : α} {f : Nat → α} (h : k ≠ b) : pcE b y f k = f k := if_neg h
section TSG
variable {R : yR} {S0 S S2 : Sg} {E : eV} {L L2 a b c : Nat} {x y z : List tE} {cl cl2 : Prop}
theorem tPt.im {k : Nat} {lv lv2 : Prop} {i : iR} {s : List tE} {J J2 : Nat → List tE → Prop} (h : tPt E k lv i s J) (hl : lv2 → lv) (hJ : ∀ (j : Nat) (s : List tE), J j s → J2 j s) : tPt E k lv2 i s J2 := by
  unfold tPt at *
  split at h
  · exact ⟨h.1, hJ _ _ h.2⟩
  · obtain ⟨h1, t, h2, h3⟩ := h; exact ⟨h1, t, h2, hJ _ _ h3⟩
  · obtain ⟨h1, t, h2, h3⟩ := h; exact ⟨h1, t, h2, hJ _ _ h3⟩
  · obtain ⟨h1, v, ρ, T, h2, h3, h4, h5, h6, h7⟩ := h; exact ⟨h1, v, ρ, T, h2, h3, h4, h5, h6, hJ _ _ h7⟩
  · obtain ⟨v, ρ, T, h2, h3, h4, h5, h6, h7⟩ := h; exact ⟨v, ρ, T, h2, h3, h4, h5, h6, h7.imp (fun w => ⟨w.1, w.2.1, hJ _ _ w.2.2⟩) (fun w => ⟨w.1, w.2.1, w.2.2.1, hJ _ _ w.2.2.2⟩)⟩
  · obtain ⟨h1, t1, t2, t, r, h2, h3, h4, h5, h6⟩ := h; exact ⟨h1, t1, t2, t, r, h2, h3, h4, h5, hJ _ _ h6⟩
  · obtain ⟨h1, t, r, h2, h3, h4⟩ := h; exact ⟨h1, t, r, h2, h3, hJ _ _ h4⟩
  · obtain ⟨h1, t, r, h2, h3, h4⟩ := h; exact ⟨h1, t, r, h2, h3, hJ _ _ h4⟩
  · obtain ⟨h1, U, r, h2, h3, h4, h5, h6, h7, h8, h9⟩ := h; exact ⟨h1, U, r, h2, h3, h4, h5, h6, h7, h8, hJ _ _ h9⟩
  · obtain ⟨h1, fo, r, h2, h3, h4, h5, h6, h7, h8, h9, h10⟩ := h; exact ⟨h1, fo, r, h2, h3, h4, h5, h6, h7, h8, h9, hJ _ _ h10⟩
  · obtain ⟨h1, r, h2, h3, h4, h5, h6, h7, h8⟩ := h; exact ⟨h1, r, h2, h3, h4, h5, h6, h7, hJ _ _ h8⟩
  · obtain ⟨h1, h2, h3, r, h4, h5, h6, h7, h8, h9, h10, h11⟩ := h; exact ⟨h1, h2, h3, r, h4, h5, h6, h7, h8, h9, h10, h11.imp (fun w => ⟨w.1, w.2.1, hJ _ _ w.2.2⟩) (fun w => ⟨w.1, w.2.1, w.2.2.1, hJ _ _ w.2.2.2⟩)⟩
  · obtain ⟨h1, T, r, h2, h3, h4, h5, h6⟩ := h; exact ⟨h1, T, r, h2, h3, h4, h5, hJ _ _ h6⟩
  · obtain ⟨h1, h2, h3, v, r, h4, h5, h6, h7, h8, h9, h10, h11, h12, h13, h14⟩ := h; exact ⟨h1, h2, h3, v, r, h4, h5, h6, h7, h8, h9, h10, h11, h12, h13, hJ _ _ h14⟩
  · obtain ⟨h1, h2, h3, h4, h5, v, h6, h7, h8, h9, h10, h11, h12⟩ := h; exact ⟨h1, h2, h3, h4, h5, v, h6, h7, h8, h9, h10, h11, hJ _ _ h12⟩
  · obtain ⟨h1, h2, v, ρ, T, r, h3, h4, h5, h6, h7⟩ := h; exact ⟨h1, h2, v, ρ, T, r, h3, h4, h5, h6, hJ _ _ h7⟩
  · obtain ⟨h1, t, r, h2, h3, h4⟩ := h; exact ⟨h1, t, r, h2, h3, hJ _ _ h4⟩
  · obtain ⟨h1, j, h2, h3⟩ := h; exact ⟨h1, j, h2, hJ _ _ h3⟩
  · obtain ⟨h1, t, j, r, h2, h3, h4, h5, h6⟩ := h; exact ⟨h1, t, j, r, h2, h3, h4, hJ _ _ h5, hJ _ _ h6⟩
  · obtain ⟨h1, t, j, r, h2, h3, h4, h5, h6⟩ := h; exact ⟨h1, t, j, r, h2, h3, h4, hJ _ _ h5, hJ _ _ h6⟩
  · obtain ⟨h1, t, j, r, h2, h3, h4, h5, h6⟩ := h; exact ⟨h1, t, j, r, h2, h3, h4, hJ _ _ h5, hJ _ _ h6⟩
  · obtain ⟨h1, r, h2, h3, h4, h5, h6, h7, h8⟩ := h; exact ⟨h1, r, h2, h3, h4, h5, h6, h7, fun g j e => ⟨(h8 g j e).1, hJ _ _ (h8 g j e).2⟩⟩
  · obtain ⟨h1, h2, v, ρ, h3, h4, h5, h6, h7, h8, h9, h10, h11⟩ := h; exact ⟨h1, h2, v, ρ, h3, h4, h5, h6, h7, h8, h9, h10, fun g j e => ⟨(h11 g j e).1, (h11 g j e).2.imp (fun w => ⟨w.1, hJ _ _ w.2⟩) (fun w => ⟨w.1, hJ _ _ w.2⟩)⟩⟩
  · obtain ⟨h1, r, h2, h3, h4, h5, h6, h7, h8, h9, h10, h11, h12⟩ := h; exact ⟨h1, r, h2, h3, h4, h5, h6, h7, h8, h9, h10, h11, hJ _ _ h12⟩
  · obtain ⟨h1, v, ρ, w, q, g, m, r, h2, h3, h4, h5, h6, h7, h8, h9, h10, h11, h12, h13, h14, h15, h16, h17, h18, h19, h20, h21, h22, h23⟩ := h; exact ⟨h1, v, ρ, w, q, g, m, r, h2, h3, h4, h5, h6, h7, h8, h9, h10, h11, h12, h13, h14, h15, h16, h17, h18, h19, h20, h21, h22, h23.imp (fun w => ⟨w.1, hJ _ _ w.2⟩) (fun w => ⟨w.1, hJ _ _ w.2⟩)⟩
  · obtain ⟨h1, h2, h3, h4, v, e, r, h5, h6, h7, h8, h9, h10, h11, h12, h13, h14⟩ := h; exact ⟨h1, h2, h3, h4, v, e, r, h5, h6, h7, h8, h9, h10, h11, h12, h13, hJ _ _ h14⟩
  · obtain ⟨h1, h2, h3, h4, h5, h6, h7, h8, h9, h10⟩ := h; exact ⟨h1, h2, h3, h4, h5, h6, h7, h8, h9, hJ _ _ h10⟩
  · exact ⟨h.1, fun w => h.2 (hl w)⟩
  · exact h.elim
theorem bkO.st {k j : Nat} (h : bkO S k j) (hz : LZ b L S S2) (hk : k < b) : bkO S2 k j := by
  by_cases e : k < j
  · exact Or.inl e
  · exact Or.inr (((hz.2.1 j (by omega)).1 27 (by decide) (by decide)).trans (h.resolve_left e))
theorem bkO.ur {k j : Nat} {f : Nat → Int32} (h : bkO S k j) : bkO (Ur S 30 f) k j := h.imp id (fun w => (congrFun (va_up_ne (Zr S) f (show (27 : Nat) ≠ 30 by decide)) j).trans w)
/-- the state behind: rows below b, loans below L stay -/
theorem tsg.st (h : tsg R S0 S E L a b x y cl) (hz : LZ b L S S2) : tsg R S0 S2 E L a b x y cl := by
  obtain ⟨st, W, h1, h2, h3, h4, h5, h6⟩ := h
  refine ⟨st, W, h1, h2, h3, h4, h5, fun k hk hb => ?_⟩
  obtain ⟨i, q1, q2, q3, q4⟩ := h6 k hk hb
  exact ⟨i, q1.st hz.1 (hz.2.1 k hb) (fun l e => hz.2.2.1 l (q2 l e)), q2, fun j hj => ⟨(q3 j hj).1, (q3 j hj).2.1, (q3 j hj).2.2.1, (q3 j hj).2.2.2.st hz hb⟩, q4⟩
theorem tsg.up (h : tsg R S0 S E L a b x y cl) (hl : L ≤ L2) : tsg R S0 S E L2 a b x y cl := by
  obtain ⟨st, W, h1, h2, h3, h4, h5, h6⟩ := h
  refine ⟨st, W, h1, h2, h3, h4, h5, fun k hk hb => ?_⟩
  obtain ⟨i, q1, q2, q3⟩ := h6 k hk hb
  exact ⟨i, q1, fun l e => Nat.lt_of_lt_of_le (q2 l e) hl, q3⟩
/-- .. a jump of another point, outside of it, is set -/
theorem tsg.jp (h : tsg R S0 S E L a b x y cl) {n : Nat} {v : Int32} (hn : n < a ∨ b ≤ n) : tsg R S0 (Ur S 30 (upd (Zr S 30) n v)) E L a b x y cl := by
  obtain ⟨st, W, h1, h2, h3, h4, h5, h6⟩ := h
  refine ⟨st, W, h1, h2, h3, h4, h5, fun k hk hb => ?_⟩
  obtain ⟨i, q1, q2, q3, q4⟩ := h6 k hk hb
  refine ⟨i, q1.st (LZ.ur (P := 0) (L := 0) (by decide) (Nat.zero_le _)).1 ⟨fun r h1 h2 => ?_, rfl, fun _ _ _ => rfl⟩ (fun l e => ⟨rfl, fun r h1 h2 => ?_⟩), q2, fun j hj => ⟨(q3 j hj).1, (q3 j hj).2.1, (q3 j hj).2.2.1, (q3 j hj).2.2.2.ur⟩, q4⟩
  · show va_up (Zr S) 30 (upd (Zr S 30) n v) r k = _
    by_cases e : r = 30
    · subst e; rw [va_up_self]; exact if_neg (by omega)
    · rw [va_up_ne _ _ e]
  · show va_up (Zr S) 30 (upd (Zr S 30) n v) r l = _
    rw [va_up_ne _ _ (by omega)]
theorem tsg.nil (h : wkS x y) : tsg R S0 S E L a a x y False := ⟨fun _ => y, fun _ => True, h, rfl, trivial, fun w => w.elim, Nat.le_refl _, fun k hk hb => by omega⟩
theorem tsg.wk {x2 y2 : List tE} (h : tsg R S0 S E L a b x y cl) (hx : wkS x2 x) (hy : wkS y y2) (hc : cl2 → cl) (hab : a < b) : tsg R S0 S E L a b x2 y2 cl2 := by
  obtain ⟨st, W, h1, h2, h3, h4, h5, h6⟩ := h
  refine ⟨pcE b y2 st, W, by rw [pcE_n (by omega)]; exact hx.tr h1, pcE_s, h3, fun w => h4 (hc w), h5, fun k hk hb => ?_⟩
  obtain ⟨i, q1, q2, q3, q4, q5⟩ := h6 k hk hb
  refine ⟨i, q1, q2, q3, by rw [pcE_n (by omega)]; exact q4, ?_⟩
  rw [pcE_n (show k ≠ b by omega)]
  refine q5.im (fun w => w) (fun j s ⟨j1, j2, j3⟩ => ⟨j1, j2, ?_⟩)
  by_cases e : j = b
  · subst e; rw [pcE_s]; rw [h2] at j3; exact j3.tr hy
  · rw [pcE_n e]; exact j3
/-- one behind the other -/
theorem tsg.app (h : tsg R S0 S E L a b x y cl) (g : tsg R S0 S E L b c y z cl2) : tsg R S0 S E L a c x z (cl ∨ cl2) := by
  obtain ⟨st, W, h1, h2, h3, h4, h5, h6⟩ := h
  obtain ⟨st2, W2, g1, g2, g3, g4, g5, g6⟩ := g
  -- behind b the second, but if no way leads there nothing is reached
  refine ⟨pwL b st st2, pwL b W (fun k => W b ∧ W2 k), ?_, ?_, ?_, fun w => ?_, by omega, fun k hk hb => ?_⟩
  · by_cases e : a < b
    · rw [pwL_l e]; exact h1
    · obtain rfl : a = b := by omega
      rw [pwL_r e]
      rw [h2] at h1
      exact h1.tr g1
  · rw [pwL_r (by omega)]; exact g2
  · by_cases e : a < b
    · rw [pwL_l e]; exact h3
    · obtain rfl : a = b := by omega
      rw [pwL_r e]; exact ⟨h3, g3⟩
  · rw [pwL_r (by omega)]
    rcases w with w | w
    · exact fun q => h4 w q.1
    · exact fun q => g4 w q.2
  · by_cases e : k < b
    · obtain ⟨i, q1, q2, q3, q4, q5⟩ := h6 k hk e
      refine ⟨i, q1, q2, fun j hj => ?_, by rw [pwL_l e]; exact q4, ?_⟩
      · obtain ⟨j1, j2, j3, j4⟩ := q3 j hj
        refine ⟨j1, by omega, ?_, j4⟩
        rw [pwL_l e]
        by_cases e2 : j < b
        · rw [pwL_l e2]; exact j3
        · obtain rfl : j = b := by omega
          rw [pwL_r e2]; exact fun w => ⟨j3 w, g3⟩
      · rw [pwL_l e, pwL_l e]
        refine q5.im (fun w => w) (fun j s ⟨j1, j2, j3⟩ => ⟨j1, by omega, ?_⟩)
        by_cases e2 : j < b
        · rw [pwL_l e2]; exact j3
        · obtain rfl : j = b := by omega
          rw [pwL_r e2]; rw [h2] at j3; exact j3.tr g1
    · obtain ⟨i, q1, q2, q3, q4, q5⟩ := g6 k (by omega) hb
      refine ⟨i, q1, q2, fun j hj => ?_, by rw [pwL_r e]; exact q4, ?_⟩
      · obtain ⟨j1, j2, j3, j4⟩ := q3 j hj
        refine ⟨by omega, j2, ?_, j4⟩
        rw [pwL_r e, pwL_r (by omega)]; exact fun w => ⟨w.1, j3 w.2⟩
      · rw [pwL_r e, pwL_r e]
        refine q5.im (fun w => w.2) (fun j s ⟨j1, j2, j3⟩ => ⟨by omega, j2, ?_⟩)
        rw [pwL_r (by omega)]; exact j3
/-- one point -/
theorem tsg.one {i : iR} (h : rz R S0 S a i) (hl : ∀ l : Nat, i.ln = some l → l < L) (hs : ∀ j ∈ i.sc, j = a + 1) (hw : wl x ≤ 177) (ht : tPt E a True i x (fun j s => j = a + 1 ∧ wkS s y)) (hc : cl → i.sc = []) : tsg R S0 S E L a (a + 1) x y cl := by
  refine ⟨pcE a x (fun _ => y), fun k => k = a ∨ i.sc ≠ [], by rw [pcE_s]; exact wkS.rf, pcE_n (by omega), Or.inl rfl, fun w q => ?_, by omega, fun k hk hb => ?_⟩
  · rcases q with q | q
    · omega
    · exact q (hc w)
  · obtain rfl : k = a := by omega
    refine ⟨i, h, hl, fun j hj => ⟨by have := hs j hj; omega, by have := hs j hj; omega, fun _ => Or.inr (fun e => by rw [e] at hj; cases hj), Or.inl (by have := hs j hj; omega)⟩, by rw [pcE_s]; exact hw, ?_⟩
    rw [pcE_s]
    exact ht.im (fun _ => trivial) (fun j s ⟨j1, j2⟩ => ⟨by omega, by omega, by rw [pcE_n (by omega)]; exact j2⟩)
end TSG
