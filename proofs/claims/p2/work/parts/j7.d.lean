theorem tyW_new {L L2 : List Nat} {F F2 : Nat → va_E} {fy : Nat → Option Nat} {tm : Nat} {Y : Nat → Int32 × Int32 × Option Nat} {ad : Nat → Nat} {q : Nat} {kd ix : Int32} {o : Option Nat} (hx : exS L F L2 F2) (h : tyW L F fy tm Y ad) (hq : q ∈ L2) (hF : F2 q = .inr (20, [.int kd, .int ix, .int (nI tm), va_rf o])) (ho : o = none ∨ ∃ u : Nat, u < tm ∧ o = some (ad u)) (hn : ∀ t : Nat, t < tm → ¬ Y t = (kd, ix, o)) : tyW L2 F2 (va_up fy tm (some q)) (tm + 1) (fun t => if t = tm then (kd, ix, o) else Y t) (fun t => if t = tm then q else ad t) := by
  refine ⟨fun t ht => ?_, fun t u ht hu => ?_⟩
  · dsimp only
    by_cases e : t = tm
    · subst e
      rw [if_pos rfl, if_pos rfl]
      refine ⟨vu_s, hq, hF, ho.elim Or.inl (fun ⟨u, h1, h2⟩ => Or.inr ⟨u, h1, ?_⟩)⟩
      rw [if_neg (by omega)]; exact h2
    · rw [if_neg e, if_neg e, vu_n e]
      obtain ⟨h1, h2, h3, h4⟩ := h.1 t (by omega)
      refine ⟨h1, (hx _ h2).1, (hx _ h2).2.trans h3, h4.elim Or.inl (fun ⟨u, g1, g2⟩ => Or.inr ⟨u, g1, ?_⟩)⟩
      rw [if_neg (by omega)]; exact g2
  · dsimp only
    by_cases e : t = tm
    · by_cases e2 : u = tm
      · intro _; omega
      · rw [if_pos e, if_neg e2]; intro q9; exact absurd q9.symm (hn u (by omega))
    · by_cases e2 : u = tm
      · rw [if_neg e, if_pos e2]; intro q9; exact absurd q9 (hn t (by omega))
      · rw [if_neg e, if_neg e2]; exact h.2 t u (by omega) (by omega)
theorem ptN_new {Y : Nat → Int32 × Int32 × Option Nat} {tm : Nat} {kd ix : Int32} {o : Option Nat} (hn : ∀ t : Nat, t < tm → ¬ Y t = (kd, ix, o)) : ptN (fun t => if t = tm then (kd, ix, o) else Y t) (tm + 1) ≤ ptN Y tm + 1 ∧ (ix = 0 → o = none → kd = 0 ∨ kd = 1 ∨ kd = 2 ∨ kd = 8 → ptN (fun t => if t = tm then (kd, ix, o) else Y t) (tm + 1) ≤ ptN Y tm) := by
  have hY : ∀ k : Int32, plY (fun t => if t = tm then (kd, ix, o) else Y t) (tm + 1) k ≤ plY Y tm k := fun k => by
    refine Nat.le_trans plY_s (Nat.le_of_eq (plY_eq (fun t ht => if_neg (by omega))))
  have hp : ix = 0 → o = none → plY (fun t => if t = tm then (kd, ix, o) else Y t) (tm + 1) kd = 0 ∧ plY Y tm kd = 1 := fun h1 h2 => by
    subst h1; subst h2
    refine ⟨?_, plY_in hn⟩
    have e : (fun t => if t = tm then (kd, (0 : Int32), (none : Option Nat)) else Y t) tm = (kd, 0, none) := if_pos rfl
    exact if_pos ⟨congrArg Prod.fst e, congrArg (fun z => z.2.1) e, congrArg (fun z => z.2.2) e⟩
  unfold ptN
  have h0 := hY 0; have h1 := hY 1; have h2 := hY 2; have h8 := hY 8
  refine ⟨by omega, fun a b c => ?_⟩
  have hp := hp a b
  rcases c with c | c | c | c <;> rw [c] at hp ⊢ <;> rw [c] at h0 h1 h2 h8 <;> omega
theorem vr_nar {C : String} (o : Option Nat) : narrow (.object C) (va_rf o) = va_rf o := by cases o <;> rfl
theorem vr_fit {C : String} (o : Option Nat) : fits (.object C) (va_rf o) = true := by cases o <;> rfl
