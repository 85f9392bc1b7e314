theorem lgc0 {x y : Int64} : lg_cmp x y = 0 ↔ x = y := by
  unfold lg_cmp
  constructor
  · intro h
    by_cases e : x > y
    · rw [if_pos e] at h; exact absurd h (by decide)
    · rw [if_neg e] at h
      by_cases e2 : x = y
      · exact e2
      · rw [if_neg e2] at h; exact absurd h (by decide)
  · intro h
    subst h
    rw [if_neg (show ¬ x > x from Int64.lt_irrefl), if_pos rfl]
/-- the rows behind send -/
def sdL (lb n : Nat) (st fr gr : Nat → Int64) : Prop := ∀ j : Nat, gr j = if lb * 40 ≤ j ∧ j < lb * 40 + n then fr j ||| st (j - lb * 40) else fr j
theorem sdL_0 {lb : Nat} {st fr : Nat → Int64} : sdL lb 0 st fr fr := fun j => (if_neg (by omega)).symm
theorem sdL_S {lb n : Nat} {st fr gr : Nat → Int64} (h : sdL lb n st fr gr) : sdL lb (n + 1) st fr (vp_updL gr (lb * 40 + n) (fr (lb * 40 + n) ||| st n)) := fun j => by
  by_cases e : j = lb * 40 + n
  · subst e; rw [pk_uLs, if_pos (by omega), show lb * 40 + n - lb * 40 = n by omega]
  · rw [pk_uLn e, h j]
    by_cases e2 : lb * 40 ≤ j ∧ j < lb * 40 + n
    · rw [if_pos e2, if_pos (by omega)]
    · rw [if_neg e2, if_neg (by omega)]
/-- the state behind join -/
def jnL (lb n : Nat) (ir : Int32) (fr st gs : Nat → Int64) : Prop := ∀ j : Nat, gs j = if j < n then (if ir = 0 then fr (lb * 40 + j) else st j ||| fr (lb * 40 + j)) else st j
theorem jnL_S {lb n : Nat} {ir : Int32} {fr st gs : Nat → Int64} {x : Int64} (h : jnL lb n ir fr st gs) (hx : x = if ir = 0 then fr (lb * 40 + n) else st n ||| fr (lb * 40 + n)) : jnL lb (n + 1) ir fr st (vp_updL gs n x) := fun j => by
  by_cases e : j = n
  · subst e; rw [pk_uLs, if_pos (by omega)]; exact hx
  · rw [pk_uLn e, h j]
    by_cases e2 : j < n
    · rw [if_pos e2, if_pos (show j < n + 1 by omega)]
    · rw [if_neg e2, if_neg (show ¬ j < n + 1 by omega)]
