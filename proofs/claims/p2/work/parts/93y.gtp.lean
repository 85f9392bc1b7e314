/-- the kinds of a type without more: int bool token, a name -/
def plainK (k : Int32) : Prop := k = 22 ∨ k = 23 ∨ k = 21 ∨ k = 2
/-- behind a & of a type: its life, its mut -/
def ampR (fk : Nat → Int32) (p : Nat) : Nat := if fk (if fk (p + 1) = 3 then p + 2 else p + 1) = 9 then (if fk (p + 1) = 3 then p + 2 else p + 1) + 1 else (if fk (p + 1) = 3 then p + 2 else p + 1)
/-- n boxes and references of a type stand from p to q -/
def tyX (fk : Nat → Int32) : Nat → Nat → Nat → Prop
  | 0, p, q => q = p
  | n + 1, p, q => ∃ r, tyX fk n p r ∧ ((fk r = 19 ∧ q = r + 1) ∨ (fk r = 38 ∧ q = ampR fk r))
theorem plainK_0 {k : Int32} (h : plainK k) : k ≠ 0 := by rcases h with h | h | h | h <;> rw [h] <;> decide
theorem ampR_of {fk : Nat → Int32} {p a b : Nat} (h1 : (a = p + 2 ∧ fk (p + 1) = 3) ∨ (a = p + 1 ∧ fk (p + 1) ≠ 3)) (h2 : (b = a + 1 ∧ fk a = 9) ∨ (b = a ∧ fk a ≠ 9)) : b = ampR fk p := by
  rcases h1 with ⟨rfl, h⟩ | ⟨rfl, h⟩ <;> rcases h2 with ⟨rfl, k⟩ | ⟨rfl, k⟩ <;> unfold ampR <;> simp [h, k]
/-- a type's beginning was read from nw to nw1, k signs, or there is a fault -/
def tyL (fk : Nat → Int32) (d nw tt k nw1 : Nat) (ft ft1 pl pl1 : Int32) : Prop := (ft1 = ft ∧ pl1 = pl ∧ tyX fk k nw nw1 ∧ d + k ≤ 16 ∧ nw1 < tt) ∨ (ft1 ≠ 0 ∧ nw1 = tt - 1)
/-- a type was read -/
def tyE (fk : Nat → Int32) (d nw tt nw2 : Nat) (ft ft2 pl pl2 : Int32) : Prop := (ft2 = ft ∧ pl2 = pl ∧ nw2 < tt ∧ ∃ k r : Nat, tyX fk k nw r ∧ d + k ≤ 16 ∧ plainK (fk r) ∧ nw2 = r + 1) ∨ (ft2 ≠ 0 ∧ nw2 = tt - 1)
