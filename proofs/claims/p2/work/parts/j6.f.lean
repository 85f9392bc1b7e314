theorem isT_kd {L : List Nat} {F : Nat → va_E} {fk : Nat → Int32} : ∀ {n a p q : Nat}, isT L F fk n a p q → fk p = 26 ∨ fk p = 27 ∨ fk p = 25 ∨ fk p = 2 ∨ fk p = 23 ∨ fk p = 55
  | 0, _, _, _, h => h.elim
  | _ + 1, _, _, _, h => by
    rcases h.2 with ⟨_, h1 | h1 | h1 | h1, _⟩ | ⟨h1, _⟩ | ⟨h1, _⟩
    · exact Or.inl h1
    · exact Or.inr (Or.inl h1)
    · exact Or.inr (Or.inr (Or.inl h1))
    · exact Or.inr (Or.inr (Or.inr (Or.inl h1)))
    · exact Or.inr (Or.inr (Or.inr (Or.inr (Or.inl h1))))
    · exact Or.inr (Or.inr (Or.inr (Or.inr (Or.inr h1))))
def noT (k : Int32) : Prop := k ≠ 26 ∧ k ≠ 27 ∧ k ≠ 25 ∧ k ≠ 2 ∧ k ≠ 23 ∧ k ≠ 55
theorem noT_isT {L : List Nat} {F : Nat → va_E} {fk : Nat → Int32} {n a p q : Nat} (h : noT (fk p)) (g : isT L F fk n a p q) : False := by
  rcases isT_kd g with e | e | e | e | e | e
  · exact h.1 e
  · exact h.2.1 e
  · exact h.2.2.1 e
  · exact h.2.2.2.1 e
  · exact h.2.2.2.2.1 e
  · exact h.2.2.2.2.2 e
