/-- every name's place and size: within the first F bytes -/
def nmI (F : Nat) (ff fz : Nat → Int32) : Prop := ∀ j, j < 3020 → ∃ a b : Nat, ff j = nI a ∧ fz j = nI b ∧ a + b ≤ F
/-- every entry is no name or one of the 3020 -/
def lkI (f : Nat → Int32) (n : Nat) : Prop := ∀ j, j < n → f j < 0 ∨ ∃ k : Nat, k < 3020 ∧ f j = nI k
theorem nmI_put {F z st : Nat} {ff fz : Nat → Int32} {k : Nat} (h : nmI F ff fz) (hst : st ≤ F) : nmI (F + z) (upd ff k (nI st)) (upd fz k (nI z)) := by
  intro j hj
  by_cases e : j = k
  · subst e; exact ⟨st, z, pk_us, pk_us, by omega⟩
  · obtain ⟨a, b, h1, h2, h3⟩ := h j hj
    exact ⟨a, b, by rw [pk_un e]; exact h1, by rw [pk_un e]; exact h2, by omega⟩
theorem nmI_up {F G : Nat} {ff fz : Nat → Int32} (h : nmI F ff fz) (hG : F ≤ G) : nmI G ff fz := fun j hj => by
  obtain ⟨a, b, h1, h2, h3⟩ := h j hj
  exact ⟨a, b, h1, h2, by omega⟩
theorem lkI_put {f : Nat → Int32} {n k : Nat} {x : Int32} (h : lkI f n) (hx : x < 0 ∨ ∃ k : Nat, k < 3020 ∧ x = nI k) : lkI (upd f k x) n := by
  intro j hj
  by_cases e : j = k
  · subst e; rw [pk_us]; exact hx
  · rw [pk_un e]; exact h j hj
theorem lkI_0 {n : Nat} : lkI (fun _ => 0) n := fun j _ => Or.inr ⟨0, by omega, rfl⟩
theorem nmI_0 {F : Nat} : nmI F (fun _ => 0) (fun _ => 0) := fun j _ => ⟨0, 0, rfl, rfl, by omega⟩
