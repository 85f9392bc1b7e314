/-- rows of a function's variables: types, mutable -/
def vrI (et em : Nat → Int32) : Prop := (∀ v : Nat, v < 40 → et v = -1 ∨ ∃ k : Nat, k < 3040 ∧ et v = nI k) ∧ ∀ v : Nat, v < 40 → em v = 0 ∨ em v = 1
theorem vrI_S {et em et2 em2 : Nat → Int32} {i u : Nat} {mu : Int32} (h : vrI et em) (h1 : et2 = upd et i (nI u)) (hu : u < 3040) (h2 : em2 = upd em i mu) (hmu : mu = 0 ∨ mu = 1) : vrI et2 em2 := by
  refine ⟨fun v hv => ?_, fun v hv => ?_⟩
  · by_cases e : v = i
    · subst e; rw [h1, pk_us]; exact Or.inr ⟨u, hu, rfl⟩
    · rw [h1, pk_un e]; exact h.1 v hv
  · by_cases e : v = i
    · subst e; rw [h2, pk_us]; exact hmu
    · rw [h2, pk_un e]; exact h.2 v hv
/-- n parameters that have no end -/
def opI (n : Nat) (ez : Nat → Int32) : Prop := ∀ j : Nat, j < n → ez j = 1073741824
theorem opI_S {n : Nat} {ez ez2 : Nat → Int32} (h : opI n ez) (h1 : ez2 = upd ez n 1073741824) : opI (n + 1) ez2 := fun j hj => by
  by_cases e : j = n
  · subst e; rw [h1, pk_us]
  · rw [h1, pk_un e]; exact h j (by omega)
