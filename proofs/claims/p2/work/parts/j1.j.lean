theorem tkF_of {fk fa fe : Nat → Int32} {T e zs : Nat} (h : tkR fk fa fe T e) (he : e ≤ zs) (hT : T ≤ e) : tkF (upd fk T 0) (upd fa T (nI zs)) (upd fe T (nI zs)) (T + 1) zs := by
  refine ⟨by omega, by omega, ?_, ?_, ?_, ?_⟩
  · obtain ⟨a, b, h1, h2⟩ := tkR_up h he
    refine ⟨a, b, fun j hj => ?_, fun j hj => h2 j (by omega)⟩
    have hj : j < T := by omega
    rw [pk_un (show j ≠ T by omega), pk_un (show j ≠ T by omega), pk_un (show j ≠ T by omega)]
    exact h1 j hj
  · rw [Nat.add_sub_cancel, pk_us]
  · rw [Nat.add_sub_cancel, pk_us]
  · rw [Nat.add_sub_cancel, pk_us]
theorem wo_ok {r : Int32} {a b : Nat} (h : r = 2 ∨ ∃ j : Nat, j < 19 ∧ r = nI (10 + j) ∧ (j = 9 → b = a + 6)) : r ≠ 0 ∧ (r = 19 → b = a + 6) := by
  rcases h with rfl | ⟨j, h1, rfl, h2⟩
  · exact ⟨by decide, fun q => absurd q (by decide)⟩
  · exact ⟨nI_ne0 (by omega) (by omega), fun q => h2 (by have := (nI_eq (a := 10 + j) (b := 19) (by omega) (by decide)).mp q; omega)⟩
