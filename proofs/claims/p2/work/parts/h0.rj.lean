/-- a number between 0 and k -/
theorem i32_le {x : Int32} {k : Nat} (h0 : ¬ x < 0) (hk : k < 2 ^ 31) (h : ¬ nI k < x) : ∃ n : Nat, n ≤ k ∧ x = nI n := by
  have h1 : 0 ≤ x.toInt := by
    have := Int32.not_lt.mp h0
    have h2 : (0 : Int32).toInt ≤ x.toInt := Int32.le_iff_toInt_le.mp this
    rw [show (0 : Int32).toInt = 0 from rfl] at h2
    exact h2
  have h3 : x.toInt ≤ (k : Int) := by
    have := Int32.le_iff_toInt_le.mp (Int32.not_lt.mp h)
    rw [show (nI k).toInt = (k : Int) from Int32.toInt_ofNat_of_lt hk] at this
    exact this
  refine ⟨x.toInt.toNat, by omega, ?_⟩
  refine Int32.toInt_inj.mp ?_
  rw [show (nI x.toInt.toNat).toInt = (x.toInt.toNat : Int) from Int32.toInt_ofNat_of_lt (by omega)]
  omega
