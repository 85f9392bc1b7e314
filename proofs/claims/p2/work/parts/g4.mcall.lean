/-- a function's object stands in the family -/
theorem fnL_in {kI kZ : ClassId} {fa : Nat → Nat → Nat} {fc : Nat → Nat → Int32} {fr : Nat → Nat → Nat → Int32} {f : va_W} {g : Nat} (hg : g < 40) : ∃ (k : Nat) (vs : List Value), (f ++ fnL kI kZ fa fc fr 0 40)[k]? = some (fa g 0, .inr (2, vs)) := by
  have hm : (fa g 0, (.inr (2, [.int (fc g 0), .int (fc g 1), .int (fc g 2), .ref (fa g 1), .int (fc g 3), .ref (fa g 2), .int (fc g 4), .int (fc g 5), .int (fc g 6), .int (fc g 7), .ref (fa g 3), .ref (fa g 4), .ref (fa g 5), .ref (fa g 6), .ref (fa g 7), .ref (fa g 8), .int (fc g 8), .int (fc g 9), .int (fc g 10), .int (fc g 11), .int (fc g 12), .int (fc g 13)]) : va_E)) ∈ f ++ fnL kI kZ fa fc fr 0 40 := by
    refine (fn_perm (f := f) hg).mem_iff.mpr (List.mem_append_left _ (List.mem_append_right _ ?_))
    exact List.mem_cons_self ..
  obtain ⟨k, hk⟩ := List.mem_iff_getElem?.mp hm
  exact ⟨k, _, hk⟩
