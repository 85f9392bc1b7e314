theorem gaS_up {F : tF} {pof : Nat → Int32} {lon : Nat → Int64} {a : Nat} (h : upI 54 3001 pof) : ∀ d : Nat, (∀ i : Nat, a ≤ i → i < a + d → iB F i) → upI 54 3001 (gaS F pof lon a d).1
  | 0, _ => h
  | d + 1, hi => by
    have ih := gaS_up (F := F) (lon := lon) (a := a) h d (fun i h1 h2 => hi i h1 (by omega))
    by_cases e : F 0 (a + d) = 4
    · obtain ⟨o, ho, h33, hB⟩ := iB_o (hi (a + d) (by omega) (by omega))
      have e4 : o = 4 := (nI_eq (a := o) (b := 4) (by omega) (by decide)).mp (ho.symm.trans e)
      subst e4
      obtain ⟨p, v, b, hB1, hB2, hB3, hv, hB5, hB6⟩ := hB
      rw [gaS_4 e hB1 (by omega) hB3 (by omega) hB5 (by omega)]
      intro j hj
      show ∃ k : Nat, k ≤ 3001 ∧ upd (gaS F pof lon a d).1 b (nI p) j = nI k
      by_cases c : j = b
      · rw [c, pk_us]; exact ⟨p, by omega, rfl⟩
      · rw [pk_un c]; exact ih j hj
    · rw [gaS_n e]; exact ih
