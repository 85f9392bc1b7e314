theorem l_cu9 {tt q i n nx u : Nat} {fx r : Int32} {P : Nat → Nat} {fk : Nat → Int32} {c : Int32} {Z Z2 : Prop} (htk : (r = 1 ∧ u = nx + 1 ∧ u < tt ∧ fk nx = 44 ∧ Z) ∨ (r = 0 ∧ u = nx ∧ (fk nx ≠ 44 ∨ Z2))) (hZ2 : ¬ Z2) (hx1 : nx < tt) (hx2 : fx ≠ 0 → nx = tt - 1) (E2 : fk (tt - 1) = 0) (h8 : fx = 0 → nx = P (i + 1) - 1) (hcc1 : 1 ≤ P (i + 1)) (v8 : i + 1 < n → fk (P (i + 1) - 1) = 44) (v10 : 0 < n → P n = q) (v11 : fk (q - 1) = c) (hc : c ≠ 44) : u < tt ∧ (fx ≠ 0 → u = tt - 1) ∧ (fx = 0 → (i + 1 < n → u = P (i + 1)) ∧ (i + 1 = n → u + 1 = q)) := by
  rcases htk with ⟨-, z1, z2, z3, -⟩ | ⟨-, z1, z2⟩
  · refine ⟨z2, fun q9 => ?_, fun q9 => ?_⟩
    · exact absurd z3 (by rw [hx2 q9, E2]; decide)
    · have h9 := h8 q9
      refine ⟨fun _ => by omega, fun w9 => ?_⟩
      have h7 := v10 (by omega)
      exact absurd z3 (by rw [h9, w9, h7, v11]; exact hc)
  · refine ⟨by omega, fun q9 => by rw [z1]; exact hx2 q9, fun q9 => ?_⟩
    have h9 := h8 q9
    refine ⟨fun w9 => ?_, fun w9 => ?_⟩
    · exact absurd (v8 w9) (by rw [← h9]; exact z2.elim id (fun q8 => absurd q8 hZ2))
    · have h7 := v10 (by omega); rw [w9] at h9 hcc1; omega
theorem l_n3 {fx : Int32} {a tt : Nat} (h1 : 1 ≤ a) (ha : a < tt) : (if fx = 0 then a else tt - 1) < tt ∧ (fx ≠ 0 → (if fx = 0 then a else tt - 1) = tt - 1) ∧ (fx = 0 → (if fx = 0 then a else tt - 1) = a - 1 + 1) := by
  refine ⟨?_, fun z => if_neg z, fun z => by rw [if_pos z]; omega⟩
  by_cases e : fx = 0
  · rw [if_pos e]; exact ha
  · rw [if_neg e]; omega
theorem head_of {D : (Nat → ClassId) × (Nat → Nat → Nat)} {H : Heap} {kI kZ : ClassId} {a : Nat → Nat} {ytk ybd yac yrs yrl ycf yct ylf ylt : Int32} {ylv ypr : Nat} {S : tgS} {fe0 fe1 : Nat → Int32} (h : va_P D vwCl [(a 0, .inr (2, [.int ytk, .int ybd, .int (nI ylv), .ref (a 1), .int (nI ypr), .ref (a 2), .int yac, .int yrs, .int yrl, .int (nI (S.1 4)), .ref (a 3), .ref (a 4), .ref (a 5), .ref (a 6), .ref (a 7), .ref (a 8), .int (nI (S.1 6)), .int ycf, .int yct, .int ylf, .int ylt, .int (nI (S.1 5))])), (a 1, .inl (kI, 8, .inl fe0)), (a 2, .inl (kI, 12, .inl fe1)), (a 3, .inl (kI, 40, .inl (S.2 14))), (a 4, .inl (kI, 40, .inl (S.2 15))), (a 5, .inl (kZ, 40, .inl (S.2 16))), (a 6, .inl (kI, 40, .inl (S.2 17))), (a 7, .inl (kI, 40, .inl (S.2 18))), (a 8, .inl (kI, 40, .inl (S.2 19)))] H) : ∃ (x : Nat → Int32) (y : Nat → Nat → Int32), va_P D vwCl (fnR kI kZ a x y) H ∧ x 3 = nI ypr ∧ x 5 = yrs ∧ y 3 = S.2 15 := ⟨(fun k => match k with | 0 => ytk | 1 => ybd | 2 => nI ylv | 3 => nI ypr | 4 => yac | 5 => yrs | 6 => yrl | 7 => nI (S.1 4) | 8 => nI (S.1 6) | 9 => ycf | 10 => yct | 11 => ylf | 12 => ylt | 13 => nI (S.1 5) | _ => 0), (fun k => match k with | 0 => fe0 | 1 => fe1 | 2 => S.2 14 | 3 => S.2 15 | 4 => S.2 16 | 5 => S.2 17 | 6 => S.2 18 | 7 => S.2 19 | _ => fun _ => 0), h, rfl, rfl, rfl⟩
