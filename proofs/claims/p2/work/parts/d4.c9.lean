section
variable {F X : tF} {G : Nat → Nat → Nat} {rs a b : Nat} {k : Nat → Option (List tE)} {h : Nat → fuT}
theorem fu_ag (ht : ∀ i : Nat, a ≤ i → i < b → fuR F i (h (i + 1)) (h i)) (h0 : (h a).2.2 = 0) : ∀ d i : Nat, i = a + d → i ≤ b → (h i).2.2 = 0
  | 0, i, e, _ => by rw [show i = a by omega]; exact h0
  | d + 1, i, e, hb => by
    obtain ⟨j, rfl⟩ : ∃ j : Nat, i = j + 1 := ⟨a + d, by omega⟩
    have q := fu_ag ht h0 d j (by omega) (by omega)
    obtain ⟨o, ho, h33, e9⟩ := ht j (by omega) (by omega)
    have e8 : (h j).2.2 = uaG F (h (j + 1)).2.1 j (h (j + 1)).1 (h (j + 1)).2.2 o := by rw [e9]
    rw [q] at e8
    unfold uaG at e8
    by_cases c : (h (j + 1)).2.2 = 0
    · exact c
    · by_cases c2 : o = 14
      · rw [if_pos c2, if_pos c] at e8; exact absurd e8 (by decide)
      · rw [if_neg c2] at e8; exact e8.symm
/-- what is used at label L: behind it as at the beginning, ahead of it as at it -/
theorem fu_row (hc : ceI F X G rs a b k) (ht : ∀ i : Nat, a ≤ i → i < b → fuR F i (h (i + 1)) (h i)) {j L : Nat} (hj : a ≤ j) (hjb : j < b) (hl : isL (F 0 j)) (hL : F 1 j = nI L) (hL2 : L < 1100) : (h j).1 = (h (j + 1)).1 ∧ ∀ d i : Nat, a ≤ i → i + d = b → (h i).2.1 L = if i ≤ j then (h j).1 else (h b).2.1 L := by
  have step : ∀ i : Nat, a ≤ i → i < b → i ≠ j → (h i).2.1 L = (h (i + 1)).2.1 L := fun i h1 h2 h3 => by
    obtain ⟨o, ho, h33, e9⟩ := ht i h1 h2
    have e8 : (h i).2.1 = uaW F (h (i + 1)).2.1 i (h (i + 1)).1 o := by rw [e9]
    rw [e8]
    unfold uaW
    by_cases c : o = 13 ∨ o = 14
    · have hi : isL (F 0 i) := by rcases c with z | z <;> rw [ho, z]; exact Or.inl rfl; exact Or.inr rfl
      obtain ⟨M, m1, m2, -⟩ := hc.2.2 i h1 h2 hi
      rw [if_pos c, m2, cN_nI (by omega)]
      refine pk_uLn (fun e => h3 ?_)
      exact ce_one hc h1 h2 hi hj hjb hl m2 (by rw [hL, e])
    · rw [if_neg c]
  obtain ⟨o, ho, h33, e9⟩ := ht j hj hjb
  have ho2 : o = 13 ∨ o = 14 := by rw [ho] at hl; exact isL_nI h33 hl
  have e7 : (h j).1 = (h (j + 1)).1 := by
    have e8 : (h j).1 = uaF F (h (j + 1)).2.1 j (h (j + 1)).1 o := by rw [e9]
    rw [e8]
    rcases ho2 with rfl | rfl <;> rfl
  refine ⟨e7, ?_⟩
  have e6 : (h j).2.1 L = (h j).1 := by
    have e8 : (h j).2.1 = uaW F (h (j + 1)).2.1 j (h (j + 1)).1 o := by rw [e9]
    rw [e8]
    unfold uaW
    rw [if_pos ho2, hL, cN_nI (by omega), e7]
    exact pk_uLs
  intro d
  induction d with
  | zero =>
    intro i h1 h2
    rw [show i = b by omega, if_neg (by omega)]
  | succ d ih =>
    intro i h1 h2
    by_cases c : i = j
    · rw [c, if_pos (Nat.le_refl _)]; exact e6
    · rw [step i h1 (by omega) c, ih (i + 1) (by omega) (by omega)]
      by_cases c2 : i ≤ j
      · rw [if_pos c2, if_pos (by omega)]
      · rw [if_neg c2, if_neg (by omega)]
theorem uaA_bit {ua : Nat → Int64} {tb : Nat} : ∀ {c g L : Nat}, g < c → F 13 (tb + g) = nI L → L < 1100 → lS (ua L) (uaA F ua tb c)
  | 0, g, L, h1, _, _ => absurd h1 (by omega)
  | c + 1, g, L, h1, h2, h3 => by
    show lS (ua L) (uaA F ua tb c ||| ua (cN (F 13 (tb + c))))
    by_cases e : g = c
    · rw [← e, h2, cN_nI (by omega)]
      exact fun q hq hb => by rw [lbit_or, hb, Bool.or_true]
    · exact lS_tr (uaA_bit (show g < c by omega) h2 h3) (lS_orl _ _)
/-- a jump ahead: what is used there is used ahead of it -/
theorem fu_jump (hc : ceI F X G rs a b k) (ht : ∀ i : Nat, a ≤ i → i < b → fuR F i (h (i + 1)) (h i)) {i j L : Nat} (ha : a ≤ i) (hij : i < j) (hjb : j < b) (hl : isL (F 0 j)) (hL : F 1 j = nI L) (hL2 : L < 1100) (hg : tgt F i L) : lS (h j).1 (h i).1 := by
  have e1 := (fu_row hc ht (show a ≤ j by omega) hjb hl hL hL2).2 (b - (i + 1)) (i + 1) (by omega) (by omega)
  rw [if_pos (by omega)] at e1
  obtain ⟨o, ho, h33, e9⟩ := ht i ha (by omega)
  have e8 : (h i).1 = uaF F (h (i + 1)).2.1 i (h (i + 1)).1 o := by rw [e9]
  rw [e8, ← e1]
  have orr : ∀ x y : Int64, lS y (x ||| y) := fun x y q hq hb => by rw [lbit_or, hb, Bool.or_true]
  rcases hg with ⟨q, q2⟩ | ⟨q, tb, c, g, q1, q2, q3, q4, q5, q6⟩
  · rcases q with q | q | q | q
    · obtain rfl : o = 16 := nI_33 h33 (by omega) (ho.symm.trans q)
      show lS _ ((h (i + 1)).2.1 (cN (F 1 i)))
      rw [q2, cN_nI (by omega)]; exact lS_rf _
    · obtain rfl : o = 17 := nI_33 h33 (by omega) (ho.symm.trans q)
      show lS _ ((h (i + 1)).1 ||| (h (i + 1)).2.1 (cN (F 1 i)))
      rw [q2, cN_nI (by omega)]; exact orr _ _
    · obtain rfl : o = 18 := nI_33 h33 (by omega) (ho.symm.trans q)
      show lS _ ((h (i + 1)).1 ||| (h (i + 1)).2.1 (cN (F 1 i)))
      rw [q2, cN_nI (by omega)]; exact orr _ _
    · obtain rfl : o = 19 := nI_33 h33 (by omega) (ho.symm.trans q)
      show lS _ ((h (i + 1)).1 ||| (h (i + 1)).2.1 (cN (F 1 i)))
      rw [q2, cN_nI (by omega)]; exact orr _ _
  · obtain rfl : o = 20 := nI_33 h33 (by omega) (ho.symm.trans q)
    show lS _ (uaA F (h (i + 1)).2.1 (cN (F 1 i)) (cN (F 3 i)))
    rw [q1, q2, cN_nI (by omega), cN_nI (by omega)]
    exact uaA_bit q5 q6 hL2
/-- the way back of a loop -/
theorem fu_loop (hc : ceI F X G rs a b k) (ht : ∀ i : Nat, a ≤ i → i < b → fuR F i (h (i + 1)) (h i)) (h0 : (h a).2.2 = 0) {i j L : Nat} (ha : a ≤ j) (hji : j ≤ i) (hib : i < b) (h15 : F 0 i = 15) (hiL : F 1 i = nI L) (hL2 : L < 1100) (h14 : F 0 j = 14) (hL : F 1 j = nI L) : (h i).1 = (h j).1 := by
  have hjn : j ≠ i := fun e => by rw [e, h15] at h14; exact absurd h14 (by decide)
  obtain ⟨e7, hrow⟩ := fu_row hc ht ha (show j < b by omega) (Or.inr h14) hL hL2
  have e1 := hrow (b - (i + 1)) (i + 1) (by omega) (by omega)
  rw [if_neg (by omega)] at e1
  have e2 := hrow (b - (j + 1)) (j + 1) (by omega) (by omega)
  rw [if_neg (by omega)] at e2
  obtain ⟨o, ho, h33, e9⟩ := ht i (by omega) hib
  have e8 : (h i).1 = uaF F (h (i + 1)).2.1 i (h (i + 1)).1 o := by rw [e9]
  obtain rfl : o = 15 := nI_33 h33 (by omega) (ho.symm.trans h15)
  have e8 : (h i).1 = (h (i + 1)).2.1 (cN (F 1 i)) := e8
  rw [e8, hiL, cN_nI (by omega), e1, ← e2]
  obtain ⟨o2, ho2, h332, e92⟩ := ht j ha (by omega)
  obtain rfl : o2 = 14 := nI_33 h332 (by omega) (ho2.symm.trans h14)
  have e82 : (h j).2.2 = uaG F (h (j + 1)).2.1 j (h (j + 1)).1 (h (j + 1)).2.2 14 := by rw [e92]
  rw [fu_ag ht h0 (j - a) j (by omega) (by omega)] at e82
  unfold uaG at e82
  rw [if_pos rfl, fu_ag ht h0 (j + 1 - a) (j + 1) (by omega) (by omega), if_neg (by decide), hL, cN_nI (by omega)] at e82
  by_cases c : lg_cmp ((h (j + 1)).2.1 L) (h (j + 1)).1 = 0
  · rw [e7]; exact lgc0.mp c
  · rw [if_neg c] at e82; exact absurd e82 (by decide)
end
