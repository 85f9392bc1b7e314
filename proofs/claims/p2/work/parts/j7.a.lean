def mT (mr : Nat → Nat) (mv : Nat → Int32) (vf : Value) (x_fault x_faultAt x_tokens x_itemMany x_typeMany x_main x_scopeMany x_variableMany : Int32) : List Value := [.ref (mr 0), .int (mv 1), .int (mv 2), .int x_fault, .int x_faultAt, .ref (mr 5), .ref (mr 6), .ref (mr 7), .ref (mr 8), .int x_tokens, .int (mv 10), .ref (mr 11), .int x_itemMany, .int (mv 13), .int (mv 14), .int (mv 15), .int (mv 16), .int (mv 17), .ref (mr 18), .int x_typeMany, .ref (mr 20), .int x_main, .ref (mr 22), .int x_scopeMany, .int x_variableMany, vf, .int (mv 26), .ref (mr 27), .ref (mr 28), .ref (mr 29), .ref (mr 30), .ref (mr 31), .ref (mr 32), .ref (mr 33), .ref (mr 34), .ref (mr 35), .ref (mr 36), .ref (mr 37), .ref (mr 38), .ref (mr 39), .ref (mr 40), .ref (mr 41), .ref (mr 42), .ref (mr 43), .ref (mr 44), .ref (mr 45), .ref (mr 46), .int (mv 47), .int (mv 48), .ref (mr 49), .int (mv 50), .ref (mr 51), .ref (mr 52), .ref (mr 53), .ref (mr 54), .ref (mr 55), .ref (mr 56), .int (mv 57), .ref (mr 58), .ref (mr 59), .ref (mr 60), .ref (mr 61), .ref (mr 62), .ref (mr 63), .int (mv 64), .int (mv 65), .int (mv 66), .ref (mr 67), .int (mv 68), .int (mv 69), .int (mv 70), .int (mv 71), .ref (mr 72), .int (mv 73), .ref (mr 74), .ref (mr 75), .int (mv 76), .int (mv 77), .ref (mr 78), .ref (mr 79), .ref (mr 80), .int (mv 81), .ref (mr 82), .int (mv 83), .int (mv 84), .ref (mr 85), .int (mv 86), .int (mv 87), .int (mv 88)]
theorem nI_sub (a b : Nat) : nI (a + b) - nI b = nI a := by
  rw [← nI_add]; exact Int32.add_sub_cancel _ _
theorem nI_sb {a b : Nat} (h : b ≤ a) : nI a - nI b = nI (a - b) := by
  have := nI_sub (a - b) b
  rw [show a - b + b = a by omega] at this; exact this
/-- where a token lies -/
theorem tk_pl {fk fa fe : Nat → Int32} {T zs : Nat} (h : tkF fk fa fe T zs) {j : Nat} (hj : j < T) : ∃ a b : Nat, fa j = nI a ∧ fe j = nI b ∧ a ≤ b ∧ b ≤ zs := by
  obtain ⟨h1, h2, ⟨a, b, h3, h4⟩, h5, h6, h7⟩ := h
  rcases Nat.lt_or_ge j (T - 1) with z | z
  · obtain ⟨g1, g2, g3, g4, g5⟩ := h3 j z
    exact ⟨a j, b j, g1, g2, by omega, g4⟩
  · obtain rfl : j = T - 1 := by omega
    exact ⟨zs, zs, h6, h7, Nat.le_refl _, Nat.le_refl _⟩
/-- the table of types: t lies at ad t; Y t: kind, index, what it is of -/
def tyW (L : List Nat) (F : Nat → va_E) (fy : Nat → Option Nat) (tm : Nat) (Y : Nat → Int32 × Int32 × Option Nat) (ad : Nat → Nat) : Prop :=
  (∀ t : Nat, t < tm → fy t = some (ad t) ∧ ad t ∈ L ∧ F (ad t) = .inr (20, [.int (Y t).1, .int (Y t).2.1, .int (nI t), va_rf (Y t).2.2]) ∧ ((Y t).2.2 = none ∨ ∃ u : Nat, u < t ∧ (Y t).2.2 = some (ad u))) ∧ ∀ t u : Nat, t < tm → u < tm → Y t = Y u → t = u
theorem tyW_ex {L L2 : List Nat} {F F2 : Nat → va_E} {fy : Nat → Option Nat} {tm : Nat} {Y : Nat → Int32 × Int32 × Option Nat} {ad : Nat → Nat} (hx : exS L F L2 F2) (h : tyW L F fy tm Y ad) : tyW L2 F2 fy tm Y ad :=
  ⟨fun t ht => by obtain ⟨h1, h2, h3, h4⟩ := h.1 t ht; exact ⟨h1, (hx _ h2).1, (hx _ h2).2.trans h3, h4⟩, h.2⟩
/-- 0: the plain type of this kind is in the table; else 1 -/
def plY (Y : Nat → Int32 × Int32 × Option Nat) : Nat → Int32 → Nat
  | 0, _ => 1
  | n + 1, kd => if (Y n).1 = kd ∧ (Y n).2.1 = 0 ∧ (Y n).2.2 = none then 0 else plY Y n kd
theorem plY_le {Y : Nat → Int32 × Int32 × Option Nat} {kd : Int32} : ∀ n : Nat, plY Y n kd ≤ 1
  | 0 => Nat.le_refl _
  | n + 1 => by
    show (if _ then 0 else plY Y n kd) ≤ 1
    split
    · omega
    · exact plY_le n
theorem plY_s {Y : Nat → Int32 × Int32 × Option Nat} {n : Nat} {kd : Int32} : plY Y (n + 1) kd ≤ plY Y n kd := by
  show (if _ then 0 else plY Y n kd) ≤ _
  split
  · exact Nat.zero_le _
  · exact Nat.le_refl _
theorem plY_in {Y : Nat → Int32 × Int32 × Option Nat} {kd : Int32} : ∀ {n : Nat}, (∀ t : Nat, t < n → ¬ Y t = (kd, 0, none)) → plY Y n kd = 1
  | 0, _ => rfl
  | n + 1, h => by
    show (if _ then 0 else plY Y n kd) = 1
    rw [if_neg (fun q => h n (Nat.lt_succ_self n) (by rw [← q.1, ← q.2.1, ← q.2.2]))]
    exact plY_in (fun t ht => h t (by omega))
theorem plY_eq {Y Y2 : Nat → Int32 × Int32 × Option Nat} {kd : Int32} : ∀ {n : Nat}, (∀ t : Nat, t < n → Y2 t = Y t) → plY Y2 n kd = plY Y n kd
  | 0, _ => rfl
  | n + 1, h => by
    show (if _ then 0 else plY Y2 n kd) = if _ then 0 else plY Y n kd
    rw [h n (Nat.lt_succ_self n), plY_eq (fun t ht => h t (by omega))]
/-- types, and the plain ones that may still come -/
def ptN (Y : Nat → Int32 × Int32 × Option Nat) (tm : Nat) : Nat := tm + (plY Y tm 0) + (plY Y tm 1) + (plY Y tm 2) + (plY Y tm 8)
