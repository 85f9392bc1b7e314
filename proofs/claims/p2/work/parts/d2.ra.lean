/-- a frame: its function, its values, how many of them are a call's arguments that are gone, where references lead, what they hold, variables used ahead, places of variables that may be without a value, what outer loans lead to -/
abbrev kFm := Nat × List tE × Nat × (Nat → Option lLc) × (Nat → Nat → Prop) × (Nat → Prop) × (Nat → lLc → Prop) × (Nat → lLc → Nat → Prop)
def kR (x : kFm) : Nat → Option lLc := x.2.2.2.1
def kH (x : kFm) : Nat → Nat → Prop := x.2.2.2.2.1
def kal (x : kFm) : Nat → Prop := x.2.2.2.2.2.1
def klo (x : kFm) : Nat → lLc → Prop := x.2.2.2.2.2.2.1
def kAn (x : kFm) : Nat → lLc → Nat → Prop := x.2.2.2.2.2.2.2
/-- those that are used -/
def kA (x : kFm) (u : Nat) : Prop := (u < 40 ∧ kal x u) ∨ (40 ≤ u ∧ u < 40 + wl x.2.1 + x.2.2.1)
def kfr (y : qY) (rt : Nat × Nat → Nat) (j : Nat) (x : kFm) : lFr := (kR x, kA x, kH x, fun u => y.1 (rt (j, u)) = 6)
/-- the first n parts of type t from m on stand as roots 400.. of frame j -/
def kMt (y : qY) (rt : Nat × Nat → Nat) (V : Nat × Nat → qV) (j t g m : Nat) : Prop := ∀ i : Nat, m ≤ i → i < y.2.2.2.1 t g → rt (j, 400 + i) = y.2.2.2.2 t g i ∧ qF y (V (j, 400 + i)) [] (y.2.2.2.2 t g i)
/-- types of references -/
def qCr (y : qY) : Prop := ∀ T : Nat, T < 10000 → y.1 (10000 + 2 * T) = 5 ∧ y.2.1 (10000 + 2 * T) = T ∧ y.1 (10001 + 2 * T) = 6 ∧ y.2.1 (10001 + 2 * T) = T
/-- an entry of the stack, n normal ones below it -/
def kE (y : qY) (rt : Nat × Nat → Nat) (V : Nat × Nat → qV) (j : Nat) (x : kFm) (n : Nat) : tE → Prop
  | (0, t, _) => kR x (40 + n) = none ∧ y.1 t ≠ 5 ∧ y.1 t ≠ 6 ∧ (t ≠ 0 → rt (j, 40 + n) = t ∧ qF y (V (j, 40 + n)) [] t) ∧ (t = 0 → ∀ π : lLc, V (j, 40 + n) π = none)
  | (1, T, _) => rt (j, 40 + n) = 10000 + 2 * T ∧ ∃ z : Nat × Nat, V (j, 40 + n) [] = some z
  | (2, T, _) => rt (j, 40 + n) = 10001 + 2 * T ∧ ∃ z : Nat × Nat, V (j, 40 + n) [] = some z
  | (3, _, _) => kR x (40 + n) = none ∧ rt (j, 40 + n) = 1 ∧ ∃ z : Nat × Nat, V (j, 40 + n) [] = some z
  | (4, r, m) => kMt y rt V j (4 + r / 12) (r % 12) m
  | (5, r, _) => rt (j, 300) = 10000 + 2 * (4 + r / 12) ∧ ∃ z : Nat × Nat, V (j, 300) [] = some z
  | (6, r, _) => rt (j, 300) = 10001 + 2 * (4 + r / 12) ∧ ∃ z : Nat × Nat, V (j, 300) [] = some z
  | (7, t, m) => kR x (40 + n) = none ∧ y.1 t = 2 ∧ rt (j, 40 + n) = t ∧ ∀ i : Nat, i < y.2.2.2.1 t 0 → m.testBit i = true → qF y (V (j, 40 + n)) [(0, i)] (y.2.2.2.2 t 0 i)
  | (8, _, _) => True
  | _ => False
def kK (y : qY) (rt : Nat × Nat → Nat) (V : Nat × Nat → qV) (j : Nat) (x : kFm) : List tE → Prop
  | [] => True
  | e :: s => kE y rt V j x (wl s) e ∧ kK y rt V j x s
/-- a root of a frame that may hold something -/
def kRo (y : qY) (S : List tE) (u : Nat) : Prop := (u < 40 ∧ (8, u, 0) ∈ S) ∨ (40 ≤ u ∧ u < 40 + wl S) ∨ (u = 300 ∧ ∃ r m : Nat, (5, r, m) ∈ S ∨ (6, r, m) ∈ S) ∨ (∃ r m i : Nat, (4, r, m) ∈ S ∧ u = 400 + i ∧ m ≤ i ∧ i < y.2.2.2.1 (4 + r / 12) (r % 12))
/-- a reference that is matched on: (4 + q, row, loan + 1 + 64 * parts that are bound) -/
def kPm (y : qY) (rt : Nat × Nat → Nat) (V : Nat × Nat → qV) (j : Nat) (tb : lTb) (x : kFm) (q r m : Nat) : Prop := ∃ (a0 : Nat × Nat) (π : lLc), kR x 300 = some (a0 :: π) ∧ a0.2 < 40 ∧ qW y (rt a0) π (4 + r / 12) ∧ V a0 π = some (4 + r / 12, r % 12) ∧ lOk j tb (kAn x) (kH x 300) (q = 6) (a0 :: π) ∧ ∀ (u : Nat) (b : lLc), kA x u → kR x u = some b → (q = 6 ∨ y.1 (rt (j, u)) = 6) → lCmp (a0 :: π) b → (∃ i : Nat, i < m / 64 ∧ lP (a0 :: (π ++ [(r % 12 + 2, i)])) b) ∨ (u < 40 ∧ ∃ (l : Nat) (σ : lLc), ¬ tb.2.2.2.1 l ∧ kH x 300 l ∧ tb.1 l = u ∧ tb.2.1 l = (1, 0) :: σ ∧ lP (b ++ σ) (a0 :: π) ∧ (q = 6 → ¬ tb.2.2.1 l))
/-- reference u of frame j leads to a -/
def qTr (y : qY) (rt : Nat × Nat → Nat) (V : Nat × Nat → qV) (j u : Nat) (a : lLc) : Prop := (y.1 (rt (j, u)) = 5 ∨ y.1 (rt (j, u)) = 6) ∧ qTg y rt V a (y.2.1 (rt (j, u)))
/-- the state: y types, vt types of a function's variables, tb its loans; frames up to f -/
def kJ (y : qY) (vt : Nat → Nat → Nat) (tb : Nat → lTb) (f : Nat) (x : Nat → kFm) (rt : Nat × Nat → Nat) (V : Nat × Nat → qV) : Prop :=
  (∀ r : Nat × Nat, qOk y (rt r) (V r)) ∧
  kSk f (fun j => tb (x j).1) (fun j => kAn (x j)) (fun j => kfr y rt j (x j)) ∧
  (∀ j : Nat, j ≤ f → ∀ (u : Nat) (a : lLc), kA (x j) u → kR (x j) u = some a → qTr y rt V j u a) ∧
  (∀ j : Nat, j ≤ f → ∀ (u t g : Nat), V (j, u) [] = some (t, g) → (y.1 t = 5 ∨ y.1 t = 6) → kA (x j) u → ∃ a : lLc, kR (x j) u = some a) ∧
  (∀ j : Nat, j ≤ f → kK y rt V j (x j) (x j).2.1) ∧
  (∀ (j u : Nat) (π : lLc) (z : Nat × Nat), V (j, u) π = some z → j ≤ f ∧ kRo y (x j).2.1 u ∧ (u < 40 → rt (j, u) = vt (x j).1 u)) ∧
  (∀ j : Nat, j ≤ f → ∀ v : Nat, v < 40 → (8, v, 0) ∈ (x j).2.1 → rt (j, v) = vt (x j).1 v ∧ ∀ (π : lLc) (T : Nat), qM π → qW y (vt (x j).1 v) π T → ¬ klo (x j) v π → qQ y (V (j, v)) π T) ∧
  (∀ j : Nat, j ≤ f → ∀ r m : Nat, ((5, r, m) ∈ (x j).2.1 → j = f ∧ kPm y rt V j (tb (x j).1) (x j) 5 r m) ∧ ((6, r, m) ∈ (x j).2.1 → j = f ∧ kPm y rt V j (tb (x j).1) (x j) 6 r m)) ∧
  (∀ j : Nat, j ≤ f → wl (x j).2.1 ≤ 211)
