def mA (mr : Nat → Nat) (mv : Nat → Int32) (vf : Value) (x_length x_size x_fault x_faultAt x_tokens x_p x_itemMany x_typeItems x_functions x_nest x_variables x_borrows : Int32) : List Value := [.ref (mr 0), .int x_length, .int x_size, .int x_fault, .int x_faultAt, .ref (mr 5), .ref (mr 6), .ref (mr 7), .ref (mr 8), .int x_tokens, .int x_p, .ref (mr 11), .int x_itemMany, .int x_typeItems, .int x_functions, .int x_nest, .int x_variables, .int x_borrows, .ref (mr 18), .int (mv 19), .ref (mr 20), .int (mv 21), .ref (mr 22), .int (mv 23), .int (mv 24), vf, .int (mv 26), .ref (mr 27), .ref (mr 28), .ref (mr 29), .ref (mr 30), .ref (mr 31), .ref (mr 32), .ref (mr 33), .ref (mr 34), .ref (mr 35), .ref (mr 36), .ref (mr 37), .ref (mr 38), .ref (mr 39), .ref (mr 40), .ref (mr 41), .ref (mr 42), .ref (mr 43), .ref (mr 44), .ref (mr 45), .ref (mr 46), .int (mv 47), .int (mv 48), .ref (mr 49), .int (mv 50), .ref (mr 51), .ref (mr 52), .ref (mr 53), .ref (mr 54), .ref (mr 55), .ref (mr 56), .int (mv 57), .ref (mr 58), .ref (mr 59), .ref (mr 60), .ref (mr 61), .ref (mr 62), .ref (mr 63), .int (mv 64), .int (mv 65), .int (mv 66), .ref (mr 67), .int (mv 68), .int (mv 69), .int (mv 70), .int (mv 71), .ref (mr 72), .int (mv 73), .ref (mr 74), .ref (mr 75), .int (mv 76), .int (mv 77), .ref (mr 78), .ref (mr 79), .ref (mr 80), .int (mv 81), .ref (mr 82), .int (mv 83), .int (mv 84), .ref (mr 85), .int (mv 86), .int (mv 87), .int (mv 88)]
def atF (ft : Nat → Int32) (zs k : Nat) : Int32 := if k < zs then ft k else -1
theorem atF_lt {ft : Nat → Int32} {zs k : Nat} {x : Int32} (h : atF ft zs k = x) (hx : x ≠ -1) : k < zs := by
  unfold atF at h
  split at h
  · assumption
  · exact absurd h.symm hx
def letB (c : Int32) : Int32 := if c ≠ 95 then 0 else 1
def letA (c : Int32) : Int32 := if c < 65 then letB c else if c ≤ 90 then 1 else letB c
def letF (c : Int32) : Int32 := if c < 97 then letA c else if c ≤ 122 then 1 else letA c
def digF (c : Int32) : Int32 := if c < 48 then 0 else if 57 < c then 0 else 1
theorem letF_1 : letF (-1) = 0 := by decide +kernel
theorem digF_1 : digF (-1) = 0 := by decide +kernel
theorem letF_lt {ft : Nat → Int32} {zs k : Nat} (h : ¬ letF (atF ft zs k) = 0) : k < zs := by
  rcases Nat.lt_or_ge k zs with z | z
  · exact z
  · exact absurd (by unfold atF; rw [if_neg (by omega)]; exact letF_1) h
theorem digF_lt {ft : Nat → Int32} {zs k : Nat} (h : ¬ digF (atF ft zs k) = 0) : k < zs := by
  rcases Nat.lt_or_ge k zs with z | z
  · exact z
  · exact absurd (by unfold atF; rw [if_neg (by omega)]; exact digF_1) h
