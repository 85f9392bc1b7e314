def f_ok_12 (K : Ky) (S : Sg) (y0 : Int32) : Option (Sg × Int32) :=
  (zB y0).bind fun _ => some (S, y0)
def f_ok (K : Ky) (S0 : Sg) : Option (Sg × Int32) :=
  if (Zi S0 3) = 0 then (f_ok_12 K S0 1) else (f_ok_12 K S0 0)
def f_fail (K : Ky) (S0 : Sg) (x1 : Int32) (x2 : Int32) : Option (Sg × Unit) :=
  if (Zi S0 3) = 0 then ((pM S0 3 x1).bind fun S1 =>
  (rI S1 6 x2).bind fun v2 =>
  (pM S1 4 v2).bind fun S3 =>
  some (S3, ())) else (some (S0, ()))
def f_sameName_36 (K : Ky) : Nat → Sg → Int32 → Int32 → Int32 → Int32 → Option (Sg × Int32)
  | 0, _, _, _, _, _ => none
  | n9 + 1, S, x1, x2, x3, x4 =>
    if x3 ≤ x4 then ((zB 1).bind fun _ => some (S, 1)) else ((rI S 6 x1).bind fun v5 =>
    (rI S 0 (v5 + x4)).bind fun v6 =>
    (rI S 6 x2).bind fun v7 =>
    (rI S 0 (v7 + x4)).bind fun v8 =>
    if v6 = v8 then (f_sameName_36 K n9 S x1 x2 x3 (x4 + 1)) else ((zB 0).bind fun _ => some (S, 0)))
def f_sameName (K : Ky) (S0 : Sg) (x1 : Int32) (x2 : Int32) : Option (Sg × Int32) :=
  (rI S0 7 x1).bind fun v1 =>
  (rI S0 6 x1).bind fun v2 =>
  (rI S0 7 x2).bind fun v3 =>
  (rI S0 6 x2).bind fun v4 =>
  if (v3 - v4) = (v1 - v2) then (f_sameName_36 K bigN S0 x1 x2 (v1 - v2) 0) else ((zB 0).bind fun _ => some (S0, 0))
def f_isMain_74 (K : Ky) (S : Sg) (y0 : Int32) : Option (Sg × Int32) :=
  (zB y0).bind fun _ => some (S, y0)
def f_isMain_73 (K : Ky) (S : Sg) : Option (Sg × Int32) :=
  f_isMain_74 K S 0
def f_isMain (K : Ky) (S0 : Sg) (x1 : Int32) : Option (Sg × Int32) :=
  (rI S0 6 x1).bind fun v1 =>
  (rI S0 7 x1).bind fun v2 =>
  if (v2 - v1) = 4 then ((rI S0 0 v1).bind fun v3 =>
  if v3 = 109 then ((rI S0 0 (v1 + 1)).bind fun v4 =>
  if v4 = 97 then ((rI S0 0 (v1 + 2)).bind fun v5 =>
  if v5 = 105 then ((rI S0 0 (v1 + 3)).bind fun v6 =>
  if v6 = 110 then (f_isMain_74 K S0 1) else (f_isMain_73 K S0)) else (f_isMain_73 K S0)) else (f_isMain_73 K S0)) else (f_isMain_73 K S0)) else (f_isMain_73 K S0)
def f_is_18 (K : Ky) (S : Sg) (y0 : Int32) : Option (Sg × Int32) :=
  (zB y0).bind fun _ => some (S, y0)
def f_is (K : Ky) (S0 : Sg) (x1 : Int32) : Option (Sg × Int32) :=
  (rI S0 5 (Zi S0 10)).bind fun v1 =>
  if v1 = x1 then (f_is_18 K S0 1) else (f_is_18 K S0 0)
def f_take_38 (K : Ky) (S : Sg) : Option (Sg × Unit) :=
  some (S, ())
def f_take (K : Ky) (S0 : Sg) (x1 : Int32) : Option (Sg × Unit) :=
  bnd (f_ok K S0) fun S1 v2 =>
  if v2 = 0 then (some (S1, ())) else (bnd (f_is K S1 x1) fun S3 v4 =>
  if v4 = 0 then (bnd (f_fail K S3 1 (Zi S3 10)) fun S5 v6 =>
  f_take_38 K S5) else ((pM S3 10 ((Zi S3 10) + 1)).bind fun S7 =>
  f_take_38 K S7))
def f_takes_15 (K : Ky) (S : Sg) : Option (Sg × Int32) :=
  (zB 0).bind fun _ => some (S, 0)
def f_takes (K : Ky) (S0 : Sg) (x1 : Int32) : Option (Sg × Int32) :=
  bnd (f_ok K S0) fun S1 v2 =>
  if v2 = 0 then (f_takes_15 K S1) else (bnd (f_is K S1 x1) fun S3 v4 =>
  if v4 = 0 then (f_takes_15 K S3) else ((pM S3 10 ((Zi S3 10) + 1)).bind fun S5 =>
  (zB 1).bind fun _ => some (S5, 1)))
def f_name (K : Ky) (S0 : Sg) : Option (Sg × Int32) :=
  bnd (f_take K S0 2) fun S1 v2 =>
  some (S1, (Zi S1 10) - 1)
def f_enter_22 (K : Ky) (S : Sg) : Option (Sg × Unit) :=
  (pM S 15 ((Zi S 15) + 1)).bind fun S5 =>
  some (S5, ())
def f_enter (K : Ky) (S0 : Sg) (x1 : Int32) : Option (Sg × Unit) :=
  bnd (f_ok K S0) fun S1 v2 =>
  if v2 = 0 then (f_enter_22 K S1) else (if (Zi S1 15) = 16 then (bnd (f_fail K S1 2 x1) fun S3 v4 =>
  f_enter_22 K S3) else (f_enter_22 K S1))
def f_limit_29 (K : Ky) (S : Sg) : Option (Sg × Unit) :=
  some (S, ())
def f_limit (K : Ky) (S0 : Sg) (x1 : Int32) (x2 : Int32) : Option (Sg × Unit) :=
  bnd (f_ok K S0) fun S1 v2 =>
  if v2 = 0 then (f_limit_29 K S1) else (bnd (f_is K S1 2) fun S3 v4 =>
  if v4 = 0 then (f_limit_29 K S3) else (if x1 = x2 then (bnd (f_fail K S3 2 (Zi S3 10)) fun S5 v6 =>
  f_limit_29 K S5) else (f_limit_29 K S3)))
def f_X22_init (K : Ky) (S0 : Sg) (x0 : Nat) : Option (Sg × Unit) :=
  (pV S0 22 (some x0) 3 (.int (-1))).bind fun S1 =>
  some (S1, ())
def f_written_214 (K : Ky) (V : Sg → Option (Sg × Option Nat)) (S : Sg) (x1 : Option Nat) : Option (Sg × Option Nat) :=
  some (S, x1)
def f_written_136 (K : Ky) (V : Sg → Option (Sg × Option Nat)) (S : Sg) (x1 : Option Nat) : Option (Sg × Option Nat) :=
  bnd (V S) fun S39 v40 =>
  (pV S39 22 x1 4 (va_rf v40)).bind fun S41 =>
  (pM S41 15 ((Zi S41 15) - 1)).bind fun S42 =>
  f_written_214 K V S42 x1
def f_written_118 (K : Ky) (V : Sg → Option (Sg × Option Nat)) (S : Sg) (x1 : Option Nat) (x2 : Int32) : Option (Sg × Option Nat) :=
  if x2 = 0 then (f_written_136 K V S x1) else (bnd (f_takes K S 14) fun S36 v37 =>
  if v37 = 0 then (f_written_136 K V S36 x1) else ((pV S36 22 x1 2 (.int 1)).bind fun S38 =>
  f_written_136 K V S38 x1))
def f_written_56 (K : Ky) (V : Sg → Option (Sg × Option Nat)) (S : Sg) (x1 : Option Nat) : Option (Sg × Option Nat) :=
  bnd (f_enter K S (Zi S 10)) fun S25 v26 =>
  bnd (f_is K S25 55) fun S27 v28 =>
  (pM S27 10 ((Zi S27 10) + 1)).bind fun S29 =>
  if v28 = 0 then (f_written_118 K V S29 x1 v28) else (bnd (f_ok K S29) fun S30 v31 =>
  if v31 = 0 then (f_written_118 K V S30 x1 v28) else (bnd (f_is K S30 4) fun S32 v33 =>
  if v33 = 0 then (f_written_118 K V S32 x1 v28) else ((pV S32 22 x1 3 (.int (Zi S32 10))).bind fun S34 =>
  (pM S34 10 ((Zi S34 10) + 1)).bind fun S35 =>
  f_written_118 K V S35 x1 v28)))
def f_written_192 (K : Ky) (V : Sg → Option (Sg × Option Nat)) (S : Sg) (x1 : Option Nat) : Option (Sg × Option Nat) :=
  (pM S 10 ((Zi S 10) + 1)).bind fun S24 =>
  f_written_214 K V S24 x1
def f_written (K : Ky) : Nat → Sg → Option (Sg × Option Nat)
  | 0, _ => none
  | d + 1, S0 =>
    bnd (nO K S0 22 5 [.int 0, .int 0, .int 0, .int 0, .null]) fun S1 a2 =>
    bnd (f_X22_init K S1 a2) fun S3 _ =>
    bnd (f_ok K S3) fun S5 v6 =>
    if v6 = 0 then (some (S5, some a2)) else ((pV S5 22 (some a2) 1 (.int (Zi S5 10))).bind fun S7 =>
    (rI S7 5 (Zi S7 10)).bind fun v8 =>
    (pV S7 22 (some a2) 0 (.int v8)).bind fun S9 =>
    bnd (f_is K S9 23) fun S10 v11 =>
    if v11 = 0 then (bnd (f_is K S10 55) fun S12 v13 =>
    if v13 = 0 then (bnd (f_is K S12 26) fun S14 v15 =>
    if v15 = 0 then (bnd (f_is K S14 27) fun S16 v17 =>
    if v17 = 0 then (bnd (f_is K S16 25) fun S18 v19 =>
    if v19 = 0 then (bnd (f_is K S18 2) fun S20 v21 =>
    if v21 = 0 then (bnd (f_fail K S20 1 (Zi S20 10)) fun S22 v23 =>
    f_written_214 K (f_written K d) S22 (some a2)) else (f_written_192 K (f_written K d) S20 (some a2))) else (f_written_192 K (f_written K d) S18 (some a2))) else (f_written_192 K (f_written K d) S16 (some a2))) else (f_written_192 K (f_written K d) S14 (some a2))) else (f_written_56 K (f_written K d) S12 (some a2))) else (f_written_56 K (f_written K d) S10 (some a2)))
