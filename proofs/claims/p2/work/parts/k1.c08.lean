def f_ends__39 (K : Ky) (V : Sg → Option Nat → Option (Sg × Int32)) : Nat → Sg → Option Nat → Int32 → Option (Sg × Int32)
  | 0, _, _, _ => none
  | n9 + 1, S, x1, x2 =>
    (oI S 19 x1 13).bind fun v11 =>
    if v11 ≤ x2 then ((zB 1).bind fun _ => some (S, 1)) else ((oR S 19 x1 12).bind fun v12 =>
    (aQ K 7 S v12 x2).bind fun v13 =>
    (oR S 13 v13 5).bind fun v14 =>
    bnd (V S v14) fun S15 v16 =>
    if v16 = 0 then ((zB 0).bind fun _ => some (S15, 0)) else (f_ends__39 K V n9 S15 x1 (x2 + 1)))
def f_ends__95 (K : Ky) (V : Sg → Option Nat → Option (Sg × Int32)) (S : Sg) : Option (Sg × Int32) :=
  (zB 0).bind fun _ => some (S, 0)
def f_ends__99 (K : Ky) (V : Sg → Option Nat → Option (Sg × Int32)) : Nat → Sg → Option Nat → Int32 → Option (Sg × Int32)
  | 0, _, _, _ => none
  | n9 + 1, S, x1, x2 =>
    (oI S 19 x1 13).bind fun v17 =>
    if v17 ≤ x2 then ((zB 1).bind fun _ => some (S, 1)) else ((oR S 19 x1 11).bind fun v18 =>
    (aQ K 10 S v18 x2).bind fun v19 =>
    bnd (V S v19) fun S20 v21 =>
    if v21 = 0 then ((zB 0).bind fun _ => some (S20, 0)) else (f_ends__99 K V n9 S20 x1 (x2 + 1)))
def f_ends_ (K : Ky) (V : Sg → Option Nat → Option (Sg × Int32)) (S0 : Sg) (x1 : Option Nat) : Option (Sg × Int32) :=
  (oI S0 19 x1 0).bind fun v1 =>
  if v1 = 6 then ((zB 1).bind fun _ => some (S0, 1)) else ((oI S0 19 x1 0).bind fun v2 =>
  if v2 = 8 then ((oR S0 19 x1 9).bind fun v8 =>
  bnd (V S0 v8) fun S9 v10 =>
  (zB v10).bind fun _ => some (S9, v10)) else ((oI S0 19 x1 0).bind fun v3 =>
  if v3 = 5 then (f_ends__39 K V bigN S0 x1 0) else ((oI S0 19 x1 0).bind fun v4 =>
  if v4 = 3 then ((oR S0 19 x1 10).bind fun v5 =>
  (oI S0 19 x1 13).bind fun v6 =>
  (aQ K 9 S0 v5 (v6 - 1)).bind fun v7 =>
  if v7 = none then (f_ends__99 K V bigN S0 x1 0) else (f_ends__95 K V S0)) else (f_ends__95 K V S0))))
def f_ends_2 (K : Ky) (V : Sg → Option Nat → Option (Sg × Int32)) : Nat → Sg → Option Nat → Int32 → Option (Sg × Int32)
  | 0, _, _, _ => none
  | n9 + 1, S, x1, x2 =>
    (oI S 14 x1 3).bind fun v1 =>
    if v1 ≤ x2 then ((zB 0).bind fun _ => some (S, 0)) else ((oR S 14 x1 2).bind fun v2 =>
    (aQ K 11 S v2 x2).bind fun v3 =>
    bnd (f_ends_ K V S v3) fun S4 v5 =>
    if v5 = 0 then (f_ends_2 K V n9 S4 x1 (x2 + 1)) else ((zB 1).bind fun _ => some (S4, 1)))
def f_ends (K : Ky) : Nat → Sg → Option Nat → Option (Sg × Int32)
  | 0, _, _ => none
  | d + 1, S0, x1 =>
    f_ends_2 K (f_ends K d) bigN S0 x1 0
def f_typeFunction_111 (K : Ky) (S : Sg) : Option (Sg × Unit) :=
  some (S, ())
def f_typeFunction_24 (K : Ky) : Nat → Sg → Option Nat → Int32 → Option (Sg × Unit)
  | 0, _, _, _ => none
  | n9 + 1, S, x2, x3 =>
    (oI S 16 x2 3).bind fun v5 =>
    if v5 ≤ x3 then ((oR S 16 x2 16).bind fun v6 =>
    bnd (f_typeBlock K 45 S v6) fun S7 v8 =>
    bnd (f_ok K S7) fun S9 v10 =>
    if v10 = 0 then (f_typeFunction_111 K S9) else ((oR S9 16 x2 15).bind fun v11 =>
    (oI S9 20 v11 0).bind fun v12 =>
    if v12 = 8 then (f_typeFunction_111 K S9) else ((oR S9 16 x2 16).bind fun v13 =>
    bnd (f_ends K 45 S9 v13) fun S14 v15 =>
    if v15 = 0 then ((oR S14 16 x2 16).bind fun v16 =>
    (oI S14 14 v16 1).bind fun v17 =>
    bnd (f_fail K S14 4 v17) fun S18 v19 =>
    f_typeFunction_111 K S18) else (f_typeFunction_111 K S14)))) else ((oR S 16 x2 17).bind fun v20 =>
    (oR S 16 x2 8).bind fun v21 =>
    (aI K S v21 x3).bind fun v22 =>
    (oR S 16 x2 10).bind fun v23 =>
    (aQ K 4 S v23 x3).bind fun v24 =>
    bnd (f_declare K S v22 v24 0) fun S25 v26 =>
    (bQ K 5 21 S25 v20 x3 v26).bind fun S27 =>
    f_typeFunction_24 K n9 S27 x2 (x3 + 1))
def f_typeFunction (K : Ky) (S0 : Sg) (x1 : Int32) : Option (Sg × Unit) :=
  (rQ S0 11 x1).bind fun v1 =>
  (pMf S0 v1).bind fun S2 =>
  (pM S2 23 0).bind fun S3 =>
  (pM S3 24 0).bind fun S4 =>
  f_typeFunction_24 K bigN S4 v1 0
def f_typeAll_111 (K : Ky) (k77 : Sg → Int32 → Option (Sg × Unit)) (S : Sg) (x1 : Int32) : Option (Sg × Unit) :=
  k77 S (x1 + 1)
def f_typeAll_117 (K : Ky) (S : Sg) : Option (Sg × Unit) :=
  some (S, ())
def f_typeAll_77 (K : Ky) : Nat → Sg → Int32 → Option (Sg × Unit)
  | 0, _, _ => none
  | n9 + 1, S, x1 =>
    if (Zi S 12) ≤ x1 then (f_typeAll_117 K S) else (bnd (f_ok K S) fun S21 v22 =>
    if v22 = 0 then (f_typeAll_117 K S21) else ((rQ S21 11 x1).bind fun v23 =>
    (oI S21 16 v23 2).bind fun v24 =>
    if v24 = 12 then (bnd (f_typeFunction K S21 x1) fun S25 v26 =>
    f_typeAll_111 K ((f_typeAll_77 K n9)) S25 x1) else (f_typeAll_111 K ((f_typeAll_77 K n9)) S21 x1)))
def f_typeAll_75 (K : Ky) (S : Sg) : Option (Sg × Unit) :=
  f_typeAll_77 K bigN S 0
def f_typeAll_64 (K : Ky) (S : Sg) : Option (Sg × Unit) :=
  bnd (f_ok K S) fun S17 v18 =>
  if v18 = 0 then (f_typeAll_75 K S17) else (bnd (f_findMain K S17) fun S19 v20 =>
  f_typeAll_75 K S19)
def f_typeAll_53 (K : Ky) (S : Sg) : Option (Sg × Unit) :=
  bnd (f_ok K S) fun S13 v14 =>
  if v14 = 0 then (f_typeAll_64 K S13) else (bnd (f_leaves K S13) fun S15 v16 =>
  f_typeAll_64 K S15)
def f_typeAll_42 (K : Ky) (S : Sg) : Option (Sg × Unit) :=
  bnd (f_ok K S) fun S9 v10 =>
  if v10 = 0 then (f_typeAll_53 K S9) else (bnd (f_sizes K S9) fun S11 v12 =>
  f_typeAll_53 K S11)
def f_typeAll_11 (K : Ky) : Nat → Sg → Int32 → Option (Sg × Unit)
  | 0, _, _ => none
  | n9 + 1, S, x1 =>
    if (Zi S 12) ≤ x1 then (f_typeAll_42 K S) else (bnd (f_ok K S) fun S4 v5 =>
    if v5 = 0 then (f_typeAll_42 K S4) else ((rQ S4 11 x1).bind fun v6 =>
    bnd (f_itemTypes K S4 v6) fun S7 v8 =>
    f_typeAll_11 K n9 S7 (x1 + 1)))
def f_typeAll (K : Ky) (S0 : Sg) : Option (Sg × Unit) :=
  (pM S0 19 0).bind fun S1 =>
  bnd (f_itemNames K S1) fun S2 v3 =>
  f_typeAll_11 K bigN S2 0
def f_point (K : Ky) (S0 : Sg) (x1 : Int32) (x2 : Int32) : Option (Sg × Int32) :=
  (pM S0 26 ((Zi S0 26) + 1)).bind fun S1 =>
  (wRI S1 27 (Zi S0 26) x1).bind fun S2 =>
  (wRI S2 32 (Zi S0 26) x2).bind fun S3 =>
  (wRI S3 28 (Zi S0 26) 0).bind fun S4 =>
  (wRI S4 29 (Zi S0 26) 0).bind fun S5 =>
  (wRI S5 30 (Zi S0 26) (-1)).bind fun S6 =>
  (wJ S6 31 (Zi S0 26) 0).bind fun S7 =>
  (wRI S7 33 (Zi S0 26) 0).bind fun S8 =>
  (wRI S8 34 (Zi S0 26) (-1)).bind fun S9 =>
  (wRI S9 35 (Zi S0 26) (-1)).bind fun S10 =>
  (wA K S10 36 (Zi S0 26) none).bind fun S11 =>
  (wA K S11 37 (Zi S0 26) none).bind fun S12 =>
  (wQ S12 18 38 (Zi S0 26) none).bind fun S13 =>
  (wQ S13 20 39 (Zi S0 26) none).bind fun S14 =>
  (wQ S14 21 40 (Zi S0 26) none).bind fun S15 =>
  (wQ S15 13 41 (Zi S0 26) none).bind fun S16 =>
  (wA K S16 42 (Zi S0 26) none).bind fun S17 =>
  some (S17, Zi S0 26)
def f_just_27 (K : Ky) (S : Sg) (x1 : Int32) : Option (Sg × Option Nat) :=
  (rQ S 51 x1).bind fun v7 =>
  some (S, v7)
def f_just (K : Ky) (S0 : Sg) (x1 : Int32) : Option (Sg × Option Nat) :=
  (rQ S0 51 x1).bind fun v1 =>
  if v1 = none then (bnd (nA K S0 1) fun S2 a3 =>
  (wA K S2 51 x1 (some a3)).bind fun S4 =>
  (rQ S4 51 x1).bind fun v5 =>
  (bI K S4 v5 0 x1).bind fun S6 =>
  f_just_27 K S6 x1) else (f_just_27 K S0 x1)
def f_X18_init (K : Ky) (S0 : Sg) (x0 : Nat) (x1 : Int32) : Option (Sg × Unit) :=
  (pV S0 18 (some x0) 1 (.int x1)).bind fun S1 =>
  bnd (nA K S1 x1) fun S2 a3 =>
  (pV S2 18 (some x0) 2 (va_rf (some a3))).bind fun S4 =>
  bnd (nQ K 4 S4 (x1 + 1)) fun S5 a6 =>
  (pV S5 18 (some x0) 3 (va_rf (some a6))).bind fun S7 =>
  some (S7, ())
def f_wholeOf_40 (K : Ky) (S : Sg) (x0 : Option Nat) : Option (Sg × Option Nat) :=
  (oR S 21 x0 4).bind fun v13 =>
  some (S, v13)
def f_wholeOf (K : Ky) (S0 : Sg) (x0 : Option Nat) : Option (Sg × Option Nat) :=
  (oR S0 21 x0 4).bind fun v1 =>
  if v1 = none then (bnd (nO K S0 18 4 [.null, .int 0, .null, .null]) fun S2 a3 =>
  bnd (f_X18_init K S2 a3 0) fun S4 _ =>
  (pV S4 21 x0 4 (va_rf (some a3))).bind fun S6 =>
  (oR S6 21 x0 4).bind fun v7 =>
  (pV S6 18 v7 0 (va_rf x0)).bind fun S8 =>
  (oR S8 21 x0 4).bind fun v9 =>
  (oR S8 18 v9 3).bind fun v10 =>
  (oR S8 21 x0 2).bind fun v11 =>
  (bQ K 4 20 S8 v10 0 v11).bind fun S12 =>
  f_wholeOf_40 K S12 x0) else (f_wholeOf_40 K S0 x0)
def f_temporary (K : Ky) (S0 : Sg) (x0 : Int32) : Option (Sg × Int32) :=
  some (S0, 40 + x0)
def f_pathOf_78 (K : Ky) (k35 : Sg → Option Nat → Option Nat → Int32 → Option (Sg × Option Nat)) (S : Sg) (x2 : Option Nat) (x4 : Option Nat) (x5 : Int32) (y0 : Int32) (y1 : Int32) (y2 : Option Nat) : Option (Sg × Option Nat) :=
  (bI K S y2 y1 y0).bind fun S24 =>
  (oR S24 15 x2 8).bind fun v25 =>
  bnd (f_bare K S24 v25) fun S26 v27 =>
  k35 S26 v27 x4 (x5 + (-1))
def f_pathOf_35 (K : Ky) : Nat → Sg → Option Nat → Option Nat → Int32 → Option (Sg × Option Nat)
  | 0, _, _, _, _ => none
  | n9 + 1, S, x2, x4, x5 =>
    if x5 ≤ 0 then ((oR S 18 x4 3).bind fun v12 =>
    (oR S 15 x2 13).bind fun v13 =>
    (oR S 21 v13 2).bind fun v14 =>
    (bQ K 4 20 S v12 0 v14).bind fun S15 =>
    (oR S15 15 x2 13).bind fun v16 =>
    (pV S15 18 x4 0 (va_rf v16)).bind fun S17 =>
    some (S17, x4)) else ((oR S 18 x4 3).bind fun v18 =>
    (oR S 15 x2 12).bind fun v19 =>
    (bQ K 4 20 S v18 x5 v19).bind fun S20 =>
    (oR S20 18 x4 2).bind fun v21 =>
    (oI S20 15 x2 0).bind fun v22 =>
    if v22 = 11 then (f_pathOf_78 K ((f_pathOf_35 K n9)) S20 x2 x4 x5 (-1) (x5 - 1) v21) else ((oI S20 15 x2 4).bind fun v23 =>
    f_pathOf_78 K ((f_pathOf_35 K n9)) S20 x2 x4 x5 v23 (x5 - 1) v21))
def f_pathOf (K : Ky) (S0 : Sg) (x1 : Option Nat) : Option (Sg × Option Nat) :=
  bnd (f_bare K S0 x1) fun S1 v2 =>
  bnd (f_depth K S1 x1) fun S3 v4 =>
  if v4 = 0 then ((oR S3 15 v2 13).bind fun v9 =>
  bnd (f_wholeOf K S3 v9) fun S10 v11 =>
  some (S10, v11)) else (bnd (nO K S3 18 4 [.null, .int 0, .null, .null]) fun S5 a6 =>
  bnd (f_X18_init K S5 a6 v4) fun S7 _ =>
  f_pathOf_35 K bigN S7 v2 (some a6) v4)
def f_X18_type (K : Ky) (S0 : Sg) (x0 : Nat) : Option (Sg × Option Nat) :=
  (oR S0 18 (some x0) 3).bind fun v1 =>
  (oI S0 18 (some x0) 1).bind fun v2 =>
  (aQ K 4 S0 v1 v2).bind fun v3 =>
  some (S0, v3)
def f_through (K : Ky) (S0 : Sg) (x1 : Int32) (x2 : Option Nat) : Option (Sg × Unit) :=
  (wQ S0 18 38 x1 x2).bind fun S1 =>
  (oBk S1 18 x2).bind fun b4 =>
  bnd (f_X18_type K S1 b4) fun S2 v3 =>
  (wQ S2 20 39 x1 v3).bind fun S5 =>
  (oR S5 18 x2 3).bind fun v6 =>
  (aQ K 4 S5 v6 0).bind fun v7 =>
  bnd (f_refers K S5 v7) fun S8 v9 =>
  if v9 = 0 then (some (S8, ())) else ((oR S8 18 x2 0).bind fun v10 =>
  (oI S8 21 v10 0).bind fun v11 =>
  bnd (f_just K S8 v11) fun S12 v13 =>
  (wA K S12 37 x1 v13).bind fun S14 =>
  (oR S14 18 x2 0).bind fun v15 =>
  (oI S14 21 v15 0).bind fun v16 =>
  bnd (f_just K S14 v16) fun S17 v18 =>
  (wA K S17 36 x1 v18).bind fun S19 =>
  some (S19, ()))
