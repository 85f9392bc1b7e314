def f_checkMoves_58 (K : Ky) (k12 : Sg → Option Nat → Int32 → Int32 → Option (Sg × Unit)) (S : Sg) (x1 : Option Nat) (x2 : Int32) (x3 : Int32) : Option (Sg × Unit) :=
  k12 S x1 x2 (x3 + 1)
def f_checkMoves_51 (K : Ky) (k12 : Sg → Option Nat → Int32 → Int32 → Option (Sg × Unit)) (S : Sg) (x1 : Option Nat) (x3 : Int32) : Option (Sg × Unit) :=
  (rI S 32 x3).bind fun v11 =>
  f_checkMoves_58 K k12 S x1 v11 x3
def f_checkMoves_74 (K : Ky) (S : Sg) : Option (Sg × Unit) :=
  some (S, ())
def f_checkMoves_12 (K : Ky) : Nat → Sg → Option Nat → Int32 → Int32 → Option (Sg × Unit)
  | 0, _, _, _, _ => none
  | n9 + 1, S, x1, x2, x3 =>
    (oI S 16 x1 4).bind fun v4 =>
    if v4 ≤ x3 then (if x2 < 0 then (f_checkMoves_74 K S) else (bnd (f_fail K S 5 x2) fun S5 v6 =>
    f_checkMoves_74 K S5)) else ((rI S 52 x3).bind fun v7 =>
    if v7 = 0 then (f_checkMoves_58 K ((f_checkMoves_12 K n9)) S x1 x2 x3) else (bnd (f_moveWrong K S x3) fun S8 v9 =>
    if v9 = 0 then (f_checkMoves_58 K ((f_checkMoves_12 K n9)) S8 x1 x2 x3) else (if x2 < 0 then (f_checkMoves_51 K ((f_checkMoves_12 K n9)) S8 x1 x3) else ((rI S8 32 x3).bind fun v10 =>
    if x2 ≤ v10 then (f_checkMoves_58 K ((f_checkMoves_12 K n9)) S8 x1 x2 x3) else (f_checkMoves_51 K ((f_checkMoves_12 K n9)) S8 x1 x3)))))
def f_checkMoves (K : Ky) (S0 : Sg) (x1 : Option Nat) : Option (Sg × Unit) :=
  bnd (f_spreadMoves K S0 x1) fun S1 v2 =>
  (oI S1 16 x1 5).bind fun v3 =>
  f_checkMoves_12 K bigN S1 x1 (-1) v3
def f_ahead_98 (K : Ky) (S : Sg) : Option (Sg × Unit) :=
  some (S, ())
def f_ahead_55 (K : Ky) : Nat → Sg → Int32 → Int32 → Option (Sg × Unit)
  | 0, _, _, _ => none
  | n9 + 1, S, x1, x2 =>
    (rQ S 37 x1).bind fun v7 =>
    if v7 = none then (f_ahead_98 K S) else ((rQ S 37 x1).bind fun v8 =>
    (aLn K 0 S v8).bind fun v9 =>
    if v9 ≤ x2 then (f_ahead_98 K S) else ((rQ S 37 x1).bind fun v10 =>
    (aI K S v10 x2).bind fun v11 =>
    bnd (f_put K S 60 0 v11 1) fun S12 v13 =>
    f_ahead_55 K n9 S12 x1 (x2 + 1)))
def f_ahead_53 (K : Ky) (S : Sg) (x1 : Int32) : Option (Sg × Unit) :=
  f_ahead_55 K bigN S x1 0
def f_ahead_2 (K : Ky) : Nat → Sg → Int32 → Int32 → Option (Sg × Unit)
  | 0, _, _, _ => none
  | n9 + 1, S, x1, x2 =>
    if 4 ≤ x2 then ((rI S 34 x1).bind fun v1 =>
    if v1 < 0 then (f_ahead_53 K S x1) else ((rI S 34 x1).bind fun v2 =>
    bnd (f_put K S 60 0 v2 0) fun S3 v4 =>
    f_ahead_53 K S3 x1)) else ((rJ S 58 ((4 * x1) + x2)).bind fun v5 =>
    (wJ S 60 x2 v5).bind fun S6 =>
    f_ahead_2 K n9 S6 x1 (x2 + 1))
def f_ahead (K : Ky) (S0 : Sg) (x1 : Int32) : Option (Sg × Unit) :=
  f_ahead_2 K bigN S0 x1 0
def f_spreadLives_126 (K : Ky) (k32 : Sg → Option Nat → Int32 → Option (Sg × Unit)) (k45 : Sg → Option Nat → Int32 → Int32 → Option (Sg × Unit)) (k56 : Sg → Option Nat → Int32 → Int32 → Int32 → Option (Sg × Unit)) (k80 : Sg → Option Nat → Int32 → Int32 → Int32 → Int32 → Option (Sg × Unit)) (S : Sg) (x1 : Option Nat) (x2 : Int32) (x3 : Int32) (x4 : Int32) (x5 : Int32) (x6 : Int64) : Option (Sg × Unit) :=
  (wJ S 58 ((4 * x3) + x5) x6).bind fun S15 =>
  k80 S15 x1 x2 x3 x4 (x5 + 1)
def f_spreadLives_80 (K : Ky) (k32 : Sg → Option Nat → Int32 → Option (Sg × Unit)) (k45 : Sg → Option Nat → Int32 → Int32 → Option (Sg × Unit)) (k56 : Sg → Option Nat → Int32 → Int32 → Int32 → Option (Sg × Unit)) : Nat → Sg → Option Nat → Int32 → Int32 → Int32 → Int32 → Option (Sg × Unit)
  | 0, _, _, _, _, _, _ => none
  | n9 + 1, S, x1, x2, x3, x4, x5 =>
    if 4 ≤ x5 then (k56 S x1 x2 x3 (x4 + 1)) else ((rJ S 58 ((4 * x3) + x5)).bind fun v12 =>
    (rJ S 60 x5).bind fun v13 =>
    (rJ S 58 ((4 * x3) + x5)).bind fun v14 =>
    if (lg_cmp (v12 ||| v13) v14) = 0 then (f_spreadLives_126 K k32 k45 k56 ((f_spreadLives_80 K k32 k45 k56 n9)) S x1 x2 x3 x4 x5 (v12 ||| v13)) else (f_spreadLives_126 K k32 k45 k56 ((f_spreadLives_80 K k32 k45 k56 n9)) S x1 1 x3 x4 x5 (v12 ||| v13)))
def f_spreadLives_56 (K : Ky) (k32 : Sg → Option Nat → Int32 → Option (Sg × Unit)) (k45 : Sg → Option Nat → Int32 → Int32 → Option (Sg × Unit)) : Nat → Sg → Option Nat → Int32 → Int32 → Int32 → Option (Sg × Unit)
  | 0, _, _, _, _, _ => none
  | n9 + 1, S, x1, x2, x3, x4 =>
    bnd (f_follows K S x3 x4) fun S6 v7 =>
    if v7 < 0 then (k45 S6 x1 x2 (x3 + (-1))) else (bnd (f_follows K S6 x3 x4) fun S8 v9 =>
    bnd (f_ahead K S8 v9) fun S10 v11 =>
    f_spreadLives_80 K k32 k45 ((f_spreadLives_56 K k32 k45 n9)) bigN S10 x1 x2 x3 x4 0)
def f_spreadLives_45 (K : Ky) (k32 : Sg → Option Nat → Int32 → Option (Sg × Unit)) : Nat → Sg → Option Nat → Int32 → Int32 → Option (Sg × Unit)
  | 0, _, _, _, _ => none
  | n9 + 1, S, x1, x2, x3 =>
    (oI S 16 x1 5).bind fun v5 =>
    if x3 < v5 then (k32 S x1 x2) else (f_spreadLives_56 K k32 ((f_spreadLives_45 K k32 n9)) bigN S x1 x2 x3 0)
def f_spreadLives_32 (K : Ky) : Nat → Sg → Option Nat → Int32 → Option (Sg × Unit)
  | 0, _, _, _ => none
  | n9 + 1, S, x1, x2 =>
    if x2 = 0 then (some (S, ())) else ((oI S 16 x1 4).bind fun v4 =>
    f_spreadLives_45 K ((f_spreadLives_32 K n9)) bigN S x1 0 (v4 - 1))
def f_spreadLives_7 (K : Ky) : Nat → Sg → Option Nat → Int32 → Option (Sg × Unit)
  | 0, _, _, _ => none
  | n9 + 1, S, x1, x2 =>
    (oI S 16 x1 4).bind fun v2 =>
    if (4 * v2) ≤ x2 then (f_spreadLives_32 K bigN S x1 1) else ((wJ S 58 x2 0).bind fun S3 =>
    f_spreadLives_7 K n9 S3 x1 (x2 + 1))
def f_spreadLives (K : Ky) (S0 : Sg) (x1 : Option Nat) : Option (Sg × Unit) :=
  (oI S0 16 x1 5).bind fun v1 =>
  f_spreadLives_7 K bigN S0 x1 (4 * v1)
def f_holdBehind_114 (K : Ky) (k58 : Sg → Int32 → Int32 → Int32 → Option (Sg × Unit)) (S : Sg) (x1 : Int32) (x3 : Int32) (x4 : Int32) : Option (Sg × Unit) :=
  k58 S x1 x3 (x4 + 1)
def f_holdBehind_120 (K : Ky) (S : Sg) (x1 : Int32) (x3 : Int32) : Option (Sg × Unit) :=
  (rI S 34 x1).bind fun v13 =>
  bnd (f_put K S 60 0 v13 x3) fun S14 v15 =>
  some (S14, ())
def f_holdBehind_58 (K : Ky) : Nat → Sg → Int32 → Int32 → Int32 → Option (Sg × Unit)
  | 0, _, _, _, _ => none
  | n9 + 1, S, x1, x3, x4 =>
    (rI S 27 x1).bind fun v5 =>
    if v5 = 24 then (f_holdBehind_120 K S x1 x3) else ((rQ S 36 x1).bind fun v6 =>
    if v6 = none then (f_holdBehind_120 K S x1 x3) else ((rQ S 36 x1).bind fun v7 =>
    (aLn K 0 S v7).bind fun v8 =>
    if v8 ≤ x4 then (f_holdBehind_120 K S x1 x3) else ((rQ S 36 x1).bind fun v9 =>
    (aI K S v9 x4).bind fun v10 =>
    bnd (f_get K S 59 (4 * x1) v10) fun S11 v12 =>
    if v12 = 0 then (f_holdBehind_114 K ((f_holdBehind_58 K n9)) S11 x1 x3 x4) else (f_holdBehind_114 K ((f_holdBehind_58 K n9)) S11 x1 1 x4))))
def f_holdBehind_54 (K : Ky) (S : Sg) (x1 : Int32) (y0 : Int32) : Option (Sg × Unit) :=
  f_holdBehind_58 K bigN S x1 y0 0
def f_holdBehind_2 (K : Ky) : Nat → Sg → Int32 → Int32 → Int32 → Option (Sg × Unit)
  | 0, _, _, _, _ => none
  | n9 + 1, S, x1, x2, x3 =>
    if 4 ≤ x3 then ((rI S 34 x1).bind fun v1 =>
    if 0 ≤ v1 then ((rI S 35 x1).bind fun v2 =>
    if v2 = x2 then (f_holdBehind_54 K S x1 1) else (f_holdBehind_54 K S x1 0)) else (some (S, ()))) else ((rJ S 59 ((4 * x1) + x3)).bind fun v3 =>
    (wJ S 60 x3 v3).bind fun S4 =>
    f_holdBehind_2 K n9 S4 x1 x2 (x3 + 1))
def f_holdBehind (K : Ky) (S0 : Sg) (x1 : Int32) (x2 : Int32) : Option (Sg × Unit) :=
  f_holdBehind_2 K bigN S0 x1 x2 0
def f_spreadLoan_182 (K : Ky) (k61 : Sg → Option Nat → Int32 → Int32 → Option (Sg × Unit)) (k73 : Sg → Option Nat → Int32 → Int32 → Int32 → Option (Sg × Unit)) (k102 : Sg → Option Nat → Int32 → Int32 → Int32 → Int32 → Option (Sg × Unit)) (k138 : Sg → Option Nat → Int32 → Int32 → Int32 → Int32 → Int32 → Int32 → Option (Sg × Unit)) (S : Sg) (x1 : Option Nat) (x2 : Int32) (x3 : Int32) (x4 : Int32) (x5 : Int32) (x6 : Int32) (x7 : Int32) (x8 : Int64) : Option (Sg × Unit) :=
  (wJ S 59 (x6 + x7) x8).bind fun S22 =>
  k138 S22 x1 x2 x3 x4 x5 x6 (x7 + 1)
def f_spreadLoan_138 (K : Ky) (k61 : Sg → Option Nat → Int32 → Int32 → Option (Sg × Unit)) (k73 : Sg → Option Nat → Int32 → Int32 → Int32 → Option (Sg × Unit)) (k102 : Sg → Option Nat → Int32 → Int32 → Int32 → Int32 → Option (Sg × Unit)) : Nat → Sg → Option Nat → Int32 → Int32 → Int32 → Int32 → Int32 → Int32 → Option (Sg × Unit)
  | 0, _, _, _, _, _, _, _, _ => none
  | n9 + 1, S, x1, x2, x3, x4, x5, x6, x7 =>
    if 4 ≤ x7 then (k102 S x1 x2 x3 x4 (x5 + 1)) else ((rJ S 59 (x6 + x7)).bind fun v19 =>
    (rJ S 60 x7).bind fun v20 =>
    (rJ S 59 (x6 + x7)).bind fun v21 =>
    if (lg_cmp (v19 ||| v20) v21) = 0 then (f_spreadLoan_182 K k61 k73 k102 ((f_spreadLoan_138 K k61 k73 k102 n9)) S x1 x2 x3 x4 x5 x6 x7 (v19 ||| v20)) else (f_spreadLoan_182 K k61 k73 k102 ((f_spreadLoan_138 K k61 k73 k102 n9)) S x1 x2 1 x4 x5 x6 x7 (v19 ||| v20)))
def f_spreadLoan_206 (K : Ky) (k61 : Sg → Option Nat → Int32 → Int32 → Option (Sg × Unit)) (k73 : Sg → Option Nat → Int32 → Int32 → Int32 → Option (Sg × Unit)) (S : Sg) (x1 : Option Nat) (x2 : Int32) (x3 : Int32) (x4 : Int32) : Option (Sg × Unit) :=
  k73 S x1 x2 x3 (x4 + 1)
def f_spreadLoan_102 (K : Ky) (k61 : Sg → Option Nat → Int32 → Int32 → Option (Sg × Unit)) (k73 : Sg → Option Nat → Int32 → Int32 → Int32 → Option (Sg × Unit)) : Nat → Sg → Option Nat → Int32 → Int32 → Int32 → Int32 → Option (Sg × Unit)
  | 0, _, _, _, _, _, _ => none
  | n9 + 1, S, x1, x2, x3, x4, x5 =>
    (rI S 52 x4).bind fun v14 =>
    if v14 = 0 then (f_spreadLoan_206 K k61 k73 S x1 x2 x3 x4) else (bnd (f_follows K S x4 x5) fun S15 v16 =>
    if v16 < 0 then (f_spreadLoan_206 K k61 k73 S15 x1 x2 x3 x4) else (bnd (f_follows K S15 x4 x5) fun S17 v18 =>
    f_spreadLoan_138 K k61 k73 ((f_spreadLoan_102 K k61 k73 n9)) bigN S17 x1 x2 x3 x4 x5 (4 * v18) 0))
def f_spreadLoan_99 (K : Ky) (k61 : Sg → Option Nat → Int32 → Int32 → Option (Sg × Unit)) (k73 : Sg → Option Nat → Int32 → Int32 → Int32 → Option (Sg × Unit)) (S : Sg) (x1 : Option Nat) (x2 : Int32) (x3 : Int32) (x4 : Int32) : Option (Sg × Unit) :=
  f_spreadLoan_102 K k61 k73 bigN S x1 x2 x3 x4 0
def f_spreadLoan_73 (K : Ky) (k61 : Sg → Option Nat → Int32 → Int32 → Option (Sg × Unit)) : Nat → Sg → Option Nat → Int32 → Int32 → Int32 → Option (Sg × Unit)
  | 0, _, _, _, _, _ => none
  | n9 + 1, S, x1, x2, x3, x4 =>
    (oI S 16 x1 4).bind fun v10 =>
    if v10 ≤ x4 then (k61 S x1 x2 x3) else ((rI S 52 x4).bind fun v11 =>
    if v11 = 0 then (f_spreadLoan_99 K k61 ((f_spreadLoan_73 K k61 n9)) S x1 x2 x3 x4) else (bnd (f_holdBehind K S x4 x2) fun S12 v13 =>
    f_spreadLoan_99 K k61 ((f_spreadLoan_73 K k61 n9)) S12 x1 x2 x3 x4))
def f_spreadLoan_61 (K : Ky) : Nat → Sg → Option Nat → Int32 → Int32 → Option (Sg × Unit)
  | 0, _, _, _, _ => none
  | n9 + 1, S, x1, x2, x3 =>
    if x3 = 0 then (some (S, ())) else ((oI S 16 x1 5).bind fun v9 =>
    f_spreadLoan_73 K ((f_spreadLoan_61 K n9)) bigN S x1 x2 0 v9)
def f_spreadLoan_59 (K : Ky) (S : Sg) (x1 : Option Nat) (x2 : Int32) : Option (Sg × Unit) :=
  f_spreadLoan_61 K bigN S x1 x2 1
def f_spreadLoan_7 (K : Ky) : Nat → Sg → Option Nat → Int32 → Int32 → Option (Sg × Unit)
  | 0, _, _, _, _ => none
  | n9 + 1, S, x1, x2, x3 =>
    (oI S 16 x1 4).bind fun v2 =>
    if (4 * v2) ≤ x3 then ((rI S 45 x2).bind fun v3 =>
    if v3 < 0 then (f_spreadLoan_59 K S x1 x2) else ((oI S 16 x1 5).bind fun v4 =>
    (rI S 45 x2).bind fun v5 =>
    bnd (f_put K S 59 (4 * v4) v5 1) fun S6 v7 =>
    f_spreadLoan_59 K S6 x1 x2)) else ((wJ S 59 x3 0).bind fun S8 =>
    f_spreadLoan_7 K n9 S8 x1 x2 (x3 + 1))
def f_spreadLoan (K : Ky) (S0 : Sg) (x1 : Option Nat) (x2 : Int32) : Option (Sg × Unit) :=
  (oI S0 16 x1 5).bind fun v1 =>
  f_spreadLoan_7 K bigN S0 x1 x2 (4 * v1)
def f_overlap_54 (K : Ky) (S : Sg) : Option (Sg × Int32) :=
  (zB 1).bind fun _ => some (S, 1)
def f_overlap_15 (K : Ky) : Nat → Sg → Option Nat → Option Nat → Int32 → Option (Sg × Int32)
  | 0, _, _, _, _ => none
  | n9 + 1, S, x0, x1, x2 =>
    (oI S 18 x0 1).bind fun v3 =>
    if v3 ≤ x2 then (f_overlap_54 K S) else ((oI S 18 x1 1).bind fun v4 =>
    if v4 ≤ x2 then (f_overlap_54 K S) else ((oR S 18 x0 2).bind fun v5 =>
    (aI K S v5 x2).bind fun v6 =>
    (oR S 18 x1 2).bind fun v7 =>
    (aI K S v7 x2).bind fun v8 =>
    if v6 = v8 then (f_overlap_15 K n9 S x0 x1 (x2 + 1)) else ((zB 0).bind fun _ => some (S, 0))))
def f_overlap (K : Ky) (S0 : Sg) (x0 : Option Nat) (x1 : Option Nat) : Option (Sg × Int32) :=
  (oR S0 18 x0 0).bind fun v1 =>
  (oR S0 18 x1 0).bind fun v2 =>
  if v1 = v2 then (f_overlap_15 K bigN S0 x0 x1 0) else ((zB 0).bind fun _ => some (S0, 0))
def f_meets_61 (K : Ky) (S : Sg) : Option (Sg × Int32) :=
  (zB 0).bind fun _ => some (S, 0)
def f_meets_135 (K : Ky) (S : Sg) (y0 : Int32) : Option (Sg × Int32) :=
  (zB y0).bind fun _ => some (S, y0)
def f_meets_123 (K : Ky) (S : Sg) (y0 : Int32) : Option (Sg × Int32) :=
  if y0 = 0 then (f_meets_135 K S 1) else (f_meets_135 K S 0)
def f_meets_122 (K : Ky) (S : Sg) : Option (Sg × Int32) :=
  f_meets_123 K S 0
def f_meets_75 (K : Ky) (S : Sg) (x2 : Int32) (x4 : Option Nat) : Option (Sg × Int32) :=
  (oI S 18 x4 1).bind fun v7 =>
  if v7 = 0 then ((oR S 18 x4 3).bind fun v8 =>
  (aQ K 4 S v8 0).bind fun v9 =>
  if v9 = none then (f_meets_122 K S) else ((oR S 18 x4 3).bind fun v10 =>
  (aQ K 4 S v10 0).bind fun v11 =>
  bnd (f_refers K S v11) fun S12 v13 =>
  if v13 = 0 then (f_meets_122 K S12) else ((rQ S12 43 x2).bind fun v14 =>
  bnd (f_hasStar K S12 v14) fun S15 v16 =>
  if v16 = 0 then (f_meets_122 K S15) else (f_meets_123 K S15 1)))) else (f_meets_122 K S)
def f_meets_63 (K : Ky) (S : Sg) (x2 : Int32) (x3 : Int32) (x4 : Option Nat) : Option (Sg × Int32) :=
  if x3 = 7 then (f_meets_75 K S x2 x4) else (if x3 = 6 then (f_meets_75 K S x2 x4) else (f_meets_122 K S))
def f_meets_52 (K : Ky) (S : Sg) (x2 : Int32) (x3 : Int32) (x4 : Option Nat) : Option (Sg × Int32) :=
  (rI S 44 x2).bind fun v17 =>
  if v17 = 0 then (f_meets_63 K S x2 x3 x4) else (f_meets_61 K S)
def f_meets (K : Ky) (S0 : Sg) (x1 : Int32) (x2 : Int32) : Option (Sg × Int32) :=
  (rI S0 33 x1).bind fun v1 =>
  (rQ S0 38 x1).bind fun v2 =>
  if v1 = 0 then (f_meets_61 K S0) else ((rQ S0 43 x2).bind fun v3 =>
  if v3 = none then (f_meets_61 K S0) else ((rQ S0 43 x2).bind fun v4 =>
  bnd (f_overlap K S0 v2 v4) fun S5 v6 =>
  if v6 = 0 then (f_meets_61 K S5) else (if v1 = 1 then (f_meets_52 K S5 x2 v1 v2) else (if v1 = 2 then (f_meets_52 K S5 x2 v1 v2) else (f_meets_63 K S5 x2 v1 v2)))))
def f_aliveBehind_53 (K : Ky) (k8 : Sg → Int32 → Int32 → Option (Sg × Int32)) (S : Sg) (x1 : Int32) (x3 : Int32) : Option (Sg × Int32) :=
  k8 S x1 (x3 + 1)
def f_aliveBehind_8 (K : Ky) : Nat → Sg → Int32 → Int32 → Option (Sg × Int32)
  | 0, _, _, _ => none
  | n9 + 1, S, x1, x3 =>
    if 256 ≤ x3 then ((zB 0).bind fun _ => some (S, 0)) else ((rI S 34 x1).bind fun v3 =>
    if x3 = v3 then (f_aliveBehind_53 K ((f_aliveBehind_8 K n9)) S x1 x3) else (bnd (f_get K S 60 0 x3) fun S4 v5 =>
    if v5 = 0 then (f_aliveBehind_53 K ((f_aliveBehind_8 K n9)) S4 x1 x3) else (bnd (f_get K S4 58 (4 * x1) x3) fun S6 v7 =>
    if v7 = 0 then (f_aliveBehind_53 K ((f_aliveBehind_8 K n9)) S6 x1 x3) else ((zB 1).bind fun _ => some (S6, 1)))))
def f_aliveBehind (K : Ky) (S0 : Sg) (x1 : Int32) (x2 : Int32) : Option (Sg × Int32) :=
  bnd (f_holdBehind K S0 x1 x2) fun S1 v2 =>
  f_aliveBehind_8 K bigN S1 x1 0
def f_goesOut_64 (K : Ky) (S : Sg) (y0 : Int32) : Option (Sg × Int32) :=
  (zB y0).bind fun _ => some (S, y0)
def f_goesOut_63 (K : Ky) (S : Sg) : Option (Sg × Int32) :=
  f_goesOut_64 K S 0
def f_goesOut (K : Ky) (S0 : Sg) (x1 : Option Nat) (x2 : Int32) (x3 : Int32) : Option (Sg × Int32) :=
  (rI S0 27 x2).bind fun v1 =>
  if v1 = 25 then ((rI S0 45 x3).bind fun v2 =>
  if v2 < 0 then (f_goesOut_63 K S0) else ((oI S0 16 x1 7).bind fun v3 =>
  if v3 < 0 then (f_goesOut_63 K S0) else ((rI S0 46 x3).bind fun v4 =>
  (oI S0 16 x1 7).bind fun v5 =>
  if v4 = v5 then (f_goesOut_63 K S0) else ((rI S0 28 x2).bind fun v6 =>
  bnd (f_get K S0 59 (4 * x2) v6) fun S7 v8 =>
  if v8 = 0 then (f_goesOut_63 K S7) else (f_goesOut_64 K S7 1))))) else (f_goesOut_63 K S0)
def f_checkLoans_114 (K : Ky) (k9 : Sg → Option Nat → Int32 → Int32 → Option (Sg × Unit)) (k29 : Sg → Option Nat → Int32 → Int32 → Int32 → Option (Sg × Unit)) (S : Sg) (x1 : Option Nat) (x2 : Int32) (x3 : Int32) (x4 : Int32) : Option (Sg × Unit) :=
  k29 S x1 x2 x3 (x4 + 1)
def f_checkLoans_106 (K : Ky) (k9 : Sg → Option Nat → Int32 → Int32 → Option (Sg × Unit)) (k29 : Sg → Option Nat → Int32 → Int32 → Int32 → Option (Sg × Unit)) (S : Sg) (x1 : Option Nat) (x3 : Int32) (x4 : Int32) : Option (Sg × Unit) :=
  (rI S 32 x4).bind fun v15 =>
  f_checkLoans_114 K k9 k29 S x1 v15 x3 x4
def f_checkLoans_95 (K : Ky) (k9 : Sg → Option Nat → Int32 → Int32 → Option (Sg × Unit)) (k29 : Sg → Option Nat → Int32 → Int32 → Int32 → Option (Sg × Unit)) (S : Sg) (x1 : Option Nat) (x2 : Int32) (x3 : Int32) (x4 : Int32) : Option (Sg × Unit) :=
  bnd (f_goesOut K S x1 x4 x3) fun S16 v17 =>
  if v17 = 0 then (f_checkLoans_114 K k9 k29 S16 x1 x2 x3 x4) else (f_checkLoans_106 K k9 k29 S16 x1 x3 x4)
def f_checkLoans_68 (K : Ky) (k9 : Sg → Option Nat → Int32 → Int32 → Option (Sg × Unit)) (k29 : Sg → Option Nat → Int32 → Int32 → Int32 → Option (Sg × Unit)) (S : Sg) (x1 : Option Nat) (x2 : Int32) (x3 : Int32) (x4 : Int32) (y0 : Int32) : Option (Sg × Unit) :=
  if y0 = 0 then (f_checkLoans_114 K k9 k29 S x1 x2 x3 x4) else (bnd (f_meets K S x4 x3) fun S11 v12 =>
  if v12 = 0 then (f_checkLoans_95 K k9 k29 S11 x1 x2 x3 x4) else (bnd (f_aliveBehind K S11 x4 x3) fun S13 v14 =>
  if v14 = 0 then (f_checkLoans_95 K k9 k29 S13 x1 x2 x3 x4) else (f_checkLoans_106 K k9 k29 S13 x1 x3 x4)))
def f_checkLoans_63 (K : Ky) (k9 : Sg → Option Nat → Int32 → Int32 → Option (Sg × Unit)) (k29 : Sg → Option Nat → Int32 → Int32 → Int32 → Option (Sg × Unit)) (S : Sg) (x1 : Option Nat) (x2 : Int32) (x3 : Int32) (x4 : Int32) : Option (Sg × Unit) :=
  f_checkLoans_68 K k9 k29 S x1 x2 x3 x4 1
def f_checkLoans_67 (K : Ky) (k9 : Sg → Option Nat → Int32 → Int32 → Option (Sg × Unit)) (k29 : Sg → Option Nat → Int32 → Int32 → Int32 → Option (Sg × Unit)) (S : Sg) (x1 : Option Nat) (x2 : Int32) (x3 : Int32) (x4 : Int32) : Option (Sg × Unit) :=
  f_checkLoans_68 K k9 k29 S x1 x2 x3 x4 0
def f_checkLoans_29 (K : Ky) (k9 : Sg → Option Nat → Int32 → Int32 → Option (Sg × Unit)) : Nat → Sg → Option Nat → Int32 → Int32 → Int32 → Option (Sg × Unit)
  | 0, _, _, _, _, _ => none
  | n9 + 1, S, x1, x2, x3, x4 =>
    (oI S 16 x1 4).bind fun v8 =>
    if v8 ≤ x4 then (k9 S x1 x2 (x3 + 1)) else ((rI S 52 x4).bind fun v9 =>
    if v9 = 0 then (f_checkLoans_67 K k9 ((f_checkLoans_29 K k9 n9)) S x1 x2 x3 x4) else (if x2 < 0 then (f_checkLoans_63 K k9 ((f_checkLoans_29 K k9 n9)) S x1 x2 x3 x4) else ((rI S 32 x4).bind fun v10 =>
    if x2 ≤ v10 then (f_checkLoans_67 K k9 ((f_checkLoans_29 K k9 n9)) S x1 x2 x3 x4) else (f_checkLoans_63 K k9 ((f_checkLoans_29 K k9 n9)) S x1 x2 x3 x4))))
def f_checkLoans_137 (K : Ky) (S : Sg) : Option (Sg × Unit) :=
  some (S, ())
def f_checkLoans_9 (K : Ky) : Nat → Sg → Option Nat → Int32 → Int32 → Option (Sg × Unit)
  | 0, _, _, _, _ => none
  | n9 + 1, S, x1, x2, x3 =>
    if (Zi S 47) ≤ x3 then (if x2 < 0 then (f_checkLoans_137 K S) else (bnd (f_fail K S 6 x2) fun S3 v4 =>
    f_checkLoans_137 K S3)) else (bnd (f_spreadLoan K S x1 x3) fun S5 v6 =>
    (oI S5 16 x1 5).bind fun v7 =>
    f_checkLoans_29 K ((f_checkLoans_9 K n9)) bigN S5 x1 x2 x3 v7)
def f_checkLoans (K : Ky) (S0 : Sg) (x1 : Option Nat) : Option (Sg × Unit) :=
  bnd (f_spreadLives K S0 x1) fun S1 v2 =>
  f_checkLoans_9 K bigN S1 x1 (-1) 0
def f_layAll_78 (K : Ky) (k7 : Sg → Int32 → Option (Sg × Unit)) (S : Sg) (x1 : Int32) : Option (Sg × Unit) :=
  k7 S (x1 + 1)
def f_layAll_84 (K : Ky) (S : Sg) : Option (Sg × Unit) :=
  some (S, ())
def f_layAll_7 (K : Ky) : Nat → Sg → Int32 → Option (Sg × Unit)
  | 0, _, _ => none
  | n9 + 1, S, x1 =>
    if (Zi S 12) ≤ x1 then (f_layAll_84 K S) else (bnd (f_ok K S) fun S2 v3 =>
    if v3 = 0 then (f_layAll_84 K S2) else ((rQ S2 11 x1).bind fun v4 =>
    (oI S2 16 v4 2).bind fun v5 =>
    if v5 = 12 then (bnd (f_layFunction K S2 x1) fun S6 v7 =>
    (rQ S6 11 x1).bind fun v8 =>
    bnd (f_reach K S6 v8) fun S9 v10 =>
    (rQ S9 11 x1).bind fun v11 =>
    bnd (f_checkMoves K S9 v11) fun S12 v13 =>
    bnd (f_ok K S12) fun S14 v15 =>
    if v15 = 0 then (f_layAll_78 K ((f_layAll_7 K n9)) S14 x1) else ((rQ S14 11 x1).bind fun v16 =>
    bnd (f_checkLoans K S14 v16) fun S17 v18 =>
    f_layAll_78 K ((f_layAll_7 K n9)) S17 x1)) else (f_layAll_78 K ((f_layAll_7 K n9)) S2 x1)))
def f_layAll (K : Ky) (S0 : Sg) : Option (Sg × Unit) :=
  (pM S0 26 0).bind fun S1 =>
  f_layAll_7 K bigN S1 0
def f_node_37 (K : Ky) (S : Sg) (x1 : Int32) : Option (Sg × Int32) :=
  (wJ S 61 x1 0).bind fun S4 =>
  (wZ S4 62 x1 0).bind fun S5 =>
  (wRI S5 63 x1 0).bind fun S6 =>
  some (S6, x1)
def f_node (K : Ky) (S0 : Sg) : Option (Sg × Int32) :=
  if (Zi S0 65) = 0 then ((pM S0 64 ((Zi S0 64) + 1)).bind fun S1 =>
  f_node_37 K S1 (Zi S1 64)) else ((rI S0 63 (Zi S0 65)).bind fun v2 =>
  (pM S0 65 v2).bind fun S3 =>
  f_node_37 K S3 (Zi S0 65))
