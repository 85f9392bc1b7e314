def f_reach_31 (K : Ky) (k5 : Sg → Option Nat → Int32 → Option (Sg × Unit)) (S : Sg) (x1 : Option Nat) (x2 : Int32) (y0 : Int32) (y1 : Int32) : Option (Sg × Unit) :=
  (wZ S 52 y1 y0).bind fun S4 =>
  k5 S4 x1 (x2 + 1)
def f_reach_111 (K : Ky) (k40 : Sg → Option Nat → Int32 → Option (Sg × Unit)) (k51 : Sg → Option Nat → Int32 → Int32 → Option (Sg × Unit)) (k62 : Sg → Option Nat → Int32 → Int32 → Int32 → Option (Sg × Unit)) (S : Sg) (x1 : Option Nat) (x2 : Int32) (x3 : Int32) (x4 : Int32) : Option (Sg × Unit) :=
  k62 S x1 x2 x3 (x4 + 1)
def f_reach_117 (K : Ky) (k40 : Sg → Option Nat → Int32 → Option (Sg × Unit)) (k51 : Sg → Option Nat → Int32 → Int32 → Option (Sg × Unit)) (S : Sg) (x1 : Option Nat) (x2 : Int32) (x3 : Int32) : Option (Sg × Unit) :=
  k51 S x1 x2 (x3 + 1)
def f_reach_62 (K : Ky) (k40 : Sg → Option Nat → Int32 → Option (Sg × Unit)) (k51 : Sg → Option Nat → Int32 → Int32 → Option (Sg × Unit)) : Nat → Sg → Option Nat → Int32 → Int32 → Int32 → Option (Sg × Unit)
  | 0, _, _, _, _, _ => none
  | n9 + 1, S, x1, x2, x3, x4 =>
    (rI S 52 x3).bind fun v7 =>
    if v7 = 0 then (f_reach_117 K k40 k51 S x1 x2 x3) else (bnd (f_follows K S x3 x4) fun S8 v9 =>
    if v9 < 0 then (f_reach_117 K k40 k51 S8 x1 x2 x3) else (bnd (f_follows K S8 x3 x4) fun S10 v11 =>
    (rI S10 52 v11).bind fun v12 =>
    if v12 = 0 then (bnd (f_follows K S10 x3 x4) fun S13 v14 =>
    (wZ S13 52 v14 1).bind fun S15 =>
    f_reach_111 K k40 k51 ((f_reach_62 K k40 k51 n9)) S15 x1 1 x3 x4) else (f_reach_111 K k40 k51 ((f_reach_62 K k40 k51 n9)) S10 x1 x2 x3 x4)))
def f_reach_51 (K : Ky) (k40 : Sg → Option Nat → Int32 → Option (Sg × Unit)) : Nat → Sg → Option Nat → Int32 → Int32 → Option (Sg × Unit)
  | 0, _, _, _, _ => none
  | n9 + 1, S, x1, x2, x3 =>
    (oI S 16 x1 4).bind fun v6 =>
    if v6 ≤ x3 then (k40 S x1 x2) else (f_reach_62 K k40 ((f_reach_51 K k40 n9)) bigN S x1 x2 x3 0)
def f_reach_40 (K : Ky) : Nat → Sg → Option Nat → Int32 → Option (Sg × Unit)
  | 0, _, _, _ => none
  | n9 + 1, S, x1, x2 =>
    if x2 = 0 then (some (S, ())) else ((oI S 16 x1 5).bind fun v5 =>
    f_reach_51 K ((f_reach_40 K n9)) bigN S x1 0 v5)
def f_reach_5 (K : Ky) : Nat → Sg → Option Nat → Int32 → Option (Sg × Unit)
  | 0, _, _, _ => none
  | n9 + 1, S, x1, x2 =>
    (oI S 16 x1 4).bind fun v2 =>
    if v2 ≤ x2 then (f_reach_40 K bigN S x1 1) else ((oI S 16 x1 5).bind fun v3 =>
    if x2 = v3 then (f_reach_31 K ((f_reach_5 K n9)) S x1 x2 1 x2) else (f_reach_31 K ((f_reach_5 K n9)) S x1 x2 0 x2))
def f_reach (K : Ky) (S0 : Sg) (x1 : Option Nat) : Option (Sg × Unit) :=
  (oI S0 16 x1 5).bind fun v1 =>
  f_reach_5 K bigN S0 x1 v1
def f_partsOf_12 (K : Ky) (V : Sg → Option Nat → Option (Sg × Int32)) (S : Sg) : Option (Sg × Int32) :=
  some (S, 1)
def f_partsOf_29 (K : Ky) (V : Sg → Option Nat → Option (Sg × Int32)) : Nat → Sg → Int32 → Option Nat → Int32 → Option (Sg × Int32)
  | 0, _, _, _, _ => none
  | n9 + 1, S, x2, x3, x4 =>
    (oI S 16 x3 3).bind fun v4 =>
    if v4 ≤ x4 then (some (S, x2)) else ((oR S 16 x3 10).bind fun v5 =>
    (aQ K 4 S v5 x4).bind fun v6 =>
    bnd (V S v6) fun S7 v8 =>
    f_partsOf_29 K V n9 S7 (x2 + v8) x3 (x4 + 1))
def f_partsOf (K : Ky) : Nat → Sg → Option Nat → Option (Sg × Int32)
  | 0, _, _ => none
  | d + 1, S0, x1 =>
    if x1 = none then (f_partsOf_12 K (f_partsOf K d) S0) else ((oI S0 20 x1 0).bind fun v1 =>
    if v1 = 3 then ((oI S0 20 x1 1).bind fun v2 =>
    (rQ S0 11 v2).bind fun v3 =>
    f_partsOf_29 K (f_partsOf K d) bigN S0 0 v3 0) else (f_partsOf_12 K (f_partsOf K d) S0))
def f_get_25 (K : Ky) (x0 : Nat) (S : Sg) (y0 : Int32) : Option (Sg × Int32) :=
  (zB y0).bind fun _ => some (S, y0)
def f_get (K : Ky) (S0 : Sg) (x0 : Nat) (x1 : Int32) (x2 : Int32) : Option (Sg × Int32) :=
  (rJ S0 x0 (x1 + (x2 >>> (6 &&& 31)))).bind fun v1 =>
  if (lg_cmp ((lushF v1 (x2 &&& 63)) &&& 1) 1) = 0 then (f_get_25 K x0 S0 1) else (f_get_25 K x0 S0 0)
def f_put_48 (K : Ky) (x0 : Nat) (S : Sg) (y0 : Int64) (y1 : Int32) : Option (Sg × Unit) :=
  (wJ S x0 y1 y0).bind fun S3 =>
  some (S3, ())
def f_put (K : Ky) (S0 : Sg) (x0 : Nat) (x1 : Int32) (x2 : Int32) (x3 : Int32) : Option (Sg × Unit) :=
  if x3 = 0 then ((rJ S0 x0 (x1 + (x2 >>> (6 &&& 31)))).bind fun v1 =>
  f_put_48 K x0 S0 (v1 &&& ((1 <<< (Int32.toInt64 (x2 &&& 63) &&& 63)) ^^^ (-1))) (x1 + (x2 >>> (6 &&& 31)))) else ((rJ S0 x0 (x1 + (x2 >>> (6 &&& 31)))).bind fun v2 =>
  f_put_48 K x0 S0 (v2 ||| (1 <<< (Int32.toInt64 (x2 &&& 63) &&& 63))) (x1 + (x2 >>> (6 &&& 31))))
def f_partFrom_67 (K : Ky) (k21 : Sg → Option Nat → Int32 → Option Nat → Int32 → Option (Sg × Int32)) : Nat → Sg → Option Nat → Int32 → Int32 → Option Nat → Int32 → Option (Sg × Int32)
  | 0, _, _, _, _, _, _ => none
  | n9 + 1, S, x1, x2, x4, x5, x6 =>
    (oR S 18 x1 2).bind fun v12 =>
    (aI K S v12 x4).bind fun v13 =>
    if v13 ≤ x6 then ((oR S 18 x1 3).bind fun v14 =>
    (aQ K 4 S v14 (x4 + 1)).bind fun v15 =>
    k21 S x1 x2 v15 (x4 + 1)) else ((oR S 16 x5 10).bind fun v16 =>
    (aQ K 4 S v16 x6).bind fun v17 =>
    bnd (f_partsOf K 80 S v17) fun S18 v19 =>
    f_partFrom_67 K k21 n9 S18 x1 (x2 + v19) x4 x5 (x6 + 1))
def f_partFrom_116 (K : Ky) (S : Sg) (x2 : Int32) (x3 : Option Nat) : Option (Sg × Int32) :=
  bnd (f_partsOf K 80 S x3) fun S20 v21 =>
  (pM S20 57 v21).bind fun S22 =>
  some (S22, x2)
def f_partFrom_21 (K : Ky) : Nat → Sg → Option Nat → Int32 → Option Nat → Int32 → Option (Sg × Int32)
  | 0, _, _, _, _, _ => none
  | n9 + 1, S, x1, x2, x3, x4 =>
    (oI S 18 x1 1).bind fun v5 =>
    if v5 ≤ x4 then (f_partFrom_116 K S x2 x3) else ((oR S 18 x1 2).bind fun v6 =>
    (aI K S v6 x4).bind fun v7 =>
    if v7 < 0 then (f_partFrom_116 K S x2 x3) else ((oR S 18 x1 2).bind fun v8 =>
    (aI K S v8 x4).bind fun v9 =>
    if 1000 ≤ v9 then (f_partFrom_116 K S x2 x3) else ((oI S 20 x3 1).bind fun v10 =>
    (rQ S 11 v10).bind fun v11 =>
    f_partFrom_67 K ((f_partFrom_21 K n9)) bigN S x1 x2 x4 v11 0)))
def f_partFrom (K : Ky) (S0 : Sg) (x1 : Option Nat) : Option (Sg × Int32) :=
  (oR S0 18 x1 0).bind fun v1 =>
  (oI S0 21 v1 0).bind fun v2 =>
  (oR S0 18 x1 3).bind fun v3 =>
  (aQ K 4 S0 v3 0).bind fun v4 =>
  f_partFrom_21 K bigN S0 x1 (16 * v2) v4 0
def f_hasStar_2 (K : Ky) : Nat → Sg → Option Nat → Int32 → Option (Sg × Int32)
  | 0, _, _, _ => none
  | n9 + 1, S, x0, x1 =>
    (oI S 18 x0 1).bind fun v1 =>
    if v1 ≤ x1 then ((zB 0).bind fun _ => some (S, 0)) else ((oR S 18 x0 2).bind fun v2 =>
    (aI K S v2 x1).bind fun v3 =>
    if v3 = (-1) then ((zB 1).bind fun _ => some (S, 1)) else (f_hasStar_2 K n9 S x0 (x1 + 1)))
def f_hasStar (K : Ky) (S0 : Sg) (x0 : Option Nat) : Option (Sg × Int32) :=
  f_hasStar_2 K bigN S0 x0 0
def f_mark_3 (K : Ky) : Nat → Sg → Int32 → Int32 → Int32 → Int32 → Int32 → Option (Sg × Unit)
  | 0, _, _, _, _, _, _ => none
  | n9 + 1, S, x1, x2, x3, x4, x5 =>
    if (x1 + x2) ≤ x5 then (some (S, ())) else (bnd (f_put K S 56 0 x5 x3) fun S1 v2 =>
    bnd (f_put K S1 55 0 x5 x4) fun S3 v4 =>
    f_mark_3 K n9 S3 x1 x2 x3 x4 (x5 + 1))
def f_mark (K : Ky) (S0 : Sg) (x1 : Int32) (x2 : Int32) (x3 : Int32) (x4 : Int32) : Option (Sg × Unit) :=
  f_mark_3 K bigN S0 x1 x2 x3 x4 x1
def f_moveBehind_360 (K : Ky) (S : Sg) : Option (Sg × Unit) :=
  some (S, ())
def f_moveBehind_180 (K : Ky) (S : Sg) (x1 : Int32) : Option (Sg × Unit) :=
  (rQ S 38 x1).bind fun v36 =>
  bnd (f_partFrom K S v36) fun S37 v38 =>
  bnd (f_mark K S37 v38 (Zi S37 57) 0 1) fun S39 v40 =>
  f_moveBehind_360 K S39
def f_moveBehind_205 (K : Ky) (S : Sg) (x1 : Int32) : Option (Sg × Unit) :=
  (rQ S 40 x1).bind fun v32 =>
  (oI S 21 v32 0).bind fun v33 =>
  bnd (f_mark K S (16 * v33) 16 1 0) fun S34 v35 =>
  f_moveBehind_360 K S34
def f_moveBehind_276 (K : Ky) : Nat → Sg → Int32 → Int32 → Option (Sg × Unit)
  | 0, _, _, _ => none
  | n9 + 1, S, x1, x2 =>
    (rQ S 41 x1).bind fun v24 =>
    (oI S 13 v24 3).bind fun v25 =>
    if v25 ≤ x2 then (f_moveBehind_360 K S) else ((rQ S 41 x1).bind fun v26 =>
    (oR S 13 v26 4).bind fun v27 =>
    (aQ K 5 S v27 x2).bind fun v28 =>
    (oI S 21 v28 0).bind fun v29 =>
    bnd (f_mark K S (16 * v29) 16 1 0) fun S30 v31 =>
    f_moveBehind_276 K n9 S30 x1 (x2 + 1))
def f_moveBehind_2 (K : Ky) : Nat → Sg → Int32 → Int32 → Option (Sg × Unit)
  | 0, _, _, _ => none
  | n9 + 1, S, x1, x2 =>
    if 10 ≤ x2 then ((rI S 27 x1).bind fun v1 =>
    if v1 = 2 then ((rI S 33 x1).bind fun v2 =>
    if v2 = 4 then (f_moveBehind_180 K S x1) else ((rI S 33 x1).bind fun v3 =>
    if v3 = 5 then (f_moveBehind_180 K S x1) else (f_moveBehind_360 K S))) else (if v1 = 3 then (f_moveBehind_360 K S) else (if v1 = 4 then (f_moveBehind_360 K S) else (if v1 = 5 then (f_moveBehind_360 K S) else (if v1 = 6 then (f_moveBehind_360 K S) else (if v1 = 7 then (f_moveBehind_360 K S) else (if v1 = 8 then (f_moveBehind_360 K S) else (if v1 = 9 then (f_moveBehind_360 K S) else (if v1 = 10 then (f_moveBehind_360 K S) else (if v1 = 11 then (f_moveBehind_360 K S) else (if v1 = 12 then (f_moveBehind_205 K S x1) else (if v1 = 13 then ((rQ S 40 x1).bind fun v4 =>
    (oI S 21 v4 0).bind fun v5 =>
    bnd (f_mark K S (16 * v5) 16 0 1) fun S6 v7 =>
    f_moveBehind_360 K S6) else (if v1 = 14 then ((rQ S 38 x1).bind fun v8 =>
    bnd (f_hasStar K S v8) fun S9 v10 =>
    if v10 = 0 then ((rQ S9 38 x1).bind fun v11 =>
    bnd (f_partFrom K S9 v11) fun S12 v13 =>
    bnd (f_mark K S12 v13 (Zi S12 57) 1 0) fun S14 v15 =>
    f_moveBehind_360 K S14) else (f_moveBehind_360 K S9)) else (if v1 = 15 then (f_moveBehind_360 K S) else (if v1 = 16 then (f_moveBehind_360 K S) else (if v1 = 17 then (f_moveBehind_360 K S) else (if v1 = 18 then (f_moveBehind_360 K S) else (if v1 = 19 then (f_moveBehind_360 K S) else (if v1 = 20 then (f_moveBehind_360 K S) else (if v1 = 21 then (f_moveBehind_360 K S) else (if v1 = 22 then (f_moveBehind_276 K bigN S x1 0) else (if v1 = 23 then (f_moveBehind_205 K S x1) else (if v1 = 24 then ((rQ S 40 x1).bind fun v16 =>
    (oI S 21 v16 0).bind fun v17 =>
    bnd (f_mark K S (16 * v17) 16 0 0) fun S18 v19 =>
    f_moveBehind_360 K S18) else (f_moveBehind_360 K S)))))))))))))))))))))))) else ((rJ S 53 ((10 * x1) + x2)).bind fun v20 =>
    (wJ S 55 x2 v20).bind fun S21 =>
    (rJ S21 54 ((10 * x1) + x2)).bind fun v22 =>
    (wJ S21 56 x2 v22).bind fun S23 =>
    f_moveBehind_2 K n9 S23 x1 (x2 + 1))
def f_moveBehind (K : Ky) (S0 : Sg) (x1 : Int32) : Option (Sg × Unit) :=
  f_moveBehind_2 K bigN S0 x1 0
def f_merges_74 (K : Ky) (k4 : Sg → Int32 → Int32 → Int32 → Option (Sg × Int32)) (S : Sg) (x1 : Int32) (x2 : Int32) (x3 : Int32) (x4 : Int64) (x6 : Int64) : Option (Sg × Int32) :=
  (wJ S 53 (x1 + x3) x4).bind fun S7 =>
  (wJ S7 54 (x1 + x3) x6).bind fun S8 =>
  k4 S8 x1 x2 (x3 + 1)
def f_merges_72 (K : Ky) (k4 : Sg → Int32 → Int32 → Int32 → Option (Sg × Int32)) (S : Sg) (x1 : Int32) (x3 : Int32) (x4 : Int64) (x6 : Int64) : Option (Sg × Int32) :=
  f_merges_74 K k4 S x1 1 x3 x4 x6
def f_merges_4 (K : Ky) : Nat → Sg → Int32 → Int32 → Int32 → Option (Sg × Int32)
  | 0, _, _, _, _ => none
  | n9 + 1, S, x1, x2, x3 =>
    if 10 ≤ x3 then ((zB x2).bind fun _ => some (S, x2)) else ((rJ S 53 (x1 + x3)).bind fun v1 =>
    (rJ S 55 x3).bind fun v2 =>
    (rJ S 54 (x1 + x3)).bind fun v3 =>
    (rJ S 56 x3).bind fun v4 =>
    (rJ S 53 (x1 + x3)).bind fun v5 =>
    if (lg_cmp (v1 ||| v2) v5) = 0 then ((rJ S 54 (x1 + x3)).bind fun v6 =>
    if (lg_cmp (v3 ||| v4) v6) = 0 then (f_merges_74 K ((f_merges_4 K n9)) S x1 x2 x3 (v1 ||| v2) (v3 ||| v4)) else (f_merges_72 K ((f_merges_4 K n9)) S x1 x3 (v1 ||| v2) (v3 ||| v4))) else (f_merges_72 K ((f_merges_4 K n9)) S x1 x3 (v1 ||| v2) (v3 ||| v4)))
def f_merges (K : Ky) (S0 : Sg) (x1 : Int32) : Option (Sg × Int32) :=
  f_merges_4 K bigN S0 x1 0 0
def f_spreadMoves_51 (K : Ky) (k41 : Sg → Option Nat → Int32 → Option (Sg × Unit)) : Nat → Sg → Option Nat → Int32 → Int32 → Option (Sg × Unit)
  | 0, _, _, _, _ => none
  | n9 + 1, S, x1, x2, x3 =>
    if 16 ≤ x3 then (k41 S x1 (x2 + 1)) else ((oI S 16 x1 5).bind fun v6 =>
    (oR S 16 x1 17).bind fun v7 =>
    (aQ K 5 S v7 x2).bind fun v8 =>
    (oI S 21 v8 0).bind fun v9 =>
    bnd (f_put K S 54 (10 * v6) ((16 * v9) + x3) 1) fun S10 v11 =>
    f_spreadMoves_51 K k41 n9 S10 x1 x2 (x3 + 1))
def f_spreadMoves_174 (K : Ky) (k100 : Sg → Option Nat → Int32 → Option (Sg × Unit)) (k111 : Sg → Option Nat → Int32 → Int32 → Option (Sg × Unit)) (k136 : Sg → Option Nat → Int32 → Int32 → Int32 → Option (Sg × Unit)) (S : Sg) (x1 : Option Nat) (x2 : Int32) (x3 : Int32) (x4 : Int32) : Option (Sg × Unit) :=
  k136 S x1 x2 x3 (x4 + 1)
def f_spreadMoves_180 (K : Ky) (k100 : Sg → Option Nat → Int32 → Option (Sg × Unit)) (k111 : Sg → Option Nat → Int32 → Int32 → Option (Sg × Unit)) (S : Sg) (x1 : Option Nat) (x2 : Int32) (x3 : Int32) : Option (Sg × Unit) :=
  k111 S x1 x2 (x3 + 1)
def f_spreadMoves_136 (K : Ky) (k100 : Sg → Option Nat → Int32 → Option (Sg × Unit)) (k111 : Sg → Option Nat → Int32 → Int32 → Option (Sg × Unit)) : Nat → Sg → Option Nat → Int32 → Int32 → Int32 → Option (Sg × Unit)
  | 0, _, _, _, _, _ => none
  | n9 + 1, S, x1, x2, x3, x4 =>
    (rI S 52 x3).bind fun v17 =>
    if v17 = 0 then (f_spreadMoves_180 K k100 k111 S x1 x2 x3) else (bnd (f_follows K S x3 x4) fun S18 v19 =>
    if v19 < 0 then (f_spreadMoves_180 K k100 k111 S18 x1 x2 x3) else (bnd (f_follows K S18 x3 x4) fun S20 v21 =>
    bnd (f_merges K S20 (10 * v21)) fun S22 v23 =>
    if v23 = 0 then (f_spreadMoves_174 K k100 k111 ((f_spreadMoves_136 K k100 k111 n9)) S22 x1 x2 x3 x4) else (f_spreadMoves_174 K k100 k111 ((f_spreadMoves_136 K k100 k111 n9)) S22 x1 1 x3 x4)))
def f_spreadMoves_133 (K : Ky) (k100 : Sg → Option Nat → Int32 → Option (Sg × Unit)) (k111 : Sg → Option Nat → Int32 → Int32 → Option (Sg × Unit)) (S : Sg) (x1 : Option Nat) (x2 : Int32) (x3 : Int32) : Option (Sg × Unit) :=
  f_spreadMoves_136 K k100 k111 bigN S x1 x2 x3 0
def f_spreadMoves_111 (K : Ky) (k100 : Sg → Option Nat → Int32 → Option (Sg × Unit)) : Nat → Sg → Option Nat → Int32 → Int32 → Option (Sg × Unit)
  | 0, _, _, _, _ => none
  | n9 + 1, S, x1, x2, x3 =>
    (oI S 16 x1 4).bind fun v13 =>
    if v13 ≤ x3 then (k100 S x1 x2) else ((rI S 52 x3).bind fun v14 =>
    if v14 = 0 then (f_spreadMoves_133 K k100 ((f_spreadMoves_111 K k100 n9)) S x1 x2 x3) else (bnd (f_moveBehind K S x3) fun S15 v16 =>
    f_spreadMoves_133 K k100 ((f_spreadMoves_111 K k100 n9)) S15 x1 x2 x3))
def f_spreadMoves_100 (K : Ky) : Nat → Sg → Option Nat → Int32 → Option (Sg × Unit)
  | 0, _, _, _ => none
  | n9 + 1, S, x1, x2 =>
    if x2 = 0 then (some (S, ())) else ((oI S 16 x1 5).bind fun v12 =>
    f_spreadMoves_111 K ((f_spreadMoves_100 K n9)) bigN S x1 0 v12)
def f_spreadMoves_41 (K : Ky) : Nat → Sg → Option Nat → Int32 → Option (Sg × Unit)
  | 0, _, _, _ => none
  | n9 + 1, S, x1, x2 =>
    (oI S 16 x1 3).bind fun v5 =>
    if v5 ≤ x2 then (f_spreadMoves_100 K bigN S x1 1) else (f_spreadMoves_51 K ((f_spreadMoves_41 K n9)) bigN S x1 x2 0)
def f_spreadMoves_8 (K : Ky) : Nat → Sg → Option Nat → Int32 → Option (Sg × Unit)
  | 0, _, _, _ => none
  | n9 + 1, S, x1, x2 =>
    (oI S 16 x1 4).bind fun v2 =>
    if (10 * v2) ≤ x2 then (f_spreadMoves_41 K bigN S x1 0) else ((wJ S 53 x2 0).bind fun S3 =>
    (wJ S3 54 x2 0).bind fun S4 =>
    f_spreadMoves_8 K n9 S4 x1 (x2 + 1))
def f_spreadMoves (K : Ky) (S0 : Sg) (x1 : Option Nat) : Option (Sg × Unit) :=
  (oI S0 16 x1 5).bind fun v1 =>
  f_spreadMoves_8 K bigN S0 x1 (10 * v1)
def f_some_3 (K : Ky) (x1 : Nat) : Nat → Sg → Int32 → Int32 → Int32 → Int32 → Option (Sg × Int32)
  | 0, _, _, _, _, _ => none
  | n9 + 1, S, x2, x3, x4, x5 =>
    if (x3 + x4) ≤ x5 then ((zB 0).bind fun _ => some (S, 0)) else (bnd (f_get K S x1 (10 * x2) x5) fun S1 v2 =>
    if v2 = 0 then (f_some_3 K x1 n9 S1 x2 x3 x4 (x5 + 1)) else ((zB 1).bind fun _ => some (S1, 1)))
def f_some (K : Ky) (S0 : Sg) (x1 : Nat) (x2 : Int32) (x3 : Int32) (x4 : Int32) : Option (Sg × Int32) :=
  f_some_3 K x1 bigN S0 x2 x3 x4 x3
def f_moveWrong_17 (K : Ky) (S : Sg) : Option (Sg × Int32) :=
  (zB 0).bind fun _ => some (S, 0)
def f_moveWrong_48 (K : Ky) (S : Sg) (x1 : Int32) (x3 : Int32) : Option (Sg × Int32) :=
  bnd (f_some K S 53 x1 x3 (Zi S 57)) fun S15 v16 =>
  (zB v16).bind fun _ => some (S15, v16)
def f_moveWrong_112 (K : Ky) (S : Sg) (y0 : Int32) : Option (Sg × Int32) :=
  (zB y0).bind fun _ => some (S, y0)
def f_moveWrong_111 (K : Ky) (S : Sg) : Option (Sg × Int32) :=
  f_moveWrong_112 K S 0
def f_moveWrong (K : Ky) (S0 : Sg) (x1 : Int32) : Option (Sg × Int32) :=
  (rI S0 33 x1).bind fun v1 =>
  if v1 = 0 then (f_moveWrong_17 K S0) else (if v1 = 7 then (f_moveWrong_17 K S0) else ((rQ S0 38 x1).bind fun v2 =>
  bnd (f_partFrom K S0 v2) fun S3 v4 =>
  if v1 = 6 then ((rQ S3 38 x1).bind fun v5 =>
  bnd (f_hasStar K S3 v5) fun S6 v7 =>
  if v7 = 0 then ((rQ S6 38 x1).bind fun v8 =>
  (oI S6 18 v8 1).bind fun v9 =>
  if v9 = 0 then ((rQ S6 38 x1).bind fun v10 =>
  (oR S6 18 v10 0).bind fun v11 =>
  (oI S6 21 v11 3).bind fun v12 =>
  if v12 = 0 then (bnd (f_some K S6 54 x1 v4 (Zi S6 57)) fun S13 v14 =>
  if v14 = 0 then (f_moveWrong_111 K S13) else (f_moveWrong_112 K S13 1)) else (f_moveWrong_111 K S6)) else (f_moveWrong_111 K S6)) else (f_moveWrong_48 K S6 x1 v4)) else (f_moveWrong_48 K S3 x1 v4)))
