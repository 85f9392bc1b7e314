def f_endless_72 (K : Ky) (k2 : Sg → Int32 → Option (Sg × Unit)) (k12 : Sg → Int32 → Int32 → Option (Sg × Unit)) (S : Sg) (x1 : Int32) (x2 : Int32) (y0 : Int32) (y1 : Int32) : Option (Sg × Unit) :=
  (wZ S 20 y1 y0).bind fun S7 =>
  k12 S7 x1 (x2 + 1)
def f_endless_71 (K : Ky) (k2 : Sg → Int32 → Option (Sg × Unit)) (k12 : Sg → Int32 → Int32 → Option (Sg × Unit)) (S : Sg) (x1 : Int32) (x2 : Int32) (y0 : Int32) : Option (Sg × Unit) :=
  f_endless_72 K k2 k12 S x1 x2 0 y0
def f_endless_12 (K : Ky) (k2 : Sg → Int32 → Option (Sg × Unit)) : Nat → Sg → Int32 → Int32 → Option (Sg × Unit)
  | 0, _, _, _ => none
  | n9 + 1, S, x1, x2 =>
    if (Zi S 12) ≤ x2 then (k2 S (x1 + 1)) else ((rQ S 11 x1).bind fun v1 =>
    (oI S 16 v1 2).bind fun v2 =>
    if v2 = 12 then (f_endless_71 K k2 ((f_endless_12 K k2 n9)) S x1 x2 ((70 * x1) + x2)) else ((rQ S 11 x2).bind fun v3 =>
    (oI S 16 v3 2).bind fun v4 =>
    if v4 = 12 then (f_endless_71 K k2 ((f_endless_12 K k2 n9)) S x1 x2 ((70 * x1) + x2)) else (bnd (f_lies K S x1 x2) fun S5 v6 =>
    if v6 = 0 then (f_endless_71 K k2 ((f_endless_12 K k2 n9)) S5 x1 x2 ((70 * x1) + x2)) else (f_endless_72 K k2 ((f_endless_12 K k2 n9)) S5 x1 x2 1 ((70 * x1) + x2)))))
def f_endless_155 (K : Ky) (k87 : Sg → Int32 → Option (Sg × Unit)) (k97 : Sg → Int32 → Int32 → Option (Sg × Unit)) (k107 : Sg → Int32 → Int32 → Int32 → Option (Sg × Unit)) (S : Sg) (x1 : Int32) (x2 : Int32) (x3 : Int32) : Option (Sg × Unit) :=
  k107 S x1 x2 (x3 + 1)
def f_endless_107 (K : Ky) (k87 : Sg → Int32 → Option (Sg × Unit)) (k97 : Sg → Int32 → Int32 → Option (Sg × Unit)) : Nat → Sg → Int32 → Int32 → Int32 → Option (Sg × Unit)
  | 0, _, _, _, _ => none
  | n9 + 1, S, x1, x2, x3 =>
    if (Zi S 12) ≤ x3 then (k97 S x1 (x2 + 1)) else ((rI S 20 ((70 * x2) + x1)).bind fun v8 =>
    if v8 = 0 then (f_endless_155 K k87 k97 ((f_endless_107 K k87 k97 n9)) S x1 x2 x3) else ((rI S 20 ((70 * x1) + x3)).bind fun v9 =>
    if v9 = 0 then (f_endless_155 K k87 k97 ((f_endless_107 K k87 k97 n9)) S x1 x2 x3) else ((wZ S 20 ((70 * x2) + x3) 1).bind fun S10 =>
    f_endless_155 K k87 k97 ((f_endless_107 K k87 k97 n9)) S10 x1 x2 x3)))
def f_endless_97 (K : Ky) (k87 : Sg → Int32 → Option (Sg × Unit)) : Nat → Sg → Int32 → Int32 → Option (Sg × Unit)
  | 0, _, _, _ => none
  | n9 + 1, S, x1, x2 =>
    if (Zi S 12) ≤ x2 then (k87 S (x1 + 1)) else (f_endless_107 K k87 ((f_endless_97 K k87 n9)) bigN S x1 x2 0)
def f_endless_251 (K : Ky) (k175 : Sg → Int32 → Option (Sg × Unit)) (k205 : Sg → Int32 → Int32 → Option (Sg × Unit)) (S : Sg) (x1 : Int32) (x2 : Int32) : Option (Sg × Unit) :=
  k205 S x1 (x2 + 1)
def f_endless_205 (K : Ky) (k175 : Sg → Int32 → Option (Sg × Unit)) : Nat → Sg → Int32 → Int32 → Option (Sg × Unit)
  | 0, _, _, _ => none
  | n9 + 1, S, x1, x2 =>
    if (Zi S 12) ≤ x2 then ((rQ S 11 x1).bind fun v14 =>
    (pV S 16 v14 19 (.int 0)).bind fun S15 =>
    k175 S15 (x1 + 1)) else ((rI S 20 ((70 * x1) + x2)).bind fun v16 =>
    if v16 = 0 then (f_endless_251 K k175 ((f_endless_205 K k175 n9)) S x1 x2) else ((rI S 20 ((70 * x2) + x2)).bind fun v17 =>
    if v17 = 0 then (f_endless_251 K k175 ((f_endless_205 K k175 n9)) S x1 x2) else ((rQ S 11 x1).bind fun v18 =>
    (pZ S 16 v18 21 1).bind fun S19 =>
    f_endless_251 K k175 ((f_endless_205 K k175 n9)) S19 x1 x2)))
def f_endless_175 (K : Ky) : Nat → Sg → Int32 → Option (Sg × Unit)
  | 0, _, _ => none
  | n9 + 1, S, x1 =>
    if (Zi S 12) ≤ x1 then (some (S, ())) else ((rQ S 11 x1).bind fun v11 =>
    (rI S 20 ((70 * x1) + x1)).bind fun v12 =>
    (pZ S 16 v11 21 v12).bind fun S13 =>
    f_endless_205 K ((f_endless_175 K n9)) bigN S13 x1 0)
def f_endless_87 (K : Ky) : Nat → Sg → Int32 → Option (Sg × Unit)
  | 0, _, _ => none
  | n9 + 1, S, x1 =>
    if (Zi S 12) ≤ x1 then (f_endless_175 K bigN S 0) else (f_endless_97 K ((f_endless_87 K n9)) bigN S x1 0)
def f_endless_2 (K : Ky) : Nat → Sg → Int32 → Option (Sg × Unit)
  | 0, _, _ => none
  | n9 + 1, S, x1 =>
    if (Zi S 12) ≤ x1 then (f_endless_87 K bigN S 0) else (f_endless_12 K ((f_endless_2 K n9)) bigN S x1 0)
def f_endless (K : Ky) (S0 : Sg) : Option (Sg × Unit) :=
  f_endless_2 K bigN S0 0
def f_sizeOf_33 (K : Ky) (V : Sg → Option Nat → Option (Sg × Int32)) (S : Sg) (y0 : Int32) : Option (Sg × Int32) :=
  some (S, y0)
def f_sizeOf_16 (K : Ky) (V : Sg → Option Nat → Option (Sg × Int32)) (S : Sg) (x1 : Option Nat) : Option (Sg × Int32) :=
  (oI S 20 x1 1).bind fun v3 =>
  (rQ S 11 v3).bind fun v4 =>
  bnd (V S v4) fun S5 v6 =>
  f_sizeOf_33 K V S5 v6
def f_sizeOf (K : Ky) (V : Sg → Option Nat → Option (Sg × Int32)) (S0 : Sg) (x1 : Option Nat) : Option (Sg × Int32) :=
  (oI S0 20 x1 0).bind fun v1 =>
  if v1 = 3 then (f_sizeOf_16 K V S0 x1) else ((oI S0 20 x1 0).bind fun v2 =>
  if v2 = 4 then (f_sizeOf_16 K V S0 x1) else (f_sizeOf_33 K V S0 1))
def f_sizeOfItem_105 (K : Ky) (V : Sg → Option Nat → Option (Sg × Int32)) (k16 : Sg → Option Nat → Int32 → Int32 → Option (Sg × Int32)) (S : Sg) (x1 : Option Nat) (x2 : Int32) (x3 : Int32) : Option (Sg × Int32) :=
  k16 S x1 x2 (x3 + 1)
def f_sizeOfItem_55 (K : Ky) (V : Sg → Option Nat → Option (Sg × Int32)) (k16 : Sg → Option Nat → Int32 → Int32 → Option (Sg × Int32)) : Nat → Sg → Option Nat → Int32 → Int32 → Int32 → Int32 → Option (Sg × Int32)
  | 0, _, _, _, _, _, _ => none
  | n9 + 1, S, x1, x2, x3, x4, x5 =>
    (oR S 16 x1 11).bind fun v9 =>
    (aQ K 13 S v9 x3).bind fun v10 =>
    (oI S 17 v10 0).bind fun v11 =>
    if v11 ≤ x5 then (if x4 ≤ x2 then (f_sizeOfItem_105 K V k16 S x1 x2 x3) else (f_sizeOfItem_105 K V k16 S x1 x4 x3)) else ((oR S 16 x1 11).bind fun v12 =>
    (aQ K 13 S v12 x3).bind fun v13 =>
    (oR S 17 v13 2).bind fun v14 =>
    (aQ K 4 S v14 x5).bind fun v15 =>
    bnd (f_sizeOf K V S v15) fun S16 v17 =>
    f_sizeOfItem_55 K V k16 n9 S16 x1 x2 x3 (x4 + v17) (x5 + 1))
def f_sizeOfItem_126 (K : Ky) (V : Sg → Option Nat → Option (Sg × Int32)) (S : Sg) (x1 : Option Nat) (y0 : Int32) (y1 : Option Nat) : Option (Sg × Int32) :=
  (pV S 16 y1 19 (.int y0)).bind fun S18 =>
  (oI S18 16 x1 19).bind fun v19 =>
  some (S18, v19)
def f_sizeOfItem_16 (K : Ky) (V : Sg → Option Nat → Option (Sg × Int32)) : Nat → Sg → Option Nat → Int32 → Int32 → Option (Sg × Int32)
  | 0, _, _, _, _ => none
  | n9 + 1, S, x1, x2, x3 =>
    (oI S 16 x1 3).bind fun v3 =>
    if v3 ≤ x3 then (if x2 ≤ 1000 then (f_sizeOfItem_126 K V S x1 x2 x1) else (f_sizeOfItem_126 K V S x1 1000 x1)) else ((oI S 16 x1 2).bind fun v4 =>
    if v4 = 10 then ((oR S 16 x1 10).bind fun v5 =>
    (aQ K 4 S v5 x3).bind fun v6 =>
    bnd (f_sizeOf K V S v6) fun S7 v8 =>
    f_sizeOfItem_105 K V ((f_sizeOfItem_16 K V n9)) S7 x1 (x2 + v8) x3) else (f_sizeOfItem_55 K V ((f_sizeOfItem_16 K V n9)) bigN S x1 x2 x3 1 0))
def f_sizeOfItem (K : Ky) : Nat → Sg → Option Nat → Option (Sg × Int32)
  | 0, _, _ => none
  | d + 1, S0, x1 =>
    (oI S0 16 x1 19).bind fun v1 =>
    if v1 ≤ 0 then (f_sizeOfItem_16 K (f_sizeOfItem K d) bigN S0 x1 0 0) else ((oI S0 16 x1 19).bind fun v2 =>
    some (S0, v2))
def f_sizes_76 (K : Ky) (k6 : Sg → Int32 → Option (Sg × Unit)) (S : Sg) (x1 : Int32) : Option (Sg × Unit) :=
  k6 S (x1 + 1)
def f_sizes_62 (K : Ky) (k6 : Sg → Int32 → Option (Sg × Unit)) (S : Sg) (x1 : Int32) : Option (Sg × Unit) :=
  (rQ S 11 x1).bind fun v12 =>
  (oI S 16 v12 1).bind fun v13 =>
  bnd (f_fail K S 4 v13) fun S14 v15 =>
  f_sizes_76 K k6 S14 x1
def f_sizes_82 (K : Ky) (S : Sg) : Option (Sg × Unit) :=
  some (S, ())
def f_sizes_6 (K : Ky) : Nat → Sg → Int32 → Option (Sg × Unit)
  | 0, _, _ => none
  | n9 + 1, S, x1 =>
    if (Zi S 12) ≤ x1 then (f_sizes_82 K S) else (bnd (f_ok K S) fun S3 v4 =>
    if v4 = 0 then (f_sizes_82 K S3) else ((rQ S3 11 x1).bind fun v5 =>
    (oI S3 16 v5 2).bind fun v6 =>
    if v6 = 12 then (f_sizes_76 K ((f_sizes_6 K n9)) S3 x1) else ((rQ S3 11 x1).bind fun v7 =>
    (oI S3 16 v7 21).bind fun v8 =>
    if v8 = 0 then ((rQ S3 11 x1).bind fun v9 =>
    bnd (f_sizeOfItem K 80 S3 v9) fun S10 v11 =>
    if v11 ≤ 16 then (f_sizes_76 K ((f_sizes_6 K n9)) S10 x1) else (f_sizes_62 K ((f_sizes_6 K n9)) S10 x1)) else (f_sizes_62 K ((f_sizes_6 K n9)) S3 x1))))
def f_sizes (K : Ky) (S0 : Sg) : Option (Sg × Unit) :=
  bnd (f_endless K S0) fun S1 v2 =>
  f_sizes_6 K bigN S1 0
def f_leavesOfItem_57 (K : Ky) (V : Sg → Option Nat → Option (Sg × Int32)) (k9 : Sg → Option Nat → Int32 → Option (Sg × Int32)) (S : Sg) (x1 : Option Nat) (x2 : Int32) (y0 : Int32) (y1 : Int32) (y2 : Option Nat) : Option (Sg × Int32) :=
  (pV S 16 y2 20 (.int (y1 + y0))).bind fun S13 =>
  k9 S13 x1 (x2 + 1)
def f_leavesOfItem_67 (K : Ky) (V : Sg → Option Nat → Option (Sg × Int32)) (S : Sg) (x1 : Option Nat) : Option (Sg × Int32) :=
  (oI S 16 x1 20).bind fun v14 =>
  some (S, v14)
def f_leavesOfItem_9 (K : Ky) (V : Sg → Option Nat → Option (Sg × Int32)) : Nat → Sg → Option Nat → Int32 → Option (Sg × Int32)
  | 0, _, _, _ => none
  | n9 + 1, S, x1, x2 =>
    (oI S 16 x1 3).bind fun v2 =>
    if v2 ≤ x2 then (f_leavesOfItem_67 K V S x1) else ((oI S 16 x1 20).bind fun v3 =>
    (oR S 16 x1 10).bind fun v4 =>
    (aQ K 4 S v4 x2).bind fun v5 =>
    (oI S 20 v5 0).bind fun v6 =>
    if v6 = 3 then ((oR S 16 x1 10).bind fun v7 =>
    (aQ K 4 S v7 x2).bind fun v8 =>
    (oI S 20 v8 1).bind fun v9 =>
    (rQ S 11 v9).bind fun v10 =>
    bnd (V S v10) fun S11 v12 =>
    f_leavesOfItem_57 K V ((f_leavesOfItem_9 K V n9)) S11 x1 x2 v12 v3 x1) else (f_leavesOfItem_57 K V ((f_leavesOfItem_9 K V n9)) S x1 x2 1 v3 x1))
def f_leavesOfItem (K : Ky) : Nat → Sg → Option Nat → Option (Sg × Int32)
  | 0, _, _ => none
  | d + 1, S0, x1 =>
    (oI S0 16 x1 20).bind fun v1 =>
    if v1 = 0 then (f_leavesOfItem_9 K (f_leavesOfItem K d) bigN S0 x1 0) else (f_leavesOfItem_67 K (f_leavesOfItem K d) S0 x1)
def f_leaves_35 (K : Ky) (k2 : Sg → Int32 → Option (Sg × Unit)) (S : Sg) (x1 : Int32) : Option (Sg × Unit) :=
  k2 S (x1 + 1)
def f_leaves_2 (K : Ky) : Nat → Sg → Int32 → Option (Sg × Unit)
  | 0, _, _ => none
  | n9 + 1, S, x1 =>
    if (Zi S 12) ≤ x1 then (some (S, ())) else ((rQ S 11 x1).bind fun v1 =>
    (oI S 16 v1 2).bind fun v2 =>
    if v2 = 10 then ((rQ S 11 x1).bind fun v3 =>
    bnd (f_leavesOfItem K 80 S v3) fun S4 v5 =>
    f_leaves_35 K ((f_leaves_2 K n9)) S4 x1) else (f_leaves_35 K ((f_leaves_2 K n9)) S x1))
def f_leaves (K : Ky) (S0 : Sg) : Option (Sg × Unit) :=
  f_leaves_2 K bigN S0 0
def f_findMain_50 (K : Ky) (k7 : Sg → Int32 → Option (Sg × Unit)) (S : Sg) (x1 : Int32) : Option (Sg × Unit) :=
  k7 S (x1 + 1)
def f_findMain_144 (K : Ky) (S : Sg) : Option (Sg × Unit) :=
  some (S, ())
def f_findMain_127 (K : Ky) (S : Sg) : Option (Sg × Unit) :=
  (rQ S 11 (Zi S 21)).bind fun v18 =>
  (oI S 16 v18 1).bind fun v19 =>
  bnd (f_fail K S 4 v19) fun S20 v21 =>
  f_findMain_144 K S20
def f_findMain_7 (K : Ky) : Nat → Sg → Int32 → Option (Sg × Unit)
  | 0, _, _ => none
  | n9 + 1, S, x1 =>
    if (Zi S 12) ≤ x1 then (if 0 ≤ (Zi S 21) then ((rQ S 11 (Zi S 21)).bind fun v2 =>
    (oI S 16 v2 3).bind fun v3 =>
    if 0 < v3 then (f_findMain_127 K S) else ((rQ S 11 (Zi S 21)).bind fun v4 =>
    (oI S 16 v4 6).bind fun v5 =>
    if 0 < v5 then (f_findMain_127 K S) else ((rQ S 11 (Zi S 21)).bind fun v6 =>
    (oR S 16 v6 15).bind fun v7 =>
    (oI S 20 v7 0).bind fun v8 =>
    if v8 = 8 then (f_findMain_144 K S) else (f_findMain_127 K S)))) else (bnd (f_fail K S 3 ((Zi S 9) - 1)) fun S9 v10 =>
    f_findMain_144 K S9)) else ((rQ S 11 x1).bind fun v11 =>
    (oI S 16 v11 2).bind fun v12 =>
    if v12 = 12 then ((rQ S 11 x1).bind fun v13 =>
    (oI S 16 v13 1).bind fun v14 =>
    bnd (f_isMain K S v14) fun S15 v16 =>
    if v16 = 0 then (f_findMain_50 K ((f_findMain_7 K n9)) S15 x1) else ((pM S15 21 x1).bind fun S17 =>
    f_findMain_50 K ((f_findMain_7 K n9)) S17 x1)) else (f_findMain_50 K ((f_findMain_7 K n9)) S x1))
def f_findMain (K : Ky) (S0 : Sg) : Option (Sg × Unit) :=
  (pM S0 21 (-1)).bind fun S1 =>
  f_findMain_7 K bigN S1 0
def f_declare (K : Ky) (S0 : Sg) (x1 : Int32) (x2 : Option Nat) (x3 : Int32) : Option (Sg × Option Nat) :=
  bnd (nO K S0 21 5 [.int 0, .int 0, .null, .int 0, .null]) fun S1 a2 =>
  (pV S1 21 (some a2) 0 (.int (Zi S1 24))).bind fun S5 =>
  (pV S5 21 (some a2) 1 (.int x1)).bind fun S6 =>
  (pV S6 21 (some a2) 2 (va_rf x2)).bind fun S7 =>
  (pZ S7 21 (some a2) 3 x3).bind fun S8 =>
  (pM S8 24 ((Zi S8 24) + 1)).bind fun S9 =>
  (wQ S9 21 22 (Zi S9 23) (some a2)).bind fun S10 =>
  (pM S10 23 ((Zi S10 23) + 1)).bind fun S11 =>
  some (S11, some a2)
def f_bare_2 (K : Ky) : Nat → Sg → Option Nat → Option (Sg × Option Nat)
  | 0, _, _ => none
  | n9 + 1, S, x1 =>
    (oI S 15 x1 0).bind fun v1 =>
    if v1 = 7 then ((oR S 15 x1 8).bind fun v2 =>
    f_bare_2 K n9 S v2) else (some (S, x1))
def f_bare (K : Ky) (S0 : Sg) (x0 : Option Nat) : Option (Sg × Option Nat) :=
  f_bare_2 K bigN S0 x0
def f_depth_25 (K : Ky) (k7 : Sg → Int32 → Option Nat → Option (Sg × Int32)) (S : Sg) (x1 : Int32) (x2 : Option Nat) : Option (Sg × Int32) :=
  (oR S 15 x2 8).bind fun v5 =>
  bnd (f_bare K S v5) fun S6 v7 =>
  k7 S6 (x1 + 1) v7
def f_depth_7 (K : Ky) : Nat → Sg → Int32 → Option Nat → Option (Sg × Int32)
  | 0, _, _, _ => none
  | n9 + 1, S, x1, x2 =>
    (oI S 15 x2 0).bind fun v3 =>
    if v3 = 14 then (f_depth_25 K ((f_depth_7 K n9)) S x1 x2) else ((oI S 15 x2 0).bind fun v4 =>
    if v4 = 11 then (f_depth_25 K ((f_depth_7 K n9)) S x1 x2) else (some (S, x1)))
def f_depth (K : Ky) (S0 : Sg) (x0 : Option Nat) : Option (Sg × Int32) :=
  bnd (f_bare K S0 x0) fun S1 v2 =>
  f_depth_7 K bigN S1 0 v2
def f_told (K : Ky) (S0 : Sg) (x1 : Option Nat) (x2 : Option Nat) : Option (Sg × Option Nat) :=
  (pV S0 15 x1 12 (va_rf x2)).bind fun S1 =>
  some (S1, x2)
