def f_freeNode (K : Ky) (S0 : Sg) (x1 : Int32) : Option (Sg × Unit) :=
  (wRI S0 63 x1 (Zi S0 65)).bind fun S1 =>
  (pM S1 65 x1).bind fun S2 =>
  some (S2, ())
def f_leavesOf_28 (K : Ky) (S : Sg) (y0 : Int32) : Option (Sg × Int32) :=
  some (S, y0)
def f_leavesOf_27 (K : Ky) (S : Sg) : Option (Sg × Int32) :=
  f_leavesOf_28 K S 1
def f_leavesOf (K : Ky) (S0 : Sg) (x1 : Option Nat) : Option (Sg × Int32) :=
  if x1 = none then (f_leavesOf_27 K S0) else ((oI S0 20 x1 0).bind fun v1 =>
  if v1 = 3 then ((oI S0 20 x1 1).bind fun v2 =>
  (rQ S0 11 v2).bind fun v3 =>
  (oI S0 16 v3 20).bind fun v4 =>
  f_leavesOf_28 K S0 v4) else (f_leavesOf_27 K S0))
def f_newPlace_14 (K : Ky) : Nat → Sg → Int32 → Int32 → Int32 → Option (Sg × Int32)
  | 0, _, _, _, _ => none
  | n9 + 1, S, x2, x3, x4 =>
    if x4 ≤ 1 then (some (S, x2)) else (bnd (f_node K S) fun S5 v6 =>
    (wRI S5 63 x3 v6).bind fun S7 =>
    f_newPlace_14 K n9 S7 x2 v6 (x4 + (-1)))
def f_newPlace (K : Ky) (S0 : Sg) (x1 : Option Nat) : Option (Sg × Int32) :=
  bnd (f_node K S0) fun S1 v2 =>
  bnd (f_leavesOf K S1 x1) fun S3 v4 =>
  f_newPlace_14 K bigN S3 v2 v2 v4
def f_along_5 (K : Ky) : Nat → Sg → Int32 → Int32 → Int32 → Option (Sg × Int32)
  | 0, _, _, _, _ => none
  | n9 + 1, S, x2, x3, x4 =>
    if x2 ≤ x4 then (some (S, x3)) else ((rI S 63 x3).bind fun v1 =>
    f_along_5 K n9 S x2 v1 (x4 + 1))
def f_along (K : Ky) (S0 : Sg) (x1 : Int32) (x2 : Int32) : Option (Sg × Int32) :=
  f_along_5 K bigN S0 x2 x1 0
def f_partOf_6 (K : Ky) : Nat → Sg → Option Nat → Int32 → Int32 → Int32 → Int32 → Option (Sg × Int32)
  | 0, _, _, _, _, _, _ => none
  | n9 + 1, S, x1, x2, x3, x4, x5 =>
    if x3 ≤ x5 then (bnd (f_along K S x2 x4) fun S1 v2 =>
    some (S1, v2)) else ((aQ K 4 S x1 x5).bind fun v3 =>
    bnd (f_leavesOf K S v3) fun S4 v5 =>
    f_partOf_6 K n9 S4 x1 x2 x3 (x4 + v5) (x5 + 1))
def f_partOf (K : Ky) (S0 : Sg) (x1 : Option Nat) (x2 : Int32) (x3 : Int32) : Option (Sg × Int32) :=
  f_partOf_6 K bigN S0 x1 x2 x3 0 0
def f_freePlace_9 (K : Ky) : Nat → Sg → Int32 → Int32 → Option (Sg × Unit)
  | 0, _, _, _ => none
  | n9 + 1, S, x3, x4 =>
    if x4 ≤ 0 then (some (S, ())) else ((rI S 63 x3).bind fun v3 =>
    bnd (f_freeNode K S x3) fun S4 v5 =>
    f_freePlace_9 K n9 S4 v3 (x4 + (-1)))
def f_freePlace (K : Ky) (S0 : Sg) (x1 : Option Nat) (x2 : Int32) : Option (Sg × Unit) :=
  bnd (f_leavesOf K S0 x1) fun S1 v2 =>
  f_freePlace_9 K bigN S1 x2 v2
def f_setPlace_37 (K : Ky) : Nat → Sg → Int32 → Int32 → Int32 → Option (Sg × Unit)
  | 0, _, _, _, _ => none
  | n9 + 1, S, x5, x6, x7 =>
    if x7 ≤ 0 then (some (S, ())) else ((rJ S 61 x5).bind fun v6 =>
    (wJ S 61 x6 v6).bind fun S7 =>
    (wZ S7 62 x6 1).bind fun S8 =>
    (rI S8 63 x5).bind fun v9 =>
    bnd (f_freeNode K S8 x5) fun S10 v11 =>
    (rI S10 63 x6).bind fun v12 =>
    f_setPlace_37 K n9 S10 v9 v12 (x7 + (-1)))
def f_setPlace (K : Ky) (S0 : Sg) (x1 : Option Nat) (x2 : Int32) (x3 : Int64) : Option (Sg × Unit) :=
  (oI S0 20 x1 0).bind fun v1 =>
  if v1 = 3 then (bnd (f_leavesOf K S0 x1) fun S2 v3 =>
  f_setPlace_37 K bigN S2 (Int64.toInt32 x3) x2 v3) else ((wJ S0 61 x2 x3).bind fun S4 =>
  (wZ S4 62 x2 1).bind fun S5 =>
  some (S5, ()))
def f_takePlace_41 (K : Ky) : Nat → Sg → Int32 → Int32 → Int32 → Int32 → Option (Sg × Int64)
  | 0, _, _, _, _, _ => none
  | n9 + 1, S, x3, x4, x5, x6 =>
    if x6 ≤ 0 then (some (S, Int32.toInt64 x3)) else ((rJ S 61 x5).bind fun v8 =>
    (wJ S 61 x4 v8).bind fun S9 =>
    (wZ S9 62 x4 1).bind fun S10 =>
    (wZ S10 62 x5 0).bind fun S11 =>
    (rI S11 63 x4).bind fun v12 =>
    (rI S11 63 x5).bind fun v13 =>
    f_takePlace_41 K n9 S11 x3 v12 v13 (x6 + (-1)))
def f_takePlace (K : Ky) (S0 : Sg) (x1 : Option Nat) (x2 : Int32) : Option (Sg × Int64) :=
  (oI S0 20 x1 0).bind fun v1 =>
  if v1 = 3 then (bnd (f_newPlace K S0 x1) fun S2 v3 =>
  bnd (f_leavesOf K S2 x1) fun S4 v5 =>
  f_takePlace_41 K bigN S4 v3 v3 x2 v5) else ((wZ S0 62 x2 0).bind fun S6 =>
  (rJ S6 61 x2).bind fun v7 =>
  some (S6, v7))
def f_leaf (K : Ky) (S0 : Sg) (x1 : Int64) : Option (Sg × Int32) :=
  bnd (f_node K S0) fun S1 v2 =>
  (wJ S1 61 v2 x1).bind fun S3 =>
  (wZ S3 62 v2 1).bind fun S4 =>
  some (S4, v2)
def f_freshPlace_18 (K : Ky) (S : Sg) (y0 : Int32) : Option (Sg × Int32) :=
  some (S, y0)
def f_freshPlace (K : Ky) (S0 : Sg) (x1 : Option Nat) (x2 : Int64) : Option (Sg × Int32) :=
  (oI S0 20 x1 0).bind fun v1 =>
  if v1 = 3 then (f_freshPlace_18 K S0 (Int64.toInt32 x2)) else (bnd (f_leaf K S0 x2) fun S2 v3 =>
  f_freshPlace_18 K S2 v3)
def f_kidOf (K : Ky) (S0 : Sg) (x1 : Int32) : Option (Sg × Int32) :=
  (rJ S0 61 x1).bind fun v1 =>
  some (S0, Int64.toInt32 (v1 &&& 1048575))
def f_variantOf_ (K : Ky) (S0 : Sg) (x1 : Int32) : Option (Sg × Int32) :=
  (rJ S0 61 x1).bind fun v1 =>
  some (S0, Int64.toInt32 ((v1 >>> (Int32.toInt64 20 &&& 63)) &&& 1048575))
