def f_blockLong (K : Ky) (S0 : Sg) (x1 : Int32) : Option (Sg × Int32) :=
  (rJ S0 61 x1).bind fun v1 =>
  some (S0, Int64.toInt32 (v1 >>> (Int32.toInt64 40 &&& 63)))
def f_findRoom_28 (K : Ky) (k4 : Sg → Int32 → Int32 → Int32 → Option (Sg × Int32)) (S : Sg) (x1 : Int32) (x3 : Int32) (y0 : Int32) : Option (Sg × Int32) :=
  if y0 = x1 then (some (S, (x3 - x1) + 1)) else (k4 S x1 y0 (x3 + 1))
def f_findRoom_4 (K : Ky) : Nat → Sg → Int32 → Int32 → Int32 → Option (Sg × Int32)
  | 0, _, _, _, _ => none
  | n9 + 1, S, x1, x2, x3 =>
    if (Zi S 66) ≤ x3 then (some (S, (-1))) else ((rI S 67 x3).bind fun v1 =>
    if v1 = 0 then (f_findRoom_28 K ((f_findRoom_4 K n9)) S x1 x3 (x2 + 1)) else (f_findRoom_28 K ((f_findRoom_4 K n9)) S x1 x3 0))
def f_findRoom (K : Ky) (S0 : Sg) (x1 : Int32) : Option (Sg × Int32) :=
  f_findRoom_4 K bigN S0 x1 0 0
def f_freeBlock_15 (K : Ky) : Nat → Sg → Int32 → Int32 → Int32 → Option (Sg × Unit)
  | 0, _, _, _, _ => none
  | n9 + 1, S, x2, x3, x4 =>
    if x2 ≤ x4 then ((pM S 68 ((Zi S 68) - x2)).bind fun S5 =>
    some (S5, ())) else ((wZ S 67 (x3 + x4) 0).bind fun S6 =>
    f_freeBlock_15 K n9 S6 x2 x3 (x4 + 1))
def f_freeBlock (K : Ky) (S0 : Sg) (x1 : Int32) : Option (Sg × Unit) :=
  bnd (f_blockLong K S0 x1) fun S1 v2 =>
  bnd (f_variantOf_ K S1 x1) fun S3 v4 =>
  f_freeBlock_15 K bigN S3 v2 v4 0
def f_pop (K : Ky) (S0 : Sg) : Option (Sg × Int64) :=
  (pM S0 73 ((Zi S0 73) - 1)).bind fun S1 =>
  (rJ S1 72 (Zi S1 73)).bind fun v2 =>
  some (S1, v2)
def f_push (K : Ky) (S0 : Sg) (x1 : Int64) : Option (Sg × Unit) :=
  (wJ S0 72 (Zi S0 73) x1).bind fun S1 =>
  (pM S1 73 ((Zi S1 73) + 1)).bind fun S2 =>
  some (S2, ())
def f_boxUp_77 (K : Ky) (S : Sg) (x1 : Option Nat) (x2 : Int32) (x3 : Int32) : Option (Sg × Unit) :=
  bnd (f_node K S) fun S9 v10 =>
  bnd (f_pop K S9) fun S11 v12 =>
  bnd (f_freshPlace K S11 x1 v12) fun S13 v14 =>
  (wJ S13 61 v10 (((Int32.toInt64 v14) + ((Int32.toInt64 x3) <<< (Int32.toInt64 20 &&& 63))) + ((Int32.toInt64 x2) <<< (Int32.toInt64 40 &&& 63)))).bind fun S15 =>
  bnd (f_push K S15 (Int32.toInt64 v10)) fun S16 v17 =>
  some (S16, ())
def f_boxUp_26 (K : Ky) : Nat → Sg → Option Nat → Int32 → Int32 → Int32 → Option (Sg × Unit)
  | 0, _, _, _, _, _ => none
  | n9 + 1, S, x1, x2, x3, x4 =>
    if x2 ≤ x4 then ((pM S 68 ((Zi S 68) + x2)).bind fun S6 =>
    if (Zi S6 68) ≤ (Zi S6 69) then (f_boxUp_77 K S6 x1 x2 x3) else ((pM S6 69 (Zi S6 68)).bind fun S7 =>
    f_boxUp_77 K S7 x1 x2 x3)) else ((wZ S 67 (x3 + x4) 1).bind fun S8 =>
    f_boxUp_26 K n9 S8 x1 x2 x3 (x4 + 1))
def f_boxUp (K : Ky) (S0 : Sg) (x1 : Option Nat) : Option (Sg × Unit) :=
  bnd (f_sizeOf K (f_sizeOfItem K 80) S0 x1) fun S1 v2 =>
  bnd (f_findRoom K S1 v2) fun S3 v4 =>
  if 0 ≤ v4 then (f_boxUp_26 K bigN S3 x1 v2 v4 0) else ((pM S3 3 9).bind fun S5 =>
  some (S5, ()))
def f_later_30 (K : Ky) (S : Sg) (x3 : Int32) (y0 : Int32) (y1 : Int32) : Option (Sg × Unit) :=
  (wRI S 79 y1 y0).bind fun S3 =>
  (wRI S3 80 (Zi S3 81) x3).bind fun S4 =>
  (pM S4 81 ((Zi S4 81) + 1)).bind fun S5 =>
  some (S5, ())
def f_later (K : Ky) (S0 : Sg) (x1 : Int32) (x2 : Option Nat) (x3 : Int32) : Option (Sg × Unit) :=
  (wRI S0 78 (Zi S0 81) x1).bind fun S1 =>
  if x2 = none then (f_later_30 K S1 x3 0 (Zi S1 81)) else ((oI S1 20 x2 2).bind fun v2 =>
  f_later_30 K S1 x3 v2 (Zi S1 81))
def f_laterParts_36 (K : Ky) (k5 : Sg → Option Nat → Int32 → Int32 → Int32 → Option (Sg × Unit)) (S : Sg) (x1 : Option Nat) (x3 : Int32) (x4 : Int32) (x5 : Int32) (x6 : Int32) : Option (Sg × Unit) :=
  (aQ K 4 S x1 x5).bind fun v6 =>
  bnd (f_later K S 0 v6 x6) fun S7 v8 =>
  k5 S7 x1 x3 x4 (x5 + (-1))
def f_laterParts_5 (K : Ky) : Nat → Sg → Option Nat → Int32 → Int32 → Int32 → Option (Sg × Unit)
  | 0, _, _, _, _, _ => none
  | n9 + 1, S, x1, x3, x4, x5 =>
    if x5 < 0 then (some (S, ())) else (bnd (f_partOf K S x1 x3 x5) fun S1 v2 =>
    if x4 = 0 then (f_laterParts_36 K ((f_laterParts_5 K n9)) S1 x1 x3 x4 x5 v2) else ((aQ K 4 S1 x1 x5).bind fun v3 =>
    bnd (f_later K S1 1 v3 v2) fun S4 v5 =>
    f_laterParts_36 K ((f_laterParts_5 K n9)) S4 x1 x3 x4 x5 v2))
def f_laterParts (K : Ky) (S0 : Sg) (x1 : Option Nat) (x2 : Int32) (x3 : Int32) (x4 : Int32) : Option (Sg × Unit) :=
  f_laterParts_5 K bigN S0 x1 x3 x4 (x2 - 1)
def f_write (K : Ky) (S0 : Sg) (x1 : Int32) : Option (Sg × Unit) :=
  if (Zi S0 84) = 4000 then (some (S0, ())) else ((nzI 4000).bind fun _ =>
  (wRI S0 82 (((Zi S0 83) + (Zi S0 84)) - ((Zi S0 83) + (Zi S0 84)) / 4000 * 4000) x1).bind fun S1 =>
  (pM S1 84 ((Zi S1 84) + 1)).bind fun S2 =>
  some (S2, ()))
def f_writeNumber_34 (K : Ky) (k14 : Sg → Int64 → Int64 → Option (Sg × Unit)) (S : Sg) (x1 : Int64) (x3 : Int64) : Option (Sg × Unit) :=
  k14 S x1 (x3 * 10)
def f_writeNumber_82 (K : Ky) (k46 : Sg → Int64 → Int64 → Option (Sg × Unit)) (S : Sg) (x1 : Int64) (x5 : Int64) (y0 : Int64) (y1 : Int64) : Option (Sg × Unit) :=
  bnd (f_write K S (Int64.toInt32 (y1 + y0))) fun S3 v4 =>
  (nzL 10).bind fun _ =>
  k46 S3 x1 (x5 / 10)
def f_writeNumber_46 (K : Ky) : Nat → Sg → Int64 → Int64 → Option (Sg × Unit)
  | 0, _, _, _ => none
  | n9 + 1, S, x1, x5 =>
    if (lg_cmp x5 0) ≤ 0 then (some (S, ())) else ((nzL x5).bind fun _ =>
    (nzL 10).bind fun _ =>
    if 0 ≤ (lg_cmp ((x1 / x5) - (x1 / x5) / 10 * 10) 0) then (f_writeNumber_82 K ((f_writeNumber_46 K n9)) S x1 x5 ((x1 / x5) - (x1 / x5) / 10 * 10) 48) else (f_writeNumber_82 K ((f_writeNumber_46 K n9)) S x1 x5 (-((x1 / x5) - (x1 / x5) / 10 * 10)) 48))
def f_writeNumber_14 (K : Ky) : Nat → Sg → Int64 → Int64 → Option (Sg × Unit)
  | 0, _, _, _ => none
  | n9 + 1, S, x1, x3 =>
    (nzL x3).bind fun _ =>
    if 0 < (lg_cmp (x1 / x3) 9) then (f_writeNumber_34 K ((f_writeNumber_14 K n9)) S x1 x3) else ((nzL x3).bind fun _ =>
    if 0 ≤ (lg_cmp (x1 / x3) (-9)) then (f_writeNumber_46 K bigN S x1 x3) else (f_writeNumber_34 K ((f_writeNumber_14 K n9)) S x1 x3))
def f_writeNumber_12 (K : Ky) (S : Sg) (x1 : Int64) : Option (Sg × Unit) :=
  f_writeNumber_14 K bigN S x1 1
def f_writeNumber (K : Ky) (S0 : Sg) (x1 : Int64) : Option (Sg × Unit) :=
  if 0 ≤ (lg_cmp x1 0) then (f_writeNumber_12 K S0 x1) else (bnd (f_write K S0 45) fun S1 v2 =>
  f_writeNumber_12 K S1 x1)
def f_dropValue_181 (K : Ky) (S : Sg) : Option (Sg × Unit) :=
  some (S, ())
def f_dropValue (K : Ky) (S0 : Sg) (x1 : Option Nat) (x2 : Int64) : Option (Sg × Unit) :=
  (oI S0 20 x1 0).bind fun v1 =>
  if v1 = 2 then (bnd (f_write K S0 100) fun S39 v40 =>
  bnd (f_writeNumber K S39 x2) fun S41 v42 =>
  bnd (f_write K S41 10) fun S43 v44 =>
  f_dropValue_181 K S43) else ((oI S0 20 x1 0).bind fun v2 =>
  if v2 = 3 then ((oI S0 20 x1 1).bind fun v31 =>
  (rQ S0 11 v31).bind fun v32 =>
  (oR S0 16 v32 10).bind fun v33 =>
  (oI S0 20 x1 1).bind fun v34 =>
  (rQ S0 11 v34).bind fun v35 =>
  (oI S0 16 v35 3).bind fun v36 =>
  bnd (f_laterParts K S0 v33 v36 (Int64.toInt32 x2) 1) fun S37 v38 =>
  f_dropValue_181 K S37) else ((oI S0 20 x1 0).bind fun v3 =>
  if v3 = 4 then ((oI S0 20 x1 1).bind fun v17 =>
  (rQ S0 11 v17).bind fun v18 =>
  (oR S0 16 v18 11).bind fun v19 =>
  bnd (f_variantOf_ K S0 (Int64.toInt32 x2)) fun S20 v21 =>
  (aQ K 13 S20 v19 v21).bind fun v22 =>
  bnd (f_later K S20 3 none (Int64.toInt32 x2)) fun S23 v24 =>
  (oR S23 17 v22 2).bind fun v25 =>
  (oI S23 17 v22 0).bind fun v26 =>
  bnd (f_kidOf K S23 (Int64.toInt32 x2)) fun S27 v28 =>
  bnd (f_laterParts K S27 v25 v26 v28 1) fun S29 v30 =>
  f_dropValue_181 K S29) else ((oI S0 20 x1 0).bind fun v4 =>
  if v4 = 5 then (bnd (f_later K S0 2 none (Int64.toInt32 x2)) fun S5 v6 =>
  (oR S5 20 x1 3).bind fun v7 =>
  bnd (f_kidOf K S5 (Int64.toInt32 x2)) fun S8 v9 =>
  bnd (f_later K S8 1 v7 v9) fun S10 v11 =>
  (oR S10 20 x1 3).bind fun v12 =>
  bnd (f_kidOf K S10 (Int64.toInt32 x2)) fun S13 v14 =>
  bnd (f_later K S13 0 v12 v14) fun S15 v16 =>
  f_dropValue_181 K S15) else (f_dropValue_181 K S0))))
def f_dropPlace_68 (K : Ky) (S : Sg) : Option (Sg × Unit) :=
  some (S, ())
def f_dropPlace (K : Ky) (S0 : Sg) (x1 : Option Nat) (x2 : Int32) : Option (Sg × Unit) :=
  (oI S0 20 x1 0).bind fun v1 =>
  if v1 = 3 then ((oI S0 20 x1 1).bind fun v7 =>
  (rQ S0 11 v7).bind fun v8 =>
  (oR S0 16 v8 10).bind fun v9 =>
  (oI S0 20 x1 1).bind fun v10 =>
  (rQ S0 11 v10).bind fun v11 =>
  (oI S0 16 v11 3).bind fun v12 =>
  bnd (f_laterParts K S0 v9 v12 x2 0) fun S13 v14 =>
  f_dropPlace_68 K S13) else ((rI S0 62 x2).bind fun v2 =>
  if v2 = 0 then (f_dropPlace_68 K S0) else ((wZ S0 62 x2 0).bind fun S3 =>
  (rJ S3 61 x2).bind fun v4 =>
  bnd (f_dropValue K S3 x1 v4) fun S5 v6 =>
  f_dropPlace_68 K S5))
