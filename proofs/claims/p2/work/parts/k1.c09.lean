def f_givesHolder_20 (K : Ky) (S : Sg) : Option (Sg × Unit) :=
  some (S, ())
def f_givesHolder (K : Ky) (S0 : Sg) (x1 : Int32) (x2 : Option Nat) : Option (Sg × Unit) :=
  bnd (f_refers K S0 x2) fun S1 v2 =>
  if v2 = 0 then (f_givesHolder_20 K S1) else (bnd (f_temporary K S1 (Zi S1 48)) fun S3 v4 =>
  (wRI S3 34 x1 v4).bind fun S5 =>
  f_givesHolder_20 K S5)
def f_read_78 (K : Ky) (S : Sg) (x2 : Option Nat) (x3 : Int32) (x4 : Option Nat) (y0 : Int32) (y1 : Int32) : Option (Sg × Unit) :=
  (wRI S 33 y1 y0).bind fun S15 =>
  bnd (f_through K S15 x3 x2) fun S16 v17 =>
  bnd (f_givesHolder K S16 x3 x4) fun S18 v19 =>
  (pM S18 48 ((Zi S18 48) + 1)).bind fun S20 =>
  some (S20, ())
def f_read_49 (K : Ky) (S : Sg) (x2 : Option Nat) (x3 : Int32) (x4 : Option Nat) (y0 : Int32) : Option (Sg × Unit) :=
  bnd (f_copied K S x4) fun S13 v14 =>
  if v14 = 0 then (if y0 = 0 then (f_read_78 K S13 x2 x3 x4 4 x3) else (f_read_78 K S13 x2 x3 x4 5 x3)) else (f_read_78 K S13 x2 x3 x4 1 x3)
def f_read_48 (K : Ky) (S : Sg) (x2 : Option Nat) (x3 : Int32) (x4 : Option Nat) : Option (Sg × Unit) :=
  f_read_49 K S x2 x3 x4 0
def f_read (K : Ky) (S0 : Sg) (x1 : Option Nat) : Option (Sg × Unit) :=
  bnd (f_pathOf K S0 x1) fun S1 v2 =>
  (oI S1 15 x1 1).bind fun v3 =>
  bnd (f_point K S1 2 v3) fun S4 v5 =>
  (oBk S4 18 v2).bind fun b8 =>
  bnd (f_X18_type K S4 b8) fun S6 v7 =>
  (oI S6 18 v2 1).bind fun v9 =>
  if v9 ≤ 0 then (f_read_48 K S6 v2 v5 v7) else ((oR S6 18 v2 2).bind fun v10 =>
  (oI S6 18 v2 1).bind fun v11 =>
  (aI K S6 v10 (v11 - 1)).bind fun v12 =>
  if v12 = (-1) then (f_read_49 K S6 v2 v5 v7 1) else (f_read_48 K S6 v2 v5 v7))
def f_newLoan (K : Ky) (S0 : Sg) (x1 : Option Nat) (x2 : Int32) : Option (Sg × Int32) :=
  (wQ S0 18 43 (Zi S0 47) x1).bind fun S1 =>
  (wZ S1 44 (Zi S1 47) x2).bind fun S2 =>
  (wRI S2 45 (Zi S2 47) (-1)).bind fun S3 =>
  (pM S3 47 ((Zi S3 47) + 1)).bind fun S4 =>
  some (S4, (Zi S4 47) - 1)
def f_lend_65 (K : Ky) (S : Sg) (x3 : Int32) (y0 : Int32) (y1 : Option Nat) (y3 : Int32) : Option (Sg × Unit) :=
  bnd (f_newLoan K S y1 y0) fun S13 v14 =>
  (wRI S13 35 y3 v14).bind fun S15 =>
  bnd (f_temporary K S15 (Zi S15 48)) fun S16 v17 =>
  (wRI S16 34 x3 v17).bind fun S18 =>
  (pM S18 48 ((Zi S18 48) + 1)).bind fun S19 =>
  some (S19, ())
def f_lend_39 (K : Ky) (S : Sg) (x1 : Option Nat) (x2 : Option Nat) (x3 : Int32) (y0 : Int32) (y1 : Int32) : Option (Sg × Unit) :=
  (wRI S 33 y1 y0).bind fun S9 =>
  bnd (f_through K S9 x3 x2) fun S10 v11 =>
  (oI S10 15 x1 7).bind fun v12 =>
  if v12 = 0 then (f_lend_65 K S10 x3 1 x2 x3) else (f_lend_65 K S10 x3 0 x2 x3)
def f_lend (K : Ky) (S0 : Sg) (x1 : Option Nat) : Option (Sg × Unit) :=
  (oR S0 15 x1 8).bind fun v1 =>
  bnd (f_pathOf K S0 v1) fun S2 v3 =>
  (oR S2 15 x1 8).bind fun v4 =>
  (oI S2 15 v4 1).bind fun v5 =>
  bnd (f_point K S2 3 v5) fun S6 v7 =>
  (oI S6 15 x1 7).bind fun v8 =>
  if v8 = 0 then (f_lend_39 K S6 x1 v3 v7 2 v7) else (f_lend_39 K S6 x1 v3 v7 3 v7)
def f_isHeld_42 (K : Ky) (S : Sg) (y0 : Int32) : Option (Sg × Int32) :=
  (zB y0).bind fun _ => some (S, y0)
def f_isHeld_37 (K : Ky) (S : Sg) : Option (Sg × Int32) :=
  f_isHeld_42 K S 1
def f_isHeld_41 (K : Ky) (S : Sg) : Option (Sg × Int32) :=
  f_isHeld_42 K S 0
def f_isHeld (K : Ky) (S0 : Sg) (x1 : Option Nat) (x2 : Int32) (x3 : Int32) : Option (Sg × Int32) :=
  (oR S0 15 x1 9).bind fun v1 =>
  (aQ K 9 S0 v1 x2).bind fun v2 =>
  (oR S0 15 v2 12).bind fun v3 =>
  bnd (f_refers K S0 v3) fun S4 v5 =>
  if v5 = 0 then (f_isHeld_41 K S4) else (if x3 < 0 then (f_isHeld_37 K S4) else ((oI S4 15 x1 4).bind fun v6 =>
  (rQ S4 11 v6).bind fun v7 =>
  (oR S4 16 v7 13).bind fun v8 =>
  (aI K S4 v8 x2).bind fun v9 =>
  if v9 = x3 then (f_isHeld_37 K S4) else (f_isHeld_41 K S4)))
def f_held_29 (K : Ky) (k6 : Sg → Option Nat → Int32 → Int32 → Int32 → Int32 → Option (Sg × Option Nat)) (S : Sg) (x1 : Option Nat) (x2 : Int32) (x3 : Int32) (x4 : Int32) (x5 : Int32) : Option (Sg × Option Nat) :=
  k6 S x1 x2 x3 x4 (x5 + 1)
def f_held_89 (K : Ky) (k54 : Sg → Option Nat → Int32 → Int32 → Int32 → Option Nat → Int32 → Option (Sg × Option Nat)) (S : Sg) (x1 : Option Nat) (x2 : Int32) (x3 : Int32) (x4 : Int32) (x5 : Option Nat) (x6 : Int32) : Option (Sg × Option Nat) :=
  k54 S x1 x2 x3 x4 x5 (x6 + 1)
def f_held_54 (K : Ky) : Nat → Sg → Option Nat → Int32 → Int32 → Int32 → Option Nat → Int32 → Option (Sg × Option Nat)
  | 0, _, _, _, _, _, _, _ => none
  | n9 + 1, S, x1, x2, x3, x4, x5, x6 =>
    (oI S 15 x1 11).bind fun v6 =>
    if v6 ≤ x6 then (some (S, x5)) else (bnd (f_isHeld K S x1 x6 x3) fun S7 v8 =>
    if v8 = 0 then (f_held_89 K ((f_held_54 K n9)) S7 x1 x2 x3 x4 x5 x6) else (bnd (f_temporary K S7 (x2 + x6)) fun S9 v10 =>
    (bI K S9 x5 x4 v10).bind fun S11 =>
    f_held_89 K ((f_held_54 K n9)) S11 x1 x2 x3 (x4 + 1) x5 x6))
def f_held_6 (K : Ky) : Nat → Sg → Option Nat → Int32 → Int32 → Int32 → Int32 → Option (Sg × Option Nat)
  | 0, _, _, _, _, _, _ => none
  | n9 + 1, S, x1, x2, x3, x4, x5 =>
    (oI S 15 x1 11).bind fun v1 =>
    if v1 ≤ x5 then (if x4 = 0 then (some (S, none)) else (bnd (nA K S x4) fun S2 a3 =>
    f_held_54 K bigN S2 x1 x2 x3 0 (some a3) 0)) else (bnd (f_isHeld K S x1 x5 x3) fun S4 v5 =>
    if v5 = 0 then (f_held_29 K ((f_held_6 K n9)) S4 x1 x2 x3 x4 x5) else (f_held_29 K ((f_held_6 K n9)) S4 x1 x2 x3 (x4 + 1) x5))
def f_held (K : Ky) (S0 : Sg) (x1 : Option Nat) (x2 : Int32) (x3 : Int32) : Option (Sg × Option Nat) :=
  f_held_6 K bigN S0 x1 x2 x3 0 0
def f_order_9 (K : Ky) : Nat → Sg → Option Nat → Option Nat → Int32 → Option (Sg × Option Nat)
  | 0, _, _, _, _ => none
  | n9 + 1, S, x1, x2, x3 =>
    (oI S 15 x1 11).bind fun v4 =>
    if v4 ≤ x3 then (some (S, x2)) else ((oI S 15 x1 4).bind fun v5 =>
    (rQ S 11 v5).bind fun v6 =>
    (oR S 15 x1 10).bind fun v7 =>
    (aI K S v7 x3).bind fun v8 =>
    bnd (f_fieldOf K S v6 v8) fun S9 v10 =>
    (bI K S9 x2 x3 v10).bind fun S11 =>
    f_order_9 K n9 S11 x1 x2 (x3 + 1))
def f_order (K : Ky) (S0 : Sg) (x1 : Option Nat) : Option (Sg × Option Nat) :=
  (oI S0 15 x1 11).bind fun v1 =>
  bnd (nA K S0 v1) fun S2 a3 =>
  f_order_9 K bigN S2 x1 (some a3) 0
def f_giveList_220 (K : Ky) (V : Sg → Option Nat → Option (Sg × Unit)) (S : Sg) : Option (Sg × Unit) :=
  some (S, ())
def f_giveList_168 (K : Ky) (V : Sg → Option Nat → Option (Sg × Unit)) (S : Sg) (x1 : Option Nat) (x3 : Int32) : Option (Sg × Unit) :=
  (oI S 15 x1 0).bind fun v32 =>
  if v32 = 3 then ((oR S 15 x1 12).bind fun v34 =>
  bnd (f_givesHolder K S x3 v34) fun S35 v36 =>
  (oR S35 15 x1 12).bind fun v37 =>
  (oI S35 20 v37 0).bind fun v38 =>
  if v38 = 8 then (f_giveList_220 K V S35) else ((pM S35 48 ((Zi S35 48) + 1)).bind fun S39 =>
  f_giveList_220 K V S39)) else ((pM S 48 ((Zi S 48) + 1)).bind fun S33 =>
  f_giveList_220 K V S33)
def f_giveList_149 (K : Ky) (V : Sg → Option Nat → Option (Sg × Unit)) (S : Sg) (x1 : Option Nat) (x3 : Int32) : Option (Sg × Unit) :=
  (oI S 15 x1 0).bind fun v28 =>
  if v28 = 5 then (bnd (f_order K S x1) fun S29 v30 =>
  (wA K S29 42 x3 v30).bind fun S31 =>
  f_giveList_168 K V S31 x1 x3) else (f_giveList_168 K V S x1 x3)
def f_giveList_60 (K : Ky) (V : Sg → Option Nat → Option (Sg × Unit)) (S : Sg) (x1 : Option Nat) (x2 : Int32) (y0 : Int32) : Option (Sg × Unit) :=
  (oI S 15 x1 1).bind fun v8 =>
  bnd (f_point K S y0 v8) fun S9 v10 =>
  (oI S9 15 x1 4).bind fun v11 =>
  (wRI S9 28 v10 v11).bind fun S12 =>
  (oI S12 15 x1 5).bind fun v13 =>
  (wRI S12 29 v10 v13).bind fun S14 =>
  (oI S14 15 x1 11).bind fun v15 =>
  (wJ S14 31 v10 (Int32.toInt64 v15)).bind fun S16 =>
  (pM S16 48 x2).bind fun S17 =>
  (oI S17 15 x1 0).bind fun v18 =>
  if v18 = 3 then (bnd (f_held K S17 x1 x2 (-1)) fun S19 v20 =>
  (wA K S19 37 v10 v20).bind fun S21 =>
  (oI S21 15 x1 4).bind fun v22 =>
  (rQ S21 11 v22).bind fun v23 =>
  (oI S21 16 v23 7).bind fun v24 =>
  bnd (f_held K S21 x1 x2 v24) fun S25 v26 =>
  (wA K S25 36 v10 v26).bind fun S27 =>
  f_giveList_149 K V S27 x1 v10) else (f_giveList_149 K V S17 x1 v10)
def f_giveList_7 (K : Ky) (V : Sg → Option Nat → Option (Sg × Unit)) : Nat → Sg → Option Nat → Int32 → Int32 → Option (Sg × Unit)
  | 0, _, _, _, _ => none
  | n9 + 1, S, x1, x2, x3 =>
    (oI S 15 x1 11).bind fun v1 =>
    if v1 ≤ x3 then ((oI S 15 x1 0).bind fun v2 =>
    if v2 = 3 then (f_giveList_60 K V S x1 x2 10) else ((oI S 15 x1 0).bind fun v3 =>
    if v3 = 5 then (f_giveList_60 K V S x1 x2 8) else (f_giveList_60 K V S x1 x2 9))) else ((oR S 15 x1 9).bind fun v4 =>
    (aQ K 9 S v4 x3).bind fun v5 =>
    bnd (V S v5) fun S6 v7 =>
    f_giveList_7 K V n9 S6 x1 x2 (x3 + 1))
def f_giveList (K : Ky) (V : Sg → Option Nat → Option (Sg × Unit)) (S0 : Sg) (x1 : Option Nat) : Option (Sg × Unit) :=
  f_giveList_7 K V bigN S0 x1 (Zi S0 48) 0
def f_giveChain_140 (K : Ky) (V : Sg → Option Nat → Option (Sg × Unit)) (k17 : Sg → Option Nat → Option Nat → Int32 → Option (Sg × Unit)) (S : Sg) (x1 : Option Nat) (x2 : Option Nat) (x3 : Int32) : Option (Sg × Unit) :=
  k17 S x1 x2 (x3 + 1)
def f_giveChain_69 (K : Ky) (V : Sg → Option Nat → Option (Sg × Unit)) (k17 : Sg → Option Nat → Option Nat → Int32 → Option (Sg × Unit)) (S : Sg) (x1 : Option Nat) (x2 : Option Nat) (x3 : Int32) (y0 : Int32) (y2 : Int32) (y3 : Option Nat) : Option (Sg × Unit) :=
  (oR S 15 x1 10).bind fun v21 =>
  (aI K S v21 x3).bind fun v22 =>
  bnd (f_point K S y0 v22) fun S23 v24 =>
  (bI K S23 y3 y2 v24).bind fun S25 =>
  (pM S25 48 ((Zi S25 48) - 1)).bind fun S26 =>
  (oR S26 15 x1 9).bind fun v27 =>
  (aQ K 9 S26 v27 x3).bind fun v28 =>
  bnd (V S26 v28) fun S29 v30 =>
  f_giveChain_140 K V k17 S29 x1 x2 x3
def f_giveChain_52 (K : Ky) (V : Sg → Option Nat → Option (Sg × Unit)) (k17 : Sg → Option Nat → Option Nat → Int32 → Option (Sg × Unit)) (S : Sg) (x1 : Option Nat) (x2 : Option Nat) (x3 : Int32) (x4 : Int32) : Option (Sg × Unit) :=
  if x4 = 51 then (f_giveChain_69 K V k17 S x1 x2 x3 18 x3 x2) else (f_giveChain_69 K V k17 S x1 x2 x3 19 x3 x2)
def f_giveChain_216 (K : Ky) (V : Sg → Option Nat → Option (Sg × Unit)) (k148 : Sg → Option Nat → Option Nat → Int32 → Option (Sg × Unit)) (S : Sg) (x1 : Option Nat) (x2 : Option Nat) (x3 : Int32) : Option (Sg × Unit) :=
  k148 S x1 x2 (x3 + 1)
def f_giveChain_215 (K : Ky) (V : Sg → Option Nat → Option (Sg × Unit)) (k148 : Sg → Option Nat → Option Nat → Int32 → Option (Sg × Unit)) (S : Sg) (x1 : Option Nat) (x2 : Option Nat) (x3 : Int32) (y0 : Int32) (y1 : Int32) : Option (Sg × Unit) :=
  (wRI S 30 y1 y0).bind fun S41 =>
  f_giveChain_216 K V k148 S41 x1 x2 x3
def f_giveChain_182 (K : Ky) (V : Sg → Option Nat → Option (Sg × Unit)) (k148 : Sg → Option Nat → Option Nat → Int32 → Option (Sg × Unit)) (S : Sg) (x1 : Option Nat) (x2 : Option Nat) (x3 : Int32) : Option (Sg × Unit) :=
  (aI K S x2 x3).bind fun v36 =>
  (aI K S x2 x3).bind fun v37 =>
  (rI S 30 v37).bind fun v38 =>
  if 0 ≤ v38 then ((aI K S x2 x3).bind fun v39 =>
  (rI S 30 v39).bind fun v40 =>
  f_giveChain_215 K V k148 S x1 x2 x3 v40 v36) else (f_giveChain_215 K V k148 S x1 x2 x3 (Zi S 26) v36)
def f_giveChain_148 (K : Ky) (V : Sg → Option Nat → Option (Sg × Unit)) : Nat → Sg → Option Nat → Option Nat → Int32 → Option (Sg × Unit)
  | 0, _, _, _, _ => none
  | n9 + 1, S, x1, x2, x3 =>
    (oI S 15 x1 11).bind fun v31 =>
    if v31 ≤ x3 then (some (S, ())) else ((aI K S x2 x3).bind fun v32 =>
    (rI S 27 v32).bind fun v33 =>
    if v33 = 18 then (f_giveChain_182 K V ((f_giveChain_148 K V n9)) S x1 x2 x3) else ((aI K S x2 x3).bind fun v34 =>
    (rI S 27 v34).bind fun v35 =>
    if v35 = 19 then (f_giveChain_182 K V ((f_giveChain_148 K V n9)) S x1 x2 x3) else (f_giveChain_216 K V ((f_giveChain_148 K V n9)) S x1 x2 x3)))
def f_giveChain_17 (K : Ky) (V : Sg → Option Nat → Option (Sg × Unit)) : Nat → Sg → Option Nat → Option Nat → Int32 → Option (Sg × Unit)
  | 0, _, _, _, _ => none
  | n9 + 1, S, x1, x2, x3 =>
    (oI S 15 x1 11).bind fun v7 =>
    if v7 ≤ x3 then (f_giveChain_148 K V bigN S x1 x2 0) else ((oR S 15 x1 10).bind fun v8 =>
    (aI K S v8 x3).bind fun v9 =>
    (rI S 5 v9).bind fun v10 =>
    if v10 = 51 then (f_giveChain_52 K V ((f_giveChain_17 K V n9)) S x1 x2 x3 v10) else (if v10 = 52 then (f_giveChain_52 K V ((f_giveChain_17 K V n9)) S x1 x2 x3 v10) else ((oR S 15 x1 9).bind fun v11 =>
    (aQ K 9 S v11 x3).bind fun v12 =>
    bnd (V S v12) fun S13 v14 =>
    (oR S13 15 x1 10).bind fun v15 =>
    (aI K S13 v15 x3).bind fun v16 =>
    bnd (f_point K S13 4 v16) fun S17 v18 =>
    (wRI S17 28 v18 v10).bind fun S19 =>
    (pM S19 48 ((Zi S19 48) - 1)).bind fun S20 =>
    f_giveChain_140 K V ((f_giveChain_17 K V n9)) S20 x1 x2 x3)))
def f_giveChain (K : Ky) (V : Sg → Option Nat → Option (Sg × Unit)) (S0 : Sg) (x1 : Option Nat) : Option (Sg × Unit) :=
  (oR S0 15 x1 8).bind fun v1 =>
  bnd (V S0 v1) fun S2 v3 =>
  (oI S2 15 x1 11).bind fun v4 =>
  bnd (nA K S2 v4) fun S5 a6 =>
  f_giveChain_17 K V bigN S5 x1 (some a6) 0
def f_give_251 (K : Ky) (V : Sg → Option Nat → Option (Sg × Unit)) (S : Sg) : Option (Sg × Unit) :=
  some (S, ())
def f_give_96 (K : Ky) (V : Sg → Option Nat → Option (Sg × Unit)) (S : Sg) (x1 : Option Nat) : Option (Sg × Unit) :=
  (oI S 15 x1 1).bind fun v35 =>
  bnd (f_point K S 1 v35) fun S36 v37 =>
  (oJ S36 15 x1 6).bind fun v38 =>
  (wJ S36 31 v37 v38).bind fun S39 =>
  (pM S39 48 ((Zi S39 48) + 1)).bind fun S40 =>
  f_give_251 K V S40
def f_give_151 (K : Ky) (V : Sg → Option Nat → Option (Sg × Unit)) (S : Sg) (x1 : Option Nat) : Option (Sg × Unit) :=
  (oR S 15 x1 8).bind fun v30 =>
  bnd (V S v30) fun S31 v32 =>
  f_give_251 K V S31
def f_give_186 (K : Ky) (V : Sg → Option Nat → Option (Sg × Unit)) (S : Sg) (x1 : Option Nat) (y0 : Int32) : Option (Sg × Unit) :=
  (oI S 15 x1 1).bind fun v27 =>
  bnd (f_point K S y0 v27) fun S28 v29 =>
  f_give_251 K V S28
def f_give_162 (K : Ky) (V : Sg → Option Nat → Option (Sg × Unit)) (S : Sg) (x1 : Option Nat) : Option (Sg × Unit) :=
  (oR S 15 x1 8).bind fun v23 =>
  bnd (V S v23) fun S24 v25 =>
  (oI S24 15 x1 0).bind fun v26 =>
  if v26 = 9 then (f_give_186 K V S24 x1 5) else (f_give_186 K V S24 x1 6)
def f_give_246 (K : Ky) (V : Sg → Option Nat → Option (Sg × Unit)) (S : Sg) (x1 : Option Nat) : Option (Sg × Unit) :=
  bnd (f_giveList K V S x1) fun S33 v34 =>
  f_give_251 K V S33
def f_give (K : Ky) : Nat → Sg → Option Nat → Option (Sg × Unit)
  | 0, _, _ => none
  | d + 1, S0, x1 =>
    bnd (f_isPlace K S0 x1) fun S1 v2 =>
    if v2 = 0 then ((oI S1 15 x1 0).bind fun v3 =>
    if v3 = 0 then (f_give_96 K (f_give K d) S1 x1) else (if v3 = 1 then (f_give_96 K (f_give K d) S1 x1) else (if v3 = 2 then (f_give_246 K (f_give K d) S1 x1) else (if v3 = 3 then (f_give_246 K (f_give K d) S1 x1) else (if v3 = 4 then (f_give_151 K (f_give K d) S1 x1) else (if v3 = 5 then (f_give_246 K (f_give K d) S1 x1) else (if v3 = 6 then (f_give_246 K (f_give K d) S1 x1) else (if v3 = 7 then (f_give_151 K (f_give K d) S1 x1) else (if v3 = 8 then (bnd (f_giveChain K (f_give K d) S1 x1) fun S4 v5 =>
    f_give_251 K (f_give K d) S4) else (if v3 = 9 then (f_give_162 K (f_give K d) S1 x1) else (if v3 = 10 then (f_give_162 K (f_give K d) S1 x1) else (if v3 = 11 then (f_give_246 K (f_give K d) S1 x1) else (if v3 = 12 then (bnd (f_lend K S1 x1) fun S6 v7 =>
    f_give_251 K (f_give K d) S6) else (if v3 = 13 then ((oR S1 15 x1 8).bind fun v8 =>
    bnd ((f_give K d) S1 v8) fun S9 v10 =>
    (oI S9 15 x1 1).bind fun v11 =>
    bnd (f_point K S9 7 v11) fun S12 v13 =>
    (oR S12 15 x1 8).bind fun v14 =>
    (oR S12 15 v14 12).bind fun v15 =>
    (wQ S12 20 39 v13 v15).bind fun S16 =>
    f_give_251 K (f_give K d) S16) else (if v3 = 14 then (f_give_246 K (f_give K d) S1 x1) else (if v3 = 15 then ((oI S1 15 x1 1).bind fun v17 =>
    bnd (f_point K S1 27 v17) fun S18 v19 =>
    (pM S18 48 ((Zi S18 48) + 1)).bind fun S20 =>
    f_give_251 K (f_give K d) S20) else (f_give_246 K (f_give K d) S1 x1))))))))))))))))) else (bnd (f_read K S1 x1) fun S21 v22 =>
    some (S21, ()))
def f_comesAlive (K : Ky) (S0 : Sg) (x1 : Option Nat) : Option (Sg × Unit) :=
  (wQ S0 21 49 (Zi S0 50) x1).bind fun S1 =>
  (pM S1 50 ((Zi S1 50) + 1)).bind fun S2 =>
  some (S2, ())
def f_goOut_7 (K : Ky) : Nat → Sg → Int32 → Int32 → Int32 → Option (Sg × Unit)
  | 0, _, _, _, _ => none
  | n9 + 1, S, x1, x2, x3 =>
    if x3 < x1 then (some (S, ())) else (bnd (f_point K S 24 x2) fun S1 v2 =>
    (rQ S1 49 x3).bind fun v3 =>
    (wQ S1 21 40 v2 v3).bind fun S4 =>
    (wRI S4 33 v2 7).bind fun S5 =>
    (rQ S5 49 x3).bind fun v6 =>
    (oI S5 21 v6 0).bind fun v7 =>
    (wRI S5 34 v2 v7).bind fun S8 =>
    (rQ S8 49 x3).bind fun v9 =>
    bnd (f_wholeOf K S8 v9) fun S10 v11 =>
    (wQ S10 18 38 v2 v11).bind fun S12 =>
    f_goOut_7 K n9 S12 x1 x2 (x3 + (-1)))
def f_goOut (K : Ky) (S0 : Sg) (x1 : Int32) (x2 : Int32) : Option (Sg × Unit) :=
  f_goOut_7 K bigN S0 x1 x2 ((Zi S0 50) - 1)
