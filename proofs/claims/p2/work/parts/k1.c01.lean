def f_fields_65 (K : Ky) (S : Sg) (x1 : Option Nat) (y0 : Int32) (y1 : Option Nat) : Option (Sg × Unit) :=
  bnd (f_written K 20 S) fun S15 v16 =>
  (bQ K 12 22 S15 y1 y0 v16).bind fun S17 =>
  (oI S17 16 x1 3).bind fun v18 =>
  (pV S17 16 x1 3 (.int (v18 + 1))).bind fun S19 =>
  some (S19, ())
def f_fields_32 (K : Ky) (S : Sg) (x1 : Option Nat) (y0 : Int32) (y1 : Option Nat) : Option (Sg × Unit) :=
  bnd (f_name K S) fun S7 v8 =>
  (bI K S7 y1 y0 v8).bind fun S9 =>
  bnd (f_take K S9 58) fun S10 v11 =>
  (oR S10 16 x1 9).bind fun v12 =>
  (oI S10 16 x1 3).bind fun v13 =>
  if 13 ≤ v13 then (f_fields_65 K S10 x1 12 v12) else ((oI S10 16 x1 3).bind fun v14 =>
  f_fields_65 K S10 x1 v14 v12)
def f_fields (K : Ky) (S0 : Sg) (x1 : Option Nat) : Option (Sg × Unit) :=
  (oI S0 16 x1 3).bind fun v1 =>
  bnd (f_limit K S0 v1 12) fun S2 v3 =>
  (oR S2 16 x1 8).bind fun v4 =>
  (oI S2 16 x1 3).bind fun v5 =>
  if 13 ≤ v5 then (f_fields_32 K S2 x1 12 v4) else ((oI S2 16 x1 3).bind fun v6 =>
  f_fields_32 K S2 x1 v6 v4)
def f_variant_227 (K : Ky) (k109 : Sg → Option Nat → Int32 → Option (Sg × Unit)) (S : Sg) (x2 : Option Nat) : Option (Sg × Unit) :=
  (oI S 17 x2 0).bind fun v52 =>
  (pV S 17 x2 0 (.int (v52 + 1))).bind fun S53 =>
  bnd (f_takes K S53 57) fun S54 v55 =>
  k109 S54 x2 v55
def f_variant_203 (K : Ky) (k109 : Sg → Option Nat → Int32 → Option (Sg × Unit)) (S : Sg) (x2 : Option Nat) : Option (Sg × Unit) :=
  bnd (f_written K 20 S) fun S45 v46 =>
  bnd (f_ok K S45) fun S47 v48 =>
  if v48 = 0 then (f_variant_227 K k109 S47 x2) else ((oR S47 17 x2 1).bind fun v49 =>
  (oI S47 17 x2 0).bind fun v50 =>
  (bQ K 12 22 S47 v49 v50 v46).bind fun S51 =>
  f_variant_227 K k109 S51 x2)
def f_variant_178 (K : Ky) (k109 : Sg → Option Nat → Int32 → Option (Sg × Unit)) (S : Sg) (x2 : Option Nat) (y0 : Int32) : Option (Sg × Unit) :=
  if y0 = 0 then (f_variant_203 K k109 S x2) else ((oI S 17 x2 0).bind fun v42 =>
  if v42 = 12 then (bnd (f_fail K S 2 (Zi S 10)) fun S43 v44 =>
  f_variant_203 K k109 S43 x2) else (f_variant_203 K k109 S x2))
def f_variant_173 (K : Ky) (k109 : Sg → Option Nat → Int32 → Option (Sg × Unit)) (S : Sg) (x2 : Option Nat) : Option (Sg × Unit) :=
  f_variant_178 K k109 S x2 1
def f_variant_247 (K : Ky) (S : Sg) : Option (Sg × Unit) :=
  bnd (f_take K S 62) fun S56 v57 =>
  some (S56, ())
def f_variant_109 (K : Ky) : Nat → Sg → Option Nat → Int32 → Option (Sg × Unit)
  | 0, _, _, _ => none
  | n9 + 1, S, x2, x3 =>
    bnd (f_ok K S) fun S28 v29 =>
    if v29 = 0 then (f_variant_247 K S28) else (if x3 = 0 then (f_variant_247 K S28) else (bnd (f_is K S28 26) fun S30 v31 =>
    if v31 = 0 then (bnd (f_is K S30 27) fun S32 v33 =>
    if v33 = 0 then (bnd (f_is K S32 25) fun S34 v35 =>
    if v35 = 0 then (bnd (f_is K S34 2) fun S36 v37 =>
    if v37 = 0 then (bnd (f_is K S36 23) fun S38 v39 =>
    if v39 = 0 then (bnd (f_is K S38 55) fun S40 v41 =>
    if v41 = 0 then (f_variant_178 K ((f_variant_109 K n9)) S40 x2 0) else (f_variant_173 K ((f_variant_109 K n9)) S40 x2)) else (f_variant_173 K ((f_variant_109 K n9)) S38 x2)) else (f_variant_173 K ((f_variant_109 K n9)) S36 x2)) else (f_variant_173 K ((f_variant_109 K n9)) S34 x2)) else (f_variant_173 K ((f_variant_109 K n9)) S32 x2)) else (f_variant_173 K ((f_variant_109 K n9)) S30 x2)))
def f_variant_67 (K : Ky) (S : Sg) (x1 : Option Nat) (x2 : Option Nat) (y0 : Int32) (y1 : Option Nat) : Option (Sg × Unit) :=
  (bQ K 13 17 S y1 y0 x2).bind fun S17 =>
  (oI S17 16 x1 3).bind fun v18 =>
  (pV S17 16 x1 3 (.int (v18 + 1))).bind fun S19 =>
  bnd (f_takes K S19 61) fun S20 v21 =>
  if v21 = 0 then (some (S20, ())) else (bnd (nQ K 12 S20 12) fun S22 a23 =>
  (pV S22 17 x2 1 (va_rf (some a23))).bind fun S24 =>
  bnd (nQ K 4 S24 12) fun S25 a26 =>
  (pV S25 17 x2 2 (va_rf (some a26))).bind fun S27 =>
  f_variant_109 K bigN S27 x2 1)
def f_variant_40 (K : Ky) (S : Sg) (x1 : Option Nat) (x2 : Option Nat) (y0 : Int32) (y1 : Option Nat) : Option (Sg × Unit) :=
  bnd (f_name K S) fun S11 v12 =>
  (bI K S11 y1 y0 v12).bind fun S13 =>
  (oR S13 16 x1 11).bind fun v14 =>
  (oI S13 16 x1 3).bind fun v15 =>
  if 13 ≤ v15 then (f_variant_67 K S13 x1 x2 12 v14) else ((oI S13 16 x1 3).bind fun v16 =>
  f_variant_67 K S13 x1 x2 v16 v14)
def f_variant (K : Ky) (S0 : Sg) (x1 : Option Nat) : Option (Sg × Unit) :=
  (oI S0 16 x1 3).bind fun v1 =>
  bnd (f_limit K S0 v1 12) fun S2 v3 =>
  bnd (nO K S2 17 3 [.int 0, .null, .null]) fun S4 a5 =>
  (oR S4 16 x1 8).bind fun v8 =>
  (oI S4 16 x1 3).bind fun v9 =>
  if 13 ≤ v9 then (f_variant_40 K S4 x1 (some a5) 12 v8) else ((oI S4 16 x1 3).bind fun v10 =>
  f_variant_40 K S4 x1 (some a5) v10 v8)
def f_typeItem_153 (K : Ky) (k120 : Sg → Option Nat → Int32 → Option (Sg × Unit)) (S : Sg) (x1 : Option Nat) : Option (Sg × Unit) :=
  bnd (f_takes K S 57) fun S29 v30 =>
  k120 S29 x1 v30
def f_typeItem_163 (K : Ky) (S : Sg) : Option (Sg × Unit) :=
  bnd (f_take K S 64) fun S31 v32 =>
  some (S31, ())
def f_typeItem_120 (K : Ky) : Nat → Sg → Option Nat → Int32 → Option (Sg × Unit)
  | 0, _, _, _ => none
  | n9 + 1, S, x1, x2 =>
    bnd (f_ok K S) fun S22 v23 =>
    if v23 = 0 then (f_typeItem_163 K S22) else (if x2 = 0 then (f_typeItem_163 K S22) else ((oI S22 16 x1 2).bind fun v24 =>
    if v24 = 10 then (bnd (f_fields K S22 x1) fun S27 v28 =>
    f_typeItem_153 K ((f_typeItem_120 K n9)) S27 x1) else (bnd (f_variant K S22 x1) fun S25 v26 =>
    f_typeItem_153 K ((f_typeItem_120 K n9)) S25 x1)))
def f_typeItem_101 (K : Ky) (S : Sg) (x1 : Option Nat) (y0 : Option Nat) (y1 : Option Nat) : Option (Sg × Unit) :=
  (pV S 16 y1 11 (va_rf y0)).bind fun S16 =>
  bnd (f_name K S16) fun S17 v18 =>
  (pV S17 16 x1 1 (.int v18)).bind fun S19 =>
  bnd (f_take K S19 63) fun S20 v21 =>
  f_typeItem_120 K bigN S20 x1 1
def f_typeItem_79 (K : Ky) (S : Sg) (x1 : Option Nat) (y0 : Option Nat) (y1 : Option Nat) : Option (Sg × Unit) :=
  (pV S 16 y1 10 (va_rf y0)).bind fun S12 =>
  (oI S12 16 x1 2).bind fun v13 =>
  if v13 = 11 then (bnd (nQ K 13 S12 13) fun S14 a15 =>
  f_typeItem_101 K S14 x1 (some a15) x1) else (f_typeItem_101 K S12 x1 none x1)
def f_typeItem_57 (K : Ky) (S : Sg) (x1 : Option Nat) (y0 : Option Nat) (y1 : Option Nat) : Option (Sg × Unit) :=
  (pV S 16 y1 9 (va_rf y0)).bind fun S8 =>
  (oI S8 16 x1 2).bind fun v9 =>
  if v9 = 10 then (bnd (nQ K 4 S8 13) fun S10 a11 =>
  f_typeItem_79 K S10 x1 (some a11) x1) else (f_typeItem_79 K S8 x1 none x1)
def f_typeItem_18 (K : Ky) (S : Sg) (x1 : Option Nat) : Option (Sg × Unit) :=
  (pM S 13 ((Zi S 13) + 1)).bind fun S3 =>
  (pM S3 10 ((Zi S3 10) + 1)).bind fun S4 =>
  (oI S4 16 x1 2).bind fun v5 =>
  if v5 = 10 then (bnd (nQ K 12 S4 13) fun S6 a7 =>
  f_typeItem_57 K S6 x1 (some a7) x1) else (f_typeItem_57 K S4 x1 none x1)
def f_typeItem (K : Ky) (S0 : Sg) (x1 : Option Nat) : Option (Sg × Unit) :=
  if (Zi S0 13) = 30 then (bnd (f_fail K S0 2 (Zi S0 10)) fun S1 v2 =>
  f_typeItem_18 K S1 x1) else (f_typeItem_18 K S0 x1)
def f_takeLives_66 (K : Ky) (k2 : Sg → Option Nat → Int32 → Option (Sg × Unit)) (S : Sg) (x1 : Option Nat) : Option (Sg × Unit) :=
  (oI S 16 x1 6).bind fun v15 =>
  (pV S 16 x1 6 (.int (v15 + 1))).bind fun S16 =>
  bnd (f_takes K S16 57) fun S17 v18 =>
  k2 S17 x1 v18
def f_takeLives_39 (K : Ky) (k2 : Sg → Option Nat → Int32 → Option (Sg × Unit)) (S : Sg) (x1 : Option Nat) : Option (Sg × Unit) :=
  bnd (f_take K S 4) fun S8 v9 =>
  bnd (f_ok K S8) fun S10 v11 =>
  if v11 = 0 then (f_takeLives_66 K k2 S10 x1) else ((oR S10 16 x1 12).bind fun v12 =>
  (oI S10 16 x1 6).bind fun v13 =>
  (bI K S10 v12 v13 ((Zi S10 10) - 1)).bind fun S14 =>
  f_takeLives_66 K k2 S14 x1)
def f_takeLives_86 (K : Ky) (S : Sg) : Option (Sg × Unit) :=
  bnd (f_take K S 49) fun S19 v20 =>
  some (S19, ())
def f_takeLives_2 (K : Ky) : Nat → Sg → Option Nat → Int32 → Option (Sg × Unit)
  | 0, _, _, _ => none
  | n9 + 1, S, x1, x2 =>
    bnd (f_ok K S) fun S1 v2 =>
    if v2 = 0 then (f_takeLives_86 K S1) else (if x2 = 0 then (f_takeLives_86 K S1) else (bnd (f_is K S1 4) fun S3 v4 =>
    if v4 = 0 then (f_takeLives_39 K ((f_takeLives_2 K n9)) S3 x1) else ((oI S3 16 x1 6).bind fun v5 =>
    if v5 = 8 then (bnd (f_fail K S3 2 (Zi S3 10)) fun S6 v7 =>
    f_takeLives_39 K ((f_takeLives_2 K n9)) S6 x1) else (f_takeLives_39 K ((f_takeLives_2 K n9)) S3 x1))))
def f_takeLives (K : Ky) (S0 : Sg) (x1 : Option Nat) : Option (Sg × Unit) :=
  f_takeLives_2 K bigN S0 x1 1
def f_X14_init (K : Ky) (S0 : Sg) (x0 : Nat) : Option (Sg × Unit) :=
  bnd (nQ K 11 S0 4) fun S1 a2 =>
  (pV S1 14 (some x0) 2 (va_rf (some a2))).bind fun S3 =>
  some (S3, ())
def f_add_106 (K : Ky) (S : Sg) (x0 : Option Nat) (x1 : Option Nat) (x2 : Int32) : Option (Sg × Unit) :=
  (oR S 15 x0 9).bind fun v26 =>
  (oI S 15 x0 11).bind fun v27 =>
  (bQ K 9 15 S v26 v27 x1).bind fun S28 =>
  (oR S28 15 x0 10).bind fun v29 =>
  (oI S28 15 x0 11).bind fun v30 =>
  (bI K S28 v29 v30 x2).bind fun S31 =>
  (oI S31 15 x0 11).bind fun v32 =>
  (pV S31 15 x0 11 (.int (v32 + 1))).bind fun S33 =>
  some (S33, ())
def f_add_57 (K : Ky) : Nat → Sg → Option Nat → Option Nat → Int32 → Option Nat → Option Nat → Int32 → Option (Sg × Unit)
  | 0, _, _, _, _, _, _, _ => none
  | n9 + 1, S, x0, x1, x2, x3, x4, x5 =>
    (oI S 15 x0 11).bind fun v17 =>
    if v17 ≤ x5 then ((pV S 15 x0 9 (va_rf x3)).bind fun S18 =>
    (pV S18 15 x0 10 (va_rf x4)).bind fun S19 =>
    f_add_106 K S19 x0 x1 x2) else ((oR S 15 x0 9).bind fun v20 =>
    (aQ K 9 S v20 x5).bind fun v21 =>
    (bQ K 9 15 S x3 x5 v21).bind fun S22 =>
    (oR S22 15 x0 10).bind fun v23 =>
    (aI K S22 v23 x5).bind fun v24 =>
    (bI K S22 x4 x5 v24).bind fun S25 =>
    f_add_57 K n9 S25 x0 x1 x2 x3 x4 (x5 + 1))
def f_add_22 (K : Ky) (S : Sg) (x0 : Option Nat) (x1 : Option Nat) (x2 : Int32) : Option (Sg × Unit) :=
  (oI S 15 x0 11).bind fun v8 =>
  (oR S 15 x0 9).bind fun v9 =>
  (aLn K 9 S v9).bind fun v10 =>
  if v8 = v10 then ((oI S 15 x0 11).bind fun v11 =>
  bnd (nQ K 9 S (2 * v11)) fun S12 a13 =>
  (oI S12 15 x0 11).bind fun v14 =>
  bnd (nA K S12 (2 * v14)) fun S15 a16 =>
  f_add_57 K bigN S15 x0 x1 x2 (some a13) (some a16) 0) else (f_add_106 K S x0 x1 x2)
def f_add (K : Ky) (S0 : Sg) (x0 : Option Nat) (x1 : Option Nat) (x2 : Int32) : Option (Sg × Unit) :=
  (oR S0 15 x0 9).bind fun v1 =>
  if v1 = none then (bnd (nQ K 9 S0 4) fun S2 a3 =>
  (pV S2 15 x0 9 (va_rf (some a3))).bind fun S4 =>
  bnd (nA K S4 4) fun S5 a6 =>
  (pV S5 15 x0 10 (va_rf (some a6))).bind fun S7 =>
  f_add_22 K S7 x0 x1 x2) else (f_add_22 K S0 x0 x1 x2)
def f_levelOf_69 (K : Ky) (S : Sg) (y0 : Int32) : Option (Sg × Int32) :=
  some (S, y0)
def f_levelOf_42 (K : Ky) (S : Sg) : Option (Sg × Int32) :=
  f_levelOf_69 K S 4
def f_levelOf_64 (K : Ky) (S : Sg) : Option (Sg × Int32) :=
  f_levelOf_69 K S 5
def f_levelOf_30 (K : Ky) (S : Sg) (x0 : Int32) : Option (Sg × Int32) :=
  if x0 = 40 then (f_levelOf_42 K S) else (if x0 = 41 then (f_levelOf_42 K S) else (if x0 = 42 then (f_levelOf_64 K S) else (if x0 = 43 then (f_levelOf_64 K S) else (if x0 = 44 then (f_levelOf_64 K S) else (f_levelOf_69 K S 0)))))
def f_levelOf (K : Ky) (S0 : Sg) (x0 : Int32) : Option (Sg × Int32) :=
  if x0 = 52 then (some (S0, 1)) else (if x0 = 51 then (some (S0, 2)) else (if x0 < 45 then (f_levelOf_30 K S0 x0) else (if 50 < x0 then (f_levelOf_30 K S0 x0) else (some (S0, 3)))))
def f_borrow_25 (K : Ky) (S : Sg) : Option (Sg × Unit) :=
  (pM S 17 ((Zi S 17) + 1)).bind fun S5 =>
  some (S5, ())
def f_borrow (K : Ky) (S0 : Sg) : Option (Sg × Unit) :=
  bnd (f_ok K S0) fun S1 v2 =>
  if v2 = 0 then (f_borrow_25 K S1) else (if (Zi S1 17) = 54 then (bnd (f_fail K S1 2 (Zi S1 10)) fun S3 v4 =>
  f_borrow_25 K S3) else (f_borrow_25 K S1))
def f_exp (K : Ky) (V : Sg → Int32 → Option (Sg × Option Nat)) (V2 : Sg → Option (Sg × Option Nat)) (S0 : Sg) : Option (Sg × Option Nat) :=
  bnd (V S0 1) fun S1 v2 =>
  some (S1, v2)
