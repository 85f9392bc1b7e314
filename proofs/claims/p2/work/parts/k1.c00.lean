-- k1.c00.lean.txt
section
def f_ok_12 (K : Ky) (S : Sg) (y0 : Int32) : Option (Sg × Int32) :=
  (zB y0).bind fun _ => some (S, y0)
def f_ok (K : Ky) (S0 : Sg) : Option (Sg × Int32) :=
  if (Zi S0 3) = 0 then (f_ok_12 K S0 1) else (f_ok_12 K S0 0)
def f_fail (K : Ky) (S0 : Sg) (x1 : Int32) (x2 : Int32) : Option (Sg × Unit) :=
  if (Zi S0 3) = 0 then ((pM S0 3 x1).bind fun S1 =>
  (rI S1 6 x2).bind fun v2 =>
  (pM S1 4 v2).bind fun S3 =>
  some (S3, ())) else (some (S0, ()))
def f_sameName_36 (K : Ky) : Nat → Sg → Int32 → Int32 → Int32 → Int32 → Option (Sg × Int32)
  | 0, _, _, _, _, _ => none
  | n9 + 1, S, x1, x2, x3, x4 =>
    if x3 ≤ x4 then ((zB 1).bind fun _ => some (S, 1)) else ((rI S 6 x1).bind fun v5 =>
    (rI S 0 (v5 + x4)).bind fun v6 =>
    (rI S 6 x2).bind fun v7 =>
    (rI S 0 (v7 + x4)).bind fun v8 =>
    if v6 = v8 then (f_sameName_36 K n9 S x1 x2 x3 (x4 + 1)) else ((zB 0).bind fun _ => some (S, 0)))
def f_sameName (K : Ky) (S0 : Sg) (x1 : Int32) (x2 : Int32) : Option (Sg × Int32) :=
  (rI S0 7 x1).bind fun v1 =>
  (rI S0 6 x1).bind fun v2 =>
  (rI S0 7 x2).bind fun v3 =>
  (rI S0 6 x2).bind fun v4 =>
  if (v3 - v4) = (v1 - v2) then (f_sameName_36 K bigN S0 x1 x2 (v1 - v2) 0) else ((zB 0).bind fun _ => some (S0, 0))
def f_isMain_74 (K : Ky) (S : Sg) (y0 : Int32) : Option (Sg × Int32) :=
  (zB y0).bind fun _ => some (S, y0)
def f_isMain_73 (K : Ky) (S : Sg) : Option (Sg × Int32) :=
  f_isMain_74 K S 0
def f_isMain (K : Ky) (S0 : Sg) (x1 : Int32) : Option (Sg × Int32) :=
  (rI S0 6 x1).bind fun v1 =>
  (rI S0 7 x1).bind fun v2 =>
  if (v2 - v1) = 4 then ((rI S0 0 v1).bind fun v3 =>
  if v3 = 109 then ((rI S0 0 (v1 + 1)).bind fun v4 =>
  if v4 = 97 then ((rI S0 0 (v1 + 2)).bind fun v5 =>
  if v5 = 105 then ((rI S0 0 (v1 + 3)).bind fun v6 =>
  if v6 = 110 then (f_isMain_74 K S0 1) else (f_isMain_73 K S0)) else (f_isMain_73 K S0)) else (f_isMain_73 K S0)) else (f_isMain_73 K S0)) else (f_isMain_73 K S0)
def f_is_18 (K : Ky) (S : Sg) (y0 : Int32) : Option (Sg × Int32) :=
  (zB y0).bind fun _ => some (S, y0)
def f_is (K : Ky) (S0 : Sg) (x1 : Int32) : Option (Sg × Int32) :=
  (rI S0 5 (Zi S0 10)).bind fun v1 =>
  if v1 = x1 then (f_is_18 K S0 1) else (f_is_18 K S0 0)
def f_take_38 (K : Ky) (S : Sg) : Option (Sg × Unit) :=
  some (S, ())
def f_take (K : Ky) (S0 : Sg) (x1 : Int32) : Option (Sg × Unit) :=
  bnd (f_ok K S0) fun S1 v2 =>
  if v2 = 0 then (some (S1, ())) else (bnd (f_is K S1 x1) fun S3 v4 =>
  if v4 = 0 then (bnd (f_fail K S3 1 (Zi S3 10)) fun S5 v6 =>
  f_take_38 K S5) else ((pM S3 10 ((Zi S3 10) + 1)).bind fun S7 =>
  f_take_38 K S7))
def f_takes_15 (K : Ky) (S : Sg) : Option (Sg × Int32) :=
  (zB 0).bind fun _ => some (S, 0)
def f_takes (K : Ky) (S0 : Sg) (x1 : Int32) : Option (Sg × Int32) :=
  bnd (f_ok K S0) fun S1 v2 =>
  if v2 = 0 then (f_takes_15 K S1) else (bnd (f_is K S1 x1) fun S3 v4 =>
  if v4 = 0 then (f_takes_15 K S3) else ((pM S3 10 ((Zi S3 10) + 1)).bind fun S5 =>
  (zB 1).bind fun _ => some (S5, 1)))
def f_name (K : Ky) (S0 : Sg) : Option (Sg × Int32) :=
  bnd (f_take K S0 2) fun S1 v2 =>
  some (S1, (Zi S1 10) - 1)
def f_enter_22 (K : Ky) (S : Sg) : Option (Sg × Unit) :=
  (pM S 15 ((Zi S 15) + 1)).bind fun S5 =>
  some (S5, ())
def f_enter (K : Ky) (S0 : Sg) (x1 : Int32) : Option (Sg × Unit) :=
  bnd (f_ok K S0) fun S1 v2 =>
  if v2 = 0 then (f_enter_22 K S1) else (if (Zi S1 15) = 16 then (bnd (f_fail K S1 2 x1) fun S3 v4 =>
  f_enter_22 K S3) else (f_enter_22 K S1))
def f_limit_29 (K : Ky) (S : Sg) : Option (Sg × Unit) :=
  some (S, ())
def f_limit (K : Ky) (S0 : Sg) (x1 : Int32) (x2 : Int32) : Option (Sg × Unit) :=
  bnd (f_ok K S0) fun S1 v2 =>
  if v2 = 0 then (f_limit_29 K S1) else (bnd (f_is K S1 2) fun S3 v4 =>
  if v4 = 0 then (f_limit_29 K S3) else (if x1 = x2 then (bnd (f_fail K S3 2 (Zi S3 10)) fun S5 v6 =>
  f_limit_29 K S5) else (f_limit_29 K S3)))
def f_X22_init (K : Ky) (S0 : Sg) (x0 : Nat) : Option (Sg × Unit) :=
  (pV S0 22 (some x0) 3 (.int (-1))).bind fun S1 =>
  some (S1, ())
def f_written_214 (K : Ky) (V : Sg → Option (Sg × Option Nat)) (S : Sg) (x1 : Option Nat) : Option (Sg × Option Nat) :=
  some (S, x1)
def f_written_136 (K : Ky) (V : Sg → Option (Sg × Option Nat)) (S : Sg) (x1 : Option Nat) : Option (Sg × Option Nat) :=
  bnd (V S) fun S39 v40 =>
  (pV S39 22 x1 4 (va_rf v40)).bind fun S41 =>
  (pM S41 15 ((Zi S41 15) - 1)).bind fun S42 =>
  f_written_214 K V S42 x1
def f_written_118 (K : Ky) (V : Sg → Option (Sg × Option Nat)) (S : Sg) (x1 : Option Nat) (x2 : Int32) : Option (Sg × Option Nat) :=
  if x2 = 0 then (f_written_136 K V S x1) else (bnd (f_takes K S 14) fun S36 v37 =>
  if v37 = 0 then (f_written_136 K V S36 x1) else ((pV S36 22 x1 2 (.int 1)).bind fun S38 =>
  f_written_136 K V S38 x1))
def f_written_56 (K : Ky) (V : Sg → Option (Sg × Option Nat)) (S : Sg) (x1 : Option Nat) : Option (Sg × Option Nat) :=
  bnd (f_enter K S (Zi S 10)) fun S25 v26 =>
  bnd (f_is K S25 55) fun S27 v28 =>
  (pM S27 10 ((Zi S27 10) + 1)).bind fun S29 =>
  if v28 = 0 then (f_written_118 K V S29 x1 v28) else (bnd (f_ok K S29) fun S30 v31 =>
  if v31 = 0 then (f_written_118 K V S30 x1 v28) else (bnd (f_is K S30 4) fun S32 v33 =>
  if v33 = 0 then (f_written_118 K V S32 x1 v28) else ((pV S32 22 x1 3 (.int (Zi S32 10))).bind fun S34 =>
  (pM S34 10 ((Zi S34 10) + 1)).bind fun S35 =>
  f_written_118 K V S35 x1 v28)))
def f_written_192 (K : Ky) (V : Sg → Option (Sg × Option Nat)) (S : Sg) (x1 : Option Nat) : Option (Sg × Option Nat) :=
  (pM S 10 ((Zi S 10) + 1)).bind fun S24 =>
  f_written_214 K V S24 x1
def f_written (K : Ky) : Nat → Sg → Option (Sg × Option Nat)
  | 0, _ => none
  | d + 1, S0 =>
    bnd (nO K S0 22 5 [.int 0, .int 0, .int 0, .int 0, .null]) fun S1 a2 =>
    bnd (f_X22_init K S1 a2) fun S3 _ =>
    bnd (f_ok K S3) fun S5 v6 =>
    if v6 = 0 then (some (S5, some a2)) else ((pV S5 22 (some a2) 1 (.int (Zi S5 10))).bind fun S7 =>
    (rI S7 5 (Zi S7 10)).bind fun v8 =>
    (pV S7 22 (some a2) 0 (.int v8)).bind fun S9 =>
    bnd (f_is K S9 23) fun S10 v11 =>
    if v11 = 0 then (bnd (f_is K S10 55) fun S12 v13 =>
    if v13 = 0 then (bnd (f_is K S12 26) fun S14 v15 =>
    if v15 = 0 then (bnd (f_is K S14 27) fun S16 v17 =>
    if v17 = 0 then (bnd (f_is K S16 25) fun S18 v19 =>
    if v19 = 0 then (bnd (f_is K S18 2) fun S20 v21 =>
    if v21 = 0 then (bnd (f_fail K S20 1 (Zi S20 10)) fun S22 v23 =>
    f_written_214 K (f_written K d) S22 (some a2)) else (f_written_192 K (f_written K d) S20 (some a2))) else (f_written_192 K (f_written K d) S18 (some a2))) else (f_written_192 K (f_written K d) S16 (some a2))) else (f_written_192 K (f_written K d) S14 (some a2))) else (f_written_56 K (f_written K d) S12 (some a2))) else (f_written_56 K (f_written K d) S10 (some a2)))
end
-- k1.c01.lean.txt
section
def f_fields_65 (K : Ky) (S : Sg) (x1 : Option Nat) (y0 : Int32) (y1 : Option Nat) : Option (Sg × Unit) :=
  bnd (f_written K 20 S) fun S15 v16 =>
  (bQ K 12 22 S15 y1 y0 v16).bind fun S17 =>
  (oI S17 16 x1 3).bind fun v18 =>
  (pV S17 16 x1 3 (.int (v18 + 1))).bind fun S19 =>
  some (S19, ())
def f_fields_32 (K : Ky) (S : Sg) (x1 : Option Nat) (y0 : Int32) (y1 : Option Nat) : Option (Sg × Unit) :=
  bnd (f_name K S) fun S7 v8 =>
  (bI K S7 y1 y0 v8).bind fun S9 =>
  bnd (f_take K S9 58) fun S10 v11 =>
  (oR S10 16 x1 9).bind fun v12 =>
  (oI S10 16 x1 3).bind fun v13 =>
  if 13 ≤ v13 then (f_fields_65 K S10 x1 12 v12) else ((oI S10 16 x1 3).bind fun v14 =>
  f_fields_65 K S10 x1 v14 v12)
def f_fields (K : Ky) (S0 : Sg) (x1 : Option Nat) : Option (Sg × Unit) :=
  (oI S0 16 x1 3).bind fun v1 =>
  bnd (f_limit K S0 v1 12) fun S2 v3 =>
  (oR S2 16 x1 8).bind fun v4 =>
  (oI S2 16 x1 3).bind fun v5 =>
  if 13 ≤ v5 then (f_fields_32 K S2 x1 12 v4) else ((oI S2 16 x1 3).bind fun v6 =>
  f_fields_32 K S2 x1 v6 v4)
def f_variant_227 (K : Ky) (k109 : Sg → Option Nat → Int32 → Option (Sg × Unit)) (S : Sg) (x2 : Option Nat) : Option (Sg × Unit) :=
  (oI S 17 x2 0).bind fun v52 =>
  (pV S 17 x2 0 (.int (v52 + 1))).bind fun S53 =>
  bnd (f_takes K S53 57) fun S54 v55 =>
  k109 S54 x2 v55
def f_variant_203 (K : Ky) (k109 : Sg → Option Nat → Int32 → Option (Sg × Unit)) (S : Sg) (x2 : Option Nat) : Option (Sg × Unit) :=
  bnd (f_written K 20 S) fun S45 v46 =>
  bnd (f_ok K S45) fun S47 v48 =>
  if v48 = 0 then (f_variant_227 K k109 S47 x2) else ((oR S47 17 x2 1).bind fun v49 =>
  (oI S47 17 x2 0).bind fun v50 =>
  (bQ K 12 22 S47 v49 v50 v46).bind fun S51 =>
  f_variant_227 K k109 S51 x2)
def f_variant_178 (K : Ky) (k109 : Sg → Option Nat → Int32 → Option (Sg × Unit)) (S : Sg) (x2 : Option Nat) (y0 : Int32) : Option (Sg × Unit) :=
  if y0 = 0 then (f_variant_203 K k109 S x2) else ((oI S 17 x2 0).bind fun v42 =>
  if v42 = 12 then (bnd (f_fail K S 2 (Zi S 10)) fun S43 v44 =>
  f_variant_203 K k109 S43 x2) else (f_variant_203 K k109 S x2))
def f_variant_173 (K : Ky) (k109 : Sg → Option Nat → Int32 → Option (Sg × Unit)) (S : Sg) (x2 : Option Nat) : Option (Sg × Unit) :=
  f_variant_178 K k109 S x2 1
def f_variant_247 (K : Ky) (S : Sg) : Option (Sg × Unit) :=
  bnd (f_take K S 62) fun S56 v57 =>
  some (S56, ())
def f_variant_109 (K : Ky) : Nat → Sg → Option Nat → Int32 → Option (Sg × Unit)
  | 0, _, _, _ => none
  | n9 + 1, S, x2, x3 =>
    bnd (f_ok K S) fun S28 v29 =>
    if v29 = 0 then (f_variant_247 K S28) else (if x3 = 0 then (f_variant_247 K S28) else (bnd (f_is K S28 26) fun S30 v31 =>
    if v31 = 0 then (bnd (f_is K S30 27) fun S32 v33 =>
    if v33 = 0 then (bnd (f_is K S32 25) fun S34 v35 =>
    if v35 = 0 then (bnd (f_is K S34 2) fun S36 v37 =>
    if v37 = 0 then (bnd (f_is K S36 23) fun S38 v39 =>
    if v39 = 0 then (bnd (f_is K S38 55) fun S40 v41 =>
    if v41 = 0 then (f_variant_178 K ((f_variant_109 K n9)) S40 x2 0) else (f_variant_173 K ((f_variant_109 K n9)) S40 x2)) else (f_variant_173 K ((f_variant_109 K n9)) S38 x2)) else (f_variant_173 K ((f_variant_109 K n9)) S36 x2)) else (f_variant_173 K ((f_variant_109 K n9)) S34 x2)) else (f_variant_173 K ((f_variant_109 K n9)) S32 x2)) else (f_variant_173 K ((f_variant_109 K n9)) S30 x2)))
def f_variant_67 (K : Ky) (S : Sg) (x1 : Option Nat) (x2 : Option Nat) (y0 : Int32) (y1 : Option Nat) : Option (Sg × Unit) :=
  (bQ K 13 17 S y1 y0 x2).bind fun S17 =>
  (oI S17 16 x1 3).bind fun v18 =>
  (pV S17 16 x1 3 (.int (v18 + 1))).bind fun S19 =>
  bnd (f_takes K S19 61) fun S20 v21 =>
  if v21 = 0 then (some (S20, ())) else (bnd (nQ K 12 S20 12) fun S22 a23 =>
  (pV S22 17 x2 1 (va_rf (some a23))).bind fun S24 =>
  bnd (nQ K 4 S24 12) fun S25 a26 =>
  (pV S25 17 x2 2 (va_rf (some a26))).bind fun S27 =>
  f_variant_109 K bigN S27 x2 1)
def f_variant_40 (K : Ky) (S : Sg) (x1 : Option Nat) (x2 : Option Nat) (y0 : Int32) (y1 : Option Nat) : Option (Sg × Unit) :=
  bnd (f_name K S) fun S11 v12 =>
  (bI K S11 y1 y0 v12).bind fun S13 =>
  (oR S13 16 x1 11).bind fun v14 =>
  (oI S13 16 x1 3).bind fun v15 =>
  if 13 ≤ v15 then (f_variant_67 K S13 x1 x2 12 v14) else ((oI S13 16 x1 3).bind fun v16 =>
  f_variant_67 K S13 x1 x2 v16 v14)
def f_variant (K : Ky) (S0 : Sg) (x1 : Option Nat) : Option (Sg × Unit) :=
  (oI S0 16 x1 3).bind fun v1 =>
  bnd (f_limit K S0 v1 12) fun S2 v3 =>
  bnd (nO K S2 17 3 [.int 0, .null, .null]) fun S4 a5 =>
  (oR S4 16 x1 8).bind fun v8 =>
  (oI S4 16 x1 3).bind fun v9 =>
  if 13 ≤ v9 then (f_variant_40 K S4 x1 (some a5) 12 v8) else ((oI S4 16 x1 3).bind fun v10 =>
  f_variant_40 K S4 x1 (some a5) v10 v8)
def f_typeItem_153 (K : Ky) (k120 : Sg → Option Nat → Int32 → Option (Sg × Unit)) (S : Sg) (x1 : Option Nat) : Option (Sg × Unit) :=
  bnd (f_takes K S 57) fun S29 v30 =>
  k120 S29 x1 v30
def f_typeItem_163 (K : Ky) (S : Sg) : Option (Sg × Unit) :=
  bnd (f_take K S 64) fun S31 v32 =>
  some (S31, ())
def f_typeItem_120 (K : Ky) : Nat → Sg → Option Nat → Int32 → Option (Sg × Unit)
  | 0, _, _, _ => none
  | n9 + 1, S, x1, x2 =>
    bnd (f_ok K S) fun S22 v23 =>
    if v23 = 0 then (f_typeItem_163 K S22) else (if x2 = 0 then (f_typeItem_163 K S22) else ((oI S22 16 x1 2).bind fun v24 =>
    if v24 = 10 then (bnd (f_fields K S22 x1) fun S27 v28 =>
    f_typeItem_153 K ((f_typeItem_120 K n9)) S27 x1) else (bnd (f_variant K S22 x1) fun S25 v26 =>
    f_typeItem_153 K ((f_typeItem_120 K n9)) S25 x1)))
def f_typeItem_101 (K : Ky) (S : Sg) (x1 : Option Nat) (y0 : Option Nat) (y1 : Option Nat) : Option (Sg × Unit) :=
  (pV S 16 y1 11 (va_rf y0)).bind fun S16 =>
  bnd (f_name K S16) fun S17 v18 =>
  (pV S17 16 x1 1 (.int v18)).bind fun S19 =>
  bnd (f_take K S19 63) fun S20 v21 =>
  f_typeItem_120 K bigN S20 x1 1
def f_typeItem_79 (K : Ky) (S : Sg) (x1 : Option Nat) (y0 : Option Nat) (y1 : Option Nat) : Option (Sg × Unit) :=
  (pV S 16 y1 10 (va_rf y0)).bind fun S12 =>
  (oI S12 16 x1 2).bind fun v13 =>
  if v13 = 11 then (bnd (nQ K 13 S12 13) fun S14 a15 =>
  f_typeItem_101 K S14 x1 (some a15) x1) else (f_typeItem_101 K S12 x1 none x1)
def f_typeItem_57 (K : Ky) (S : Sg) (x1 : Option Nat) (y0 : Option Nat) (y1 : Option Nat) : Option (Sg × Unit) :=
  (pV S 16 y1 9 (va_rf y0)).bind fun S8 =>
  (oI S8 16 x1 2).bind fun v9 =>
  if v9 = 10 then (bnd (nQ K 4 S8 13) fun S10 a11 =>
  f_typeItem_79 K S10 x1 (some a11) x1) else (f_typeItem_79 K S8 x1 none x1)
def f_typeItem_18 (K : Ky) (S : Sg) (x1 : Option Nat) : Option (Sg × Unit) :=
  (pM S 13 ((Zi S 13) + 1)).bind fun S3 =>
  (pM S3 10 ((Zi S3 10) + 1)).bind fun S4 =>
  (oI S4 16 x1 2).bind fun v5 =>
  if v5 = 10 then (bnd (nQ K 12 S4 13) fun S6 a7 =>
  f_typeItem_57 K S6 x1 (some a7) x1) else (f_typeItem_57 K S4 x1 none x1)
def f_typeItem (K : Ky) (S0 : Sg) (x1 : Option Nat) : Option (Sg × Unit) :=
  if (Zi S0 13) = 30 then (bnd (f_fail K S0 2 (Zi S0 10)) fun S1 v2 =>
  f_typeItem_18 K S1 x1) else (f_typeItem_18 K S0 x1)
def f_takeLives_66 (K : Ky) (k2 : Sg → Option Nat → Int32 → Option (Sg × Unit)) (S : Sg) (x1 : Option Nat) : Option (Sg × Unit) :=
  (oI S 16 x1 6).bind fun v15 =>
  (pV S 16 x1 6 (.int (v15 + 1))).bind fun S16 =>
  bnd (f_takes K S16 57) fun S17 v18 =>
  k2 S17 x1 v18
def f_takeLives_39 (K : Ky) (k2 : Sg → Option Nat → Int32 → Option (Sg × Unit)) (S : Sg) (x1 : Option Nat) : Option (Sg × Unit) :=
  bnd (f_take K S 4) fun S8 v9 =>
  bnd (f_ok K S8) fun S10 v11 =>
  if v11 = 0 then (f_takeLives_66 K k2 S10 x1) else ((oR S10 16 x1 12).bind fun v12 =>
  (oI S10 16 x1 6).bind fun v13 =>
  (bI K S10 v12 v13 ((Zi S10 10) - 1)).bind fun S14 =>
  f_takeLives_66 K k2 S14 x1)
def f_takeLives_86 (K : Ky) (S : Sg) : Option (Sg × Unit) :=
  bnd (f_take K S 49) fun S19 v20 =>
  some (S19, ())
def f_takeLives_2 (K : Ky) : Nat → Sg → Option Nat → Int32 → Option (Sg × Unit)
  | 0, _, _, _ => none
  | n9 + 1, S, x1, x2 =>
    bnd (f_ok K S) fun S1 v2 =>
    if v2 = 0 then (f_takeLives_86 K S1) else (if x2 = 0 then (f_takeLives_86 K S1) else (bnd (f_is K S1 4) fun S3 v4 =>
    if v4 = 0 then (f_takeLives_39 K ((f_takeLives_2 K n9)) S3 x1) else ((oI S3 16 x1 6).bind fun v5 =>
    if v5 = 8 then (bnd (f_fail K S3 2 (Zi S3 10)) fun S6 v7 =>
    f_takeLives_39 K ((f_takeLives_2 K n9)) S6 x1) else (f_takeLives_39 K ((f_takeLives_2 K n9)) S3 x1))))
def f_takeLives (K : Ky) (S0 : Sg) (x1 : Option Nat) : Option (Sg × Unit) :=
  f_takeLives_2 K bigN S0 x1 1
def f_X14_init (K : Ky) (S0 : Sg) (x0 : Nat) : Option (Sg × Unit) :=
  bnd (nQ K 11 S0 4) fun S1 a2 =>
  (pV S1 14 (some x0) 2 (va_rf (some a2))).bind fun S3 =>
  some (S3, ())
def f_add_106 (K : Ky) (S : Sg) (x0 : Option Nat) (x1 : Option Nat) (x2 : Int32) : Option (Sg × Unit) :=
  (oR S 15 x0 9).bind fun v26 =>
  (oI S 15 x0 11).bind fun v27 =>
  (bQ K 9 15 S v26 v27 x1).bind fun S28 =>
  (oR S28 15 x0 10).bind fun v29 =>
  (oI S28 15 x0 11).bind fun v30 =>
  (bI K S28 v29 v30 x2).bind fun S31 =>
  (oI S31 15 x0 11).bind fun v32 =>
  (pV S31 15 x0 11 (.int (v32 + 1))).bind fun S33 =>
  some (S33, ())
def f_add_57 (K : Ky) : Nat → Sg → Option Nat → Option Nat → Int32 → Option Nat → Option Nat → Int32 → Option (Sg × Unit)
  | 0, _, _, _, _, _, _, _ => none
  | n9 + 1, S, x0, x1, x2, x3, x4, x5 =>
    (oI S 15 x0 11).bind fun v17 =>
    if v17 ≤ x5 then ((pV S 15 x0 9 (va_rf x3)).bind fun S18 =>
    (pV S18 15 x0 10 (va_rf x4)).bind fun S19 =>
    f_add_106 K S19 x0 x1 x2) else ((oR S 15 x0 9).bind fun v20 =>
    (aQ K 9 S v20 x5).bind fun v21 =>
    (bQ K 9 15 S x3 x5 v21).bind fun S22 =>
    (oR S22 15 x0 10).bind fun v23 =>
    (aI K S22 v23 x5).bind fun v24 =>
    (bI K S22 x4 x5 v24).bind fun S25 =>
    f_add_57 K n9 S25 x0 x1 x2 x3 x4 (x5 + 1))
def f_add_22 (K : Ky) (S : Sg) (x0 : Option Nat) (x1 : Option Nat) (x2 : Int32) : Option (Sg × Unit) :=
  (oI S 15 x0 11).bind fun v8 =>
  (oR S 15 x0 9).bind fun v9 =>
  (aLn K 9 S v9).bind fun v10 =>
  if v8 = v10 then ((oI S 15 x0 11).bind fun v11 =>
  bnd (nQ K 9 S (2 * v11)) fun S12 a13 =>
  (oI S12 15 x0 11).bind fun v14 =>
  bnd (nA K S12 (2 * v14)) fun S15 a16 =>
  f_add_57 K bigN S15 x0 x1 x2 (some a13) (some a16) 0) else (f_add_106 K S x0 x1 x2)
def f_add (K : Ky) (S0 : Sg) (x0 : Option Nat) (x1 : Option Nat) (x2 : Int32) : Option (Sg × Unit) :=
  (oR S0 15 x0 9).bind fun v1 =>
  if v1 = none then (bnd (nQ K 9 S0 4) fun S2 a3 =>
  (pV S2 15 x0 9 (va_rf (some a3))).bind fun S4 =>
  bnd (nA K S4 4) fun S5 a6 =>
  (pV S5 15 x0 10 (va_rf (some a6))).bind fun S7 =>
  f_add_22 K S7 x0 x1 x2) else (f_add_22 K S0 x0 x1 x2)
def f_levelOf_69 (K : Ky) (S : Sg) (y0 : Int32) : Option (Sg × Int32) :=
  some (S, y0)
def f_levelOf_42 (K : Ky) (S : Sg) : Option (Sg × Int32) :=
  f_levelOf_69 K S 4
def f_levelOf_64 (K : Ky) (S : Sg) : Option (Sg × Int32) :=
  f_levelOf_69 K S 5
def f_levelOf_30 (K : Ky) (S : Sg) (x0 : Int32) : Option (Sg × Int32) :=
  if x0 = 40 then (f_levelOf_42 K S) else (if x0 = 41 then (f_levelOf_42 K S) else (if x0 = 42 then (f_levelOf_64 K S) else (if x0 = 43 then (f_levelOf_64 K S) else (if x0 = 44 then (f_levelOf_64 K S) else (f_levelOf_69 K S 0)))))
def f_levelOf (K : Ky) (S0 : Sg) (x0 : Int32) : Option (Sg × Int32) :=
  if x0 = 52 then (some (S0, 1)) else (if x0 = 51 then (some (S0, 2)) else (if x0 < 45 then (f_levelOf_30 K S0 x0) else (if 50 < x0 then (f_levelOf_30 K S0 x0) else (some (S0, 3)))))
def f_borrow_25 (K : Ky) (S : Sg) : Option (Sg × Unit) :=
  (pM S 17 ((Zi S 17) + 1)).bind fun S5 =>
  some (S5, ())
def f_borrow (K : Ky) (S0 : Sg) : Option (Sg × Unit) :=
  bnd (f_ok K S0) fun S1 v2 =>
  if v2 = 0 then (f_borrow_25 K S1) else (if (Zi S1 17) = 54 then (bnd (f_fail K S1 2 (Zi S1 10)) fun S3 v4 =>
  f_borrow_25 K S3) else (f_borrow_25 K S1))
def f_exp (K : Ky) (V : Sg → Int32 → Option (Sg × Option Nat)) (V2 : Sg → Option (Sg × Option Nat)) (S0 : Sg) : Option (Sg × Option Nat) :=
  bnd (V S0 1) fun S1 v2 =>
  some (S1, v2)
end
-- k1.c02.lean.txt
section
def f_newFields_101 (K : Ky) (V : Sg → Int32 → Option (Sg × Option Nat)) (V2 : Sg → Option (Sg × Option Nat)) (k63 : Sg → Option Nat → Int32 → Option (Sg × Unit)) (S : Sg) (x1 : Option Nat) : Option (Sg × Unit) :=
  bnd (f_takes K S 57) fun S25 v26 =>
  k63 S25 x1 v26
def f_newFields_111 (K : Ky) (V : Sg → Int32 → Option (Sg × Option Nat)) (V2 : Sg → Option (Sg × Option Nat)) (S : Sg) : Option (Sg × Unit) :=
  (pM S 15 ((Zi S 15) - 1)).bind fun S27 =>
  bnd (f_take K S27 64) fun S28 v29 =>
  some (S28, ())
def f_newFields_63 (K : Ky) (V : Sg → Int32 → Option (Sg × Option Nat)) (V2 : Sg → Option (Sg × Option Nat)) : Nat → Sg → Option Nat → Int32 → Option (Sg × Unit)
  | 0, _, _, _ => none
  | n9 + 1, S, x1, x2 =>
    bnd (f_ok K S) fun S13 v14 =>
    if v14 = 0 then (f_newFields_111 K V V2 S13) else (if x2 = 0 then (f_newFields_111 K V V2 S13) else (bnd (f_name K S13) fun S15 v16 =>
    bnd (f_take K S15 58) fun S17 v18 =>
    bnd (f_ok K S17) fun S19 v20 =>
    if v20 = 0 then (f_newFields_101 K V V2 ((f_newFields_63 K V V2 n9)) S19 x1) else (bnd (f_exp K V V2 S19) fun S21 v22 =>
    bnd (f_add K S21 x1 v22 v16) fun S23 v24 =>
    f_newFields_101 K V V2 ((f_newFields_63 K V V2 n9)) S23 x1)))
def f_newFields_55 (K : Ky) (V : Sg → Int32 → Option (Sg × Option Nat)) (V2 : Sg → Option (Sg × Option Nat)) (S : Sg) (x1 : Option Nat) : Option (Sg × Unit) :=
  bnd (f_take K S 63) fun S11 v12 =>
  f_newFields_63 K V V2 bigN S11 x1 1
def f_newFields_45 (K : Ky) (V : Sg → Int32 → Option (Sg × Option Nat)) (V2 : Sg → Option (Sg × Option Nat)) (S : Sg) (x1 : Option Nat) : Option (Sg × Unit) :=
  (pM S 15 ((Zi S 15) + 1)).bind fun S30 =>
  f_newFields_55 K V V2 S30 x1
def f_newFields (K : Ky) (V : Sg → Int32 → Option (Sg × Option Nat)) (V2 : Sg → Option (Sg × Option Nat)) (S0 : Sg) (x1 : Option Nat) : Option (Sg × Unit) :=
  (pM S0 10 ((Zi S0 10) + 1)).bind fun S1 =>
  bnd (f_name K S1) fun S2 v3 =>
  (pV S2 15 x1 3 (.int v3)).bind fun S4 =>
  bnd (f_ok K S4) fun S5 v6 =>
  if v6 = 0 then (f_newFields_45 K V V2 S5 x1) else (bnd (f_is K S5 63) fun S7 v8 =>
  if v8 = 0 then (f_newFields_45 K V V2 S7 x1) else (bnd (f_enter K S7 (Zi S7 10)) fun S9 v10 =>
  f_newFields_55 K V V2 S9 x1))
def f_list_92 (K : Ky) (V : Sg → Int32 → Option (Sg × Option Nat)) (V2 : Sg → Option (Sg × Option Nat)) (S : Sg) : Option (Sg × Unit) :=
  (pM S 15 ((Zi S 15) - 1)).bind fun S12 =>
  bnd (f_take K S12 62) fun S13 v14 =>
  some (S13, ())
def f_list_62 (K : Ky) (V : Sg → Int32 → Option (Sg × Option Nat)) (V2 : Sg → Option (Sg × Option Nat)) : Nat → Sg → Option Nat → Int32 → Option (Sg × Unit)
  | 0, _, _, _ => none
  | n9 + 1, S, x1, x2 =>
    bnd (f_ok K S) fun S15 v16 =>
    if v16 = 0 then (f_list_92 K V V2 S15) else (if x2 = 0 then (f_list_92 K V V2 S15) else (bnd (f_exp K V V2 S15) fun S17 v18 =>
    bnd (f_add K S17 x1 v18 0) fun S19 v20 =>
    bnd (f_takes K S19 57) fun S21 v22 =>
    f_list_62 K V V2 n9 S21 x1 v22))
def f_list_60 (K : Ky) (V : Sg → Int32 → Option (Sg × Option Nat)) (V2 : Sg → Option (Sg × Option Nat)) (S : Sg) (x1 : Option Nat) : Option (Sg × Unit) :=
  f_list_62 K V V2 bigN S x1 1
def f_list_37 (K : Ky) (V : Sg → Int32 → Option (Sg × Option Nat)) (V2 : Sg → Option (Sg × Option Nat)) (S : Sg) (x1 : Option Nat) : Option (Sg × Unit) :=
  bnd (f_take K S 61) fun S7 v8 =>
  (oI S7 15 x1 0).bind fun v9 =>
  if v9 = 3 then (bnd (f_is K S7 62) fun S10 v11 =>
  if v11 = 0 then (f_list_60 K V V2 S10 x1) else (f_list_92 K V V2 S10)) else (f_list_60 K V V2 S7 x1)
def f_list_27 (K : Ky) (V : Sg → Int32 → Option (Sg × Option Nat)) (V2 : Sg → Option (Sg × Option Nat)) (S : Sg) (x1 : Option Nat) : Option (Sg × Unit) :=
  (pM S 15 ((Zi S 15) + 1)).bind fun S23 =>
  f_list_37 K V V2 S23 x1
def f_list (K : Ky) (V : Sg → Int32 → Option (Sg × Option Nat)) (V2 : Sg → Option (Sg × Option Nat)) (S0 : Sg) (x1 : Option Nat) : Option (Sg × Unit) :=
  bnd (f_ok K S0) fun S1 v2 =>
  if v2 = 0 then (f_list_27 K V V2 S1 x1) else (bnd (f_is K S1 61) fun S3 v4 =>
  if v4 = 0 then (f_list_27 K V V2 S3 x1) else (bnd (f_enter K S3 (Zi S3 10)) fun S5 v6 =>
  f_list_37 K V V2 S5 x1))
def f_named_92 (K : Ky) (V : Sg → Int32 → Option (Sg × Option Nat)) (V2 : Sg → Option (Sg × Option Nat)) (S : Sg) : Option (Sg × Unit) :=
  some (S, ())
def f_named (K : Ky) (V : Sg → Int32 → Option (Sg × Option Nat)) (V2 : Sg → Option (Sg × Option Nat)) (S0 : Sg) (x1 : Option Nat) : Option (Sg × Unit) :=
  (pV S0 15 x1 3 (.int (Zi S0 10))).bind fun S1 =>
  (pM S1 10 ((Zi S1 10) + 1)).bind fun S2 =>
  bnd (f_is K S2 61) fun S3 v4 =>
  if v4 = 0 then (bnd (f_takes K S3 59) fun S5 v6 =>
  if v6 = 0 then ((pV S5 15 x1 0 (.int 2)).bind fun S7 =>
  f_named_92 K V V2 S7) else ((pV S5 15 x1 0 (.int 6)).bind fun S8 =>
  bnd (f_name K S8) fun S9 v10 =>
  (pV S9 15 x1 2 (.int v10)).bind fun S11 =>
  bnd (f_ok K S11) fun S12 v13 =>
  if v13 = 0 then (f_named_92 K V V2 S12) else (bnd (f_is K S12 61) fun S14 v15 =>
  if v15 = 0 then (f_named_92 K V V2 S14) else (bnd (f_list K V V2 S14 x1) fun S16 v17 =>
  f_named_92 K V V2 S16)))) else ((pV S3 15 x1 0 (.int 3)).bind fun S18 =>
  bnd (f_list K V V2 S18 x1) fun S19 v20 =>
  f_named_92 K V V2 S19)
def f_enterBracket_58 (K : Ky) (V : Sg → Int32 → Option (Sg × Option Nat)) (V2 : Sg → Option (Sg × Option Nat)) (S : Sg) : Option (Sg × Unit) :=
  (pM S 15 ((Zi S 15) - 1)).bind fun S14 =>
  bnd (f_take K S14 62) fun S15 v16 =>
  some (S15, ())
def f_enterBracket_37 (K : Ky) (V : Sg → Int32 → Option (Sg × Option Nat)) (V2 : Sg → Option (Sg × Option Nat)) (S : Sg) (x1 : Option Nat) : Option (Sg × Unit) :=
  bnd (f_take K S 61) fun S7 v8 =>
  bnd (f_ok K S7) fun S9 v10 =>
  if v10 = 0 then (f_enterBracket_58 K V V2 S9) else (bnd (f_exp K V V2 S9) fun S11 v12 =>
  (pV S11 15 x1 8 (va_rf v12)).bind fun S13 =>
  f_enterBracket_58 K V V2 S13)
def f_enterBracket_27 (K : Ky) (V : Sg → Int32 → Option (Sg × Option Nat)) (V2 : Sg → Option (Sg × Option Nat)) (S : Sg) (x1 : Option Nat) : Option (Sg × Unit) :=
  (pM S 15 ((Zi S 15) + 1)).bind fun S17 =>
  f_enterBracket_37 K V V2 S17 x1
def f_enterBracket (K : Ky) (V : Sg → Int32 → Option (Sg × Option Nat)) (V2 : Sg → Option (Sg × Option Nat)) (S0 : Sg) (x1 : Option Nat) : Option (Sg × Unit) :=
  bnd (f_ok K S0) fun S1 v2 =>
  if v2 = 0 then (f_enterBracket_27 K V V2 S1 x1) else (bnd (f_is K S1 61) fun S3 v4 =>
  if v4 = 0 then (f_enterBracket_27 K V V2 S3 x1) else (bnd (f_enter K S3 (Zi S3 10)) fun S5 v6 =>
  f_enterBracket_37 K V V2 S5 x1))
def f_primary_253 (K : Ky) (V : Sg → Int32 → Option (Sg × Option Nat)) (V2 : Sg → Option (Sg × Option Nat)) (S : Sg) (x1 : Option Nat) : Option (Sg × Option Nat) :=
  some (S, x1)
def f_primary_151 (K : Ky) (V : Sg → Int32 → Option (Sg × Option Nat)) (V2 : Sg → Option (Sg × Option Nat)) (S : Sg) (x1 : Option Nat) (y0 : Int64) (y1 : Option Nat) : Option (Sg × Option Nat) :=
  (pV S 15 y1 6 (.long y0)).bind fun S30 =>
  (pM S30 10 ((Zi S30 10) + 1)).bind fun S31 =>
  f_primary_253 K V V2 S31 x1
def f_primary_131 (K : Ky) (V : Sg → Int32 → Option (Sg × Option Nat)) (V2 : Sg → Option (Sg × Option Nat)) (S : Sg) (x1 : Option Nat) : Option (Sg × Option Nat) :=
  (pV S 15 x1 0 (.int 1)).bind fun S27 =>
  bnd (f_is K S27 21) fun S28 v29 =>
  if v29 = 0 then (f_primary_151 K V V2 S28 x1 0 x1) else (f_primary_151 K V V2 S28 x1 1 x1)
def f_primary (K : Ky) (V : Sg → Int32 → Option (Sg × Option Nat)) (V2 : Sg → Option (Sg × Option Nat)) (S0 : Sg) : Option (Sg × Option Nat) :=
  bnd (nO K S0 15 14 [.int 0, .int 0, .int 0, .int 0, .int 0, .int 0, .long 0, .int 0, .null, .null, .null, .int 0, .null, .null]) fun S1 a2 =>
  (pV S1 15 (some a2) 1 (.int (Zi S1 10))).bind fun S5 =>
  (rI S5 5 (Zi S5 10)).bind fun v6 =>
  if v6 = 2 then (bnd (f_named K V V2 S5 (some a2)) fun S7 v8 =>
  f_primary_253 K V V2 S7 (some a2)) else (if v6 = 3 then ((pV S5 15 (some a2) 0 (.int 0)).bind fun S9 =>
  (rJ S9 8 (Zi S9 10)).bind fun v10 =>
  (pV S9 15 (some a2) 6 (.long v10)).bind fun S11 =>
  (pM S11 10 ((Zi S11 10) + 1)).bind fun S12 =>
  f_primary_253 K V V2 S12 (some a2)) else (if v6 = 21 then (f_primary_131 K V V2 S5 (some a2)) else (if v6 = 22 then (f_primary_131 K V V2 S5 (some a2)) else (if v6 = 24 then ((pV S5 15 (some a2) 0 (.int 5)).bind fun S13 =>
  bnd (f_newFields K V V2 S13 (some a2)) fun S14 v15 =>
  f_primary_253 K V V2 S14 (some a2)) else (if v6 = 25 then ((pV S5 15 (some a2) 0 (.int 4)).bind fun S16 =>
  (pM S16 10 ((Zi S16 10) + 1)).bind fun S17 =>
  bnd (f_enterBracket K V V2 S17 (some a2)) fun S18 v19 =>
  f_primary_253 K V V2 S18 (some a2)) else (if v6 = 28 then ((pV S5 15 (some a2) 0 (.int 15)).bind fun S20 =>
  (pM S20 10 ((Zi S20 10) + 1)).bind fun S21 =>
  f_primary_253 K V V2 S21 (some a2)) else (if v6 = 61 then ((pV S5 15 (some a2) 0 (.int 7)).bind fun S22 =>
  bnd (f_enterBracket K V V2 S22 (some a2)) fun S23 v24 =>
  f_primary_253 K V V2 S23 (some a2)) else (bnd (f_fail K S5 1 (Zi S5 10)) fun S25 v26 =>
  f_primary_253 K V V2 S25 (some a2)))))))))
def f_suffixed_38 (K : Ky) (V : Sg → Int32 → Option (Sg × Option Nat)) (V2 : Sg → Option (Sg × Option Nat)) (k7 : Sg → Option Nat → Int32 → Option (Sg × Option Nat)) (S : Sg) (x1 : Option Nat) (x2 : Int32) : Option (Sg × Option Nat) :=
  (pM S 10 ((Zi S 10) + 1)).bind fun S9 =>
  bnd (nO K S9 15 14 [.int 0, .int 0, .int 0, .int 0, .int 0, .int 0, .long 0, .int 0, .null, .null, .null, .int 0, .null, .null]) fun S10 a11 =>
  (pV S10 15 (some a11) 0 (.int 14)).bind fun S14 =>
  (oI S14 15 x1 1).bind fun v15 =>
  (pV S14 15 (some a11) 1 (.int v15)).bind fun S16 =>
  (pV S16 15 (some a11) 8 (va_rf x1)).bind fun S17 =>
  bnd (f_name K S17) fun S18 v19 =>
  (pV S18 15 (some a11) 3 (.int v19)).bind fun S20 =>
  k7 S20 (some a11) (x2 + 1)
def f_suffixed_91 (K : Ky) (V : Sg → Int32 → Option (Sg × Option Nat)) (V2 : Sg → Option (Sg × Option Nat)) (S : Sg) (x1 : Option Nat) : Option (Sg × Option Nat) :=
  some (S, x1)
def f_suffixed_7 (K : Ky) (V : Sg → Int32 → Option (Sg × Option Nat)) (V2 : Sg → Option (Sg × Option Nat)) : Nat → Sg → Option Nat → Int32 → Option (Sg × Option Nat)
  | 0, _, _, _ => none
  | n9 + 1, S, x1, x2 =>
    bnd (f_ok K S) fun S3 v4 =>
    if v4 = 0 then (f_suffixed_91 K V V2 S3 x1) else (bnd (f_is K S3 56) fun S5 v6 =>
    if v6 = 0 then (f_suffixed_91 K V V2 S5 x1) else (if x2 = 16 then (bnd (f_fail K S5 2 (Zi S5 10)) fun S7 v8 =>
    f_suffixed_38 K V V2 ((f_suffixed_7 K V V2 n9)) S7 x1 x2) else (f_suffixed_38 K V V2 ((f_suffixed_7 K V V2 n9)) S5 x1 x2)))
def f_suffixed (K : Ky) (V : Sg → Int32 → Option (Sg × Option Nat)) (V2 : Sg → Option (Sg × Option Nat)) (S0 : Sg) : Option (Sg × Option Nat) :=
  bnd (f_primary K V V2 S0) fun S1 v2 =>
  f_suffixed_7 K V V2 bigN S1 v2 0
def f_chain_124 (K : Ky) (V : Sg → Int32 → Option (Sg × Option Nat)) (V2 : Sg → Option (Sg × Option Nat)) (k29 : Sg → Int32 → Option Nat → Option Nat → Option (Sg × Option Nat)) (S : Sg) (x1 : Int32) (x2 : Option Nat) (x3 : Option Nat) (x4 : Int32) (x5 : Option Nat) : Option (Sg × Option Nat) :=
  bnd (f_add K S x3 x5 x4) fun S24 v25 =>
  k29 S24 x1 x2 x3
def f_chain_144 (K : Ky) (V : Sg → Int32 → Option (Sg × Option Nat)) (V2 : Sg → Option (Sg × Option Nat)) (S : Sg) (y0 : Option Nat) : Option (Sg × Option Nat) :=
  some (S, y0)
def f_chain_135 (K : Ky) (V : Sg → Int32 → Option (Sg × Option Nat)) (V2 : Sg → Option (Sg × Option Nat)) (S : Sg) (x2 : Option Nat) (x3 : Option Nat) : Option (Sg × Option Nat) :=
  if x3 = none then (f_chain_144 K V V2 S x2) else (f_chain_144 K V V2 S x3)
def f_chain_29 (K : Ky) (V : Sg → Int32 → Option (Sg × Option Nat)) (V2 : Sg → Option (Sg × Option Nat)) : Nat → Sg → Int32 → Option Nat → Option Nat → Option (Sg × Option Nat)
  | 0, _, _, _, _ => none
  | n9 + 1, S, x1, x2, x3 =>
    bnd (f_ok K S) fun S5 v6 =>
    if v6 = 0 then (f_chain_135 K V V2 S5 x2 x3) else ((rI S5 5 (Zi S5 10)).bind fun v7 =>
    bnd (f_levelOf K S5 v7) fun S8 v9 =>
    if v9 = x1 then ((pM S8 10 ((Zi S8 10) + 1)).bind fun S10 =>
    bnd (f_enter K S10 (Zi S8 10)) fun S11 v12 =>
    bnd (V S11 (x1 + 1)) fun S13 v14 =>
    (pM S13 15 ((Zi S13 15) - 1)).bind fun S15 =>
    if x3 = none then (bnd (nO K S15 15 14 [.int 0, .int 0, .int 0, .int 0, .int 0, .int 0, .long 0, .int 0, .null, .null, .null, .int 0, .null, .null]) fun S16 a17 =>
    (pV S16 15 (some a17) 0 (.int 8)).bind fun S20 =>
    (oI S20 15 x2 1).bind fun v21 =>
    (pV S20 15 (some a17) 1 (.int v21)).bind fun S22 =>
    (pV S22 15 (some a17) 8 (va_rf x2)).bind fun S23 =>
    f_chain_124 K V V2 ((f_chain_29 K V V2 n9)) S23 x1 x2 (some a17) (Zi S8 10) v14) else (f_chain_124 K V V2 ((f_chain_29 K V V2 n9)) S15 x1 x2 x3 (Zi S8 10) v14)) else (f_chain_135 K V V2 S8 x2 x3))
def f_chain_19 (K : Ky) (V : Sg → Int32 → Option (Sg × Option Nat)) (V2 : Sg → Option (Sg × Option Nat)) (S : Sg) (x1 : Int32) (y0 : Option Nat) : Option (Sg × Option Nat) :=
  if x1 ≤ 5 then (f_chain_29 K V V2 bigN S x1 y0 none) else (some (S, y0))
def f_chain (K : Ky) (V : Sg → Int32 → Option (Sg × Option Nat)) (V2 : Sg → Option (Sg × Option Nat)) (S0 : Sg) (x1 : Int32) : Option (Sg × Option Nat) :=
  if x1 ≤ 5 then (bnd (V S0 (x1 + 1)) fun S1 v2 =>
  f_chain_19 K V V2 S1 x1 v2) else (bnd (V2 S0) fun S3 v4 =>
  f_chain_19 K V V2 S3 x1 v4)
def f_unary_164 (K : Ky) (V : Sg → Int32 → Option (Sg × Option Nat)) (V2 : Sg → Option (Sg × Option Nat)) (S : Sg) (x1 : Option Nat) : Option (Sg × Option Nat) :=
  bnd (V2 S) fun S20 v21 =>
  (pV S20 15 x1 8 (va_rf v21)).bind fun S22 =>
  (pM S22 15 ((Zi S22 15) - 1)).bind fun S23 =>
  some (S23, x1)
def f_unary_138 (K : Ky) (V : Sg → Int32 → Option (Sg × Option Nat)) (V2 : Sg → Option (Sg × Option Nat)) (S : Sg) (x1 : Option Nat) (x2 : Int32) : Option (Sg × Option Nat) :=
  (pM S 10 ((Zi S 10) + 1)).bind fun S16 =>
  if x2 = 55 then (bnd (f_takes K S16 14) fun S17 v18 =>
  (pZ S17 15 x1 7 v18).bind fun S19 =>
  f_unary_164 K V V2 S19 x1) else (f_unary_164 K V V2 S16 x1)
def f_unary_117 (K : Ky) (V : Sg → Int32 → Option (Sg × Option Nat)) (V2 : Sg → Option (Sg × Option Nat)) (S : Sg) (x1 : Option Nat) (x2 : Int32) (y0 : Int32) (y1 : Option Nat) : Option (Sg × Option Nat) :=
  (pV S 15 y1 0 (.int y0)).bind fun S11 =>
  bnd (f_enter K S11 (Zi S11 10)) fun S12 v13 =>
  if x2 = 55 then (bnd (f_borrow K S12) fun S14 v15 =>
  f_unary_138 K V V2 S14 x1 x2) else (f_unary_138 K V V2 S12 x1 x2)
def f_unary_62 (K : Ky) (V : Sg → Int32 → Option (Sg × Option Nat)) (V2 : Sg → Option (Sg × Option Nat)) (S : Sg) (x1 : Option Nat) (x2 : Int32) : Option (Sg × Option Nat) :=
  (pV S 15 x1 1 (.int (Zi S 10))).bind fun S10 =>
  if x2 = 53 then (f_unary_117 K V V2 S10 x1 x2 9 x1) else (if x2 = 41 then (f_unary_117 K V V2 S10 x1 x2 10 x1) else (if x2 = 42 then (f_unary_117 K V V2 S10 x1 x2 11 x1) else (if x2 = 55 then (f_unary_117 K V V2 S10 x1 x2 12 x1) else (f_unary_117 K V V2 S10 x1 x2 13 x1))))
def f_unary (K : Ky) (V : Sg → Int32 → Option (Sg × Option Nat)) (V2 : Sg → Option (Sg × Option Nat)) (S0 : Sg) : Option (Sg × Option Nat) :=
  bnd (nO K S0 15 14 [.int 0, .int 0, .int 0, .int 0, .int 0, .int 0, .long 0, .int 0, .null, .null, .null, .int 0, .null, .null]) fun S1 a2 =>
  bnd (f_ok K S1) fun S5 v6 =>
  if v6 = 0 then (some (S5, some a2)) else ((rI S5 5 (Zi S5 10)).bind fun v7 =>
  if v7 = 53 then (f_unary_62 K V V2 S5 (some a2) v7) else (if v7 = 41 then (f_unary_62 K V V2 S5 (some a2) v7) else (if v7 = 42 then (f_unary_62 K V V2 S5 (some a2) v7) else (if v7 = 55 then (f_unary_62 K V V2 S5 (some a2) v7) else (if v7 = 23 then (f_unary_62 K V V2 S5 (some a2) v7) else (bnd (f_suffixed K V V2 S5) fun S8 v9 =>
  some (S8, v9)))))))
def g_X23_chain (K : Ky) : Nat → ((Sg → Int32 → Option (Sg × Option Nat)) × (Sg → Option (Sg × Option Nat)))
  | 0 => (fun _ _ => none, fun _ => none)
  | d + 1 => (f_chain K (g_X23_chain K d).1 (g_X23_chain K d).2, f_unary K (g_X23_chain K d).1 (g_X23_chain K d).2)
def f_chain9 (K : Ky) (d : Nat) : Sg → Int32 → Option (Sg × Option Nat) := (g_X23_chain K d).1
def f_unary9 (K : Ky) (d : Nat) : Sg → Option (Sg × Option Nat) := (g_X23_chain K d).2
def f_growBranch_22 (K : Ky) : Nat → Sg → Option Nat → Option Nat → Option Nat → Int32 → Option (Sg × Unit)
  | 0, _, _, _, _, _ => none
  | n9 + 1, S, x0, x1, x2, x3 =>
    (oI S 19 x0 13).bind fun v7 =>
    if v7 ≤ x3 then ((pV S 19 x0 10 (va_rf x1)).bind fun S8 =>
    (pV S8 19 x0 11 (va_rf x2)).bind fun S9 =>
    some (S9, ())) else ((oR S 19 x0 10).bind fun v10 =>
    (aQ K 9 S v10 x3).bind fun v11 =>
    (bQ K 9 15 S x1 x3 v11).bind fun S12 =>
    (oR S12 19 x0 11).bind fun v13 =>
    (aQ K 10 S12 v13 x3).bind fun v14 =>
    (bQ K 10 14 S12 x2 x3 v14).bind fun S15 =>
    f_growBranch_22 K n9 S15 x0 x1 x2 (x3 + 1))
def f_growBranch (K : Ky) (S0 : Sg) (x0 : Option Nat) : Option (Sg × Unit) :=
  (oI S0 19 x0 13).bind fun v1 =>
  bnd (nQ K 9 S0 (2 * v1)) fun S2 a3 =>
  (oI S2 19 x0 13).bind fun v4 =>
  bnd (nQ K 10 S2 (2 * v4)) fun S5 a6 =>
  f_growBranch_22 K bigN S5 x0 (some a3) (some a6) 0
def f_oneVariable_33 (K : Ky) (S : Sg) : Option (Sg × Unit) :=
  (pM S 16 ((Zi S 16) + 1)).bind fun S7 =>
  some (S7, ())
def f_oneVariable (K : Ky) (S0 : Sg) : Option (Sg × Unit) :=
  bnd (f_ok K S0) fun S1 v2 =>
  if v2 = 0 then (f_oneVariable_33 K S1) else (bnd (f_is K S1 2) fun S3 v4 =>
  if v4 = 0 then (f_oneVariable_33 K S3) else (if (Zi S3 16) = 40 then (bnd (f_fail K S3 2 (Zi S3 10)) fun S5 v6 =>
  f_oneVariable_33 K S5) else (f_oneVariable_33 K S3)))
def f_let_71 (K : Ky) (S : Sg) : Option (Sg × Unit) :=
  bnd (f_take K S 60) fun S21 v22 =>
  some (S21, ())
def f_let_54 (K : Ky) (S : Sg) (x1 : Option Nat) : Option (Sg × Unit) :=
  bnd (f_takes K S 54) fun S16 v17 =>
  if v17 = 0 then (f_let_71 K S16) else (bnd (f_exp K (f_chain9 K 140) (f_unary9 K 140) S16) fun S18 v19 =>
  (pV S18 19 x1 6 (va_rf v19)).bind fun S20 =>
  f_let_71 K S20)
def f_let (K : Ky) (S0 : Sg) (x1 : Option Nat) : Option (Sg × Unit) :=
  (pV S0 19 x1 0 (.int 0)).bind fun S1 =>
  (pM S1 10 ((Zi S1 10) + 1)).bind fun S2 =>
  bnd (f_takes K S2 14) fun S3 v4 =>
  (pZ S3 19 x1 3 v4).bind fun S5 =>
  bnd (f_oneVariable K S5) fun S6 v7 =>
  bnd (f_name K S6) fun S8 v9 =>
  (pV S8 19 x1 2 (.int v9)).bind fun S10 =>
  bnd (f_takes K S10 58) fun S11 v12 =>
  if v12 = 0 then (f_let_54 K S11 x1) else (bnd (f_written K 20 S11) fun S13 v14 =>
  (pV S13 19 x1 5 (va_rf v14)).bind fun S15 =>
  f_let_54 K S15 x1)
def f_X13_init (K : Ky) (S0 : Sg) (x0 : Nat) : Option (Sg × Unit) :=
  bnd (nA K S0 12) fun S1 a2 =>
  (pV S1 13 (some x0) 2 (va_rf (some a2))).bind fun S3 =>
  bnd (nQ K 5 S3 12) fun S4 a5 =>
  (pV S4 13 (some x0) 4 (va_rf (some a5))).bind fun S6 =>
  some (S6, ())
end
-- k1.c03.lean.txt
section
def f_isPlace_33 (K : Ky) (k2 : Sg → Option Nat → Option (Sg × Int32)) (S : Sg) (x1 : Option Nat) : Option (Sg × Int32) :=
  (oR S 15 x1 8).bind fun v4 =>
  k2 S v4
def f_isPlace_58 (K : Ky) (S : Sg) (y0 : Int32) : Option (Sg × Int32) :=
  (zB y0).bind fun _ => some (S, y0)
def f_isPlace_57 (K : Ky) (S : Sg) : Option (Sg × Int32) :=
  f_isPlace_58 K S 0
def f_isPlace_41 (K : Ky) (S : Sg) (x1 : Option Nat) : Option (Sg × Int32) :=
  if x1 = none then (f_isPlace_57 K S) else ((oI S 15 x1 0).bind fun v5 =>
  if v5 = 2 then (f_isPlace_58 K S 1) else (f_isPlace_57 K S))
def f_isPlace_2 (K : Ky) : Nat → Sg → Option Nat → Option (Sg × Int32)
  | 0, _, _ => none
  | n9 + 1, S, x1 =>
    if x1 = none then (f_isPlace_41 K S x1) else ((oI S 15 x1 0).bind fun v1 =>
    if v1 = 7 then (f_isPlace_33 K ((f_isPlace_2 K n9)) S x1) else ((oI S 15 x1 0).bind fun v2 =>
    if v2 = 14 then (f_isPlace_33 K ((f_isPlace_2 K n9)) S x1) else ((oI S 15 x1 0).bind fun v3 =>
    if v3 = 11 then (f_isPlace_33 K ((f_isPlace_2 K n9)) S x1) else (f_isPlace_41 K S x1))))
def f_isPlace (K : Ky) (S0 : Sg) (x0 : Option Nat) : Option (Sg × Int32) :=
  f_isPlace_2 K bigN S0 x0
def f_plain_80 (K : Ky) (S : Sg) : Option (Sg × Unit) :=
  bnd (f_take K S 60) fun S21 v22 =>
  some (S21, ())
def f_plain (K : Ky) (S0 : Sg) (x1 : Option Nat) : Option (Sg × Unit) :=
  (pV S0 19 x1 0 (.int 1)).bind fun S1 =>
  bnd (f_exp K (f_chain9 K 140) (f_unary9 K 140) S1) fun S2 v3 =>
  (pV S2 19 x1 6 (va_rf v3)).bind fun S4 =>
  bnd (f_ok K S4) fun S5 v6 =>
  if v6 = 0 then (f_plain_80 K S5) else (bnd (f_is K S5 54) fun S7 v8 =>
  if v8 = 0 then (f_plain_80 K S7) else ((oR S7 19 x1 6).bind fun v9 =>
  bnd (f_isPlace K S7 v9) fun S10 v11 =>
  if v11 = 0 then (bnd (f_fail K S10 1 (Zi S10 10)) fun S19 v20 =>
  some (S19, ())) else ((pM S10 10 ((Zi S10 10) + 1)).bind fun S12 =>
  (pV S12 19 x1 0 (.int 2)).bind fun S13 =>
  (oR S13 19 x1 6).bind fun v14 =>
  (pV S13 19 x1 7 (va_rf v14)).bind fun S15 =>
  bnd (f_exp K (f_chain9 K 140) (f_unary9 K 140) S15) fun S16 v17 =>
  (pV S16 19 x1 6 (va_rf v17)).bind fun S18 =>
  f_plain_80 K S18)))
def f_arm_74 (K : Ky) (V : Sg → Option (Sg × Option Nat)) (k27 : Sg → Option Nat → Int32 → Option (Sg × Option Nat)) (S : Sg) (x1 : Option Nat) : Option (Sg × Option Nat) :=
  (oI S 13 x1 3).bind fun v24 =>
  (pV S 13 x1 3 (.int (v24 + 1))).bind fun S25 =>
  bnd (f_takes K S25 57) fun S26 v27 =>
  k27 S26 x1 v27
def f_arm_100 (K : Ky) (V : Sg → Option (Sg × Option Nat)) (S : Sg) (x1 : Option Nat) : Option (Sg × Option Nat) :=
  bnd (f_take K S 66) fun S30 v31 =>
  bnd (V S30) fun S32 v33 =>
  (pV S32 13 x1 5 (va_rf v33)).bind fun S34 =>
  some (S34, x1)
def f_arm_94 (K : Ky) (V : Sg → Option (Sg × Option Nat)) (S : Sg) (x1 : Option Nat) : Option (Sg × Option Nat) :=
  bnd (f_take K S 62) fun S28 v29 =>
  f_arm_100 K V S28 x1
def f_arm_27 (K : Ky) (V : Sg → Option (Sg × Option Nat)) : Nat → Sg → Option Nat → Int32 → Option (Sg × Option Nat)
  | 0, _, _, _ => none
  | n9 + 1, S, x1, x2 =>
    bnd (f_ok K S) fun S10 v11 =>
    if v11 = 0 then (f_arm_94 K V S10 x1) else (if x2 = 0 then (f_arm_94 K V S10 x1) else ((oI S10 13 x1 3).bind fun v12 =>
    bnd (f_limit K S10 v12 12) fun S13 v14 =>
    bnd (f_oneVariable K S13) fun S15 v16 =>
    bnd (f_name K S15) fun S17 v18 =>
    bnd (f_ok K S17) fun S19 v20 =>
    if v20 = 0 then (f_arm_74 K V ((f_arm_27 K V n9)) S19 x1) else ((oR S19 13 x1 2).bind fun v21 =>
    (oI S19 13 x1 3).bind fun v22 =>
    (bI K S19 v21 v22 v18).bind fun S23 =>
    f_arm_74 K V ((f_arm_27 K V n9)) S23 x1)))
def f_arm (K : Ky) (V : Sg → Option (Sg × Option Nat)) (S0 : Sg) : Option (Sg × Option Nat) :=
  bnd (nO K S0 13 6 [.int 0, .int 0, .null, .int 0, .null, .null]) fun S1 a2 =>
  bnd (f_X13_init K S1 a2) fun S3 _ =>
  bnd (f_name K S3) fun S5 v6 =>
  (pV S5 13 (some a2) 0 (.int v6)).bind fun S7 =>
  bnd (f_takes K S7 61) fun S8 v9 =>
  if v9 = 0 then (f_arm_100 K V S8 (some a2)) else (f_arm_27 K V bigN S8 (some a2) 1)
def f_match_214 (K : Ky) (V : Sg → Option (Sg × Option Nat)) (k146 : Sg → Option Nat → Option (Sg × Unit)) (S : Sg) (x1 : Option Nat) : Option (Sg × Unit) :=
  (oR S 19 x1 12).bind fun v50 =>
  (oI S 19 x1 13).bind fun v51 =>
  bnd (f_arm K V S) fun S52 v53 =>
  (bQ K 7 13 S52 v50 v51 v53).bind fun S54 =>
  (oI S54 19 x1 13).bind fun v55 =>
  (pV S54 19 x1 13 (.int (v55 + 1))).bind fun S56 =>
  k146 S56 x1
def f_match_186 (K : Ky) (V : Sg → Option (Sg × Option Nat)) (k146 : Sg → Option Nat → Option (Sg × Unit)) : Nat → Sg → Option Nat → Option Nat → Int32 → Option (Sg × Unit)
  | 0, _, _, _, _ => none
  | n9 + 1, S, x1, x2, x3 =>
    (oI S 19 x1 13).bind fun v45 =>
    if v45 ≤ x3 then ((pV S 19 x1 12 (va_rf x2)).bind fun S46 =>
    f_match_214 K V k146 S46 x1) else ((oR S 19 x1 12).bind fun v47 =>
    (aQ K 7 S v47 x3).bind fun v48 =>
    (bQ K 7 13 S x2 x3 v48).bind fun S49 =>
    f_match_186 K V k146 n9 S49 x1 x2 (x3 + 1))
def f_match_240 (K : Ky) (V : Sg → Option (Sg × Option Nat)) (S : Sg) : Option (Sg × Unit) :=
  (pM S 15 ((Zi S 15) - 1)).bind fun S57 =>
  bnd (f_take K S57 64) fun S58 v59 =>
  some (S58, ())
def f_match_146 (K : Ky) (V : Sg → Option (Sg × Option Nat)) : Nat → Sg → Option Nat → Option (Sg × Unit)
  | 0, _, _ => none
  | n9 + 1, S, x1 =>
    bnd (f_ok K S) fun S35 v36 =>
    if v36 = 0 then (f_match_240 K V S35) else (bnd (f_is K S35 64) fun S37 v38 =>
    if v38 = 0 then ((oI S37 19 x1 13).bind fun v39 =>
    (oR S37 19 x1 12).bind fun v40 =>
    (aLn K 7 S37 v40).bind fun v41 =>
    if v39 = v41 then ((oI S37 19 x1 13).bind fun v42 =>
    bnd (nQ K 7 S37 (2 * v42)) fun S43 a44 =>
    f_match_186 K V ((f_match_146 K V n9)) bigN S43 x1 (some a44) 0) else (f_match_214 K V ((f_match_146 K V n9)) S37 x1)) else (f_match_240 K V S37))
def f_match_132 (K : Ky) (V : Sg → Option (Sg × Option Nat)) (S : Sg) (x1 : Option Nat) : Option (Sg × Unit) :=
  bnd (f_take K S 63) fun S30 v31 =>
  bnd (nQ K 7 S30 4) fun S32 a33 =>
  (pV S32 19 x1 12 (va_rf (some a33))).bind fun S34 =>
  f_match_146 K V bigN S34 x1
def f_match_94 (K : Ky) (V : Sg → Option (Sg × Option Nat)) (S : Sg) (x1 : Option Nat) : Option (Sg × Unit) :=
  bnd (f_ok K S) fun S23 v24 =>
  if v24 = 0 then (some (S23, ())) else (bnd (f_is K S23 63) fun S25 v26 =>
  if v26 = 0 then ((pM S25 15 ((Zi S25 15) + 1)).bind fun S27 =>
  f_match_132 K V S27 x1) else (bnd (f_enter K S25 (Zi S25 10)) fun S28 v29 =>
  f_match_132 K V S28 x1))
def f_match_53 (K : Ky) (V : Sg → Option (Sg × Option Nat)) (S : Sg) (x1 : Option Nat) : Option (Sg × Unit) :=
  bnd (f_exp K (f_chain9 K 140) (f_unary9 K 140) S) fun S12 v13 =>
  (pV S12 19 x1 6 (va_rf v13)).bind fun S14 =>
  bnd (f_ok K S14) fun S15 v16 =>
  if v16 = 0 then (f_match_94 K V S15 x1) else ((oI S15 19 x1 4).bind fun v17 =>
  if v17 = 0 then (f_match_94 K V S15 x1) else ((oR S15 19 x1 6).bind fun v18 =>
  bnd (f_isPlace K S15 v18) fun S19 v20 =>
  if v20 = 0 then (bnd (f_fail K S19 1 (Zi S19 10)) fun S21 v22 =>
  f_match_94 K V S21 x1) else (f_match_94 K V S19 x1)))
def f_match (K : Ky) (V : Sg → Option (Sg × Option Nat)) (S0 : Sg) (x1 : Option Nat) : Option (Sg × Unit) :=
  (pV S0 19 x1 0 (.int 5)).bind fun S1 =>
  (pM S1 10 ((Zi S1 10) + 1)).bind fun S2 =>
  bnd (f_is K S2 55) fun S3 v4 =>
  if v4 = 0 then (f_match_53 K V S3 x1) else (bnd (f_borrow K S3) fun S5 v6 =>
  (pM S5 10 ((Zi S5 10) + 1)).bind fun S7 =>
  (pZ S7 19 x1 4 1).bind fun S8 =>
  bnd (f_takes K S8 14) fun S9 v10 =>
  (pZ S9 19 x1 3 v10).bind fun S11 =>
  f_match_53 K V S11 x1)
def f_branch_115 (K : Ky) (V : Sg → Option (Sg × Option Nat)) (k23 : Sg → Option Nat → Int32 → Option (Sg × Unit)) (S : Sg) (x1 : Option Nat) (y0 : Int32) : Option (Sg × Unit) :=
  k23 S x1 y0
def f_branch_114 (K : Ky) (V : Sg → Option (Sg × Option Nat)) (k23 : Sg → Option Nat → Int32 → Option (Sg × Unit)) (S : Sg) (x1 : Option Nat) : Option (Sg × Unit) :=
  f_branch_115 K V k23 S x1 0
def f_branch_74 (K : Ky) (V : Sg → Option (Sg × Option Nat)) (k23 : Sg → Option Nat → Int32 → Option (Sg × Unit)) (S : Sg) (x1 : Option Nat) (x3 : Int32) : Option (Sg × Unit) :=
  (oR S 19 x1 11).bind fun v22 =>
  (oI S 19 x1 13).bind fun v23 =>
  bnd (V S) fun S24 v25 =>
  (bQ K 10 14 S24 v22 v23 v25).bind fun S26 =>
  (oI S26 19 x1 13).bind fun v27 =>
  (pV S26 19 x1 13 (.int (v27 + 1))).bind fun S28 =>
  if x3 = 0 then (f_branch_114 K V k23 S28 x1) else (bnd (f_takes K S28 16) fun S29 v30 =>
  if v30 = 0 then (f_branch_114 K V k23 S29 x1) else (f_branch_115 K V k23 S29 x1 1))
def f_branch_50 (K : Ky) (V : Sg → Option (Sg × Option Nat)) (k23 : Sg → Option Nat → Int32 → Option (Sg × Unit)) (S : Sg) (x1 : Option Nat) : Option (Sg × Unit) :=
  bnd (f_takes K S 15) fun S15 v16 =>
  if v16 = 0 then (f_branch_74 K V k23 S15 x1 v16) else ((oR S15 19 x1 10).bind fun v17 =>
  (oI S15 19 x1 13).bind fun v18 =>
  bnd (f_exp K (f_chain9 K 140) (f_unary9 K 140) S15) fun S19 v20 =>
  (bQ K 9 15 S19 v17 v18 v20).bind fun S21 =>
  f_branch_74 K V k23 S21 x1 v16)
def f_branch_119 (K : Ky) (V : Sg → Option (Sg × Option Nat)) (S : Sg) : Option (Sg × Unit) :=
  some (S, ())
def f_branch_23 (K : Ky) (V : Sg → Option (Sg × Option Nat)) : Nat → Sg → Option Nat → Int32 → Option (Sg × Unit)
  | 0, _, _, _ => none
  | n9 + 1, S, x1, x2 =>
    bnd (f_ok K S) fun S8 v9 =>
    if v9 = 0 then (f_branch_119 K V S8) else (if x2 = 0 then (f_branch_119 K V S8) else ((oI S8 19 x1 13).bind fun v10 =>
    (oR S8 19 x1 11).bind fun v11 =>
    (aLn K 10 S8 v11).bind fun v12 =>
    if v10 = v12 then (bnd (f_growBranch K S8 x1) fun S13 v14 =>
    f_branch_50 K V ((f_branch_23 K V n9)) S13 x1) else (f_branch_50 K V ((f_branch_23 K V n9)) S8 x1)))
def f_branch (K : Ky) (V : Sg → Option (Sg × Option Nat)) (S0 : Sg) (x1 : Option Nat) : Option (Sg × Unit) :=
  (pV S0 19 x1 0 (.int 3)).bind fun S1 =>
  bnd (nQ K 9 S1 4) fun S2 a3 =>
  (pV S2 19 x1 10 (va_rf (some a3))).bind fun S4 =>
  bnd (nQ K 10 S4 4) fun S5 a6 =>
  (pV S5 19 x1 11 (va_rf (some a6))).bind fun S7 =>
  f_branch_23 K V bigN S7 x1 1
def f_statement_247 (K : Ky) (V : Sg → Option (Sg × Option Nat)) (S : Sg) (x1 : Option Nat) : Option (Sg × Option Nat) :=
  some (S, x1)
def f_statement_183 (K : Ky) (V : Sg → Option (Sg × Option Nat)) (S : Sg) (x1 : Option Nat) : Option (Sg × Option Nat) :=
  bnd (f_take K S 60) fun S41 v42 =>
  f_statement_247 K V S41 x1
def f_statement (K : Ky) (V : Sg → Option (Sg × Option Nat)) (S0 : Sg) : Option (Sg × Option Nat) :=
  bnd (nO K S0 19 14 [.int 0, .int 0, .int 0, .int 0, .int 0, .null, .null, .null, .null, .null, .null, .null, .null, .int 0]) fun S1 a2 =>
  (pV S1 19 (some a2) 1 (.int (Zi S1 10))).bind fun S5 =>
  (rI S5 5 (Zi S5 10)).bind fun v6 =>
  if v6 = 13 then (bnd (f_let K S5 (some a2)) fun S7 v8 =>
  f_statement_247 K V S7 (some a2)) else (if v6 = 15 then (bnd (f_branch K V S5 (some a2)) fun S9 v10 =>
  f_statement_247 K V S9 (some a2)) else (if v6 = 17 then ((pV S5 19 (some a2) 0 (.int 4)).bind fun S11 =>
  (pM S11 10 ((Zi S11 10) + 1)).bind fun S12 =>
  bnd (f_exp K (f_chain9 K 140) (f_unary9 K 140) S12) fun S13 v14 =>
  (pV S13 19 (some a2) 6 (va_rf v14)).bind fun S15 =>
  bnd (V S15) fun S16 v17 =>
  (pV S16 19 (some a2) 9 (va_rf v17)).bind fun S18 =>
  f_statement_247 K V S18 (some a2)) else (if v6 = 18 then (bnd (f_match K V S5 (some a2)) fun S19 v20 =>
  f_statement_247 K V S19 (some a2)) else (if v6 = 19 then ((pV S5 19 (some a2) 0 (.int 6)).bind fun S21 =>
  (pM S21 10 ((Zi S21 10) + 1)).bind fun S22 =>
  bnd (f_is K S22 60) fun S23 v24 =>
  if v24 = 0 then (bnd (f_exp K (f_chain9 K 140) (f_unary9 K 140) S23) fun S25 v26 =>
  (pV S25 19 (some a2) 6 (va_rf v26)).bind fun S27 =>
  f_statement_183 K V S27 (some a2)) else (f_statement_183 K V S23 (some a2))) else (if v6 = 20 then ((pV S5 19 (some a2) 0 (.int 7)).bind fun S28 =>
  (pM S28 10 ((Zi S28 10) + 1)).bind fun S29 =>
  bnd (f_exp K (f_chain9 K 140) (f_unary9 K 140) S29) fun S30 v31 =>
  (pV S30 19 (some a2) 6 (va_rf v31)).bind fun S32 =>
  bnd (f_take K S32 60) fun S33 v34 =>
  f_statement_247 K V S33 (some a2)) else (if v6 = 63 then ((pV S5 19 (some a2) 0 (.int 8)).bind fun S35 =>
  bnd (V S35) fun S36 v37 =>
  (pV S36 19 (some a2) 9 (va_rf v37)).bind fun S38 =>
  f_statement_247 K V S38 (some a2)) else (bnd (f_plain K S5 (some a2)) fun S39 v40 =>
  f_statement_247 K V S39 (some a2))))))))
def f_block_138 (K : Ky) (V : Sg → Option (Sg × Option Nat)) (k61 : Sg → Option Nat → Option (Sg × Option Nat)) (S : Sg) (x1 : Option Nat) (x2 : Option Nat) : Option (Sg × Option Nat) :=
  (oR S 14 x1 2).bind fun v32 =>
  (oI S 14 x1 3).bind fun v33 =>
  (bQ K 11 19 S v32 v33 x2).bind fun S34 =>
  (oI S34 14 x1 3).bind fun v35 =>
  (pV S34 14 x1 3 (.int (v35 + 1))).bind fun S36 =>
  k61 S36 x1
def f_block_107 (K : Ky) (V : Sg → Option (Sg × Option Nat)) (k61 : Sg → Option Nat → Option (Sg × Option Nat)) : Nat → Sg → Option Nat → Option Nat → Option Nat → Int32 → Option (Sg × Option Nat)
  | 0, _, _, _, _, _ => none
  | n9 + 1, S, x1, x2, x3, x4 =>
    (oI S 14 x1 3).bind fun v27 =>
    if v27 ≤ x4 then ((pV S 14 x1 2 (va_rf x3)).bind fun S28 =>
    f_block_138 K V k61 S28 x1 x2) else ((oR S 14 x1 2).bind fun v29 =>
    (aQ K 11 S v29 x4).bind fun v30 =>
    (bQ K 11 19 S x3 x4 v30).bind fun S31 =>
    f_block_107 K V k61 n9 S31 x1 x2 x3 (x4 + 1))
def f_block_161 (K : Ky) (V : Sg → Option (Sg × Option Nat)) (S : Sg) (x1 : Option Nat) : Option (Sg × Option Nat) :=
  (pM S 15 ((Zi S 15) - 1)).bind fun S37 =>
  (pV S37 14 x1 1 (.int (Zi S37 10))).bind fun S38 =>
  bnd (f_take K S38 64) fun S39 v40 =>
  some (S39, x1)
def f_block_61 (K : Ky) (V : Sg → Option (Sg × Option Nat)) : Nat → Sg → Option Nat → Option (Sg × Option Nat)
  | 0, _, _ => none
  | n9 + 1, S, x1 =>
    bnd (f_ok K S) fun S15 v16 =>
    if v16 = 0 then (f_block_161 K V S15 x1) else (bnd (f_is K S15 64) fun S17 v18 =>
    if v18 = 0 then (bnd (f_statement K V S17) fun S19 v20 =>
    (oI S19 14 x1 3).bind fun v21 =>
    (oR S19 14 x1 2).bind fun v22 =>
    (aLn K 11 S19 v22).bind fun v23 =>
    if v21 = v23 then ((oI S19 14 x1 3).bind fun v24 =>
    bnd (nQ K 11 S19 (2 * v24)) fun S25 a26 =>
    f_block_107 K V ((f_block_61 K V n9)) bigN S25 x1 v20 (some a26) 0) else (f_block_138 K V ((f_block_61 K V n9)) S19 x1 v20)) else (f_block_161 K V S17 x1))
def f_block_55 (K : Ky) (V : Sg → Option (Sg × Option Nat)) (S : Sg) (x1 : Option Nat) : Option (Sg × Option Nat) :=
  bnd (f_take K S 63) fun S13 v14 =>
  f_block_61 K V bigN S13 x1
def f_block (K : Ky) : Nat → Sg → Option (Sg × Option Nat)
  | 0, _ => none
  | d + 1, S0 =>
    bnd (nO K S0 14 4 [.int 0, .int 0, .null, .int 0]) fun S1 a2 =>
    bnd (f_X14_init K S1 a2) fun S3 _ =>
    bnd (f_ok K S3) fun S5 v6 =>
    if v6 = 0 then (some (S5, some a2)) else ((pV S5 14 (some a2) 0 (.int (Zi S5 10))).bind fun S7 =>
    bnd (f_is K S7 63) fun S8 v9 =>
    if v9 = 0 then ((pM S8 15 ((Zi S8 15) + 1)).bind fun S10 =>
    f_block_55 K (f_block K d) S10 (some a2)) else (bnd (f_enter K S8 (Zi S8 10)) fun S11 v12 =>
    f_block_55 K (f_block K d) S11 (some a2)))
def f_function_194 (K : Ky) (S : Sg) (x1 : Option Nat) : Option (Sg × Unit) :=
  bnd (f_block K 20 S) fun S48 v49 =>
  (pV S48 16 x1 16 (va_rf v49)).bind fun S50 =>
  (pV S50 16 x1 18 (.int (Zi S50 16))).bind fun S51 =>
  some (S51, ())
def f_function_177 (K : Ky) (S : Sg) (x1 : Option Nat) : Option (Sg × Unit) :=
  bnd (f_takes K S 65) fun S43 v44 =>
  if v44 = 0 then (f_function_194 K S43 x1) else (bnd (f_written K 20 S43) fun S45 v46 =>
  (pV S45 16 x1 14 (va_rf v46)).bind fun S47 =>
  f_function_194 K S47 x1)
def f_function_171 (K : Ky) (S : Sg) (x1 : Option Nat) : Option (Sg × Unit) :=
  bnd (f_take K S 62) fun S41 v42 =>
  f_function_177 K S41 x1
def f_function_135 (K : Ky) : Nat → Sg → Option Nat → Int32 → Option (Sg × Unit)
  | 0, _, _, _ => none
  | n9 + 1, S, x1, x2 =>
    bnd (f_ok K S) fun S34 v35 =>
    if v35 = 0 then (f_function_171 K S34 x1) else (if x2 = 0 then (f_function_171 K S34 x1) else (bnd (f_fields K S34 x1) fun S36 v37 =>
    (pM S36 16 ((Zi S36 16) + 1)).bind fun S38 =>
    bnd (f_takes K S38 57) fun S39 v40 =>
    f_function_135 K n9 S39 x1 v40))
def f_function_103 (K : Ky) (S : Sg) (x1 : Option Nat) : Option (Sg × Unit) :=
  (pM S 15 0).bind fun S27 =>
  (pM S27 16 0).bind fun S28 =>
  (pM S28 17 0).bind fun S29 =>
  bnd (f_take K S29 61) fun S30 v31 =>
  bnd (f_takes K S30 62) fun S32 v33 =>
  if v33 = 0 then (f_function_135 K bigN S32 x1 1) else (f_function_177 K S32 x1)
def f_function_18 (K : Ky) (S : Sg) (x1 : Option Nat) : Option (Sg × Unit) :=
  (pM S 14 ((Zi S 14) + 1)).bind fun S3 =>
  (pM S3 10 ((Zi S3 10) + 1)).bind fun S4 =>
  bnd (nQ K 12 S4 13) fun S5 a6 =>
  (pV S5 16 x1 9 (va_rf (some a6))).bind fun S7 =>
  bnd (nQ K 4 S7 13) fun S8 a9 =>
  (pV S8 16 x1 10 (va_rf (some a9))).bind fun S10 =>
  bnd (nQ K 5 S10 13) fun S11 a12 =>
  (pV S11 16 x1 17 (va_rf (some a12))).bind fun S13 =>
  bnd (nA K S13 8) fun S14 a15 =>
  (pV S14 16 x1 12 (va_rf (some a15))).bind fun S16 =>
  bnd (nA K S16 13) fun S17 a18 =>
  (pV S17 16 x1 13 (va_rf (some a18))).bind fun S19 =>
  bnd (f_name K S19) fun S20 v21 =>
  (pV S20 16 x1 1 (.int v21)).bind fun S22 =>
  bnd (f_takes K S22 47) fun S23 v24 =>
  if v24 = 0 then (f_function_103 K S23 x1) else (bnd (f_takeLives K S23 x1) fun S25 v26 =>
  f_function_103 K S25 x1)
def f_function (K : Ky) (S0 : Sg) (x1 : Option Nat) : Option (Sg × Unit) :=
  if (Zi S0 14) = 40 then (bnd (f_fail K S0 2 (Zi S0 10)) fun S1 v2 =>
  f_function_18 K S1 x1) else (f_function_18 K S0 x1)
def f_X16_init (K : Ky) (S0 : Sg) (x0 : Nat) : Option (Sg × Unit) :=
  bnd (nA K S0 13) fun S1 a2 =>
  (pV S1 16 (some x0) 8 (va_rf (some a2))).bind fun S3 =>
  some (S3, ())
def f_program_128 (K : Ky) (k25 : Sg → Option (Sg × Unit)) (S : Sg) (x1 : Option Nat) : Option (Sg × Unit) :=
  bnd (f_ok K S) fun S30 v31 =>
  if v31 = 0 then (some (S30, ())) else ((wQ S30 16 11 (Zi S30 12) x1).bind fun S32 =>
  (pM S32 12 ((Zi S32 12) + 1)).bind fun S33 =>
  k25 S33)
def f_program_77 (K : Ky) (k25 : Sg → Option (Sg × Unit)) (S : Sg) : Option (Sg × Unit) :=
  bnd (nO K S 16 22 [.int 0, .int 0, .int 0, .int 0, .int 0, .int 0, .int 0, .int 0, .null, .null, .null, .null, .null, .null, .null, .null, .null, .null, .int 0, .int 0, .int 0, .int 0]) fun S18 a19 =>
  bnd (f_X16_init K S18 a19) fun S20 _ =>
  (pV S20 16 (some a19) 0 (.int (Zi S20 10))).bind fun S22 =>
  (rI S22 5 (Zi S22 10)).bind fun v23 =>
  (pV S22 16 (some a19) 2 (.int v23)).bind fun S24 =>
  (oI S24 16 (some a19) 2).bind fun v25 =>
  if v25 = 12 then (bnd (f_function K S24 (some a19)) fun S28 v29 =>
  f_program_128 K k25 S28 (some a19)) else (bnd (f_typeItem K S24 (some a19)) fun S26 v27 =>
  f_program_128 K k25 S26 (some a19))
def f_program_159 (K : Ky) (S : Sg) : Option (Sg × Unit) :=
  some (S, ())
def f_program_25 (K : Ky) : Nat → Sg → Option (Sg × Unit)
  | 0, _ => none
  | n9 + 1, S =>
    bnd (f_ok K S) fun S6 v7 =>
    if v7 = 0 then (f_program_159 K S6) else (bnd (f_is K S6 0) fun S8 v9 =>
    if v9 = 0 then (bnd (f_is K S8 10) fun S10 v11 =>
    if v11 = 0 then (bnd (f_is K S10 11) fun S12 v13 =>
    if v13 = 0 then (bnd (f_is K S12 12) fun S14 v15 =>
    if v15 = 0 then (bnd (f_fail K S14 1 (Zi S14 10)) fun S16 v17 =>
    some (S16, ())) else (f_program_77 K ((f_program_25 K n9)) S14)) else (f_program_77 K ((f_program_25 K n9)) S12)) else (f_program_77 K ((f_program_25 K n9)) S10)) else (f_program_159 K S8))
def f_program (K : Ky) (S0 : Sg) : Option (Sg × Unit) :=
  (pM S0 12 0).bind fun S1 =>
  (pM S1 13 0).bind fun S2 =>
  (pM S2 14 0).bind fun S3 =>
  (pM S3 10 0).bind fun S4 =>
  (pM S4 15 0).bind fun S5 =>
  f_program_25 K bigN S5
def f_type_62 (K : Ky) (k3 : Sg → Int32 → Int32 → Option Nat → Int32 → Option (Sg × Option Nat)) (S : Sg) (x1 : Int32) (x2 : Int32) (x3 : Option Nat) (x4 : Int32) : Option (Sg × Option Nat) :=
  k3 S x1 x2 x3 (x4 + 1)
def f_type_3 (K : Ky) : Nat → Sg → Int32 → Int32 → Option Nat → Int32 → Option (Sg × Option Nat)
  | 0, _, _, _, _, _ => none
  | n9 + 1, S, x1, x2, x3, x4 =>
    if (Zi S 19) ≤ x4 then (bnd (nO K S 20 4 [.int 0, .int 0, .int 0, .null]) fun S1 a2 =>
    (pV S1 20 (some a2) 0 (.int x1)).bind fun S5 =>
    (pV S5 20 (some a2) 1 (.int x2)).bind fun S6 =>
    (pV S6 20 (some a2) 3 (va_rf x3)).bind fun S7 =>
    (pV S7 20 (some a2) 2 (.int (Zi S7 19))).bind fun S8 =>
    (wQ S8 20 18 (Zi S8 19) (some a2)).bind fun S9 =>
    (pM S9 19 ((Zi S9 19) + 1)).bind fun S10 =>
    some (S10, some a2)) else ((rQ S 18 x4).bind fun v11 =>
    (oI S 20 v11 0).bind fun v12 =>
    if v12 = x1 then ((rQ S 18 x4).bind fun v13 =>
    (oI S 20 v13 1).bind fun v14 =>
    if v14 = x2 then ((rQ S 18 x4).bind fun v15 =>
    (oR S 20 v15 3).bind fun v16 =>
    if v16 = x3 then ((rQ S 18 x4).bind fun v17 =>
    some (S, v17)) else (f_type_62 K ((f_type_3 K n9)) S x1 x2 x3 x4)) else (f_type_62 K ((f_type_3 K n9)) S x1 x2 x3 x4)) else (f_type_62 K ((f_type_3 K n9)) S x1 x2 x3 x4))
def f_type (K : Ky) (S0 : Sg) (x1 : Int32) (x2 : Int32) (x3 : Option Nat) : Option (Sg × Option Nat) :=
  f_type_3 K bigN S0 x1 x2 x3 0
end
-- k1.c04.lean.txt
section
def f_plainType (K : Ky) (S0 : Sg) (x1 : Int32) : Option (Sg × Option Nat) :=
  bnd (f_type K S0 x1 0 none) fun S1 v2 =>
  some (S1, v2)
def f_refers_23 (K : Ky) (S : Sg) (y0 : Int32) : Option (Sg × Int32) :=
  (zB y0).bind fun _ => some (S, y0)
def f_refers_18 (K : Ky) (S : Sg) : Option (Sg × Int32) :=
  f_refers_23 K S 1
def f_refers (K : Ky) (S0 : Sg) (x0 : Option Nat) : Option (Sg × Int32) :=
  (oI S0 20 x0 0).bind fun v1 =>
  if v1 = 6 then (f_refers_18 K S0) else ((oI S0 20 x0 0).bind fun v2 =>
  if v2 = 7 then (f_refers_18 K S0) else (f_refers_23 K S0 0))
def f_copied_29 (K : Ky) (S : Sg) (y0 : Int32) : Option (Sg × Int32) :=
  (zB y0).bind fun _ => some (S, y0)
def f_copied_24 (K : Ky) (S : Sg) : Option (Sg × Int32) :=
  f_copied_29 K S 1
def f_copied (K : Ky) (S0 : Sg) (x0 : Option Nat) : Option (Sg × Int32) :=
  (oI S0 20 x0 0).bind fun v1 =>
  if v1 = 0 then (f_copied_24 K S0) else ((oI S0 20 x0 0).bind fun v2 =>
  if v2 = 1 then (f_copied_24 K S0) else ((oI S0 20 x0 0).bind fun v3 =>
  if v3 = 6 then (f_copied_24 K S0) else (f_copied_29 K S0 0)))
def f_itemNamed_2 (K : Ky) : Nat → Sg → Int32 → Int32 → Option (Sg × Int32)
  | 0, _, _, _ => none
  | n9 + 1, S, x1, x2 =>
    if (Zi S 12) ≤ x2 then (some (S, (-1))) else ((rQ S 11 x2).bind fun v1 =>
    (oI S 16 v1 1).bind fun v2 =>
    bnd (f_sameName K S v2 x1) fun S3 v4 =>
    if v4 = 0 then (f_itemNamed_2 K n9 S3 x1 (x2 + 1)) else (some (S3, x2)))
def f_itemNamed (K : Ky) (S0 : Sg) (x1 : Int32) : Option (Sg × Int32) :=
  f_itemNamed_2 K bigN S0 x1 0
def f_resolve_70 (K : Ky) (V : Sg → Option Nat → Int32 → Option (Sg × Option Nat)) (S : Sg) (y0 : Int32) : Option (Sg × Option Nat) :=
  bnd (f_plainType K S y0) fun S38 v39 =>
  some (S38, v39)
def f_resolve_42 (K : Ky) (V : Sg → Option Nat → Int32 → Option (Sg × Option Nat)) (S : Sg) (x1 : Option Nat) : Option (Sg × Option Nat) :=
  (oI S 22 x1 0).bind fun v36 =>
  if v36 = 26 then (f_resolve_70 K V S 0) else ((oI S 22 x1 0).bind fun v37 =>
  if v37 = 27 then (f_resolve_70 K V S 1) else (f_resolve_70 K V S 2))
def f_resolve_139 (K : Ky) (V : Sg → Option Nat → Int32 → Option (Sg × Option Nat)) (S : Sg) (x1 : Option Nat) (y0 : Int32) : Option (Sg × Option Nat) :=
  (oR S 22 x1 4).bind fun v26 =>
  bnd (V S v26 0) fun S27 v28 =>
  bnd (f_type K S27 y0 0 v28) fun S29 v30 =>
  some (S29, v30)
def f_resolve_183 (K : Ky) (V : Sg → Option Nat → Int32 → Option (Sg × Option Nat)) (S : Sg) (x1 : Option Nat) (x3 : Option Nat) : Option (Sg × Option Nat) :=
  (oI S 22 x1 1).bind fun v33 =>
  bnd (f_fail K S 3 v33) fun S34 v35 =>
  some (S34, x3)
def f_resolve_215 (K : Ky) (V : Sg → Option Nat → Int32 → Option (Sg × Option Nat)) (S : Sg) (x4 : Int32) (y0 : Int32) : Option (Sg × Option Nat) :=
  bnd (f_type K S y0 x4 none) fun S31 v32 =>
  some (S31, v32)
def f_resolve (K : Ky) : Nat → Sg → Option Nat → Int32 → Option (Sg × Option Nat)
  | 0, _, _, _ => none
  | d + 1, S0, x1, x2 =>
    bnd (f_plainType K S0 0) fun S1 v2 =>
    bnd (f_ok K S1) fun S3 v4 =>
    if v4 = 0 then (some (S3, v2)) else ((oI S3 22 x1 0).bind fun v5 =>
    if v5 = 26 then (f_resolve_42 K (f_resolve K d) S3 x1) else ((oI S3 22 x1 0).bind fun v6 =>
    if v6 = 27 then (f_resolve_42 K (f_resolve K d) S3 x1) else ((oI S3 22 x1 0).bind fun v7 =>
    if v7 = 25 then (f_resolve_42 K (f_resolve K d) S3 x1) else ((oI S3 22 x1 0).bind fun v8 =>
    if v8 = 23 then ((oR S3 22 x1 4).bind fun v21 =>
    bnd ((f_resolve K d) S3 v21 0) fun S22 v23 =>
    bnd (f_type K S22 5 0 v23) fun S24 v25 =>
    some (S24, v25)) else ((oI S3 22 x1 0).bind fun v9 =>
    if v9 = 55 then (if x2 = 0 then ((oI S3 22 x1 1).bind fun v18 =>
    bnd (f_fail K S3 4 v18) fun S19 v20 =>
    some (S19, v2)) else ((oI S3 22 x1 2).bind fun v17 =>
    if v17 = 1 then (f_resolve_139 K (f_resolve K d) S3 x1 7) else (f_resolve_139 K (f_resolve K d) S3 x1 6))) else ((oI S3 22 x1 1).bind fun v10 =>
    bnd (f_itemNamed K S3 v10) fun S11 v12 =>
    if v12 < 0 then (f_resolve_183 K (f_resolve K d) S11 x1 v2) else ((rQ S11 11 v12).bind fun v13 =>
    (oI S11 16 v13 2).bind fun v14 =>
    if v14 = 12 then (f_resolve_183 K (f_resolve K d) S11 x1 v2) else ((rQ S11 11 v12).bind fun v15 =>
    (oI S11 16 v15 2).bind fun v16 =>
    if v16 = 10 then (f_resolve_215 K (f_resolve K d) S11 v12 3) else (f_resolve_215 K (f_resolve K d) S11 v12 4)))))))))
def f_noLife_32 (K : Ky) (S : Sg) : Option (Sg × Unit) :=
  some (S, ())
def f_noLife (K : Ky) (S0 : Sg) (x1 : Option Nat) : Option (Sg × Unit) :=
  bnd (f_ok K S0) fun S1 v2 =>
  if v2 = 0 then (f_noLife_32 K S1) else ((oI S1 22 x1 0).bind fun v3 =>
  if v3 = 55 then ((oI S1 22 x1 3).bind fun v4 =>
  if v4 < 0 then (f_noLife_32 K S1) else ((oI S1 22 x1 3).bind fun v5 =>
  bnd (f_fail K S1 4 v5) fun S6 v7 =>
  f_noLife_32 K S6)) else (f_noLife_32 K S1))
def f_lifeIn_23 (K : Ky) (S : Sg) : Option (Sg × Int32) :=
  some (S, (-1))
def f_lifeIn_27 (K : Ky) : Nat → Sg → Option Nat → Option Nat → Int32 → Option (Sg × Int32)
  | 0, _, _, _, _ => none
  | n9 + 1, S, x1, x2, x3 =>
    (oI S 16 x1 6).bind fun v5 =>
    if v5 ≤ x3 then ((oI S 22 x2 3).bind fun v6 =>
    bnd (f_fail K S 3 v6) fun S7 v8 =>
    some (S7, (-1))) else ((oR S 16 x1 12).bind fun v9 =>
    (aI K S v9 x3).bind fun v10 =>
    (oI S 22 x2 3).bind fun v11 =>
    bnd (f_sameName K S v10 v11) fun S12 v13 =>
    if v13 = 0 then (f_lifeIn_27 K n9 S12 x1 x2 (x3 + 1)) else (some (S12, x3)))
def f_lifeIn (K : Ky) (S0 : Sg) (x1 : Option Nat) (x2 : Option Nat) : Option (Sg × Int32) :=
  bnd (f_ok K S0) fun S1 v2 =>
  if v2 = 0 then (f_lifeIn_23 K S1) else ((oI S1 22 x2 0).bind fun v3 =>
  if v3 = 55 then ((oI S1 22 x2 3).bind fun v4 =>
  if 0 ≤ v4 then (f_lifeIn_27 K bigN S1 x1 x2 0) else (f_lifeIn_23 K S1)) else (f_lifeIn_23 K S1))
def f_lives_54 (K : Ky) (k2 : Sg → Option Nat → Int32 → Option (Sg × Unit)) (k19 : Sg → Option Nat → Int32 → Int32 → Option (Sg × Unit)) (S : Sg) (x1 : Option Nat) (x2 : Int32) (x3 : Int32) : Option (Sg × Unit) :=
  k19 S x1 x2 (x3 + 1)
def f_lives_19 (K : Ky) (k2 : Sg → Option Nat → Int32 → Option (Sg × Unit)) : Nat → Sg → Option Nat → Int32 → Int32 → Option (Sg × Unit)
  | 0, _, _, _, _ => none
  | n9 + 1, S, x1, x2, x3 =>
    if x2 ≤ x3 then (k2 S x1 (x2 + 1)) else ((oR S 16 x1 12).bind fun v4 =>
    (aI K S v4 x3).bind fun v5 =>
    (oR S 16 x1 12).bind fun v6 =>
    (aI K S v6 x2).bind fun v7 =>
    bnd (f_sameName K S v5 v7) fun S8 v9 =>
    if v9 = 0 then (f_lives_54 K k2 ((f_lives_19 K k2 n9)) S8 x1 x2 x3) else ((oR S8 16 x1 12).bind fun v10 =>
    (aI K S8 v10 x2).bind fun v11 =>
    bnd (f_fail K S8 3 v11) fun S12 v13 =>
    f_lives_54 K k2 ((f_lives_19 K k2 n9)) S12 x1 x2 x3))
def f_lives_66 (K : Ky) (S : Sg) : Option (Sg × Unit) :=
  some (S, ())
def f_lives_2 (K : Ky) : Nat → Sg → Option Nat → Int32 → Option (Sg × Unit)
  | 0, _, _, _ => none
  | n9 + 1, S, x1, x2 =>
    (oI S 16 x1 6).bind fun v1 =>
    if v1 ≤ x2 then (f_lives_66 K S) else (bnd (f_ok K S) fun S2 v3 =>
    if v3 = 0 then (f_lives_66 K S2) else (f_lives_19 K ((f_lives_2 K n9)) bigN S2 x1 x2 0))
def f_lives (K : Ky) (S0 : Sg) (x1 : Option Nat) : Option (Sg × Unit) :=
  f_lives_2 K bigN S0 x1 0
def f_itemNames_56 (K : Ky) (k2 : Sg → Int32 → Option (Sg × Unit)) (k12 : Sg → Int32 → Int32 → Option (Sg × Unit)) (S : Sg) (x1 : Int32) (x2 : Int32) : Option (Sg × Unit) :=
  k12 S x1 (x2 + 1)
def f_itemNames_12 (K : Ky) (k2 : Sg → Int32 → Option (Sg × Unit)) : Nat → Sg → Int32 → Int32 → Option (Sg × Unit)
  | 0, _, _, _ => none
  | n9 + 1, S, x1, x2 =>
    if x1 ≤ x2 then (k2 S (x1 + 1)) else ((rQ S 11 x1).bind fun v1 =>
    (oI S 16 v1 1).bind fun v2 =>
    (rQ S 11 x2).bind fun v3 =>
    (oI S 16 v3 1).bind fun v4 =>
    bnd (f_sameName K S v2 v4) fun S5 v6 =>
    if v6 = 0 then (f_itemNames_56 K k2 ((f_itemNames_12 K k2 n9)) S5 x1 x2) else ((rQ S5 11 x1).bind fun v7 =>
    (oI S5 16 v7 1).bind fun v8 =>
    bnd (f_fail K S5 3 v8) fun S9 v10 =>
    f_itemNames_56 K k2 ((f_itemNames_12 K k2 n9)) S9 x1 x2))
def f_itemNames_2 (K : Ky) : Nat → Sg → Int32 → Option (Sg × Unit)
  | 0, _, _ => none
  | n9 + 1, S, x1 =>
    if (Zi S 12) ≤ x1 then (some (S, ())) else (f_itemNames_12 K ((f_itemNames_2 K n9)) bigN S x1 0)
def f_itemNames (K : Ky) (S0 : Sg) : Option (Sg × Unit) :=
  f_itemNames_2 K bigN S0 0
def f_itemTypes_68 (K : Ky) (k16 : Sg → Option Nat → Int32 → Option (Sg × Unit)) (k33 : Sg → Option Nat → Int32 → Int32 → Option (Sg × Unit)) (S : Sg) (x1 : Option Nat) (x2 : Int32) (x3 : Int32) : Option (Sg × Unit) :=
  k33 S x1 x2 (x3 + 1)
def f_itemTypes_197 (K : Ky) (k16 : Sg → Option Nat → Int32 → Option (Sg × Unit)) (S : Sg) (x1 : Option Nat) (x2 : Int32) : Option (Sg × Unit) :=
  k16 S x1 (x2 + 1)
def f_itemTypes_109 (K : Ky) (k16 : Sg → Option Nat → Int32 → Option (Sg × Unit)) (S : Sg) (x1 : Option Nat) (x2 : Int32) (y0 : Int32) (y1 : Option Nat) (y3 : Int32) (y4 : Option Nat) : Option (Sg × Unit) :=
  bnd (f_resolve K 20 S y1 y0) fun S22 v23 =>
  (bQ K 4 20 S22 y4 y3 v23).bind fun S24 =>
  (oI S24 16 x1 2).bind fun v25 =>
  if v25 = 12 then ((oR S24 16 x1 13).bind fun v26 =>
  (oR S24 16 x1 9).bind fun v27 =>
  (aQ K 12 S24 v27 x2).bind fun v28 =>
  bnd (f_lifeIn K S24 x1 v28) fun S29 v30 =>
  (bI K S29 v26 x2 v30).bind fun S31 =>
  f_itemTypes_197 K k16 S31 x1 x2) else (f_itemTypes_197 K k16 S24 x1 x2)
def f_itemTypes_144 (K : Ky) (k16 : Sg → Option Nat → Int32 → Option (Sg × Unit)) : Nat → Sg → Option Nat → Int32 → Int32 → Option (Sg × Unit)
  | 0, _, _, _, _ => none
  | n9 + 1, S, x1, x2, x3 =>
    (oR S 16 x1 11).bind fun v32 =>
    (aQ K 13 S v32 x2).bind fun v33 =>
    (oI S 17 v33 0).bind fun v34 =>
    if v34 ≤ x3 then (f_itemTypes_197 K k16 S x1 x2) else (bnd (f_ok K S) fun S35 v36 =>
    if v36 = 0 then (f_itemTypes_197 K k16 S35 x1 x2) else ((oR S35 16 x1 11).bind fun v37 =>
    (aQ K 13 S35 v37 x2).bind fun v38 =>
    (oR S35 17 v38 2).bind fun v39 =>
    (oR S35 16 x1 11).bind fun v40 =>
    (aQ K 13 S35 v40 x2).bind fun v41 =>
    (oR S35 17 v41 1).bind fun v42 =>
    (aQ K 12 S35 v42 x3).bind fun v43 =>
    bnd (f_resolve K 20 S35 v43 0) fun S44 v45 =>
    (bQ K 4 20 S44 v39 x3 v45).bind fun S46 =>
    f_itemTypes_144 K k16 n9 S46 x1 x2 (x3 + 1)))
def f_itemTypes_33 (K : Ky) (k16 : Sg → Option Nat → Int32 → Option (Sg × Unit)) : Nat → Sg → Option Nat → Int32 → Int32 → Option (Sg × Unit)
  | 0, _, _, _, _ => none
  | n9 + 1, S, x1, x2, x3 =>
    if x2 ≤ x3 then ((oI S 16 x1 2).bind fun v7 =>
    if v7 = 11 then (f_itemTypes_144 K k16 bigN S x1 x2 0) else ((oR S 16 x1 10).bind fun v8 =>
    (oR S 16 x1 9).bind fun v9 =>
    (aQ K 12 S v9 x2).bind fun v10 =>
    (oI S 16 x1 2).bind fun v11 =>
    if v11 = 12 then (f_itemTypes_109 K k16 S x1 x2 1 v10 x2 v8) else (f_itemTypes_109 K k16 S x1 x2 0 v10 x2 v8))) else ((oR S 16 x1 8).bind fun v12 =>
    (aI K S v12 x3).bind fun v13 =>
    (oR S 16 x1 8).bind fun v14 =>
    (aI K S v14 x2).bind fun v15 =>
    bnd (f_sameName K S v13 v15) fun S16 v17 =>
    if v17 = 0 then (f_itemTypes_68 K k16 ((f_itemTypes_33 K k16 n9)) S16 x1 x2 x3) else ((oR S16 16 x1 8).bind fun v18 =>
    (aI K S16 v18 x2).bind fun v19 =>
    bnd (f_fail K S16 3 v19) fun S20 v21 =>
    f_itemTypes_68 K k16 ((f_itemTypes_33 K k16 n9)) S20 x1 x2 x3))
def f_itemTypes_219 (K : Ky) (S : Sg) : Option (Sg × Unit) :=
  some (S, ())
def f_itemTypes_270 (K : Ky) (S : Sg) (y0 : Int32) (y1 : Option Nat) : Option (Sg × Unit) :=
  (pV S 16 y1 7 (.int y0)).bind fun S61 =>
  some (S61, ())
def f_itemTypes_246 (K : Ky) (S : Sg) (x1 : Option Nat) (y0 : Option Nat) (y1 : Option Nat) : Option (Sg × Unit) :=
  (pV S 16 y1 15 (va_rf y0)).bind fun S56 =>
  (oR S56 16 x1 14).bind fun v57 =>
  if v57 = none then (f_itemTypes_270 K S56 (-1) x1) else ((oR S56 16 x1 14).bind fun v58 =>
  bnd (f_lifeIn K S56 x1 v58) fun S59 v60 =>
  f_itemTypes_270 K S59 v60 x1)
def f_itemTypes_203 (K : Ky) (S : Sg) (x1 : Option Nat) : Option (Sg × Unit) :=
  (oI S 16 x1 2).bind fun v47 =>
  if v47 = 12 then (bnd (f_ok K S) fun S48 v49 =>
  if v49 = 0 then (f_itemTypes_219 K S48) else ((oR S48 16 x1 14).bind fun v50 =>
  if v50 = none then (bnd (f_plainType K S48 8) fun S54 v55 =>
  f_itemTypes_246 K S54 x1 v55 x1) else ((oR S48 16 x1 14).bind fun v51 =>
  bnd (f_resolve K 20 S48 v51 1) fun S52 v53 =>
  f_itemTypes_246 K S52 x1 v53 x1))) else (f_itemTypes_219 K S)
def f_itemTypes_16 (K : Ky) : Nat → Sg → Option Nat → Int32 → Option (Sg × Unit)
  | 0, _, _, _ => none
  | n9 + 1, S, x1, x2 =>
    (oI S 16 x1 3).bind fun v4 =>
    if v4 ≤ x2 then (f_itemTypes_203 K S x1) else (bnd (f_ok K S) fun S5 v6 =>
    if v6 = 0 then (f_itemTypes_203 K S5 x1) else (f_itemTypes_33 K ((f_itemTypes_16 K n9)) bigN S5 x1 x2 0))
def f_itemTypes_14 (K : Ky) (S : Sg) (x1 : Option Nat) : Option (Sg × Unit) :=
  f_itemTypes_16 K bigN S x1 0
def f_itemTypes (K : Ky) (S0 : Sg) (x1 : Option Nat) : Option (Sg × Unit) :=
  (oI S0 16 x1 2).bind fun v1 =>
  if v1 = 12 then (bnd (f_lives K S0 x1) fun S2 v3 =>
  f_itemTypes_14 K S2 x1) else (f_itemTypes_14 K S0 x1)
def f_isItem_29 (K : Ky) (S : Sg) (y0 : Int32) : Option (Sg × Int32) :=
  (zB y0).bind fun _ => some (S, y0)
def f_isItem_28 (K : Ky) (S : Sg) : Option (Sg × Int32) :=
  f_isItem_29 K S 0
def f_isItem_16 (K : Ky) (S : Sg) (x0 : Option Nat) (x1 : Int32) : Option (Sg × Int32) :=
  (oI S 20 x0 1).bind fun v3 =>
  if v3 = x1 then (f_isItem_29 K S 1) else (f_isItem_28 K S)
def f_isItem (K : Ky) (S0 : Sg) (x0 : Option Nat) (x1 : Int32) : Option (Sg × Int32) :=
  (oI S0 20 x0 0).bind fun v1 =>
  if v1 = 3 then (f_isItem_16 K S0 x0 x1) else ((oI S0 20 x0 0).bind fun v2 =>
  if v2 = 4 then (f_isItem_16 K S0 x0 x1) else (f_isItem_28 K S0))
def f_lies_99 (K : Ky) (k10 : Sg → Int32 → Option Nat → Int32 → Option (Sg × Int32)) (S : Sg) (x2 : Int32) (x3 : Option Nat) (x4 : Int32) : Option (Sg × Int32) :=
  k10 S x2 x3 (x4 + 1)
def f_lies_47 (K : Ky) (k10 : Sg → Int32 → Option Nat → Int32 → Option (Sg × Int32)) : Nat → Sg → Int32 → Option Nat → Int32 → Int32 → Option (Sg × Int32)
  | 0, _, _, _, _, _ => none
  | n9 + 1, S, x2, x3, x4, x5 =>
    (oI S 16 x3 2).bind fun v8 =>
    if v8 = 11 then ((oR S 16 x3 11).bind fun v9 =>
    (aQ K 13 S v9 x4).bind fun v10 =>
    (oI S 17 v10 0).bind fun v11 =>
    if v11 ≤ x5 then (f_lies_99 K k10 S x2 x3 x4) else ((oR S 16 x3 11).bind fun v12 =>
    (aQ K 13 S v12 x4).bind fun v13 =>
    (oR S 17 v13 2).bind fun v14 =>
    (aQ K 4 S v14 x5).bind fun v15 =>
    bnd (f_isItem K S v15 x2) fun S16 v17 =>
    if v17 = 0 then (f_lies_47 K k10 n9 S16 x2 x3 x4 (x5 + 1)) else ((zB 1).bind fun _ => some (S16, 1)))) else (f_lies_99 K k10 S x2 x3 x4)
def f_lies_44 (K : Ky) (k10 : Sg → Int32 → Option Nat → Int32 → Option (Sg × Int32)) (S : Sg) (x2 : Int32) (x3 : Option Nat) (x4 : Int32) : Option (Sg × Int32) :=
  f_lies_47 K k10 bigN S x2 x3 x4 0
def f_lies_10 (K : Ky) : Nat → Sg → Int32 → Option Nat → Int32 → Option (Sg × Int32)
  | 0, _, _, _, _ => none
  | n9 + 1, S, x2, x3, x4 =>
    (oI S 16 x3 3).bind fun v2 =>
    if v2 ≤ x4 then ((zB 0).bind fun _ => some (S, 0)) else ((oI S 16 x3 2).bind fun v3 =>
    if v3 = 10 then ((oR S 16 x3 10).bind fun v4 =>
    (aQ K 4 S v4 x4).bind fun v5 =>
    bnd (f_isItem K S v5 x2) fun S6 v7 =>
    if v7 = 0 then (f_lies_44 K ((f_lies_10 K n9)) S6 x2 x3 x4) else ((zB 1).bind fun _ => some (S6, 1))) else (f_lies_44 K ((f_lies_10 K n9)) S x2 x3 x4))
def f_lies (K : Ky) (S0 : Sg) (x1 : Int32) (x2 : Int32) : Option (Sg × Int32) :=
  (rQ S0 11 x1).bind fun v1 =>
  f_lies_10 K bigN S0 x2 v1 0
end
-- k1.c05.lean.txt
section
def f_endless_72 (K : Ky) (k2 : Sg → Int32 → Option (Sg × Unit)) (k12 : Sg → Int32 → Int32 → Option (Sg × Unit)) (S : Sg) (x1 : Int32) (x2 : Int32) (y0 : Int32) (y1 : Int32) : Option (Sg × Unit) :=
  (wZ S 20 y1 y0).bind fun S7 =>
  k12 S7 x1 (x2 + 1)
def f_endless_71 (K : Ky) (k2 : Sg → Int32 → Option (Sg × Unit)) (k12 : Sg → Int32 → Int32 → Option (Sg × Unit)) (S : Sg) (x1 : Int32) (x2 : Int32) (y0 : Int32) : Option (Sg × Unit) :=
  f_endless_72 K k2 k12 S x1 x2 0 y0
def f_endless_12 (K : Ky) (k2 : Sg → Int32 → Option (Sg × Unit)) : Nat → Sg → Int32 → Int32 → Option (Sg × Unit)
  | 0, _, _, _ => none
  | n9 + 1, S, x1, x2 =>
    if (Zi S 12) ≤ x2 then (k2 S (x1 + 1)) else ((rQ S 11 x1).bind fun v1 =>
    (oI S 16 v1 2).bind fun v2 =>
    if v2 = 12 then (f_endless_71 K k2 ((f_endless_12 K k2 n9)) S x1 x2 ((70 * x1) + x2)) else ((rQ S 11 x2).bind fun v3 =>
    (oI S 16 v3 2).bind fun v4 =>
    if v4 = 12 then (f_endless_71 K k2 ((f_endless_12 K k2 n9)) S x1 x2 ((70 * x1) + x2)) else (bnd (f_lies K S x1 x2) fun S5 v6 =>
    if v6 = 0 then (f_endless_71 K k2 ((f_endless_12 K k2 n9)) S5 x1 x2 ((70 * x1) + x2)) else (f_endless_72 K k2 ((f_endless_12 K k2 n9)) S5 x1 x2 1 ((70 * x1) + x2)))))
def f_endless_155 (K : Ky) (k87 : Sg → Int32 → Option (Sg × Unit)) (k97 : Sg → Int32 → Int32 → Option (Sg × Unit)) (k107 : Sg → Int32 → Int32 → Int32 → Option (Sg × Unit)) (S : Sg) (x1 : Int32) (x2 : Int32) (x3 : Int32) : Option (Sg × Unit) :=
  k107 S x1 x2 (x3 + 1)
def f_endless_107 (K : Ky) (k87 : Sg → Int32 → Option (Sg × Unit)) (k97 : Sg → Int32 → Int32 → Option (Sg × Unit)) : Nat → Sg → Int32 → Int32 → Int32 → Option (Sg × Unit)
  | 0, _, _, _, _ => none
  | n9 + 1, S, x1, x2, x3 =>
    if (Zi S 12) ≤ x3 then (k97 S x1 (x2 + 1)) else ((rI S 20 ((70 * x2) + x1)).bind fun v8 =>
    if v8 = 0 then (f_endless_155 K k87 k97 ((f_endless_107 K k87 k97 n9)) S x1 x2 x3) else ((rI S 20 ((70 * x1) + x3)).bind fun v9 =>
    if v9 = 0 then (f_endless_155 K k87 k97 ((f_endless_107 K k87 k97 n9)) S x1 x2 x3) else ((wZ S 20 ((70 * x2) + x3) 1).bind fun S10 =>
    f_endless_155 K k87 k97 ((f_endless_107 K k87 k97 n9)) S10 x1 x2 x3)))
def f_endless_97 (K : Ky) (k87 : Sg → Int32 → Option (Sg × Unit)) : Nat → Sg → Int32 → Int32 → Option (Sg × Unit)
  | 0, _, _, _ => none
  | n9 + 1, S, x1, x2 =>
    if (Zi S 12) ≤ x2 then (k87 S (x1 + 1)) else (f_endless_107 K k87 ((f_endless_97 K k87 n9)) bigN S x1 x2 0)
def f_endless_251 (K : Ky) (k175 : Sg → Int32 → Option (Sg × Unit)) (k205 : Sg → Int32 → Int32 → Option (Sg × Unit)) (S : Sg) (x1 : Int32) (x2 : Int32) : Option (Sg × Unit) :=
  k205 S x1 (x2 + 1)
def f_endless_205 (K : Ky) (k175 : Sg → Int32 → Option (Sg × Unit)) : Nat → Sg → Int32 → Int32 → Option (Sg × Unit)
  | 0, _, _, _ => none
  | n9 + 1, S, x1, x2 =>
    if (Zi S 12) ≤ x2 then ((rQ S 11 x1).bind fun v14 =>
    (pV S 16 v14 19 (.int 0)).bind fun S15 =>
    k175 S15 (x1 + 1)) else ((rI S 20 ((70 * x1) + x2)).bind fun v16 =>
    if v16 = 0 then (f_endless_251 K k175 ((f_endless_205 K k175 n9)) S x1 x2) else ((rI S 20 ((70 * x2) + x2)).bind fun v17 =>
    if v17 = 0 then (f_endless_251 K k175 ((f_endless_205 K k175 n9)) S x1 x2) else ((rQ S 11 x1).bind fun v18 =>
    (pZ S 16 v18 21 1).bind fun S19 =>
    f_endless_251 K k175 ((f_endless_205 K k175 n9)) S19 x1 x2)))
def f_endless_175 (K : Ky) : Nat → Sg → Int32 → Option (Sg × Unit)
  | 0, _, _ => none
  | n9 + 1, S, x1 =>
    if (Zi S 12) ≤ x1 then (some (S, ())) else ((rQ S 11 x1).bind fun v11 =>
    (rI S 20 ((70 * x1) + x1)).bind fun v12 =>
    (pZ S 16 v11 21 v12).bind fun S13 =>
    f_endless_205 K ((f_endless_175 K n9)) bigN S13 x1 0)
def f_endless_87 (K : Ky) : Nat → Sg → Int32 → Option (Sg × Unit)
  | 0, _, _ => none
  | n9 + 1, S, x1 =>
    if (Zi S 12) ≤ x1 then (f_endless_175 K bigN S 0) else (f_endless_97 K ((f_endless_87 K n9)) bigN S x1 0)
def f_endless_2 (K : Ky) : Nat → Sg → Int32 → Option (Sg × Unit)
  | 0, _, _ => none
  | n9 + 1, S, x1 =>
    if (Zi S 12) ≤ x1 then (f_endless_87 K bigN S 0) else (f_endless_12 K ((f_endless_2 K n9)) bigN S x1 0)
def f_endless (K : Ky) (S0 : Sg) : Option (Sg × Unit) :=
  f_endless_2 K bigN S0 0
def f_sizeOf_33 (K : Ky) (V : Sg → Option Nat → Option (Sg × Int32)) (S : Sg) (y0 : Int32) : Option (Sg × Int32) :=
  some (S, y0)
def f_sizeOf_16 (K : Ky) (V : Sg → Option Nat → Option (Sg × Int32)) (S : Sg) (x1 : Option Nat) : Option (Sg × Int32) :=
  (oI S 20 x1 1).bind fun v3 =>
  (rQ S 11 v3).bind fun v4 =>
  bnd (V S v4) fun S5 v6 =>
  f_sizeOf_33 K V S5 v6
def f_sizeOf (K : Ky) (V : Sg → Option Nat → Option (Sg × Int32)) (S0 : Sg) (x1 : Option Nat) : Option (Sg × Int32) :=
  (oI S0 20 x1 0).bind fun v1 =>
  if v1 = 3 then (f_sizeOf_16 K V S0 x1) else ((oI S0 20 x1 0).bind fun v2 =>
  if v2 = 4 then (f_sizeOf_16 K V S0 x1) else (f_sizeOf_33 K V S0 1))
def f_sizeOfItem_105 (K : Ky) (V : Sg → Option Nat → Option (Sg × Int32)) (k16 : Sg → Option Nat → Int32 → Int32 → Option (Sg × Int32)) (S : Sg) (x1 : Option Nat) (x2 : Int32) (x3 : Int32) : Option (Sg × Int32) :=
  k16 S x1 x2 (x3 + 1)
def f_sizeOfItem_55 (K : Ky) (V : Sg → Option Nat → Option (Sg × Int32)) (k16 : Sg → Option Nat → Int32 → Int32 → Option (Sg × Int32)) : Nat → Sg → Option Nat → Int32 → Int32 → Int32 → Int32 → Option (Sg × Int32)
  | 0, _, _, _, _, _, _ => none
  | n9 + 1, S, x1, x2, x3, x4, x5 =>
    (oR S 16 x1 11).bind fun v9 =>
    (aQ K 13 S v9 x3).bind fun v10 =>
    (oI S 17 v10 0).bind fun v11 =>
    if v11 ≤ x5 then (if x4 ≤ x2 then (f_sizeOfItem_105 K V k16 S x1 x2 x3) else (f_sizeOfItem_105 K V k16 S x1 x4 x3)) else ((oR S 16 x1 11).bind fun v12 =>
    (aQ K 13 S v12 x3).bind fun v13 =>
    (oR S 17 v13 2).bind fun v14 =>
    (aQ K 4 S v14 x5).bind fun v15 =>
    bnd (f_sizeOf K V S v15) fun S16 v17 =>
    f_sizeOfItem_55 K V k16 n9 S16 x1 x2 x3 (x4 + v17) (x5 + 1))
def f_sizeOfItem_126 (K : Ky) (V : Sg → Option Nat → Option (Sg × Int32)) (S : Sg) (x1 : Option Nat) (y0 : Int32) (y1 : Option Nat) : Option (Sg × Int32) :=
  (pV S 16 y1 19 (.int y0)).bind fun S18 =>
  (oI S18 16 x1 19).bind fun v19 =>
  some (S18, v19)
def f_sizeOfItem_16 (K : Ky) (V : Sg → Option Nat → Option (Sg × Int32)) : Nat → Sg → Option Nat → Int32 → Int32 → Option (Sg × Int32)
  | 0, _, _, _, _ => none
  | n9 + 1, S, x1, x2, x3 =>
    (oI S 16 x1 3).bind fun v3 =>
    if v3 ≤ x3 then (if x2 ≤ 1000 then (f_sizeOfItem_126 K V S x1 x2 x1) else (f_sizeOfItem_126 K V S x1 1000 x1)) else ((oI S 16 x1 2).bind fun v4 =>
    if v4 = 10 then ((oR S 16 x1 10).bind fun v5 =>
    (aQ K 4 S v5 x3).bind fun v6 =>
    bnd (f_sizeOf K V S v6) fun S7 v8 =>
    f_sizeOfItem_105 K V ((f_sizeOfItem_16 K V n9)) S7 x1 (x2 + v8) x3) else (f_sizeOfItem_55 K V ((f_sizeOfItem_16 K V n9)) bigN S x1 x2 x3 1 0))
def f_sizeOfItem (K : Ky) : Nat → Sg → Option Nat → Option (Sg × Int32)
  | 0, _, _ => none
  | d + 1, S0, x1 =>
    (oI S0 16 x1 19).bind fun v1 =>
    if v1 ≤ 0 then (f_sizeOfItem_16 K (f_sizeOfItem K d) bigN S0 x1 0 0) else ((oI S0 16 x1 19).bind fun v2 =>
    some (S0, v2))
def f_sizes_76 (K : Ky) (k6 : Sg → Int32 → Option (Sg × Unit)) (S : Sg) (x1 : Int32) : Option (Sg × Unit) :=
  k6 S (x1 + 1)
def f_sizes_62 (K : Ky) (k6 : Sg → Int32 → Option (Sg × Unit)) (S : Sg) (x1 : Int32) : Option (Sg × Unit) :=
  (rQ S 11 x1).bind fun v12 =>
  (oI S 16 v12 1).bind fun v13 =>
  bnd (f_fail K S 4 v13) fun S14 v15 =>
  f_sizes_76 K k6 S14 x1
def f_sizes_82 (K : Ky) (S : Sg) : Option (Sg × Unit) :=
  some (S, ())
def f_sizes_6 (K : Ky) : Nat → Sg → Int32 → Option (Sg × Unit)
  | 0, _, _ => none
  | n9 + 1, S, x1 =>
    if (Zi S 12) ≤ x1 then (f_sizes_82 K S) else (bnd (f_ok K S) fun S3 v4 =>
    if v4 = 0 then (f_sizes_82 K S3) else ((rQ S3 11 x1).bind fun v5 =>
    (oI S3 16 v5 2).bind fun v6 =>
    if v6 = 12 then (f_sizes_76 K ((f_sizes_6 K n9)) S3 x1) else ((rQ S3 11 x1).bind fun v7 =>
    (oI S3 16 v7 21).bind fun v8 =>
    if v8 = 0 then ((rQ S3 11 x1).bind fun v9 =>
    bnd (f_sizeOfItem K 80 S3 v9) fun S10 v11 =>
    if v11 ≤ 16 then (f_sizes_76 K ((f_sizes_6 K n9)) S10 x1) else (f_sizes_62 K ((f_sizes_6 K n9)) S10 x1)) else (f_sizes_62 K ((f_sizes_6 K n9)) S3 x1))))
def f_sizes (K : Ky) (S0 : Sg) : Option (Sg × Unit) :=
  bnd (f_endless K S0) fun S1 v2 =>
  f_sizes_6 K bigN S1 0
def f_leavesOfItem_57 (K : Ky) (V : Sg → Option Nat → Option (Sg × Int32)) (k9 : Sg → Option Nat → Int32 → Option (Sg × Int32)) (S : Sg) (x1 : Option Nat) (x2 : Int32) (y0 : Int32) (y1 : Int32) (y2 : Option Nat) : Option (Sg × Int32) :=
  (pV S 16 y2 20 (.int (y1 + y0))).bind fun S13 =>
  k9 S13 x1 (x2 + 1)
def f_leavesOfItem_67 (K : Ky) (V : Sg → Option Nat → Option (Sg × Int32)) (S : Sg) (x1 : Option Nat) : Option (Sg × Int32) :=
  (oI S 16 x1 20).bind fun v14 =>
  some (S, v14)
def f_leavesOfItem_9 (K : Ky) (V : Sg → Option Nat → Option (Sg × Int32)) : Nat → Sg → Option Nat → Int32 → Option (Sg × Int32)
  | 0, _, _, _ => none
  | n9 + 1, S, x1, x2 =>
    (oI S 16 x1 3).bind fun v2 =>
    if v2 ≤ x2 then (f_leavesOfItem_67 K V S x1) else ((oI S 16 x1 20).bind fun v3 =>
    (oR S 16 x1 10).bind fun v4 =>
    (aQ K 4 S v4 x2).bind fun v5 =>
    (oI S 20 v5 0).bind fun v6 =>
    if v6 = 3 then ((oR S 16 x1 10).bind fun v7 =>
    (aQ K 4 S v7 x2).bind fun v8 =>
    (oI S 20 v8 1).bind fun v9 =>
    (rQ S 11 v9).bind fun v10 =>
    bnd (V S v10) fun S11 v12 =>
    f_leavesOfItem_57 K V ((f_leavesOfItem_9 K V n9)) S11 x1 x2 v12 v3 x1) else (f_leavesOfItem_57 K V ((f_leavesOfItem_9 K V n9)) S x1 x2 1 v3 x1))
def f_leavesOfItem (K : Ky) : Nat → Sg → Option Nat → Option (Sg × Int32)
  | 0, _, _ => none
  | d + 1, S0, x1 =>
    (oI S0 16 x1 20).bind fun v1 =>
    if v1 = 0 then (f_leavesOfItem_9 K (f_leavesOfItem K d) bigN S0 x1 0) else (f_leavesOfItem_67 K (f_leavesOfItem K d) S0 x1)
def f_leaves_35 (K : Ky) (k2 : Sg → Int32 → Option (Sg × Unit)) (S : Sg) (x1 : Int32) : Option (Sg × Unit) :=
  k2 S (x1 + 1)
def f_leaves_2 (K : Ky) : Nat → Sg → Int32 → Option (Sg × Unit)
  | 0, _, _ => none
  | n9 + 1, S, x1 =>
    if (Zi S 12) ≤ x1 then (some (S, ())) else ((rQ S 11 x1).bind fun v1 =>
    (oI S 16 v1 2).bind fun v2 =>
    if v2 = 10 then ((rQ S 11 x1).bind fun v3 =>
    bnd (f_leavesOfItem K 80 S v3) fun S4 v5 =>
    f_leaves_35 K ((f_leaves_2 K n9)) S4 x1) else (f_leaves_35 K ((f_leaves_2 K n9)) S x1))
def f_leaves (K : Ky) (S0 : Sg) : Option (Sg × Unit) :=
  f_leaves_2 K bigN S0 0
def f_findMain_50 (K : Ky) (k7 : Sg → Int32 → Option (Sg × Unit)) (S : Sg) (x1 : Int32) : Option (Sg × Unit) :=
  k7 S (x1 + 1)
def f_findMain_144 (K : Ky) (S : Sg) : Option (Sg × Unit) :=
  some (S, ())
def f_findMain_127 (K : Ky) (S : Sg) : Option (Sg × Unit) :=
  (rQ S 11 (Zi S 21)).bind fun v18 =>
  (oI S 16 v18 1).bind fun v19 =>
  bnd (f_fail K S 4 v19) fun S20 v21 =>
  f_findMain_144 K S20
def f_findMain_7 (K : Ky) : Nat → Sg → Int32 → Option (Sg × Unit)
  | 0, _, _ => none
  | n9 + 1, S, x1 =>
    if (Zi S 12) ≤ x1 then (if 0 ≤ (Zi S 21) then ((rQ S 11 (Zi S 21)).bind fun v2 =>
    (oI S 16 v2 3).bind fun v3 =>
    if 0 < v3 then (f_findMain_127 K S) else ((rQ S 11 (Zi S 21)).bind fun v4 =>
    (oI S 16 v4 6).bind fun v5 =>
    if 0 < v5 then (f_findMain_127 K S) else ((rQ S 11 (Zi S 21)).bind fun v6 =>
    (oR S 16 v6 15).bind fun v7 =>
    (oI S 20 v7 0).bind fun v8 =>
    if v8 = 8 then (f_findMain_144 K S) else (f_findMain_127 K S)))) else (bnd (f_fail K S 3 ((Zi S 9) - 1)) fun S9 v10 =>
    f_findMain_144 K S9)) else ((rQ S 11 x1).bind fun v11 =>
    (oI S 16 v11 2).bind fun v12 =>
    if v12 = 12 then ((rQ S 11 x1).bind fun v13 =>
    (oI S 16 v13 1).bind fun v14 =>
    bnd (f_isMain K S v14) fun S15 v16 =>
    if v16 = 0 then (f_findMain_50 K ((f_findMain_7 K n9)) S15 x1) else ((pM S15 21 x1).bind fun S17 =>
    f_findMain_50 K ((f_findMain_7 K n9)) S17 x1)) else (f_findMain_50 K ((f_findMain_7 K n9)) S x1))
def f_findMain (K : Ky) (S0 : Sg) : Option (Sg × Unit) :=
  (pM S0 21 (-1)).bind fun S1 =>
  f_findMain_7 K bigN S1 0
def f_declare (K : Ky) (S0 : Sg) (x1 : Int32) (x2 : Option Nat) (x3 : Int32) : Option (Sg × Option Nat) :=
  bnd (nO K S0 21 5 [.int 0, .int 0, .null, .int 0, .null]) fun S1 a2 =>
  (pV S1 21 (some a2) 0 (.int (Zi S1 24))).bind fun S5 =>
  (pV S5 21 (some a2) 1 (.int x1)).bind fun S6 =>
  (pV S6 21 (some a2) 2 (va_rf x2)).bind fun S7 =>
  (pZ S7 21 (some a2) 3 x3).bind fun S8 =>
  (pM S8 24 ((Zi S8 24) + 1)).bind fun S9 =>
  (wQ S9 21 22 (Zi S9 23) (some a2)).bind fun S10 =>
  (pM S10 23 ((Zi S10 23) + 1)).bind fun S11 =>
  some (S11, some a2)
def f_bare_2 (K : Ky) : Nat → Sg → Option Nat → Option (Sg × Option Nat)
  | 0, _, _ => none
  | n9 + 1, S, x1 =>
    (oI S 15 x1 0).bind fun v1 =>
    if v1 = 7 then ((oR S 15 x1 8).bind fun v2 =>
    f_bare_2 K n9 S v2) else (some (S, x1))
def f_bare (K : Ky) (S0 : Sg) (x0 : Option Nat) : Option (Sg × Option Nat) :=
  f_bare_2 K bigN S0 x0
def f_depth_25 (K : Ky) (k7 : Sg → Int32 → Option Nat → Option (Sg × Int32)) (S : Sg) (x1 : Int32) (x2 : Option Nat) : Option (Sg × Int32) :=
  (oR S 15 x2 8).bind fun v5 =>
  bnd (f_bare K S v5) fun S6 v7 =>
  k7 S6 (x1 + 1) v7
def f_depth_7 (K : Ky) : Nat → Sg → Int32 → Option Nat → Option (Sg × Int32)
  | 0, _, _, _ => none
  | n9 + 1, S, x1, x2 =>
    (oI S 15 x2 0).bind fun v3 =>
    if v3 = 14 then (f_depth_25 K ((f_depth_7 K n9)) S x1 x2) else ((oI S 15 x2 0).bind fun v4 =>
    if v4 = 11 then (f_depth_25 K ((f_depth_7 K n9)) S x1 x2) else (some (S, x1)))
def f_depth (K : Ky) (S0 : Sg) (x0 : Option Nat) : Option (Sg × Int32) :=
  bnd (f_bare K S0 x0) fun S1 v2 =>
  f_depth_7 K bigN S1 0 v2
def f_told (K : Ky) (S0 : Sg) (x1 : Option Nat) (x2 : Option Nat) : Option (Sg × Option Nat) :=
  (pV S0 15 x1 12 (va_rf x2)).bind fun S1 =>
  some (S1, x2)
end
