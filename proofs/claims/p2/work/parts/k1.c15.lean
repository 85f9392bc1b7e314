-- k1.c15.lean.txt
section
def f_doAll_112 (K : Ky) (k0 : Sg → Option (Sg × Unit)) (S : Sg) : Option (Sg × Unit) :=
  k0 S
def f_doAll_0 (K : Ky) : Nat → Sg → Option (Sg × Unit)
  | 0, _ => none
  | n9 + 1, S =>
    if (Zi S 81) ≤ 0 then (some (S, ())) else ((pM S 81 ((Zi S 81) - 1)).bind fun S1 =>
    (rI S1 79 (Zi S1 81)).bind fun v2 =>
    (rQ S1 18 v2).bind fun v3 =>
    (rI S1 80 (Zi S1 81)).bind fun v4 =>
    (rI S1 78 (Zi S1 81)).bind fun v5 =>
    if v5 = 0 then (bnd (f_dropPlace K S1 v3 v4) fun S6 v7 =>
    f_doAll_112 K ((f_doAll_0 K n9)) S6) else (if v5 = 1 then (bnd (f_freePlace K S1 v3 v4) fun S8 v9 =>
    f_doAll_112 K ((f_doAll_0 K n9)) S8) else (if v5 = 2 then (bnd (f_freeBlock K S1 v4) fun S10 v11 =>
    bnd (f_freeNode K S10 v4) fun S12 v13 =>
    f_doAll_112 K ((f_doAll_0 K n9)) S12) else (bnd (f_freeNode K S1 v4) fun S14 v15 =>
    f_doAll_112 K ((f_doAll_0 K n9)) S14))))
def f_doAll (K : Ky) (S0 : Sg) : Option (Sg × Unit) :=
  f_doAll_0 K bigN S0
def f_writeWord_31 (K : Ky) (k3 : Sg → Int64 → Int32 → Option (Sg × Unit)) (S : Sg) (x1 : Int64) (x3 : Int32) : Option (Sg × Unit) :=
  k3 S x1 (x3 + (-8))
def f_writeWord_3 (K : Ky) : Nat → Sg → Int64 → Int32 → Option (Sg × Unit)
  | 0, _, _, _ => none
  | n9 + 1, S, x1, x3 =>
    if x3 < 0 then (some (S, ())) else (if (lg_cmp ((lushF x1 x3) &&& 255) 0) = 0 then (f_writeWord_31 K ((f_writeWord_3 K n9)) S x1 x3) else (bnd (f_write K S (Int64.toInt32 ((lushF x1 x3) &&& 255))) fun S1 v2 =>
    f_writeWord_31 K ((f_writeWord_3 K n9)) S1 x1 x3))
def f_writeWord (K : Ky) (S0 : Sg) (x1 : Int64) : Option (Sg × Unit) :=
  f_writeWord_3 K bigN S0 x1 56
def f_slot (K : Ky) (S0 : Sg) (x1 : Option Nat) : Option (Sg × Int32) :=
  (oI S0 21 x1 0).bind fun v1 =>
  some (S0, (40 * ((Zi S0 76) - 1)) + v1)
def f_find_162 (K : Ky) (k17 : Sg → Option Nat → Int32 → Int32 → Int32 → Option (Sg × Int32)) (S : Sg) (x1 : Option Nat) (x2 : Int32) (x3 : Int32) (x4 : Int32) : Option (Sg × Int32) :=
  k17 S x1 x2 x3 (x4 + 1)
def f_find_161 (K : Ky) (k17 : Sg → Option Nat → Int32 → Int32 → Int32 → Option (Sg × Int32)) (S : Sg) (x1 : Option Nat) (x2 : Int32) (x4 : Int32) (y0 : Int32) : Option (Sg × Int32) :=
  f_find_162 K k17 S x1 x2 y0 x4
def f_find_17 (K : Ky) : Nat → Sg → Option Nat → Int32 → Int32 → Int32 → Option (Sg × Int32)
  | 0, _, _, _, _, _ => none
  | n9 + 1, S, x1, x2, x3, x4 =>
    if x2 ≤ x4 then (some (S, x3)) else ((oR S 18 x1 2).bind fun v5 =>
    (aI K S v5 x4).bind fun v6 =>
    (oR S 18 x1 3).bind fun v7 =>
    (aQ K 4 S v7 x4).bind fun v8 =>
    if v6 < 1000 then (if v6 < 0 then ((oI S 20 v8 0).bind fun v9 =>
    if v9 = 5 then ((rJ S 61 x3).bind fun v11 =>
    bnd (f_kidOf K S (Int64.toInt32 v11)) fun S12 v13 =>
    f_find_161 K ((f_find_17 K n9)) S12 x1 x2 x4 v13) else ((rJ S 61 x3).bind fun v10 =>
    f_find_161 K ((f_find_17 K n9)) S x1 x2 x4 (Int64.toInt32 v10))) else ((oI S 20 v8 1).bind fun v14 =>
    (rQ S 11 v14).bind fun v15 =>
    (oR S 16 v15 10).bind fun v16 =>
    bnd (f_partOf K S v16 x3 v6) fun S17 v18 =>
    f_find_162 K ((f_find_17 K n9)) S17 x1 x2 v18 x4)) else ((oI S 20 v8 1).bind fun v19 =>
    (rQ S 11 v19).bind fun v20 =>
    (oR S 16 v20 11).bind fun v21 =>
    (aQ K 13 S v21 ((v6 - 1000) >>> (4 &&& 31))).bind fun v22 =>
    (oR S 17 v22 2).bind fun v23 =>
    (rJ S 61 x3).bind fun v24 =>
    bnd (f_kidOf K S (Int64.toInt32 v24)) fun S25 v26 =>
    bnd (f_partOf K S25 v23 v26 ((v6 - 1000) &&& 15)) fun S27 v28 =>
    f_find_162 K ((f_find_17 K n9)) S27 x1 x2 v28 x4))
def f_find (K : Ky) (S0 : Sg) (x1 : Option Nat) (x2 : Int32) : Option (Sg × Int32) :=
  (oR S0 18 x1 0).bind fun v1 =>
  bnd (f_slot K S0 v1) fun S2 v3 =>
  (rI S2 74 v3).bind fun v4 =>
  f_find_17 K bigN S2 x1 x2 v4 0
def f_runRead_165 (K : Ky) (S : Sg) : Option (Sg × Unit) :=
  some (S, ())
def f_runRead_153 (K : Ky) (S : Sg) (x4 : Int32) : Option (Sg × Unit) :=
  bnd (f_freeBlock K S x4) fun S40 v41 =>
  bnd (f_freeNode K S40 x4) fun S42 v43 =>
  f_runRead_165 K S42
def f_runRead_133 (K : Ky) (S : Sg) (x2 : Option Nat) (x4 : Int32) (x5 : Int32) (y0 : Int64) : Option (Sg × Unit) :=
  bnd (f_push K S y0) fun S32 v33 =>
  (oBk S32 18 x2).bind fun b36 =>
  bnd (f_X18_type K S32 b36) fun S34 v35 =>
  (oI S34 20 v35 0).bind fun v37 =>
  if v37 = 3 then (f_runRead_153 K S34 x4) else (bnd (f_freeNode K S34 x5) fun S38 v39 =>
  f_runRead_153 K S38 x4)
def f_runRead (K : Ky) (S0 : Sg) (x1 : Int32) : Option (Sg × Unit) :=
  (rQ S0 38 x1).bind fun v1 =>
  (rI S0 33 x1).bind fun v2 =>
  if v2 = 1 then ((oI S0 18 v1 1).bind fun v26 =>
  bnd (f_find K S0 v1 v26) fun S27 v28 =>
  (rJ S27 61 v28).bind fun v29 =>
  bnd (f_push K S27 v29) fun S30 v31 =>
  f_runRead_165 K S30) else ((rI S0 33 x1).bind fun v3 =>
  if v3 = 4 then ((oBk S0 18 v1).bind fun b18 =>
  bnd (f_X18_type K S0 b18) fun S16 v17 =>
  (oI S16 18 v1 1).bind fun v19 =>
  bnd (f_find K S16 v1 v19) fun S20 v21 =>
  bnd (f_takePlace K S20 v17 v21) fun S22 v23 =>
  bnd (f_push K S22 v23) fun S24 v25 =>
  f_runRead_165 K S24) else ((oI S0 18 v1 1).bind fun v4 =>
  bnd (f_find K S0 v1 (v4 - 1)) fun S5 v6 =>
  (rJ S5 61 v6).bind fun v7 =>
  (wZ S5 62 v6 0).bind fun S8 =>
  bnd (f_kidOf K S8 (Int64.toInt32 v7)) fun S9 v10 =>
  (oBk S9 18 v1).bind fun b13 =>
  bnd (f_X18_type K S9 b13) fun S11 v12 =>
  (oI S11 20 v12 0).bind fun v14 =>
  if v14 = 3 then (f_runRead_133 K S11 v1 (Int64.toInt32 v7) v10 (Int32.toInt64 v10)) else ((rJ S11 61 v10).bind fun v15 =>
  f_runRead_133 K S11 v1 (Int64.toInt32 v7) v10 v15)))
def f_runSign_351 (K : Ky) (S : Sg) (x6 : Int64) : Option (Sg × Unit) :=
  bnd (f_push K S x6) fun S6 v7 =>
  some (S6, ())
def f_runSign_340 (K : Ky) (S : Sg) (x6 : Int64) (x8 : Int32) : Option (Sg × Unit) :=
  if x8 = 0 then (f_runSign_351 K S x6) else ((pM S 3 7).bind fun S5 =>
  f_runSign_351 K S5 x6)
def f_runSign_98 (K : Ky) (S : Sg) (x6 : Int64) (y0 : Int32) : Option (Sg × Unit) :=
  f_runSign_340 K S x6 y0
def f_runSign_129 (K : Ky) (S : Sg) (x6 : Int64) (y0 : Int32) : Option (Sg × Unit) :=
  f_runSign_340 K S x6 y0
def f_runSign_179 (K : Ky) (S : Sg) (x6 : Int64) (y0 : Int32) : Option (Sg × Unit) :=
  f_runSign_340 K S x6 y0
def f_runSign_174 (K : Ky) (S : Sg) (x6 : Int64) : Option (Sg × Unit) :=
  f_runSign_179 K S x6 1
def f_runSign_178 (K : Ky) (S : Sg) (x6 : Int64) : Option (Sg × Unit) :=
  f_runSign_179 K S x6 0
def f_runSign_236 (K : Ky) (S : Sg) (x8 : Int32) (y0 : Int64) : Option (Sg × Unit) :=
  f_runSign_340 K S y0 x8
def f_runSign_212 (K : Ky) (S : Sg) (x1 : Int32) (x2 : Int64) (x4 : Int64) (x6 : Int64) (y0 : Int32) : Option (Sg × Unit) :=
  if y0 = 0 then (if x1 = 43 then ((nzL x2).bind fun _ =>
  f_runSign_236 K S y0 (x4 / x2)) else ((nzL x2).bind fun _ =>
  f_runSign_236 K S y0 (x4 - x4 / x2 * x2))) else (f_runSign_340 K S x6 y0)
def f_runSign_207 (K : Ky) (S : Sg) (x1 : Int32) (x2 : Int64) (x4 : Int64) (x6 : Int64) : Option (Sg × Unit) :=
  f_runSign_212 K S x1 x2 x4 x6 1
def f_runSign_211 (K : Ky) (S : Sg) (x1 : Int32) (x2 : Int64) (x4 : Int64) (x6 : Int64) : Option (Sg × Unit) :=
  f_runSign_212 K S x1 x2 x4 x6 0
def f_runSign_184 (K : Ky) (S : Sg) (x1 : Int32) (x2 : Int64) (x4 : Int64) (x6 : Int64) : Option (Sg × Unit) :=
  if (lg_cmp x2 0) = 0 then (f_runSign_207 K S x1 x2 x4 x6) else (if (lg_cmp x4 (-9223372036854775808)) = 0 then (if (lg_cmp x2 (-1)) = 0 then (f_runSign_207 K S x1 x2 x4 x6) else (f_runSign_211 K S x1 x2 x4 x6)) else (f_runSign_211 K S x1 x2 x4 x6))
def f_runSign_253 (K : Ky) (S : Sg) (x8 : Int32) (y0 : Int64) : Option (Sg × Unit) :=
  f_runSign_340 K S y0 x8
def f_runSign_270 (K : Ky) (S : Sg) (x8 : Int32) (y0 : Int64) : Option (Sg × Unit) :=
  f_runSign_340 K S y0 x8
def f_runSign_287 (K : Ky) (S : Sg) (x8 : Int32) (y0 : Int64) : Option (Sg × Unit) :=
  f_runSign_340 K S y0 x8
def f_runSign_304 (K : Ky) (S : Sg) (x8 : Int32) (y0 : Int64) : Option (Sg × Unit) :=
  f_runSign_340 K S y0 x8
def f_runSign_321 (K : Ky) (S : Sg) (x8 : Int32) (y0 : Int64) : Option (Sg × Unit) :=
  f_runSign_340 K S y0 x8
def f_runSign_338 (K : Ky) (S : Sg) (x8 : Int32) (y0 : Int64) : Option (Sg × Unit) :=
  f_runSign_340 K S y0 x8
def f_runSign (K : Ky) (S0 : Sg) (x1 : Int32) : Option (Sg × Unit) :=
  bnd (f_pop K S0) fun S1 v2 =>
  bnd (f_pop K S1) fun S3 v4 =>
  if x1 = 40 then (if 0 ≤ (lg_cmp ((v4 ^^^ (v4 + v2)) &&& (v2 ^^^ (v4 + v2))) 0) then (f_runSign_98 K S3 (v4 + v2) 0) else (f_runSign_98 K S3 (v4 + v2) 1)) else (if x1 = 41 then (if 0 ≤ (lg_cmp ((v4 ^^^ v2) &&& (v4 ^^^ (v4 - v2))) 0) then (f_runSign_129 K S3 (v4 - v2) 0) else (f_runSign_129 K S3 (v4 - v2) 1)) else (if x1 = 42 then (if (lg_cmp v4 0) = 0 then (f_runSign_178 K S3 (v4 * v2)) else ((nzL v4).bind fun _ =>
  if (lg_cmp ((v4 * v2) / v4) v2) = 0 then (if (lg_cmp v4 (-1)) = 0 then (if (lg_cmp v2 (-9223372036854775808)) = 0 then (f_runSign_174 K S3 (v4 * v2)) else (f_runSign_178 K S3 (v4 * v2))) else (f_runSign_178 K S3 (v4 * v2))) else (f_runSign_174 K S3 (v4 * v2)))) else (if x1 = 43 then (f_runSign_184 K S3 x1 v2 v4 0) else (if x1 = 44 then (f_runSign_184 K S3 x1 v2 v4 0) else (if x1 = 45 then (if (lg_cmp v4 v2) = 0 then (f_runSign_253 K S3 0 1) else (f_runSign_253 K S3 0 0)) else (if x1 = 46 then (if (lg_cmp v4 v2) = 0 then (f_runSign_270 K S3 0 0) else (f_runSign_270 K S3 0 1)) else (if x1 = 47 then (if 0 ≤ (lg_cmp v4 v2) then (f_runSign_287 K S3 0 0) else (f_runSign_287 K S3 0 1)) else (if x1 = 48 then (if 0 < (lg_cmp v4 v2) then (f_runSign_304 K S3 0 0) else (f_runSign_304 K S3 0 1)) else (if x1 = 49 then (if (lg_cmp v4 v2) ≤ 0 then (f_runSign_321 K S3 0 0) else (f_runSign_321 K S3 0 1)) else (if (lg_cmp v4 v2) < 0 then (f_runSign_338 K S3 0 0) else (f_runSign_338 K S3 0 1)))))))))))
def f_gather_53 (K : Ky) (k17 : Sg → Option Nat → Int32 → Option Nat → Int32 → Int32 → Int32 → Int32 → Option (Sg × Int32)) (k30 : Sg → Option Nat → Int32 → Option Nat → Int32 → Int32 → Int32 → Int32 → Int32 → Int32 → Option (Sg × Int32)) (S : Sg) (x1 : Option Nat) (x2 : Int32) (x3 : Option Nat) (x4 : Int32) (x5 : Int32) (x6 : Int32) (x7 : Int32) (x8 : Int32) (x9 : Int32) : Option (Sg × Int32) :=
  k30 S x1 x2 x3 x4 x5 x6 x7 x8 (x9 + 1)
def f_gather_100 (K : Ky) (k17 : Sg → Option Nat → Int32 → Option Nat → Int32 → Int32 → Int32 → Int32 → Option (Sg × Int32)) (S : Sg) (x1 : Option Nat) (x2 : Int32) (x3 : Option Nat) (x4 : Int32) (x5 : Int32) (x7 : Int32) (x9 : Int32) : Option (Sg × Int32) :=
  (aQ K 4 S x1 x7).bind fun v8 =>
  bnd (f_leavesOf K S v8) fun S9 v10 =>
  bnd (f_along K S9 x9 (v10 - 1)) fun S11 v12 =>
  k17 S11 x1 x2 x3 x4 x5 v12 (x7 + 1)
def f_gather_59 (K : Ky) (k17 : Sg → Option Nat → Int32 → Option Nat → Int32 → Int32 → Int32 → Int32 → Option (Sg × Int32)) (S : Sg) (x1 : Option Nat) (x2 : Int32) (x3 : Option Nat) (x4 : Int32) (x5 : Int32) (x6 : Int32) (x7 : Int32) (x8 : Int32) : Option (Sg × Int32) :=
  (aQ K 4 S x1 x7).bind fun v3 =>
  (rJ S 72 (x4 + x8)).bind fun v4 =>
  bnd (f_freshPlace K S v3 v4) fun S5 v6 =>
  if x6 = 0 then (f_gather_100 K k17 S5 x1 x2 x3 x4 v6 x7 v6) else ((wRI S5 63 x6 v6).bind fun S7 =>
  f_gather_100 K k17 S7 x1 x2 x3 x4 x5 x7 v6)
def f_gather_30 (K : Ky) (k17 : Sg → Option Nat → Int32 → Option Nat → Int32 → Int32 → Int32 → Int32 → Option (Sg × Int32)) : Nat → Sg → Option Nat → Int32 → Option Nat → Int32 → Int32 → Int32 → Int32 → Int32 → Int32 → Option (Sg × Int32)
  | 0, _, _, _, _, _, _, _, _, _, _ => none
  | n9 + 1, S, x1, x2, x3, x4, x5, x6, x7, x8, x9 =>
    if x3 = none then (f_gather_59 K k17 S x1 x2 x3 x4 x5 x6 x7 x8) else (if x2 ≤ x9 then (f_gather_59 K k17 S x1 x2 x3 x4 x5 x6 x7 x8) else ((aI K S x3 x9).bind fun v2 =>
    if v2 = x7 then (f_gather_53 K k17 ((f_gather_30 K k17 n9)) S x1 x2 x3 x4 x5 x6 x7 x9 x9) else (f_gather_53 K k17 ((f_gather_30 K k17 n9)) S x1 x2 x3 x4 x5 x6 x7 x8 x9)))
def f_gather_17 (K : Ky) : Nat → Sg → Option Nat → Int32 → Option Nat → Int32 → Int32 → Int32 → Int32 → Option (Sg × Int32)
  | 0, _, _, _, _, _, _, _, _ => none
  | n9 + 1, S, x1, x2, x3, x4, x5, x6, x7 =>
    if x2 ≤ x7 then ((pM S 73 x4).bind fun S1 =>
    some (S1, x5)) else (f_gather_30 K ((f_gather_17 K n9)) bigN S x1 x2 x3 x4 x5 x6 x7 x7 0)
def f_gather (K : Ky) (S0 : Sg) (x1 : Option Nat) (x2 : Int32) (x3 : Option Nat) : Option (Sg × Int32) :=
  f_gather_17 K bigN S0 x1 x2 x3 ((Zi S0 73) - x2) 0 0 0
def f_runCall_88 (K : Ky) : Nat → Sg → Option Nat → Int32 → Int32 → Option (Sg × Unit)
  | 0, _, _, _, _ => none
  | n9 + 1, S, x2, x3, x4 =>
    (oI S 16 x2 3).bind fun v9 =>
    if v9 ≤ x4 then ((pM S 73 x3).bind fun S10 =>
    (oI S10 16 x2 5).bind fun v11 =>
    (pM S10 77 v11).bind fun S12 =>
    some (S12, ())) else ((oR S 16 x2 17).bind fun v13 =>
    (aQ K 5 S v13 x4).bind fun v14 =>
    bnd (f_slot K S v14) fun S15 v16 =>
    (oR S15 16 x2 17).bind fun v17 =>
    (aQ K 5 S15 v17 x4).bind fun v18 =>
    (oR S15 21 v18 2).bind fun v19 =>
    (rJ S15 72 (x3 + x4)).bind fun v20 =>
    bnd (f_freshPlace K S15 v19 v20) fun S21 v22 =>
    (wRI S21 74 v16 v22).bind fun S23 =>
    f_runCall_88 K n9 S23 x2 x3 (x4 + 1))
def f_runCall (K : Ky) (S0 : Sg) (x1 : Int32) : Option (Sg × Unit) :=
  if (Zi S0 70) = 0 then ((pM S0 3 8).bind fun S8 =>
  some (S8, ())) else ((pM S0 70 ((Zi S0 70) - 1)).bind fun S1 =>
  if (Zi S1 76) = 60 then ((pM S1 3 10).bind fun S7 =>
  some (S7, ())) else ((rI S1 28 x1).bind fun v2 =>
  (rQ S1 11 v2).bind fun v3 =>
  (wRI S1 75 (Zi S1 76) (Zi S1 77)).bind fun S4 =>
  (pM S4 76 ((Zi S4 76) + 1)).bind fun S5 =>
  (oI S5 16 v3 3).bind fun v6 =>
  f_runCall_88 K bigN S5 v3 ((Zi S5 73) - v6) 0))
def f_runAssign (K : Ky) (S0 : Sg) (x1 : Int32) : Option (Sg × Unit) :=
  (rQ S0 38 x1).bind fun v1 =>
  (oBk S0 18 v1).bind fun b4 =>
  bnd (f_X18_type K S0 b4) fun S2 v3 =>
  bnd (f_pop K S2) fun S5 v6 =>
  (oI S5 18 v1 1).bind fun v7 =>
  bnd (f_find K S5 v1 v7) fun S8 v9 =>
  bnd (f_dropPlace K S8 v3 v9) fun S10 v11 =>
  bnd (f_doAll K S10) fun S12 v13 =>
  bnd (f_setPlace K S12 v3 v9 v6) fun S14 v15 =>
  some (S14, ())
def f_runBind_15 (K : Ky) : Nat → Sg → Option Nat → Int32 → Int32 → Int32 → Option (Sg × Unit)
  | 0, _, _, _, _, _ => none
  | n9 + 1, S, x1, x2, x3, x4 =>
    (oI S 13 x1 3).bind fun v5 =>
    if v5 ≤ x4 then (bnd (f_freeNode K S x2) fun S6 v7 =>
    some (S6, ())) else ((oR S 13 x1 4).bind fun v8 =>
    (aQ K 5 S v8 x4).bind fun v9 =>
    bnd (f_slot K S v9) fun S10 v11 =>
    (wRI S10 74 v11 x3).bind fun S12 =>
    (oR S12 13 x1 4).bind fun v13 =>
    (aQ K 5 S12 v13 x4).bind fun v14 =>
    (oR S12 21 v14 2).bind fun v15 =>
    bnd (f_leavesOf K S12 v15) fun S16 v17 =>
    bnd (f_along K S16 x3 v17) fun S18 v19 =>
    f_runBind_15 K n9 S18 x1 x2 v19 (x4 + 1))
def f_runBind (K : Ky) (S0 : Sg) (x1 : Option Nat) : Option (Sg × Unit) :=
  bnd (f_pop K S0) fun S1 v2 =>
  bnd (f_kidOf K S1 (Int64.toInt32 v2)) fun S3 v4 =>
  f_runBind_15 K bigN S3 x1 (Int64.toInt32 v2) v4 0
def f_runOut (K : Ky) (S0 : Sg) (x1 : Option Nat) : Option (Sg × Unit) :=
  bnd (f_slot K S0 x1) fun S1 v2 =>
  (rI S1 74 v2).bind fun v3 =>
  (oR S1 21 x1 2).bind fun v4 =>
  if v4 = none then (bnd (f_freeNode K S1 v3) fun S13 v14 =>
  some (S13, ())) else ((oR S1 21 x1 2).bind fun v5 =>
  bnd (f_dropPlace K S1 v5 v3) fun S6 v7 =>
  bnd (f_doAll K S6) fun S8 v9 =>
  (oR S8 21 x1 2).bind fun v10 =>
  bnd (f_freePlace K S8 v10 v3) fun S11 v12 =>
  some (S11, ()))
def f_runPrint_39 (K : Ky) (S : Sg) : Option (Sg × Unit) :=
  bnd (f_write K S 10) fun S6 v7 =>
  some (S6, ())
def f_runPrint_36 (K : Ky) (S : Sg) (y0 : Int64) : Option (Sg × Unit) :=
  bnd (f_writeWord K S y0) fun S8 v9 =>
  f_runPrint_39 K S8
def f_runPrint (K : Ky) (S0 : Sg) (x1 : Option Nat) : Option (Sg × Unit) :=
  bnd (f_pop K S0) fun S1 v2 =>
  (oI S1 20 x1 0).bind fun v3 =>
  if v3 = 0 then (bnd (f_writeNumber K S1 v2) fun S4 v5 =>
  f_runPrint_39 K S4) else (if (lg_cmp v2 0) = 0 then (f_runPrint_36 K S1 439721161573) else (f_runPrint_36 K S1 1953658213))
end
-- k1.c16.lean.txt
section
def f_runMatch_51 (K : Ky) (S : Sg) (x1 : Int32) (y0 : Int32) : Option (Sg × Unit) :=
  (rQ S 42 x1).bind fun v9 =>
  bnd (f_variantOf_ K S y0) fun S10 v11 =>
  (aI K S10 v9 v11).bind fun v12 =>
  (pM S10 77 v12).bind fun S13 =>
  some (S13, ())
def f_runMatch (K : Ky) (S0 : Sg) (x1 : Int32) : Option (Sg × Unit) :=
  (rI S0 27 x1).bind fun v1 =>
  if v1 = 20 then ((rJ S0 72 ((Zi S0 73) - 1)).bind fun v8 =>
  f_runMatch_51 K S0 x1 (Int64.toInt32 v8)) else ((rQ S0 38 x1).bind fun v2 =>
  (rQ S0 38 x1).bind fun v3 =>
  (oI S0 18 v3 1).bind fun v4 =>
  bnd (f_find K S0 v2 v4) fun S5 v6 =>
  (rJ S5 61 v6).bind fun v7 =>
  f_runMatch_51 K S5 x1 (Int64.toInt32 v7))
def f_nextInput_28 (K : Ky) : Nat → Sg → Int64 → Int32 → Option (Sg × Int64)
  | 0, _, _, _ => none
  | n9 + 1, S, x1, x3 =>
    if (Zi S 86) ≤ x3 then (some (S, x1)) else ((rJ S 85 (x3 + 1)).bind fun v3 =>
    (wJ S 85 x3 v3).bind fun S4 =>
    f_nextInput_28 K n9 S4 x1 (x3 + 1))
def f_nextInput (K : Ky) (S0 : Sg) : Option (Sg × Int64) :=
  if (Zi S0 86) = 0 then (some (S0, 0)) else ((rJ S0 85 0).bind fun v1 =>
  (pM S0 86 ((Zi S0 86) - 1)).bind fun S2 =>
  f_nextInput_28 K bigN S2 v1 0)
def f_runMinus_19 (K : Ky) (S : Sg) (x1 : Int64) : Option (Sg × Unit) :=
  bnd (f_push K S (-x1)) fun S4 v5 =>
  some (S4, ())
def f_runMinus (K : Ky) (S0 : Sg) : Option (Sg × Unit) :=
  bnd (f_pop K S0) fun S1 v2 =>
  if (lg_cmp v2 (-9223372036854775808)) = 0 then ((pM S1 3 7).bind fun S3 =>
  f_runMinus_19 K S3 v2) else (f_runMinus_19 K S1 v2)
def f_runMade_112 (K : Ky) (S : Sg) : Option (Sg × Unit) :=
  some (S, ())
def f_runMade (K : Ky) (S0 : Sg) (x1 : Int32) : Option (Sg × Unit) :=
  (rI S0 28 x1).bind fun v1 =>
  (rQ S0 11 v1).bind fun v2 =>
  (rI S0 27 x1).bind fun v3 =>
  if v3 = 8 then ((oR S0 16 v2 10).bind fun v17 =>
  (rJ S0 31 x1).bind fun v18 =>
  (rQ S0 42 x1).bind fun v19 =>
  bnd (f_gather K S0 v17 (Int64.toInt32 v18) v19) fun S20 v21 =>
  bnd (f_push K S20 (Int32.toInt64 v21)) fun S22 v23 =>
  f_runMade_112 K S22) else ((oR S0 16 v2 11).bind fun v4 =>
  (rI S0 29 x1).bind fun v5 =>
  (aQ K 13 S0 v4 v5).bind fun v6 =>
  (oR S0 17 v6 2).bind fun v7 =>
  (rJ S0 31 x1).bind fun v8 =>
  bnd (f_gather K S0 v7 (Int64.toInt32 v8) none) fun S9 v10 =>
  bnd (f_node K S9) fun S11 v12 =>
  (rI S11 29 x1).bind fun v13 =>
  (wJ S11 61 v12 ((Int32.toInt64 v10) + ((Int32.toInt64 v13) <<< (Int32.toInt64 20 &&& 63)))).bind fun S14 =>
  bnd (f_push K S14 (Int32.toInt64 v12)) fun S15 v16 =>
  f_runMade_112 K S15)
def f_burn_26 (K : Ky) (S : Sg) : Option (Sg × Unit) :=
  some (S, ())
def f_burn (K : Ky) (S0 : Sg) : Option (Sg × Unit) :=
  if (Zi S0 70) = 0 then ((pM S0 3 8).bind fun S2 =>
  f_burn_26 K S2) else ((pM S0 70 ((Zi S0 70) - 1)).bind fun S1 =>
  f_burn_26 K S1)
def f_step_590 (K : Ky) (S : Sg) : Option (Sg × Unit) :=
  some (S, ())
def f_step_260 (K : Ky) (S : Sg) (x1 : Int32) : Option (Sg × Unit) :=
  bnd (f_runMade K S x1) fun S98 v99 =>
  f_step_590 K S98
def f_step_446 (K : Ky) (S : Sg) (x1 : Int32) (y0 : Int32) (y1 : Int64) : Option (Sg × Unit) :=
  if (lg_cmp y1 (Int32.toInt64 y0)) = 0 then ((rI S 30 x1).bind fun v96 =>
  (pM S 77 v96).bind fun S97 =>
  f_step_590 K S97) else ((pM S 73 ((Zi S 73) - 1)).bind fun S95 =>
  f_step_590 K S95)
def f_step_419 (K : Ky) (S : Sg) (x1 : Int32) : Option (Sg × Unit) :=
  (rJ S 72 ((Zi S 73) - 1)).bind fun v93 =>
  (rI S 27 x1).bind fun v94 =>
  if v94 = 19 then (f_step_446 K S x1 1 v93) else (f_step_446 K S x1 0 v93)
def f_step_477 (K : Ky) (S : Sg) (x1 : Int32) : Option (Sg × Unit) :=
  bnd (f_runMatch K S x1) fun S91 v92 =>
  f_step_590 K S91
def f_step_584 (K : Ky) (S : Sg) (y0 : Int32) : Option (Sg × Unit) :=
  (pM S 77 y0).bind fun S90 =>
  f_step_590 K S90
def f_step (K : Ky) (S0 : Sg) : Option (Sg × Unit) :=
  (pM S0 77 ((Zi S0 77) + 1)).bind fun S1 =>
  (rI S1 27 (Zi S0 77)).bind fun v2 =>
  if v2 = 0 then (bnd (f_burn K S1) fun S3 v4 =>
  f_step_590 K S3) else (if v2 = 1 then ((rJ S1 31 (Zi S0 77)).bind fun v5 =>
  bnd (f_push K S1 v5) fun S6 v7 =>
  f_step_590 K S6) else (if v2 = 2 then (bnd (f_runRead K S1 (Zi S0 77)) fun S8 v9 =>
  f_step_590 K S8) else (if v2 = 3 then ((rQ S1 38 (Zi S0 77)).bind fun v10 =>
  (rQ S1 38 (Zi S0 77)).bind fun v11 =>
  (oI S1 18 v11 1).bind fun v12 =>
  bnd (f_find K S1 v10 v12) fun S13 v14 =>
  bnd (f_push K S13 (Int32.toInt64 v14)) fun S15 v16 =>
  f_step_590 K S15) else (if v2 = 4 then ((rI S1 28 (Zi S0 77)).bind fun v17 =>
  bnd (f_runSign K S1 v17) fun S18 v19 =>
  f_step_590 K S18) else (if v2 = 5 then (bnd (f_pop K S1) fun S20 v21 =>
  bnd (f_push K S20 (1 - v21)) fun S22 v23 =>
  f_step_590 K S22) else (if v2 = 6 then (bnd (f_runMinus K S1) fun S24 v25 =>
  f_step_590 K S24) else (if v2 = 7 then ((rQ S1 39 (Zi S0 77)).bind fun v26 =>
  bnd (f_boxUp K S1 v26) fun S27 v28 =>
  f_step_590 K S27) else (if v2 = 8 then (f_step_260 K S1 (Zi S0 77)) else (if v2 = 9 then (f_step_260 K S1 (Zi S0 77)) else (if v2 = 10 then (bnd (f_runCall K S1 (Zi S0 77)) fun S29 v30 =>
  f_step_590 K S29) else (if v2 = 11 then ((rQ S1 39 (Zi S0 77)).bind fun v31 =>
  bnd (f_pop K S1) fun S32 v33 =>
  bnd (f_dropValue K S32 v31 v33) fun S34 v35 =>
  bnd (f_doAll K S34) fun S36 v37 =>
  f_step_590 K S36) else (if v2 = 12 then ((rQ S1 40 (Zi S0 77)).bind fun v38 =>
  bnd (f_slot K S1 v38) fun S39 v40 =>
  (rQ S39 40 (Zi S0 77)).bind fun v41 =>
  (oR S39 21 v41 2).bind fun v42 =>
  bnd (f_pop K S39) fun S43 v44 =>
  bnd (f_freshPlace K S43 v42 v44) fun S45 v46 =>
  (wRI S45 74 v40 v46).bind fun S47 =>
  f_step_590 K S47) else (if v2 = 13 then ((rQ S1 40 (Zi S0 77)).bind fun v48 =>
  bnd (f_slot K S1 v48) fun S49 v50 =>
  (rQ S49 40 (Zi S0 77)).bind fun v51 =>
  (oR S49 21 v51 2).bind fun v52 =>
  bnd (f_newPlace K S49 v52) fun S53 v54 =>
  (wRI S53 74 v50 v54).bind fun S55 =>
  f_step_590 K S55) else (if v2 = 14 then (bnd (f_runAssign K S1 (Zi S0 77)) fun S56 v57 =>
  f_step_590 K S56) else (if v2 = 15 then ((rQ S1 39 (Zi S0 77)).bind fun v58 =>
  bnd (f_runPrint K S1 v58) fun S59 v60 =>
  f_step_590 K S59) else (if v2 = 16 then ((rI S1 30 (Zi S0 77)).bind fun v61 =>
  (pM S1 77 v61).bind fun S62 =>
  f_step_590 K S62) else (if v2 = 17 then (bnd (f_pop K S1) fun S63 v64 =>
  if (lg_cmp v64 0) = 0 then ((rI S63 30 (Zi S0 77)).bind fun v65 =>
  (pM S63 77 v65).bind fun S66 =>
  f_step_590 K S66) else (f_step_590 K S63)) else (if v2 = 18 then (f_step_419 K S1 (Zi S0 77)) else (if v2 = 19 then (f_step_419 K S1 (Zi S0 77)) else (if v2 = 20 then (f_step_477 K S1 (Zi S0 77)) else (if v2 = 21 then (f_step_477 K S1 (Zi S0 77)) else (if v2 = 22 then ((rQ S1 41 (Zi S0 77)).bind fun v67 =>
  bnd (f_runBind K S1 v67) fun S68 v69 =>
  f_step_590 K S68) else (if v2 = 23 then ((rQ S1 40 (Zi S0 77)).bind fun v70 =>
  bnd (f_slot K S1 v70) fun S71 v72 =>
  (rQ S71 38 (Zi S0 77)).bind fun v73 =>
  (rQ S71 38 (Zi S0 77)).bind fun v74 =>
  (oI S71 18 v74 1).bind fun v75 =>
  bnd (f_find K S71 v73 v75) fun S76 v77 =>
  bnd (f_leaf K S76 (Int32.toInt64 v77)) fun S78 v79 =>
  (wRI S78 74 v72 v79).bind fun S80 =>
  f_step_590 K S80) else (if v2 = 24 then ((rQ S1 40 (Zi S0 77)).bind fun v81 =>
  bnd (f_runOut K S1 v81) fun S82 v83 =>
  f_step_590 K S82) else (if v2 = 25 then (f_step_590 K S1) else (if v2 = 26 then ((pM S1 76 ((Zi S1 76) - 1)).bind fun S84 =>
  if (Zi S84 76) ≤ 0 then (f_step_584 K S84 (-1)) else ((rI S84 75 (Zi S84 76)).bind fun v85 =>
  f_step_584 K S84 v85)) else (if v2 = 27 then (bnd (f_nextInput K S1) fun S86 v87 =>
  bnd (f_push K S86 v87) fun S88 v89 =>
  f_step_590 K S88) else (f_step_590 K S1))))))))))))))))))))))))))))
def f_runMain_102 (K : Ky) (S : Sg) : Option (Sg × Unit) :=
  some (S, ())
def f_runMain_81 (K : Ky) : Nat → Sg → Option (Sg × Unit)
  | 0, _ => none
  | n9 + 1, S =>
    if (Zi S 77) < 0 then (f_runMain_102 K S) else (bnd (f_ok K S) fun S15 v16 =>
    if v16 = 0 then (f_runMain_102 K S15) else (bnd (f_step K S15) fun S17 v18 =>
    f_runMain_81 K n9 S17))
def f_runMain_27 (K : Ky) : Nat → Sg → Int32 → Option (Sg × Unit)
  | 0, _, _ => none
  | n9 + 1, S, x1 =>
    if (Zi S 66) ≤ x1 then (bnd (f_burn K S) fun S6 v7 =>
    bnd (f_ok K S6) fun S8 v9 =>
    if v9 = 0 then (some (S8, ())) else ((pM S8 76 1).bind fun S10 =>
    (rQ S10 11 (Zi S10 21)).bind fun v11 =>
    (oI S10 16 v11 5).bind fun v12 =>
    (pM S10 77 v12).bind fun S13 =>
    f_runMain_81 K bigN S13)) else ((wZ S 67 x1 0).bind fun S14 =>
    f_runMain_27 K n9 S14 (x1 + 1))
def f_runMain (K : Ky) (S0 : Sg) : Option (Sg × Unit) :=
  (pM S0 64 0).bind fun S1 =>
  (pM S1 65 0).bind fun S2 =>
  (pM S2 73 0).bind fun S3 =>
  (pM S3 81 0).bind fun S4 =>
  (pM S4 76 0).bind fun S5 =>
  f_runMain_27 K bigN S5 0
def f_feedWord_3 (K : Ky) : Nat → Sg → Int32 → Int32 → Option (Sg × Unit)
  | 0, _, _, _ => none
  | n9 + 1, S, x1, x2 =>
    if x2 < 0 then (some (S, ())) else ((wRI S 0 (Zi S 1) ((x1 >>> (x2 &&& 31)) &&& 255)).bind fun S1 =>
    (pM S1 1 ((Zi S1 1) + 1)).bind fun S2 =>
    f_feedWord_3 K n9 S2 x1 (x2 + (-8)))
def f_feedWord (K : Ky) (S0 : Sg) (x1 : Int32) : Option (Sg × Unit) :=
  f_feedWord_3 K bigN S0 x1 24
def f_feed (K : Ky) (S0 : Sg) (x1 : Int32) (x2 : Int32) (x3 : Int32) (x4 : Int32) (x5 : Int32) : Option (Sg × Int32) :=
  if ((Zi S0 1) + 20) ≤ 3000 then (bnd (f_feedWord K S0 x1) fun S1 v2 =>
  bnd (f_feedWord K S1 x2) fun S3 v4 =>
  bnd (f_feedWord K S3 x3) fun S5 v6 =>
  bnd (f_feedWord K S5 x4) fun S7 v8 =>
  bnd (f_feedWord K S7 x5) fun S9 v10 =>
  (zB 1).bind fun _ => some (S9, 1)) else ((zB 0).bind fun _ => some (S0, 0))
def f_input (K : Ky) (S0 : Sg) (x1 : Int64) : Option (Sg × Int32) :=
  if (Zi S0 86) = 60 then ((zB 0).bind fun _ => some (S0, 0)) else ((wJ S0 85 (Zi S0 86) x1).bind fun S1 =>
  (pM S1 86 ((Zi S1 86) + 1)).bind fun S2 =>
  (zB 1).bind fun _ => some (S2, 1))
def f_place_ (K : Ky) (S0 : Sg) : Option (Sg × Int32) :=
  some (S0, Zi S0 88)
def f_fetch_78 (K : Ky) (k25 : Sg → Int32 → Int64 → Int32 → Option (Sg × Int64)) (S : Sg) (x1 : Int32) (x2 : Int64) (x4 : Int32) : Option (Sg × Int64) :=
  k25 S x1 x2 (x4 + 1)
def f_fetch_55 (K : Ky) (k25 : Sg → Int32 → Int64 → Int32 → Option (Sg × Int64)) (S : Sg) (x1 : Int32) (x4 : Int32) (y0 : Int32) (y1 : Int64) : Option (Sg × Int64) :=
  if x1 ≤ x4 then (f_fetch_78 K k25 S x1 (y1 ||| (Int32.toInt64 y0)) x4) else ((nzI 4000).bind fun _ =>
  (pM S 83 (((Zi S 83) + 1) - ((Zi S 83) + 1) / 4000 * 4000)).bind fun S3 =>
  f_fetch_78 K k25 S3 x1 (y1 ||| (Int32.toInt64 y0)) x4)
def f_fetch_25 (K : Ky) : Nat → Sg → Int32 → Int64 → Int32 → Option (Sg × Int64)
  | 0, _, _, _, _ => none
  | n9 + 1, S, x1, x2, x4 =>
    if 7 ≤ x4 then ((pM S 84 ((Zi S 84) - x1)).bind fun S1 =>
    some (S1, x2)) else (if x1 ≤ x4 then (f_fetch_55 K ((f_fetch_25 K n9)) S x1 x4 0 (x2 <<< (Int32.toInt64 8 &&& 63))) else ((rI S 82 (Zi S 83)).bind fun v2 =>
    f_fetch_55 K ((f_fetch_25 K n9)) S x1 x4 v2 (x2 <<< (Int32.toInt64 8 &&& 63))))
def f_fetch_18 (K : Ky) (S : Sg) (y0 : Int32) : Option (Sg × Int64) :=
  f_fetch_25 K bigN S y0 (Int32.toInt64 y0) 0
def f_fetch (K : Ky) (S0 : Sg) : Option (Sg × Int64) :=
  if 7 ≤ (Zi S0 84) then (f_fetch_18 K S0 7) else (f_fetch_18 K S0 (Zi S0 84))
end
-- k1.c17.lean.txt
section
def f_count (K : Ky) (S0 : Sg) (x1 : Int32) : Option (Sg × Int32) :=
  if x1 = 0 then (some (S0, Zi S0 71)) else (if x1 = 1 then (some (S0, Zi S0 68)) else (if x1 = 2 then (some (S0, Zi S0 69)) else (if x1 = 3 then (some (S0, Zi S0 1)) else (if x1 = 4 then (some (S0, Zi S0 84)) else (if x1 = 5 then (some (S0, Zi S0 86)) else (some (S0, (-1))))))))
end
-- k1.c98.lean.txt
section
def f_runP_23 (K : Ky) (V : Sg → Option (Sg × Int32)) (S : Sg) : Option (Sg × Int32) :=
  some (S, (-1))
def f_runP (K : Ky) (V : Sg → Option (Sg × Int32)) (S0 : Sg) (x1 : Int32) (x2 : Int32) : Option (Sg × Int32) :=
  if x1 < 0 then (f_runP_23 K V S0) else (if (Zi S0 1) < x1 then (f_runP_23 K V S0) else (if x2 < 0 then (f_runP_23 K V S0) else (if x2 ≤ 20000 then ((pM S0 2 x1).bind fun S1 =>
  (pM S1 1 0).bind fun S2 =>
  (pM S2 3 0).bind fun S3 =>
  (pM S3 4 (-1)).bind fun S4 =>
  (pM S4 70 x2).bind fun S5 =>
  (pM S5 68 0).bind fun S6 =>
  (pM S6 69 0).bind fun S7 =>
  V S7) else (f_runP_23 K V S0))))
end
-- k1.c99.lean.txt
section
def f_run_120 (K : Ky) (S : Sg) : Option (Sg × Int32) :=
  (pM S 71 (Zi S 70)).bind fun S18 =>
  some (S18, Zi S18 3)
def f_run_106 (K : Ky) (S : Sg) (y0 : Int32) : Option (Sg × Int32) :=
  (pM S 88 y0).bind fun S13 =>
  bnd (f_ok K S13) fun S14 v15 =>
  if v15 = 0 then (f_run_120 K S14) else (bnd (f_runMain K S14) fun S16 v17 =>
  f_run_120 K S16)
def f_run_90 (K : Ky) (S : Sg) : Option (Sg × Int32) :=
  bnd (f_ok K S) fun S11 v12 =>
  if v12 = 0 then (f_run_106 K S11 (Zi S11 4)) else (f_run_106 K S11 (-1))
def f_run_79 (K : Ky) (S : Sg) : Option (Sg × Int32) :=
  bnd (f_ok K S) fun S7 v8 =>
  if v8 = 0 then (f_run_90 K S7) else (bnd (f_layAll K S7) fun S9 v10 =>
  f_run_90 K S9)
def f_run64 (K : Ky) (S0 : Sg) : Option (Sg × Int32) :=
  bnd (f_program K S0) fun S1 v2 =>
  bnd (f_ok K S1) fun S3 v4 =>
  if v4 = 0 then (f_run_79 K S3) else (bnd (f_typeAll K S3) fun S5 v6 =>
  f_run_79 K S5)
end
