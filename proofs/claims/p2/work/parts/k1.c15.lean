def f_doAll_112 (K : Ky) (k0 : Sg → Option (Sg × Unit)) (S : Sg) : Option (Sg × Unit) :=
  k0 S
def f_doAll_0 (K : Ky) : Nat → Sg → Option (Sg × Unit)
  | 0, _ => none
  | n9 + 1, S =>
    if (Zi S 81) ≤ 0 then (some (S, ())) else ((pM S 81 ((Zi S 81) - 1)).bind fun S1 =>
    (rI S1 79 (Zi S1 81)).bind fun v2 =>
    (rQ S1 18 v2).bind fun v3 =>
    (rI S1 80 (Zi S1 81)).bind fun v4 =>
    (rI S1 78 (Zi S1 81)).bind fun v5 =>
    if v5 = 0 then (bnd (f_dropPlace K S1 v3 v4) fun S6 v7 =>
    f_doAll_112 K ((f_doAll_0 K n9)) S6) else (if v5 = 1 then (bnd (f_freePlace K S1 v3 v4) fun S8 v9 =>
    f_doAll_112 K ((f_doAll_0 K n9)) S8) else (if v5 = 2 then (bnd (f_freeBlock K S1 v4) fun S10 v11 =>
    bnd (f_freeNode K S10 v4) fun S12 v13 =>
    f_doAll_112 K ((f_doAll_0 K n9)) S12) else (bnd (f_freeNode K S1 v4) fun S14 v15 =>
    f_doAll_112 K ((f_doAll_0 K n9)) S14))))
def f_doAll (K : Ky) (S0 : Sg) : Option (Sg × Unit) :=
  f_doAll_0 K bigN S0
def f_writeWord_31 (K : Ky) (k3 : Sg → Int64 → Int32 → Option (Sg × Unit)) (S : Sg) (x1 : Int64) (x3 : Int32) : Option (Sg × Unit) :=
  k3 S x1 (x3 + (-8))
def f_writeWord_3 (K : Ky) : Nat → Sg → Int64 → Int32 → Option (Sg × Unit)
  | 0, _, _, _ => none
  | n9 + 1, S, x1, x3 =>
    if x3 < 0 then (some (S, ())) else (if (lg_cmp ((lushF x1 x3) &&& 255) 0) = 0 then (f_writeWord_31 K ((f_writeWord_3 K n9)) S x1 x3) else (bnd (f_write K S (Int64.toInt32 ((lushF x1 x3) &&& 255))) fun S1 v2 =>
    f_writeWord_31 K ((f_writeWord_3 K n9)) S1 x1 x3))
def f_writeWord (K : Ky) (S0 : Sg) (x1 : Int64) : Option (Sg × Unit) :=
  f_writeWord_3 K bigN S0 x1 56
def f_slot (K : Ky) (S0 : Sg) (x1 : Option Nat) : Option (Sg × Int32) :=
  (oI S0 21 x1 0).bind fun v1 =>
  some (S0, (40 * ((Zi S0 76) - 1)) + v1)
def f_find_162 (K : Ky) (k17 : Sg → Option Nat → Int32 → Int32 → Int32 → Option (Sg × Int32)) (S : Sg) (x1 : Option Nat) (x2 : Int32) (x3 : Int32) (x4 : Int32) : Option (Sg × Int32) :=
  k17 S x1 x2 x3 (x4 + 1)
def f_find_161 (K : Ky) (k17 : Sg → Option Nat → Int32 → Int32 → Int32 → Option (Sg × Int32)) (S : Sg) (x1 : Option Nat) (x2 : Int32) (x4 : Int32) (y0 : Int32) : Option (Sg × Int32) :=
  f_find_162 K k17 S x1 x2 y0 x4
def f_find_17 (K : Ky) : Nat → Sg → Option Nat → Int32 → Int32 → Int32 → Option (Sg × Int32)
  | 0, _, _, _, _, _ => none
  | n9 + 1, S, x1, x2, x3, x4 =>
    if x2 ≤ x4 then (some (S, x3)) else ((oR S 18 x1 2).bind fun v5 =>
    (aI K S v5 x4).bind fun v6 =>
    (oR S 18 x1 3).bind fun v7 =>
    (aQ K 4 S v7 x4).bind fun v8 =>
    if v6 < 1000 then (if v6 < 0 then ((oI S 20 v8 0).bind fun v9 =>
    if v9 = 5 then ((rJ S 61 x3).bind fun v11 =>
    bnd (f_kidOf K S (Int64.toInt32 v11)) fun S12 v13 =>
    f_find_161 K ((f_find_17 K n9)) S12 x1 x2 x4 v13) else ((rJ S 61 x3).bind fun v10 =>
    f_find_161 K ((f_find_17 K n9)) S x1 x2 x4 (Int64.toInt32 v10))) else ((oI S 20 v8 1).bind fun v14 =>
    (rQ S 11 v14).bind fun v15 =>
    (oR S 16 v15 10).bind fun v16 =>
    bnd (f_partOf K S v16 x3 v6) fun S17 v18 =>
    f_find_162 K ((f_find_17 K n9)) S17 x1 x2 v18 x4)) else ((oI S 20 v8 1).bind fun v19 =>
    (rQ S 11 v19).bind fun v20 =>
    (oR S 16 v20 11).bind fun v21 =>
    (aQ K 13 S v21 ((v6 - 1000) >>> (4 &&& 31))).bind fun v22 =>
    (oR S 17 v22 2).bind fun v23 =>
    (rJ S 61 x3).bind fun v24 =>
    bnd (f_kidOf K S (Int64.toInt32 v24)) fun S25 v26 =>
    bnd (f_partOf K S25 v23 v26 ((v6 - 1000) &&& 15)) fun S27 v28 =>
    f_find_162 K ((f_find_17 K n9)) S27 x1 x2 v28 x4))
def f_find (K : Ky) (S0 : Sg) (x1 : Option Nat) (x2 : Int32) : Option (Sg × Int32) :=
  (oR S0 18 x1 0).bind fun v1 =>
  bnd (f_slot K S0 v1) fun S2 v3 =>
  (rI S2 74 v3).bind fun v4 =>
  f_find_17 K bigN S2 x1 x2 v4 0
def f_runRead_165 (K : Ky) (S : Sg) : Option (Sg × Unit) :=
  some (S, ())
def f_runRead_153 (K : Ky) (S : Sg) (x4 : Int32) : Option (Sg × Unit) :=
  bnd (f_freeBlock K S x4) fun S40 v41 =>
  bnd (f_freeNode K S40 x4) fun S42 v43 =>
  f_runRead_165 K S42
def f_runRead_133 (K : Ky) (S : Sg) (x2 : Option Nat) (x4 : Int32) (x5 : Int32) (y0 : Int64) : Option (Sg × Unit) :=
  bnd (f_push K S y0) fun S32 v33 =>
  (oBk S32 18 x2).bind fun b36 =>
  bnd (f_X18_type K S32 b36) fun S34 v35 =>
  (oI S34 20 v35 0).bind fun v37 =>
  if v37 = 3 then (f_runRead_153 K S34 x4) else (bnd (f_freeNode K S34 x5) fun S38 v39 =>
  f_runRead_153 K S38 x4)
def f_runRead (K : Ky) (S0 : Sg) (x1 : Int32) : Option (Sg × Unit) :=
  (rQ S0 38 x1).bind fun v1 =>
  (rI S0 33 x1).bind fun v2 =>
  if v2 = 1 then ((oI S0 18 v1 1).bind fun v26 =>
  bnd (f_find K S0 v1 v26) fun S27 v28 =>
  (rJ S27 61 v28).bind fun v29 =>
  bnd (f_push K S27 v29) fun S30 v31 =>
  f_runRead_165 K S30) else ((rI S0 33 x1).bind fun v3 =>
  if v3 = 4 then ((oBk S0 18 v1).bind fun b18 =>
  bnd (f_X18_type K S0 b18) fun S16 v17 =>
  (oI S16 18 v1 1).bind fun v19 =>
  bnd (f_find K S16 v1 v19) fun S20 v21 =>
  bnd (f_takePlace K S20 v17 v21) fun S22 v23 =>
  bnd (f_push K S22 v23) fun S24 v25 =>
  f_runRead_165 K S24) else ((oI S0 18 v1 1).bind fun v4 =>
  bnd (f_find K S0 v1 (v4 - 1)) fun S5 v6 =>
  (rJ S5 61 v6).bind fun v7 =>
  (wZ S5 62 v6 0).bind fun S8 =>
  bnd (f_kidOf K S8 (Int64.toInt32 v7)) fun S9 v10 =>
  (oBk S9 18 v1).bind fun b13 =>
  bnd (f_X18_type K S9 b13) fun S11 v12 =>
  (oI S11 20 v12 0).bind fun v14 =>
  if v14 = 3 then (f_runRead_133 K S11 v1 (Int64.toInt32 v7) v10 (Int32.toInt64 v10)) else ((rJ S11 61 v10).bind fun v15 =>
  f_runRead_133 K S11 v1 (Int64.toInt32 v7) v10 v15)))
def f_runSign_351 (K : Ky) (S : Sg) (x6 : Int64) : Option (Sg × Unit) :=
  bnd (f_push K S x6) fun S6 v7 =>
  some (S6, ())
def f_runSign_340 (K : Ky) (S : Sg) (x6 : Int64) (x8 : Int32) : Option (Sg × Unit) :=
  if x8 = 0 then (f_runSign_351 K S x6) else ((pM S 3 7).bind fun S5 =>
  f_runSign_351 K S5 x6)
def f_runSign_98 (K : Ky) (S : Sg) (x6 : Int64) (y0 : Int32) : Option (Sg × Unit) :=
  f_runSign_340 K S x6 y0
def f_runSign_129 (K : Ky) (S : Sg) (x6 : Int64) (y0 : Int32) : Option (Sg × Unit) :=
  f_runSign_340 K S x6 y0
def f_runSign_179 (K : Ky) (S : Sg) (x6 : Int64) (y0 : Int32) : Option (Sg × Unit) :=
  f_runSign_340 K S x6 y0
def f_runSign_174 (K : Ky) (S : Sg) (x6 : Int64) : Option (Sg × Unit) :=
  f_runSign_179 K S x6 1
def f_runSign_178 (K : Ky) (S : Sg) (x6 : Int64) : Option (Sg × Unit) :=
  f_runSign_179 K S x6 0
def f_runSign_236 (K : Ky) (S : Sg) (x8 : Int32) (y0 : Int64) : Option (Sg × Unit) :=
  f_runSign_340 K S y0 x8
def f_runSign_212 (K : Ky) (S : Sg) (x1 : Int32) (x2 : Int64) (x4 : Int64) (x6 : Int64) (y0 : Int32) : Option (Sg × Unit) :=
  if y0 = 0 then (if x1 = 43 then ((nzL x2).bind fun _ =>
  f_runSign_236 K S y0 (x4 / x2)) else ((nzL x2).bind fun _ =>
  f_runSign_236 K S y0 (x4 - x4 / x2 * x2))) else (f_runSign_340 K S x6 y0)
def f_runSign_207 (K : Ky) (S : Sg) (x1 : Int32) (x2 : Int64) (x4 : Int64) (x6 : Int64) : Option (Sg × Unit) :=
  f_runSign_212 K S x1 x2 x4 x6 1
def f_runSign_211 (K : Ky) (S : Sg) (x1 : Int32) (x2 : Int64) (x4 : Int64) (x6 : Int64) : Option (Sg × Unit) :=
  f_runSign_212 K S x1 x2 x4 x6 0
def f_runSign_184 (K : Ky) (S : Sg) (x1 : Int32) (x2 : Int64) (x4 : Int64) (x6 : Int64) : Option (Sg × Unit) :=
  if (lg_cmp x2 0) = 0 then (f_runSign_207 K S x1 x2 x4 x6) else (if (lg_cmp x4 (-9223372036854775808)) = 0 then (if (lg_cmp x2 (-1)) = 0 then (f_runSign_207 K S x1 x2 x4 x6) else (f_runSign_211 K S x1 x2 x4 x6)) else (f_runSign_211 K S x1 x2 x4 x6))
def f_runSign_253 (K : Ky) (S : Sg) (x8 : Int32) (y0 : Int64) : Option (Sg × Unit) :=
  f_runSign_340 K S y0 x8
def f_runSign_270 (K : Ky) (S : Sg) (x8 : Int32) (y0 : Int64) : Option (Sg × Unit) :=
  f_runSign_340 K S y0 x8
def f_runSign_287 (K : Ky) (S : Sg) (x8 : Int32) (y0 : Int64) : Option (Sg × Unit) :=
  f_runSign_340 K S y0 x8
def f_runSign_304 (K : Ky) (S : Sg) (x8 : Int32) (y0 : Int64) : Option (Sg × Unit) :=
  f_runSign_340 K S y0 x8
def f_runSign_321 (K : Ky) (S : Sg) (x8 : Int32) (y0 : Int64) : Option (Sg × Unit) :=
  f_runSign_340 K S y0 x8
def f_runSign_338 (K : Ky) (S : Sg) (x8 : Int32) (y0 : Int64) : Option (Sg × Unit) :=
  f_runSign_340 K S y0 x8
def f_runSign (K : Ky) (S0 : Sg) (x1 : Int32) : Option (Sg × Unit) :=
  bnd (f_pop K S0) fun S1 v2 =>
  bnd (f_pop K S1) fun S3 v4 =>
  if x1 = 40 then (if 0 ≤ (lg_cmp ((v4 ^^^ (v4 + v2)) &&& (v2 ^^^ (v4 + v2))) 0) then (f_runSign_98 K S3 (v4 + v2) 0) else (f_runSign_98 K S3 (v4 + v2) 1)) else (if x1 = 41 then (if 0 ≤ (lg_cmp ((v4 ^^^ v2) &&& (v4 ^^^ (v4 - v2))) 0) then (f_runSign_129 K S3 (v4 - v2) 0) else (f_runSign_129 K S3 (v4 - v2) 1)) else (if x1 = 42 then (if (lg_cmp v4 0) = 0 then (f_runSign_178 K S3 (v4 * v2)) else ((nzL v4).bind fun _ =>
  if (lg_cmp ((v4 * v2) / v4) v2) = 0 then (if (lg_cmp v4 (-1)) = 0 then (if (lg_cmp v2 (-9223372036854775808)) = 0 then (f_runSign_174 K S3 (v4 * v2)) else (f_runSign_178 K S3 (v4 * v2))) else (f_runSign_178 K S3 (v4 * v2))) else (f_runSign_174 K S3 (v4 * v2)))) else (if x1 = 43 then (f_runSign_184 K S3 x1 v2 v4 0) else (if x1 = 44 then (f_runSign_184 K S3 x1 v2 v4 0) else (if x1 = 45 then (if (lg_cmp v4 v2) = 0 then (f_runSign_253 K S3 0 1) else (f_runSign_253 K S3 0 0)) else (if x1 = 46 then (if (lg_cmp v4 v2) = 0 then (f_runSign_270 K S3 0 0) else (f_runSign_270 K S3 0 1)) else (if x1 = 47 then (if 0 ≤ (lg_cmp v4 v2) then (f_runSign_287 K S3 0 0) else (f_runSign_287 K S3 0 1)) else (if x1 = 48 then (if 0 < (lg_cmp v4 v2) then (f_runSign_304 K S3 0 0) else (f_runSign_304 K S3 0 1)) else (if x1 = 49 then (if (lg_cmp v4 v2) ≤ 0 then (f_runSign_321 K S3 0 0) else (f_runSign_321 K S3 0 1)) else (if (lg_cmp v4 v2) < 0 then (f_runSign_338 K S3 0 0) else (f_runSign_338 K S3 0 1)))))))))))
def f_gather_53 (K : Ky) (k17 : Sg → Option Nat → Int32 → Option Nat → Int32 → Int32 → Int32 → Int32 → Option (Sg × Int32)) (k30 : Sg → Option Nat → Int32 → Option Nat → Int32 → Int32 → Int32 → Int32 → Int32 → Int32 → Option (Sg × Int32)) (S : Sg) (x1 : Option Nat) (x2 : Int32) (x3 : Option Nat) (x4 : Int32) (x5 : Int32) (x6 : Int32) (x7 : Int32) (x8 : Int32) (x9 : Int32) : Option (Sg × Int32) :=
  k30 S x1 x2 x3 x4 x5 x6 x7 x8 (x9 + 1)
def f_gather_100 (K : Ky) (k17 : Sg → Option Nat → Int32 → Option Nat → Int32 → Int32 → Int32 → Int32 → Option (Sg × Int32)) (S : Sg) (x1 : Option Nat) (x2 : Int32) (x3 : Option Nat) (x4 : Int32) (x5 : Int32) (x7 : Int32) (x9 : Int32) : Option (Sg × Int32) :=
  (aQ K 4 S x1 x7).bind fun v8 =>
  bnd (f_leavesOf K S v8) fun S9 v10 =>
  bnd (f_along K S9 x9 (v10 - 1)) fun S11 v12 =>
  k17 S11 x1 x2 x3 x4 x5 v12 (x7 + 1)
def f_gather_59 (K : Ky) (k17 : Sg → Option Nat → Int32 → Option Nat → Int32 → Int32 → Int32 → Int32 → Option (Sg × Int32)) (S : Sg) (x1 : Option Nat) (x2 : Int32) (x3 : Option Nat) (x4 : Int32) (x5 : Int32) (x6 : Int32) (x7 : Int32) (x8 : Int32) : Option (Sg × Int32) :=
  (aQ K 4 S x1 x7).bind fun v3 =>
  (rJ S 72 (x4 + x8)).bind fun v4 =>
  bnd (f_freshPlace K S v3 v4) fun S5 v6 =>
  if x6 = 0 then (f_gather_100 K k17 S5 x1 x2 x3 x4 v6 x7 v6) else ((wRI S5 63 x6 v6).bind fun S7 =>
  f_gather_100 K k17 S7 x1 x2 x3 x4 x5 x7 v6)
def f_gather_30 (K : Ky) (k17 : Sg → Option Nat → Int32 → Option Nat → Int32 → Int32 → Int32 → Int32 → Option (Sg × Int32)) : Nat → Sg → Option Nat → Int32 → Option Nat → Int32 → Int32 → Int32 → Int32 → Int32 → Int32 → Option (Sg × Int32)
  | 0, _, _, _, _, _, _, _, _, _, _ => none
  | n9 + 1, S, x1, x2, x3, x4, x5, x6, x7, x8, x9 =>
    if x3 = none then (f_gather_59 K k17 S x1 x2 x3 x4 x5 x6 x7 x8) else (if x2 ≤ x9 then (f_gather_59 K k17 S x1 x2 x3 x4 x5 x6 x7 x8) else ((aI K S x3 x9).bind fun v2 =>
    if v2 = x7 then (f_gather_53 K k17 ((f_gather_30 K k17 n9)) S x1 x2 x3 x4 x5 x6 x7 x9 x9) else (f_gather_53 K k17 ((f_gather_30 K k17 n9)) S x1 x2 x3 x4 x5 x6 x7 x8 x9)))
def f_gather_17 (K : Ky) : Nat → Sg → Option Nat → Int32 → Option Nat → Int32 → Int32 → Int32 → Int32 → Option (Sg × Int32)
  | 0, _, _, _, _, _, _, _, _ => none
  | n9 + 1, S, x1, x2, x3, x4, x5, x6, x7 =>
    if x2 ≤ x7 then ((pM S 73 x4).bind fun S1 =>
    some (S1, x5)) else (f_gather_30 K ((f_gather_17 K n9)) bigN S x1 x2 x3 x4 x5 x6 x7 x7 0)
def f_gather (K : Ky) (S0 : Sg) (x1 : Option Nat) (x2 : Int32) (x3 : Option Nat) : Option (Sg × Int32) :=
  f_gather_17 K bigN S0 x1 x2 x3 ((Zi S0 73) - x2) 0 0 0
def f_runCall_88 (K : Ky) : Nat → Sg → Option Nat → Int32 → Int32 → Option (Sg × Unit)
  | 0, _, _, _, _ => none
  | n9 + 1, S, x2, x3, x4 =>
    (oI S 16 x2 3).bind fun v9 =>
    if v9 ≤ x4 then ((pM S 73 x3).bind fun S10 =>
    (oI S10 16 x2 5).bind fun v11 =>
    (pM S10 77 v11).bind fun S12 =>
    some (S12, ())) else ((oR S 16 x2 17).bind fun v13 =>
    (aQ K 5 S v13 x4).bind fun v14 =>
    bnd (f_slot K S v14) fun S15 v16 =>
    (oR S15 16 x2 17).bind fun v17 =>
    (aQ K 5 S15 v17 x4).bind fun v18 =>
    (oR S15 21 v18 2).bind fun v19 =>
    (rJ S15 72 (x3 + x4)).bind fun v20 =>
    bnd (f_freshPlace K S15 v19 v20) fun S21 v22 =>
    (wRI S21 74 v16 v22).bind fun S23 =>
    f_runCall_88 K n9 S23 x2 x3 (x4 + 1))
def f_runCall (K : Ky) (S0 : Sg) (x1 : Int32) : Option (Sg × Unit) :=
  if (Zi S0 70) = 0 then ((pM S0 3 8).bind fun S8 =>
  some (S8, ())) else ((pM S0 70 ((Zi S0 70) - 1)).bind fun S1 =>
  if (Zi S1 76) = 60 then ((pM S1 3 10).bind fun S7 =>
  some (S7, ())) else ((rI S1 28 x1).bind fun v2 =>
  (rQ S1 11 v2).bind fun v3 =>
  (wRI S1 75 (Zi S1 76) (Zi S1 77)).bind fun S4 =>
  (pM S4 76 ((Zi S4 76) + 1)).bind fun S5 =>
  (oI S5 16 v3 3).bind fun v6 =>
  f_runCall_88 K bigN S5 v3 ((Zi S5 73) - v6) 0))
def f_runAssign (K : Ky) (S0 : Sg) (x1 : Int32) : Option (Sg × Unit) :=
  (rQ S0 38 x1).bind fun v1 =>
  (oBk S0 18 v1).bind fun b4 =>
  bnd (f_X18_type K S0 b4) fun S2 v3 =>
  bnd (f_pop K S2) fun S5 v6 =>
  (oI S5 18 v1 1).bind fun v7 =>
  bnd (f_find K S5 v1 v7) fun S8 v9 =>
  bnd (f_dropPlace K S8 v3 v9) fun S10 v11 =>
  bnd (f_doAll K S10) fun S12 v13 =>
  bnd (f_setPlace K S12 v3 v9 v6) fun S14 v15 =>
  some (S14, ())
def f_runBind_15 (K : Ky) : Nat → Sg → Option Nat → Int32 → Int32 → Int32 → Option (Sg × Unit)
  | 0, _, _, _, _, _ => none
  | n9 + 1, S, x1, x2, x3, x4 =>
    (oI S 13 x1 3).bind fun v5 =>
    if v5 ≤ x4 then (bnd (f_freeNode K S x2) fun S6 v7 =>
    some (S6, ())) else ((oR S 13 x1 4).bind fun v8 =>
    (aQ K 5 S v8 x4).bind fun v9 =>
    bnd (f_slot K S v9) fun S10 v11 =>
    (wRI S10 74 v11 x3).bind fun S12 =>
    (oR S12 13 x1 4).bind fun v13 =>
    (aQ K 5 S12 v13 x4).bind fun v14 =>
    (oR S12 21 v14 2).bind fun v15 =>
    bnd (f_leavesOf K S12 v15) fun S16 v17 =>
    bnd (f_along K S16 x3 v17) fun S18 v19 =>
    f_runBind_15 K n9 S18 x1 x2 v19 (x4 + 1))
def f_runBind (K : Ky) (S0 : Sg) (x1 : Option Nat) : Option (Sg × Unit) :=
  bnd (f_pop K S0) fun S1 v2 =>
  bnd (f_kidOf K S1 (Int64.toInt32 v2)) fun S3 v4 =>
  f_runBind_15 K bigN S3 x1 (Int64.toInt32 v2) v4 0
def f_runOut (K : Ky) (S0 : Sg) (x1 : Option Nat) : Option (Sg × Unit) :=
  bnd (f_slot K S0 x1) fun S1 v2 =>
  (rI S1 74 v2).bind fun v3 =>
  (oR S1 21 x1 2).bind fun v4 =>
  if v4 = none then (bnd (f_freeNode K S1 v3) fun S13 v14 =>
  some (S13, ())) else ((oR S1 21 x1 2).bind fun v5 =>
  bnd (f_dropPlace K S1 v5 v3) fun S6 v7 =>
  bnd (f_doAll K S6) fun S8 v9 =>
  (oR S8 21 x1 2).bind fun v10 =>
  bnd (f_freePlace K S8 v10 v3) fun S11 v12 =>
  some (S11, ()))
def f_runPrint_39 (K : Ky) (S : Sg) : Option (Sg × Unit) :=
  bnd (f_write K S 10) fun S6 v7 =>
  some (S6, ())
def f_runPrint_36 (K : Ky) (S : Sg) (y0 : Int64) : Option (Sg × Unit) :=
  bnd (f_writeWord K S y0) fun S8 v9 =>
  f_runPrint_39 K S8
def f_runPrint (K : Ky) (S0 : Sg) (x1 : Option Nat) : Option (Sg × Unit) :=
  bnd (f_pop K S0) fun S1 v2 =>
  (oI S1 20 x1 0).bind fun v3 =>
  if v3 = 0 then (bnd (f_writeNumber K S1 v2) fun S4 v5 =>
  f_runPrint_39 K S4) else (if (lg_cmp v2 0) = 0 then (f_runPrint_36 K S1 439721161573) else (f_runPrint_36 K S1 1953658213))
