def f_plainType (K : Ky) (S0 : Sg) (x1 : Int32) : Option (Sg × Option Nat) :=
  bnd (f_type K S0 x1 0 none) fun S1 v2 =>
  some (S1, v2)
def f_refers_23 (K : Ky) (S : Sg) (y0 : Int32) : Option (Sg × Int32) :=
  (zB y0).bind fun _ => some (S, y0)
def f_refers_18 (K : Ky) (S : Sg) : Option (Sg × Int32) :=
  f_refers_23 K S 1
def f_refers (K : Ky) (S0 : Sg) (x0 : Option Nat) : Option (Sg × Int32) :=
  (oI S0 20 x0 0).bind fun v1 =>
  if v1 = 6 then (f_refers_18 K S0) else ((oI S0 20 x0 0).bind fun v2 =>
  if v2 = 7 then (f_refers_18 K S0) else (f_refers_23 K S0 0))
def f_copied_29 (K : Ky) (S : Sg) (y0 : Int32) : Option (Sg × Int32) :=
  (zB y0).bind fun _ => some (S, y0)
def f_copied_24 (K : Ky) (S : Sg) : Option (Sg × Int32) :=
  f_copied_29 K S 1
def f_copied (K : Ky) (S0 : Sg) (x0 : Option Nat) : Option (Sg × Int32) :=
  (oI S0 20 x0 0).bind fun v1 =>
  if v1 = 0 then (f_copied_24 K S0) else ((oI S0 20 x0 0).bind fun v2 =>
  if v2 = 1 then (f_copied_24 K S0) else ((oI S0 20 x0 0).bind fun v3 =>
  if v3 = 6 then (f_copied_24 K S0) else (f_copied_29 K S0 0)))
def f_itemNamed_2 (K : Ky) : Nat → Sg → Int32 → Int32 → Option (Sg × Int32)
  | 0, _, _, _ => none
  | n9 + 1, S, x1, x2 =>
    if (Zi S 12) ≤ x2 then (some (S, (-1))) else ((rQ S 11 x2).bind fun v1 =>
    (oI S 16 v1 1).bind fun v2 =>
    bnd (f_sameName K S v2 x1) fun S3 v4 =>
    if v4 = 0 then (f_itemNamed_2 K n9 S3 x1 (x2 + 1)) else (some (S3, x2)))
def f_itemNamed (K : Ky) (S0 : Sg) (x1 : Int32) : Option (Sg × Int32) :=
  f_itemNamed_2 K bigN S0 x1 0
def f_resolve_70 (K : Ky) (V : Sg → Option Nat → Int32 → Option (Sg × Option Nat)) (S : Sg) (y0 : Int32) : Option (Sg × Option Nat) :=
  bnd (f_plainType K S y0) fun S38 v39 =>
  some (S38, v39)
def f_resolve_42 (K : Ky) (V : Sg → Option Nat → Int32 → Option (Sg × Option Nat)) (S : Sg) (x1 : Option Nat) : Option (Sg × Option Nat) :=
  (oI S 22 x1 0).bind fun v36 =>
  if v36 = 26 then (f_resolve_70 K V S 0) else ((oI S 22 x1 0).bind fun v37 =>
  if v37 = 27 then (f_resolve_70 K V S 1) else (f_resolve_70 K V S 2))
def f_resolve_139 (K : Ky) (V : Sg → Option Nat → Int32 → Option (Sg × Option Nat)) (S : Sg) (x1 : Option Nat) (y0 : Int32) : Option (Sg × Option Nat) :=
  (oR S 22 x1 4).bind fun v26 =>
  bnd (V S v26 0) fun S27 v28 =>
  bnd (f_type K S27 y0 0 v28) fun S29 v30 =>
  some (S29, v30)
def f_resolve_183 (K : Ky) (V : Sg → Option Nat → Int32 → Option (Sg × Option Nat)) (S : Sg) (x1 : Option Nat) (x3 : Option Nat) : Option (Sg × Option Nat) :=
  (oI S 22 x1 1).bind fun v33 =>
  bnd (f_fail K S 3 v33) fun S34 v35 =>
  some (S34, x3)
def f_resolve_215 (K : Ky) (V : Sg → Option Nat → Int32 → Option (Sg × Option Nat)) (S : Sg) (x4 : Int32) (y0 : Int32) : Option (Sg × Option Nat) :=
  bnd (f_type K S y0 x4 none) fun S31 v32 =>
  some (S31, v32)
def f_resolve (K : Ky) : Nat → Sg → Option Nat → Int32 → Option (Sg × Option Nat)
  | 0, _, _, _ => none
  | d + 1, S0, x1, x2 =>
    bnd (f_plainType K S0 0) fun S1 v2 =>
    bnd (f_ok K S1) fun S3 v4 =>
    if v4 = 0 then (some (S3, v2)) else ((oI S3 22 x1 0).bind fun v5 =>
    if v5 = 26 then (f_resolve_42 K (f_resolve K d) S3 x1) else ((oI S3 22 x1 0).bind fun v6 =>
    if v6 = 27 then (f_resolve_42 K (f_resolve K d) S3 x1) else ((oI S3 22 x1 0).bind fun v7 =>
    if v7 = 25 then (f_resolve_42 K (f_resolve K d) S3 x1) else ((oI S3 22 x1 0).bind fun v8 =>
    if v8 = 23 then ((oR S3 22 x1 4).bind fun v21 =>
    bnd ((f_resolve K d) S3 v21 0) fun S22 v23 =>
    bnd (f_type K S22 5 0 v23) fun S24 v25 =>
    some (S24, v25)) else ((oI S3 22 x1 0).bind fun v9 =>
    if v9 = 55 then (if x2 = 0 then ((oI S3 22 x1 1).bind fun v18 =>
    bnd (f_fail K S3 4 v18) fun S19 v20 =>
    some (S19, v2)) else ((oI S3 22 x1 2).bind fun v17 =>
    if v17 = 1 then (f_resolve_139 K (f_resolve K d) S3 x1 7) else (f_resolve_139 K (f_resolve K d) S3 x1 6))) else ((oI S3 22 x1 1).bind fun v10 =>
    bnd (f_itemNamed K S3 v10) fun S11 v12 =>
    if v12 < 0 then (f_resolve_183 K (f_resolve K d) S11 x1 v2) else ((rQ S11 11 v12).bind fun v13 =>
    (oI S11 16 v13 2).bind fun v14 =>
    if v14 = 12 then (f_resolve_183 K (f_resolve K d) S11 x1 v2) else ((rQ S11 11 v12).bind fun v15 =>
    (oI S11 16 v15 2).bind fun v16 =>
    if v16 = 10 then (f_resolve_215 K (f_resolve K d) S11 v12 3) else (f_resolve_215 K (f_resolve K d) S11 v12 4)))))))))
def f_noLife_32 (K : Ky) (S : Sg) : Option (Sg × Unit) :=
  some (S, ())
def f_noLife (K : Ky) (S0 : Sg) (x1 : Option Nat) : Option (Sg × Unit) :=
  bnd (f_ok K S0) fun S1 v2 =>
  if v2 = 0 then (f_noLife_32 K S1) else ((oI S1 22 x1 0).bind fun v3 =>
  if v3 = 55 then ((oI S1 22 x1 3).bind fun v4 =>
  if v4 < 0 then (f_noLife_32 K S1) else ((oI S1 22 x1 3).bind fun v5 =>
  bnd (f_fail K S1 4 v5) fun S6 v7 =>
  f_noLife_32 K S6)) else (f_noLife_32 K S1))
def f_lifeIn_23 (K : Ky) (S : Sg) : Option (Sg × Int32) :=
  some (S, (-1))
def f_lifeIn_27 (K : Ky) : Nat → Sg → Option Nat → Option Nat → Int32 → Option (Sg × Int32)
  | 0, _, _, _, _ => none
  | n9 + 1, S, x1, x2, x3 =>
    (oI S 16 x1 6).bind fun v5 =>
    if v5 ≤ x3 then ((oI S 22 x2 3).bind fun v6 =>
    bnd (f_fail K S 3 v6) fun S7 v8 =>
    some (S7, (-1))) else ((oR S 16 x1 12).bind fun v9 =>
    (aI K S v9 x3).bind fun v10 =>
    (oI S 22 x2 3).bind fun v11 =>
    bnd (f_sameName K S v10 v11) fun S12 v13 =>
    if v13 = 0 then (f_lifeIn_27 K n9 S12 x1 x2 (x3 + 1)) else (some (S12, x3)))
def f_lifeIn (K : Ky) (S0 : Sg) (x1 : Option Nat) (x2 : Option Nat) : Option (Sg × Int32) :=
  bnd (f_ok K S0) fun S1 v2 =>
  if v2 = 0 then (f_lifeIn_23 K S1) else ((oI S1 22 x2 0).bind fun v3 =>
  if v3 = 55 then ((oI S1 22 x2 3).bind fun v4 =>
  if 0 ≤ v4 then (f_lifeIn_27 K bigN S1 x1 x2 0) else (f_lifeIn_23 K S1)) else (f_lifeIn_23 K S1))
def f_lives_54 (K : Ky) (k2 : Sg → Option Nat → Int32 → Option (Sg × Unit)) (k19 : Sg → Option Nat → Int32 → Int32 → Option (Sg × Unit)) (S : Sg) (x1 : Option Nat) (x2 : Int32) (x3 : Int32) : Option (Sg × Unit) :=
  k19 S x1 x2 (x3 + 1)
def f_lives_19 (K : Ky) (k2 : Sg → Option Nat → Int32 → Option (Sg × Unit)) : Nat → Sg → Option Nat → Int32 → Int32 → Option (Sg × Unit)
  | 0, _, _, _, _ => none
  | n9 + 1, S, x1, x2, x3 =>
    if x2 ≤ x3 then (k2 S x1 (x2 + 1)) else ((oR S 16 x1 12).bind fun v4 =>
    (aI K S v4 x3).bind fun v5 =>
    (oR S 16 x1 12).bind fun v6 =>
    (aI K S v6 x2).bind fun v7 =>
    bnd (f_sameName K S v5 v7) fun S8 v9 =>
    if v9 = 0 then (f_lives_54 K k2 ((f_lives_19 K k2 n9)) S8 x1 x2 x3) else ((oR S8 16 x1 12).bind fun v10 =>
    (aI K S8 v10 x2).bind fun v11 =>
    bnd (f_fail K S8 3 v11) fun S12 v13 =>
    f_lives_54 K k2 ((f_lives_19 K k2 n9)) S12 x1 x2 x3))
def f_lives_66 (K : Ky) (S : Sg) : Option (Sg × Unit) :=
  some (S, ())
def f_lives_2 (K : Ky) : Nat → Sg → Option Nat → Int32 → Option (Sg × Unit)
  | 0, _, _, _ => none
  | n9 + 1, S, x1, x2 =>
    (oI S 16 x1 6).bind fun v1 =>
    if v1 ≤ x2 then (f_lives_66 K S) else (bnd (f_ok K S) fun S2 v3 =>
    if v3 = 0 then (f_lives_66 K S2) else (f_lives_19 K ((f_lives_2 K n9)) bigN S2 x1 x2 0))
def f_lives (K : Ky) (S0 : Sg) (x1 : Option Nat) : Option (Sg × Unit) :=
  f_lives_2 K bigN S0 x1 0
def f_itemNames_56 (K : Ky) (k2 : Sg → Int32 → Option (Sg × Unit)) (k12 : Sg → Int32 → Int32 → Option (Sg × Unit)) (S : Sg) (x1 : Int32) (x2 : Int32) : Option (Sg × Unit) :=
  k12 S x1 (x2 + 1)
def f_itemNames_12 (K : Ky) (k2 : Sg → Int32 → Option (Sg × Unit)) : Nat → Sg → Int32 → Int32 → Option (Sg × Unit)
  | 0, _, _, _ => none
  | n9 + 1, S, x1, x2 =>
    if x1 ≤ x2 then (k2 S (x1 + 1)) else ((rQ S 11 x1).bind fun v1 =>
    (oI S 16 v1 1).bind fun v2 =>
    (rQ S 11 x2).bind fun v3 =>
    (oI S 16 v3 1).bind fun v4 =>
    bnd (f_sameName K S v2 v4) fun S5 v6 =>
    if v6 = 0 then (f_itemNames_56 K k2 ((f_itemNames_12 K k2 n9)) S5 x1 x2) else ((rQ S5 11 x1).bind fun v7 =>
    (oI S5 16 v7 1).bind fun v8 =>
    bnd (f_fail K S5 3 v8) fun S9 v10 =>
    f_itemNames_56 K k2 ((f_itemNames_12 K k2 n9)) S9 x1 x2))
def f_itemNames_2 (K : Ky) : Nat → Sg → Int32 → Option (Sg × Unit)
  | 0, _, _ => none
  | n9 + 1, S, x1 =>
    if (Zi S 12) ≤ x1 then (some (S, ())) else (f_itemNames_12 K ((f_itemNames_2 K n9)) bigN S x1 0)
def f_itemNames (K : Ky) (S0 : Sg) : Option (Sg × Unit) :=
  f_itemNames_2 K bigN S0 0
def f_itemTypes_68 (K : Ky) (k16 : Sg → Option Nat → Int32 → Option (Sg × Unit)) (k33 : Sg → Option Nat → Int32 → Int32 → Option (Sg × Unit)) (S : Sg) (x1 : Option Nat) (x2 : Int32) (x3 : Int32) : Option (Sg × Unit) :=
  k33 S x1 x2 (x3 + 1)
def f_itemTypes_197 (K : Ky) (k16 : Sg → Option Nat → Int32 → Option (Sg × Unit)) (S : Sg) (x1 : Option Nat) (x2 : Int32) : Option (Sg × Unit) :=
  k16 S x1 (x2 + 1)
def f_itemTypes_109 (K : Ky) (k16 : Sg → Option Nat → Int32 → Option (Sg × Unit)) (S : Sg) (x1 : Option Nat) (x2 : Int32) (y0 : Int32) (y1 : Option Nat) (y3 : Int32) (y4 : Option Nat) : Option (Sg × Unit) :=
  bnd (f_resolve K 20 S y1 y0) fun S22 v23 =>
  (bQ K 4 20 S22 y4 y3 v23).bind fun S24 =>
  (oI S24 16 x1 2).bind fun v25 =>
  if v25 = 12 then ((oR S24 16 x1 13).bind fun v26 =>
  (oR S24 16 x1 9).bind fun v27 =>
  (aQ K 12 S24 v27 x2).bind fun v28 =>
  bnd (f_lifeIn K S24 x1 v28) fun S29 v30 =>
  (bI K S29 v26 x2 v30).bind fun S31 =>
  f_itemTypes_197 K k16 S31 x1 x2) else (f_itemTypes_197 K k16 S24 x1 x2)
def f_itemTypes_144 (K : Ky) (k16 : Sg → Option Nat → Int32 → Option (Sg × Unit)) : Nat → Sg → Option Nat → Int32 → Int32 → Option (Sg × Unit)
  | 0, _, _, _, _ => none
  | n9 + 1, S, x1, x2, x3 =>
    (oR S 16 x1 11).bind fun v32 =>
    (aQ K 13 S v32 x2).bind fun v33 =>
    (oI S 17 v33 0).bind fun v34 =>
    if v34 ≤ x3 then (f_itemTypes_197 K k16 S x1 x2) else (bnd (f_ok K S) fun S35 v36 =>
    if v36 = 0 then (f_itemTypes_197 K k16 S35 x1 x2) else ((oR S35 16 x1 11).bind fun v37 =>
    (aQ K 13 S35 v37 x2).bind fun v38 =>
    (oR S35 17 v38 2).bind fun v39 =>
    (oR S35 16 x1 11).bind fun v40 =>
    (aQ K 13 S35 v40 x2).bind fun v41 =>
    (oR S35 17 v41 1).bind fun v42 =>
    (aQ K 12 S35 v42 x3).bind fun v43 =>
    bnd (f_resolve K 20 S35 v43 0) fun S44 v45 =>
    (bQ K 4 20 S44 v39 x3 v45).bind fun S46 =>
    f_itemTypes_144 K k16 n9 S46 x1 x2 (x3 + 1)))
def f_itemTypes_33 (K : Ky) (k16 : Sg → Option Nat → Int32 → Option (Sg × Unit)) : Nat → Sg → Option Nat → Int32 → Int32 → Option (Sg × Unit)
  | 0, _, _, _, _ => none
  | n9 + 1, S, x1, x2, x3 =>
    if x2 ≤ x3 then ((oI S 16 x1 2).bind fun v7 =>
    if v7 = 11 then (f_itemTypes_144 K k16 bigN S x1 x2 0) else ((oR S 16 x1 10).bind fun v8 =>
    (oR S 16 x1 9).bind fun v9 =>
    (aQ K 12 S v9 x2).bind fun v10 =>
    (oI S 16 x1 2).bind fun v11 =>
    if v11 = 12 then (f_itemTypes_109 K k16 S x1 x2 1 v10 x2 v8) else (f_itemTypes_109 K k16 S x1 x2 0 v10 x2 v8))) else ((oR S 16 x1 8).bind fun v12 =>
    (aI K S v12 x3).bind fun v13 =>
    (oR S 16 x1 8).bind fun v14 =>
    (aI K S v14 x2).bind fun v15 =>
    bnd (f_sameName K S v13 v15) fun S16 v17 =>
    if v17 = 0 then (f_itemTypes_68 K k16 ((f_itemTypes_33 K k16 n9)) S16 x1 x2 x3) else ((oR S16 16 x1 8).bind fun v18 =>
    (aI K S16 v18 x2).bind fun v19 =>
    bnd (f_fail K S16 3 v19) fun S20 v21 =>
    f_itemTypes_68 K k16 ((f_itemTypes_33 K k16 n9)) S20 x1 x2 x3))
def f_itemTypes_219 (K : Ky) (S : Sg) : Option (Sg × Unit) :=
  some (S, ())
def f_itemTypes_270 (K : Ky) (S : Sg) (y0 : Int32) (y1 : Option Nat) : Option (Sg × Unit) :=
  (pV S 16 y1 7 (.int y0)).bind fun S61 =>
  some (S61, ())
def f_itemTypes_246 (K : Ky) (S : Sg) (x1 : Option Nat) (y0 : Option Nat) (y1 : Option Nat) : Option (Sg × Unit) :=
  (pV S 16 y1 15 (va_rf y0)).bind fun S56 =>
  (oR S56 16 x1 14).bind fun v57 =>
  if v57 = none then (f_itemTypes_270 K S56 (-1) x1) else ((oR S56 16 x1 14).bind fun v58 =>
  bnd (f_lifeIn K S56 x1 v58) fun S59 v60 =>
  f_itemTypes_270 K S59 v60 x1)
def f_itemTypes_203 (K : Ky) (S : Sg) (x1 : Option Nat) : Option (Sg × Unit) :=
  (oI S 16 x1 2).bind fun v47 =>
  if v47 = 12 then (bnd (f_ok K S) fun S48 v49 =>
  if v49 = 0 then (f_itemTypes_219 K S48) else ((oR S48 16 x1 14).bind fun v50 =>
  if v50 = none then (bnd (f_plainType K S48 8) fun S54 v55 =>
  f_itemTypes_246 K S54 x1 v55 x1) else ((oR S48 16 x1 14).bind fun v51 =>
  bnd (f_resolve K 20 S48 v51 1) fun S52 v53 =>
  f_itemTypes_246 K S52 x1 v53 x1))) else (f_itemTypes_219 K S)
def f_itemTypes_16 (K : Ky) : Nat → Sg → Option Nat → Int32 → Option (Sg × Unit)
  | 0, _, _, _ => none
  | n9 + 1, S, x1, x2 =>
    (oI S 16 x1 3).bind fun v4 =>
    if v4 ≤ x2 then (f_itemTypes_203 K S x1) else (bnd (f_ok K S) fun S5 v6 =>
    if v6 = 0 then (f_itemTypes_203 K S5 x1) else (f_itemTypes_33 K ((f_itemTypes_16 K n9)) bigN S5 x1 x2 0))
def f_itemTypes_14 (K : Ky) (S : Sg) (x1 : Option Nat) : Option (Sg × Unit) :=
  f_itemTypes_16 K bigN S x1 0
def f_itemTypes (K : Ky) (S0 : Sg) (x1 : Option Nat) : Option (Sg × Unit) :=
  (oI S0 16 x1 2).bind fun v1 =>
  if v1 = 12 then (bnd (f_lives K S0 x1) fun S2 v3 =>
  f_itemTypes_14 K S2 x1) else (f_itemTypes_14 K S0 x1)
def f_isItem_29 (K : Ky) (S : Sg) (y0 : Int32) : Option (Sg × Int32) :=
  (zB y0).bind fun _ => some (S, y0)
def f_isItem_28 (K : Ky) (S : Sg) : Option (Sg × Int32) :=
  f_isItem_29 K S 0
def f_isItem_16 (K : Ky) (S : Sg) (x0 : Option Nat) (x1 : Int32) : Option (Sg × Int32) :=
  (oI S 20 x0 1).bind fun v3 =>
  if v3 = x1 then (f_isItem_29 K S 1) else (f_isItem_28 K S)
def f_isItem (K : Ky) (S0 : Sg) (x0 : Option Nat) (x1 : Int32) : Option (Sg × Int32) :=
  (oI S0 20 x0 0).bind fun v1 =>
  if v1 = 3 then (f_isItem_16 K S0 x0 x1) else ((oI S0 20 x0 0).bind fun v2 =>
  if v2 = 4 then (f_isItem_16 K S0 x0 x1) else (f_isItem_28 K S0))
def f_lies_99 (K : Ky) (k10 : Sg → Int32 → Option Nat → Int32 → Option (Sg × Int32)) (S : Sg) (x2 : Int32) (x3 : Option Nat) (x4 : Int32) : Option (Sg × Int32) :=
  k10 S x2 x3 (x4 + 1)
def f_lies_47 (K : Ky) (k10 : Sg → Int32 → Option Nat → Int32 → Option (Sg × Int32)) : Nat → Sg → Int32 → Option Nat → Int32 → Int32 → Option (Sg × Int32)
  | 0, _, _, _, _, _ => none
  | n9 + 1, S, x2, x3, x4, x5 =>
    (oI S 16 x3 2).bind fun v8 =>
    if v8 = 11 then ((oR S 16 x3 11).bind fun v9 =>
    (aQ K 13 S v9 x4).bind fun v10 =>
    (oI S 17 v10 0).bind fun v11 =>
    if v11 ≤ x5 then (f_lies_99 K k10 S x2 x3 x4) else ((oR S 16 x3 11).bind fun v12 =>
    (aQ K 13 S v12 x4).bind fun v13 =>
    (oR S 17 v13 2).bind fun v14 =>
    (aQ K 4 S v14 x5).bind fun v15 =>
    bnd (f_isItem K S v15 x2) fun S16 v17 =>
    if v17 = 0 then (f_lies_47 K k10 n9 S16 x2 x3 x4 (x5 + 1)) else ((zB 1).bind fun _ => some (S16, 1)))) else (f_lies_99 K k10 S x2 x3 x4)
def f_lies_44 (K : Ky) (k10 : Sg → Int32 → Option Nat → Int32 → Option (Sg × Int32)) (S : Sg) (x2 : Int32) (x3 : Option Nat) (x4 : Int32) : Option (Sg × Int32) :=
  f_lies_47 K k10 bigN S x2 x3 x4 0
def f_lies_10 (K : Ky) : Nat → Sg → Int32 → Option Nat → Int32 → Option (Sg × Int32)
  | 0, _, _, _, _ => none
  | n9 + 1, S, x2, x3, x4 =>
    (oI S 16 x3 3).bind fun v2 =>
    if v2 ≤ x4 then ((zB 0).bind fun _ => some (S, 0)) else ((oI S 16 x3 2).bind fun v3 =>
    if v3 = 10 then ((oR S 16 x3 10).bind fun v4 =>
    (aQ K 4 S v4 x4).bind fun v5 =>
    bnd (f_isItem K S v5 x2) fun S6 v7 =>
    if v7 = 0 then (f_lies_44 K ((f_lies_10 K n9)) S6 x2 x3 x4) else ((zB 1).bind fun _ => some (S6, 1))) else (f_lies_44 K ((f_lies_10 K n9)) S x2 x3 x4))
def f_lies (K : Ky) (S0 : Sg) (x1 : Int32) (x2 : Int32) : Option (Sg × Int32) :=
  (rQ S0 11 x1).bind fun v1 =>
  f_lies_10 K bigN S0 x2 v1 0
