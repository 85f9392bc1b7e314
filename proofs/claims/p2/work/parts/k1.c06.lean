-- k1.c06.lean.txt
section
def f_wrong (K : Ky) (S0 : Sg) (x1 : Option Nat) (x2 : Int32) (x3 : Int32) : Option (Sg × Option Nat) :=
  bnd (f_fail K S0 x2 x3) fun S1 v2 =>
  bnd (f_plainType K S1 0) fun S3 v4 =>
  bnd (f_told K S3 x1 v4) fun S5 v6 =>
  some (S5, v6)
def f_member_32 (K : Ky) : Nat → Sg → Option Nat → Option Nat → Int32 → Option (Sg × Option Nat)
  | 0, _, _, _, _ => none
  | n9 + 1, S, x1, x3, x4 =>
    (oI S 16 x3 3).bind fun v7 =>
    if v7 ≤ x4 then ((oI S 15 x1 3).bind fun v8 =>
    bnd (f_wrong K S x1 3 v8) fun S9 v10 =>
    some (S9, v10)) else ((oR S 16 x3 8).bind fun v11 =>
    (aI K S v11 x4).bind fun v12 =>
    (oI S 15 x1 3).bind fun v13 =>
    bnd (f_sameName K S v12 v13) fun S14 v15 =>
    if v15 = 0 then (f_member_32 K n9 S14 x1 x3 (x4 + 1)) else ((pV S14 15 x1 4 (.int x4)).bind fun S16 =>
    (oR S16 16 x3 10).bind fun v17 =>
    (aQ K 4 S16 v17 x4).bind fun v18 =>
    bnd (f_told K S16 x1 v18) fun S19 v20 =>
    some (S19, v20)))
def f_member (K : Ky) (S0 : Sg) (x1 : Option Nat) (x2 : Option Nat) : Option (Sg × Option Nat) :=
  (oI S0 20 x2 0).bind fun v1 =>
  if v1 = 3 then ((oI S0 20 x2 1).bind fun v2 =>
  (rQ S0 11 v2).bind fun v3 =>
  f_member_32 K bigN S0 x1 v3 0) else ((oI S0 15 x1 3).bind fun v4 =>
  bnd (f_wrong K S0 x1 4 v4) fun S5 v6 =>
  some (S5, v6))
def f_place_94 (K : Ky) (V : Sg → Option Nat → Option (Sg × Option Nat)) (k56 : Sg → Option Nat → Int32 → Option (Sg × Option Nat)) (S : Sg) (x1 : Option Nat) (x2 : Int32) : Option (Sg × Option Nat) :=
  k56 S x1 (x2 + 1)
def f_place_153 (K : Ky) (V : Sg → Option Nat → Option (Sg × Option Nat)) (S : Sg) (y0 : Option Nat) : Option (Sg × Option Nat) :=
  some (S, y0)
def f_place_56 (K : Ky) (V : Sg → Option Nat → Option (Sg × Option Nat)) : Nat → Sg → Option Nat → Int32 → Option (Sg × Option Nat)
  | 0, _, _, _ => none
  | n9 + 1, S, x1, x2 =>
    if (Zi S 23) ≤ x2 then ((oR S 15 x1 13).bind fun v25 =>
    if v25 = none then ((oI S 15 x1 1).bind fun v35 =>
    bnd (f_wrong K S x1 3 v35) fun S36 v37 =>
    some (S36, v37)) else ((oR S 15 x1 13).bind fun v26 =>
    (oR S 21 v26 2).bind fun v27 =>
    if v27 = none then ((oI S 15 x1 1).bind fun v32 =>
    bnd (f_wrong K S x1 4 v32) fun S33 v34 =>
    f_place_153 K V S33 v34) else ((oR S 15 x1 13).bind fun v28 =>
    (oR S 21 v28 2).bind fun v29 =>
    bnd (f_told K S x1 v29) fun S30 v31 =>
    f_place_153 K V S30 v31))) else ((rQ S 22 x2).bind fun v38 =>
    (oI S 21 v38 1).bind fun v39 =>
    (oI S 15 x1 3).bind fun v40 =>
    bnd (f_sameName K S v39 v40) fun S41 v42 =>
    if v42 = 0 then (f_place_94 K V ((f_place_56 K V n9)) S41 x1 x2) else ((rQ S41 22 x2).bind fun v43 =>
    (pV S41 15 x1 13 (va_rf v43)).bind fun S44 =>
    f_place_94 K V ((f_place_56 K V n9)) S44 x1 x2))
def f_place_279 (K : Ky) (V : Sg → Option Nat → Option (Sg × Option Nat)) (S : Sg) (y0 : Option Nat) : Option (Sg × Option Nat) :=
  some (S, y0)
def f_place_277 (K : Ky) (V : Sg → Option Nat → Option (Sg × Option Nat)) (S : Sg) (x4 : Option Nat) : Option (Sg × Option Nat) :=
  f_place_279 K V S x4
def f_place_250 (K : Ky) (V : Sg → Option Nat → Option (Sg × Option Nat)) (S : Sg) (x1 : Option Nat) (x3 : Int32) (y0 : Option Nat) : Option (Sg × Option Nat) :=
  bnd (f_ok K S) fun S53 v54 =>
  if v54 = 0 then (f_place_277 K V S53 y0) else (bnd (f_depth K S53 x1) fun S55 v56 =>
  if v56 ≤ 4 then (f_place_277 K V S55 y0) else (bnd (f_wrong K S55 x1 4 x3) fun S57 v58 =>
  f_place_279 K V S57 v58))
def f_place_231 (K : Ky) (V : Sg → Option Nat → Option (Sg × Option Nat)) (S : Sg) (x1 : Option Nat) (x2 : Option Nat) (x3 : Int32) : Option (Sg × Option Nat) :=
  (oR S 20 x2 3).bind fun v59 =>
  bnd (f_told K S x1 v59) fun S60 v61 =>
  f_place_250 K V S60 x1 x3 v61
def f_place_197 (K : Ky) (V : Sg → Option Nat → Option (Sg × Option Nat)) (S : Sg) (x1 : Option Nat) (x2 : Option Nat) (y0 : Int32) : Option (Sg × Option Nat) :=
  (oI S 15 x1 0).bind fun v45 =>
  if v45 = 11 then ((oI S 20 x2 0).bind fun v46 =>
  if v46 = 5 then (f_place_231 K V S x1 x2 y0) else (bnd (f_refers K S x2) fun S47 v48 =>
  if v48 = 0 then (bnd (f_wrong K S47 x1 4 y0) fun S49 v50 =>
  f_place_250 K V S49 x1 y0 v50) else (f_place_231 K V S47 x1 x2 y0))) else (bnd (f_member K S x1 x2) fun S51 v52 =>
  f_place_250 K V S51 x1 y0 v52)
def f_place (K : Ky) : Nat → Sg → Option Nat → Option (Sg × Option Nat)
  | 0, _, _ => none
  | d + 1, S0, x1 =>
    bnd (f_ok K S0) fun S1 v2 =>
    if v2 = 0 then (bnd (f_plainType K S1 0) fun S21 v22 =>
    bnd (f_told K S21 x1 v22) fun S23 v24 =>
    some (S23, v24)) else ((oI S1 15 x1 0).bind fun v3 =>
    if v3 = 7 then ((oR S1 15 x1 8).bind fun v16 =>
    bnd ((f_place K d) S1 v16) fun S17 v18 =>
    bnd (f_told K S17 x1 v18) fun S19 v20 =>
    some (S19, v20)) else ((oI S1 15 x1 0).bind fun v4 =>
    if v4 = 2 then ((pV S1 15 x1 13 (va_rf none)).bind fun S15 =>
    f_place_56 K (f_place K d) bigN S15 x1 0) else ((oR S1 15 x1 8).bind fun v5 =>
    bnd ((f_place K d) S1 v5) fun S6 v7 =>
    bnd (f_ok K S6) fun S8 v9 =>
    if v9 = 0 then (bnd (f_told K S8 x1 v7) fun S13 v14 =>
    some (S13, v14)) else ((oI S8 15 x1 0).bind fun v10 =>
    if v10 = 11 then ((oI S8 15 x1 1).bind fun v12 =>
    f_place_197 K (f_place K d) S8 x1 v7 v12) else ((oI S8 15 x1 3).bind fun v11 =>
    f_place_197 K (f_place K d) S8 x1 v7 v11)))))
def f_isPart_38 (K : Ky) (S : Sg) (y0 : Int32) : Option (Sg × Int32) :=
  (zB y0).bind fun _ => some (S, y0)
def f_isPart_5 (K : Ky) : Nat → Sg → Option Nat → Option (Sg × Int32)
  | 0, _, _ => none
  | n9 + 1, S, x1 =>
    (oI S 15 x1 0).bind fun v3 =>
    if v3 = 14 then ((oR S 15 x1 8).bind fun v5 =>
    bnd (f_bare K S v5) fun S6 v7 =>
    f_isPart_5 K n9 S6 v7) else ((oI S 15 x1 0).bind fun v4 =>
    if v4 = 2 then (f_isPart_38 K S 1) else (f_isPart_38 K S 0))
def f_isPart (K : Ky) (S0 : Sg) (x0 : Option Nat) : Option (Sg × Int32) :=
  bnd (f_bare K S0 x0) fun S1 v2 =>
  f_isPart_5 K bigN S1 v2
def f_movable_50 (K : Ky) (S : Sg) (y0 : Int32) : Option (Sg × Int32) :=
  (zB y0).bind fun _ => some (S, y0)
def f_movable_45 (K : Ky) (S : Sg) : Option (Sg × Int32) :=
  f_movable_50 K S 1
def f_movable_49 (K : Ky) (S : Sg) : Option (Sg × Int32) :=
  f_movable_50 K S 0
def f_movable (K : Ky) (S0 : Sg) (x0 : Option Nat) : Option (Sg × Int32) :=
  bnd (f_bare K S0 x0) fun S1 v2 =>
  bnd (f_isPart K S1 v2) fun S3 v4 =>
  if v4 = 0 then ((oI S3 15 v2 0).bind fun v5 =>
  if v5 = 11 then ((oR S3 15 v2 8).bind fun v6 =>
  (oR S3 15 v6 12).bind fun v7 =>
  (oI S3 20 v7 0).bind fun v8 =>
  if v8 = 5 then ((oR S3 15 v2 8).bind fun v9 =>
  bnd (f_isPart K S3 v9) fun S10 v11 =>
  if v11 = 0 then (f_movable_49 K S10) else (f_movable_45 K S10)) else (f_movable_49 K S3)) else (f_movable_49 K S3)) else (f_movable_45 K S3)
def f_mutable_77 (K : Ky) (V : Sg → Option Nat → Option (Sg × Int32)) (S : Sg) (y0 : Int32) : Option (Sg × Int32) :=
  (zB y0).bind fun _ => some (S, y0)
def f_mutable_72 (K : Ky) (V : Sg → Option Nat → Option (Sg × Int32)) (S : Sg) : Option (Sg × Int32) :=
  f_mutable_77 K V S 1
def f_mutable_76 (K : Ky) (V : Sg → Option Nat → Option (Sg × Int32)) (S : Sg) : Option (Sg × Int32) :=
  f_mutable_77 K V S 0
def f_mutable (K : Ky) : Nat → Sg → Option Nat → Option (Sg × Int32)
  | 0, _, _ => none
  | d + 1, S0, x1 =>
    bnd (f_bare K S0 x1) fun S1 v2 =>
    (oI S1 15 v2 0).bind fun v3 =>
    if v3 = 2 then ((oR S1 15 v2 13).bind fun v14 =>
    (oI S1 21 v14 3).bind fun v15 =>
    (zB v15).bind fun _ => some (S1, v15)) else ((oI S1 15 v2 0).bind fun v4 =>
    if v4 = 14 then ((oR S1 15 v2 8).bind fun v11 =>
    bnd ((f_mutable K d) S1 v11) fun S12 v13 =>
    (zB v13).bind fun _ => some (S12, v13)) else ((oR S1 15 v2 8).bind fun v5 =>
    (oR S1 15 v5 12).bind fun v6 =>
    (oI S1 20 v6 0).bind fun v7 =>
    if v7 = 7 then (f_mutable_72 K (f_mutable K d) S1) else (if v7 = 5 then ((oR S1 15 v2 8).bind fun v8 =>
    bnd ((f_mutable K d) S1 v8) fun S9 v10 =>
    if v10 = 0 then (f_mutable_76 K (f_mutable K d) S9) else (f_mutable_72 K (f_mutable K d) S9)) else (f_mutable_76 K (f_mutable K d) S1))))
def f_fieldOf_2 (K : Ky) : Nat → Sg → Option Nat → Int32 → Int32 → Option (Sg × Int32)
  | 0, _, _, _, _ => none
  | n9 + 1, S, x1, x2, x3 =>
    (oI S 16 x1 3).bind fun v1 =>
    if v1 ≤ x3 then (some (S, (-1))) else ((oR S 16 x1 8).bind fun v2 =>
    (aI K S v2 x3).bind fun v3 =>
    bnd (f_sameName K S v3 x2) fun S4 v5 =>
    if v5 = 0 then (f_fieldOf_2 K n9 S4 x1 x2 (x3 + 1)) else (some (S4, x3)))
def f_fieldOf (K : Ky) (S0 : Sg) (x1 : Option Nat) (x2 : Int32) : Option (Sg × Int32) :=
  f_fieldOf_2 K bigN S0 x1 x2 0
def f_refer_116 (K : Ky) (V : Sg → Option Nat → Option (Sg × Option Nat)) (S : Sg) (x2 : Option Nat) (y0 : Int32) (y2 : Option Nat) : Option (Sg × Option Nat) :=
  bnd (f_type K S y0 0 x2) fun S31 v32 =>
  bnd (f_told K S31 y2 v32) fun S33 v34 =>
  some (S33, v34)
def f_refer_99 (K : Ky) (V : Sg → Option Nat → Option (Sg × Option Nat)) (S : Sg) (x1 : Option Nat) (x2 : Option Nat) : Option (Sg × Option Nat) :=
  (oI S 15 x1 7).bind fun v30 =>
  if v30 = 0 then (f_refer_116 K V S x2 6 x1) else (f_refer_116 K V S x2 7 x1)
def f_refer_62 (K : Ky) (V : Sg → Option Nat → Option (Sg × Option Nat)) (S : Sg) (x1 : Option Nat) (x2 : Option Nat) : Option (Sg × Option Nat) :=
  bnd (f_ok K S) fun S20 v21 =>
  if v21 = 0 then (f_refer_99 K V S20 x1 x2) else ((oI S20 15 x1 7).bind fun v22 =>
  if v22 = 0 then (f_refer_99 K V S20 x1 x2) else ((oR S20 15 x1 8).bind fun v23 =>
  bnd (f_mutable K 410 S20 v23) fun S24 v25 =>
  if v25 = 0 then ((oR S24 15 x1 8).bind fun v26 =>
  (oI S24 15 v26 1).bind fun v27 =>
  bnd (f_fail K S24 4 v27) fun S28 v29 =>
  f_refer_99 K V S28 x1 x2) else (f_refer_99 K V S24 x1 x2)))
def f_refer (K : Ky) (V : Sg → Option Nat → Option (Sg × Option Nat)) (S0 : Sg) (x1 : Option Nat) : Option (Sg × Option Nat) :=
  (oR S0 15 x1 8).bind fun v1 =>
  bnd (f_isPlace K S0 v1) fun S2 v3 =>
  if v3 = 0 then ((oR S2 15 x1 8).bind fun v14 =>
  bnd (V S2 v14) fun S15 v16 =>
  (oI S15 15 x1 1).bind fun v17 =>
  bnd (f_wrong K S15 x1 4 v17) fun S18 v19 =>
  some (S18, v19)) else ((oR S2 15 x1 8).bind fun v4 =>
  bnd (f_place K 410 S2 v4) fun S5 v6 =>
  bnd (f_ok K S5) fun S7 v8 =>
  if v8 = 0 then (f_refer_62 K V S7 x1 v6) else (bnd (f_refers K S7 v6) fun S9 v10 =>
  if v10 = 0 then (f_refer_62 K V S9 x1 v6) else ((oI S9 15 x1 1).bind fun v11 =>
  bnd (f_fail K S9 4 v11) fun S12 v13 =>
  f_refer_62 K V S12 x1 v6)))
def f_operand_35 (K : Ky) (V : Sg → Option Nat → Option (Sg × Option Nat)) (S : Sg) (x1 : Option Nat) (x3 : Int32) : Option (Sg × Option Nat) :=
  bnd (f_plainType K S x3) fun S10 v11 =>
  bnd (f_told K S10 x1 v11) fun S12 v13 =>
  some (S12, v13)
def f_operand (K : Ky) (V : Sg → Option Nat → Option (Sg × Option Nat)) (S0 : Sg) (x1 : Option Nat) (x2 : Int32) (x3 : Int32) : Option (Sg × Option Nat) :=
  (oR S0 15 x1 8).bind fun v1 =>
  bnd (V S0 v1) fun S2 v3 =>
  bnd (f_ok K S2) fun S4 v5 =>
  if v5 = 0 then (f_operand_35 K V S4 x1 x3) else ((oI S4 20 v3 0).bind fun v6 =>
  if v6 = x2 then (f_operand_35 K V S4 x1 x3) else ((oI S4 15 x1 1).bind fun v7 =>
  bnd (f_fail K S4 4 v7) fun S8 v9 =>
  f_operand_35 K V S8 x1 x3))
def f_chained_186 (K : Ky) (V : Sg → Option Nat → Option (Sg × Option Nat)) (k11 : Sg → Option Nat → Option Nat → Int32 → Option (Sg × Option Nat)) (S : Sg) (x1 : Option Nat) (x3 : Int32) (y0 : Int32) : Option (Sg × Option Nat) :=
  bnd (f_plainType K S y0) fun S26 v27 =>
  k11 S26 x1 v27 (x3 + 1)
def f_chained_174 (K : Ky) (V : Sg → Option Nat → Option (Sg × Option Nat)) (k11 : Sg → Option Nat → Option Nat → Int32 → Option (Sg × Option Nat)) (S : Sg) (x1 : Option Nat) (x3 : Int32) (x6 : Int32) : Option (Sg × Option Nat) :=
  if x6 ≤ 3 then (f_chained_186 K V k11 S x1 x3 1) else (f_chained_186 K V k11 S x1 x3 0)
def f_chained_149 (K : Ky) (V : Sg → Option Nat → Option (Sg × Option Nat)) (k11 : Sg → Option Nat → Option Nat → Int32 → Option (Sg × Option Nat)) (S : Sg) (x1 : Option Nat) (x3 : Int32) (x6 : Int32) (y0 : Int32) : Option (Sg × Option Nat) :=
  bnd (f_ok K S) fun S20 v21 =>
  if v21 = 0 then (f_chained_174 K V k11 S20 x1 x3 x6) else (if y0 = 0 then ((oR S20 15 x1 10).bind fun v22 =>
  (aI K S20 v22 x3).bind fun v23 =>
  bnd (f_fail K S20 4 v23) fun S24 v25 =>
  f_chained_174 K V k11 S24 x1 x3 x6) else (f_chained_174 K V k11 S20 x1 x3 x6))
def f_chained_139 (K : Ky) (V : Sg → Option Nat → Option (Sg × Option Nat)) (k11 : Sg → Option Nat → Option Nat → Int32 → Option (Sg × Option Nat)) (S : Sg) (x1 : Option Nat) (x3 : Int32) (x6 : Int32) : Option (Sg × Option Nat) :=
  f_chained_149 K V k11 S x1 x3 x6 1
def f_chained_129 (K : Ky) (V : Sg → Option Nat → Option (Sg × Option Nat)) (k11 : Sg → Option Nat → Option Nat → Int32 → Option (Sg × Option Nat)) (S : Sg) (x1 : Option Nat) (x3 : Int32) (x6 : Int32) (x7 : Int32) (x8 : Int32) : Option (Sg × Option Nat) :=
  if x7 = 0 then (if x8 = 0 then (f_chained_149 K V k11 S x1 x3 x6 0) else (f_chained_139 K V k11 S x1 x3 x6)) else (f_chained_139 K V k11 S x1 x3 x6)
def f_chained_102 (K : Ky) (V : Sg → Option Nat → Option (Sg × Option Nat)) (k11 : Sg → Option Nat → Option Nat → Int32 → Option (Sg × Option Nat)) (S : Sg) (x1 : Option Nat) (x3 : Int32) (x5 : Int32) (x6 : Int32) (x7 : Int32) (y0 : Int32) : Option (Sg × Option Nat) :=
  if 3 ≤ x6 then (if x5 = 45 then (f_chained_129 K V k11 S x1 x3 x6 x7 y0) else (if x5 = 46 then (f_chained_129 K V k11 S x1 x3 x6 x7 y0) else (f_chained_149 K V k11 S x1 x3 x6 x7))) else (f_chained_149 K V k11 S x1 x3 x6 y0)
def f_chained_101 (K : Ky) (V : Sg → Option Nat → Option (Sg × Option Nat)) (k11 : Sg → Option Nat → Option Nat → Int32 → Option (Sg × Option Nat)) (S : Sg) (x1 : Option Nat) (x3 : Int32) (x5 : Int32) (x6 : Int32) (x7 : Int32) : Option (Sg × Option Nat) :=
  f_chained_102 K V k11 S x1 x3 x5 x6 x7 0
def f_chained_78 (K : Ky) (V : Sg → Option Nat → Option (Sg × Option Nat)) (k11 : Sg → Option Nat → Option Nat → Int32 → Option (Sg × Option Nat)) (S : Sg) (x1 : Option Nat) (x2 : Option Nat) (x3 : Int32) (x4 : Option Nat) (x5 : Int32) (x6 : Int32) (y0 : Int32) : Option (Sg × Option Nat) :=
  (oI S 20 x2 0).bind fun v18 =>
  if v18 = 1 then ((oI S 20 x4 0).bind fun v19 =>
  if v19 = 1 then (f_chained_102 K V k11 S x1 x3 x5 x6 y0 1) else (f_chained_101 K V k11 S x1 x3 x5 x6 y0)) else (f_chained_101 K V k11 S x1 x3 x5 x6 y0)
def f_chained_77 (K : Ky) (V : Sg → Option Nat → Option (Sg × Option Nat)) (k11 : Sg → Option Nat → Option Nat → Int32 → Option (Sg × Option Nat)) (S : Sg) (x1 : Option Nat) (x2 : Option Nat) (x3 : Int32) (x4 : Option Nat) (x5 : Int32) (x6 : Int32) : Option (Sg × Option Nat) :=
  f_chained_78 K V k11 S x1 x2 x3 x4 x5 x6 0
def f_chained_196 (K : Ky) (V : Sg → Option Nat → Option (Sg × Option Nat)) (S : Sg) (x1 : Option Nat) (x2 : Option Nat) : Option (Sg × Option Nat) :=
  bnd (f_told K S x1 x2) fun S28 v29 =>
  some (S28, v29)
def f_chained_11 (K : Ky) (V : Sg → Option Nat → Option (Sg × Option Nat)) : Nat → Sg → Option Nat → Option Nat → Int32 → Option (Sg × Option Nat)
  | 0, _, _, _, _ => none
  | n9 + 1, S, x1, x2, x3 =>
    (oI S 15 x1 11).bind fun v4 =>
    if v4 ≤ x3 then (f_chained_196 K V S x1 x2) else (bnd (f_ok K S) fun S5 v6 =>
    if v6 = 0 then (f_chained_196 K V S5 x1 x2) else ((oR S5 15 x1 9).bind fun v7 =>
    (aQ K 9 S5 v7 x3).bind fun v8 =>
    bnd (V S5 v8) fun S9 v10 =>
    (oR S9 15 x1 10).bind fun v11 =>
    (aI K S9 v11 x3).bind fun v12 =>
    (rI S9 5 v12).bind fun v13 =>
    bnd (f_levelOf K S9 v13) fun S14 v15 =>
    (oI S14 20 x2 0).bind fun v16 =>
    if v16 = 0 then ((oI S14 20 v10 0).bind fun v17 =>
    if v17 = 0 then (f_chained_78 K V ((f_chained_11 K V n9)) S14 x1 x2 x3 v10 v13 v15 1) else (f_chained_77 K V ((f_chained_11 K V n9)) S14 x1 x2 x3 v10 v13 v15)) else (f_chained_77 K V ((f_chained_11 K V n9)) S14 x1 x2 x3 v10 v13 v15)))
def f_chained (K : Ky) (V : Sg → Option Nat → Option (Sg × Option Nat)) (S0 : Sg) (x1 : Option Nat) : Option (Sg × Option Nat) :=
  (oR S0 15 x1 8).bind fun v1 =>
  bnd (V S0 v1) fun S2 v3 =>
  f_chained_11 K V bigN S2 x1 v3 0
def f_fits_27 (K : Ky) (V : Sg → Option Nat → Option (Sg × Option Nat)) (S : Sg) : Option (Sg × Unit) :=
  some (S, ())
def f_fits (K : Ky) (V : Sg → Option Nat → Option (Sg × Option Nat)) (S0 : Sg) (x1 : Option Nat) (x2 : Option Nat) : Option (Sg × Unit) :=
  bnd (V S0 x1) fun S1 v2 =>
  bnd (f_ok K S1) fun S3 v4 =>
  if v4 = 0 then (f_fits_27 K V S3) else (if v2 = x2 then (f_fits_27 K V S3) else ((oI S3 15 x1 1).bind fun v5 =>
  bnd (f_fail K S3 4 v5) fun S6 v7 =>
  f_fits_27 K V S6))
def f_variantOf_27 (K : Ky) (V : Sg → Option Nat → Option (Sg × Option Nat)) (S : Sg) (x1 : Option Nat) : Option (Sg × Option Nat) :=
  (oI S 15 x1 3).bind fun v36 =>
  bnd (f_wrong K S x1 3 v36) fun S37 v38 =>
  some (S37, v38)
def f_variantOf_158 (K : Ky) (V : Sg → Option Nat → Option (Sg × Option Nat)) (S : Sg) (x1 : Option Nat) (x2 : Int32) : Option (Sg × Option Nat) :=
  bnd (f_type K S 4 x2 none) fun S32 v33 =>
  bnd (f_told K S32 x1 v33) fun S34 v35 =>
  some (S34, v35)
def f_variantOf_117 (K : Ky) (V : Sg → Option Nat → Option (Sg × Option Nat)) : Nat → Sg → Option Nat → Int32 → Option Nat → Int32 → Option (Sg × Option Nat)
  | 0, _, _, _, _, _ => none
  | n9 + 1, S, x1, x2, x4, x5 =>
    (oI S 15 x1 11).bind fun v23 =>
    if v23 ≤ x5 then (f_variantOf_158 K V S x1 x2) else (bnd (f_ok K S) fun S24 v25 =>
    if v25 = 0 then (f_variantOf_158 K V S24 x1 x2) else ((oR S24 15 x1 9).bind fun v26 =>
    (aQ K 9 S24 v26 x5).bind fun v27 =>
    (oR S24 17 x4 2).bind fun v28 =>
    (aQ K 4 S24 v28 x5).bind fun v29 =>
    bnd (f_fits K V S24 v27 v29) fun S30 v31 =>
    f_variantOf_117 K V n9 S30 x1 x2 x4 (x5 + 1)))
def f_variantOf (K : Ky) (V : Sg → Option Nat → Option (Sg × Option Nat)) (S0 : Sg) (x1 : Option Nat) : Option (Sg × Option Nat) :=
  (oI S0 15 x1 3).bind fun v1 =>
  bnd (f_itemNamed K S0 v1) fun S2 v3 =>
  if v3 < 0 then (f_variantOf_27 K V S2 x1) else ((rQ S2 11 v3).bind fun v4 =>
  (oI S2 16 v4 2).bind fun v5 =>
  if v5 = 11 then ((rQ S2 11 v3).bind fun v6 =>
  (oI S2 15 x1 2).bind fun v7 =>
  bnd (f_fieldOf K S2 v6 v7) fun S8 v9 =>
  if 0 ≤ v9 then ((rQ S8 11 v3).bind fun v10 =>
  (oR S8 16 v10 11).bind fun v11 =>
  (aQ K 13 S8 v11 v9).bind fun v12 =>
  (oI S8 17 v12 0).bind fun v13 =>
  (oI S8 15 x1 11).bind fun v14 =>
  if v13 = v14 then ((pV S8 15 x1 4 (.int v3)).bind fun S15 =>
  (pV S15 15 x1 5 (.int v9)).bind fun S16 =>
  f_variantOf_117 K V bigN S16 x1 v3 v12 0) else ((oI S8 15 x1 1).bind fun v17 =>
  bnd (f_wrong K S8 x1 4 v17) fun S18 v19 =>
  some (S18, v19))) else ((oI S8 15 x1 2).bind fun v20 =>
  bnd (f_wrong K S8 x1 3 v20) fun S21 v22 =>
  some (S21, v22))) else (f_variantOf_27 K V S2 x1))
end
-- k1.c07.lean.txt
section
def f_made_27 (K : Ky) (V : Sg → Option Nat → Option (Sg × Option Nat)) (S : Sg) (x1 : Option Nat) : Option (Sg × Option Nat) :=
  (oI S 15 x1 3).bind fun v42 =>
  bnd (f_wrong K S x1 3 v42) fun S43 v44 =>
  some (S43, v44)
def f_made_120 (K : Ky) (V : Sg → Option Nat → Option (Sg × Option Nat)) (k53 : Sg → Option Nat → Int32 → Option Nat → Int32 → Option (Sg × Option Nat)) (k89 : Sg → Option Nat → Int32 → Option Nat → Int32 → Int32 → Int32 → Int32 → Option (Sg × Option Nat)) (S : Sg) (x1 : Option Nat) (x2 : Int32) (x3 : Option Nat) (x4 : Int32) (x5 : Int32) (x6 : Int32) (x7 : Int32) : Option (Sg × Option Nat) :=
  k89 S x1 x2 x3 x4 x5 x6 (x7 + 1)
def f_made_169 (K : Ky) (V : Sg → Option Nat → Option (Sg × Option Nat)) (k53 : Sg → Option Nat → Int32 → Option Nat → Int32 → Option (Sg × Option Nat)) (S : Sg) (x1 : Option Nat) (x2 : Int32) (x3 : Option Nat) (x4 : Int32) : Option (Sg × Option Nat) :=
  k53 S x1 x2 x3 (x4 + 1)
def f_made_136 (K : Ky) (V : Sg → Option Nat → Option (Sg × Option Nat)) (k53 : Sg → Option Nat → Int32 → Option Nat → Int32 → Option (Sg × Option Nat)) (S : Sg) (x1 : Option Nat) (x2 : Int32) (x3 : Option Nat) (x4 : Int32) : Option (Sg × Option Nat) :=
  (oR S 15 x1 10).bind fun v27 =>
  (aI K S v27 x4).bind fun v28 =>
  bnd (f_fail K S 3 v28) fun S29 v30 =>
  f_made_169 K V k53 S29 x1 x2 x3 x4
def f_made_89 (K : Ky) (V : Sg → Option Nat → Option (Sg × Option Nat)) (k53 : Sg → Option Nat → Int32 → Option Nat → Int32 → Option (Sg × Option Nat)) : Nat → Sg → Option Nat → Int32 → Option Nat → Int32 → Int32 → Int32 → Int32 → Option (Sg × Option Nat)
  | 0, _, _, _, _, _, _, _, _ => none
  | n9 + 1, S, x1, x2, x3, x4, x5, x6, x7 =>
    if x4 ≤ x7 then (if x5 < 0 then (f_made_136 K V k53 S x1 x2 x3 x4) else (if x6 = 0 then ((oR S 15 x1 9).bind fun v15 =>
    (aQ K 9 S v15 x4).bind fun v16 =>
    (oR S 16 x3 10).bind fun v17 =>
    (aQ K 4 S v17 x5).bind fun v18 =>
    bnd (f_fits K V S v16 v18) fun S19 v20 =>
    f_made_169 K V k53 S19 x1 x2 x3 x4) else (f_made_136 K V k53 S x1 x2 x3 x4))) else ((oR S 15 x1 10).bind fun v21 =>
    (aI K S v21 x7).bind fun v22 =>
    (oR S 15 x1 10).bind fun v23 =>
    (aI K S v23 x4).bind fun v24 =>
    bnd (f_sameName K S v22 v24) fun S25 v26 =>
    if v26 = 0 then (f_made_120 K V k53 ((f_made_89 K V k53 n9)) S25 x1 x2 x3 x4 x5 x6 x7) else (f_made_120 K V k53 ((f_made_89 K V k53 n9)) S25 x1 x2 x3 x4 x5 1 x7))
def f_made_202 (K : Ky) (V : Sg → Option Nat → Option (Sg × Option Nat)) (S : Sg) (x1 : Option Nat) (x2 : Int32) : Option (Sg × Option Nat) :=
  bnd (f_type K S 3 x2 none) fun S38 v39 =>
  bnd (f_told K S38 x1 v39) fun S40 v41 =>
  some (S40, v41)
def f_made_175 (K : Ky) (V : Sg → Option Nat → Option (Sg × Option Nat)) (S : Sg) (x1 : Option Nat) (x2 : Int32) (x3 : Option Nat) : Option (Sg × Option Nat) :=
  bnd (f_ok K S) fun S31 v32 =>
  if v32 = 0 then (f_made_202 K V S31 x1 x2) else ((oI S31 15 x1 11).bind fun v33 =>
  (oI S31 16 x3 3).bind fun v34 =>
  if v34 ≤ v33 then (f_made_202 K V S31 x1 x2) else ((oI S31 15 x1 1).bind fun v35 =>
  bnd (f_fail K S31 4 v35) fun S36 v37 =>
  f_made_202 K V S36 x1 x2))
def f_made_53 (K : Ky) (V : Sg → Option Nat → Option (Sg × Option Nat)) : Nat → Sg → Option Nat → Int32 → Option Nat → Int32 → Option (Sg × Option Nat)
  | 0, _, _, _, _, _ => none
  | n9 + 1, S, x1, x2, x3, x4 =>
    (oI S 15 x1 11).bind fun v8 =>
    if v8 ≤ x4 then (f_made_175 K V S x1 x2 x3) else (bnd (f_ok K S) fun S9 v10 =>
    if v10 = 0 then (f_made_175 K V S9 x1 x2 x3) else ((oR S9 15 x1 10).bind fun v11 =>
    (aI K S9 v11 x4).bind fun v12 =>
    bnd (f_fieldOf K S9 x3 v12) fun S13 v14 =>
    f_made_89 K V ((f_made_53 K V n9)) bigN S13 x1 x2 x3 x4 v14 0 0))
def f_made (K : Ky) (V : Sg → Option Nat → Option (Sg × Option Nat)) (S0 : Sg) (x1 : Option Nat) : Option (Sg × Option Nat) :=
  (oI S0 15 x1 3).bind fun v1 =>
  bnd (f_itemNamed K S0 v1) fun S2 v3 =>
  if v3 < 0 then (f_made_27 K V S2 x1) else ((rQ S2 11 v3).bind fun v4 =>
  (oI S2 16 v4 2).bind fun v5 =>
  if v5 = 10 then ((rQ S2 11 v3).bind fun v6 =>
  (pV S2 15 x1 4 (.int v3)).bind fun S7 =>
  f_made_53 K V bigN S7 x1 v3 v6 0) else (f_made_27 K V S2 x1))
def f_call_27 (K : Ky) (V : Sg → Option Nat → Option (Sg × Option Nat)) (S : Sg) (x1 : Option Nat) : Option (Sg × Option Nat) :=
  (oI S 15 x1 1).bind fun v27 =>
  bnd (f_wrong K S x1 3 v27) fun S28 v29 =>
  some (S28, v29)
def f_call_114 (K : Ky) (V : Sg → Option Nat → Option (Sg × Option Nat)) (S : Sg) (x1 : Option Nat) (x2 : Int32) : Option (Sg × Option Nat) :=
  (rQ S 11 x2).bind fun v23 =>
  (oR S 16 v23 15).bind fun v24 =>
  bnd (f_told K S x1 v24) fun S25 v26 =>
  some (S25, v26)
def f_call_72 (K : Ky) (V : Sg → Option Nat → Option (Sg × Option Nat)) : Nat → Sg → Option Nat → Int32 → Int32 → Option (Sg × Option Nat)
  | 0, _, _, _, _ => none
  | n9 + 1, S, x1, x2, x3 =>
    (oI S 15 x1 11).bind fun v13 =>
    if v13 ≤ x3 then (f_call_114 K V S x1 x2) else (bnd (f_ok K S) fun S14 v15 =>
    if v15 = 0 then (f_call_114 K V S14 x1 x2) else ((oR S14 15 x1 9).bind fun v16 =>
    (aQ K 9 S14 v16 x3).bind fun v17 =>
    (rQ S14 11 x2).bind fun v18 =>
    (oR S14 16 v18 10).bind fun v19 =>
    (aQ K 4 S14 v19 x3).bind fun v20 =>
    bnd (f_fits K V S14 v17 v20) fun S21 v22 =>
    f_call_72 K V n9 S21 x1 x2 (x3 + 1)))
def f_call (K : Ky) (V : Sg → Option Nat → Option (Sg × Option Nat)) (S0 : Sg) (x1 : Option Nat) : Option (Sg × Option Nat) :=
  (oI S0 15 x1 1).bind fun v1 =>
  bnd (f_itemNamed K S0 v1) fun S2 v3 =>
  if v3 < 0 then (f_call_27 K V S2 x1) else ((rQ S2 11 v3).bind fun v4 =>
  (oI S2 16 v4 2).bind fun v5 =>
  if v5 = 12 then ((rQ S2 11 v3).bind fun v6 =>
  (oI S2 16 v6 3).bind fun v7 =>
  (oI S2 15 x1 11).bind fun v8 =>
  if v7 = v8 then ((pV S2 15 x1 4 (.int v3)).bind fun S9 =>
  f_call_72 K V bigN S9 x1 v3 0) else ((oI S2 15 x1 1).bind fun v10 =>
  bnd (f_wrong K S2 x1 4 v10) fun S11 v12 =>
  some (S11, v12))) else (f_call_27 K V S2 x1))
def f_box_41 (K : Ky) (V : Sg → Option Nat → Option (Sg × Option Nat)) (S : Sg) (x1 : Option Nat) (x2 : Option Nat) : Option (Sg × Option Nat) :=
  bnd (f_type K S 5 0 x2) fun S12 v13 =>
  bnd (f_told K S12 x1 v13) fun S14 v15 =>
  some (S14, v15)
def f_box_32 (K : Ky) (V : Sg → Option Nat → Option (Sg × Option Nat)) (S : Sg) (x1 : Option Nat) (x2 : Option Nat) : Option (Sg × Option Nat) :=
  (oI S 15 x1 1).bind fun v9 =>
  bnd (f_fail K S 4 v9) fun S10 v11 =>
  f_box_41 K V S10 x1 x2
def f_box (K : Ky) (V : Sg → Option Nat → Option (Sg × Option Nat)) (S0 : Sg) (x1 : Option Nat) : Option (Sg × Option Nat) :=
  (oR S0 15 x1 8).bind fun v1 =>
  bnd (V S0 v1) fun S2 v3 =>
  bnd (f_ok K S2) fun S4 v5 =>
  if v5 = 0 then (f_box_41 K V S4 x1 v3) else ((oI S4 20 v3 0).bind fun v6 =>
  if v6 = 8 then (f_box_32 K V S4 x1 v3) else (bnd (f_refers K S4 v3) fun S7 v8 =>
  if v8 = 0 then (f_box_41 K V S7 x1 v3) else (f_box_32 K V S7 x1 v3)))
def f_value_61 (K : Ky) (V : Sg → Option Nat → Option (Sg × Option Nat)) (S : Sg) (x2 : Option Nat) : Option (Sg × Option Nat) :=
  some (S, x2)
def f_value_144 (K : Ky) (V : Sg → Option Nat → Option (Sg × Option Nat)) (S : Sg) (x1 : Option Nat) : Option (Sg × Option Nat) :=
  bnd (f_plainType K S 0) fun S60 v61 =>
  bnd (f_told K S60 x1 v61) fun S62 v63 =>
  some (S62, v63)
def f_value_274 (K : Ky) (V : Sg → Option Nat → Option (Sg × Option Nat)) (S : Sg) (x1 : Option Nat) : Option (Sg × Option Nat) :=
  bnd (f_variantOf K V S x1) fun S58 v59 =>
  some (S58, v59)
def f_value (K : Ky) : Nat → Sg → Option Nat → Option (Sg × Option Nat)
  | 0, _, _ => none
  | d + 1, S0, x1 =>
    bnd (f_ok K S0) fun S1 v2 =>
    if v2 = 0 then (bnd (f_plainType K S1 0) fun S54 v55 =>
    bnd (f_told K S54 x1 v55) fun S56 v57 =>
    some (S56, v57)) else (bnd (f_isPlace K S1 x1) fun S3 v4 =>
    if v4 = 0 then ((oI S3 15 x1 0).bind fun v5 =>
    if v5 = 0 then (f_value_144 K (f_value K d) S3 x1) else (if v5 = 1 then (bnd (f_plainType K S3 1) fun S6 v7 =>
    bnd (f_told K S6 x1 v7) fun S8 v9 =>
    some (S8, v9)) else (if v5 = 2 then (f_value_274 K (f_value K d) S3 x1) else (if v5 = 3 then (bnd (f_call K (f_value K d) S3 x1) fun S10 v11 =>
    some (S10, v11)) else (if v5 = 4 then (bnd (f_operand K (f_value K d) S3 x1 0 2) fun S12 v13 =>
    some (S12, v13)) else (if v5 = 5 then (bnd (f_made K (f_value K d) S3 x1) fun S14 v15 =>
    some (S14, v15)) else (if v5 = 6 then (f_value_274 K (f_value K d) S3 x1) else (if v5 = 7 then ((oR S3 15 x1 8).bind fun v16 =>
    bnd ((f_value K d) S3 v16) fun S17 v18 =>
    bnd (f_told K S17 x1 v18) fun S19 v20 =>
    some (S19, v20)) else (if v5 = 8 then (bnd (f_chained K (f_value K d) S3 x1) fun S21 v22 =>
    some (S21, v22)) else (if v5 = 9 then (bnd (f_operand K (f_value K d) S3 x1 1 1) fun S23 v24 =>
    some (S23, v24)) else (if v5 = 10 then (bnd (f_operand K (f_value K d) S3 x1 0 0) fun S25 v26 =>
    some (S25, v26)) else (if v5 = 11 then ((oR S3 15 x1 8).bind fun v27 =>
    bnd ((f_value K d) S3 v27) fun S28 v29 =>
    (oI S28 15 x1 1).bind fun v30 =>
    bnd (f_wrong K S28 x1 4 v30) fun S31 v32 =>
    some (S31, v32)) else (if v5 = 12 then (bnd (f_refer K (f_value K d) S3 x1) fun S33 v34 =>
    some (S33, v34)) else (if v5 = 13 then (bnd (f_box K (f_value K d) S3 x1) fun S35 v36 =>
    some (S35, v36)) else (if v5 = 14 then ((oR S3 15 x1 8).bind fun v37 =>
    bnd ((f_value K d) S3 v37) fun S38 v39 =>
    (oI S38 15 x1 3).bind fun v40 =>
    bnd (f_wrong K S38 x1 4 v40) fun S41 v42 =>
    some (S41, v42)) else (if v5 = 15 then (f_value_144 K (f_value K d) S3 x1) else (f_value_274 K (f_value K d) S3 x1))))))))))))))))) else (bnd (f_place K 410 S3 x1) fun S43 v44 =>
    bnd (f_ok K S43) fun S45 v46 =>
    if v46 = 0 then (f_value_61 K (f_value K d) S45 v44) else (bnd (f_copied K S45 v44) fun S47 v48 =>
    if v48 = 0 then (bnd (f_movable K S47 x1) fun S49 v50 =>
    if v50 = 0 then ((oI S49 15 x1 1).bind fun v51 =>
    bnd (f_fail K S49 4 v51) fun S52 v53 =>
    f_value_61 K (f_value K d) S52 v44) else (f_value_61 K (f_value K d) S49 v44)) else (f_value_61 K (f_value K d) S47 v44))))
def f_condition_30 (K : Ky) (S : Sg) : Option (Sg × Unit) :=
  some (S, ())
def f_condition (K : Ky) (S0 : Sg) (x1 : Option Nat) : Option (Sg × Unit) :=
  bnd (f_value K 410 S0 x1) fun S1 v2 =>
  bnd (f_ok K S1) fun S3 v4 =>
  if v4 = 0 then (f_condition_30 K S3) else ((oI S3 20 v2 0).bind fun v5 =>
  if v5 = 1 then (f_condition_30 K S3) else ((oI S3 15 x1 1).bind fun v6 =>
  bnd (f_fail K S3 4 v6) fun S7 v8 =>
  f_condition_30 K S7))
def f_typeAssign_77 (K : Ky) (k36 : Sg → Option Nat → Option Nat → Option Nat → Int32 → Option (Sg × Unit)) (S : Sg) (x1 : Option Nat) (x2 : Option Nat) (x3 : Option Nat) (x4 : Int32) : Option (Sg × Unit) :=
  k36 S x1 x2 x3 (x4 + 1)
def f_typeAssign_220 (K : Ky) (S : Sg) : Option (Sg × Unit) :=
  some (S, ())
def f_typeAssign_185 (K : Ky) (S : Sg) (x1 : Option Nat) (x3 : Option Nat) : Option (Sg × Unit) :=
  bnd (f_ok K S) fun S39 v40 =>
  if v40 = 0 then (f_typeAssign_220 K S39) else ((oI S39 15 x3 0).bind fun v41 =>
  if v41 = 2 then (f_typeAssign_220 K S39) else (bnd (f_mutable K 410 S39 x3) fun S42 v43 =>
  if v43 = 0 then ((oR S42 19 x1 7).bind fun v44 =>
  (oI S42 15 v44 1).bind fun v45 =>
  bnd (f_fail K S42 4 v45) fun S46 v47 =>
  f_typeAssign_220 K S46) else (f_typeAssign_220 K S42)))
def f_typeAssign_150 (K : Ky) (S : Sg) (x1 : Option Nat) (x2 : Option Nat) (x3 : Option Nat) : Option (Sg × Unit) :=
  (oR S 19 x1 7).bind fun v30 =>
  bnd (f_place K 410 S v30) fun S31 v32 =>
  bnd (f_ok K S31) fun S33 v34 =>
  if v34 = 0 then (f_typeAssign_185 K S33 x1 x3) else (if v32 = x2 then (f_typeAssign_185 K S33 x1 x3) else ((oR S33 19 x1 6).bind fun v35 =>
  (oI S33 15 v35 1).bind fun v36 =>
  bnd (f_fail K S33 4 v36) fun S37 v38 =>
  f_typeAssign_185 K S37 x1 x3))
def f_typeAssign_120 (K : Ky) (S : Sg) (x1 : Option Nat) (x2 : Option Nat) (x3 : Option Nat) : Option (Sg × Unit) :=
  (oR S 15 x3 13).bind fun v23 =>
  if v23 = none then (f_typeAssign_150 K S x1 x2 x3) else ((oR S 15 x3 13).bind fun v24 =>
  (oR S 21 v24 2).bind fun v25 =>
  if v25 = none then ((oR S 19 x1 6).bind fun v26 =>
  (oI S 15 v26 1).bind fun v27 =>
  bnd (f_fail K S 4 v27) fun S28 v29 =>
  some (S28, ())) else (f_typeAssign_150 K S x1 x2 x3))
def f_typeAssign_36 (K : Ky) : Nat → Sg → Option Nat → Option Nat → Option Nat → Int32 → Option (Sg × Unit)
  | 0, _, _, _, _, _ => none
  | n9 + 1, S, x1, x2, x3, x4 =>
    if (Zi S 23) ≤ x4 then ((oR S 15 x3 13).bind fun v10 =>
    if v10 = none then (f_typeAssign_120 K S x1 x2 x3) else ((oR S 15 x3 13).bind fun v11 =>
    (oR S 21 v11 2).bind fun v12 =>
    if v12 = none then ((oI S 20 x2 0).bind fun v13 =>
    if v13 = 8 then (f_typeAssign_120 K S x1 x2 x3) else ((oR S 15 x3 13).bind fun v14 =>
    (pV S 21 v14 2 (va_rf x2)).bind fun S15 =>
    f_typeAssign_150 K S15 x1 x2 x3)) else (f_typeAssign_120 K S x1 x2 x3))) else ((rQ S 22 x4).bind fun v16 =>
    (oI S 21 v16 1).bind fun v17 =>
    (oI S 15 x3 3).bind fun v18 =>
    bnd (f_sameName K S v17 v18) fun S19 v20 =>
    if v20 = 0 then (f_typeAssign_77 K ((f_typeAssign_36 K n9)) S19 x1 x2 x3 x4) else ((rQ S19 22 x4).bind fun v21 =>
    (pV S19 15 x3 13 (va_rf v21)).bind fun S22 =>
    f_typeAssign_77 K ((f_typeAssign_36 K n9)) S22 x1 x2 x3 x4))
def f_typeAssign (K : Ky) (S0 : Sg) (x1 : Option Nat) : Option (Sg × Unit) :=
  (oR S0 19 x1 6).bind fun v1 =>
  bnd (f_value K 410 S0 v1) fun S2 v3 =>
  bnd (f_ok K S2) fun S4 v5 =>
  if v5 = 0 then (some (S4, ())) else ((oR S4 19 x1 7).bind fun v6 =>
  bnd (f_bare K S4 v6) fun S7 v8 =>
  (oI S7 15 v8 0).bind fun v9 =>
  if v9 = 2 then (f_typeAssign_36 K bigN S7 x1 v3 v8 0) else (f_typeAssign_150 K S7 x1 v3 v8))
def f_typeLet_125 (K : Ky) (S : Sg) : Option (Sg × Unit) :=
  some (S, ())
def f_typeLet_101 (K : Ky) (S : Sg) (x1 : Option Nat) (x2 : Option Nat) : Option (Sg × Unit) :=
  bnd (f_ok K S) fun S22 v23 =>
  if v23 = 0 then (f_typeLet_125 K S22) else ((oI S22 19 x1 2).bind fun v24 =>
  (oI S22 19 x1 3).bind fun v25 =>
  bnd (f_declare K S22 v24 x2 v25) fun S26 v27 =>
  (pV S26 19 x1 8 (va_rf v27)).bind fun S28 =>
  f_typeLet_125 K S28)
def f_typeLet_99 (K : Ky) (S : Sg) (x1 : Option Nat) (x3 : Option Nat) : Option (Sg × Unit) :=
  f_typeLet_101 K S x1 x3
def f_typeLet_87 (K : Ky) (S : Sg) (x1 : Option Nat) (x3 : Option Nat) : Option (Sg × Unit) :=
  (oR S 19 x1 6).bind fun v18 =>
  (oI S 15 v18 1).bind fun v19 =>
  bnd (f_fail K S 4 v19) fun S20 v21 =>
  f_typeLet_99 K S20 x1 x3
def f_typeLet_36 (K : Ky) (S : Sg) (x1 : Option Nat) (x2 : Option Nat) : Option (Sg × Unit) :=
  bnd (f_ok K S) fun S9 v10 =>
  if v10 = 0 then (f_typeLet_101 K S9 x1 x2) else ((oR S9 19 x1 6).bind fun v11 =>
  if v11 = none then (f_typeLet_101 K S9 x1 x2) else ((oR S9 19 x1 6).bind fun v12 =>
  bnd (f_value K 410 S9 v12) fun S13 v14 =>
  bnd (f_ok K S13) fun S15 v16 =>
  if v16 = 0 then (f_typeLet_99 K S15 x1 v14) else (if x2 = none then ((oI S15 20 v14 0).bind fun v17 =>
  if v17 = 8 then (f_typeLet_87 K S15 x1 v14) else (f_typeLet_99 K S15 x1 v14)) else (if v14 = x2 then (f_typeLet_99 K S15 x1 v14) else (f_typeLet_87 K S15 x1 v14)))))
def f_typeLet_20 (K : Ky) (S : Sg) (x1 : Option Nat) (y0 : Option Nat) : Option (Sg × Unit) :=
  (oR S 19 x1 5).bind fun v5 =>
  if v5 = none then (f_typeLet_36 K S x1 y0) else ((oR S 19 x1 5).bind fun v6 =>
  bnd (f_noLife K S v6) fun S7 v8 =>
  f_typeLet_36 K S7 x1 y0)
def f_typeLet (K : Ky) (S0 : Sg) (x1 : Option Nat) : Option (Sg × Unit) :=
  (oR S0 19 x1 5).bind fun v1 =>
  if v1 = none then (f_typeLet_20 K S0 x1 none) else ((oR S0 19 x1 5).bind fun v2 =>
  bnd (f_resolve K 20 S0 v2 1) fun S3 v4 =>
  f_typeLet_20 K S3 x1 v4)
def f_typeReturn_31 (K : Ky) (S : Sg) : Option (Sg × Unit) :=
  some (S, ())
def f_typeReturn_80 (K : Ky) (S : Sg) : Option (Sg × Unit) :=
  some (S, ())
def f_typeReturn_68 (K : Ky) (S : Sg) (x1 : Option Nat) : Option (Sg × Unit) :=
  (oR S 19 x1 6).bind fun v14 =>
  (oI S 15 v14 1).bind fun v15 =>
  bnd (f_fail K S 4 v15) fun S16 v17 =>
  f_typeReturn_80 K S16
def f_typeReturn (K : Ky) (S0 : Sg) (x1 : Option Nat) : Option (Sg × Unit) :=
  (oR S0 19 x1 6).bind fun v1 =>
  if v1 = none then ((oR S0 16 (Zf S0) 15).bind fun v9 =>
  (oI S0 20 v9 0).bind fun v10 =>
  if v10 = 8 then (f_typeReturn_31 K S0) else ((oI S0 19 x1 1).bind fun v11 =>
  bnd (f_fail K S0 4 v11) fun S12 v13 =>
  f_typeReturn_31 K S12)) else ((oR S0 19 x1 6).bind fun v2 =>
  bnd (f_value K 410 S0 v2) fun S3 v4 =>
  bnd (f_ok K S3) fun S5 v6 =>
  if v6 = 0 then (f_typeReturn_80 K S5) else ((oR S5 16 (Zf S5) 15).bind fun v7 =>
  if v4 = v7 then ((oI S5 20 v4 0).bind fun v8 =>
  if v8 = 8 then (f_typeReturn_68 K S5 x1) else (f_typeReturn_80 K S5)) else (f_typeReturn_68 K S5 x1)))
def f_typeArm_75 (K : Ky) (V : Sg → Option Nat → Option (Sg × Unit)) (k9 : Sg → Option Nat → Option Nat → Option Nat → Int32 → Int32 → Option (Sg × Unit)) (S : Sg) (x1 : Option Nat) (x2 : Option Nat) (x3 : Option Nat) (x4 : Int32) (x5 : Int32) (y0 : Option Nat) (y1 : Int32) (y3 : Int32) (y4 : Option Nat) : Option (Sg × Unit) :=
  bnd (f_declare K S y1 y0 0) fun S17 v18 =>
  (bQ K 5 21 S17 y4 y3 v18).bind fun S19 =>
  k9 S19 x1 x2 x3 x4 (x5 + 1)
def f_typeArm_54 (K : Ky) (V : Sg → Option Nat → Option (Sg × Unit)) (k9 : Sg → Option Nat → Option Nat → Option Nat → Int32 → Int32 → Option (Sg × Unit)) (S : Sg) (x1 : Option Nat) (x2 : Option Nat) (x3 : Option Nat) (x4 : Int32) (x5 : Int32) (y0 : Int32) (y2 : Int32) (y4 : Int32) (y5 : Option Nat) : Option (Sg × Unit) :=
  (oR S 17 x3 2).bind fun v13 =>
  (aQ K 4 S v13 x5).bind fun v14 =>
  bnd (f_type K S y0 0 v14) fun S15 v16 =>
  f_typeArm_75 K V k9 S15 x1 x2 x3 x4 x5 v16 y2 y4 y5
def f_typeArm_9 (K : Ky) (V : Sg → Option Nat → Option (Sg × Unit)) : Nat → Sg → Option Nat → Option Nat → Option Nat → Int32 → Int32 → Option (Sg × Unit)
  | 0, _, _, _, _, _, _ => none
  | n9 + 1, S, x1, x2, x3, x4, x5 =>
    (oI S 13 x2 3).bind fun v1 =>
    if v1 ≤ x5 then ((oR S 13 x2 5).bind fun v2 =>
    bnd (V S v2) fun S3 v4 =>
    (pM S3 23 x4).bind fun S5 =>
    some (S5, ())) else ((oR S 13 x2 4).bind fun v6 =>
    (oR S 13 x2 2).bind fun v7 =>
    (aI K S v7 x5).bind fun v8 =>
    (oI S 19 x1 4).bind fun v9 =>
    if v9 = 0 then ((oR S 17 x3 2).bind fun v10 =>
    (aQ K 4 S v10 x5).bind fun v11 =>
    f_typeArm_75 K V ((f_typeArm_9 K V n9)) S x1 x2 x3 x4 x5 v11 v8 x5 v6) else ((oI S 19 x1 3).bind fun v12 =>
    if v12 = 0 then (f_typeArm_54 K V ((f_typeArm_9 K V n9)) S x1 x2 x3 x4 x5 6 v8 x5 v6) else (f_typeArm_54 K V ((f_typeArm_9 K V n9)) S x1 x2 x3 x4 x5 7 v8 x5 v6)))
def f_typeArm (K : Ky) (V : Sg → Option Nat → Option (Sg × Unit)) (S0 : Sg) (x1 : Option Nat) (x2 : Option Nat) (x3 : Option Nat) : Option (Sg × Unit) :=
  f_typeArm_9 K V bigN S0 x1 x2 x3 (Zi S0 23) 0
def f_typeMatch_193 (K : Ky) (V : Sg → Option Nat → Option (Sg × Unit)) (k119 : Sg → Option Nat → Option Nat → Int32 → Option (Sg × Unit)) (k165 : Sg → Option Nat → Option Nat → Int32 → Option Nat → Int32 → Int32 → Option (Sg × Unit)) (S : Sg) (x1 : Option Nat) (x3 : Option Nat) (x4 : Int32) (x5 : Option Nat) (x6 : Int32) (x7 : Int32) : Option (Sg × Unit) :=
  k165 S x1 x3 x4 x5 x6 (x7 + 1)
def f_typeMatch_280 (K : Ky) (V : Sg → Option Nat → Option (Sg × Unit)) (k119 : Sg → Option Nat → Option Nat → Int32 → Option (Sg × Unit)) (S : Sg) (x1 : Option Nat) (x3 : Option Nat) (x4 : Int32) : Option (Sg × Unit) :=
  k119 S x1 x3 (x4 + 1)
def f_typeMatch_256 (K : Ky) (V : Sg → Option Nat → Option (Sg × Unit)) (k119 : Sg → Option Nat → Option Nat → Int32 → Option (Sg × Unit)) (S : Sg) (x1 : Option Nat) (x3 : Option Nat) (x4 : Int32) (x5 : Option Nat) : Option (Sg × Unit) :=
  bnd (f_ok K S) fun S52 v53 =>
  if v53 = 0 then (f_typeMatch_280 K V k119 S52 x1 x3 x4) else ((oR S52 16 x3 11).bind fun v54 =>
  (oI S52 13 x5 1).bind fun v55 =>
  (aQ K 13 S52 v54 v55).bind fun v56 =>
  bnd (f_typeArm K V S52 x1 x5 v56) fun S57 v58 =>
  f_typeMatch_280 K V k119 S57 x1 x3 x4)
def f_typeMatch_212 (K : Ky) (V : Sg → Option Nat → Option (Sg × Unit)) (k119 : Sg → Option Nat → Option Nat → Int32 → Option (Sg × Unit)) (S : Sg) (x1 : Option Nat) (x3 : Option Nat) (x4 : Int32) (x5 : Option Nat) : Option (Sg × Unit) :=
  (oI S 13 x5 0).bind fun v59 =>
  bnd (f_fail K S 3 v59) fun S60 v61 =>
  f_typeMatch_256 K V k119 S60 x1 x3 x4 x5
def f_typeMatch_165 (K : Ky) (V : Sg → Option Nat → Option (Sg × Unit)) (k119 : Sg → Option Nat → Option Nat → Int32 → Option (Sg × Unit)) : Nat → Sg → Option Nat → Option Nat → Int32 → Option Nat → Int32 → Int32 → Option (Sg × Unit)
  | 0, _, _, _, _, _, _, _ => none
  | n9 + 1, S, x1, x3, x4, x5, x6, x7 =>
    if x4 ≤ x7 then ((oI S 13 x5 1).bind fun v39 =>
    if v39 < 0 then (f_typeMatch_212 K V k119 S x1 x3 x4 x5) else (if x6 = 0 then ((oR S 16 x3 11).bind fun v40 =>
    (oI S 13 x5 1).bind fun v41 =>
    (aQ K 13 S v40 v41).bind fun v42 =>
    (oI S 17 v42 0).bind fun v43 =>
    (oI S 13 x5 3).bind fun v44 =>
    if v43 = v44 then (f_typeMatch_256 K V k119 S x1 x3 x4 x5) else ((oI S 13 x5 0).bind fun v45 =>
    bnd (f_fail K S 4 v45) fun S46 v47 =>
    f_typeMatch_256 K V k119 S46 x1 x3 x4 x5)) else (f_typeMatch_212 K V k119 S x1 x3 x4 x5))) else ((oR S 19 x1 12).bind fun v48 =>
    (aQ K 7 S v48 x7).bind fun v49 =>
    (oI S 13 v49 1).bind fun v50 =>
    (oI S 13 x5 1).bind fun v51 =>
    if v50 = v51 then (f_typeMatch_193 K V k119 ((f_typeMatch_165 K V k119 n9)) S x1 x3 x4 x5 1 x7) else (f_typeMatch_193 K V k119 ((f_typeMatch_165 K V k119 n9)) S x1 x3 x4 x5 x6 x7))
def f_typeMatch_313 (K : Ky) (V : Sg → Option Nat → Option (Sg × Unit)) (S : Sg) : Option (Sg × Unit) :=
  some (S, ())
def f_typeMatch_286 (K : Ky) (V : Sg → Option Nat → Option (Sg × Unit)) (S : Sg) (x1 : Option Nat) (x3 : Option Nat) : Option (Sg × Unit) :=
  bnd (f_ok K S) fun S62 v63 =>
  if v63 = 0 then (f_typeMatch_313 K V S62) else ((oI S62 19 x1 13).bind fun v64 =>
  (oI S62 16 x3 3).bind fun v65 =>
  if v65 ≤ v64 then (f_typeMatch_313 K V S62) else ((oI S62 19 x1 1).bind fun v66 =>
  bnd (f_fail K S62 4 v66) fun S67 v68 =>
  f_typeMatch_313 K V S67))
def f_typeMatch_119 (K : Ky) (V : Sg → Option Nat → Option (Sg × Unit)) : Nat → Sg → Option Nat → Option Nat → Int32 → Option (Sg × Unit)
  | 0, _, _, _, _ => none
  | n9 + 1, S, x1, x3, x4 =>
    (oI S 19 x1 13).bind fun v30 =>
    if v30 ≤ x4 then (f_typeMatch_286 K V S x1 x3) else (bnd (f_ok K S) fun S31 v32 =>
    if v32 = 0 then (f_typeMatch_286 K V S31 x1 x3) else ((oR S31 19 x1 12).bind fun v33 =>
    (aQ K 7 S31 v33 x4).bind fun v34 =>
    (oI S31 13 v34 0).bind fun v35 =>
    bnd (f_fieldOf K S31 x3 v35) fun S36 v37 =>
    (pV S36 13 v34 1 (.int v37)).bind fun S38 =>
    f_typeMatch_165 K V ((f_typeMatch_119 K V n9)) bigN S38 x1 x3 x4 v34 0 0))
def f_typeMatch_98 (K : Ky) (V : Sg → Option Nat → Option (Sg × Unit)) (S : Sg) (x1 : Option Nat) (x2 : Option Nat) : Option (Sg × Unit) :=
  bnd (f_ok K S) fun S26 v27 =>
  if v27 = 0 then (some (S26, ())) else ((oI S26 20 x2 1).bind fun v28 =>
  (rQ S26 11 v28).bind fun v29 =>
  f_typeMatch_119 K V bigN S26 x1 v29 0)
def f_typeMatch_54 (K : Ky) (V : Sg → Option Nat → Option (Sg × Unit)) (S : Sg) (x1 : Option Nat) (x2 : Option Nat) : Option (Sg × Unit) :=
  bnd (f_ok K S) fun S15 v16 =>
  if v16 = 0 then (f_typeMatch_98 K V S15 x1 x2) else ((oI S15 19 x1 4).bind fun v17 =>
  if v17 = 0 then (f_typeMatch_98 K V S15 x1 x2) else ((oI S15 19 x1 3).bind fun v18 =>
  if v18 = 0 then (f_typeMatch_98 K V S15 x1 x2) else ((oR S15 19 x1 6).bind fun v19 =>
  bnd (f_mutable K 410 S15 v19) fun S20 v21 =>
  if v21 = 0 then ((oR S20 19 x1 6).bind fun v22 =>
  (oI S20 15 v22 1).bind fun v23 =>
  bnd (f_fail K S20 4 v23) fun S24 v25 =>
  f_typeMatch_98 K V S24 x1 x2) else (f_typeMatch_98 K V S20 x1 x2))))
def f_typeMatch_26 (K : Ky) (V : Sg → Option Nat → Option (Sg × Unit)) (S : Sg) (x1 : Option Nat) (y0 : Option Nat) : Option (Sg × Unit) :=
  bnd (f_ok K S) fun S8 v9 =>
  if v9 = 0 then (f_typeMatch_54 K V S8 x1 y0) else ((oI S8 20 y0 0).bind fun v10 =>
  if v10 = 4 then (f_typeMatch_54 K V S8 x1 y0) else ((oR S8 19 x1 6).bind fun v11 =>
  (oI S8 15 v11 1).bind fun v12 =>
  bnd (f_fail K S8 4 v12) fun S13 v14 =>
  f_typeMatch_54 K V S13 x1 y0))
def f_typeMatch (K : Ky) (V : Sg → Option Nat → Option (Sg × Unit)) (S0 : Sg) (x1 : Option Nat) : Option (Sg × Unit) :=
  (oI S0 19 x1 4).bind fun v1 =>
  if v1 = 0 then ((oR S0 19 x1 6).bind fun v2 =>
  bnd (f_value K 410 S0 v2) fun S3 v4 =>
  f_typeMatch_26 K V S3 x1 v4) else ((oR S0 19 x1 6).bind fun v5 =>
  bnd (f_place K 410 S0 v5) fun S6 v7 =>
  f_typeMatch_26 K V S6 x1 v7)
def f_typeStatement_133 (K : Ky) (V : Sg → Option Nat → Option (Sg × Unit)) (k82 : Sg → Option Nat → Int32 → Option (Sg × Unit)) (S : Sg) (x1 : Option Nat) (x2 : Int32) : Option (Sg × Unit) :=
  k82 S x1 (x2 + 1)
def f_typeStatement_116 (K : Ky) (V : Sg → Option Nat → Option (Sg × Unit)) (k82 : Sg → Option Nat → Int32 → Option (Sg × Unit)) (S : Sg) (x1 : Option Nat) (x2 : Int32) : Option (Sg × Unit) :=
  bnd (f_ok K S) fun S44 v45 =>
  if v45 = 0 then (f_typeStatement_133 K V k82 S44 x1 x2) else ((oR S44 19 x1 11).bind fun v46 =>
  (aQ K 10 S44 v46 x2).bind fun v47 =>
  bnd (V S44 v47) fun S48 v49 =>
  f_typeStatement_133 K V k82 S48 x1 x2)
def f_typeStatement_238 (K : Ky) (V : Sg → Option Nat → Option (Sg × Unit)) (S : Sg) : Option (Sg × Unit) :=
  some (S, ())
def f_typeStatement_139 (K : Ky) (V : Sg → Option Nat → Option (Sg × Unit)) (S : Sg) : Option (Sg × Unit) :=
  f_typeStatement_238 K V S
def f_typeStatement_82 (K : Ky) (V : Sg → Option Nat → Option (Sg × Unit)) : Nat → Sg → Option Nat → Int32 → Option (Sg × Unit)
  | 0, _, _, _ => none
  | n9 + 1, S, x1, x2 =>
    (oI S 19 x1 13).bind fun v35 =>
    if v35 ≤ x2 then (f_typeStatement_139 K V S) else (bnd (f_ok K S) fun S36 v37 =>
    if v37 = 0 then (f_typeStatement_139 K V S36) else ((oR S36 19 x1 10).bind fun v38 =>
    (aQ K 9 S36 v38 x2).bind fun v39 =>
    if v39 = none then (f_typeStatement_116 K V ((f_typeStatement_82 K V n9)) S36 x1 x2) else ((oR S36 19 x1 10).bind fun v40 =>
    (aQ K 9 S36 v40 x2).bind fun v41 =>
    bnd (f_condition K S36 v41) fun S42 v43 =>
    f_typeStatement_116 K V ((f_typeStatement_82 K V n9)) S42 x1 x2)))
def f_typeStatement (K : Ky) (V : Sg → Option Nat → Option (Sg × Unit)) (S0 : Sg) (x1 : Option Nat) : Option (Sg × Unit) :=
  (oI S0 19 x1 0).bind fun v1 =>
  if v1 = 0 then (bnd (f_typeLet K S0 x1) fun S2 v3 =>
  f_typeStatement_238 K V S2) else (if v1 = 1 then ((oR S0 19 x1 6).bind fun v4 =>
  bnd (f_value K 410 S0 v4) fun S5 v6 =>
  f_typeStatement_238 K V S5) else (if v1 = 2 then (bnd (f_typeAssign K S0 x1) fun S7 v8 =>
  f_typeStatement_238 K V S7) else (if v1 = 3 then (f_typeStatement_82 K V bigN S0 x1 0) else (if v1 = 4 then ((oR S0 19 x1 6).bind fun v9 =>
  bnd (f_condition K S0 v9) fun S10 v11 =>
  bnd (f_ok K S10) fun S12 v13 =>
  if v13 = 0 then (f_typeStatement_238 K V S12) else ((oR S12 19 x1 9).bind fun v14 =>
  bnd (V S12 v14) fun S15 v16 =>
  f_typeStatement_238 K V S15)) else (if v1 = 5 then (bnd (f_typeMatch K V S0 x1) fun S17 v18 =>
  f_typeStatement_238 K V S17) else (if v1 = 6 then (bnd (f_typeReturn K S0 x1) fun S19 v20 =>
  f_typeStatement_238 K V S19) else (if v1 = 7 then ((oR S0 19 x1 6).bind fun v21 =>
  bnd (f_value K 410 S0 v21) fun S22 v23 =>
  bnd (f_ok K S22) fun S24 v25 =>
  if v25 = 0 then (f_typeStatement_238 K V S24) else ((oI S24 20 v23 0).bind fun v26 =>
  if v26 = 0 then (f_typeStatement_238 K V S24) else ((oI S24 20 v23 0).bind fun v27 =>
  if v27 = 1 then (f_typeStatement_238 K V S24) else ((oR S24 19 x1 6).bind fun v28 =>
  (oI S24 15 v28 1).bind fun v29 =>
  bnd (f_fail K S24 4 v29) fun S30 v31 =>
  f_typeStatement_238 K V S30)))) else ((oR S0 19 x1 9).bind fun v32 =>
  bnd (V S0 v32) fun S33 v34 =>
  f_typeStatement_238 K V S33))))))))
def f_typeBlock_38 (K : Ky) (V : Sg → Option Nat → Option (Sg × Unit)) (S : Sg) (x2 : Int32) : Option (Sg × Unit) :=
  (pM S 23 x2).bind fun S8 =>
  some (S8, ())
def f_typeBlock_7 (K : Ky) (V : Sg → Option Nat → Option (Sg × Unit)) : Nat → Sg → Option Nat → Int32 → Int32 → Option (Sg × Unit)
  | 0, _, _, _, _ => none
  | n9 + 1, S, x1, x2, x3 =>
    (oI S 14 x1 3).bind fun v1 =>
    if v1 ≤ x3 then (f_typeBlock_38 K V S x2) else (bnd (f_ok K S) fun S2 v3 =>
    if v3 = 0 then (f_typeBlock_38 K V S2 x2) else ((oR S2 14 x1 2).bind fun v4 =>
    (aQ K 11 S2 v4 x3).bind fun v5 =>
    bnd (f_typeStatement K V S2 v5) fun S6 v7 =>
    f_typeBlock_7 K V n9 S6 x1 x2 (x3 + 1)))
def f_typeBlock (K : Ky) : Nat → Sg → Option Nat → Option (Sg × Unit)
  | 0, _, _ => none
  | d + 1, S0, x1 =>
    f_typeBlock_7 K (f_typeBlock K d) bigN S0 x1 (Zi S0 23) 0
end
-- k1.c08.lean.txt
section
def f_ends__39 (K : Ky) (V : Sg → Option Nat → Option (Sg × Int32)) : Nat → Sg → Option Nat → Int32 → Option (Sg × Int32)
  | 0, _, _, _ => none
  | n9 + 1, S, x1, x2 =>
    (oI S 19 x1 13).bind fun v11 =>
    if v11 ≤ x2 then ((zB 1).bind fun _ => some (S, 1)) else ((oR S 19 x1 12).bind fun v12 =>
    (aQ K 7 S v12 x2).bind fun v13 =>
    (oR S 13 v13 5).bind fun v14 =>
    bnd (V S v14) fun S15 v16 =>
    if v16 = 0 then ((zB 0).bind fun _ => some (S15, 0)) else (f_ends__39 K V n9 S15 x1 (x2 + 1)))
def f_ends__95 (K : Ky) (V : Sg → Option Nat → Option (Sg × Int32)) (S : Sg) : Option (Sg × Int32) :=
  (zB 0).bind fun _ => some (S, 0)
def f_ends__99 (K : Ky) (V : Sg → Option Nat → Option (Sg × Int32)) : Nat → Sg → Option Nat → Int32 → Option (Sg × Int32)
  | 0, _, _, _ => none
  | n9 + 1, S, x1, x2 =>
    (oI S 19 x1 13).bind fun v17 =>
    if v17 ≤ x2 then ((zB 1).bind fun _ => some (S, 1)) else ((oR S 19 x1 11).bind fun v18 =>
    (aQ K 10 S v18 x2).bind fun v19 =>
    bnd (V S v19) fun S20 v21 =>
    if v21 = 0 then ((zB 0).bind fun _ => some (S20, 0)) else (f_ends__99 K V n9 S20 x1 (x2 + 1)))
def f_ends_ (K : Ky) (V : Sg → Option Nat → Option (Sg × Int32)) (S0 : Sg) (x1 : Option Nat) : Option (Sg × Int32) :=
  (oI S0 19 x1 0).bind fun v1 =>
  if v1 = 6 then ((zB 1).bind fun _ => some (S0, 1)) else ((oI S0 19 x1 0).bind fun v2 =>
  if v2 = 8 then ((oR S0 19 x1 9).bind fun v8 =>
  bnd (V S0 v8) fun S9 v10 =>
  (zB v10).bind fun _ => some (S9, v10)) else ((oI S0 19 x1 0).bind fun v3 =>
  if v3 = 5 then (f_ends__39 K V bigN S0 x1 0) else ((oI S0 19 x1 0).bind fun v4 =>
  if v4 = 3 then ((oR S0 19 x1 10).bind fun v5 =>
  (oI S0 19 x1 13).bind fun v6 =>
  (aQ K 9 S0 v5 (v6 - 1)).bind fun v7 =>
  if v7 = none then (f_ends__99 K V bigN S0 x1 0) else (f_ends__95 K V S0)) else (f_ends__95 K V S0))))
def f_ends_2 (K : Ky) (V : Sg → Option Nat → Option (Sg × Int32)) : Nat → Sg → Option Nat → Int32 → Option (Sg × Int32)
  | 0, _, _, _ => none
  | n9 + 1, S, x1, x2 =>
    (oI S 14 x1 3).bind fun v1 =>
    if v1 ≤ x2 then ((zB 0).bind fun _ => some (S, 0)) else ((oR S 14 x1 2).bind fun v2 =>
    (aQ K 11 S v2 x2).bind fun v3 =>
    bnd (f_ends_ K V S v3) fun S4 v5 =>
    if v5 = 0 then (f_ends_2 K V n9 S4 x1 (x2 + 1)) else ((zB 1).bind fun _ => some (S4, 1)))
def f_ends (K : Ky) : Nat → Sg → Option Nat → Option (Sg × Int32)
  | 0, _, _ => none
  | d + 1, S0, x1 =>
    f_ends_2 K (f_ends K d) bigN S0 x1 0
def f_typeFunction_111 (K : Ky) (S : Sg) : Option (Sg × Unit) :=
  some (S, ())
def f_typeFunction_24 (K : Ky) : Nat → Sg → Option Nat → Int32 → Option (Sg × Unit)
  | 0, _, _, _ => none
  | n9 + 1, S, x2, x3 =>
    (oI S 16 x2 3).bind fun v5 =>
    if v5 ≤ x3 then ((oR S 16 x2 16).bind fun v6 =>
    bnd (f_typeBlock K 45 S v6) fun S7 v8 =>
    bnd (f_ok K S7) fun S9 v10 =>
    if v10 = 0 then (f_typeFunction_111 K S9) else ((oR S9 16 x2 15).bind fun v11 =>
    (oI S9 20 v11 0).bind fun v12 =>
    if v12 = 8 then (f_typeFunction_111 K S9) else ((oR S9 16 x2 16).bind fun v13 =>
    bnd (f_ends K 45 S9 v13) fun S14 v15 =>
    if v15 = 0 then ((oR S14 16 x2 16).bind fun v16 =>
    (oI S14 14 v16 1).bind fun v17 =>
    bnd (f_fail K S14 4 v17) fun S18 v19 =>
    f_typeFunction_111 K S18) else (f_typeFunction_111 K S14)))) else ((oR S 16 x2 17).bind fun v20 =>
    (oR S 16 x2 8).bind fun v21 =>
    (aI K S v21 x3).bind fun v22 =>
    (oR S 16 x2 10).bind fun v23 =>
    (aQ K 4 S v23 x3).bind fun v24 =>
    bnd (f_declare K S v22 v24 0) fun S25 v26 =>
    (bQ K 5 21 S25 v20 x3 v26).bind fun S27 =>
    f_typeFunction_24 K n9 S27 x2 (x3 + 1))
def f_typeFunction (K : Ky) (S0 : Sg) (x1 : Int32) : Option (Sg × Unit) :=
  (rQ S0 11 x1).bind fun v1 =>
  (pMf S0 v1).bind fun S2 =>
  (pM S2 23 0).bind fun S3 =>
  (pM S3 24 0).bind fun S4 =>
  f_typeFunction_24 K bigN S4 v1 0
def f_typeAll_111 (K : Ky) (k77 : Sg → Int32 → Option (Sg × Unit)) (S : Sg) (x1 : Int32) : Option (Sg × Unit) :=
  k77 S (x1 + 1)
def f_typeAll_117 (K : Ky) (S : Sg) : Option (Sg × Unit) :=
  some (S, ())
def f_typeAll_77 (K : Ky) : Nat → Sg → Int32 → Option (Sg × Unit)
  | 0, _, _ => none
  | n9 + 1, S, x1 =>
    if (Zi S 12) ≤ x1 then (f_typeAll_117 K S) else (bnd (f_ok K S) fun S21 v22 =>
    if v22 = 0 then (f_typeAll_117 K S21) else ((rQ S21 11 x1).bind fun v23 =>
    (oI S21 16 v23 2).bind fun v24 =>
    if v24 = 12 then (bnd (f_typeFunction K S21 x1) fun S25 v26 =>
    f_typeAll_111 K ((f_typeAll_77 K n9)) S25 x1) else (f_typeAll_111 K ((f_typeAll_77 K n9)) S21 x1)))
def f_typeAll_75 (K : Ky) (S : Sg) : Option (Sg × Unit) :=
  f_typeAll_77 K bigN S 0
def f_typeAll_64 (K : Ky) (S : Sg) : Option (Sg × Unit) :=
  bnd (f_ok K S) fun S17 v18 =>
  if v18 = 0 then (f_typeAll_75 K S17) else (bnd (f_findMain K S17) fun S19 v20 =>
  f_typeAll_75 K S19)
def f_typeAll_53 (K : Ky) (S : Sg) : Option (Sg × Unit) :=
  bnd (f_ok K S) fun S13 v14 =>
  if v14 = 0 then (f_typeAll_64 K S13) else (bnd (f_leaves K S13) fun S15 v16 =>
  f_typeAll_64 K S15)
def f_typeAll_42 (K : Ky) (S : Sg) : Option (Sg × Unit) :=
  bnd (f_ok K S) fun S9 v10 =>
  if v10 = 0 then (f_typeAll_53 K S9) else (bnd (f_sizes K S9) fun S11 v12 =>
  f_typeAll_53 K S11)
def f_typeAll_11 (K : Ky) : Nat → Sg → Int32 → Option (Sg × Unit)
  | 0, _, _ => none
  | n9 + 1, S, x1 =>
    if (Zi S 12) ≤ x1 then (f_typeAll_42 K S) else (bnd (f_ok K S) fun S4 v5 =>
    if v5 = 0 then (f_typeAll_42 K S4) else ((rQ S4 11 x1).bind fun v6 =>
    bnd (f_itemTypes K S4 v6) fun S7 v8 =>
    f_typeAll_11 K n9 S7 (x1 + 1)))
def f_typeAll (K : Ky) (S0 : Sg) : Option (Sg × Unit) :=
  (pM S0 19 0).bind fun S1 =>
  bnd (f_itemNames K S1) fun S2 v3 =>
  f_typeAll_11 K bigN S2 0
def f_point (K : Ky) (S0 : Sg) (x1 : Int32) (x2 : Int32) : Option (Sg × Int32) :=
  (pM S0 26 ((Zi S0 26) + 1)).bind fun S1 =>
  (wRI S1 27 (Zi S0 26) x1).bind fun S2 =>
  (wRI S2 32 (Zi S0 26) x2).bind fun S3 =>
  (wRI S3 28 (Zi S0 26) 0).bind fun S4 =>
  (wRI S4 29 (Zi S0 26) 0).bind fun S5 =>
  (wRI S5 30 (Zi S0 26) (-1)).bind fun S6 =>
  (wJ S6 31 (Zi S0 26) 0).bind fun S7 =>
  (wRI S7 33 (Zi S0 26) 0).bind fun S8 =>
  (wRI S8 34 (Zi S0 26) (-1)).bind fun S9 =>
  (wRI S9 35 (Zi S0 26) (-1)).bind fun S10 =>
  (wA K S10 36 (Zi S0 26) none).bind fun S11 =>
  (wA K S11 37 (Zi S0 26) none).bind fun S12 =>
  (wQ S12 18 38 (Zi S0 26) none).bind fun S13 =>
  (wQ S13 20 39 (Zi S0 26) none).bind fun S14 =>
  (wQ S14 21 40 (Zi S0 26) none).bind fun S15 =>
  (wQ S15 13 41 (Zi S0 26) none).bind fun S16 =>
  (wA K S16 42 (Zi S0 26) none).bind fun S17 =>
  some (S17, Zi S0 26)
def f_just_27 (K : Ky) (S : Sg) (x1 : Int32) : Option (Sg × Option Nat) :=
  (rQ S 51 x1).bind fun v7 =>
  some (S, v7)
def f_just (K : Ky) (S0 : Sg) (x1 : Int32) : Option (Sg × Option Nat) :=
  (rQ S0 51 x1).bind fun v1 =>
  if v1 = none then (bnd (nA K S0 1) fun S2 a3 =>
  (wA K S2 51 x1 (some a3)).bind fun S4 =>
  (rQ S4 51 x1).bind fun v5 =>
  (bI K S4 v5 0 x1).bind fun S6 =>
  f_just_27 K S6 x1) else (f_just_27 K S0 x1)
def f_X18_init (K : Ky) (S0 : Sg) (x0 : Nat) (x1 : Int32) : Option (Sg × Unit) :=
  (pV S0 18 (some x0) 1 (.int x1)).bind fun S1 =>
  bnd (nA K S1 x1) fun S2 a3 =>
  (pV S2 18 (some x0) 2 (va_rf (some a3))).bind fun S4 =>
  bnd (nQ K 4 S4 (x1 + 1)) fun S5 a6 =>
  (pV S5 18 (some x0) 3 (va_rf (some a6))).bind fun S7 =>
  some (S7, ())
def f_wholeOf_40 (K : Ky) (S : Sg) (x0 : Option Nat) : Option (Sg × Option Nat) :=
  (oR S 21 x0 4).bind fun v13 =>
  some (S, v13)
def f_wholeOf (K : Ky) (S0 : Sg) (x0 : Option Nat) : Option (Sg × Option Nat) :=
  (oR S0 21 x0 4).bind fun v1 =>
  if v1 = none then (bnd (nO K S0 18 4 [.null, .int 0, .null, .null]) fun S2 a3 =>
  bnd (f_X18_init K S2 a3 0) fun S4 _ =>
  (pV S4 21 x0 4 (va_rf (some a3))).bind fun S6 =>
  (oR S6 21 x0 4).bind fun v7 =>
  (pV S6 18 v7 0 (va_rf x0)).bind fun S8 =>
  (oR S8 21 x0 4).bind fun v9 =>
  (oR S8 18 v9 3).bind fun v10 =>
  (oR S8 21 x0 2).bind fun v11 =>
  (bQ K 4 20 S8 v10 0 v11).bind fun S12 =>
  f_wholeOf_40 K S12 x0) else (f_wholeOf_40 K S0 x0)
def f_temporary (K : Ky) (S0 : Sg) (x0 : Int32) : Option (Sg × Int32) :=
  some (S0, 40 + x0)
def f_pathOf_78 (K : Ky) (k35 : Sg → Option Nat → Option Nat → Int32 → Option (Sg × Option Nat)) (S : Sg) (x2 : Option Nat) (x4 : Option Nat) (x5 : Int32) (y0 : Int32) (y1 : Int32) (y2 : Option Nat) : Option (Sg × Option Nat) :=
  (bI K S y2 y1 y0).bind fun S24 =>
  (oR S24 15 x2 8).bind fun v25 =>
  bnd (f_bare K S24 v25) fun S26 v27 =>
  k35 S26 v27 x4 (x5 + (-1))
def f_pathOf_35 (K : Ky) : Nat → Sg → Option Nat → Option Nat → Int32 → Option (Sg × Option Nat)
  | 0, _, _, _, _ => none
  | n9 + 1, S, x2, x4, x5 =>
    if x5 ≤ 0 then ((oR S 18 x4 3).bind fun v12 =>
    (oR S 15 x2 13).bind fun v13 =>
    (oR S 21 v13 2).bind fun v14 =>
    (bQ K 4 20 S v12 0 v14).bind fun S15 =>
    (oR S15 15 x2 13).bind fun v16 =>
    (pV S15 18 x4 0 (va_rf v16)).bind fun S17 =>
    some (S17, x4)) else ((oR S 18 x4 3).bind fun v18 =>
    (oR S 15 x2 12).bind fun v19 =>
    (bQ K 4 20 S v18 x5 v19).bind fun S20 =>
    (oR S20 18 x4 2).bind fun v21 =>
    (oI S20 15 x2 0).bind fun v22 =>
    if v22 = 11 then (f_pathOf_78 K ((f_pathOf_35 K n9)) S20 x2 x4 x5 (-1) (x5 - 1) v21) else ((oI S20 15 x2 4).bind fun v23 =>
    f_pathOf_78 K ((f_pathOf_35 K n9)) S20 x2 x4 x5 v23 (x5 - 1) v21))
def f_pathOf (K : Ky) (S0 : Sg) (x1 : Option Nat) : Option (Sg × Option Nat) :=
  bnd (f_bare K S0 x1) fun S1 v2 =>
  bnd (f_depth K S1 x1) fun S3 v4 =>
  if v4 = 0 then ((oR S3 15 v2 13).bind fun v9 =>
  bnd (f_wholeOf K S3 v9) fun S10 v11 =>
  some (S10, v11)) else (bnd (nO K S3 18 4 [.null, .int 0, .null, .null]) fun S5 a6 =>
  bnd (f_X18_init K S5 a6 v4) fun S7 _ =>
  f_pathOf_35 K bigN S7 v2 (some a6) v4)
def f_X18_type (K : Ky) (S0 : Sg) (x0 : Nat) : Option (Sg × Option Nat) :=
  (oR S0 18 (some x0) 3).bind fun v1 =>
  (oI S0 18 (some x0) 1).bind fun v2 =>
  (aQ K 4 S0 v1 v2).bind fun v3 =>
  some (S0, v3)
def f_through (K : Ky) (S0 : Sg) (x1 : Int32) (x2 : Option Nat) : Option (Sg × Unit) :=
  (wQ S0 18 38 x1 x2).bind fun S1 =>
  (oBk S1 18 x2).bind fun b4 =>
  bnd (f_X18_type K S1 b4) fun S2 v3 =>
  (wQ S2 20 39 x1 v3).bind fun S5 =>
  (oR S5 18 x2 3).bind fun v6 =>
  (aQ K 4 S5 v6 0).bind fun v7 =>
  bnd (f_refers K S5 v7) fun S8 v9 =>
  if v9 = 0 then (some (S8, ())) else ((oR S8 18 x2 0).bind fun v10 =>
  (oI S8 21 v10 0).bind fun v11 =>
  bnd (f_just K S8 v11) fun S12 v13 =>
  (wA K S12 37 x1 v13).bind fun S14 =>
  (oR S14 18 x2 0).bind fun v15 =>
  (oI S14 21 v15 0).bind fun v16 =>
  bnd (f_just K S14 v16) fun S17 v18 =>
  (wA K S17 36 x1 v18).bind fun S19 =>
  some (S19, ()))
end
-- k1.c09.lean.txt
section
def f_givesHolder_20 (K : Ky) (S : Sg) : Option (Sg × Unit) :=
  some (S, ())
def f_givesHolder (K : Ky) (S0 : Sg) (x1 : Int32) (x2 : Option Nat) : Option (Sg × Unit) :=
  bnd (f_refers K S0 x2) fun S1 v2 =>
  if v2 = 0 then (f_givesHolder_20 K S1) else (bnd (f_temporary K S1 (Zi S1 48)) fun S3 v4 =>
  (wRI S3 34 x1 v4).bind fun S5 =>
  f_givesHolder_20 K S5)
def f_read_78 (K : Ky) (S : Sg) (x2 : Option Nat) (x3 : Int32) (x4 : Option Nat) (y0 : Int32) (y1 : Int32) : Option (Sg × Unit) :=
  (wRI S 33 y1 y0).bind fun S15 =>
  bnd (f_through K S15 x3 x2) fun S16 v17 =>
  bnd (f_givesHolder K S16 x3 x4) fun S18 v19 =>
  (pM S18 48 ((Zi S18 48) + 1)).bind fun S20 =>
  some (S20, ())
def f_read_49 (K : Ky) (S : Sg) (x2 : Option Nat) (x3 : Int32) (x4 : Option Nat) (y0 : Int32) : Option (Sg × Unit) :=
  bnd (f_copied K S x4) fun S13 v14 =>
  if v14 = 0 then (if y0 = 0 then (f_read_78 K S13 x2 x3 x4 4 x3) else (f_read_78 K S13 x2 x3 x4 5 x3)) else (f_read_78 K S13 x2 x3 x4 1 x3)
def f_read_48 (K : Ky) (S : Sg) (x2 : Option Nat) (x3 : Int32) (x4 : Option Nat) : Option (Sg × Unit) :=
  f_read_49 K S x2 x3 x4 0
def f_read (K : Ky) (S0 : Sg) (x1 : Option Nat) : Option (Sg × Unit) :=
  bnd (f_pathOf K S0 x1) fun S1 v2 =>
  (oI S1 15 x1 1).bind fun v3 =>
  bnd (f_point K S1 2 v3) fun S4 v5 =>
  (oBk S4 18 v2).bind fun b8 =>
  bnd (f_X18_type K S4 b8) fun S6 v7 =>
  (oI S6 18 v2 1).bind fun v9 =>
  if v9 ≤ 0 then (f_read_48 K S6 v2 v5 v7) else ((oR S6 18 v2 2).bind fun v10 =>
  (oI S6 18 v2 1).bind fun v11 =>
  (aI K S6 v10 (v11 - 1)).bind fun v12 =>
  if v12 = (-1) then (f_read_49 K S6 v2 v5 v7 1) else (f_read_48 K S6 v2 v5 v7))
def f_newLoan (K : Ky) (S0 : Sg) (x1 : Option Nat) (x2 : Int32) : Option (Sg × Int32) :=
  (wQ S0 18 43 (Zi S0 47) x1).bind fun S1 =>
  (wZ S1 44 (Zi S1 47) x2).bind fun S2 =>
  (wRI S2 45 (Zi S2 47) (-1)).bind fun S3 =>
  (pM S3 47 ((Zi S3 47) + 1)).bind fun S4 =>
  some (S4, (Zi S4 47) - 1)
def f_lend_65 (K : Ky) (S : Sg) (x3 : Int32) (y0 : Int32) (y1 : Option Nat) (y3 : Int32) : Option (Sg × Unit) :=
  bnd (f_newLoan K S y1 y0) fun S13 v14 =>
  (wRI S13 35 y3 v14).bind fun S15 =>
  bnd (f_temporary K S15 (Zi S15 48)) fun S16 v17 =>
  (wRI S16 34 x3 v17).bind fun S18 =>
  (pM S18 48 ((Zi S18 48) + 1)).bind fun S19 =>
  some (S19, ())
def f_lend_39 (K : Ky) (S : Sg) (x1 : Option Nat) (x2 : Option Nat) (x3 : Int32) (y0 : Int32) (y1 : Int32) : Option (Sg × Unit) :=
  (wRI S 33 y1 y0).bind fun S9 =>
  bnd (f_through K S9 x3 x2) fun S10 v11 =>
  (oI S10 15 x1 7).bind fun v12 =>
  if v12 = 0 then (f_lend_65 K S10 x3 1 x2 x3) else (f_lend_65 K S10 x3 0 x2 x3)
def f_lend (K : Ky) (S0 : Sg) (x1 : Option Nat) : Option (Sg × Unit) :=
  (oR S0 15 x1 8).bind fun v1 =>
  bnd (f_pathOf K S0 v1) fun S2 v3 =>
  (oR S2 15 x1 8).bind fun v4 =>
  (oI S2 15 v4 1).bind fun v5 =>
  bnd (f_point K S2 3 v5) fun S6 v7 =>
  (oI S6 15 x1 7).bind fun v8 =>
  if v8 = 0 then (f_lend_39 K S6 x1 v3 v7 2 v7) else (f_lend_39 K S6 x1 v3 v7 3 v7)
def f_isHeld_42 (K : Ky) (S : Sg) (y0 : Int32) : Option (Sg × Int32) :=
  (zB y0).bind fun _ => some (S, y0)
def f_isHeld_37 (K : Ky) (S : Sg) : Option (Sg × Int32) :=
  f_isHeld_42 K S 1
def f_isHeld_41 (K : Ky) (S : Sg) : Option (Sg × Int32) :=
  f_isHeld_42 K S 0
def f_isHeld (K : Ky) (S0 : Sg) (x1 : Option Nat) (x2 : Int32) (x3 : Int32) : Option (Sg × Int32) :=
  (oR S0 15 x1 9).bind fun v1 =>
  (aQ K 9 S0 v1 x2).bind fun v2 =>
  (oR S0 15 v2 12).bind fun v3 =>
  bnd (f_refers K S0 v3) fun S4 v5 =>
  if v5 = 0 then (f_isHeld_41 K S4) else (if x3 < 0 then (f_isHeld_37 K S4) else ((oI S4 15 x1 4).bind fun v6 =>
  (rQ S4 11 v6).bind fun v7 =>
  (oR S4 16 v7 13).bind fun v8 =>
  (aI K S4 v8 x2).bind fun v9 =>
  if v9 = x3 then (f_isHeld_37 K S4) else (f_isHeld_41 K S4)))
def f_held_29 (K : Ky) (k6 : Sg → Option Nat → Int32 → Int32 → Int32 → Int32 → Option (Sg × Option Nat)) (S : Sg) (x1 : Option Nat) (x2 : Int32) (x3 : Int32) (x4 : Int32) (x5 : Int32) : Option (Sg × Option Nat) :=
  k6 S x1 x2 x3 x4 (x5 + 1)
def f_held_89 (K : Ky) (k54 : Sg → Option Nat → Int32 → Int32 → Int32 → Option Nat → Int32 → Option (Sg × Option Nat)) (S : Sg) (x1 : Option Nat) (x2 : Int32) (x3 : Int32) (x4 : Int32) (x5 : Option Nat) (x6 : Int32) : Option (Sg × Option Nat) :=
  k54 S x1 x2 x3 x4 x5 (x6 + 1)
def f_held_54 (K : Ky) : Nat → Sg → Option Nat → Int32 → Int32 → Int32 → Option Nat → Int32 → Option (Sg × Option Nat)
  | 0, _, _, _, _, _, _, _ => none
  | n9 + 1, S, x1, x2, x3, x4, x5, x6 =>
    (oI S 15 x1 11).bind fun v6 =>
    if v6 ≤ x6 then (some (S, x5)) else (bnd (f_isHeld K S x1 x6 x3) fun S7 v8 =>
    if v8 = 0 then (f_held_89 K ((f_held_54 K n9)) S7 x1 x2 x3 x4 x5 x6) else (bnd (f_temporary K S7 (x2 + x6)) fun S9 v10 =>
    (bI K S9 x5 x4 v10).bind fun S11 =>
    f_held_89 K ((f_held_54 K n9)) S11 x1 x2 x3 (x4 + 1) x5 x6))
def f_held_6 (K : Ky) : Nat → Sg → Option Nat → Int32 → Int32 → Int32 → Int32 → Option (Sg × Option Nat)
  | 0, _, _, _, _, _, _ => none
  | n9 + 1, S, x1, x2, x3, x4, x5 =>
    (oI S 15 x1 11).bind fun v1 =>
    if v1 ≤ x5 then (if x4 = 0 then (some (S, none)) else (bnd (nA K S x4) fun S2 a3 =>
    f_held_54 K bigN S2 x1 x2 x3 0 (some a3) 0)) else (bnd (f_isHeld K S x1 x5 x3) fun S4 v5 =>
    if v5 = 0 then (f_held_29 K ((f_held_6 K n9)) S4 x1 x2 x3 x4 x5) else (f_held_29 K ((f_held_6 K n9)) S4 x1 x2 x3 (x4 + 1) x5))
def f_held (K : Ky) (S0 : Sg) (x1 : Option Nat) (x2 : Int32) (x3 : Int32) : Option (Sg × Option Nat) :=
  f_held_6 K bigN S0 x1 x2 x3 0 0
def f_order_9 (K : Ky) : Nat → Sg → Option Nat → Option Nat → Int32 → Option (Sg × Option Nat)
  | 0, _, _, _, _ => none
  | n9 + 1, S, x1, x2, x3 =>
    (oI S 15 x1 11).bind fun v4 =>
    if v4 ≤ x3 then (some (S, x2)) else ((oI S 15 x1 4).bind fun v5 =>
    (rQ S 11 v5).bind fun v6 =>
    (oR S 15 x1 10).bind fun v7 =>
    (aI K S v7 x3).bind fun v8 =>
    bnd (f_fieldOf K S v6 v8) fun S9 v10 =>
    (bI K S9 x2 x3 v10).bind fun S11 =>
    f_order_9 K n9 S11 x1 x2 (x3 + 1))
def f_order (K : Ky) (S0 : Sg) (x1 : Option Nat) : Option (Sg × Option Nat) :=
  (oI S0 15 x1 11).bind fun v1 =>
  bnd (nA K S0 v1) fun S2 a3 =>
  f_order_9 K bigN S2 x1 (some a3) 0
def f_giveList_220 (K : Ky) (V : Sg → Option Nat → Option (Sg × Unit)) (S : Sg) : Option (Sg × Unit) :=
  some (S, ())
def f_giveList_168 (K : Ky) (V : Sg → Option Nat → Option (Sg × Unit)) (S : Sg) (x1 : Option Nat) (x3 : Int32) : Option (Sg × Unit) :=
  (oI S 15 x1 0).bind fun v32 =>
  if v32 = 3 then ((oR S 15 x1 12).bind fun v34 =>
  bnd (f_givesHolder K S x3 v34) fun S35 v36 =>
  (oR S35 15 x1 12).bind fun v37 =>
  (oI S35 20 v37 0).bind fun v38 =>
  if v38 = 8 then (f_giveList_220 K V S35) else ((pM S35 48 ((Zi S35 48) + 1)).bind fun S39 =>
  f_giveList_220 K V S39)) else ((pM S 48 ((Zi S 48) + 1)).bind fun S33 =>
  f_giveList_220 K V S33)
def f_giveList_149 (K : Ky) (V : Sg → Option Nat → Option (Sg × Unit)) (S : Sg) (x1 : Option Nat) (x3 : Int32) : Option (Sg × Unit) :=
  (oI S 15 x1 0).bind fun v28 =>
  if v28 = 5 then (bnd (f_order K S x1) fun S29 v30 =>
  (wA K S29 42 x3 v30).bind fun S31 =>
  f_giveList_168 K V S31 x1 x3) else (f_giveList_168 K V S x1 x3)
def f_giveList_60 (K : Ky) (V : Sg → Option Nat → Option (Sg × Unit)) (S : Sg) (x1 : Option Nat) (x2 : Int32) (y0 : Int32) : Option (Sg × Unit) :=
  (oI S 15 x1 1).bind fun v8 =>
  bnd (f_point K S y0 v8) fun S9 v10 =>
  (oI S9 15 x1 4).bind fun v11 =>
  (wRI S9 28 v10 v11).bind fun S12 =>
  (oI S12 15 x1 5).bind fun v13 =>
  (wRI S12 29 v10 v13).bind fun S14 =>
  (oI S14 15 x1 11).bind fun v15 =>
  (wJ S14 31 v10 (Int32.toInt64 v15)).bind fun S16 =>
  (pM S16 48 x2).bind fun S17 =>
  (oI S17 15 x1 0).bind fun v18 =>
  if v18 = 3 then (bnd (f_held K S17 x1 x2 (-1)) fun S19 v20 =>
  (wA K S19 37 v10 v20).bind fun S21 =>
  (oI S21 15 x1 4).bind fun v22 =>
  (rQ S21 11 v22).bind fun v23 =>
  (oI S21 16 v23 7).bind fun v24 =>
  bnd (f_held K S21 x1 x2 v24) fun S25 v26 =>
  (wA K S25 36 v10 v26).bind fun S27 =>
  f_giveList_149 K V S27 x1 v10) else (f_giveList_149 K V S17 x1 v10)
def f_giveList_7 (K : Ky) (V : Sg → Option Nat → Option (Sg × Unit)) : Nat → Sg → Option Nat → Int32 → Int32 → Option (Sg × Unit)
  | 0, _, _, _, _ => none
  | n9 + 1, S, x1, x2, x3 =>
    (oI S 15 x1 11).bind fun v1 =>
    if v1 ≤ x3 then ((oI S 15 x1 0).bind fun v2 =>
    if v2 = 3 then (f_giveList_60 K V S x1 x2 10) else ((oI S 15 x1 0).bind fun v3 =>
    if v3 = 5 then (f_giveList_60 K V S x1 x2 8) else (f_giveList_60 K V S x1 x2 9))) else ((oR S 15 x1 9).bind fun v4 =>
    (aQ K 9 S v4 x3).bind fun v5 =>
    bnd (V S v5) fun S6 v7 =>
    f_giveList_7 K V n9 S6 x1 x2 (x3 + 1))
def f_giveList (K : Ky) (V : Sg → Option Nat → Option (Sg × Unit)) (S0 : Sg) (x1 : Option Nat) : Option (Sg × Unit) :=
  f_giveList_7 K V bigN S0 x1 (Zi S0 48) 0
def f_giveChain_140 (K : Ky) (V : Sg → Option Nat → Option (Sg × Unit)) (k17 : Sg → Option Nat → Option Nat → Int32 → Option (Sg × Unit)) (S : Sg) (x1 : Option Nat) (x2 : Option Nat) (x3 : Int32) : Option (Sg × Unit) :=
  k17 S x1 x2 (x3 + 1)
def f_giveChain_69 (K : Ky) (V : Sg → Option Nat → Option (Sg × Unit)) (k17 : Sg → Option Nat → Option Nat → Int32 → Option (Sg × Unit)) (S : Sg) (x1 : Option Nat) (x2 : Option Nat) (x3 : Int32) (y0 : Int32) (y2 : Int32) (y3 : Option Nat) : Option (Sg × Unit) :=
  (oR S 15 x1 10).bind fun v21 =>
  (aI K S v21 x3).bind fun v22 =>
  bnd (f_point K S y0 v22) fun S23 v24 =>
  (bI K S23 y3 y2 v24).bind fun S25 =>
  (pM S25 48 ((Zi S25 48) - 1)).bind fun S26 =>
  (oR S26 15 x1 9).bind fun v27 =>
  (aQ K 9 S26 v27 x3).bind fun v28 =>
  bnd (V S26 v28) fun S29 v30 =>
  f_giveChain_140 K V k17 S29 x1 x2 x3
def f_giveChain_52 (K : Ky) (V : Sg → Option Nat → Option (Sg × Unit)) (k17 : Sg → Option Nat → Option Nat → Int32 → Option (Sg × Unit)) (S : Sg) (x1 : Option Nat) (x2 : Option Nat) (x3 : Int32) (x4 : Int32) : Option (Sg × Unit) :=
  if x4 = 51 then (f_giveChain_69 K V k17 S x1 x2 x3 18 x3 x2) else (f_giveChain_69 K V k17 S x1 x2 x3 19 x3 x2)
def f_giveChain_216 (K : Ky) (V : Sg → Option Nat → Option (Sg × Unit)) (k148 : Sg → Option Nat → Option Nat → Int32 → Option (Sg × Unit)) (S : Sg) (x1 : Option Nat) (x2 : Option Nat) (x3 : Int32) : Option (Sg × Unit) :=
  k148 S x1 x2 (x3 + 1)
def f_giveChain_215 (K : Ky) (V : Sg → Option Nat → Option (Sg × Unit)) (k148 : Sg → Option Nat → Option Nat → Int32 → Option (Sg × Unit)) (S : Sg) (x1 : Option Nat) (x2 : Option Nat) (x3 : Int32) (y0 : Int32) (y1 : Int32) : Option (Sg × Unit) :=
  (wRI S 30 y1 y0).bind fun S41 =>
  f_giveChain_216 K V k148 S41 x1 x2 x3
def f_giveChain_182 (K : Ky) (V : Sg → Option Nat → Option (Sg × Unit)) (k148 : Sg → Option Nat → Option Nat → Int32 → Option (Sg × Unit)) (S : Sg) (x1 : Option Nat) (x2 : Option Nat) (x3 : Int32) : Option (Sg × Unit) :=
  (aI K S x2 x3).bind fun v36 =>
  (aI K S x2 x3).bind fun v37 =>
  (rI S 30 v37).bind fun v38 =>
  if 0 ≤ v38 then ((aI K S x2 x3).bind fun v39 =>
  (rI S 30 v39).bind fun v40 =>
  f_giveChain_215 K V k148 S x1 x2 x3 v40 v36) else (f_giveChain_215 K V k148 S x1 x2 x3 (Zi S 26) v36)
def f_giveChain_148 (K : Ky) (V : Sg → Option Nat → Option (Sg × Unit)) : Nat → Sg → Option Nat → Option Nat → Int32 → Option (Sg × Unit)
  | 0, _, _, _, _ => none
  | n9 + 1, S, x1, x2, x3 =>
    (oI S 15 x1 11).bind fun v31 =>
    if v31 ≤ x3 then (some (S, ())) else ((aI K S x2 x3).bind fun v32 =>
    (rI S 27 v32).bind fun v33 =>
    if v33 = 18 then (f_giveChain_182 K V ((f_giveChain_148 K V n9)) S x1 x2 x3) else ((aI K S x2 x3).bind fun v34 =>
    (rI S 27 v34).bind fun v35 =>
    if v35 = 19 then (f_giveChain_182 K V ((f_giveChain_148 K V n9)) S x1 x2 x3) else (f_giveChain_216 K V ((f_giveChain_148 K V n9)) S x1 x2 x3)))
def f_giveChain_17 (K : Ky) (V : Sg → Option Nat → Option (Sg × Unit)) : Nat → Sg → Option Nat → Option Nat → Int32 → Option (Sg × Unit)
  | 0, _, _, _, _ => none
  | n9 + 1, S, x1, x2, x3 =>
    (oI S 15 x1 11).bind fun v7 =>
    if v7 ≤ x3 then (f_giveChain_148 K V bigN S x1 x2 0) else ((oR S 15 x1 10).bind fun v8 =>
    (aI K S v8 x3).bind fun v9 =>
    (rI S 5 v9).bind fun v10 =>
    if v10 = 51 then (f_giveChain_52 K V ((f_giveChain_17 K V n9)) S x1 x2 x3 v10) else (if v10 = 52 then (f_giveChain_52 K V ((f_giveChain_17 K V n9)) S x1 x2 x3 v10) else ((oR S 15 x1 9).bind fun v11 =>
    (aQ K 9 S v11 x3).bind fun v12 =>
    bnd (V S v12) fun S13 v14 =>
    (oR S13 15 x1 10).bind fun v15 =>
    (aI K S13 v15 x3).bind fun v16 =>
    bnd (f_point K S13 4 v16) fun S17 v18 =>
    (wRI S17 28 v18 v10).bind fun S19 =>
    (pM S19 48 ((Zi S19 48) - 1)).bind fun S20 =>
    f_giveChain_140 K V ((f_giveChain_17 K V n9)) S20 x1 x2 x3)))
def f_giveChain (K : Ky) (V : Sg → Option Nat → Option (Sg × Unit)) (S0 : Sg) (x1 : Option Nat) : Option (Sg × Unit) :=
  (oR S0 15 x1 8).bind fun v1 =>
  bnd (V S0 v1) fun S2 v3 =>
  (oI S2 15 x1 11).bind fun v4 =>
  bnd (nA K S2 v4) fun S5 a6 =>
  f_giveChain_17 K V bigN S5 x1 (some a6) 0
def f_give_251 (K : Ky) (V : Sg → Option Nat → Option (Sg × Unit)) (S : Sg) : Option (Sg × Unit) :=
  some (S, ())
def f_give_96 (K : Ky) (V : Sg → Option Nat → Option (Sg × Unit)) (S : Sg) (x1 : Option Nat) : Option (Sg × Unit) :=
  (oI S 15 x1 1).bind fun v35 =>
  bnd (f_point K S 1 v35) fun S36 v37 =>
  (oJ S36 15 x1 6).bind fun v38 =>
  (wJ S36 31 v37 v38).bind fun S39 =>
  (pM S39 48 ((Zi S39 48) + 1)).bind fun S40 =>
  f_give_251 K V S40
def f_give_151 (K : Ky) (V : Sg → Option Nat → Option (Sg × Unit)) (S : Sg) (x1 : Option Nat) : Option (Sg × Unit) :=
  (oR S 15 x1 8).bind fun v30 =>
  bnd (V S v30) fun S31 v32 =>
  f_give_251 K V S31
def f_give_186 (K : Ky) (V : Sg → Option Nat → Option (Sg × Unit)) (S : Sg) (x1 : Option Nat) (y0 : Int32) : Option (Sg × Unit) :=
  (oI S 15 x1 1).bind fun v27 =>
  bnd (f_point K S y0 v27) fun S28 v29 =>
  f_give_251 K V S28
def f_give_162 (K : Ky) (V : Sg → Option Nat → Option (Sg × Unit)) (S : Sg) (x1 : Option Nat) : Option (Sg × Unit) :=
  (oR S 15 x1 8).bind fun v23 =>
  bnd (V S v23) fun S24 v25 =>
  (oI S24 15 x1 0).bind fun v26 =>
  if v26 = 9 then (f_give_186 K V S24 x1 5) else (f_give_186 K V S24 x1 6)
def f_give_246 (K : Ky) (V : Sg → Option Nat → Option (Sg × Unit)) (S : Sg) (x1 : Option Nat) : Option (Sg × Unit) :=
  bnd (f_giveList K V S x1) fun S33 v34 =>
  f_give_251 K V S33
def f_give (K : Ky) : Nat → Sg → Option Nat → Option (Sg × Unit)
  | 0, _, _ => none
  | d + 1, S0, x1 =>
    bnd (f_isPlace K S0 x1) fun S1 v2 =>
    if v2 = 0 then ((oI S1 15 x1 0).bind fun v3 =>
    if v3 = 0 then (f_give_96 K (f_give K d) S1 x1) else (if v3 = 1 then (f_give_96 K (f_give K d) S1 x1) else (if v3 = 2 then (f_give_246 K (f_give K d) S1 x1) else (if v3 = 3 then (f_give_246 K (f_give K d) S1 x1) else (if v3 = 4 then (f_give_151 K (f_give K d) S1 x1) else (if v3 = 5 then (f_give_246 K (f_give K d) S1 x1) else (if v3 = 6 then (f_give_246 K (f_give K d) S1 x1) else (if v3 = 7 then (f_give_151 K (f_give K d) S1 x1) else (if v3 = 8 then (bnd (f_giveChain K (f_give K d) S1 x1) fun S4 v5 =>
    f_give_251 K (f_give K d) S4) else (if v3 = 9 then (f_give_162 K (f_give K d) S1 x1) else (if v3 = 10 then (f_give_162 K (f_give K d) S1 x1) else (if v3 = 11 then (f_give_246 K (f_give K d) S1 x1) else (if v3 = 12 then (bnd (f_lend K S1 x1) fun S6 v7 =>
    f_give_251 K (f_give K d) S6) else (if v3 = 13 then ((oR S1 15 x1 8).bind fun v8 =>
    bnd ((f_give K d) S1 v8) fun S9 v10 =>
    (oI S9 15 x1 1).bind fun v11 =>
    bnd (f_point K S9 7 v11) fun S12 v13 =>
    (oR S12 15 x1 8).bind fun v14 =>
    (oR S12 15 v14 12).bind fun v15 =>
    (wQ S12 20 39 v13 v15).bind fun S16 =>
    f_give_251 K (f_give K d) S16) else (if v3 = 14 then (f_give_246 K (f_give K d) S1 x1) else (if v3 = 15 then ((oI S1 15 x1 1).bind fun v17 =>
    bnd (f_point K S1 27 v17) fun S18 v19 =>
    (pM S18 48 ((Zi S18 48) + 1)).bind fun S20 =>
    f_give_251 K (f_give K d) S20) else (f_give_246 K (f_give K d) S1 x1))))))))))))))))) else (bnd (f_read K S1 x1) fun S21 v22 =>
    some (S21, ()))
def f_comesAlive (K : Ky) (S0 : Sg) (x1 : Option Nat) : Option (Sg × Unit) :=
  (wQ S0 21 49 (Zi S0 50) x1).bind fun S1 =>
  (pM S1 50 ((Zi S1 50) + 1)).bind fun S2 =>
  some (S2, ())
def f_goOut_7 (K : Ky) : Nat → Sg → Int32 → Int32 → Int32 → Option (Sg × Unit)
  | 0, _, _, _, _ => none
  | n9 + 1, S, x1, x2, x3 =>
    if x3 < x1 then (some (S, ())) else (bnd (f_point K S 24 x2) fun S1 v2 =>
    (rQ S1 49 x3).bind fun v3 =>
    (wQ S1 21 40 v2 v3).bind fun S4 =>
    (wRI S4 33 v2 7).bind fun S5 =>
    (rQ S5 49 x3).bind fun v6 =>
    (oI S5 21 v6 0).bind fun v7 =>
    (wRI S5 34 v2 v7).bind fun S8 =>
    (rQ S8 49 x3).bind fun v9 =>
    bnd (f_wholeOf K S8 v9) fun S10 v11 =>
    (wQ S10 18 38 v2 v11).bind fun S12 =>
    f_goOut_7 K n9 S12 x1 x2 (x3 + (-1)))
def f_goOut (K : Ky) (S0 : Sg) (x1 : Int32) (x2 : Int32) : Option (Sg × Unit) :=
  f_goOut_7 K bigN S0 x1 x2 ((Zi S0 50) - 1)
end
