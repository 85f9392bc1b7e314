def f_wrong (K : Ky) (S0 : Sg) (x1 : Option Nat) (x2 : Int32) (x3 : Int32) : Option (Sg × Option Nat) :=
  bnd (f_fail K S0 x2 x3) fun S1 v2 =>
  bnd (f_plainType K S1 0) fun S3 v4 =>
  bnd (f_told K S3 x1 v4) fun S5 v6 =>
  some (S5, v6)
def f_member_32 (K : Ky) : Nat → Sg → Option Nat → Option Nat → Int32 → Option (Sg × Option Nat)
  | 0, _, _, _, _ => none
  | n9 + 1, S, x1, x3, x4 =>
    (oI S 16 x3 3).bind fun v7 =>
    if v7 ≤ x4 then ((oI S 15 x1 3).bind fun v8 =>
    bnd (f_wrong K S x1 3 v8) fun S9 v10 =>
    some (S9, v10)) else ((oR S 16 x3 8).bind fun v11 =>
    (aI K S v11 x4).bind fun v12 =>
    (oI S 15 x1 3).bind fun v13 =>
    bnd (f_sameName K S v12 v13) fun S14 v15 =>
    if v15 = 0 then (f_member_32 K n9 S14 x1 x3 (x4 + 1)) else ((pV S14 15 x1 4 (.int x4)).bind fun S16 =>
    (oR S16 16 x3 10).bind fun v17 =>
    (aQ K 4 S16 v17 x4).bind fun v18 =>
    bnd (f_told K S16 x1 v18) fun S19 v20 =>
    some (S19, v20)))
def f_member (K : Ky) (S0 : Sg) (x1 : Option Nat) (x2 : Option Nat) : Option (Sg × Option Nat) :=
  (oI S0 20 x2 0).bind fun v1 =>
  if v1 = 3 then ((oI S0 20 x2 1).bind fun v2 =>
  (rQ S0 11 v2).bind fun v3 =>
  f_member_32 K bigN S0 x1 v3 0) else ((oI S0 15 x1 3).bind fun v4 =>
  bnd (f_wrong K S0 x1 4 v4) fun S5 v6 =>
  some (S5, v6))
def f_place_94 (K : Ky) (V : Sg → Option Nat → Option (Sg × Option Nat)) (k56 : Sg → Option Nat → Int32 → Option (Sg × Option Nat)) (S : Sg) (x1 : Option Nat) (x2 : Int32) : Option (Sg × Option Nat) :=
  k56 S x1 (x2 + 1)
def f_place_153 (K : Ky) (V : Sg → Option Nat → Option (Sg × Option Nat)) (S : Sg) (y0 : Option Nat) : Option (Sg × Option Nat) :=
  some (S, y0)
def f_place_56 (K : Ky) (V : Sg → Option Nat → Option (Sg × Option Nat)) : Nat → Sg → Option Nat → Int32 → Option (Sg × Option Nat)
  | 0, _, _, _ => none
  | n9 + 1, S, x1, x2 =>
    if (Zi S 23) ≤ x2 then ((oR S 15 x1 13).bind fun v25 =>
    if v25 = none then ((oI S 15 x1 1).bind fun v35 =>
    bnd (f_wrong K S x1 3 v35) fun S36 v37 =>
    some (S36, v37)) else ((oR S 15 x1 13).bind fun v26 =>
    (oR S 21 v26 2).bind fun v27 =>
    if v27 = none then ((oI S 15 x1 1).bind fun v32 =>
    bnd (f_wrong K S x1 4 v32) fun S33 v34 =>
    f_place_153 K V S33 v34) else ((oR S 15 x1 13).bind fun v28 =>
    (oR S 21 v28 2).bind fun v29 =>
    bnd (f_told K S x1 v29) fun S30 v31 =>
    f_place_153 K V S30 v31))) else ((rQ S 22 x2).bind fun v38 =>
    (oI S 21 v38 1).bind fun v39 =>
    (oI S 15 x1 3).bind fun v40 =>
    bnd (f_sameName K S v39 v40) fun S41 v42 =>
    if v42 = 0 then (f_place_94 K V ((f_place_56 K V n9)) S41 x1 x2) else ((rQ S41 22 x2).bind fun v43 =>
    (pV S41 15 x1 13 (va_rf v43)).bind fun S44 =>
    f_place_94 K V ((f_place_56 K V n9)) S44 x1 x2))
def f_place_279 (K : Ky) (V : Sg → Option Nat → Option (Sg × Option Nat)) (S : Sg) (y0 : Option Nat) : Option (Sg × Option Nat) :=
  some (S, y0)
def f_place_277 (K : Ky) (V : Sg → Option Nat → Option (Sg × Option Nat)) (S : Sg) (x4 : Option Nat) : Option (Sg × Option Nat) :=
  f_place_279 K V S x4
def f_place_250 (K : Ky) (V : Sg → Option Nat → Option (Sg × Option Nat)) (S : Sg) (x1 : Option Nat) (x3 : Int32) (y0 : Option Nat) : Option (Sg × Option Nat) :=
  bnd (f_ok K S) fun S53 v54 =>
  if v54 = 0 then (f_place_277 K V S53 y0) else (bnd (f_depth K S53 x1) fun S55 v56 =>
  if v56 ≤ 4 then (f_place_277 K V S55 y0) else (bnd (f_wrong K S55 x1 4 x3) fun S57 v58 =>
  f_place_279 K V S57 v58))
def f_place_231 (K : Ky) (V : Sg → Option Nat → Option (Sg × Option Nat)) (S : Sg) (x1 : Option Nat) (x2 : Option Nat) (x3 : Int32) : Option (Sg × Option Nat) :=
  (oR S 20 x2 3).bind fun v59 =>
  bnd (f_told K S x1 v59) fun S60 v61 =>
  f_place_250 K V S60 x1 x3 v61
def f_place_197 (K : Ky) (V : Sg → Option Nat → Option (Sg × Option Nat)) (S : Sg) (x1 : Option Nat) (x2 : Option Nat) (y0 : Int32) : Option (Sg × Option Nat) :=
  (oI S 15 x1 0).bind fun v45 =>
  if v45 = 11 then ((oI S 20 x2 0).bind fun v46 =>
  if v46 = 5 then (f_place_231 K V S x1 x2 y0) else (bnd (f_refers K S x2) fun S47 v48 =>
  if v48 = 0 then (bnd (f_wrong K S47 x1 4 y0) fun S49 v50 =>
  f_place_250 K V S49 x1 y0 v50) else (f_place_231 K V S47 x1 x2 y0))) else (bnd (f_member K S x1 x2) fun S51 v52 =>
  f_place_250 K V S51 x1 y0 v52)
def f_place (K : Ky) : Nat → Sg → Option Nat → Option (Sg × Option Nat)
  | 0, _, _ => none
  | d + 1, S0, x1 =>
    bnd (f_ok K S0) fun S1 v2 =>
    if v2 = 0 then (bnd (f_plainType K S1 0) fun S21 v22 =>
    bnd (f_told K S21 x1 v22) fun S23 v24 =>
    some (S23, v24)) else ((oI S1 15 x1 0).bind fun v3 =>
    if v3 = 7 then ((oR S1 15 x1 8).bind fun v16 =>
    bnd ((f_place K d) S1 v16) fun S17 v18 =>
    bnd (f_told K S17 x1 v18) fun S19 v20 =>
    some (S19, v20)) else ((oI S1 15 x1 0).bind fun v4 =>
    if v4 = 2 then ((pV S1 15 x1 13 (va_rf none)).bind fun S15 =>
    f_place_56 K (f_place K d) bigN S15 x1 0) else ((oR S1 15 x1 8).bind fun v5 =>
    bnd ((f_place K d) S1 v5) fun S6 v7 =>
    bnd (f_ok K S6) fun S8 v9 =>
    if v9 = 0 then (bnd (f_told K S8 x1 v7) fun S13 v14 =>
    some (S13, v14)) else ((oI S8 15 x1 0).bind fun v10 =>
    if v10 = 11 then ((oI S8 15 x1 1).bind fun v12 =>
    f_place_197 K (f_place K d) S8 x1 v7 v12) else ((oI S8 15 x1 3).bind fun v11 =>
    f_place_197 K (f_place K d) S8 x1 v7 v11)))))
def f_isPart_38 (K : Ky) (S : Sg) (y0 : Int32) : Option (Sg × Int32) :=
  (zB y0).bind fun _ => some (S, y0)
def f_isPart_5 (K : Ky) : Nat → Sg → Option Nat → Option (Sg × Int32)
  | 0, _, _ => none
  | n9 + 1, S, x1 =>
    (oI S 15 x1 0).bind fun v3 =>
    if v3 = 14 then ((oR S 15 x1 8).bind fun v5 =>
    bnd (f_bare K S v5) fun S6 v7 =>
    f_isPart_5 K n9 S6 v7) else ((oI S 15 x1 0).bind fun v4 =>
    if v4 = 2 then (f_isPart_38 K S 1) else (f_isPart_38 K S 0))
def f_isPart (K : Ky) (S0 : Sg) (x0 : Option Nat) : Option (Sg × Int32) :=
  bnd (f_bare K S0 x0) fun S1 v2 =>
  f_isPart_5 K bigN S1 v2
def f_movable_50 (K : Ky) (S : Sg) (y0 : Int32) : Option (Sg × Int32) :=
  (zB y0).bind fun _ => some (S, y0)
def f_movable_45 (K : Ky) (S : Sg) : Option (Sg × Int32) :=
  f_movable_50 K S 1
def f_movable_49 (K : Ky) (S : Sg) : Option (Sg × Int32) :=
  f_movable_50 K S 0
def f_movable (K : Ky) (S0 : Sg) (x0 : Option Nat) : Option (Sg × Int32) :=
  bnd (f_bare K S0 x0) fun S1 v2 =>
  bnd (f_isPart K S1 v2) fun S3 v4 =>
  if v4 = 0 then ((oI S3 15 v2 0).bind fun v5 =>
  if v5 = 11 then ((oR S3 15 v2 8).bind fun v6 =>
  (oR S3 15 v6 12).bind fun v7 =>
  (oI S3 20 v7 0).bind fun v8 =>
  if v8 = 5 then ((oR S3 15 v2 8).bind fun v9 =>
  bnd (f_isPart K S3 v9) fun S10 v11 =>
  if v11 = 0 then (f_movable_49 K S10) else (f_movable_45 K S10)) else (f_movable_49 K S3)) else (f_movable_49 K S3)) else (f_movable_45 K S3)
def f_mutable_77 (K : Ky) (V : Sg → Option Nat → Option (Sg × Int32)) (S : Sg) (y0 : Int32) : Option (Sg × Int32) :=
  (zB y0).bind fun _ => some (S, y0)
def f_mutable_72 (K : Ky) (V : Sg → Option Nat → Option (Sg × Int32)) (S : Sg) : Option (Sg × Int32) :=
  f_mutable_77 K V S 1
def f_mutable_76 (K : Ky) (V : Sg → Option Nat → Option (Sg × Int32)) (S : Sg) : Option (Sg × Int32) :=
  f_mutable_77 K V S 0
def f_mutable (K : Ky) : Nat → Sg → Option Nat → Option (Sg × Int32)
  | 0, _, _ => none
  | d + 1, S0, x1 =>
    bnd (f_bare K S0 x1) fun S1 v2 =>
    (oI S1 15 v2 0).bind fun v3 =>
    if v3 = 2 then ((oR S1 15 v2 13).bind fun v14 =>
    (oI S1 21 v14 3).bind fun v15 =>
    (zB v15).bind fun _ => some (S1, v15)) else ((oI S1 15 v2 0).bind fun v4 =>
    if v4 = 14 then ((oR S1 15 v2 8).bind fun v11 =>
    bnd ((f_mutable K d) S1 v11) fun S12 v13 =>
    (zB v13).bind fun _ => some (S12, v13)) else ((oR S1 15 v2 8).bind fun v5 =>
    (oR S1 15 v5 12).bind fun v6 =>
    (oI S1 20 v6 0).bind fun v7 =>
    if v7 = 7 then (f_mutable_72 K (f_mutable K d) S1) else (if v7 = 5 then ((oR S1 15 v2 8).bind fun v8 =>
    bnd ((f_mutable K d) S1 v8) fun S9 v10 =>
    if v10 = 0 then (f_mutable_76 K (f_mutable K d) S9) else (f_mutable_72 K (f_mutable K d) S9)) else (f_mutable_76 K (f_mutable K d) S1))))
def f_fieldOf_2 (K : Ky) : Nat → Sg → Option Nat → Int32 → Int32 → Option (Sg × Int32)
  | 0, _, _, _, _ => none
  | n9 + 1, S, x1, x2, x3 =>
    (oI S 16 x1 3).bind fun v1 =>
    if v1 ≤ x3 then (some (S, (-1))) else ((oR S 16 x1 8).bind fun v2 =>
    (aI K S v2 x3).bind fun v3 =>
    bnd (f_sameName K S v3 x2) fun S4 v5 =>
    if v5 = 0 then (f_fieldOf_2 K n9 S4 x1 x2 (x3 + 1)) else (some (S4, x3)))
def f_fieldOf (K : Ky) (S0 : Sg) (x1 : Option Nat) (x2 : Int32) : Option (Sg × Int32) :=
  f_fieldOf_2 K bigN S0 x1 x2 0
def f_refer_116 (K : Ky) (V : Sg → Option Nat → Option (Sg × Option Nat)) (S : Sg) (x2 : Option Nat) (y0 : Int32) (y2 : Option Nat) : Option (Sg × Option Nat) :=
  bnd (f_type K S y0 0 x2) fun S31 v32 =>
  bnd (f_told K S31 y2 v32) fun S33 v34 =>
  some (S33, v34)
def f_refer_99 (K : Ky) (V : Sg → Option Nat → Option (Sg × Option Nat)) (S : Sg) (x1 : Option Nat) (x2 : Option Nat) : Option (Sg × Option Nat) :=
  (oI S 15 x1 7).bind fun v30 =>
  if v30 = 0 then (f_refer_116 K V S x2 6 x1) else (f_refer_116 K V S x2 7 x1)
def f_refer_62 (K : Ky) (V : Sg → Option Nat → Option (Sg × Option Nat)) (S : Sg) (x1 : Option Nat) (x2 : Option Nat) : Option (Sg × Option Nat) :=
  bnd (f_ok K S) fun S20 v21 =>
  if v21 = 0 then (f_refer_99 K V S20 x1 x2) else ((oI S20 15 x1 7).bind fun v22 =>
  if v22 = 0 then (f_refer_99 K V S20 x1 x2) else ((oR S20 15 x1 8).bind fun v23 =>
  bnd (f_mutable K 410 S20 v23) fun S24 v25 =>
  if v25 = 0 then ((oR S24 15 x1 8).bind fun v26 =>
  (oI S24 15 v26 1).bind fun v27 =>
  bnd (f_fail K S24 4 v27) fun S28 v29 =>
  f_refer_99 K V S28 x1 x2) else (f_refer_99 K V S24 x1 x2)))
def f_refer (K : Ky) (V : Sg → Option Nat → Option (Sg × Option Nat)) (S0 : Sg) (x1 : Option Nat) : Option (Sg × Option Nat) :=
  (oR S0 15 x1 8).bind fun v1 =>
  bnd (f_isPlace K S0 v1) fun S2 v3 =>
  if v3 = 0 then ((oR S2 15 x1 8).bind fun v14 =>
  bnd (V S2 v14) fun S15 v16 =>
  (oI S15 15 x1 1).bind fun v17 =>
  bnd (f_wrong K S15 x1 4 v17) fun S18 v19 =>
  some (S18, v19)) else ((oR S2 15 x1 8).bind fun v4 =>
  bnd (f_place K 410 S2 v4) fun S5 v6 =>
  bnd (f_ok K S5) fun S7 v8 =>
  if v8 = 0 then (f_refer_62 K V S7 x1 v6) else (bnd (f_refers K S7 v6) fun S9 v10 =>
  if v10 = 0 then (f_refer_62 K V S9 x1 v6) else ((oI S9 15 x1 1).bind fun v11 =>
  bnd (f_fail K S9 4 v11) fun S12 v13 =>
  f_refer_62 K V S12 x1 v6)))
def f_operand_35 (K : Ky) (V : Sg → Option Nat → Option (Sg × Option Nat)) (S : Sg) (x1 : Option Nat) (x3 : Int32) : Option (Sg × Option Nat) :=
  bnd (f_plainType K S x3) fun S10 v11 =>
  bnd (f_told K S10 x1 v11) fun S12 v13 =>
  some (S12, v13)
def f_operand (K : Ky) (V : Sg → Option Nat → Option (Sg × Option Nat)) (S0 : Sg) (x1 : Option Nat) (x2 : Int32) (x3 : Int32) : Option (Sg × Option Nat) :=
  (oR S0 15 x1 8).bind fun v1 =>
  bnd (V S0 v1) fun S2 v3 =>
  bnd (f_ok K S2) fun S4 v5 =>
  if v5 = 0 then (f_operand_35 K V S4 x1 x3) else ((oI S4 20 v3 0).bind fun v6 =>
  if v6 = x2 then (f_operand_35 K V S4 x1 x3) else ((oI S4 15 x1 1).bind fun v7 =>
  bnd (f_fail K S4 4 v7) fun S8 v9 =>
  f_operand_35 K V S8 x1 x3))
def f_chained_186 (K : Ky) (V : Sg → Option Nat → Option (Sg × Option Nat)) (k11 : Sg → Option Nat → Option Nat → Int32 → Option (Sg × Option Nat)) (S : Sg) (x1 : Option Nat) (x3 : Int32) (y0 : Int32) : Option (Sg × Option Nat) :=
  bnd (f_plainType K S y0) fun S26 v27 =>
  k11 S26 x1 v27 (x3 + 1)
def f_chained_174 (K : Ky) (V : Sg → Option Nat → Option (Sg × Option Nat)) (k11 : Sg → Option Nat → Option Nat → Int32 → Option (Sg × Option Nat)) (S : Sg) (x1 : Option Nat) (x3 : Int32) (x6 : Int32) : Option (Sg × Option Nat) :=
  if x6 ≤ 3 then (f_chained_186 K V k11 S x1 x3 1) else (f_chained_186 K V k11 S x1 x3 0)
def f_chained_149 (K : Ky) (V : Sg → Option Nat → Option (Sg × Option Nat)) (k11 : Sg → Option Nat → Option Nat → Int32 → Option (Sg × Option Nat)) (S : Sg) (x1 : Option Nat) (x3 : Int32) (x6 : Int32) (y0 : Int32) : Option (Sg × Option Nat) :=
  bnd (f_ok K S) fun S20 v21 =>
  if v21 = 0 then (f_chained_174 K V k11 S20 x1 x3 x6) else (if y0 = 0 then ((oR S20 15 x1 10).bind fun v22 =>
  (aI K S20 v22 x3).bind fun v23 =>
  bnd (f_fail K S20 4 v23) fun S24 v25 =>
  f_chained_174 K V k11 S24 x1 x3 x6) else (f_chained_174 K V k11 S20 x1 x3 x6))
def f_chained_139 (K : Ky) (V : Sg → Option Nat → Option (Sg × Option Nat)) (k11 : Sg → Option Nat → Option Nat → Int32 → Option (Sg × Option Nat)) (S : Sg) (x1 : Option Nat) (x3 : Int32) (x6 : Int32) : Option (Sg × Option Nat) :=
  f_chained_149 K V k11 S x1 x3 x6 1
def f_chained_129 (K : Ky) (V : Sg → Option Nat → Option (Sg × Option Nat)) (k11 : Sg → Option Nat → Option Nat → Int32 → Option (Sg × Option Nat)) (S : Sg) (x1 : Option Nat) (x3 : Int32) (x6 : Int32) (x7 : Int32) (x8 : Int32) : Option (Sg × Option Nat) :=
  if x7 = 0 then (if x8 = 0 then (f_chained_149 K V k11 S x1 x3 x6 0) else (f_chained_139 K V k11 S x1 x3 x6)) else (f_chained_139 K V k11 S x1 x3 x6)
def f_chained_102 (K : Ky) (V : Sg → Option Nat → Option (Sg × Option Nat)) (k11 : Sg → Option Nat → Option Nat → Int32 → Option (Sg × Option Nat)) (S : Sg) (x1 : Option Nat) (x3 : Int32) (x5 : Int32) (x6 : Int32) (x7 : Int32) (y0 : Int32) : Option (Sg × Option Nat) :=
  if 3 ≤ x6 then (if x5 = 45 then (f_chained_129 K V k11 S x1 x3 x6 x7 y0) else (if x5 = 46 then (f_chained_129 K V k11 S x1 x3 x6 x7 y0) else (f_chained_149 K V k11 S x1 x3 x6 x7))) else (f_chained_149 K V k11 S x1 x3 x6 y0)
def f_chained_101 (K : Ky) (V : Sg → Option Nat → Option (Sg × Option Nat)) (k11 : Sg → Option Nat → Option Nat → Int32 → Option (Sg × Option Nat)) (S : Sg) (x1 : Option Nat) (x3 : Int32) (x5 : Int32) (x6 : Int32) (x7 : Int32) : Option (Sg × Option Nat) :=
  f_chained_102 K V k11 S x1 x3 x5 x6 x7 0
def f_chained_78 (K : Ky) (V : Sg → Option Nat → Option (Sg × Option Nat)) (k11 : Sg → Option Nat → Option Nat → Int32 → Option (Sg × Option Nat)) (S : Sg) (x1 : Option Nat) (x2 : Option Nat) (x3 : Int32) (x4 : Option Nat) (x5 : Int32) (x6 : Int32) (y0 : Int32) : Option (Sg × Option Nat) :=
  (oI S 20 x2 0).bind fun v18 =>
  if v18 = 1 then ((oI S 20 x4 0).bind fun v19 =>
  if v19 = 1 then (f_chained_102 K V k11 S x1 x3 x5 x6 y0 1) else (f_chained_101 K V k11 S x1 x3 x5 x6 y0)) else (f_chained_101 K V k11 S x1 x3 x5 x6 y0)
def f_chained_77 (K : Ky) (V : Sg → Option Nat → Option (Sg × Option Nat)) (k11 : Sg → Option Nat → Option Nat → Int32 → Option (Sg × Option Nat)) (S : Sg) (x1 : Option Nat) (x2 : Option Nat) (x3 : Int32) (x4 : Option Nat) (x5 : Int32) (x6 : Int32) : Option (Sg × Option Nat) :=
  f_chained_78 K V k11 S x1 x2 x3 x4 x5 x6 0
def f_chained_196 (K : Ky) (V : Sg → Option Nat → Option (Sg × Option Nat)) (S : Sg) (x1 : Option Nat) (x2 : Option Nat) : Option (Sg × Option Nat) :=
  bnd (f_told K S x1 x2) fun S28 v29 =>
  some (S28, v29)
def f_chained_11 (K : Ky) (V : Sg → Option Nat → Option (Sg × Option Nat)) : Nat → Sg → Option Nat → Option Nat → Int32 → Option (Sg × Option Nat)
  | 0, _, _, _, _ => none
  | n9 + 1, S, x1, x2, x3 =>
    (oI S 15 x1 11).bind fun v4 =>
    if v4 ≤ x3 then (f_chained_196 K V S x1 x2) else (bnd (f_ok K S) fun S5 v6 =>
    if v6 = 0 then (f_chained_196 K V S5 x1 x2) else ((oR S5 15 x1 9).bind fun v7 =>
    (aQ K 9 S5 v7 x3).bind fun v8 =>
    bnd (V S5 v8) fun S9 v10 =>
    (oR S9 15 x1 10).bind fun v11 =>
    (aI K S9 v11 x3).bind fun v12 =>
    (rI S9 5 v12).bind fun v13 =>
    bnd (f_levelOf K S9 v13) fun S14 v15 =>
    (oI S14 20 x2 0).bind fun v16 =>
    if v16 = 0 then ((oI S14 20 v10 0).bind fun v17 =>
    if v17 = 0 then (f_chained_78 K V ((f_chained_11 K V n9)) S14 x1 x2 x3 v10 v13 v15 1) else (f_chained_77 K V ((f_chained_11 K V n9)) S14 x1 x2 x3 v10 v13 v15)) else (f_chained_77 K V ((f_chained_11 K V n9)) S14 x1 x2 x3 v10 v13 v15)))
def f_chained (K : Ky) (V : Sg → Option Nat → Option (Sg × Option Nat)) (S0 : Sg) (x1 : Option Nat) : Option (Sg × Option Nat) :=
  (oR S0 15 x1 8).bind fun v1 =>
  bnd (V S0 v1) fun S2 v3 =>
  f_chained_11 K V bigN S2 x1 v3 0
def f_fits_27 (K : Ky) (V : Sg → Option Nat → Option (Sg × Option Nat)) (S : Sg) : Option (Sg × Unit) :=
  some (S, ())
def f_fits (K : Ky) (V : Sg → Option Nat → Option (Sg × Option Nat)) (S0 : Sg) (x1 : Option Nat) (x2 : Option Nat) : Option (Sg × Unit) :=
  bnd (V S0 x1) fun S1 v2 =>
  bnd (f_ok K S1) fun S3 v4 =>
  if v4 = 0 then (f_fits_27 K V S3) else (if v2 = x2 then (f_fits_27 K V S3) else ((oI S3 15 x1 1).bind fun v5 =>
  bnd (f_fail K S3 4 v5) fun S6 v7 =>
  f_fits_27 K V S6))
def f_variantOf_27 (K : Ky) (V : Sg → Option Nat → Option (Sg × Option Nat)) (S : Sg) (x1 : Option Nat) : Option (Sg × Option Nat) :=
  (oI S 15 x1 3).bind fun v36 =>
  bnd (f_wrong K S x1 3 v36) fun S37 v38 =>
  some (S37, v38)
def f_variantOf_158 (K : Ky) (V : Sg → Option Nat → Option (Sg × Option Nat)) (S : Sg) (x1 : Option Nat) (x2 : Int32) : Option (Sg × Option Nat) :=
  bnd (f_type K S 4 x2 none) fun S32 v33 =>
  bnd (f_told K S32 x1 v33) fun S34 v35 =>
  some (S34, v35)
def f_variantOf_117 (K : Ky) (V : Sg → Option Nat → Option (Sg × Option Nat)) : Nat → Sg → Option Nat → Int32 → Option Nat → Int32 → Option (Sg × Option Nat)
  | 0, _, _, _, _, _ => none
  | n9 + 1, S, x1, x2, x4, x5 =>
    (oI S 15 x1 11).bind fun v23 =>
    if v23 ≤ x5 then (f_variantOf_158 K V S x1 x2) else (bnd (f_ok K S) fun S24 v25 =>
    if v25 = 0 then (f_variantOf_158 K V S24 x1 x2) else ((oR S24 15 x1 9).bind fun v26 =>
    (aQ K 9 S24 v26 x5).bind fun v27 =>
    (oR S24 17 x4 2).bind fun v28 =>
    (aQ K 4 S24 v28 x5).bind fun v29 =>
    bnd (f_fits K V S24 v27 v29) fun S30 v31 =>
    f_variantOf_117 K V n9 S30 x1 x2 x4 (x5 + 1)))
def f_variantOf (K : Ky) (V : Sg → Option Nat → Option (Sg × Option Nat)) (S0 : Sg) (x1 : Option Nat) : Option (Sg × Option Nat) :=
  (oI S0 15 x1 3).bind fun v1 =>
  bnd (f_itemNamed K S0 v1) fun S2 v3 =>
  if v3 < 0 then (f_variantOf_27 K V S2 x1) else ((rQ S2 11 v3).bind fun v4 =>
  (oI S2 16 v4 2).bind fun v5 =>
  if v5 = 11 then ((rQ S2 11 v3).bind fun v6 =>
  (oI S2 15 x1 2).bind fun v7 =>
  bnd (f_fieldOf K S2 v6 v7) fun S8 v9 =>
  if 0 ≤ v9 then ((rQ S8 11 v3).bind fun v10 =>
  (oR S8 16 v10 11).bind fun v11 =>
  (aQ K 13 S8 v11 v9).bind fun v12 =>
  (oI S8 17 v12 0).bind fun v13 =>
  (oI S8 15 x1 11).bind fun v14 =>
  if v13 = v14 then ((pV S8 15 x1 4 (.int v3)).bind fun S15 =>
  (pV S15 15 x1 5 (.int v9)).bind fun S16 =>
  f_variantOf_117 K V bigN S16 x1 v3 v12 0) else ((oI S8 15 x1 1).bind fun v17 =>
  bnd (f_wrong K S8 x1 4 v17) fun S18 v19 =>
  some (S18, v19))) else ((oI S8 15 x1 2).bind fun v20 =>
  bnd (f_wrong K S8 x1 3 v20) fun S21 v22 =>
  some (S21, v22))) else (f_variantOf_27 K V S2 x1))
