def f_made_27 (K : Ky) (V : Sg → Option Nat → Option (Sg × Option Nat)) (S : Sg) (x1 : Option Nat) : Option (Sg × Option Nat) :=
  (oI S 15 x1 3).bind fun v42 =>
  bnd (f_wrong K S x1 3 v42) fun S43 v44 =>
  some (S43, v44)
def f_made_120 (K : Ky) (V : Sg → Option Nat → Option (Sg × Option Nat)) (k53 : Sg → Option Nat → Int32 → Option Nat → Int32 → Option (Sg × Option Nat)) (k89 : Sg → Option Nat → Int32 → Option Nat → Int32 → Int32 → Int32 → Int32 → Option (Sg × Option Nat)) (S : Sg) (x1 : Option Nat) (x2 : Int32) (x3 : Option Nat) (x4 : Int32) (x5 : Int32) (x6 : Int32) (x7 : Int32) : Option (Sg × Option Nat) :=
  k89 S x1 x2 x3 x4 x5 x6 (x7 + 1)
def f_made_169 (K : Ky) (V : Sg → Option Nat → Option (Sg × Option Nat)) (k53 : Sg → Option Nat → Int32 → Option Nat → Int32 → Option (Sg × Option Nat)) (S : Sg) (x1 : Option Nat) (x2 : Int32) (x3 : Option Nat) (x4 : Int32) : Option (Sg × Option Nat) :=
  k53 S x1 x2 x3 (x4 + 1)
def f_made_136 (K : Ky) (V : Sg → Option Nat → Option (Sg × Option Nat)) (k53 : Sg → Option Nat → Int32 → Option Nat → Int32 → Option (Sg × Option Nat)) (S : Sg) (x1 : Option Nat) (x2 : Int32) (x3 : Option Nat) (x4 : Int32) : Option (Sg × Option Nat) :=
  (oR S 15 x1 10).bind fun v27 =>
  (aI K S v27 x4).bind fun v28 =>
  bnd (f_fail K S 3 v28) fun S29 v30 =>
  f_made_169 K V k53 S29 x1 x2 x3 x4
def f_made_89 (K : Ky) (V : Sg → Option Nat → Option (Sg × Option Nat)) (k53 : Sg → Option Nat → Int32 → Option Nat → Int32 → Option (Sg × Option Nat)) : Nat → Sg → Option Nat → Int32 → Option Nat → Int32 → Int32 → Int32 → Int32 → Option (Sg × Option Nat)
  | 0, _, _, _, _, _, _, _, _ => none
  | n9 + 1, S, x1, x2, x3, x4, x5, x6, x7 =>
    if x4 ≤ x7 then (if x5 < 0 then (f_made_136 K V k53 S x1 x2 x3 x4) else (if x6 = 0 then ((oR S 15 x1 9).bind fun v15 =>
    (aQ K 9 S v15 x4).bind fun v16 =>
    (oR S 16 x3 10).bind fun v17 =>
    (aQ K 4 S v17 x5).bind fun v18 =>
    bnd (f_fits K V S v16 v18) fun S19 v20 =>
    f_made_169 K V k53 S19 x1 x2 x3 x4) else (f_made_136 K V k53 S x1 x2 x3 x4))) else ((oR S 15 x1 10).bind fun v21 =>
    (aI K S v21 x7).bind fun v22 =>
    (oR S 15 x1 10).bind fun v23 =>
    (aI K S v23 x4).bind fun v24 =>
    bnd (f_sameName K S v22 v24) fun S25 v26 =>
    if v26 = 0 then (f_made_120 K V k53 ((f_made_89 K V k53 n9)) S25 x1 x2 x3 x4 x5 x6 x7) else (f_made_120 K V k53 ((f_made_89 K V k53 n9)) S25 x1 x2 x3 x4 x5 1 x7))
def f_made_202 (K : Ky) (V : Sg → Option Nat → Option (Sg × Option Nat)) (S : Sg) (x1 : Option Nat) (x2 : Int32) : Option (Sg × Option Nat) :=
  bnd (f_type K S 3 x2 none) fun S38 v39 =>
  bnd (f_told K S38 x1 v39) fun S40 v41 =>
  some (S40, v41)
def f_made_175 (K : Ky) (V : Sg → Option Nat → Option (Sg × Option Nat)) (S : Sg) (x1 : Option Nat) (x2 : Int32) (x3 : Option Nat) : Option (Sg × Option Nat) :=
  bnd (f_ok K S) fun S31 v32 =>
  if v32 = 0 then (f_made_202 K V S31 x1 x2) else ((oI S31 15 x1 11).bind fun v33 =>
  (oI S31 16 x3 3).bind fun v34 =>
  if v34 ≤ v33 then (f_made_202 K V S31 x1 x2) else ((oI S31 15 x1 1).bind fun v35 =>
  bnd (f_fail K S31 4 v35) fun S36 v37 =>
  f_made_202 K V S36 x1 x2))
def f_made_53 (K : Ky) (V : Sg → Option Nat → Option (Sg × Option Nat)) : Nat → Sg → Option Nat → Int32 → Option Nat → Int32 → Option (Sg × Option Nat)
  | 0, _, _, _, _, _ => none
  | n9 + 1, S, x1, x2, x3, x4 =>
    (oI S 15 x1 11).bind fun v8 =>
    if v8 ≤ x4 then (f_made_175 K V S x1 x2 x3) else (bnd (f_ok K S) fun S9 v10 =>
    if v10 = 0 then (f_made_175 K V S9 x1 x2 x3) else ((oR S9 15 x1 10).bind fun v11 =>
    (aI K S9 v11 x4).bind fun v12 =>
    bnd (f_fieldOf K S9 x3 v12) fun S13 v14 =>
    f_made_89 K V ((f_made_53 K V n9)) bigN S13 x1 x2 x3 x4 v14 0 0))
def f_made (K : Ky) (V : Sg → Option Nat → Option (Sg × Option Nat)) (S0 : Sg) (x1 : Option Nat) : Option (Sg × Option Nat) :=
  (oI S0 15 x1 3).bind fun v1 =>
  bnd (f_itemNamed K S0 v1) fun S2 v3 =>
  if v3 < 0 then (f_made_27 K V S2 x1) else ((rQ S2 11 v3).bind fun v4 =>
  (oI S2 16 v4 2).bind fun v5 =>
  if v5 = 10 then ((rQ S2 11 v3).bind fun v6 =>
  (pV S2 15 x1 4 (.int v3)).bind fun S7 =>
  f_made_53 K V bigN S7 x1 v3 v6 0) else (f_made_27 K V S2 x1))
def f_call_27 (K : Ky) (V : Sg → Option Nat → Option (Sg × Option Nat)) (S : Sg) (x1 : Option Nat) : Option (Sg × Option Nat) :=
  (oI S 15 x1 1).bind fun v27 =>
  bnd (f_wrong K S x1 3 v27) fun S28 v29 =>
  some (S28, v29)
def f_call_114 (K : Ky) (V : Sg → Option Nat → Option (Sg × Option Nat)) (S : Sg) (x1 : Option Nat) (x2 : Int32) : Option (Sg × Option Nat) :=
  (rQ S 11 x2).bind fun v23 =>
  (oR S 16 v23 15).bind fun v24 =>
  bnd (f_told K S x1 v24) fun S25 v26 =>
  some (S25, v26)
def f_call_72 (K : Ky) (V : Sg → Option Nat → Option (Sg × Option Nat)) : Nat → Sg → Option Nat → Int32 → Int32 → Option (Sg × Option Nat)
  | 0, _, _, _, _ => none
  | n9 + 1, S, x1, x2, x3 =>
    (oI S 15 x1 11).bind fun v13 =>
    if v13 ≤ x3 then (f_call_114 K V S x1 x2) else (bnd (f_ok K S) fun S14 v15 =>
    if v15 = 0 then (f_call_114 K V S14 x1 x2) else ((oR S14 15 x1 9).bind fun v16 =>
    (aQ K 9 S14 v16 x3).bind fun v17 =>
    (rQ S14 11 x2).bind fun v18 =>
    (oR S14 16 v18 10).bind fun v19 =>
    (aQ K 4 S14 v19 x3).bind fun v20 =>
    bnd (f_fits K V S14 v17 v20) fun S21 v22 =>
    f_call_72 K V n9 S21 x1 x2 (x3 + 1)))
def f_call (K : Ky) (V : Sg → Option Nat → Option (Sg × Option Nat)) (S0 : Sg) (x1 : Option Nat) : Option (Sg × Option Nat) :=
  (oI S0 15 x1 1).bind fun v1 =>
  bnd (f_itemNamed K S0 v1) fun S2 v3 =>
  if v3 < 0 then (f_call_27 K V S2 x1) else ((rQ S2 11 v3).bind fun v4 =>
  (oI S2 16 v4 2).bind fun v5 =>
  if v5 = 12 then ((rQ S2 11 v3).bind fun v6 =>
  (oI S2 16 v6 3).bind fun v7 =>
  (oI S2 15 x1 11).bind fun v8 =>
  if v7 = v8 then ((pV S2 15 x1 4 (.int v3)).bind fun S9 =>
  f_call_72 K V bigN S9 x1 v3 0) else ((oI S2 15 x1 1).bind fun v10 =>
  bnd (f_wrong K S2 x1 4 v10) fun S11 v12 =>
  some (S11, v12))) else (f_call_27 K V S2 x1))
def f_box_41 (K : Ky) (V : Sg → Option Nat → Option (Sg × Option Nat)) (S : Sg) (x1 : Option Nat) (x2 : Option Nat) : Option (Sg × Option Nat) :=
  bnd (f_type K S 5 0 x2) fun S12 v13 =>
  bnd (f_told K S12 x1 v13) fun S14 v15 =>
  some (S14, v15)
def f_box_32 (K : Ky) (V : Sg → Option Nat → Option (Sg × Option Nat)) (S : Sg) (x1 : Option Nat) (x2 : Option Nat) : Option (Sg × Option Nat) :=
  (oI S 15 x1 1).bind fun v9 =>
  bnd (f_fail K S 4 v9) fun S10 v11 =>
  f_box_41 K V S10 x1 x2
def f_box (K : Ky) (V : Sg → Option Nat → Option (Sg × Option Nat)) (S0 : Sg) (x1 : Option Nat) : Option (Sg × Option Nat) :=
  (oR S0 15 x1 8).bind fun v1 =>
  bnd (V S0 v1) fun S2 v3 =>
  bnd (f_ok K S2) fun S4 v5 =>
  if v5 = 0 then (f_box_41 K V S4 x1 v3) else ((oI S4 20 v3 0).bind fun v6 =>
  if v6 = 8 then (f_box_32 K V S4 x1 v3) else (bnd (f_refers K S4 v3) fun S7 v8 =>
  if v8 = 0 then (f_box_41 K V S7 x1 v3) else (f_box_32 K V S7 x1 v3)))
def f_value_61 (K : Ky) (V : Sg → Option Nat → Option (Sg × Option Nat)) (S : Sg) (x2 : Option Nat) : Option (Sg × Option Nat) :=
  some (S, x2)
def f_value_144 (K : Ky) (V : Sg → Option Nat → Option (Sg × Option Nat)) (S : Sg) (x1 : Option Nat) : Option (Sg × Option Nat) :=
  bnd (f_plainType K S 0) fun S60 v61 =>
  bnd (f_told K S60 x1 v61) fun S62 v63 =>
  some (S62, v63)
def f_value_274 (K : Ky) (V : Sg → Option Nat → Option (Sg × Option Nat)) (S : Sg) (x1 : Option Nat) : Option (Sg × Option Nat) :=
  bnd (f_variantOf K V S x1) fun S58 v59 =>
  some (S58, v59)
def f_value (K : Ky) : Nat → Sg → Option Nat → Option (Sg × Option Nat)
  | 0, _, _ => none
  | d + 1, S0, x1 =>
    bnd (f_ok K S0) fun S1 v2 =>
    if v2 = 0 then (bnd (f_plainType K S1 0) fun S54 v55 =>
    bnd (f_told K S54 x1 v55) fun S56 v57 =>
    some (S56, v57)) else (bnd (f_isPlace K S1 x1) fun S3 v4 =>
    if v4 = 0 then ((oI S3 15 x1 0).bind fun v5 =>
    if v5 = 0 then (f_value_144 K (f_value K d) S3 x1) else (if v5 = 1 then (bnd (f_plainType K S3 1) fun S6 v7 =>
    bnd (f_told K S6 x1 v7) fun S8 v9 =>
    some (S8, v9)) else (if v5 = 2 then (f_value_274 K (f_value K d) S3 x1) else (if v5 = 3 then (bnd (f_call K (f_value K d) S3 x1) fun S10 v11 =>
    some (S10, v11)) else (if v5 = 4 then (bnd (f_operand K (f_value K d) S3 x1 0 2) fun S12 v13 =>
    some (S12, v13)) else (if v5 = 5 then (bnd (f_made K (f_value K d) S3 x1) fun S14 v15 =>
    some (S14, v15)) else (if v5 = 6 then (f_value_274 K (f_value K d) S3 x1) else (if v5 = 7 then ((oR S3 15 x1 8).bind fun v16 =>
    bnd ((f_value K d) S3 v16) fun S17 v18 =>
    bnd (f_told K S17 x1 v18) fun S19 v20 =>
    some (S19, v20)) else (if v5 = 8 then (bnd (f_chained K (f_value K d) S3 x1) fun S21 v22 =>
    some (S21, v22)) else (if v5 = 9 then (bnd (f_operand K (f_value K d) S3 x1 1 1) fun S23 v24 =>
    some (S23, v24)) else (if v5 = 10 then (bnd (f_operand K (f_value K d) S3 x1 0 0) fun S25 v26 =>
    some (S25, v26)) else (if v5 = 11 then ((oR S3 15 x1 8).bind fun v27 =>
    bnd ((f_value K d) S3 v27) fun S28 v29 =>
    (oI S28 15 x1 1).bind fun v30 =>
    bnd (f_wrong K S28 x1 4 v30) fun S31 v32 =>
    some (S31, v32)) else (if v5 = 12 then (bnd (f_refer K (f_value K d) S3 x1) fun S33 v34 =>
    some (S33, v34)) else (if v5 = 13 then (bnd (f_box K (f_value K d) S3 x1) fun S35 v36 =>
    some (S35, v36)) else (if v5 = 14 then ((oR S3 15 x1 8).bind fun v37 =>
    bnd ((f_value K d) S3 v37) fun S38 v39 =>
    (oI S38 15 x1 3).bind fun v40 =>
    bnd (f_wrong K S38 x1 4 v40) fun S41 v42 =>
    some (S41, v42)) else (if v5 = 15 then (f_value_144 K (f_value K d) S3 x1) else (f_value_274 K (f_value K d) S3 x1))))))))))))))))) else (bnd (f_place K 410 S3 x1) fun S43 v44 =>
    bnd (f_ok K S43) fun S45 v46 =>
    if v46 = 0 then (f_value_61 K (f_value K d) S45 v44) else (bnd (f_copied K S45 v44) fun S47 v48 =>
    if v48 = 0 then (bnd (f_movable K S47 x1) fun S49 v50 =>
    if v50 = 0 then ((oI S49 15 x1 1).bind fun v51 =>
    bnd (f_fail K S49 4 v51) fun S52 v53 =>
    f_value_61 K (f_value K d) S52 v44) else (f_value_61 K (f_value K d) S49 v44)) else (f_value_61 K (f_value K d) S47 v44))))
def f_condition_30 (K : Ky) (S : Sg) : Option (Sg × Unit) :=
  some (S, ())
def f_condition (K : Ky) (S0 : Sg) (x1 : Option Nat) : Option (Sg × Unit) :=
  bnd (f_value K 410 S0 x1) fun S1 v2 =>
  bnd (f_ok K S1) fun S3 v4 =>
  if v4 = 0 then (f_condition_30 K S3) else ((oI S3 20 v2 0).bind fun v5 =>
  if v5 = 1 then (f_condition_30 K S3) else ((oI S3 15 x1 1).bind fun v6 =>
  bnd (f_fail K S3 4 v6) fun S7 v8 =>
  f_condition_30 K S7))
def f_typeAssign_77 (K : Ky) (k36 : Sg → Option Nat → Option Nat → Option Nat → Int32 → Option (Sg × Unit)) (S : Sg) (x1 : Option Nat) (x2 : Option Nat) (x3 : Option Nat) (x4 : Int32) : Option (Sg × Unit) :=
  k36 S x1 x2 x3 (x4 + 1)
def f_typeAssign_220 (K : Ky) (S : Sg) : Option (Sg × Unit) :=
  some (S, ())
def f_typeAssign_185 (K : Ky) (S : Sg) (x1 : Option Nat) (x3 : Option Nat) : Option (Sg × Unit) :=
  bnd (f_ok K S) fun S39 v40 =>
  if v40 = 0 then (f_typeAssign_220 K S39) else ((oI S39 15 x3 0).bind fun v41 =>
  if v41 = 2 then (f_typeAssign_220 K S39) else (bnd (f_mutable K 410 S39 x3) fun S42 v43 =>
  if v43 = 0 then ((oR S42 19 x1 7).bind fun v44 =>
  (oI S42 15 v44 1).bind fun v45 =>
  bnd (f_fail K S42 4 v45) fun S46 v47 =>
  f_typeAssign_220 K S46) else (f_typeAssign_220 K S42)))
def f_typeAssign_150 (K : Ky) (S : Sg) (x1 : Option Nat) (x2 : Option Nat) (x3 : Option Nat) : Option (Sg × Unit) :=
  (oR S 19 x1 7).bind fun v30 =>
  bnd (f_place K 410 S v30) fun S31 v32 =>
  bnd (f_ok K S31) fun S33 v34 =>
  if v34 = 0 then (f_typeAssign_185 K S33 x1 x3) else (if v32 = x2 then (f_typeAssign_185 K S33 x1 x3) else ((oR S33 19 x1 6).bind fun v35 =>
  (oI S33 15 v35 1).bind fun v36 =>
  bnd (f_fail K S33 4 v36) fun S37 v38 =>
  f_typeAssign_185 K S37 x1 x3))
def f_typeAssign_120 (K : Ky) (S : Sg) (x1 : Option Nat) (x2 : Option Nat) (x3 : Option Nat) : Option (Sg × Unit) :=
  (oR S 15 x3 13).bind fun v23 =>
  if v23 = none then (f_typeAssign_150 K S x1 x2 x3) else ((oR S 15 x3 13).bind fun v24 =>
  (oR S 21 v24 2).bind fun v25 =>
  if v25 = none then ((oR S 19 x1 6).bind fun v26 =>
  (oI S 15 v26 1).bind fun v27 =>
  bnd (f_fail K S 4 v27) fun S28 v29 =>
  some (S28, ())) else (f_typeAssign_150 K S x1 x2 x3))
def f_typeAssign_36 (K : Ky) : Nat → Sg → Option Nat → Option Nat → Option Nat → Int32 → Option (Sg × Unit)
  | 0, _, _, _, _, _ => none
  | n9 + 1, S, x1, x2, x3, x4 =>
    if (Zi S 23) ≤ x4 then ((oR S 15 x3 13).bind fun v10 =>
    if v10 = none then (f_typeAssign_120 K S x1 x2 x3) else ((oR S 15 x3 13).bind fun v11 =>
    (oR S 21 v11 2).bind fun v12 =>
    if v12 = none then ((oI S 20 x2 0).bind fun v13 =>
    if v13 = 8 then (f_typeAssign_120 K S x1 x2 x3) else ((oR S 15 x3 13).bind fun v14 =>
    (pV S 21 v14 2 (va_rf x2)).bind fun S15 =>
    f_typeAssign_150 K S15 x1 x2 x3)) else (f_typeAssign_120 K S x1 x2 x3))) else ((rQ S 22 x4).bind fun v16 =>
    (oI S 21 v16 1).bind fun v17 =>
    (oI S 15 x3 3).bind fun v18 =>
    bnd (f_sameName K S v17 v18) fun S19 v20 =>
    if v20 = 0 then (f_typeAssign_77 K ((f_typeAssign_36 K n9)) S19 x1 x2 x3 x4) else ((rQ S19 22 x4).bind fun v21 =>
    (pV S19 15 x3 13 (va_rf v21)).bind fun S22 =>
    f_typeAssign_77 K ((f_typeAssign_36 K n9)) S22 x1 x2 x3 x4))
def f_typeAssign (K : Ky) (S0 : Sg) (x1 : Option Nat) : Option (Sg × Unit) :=
  (oR S0 19 x1 6).bind fun v1 =>
  bnd (f_value K 410 S0 v1) fun S2 v3 =>
  bnd (f_ok K S2) fun S4 v5 =>
  if v5 = 0 then (some (S4, ())) else ((oR S4 19 x1 7).bind fun v6 =>
  bnd (f_bare K S4 v6) fun S7 v8 =>
  (oI S7 15 v8 0).bind fun v9 =>
  if v9 = 2 then (f_typeAssign_36 K bigN S7 x1 v3 v8 0) else (f_typeAssign_150 K S7 x1 v3 v8))
def f_typeLet_125 (K : Ky) (S : Sg) : Option (Sg × Unit) :=
  some (S, ())
def f_typeLet_101 (K : Ky) (S : Sg) (x1 : Option Nat) (x2 : Option Nat) : Option (Sg × Unit) :=
  bnd (f_ok K S) fun S22 v23 =>
  if v23 = 0 then (f_typeLet_125 K S22) else ((oI S22 19 x1 2).bind fun v24 =>
  (oI S22 19 x1 3).bind fun v25 =>
  bnd (f_declare K S22 v24 x2 v25) fun S26 v27 =>
  (pV S26 19 x1 8 (va_rf v27)).bind fun S28 =>
  f_typeLet_125 K S28)
def f_typeLet_99 (K : Ky) (S : Sg) (x1 : Option Nat) (x3 : Option Nat) : Option (Sg × Unit) :=
  f_typeLet_101 K S x1 x3
def f_typeLet_87 (K : Ky) (S : Sg) (x1 : Option Nat) (x3 : Option Nat) : Option (Sg × Unit) :=
  (oR S 19 x1 6).bind fun v18 =>
  (oI S 15 v18 1).bind fun v19 =>
  bnd (f_fail K S 4 v19) fun S20 v21 =>
  f_typeLet_99 K S20 x1 x3
def f_typeLet_36 (K : Ky) (S : Sg) (x1 : Option Nat) (x2 : Option Nat) : Option (Sg × Unit) :=
  bnd (f_ok K S) fun S9 v10 =>
  if v10 = 0 then (f_typeLet_101 K S9 x1 x2) else ((oR S9 19 x1 6).bind fun v11 =>
  if v11 = none then (f_typeLet_101 K S9 x1 x2) else ((oR S9 19 x1 6).bind fun v12 =>
  bnd (f_value K 410 S9 v12) fun S13 v14 =>
  bnd (f_ok K S13) fun S15 v16 =>
  if v16 = 0 then (f_typeLet_99 K S15 x1 v14) else (if x2 = none then ((oI S15 20 v14 0).bind fun v17 =>
  if v17 = 8 then (f_typeLet_87 K S15 x1 v14) else (f_typeLet_99 K S15 x1 v14)) else (if v14 = x2 then (f_typeLet_99 K S15 x1 v14) else (f_typeLet_87 K S15 x1 v14)))))
def f_typeLet_20 (K : Ky) (S : Sg) (x1 : Option Nat) (y0 : Option Nat) : Option (Sg × Unit) :=
  (oR S 19 x1 5).bind fun v5 =>
  if v5 = none then (f_typeLet_36 K S x1 y0) else ((oR S 19 x1 5).bind fun v6 =>
  bnd (f_noLife K S v6) fun S7 v8 =>
  f_typeLet_36 K S7 x1 y0)
def f_typeLet (K : Ky) (S0 : Sg) (x1 : Option Nat) : Option (Sg × Unit) :=
  (oR S0 19 x1 5).bind fun v1 =>
  if v1 = none then (f_typeLet_20 K S0 x1 none) else ((oR S0 19 x1 5).bind fun v2 =>
  bnd (f_resolve K 20 S0 v2 1) fun S3 v4 =>
  f_typeLet_20 K S3 x1 v4)
def f_typeReturn_31 (K : Ky) (S : Sg) : Option (Sg × Unit) :=
  some (S, ())
def f_typeReturn_80 (K : Ky) (S : Sg) : Option (Sg × Unit) :=
  some (S, ())
def f_typeReturn_68 (K : Ky) (S : Sg) (x1 : Option Nat) : Option (Sg × Unit) :=
  (oR S 19 x1 6).bind fun v14 =>
  (oI S 15 v14 1).bind fun v15 =>
  bnd (f_fail K S 4 v15) fun S16 v17 =>
  f_typeReturn_80 K S16
def f_typeReturn (K : Ky) (S0 : Sg) (x1 : Option Nat) : Option (Sg × Unit) :=
  (oR S0 19 x1 6).bind fun v1 =>
  if v1 = none then ((oR S0 16 (Zf S0) 15).bind fun v9 =>
  (oI S0 20 v9 0).bind fun v10 =>
  if v10 = 8 then (f_typeReturn_31 K S0) else ((oI S0 19 x1 1).bind fun v11 =>
  bnd (f_fail K S0 4 v11) fun S12 v13 =>
  f_typeReturn_31 K S12)) else ((oR S0 19 x1 6).bind fun v2 =>
  bnd (f_value K 410 S0 v2) fun S3 v4 =>
  bnd (f_ok K S3) fun S5 v6 =>
  if v6 = 0 then (f_typeReturn_80 K S5) else ((oR S5 16 (Zf S5) 15).bind fun v7 =>
  if v4 = v7 then ((oI S5 20 v4 0).bind fun v8 =>
  if v8 = 8 then (f_typeReturn_68 K S5 x1) else (f_typeReturn_80 K S5)) else (f_typeReturn_68 K S5 x1)))
def f_typeArm_75 (K : Ky) (V : Sg → Option Nat → Option (Sg × Unit)) (k9 : Sg → Option Nat → Option Nat → Option Nat → Int32 → Int32 → Option (Sg × Unit)) (S : Sg) (x1 : Option Nat) (x2 : Option Nat) (x3 : Option Nat) (x4 : Int32) (x5 : Int32) (y0 : Option Nat) (y1 : Int32) (y3 : Int32) (y4 : Option Nat) : Option (Sg × Unit) :=
  bnd (f_declare K S y1 y0 0) fun S17 v18 =>
  (bQ K 5 21 S17 y4 y3 v18).bind fun S19 =>
  k9 S19 x1 x2 x3 x4 (x5 + 1)
def f_typeArm_54 (K : Ky) (V : Sg → Option Nat → Option (Sg × Unit)) (k9 : Sg → Option Nat → Option Nat → Option Nat → Int32 → Int32 → Option (Sg × Unit)) (S : Sg) (x1 : Option Nat) (x2 : Option Nat) (x3 : Option Nat) (x4 : Int32) (x5 : Int32) (y0 : Int32) (y2 : Int32) (y4 : Int32) (y5 : Option Nat) : Option (Sg × Unit) :=
  (oR S 17 x3 2).bind fun v13 =>
  (aQ K 4 S v13 x5).bind fun v14 =>
  bnd (f_type K S y0 0 v14) fun S15 v16 =>
  f_typeArm_75 K V k9 S15 x1 x2 x3 x4 x5 v16 y2 y4 y5
def f_typeArm_9 (K : Ky) (V : Sg → Option Nat → Option (Sg × Unit)) : Nat → Sg → Option Nat → Option Nat → Option Nat → Int32 → Int32 → Option (Sg × Unit)
  | 0, _, _, _, _, _, _ => none
  | n9 + 1, S, x1, x2, x3, x4, x5 =>
    (oI S 13 x2 3).bind fun v1 =>
    if v1 ≤ x5 then ((oR S 13 x2 5).bind fun v2 =>
    bnd (V S v2) fun S3 v4 =>
    (pM S3 23 x4).bind fun S5 =>
    some (S5, ())) else ((oR S 13 x2 4).bind fun v6 =>
    (oR S 13 x2 2).bind fun v7 =>
    (aI K S v7 x5).bind fun v8 =>
    (oI S 19 x1 4).bind fun v9 =>
    if v9 = 0 then ((oR S 17 x3 2).bind fun v10 =>
    (aQ K 4 S v10 x5).bind fun v11 =>
    f_typeArm_75 K V ((f_typeArm_9 K V n9)) S x1 x2 x3 x4 x5 v11 v8 x5 v6) else ((oI S 19 x1 3).bind fun v12 =>
    if v12 = 0 then (f_typeArm_54 K V ((f_typeArm_9 K V n9)) S x1 x2 x3 x4 x5 6 v8 x5 v6) else (f_typeArm_54 K V ((f_typeArm_9 K V n9)) S x1 x2 x3 x4 x5 7 v8 x5 v6)))
def f_typeArm (K : Ky) (V : Sg → Option Nat → Option (Sg × Unit)) (S0 : Sg) (x1 : Option Nat) (x2 : Option Nat) (x3 : Option Nat) : Option (Sg × Unit) :=
  f_typeArm_9 K V bigN S0 x1 x2 x3 (Zi S0 23) 0
def f_typeMatch_193 (K : Ky) (V : Sg → Option Nat → Option (Sg × Unit)) (k119 : Sg → Option Nat → Option Nat → Int32 → Option (Sg × Unit)) (k165 : Sg → Option Nat → Option Nat → Int32 → Option Nat → Int32 → Int32 → Option (Sg × Unit)) (S : Sg) (x1 : Option Nat) (x3 : Option Nat) (x4 : Int32) (x5 : Option Nat) (x6 : Int32) (x7 : Int32) : Option (Sg × Unit) :=
  k165 S x1 x3 x4 x5 x6 (x7 + 1)
def f_typeMatch_280 (K : Ky) (V : Sg → Option Nat → Option (Sg × Unit)) (k119 : Sg → Option Nat → Option Nat → Int32 → Option (Sg × Unit)) (S : Sg) (x1 : Option Nat) (x3 : Option Nat) (x4 : Int32) : Option (Sg × Unit) :=
  k119 S x1 x3 (x4 + 1)
def f_typeMatch_256 (K : Ky) (V : Sg → Option Nat → Option (Sg × Unit)) (k119 : Sg → Option Nat → Option Nat → Int32 → Option (Sg × Unit)) (S : Sg) (x1 : Option Nat) (x3 : Option Nat) (x4 : Int32) (x5 : Option Nat) : Option (Sg × Unit) :=
  bnd (f_ok K S) fun S52 v53 =>
  if v53 = 0 then (f_typeMatch_280 K V k119 S52 x1 x3 x4) else ((oR S52 16 x3 11).bind fun v54 =>
  (oI S52 13 x5 1).bind fun v55 =>
  (aQ K 13 S52 v54 v55).bind fun v56 =>
  bnd (f_typeArm K V S52 x1 x5 v56) fun S57 v58 =>
  f_typeMatch_280 K V k119 S57 x1 x3 x4)
def f_typeMatch_212 (K : Ky) (V : Sg → Option Nat → Option (Sg × Unit)) (k119 : Sg → Option Nat → Option Nat → Int32 → Option (Sg × Unit)) (S : Sg) (x1 : Option Nat) (x3 : Option Nat) (x4 : Int32) (x5 : Option Nat) : Option (Sg × Unit) :=
  (oI S 13 x5 0).bind fun v59 =>
  bnd (f_fail K S 3 v59) fun S60 v61 =>
  f_typeMatch_256 K V k119 S60 x1 x3 x4 x5
def f_typeMatch_165 (K : Ky) (V : Sg → Option Nat → Option (Sg × Unit)) (k119 : Sg → Option Nat → Option Nat → Int32 → Option (Sg × Unit)) : Nat → Sg → Option Nat → Option Nat → Int32 → Option Nat → Int32 → Int32 → Option (Sg × Unit)
  | 0, _, _, _, _, _, _, _ => none
  | n9 + 1, S, x1, x3, x4, x5, x6, x7 =>
    if x4 ≤ x7 then ((oI S 13 x5 1).bind fun v39 =>
    if v39 < 0 then (f_typeMatch_212 K V k119 S x1 x3 x4 x5) else (if x6 = 0 then ((oR S 16 x3 11).bind fun v40 =>
    (oI S 13 x5 1).bind fun v41 =>
    (aQ K 13 S v40 v41).bind fun v42 =>
    (oI S 17 v42 0).bind fun v43 =>
    (oI S 13 x5 3).bind fun v44 =>
    if v43 = v44 then (f_typeMatch_256 K V k119 S x1 x3 x4 x5) else ((oI S 13 x5 0).bind fun v45 =>
    bnd (f_fail K S 4 v45) fun S46 v47 =>
    f_typeMatch_256 K V k119 S46 x1 x3 x4 x5)) else (f_typeMatch_212 K V k119 S x1 x3 x4 x5))) else ((oR S 19 x1 12).bind fun v48 =>
    (aQ K 7 S v48 x7).bind fun v49 =>
    (oI S 13 v49 1).bind fun v50 =>
    (oI S 13 x5 1).bind fun v51 =>
    if v50 = v51 then (f_typeMatch_193 K V k119 ((f_typeMatch_165 K V k119 n9)) S x1 x3 x4 x5 1 x7) else (f_typeMatch_193 K V k119 ((f_typeMatch_165 K V k119 n9)) S x1 x3 x4 x5 x6 x7))
def f_typeMatch_313 (K : Ky) (V : Sg → Option Nat → Option (Sg × Unit)) (S : Sg) : Option (Sg × Unit) :=
  some (S, ())
def f_typeMatch_286 (K : Ky) (V : Sg → Option Nat → Option (Sg × Unit)) (S : Sg) (x1 : Option Nat) (x3 : Option Nat) : Option (Sg × Unit) :=
  bnd (f_ok K S) fun S62 v63 =>
  if v63 = 0 then (f_typeMatch_313 K V S62) else ((oI S62 19 x1 13).bind fun v64 =>
  (oI S62 16 x3 3).bind fun v65 =>
  if v65 ≤ v64 then (f_typeMatch_313 K V S62) else ((oI S62 19 x1 1).bind fun v66 =>
  bnd (f_fail K S62 4 v66) fun S67 v68 =>
  f_typeMatch_313 K V S67))
def f_typeMatch_119 (K : Ky) (V : Sg → Option Nat → Option (Sg × Unit)) : Nat → Sg → Option Nat → Option Nat → Int32 → Option (Sg × Unit)
  | 0, _, _, _, _ => none
  | n9 + 1, S, x1, x3, x4 =>
    (oI S 19 x1 13).bind fun v30 =>
    if v30 ≤ x4 then (f_typeMatch_286 K V S x1 x3) else (bnd (f_ok K S) fun S31 v32 =>
    if v32 = 0 then (f_typeMatch_286 K V S31 x1 x3) else ((oR S31 19 x1 12).bind fun v33 =>
    (aQ K 7 S31 v33 x4).bind fun v34 =>
    (oI S31 13 v34 0).bind fun v35 =>
    bnd (f_fieldOf K S31 x3 v35) fun S36 v37 =>
    (pV S36 13 v34 1 (.int v37)).bind fun S38 =>
    f_typeMatch_165 K V ((f_typeMatch_119 K V n9)) bigN S38 x1 x3 x4 v34 0 0))
def f_typeMatch_98 (K : Ky) (V : Sg → Option Nat → Option (Sg × Unit)) (S : Sg) (x1 : Option Nat) (x2 : Option Nat) : Option (Sg × Unit) :=
  bnd (f_ok K S) fun S26 v27 =>
  if v27 = 0 then (some (S26, ())) else ((oI S26 20 x2 1).bind fun v28 =>
  (rQ S26 11 v28).bind fun v29 =>
  f_typeMatch_119 K V bigN S26 x1 v29 0)
def f_typeMatch_54 (K : Ky) (V : Sg → Option Nat → Option (Sg × Unit)) (S : Sg) (x1 : Option Nat) (x2 : Option Nat) : Option (Sg × Unit) :=
  bnd (f_ok K S) fun S15 v16 =>
  if v16 = 0 then (f_typeMatch_98 K V S15 x1 x2) else ((oI S15 19 x1 4).bind fun v17 =>
  if v17 = 0 then (f_typeMatch_98 K V S15 x1 x2) else ((oI S15 19 x1 3).bind fun v18 =>
  if v18 = 0 then (f_typeMatch_98 K V S15 x1 x2) else ((oR S15 19 x1 6).bind fun v19 =>
  bnd (f_mutable K 410 S15 v19) fun S20 v21 =>
  if v21 = 0 then ((oR S20 19 x1 6).bind fun v22 =>
  (oI S20 15 v22 1).bind fun v23 =>
  bnd (f_fail K S20 4 v23) fun S24 v25 =>
  f_typeMatch_98 K V S24 x1 x2) else (f_typeMatch_98 K V S20 x1 x2))))
def f_typeMatch_26 (K : Ky) (V : Sg → Option Nat → Option (Sg × Unit)) (S : Sg) (x1 : Option Nat) (y0 : Option Nat) : Option (Sg × Unit) :=
  bnd (f_ok K S) fun S8 v9 =>
  if v9 = 0 then (f_typeMatch_54 K V S8 x1 y0) else ((oI S8 20 y0 0).bind fun v10 =>
  if v10 = 4 then (f_typeMatch_54 K V S8 x1 y0) else ((oR S8 19 x1 6).bind fun v11 =>
  (oI S8 15 v11 1).bind fun v12 =>
  bnd (f_fail K S8 4 v12) fun S13 v14 =>
  f_typeMatch_54 K V S13 x1 y0))
def f_typeMatch (K : Ky) (V : Sg → Option Nat → Option (Sg × Unit)) (S0 : Sg) (x1 : Option Nat) : Option (Sg × Unit) :=
  (oI S0 19 x1 4).bind fun v1 =>
  if v1 = 0 then ((oR S0 19 x1 6).bind fun v2 =>
  bnd (f_value K 410 S0 v2) fun S3 v4 =>
  f_typeMatch_26 K V S3 x1 v4) else ((oR S0 19 x1 6).bind fun v5 =>
  bnd (f_place K 410 S0 v5) fun S6 v7 =>
  f_typeMatch_26 K V S6 x1 v7)
def f_typeStatement_133 (K : Ky) (V : Sg → Option Nat → Option (Sg × Unit)) (k82 : Sg → Option Nat → Int32 → Option (Sg × Unit)) (S : Sg) (x1 : Option Nat) (x2 : Int32) : Option (Sg × Unit) :=
  k82 S x1 (x2 + 1)
def f_typeStatement_116 (K : Ky) (V : Sg → Option Nat → Option (Sg × Unit)) (k82 : Sg → Option Nat → Int32 → Option (Sg × Unit)) (S : Sg) (x1 : Option Nat) (x2 : Int32) : Option (Sg × Unit) :=
  bnd (f_ok K S) fun S44 v45 =>
  if v45 = 0 then (f_typeStatement_133 K V k82 S44 x1 x2) else ((oR S44 19 x1 11).bind fun v46 =>
  (aQ K 10 S44 v46 x2).bind fun v47 =>
  bnd (V S44 v47) fun S48 v49 =>
  f_typeStatement_133 K V k82 S48 x1 x2)
def f_typeStatement_238 (K : Ky) (V : Sg → Option Nat → Option (Sg × Unit)) (S : Sg) : Option (Sg × Unit) :=
  some (S, ())
def f_typeStatement_139 (K : Ky) (V : Sg → Option Nat → Option (Sg × Unit)) (S : Sg) : Option (Sg × Unit) :=
  f_typeStatement_238 K V S
def f_typeStatement_82 (K : Ky) (V : Sg → Option Nat → Option (Sg × Unit)) : Nat → Sg → Option Nat → Int32 → Option (Sg × Unit)
  | 0, _, _, _ => none
  | n9 + 1, S, x1, x2 =>
    (oI S 19 x1 13).bind fun v35 =>
    if v35 ≤ x2 then (f_typeStatement_139 K V S) else (bnd (f_ok K S) fun S36 v37 =>
    if v37 = 0 then (f_typeStatement_139 K V S36) else ((oR S36 19 x1 10).bind fun v38 =>
    (aQ K 9 S36 v38 x2).bind fun v39 =>
    if v39 = none then (f_typeStatement_116 K V ((f_typeStatement_82 K V n9)) S36 x1 x2) else ((oR S36 19 x1 10).bind fun v40 =>
    (aQ K 9 S36 v40 x2).bind fun v41 =>
    bnd (f_condition K S36 v41) fun S42 v43 =>
    f_typeStatement_116 K V ((f_typeStatement_82 K V n9)) S42 x1 x2)))
def f_typeStatement (K : Ky) (V : Sg → Option Nat → Option (Sg × Unit)) (S0 : Sg) (x1 : Option Nat) : Option (Sg × Unit) :=
  (oI S0 19 x1 0).bind fun v1 =>
  if v1 = 0 then (bnd (f_typeLet K S0 x1) fun S2 v3 =>
  f_typeStatement_238 K V S2) else (if v1 = 1 then ((oR S0 19 x1 6).bind fun v4 =>
  bnd (f_value K 410 S0 v4) fun S5 v6 =>
  f_typeStatement_238 K V S5) else (if v1 = 2 then (bnd (f_typeAssign K S0 x1) fun S7 v8 =>
  f_typeStatement_238 K V S7) else (if v1 = 3 then (f_typeStatement_82 K V bigN S0 x1 0) else (if v1 = 4 then ((oR S0 19 x1 6).bind fun v9 =>
  bnd (f_condition K S0 v9) fun S10 v11 =>
  bnd (f_ok K S10) fun S12 v13 =>
  if v13 = 0 then (f_typeStatement_238 K V S12) else ((oR S12 19 x1 9).bind fun v14 =>
  bnd (V S12 v14) fun S15 v16 =>
  f_typeStatement_238 K V S15)) else (if v1 = 5 then (bnd (f_typeMatch K V S0 x1) fun S17 v18 =>
  f_typeStatement_238 K V S17) else (if v1 = 6 then (bnd (f_typeReturn K S0 x1) fun S19 v20 =>
  f_typeStatement_238 K V S19) else (if v1 = 7 then ((oR S0 19 x1 6).bind fun v21 =>
  bnd (f_value K 410 S0 v21) fun S22 v23 =>
  bnd (f_ok K S22) fun S24 v25 =>
  if v25 = 0 then (f_typeStatement_238 K V S24) else ((oI S24 20 v23 0).bind fun v26 =>
  if v26 = 0 then (f_typeStatement_238 K V S24) else ((oI S24 20 v23 0).bind fun v27 =>
  if v27 = 1 then (f_typeStatement_238 K V S24) else ((oR S24 19 x1 6).bind fun v28 =>
  (oI S24 15 v28 1).bind fun v29 =>
  bnd (f_fail K S24 4 v29) fun S30 v31 =>
  f_typeStatement_238 K V S30)))) else ((oR S0 19 x1 9).bind fun v32 =>
  bnd (V S0 v32) fun S33 v34 =>
  f_typeStatement_238 K V S33))))))))
def f_typeBlock_38 (K : Ky) (V : Sg → Option Nat → Option (Sg × Unit)) (S : Sg) (x2 : Int32) : Option (Sg × Unit) :=
  (pM S 23 x2).bind fun S8 =>
  some (S8, ())
def f_typeBlock_7 (K : Ky) (V : Sg → Option Nat → Option (Sg × Unit)) : Nat → Sg → Option Nat → Int32 → Int32 → Option (Sg × Unit)
  | 0, _, _, _, _ => none
  | n9 + 1, S, x1, x2, x3 =>
    (oI S 14 x1 3).bind fun v1 =>
    if v1 ≤ x3 then (f_typeBlock_38 K V S x2) else (bnd (f_ok K S) fun S2 v3 =>
    if v3 = 0 then (f_typeBlock_38 K V S2 x2) else ((oR S2 14 x1 2).bind fun v4 =>
    (aQ K 11 S2 v4 x3).bind fun v5 =>
    bnd (f_typeStatement K V S2 v5) fun S6 v7 =>
    f_typeBlock_7 K V n9 S6 x1 x2 (x3 + 1)))
def f_typeBlock (K : Ky) : Nat → Sg → Option Nat → Option (Sg × Unit)
  | 0, _, _ => none
  | d + 1, S0, x1 =>
    f_typeBlock_7 K (f_typeBlock K d) bigN S0 x1 (Zi S0 23) 0
