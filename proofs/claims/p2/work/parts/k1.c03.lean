def f_isPlace_33 (K : Ky) (k2 : Sg → Option Nat → Option (Sg × Int32)) (S : Sg) (x1 : Option Nat) : Option (Sg × Int32) :=
  (oR S 15 x1 8).bind fun v4 =>
  k2 S v4
def f_isPlace_58 (K : Ky) (S : Sg) (y0 : Int32) : Option (Sg × Int32) :=
  (zB y0).bind fun _ => some (S, y0)
def f_isPlace_57 (K : Ky) (S : Sg) : Option (Sg × Int32) :=
  f_isPlace_58 K S 0
def f_isPlace_41 (K : Ky) (S : Sg) (x1 : Option Nat) : Option (Sg × Int32) :=
  if x1 = none then (f_isPlace_57 K S) else ((oI S 15 x1 0).bind fun v5 =>
  if v5 = 2 then (f_isPlace_58 K S 1) else (f_isPlace_57 K S))
def f_isPlace_2 (K : Ky) : Nat → Sg → Option Nat → Option (Sg × Int32)
  | 0, _, _ => none
  | n9 + 1, S, x1 =>
    if x1 = none then (f_isPlace_41 K S x1) else ((oI S 15 x1 0).bind fun v1 =>
    if v1 = 7 then (f_isPlace_33 K ((f_isPlace_2 K n9)) S x1) else ((oI S 15 x1 0).bind fun v2 =>
    if v2 = 14 then (f_isPlace_33 K ((f_isPlace_2 K n9)) S x1) else ((oI S 15 x1 0).bind fun v3 =>
    if v3 = 11 then (f_isPlace_33 K ((f_isPlace_2 K n9)) S x1) else (f_isPlace_41 K S x1))))
def f_isPlace (K : Ky) (S0 : Sg) (x0 : Option Nat) : Option (Sg × Int32) :=
  f_isPlace_2 K bigN S0 x0
def f_plain_80 (K : Ky) (S : Sg) : Option (Sg × Unit) :=
  bnd (f_take K S 60) fun S21 v22 =>
  some (S21, ())
def f_plain (K : Ky) (S0 : Sg) (x1 : Option Nat) : Option (Sg × Unit) :=
  (pV S0 19 x1 0 (.int 1)).bind fun S1 =>
  bnd (f_exp K (f_chain9 K 140) (f_unary9 K 140) S1) fun S2 v3 =>
  (pV S2 19 x1 6 (va_rf v3)).bind fun S4 =>
  bnd (f_ok K S4) fun S5 v6 =>
  if v6 = 0 then (f_plain_80 K S5) else (bnd (f_is K S5 54) fun S7 v8 =>
  if v8 = 0 then (f_plain_80 K S7) else ((oR S7 19 x1 6).bind fun v9 =>
  bnd (f_isPlace K S7 v9) fun S10 v11 =>
  if v11 = 0 then (bnd (f_fail K S10 1 (Zi S10 10)) fun S19 v20 =>
  some (S19, ())) else ((pM S10 10 ((Zi S10 10) + 1)).bind fun S12 =>
  (pV S12 19 x1 0 (.int 2)).bind fun S13 =>
  (oR S13 19 x1 6).bind fun v14 =>
  (pV S13 19 x1 7 (va_rf v14)).bind fun S15 =>
  bnd (f_exp K (f_chain9 K 140) (f_unary9 K 140) S15) fun S16 v17 =>
  (pV S16 19 x1 6 (va_rf v17)).bind fun S18 =>
  f_plain_80 K S18)))
def f_arm_74 (K : Ky) (V : Sg → Option (Sg × Option Nat)) (k27 : Sg → Option Nat → Int32 → Option (Sg × Option Nat)) (S : Sg) (x1 : Option Nat) : Option (Sg × Option Nat) :=
  (oI S 13 x1 3).bind fun v24 =>
  (pV S 13 x1 3 (.int (v24 + 1))).bind fun S25 =>
  bnd (f_takes K S25 57) fun S26 v27 =>
  k27 S26 x1 v27
def f_arm_100 (K : Ky) (V : Sg → Option (Sg × Option Nat)) (S : Sg) (x1 : Option Nat) : Option (Sg × Option Nat) :=
  bnd (f_take K S 66) fun S30 v31 =>
  bnd (V S30) fun S32 v33 =>
  (pV S32 13 x1 5 (va_rf v33)).bind fun S34 =>
  some (S34, x1)
def f_arm_94 (K : Ky) (V : Sg → Option (Sg × Option Nat)) (S : Sg) (x1 : Option Nat) : Option (Sg × Option Nat) :=
  bnd (f_take K S 62) fun S28 v29 =>
  f_arm_100 K V S28 x1
def f_arm_27 (K : Ky) (V : Sg → Option (Sg × Option Nat)) : Nat → Sg → Option Nat → Int32 → Option (Sg × Option Nat)
  | 0, _, _, _ => none
  | n9 + 1, S, x1, x2 =>
    bnd (f_ok K S) fun S10 v11 =>
    if v11 = 0 then (f_arm_94 K V S10 x1) else (if x2 = 0 then (f_arm_94 K V S10 x1) else ((oI S10 13 x1 3).bind fun v12 =>
    bnd (f_limit K S10 v12 12) fun S13 v14 =>
    bnd (f_oneVariable K S13) fun S15 v16 =>
    bnd (f_name K S15) fun S17 v18 =>
    bnd (f_ok K S17) fun S19 v20 =>
    if v20 = 0 then (f_arm_74 K V ((f_arm_27 K V n9)) S19 x1) else ((oR S19 13 x1 2).bind fun v21 =>
    (oI S19 13 x1 3).bind fun v22 =>
    (bI K S19 v21 v22 v18).bind fun S23 =>
    f_arm_74 K V ((f_arm_27 K V n9)) S23 x1)))
def f_arm (K : Ky) (V : Sg → Option (Sg × Option Nat)) (S0 : Sg) : Option (Sg × Option Nat) :=
  bnd (nO K S0 13 6 [.int 0, .int 0, .null, .int 0, .null, .null]) fun S1 a2 =>
  bnd (f_X13_init K S1 a2) fun S3 _ =>
  bnd (f_name K S3) fun S5 v6 =>
  (pV S5 13 (some a2) 0 (.int v6)).bind fun S7 =>
  bnd (f_takes K S7 61) fun S8 v9 =>
  if v9 = 0 then (f_arm_100 K V S8 (some a2)) else (f_arm_27 K V bigN S8 (some a2) 1)
def f_match_214 (K : Ky) (V : Sg → Option (Sg × Option Nat)) (k146 : Sg → Option Nat → Option (Sg × Unit)) (S : Sg) (x1 : Option Nat) : Option (Sg × Unit) :=
  (oR S 19 x1 12).bind fun v50 =>
  (oI S 19 x1 13).bind fun v51 =>
  bnd (f_arm K V S) fun S52 v53 =>
  (bQ K 7 13 S52 v50 v51 v53).bind fun S54 =>
  (oI S54 19 x1 13).bind fun v55 =>
  (pV S54 19 x1 13 (.int (v55 + 1))).bind fun S56 =>
  k146 S56 x1
def f_match_186 (K : Ky) (V : Sg → Option (Sg × Option Nat)) (k146 : Sg → Option Nat → Option (Sg × Unit)) : Nat → Sg → Option Nat → Option Nat → Int32 → Option (Sg × Unit)
  | 0, _, _, _, _ => none
  | n9 + 1, S, x1, x2, x3 =>
    (oI S 19 x1 13).bind fun v45 =>
    if v45 ≤ x3 then ((pV S 19 x1 12 (va_rf x2)).bind fun S46 =>
    f_match_214 K V k146 S46 x1) else ((oR S 19 x1 12).bind fun v47 =>
    (aQ K 7 S v47 x3).bind fun v48 =>
    (bQ K 7 13 S x2 x3 v48).bind fun S49 =>
    f_match_186 K V k146 n9 S49 x1 x2 (x3 + 1))
def f_match_240 (K : Ky) (V : Sg → Option (Sg × Option Nat)) (S : Sg) : Option (Sg × Unit) :=
  (pM S 15 ((Zi S 15) - 1)).bind fun S57 =>
  bnd (f_take K S57 64) fun S58 v59 =>
  some (S58, ())
def f_match_146 (K : Ky) (V : Sg → Option (Sg × Option Nat)) : Nat → Sg → Option Nat → Option (Sg × Unit)
  | 0, _, _ => none
  | n9 + 1, S, x1 =>
    bnd (f_ok K S) fun S35 v36 =>
    if v36 = 0 then (f_match_240 K V S35) else (bnd (f_is K S35 64) fun S37 v38 =>
    if v38 = 0 then ((oI S37 19 x1 13).bind fun v39 =>
    (oR S37 19 x1 12).bind fun v40 =>
    (aLn K 7 S37 v40).bind fun v41 =>
    if v39 = v41 then ((oI S37 19 x1 13).bind fun v42 =>
    bnd (nQ K 7 S37 (2 * v42)) fun S43 a44 =>
    f_match_186 K V ((f_match_146 K V n9)) bigN S43 x1 (some a44) 0) else (f_match_214 K V ((f_match_146 K V n9)) S37 x1)) else (f_match_240 K V S37))
def f_match_132 (K : Ky) (V : Sg → Option (Sg × Option Nat)) (S : Sg) (x1 : Option Nat) : Option (Sg × Unit) :=
  bnd (f_take K S 63) fun S30 v31 =>
  bnd (nQ K 7 S30 4) fun S32 a33 =>
  (pV S32 19 x1 12 (va_rf (some a33))).bind fun S34 =>
  f_match_146 K V bigN S34 x1
def f_match_94 (K : Ky) (V : Sg → Option (Sg × Option Nat)) (S : Sg) (x1 : Option Nat) : Option (Sg × Unit) :=
  bnd (f_ok K S) fun S23 v24 =>
  if v24 = 0 then (some (S23, ())) else (bnd (f_is K S23 63) fun S25 v26 =>
  if v26 = 0 then ((pM S25 15 ((Zi S25 15) + 1)).bind fun S27 =>
  f_match_132 K V S27 x1) else (bnd (f_enter K S25 (Zi S25 10)) fun S28 v29 =>
  f_match_132 K V S28 x1))
def f_match_53 (K : Ky) (V : Sg → Option (Sg × Option Nat)) (S : Sg) (x1 : Option Nat) : Option (Sg × Unit) :=
  bnd (f_exp K (f_chain9 K 140) (f_unary9 K 140) S) fun S12 v13 =>
  (pV S12 19 x1 6 (va_rf v13)).bind fun S14 =>
  bnd (f_ok K S14) fun S15 v16 =>
  if v16 = 0 then (f_match_94 K V S15 x1) else ((oI S15 19 x1 4).bind fun v17 =>
  if v17 = 0 then (f_match_94 K V S15 x1) else ((oR S15 19 x1 6).bind fun v18 =>
  bnd (f_isPlace K S15 v18) fun S19 v20 =>
  if v20 = 0 then (bnd (f_fail K S19 1 (Zi S19 10)) fun S21 v22 =>
  f_match_94 K V S21 x1) else (f_match_94 K V S19 x1)))
def f_match (K : Ky) (V : Sg → Option (Sg × Option Nat)) (S0 : Sg) (x1 : Option Nat) : Option (Sg × Unit) :=
  (pV S0 19 x1 0 (.int 5)).bind fun S1 =>
  (pM S1 10 ((Zi S1 10) + 1)).bind fun S2 =>
  bnd (f_is K S2 55) fun S3 v4 =>
  if v4 = 0 then (f_match_53 K V S3 x1) else (bnd (f_borrow K S3) fun S5 v6 =>
  (pM S5 10 ((Zi S5 10) + 1)).bind fun S7 =>
  (pZ S7 19 x1 4 1).bind fun S8 =>
  bnd (f_takes K S8 14) fun S9 v10 =>
  (pZ S9 19 x1 3 v10).bind fun S11 =>
  f_match_53 K V S11 x1)
def f_branch_115 (K : Ky) (V : Sg → Option (Sg × Option Nat)) (k23 : Sg → Option Nat → Int32 → Option (Sg × Unit)) (S : Sg) (x1 : Option Nat) (y0 : Int32) : Option (Sg × Unit) :=
  k23 S x1 y0
def f_branch_114 (K : Ky) (V : Sg → Option (Sg × Option Nat)) (k23 : Sg → Option Nat → Int32 → Option (Sg × Unit)) (S : Sg) (x1 : Option Nat) : Option (Sg × Unit) :=
  f_branch_115 K V k23 S x1 0
def f_branch_74 (K : Ky) (V : Sg → Option (Sg × Option Nat)) (k23 : Sg → Option Nat → Int32 → Option (Sg × Unit)) (S : Sg) (x1 : Option Nat) (x3 : Int32) : Option (Sg × Unit) :=
  (oR S 19 x1 11).bind fun v22 =>
  (oI S 19 x1 13).bind fun v23 =>
  bnd (V S) fun S24 v25 =>
  (bQ K 10 14 S24 v22 v23 v25).bind fun S26 =>
  (oI S26 19 x1 13).bind fun v27 =>
  (pV S26 19 x1 13 (.int (v27 + 1))).bind fun S28 =>
  if x3 = 0 then (f_branch_114 K V k23 S28 x1) else (bnd (f_takes K S28 16) fun S29 v30 =>
  if v30 = 0 then (f_branch_114 K V k23 S29 x1) else (f_branch_115 K V k23 S29 x1 1))
def f_branch_50 (K : Ky) (V : Sg → Option (Sg × Option Nat)) (k23 : Sg → Option Nat → Int32 → Option (Sg × Unit)) (S : Sg) (x1 : Option Nat) : Option (Sg × Unit) :=
  bnd (f_takes K S 15) fun S15 v16 =>
  if v16 = 0 then (f_branch_74 K V k23 S15 x1 v16) else ((oR S15 19 x1 10).bind fun v17 =>
  (oI S15 19 x1 13).bind fun v18 =>
  bnd (f_exp K (f_chain9 K 140) (f_unary9 K 140) S15) fun S19 v20 =>
  (bQ K 9 15 S19 v17 v18 v20).bind fun S21 =>
  f_branch_74 K V k23 S21 x1 v16)
def f_branch_119 (K : Ky) (V : Sg → Option (Sg × Option Nat)) (S : Sg) : Option (Sg × Unit) :=
  some (S, ())
def f_branch_23 (K : Ky) (V : Sg → Option (Sg × Option Nat)) : Nat → Sg → Option Nat → Int32 → Option (Sg × Unit)
  | 0, _, _, _ => none
  | n9 + 1, S, x1, x2 =>
    bnd (f_ok K S) fun S8 v9 =>
    if v9 = 0 then (f_branch_119 K V S8) else (if x2 = 0 then (f_branch_119 K V S8) else ((oI S8 19 x1 13).bind fun v10 =>
    (oR S8 19 x1 11).bind fun v11 =>
    (aLn K 10 S8 v11).bind fun v12 =>
    if v10 = v12 then (bnd (f_growBranch K S8 x1) fun S13 v14 =>
    f_branch_50 K V ((f_branch_23 K V n9)) S13 x1) else (f_branch_50 K V ((f_branch_23 K V n9)) S8 x1)))
def f_branch (K : Ky) (V : Sg → Option (Sg × Option Nat)) (S0 : Sg) (x1 : Option Nat) : Option (Sg × Unit) :=
  (pV S0 19 x1 0 (.int 3)).bind fun S1 =>
  bnd (nQ K 9 S1 4) fun S2 a3 =>
  (pV S2 19 x1 10 (va_rf (some a3))).bind fun S4 =>
  bnd (nQ K 10 S4 4) fun S5 a6 =>
  (pV S5 19 x1 11 (va_rf (some a6))).bind fun S7 =>
  f_branch_23 K V bigN S7 x1 1
def f_statement_247 (K : Ky) (V : Sg → Option (Sg × Option Nat)) (S : Sg) (x1 : Option Nat) : Option (Sg × Option Nat) :=
  some (S, x1)
def f_statement_183 (K : Ky) (V : Sg → Option (Sg × Option Nat)) (S : Sg) (x1 : Option Nat) : Option (Sg × Option Nat) :=
  bnd (f_take K S 60) fun S41 v42 =>
  f_statement_247 K V S41 x1
def f_statement (K : Ky) (V : Sg → Option (Sg × Option Nat)) (S0 : Sg) : Option (Sg × Option Nat) :=
  bnd (nO K S0 19 14 [.int 0, .int 0, .int 0, .int 0, .int 0, .null, .null, .null, .null, .null, .null, .null, .null, .int 0]) fun S1 a2 =>
  (pV S1 19 (some a2) 1 (.int (Zi S1 10))).bind fun S5 =>
  (rI S5 5 (Zi S5 10)).bind fun v6 =>
  if v6 = 13 then (bnd (f_let K S5 (some a2)) fun S7 v8 =>
  f_statement_247 K V S7 (some a2)) else (if v6 = 15 then (bnd (f_branch K V S5 (some a2)) fun S9 v10 =>
  f_statement_247 K V S9 (some a2)) else (if v6 = 17 then ((pV S5 19 (some a2) 0 (.int 4)).bind fun S11 =>
  (pM S11 10 ((Zi S11 10) + 1)).bind fun S12 =>
  bnd (f_exp K (f_chain9 K 140) (f_unary9 K 140) S12) fun S13 v14 =>
  (pV S13 19 (some a2) 6 (va_rf v14)).bind fun S15 =>
  bnd (V S15) fun S16 v17 =>
  (pV S16 19 (some a2) 9 (va_rf v17)).bind fun S18 =>
  f_statement_247 K V S18 (some a2)) else (if v6 = 18 then (bnd (f_match K V S5 (some a2)) fun S19 v20 =>
  f_statement_247 K V S19 (some a2)) else (if v6 = 19 then ((pV S5 19 (some a2) 0 (.int 6)).bind fun S21 =>
  (pM S21 10 ((Zi S21 10) + 1)).bind fun S22 =>
  bnd (f_is K S22 60) fun S23 v24 =>
  if v24 = 0 then (bnd (f_exp K (f_chain9 K 140) (f_unary9 K 140) S23) fun S25 v26 =>
  (pV S25 19 (some a2) 6 (va_rf v26)).bind fun S27 =>
  f_statement_183 K V S27 (some a2)) else (f_statement_183 K V S23 (some a2))) else (if v6 = 20 then ((pV S5 19 (some a2) 0 (.int 7)).bind fun S28 =>
  (pM S28 10 ((Zi S28 10) + 1)).bind fun S29 =>
  bnd (f_exp K (f_chain9 K 140) (f_unary9 K 140) S29) fun S30 v31 =>
  (pV S30 19 (some a2) 6 (va_rf v31)).bind fun S32 =>
  bnd (f_take K S32 60) fun S33 v34 =>
  f_statement_247 K V S33 (some a2)) else (if v6 = 63 then ((pV S5 19 (some a2) 0 (.int 8)).bind fun S35 =>
  bnd (V S35) fun S36 v37 =>
  (pV S36 19 (some a2) 9 (va_rf v37)).bind fun S38 =>
  f_statement_247 K V S38 (some a2)) else (bnd (f_plain K S5 (some a2)) fun S39 v40 =>
  f_statement_247 K V S39 (some a2))))))))
def f_block_138 (K : Ky) (V : Sg → Option (Sg × Option Nat)) (k61 : Sg → Option Nat → Option (Sg × Option Nat)) (S : Sg) (x1 : Option Nat) (x2 : Option Nat) : Option (Sg × Option Nat) :=
  (oR S 14 x1 2).bind fun v32 =>
  (oI S 14 x1 3).bind fun v33 =>
  (bQ K 11 19 S v32 v33 x2).bind fun S34 =>
  (oI S34 14 x1 3).bind fun v35 =>
  (pV S34 14 x1 3 (.int (v35 + 1))).bind fun S36 =>
  k61 S36 x1
def f_block_107 (K : Ky) (V : Sg → Option (Sg × Option Nat)) (k61 : Sg → Option Nat → Option (Sg × Option Nat)) : Nat → Sg → Option Nat → Option Nat → Option Nat → Int32 → Option (Sg × Option Nat)
  | 0, _, _, _, _, _ => none
  | n9 + 1, S, x1, x2, x3, x4 =>
    (oI S 14 x1 3).bind fun v27 =>
    if v27 ≤ x4 then ((pV S 14 x1 2 (va_rf x3)).bind fun S28 =>
    f_block_138 K V k61 S28 x1 x2) else ((oR S 14 x1 2).bind fun v29 =>
    (aQ K 11 S v29 x4).bind fun v30 =>
    (bQ K 11 19 S x3 x4 v30).bind fun S31 =>
    f_block_107 K V k61 n9 S31 x1 x2 x3 (x4 + 1))
def f_block_161 (K : Ky) (V : Sg → Option (Sg × Option Nat)) (S : Sg) (x1 : Option Nat) : Option (Sg × Option Nat) :=
  (pM S 15 ((Zi S 15) - 1)).bind fun S37 =>
  (pV S37 14 x1 1 (.int (Zi S37 10))).bind fun S38 =>
  bnd (f_take K S38 64) fun S39 v40 =>
  some (S39, x1)
def f_block_61 (K : Ky) (V : Sg → Option (Sg × Option Nat)) : Nat → Sg → Option Nat → Option (Sg × Option Nat)
  | 0, _, _ => none
  | n9 + 1, S, x1 =>
    bnd (f_ok K S) fun S15 v16 =>
    if v16 = 0 then (f_block_161 K V S15 x1) else (bnd (f_is K S15 64) fun S17 v18 =>
    if v18 = 0 then (bnd (f_statement K V S17) fun S19 v20 =>
    (oI S19 14 x1 3).bind fun v21 =>
    (oR S19 14 x1 2).bind fun v22 =>
    (aLn K 11 S19 v22).bind fun v23 =>
    if v21 = v23 then ((oI S19 14 x1 3).bind fun v24 =>
    bnd (nQ K 11 S19 (2 * v24)) fun S25 a26 =>
    f_block_107 K V ((f_block_61 K V n9)) bigN S25 x1 v20 (some a26) 0) else (f_block_138 K V ((f_block_61 K V n9)) S19 x1 v20)) else (f_block_161 K V S17 x1))
def f_block_55 (K : Ky) (V : Sg → Option (Sg × Option Nat)) (S : Sg) (x1 : Option Nat) : Option (Sg × Option Nat) :=
  bnd (f_take K S 63) fun S13 v14 =>
  f_block_61 K V bigN S13 x1
def f_block (K : Ky) : Nat → Sg → Option (Sg × Option Nat)
  | 0, _ => none
  | d + 1, S0 =>
    bnd (nO K S0 14 4 [.int 0, .int 0, .null, .int 0]) fun S1 a2 =>
    bnd (f_X14_init K S1 a2) fun S3 _ =>
    bnd (f_ok K S3) fun S5 v6 =>
    if v6 = 0 then (some (S5, some a2)) else ((pV S5 14 (some a2) 0 (.int (Zi S5 10))).bind fun S7 =>
    bnd (f_is K S7 63) fun S8 v9 =>
    if v9 = 0 then ((pM S8 15 ((Zi S8 15) + 1)).bind fun S10 =>
    f_block_55 K (f_block K d) S10 (some a2)) else (bnd (f_enter K S8 (Zi S8 10)) fun S11 v12 =>
    f_block_55 K (f_block K d) S11 (some a2)))
def f_function_194 (K : Ky) (S : Sg) (x1 : Option Nat) : Option (Sg × Unit) :=
  bnd (f_block K 20 S) fun S48 v49 =>
  (pV S48 16 x1 16 (va_rf v49)).bind fun S50 =>
  (pV S50 16 x1 18 (.int (Zi S50 16))).bind fun S51 =>
  some (S51, ())
def f_function_177 (K : Ky) (S : Sg) (x1 : Option Nat) : Option (Sg × Unit) :=
  bnd (f_takes K S 65) fun S43 v44 =>
  if v44 = 0 then (f_function_194 K S43 x1) else (bnd (f_written K 20 S43) fun S45 v46 =>
  (pV S45 16 x1 14 (va_rf v46)).bind fun S47 =>
  f_function_194 K S47 x1)
def f_function_171 (K : Ky) (S : Sg) (x1 : Option Nat) : Option (Sg × Unit) :=
  bnd (f_take K S 62) fun S41 v42 =>
  f_function_177 K S41 x1
def f_function_135 (K : Ky) : Nat → Sg → Option Nat → Int32 → Option (Sg × Unit)
  | 0, _, _, _ => none
  | n9 + 1, S, x1, x2 =>
    bnd (f_ok K S) fun S34 v35 =>
    if v35 = 0 then (f_function_171 K S34 x1) else (if x2 = 0 then (f_function_171 K S34 x1) else (bnd (f_fields K S34 x1) fun S36 v37 =>
    (pM S36 16 ((Zi S36 16) + 1)).bind fun S38 =>
    bnd (f_takes K S38 57) fun S39 v40 =>
    f_function_135 K n9 S39 x1 v40))
def f_function_103 (K : Ky) (S : Sg) (x1 : Option Nat) : Option (Sg × Unit) :=
  (pM S 15 0).bind fun S27 =>
  (pM S27 16 0).bind fun S28 =>
  (pM S28 17 0).bind fun S29 =>
  bnd (f_take K S29 61) fun S30 v31 =>
  bnd (f_takes K S30 62) fun S32 v33 =>
  if v33 = 0 then (f_function_135 K bigN S32 x1 1) else (f_function_177 K S32 x1)
def f_function_18 (K : Ky) (S : Sg) (x1 : Option Nat) : Option (Sg × Unit) :=
  (pM S 14 ((Zi S 14) + 1)).bind fun S3 =>
  (pM S3 10 ((Zi S3 10) + 1)).bind fun S4 =>
  bnd (nQ K 12 S4 13) fun S5 a6 =>
  (pV S5 16 x1 9 (va_rf (some a6))).bind fun S7 =>
  bnd (nQ K 4 S7 13) fun S8 a9 =>
  (pV S8 16 x1 10 (va_rf (some a9))).bind fun S10 =>
  bnd (nQ K 5 S10 13) fun S11 a12 =>
  (pV S11 16 x1 17 (va_rf (some a12))).bind fun S13 =>
  bnd (nA K S13 8) fun S14 a15 =>
  (pV S14 16 x1 12 (va_rf (some a15))).bind fun S16 =>
  bnd (nA K S16 13) fun S17 a18 =>
  (pV S17 16 x1 13 (va_rf (some a18))).bind fun S19 =>
  bnd (f_name K S19) fun S20 v21 =>
  (pV S20 16 x1 1 (.int v21)).bind fun S22 =>
  bnd (f_takes K S22 47) fun S23 v24 =>
  if v24 = 0 then (f_function_103 K S23 x1) else (bnd (f_takeLives K S23 x1) fun S25 v26 =>
  f_function_103 K S25 x1)
def f_function (K : Ky) (S0 : Sg) (x1 : Option Nat) : Option (Sg × Unit) :=
  if (Zi S0 14) = 40 then (bnd (f_fail K S0 2 (Zi S0 10)) fun S1 v2 =>
  f_function_18 K S1 x1) else (f_function_18 K S0 x1)
def f_X16_init (K : Ky) (S0 : Sg) (x0 : Nat) : Option (Sg × Unit) :=
  bnd (nA K S0 13) fun S1 a2 =>
  (pV S1 16 (some x0) 8 (va_rf (some a2))).bind fun S3 =>
  some (S3, ())
def f_program_128 (K : Ky) (k25 : Sg → Option (Sg × Unit)) (S : Sg) (x1 : Option Nat) : Option (Sg × Unit) :=
  bnd (f_ok K S) fun S30 v31 =>
  if v31 = 0 then (some (S30, ())) else ((wQ S30 16 11 (Zi S30 12) x1).bind fun S32 =>
  (pM S32 12 ((Zi S32 12) + 1)).bind fun S33 =>
  k25 S33)
def f_program_77 (K : Ky) (k25 : Sg → Option (Sg × Unit)) (S : Sg) : Option (Sg × Unit) :=
  bnd (nO K S 16 22 [.int 0, .int 0, .int 0, .int 0, .int 0, .int 0, .int 0, .int 0, .null, .null, .null, .null, .null, .null, .null, .null, .null, .null, .int 0, .int 0, .int 0, .int 0]) fun S18 a19 =>
  bnd (f_X16_init K S18 a19) fun S20 _ =>
  (pV S20 16 (some a19) 0 (.int (Zi S20 10))).bind fun S22 =>
  (rI S22 5 (Zi S22 10)).bind fun v23 =>
  (pV S22 16 (some a19) 2 (.int v23)).bind fun S24 =>
  (oI S24 16 (some a19) 2).bind fun v25 =>
  if v25 = 12 then (bnd (f_function K S24 (some a19)) fun S28 v29 =>
  f_program_128 K k25 S28 (some a19)) else (bnd (f_typeItem K S24 (some a19)) fun S26 v27 =>
  f_program_128 K k25 S26 (some a19))
def f_program_159 (K : Ky) (S : Sg) : Option (Sg × Unit) :=
  some (S, ())
def f_program_25 (K : Ky) : Nat → Sg → Option (Sg × Unit)
  | 0, _ => none
  | n9 + 1, S =>
    bnd (f_ok K S) fun S6 v7 =>
    if v7 = 0 then (f_program_159 K S6) else (bnd (f_is K S6 0) fun S8 v9 =>
    if v9 = 0 then (bnd (f_is K S8 10) fun S10 v11 =>
    if v11 = 0 then (bnd (f_is K S10 11) fun S12 v13 =>
    if v13 = 0 then (bnd (f_is K S12 12) fun S14 v15 =>
    if v15 = 0 then (bnd (f_fail K S14 1 (Zi S14 10)) fun S16 v17 =>
    some (S16, ())) else (f_program_77 K ((f_program_25 K n9)) S14)) else (f_program_77 K ((f_program_25 K n9)) S12)) else (f_program_77 K ((f_program_25 K n9)) S10)) else (f_program_159 K S8))
def f_program (K : Ky) (S0 : Sg) : Option (Sg × Unit) :=
  (pM S0 12 0).bind fun S1 =>
  (pM S1 13 0).bind fun S2 =>
  (pM S2 14 0).bind fun S3 =>
  (pM S3 10 0).bind fun S4 =>
  (pM S4 15 0).bind fun S5 =>
  f_program_25 K bigN S5
def f_type_62 (K : Ky) (k3 : Sg → Int32 → Int32 → Option Nat → Int32 → Option (Sg × Option Nat)) (S : Sg) (x1 : Int32) (x2 : Int32) (x3 : Option Nat) (x4 : Int32) : Option (Sg × Option Nat) :=
  k3 S x1 x2 x3 (x4 + 1)
def f_type_3 (K : Ky) : Nat → Sg → Int32 → Int32 → Option Nat → Int32 → Option (Sg × Option Nat)
  | 0, _, _, _, _, _ => none
  | n9 + 1, S, x1, x2, x3, x4 =>
    if (Zi S 19) ≤ x4 then (bnd (nO K S 20 4 [.int 0, .int 0, .int 0, .null]) fun S1 a2 =>
    (pV S1 20 (some a2) 0 (.int x1)).bind fun S5 =>
    (pV S5 20 (some a2) 1 (.int x2)).bind fun S6 =>
    (pV S6 20 (some a2) 3 (va_rf x3)).bind fun S7 =>
    (pV S7 20 (some a2) 2 (.int (Zi S7 19))).bind fun S8 =>
    (wQ S8 20 18 (Zi S8 19) (some a2)).bind fun S9 =>
    (pM S9 19 ((Zi S9 19) + 1)).bind fun S10 =>
    some (S10, some a2)) else ((rQ S 18 x4).bind fun v11 =>
    (oI S 20 v11 0).bind fun v12 =>
    if v12 = x1 then ((rQ S 18 x4).bind fun v13 =>
    (oI S 20 v13 1).bind fun v14 =>
    if v14 = x2 then ((rQ S 18 x4).bind fun v15 =>
    (oR S 20 v15 3).bind fun v16 =>
    if v16 = x3 then ((rQ S 18 x4).bind fun v17 =>
    some (S, v17)) else (f_type_62 K ((f_type_3 K n9)) S x1 x2 x3 x4)) else (f_type_62 K ((f_type_3 K n9)) S x1 x2 x3 x4)) else (f_type_62 K ((f_type_3 K n9)) S x1 x2 x3 x4))
def f_type (K : Ky) (S0 : Sg) (x1 : Int32) (x2 : Int32) (x3 : Option Nat) : Option (Sg × Option Nat) :=
  f_type_3 K bigN S0 x1 x2 x3 0
