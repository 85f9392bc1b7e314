def f_newFields_101 (K : Ky) (V : Sg → Int32 → Option (Sg × Option Nat)) (V2 : Sg → Option (Sg × Option Nat)) (k63 : Sg → Option Nat → Int32 → Option (Sg × Unit)) (S : Sg) (x1 : Option Nat) : Option (Sg × Unit) :=
  bnd (f_takes K S 57) fun S25 v26 =>
  k63 S25 x1 v26
def f_newFields_111 (K : Ky) (V : Sg → Int32 → Option (Sg × Option Nat)) (V2 : Sg → Option (Sg × Option Nat)) (S : Sg) : Option (Sg × Unit) :=
  (pM S 15 ((Zi S 15) - 1)).bind fun S27 =>
  bnd (f_take K S27 64) fun S28 v29 =>
  some (S28, ())
def f_newFields_63 (K : Ky) (V : Sg → Int32 → Option (Sg × Option Nat)) (V2 : Sg → Option (Sg × Option Nat)) : Nat → Sg → Option Nat → Int32 → Option (Sg × Unit)
  | 0, _, _, _ => none
  | n9 + 1, S, x1, x2 =>
    bnd (f_ok K S) fun S13 v14 =>
    if v14 = 0 then (f_newFields_111 K V V2 S13) else (if x2 = 0 then (f_newFields_111 K V V2 S13) else (bnd (f_name K S13) fun S15 v16 =>
    bnd (f_take K S15 58) fun S17 v18 =>
    bnd (f_ok K S17) fun S19 v20 =>
    if v20 = 0 then (f_newFields_101 K V V2 ((f_newFields_63 K V V2 n9)) S19 x1) else (bnd (f_exp K V V2 S19) fun S21 v22 =>
    bnd (f_add K S21 x1 v22 v16) fun S23 v24 =>
    f_newFields_101 K V V2 ((f_newFields_63 K V V2 n9)) S23 x1)))
def f_newFields_55 (K : Ky) (V : Sg → Int32 → Option (Sg × Option Nat)) (V2 : Sg → Option (Sg × Option Nat)) (S : Sg) (x1 : Option Nat) : Option (Sg × Unit) :=
  bnd (f_take K S 63) fun S11 v12 =>
  f_newFields_63 K V V2 bigN S11 x1 1
def f_newFields_45 (K : Ky) (V : Sg → Int32 → Option (Sg × Option Nat)) (V2 : Sg → Option (Sg × Option Nat)) (S : Sg) (x1 : Option Nat) : Option (Sg × Unit) :=
  (pM S 15 ((Zi S 15) + 1)).bind fun S30 =>
  f_newFields_55 K V V2 S30 x1
def f_newFields (K : Ky) (V : Sg → Int32 → Option (Sg × Option Nat)) (V2 : Sg → Option (Sg × Option Nat)) (S0 : Sg) (x1 : Option Nat) : Option (Sg × Unit) :=
  (pM S0 10 ((Zi S0 10) + 1)).bind fun S1 =>
  bnd (f_name K S1) fun S2 v3 =>
  (pV S2 15 x1 3 (.int v3)).bind fun S4 =>
  bnd (f_ok K S4) fun S5 v6 =>
  if v6 = 0 then (f_newFields_45 K V V2 S5 x1) else (bnd (f_is K S5 63) fun S7 v8 =>
  if v8 = 0 then (f_newFields_45 K V V2 S7 x1) else (bnd (f_enter K S7 (Zi S7 10)) fun S9 v10 =>
  f_newFields_55 K V V2 S9 x1))
def f_list_92 (K : Ky) (V : Sg → Int32 → Option (Sg × Option Nat)) (V2 : Sg → Option (Sg × Option Nat)) (S : Sg) : Option (Sg × Unit) :=
  (pM S 15 ((Zi S 15) - 1)).bind fun S12 =>
  bnd (f_take K S12 62) fun S13 v14 =>
  some (S13, ())
def f_list_62 (K : Ky) (V : Sg → Int32 → Option (Sg × Option Nat)) (V2 : Sg → Option (Sg × Option Nat)) : Nat → Sg → Option Nat → Int32 → Option (Sg × Unit)
  | 0, _, _, _ => none
  | n9 + 1, S, x1, x2 =>
    bnd (f_ok K S) fun S15 v16 =>
    if v16 = 0 then (f_list_92 K V V2 S15) else (if x2 = 0 then (f_list_92 K V V2 S15) else (bnd (f_exp K V V2 S15) fun S17 v18 =>
    bnd (f_add K S17 x1 v18 0) fun S19 v20 =>
    bnd (f_takes K S19 57) fun S21 v22 =>
    f_list_62 K V V2 n9 S21 x1 v22))
def f_list_60 (K : Ky) (V : Sg → Int32 → Option (Sg × Option Nat)) (V2 : Sg → Option (Sg × Option Nat)) (S : Sg) (x1 : Option Nat) : Option (Sg × Unit) :=
  f_list_62 K V V2 bigN S x1 1
def f_list_37 (K : Ky) (V : Sg → Int32 → Option (Sg × Option Nat)) (V2 : Sg → Option (Sg × Option Nat)) (S : Sg) (x1 : Option Nat) : Option (Sg × Unit) :=
  bnd (f_take K S 61) fun S7 v8 =>
  (oI S7 15 x1 0).bind fun v9 =>
  if v9 = 3 then (bnd (f_is K S7 62) fun S10 v11 =>
  if v11 = 0 then (f_list_60 K V V2 S10 x1) else (f_list_92 K V V2 S10)) else (f_list_60 K V V2 S7 x1)
def f_list_27 (K : Ky) (V : Sg → Int32 → Option (Sg × Option Nat)) (V2 : Sg → Option (Sg × Option Nat)) (S : Sg) (x1 : Option Nat) : Option (Sg × Unit) :=
  (pM S 15 ((Zi S 15) + 1)).bind fun S23 =>
  f_list_37 K V V2 S23 x1
def f_list (K : Ky) (V : Sg → Int32 → Option (Sg × Option Nat)) (V2 : Sg → Option (Sg × Option Nat)) (S0 : Sg) (x1 : Option Nat) : Option (Sg × Unit) :=
  bnd (f_ok K S0) fun S1 v2 =>
  if v2 = 0 then (f_list_27 K V V2 S1 x1) else (bnd (f_is K S1 61) fun S3 v4 =>
  if v4 = 0 then (f_list_27 K V V2 S3 x1) else (bnd (f_enter K S3 (Zi S3 10)) fun S5 v6 =>
  f_list_37 K V V2 S5 x1))
def f_named_92 (K : Ky) (V : Sg → Int32 → Option (Sg × Option Nat)) (V2 : Sg → Option (Sg × Option Nat)) (S : Sg) : Option (Sg × Unit) :=
  some (S, ())
def f_named (K : Ky) (V : Sg → Int32 → Option (Sg × Option Nat)) (V2 : Sg → Option (Sg × Option Nat)) (S0 : Sg) (x1 : Option Nat) : Option (Sg × Unit) :=
  (pV S0 15 x1 3 (.int (Zi S0 10))).bind fun S1 =>
  (pM S1 10 ((Zi S1 10) + 1)).bind fun S2 =>
  bnd (f_is K S2 61) fun S3 v4 =>
  if v4 = 0 then (bnd (f_takes K S3 59) fun S5 v6 =>
  if v6 = 0 then ((pV S5 15 x1 0 (.int 2)).bind fun S7 =>
  f_named_92 K V V2 S7) else ((pV S5 15 x1 0 (.int 6)).bind fun S8 =>
  bnd (f_name K S8) fun S9 v10 =>
  (pV S9 15 x1 2 (.int v10)).bind fun S11 =>
  bnd (f_ok K S11) fun S12 v13 =>
  if v13 = 0 then (f_named_92 K V V2 S12) else (bnd (f_is K S12 61) fun S14 v15 =>
  if v15 = 0 then (f_named_92 K V V2 S14) else (bnd (f_list K V V2 S14 x1) fun S16 v17 =>
  f_named_92 K V V2 S16)))) else ((pV S3 15 x1 0 (.int 3)).bind fun S18 =>
  bnd (f_list K V V2 S18 x1) fun S19 v20 =>
  f_named_92 K V V2 S19)
def f_enterBracket_58 (K : Ky) (V : Sg → Int32 → Option (Sg × Option Nat)) (V2 : Sg → Option (Sg × Option Nat)) (S : Sg) : Option (Sg × Unit) :=
  (pM S 15 ((Zi S 15) - 1)).bind fun S14 =>
  bnd (f_take K S14 62) fun S15 v16 =>
  some (S15, ())
def f_enterBracket_37 (K : Ky) (V : Sg → Int32 → Option (Sg × Option Nat)) (V2 : Sg → Option (Sg × Option Nat)) (S : Sg) (x1 : Option Nat) : Option (Sg × Unit) :=
  bnd (f_take K S 61) fun S7 v8 =>
  bnd (f_ok K S7) fun S9 v10 =>
  if v10 = 0 then (f_enterBracket_58 K V V2 S9) else (bnd (f_exp K V V2 S9) fun S11 v12 =>
  (pV S11 15 x1 8 (va_rf v12)).bind fun S13 =>
  f_enterBracket_58 K V V2 S13)
def f_enterBracket_27 (K : Ky) (V : Sg → Int32 → Option (Sg × Option Nat)) (V2 : Sg → Option (Sg × Option Nat)) (S : Sg) (x1 : Option Nat) : Option (Sg × Unit) :=
  (pM S 15 ((Zi S 15) + 1)).bind fun S17 =>
  f_enterBracket_37 K V V2 S17 x1
def f_enterBracket (K : Ky) (V : Sg → Int32 → Option (Sg × Option Nat)) (V2 : Sg → Option (Sg × Option Nat)) (S0 : Sg) (x1 : Option Nat) : Option (Sg × Unit) :=
  bnd (f_ok K S0) fun S1 v2 =>
  if v2 = 0 then (f_enterBracket_27 K V V2 S1 x1) else (bnd (f_is K S1 61) fun S3 v4 =>
  if v4 = 0 then (f_enterBracket_27 K V V2 S3 x1) else (bnd (f_enter K S3 (Zi S3 10)) fun S5 v6 =>
  f_enterBracket_37 K V V2 S5 x1))
def f_primary_253 (K : Ky) (V : Sg → Int32 → Option (Sg × Option Nat)) (V2 : Sg → Option (Sg × Option Nat)) (S : Sg) (x1 : Option Nat) : Option (Sg × Option Nat) :=
  some (S, x1)
def f_primary_151 (K : Ky) (V : Sg → Int32 → Option (Sg × Option Nat)) (V2 : Sg → Option (Sg × Option Nat)) (S : Sg) (x1 : Option Nat) (y0 : Int64) (y1 : Option Nat) : Option (Sg × Option Nat) :=
  (pV S 15 y1 6 (.long y0)).bind fun S30 =>
  (pM S30 10 ((Zi S30 10) + 1)).bind fun S31 =>
  f_primary_253 K V V2 S31 x1
def f_primary_131 (K : Ky) (V : Sg → Int32 → Option (Sg × Option Nat)) (V2 : Sg → Option (Sg × Option Nat)) (S : Sg) (x1 : Option Nat) : Option (Sg × Option Nat) :=
  (pV S 15 x1 0 (.int 1)).bind fun S27 =>
  bnd (f_is K S27 21) fun S28 v29 =>
  if v29 = 0 then (f_primary_151 K V V2 S28 x1 0 x1) else (f_primary_151 K V V2 S28 x1 1 x1)
def f_primary (K : Ky) (V : Sg → Int32 → Option (Sg × Option Nat)) (V2 : Sg → Option (Sg × Option Nat)) (S0 : Sg) : Option (Sg × Option Nat) :=
  bnd (nO K S0 15 14 [.int 0, .int 0, .int 0, .int 0, .int 0, .int 0, .long 0, .int 0, .null, .null, .null, .int 0, .null, .null]) fun S1 a2 =>
  (pV S1 15 (some a2) 1 (.int (Zi S1 10))).bind fun S5 =>
  (rI S5 5 (Zi S5 10)).bind fun v6 =>
  if v6 = 2 then (bnd (f_named K V V2 S5 (some a2)) fun S7 v8 =>
  f_primary_253 K V V2 S7 (some a2)) else (if v6 = 3 then ((pV S5 15 (some a2) 0 (.int 0)).bind fun S9 =>
  (rJ S9 8 (Zi S9 10)).bind fun v10 =>
  (pV S9 15 (some a2) 6 (.long v10)).bind fun S11 =>
  (pM S11 10 ((Zi S11 10) + 1)).bind fun S12 =>
  f_primary_253 K V V2 S12 (some a2)) else (if v6 = 21 then (f_primary_131 K V V2 S5 (some a2)) else (if v6 = 22 then (f_primary_131 K V V2 S5 (some a2)) else (if v6 = 24 then ((pV S5 15 (some a2) 0 (.int 5)).bind fun S13 =>
  bnd (f_newFields K V V2 S13 (some a2)) fun S14 v15 =>
  f_primary_253 K V V2 S14 (some a2)) else (if v6 = 25 then ((pV S5 15 (some a2) 0 (.int 4)).bind fun S16 =>
  (pM S16 10 ((Zi S16 10) + 1)).bind fun S17 =>
  bnd (f_enterBracket K V V2 S17 (some a2)) fun S18 v19 =>
  f_primary_253 K V V2 S18 (some a2)) else (if v6 = 28 then ((pV S5 15 (some a2) 0 (.int 15)).bind fun S20 =>
  (pM S20 10 ((Zi S20 10) + 1)).bind fun S21 =>
  f_primary_253 K V V2 S21 (some a2)) else (if v6 = 61 then ((pV S5 15 (some a2) 0 (.int 7)).bind fun S22 =>
  bnd (f_enterBracket K V V2 S22 (some a2)) fun S23 v24 =>
  f_primary_253 K V V2 S23 (some a2)) else (bnd (f_fail K S5 1 (Zi S5 10)) fun S25 v26 =>
  f_primary_253 K V V2 S25 (some a2)))))))))
def f_suffixed_38 (K : Ky) (V : Sg → Int32 → Option (Sg × Option Nat)) (V2 : Sg → Option (Sg × Option Nat)) (k7 : Sg → Option Nat → Int32 → Option (Sg × Option Nat)) (S : Sg) (x1 : Option Nat) (x2 : Int32) : Option (Sg × Option Nat) :=
  (pM S 10 ((Zi S 10) + 1)).bind fun S9 =>
  bnd (nO K S9 15 14 [.int 0, .int 0, .int 0, .int 0, .int 0, .int 0, .long 0, .int 0, .null, .null, .null, .int 0, .null, .null]) fun S10 a11 =>
  (pV S10 15 (some a11) 0 (.int 14)).bind fun S14 =>
  (oI S14 15 x1 1).bind fun v15 =>
  (pV S14 15 (some a11) 1 (.int v15)).bind fun S16 =>
  (pV S16 15 (some a11) 8 (va_rf x1)).bind fun S17 =>
  bnd (f_name K S17) fun S18 v19 =>
  (pV S18 15 (some a11) 3 (.int v19)).bind fun S20 =>
  k7 S20 (some a11) (x2 + 1)
def f_suffixed_91 (K : Ky) (V : Sg → Int32 → Option (Sg × Option Nat)) (V2 : Sg → Option (Sg × Option Nat)) (S : Sg) (x1 : Option Nat) : Option (Sg × Option Nat) :=
  some (S, x1)
def f_suffixed_7 (K : Ky) (V : Sg → Int32 → Option (Sg × Option Nat)) (V2 : Sg → Option (Sg × Option Nat)) : Nat → Sg → Option Nat → Int32 → Option (Sg × Option Nat)
  | 0, _, _, _ => none
  | n9 + 1, S, x1, x2 =>
    bnd (f_ok K S) fun S3 v4 =>
    if v4 = 0 then (f_suffixed_91 K V V2 S3 x1) else (bnd (f_is K S3 56) fun S5 v6 =>
    if v6 = 0 then (f_suffixed_91 K V V2 S5 x1) else (if x2 = 16 then (bnd (f_fail K S5 2 (Zi S5 10)) fun S7 v8 =>
    f_suffixed_38 K V V2 ((f_suffixed_7 K V V2 n9)) S7 x1 x2) else (f_suffixed_38 K V V2 ((f_suffixed_7 K V V2 n9)) S5 x1 x2)))
def f_suffixed (K : Ky) (V : Sg → Int32 → Option (Sg × Option Nat)) (V2 : Sg → Option (Sg × Option Nat)) (S0 : Sg) : Option (Sg × Option Nat) :=
  bnd (f_primary K V V2 S0) fun S1 v2 =>
  f_suffixed_7 K V V2 bigN S1 v2 0
def f_chain_124 (K : Ky) (V : Sg → Int32 → Option (Sg × Option Nat)) (V2 : Sg → Option (Sg × Option Nat)) (k29 : Sg → Int32 → Option Nat → Option Nat → Option (Sg × Option Nat)) (S : Sg) (x1 : Int32) (x2 : Option Nat) (x3 : Option Nat) (x4 : Int32) (x5 : Option Nat) : Option (Sg × Option Nat) :=
  bnd (f_add K S x3 x5 x4) fun S24 v25 =>
  k29 S24 x1 x2 x3
def f_chain_144 (K : Ky) (V : Sg → Int32 → Option (Sg × Option Nat)) (V2 : Sg → Option (Sg × Option Nat)) (S : Sg) (y0 : Option Nat) : Option (Sg × Option Nat) :=
  some (S, y0)
def f_chain_135 (K : Ky) (V : Sg → Int32 → Option (Sg × Option Nat)) (V2 : Sg → Option (Sg × Option Nat)) (S : Sg) (x2 : Option Nat) (x3 : Option Nat) : Option (Sg × Option Nat) :=
  if x3 = none then (f_chain_144 K V V2 S x2) else (f_chain_144 K V V2 S x3)
def f_chain_29 (K : Ky) (V : Sg → Int32 → Option (Sg × Option Nat)) (V2 : Sg → Option (Sg × Option Nat)) : Nat → Sg → Int32 → Option Nat → Option Nat → Option (Sg × Option Nat)
  | 0, _, _, _, _ => none
  | n9 + 1, S, x1, x2, x3 =>
    bnd (f_ok K S) fun S5 v6 =>
    if v6 = 0 then (f_chain_135 K V V2 S5 x2 x3) else ((rI S5 5 (Zi S5 10)).bind fun v7 =>
    bnd (f_levelOf K S5 v7) fun S8 v9 =>
    if v9 = x1 then ((pM S8 10 ((Zi S8 10) + 1)).bind fun S10 =>
    bnd (f_enter K S10 (Zi S8 10)) fun S11 v12 =>
    bnd (V S11 (x1 + 1)) fun S13 v14 =>
    (pM S13 15 ((Zi S13 15) - 1)).bind fun S15 =>
    if x3 = none then (bnd (nO K S15 15 14 [.int 0, .int 0, .int 0, .int 0, .int 0, .int 0, .long 0, .int 0, .null, .null, .null, .int 0, .null, .null]) fun S16 a17 =>
    (pV S16 15 (some a17) 0 (.int 8)).bind fun S20 =>
    (oI S20 15 x2 1).bind fun v21 =>
    (pV S20 15 (some a17) 1 (.int v21)).bind fun S22 =>
    (pV S22 15 (some a17) 8 (va_rf x2)).bind fun S23 =>
    f_chain_124 K V V2 ((f_chain_29 K V V2 n9)) S23 x1 x2 (some a17) (Zi S8 10) v14) else (f_chain_124 K V V2 ((f_chain_29 K V V2 n9)) S15 x1 x2 x3 (Zi S8 10) v14)) else (f_chain_135 K V V2 S8 x2 x3))
def f_chain_19 (K : Ky) (V : Sg → Int32 → Option (Sg × Option Nat)) (V2 : Sg → Option (Sg × Option Nat)) (S : Sg) (x1 : Int32) (y0 : Option Nat) : Option (Sg × Option Nat) :=
  if x1 ≤ 5 then (f_chain_29 K V V2 bigN S x1 y0 none) else (some (S, y0))
def f_chain (K : Ky) (V : Sg → Int32 → Option (Sg × Option Nat)) (V2 : Sg → Option (Sg × Option Nat)) (S0 : Sg) (x1 : Int32) : Option (Sg × Option Nat) :=
  if x1 ≤ 5 then (bnd (V S0 (x1 + 1)) fun S1 v2 =>
  f_chain_19 K V V2 S1 x1 v2) else (bnd (V2 S0) fun S3 v4 =>
  f_chain_19 K V V2 S3 x1 v4)
def f_unary_164 (K : Ky) (V : Sg → Int32 → Option (Sg × Option Nat)) (V2 : Sg → Option (Sg × Option Nat)) (S : Sg) (x1 : Option Nat) : Option (Sg × Option Nat) :=
  bnd (V2 S) fun S20 v21 =>
  (pV S20 15 x1 8 (va_rf v21)).bind fun S22 =>
  (pM S22 15 ((Zi S22 15) - 1)).bind fun S23 =>
  some (S23, x1)
def f_unary_138 (K : Ky) (V : Sg → Int32 → Option (Sg × Option Nat)) (V2 : Sg → Option (Sg × Option Nat)) (S : Sg) (x1 : Option Nat) (x2 : Int32) : Option (Sg × Option Nat) :=
  (pM S 10 ((Zi S 10) + 1)).bind fun S16 =>
  if x2 = 55 then (bnd (f_takes K S16 14) fun S17 v18 =>
  (pZ S17 15 x1 7 v18).bind fun S19 =>
  f_unary_164 K V V2 S19 x1) else (f_unary_164 K V V2 S16 x1)
def f_unary_117 (K : Ky) (V : Sg → Int32 → Option (Sg × Option Nat)) (V2 : Sg → Option (Sg × Option Nat)) (S : Sg) (x1 : Option Nat) (x2 : Int32) (y0 : Int32) (y1 : Option Nat) : Option (Sg × Option Nat) :=
  (pV S 15 y1 0 (.int y0)).bind fun S11 =>
  bnd (f_enter K S11 (Zi S11 10)) fun S12 v13 =>
  if x2 = 55 then (bnd (f_borrow K S12) fun S14 v15 =>
  f_unary_138 K V V2 S14 x1 x2) else (f_unary_138 K V V2 S12 x1 x2)
def f_unary_62 (K : Ky) (V : Sg → Int32 → Option (Sg × Option Nat)) (V2 : Sg → Option (Sg × Option Nat)) (S : Sg) (x1 : Option Nat) (x2 : Int32) : Option (Sg × Option Nat) :=
  (pV S 15 x1 1 (.int (Zi S 10))).bind fun S10 =>
  if x2 = 53 then (f_unary_117 K V V2 S10 x1 x2 9 x1) else (if x2 = 41 then (f_unary_117 K V V2 S10 x1 x2 10 x1) else (if x2 = 42 then (f_unary_117 K V V2 S10 x1 x2 11 x1) else (if x2 = 55 then (f_unary_117 K V V2 S10 x1 x2 12 x1) else (f_unary_117 K V V2 S10 x1 x2 13 x1))))
def f_unary (K : Ky) (V : Sg → Int32 → Option (Sg × Option Nat)) (V2 : Sg → Option (Sg × Option Nat)) (S0 : Sg) : Option (Sg × Option Nat) :=
  bnd (nO K S0 15 14 [.int 0, .int 0, .int 0, .int 0, .int 0, .int 0, .long 0, .int 0, .null, .null, .null, .int 0, .null, .null]) fun S1 a2 =>
  bnd (f_ok K S1) fun S5 v6 =>
  if v6 = 0 then (some (S5, some a2)) else ((rI S5 5 (Zi S5 10)).bind fun v7 =>
  if v7 = 53 then (f_unary_62 K V V2 S5 (some a2) v7) else (if v7 = 41 then (f_unary_62 K V V2 S5 (some a2) v7) else (if v7 = 42 then (f_unary_62 K V V2 S5 (some a2) v7) else (if v7 = 55 then (f_unary_62 K V V2 S5 (some a2) v7) else (if v7 = 23 then (f_unary_62 K V V2 S5 (some a2) v7) else (bnd (f_suffixed K V V2 S5) fun S8 v9 =>
  some (S8, v9)))))))
def g_X23_chain (K : Ky) : Nat → ((Sg → Int32 → Option (Sg × Option Nat)) × (Sg → Option (Sg × Option Nat)))
  | 0 => (fun _ _ => none, fun _ => none)
  | d + 1 => (f_chain K (g_X23_chain K d).1 (g_X23_chain K d).2, f_unary K (g_X23_chain K d).1 (g_X23_chain K d).2)
def f_chain9 (K : Ky) (d : Nat) : Sg → Int32 → Option (Sg × Option Nat) := (g_X23_chain K d).1
def f_unary9 (K : Ky) (d : Nat) : Sg → Option (Sg × Option Nat) := (g_X23_chain K d).2
def f_growBranch_22 (K : Ky) : Nat → Sg → Option Nat → Option Nat → Option Nat → Int32 → Option (Sg × Unit)
  | 0, _, _, _, _, _ => none
  | n9 + 1, S, x0, x1, x2, x3 =>
    (oI S 19 x0 13).bind fun v7 =>
    if v7 ≤ x3 then ((pV S 19 x0 10 (va_rf x1)).bind fun S8 =>
    (pV S8 19 x0 11 (va_rf x2)).bind fun S9 =>
    some (S9, ())) else ((oR S 19 x0 10).bind fun v10 =>
    (aQ K 9 S v10 x3).bind fun v11 =>
    (bQ K 9 15 S x1 x3 v11).bind fun S12 =>
    (oR S12 19 x0 11).bind fun v13 =>
    (aQ K 10 S12 v13 x3).bind fun v14 =>
    (bQ K 10 14 S12 x2 x3 v14).bind fun S15 =>
    f_growBranch_22 K n9 S15 x0 x1 x2 (x3 + 1))
def f_growBranch (K : Ky) (S0 : Sg) (x0 : Option Nat) : Option (Sg × Unit) :=
  (oI S0 19 x0 13).bind fun v1 =>
  bnd (nQ K 9 S0 (2 * v1)) fun S2 a3 =>
  (oI S2 19 x0 13).bind fun v4 =>
  bnd (nQ K 10 S2 (2 * v4)) fun S5 a6 =>
  f_growBranch_22 K bigN S5 x0 (some a3) (some a6) 0
def f_oneVariable_33 (K : Ky) (S : Sg) : Option (Sg × Unit) :=
  (pM S 16 ((Zi S 16) + 1)).bind fun S7 =>
  some (S7, ())
def f_oneVariable (K : Ky) (S0 : Sg) : Option (Sg × Unit) :=
  bnd (f_ok K S0) fun S1 v2 =>
  if v2 = 0 then (f_oneVariable_33 K S1) else (bnd (f_is K S1 2) fun S3 v4 =>
  if v4 = 0 then (f_oneVariable_33 K S3) else (if (Zi S3 16) = 40 then (bnd (f_fail K S3 2 (Zi S3 10)) fun S5 v6 =>
  f_oneVariable_33 K S5) else (f_oneVariable_33 K S3)))
def f_let_71 (K : Ky) (S : Sg) : Option (Sg × Unit) :=
  bnd (f_take K S 60) fun S21 v22 =>
  some (S21, ())
def f_let_54 (K : Ky) (S : Sg) (x1 : Option Nat) : Option (Sg × Unit) :=
  bnd (f_takes K S 54) fun S16 v17 =>
  if v17 = 0 then (f_let_71 K S16) else (bnd (f_exp K (f_chain9 K 140) (f_unary9 K 140) S16) fun S18 v19 =>
  (pV S18 19 x1 6 (va_rf v19)).bind fun S20 =>
  f_let_71 K S20)
def f_let (K : Ky) (S0 : Sg) (x1 : Option Nat) : Option (Sg × Unit) :=
  (pV S0 19 x1 0 (.int 0)).bind fun S1 =>
  (pM S1 10 ((Zi S1 10) + 1)).bind fun S2 =>
  bnd (f_takes K S2 14) fun S3 v4 =>
  (pZ S3 19 x1 3 v4).bind fun S5 =>
  bnd (f_oneVariable K S5) fun S6 v7 =>
  bnd (f_name K S6) fun S8 v9 =>
  (pV S8 19 x1 2 (.int v9)).bind fun S10 =>
  bnd (f_takes K S10 58) fun S11 v12 =>
  if v12 = 0 then (f_let_54 K S11 x1) else (bnd (f_written K 20 S11) fun S13 v14 =>
  (pV S13 19 x1 5 (va_rf v14)).bind fun S15 =>
  f_let_54 K S15 x1)
def f_X13_init (K : Ky) (S0 : Sg) (x0 : Nat) : Option (Sg × Unit) :=
  bnd (nA K S0 12) fun S1 a2 =>
  (pV S1 13 (some x0) 2 (va_rf (some a2))).bind fun S3 =>
  bnd (nQ K 5 S3 12) fun S4 a5 =>
  (pV S4 13 (some x0) 4 (va_rf (some a5))).bind fun S6 =>
  some (S6, ())
