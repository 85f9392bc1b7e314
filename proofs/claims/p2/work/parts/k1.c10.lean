-- k1.c10.lean.txt
section
def f_uses (K : Ky) (S0 : Sg) (x1 : Int32) (x2 : Option Nat) : Option (Sg × Unit) :=
  (pM S0 48 ((Zi S0 48) - 1)).bind fun S1 =>
  bnd (f_refers K S1 x2) fun S2 v3 =>
  if v3 = 0 then (some (S2, ())) else (bnd (f_temporary K S2 (Zi S2 48)) fun S4 v5 =>
  bnd (f_just K S4 v5) fun S6 v7 =>
  (wA K S6 37 x1 v7).bind fun S8 =>
  bnd (f_temporary K S8 (Zi S8 48)) fun S9 v10 =>
  bnd (f_just K S9 v10) fun S11 v12 =>
  (wA K S11 36 x1 v12).bind fun S13 =>
  some (S13, ()))
def f_layAssign_120 (K : Ky) (S : Sg) : Option (Sg × Unit) :=
  some (S, ())
def f_layAssign (K : Ky) (S0 : Sg) (x1 : Option Nat) : Option (Sg × Unit) :=
  (oR S0 19 x1 6).bind fun v1 =>
  bnd (f_give K 410 S0 v1) fun S2 v3 =>
  (oR S2 19 x1 7).bind fun v4 =>
  bnd (f_pathOf K S2 v4) fun S5 v6 =>
  (oR S5 19 x1 7).bind fun v7 =>
  (oI S5 15 v7 1).bind fun v8 =>
  bnd (f_point K S5 14 v8) fun S9 v10 =>
  (wRI S9 33 v10 6).bind fun S11 =>
  (wQ S11 18 38 v10 v6).bind fun S12 =>
  (oBk S12 18 v6).bind fun b15 =>
  bnd (f_X18_type K S12 b15) fun S13 v14 =>
  (wQ S13 20 39 v10 v14).bind fun S16 =>
  (oR S16 19 x1 6).bind fun v17 =>
  (oR S16 15 v17 12).bind fun v18 =>
  bnd (f_uses K S16 v10 v18) fun S19 v20 =>
  (oI S19 18 v6 1).bind fun v21 =>
  if v21 = 0 then ((oR S19 18 v6 0).bind fun v31 =>
  (oI S19 21 v31 0).bind fun v32 =>
  (wRI S19 34 v10 v32).bind fun S33 =>
  f_layAssign_120 K S33) else ((oR S19 18 v6 3).bind fun v22 =>
  (aQ K 4 S19 v22 0).bind fun v23 =>
  bnd (f_refers K S19 v23) fun S24 v25 =>
  if v25 = 0 then (f_layAssign_120 K S24) else ((oR S24 18 v6 0).bind fun v26 =>
  (oI S24 21 v26 0).bind fun v27 =>
  bnd (f_just K S24 v27) fun S28 v29 =>
  (wA K S28 37 v10 v29).bind fun S30 =>
  f_layAssign_120 K S30))
def f_layLet_80 (K : Ky) (S : Sg) (x1 : Option Nat) : Option (Sg × Unit) :=
  (oR S 19 x1 8).bind fun v19 =>
  bnd (f_comesAlive K S v19) fun S20 v21 =>
  some (S20, ())
def f_layLet_30 (K : Ky) (S : Sg) (x1 : Option Nat) (y0 : Int32) : Option (Sg × Unit) :=
  (oI S 19 x1 2).bind fun v6 =>
  bnd (f_point K S y0 v6) fun S7 v8 =>
  (oR S7 19 x1 8).bind fun v9 =>
  (wQ S7 21 40 v8 v9).bind fun S10 =>
  (oR S10 19 x1 8).bind fun v11 =>
  (oI S10 21 v11 0).bind fun v12 =>
  (wRI S10 34 v8 v12).bind fun S13 =>
  (oR S13 19 x1 6).bind fun v14 =>
  if v14 = none then (f_layLet_80 K S13 x1) else ((oR S13 19 x1 6).bind fun v15 =>
  (oR S13 15 v15 12).bind fun v16 =>
  bnd (f_uses K S13 v8 v16) fun S17 v18 =>
  f_layLet_80 K S17 x1)
def f_layLet_15 (K : Ky) (S : Sg) (x1 : Option Nat) : Option (Sg × Unit) :=
  (oR S 19 x1 6).bind fun v5 =>
  if v5 = none then (f_layLet_30 K S x1 13) else (f_layLet_30 K S x1 12)
def f_layLet (K : Ky) (S0 : Sg) (x1 : Option Nat) : Option (Sg × Unit) :=
  (oR S0 19 x1 6).bind fun v1 =>
  if v1 = none then (f_layLet_15 K S0 x1) else ((oR S0 19 x1 6).bind fun v2 =>
  bnd (f_give K 410 S0 v2) fun S3 v4 =>
  f_layLet_15 K S3 x1)
def f_layPart_202 (K : Ky) (S : Sg) (x2 : Option Nat) (x3 : Int32) (x6 : Int32) (y0 : Int32) (y1 : Option Nat) (y3 : Int32) : Option (Sg × Unit) :=
  bnd (f_newLoan K S y1 y0) fun S39 v40 =>
  (wRI S39 35 y3 v40).bind fun S41 =>
  (oR S41 13 x2 4).bind fun v42 =>
  (aQ K 5 S41 v42 x3).bind fun v43 =>
  (oI S41 21 v43 0).bind fun v44 =>
  (wRI S41 34 x6 v44).bind fun S45 =>
  some (S45, ())
def f_layPart_64 (K : Ky) : Nat → Sg → Option Nat → Option Nat → Int32 → Option Nat → Option Nat → Int32 → Option (Sg × Unit)
  | 0, _, _, _, _, _, _, _ => none
  | n9 + 1, S, x1, x2, x3, x4, x5, x6 =>
    (oI S 18 x4 1).bind fun v13 =>
    if v13 < x6 then ((oR S 18 x5 2).bind fun v14 =>
    (oI S 18 x4 1).bind fun v15 =>
    (oI S 13 x2 1).bind fun v16 =>
    (bI K S v14 v15 ((1000 + (16 * v16)) + x3)).bind fun S17 =>
    (oR S17 18 x5 3).bind fun v18 =>
    (oI S17 18 x4 1).bind fun v19 =>
    (oR S17 13 x2 4).bind fun v20 =>
    (aQ K 5 S17 v20 x3).bind fun v21 =>
    (oR S17 21 v21 2).bind fun v22 =>
    (oR S17 20 v22 3).bind fun v23 =>
    (bQ K 4 20 S17 v18 (v19 + 1) v23).bind fun S24 =>
    (oR S24 19 x1 6).bind fun v25 =>
    (oI S24 15 v25 1).bind fun v26 =>
    bnd (f_point K S24 23 v26) fun S27 v28 =>
    bnd (f_through K S27 v28 x5) fun S29 v30 =>
    (oR S29 13 x2 4).bind fun v31 =>
    (aQ K 5 S29 v31 x3).bind fun v32 =>
    (wQ S29 21 40 v28 v32).bind fun S33 =>
    (oI S33 19 x1 3).bind fun v34 =>
    if v34 = 0 then (f_layPart_202 K S33 x2 x3 v28 1 x5 v28) else (f_layPart_202 K S33 x2 x3 v28 0 x5 v28)) else ((oR S 18 x5 3).bind fun v35 =>
    (oR S 18 x4 3).bind fun v36 =>
    (aQ K 4 S v36 x6).bind fun v37 =>
    (bQ K 4 20 S v35 x6 v37).bind fun S38 =>
    f_layPart_64 K n9 S38 x1 x2 x3 x4 x5 (x6 + 1))
def f_layPart_29 (K : Ky) : Nat → Sg → Option Nat → Option Nat → Int32 → Option Nat → Option Nat → Int32 → Option (Sg × Unit)
  | 0, _, _, _, _, _, _, _ => none
  | n9 + 1, S, x1, x2, x3, x4, x5, x6 =>
    (oI S 18 x4 1).bind fun v8 =>
    if v8 ≤ x6 then (f_layPart_64 K bigN S x1 x2 x3 x4 x5 0) else ((oR S 18 x5 2).bind fun v9 =>
    (oR S 18 x4 2).bind fun v10 =>
    (aI K S v10 x6).bind fun v11 =>
    (bI K S v9 x6 v11).bind fun S12 =>
    f_layPart_29 K n9 S12 x1 x2 x3 x4 x5 (x6 + 1))
def f_layPart (K : Ky) (S0 : Sg) (x1 : Option Nat) (x2 : Option Nat) (x3 : Int32) (x4 : Option Nat) : Option (Sg × Unit) :=
  bnd (nO K S0 18 4 [.null, .int 0, .null, .null]) fun S1 a2 =>
  (oI S1 18 x4 1).bind fun v3 =>
  bnd (f_X18_init K S1 a2 (v3 + 1)) fun S4 _ =>
  (oR S4 18 x4 0).bind fun v6 =>
  (pV S4 18 (some a2) 0 (va_rf v6)).bind fun S7 =>
  f_layPart_29 K bigN S7 x1 x2 x3 x4 (some a2) 0
def f_layReturn_87 (K : Ky) (S : Sg) (x1 : Option Nat) (x2 : Int32) : Option (Sg × Unit) :=
  (oI S 19 x1 1).bind fun v25 =>
  bnd (f_point K S 26 v25) fun S26 v27 =>
  (pM S26 48 x2).bind fun S28 =>
  some (S28, ())
def f_layReturn_20 (K : Ky) (S : Sg) (x1 : Option Nat) (x2 : Int32) : Option (Sg × Unit) :=
  (oI S 19 x1 1).bind fun v5 =>
  bnd (f_goOut K S 0 v5) fun S6 v7 =>
  (oR S6 19 x1 6).bind fun v8 =>
  if v8 = none then (f_layReturn_87 K S6 x1 x2) else ((oR S6 19 x1 6).bind fun v9 =>
  (oR S6 15 v9 12).bind fun v10 =>
  bnd (f_refers K S6 v10) fun S11 v12 =>
  if v12 = 0 then (f_layReturn_87 K S11 x1 x2) else ((oR S11 19 x1 6).bind fun v13 =>
  (oI S11 15 v13 1).bind fun v14 =>
  bnd (f_point K S11 25 v14) fun S15 v16 =>
  bnd (f_temporary K S15 x2) fun S17 v18 =>
  bnd (f_just K S17 v18) fun S19 v20 =>
  (wA K S19 37 v16 v20).bind fun S21 =>
  bnd (f_temporary K S21 x2) fun S22 v23 =>
  (wRI S22 28 v16 v23).bind fun S24 =>
  f_layReturn_87 K S24 x1 x2))
def f_layReturn (K : Ky) (S0 : Sg) (x1 : Option Nat) : Option (Sg × Unit) :=
  (oR S0 19 x1 6).bind fun v1 =>
  if v1 = none then (f_layReturn_20 K S0 x1 (Zi S0 48)) else ((oR S0 19 x1 6).bind fun v2 =>
  bnd (f_give K 410 S0 v2) fun S3 v4 =>
  f_layReturn_20 K S3 x1 (Zi S0 48))
def f_layWhile (K : Ky) (V : Sg → Option Nat → Option (Sg × Unit)) (S0 : Sg) (x1 : Option Nat) : Option (Sg × Unit) :=
  (oI S0 19 x1 1).bind fun v1 =>
  bnd (f_point K S0 0 v1) fun S2 v3 =>
  (oR S2 19 x1 6).bind fun v4 =>
  bnd (f_give K 410 S2 v4) fun S5 v6 =>
  (pM S5 48 ((Zi S5 48) - 1)).bind fun S7 =>
  (oI S7 19 x1 1).bind fun v8 =>
  bnd (f_point K S7 17 v8) fun S9 v10 =>
  (oR S9 19 x1 9).bind fun v11 =>
  bnd (V S9 v11) fun S12 v13 =>
  (oI S12 19 x1 1).bind fun v14 =>
  bnd (f_point K S12 16 v14) fun S15 v16 =>
  (wRI S15 30 v16 v3).bind fun S17 =>
  (wRI S17 30 v10 (Zi S17 26)).bind fun S18 =>
  some (S18, ())
def f_layMatch_237 (K : Ky) (V : Sg → Option Nat → Option (Sg × Unit)) (k142 : Sg → Option Nat → Option Nat → Int32 → Option Nat → Int32 → Option (Sg × Unit)) (k210 : Sg → Option Nat → Option Nat → Int32 → Option Nat → Int32 → Option Nat → Int32 → Int32 → Option (Sg × Unit)) (S : Sg) (x1 : Option Nat) (x2 : Option Nat) (x3 : Int32) (x4 : Option Nat) (x5 : Int32) (x6 : Option Nat) (x7 : Int32) (x8 : Int32) : Option (Sg × Unit) :=
  (oR S 13 x6 4).bind fun v58 =>
  (aQ K 5 S v58 x8).bind fun v59 =>
  bnd (f_comesAlive K S v59) fun S60 v61 =>
  k210 S60 x1 x2 x3 x4 x5 x6 x7 (x8 + 1)
def f_layMatch_210 (K : Ky) (V : Sg → Option Nat → Option (Sg × Unit)) (k142 : Sg → Option Nat → Option Nat → Int32 → Option Nat → Int32 → Option (Sg × Unit)) : Nat → Sg → Option Nat → Option Nat → Int32 → Option Nat → Int32 → Option Nat → Int32 → Int32 → Option (Sg × Unit)
  | 0, _, _, _, _, _, _, _, _, _ => none
  | n9 + 1, S, x1, x2, x3, x4, x5, x6, x7, x8 =>
    (oI S 13 x6 3).bind fun v42 =>
    if v42 ≤ x8 then ((oR S 13 x6 5).bind fun v43 =>
    bnd (V S v43) fun S44 v45 =>
    (oR S44 13 x6 5).bind fun v46 =>
    (oI S44 14 v46 1).bind fun v47 =>
    bnd (f_goOut K S44 x7 v47) fun S48 v49 =>
    (pM S48 50 x7).bind fun S50 =>
    (oI S50 19 x1 1).bind fun v51 =>
    bnd (f_point K S50 16 v51) fun S52 v53 =>
    (bI K S52 x4 x5 v53).bind fun S54 =>
    k142 S54 x1 x2 x3 x4 (x5 + 1)) else ((oI S 19 x1 4).bind fun v55 =>
    if v55 = 0 then (f_layMatch_237 K V k142 ((f_layMatch_210 K V k142 n9)) S x1 x2 x3 x4 x5 x6 x7 x8) else (bnd (f_layPart K S x1 x6 x8 x2) fun S56 v57 =>
    f_layMatch_237 K V k142 ((f_layMatch_210 K V k142 n9)) S56 x1 x2 x3 x4 x5 x6 x7 x8))
def f_layMatch_207 (K : Ky) (V : Sg → Option Nat → Option (Sg × Unit)) (k142 : Sg → Option Nat → Option Nat → Int32 → Option Nat → Int32 → Option (Sg × Unit)) (S : Sg) (x1 : Option Nat) (x2 : Option Nat) (x3 : Int32) (x4 : Option Nat) (x5 : Int32) (x6 : Option Nat) (x7 : Int32) : Option (Sg × Unit) :=
  f_layMatch_210 K V k142 bigN S x1 x2 x3 x4 x5 x6 x7 0
def f_layMatch_308 (K : Ky) (V : Sg → Option Nat → Option (Sg × Unit)) : Nat → Sg → Option Nat → Option Nat → Int32 → Option (Sg × Unit)
  | 0, _, _, _, _ => none
  | n9 + 1, S, x1, x4, x5 =>
    (oI S 19 x1 13).bind fun v62 =>
    if v62 ≤ x5 then (some (S, ())) else ((aI K S x4 x5).bind fun v63 =>
    (wRI S 30 v63 (Zi S 26)).bind fun S64 =>
    f_layMatch_308 K V n9 S64 x1 x4 (x5 + 1))
def f_layMatch_142 (K : Ky) (V : Sg → Option Nat → Option (Sg × Unit)) : Nat → Sg → Option Nat → Option Nat → Int32 → Option Nat → Int32 → Option (Sg × Unit)
  | 0, _, _, _, _, _, _ => none
  | n9 + 1, S, x1, x2, x3, x4, x5 =>
    (oI S 19 x1 13).bind fun v31 =>
    if v31 ≤ x5 then (f_layMatch_308 K V bigN S x1 x4 0) else ((oR S 19 x1 12).bind fun v32 =>
    (aQ K 7 S v32 x5).bind fun v33 =>
    (rQ S 42 x3).bind fun v34 =>
    (oI S 13 v33 1).bind fun v35 =>
    (bI K S v34 v35 (Zi S 26)).bind fun S36 =>
    (oI S36 19 x1 4).bind fun v37 =>
    if v37 = 0 then ((oI S36 13 v33 0).bind fun v38 =>
    bnd (f_point K S36 22 v38) fun S39 v40 =>
    (wQ S39 13 41 v40 v33).bind fun S41 =>
    f_layMatch_207 K V ((f_layMatch_142 K V n9)) S41 x1 x2 x3 x4 x5 v33 (Zi S 50)) else (f_layMatch_207 K V ((f_layMatch_142 K V n9)) S36 x1 x2 x3 x4 x5 v33 (Zi S 50)))
def f_layMatch_105 (K : Ky) (V : Sg → Option Nat → Option (Sg × Unit)) (S : Sg) (x1 : Option Nat) (x2 : Option Nat) (x3 : Int32) : Option (Sg × Unit) :=
  (oR S 19 x1 6).bind fun v20 =>
  (oR S 15 v20 12).bind fun v21 =>
  (oI S 20 v21 1).bind fun v22 =>
  (rQ S 11 v22).bind fun v23 =>
  (oI S 16 v23 3).bind fun v24 =>
  bnd (nA K S v24) fun S25 a26 =>
  (wA K S25 42 x3 (some a26)).bind fun S27 =>
  (oI S27 19 x1 13).bind fun v28 =>
  bnd (nA K S27 v28) fun S29 a30 =>
  f_layMatch_142 K V bigN S29 x1 x2 x3 (some a30) 0
def f_layMatch_91 (K : Ky) (V : Sg → Option Nat → Option (Sg × Unit)) (S : Sg) (x1 : Option Nat) (x2 : Option Nat) (x3 : Int32) (y0 : Int32) (y1 : Int32) : Option (Sg × Unit) :=
  (wRI S 33 y1 y0).bind fun S19 =>
  f_layMatch_105 K V S19 x1 x2 x3
def f_layMatch_50 (K : Ky) (V : Sg → Option Nat → Option (Sg × Unit)) (S : Sg) (x1 : Option Nat) (x2 : Option Nat) (y0 : Int32) : Option (Sg × Unit) :=
  (oR S 19 x1 6).bind fun v10 =>
  (oI S 15 v10 1).bind fun v11 =>
  bnd (f_point K S y0 v11) fun S12 v13 =>
  (oI S12 19 x1 4).bind fun v14 =>
  if v14 = 0 then ((pM S12 48 ((Zi S12 48) - 1)).bind fun S15 =>
  f_layMatch_105 K V S15 x1 x2 v13) else (bnd (f_through K S12 v13 x2) fun S16 v17 =>
  (oI S16 19 x1 3).bind fun v18 =>
  if v18 = 0 then (f_layMatch_91 K V S16 x1 x2 v13 2 v13) else (f_layMatch_91 K V S16 x1 x2 v13 3 v13))
def f_layMatch_35 (K : Ky) (V : Sg → Option Nat → Option (Sg × Unit)) (S : Sg) (x1 : Option Nat) (x2 : Option Nat) : Option (Sg × Unit) :=
  (oI S 19 x1 4).bind fun v9 =>
  if v9 = 0 then (f_layMatch_50 K V S x1 x2 20) else (f_layMatch_50 K V S x1 x2 21)
def f_layMatch_19 (K : Ky) (V : Sg → Option Nat → Option (Sg × Unit)) (S : Sg) (x1 : Option Nat) (y0 : Option Nat) : Option (Sg × Unit) :=
  (oI S 19 x1 4).bind fun v5 =>
  if v5 = 0 then ((oR S 19 x1 6).bind fun v6 =>
  bnd (f_give K 410 S v6) fun S7 v8 =>
  f_layMatch_35 K V S7 x1 y0) else (f_layMatch_35 K V S x1 y0)
def f_layMatch (K : Ky) (V : Sg → Option Nat → Option (Sg × Unit)) (S0 : Sg) (x1 : Option Nat) : Option (Sg × Unit) :=
  (oI S0 19 x1 4).bind fun v1 =>
  if v1 = 0 then (f_layMatch_19 K V S0 x1 none) else ((oR S0 19 x1 6).bind fun v2 =>
  bnd (f_pathOf K S0 v2) fun S3 v4 =>
  f_layMatch_19 K V S3 x1 v4)
def f_layIf_100 (K : Ky) (V : Sg → Option Nat → Option (Sg × Unit)) (k9 : Sg → Option Nat → Option Nat → Int32 → Option (Sg × Unit)) (S : Sg) (x1 : Option Nat) (x2 : Option Nat) (x3 : Int32) : Option (Sg × Unit) :=
  k9 S x1 x2 (x3 + 1)
def f_layIf_61 (K : Ky) (V : Sg → Option Nat → Option (Sg × Unit)) (k9 : Sg → Option Nat → Option Nat → Int32 → Option (Sg × Unit)) (S : Sg) (x1 : Option Nat) (x2 : Option Nat) (x3 : Int32) (x4 : Int32) : Option (Sg × Unit) :=
  (oR S 19 x1 11).bind fun v15 =>
  (aQ K 10 S v15 x3).bind fun v16 =>
  bnd (V S v16) fun S17 v18 =>
  (oI S17 19 x1 1).bind fun v19 =>
  bnd (f_point K S17 16 v19) fun S20 v21 =>
  (bI K S20 x2 x3 v21).bind fun S22 =>
  if x4 < 0 then (f_layIf_100 K V k9 S22 x1 x2 x3) else ((wRI S22 30 x4 (Zi S22 26)).bind fun S23 =>
  f_layIf_100 K V k9 S23 x1 x2 x3)
def f_layIf_108 (K : Ky) (V : Sg → Option Nat → Option (Sg × Unit)) : Nat → Sg → Option Nat → Option Nat → Int32 → Option (Sg × Unit)
  | 0, _, _, _, _ => none
  | n9 + 1, S, x1, x2, x3 =>
    (oI S 19 x1 13).bind fun v24 =>
    if v24 ≤ x3 then (some (S, ())) else ((aI K S x2 x3).bind fun v25 =>
    (wRI S 30 v25 (Zi S 26)).bind fun S26 =>
    f_layIf_108 K V n9 S26 x1 x2 (x3 + 1))
def f_layIf_9 (K : Ky) (V : Sg → Option Nat → Option (Sg × Unit)) : Nat → Sg → Option Nat → Option Nat → Int32 → Option (Sg × Unit)
  | 0, _, _, _, _ => none
  | n9 + 1, S, x1, x2, x3 =>
    (oI S 19 x1 13).bind fun v4 =>
    if v4 ≤ x3 then (f_layIf_108 K V bigN S x1 x2 0) else ((oR S 19 x1 10).bind fun v5 =>
    (aQ K 9 S v5 x3).bind fun v6 =>
    if v6 = none then (f_layIf_61 K V ((f_layIf_9 K V n9)) S x1 x2 x3 (-1)) else ((oR S 19 x1 10).bind fun v7 =>
    (aQ K 9 S v7 x3).bind fun v8 =>
    bnd (f_give K 410 S v8) fun S9 v10 =>
    (pM S9 48 ((Zi S9 48) - 1)).bind fun S11 =>
    (oI S11 19 x1 1).bind fun v12 =>
    bnd (f_point K S11 17 v12) fun S13 v14 =>
    f_layIf_61 K V ((f_layIf_9 K V n9)) S13 x1 x2 x3 v14))
def f_layIf (K : Ky) (V : Sg → Option Nat → Option (Sg × Unit)) (S0 : Sg) (x1 : Option Nat) : Option (Sg × Unit) :=
  (oI S0 19 x1 13).bind fun v1 =>
  bnd (nA K S0 v1) fun S2 a3 =>
  f_layIf_9 K V bigN S2 x1 (some a3) 0
def f_lay_210 (K : Ky) (V : Sg → Option Nat → Option (Sg × Unit)) (S : Sg) : Option (Sg × Unit) :=
  some (S, ())
def f_lay_111 (K : Ky) (V : Sg → Option Nat → Option (Sg × Unit)) (S : Sg) (x2 : Int32) : Option (Sg × Unit) :=
  (pM S 48 x2).bind fun S39 =>
  f_lay_210 K V S39
def f_lay (K : Ky) (V : Sg → Option Nat → Option (Sg × Unit)) (S0 : Sg) (x1 : Option Nat) : Option (Sg × Unit) :=
  (oI S0 19 x1 1).bind fun v1 =>
  bnd (f_point K S0 0 v1) fun S2 v3 =>
  (oI S2 19 x1 0).bind fun v4 =>
  if v4 = 0 then (bnd (f_layLet K S2 x1) fun S5 v6 =>
  f_lay_210 K V S5) else (if v4 = 1 then ((oR S2 19 x1 6).bind fun v7 =>
  bnd (f_give K 410 S2 v7) fun S8 v9 =>
  if (Zi S8 48) ≤ (Zi S2 48) then (f_lay_111 K V S8 (Zi S2 48)) else ((oI S8 19 x1 1).bind fun v10 =>
  bnd (f_point K S8 11 v10) fun S11 v12 =>
  (oR S11 19 x1 6).bind fun v13 =>
  (oR S11 15 v13 12).bind fun v14 =>
  (wQ S11 20 39 v12 v14).bind fun S15 =>
  f_lay_111 K V S15 (Zi S2 48))) else (if v4 = 2 then (bnd (f_layAssign K S2 x1) fun S16 v17 =>
  f_lay_210 K V S16) else (if v4 = 3 then (bnd (f_layIf K V S2 x1) fun S18 v19 =>
  f_lay_210 K V S18) else (if v4 = 4 then (bnd (f_layWhile K V S2 x1) fun S20 v21 =>
  f_lay_210 K V S20) else (if v4 = 5 then (bnd (f_layMatch K V S2 x1) fun S22 v23 =>
  f_lay_210 K V S22) else (if v4 = 6 then (bnd (f_layReturn K S2 x1) fun S24 v25 =>
  f_lay_210 K V S24) else (if v4 = 7 then ((oR S2 19 x1 6).bind fun v26 =>
  bnd (f_give K 410 S2 v26) fun S27 v28 =>
  (pM S27 48 ((Zi S27 48) - 1)).bind fun S29 =>
  (oI S29 19 x1 1).bind fun v30 =>
  bnd (f_point K S29 15 v30) fun S31 v32 =>
  (oR S31 19 x1 6).bind fun v33 =>
  (oR S31 15 v33 12).bind fun v34 =>
  (wQ S31 20 39 v32 v34).bind fun S35 =>
  f_lay_210 K V S35) else ((oR S2 19 x1 9).bind fun v36 =>
  bnd (V S2 v36) fun S37 v38 =>
  f_lay_210 K V S37))))))))
def f_layBlock_7 (K : Ky) (V : Sg → Option Nat → Option (Sg × Unit)) : Nat → Sg → Option Nat → Int32 → Int32 → Option (Sg × Unit)
  | 0, _, _, _, _ => none
  | n9 + 1, S, x1, x2, x3 =>
    (oI S 14 x1 3).bind fun v1 =>
    if v1 ≤ x3 then ((oI S 14 x1 1).bind fun v2 =>
    bnd (f_goOut K S x2 v2) fun S3 v4 =>
    (pM S3 50 x2).bind fun S5 =>
    some (S5, ())) else ((oR S 14 x1 2).bind fun v6 =>
    (aQ K 11 S v6 x3).bind fun v7 =>
    bnd (f_lay K V S v7) fun S8 v9 =>
    f_layBlock_7 K V n9 S8 x1 x2 (x3 + 1))
def f_layBlock (K : Ky) : Nat → Sg → Option Nat → Option (Sg × Unit)
  | 0, _, _ => none
  | d + 1, S0, x1 =>
    f_layBlock_7 K (f_layBlock K d) bigN S0 x1 (Zi S0 50) 0
def f_layFunction_99 (K : Ky) (k32 : Sg → Option Nat → Int32 → Option (Sg × Unit)) (S : Sg) (x2 : Option Nat) (x3 : Int32) : Option (Sg × Unit) :=
  k32 S x2 (x3 + 1)
def f_layFunction_32 (K : Ky) : Nat → Sg → Option Nat → Int32 → Option (Sg × Unit)
  | 0, _, _, _ => none
  | n9 + 1, S, x2, x3 =>
    (oI S 16 x2 3).bind fun v6 =>
    if v6 ≤ x3 then ((oR S 16 x2 16).bind fun v7 =>
    bnd (f_layBlock K 45 S v7) fun S8 v9 =>
    (oR S8 16 x2 16).bind fun v10 =>
    (oI S8 14 v10 1).bind fun v11 =>
    bnd (f_goOut K S8 0 v11) fun S12 v13 =>
    (oR S12 16 x2 16).bind fun v14 =>
    (oI S12 14 v14 1).bind fun v15 =>
    bnd (f_point K S12 26 v15) fun S16 v17 =>
    (pV S16 16 x2 4 (.int (Zi S16 26))).bind fun S18 =>
    some (S18, ())) else ((oR S 16 x2 17).bind fun v19 =>
    (aQ K 5 S v19 x3).bind fun v20 =>
    bnd (f_comesAlive K S v20) fun S21 v22 =>
    (oR S21 16 x2 10).bind fun v23 =>
    (aQ K 4 S21 v23 x3).bind fun v24 =>
    bnd (f_refers K S21 v24) fun S25 v26 =>
    if v26 = 0 then (f_layFunction_99 K ((f_layFunction_32 K n9)) S25 x2 x3) else (bnd (f_newLoan K S25 none 1) fun S27 v28 =>
    (oR S27 16 x2 17).bind fun v29 =>
    (aQ K 5 S27 v29 x3).bind fun v30 =>
    (oI S27 21 v30 0).bind fun v31 =>
    (wRI S27 45 v28 v31).bind fun S32 =>
    (oR S32 16 x2 13).bind fun v33 =>
    (aI K S32 v33 x3).bind fun v34 =>
    (wRI S32 46 v28 v34).bind fun S35 =>
    f_layFunction_99 K ((f_layFunction_32 K n9)) S35 x2 x3))
def f_layFunction (K : Ky) (S0 : Sg) (x1 : Int32) : Option (Sg × Unit) :=
  (rQ S0 11 x1).bind fun v1 =>
  (pV S0 16 v1 5 (.int (Zi S0 26))).bind fun S2 =>
  (pM S2 47 0).bind fun S3 =>
  (pM S3 48 0).bind fun S4 =>
  (pM S4 50 0).bind fun S5 =>
  f_layFunction_32 K bigN S5 v1 0
def f_follows_38 (K : Ky) (S : Sg) (y0 : Int32) : Option (Sg × Int32) :=
  some (S, y0)
def f_follows_84 (K : Ky) (S : Sg) (y0 : Int32) : Option (Sg × Int32) :=
  some (S, y0)
def f_follows_61 (K : Ky) (S : Sg) (x1 : Int32) (x2 : Int32) : Option (Sg × Int32) :=
  (rQ S 42 x1).bind fun v7 =>
  (aLn K 0 S v7).bind fun v8 =>
  if v8 ≤ x2 then (f_follows_84 K S (-1)) else ((rQ S 42 x1).bind fun v9 =>
  (aI K S v9 x2).bind fun v10 =>
  f_follows_84 K S v10)
def f_follows_108 (K : Ky) (S : Sg) (y0 : Int32) : Option (Sg × Int32) :=
  some (S, y0)
def f_follows (K : Ky) (S0 : Sg) (x1 : Int32) (x2 : Int32) : Option (Sg × Int32) :=
  (rI S0 27 x1).bind fun v1 =>
  if v1 = 26 then (some (S0, (-1))) else ((rI S0 27 x1).bind fun v2 =>
  if v2 = 16 then (if x2 = 0 then ((rI S0 30 x1).bind fun v6 =>
  f_follows_38 K S0 v6) else (f_follows_38 K S0 (-1))) else ((rI S0 27 x1).bind fun v3 =>
  if v3 = 20 then (f_follows_61 K S0 x1 x2) else ((rI S0 27 x1).bind fun v4 =>
  if v4 = 21 then (f_follows_61 K S0 x1 x2) else (if x2 = 0 then (some (S0, x1 + 1)) else (if x2 = 1 then ((rI S0 30 x1).bind fun v5 =>
  f_follows_108 K S0 v5) else (f_follows_108 K S0 (-1)))))))
end
-- k1.c11.lean.txt
section
def f_reach_31 (K : Ky) (k5 : Sg → Option Nat → Int32 → Option (Sg × Unit)) (S : Sg) (x1 : Option Nat) (x2 : Int32) (y0 : Int32) (y1 : Int32) : Option (Sg × Unit) :=
  (wZ S 52 y1 y0).bind fun S4 =>
  k5 S4 x1 (x2 + 1)
def f_reach_111 (K : Ky) (k40 : Sg → Option Nat → Int32 → Option (Sg × Unit)) (k51 : Sg → Option Nat → Int32 → Int32 → Option (Sg × Unit)) (k62 : Sg → Option Nat → Int32 → Int32 → Int32 → Option (Sg × Unit)) (S : Sg) (x1 : Option Nat) (x2 : Int32) (x3 : Int32) (x4 : Int32) : Option (Sg × Unit) :=
  k62 S x1 x2 x3 (x4 + 1)
def f_reach_117 (K : Ky) (k40 : Sg → Option Nat → Int32 → Option (Sg × Unit)) (k51 : Sg → Option Nat → Int32 → Int32 → Option (Sg × Unit)) (S : Sg) (x1 : Option Nat) (x2 : Int32) (x3 : Int32) : Option (Sg × Unit) :=
  k51 S x1 x2 (x3 + 1)
def f_reach_62 (K : Ky) (k40 : Sg → Option Nat → Int32 → Option (Sg × Unit)) (k51 : Sg → Option Nat → Int32 → Int32 → Option (Sg × Unit)) : Nat → Sg → Option Nat → Int32 → Int32 → Int32 → Option (Sg × Unit)
  | 0, _, _, _, _, _ => none
  | n9 + 1, S, x1, x2, x3, x4 =>
    (rI S 52 x3).bind fun v7 =>
    if v7 = 0 then (f_reach_117 K k40 k51 S x1 x2 x3) else (bnd (f_follows K S x3 x4) fun S8 v9 =>
    if v9 < 0 then (f_reach_117 K k40 k51 S8 x1 x2 x3) else (bnd (f_follows K S8 x3 x4) fun S10 v11 =>
    (rI S10 52 v11).bind fun v12 =>
    if v12 = 0 then (bnd (f_follows K S10 x3 x4) fun S13 v14 =>
    (wZ S13 52 v14 1).bind fun S15 =>
    f_reach_111 K k40 k51 ((f_reach_62 K k40 k51 n9)) S15 x1 1 x3 x4) else (f_reach_111 K k40 k51 ((f_reach_62 K k40 k51 n9)) S10 x1 x2 x3 x4)))
def f_reach_51 (K : Ky) (k40 : Sg → Option Nat → Int32 → Option (Sg × Unit)) : Nat → Sg → Option Nat → Int32 → Int32 → Option (Sg × Unit)
  | 0, _, _, _, _ => none
  | n9 + 1, S, x1, x2, x3 =>
    (oI S 16 x1 4).bind fun v6 =>
    if v6 ≤ x3 then (k40 S x1 x2) else (f_reach_62 K k40 ((f_reach_51 K k40 n9)) bigN S x1 x2 x3 0)
def f_reach_40 (K : Ky) : Nat → Sg → Option Nat → Int32 → Option (Sg × Unit)
  | 0, _, _, _ => none
  | n9 + 1, S, x1, x2 =>
    if x2 = 0 then (some (S, ())) else ((oI S 16 x1 5).bind fun v5 =>
    f_reach_51 K ((f_reach_40 K n9)) bigN S x1 0 v5)
def f_reach_5 (K : Ky) : Nat → Sg → Option Nat → Int32 → Option (Sg × Unit)
  | 0, _, _, _ => none
  | n9 + 1, S, x1, x2 =>
    (oI S 16 x1 4).bind fun v2 =>
    if v2 ≤ x2 then (f_reach_40 K bigN S x1 1) else ((oI S 16 x1 5).bind fun v3 =>
    if x2 = v3 then (f_reach_31 K ((f_reach_5 K n9)) S x1 x2 1 x2) else (f_reach_31 K ((f_reach_5 K n9)) S x1 x2 0 x2))
def f_reach (K : Ky) (S0 : Sg) (x1 : Option Nat) : Option (Sg × Unit) :=
  (oI S0 16 x1 5).bind fun v1 =>
  f_reach_5 K bigN S0 x1 v1
def f_partsOf_12 (K : Ky) (V : Sg → Option Nat → Option (Sg × Int32)) (S : Sg) : Option (Sg × Int32) :=
  some (S, 1)
def f_partsOf_29 (K : Ky) (V : Sg → Option Nat → Option (Sg × Int32)) : Nat → Sg → Int32 → Option Nat → Int32 → Option (Sg × Int32)
  | 0, _, _, _, _ => none
  | n9 + 1, S, x2, x3, x4 =>
    (oI S 16 x3 3).bind fun v4 =>
    if v4 ≤ x4 then (some (S, x2)) else ((oR S 16 x3 10).bind fun v5 =>
    (aQ K 4 S v5 x4).bind fun v6 =>
    bnd (V S v6) fun S7 v8 =>
    f_partsOf_29 K V n9 S7 (x2 + v8) x3 (x4 + 1))
def f_partsOf (K : Ky) : Nat → Sg → Option Nat → Option (Sg × Int32)
  | 0, _, _ => none
  | d + 1, S0, x1 =>
    if x1 = none then (f_partsOf_12 K (f_partsOf K d) S0) else ((oI S0 20 x1 0).bind fun v1 =>
    if v1 = 3 then ((oI S0 20 x1 1).bind fun v2 =>
    (rQ S0 11 v2).bind fun v3 =>
    f_partsOf_29 K (f_partsOf K d) bigN S0 0 v3 0) else (f_partsOf_12 K (f_partsOf K d) S0))
def f_get_25 (K : Ky) (x0 : Nat) (S : Sg) (y0 : Int32) : Option (Sg × Int32) :=
  (zB y0).bind fun _ => some (S, y0)
def f_get (K : Ky) (S0 : Sg) (x0 : Nat) (x1 : Int32) (x2 : Int32) : Option (Sg × Int32) :=
  (rJ S0 x0 (x1 + (x2 >>> (6 &&& 31)))).bind fun v1 =>
  if (lg_cmp ((lushF v1 (x2 &&& 63)) &&& 1) 1) = 0 then (f_get_25 K x0 S0 1) else (f_get_25 K x0 S0 0)
def f_put_48 (K : Ky) (x0 : Nat) (S : Sg) (y0 : Int64) (y1 : Int32) : Option (Sg × Unit) :=
  (wJ S x0 y1 y0).bind fun S3 =>
  some (S3, ())
def f_put (K : Ky) (S0 : Sg) (x0 : Nat) (x1 : Int32) (x2 : Int32) (x3 : Int32) : Option (Sg × Unit) :=
  if x3 = 0 then ((rJ S0 x0 (x1 + (x2 >>> (6 &&& 31)))).bind fun v1 =>
  f_put_48 K x0 S0 (v1 &&& ((1 <<< (Int32.toInt64 (x2 &&& 63) &&& 63)) ^^^ (-1))) (x1 + (x2 >>> (6 &&& 31)))) else ((rJ S0 x0 (x1 + (x2 >>> (6 &&& 31)))).bind fun v2 =>
  f_put_48 K x0 S0 (v2 ||| (1 <<< (Int32.toInt64 (x2 &&& 63) &&& 63))) (x1 + (x2 >>> (6 &&& 31))))
def f_partFrom_67 (K : Ky) (k21 : Sg → Option Nat → Int32 → Option Nat → Int32 → Option (Sg × Int32)) : Nat → Sg → Option Nat → Int32 → Int32 → Option Nat → Int32 → Option (Sg × Int32)
  | 0, _, _, _, _, _, _ => none
  | n9 + 1, S, x1, x2, x4, x5, x6 =>
    (oR S 18 x1 2).bind fun v12 =>
    (aI K S v12 x4).bind fun v13 =>
    if v13 ≤ x6 then ((oR S 18 x1 3).bind fun v14 =>
    (aQ K 4 S v14 (x4 + 1)).bind fun v15 =>
    k21 S x1 x2 v15 (x4 + 1)) else ((oR S 16 x5 10).bind fun v16 =>
    (aQ K 4 S v16 x6).bind fun v17 =>
    bnd (f_partsOf K 80 S v17) fun S18 v19 =>
    f_partFrom_67 K k21 n9 S18 x1 (x2 + v19) x4 x5 (x6 + 1))
def f_partFrom_116 (K : Ky) (S : Sg) (x2 : Int32) (x3 : Option Nat) : Option (Sg × Int32) :=
  bnd (f_partsOf K 80 S x3) fun S20 v21 =>
  (pM S20 57 v21).bind fun S22 =>
  some (S22, x2)
def f_partFrom_21 (K : Ky) : Nat → Sg → Option Nat → Int32 → Option Nat → Int32 → Option (Sg × Int32)
  | 0, _, _, _, _, _ => none
  | n9 + 1, S, x1, x2, x3, x4 =>
    (oI S 18 x1 1).bind fun v5 =>
    if v5 ≤ x4 then (f_partFrom_116 K S x2 x3) else ((oR S 18 x1 2).bind fun v6 =>
    (aI K S v6 x4).bind fun v7 =>
    if v7 < 0 then (f_partFrom_116 K S x2 x3) else ((oR S 18 x1 2).bind fun v8 =>
    (aI K S v8 x4).bind fun v9 =>
    if 1000 ≤ v9 then (f_partFrom_116 K S x2 x3) else ((oI S 20 x3 1).bind fun v10 =>
    (rQ S 11 v10).bind fun v11 =>
    f_partFrom_67 K ((f_partFrom_21 K n9)) bigN S x1 x2 x4 v11 0)))
def f_partFrom (K : Ky) (S0 : Sg) (x1 : Option Nat) : Option (Sg × Int32) :=
  (oR S0 18 x1 0).bind fun v1 =>
  (oI S0 21 v1 0).bind fun v2 =>
  (oR S0 18 x1 3).bind fun v3 =>
  (aQ K 4 S0 v3 0).bind fun v4 =>
  f_partFrom_21 K bigN S0 x1 (16 * v2) v4 0
def f_hasStar_2 (K : Ky) : Nat → Sg → Option Nat → Int32 → Option (Sg × Int32)
  | 0, _, _, _ => none
  | n9 + 1, S, x0, x1 =>
    (oI S 18 x0 1).bind fun v1 =>
    if v1 ≤ x1 then ((zB 0).bind fun _ => some (S, 0)) else ((oR S 18 x0 2).bind fun v2 =>
    (aI K S v2 x1).bind fun v3 =>
    if v3 = (-1) then ((zB 1).bind fun _ => some (S, 1)) else (f_hasStar_2 K n9 S x0 (x1 + 1)))
def f_hasStar (K : Ky) (S0 : Sg) (x0 : Option Nat) : Option (Sg × Int32) :=
  f_hasStar_2 K bigN S0 x0 0
def f_mark_3 (K : Ky) : Nat → Sg → Int32 → Int32 → Int32 → Int32 → Int32 → Option (Sg × Unit)
  | 0, _, _, _, _, _, _ => none
  | n9 + 1, S, x1, x2, x3, x4, x5 =>
    if (x1 + x2) ≤ x5 then (some (S, ())) else (bnd (f_put K S 56 0 x5 x3) fun S1 v2 =>
    bnd (f_put K S1 55 0 x5 x4) fun S3 v4 =>
    f_mark_3 K n9 S3 x1 x2 x3 x4 (x5 + 1))
def f_mark (K : Ky) (S0 : Sg) (x1 : Int32) (x2 : Int32) (x3 : Int32) (x4 : Int32) : Option (Sg × Unit) :=
  f_mark_3 K bigN S0 x1 x2 x3 x4 x1
def f_moveBehind_360 (K : Ky) (S : Sg) : Option (Sg × Unit) :=
  some (S, ())
def f_moveBehind_180 (K : Ky) (S : Sg) (x1 : Int32) : Option (Sg × Unit) :=
  (rQ S 38 x1).bind fun v36 =>
  bnd (f_partFrom K S v36) fun S37 v38 =>
  bnd (f_mark K S37 v38 (Zi S37 57) 0 1) fun S39 v40 =>
  f_moveBehind_360 K S39
def f_moveBehind_205 (K : Ky) (S : Sg) (x1 : Int32) : Option (Sg × Unit) :=
  (rQ S 40 x1).bind fun v32 =>
  (oI S 21 v32 0).bind fun v33 =>
  bnd (f_mark K S (16 * v33) 16 1 0) fun S34 v35 =>
  f_moveBehind_360 K S34
def f_moveBehind_276 (K : Ky) : Nat → Sg → Int32 → Int32 → Option (Sg × Unit)
  | 0, _, _, _ => none
  | n9 + 1, S, x1, x2 =>
    (rQ S 41 x1).bind fun v24 =>
    (oI S 13 v24 3).bind fun v25 =>
    if v25 ≤ x2 then (f_moveBehind_360 K S) else ((rQ S 41 x1).bind fun v26 =>
    (oR S 13 v26 4).bind fun v27 =>
    (aQ K 5 S v27 x2).bind fun v28 =>
    (oI S 21 v28 0).bind fun v29 =>
    bnd (f_mark K S (16 * v29) 16 1 0) fun S30 v31 =>
    f_moveBehind_276 K n9 S30 x1 (x2 + 1))
def f_moveBehind_2 (K : Ky) : Nat → Sg → Int32 → Int32 → Option (Sg × Unit)
  | 0, _, _, _ => none
  | n9 + 1, S, x1, x2 =>
    if 10 ≤ x2 then ((rI S 27 x1).bind fun v1 =>
    if v1 = 2 then ((rI S 33 x1).bind fun v2 =>
    if v2 = 4 then (f_moveBehind_180 K S x1) else ((rI S 33 x1).bind fun v3 =>
    if v3 = 5 then (f_moveBehind_180 K S x1) else (f_moveBehind_360 K S))) else (if v1 = 3 then (f_moveBehind_360 K S) else (if v1 = 4 then (f_moveBehind_360 K S) else (if v1 = 5 then (f_moveBehind_360 K S) else (if v1 = 6 then (f_moveBehind_360 K S) else (if v1 = 7 then (f_moveBehind_360 K S) else (if v1 = 8 then (f_moveBehind_360 K S) else (if v1 = 9 then (f_moveBehind_360 K S) else (if v1 = 10 then (f_moveBehind_360 K S) else (if v1 = 11 then (f_moveBehind_360 K S) else (if v1 = 12 then (f_moveBehind_205 K S x1) else (if v1 = 13 then ((rQ S 40 x1).bind fun v4 =>
    (oI S 21 v4 0).bind fun v5 =>
    bnd (f_mark K S (16 * v5) 16 0 1) fun S6 v7 =>
    f_moveBehind_360 K S6) else (if v1 = 14 then ((rQ S 38 x1).bind fun v8 =>
    bnd (f_hasStar K S v8) fun S9 v10 =>
    if v10 = 0 then ((rQ S9 38 x1).bind fun v11 =>
    bnd (f_partFrom K S9 v11) fun S12 v13 =>
    bnd (f_mark K S12 v13 (Zi S12 57) 1 0) fun S14 v15 =>
    f_moveBehind_360 K S14) else (f_moveBehind_360 K S9)) else (if v1 = 15 then (f_moveBehind_360 K S) else (if v1 = 16 then (f_moveBehind_360 K S) else (if v1 = 17 then (f_moveBehind_360 K S) else (if v1 = 18 then (f_moveBehind_360 K S) else (if v1 = 19 then (f_moveBehind_360 K S) else (if v1 = 20 then (f_moveBehind_360 K S) else (if v1 = 21 then (f_moveBehind_360 K S) else (if v1 = 22 then (f_moveBehind_276 K bigN S x1 0) else (if v1 = 23 then (f_moveBehind_205 K S x1) else (if v1 = 24 then ((rQ S 40 x1).bind fun v16 =>
    (oI S 21 v16 0).bind fun v17 =>
    bnd (f_mark K S (16 * v17) 16 0 0) fun S18 v19 =>
    f_moveBehind_360 K S18) else (f_moveBehind_360 K S)))))))))))))))))))))))) else ((rJ S 53 ((10 * x1) + x2)).bind fun v20 =>
    (wJ S 55 x2 v20).bind fun S21 =>
    (rJ S21 54 ((10 * x1) + x2)).bind fun v22 =>
    (wJ S21 56 x2 v22).bind fun S23 =>
    f_moveBehind_2 K n9 S23 x1 (x2 + 1))
def f_moveBehind (K : Ky) (S0 : Sg) (x1 : Int32) : Option (Sg × Unit) :=
  f_moveBehind_2 K bigN S0 x1 0
def f_merges_74 (K : Ky) (k4 : Sg → Int32 → Int32 → Int32 → Option (Sg × Int32)) (S : Sg) (x1 : Int32) (x2 : Int32) (x3 : Int32) (x4 : Int64) (x6 : Int64) : Option (Sg × Int32) :=
  (wJ S 53 (x1 + x3) x4).bind fun S7 =>
  (wJ S7 54 (x1 + x3) x6).bind fun S8 =>
  k4 S8 x1 x2 (x3 + 1)
def f_merges_72 (K : Ky) (k4 : Sg → Int32 → Int32 → Int32 → Option (Sg × Int32)) (S : Sg) (x1 : Int32) (x3 : Int32) (x4 : Int64) (x6 : Int64) : Option (Sg × Int32) :=
  f_merges_74 K k4 S x1 1 x3 x4 x6
def f_merges_4 (K : Ky) : Nat → Sg → Int32 → Int32 → Int32 → Option (Sg × Int32)
  | 0, _, _, _, _ => none
  | n9 + 1, S, x1, x2, x3 =>
    if 10 ≤ x3 then ((zB x2).bind fun _ => some (S, x2)) else ((rJ S 53 (x1 + x3)).bind fun v1 =>
    (rJ S 55 x3).bind fun v2 =>
    (rJ S 54 (x1 + x3)).bind fun v3 =>
    (rJ S 56 x3).bind fun v4 =>
    (rJ S 53 (x1 + x3)).bind fun v5 =>
    if (lg_cmp (v1 ||| v2) v5) = 0 then ((rJ S 54 (x1 + x3)).bind fun v6 =>
    if (lg_cmp (v3 ||| v4) v6) = 0 then (f_merges_74 K ((f_merges_4 K n9)) S x1 x2 x3 (v1 ||| v2) (v3 ||| v4)) else (f_merges_72 K ((f_merges_4 K n9)) S x1 x3 (v1 ||| v2) (v3 ||| v4))) else (f_merges_72 K ((f_merges_4 K n9)) S x1 x3 (v1 ||| v2) (v3 ||| v4)))
def f_merges (K : Ky) (S0 : Sg) (x1 : Int32) : Option (Sg × Int32) :=
  f_merges_4 K bigN S0 x1 0 0
def f_spreadMoves_51 (K : Ky) (k41 : Sg → Option Nat → Int32 → Option (Sg × Unit)) : Nat → Sg → Option Nat → Int32 → Int32 → Option (Sg × Unit)
  | 0, _, _, _, _ => none
  | n9 + 1, S, x1, x2, x3 =>
    if 16 ≤ x3 then (k41 S x1 (x2 + 1)) else ((oI S 16 x1 5).bind fun v6 =>
    (oR S 16 x1 17).bind fun v7 =>
    (aQ K 5 S v7 x2).bind fun v8 =>
    (oI S 21 v8 0).bind fun v9 =>
    bnd (f_put K S 54 (10 * v6) ((16 * v9) + x3) 1) fun S10 v11 =>
    f_spreadMoves_51 K k41 n9 S10 x1 x2 (x3 + 1))
def f_spreadMoves_174 (K : Ky) (k100 : Sg → Option Nat → Int32 → Option (Sg × Unit)) (k111 : Sg → Option Nat → Int32 → Int32 → Option (Sg × Unit)) (k136 : Sg → Option Nat → Int32 → Int32 → Int32 → Option (Sg × Unit)) (S : Sg) (x1 : Option Nat) (x2 : Int32) (x3 : Int32) (x4 : Int32) : Option (Sg × Unit) :=
  k136 S x1 x2 x3 (x4 + 1)
def f_spreadMoves_180 (K : Ky) (k100 : Sg → Option Nat → Int32 → Option (Sg × Unit)) (k111 : Sg → Option Nat → Int32 → Int32 → Option (Sg × Unit)) (S : Sg) (x1 : Option Nat) (x2 : Int32) (x3 : Int32) : Option (Sg × Unit) :=
  k111 S x1 x2 (x3 + 1)
def f_spreadMoves_136 (K : Ky) (k100 : Sg → Option Nat → Int32 → Option (Sg × Unit)) (k111 : Sg → Option Nat → Int32 → Int32 → Option (Sg × Unit)) : Nat → Sg → Option Nat → Int32 → Int32 → Int32 → Option (Sg × Unit)
  | 0, _, _, _, _, _ => none
  | n9 + 1, S, x1, x2, x3, x4 =>
    (rI S 52 x3).bind fun v17 =>
    if v17 = 0 then (f_spreadMoves_180 K k100 k111 S x1 x2 x3) else (bnd (f_follows K S x3 x4) fun S18 v19 =>
    if v19 < 0 then (f_spreadMoves_180 K k100 k111 S18 x1 x2 x3) else (bnd (f_follows K S18 x3 x4) fun S20 v21 =>
    bnd (f_merges K S20 (10 * v21)) fun S22 v23 =>
    if v23 = 0 then (f_spreadMoves_174 K k100 k111 ((f_spreadMoves_136 K k100 k111 n9)) S22 x1 x2 x3 x4) else (f_spreadMoves_174 K k100 k111 ((f_spreadMoves_136 K k100 k111 n9)) S22 x1 1 x3 x4)))
def f_spreadMoves_133 (K : Ky) (k100 : Sg → Option Nat → Int32 → Option (Sg × Unit)) (k111 : Sg → Option Nat → Int32 → Int32 → Option (Sg × Unit)) (S : Sg) (x1 : Option Nat) (x2 : Int32) (x3 : Int32) : Option (Sg × Unit) :=
  f_spreadMoves_136 K k100 k111 bigN S x1 x2 x3 0
def f_spreadMoves_111 (K : Ky) (k100 : Sg → Option Nat → Int32 → Option (Sg × Unit)) : Nat → Sg → Option Nat → Int32 → Int32 → Option (Sg × Unit)
  | 0, _, _, _, _ => none
  | n9 + 1, S, x1, x2, x3 =>
    (oI S 16 x1 4).bind fun v13 =>
    if v13 ≤ x3 then (k100 S x1 x2) else ((rI S 52 x3).bind fun v14 =>
    if v14 = 0 then (f_spreadMoves_133 K k100 ((f_spreadMoves_111 K k100 n9)) S x1 x2 x3) else (bnd (f_moveBehind K S x3) fun S15 v16 =>
    f_spreadMoves_133 K k100 ((f_spreadMoves_111 K k100 n9)) S15 x1 x2 x3))
def f_spreadMoves_100 (K : Ky) : Nat → Sg → Option Nat → Int32 → Option (Sg × Unit)
  | 0, _, _, _ => none
  | n9 + 1, S, x1, x2 =>
    if x2 = 0 then (some (S, ())) else ((oI S 16 x1 5).bind fun v12 =>
    f_spreadMoves_111 K ((f_spreadMoves_100 K n9)) bigN S x1 0 v12)
def f_spreadMoves_41 (K : Ky) : Nat → Sg → Option Nat → Int32 → Option (Sg × Unit)
  | 0, _, _, _ => none
  | n9 + 1, S, x1, x2 =>
    (oI S 16 x1 3).bind fun v5 =>
    if v5 ≤ x2 then (f_spreadMoves_100 K bigN S x1 1) else (f_spreadMoves_51 K ((f_spreadMoves_41 K n9)) bigN S x1 x2 0)
def f_spreadMoves_8 (K : Ky) : Nat → Sg → Option Nat → Int32 → Option (Sg × Unit)
  | 0, _, _, _ => none
  | n9 + 1, S, x1, x2 =>
    (oI S 16 x1 4).bind fun v2 =>
    if (10 * v2) ≤ x2 then (f_spreadMoves_41 K bigN S x1 0) else ((wJ S 53 x2 0).bind fun S3 =>
    (wJ S3 54 x2 0).bind fun S4 =>
    f_spreadMoves_8 K n9 S4 x1 (x2 + 1))
def f_spreadMoves (K : Ky) (S0 : Sg) (x1 : Option Nat) : Option (Sg × Unit) :=
  (oI S0 16 x1 5).bind fun v1 =>
  f_spreadMoves_8 K bigN S0 x1 (10 * v1)
def f_some_3 (K : Ky) (x1 : Nat) : Nat → Sg → Int32 → Int32 → Int32 → Int32 → Option (Sg × Int32)
  | 0, _, _, _, _, _ => none
  | n9 + 1, S, x2, x3, x4, x5 =>
    if (x3 + x4) ≤ x5 then ((zB 0).bind fun _ => some (S, 0)) else (bnd (f_get K S x1 (10 * x2) x5) fun S1 v2 =>
    if v2 = 0 then (f_some_3 K x1 n9 S1 x2 x3 x4 (x5 + 1)) else ((zB 1).bind fun _ => some (S1, 1)))
def f_some (K : Ky) (S0 : Sg) (x1 : Nat) (x2 : Int32) (x3 : Int32) (x4 : Int32) : Option (Sg × Int32) :=
  f_some_3 K x1 bigN S0 x2 x3 x4 x3
def f_moveWrong_17 (K : Ky) (S : Sg) : Option (Sg × Int32) :=
  (zB 0).bind fun _ => some (S, 0)
def f_moveWrong_48 (K : Ky) (S : Sg) (x1 : Int32) (x3 : Int32) : Option (Sg × Int32) :=
  bnd (f_some K S 53 x1 x3 (Zi S 57)) fun S15 v16 =>
  (zB v16).bind fun _ => some (S15, v16)
def f_moveWrong_112 (K : Ky) (S : Sg) (y0 : Int32) : Option (Sg × Int32) :=
  (zB y0).bind fun _ => some (S, y0)
def f_moveWrong_111 (K : Ky) (S : Sg) : Option (Sg × Int32) :=
  f_moveWrong_112 K S 0
def f_moveWrong (K : Ky) (S0 : Sg) (x1 : Int32) : Option (Sg × Int32) :=
  (rI S0 33 x1).bind fun v1 =>
  if v1 = 0 then (f_moveWrong_17 K S0) else (if v1 = 7 then (f_moveWrong_17 K S0) else ((rQ S0 38 x1).bind fun v2 =>
  bnd (f_partFrom K S0 v2) fun S3 v4 =>
  if v1 = 6 then ((rQ S3 38 x1).bind fun v5 =>
  bnd (f_hasStar K S3 v5) fun S6 v7 =>
  if v7 = 0 then ((rQ S6 38 x1).bind fun v8 =>
  (oI S6 18 v8 1).bind fun v9 =>
  if v9 = 0 then ((rQ S6 38 x1).bind fun v10 =>
  (oR S6 18 v10 0).bind fun v11 =>
  (oI S6 21 v11 3).bind fun v12 =>
  if v12 = 0 then (bnd (f_some K S6 54 x1 v4 (Zi S6 57)) fun S13 v14 =>
  if v14 = 0 then (f_moveWrong_111 K S13) else (f_moveWrong_112 K S13 1)) else (f_moveWrong_111 K S6)) else (f_moveWrong_111 K S6)) else (f_moveWrong_48 K S6 x1 v4)) else (f_moveWrong_48 K S3 x1 v4)))
end
-- k1.c12.lean.txt
section
def f_checkMoves_58 (K : Ky) (k12 : Sg → Option Nat → Int32 → Int32 → Option (Sg × Unit)) (S : Sg) (x1 : Option Nat) (x2 : Int32) (x3 : Int32) : Option (Sg × Unit) :=
  k12 S x1 x2 (x3 + 1)
def f_checkMoves_51 (K : Ky) (k12 : Sg → Option Nat → Int32 → Int32 → Option (Sg × Unit)) (S : Sg) (x1 : Option Nat) (x3 : Int32) : Option (Sg × Unit) :=
  (rI S 32 x3).bind fun v11 =>
  f_checkMoves_58 K k12 S x1 v11 x3
def f_checkMoves_74 (K : Ky) (S : Sg) : Option (Sg × Unit) :=
  some (S, ())
def f_checkMoves_12 (K : Ky) : Nat → Sg → Option Nat → Int32 → Int32 → Option (Sg × Unit)
  | 0, _, _, _, _ => none
  | n9 + 1, S, x1, x2, x3 =>
    (oI S 16 x1 4).bind fun v4 =>
    if v4 ≤ x3 then (if x2 < 0 then (f_checkMoves_74 K S) else (bnd (f_fail K S 5 x2) fun S5 v6 =>
    f_checkMoves_74 K S5)) else ((rI S 52 x3).bind fun v7 =>
    if v7 = 0 then (f_checkMoves_58 K ((f_checkMoves_12 K n9)) S x1 x2 x3) else (bnd (f_moveWrong K S x3) fun S8 v9 =>
    if v9 = 0 then (f_checkMoves_58 K ((f_checkMoves_12 K n9)) S8 x1 x2 x3) else (if x2 < 0 then (f_checkMoves_51 K ((f_checkMoves_12 K n9)) S8 x1 x3) else ((rI S8 32 x3).bind fun v10 =>
    if x2 ≤ v10 then (f_checkMoves_58 K ((f_checkMoves_12 K n9)) S8 x1 x2 x3) else (f_checkMoves_51 K ((f_checkMoves_12 K n9)) S8 x1 x3)))))
def f_checkMoves (K : Ky) (S0 : Sg) (x1 : Option Nat) : Option (Sg × Unit) :=
  bnd (f_spreadMoves K S0 x1) fun S1 v2 =>
  (oI S1 16 x1 5).bind fun v3 =>
  f_checkMoves_12 K bigN S1 x1 (-1) v3
def f_ahead_98 (K : Ky) (S : Sg) : Option (Sg × Unit) :=
  some (S, ())
def f_ahead_55 (K : Ky) : Nat → Sg → Int32 → Int32 → Option (Sg × Unit)
  | 0, _, _, _ => none
  | n9 + 1, S, x1, x2 =>
    (rQ S 37 x1).bind fun v7 =>
    if v7 = none then (f_ahead_98 K S) else ((rQ S 37 x1).bind fun v8 =>
    (aLn K 0 S v8).bind fun v9 =>
    if v9 ≤ x2 then (f_ahead_98 K S) else ((rQ S 37 x1).bind fun v10 =>
    (aI K S v10 x2).bind fun v11 =>
    bnd (f_put K S 60 0 v11 1) fun S12 v13 =>
    f_ahead_55 K n9 S12 x1 (x2 + 1)))
def f_ahead_53 (K : Ky) (S : Sg) (x1 : Int32) : Option (Sg × Unit) :=
  f_ahead_55 K bigN S x1 0
def f_ahead_2 (K : Ky) : Nat → Sg → Int32 → Int32 → Option (Sg × Unit)
  | 0, _, _, _ => none
  | n9 + 1, S, x1, x2 =>
    if 4 ≤ x2 then ((rI S 34 x1).bind fun v1 =>
    if v1 < 0 then (f_ahead_53 K S x1) else ((rI S 34 x1).bind fun v2 =>
    bnd (f_put K S 60 0 v2 0) fun S3 v4 =>
    f_ahead_53 K S3 x1)) else ((rJ S 58 ((4 * x1) + x2)).bind fun v5 =>
    (wJ S 60 x2 v5).bind fun S6 =>
    f_ahead_2 K n9 S6 x1 (x2 + 1))
def f_ahead (K : Ky) (S0 : Sg) (x1 : Int32) : Option (Sg × Unit) :=
  f_ahead_2 K bigN S0 x1 0
def f_spreadLives_126 (K : Ky) (k32 : Sg → Option Nat → Int32 → Option (Sg × Unit)) (k45 : Sg → Option Nat → Int32 → Int32 → Option (Sg × Unit)) (k56 : Sg → Option Nat → Int32 → Int32 → Int32 → Option (Sg × Unit)) (k80 : Sg → Option Nat → Int32 → Int32 → Int32 → Int32 → Option (Sg × Unit)) (S : Sg) (x1 : Option Nat) (x2 : Int32) (x3 : Int32) (x4 : Int32) (x5 : Int32) (x6 : Int64) : Option (Sg × Unit) :=
  (wJ S 58 ((4 * x3) + x5) x6).bind fun S15 =>
  k80 S15 x1 x2 x3 x4 (x5 + 1)
def f_spreadLives_80 (K : Ky) (k32 : Sg → Option Nat → Int32 → Option (Sg × Unit)) (k45 : Sg → Option Nat → Int32 → Int32 → Option (Sg × Unit)) (k56 : Sg → Option Nat → Int32 → Int32 → Int32 → Option (Sg × Unit)) : Nat → Sg → Option Nat → Int32 → Int32 → Int32 → Int32 → Option (Sg × Unit)
  | 0, _, _, _, _, _, _ => none
  | n9 + 1, S, x1, x2, x3, x4, x5 =>
    if 4 ≤ x5 then (k56 S x1 x2 x3 (x4 + 1)) else ((rJ S 58 ((4 * x3) + x5)).bind fun v12 =>
    (rJ S 60 x5).bind fun v13 =>
    (rJ S 58 ((4 * x3) + x5)).bind fun v14 =>
    if (lg_cmp (v12 ||| v13) v14) = 0 then (f_spreadLives_126 K k32 k45 k56 ((f_spreadLives_80 K k32 k45 k56 n9)) S x1 x2 x3 x4 x5 (v12 ||| v13)) else (f_spreadLives_126 K k32 k45 k56 ((f_spreadLives_80 K k32 k45 k56 n9)) S x1 1 x3 x4 x5 (v12 ||| v13)))
def f_spreadLives_56 (K : Ky) (k32 : Sg → Option Nat → Int32 → Option (Sg × Unit)) (k45 : Sg → Option Nat → Int32 → Int32 → Option (Sg × Unit)) : Nat → Sg → Option Nat → Int32 → Int32 → Int32 → Option (Sg × Unit)
  | 0, _, _, _, _, _ => none
  | n9 + 1, S, x1, x2, x3, x4 =>
    bnd (f_follows K S x3 x4) fun S6 v7 =>
    if v7 < 0 then (k45 S6 x1 x2 (x3 + (-1))) else (bnd (f_follows K S6 x3 x4) fun S8 v9 =>
    bnd (f_ahead K S8 v9) fun S10 v11 =>
    f_spreadLives_80 K k32 k45 ((f_spreadLives_56 K k32 k45 n9)) bigN S10 x1 x2 x3 x4 0)
def f_spreadLives_45 (K : Ky) (k32 : Sg → Option Nat → Int32 → Option (Sg × Unit)) : Nat → Sg → Option Nat → Int32 → Int32 → Option (Sg × Unit)
  | 0, _, _, _, _ => none
  | n9 + 1, S, x1, x2, x3 =>
    (oI S 16 x1 5).bind fun v5 =>
    if x3 < v5 then (k32 S x1 x2) else (f_spreadLives_56 K k32 ((f_spreadLives_45 K k32 n9)) bigN S x1 x2 x3 0)
def f_spreadLives_32 (K : Ky) : Nat → Sg → Option Nat → Int32 → Option (Sg × Unit)
  | 0, _, _, _ => none
  | n9 + 1, S, x1, x2 =>
    if x2 = 0 then (some (S, ())) else ((oI S 16 x1 4).bind fun v4 =>
    f_spreadLives_45 K ((f_spreadLives_32 K n9)) bigN S x1 0 (v4 - 1))
def f_spreadLives_7 (K : Ky) : Nat → Sg → Option Nat → Int32 → Option (Sg × Unit)
  | 0, _, _, _ => none
  | n9 + 1, S, x1, x2 =>
    (oI S 16 x1 4).bind fun v2 =>
    if (4 * v2) ≤ x2 then (f_spreadLives_32 K bigN S x1 1) else ((wJ S 58 x2 0).bind fun S3 =>
    f_spreadLives_7 K n9 S3 x1 (x2 + 1))
def f_spreadLives (K : Ky) (S0 : Sg) (x1 : Option Nat) : Option (Sg × Unit) :=
  (oI S0 16 x1 5).bind fun v1 =>
  f_spreadLives_7 K bigN S0 x1 (4 * v1)
def f_holdBehind_114 (K : Ky) (k58 : Sg → Int32 → Int32 → Int32 → Option (Sg × Unit)) (S : Sg) (x1 : Int32) (x3 : Int32) (x4 : Int32) : Option (Sg × Unit) :=
  k58 S x1 x3 (x4 + 1)
def f_holdBehind_120 (K : Ky) (S : Sg) (x1 : Int32) (x3 : Int32) : Option (Sg × Unit) :=
  (rI S 34 x1).bind fun v13 =>
  bnd (f_put K S 60 0 v13 x3) fun S14 v15 =>
  some (S14, ())
def f_holdBehind_58 (K : Ky) : Nat → Sg → Int32 → Int32 → Int32 → Option (Sg × Unit)
  | 0, _, _, _, _ => none
  | n9 + 1, S, x1, x3, x4 =>
    (rI S 27 x1).bind fun v5 =>
    if v5 = 24 then (f_holdBehind_120 K S x1 x3) else ((rQ S 36 x1).bind fun v6 =>
    if v6 = none then (f_holdBehind_120 K S x1 x3) else ((rQ S 36 x1).bind fun v7 =>
    (aLn K 0 S v7).bind fun v8 =>
    if v8 ≤ x4 then (f_holdBehind_120 K S x1 x3) else ((rQ S 36 x1).bind fun v9 =>
    (aI K S v9 x4).bind fun v10 =>
    bnd (f_get K S 59 (4 * x1) v10) fun S11 v12 =>
    if v12 = 0 then (f_holdBehind_114 K ((f_holdBehind_58 K n9)) S11 x1 x3 x4) else (f_holdBehind_114 K ((f_holdBehind_58 K n9)) S11 x1 1 x4))))
def f_holdBehind_54 (K : Ky) (S : Sg) (x1 : Int32) (y0 : Int32) : Option (Sg × Unit) :=
  f_holdBehind_58 K bigN S x1 y0 0
def f_holdBehind_2 (K : Ky) : Nat → Sg → Int32 → Int32 → Int32 → Option (Sg × Unit)
  | 0, _, _, _, _ => none
  | n9 + 1, S, x1, x2, x3 =>
    if 4 ≤ x3 then ((rI S 34 x1).bind fun v1 =>
    if 0 ≤ v1 then ((rI S 35 x1).bind fun v2 =>
    if v2 = x2 then (f_holdBehind_54 K S x1 1) else (f_holdBehind_54 K S x1 0)) else (some (S, ()))) else ((rJ S 59 ((4 * x1) + x3)).bind fun v3 =>
    (wJ S 60 x3 v3).bind fun S4 =>
    f_holdBehind_2 K n9 S4 x1 x2 (x3 + 1))
def f_holdBehind (K : Ky) (S0 : Sg) (x1 : Int32) (x2 : Int32) : Option (Sg × Unit) :=
  f_holdBehind_2 K bigN S0 x1 x2 0
def f_spreadLoan_182 (K : Ky) (k61 : Sg → Option Nat → Int32 → Int32 → Option (Sg × Unit)) (k73 : Sg → Option Nat → Int32 → Int32 → Int32 → Option (Sg × Unit)) (k102 : Sg → Option Nat → Int32 → Int32 → Int32 → Int32 → Option (Sg × Unit)) (k138 : Sg → Option Nat → Int32 → Int32 → Int32 → Int32 → Int32 → Int32 → Option (Sg × Unit)) (S : Sg) (x1 : Option Nat) (x2 : Int32) (x3 : Int32) (x4 : Int32) (x5 : Int32) (x6 : Int32) (x7 : Int32) (x8 : Int64) : Option (Sg × Unit) :=
  (wJ S 59 (x6 + x7) x8).bind fun S22 =>
  k138 S22 x1 x2 x3 x4 x5 x6 (x7 + 1)
def f_spreadLoan_138 (K : Ky) (k61 : Sg → Option Nat → Int32 → Int32 → Option (Sg × Unit)) (k73 : Sg → Option Nat → Int32 → Int32 → Int32 → Option (Sg × Unit)) (k102 : Sg → Option Nat → Int32 → Int32 → Int32 → Int32 → Option (Sg × Unit)) : Nat → Sg → Option Nat → Int32 → Int32 → Int32 → Int32 → Int32 → Int32 → Option (Sg × Unit)
  | 0, _, _, _, _, _, _, _, _ => none
  | n9 + 1, S, x1, x2, x3, x4, x5, x6, x7 =>
    if 4 ≤ x7 then (k102 S x1 x2 x3 x4 (x5 + 1)) else ((rJ S 59 (x6 + x7)).bind fun v19 =>
    (rJ S 60 x7).bind fun v20 =>
    (rJ S 59 (x6 + x7)).bind fun v21 =>
    if (lg_cmp (v19 ||| v20) v21) = 0 then (f_spreadLoan_182 K k61 k73 k102 ((f_spreadLoan_138 K k61 k73 k102 n9)) S x1 x2 x3 x4 x5 x6 x7 (v19 ||| v20)) else (f_spreadLoan_182 K k61 k73 k102 ((f_spreadLoan_138 K k61 k73 k102 n9)) S x1 x2 1 x4 x5 x6 x7 (v19 ||| v20)))
def f_spreadLoan_206 (K : Ky) (k61 : Sg → Option Nat → Int32 → Int32 → Option (Sg × Unit)) (k73 : Sg → Option Nat → Int32 → Int32 → Int32 → Option (Sg × Unit)) (S : Sg) (x1 : Option Nat) (x2 : Int32) (x3 : Int32) (x4 : Int32) : Option (Sg × Unit) :=
  k73 S x1 x2 x3 (x4 + 1)
def f_spreadLoan_102 (K : Ky) (k61 : Sg → Option Nat → Int32 → Int32 → Option (Sg × Unit)) (k73 : Sg → Option Nat → Int32 → Int32 → Int32 → Option (Sg × Unit)) : Nat → Sg → Option Nat → Int32 → Int32 → Int32 → Int32 → Option (Sg × Unit)
  | 0, _, _, _, _, _, _ => none
  | n9 + 1, S, x1, x2, x3, x4, x5 =>
    (rI S 52 x4).bind fun v14 =>
    if v14 = 0 then (f_spreadLoan_206 K k61 k73 S x1 x2 x3 x4) else (bnd (f_follows K S x4 x5) fun S15 v16 =>
    if v16 < 0 then (f_spreadLoan_206 K k61 k73 S15 x1 x2 x3 x4) else (bnd (f_follows K S15 x4 x5) fun S17 v18 =>
    f_spreadLoan_138 K k61 k73 ((f_spreadLoan_102 K k61 k73 n9)) bigN S17 x1 x2 x3 x4 x5 (4 * v18) 0))
def f_spreadLoan_99 (K : Ky) (k61 : Sg → Option Nat → Int32 → Int32 → Option (Sg × Unit)) (k73 : Sg → Option Nat → Int32 → Int32 → Int32 → Option (Sg × Unit)) (S : Sg) (x1 : Option Nat) (x2 : Int32) (x3 : Int32) (x4 : Int32) : Option (Sg × Unit) :=
  f_spreadLoan_102 K k61 k73 bigN S x1 x2 x3 x4 0
def f_spreadLoan_73 (K : Ky) (k61 : Sg → Option Nat → Int32 → Int32 → Option (Sg × Unit)) : Nat → Sg → Option Nat → Int32 → Int32 → Int32 → Option (Sg × Unit)
  | 0, _, _, _, _, _ => none
  | n9 + 1, S, x1, x2, x3, x4 =>
    (oI S 16 x1 4).bind fun v10 =>
    if v10 ≤ x4 then (k61 S x1 x2 x3) else ((rI S 52 x4).bind fun v11 =>
    if v11 = 0 then (f_spreadLoan_99 K k61 ((f_spreadLoan_73 K k61 n9)) S x1 x2 x3 x4) else (bnd (f_holdBehind K S x4 x2) fun S12 v13 =>
    f_spreadLoan_99 K k61 ((f_spreadLoan_73 K k61 n9)) S12 x1 x2 x3 x4))
def f_spreadLoan_61 (K : Ky) : Nat → Sg → Option Nat → Int32 → Int32 → Option (Sg × Unit)
  | 0, _, _, _, _ => none
  | n9 + 1, S, x1, x2, x3 =>
    if x3 = 0 then (some (S, ())) else ((oI S 16 x1 5).bind fun v9 =>
    f_spreadLoan_73 K ((f_spreadLoan_61 K n9)) bigN S x1 x2 0 v9)
def f_spreadLoan_59 (K : Ky) (S : Sg) (x1 : Option Nat) (x2 : Int32) : Option (Sg × Unit) :=
  f_spreadLoan_61 K bigN S x1 x2 1
def f_spreadLoan_7 (K : Ky) : Nat → Sg → Option Nat → Int32 → Int32 → Option (Sg × Unit)
  | 0, _, _, _, _ => none
  | n9 + 1, S, x1, x2, x3 =>
    (oI S 16 x1 4).bind fun v2 =>
    if (4 * v2) ≤ x3 then ((rI S 45 x2).bind fun v3 =>
    if v3 < 0 then (f_spreadLoan_59 K S x1 x2) else ((oI S 16 x1 5).bind fun v4 =>
    (rI S 45 x2).bind fun v5 =>
    bnd (f_put K S 59 (4 * v4) v5 1) fun S6 v7 =>
    f_spreadLoan_59 K S6 x1 x2)) else ((wJ S 59 x3 0).bind fun S8 =>
    f_spreadLoan_7 K n9 S8 x1 x2 (x3 + 1))
def f_spreadLoan (K : Ky) (S0 : Sg) (x1 : Option Nat) (x2 : Int32) : Option (Sg × Unit) :=
  (oI S0 16 x1 5).bind fun v1 =>
  f_spreadLoan_7 K bigN S0 x1 x2 (4 * v1)
def f_overlap_54 (K : Ky) (S : Sg) : Option (Sg × Int32) :=
  (zB 1).bind fun _ => some (S, 1)
def f_overlap_15 (K : Ky) : Nat → Sg → Option Nat → Option Nat → Int32 → Option (Sg × Int32)
  | 0, _, _, _, _ => none
  | n9 + 1, S, x0, x1, x2 =>
    (oI S 18 x0 1).bind fun v3 =>
    if v3 ≤ x2 then (f_overlap_54 K S) else ((oI S 18 x1 1).bind fun v4 =>
    if v4 ≤ x2 then (f_overlap_54 K S) else ((oR S 18 x0 2).bind fun v5 =>
    (aI K S v5 x2).bind fun v6 =>
    (oR S 18 x1 2).bind fun v7 =>
    (aI K S v7 x2).bind fun v8 =>
    if v6 = v8 then (f_overlap_15 K n9 S x0 x1 (x2 + 1)) else ((zB 0).bind fun _ => some (S, 0))))
def f_overlap (K : Ky) (S0 : Sg) (x0 : Option Nat) (x1 : Option Nat) : Option (Sg × Int32) :=
  (oR S0 18 x0 0).bind fun v1 =>
  (oR S0 18 x1 0).bind fun v2 =>
  if v1 = v2 then (f_overlap_15 K bigN S0 x0 x1 0) else ((zB 0).bind fun _ => some (S0, 0))
def f_meets_61 (K : Ky) (S : Sg) : Option (Sg × Int32) :=
  (zB 0).bind fun _ => some (S, 0)
def f_meets_135 (K : Ky) (S : Sg) (y0 : Int32) : Option (Sg × Int32) :=
  (zB y0).bind fun _ => some (S, y0)
def f_meets_123 (K : Ky) (S : Sg) (y0 : Int32) : Option (Sg × Int32) :=
  if y0 = 0 then (f_meets_135 K S 1) else (f_meets_135 K S 0)
def f_meets_122 (K : Ky) (S : Sg) : Option (Sg × Int32) :=
  f_meets_123 K S 0
def f_meets_75 (K : Ky) (S : Sg) (x2 : Int32) (x4 : Option Nat) : Option (Sg × Int32) :=
  (oI S 18 x4 1).bind fun v7 =>
  if v7 = 0 then ((oR S 18 x4 3).bind fun v8 =>
  (aQ K 4 S v8 0).bind fun v9 =>
  if v9 = none then (f_meets_122 K S) else ((oR S 18 x4 3).bind fun v10 =>
  (aQ K 4 S v10 0).bind fun v11 =>
  bnd (f_refers K S v11) fun S12 v13 =>
  if v13 = 0 then (f_meets_122 K S12) else ((rQ S12 43 x2).bind fun v14 =>
  bnd (f_hasStar K S12 v14) fun S15 v16 =>
  if v16 = 0 then (f_meets_122 K S15) else (f_meets_123 K S15 1)))) else (f_meets_122 K S)
def f_meets_63 (K : Ky) (S : Sg) (x2 : Int32) (x3 : Int32) (x4 : Option Nat) : Option (Sg × Int32) :=
  if x3 = 7 then (f_meets_75 K S x2 x4) else (if x3 = 6 then (f_meets_75 K S x2 x4) else (f_meets_122 K S))
def f_meets_52 (K : Ky) (S : Sg) (x2 : Int32) (x3 : Int32) (x4 : Option Nat) : Option (Sg × Int32) :=
  (rI S 44 x2).bind fun v17 =>
  if v17 = 0 then (f_meets_63 K S x2 x3 x4) else (f_meets_61 K S)
def f_meets (K : Ky) (S0 : Sg) (x1 : Int32) (x2 : Int32) : Option (Sg × Int32) :=
  (rI S0 33 x1).bind fun v1 =>
  (rQ S0 38 x1).bind fun v2 =>
  if v1 = 0 then (f_meets_61 K S0) else ((rQ S0 43 x2).bind fun v3 =>
  if v3 = none then (f_meets_61 K S0) else ((rQ S0 43 x2).bind fun v4 =>
  bnd (f_overlap K S0 v2 v4) fun S5 v6 =>
  if v6 = 0 then (f_meets_61 K S5) else (if v1 = 1 then (f_meets_52 K S5 x2 v1 v2) else (if v1 = 2 then (f_meets_52 K S5 x2 v1 v2) else (f_meets_63 K S5 x2 v1 v2)))))
def f_aliveBehind_53 (K : Ky) (k8 : Sg → Int32 → Int32 → Option (Sg × Int32)) (S : Sg) (x1 : Int32) (x3 : Int32) : Option (Sg × Int32) :=
  k8 S x1 (x3 + 1)
def f_aliveBehind_8 (K : Ky) : Nat → Sg → Int32 → Int32 → Option (Sg × Int32)
  | 0, _, _, _ => none
  | n9 + 1, S, x1, x3 =>
    if 256 ≤ x3 then ((zB 0).bind fun _ => some (S, 0)) else ((rI S 34 x1).bind fun v3 =>
    if x3 = v3 then (f_aliveBehind_53 K ((f_aliveBehind_8 K n9)) S x1 x3) else (bnd (f_get K S 60 0 x3) fun S4 v5 =>
    if v5 = 0 then (f_aliveBehind_53 K ((f_aliveBehind_8 K n9)) S4 x1 x3) else (bnd (f_get K S4 58 (4 * x1) x3) fun S6 v7 =>
    if v7 = 0 then (f_aliveBehind_53 K ((f_aliveBehind_8 K n9)) S6 x1 x3) else ((zB 1).bind fun _ => some (S6, 1)))))
def f_aliveBehind (K : Ky) (S0 : Sg) (x1 : Int32) (x2 : Int32) : Option (Sg × Int32) :=
  bnd (f_holdBehind K S0 x1 x2) fun S1 v2 =>
  f_aliveBehind_8 K bigN S1 x1 0
def f_goesOut_64 (K : Ky) (S : Sg) (y0 : Int32) : Option (Sg × Int32) :=
  (zB y0).bind fun _ => some (S, y0)
def f_goesOut_63 (K : Ky) (S : Sg) : Option (Sg × Int32) :=
  f_goesOut_64 K S 0
def f_goesOut (K : Ky) (S0 : Sg) (x1 : Option Nat) (x2 : Int32) (x3 : Int32) : Option (Sg × Int32) :=
  (rI S0 27 x2).bind fun v1 =>
  if v1 = 25 then ((rI S0 45 x3).bind fun v2 =>
  if v2 < 0 then (f_goesOut_63 K S0) else ((oI S0 16 x1 7).bind fun v3 =>
  if v3 < 0 then (f_goesOut_63 K S0) else ((rI S0 46 x3).bind fun v4 =>
  (oI S0 16 x1 7).bind fun v5 =>
  if v4 = v5 then (f_goesOut_63 K S0) else ((rI S0 28 x2).bind fun v6 =>
  bnd (f_get K S0 59 (4 * x2) v6) fun S7 v8 =>
  if v8 = 0 then (f_goesOut_63 K S7) else (f_goesOut_64 K S7 1))))) else (f_goesOut_63 K S0)
def f_checkLoans_114 (K : Ky) (k9 : Sg → Option Nat → Int32 → Int32 → Option (Sg × Unit)) (k29 : Sg → Option Nat → Int32 → Int32 → Int32 → Option (Sg × Unit)) (S : Sg) (x1 : Option Nat) (x2 : Int32) (x3 : Int32) (x4 : Int32) : Option (Sg × Unit) :=
  k29 S x1 x2 x3 (x4 + 1)
def f_checkLoans_106 (K : Ky) (k9 : Sg → Option Nat → Int32 → Int32 → Option (Sg × Unit)) (k29 : Sg → Option Nat → Int32 → Int32 → Int32 → Option (Sg × Unit)) (S : Sg) (x1 : Option Nat) (x3 : Int32) (x4 : Int32) : Option (Sg × Unit) :=
  (rI S 32 x4).bind fun v15 =>
  f_checkLoans_114 K k9 k29 S x1 v15 x3 x4
def f_checkLoans_95 (K : Ky) (k9 : Sg → Option Nat → Int32 → Int32 → Option (Sg × Unit)) (k29 : Sg → Option Nat → Int32 → Int32 → Int32 → Option (Sg × Unit)) (S : Sg) (x1 : Option Nat) (x2 : Int32) (x3 : Int32) (x4 : Int32) : Option (Sg × Unit) :=
  bnd (f_goesOut K S x1 x4 x3) fun S16 v17 =>
  if v17 = 0 then (f_checkLoans_114 K k9 k29 S16 x1 x2 x3 x4) else (f_checkLoans_106 K k9 k29 S16 x1 x3 x4)
def f_checkLoans_68 (K : Ky) (k9 : Sg → Option Nat → Int32 → Int32 → Option (Sg × Unit)) (k29 : Sg → Option Nat → Int32 → Int32 → Int32 → Option (Sg × Unit)) (S : Sg) (x1 : Option Nat) (x2 : Int32) (x3 : Int32) (x4 : Int32) (y0 : Int32) : Option (Sg × Unit) :=
  if y0 = 0 then (f_checkLoans_114 K k9 k29 S x1 x2 x3 x4) else (bnd (f_meets K S x4 x3) fun S11 v12 =>
  if v12 = 0 then (f_checkLoans_95 K k9 k29 S11 x1 x2 x3 x4) else (bnd (f_aliveBehind K S11 x4 x3) fun S13 v14 =>
  if v14 = 0 then (f_checkLoans_95 K k9 k29 S13 x1 x2 x3 x4) else (f_checkLoans_106 K k9 k29 S13 x1 x3 x4)))
def f_checkLoans_63 (K : Ky) (k9 : Sg → Option Nat → Int32 → Int32 → Option (Sg × Unit)) (k29 : Sg → Option Nat → Int32 → Int32 → Int32 → Option (Sg × Unit)) (S : Sg) (x1 : Option Nat) (x2 : Int32) (x3 : Int32) (x4 : Int32) : Option (Sg × Unit) :=
  f_checkLoans_68 K k9 k29 S x1 x2 x3 x4 1
def f_checkLoans_67 (K : Ky) (k9 : Sg → Option Nat → Int32 → Int32 → Option (Sg × Unit)) (k29 : Sg → Option Nat → Int32 → Int32 → Int32 → Option (Sg × Unit)) (S : Sg) (x1 : Option Nat) (x2 : Int32) (x3 : Int32) (x4 : Int32) : Option (Sg × Unit) :=
  f_checkLoans_68 K k9 k29 S x1 x2 x3 x4 0
def f_checkLoans_29 (K : Ky) (k9 : Sg → Option Nat → Int32 → Int32 → Option (Sg × Unit)) : Nat → Sg → Option Nat → Int32 → Int32 → Int32 → Option (Sg × Unit)
  | 0, _, _, _, _, _ => none
  | n9 + 1, S, x1, x2, x3, x4 =>
    (oI S 16 x1 4).bind fun v8 =>
    if v8 ≤ x4 then (k9 S x1 x2 (x3 + 1)) else ((rI S 52 x4).bind fun v9 =>
    if v9 = 0 then (f_checkLoans_67 K k9 ((f_checkLoans_29 K k9 n9)) S x1 x2 x3 x4) else (if x2 < 0 then (f_checkLoans_63 K k9 ((f_checkLoans_29 K k9 n9)) S x1 x2 x3 x4) else ((rI S 32 x4).bind fun v10 =>
    if x2 ≤ v10 then (f_checkLoans_67 K k9 ((f_checkLoans_29 K k9 n9)) S x1 x2 x3 x4) else (f_checkLoans_63 K k9 ((f_checkLoans_29 K k9 n9)) S x1 x2 x3 x4))))
def f_checkLoans_137 (K : Ky) (S : Sg) : Option (Sg × Unit) :=
  some (S, ())
def f_checkLoans_9 (K : Ky) : Nat → Sg → Option Nat → Int32 → Int32 → Option (Sg × Unit)
  | 0, _, _, _, _ => none
  | n9 + 1, S, x1, x2, x3 =>
    if (Zi S 47) ≤ x3 then (if x2 < 0 then (f_checkLoans_137 K S) else (bnd (f_fail K S 6 x2) fun S3 v4 =>
    f_checkLoans_137 K S3)) else (bnd (f_spreadLoan K S x1 x3) fun S5 v6 =>
    (oI S5 16 x1 5).bind fun v7 =>
    f_checkLoans_29 K ((f_checkLoans_9 K n9)) bigN S5 x1 x2 x3 v7)
def f_checkLoans (K : Ky) (S0 : Sg) (x1 : Option Nat) : Option (Sg × Unit) :=
  bnd (f_spreadLives K S0 x1) fun S1 v2 =>
  f_checkLoans_9 K bigN S1 x1 (-1) 0
def f_layAll_78 (K : Ky) (k7 : Sg → Int32 → Option (Sg × Unit)) (S : Sg) (x1 : Int32) : Option (Sg × Unit) :=
  k7 S (x1 + 1)
def f_layAll_84 (K : Ky) (S : Sg) : Option (Sg × Unit) :=
  some (S, ())
def f_layAll_7 (K : Ky) : Nat → Sg → Int32 → Option (Sg × Unit)
  | 0, _, _ => none
  | n9 + 1, S, x1 =>
    if (Zi S 12) ≤ x1 then (f_layAll_84 K S) else (bnd (f_ok K S) fun S2 v3 =>
    if v3 = 0 then (f_layAll_84 K S2) else ((rQ S2 11 x1).bind fun v4 =>
    (oI S2 16 v4 2).bind fun v5 =>
    if v5 = 12 then (bnd (f_layFunction K S2 x1) fun S6 v7 =>
    (rQ S6 11 x1).bind fun v8 =>
    bnd (f_reach K S6 v8) fun S9 v10 =>
    (rQ S9 11 x1).bind fun v11 =>
    bnd (f_checkMoves K S9 v11) fun S12 v13 =>
    bnd (f_ok K S12) fun S14 v15 =>
    if v15 = 0 then (f_layAll_78 K ((f_layAll_7 K n9)) S14 x1) else ((rQ S14 11 x1).bind fun v16 =>
    bnd (f_checkLoans K S14 v16) fun S17 v18 =>
    f_layAll_78 K ((f_layAll_7 K n9)) S17 x1)) else (f_layAll_78 K ((f_layAll_7 K n9)) S2 x1)))
def f_layAll (K : Ky) (S0 : Sg) : Option (Sg × Unit) :=
  (pM S0 26 0).bind fun S1 =>
  f_layAll_7 K bigN S1 0
def f_node_37 (K : Ky) (S : Sg) (x1 : Int32) : Option (Sg × Int32) :=
  (wJ S 61 x1 0).bind fun S4 =>
  (wZ S4 62 x1 0).bind fun S5 =>
  (wRI S5 63 x1 0).bind fun S6 =>
  some (S6, x1)
def f_node (K : Ky) (S0 : Sg) : Option (Sg × Int32) :=
  if (Zi S0 65) = 0 then ((pM S0 64 ((Zi S0 64) + 1)).bind fun S1 =>
  f_node_37 K S1 (Zi S1 64)) else ((rI S0 63 (Zi S0 65)).bind fun v2 =>
  (pM S0 65 v2).bind fun S3 =>
  f_node_37 K S3 (Zi S0 65))
end
-- k1.c13.lean.txt
section
def f_freeNode (K : Ky) (S0 : Sg) (x1 : Int32) : Option (Sg × Unit) :=
  (wRI S0 63 x1 (Zi S0 65)).bind fun S1 =>
  (pM S1 65 x1).bind fun S2 =>
  some (S2, ())
def f_leavesOf_28 (K : Ky) (S : Sg) (y0 : Int32) : Option (Sg × Int32) :=
  some (S, y0)
def f_leavesOf_27 (K : Ky) (S : Sg) : Option (Sg × Int32) :=
  f_leavesOf_28 K S 1
def f_leavesOf (K : Ky) (S0 : Sg) (x1 : Option Nat) : Option (Sg × Int32) :=
  if x1 = none then (f_leavesOf_27 K S0) else ((oI S0 20 x1 0).bind fun v1 =>
  if v1 = 3 then ((oI S0 20 x1 1).bind fun v2 =>
  (rQ S0 11 v2).bind fun v3 =>
  (oI S0 16 v3 20).bind fun v4 =>
  f_leavesOf_28 K S0 v4) else (f_leavesOf_27 K S0))
def f_newPlace_14 (K : Ky) : Nat → Sg → Int32 → Int32 → Int32 → Option (Sg × Int32)
  | 0, _, _, _, _ => none
  | n9 + 1, S, x2, x3, x4 =>
    if x4 ≤ 1 then (some (S, x2)) else (bnd (f_node K S) fun S5 v6 =>
    (wRI S5 63 x3 v6).bind fun S7 =>
    f_newPlace_14 K n9 S7 x2 v6 (x4 + (-1)))
def f_newPlace (K : Ky) (S0 : Sg) (x1 : Option Nat) : Option (Sg × Int32) :=
  bnd (f_node K S0) fun S1 v2 =>
  bnd (f_leavesOf K S1 x1) fun S3 v4 =>
  f_newPlace_14 K bigN S3 v2 v2 v4
def f_along_5 (K : Ky) : Nat → Sg → Int32 → Int32 → Int32 → Option (Sg × Int32)
  | 0, _, _, _, _ => none
  | n9 + 1, S, x2, x3, x4 =>
    if x2 ≤ x4 then (some (S, x3)) else ((rI S 63 x3).bind fun v1 =>
    f_along_5 K n9 S x2 v1 (x4 + 1))
def f_along (K : Ky) (S0 : Sg) (x1 : Int32) (x2 : Int32) : Option (Sg × Int32) :=
  f_along_5 K bigN S0 x2 x1 0
def f_partOf_6 (K : Ky) : Nat → Sg → Option Nat → Int32 → Int32 → Int32 → Int32 → Option (Sg × Int32)
  | 0, _, _, _, _, _, _ => none
  | n9 + 1, S, x1, x2, x3, x4, x5 =>
    if x3 ≤ x5 then (bnd (f_along K S x2 x4) fun S1 v2 =>
    some (S1, v2)) else ((aQ K 4 S x1 x5).bind fun v3 =>
    bnd (f_leavesOf K S v3) fun S4 v5 =>
    f_partOf_6 K n9 S4 x1 x2 x3 (x4 + v5) (x5 + 1))
def f_partOf (K : Ky) (S0 : Sg) (x1 : Option Nat) (x2 : Int32) (x3 : Int32) : Option (Sg × Int32) :=
  f_partOf_6 K bigN S0 x1 x2 x3 0 0
def f_freePlace_9 (K : Ky) : Nat → Sg → Int32 → Int32 → Option (Sg × Unit)
  | 0, _, _, _ => none
  | n9 + 1, S, x3, x4 =>
    if x4 ≤ 0 then (some (S, ())) else ((rI S 63 x3).bind fun v3 =>
    bnd (f_freeNode K S x3) fun S4 v5 =>
    f_freePlace_9 K n9 S4 v3 (x4 + (-1)))
def f_freePlace (K : Ky) (S0 : Sg) (x1 : Option Nat) (x2 : Int32) : Option (Sg × Unit) :=
  bnd (f_leavesOf K S0 x1) fun S1 v2 =>
  f_freePlace_9 K bigN S1 x2 v2
def f_setPlace_37 (K : Ky) : Nat → Sg → Int32 → Int32 → Int32 → Option (Sg × Unit)
  | 0, _, _, _, _ => none
  | n9 + 1, S, x5, x6, x7 =>
    if x7 ≤ 0 then (some (S, ())) else ((rJ S 61 x5).bind fun v6 =>
    (wJ S 61 x6 v6).bind fun S7 =>
    (wZ S7 62 x6 1).bind fun S8 =>
    (rI S8 63 x5).bind fun v9 =>
    bnd (f_freeNode K S8 x5) fun S10 v11 =>
    (rI S10 63 x6).bind fun v12 =>
    f_setPlace_37 K n9 S10 v9 v12 (x7 + (-1)))
def f_setPlace (K : Ky) (S0 : Sg) (x1 : Option Nat) (x2 : Int32) (x3 : Int64) : Option (Sg × Unit) :=
  (oI S0 20 x1 0).bind fun v1 =>
  if v1 = 3 then (bnd (f_leavesOf K S0 x1) fun S2 v3 =>
  f_setPlace_37 K bigN S2 (Int64.toInt32 x3) x2 v3) else ((wJ S0 61 x2 x3).bind fun S4 =>
  (wZ S4 62 x2 1).bind fun S5 =>
  some (S5, ()))
def f_takePlace_41 (K : Ky) : Nat → Sg → Int32 → Int32 → Int32 → Int32 → Option (Sg × Int64)
  | 0, _, _, _, _, _ => none
  | n9 + 1, S, x3, x4, x5, x6 =>
    if x6 ≤ 0 then (some (S, Int32.toInt64 x3)) else ((rJ S 61 x5).bind fun v8 =>
    (wJ S 61 x4 v8).bind fun S9 =>
    (wZ S9 62 x4 1).bind fun S10 =>
    (wZ S10 62 x5 0).bind fun S11 =>
    (rI S11 63 x4).bind fun v12 =>
    (rI S11 63 x5).bind fun v13 =>
    f_takePlace_41 K n9 S11 x3 v12 v13 (x6 + (-1)))
def f_takePlace (K : Ky) (S0 : Sg) (x1 : Option Nat) (x2 : Int32) : Option (Sg × Int64) :=
  (oI S0 20 x1 0).bind fun v1 =>
  if v1 = 3 then (bnd (f_newPlace K S0 x1) fun S2 v3 =>
  bnd (f_leavesOf K S2 x1) fun S4 v5 =>
  f_takePlace_41 K bigN S4 v3 v3 x2 v5) else ((wZ S0 62 x2 0).bind fun S6 =>
  (rJ S6 61 x2).bind fun v7 =>
  some (S6, v7))
def f_leaf (K : Ky) (S0 : Sg) (x1 : Int64) : Option (Sg × Int32) :=
  bnd (f_node K S0) fun S1 v2 =>
  (wJ S1 61 v2 x1).bind fun S3 =>
  (wZ S3 62 v2 1).bind fun S4 =>
  some (S4, v2)
def f_freshPlace_18 (K : Ky) (S : Sg) (y0 : Int32) : Option (Sg × Int32) :=
  some (S, y0)
def f_freshPlace (K : Ky) (S0 : Sg) (x1 : Option Nat) (x2 : Int64) : Option (Sg × Int32) :=
  (oI S0 20 x1 0).bind fun v1 =>
  if v1 = 3 then (f_freshPlace_18 K S0 (Int64.toInt32 x2)) else (bnd (f_leaf K S0 x2) fun S2 v3 =>
  f_freshPlace_18 K S2 v3)
def f_kidOf (K : Ky) (S0 : Sg) (x1 : Int32) : Option (Sg × Int32) :=
  (rJ S0 61 x1).bind fun v1 =>
  some (S0, Int64.toInt32 (v1 &&& 1048575))
def f_variantOf_ (K : Ky) (S0 : Sg) (x1 : Int32) : Option (Sg × Int32) :=
  (rJ S0 61 x1).bind fun v1 =>
  some (S0, Int64.toInt32 ((v1 >>> (Int32.toInt64 20 &&& 63)) &&& 1048575))
end
-- k1.c14.lean.txt
section
def f_blockLong (K : Ky) (S0 : Sg) (x1 : Int32) : Option (Sg × Int32) :=
  (rJ S0 61 x1).bind fun v1 =>
  some (S0, Int64.toInt32 (v1 >>> (Int32.toInt64 40 &&& 63)))
def f_findRoom_28 (K : Ky) (k4 : Sg → Int32 → Int32 → Int32 → Option (Sg × Int32)) (S : Sg) (x1 : Int32) (x3 : Int32) (y0 : Int32) : Option (Sg × Int32) :=
  if y0 = x1 then (some (S, (x3 - x1) + 1)) else (k4 S x1 y0 (x3 + 1))
def f_findRoom_4 (K : Ky) : Nat → Sg → Int32 → Int32 → Int32 → Option (Sg × Int32)
  | 0, _, _, _, _ => none
  | n9 + 1, S, x1, x2, x3 =>
    if (Zi S 66) ≤ x3 then (some (S, (-1))) else ((rI S 67 x3).bind fun v1 =>
    if v1 = 0 then (f_findRoom_28 K ((f_findRoom_4 K n9)) S x1 x3 (x2 + 1)) else (f_findRoom_28 K ((f_findRoom_4 K n9)) S x1 x3 0))
def f_findRoom (K : Ky) (S0 : Sg) (x1 : Int32) : Option (Sg × Int32) :=
  f_findRoom_4 K bigN S0 x1 0 0
def f_freeBlock_15 (K : Ky) : Nat → Sg → Int32 → Int32 → Int32 → Option (Sg × Unit)
  | 0, _, _, _, _ => none
  | n9 + 1, S, x2, x3, x4 =>
    if x2 ≤ x4 then ((pM S 68 ((Zi S 68) - x2)).bind fun S5 =>
    some (S5, ())) else ((wZ S 67 (x3 + x4) 0).bind fun S6 =>
    f_freeBlock_15 K n9 S6 x2 x3 (x4 + 1))
def f_freeBlock (K : Ky) (S0 : Sg) (x1 : Int32) : Option (Sg × Unit) :=
  bnd (f_blockLong K S0 x1) fun S1 v2 =>
  bnd (f_variantOf_ K S1 x1) fun S3 v4 =>
  f_freeBlock_15 K bigN S3 v2 v4 0
def f_pop (K : Ky) (S0 : Sg) : Option (Sg × Int64) :=
  (pM S0 73 ((Zi S0 73) - 1)).bind fun S1 =>
  (rJ S1 72 (Zi S1 73)).bind fun v2 =>
  some (S1, v2)
def f_push (K : Ky) (S0 : Sg) (x1 : Int64) : Option (Sg × Unit) :=
  (wJ S0 72 (Zi S0 73) x1).bind fun S1 =>
  (pM S1 73 ((Zi S1 73) + 1)).bind fun S2 =>
  some (S2, ())
def f_boxUp_77 (K : Ky) (S : Sg) (x1 : Option Nat) (x2 : Int32) (x3 : Int32) : Option (Sg × Unit) :=
  bnd (f_node K S) fun S9 v10 =>
  bnd (f_pop K S9) fun S11 v12 =>
  bnd (f_freshPlace K S11 x1 v12) fun S13 v14 =>
  (wJ S13 61 v10 (((Int32.toInt64 v14) + ((Int32.toInt64 x3) <<< (Int32.toInt64 20 &&& 63))) + ((Int32.toInt64 x2) <<< (Int32.toInt64 40 &&& 63)))).bind fun S15 =>
  bnd (f_push K S15 (Int32.toInt64 v10)) fun S16 v17 =>
  some (S16, ())
def f_boxUp_26 (K : Ky) : Nat → Sg → Option Nat → Int32 → Int32 → Int32 → Option (Sg × Unit)
  | 0, _, _, _, _, _ => none
  | n9 + 1, S, x1, x2, x3, x4 =>
    if x2 ≤ x4 then ((pM S 68 ((Zi S 68) + x2)).bind fun S6 =>
    if (Zi S6 68) ≤ (Zi S6 69) then (f_boxUp_77 K S6 x1 x2 x3) else ((pM S6 69 (Zi S6 68)).bind fun S7 =>
    f_boxUp_77 K S7 x1 x2 x3)) else ((wZ S 67 (x3 + x4) 1).bind fun S8 =>
    f_boxUp_26 K n9 S8 x1 x2 x3 (x4 + 1))
def f_boxUp (K : Ky) (S0 : Sg) (x1 : Option Nat) : Option (Sg × Unit) :=
  bnd (f_sizeOf K (f_sizeOfItem K 80) S0 x1) fun S1 v2 =>
  bnd (f_findRoom K S1 v2) fun S3 v4 =>
  if 0 ≤ v4 then (f_boxUp_26 K bigN S3 x1 v2 v4 0) else ((pM S3 3 9).bind fun S5 =>
  some (S5, ()))
def f_later_30 (K : Ky) (S : Sg) (x3 : Int32) (y0 : Int32) (y1 : Int32) : Option (Sg × Unit) :=
  (wRI S 79 y1 y0).bind fun S3 =>
  (wRI S3 80 (Zi S3 81) x3).bind fun S4 =>
  (pM S4 81 ((Zi S4 81) + 1)).bind fun S5 =>
  some (S5, ())
def f_later (K : Ky) (S0 : Sg) (x1 : Int32) (x2 : Option Nat) (x3 : Int32) : Option (Sg × Unit) :=
  (wRI S0 78 (Zi S0 81) x1).bind fun S1 =>
  if x2 = none then (f_later_30 K S1 x3 0 (Zi S1 81)) else ((oI S1 20 x2 2).bind fun v2 =>
  f_later_30 K S1 x3 v2 (Zi S1 81))
def f_laterParts_36 (K : Ky) (k5 : Sg → Option Nat → Int32 → Int32 → Int32 → Option (Sg × Unit)) (S : Sg) (x1 : Option Nat) (x3 : Int32) (x4 : Int32) (x5 : Int32) (x6 : Int32) : Option (Sg × Unit) :=
  (aQ K 4 S x1 x5).bind fun v6 =>
  bnd (f_later K S 0 v6 x6) fun S7 v8 =>
  k5 S7 x1 x3 x4 (x5 + (-1))
def f_laterParts_5 (K : Ky) : Nat → Sg → Option Nat → Int32 → Int32 → Int32 → Option (Sg × Unit)
  | 0, _, _, _, _, _ => none
  | n9 + 1, S, x1, x3, x4, x5 =>
    if x5 < 0 then (some (S, ())) else (bnd (f_partOf K S x1 x3 x5) fun S1 v2 =>
    if x4 = 0 then (f_laterParts_36 K ((f_laterParts_5 K n9)) S1 x1 x3 x4 x5 v2) else ((aQ K 4 S1 x1 x5).bind fun v3 =>
    bnd (f_later K S1 1 v3 v2) fun S4 v5 =>
    f_laterParts_36 K ((f_laterParts_5 K n9)) S4 x1 x3 x4 x5 v2))
def f_laterParts (K : Ky) (S0 : Sg) (x1 : Option Nat) (x2 : Int32) (x3 : Int32) (x4 : Int32) : Option (Sg × Unit) :=
  f_laterParts_5 K bigN S0 x1 x3 x4 (x2 - 1)
def f_write (K : Ky) (S0 : Sg) (x1 : Int32) : Option (Sg × Unit) :=
  if (Zi S0 84) = 4000 then (some (S0, ())) else ((nzI 4000).bind fun _ =>
  (wRI S0 82 (((Zi S0 83) + (Zi S0 84)) - ((Zi S0 83) + (Zi S0 84)) / 4000 * 4000) x1).bind fun S1 =>
  (pM S1 84 ((Zi S1 84) + 1)).bind fun S2 =>
  some (S2, ()))
def f_writeNumber_34 (K : Ky) (k14 : Sg → Int64 → Int64 → Option (Sg × Unit)) (S : Sg) (x1 : Int64) (x3 : Int64) : Option (Sg × Unit) :=
  k14 S x1 (x3 * 10)
def f_writeNumber_82 (K : Ky) (k46 : Sg → Int64 → Int64 → Option (Sg × Unit)) (S : Sg) (x1 : Int64) (x5 : Int64) (y0 : Int64) (y1 : Int64) : Option (Sg × Unit) :=
  bnd (f_write K S (Int64.toInt32 (y1 + y0))) fun S3 v4 =>
  (nzL 10).bind fun _ =>
  k46 S3 x1 (x5 / 10)
def f_writeNumber_46 (K : Ky) : Nat → Sg → Int64 → Int64 → Option (Sg × Unit)
  | 0, _, _, _ => none
  | n9 + 1, S, x1, x5 =>
    if (lg_cmp x5 0) ≤ 0 then (some (S, ())) else ((nzL x5).bind fun _ =>
    (nzL 10).bind fun _ =>
    if 0 ≤ (lg_cmp ((x1 / x5) - (x1 / x5) / 10 * 10) 0) then (f_writeNumber_82 K ((f_writeNumber_46 K n9)) S x1 x5 ((x1 / x5) - (x1 / x5) / 10 * 10) 48) else (f_writeNumber_82 K ((f_writeNumber_46 K n9)) S x1 x5 (-((x1 / x5) - (x1 / x5) / 10 * 10)) 48))
def f_writeNumber_14 (K : Ky) : Nat → Sg → Int64 → Int64 → Option (Sg × Unit)
  | 0, _, _, _ => none
  | n9 + 1, S, x1, x3 =>
    (nzL x3).bind fun _ =>
    if 0 < (lg_cmp (x1 / x3) 9) then (f_writeNumber_34 K ((f_writeNumber_14 K n9)) S x1 x3) else ((nzL x3).bind fun _ =>
    if 0 ≤ (lg_cmp (x1 / x3) (-9)) then (f_writeNumber_46 K bigN S x1 x3) else (f_writeNumber_34 K ((f_writeNumber_14 K n9)) S x1 x3))
def f_writeNumber_12 (K : Ky) (S : Sg) (x1 : Int64) : Option (Sg × Unit) :=
  f_writeNumber_14 K bigN S x1 1
def f_writeNumber (K : Ky) (S0 : Sg) (x1 : Int64) : Option (Sg × Unit) :=
  if 0 ≤ (lg_cmp x1 0) then (f_writeNumber_12 K S0 x1) else (bnd (f_write K S0 45) fun S1 v2 =>
  f_writeNumber_12 K S1 x1)
def f_dropValue_181 (K : Ky) (S : Sg) : Option (Sg × Unit) :=
  some (S, ())
def f_dropValue (K : Ky) (S0 : Sg) (x1 : Option Nat) (x2 : Int64) : Option (Sg × Unit) :=
  (oI S0 20 x1 0).bind fun v1 =>
  if v1 = 2 then (bnd (f_write K S0 100) fun S39 v40 =>
  bnd (f_writeNumber K S39 x2) fun S41 v42 =>
  bnd (f_write K S41 10) fun S43 v44 =>
  f_dropValue_181 K S43) else ((oI S0 20 x1 0).bind fun v2 =>
  if v2 = 3 then ((oI S0 20 x1 1).bind fun v31 =>
  (rQ S0 11 v31).bind fun v32 =>
  (oR S0 16 v32 10).bind fun v33 =>
  (oI S0 20 x1 1).bind fun v34 =>
  (rQ S0 11 v34).bind fun v35 =>
  (oI S0 16 v35 3).bind fun v36 =>
  bnd (f_laterParts K S0 v33 v36 (Int64.toInt32 x2) 1) fun S37 v38 =>
  f_dropValue_181 K S37) else ((oI S0 20 x1 0).bind fun v3 =>
  if v3 = 4 then ((oI S0 20 x1 1).bind fun v17 =>
  (rQ S0 11 v17).bind fun v18 =>
  (oR S0 16 v18 11).bind fun v19 =>
  bnd (f_variantOf_ K S0 (Int64.toInt32 x2)) fun S20 v21 =>
  (aQ K 13 S20 v19 v21).bind fun v22 =>
  bnd (f_later K S20 3 none (Int64.toInt32 x2)) fun S23 v24 =>
  (oR S23 17 v22 2).bind fun v25 =>
  (oI S23 17 v22 0).bind fun v26 =>
  bnd (f_kidOf K S23 (Int64.toInt32 x2)) fun S27 v28 =>
  bnd (f_laterParts K S27 v25 v26 v28 1) fun S29 v30 =>
  f_dropValue_181 K S29) else ((oI S0 20 x1 0).bind fun v4 =>
  if v4 = 5 then (bnd (f_later K S0 2 none (Int64.toInt32 x2)) fun S5 v6 =>
  (oR S5 20 x1 3).bind fun v7 =>
  bnd (f_kidOf K S5 (Int64.toInt32 x2)) fun S8 v9 =>
  bnd (f_later K S8 1 v7 v9) fun S10 v11 =>
  (oR S10 20 x1 3).bind fun v12 =>
  bnd (f_kidOf K S10 (Int64.toInt32 x2)) fun S13 v14 =>
  bnd (f_later K S13 0 v12 v14) fun S15 v16 =>
  f_dropValue_181 K S15) else (f_dropValue_181 K S0))))
def f_dropPlace_68 (K : Ky) (S : Sg) : Option (Sg × Unit) :=
  some (S, ())
def f_dropPlace (K : Ky) (S0 : Sg) (x1 : Option Nat) (x2 : Int32) : Option (Sg × Unit) :=
  (oI S0 20 x1 0).bind fun v1 =>
  if v1 = 3 then ((oI S0 20 x1 1).bind fun v7 =>
  (rQ S0 11 v7).bind fun v8 =>
  (oR S0 16 v8 10).bind fun v9 =>
  (oI S0 20 x1 1).bind fun v10 =>
  (rQ S0 11 v10).bind fun v11 =>
  (oI S0 16 v11 3).bind fun v12 =>
  bnd (f_laterParts K S0 v9 v12 x2 0) fun S13 v14 =>
  f_dropPlace_68 K S13) else ((rI S0 62 x2).bind fun v2 =>
  if v2 = 0 then (f_dropPlace_68 K S0) else ((wZ S0 62 x2 0).bind fun S3 =>
  (rJ S3 61 x2).bind fun v4 =>
  bnd (f_dropValue K S3 x1 v4) fun S5 v6 =>
  f_dropPlace_68 K S5))
end
