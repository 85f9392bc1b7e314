def f_uses (K : Ky) (S0 : Sg) (x1 : Int32) (x2 : Option Nat) : Option (Sg × Unit) :=
  (pM S0 48 ((Zi S0 48) - 1)).bind fun S1 =>
  bnd (f_refers K S1 x2) fun S2 v3 =>
  if v3 = 0 then (some (S2, ())) else (bnd (f_temporary K S2 (Zi S2 48)) fun S4 v5 =>
  bnd (f_just K S4 v5) fun S6 v7 =>
  (wA K S6 37 x1 v7).bind fun S8 =>
  bnd (f_temporary K S8 (Zi S8 48)) fun S9 v10 =>
  bnd (f_just K S9 v10) fun S11 v12 =>
  (wA K S11 36 x1 v12).bind fun S13 =>
  some (S13, ()))
def f_layAssign_120 (K : Ky) (S : Sg) : Option (Sg × Unit) :=
  some (S, ())
def f_layAssign (K : Ky) (S0 : Sg) (x1 : Option Nat) : Option (Sg × Unit) :=
  (oR S0 19 x1 6).bind fun v1 =>
  bnd (f_give K 410 S0 v1) fun S2 v3 =>
  (oR S2 19 x1 7).bind fun v4 =>
  bnd (f_pathOf K S2 v4) fun S5 v6 =>
  (oR S5 19 x1 7).bind fun v7 =>
  (oI S5 15 v7 1).bind fun v8 =>
  bnd (f_point K S5 14 v8) fun S9 v10 =>
  (wRI S9 33 v10 6).bind fun S11 =>
  (wQ S11 18 38 v10 v6).bind fun S12 =>
  (oBk S12 18 v6).bind fun b15 =>
  bnd (f_X18_type K S12 b15) fun S13 v14 =>
  (wQ S13 20 39 v10 v14).bind fun S16 =>
  (oR S16 19 x1 6).bind fun v17 =>
  (oR S16 15 v17 12).bind fun v18 =>
  bnd (f_uses K S16 v10 v18) fun S19 v20 =>
  (oI S19 18 v6 1).bind fun v21 =>
  if v21 = 0 then ((oR S19 18 v6 0).bind fun v31 =>
  (oI S19 21 v31 0).bind fun v32 =>
  (wRI S19 34 v10 v32).bind fun S33 =>
  f_layAssign_120 K S33) else ((oR S19 18 v6 3).bind fun v22 =>
  (aQ K 4 S19 v22 0).bind fun v23 =>
  bnd (f_refers K S19 v23) fun S24 v25 =>
  if v25 = 0 then (f_layAssign_120 K S24) else ((oR S24 18 v6 0).bind fun v26 =>
  (oI S24 21 v26 0).bind fun v27 =>
  bnd (f_just K S24 v27) fun S28 v29 =>
  (wA K S28 37 v10 v29).bind fun S30 =>
  f_layAssign_120 K S30))
def f_layLet_80 (K : Ky) (S : Sg) (x1 : Option Nat) : Option (Sg × Unit) :=
  (oR S 19 x1 8).bind fun v19 =>
  bnd (f_comesAlive K S v19) fun S20 v21 =>
  some (S20, ())
def f_layLet_30 (K : Ky) (S : Sg) (x1 : Option Nat) (y0 : Int32) : Option (Sg × Unit) :=
  (oI S 19 x1 2).bind fun v6 =>
  bnd (f_point K S y0 v6) fun S7 v8 =>
  (oR S7 19 x1 8).bind fun v9 =>
  (wQ S7 21 40 v8 v9).bind fun S10 =>
  (oR S10 19 x1 8).bind fun v11 =>
  (oI S10 21 v11 0).bind fun v12 =>
  (wRI S10 34 v8 v12).bind fun S13 =>
  (oR S13 19 x1 6).bind fun v14 =>
  if v14 = none then (f_layLet_80 K S13 x1) else ((oR S13 19 x1 6).bind fun v15 =>
  (oR S13 15 v15 12).bind fun v16 =>
  bnd (f_uses K S13 v8 v16) fun S17 v18 =>
  f_layLet_80 K S17 x1)
def f_layLet_15 (K : Ky) (S : Sg) (x1 : Option Nat) : Option (Sg × Unit) :=
  (oR S 19 x1 6).bind fun v5 =>
  if v5 = none then (f_layLet_30 K S x1 13) else (f_layLet_30 K S x1 12)
def f_layLet (K : Ky) (S0 : Sg) (x1 : Option Nat) : Option (Sg × Unit) :=
  (oR S0 19 x1 6).bind fun v1 =>
  if v1 = none then (f_layLet_15 K S0 x1) else ((oR S0 19 x1 6).bind fun v2 =>
  bnd (f_give K 410 S0 v2) fun S3 v4 =>
  f_layLet_15 K S3 x1)
def f_layPart_202 (K : Ky) (S : Sg) (x2 : Option Nat) (x3 : Int32) (x6 : Int32) (y0 : Int32) (y1 : Option Nat) (y3 : Int32) : Option (Sg × Unit) :=
  bnd (f_newLoan K S y1 y0) fun S39 v40 =>
  (wRI S39 35 y3 v40).bind fun S41 =>
  (oR S41 13 x2 4).bind fun v42 =>
  (aQ K 5 S41 v42 x3).bind fun v43 =>
  (oI S41 21 v43 0).bind fun v44 =>
  (wRI S41 34 x6 v44).bind fun S45 =>
  some (S45, ())
def f_layPart_64 (K : Ky) : Nat → Sg → Option Nat → Option Nat → Int32 → Option Nat → Option Nat → Int32 → Option (Sg × Unit)
  | 0, _, _, _, _, _, _, _ => none
  | n9 + 1, S, x1, x2, x3, x4, x5, x6 =>
    (oI S 18 x4 1).bind fun v13 =>
    if v13 < x6 then ((oR S 18 x5 2).bind fun v14 =>
    (oI S 18 x4 1).bind fun v15 =>
    (oI S 13 x2 1).bind fun v16 =>
    (bI K S v14 v15 ((1000 + (16 * v16)) + x3)).bind fun S17 =>
    (oR S17 18 x5 3).bind fun v18 =>
    (oI S17 18 x4 1).bind fun v19 =>
    (oR S17 13 x2 4).bind fun v20 =>
    (aQ K 5 S17 v20 x3).bind fun v21 =>
    (oR S17 21 v21 2).bind fun v22 =>
    (oR S17 20 v22 3).bind fun v23 =>
    (bQ K 4 20 S17 v18 (v19 + 1) v23).bind fun S24 =>
    (oR S24 19 x1 6).bind fun v25 =>
    (oI S24 15 v25 1).bind fun v26 =>
    bnd (f_point K S24 23 v26) fun S27 v28 =>
    bnd (f_through K S27 v28 x5) fun S29 v30 =>
    (oR S29 13 x2 4).bind fun v31 =>
    (aQ K 5 S29 v31 x3).bind fun v32 =>
    (wQ S29 21 40 v28 v32).bind fun S33 =>
    (oI S33 19 x1 3).bind fun v34 =>
    if v34 = 0 then (f_layPart_202 K S33 x2 x3 v28 1 x5 v28) else (f_layPart_202 K S33 x2 x3 v28 0 x5 v28)) else ((oR S 18 x5 3).bind fun v35 =>
    (oR S 18 x4 3).bind fun v36 =>
    (aQ K 4 S v36 x6).bind fun v37 =>
    (bQ K 4 20 S v35 x6 v37).bind fun S38 =>
    f_layPart_64 K n9 S38 x1 x2 x3 x4 x5 (x6 + 1))
def f_layPart_29 (K : Ky) : Nat → Sg → Option Nat → Option Nat → Int32 → Option Nat → Option Nat → Int32 → Option (Sg × Unit)
  | 0, _, _, _, _, _, _, _ => none
  | n9 + 1, S, x1, x2, x3, x4, x5, x6 =>
    (oI S 18 x4 1).bind fun v8 =>
    if v8 ≤ x6 then (f_layPart_64 K bigN S x1 x2 x3 x4 x5 0) else ((oR S 18 x5 2).bind fun v9 =>
    (oR S 18 x4 2).bind fun v10 =>
    (aI K S v10 x6).bind fun v11 =>
    (bI K S v9 x6 v11).bind fun S12 =>
    f_layPart_29 K n9 S12 x1 x2 x3 x4 x5 (x6 + 1))
def f_layPart (K : Ky) (S0 : Sg) (x1 : Option Nat) (x2 : Option Nat) (x3 : Int32) (x4 : Option Nat) : Option (Sg × Unit) :=
  bnd (nO K S0 18 4 [.null, .int 0, .null, .null]) fun S1 a2 =>
  (oI S1 18 x4 1).bind fun v3 =>
  bnd (f_X18_init K S1 a2 (v3 + 1)) fun S4 _ =>
  (oR S4 18 x4 0).bind fun v6 =>
  (pV S4 18 (some a2) 0 (va_rf v6)).bind fun S7 =>
  f_layPart_29 K bigN S7 x1 x2 x3 x4 (some a2) 0
def f_layReturn_87 (K : Ky) (S : Sg) (x1 : Option Nat) (x2 : Int32) : Option (Sg × Unit) :=
  (oI S 19 x1 1).bind fun v25 =>
  bnd (f_point K S 26 v25) fun S26 v27 =>
  (pM S26 48 x2).bind fun S28 =>
  some (S28, ())
def f_layReturn_20 (K : Ky) (S : Sg) (x1 : Option Nat) (x2 : Int32) : Option (Sg × Unit) :=
  (oI S 19 x1 1).bind fun v5 =>
  bnd (f_goOut K S 0 v5) fun S6 v7 =>
  (oR S6 19 x1 6).bind fun v8 =>
  if v8 = none then (f_layReturn_87 K S6 x1 x2) else ((oR S6 19 x1 6).bind fun v9 =>
  (oR S6 15 v9 12).bind fun v10 =>
  bnd (f_refers K S6 v10) fun S11 v12 =>
  if v12 = 0 then (f_layReturn_87 K S11 x1 x2) else ((oR S11 19 x1 6).bind fun v13 =>
  (oI S11 15 v13 1).bind fun v14 =>
  bnd (f_point K S11 25 v14) fun S15 v16 =>
  bnd (f_temporary K S15 x2) fun S17 v18 =>
  bnd (f_just K S17 v18) fun S19 v20 =>
  (wA K S19 37 v16 v20).bind fun S21 =>
  bnd (f_temporary K S21 x2) fun S22 v23 =>
  (wRI S22 28 v16 v23).bind fun S24 =>
  f_layReturn_87 K S24 x1 x2))
def f_layReturn (K : Ky) (S0 : Sg) (x1 : Option Nat) : Option (Sg × Unit) :=
  (oR S0 19 x1 6).bind fun v1 =>
  if v1 = none then (f_layReturn_20 K S0 x1 (Zi S0 48)) else ((oR S0 19 x1 6).bind fun v2 =>
  bnd (f_give K 410 S0 v2) fun S3 v4 =>
  f_layReturn_20 K S3 x1 (Zi S0 48))
def f_layWhile (K : Ky) (V : Sg → Option Nat → Option (Sg × Unit)) (S0 : Sg) (x1 : Option Nat) : Option (Sg × Unit) :=
  (oI S0 19 x1 1).bind fun v1 =>
  bnd (f_point K S0 0 v1) fun S2 v3 =>
  (oR S2 19 x1 6).bind fun v4 =>
  bnd (f_give K 410 S2 v4) fun S5 v6 =>
  (pM S5 48 ((Zi S5 48) - 1)).bind fun S7 =>
  (oI S7 19 x1 1).bind fun v8 =>
  bnd (f_point K S7 17 v8) fun S9 v10 =>
  (oR S9 19 x1 9).bind fun v11 =>
  bnd (V S9 v11) fun S12 v13 =>
  (oI S12 19 x1 1).bind fun v14 =>
  bnd (f_point K S12 16 v14) fun S15 v16 =>
  (wRI S15 30 v16 v3).bind fun S17 =>
  (wRI S17 30 v10 (Zi S17 26)).bind fun S18 =>
  some (S18, ())
def f_layMatch_237 (K : Ky) (V : Sg → Option Nat → Option (Sg × Unit)) (k142 : Sg → Option Nat → Option Nat → Int32 → Option Nat → Int32 → Option (Sg × Unit)) (k210 : Sg → Option Nat → Option Nat → Int32 → Option Nat → Int32 → Option Nat → Int32 → Int32 → Option (Sg × Unit)) (S : Sg) (x1 : Option Nat) (x2 : Option Nat) (x3 : Int32) (x4 : Option Nat) (x5 : Int32) (x6 : Option Nat) (x7 : Int32) (x8 : Int32) : Option (Sg × Unit) :=
  (oR S 13 x6 4).bind fun v58 =>
  (aQ K 5 S v58 x8).bind fun v59 =>
  bnd (f_comesAlive K S v59) fun S60 v61 =>
  k210 S60 x1 x2 x3 x4 x5 x6 x7 (x8 + 1)
def f_layMatch_210 (K : Ky) (V : Sg → Option Nat → Option (Sg × Unit)) (k142 : Sg → Option Nat → Option Nat → Int32 → Option Nat → Int32 → Option (Sg × Unit)) : Nat → Sg → Option Nat → Option Nat → Int32 → Option Nat → Int32 → Option Nat → Int32 → Int32 → Option (Sg × Unit)
  | 0, _, _, _, _, _, _, _, _, _ => none
  | n9 + 1, S, x1, x2, x3, x4, x5, x6, x7, x8 =>
    (oI S 13 x6 3).bind fun v42 =>
    if v42 ≤ x8 then ((oR S 13 x6 5).bind fun v43 =>
    bnd (V S v43) fun S44 v45 =>
    (oR S44 13 x6 5).bind fun v46 =>
    (oI S44 14 v46 1).bind fun v47 =>
    bnd (f_goOut K S44 x7 v47) fun S48 v49 =>
    (pM S48 50 x7).bind fun S50 =>
    (oI S50 19 x1 1).bind fun v51 =>
    bnd (f_point K S50 16 v51) fun S52 v53 =>
    (bI K S52 x4 x5 v53).bind fun S54 =>
    k142 S54 x1 x2 x3 x4 (x5 + 1)) else ((oI S 19 x1 4).bind fun v55 =>
    if v55 = 0 then (f_layMatch_237 K V k142 ((f_layMatch_210 K V k142 n9)) S x1 x2 x3 x4 x5 x6 x7 x8) else (bnd (f_layPart K S x1 x6 x8 x2) fun S56 v57 =>
    f_layMatch_237 K V k142 ((f_layMatch_210 K V k142 n9)) S56 x1 x2 x3 x4 x5 x6 x7 x8))
def f_layMatch_207 (K : Ky) (V : Sg → Option Nat → Option (Sg × Unit)) (k142 : Sg → Option Nat → Option Nat → Int32 → Option Nat → Int32 → Option (Sg × Unit)) (S : Sg) (x1 : Option Nat) (x2 : Option Nat) (x3 : Int32) (x4 : Option Nat) (x5 : Int32) (x6 : Option Nat) (x7 : Int32) : Option (Sg × Unit) :=
  f_layMatch_210 K V k142 bigN S x1 x2 x3 x4 x5 x6 x7 0
def f_layMatch_308 (K : Ky) (V : Sg → Option Nat → Option (Sg × Unit)) : Nat → Sg → Option Nat → Option Nat → Int32 → Option (Sg × Unit)
  | 0, _, _, _, _ => none
  | n9 + 1, S, x1, x4, x5 =>
    (oI S 19 x1 13).bind fun v62 =>
    if v62 ≤ x5 then (some (S, ())) else ((aI K S x4 x5).bind fun v63 =>
    (wRI S 30 v63 (Zi S 26)).bind fun S64 =>
    f_layMatch_308 K V n9 S64 x1 x4 (x5 + 1))
def f_layMatch_142 (K : Ky) (V : Sg → Option Nat → Option (Sg × Unit)) : Nat → Sg → Option Nat → Option Nat → Int32 → Option Nat → Int32 → Option (Sg × Unit)
  | 0, _, _, _, _, _, _ => none
  | n9 + 1, S, x1, x2, x3, x4, x5 =>
    (oI S 19 x1 13).bind fun v31 =>
    if v31 ≤ x5 then (f_layMatch_308 K V bigN S x1 x4 0) else ((oR S 19 x1 12).bind fun v32 =>
    (aQ K 7 S v32 x5).bind fun v33 =>
    (rQ S 42 x3).bind fun v34 =>
    (oI S 13 v33 1).bind fun v35 =>
    (bI K S v34 v35 (Zi S 26)).bind fun S36 =>
    (oI S36 19 x1 4).bind fun v37 =>
    if v37 = 0 then ((oI S36 13 v33 0).bind fun v38 =>
    bnd (f_point K S36 22 v38) fun S39 v40 =>
    (wQ S39 13 41 v40 v33).bind fun S41 =>
    f_layMatch_207 K V ((f_layMatch_142 K V n9)) S41 x1 x2 x3 x4 x5 v33 (Zi S 50)) else (f_layMatch_207 K V ((f_layMatch_142 K V n9)) S36 x1 x2 x3 x4 x5 v33 (Zi S 50)))
def f_layMatch_105 (K : Ky) (V : Sg → Option Nat → Option (Sg × Unit)) (S : Sg) (x1 : Option Nat) (x2 : Option Nat) (x3 : Int32) : Option (Sg × Unit) :=
  (oR S 19 x1 6).bind fun v20 =>
  (oR S 15 v20 12).bind fun v21 =>
  (oI S 20 v21 1).bind fun v22 =>
  (rQ S 11 v22).bind fun v23 =>
  (oI S 16 v23 3).bind fun v24 =>
  bnd (nA K S v24) fun S25 a26 =>
  (wA K S25 42 x3 (some a26)).bind fun S27 =>
  (oI S27 19 x1 13).bind fun v28 =>
  bnd (nA K S27 v28) fun S29 a30 =>
  f_layMatch_142 K V bigN S29 x1 x2 x3 (some a30) 0
def f_layMatch_91 (K : Ky) (V : Sg → Option Nat → Option (Sg × Unit)) (S : Sg) (x1 : Option Nat) (x2 : Option Nat) (x3 : Int32) (y0 : Int32) (y1 : Int32) : Option (Sg × Unit) :=
  (wRI S 33 y1 y0).bind fun S19 =>
  f_layMatch_105 K V S19 x1 x2 x3
def f_layMatch_50 (K : Ky) (V : Sg → Option Nat → Option (Sg × Unit)) (S : Sg) (x1 : Option Nat) (x2 : Option Nat) (y0 : Int32) : Option (Sg × Unit) :=
  (oR S 19 x1 6).bind fun v10 =>
  (oI S 15 v10 1).bind fun v11 =>
  bnd (f_point K S y0 v11) fun S12 v13 =>
  (oI S12 19 x1 4).bind fun v14 =>
  if v14 = 0 then ((pM S12 48 ((Zi S12 48) - 1)).bind fun S15 =>
  f_layMatch_105 K V S15 x1 x2 v13) else (bnd (f_through K S12 v13 x2) fun S16 v17 =>
  (oI S16 19 x1 3).bind fun v18 =>
  if v18 = 0 then (f_layMatch_91 K V S16 x1 x2 v13 2 v13) else (f_layMatch_91 K V S16 x1 x2 v13 3 v13))
def f_layMatch_35 (K : Ky) (V : Sg → Option Nat → Option (Sg × Unit)) (S : Sg) (x1 : Option Nat) (x2 : Option Nat) : Option (Sg × Unit) :=
  (oI S 19 x1 4).bind fun v9 =>
  if v9 = 0 then (f_layMatch_50 K V S x1 x2 20) else (f_layMatch_50 K V S x1 x2 21)
def f_layMatch_19 (K : Ky) (V : Sg → Option Nat → Option (Sg × Unit)) (S : Sg) (x1 : Option Nat) (y0 : Option Nat) : Option (Sg × Unit) :=
  (oI S 19 x1 4).bind fun v5 =>
  if v5 = 0 then ((oR S 19 x1 6).bind fun v6 =>
  bnd (f_give K 410 S v6) fun S7 v8 =>
  f_layMatch_35 K V S7 x1 y0) else (f_layMatch_35 K V S x1 y0)
def f_layMatch (K : Ky) (V : Sg → Option Nat → Option (Sg × Unit)) (S0 : Sg) (x1 : Option Nat) : Option (Sg × Unit) :=
  (oI S0 19 x1 4).bind fun v1 =>
  if v1 = 0 then (f_layMatch_19 K V S0 x1 none) else ((oR S0 19 x1 6).bind fun v2 =>
  bnd (f_pathOf K S0 v2) fun S3 v4 =>
  f_layMatch_19 K V S3 x1 v4)
def f_layIf_100 (K : Ky) (V : Sg → Option Nat → Option (Sg × Unit)) (k9 : Sg → Option Nat → Option Nat → Int32 → Option (Sg × Unit)) (S : Sg) (x1 : Option Nat) (x2 : Option Nat) (x3 : Int32) : Option (Sg × Unit) :=
  k9 S x1 x2 (x3 + 1)
def f_layIf_61 (K : Ky) (V : Sg → Option Nat → Option (Sg × Unit)) (k9 : Sg → Option Nat → Option Nat → Int32 → Option (Sg × Unit)) (S : Sg) (x1 : Option Nat) (x2 : Option Nat) (x3 : Int32) (x4 : Int32) : Option (Sg × Unit) :=
  (oR S 19 x1 11).bind fun v15 =>
  (aQ K 10 S v15 x3).bind fun v16 =>
  bnd (V S v16) fun S17 v18 =>
  (oI S17 19 x1 1).bind fun v19 =>
  bnd (f_point K S17 16 v19) fun S20 v21 =>
  (bI K S20 x2 x3 v21).bind fun S22 =>
  if x4 < 0 then (f_layIf_100 K V k9 S22 x1 x2 x3) else ((wRI S22 30 x4 (Zi S22 26)).bind fun S23 =>
  f_layIf_100 K V k9 S23 x1 x2 x3)
def f_layIf_108 (K : Ky) (V : Sg → Option Nat → Option (Sg × Unit)) : Nat → Sg → Option Nat → Option Nat → Int32 → Option (Sg × Unit)
  | 0, _, _, _, _ => none
  | n9 + 1, S, x1, x2, x3 =>
    (oI S 19 x1 13).bind fun v24 =>
    if v24 ≤ x3 then (some (S, ())) else ((aI K S x2 x3).bind fun v25 =>
    (wRI S 30 v25 (Zi S 26)).bind fun S26 =>
    f_layIf_108 K V n9 S26 x1 x2 (x3 + 1))
def f_layIf_9 (K : Ky) (V : Sg → Option Nat → Option (Sg × Unit)) : Nat → Sg → Option Nat → Option Nat → Int32 → Option (Sg × Unit)
  | 0, _, _, _, _ => none
  | n9 + 1, S, x1, x2, x3 =>
    (oI S 19 x1 13).bind fun v4 =>
    if v4 ≤ x3 then (f_layIf_108 K V bigN S x1 x2 0) else ((oR S 19 x1 10).bind fun v5 =>
    (aQ K 9 S v5 x3).bind fun v6 =>
    if v6 = none then (f_layIf_61 K V ((f_layIf_9 K V n9)) S x1 x2 x3 (-1)) else ((oR S 19 x1 10).bind fun v7 =>
    (aQ K 9 S v7 x3).bind fun v8 =>
    bnd (f_give K 410 S v8) fun S9 v10 =>
    (pM S9 48 ((Zi S9 48) - 1)).bind fun S11 =>
    (oI S11 19 x1 1).bind fun v12 =>
    bnd (f_point K S11 17 v12) fun S13 v14 =>
    f_layIf_61 K V ((f_layIf_9 K V n9)) S13 x1 x2 x3 v14))
def f_layIf (K : Ky) (V : Sg → Option Nat → Option (Sg × Unit)) (S0 : Sg) (x1 : Option Nat) : Option (Sg × Unit) :=
  (oI S0 19 x1 13).bind fun v1 =>
  bnd (nA K S0 v1) fun S2 a3 =>
  f_layIf_9 K V bigN S2 x1 (some a3) 0
def f_lay_210 (K : Ky) (V : Sg → Option Nat → Option (Sg × Unit)) (S : Sg) : Option (Sg × Unit) :=
  some (S, ())
def f_lay_111 (K : Ky) (V : Sg → Option Nat → Option (Sg × Unit)) (S : Sg) (x2 : Int32) : Option (Sg × Unit) :=
  (pM S 48 x2).bind fun S39 =>
  f_lay_210 K V S39
def f_lay (K : Ky) (V : Sg → Option Nat → Option (Sg × Unit)) (S0 : Sg) (x1 : Option Nat) : Option (Sg × Unit) :=
  (oI S0 19 x1 1).bind fun v1 =>
  bnd (f_point K S0 0 v1) fun S2 v3 =>
  (oI S2 19 x1 0).bind fun v4 =>
  if v4 = 0 then (bnd (f_layLet K S2 x1) fun S5 v6 =>
  f_lay_210 K V S5) else (if v4 = 1 then ((oR S2 19 x1 6).bind fun v7 =>
  bnd (f_give K 410 S2 v7) fun S8 v9 =>
  if (Zi S8 48) ≤ (Zi S2 48) then (f_lay_111 K V S8 (Zi S2 48)) else ((oI S8 19 x1 1).bind fun v10 =>
  bnd (f_point K S8 11 v10) fun S11 v12 =>
  (oR S11 19 x1 6).bind fun v13 =>
  (oR S11 15 v13 12).bind fun v14 =>
  (wQ S11 20 39 v12 v14).bind fun S15 =>
  f_lay_111 K V S15 (Zi S2 48))) else (if v4 = 2 then (bnd (f_layAssign K S2 x1) fun S16 v17 =>
  f_lay_210 K V S16) else (if v4 = 3 then (bnd (f_layIf K V S2 x1) fun S18 v19 =>
  f_lay_210 K V S18) else (if v4 = 4 then (bnd (f_layWhile K V S2 x1) fun S20 v21 =>
  f_lay_210 K V S20) else (if v4 = 5 then (bnd (f_layMatch K V S2 x1) fun S22 v23 =>
  f_lay_210 K V S22) else (if v4 = 6 then (bnd (f_layReturn K S2 x1) fun S24 v25 =>
  f_lay_210 K V S24) else (if v4 = 7 then ((oR S2 19 x1 6).bind fun v26 =>
  bnd (f_give K 410 S2 v26) fun S27 v28 =>
  (pM S27 48 ((Zi S27 48) - 1)).bind fun S29 =>
  (oI S29 19 x1 1).bind fun v30 =>
  bnd (f_point K S29 15 v30) fun S31 v32 =>
  (oR S31 19 x1 6).bind fun v33 =>
  (oR S31 15 v33 12).bind fun v34 =>
  (wQ S31 20 39 v32 v34).bind fun S35 =>
  f_lay_210 K V S35) else ((oR S2 19 x1 9).bind fun v36 =>
  bnd (V S2 v36) fun S37 v38 =>
  f_lay_210 K V S37))))))))
def f_layBlock_7 (K : Ky) (V : Sg → Option Nat → Option (Sg × Unit)) : Nat → Sg → Option Nat → Int32 → Int32 → Option (Sg × Unit)
  | 0, _, _, _, _ => none
  | n9 + 1, S, x1, x2, x3 =>
    (oI S 14 x1 3).bind fun v1 =>
    if v1 ≤ x3 then ((oI S 14 x1 1).bind fun v2 =>
    bnd (f_goOut K S x2 v2) fun S3 v4 =>
    (pM S3 50 x2).bind fun S5 =>
    some (S5, ())) else ((oR S 14 x1 2).bind fun v6 =>
    (aQ K 11 S v6 x3).bind fun v7 =>
    bnd (f_lay K V S v7) fun S8 v9 =>
    f_layBlock_7 K V n9 S8 x1 x2 (x3 + 1))
def f_layBlock (K : Ky) : Nat → Sg → Option Nat → Option (Sg × Unit)
  | 0, _, _ => none
  | d + 1, S0, x1 =>
    f_layBlock_7 K (f_layBlock K d) bigN S0 x1 (Zi S0 50) 0
def f_layFunction_99 (K : Ky) (k32 : Sg → Option Nat → Int32 → Option (Sg × Unit)) (S : Sg) (x2 : Option Nat) (x3 : Int32) : Option (Sg × Unit) :=
  k32 S x2 (x3 + 1)
def f_layFunction_32 (K : Ky) : Nat → Sg → Option Nat → Int32 → Option (Sg × Unit)
  | 0, _, _, _ => none
  | n9 + 1, S, x2, x3 =>
    (oI S 16 x2 3).bind fun v6 =>
    if v6 ≤ x3 then ((oR S 16 x2 16).bind fun v7 =>
    bnd (f_layBlock K 45 S v7) fun S8 v9 =>
    (oR S8 16 x2 16).bind fun v10 =>
    (oI S8 14 v10 1).bind fun v11 =>
    bnd (f_goOut K S8 0 v11) fun S12 v13 =>
    (oR S12 16 x2 16).bind fun v14 =>
    (oI S12 14 v14 1).bind fun v15 =>
    bnd (f_point K S12 26 v15) fun S16 v17 =>
    (pV S16 16 x2 4 (.int (Zi S16 26))).bind fun S18 =>
    some (S18, ())) else ((oR S 16 x2 17).bind fun v19 =>
    (aQ K 5 S v19 x3).bind fun v20 =>
    bnd (f_comesAlive K S v20) fun S21 v22 =>
    (oR S21 16 x2 10).bind fun v23 =>
    (aQ K 4 S21 v23 x3).bind fun v24 =>
    bnd (f_refers K S21 v24) fun S25 v26 =>
    if v26 = 0 then (f_layFunction_99 K ((f_layFunction_32 K n9)) S25 x2 x3) else (bnd (f_newLoan K S25 none 1) fun S27 v28 =>
    (oR S27 16 x2 17).bind fun v29 =>
    (aQ K 5 S27 v29 x3).bind fun v30 =>
    (oI S27 21 v30 0).bind fun v31 =>
    (wRI S27 45 v28 v31).bind fun S32 =>
    (oR S32 16 x2 13).bind fun v33 =>
    (aI K S32 v33 x3).bind fun v34 =>
    (wRI S32 46 v28 v34).bind fun S35 =>
    f_layFunction_99 K ((f_layFunction_32 K n9)) S35 x2 x3))
def f_layFunction (K : Ky) (S0 : Sg) (x1 : Int32) : Option (Sg × Unit) :=
  (rQ S0 11 x1).bind fun v1 =>
  (pV S0 16 v1 5 (.int (Zi S0 26))).bind fun S2 =>
  (pM S2 47 0).bind fun S3 =>
  (pM S3 48 0).bind fun S4 =>
  (pM S4 50 0).bind fun S5 =>
  f_layFunction_32 K bigN S5 v1 0
def f_follows_38 (K : Ky) (S : Sg) (y0 : Int32) : Option (Sg × Int32) :=
  some (S, y0)
def f_follows_84 (K : Ky) (S : Sg) (y0 : Int32) : Option (Sg × Int32) :=
  some (S, y0)
def f_follows_61 (K : Ky) (S : Sg) (x1 : Int32) (x2 : Int32) : Option (Sg × Int32) :=
  (rQ S 42 x1).bind fun v7 =>
  (aLn K 0 S v7).bind fun v8 =>
  if v8 ≤ x2 then (f_follows_84 K S (-1)) else ((rQ S 42 x1).bind fun v9 =>
  (aI K S v9 x2).bind fun v10 =>
  f_follows_84 K S v10)
def f_follows_108 (K : Ky) (S : Sg) (y0 : Int32) : Option (Sg × Int32) :=
  some (S, y0)
def f_follows (K : Ky) (S0 : Sg) (x1 : Int32) (x2 : Int32) : Option (Sg × Int32) :=
  (rI S0 27 x1).bind fun v1 =>
  if v1 = 26 then (some (S0, (-1))) else ((rI S0 27 x1).bind fun v2 =>
  if v2 = 16 then (if x2 = 0 then ((rI S0 30 x1).bind fun v6 =>
  f_follows_38 K S0 v6) else (f_follows_38 K S0 (-1))) else ((rI S0 27 x1).bind fun v3 =>
  if v3 = 20 then (f_follows_61 K S0 x1 x2) else ((rI S0 27 x1).bind fun v4 =>
  if v4 = 21 then (f_follows_61 K S0 x1 x2) else (if x2 = 0 then (some (S0, x1 + 1)) else (if x2 = 1 then ((rI S0 30 x1).bind fun v5 =>
  f_follows_108 K S0 v5) else (f_follows_108 K S0 (-1)))))))
