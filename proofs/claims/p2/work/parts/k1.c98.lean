def f_runP_23 (K : Ky) (V : Sg → Option (Sg × Int32)) (S : Sg) : Option (Sg × Int32) :=
  some (S, (-1))
def f_runP (K : Ky) (V : Sg → Option (Sg × Int32)) (S0 : Sg) (x1 : Int32) (x2 : Int32) : Option (Sg × Int32) :=
  if x1 < 0 then (f_runP_23 K V S0) else (if (Zi S0 1) < x1 then (f_runP_23 K V S0) else (if x2 < 0 then (f_runP_23 K V S0) else (if x2 ≤ 20000 then ((pM S0 2 x1).bind fun S1 =>
  (pM S1 1 0).bind fun S2 =>
  (pM S2 3 0).bind fun S3 =>
  (pM S3 4 (-1)).bind fun S4 =>
  (pM S4 70 x2).bind fun S5 =>
  (pM S5 68 0).bind fun S6 =>
  (pM S6 69 0).bind fun S7 =>
  V S7) else (f_runP_23 K V S0))))
