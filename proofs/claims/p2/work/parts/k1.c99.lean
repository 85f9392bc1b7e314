def f_run_120 (K : Ky) (S : Sg) : Option (Sg × Int32) :=
  (pM S 71 (Zi S 70)).bind fun S18 =>
  some (S18, Zi S18 3)
def f_run_106 (K : Ky) (S : Sg) (y0 : Int32) : Option (Sg × Int32) :=
  (pM S 88 y0).bind fun S13 =>
  bnd (f_ok K S13) fun S14 v15 =>
  if v15 = 0 then (f_run_120 K S14) else (bnd (f_runMain K S14) fun S16 v17 =>
  f_run_120 K S16)
def f_run_90 (K : Ky) (S : Sg) : Option (Sg × Int32) :=
  bnd (f_ok K S) fun S11 v12 =>
  if v12 = 0 then (f_run_106 K S11 (Zi S11 4)) else (f_run_106 K S11 (-1))
def f_run_79 (K : Ky) (S : Sg) : Option (Sg × Int32) :=
  bnd (f_ok K S) fun S7 v8 =>
  if v8 = 0 then (f_run_90 K S7) else (bnd (f_layAll K S7) fun S9 v10 =>
  f_run_90 K S9)
def f_run64 (K : Ky) (S0 : Sg) : Option (Sg × Int32) :=
  bnd (f_program K S0) fun S1 v2 =>
  bnd (f_ok K S1) fun S3 v4 =>
  if v4 = 0 then (f_run_79 K S3) else (bnd (f_typeAll K S3) fun S5 v6 =>
  f_run_79 K S5)
