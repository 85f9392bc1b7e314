def f_count (K : Ky) (S0 : Sg) (x1 : Int32) : Option (Sg × Int32) :=
  if x1 = 0 then (some (S0, Zi S0 71)) else (if x1 = 1 then (some (S0, Zi S0 68)) else (if x1 = 2 then (some (S0, Zi S0 69)) else (if x1 = 3 then (some (S0, Zi S0 1)) else (if x1 = 4 then (some (S0, Zi S0 84)) else (if x1 = 5 then (some (S0, Zi S0 86)) else (some (S0, (-1))))))))
