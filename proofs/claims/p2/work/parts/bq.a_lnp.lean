/-- the bit b -/
def bt (b : Nat) : Int64 := (1 : Int64) <<< ((nI b : Int32).toInt64 &&& 63)
/-- what d instructions from a on tell of borrows: their places, the loans on each variable, the shared ones -/
def gaS (F : tF) (pof : Nat → Int32) (lon : Nat → Int64) (a : Nat) : Nat → (Nat → Int32) × (Nat → Int64) × Int64
  | 0 => (pof, lon, 0)
  | d + 1 => if F 0 (a + d) = 4 then (upd (gaS F pof lon a d).1 (cN (F 2 (a + d))) (F 1 (a + d)), vp_updL (gaS F pof lon a d).2.1 (cN (F 6 (cN (F 1 (a + d))))) ((gaS F pof lon a d).2.1 (cN (F 6 (cN (F 1 (a + d))))) ||| bt (cN (F 2 (a + d)))), (gaS F pof lon a d).2.2 ||| (if F 3 (a + d) = 0 then bt (cN (F 2 (a + d))) else 0)) else gaS F pof lon a d
theorem gaS_4 {F : tF} {pof : Nat → Int32} {lon : Nat → Int64} {a d p v b : Nat} (h0 : F 0 (a + d) = 4) (h1 : F 1 (a + d) = nI p) (hp : p < 2 ^ 31) (h6 : F 6 p = nI v) (hv : v < 2 ^ 31) (h2 : F 2 (a + d) = nI b) (hb : b < 2 ^ 31) : gaS F pof lon a (d + 1) = (upd (gaS F pof lon a d).1 b (nI p), vp_updL (gaS F pof lon a d).2.1 v ((gaS F pof lon a d).2.1 v ||| bt b), (gaS F pof lon a d).2.2 ||| (if F 3 (a + d) = 0 then bt b else 0)) := by
  show (if F 0 (a + d) = 4 then _ else _) = _
  rw [if_pos h0, h1, cN_nI hp, h6, cN_nI hv, h2, cN_nI hb]
theorem gaS_n {F : tF} {pof : Nat → Int32} {lon : Nat → Int64} {a d : Nat} (h0 : F 0 (a + d) ≠ 4) : gaS F pof lon a (d + 1) = gaS F pof lon a d := if_neg h0
/-- what the first k arms use -/
def uaA (F : tF) (ua : Nat → Int64) (tb : Nat) : Nat → Int64
  | 0 => 0
  | k + 1 => uaA F ua tb k ||| ua (cN (F 13 (tb + k)))
/-- what is used ahead of instruction i, of code o, if x is behind it -/
def uaF (F : tF) (ua : Nat → Int64) (i : Nat) (x : Int64) : Nat → Int64
  | 2 => x ||| bt (cN (F 6 (cN (F 1 i))))
  | 3 => x ||| bt (cN (F 6 (cN (F 1 i))))
  | 4 => x ||| bt (cN (F 6 (cN (F 1 i))))
  | 26 => if (0 : Int32) < F 9 (cN (F 1 i)) &&& 15 then x ||| bt (cN (F 6 (cN (F 1 i)))) else if F 8 (cN (F 1 i)) = 0 then x &&& (bt (cN (F 6 (cN (F 1 i)))) ^^^ -1) else x
  | 24 => x &&& (bt (cN (F 1 i)) ^^^ -1)
  | 25 => x &&& (bt (cN (F 1 i)) ^^^ -1)
  | 29 => x &&& (bt (cN (F 1 i)) ^^^ -1)
  | 30 => x &&& (bt (cN (F 1 i)) ^^^ -1)
  | 32 => x &&& ((bt (cN (F 2 i)) - bt (cN (F 1 i))) ^^^ -1)
  | 17 => x ||| ua (cN (F 1 i))
  | 18 => x ||| ua (cN (F 1 i))
  | 19 => x ||| ua (cN (F 1 i))
  | 15 => ua (cN (F 1 i))
  | 16 => ua (cN (F 1 i))
  | 20 => uaA F ua (cN (F 1 i)) (cN (F 3 i))
  | 22 => 0
  | _ => x
def uaW (F : tF) (ua : Nat → Int64) (i : Nat) (x : Int64) (o : Nat) : Nat → Int64 := if o = 13 ∨ o = 14 then vp_updL ua (cN (F 1 i)) x else ua
def uaG (F : tF) (ua : Nat → Int64) (i : Nat) (x : Int64) (ag : Int32) (o : Nat) : Int32 := if o = 14 then (if ag ≠ 0 then 1 else if lg_cmp (ua (cN (F 1 i))) x = 0 then 0 else 1) else ag
theorem uaF_d {F : tF} {ua : Nat → Int64} {i : Nat} {x : Int64} : ∀ o : Nat, o ≠ 2 → o ≠ 3 → o ≠ 4 → o ≠ 26 → o ≠ 24 → o ≠ 25 → o ≠ 29 → o ≠ 30 → o ≠ 32 → o ≠ 17 → o ≠ 18 → o ≠ 19 → o ≠ 15 → o ≠ 16 → o ≠ 20 → o ≠ 22 → uaF F ua i x o = x
  | 0, _, _, _, _, _, _, _, _, _, _, _, _, _, _, _, _ => rfl
  | 1, _, _, _, _, _, _, _, _, _, _, _, _, _, _, _, _ => rfl
  | 2, h, _, _, _, _, _, _, _, _, _, _, _, _, _, _, _ => absurd rfl h
  | 3, _, h, _, _, _, _, _, _, _, _, _, _, _, _, _, _ => absurd rfl h
  | 4, _, _, h, _, _, _, _, _, _, _, _, _, _, _, _, _ => absurd rfl h
  | 5, _, _, _, _, _, _, _, _, _, _, _, _, _, _, _, _ => rfl
  | 6, _, _, _, _, _, _, _, _, _, _, _, _, _, _, _, _ => rfl
  | 7, _, _, _, _, _, _, _, _, _, _, _, _, _, _, _, _ => rfl
  | 8, _, _, _, _, _, _, _, _, _, _, _, _, _, _, _, _ => rfl
  | 9, _, _, _, _, _, _, _, _, _, _, _, _, _, _, _, _ => rfl
  | 10, _, _, _, _, _, _, _, _, _, _, _, _, _, _, _, _ => rfl
  | 11, _, _, _, _, _, _, _, _, _, _, _, _, _, _, _, _ => rfl
  | 12, _, _, _, _, _, _, _, _, _, _, _, _, _, _, _, _ => rfl
  | 13, _, _, _, _, _, _, _, _, _, _, _, _, _, _, _, _ => rfl
  | 14, _, _, _, _, _, _, _, _, _, _, _, _, _, _, _, _ => rfl
  | 15, _, _, _, _, _, _, _, _, _, _, _, _, h, _, _, _ => absurd rfl h
  | 16, _, _, _, _, _, _, _, _, _, _, _, _, _, h, _, _ => absurd rfl h
  | 17, _, _, _, _, _, _, _, _, _, h, _, _, _, _, _, _ => absurd rfl h
  | 18, _, _, _, _, _, _, _, _, _, _, h, _, _, _, _, _ => absurd rfl h
  | 19, _, _, _, _, _, _, _, _, _, _, _, h, _, _, _, _ => absurd rfl h
  | 20, _, _, _, _, _, _, _, _, _, _, _, _, _, _, h, _ => absurd rfl h
  | 21, _, _, _, _, _, _, _, _, _, _, _, _, _, _, _, _ => rfl
  | 22, _, _, _, _, _, _, _, _, _, _, _, _, _, _, _, h => absurd rfl h
  | 23, _, _, _, _, _, _, _, _, _, _, _, _, _, _, _, _ => rfl
  | 24, _, _, _, _, h, _, _, _, _, _, _, _, _, _, _, _ => absurd rfl h
  | 25, _, _, _, _, _, h, _, _, _, _, _, _, _, _, _, _ => absurd rfl h
  | 26, _, _, _, h, _, _, _, _, _, _, _, _, _, _, _, _ => absurd rfl h
  | 27, _, _, _, _, _, _, _, _, _, _, _, _, _, _, _, _ => rfl
  | 28, _, _, _, _, _, _, _, _, _, _, _, _, _, _, _, _ => rfl
  | 29, _, _, _, _, _, _, h, _, _, _, _, _, _, _, _, _ => absurd rfl h
  | 30, _, _, _, _, _, _, _, h, _, _, _, _, _, _, _, _ => absurd rfl h
  | 31, _, _, _, _, _, _, _, _, _, _, _, _, _, _, _, _ => rfl
  | 32, _, _, _, _, _, _, _, _, h, _, _, _, _, _, _, _ => absurd rfl h
  | _ + 33, _, _, _, _, _, _, _, _, _, _, _, _, _, _, _, _ => rfl
