/-- the number of a type of values: 1 int, 2 bool, 3 token, 4 + i item i, 100 + t the box that is type t -/
def abV (S : Sg) (x : Nat) : Nat := match ZF S x with
  | .inr (20, [.int kd, .int ix, .int id, _]) => if kd = 0 then 1 else if kd = 1 then 2 else if kd = 2 then 3 else if kd = 3 ∨ kd = 4 then 4 + ix.toNatClampNeg else if kd = 5 then 100 + id.toNatClampNeg else 0
  | _ => 0
def abO (S : Sg) : Value → Nat
  | .ref u => abV S u
  | _ => 0
/-- .. of any type: 10000 and on the references, 0 nothing -/
def abT (S : Sg) (x : Nat) : Nat := match ZF S x with
  | .inr (20, [.int kd, .int _, .int _, o]) => if kd = 6 then 10000 + 2 * abO S o else if kd = 7 then 10001 + 2 * abO S o else abV S x
  | _ => 0
/-- .. of what may be none -/
def abU (S : Sg) : Option Nat → Nat
  | some x => abT S x
  | none => 0
/-- an object's values, a row's references -/
def obF (S : Sg) (a : Nat) : List Value := match ZF S a with
  | .inr (_, fs) => fs
  | _ => []
def roQ (S : Sg) (a k : Nat) : Option Nat := match ZF S a with
  | .inl (_, _, .inr (.inr (.inr (.inr f)))) => f k
  | _ => none
def abR (S : Sg) (o : Option Nat) (k : Nat) : Nat := match o with
  | some a => (match roQ S a k with
    | some x => abV S x
    | none => 0)
  | none => 0
/-- an enum's parts of variant g -/
def paI (R : yR) (S : Sg) (i g : Nat) : List Value := match rN (obF S (R.ws i)) 11 with
  | some vr => (match roQ S vr g with
    | some pa => obF S pa
    | none => [])
  | none => []
def yK (R : yR) (S : Sg) (n : Nat) : Nat := if 10000 ≤ n then (if n < 30000 then (if n % 2 = 0 then 5 else 6) else 0) else if 4 ≤ n ∧ n < 4 + R.im then (if R.ik (n - 4) = 10 then 2 else if R.ik (n - 4) = 11 then 3 else 0) else if 100 ≤ n ∧ n < 100 + tmS S then (match Zq S 18 (n - 100) with
    | some x => (if fN (obF S x) 0 = 5 then 4 else 0)
    | none => 0) else 0
def yO (S : Sg) (n : Nat) : Nat := if 10000 ≤ n then (n - 10000) / 2 else match Zq S 18 (n - 100) with
    | some x => (match (obF S x)[3]? with
      | some v => abO S v
      | none => 0)
    | none => 0
def yP (R : yR) (S : Sg) (n g : Nat) : Nat := if R.ik (n - 4) = 10 then (if g = 0 then fN (obF S (R.ws (n - 4))) 3 else 0) else fN (paI R S (n - 4) g) 0
def yQ (R : yR) (S : Sg) (n g k : Nat) : Nat := if R.ik (n - 4) = 10 then abR S (rN (obF S (R.ws (n - 4))) 10) k else abR S (rN (paI R S (n - 4) g) 2) k
/-- the table of types -/
def yT (R : yR) (S : Sg) : qY := (yK R S, yO S, fun n => fN (obF S (R.ws (n - 4))) 3, yP R S, yQ R S)
/-- an instruction: kind, access, path (variable, way, type), holder, loan, used, from, what follows, three numbers, a list -/
abbrev iR := Nat × Nat × Option (Nat × lLc × Nat) × (Option Nat × Option Nat) × (List Nat × List Nat) × List Nat × (Nat × Nat × Nat) × List Nat
def iR.kd (i : iR) : Nat := i.1
def iR.ac (i : iR) : Nat := i.2.1
def iR.pa (i : iR) : Option (Nat × lLc × Nat) := i.2.2.1
def iR.ho (i : iR) : Option Nat := i.2.2.2.1.1
def iR.ln (i : iR) : Option Nat := i.2.2.2.1.2
def iR.us (i : iR) : List Nat := i.2.2.2.2.1.1
def iR.fr (i : iR) : List Nat := i.2.2.2.2.1.2
def iR.sc (i : iR) : List Nat := i.2.2.2.2.2.1
def iR.n1 (i : iR) : Nat := i.2.2.2.2.2.2.1.1
def iR.n2 (i : iR) : Nat := i.2.2.2.2.2.2.1.2.1
def iR.n3 (i : iR) : Nat := i.2.2.2.2.2.2.1.2.2
def iR.vs (i : iR) : List Nat := i.2.2.2.2.2.2.2
/-- a number that may be none -/
def oNm : Option Nat → Int32
  | none => -1
  | some h => nI h
/-- a step of a way, as it is written -/
def sCo (s : Nat × Nat) : Int32 := if s.1 = 0 then nI s.2 else if s.1 = 1 then -1 else nI (1000 + 16 * (s.1 - 2) + s.2)
/-- a variable: number, type; S0 the state behind the typing -/
def isU (S : Sg) (va v : Nat) (ty : Option Nat) (mu : Int32) : Prop := va ∈ ZL S ∧ ∃ (nm : Int32) (wh : Value), ZF S va = .inr (21, [.int (nI v), .int nm, va_rf ty, .int mu, wh])
/-- from the type x one step leads to the type y -/
def stY2 (R : yR) (S0 : Sg) (x : Nat) (s : Nat × Nat) (y : Nat) : Prop := (s = (1, 0) ∧ ∃ kd : Int32, (kd = 5 ∨ kd = 6 ∨ kd = 7) ∧ isTy S0 x kd 0 (some y)) ∨ (∃ i k : Nat, s = (0, k) ∧ isTy S0 x 3 (nI i) none ∧ fld R S0 i k y) ∨ (∃ (i g k mk : Nat) (tx : Nat → Nat), s = (g + 2, k) ∧ isTy S0 x 4 (nI i) none ∧ enY R S0 i g mk tx ∧ k < mk ∧ tx k = y)
/-- a path: its object w, the variable va of number v, the way, the types on it -/
def isPt (R : yR) (S0 S : Sg) (w v : Nat) (ρ : lLc) (T : Nat) : Prop := ∃ (va sa ta : Nat) (f : Nat → Int32) (g : Nat → Option Nat) (mu : Int32), w ∈ ZL S ∧ ZF S w = .inr (18, [.ref va, .int (nI ρ.length), .ref sa, .ref ta]) ∧ isU S va v (g 0) mu ∧ (sa ∈ ZL S ∧ ZF S sa = .inl (R.K.1 0, ρ.length, .inl f)) ∧ (ta ∈ ZL S ∧ ZF S ta = .inl (R.K.1 4, ρ.length + 1, .inr (.inr (.inr (.inr g))))) ∧ (∀ (j : Nat) (s : Nat × Nat), ρ[j]? = some s → f j = sCo s ∧ ∃ x y : Nat, g j = some x ∧ g (j + 1) = some y ∧ stY2 R S0 x s y) ∧ (∀ j x : Nat, j ≤ ρ.length → g j = some x → rTy S0 x) ∧ T = abU S0 (g ρ.length) ∧ ρ.length ≤ 5
/-- a row of numbers -/
def rAr (R : yR) (S : Sg) (o : Option Nat) (l : List Nat) : Prop := (o = none ∧ l = []) ∨ ∃ (a : Nat) (f : Nat → Int32), o = some a ∧ a ∈ ZL S ∧ ZF S a = .inl (R.K.1 0, l.length, .inl f) ∧ l ≠ [] ∧ ∀ j x : Nat, l[j]? = some x → f j = nI x ∧ x < 24000
/-- the arm's variables -/
def rAm (R : yR) (S0 S : Sg) (o : Option Nat) (n1 n2 : Nat) (vs : List Nat) : Prop := ∃ (a na aw bk : Nat) (tk vn : Int32) (fv : Nat → Option Nat), o = some a ∧ a ∈ ZL S ∧ ZF S a = .inr (13, [.int tk, .int vn, .ref na, .int (nI vs.length), .ref aw, .ref bk]) ∧ aw ∈ ZL S ∧ ZF S aw = .inl (R.K.1 5, 12, .inr (.inr (.inr (.inr fv)))) ∧ vs.length ≤ 12 ∧ ∀ j v : Nat, vs[j]? = some v → ∃ (va x : Nat) (mu : Int32), fv j = some va ∧ isU S va v (some x) mu ∧ rTy S0 x ∧ abT S0 x = yQ R S0 (4 + n1) n2 j
/-- the path w is of the variable a -/
def pVa (S : Sg) (w a : Nat) : Prop := ∃ gs : List Value, ZF S w = .inr (18, gs) ∧ gs[0]? = some (.ref a)
/-- what lies in the rows at point k -/
def rz (R : yR) (S0 S : Sg) (k : Nat) (i : iR) : Prop := Zr S 27 k = nI i.kd ∧ i.kd < 28 ∧ Zr S 33 k = nI i.ac ∧ i.ac < 8 ∧ Zr S 34 k = oNm i.ho ∧ Zr S 35 k = oNm i.ln ∧ rAr R S (Zq S 37 k) i.us ∧ rAr R S (Zq S 36 k) i.fr ∧ (∃ tk : Nat, Zr S 32 k = nI tk ∧ tk < R.T) ∧
  ((Zq S 38 k = none ∧ i.pa = none) ∨ ∃ (w v T : Nat) (ρ : lLc), Zq S 38 k = some w ∧ i.pa = some (v, ρ, T) ∧ isPt R S0 S w v ρ T ∧ pVa S w i.n2) ∧
  (∀ l : Nat, i.ln = some l → Zq S 43 l = Zq S 38 k ∧ Zr S 44 l = nI i.n3 ∧ i.n3 ≤ 1 ∧ Zr S 45 l = -1) ∧
  ((i.kd = 26 ∧ i.sc = []) ∨ (i.kd = 16 ∧ ∃ j : Nat, Zr S 30 k = nI j ∧ i.sc = [j] ∧ j < 24000) ∨ ((i.kd = 17 ∨ i.kd = 18 ∨ i.kd = 19) ∧ ∃ j : Nat, Zr S 30 k = nI j ∧ i.sc = [k + 1, j] ∧ j < 24000) ∨ ((i.kd = 20 ∨ i.kd = 21) ∧ rAr R S (Zq S 42 k) i.sc ∧ i.sc ≠ []) ∨ (i.kd ≠ 26 ∧ i.kd ≠ 16 ∧ i.kd ≠ 17 ∧ i.kd ≠ 18 ∧ i.kd ≠ 19 ∧ i.kd ≠ 20 ∧ i.kd ≠ 21 ∧ Zr S 30 k = -1 ∧ i.sc = [k + 1])) ∧
  ((i.kd = 7 ∨ i.kd = 11 ∨ i.kd = 15) → ∃ x : Nat, Zq S 39 k = some x ∧ rTy S0 x ∧ abT S0 x = i.n1) ∧
  ((i.kd = 8 ∨ i.kd = 9 ∨ i.kd = 10) → Zr S 28 k = nI i.n1 ∧ Zr S 29 k = nI i.n2 ∧ Zl S 31 k = Int32.toInt64 (nI i.n3)) ∧
  (i.kd = 8 → rAr R S (Zq S 42 k) i.vs) ∧
  ((i.kd = 12 ∨ i.kd = 13 ∨ i.kd = 23 ∨ i.kd = 24) → ∃ (va v : Nat) (ty : Option Nat) (mu : Int32), Zq S 40 k = some va ∧ i.vs = [v] ∧ isU S va v ty mu ∧ abU S0 ty = i.n1 ∧ ∀ x : Nat, ty = some x → rTy S0 x) ∧
  (i.kd = 22 → rAm R S0 S (Zq S 41 k) i.n1 i.n2 i.vs) ∧
  (i.kd = 25 → Zr S 28 k = nI i.n1) ∧ (i.kd = 10 → R.ik i.n1 = 12 ∧ i.n1 < R.im)
