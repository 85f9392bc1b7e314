/-- an entry of the stack: (0, t, 0) a value of type t; (7, t, m) a struct whose parts of m (bits) are there, others wanting; (1, t, m), (2, t, m) a shared, a unique reference to t (m: 0, or a loan and 1); (3, k, 0) the tag k; (4, r, j) a matched value of row r, j parts of which are gone; (5, r, m), (6, r, m) references to a matched value; (8, v, 0) variable v is in scope -/
abbrev tE := Nat × Nat × Nat
abbrev tF := Nat → Nat → Int32
def cN (x : Int32) : Nat := x.toNatClampNeg
theorem cN_nI {a : Nat} (h : a < 2 ^ 31) : cN (nI a) = a := nI_clamp h
/-- the entry of a type (a token's is an int's) -/
def tNf (F : tF) (t : Nat) : tE := if t = 3 then (0, 1, 0) else if F 20 t = 5 then (1, cN (F 21 t), 0) else if F 20 t = 6 then (2, cN (F 21 t), 0) else (0, t, 0)
/-- X: variants, parts, partType, partOffset. A place of n steps on variable v -/
def plS (F X : tF) (N v : Nat) : Nat → Int32 → Int32 → Nat → Int32 → Prop
  | 0, pa, ro, T, mu => pa = 0 ∧ ro = 0 ∧ F 15 v = nI T ∧ mu = F 16 v
  | n + 1, pa, ro, T, mu => ∃ (pa1 ro1 : Int32) (T1 : Nat) (mu1 : Int32), plS F X N v n pa1 ro1 T1 mu1 ∧ n ≠ 4 ∧ T1 < N ∧ ((pa = pa1 ||| ((13 : Int32) <<< (nI (n * 4) &&& 31)) ∧ ro = ro1 + 1 ∧ F 21 T1 = nI T ∧ ((F 20 T1 = 4 ∧ mu = mu1) ∨ (F 20 T1 = 5 ∧ mu = 0) ∨ (F 20 T1 = 6 ∧ mu = 1))) ∨ ∃ j : Nat, F 20 T1 = 2 ∧ j < 12 ∧ nI j < X 1 ((T1 - 4) * 12) ∧ pa = pa1 ||| (nI (j + 1) <<< (nI (n * 4) &&& 31)) ∧ ro = ro1 + (X 3 ((T1 - 4) * 12 * 12 + j) <<< ((4 + 4 * (ro1 &&& 15)) &&& 31)) ∧ X 2 ((T1 - 4) * 12 * 12 + j) = nI T ∧ mu = mu1)
/-- place p of the rows: n steps on v, of type T -/
def plI (F X : tF) (p v n T : Nat) (pa ro mu : Int32) : Prop := (p < 3001 ∧ ¬ F 11 p < 0) ∧ v < 40 ∧ n ≤ 4 ∧ T < 3040 ∧ F 6 p = nI v ∧ F 7 p = pa ∧ F 8 p = nI n ∧ F 9 p = ro ∧ F 10 p = nI T ∧ F 12 p = pCells ro (F 22 T) ∧ plS F X 3040 v n pa ro T mu
def plA (F X : tF) (p T : Nat) (mu : Int32) : Prop := ∃ (v n : Nat) (pa ro : Int32), plI F X p v n T pa ro mu
/-- the place may be moved out of -/
def plM (F X : tF) (p T : Nat) : Prop := ∃ (v n : Nat) (pa ro mu : Int32), plI F X p v n T pa ro mu ∧ (ro &&& 15 = 0 ∨ (ro &&& 15 = 1 ∧ 0 < n ∧ pa >>> (nI ((n - 1) * 4) &&& 31) = 13 ∧ ∀ k : Nat, k < 3040 → F 15 v = nI k → F 20 k ≠ 5 ∧ F 20 k ≠ 6))
/-- the first n parts of row r, the last one on top -/
def tPs (F X : tF) (r : Nat) : Nat → List tE
  | 0 => []
  | n + 1 => tNf F (cN (X 2 (r * 12 + n))) :: tPs F X r n
/-- their cells -/
def tSz (F X : tF) (r : Nat) : Nat → Nat
  | 0 => 0
  | n + 1 => tSz F X r n + cN (F 22 (cN (X 2 (r * 12 + n))))
/-- the first n arguments of function g (G: number of parameters, result, the parameters' types), the last one on top -/
def tAs (F : tF) (G : Nat → Nat → Nat) (g : Nat) : Nat → List tE
  | 0 => []
  | n + 1 => tNf F (G g (n + 2)) :: tAs F G g n
/-- a struct sh of n parts that is being built: sn: the parts that are there -/
def pE (n sh : Nat) (sn : Int32) : tE := if sn = ((1 : Int32) <<< (nI n &&& 31)) - 1 then (0, 4 + sh, 0) else (7, 4 + sh, sn.toBitVec.toNat)
/-- normal values in the stack -/
def wl : List tE → Nat
  | [] => 0
  | x :: s => wl s + (if x.1 = 8 ∨ x.1 = 4 ∨ x.1 = 5 ∨ x.1 = 6 then 0 else 1)
theorem wl_le {e : tE} {s : List tE} : wl s ≤ wl (e :: s) := Nat.le_add_right _ _
theorem wl_n {e : tE} {s : List tE} (h : ¬ (e.1 = 8 ∨ e.1 = 4 ∨ e.1 = 5 ∨ e.1 = 6)) : wl (e :: s) = wl s + 1 := by
  show wl s + (if e.1 = 8 ∨ e.1 = 4 ∨ e.1 = 5 ∨ e.1 = 6 then 0 else 1) = wl s + 1
  rw [if_neg h]
theorem wl_app : ∀ {E S : List tE}, wl (E ++ S) = wl E + wl S
  | [], S => by show wl S = 0 + wl S; omega
  | e :: E, S => by
    show wl (E ++ S) + _ = wl E + _ + wl S
    rw [wl_app (E := E) (S := S)]; omega
/-- how many values instruction i of code o takes off the list of loans -/
def po (F : tF) (G : Nat → Nat → Nat) (i : Nat) : Nat → Nat
  | 7 => 1
  | 10 => 1
  | 12 => cN (F 2 i)
  | 17 => 1
  | 18 => 1
  | 19 => 1
  | 20 => 1
  | 21 => G (cN (F 1 i)) 0
  | 22 => cN (F 2 i)
  | 24 => 1
  | 26 => 1
  | 27 => 1
  | 28 => 1
  | _ => 0
/-- behind it the next instruction comes -/
def nu (o : Nat) : Prop := o ≠ 15 ∧ o ≠ 16 ∧ o ≠ 20 ∧ o ≠ 22
/-- of the code between i and j: what lies below the n-th value stays -/
def rgn (F : tF) (G : Nat → Nat → Nat) (k : Nat → Option (List tE)) (i j n : Nat) : Prop := ∀ (m o : Nat) (s : List tE), i < m → m < j → k m = some s → o < 33 → F 0 m = nI o → n + po F G m o ≤ wl s + 1 ∧ nu o
/-- a jump of instruction i ahead to label x: with the stack y there -/
def tJm (F : tF) (G : Nat → Nat → Nat) (k : Nat → Option (List tE)) (i b : Nat) (x : Int32) (y : List tE) : Prop := ∃ j : Nat, (i < j ∧ (wl y = 0 ∨ rgn F G k i j (wl y))) ∧ j < b ∧ F 0 j = 13 ∧ F 1 j = x ∧ k j = some y
/-- a jump of instruction i back to the head x -/
def tJb (F : tF) (k : Nat → Option (List tE)) (a i : Nat) (x : Int32) (y : List tE) : Prop := ∃ j : Nat, a ≤ j ∧ j ≤ i ∧ F 0 j = 14 ∧ F 1 j = x ∧ k j = some y
/-- no matched value -/
def mtN (x : tE) : Prop := ¬ (x.1 = 4 ∨ x.1 = 5 ∨ x.1 = 6)
theorem mtN_0 {a b : Nat} : mtN (0, a, b) := by show ¬ ((0 : Nat) = 4 ∨ (0 : Nat) = 5 ∨ (0 : Nat) = 6); decide
theorem mtN_1 {a b : Nat} : mtN (1, a, b) := by show ¬ ((1 : Nat) = 4 ∨ (1 : Nat) = 5 ∨ (1 : Nat) = 6); decide
theorem mtN_2 {a b : Nat} : mtN (2, a, b) := by show ¬ ((2 : Nat) = 4 ∨ (2 : Nat) = 5 ∨ (2 : Nat) = 6); decide
theorem mtN_3 {a b : Nat} : mtN (3, a, b) := by show ¬ ((3 : Nat) = 4 ∨ (3 : Nat) = 5 ∨ (3 : Nat) = 6); decide
theorem mtN_7 {a b : Nat} : mtN (7, a, b) := by show ¬ ((7 : Nat) = 4 ∨ (7 : Nat) = 5 ∨ (7 : Nat) = 6); decide
theorem mtN_i {a b : Nat} {u : Int32} : mtN (if u = 1 then 2 else 1, a, b) := by
  by_cases c : u = 1
  · rw [if_pos c]; exact mtN_2
  · rw [if_neg c]; exact mtN_1
theorem mtN_t {F : tF} {t : Nat} : mtN (tNf F t) := by
  unfold tNf
  by_cases c : t = 3
  · rw [if_pos c]; exact mtN_0
  · rw [if_neg c]
    by_cases c2 : F 20 t = 5
    · rw [if_pos c2]; exact mtN_1
    · rw [if_neg c2]
      by_cases c3 : F 20 t = 6
      · rw [if_pos c3]; exact mtN_2
      · rw [if_neg c3]; exact mtN_0
theorem mtN_p {n sh : Nat} {sn : Int32} : mtN (pE n sh sn) := by
  unfold pE
  by_cases c : sn = ((1 : Int32) <<< (nI n &&& 31)) - 1
  · rw [if_pos c]; exact mtN_0
  · rw [if_neg c]; exact mtN_7
/-- how many values stand in the stack; a matched one counts for all -/
def vl : List tE → Nat
  | [] => 0
  | x :: s => vl s + (if x.1 = 8 then 0 else if x.1 = 4 ∨ x.1 = 5 ∨ x.1 = 6 then 211 else 1)
theorem vl_cons {x : tE} {s : List tE} (hx : mtN x := by first | exact mtN_t | exact mtN_p | exact mtN_0 | exact mtN_3 | exact mtN_1 | exact mtN_2 | exact mtN_7 | exact mtN_i | assumption) : vl (x :: s) ≤ vl s + 1 := by
  show vl s + (if x.1 = 8 then 0 else if x.1 = 4 ∨ x.1 = 5 ∨ x.1 = 6 then 211 else 1) ≤ vl s + 1
  rw [if_neg hx]
  split <;> omega
theorem vl_any {x : tE} {s : List tE} : vl (x :: s) ≤ vl s + 211 := by
  show vl s + (if x.1 = 8 then 0 else if x.1 = 4 ∨ x.1 = 5 ∨ x.1 = 6 then 211 else 1) ≤ vl s + 211
  split
  · omega
  · split <;> omega
theorem vl_app : ∀ (a b : List tE), vl (a ++ b) = vl a + vl b
  | [], b => by show vl b = 0 + vl b; omega
  | x :: a, b => by
    show vl (a ++ b) + _ = vl a + _ + vl b
    rw [vl_app a b]; omega
/-- instruction i of code o with the stack s: what comes next (k: the stack ahead of each instruction, J, K: where jumps may go, ahead and back, with which stack); rs: the function's result -/
def iOp (F X : tF) (G : Nat → Nat → Nat) (rs : Nat) (k : Nat → Option (List tE)) (J K : Int32 → List tE → Prop) (i : Nat) (s : List tE) : Nat → Prop
  | 0 => ∃ T : Nat, (T = 1 ∨ T = 2) ∧ k (i + 1) = some ((0, T, 0) :: s)
  | 1 => k (i + 1) = some ((0, 1, 0) :: s)
  | 2 => ∃ (p T : Nat) (mu : Int32), F 1 i = nI p ∧ plA F X p T mu ∧ (F 20 T = 0 ∨ F 20 T = 5) ∧ k (i + 1) = some (tNf F T :: s)
  | 3 => ∃ p T : Nat, F 1 i = nI p ∧ plM F X p T ∧ F 20 T ≠ 0 ∧ F 20 T ≠ 5 ∧ k (i + 1) = some (tNf F T :: s)
  | 4 => ∃ (p T b m : Nat) (mu : Int32), F 1 i = nI p ∧ plA F X p T mu ∧ F 20 T ≠ 5 ∧ F 20 T ≠ 6 ∧ F 2 i = nI b ∧ b < 54 ∧ (m = 0 ∨ m = b + 1) ∧ ((F 3 i = 0 ∧ k (i + 1) = some ((1, T, m) :: s)) ∨ (F 3 i = 1 ∧ mu ≠ 0 ∧ k (i + 1) = some ((2, T, m) :: s)))
  | 5 => (∃ r : List tE, s = (0, 1, 0) :: r) ∧ k (i + 1) = some s
  | 6 => (∃ r : List tE, s = (0, 2, 0) :: r) ∧ k (i + 1) = some s
  | 7 => ∃ (x y z : Nat) (r : List tE), (x = 1 ∨ x = 2) ∧ (y = 1 ∨ y = 2) ∧ (z = 1 ∨ z = 2) ∧ s = (0, x, 0) :: (0, y, 0) :: r ∧ k (i + 1) = some ((0, z, 0) :: r)
  | 8 => ∃ (T U : Nat) (r : List tE), F 1 i = nI T ∧ T ≠ 0 ∧ T < 3040 ∧ U < 3040 ∧ F 20 U = 4 ∧ F 21 U = nI T ∧ F 20 T ≠ 5 ∧ F 20 T ≠ 6 ∧ s = tNf F T :: r ∧ k (i + 1) = some ((0, U, 0) :: r)
  | 9 => ∃ sh n : Nat, sh < 30 ∧ F 20 (4 + sh) = 2 ∧ X 1 (sh * 12) = nI n ∧ n ≤ 12 ∧ F 1 i = F 22 (4 + sh) ∧ k (i + 1) = some (pE n sh 0 :: s)
  | 10 => ∃ (sh j n : Nat) (sn : Int32) (r : List tE), sh < 30 ∧ F 20 (4 + sh) = 2 ∧ X 1 (sh * 12) = nI n ∧ n ≤ 12 ∧ j < n ∧ (sn >>> (nI j &&& 31)) &&& 1 ≠ 1 ∧ F 1 i = X 3 (sh * 12 * 12 + j) ∧ F 2 i = F 22 (cN (X 2 (sh * 12 * 12 + j))) ∧ F 3 i = F 22 (4 + sh) ∧ s = tNf F (cN (X 2 (sh * 12 * 12 + j))) :: pE n sh sn :: r ∧ k (i + 1) = some (pE n sh (sn ||| ((1 : Int32) <<< (nI j &&& 31))) :: r)
  | 11 => ∃ g : Nat, g < 12 ∧ F 1 i = nI g ∧ k (i + 1) = some ((3, g, 0) :: s)
  | 12 => ∃ (sh g n : Nat) (r : List tE), sh < 30 ∧ F 20 (4 + sh) = 3 ∧ g < 12 ∧ nI g < X 0 sh ∧ X 1 (sh * 12 + g) = nI n ∧ n ≤ 12 ∧ F 2 i = nI n ∧ F 1 i = F 22 (4 + sh) - nI (1 + tSz F X (sh * 12 + g) n) ∧ s = tPs F X (sh * 12 + g) n ++ ((3, g, 0) :: r) ∧ k (i + 1) = some ((0, 4 + sh, 0) :: r)
  | 13 => k (i + 1) = some s
  | 14 => k (i + 1) = some s
  | 15 => vl s = 0 ∧ K (F 1 i) s
  | 16 => vl s = 0 ∧ J (F 1 i) s
  | 17 => ∃ r : List tE, s = (0, 2, 0) :: r ∧ (k (i + 1) = some r ∧ vl r = 0) ∧ J (F 1 i) r
  | 18 => ∃ r : List tE, s = (0, 2, 0) :: r ∧ k (i + 1) = some r ∧ J (F 1 i) s
  | 19 => ∃ r : List tE, s = (0, 2, 0) :: r ∧ k (i + 1) = some r ∧ J (F 1 i) s
  | 20 => ∃ (sh n tb : Nat) (r : List tE), sh < 30 ∧ F 20 (4 + sh) = 3 ∧ X 0 sh = nI n ∧ n ≤ 12 ∧ F 1 i = nI tb ∧ tb + n ≤ 3002 ∧ (F 3 i = nI n ∧ vl r = 0) ∧ ((s = (0, 4 + sh, 0) :: r ∧ F 2 i = F 22 (4 + sh) ∧ ∀ g : Nat, g < n → J (F 13 (tb + g)) ((4, sh * 12 + g, 0) :: r)) ∨ ∃ q m : Nat, (q = 1 ∨ q = 2) ∧ s = (q, 4 + sh, m) :: r ∧ F 2 i = 0 ∧ ∀ g : Nat, g < n → J (F 13 (tb + g)) ((q + 4, sh * 12 + g, m) :: r))
  | 21 => ∃ (g : Nat) (r : List tE), (g < 40 ∧ G g 1 < 3040) ∧ F 1 i = nI g ∧ s = tAs F G g (G g 0) ++ r ∧ k (i + 1) = some (tNf F (G g 1) :: r)
  | 22 => ∃ (T : Nat) (O : List tE), F 1 i = nI T ∧ (T = rs ∧ ¬ F 4 i < 0 ∧ (F 2 i = 1 → ¬ F 3 i < 0)) ∧ T < 3040 ∧ ((F 2 i = 1 ∧ s = tNf F T :: O) ∨ (F 2 i = 0 ∧ s = O ∧ T = 0)) ∧ ∀ x : tE, x ∈ O → ∃ v : Nat, x = (8, v, 0) ∧ v < 40 ∧ F 18 v ≤ nI i ∧ nI i < F 19 v
  | 23 => k (i + 1) = some s
  | 24 => ∃ (v T : Nat) (r : List tE), v < 40 ∧ F 1 i = nI v ∧ F 15 v = nI T ∧ T < 3040 ∧ F 18 v = nI i ∧ (∀ x : tE, x ∈ r → x ≠ (8, v, 0)) ∧ s = tNf F T :: r ∧ k (i + 1) = some ((8, v, 0) :: r)
  | 25 => ∃ v : Nat, v < 40 ∧ F 1 i = nI v ∧ F 18 v = nI i ∧ (∀ x : tE, x ∈ s → x ≠ (8, v, 0)) ∧ k (i + 1) = some ((8, v, 0) :: s)
  | 26 => ∃ (p v n T : Nat) (pa ro mu : Int32) (r : List tE), F 1 i = nI p ∧ plI F X p v n T pa ro mu ∧ (n = 0 ∨ mu ≠ 0) ∧ s = tNf F T :: r ∧ k (i + 1) = some r
  | 27 => ∃ (T : Nat) (r : List tE), F 1 i = nI T ∧ T < 3040 ∧ s = tNf F T :: r ∧ k (i + 1) = some r
  | 28 => ∃ (T : Nat) (r : List tE), (T = 1 ∨ T = 2) ∧ F 1 i = nI T ∧ s = (0, T, 0) :: r ∧ k (i + 1) = some r
  | 29 => ∃ (v sh g j n T : Nat) (r : List tE), v < 40 ∧ F 1 i = nI v ∧ sh < 30 ∧ F 20 (4 + sh) = 3 ∧ g < 12 ∧ X 1 (sh * 12 + g) = nI n ∧ j < n ∧ n ≤ 12 ∧ X 2 ((sh * 12 + g) * 12 + j) = nI T ∧ F 15 v = nI T ∧ F 18 v = nI i ∧ (∀ x : tE, x ∈ r → x ≠ (8, v, 0)) ∧ F 2 i = X 3 ((sh * 12 + g) * 12 + j) ∧ F 3 i = F 22 (4 + sh) ∧ s = (4, sh * 12 + g, j) :: r ∧ k (i + 1) = some ((4, sh * 12 + g, j + 1) :: (8, v, 0) :: r)
  | 30 => ∃ (v sh g j n T b q : Nat) (r : List tE), v < 40 ∧ F 1 i = nI v ∧ sh < 30 ∧ F 20 (4 + sh) = 3 ∧ g < 12 ∧ X 1 (sh * 12 + g) = nI n ∧ j < n ∧ n ≤ 12 ∧ (q = 1 ∨ q = 2) ∧ F 15 v = nI T ∧ T < 3040 ∧ tNf F T = (q, cN (X 2 ((sh * 12 + g) * 12 + j)), 0) ∧ F 18 v = nI i ∧ (∀ x : tE, x ∈ r → x ≠ (8, v, 0)) ∧ F 2 i = X 3 ((sh * 12 + g) * 12 + j) ∧ F 3 i = nI b ∧ b < 54 ∧ s = (q + 4, sh * 12 + g, b + 1 + 64 * j) :: r ∧ k (i + 1) = some ((q + 4, sh * 12 + g, b + 1 + 64 * (j + 1)) :: (8, v, 0) :: r)
  | 31 => ∃ (r0 q m : Nat) (r : List tE), s = (q, r0, m) :: r ∧ ((q = 4 ∧ (∃ sh g : Nat, sh < 30 ∧ g < 12 ∧ r0 = sh * 12 + g ∧ X 1 r0 = nI m ∧ F 1 i = F 22 (4 + sh))) ∨ ((q = 5 ∨ q = 6) ∧ F 1 i = 1)) ∧ k (i + 1) = some r
  | 32 => ∃ (v0 v1 : Nat) (O r : List tE), (v0 ≤ v1 ∧ ¬ F 4 i < 0) ∧ v1 ≤ 40 ∧ F 1 i = nI v0 ∧ F 2 i = nI v1 ∧ s = O ++ r ∧ (∀ x : tE, x ∈ O → ∃ v : Nat, x = (8, v, 0) ∧ v0 ≤ v ∧ v < v1) ∧ (∀ x : tE, x ∈ r → ∃ v : Nat, x = (8, v, 0) ∧ v < v0) ∧ k (i + 1) = some r
  | _ => False
/-- what holds of instruction i of code o also where no way comes -/
def iBo (F : tF) (i : Nat) : Nat → Prop
  | 2 => ∃ p v : Nat, F 1 i = nI p ∧ p < 3001 ∧ F 6 p = nI v ∧ v < 40
  | 3 => ∃ p v : Nat, F 1 i = nI p ∧ p < 3001 ∧ F 6 p = nI v ∧ v < 40
  | 26 => ∃ p v : Nat, F 1 i = nI p ∧ p < 3001 ∧ F 6 p = nI v ∧ v < 40
  | 4 => ∃ p v b : Nat, F 1 i = nI p ∧ p < 3001 ∧ F 6 p = nI v ∧ v < 40 ∧ F 2 i = nI b ∧ b < 54
  | 13 => ∃ L : Nat, F 1 i = nI L ∧ L < 1100
  | 14 => ∃ L m : Nat, F 1 i = nI L ∧ L < 1100 ∧ m < 6000 ∧ F 0 m = 13 ∧ F 1 m = nI (L + 1)
  | 15 => ∃ L : Nat, F 1 i = nI L ∧ L < 1100
  | 16 => ∃ L : Nat, F 1 i = nI L ∧ L < 1100
  | 17 => ∃ L : Nat, F 1 i = nI L ∧ L < 1100
  | 18 => ∃ L : Nat, F 1 i = nI L ∧ L < 1100
  | 19 => ∃ L : Nat, F 1 i = nI L ∧ L < 1100
  | 20 => ∃ tb n : Nat, F 1 i = nI tb ∧ F 3 i = nI n ∧ n ≤ 12 ∧ tb + n ≤ 3002 ∧ ∀ g : Nat, g < n → ∃ L : Nat, F 13 (tb + g) = nI L ∧ L < 1100
  | 21 => ∃ g : Nat, F 1 i = nI g ∧ g < 40
  | 24 => ∃ v : Nat, F 1 i = nI v ∧ v < 40
  | 25 => ∃ v : Nat, F 1 i = nI v ∧ v < 40
  | 29 => ∃ v : Nat, F 1 i = nI v ∧ v < 40
  | 30 => ∃ v b : Nat, F 1 i = nI v ∧ v < 40 ∧ F 3 i = nI b ∧ b < 54
  | 32 => ∃ v0 v1 : Nat, F 1 i = nI v0 ∧ F 2 i = nI v1 ∧ v0 ≤ v1 ∧ v1 ≤ 40
  | o => o < 33
def iB (F : tF) (i : Nat) : Prop := ∃ o : Nat, F 0 i = nI o ∧ iBo F i o
/-- a head's loop ends by b: the label behind it is the next one -/
def hdB (F : tF) (b i : Nat) : Prop := F 0 i = 14 → ∃ L m : Nat, L < 1100 ∧ i < m ∧ m ≤ b ∧ F 1 i = nI L ∧ F 0 m = 13 ∧ F 1 m = nI (L + 1)
theorem hdB_up {F : tF} {b b2 i : Nat} (h : hdB F b i) (hb : b ≤ b2) : hdB F b2 i := fun z => by
  obtain ⟨L, m, h1, h2, h3, h4⟩ := h z
  exact ⟨L, m, h1, h2, by omega, h4⟩
/-- the places that instruction i uses are of variables in scope; LET_NONE stands where no value is -/
def vIs (F : tF) (i : Nat) (s : List tE) : Prop := (∀ o p v : Nat, F 0 i = nI o → (o = 2 ∨ o = 3 ∨ o = 4 ∨ o = 26) → F 1 i = nI p → p < 3001 → F 6 p = nI v → v < 40 → (8, v, 0) ∈ s) ∧ (F 0 i = nI 25 → vl s = 0) ∧ (F 0 i = nI 32 → ∀ v1 : Nat, F 2 i = nI v1 → v1 ≤ 40 → 0 < v1 → F 16 (v1 - 1) = 0 ∨ F 16 (v1 - 1) = 1)
def vOk (o : Nat) : Prop := o < 33 ∧ o ≠ 2 ∧ o ≠ 3 ∧ o ≠ 4 ∧ o ≠ 26 ∧ o ≠ 25 ∧ o ≠ 32
theorem vIs_no {F : tF} {i o : Nat} {s : List tE} (h0 : F 0 i = nI o) (ho : vOk o) : vIs F i s := by
  obtain ⟨h1, h2, h3, h4, h5, h6, h7⟩ := ho
  refine ⟨fun o2 p v g0 g1 => ?_, fun g0 => ?_, fun g0 => ?_⟩
  · have e : o = o2 := (nI_eq (a := o) (b := o2) (by omega) (by omega)).mp (h0.symm.trans g0)
    omega
  · have e : o = 25 := (nI_eq (a := o) (b := 25) (by omega) (by omega)).mp (h0.symm.trans g0)
    omega
  · have e : o = 32 := (nI_eq (a := o) (b := 32) (by omega) (by omega)).mp (h0.symm.trans g0)
    omega
theorem vIs_pl {F : tF} {i o p v : Nat} {s : List tE} (h0 : F 0 i = nI o) (ho : o = 2 ∨ o = 3 ∨ o = 4 ∨ o = 26) (h1 : F 1 i = nI p) (hp : p < 3001) (h6 : F 6 p = nI v) (hv : v < 40) (hm : (8, v, 0) ∈ s) : vIs F i s := by
  refine ⟨fun o2 p2 v2 g0 g1 g2 g3 g4 g5 => ?_, fun g0 => ?_, fun g0 => ?_⟩
  · have e : p = p2 := (nI_eq (a := p) (b := p2) (by omega) (by omega)).mp (h1.symm.trans g2)
    rw [← e] at g4
    have e2 : v = v2 := (nI_eq (a := v) (b := v2) (by omega) (by omega)).mp (h6.symm.trans g4)
    rw [← e2]; exact hm
  · have e : o = 25 := (nI_eq (a := o) (b := 25) (by omega) (by omega)).mp (h0.symm.trans g0)
    omega
  · have e : o = 32 := (nI_eq (a := o) (b := 32) (by omega) (by omega)).mp (h0.symm.trans g0)
    omega
theorem vIs_25 {F : tF} {i : Nat} {s : List tE} (h0 : F 0 i = nI 25) (hs : vl s = 0) : vIs F i s := by
  refine ⟨fun o2 p v g0 g1 => ?_, fun _ => hs, fun g0 => ?_⟩
  · have e : 25 = o2 := (nI_eq (a := 25) (b := o2) (by omega) (by omega)).mp (h0.symm.trans g0)
    omega
  · have e : 25 = 32 := (nI_eq (a := 25) (b := 32) (by omega) (by omega)).mp (h0.symm.trans g0)
    omega
theorem vIs_32 {F : tF} {i v1 : Nat} {s : List tE} (h0 : F 0 i = nI 32) (h2 : F 2 i = nI v1) (hv : v1 ≤ 40) (h : 0 < v1 → F 16 (v1 - 1) = 0 ∨ F 16 (v1 - 1) = 1) : vIs F i s := by
  refine ⟨fun o2 p v g0 g1 => ?_, fun g0 => ?_, fun _ v2 g2 g4 g5 => ?_⟩
  · have e : 32 = o2 := (nI_eq (a := 32) (b := o2) (by omega) (by omega)).mp (h0.symm.trans g0)
    omega
  · have e : 32 = 25 := (nI_eq (a := 32) (b := 25) (by omega) (by omega)).mp (h0.symm.trans g0)
    omega
  · have e : v1 = v2 := (nI_eq (a := v1) (b := v2) (by omega) (by omega)).mp (h2.symm.trans g2)
    rw [← e] at g5 ⊢
    exact h g5
theorem vIs_or {F : tF} {i o : Nat} {s : List tE} (h0 : F 0 i = nI o) (h : vOk o ∨ vIs F i s) : vIs F i s := h.elim (vIs_no h0) id
def iOq (F X : tF) (G : Nat → Nat → Nat) (rs : Nat) (k : Nat → Option (List tE)) (J K : Int32 → List tE → Prop) (i : Nat) (s : List tE) (o : Nat) : Prop := iOp F X G rs k J K i s o ∧ vIs F i s
/-- the code from a to b leads from stack x to stack y (none: no way comes there), with at most 211 values in it; J: jumps ahead that leave it -/
def sg (F X : tF) (G : Nat → Nat → Nat) (rs : Nat) (J : Int32 → List tE → Prop) (a b : Nat) (x y : Option (List tE)) : Prop := ∃ k : Nat → Option (List tE), k a = x ∧ k b = y ∧ (∀ i : Nat, a ≤ i → i ≤ b → ∀ s : List tE, k i = some s → vl s ≤ 211) ∧ ∀ i : Nat, a ≤ i → i < b → (iB F i ∧ hdB F b i) ∧ ∀ s : List tE, k i = some s → ∃ o : Nat, F 0 i = nI o ∧ iOq F X G rs k (fun L r => J L r ∨ tJm F G k i b L r) (fun L r => tJb F k a i L r) i s o
theorem iOp_cg {F X : tF} {G : Nat → Nat → Nat} {rs i : Nat} {k k2 : Nat → Option (List tE)} {J J2 K K2 : Int32 → List tE → Prop} {s : List tE} (e1 : k2 (i + 1) = k (i + 1)) (hJ : ∀ (L : Int32) (r : List tE), J L r → J2 L r) (hK : ∀ (L : Int32) (r : List tE), K L r → K2 L r) : ∀ o : Nat, iOp F X G rs k J K i s o → iOp F X G rs k2 J2 K2 i s o
  | 0, h => by unfold iOp at h ⊢; rw [e1]; exact h
  | 1, h => by unfold iOp at h ⊢; rw [e1]; exact h
  | 2, h => by unfold iOp at h ⊢; rw [e1]; exact h
  | 3, h => by unfold iOp at h ⊢; rw [e1]; exact h
  | 4, h => by unfold iOp at h ⊢; rw [e1]; exact h
  | 5, h => by unfold iOp at h ⊢; rw [e1]; exact h
  | 6, h => by unfold iOp at h ⊢; rw [e1]; exact h
  | 7, h => by unfold iOp at h ⊢; rw [e1]; exact h
  | 8, h => by unfold iOp at h ⊢; rw [e1]; exact h
  | 9, h => by unfold iOp at h ⊢; rw [e1]; exact h
  | 10, h => by unfold iOp at h ⊢; rw [e1]; exact h
  | 11, h => by unfold iOp at h ⊢; rw [e1]; exact h
  | 12, h => by unfold iOp at h ⊢; rw [e1]; exact h
  | 13, h => by unfold iOp at h ⊢; rw [e1]; exact h
  | 14, h => by unfold iOp at h ⊢; rw [e1]; exact h
  | 15, h => ⟨h.1, hK _ _ h.2⟩
  | 16, h => ⟨h.1, hJ _ _ h.2⟩
  | 17, h => by obtain ⟨r, h1, h2, h3⟩ := h; exact ⟨r, h1, ⟨e1.trans h2.1, h2.2⟩, hJ _ _ h3⟩
  | 18, h => by obtain ⟨r, h1, h2, h3⟩ := h; exact ⟨r, h1, e1.trans h2, hJ _ _ h3⟩
  | 19, h => by obtain ⟨r, h1, h2, h3⟩ := h; exact ⟨r, h1, e1.trans h2, hJ _ _ h3⟩
  | 20, h => by
    obtain ⟨sh, n, tb, r, h1, h2, h3, h4, h5, h6, h7, h8⟩ := h
    refine ⟨sh, n, tb, r, h1, h2, h3, h4, h5, h6, h7, ?_⟩
    rcases h8 with ⟨u1, u2, u3⟩ | ⟨q, m, u1, u2, u3, u4⟩
    · exact Or.inl ⟨u1, u2, fun g hg => hJ _ _ (u3 g hg)⟩
    · exact Or.inr ⟨q, m, u1, u2, u3, fun g hg => hJ _ _ (u4 g hg)⟩
  | 21, h => by unfold iOp at h ⊢; rw [e1]; exact h
  | 22, h => h
  | 23, h => by unfold iOp at h ⊢; rw [e1]; exact h
  | 24, h => by unfold iOp at h ⊢; rw [e1]; exact h
  | 25, h => by unfold iOp at h ⊢; rw [e1]; exact h
  | 26, h => by unfold iOp at h ⊢; rw [e1]; exact h
  | 27, h => by unfold iOp at h ⊢; rw [e1]; exact h
  | 28, h => by unfold iOp at h ⊢; rw [e1]; exact h
  | 29, h => by unfold iOp at h ⊢; rw [e1]; exact h
  | 30, h => by unfold iOp at h ⊢; rw [e1]; exact h
  | 31, h => by unfold iOp at h ⊢; rw [e1]; exact h
  | 32, h => by unfold iOp at h ⊢; rw [e1]; exact h
  | n + 33, h => h.elim
theorem iOq_cg {F X : tF} {G : Nat → Nat → Nat} {rs i : Nat} {k k2 : Nat → Option (List tE)} {J J2 K K2 : Int32 → List tE → Prop} {s : List tE} (e1 : k2 (i + 1) = k (i + 1)) (hJ : ∀ (L : Int32) (r : List tE), J L r → J2 L r) (hK : ∀ (L : Int32) (r : List tE), K L r → K2 L r) (o : Nat) (h : iOq F X G rs k J K i s o) : iOq F X G rs k2 J2 K2 i s o := ⟨iOp_cg e1 hJ hK o h.1, h.2⟩
theorem tJm_cg {F : tF} {G : Nat → Nat → Nat} {k k2 : Nat → Option (List tE)} {i b b2 : Nat} {L : Int32} {r : List tE} (h : tJm F G k i b L r) (hb : b ≤ b2) (hk : ∀ j : Nat, i < j → j < b → k2 j = k j) : tJm F G k2 i b2 L r := by
  obtain ⟨j, ⟨h1, h0⟩, h2, h3, h4, h5⟩ := h
  exact ⟨j, ⟨h1, h0.imp id (fun q m o s g1 g2 g3 => q m o s g1 g2 ((hk m g1 (by omega)).symm.trans g3))⟩, by omega, h3, h4, (hk j h1 h2).trans h5⟩
theorem tJb_cg {F : tF} {k k2 : Nat → Option (List tE)} {a a2 i : Nat} {L : Int32} {r : List tE} (h : tJb F k a i L r) (ha : a2 ≤ a) (hk : ∀ j : Nat, a ≤ j → j ≤ i → k2 j = k j) : tJb F k2 a2 i L r := by
  obtain ⟨j, h1, h2, h3, h4, h5⟩ := h
  exact ⟨j, by omega, h2, h3, h4, (hk j h1 h2).trans h5⟩
/-- one behind the other; the label in between (lb) is what jumps of the first part may go to -/
theorem sg_app2 {F X : tF} {G : Nat → Nat → Nat} {rs a m b : Nat} {J J1 : Int32 → List tE → Prop} {x y z : Option (List tE)} (h1 : sg F X G rs J1 a m x y) (h2 : sg F X G rs J m b y z) (ham : a ≤ m) (hmb : m ≤ b) (hJ : ∀ (L : Int32) (r : List tE), J1 L r → J L r ∨ ((m < b ∧ wl r = 0) ∧ F 0 m = 13 ∧ F 1 m = L ∧ y = some r)) : sg F X G rs J a b x z := by
  obtain ⟨k1, e1, e2, eb, e3⟩ := h1
  obtain ⟨k2, f1, f2, fb, f3⟩ := h2
  have q1 : ∀ i : Nat, i ≤ m → (if i < m then k1 i else k2 i) = k1 i := fun i hi => by
    by_cases c : i < m
    · rw [if_pos c]
    · obtain rfl : i = m := by omega
      rw [if_neg c, f1, e2]
  have q2 : ∀ i : Nat, m ≤ i → (if i < m then k1 i else k2 i) = k2 i := fun i hi => if_neg (by omega)
  refine ⟨fun i => if i < m then k1 i else k2 i, (q1 a ham).trans e1, (q2 b hmb).trans f2, fun i ha hb s hs => ?_, fun i ha hb => ?_⟩
  · rcases Nat.lt_or_ge i m with c | c
    · exact eb i ha (by omega) s ((q1 i (by omega)).symm.trans hs)
    · exact fb i c hb s ((q2 i c).symm.trans hs)
  rcases Nat.lt_or_ge i m with c | c
  · refine ⟨⟨(e3 i ha c).1.1, hdB_up (e3 i ha c).1.2 hmb⟩, fun s hs => ?_⟩
    obtain ⟨o, u1, u2⟩ := (e3 i ha c).2 s ((q1 i (by omega)).symm.trans hs)
    refine ⟨o, u1, iOq_cg (q1 (i + 1) (by omega)) (fun L r h => ?_) (fun L r h => tJb_cg h (Nat.le_refl _) (fun j _ hj => q1 j (by omega))) o u2⟩
    rcases h with h | h
    · rcases hJ L r h with h | ⟨g1, g2, g3, g4⟩
      · exact Or.inl h
      · exact Or.inr ⟨m, ⟨c, Or.inl g1.2⟩, g1.1, g2, g3, (q2 m (Nat.le_refl _)).trans (f1.trans g4)⟩
    · exact Or.inr (tJm_cg h hmb (fun j _ hj => q1 j (by omega)))
  · refine ⟨(f3 i c hb).1, fun s hs => ?_⟩
    obtain ⟨o, u1, u2⟩ := (f3 i c hb).2 s ((q2 i c).symm.trans hs)
    exact ⟨o, u1, iOq_cg (q2 (i + 1) (by omega)) (fun L r h => h.imp id (fun h => tJm_cg h (Nat.le_refl _) (fun j hj _ => q2 j (by omega)))) (fun L r h => tJb_cg h ham (fun j hj _ => q2 j hj)) o u2⟩
theorem sg_app {F X : tF} {G : Nat → Nat → Nat} {rs a m b : Nat} {J : Int32 → List tE → Prop} {x y z : Option (List tE)} (h1 : sg F X G rs J a m x y) (h2 : sg F X G rs J m b y z) (ham : a ≤ m) (hmb : m ≤ b) : sg F X G rs J a b x z := sg_app2 h1 h2 ham hmb (fun _ _ h => Or.inl h)
/-- behind it nothing comes: then the stack told there doesn't matter -/
theorem iOp_no {F X : tF} {G : Nat → Nat → Nat} {rs i : Nat} {k k2 : Nat → Option (List tE)} {J J2 K K2 : Int32 → List tE → Prop} {s : List tE} (e1 : k (i + 1) = none) (hJ : ∀ (L : Int32) (r : List tE), J L r → J2 L r) (hK : ∀ (L : Int32) (r : List tE), K L r → K2 L r) : ∀ o : Nat, iOp F X G rs k J K i s o → iOp F X G rs k2 J2 K2 i s o
  | 0, h => by unfold iOp at h; rw [e1] at h; simp at h
  | 1, h => by unfold iOp at h; rw [e1] at h; simp at h
  | 2, h => by unfold iOp at h; rw [e1] at h; simp at h
  | 3, h => by unfold iOp at h; rw [e1] at h; simp at h
  | 4, h => by unfold iOp at h; rw [e1] at h; simp at h
  | 5, h => by unfold iOp at h; rw [e1] at h; simp at h
  | 6, h => by unfold iOp at h; rw [e1] at h; simp at h
  | 7, h => by unfold iOp at h; rw [e1] at h; simp at h
  | 8, h => by unfold iOp at h; rw [e1] at h; simp at h
  | 9, h => by unfold iOp at h; rw [e1] at h; simp at h
  | 10, h => by unfold iOp at h; rw [e1] at h; simp at h
  | 11, h => by unfold iOp at h; rw [e1] at h; simp at h
  | 12, h => by unfold iOp at h; rw [e1] at h; simp at h
  | 13, h => by unfold iOp at h; rw [e1] at h; simp at h
  | 14, h => by unfold iOp at h; rw [e1] at h; simp at h
  | 15, h => ⟨h.1, hK _ _ h.2⟩
  | 16, h => ⟨h.1, hJ _ _ h.2⟩
  | 17, h => by obtain ⟨r, h1, h2, h3⟩ := h; rw [e1] at h2; exact absurd h2 (by simp)
  | 18, h => by obtain ⟨r, h1, h2, h3⟩ := h; rw [e1] at h2; exact absurd h2 (by simp)
  | 19, h => by obtain ⟨r, h1, h2, h3⟩ := h; rw [e1] at h2; exact absurd h2 (by simp)
  | 20, h => by
    obtain ⟨sh, n, tb, r, h1, h2, h3, h4, h5, h6, h7, h8⟩ := h
    refine ⟨sh, n, tb, r, h1, h2, h3, h4, h5, h6, h7, ?_⟩
    rcases h8 with ⟨u1, u2, u3⟩ | ⟨q, m, u1, u2, u3, u4⟩
    · exact Or.inl ⟨u1, u2, fun g hg => hJ _ _ (u3 g hg)⟩
    · exact Or.inr ⟨q, m, u1, u2, u3, fun g hg => hJ _ _ (u4 g hg)⟩
  | 21, h => by unfold iOp at h; rw [e1] at h; simp at h
  | 22, h => h
  | 23, h => by unfold iOp at h; rw [e1] at h; simp at h
  | 24, h => by unfold iOp at h; rw [e1] at h; simp at h
  | 25, h => by unfold iOp at h; rw [e1] at h; simp at h
  | 26, h => by unfold iOp at h; rw [e1] at h; simp at h
  | 27, h => by unfold iOp at h; rw [e1] at h; simp at h
  | 28, h => by unfold iOp at h; rw [e1] at h; simp at h
  | 29, h => by unfold iOp at h; rw [e1] at h; simp at h
  | 30, h => by unfold iOp at h; rw [e1] at h; simp at h
  | 31, h => by unfold iOp at h; rw [e1] at h; simp at h
  | 32, h => by unfold iOp at h; rw [e1] at h; simp at h
  | n + 33, h => h.elim
theorem iOq_no {F X : tF} {G : Nat → Nat → Nat} {rs i : Nat} {k k2 : Nat → Option (List tE)} {J J2 K K2 : Int32 → List tE → Prop} {s : List tE} (e1 : k (i + 1) = none) (hJ : ∀ (L : Int32) (r : List tE), J L r → J2 L r) (hK : ∀ (L : Int32) (r : List tE), K L r → K2 L r) (o : Nat) (h : iOq F X G rs k J K i s o) : iOq F X G rs k2 J2 K2 i s o := ⟨iOp_no e1 hJ hK o h.1, h.2⟩
/-- where no way comes out, any stack may be told -/
theorem sg_none {F X : tF} {G : Nat → Nat → Nat} {rs a b : Nat} {J : Int32 → List tE → Prop} {x y : Option (List tE)} (h : sg F X G rs J a b x none) (hab : a < b) (hy : ∀ s : List tE, y = some s → vl s ≤ 211) : sg F X G rs J a b x y := by
  obtain ⟨k, e1, e2, eb, e3⟩ := h
  have q : ∀ i : Nat, i < b → (if i = b then y else k i) = k i := fun i hi => if_neg (by omega)
  refine ⟨fun i => if i = b then y else k i, (q a hab).trans e1, if_pos rfl, fun i ha hb s hs => ?_, fun i ha hb => ⟨(e3 i ha hb).1, fun s hs => ?_⟩⟩
  · rcases Nat.lt_or_ge i b with c | c
    · exact eb i ha hb s ((q i c).symm.trans hs)
    · obtain rfl : i = b := by omega
      have hs : (if i = i then y else k i) = some s := hs
      rw [if_pos rfl] at hs
      exact hy s hs
  obtain ⟨o, u1, u2⟩ := (e3 i ha hb).2 s ((q i hb).symm.trans hs)
  refine ⟨o, u1, ?_⟩
  rcases Nat.lt_or_ge (i + 1) b with c | c
  · exact iOq_cg (q (i + 1) c) (fun L r h => h.imp id (fun h => tJm_cg h (Nat.le_refl _) (fun j _ hj => q j hj))) (fun L r h => tJb_cg h (Nat.le_refl _) (fun j _ hj => q j (by omega))) o u2
  · obtain rfl : b = i + 1 := by omega
    exact iOq_no e2 (fun L r h => h.imp id (fun h => tJm_cg h (Nat.le_refl _) (fun j _ hj => q j hj))) (fun L r h => tJb_cg h (Nat.le_refl _) (fun j _ hj => q j (by omega))) o u2
/-- the same code where no way comes -/
theorem sg_kill {F X : tF} {G : Nat → Nat → Nat} {rs a b : Nat} {J J2 : Int32 → List tE → Prop} {x y : Option (List tE)} (h : sg F X G rs J a b x y) : sg F X G rs J2 a b none none := by
  obtain ⟨k, e1, e2, eb, e3⟩ := h
  exact ⟨fun _ => none, rfl, rfl, fun i ha hb s hs => absurd hs (by simp), fun i ha hb => ⟨(e3 i ha hb).1, fun s hs => absurd hs (by simp)⟩⟩
theorem sg_nil {F X : tF} {G : Nat → Nat → Nat} {rs a : Nat} {J : Int32 → List tE → Prop} {x : Option (List tE)} (hx : ∀ s : List tE, x = some s → vl s ≤ 211) : sg F X G rs J a a x x := ⟨fun _ => x, rfl, rfl, fun _ _ _ s hs => hx s hs, fun i h1 h2 => absurd h1 (by omega)⟩
/-- one instruction; k: the stack ahead and behind -/
theorem sg_one {F X : tF} {G : Nat → Nat → Nat} {rs a o : Nat} {J : Int32 → List tE → Prop} {s : List tE} {y : Option (List tE)} (h0 : F 0 a = nI o) (hB : iBo F a o) (hs : vl s ≤ 211) (hy : ∀ r : List tE, y = some r → vl r ≤ 211) (h : ∀ k : Nat → Option (List tE), k (a + 1) = y → iOp F X G rs k J (fun _ _ => False) a s o) (h14 : nI o ≠ 14 := by decide) (hvi : vOk o ∨ vIs F a s := by exact Or.inl (by unfold vOk; decide)) : sg F X G rs J a (a + 1) (some s) y := by
  have q : (if a + 1 = a then some s else y) = y := if_neg (by omega)
  refine ⟨fun i => if i = a then some s else y, if_pos rfl, q, fun i h1 h2 r hr => ?_, fun i h1 h2 => ?_⟩
  · have hr : (if i = a then some s else y) = some r := hr
    by_cases c : i = a
    · rw [if_pos c] at hr
      obtain rfl : s = r := by injection hr
      exact hs
    · rw [if_neg c] at hr
      exact hy r hr
  obtain rfl : i = a := by omega
  refine ⟨⟨⟨o, h0, hB⟩, fun z => absurd (h0.symm.trans z) h14⟩, fun r hr => ?_⟩
  have hr : (if i = i then some s else y) = some r := hr
  rw [if_pos rfl] at hr
  obtain rfl : s = r := by injection hr
  exact ⟨o, h0, iOq_cg (rfl : (fun j => if j = i then some s else y) (i + 1) = (fun j => if j = i then some s else y) (i + 1)) (fun L r h => Or.inl h) (fun L r h => h.elim) o ⟨h (fun j => if j = i then some s else y) q, vIs_or h0 hvi⟩⟩
theorem wl_vl : ∀ {r : List tE}, vl r = 0 → wl r = 0
  | [], _ => rfl
  | x :: s, h => by
    have h : vl s + (if x.1 = 8 then 0 else if x.1 = 4 ∨ x.1 = 5 ∨ x.1 = 6 then 211 else 1) = 0 := h
    have e8 : x.1 = 8 := by
      by_cases c : x.1 = 8
      · exact c
      · rw [if_neg c] at h
        by_cases c2 : x.1 = 4 ∨ x.1 = 5 ∨ x.1 = 6
        · rw [if_pos c2] at h; omega
        · rw [if_neg c2] at h; omega
    show wl s + (if x.1 = 8 ∨ x.1 = 4 ∨ x.1 = 5 ∨ x.1 = 6 then 0 else 1) = 0
    rw [if_pos (Or.inl e8), Nat.add_zero]
    exact wl_vl (by omega)
theorem wl_vl_le : ∀ {r : List tE}, wl r ≤ vl r
  | [] => Nat.le_refl _
  | x :: s => by
    have h := wl_vl_le (r := s)
    show wl s + (if x.1 = 8 ∨ x.1 = 4 ∨ x.1 = 5 ∨ x.1 = 6 then 0 else 1) ≤ vl s + (if x.1 = 8 then 0 else if x.1 = 4 ∨ x.1 = 5 ∨ x.1 = 6 then 211 else 1)
    by_cases c : x.1 = 8
    · rw [if_pos (Or.inl c), if_pos c]; omega
    · rw [if_neg c]
      by_cases c2 : x.1 = 4 ∨ x.1 = 5 ∨ x.1 = 6
      · rw [if_pos (Or.inr c2), if_pos c2]; omega
      · rw [if_neg c2, if_neg (fun q => q.elim c c2)]; omega
/-- a label at j: the jumps to it come from ahead of it -/
theorem sg_lab {F X : tF} {G : Nat → Nat → Nat} {rs a j b : Nat} {J : Int32 → List tE → Prop} {x z : Option (List tE)} {L : Int32} {r : List tE} (h1 : sg F X G rs (fun M s => J M s ∨ (M = L ∧ s = r)) a j x (some r)) (h2 : sg F X G rs J j b (some r) z) (haj : a ≤ j) (hjb : j < b) (hl : F 0 j = 13) (hL : F 1 j = L) (hr : vl r = 0) : sg F X G rs J a b x z := sg_app2 h1 h2 haj (Nat.le_of_lt hjb) (fun M s h => h.imp id (fun h => ⟨⟨hjb, by rw [h.2]; exact wl_vl hr⟩, hl, hL.trans h.1.symm, by rw [h.2]⟩))
/-- a loop: its head at a, its body, then the way back -/
theorem sg_loop {F X : tF} {G : Nat → Nat → Nat} {rs a m : Nat} {J : Int32 → List tE → Prop} {L : Int32} {r : List tE} (h0 : F 0 a = nI 14) (hB : iBo F a 14) (h1 : F 1 a = L) (h2 : sg F X G rs J (a + 1) m (some r) (some r)) (ham : a + 1 ≤ m) (h3 : F 0 m = nI 15) (hB3 : iBo F m 15) (h4 : F 1 m = L) (h5 : ∃ M : Nat, M < 1100 ∧ F 1 a = nI M ∧ F 0 (m + 1) = 13 ∧ F 1 (m + 1) = nI (M + 1)) (hv0 : vl r = 0) : sg F X G rs J a (m + 1) (some r) none := by
  obtain ⟨k, e1, e2, eb, e3⟩ := h2
  have hv : vl r ≤ 211 := eb (a + 1) (Nat.le_refl _) ham r e1
  have q : ∀ i : Nat, a + 1 ≤ i → i ≤ m → (if i = a then some r else if i = m + 1 then none else k i) = k i := fun i h h' => by rw [if_neg (by omega), if_neg (by omega)]
  have qz : (if m + 1 = a then some r else if m + 1 = m + 1 then none else k (m + 1)) = none := by rw [if_neg (by omega), if_pos rfl]
  refine ⟨fun i => if i = a then some r else if i = m + 1 then none else k i, if_pos rfl, qz, fun i ha hb s hs => ?_, fun i ha hb => ?_⟩
  · have hs : (if i = a then some r else if i = m + 1 then none else k i) = some s := hs
    by_cases c : i = a
    · rw [if_pos c] at hs
      obtain rfl : r = s := by injection hs
      exact hv
    · by_cases c2 : i = m + 1
      · rw [if_neg c, if_pos c2] at hs
        exact absurd hs (by simp)
      · exact eb i (by omega) (by omega) s ((q i (by omega) (by omega)).symm.trans hs)
  · by_cases c : i = a
    · subst c
      refine ⟨⟨⟨14, h0, hB⟩, fun _ => by obtain ⟨M, g1, g2, g3, g4⟩ := h5; exact ⟨M, m + 1, g1, by omega, Nat.le_refl _, g2, g3, g4⟩⟩, fun s hs => ⟨14, h0, ?_⟩⟩
      have hs : (if i = i then some r else if i = m + 1 then none else k i) = some s := hs
      rw [if_pos rfl] at hs
      obtain rfl : r = s := by injection hs
      exact ⟨(q (i + 1) (Nat.le_refl _) ham).trans e1, vIs_no h0 (by unfold vOk; decide)⟩
    · rcases Nat.lt_or_ge i m with c2 | c2
      · refine ⟨⟨(e3 i (by omega) c2).1.1, hdB_up (e3 i (by omega) c2).1.2 (Nat.le_succ m)⟩, fun s hs => ?_⟩
        obtain ⟨o, u1, u2⟩ := (e3 i (by omega) c2).2 s ((q i (by omega) (by omega)).symm.trans hs)
        exact ⟨o, u1, iOq_cg (q (i + 1) (by omega) (by omega)) (fun L r h => h.imp id (fun h => tJm_cg h (by omega) (fun j hj hj2 => q j (by omega) (by omega)))) (fun L r h => tJb_cg h (by omega) (fun j hj hj2 => q j (by omega) (by omega))) o u2⟩
      · obtain rfl : i = m := by omega
        refine ⟨⟨⟨15, h3, hB3⟩, fun z => absurd (h3.symm.trans z) (by decide)⟩, fun s hs => ⟨15, h3, ?_⟩⟩
        have hs := (q i (by omega) (Nat.le_refl _)).symm.trans hs
        rw [e2] at hs
        obtain rfl : r = s := by injection hs
        exact ⟨⟨hv0, a, Nat.le_refl _, by omega, h0, h1.trans h4.symm, if_pos rfl⟩, vIs_no h3 (by unfold vOk; decide)⟩
theorem sg_wk {F X : tF} {G : Nat → Nat → Nat} {rs a b : Nat} {J J2 : Int32 → List tE → Prop} {x y : Option (List tE)} (h : sg F X G rs J a b x y) (hJ : ∀ (L : Int32) (r : List tE), J L r → J2 L r) : sg F X G rs J2 a b x y := by
  obtain ⟨k, e1, e2, eb, e3⟩ := h
  exact ⟨k, e1, e2, eb, fun i ha hb => ⟨(e3 i ha hb).1, fun s hs => ((e3 i ha hb).2 s hs).imp (fun o u => ⟨u.1, iOq_cg rfl (fun L r h => h.imp (hJ L r) id) (fun L r h => h) o u.2⟩)⟩⟩
theorem sg_end {F X : tF} {G : Nat → Nat → Nat} {rs a b : Nat} {J : Int32 → List tE → Prop} {x : Option (List tE)} {r : List tE} (h : sg F X G rs J a b x (some r)) (hab : a ≤ b) : vl r ≤ 211 := by
  obtain ⟨k, e1, e2, eb, e3⟩ := h
  exact eb b hab (Nat.le_refl _) r e2
/-- the same within an exp: the w values below stay, each instruction leads to the next one -/
def sgl (F : tF) (G : Nat → Nat → Nat) (w : Nat) (k : Nat → Option (List tE)) (a b : Nat) : Prop := ∀ (i o : Nat) (s : List tE), a ≤ i → i < b → k i = some s → o < 33 → F 0 i = nI o → w + po F G i o ≤ wl s ∧ nu o
def sgw (w : Nat) (F X : tF) (G : Nat → Nat → Nat) (rs : Nat) (J : Int32 → List tE → Prop) (a b : Nat) (x y : Option (List tE)) : Prop := ∃ k : Nat → Option (List tE), (k a = x ∧ k b = y ∧ (∀ i : Nat, a ≤ i → i ≤ b → ∀ s : List tE, k i = some s → vl s ≤ 211) ∧ ∀ i : Nat, a ≤ i → i < b → (iB F i ∧ hdB F b i) ∧ ∀ s : List tE, k i = some s → ∃ o : Nat, F 0 i = nI o ∧ iOq F X G rs k (fun L r => J L r ∨ tJm F G k i b L r) (fun L r => tJb F k a i L r) i s o) ∧ sgl F G w k a b
theorem sgw_sg {w : Nat} {F X : tF} {G : Nat → Nat → Nat} {rs a b : Nat} {J : Int32 → List tE → Prop} {x y : Option (List tE)} (h : sgw w F X G rs J a b x y) : sg F X G rs J a b x y := by
  obtain ⟨k, h1, -⟩ := h
  exact ⟨k, h1⟩
/-- one behind the other; to a label in between jumps may go over what keeps the values below -/
theorem sgw_app2 {w : Nat} {F X : tF} {G : Nat → Nat → Nat} {rs a m b : Nat} {J J1 : Int32 → List tE → Prop} {x y z : Option (List tE)} (h1 : sgw w F X G rs J1 a m x y) (h2 : sgw w F X G rs J m b y z) (ham : a ≤ m) (hmb : m ≤ b) (hJ : ∀ (L : Int32) (r : List tE), J1 L r → J L r ∨ ((m < b ∧ wl r ≤ w + 1) ∧ F 0 m = 13 ∧ F 1 m = L ∧ y = some r)) : sgw w F X G rs J a b x z := by
  obtain ⟨k1, ⟨e1, e2, eb, e3⟩, ew⟩ := h1
  obtain ⟨k2, ⟨f1, f2, fb, f3⟩, fw⟩ := h2
  have q1 : ∀ i : Nat, i ≤ m → (if i < m then k1 i else k2 i) = k1 i := fun i hi => by
    by_cases c : i < m
    · rw [if_pos c]
    · obtain rfl : i = m := by omega
      rw [if_neg c, f1, e2]
  have q2 : ∀ i : Nat, m ≤ i → (if i < m then k1 i else k2 i) = k2 i := fun i hi => if_neg (by omega)
  refine ⟨fun i => if i < m then k1 i else k2 i, ⟨(q1 a ham).trans e1, (q2 b hmb).trans f2, fun i ha hb s hs => ?_, fun i ha hb => ?_⟩, fun i o s ha hb hs ho33 ho => ?_⟩
  · rcases Nat.lt_or_ge i m with c | c
    · exact eb i ha (by omega) s ((q1 i (by omega)).symm.trans hs)
    · exact fb i c hb s ((q2 i c).symm.trans hs)
  · rcases Nat.lt_or_ge i m with c | c
    · refine ⟨⟨(e3 i ha c).1.1, hdB_up (e3 i ha c).1.2 hmb⟩, fun s hs => ?_⟩
      obtain ⟨o, u1, u2⟩ := (e3 i ha c).2 s ((q1 i (by omega)).symm.trans hs)
      refine ⟨o, u1, iOq_cg (q1 (i + 1) (by omega)) (fun L r h => ?_) (fun L r h => tJb_cg h (Nat.le_refl _) (fun j _ hj => q1 j (by omega))) o u2⟩
      rcases h with h | h
      · rcases hJ L r h with h | ⟨g1, g2, g3, g4⟩
        · exact Or.inl h
        · refine Or.inr ⟨m, ⟨c, Or.inr (fun m2 o2 s2 y1 y2 y3 y4 y5 => ?_)⟩, g1.1, g2, g3, (q2 m (Nat.le_refl _)).trans (f1.trans g4)⟩
          obtain ⟨v1, v2⟩ := ew m2 o2 s2 (by omega) y2 ((q1 m2 (by omega)).symm.trans y3) y4 y5
          exact ⟨by have := g1.2; omega, v2⟩
      · exact Or.inr (tJm_cg h hmb (fun j _ hj => q1 j (by omega)))
    · refine ⟨(f3 i c hb).1, fun s hs => ?_⟩
      obtain ⟨o, u1, u2⟩ := (f3 i c hb).2 s ((q2 i c).symm.trans hs)
      exact ⟨o, u1, iOq_cg (q2 (i + 1) (by omega)) (fun L r h => h.imp id (fun h => tJm_cg h (Nat.le_refl _) (fun j hj _ => q2 j (by omega)))) (fun L r h => tJb_cg h ham (fun j hj _ => q2 j hj)) o u2⟩
  · rcases Nat.lt_or_ge i m with c | c
    · exact ew i o s ha c ((q1 i (by omega)).symm.trans hs) ho33 ho
    · exact fw i o s c hb ((q2 i c).symm.trans hs) ho33 ho
theorem sgw_app {w : Nat} {F X : tF} {G : Nat → Nat → Nat} {rs a m b : Nat} {J : Int32 → List tE → Prop} {x y z : Option (List tE)} (h1 : sgw w F X G rs J a m x y) (h2 : sgw w F X G rs J m b y z) (ham : a ≤ m) (hmb : m ≤ b) : sgw w F X G rs J a b x z := sgw_app2 h1 h2 ham hmb (fun _ _ h => Or.inl h)
theorem sgw_lab {w : Nat} {F X : tF} {G : Nat → Nat → Nat} {rs a j b : Nat} {J : Int32 → List tE → Prop} {x z : Option (List tE)} {L : Int32} {r : List tE} (h1 : sgw w F X G rs (fun M s => J M s ∨ (M = L ∧ s = r)) a j x (some r)) (h2 : sgw w F X G rs J j b (some r) z) (haj : a ≤ j) (hjb : j < b) (hl : F 0 j = 13) (hL : F 1 j = L) (hr : wl r ≤ w + 1) : sgw w F X G rs J a b x z := sgw_app2 h1 h2 haj (Nat.le_of_lt hjb) (fun M s h => h.imp id (fun h => ⟨⟨hjb, by rw [h.2]; exact hr⟩, hl, hL.trans h.1.symm, by rw [h.2]⟩))
theorem sgw_nil {w : Nat} {F X : tF} {G : Nat → Nat → Nat} {rs a : Nat} {J : Int32 → List tE → Prop} {x : Option (List tE)} (hx : ∀ s : List tE, x = some s → vl s ≤ 211) : sgw w F X G rs J a a x x := ⟨fun _ => x, ⟨rfl, rfl, fun _ _ _ s hs => hx s hs, fun i h1 h2 => absurd h1 (by omega)⟩, fun i _ _ h1 h2 => absurd h1 (by omega)⟩
theorem sgw_one {w : Nat} {F X : tF} {G : Nat → Nat → Nat} {rs a o : Nat} {J : Int32 → List tE → Prop} {s : List tE} {y : Option (List tE)} (hw : w + po F G a o ≤ wl s) (h0 : F 0 a = nI o) (hB : iBo F a o) (hs : vl s ≤ 211) (hy : ∀ r : List tE, y = some r → vl r ≤ 211) (h : ∀ k : Nat → Option (List tE), k (a + 1) = y → iOp F X G rs k J (fun _ _ => False) a s o) (h14 : nI o ≠ 14 := by decide) (h33 : o < 33 := by decide) (hu : nu o := by unfold nu; decide) (hvi : vOk o ∨ vIs F a s := by exact Or.inl (by unfold vOk; decide)) : sgw w F X G rs J a (a + 1) (some s) y := by
  have q : (if a + 1 = a then some s else y) = y := if_neg (by omega)
  refine ⟨fun i => if i = a then some s else y, ⟨if_pos rfl, q, fun i h1 h2 r hr => ?_, fun i h1 h2 => ?_⟩, fun i o2 r h1 h2 hr g33 g0 => ?_⟩
  · have hr : (if i = a then some s else y) = some r := hr
    by_cases c : i = a
    · rw [if_pos c] at hr
      obtain rfl : s = r := by injection hr
      exact hs
    · rw [if_neg c] at hr
      exact hy r hr
  · obtain rfl : i = a := by omega
    refine ⟨⟨⟨o, h0, hB⟩, fun z => absurd (h0.symm.trans z) h14⟩, fun r hr => ?_⟩
    have hr : (if i = i then some s else y) = some r := hr
    rw [if_pos rfl] at hr
    obtain rfl : s = r := by injection hr
    exact ⟨o, h0, iOq_cg (rfl : (fun j => if j = i then some s else y) (i + 1) = (fun j => if j = i then some s else y) (i + 1)) (fun L r h => Or.inl h) (fun L r h => h.elim) o ⟨h (fun j => if j = i then some s else y) q, vIs_or h0 hvi⟩⟩
  · obtain rfl : i = a := by omega
    have hr : (if i = i then some s else y) = some r := hr
    rw [if_pos rfl] at hr
    obtain rfl : s = r := by injection hr
    obtain rfl : o = o2 := (nI_eq (a := o) (b := o2) (by omega) (by omega)).mp (h0.symm.trans g0)
    exact ⟨hw, hu⟩
theorem sgw_end {w : Nat} {F X : tF} {G : Nat → Nat → Nat} {rs a b : Nat} {J : Int32 → List tE → Prop} {x : Option (List tE)} {r : List tE} (h : sgw w F X G rs J a b x (some r)) (hab : a ≤ b) : vl r ≤ 211 := sg_end (sgw_sg h) hab
theorem sgw_mono {w w2 : Nat} {F X : tF} {G : Nat → Nat → Nat} {rs a b : Nat} {J : Int32 → List tE → Prop} {x y : Option (List tE)} (h : sgw w2 F X G rs J a b x y) (hw : w ≤ w2) : sgw w F X G rs J a b x y := by
  obtain ⟨k, h1, h2⟩ := h
  exact ⟨k, h1, fun i o s g1 g2 g3 g4 g5 => ⟨by have := (h2 i o s g1 g2 g3 g4 g5).1; omega, (h2 i o s g1 g2 g3 g4 g5).2⟩⟩
theorem nm_t {F : tF} {t : Nat} : ¬ ((tNf F t).1 = 8 ∨ (tNf F t).1 = 4 ∨ (tNf F t).1 = 5 ∨ (tNf F t).1 = 6) := by
  unfold tNf
  by_cases c : t = 3
  · rw [if_pos c]; show ¬ ((0 : Nat) = 8 ∨ (0 : Nat) = 4 ∨ (0 : Nat) = 5 ∨ (0 : Nat) = 6); decide
  · rw [if_neg c]
    by_cases c2 : F 20 t = 5
    · rw [if_pos c2]; show ¬ ((1 : Nat) = 8 ∨ (1 : Nat) = 4 ∨ (1 : Nat) = 5 ∨ (1 : Nat) = 6); decide
    · rw [if_neg c2]
      by_cases c3 : F 20 t = 6
      · rw [if_pos c3]; show ¬ ((2 : Nat) = 8 ∨ (2 : Nat) = 4 ∨ (2 : Nat) = 5 ∨ (2 : Nat) = 6); decide
      · rw [if_neg c3]; show ¬ ((0 : Nat) = 8 ∨ (0 : Nat) = 4 ∨ (0 : Nat) = 5 ∨ (0 : Nat) = 6); decide
theorem wl_t {F : tF} {t : Nat} {s : List tE} : wl (tNf F t :: s) = wl s + 1 := wl_n nm_t
theorem wl_p {n sh : Nat} {sn : Int32} {s : List tE} : wl (pE n sh sn :: s) = wl s + 1 := by
  refine wl_n ?_
  unfold pE
  by_cases c : sn = ((1 : Int32) <<< (nI n &&& 31)) - 1
  · rw [if_pos c]; show ¬ ((0 : Nat) = 8 ∨ (0 : Nat) = 4 ∨ (0 : Nat) = 5 ∨ (0 : Nat) = 6); decide
  · rw [if_neg c]; show ¬ ((7 : Nat) = 8 ∨ (7 : Nat) = 4 ∨ (7 : Nat) = 5 ∨ (7 : Nat) = 6); decide
theorem wl_ps {F X : tF} {r : Nat} : ∀ n : Nat, wl (tPs F X r n) = n
  | 0 => rfl
  | n + 1 => by show wl (tNf F (cN (X 2 (r * 12 + n))) :: tPs F X r n) = n + 1; rw [wl_t, wl_ps n]
theorem wl_as {F : tF} {G : Nat → Nat → Nat} {g : Nat} : ∀ n : Nat, wl (tAs F G g n) = n
  | 0 => rfl
  | n + 1 => by show wl (tNf F (G g (n + 2)) :: tAs F G g n) = n + 1; rw [wl_t, wl_as n]
/-- what an exp of a level may put on the stack; the function's result -/
def rB (rs : Nat) : Nat := 13 * (rs / 4096) + 1
def rT (rs : Nat) : Nat := rs % 4096
theorem rT_up {rs : Nat} : rT (rs + 4096) = rT rs := Nat.add_mod_right rs 4096
theorem rB_up {rs : Nat} : rB (rs + 4096) = rB rs + 13 := by unfold rB; omega
theorem rB_pos {rs : Nat} : 1 ≤ rB rs := by unfold rB; omega
theorem vs {s : List tE} (h : vl s ≤ 211) : ∀ r : List tE, some s = some r → vl r ≤ 211 := fun r hr => by
  obtain rfl : s = r := by injection hr
  exact h
theorem vb0 {rs : Nat} {st : List tE} (h : vl st + rB rs ≤ 211) : vl st ≤ 211 := by omega
theorem vb2 {rs : Nat} {x : tE} {st : List tE} (h : vl st + rB rs ≤ 211) (hx : mtN x := by first | exact mtN_t | exact mtN_p | exact mtN_0 | exact mtN_3 | exact mtN_1 | exact mtN_2 | exact mtN_7 | exact mtN_i | assumption) : vl (x :: st) ≤ 211 := by
  have h1 := rB_pos (rs := rs); have h2 := vl_cons (x := x) (s := st) hx; omega
theorem vb1 {rs : Nat} {x : tE} {st : List tE} (h : vl st + rB rs ≤ 211) (hx : mtN x := by first | exact mtN_t | exact mtN_p | exact mtN_0 | exact mtN_3 | exact mtN_1 | exact mtN_2 | exact mtN_7 | exact mtN_i | assumption) : ∀ r : List tE, some (x :: st) = some r → vl r ≤ 211 := vs (vb2 h hx)
theorem vb3 {rs : Nat} {x : tE} {st : List tE} (h : vl st + rB (rs + 4096) ≤ 211) (hx : mtN x := by first | exact mtN_t | exact mtN_p | exact mtN_0 | exact mtN_3 | exact mtN_1 | exact mtN_2 | exact mtN_7 | exact mtN_i | assumption) : vl (x :: st) + rB rs ≤ 211 := by
  rw [rB_up] at h
  have h2 := vl_cons (x := x) (s := st) hx; omega
