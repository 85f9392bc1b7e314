section RZS
variable {R : yR} {S0 S S2 : Sg}
theorem isU.st (h : LX S S2) {va v : Nat} {ty : Option Nat} {mu : Int32} (q : isU S va v ty mu) : isU S2 va v ty mu := by
  obtain ⟨q1, nm, wh, q2⟩ := q
  obtain ⟨h1, f2, h2, h3, h4⟩ := h.it q1 q2
  refine ⟨h1, nm, ?_⟩
  rcases h.1 va q1 with ⟨_, e | ⟨k, fs, g2, e1, e2, e3, e4⟩⟩
  · exact ⟨wh, e.trans q2⟩
  · obtain ⟨ek, ef⟩ := Prod.mk.inj (Sum.inr.inj (q2.symm.trans e1))
    have e0 : f2 = g2 := (Prod.mk.inj (Sum.inr.inj (h2.symm.trans (e2.trans (by rw [← ek]))))).2
    subst e0
    have hl : f2.length = 5 := h3
    match f2, hl with
    | [a, b, c, d, e], _ =>
      have a1 : a = .int (nI v) := Option.some.inj (h4 0 (by decide) (Or.inl (by decide)))
      have a2 : b = .int nm := Option.some.inj (h4 1 (by decide) (Or.inl (by decide)))
      have a3 : c = va_rf ty := Option.some.inj (h4 2 (by decide) (Or.inl (by decide)))
      have a4 : d = .int mu := Option.some.inj (h4 3 (by decide) (Or.inl (by decide)))
      rw [a1, a2, a3, a4] at h2
      exact ⟨e, h2⟩
theorem isPt.st (h : LX S S2) {w v T : Nat} {ρ : lLc} (q : isPt R S0 S w v ρ T) : isPt R S0 S2 w v ρ T := by
  obtain ⟨va, sa, ta, f, g, mu, q1, q2, q3, q4, q5, q6⟩ := q
  obtain ⟨h1, h2⟩ := h.ob q1 q2 (by decide) (by decide)
  exact ⟨va, sa, ta, f, g, mu, h1, h2, q3.st h, h.ro q4.1 q4.2, h.ro q5.1 q5.2, q6⟩
theorem rAr.st (h : LX S S2) {o : Option Nat} {l : List Nat} (q : rAr R S o l) : rAr R S2 o l := by
  rcases q with q | ⟨a, f, q1, q2, q3, q4⟩
  · exact Or.inl q
  · obtain ⟨h1, h2⟩ := h.ro q2 q3
    exact Or.inr ⟨a, f, q1, h1, h2, q4⟩
theorem rAm.st (h : LX S S2) {o : Option Nat} {n1 n2 : Nat} {l : List Nat} (q : rAm R S0 S o n1 n2 l) : rAm R S0 S2 o n1 n2 l := by
  obtain ⟨a, na, aw, bk, tk, vn, fv, q1, q2, q3, q4, q5, q6, q7⟩ := q
  obtain ⟨h1, h2⟩ := h.ob q2 q3 (by decide) (by decide)
  obtain ⟨h3, h4⟩ := h.ro q4 q5
  refine ⟨a, na, aw, bk, tk, vn, fv, q1, h1, h2, h3, h4, q6, fun j v e => ?_⟩
  obtain ⟨va, x, mu, r1, r2, r3⟩ := q7 j v e
  exact ⟨va, x, mu, r1, r2.st h, r3⟩
theorem pVa.st {w v T a : Nat} {ρ : lLc} (h : LX S S2) (hp : isPt R S0 S w v ρ T) (q : pVa S w a) : pVa S2 w a := by
  obtain ⟨gs, q1, q2⟩ := q
  obtain ⟨_, _, _, _, _, _, h1, _⟩ := hp
  exact ⟨gs, (h.ob h1 q1 (by decide) (by decide)).2, q2⟩
/-- the rows at point k are as they were -/
def RK (S S2 : Sg) (k : Nat) : Prop := (∀ r : Nat, 27 ≤ r → r ≤ 35 → Zr S2 r k = Zr S r k) ∧ Zl S2 31 k = Zl S 31 k ∧ ∀ r : Nat, 36 ≤ r → r ≤ 42 → Zq S2 r k = Zq S r k
theorem rz.st {k : Nat} {i : iR} (h : LX S S2) (hk : RK S S2 k) (hl : ∀ l : Nat, i.ln = some l → Zq S2 43 l = Zq S 43 l ∧ ∀ r : Nat, 44 ≤ r → r ≤ 46 → Zr S2 r l = Zr S r l) (q : rz R S0 S k i) : rz R S0 S2 k i := by
  obtain ⟨q1, q2, q3, q4, q5, q6, q7, q8, q9, q10, q11, q12, q13, q14, q15, q16, q17, q18⟩ := q
  obtain ⟨k1, k2, k3⟩ := hk
  refine ⟨(k1 27 (by decide) (by decide)).trans q1, q2, (k1 33 (by decide) (by decide)).trans q3, q4, (k1 34 (by decide) (by decide)).trans q5, (k1 35 (by decide) (by decide)).trans q6, by rw [k3 37 (by decide) (by decide)]; exact q7.st h, by rw [k3 36 (by decide) (by decide)]; exact q8.st h, by rw [k1 32 (by decide) (by decide)]; exact q9, ?_, fun l e => ?_, ?_, ?_, ?_, ?_, ?_, ?_, ?_⟩
  · rw [k3 38 (by decide) (by decide)]
    exact q10.imp id (fun ⟨w, v, T, ρ, a, b, c, d⟩ => ⟨w, v, T, ρ, a, b, c.st h, d.st h c⟩)
  · obtain ⟨a, b, c, d⟩ := q11 l e
    obtain ⟨l1, l2⟩ := hl l e
    exact ⟨by rw [l1, k3 38 (by decide) (by decide)]; exact a, (l2 44 (by decide) (by decide)).trans b, c, (l2 45 (by decide) (by decide)).trans d⟩
  · rw [k1 30 (by decide) (by decide), k3 42 (by decide) (by decide)]
    exact q12.imp id (fun z => z.imp id (fun z => z.imp id (fun z => z.imp (fun ⟨a, b, c⟩ => ⟨a, b.st h, c⟩) id)))
  · rw [k3 39 (by decide) (by decide)]; exact q13
  · rw [k1 28 (by decide) (by decide), k1 29 (by decide) (by decide), k2]; exact q14
  · rw [k3 42 (by decide) (by decide)]; exact fun e => (q15 e).st h
  · rw [k3 40 (by decide) (by decide)]
    intro e
    obtain ⟨va, v, ty, mu, a, b, c, d⟩ := q16 e
    exact ⟨va, v, ty, mu, a, b, c.st h, d⟩
  · rw [k3 41 (by decide) (by decide)]; exact fun e => (q17 e).st h
  · rw [k1 28 (by decide) (by decide)]; exact q18
end RZS
/-- a number of a reference's type -/
def isRf (t : Nat) : Prop := 10000 ≤ t ∧ t < 30000
/-- the entry of a type on the stack -/
def eT (t : Nat) : tE := if 10000 ≤ t then (if t % 2 = 0 then (1, (t - 10000) / 2, 0) else (2, (t - 10000) / 2, 0)) else (0, t, 0)
/-- .. of what a function gives back: a reference is marked -/
def eU (t : Nat) : tE := if 10000 ≤ t then (if t % 2 = 0 then (1, (t - 10000) / 2, 1) else (2, (t - 10000) / 2, 1)) else (0, t, 0)
/-- an entry is told as another: plain ones, a reference that is no longer one -/
def wkE (e e2 : tE) : Prop := e2 = e ∨ (∃ t2 : Nat, (t2 = 1 ∨ t2 = 2 ∨ t2 = 3) ∧ e2 = (0, t2, 0) ∧ ((∃ t : Nat, (t = 1 ∨ t = 2 ∨ t = 3) ∧ e = (0, t, 0)) ∨ ∃ T : Nat, e = (1, T, 0) ∨ e = (2, T, 0)))
def wkS : List tE → List tE → Prop
  | [], [] => True
  | e :: s, e2 :: s2 => wkE e e2 ∧ wkS s s2
  | _, _ => False
theorem wkE.tr {a b c : tE} (h : wkE a b) (g : wkE b c) : wkE a c := by
  rcases h with h | ⟨t, h1, h2, h3⟩
  · rw [h] at g; exact g
  · rcases g with g | ⟨t2, g1, g2, g3⟩
    · rw [g]; exact Or.inr ⟨t, h1, h2, h3⟩
    · exact Or.inr ⟨t2, g1, g2, h3⟩
theorem wkS.rf : ∀ {s : List tE}, wkS s s
  | [] => trivial
  | _ :: _ => ⟨Or.inl rfl, wkS.rf⟩
theorem wkS.tr : ∀ {a b c : List tE}, wkS a b → wkS b c → wkS a c
  | [], [], [], _, _ => trivial
  | _ :: _, _ :: _, _ :: _, h, g => ⟨h.1.tr g.1, h.2.tr g.2⟩
  | [], _ :: _, _, h, _ => h.elim
  | _ :: _, [], _, h, _ => h.elim
  | [], [], _ :: _, _, g => g.elim
  | _ :: _, _ :: _, [], _, g => g.elim
theorem wkE.n {a b : tE} (h : wkE a b) : (a.1 = 8 ∨ a.1 = 4 ∨ a.1 = 5 ∨ a.1 = 6) ↔ (b.1 = 8 ∨ b.1 = 4 ∨ b.1 = 5 ∨ b.1 = 6) := by
  rcases h with h | ⟨t, h1, h2, ⟨u, u1, u2⟩ | ⟨T, u | u⟩⟩
  · rw [h]
  · subst h2 u2; exact ⟨fun w => by simp at w, fun w => by simp at w⟩
  · subst h2 u; exact ⟨fun w => by simp at w, fun w => by simp at w⟩
  · subst h2 u; exact ⟨fun w => by simp at w, fun w => by simp at w⟩
theorem wkS_wl : ∀ {a b : List tE}, wkS a b → wl b = wl a
  | [], [], _ => rfl
  | x :: s, y :: t, h => by
    show wl t + _ = wl s + _
    rw [wkS_wl h.2]
    by_cases q : x.1 = 8 ∨ x.1 = 4 ∨ x.1 = 5 ∨ x.1 = 6
    · rw [if_pos q, if_pos (h.1.n.mp q)]
    · rw [if_neg q, if_neg (fun w => q (h.1.n.mpr w))]
  | [], _ :: _, h => h.elim
  | _ :: _, [], h => h.elim
/-- what a function's code is told over: types, types of its variables, the heads of all functions (item: how many, types, result), what it gives, lives -/
abbrev eV := qY × (Nat → Nat) × (Nat → Nat × (Nat → Nat) × Nat) × Nat × (Nat → Nat → Int32) × (Nat → Int32) × (Nat → Nat)
def eV.y (E : eV) : qY := E.1
def eV.vt (E : eV) : Nat → Nat := E.2.1
def eV.hd (E : eV) : Nat → Nat × (Nat → Nat) × Nat := E.2.2.1
def eV.gv (E : eV) : Nat := E.2.2.2.1
def eV.lf (E : eV) : Nat → Nat → Int32 := E.2.2.2.2.1
def eV.rl (E : eV) : Nat → Int32 := E.2.2.2.2.2.1
/-- where the variables lie -/
def eV.ad (E : eV) : Nat → Nat := E.2.2.2.2.2.2
/-- a place on a variable of type T0: its way leads to T -/
def pTy (y : qY) (T0 : Nat) (ρ : lLc) (T : Nat) : Prop := (¬ isRf T0 ∧ qW y T0 ρ T) ∨ (isRf T0 ∧ ((ρ = [] ∧ T = T0) ∨ ∃ ρ2 : lLc, ρ = (1, 0) :: ρ2 ∧ qW y (y.2.1 T0) ρ2 T))
/-- nothing is looked at, held, used -/
def iD0 (i : iR) : Prop := i.ac = 0 ∧ i.pa = none ∧ i.ho = none ∧ i.ln = none ∧ i.us = [] ∧ i.fr = []
/-- what a path's variable makes used: v itself if it is a reference -/
def iUv (E : eV) (i : iR) (v : Nat) : Prop := (isRf (E.vt v) → i.us = [v] ∧ i.fr = [v]) ∧ (¬ isRf (E.vt v) → i.us = [] ∧ i.fr = [])
def cpT (T : Nat) : Prop := T = 1 ∨ T = 2 ∨ (isRf T ∧ T % 2 = 0)
/-- an entry that is nothing matched on, no reference that is given back -/
def pnE (e : tE) : Prop := e.1 ≠ 3 ∧ e.1 ≠ 4 ∧ e.1 ≠ 5 ∧ e.1 ≠ 6 ∧ ((e.1 = 1 ∨ e.1 = 2) → e.2.2 = 0)
/-- .. stands on top -/
def nT (s : List tE) : Prop := ∀ (e : tE) (r : List tE), s = e :: r → pnE e
/-- a number for a way -/
def cdL : lLc → Nat
  | [] => 0
  | (a, b) :: ρ => 2 ^ a * (2 * (2 ^ b * (2 * cdL ρ + 1)) + 1)
/-- .. for a place -/
def cdP (v : Nat) (ρ : lLc) : Nat := 2 ^ v * (2 * cdL ρ + 1)
/-- a place that is looked at -/
def iPa (E : eV) (i : iR) (s : List tE) (v : Nat) (ρ : lLc) (T : Nat) : Prop := i.pa = some (v, ρ, T) ∧ (v < 40 ∧ E.ad v = i.n2) ∧ (8, v, 0) ∈ s ∧ pTy E.y (E.vt v) ρ T ∧ qMs ρ ∧ T ≠ 0 ∧ ρ.length ≤ 4 ∧ nT s
/-- references of a call's arguments, from place q on: those that hold P -/
def arL (b : Nat) (P : Nat → Bool) : Nat → List Nat
  | 0 => []
  | n + 1 => arL b P n ++ (if P n then [40 + (b + n)] else [])
/-- an instruction at point k, its stack s, where it leads -/
def tPt (E : eV) (k : Nat) (lv : Prop) (i : iR) (s : List tE) (J : Nat → List tE → Prop) : Prop := match i.kd with
  | 0 => (iD0 i ∧ nT s) ∧ J (k + 1) s
  | 1 => (iD0 i ∧ nT s) ∧ ∃ t : Nat, (t = 1 ∨ t = 2) ∧ J (k + 1) ((0, t, 0) :: s)
  | 27 => (iD0 i ∧ nT s) ∧ ∃ t : Nat, (t = 1 ∨ t = 2) ∧ J (k + 1) ((0, t, 0) :: s)
  | 2 => i.ln = none ∧ ∃ (v : Nat) (ρ : lLc) (T : Nat), iPa E i s v ρ T ∧ iUv E i v ∧ (isRf T → i.ho = some (40 + wl s)) ∧ (¬ isRf T → i.ho = none) ∧ ((i.ac = 1 ∧ cpT T) ∨ (i.ac = 4 ∧ ¬ cpT T ∧ qM ρ) ∨ (i.ac = 5 ∧ ¬ cpT T ∧ ¬ isRf (E.vt v) ∧ ∃ σ : lLc, ρ = σ ++ [(1, 0)] ∧ qM σ)) ∧ J (k + 1) (eT T :: s)
  | 3 => ∃ (v : Nat) (ρ : lLc) (T : Nat), iPa E i s v ρ T ∧ iUv E i v ∧ i.ho = some (40 + wl s) ∧ (∃ l : Nat, i.ln = some l) ∧ T < 10000 ∧ ((i.ac = 2 ∧ i.n3 = 1 ∧ J (k + 1) ((1, T, 0) :: s)) ∨ (i.ac = 3 ∧ i.n3 = 0 ∧ (isRf (E.vt v) → E.vt v % 2 = 1) ∧ J (k + 1) ((2, T, 0) :: s)))
  | 4 => iD0 i ∧ ∃ (t1 t2 t : Nat) (r : List tE), (t1 = 1 ∨ t1 = 2) ∧ (t2 = 1 ∨ t2 = 2) ∧ (t = 1 ∨ t = 2) ∧ s = (0, t1, 0) :: (0, t2, 0) :: r ∧ J (k + 1) ((0, t, 0) :: r)
  | 5 => iD0 i ∧ ∃ (t : Nat) (r : List tE), (t = 1 ∨ t = 2) ∧ s = (0, t, 0) :: r ∧ J (k + 1) s
  | 6 => iD0 i ∧ ∃ (t : Nat) (r : List tE), (t = 1 ∨ t = 2) ∧ s = (0, t, 0) :: r ∧ J (k + 1) s
  | 7 => iD0 i ∧ ∃ (U : Nat) (r : List tE), s = (0, i.n1, 0) :: r ∧ i.n1 ≠ 0 ∧ i.n1 < 10000 ∧ E.y.1 U = 4 ∧ E.y.2.1 U = i.n1 ∧ 100 ≤ U ∧ U < 10000 ∧ J (k + 1) ((0, U, 0) :: r)
  | 8 => iD0 i ∧ ∃ (fo : Nat → Nat) (r : List tE), E.y.1 (4 + i.n1) = 2 ∧ i.n1 < 70 ∧ i.n3 = E.y.2.2.2.1 (4 + i.n1) 0 ∧ i.n3 ≤ 12 ∧ i.vs = (List.range i.n3).map fo ∧ (∀ q : Nat, q < i.n3 → fo q < i.n3) ∧ (∀ a b : Nat, a < i.n3 → b < i.n3 → fo a = fo b → a = b) ∧ s = dsl (fun q => (0, E.y.2.2.2.2 (4 + i.n1) 0 (fo q), 0)) i.n3 ++ r ∧ J (k + 1) ((0, 4 + i.n1, 0) :: r)
  | 9 => (iD0 i ∧ nT s) ∧ ∃ r : List tE, E.y.1 (4 + i.n1) = 3 ∧ i.n1 < 70 ∧ i.n2 < E.y.2.2.1 (4 + i.n1) ∧ i.n3 = E.y.2.2.2.1 (4 + i.n1) i.n2 ∧ i.n3 ≤ 12 ∧ s = dsl (fun q => (0, E.y.2.2.2.2 (4 + i.n1) i.n2 q, 0)) i.n3 ++ r ∧ J (k + 1) ((0, 4 + i.n1, 0) :: r)
  | 10 => i.ac = 0 ∧ i.pa = none ∧ (i.ln = none ∧ nT s) ∧ ∃ r : List tE, i.n3 = (E.hd i.n1).1 ∧ i.n3 ≤ 12 ∧ i.n1 < 70 ∧ s = dsl (fun q => eT ((E.hd i.n1).2.1 q)) i.n3 ++ r ∧ (∀ q : Nat, q < i.n3 → (E.hd i.n1).2.1 q ≠ 0) ∧ i.us = arL (wl r) (fun q => decide (10000 ≤ (E.hd i.n1).2.1 q ∧ (E.hd i.n1).2.1 q < 30000)) i.n3 ∧ i.fr = arL (wl r) (fun q => decide (10000 ≤ (E.hd i.n1).2.1 q ∧ (E.hd i.n1).2.1 q < 30000) && (decide (E.rl i.n1 < 0) || decide (E.lf i.n1 q = E.rl i.n1))) i.n3 ∧ (((E.hd i.n1).2.2 = 0 ∧ i.ho = none ∧ J (k + 1) r) ∨ ((E.hd i.n1).2.2 ≠ 0 ∧ (isRf (E.hd i.n1).2.2 → i.ho = some (40 + wl r)) ∧ (¬ isRf (E.hd i.n1).2.2 → i.ho = none) ∧ J (k + 1) (eT (E.hd i.n1).2.2 :: r)))
  | 11 => iD0 i ∧ ∃ (T : Nat) (r : List tE), s = (0, T, 0) :: r ∧ T ≠ 0 ∧ T < 10000 ∧ (T = i.n1 ∨ (isRf i.n1 ∧ T = 1)) ∧ J (k + 1) r
  | 12 => i.ac = 0 ∧ i.pa = none ∧ i.ln = none ∧ ∃ (v : Nat) (r : List tE), i.vs = [v] ∧ v < 40 ∧ i.ho = some v ∧ E.vt v ≠ 0 ∧ s = eT (E.vt v) :: r ∧ (8, v, 0) ∉ r ∧ wl r = 0 ∧ (isRf (E.vt v) → i.us = [40] ∧ i.fr = [40]) ∧ (¬ isRf (E.vt v) → i.us = [] ∧ i.fr = []) ∧ i.n1 = E.vt v ∧ J (k + 1) ((8, v, 0) :: r)
  | 13 => i.ac = 0 ∧ i.pa = none ∧ (i.ln = none ∧ nT s) ∧ i.us = [] ∧ i.fr = [] ∧ ∃ v : Nat, i.vs = [v] ∧ v < 40 ∧ i.ho = some v ∧ (8, v, 0) ∉ s ∧ wl s = 0 ∧ i.n1 = E.vt v ∧ J (k + 1) ((8, v, 0) :: s)
  | 14 => i.ac = 6 ∧ i.ln = none ∧ ∃ (v : Nat) (ρ : lLc) (T : Nat) (r : List tE), iPa E i r v ρ T ∧ s = eT T :: r ∧ wl r = 0 ∧ ((ρ = [] ∧ i.ho = some v ∧ (isRf T → i.us = [40] ∧ i.fr = [40]) ∧ (¬ isRf T → i.us = [] ∧ i.fr = [])) ∨ (ρ ≠ [] ∧ i.ho = none ∧ i.fr = [] ∧ (isRf (E.vt v) → i.us = [v] ∧ E.vt v % 2 = 1) ∧ (¬ isRf (E.vt v) → i.us = []))) ∧ J (k + 1) r
  | 15 => iD0 i ∧ ∃ (t : Nat) (r : List tE), (t = 1 ∨ t = 2) ∧ s = (0, t, 0) :: r ∧ J (k + 1) r
  | 16 => (iD0 i ∧ nT s) ∧ ∃ j : Nat, i.sc = [j] ∧ J j s
  | 17 => iD0 i ∧ ∃ (t j : Nat) (r : List tE), (t = 1 ∨ t = 2) ∧ s = (0, t, 0) :: r ∧ i.sc = [k + 1, j] ∧ J (k + 1) r ∧ J j r
  | 18 => iD0 i ∧ ∃ (t j : Nat) (r : List tE), (t = 1 ∨ t = 2) ∧ s = (0, t, 0) :: r ∧ i.sc = [k + 1, j] ∧ J (k + 1) r ∧ J j s
  | 19 => iD0 i ∧ ∃ (t j : Nat) (r : List tE), (t = 1 ∨ t = 2) ∧ s = (0, t, 0) :: r ∧ i.sc = [k + 1, j] ∧ J (k + 1) r ∧ J j s
  | 20 => iD0 i ∧ ∃ r : List tE, s = (0, 4 + i.n1, 0) :: r ∧ wl r = 0 ∧ i.n1 < 70 ∧ E.y.1 (4 + i.n1) = 3 ∧ i.sc.length = E.y.2.2.1 (4 + i.n1) ∧ i.sc.length ≤ 12 ∧ ∀ g j : Nat, i.sc[g]? = some j → k < j ∧ J j ((3, (4 + i.n1) * 12 + g, 1) :: r)
  | 21 => i.ho = none ∧ i.ln = none ∧ ∃ (v : Nat) (ρ : lLc), iPa E i s v ρ (4 + i.n1) ∧ iUv E i v ∧ wl s = 0 ∧ i.n1 < 70 ∧ E.y.1 (4 + i.n1) = 3 ∧ ((i.ac = 2 ∧ i.n3 = 1) ∨ (i.ac = 3 ∧ i.n3 = 0 ∧ (isRf (E.vt v) → E.vt v % 2 = 1))) ∧ i.sc.length = E.y.2.2.1 (4 + i.n1) ∧ i.sc.length ≤ 12 ∧ ∀ g j : Nat, i.sc[g]? = some j → k < j ∧ ((E.y.2.2.2.1 (4 + i.n1) g = 0 ∧ J j s) ∨ (0 < E.y.2.2.2.1 (4 + i.n1) g ∧ J j ((if i.n3 = 1 then 5 else 6, i.n1 * 12 + g, 64 * cdP v ρ) :: s)))
  | 22 => iD0 i ∧ ∃ r : List tE, s = (3, (4 + i.n1) * 12 + i.n2, 1) :: r ∧ wl r = 0 ∧ i.n1 < 70 ∧ i.n2 < 12 ∧ E.y.1 (4 + i.n1) = 3 ∧ i.n2 < E.y.2.2.1 (4 + i.n1) ∧ i.vs.length = E.y.2.2.2.1 (4 + i.n1) i.n2 ∧ i.vs.length ≤ 12 ∧ (∀ a b v : Nat, i.vs[a]? = some v → i.vs[b]? = some v → a = b) ∧ (∀ q v : Nat, i.vs[q]? = some v → v < 40 ∧ (8, v, 0) ∉ r ∧ E.vt v = E.y.2.2.2.2 (4 + i.n1) i.n2 q) ∧ J (k + 1) ((i.vs.reverse.map (fun v => (8, v, 0))) ++ r)
  | 23 => i.ac = 0 ∧ ∃ (v : Nat) (ρ : lLc) (w q g m : Nat) (r : List tE), i.vs = [w] ∧ w < 40 ∧ i.ho = some w ∧ (∃ l : Nat, i.ln = some l) ∧ s = (if i.n3 = 1 then 5 else 6, q * 12 + g, 64 * cdP v ρ + m) :: r ∧ (wl r = 0 ∧ nT r ∧ (i.n3 ≠ 1 → isRf (E.vt v) → E.vt v % 2 = 1)) ∧ (8, w, 0) ∉ r ∧ q < 70 ∧ g < 12 ∧ E.y.1 (4 + q) = 3 ∧ g < E.y.2.2.1 (4 + q) ∧ m < E.y.2.2.2.1 (4 + q) g ∧ i.pa = some (v, ρ ++ [(g + 2, m)], E.y.2.2.2.2 (4 + q) g m) ∧ (v < 40 ∧ E.ad v = i.n2) ∧ (8, v, 0) ∈ r ∧ pTy E.y (E.vt v) ρ (4 + q) ∧ qMs ρ ∧ ρ.length ≤ 4 ∧ iUv E i v ∧ E.vt w = (if i.n3 = 1 then 10000 else 10001) + 2 * E.y.2.2.2.2 (4 + q) g m ∧ E.y.2.2.2.2 (4 + q) g m < 10000 ∧ ((m + 1 = E.y.2.2.2.1 (4 + q) g ∧ J (k + 1) ((8, w, 0) :: r)) ∨ (m + 1 < E.y.2.2.2.1 (4 + q) g ∧ J (k + 1) ((if i.n3 = 1 then 5 else 6, q * 12 + g, 64 * cdP v ρ + (m + 1)) :: (8, w, 0) :: r)))
  | 24 => i.ac = 7 ∧ i.ln = none ∧ i.us = [] ∧ i.fr = [] ∧ ∃ (v : Nat) (e r : List tE), i.vs = [v] ∧ (v < 40 ∧ E.ad v = i.n2) ∧ i.ho = some v ∧ i.pa = some (v, [], E.vt v) ∧ i.n1 = E.vt v ∧ s = e ++ (8, v, 0) :: r ∧ (8, v, 0) ∉ r ∧ (e = [] ∨ (e = [eT E.gv] ∧ E.gv ≠ 0)) ∧ wl r = 0 ∧ J (k + 1) (e ++ r)
  | 25 => i.ac = 0 ∧ i.pa = none ∧ i.ho = none ∧ i.ln = none ∧ i.us = [40] ∧ i.fr = [] ∧ i.n1 = 40 ∧ s = [eT E.gv] ∧ isRf E.gv ∧ J (k + 1) [eU E.gv]
  | 26 => iD0 i ∧ (lv → (s = [] ∧ E.gv = 0) ∨ (s = [eU E.gv] ∧ E.gv ≠ 0))
  | _ => False
