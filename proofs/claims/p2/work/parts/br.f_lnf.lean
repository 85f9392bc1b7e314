def lnSd (n L : Nat) (s t : lnT) (rv : Int32) : Prop := t.1 = s.1 ∧ sdL L n s.1 s.2.1 t.2.1 ∧ t.2.2.1 = upd s.2.2.1 L (vp_nar .boolean 1) ∧ t.2.2.2 = s.2.2.2 ∧ (rv = 0 → s.2.2.1 L ≠ 0 ∧ ∀ v : Nat, v < n → s.2.1 (L * 40 + v) ||| s.1 v = s.2.1 (L * 40 + v)) ∧ (rv ≠ 0 → s.2.2.1 L = 0 ∨ ∃ v : Nat, v < n ∧ s.2.1 (L * 40 + v) ||| s.1 v ≠ s.2.1 (L * 40 + v))
def lnSw (F : tF) (n tb : Nat) : Nat → lnT → lnT → Prop
  | 0, s, t => t = s
  | k + 1, s, t => ∃ (u : lnT) (L : Nat) (rv : Int32), lnSw F n tb k s u ∧ F 13 (tb + k) = nI L ∧ L < 1100 ∧ lnSd n L u t rv
/-- one value less -/
def lnPo (k : Nat) (s t : lnT) : Prop := ∃ x : Int64, (t.2.2.2.2.2.2.2.1, x) = popF s.2.2.2.2.2.2.1 k s.2.2.2.2.2.2.2.1 0 ∧ t = lnSt s s.1 s.2.2.2.2.2.1 s.2.2.2.2.2.2.1 t.2.2.2.2.2.2.2.1 s.2.2.2.2.2.2.2.2
def lnOf (s : lnT) (ir ag : Int32) : lnT := (s.1, s.2.1, s.2.2.1, ir, ag, s.2.2.2.2.2)
def lnFl (F : tF) (n i : Nat) (s t : lnT) : Nat → Prop
  | 15 => ∃ (L : Nat) (u : lnT) (rv : Int32), F 1 i = nI L ∧ L < 1100 ∧ lnSd n L s u rv ∧ t = lnOf u 0 (if rv = 0 then (if s.2.2.2.2.1 = 0 then 0 else 1) else 1)
  | 16 => ∃ (L : Nat) (u : lnT) (rv : Int32), F 1 i = nI L ∧ L < 1100 ∧ lnSd n L s u rv ∧ t = lnOf u 0 s.2.2.2.2.1
  | 17 => ∃ (L : Nat) (u : lnT) (rv : Int32), F 1 i = nI L ∧ L < 1100 ∧ lnPo 1 s u ∧ lnSd n L u t rv
  | 18 => ∃ (L : Nat) (u : lnT) (rv : Int32), F 1 i = nI L ∧ L < 1100 ∧ lnPo 1 s u ∧ lnSd n L u t rv
  | 19 => ∃ (L : Nat) (u : lnT) (rv : Int32), F 1 i = nI L ∧ L < 1100 ∧ lnPo 1 s u ∧ lnSd n L u t rv
  | 20 => ∃ (tb c : Nat) (u v : lnT), F 1 i = nI tb ∧ F 3 i = nI c ∧ tb ≤ 3002 ∧ c ≤ 12 ∧ lnPo 1 s u ∧ lnSw F n tb c u v ∧ t = lnOf v 0 s.2.2.2.2.1
  | _ => t = s
theorem lnFl_d {F : tF} {n i : Nat} {s : lnT} : ∀ o : Nat, o ≠ 15 → o ≠ 16 → o ≠ 17 → o ≠ 18 → o ≠ 19 → o ≠ 20 → lnFl F n i s s o
  | 0, _, _, _, _, _, _ => rfl
  | 1, _, _, _, _, _, _ => rfl
  | 2, _, _, _, _, _, _ => rfl
  | 3, _, _, _, _, _, _ => rfl
  | 4, _, _, _, _, _, _ => rfl
  | 5, _, _, _, _, _, _ => rfl
  | 6, _, _, _, _, _, _ => rfl
  | 7, _, _, _, _, _, _ => rfl
  | 8, _, _, _, _, _, _ => rfl
  | 9, _, _, _, _, _, _ => rfl
  | 10, _, _, _, _, _, _ => rfl
  | 11, _, _, _, _, _, _ => rfl
  | 12, _, _, _, _, _, _ => rfl
  | 13, _, _, _, _, _, _ => rfl
  | 14, _, _, _, _, _, _ => rfl
  | 15, h, _, _, _, _, _ => absurd rfl h
  | 16, _, h, _, _, _, _ => absurd rfl h
  | 17, _, _, h, _, _, _ => absurd rfl h
  | 18, _, _, _, h, _, _ => absurd rfl h
  | 19, _, _, _, _, h, _ => absurd rfl h
  | 20, _, _, _, _, _, h => absurd rfl h
  | _ + 21, _, _, _, _, _, _ => rfl
