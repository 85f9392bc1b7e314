/-- Moves' state: of variables, of labels' rows, which labels are reached, is the place reached, again, the first fault -/
abbrev mvT := (Nat → Int32) × (Nat → Int32) × (Nat → Int32) × Int32 × Int32 × Int32
/-- send: rv: whether the label learnt something -/
def mvSd (n L : Nat) (s t : mvT) (rv : Int32) : Prop := t.1 = s.1 ∧ sdR L n s.1 s.2.1 t.2.1 ∧ t.2.2.1 = upd s.2.2.1 L (vp_nar .boolean 1) ∧ t.2.2.2 = s.2.2.2 ∧ (rv = 0 → s.2.2.1 L ≠ 0 ∧ ∀ v : Nat, v < n → s.2.1 (L * 40 + v) ||| s.1 v = s.2.1 (L * 40 + v)) ∧ (rv ≠ 0 → s.2.2.1 L = 0 ∨ ∃ v : Nat, v < n ∧ s.2.1 (L * 40 + v) ||| s.1 v ≠ s.2.1 (L * 40 + v))
/-- to the first k arms -/
def mvSw (F : tF) (n tb : Nat) : Nat → mvT → mvT → Prop
  | 0, s, t => t = s
  | k + 1, s, t => ∃ (u : mvT) (L : Nat) (rv : Int32), mvSw F n tb k s u ∧ F 13 (tb + k) = nI L ∧ L < 1100 ∧ mvSd n L u t rv
def mvFl (F : tF) (n i : Nat) (s t : mvT) : Nat → Prop
  | 15 => ∃ (L : Nat) (u : mvT) (rv : Int32), F 1 i = nI L ∧ L < 1100 ∧ mvSd n L s u rv ∧ (t.1, t.2.1, t.2.2.1) = (u.1, u.2.1, u.2.2.1) ∧ t.2.2.2.1 = 0 ∧ t.2.2.2.2.1 = (if rv = 0 then (if s.2.2.2.2.1 = 0 then 0 else 1) else 1) ∧ t.2.2.2.2.2 = s.2.2.2.2.2
  | 16 => ∃ (L : Nat) (u : mvT) (rv : Int32), F 1 i = nI L ∧ L < 1100 ∧ mvSd n L s u rv ∧ t = (u.1, u.2.1, u.2.2.1, 0, s.2.2.2.2)
  | 17 => ∃ (L : Nat) (rv : Int32), F 1 i = nI L ∧ L < 1100 ∧ mvSd n L s t rv
  | 18 => ∃ (L : Nat) (rv : Int32), F 1 i = nI L ∧ L < 1100 ∧ mvSd n L s t rv
  | 19 => ∃ (L : Nat) (rv : Int32), F 1 i = nI L ∧ L < 1100 ∧ mvSd n L s t rv
  | 20 => ∃ (tb c : Nat) (u : mvT), F 1 i = nI tb ∧ F 3 i = nI c ∧ tb ≤ 3002 ∧ c ≤ 12 ∧ mvSw F n tb c s u ∧ t = (u.1, u.2.1, u.2.2.1, 0, u.2.2.2.2)
  | 22 => t = (s.1, s.2.1, s.2.2.1, 0, s.2.2.2.2)
  | _ => t = s
/-- the cells of variable v -/
def fuV (et az : Nat → Int32) (v : Nat) : Int32 := if et v = -1 then 0 else fuI az (cN (et v))
def mvUs (F : tF) (p v : Nat) (s : mvT) : Int32 := if s.1 v &&& F 12 p = 0 then s.2.2.2.2.2 else tlF s.2.2.2.2.2 (F 11 p)
def mvSt (s : mvT) (st : Nat → Int32) (fi : Int32) : mvT := (st, s.2.1, s.2.2.1, s.2.2.2.1, s.2.2.2.2.1, fi)
def mvLk (F : tF) (n : Nat) (et em az : Nat → Int32) (i : Nat) (s t : mvT) : Nat → Prop
  | 2 => ∃ p v : Nat, (F 1 i = nI p ∧ p < 3001) ∧ F 6 p = nI v ∧ v < 40 ∧ t = mvSt s s.1 (mvUs F p v s)
  | 3 => ∃ p v : Nat, (F 1 i = nI p ∧ p < 3001) ∧ F 6 p = nI v ∧ v < 40 ∧ t = mvSt s (upd s.1 v ((s.1 v ||| F 12 p) &&& ((F 12 p <<< ((16 : Int32) &&& 31)) ^^^ -1))) (mvUs F p v s)
  | 4 => ∃ p v : Nat, (F 1 i = nI p ∧ p < 3001) ∧ F 6 p = nI v ∧ v < 40 ∧ t = mvSt s s.1 (mvUs F p v s)
  | 24 => ∃ v : Nat, F 1 i = nI v ∧ v < 40 ∧ t = mvSt s (upd s.1 v (fuV et az v <<< ((16 : Int32) &&& 31))) s.2.2.2.2.2
  | 29 => ∃ v : Nat, F 1 i = nI v ∧ v < 40 ∧ t = mvSt s (upd s.1 v (fuV et az v <<< ((16 : Int32) &&& 31))) s.2.2.2.2.2
  | 30 => ∃ v : Nat, F 1 i = nI v ∧ v < 40 ∧ t = mvSt s (upd s.1 v (fuV et az v <<< ((16 : Int32) &&& 31))) s.2.2.2.2.2
  | 25 => ∃ v : Nat, F 1 i = nI v ∧ v < 40 ∧ t = mvSt s (upd s.1 v (fuV et az v)) s.2.2.2.2.2
  | 26 => ∃ p v : Nat, (F 1 i = nI p ∧ p < 3001) ∧ F 6 p = nI v ∧ v < 40 ∧ (((0 : Int32) < F 9 p &&& 15 ∧ t = mvSt s s.1 (mvUs F p v s)) ∨ (¬ (0 : Int32) < F 9 p &&& 15 ∧ t = mvSt s (upd s.1 v (asS (s.1 v) (F 12 p))) (if F 8 p = 0 ∧ em v = 0 ∧ hiS (s.1 v) ≠ 0 then tlF s.2.2.2.2.2 (F 11 p) else s.2.2.2.2.2)))
  | o => mvFl F n i s t o
theorem mvFl_d {F : tF} {n i : Nat} {s : mvT} : ∀ o : Nat, o ≠ 15 → o ≠ 16 → o ≠ 17 → o ≠ 18 → o ≠ 19 → o ≠ 20 → o ≠ 22 → mvFl F n i s s o
  | 0, _, _, _, _, _, _, _ => rfl
  | 1, _, _, _, _, _, _, _ => rfl
  | 2, _, _, _, _, _, _, _ => rfl
  | 3, _, _, _, _, _, _, _ => rfl
  | 4, _, _, _, _, _, _, _ => rfl
  | 5, _, _, _, _, _, _, _ => rfl
  | 6, _, _, _, _, _, _, _ => rfl
  | 7, _, _, _, _, _, _, _ => rfl
  | 8, _, _, _, _, _, _, _ => rfl
  | 9, _, _, _, _, _, _, _ => rfl
  | 10, _, _, _, _, _, _, _ => rfl
  | 11, _, _, _, _, _, _, _ => rfl
  | 12, _, _, _, _, _, _, _ => rfl
  | 13, _, _, _, _, _, _, _ => rfl
  | 14, _, _, _, _, _, _, _ => rfl
  | 15, h, _, _, _, _, _, _ => absurd rfl h
  | 16, _, h, _, _, _, _, _ => absurd rfl h
  | 17, _, _, h, _, _, _, _ => absurd rfl h
  | 18, _, _, _, h, _, _, _ => absurd rfl h
  | 19, _, _, _, _, h, _, _ => absurd rfl h
  | 20, _, _, _, _, _, h, _ => absurd rfl h
  | 21, _, _, _, _, _, _, _ => rfl
  | 22, _, _, _, _, _, _, h => absurd rfl h
  | _ + 23, _, _, _, _, _, _, _ => rfl
theorem mvLk_d {F : tF} {n i : Nat} {et em az : Nat → Int32} {s t : mvT} : ∀ o : Nat, o ≠ 2 → o ≠ 3 → o ≠ 4 → o ≠ 24 → o ≠ 25 → o ≠ 26 → o ≠ 29 → o ≠ 30 → mvFl F n i s t o → mvLk F n et em az i s t o
  | 0, _, _, _, _, _, _, _, _, q => q
  | 1, _, _, _, _, _, _, _, _, q => q
  | 2, h, _, _, _, _, _, _, _, q => absurd rfl h
  | 3, _, h, _, _, _, _, _, _, q => absurd rfl h
  | 4, _, _, h, _, _, _, _, _, q => absurd rfl h
  | 5, _, _, _, _, _, _, _, _, q => q
  | 6, _, _, _, _, _, _, _, _, q => q
  | 7, _, _, _, _, _, _, _, _, q => q
  | 8, _, _, _, _, _, _, _, _, q => q
  | 9, _, _, _, _, _, _, _, _, q => q
  | 10, _, _, _, _, _, _, _, _, q => q
  | 11, _, _, _, _, _, _, _, _, q => q
  | 12, _, _, _, _, _, _, _, _, q => q
  | 13, _, _, _, _, _, _, _, _, q => q
  | 14, _, _, _, _, _, _, _, _, q => q
  | 15, _, _, _, _, _, _, _, _, q => q
  | 16, _, _, _, _, _, _, _, _, q => q
  | 17, _, _, _, _, _, _, _, _, q => q
  | 18, _, _, _, _, _, _, _, _, q => q
  | 19, _, _, _, _, _, _, _, _, q => q
  | 20, _, _, _, _, _, _, _, _, q => q
  | 21, _, _, _, _, _, _, _, _, q => q
  | 22, _, _, _, _, _, _, _, _, q => q
  | 23, _, _, _, _, _, _, _, _, q => q
  | 24, _, _, _, h, _, _, _, _, q => absurd rfl h
  | 25, _, _, _, _, h, _, _, _, q => absurd rfl h
  | 26, _, _, _, _, _, h, _, _, q => absurd rfl h
  | 27, _, _, _, _, _, _, _, _, q => q
  | 28, _, _, _, _, _, _, _, _, q => q
  | 29, _, _, _, _, _, _, h, _, q => absurd rfl h
  | 30, _, _, _, _, _, _, _, h, q => absurd rfl h
  | _ + 31, _, _, _, _, _, _, _, _, q => q
/-- one instruction of the pass -/
def mvR (F : tF) (n : Nat) (et em az : Nat → Int32) (i : Nat) (s t : mvT) : Prop := ∃ o : Nat, F 0 i = nI o ∧ o < 33 ∧ (((o = 13 ∨ o = 14) ∧ ∃ L : Nat, F 1 i = nI L ∧ L < 1100 ∧ t.2.1 = s.2.1 ∧ t.2.2.1 = s.2.2.1 ∧ t.2.2.2.2 = s.2.2.2.2 ∧ ((s.2.2.1 L = 0 ∧ t = s) ∨ (s.2.2.1 L ≠ 0 ∧ jnS L n s.2.2.2.1 s.2.1 s.1 t.1 ∧ t.2.2.2.1 = 1))) ∨ (o ≠ 13 ∧ o ≠ 14 ∧ ((s.2.2.2.1 = 0 ∧ t = s) ∨ (s.2.2.2.1 ≠ 0 ∧ mvLk F n et em az i s t o))))
/-- the pass from a to b -/
def mvP (F : tF) (n : Nat) (et em az : Nat → Int32) (a b : Nat) (s t : mvT) : Prop := ∃ h : Nat → mvT, h a = s ∧ h b = t ∧ ∀ i : Nat, a ≤ i → i < b → mvR F n et em az i (h i) (h (i + 1))
theorem mvP_0 {F : tF} {n : Nat} {et em az : Nat → Int32} {a : Nat} {s : mvT} : mvP F n et em az a a s s := ⟨fun _ => s, rfl, rfl, fun i h1 h2 => absurd h1 (by omega)⟩
theorem mvP_S {F : tF} {n : Nat} {et em az : Nat → Int32} {a b : Nat} {s t u : mvT} (h : mvP F n et em az a b s t) (hab : a ≤ b) (hr : mvR F n et em az b t u) : mvP F n et em az a (b + 1) s u := by
  obtain ⟨f, f1, f2, f3⟩ := h
  refine ⟨fun i => if i = b + 1 then u else f i, ?_, if_pos rfl, fun i h1 h2 => ?_⟩
  · show (if a = b + 1 then u else f a) = s
    rw [if_neg (by omega)]; exact f1
  · show mvR F n et em az i (if i = b + 1 then u else f i) (if i + 1 = b + 1 then u else f (i + 1))
    rw [if_neg (show ¬ i = b + 1 by omega)]
    by_cases e : i = b
    · rw [if_pos (by omega), e, f2]; exact hr
    · rw [if_neg (by omega)]; exact f3 i h1 (by omega)
theorem iB_o {F : tF} {i : Nat} (h : iB F i) : ∃ o : Nat, F 0 i = nI o ∧ o < 33 ∧ iBo F i o := by
  obtain ⟨o, h1, h2⟩ := h
  refine ⟨o, h1, ?_, h2⟩
  rcases Nat.lt_or_ge o 33 with z | z
  · exact z
  · match o, z, h2 with
    | k + 33, _, h2 => exact h2
