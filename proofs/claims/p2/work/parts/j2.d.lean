/-- a type as it was written: the tokens p to q -/
def isT (L : List Nat) (F : Nat → va_E) (fk : Nat → Int32) : Nat → Nat → Nat → Nat → Prop
  | 0, _, _, _ => False
  | n + 1, a, p, q => a ∈ L ∧ ((F a = .inr (22, [.int (fk p), .int (nI p), .int 0, .int (-1), .null]) ∧ (fk p = 26 ∨ fk p = 27 ∨ fk p = 25 ∨ fk p = 2) ∧ q = p + 1) ∨
      (fk p = 23 ∧ ∃ o : Nat, F a = .inr (22, [.int (fk p), .int (nI p), .int 0, .int (-1), .ref o]) ∧ isT L F fk n o (p + 1) q) ∨
      (fk p = 55 ∧ ∃ (o p' : Nat) (mu lf : Int32), F a = .inr (22, [.int (fk p), .int (nI p), .int mu, .int lf, .ref o]) ∧ p < p' ∧ (mu = 0 ∨ mu = 1) ∧ (lf = -1 ∨ lf = nI (p + 1)) ∧ isT L F fk n o p' q))
theorem isT_lt {L : List Nat} {F : Nat → va_E} {fk : Nat → Int32} : ∀ {n a p q : Nat}, isT L F fk n a p q → p < q
  | 0, _, _, _, h => h.elim
  | n + 1, a, p, q, h => by
    rcases h.2 with ⟨_, _, h⟩ | ⟨_, o, _, h⟩ | ⟨_, o, p', _, _, _, h1, _, _, h⟩
    · omega
    · have := isT_lt h; omega
    · have := isT_lt h; omega
theorem isT_ex {L L2 : List Nat} {F F2 : Nat → va_E} {fk : Nat → Int32} (hx : exS L F L2 F2) : ∀ {n a p q : Nat}, isT L F fk n a p q → isT L2 F2 fk n a p q
  | 0, _, _, _, h => h.elim
  | n + 1, a, p, q, h => by
    obtain ⟨h1, h2⟩ := hx a h.1
    refine ⟨h1, ?_⟩
    rw [h2]
    rcases h.2 with h | ⟨h0, o, h, g⟩ | ⟨h0, o, p', mu, lf, h, g1, g2, g3, g⟩
    · exact Or.inl h
    · exact Or.inr (Or.inl ⟨h0, o, h, isT_ex hx g⟩)
    · exact Or.inr (Or.inr ⟨h0, o, p', mu, lf, h, g1, g2, g3, isT_ex hx g⟩)
theorem isT_up {L : List Nat} {F : Nat → va_E} {fk : Nat → Int32} : ∀ {n a p q : Nat}, isT L F fk n a p q → isT L F fk (n + 1) a p q
  | 0, _, _, _, h => h.elim
  | n + 1, a, p, q, h => by
    refine ⟨h.1, ?_⟩
    rcases h.2 with h | ⟨h0, o, h, g⟩ | ⟨h0, o, p', mu, lf, h, g1, g2, g3, g⟩
    · exact Or.inl h
    · exact Or.inr (Or.inl ⟨h0, o, h, isT_up g⟩)
    · exact Or.inr (Or.inr ⟨h0, o, p', mu, lf, h, g1, g2, g3, isT_up g⟩)
theorem isT_le {L : List Nat} {F : Nat → va_E} {fk : Nat → Int32} {n m a p q : Nat} (h : isT L F fk n a p q) (hm : n ≤ m) : isT L F fk m a p q := by
  obtain ⟨d, rfl⟩ : ∃ d, m = n + d := ⟨m - n, by omega⟩
  clear hm
  induction d with
  | zero => exact h
  | succ d ih => exact isT_up ih