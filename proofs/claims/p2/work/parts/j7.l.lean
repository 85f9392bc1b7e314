theorem isT_c {L : List Nat} {F : Nat → va_E} {fk : Nat → Int32} {n a p q : Nat} (h : isT L F fk (n + 1) a p q) : a ∈ L ∧ ∃ vs : List Value, F a = .inr (22, vs) ∧ vs[0]? = some (.int (fk p)) ∧ vs[1]? = some (.int (nI p)) := by
  refine ⟨h.1, ?_⟩
  rcases h.2 with ⟨h1, _⟩ | ⟨_, o, h1, _⟩ | ⟨_, o, p', mu, lf, h1, _⟩ <;> exact ⟨_, h1, rfl, rfl⟩
theorem isT_23 {L : List Nat} {F : Nat → va_E} {fk : Nat → Int32} {n a p q : Nat} (h : isT L F fk (n + 1) a p q) (hk : fk p = 23) : ∃ (o : Nat) (vs : List Value), F a = .inr (22, vs) ∧ vs[4]? = some (.ref o) ∧ isT L F fk n o (p + 1) q := by
  rcases h.2 with ⟨_, h1, _⟩ | ⟨_, o, h1, h2⟩ | ⟨h1, _⟩
  · rcases h1 with h1 | h1 | h1 | h1 <;> exact absurd (h1.symm.trans hk) (by decide)
  · exact ⟨o, _, h1, rfl, h2⟩
  · exact absurd (h1.symm.trans hk) (by decide)
theorem isT_55 {L : List Nat} {F : Nat → va_E} {fk : Nat → Int32} {n a p q : Nat} (h : isT L F fk (n + 1) a p q) (hk : fk p = 55) : ∃ (o p' : Nat) (mu lf : Int32) (vs : List Value), F a = .inr (22, vs) ∧ vs[2]? = some (.int mu) ∧ vs[3]? = some (.int lf) ∧ vs[4]? = some (.ref o) ∧ p < p' ∧ (mu = 0 ∨ mu = 1) ∧ (lf = -1 ∨ lf = nI (p + 1)) ∧ isT L F fk n o p' q := by
  rcases h.2 with ⟨_, h1, _⟩ | ⟨h1, _⟩ | ⟨_, o, p', mu, lf, h1, h2, h3, h4, h5⟩
  · rcases h1 with h1 | h1 | h1 | h1 <;> exact absurd (h1.symm.trans hk) (by decide)
  · exact absurd (h1.symm.trans hk) (by decide)
  · exact ⟨o, p', mu, lf, _, h1, rfl, rfl, rfl, h2, h3, h4, h5⟩
