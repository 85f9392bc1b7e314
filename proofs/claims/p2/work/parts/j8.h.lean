/-- rows of different classes have different classes -/
theorem kNeO {D : va_G} {cl : List vw_C} {tys : List (ClassId × FieldType)} {U : State} (hK : va_K D cl tys U) (i j : Nat) {C C2 : String} {a b : ClassId} (hi : tys[i]? = some (a, .object C)) (hj : tys[j]? = some (b, .object C2)) (hC : C ≠ C2) : a ≠ b := by
  intro e
  subst e
  obtain ⟨k1, c1, h1, h2, _⟩ := (hK.2 i _ hi).2
  obtain ⟨k2, c2, g1, g2, _⟩ := (hK.2 j _ hj).2
  have e : k1 = k2 := Option.some.inj (h1.symm.trans g1)
  subst e
  rw [h2] at g2
  cases g2
  exact hC rfl
/-- a is a row of types of an item, or of a variant's parts -/
def trow (G : Nat → va_E) (xI : Nat → Nat) (im a : Nat) : Prop := ∃ (i : Nat) (fs : List Value), i < im ∧ G (xI i) = .inr (16, fs) ∧ (fs[10]? = some (.ref a) ∨ ∃ (vr cap k pa mn : Nat) (kP : ClassId) (f : Nat → Option Nat) (gs : List Value), fs[3]? = some (.int (nI mn)) ∧ mn ≤ 12 ∧ k < mn ∧ fs[11]? = some (.ref vr) ∧ G vr = .inl (kP, cap, .inr (.inr (.inr (.inr f)))) ∧ f k = some pa ∧ G pa = .inr (17, gs) ∧ gs[2]? = some (.ref a))
/-- what lies in the rows of types: types -/
def rwT (F G : Nat → va_E) (kT : ClassId) (xI : Nat → Nat) (im tm : Nat) (ad : Nat → Nat) : Prop := ∀ a : Nat, trow G xI im a → ∀ (cap : Nat) (f : Nat → Option Nat), F a = .inl (kT, cap, .inr (.inr (.inr (.inr f)))) → ∀ k x : Nat, f k = some x → ∃ t : Nat, t < tm ∧ x = ad t
/-- the first n entries of the row a are there -/
def rwF (F : Nat → va_E) (kT : ClassId) (a n : Nat) : Prop := ∃ (cap : Nat) (f : Nat → Option Nat), F a = .inl (kT, cap, .inr (.inr (.inr (.inr f)))) ∧ n ≤ cap ∧ ∀ k : Nat, k < n → f k ≠ none
/-- an entry of a row of types is written: what was there stays there -/
theorem rwF_up {F : Nat → va_E} {kT : ClassId} {a b n cap j x : Nat} {f : Nat → Option Nat} (h : rwF F kT a n) (hb : F b = .inl (kT, cap, .inr (.inr (.inr (.inr f))))) : rwF (updE F b (.inl (kT, cap, .inr (.inr (.inr (.inr (va_up f j (some x)))))))) kT a n := by
  obtain ⟨c2, f2, h1, h2, h3⟩ := h
  by_cases e : a = b
  · subst e
    rw [hb] at h1
    cases h1
    refine ⟨cap, va_up f j (some x), updE_s, h2, fun k hk => ?_⟩
    by_cases e : k = j
    · subst e; rw [vu_s]; exact fun q => by cases q
    · rw [vu_n e]; exact h3 k hk
  · exact ⟨c2, f2, (updE_n e).trans h1, h2, h3⟩
theorem rwF_one {F : Nat → va_E} {kT : ClassId} {b n cap x : Nat} {f : Nat → Option Nat} (h : rwF F kT b n) (hb : F b = .inl (kT, cap, .inr (.inr (.inr (.inr f))))) (hn : n < cap) : rwF (updE F b (.inl (kT, cap, .inr (.inr (.inr (.inr (va_up f n (some x)))))))) kT b (n + 1) := by
  obtain ⟨c2, f2, h1, h2, h3⟩ := h
  rw [hb] at h1
  cases h1
  refine ⟨cap, va_up f n (some x), updE_s, by omega, fun k hk => ?_⟩
  by_cases e : k = n
  · subst e; rw [vu_s]; exact fun q => by cases q
  · rw [vu_n e]; exact h3 k (by omega)
theorem rwT_up {F G : Nat → va_E} {kT : ClassId} {xI : Nat → Nat} {im tm : Nat} {ad : Nat → Nat} {b cap j t : Nat} {f : Nat → Option Nat} (h : rwT F G kT xI im tm ad) (hb : F b = .inl (kT, cap, .inr (.inr (.inr (.inr f))))) (hr : trow G xI im b) (ht : t < tm) : rwT (updE F b (.inl (kT, cap, .inr (.inr (.inr (.inr (va_up f j (some (ad t))))))))) G kT xI im tm ad := fun a ha c2 f2 hF k x hx => by
  by_cases e : a = b
  · subst e
    rw [updE_s] at hF
    cases hF
    by_cases e : k = j
    · subst e; rw [vu_s] at hx; cases hx; exact ⟨t, ht, rfl⟩
    · rw [vu_n e] at hx; exact h a hr cap f hb k x hx
  · rw [updE_n e] at hF; exact h a ha c2 f2 hF k x hx
/-- another cell is written, no row: both stay -/
theorem rwF_ob {F : Nat → va_E} {kT : ClassId} {a b n c : Nat} {gs hs : List Value} (h : rwF F kT a n) (hb : F b = .inr (c, gs)) : rwF (updE F b (.inr (c, hs))) kT a n := by
  obtain ⟨c2, f2, h1, h2, h3⟩ := h
  have e : a ≠ b := fun e => by subst e; rw [hb] at h1; cases h1
  exact ⟨c2, f2, (updE_n e).trans h1, h2, h3⟩
theorem rwT_ob {F G : Nat → va_E} {kT : ClassId} {xI : Nat → Nat} {im tm : Nat} {ad : Nat → Nat} {b c : Nat} {hs : List Value} (h : rwT F G kT xI im tm ad) : rwT (updE F b (.inr (c, hs))) G kT xI im tm ad := fun a ha c2 f2 hF k x hx => by
  by_cases e : a = b
  · subst e; rw [updE_s] at hF; cases hF
  · rw [updE_n e] at hF; exact h a ha c2 f2 hF k x hx
theorem rwF_ex {L L2 : List Nat} {F F2 : Nat → va_E} {kT : ClassId} {a n : Nat} (hx : exS L F L2 F2) (ha : a ∈ L) (h : rwF F kT a n) : rwF F2 kT a n := by
  obtain ⟨c2, f2, h1, h2, h3⟩ := h
  exact ⟨c2, f2, (hx a ha).2.trans h1, h2, h3⟩
