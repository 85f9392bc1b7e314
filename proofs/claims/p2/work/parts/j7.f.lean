/-- what a row holds -/
abbrev vRw : Type := (Nat → Int32) ⊕ (Nat → Int64) ⊕ (Nat → UInt32) ⊕ (Nat → UInt64) ⊕ (Nat → Option Nat)
/-- fields that the typing, the laying and the passes write -/
def mtF (c k : Nat) : Bool := (c == 15 && (k == 4 || k == 5 || k == 12 || k == 13)) || (c == 19 && k == 8) || (c == 13 && k == 1) || (c == 16 && (k == 4 || k == 5 || k == 7 || k == 15 || k == 19 || k == 20 || k == 21)) || (c == 21 && (k == 2 || k == 4))
/-- a row that was blank when it was read may hold anything -/
def blk : vRw → vRw → Prop
  | .inl g, .inl _ => ∀ i : Nat, g i = 0
  | .inr (.inr (.inr (.inr h))), .inr (.inr (.inr (.inr _))) => ∀ i : Nat, h i = none
  | _, _ => False
/-- what lies there now (y) is as it was read (x), but for what may be written -/
def cs : va_E → va_E → Prop
  | .inr (c, fs), .inr (d, gs) => c = d ∧ gs.length = fs.length ∧ ∀ k : Nat, mtF c k = false → gs[k]? = fs[k]?
  | .inl (k, n, f), .inl (k2, n2, f2) => k2 = k ∧ n2 = n ∧ (f2 = f ∨ blk f f2)
  | _, _ => False
theorem cs_rf : ∀ x : va_E, cs x x
  | .inr _ => ⟨rfl, rfl, fun _ _ => rfl⟩
  | .inl _ => ⟨rfl, rfl, Or.inl rfl⟩
def rl (L : List Nat) (F G : Nat → va_E) : Prop := ∀ a ∈ L, cs (G a) (F a)
theorem rl_ob {L : List Nat} {F G : Nat → va_E} {a c : Nat} {fs : List Value} (h : rl L F G) (ha : a ∈ L) (hG : G a = .inr (c, fs)) : ∃ gs : List Value, F a = .inr (c, gs) ∧ gs.length = fs.length ∧ ∀ k : Nat, mtF c k = false → gs[k]? = fs[k]? := by
  have h1 := h a ha
  rw [hG] at h1
  cases e : F a with
  | inl x => rw [e] at h1; exact h1.elim
  | inr x =>
    obtain ⟨d, gs⟩ := x
    rw [e] at h1
    obtain ⟨rfl, h2, h3⟩ := h1
    exact ⟨gs, rfl, h2, h3⟩
theorem rl_ro {L : List Nat} {F G : Nat → va_E} {a n : Nat} {k : ClassId} {f : vRw} (h : rl L F G) (ha : a ∈ L) (hG : G a = .inl (k, n, f)) : ∃ f2 : vRw, F a = .inl (k, n, f2) ∧ (f2 = f ∨ blk f f2) := by
  have h1 := h a ha
  rw [hG] at h1
  cases e : F a with
  | inr x => rw [e] at h1; exact h1.elim
  | inl x =>
    obtain ⟨k2, n2, f2⟩ := x
    rw [e] at h1
    obtain ⟨rfl, rfl, h3⟩ := h1
    exact ⟨f2, rfl, h3⟩
theorem rl_ri {L : List Nat} {F G : Nat → va_E} {a n i : Nat} {k : ClassId} {g : Nat → Int32} (h : rl L F G) (ha : a ∈ L) (hG : G a = .inl (k, n, .inl g)) (hi : g i ≠ 0) : F a = .inl (k, n, .inl g) := by
  obtain ⟨f2, h1, h2 | h2⟩ := rl_ro h ha hG
  · rw [h1, h2]
  · cases f2 with
    | inl g2 => exact absurd (h2 i) hi
    | inr _ => exact h2.elim
theorem rl_rr {L : List Nat} {F G : Nat → va_E} {a n i x : Nat} {k : ClassId} {g : Nat → Option Nat} (h : rl L F G) (ha : a ∈ L) (hG : G a = .inl (k, n, .inr (.inr (.inr (.inr g))))) (hi : g i = some x) : F a = .inl (k, n, .inr (.inr (.inr (.inr g)))) := by
  obtain ⟨f2, h1, h2 | h2⟩ := rl_ro h ha hG
  · rw [h1, h2]
  · match f2, h2 with
    | .inr (.inr (.inr (.inr g2))), h2 => exact absurd (h2 i) (by rw [hi]; exact fun q => by cases q)
/-- a blank row of references, as it is now -/
theorem rl_rb {L : List Nat} {F G : Nat → va_E} {a n : Nat} {k : ClassId} {g : Nat → Option Nat} (h : rl L F G) (ha : a ∈ L) (hG : G a = .inl (k, n, .inr (.inr (.inr (.inr g))))) : ∃ g2 : Nat → Option Nat, F a = .inl (k, n, .inr (.inr (.inr (.inr g2)))) := by
  obtain ⟨f2, h1, h2 | h2⟩ := rl_ro h ha hG
  · exact ⟨g, by rw [h1, h2]⟩
  · match f2, h2, h1 with
    | .inr (.inr (.inr (.inr g2))), _, h1 => exact ⟨g2, h1⟩
theorem rl_rz {L : List Nat} {F G : Nat → va_E} {a n : Nat} {k : ClassId} {g : Nat → Int32} (h : rl L F G) (ha : a ∈ L) (hG : G a = .inl (k, n, .inl g)) : ∃ g2 : Nat → Int32, F a = .inl (k, n, .inl g2) := by
  obtain ⟨f2, h1, h2 | h2⟩ := rl_ro h ha hG
  · exact ⟨g, by rw [h1, h2]⟩
  · cases f2 with
    | inl g2 => exact ⟨g2, h1⟩
    | inr _ => exact h2.elim
/-- one cell is written -/
theorem rl_up {L : List Nat} {F G : Nat → va_E} {a : Nat} {x : va_E} (h : rl L F G) (hx : cs (G a) x) : rl L (updE F a x) G := fun b hb => by
  by_cases e : b = a
  · subst e; rw [updE_s]; exact hx
  · rw [updE_n e]; exact h b hb
theorem cs_put {c k : Nat} {gs : List Value} {v : Value} {x : va_E} (h : cs x (.inr (c, gs))) (hk : mtF c k = true) : cs x (.inr (c, gs.set k v)) := by
  match x, h with
  | .inr (d, fs), ⟨h1, h2, h3⟩ =>
    subst h1
    refine ⟨rfl, by rw [List.length_set]; exact h2, fun j hj => ?_⟩
    rw [List.getElem?_set_ne (fun e => by subst e; rw [hk] at hj; cases hj)]
    exact h3 j hj
/-- the store grows: the reading grows with it -/
def grG (L : List Nat) (G F : Nat → va_E) : Nat → va_E := fun a => if a ∈ L then G a else F a
theorem grG_ex {L L2 : List Nat} {F F2 G : Nat → va_E} (hx : exS L F L2 F2) : exS L G L2 (grG L G F2) := fun a ha => ⟨(hx a ha).1, if_pos ha⟩
theorem grG_rl {L L2 : List Nat} {F F2 G : Nat → va_E} (hx : exS L F L2 F2) (h : rl L F G) : rl L2 F2 (grG L G F2) := fun a ha => by
  unfold grG
  by_cases e : a ∈ L
  · rw [if_pos e, (hx a e).2]; exact h a e
  · rw [if_neg e]; exact cs_rf _
