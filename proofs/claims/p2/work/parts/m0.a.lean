/-- a cell of the store while points are laid: a variable may get its whole path, an item where it begins and ends -/
def cLy (c c2 : va_E) : Prop := c2 = c ∨ ∃ (k : Nat) (fs f2 : List Value), c = .inr (k, fs) ∧ c2 = .inr (k, f2) ∧ f2.length = fs.length ∧ ((k = 21 ∧ ∀ l : Nat, l ≠ 4 → f2[l]? = fs[l]?) ∨ (k = 16 ∧ ∀ l : Nat, l ≠ 4 → l ≠ 5 → f2[l]? = fs[l]?))
theorem cLy.tr {c c1 c2 : va_E} (h : cLy c c1) (g : cLy c1 c2) : cLy c c2 := by
  rcases h with h | ⟨k, fs, f1, h1, h2, h3, h4⟩
  · rw [h] at g; exact g
  · rcases g with g | ⟨k2, gs, f2, g1, g2, g3, g4⟩
    · rw [g]; exact Or.inr ⟨k, fs, f1, h1, h2, h3, h4⟩
    · obtain ⟨ek, ef⟩ := Prod.mk.inj (Sum.inr.inj (h2.symm.trans g1))
      subst ek; subst ef
      refine Or.inr ⟨k, fs, f2, h1, g2, g3.trans h3, ?_⟩
      rcases h4 with ⟨e, h4⟩ | ⟨e, h4⟩
      · rcases g4 with ⟨_, g4⟩ | ⟨e2, _⟩
        · exact Or.inl ⟨e, fun l hl => (g4 l hl).trans (h4 l hl)⟩
        · exact absurd (e.symm.trans e2) (by decide)
      · rcases g4 with ⟨e2, _⟩ | ⟨_, g4⟩
        · exact absurd (e2.symm.trans e) (by decide)
        · exact Or.inr ⟨e, fun l h1 h2 => (g4 l h1 h2).trans (h4 l h1 h2)⟩
theorem cLy.inl {c c2 : va_E} (h : cLy c c2) {r : ClassId × vp_A} (e : c = .inl r) : c2 = .inl r := by
  rcases h with h | ⟨k, fs, f2, h1, _⟩
  · exact h.trans e
  · rw [e] at h1; cases h1
theorem cLy.inr {c c2 : va_E} (h : cLy c c2) {k : Nat} {fs : List Value} (e : c = .inr (k, fs)) (h1 : k ≠ 21) (h2 : k ≠ 16) : c2 = .inr (k, fs) := by
  rcases h with h | ⟨k2, gs, f2, g1, _, _, g4⟩
  · exact h.trans e
  · obtain ⟨ek, _⟩ := Prod.mk.inj (Sum.inr.inj (e.symm.trans g1))
    rcases g4 with ⟨q, _⟩ | ⟨q, _⟩
    · exact absurd (ek.trans q) h1
    · exact absurd (ek.trans q) h2
theorem cLy.fs {c c2 : va_E} (h : cLy c c2) {k : Nat} {fs : List Value} (e : c = .inr (k, fs)) : ∃ f2 : List Value, c2 = .inr (k, f2) ∧ f2.length = fs.length ∧ ∀ l : Nat, l ≠ 4 → l ≠ 5 ∨ k ≠ 16 → f2[l]? = fs[l]? := by
  rcases h with h | ⟨k2, gs, f2, g1, g2, g3, g4⟩
  · exact ⟨fs, h.trans e, rfl, fun _ _ _ => rfl⟩
  · obtain ⟨ek, ef⟩ := Prod.mk.inj (Sum.inr.inj (e.symm.trans g1))
    subst ek; subst ef
    refine ⟨f2, g2, g3, fun l h1 h2 => ?_⟩
    rcases g4 with ⟨q, g4⟩ | ⟨q, g4⟩
    · exact g4 l h1
    · exact g4 l h1 (h2.resolve_right (fun w => w q))
/-- rows that the laying writes: ints, references -/
def ipR (r : Nat) : Prop := (27 ≤ r ∧ r ≤ 35) ∨ (44 ≤ r ∧ r ≤ 46) ∨ r = 52
def qpR (r : Nat) : Prop := (36 ≤ r ∧ r ≤ 43) ∨ r = 49 ∨ r = 51
/-- what the laying leaves as it was -/
def LX (S S2 : Sg) : Prop := (∀ a ∈ ZL S, a ∈ ZL S2 ∧ cLy (ZF S a) (ZF S2 a)) ∧ (∀ j : Nat, j ≠ 26 → j ≠ 47 → j ≠ 48 → (j ≠ 50 ∧ j ≠ 57) → Zi S2 j = Zi S j) ∧ (∀ r : Nat, ¬ ipR r → Zr S2 r = Zr S r) ∧ (∀ r : Nat, (r ≠ 31 ∧ ¬ (53 ≤ r ∧ r ≤ 60)) → Zl S2 r = Zl S r) ∧ (∀ r : Nat, ¬ qpR r → Zq S2 r = Zq S r) ∧ Zf S2 = Zf S ∧ Zz S ≤ Zz S2 ∧ Zn S ≤ Zn S2
/-- points below P are as they were -/
def PX (P : Nat) (S S2 : Sg) : Prop := ∀ k : Nat, k < P → (∀ r : Nat, 27 ≤ r → r ≤ 35 → Zr S2 r k = Zr S r k) ∧ Zl S2 31 k = Zl S 31 k ∧ ∀ r : Nat, 36 ≤ r → r ≤ 42 → Zq S2 r k = Zq S r k
/-- loans below L are as they were -/
def QX (L : Nat) (S S2 : Sg) : Prop := ∀ l : Nat, l < L → Zq S2 43 l = Zq S 43 l ∧ ∀ r : Nat, 44 ≤ r → r ≤ 46 → Zr S2 r l = Zr S r l
/-- the items are as they were -/
def IX (S S2 : Sg) : Prop := ∀ a ∈ ZL S, ∀ fs : List Value, ZF S a = .inr (16, fs) → ZF S2 a = .inr (16, fs)
def LZ (P L : Nat) (S S2 : Sg) : Prop := LX S S2 ∧ PX P S S2 ∧ QX L S S2 ∧ IX S S2
section LXL
variable {S S1 S2 : Sg} {P P2 L L2 : Nat}
theorem LX.rf : LX S S := ⟨fun a ha => ⟨ha, Or.inl rfl⟩, fun _ _ _ _ _ => rfl, fun _ _ => rfl, fun _ _ => rfl, fun _ _ => rfl, rfl, Nat.le_refl _, Nat.le_refl _⟩
theorem LX.tr (h : LX S S1) (g : LX S1 S2) : LX S S2 := ⟨fun a ha => ⟨(g.1 a (h.1 a ha).1).1, (h.1 a ha).2.tr (g.1 a (h.1 a ha).1).2⟩, fun j a b c d => (g.2.1 j a b c d).trans (h.2.1 j a b c d), fun r a => (g.2.2.1 r a).trans (h.2.2.1 r a), fun r a => (g.2.2.2.1 r a).trans (h.2.2.2.1 r a), fun r a => (g.2.2.2.2.1 r a).trans (h.2.2.2.2.1 r a), g.2.2.2.2.2.1.trans h.2.2.2.2.2.1, Nat.le_trans h.2.2.2.2.2.2.1 g.2.2.2.2.2.2.1, Nat.le_trans h.2.2.2.2.2.2.2 g.2.2.2.2.2.2.2⟩
theorem PX.rf : PX P S S := fun _ _ => ⟨fun _ _ _ => rfl, rfl, fun _ _ _ => rfl⟩
theorem PX.tr (h : PX P S S1) (g : PX P2 S1 S2) (hp : P ≤ P2) : PX P S S2 := fun k hk => ⟨fun r a b => ((g k (by omega)).1 r a b).trans ((h k hk).1 r a b), (g k (by omega)).2.1.trans (h k hk).2.1, fun r a b => ((g k (by omega)).2.2 r a b).trans ((h k hk).2.2 r a b)⟩
theorem PX.le (h : PX P2 S S1) (hp : P ≤ P2) : PX P S S1 := fun k hk => h k (by omega)
theorem QX.rf : QX L S S := fun _ _ => ⟨rfl, fun _ _ _ => rfl⟩
theorem QX.tr (h : QX L S S1) (g : QX L2 S1 S2) (hp : L ≤ L2) : QX L S S2 := fun k hk => ⟨(g k (by omega)).1.trans (h k hk).1, fun r a b => ((g k (by omega)).2 r a b).trans ((h k hk).2 r a b)⟩
theorem LZ.rf : LZ P L S S := ⟨LX.rf, PX.rf, QX.rf, fun _ _ _ e => e⟩
theorem LZ.tr (h : LZ P L S S1) (g : LZ P2 L2 S1 S2) (hp : P ≤ P2) (hl : L ≤ L2) : LZ P L S S2 := ⟨h.1.tr g.1, h.2.1.tr g.2.1 hp, h.2.2.1.tr g.2.2.1 hl, fun a ha fs e => g.2.2.2 a (h.1.1 a ha).1 fs (h.2.2.2 a ha fs e)⟩
theorem LZ.le (h : LZ P2 L2 S S1) (hp : P ≤ P2) (hl : L ≤ L2) : LZ P L S S1 := LZ.rf.tr h hp hl
/-- a row of points is written at P or above -/
theorem LZ.ur {r j : Nat} {v : Int32} (hr : 27 ≤ r ∧ r ≤ 35) (hj : P ≤ j) : LZ P L S (Ur S r (upd (Zr S r) j v)) := ⟨⟨fun a ha => ⟨ha, Or.inl rfl⟩, fun _ _ _ _ _ => rfl, fun r2 h2 => va_up_ne _ _ (fun e => h2 (Or.inl (by omega))), fun _ _ => rfl, fun _ _ => rfl, rfl, Nat.le_refl _, Nat.le_refl _⟩, fun k hk => ⟨fun r2 _ _ => by
  show va_up (Zr S) r (upd (Zr S r) j v) r2 k = _
  by_cases e : r2 = r
  · subst e; rw [va_up_self]; exact if_neg (by omega)
  · rw [va_up_ne _ _ e], rfl, fun _ _ _ => rfl⟩, fun l _ => ⟨rfl, fun r2 h1 h2 => by show va_up (Zr S) r _ r2 l = _; rw [va_up_ne _ _ (by omega)]⟩, fun _ _ _ e => e⟩
theorem LZ.ul {j : Nat} {v : Int64} (hj : P ≤ j) : LZ P L S (Ul S 31 (vp_updL (Zl S 31) j v)) := ⟨⟨fun a ha => ⟨ha, Or.inl rfl⟩, fun _ _ _ _ _ => rfl, fun _ _ => rfl, fun r2 h2 => va_up_ne _ _ h2.1, fun _ _ => rfl, rfl, Nat.le_refl _, Nat.le_refl _⟩, fun k hk => ⟨fun _ _ _ => rfl, by
  show va_up (Zl S) 31 _ 31 k = _
  rw [va_up_self]; exact if_neg (by omega), fun _ _ _ => rfl⟩, QX.rf, fun _ _ _ e => e⟩
theorem LZ.uq {r j : Nat} {v : Option Nat} (hr : 36 ≤ r ∧ r ≤ 42) (hj : P ≤ j) : LZ P L S (Uq S r (va_up (Zq S r) j v)) := ⟨⟨fun a ha => ⟨ha, Or.inl rfl⟩, fun _ _ _ _ _ => rfl, fun _ _ => rfl, fun _ _ => rfl, fun r2 h2 => va_up_ne _ _ (fun e => h2 (Or.inl (by omega))), rfl, Nat.le_refl _, Nat.le_refl _⟩, fun k hk => ⟨fun _ _ _ => rfl, rfl, fun r2 _ _ => by
  show va_up (Zq S) r (va_up (Zq S r) j v) r2 k = _
  by_cases e : r2 = r
  · subst e; rw [va_up_self, va_up_ne _ _ (by omega)]
  · rw [va_up_ne _ _ e]⟩, fun l _ => ⟨by show va_up (Zq S) r _ 43 l = _; rw [va_up_ne _ _ (by omega)], fun _ _ _ => rfl⟩, fun _ _ _ e => e⟩
/-- a loan's row is written at L or above -/
theorem LZ.lr {r j : Nat} {v : Int32} (hr : 44 ≤ r ∧ r ≤ 46) (hj : L ≤ j) : LZ P L S (Ur S r (upd (Zr S r) j v)) := ⟨⟨fun a ha => ⟨ha, Or.inl rfl⟩, fun _ _ _ _ _ => rfl, fun r2 h2 => va_up_ne _ _ (fun e => h2 (Or.inr (by omega))), fun _ _ => rfl, fun _ _ => rfl, rfl, Nat.le_refl _, Nat.le_refl _⟩, fun k hk => ⟨fun r2 _ _ => by show va_up (Zr S) r _ r2 k = _; rw [va_up_ne _ _ (by omega)], rfl, fun _ _ _ => rfl⟩, fun l hl => ⟨rfl, fun r2 h1 h2 => by
  show va_up (Zr S) r (upd (Zr S r) j v) r2 l = _
  by_cases e : r2 = r
  · subst e; rw [va_up_self]; exact if_neg (by omega)
  · rw [va_up_ne _ _ e]⟩, fun _ _ _ e => e⟩
theorem LZ.lq {j : Nat} {v : Option Nat} (hj : L ≤ j) : LZ P L S (Uq S 43 (va_up (Zq S 43) j v)) := ⟨⟨fun a ha => ⟨ha, Or.inl rfl⟩, fun _ _ _ _ _ => rfl, fun _ _ => rfl, fun _ _ => rfl, fun r2 h2 => va_up_ne _ _ (fun e => h2 (Or.inl (by omega))), rfl, Nat.le_refl _, Nat.le_refl _⟩, fun k hk => ⟨fun _ _ _ => rfl, rfl, fun r2 _ _ => by show va_up (Zq S) 43 _ r2 k = _; rw [va_up_ne _ _ (by omega)]⟩, fun l hl => ⟨by
  show va_up (Zq S) 43 (va_up (Zq S 43) j v) 43 l = Zq S 43 l
  rw [va_up_self, va_up_ne _ _ (by omega)], fun _ _ _ => rfl⟩, fun _ _ _ e => e⟩
theorem LZ.uo {r : Nat} {f : Nat → Option Nat} (hr : r = 49 ∨ r = 51) : LZ P L S (Uq S r f) := ⟨⟨fun a ha => ⟨ha, Or.inl rfl⟩, fun _ _ _ _ _ => rfl, fun _ _ => rfl, fun _ _ => rfl, fun r2 h2 => va_up_ne _ _ (fun e => h2 (Or.inr (by omega))), rfl, Nat.le_refl _, Nat.le_refl _⟩, fun k hk => ⟨fun _ _ _ => rfl, rfl, fun r2 _ _ => by show va_up (Zq S) r _ r2 k = _; rw [va_up_ne _ _ (by omega)]⟩, fun l hl => ⟨by show va_up (Zq S) r _ 43 l = _; rw [va_up_ne _ _ (by omega)], fun _ _ _ => rfl⟩, fun _ _ _ e => e⟩
theorem LZ.ui {j : Nat} {v : Int32} (hj : j = 26 ∨ j = 47 ∨ j = 48 ∨ j = 50) : LZ P L S (Ui S j v) := ⟨⟨fun a ha => ⟨ha, Or.inl rfl⟩, fun i a b c d => Zi_n (by omega), fun _ _ => rfl, fun _ _ => rfl, fun _ _ => rfl, rfl, Nat.le_refl _, Nat.le_refl _⟩, PX.rf, QX.rf, fun _ _ _ e => e⟩
theorem LZ.un {c : va_E} {n : Nat} (hz : ∀ a ∈ ZL S, a < Zz S) : LZ P L S (Un S c n) := ⟨⟨fun a ha => ⟨List.mem_cons_of_mem _ ha, Or.inl (updE_n (fun e => by have := hz a ha; omega))⟩, fun _ _ _ _ _ => rfl, fun _ _ => rfl, fun _ _ => rfl, fun _ _ => rfl, rfl, Nat.le_succ _, Nat.le_add_right _ _⟩, PX.rf, QX.rf, fun a ha fs e => (updE_n (fun q => by have := hz a ha; omega)).trans e⟩
/-- a cell that is new since S is written -/
theorem LZ.uF {a : Nat} {c : va_E} (h : LZ P L S S1) (ha : a ∉ ZL S) : LZ P L S (UF S1 a c) := ⟨⟨fun b hb => ⟨(h.1.1 b hb).1, by rw [show ZF (UF S1 a c) b = ZF S1 b from updE_n (fun e => ha (e ▸ hb))]; exact (h.1.1 b hb).2⟩, h.1.2⟩, h.2.1, h.2.2.1, fun b hb fs e => (show ZF (UF S1 a c) b = ZF S1 b from updE_n (fun q => ha (q ▸ hb))).trans (h.2.2.2 b hb fs e)⟩
/-- a cell is written as it may be -/
theorem LZ.uC {a : Nat} {c : va_E} (hc : cLy (ZF S a) c) (h16 : ∀ fs : List Value, ZF S a ≠ .inr (16, fs)) : LZ P L S (UF S a c) := ⟨⟨fun b hb => ⟨hb, by
  by_cases e : b = a
  · subst e; rw [show ZF (UF S b c) b = c from updE_s]; exact hc
  · rw [show ZF (UF S a c) b = ZF S b from updE_n e]; exact Or.inl rfl⟩, fun _ _ _ _ _ => rfl, fun _ _ => rfl, fun _ _ => rfl, fun _ _ => rfl, rfl, Nat.le_refl _, Nat.le_refl _⟩, PX.rf, QX.rf, fun b _ fs e => (show ZF (UF S a c) b = ZF S b from updE_n (fun q => h16 fs (q ▸ e))).trans e⟩
theorem LX.ro (h : LX S S2) {a : Nat} {r : ClassId × vp_A} (ha : a ∈ ZL S) (e : ZF S a = .inl r) : a ∈ ZL S2 ∧ ZF S2 a = .inl r := ⟨(h.1 a ha).1, (h.1 a ha).2.inl e⟩
theorem LX.ob (h : LX S S2) {a k : Nat} {fs : List Value} (ha : a ∈ ZL S) (e : ZF S a = .inr (k, fs)) (h1 : k ≠ 21) (h2 : k ≠ 16) : a ∈ ZL S2 ∧ ZF S2 a = .inr (k, fs) := ⟨(h.1 a ha).1, (h.1 a ha).2.inr e h1 h2⟩
theorem LX.it (h : LX S S2) {a k : Nat} {fs : List Value} (ha : a ∈ ZL S) (e : ZF S a = .inr (k, fs)) : a ∈ ZL S2 ∧ ∃ f2 : List Value, ZF S2 a = .inr (k, f2) ∧ f2.length = fs.length ∧ ∀ l : Nat, l ≠ 4 → l ≠ 5 ∨ k ≠ 16 → f2[l]? = fs[l]? := ⟨(h.1 a ha).1, (h.1 a ha).2.fs e⟩
theorem LX.ty (h : LX S S2) {x : Nat} {kd ix : Int32} {o : Option Nat} (q : isTy S x kd ix o) : isTy S2 x kd ix o := by
  obtain ⟨t, q1, q2, q3, q4⟩ := q
  obtain ⟨q5, q6⟩ := h.ob q3 q4 (by decide) (by decide)
  refine ⟨t, ?_, ?_, q5, q6⟩
  · unfold tmS at *; rw [h.2.1 19 (by decide) (by decide) (by decide) (by decide)]; exact q1
  · rw [h.2.2.2.2.1 18 (fun w => by rcases w with w | w | w <;> omega)]; exact q2
end LXL
