/-- a place: brackets, members, stars down to the name v; ys: its members and stars, the outermost first -/
def plD (L : List Nat) (F : Nat → va_E) : Nat → Nat → List Nat → Nat → Prop
  | 0, _, _, _ => False
  | n + 1, a, ys, v => a ∈ L ∧ ∃ (kd : Int32) (vo : Value) (fs : List Value), F a = .inr (15, fs) ∧ fs[0]? = some (.int kd) ∧ fs[8]? = some vo ∧ ((kd = 2 ∧ ys = [] ∧ v = a) ∨ (kd = 7 ∧ ∃ o : Nat, vo = .ref o ∧ plD L F n o ys v) ∨ ((kd = 14 ∨ kd = 11) ∧ ∃ (o : Nat) (zs : List Nat), vo = .ref o ∧ ys = a :: zs ∧ plD L F n o zs v))
theorem plD_of {L : List Nat} {F : Nat → va_E} : ∀ {n a : Nat}, pwE L F n a → plE F n a → ∃ (ys : List Nat) (v : Nat), ys.length < n ∧ plD L F n a ys v
  | 0, _, h, _ => h.elim
  | n + 1, a, h, g => by
    obtain ⟨h1, kd, vo, fs, h2, h3, h4, h5⟩ := h
    obtain ⟨kd', vo', fs', g1, g2, g3, g4⟩ := g
    obtain rfl : fs' = fs := by rw [h2] at g1; cases g1; rfl
    obtain rfl : kd' = kd := by rw [h3] at g2; cases g2; rfl
    obtain rfl : vo' = vo := by rw [h4] at g3; cases g3; rfl
    rcases g4 with g4 | ⟨hk, o, ho, g4⟩
    · exact ⟨[], a, Nat.succ_pos n, h1, _, _, _, h2, h3, h4, Or.inl ⟨g4, rfl, rfl⟩⟩
    · obtain ⟨o', e1, e2⟩ := h5 hk
      rw [ho] at e1; cases e1
      obtain ⟨ys, v, e3, e4⟩ := plD_of e2 g4
      rcases hk with hk | hk
      · exact ⟨ys, v, by omega, h1, _, _, _, h2, h3, h4, Or.inr (Or.inl ⟨hk, o, ho, e4⟩)⟩
      · exact ⟨a :: ys, v, by rw [List.length_cons]; omega, h1, _, _, _, h2, h3, h4, Or.inr (Or.inr ⟨hk, o, ys, ho, rfl, e4⟩)⟩
theorem plD_rl {L L2 : List Nat} {F F2 G : Nat → va_E} (hr : rl L2 F2 G) (hx : ∀ a ∈ L, a ∈ L2 ∧ G a = F a) : ∀ {n a : Nat} {ys : List Nat} {v : Nat}, plD L F n a ys v → plD L2 F2 n a ys v
  | 0, _, _, _, h => h.elim
  | n + 1, a, ys, v, h => by
    obtain ⟨h1, kd, vo, fs, h2, h3, h4, h5⟩ := h
    obtain ⟨gs, g1, g2, g3⟩ := rl_ob hr (hx a h1).1 ((hx a h1).2.trans h2)
    refine ⟨(hx a h1).1, kd, vo, gs, g1, (g3 0 rfl).trans h3, (g3 8 rfl).trans h4, ?_⟩
    rcases h5 with h5 | ⟨hk, o, ho, h5⟩ | ⟨hk, o, zs, ho, hd, h5⟩
    · exact Or.inl h5
    · exact Or.inr (Or.inl ⟨hk, o, ho, plD_rl hr hx h5⟩)
    · exact Or.inr (Or.inr ⟨hk, o, zs, ho, hd, plD_rl hr hx h5⟩)
/-- all are members -/
def ptD (F : Nat → va_E) (ys : List Nat) : Prop := ∀ x ∈ ys, ∃ fs : List Value, F x = .inr (15, fs) ∧ fs[0]? = some (.int 14)
theorem ptD_c {F : Nat → va_E} {x : Nat} {zs : List Nat} {kd : Int32} {fs : List Value} (h : ptD F zs) (h1 : F x = .inr (15, fs)) (h2 : fs[0]? = some (.int kd)) (hk : kd = 14) : ptD F (x :: zs) := fun y hy => by
  rcases List.mem_cons.mp hy with e | e
  · rw [e]; exact ⟨fs, h1, by rw [h2, hk]⟩
  · exact h y e
