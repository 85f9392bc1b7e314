/-- of the first t tokens: the name is one of the first nq, the link is 0 -/
def tkI (t nq : Nat) (fn fl : Nat → Int32) : Prop := ∀ j, j < t → (∃ k : Nat, k < nq ∧ fn j = nI k) ∧ fl j = 0
theorem tkI_0 {nq : Nat} {fn fl : Nat → Int32} : tkI 0 nq fn fl := fun j h => absurd h (Nat.not_lt_zero j)
theorem tkI_up {t nq n2 : Nat} {fn fl : Nat → Int32} (h : tkI t nq fn fl) (hn : nq ≤ n2) : tkI t n2 fn fl := fun j hj => ⟨(h j hj).1.elim (fun k hk => ⟨k, by omega, hk.2⟩), (h j hj).2⟩
theorem tkI_add {t nq k : Nat} {fn fl : Nat → Int32} (h : tkI t nq fn fl) (hk : k < nq) : tkI (t + 1) nq (upd fn t (nI k)) (upd fl t 0) := by
  intro j hj
  by_cases e : j = t
  · subst e; exact ⟨⟨k, hk, pk_us⟩, pk_us⟩
  · rw [pk_un e, pk_un e]; exact h j (by omega)
/-- a place of the text: never below 0 -/
def aN (x : Int32) : Int32 := if x < 0 then 0 else x
theorem aN_nI {n : Nat} (h : n ≤ 3001) : nI n = aN (nI n) := by unfold aN; rw [if_neg (Int32.not_lt.mpr (show (0 : Int32) ≤ nI n from nI_le (a := 0) (b := n) (Nat.zero_le n) (by omega)))]
theorem aN_ge (x : Int32) : ¬ (aN x < 0) := by
  unfold aN; split
  · decide
  · assumption
theorem aN_up {f : Nat → Int32} {t : Nat} {x : Int32} (h : x = aN x) : upd (fun z9 => aN (f z9)) t x = (fun z9 => aN (upd f t x z9)) := by
  funext j
  by_cases e : j = t
  · subst e; rw [pk_us, pk_us]; exact h
  · rw [pk_un e, pk_un e]
/-- every name's place and size: within the first F bytes -/
def nmI (F : Nat) (ff fz : Nat → Int32) : Prop := ∀ j, j < 3020 → ∃ a b : Nat, ff j = nI a ∧ fz j = nI b ∧ a + b ≤ F
/-- every entry is no name or one of the 3020 -/
def lkI (f : Nat → Int32) (n : Nat) : Prop := ∀ j, j < n → f j < 0 ∨ ∃ k : Nat, k < 3020 ∧ f j = nI k
theorem nmI_put {F z st : Nat} {ff fz : Nat → Int32} {k : Nat} (h : nmI F ff fz) (hst : st ≤ F) : nmI (F + z) (upd ff k (nI st)) (upd fz k (nI z)) := by
  intro j hj
  by_cases e : j = k
  · subst e; exact ⟨st, z, pk_us, pk_us, by omega⟩
  · obtain ⟨a, b, h1, h2, h3⟩ := h j hj
    exact ⟨a, b, by rw [pk_un e]; exact h1, by rw [pk_un e]; exact h2, by omega⟩
theorem nmI_up {F G : Nat} {ff fz : Nat → Int32} (h : nmI F ff fz) (hG : F ≤ G) : nmI G ff fz := fun j hj => by
  obtain ⟨a, b, h1, h2, h3⟩ := h j hj
  exact ⟨a, b, h1, h2, by omega⟩
theorem lkI_put {f : Nat → Int32} {n k : Nat} {x : Int32} (h : lkI f n) (hx : x < 0 ∨ ∃ k : Nat, k < 3020 ∧ x = nI k) : lkI (upd f k x) n := by
  intro j hj
  by_cases e : j = k
  · subst e; rw [pk_us]; exact hx
  · rw [pk_un e]; exact h j hj
theorem lkI_0 {n : Nat} : lkI (fun _ => 0) n := fun j _ => Or.inr ⟨0, by omega, rfl⟩
theorem nmI_0 {F : Nat} : nmI F (fun _ => 0) (fun _ => 0) := fun j _ => ⟨0, 0, rfl, rfl, by omega⟩
/-- of the first n entries: none, or one of the first nq names -/
def lkT (f : Nat → Int32) (n nq : Nat) : Prop := ∀ j, j < n → f j < 0 ∨ ∃ k : Nat, k < nq ∧ f j = nI k
theorem lkT_up {f : Nat → Int32} {n nq n2 : Nat} (h : lkT f n nq) (hn : nq ≤ n2) : lkT f n n2 := fun j hj => (h j hj).elim Or.inl (fun q => q.elim (fun k hk => Or.inr ⟨k, by omega, hk.2⟩))
theorem lkT_put {f : Nat → Int32} {n nq k : Nat} {x : Int32} (h : lkT f n nq) (hx : x < 0 ∨ ∃ k : Nat, k < nq ∧ x = nI k) : lkT (upd f k x) n nq := by
  intro j hj
  by_cases e : j = k
  · subst e; rw [pk_us]; exact hx
  · rw [pk_un e]; exact h j hj
theorem lkT_new {f : Nat → Int32} {t : Nat} {x : Int32} (h : lkT f t t) (hx : x < 0 ∨ ∃ k : Nat, k < t ∧ x = nI k) : lkT (upd f t x) (t + 1) (t + 1) := by
  intro j hj
  by_cases e : j = t
  · subst e; rw [pk_us]; exact hx.elim Or.inl (fun q => q.elim (fun k hk => Or.inr ⟨k, by omega, hk.2⟩))
  · rw [pk_un e]; exact (h j (by omega)).elim Or.inl (fun q => q.elim (fun k hk => Or.inr ⟨k, by omega, hk.2⟩))
/-- the first 20 entries are as they were -/
def xL (fx gx : Nat → Int32) : Prop := ∀ j, j < 20 → gx j = fx j
theorem xL_rf {fx : Nat → Int32} : xL fx fx := fun _ _ => rfl
theorem xL_put {t : Nat} {fx : Nat → Int32} {x : Int32} (ht : 20 ≤ t) : xL fx (upd fx t x) := fun j hj => pk_un (by omega)
theorem xL_tr {fx gx kx : Nat → Int32} (h : xL fx gx) (k : xL gx kx) : xL fx kx := fun j hj => (k j hj).trans (h j hj)
theorem xL_low {fx gx : Nat → Int32} (h : xL fx gx) (k : lkT fx 20 20) : lkT gx 20 20 := fun j hj => by rw [h j hj]; exact k j hj
/-- the name below t ends within the first F bytes -/
def nmC (t F : Nat) (ff fz : Nat → Int32) : Prop := ∃ a b : Nat, ff (t - 1) = nI a ∧ fz (t - 1) = nI b ∧ a + b ≤ F
/-- the first 20 names are as they were -/
def nmL (ff fz gf gz : Nat → Int32) : Prop := ∀ j, j < 20 → gf j = ff j ∧ gz j = fz j
theorem nmC_up {t F G : Nat} {ff fz : Nat → Int32} (h : nmC t F ff fz) (hG : F ≤ G) : nmC t G ff fz := by
  obtain ⟨a, b, h1, h2, h3⟩ := h; exact ⟨a, b, h1, h2, by omega⟩
theorem nmC_put {t F st z : Nat} {ff fz : Nat → Int32} (hst : st ≤ F) : nmC (t + 1) (F + z) (upd ff t (nI st)) (upd fz t (nI z)) := ⟨st, z, pk_us, pk_us, by omega⟩
theorem nmL_rf {ff fz : Nat → Int32} : nmL ff fz ff fz := fun _ _ => ⟨rfl, rfl⟩
theorem nmL_put {t : Nat} {ff fz : Nat → Int32} {x y : Int32} (ht : 20 ≤ t) : nmL ff fz (upd ff t x) (upd fz t y) := fun j hj => ⟨pk_un (by omega), pk_un (by omega)⟩
theorem nmL_tr {ff fz gf gz kf kz : Nat → Int32} (h : nmL ff fz gf gz) (k : nmL gf gz kf kz) : nmL ff fz kf kz := fun j hj => ⟨(k j hj).1.trans (h j hj).1, (k j hj).2.trans (h j hj).2⟩
theorem nmA_put {z st : Nat} {ff fz : Nat → Int32} {k : Nat} (h : nmI 3120 ff fz) (hst : st + z ≤ 3120) : nmI 3120 (upd ff k (nI st)) (upd fz k (nI z)) := by
  intro j hj
  by_cases e : j = k
  · subst e; exact ⟨st, z, pk_us, pk_us, hst⟩
  · obtain ⟨a, b, h1, h2, h3⟩ := h j hj
    exact ⟨a, b, by rw [pk_un e]; exact h1, by rw [pk_un e]; exact h2, h3⟩
theorem lkT_cpy {f g : Nat → Int32} {nq : Nat} (h : lkT f 256 nq) : lkT (va_cpy f g 0 0 256) 256 nq := by
  intro j hj
  have e : va_cpy f g 0 0 256 j = f j := by unfold va_cpy; simp [hj]
  rw [e]; exact h j hj
theorem nmC_low {F : Nat} {ff fz gf gz : Nat → Int32} (h : nmL ff fz gf gz) (k : nmC 20 F ff fz) : nmC 20 F gf gz := by
  obtain ⟨a, b, h1, h2, h3⟩ := k
  obtain ⟨e1, e2⟩ := h 19 (by decide)
  exact ⟨a, b, e1.trans h1, e2.trans h2, h3⟩
/-- the cursor goes on by st, at most to the last of tt tokens -/
def cuT (nw st tt nw2 : Nat) : Prop := nw2 < tt ∧ nw2 ≤ nw + st ∧ (nw + st < tt → nw2 = nw + st) ∧ (tt ≤ nw + st → nw2 = tt - 1)
theorem cuT_min {nw st tt : Nat} {x : Int32} (h1 : nw < tt) (h2 : tt ≤ 3001) (h3 : st ≤ 3002) (hx : x = if nI (tt - 1) < nI (nw + st) then nI (tt - 1) else nI (nw + st)) : ∃ nw2 : Nat, x = nI nw2 ∧ cuT nw st tt nw2 := by
  by_cases c : tt - 1 < nw + st
  · rw [if_pos (nI_lt c (by omega))] at hx
    exact ⟨tt - 1, hx, by omega, by omega, fun h => by omega, fun _ => rfl⟩
  · have c2 : ¬ nI (tt - 1) < nI (nw + st) := fun h => by
      have := (nI_leI (a := nw + st) (b := tt - 1) (by omega) (by omega)).mpr (by omega)
      exact absurd h (Int32.not_lt.mpr this)
    rw [if_neg c2] at hx
    exact ⟨nw + st, hx, by omega, by omega, fun _ => rfl, fun h => by omega⟩
