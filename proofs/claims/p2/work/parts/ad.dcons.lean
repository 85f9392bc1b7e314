theorem sepP_cons {fk lF : Nat → Int32} {F : gP} : ∀ (n p q b v : Nat), sepP fk F (n + 1) lF p q b v → ∃ r b1 v1 : Nat, F lF p r b1 v1 ∧ ((n = 0 ∧ q = r) ∨ (0 < n ∧ fk r = 44 ∧ ∃ b2 v2 : Nat, sepP fk F n lF (r + 1) q b2 v2))
  | 0, p, q, b, v, h => by
    rcases h with ⟨-, h⟩ | ⟨_, _, _, _, _, ⟨_, _, _, _, _, h, _⟩, _⟩
    · exact ⟨q, b, v, h, Or.inl ⟨rfl, rfl⟩⟩
    · exact absurd h id
  | n + 1, p, q, b, v, h => by
    rcases h with ⟨h, -⟩ | ⟨r, b1, v1, b2, v2, ⟨r1, b3, v3, b4, v4, h1, h2, h3, h4⟩, h5, h6, h7⟩
    · exact absurd h (by omega)
    · obtain ⟨r0, b5, v5, x1, x2⟩ := sepP_cons n p r1 b3 v3 h1
      refine ⟨r0, b5, v5, x1, Or.inr ⟨by omega, ?_⟩⟩
      rcases x2 with ⟨rfl, rfl⟩ | ⟨x3, x4, b6, v6, x5⟩
      · obtain ⟨rfl, y2, rfl, rfl⟩ := h2
        exact ⟨y2, b2, v2, Or.inl ⟨rfl, h5⟩⟩
      · exact ⟨x4, b6 + b4 + b2, v6 + v4 + v2, Or.inr ⟨r, b6 + b4, v6 + v4, b2, v2, ⟨r1, b6, v6, b4, v4, x5, h2, rfl, rfl⟩, h5, rfl, rfl⟩⟩
theorem tyX_cons {fk : Nat → Int32} : ∀ (n p q : Nat), tyX fk (n + 1) p q → ∃ r : Nat, ((fk p = 19 ∧ r = p + 1) ∨ (fk p = 38 ∧ r = ampR fk p)) ∧ tyX fk n r q
  | 0, p, q, h => by
    obtain ⟨r, h1, h2⟩ := h
    have h1 : r = p := h1
    subst h1
    exact ⟨q, h2, rfl⟩
  | n + 1, p, q, h => by
    obtain ⟨r, h1, h2⟩ := h
    obtain ⟨r0, x1, x2⟩ := tyX_cons n p r h1
    exact ⟨r0, x1, r, x2, h2⟩
theorem plain_19 {k : Int32} (h : plainK k) : k ≠ 19 ∧ k ≠ 38 := by rcases h with h | h | h | h <;> rw [h] <;> decide
/-- readType's way over a type of boxes is the grammar's -/
theorem rtK_ty {fk : Nat → Int32} {tt : Nat} : ∀ (n p r m nw2 : Nat), tyX fk n p r → plainK (fk r) → (∀ i : Nat, i < m → fk (p + i) = 19) → fk (p + m) ≠ 19 → fk (p + m) ≠ 38 → r = p + m
  | 0, p, r, m, nw2, h, hp, h1, h2, h3 => by
    have h : r = p := h
    subst h
    cases m with
    | zero => rfl
    | succ m => exact absurd (h1 0 (by omega)) (plain_19 hp).1
  | n + 1, p, r, m, nw2, h, hp, h1, h2, h3 => by
    obtain ⟨r0, x1, x2⟩ := tyX_cons n p r h
    cases m with
    | zero => rcases x1 with ⟨x1, -⟩ | ⟨x1, -⟩
              · exact absurd x1 h2
              · exact absurd x1 h3
    | succ m =>
      have h19 : fk p = 19 := h1 0 (by omega)
      rcases x1 with ⟨-, rfl⟩ | ⟨x1, -⟩
      · have := rtK_ty (tt := tt) n (p + 1) r m nw2 x2 hp (fun i hi => by rw [show p + 1 + i = p + (i + 1) by omega]; exact h1 (i + 1) (by omega)) (by rw [show p + 1 + m = p + (m + 1) by omega]; exact h2) (by rw [show p + 1 + m = p + (m + 1) by omega]; exact h3)
        omega
      · rw [x1] at h19; exact absurd h19 (by decide)
theorem rtK_gTy {fk lF : Nat → Int32} {tt d p q b v nw2 : Nat} (h : gTy fk d lF p q b v) (hq : q < tt) (hr : rtK fk tt p nw2) : nw2 = q := by
  obtain ⟨⟨n, r, h1, -, h3, h4⟩, -⟩ := h
  obtain ⟨m, a1, a2, a3, a4, a5⟩ := hr
  have := rtK_ty (tt := tt) n p r m nw2 h1 h3 a1 a2 a3
  have := a5.2.2.1 (by omega)
  omega
theorem rtK1_gTy {fk lF : Nat → Int32} {tt d p q b v nw2 : Nat} (h : gTy fk d lF p q b v) (hq : q < tt) (hr : rtK1 fk tt p nw2) : nw2 = q := by
  rcases hr with ⟨h38, -, hr⟩ | ⟨-, hr⟩
  · obtain ⟨⟨n, r, h1, h2, h3, h4⟩, h5⟩ := h
    cases n with
    | zero => have h1 : r = p := h1
              subst h1
              exact absurd h38 (plain_19 h3).2
    | succ n =>
      obtain ⟨r0, x1, x2⟩ := tyX_cons n p r h1
      rcases x1 with ⟨x1, -⟩ | ⟨-, rfl⟩
      · rw [x1] at h38; exact absurd h38 (by decide)
      · exact rtK_gTy (lF := lF) (d := 0) (b := 0) (v := 0) ⟨⟨n, r, x2, by omega, h3, h4⟩, rfl, rfl⟩ hq hr
  · exact rtK_gTy h hq hr
theorem tyX_bx {fk : Nat → Int32} : ∀ (n p r : Nat), tyX fk n p r → plainK (fk r) → ∃ m : Nat, m ≤ n ∧ fk (p + m) ≠ 19
  | 0, p, r, h, hp => ⟨0, by omega, by have h : r = p := h; subst h; exact (plain_19 hp).1⟩
  | n + 1, p, r, h, hp => by
    obtain ⟨r0, x1, x2⟩ := tyX_cons n p r h
    rcases x1 with ⟨x1, rfl⟩ | ⟨x1, -⟩
    · obtain ⟨m, y1, y2⟩ := tyX_bx n (p + 1) r x2 hp
      exact ⟨m + 1, by omega, by rw [show p + (m + 1) = p + 1 + m by omega]; exact y2⟩
    · exact ⟨0, by omega, by show fk p ≠ 19; rw [x1]; decide⟩
theorem gTy_bx {fk lF : Nat → Int32} {p q b v : Nat} (h : gTy fk 0 lF p q b v) : (fk p = 38 → ∃ n : Nat, 1 + n ≤ 16 ∧ fk (ampR fk p + n) ≠ 19) ∧ ∃ n : Nat, n ≤ 16 ∧ fk (p + n) ≠ 19 := by
  obtain ⟨⟨n, r, h1, h2, h3, h4⟩, -⟩ := h
  refine ⟨fun h38 => ?_, ?_⟩
  · cases n with
    | zero => have h1 : r = p := h1
              subst h1
              exact absurd h38 (plain_19 h3).2
    | succ n =>
      obtain ⟨r0, x1, x2⟩ := tyX_cons n p r h1
      rcases x1 with ⟨x1, -⟩ | ⟨-, rfl⟩
      · rw [x1] at h38; exact absurd h38 (by decide)
      · obtain ⟨m, y1, y2⟩ := tyX_bx n _ r x2 h3
        exact ⟨m, by omega, y2⟩
  · obtain ⟨m, y1, y2⟩ := tyX_bx n p r h1 h3
    exact ⟨m, by omega, y2⟩
theorem gTy_gt {fk lF : Nat → Int32} {d p q b v : Nat} (h : gTy fk d lF p q b v) : p < q := by
  obtain ⟨⟨n, r, h1, -, -, h4⟩, -⟩ := h
  have : ∀ n p r : Nat, tyX fk n p r → p ≤ r := by
    intro n
    induction n with
    | zero => intro p q hq; exact Nat.le_of_eq hq.symm
    | succ n ih =>
      intro p q hq
      obtain ⟨r, q1, q2⟩ := hq
      have := ih p r q1
      rcases q2 with ⟨-, q2⟩ | ⟨-, q2⟩
      · omega
      · have h2 := ampR_gt fk r
        omega
  have := this n p r h1
  omega
/-- the parts of row rw: n of them, of proper types -/
def prR (yp yt rw n : Nat) (ak gpa gpt : Nat → Int32) : Prop := n ≤ 12 ∧ gpa rw = nI n ∧ ∀ j : Nat, j < n → ∃ u : Nat, gpt (rw * 12 + j) = nI u ∧ tyN yp ak u ∧ u < yt
/-- of other rows nothing has changed -/
def prO (rw : Nat) (fpa fpt gpa gpt : Nat → Int32) : Prop := (∀ j : Nat, j ≠ rw → gpa j = fpa j) ∧ ∀ j : Nat, ¬ (rw * 12 ≤ j ∧ j < rw * 12 + 12) → gpt j = fpt j
theorem prO_rf {rw : Nat} {fpa fpt : Nat → Int32} : prO rw fpa fpt fpa fpt := ⟨fun _ _ => rfl, fun _ _ => rfl⟩
theorem prO_S {rw i : Nat} {fpa fpt gpa gpt : Nat → Int32} {x z : Int32} (h : prO rw fpa fpt gpa gpt) (hi : i < 12) : prO rw fpa fpt (upd gpa rw x) (upd gpt (rw * 12 + i) z) := ⟨fun j hj => by rw [pk_un hj]; exact h.1 j hj, fun j hj => by rw [pk_un (by omega)]; exact h.2 j hj⟩
theorem prR_S {yp yt yt2 rw i u : Nat} {ak gk ao az ad ab ah au go gz gd gb gh gu fpa fpt gpa gpt : Nat → Int32} (h : prR yp yt rw i ak fpa fpt) (hi : i < 12) (hx : tyEx (yt, ak, ao, az, ad, ab, ah, au) (yt2, gk, go, gz, gd, gb, gh, gu)) (h1 : gpa = upd fpa rw (nI (i + 1))) (h2 : gpt = upd fpt (rw * 12 + i) (nI u)) (hN : tyN yp gk u) (hu : u < yt2) : prR yp yt2 rw (i + 1) gk gpa gpt := by
  refine ⟨by omega, by rw [h1]; exact pk_us, fun j hj => ?_⟩
  by_cases e : j = i
  · subst e; exact ⟨u, by rw [h2]; exact pk_us, hN, hu⟩
  · obtain ⟨u1, x1, x2, x3⟩ := h.2.2 j (by omega)
    exact ⟨u1, by rw [h2, pk_un (by omega)]; exact x1, tyN_up x2 x3 (fun j hj => (hx.2 j hj).1), by have h7 : yt ≤ yt2 := hx.1; omega⟩
/-- parts so far: nw1 stands at one, with m to go up to r, or at r -/
def prI (fk lF : Nat → Int32) (F : gP) (nw1 m r : Nat) : Prop := (0 < m ∧ ∃ b v : Nat, sepP fk F m lF nw1 r b v) ∨ (m = 0 ∧ nw1 = r)
theorem prI_S {fk lF : Nat → Int32} {F : gP} {nw1 m r : Nat} {c : Int32} (h : prI fk lF F nw1 m r) (hc : fk nw1 ≠ c) (hr : fk r = c) : ∃ r1 b v : Nat, F lF nw1 r1 b v ∧ ∃ m1 : Nat, m = m1 + 1 ∧ ((m1 = 0 ∧ r = r1) ∨ (0 < m1 ∧ fk r1 = 44 ∧ prI fk lF F (r1 + 1) m1 r)) := by
  rcases h with ⟨h1, b, v, h2⟩ | ⟨h1, h2⟩
  · cases m with
    | zero => exact absurd h1 (by omega)
    | succ m =>
      obtain ⟨r1, b1, v1, x1, x2⟩ := sepP_cons m nw1 r b v h2
      refine ⟨r1, b1, v1, x1, m, rfl, ?_⟩
      rcases x2 with ⟨x3, x4⟩ | ⟨x3, x4, b2, v2, x5⟩
      · exact Or.inl ⟨x3, x4⟩
      · exact Or.inr ⟨x3, x4, Or.inl ⟨x3, b2, v2, x5⟩⟩
  · rw [h2] at hc; exact absurd hr hc
theorem sepP_le {fk lF : Nat → Int32} {F : gP} (hF : ∀ p q b v : Nat, F lF p q b v → p ≤ q) : ∀ (n p q b v : Nat), sepP fk F n lF p q b v → p ≤ q
  | 0, _, _, _, _, h => absurd h id
  | n + 1, p, q, b, v, h => by
    rcases h with ⟨-, h⟩ | ⟨r, b1, v1, b2, v2, ⟨r1, b3, v3, b4, v4, h1, h2, h3, h4⟩, h5, h6, h7⟩
    · exact hF _ _ _ _ h
    · have := sepP_le hF n p r1 b3 v3 h1
      have := hF _ _ _ _ h5
      have := h2.1
      omega
theorem prI_le {fk lF : Nat → Int32} {F : gP} {nw1 m r : Nat} (hF : ∀ p q b v : Nat, F lF p q b v → p ≤ q) (h : prI fk lF F nw1 m r) : nw1 ≤ r := by
  rcases h with ⟨-, b, v, h⟩ | ⟨-, h⟩
  · exact sepP_le hF m nw1 r b v h
  · omega
