theorem sepP_v {fk lF : Nat → Int32} : ∀ (n p q b v : Nat), sepP fk (sPar fk) n lF p q b v → v = n ∧ b = 0
  | 0, _, _, _, _, h => absurd h id
  | n + 1, p, q, b, v, h => by
    have hp : ∀ p q b v : Nat, sPar fk lF p q b v → v = 1 ∧ b = 0 := fun p q b v h => by
      obtain ⟨_, _, _, _, _, ⟨_, _, _, _, _, ⟨-, -, h1, h2⟩, ⟨-, -, h3, h4⟩, h5, h6⟩, ⟨-, h7, h8⟩, h9, h10⟩ := h
      omega
    rcases h with ⟨h0, h⟩ | ⟨r, b1, v1, b2, v2, ⟨r1, b3, v3, b4, v4, h1, h2, h3, h4⟩, h5, h6, h7⟩
    · have := hp _ _ _ _ h
      omega
    · have x1 := sepP_v n p r1 b3 v3 h1
      have x2 := hp _ _ _ _ h5
      obtain ⟨-, -, x3, x4⟩ := h2
      omega
theorem gTy_uq {fk lF : Nat → Int32} {p q q2 b v b2 v2 d d2 : Nat} (h : gTy fk d lF p q b v) (h2 : gTy fk d2 lF p q2 b2 v2) : q = q2 := by
  obtain ⟨⟨n, r, x1, -, x3, rfl⟩, -⟩ := h
  obtain ⟨⟨m, s, y1, -, y3, rfl⟩, -⟩ := h2
  have : ∀ (n m p r s : Nat), tyX fk n p r → tyX fk m p s → plainK (fk r) → plainK (fk s) → r = s := by
    intro n
    induction n with
    | zero =>
      intro m p r s h1 h2 h3 h4
      have h1 : r = p := h1
      subst h1
      rcases tyX_st m r s h2 with ⟨-, h5⟩ | h5 | h5
      · exact h5.symm
      · exact absurd h5 (plain_19 h3).1
      · exact absurd h5 (plain_19 h3).2
    | succ n ih =>
      intro m p r s h1 h2 h3 h4
      obtain ⟨r0, z1, z2⟩ := tyX_cons n p r h1
      cases m with
      | zero =>
        have h2 : s = p := h2
        subst h2
        rcases z1 with ⟨z1, -⟩ | ⟨z1, -⟩
        · exact absurd z1 (plain_19 h4).1
        · exact absurd z1 (plain_19 h4).2
      | succ m =>
        obtain ⟨s0, w1, w2⟩ := tyX_cons m p s h2
        have e : r0 = s0 := by
          rcases z1 with ⟨z1, z3⟩ | ⟨z1, z3⟩ <;> rcases w1 with ⟨w1, w3⟩ | ⟨w1, w3⟩
          · omega
          · rw [z1] at w1; exact absurd w1 (by decide)
          · rw [z1] at w1; exact absurd w1 (by decide)
          · omega
        subst e
        exact ih m r0 r s z2 w2 h3 h4
  have := this n m p r s x1 y1 x3 y3
  omega
theorem sPar_of {fk lF : Nat → Int32} {p q b v : Nat} (h : sPar fk lF p q b v) : fk p = 2 ∧ fk (p + 1) = 58 ∧ ∃ b1 v1 : Nat, gTy fk 0 lF (p + 2) q b1 v1 := by
  obtain ⟨r, _, _, b1, v1, ⟨r1, _, _, _, _, ⟨rfl, x1, -⟩, ⟨rfl, x2, -⟩, -⟩, x3, -⟩ := h
  exact ⟨x1, x2, b1, v1, x3⟩
theorem sepP_uq {fk lF : Nat → Int32} : ∀ (n m p r b v b2 v2 : Nat), sepP fk (sPar fk) n lF p r b v → sepP fk (sPar fk) m lF p r b2 v2 → fk r = 41 → m = n
  | 0, _, _, _, _, _, _, _, h, _, _ => absurd h id
  | _ + 1, 0, _, _, _, _, _, _, _, h, _ => absurd h id
  | n + 1, m + 1, p, r, b, v, b2, v2, h1, h2, h3 => by
    obtain ⟨r1, c1, d1, x1, x2⟩ := sepP_cons n p r b v h1
    obtain ⟨r2, c2, d2, y1, y2⟩ := sepP_cons m p r b2 v2 h2
    obtain ⟨-, -, _, _, x3⟩ := sPar_of x1
    obtain ⟨-, -, _, _, y3⟩ := sPar_of y1
    have e := gTy_uq x3 y3
    subst e
    rcases x2 with ⟨x4, x5⟩ | ⟨x4, x5, c3, d3, x6⟩ <;> rcases y2 with ⟨y4, y5⟩ | ⟨y4, y5, c4, d4, y6⟩
    · omega
    · rw [← x5, h3] at y5; exact absurd y5 (by decide)
    · rw [← y5, h3] at x5; exact absurd x5 (by decide)
    · have := sepP_uq n m (r1 + 1) r c3 d3 c4 d4 x6 y6 h3
      omega
theorem updupd {f : Nat → Int32} {k : Nat} {x z : Int32} : upd (upd f k x) k z = upd f k z := by
  funext j
  by_cases e : j = k
  · subst e; rw [pk_us, pk_us]
  · rw [pk_un e, pk_un e, pk_un e]
/-- a list of parameters has one end alone, and as many variables -/
theorem sPs_det {fk lF : Nat → Int32} {n p r q b v b1 v1 : Nat} (h41 : fk p ≠ 41) (h : sepP fk (sPar fk) n lF p r b1 v1) (hq : q = r + 1) (hr : fk r = 41) (h2 : sPs fk lF p q b v) : b = 0 ∧ v = n := by
  rcases h2 with ⟨-, h2, -⟩ | ⟨-, m, -, r2, b2, v2, b3, v3, x1, ⟨x2, x3, x4, x5⟩, x6, x7⟩
  · exact absurd h2 h41
  · obtain rfl : r2 = r := by omega
    have y1 := sepP_v m p r2 b2 v2 x1
    have y2 : m = n := sepP_uq n m p r2 b1 v1 b2 v2 h x1 hr
    omega
/-- the parameters of a function: their types and lives -/
def paR (yp yt n lv : Nat) (ak et pl : Nat → Int32) : Prop := ∀ j : Nat, j < n → (∃ u : Nat, et j = nI u ∧ tyV yp yt ak u) ∧ lfI lv (pl j)
theorem tyV_up {yp yt yt2 u : Nat} {ak gk : Nat → Int32} (h : tyV yp yt ak u) (he : ∀ j : Nat, j < yt → gk j = ak j) (hy : yt ≤ yt2) : tyV yp yt2 gk u := by
  obtain ⟨h1, h2⟩ := h
  refine ⟨?_, by omega⟩
  rcases h1 with h1 | ⟨h1, h3⟩
  · exact Or.inl (tyN_up h1 h2 he)
  · exact Or.inr ⟨h1, by rw [he u h2]; exact h3⟩
theorem paR_up {yp yt yt2 n lv : Nat} {ak gk et pl : Nat → Int32} (h : paR yp yt n lv ak et pl) (he : ∀ j : Nat, j < yt → gk j = ak j) (hy : yt ≤ yt2) : paR yp yt2 n lv gk et pl := fun j hj => by
  obtain ⟨⟨u, x1, x2⟩, x3⟩ := h j hj
  exact ⟨⟨u, x1, tyV_up x2 he hy⟩, x3⟩
theorem paR_S {yp yt n lv u : Nat} {ak et pl et2 pl2 : Nat → Int32} {lf : Int32} (h : paR yp yt n lv ak et pl) (h1 : et2 = upd et n (nI u)) (h2 : pl2 = upd pl n lf) (hu : tyV yp yt ak u) (hl : lfI lv lf) : paR yp yt (n + 1) lv ak et2 pl2 := fun j hj => by
  by_cases e : j = n
  · subst e; rw [h1, h2, pk_us, pk_us]; exact ⟨⟨u, rfl, hu⟩, hl⟩
  · rw [h1, h2, pk_un e, pk_un e]; exact h j (by omega)
