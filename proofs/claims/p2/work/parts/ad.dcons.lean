-- ad.dcons.lean.txt
section
theorem sepP_cons {fk lF : Nat → Int32} {F : gP} : ∀ (n p q b v : Nat), sepP fk F (n + 1) lF p q b v → ∃ r b1 v1 : Nat, F lF p r b1 v1 ∧ ((n = 0 ∧ q = r) ∨ (0 < n ∧ fk r = 44 ∧ ∃ b2 v2 : Nat, sepP fk F n lF (r + 1) q b2 v2))
  | 0, p, q, b, v, h => by
    rcases h with ⟨-, h⟩ | ⟨_, _, _, _, _, ⟨_, _, _, _, _, h, _⟩, _⟩
    · exact ⟨q, b, v, h, Or.inl ⟨rfl, rfl⟩⟩
    · exact absurd h id
  | n + 1, p, q, b, v, h => by
    rcases h with ⟨h, -⟩ | ⟨r, b1, v1, b2, v2, ⟨r1, b3, v3, b4, v4, h1, h2, h3, h4⟩, h5, h6, h7⟩
    · exact absurd h (by omega)
    · obtain ⟨r0, b5, v5, x1, x2⟩ := sepP_cons n p r1 b3 v3 h1
      refine ⟨r0, b5, v5, x1, Or.inr ⟨by omega, ?_⟩⟩
      rcases x2 with ⟨rfl, rfl⟩ | ⟨x3, x4, b6, v6, x5⟩
      · obtain ⟨rfl, y2, rfl, rfl⟩ := h2
        exact ⟨y2, b2, v2, Or.inl ⟨rfl, h5⟩⟩
      · exact ⟨x4, b6 + b4 + b2, v6 + v4 + v2, Or.inr ⟨r, b6 + b4, v6 + v4, b2, v2, ⟨r1, b6, v6, b4, v4, x5, h2, rfl, rfl⟩, h5, rfl, rfl⟩⟩
theorem tyX_cons {fk : Nat → Int32} : ∀ (n p q : Nat), tyX fk (n + 1) p q → ∃ r : Nat, ((fk p = 19 ∧ r = p + 1) ∨ (fk p = 38 ∧ r = ampR fk p)) ∧ tyX fk n r q
  | 0, p, q, h => by
    obtain ⟨r, h1, h2⟩ := h
    have h1 : r = p := h1
    subst h1
    exact ⟨q, h2, rfl⟩
  | n + 1, p, q, h => by
    obtain ⟨r, h1, h2⟩ := h
    obtain ⟨r0, x1, x2⟩ := tyX_cons n p r h1
    exact ⟨r0, x1, r, x2, h2⟩
theorem plain_19 {k : Int32} (h : plainK k) : k ≠ 19 ∧ k ≠ 38 := by rcases h with h | h | h | h <;> rw [h] <;> decide
/-- readType's way over a type of boxes is the grammar's -/
theorem rtK_ty {fk : Nat → Int32} {tt : Nat} : ∀ (n p r m nw2 : Nat), tyX fk n p r → plainK (fk r) → (∀ i : Nat, i < m → fk (p + i) = 19) → fk (p + m) ≠ 19 → fk (p + m) ≠ 38 → r = p + m
  | 0, p, r, m, nw2, h, hp, h1, h2, h3 => by
    have h : r = p := h
    subst h
    cases m with
    | zero => rfl
    | succ m => exact absurd (h1 0 (by omega)) (plain_19 hp).1
  | n + 1, p, r, m, nw2, h, hp, h1, h2, h3 => by
    obtain ⟨r0, x1, x2⟩ := tyX_cons n p r h
    cases m with
    | zero => rcases x1 with ⟨x1, -⟩ | ⟨x1, -⟩
              · exact absurd x1 h2
              · exact absurd x1 h3
    | succ m =>
      have h19 : fk p = 19 := h1 0 (by omega)
      rcases x1 with ⟨-, rfl⟩ | ⟨x1, -⟩
      · have := rtK_ty (tt := tt) n (p + 1) r m nw2 x2 hp (fun i hi => by rw [show p + 1 + i = p + (i + 1) by omega]; exact h1 (i + 1) (by omega)) (by rw [show p + 1 + m = p + (m + 1) by omega]; exact h2) (by rw [show p + 1 + m = p + (m + 1) by omega]; exact h3)
        omega
      · rw [x1] at h19; exact absurd h19 (by decide)
theorem rtK_gTy {fk lF : Nat → Int32} {tt d p q b v nw2 : Nat} (h : gTy fk d lF p q b v) (hq : q < tt) (hr : rtK fk tt p nw2) : nw2 = q := by
  obtain ⟨⟨n, r, h1, -, h3, h4⟩, -⟩ := h
  obtain ⟨m, a1, a2, a3, a4, a5⟩ := hr
  have := rtK_ty (tt := tt) n p r m nw2 h1 h3 a1 a2 a3
  have := a5.2.2.1 (by omega)
  omega
theorem rtK1_gTy {fk lF : Nat → Int32} {tt d p q b v nw2 : Nat} (h : gTy fk d lF p q b v) (hq : q < tt) (hr : rtK1 fk tt p nw2) : nw2 = q := by
  rcases hr with ⟨h38, -, hr⟩ | ⟨-, hr⟩
  · obtain ⟨⟨n, r, h1, h2, h3, h4⟩, h5⟩ := h
    cases n with
    | zero => have h1 : r = p := h1
              subst h1
              exact absurd h38 (plain_19 h3).2
    | succ n =>
      obtain ⟨r0, x1, x2⟩ := tyX_cons n p r h1
      rcases x1 with ⟨x1, -⟩ | ⟨-, rfl⟩
      · rw [x1] at h38; exact absurd h38 (by decide)
      · exact rtK_gTy (lF := lF) (d := 0) (b := 0) (v := 0) ⟨⟨n, r, x2, by omega, h3, h4⟩, rfl, rfl⟩ hq hr
  · exact rtK_gTy h hq hr
theorem tyX_bx {fk : Nat → Int32} : ∀ (n p r : Nat), tyX fk n p r → plainK (fk r) → ∃ m : Nat, m ≤ n ∧ fk (p + m) ≠ 19
  | 0, p, r, h, hp => ⟨0, by omega, by have h : r = p := h; subst h; exact (plain_19 hp).1⟩
  | n + 1, p, r, h, hp => by
    obtain ⟨r0, x1, x2⟩ := tyX_cons n p r h
    rcases x1 with ⟨x1, rfl⟩ | ⟨x1, -⟩
    · obtain ⟨m, y1, y2⟩ := tyX_bx n (p + 1) r x2 hp
      exact ⟨m + 1, by omega, by rw [show p + (m + 1) = p + 1 + m by omega]; exact y2⟩
    · exact ⟨0, by omega, by show fk p ≠ 19; rw [x1]; decide⟩
theorem gTy_bx {fk lF : Nat → Int32} {p q b v : Nat} (h : gTy fk 0 lF p q b v) : (fk p = 38 → ∃ n : Nat, 1 + n ≤ 16 ∧ fk (ampR fk p + n) ≠ 19) ∧ ∃ n : Nat, n ≤ 16 ∧ fk (p + n) ≠ 19 := by
  obtain ⟨⟨n, r, h1, h2, h3, h4⟩, -⟩ := h
  refine ⟨fun h38 => ?_, ?_⟩
  · cases n with
    | zero => have h1 : r = p := h1
              subst h1
              exact absurd h38 (plain_19 h3).2
    | succ n =>
      obtain ⟨r0, x1, x2⟩ := tyX_cons n p r h1
      rcases x1 with ⟨x1, -⟩ | ⟨-, rfl⟩
      · rw [x1] at h38; exact absurd h38 (by decide)
      · obtain ⟨m, y1, y2⟩ := tyX_bx n _ r x2 h3
        exact ⟨m, by omega, y2⟩
  · obtain ⟨m, y1, y2⟩ := tyX_bx n p r h1 h3
    exact ⟨m, by omega, y2⟩
theorem gTy_gt {fk lF : Nat → Int32} {d p q b v : Nat} (h : gTy fk d lF p q b v) : p < q := by
  obtain ⟨⟨n, r, h1, -, -, h4⟩, -⟩ := h
  have : ∀ n p r : Nat, tyX fk n p r → p ≤ r := by
    intro n
    induction n with
    | zero => intro p q hq; exact Nat.le_of_eq hq.symm
    | succ n ih =>
      intro p q hq
      obtain ⟨r, q1, q2⟩ := hq
      have := ih p r q1
      rcases q2 with ⟨-, q2⟩ | ⟨-, q2⟩
      · omega
      · have h2 := ampR_gt fk r
        omega
  have := this n p r h1
  omega
/-- the parts of row rw: n of them, of proper types -/
def prR (yp yt rw n : Nat) (ak gpa gpt : Nat → Int32) : Prop := n ≤ 12 ∧ gpa rw = nI n ∧ ∀ j : Nat, j < n → ∃ u : Nat, gpt (rw * 12 + j) = nI u ∧ tyN yp ak u ∧ u < yt
/-- of other rows nothing has changed -/
def prO (rw : Nat) (fpa fpt gpa gpt : Nat → Int32) : Prop := (∀ j : Nat, j ≠ rw → gpa j = fpa j) ∧ ∀ j : Nat, ¬ (rw * 12 ≤ j ∧ j < rw * 12 + 12) → gpt j = fpt j
theorem prO_rf {rw : Nat} {fpa fpt : Nat → Int32} : prO rw fpa fpt fpa fpt := ⟨fun _ _ => rfl, fun _ _ => rfl⟩
theorem prO_S {rw i : Nat} {fpa fpt gpa gpt : Nat → Int32} {x z : Int32} (h : prO rw fpa fpt gpa gpt) (hi : i < 12) : prO rw fpa fpt (upd gpa rw x) (upd gpt (rw * 12 + i) z) := ⟨fun j hj => by rw [pk_un hj]; exact h.1 j hj, fun j hj => by rw [pk_un (by omega)]; exact h.2 j hj⟩
theorem prR_S {yp yt yt2 rw i u : Nat} {ak gk ao az ad ab ah au go gz gd gb gh gu fpa fpt gpa gpt : Nat → Int32} (h : prR yp yt rw i ak fpa fpt) (hi : i < 12) (hx : tyEx (yt, ak, ao, az, ad, ab, ah, au) (yt2, gk, go, gz, gd, gb, gh, gu)) (h1 : gpa = upd fpa rw (nI (i + 1))) (h2 : gpt = upd fpt (rw * 12 + i) (nI u)) (hN : tyN yp gk u) (hu : u < yt2) : prR yp yt2 rw (i + 1) gk gpa gpt := by
  refine ⟨by omega, by rw [h1]; exact pk_us, fun j hj => ?_⟩
  by_cases e : j = i
  · subst e; exact ⟨u, by rw [h2]; exact pk_us, hN, hu⟩
  · obtain ⟨u1, x1, x2, x3⟩ := h.2.2 j (by omega)
    exact ⟨u1, by rw [h2, pk_un (by omega)]; exact x1, tyN_up x2 x3 (fun j hj => (hx.2 j hj).1), by have h7 : yt ≤ yt2 := hx.1; omega⟩
/-- parts so far: nw1 stands at one, with m to go up to r, or at r -/
def prI (fk lF : Nat → Int32) (F : gP) (nw1 m r : Nat) : Prop := (0 < m ∧ ∃ b v : Nat, sepP fk F m lF nw1 r b v) ∨ (m = 0 ∧ nw1 = r)
theorem prI_S {fk lF : Nat → Int32} {F : gP} {nw1 m r : Nat} {c : Int32} (h : prI fk lF F nw1 m r) (hc : fk nw1 ≠ c) (hr : fk r = c) : ∃ r1 b v : Nat, F lF nw1 r1 b v ∧ ∃ m1 : Nat, m = m1 + 1 ∧ ((m1 = 0 ∧ r = r1) ∨ (0 < m1 ∧ fk r1 = 44 ∧ prI fk lF F (r1 + 1) m1 r)) := by
  rcases h with ⟨h1, b, v, h2⟩ | ⟨h1, h2⟩
  · cases m with
    | zero => exact absurd h1 (by omega)
    | succ m =>
      obtain ⟨r1, b1, v1, x1, x2⟩ := sepP_cons m nw1 r b v h2
      refine ⟨r1, b1, v1, x1, m, rfl, ?_⟩
      rcases x2 with ⟨x3, x4⟩ | ⟨x3, x4, b2, v2, x5⟩
      · exact Or.inl ⟨x3, x4⟩
      · exact Or.inr ⟨x3, x4, Or.inl ⟨x3, b2, v2, x5⟩⟩
  · rw [h2] at hc; exact absurd hr hc
theorem sepP_le {fk lF : Nat → Int32} {F : gP} (hF : ∀ p q b v : Nat, F lF p q b v → p ≤ q) : ∀ (n p q b v : Nat), sepP fk F n lF p q b v → p ≤ q
  | 0, _, _, _, _, h => absurd h id
  | n + 1, p, q, b, v, h => by
    rcases h with ⟨-, h⟩ | ⟨r, b1, v1, b2, v2, ⟨r1, b3, v3, b4, v4, h1, h2, h3, h4⟩, h5, h6, h7⟩
    · exact hF _ _ _ _ h
    · have := sepP_le hF n p r1 b3 v3 h1
      have := hF _ _ _ _ h5
      have := h2.1
      omega
theorem prI_le {fk lF : Nat → Int32} {F : gP} {nw1 m r : Nat} (hF : ∀ p q b v : Nat, F lF p q b v → p ≤ q) (h : prI fk lF F nw1 m r) : nw1 ≤ r := by
  rcases h with ⟨-, b, v, h⟩ | ⟨-, h⟩
  · exact sepP_le hF m nw1 r b v h
  · omega
end
-- ad0.fpu.lean.txt
section
theorem sepP_v {fk lF : Nat → Int32} : ∀ (n p q b v : Nat), sepP fk (sPar fk) n lF p q b v → v = n ∧ b = 0
  | 0, _, _, _, _, h => absurd h id
  | n + 1, p, q, b, v, h => by
    have hp : ∀ p q b v : Nat, sPar fk lF p q b v → v = 1 ∧ b = 0 := fun p q b v h => by
      obtain ⟨_, _, _, _, _, ⟨_, _, _, _, _, ⟨-, -, h1, h2⟩, ⟨-, -, h3, h4⟩, h5, h6⟩, ⟨-, h7, h8⟩, h9, h10⟩ := h
      omega
    rcases h with ⟨h0, h⟩ | ⟨r, b1, v1, b2, v2, ⟨r1, b3, v3, b4, v4, h1, h2, h3, h4⟩, h5, h6, h7⟩
    · have := hp _ _ _ _ h
      omega
    · have x1 := sepP_v n p r1 b3 v3 h1
      have x2 := hp _ _ _ _ h5
      obtain ⟨-, -, x3, x4⟩ := h2
      omega
theorem gTy_uq {fk lF : Nat → Int32} {p q q2 b v b2 v2 d d2 : Nat} (h : gTy fk d lF p q b v) (h2 : gTy fk d2 lF p q2 b2 v2) : q = q2 := by
  obtain ⟨⟨n, r, x1, -, x3, rfl⟩, -⟩ := h
  obtain ⟨⟨m, s, y1, -, y3, rfl⟩, -⟩ := h2
  have : ∀ (n m p r s : Nat), tyX fk n p r → tyX fk m p s → plainK (fk r) → plainK (fk s) → r = s := by
    intro n
    induction n with
    | zero =>
      intro m p r s h1 h2 h3 h4
      have h1 : r = p := h1
      subst h1
      rcases tyX_st m r s h2 with ⟨-, h5⟩ | h5 | h5
      · exact h5.symm
      · exact absurd h5 (plain_19 h3).1
      · exact absurd h5 (plain_19 h3).2
    | succ n ih =>
      intro m p r s h1 h2 h3 h4
      obtain ⟨r0, z1, z2⟩ := tyX_cons n p r h1
      cases m with
      | zero =>
        have h2 : s = p := h2
        subst h2
        rcases z1 with ⟨z1, -⟩ | ⟨z1, -⟩
        · exact absurd z1 (plain_19 h4).1
        · exact absurd z1 (plain_19 h4).2
      | succ m =>
        obtain ⟨s0, w1, w2⟩ := tyX_cons m p s h2
        have e : r0 = s0 := by
          rcases z1 with ⟨z1, z3⟩ | ⟨z1, z3⟩ <;> rcases w1 with ⟨w1, w3⟩ | ⟨w1, w3⟩
          · omega
          · rw [z1] at w1; exact absurd w1 (by decide)
          · rw [z1] at w1; exact absurd w1 (by decide)
          · omega
        subst e
        exact ih m r0 r s z2 w2 h3 h4
  have := this n m p r s x1 y1 x3 y3
  omega
theorem sPar_of {fk lF : Nat → Int32} {p q b v : Nat} (h : sPar fk lF p q b v) : fk p = 2 ∧ fk (p + 1) = 58 ∧ ∃ b1 v1 : Nat, gTy fk 0 lF (p + 2) q b1 v1 := by
  obtain ⟨r, _, _, b1, v1, ⟨r1, _, _, _, _, ⟨rfl, x1, -⟩, ⟨rfl, x2, -⟩, -⟩, x3, -⟩ := h
  exact ⟨x1, x2, b1, v1, x3⟩
theorem sepP_uq {fk lF : Nat → Int32} : ∀ (n m p r b v b2 v2 : Nat), sepP fk (sPar fk) n lF p r b v → sepP fk (sPar fk) m lF p r b2 v2 → fk r = 41 → m = n
  | 0, _, _, _, _, _, _, _, h, _, _ => absurd h id
  | _ + 1, 0, _, _, _, _, _, _, _, h, _ => absurd h id
  | n + 1, m + 1, p, r, b, v, b2, v2, h1, h2, h3 => by
    obtain ⟨r1, c1, d1, x1, x2⟩ := sepP_cons n p r b v h1
    obtain ⟨r2, c2, d2, y1, y2⟩ := sepP_cons m p r b2 v2 h2
    obtain ⟨-, -, _, _, x3⟩ := sPar_of x1
    obtain ⟨-, -, _, _, y3⟩ := sPar_of y1
    have e := gTy_uq x3 y3
    subst e
    rcases x2 with ⟨x4, x5⟩ | ⟨x4, x5, c3, d3, x6⟩ <;> rcases y2 with ⟨y4, y5⟩ | ⟨y4, y5, c4, d4, y6⟩
    · omega
    · rw [← x5, h3] at y5; exact absurd y5 (by decide)
    · rw [← y5, h3] at x5; exact absurd x5 (by decide)
    · have := sepP_uq n m (r1 + 1) r c3 d3 c4 d4 x6 y6 h3
      omega
theorem updupd {f : Nat → Int32} {k : Nat} {x z : Int32} : upd (upd f k x) k z = upd f k z := by
  funext j
  by_cases e : j = k
  · subst e; rw [pk_us, pk_us]
  · rw [pk_un e, pk_un e, pk_un e]
/-- a list of parameters has one end alone, and as many variables -/
theorem sPs_det {fk lF : Nat → Int32} {n p r q b v b1 v1 : Nat} (h41 : fk p ≠ 41) (h : sepP fk (sPar fk) n lF p r b1 v1) (hq : q = r + 1) (hr : fk r = 41) (h2 : sPs fk lF p q b v) : b = 0 ∧ v = n := by
  rcases h2 with ⟨-, h2, -⟩ | ⟨-, m, -, r2, b2, v2, b3, v3, x1, ⟨x2, x3, x4, x5⟩, x6, x7⟩
  · exact absurd h2 h41
  · obtain rfl : r2 = r := by omega
    have y1 := sepP_v m p r2 b2 v2 x1
    have y2 : m = n := sepP_uq n m p r2 b1 v1 b2 v2 h x1 hr
    omega
/-- the parameters of a function: their types and lives -/
def paR (yp yt n lv : Nat) (ak et pl : Nat → Int32) : Prop := ∀ j : Nat, j < n → (∃ u : Nat, et j = nI u ∧ tyV yp yt ak u) ∧ lfI lv (pl j)
theorem tyV_up {yp yt yt2 u : Nat} {ak gk : Nat → Int32} (h : tyV yp yt ak u) (he : ∀ j : Nat, j < yt → gk j = ak j) (hy : yt ≤ yt2) : tyV yp yt2 gk u := by
  obtain ⟨h1, h2⟩ := h
  refine ⟨?_, by omega⟩
  rcases h1 with h1 | ⟨h1, h3⟩
  · exact Or.inl (tyN_up h1 h2 he)
  · exact Or.inr ⟨h1, by rw [he u h2]; exact h3⟩
theorem paR_up {yp yt yt2 n lv : Nat} {ak gk et pl : Nat → Int32} (h : paR yp yt n lv ak et pl) (he : ∀ j : Nat, j < yt → gk j = ak j) (hy : yt ≤ yt2) : paR yp yt2 n lv gk et pl := fun j hj => by
  obtain ⟨⟨u, x1, x2⟩, x3⟩ := h j hj
  exact ⟨⟨u, x1, tyV_up x2 he hy⟩, x3⟩
theorem paR_S {yp yt n lv u : Nat} {ak et pl et2 pl2 : Nat → Int32} {lf : Int32} (h : paR yp yt n lv ak et pl) (h1 : et2 = upd et n (nI u)) (h2 : pl2 = upd pl n lf) (hu : tyV yp yt ak u) (hl : lfI lv lf) : paR yp yt (n + 1) lv ak et2 pl2 := fun j hj => by
  by_cases e : j = n
  · subst e; rw [h1, h2, pk_us, pk_us]; exact ⟨⟨u, rfl, hu⟩, hl⟩
  · rw [h1, h2, pk_un e, pk_un e]; exact h j (by omega)
end
-- ad1.gmono.lean.txt
section
/-- what stands from p to q has no negative length; or some -/
def gLe (R : gP) : Prop := ∀ (lF : Nat → Int32) (p q b v : Nat), R lF p q b v → p ≤ q
def gLt (R : gP) : Prop := ∀ (lF : Nat → Int32) (p q b v : Nat), R lF p q b v → p < q
theorem gLt.le {R : gP} (h : gLt R) : gLe R := fun lF p q b v hr => Nat.le_of_lt (h lF p q b v hr)
theorem gq_le {A B : gP} (hA : gLe A) (hB : gLe B) : gLe (gq A B) := fun lF p q b v h => by
  obtain ⟨r, b1, v1, b2, v2, h1, h2, -⟩ := h
  have := hA _ _ _ _ _ h1
  have := hB _ _ _ _ _ h2
  omega
theorem gq_lt {A B : gP} (hA : gLt A) (hB : gLe B) : gLt (gq A B) := fun lF p q b v h => by
  obtain ⟨r, b1, v1, b2, v2, h1, h2, -⟩ := h
  have := hA _ _ _ _ _ h1
  have := hB _ _ _ _ _ h2
  omega
theorem gq_lt2 {A B : gP} (hA : gLe A) (hB : gLt B) : gLt (gq A B) := fun lF p q b v h => by
  obtain ⟨r, b1, v1, b2, v2, h1, h2, -⟩ := h
  have := hA _ _ _ _ _ h1
  have := hB _ _ _ _ _ h2
  omega
theorem gTok_lt {fk : Nat → Int32} {c : Int32} : gLt (gTok fk c) := fun lF p q b v h => by have := h.1; omega
theorem gNil_le : gLe gNil := fun lF p q b v h => by have := h.1; omega
theorem gOpt_le {fk : Nat → Int32} {c : Int32} : gLe (gOpt fk c) := fun lF p q b v h => by rcases h.1 with z | z <;> omega
theorem gOptR_le {fk : Nat → Int32} {c : Int32} {R : gP} (h : gLe R) : gLe (gOptR fk c R) := fun lF p q b v hr => hr.elim (fun z => (gq_lt gTok_lt h).le lF p q b v z) (fun z => gNil_le lF p q b v z.2)
theorem gVar_lt {fk : Nat → Int32} : gLt (gVar fk) := fun lF p q b v h => by have := h.1; omega
theorem gTy_lt {fk : Nat → Int32} {d : Nat} : gLt (gTy fk d) := fun lF p q b v h => gTy_gt h
theorem seqP_le {R : gP} (h : gLe R) : ∀ n : Nat, gLe (seqP R n)
  | 0 => gNil_le
  | n + 1 => gq_le (seqP_le h n) h
theorem gAmp_lt {fk : Nat → Int32} : gLt (gAmp fk) := fun lF p q b v h => by
  have := h.2.1
  unfold unR at this
  split at this <;> omega
section
variable {fk lk : Nat → Int32} {N : gRel}
theorem sepR_le {S : Nat → Nat → Nat → Prop} (hS : ∀ p q b : Nat, S p q b → p ≤ q) : ∀ (n p q b : Nat), sepR fk S n p q b → p ≤ q
  | 0, _, _, _, h => absurd h id
  | n + 1, p, q, b, h => by
    rcases h with ⟨-, h⟩ | ⟨r, b1, b2, h1, -, h3, -⟩
    · exact hS _ _ _ h
    · have := sepR_le hS n p r b1 h1
      have := hS _ _ _ h3
      omega
theorem seqR_le {S : Nat → Nat → Nat → Prop} (hS : ∀ p q b : Nat, S p q b → p ≤ q) : ∀ (n p q b : Nat), seqR S n p q b → p ≤ q
  | 0, _, _, _, h => by have := h.1; omega
  | n + 1, p, q, b, h => by
    obtain ⟨r, b1, b2, h1, h3, -⟩ := h
    have := seqR_le hS n p r b1 h1
    have := hS _ _ _ h3
    omega
theorem eStep_lt (hN : ∀ (t p q b : Nat) (ip : Int32), N t p q b ip → p < q) (t p q b : Nat) (ip : Int32) (h : eStep fk lk N t p q b ip) : p < q := by
  have hOne : ∀ p q b : Nat, eOne N p q b → p ≤ q := fun p q b h => by obtain ⟨i, h⟩ := h; have := hN _ _ _ _ _ h; omega
  have hFld : ∀ p q b : Nat, eFld fk N p q b → p ≤ q := fun p q b h => by have := hOne _ _ _ h.2.2; omega
  have hBrk : ∀ (p q b : Nat) (ip : Int32), eBrk fk N p q b ip → p < q := fun p q b ip h => by
    obtain ⟨-, r, h1, -, h3⟩ := h
    have := hN _ _ _ _ _ h1
    omega
  have hExps : ∀ m p q b : Nat, eExps fk lk N m p q b → p < q := fun m p q b h => by
    obtain ⟨-, n, r, -, -, -, h1, -, h3⟩ := h
    rcases h1 with ⟨-, h1, -⟩ | h1
    · omega
    · have := sepR_le hOne n (p + 1) r b h1
      omega
  have hPrim : ∀ (p q b : Nat) (ip : Int32), ePrim fk lk N p q b ip → p < q := fun p q b ip h => by
    rcases h with ⟨-, -, h, -⟩ | ⟨-, h⟩ | ⟨-, h⟩ | ⟨-, -, i, h⟩ | ⟨-, -, h⟩
    · omega
    · rcases h with ⟨-, -, -, h⟩ | ⟨-, -, h⟩ | ⟨-, -, -, h, -⟩
      · rcases h with ⟨-, h⟩ | ⟨-, h, -⟩
        · have := hExps _ _ _ _ h; omega
        · omega
      · have := hExps _ _ _ _ h; omega
      · omega
    · exact hBrk _ _ _ _ h
    · have := hBrk _ _ _ _ h; omega
    · obtain ⟨-, -, n, r, h1, -, h3⟩ := h
      have := sepR_le hFld n (p + 3) r b h1
      omega
  have hUn : ∀ (p q b : Nat) (ip : Int32), eUn fk lk N p q b ip → p < q := fun p q b ip h => by
    rcases h with ⟨-, r, n, h1, h2, -⟩ | ⟨-, i, b2, h1, -⟩
    · have := hPrim _ _ _ _ h1
      have := h2.1
      omega
    · have := hN _ _ _ _ _ h1
      have : p < unR fk p := by unfold unR; split <;> omega
      omega
  rcases h with ⟨-, h⟩ | ⟨-, r, b1, i1, n, b2, h1, h2, -⟩
  · exact hUn _ _ _ _ h
  · have := hUn _ _ _ _ h1
    have := seqR_le (fun p q b h => by obtain ⟨-, i, h⟩ := h; have := hN _ _ _ _ _ h; omega) n r q b2 h2
    omega
end
theorem gE_lt {fk lk : Nat → Int32} : ∀ (k t p q b : Nat) (ip : Int32), gE fk lk k t p q b ip → p < q
  | 0, t, p, q, b, ip, h => eStep_lt (fun _ _ _ _ _ h => absurd h id) t p q b ip h
  | k + 1, t, p, q, b, ip, h => eStep_lt (gE_lt k) t p q b ip h
theorem gEx_lt {fk : Nat → Int32} {k t : Nat} {ip : Int32} : gLt (gEx fk k t ip) := fun lF p q b v h => gE_lt k t p q b ip h.2
theorem gAny_lt {E : Int32 → gP} (h : ∀ ip : Int32, gLt (E ip)) : gLt (gAny E) := fun lF p q b v hr => by obtain ⟨i, hr⟩ := hr; exact h i _ _ _ _ _ hr
theorem gVars_le {fk : Nat → Int32} {n : Nat} : gLe (gVars fk n) := fun lF p q b v h => by have := h.1; have := h.2.1; omega
theorem sBind_le {fk : Nat → Int32} : gLe (sBind fk) := fun lF p q b v h => h.elim (fun z => gNil_le _ _ _ _ _ z.2) (fun z => by obtain ⟨n, -, z⟩ := z; exact (gq_lt (gq_lt gTok_lt gVars_le) gTok_lt.le).le _ _ _ _ _ z)
theorem stmF_lt {fk : Nat → Int32} {d : Nat} {E : Int32 → gP} {B NB : gP} (hE : ∀ ip : Int32, gLt (E ip)) (hB : gLt B) (hNB : gLt NB) : gLt (stmF fk d E B NB) := fun lF p q b v h => by
  have hA := gAny_lt hE
  rcases h with ⟨-, h⟩ | ⟨-, h⟩ | ⟨-, h⟩ | ⟨-, h⟩ | ⟨-, h⟩ | ⟨-, h⟩ | ⟨-, h⟩ | ⟨-, h⟩
  · exact (gq_lt (gq_lt (gq_lt (gq_lt (gq_lt gTok_lt gOpt_le) gVar_lt.le) (gOptR_le gTy_lt.le)) (gOptR_le hA.le)) gTok_lt.le) _ _ _ _ _ h
  · obtain ⟨n, h⟩ := h
    have hI : gLt (sArmI fk E B) := gq_lt (gq_lt gTok_lt hA.le) hB.le
    have hEl : gLe (sEls fk B) := fun lF p q b v h => h.elim (fun z => gNil_le _ _ _ _ _ z.2) (fun z => (gq_lt gTok_lt (fun lF p q b v h => hB.le _ _ _ _ _ h.2)).le _ _ _ _ _ z)
    exact gq_lt2 (seqP_le (gq_lt hI gTok_lt.le).le n) (gq_lt hI hEl) _ _ _ _ _ h
  · obtain ⟨n, h⟩ := h
    have hM : gLe (sMx fk E) := fun lF p q b v h => h.elim (fun z => (gq_lt gAmp_lt (hE 1).le).le _ _ _ _ _ z) (fun z => hA.le _ _ _ _ _ z.2)
    have hAr : gLe (sArm fk NB) := (gq_lt (gq_lt (gq_lt gTok_lt sBind_le) gTok_lt.le) hNB.le).le
    exact (gq_lt (gq_lt (gq_lt (gq_lt gTok_lt hM) gTok_lt.le) (seqP_le hAr n)) gTok_lt.le) _ _ _ _ _ h
  · exact hB _ _ _ _ _ h
  · exact (gq_lt (gq_lt gTok_lt hA.le) hB.le) _ _ _ _ _ h
  · exact (gq_lt (gq_lt gTok_lt (fun lF p q b v h => h.elim (fun z => gNil_le _ _ _ _ _ z.2) (fun z => hA.le _ _ _ _ _ z.2))) gTok_lt.le) _ _ _ _ _ h
  · exact (gq_lt (gq_lt gTok_lt hA.le) gTok_lt.le) _ _ _ _ _ h
  · rcases h with ⟨r, -, -, -, h⟩ | ⟨-, h⟩
    · exact (gq_lt (fun lF p q b v h => hE 1 _ _ _ _ _ h.2) (gq_lt (gq_lt gTok_lt hA.le) gTok_lt.le).le) _ _ _ _ _ h
    · exact (gq_lt hA gTok_lt.le) _ _ _ _ _ h
theorem blkF_lt {fk : Nat → Int32} {S : gP} (h : gLe S) : gLt (blkF fk S) := fun lF p q b v hr => by
  obtain ⟨n, hr⟩ := hr
  exact (gq_lt (gq_lt gTok_lt (seqP_le (fun lF p q b v z => h _ _ _ _ _ z.2) n)) gTok_lt.le) _ _ _ _ _ hr
theorem gSB_lt {fk : Nat → Int32} : ∀ k : Nat, gLt (gSB fk k).1 ∧ gLt (gSB fk k).2
  | 0 => ⟨stmF_lt (fun ip => gEx_lt) (fun _ _ _ _ _ h => absurd h id) (fun _ _ _ _ _ h => absurd h id), fun _ _ _ _ _ h => absurd h id⟩
  | k + 1 => by
    have h := gSB_lt (fk := fk) k
    exact ⟨stmF_lt (fun ip => gEx_lt) (blkF_lt h.1.le) h.2, blkF_lt h.1.le⟩
theorem gBlk_lt {fk lF : Nat → Int32} {k p q b v : Nat} (h : gBlk fk k lF p q b v) : p < q := (gSB_lt k).2 _ _ _ _ _ h
end
-- ad2.dof.lean.txt
section
theorem ngI_m1 : ∀ f : Nat, f < 40 → (-nI (f + 1) - 1 : Int32) < 0 := by decide +kernel
theorem mnI_neg {nq yp nb kn : Nat} {fm : Nat → Int32} (h : mnI nq yp nb fm) (hy : yp ≤ 30) (hk : kn < nq) (hn : fm kn < 0) : ∃ f : Nat, f < nb ∧ fm kn = -nI (f + 1) := by
  rcases h kn hk with z | ⟨s, h1, h2⟩ | z
  · rw [z] at hn; exact absurd hn (by decide)
  · rw [h2] at hn; exact absurd hn (Int32.not_lt.mpr (Int32.le_of_lt (shI_add s (by omega)).2.1))
  · exact z
theorem mnI_pos {nq yp nb kn : Nat} {fm : Nat → Int32} (h : mnI nq yp nb fm) (hb : nb ≤ 40) (hk : kn < nq) (hn : 0 < fm kn) : ∃ s : Nat, s < yp ∧ fm kn = nI (s + 1) := by
  rcases h kn hk with z | z | ⟨f, h1, h2⟩
  · rw [z] at hn; exact absurd hn (by decide)
  · exact z
  · rw [h2] at hn; exact absurd hn (Int32.not_lt.mpr (Int32.le_of_lt (ngI_lt f (by omega))))
/-- all shapes have a size from 1 to 16 -/
def szI (yp n : Nat) (az : Nat → Int32) : Prop := ∀ s : Nat, s < n → ∃ z : Nat, az (4 + s) = nI z ∧ 1 ≤ z ∧ z ≤ 16
def wf_c_funOf : List Cond := [.code yX1_functionOf cX1_functionOf 2 (some .int), .fieldLink RX1 17 "OwnedPlaces$Declarations" "meanings" "[I"]
def wp_c_funOf : List Cond := wf_c_funOf ++ (wsX10 ++ [])
theorem in_c_funOf_X1 : ∀ w ∈ wsX10, w ∈ wp_c_funOf := fun w h => List.mem_append_right _ (List.mem_append_left _ h)
theorem wg_c_funOf : wf_c_funOf.all goodWord = true := by decide +kernel
theorem wm_c_funOf (k : Nat) {w : Cond} (h : wp_c_funOf[k]? = some w) : w ∈ wp_c_funOf := List.mem_of_getElem? h
set_option maxHeartbeats 4000000 in
set_option maxRecDepth 100000 in
theorem c_funOf (l : Launch) (dC : Nat → ClassId) (dI : Nat → Nat → Nat) (e0 dfn dmn : Nat) (dto dmi lf : Int32) (vfn : Value) (h tk tp tn tu tl tb ts tf tz tx th tw : Nat) (ln ft pl : Int32) (nw tt nq : Nat) (y y0 y1 y2 y3 y4 y5 y6 y7 y8 y9 y10 y11 y12 y13 : Nat) (yt yp : Nat) (kI kZ : ClassId) (fk fp fn fm ak ao az ad ab ah au : Nat → Int32) (nb : Nat) (kn : Nat) (sz : Nat) (hnq : nq ≤ 3020) (hyp : yp ≤ 30) (hnb : nb ≤ 40) (hmn : mnI nq yp nb fm) (hkn : kn < nq) : Met l yX1_functionOf wp_c_funOf ({ frames := 0, cells := 0, slots := 0, locals := 0 }) (va_Pc [.ref e0, .int (nI kn)] (fun U => U.heap.size = sz ∧ va_P (dC, dI) vwCl [(e0, .inr (1, [.ref h, .ref y, .ref dfn, .int dto, .int dmi, .ref dmn, vfn, .int lf])), (dmn, .inl (kI, 3020, .inl fm))] U.heap ∧ va_K (dC, dI) vwCl [(kI, .int)] U ∧ va_D (fun _ => True) [(e0, .inr (1, [.ref h, .ref y, .ref dfn, .int dto, .int dmi, .ref dmn, vfn, .int lf])), (dmn, .inl (kI, 3020, .inl fm))])) (va_Qi (fun (r : Int32) (_ : Unit) => r = -1 ∨ ∃ f : Nat, f < nb ∧ r = nI f ∧ fm kn = -nI (f + 1)) (fun (_ : Unit) (tS : State) => va_P (dC, dI) vwCl [(e0, .inr (1, [.ref h, .ref y, .ref dfn, .int dto, .int dmi, .ref dmn, vfn, .int lf])), (dmn, .inl (kI, 3020, .inl fm))] tS.heap ∧ va_K (dC, dI) vwCl [(kI, .int)] tS ∧ va_D (va_A [(e0, .inr (1, [.ref h, .ref y, .ref dfn, .int dto, .int dmi, .ref dmn, vfn, .int lf])), (dmn, .inl (kI, 3020, .inl fm))] sz) [(e0, .inr (1, [.ref h, .ref y, .ref dfn, .int dto, .int dmi, .ref dmn, vfn, .int lf])), (dmn, .inl (kI, 3020, .inl fm))]) (va_A [(e0, .inr (1, [.ref h, .ref y, .ref dfn, .int dto, .int dmi, .ref dmn, vfn, .int lf])), (dmn, .inl (kI, 3020, .inl fm))] sz)) 0 0 (va_A [(e0, .inr (1, [.ref h, .ref y, .ref dfn, .int dto, .int dmi, .ref dmn, vfn, .int lf])), (dmn, .inl (kI, 3020, .inl fm))] sz) := by
  refine Met.ofW (cc := cX1_functionOf) (maxL := 2) (ret := (some .int)) (by decide) rfl ?_
  intro p e s m args below meth c s₁ B hml hv
  obtain ⟨rfl, hsz, hP, hK, hD0⟩ := hv
  have hx := B.exec
  have hb := B.bytes
  have hr := B.returns
  have hts := atoms_spec (ws := wp_c_funOf) B.pre
  have hown : s.vm.findClass RX1 = some m.cls := findClass_of_methodNamed B.named
  have hlocks := B.notSynchronized
  subst hsz
  have hD := hD0.self (sz := s.heap.size)
  generalize hAe : va_A [(e0, .inr (1, [.ref h, .ref y, .ref dfn, .int dto, .int dmi, .ref dmn, vfn, .int lf])), (dmn, .inl (kI, 3020, .inl fm))] s.heap.size = A at hD ⊢
  have hA : ∀ q : Nat, s.heap.size ≤ q → A q := fun q h => by rw [← hAe]; exact Or.inr h
  have hS : va_S A s.heap s.heap [] := va_S.rf
  have hP : va_P (dC, dI) vwCl [(e0, .inr (1, [.ref h, .ref y, .ref dfn, .int dto, .int dmi, .ref dmn, vfn, .int lf])), (dmn, .inl (kI, 3020, .inl fm))] s.heap := hP
  have hl := lv_entry ([.ref e0, .int (nI kn)]) (n := 2) (Nat.le_of_ble_eq_true rfl)
  rw [lg_entry_eq]
  generalize (lg_sl ([.ref e0, .int (nI kn)]) ++ List.replicate (2 - (lg_sl ([.ref e0, .int (nI kn)])).length) Slot.unset).toArray = ls at hl ⊢
  have hl : lv_has ls 2 [(0, .ref e0), (1, .int (nI kn))] := hl
  refine lv_aload_n hx hb dX1_functionOf_0 rfl (lv_at hl 0 rfl) ?_
  refine va_get (D := (dC, dI)) (ci := 1) (v := .ref dmn) (C := RX1) (T := TX1) (N := 8) hx hb hts in_c_funOf_X1 hown hK hP 0 rfl rfl 5 (by decide) (hts (.fieldLink RX1 17 "OwnedPlaces$Declarations" "meanings" "[I") (wm_c_funOf 1 rfl)) (fun _ h9 => h9) rfl dX1_functionOf_1 ?_
  refine lv_iload_n hx hb dX1_functionOf_4 rfl (lv_at hl 1 rfl) ?_
  refine va_iald hx hb hK hP 1 0 rfl rfl (vp_in_nI (by omega) (by decide)) dX1_functionOf_5 ?_
  refine lv_topi (fun v_1 ev_1 => ?_)
  have hv9 : v_1 = fm kn := ev_1.trans (by rw [nI_clamp (by omega)])
  refine lv_if_ge (tgt := 21) hx hb dX1_functionOf_6 (by decide) (fun hge => ?_) (fun hge => ?_)
  · refine lv_iconst (v := (-1)) hx hb dX1_functionOf_21 (by decide) ?_
    have hP9 := hP.sub (ws' := [(e0, .inr (1, [.ref h, .ref y, .ref dfn, .int dto, .int dmi, .ref dmn, vfn, .int lf])), (dmn, .inl (kI, 3020, .inl fm))]) [0, 1] rfl
    have hD9 := hD.sub (ws' := [(e0, .inr (1, [.ref h, .ref y, .ref dfn, .int dto, .int dmi, .ref dmn, vfn, .int lf])), (dmn, .inl (kI, 3020, .inl fm))]) [0, 1] (by decide) rfl
    have hK9 := hK.sub (tys' := [(kI, .int)]) [0] rfl
    exact W.iret (v := (-1)) hx hb hr (fun tS ht hW => ⟨⟨(-1), (), rfl, (Or.inl rfl), by rw [ht]; exact hP9, va_K.moved hW.alike hK9, hD9⟩, hS.F ht⟩) hS.2.2 dX1_functionOf_22
  · obtain ⟨f9, hf9, hfm⟩ := mnI_neg hmn hyp hkn (by rw [← hv9]; exact Int32.not_le.mp hge)
    refine lv_aload_n hx hb dX1_functionOf_9 rfl (lv_at hl 0 rfl) ?_
    refine va_get (D := (dC, dI)) (ci := 1) (v := .ref dmn) (C := RX1) (T := TX1) (N := 8) hx hb hts in_c_funOf_X1 hown hK hP 0 rfl rfl 5 (by decide) (hts (.fieldLink RX1 17 "OwnedPlaces$Declarations" "meanings" "[I") (wm_c_funOf 1 rfl)) (fun _ h9 => h9) rfl dX1_functionOf_10 ?_
    refine lv_iload_n hx hb dX1_functionOf_13 rfl (lv_at hl 1 rfl) ?_
    refine va_iald hx hb hK hP 1 0 rfl rfl (vp_in_nI (by omega) (by decide)) dX1_functionOf_14 ?_
    refine lv_topi (fun v_2 ev_2 => ?_)
    obtain rfl : v_2 = -nI (f9 + 1) := ev_2.trans (by rw [nI_clamp (by omega)]; exact hfm)
    refine lv_ineg hx hb dX1_functionOf_15 ?_
    refine lv_topi (fun f_3 ef_3 => ?_)
    refine lv_iconst (v := 1) hx hb dX1_functionOf_16 (by decide) ?_
    refine lv_isub hx hb dX1_functionOf_17 ?_
    refine lv_topi (fun f_4 ef_4 => ?_)
    obtain rfl : f_4 = nI f9 := ef_4.trans (by rw [ef_3]; exact ngI_sub f9 (by omega))
    refine lv_goto (tgt := 22) hx hb dX1_functionOf_18 (by decide) ?_
    have hP9 := hP.sub (ws' := [(e0, .inr (1, [.ref h, .ref y, .ref dfn, .int dto, .int dmi, .ref dmn, vfn, .int lf])), (dmn, .inl (kI, 3020, .inl fm))]) [0, 1] rfl
    have hD9 := hD.sub (ws' := [(e0, .inr (1, [.ref h, .ref y, .ref dfn, .int dto, .int dmi, .ref dmn, vfn, .int lf])), (dmn, .inl (kI, 3020, .inl fm))]) [0, 1] (by decide) rfl
    have hK9 := hK.sub (tys' := [(kI, .int)]) [0] rfl
    exact W.iret (v := nI f9) hx hb hr (fun tS ht hW => ⟨⟨(nI f9), (), rfl, (Or.inr ⟨f9, hf9, rfl, hfm⟩), by rw [ht]; exact hP9, va_K.moved hW.alike hK9, hD9⟩, hS.F ht⟩) hS.2.2 dX1_functionOf_22
def wf_c_shapeOf : List Cond := [.code yX1_shapeOf cX1_shapeOf 4 (some .int), .fieldLink RX1 17 "OwnedPlaces$Declarations" "meanings" "[I", .fieldLink RX1 25 "OwnedPlaces$Declarations" "types" "LOwnedPlaces$Types;", .fieldLink RX1 75 "OwnedPlaces$Types" "kind" "[I"]
def wp_c_shapeOf : List Cond := wf_c_shapeOf ++ (wsX10 ++ (wsX100 ++ []))
theorem in_c_shapeOf_X1 : ∀ w ∈ wsX10, w ∈ wp_c_shapeOf := fun w h => List.mem_append_right _ (List.mem_append_left _ h)
theorem in_c_shapeOf_X10 : ∀ w ∈ wsX100, w ∈ wp_c_shapeOf := fun w h => List.mem_append_right _ (List.mem_append_right _ (List.mem_append_left _ h))
theorem wg_c_shapeOf : wf_c_shapeOf.all goodWord = true := by decide +kernel
theorem wm_c_shapeOf (k : Nat) {w : Cond} (h : wp_c_shapeOf[k]? = some w) : w ∈ wp_c_shapeOf := List.mem_of_getElem? h
set_option maxHeartbeats 4000000 in
set_option maxRecDepth 100000 in
theorem c_shapeOf (l : Launch) (dC : Nat → ClassId) (dI : Nat → Nat → Nat) (e0 dfn dmn : Nat) (dto dmi lf : Int32) (vfn : Value) (h tk tp tn tu tl tb ts tf tz tx th tw : Nat) (ln ft pl : Int32) (nw tt nq : Nat) (y y0 y1 y2 y3 y4 y5 y6 y7 y8 y9 y10 y11 y12 y13 : Nat) (yt yp : Nat) (kI kZ : ClassId) (fk fp fn fm ak ao az ad ab ah au : Nat → Int32) (nb : Nat) (kn : Nat) (kd : Int32) (sz : Nat) (hnq : nq ≤ 3020) (hyp : yp ≤ 30) (hnb : nb ≤ 40) (hmn : mnI nq yp nb fm) (hkn : kn < nq) : Met l yX1_shapeOf wp_c_shapeOf ({ frames := 0, cells := 0, slots := 0, locals := 0 }) (va_Pc [.ref e0, .int (nI kn), .int kd] (fun U => U.heap.size = sz ∧ va_P (dC, dI) vwCl [(e0, .inr (1, [.ref h, .ref y, .ref dfn, .int dto, .int dmi, .ref dmn, vfn, .int lf])), (y, .inr (10, [.ref y0, .ref y1, .ref y2, .ref y3, .ref y4, .ref y5, .ref y6, .int (nI yt), .int (nI yp), .ref y7, .ref y8, .ref y9, .ref y10, .ref y11, .ref y12, .ref y13])), (dmn, .inl (kI, 3020, .inl fm)), (y0, .inl (kI, 3040, .inl ak))] U.heap ∧ va_K (dC, dI) vwCl [(kI, .int)] U ∧ va_D (fun _ => True) [(e0, .inr (1, [.ref h, .ref y, .ref dfn, .int dto, .int dmi, .ref dmn, vfn, .int lf])), (y, .inr (10, [.ref y0, .ref y1, .ref y2, .ref y3, .ref y4, .ref y5, .ref y6, .int (nI yt), .int (nI yp), .ref y7, .ref y8, .ref y9, .ref y10, .ref y11, .ref y12, .ref y13])), (dmn, .inl (kI, 3020, .inl fm)), (y0, .inl (kI, 3040, .inl ak))])) (va_Qi (fun (r : Int32) (_ : Unit) => r = -1 ∨ ∃ s : Nat, s < yp ∧ r = nI s ∧ ak (4 + s) = kd) (fun (_ : Unit) (tS : State) => va_P (dC, dI) vwCl [(e0, .inr (1, [.ref h, .ref y, .ref dfn, .int dto, .int dmi, .ref dmn, vfn, .int lf])), (y, .inr (10, [.ref y0, .ref y1, .ref y2, .ref y3, .ref y4, .ref y5, .ref y6, .int (nI yt), .int (nI yp), .ref y7, .ref y8, .ref y9, .ref y10, .ref y11, .ref y12, .ref y13])), (dmn, .inl (kI, 3020, .inl fm)), (y0, .inl (kI, 3040, .inl ak))] tS.heap ∧ va_K (dC, dI) vwCl [(kI, .int)] tS ∧ va_D (va_A [(e0, .inr (1, [.ref h, .ref y, .ref dfn, .int dto, .int dmi, .ref dmn, vfn, .int lf])), (y, .inr (10, [.ref y0, .ref y1, .ref y2, .ref y3, .ref y4, .ref y5, .ref y6, .int (nI yt), .int (nI yp), .ref y7, .ref y8, .ref y9, .ref y10, .ref y11, .ref y12, .ref y13])), (dmn, .inl (kI, 3020, .inl fm)), (y0, .inl (kI, 3040, .inl ak))] sz) [(e0, .inr (1, [.ref h, .ref y, .ref dfn, .int dto, .int dmi, .ref dmn, vfn, .int lf])), (y, .inr (10, [.ref y0, .ref y1, .ref y2, .ref y3, .ref y4, .ref y5, .ref y6, .int (nI yt), .int (nI yp), .ref y7, .ref y8, .ref y9, .ref y10, .ref y11, .ref y12, .ref y13])), (dmn, .inl (kI, 3020, .inl fm)), (y0, .inl (kI, 3040, .inl ak))]) (va_A [(e0, .inr (1, [.ref h, .ref y, .ref dfn, .int dto, .int dmi, .ref dmn, vfn, .int lf])), (y, .inr (10, [.ref y0, .ref y1, .ref y2, .ref y3, .ref y4, .ref y5, .ref y6, .int (nI yt), .int (nI yp), .ref y7, .ref y8, .ref y9, .ref y10, .ref y11, .ref y12, .ref y13])), (dmn, .inl (kI, 3020, .inl fm)), (y0, .inl (kI, 3040, .inl ak))] sz)) 0 0 (va_A [(e0, .inr (1, [.ref h, .ref y, .ref dfn, .int dto, .int dmi, .ref dmn, vfn, .int lf])), (y, .inr (10, [.ref y0, .ref y1, .ref y2, .ref y3, .ref y4, .ref y5, .ref y6, .int (nI yt), .int (nI yp), .ref y7, .ref y8, .ref y9, .ref y10, .ref y11, .ref y12, .ref y13])), (dmn, .inl (kI, 3020, .inl fm)), (y0, .inl (kI, 3040, .inl ak))] sz) := by
  refine Met.ofW (cc := cX1_shapeOf) (maxL := 4) (ret := (some .int)) (by decide) rfl ?_
  intro p e s m args below meth c s₁ B hml hv
  obtain ⟨rfl, hsz, hP, hK, hD0⟩ := hv
  have hx := B.exec
  have hb := B.bytes
  have hr := B.returns
  have hts := atoms_spec (ws := wp_c_shapeOf) B.pre
  have hown : s.vm.findClass RX1 = some m.cls := findClass_of_methodNamed B.named
  have hlocks := B.notSynchronized
  subst hsz
  have hD := hD0.self (sz := s.heap.size)
  generalize hAe : va_A [(e0, .inr (1, [.ref h, .ref y, .ref dfn, .int dto, .int dmi, .ref dmn, vfn, .int lf])), (y, .inr (10, [.ref y0, .ref y1, .ref y2, .ref y3, .ref y4, .ref y5, .ref y6, .int (nI yt), .int (nI yp), .ref y7, .ref y8, .ref y9, .ref y10, .ref y11, .ref y12, .ref y13])), (dmn, .inl (kI, 3020, .inl fm)), (y0, .inl (kI, 3040, .inl ak))] s.heap.size = A at hD ⊢
  have hA : ∀ q : Nat, s.heap.size ≤ q → A q := fun q h => by rw [← hAe]; exact Or.inr h
  have hS : va_S A s.heap s.heap [] := va_S.rf
  have hP : va_P (dC, dI) vwCl [(e0, .inr (1, [.ref h, .ref y, .ref dfn, .int dto, .int dmi, .ref dmn, vfn, .int lf])), (y, .inr (10, [.ref y0, .ref y1, .ref y2, .ref y3, .ref y4, .ref y5, .ref y6, .int (nI yt), .int (nI yp), .ref y7, .ref y8, .ref y9, .ref y10, .ref y11, .ref y12, .ref y13])), (dmn, .inl (kI, 3020, .inl fm)), (y0, .inl (kI, 3040, .inl ak))] s.heap := hP
  have hl := lv_entry ([.ref e0, .int (nI kn), .int kd]) (n := 4) (Nat.le_of_ble_eq_true rfl)
  rw [lg_entry_eq]
  generalize (lg_sl ([.ref e0, .int (nI kn), .int kd]) ++ List.replicate (4 - (lg_sl ([.ref e0, .int (nI kn), .int kd])).length) Slot.unset).toArray = ls at hl ⊢
  have hl : lv_has ls 4 [(0, .ref e0), (1, .int (nI kn)), (2, .int kd)] := hl
  refine lv_aload_n hx hb dX1_shapeOf_0 rfl (lv_at hl 0 rfl) ?_
  refine va_get (D := (dC, dI)) (ci := 1) (v := .ref dmn) (C := RX1) (T := TX1) (N := 8) hx hb hts in_c_shapeOf_X1 hown hK hP 0 rfl rfl 5 (by decide) (hts (.fieldLink RX1 17 "OwnedPlaces$Declarations" "meanings" "[I") (wm_c_shapeOf 1 rfl)) (fun _ h9 => h9) rfl dX1_shapeOf_1 ?_
  refine lv_iload_n hx hb dX1_shapeOf_4 rfl (lv_at hl 1 rfl) ?_
  refine va_iald hx hb hK hP 2 0 rfl rfl (vp_in_nI (by omega) (by decide)) dX1_shapeOf_5 ?_
  refine lv_topi (fun v_1 ev_1 => ?_)
  have hv9 : v_1 = fm kn := ev_1.trans (by rw [nI_clamp (by omega)])
  refine lv_iconst (v := 1) hx hb dX1_shapeOf_6 (by decide) ?_
  refine lv_isub hx hb dX1_shapeOf_7 ?_
  refine lv_topi (fun f_2 ef_2 => ?_)
  have hf9 : f_2 = fm kn - 1 := by rw [ef_2, hv9]
  refine lv_istore_n (lv' := [(3, .int f_2), (0, .ref e0), (1, .int (nI kn)), (2, .int kd)]) hx hb dX1_shapeOf_8 rfl hl (by decide) rfl (fun ls hl => ?_)
  refine lv_iload_n hx hb dX1_shapeOf_9 rfl (lv_at hl 0 rfl) ?_
  refine lv_if_lt (tgt := 32) hx hb dX1_shapeOf_10 (by decide) (fun hlt => ?_) (fun hlt => ?_)
  · refine lv_iconst (v := (-1)) hx hb dX1_shapeOf_32 (by decide) ?_
    have hP9 := hP.sub (ws' := [(e0, .inr (1, [.ref h, .ref y, .ref dfn, .int dto, .int dmi, .ref dmn, vfn, .int lf])), (y, .inr (10, [.ref y0, .ref y1, .ref y2, .ref y3, .ref y4, .ref y5, .ref y6, .int (nI yt), .int (nI yp), .ref y7, .ref y8, .ref y9, .ref y10, .ref y11, .ref y12, .ref y13])), (dmn, .inl (kI, 3020, .inl fm)), (y0, .inl (kI, 3040, .inl ak))]) [0, 1, 2, 3] rfl
    have hD9 := hD.sub (ws' := [(e0, .inr (1, [.ref h, .ref y, .ref dfn, .int dto, .int dmi, .ref dmn, vfn, .int lf])), (y, .inr (10, [.ref y0, .ref y1, .ref y2, .ref y3, .ref y4, .ref y5, .ref y6, .int (nI yt), .int (nI yp), .ref y7, .ref y8, .ref y9, .ref y10, .ref y11, .ref y12, .ref y13])), (dmn, .inl (kI, 3020, .inl fm)), (y0, .inl (kI, 3040, .inl ak))]) [0, 1, 2, 3] (by decide) rfl
    have hK9 := hK.sub (tys' := [(kI, .int)]) [0] rfl
    exact W.iret (v := (-1)) hx hb hr (fun tS ht hW => ⟨⟨(-1), (), rfl, (Or.inl rfl), by rw [ht]; exact hP9, va_K.moved hW.alike hK9, hD9⟩, hS.F ht⟩) hS.2.2 dX1_shapeOf_33
  · obtain ⟨s9, hs9, hfm⟩ := mnI_pos hmn hnb hkn (by
      rcases hmn kn hkn with z | ⟨s, h1, h2⟩ | ⟨f, h1, h2⟩
      · exact absurd (show f_2 < 0 by rw [hf9, z]; decide) hlt
      · rw [h2]; exact (shI_add s (by omega)).2.1
      · exact absurd (show f_2 < 0 by rw [hf9, h2]; exact ngI_m1 f (by omega)) hlt)
    obtain rfl : f_2 = nI s9 := hf9.trans (by rw [hfm]; exact (shI_add s9 (by omega)).2.2)
    have hl : lv_has ls 4 [(3, .int (nI s9)), (0, .ref e0), (1, .int (nI kn)), (2, .int kd)] := hl
    refine lv_aload_n hx hb dX1_shapeOf_13 rfl (lv_at hl 1 rfl) ?_
    refine va_get (D := (dC, dI)) (ci := 1) (v := .ref y) (C := RX1) (T := TX1) (N := 8) hx hb hts in_c_shapeOf_X1 hown hK hP 0 rfl rfl 1 (by decide) (hts (.fieldLink RX1 25 "OwnedPlaces$Declarations" "types" "LOwnedPlaces$Types;") (wm_c_shapeOf 2 rfl)) (fun _ h9 => h9) rfl dX1_shapeOf_14 ?_
    refine va_get (D := (dC, dI)) (ci := 10) (v := .ref y0) (C := RX10) (T := TX10) (N := 16) hx hb hts in_c_shapeOf_X10 hown hK hP 1 rfl rfl 0 (by decide) (hts (.fieldLink RX1 75 "OwnedPlaces$Types" "kind" "[I") (wm_c_shapeOf 3 rfl)) (fun _ h9 => h9) rfl dX1_shapeOf_17 ?_
    refine lv_iconst (v := 4) hx hb dX1_shapeOf_20 (by decide) ?_
    refine lv_iload_n hx hb dX1_shapeOf_21 rfl (lv_at hl 0 rfl) ?_
    refine lv_iadd hx hb dX1_shapeOf_22 ?_
    refine lv_topi (fun f_3 ef_3 => ?_)
    obtain rfl : f_3 = nI (4 + s9) := ef_3.trans (nI_add 4 s9)
    refine va_iald hx hb hK hP 3 0 rfl rfl (vp_in_nI (by omega) (by decide)) dX1_shapeOf_23 ?_
    refine lv_topi (fun v_4 ev_4 => ?_)
    have hk9 : v_4 = ak (4 + s9) := ev_4.trans (by rw [nI_clamp (by omega)])
    refine lv_iload_n hx hb dX1_shapeOf_24 rfl (lv_at hl 3 rfl) ?_
    refine lv_icmp_ne (tgt := 32) hx hb dX1_shapeOf_25 (by decide) (fun hne => ?_) (fun hne => ?_)
    · refine lv_iconst (v := (-1)) hx hb dX1_shapeOf_32 (by decide) ?_
      have hP9 := hP.sub (ws' := [(e0, .inr (1, [.ref h, .ref y, .ref dfn, .int dto, .int dmi, .ref dmn, vfn, .int lf])), (y, .inr (10, [.ref y0, .ref y1, .ref y2, .ref y3, .ref y4, .ref y5, .ref y6, .int (nI yt), .int (nI yp), .ref y7, .ref y8, .ref y9, .ref y10, .ref y11, .ref y12, .ref y13])), (dmn, .inl (kI, 3020, .inl fm)), (y0, .inl (kI, 3040, .inl ak))]) [0, 1, 2, 3] rfl
      have hD9 := hD.sub (ws' := [(e0, .inr (1, [.ref h, .ref y, .ref dfn, .int dto, .int dmi, .ref dmn, vfn, .int lf])), (y, .inr (10, [.ref y0, .ref y1, .ref y2, .ref y3, .ref y4, .ref y5, .ref y6, .int (nI yt), .int (nI yp), .ref y7, .ref y8, .ref y9, .ref y10, .ref y11, .ref y12, .ref y13])), (dmn, .inl (kI, 3020, .inl fm)), (y0, .inl (kI, 3040, .inl ak))]) [0, 1, 2, 3] (by decide) rfl
      have hK9 := hK.sub (tys' := [(kI, .int)]) [0] rfl
      exact W.iret (v := (-1)) hx hb hr (fun tS ht hW => ⟨⟨(-1), (), rfl, (Or.inl rfl), by rw [ht]; exact hP9, va_K.moved hW.alike hK9, hD9⟩, hS.F ht⟩) hS.2.2 dX1_shapeOf_33
    · refine lv_iload_n hx hb dX1_shapeOf_28 rfl (lv_at hl 0 rfl) ?_
      refine lv_goto (tgt := 33) hx hb dX1_shapeOf_29 (by decide) ?_
      have hP9 := hP.sub (ws' := [(e0, .inr (1, [.ref h, .ref y, .ref dfn, .int dto, .int dmi, .ref dmn, vfn, .int lf])), (y, .inr (10, [.ref y0, .ref y1, .ref y2, .ref y3, .ref y4, .ref y5, .ref y6, .int (nI yt), .int (nI yp), .ref y7, .ref y8, .ref y9, .ref y10, .ref y11, .ref y12, .ref y13])), (dmn, .inl (kI, 3020, .inl fm)), (y0, .inl (kI, 3040, .inl ak))]) [0, 1, 2, 3] rfl
      have hD9 := hD.sub (ws' := [(e0, .inr (1, [.ref h, .ref y, .ref dfn, .int dto, .int dmi, .ref dmn, vfn, .int lf])), (y, .inr (10, [.ref y0, .ref y1, .ref y2, .ref y3, .ref y4, .ref y5, .ref y6, .int (nI yt), .int (nI yp), .ref y7, .ref y8, .ref y9, .ref y10, .ref y11, .ref y12, .ref y13])), (dmn, .inl (kI, 3020, .inl fm)), (y0, .inl (kI, 3040, .inl ak))]) [0, 1, 2, 3] (by decide) rfl
      have hK9 := hK.sub (tys' := [(kI, .int)]) [0] rfl
      exact W.iret (v := nI s9) hx hb hr (fun tS ht hW => ⟨⟨(nI s9), (), rfl, (Or.inr ⟨s9, hs9, rfl, hk9.symm.trans hne⟩), by rw [ht]; exact hP9, va_K.moved hW.alike hK9, hD9⟩, hS.F ht⟩) hS.2.2 dX1_shapeOf_33
end
-- ad3.vr.lean.txt
section
/-- rows of a function's variables: types, mutable -/
def vrI (et em : Nat → Int32) : Prop := (∀ v : Nat, v < 40 → et v = -1 ∨ ∃ k : Nat, k < 3040 ∧ et v = nI k) ∧ ∀ v : Nat, v < 40 → em v = 0 ∨ em v = 1
theorem vrI_S {et em et2 em2 : Nat → Int32} {i u : Nat} {mu : Int32} (h : vrI et em) (h1 : et2 = upd et i (nI u)) (hu : u < 3040) (h2 : em2 = upd em i mu) (hmu : mu = 0 ∨ mu = 1) : vrI et2 em2 := by
  refine ⟨fun v hv => ?_, fun v hv => ?_⟩
  · by_cases e : v = i
    · subst e; rw [h1, pk_us]; exact Or.inr ⟨u, hu, rfl⟩
    · rw [h1, pk_un e]; exact h.1 v hv
  · by_cases e : v = i
    · subst e; rw [h2, pk_us]; exact hmu
    · rw [h2, pk_un e]; exact h.2 v hv
/-- n parameters that have no end -/
def opI (n : Nat) (ez : Nat → Int32) : Prop := ∀ j : Nat, j < n → ez j = 1073741824
theorem opI_S {n : Nat} {ez ez2 : Nat → Int32} (h : opI n ez) (h1 : ez2 = upd ez n 1073741824) : opI (n + 1) ez2 := fun j hj => by
  by_cases e : j = n
  · subst e; rw [h1, pk_us]
  · rw [h1, pk_un e]; exact h j (by omega)
end
