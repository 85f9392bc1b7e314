theorem lvK_le (k : Int32) : lvK k ≤ 5 := by
  unfold lvK
  repeat (first | decide | (split; decide))
/-- a counter with a limit went up by b -/
def gup (M : Nat) (g g2 : Int32) (b : Nat) : Prop := ∀ x : Nat, x ≤ M → g = nI x → g2 = nI (x + b) ∧ x + b ≤ M
theorem gup_0 {M : Nat} {g : Int32} : gup M g g 0 := fun _ h e => ⟨e, h⟩
theorem gup_tr {M a b : Nat} {g g1 g2 : Int32} (h1 : gup M g g1 a) (h2 : gup M g1 g2 b) : gup M g g2 (a + b) := fun x hx e => by
  obtain ⟨e1, hx1⟩ := h1 x hx e
  obtain ⟨e2, hx2⟩ := h2 _ hx1 e1
  exact ⟨by rw [e2, Nat.add_assoc], by omega⟩
theorem gup_1 {M : Nat} {g : Int32} (hM : M < 2 ^ 30) (h : g ≠ nI M) : gup M g (g + 1) 1 := fun x hx e => by
  have : x ≠ M := fun q => h (by rw [e, q])
  exact ⟨by rw [e]; exact nI_1 x, by omega⟩
/-- cursor, fault, borrows, variables, links -/
abbrev gS := Nat × Int32 × Int32 × Int32 × (Nat → Int32)
/-- what stands from p to q, with the links as they will be: b borrows, v variables -/
abbrev gP := (Nat → Int32) → Nat → Nat → Nat → Nat → Prop
/-- a reader of the grammar went from s to s', over R; or there is a fault -/
def gOK (tt st mn : Nat) (s s' : gS) (R : gP) : Prop :=
  (s.2.1 = 0 ∧ s'.2.1 = 0 ∧ s.1 + mn ≤ s'.1 ∧ s'.1 < tt ∧ (∀ j : Nat, (j < s.1 + st ∨ s'.1 ≤ j) → s'.2.2.2.2 j = s.2.2.2.2 j) ∧ ∃ b v : Nat, gup 54 s.2.2.1 s'.2.2.1 b ∧ gup 40 s.2.2.2.1 s'.2.2.2.1 v ∧ ∀ lF : Nat → Int32, (∀ j : Nat, s.1 + st ≤ j → j < s'.1 → lF j = s'.2.2.2.2 j) → R lF s.1 s'.1 b v) ∨ (s'.2.1 ≠ 0 ∧ s'.1 = tt - 1)
theorem gOK_fl {tt st mn : Nat} {s s' : gS} {R : gP} (h : gOK tt st mn s s' R) : s'.2.1 ≠ 0 → s'.1 = tt - 1 := fun q => h.elim (fun z => absurd z.2.1 q) (fun z => z.2)
theorem gOK_lt {tt st mn : Nat} {s s' : gS} {R : gP} (h : gOK tt st mn s s' R) (ht : s.1 < tt) : s'.1 < tt := h.elim (fun z => z.2.2.2.1) (fun z => by omega)
/-- one behind the other -/
def gq (R1 R2 : gP) : gP := fun lF p q b v => ∃ r b1 v1 b2 v2 : Nat, R1 lF p r b1 v1 ∧ R2 lF r q b2 v2 ∧ b = b1 + b2 ∧ v = v1 + v2
theorem gOK_seq {tt st m1 st2 m2 : Nat} {s s1 s2 : gS} {R1 R2 : gP} (h1 : gOK tt st m1 s s1 R1) (h2 : gOK tt st2 m2 s1 s2 R2) (hs : st ≤ m1 + st2) : gOK tt st (m1 + m2) s s2 (gq R1 R2) := by
  rcases h2 with ⟨e1, e2, e3, e4, e5, b2, v2, g2, w2, k2⟩ | q
  · rcases h1 with ⟨c1, c2, c3, c4, c5, b1, v1, g1, w1, k1⟩ | ⟨q1, q2⟩
    · refine Or.inl ⟨c1, e2, by omega, e4, fun j hj => ?_, b1 + b2, v1 + v2, gup_tr g1 g2, gup_tr w1 w2, fun lF hF => ⟨s1.1, b1, v1, b2, v2, k1 lF (fun j ha hb => ?_), k2 lF (fun j ha hb => hF j (by omega) hb), rfl, rfl⟩⟩
      · rw [e5 j (by omega)]
        rcases Nat.lt_or_ge j (s.1 + st) with z | z
        · exact c5 j (Or.inl z)
        · exact c5 j (Or.inr (by omega))
      · rw [hF j ha (by omega)]; exact e5 j (Or.inl (by omega))
    · exact absurd e1 q1
  · exact Or.inr q
theorem gOK_mono {tt st mn st' mn' : Nat} {s s' : gS} {R R' : gP} (h : gOK tt st mn s s' R) (hR : ∀ (lF : Nat → Int32) (p q b v : Nat), p + mn ≤ q → q < tt → R lF p q b v → R' lF p q b v) (hs : st' ≤ st) (hm : mn' ≤ mn) : gOK tt st' mn' s s' R' := by
  rcases h with ⟨c1, c2, c3, c4, c5, b1, v1, g1, w1, k1⟩ | q
  · exact Or.inl ⟨c1, c2, by omega, c4, fun j hj => c5 j (by omega), b1, v1, g1, w1, fun lF hF => hR lF _ _ b1 v1 c3 c4 (k1 lF (fun j ha hb => hF j (by omega) hb))⟩
  · exact Or.inr q
/-- a token -/
def gTok (fk : Nat → Int32) (wd : Int32) : gP := fun _ p q b v => q = p + 1 ∧ fk p = wd ∧ b = 0 ∧ v = 0
theorem gOK_need {tt nw nw2 : Nat} {ft gbo gva ft2 pl pl2 wd : Int32} {fl fk : Nat → Int32} (h : (nw2 = nw + 1 ∧ nw2 < tt ∧ fk nw = wd ∧ ft2 = ft ∧ pl2 = pl) ∨ (nw2 = tt - 1 ∧ ft2 ≠ 0)) (hfl : ft ≠ 0 → nw = tt - 1) (hk0 : fk (tt - 1) = 0) (hwd : wd ≠ 0) : gOK tt 1 1 (nw, ft, gbo, gva, fl) (nw2, ft2, gbo, gva, fl) (gTok fk wd) := by
  rcases h with ⟨h1, h2, h3, h4, h5⟩ | ⟨h1, h2⟩
  · have hf : ft = 0 := by
      rcases Classical.em (ft = 0) with q | q
      · exact q
      · rw [hfl q, hk0] at h3; exact absurd h3.symm hwd
    exact Or.inl ⟨hf, h4.trans hf, by show nw + 1 ≤ nw2; omega, h2, fun _ _ => rfl, 0, 0, gup_0, gup_0, fun _ _ => ⟨h1, h3, rfl, rfl⟩⟩
  · exact Or.inr ⟨h2, h1⟩
theorem ft_0 {tt nw : Nat} {ft : Int32} (h2 : nw + 1 < tt) (hfl : ft ≠ 0 → nw = tt - 1) : ft = 0 := by
  rcases Classical.em (ft = 0) with q | q
  · exact q
  · have := hfl q; omega
theorem gOK_tok {tt nw : Nat} {ft gbo gva wd : Int32} {fl fk : Nat → Int32} (h2 : nw + 1 < tt) (h3 : fk nw = wd) (hfl : ft ≠ 0 → nw = tt - 1) : gOK tt 1 1 (nw, ft, gbo, gva, fl) (nw + 1, ft, gbo, gva, fl) (gTok fk wd) := by
  have hf := ft_0 h2 hfl
  exact Or.inl ⟨hf, hf, by show nw + 1 ≤ nw + 1; omega, h2, fun _ _ => rfl, 0, 0, gup_0, gup_0, fun _ _ => ⟨rfl, h3, rfl, rfl⟩⟩
/-- nothing -/
def gNil : gP := fun _ p q b v => q = p ∧ b = 0 ∧ v = 0
theorem gOK_nil {tt nw : Nat} {ft gbo gva : Int32} {fl : Nat → Int32} (ht : nw < tt) (hfl : ft ≠ 0 → nw = tt - 1) : gOK tt 1 0 (nw, ft, gbo, gva, fl) (nw, ft, gbo, gva, fl) gNil := by
  rcases Classical.em (ft = 0) with q | q
  · exact Or.inl ⟨q, q, by show nw + 0 ≤ nw; omega, ht, fun _ _ => rfl, 0, 0, gup_0, gup_0, fun _ _ => ⟨rfl, rfl, rfl⟩⟩
  · exact Or.inr ⟨q, hfl q⟩
/-- it was seen that fk nw isn't wd -/
theorem gOK_see {tt st mn : Nat} {s s' : gS} {R : gP} {fk : Nat → Int32} {X : Int32 → Prop} (h : gOK tt st mn s s' R) (hx : X (fk s'.1)) : gOK tt st mn s s' (fun lF p q b v => R lF p q b v ∧ X (fk q)) := by
  rcases h with ⟨c1, c2, c3, c4, c5, b1, v1, g1, w1, k1⟩ | q
  · exact Or.inl ⟨c1, c2, c3, c4, c5, b1, v1, g1, w1, fun lF hF => ⟨k1 lF hF, hx⟩⟩
  · exact Or.inr q
theorem gOK_f {tt st mn : Nat} {s s' : gS} {R : gP} (h : s'.2.1 ≠ 0) (h2 : s'.1 = tt - 1) : gOK tt st mn s s' R := Or.inr ⟨h, h2⟩
theorem kne {fk : Nat → Int32} {tt nw : Nat} {c : Int32} (hk0 : fk (tt - 1) = 0) (hn : nw < tt) (h : fk nw = c) (hc : c ≠ 0) : nw + 1 < tt := by
  rcases Nat.lt_or_ge (nw + 1) tt with q | q
  · exact q
  · rw [show nw = tt - 1 by omega, hk0] at h; exact absurd h.symm hc
abbrev gRel := Nat → Nat → Nat → Nat → Int32 → Prop
/-- n steps behind each other -/
def seqR (S : Nat → Nat → Nat → Prop) : Nat → Nat → Nat → Nat → Prop
  | 0, p, q, b => q = p ∧ b = 0
  | n + 1, p, q, b => ∃ r b1 b2 : Nat, seqR S n p r b1 ∧ S r q b2 ∧ b = b1 + b2
/-- n with commas between -/
def sepR (fk : Nat → Int32) (S : Nat → Nat → Nat → Prop) : Nat → Nat → Nat → Nat → Prop
  | 0, _, _, _ => False
  | n + 1, p, q, b => (n = 0 ∧ S p q b) ∨ ∃ r b1 b2 : Nat, sepR fk S n p r b1 ∧ fk r = 44 ∧ S (r + 1) q b2 ∧ b = b1 + b2
def eOne (N : gRel) (p q b : Nat) : Prop := ∃ ip : Int32, N 1 p q b ip
def eBrk (fk : Nat → Int32) (N : gRel) (p q b : Nat) (ip : Int32) : Prop := fk p = 40 ∧ ∃ r : Nat, N 1 (p + 1) r b ip ∧ fk r = 41 ∧ q = r + 1
def eFld (fk : Nat → Int32) (N : gRel) (p q b : Nat) : Prop := fk p = 2 ∧ fk (p + 1) = 58 ∧ eOne N (p + 2) q b
def eExps (fk lk : Nat → Int32) (N : gRel) (m p q b : Nat) : Prop := fk p = 40 ∧ ∃ n r : Nat, lk p = nI n ∧ n ≤ 3002 ∧ m ≤ n ∧ ((n = 0 ∧ r = p + 1 ∧ b = 0) ∨ sepR fk (eOne N) n (p + 1) r b) ∧ fk r = 41 ∧ q = r + 1
def eNamed (fk lk : Nat → Int32) (N : gRel) (p q b : Nat) (ip : Int32) : Prop :=
  (fk (p + 1) = 134 ∧ fk (p + 2) = 2 ∧ ip = 0 ∧ ((fk (p + 3) = 40 ∧ eExps fk lk N 1 (p + 3) q b) ∨ (fk (p + 3) ≠ 40 ∧ q = p + 3 ∧ b = 0))) ∨ (fk (p + 1) = 40 ∧ ip = 0 ∧ eExps fk lk N 0 (p + 1) q b) ∨ (fk (p + 1) ≠ 134 ∧ fk (p + 1) ≠ 40 ∧ ip = 1 ∧ q = p + 1 ∧ b = 0)
def eBuilt (fk : Nat → Int32) (N : gRel) (p q b : Nat) : Prop := fk (p + 1) = 2 ∧ fk (p + 2) = 123 ∧ ∃ n r : Nat, sepR fk (eFld fk N) n (p + 3) r b ∧ fk r = 125 ∧ q = r + 1
def ePrim (fk lk : Nat → Int32) (N : gRel) (p q b : Nat) (ip : Int32) : Prop :=
  ((fk p = 4 ∨ fk p = 16 ∨ fk p = 17 ∨ fk p = 18) ∧ ip = 0 ∧ q = p + 1 ∧ b = 0) ∨ (fk p = 2 ∧ eNamed fk lk N p q b ip) ∨ (fk p = 40 ∧ eBrk fk N p q b ip) ∨ (fk p = 21 ∧ ip = 0 ∧ ∃ i2 : Int32, eBrk fk N (p + 1) q b i2) ∨ (fk p = 20 ∧ ip = 0 ∧ eBuilt fk N p q b)
/-- n members -/
def eMem (fk : Nat → Int32) (n p q : Nat) : Prop := q = p + 2 * n ∧ ∀ i : Nat, i < n → fk (p + 2 * i) = 46 ∧ fk (p + 2 * i + 1) = 2
def eSuf (fk lk : Nat → Int32) (N : gRel) (p q b : Nat) (ip : Int32) : Prop := ∃ r n : Nat, ePrim fk lk N p r b ip ∧ eMem fk n r q ∧ n ≤ 16 ∧ fk q ≠ 46
def sgK (k : Int32) : Prop := k = 33 ∨ k = 45 ∨ k = 42 ∨ k = 38 ∨ k = 19
/-- behind the sign of a unary exp -/
def unR (fk : Nat → Int32) (p : Nat) : Nat := if fk p = 38 ∧ fk (p + 1) = 9 then p + 2 else p + 1
def eUn (fk lk : Nat → Int32) (N : gRel) (p q b : Nat) (ip : Int32) : Prop :=
  (¬ sgK (fk p) ∧ eSuf fk lk N p q b ip) ∨ (sgK (fk p) ∧ ∃ (i2 : Int32) (b2 : Nat), N 0 (unR fk p) q b2 i2 ∧ b = b2 + (if fk p = 38 then 1 else 0) ∧ ip = if fk p = 42 then i2 else 0)
def eOp (fk : Nat → Int32) (N : gRel) (least p q b : Nat) : Prop := least ≤ lvK (fk p) ∧ ∃ ip : Int32, N (lvK (fk p) + 1) (p + 1) q b ip
def eBin (fk lk : Nat → Int32) (N : gRel) (least p q b : Nat) (ip : Int32) : Prop := ∃ (r b1 : Nat) (i1 : Int32) (n b2 : Nat), eUn fk lk N p r b1 i1 ∧ seqR (eOp fk N least) n r q b2 ∧ b = b1 + b2 ∧ lvK (fk q) < least ∧ ip = if n = 0 then i1 else 0
def eStep (fk lk : Nat → Int32) (N : gRel) : gRel := fun t p q b ip => (t = 0 ∧ eUn fk lk N p q b ip) ∨ (0 < t ∧ eBin fk lk N t p q b ip)
/-- exps, k levels below the deepest: of tag 0 a unary one, of tag t a binary one whose signs bind by t or more -/
def gE (fk lk : Nat → Int32) : Nat → gRel
  | 0 => eStep fk lk (fun _ _ _ _ _ => False)
  | k + 1 => eStep fk lk (gE fk lk k)
def gN (fk lk : Nat → Int32) : Nat → gRel
  | 0 => fun _ _ _ _ _ => False
  | k + 1 => gE fk lk k
theorem gE_eq (fk lk : Nat → Int32) (k : Nat) : gE fk lk k = eStep fk lk (gN fk lk k) := by cases k <;> rfl
theorem gN_s (fk lk : Nat → Int32) {k k1 : Nat} (h : k = k1 + 1) : gN fk lk k = gE fk lk k1 := by rw [h]; rfl
/-- an exp of tag t, k levels below the deepest -/
def gEx (fk : Nat → Int32) (k t : Nat) (ip : Int32) : gP := fun lF p q b v => v = 0 ∧ gE fk lF k t p q b ip
def gBrk (fk : Nat → Int32) (k : Nat) (ip : Int32) : gP := fun lF p q b v => v = 0 ∧ eBrk fk (gN fk lF k) p q b ip
def gExps (fk : Nat → Int32) (k m : Nat) : gP := fun lF p q b v => v = 0 ∧ eExps fk lF (gN fk lF k) m p q b
def gBuilt (fk : Nat → Int32) (k : Nat) : gP := fun lF p q b v => v = 0 ∧ fk p = 20 ∧ eBuilt fk (gN fk lF k) p q b
def gNamed (fk : Nat → Int32) (k : Nat) (ip : Int32) : gP := fun lF p q b v => v = 0 ∧ fk p = 2 ∧ eNamed fk lF (gN fk lF k) p q b ip
def gPrim (fk : Nat → Int32) (k : Nat) (ip : Int32) : gP := fun lF p q b v => v = 0 ∧ ePrim fk lF (gN fk lF k) p q b ip
def gSuf (fk : Nat → Int32) (k : Nat) (ip : Int32) : gP := fun lF p q b v => v = 0 ∧ eSuf fk lF (gN fk lF k) p q b ip
theorem r_brk {fk lF : Nat → Int32} {k k1 p q b v : Nat} {ip : Int32} (hk : k = k1 + 1) (h : gq (gq (gTok fk 40) (gEx fk k1 1 ip)) (gTok fk 41) lF p q b v) : gBrk fk k ip lF p q b v := by
  obtain ⟨r, b1, v1, b2, v2, ⟨r1, b3, v3, b4, v4, ⟨rfl, x1, rfl, rfl⟩, ⟨rfl, x2⟩, rfl, rfl⟩, ⟨rfl, x3, rfl, rfl⟩, rfl, rfl⟩ := h
  exact ⟨rfl, x1, r, by rw [gN_s fk lF hk]; simpa using x2, x3, rfl⟩
/-- a list with commas that has i of them so far -/
def gSep (fk : Nat → Int32) (S : (Nat → Int32) → Nat → Nat → Nat → Prop) (i : Nat) : gP := fun lF p q b v => v = 0 ∧ sepR fk (S lF) i p q b
theorem r_sep1 {fk lF : Nat → Int32} {S : (Nat → Int32) → Nat → Nat → Nat → Prop} {p q b v : Nat} (h1 : v = 0) (h : S lF p q b) : gSep fk S 1 lF p q b v := ⟨h1, Or.inl ⟨rfl, h⟩⟩
theorem r_sepS {fk lF : Nat → Int32} {S : (Nat → Int32) → Nat → Nat → Nat → Prop} {p q b v i : Nat} (h : gq (gq (gSep fk S i) (gTok fk 44)) (fun lF p q b v => v = 0 ∧ S lF p q b) lF p q b v) : gSep fk S (i + 1) lF p q b v := by
  obtain ⟨r, b1, v1, b2, v2, ⟨r1, b3, v3, b4, v4, ⟨rfl, x1⟩, ⟨rfl, x2, rfl, rfl⟩, rfl, rfl⟩, ⟨rfl, x3⟩, rfl, rfl⟩ := h
  exact ⟨rfl, Or.inr ⟨r1, _, b2, x1, x2, x3, by omega⟩⟩
def sOne (fk : Nat → Int32) (k : Nat) (lF : Nat → Int32) (p q b : Nat) : Prop := eOne (gN fk lF k) p q b
def sFld (fk : Nat → Int32) (k : Nat) (lF : Nat → Int32) (p q b : Nat) : Prop := eFld fk (gN fk lF k) p q b
theorem r_one {fk lF : Nat → Int32} {k k1 p q b v : Nat} {ip : Int32} (hk : k = k1 + 1) (h : gEx fk k1 1 ip lF p q b v) : v = 0 ∧ sOne fk k lF p q b := ⟨h.1, ip, by rw [gN_s fk lF hk]; exact h.2⟩
theorem r_fld {fk lF : Nat → Int32} {k k1 p q b v : Nat} {ip : Int32} (hk : k = k1 + 1) (h : gq (gq (gTok fk 2) (gTok fk 58)) (gEx fk k1 1 ip) lF p q b v) : v = 0 ∧ sFld fk k lF p q b := by
  obtain ⟨r, b1, v1, b2, v2, ⟨r1, b3, v3, b4, v4, ⟨rfl, x1, rfl, rfl⟩, ⟨rfl, x2, rfl, rfl⟩, rfl, rfl⟩, ⟨rfl, x3⟩, rfl, rfl⟩ := h
  exact ⟨rfl, x1, x2, ip, by rw [gN_s fk lF hk]; simpa using x3⟩
theorem r_built {fk lF : Nat → Int32} {k i p q b v : Nat} (h : gq (gq (gq (gq (gTok fk 20) (gTok fk 2)) (gTok fk 123)) (gSep fk (sFld fk k) i)) (gTok fk 125) lF p q b v) : gBuilt fk k lF p q b v := by
  obtain ⟨r, b1, v1, b2, v2, ⟨r1, b3, v3, b4, v4, ⟨r2, b5, v5, b6, v6, ⟨r3, b7, v7, b8, v8, ⟨rfl, x1, rfl, rfl⟩, ⟨rfl, x2, rfl, rfl⟩, rfl, rfl⟩, ⟨rfl, x3, rfl, rfl⟩, rfl, rfl⟩, ⟨rfl, x4⟩, rfl, rfl⟩, ⟨rfl, x5, rfl, rfl⟩, rfl, rfl⟩ := h
  exact ⟨rfl, x1, x2, x3, i, r, by simp only [Nat.zero_add, Nat.add_zero]; exact x4, x5, rfl⟩
theorem r_named1 {fk lF : Nat → Int32} {k p q b v : Nat} (h : gq (gq (gq (gTok fk 2) (gTok fk 134)) (gTok fk 2)) (gExps fk k 1) lF p q b v) : gNamed fk k 0 lF p q b v := by
  obtain ⟨r, b1, v1, b2, v2, ⟨r1, b3, v3, b4, v4, ⟨r2, b5, v5, b6, v6, ⟨rfl, x1, rfl, rfl⟩, ⟨rfl, x2, rfl, rfl⟩, rfl, rfl⟩, ⟨rfl, x3, rfl, rfl⟩, rfl, rfl⟩, ⟨rfl, x4⟩, rfl, rfl⟩ := h
  exact ⟨rfl, x1, Or.inl ⟨x2, x3, rfl, Or.inl ⟨x4.1, by simpa using x4⟩⟩⟩
theorem r_named2 {fk lF : Nat → Int32} {k p q b v : Nat} (h : gq (gq (gTok fk 2) (gTok fk 134)) (gTok fk 2) lF p q b v ∧ fk q ≠ 40) : gNamed fk k 0 lF p q b v := by
  obtain ⟨⟨r, b1, v1, b2, v2, ⟨r1, b3, v3, b4, v4, ⟨rfl, x1, rfl, rfl⟩, ⟨rfl, x2, rfl, rfl⟩, rfl, rfl⟩, ⟨rfl, x3, rfl, rfl⟩, rfl, rfl⟩, x4⟩ := h
  exact ⟨rfl, x1, Or.inl ⟨x2, x3, rfl, Or.inr ⟨x4, rfl, rfl⟩⟩⟩
theorem r_named3 {fk lF : Nat → Int32} {k p q b v : Nat} (h : gq (gTok fk 2) (gExps fk k 0) lF p q b v) : gNamed fk k 0 lF p q b v := by
  obtain ⟨r, b1, v1, b2, v2, ⟨rfl, x1, rfl, rfl⟩, ⟨rfl, x4⟩, rfl, rfl⟩ := h
  exact ⟨rfl, x1, Or.inr (Or.inl ⟨x4.1, rfl, by simpa using x4⟩)⟩
theorem r_named4 {fk lF : Nat → Int32} {k p q b v : Nat} (h : gTok fk 2 lF p q b v ∧ (fk q ≠ 134 ∧ fk q ≠ 40)) : gNamed fk k 1 lF p q b v := by
  obtain ⟨⟨rfl, x1, rfl, rfl⟩, x2, x3⟩ := h
  exact ⟨rfl, x1, Or.inr (Or.inr ⟨x2, x3, rfl, rfl, rfl⟩)⟩
theorem r_prim1 {fk lF : Nat → Int32} {k p q b v : Nat} {wd : Int32} (hw : wd = 4 ∨ wd = 16 ∨ wd = 17 ∨ wd = 18) (h : gTok fk wd lF p q b v) : gPrim fk k 0 lF p q b v := by
  obtain ⟨rfl, x1, rfl, rfl⟩ := h
  exact ⟨rfl, Or.inl ⟨by rw [x1]; exact hw, rfl, rfl, rfl⟩⟩
theorem r_prim2 {fk lF : Nat → Int32} {k p q b v : Nat} {ip : Int32} (h : gNamed fk k ip lF p q b v) : gPrim fk k ip lF p q b v := ⟨h.1, Or.inr (Or.inl h.2)⟩
theorem r_prim3 {fk lF : Nat → Int32} {k p q b v : Nat} {ip : Int32} (h : gBrk fk k ip lF p q b v) : gPrim fk k ip lF p q b v := ⟨h.1, Or.inr (Or.inr (Or.inl ⟨h.2.1, h.2⟩))⟩
theorem r_prim4 {fk lF : Nat → Int32} {k p q b v : Nat} {ip : Int32} (h : gq (gTok fk 21) (gBrk fk k ip) lF p q b v) : gPrim fk k 0 lF p q b v := by
  obtain ⟨r, b1, v1, b2, v2, ⟨rfl, x1, rfl, rfl⟩, ⟨rfl, x4⟩, rfl, rfl⟩ := h
  exact ⟨rfl, Or.inr (Or.inr (Or.inr (Or.inl ⟨x1, rfl, ip, by simpa using x4⟩)))⟩
theorem r_prim5 {fk lF : Nat → Int32} {k p q b v : Nat} (h : gBuilt fk k lF p q b v) : gPrim fk k 0 lF p q b v := ⟨h.1, Or.inr (Or.inr (Or.inr (Or.inr ⟨h.2.1, rfl, h.2.2⟩)))⟩
/-- i members so far -/
def gMem (fk : Nat → Int32) (k i : Nat) (ip : Int32) : gP := fun lF p q b v => v = 0 ∧ ∃ r : Nat, ePrim fk lF (gN fk lF k) p r b ip ∧ eMem fk i r q ∧ i ≤ 16
theorem r_mem0 {fk lF : Nat → Int32} {k p q b v : Nat} {ip : Int32} (h : gPrim fk k ip lF p q b v) : gMem fk k 0 ip lF p q b v := ⟨h.1, q, h.2, ⟨by omega, fun i hi => absurd hi (by omega)⟩, by omega⟩
theorem r_memS {fk lF : Nat → Int32} {k i p q b v : Nat} {ip : Int32} (hi : i < 16) (h : gq (gq (gMem fk k i ip) (gTok fk 46)) (gTok fk 2) lF p q b v) : gMem fk k (i + 1) ip lF p q b v := by
  obtain ⟨r, b1, v1, b2, v2, ⟨r1, b3, v3, b4, v4, ⟨rfl, r0, x1, ⟨rfl, x0⟩, -⟩, ⟨rfl, x2, rfl, rfl⟩, rfl, rfl⟩, ⟨rfl, x3, rfl, rfl⟩, rfl, rfl⟩ := h
  refine ⟨rfl, r0, by simpa using x1, ⟨by omega, fun j hj => ?_⟩, hi⟩
  rcases Nat.lt_or_ge j i with z | z
  · exact x0 j z
  · obtain rfl : j = i := by omega
    exact ⟨x2, x3⟩
theorem r_suf {fk lF : Nat → Int32} {k i p q b v : Nat} {ip : Int32} (h : gMem fk k i ip lF p q b v ∧ fk q ≠ 46) : gSuf fk k ip lF p q b v := by
  obtain ⟨⟨h1, r, x1, x2, x3⟩, x4⟩ := h
  exact ⟨h1, r, i, x1, x2, x3, x4⟩
def gUn (fk : Nat → Int32) (k : Nat) (ip : Int32) : gP := gEx fk k 0 ip
theorem r_un0 {fk lF : Nat → Int32} {k p q b v : Nat} {ip : Int32} (hs : ¬ sgK (fk p)) (h : gSuf fk k ip lF p q b v) : gEx fk k 0 ip lF p q b v := ⟨h.1, by rw [gE_eq]; exact Or.inl ⟨rfl, Or.inl ⟨hs, h.2⟩⟩⟩
theorem r_un1 {fk lF : Nat → Int32} {k k1 p q b v : Nat} {c i2 ip : Int32} (hk : k = k1 + 1) (hc : sgK c) (h38 : c ≠ 38) (hip : ip = if c = 42 then i2 else 0) (h : gq (gTok fk c) (gEx fk k1 0 i2) lF p q b v) : gEx fk k 0 ip lF p q b v := by
  obtain ⟨r, b1, v1, b2, v2, ⟨rfl, x1, rfl, rfl⟩, ⟨rfl, x4⟩, rfl, rfl⟩ := h
  refine ⟨rfl, ?_⟩
  rw [gE_eq]
  refine Or.inl ⟨rfl, Or.inr ⟨by rw [x1]; exact hc, i2, b2, ?_, ?_, by rw [x1]; exact hip⟩⟩
  · rw [gN_s fk lF hk]
    have : unR fk p = p + 1 := by unfold unR; rw [x1, if_neg (fun q => h38 q.1)]
    rw [this]; exact x4
  · rw [x1, if_neg h38]; omega
/-- the & of an exp with its mut -/
def gAmp (fk : Nat → Int32) : gP := fun _ p q b v => fk p = 38 ∧ q = unR fk p ∧ b = 1 ∧ v = 0
theorem r_un2 {fk lF : Nat → Int32} {k k1 p q b v : Nat} {i2 : Int32} (hk : k = k1 + 1) (h : gq (gAmp fk) (gEx fk k1 0 i2) lF p q b v) : gEx fk k 0 0 lF p q b v := by
  obtain ⟨r, b1, v1, b2, v2, ⟨x1, rfl, rfl, rfl⟩, ⟨rfl, x4⟩, rfl, rfl⟩ := h
  refine ⟨rfl, ?_⟩
  rw [gE_eq]
  refine Or.inl ⟨rfl, Or.inr ⟨by rw [x1]; exact Or.inr (Or.inr (Or.inr (Or.inl rfl))), i2, b2, ?_, ?_, by rw [x1]; rfl⟩⟩
  · rw [gN_s fk lF hk]; exact x4
  · rw [x1, if_pos rfl]; omega
theorem gOK_amp {tt nw n2 : Nat} {ft gbo gva f1 : Int32} {fl fk : Nat → Int32} (hb : gbo ≠ 54) (hk : fk nw = 38) (h1 : nw + 1 < tt) (h2 : n2 < tt) (hq : (n2 = nw + 2 ∧ fk (nw + 1) = 9) ∨ (n2 = nw + 1 ∧ fk (nw + 1) ≠ 9)) (hfl : ft ≠ 0 → nw = tt - 1) (he : f1 = ft) : gOK tt 1 1 (nw, ft, gbo, gva, fl) (n2, f1, gbo + 1, gva, fl) (gAmp fk) := by
  have hf := ft_0 h1 hfl
  refine Or.inl ⟨hf, he.trans hf, by show nw + 1 ≤ n2; omega, h2, fun _ _ => rfl, 1, 0, gup_1 (by decide) hb, gup_0, fun _ _ => ⟨hk, ?_, rfl, rfl⟩⟩
  show n2 = unR fk nw
  unfold unR
  rcases hq with ⟨q1, q2⟩ | ⟨q1, q2⟩
  · rw [if_pos ⟨hk, q2⟩]; exact q1
  · rw [if_neg (fun z => q2 z.2)]; exact q1
/-- a binary exp with n of its signs so far -/
def gBin (fk : Nat → Int32) (k least n : Nat) (ip : Int32) : gP := fun lF p q b v => v = 0 ∧ ∃ (r b1 : Nat) (i1 : Int32) (b2 : Nat), eUn fk lF (gN fk lF k) p r b1 i1 ∧ seqR (eOp fk (gN fk lF k) least) n r q b2 ∧ b = b1 + b2 ∧ ip = if n = 0 then i1 else 0
theorem r_bin0 {fk lF : Nat → Int32} {k least p q b v : Nat} {ip : Int32} (h : gEx fk k 0 ip lF p q b v) : gBin fk k least 0 ip lF p q b v := by
  obtain ⟨h1, h2⟩ := h
  rw [gE_eq] at h2
  rcases h2 with ⟨-, h2⟩ | ⟨h2, -⟩
  · exact ⟨h1, q, b, ip, 0, h2, ⟨rfl, rfl⟩, rfl, rfl⟩
  · exact absurd h2 (by omega)
theorem r_binS {fk lF : Nat → Int32} {k k1 least n p q b v : Nat} {c ip i2 : Int32} (hk : k = k1 + 1) (hl : least ≤ lvK c) (h : gq (gq (gBin fk k least n ip) (gTok fk c)) (gEx fk k1 (lvK c + 1) i2) lF p q b v) : gBin fk k least (n + 1) 0 lF p q b v := by
  obtain ⟨r, b1, v1, b2, v2, ⟨r1, b3, v3, b4, v4, ⟨rfl, r0, b5, i1, b6, x1, x0, rfl, -⟩, ⟨rfl, x2, rfl, rfl⟩, rfl, rfl⟩, ⟨rfl, x3⟩, rfl, rfl⟩ := h
  refine ⟨rfl, r0, b5, i1, b6 + b2, x1, ⟨r1, b6, b2, x0, ⟨by rw [x2]; exact hl, i2, by rw [x2, gN_s fk lF hk]; exact x3⟩, rfl⟩, by omega, by simp⟩
theorem r_bin {fk lF : Nat → Int32} {k least n p q b v : Nat} {ip : Int32} (h0 : 0 < least) (h : gBin fk k least n ip lF p q b v ∧ lvK (fk q) < least) : gEx fk k least ip lF p q b v := by
  obtain ⟨⟨h1, r, b1, i1, b2, x1, x2, x3, x4⟩, x5⟩ := h
  refine ⟨h1, ?_⟩
  rw [gE_eq]
  exact Or.inr ⟨h0, r, b1, i1, n, b2, x1, x2, x3, x5, x4⟩
theorem gOK_exps {tt n1 n2 n3 i m : Nat} {ft gbo gva f1 bo1 f2 bo2 f3 : Int32} {fl l1 l2 l3 fk : Nat → Int32} {k : Nat} {nw : Nat} (h1 : gOK tt 1 1 (nw, ft, gbo, gva, fl) (n1, f1, bo1, gva, l1) (gTok fk 40)) (h2 : gOK tt 0 0 (n1, f1, bo1, gva, l1) (n2, f2, bo2, gva, l2) (fun lF p q b v => i ≤ 3002 ∧ m ≤ i ∧ ((i = 0 ∧ gNil lF p q b v) ∨ gSep fk (sOne fk k) i lF p q b v))) (h3 : gOK tt 1 1 (n2, f2, bo2, gva, l3) (n3, f3, bo2, gva, l3) (gTok fk 41)) (hl : l3 = upd l2 nw (nI i)) : gOK tt 0 1 (nw, ft, gbo, gva, fl) (n3, f3, bo2, gva, l3) (gExps fk k m) := by
  rcases h3 with ⟨a1, a2, a3, a4, a5, b3, v3, g3, w3, k3⟩ | q
  · rcases h2 with ⟨e1, e2, e3, e4, e5, b2, v2, g2, w2, k2⟩ | ⟨q1, q2⟩
    · rcases h1 with ⟨c1, c2, c3, c4, c5, b1, v1, g1, w1, k1⟩ | ⟨q1, q2⟩
      · dsimp only at *
        obtain ⟨y1, y2, rfl, rfl⟩ := k1 l1 (fun _ _ _ => rfl)
        obtain ⟨z1, z2, rfl, rfl⟩ := k3 l3 (fun _ _ _ => rfl)
        refine Or.inl ⟨c1, a2, by dsimp only; omega, a4, fun j hj => ?_, 0 + b2 + 0, 0 + v2 + 0, gup_tr (gup_tr g1 g2) g3, gup_tr (gup_tr w1 w2) w3, fun lF hF => ?_⟩
        · dsimp only at *
          rw [hl, pk_un (by omega), e5 j (by omega), c5 j (by omega)]
        · dsimp only at *
          have hlF : lF nw = nI i := by rw [hF nw (by omega) (by omega), hl, pk_us]
          obtain ⟨u1, u2, u3⟩ := k2 lF (fun j ha hb => by rw [hF j (by omega) (by omega), hl, pk_un (by omega)])
          rcases u3 with ⟨u4, u5, u6, u7⟩ | ⟨u4, u5⟩
          · exact ⟨by omega, y2, i, n2, hlF, u1, u2, Or.inl ⟨u4, by omega, by omega⟩, z2, z1⟩
          · exact ⟨by omega, y2, i, n2, hlF, u1, u2, Or.inr (by rw [← y1]; simp only [Nat.zero_add, Nat.add_zero]; exact u5), z2, z1⟩
      · exact absurd e1 q1
    · exact absurd a1 q1
  · exact Or.inr q
