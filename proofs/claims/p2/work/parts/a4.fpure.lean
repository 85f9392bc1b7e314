def gTrue : gP := fun _ _ _ _ _ => True
/-- n lives with commas -/
def gLv (fk : Nat → Int32) (n : Nat) : gP := fun _ p q b v => 0 < n ∧ q + 1 = p + 2 * n ∧ b = 0 ∧ v = 0 ∧ n ≤ 8 ∧ (∀ i : Nat, i < n → fk (p + 2 * i) = 3) ∧ ∀ i : Nat, i + 1 < n → fk (p + 2 * i + 1) = 44
def gLvI (fk : Nat → Int32) (i : Nat) : gP := fun lF p q b v => (i = 0 ∧ gNil lF p q b v) ∨ gLv fk i lF p q b v
theorem r_lv0 {fk lF : Nat → Int32} {p q b v i : Nat} (hi : i = 0) (h : gq (gLvI fk i) (gTok fk 3) lF p q b v) : gLvI fk (i + 1) lF p q b v := by
  subst hi
  obtain ⟨r, b1, v1, b2, v2, x1, ⟨rfl, x2, rfl, rfl⟩, rfl, rfl⟩ := h
  rcases x1 with ⟨-, rfl, rfl, rfl⟩ | x1
  · refine Or.inr ⟨by omega, by omega, rfl, rfl, by omega, fun i hi => ?_, fun i hi => absurd hi (by omega)⟩
    obtain rfl : i = 0 := by omega
    exact x2
  · exact absurd x1.1 (by omega)
theorem r_lvS {fk lF : Nat → Int32} {p q b v i : Nat} (hi : i ≠ 0) (h8 : i ≠ 8) (h : gq (gq (gLvI fk i) (gTok fk 44)) (gTok fk 3) lF p q b v) : gLvI fk (i + 1) lF p q b v := by
  obtain ⟨r, b1, v1, b2, v2, ⟨r1, b3, v3, b4, v4, x1, ⟨z1, z2, z3, z4⟩, z5, z6⟩, ⟨w1, w2, w3, w4⟩, w5, w6⟩ := h
  rcases x1 with ⟨z, -⟩ | ⟨y1, y2, y3, y4, y5, y6, y7⟩
  · exact absurd z hi
  refine Or.inr ⟨by omega, by omega, by omega, by omega, by omega, fun j hj => ?_, fun j hj => ?_⟩
  · rcases Nat.lt_or_ge j i with z | z
    · exact y6 j z
    · rw [show p + 2 * j = r by omega]; exact w2
  · rcases Nat.lt_or_ge (j + 1) i with z | z
    · exact y7 j z
    · rw [show p + 2 * j + 1 = r1 by omega]; exact z2
def sPar (fk : Nat → Int32) : gP := gq (gq (gVar fk) (gTok fk 58)) (gTy fk 0)
def sepP (fk : Nat → Int32) (R : gP) : Nat → gP
  | 0 => gNo
  | n + 1 => fun lF p q b v => (n = 0 ∧ R lF p q b v) ∨ gq (gq (sepP fk R n) (gTok fk 44)) R lF p q b v
def sPrI (fk : Nat → Int32) (i : Nat) : gP := fun lF p q b v => i ≤ 12 ∧ ((i = 0 ∧ gNil lF p q b v) ∨ sepP fk (sPar fk) i lF p q b v)
theorem r_pr0 {fk lF : Nat → Int32} {p q b v i : Nat} {ah : Int32} (hi : i = 0) (h : gq (sPrI fk i) (gq (gq (fun lF p q b v => gVar fk lF p q b v ∧ ah ≠ 12) (gTok fk 58)) (gTy fk 0)) lF p q b v) : sPrI fk (i + 1) lF p q b v := by
  subst hi
  obtain ⟨r, b1, v1, b2, v2, ⟨-, x1⟩, x2, rfl, rfl⟩ := h
  rcases x1 with ⟨-, rfl, rfl, rfl⟩ | x1
  · exact ⟨by omega, Or.inr (Or.inl ⟨rfl, by rw [Nat.zero_add, Nat.zero_add]; exact gq_m x2 (fun _ _ _ _ z => gq_m z (fun _ _ _ _ z => z.1) (fun _ _ _ _ z => z)) (fun _ _ _ _ z => z)⟩)⟩
  · exact absurd x1 id
theorem r_prS {fk lF : Nat → Int32} {p q b v i : Nat} (hi : i ≠ 0) (h : gq (gq (sPrI fk i) (gTok fk 44)) (gq (gq (fun lF p q b v => gVar fk lF p q b v ∧ nI i ≠ 12) (gTok fk 58)) (gTy fk 0)) lF p q b v) : sPrI fk (i + 1) lF p q b v := by
  obtain ⟨r, b1, v1, b2, v2, ⟨r1, b3, v3, b4, v4, ⟨x0, x1⟩, z2, z5, z6⟩, x2, w5, w6⟩ := h
  have h12 : nI i ≠ 12 := by
    obtain ⟨_, _, _, _, _, ⟨_, _, _, _, _, ⟨_, z⟩, _⟩, _⟩ := x2
    exact z
  have h13 : i ≠ 12 := fun z => h12 (by rw [z]; rfl)
  rcases x1 with ⟨z, -⟩ | x1
  · exact absurd z hi
  · exact ⟨by omega, Or.inr (Or.inr ⟨r, b1, v1, b2, v2, ⟨r1, b3, v3, b4, v4, x1, z2, z5, z6⟩, gq_m x2 (fun _ _ _ _ z => gq_m z (fun _ _ _ _ z => z.1) (fun _ _ _ _ z => z)) (fun _ _ _ _ z => z), w5, w6⟩)⟩
def sLives (fk : Nat → Int32) : gP := fun lF p q b v => ∃ n : Nat, gq (gLv fk n) (gTok fk 62) lF p q b v
def sPars (fk : Nat → Int32) : gP := fun lF p q b v => ∃ n : Nat, n ≤ 12 ∧ gq (sepP fk (sPar fk) n) (gTok fk 41) lF p q b v
def sPs (fk : Nat → Int32) : gP := fun lF p q b v => gTok fk 41 lF p q b v ∨ (fk p ≠ 41 ∧ sPars fk lF p q b v)
def gFn (fk : Nat → Int32) : gP := gq (gq (gq (gq (gq (gq (gTok fk 7) (gTok fk 2)) (gOptR fk 60 (sLives fk))) (gTok fk 40)) (sPs fk)) (gOptR fk 135 (gTy fk 0))) (gBlk fk 16)
theorem gq_as2 {A B C X : gP} {lF : Nat → Int32} {p q b v : Nat} (h : gq (gq A B) C lF p q b v) (hx : ∀ p q b v, gq B C lF p q b v → X lF p q b v) : gq A X lF p q b v := by
  obtain ⟨r, b1, v1, b2, v2, h1, h2, h3, h4⟩ := gq_as h
  exact ⟨r, b1, v1, b2, v2, h1, hx _ _ _ _ h2, h3, h4⟩
theorem gq_as3 {A B T C X : gP} {lF : Nat → Int32} {p q b v : Nat} (h : gq (gq (gq A B) T) C lF p q b v) (hx : ∀ p q b v, gq (gq B T) C lF p q b v → X lF p q b v) : gq A X lF p q b v := by
  obtain ⟨r, b1, v1, b2, v2, h1, h2, h3, h4⟩ := gq_as (gq_m h (fun _ _ _ _ z => gq_as z) (fun _ _ _ _ z => z))
  exact ⟨r, b1, v1, b2, v2, h1, hx _ _ _ _ h2, h3, h4⟩
theorem gq_un {A B C : gP} {lF : Nat → Int32} {p q b v : Nat} (h : gq A (gq B C) lF p q b v) : gq (gq A B) C lF p q b v := by
  obtain ⟨r, b1, v1, b2, v2, h1, ⟨r1, b3, v3, b4, v4, h2, h3, h4, h5⟩, h6, h7⟩ := h
  exact ⟨r1, b1 + b3, v1 + v3, b4, v4, ⟨r, b1, v1, b3, v3, h1, h2, rfl, rfl⟩, h3, by omega, by omega⟩
/-- at most M with commas, i so far -/
def sNb (fk : Nat → Int32) (F : gP) (M i : Nat) : gP := fun lF p q b v => i ≤ M ∧ ((i = 0 ∧ gNil lF p q b v) ∨ sepP fk F i lF p q b v)
theorem r_nb0 {fk lF : Nat → Int32} {F : gP} {M p q b v i : Nat} (hM : 1 ≤ M) (hi : i = 0) (h : gq (sNb fk F M i) F lF p q b v) : sNb fk F M (i + 1) lF p q b v := by
  subst hi
  obtain ⟨r, b1, v1, b2, v2, ⟨-, x1⟩, x2, rfl, rfl⟩ := h
  rcases x1 with ⟨-, rfl, rfl, rfl⟩ | x1
  · exact ⟨hM, Or.inr (Or.inl ⟨rfl, by rw [Nat.zero_add, Nat.zero_add]; exact x2⟩)⟩
  · exact absurd x1 id
theorem r_nbS {fk lF : Nat → Int32} {F : gP} {M p q b v i : Nat} (hi : i ≠ 0) (hM : i ≠ M) (h : gq (gq (sNb fk F M i) (gTok fk 44)) F lF p q b v) : sNb fk F M (i + 1) lF p q b v := by
  obtain ⟨r, b1, v1, b2, v2, ⟨r1, b3, v3, b4, v4, ⟨x0, x1⟩, z2, z5, z6⟩, x2, w5, w6⟩ := h
  rcases x1 with ⟨z, -⟩ | x1
  · exact absurd z hi
  · exact ⟨by omega, Or.inr (Or.inr ⟨r, b1, v1, b2, v2, ⟨r1, b3, v3, b4, v4, x1, z2, z5, z6⟩, x2, w5, w6⟩)⟩
theorem r_nbE {fk lF : Nat → Int32} {F A : gP} {M p q b v i : Nat} (hi : i ≠ 0) (h : gq (sNb fk F M i) A lF p q b v) : i ≤ M ∧ gq (sepP fk F i) A lF p q b v := by
  obtain ⟨r, b1, v1, b2, v2, ⟨x0, x1⟩, x2, w5, w6⟩ := h
  rcases x1 with ⟨z, -⟩ | x1
  · exact absurd z hi
  · exact ⟨x0, r, b1, v1, b2, v2, x1, x2, w5, w6⟩
/-- what a type begins with -/
def tySt (k : Int32) : Prop := plainK k ∨ k = 19 ∨ k = 38
theorem tyX_st {fk : Nat → Int32} : ∀ (n p r : Nat), tyX fk n p r → (n = 0 ∧ r = p) ∨ fk p = 19 ∨ fk p = 38
  | 0, _, _, h => Or.inl ⟨rfl, h⟩
  | n + 1, p, r, h => by
    obtain ⟨r1, h1, h2⟩ := h
    rcases tyX_st n p r1 h1 with ⟨-, rfl⟩ | h3
    · rcases h2 with ⟨h2, -⟩ | ⟨h2, -⟩
      · exact Or.inr (Or.inl h2)
      · exact Or.inr (Or.inr h2)
    · exact Or.inr h3
theorem gTy_st {fk lF : Nat → Int32} {d p q b v : Nat} (h : gTy fk d lF p q b v) : tySt (fk p) := by
  obtain ⟨⟨n, r, h1, -, h3, -⟩, -⟩ := h
  rcases tyX_st n p r h1 with ⟨-, rfl⟩ | h4
  · exact Or.inl h3
  · exact Or.inr h4
def sVp (fk : Nat → Int32) : gP := gOptR fk 40 (fun lF p q b v => ∃ n : Nat, n ≤ 12 ∧ gq (sepP fk (gTy fk 0) n) (gTok fk 41) lF p q b v)
def sFd (fk : Nat → Int32) : gP := gq (gq (gTok fk 2) (gTok fk 58)) (gTy fk 0)
def sVr (fk : Nat → Int32) : gP := gq (gTok fk 2) (sVp fk)
/-- a struct's or an enum's rows -/
def sRow (fk : Nat → Int32) (wd : Int32) : gP := fun lF p q b v => (wd ≠ 6 ∧ sFd fk lF p q b v) ∨ (wd = 6 ∧ sVr fk lF p q b v)
theorem sRow_2 {fk lF : Nat → Int32} {wd : Int32} {p q b v : Nat} (h : sRow fk wd lF p q b v) : fk p = 2 := by
  rcases h with ⟨-, _, _, _, _, _, ⟨_, _, _, _, _, h, _⟩, _⟩ | ⟨-, _, _, _, _, _, h, _⟩
  · exact h.2.1
  · exact h.2.1
def gSh (fk : Nat → Int32) (wd : Int32) : gP := fun lF p q b v => ∃ n : Nat, n ≤ 12 ∧ gq (gq (gq (gq (gTok fk wd) (gTok fk 2)) (gTok fk 123)) (sepP fk (sRow fk wd) n)) (gTok fk 125) lF p q b v
/-- an item was read, or there is a fault -/
def iOK (tt nw : Nat) (ft : Int32) (fl : Nat → Int32) (nw2 : Nat) (ft2 : Int32) (fl2 : Nat → Int32) (R : (Nat → Int32) → Nat → Nat → Prop) : Prop :=
  (ft = 0 ∧ ft2 = 0 ∧ nw < nw2 ∧ nw2 < tt ∧ (∀ j : Nat, (j < nw ∨ nw2 ≤ j) → fl2 j = fl j) ∧ ∀ lF : Nat → Int32, (∀ j : Nat, nw ≤ j → j < nw2 → lF j = fl2 j) → R lF nw nw2) ∨ (ft2 ≠ 0 ∧ nw2 = tt - 1)
theorem iOK_of {tt nw nw2 mn st : Nat} {ft ft2 gbo2 gva2 gbo gva : Int32} {fl fl2 : Nat → Int32} {R : gP} (h : gOK tt st mn (nw, ft, gbo, gva, fl) (nw2, ft2, gbo2, gva2, fl2) R) (hm : 1 ≤ mn) : iOK tt nw ft fl nw2 ft2 fl2 (fun lF p q => ∃ b v : Nat, (gbo = 0 → b ≤ 54) ∧ (gva = 0 → v ≤ 40) ∧ R lF p q b v) := by
  rcases h with ⟨c1, c2, c3, c4, c5, b1, v1, g1, w1, k1⟩ | q
  · dsimp only at *
    exact Or.inl ⟨c1, c2, by omega, c4, fun j hj => c5 j (by omega), fun lF hF => ⟨b1, v1, fun z => by have := (g1 0 (by omega) z).2; omega, fun z => by have := (w1 0 (by omega) z).2; omega, k1 lF (fun j ha hb => hF j (by omega) hb)⟩⟩
  · exact Or.inr q
theorem iOK_mono {tt nw nw2 : Nat} {ft ft2 : Int32} {fl fl2 : Nat → Int32} {R R' : (Nat → Int32) → Nat → Nat → Prop} (h : iOK tt nw ft fl nw2 ft2 fl2 R) (hR : ∀ lF, R lF nw nw2 → R' lF nw nw2) : iOK tt nw ft fl nw2 ft2 fl2 R' := by
  rcases h with ⟨c1, c2, c3, c4, c5, k1⟩ | q
  · exact Or.inl ⟨c1, c2, c3, c4, c5, fun lF hF => hR lF (k1 lF hF)⟩
  · exact Or.inr q
/-- an item from p to q -/
def itR (fk : Nat → Int32) (lF : Nat → Int32) (p q : Nat) : Prop := fk (p + 1) = 2 ∧ (((fk p = 5 ∨ fk p = 6) ∧ ∃ b v : Nat, gSh fk (fk p) lF p q b v) ∨ (fk p = 7 ∧ ∃ b v : Nat, b ≤ 54 ∧ v ≤ 40 ∧ gFn fk lF p q b v))
/-- how many of the first n items are functions -/
def nFn (fk fi : Nat → Int32) : Nat → Nat
  | 0 => 0
  | n + 1 => nFn fk fi n + (if fk (fi n).toNatClampNeg = 7 then 1 else 0)
theorem nFn_upd {fk fi : Nat → Int32} {m : Nat} {x : Int32} : ∀ n : Nat, n ≤ m → nFn fk (upd fi m x) n = nFn fk fi n
  | 0, _ => rfl
  | n + 1, h => by
    show nFn fk (upd fi m x) n + _ = nFn fk fi n + _
    rw [nFn_upd n (by omega), pk_un (by omega)]
theorem nFn_le {fk fi : Nat → Int32} {m : Nat} : ∀ n : Nat, nFn fk fi m ≤ nFn fk fi (m + n) ∧ nFn fk fi (m + n) ≤ nFn fk fi m + n
  | 0 => ⟨Nat.le_refl _, Nat.le_refl _⟩
  | n + 1 => by
    have h := nFn_le (fk := fk) (fi := fi) (m := m) n
    have e : nFn fk fi (m + (n + 1)) = nFn fk fi (m + n) + (if fk (fi (m + n)).toNatClampNeg = 7 then 1 else 0) := rfl
    rw [e]
    split <;> omega
/-- the items that were noted: na shapes and nb functions, one behind the other, all ahead of nw -/
def itI (fk fi : Nat → Int32) (tt na nb nw : Nat) (fl : Nat → Int32) : Prop := na ≤ 30 ∧ nb ≤ 40 ∧ nFn fk fi (na + nb) = nb ∧ ∃ ps qs : Nat → Nat, (∀ j : Nat, j < na + nb → fi j = nI (ps j) ∧ ps j < qs j ∧ qs j ≤ nw ∧ qs j < tt) ∧ (∀ j : Nat, j + 1 < na + nb → qs j ≤ ps (j + 1)) ∧ ∀ lF : Nat → Int32, (∀ j : Nat, j < nw → lF j = fl j) → ∀ j : Nat, j < na + nb → itR fk lF (ps j) (qs j)
theorem itI_0 {fk fi : Nat → Int32} {tt nw : Nat} {fl : Nat → Int32} : itI fk fi tt 0 0 nw fl := ⟨by omega, by omega, rfl, fun _ => 0, fun _ => 0, fun j hj => absurd hj (by omega), fun j hj => absurd hj (by omega), fun _ _ j hj => absurd hj (by omega)⟩
theorem itI_S {fk fi : Nat → Int32} {tt na nb nw nw2 na2 nb2 : Nat} {fl fl2 : Nat → Int32} (h : itI fk fi tt na nb nw fl) (h1 : nw < nw2) (h2 : nw2 < tt) (h3 : ∀ j : Nat, (j < nw ∨ nw2 ≤ j) → fl2 j = fl j) (h4 : ∀ lF : Nat → Int32, (∀ j : Nat, nw ≤ j → j < nw2 → lF j = fl2 j) → itR fk lF nw nw2) (hx : nw < 3002) (hc : (fk nw = 7 ∧ na2 = na ∧ nb2 = nb + 1 ∧ nb < 40) ∨ (fk nw ≠ 7 ∧ na2 = na + 1 ∧ nb2 = nb ∧ na < 30)) : itI fk (upd fi (na + nb) (nI nw)) tt na2 nb2 nw2 fl2 := by
  obtain ⟨a1, a2, a3, ps, qs, a4, a5, a6⟩ := h
  have hS : nFn fk (upd fi (na + nb) (nI nw)) (na + nb + 1) = nb + (if fk nw = 7 then 1 else 0) := by
    show nFn fk (upd fi (na + nb) (nI nw)) (na + nb) + _ = _
    rw [nFn_upd _ (Nat.le_refl _), a3, pk_us, nI_clamp (by omega)]
  have hm : na2 + nb2 = na + nb + 1 := by omega
  refine ⟨by omega, by omega, ?_, fun j => if j < na + nb then ps j else nw, fun j => if j < na + nb then qs j else nw2, fun j hj => ?_, fun j hj => ?_, fun lF hF j hj => ?_⟩
  · rw [hm, hS]
    rcases hc with ⟨c1, c2, c3, c4⟩ | ⟨c1, c2, c3, c4⟩
    · rw [if_pos c1]; omega
    · rw [if_neg c1]; omega
  · rcases Nat.lt_or_ge j (na + nb) with z | z
    · obtain ⟨e1, e2, e3, e4⟩ := a4 j z
      simp only [if_pos z]
      exact ⟨by rw [pk_un (by omega)]; exact e1, e2, by omega, e4⟩
    · obtain rfl : j = na + nb := by omega
      simp only [if_neg (Nat.lt_irrefl _)]
      exact ⟨by rw [pk_us], h1, Nat.le_refl _, h2⟩
  · rcases Nat.lt_or_ge (j + 1) (na + nb) with z | z
    · simp only [if_pos z, if_pos (show j < na + nb by omega)]
      exact a5 j z
    · simp only [if_neg (show ¬ j + 1 < na + nb by omega), if_pos (show j < na + nb by omega)]
      exact (a4 j (by omega)).2.2.1
  · rcases Nat.lt_or_ge j (na + nb) with z | z
    · simp only [if_pos z]
      exact a6 lF (fun j hj => by rw [hF j (by omega), h3 j (Or.inl hj)]) j z
    · obtain rfl : j = na + nb := by omega
      simp only [if_neg (Nat.lt_irrefl _)]
      exact h4 lF (fun j ha hb => hF j hb)
theorem r_fn2 {fk : Nat → Int32} {A B C D F : gP} {c : Int32} {lF : Nat → Int32} {p q b v : Nat} (h : gq (gq (gq (gq (gq (gq (gTok fk c) (gTok fk 2)) A) B) C) D) F lF p q b v) : fk (p + 1) = 2 := by
  obtain ⟨_, _, _, _, _, ⟨_, _, _, _, _, ⟨_, _, _, _, _, ⟨_, _, _, _, _, ⟨_, _, _, _, _, ⟨r, _, _, _, _, h1, h2, _⟩, _⟩, _⟩, _⟩, _⟩, _⟩ := h
  have := h2.2.1
  rw [h1.1] at this
  exact this
theorem r_sh2 {fk : Nat → Int32} {B : gP} {c : Int32} {lF : Nat → Int32} {p q b v : Nat} (h : gq (gq (gTok fk c) (gTok fk 2)) B lF p q b v) : fk (p + 1) = 2 := by
  obtain ⟨_, _, _, _, _, ⟨r, _, _, _, _, h1, h2, _⟩, _⟩ := h
  have := h2.2.1
  rw [h1.1] at this
  exact this
