/-- a table of types: how many, kind, of, size, drops, boxes, shared, unique -/
abbrev tyT := Nat × (Nat → Int32) × (Nat → Int32) × (Nat → Int32) × (Nat → Int32) × (Nat → Int32) × (Nat → Int32) × (Nat → Int32)
/-- a proper type that is no reference -/
def tyN (yp : Nat) (ak : Nat → Int32) (u : Nat) : Prop := (u = 1 ∨ u = 2 ∨ u = 3) ∨ (4 ≤ u ∧ u < 4 + yp) ∨ (34 ≤ u ∧ ak u = 4)
/-- what is kept of the type made of j -/
def tyC (kd : Int32) (yt : Nat) (ak ao f : Nat → Int32) (j : Nat) : Prop := f j = 0 ∨ ∃ r : Nat, 34 ≤ r ∧ r < yt ∧ f j = nI r ∧ ak r = kd ∧ ao r = nI j
def tyOK (yp : Nat) (t : tyT) : Prop := match t with
  | (yt, ak, ao, az, ad, ab, ah, au) => 34 ≤ yt ∧ yt ≤ 3040 ∧ yp ≤ 30 ∧ (ak 0 = 0 ∧ ak 1 = 0 ∧ ak 2 = 0 ∧ ak 3 = 1) ∧ (az 0 = 0 ∧ az 1 = 1 ∧ az 2 = 1 ∧ az 3 = 1) ∧ (ad 0 = 0 ∧ ad 1 = 0 ∧ ad 2 = 0 ∧ ad 3 = 1 ∧ ∀ s : Nat, yp ≤ s → s < 30 → ak (4 + s) = 0) ∧ (∀ s : Nat, s < yp → ak (4 + s) = 2 ∨ ak (4 + s) = 3) ∧
    (∀ t : Nat, 34 ≤ t → t < yt → (ak t = 4 ∨ ak t = 5 ∨ ak t = 6) ∧ az t = 1 ∧ (ad t = if ak t = 4 then 1 else 0) ∧ ∃ u : Nat, u < t ∧ ao t = nI u ∧ tyN yp ak u) ∧ ∀ j : Nat, j < yt → tyC 4 yt ak ao ab j ∧ tyC 5 yt ak ao ah j ∧ tyC 6 yt ak ao au j
/-- the table has grown -/
def tyEx (t t' : tyT) : Prop := match t, t' with
  | (yt, ak, ao, az, ad, _, _, _), (yt2, gk, go, gz, gd, _, _, _) => yt ≤ yt2 ∧ ∀ j : Nat, j < yt → gk j = ak j ∧ go j = ao j ∧ gz j = az j ∧ gd j = ad j
theorem tyEx_rf {t : tyT} : tyEx t t := ⟨Nat.le_refl _, fun _ _ => ⟨rfl, rfl, rfl, rfl⟩⟩
theorem tyEx_tr {a b c : tyT} (h1 : tyEx a b) (h2 : tyEx b c) : tyEx a c := ⟨Nat.le_trans h1.1 h2.1, fun j hj => by
  obtain ⟨a1, a2, a3, a4⟩ := h1.2 j hj
  obtain ⟨b1, b2, b3, b4⟩ := h2.2 j (Nat.lt_of_lt_of_le hj h1.1)
  exact ⟨b1.trans a1, b2.trans a2, b3.trans a3, b4.trans a4⟩⟩
theorem tyN_lt {yp u yt : Nat} {ak : Nat → Int32} (hy : 34 ≤ yt) (hp : yp ≤ 30) (h : tyN yp ak u) (hu : 34 ≤ u → u < yt) : u < yt := by
  rcases h with h | h | h
  · omega
  · omega
  · exact hu h.1
theorem tyN_up {yp u yt : Nat} {ak gk : Nat → Int32} (h : tyN yp ak u) (hu : u < yt) (he : ∀ j : Nat, j < yt → gk j = ak j) : tyN yp gk u := by
  rcases h with h | h | h
  · exact Or.inl h
  · exact Or.inr (Or.inl h)
  · exact Or.inr (Or.inr ⟨h.1, (he u hu).trans h.2⟩)
theorem tyC_up {kd : Int32} {yt yt2 j : Nat} {ak ao f gk go : Nat → Int32} (h : tyC kd yt ak ao f j) (hy : yt ≤ yt2) (he : ∀ j : Nat, j < yt → gk j = ak j ∧ go j = ao j) : tyC kd yt2 gk go f j := by
  rcases h with h | ⟨r, h1, h2, h3, h4, h5⟩
  · exact Or.inl h
  · exact Or.inr ⟨r, h1, by omega, h3, (he r h2).1.trans h4, (he r h2).2.trans h5⟩
/-- a type kd of k was made: the new table but for the rows kept -/
theorem tyM {yp yt k : Nat} {kd : Int32} {ak ao az ad ab ah au : Nat → Int32} (h : tyOK yp (yt, ak, ao, az, ad, ab, ah, au)) (hk : tyN yp ak k) (hkt : k < yt) (hkd : kd = 4 ∨ kd = 5 ∨ kd = 6) (hy : yt < 3040) :
    tyEx (yt, ak, ao, az, ad, ab, ah, au) (yt + 1, upd ak yt kd, upd ao yt (nI k), upd az yt 1, upd ad yt (if kd = 4 then 1 else 0), ab, ah, au) ∧ tyOK yp (yt + 1, upd ak yt kd, upd ao yt (nI k), upd az yt 1, upd ad yt (if kd = 4 then 1 else 0), upd ab yt 0, upd ah yt 0, upd au yt 0) := by
  obtain ⟨a1, a2, a3, ⟨b1, b2, b3, b4⟩, ⟨c1, c2, c3, c4⟩, ⟨d1, d2, d3, d4⟩, e1, f1, g1⟩ := h
  have hx : ∀ j : Nat, j < yt → (upd ak yt kd) j = ak j ∧ (upd ao yt (nI k)) j = ao j := fun j hj => ⟨pk_un (by omega), pk_un (by omega)⟩
  refine ⟨⟨by omega, fun j hj => ⟨pk_un (by omega), pk_un (by omega), pk_un (by omega), pk_un (by omega)⟩⟩, by omega, by omega, a3, ?_, ?_, ?_, ?_, ?_, ?_⟩
  · rw [pk_un (by omega), pk_un (by omega), pk_un (by omega), pk_un (by omega)]; exact ⟨b1, b2, b3, b4⟩
  · rw [pk_un (by omega), pk_un (by omega), pk_un (by omega), pk_un (by omega)]; exact ⟨c1, c2, c3, c4⟩
  · rw [pk_un (by omega), pk_un (by omega), pk_un (by omega), pk_un (by omega)]; exact ⟨d1, d2, d3, d4.1, fun s h1 h2 => by rw [pk_un (by omega)]; exact d4.2 s h1 h2⟩
  · intro s hs; rw [pk_un (by omega)]; exact e1 s hs
  · intro t h1 h2
    rcases Nat.lt_or_ge t yt with z | z
    · obtain ⟨x1, x2, x3, u, x4, x5, x6⟩ := f1 t h1 z
      rw [pk_un (by omega), pk_un (by omega), pk_un (by omega), pk_un (by omega)]
      exact ⟨x1, x2, x3, u, x4, x5, tyN_up x6 (by omega) (fun j hj => (hx j hj).1)⟩
    · obtain rfl : t = yt := by omega
      rw [pk_us, pk_us, pk_us, pk_us]
      exact ⟨hkd, rfl, rfl, k, hkt, rfl, tyN_up hk hkt (fun j hj => (hx j hj).1)⟩
  · intro j hj
    rcases Nat.lt_or_ge j yt with z | z
    · obtain ⟨x1, x2, x3⟩ := g1 j z
      have q : ∀ {kd2 : Int32} {f : Nat → Int32}, tyC kd2 yt ak ao f j → tyC kd2 (yt + 1) (upd ak yt kd) (upd ao yt (nI k)) (upd f yt 0) j := fun {kd2 f} h => by
        have h := tyC_up h (Nat.le_succ yt) hx
        rcases h with h | h
        · exact Or.inl (by rw [pk_un (by omega)]; exact h)
        · exact Or.inr (by rw [pk_un (by omega)]; exact h)
      exact ⟨q x1, q x2, q x3⟩
    · obtain rfl : j = yt := by omega
      exact ⟨Or.inl pk_us, Or.inl pk_us, Or.inl pk_us⟩
/-- rows kept at k of a table -/
theorem tyOK_b {yp yt k ri : Nat} {ak ao az ad ab ah au : Nat → Int32} (h : tyOK yp (yt, ak, ao, az, ad, ab, ah, au)) (h1 : 34 ≤ ri) (h2 : ri < yt) (h4 : ao ri = nI k) : (ak ri = 4 → tyOK yp (yt, ak, ao, az, ad, upd ab k (nI ri), ah, au)) ∧ (ak ri = 5 → tyOK yp (yt, ak, ao, az, ad, ab, upd ah k (nI ri), au)) ∧ (ak ri = 6 → tyOK yp (yt, ak, ao, az, ad, ab, ah, upd au k (nI ri))) := by
  obtain ⟨a1, a2, a3, b1, c1, d1, e1, f1, g1⟩ := h
  have q : ∀ {kd : Int32} {f : Nat → Int32}, ak ri = kd → (∀ j : Nat, j < yt → tyC kd yt ak ao f j) → ∀ j : Nat, j < yt → tyC kd yt ak ao (upd f k (nI ri)) j := fun {kd f} hk hf j hj => by
    by_cases e : j = k
    · subst e; exact Or.inr ⟨ri, h1, h2, pk_us, hk, h4⟩
    · rcases hf j hj with z | z
      · exact Or.inl (by rw [pk_un e]; exact z)
      · exact Or.inr (by rw [pk_un e]; exact z)
  exact ⟨fun hk => ⟨a1, a2, a3, b1, c1, d1, e1, f1, fun j hj => ⟨q hk (fun j hj => (g1 j hj).1) j hj, (g1 j hj).2⟩⟩, fun hk => ⟨a1, a2, a3, b1, c1, d1, e1, f1, fun j hj => ⟨(g1 j hj).1, q hk (fun j hj => (g1 j hj).2.1) j hj, (g1 j hj).2.2⟩⟩, fun hk => ⟨a1, a2, a3, b1, c1, d1, e1, f1, fun j hj => ⟨(g1 j hj).1, (g1 j hj).2.1, q hk (fun j hj => (g1 j hj).2.2) j hj⟩⟩⟩
theorem ty_box {yp yt yt2 k ri : Nat} {ak ao az ad ab ah au gk go gz gd gb gh gu : Nat → Int32} (h : tyOK yp (yt, ak, ao, az, ad, ab, ah, au)) (hk : tyN yp ak k) (hkt : k < yt) (hy : yt < 3040) (h9 : ri < 3040) (hb : bxT 4 k yt yt2 ri (gk = ak ∧ go = ao ∧ gz = az ∧ gd = ad ∧ gh = ah ∧ gu = au) (fun hr => mkT 4 (nI k) yt yt2 ri ak ao az ad ab ah au gk go gz gd hr gh gu) ab gb) : tyOK yp (yt2, gk, go, gz, gd, gb, gh, gu) ∧ tyEx (yt, ak, ao, az, ad, ab, ah, au) (yt2, gk, go, gz, gd, gb, gh, gu) ∧ yt2 ≤ yt + 1 ∧ 34 ≤ ri ∧ ri < yt2 ∧ gk ri = 4 ∧ go ri = nI k := by
  rcases hb with ⟨b1, b2, b3, b4, b5⟩ | ⟨b1, hr, b2, b3⟩
  · obtain ⟨rfl, rfl, rfl, rfl, rfl, rfl⟩ := b4
    subst b3 b5
    have hc := (h.2.2.2.2.2.2.2.2 k hkt).1
    rcases hc with hc | ⟨r, c1, c2, c3, c4, c5⟩
    · exact absurd hc b1
    · have hr3 : r < 3040 := by have := h.2.1; omega
      have hri : ri = r := by
        rcases Nat.lt_or_ge ri (2 ^ 31) with z | z
        · exact (nI_eq z (by omega)).mp (b2.symm.trans c3)
        · exact absurd z (by have := h9; omega)
      subst hri
      exact ⟨h, tyEx_rf, by omega, c1, c2, c4, c5⟩
  · rcases b2 with ⟨m1, rfl, rfl, rfl, rfl, rfl, rfl, rfl, rfl, rfl⟩ | ⟨m1, -⟩
    · obtain ⟨t1, t2⟩ := tyM (kd := 4) h hk hkt (by decide) hy
      have t3 := (tyOK_b (k := k) t2 (show 34 ≤ ri by have := h.1; omega) (Nat.lt_succ_self _) pk_us).1 pk_us
      subst b3
      exact ⟨t3, ⟨by omega, t1.2⟩, by omega, by have := h.1; omega, by omega, pk_us, pk_us⟩
    · omega
theorem ty_shr {yp yt yt2 k ri : Nat} {ak ao az ad ab ah au gk go gz gd gb gh gu : Nat → Int32} (h : tyOK yp (yt, ak, ao, az, ad, ab, ah, au)) (hk : tyN yp ak k) (hkt : k < yt) (hy : yt < 3040) (h9 : ri < 3040) (hb : bxT 5 k yt yt2 ri (gk = ak ∧ go = ao ∧ gz = az ∧ gd = ad ∧ gb = ab ∧ gu = au) (fun hr => mkT 5 (nI k) yt yt2 ri ak ao az ad ab ah au gk go gz gd gb hr gu) ah gh) : tyOK yp (yt2, gk, go, gz, gd, gb, gh, gu) ∧ tyEx (yt, ak, ao, az, ad, ab, ah, au) (yt2, gk, go, gz, gd, gb, gh, gu) ∧ yt2 ≤ yt + 1 ∧ 34 ≤ ri ∧ ri < yt2 ∧ gk ri = 5 ∧ go ri = nI k := by
  rcases hb with ⟨b1, b2, b3, b4, b5⟩ | ⟨b1, hr, b2, b3⟩
  · obtain ⟨rfl, rfl, rfl, rfl, rfl, rfl⟩ := b4
    subst b3 b5
    have hc := (h.2.2.2.2.2.2.2.2 k hkt).2.1
    rcases hc with hc | ⟨r, c1, c2, c3, c4, c5⟩
    · exact absurd hc b1
    · have hr3 : r < 3040 := by have := h.2.1; omega
      have hri : ri = r := by
        rcases Nat.lt_or_ge ri (2 ^ 31) with z | z
        · exact (nI_eq z (by omega)).mp (b2.symm.trans c3)
        · exact absurd z (by have := h9; omega)
      subst hri
      exact ⟨h, tyEx_rf, by omega, c1, c2, c4, c5⟩
  · rcases b2 with ⟨m1, rfl, rfl, rfl, rfl, rfl, rfl, rfl, rfl, rfl⟩ | ⟨m1, -⟩
    · obtain ⟨t1, t2⟩ := tyM (kd := 5) h hk hkt (by decide) hy
      have t3 := (tyOK_b (k := k) t2 (show 34 ≤ ri by have := h.1; omega) (Nat.lt_succ_self _) pk_us).2.1 pk_us
      subst b3
      exact ⟨t3, ⟨by omega, t1.2⟩, by omega, by have := h.1; omega, by omega, pk_us, pk_us⟩
    · omega
theorem ty_unq {yp yt yt2 k ri : Nat} {ak ao az ad ab ah au gk go gz gd gb gh gu : Nat → Int32} (h : tyOK yp (yt, ak, ao, az, ad, ab, ah, au)) (hk : tyN yp ak k) (hkt : k < yt) (hy : yt < 3040) (h9 : ri < 3040) (hb : bxT 6 k yt yt2 ri (gk = ak ∧ go = ao ∧ gz = az ∧ gd = ad ∧ gb = ab ∧ gh = ah) (fun hr => mkT 6 (nI k) yt yt2 ri ak ao az ad ab ah au gk go gz gd gb gh hr) au gu) : tyOK yp (yt2, gk, go, gz, gd, gb, gh, gu) ∧ tyEx (yt, ak, ao, az, ad, ab, ah, au) (yt2, gk, go, gz, gd, gb, gh, gu) ∧ yt2 ≤ yt + 1 ∧ 34 ≤ ri ∧ ri < yt2 ∧ gk ri = 6 ∧ go ri = nI k := by
  rcases hb with ⟨b1, b2, b3, b4, b5⟩ | ⟨b1, hr, b2, b3⟩
  · obtain ⟨rfl, rfl, rfl, rfl, rfl, rfl⟩ := b4
    subst b3 b5
    have hc := (h.2.2.2.2.2.2.2.2 k hkt).2.2
    rcases hc with hc | ⟨r, c1, c2, c3, c4, c5⟩
    · exact absurd hc b1
    · have hr3 : r < 3040 := by have := h.2.1; omega
      have hri : ri = r := by
        rcases Nat.lt_or_ge ri (2 ^ 31) with z | z
        · exact (nI_eq z (by omega)).mp (b2.symm.trans c3)
        · exact absurd z (by have := h9; omega)
      subst hri
      exact ⟨h, tyEx_rf, by omega, c1, c2, c4, c5⟩
  · rcases b2 with ⟨m1, rfl, rfl, rfl, rfl, rfl, rfl, rfl, rfl, rfl⟩ | ⟨m1, -⟩
    · obtain ⟨t1, t2⟩ := tyM (kd := 6) h hk hkt (by decide) hy
      have t3 := (tyOK_b (k := k) t2 (show 34 ≤ ri by have := h.1; omega) (Nat.lt_succ_self _) pk_us).2.2 pk_us
      subst b3
      exact ⟨t3, ⟨by omega, t1.2⟩, by omega, by have := h.1; omega, by omega, pk_us, pk_us⟩
    · omega
