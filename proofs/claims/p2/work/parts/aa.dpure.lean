/-- what a name means: nothing, one of yp shapes, one of nb functions -/
def mnI (nq yp nb : Nat) (fm : Nat → Int32) : Prop := ∀ j : Nat, j < nq → fm j = 0 ∨ (∃ s : Nat, s < yp ∧ fm j = nI (s + 1)) ∨ ∃ f : Nat, f < nb ∧ fm j = -nI (f + 1)
theorem ngI_lt : ∀ f : Nat, f < 40 → (-nI (f + 1) : Int32) < 0 := by decide +kernel
theorem ngI_sub : ∀ f : Nat, f < 40 → (-(-nI (f + 1)) - 1 : Int32) = nI f := by decide +kernel
theorem shI_add : ∀ s : Nat, s < 30 → (4 + nI (s + 1) - 1 : Int32) = nI (4 + s) ∧ (0 : Int32) < nI (s + 1) ∧ (nI (s + 1) - 1 : Int32) = nI s := by decide +kernel
def tnI (tt nq : Nat) (fn : Nat → Int32) : Prop := ∀ j : Nat, j < tt → ∃ k : Nat, k < nq ∧ fn j = nI k
/-- n boxes, then something else: readType's way -/
def rtK (fk : Nat → Int32) (tt nw nw2 : Nat) : Prop := ∃ n : Nat, (∀ i : Nat, i < n → fk (nw + i) = 19) ∧ fk (nw + n) ≠ 19 ∧ fk (nw + n) ≠ 38 ∧ nw + n < tt ∧ cuT (nw + n) 1 tt nw2
/-- the table while there is no fault -/
def tyF (yp tt nw : Nat) (ft : Int32) (t : tyT) : Prop := ft = 0 → tyOK yp t ∧ t.1 + tt ≤ 3039 + nw
/-- a type was read, or there is a fault -/
def rtF (yp tt nw nw2 : Nat) (fk : Nat → Int32) (ft ft2 : Int32) (t t2 : tyT) (K : Prop) (N : Prop) : Prop := nw2 < tt ∧ (ft2 ≠ 0 → nw2 = tt - 1) ∧ (ft2 = 0 → ft = 0 ∧ tyOK yp t2 ∧ tyEx t t2 ∧ t2.1 + nw ≤ t.1 + nw2 ∧ K ∧ N)
theorem tyS_b {yt yt2 k ri : Nat} {kd : Int32} {ak ao az ad ab ah au gk go gz gd gb gh gu : Nat → Int32} (hS : tyS ao az ab ah au) (hk : k < 3040) (hr : ri < 3040) (hb : bxT kd k yt yt2 ri (gk = ak ∧ go = ao ∧ gz = az ∧ gd = ad ∧ gh = ah ∧ gu = au) (fun hr => mkT kd (nI k) yt yt2 ri ak ao az ad ab ah au gk go gz gd hr gh gu) ab gb) (hy : yt ≤ 3040) : tyS go gz gb gh gu ∧ yt2 ≤ 3040 := by
  rcases hb with ⟨b1, b2, b3, ⟨b4, b5, b6, b7, b8, b9⟩, b10⟩ | ⟨b1, hr', b2, b3⟩
  · rw [b5, b6, b8, b9, b10, b3]; exact ⟨hS, hy⟩
  · rcases b2 with ⟨m1, m2, m3, m4, m5, m6, m7, m8, m9, m10⟩ | ⟨m1, m2, m3, m4, m5, m6, m7, m8, m9, m10⟩
    · rw [b3, m5, m6, m8, m9, m10]
      exact ⟨⟨upI_put hS.1 ⟨k, by omega, rfl⟩, upI_put hS.2.1 ⟨1, by omega, rfl⟩, upI_put (upI_put hS.2.2.1 ⟨0, by omega, rfl⟩) ⟨ri, by omega, rfl⟩, upI_put hS.2.2.2.1 ⟨0, by omega, rfl⟩, upI_put hS.2.2.2.2 ⟨0, by omega, rfl⟩⟩, by omega⟩
    · rw [b3, m5, m6, m8, m9, m10]
      exact ⟨⟨hS.1, hS.2.1, upI_put hS.2.2.1 ⟨ri, by omega, rfl⟩, hS.2.2.2.1, hS.2.2.2.2⟩, by omega⟩
theorem tyS_h {yt yt2 k ri : Nat} {kd : Int32} {ak ao az ad ab ah au gk go gz gd gb gh gu : Nat → Int32} (hS : tyS ao az ab ah au) (hk : k < 3040) (hr : ri < 3040) (hb : bxT kd k yt yt2 ri (gk = ak ∧ go = ao ∧ gz = az ∧ gd = ad ∧ gb = ab ∧ gu = au) (fun hr => mkT kd (nI k) yt yt2 ri ak ao az ad ab ah au gk go gz gd gb hr gu) ah gh) (hy : yt ≤ 3040) : tyS go gz gb gh gu ∧ yt2 ≤ 3040 := by
  rcases hb with ⟨b1, b2, b3, ⟨b4, b5, b6, b7, b8, b9⟩, b10⟩ | ⟨b1, hr', b2, b3⟩
  · rw [b5, b6, b8, b9, b10, b3]; exact ⟨hS, hy⟩
  · rcases b2 with ⟨m1, m2, m3, m4, m5, m6, m7, m8, m9, m10⟩ | ⟨m1, m2, m3, m4, m5, m6, m7, m8, m9, m10⟩
    · rw [b3, m5, m6, m8, m9, m10]
      exact ⟨⟨upI_put hS.1 ⟨k, by omega, rfl⟩, upI_put hS.2.1 ⟨1, by omega, rfl⟩, upI_put hS.2.2.1 ⟨0, by omega, rfl⟩, upI_put (upI_put hS.2.2.2.1 ⟨0, by omega, rfl⟩) ⟨ri, by omega, rfl⟩, upI_put hS.2.2.2.2 ⟨0, by omega, rfl⟩⟩, by omega⟩
    · rw [b3, m5, m6, m8, m9, m10]
      exact ⟨⟨hS.1, hS.2.1, hS.2.2.1, upI_put hS.2.2.2.1 ⟨ri, by omega, rfl⟩, hS.2.2.2.2⟩, by omega⟩
theorem tyS_u {yt yt2 k ri : Nat} {kd : Int32} {ak ao az ad ab ah au gk go gz gd gb gh gu : Nat → Int32} (hS : tyS ao az ab ah au) (hk : k < 3040) (hr : ri < 3040) (hb : bxT kd k yt yt2 ri (gk = ak ∧ go = ao ∧ gz = az ∧ gd = ad ∧ gb = ab ∧ gh = ah) (fun hr => mkT kd (nI k) yt yt2 ri ak ao az ad ab ah au gk go gz gd gb gh hr) au gu) (hy : yt ≤ 3040) : tyS go gz gb gh gu ∧ yt2 ≤ 3040 := by
  rcases hb with ⟨b1, b2, b3, ⟨b4, b5, b6, b7, b8, b9⟩, b10⟩ | ⟨b1, hr', b2, b3⟩
  · rw [b5, b6, b8, b9, b10, b3]; exact ⟨hS, hy⟩
  · rcases b2 with ⟨m1, m2, m3, m4, m5, m6, m7, m8, m9, m10⟩ | ⟨m1, m2, m3, m4, m5, m6, m7, m8, m9, m10⟩
    · rw [b3, m5, m6, m8, m9, m10]
      exact ⟨⟨upI_put hS.1 ⟨k, by omega, rfl⟩, upI_put hS.2.1 ⟨1, by omega, rfl⟩, upI_put hS.2.2.1 ⟨0, by omega, rfl⟩, upI_put hS.2.2.2.1 ⟨0, by omega, rfl⟩, upI_put (upI_put hS.2.2.2.2 ⟨0, by omega, rfl⟩) ⟨ri, by omega, rfl⟩⟩, by omega⟩
    · rw [b3, m5, m6, m8, m9, m10]
      exact ⟨⟨hS.1, hS.2.1, hS.2.2.1, hS.2.2.2.1, upI_put hS.2.2.2.2 ⟨ri, by omega, rfl⟩⟩, by omega⟩
theorem rtF_bad {yp tt nw nw2 : Nat} {fk : Nat → Int32} {ft ft2 : Int32} {t t2 : tyT} {K N : Prop} (h : ft2 ≠ 0) (h1 : nw2 = tt - 1) (h2 : nw < tt) : rtF yp tt nw nw2 fk ft ft2 t t2 K N := ⟨by omega, fun _ => h1, fun z => absurd z h⟩
theorem cuT_adv {nw tt nw2 : Nat} (h : cuT nw 1 tt nw2) (hn : nw < tt) : nw ≤ nw2 := by
  obtain ⟨h1, h2, h3, h4⟩ := h
  rcases Nat.lt_or_ge (nw + 1) tt with z | z
  · have := h3 z; omega
  · have := h4 z; omega
theorem rtK_0 {fk : Nat → Int32} {tt nw nw2 : Nat} (hn : nw < tt) (h1 : fk nw ≠ 19) (h2 : fk nw ≠ 38) (h : cuT nw 1 tt nw2) : rtK fk tt nw nw2 := ⟨0, fun i hi => absurd hi (by omega), h1, h2, hn, h⟩
theorem rtK_adv {fk : Nat → Int32} {tt nw nw2 : Nat} (h : rtK fk tt nw nw2) : nw ≤ nw2 := by
  obtain ⟨n, a1, a2, a3, a4, a5⟩ := h
  have := cuT_adv a5 a4
  omega
theorem rtK_S {fk : Nat → Int32} {tt nw nw2 : Nat} (h1 : fk nw = 19) (h : rtK fk tt (nw + 1) nw2) : rtK fk tt nw nw2 := by
  obtain ⟨n, a1, a2, a3, a4, a5⟩ := h
  have e : nw + (n + 1) = nw + 1 + n := by omega
  refine ⟨n + 1, fun i hi => ?_, by rw [e]; exact a2, by rw [e]; exact a3, by omega, by rw [e]; exact a5⟩
  cases i with
  | zero => exact h1
  | succ i => rw [show nw + (i + 1) = nw + 1 + i by omega]; exact a1 i (by omega)
/-- a type that begins at p ends by te -/
def tyEn (fk : Nat → Int32) (te tt p : Nat) : Prop := p < tt → ∀ n : Nat, (∀ i : Nat, i < n → fk (p + i) = 19) → p + n + 1 ≤ te
theorem te_tt {fk : Nat → Int32} {tt p : Nat} (hk0 : fk (tt - 1) = 0) : tyEn fk tt tt p := fun hp n h => by
  rcases Nat.lt_or_ge (p + n) tt with c | c
  · omega
  · have h1 := h (tt - 1 - p) (by omega)
    rw [show p + (tt - 1 - p) = tt - 1 by omega, hk0] at h1
    exact absurd h1 (by decide)
theorem tyEn_S {fk : Nat → Int32} {te tt nw : Nat} (h19 : fk nw = 19) (hn : nw < tt) (h : tyEn fk te tt nw) : tyEn fk te tt (nw + 1) := fun hp n hi => by
  have h1 := h hn (n + 1) (fun i hi2 => by
    cases i with
    | zero => exact h19
    | succ i => rw [show nw + (i + 1) = nw + 1 + i by omega]; exact hi i (by omega))
  omega
theorem rtK_te {fk : Nat → Int32} {te tt nw nw2 : Nat} (h : rtK fk tt nw nw2) (he : tyEn fk te tt nw) : nw2 ≤ te := by
  obtain ⟨n, a1, -, -, a4, a5⟩ := h
  have h1 := he (by omega) n a1
  have h2 := a5.2.1
  omega
