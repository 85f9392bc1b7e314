theorem pw_inj : ∀ {a b m n : Nat}, 2 ^ a * (2 * m + 1) = 2 ^ b * (2 * n + 1) → a = b ∧ m = n
  | 0, 0, m, n, h => by
    rw [Nat.pow_zero] at h; omega
  | 0, b + 1, m, n, h => by
    rw [Nat.pow_zero, Nat.pow_succ, Nat.mul_assoc, Nat.mul_comm (2 ^ b), Nat.mul_assoc] at h
    omega
  | a + 1, 0, m, n, h => by
    rw [Nat.pow_zero, Nat.pow_succ, Nat.mul_assoc, Nat.mul_comm (2 ^ a), Nat.mul_assoc] at h
    omega
  | a + 1, b + 1, m, n, h => by
    rw [Nat.pow_succ, Nat.pow_succ, Nat.mul_comm (2 ^ a), Nat.mul_comm (2 ^ b), Nat.mul_assoc, Nat.mul_assoc] at h
    obtain ⟨e1, e2⟩ := pw_inj (a := a) (b := b) (m := m) (n := n) (by rw [Nat.mul_comm (2 ^ a), Nat.mul_comm (2 ^ b)]; rw [Nat.mul_comm (2 ^ a), Nat.mul_comm (2 ^ b)] at h; omega)
    exact ⟨by omega, e2⟩
theorem pw_1 {a m : Nat} : 1 ≤ 2 ^ a * (2 * m + 1) := Nat.le_trans (by omega) (Nat.mul_le_mul (Nat.one_le_pow a 2 (by decide)) (show 1 ≤ 2 * m + 1 by omega))
theorem cdL_inj : ∀ {ρ σ : lLc}, cdL ρ = cdL σ → ρ = σ
  | [], [], _ => rfl
  | [], (a, b) :: σ, h => by
    have h : 0 = 2 ^ a * (2 * (2 ^ b * (2 * cdL σ + 1)) + 1) := h
    have := pw_1 (a := a) (m := 2 ^ b * (2 * cdL σ + 1)); omega
  | (a, b) :: ρ, [], h => by
    have h : 2 ^ a * (2 * (2 ^ b * (2 * cdL ρ + 1)) + 1) = 0 := h
    have := pw_1 (a := a) (m := 2 ^ b * (2 * cdL ρ + 1)); omega
  | (a, b) :: ρ, (c, d) :: σ, h => by
    obtain ⟨e1, e2⟩ := pw_inj (show 2 ^ a * (2 * (2 ^ b * (2 * cdL ρ + 1)) + 1) = 2 ^ c * (2 * (2 ^ d * (2 * cdL σ + 1)) + 1) from h)
    obtain ⟨e3, e4⟩ := pw_inj e2
    rw [e1, e3, cdL_inj e4]
theorem cdP_inj {v w : Nat} {ρ σ : lLc} (h : cdP v ρ = cdP w σ) : v = w ∧ ρ = σ := by
  obtain ⟨e1, e2⟩ := pw_inj (show 2 ^ v * (2 * cdL ρ + 1) = 2 ^ w * (2 * cdL σ + 1) from h)
  exact ⟨e1, cdL_inj e2⟩
/-- the number of a loan: of which place, whether shared -/
def lm (v : Nat) (ρ : lLc) (sh : Nat) : Nat := 100 + (2 * cdP v ρ + sh % 2)
theorem lm_inj {v w s q : Nat} {ρ σ : lLc} (h : lm v ρ s = lm w σ q) : v = w ∧ ρ = σ ∧ s % 2 = q % 2 := by
  unfold lm at h
  obtain ⟨e1, e2⟩ := cdP_inj (show cdP v ρ = cdP w σ by omega)
  exact ⟨e1, e2, by omega⟩
theorem lm_100 {v s : Nat} {ρ : lLc} : ¬ lm v ρ s < 100 := by unfold lm; omega
/-- a function's points and what the passes told of them -/
abbrev fD := eV × (Nat × Nat × Nat × Nat × Nat) × (Nat → iR) × (Nat → List tE) × (Nat → Prop) × (Nat → Int32) × (Nat → Nat) × (Nat → Int64) × (Nat → Int64) × (Nat → Nat → Int64) × (Nat → Nat)
def fD.E (D : fD) : eV := D.1
def fD.mn (D : fD) : Nat := D.2.1.1
def fD.Ps (D : fD) : Nat := D.2.1.2.1
def fD.Pe (D : fD) : Nat := D.2.1.2.2.1
def fD.L0 (D : fD) : Nat := D.2.1.2.2.2.1
def fD.L (D : fD) : Nat := D.2.1.2.2.2.2
def fD.I (D : fD) : Nat → iR := D.2.2.1
def fD.st (D : fD) : Nat → List tE := D.2.2.2.1
def fD.W (D : fD) : Nat → Prop := D.2.2.2.2.1
def fD.rc (D : fD) : Nat → Int32 := D.2.2.2.2.2.1
def fD.tv (D : fD) : Nat → Nat := D.2.2.2.2.2.2.1
def fD.mv (D : fD) : Nat → Int64 := D.2.2.2.2.2.2.2.1
def fD.lv (D : fD) : Nat → Int64 := D.2.2.2.2.2.2.2.2.1
def fD.H (D : fD) : Nat → Nat → Int64 := D.2.2.2.2.2.2.2.2.2.1
def fD.ql (D : fD) : Nat → Nat := D.2.2.2.2.2.2.2.2.2.2
def FnD (R : yR) (S0 : Sg) (i : Nat) (D : fD) : Prop := FnP R S0 D.E i D.mn D.Ps D.Pe D.L0 D.L D.I D.st D.W D.rc D.tv D.mv D.lv D.H D.ql
/-- who is used at k or behind it -/
def AL (D : fD) (k u : Nat) : Prop := AHd (D.I k) D.lv k u
/-- what lacks a value at k -/
def LO (R : yR) (S0 : Sg) (D : fD) (k v : Nat) (π : lLc) : Prop := qM π → (∃ T : Nat, qW D.E.y (D.E.vt v) π T) → ∃ c : Nat, inR R S0 (D.E.vt v) v π c ∧ rb D.mv (10 * k) c = true
/-- the instruction makes the loan l of the place -/
def lnI (i : iR) (l v : Nat) (ρ : lLc) (sh : Nat) : Prop := i.ln = some l ∧ i.n3 % 2 = sh % 2 ∧ ((i.kd = 3 ∧ ∃ T : Nat, i.pa = some (v, ρ, T)) ∨ (i.kd = 23 ∧ ∃ g m T : Nat, i.pa = some (v, ρ ++ [(g + 2, m)], T)))
/-- who holds which loan at k -/
def HK (D : fD) (k u κ : Nat) : Prop := (κ < 100 ∧ ((κ < D.mn ∧ isRf (D.E.vt κ)) → ∃ l : Nat, l < D.L0 ∧ D.ql l = κ ∧ rb (D.H l) (4 * k) u = true)) ∨ ∃ (k2 l v sh : Nat) (ρ : lLc), κ = lm v ρ sh ∧ D.Ps ≤ k2 ∧ k2 < D.Pe ∧ lnI (D.I k2) l v ρ sh ∧ rb (D.H l) (4 * k) u = true
/-- a reference that a function gives back lies there -/
def mkS (s : List tE) : Prop := ∃ e ∈ s, (e.1 = 1 ∨ e.1 = 2) ∧ e.2.2 ≠ 0
/-- .. a parameter whose life is that of what is given back -/
def okl (R : yR) (S0 : Sg) (i : Nat) (D : fD) (κ : Nat) : Prop := κ < 100 → (κ < D.mn ∧ isRf (D.E.vt κ)) → ¬ rlS R S0 i < 0 → lfS R S0 i κ = rlS R S0 i
def HKm (R : yR) (S0 : Sg) (i : Nat) (D : fD) (k u κ : Nat) : Prop := HK D k u κ ∧ (40 ≤ u → AL D k u ∨ mkS (D.st k)) ∧ (mkS (D.st k) → u = 40 → okl R S0 i D κ)
/-- .. of a place that is matched on too (300) -/
def HA (R : yR) (S0 : Sg) (i : Nat) (D : fD) (k u κ : Nat) : Prop := (u ≠ 300 ∧ HKm R S0 i D k u κ) ∨ (u = 300 ∧ ∃ (v q r m : Nat) (ρ : lLc) (s : List tE), D.st k = (q, r, 64 * cdP v ρ + m) :: s ∧ (q = 5 ∨ q = 6) ∧ (m < 64 ∧ v < 40) ∧ (κ = lm v ρ (if q = 5 then 1 else 0) ∨ (isRf (D.E.vt v) ∧ HKm R S0 i D k v κ)))
/-- what a loan's number tells -/
noncomputable def dcd (κ : Nat) : Nat × lLc × Nat := Classical.epsilon (fun x : Nat × lLc × Nat => κ = lm x.1 x.2.1 x.2.2)
theorem dcd_lm {v s : Nat} {ρ : lLc} : (dcd (lm v ρ s)).1 = v ∧ (dcd (lm v ρ s)).2.1 = ρ ∧ (dcd (lm v ρ s)).2.2 % 2 = s % 2 := by
  have h := Classical.epsilon_spec (p := fun x : Nat × lLc × Nat => lm v ρ s = lm x.1 x.2.1 x.2.2) ⟨(v, ρ, s), rfl⟩
  obtain ⟨e1, e2, e3⟩ := lm_inj h
  exact ⟨e1.symm, e2.symm, e3.symm⟩
/-- a function's loans -/
noncomputable def tbD (D : fD) : lTb := (fun κ => (dcd κ).1, fun κ => (dcd κ).2.1, fun κ => (dcd κ).2.2 % 2 = 1, fun κ => κ < 100, fun v => isRf (D.E.vt v))

/-- an entry as the running sees it: a reference that is no longer used is a number -/
noncomputable def trE (al : Nat → Prop) (n : Nat) (e : tE) : tE := if (e.1 = 1 ∨ e.1 = 2) ∧ e.2.2 = 0 ∧ Classical.epsilon (fun b : Bool => b = true ↔ ¬ al (40 + n)) = true then (0, 1, 0) else if e.1 = 3 then (0, e.2.1 / 12, 0) else if e.1 = 5 ∨ e.1 = 6 then (e.1, e.2.1, 64 * (e.2.2 % 64)) else e
noncomputable def trL (al : Nat → Prop) : List tE → List tE
  | [] => []
  | e :: s => trE al (wl s) e :: trL al s
