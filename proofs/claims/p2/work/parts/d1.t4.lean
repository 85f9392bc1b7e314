/-- what lies there came from elsewhere, with the same in its cell, or is no box -/
theorem qMm_map {y : qY} {z : qZ} {hp : Nat} {tk : Nat → Prop} {c c2 : Nat → Int} {rt ra rt2 ra2 : Nat × Nat → Nat} {V V2 : Nat × Nat → qV} (h : qMm y z hp tk c rt ra V) (M : Nat × Nat → lLc → Nat × Nat → lLc → Prop) (hM : ∀ (r : Nat × Nat) (π : lLc) (r2 : Nat × Nat) (π2 : lLc) (r0 : Nat × Nat) (π0 : lLc), M r π r0 π0 → M r2 π2 r0 π0 → (r, π) = (r2, π2)) (h1 : ∀ r : Nat × Nat, qOk y (rt2 r) (V2 r)) (h2 : ∀ (r : Nat × Nat) (π : lLc) (t g : Nat), V2 r π = some (t, g) → (∃ (r0 : Nat × Nat) (π0 : lLc), M r π r0 π0 ∧ V r0 π0 = some (t, g) ∧ c2 (qA y z c2 (rt2 r) (ra2 r) π) = c (qA y z c (rt r0) (ra r0) π0)) ∨ (y.1 t ≠ 4 ∧ (y.1 t = 3 → c2 (qA y z c2 (rt2 r) (ra2 r) π) = g))) (h4 : ∀ (r : Nat × Nat) (π : lLc) (x : Nat × Nat), V2 r π = some x → hp ≤ ra2 r) (h5 : ∀ (r r2 : Nat × Nat) (π π2 : lLc) (x x2 : Nat × Nat), r ≠ r2 → V2 r π = some x → V2 r2 π2 = some x2 → ra2 r + z.1 (rt2 r) ≤ ra2 r2 ∨ ra2 r2 + z.1 (rt2 r2) ≤ ra2 r) : qMm y z hp tk c2 rt2 ra2 V2 := by
  obtain ⟨m1, m2, m3, m4, m5⟩ := h
  refine ⟨h1, fun r π t g hv => ?_, fun r π t g r2 π2 t2 g2 b b2 hv hv2 k1 k2 hne hb hb2 => ?_, h4, h5⟩
  · rcases h2 r π t g hv with ⟨r0, π0, -, a2, a3⟩ | ⟨a1, a2⟩
    · rw [a3]; exact m2 r0 π0 t g a2
    · exact ⟨a2, fun q => absurd q a1⟩
  · rcases h2 r π t g hv with ⟨r0, π0, a1, a2, a3⟩ | ⟨a1, a2⟩
    · rcases h2 r2 π2 t2 g2 hv2 with ⟨r3, π3, a4, a5, a6⟩ | ⟨a4, a5⟩
      · rw [a3] at hb
        rw [a6] at hb2
        refine m3 r0 π0 t g r3 π3 t2 g2 b b2 a2 a5 k1 k2 (fun q => hne ?_) hb hb2
        injection q with q1 q2
        subst q1; subst q2
        exact hM _ _ _ _ _ _ a1 a4
      · exact absurd k2 a4
    · exact absurd k1 a1
def qUp (V : Nat × Nat → qV) (r : Nat × Nat) (W : qV) : Nat × Nat → qV := fun q => if q = r then W else V q
theorem qUp_eq {V : Nat × Nat → qV} {r : Nat × Nat} {W : qV} : qUp V r W r = W := if_pos rfl
theorem qUp_ne {V : Nat × Nat → qV} {r q : Nat × Nat} {W : qV} (h : q ≠ r) : qUp V r W q = V q := if_neg h
/-- what lies at (s, σ) goes to (d, ρ) -/
theorem qMv {y : qY} {z : qZ} {hp : Nat} {tk : Nat → Prop} {c c2 : Nat → Int} {rt ra : Nat × Nat → Nat} {V : Nat × Nat → qV} (hz : qLy y z) (h : qMm y z hp tk c rt ra V) {s d : Nat × Nat} {σ ρ : lLc} {T1 : Nat} {Vs : qV} (hsd : s ≠ d) (hσ : qW y (rt s) σ T1) (hρ : qW y (rt d) ρ T1) (hVs : qOk y (rt s) Vs) (hVs2 : ∀ (π : lLc) (x : Nat × Nat), Vs π = some x → V s π = some x ∧ ¬ lP σ π) (hVd : qOk y (rt d) (qG (V d) ρ (qS (V s) σ))) (hpar : ∀ (ρ1 : lLc) (j : Nat) (ρ2 : lLc), ρ = ρ1 ++ (1, j) :: ρ2 → ∃ x : Nat × Nat, V d ρ1 = some x) (e1 : ∀ (r : Nat × Nat) (π : lLc) (x : Nat × Nat), V r π = some x → ¬ (r = d ∧ lP ρ π) → (r = s → lP σ π → ¬ qN π) → ¬ (qA y z c (rt d) (ra d) ρ ≤ qA y z c (rt r) (ra r) π ∧ qA y z c (rt r) (ra r) π < qA y z c (rt d) (ra d) ρ + z.1 T1)) (e2 : ∀ k : Nat, ¬ (qA y z c (rt d) (ra d) ρ ≤ k ∧ k < qA y z c (rt d) (ra d) ρ + z.1 T1) → c2 k = c k) (e3 : ∀ o : Nat, o < z.1 T1 → c2 (qA y z c (rt d) (ra d) ρ + o) = c (qA y z c (rt s) (ra s) σ + o)) (e4 : hp ≤ ra d) (e5 : ∀ (r : Nat × Nat) (π : lLc) (x : Nat × Nat), r ≠ d → qUp V s Vs r π = some x → ra r + z.1 (rt r) ≤ ra d ∨ ra d + z.1 (rt d) ≤ ra r) : qMm y z hp tk c2 rt ra (qUp (qUp V s Vs) d (qG (V d) ρ (qS (V s) σ))) := by
  have hw := h
  obtain ⟨m1, m2, m3, m4, m5⟩ := h
  have own : ∀ (r : Nat × Nat) (π : lLc) (x : Nat × Nat), V r π = some x → ¬ (r = d ∧ lP ρ π) → (r = s → lP σ π → ¬ qN π) → c2 (qA y z c (rt r) (ra r) π) = c (qA y z c (rt r) (ra r) π) := fun r π x hx hn h9 => e2 _ (e1 r π x hx hn h9)
  have adr : ∀ (r : Nat × Nat) (π : lLc) (x : Nat × Nat), V r π = some x → ¬ (r = d ∧ lP ρ π) → (r = s → ¬ lP σ π) → qA y z c2 (rt r) (ra r) π = qA y z c (rt r) (ra r) π := fun r π x hx hn h9 => by
    obtain ⟨t, g⟩ := x
    refine qA_fr π.length (Nat.le_refl _) ((m1 r).1 π t g hx).1 (fun π1 j π2 e => ?_)
    subst e
    obtain ⟨u, hu⟩ := (m1 r).2.1 π1 π2 j _ hx
    exact own r π1 u hu (fun q => hn ⟨q.1, lP_tr q.2 (lP_app π1 _)⟩) (fun q1 q2 => absurd (lP_tr q2 (lP_app π1 _)) (h9 q1))
  have adρ : qA y z c2 (rt d) (ra d) ρ = qA y z c (rt d) (ra d) ρ := by
    refine qA_fr ρ.length (Nat.le_refl _) hρ (fun ρ1 j ρ2 e => ?_)
    obtain ⟨u, hu⟩ := hpar ρ1 j ρ2 e
    refine own d ρ1 u hu (fun q => ?_) (fun q => absurd q.symm hsd)
    obtain ⟨s1, e6⟩ := q.2
    have := congrArg List.length e
    have h7 := congrArg List.length e6
    simp only [List.length_append, List.length_cons] at this h7
    omega
  have mov : ∀ (n : Nat) (τ : lLc) (x : Nat × Nat), τ.length ≤ n → V s (σ ++ τ) = some x → c2 (qA y z c2 (rt d) (ra d) (ρ ++ τ)) = c (qA y z c (rt s) (ra s) (σ ++ τ)) := by
    intro n
    induction n with
    | zero =>
      intro τ x hl hx
      have : τ = [] := List.eq_nil_of_length_eq_zero (by omega)
      subst this
      rw [List.append_nil, List.append_nil, adρ]
      have := e3 0 (hz.1 T1)
      exact this
    | succ n ih =>
      intro τ x hl hx
      obtain ⟨t, g⟩ := x
      have w1 := ((m1 s).1 _ t g hx).1
      have w2 : qW y T1 τ t := qW_rest w1 hσ
      rcases qN_last τ with nτ | ⟨τ1, j, τ2, rfl, nτ⟩
      · rw [qA_app hρ, qA_app hσ, adρ]
        have i1 := qA_sh (z := z) (c := c2) (c2 := c) (a := qA y z c (rt d) (ra d) ρ) (b := qA y z c (rt s) (ra s) σ) w2 nτ
        have i2 := qA_in (c := c) hz (a := qA y z c (rt s) (ra s) σ) w2 nτ
        have p1 := hz.1 t
        have i3 := e3 (qA y z c T1 (qA y z c (rt s) (ra s) σ) τ - qA y z c (rt s) (ra s) σ) (by omega)
        rw [show qA y z c2 T1 (qA y z c (rt d) (ra d) ρ) τ = qA y z c (rt d) (ra d) ρ + (qA y z c T1 (qA y z c (rt s) (ra s) σ) τ - qA y z c (rt s) (ra s) σ) by omega, i3]
        congr 1
        omega
      · obtain ⟨⟨t1, g1⟩, hu⟩ := (m1 s).2.1 (σ ++ τ1) τ2 j _ (by rw [List.append_assoc]; exact hx)
        have h1 := ih τ1 _ (by simp only [List.length_append, List.length_cons] at hl; omega) hu
        obtain ⟨T2, v1, v2⟩ := qW_cut w2
        have b1 := qA_app (z := z) (c := c2) (a := ra d) (σ := (1, j) :: τ2) (qW_app hρ v1)
        have b2 := qA_app (z := z) (c := c) (a := ra s) (σ := (1, j) :: τ2) (qW_app hσ v1)
        have k0 : qA y z c2 (rt d) (ra d) (ρ ++ (τ1 ++ (1, j) :: τ2)) = qA y z c (rt s) (ra s) (σ ++ (τ1 ++ (1, j) :: τ2)) := by
          rw [← List.append_assoc, ← List.append_assoc, b1, b2]
          show qA y z c2 (y.2.1 T2) (c2 (qA y z c2 (rt d) (ra d) (ρ ++ τ1))).toNat τ2 = qA y z c (y.2.1 T2) (c (qA y z c (rt s) (ra s) (σ ++ τ1))).toNat τ2
          rw [h1]
          have := qA_sh (z := z) (c := c2) (c2 := c) (a := (c (qA y z c (rt s) (ra s) (σ ++ τ1))).toNat) (b := (c (qA y z c (rt s) (ra s) (σ ++ τ1))).toNat) v2.2.2 nτ
          omega
        rw [k0]
        exact own s _ _ hx (fun q => hsd q.1) (fun _ _ q => absurd rfl (q (1, j) (List.mem_append_right _ (List.mem_append_right _ (List.mem_cons_self ..)))))
  have cls : ∀ (r : Nat × Nat) (π : lLc) (x : Nat × Nat), qUp (qUp V s Vs) d (qG (V d) ρ (qS (V s) σ)) r π = some x → (∃ τ : lLc, r = d ∧ π = ρ ++ τ ∧ V s (σ ++ τ) = some x) ∨ (¬ (r = d ∧ lP ρ π) ∧ V r π = some x ∧ (r = s → ¬ lP σ π)) := fun r π x hx => by
    by_cases er : r = d
    · subst er
      rw [qUp_eq] at hx
      by_cases c1 : lP ρ π
      · obtain ⟨τ, rfl⟩ := c1
        rw [qG_in] at hx
        exact Or.inl ⟨τ, rfl, rfl, hx⟩
      · rw [qG_out c1] at hx
        exact Or.inr ⟨fun q => c1 q.2, hx, fun q => absurd q.symm hsd⟩
    · rw [qUp_ne er] at hx
      by_cases es : r = s
      · subst es
        rw [qUp_eq] at hx
        obtain ⟨f1, f2⟩ := hVs2 π x hx
        exact Or.inr ⟨fun q => er q.1, f1, fun _ => f2⟩
      · rw [qUp_ne es] at hx
        exact Or.inr ⟨fun q => er q.1, hx, fun q => absurd q es⟩
  refine qMm_map hw (fun r π r0 π0 => (∃ τ : lLc, r = d ∧ π = ρ ++ τ ∧ r0 = s ∧ π0 = σ ++ τ) ∨ (¬ (r = d ∧ lP ρ π) ∧ r0 = r ∧ π0 = π ∧ (r = s → ¬ lP σ π))) ?_ (fun r => ?_) (fun r π t g hv => ?_) (fun r π x hx => ?_) (fun r r2 π π2 x x2 hne hx hx2 => ?_)
  · rintro r π r2 π2 r0 π0 (⟨τ, a1, a2, a3, a4⟩ | ⟨a0, a1, a2, a3⟩) (⟨τ2, b1, b2, b3, b4⟩ | ⟨b0, b1, b2, b3⟩)
    · have : τ = τ2 := List.append_cancel_left (a4.symm.trans b4)
      rw [a1, a2, b1, b2, this]
    · exact absurd ⟨τ, b2.symm.trans a4⟩ (b3 (b1.symm.trans a3))
    · exact absurd ⟨τ2, a2.symm.trans b4⟩ (a3 (a1.symm.trans b3))
    · rw [← a1, ← a2, ← b1, ← b2]
  · by_cases er : r = d
    · subst er; rw [qUp_eq]; exact hVd
    · rw [qUp_ne er]
      by_cases es : r = s
      · subst es; rw [qUp_eq]; exact hVs
      · rw [qUp_ne es]; exact m1 r
  · rcases cls r π _ hv with ⟨τ, a1, a2, a3⟩ | ⟨a1, a2, a3⟩
    · refine Or.inl ⟨s, σ ++ τ, Or.inl ⟨τ, a1, a2, rfl, rfl⟩, a3, ?_⟩
      rw [a1, a2]
      exact mov τ.length τ _ (Nat.le_refl _) a3
    · refine Or.inl ⟨r, π, Or.inr ⟨a1, rfl, rfl, a3⟩, a2, ?_⟩
      rw [adr r π _ a2 a1 a3]
      exact own r π _ a2 a1 (fun q1 q2 => absurd q2 (a3 q1))
  · rcases cls r π _ hx with ⟨τ, a1, a2, a3⟩ | ⟨a1, a2, a3⟩
    · rw [a1]; exact e4
    · exact m4 r π x a2
  · rcases cls r π _ hx with ⟨τ, a1, a2, a3⟩ | ⟨a1, a2, a3⟩
    · rcases cls r2 π2 _ hx2 with ⟨τ2, b1, b2, b3⟩ | ⟨b1, b2, b3⟩
      · exact absurd (a1.trans b1.symm) hne
      · subst a1
        exact (e5 r2 π2 x2 (fun q => hne q.symm) (by rw [qUp_ne (fun q => hne q.symm)] at hx2; exact hx2)).symm
    · rcases cls r2 π2 _ hx2 with ⟨τ2, b1, b2, b3⟩ | ⟨b1, b2, b3⟩
      · subst b1
        exact e5 r π x hne (by rw [qUp_ne hne] at hx; exact hx)
      · exact m5 r r2 π π2 x x2 hne a2 b2
