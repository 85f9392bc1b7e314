/-- the same, with one new box in free cells -/
theorem qMm_mapB {y : qY} {z : qZ} {hp : Nat} {tk tk2 : Nat → Prop} {c c2 : Nat → Int} {rt ra rt2 ra2 : Nat × Nat → Nat} {V V2 : Nat × Nat → qV} (hz : qLy y z) (h : qMm y z hp tk c rt ra V) (M : Nat × Nat → lLc → Nat × Nat → lLc → Prop) (rb : Nat × Nat) (πb : lLc) (b n : Nat) (hn1 : 1 ≤ n) (hb1 : b + n ≤ hp) (hb2 : ∀ k : Nat, b ≤ k → k < b + n → tk2 k ∧ ¬ tk k) (htk : ∀ k : Nat, tk k → tk2 k) (hM : ∀ (r : Nat × Nat) (π : lLc) (r2 : Nat × Nat) (π2 : lLc) (r0 : Nat × Nat) (π0 : lLc), M r π r0 π0 → M r2 π2 r0 π0 → (r, π) = (r2, π2)) (h1 : ∀ r : Nat × Nat, qOk y (rt2 r) (V2 r)) (h2 : ∀ (r : Nat × Nat) (π : lLc) (t g : Nat), V2 r π = some (t, g) → (∃ (r0 : Nat × Nat) (π0 : lLc), M r π r0 π0 ∧ V r0 π0 = some (t, g) ∧ c2 (qA y z c2 (rt2 r) (ra2 r) π) = c (qA y z c (rt r0) (ra r0) π0)) ∨ ((r, π) = (rb, πb) ∧ y.1 t = 4 ∧ z.1 (y.2.1 t) = n ∧ c2 (qA y z c2 (rt2 r) (ra2 r) π) = b)) (h4 : ∀ (r : Nat × Nat) (π : lLc) (x : Nat × Nat), V2 r π = some x → hp ≤ ra2 r) (h5 : ∀ (r r2 : Nat × Nat) (π π2 : lLc) (x x2 : Nat × Nat), r ≠ r2 → V2 r π = some x → V2 r2 π2 = some x2 → ra2 r + z.1 (rt2 r) ≤ ra2 r2 ∨ ra2 r2 + z.1 (rt2 r2) ≤ ra2 r) : qMm y z hp tk2 c2 rt2 ra2 V2 := by
  obtain ⟨m1, m2, m3, m4, m5⟩ := h
  have fr : ∀ (r0 : Nat × Nat) (π0 : lLc) (t g b2 : Nat), V r0 π0 = some (t, g) → y.1 t = 4 → c (qA y z c (rt r0) (ra r0) π0) = b2 → b + n ≤ b2 ∨ b2 + z.1 (y.2.1 t) ≤ b := fun r0 π0 t g b2 hv h4 hb => by
    obtain ⟨b3, g1, g2, g3⟩ := (m2 r0 π0 t g hv).2 h4
    obtain rfl : b2 = b3 := Int.ofNat.inj (hb.symm.trans g1)
    have p1 := hz.1 (y.2.1 t)
    rcases Nat.lt_or_ge b2 (b + n) with q1 | q1
    · rcases Nat.lt_or_ge b (b2 + z.1 (y.2.1 t)) with q2 | q2
      · rcases Nat.lt_or_ge b b2 with q3 | q3
        · exact absurd (g3 b2 (Nat.le_refl _) (by omega)) (hb2 b2 (by omega) q1).2
        · exact absurd (g3 b q3 q2) (hb2 b (Nat.le_refl _) (by omega)).2
      · exact Or.inr q2
    · exact Or.inl q1
  refine ⟨h1, fun r π t g hv => ?_, fun r π t g r2 π2 t2 g2 b1 b2 hv hv2 k1 k2 hne hb hb2' => ?_, h4, h5⟩
  · rcases h2 r π t g hv with ⟨r0, π0, -, a2, a3⟩ | ⟨a1, a2, a3, a4⟩
    · rw [a3]
      refine ⟨(m2 r0 π0 t g a2).1, fun q => ?_⟩
      obtain ⟨b3, g1, g2, g3⟩ := (m2 r0 π0 t g a2).2 q
      exact ⟨b3, g1, g2, fun k k1 k2 => htk k (g3 k k1 k2)⟩
    · exact ⟨fun q => absurd (a2.symm.trans q) (by decide), fun _ => ⟨b, a4, by rw [a3]; exact hb1, fun k k1 k2 => (hb2 k k1 (by rw [a3] at k2; exact k2)).1⟩⟩
  · rcases h2 r π t g hv with ⟨r0, π0, a1, a2, a3⟩ | ⟨a1, a2, a3, a4⟩
    · rcases h2 r2 π2 t2 g2 hv2 with ⟨r3, π3, a4, a5, a6⟩ | ⟨a4, a5, a6, a7⟩
      · rw [a3] at hb
        rw [a6] at hb2'
        refine m3 r0 π0 t g r3 π3 t2 g2 b1 b2 a2 a5 k1 k2 (fun q => hne ?_) hb hb2'
        injection q with q1 q2
        subst q1; subst q2
        exact hM _ _ _ _ _ _ a1 a4
      · rw [a3] at hb
        obtain rfl : b2 = b := Int.ofNat.inj (hb2'.symm.trans a7)
        rw [a6]
        exact (fr r0 π0 t g b1 a2 k1 hb).symm
    · obtain rfl : b1 = b := Int.ofNat.inj (hb.symm.trans a4)
      rcases h2 r2 π2 t2 g2 hv2 with ⟨r3, π3, b4, a5, a6⟩ | ⟨b4, a5, a6, a7⟩
      · rw [a6] at hb2'
        rw [a3]
        exact fr r3 π3 t2 g2 b2 a5 k2 hb2'
      · exact absurd (a1.trans b4.symm) hne
def qRt (rt : Nat × Nat → Nat) (r : Nat × Nat) (t : Nat) : Nat × Nat → Nat := fun q => if q = r then t else rt q
theorem qRt_eq {rt : Nat × Nat → Nat} {r : Nat × Nat} {t : Nat} : qRt rt r t r = t := if_pos rfl
theorem qRt_ne {rt : Nat × Nat → Nat} {r q : Nat × Nat} {t : Nat} (h : q ≠ r) : qRt rt r t q = rt q := if_neg h
/-- a value is boxed -/
theorem qMm_bx {y : qY} {z : qZ} {hp : Nat} {tk tk2 : Nat → Prop} {c c2 : Nat → Int} {rt ra : Nat × Nat → Nat} {V : Nat × Nat → qV} (hz : qLy y z) (h : qMm y z hp tk c rt ra V) {s : Nat × Nat} {t b : Nat} (hf : qF y (V s) [] (rt s)) (hne : qPl (V s) []) (h4 : y.1 t = 4) (ht : y.2.1 t = rt s) (hz1 : z.1 t = 1) (hb1 : b + z.1 (rt s) ≤ hp) (hb2 : ∀ k : Nat, b ≤ k → k < b + z.1 (rt s) → tk2 k ∧ ¬ tk k) (htk : ∀ k : Nat, tk k → tk2 k) (e1 : ∀ o : Nat, o < z.1 (rt s) → c2 (b + o) = c (ra s + o)) (e2 : c2 (ra s) = b) (e3 : ∀ k : Nat, k ≠ ra s → ¬ (b ≤ k ∧ k < b + z.1 (rt s)) → c2 k = c k) : qMm y z hp tk2 c2 (qRt rt s t) ra (qUp V s (qB t (V s))) := by
  have hw := h
  obtain ⟨m1, m2, m3, m4, m5⟩ := h
  obtain ⟨σ0, x0, hx0⟩ := hne
  have hs0 : hp ≤ ra s := m4 s _ x0 hx0
  have hfu : qFu y (rt s) (V s) := ⟨m1 s, hf⟩
  have hfB : qFu y t (qB t (V s)) := qFu_B h4 (by rw [ht]; exact hfu)
  -- cells of what lies there, but the first of s
  have own : ∀ (r : Nat × Nat) (π : lLc) (x : Nat × Nat), V r π = some x → (r = s → ¬ qN π) → c2 (qA y z c (rt r) (ra r) π) = c (qA y z c (rt r) (ra r) π) := fun r π x hx hn => by
    obtain ⟨u, g⟩ := x
    have w1 := ((m1 r).1 π u g hx).1
    have p1 := hz.1 u
    rcases qN_last π with nπ | ⟨π1, i, π2, rfl, nπ⟩
    · have hr : r ≠ s := fun q => hn q nπ
      have i2 := qA_in (c := c) hz (a := ra r) w1 nπ
      have i3 := m5 r s _ _ _ _ hr hx hx0
      have i4 := m4 r _ _ hx
      have p2 := hz.1 (rt s)
      exact e3 _ (by omega) (by omega)
    · obtain ⟨t1, g1, k1, k2, k3, k4, k5⟩ := qH (z := z) (c := c) (m1 r) (σ := []) (by rw [List.append_nil]; exact hx) w1
      obtain ⟨b0, b1, b2, b3⟩ := (m2 r π1 t1 g1 k1).2 k2
      have k6 := k5 (ra r)
      rw [b1] at k6
      have k6 : qA y z c (rt r) (ra r) (π1 ++ (1, i) :: π2) = qA y z c (y.2.1 t1) b0 π2 := k6
      have i2 := qA_in (c := c) hz (a := b0) k4 nπ
      rw [k6]
      refine e3 _ (by omega) (fun q => ?_)
      exact absurd (b3 (qA y z c (y.2.1 t1) b0 π2) i2.1 (by omega)) (hb2 _ q.1 q.2).2
  have adr : ∀ (r : Nat × Nat) (π : lLc) (x : Nat × Nat), r ≠ s → V r π = some x → c2 (qA y z c2 (rt r) (ra r) π) = c (qA y z c (rt r) (ra r) π) := fun r π x hr hx => by
    obtain ⟨u, g⟩ := x
    rw [qA_pl (c2 := c2) (m1 r) ⟨[], (u, g), by rw [List.append_nil]; exact hx⟩ ((m1 r).1 π u g hx).1 (fun π1 v hv _ _ => own r π1 v hv (fun q => absurd q hr))]
    exact own r π _ hx (fun q => absurd q hr)
  have mov : ∀ (n : Nat) (τ : lLc) (x : Nat × Nat), τ.length ≤ n → V s τ = some x → c2 (qA y z c2 (rt s) b τ) = c (qA y z c (rt s) (ra s) τ) := by
    intro n
    induction n with
    | zero =>
      intro τ x hl hx
      have : τ = [] := List.eq_nil_of_length_eq_zero (by omega)
      subst this
      exact e1 0 (hz.1 _)
    | succ n ih =>
      intro τ x hl hx
      obtain ⟨u, g⟩ := x
      have w2 := ((m1 s).1 _ u g hx).1
      rcases qN_last τ with nτ | ⟨τ1, j, τ2, rfl, nτ⟩
      · have i1 := qA_sh (z := z) (c := c2) (c2 := c) (a := b) (b := ra s) w2 nτ
        have i2 := qA_in (c := c) hz (a := ra s) w2 nτ
        have p1 := hz.1 u
        have i3 := e1 (qA y z c (rt s) (ra s) τ - ra s) (by omega)
        rw [show qA y z c2 (rt s) b τ = b + (qA y z c (rt s) (ra s) τ - ra s) by omega, i3]
        congr 1
        omega
      · obtain ⟨⟨t1, g1⟩, hu⟩ := (m1 s).2.1 τ1 τ2 j _ hx
        have h1 := ih τ1 _ (by simp only [List.length_append, List.length_cons] at hl; omega) hu
        obtain ⟨T2, v1, v2⟩ := qW_cut w2
        have b1 := qA_app (z := z) (c := c2) (a := b) (σ := (1, j) :: τ2) v1
        have b2 := qA_app (z := z) (c := c) (a := ra s) (σ := (1, j) :: τ2) v1
        have k0 : qA y z c2 (rt s) b (τ1 ++ (1, j) :: τ2) = qA y z c (rt s) (ra s) (τ1 ++ (1, j) :: τ2) := by
          rw [b1, b2]
          show qA y z c2 (y.2.1 T2) (c2 (qA y z c2 (rt s) b τ1)).toNat τ2 = qA y z c (y.2.1 T2) (c (qA y z c (rt s) (ra s) τ1)).toNat τ2
          rw [h1]
          have := qA_sh (z := z) (c := c2) (c2 := c) (a := (c (qA y z c (rt s) (ra s) τ1)).toNat) (b := (c (qA y z c (rt s) (ra s) τ1)).toNat) v2.2.2 nτ
          omega
        rw [k0]
        refine own s _ _ hx (fun _ q => ?_)
        exact absurd rfl (q (1, j) (List.mem_append_right _ (List.mem_cons_self ..)))
  have cls : ∀ (r : Nat × Nat) (π : lLc) (x : Nat × Nat), qUp V s (qB t (V s)) r π = some x → (r = s ∧ π = [] ∧ x = (t, 0)) ∨ (∃ τ : lLc, r = s ∧ π = (1, 0) :: τ ∧ V s τ = some x) ∨ (r ≠ s ∧ V r π = some x) := fun r π x hx => by
    by_cases e : r = s
    · subst e
      rw [qUp_eq] at hx
      cases π with
      | nil => exact Or.inl ⟨rfl, rfl, (Option.some.inj hx).symm⟩
      | cons a τ =>
        obtain ⟨q, j⟩ := a
        have hx : (if q = 1 ∧ j = 0 then V r τ else none) = some x := hx
        by_cases c : q = 1 ∧ j = 0
        · rw [if_pos c] at hx
          exact Or.inr (Or.inl ⟨τ, rfl, by rw [c.1, c.2], hx⟩)
        · rw [if_neg c] at hx; exact absurd hx (by simp)
    · rw [qUp_ne e] at hx
      exact Or.inr (Or.inr ⟨e, hx⟩)
  refine qMm_mapB hz hw (fun r π r0 π0 => (∃ τ : lLc, r = s ∧ π = (1, 0) :: τ ∧ r0 = s ∧ π0 = τ) ∨ (r ≠ s ∧ r0 = r ∧ π0 = π)) s [] b (z.1 (rt s)) (hz.1 _) hb1 hb2 htk ?_ (fun r => ?_) (fun r π u g hv => ?_) (fun r π x hx => ?_) (fun r r2 π π2 x x2 hne hx hx2 => ?_)
  · rintro r π r2 π2 r0 π0 (⟨τ, a1, a2, a3, a4⟩ | ⟨a0, a1, a2⟩) (⟨τ2, b1, b2, b3, b4⟩ | ⟨b0, b1, b2⟩)
    · rw [a1, a2, b1, b2, ← a4, ← b4]
    · exact absurd (b1.symm.trans a3) b0
    · exact absurd (a1.symm.trans b3) a0
    · rw [← a1, ← a2, ← b1, ← b2]
  · by_cases e : r = s
    · subst e; rw [qUp_eq, qRt_eq]; exact hfB.1
    · rw [qUp_ne e, qRt_ne e]; exact m1 r
  · rcases cls r π _ hv with ⟨a1, a2, a3⟩ | ⟨τ, a1, a2, a3⟩ | ⟨a1, a2⟩
    · injection a3 with a4 a5
      refine Or.inr ⟨by rw [a1, a2], by rw [a4]; exact h4, by rw [a4, ht], ?_⟩
      rw [a1, a2]; exact e2
    · refine Or.inl ⟨s, τ, Or.inl ⟨τ, a1, a2, rfl, rfl⟩, a3, ?_⟩
      rw [a1, a2, qRt_eq]
      show c2 (qA y z c2 (y.2.1 t) (c2 (ra s)).toNat τ) = _
      rw [e2, ht]
      exact mov τ.length τ _ (Nat.le_refl _) a3
    · refine Or.inl ⟨r, π, Or.inr ⟨a1, rfl, rfl⟩, a2, ?_⟩
      rw [qRt_ne a1]
      exact adr r π _ a1 a2
  · rcases cls r π _ hx with ⟨a1, a2, a3⟩ | ⟨τ, a1, a2, a3⟩ | ⟨a1, a2⟩
    · rw [a1]; exact hs0
    · rw [a1]; exact hs0
    · exact m4 r π x a2
  · have p2 := hz.1 (rt s)
    by_cases er : r = s
    · subst er
      have e6 : r2 ≠ r := fun q => hne q.symm
      rw [qUp_ne e6] at hx2
      have := m5 r r2 _ _ _ _ hne hx0 hx2
      rw [qRt_eq, qRt_ne e6]
      omega
    · rw [qUp_ne er] at hx
      by_cases er2 : r2 = s
      · subst er2
        have := m5 r r2 _ _ _ _ hne hx hx0
        rw [qRt_eq, qRt_ne er]
        omega
      · rw [qUp_ne er2] at hx2
        rw [qRt_ne er, qRt_ne er2]
        exact m5 r r2 π π2 x x2 hne hx hx2
