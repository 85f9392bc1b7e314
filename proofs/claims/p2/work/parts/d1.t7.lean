/-- other names of roots -/
theorem qMm_ren {y : qY} {z : qZ} {hp : Nat} {tk : Nat → Prop} {c : Nat → Int} {rt ra rt2 ra2 : Nat × Nat → Nat} {V V2 : Nat × Nat → qV} (h : qMm y z hp tk c rt ra V) (φ : Nat × Nat → Nat × Nat) (h1 : ∀ r : Nat × Nat, (∀ π : lLc, V2 r π = none) ∨ (V2 r = V (φ r) ∧ rt2 r = rt (φ r) ∧ ra2 r = ra (φ r))) (h2 : ∀ (r r2 : Nat × Nat) (π π2 : lLc) (x x2 : Nat × Nat), V2 r π = some x → V2 r2 π2 = some x2 → φ r = φ r2 → r = r2) : qMm y z hp tk c rt2 ra2 V2 := by
  have hw := h
  obtain ⟨m1, m2, m3, m4, m5⟩ := h
  have k : ∀ (r : Nat × Nat) (π : lLc) (x : Nat × Nat), V2 r π = some x → V2 r = V (φ r) ∧ rt2 r = rt (φ r) ∧ ra2 r = ra (φ r) := fun r π x hx => by
    rcases h1 r with q | q
    · rw [q π] at hx; simp at hx
    · exact q
  refine ⟨fun r => ?_, fun r π t g hv => ?_, fun r π t g r2 π2 t2 g2 b b2 hv hv2 k1 k2 hne => ?_, fun r π x hx => ?_, fun r r2 π π2 x x2 hne hx hx2 => ?_⟩
  · rcases h1 r with q | ⟨q1, q2, q3⟩
    · rw [show V2 r = fun _ => none from funext q]; exact qOk_none
    · rw [q1, q2]; exact m1 _
  · obtain ⟨q1, q2, q3⟩ := k r π _ hv
    rw [q2, q3]
    exact m2 (φ r) π t g (by rw [← q1]; exact hv)
  · obtain ⟨q1, q2, q3⟩ := k r π _ hv
    obtain ⟨p1, p2, p3⟩ := k r2 π2 _ hv2
    rw [q2, q3, p2, p3]
    refine m3 (φ r) π t g (φ r2) π2 t2 g2 b b2 (by rw [← q1]; exact hv) (by rw [← p1]; exact hv2) k1 k2 (fun q => hne ?_)
    injection q with e1 e2
    rw [h2 r r2 π π2 _ _ hv hv2 e1, e2]
  · obtain ⟨q1, q2, q3⟩ := k r π _ hx
    rw [q3]
    exact m4 (φ r) π x (by rw [← q1]; exact hx)
  · obtain ⟨q1, q2, q3⟩ := k r π _ hx
    obtain ⟨p1, p2, p3⟩ := k r2 π2 _ hx2
    rw [q2, q3, p2, p3]
    exact m5 (φ r) (φ r2) π π2 x x2 (fun q => hne (h2 r r2 π π2 x x2 hx hx2 q)) (by rw [← q1]; exact hx) (by rw [← p1]; exact hx2)
/-- parts on the stack become a variant -/
theorem qMm_pad {y : qY} {z : qZ} {hp : Nat} {tk : Nat → Prop} {c : Nat → Int} {rt ra : Nat × Nat → Nat} {V V2 : Nat × Nat → qV} (h : qMm y z hp tk c rt ra V) {d : Nat × Nat} {t g : Nat} (p : Nat → Nat × Nat) (hpj : ∀ i j : Nat, i < y.2.2.2.1 t g → j < y.2.2.2.1 t g → p i = p j → i = j) (h4 : y.1 t = 3) (hg : g < y.2.2.1 t) (hrt : ∀ j : Nat, j < y.2.2.2.1 t g → rt (p j) = y.2.2.2.2 t g j ∧ ra (p j) = ra d + z.2 t g j ∧ qF y (V (p j)) [] (rt (p j))) (hc : c (ra d) = g) (v1 : V2 d = qE t g (y.2.2.2.1 t g) (fun j => V (p j))) (v2 : ∀ r : Nat × Nat, r ≠ d → (∀ π : lLc, V2 r π = none) ∨ (V2 r = V r ∧ ∀ j : Nat, j < y.2.2.2.1 t g → r ≠ p j)) (e4 : hp ≤ ra d) (e5 : ∀ (r : Nat × Nat) (π : lLc) (x : Nat × Nat), r ≠ d → V2 r π = some x → ra r + z.1 (rt r) ≤ ra d ∨ ra d + z.1 t ≤ ra r) : qMm y z hp tk c (qRt rt d t) ra V2 := by
  have hw := h
  obtain ⟨m1, m2, m3, m4, m5⟩ := h
  have hfE : qFu y t (V2 d) := by
    rw [v1]
    exact qFu_E h4 hg (fun j hj => by rw [← (hrt j hj).1]; exact ⟨m1 (p j), (hrt j hj).2.2⟩)
  have cls : ∀ (r : Nat × Nat) (π : lLc) (x : Nat × Nat), V2 r π = some x → (r = d ∧ π = [] ∧ x = (t, g)) ∨ (∃ (j : Nat) (τ : lLc), r = d ∧ π = (g + 2, j) :: τ ∧ j < y.2.2.2.1 t g ∧ V (p j) τ = some x) ∨ (r ≠ d ∧ V r π = some x ∧ ∀ j : Nat, j < y.2.2.2.1 t g → r ≠ p j) := fun r π x hx => by
    by_cases e : r = d
    · subst e
      rw [v1] at hx
      cases π with
      | nil => exact Or.inl ⟨rfl, rfl, (Option.some.inj hx).symm⟩
      | cons a τ =>
        obtain ⟨q, j⟩ := a
        have hx : (if q = g + 2 ∧ j < y.2.2.2.1 t g then V (p j) τ else none) = some x := hx
        by_cases c : q = g + 2 ∧ j < y.2.2.2.1 t g
        · rw [if_pos c] at hx
          exact Or.inr (Or.inl ⟨j, τ, rfl, by rw [c.1], c.2, hx⟩)
        · rw [if_neg c] at hx; exact absurd hx (by simp)
    · rcases v2 r e with q | ⟨q1, q2⟩
      · rw [q π] at hx; simp at hx
      · rw [q1] at hx
        exact Or.inr (Or.inr ⟨e, hx, q2⟩)
  refine qMm_map hw (fun r π r0 π0 => (∃ (j : Nat) (τ : lLc), r = d ∧ π = (g + 2, j) :: τ ∧ j < y.2.2.2.1 t g ∧ r0 = p j ∧ π0 = τ) ∨ (r ≠ d ∧ r0 = r ∧ π0 = π ∧ ∀ j : Nat, j < y.2.2.2.1 t g → r ≠ p j)) ?_ (fun r => ?_) (fun r π u g1 hv => ?_) (fun r π x hx => ?_) (fun r r2 π π2 x x2 hne hx hx2 => ?_)
  · rintro r π r2 π2 r0 π0 (⟨j, τ, a1, a2, a3, a4, a5⟩ | ⟨a0, a1, a2, a3⟩) (⟨j2, τ2, b1, b2, b3, b4, b5⟩ | ⟨b0, b1, b2, b3⟩)
    · have := hpj j j2 a3 b3 (a4.symm.trans b4)
      rw [a1, a2, b1, b2, ← a5, ← b5, this]
    · exact absurd (b1.symm.trans a4) (b3 j a3)
    · exact absurd (a1.symm.trans b4) (a3 j2 b3)
    · rw [← a1, ← a2, ← b1, ← b2]
  · by_cases e : r = d
    · subst e; rw [qRt_eq]; exact hfE.1
    · rw [qRt_ne e]
      rcases v2 r e with q | ⟨q1, q2⟩
      · rw [show V2 r = fun _ => none from funext q]; exact qOk_none
      · rw [q1]; exact m1 r
  · rcases cls r π _ hv with ⟨a1, a2, a3⟩ | ⟨j, τ, a1, a2, a3, a4⟩ | ⟨a1, a2, a3⟩
    · injection a3 with a4 a5
      refine Or.inr ⟨by rw [a4, h4]; decide, fun _ => ?_⟩
      rw [a1, a2, a5]; exact hc
    · refine Or.inl ⟨p j, τ, Or.inl ⟨j, τ, a1, a2, a3, rfl, rfl⟩, a4, ?_⟩
      rw [a1, a2, qRt_eq]
      show c (qA y z c (y.2.2.2.2 t g j) (ra d + z.2 t g j) τ) = _
      rw [(hrt j a3).1, (hrt j a3).2.1]
    · refine Or.inl ⟨r, π, Or.inr ⟨a1, rfl, rfl, a3⟩, a2, ?_⟩
      rw [qRt_ne a1]
  · rcases cls r π _ hx with ⟨a1, a2, a3⟩ | ⟨j, τ, a1, a2, a3, a4⟩ | ⟨a1, a2, a3⟩
    · rw [a1]; exact e4
    · rw [a1]; exact e4
    · exact m4 r π x a2
  · by_cases er : r = d
    · subst er
      have e6 : r2 ≠ r := fun q => hne q.symm
      rw [qRt_eq, qRt_ne e6]
      exact (e5 r2 π2 x2 e6 hx2).symm
    · by_cases er2 : r2 = d
      · subst er2
        rw [qRt_eq, qRt_ne er]
        exact e5 r π x er hx
      · rw [qRt_ne er, qRt_ne er2]
        rcases cls r π _ hx with ⟨a1, a2, a3⟩ | ⟨j, τ, a1, a2, a3, a4⟩ | ⟨a1, a2, a3⟩
        · exact absurd a1 er
        · exact absurd a1 er
        · rcases cls r2 π2 _ hx2 with ⟨b1, b2, b3⟩ | ⟨j, τ, b1, b2, b3, b4⟩ | ⟨b1, b2, b3⟩
          · exact absurd b1 er2
          · exact absurd b1 er2
          · exact m5 r r2 π π2 x x2 hne a2 b2
/-- a variant's parts become roots -/
theorem qMm_spl {y : qY} {z : qZ} {hp : Nat} {tk : Nat → Prop} {c : Nat → Int} {rt ra rt2 ra2 : Nat × Nat → Nat} {V V2 : Nat × Nat → qV} (hz : qLy y z) (h : qMm y z hp tk c rt ra V) {s : Nat × Nat} {t g : Nat} (p : Nat → Nat × Nat) (hpj : ∀ i j : Nat, i < y.2.2.2.1 t g → j < y.2.2.2.1 t g → p i = p j → i = j) (hs : V s [] = some (t, g)) (h4 : y.1 t = 3) (hrs : rt s = t) (hrt : ∀ j : Nat, j < y.2.2.2.1 t g → rt2 (p j) = y.2.2.2.2 t g j ∧ ra2 (p j) = ra s + z.2 t g j ∧ V2 (p j) = qS (V s) [(g + 2, j)]) (v2 : ∀ r : Nat × Nat, (∃ j : Nat, j < y.2.2.2.1 t g ∧ r = p j) ∨ (∀ π : lLc, V2 r π = none) ∨ (V2 r = V r ∧ rt2 r = rt r ∧ ra2 r = ra r ∧ r ≠ s)) : qMm y z hp tk c rt2 ra2 V2 ∧ ∀ j : Nat, j < y.2.2.2.1 t g → qF y (V2 (p j)) [] (rt2 (p j)) := by
  have hw := h
  obtain ⟨m1, m2, m3, m4, m5⟩ := h
  obtain ⟨w1, w2, w3, w4, w5⟩ := (m1 s).1 [] t g hs
  have hg := w3 h4
  have hst : ∀ j : Nat, j < y.2.2.2.1 t g → qW y (rt s) [(g + 2, j)] (y.2.2.2.2 t g j) := fun j hj => by rw [hrs]; exact ⟨h4, hg, hj, rfl⟩
  have cls : ∀ (r : Nat × Nat) (π : lLc) (x : Nat × Nat), V2 r π = some x → (∃ j : Nat, j < y.2.2.2.1 t g ∧ r = p j ∧ V s ((g + 2, j) :: π) = some x) ∨ (V r π = some x ∧ rt2 r = rt r ∧ ra2 r = ra r ∧ r ≠ s ∧ ¬ ∃ j : Nat, j < y.2.2.2.1 t g ∧ r = p j) := fun r π x hx => by
    by_cases e : ∃ j : Nat, j < y.2.2.2.1 t g ∧ r = p j
    · obtain ⟨j, hj, rfl⟩ := e
      rw [(hrt j hj).2.2] at hx
      exact Or.inl ⟨j, hj, rfl, hx⟩
    · rcases v2 r with q | q | ⟨q1, q2, q3, q4⟩
      · exact absurd q e
      · rw [q π] at hx; simp at hx
      · rw [q1] at hx
        exact Or.inr ⟨hx, q2, q3, q4, e⟩
  refine ⟨qMm_map hw (fun r π r0 π0 => (∃ j : Nat, j < y.2.2.2.1 t g ∧ r = p j ∧ r0 = s ∧ π0 = (g + 2, j) :: π) ∨ (r ≠ s ∧ r0 = r ∧ π0 = π)) ?_ (fun r => ?_) (fun r π u g1 hv => ?_) (fun r π x hx => ?_) (fun r r2 π π2 x x2 hne hx hx2 => ?_), fun j hj => ?_⟩
  · rintro r π r2 π2 r0 π0 (⟨j, a1, a2, a3, a4⟩ | ⟨a0, a1, a2⟩) (⟨j2, b1, b2, b3, b4⟩ | ⟨b0, b1, b2⟩)
    · have e := a4.symm.trans b4
      injection e with e1 e2
      injection e1 with e3 e4
      rw [a2, b2, e2, e4]
    · exact absurd (b1.symm.trans a3) b0
    · exact absurd (a1.symm.trans b3) a0
    · rw [← a1, ← a2, ← b1, ← b2]
  · rcases v2 r with ⟨j, hj, rfl⟩ | q | ⟨q1, q2, q3, q4⟩
    · rw [(hrt j hj).1, (hrt j hj).2.2]
      exact qOk_S (m1 s) (hst j hj)
    · rw [show V2 r = fun _ => none from funext q]; exact qOk_none
    · rw [q1, q2]; exact m1 r
  · rcases cls r π _ hv with ⟨j, hj, rfl, a1⟩ | ⟨a1, a2, a3, a4, a5⟩
    · refine Or.inl ⟨s, (g + 2, j) :: π, Or.inl ⟨j, hj, rfl, rfl, rfl⟩, a1, ?_⟩
      rw [(hrt j hj).1, (hrt j hj).2.1, hrs]
      rfl
    · refine Or.inl ⟨r, π, Or.inr ⟨a4, rfl, rfl⟩, a1, ?_⟩
      rw [a2, a3]
  · rcases cls r π _ hx with ⟨j, hj, rfl, a1⟩ | ⟨a1, a2, a3, a4, a5⟩
    · have := m4 s _ _ hs
      rw [(hrt j hj).2.1]; omega
    · rw [a3]; exact m4 r π x a1
  · rcases cls r π _ hx with ⟨j, hj, rfl, a1⟩ | ⟨a1, a2, a3, a4, a5⟩
    · have b1 := hz.2.2.2.1 t g j h4 hg hj
      rcases cls r2 π2 _ hx2 with ⟨j2, hj2, rfl, a2⟩ | ⟨a2, a3, a4, a5, a6⟩
      · have hjj : j ≠ j2 := fun q => hne (by rw [q])
        rw [(hrt j hj).1, (hrt j hj).2.1, (hrt j2 hj2).1, (hrt j2 hj2).2.1]
        rcases Nat.lt_or_gt_of_ne hjj with q | q
        · have := hz.2.2.2.2 t g j j2 h4 hg q hj2
          omega
        · have := hz.2.2.2.2 t g j2 j h4 hg q hj
          omega
      · rw [(hrt j hj).1, (hrt j hj).2.1, a3, a4]
        have := m5 s r2 _ _ _ _ (fun q => a5 q.symm) hs a2
        rw [hrs] at this
        omega
    · rcases cls r2 π2 _ hx2 with ⟨j2, hj2, rfl, b2⟩ | ⟨b2, b3, b4, b5, b6⟩
      · have b1 := hz.2.2.2.1 t g j2 h4 hg hj2
        rw [(hrt j2 hj2).1, (hrt j2 hj2).2.1, a2, a3]
        have := m5 s r _ _ _ _ (fun q => a4 q.symm) hs a1
        rw [hrs] at this
        omega
      · rw [a2, a3, b3, b4]
        exact m5 r r2 π π2 x x2 hne a1 b2
  · rw [(hrt j hj).2.2, (hrt j hj).1, qF_S]
    exact w5 h4 j hj
