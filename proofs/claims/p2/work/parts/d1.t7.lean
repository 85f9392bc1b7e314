-- d1.t7.lean.txt
section
/-- other names of roots -/
theorem qMm_ren {y : qY} {z : qZ} {hp : Nat} {tk : Nat → Prop} {c : Nat → Int} {rt ra rt2 ra2 : Nat × Nat → Nat} {V V2 : Nat × Nat → qV} (h : qMm y z hp tk c rt ra V) (φ : Nat × Nat → Nat × Nat) (h1 : ∀ r : Nat × Nat, (∀ π : lLc, V2 r π = none) ∨ (V2 r = V (φ r) ∧ rt2 r = rt (φ r) ∧ ra2 r = ra (φ r))) (h2 : ∀ (r r2 : Nat × Nat) (π π2 : lLc) (x x2 : Nat × Nat), V2 r π = some x → V2 r2 π2 = some x2 → φ r = φ r2 → r = r2) : qMm y z hp tk c rt2 ra2 V2 := by
  have hw := h
  obtain ⟨m1, m2, m3, m4, m5⟩ := h
  have k : ∀ (r : Nat × Nat) (π : lLc) (x : Nat × Nat), V2 r π = some x → V2 r = V (φ r) ∧ rt2 r = rt (φ r) ∧ ra2 r = ra (φ r) := fun r π x hx => by
    rcases h1 r with q | q
    · rw [q π] at hx; simp at hx
    · exact q
  refine ⟨fun r => ?_, fun r π t g hv => ?_, fun r π t g r2 π2 t2 g2 b b2 hv hv2 k1 k2 hne => ?_, fun r π x hx => ?_, fun r r2 π π2 x x2 hne hx hx2 => ?_⟩
  · rcases h1 r with q | ⟨q1, q2, q3⟩
    · rw [show V2 r = fun _ => none from funext q]; exact qOk_none
    · rw [q1, q2]; exact m1 _
  · obtain ⟨q1, q2, q3⟩ := k r π _ hv
    rw [q2, q3]
    exact m2 (φ r) π t g (by rw [← q1]; exact hv)
  · obtain ⟨q1, q2, q3⟩ := k r π _ hv
    obtain ⟨p1, p2, p3⟩ := k r2 π2 _ hv2
    rw [q2, q3, p2, p3]
    refine m3 (φ r) π t g (φ r2) π2 t2 g2 b b2 (by rw [← q1]; exact hv) (by rw [← p1]; exact hv2) k1 k2 (fun q => hne ?_)
    injection q with e1 e2
    rw [h2 r r2 π π2 _ _ hv hv2 e1, e2]
  · obtain ⟨q1, q2, q3⟩ := k r π _ hx
    rw [q3]
    exact m4 (φ r) π x (by rw [← q1]; exact hx)
  · obtain ⟨q1, q2, q3⟩ := k r π _ hx
    obtain ⟨p1, p2, p3⟩ := k r2 π2 _ hx2
    rw [q2, q3, p2, p3]
    exact m5 (φ r) (φ r2) π π2 x x2 (fun q => hne (h2 r r2 π π2 x x2 hx hx2 q)) (by rw [← q1]; exact hx) (by rw [← p1]; exact hx2)
/-- parts on the stack become a variant -/
theorem qMm_pad {y : qY} {z : qZ} {hp : Nat} {tk : Nat → Prop} {c : Nat → Int} {rt ra : Nat × Nat → Nat} {V V2 : Nat × Nat → qV} (h : qMm y z hp tk c rt ra V) {d : Nat × Nat} {t g : Nat} (p : Nat → Nat × Nat) (hpj : ∀ i j : Nat, i < y.2.2.2.1 t g → j < y.2.2.2.1 t g → p i = p j → i = j) (h4 : y.1 t = 3) (hg : g < y.2.2.1 t) (hrt : ∀ j : Nat, j < y.2.2.2.1 t g → rt (p j) = y.2.2.2.2 t g j ∧ ra (p j) = ra d + z.2 t g j ∧ qF y (V (p j)) [] (rt (p j))) (hc : c (ra d) = g) (v1 : V2 d = qE t g (y.2.2.2.1 t g) (fun j => V (p j))) (v2 : ∀ r : Nat × Nat, r ≠ d → (∀ π : lLc, V2 r π = none) ∨ (V2 r = V r ∧ ∀ j : Nat, j < y.2.2.2.1 t g → r ≠ p j)) (e4 : hp ≤ ra d) (e5 : ∀ (r : Nat × Nat) (π : lLc) (x : Nat × Nat), r ≠ d → V2 r π = some x → ra r + z.1 (rt r) ≤ ra d ∨ ra d + z.1 t ≤ ra r) : qMm y z hp tk c (qRt rt d t) ra V2 := by
  have hw := h
  obtain ⟨m1, m2, m3, m4, m5⟩ := h
  have hfE : qFu y t (V2 d) := by
    rw [v1]
    exact qFu_E h4 hg (fun j hj => by rw [← (hrt j hj).1]; exact ⟨m1 (p j), (hrt j hj).2.2⟩)
  have cls : ∀ (r : Nat × Nat) (π : lLc) (x : Nat × Nat), V2 r π = some x → (r = d ∧ π = [] ∧ x = (t, g)) ∨ (∃ (j : Nat) (τ : lLc), r = d ∧ π = (g + 2, j) :: τ ∧ j < y.2.2.2.1 t g ∧ V (p j) τ = some x) ∨ (r ≠ d ∧ V r π = some x ∧ ∀ j : Nat, j < y.2.2.2.1 t g → r ≠ p j) := fun r π x hx => by
    by_cases e : r = d
    · subst e
      rw [v1] at hx
      cases π with
      | nil => exact Or.inl ⟨rfl, rfl, (Option.some.inj hx).symm⟩
      | cons a τ =>
        obtain ⟨q, j⟩ := a
        have hx : (if q = g + 2 ∧ j < y.2.2.2.1 t g then V (p j) τ else none) = some x := hx
        by_cases c : q = g + 2 ∧ j < y.2.2.2.1 t g
        · rw [if_pos c] at hx
          exact Or.inr (Or.inl ⟨j, τ, rfl, by rw [c.1], c.2, hx⟩)
        · rw [if_neg c] at hx; exact absurd hx (by simp)
    · rcases v2 r e with q | ⟨q1, q2⟩
      · rw [q π] at hx; simp at hx
      · rw [q1] at hx
        exact Or.inr (Or.inr ⟨e, hx, q2⟩)
  refine qMm_map hw (fun r π r0 π0 => (∃ (j : Nat) (τ : lLc), r = d ∧ π = (g + 2, j) :: τ ∧ j < y.2.2.2.1 t g ∧ r0 = p j ∧ π0 = τ) ∨ (r ≠ d ∧ r0 = r ∧ π0 = π ∧ ∀ j : Nat, j < y.2.2.2.1 t g → r ≠ p j)) ?_ (fun r => ?_) (fun r π u g1 hv => ?_) (fun r π x hx => ?_) (fun r r2 π π2 x x2 hne hx hx2 => ?_)
  · rintro r π r2 π2 r0 π0 (⟨j, τ, a1, a2, a3, a4, a5⟩ | ⟨a0, a1, a2, a3⟩) (⟨j2, τ2, b1, b2, b3, b4, b5⟩ | ⟨b0, b1, b2, b3⟩)
    · have := hpj j j2 a3 b3 (a4.symm.trans b4)
      rw [a1, a2, b1, b2, ← a5, ← b5, this]
    · exact absurd (b1.symm.trans a4) (b3 j a3)
    · exact absurd (a1.symm.trans b4) (a3 j2 b3)
    · rw [← a1, ← a2, ← b1, ← b2]
  · by_cases e : r = d
    · subst e; rw [qRt_eq]; exact hfE.1
    · rw [qRt_ne e]
      rcases v2 r e with q | ⟨q1, q2⟩
      · rw [show V2 r = fun _ => none from funext q]; exact qOk_none
      · rw [q1]; exact m1 r
  · rcases cls r π _ hv with ⟨a1, a2, a3⟩ | ⟨j, τ, a1, a2, a3, a4⟩ | ⟨a1, a2, a3⟩
    · injection a3 with a4 a5
      refine Or.inr ⟨by rw [a4, h4]; decide, fun _ => ?_⟩
      rw [a1, a2, a5]; exact hc
    · refine Or.inl ⟨p j, τ, Or.inl ⟨j, τ, a1, a2, a3, rfl, rfl⟩, a4, ?_⟩
      rw [a1, a2, qRt_eq]
      show c (qA y z c (y.2.2.2.2 t g j) (ra d + z.2 t g j) τ) = _
      rw [(hrt j a3).1, (hrt j a3).2.1]
    · refine Or.inl ⟨r, π, Or.inr ⟨a1, rfl, rfl, a3⟩, a2, ?_⟩
      rw [qRt_ne a1]
  · rcases cls r π _ hx with ⟨a1, a2, a3⟩ | ⟨j, τ, a1, a2, a3, a4⟩ | ⟨a1, a2, a3⟩
    · rw [a1]; exact e4
    · rw [a1]; exact e4
    · exact m4 r π x a2
  · by_cases er : r = d
    · subst er
      have e6 : r2 ≠ r := fun q => hne q.symm
      rw [qRt_eq, qRt_ne e6]
      exact (e5 r2 π2 x2 e6 hx2).symm
    · by_cases er2 : r2 = d
      · subst er2
        rw [qRt_eq, qRt_ne er]
        exact e5 r π x er hx
      · rw [qRt_ne er, qRt_ne er2]
        rcases cls r π _ hx with ⟨a1, a2, a3⟩ | ⟨j, τ, a1, a2, a3, a4⟩ | ⟨a1, a2, a3⟩
        · exact absurd a1 er
        · exact absurd a1 er
        · rcases cls r2 π2 _ hx2 with ⟨b1, b2, b3⟩ | ⟨j, τ, b1, b2, b3, b4⟩ | ⟨b1, b2, b3⟩
          · exact absurd b1 er2
          · exact absurd b1 er2
          · exact m5 r r2 π π2 x x2 hne a2 b2
/-- a variant's parts become roots -/
theorem qMm_spl {y : qY} {z : qZ} {hp : Nat} {tk : Nat → Prop} {c : Nat → Int} {rt ra rt2 ra2 : Nat × Nat → Nat} {V V2 : Nat × Nat → qV} (hz : qLy y z) (h : qMm y z hp tk c rt ra V) {s : Nat × Nat} {t g : Nat} (p : Nat → Nat × Nat) (hpj : ∀ i j : Nat, i < y.2.2.2.1 t g → j < y.2.2.2.1 t g → p i = p j → i = j) (hs : V s [] = some (t, g)) (h4 : y.1 t = 3) (hrs : rt s = t) (hrt : ∀ j : Nat, j < y.2.2.2.1 t g → rt2 (p j) = y.2.2.2.2 t g j ∧ ra2 (p j) = ra s + z.2 t g j ∧ V2 (p j) = qS (V s) [(g + 2, j)]) (v2 : ∀ r : Nat × Nat, (∃ j : Nat, j < y.2.2.2.1 t g ∧ r = p j) ∨ (∀ π : lLc, V2 r π = none) ∨ (V2 r = V r ∧ rt2 r = rt r ∧ ra2 r = ra r ∧ r ≠ s)) : qMm y z hp tk c rt2 ra2 V2 ∧ ∀ j : Nat, j < y.2.2.2.1 t g → qF y (V2 (p j)) [] (rt2 (p j)) := by
  have hw := h
  obtain ⟨m1, m2, m3, m4, m5⟩ := h
  obtain ⟨w1, w2, w3, w4, w5⟩ := (m1 s).1 [] t g hs
  have hg := w3 h4
  have hst : ∀ j : Nat, j < y.2.2.2.1 t g → qW y (rt s) [(g + 2, j)] (y.2.2.2.2 t g j) := fun j hj => by rw [hrs]; exact ⟨h4, hg, hj, rfl⟩
  have cls : ∀ (r : Nat × Nat) (π : lLc) (x : Nat × Nat), V2 r π = some x → (∃ j : Nat, j < y.2.2.2.1 t g ∧ r = p j ∧ V s ((g + 2, j) :: π) = some x) ∨ (V r π = some x ∧ rt2 r = rt r ∧ ra2 r = ra r ∧ r ≠ s ∧ ¬ ∃ j : Nat, j < y.2.2.2.1 t g ∧ r = p j) := fun r π x hx => by
    by_cases e : ∃ j : Nat, j < y.2.2.2.1 t g ∧ r = p j
    · obtain ⟨j, hj, rfl⟩ := e
      rw [(hrt j hj).2.2] at hx
      exact Or.inl ⟨j, hj, rfl, hx⟩
    · rcases v2 r with q | q | ⟨q1, q2, q3, q4⟩
      · exact absurd q e
      · rw [q π] at hx; simp at hx
      · rw [q1] at hx
        exact Or.inr ⟨hx, q2, q3, q4, e⟩
  refine ⟨qMm_map hw (fun r π r0 π0 => (∃ j : Nat, j < y.2.2.2.1 t g ∧ r = p j ∧ r0 = s ∧ π0 = (g + 2, j) :: π) ∨ (r ≠ s ∧ r0 = r ∧ π0 = π)) ?_ (fun r => ?_) (fun r π u g1 hv => ?_) (fun r π x hx => ?_) (fun r r2 π π2 x x2 hne hx hx2 => ?_), fun j hj => ?_⟩
  · rintro r π r2 π2 r0 π0 (⟨j, a1, a2, a3, a4⟩ | ⟨a0, a1, a2⟩) (⟨j2, b1, b2, b3, b4⟩ | ⟨b0, b1, b2⟩)
    · have e := a4.symm.trans b4
      injection e with e1 e2
      injection e1 with e3 e4
      rw [a2, b2, e2, e4]
    · exact absurd (b1.symm.trans a3) b0
    · exact absurd (a1.symm.trans b3) a0
    · rw [← a1, ← a2, ← b1, ← b2]
  · rcases v2 r with ⟨j, hj, rfl⟩ | q | ⟨q1, q2, q3, q4⟩
    · rw [(hrt j hj).1, (hrt j hj).2.2]
      exact qOk_S (m1 s) (hst j hj)
    · rw [show V2 r = fun _ => none from funext q]; exact qOk_none
    · rw [q1, q2]; exact m1 r
  · rcases cls r π _ hv with ⟨j, hj, rfl, a1⟩ | ⟨a1, a2, a3, a4, a5⟩
    · refine Or.inl ⟨s, (g + 2, j) :: π, Or.inl ⟨j, hj, rfl, rfl, rfl⟩, a1, ?_⟩
      rw [(hrt j hj).1, (hrt j hj).2.1, hrs]
      rfl
    · refine Or.inl ⟨r, π, Or.inr ⟨a4, rfl, rfl⟩, a1, ?_⟩
      rw [a2, a3]
  · rcases cls r π _ hx with ⟨j, hj, rfl, a1⟩ | ⟨a1, a2, a3, a4, a5⟩
    · have := m4 s _ _ hs
      rw [(hrt j hj).2.1]; omega
    · rw [a3]; exact m4 r π x a1
  · rcases cls r π _ hx with ⟨j, hj, rfl, a1⟩ | ⟨a1, a2, a3, a4, a5⟩
    · have b1 := hz.2.2.2.1 t g j h4 hg hj
      rcases cls r2 π2 _ hx2 with ⟨j2, hj2, rfl, a2⟩ | ⟨a2, a3, a4, a5, a6⟩
      · have hjj : j ≠ j2 := fun q => hne (by rw [q])
        rw [(hrt j hj).1, (hrt j hj).2.1, (hrt j2 hj2).1, (hrt j2 hj2).2.1]
        rcases Nat.lt_or_gt_of_ne hjj with q | q
        · have := hz.2.2.2.2 t g j j2 h4 hg q hj2
          omega
        · have := hz.2.2.2.2 t g j2 j h4 hg q hj
          omega
      · rw [(hrt j hj).1, (hrt j hj).2.1, a3, a4]
        have := m5 s r2 _ _ _ _ (fun q => a5 q.symm) hs a2
        rw [hrs] at this
        omega
    · rcases cls r2 π2 _ hx2 with ⟨j2, hj2, rfl, b2⟩ | ⟨b2, b3, b4, b5, b6⟩
      · have b1 := hz.2.2.2.1 t g j2 h4 hg hj2
        rw [(hrt j2 hj2).1, (hrt j2 hj2).2.1, a2, a3]
        have := m5 s r _ _ _ _ (fun q => a4 q.symm) hs a1
        rw [hrs] at this
        omega
      · rw [a2, a3, b3, b4]
        exact m5 r r2 π π2 x x2 hne a1 b2
  · rw [(hrt j hj).2.2, (hrt j hj).1, qF_S]
    exact w5 h4 j hj
end
-- d1.t8.lean.txt
section
/-- members and stars alone -/
def qMs (π : lLc) : Prop := ∀ x : Nat × Nat, x ∈ π → x.1 = 0 ∨ x.1 = 1
theorem qMs_cons {x : Nat × Nat} {a : lLc} : qMs (x :: a) ↔ (x.1 = 0 ∨ x.1 = 1) ∧ qMs a := by
  constructor
  · intro h
    exact ⟨h x (List.mem_cons_self ..), fun z hz => h z (List.mem_cons_of_mem x hz)⟩
  · intro h z hz
    rcases List.mem_cons.mp hz with e | e
    · rw [e]; exact h.1
    · exact h.2 z e
theorem qMs_M {π : lLc} (h : qM π) : qMs π := fun x hx => Or.inl (h x hx)
/-- behind a whole value's members and stars lie whole values -/
theorem qF_path {y : qY} {T0 : Nat} {V : qV} (h : qOk y T0 V) : ∀ {ρ π : lLc} {T t : Nat}, qW y T0 π T → qF y V π T → qW y T ρ t → qMs ρ → qF y V (π ++ ρ) t
  | [], π, T, t, _, hf, hρ, _ => by
    obtain rfl := (show _ = _ from hρ)
    rw [List.append_nil]; exact hf
  | (0, j) :: ρ, π, T, t, hπ, hf, hρ, hm => by
    have h1 : qW y T [(0, j)] (y.2.2.2.2 T 0 j) := ⟨hρ.1, hρ.2.1, rfl⟩
    have := qF_path h (ρ := ρ) (qW_app hπ h1) (qF_in hf (fun x hx => by rw [List.mem_singleton.mp hx]) h1) hρ.2.2 (qMs_cons.mp hm).2
    rw [List.append_assoc] at this; exact this
  | (1, j) :: ρ, π, T, t, hπ, hf, hρ, hm => by
    obtain ⟨rfl, h4, hρ⟩ := hρ
    obtain ⟨⟨t1, g1⟩, hx⟩ := (hf [] T qM_nil rfl).1 (by rw [h4]; decide)
    rw [List.append_nil] at hx
    obtain ⟨w1, w2, w3, w4, w5⟩ := h.1 π t1 g1 hx
    obtain rfl := qW_det w1 hπ
    have := qF_path h (ρ := ρ) (qW_app hπ (show qW y t1 [(1, 0)] (y.2.1 t1) from ⟨rfl, h4, rfl⟩)) (w4 h4) hρ (qMs_cons.mp hm).2
    rw [List.append_assoc] at this; exact this
  | (g + 2, j) :: ρ, _, _, _, _, _, _, hm => by
    have := (qMs_cons.mp hm).1
    omega
/-- where a reference leads: a whole value of type T -/
def qTg (y : qY) (rt : Nat × Nat → Nat) (V : Nat × Nat → qV) (a : lLc) (T : Nat) : Prop := ∃ (r : Nat × Nat) (π : lLc), a = r :: π ∧ r.2 < 40 ∧ qW y (rt r) π T ∧ qF y (V r) π T
theorem qTg_eq {y : qY} {rt rt2 : Nat × Nat → Nat} {V V2 : Nat × Nat → qV} {a : lLc} {T : Nat} (h : qTg y rt V a T) (e : ∀ (r : Nat × Nat) (π : lLc), a = r :: π → qPl (V r) π → r.2 < 40 → V2 r = V r ∧ rt2 r = rt r) : qTg y rt2 V2 a T := by
  obtain ⟨r, π, h1, h2, h3, h4⟩ := h
  obtain ⟨e1, e2⟩ := e r π h1 (qF_pl h4) h2
  exact ⟨r, π, h1, h2, by rw [e2]; exact h3, by rw [e1]; exact h4⟩
theorem qF_C {y : qY} {V : qV} {π σ : lLc} {T : Nat} (h : qF y V π T) (hn : ¬ lCmp π σ) : qF y (qC V σ) π T := fun ρ t g1 g2 => qQ_cg (h ρ t g1 g2) (fun τ => qC_out (fun q => hn (lCmp_sym (lP_two q (by rw [List.append_assoc]; exact lP_app π (ρ ++ τ))))))
theorem qTg_C {y : qY} {rt : Nat × Nat → Nat} {V : Nat × Nat → qV} {a : lLc} {T : Nat} {s : Nat × Nat} {σ : lLc} (h : qTg y rt V a T) (hn : ¬ lCmp a (s :: σ)) : qTg y rt (qUp V s (qC (V s) σ)) a T := by
  obtain ⟨r, π, h1, h2, h3, h4⟩ := h
  refine ⟨r, π, h1, h2, h3, ?_⟩
  by_cases e : r = s
  · subst e
    rw [qUp_eq]
    refine qF_C h4 (fun q => hn ?_)
    rw [h1]
    exact q.imp lP_consI lP_consI
  · rw [qUp_ne e]; exact h4
theorem qTg_G {y : qY} {rt : Nat × Nat → Nat} {V : Nat × Nat → qV} {W : qV} {a : lLc} {T T1 : Nat} {d : Nat × Nat} {ρ : lLc} (h : qTg y rt V a T) (hρ : qW y (rt d) ρ T1) (hW : qF y W [] T1) (hn : lCmp a (d :: ρ) → lP a (d :: ρ)) : qTg y rt (qUp V d (qG (V d) ρ W)) a T := by
  obtain ⟨r, π, h1, h2, h3, h4⟩ := h
  refine ⟨r, π, h1, h2, h3, ?_⟩
  by_cases e : r = d
  · subst e
    rw [qUp_eq]
    refine qF_G hρ hW h3 h4 ?_
    by_cases c : lP ρ π
    · have := hn (Or.inr (by rw [h1]; exact lP_consI c))
      rw [h1] at this
      exact Or.inr (lP_anti c (lP_cons this).2)
    · exact Or.inl c
  · rw [qUp_ne e]; exact h4
/-- frames by number: loans, holders, what outer loans lead to -/
def kSk (f : Nat) (tb : Nat → lTb) (An : Nat → Nat → lLc → Nat → Prop) (fr : Nat → lFr) : Prop := (∀ j : Nat, j ≤ f → lIv j (tb j) (An j) (fr j)) ∧ (∀ (o : Nat) (e : lLc) (q : Nat), ¬ An 0 o e q) ∧ ∀ j : Nat, j < f → ∀ (o : Nat) (e : lLc) (q : Nat), An (j + 1) o e q → ∃ t : Nat, 40 ≤ t ∧ (fr j).2.1 t ∧ (fr j).1 t = some e ∧ (q = 1 → (fr j).2.2.2 t)
/-- what is used in a caller and is comparable with a unique reference of frame f lies above it -/
theorem kUp {tb : Nat → lTb} {An : Nat → Nat → lLc → Nat → Prop} {fr : Nat → lFr} : ∀ {f : Nat}, kSk f tb An fr → ∀ {r : Nat} {b : lLc}, (fr f).2.1 r → (fr f).1 r = some b → (fr f).2.2.2 r → ∀ {j : Nat}, j < f → ∀ {u : Nat} {a : lLc}, (fr j).2.1 u → (fr j).1 u = some a → lCmp a b → lP a b
  | 0, _, _, _, _, _, _, j, hj, _, _, _, _, _ => absurd hj (Nat.not_lt_zero j)
  | f + 1, h, r, b, hr, hb, hU, j, hj, u, a, hu, ha, hc => by
    have hy := h.1 j (by omega)
    obtain ⟨i, v, w, rfl, hi⟩ := lIv_fr hy hu ha
    rcases (h.1 (f + 1) (Nat.le_refl _)).1 r b hr hb with ⟨l, g1, g2, g3, g4, g5⟩ | ⟨o, e2, q, g1, g2, g3, g4, g5, g6⟩
    · obtain ⟨e3, -⟩ := lCmp_cons (lCmp_pre g4 (lCmp_sym hc))
      injection e3 with e4 e5
      omega
    · obtain ⟨t, t1, t2, t3, t4⟩ := h.2.2 f (Nat.lt_succ_self f) o e2 q g3
      have hc2 := lCmp_sym (lCmp_pre g4 (lCmp_sym hc))
      have hq : (fr f).2.2.2 t := t4 (g5 hU)
      by_cases ej : j = f
      · subst ej
        by_cases eu : u = t
        · subst eu
          obtain e6 := Option.some.inj (t3.symm.trans ha)
          rw [← e6]
          exact g4
        · rcases hy.2 t u e2 _ (fun q => eu q.symm) t2 hu t3 ha (Or.inl hq) (lCmp_sym hc2) with x1 | x1
          · exact lP_tr (lRt_up x1) g4
          · exact absurd x1.1 (by omega)
      · exact lP_tr (kUp (f := f) ⟨fun j hj => h.1 j (by omega), h.2.1, fun j hj => h.2.2 j (by omega)⟩ t2 t3 hq (j := j) (by omega) hu ha hc2) g4
/-- the latest frame alone is told anew -/
theorem kSk_top {f : Nat} {tb : Nat → lTb} {An : Nat → Nat → lLc → Nat → Prop} {fr fr2 : Nat → lFr} (h : kSk f tb An fr) (hf : ∀ j : Nat, j < f → fr2 j = fr j) (hn : lIv f (tb f) (An f) (fr2 f)) : kSk f tb An fr2 := by
  refine ⟨fun j hj => ?_, h.2.1, fun j hj o e q ho => ?_⟩
  · by_cases ej : j = f
    · subst ej; exact hn
    · rw [hf j (by omega)]; exact h.1 j hj
  · rw [hf j hj]
    exact h.2.2 j hj o e q ho
end
-- d2.ra.lean.txt
section
/-- a frame: its function, its values, how many of them are a call's arguments that are gone, where references lead, what they hold, variables used ahead, places of variables that may be without a value, what outer loans lead to -/
abbrev kFm := Nat × List tE × Nat × (Nat → Option lLc) × (Nat → Nat → Prop) × (Nat → Prop) × (Nat → lLc → Prop) × (Nat → lLc → Nat → Prop)
def kR (x : kFm) : Nat → Option lLc := x.2.2.2.1
def kH (x : kFm) : Nat → Nat → Prop := x.2.2.2.2.1
def kal (x : kFm) : Nat → Prop := x.2.2.2.2.2.1
def klo (x : kFm) : Nat → lLc → Prop := x.2.2.2.2.2.2.1
def kAn (x : kFm) : Nat → lLc → Nat → Prop := x.2.2.2.2.2.2.2
/-- those that are used -/
def kA (x : kFm) (u : Nat) : Prop := (u < 40 ∧ kal x u) ∨ (40 ≤ u ∧ u < 40 + wl x.2.1 + x.2.2.1)
def kfr (y : qY) (rt : Nat × Nat → Nat) (j : Nat) (x : kFm) : lFr := (kR x, kA x, kH x, fun u => y.1 (rt (j, u)) = 6)
/-- the first n parts of type t from m on stand as roots 400.. of frame j -/
def kMt (y : qY) (rt : Nat × Nat → Nat) (V : Nat × Nat → qV) (j t g m : Nat) : Prop := ∀ i : Nat, m ≤ i → i < y.2.2.2.1 t g → rt (j, 400 + i) = y.2.2.2.2 t g i ∧ qF y (V (j, 400 + i)) [] (y.2.2.2.2 t g i)
/-- types of references -/
def qCr (y : qY) : Prop := ∀ T : Nat, T < 10000 → y.1 (10000 + 2 * T) = 5 ∧ y.2.1 (10000 + 2 * T) = T ∧ y.1 (10001 + 2 * T) = 6 ∧ y.2.1 (10001 + 2 * T) = T
/-- an entry of the stack, n normal ones below it -/
def kE (y : qY) (rt : Nat × Nat → Nat) (V : Nat × Nat → qV) (j : Nat) (x : kFm) (n : Nat) : tE → Prop
  | (0, t, _) => kR x (40 + n) = none ∧ y.1 t ≠ 5 ∧ y.1 t ≠ 6 ∧ (t ≠ 0 → rt (j, 40 + n) = t ∧ qF y (V (j, 40 + n)) [] t) ∧ (t = 0 → ∀ π : lLc, V (j, 40 + n) π = none)
  | (1, T, _) => rt (j, 40 + n) = 10000 + 2 * T ∧ ∃ z : Nat × Nat, V (j, 40 + n) [] = some z
  | (2, T, _) => rt (j, 40 + n) = 10001 + 2 * T ∧ ∃ z : Nat × Nat, V (j, 40 + n) [] = some z
  | (3, _, _) => kR x (40 + n) = none ∧ rt (j, 40 + n) = 1 ∧ ∃ z : Nat × Nat, V (j, 40 + n) [] = some z
  | (4, r, m) => kMt y rt V j (4 + r / 12) (r % 12) m
  | (5, r, _) => rt (j, 300) = 10000 + 2 * (4 + r / 12) ∧ ∃ z : Nat × Nat, V (j, 300) [] = some z
  | (6, r, _) => rt (j, 300) = 10001 + 2 * (4 + r / 12) ∧ ∃ z : Nat × Nat, V (j, 300) [] = some z
  | (7, t, m) => kR x (40 + n) = none ∧ y.1 t = 2 ∧ rt (j, 40 + n) = t ∧ ∀ i : Nat, i < y.2.2.2.1 t 0 → m.testBit i = true → qF y (V (j, 40 + n)) [(0, i)] (y.2.2.2.2 t 0 i)
  | (8, _, _) => True
  | _ => False
def kK (y : qY) (rt : Nat × Nat → Nat) (V : Nat × Nat → qV) (j : Nat) (x : kFm) : List tE → Prop
  | [] => True
  | e :: s => kE y rt V j x (wl s) e ∧ kK y rt V j x s
/-- a root of a frame that may hold something -/
def kRo (y : qY) (S : List tE) (u : Nat) : Prop := (u < 40 ∧ (8, u, 0) ∈ S) ∨ (40 ≤ u ∧ u < 40 + wl S) ∨ (u = 300 ∧ ∃ r m : Nat, (5, r, m) ∈ S ∨ (6, r, m) ∈ S) ∨ (∃ r m i : Nat, (4, r, m) ∈ S ∧ u = 400 + i ∧ m ≤ i ∧ i < y.2.2.2.1 (4 + r / 12) (r % 12))
/-- a reference that is matched on: (4 + q, row, loan + 1 + 64 * parts that are bound) -/
def kPm (y : qY) (rt : Nat × Nat → Nat) (V : Nat × Nat → qV) (j : Nat) (tb : lTb) (x : kFm) (q r m : Nat) : Prop := ∃ (a0 : Nat × Nat) (π : lLc), kR x 300 = some (a0 :: π) ∧ a0.2 < 40 ∧ qW y (rt a0) π (4 + r / 12) ∧ V a0 π = some (4 + r / 12, r % 12) ∧ lOk j tb (kAn x) (kH x 300) (q = 6) (a0 :: π) ∧ ∀ (u : Nat) (b : lLc), kA x u → kR x u = some b → (q = 6 ∨ y.1 (rt (j, u)) = 6) → lCmp (a0 :: π) b → (∃ i : Nat, i < m / 64 ∧ lP (a0 :: (π ++ [(r % 12 + 2, i)])) b) ∨ (u < 40 ∧ ∃ (l : Nat) (σ : lLc), ¬ tb.2.2.2.1 l ∧ kH x 300 l ∧ tb.1 l = u ∧ tb.2.1 l = (1, 0) :: σ ∧ lP (b ++ σ) (a0 :: π) ∧ (q = 6 → ¬ tb.2.2.1 l))
/-- reference u of frame j leads to a -/
def qTr (y : qY) (rt : Nat × Nat → Nat) (V : Nat × Nat → qV) (j u : Nat) (a : lLc) : Prop := (y.1 (rt (j, u)) = 5 ∨ y.1 (rt (j, u)) = 6) ∧ qTg y rt V a (y.2.1 (rt (j, u)))
/-- the state: y types, vt types of a function's variables, tb its loans; frames up to f -/
def kJ (y : qY) (vt : Nat → Nat → Nat) (tb : Nat → lTb) (f : Nat) (x : Nat → kFm) (rt : Nat × Nat → Nat) (V : Nat × Nat → qV) : Prop :=
  (∀ r : Nat × Nat, qOk y (rt r) (V r)) ∧
  kSk f (fun j => tb (x j).1) (fun j => kAn (x j)) (fun j => kfr y rt j (x j)) ∧
  (∀ j : Nat, j ≤ f → ∀ (u : Nat) (a : lLc), kA (x j) u → kR (x j) u = some a → qTr y rt V j u a) ∧
  (∀ j : Nat, j ≤ f → ∀ (u t g : Nat), V (j, u) [] = some (t, g) → (y.1 t = 5 ∨ y.1 t = 6) → kA (x j) u → ∃ a : lLc, kR (x j) u = some a) ∧
  (∀ j : Nat, j ≤ f → kK y rt V j (x j) (x j).2.1) ∧
  (∀ (j u : Nat) (π : lLc) (z : Nat × Nat), V (j, u) π = some z → j ≤ f ∧ kRo y (x j).2.1 u ∧ (u < 40 → rt (j, u) = vt (x j).1 u)) ∧
  (∀ j : Nat, j ≤ f → ∀ v : Nat, v < 40 → (8, v, 0) ∈ (x j).2.1 → rt (j, v) = vt (x j).1 v ∧ ∀ (π : lLc) (T : Nat), qM π → qW y (vt (x j).1 v) π T → ¬ klo (x j) v π → qQ y (V (j, v)) π T) ∧
  (∀ j : Nat, j ≤ f → ∀ r m : Nat, ((5, r, m) ∈ (x j).2.1 → j = f ∧ kPm y rt V j (tb (x j).1) (x j) 5 r m) ∧ ((6, r, m) ∈ (x j).2.1 → j = f ∧ kPm y rt V j (tb (x j).1) (x j) 6 r m)) ∧
  (∀ j : Nat, j ≤ f → wl (x j).2.1 ≤ 211)
end
-- d2.rb.lean.txt
section
def kUx (x : Nat → kFm) (f : Nat) (X : kFm) : Nat → kFm := fun j => if j = f then X else x j
theorem kUx_eq {x : Nat → kFm} {f : Nat} {X : kFm} : kUx x f X f = X := if_pos rfl
theorem kUx_ne {x : Nat → kFm} {f j : Nat} {X : kFm} (h : j ≠ f) : kUx x f X j = x j := if_neg h
theorem kE_cg {y : qY} {rt rt2 : Nat × Nat → Nat} {V V2 : Nat × Nat → qV} {j n : Nat} {x x2 : kFm} : ∀ {e : tE}, kE y rt V j x n e → (∀ u : Nat, u = 40 + n ∨ 300 ≤ u → rt2 (j, u) = rt (j, u) ∧ V2 (j, u) = V (j, u) ∧ kR x2 u = kR x u) → kE y rt2 V2 j x2 n e
  | (0, t, m), h, e => by
    obtain ⟨e1, e2, e3⟩ := e (40 + n) (Or.inl rfl)
    unfold kE at h ⊢; rw [e1, e2, e3]; exact h
  | (1, t, m), h, e => by
    obtain ⟨e1, e2, e3⟩ := e (40 + n) (Or.inl rfl)
    unfold kE at h ⊢; rw [e1, e2]; exact h
  | (2, t, m), h, e => by
    obtain ⟨e1, e2, e3⟩ := e (40 + n) (Or.inl rfl)
    unfold kE at h ⊢; rw [e1, e2]; exact h
  | (3, t, m), h, e => by
    obtain ⟨e1, e2, e3⟩ := e (40 + n) (Or.inl rfl)
    unfold kE at h ⊢; rw [e1, e2, e3]; exact h
  | (4, r, m), h, e => fun i h1 h2 => by
    obtain ⟨e1, e2, e3⟩ := e (400 + i) (Or.inr (by omega))
    rw [e1, e2]; exact h i h1 h2
  | (5, r, m), h, e => by
    obtain ⟨e1, e2, e3⟩ := e 300 (Or.inr (by omega))
    unfold kE at h ⊢; rw [e1, e2]; exact h
  | (6, r, m), h, e => by
    obtain ⟨e1, e2, e3⟩ := e 300 (Or.inr (by omega))
    unfold kE at h ⊢; rw [e1, e2]; exact h
  | (7, t, m), h, e => by
    obtain ⟨e1, e2, e3⟩ := e (40 + n) (Or.inl rfl)
    unfold kE at h ⊢; rw [e1, e2, e3]; exact h
  | (8, t, m), h, e => trivial
  | (k + 9, t, m), h, e => h.elim
theorem wl_0 {e : tE} {s : List tE} (h : e.1 = 8 ∨ e.1 = 4 ∨ e.1 = 5 ∨ e.1 = 6) : wl (e :: s) = wl s := by
  show wl s + (if e.1 = 8 ∨ e.1 = 4 ∨ e.1 = 5 ∨ e.1 = 6 then 0 else 1) = wl s
  rw [if_pos h]; rfl
theorem wl_1 {e : tE} {s : List tE} : wl (e :: s) ≤ wl s + 1 := by
  show wl s + (if e.1 = 8 ∨ e.1 = 4 ∨ e.1 = 5 ∨ e.1 = 6 then 0 else 1) ≤ wl s + 1
  split <;> omega
/-- of a marker or a matched value nothing is asked of roots 40.. -/
theorem kE_cg2 {y : qY} {rt rt2 : Nat × Nat → Nat} {V V2 : Nat × Nat → qV} {j n : Nat} {x x2 : kFm} {e : tE} (h : kE y rt V j x n e) (he : e.1 = 8 ∨ e.1 = 4 ∨ e.1 = 5 ∨ e.1 = 6) (h2 : ∀ u : Nat, 300 ≤ u → rt2 (j, u) = rt (j, u) ∧ V2 (j, u) = V (j, u)) : kE y rt2 V2 j x2 n e := by
  obtain ⟨k, t, m⟩ := e
  rcases he with he | he | he | he
  · have he : k = 8 := he
    subst he; trivial
  · have he : k = 4 := he
    subst he
    intro i h3 h4
    obtain ⟨e1, e2⟩ := h2 (400 + i) (by omega)
    rw [e1, e2]; exact h i h3 h4
  · have he : k = 5 := he
    subst he
    obtain ⟨e1, e2⟩ := h2 300 (by omega)
    unfold kE at h ⊢; rw [e1, e2]; exact h
  · have he : k = 6 := he
    subst he
    obtain ⟨e1, e2⟩ := h2 300 (by omega)
    unfold kE at h ⊢; rw [e1, e2]; exact h
theorem kK_cg {y : qY} {rt rt2 : Nat × Nat → Nat} {V V2 : Nat × Nat → qV} {j : Nat} {x x2 : kFm} : ∀ {S : List tE}, kK y rt V j x S → (∀ u : Nat, (40 ≤ u ∧ u < 40 + wl S) ∨ 300 ≤ u → rt2 (j, u) = rt (j, u) ∧ V2 (j, u) = V (j, u) ∧ kR x2 u = kR x u) → kK y rt2 V2 j x2 S
  | [], _, _ => trivial
  | e :: s, h, h2 => by
    refine ⟨?_, kK_cg h.2 (fun u hu => h2 u (hu.imp (fun z => ⟨z.1, by have := wl_le (e := e) (s := s); omega⟩) id))⟩
    by_cases he : e.1 = 8 ∨ e.1 = 4 ∨ e.1 = 5 ∨ e.1 = 6
    · exact kE_cg2 h.1 he (fun u hu => ⟨(h2 u (Or.inr hu)).1, (h2 u (Or.inr hu)).2.1⟩)
    · exact kE_cg h.1 (fun u hu => h2 u (hu.imp (fun z => ⟨by omega, by rw [wl_n he]; omega⟩) id))
theorem kPm_cg {y : qY} {rt rt2 : Nat × Nat → Nat} {V V2 : Nat × Nat → qV} {j : Nat} {tb : lTb} {x x2 : kFm} {q r m : Nat} (h : kPm y rt V j tb x q r m) (hR : kR x2 300 = kR x 300) (hA : ∀ (u : Nat) (b : lLc), kA x2 u → kR x2 u = some b → kA x u ∧ kR x u = some b) (hU : ∀ (u : Nat) (b : lLc), kA x2 u → kR x2 u = some b → rt2 (j, u) = rt (j, u)) (hH : ∀ l : Nat, kH x 300 l → kH x2 300 l) (hn : kAn x2 = kAn x) (hV : ∀ (a0 : Nat × Nat) (π : lLc), kR x 300 = some (a0 :: π) → a0.2 < 40 → V2 a0 π = V a0 π ∧ rt2 a0 = rt a0) : kPm y rt2 V2 j tb x2 q r m := by
  obtain ⟨a0, π, h1, h2, h3, h4, h5, h6⟩ := h
  obtain ⟨e1, e2⟩ := hV a0 π h1 h2
  refine ⟨a0, π, hR.trans h1, h2, by rw [e2]; exact h3, by rw [e1]; exact h4, by rw [hn]; exact lOk_mono hH id (lP_rf _) h5, fun u b hu hb hq hc => ?_⟩
  obtain ⟨a1, a2⟩ := hA u b hu hb
  rcases h6 u b a1 a2 (by rw [← hU u b hu hb]; exact hq) hc with z | ⟨z0, l, σ, z1, z2, z3⟩
  · exact Or.inl z
  · exact Or.inr ⟨z0, l, σ, z1, hH l z2, z3⟩
/-- only the latest frame and its roots change -/
theorem kJ_top {y : qY} {vt : Nat → Nat → Nat} {tb : Nat → lTb} {f : Nat} {x : Nat → kFm} {rt rt2 : Nat × Nat → Nat} {V V2 : Nat × Nat → qV} (h : kJ y vt tb f x rt V) (X : kFm) (hX1 : X.1 = (x f).1) (hAn : kAn X = kAn (x f)) (e1 : ∀ j u : Nat, j ≠ f → rt2 (j, u) = rt (j, u) ∧ V2 (j, u) = V (j, u)) (q : ∀ u : Nat, qOk y (rt2 (f, u)) (V2 (f, u))) (l : lIv f (tb X.1) (kAn X) (kfr y rt2 f X)) (c2 : ∀ (u : Nat) (a : lLc), kA X u → kR X u = some a → qTr y rt2 V2 f u a) (c3 : ∀ (u t g : Nat), V2 (f, u) [] = some (t, g) → (y.1 t = 5 ∨ y.1 t = 6) → kA X u → ∃ a : lLc, kR X u = some a) (c4 : kK y rt2 V2 f X X.2.1) (c5 : ∀ (u : Nat) (π : lLc) (z : Nat × Nat), V2 (f, u) π = some z → kRo y X.2.1 u ∧ (u < 40 → rt2 (f, u) = vt X.1 u)) (c6 : ∀ v : Nat, v < 40 → (8, v, 0) ∈ X.2.1 → rt2 (f, v) = vt X.1 v ∧ ∀ (π : lLc) (T : Nat), qM π → qW y (vt X.1 v) π T → ¬ klo X v π → qQ y (V2 (f, v)) π T) (c7 : ∀ r m : Nat, ((5, r, m) ∈ X.2.1 → kPm y rt2 V2 f (tb X.1) X 5 r m) ∧ ((6, r, m) ∈ X.2.1 → kPm y rt2 V2 f (tb X.1) X 6 r m)) (c8 : wl X.2.1 ≤ 211) : kJ y vt tb f (kUx x f X) rt2 V2 := by
  obtain ⟨h0, h1, h2, h3, h4, h5, h6, h7, h8⟩ := h
  have lower : ∀ j : Nat, j < f → ∀ (r : Nat × Nat) (π : lLc) (u : Nat), kA (x j) u → kR (x j) u = some (r :: π) → V2 r = V r ∧ rt2 r = rt r := fun j hj r π u hu hr => by
    obtain ⟨i, v, w, e, hi⟩ := lIv_fr (h1.1 j (by omega)) hu hr
    injection e with e3 e4
    obtain ⟨k1, k2⟩ := e1 i v (by omega)
    rw [e3]
    exact ⟨k2, k1⟩
  refine ⟨fun r => ?_, ?_, fun j hj u a hu ha => ?_, fun j hj u t g hv hk hu => ?_, fun j hj => ?_, fun j u π z hz => ?_, fun j hj v v4 hv => ?_, fun j hj r m => ?_, fun j hj => ?_⟩
  · obtain ⟨j, u⟩ := r
    by_cases ej : j = f
    · subst ej; exact q u
    · rw [(e1 j u ej).1, (e1 j u ej).2]; exact h0 (j, u)
  · have hf : ∀ j : Nat, j < f → kUx x f X j = x j := fun j hj => kUx_ne (by omega)
    have hfr : ∀ j : Nat, j < f → kfr y rt2 j (kUx x f X j) = kfr y rt j (x j) := fun j hj => by
      rw [hf j hj]
      unfold kfr
      have : (fun u => y.1 (rt2 (j, u)) = 6) = fun u => y.1 (rt (j, u)) = 6 := funext (fun u => by rw [(e1 j u (by omega)).1])
      rw [this]
    refine ⟨fun j hj => ?_, fun o e q ho => ?_, fun j hj o e q ho => ?_⟩
    · by_cases ej : j = f
      · subst ej
        show lIv j (tb (kUx x j X j).1) (kAn (kUx x j X j)) (kfr y rt2 j (kUx x j X j))
        rw [kUx_eq]; exact l
      · show lIv j (tb (kUx x f X j).1) (kAn (kUx x f X j)) (kfr y rt2 j (kUx x f X j))
        rw [hfr j (by omega), hf j (by omega)]; exact h1.1 j hj
    · have ho : kAn (kUx x f X 0) o e q := ho
      by_cases ej : 0 = f
      · rw [← ej, kUx_eq, hAn, ← ej] at ho; exact h1.2.1 o e q ho
      · rw [hf 0 (by omega)] at ho; exact h1.2.1 o e q ho
    · have ho : kAn (kUx x f X (j + 1)) o e q := ho
      have ho2 : kAn (x (j + 1)) o e q := by
        by_cases ej : j + 1 = f
        · rw [ej, kUx_eq, hAn, ← ej] at ho; exact ho
        · rw [hf (j + 1) (by omega)] at ho; exact ho
      obtain ⟨t, t1, t2⟩ := h1.2.2 j hj o e q ho2
      exact ⟨t, t1, by
        show (kfr y rt2 j (kUx x f X j)).2.1 t ∧ (kfr y rt2 j (kUx x f X j)).1 t = some e ∧ (q = 1 → (kfr y rt2 j (kUx x f X j)).2.2.2 t)
        rw [hfr j hj]; exact t2⟩
  · by_cases ej : j = f
    · subst ej
      rw [kUx_eq] at hu ha
      exact c2 u a hu ha
    · rw [kUx_ne ej] at hu ha
      unfold qTr
      rw [(e1 j u ej).1]
      refine ⟨(h2 j hj u a hu ha).1, qTg_eq (h2 j hj u a hu ha).2 (fun r π e hp hr => ?_)⟩
      subst e
      exact lower j (by omega) r π u hu ha
  · by_cases ej : j = f
    · subst ej
      rw [kUx_eq] at hu ⊢
      exact c3 u t g hv hk hu
    · rw [kUx_ne ej] at hu ⊢
      rw [(e1 j u ej).2] at hv
      exact h3 j hj u t g hv hk hu
  · by_cases ej : j = f
    · subst ej
      rw [kUx_eq]; exact c4
    · rw [kUx_ne ej]
      exact kK_cg (h4 j hj) (fun u _ => ⟨(e1 j u ej).1, (e1 j u ej).2, rfl⟩)
  · by_cases ej : j = f
    · subst ej
      rw [kUx_eq]
      exact ⟨Nat.le_refl _, c5 u π z hz⟩
    · rw [kUx_ne ej]
      rw [(e1 j u ej).2] at hz
      rw [(e1 j u ej).1]
      exact h5 j u π z hz
  · by_cases ej : j = f
    · subst ej
      rw [kUx_eq] at hv ⊢
      exact c6 v v4 hv
    · rw [kUx_ne ej] at hv ⊢
      rw [(e1 j v ej).1, (e1 j v ej).2]
      exact h6 j hj v v4 hv
  · by_cases ej : j = f
    · subst ej
      rw [kUx_eq]; exact ⟨fun z => ⟨rfl, (c7 r m).1 z⟩, fun z => ⟨rfl, (c7 r m).2 z⟩⟩
    · rw [kUx_ne ej]
      exact ⟨fun z => absurd ((h7 j hj r m).1 z).1 ej, fun z => absurd ((h7 j hj r m).2 z).1 ej⟩
  · by_cases ej : j = f
    · subst ej
      rw [kUx_eq]; exact c8
    · rw [kUx_ne ej]; exact h8 j hj
end
-- d2.rc.lean.txt
section
theorem lIv_mono2 {f : Nat} {tb : lTb} {An : Nat → lLc → Nat → Prop} {fr fr2 : lFr} (h : lIv f tb An fr) (hA : ∀ (u : Nat) (a : lLc), fr2.2.1 u → fr2.1 u = some a → fr.2.1 u ∧ fr.1 u = some a) (hH : ∀ (u : Nat) (a : lLc) (l : Nat), fr2.2.1 u → fr2.1 u = some a → fr.2.2.1 u l → fr2.2.2.1 u l) (hU : ∀ (u : Nat) (a : lLc), fr2.2.1 u → fr2.1 u = some a → (fr2.2.2.2 u ↔ fr.2.2.2 u)) : lIv f tb An fr2 := by
  refine ⟨fun u a hu ha => ?_, fun u w a b hne hu hw ha hb hq hc => ?_⟩
  · obtain ⟨a1, a2⟩ := hA u a hu ha
    exact lOk_mono (fun l hl => hH u a l hu ha hl) (hU u a hu ha).1 (lP_rf a) (h.1 u a a1 a2)
  · obtain ⟨a1, a2⟩ := hA u a hu ha
    obtain ⟨b1, b2⟩ := hA w b hw hb
    rcases h.2 u w a b hne a1 b1 a2 b2 (hq.imp (hU u a hu ha).1 (hU w b hw hb).1) hc with x | x
    · exact Or.inl (lRt_mono (fun l => hH u a l hu ha) (hU u a hu ha).1 x)
    · exact Or.inr (lRt_mono (fun l => hH w b l hw hb) (hU w b hw hb).1 x)
def kNm (e : tE) : Prop := ¬ (e.1 = 8 ∨ e.1 = 4 ∨ e.1 = 5 ∨ e.1 = 6)
/-- roots of values from n on are cleared -/
def kCl (V : Nat × Nat → qV) (f n : Nat) : Nat × Nat → qV := fun r => if r.1 = f ∧ 40 + n ≤ r.2 ∧ r.2 < 300 then fun _ => none else V r
theorem kCl_in {V : Nat × Nat → qV} {f n u : Nat} {π : lLc} (h1 : 40 + n ≤ u) (h2 : u < 300) : kCl V f n (f, u) π = none := by
  unfold kCl; rw [if_pos ⟨rfl, h1, h2⟩]
theorem kCl_out {V : Nat × Nat → qV} {f n u : Nat} (h : u < 40 + n ∨ 300 ≤ u) : kCl V f n (f, u) = V (f, u) := by
  unfold kCl; rw [if_neg]
  intro z
  have h1 := z.2.1; have h2 := z.2.2
  have h1 : 40 + n ≤ u := h1
  have h2 : u < 300 := h2
  omega
theorem kCl_f {V : Nat × Nat → qV} {f n j u : Nat} (h : j ≠ f) : kCl V f n (j, u) = V (j, u) := by
  unfold kCl; rw [if_neg (fun z => h z.1)]
theorem kCl_some {V : Nat × Nat → qV} {f n u : Nat} {π : lLc} {z : Nat × Nat} (h : kCl V f n (f, u) π = some z) : (u < 40 + n ∨ 300 ≤ u) ∧ V (f, u) π = some z := by
  by_cases c : u < 40 + n ∨ 300 ≤ u
  · rw [kCl_out c] at h; exact ⟨c, h⟩
  · rw [kCl_in (by omega) (by omega)] at h; simp at h
/-- the values E are gone -/
theorem kJ_pop {y : qY} {vt : Nat → Nat → Nat} {tb : Nat → lTb} {f : Nat} {x : Nat → kFm} {rt : Nat × Nat → Nat} {V : Nat × Nat → qV} (h : kJ y vt tb f x rt V) {E S : List tE} (hS : (x f).2.1 = E ++ S) (hE : ∀ e : tE, e ∈ E → kNm e) (hn : (x f).2.2.1 = 0) : kJ y vt tb f (kUx x f ((x f).1, S, 0, kR (x f), kH (x f), kal (x f), klo (x f), kAn (x f))) rt (kCl V f (wl S)) := by
  have hw := h
  obtain ⟨h0, h1, h2, h3, h4, h5, h6, h7, h8⟩ := h
  have hwl : wl S ≤ wl (x f).2.1 := by rw [hS, wl_app]; omega
  have hA : ∀ u : Nat, kA ((x f).1, S, 0, kR (x f), kH (x f), kal (x f), klo (x f), kAn (x f)) u → kA (x f) u ∧ u < 40 + wl S := fun u hu => by
    rcases hu with ⟨a, b⟩ | ⟨a, b⟩
    · exact ⟨Or.inl ⟨a, b⟩, by omega⟩
    · have b : u < 40 + wl S + 0 := b
      exact ⟨Or.inr ⟨a, by omega⟩, by omega⟩
  have hin : ∀ e : tE, ¬ kNm e → e ∈ (x f).2.1 → e ∈ S := fun e he hm => by
    rw [hS] at hm
    rcases List.mem_append.mp hm with q | q
    · exact absurd (hE e q) he
    · exact q
  have hout : ∀ e : tE, e ∈ S → e ∈ (x f).2.1 := fun e he => by rw [hS]; exact List.mem_append_right _ he
  refine kJ_top hw _ rfl rfl (fun j u hj => ⟨rfl, kCl_f hj⟩) (fun u => ?_) (lIv_mono2 (h1.1 f (Nat.le_refl _)) (fun u a hu ha => ⟨(hA u hu).1, ha⟩) (fun u a l _ _ hl => hl) (fun u a _ _ => Iff.rfl)) (fun u a hu ha => ?_) (fun u t g hv hk hu => ?_) ?_ (fun u π z hz => ?_) (fun v v4 hv => ?_) (fun r m => ?_) (Nat.le_trans hwl (h8 f (Nat.le_refl _)))
  · by_cases c : u < 40 + wl S ∨ 300 ≤ u
    · rw [kCl_out c]; exact h0 (f, u)
    · rw [show kCl V f (wl S) (f, u) = fun _ => none from funext (fun π => kCl_in (by omega) (by omega))]; exact qOk_none
  · refine ⟨(h2 f (Nat.le_refl _) u a (hA u hu).1 ha).1, qTg_eq (h2 f (Nat.le_refl _) u a (hA u hu).1 ha).2 (fun r π _ _ hr => ⟨?_, rfl⟩)⟩
    obtain ⟨j, v⟩ := r
    by_cases ej : j = f
    · subst ej; exact kCl_out (Or.inl (by have hr : v < 40 := hr; omega))
    · exact kCl_f ej
  · exact h3 f (Nat.le_refl _) u t g (kCl_some hv).2 hk (hA u hu).1
  · have hk := h4 f (Nat.le_refl _)
    rw [hS] at hk
    have hk2 : kK y rt V f (x f) S := by
      clear hS hE hin hout hA hwl
      induction E with
      | nil => exact hk
      | cons e E ih => exact ih hk.2
    exact kK_cg hk2 (fun u hu => ⟨rfl, kCl_out (hu.imp (fun z => z.2) id), rfl⟩)
  · obtain ⟨c, hz⟩ := kCl_some hz
    obtain ⟨-, k1, k2⟩ := h5 f u π z hz
    refine ⟨?_, k2⟩
    rcases k1 with ⟨a, b⟩ | ⟨a, b⟩ | ⟨a, r, m, b⟩ | ⟨r, m, i, a, b⟩
    · exact Or.inl ⟨a, hin _ (fun q => q (Or.inl rfl)) b⟩
    · rcases c with c | c
      · exact Or.inr (Or.inl ⟨a, c⟩)
      · have := h8 f (Nat.le_refl _)
        omega
    · exact Or.inr (Or.inr (Or.inl ⟨a, r, m, b.imp (hin _ (fun q => q (Or.inr (Or.inr (Or.inl rfl))))) (hin _ (fun q => q (Or.inr (Or.inr (Or.inr rfl)))))⟩))
    · exact Or.inr (Or.inr (Or.inr ⟨r, m, i, hin _ (fun q => q (Or.inr (Or.inl rfl))) a, b⟩))
  · have hv : (8, v, 0) ∈ S := hv
    rw [kCl_out (Or.inl (by omega))]
    exact h6 f (Nat.le_refl _) v v4 (hout _ hv)
  · have go : ∀ q : Nat, kPm y rt V f (tb (x f).1) (x f) q r m → kPm y rt (kCl V f (wl S)) f (tb (x f).1) ((x f).1, S, 0, kR (x f), kH (x f), kal (x f), klo (x f), kAn (x f)) q r m := fun q hq => kPm_cg hq rfl (fun u b a1 a2 => ⟨(hA u a1).1, a2⟩) (fun _ _ _ _ => rfl) (fun l hl => hl) rfl (fun a0 π _ hr => by
      obtain ⟨j, v⟩ := a0
      have hr : v < 40 := hr
      refine ⟨?_, rfl⟩
      by_cases ej : j = f
      · subst ej; rw [kCl_out (Or.inl (by omega))]
      · rw [kCl_f ej])
    exact ⟨fun z => go 5 ((h7 f (Nat.le_refl _) r m).1 (hout _ z)).2, fun z => go 6 ((h7 f (Nat.le_refl _) r m).2 (hout _ z)).2⟩
/-- a value that is no reference comes -/
theorem kJ_push {y : qY} {vt : Nat → Nat → Nat} {tb : Nat → lTb} {f : Nat} {x : Nat → kFm} {rt : Nat × Nat → Nat} {V : Nat × Nat → qV} (h : kJ y vt tb f x rt V) {e : tE} {t : Nat} {W : qV} {hd : Nat → Prop} (he : kNm e) (hn : (x f).2.2.1 = 0) (hl : wl (x f).2.1 < 211) (hW : qOk y t W) (hnr : ∀ z : Nat × Nat, W [] = some z → y.1 z.1 ≠ 5 ∧ y.1 z.1 ≠ 6) (hE : kE y (qRt rt (f, 40 + wl (x f).2.1) t) (qUp V (f, 40 + wl (x f).2.1) W) f ((x f).1, e :: (x f).2.1, 0, lUp (kR (x f)) (40 + wl (x f).2.1) none, lUp (kH (x f)) (40 + wl (x f).2.1) hd, kal (x f), klo (x f), kAn (x f)) (wl (x f).2.1) e) : kJ y vt tb f (kUx x f ((x f).1, e :: (x f).2.1, 0, lUp (kR (x f)) (40 + wl (x f).2.1) none, lUp (kH (x f)) (40 + wl (x f).2.1) hd, kal (x f), klo (x f), kAn (x f))) (qRt rt (f, 40 + wl (x f).2.1) t) (qUp V (f, 40 + wl (x f).2.1) W) := by
  have hw := h
  obtain ⟨h0, h1, h2, h3, h4, h5, h6, h7, h8⟩ := h
  have hwl : wl (e :: (x f).2.1) = wl (x f).2.1 + 1 := wl_n he
  generalize hu0 : 40 + wl (x f).2.1 = u0 at *
  have hne : ∀ u : Nat, u ≠ u0 → ((f, u) : Nat × Nat) ≠ (f, u0) := fun u hu q => hu (by injection q)
  have hR : ∀ (u : Nat) (a : lLc), lUp (kR (x f)) u0 none u = some a → u ≠ u0 ∧ kR (x f) u = some a := fun u a ha => by
    by_cases c : u = u0
    · rw [c, lUp_eq] at ha; simp at ha
    · rw [lUp_ne c] at ha; exact ⟨c, ha⟩
  have hA : ∀ u : Nat, u ≠ u0 → kA ((x f).1, e :: (x f).2.1, 0, lUp (kR (x f)) u0 none, lUp (kH (x f)) u0 hd, kal (x f), klo (x f), kAn (x f)) u → kA (x f) u := fun u hne hu => by
    rcases hu with ⟨a, b⟩ | ⟨a, b⟩
    · exact Or.inl ⟨a, b⟩
    · have b : u < 40 + wl (e :: (x f).2.1) + 0 := b
      exact Or.inr ⟨a, by omega⟩
  refine kJ_top hw _ rfl rfl (fun j u hj => ⟨qRt_ne (fun q => hj (by injection q)), qUp_ne (fun q => hj (by injection q))⟩) (fun u => ?_) (lIv_mono2 (h1.1 f (Nat.le_refl _)) (fun u a hu ha => ⟨hA u (hR u a ha).1 hu, (hR u a ha).2⟩) (fun u a l hu ha hl => ?_) (fun u a _ ha => ?_)) (fun u a hu ha => ?_) (fun u t1 g hv hk hu => ?_) ⟨hE, ?_⟩ (fun u π z hz => ?_) (fun v v4 hv => ?_) (fun r m => ?_) (by show wl (e :: (x f).2.1) ≤ 211; omega)
  · by_cases c : u = u0
    · rw [c, qUp_eq, qRt_eq]; exact hW
    · rw [qUp_ne (hne u c), qRt_ne (hne u c)]; exact h0 (f, u)
  · show lUp (kH (x f)) u0 hd u l
    rw [lUp_ne (hR u a ha).1]; exact hl
  · obtain ⟨c, -⟩ := hR u a ha
    show y.1 (qRt rt (f, u0) t (f, u)) = 6 ↔ y.1 (rt (f, u)) = 6
    rw [qRt_ne (hne u c)]
  · obtain ⟨c, ha⟩ := hR u a ha
    unfold qTr
    rw [qRt_ne (hne u c)]
    refine ⟨(h2 f (Nat.le_refl _) u a (hA u c hu) ha).1, qTg_eq (h2 f (Nat.le_refl _) u a (hA u c hu) ha).2 (fun r π _ _ hr => ?_)⟩
    have : r ≠ (f, u0) := fun q => by rw [q] at hr; have hr : u0 < 40 := hr; omega
    exact ⟨qUp_ne this, qRt_ne this⟩
  · by_cases c : u = u0
    · rw [c, qUp_eq] at hv
      exact absurd hk (by obtain ⟨k1, k2⟩ := hnr _ hv; rintro (z | z); exact k1 z; exact k2 z)
    · rw [qUp_ne (hne u c)] at hv
      show ∃ a : lLc, lUp (kR (x f)) u0 none u = some a
      rw [lUp_ne c]
      exact h3 f (Nat.le_refl _) u t1 g hv hk (hA u c hu)
  · refine kK_cg (h4 f (Nat.le_refl _)) (fun u hu => ?_)
    have c : u ≠ u0 := by omega
    exact ⟨qRt_ne (hne u c), qUp_ne (hne u c), lUp_ne c⟩
  · by_cases c : u = u0
    · refine ⟨Or.inr (Or.inl ⟨by omega, ?_⟩), fun q => by omega⟩
      show u < 40 + wl (e :: (x f).2.1)
      omega
    · rw [qUp_ne (hne u c)] at hz
      rw [qRt_ne (hne u c)]
      obtain ⟨-, k1, k2⟩ := h5 f u π z hz
      refine ⟨?_, k2⟩
      rcases k1 with ⟨a, b⟩ | ⟨a, b⟩ | ⟨a, r, m, b⟩ | ⟨r, m, i, a, b⟩
      · exact Or.inl ⟨a, List.mem_cons_of_mem _ b⟩
      · exact Or.inr (Or.inl ⟨a, by show u < 40 + wl (e :: (x f).2.1); omega⟩)
      · exact Or.inr (Or.inr (Or.inl ⟨a, r, m, b.imp (List.mem_cons_of_mem _) (List.mem_cons_of_mem _)⟩))
      · exact Or.inr (Or.inr (Or.inr ⟨r, m, i, List.mem_cons_of_mem _ a, b⟩))
  · rw [qUp_ne (hne v (by omega)), qRt_ne (hne v (by omega))]
    rcases List.mem_cons.mp hv with q | q
    · exact absurd (Or.inl (by rw [← q])) he
    · exact h6 f (Nat.le_refl _) v v4 q
  · have go : ∀ q : Nat, kPm y rt V f (tb (x f).1) (x f) q r m → kPm y (qRt rt (f, u0) t) (qUp V (f, u0) W) f (tb (x f).1) ((x f).1, e :: (x f).2.1, 0, lUp (kR (x f)) u0 none, lUp (kH (x f)) u0 hd, kal (x f), klo (x f), kAn (x f)) q r m := fun q hq => kPm_cg hq (lUp_ne (by omega)) (fun u b a1 a2 => ⟨hA u (hR u b a2).1 a1, (hR u b a2).2⟩) (fun u b _ a2 => qRt_ne (hne u (hR u b a2).1)) (fun l hl => by show lUp (kH (x f)) u0 hd 300 l; rw [lUp_ne (by omega)]; exact hl) rfl (fun a0 π _ hr => by
      have : a0 ≠ (f, u0) := fun q => by rw [q] at hr; have hr : u0 < 40 := hr; omega
      exact ⟨by rw [qUp_ne this], qRt_ne this⟩)
    refine ⟨fun z => ?_, fun z => ?_⟩
    · rcases List.mem_cons.mp z with q | q
      · exact absurd (Or.inr (Or.inr (Or.inl (by rw [← q])))) he
      · exact go 5 ((h7 f (Nat.le_refl _) r m).1 q).2
    · rcases List.mem_cons.mp z with q | q
      · exact absurd (Or.inr (Or.inr (Or.inr (by rw [← q])))) he
      · exact go 6 ((h7 f (Nat.le_refl _) r m).2 q).2
/-- a reference to a whole value of type T comes: k its kind, t its type -/
theorem kJ_pushR {y : qY} {vt : Nat → Nat → Nat} {tb : Nat → lTb} {f : Nat} {x : Nat → kFm} {rt : Nat × Nat → Nat} {V : Nat × Nat → qV} (h : kJ y vt tb f x rt V) {k T m t : Nat} {a : lLc} {hd : Nat → Prop} {al2 : Nat → Prop} (hcr : qCr y) (hT9 : T < 10000) (hkt : (k = 1 ∧ t = 10000 + 2 * T) ∨ (k = 2 ∧ t = 10001 + 2 * T)) (hn : (x f).2.2.1 = 0) (hl : wl (x f).2.1 < 211) (hno : ∀ r m2 : Nat, (5, r, m2) ∉ (x f).2.1 ∧ (6, r, m2) ∉ (x f).2.1) (hal : ∀ u : Nat, al2 u → kal (x f) u) (hT : qTg y rt V a T) (hok : lOk f (tb (x f).1) (kAn (x f)) hd (y.1 t = 6) a) (hmt : ∀ u : Nat, ((u < 40 ∧ al2 u) ∨ (40 ≤ u ∧ u < 40 + wl (x f).2.1)) → lMt (tb (x f).1) (kfr y rt f (x f)) (40 + wl (x f).2.1) hd (y.1 t = 6) a u) : kJ y vt tb f (kUx x f ((x f).1, (k, T, m) :: (x f).2.1, 0, lUp (kR (x f)) (40 + wl (x f).2.1) (some a), lUp (kH (x f)) (40 + wl (x f).2.1) hd, al2, klo (x f), kAn (x f))) (qRt rt (f, 40 + wl (x f).2.1) t) (qUp V (f, 40 + wl (x f).2.1) (qL t)) := by
  have hw := h
  obtain ⟨h0, h1, h2, h3, h4, h5, h6, h7, h8⟩ := h
  have hk : (k = 1 ∧ y.1 t = 5) ∨ (k = 2 ∧ y.1 t = 6) := hkt.imp (fun z => ⟨z.1, by rw [z.2]; exact (hcr T hT9).1⟩) (fun z => ⟨z.1, by rw [z.2]; exact (hcr T hT9).2.2.1⟩)
  have ht : y.2.1 t = T := by rcases hkt with ⟨-, z⟩ | ⟨-, z⟩; rw [z]; exact (hcr T hT9).2.1; rw [z]; exact (hcr T hT9).2.2.2
  have he : kNm (k, T, m) := by
    show ¬ (k = 8 ∨ k = 4 ∨ k = 5 ∨ k = 6)
    omega
  have hwl : wl ((k, T, m) :: (x f).2.1) = wl (x f).2.1 + 1 := wl_n he
  generalize hu0 : 40 + wl (x f).2.1 = u0 at *
  have hne : ∀ u : Nat, u ≠ u0 → ((f, u) : Nat × Nat) ≠ (f, u0) := fun u hu q => hu (by injection q)
  have hA : ∀ u : Nat, u ≠ u0 → kA ((x f).1, (k, T, m) :: (x f).2.1, 0, lUp (kR (x f)) u0 (some a), lUp (kH (x f)) u0 hd, al2, klo (x f), kAn (x f)) u → kA (x f) u ∧ ((u < 40 ∧ al2 u) ∨ (40 ≤ u ∧ u < u0)) := fun u hne hu => by
    rcases hu with ⟨a, b⟩ | ⟨a, b⟩
    · exact ⟨Or.inl ⟨a, hal u b⟩, Or.inl ⟨a, b⟩⟩
    · have b : u < 40 + wl ((k, T, m) :: (x f).2.1) + 0 := b
      exact ⟨Or.inr ⟨a, by omega⟩, Or.inr ⟨a, by omega⟩⟩
  have hlv := lIv_new (t := u0) (hd := hd) (un := y.1 t = 6) (a := a) (A2 := fun u => (u < 40 ∧ al2 u) ∨ (40 ≤ u ∧ u < u0)) (h1.1 f (Nat.le_refl _)) (fun u hu hne => by
    rcases hu with ⟨a, b⟩ | ⟨a, b⟩
    · exact Or.inl ⟨a, hal u b⟩
    · exact Or.inr ⟨a, by omega⟩) hok (fun u hu _ => hmt u hu)
  have hTg : ∀ (b : lLc) (T1 : Nat), qTg y rt V b T1 → qTg y (qRt rt (f, u0) t) (qUp V (f, u0) (qL t)) b T1 := fun b T1 hb => qTg_eq hb (fun r π _ _ hr => by
    have : r ≠ (f, u0) := fun q => by rw [q] at hr; have hr : u0 < 40 := hr; omega
    exact ⟨qUp_ne this, qRt_ne this⟩)
  have k2 : y.1 t ≠ 2 ∧ y.1 t ≠ 3 ∧ y.1 t ≠ 4 := by
    rcases hk with ⟨-, q⟩ | ⟨-, q⟩ <;> rw [q] <;> decide
  refine kJ_top hw _ rfl rfl (fun j u hj => ⟨qRt_ne (fun q => hj (by injection q)), qUp_ne (fun q => hj (by injection q))⟩) (fun u => ?_) (lIv_mono2 hlv (fun u b hu hb => ⟨?_, hb⟩) (fun u b l hu hb hl => hl) (fun u b _ hb => ?_)) (fun u b hu hb => ?_) (fun u t1 g hv hk1 hu => ?_) ⟨?_, ?_⟩ (fun u π z hz => ?_) (fun v v4 hv => ?_) (fun r m2 => ?_) (by show wl ((k, T, m) :: (x f).2.1) ≤ 211; omega)
  · by_cases c : u = u0
    · rw [c, qUp_eq, qRt_eq]; exact (qFu_L k2.1 k2.2.1 k2.2.2).1
    · rw [qUp_ne (hne u c), qRt_ne (hne u c)]; exact h0 (f, u)
  · by_cases c : u = u0
    · exact Or.inr c
    · exact Or.inl (hA u c hu).2
  · show y.1 (qRt rt (f, u0) t (f, u)) = 6 ↔ lUp (kfr y rt f (x f)).2.2.2 u0 (y.1 t = 6) u
    by_cases c : u = u0
    · rw [c, qRt_eq, lUp_eq]
    · rw [qRt_ne (hne u c), lUp_ne c]; exact Iff.rfl
  · have hb : lUp (kR (x f)) u0 (some a) u = some b := hb
    by_cases c : u = u0
    · rw [c, lUp_eq] at hb
      obtain rfl := Option.some.inj hb
      unfold qTr
      rw [c, qRt_eq, ht]
      exact ⟨hk.imp And.right And.right, hTg _ _ hT⟩
    · rw [lUp_ne c] at hb
      unfold qTr
      rw [qRt_ne (hne u c)]
      exact ⟨(h2 f (Nat.le_refl _) u b (hA u c hu).1 hb).1, hTg _ _ (h2 f (Nat.le_refl _) u b (hA u c hu).1 hb).2⟩
  · show ∃ b : lLc, lUp (kR (x f)) u0 (some a) u = some b
    by_cases c : u = u0
    · rw [c, lUp_eq]; exact ⟨a, rfl⟩
    · rw [qUp_ne (hne u c)] at hv
      rw [lUp_ne c]
      exact h3 f (Nat.le_refl _) u t1 g hv hk1 (hA u c hu).1
  · rcases hkt with ⟨rfl, q⟩ | ⟨rfl, q⟩
    · show qRt rt (f, u0) t (f, 40 + wl (x f).2.1) = 10000 + 2 * T ∧ ∃ z : Nat × Nat, qUp V (f, u0) (qL t) (f, 40 + wl (x f).2.1) [] = some z
      rw [hu0, qRt_eq, qUp_eq]
      exact ⟨q, (t, 0), rfl⟩
    · show qRt rt (f, u0) t (f, 40 + wl (x f).2.1) = 10001 + 2 * T ∧ ∃ z : Nat × Nat, qUp V (f, u0) (qL t) (f, 40 + wl (x f).2.1) [] = some z
      rw [hu0, qRt_eq, qUp_eq]
      exact ⟨q, (t, 0), rfl⟩
  · refine kK_cg (h4 f (Nat.le_refl _)) (fun u hu => ?_)
    have c : u ≠ u0 := by omega
    exact ⟨qRt_ne (hne u c), qUp_ne (hne u c), lUp_ne c⟩
  · by_cases c : u = u0
    · refine ⟨Or.inr (Or.inl ⟨by omega, ?_⟩), fun q => by omega⟩
      show u < 40 + wl ((k, T, m) :: (x f).2.1)
      omega
    · rw [qUp_ne (hne u c)] at hz
      rw [qRt_ne (hne u c)]
      obtain ⟨-, k1, k2⟩ := h5 f u π z hz
      refine ⟨?_, k2⟩
      rcases k1 with ⟨a, b⟩ | ⟨a, b⟩ | ⟨a, r, m, b⟩ | ⟨r, m, i, a, b⟩
      · exact Or.inl ⟨a, List.mem_cons_of_mem _ b⟩
      · exact Or.inr (Or.inl ⟨a, by show u < 40 + wl ((k, T, _) :: (x f).2.1); omega⟩)
      · exact Or.inr (Or.inr (Or.inl ⟨a, r, m, b.imp (List.mem_cons_of_mem _) (List.mem_cons_of_mem _)⟩))
      · exact Or.inr (Or.inr (Or.inr ⟨r, m, i, List.mem_cons_of_mem _ a, b⟩))
  · rw [qUp_ne (hne v (by omega)), qRt_ne (hne v (by omega))]
    rcases List.mem_cons.mp hv with q | q
    · exact absurd (Or.inl (by rw [← q])) he
    · exact h6 f (Nat.le_refl _) v v4 q
  · refine ⟨fun z => ?_, fun z => ?_⟩
    · rcases List.mem_cons.mp z with q | q
      · exact absurd (Or.inr (Or.inr (Or.inl (by rw [← q])))) he
      · exact absurd q (hno r m2).1
    · rcases List.mem_cons.mp z with q | q
      · exact absurd (Or.inr (Or.inr (Or.inr (by rw [← q])))) he
      · exact absurd q (hno r m2).2
end
-- d2.rd.lean.txt
section
/-- less is used ahead, more may be held, more may be without a value -/
theorem kJ_wk {y : qY} {vt : Nat → Nat → Nat} {tb : Nat → lTb} {f : Nat} {x : Nat → kFm} {rt : Nat × Nat → Nat} {V : Nat × Nat → qV} (h : kJ y vt tb f x rt V) {H2 : Nat → Nat → Prop} {al2 : Nat → Prop} {lo2 : Nat → lLc → Prop} (hn : (x f).2.2.1 = 0) (hH : ∀ (u : Nat) (a : lLc) (l : Nat), kR (x f) u = some a → kH (x f) u l → H2 u l) (hal : ∀ u : Nat, al2 u → kal (x f) u) (hlo : ∀ (v : Nat) (π : lLc), v < 40 → (8, v, 0) ∈ (x f).2.1 → klo (x f) v π → lo2 v π) : kJ y vt tb f (kUx x f ((x f).1, (x f).2.1, 0, kR (x f), H2, al2, lo2, kAn (x f))) rt V := by
  have hw := h
  obtain ⟨h0, h1, h2, h3, h4, h5, h6, h7, h8⟩ := h
  have hA : ∀ u : Nat, kA ((x f).1, (x f).2.1, 0, kR (x f), H2, al2, lo2, kAn (x f)) u → kA (x f) u := fun u hu => by
    rcases hu with ⟨a, b⟩ | ⟨a, b⟩
    · exact Or.inl ⟨a, hal u b⟩
    · exact Or.inr ⟨a, by rw [hn]; exact b⟩
  have hf := Nat.le_refl f
  refine kJ_top hw _ rfl rfl (fun j u hj => ⟨rfl, rfl⟩) (fun u => h0 (f, u)) (lIv_mono2 (h1.1 f hf) (fun u a hu ha => ⟨hA u hu, ha⟩) (fun u a l _ ha hl => hH u a l ha hl) (fun u a _ _ => Iff.rfl)) (fun u a hu ha => h2 f hf u a (hA u hu) ha) (fun u t g hv hk hu => h3 f hf u t g hv hk (hA u hu)) (kK_cg (h4 f hf) (fun u _ => ⟨rfl, rfl, rfl⟩)) (fun u π z hz => (h5 f u π z hz).2) (fun v v4 hv => ⟨(h6 f hf v v4 hv).1, fun π T g1 g2 g3 => (h6 f hf v v4 hv).2 π T g1 g2 (fun q => g3 (hlo v π v4 hv q))⟩) (fun r m => ?_) (h8 f hf)
  have go : ∀ q : Nat, kPm y rt V f (tb (x f).1) (x f) q r m → kPm y rt V f (tb (x f).1) ((x f).1, (x f).2.1, 0, kR (x f), H2, al2, lo2, kAn (x f)) q r m := fun q hq => by
    have hq2 := hq
    obtain ⟨a0, π, p1, -⟩ := hq2
    exact kPm_cg hq rfl (fun u b a1 a2 => ⟨hA u a1, a2⟩) (fun _ _ _ _ => rfl) (fun l hl => hH 300 _ l p1 hl) rfl (fun _ _ _ _ => ⟨rfl, rfl⟩)
  exact ⟨fun z => go 5 ((h7 f hf r m).1 z).2, fun z => go 6 ((h7 f hf r m).2 z).2⟩
/-- the variables' roots change so that all places that are led to stay whole -/
theorem kJ_var {y : qY} {vt : Nat → Nat → Nat} {tb : Nat → lTb} {f : Nat} {x : Nat → kFm} {rt rt2 : Nat × Nat → Nat} {V V2 : Nat × Nat → qV} (h : kJ y vt tb f x rt V) {S2 : List tE} {R2 : Nat → Option lLc} {H2 : Nat → Nat → Prop} {al2 : Nat → Prop} {lo2 : Nat → lLc → Prop} (hn : (x f).2.2.1 = 0) (e1 : ∀ j u : Nat, j ≠ f ∨ 40 ≤ u → rt2 (j, u) = rt (j, u) ∧ V2 (j, u) = V (j, u)) (hR : ∀ u : Nat, 40 ≤ u → R2 u = kR (x f) u) (hS : ∃ O : List tE, (∀ e : tE, e ∈ O → ∃ v : Nat, e = (8, v, 0)) ∧ ((x f).2.1 = O ++ S2 ∨ S2 = O ++ (x f).2.1)) (hmt : ∀ r m : Nat, (5, r, m) ∉ (x f).2.1 ∧ (6, r, m) ∉ (x f).2.1) (q : ∀ u : Nat, u < 40 → qOk y (rt2 (f, u)) (V2 (f, u))) (l : lIv f (tb (x f).1) (kAn (x f)) (kfr y rt2 f ((x f).1, S2, 0, R2, H2, al2, lo2, kAn (x f)))) (c2 : ∀ (u : Nat) (a : lLc), kA ((x f).1, S2, 0, R2, H2, al2, lo2, kAn (x f)) u → R2 u = some a → qTr y rt2 V2 f u a) (c3 : ∀ (u t g : Nat), u < 40 → V2 (f, u) [] = some (t, g) → (y.1 t = 5 ∨ y.1 t = 6) → al2 u → ∃ a : lLc, R2 u = some a) (c5 : ∀ (u : Nat) (π : lLc) (z : Nat × Nat), u < 40 → V2 (f, u) π = some z → (8, u, 0) ∈ S2 ∧ rt2 (f, u) = vt (x f).1 u) (c6 : ∀ v : Nat, v < 40 → (8, v, 0) ∈ S2 → rt2 (f, v) = vt (x f).1 v ∧ ∀ (π : lLc) (T : Nat), qM π → qW y (vt (x f).1 v) π T → ¬ lo2 v π → qQ y (V2 (f, v)) π T) : kJ y vt tb f (kUx x f ((x f).1, S2, 0, R2, H2, al2, lo2, kAn (x f))) rt2 V2 := by
  have hw := h
  obtain ⟨h0, h1, h2, h3, h4, h5, h6, h7, h8⟩ := h
  have hf := Nat.le_refl f
  obtain ⟨O, hO, hS⟩ := hS
  have wO : wl O = 0 := by
    clear hS
    induction O with
    | nil => rfl
    | cons e O ih =>
      obtain ⟨v, rfl⟩ := hO _ (List.mem_cons_self ..)
      rw [wl_0 (Or.inl rfl)]
      exact ih (fun e he => hO e (List.mem_cons_of_mem _ he))
  have wS : wl S2 = wl (x f).2.1 := by
    rcases hS with e | e
    · rw [e, wl_app, wO]; omega
    · rw [e, wl_app, wO]; omega
  have mem : ∀ e : tE, e.1 ≠ 8 → (e ∈ S2 ↔ e ∈ (x f).2.1) := fun e he => by
    have hOn : e ∉ O := fun q => by
      obtain ⟨v, rfl⟩ := hO e q
      exact he rfl
    rcases hS with z | z
    · rw [z, List.mem_append]
      exact ⟨Or.inr, fun q => q.resolve_left hOn⟩
    · rw [z, List.mem_append]
      exact ⟨fun q => q.resolve_left hOn, Or.inr⟩
  have hA4 : ∀ u : Nat, 40 ≤ u → kA ((x f).1, S2, 0, R2, H2, al2, lo2, kAn (x f)) u → kA (x f) u := fun u h4 hu => by
    rcases hu with ⟨a, b⟩ | ⟨a, b⟩
    · omega
    · have b : u < 40 + wl S2 + 0 := b
      exact Or.inr ⟨a, by omega⟩
  have kk : kK y rt2 V2 f ((x f).1, S2, 0, R2, H2, al2, lo2, kAn (x f)) S2 := by
    have k0 : kK y rt2 V2 f ((x f).1, S2, 0, R2, H2, al2, lo2, kAn (x f)) (x f).2.1 := kK_cg (h4 f hf) (fun u hu => by
      have h4 : 40 ≤ u := by omega
      exact ⟨(e1 f u (Or.inr h4)).1, (e1 f u (Or.inr h4)).2, hR u h4⟩)
    rcases hS with e | e
    · rw [e] at k0
      clear wO mem hO e
      induction O with
      | nil => exact k0
      | cons e O ih => exact ih k0.2
    · have gen : ∀ (X : kFm) (O2 S : List tE), (∀ e : tE, e ∈ O2 → ∃ v : Nat, e = (8, v, 0)) → kK y rt2 V2 f X S → kK y rt2 V2 f X (O2 ++ S) := fun X O2 S hO2 hS => by
        induction O2 with
        | nil => exact hS
        | cons e O2 ih =>
          obtain ⟨v, rfl⟩ := hO2 _ (List.mem_cons_self ..)
          exact ⟨trivial, ih (fun e he => hO2 e (List.mem_cons_of_mem _ he))⟩
      have := gen _ O _ hO k0
      rw [← e] at this
      exact this
  refine kJ_top hw _ rfl rfl (fun j u hj => e1 j u (Or.inl hj)) (fun u => ?_) l c2 (fun u t g hv hk hu => ?_) kk (fun u π z hz => ?_) c6 (fun r m => ?_) (by show wl S2 ≤ 211; rw [wS]; exact h8 f hf)
  · by_cases c : u < 40
    · exact q u c
    · rw [(e1 f u (Or.inr (by omega))).1, (e1 f u (Or.inr (by omega))).2]; exact h0 (f, u)
  · by_cases c : u < 40
    · rcases hu with ⟨a, b⟩ | ⟨a, b⟩
      · exact c3 u t g c hv hk b
      · omega
    · rw [(e1 f u (Or.inr (by omega))).2] at hv
      show ∃ a : lLc, R2 u = some a
      rw [hR u (by omega)]
      exact h3 f hf u t g hv hk (hA4 u (by omega) hu)
  · by_cases c : u < 40
    · obtain ⟨k1, k2⟩ := c5 u π z c hz
      exact ⟨Or.inl ⟨c, k1⟩, fun _ => k2⟩
    · rw [(e1 f u (Or.inr (by omega))).2] at hz
      obtain ⟨-, k1, k2⟩ := h5 f u π z hz
      refine ⟨?_, fun q => absurd q c⟩
      rcases k1 with ⟨a, b⟩ | ⟨a, b⟩ | ⟨a, r, m, b⟩ | ⟨r, m, i, a, b⟩
      · exact absurd a c
      · exact Or.inr (Or.inl ⟨a, by show u < 40 + wl S2; omega⟩)
      · exact absurd b (by rintro (z | z); exact (hmt r m).1 z; exact (hmt r m).2 z)
      · exact Or.inr (Or.inr (Or.inr ⟨r, m, i, (mem _ (by show (4 : Nat) ≠ 8; decide)).mpr a, b⟩))
  · exact ⟨fun z => absurd ((mem _ (by show (5 : Nat) ≠ 8; decide)).mp z) (hmt r m).1, fun z => absurd ((mem _ (by show (6 : Nat) ≠ 8; decide)).mp z) (hmt r m).2⟩
end
-- d2.re.lean.txt
section
/-- what references lead to is no reference -/
def qRf (y : qY) : Prop := ∀ t : Nat, (y.1 t = 5 ∨ y.1 t = 6) → y.1 (y.2.1 t) ≠ 5 ∧ y.1 (y.2.1 t) ≠ 6
theorem kA_al {x : kFm} {S2 : List tE} {R2 : Nat → Option lLc} {H2 : Nat → Nat → Prop} {al2 : Nat → Prop} {lo2 : Nat → lLc → Prop} {u : Nat} (hw : wl S2 = wl x.2.1) (hn : x.2.2.1 = 0) (hu : kA (x.1, S2, 0, R2, H2, al2, lo2, kAn x) u) (hal : al2 u → kal x u) : kA x u := by
  rcases hu with ⟨a, b⟩ | ⟨a, b⟩
  · exact Or.inl ⟨a, hal b⟩
  · have b : u < 40 + wl S2 + 0 := b
    exact Or.inr ⟨a, by omega⟩
/-- a place of the latest frame's variable v loses what lies there -/
theorem kJ_cut {y : qY} {vt : Nat → Nat → Nat} {tb : Nat → lTb} {f : Nat} {x : Nat → kFm} {rt : Nat × Nat → Nat} {V : Nat × Nat → qV} (h : kJ y vt tb f x rt V) {v : Nat} {σ : lLc} {R2 : Nat → Option lLc} {al2 : Nat → Prop} {lo2 : Nat → lLc → Prop} (hn : (x f).2.2.1 = 0) (hv4 : v < 40) (hmt : ∀ r m : Nat, (5, r, m) ∉ (x f).2.1 ∧ (6, r, m) ∉ (x f).2.1) (hm : qM σ) (hR : ∀ u : Nat, u ≠ v → R2 u = kR (x f) u) (hRv : R2 v = kR (x f) v ∨ (R2 v = none ∧ σ = [])) (hal : ∀ u : Nat, al2 u → kal (x f) u) (hlo : ∀ (w : Nat) (π : lLc), ¬ lo2 w π → ¬ klo (x f) w π ∧ (w = v → ¬ lCmp π σ)) (hc : ∀ (u : Nat) (b : lLc), ((u < 40 ∧ al2 u) ∨ (40 ≤ u ∧ u < 40 + wl (x f).2.1)) → R2 u = some b → ¬ lCmp b ((f, v) :: σ)) : kJ y vt tb f (kUx x f ((x f).1, (x f).2.1, 0, R2, kH (x f), al2, lo2, kAn (x f))) rt (qUp V (f, v) (qC (V (f, v)) σ)) := by
  have hw := h
  obtain ⟨h0, h1, h2, h3, h4, h5, h6, h7, h8⟩ := h
  have hf := Nat.le_refl f
  have hRr : ∀ (u : Nat) (b : lLc), R2 u = some b → kR (x f) u = some b := fun u b hb => by
    by_cases c : u = v
    · subst c
      rcases hRv with z | ⟨z, -⟩
      · rw [← z]; exact hb
      · rw [z] at hb; simp at hb
    · rw [← hR u c]; exact hb
  have hne : ∀ u : Nat, u ≠ v → ((f, u) : Nat × Nat) ≠ (f, v) := fun u hu q => hu (by injection q)
  have hA : ∀ u : Nat, kA ((x f).1, (x f).2.1, 0, R2, kH (x f), al2, lo2, kAn (x f)) u → kA (x f) u := fun u hu => kA_al rfl hn hu (hal u)
  refine kJ_var hw hn (fun j u hj => ⟨rfl, qUp_ne (fun q => ?_)⟩) (fun u hu => hR u (by omega)) ⟨[], fun e he => by simp at he, Or.inl rfl⟩ hmt (fun u hu => ?_) (lIv_mono2 (h1.1 f hf) (fun u a hu ha => ⟨hA u hu, hRr u a ha⟩) (fun u a l _ _ hl => hl) (fun u a _ _ => Iff.rfl)) (fun u a hu ha => ?_) (fun u t g u4 hv hk hu => ?_) (fun u π z u4 hz => ?_) (fun w w4 hw2 => ?_)
  · injection q with q1 q2
    omega
  · by_cases c : u = v
    · rw [c, qUp_eq]; exact qOk_C (h0 (f, v)) hm
    · rw [qUp_ne (hne u c)]; exact h0 (f, u)
  · refine ⟨(h2 f hf u a (hA u hu) (hRr u a ha)).1, qTg_C (h2 f hf u a (hA u hu) (hRr u a ha)).2 (hc u a ?_ ha)⟩
    rcases hu with q | ⟨q1, q2⟩
    · exact Or.inl q
    · exact Or.inr ⟨q1, by have q2 : u < 40 + wl (x f).2.1 + 0 := q2; omega⟩
  · by_cases c : u = v
    · subst c
      rw [qUp_eq] at hv
      obtain ⟨k1, k2⟩ := qC_some hv
      rcases hRv with z | ⟨-, z⟩
      · rw [z]; exact h3 f hf u t g k2 hk (Or.inl ⟨u4, hal u hu⟩)
      · exact absurd (by rw [z]; exact lP_rf _) k1
    · rw [qUp_ne (hne u c)] at hv
      rw [hR u c]
      exact h3 f hf u t g hv hk (Or.inl ⟨u4, hal u hu⟩)
  · have hz2 : V (f, u) π = some z := by
      by_cases c : u = v
      · subst c
        rw [qUp_eq] at hz
        exact (qC_some hz).2
      · rw [qUp_ne (hne u c)] at hz; exact hz
    obtain ⟨-, k1, k2⟩ := h5 f u π z hz2
    refine ⟨?_, k2 u4⟩
    rcases k1 with ⟨a, b⟩ | ⟨a, b⟩ | ⟨a, b⟩ | ⟨r, m, i, a, b, c⟩
    · exact b
    · omega
    · omega
    · omega
  · refine ⟨(h6 f hf w w4 hw2).1, fun π T g1 g2 g3 => ?_⟩
    obtain ⟨k1, k2⟩ := hlo w π g3
    have q := (h6 f hf w w4 hw2).2 π T g1 g2 k1
    by_cases c : w = v
    · subst c
      rw [qUp_eq]
      exact qQ_cg q (fun τ => qC_out (fun z => k2 rfl (lP_two (lP_app π τ) z)))
    · rw [qUp_ne (hne w c)]; exact q
/-- variable v of the latest frame gets the value W; where it leads if it is a reference -/
theorem kJ_set {y : qY} {vt : Nat → Nat → Nat} {tb : Nat → lTb} {f : Nat} {x : Nat → kFm} {rt : Nat × Nat → Nat} {V : Nat × Nat → qV} (hrf : qRf y) (h : kJ y vt tb f x rt V) {v : Nat} {S2 : List tE} {W : qV} {ro : Option lLc} {hd : Nat → Prop} {al2 : Nat → Prop} {lo2 : Nat → lLc → Prop} (hn : (x f).2.2.1 = 0) (hv4 : v < 40) (hmt : ∀ r m : Nat, (5, r, m) ∉ (x f).2.1 ∧ (6, r, m) ∉ (x f).2.1) (hS : (S2 = (8, v, 0) :: (x f).2.1 ∧ (8, v, 0) ∉ (x f).2.1) ∨ (S2 = (x f).2.1 ∧ (8, v, 0) ∈ (x f).2.1 ∧ (y.1 (vt (x f).1 v) = 5 ∨ y.1 (vt (x f).1 v) = 6))) (hW : qOk y (vt (x f).1 v) W) (hal : ∀ u : Nat, u ≠ v → al2 u → kal (x f) u) (hlo : ∀ (w : Nat) (π : lLc), w ≠ v → ¬ lo2 w π → ¬ klo (x f) w π) (hlv : ∀ (π : lLc) (T : Nat), qM π → qW y (vt (x f).1 v) π T → ¬ lo2 v π → qQ y W π T) (hro : (ro = none ∧ ∀ z : Nat × Nat, W [] = some z → y.1 z.1 ≠ 5 ∧ y.1 z.1 ≠ 6) ∨ ∃ a : lLc, ro = some a ∧ lOk f (tb (x f).1) (kAn (x f)) hd (y.1 (vt (x f).1 v) = 6) a ∧ (∀ u : Nat, ((u < 40 ∧ al2 u) ∨ (40 ≤ u ∧ u < 40 + wl (x f).2.1)) → u ≠ v → lMt (tb (x f).1) (kfr y rt f (x f)) v hd (y.1 (vt (x f).1 v) = 6) a u) ∧ qTg y rt V a (y.2.1 (vt (x f).1 v)) ∧ (y.1 (vt (x f).1 v) = 5 ∨ y.1 (vt (x f).1 v) = 6)) : kJ y vt tb f (kUx x f ((x f).1, S2, 0, lUp (kR (x f)) v ro, lUp (kH (x f)) v hd, al2, lo2, kAn (x f))) (qRt rt (f, v) (vt (x f).1 v)) (qUp V (f, v) W) := by
  have hw := h
  obtain ⟨h0, h1, h2, h3, h4, h5, h6, h7, h8⟩ := h
  have hf := Nat.le_refl f
  have hne : ∀ u : Nat, u ≠ v → ((f, u) : Nat × Nat) ≠ (f, v) := fun u hu q => hu (by injection q)
  have wS : wl S2 = wl (x f).2.1 := by
    rcases hS with ⟨e, -⟩ | ⟨e, -⟩
    · rw [e]; exact wl_0 (Or.inl rfl)
    · rw [e]
  have memS : ∀ e : tE, e ∈ S2 → e ≠ (8, v, 0) → e ∈ (x f).2.1 := fun e he hn => by
    rcases hS with ⟨z, -⟩ | ⟨z, -⟩
    · rw [z] at he
      exact (List.mem_cons.mp he).resolve_left hn
    · rw [z] at he; exact he
  have memI : ∀ e : tE, e ∈ (x f).2.1 → e ∈ S2 := fun e he => by
    rcases hS with ⟨z, -⟩ | ⟨z, -⟩
    · rw [z]; exact List.mem_cons_of_mem _ he
    · rw [z]; exact he
  have memv : (8, v, 0) ∈ S2 := by
    rcases hS with ⟨z, -⟩ | ⟨z, q, -⟩
    · rw [z]; exact List.mem_cons_self ..
    · rw [z]; exact q
  have hA : ∀ u : Nat, u ≠ v → kA ((x f).1, S2, 0, lUp (kR (x f)) v ro, lUp (kH (x f)) v hd, al2, lo2, kAn (x f)) u → kA (x f) u ∧ ((u < 40 ∧ al2 u) ∨ (40 ≤ u ∧ u < 40 + wl (x f).2.1)) := fun u hne hu => by
    refine ⟨kA_al wS hn hu (hal u hne), ?_⟩
    rcases hu with q | ⟨q1, q2⟩
    · exact Or.inl q
    · exact Or.inr ⟨q1, by have q2 : u < 40 + wl S2 + 0 := q2; omega⟩
  -- nothing that is used leads to v
  have hTg : ∀ (b : lLc) (t : Nat), (y.1 t = 5 ∨ y.1 t = 6) → qTg y rt V b (y.2.1 t) → qTg y (qRt rt (f, v) (vt (x f).1 v)) (qUp V (f, v) W) b (y.2.1 t) := fun b t ht hb => by
    obtain ⟨r, π, g1, g2, g3, g4⟩ := hb
    have : r ≠ (f, v) := fun q => by
      subst q
      obtain ⟨τ, z, hz⟩ := qF_pl g4
      obtain ⟨-, k1, k2⟩ := h5 f v _ z hz
      rcases hS with ⟨-, e⟩ | ⟨-, -, e⟩
      · rcases k1 with ⟨a, b⟩ | ⟨a, b⟩ | ⟨a, b⟩ | ⟨r, m, i, a, b, c⟩
        · exact e b
        · omega
        · omega
        · omega
      · rw [k2 hv4] at g3
        have hπ : π = [] := by
          cases π with
          | nil => rfl
          | cons c π =>
            obtain ⟨c1, c2⟩ := c
            match c1, g3 with
            | 0, g3 => rcases e with e | e <;> exact absurd (e.symm.trans g3.1) (by decide)
            | 1, g3 => rcases e with e | e <;> exact absurd (e.symm.trans g3.2.1) (by decide)
            | g + 2, g3 => rcases e with e | e <;> exact absurd (e.symm.trans g3.1) (by decide)
        subst hπ
        have g3 : y.2.1 t = vt (x f).1 v := g3
        obtain ⟨n5, n6⟩ := hrf t ht
        rw [g3] at n5 n6
        rcases e with e | e
        · exact n5 e
        · exact n6 e
    exact ⟨r, π, g1, g2, by rw [qRt_ne this]; exact g3, by rw [qUp_ne this]; exact g4⟩
  have rr : ∀ (u : Nat) (b : lLc), u ≠ v → kA (x f) u → kR (x f) u = some b → qTr y (qRt rt (f, v) (vt (x f).1 v)) (qUp V (f, v) W) f u b := fun u b hne2 hu hb => by
    unfold qTr
    rw [qRt_ne (hne u hne2)]
    exact ⟨(h2 f hf u b hu hb).1, hTg b _ (h2 f hf u b hu hb).1 (h2 f hf u b hu hb).2⟩
  have hU : ∀ u : Nat, u ≠ v → (y.1 (qRt rt (f, v) (vt (x f).1 v) (f, u)) = 6 ↔ y.1 (rt (f, u)) = 6) := fun u c => by rw [qRt_ne (hne u c)]
  have lv : lIv f (tb (x f).1) (kAn (x f)) (kfr y (qRt rt (f, v) (vt (x f).1 v)) f ((x f).1, S2, 0, lUp (kR (x f)) v ro, lUp (kH (x f)) v hd, al2, lo2, kAn (x f))) := by
    rcases hro with ⟨e, -⟩ | ⟨a, e, hok, hmt2, -⟩
    · refine lIv_mono2 (h1.1 f hf) (fun u b hu hb => ?_) (fun u b l hu hb hl => ?_) (fun u b hu hb => ?_)
      · have hb : lUp (kR (x f)) v ro u = some b := hb
        by_cases c : u = v
        · rw [c, lUp_eq, e] at hb; simp at hb
        · rw [lUp_ne c] at hb
          exact ⟨(hA u c hu).1, hb⟩
      · have hb : lUp (kR (x f)) v ro u = some b := hb
        by_cases c : u = v
        · rw [c, lUp_eq, e] at hb; simp at hb
        · show lUp (kH (x f)) v hd u l
          rw [lUp_ne c]; exact hl
      · have hb : lUp (kR (x f)) v ro u = some b := hb
        by_cases c : u = v
        · rw [c, lUp_eq, e] at hb; simp at hb
        · exact hU u c
    · have hlv2 := lIv_new (t := v) (hd := hd) (un := y.1 (vt (x f).1 v) = 6) (a := a) (A2 := fun u => ((u < 40 ∧ al2 u) ∨ (40 ≤ u ∧ u < 40 + wl (x f).2.1)) ∧ u ≠ v) (h1.1 f hf) (fun u hu c => by
        rcases hu.1 with ⟨a, b⟩ | ⟨a, b⟩
        · exact Or.inl ⟨a, hal u c b⟩
        · exact Or.inr ⟨a, by omega⟩) hok (fun u hu c => hmt2 u hu.1 c)
      refine lIv_mono2 hlv2 (fun u b hu hb => ⟨?_, by rw [← e]; exact hb⟩) (fun u b l hu hb hl => hl) (fun u b hu hb => ?_)
      · by_cases c : u = v
        · exact Or.inr c
        · exact Or.inl ⟨(hA u c hu).2, c⟩
      · show y.1 (qRt rt (f, v) (vt (x f).1 v) (f, u)) = 6 ↔ lUp (kfr y rt f (x f)).2.2.2 v (y.1 (vt (x f).1 v) = 6) u
        by_cases c : u = v
        · rw [c, qRt_eq, lUp_eq]
        · rw [lUp_ne c]; exact hU u c
  refine kJ_var hw hn (fun j u hj => ?_) (fun u hu => lUp_ne (by omega)) ?_ hmt (fun u hu => ?_) lv (fun u b hu hb => ?_) (fun u t g u4 hv hk hu => ?_) (fun u π z u4 hz => ?_) (fun w w4 hw2 => ?_)
  · have : ((j, u) : Nat × Nat) ≠ (f, v) := fun q => by
      injection q with q1 q2
      omega
    exact ⟨qRt_ne this, qUp_ne this⟩
  · rcases hS with ⟨e, -⟩ | ⟨e, -⟩
    · exact ⟨[(8, v, 0)], fun e he => ⟨v, List.mem_singleton.mp he⟩, Or.inr (by rw [e]; rfl)⟩
    · exact ⟨[], fun e he => by simp at he, Or.inl (by rw [e]; rfl)⟩
  · by_cases c : u = v
    · rw [c, qUp_eq, qRt_eq]; exact hW
    · rw [qUp_ne (hne u c), qRt_ne (hne u c)]; exact h0 (f, u)
  · have hb : lUp (kR (x f)) v ro u = some b := hb
    by_cases c : u = v
    · subst c
      rw [lUp_eq] at hb
      rcases hro with ⟨e, -⟩ | ⟨a, e, -, -, hT, hk⟩
      · rw [e] at hb; simp at hb
      · rw [e] at hb
        obtain rfl := Option.some.inj hb
        unfold qTr
        rw [qRt_eq]
        exact ⟨hk, hTg _ _ hk hT⟩
    · rw [lUp_ne c] at hb
      exact rr u b c (hA u c hu).1 hb
  · show ∃ a : lLc, lUp (kR (x f)) v ro u = some a
    by_cases c : u = v
    · subst c
      rw [qUp_eq] at hv
      rw [lUp_eq]
      rcases hro with ⟨e, e2⟩ | ⟨a, e, -⟩
      · exact absurd hk (by obtain ⟨k1, k2⟩ := e2 _ hv; rintro (z | z); exact k1 z; exact k2 z)
      · exact ⟨a, e⟩
    · rw [qUp_ne (hne u c)] at hv
      rw [lUp_ne c]
      exact h3 f hf u t g hv hk (Or.inl ⟨u4, hal u c hu⟩)
  · by_cases c : u = v
    · subst c
      rw [qRt_eq]
      exact ⟨memv, rfl⟩
    · rw [qUp_ne (hne u c)] at hz
      rw [qRt_ne (hne u c)]
      obtain ⟨-, k1, k2⟩ := h5 f u π z hz
      refine ⟨?_, k2 u4⟩
      rcases k1 with ⟨a, b⟩ | ⟨a, b⟩ | ⟨a, b⟩ | ⟨r, m, i, a, b, c⟩
      · exact memI _ b
      · omega
      · omega
      · omega
  · by_cases c : w = v
    · subst c
      rw [qUp_eq, qRt_eq]
      exact ⟨rfl, hlv⟩
    · rw [qUp_ne (hne w c), qRt_ne (hne w c)]
      have q := h6 f hf w w4 (memS _ hw2 (fun q => c (by injection q with q1 q2; injection q2)))
      exact ⟨q.1, fun π T g1 g2 g3 => q.2 π T g1 g2 (hlo w π c g3)⟩
end
-- d2.rf.lean.txt
section
/-- what lies at π when W comes to ρ -/
theorem qQ_G {y : qY} {T0 T1 T : Nat} {V W : qV} {ρ π : lLc} (hρ : qW y T0 ρ T1) (hπ : qW y T0 π T) (hm : qM π) (hW : qF y W [] T1) (h : qQ y V π T ∨ (qM ρ ∧ lCmp π ρ)) : qQ y (qG V ρ W) π T := by
  by_cases c : lP ρ π
  · obtain ⟨σ, rfl⟩ := c
    exact qQ_cg (hW σ T (qM_app.mp hm).2 (qW_rest hπ hρ)) (fun τ => by rw [List.append_assoc, qG_in]; rfl)
  · by_cases c2 : lP π ρ
    · obtain ⟨σ, rfl⟩ := c2
      obtain ⟨τ, z, hz⟩ := qF_pl hW
      rw [List.nil_append] at hz
      refine ⟨fun q => ?_, fun q => ⟨σ ++ τ, z, by rw [← List.append_assoc, qG_in]; exact hz⟩⟩
      rcases h with h | h
      · rw [qG_out c]; exact h.1 q
      · have w1 := qW_rest hρ hπ
        cases σ with
        | nil => exact absurd (by rw [List.append_nil]; exact lP_rf π) c
        | cons a σ =>
          obtain ⟨a1, a2⟩ := a
          have ha : a1 = 0 := (qM_cons.mp (qM_app.mp h.1).2).1
          subst ha
          exact absurd w1.1 q
    · rcases h with h | h
      · refine qQ_cg h (fun τ => qG_out (fun q => ?_))
        rcases lP_two q (lP_app π τ) with z | z
        · exact c z
        · exact c2 z
      · exact absurd h.2 (by rintro (z | z); exact c2 z; exact c z)
/-- a place of members of the latest frame's variable v gets W -/
theorem kJ_as1 {y : qY} {vt : Nat → Nat → Nat} {tb : Nat → lTb} {f : Nat} {x : Nat → kFm} {rt : Nat × Nat → Nat} {V : Nat × Nat → qV} (h : kJ y vt tb f x rt V) {v T1 : Nat} {ρ : lLc} {W : qV} {al2 : Nat → Prop} {lo2 : Nat → lLc → Prop} (hn : (x f).2.2.1 = 0) (hv4 : v < 40) (hvS : (8, v, 0) ∈ (x f).2.1) (hmt : ∀ r m : Nat, (5, r, m) ∉ (x f).2.1 ∧ (6, r, m) ∉ (x f).2.1) (hm : qM ρ) (hρ : qW y (vt (x f).1 v) ρ T1) (hW : qFu y T1 W) (hk1 : y.1 T1 ≠ 5 ∧ y.1 T1 ≠ 6) (hal : ∀ u : Nat, al2 u → kal (x f) u) (hlo : ∀ (w : Nat) (π : lLc), ¬ lo2 w π → ¬ klo (x f) w π ∨ (w = v ∧ lCmp π ρ)) (hc : ∀ (u : Nat) (b : lLc), ((u < 40 ∧ al2 u) ∨ (40 ≤ u ∧ u < 40 + wl (x f).2.1)) → kR (x f) u = some b → lCmp b ((f, v) :: ρ) → lP b ((f, v) :: ρ)) : kJ y vt tb f (kUx x f ((x f).1, (x f).2.1, 0, kR (x f), kH (x f), al2, lo2, kAn (x f))) rt (qUp V (f, v) (qG (V (f, v)) ρ W)) := by
  have hw := h
  obtain ⟨h0, h1, h2, h3, h4, h5, h6, h7, h8⟩ := h
  have hf := Nat.le_refl f
  have hne : ∀ u : Nat, u ≠ v → ((f, u) : Nat × Nat) ≠ (f, v) := fun u hu q => hu (by injection q)
  have hA : ∀ u : Nat, kA ((x f).1, (x f).2.1, 0, kR (x f), kH (x f), al2, lo2, kAn (x f)) u → kA (x f) u := fun u hu => kA_al rfl hn hu (hal u)
  have hrv := (h6 f hf v hv4 hvS).1
  have hρ2 : qW y (rt (f, v)) ρ T1 := by rw [hrv]; exact hρ
  refine kJ_var hw hn (fun j u hj => ⟨rfl, qUp_ne (fun q => by injection q with q1 q2; omega)⟩) (fun u hu => rfl) ⟨[], fun e he => by simp at he, Or.inl rfl⟩ hmt (fun u hu => ?_) (lIv_mono2 (h1.1 f hf) (fun u a hu ha => ⟨hA u hu, ha⟩) (fun u a l _ _ hl => hl) (fun u a _ _ => Iff.rfl)) (fun u a hu ha => ?_) (fun u t g u4 hv hk hu => ?_) (fun u π z u4 hz => ?_) (fun w w4 hw2 => ?_)
  · by_cases c : u = v
    · rw [c, qUp_eq]; exact qOk_Gm (h0 (f, v)) hρ2 hm hW.1
    · rw [qUp_ne (hne u c)]; exact h0 (f, u)
  · refine ⟨(h2 f hf u a (hA u hu) ha).1, qTg_G (h2 f hf u a (hA u hu) ha).2 hρ2 hW.2 (hc u a ?_ ha)⟩
    rcases hu with q | ⟨q1, q2⟩
    · exact Or.inl q
    · exact Or.inr ⟨q1, by have q2 : u < 40 + wl (x f).2.1 + 0 := q2; omega⟩
  · by_cases c : u = v
    · subst c
      rw [qUp_eq] at hv
      by_cases e : lP ρ []
      · have e2 : ρ = [] := by
          obtain ⟨s, e2⟩ := e
          exact (List.append_eq_nil_iff.mp e2.symm).1
        rw [e2] at hv
        have hv : W [] = some (t, g) := hv
        have := (hW.1.1 [] t g hv).1
        have this : t = T1 := this
        rw [this] at hk
        exact absurd hk (by rintro (z | z); exact hk1.1 z; exact hk1.2 z)
      · rw [qG_out e] at hv
        exact h3 f hf u t g hv hk (Or.inl ⟨u4, hal u hu⟩)
    · rw [qUp_ne (hne u c)] at hv
      exact h3 f hf u t g hv hk (Or.inl ⟨u4, hal u hu⟩)
  · by_cases c : u = v
    · subst c
      exact ⟨hvS, hrv⟩
    · rw [qUp_ne (hne u c)] at hz
      obtain ⟨-, k1, k2⟩ := h5 f u π z hz
      refine ⟨?_, k2 u4⟩
      rcases k1 with ⟨a, b⟩ | ⟨a, b⟩ | ⟨a, b⟩ | ⟨r, m, i, a, b, c⟩
      · exact b
      · omega
      · omega
      · omega
  · refine ⟨(h6 f hf w w4 hw2).1, fun π T g1 g2 g3 => ?_⟩
    by_cases c : w = v
    · subst c
      rw [qUp_eq]
      refine qQ_G hρ g2 g1 hW.2 ((hlo w π g3).imp (fun q => (h6 f hf w w4 hw2).2 π T g1 g2 q) (fun q => ⟨hm, q.2⟩))
    · rw [qUp_ne (hne w c)]
      exact (h6 f hf w w4 hw2).2 π T g1 g2 ((hlo w π g3).resolve_right (fun q => c q.1))
/-- a whole place of any frame gets W -/
theorem kJ_as2 {y : qY} {vt : Nat → Nat → Nat} {tb : Nat → lTb} {f : Nat} {x : Nat → kFm} {rt : Nat × Nat → Nat} {V : Nat × Nat → qV} (h : kJ y vt tb f x rt V) {d : Nat × Nat} {T1 : Nat} {ρ : lLc} {W : qV} (hd4 : d.2 < 40) (hmt : ∀ r m : Nat, (5, r, m) ∉ (x f).2.1 ∧ (6, r, m) ∉ (x f).2.1) (hρ : qW y (rt d) ρ T1) (hfl : qF y (V d) ρ T1) (hW : qFu y T1 W) (hk1 : y.1 T1 ≠ 5 ∧ y.1 T1 ≠ 6) (hc : ∀ (j u : Nat) (b : lLc), j ≤ f → kA (x j) u → kR (x j) u = some b → lCmp b (d :: ρ) → lP b (d :: ρ)) : kJ y vt tb f x rt (qUp V d (qG (V d) ρ W)) := by
  obtain ⟨h0, h1, h2, h3, h4, h5, h6, h7, h8⟩ := h
  have hpl := qF_pl hfl
  have hpl0 : qPl (V d) [] := by
    obtain ⟨τ, z, hz⟩ := hpl
    exact ⟨ρ ++ τ, z, hz⟩
  refine ⟨fun r => ?_, h1, fun j hj u a hu ha => ⟨(h2 j hj u a hu ha).1, qTg_G (h2 j hj u a hu ha).2 hρ hW.2 (hc j u a hj hu ha)⟩, fun j hj u t g hv hk hu => ?_, fun j hj => kK_cg (h4 j hj) (fun u hu => ⟨rfl, qUp_ne (fun q => by rw [← q] at hd4; have hd4 : u < 40 := hd4; omega), rfl⟩), fun j u π z hz => ?_, fun j hj v v4 hv => ⟨(h6 j hj v v4 hv).1, fun π T g1 g2 g3 => ?_⟩, fun j hj r m => ⟨fun z => ?_, fun z => ?_⟩, h8⟩
  · by_cases e : r = d
    · rw [e, qUp_eq]; exact qOk_G (h0 d) hρ hpl hW
    · rw [qUp_ne e]; exact h0 r
  · by_cases e : (j, u) = d
    · subst e
      rw [qUp_eq] at hv
      by_cases e : lP ρ []
      · have e2 : ρ = [] := by
          obtain ⟨s, e2⟩ := e
          exact (List.append_eq_nil_iff.mp e2.symm).1
        rw [e2] at hv
        have hv : W [] = some (t, g) := hv
        have := (hW.1.1 [] t g hv).1
        have this : t = T1 := this
        rw [this] at hk
        exact absurd hk (by rintro (z | z); exact hk1.1 z; exact hk1.2 z)
      · rw [qG_out e] at hv
        exact h3 j hj u t g hv hk hu
    · rw [qUp_ne e] at hv
      exact h3 j hj u t g hv hk hu
  · by_cases e : (j, u) = d
    · subst e
      obtain ⟨τ, z2, hz2⟩ := hpl0
      exact h5 j u _ z2 hz2
    · rw [qUp_ne e] at hz
      exact h5 j u π z hz
  · have q := (h6 j hj v v4 hv).2 π T g1 g2 g3
    by_cases e : (j, v) = d
    · subst e
      rw [qUp_eq]
      exact qQ_G hρ (by rw [(h6 j hj v v4 hv).1]; exact g2) g1 hW.2 (Or.inl q)
    · rw [qUp_ne e]; exact q
  · obtain ⟨rfl, -⟩ := (h7 j hj r m).1 z
    exact absurd z (hmt r m).1
  · obtain ⟨rfl, -⟩ := (h7 j hj r m).2 z
    exact absurd z (hmt r m).2
end
-- d2.rg.lean.txt
section
def kCv (V : Nat × Nat → qV) (f v0 v1 : Nat) : Nat × Nat → qV := fun r => if r.1 = f ∧ v0 ≤ r.2 ∧ r.2 < v1 then fun _ => none else V r
theorem kCv_in {V : Nat × Nat → qV} {f v0 v1 u : Nat} (h1 : v0 ≤ u) (h2 : u < v1) : kCv V f v0 v1 (f, u) = fun _ => none := by
  unfold kCv; rw [if_pos ⟨rfl, h1, h2⟩]
theorem kCv_out {V : Nat × Nat → qV} {f v0 v1 j u : Nat} (h : j ≠ f ∨ u < v0 ∨ v1 ≤ u) : kCv V f v0 v1 (j, u) = V (j, u) := by
  unfold kCv; rw [if_neg]
  intro z
  have h1 : j = f := z.1
  have h2 : v0 ≤ u := z.2.1
  have h3 : u < v1 := z.2.2
  omega
/-- variables from v0 to v1 go out of scope -/
theorem kJ_scp {y : qY} {vt : Nat → Nat → Nat} {tb : Nat → lTb} {f : Nat} {x : Nat → kFm} {rt : Nat × Nat → Nat} {V : Nat × Nat → qV} (h : kJ y vt tb f x rt V) {v0 v1 : Nat} {O S2 : List tE} {H2 : Nat → Nat → Prop} {al2 : Nat → Prop} {lo2 : Nat → lLc → Prop} (hn : (x f).2.2.1 = 0) (hv4 : v1 ≤ 40) (hmt : ∀ r m : Nat, (5, r, m) ∉ (x f).2.1 ∧ (6, r, m) ∉ (x f).2.1) (hS : (x f).2.1 = O ++ S2) (hO : ∀ e : tE, e ∈ O → ∃ v : Nat, e = (8, v, 0) ∧ v0 ≤ v ∧ v < v1) (hS2 : ∀ v : Nat, v0 ≤ v → v < v1 → (8, v, 0) ∉ S2) (hal : ∀ u : Nat, u < v0 ∨ v1 ≤ u → al2 u → kal (x f) u) (hH : ∀ (u l : Nat), u < v0 ∨ v1 ≤ u → kH (x f) u l → H2 u l) (hlo : ∀ (w : Nat) (π : lLc), (8, w, 0) ∈ S2 → ¬ lo2 w π → ¬ klo (x f) w π) (hc : ∀ (u : Nat) (b : lLc), ((u < 40 ∧ al2 u) ∨ (40 ≤ u ∧ u < 40 + wl (x f).2.1)) → (u < v0 ∨ v1 ≤ u) → kR (x f) u = some b → ∀ (v : Nat) (π : lLc), v0 ≤ v → v < v1 → b ≠ (f, v) :: π) : kJ y vt tb f (kUx x f ((x f).1, S2, 0, (fun u => if v0 ≤ u ∧ u < v1 then none else kR (x f) u), H2, al2, lo2, kAn (x f))) rt (kCv V f v0 v1) := by
  have hw := h
  obtain ⟨h0, h1, h2, h3, h4, h5, h6, h7, h8⟩ := h
  have hf := Nat.le_refl f
  have hR : ∀ (u : Nat) (b : lLc), (if v0 ≤ u ∧ u < v1 then none else kR (x f) u) = some b → (u < v0 ∨ v1 ≤ u) ∧ kR (x f) u = some b := fun u b hb => by
    by_cases c : v0 ≤ u ∧ u < v1
    · rw [if_pos c] at hb; simp at hb
    · rw [if_neg c] at hb; exact ⟨by omega, hb⟩
  have wO : wl O = 0 := by
    clear hS
    induction O with
    | nil => rfl
    | cons e O ih =>
      obtain ⟨v, rfl, -⟩ := hO _ (List.mem_cons_self ..)
      rw [wl_0 (Or.inl rfl)]
      exact ih (fun e he => hO e (List.mem_cons_of_mem _ he))
  have wS : wl S2 = wl (x f).2.1 := by rw [hS, wl_app, wO]; omega
  have hA : ∀ u : Nat, (u < v0 ∨ v1 ≤ u) → kA ((x f).1, S2, 0, (fun u => if v0 ≤ u ∧ u < v1 then none else kR (x f) u), H2, al2, lo2, kAn (x f)) u → kA (x f) u := fun u hr hu => kA_al wS hn hu (hal u hr)
  refine kJ_var hw hn (fun j u hj => ⟨rfl, kCv_out (by omega)⟩) (fun u hu => if_neg (by omega)) ⟨O, fun e he => by obtain ⟨v, e1, -⟩ := hO e he; exact ⟨v, e1⟩, Or.inl hS⟩ hmt (fun u hu => ?_) (lIv_mono2 (h1.1 f hf) (fun u a hu ha => ⟨hA u (hR u a ha).1 hu, (hR u a ha).2⟩) (fun u a l _ ha hl => hH u l (hR u a ha).1 hl) (fun u a _ _ => Iff.rfl)) (fun u a hu ha => ?_) (fun u t g u4 hv hk hu => ?_) (fun u π z u4 hz => ?_) (fun w w4 hw2 => ?_)
  · by_cases c : v0 ≤ u ∧ u < v1
    · rw [kCv_in c.1 c.2]; exact qOk_none
    · rw [kCv_out (by omega)]; exact h0 (f, u)
  · obtain ⟨k1, k2⟩ := hR u a ha
    refine ⟨(h2 f hf u a (hA u k1 hu) k2).1, qTg_eq (h2 f hf u a (hA u k1 hu) k2).2 (fun r π e _ _ => ⟨?_, rfl⟩)⟩
    obtain ⟨j, v⟩ := r
    refine kCv_out ?_
    by_cases c : j = f ∧ v0 ≤ v ∧ v < v1
    · refine absurd (by rw [← c.1]; exact e) (hc u a ?_ k1 k2 v π c.2.1 c.2.2)
      rcases hu with q | ⟨q1, q2⟩
      · exact Or.inl q
      · exact Or.inr ⟨q1, by have q2 : u < 40 + wl S2 + 0 := q2; omega⟩
    · omega
  · by_cases c : v0 ≤ u ∧ u < v1
    · rw [kCv_in c.1 c.2] at hv; simp at hv
    · rw [kCv_out (by omega)] at hv
      rw [if_neg c]
      exact h3 f hf u t g hv hk (Or.inl ⟨u4, hal u (by omega) hu⟩)
  · by_cases c : v0 ≤ u ∧ u < v1
    · rw [kCv_in c.1 c.2] at hz; simp at hz
    · rw [kCv_out (by omega)] at hz
      obtain ⟨-, k1, k2⟩ := h5 f u π z hz
      refine ⟨?_, k2 u4⟩
      rcases k1 with ⟨a, b⟩ | ⟨a, b⟩ | ⟨a, b⟩ | ⟨r, m, i, a, b, c⟩
      · rw [hS] at b
        rcases List.mem_append.mp b with q | q
        · obtain ⟨v, e, e1, e2⟩ := hO _ q
          injection e with e3 e4
          injection e4 with e5 e6
          omega
        · exact q
      · omega
      · omega
      · omega
  · have hw3 : (8, w, 0) ∈ (x f).2.1 := by rw [hS]; exact List.mem_append_right _ hw2
    have q := h6 f hf w w4 hw3
    refine ⟨q.1, fun π T g1 g2 g3 => ?_⟩
    have c : ¬ (v0 ≤ w ∧ w < v1) := fun c => hS2 w c.1 c.2 hw2
    rw [kCv_out (by omega)]
    exact q.2 π T g1 g2 (hlo w π hw2 g3)
end
