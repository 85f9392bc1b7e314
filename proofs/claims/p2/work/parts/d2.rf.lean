/-- what lies at π when W comes to ρ -/
theorem qQ_G {y : qY} {T0 T1 T : Nat} {V W : qV} {ρ π : lLc} (hρ : qW y T0 ρ T1) (hπ : qW y T0 π T) (hm : qM π) (hW : qF y W [] T1) (h : qQ y V π T ∨ (qM ρ ∧ lCmp π ρ)) : qQ y (qG V ρ W) π T := by
  by_cases c : lP ρ π
  · obtain ⟨σ, rfl⟩ := c
    exact qQ_cg (hW σ T (qM_app.mp hm).2 (qW_rest hπ hρ)) (fun τ => by rw [List.append_assoc, qG_in]; rfl)
  · by_cases c2 : lP π ρ
    · obtain ⟨σ, rfl⟩ := c2
      obtain ⟨τ, z, hz⟩ := qF_pl hW
      rw [List.nil_append] at hz
      refine ⟨fun q => ?_, fun q => ⟨σ ++ τ, z, by rw [← List.append_assoc, qG_in]; exact hz⟩⟩
      rcases h with h | h
      · rw [qG_out c]; exact h.1 q
      · have w1 := qW_rest hρ hπ
        cases σ with
        | nil => exact absurd (by rw [List.append_nil]; exact lP_rf π) c
        | cons a σ =>
          obtain ⟨a1, a2⟩ := a
          have ha : a1 = 0 := (qM_cons.mp (qM_app.mp h.1).2).1
          subst ha
          exact absurd w1.1 q
    · rcases h with h | h
      · refine qQ_cg h (fun τ => qG_out (fun q => ?_))
        rcases lP_two q (lP_app π τ) with z | z
        · exact c z
        · exact c2 z
      · exact absurd h.2 (by rintro (z | z); exact c2 z; exact c z)
/-- a place of members of the latest frame's variable v gets W -/
theorem kJ_as1 {y : qY} {vt : Nat → Nat → Nat} {tb : Nat → lTb} {f : Nat} {x : Nat → kFm} {rt : Nat × Nat → Nat} {V : Nat × Nat → qV} (h : kJ y vt tb f x rt V) {v T1 : Nat} {ρ : lLc} {W : qV} {al2 : Nat → Prop} {lo2 : Nat → lLc → Prop} (hn : (x f).2.2.1 = 0) (hv4 : v < 40) (hvS : (8, v, 0) ∈ (x f).2.1) (hmt : ∀ r m : Nat, (5, r, m) ∉ (x f).2.1 ∧ (6, r, m) ∉ (x f).2.1) (hm : qM ρ) (hρ : qW y (vt (x f).1 v) ρ T1) (hW : qFu y T1 W) (hk1 : y.1 T1 ≠ 5 ∧ y.1 T1 ≠ 6) (hal : ∀ u : Nat, al2 u → kal (x f) u) (hlo : ∀ (w : Nat) (π : lLc), ¬ lo2 w π → ¬ klo (x f) w π ∨ (w = v ∧ lCmp π ρ)) (hc : ∀ (u : Nat) (b : lLc), ((u < 40 ∧ al2 u) ∨ (40 ≤ u ∧ u < 40 + wl (x f).2.1)) → kR (x f) u = some b → lCmp b ((f, v) :: ρ) → lP b ((f, v) :: ρ)) : kJ y vt tb f (kUx x f ((x f).1, (x f).2.1, 0, kR (x f), kH (x f), al2, lo2, kAn (x f))) rt (qUp V (f, v) (qG (V (f, v)) ρ W)) := by
  have hw := h
  obtain ⟨h0, h1, h2, h3, h4, h5, h6, h7, h8⟩ := h
  have hf := Nat.le_refl f
  have hne : ∀ u : Nat, u ≠ v → ((f, u) : Nat × Nat) ≠ (f, v) := fun u hu q => hu (by injection q)
  have hA : ∀ u : Nat, kA ((x f).1, (x f).2.1, 0, kR (x f), kH (x f), al2, lo2, kAn (x f)) u → kA (x f) u := fun u hu => kA_al rfl hn hu (hal u)
  have hrv := (h6 f hf v hv4 hvS).1
  have hρ2 : qW y (rt (f, v)) ρ T1 := by rw [hrv]; exact hρ
  refine kJ_var hw hn (fun j u hj => ⟨rfl, qUp_ne (fun q => by injection q with q1 q2; omega)⟩) (fun u hu => rfl) ⟨[], fun e he => by simp at he, Or.inl rfl⟩ hmt (fun u hu => ?_) (lIv_mono2 (h1.1 f hf) (fun u a hu ha => ⟨hA u hu, ha⟩) (fun u a l _ _ hl => hl) (fun u a _ _ => Iff.rfl)) (fun u a hu ha => ?_) (fun u t g u4 hv hk hu => ?_) (fun u π z u4 hz => ?_) (fun w w4 hw2 => ?_)
  · by_cases c : u = v
    · rw [c, qUp_eq]; exact qOk_Gm (h0 (f, v)) hρ2 hm hW.1
    · rw [qUp_ne (hne u c)]; exact h0 (f, u)
  · refine ⟨(h2 f hf u a (hA u hu) ha).1, qTg_G (h2 f hf u a (hA u hu) ha).2 hρ2 hW.2 (hc u a ?_ ha)⟩
    rcases hu with q | ⟨q1, q2⟩
    · exact Or.inl q
    · exact Or.inr ⟨q1, by have q2 : u < 40 + wl (x f).2.1 + 0 := q2; omega⟩
  · by_cases c : u = v
    · subst c
      rw [qUp_eq] at hv
      by_cases e : lP ρ []
      · have e2 : ρ = [] := by
          obtain ⟨s, e2⟩ := e
          exact (List.append_eq_nil_iff.mp e2.symm).1
        rw [e2] at hv
        have hv : W [] = some (t, g) := hv
        have := (hW.1.1 [] t g hv).1
        have this : t = T1 := this
        rw [this] at hk
        exact absurd hk (by rintro (z | z); exact hk1.1 z; exact hk1.2 z)
      · rw [qG_out e] at hv
        exact h3 f hf u t g hv hk (Or.inl ⟨u4, hal u hu⟩)
    · rw [qUp_ne (hne u c)] at hv
      exact h3 f hf u t g hv hk (Or.inl ⟨u4, hal u hu⟩)
  · by_cases c : u = v
    · subst c
      exact ⟨hvS, hrv⟩
    · rw [qUp_ne (hne u c)] at hz
      obtain ⟨-, k1, k2⟩ := h5 f u π z hz
      refine ⟨?_, k2 u4⟩
      rcases k1 with ⟨a, b⟩ | ⟨a, b⟩ | ⟨a, b⟩ | ⟨r, m, i, a, b, c⟩
      · exact b
      · omega
      · omega
      · omega
  · refine ⟨(h6 f hf w w4 hw2).1, fun π T g1 g2 g3 => ?_⟩
    by_cases c : w = v
    · subst c
      rw [qUp_eq]
      refine qQ_G hρ g2 g1 hW.2 ((hlo w π g3).imp (fun q => (h6 f hf w w4 hw2).2 π T g1 g2 q) (fun q => ⟨hm, q.2⟩))
    · rw [qUp_ne (hne w c)]
      exact (h6 f hf w w4 hw2).2 π T g1 g2 ((hlo w π g3).resolve_right (fun q => c q.1))
/-- a whole place of any frame gets W -/
theorem kJ_as2 {y : qY} {vt : Nat → Nat → Nat} {tb : Nat → lTb} {f : Nat} {x : Nat → kFm} {rt : Nat × Nat → Nat} {V : Nat × Nat → qV} (h : kJ y vt tb f x rt V) {d : Nat × Nat} {T1 : Nat} {ρ : lLc} {W : qV} (hd4 : d.2 < 40) (hmt : ∀ r m : Nat, (5, r, m) ∉ (x f).2.1 ∧ (6, r, m) ∉ (x f).2.1) (hρ : qW y (rt d) ρ T1) (hfl : qF y (V d) ρ T1) (hW : qFu y T1 W) (hk1 : y.1 T1 ≠ 5 ∧ y.1 T1 ≠ 6) (hc : ∀ (j u : Nat) (b : lLc), j ≤ f → kA (x j) u → kR (x j) u = some b → lCmp b (d :: ρ) → lP b (d :: ρ)) : kJ y vt tb f x rt (qUp V d (qG (V d) ρ W)) := by
  obtain ⟨h0, h1, h2, h3, h4, h5, h6, h7, h8⟩ := h
  have hpl := qF_pl hfl
  have hpl0 : qPl (V d) [] := by
    obtain ⟨τ, z, hz⟩ := hpl
    exact ⟨ρ ++ τ, z, hz⟩
  refine ⟨fun r => ?_, h1, fun j hj u a hu ha => ⟨(h2 j hj u a hu ha).1, qTg_G (h2 j hj u a hu ha).2 hρ hW.2 (hc j u a hj hu ha)⟩, fun j hj u t g hv hk hu => ?_, fun j hj => kK_cg (h4 j hj) (fun u hu => ⟨rfl, qUp_ne (fun q => by rw [← q] at hd4; have hd4 : u < 40 := hd4; omega), rfl⟩), fun j u π z hz => ?_, fun j hj v v4 hv => ⟨(h6 j hj v v4 hv).1, fun π T g1 g2 g3 => ?_⟩, fun j hj r m => ⟨fun z => ?_, fun z => ?_⟩, h8⟩
  · by_cases e : r = d
    · rw [e, qUp_eq]; exact qOk_G (h0 d) hρ hpl hW
    · rw [qUp_ne e]; exact h0 r
  · by_cases e : (j, u) = d
    · subst e
      rw [qUp_eq] at hv
      by_cases e : lP ρ []
      · have e2 : ρ = [] := by
          obtain ⟨s, e2⟩ := e
          exact (List.append_eq_nil_iff.mp e2.symm).1
        rw [e2] at hv
        have hv : W [] = some (t, g) := hv
        have := (hW.1.1 [] t g hv).1
        have this : t = T1 := this
        rw [this] at hk
        exact absurd hk (by rintro (z | z); exact hk1.1 z; exact hk1.2 z)
      · rw [qG_out e] at hv
        exact h3 j hj u t g hv hk hu
    · rw [qUp_ne e] at hv
      exact h3 j hj u t g hv hk hu
  · by_cases e : (j, u) = d
    · subst e
      obtain ⟨τ, z2, hz2⟩ := hpl0
      exact h5 j u _ z2 hz2
    · rw [qUp_ne e] at hz
      exact h5 j u π z hz
  · have q := (h6 j hj v v4 hv).2 π T g1 g2 g3
    by_cases e : (j, v) = d
    · subst e
      rw [qUp_eq]
      exact qQ_G hρ (by rw [(h6 j hj v v4 hv).1]; exact g2) g1 hW.2 (Or.inl q)
    · rw [qUp_ne e]; exact q
  · obtain ⟨rfl, -⟩ := (h7 j hj r m).1 z
    exact absurd z (hmt r m).1
  · obtain ⟨rfl, -⟩ := (h7 j hj r m).2 z
    exact absurd z (hmt r m).2
