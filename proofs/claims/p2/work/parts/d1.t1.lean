/-- a table of types: kind (2 struct, 3 enum, 4 box, 5 and 6 references), what it is of, how many variants, how many parts a variant has (a struct: variant 0), their types -/
abbrev qY := (Nat → Nat) × (Nat → Nat) × (Nat → Nat) × (Nat → Nat → Nat) × (Nat → Nat → Nat → Nat)
/-- from type T the way π leads to type t -/
def qW (y : qY) : Nat → lLc → Nat → Prop
  | T, [], t => t = T
  | T, (0, j) :: π, t => y.1 T = 2 ∧ j < y.2.2.2.1 T 0 ∧ qW y (y.2.2.2.2 T 0 j) π t
  | T, (1, j) :: π, t => j = 0 ∧ y.1 T = 4 ∧ qW y (y.2.1 T) π t
  | T, (g + 2, j) :: π, t => y.1 T = 3 ∧ g < y.2.2.1 T ∧ j < y.2.2.2.1 T g ∧ qW y (y.2.2.2.2 T g j) π t
theorem qW_det {y : qY} : ∀ {π : lLc} {T t u : Nat}, qW y T π t → qW y T π u → t = u
  | [], _, _, _, h1, h2 => (show _ = _ from h1).trans (show _ = _ from h2).symm
  | (0, j) :: π, _, _, _, h1, h2 => qW_det (π := π) h1.2.2 h2.2.2
  | (1, j) :: π, _, _, _, h1, h2 => qW_det (π := π) h1.2.2 h2.2.2
  | (g + 2, j) :: π, _, _, _, h1, h2 => qW_det (π := π) h1.2.2.2 h2.2.2.2
theorem qW_app {y : qY} : ∀ {π σ : lLc} {T t u : Nat}, qW y T π t → qW y t σ u → qW y T (π ++ σ) u
  | [], _, _, _, _, h1, h2 => by
    obtain rfl := (show _ = _ from h1)
    exact h2
  | (0, j) :: π, σ, _, _, _, h1, h2 => ⟨h1.1, h1.2.1, qW_app (π := π) h1.2.2 h2⟩
  | (1, j) :: π, σ, _, _, _, h1, h2 => ⟨h1.1, h1.2.1, qW_app (π := π) h1.2.2 h2⟩
  | (g + 2, j) :: π, σ, _, _, _, h1, h2 => ⟨h1.1, h1.2.1, h1.2.2.1, qW_app (π := π) h1.2.2.2 h2⟩
theorem qW_cut {y : qY} : ∀ {π σ : lLc} {T u : Nat}, qW y T (π ++ σ) u → ∃ t : Nat, qW y T π t ∧ qW y t σ u
  | [], _, T, _, h => ⟨T, rfl, h⟩
  | (0, j) :: π, σ, _, _, h => by
    obtain ⟨t, h1, h2⟩ := qW_cut (π := π) h.2.2
    exact ⟨t, ⟨h.1, h.2.1, h1⟩, h2⟩
  | (1, j) :: π, σ, _, _, h => by
    obtain ⟨t, h1, h2⟩ := qW_cut (π := π) h.2.2
    exact ⟨t, ⟨h.1, h.2.1, h1⟩, h2⟩
  | (g + 2, j) :: π, σ, _, _, h => by
    obtain ⟨t, h1, h2⟩ := qW_cut (π := π) h.2.2.2
    exact ⟨t, ⟨h.1, h.2.1, h.2.2.1, h1⟩, h2⟩
theorem qW_rest {y : qY} {π σ : lLc} {T t u : Nat} (h : qW y T (π ++ σ) u) (h1 : qW y T π t) : qW y t σ u := by
  obtain ⟨t2, g1, g2⟩ := qW_cut h
  rw [qW_det h1 g1]
  exact g2
/-- members alone -/
def qM (π : lLc) : Prop := ∀ x : Nat × Nat, x ∈ π → x.1 = 0
theorem qM_nil : qM [] := fun x h => by simp at h
theorem qM_app {a b : lLc} : qM (a ++ b) ↔ qM a ∧ qM b := by
  constructor
  · intro h
    exact ⟨fun x hx => h x (List.mem_append_left b hx), fun x hx => h x (List.mem_append_right a hx)⟩
  · intro h x hx
    rcases List.mem_append.mp hx with z | z
    · exact h.1 x z
    · exact h.2 x z
theorem qM_cons {x : Nat × Nat} {a : lLc} : qM (x :: a) ↔ x.1 = 0 ∧ qM a := by
  constructor
  · intro h
    exact ⟨h x (List.mem_cons_self ..), fun z hz => h z (List.mem_cons_of_mem x hz)⟩
  · intro h z hz
    rcases List.mem_cons.mp hz with e | e
    · rw [e]; exact h.1
    · exact h.2 z e
/-- a value: at each way of it where something lies: its type and variant -/
abbrev qV := lLc → Option (Nat × Nat)
/-- a place that is there: something lies at it or below -/
def qPl (V : qV) (π : lLc) : Prop := ∃ (σ : lLc) (x : Nat × Nat), V (π ++ σ) = some x
theorem qPl_up {V : qV} {π σ : lLc} (h : qPl V (π ++ σ)) : qPl V π := by
  obtain ⟨τ, x, hx⟩ := h
  exact ⟨σ ++ τ, x, by rw [← List.append_assoc]; exact hx⟩
theorem qPl_of {V : qV} {π : lLc} {x : Nat × Nat} (h : V π = some x) : qPl V π := ⟨[], x, by rw [List.append_nil]; exact h⟩
/-- at π lies what a value of type t has there -/
def qQ (y : qY) (V : qV) (π : lLc) (t : Nat) : Prop := (y.1 t ≠ 2 → ∃ x : Nat × Nat, V π = some x) ∧ (y.1 t = 2 → qPl V π)
theorem qQ_pl {y : qY} {V : qV} {π : lLc} {t : Nat} (h : qQ y V π t) : qPl V π := by
  by_cases e : y.1 t = 2
  · exact h.2 e
  · obtain ⟨x, hx⟩ := h.1 e
    exact qPl_of hx
theorem qQ_cg {y : qY} {V V2 : qV} {π π2 : lLc} {t : Nat} (h : qQ y V π t) (e : ∀ τ : lLc, V2 (π2 ++ τ) = V (π ++ τ)) : qQ y V2 π2 t := by
  refine ⟨fun z => ?_, fun z => ?_⟩
  · obtain ⟨x, hx⟩ := h.1 z
    have := e []
    rw [List.append_nil, List.append_nil] at this
    exact ⟨x, this.trans hx⟩
  · obtain ⟨τ, x, hx⟩ := h.2 z
    exact ⟨τ, x, (e τ).trans hx⟩
/-- at π lies a whole value of type T -/
def qF (y : qY) (V : qV) (π : lLc) (T : Nat) : Prop := ∀ (ρ : lLc) (t : Nat), qM ρ → qW y T ρ t → qQ y V (π ++ ρ) t
theorem qF_pl {y : qY} {V : qV} {π : lLc} {T : Nat} (h : qF y V π T) : qPl V π := by
  have := qQ_pl (h [] T qM_nil rfl)
  rw [List.append_nil] at this
  exact this
/-- and at the places in it -/
theorem qF_in {y : qY} {V : qV} {π ρ : lLc} {T t : Nat} (h : qF y V π T) (hm : qM ρ) (hw : qW y T ρ t) : qF y V (π ++ ρ) t := fun σ u g1 g2 => by
  rw [List.append_assoc]
  exact h (ρ ++ σ) u (qM_app.mpr ⟨hm, g1⟩) (qW_app hw g2)
def qOk (y : qY) (T : Nat) (V : qV) : Prop :=
  (∀ (π : lLc) (t g : Nat), V π = some (t, g) → qW y T π t ∧ y.1 t ≠ 2 ∧ (y.1 t = 3 → g < y.2.2.1 t) ∧ (y.1 t = 4 → qF y V (π ++ [(1, 0)]) (y.2.1 t)) ∧ (y.1 t = 3 → ∀ j : Nat, j < y.2.2.2.1 t g → qF y V (π ++ [(g + 2, j)]) (y.2.2.2.2 t g j))) ∧
  (∀ (π σ : lLc) (j : Nat) (x : Nat × Nat), V (π ++ (1, j) :: σ) = some x → ∃ z : Nat × Nat, V π = some z) ∧
  (∀ (π σ : lLc) (g j : Nat) (x : Nat × Nat), V (π ++ (g + 2, j) :: σ) = some x → ∃ t : Nat, V π = some (t, g))
/-- a whole value of type T -/
def qFu (y : qY) (T : Nat) (V : qV) : Prop := qOk y T V ∧ qF y V [] T
theorem qF_ty {y : qY} {T : Nat} {V : qV} {π ρ : lLc} {t T1 : Nat} (h : qOk y T V) (hπ : qW y T π T1) (hρ : qW y T1 ρ t) {x : Nat × Nat} (hx : V (π ++ ρ) = some x) : x.1 = t := by
  obtain ⟨a, b⟩ := x
  exact qW_det (h.1 _ a b hx).1 (qW_app hπ hρ)
/-- nothing -/
theorem qOk_none {y : qY} {T : Nat} : qOk y T (fun _ => none) := ⟨fun _ _ _ h => by simp at h, fun _ _ _ _ h => by simp at h, fun _ _ _ _ _ h => by simp at h⟩
/-- what lies at ρ -/
def qS (V : qV) (ρ : lLc) : qV := fun π => V (ρ ++ π)
theorem qF_S {y : qY} {V : qV} {ρ π : lLc} {T : Nat} : qF y (qS V ρ) π T ↔ qF y V (ρ ++ π) T := by
  constructor
  · intro h σ t h1 h2
    rw [List.append_assoc]
    exact qQ_cg (h σ t h1 h2) (fun τ => by rw [List.append_assoc]; rfl)
  · intro h σ t h1 h2
    have := h σ t h1 h2
    rw [List.append_assoc] at this
    exact qQ_cg this (fun τ => by show V (ρ ++ (π ++ σ ++ τ)) = _; rw [List.append_assoc ρ])
theorem qOk_S {y : qY} {T T1 : Nat} {V : qV} {ρ : lLc} (h : qOk y T V) (hρ : qW y T ρ T1) : qOk y T1 (qS V ρ) := by
  refine ⟨fun π t g hv => ?_, fun π σ j x hx => ?_, fun π σ g j x hx => ?_⟩
  · obtain ⟨h1, h2, h3, h4, h5⟩ := h.1 _ t g hv
    refine ⟨qW_rest h1 hρ, h2, h3, fun z => ?_, fun z j hj => ?_⟩
    · rw [qF_S, ← List.append_assoc]; exact h4 z
    · rw [qF_S, ← List.append_assoc]; exact h5 z j hj
  · exact h.2.1 (ρ ++ π) σ j x (by rw [List.append_assoc]; exact hx)
  · exact h.2.2 (ρ ++ π) σ g j x (by rw [List.append_assoc]; exact hx)
theorem qFu_S {y : qY} {T T1 : Nat} {V : qV} {ρ : lLc} (h : qOk y T V) (hρ : qW y T ρ T1) (hf : qF y V ρ T1) : qFu y T1 (qS V ρ) := ⟨qOk_S h hρ, by rw [qF_S, List.append_nil]; exact hf⟩
/-- the rest behind a -/
def qD : lLc → lLc → Option lLc
  | [], b => some b
  | _ :: _, [] => none
  | x :: a, z :: b => if x = z then qD a b else none
theorem qD_app : ∀ (a b : lLc), qD a (a ++ b) = some b
  | [], _ => rfl
  | x :: a, b => by
    show (if x = x then qD a (a ++ b) else none) = some b
    rw [if_pos rfl]; exact qD_app a b
theorem qD_eq : ∀ {a b c : lLc}, qD a b = some c → b = a ++ c
  | [], _, _, h => by injection h
  | x :: a, [], _, h => by simp [qD] at h
  | x :: a, z :: b, c, h => by
    by_cases e : x = z
    · have h : (if x = z then qD a b else none) = some c := h
      rw [if_pos e] at h
      rw [e, qD_eq h]; rfl
    · have h : (if x = z then qD a b else none) = some c := h
      rw [if_neg e] at h
      simp at h
theorem qD_none {a b : lLc} (h : qD a b = none) : ¬ lP a b := by
  rintro ⟨s, rfl⟩
  rw [qD_app] at h
  simp at h
theorem qD_no {a b : lLc} (h : ¬ lP a b) : qD a b = none := by
  cases e : qD a b with
  | none => rfl
  | some c => exact absurd ⟨c, qD_eq e⟩ h
/-- without what lies at ρ -/
def qC (V : qV) (ρ : lLc) : qV := fun π => match qD ρ π with | some _ => none | none => V π
theorem qC_in {V : qV} {ρ σ : lLc} : qC V ρ (ρ ++ σ) = none := by
  unfold qC; rw [qD_app]
theorem qC_out {V : qV} {ρ π : lLc} (h : ¬ lP ρ π) : qC V ρ π = V π := by
  unfold qC; rw [qD_no h]
theorem qC_some {V : qV} {ρ π : lLc} {x : Nat × Nat} (h : qC V ρ π = some x) : ¬ lP ρ π ∧ V π = some x := by
  by_cases e : lP ρ π
  · obtain ⟨s, rfl⟩ := e
    rw [qC_in] at h
    simp at h
  · rw [qC_out e] at h
    exact ⟨e, h⟩
/-- a way of members alone that lies ahead of π ++ c :: σ, c no member, lies ahead of π -/
theorem qM_pre : ∀ {ρ π σ : lLc} {c : Nat × Nat}, qM ρ → c.1 ≠ 0 → lP ρ (π ++ c :: σ) → lP ρ π
  | [], π, _, _, _, _, _ => ⟨π, rfl⟩
  | x :: ρ, [], σ, c, h, hc, hp => by
    obtain ⟨e, -⟩ := lP_cons (show lP (x :: ρ) (c :: σ) from hp)
    rw [← e] at hc
    exact absurd (qM_cons.mp h).1 hc
  | x :: ρ, z :: π, σ, c, h, hc, hp => by
    obtain ⟨e, h2⟩ := lP_cons (show lP (x :: ρ) (z :: (π ++ c :: σ)) from hp)
    rw [e]
    exact lP_consI (qM_pre (qM_cons.mp h).2 hc h2)
theorem qOk_C {y : qY} {T : Nat} {V : qV} {ρ : lLc} (h : qOk y T V) (hm : qM ρ) : qOk y T (qC V ρ) := by
  have key : ∀ (π σ : lLc) (c : Nat × Nat), c.1 ≠ 0 → ¬ lP ρ π → qC V ρ (π ++ c :: σ) = V (π ++ c :: σ) := fun π σ c hc hn => qC_out (fun z => hn (qM_pre hm hc z))
  refine ⟨fun π t g hv => ?_, fun π σ j x hx => ?_, fun π σ g j x hx => ?_⟩
  · obtain ⟨hn, hv⟩ := qC_some hv
    obtain ⟨h1, h2, h3, h4, h5⟩ := h.1 _ t g hv
    refine ⟨h1, h2, h3, fun z σ u g1 g2 => ?_, fun z j hj σ u g1 g2 => ?_⟩
    · refine qQ_cg (h4 z σ u g1 g2) (fun τ => ?_)
      rw [List.append_assoc, List.append_assoc]
      exact key π (σ ++ τ) (1, 0) (by decide) hn
    · refine qQ_cg (h5 z j hj σ u g1 g2) (fun τ => ?_)
      rw [List.append_assoc, List.append_assoc]
      exact key π (σ ++ τ) (g + 2, j) (by show g + 2 ≠ 0; omega) hn
  · obtain ⟨hn, hx⟩ := qC_some hx
    obtain ⟨z, hz⟩ := h.2.1 π σ j x hx
    exact ⟨z, by rw [qC_out (fun q => hn (lP_tr q (lP_app π _)))]; exact hz⟩
  · obtain ⟨hn, hx⟩ := qC_some hx
    obtain ⟨t, hz⟩ := h.2.2 π σ g j x hx
    exact ⟨t, by rw [qC_out (fun q => hn (lP_tr q (lP_app π _)))]; exact hz⟩
/-- W in the place of what lies at ρ -/
def qG (V : qV) (ρ : lLc) (W : qV) : qV := fun π => match qD ρ π with | some σ => W σ | none => V π
theorem qG_in {V W : qV} {ρ σ : lLc} : qG V ρ W (ρ ++ σ) = W σ := by
  unfold qG; rw [qD_app]
theorem qG_out {V W : qV} {ρ π : lLc} (h : ¬ lP ρ π) : qG V ρ W π = V π := by
  unfold qG; rw [qD_no h]
theorem qD_two {ρ x : lLc} (h : ¬ lP ρ x) {σ : lLc} (h2 : lP ρ (x ++ σ)) : ∃ ρ1 σ1 : lLc, ρ = x ++ ρ1 ∧ σ = ρ1 ++ σ1 := by
  rcases lP_two h2 (lP_app x σ) with z | z
  · exact absurd z h
  · obtain ⟨ρ1, rfl⟩ := z
    obtain ⟨σ1, e⟩ := lP_shift h2
    exact ⟨ρ1, σ1, rfl, e⟩
/-- where V was whole it is whole still -/
theorem qF_G {y : qY} {T T1 U : Nat} {V W : qV} {ρ π : lLc} (hρ : qW y T ρ T1) (hW : qF y W [] T1) (hπ : qW y T π U) (hf : qF y V π U) (hn : ¬ lP ρ π ∨ ρ = π) : qF y (qG V ρ W) π U := by
  intro σ t g1 g2
  by_cases c : lP ρ (π ++ σ)
  · have hc : ∃ ρ1 σ1 : lLc, ρ = π ++ ρ1 ∧ σ = ρ1 ++ σ1 := by
      rcases hn with hn | hn
      · exact qD_two hn c
      · exact ⟨[], σ, by rw [hn, List.append_nil], rfl⟩
    obtain ⟨ρ1, σ1, rfl, rfl⟩ := hc
    have e1 : qW y U ρ1 T1 := qW_rest hρ hπ
    exact qQ_cg (hW σ1 t (qM_app.mp g1).2 (qW_rest g2 e1)) (fun τ => by rw [← List.append_assoc, List.append_assoc _ σ1 τ, qG_in]; rfl)
  · refine ⟨fun z => ?_, fun z => ?_⟩
    · rw [qG_out c]
      exact (hf σ t g1 g2).1 z
    · by_cases c2 : lP (π ++ σ) ρ
      · obtain ⟨s, e⟩ := c2
        obtain ⟨τ, x, hx⟩ := qF_pl hW
        rw [List.nil_append] at hx
        exact ⟨s ++ τ, x, by rw [← List.append_assoc, ← e, qG_in]; exact hx⟩
      · obtain ⟨τ, x, hx⟩ := (hf σ t g1 g2).2 z
        exact ⟨τ, x, by rw [qG_out (fun q => (lP_two q (lP_app (π ++ σ) τ)).elim c c2)]; exact hx⟩
theorem qOk_G {y : qY} {T T1 : Nat} {V W : qV} {ρ : lLc} (h : qOk y T V) (hρ : qW y T ρ T1) (hV : ∃ (σ : lLc) (x : Nat × Nat), V (ρ ++ σ) = some x) (hW : qFu y T1 W) : qOk y T (qG V ρ W) := by
  obtain ⟨σ0, x0, hx0⟩ := hV
  refine ⟨fun π t g hv => ?_, fun π σ j x hx => ?_, fun π σ g j x hx => ?_⟩
  · by_cases c : lP ρ π
    · obtain ⟨σ, rfl⟩ := c
      rw [qG_in] at hv
      obtain ⟨h1, h2, h3, h4, h5⟩ := hW.1.1 _ t g hv
      refine ⟨qW_app hρ h1, h2, h3, fun z σ2 u g1 g2 => ?_, fun z j hj σ2 u g1 g2 => ?_⟩
      · exact qQ_cg (h4 z σ2 u g1 g2) (fun τ => by rw [List.append_assoc, List.append_assoc, List.append_assoc, qG_in, List.append_assoc, List.append_assoc])
      · exact qQ_cg (h5 z j hj σ2 u g1 g2) (fun τ => by rw [List.append_assoc, List.append_assoc, List.append_assoc, qG_in, List.append_assoc, List.append_assoc])
    · rw [qG_out c] at hv
      obtain ⟨h1, h2, h3, h4, h5⟩ := h.1 _ t g hv
      have key : ∀ x : Nat × Nat, ¬ lP ρ (π ++ [x]) ∨ ρ = π ++ [x] := fun x => by
        by_cases e : lP ρ (π ++ [x])
        · obtain ⟨a, b, e1, e2⟩ := qD_two c e
          cases a with
          | nil => exact absurd ⟨[], by rw [e1]; simp⟩ c
          | cons a1 a2 =>
            injection e2 with e3 e4
            have e5 : a2 = [] := (List.append_eq_nil_iff.mp e4.symm).1
            subst e5; subst e3
            exact Or.inr e1
        · exact Or.inl e
      refine ⟨h1, h2, h3, fun z => ?_, fun z j hj => ?_⟩
      · exact qF_G hρ hW.2 (qW_app h1 (show qW y t [(1, 0)] (y.2.1 t) from ⟨rfl, z, rfl⟩)) (h4 z) (key _)
      · exact qF_G hρ hW.2 (qW_app h1 (show qW y t [(g + 2, j)] (y.2.2.2.2 t g j) from ⟨z, h3 z, hj, rfl⟩)) (h5 z j hj) (key _)
  · by_cases c : lP ρ π
    · obtain ⟨τ, rfl⟩ := c
      rw [List.append_assoc, qG_in] at hx
      obtain ⟨z, hz⟩ := hW.1.2.1 τ σ j x hx
      exact ⟨z, by rw [qG_in]; exact hz⟩
    · have : ∃ (σ : lLc) (x : Nat × Nat), V (π ++ (1, j) :: σ) = some x := by
        by_cases e : lP ρ (π ++ (1, j) :: σ)
        · obtain ⟨a, b, e1, e2⟩ := qD_two c e
          cases a with
          | nil => exact absurd ⟨[], by rw [e1]; simp⟩ c
          | cons a1 a2 =>
            injection e2 with e3 e4
            subst e3
            exact ⟨a2 ++ σ0, x0, by rw [e1, List.append_assoc] at hx0; exact hx0⟩
        · rw [qG_out e] at hx
          exact ⟨σ, x, hx⟩
      obtain ⟨σ1, x1, h1⟩ := this
      obtain ⟨z, hz⟩ := h.2.1 π σ1 j x1 h1
      exact ⟨z, by rw [qG_out c]; exact hz⟩
  · by_cases c : lP ρ π
    · obtain ⟨τ, rfl⟩ := c
      rw [List.append_assoc, qG_in] at hx
      obtain ⟨z, hz⟩ := hW.1.2.2 τ σ g j x hx
      exact ⟨z, by rw [qG_in]; exact hz⟩
    · have : ∃ (σ : lLc) (x : Nat × Nat), V (π ++ (g + 2, j) :: σ) = some x := by
        by_cases e : lP ρ (π ++ (g + 2, j) :: σ)
        · obtain ⟨a, b, e1, e2⟩ := qD_two c e
          cases a with
          | nil => exact absurd ⟨[], by rw [e1]; simp⟩ c
          | cons a1 a2 =>
            injection e2 with e3 e4
            subst e3
            exact ⟨a2 ++ σ0, x0, by rw [e1, List.append_assoc] at hx0; exact hx0⟩
        · rw [qG_out e] at hx
          exact ⟨σ, x, hx⟩
      obtain ⟨σ1, x1, h1⟩ := this
      obtain ⟨z, hz⟩ := h.2.2 π σ1 g j x1 h1
      exact ⟨z, by rw [qG_out c]; exact hz⟩
/-- grown at a way of members (nothing need lie there) -/
theorem qOk_Gm {y : qY} {T T1 : Nat} {V W : qV} {ρ : lLc} (h : qOk y T V) (hρ : qW y T ρ T1) (hm : qM ρ) (hW : qOk y T1 W) : qOk y T (qG V ρ W) := by
  have key : ∀ (π σ : lLc) (c : Nat × Nat), c.1 ≠ 0 → ¬ lP ρ π → qG V ρ W (π ++ c :: σ) = V (π ++ c :: σ) := fun π σ c hc hn => qG_out (fun z => hn (qM_pre hm hc z))
  refine ⟨fun π t g hv => ?_, fun π σ j x hx => ?_, fun π σ g j x hx => ?_⟩
  · by_cases c : lP ρ π
    · obtain ⟨σ, rfl⟩ := c
      rw [qG_in] at hv
      obtain ⟨h1, h2, h3, h4, h5⟩ := hW.1 _ t g hv
      refine ⟨qW_app hρ h1, h2, h3, fun z σ2 u g1 g2 => ?_, fun z j hj σ2 u g1 g2 => ?_⟩
      · exact qQ_cg (h4 z σ2 u g1 g2) (fun τ => by rw [List.append_assoc, List.append_assoc, List.append_assoc, qG_in, List.append_assoc, List.append_assoc])
      · exact qQ_cg (h5 z j hj σ2 u g1 g2) (fun τ => by rw [List.append_assoc, List.append_assoc, List.append_assoc, qG_in, List.append_assoc, List.append_assoc])
    · rw [qG_out c] at hv
      obtain ⟨h1, h2, h3, h4, h5⟩ := h.1 _ t g hv
      refine ⟨h1, h2, h3, fun z σ u g1 g2 => ?_, fun z j hj σ u g1 g2 => ?_⟩
      · refine qQ_cg (h4 z σ u g1 g2) (fun τ => ?_)
        rw [List.append_assoc, List.append_assoc]
        exact key π (σ ++ τ) (1, 0) (by decide) c
      · refine qQ_cg (h5 z j hj σ u g1 g2) (fun τ => ?_)
        rw [List.append_assoc, List.append_assoc]
        exact key π (σ ++ τ) (g + 2, j) (by show g + 2 ≠ 0; omega) c
  · by_cases c : lP ρ π
    · obtain ⟨τ, rfl⟩ := c
      rw [List.append_assoc, qG_in] at hx
      obtain ⟨z, hz⟩ := hW.2.1 τ σ j x hx
      exact ⟨z, by rw [qG_in]; exact hz⟩
    · rw [key π σ (1, j) (by show 1 ≠ 0; decide) c] at hx
      obtain ⟨z, hz⟩ := h.2.1 π σ j x hx
      exact ⟨z, by rw [qG_out c]; exact hz⟩
  · by_cases c : lP ρ π
    · obtain ⟨τ, rfl⟩ := c
      rw [List.append_assoc, qG_in] at hx
      obtain ⟨z, hz⟩ := hW.2.2 τ σ g j x hx
      exact ⟨z, by rw [qG_in]; exact hz⟩
    · rw [key π σ (g + 2, j) (by show g + 2 ≠ 0; omega) c] at hx
      obtain ⟨z, hz⟩ := h.2.2 π σ g j x hx
      exact ⟨z, by rw [qG_out c]; exact hz⟩
/-- a value of one cell -/
def qL (t : Nat) : qV := fun π => match π with | [] => some (t, 0) | _ :: _ => none
theorem qFu_L {y : qY} {t : Nat} (h2 : y.1 t ≠ 2) (h3 : y.1 t ≠ 3) (h4 : y.1 t ≠ 4) : qFu y t (qL t) := by
  refine ⟨⟨fun π u g hv => ?_, fun π σ j x hx => ?_, fun π σ g j x hx => ?_⟩, fun ρ u g1 g2 => ?_⟩
  · cases π with
    | nil =>
      have e : some (t, 0) = some (u, g) := hv
      injection e with e; injection e with e1 e2
      subst e1
      exact ⟨rfl, h2, fun z => absurd z h3, fun z => absurd z h4, fun z => absurd z h3⟩
    | cons a b => exact absurd (show none = some _ from hv) (by simp)
  · cases π <;> exact absurd (show none = some _ from hx) (by simp)
  · cases π <;> exact absurd (show none = some _ from hx) (by simp)
  · cases ρ with
    | nil => exact ⟨fun _ => ⟨(t, 0), rfl⟩, fun _ => qPl_of (x := (t, 0)) rfl⟩
    | cons a b =>
      obtain ⟨a1, a2⟩ := a
      have ha : a1 = 0 := (qM_cons.mp g1).1
      subst ha
      exact absurd g2.1 h2
/-- boxed -/
def qB (t : Nat) (V : qV) : qV := fun π => match π with | [] => some (t, 0) | (q, j) :: σ => if q = 1 ∧ j = 0 then V σ else none
theorem qFu_B {y : qY} {t : Nat} {V : qV} (h4 : y.1 t = 4) (h : qFu y (y.2.1 t) V) : qFu y t (qB t V) := by
  have e1 : ∀ σ : lLc, qB t V ((1, 0) :: σ) = V σ := fun σ => (if_pos ⟨rfl, rfl⟩ : (if (1 : Nat) = 1 ∧ (0 : Nat) = 0 then V σ else none) = V σ)
  have e2 : ∀ (q j : Nat) (σ : lLc) (x : Nat × Nat), qB t V ((q, j) :: σ) = some x → q = 1 ∧ j = 0 ∧ V σ = some x := fun q j σ x hx => by
    have hx : (if q = 1 ∧ j = 0 then V σ else none) = some x := hx
    by_cases c : q = 1 ∧ j = 0
    · rw [if_pos c] at hx; exact ⟨c.1, c.2, hx⟩
    · rw [if_neg c] at hx; exact absurd hx (by simp)
  refine ⟨⟨fun π u g hv => ?_, fun π σ j x hx => ?_, fun π σ g j x hx => ?_⟩, fun ρ u g1 g2 => ?_⟩
  · cases π with
    | nil =>
      have e : some (t, 0) = some (u, g) := hv
      injection e with e; injection e with e3 e4
      subst e3
      exact ⟨rfl, by rw [h4]; decide, fun z => absurd (h4.symm.trans z) (by decide), fun z ρ w g1 g2 => qQ_cg (h.2 ρ w g1 g2) (fun τ => e1 (ρ ++ τ)), fun z => absurd (h4.symm.trans z) (by decide)⟩
    | cons a π =>
      obtain ⟨q, j⟩ := a
      obtain ⟨rfl, rfl, hv⟩ := e2 _ _ _ _ hv
      obtain ⟨h1, h2, h3, h5, h6⟩ := h.1.1 _ u g hv
      refine ⟨⟨rfl, h4, h1⟩, h2, h3, fun z ρ w g1 g2 => ?_, fun z j hj ρ w g1 g2 => ?_⟩
      · exact qQ_cg (h5 z ρ w g1 g2) (fun τ => e1 _)
      · exact qQ_cg (h6 z j hj ρ w g1 g2) (fun τ => e1 _)
  · cases π with
    | nil => exact ⟨(t, 0), rfl⟩
    | cons a π =>
      obtain ⟨q, i⟩ := a
      obtain ⟨rfl, rfl, hx⟩ := e2 _ _ _ _ hx
      obtain ⟨z, hz⟩ := h.1.2.1 π σ j x hx
      exact ⟨z, (e1 π).trans hz⟩
  · cases π with
    | nil =>
      obtain ⟨c, -, -⟩ := e2 _ _ _ _ hx
      omega
    | cons a π =>
      obtain ⟨q, i⟩ := a
      obtain ⟨rfl, rfl, hx⟩ := e2 _ _ _ _ hx
      obtain ⟨z, hz⟩ := h.1.2.2 π σ g j x hx
      exact ⟨z, (e1 π).trans hz⟩
  · cases ρ with
    | nil => exact ⟨fun _ => ⟨(t, 0), rfl⟩, fun _ => qPl_of (x := (t, 0)) rfl⟩
    | cons a b =>
      obtain ⟨a1, a2⟩ := a
      have ha : a1 = 0 := (qM_cons.mp g1).1
      subst ha
      exact absurd (h4.symm.trans g2.1) (by decide)
/-- variant g of parts V -/
def qE (t g n : Nat) (V : Nat → qV) : qV := fun π => match π with | [] => some (t, g) | (q, j) :: σ => if q = g + 2 ∧ j < n then V j σ else none
theorem qFu_E {y : qY} {t g : Nat} {V : Nat → qV} (h4 : y.1 t = 3) (hg : g < y.2.2.1 t) (h : ∀ j : Nat, j < y.2.2.2.1 t g → qFu y (y.2.2.2.2 t g j) (V j)) : qFu y t (qE t g (y.2.2.2.1 t g) V) := by
  have e1 : ∀ (j : Nat) (σ : lLc), j < y.2.2.2.1 t g → qE t g (y.2.2.2.1 t g) V ((g + 2, j) :: σ) = V j σ := fun j σ hj => (if_pos ⟨rfl, hj⟩ : (if g + 2 = g + 2 ∧ j < y.2.2.2.1 t g then V j σ else none) = V j σ)
  have e2 : ∀ (q j : Nat) (σ : lLc) (x : Nat × Nat), qE t g (y.2.2.2.1 t g) V ((q, j) :: σ) = some x → q = g + 2 ∧ j < y.2.2.2.1 t g ∧ V j σ = some x := fun q j σ x hx => by
    have hx : (if q = g + 2 ∧ j < y.2.2.2.1 t g then V j σ else none) = some x := hx
    by_cases c : q = g + 2 ∧ j < y.2.2.2.1 t g
    · rw [if_pos c] at hx; exact ⟨c.1, c.2, hx⟩
    · rw [if_neg c] at hx; exact absurd hx (by simp)
  refine ⟨⟨fun π u g1 hv => ?_, fun π σ j x hx => ?_, fun π σ g1 j x hx => ?_⟩, fun ρ u g1 g2 => ?_⟩
  · cases π with
    | nil =>
      have e : some (t, g) = some (u, g1) := hv
      injection e with e; injection e with e3 e4
      subst e3; subst e4
      exact ⟨rfl, by rw [h4]; decide, fun _ => hg, fun z => absurd (h4.symm.trans z) (by decide), fun z j hj ρ w g1 g2 => qQ_cg ((h j hj).2 ρ w g1 g2) (fun τ => e1 j (ρ ++ τ) hj)⟩
    | cons a π =>
      obtain ⟨q, j⟩ := a
      obtain ⟨rfl, hj, hv⟩ := e2 _ _ _ _ hv
      obtain ⟨h1, h2, h3, h5, h6⟩ := (h j hj).1.1 _ u g1 hv
      refine ⟨⟨h4, hg, hj, h1⟩, h2, h3, fun z ρ w g1 g2 => ?_, fun z j2 hj2 ρ w g1 g2 => ?_⟩
      · exact qQ_cg (h5 z ρ w g1 g2) (fun τ => e1 j _ hj)
      · exact qQ_cg (h6 z j2 hj2 ρ w g1 g2) (fun τ => e1 j _ hj)
  · cases π with
    | nil => exact ⟨(t, g), rfl⟩
    | cons a π =>
      obtain ⟨q, i⟩ := a
      obtain ⟨rfl, hi, hx⟩ := e2 _ _ _ _ hx
      obtain ⟨z, hz⟩ := (h i hi).1.2.1 π σ j x hx
      exact ⟨z, (e1 i π hi).trans hz⟩
  · cases π with
    | nil =>
      obtain ⟨c, -, -⟩ := e2 _ _ _ _ hx
      obtain rfl : g1 = g := by omega
      exact ⟨t, rfl⟩
    | cons a π =>
      obtain ⟨q, i⟩ := a
      obtain ⟨rfl, hi, hx⟩ := e2 _ _ _ _ hx
      obtain ⟨z, hz⟩ := (h i hi).1.2.2 π σ g1 j x hx
      exact ⟨z, (e1 i π hi).trans hz⟩
  · cases ρ with
    | nil => exact ⟨fun _ => ⟨(t, g), rfl⟩, fun _ => qPl_of (x := (t, g)) rfl⟩
    | cons a b =>
      obtain ⟨a1, a2⟩ := a
      have ha : a1 = 0 := (qM_cons.mp g1).1
      subst ha
      exact absurd (h4.symm.trans g2.1) (by decide)
