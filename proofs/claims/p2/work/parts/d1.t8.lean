/-- members and stars alone -/
def qMs (π : lLc) : Prop := ∀ x : Nat × Nat, x ∈ π → x.1 = 0 ∨ x.1 = 1
theorem qMs_cons {x : Nat × Nat} {a : lLc} : qMs (x :: a) ↔ (x.1 = 0 ∨ x.1 = 1) ∧ qMs a := by
  constructor
  · intro h
    exact ⟨h x (List.mem_cons_self ..), fun z hz => h z (List.mem_cons_of_mem x hz)⟩
  · intro h z hz
    rcases List.mem_cons.mp hz with e | e
    · rw [e]; exact h.1
    · exact h.2 z e
theorem qMs_M {π : lLc} (h : qM π) : qMs π := fun x hx => Or.inl (h x hx)
/-- behind a whole value's members and stars lie whole values -/
theorem qF_path {y : qY} {T0 : Nat} {V : qV} (h : qOk y T0 V) : ∀ {ρ π : lLc} {T t : Nat}, qW y T0 π T → qF y V π T → qW y T ρ t → qMs ρ → qF y V (π ++ ρ) t
  | [], π, T, t, _, hf, hρ, _ => by
    obtain rfl := (show _ = _ from hρ)
    rw [List.append_nil]; exact hf
  | (0, j) :: ρ, π, T, t, hπ, hf, hρ, hm => by
    have h1 : qW y T [(0, j)] (y.2.2.2.2 T 0 j) := ⟨hρ.1, hρ.2.1, rfl⟩
    have := qF_path h (ρ := ρ) (qW_app hπ h1) (qF_in hf (fun x hx => by rw [List.mem_singleton.mp hx]) h1) hρ.2.2 (qMs_cons.mp hm).2
    rw [List.append_assoc] at this; exact this
  | (1, j) :: ρ, π, T, t, hπ, hf, hρ, hm => by
    obtain ⟨rfl, h4, hρ⟩ := hρ
    obtain ⟨⟨t1, g1⟩, hx⟩ := (hf [] T qM_nil rfl).1 (by rw [h4]; decide)
    rw [List.append_nil] at hx
    obtain ⟨w1, w2, w3, w4, w5⟩ := h.1 π t1 g1 hx
    obtain rfl := qW_det w1 hπ
    have := qF_path h (ρ := ρ) (qW_app hπ (show qW y t1 [(1, 0)] (y.2.1 t1) from ⟨rfl, h4, rfl⟩)) (w4 h4) hρ (qMs_cons.mp hm).2
    rw [List.append_assoc] at this; exact this
  | (g + 2, j) :: ρ, _, _, _, _, _, _, hm => by
    have := (qMs_cons.mp hm).1
    omega
/-- where a reference leads: a whole value of type T -/
def qTg (y : qY) (rt : Nat × Nat → Nat) (V : Nat × Nat → qV) (a : lLc) (T : Nat) : Prop := ∃ (r : Nat × Nat) (π : lLc), a = r :: π ∧ r.2 < 40 ∧ qW y (rt r) π T ∧ qF y (V r) π T
theorem qTg_eq {y : qY} {rt rt2 : Nat × Nat → Nat} {V V2 : Nat × Nat → qV} {a : lLc} {T : Nat} (h : qTg y rt V a T) (e : ∀ (r : Nat × Nat) (π : lLc), a = r :: π → qPl (V r) π → r.2 < 40 → V2 r = V r ∧ rt2 r = rt r) : qTg y rt2 V2 a T := by
  obtain ⟨r, π, h1, h2, h3, h4⟩ := h
  obtain ⟨e1, e2⟩ := e r π h1 (qF_pl h4) h2
  exact ⟨r, π, h1, h2, by rw [e2]; exact h3, by rw [e1]; exact h4⟩
theorem qF_C {y : qY} {V : qV} {π σ : lLc} {T : Nat} (h : qF y V π T) (hn : ¬ lCmp π σ) : qF y (qC V σ) π T := fun ρ t g1 g2 => qQ_cg (h ρ t g1 g2) (fun τ => qC_out (fun q => hn (lCmp_sym (lP_two q (by rw [List.append_assoc]; exact lP_app π (ρ ++ τ))))))
theorem qTg_C {y : qY} {rt : Nat × Nat → Nat} {V : Nat × Nat → qV} {a : lLc} {T : Nat} {s : Nat × Nat} {σ : lLc} (h : qTg y rt V a T) (hn : ¬ lCmp a (s :: σ)) : qTg y rt (qUp V s (qC (V s) σ)) a T := by
  obtain ⟨r, π, h1, h2, h3, h4⟩ := h
  refine ⟨r, π, h1, h2, h3, ?_⟩
  by_cases e : r = s
  · subst e
    rw [qUp_eq]
    refine qF_C h4 (fun q => hn ?_)
    rw [h1]
    exact q.imp lP_consI lP_consI
  · rw [qUp_ne e]; exact h4
theorem qTg_G {y : qY} {rt : Nat × Nat → Nat} {V : Nat × Nat → qV} {W : qV} {a : lLc} {T T1 : Nat} {d : Nat × Nat} {ρ : lLc} (h : qTg y rt V a T) (hρ : qW y (rt d) ρ T1) (hW : qF y W [] T1) (hn : lCmp a (d :: ρ) → lP a (d :: ρ)) : qTg y rt (qUp V d (qG (V d) ρ W)) a T := by
  obtain ⟨r, π, h1, h2, h3, h4⟩ := h
  refine ⟨r, π, h1, h2, h3, ?_⟩
  by_cases e : r = d
  · subst e
    rw [qUp_eq]
    refine qF_G hρ hW h3 h4 ?_
    by_cases c : lP ρ π
    · have := hn (Or.inr (by rw [h1]; exact lP_consI c))
      rw [h1] at this
      exact Or.inr (lP_anti c (lP_cons this).2)
    · exact Or.inl c
  · rw [qUp_ne e]; exact h4
/-- frames by number: loans, holders, what outer loans lead to -/
def kSk (f : Nat) (tb : Nat → lTb) (An : Nat → Nat → lLc → Nat → Prop) (fr : Nat → lFr) : Prop := (∀ j : Nat, j ≤ f → lIv j (tb j) (An j) (fr j)) ∧ (∀ (o : Nat) (e : lLc) (q : Nat), ¬ An 0 o e q) ∧ ∀ j : Nat, j < f → ∀ (o : Nat) (e : lLc) (q : Nat), An (j + 1) o e q → ∃ t : Nat, 40 ≤ t ∧ (fr j).2.1 t ∧ (fr j).1 t = some e ∧ (q = 1 → (fr j).2.2.2 t)
/-- what is used in a caller and is comparable with a unique reference of frame f lies above it -/
theorem kUp {tb : Nat → lTb} {An : Nat → Nat → lLc → Nat → Prop} {fr : Nat → lFr} : ∀ {f : Nat}, kSk f tb An fr → ∀ {r : Nat} {b : lLc}, (fr f).2.1 r → (fr f).1 r = some b → (fr f).2.2.2 r → ∀ {j : Nat}, j < f → ∀ {u : Nat} {a : lLc}, (fr j).2.1 u → (fr j).1 u = some a → lCmp a b → lP a b
  | 0, _, _, _, _, _, _, j, hj, _, _, _, _, _ => absurd hj (Nat.not_lt_zero j)
  | f + 1, h, r, b, hr, hb, hU, j, hj, u, a, hu, ha, hc => by
    have hy := h.1 j (by omega)
    obtain ⟨i, v, w, rfl, hi⟩ := lIv_fr hy hu ha
    rcases (h.1 (f + 1) (Nat.le_refl _)).1 r b hr hb with ⟨l, g1, g2, g3, g4, g5⟩ | ⟨o, e2, q, g1, g2, g3, g4, g5, g6⟩
    · obtain ⟨e3, -⟩ := lCmp_cons (lCmp_pre g4 (lCmp_sym hc))
      injection e3 with e4 e5
      omega
    · obtain ⟨t, t1, t2, t3, t4⟩ := h.2.2 f (Nat.lt_succ_self f) o e2 q g3
      have hc2 := lCmp_sym (lCmp_pre g4 (lCmp_sym hc))
      have hq : (fr f).2.2.2 t := t4 (g5 hU)
      by_cases ej : j = f
      · subst ej
        by_cases eu : u = t
        · subst eu
          obtain e6 := Option.some.inj (t3.symm.trans ha)
          rw [← e6]
          exact g4
        · rcases hy.2 t u e2 _ (fun q => eu q.symm) t2 hu t3 ha (Or.inl hq) (lCmp_sym hc2) with x1 | x1
          · exact lP_tr (lRt_up x1) g4
          · exact absurd x1.1 (by omega)
      · exact lP_tr (kUp (f := f) ⟨fun j hj => h.1 j (by omega), h.2.1, fun j hj => h.2.2 j (by omega)⟩ t2 t3 hq (j := j) (by omega) hu ha hc2) g4
/-- the latest frame alone is told anew -/
theorem kSk_top {f : Nat} {tb : Nat → lTb} {An : Nat → Nat → lLc → Nat → Prop} {fr fr2 : Nat → lFr} (h : kSk f tb An fr) (hf : ∀ j : Nat, j < f → fr2 j = fr j) (hn : lIv f (tb f) (An f) (fr2 f)) : kSk f tb An fr2 := by
  refine ⟨fun j hj => ?_, h.2.1, fun j hj o e q ho => ?_⟩
  · by_cases ej : j = f
    · subst ej; exact hn
    · rw [hf j (by omega)]; exact h.1 j hj
  · rw [hf j hj]
    exact h.2.2 j hj o e q ho
