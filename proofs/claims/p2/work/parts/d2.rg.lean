def kCv (V : Nat × Nat → qV) (f v0 v1 : Nat) : Nat × Nat → qV := fun r => if r.1 = f ∧ v0 ≤ r.2 ∧ r.2 < v1 then fun _ => none else V r
theorem kCv_in {V : Nat × Nat → qV} {f v0 v1 u : Nat} (h1 : v0 ≤ u) (h2 : u < v1) : kCv V f v0 v1 (f, u) = fun _ => none := by
  unfold kCv; rw [if_pos ⟨rfl, h1, h2⟩]
theorem kCv_out {V : Nat × Nat → qV} {f v0 v1 j u : Nat} (h : j ≠ f ∨ u < v0 ∨ v1 ≤ u) : kCv V f v0 v1 (j, u) = V (j, u) := by
  unfold kCv; rw [if_neg]
  intro z
  have h1 : j = f := z.1
  have h2 : v0 ≤ u := z.2.1
  have h3 : u < v1 := z.2.2
  omega
/-- variables from v0 to v1 go out of scope -/
theorem kJ_scp {y : qY} {vt : Nat → Nat → Nat} {tb : Nat → lTb} {f : Nat} {x : Nat → kFm} {rt : Nat × Nat → Nat} {V : Nat × Nat → qV} (h : kJ y vt tb f x rt V) {v0 v1 : Nat} {O S2 : List tE} {H2 : Nat → Nat → Prop} {al2 : Nat → Prop} {lo2 : Nat → lLc → Prop} (hn : (x f).2.2.1 = 0) (hv4 : v1 ≤ 40) (hmt : ∀ r m : Nat, (5, r, m) ∉ (x f).2.1 ∧ (6, r, m) ∉ (x f).2.1) (hS : (x f).2.1 = O ++ S2) (hO : ∀ e : tE, e ∈ O → ∃ v : Nat, e = (8, v, 0) ∧ v0 ≤ v ∧ v < v1) (hS2 : ∀ v : Nat, v0 ≤ v → v < v1 → (8, v, 0) ∉ S2) (hal : ∀ u : Nat, u < v0 ∨ v1 ≤ u → al2 u → kal (x f) u) (hH : ∀ (u l : Nat), u < v0 ∨ v1 ≤ u → kH (x f) u l → H2 u l) (hlo : ∀ (w : Nat) (π : lLc), (8, w, 0) ∈ S2 → ¬ lo2 w π → ¬ klo (x f) w π) (hc : ∀ (u : Nat) (b : lLc), ((u < 40 ∧ al2 u) ∨ (40 ≤ u ∧ u < 40 + wl (x f).2.1)) → (u < v0 ∨ v1 ≤ u) → kR (x f) u = some b → ∀ (v : Nat) (π : lLc), v0 ≤ v → v < v1 → b ≠ (f, v) :: π) : kJ y vt tb f (kUx x f ((x f).1, S2, 0, (fun u => if v0 ≤ u ∧ u < v1 then none else kR (x f) u), H2, al2, lo2, kAn (x f))) rt (kCv V f v0 v1) := by
  have hw := h
  obtain ⟨h0, h1, h2, h3, h4, h5, h6, h7, h8⟩ := h
  have hf := Nat.le_refl f
  have hR : ∀ (u : Nat) (b : lLc), (if v0 ≤ u ∧ u < v1 then none else kR (x f) u) = some b → (u < v0 ∨ v1 ≤ u) ∧ kR (x f) u = some b := fun u b hb => by
    by_cases c : v0 ≤ u ∧ u < v1
    · rw [if_pos c] at hb; simp at hb
    · rw [if_neg c] at hb; exact ⟨by omega, hb⟩
  have wO : wl O = 0 := by
    clear hS
    induction O with
    | nil => rfl
    | cons e O ih =>
      obtain ⟨v, rfl, -⟩ := hO _ (List.mem_cons_self ..)
      rw [wl_0 (Or.inl rfl)]
      exact ih (fun e he => hO e (List.mem_cons_of_mem _ he))
  have wS : wl S2 = wl (x f).2.1 := by rw [hS, wl_app, wO]; omega
  have hA : ∀ u : Nat, (u < v0 ∨ v1 ≤ u) → kA ((x f).1, S2, 0, (fun u => if v0 ≤ u ∧ u < v1 then none else kR (x f) u), H2, al2, lo2, kAn (x f)) u → kA (x f) u := fun u hr hu => kA_al wS hn hu (hal u hr)
  refine kJ_var hw hn (fun j u hj => ⟨rfl, kCv_out (by omega)⟩) (fun u hu => if_neg (by omega)) ⟨O, fun e he => by obtain ⟨v, e1, -⟩ := hO e he; exact ⟨v, e1⟩, Or.inl hS⟩ hmt (fun u hu => ?_) (lIv_mono2 (h1.1 f hf) (fun u a hu ha => ⟨hA u (hR u a ha).1 hu, (hR u a ha).2⟩) (fun u a l _ ha hl => hH u l (hR u a ha).1 hl) (fun u a _ _ => Iff.rfl)) (fun u a hu ha => ?_) (fun u t g u4 hv hk hu => ?_) (fun u π z u4 hz => ?_) (fun w w4 hw2 => ?_)
  · by_cases c : v0 ≤ u ∧ u < v1
    · rw [kCv_in c.1 c.2]; exact qOk_none
    · rw [kCv_out (by omega)]; exact h0 (f, u)
  · obtain ⟨k1, k2⟩ := hR u a ha
    refine ⟨(h2 f hf u a (hA u k1 hu) k2).1, qTg_eq (h2 f hf u a (hA u k1 hu) k2).2 (fun r π e _ _ => ⟨?_, rfl⟩)⟩
    obtain ⟨j, v⟩ := r
    refine kCv_out ?_
    by_cases c : j = f ∧ v0 ≤ v ∧ v < v1
    · refine absurd (by rw [← c.1]; exact e) (hc u a ?_ k1 k2 v π c.2.1 c.2.2)
      rcases hu with q | ⟨q1, q2⟩
      · exact Or.inl q
      · exact Or.inr ⟨q1, by have q2 : u < 40 + wl S2 + 0 := q2; omega⟩
    · omega
  · by_cases c : v0 ≤ u ∧ u < v1
    · rw [kCv_in c.1 c.2] at hv; simp at hv
    · rw [kCv_out (by omega)] at hv
      rw [if_neg c]
      exact h3 f hf u t g hv hk (Or.inl ⟨u4, hal u (by omega) hu⟩)
  · by_cases c : v0 ≤ u ∧ u < v1
    · rw [kCv_in c.1 c.2] at hz; simp at hz
    · rw [kCv_out (by omega)] at hz
      obtain ⟨-, k1, k2⟩ := h5 f u π z hz
      refine ⟨?_, k2 u4⟩
      rcases k1 with ⟨a, b⟩ | ⟨a, b⟩ | ⟨a, b⟩ | ⟨r, m, i, a, b, c⟩
      · rw [hS] at b
        rcases List.mem_append.mp b with q | q
        · obtain ⟨v, e, e1, e2⟩ := hO _ q
          injection e with e3 e4
          injection e4 with e5 e6
          omega
        · exact q
      · omega
      · omega
      · omega
  · have hw3 : (8, w, 0) ∈ (x f).2.1 := by rw [hS]; exact List.mem_append_right _ hw2
    have q := h6 f hf w w4 hw3
    refine ⟨q.1, fun π T g1 g2 g3 => ?_⟩
    have c : ¬ (v0 ≤ w ∧ w < v1) := fun c => hS2 w c.1 c.2 hw2
    rw [kCv_out (by omega)]
    exact q.2 π T g1 g2 (hlo w π hw2 g3)
