/-- less is used ahead, more may be held, more may be without a value -/
theorem kJ_wk {y : qY} {vt : Nat → Nat → Nat} {tb : Nat → lTb} {f : Nat} {x : Nat → kFm} {rt : Nat × Nat → Nat} {V : Nat × Nat → qV} (h : kJ y vt tb f x rt V) {H2 : Nat → Nat → Prop} {al2 : Nat → Prop} {lo2 : Nat → lLc → Prop} (hn : (x f).2.2.1 = 0) (hH : ∀ (u : Nat) (a : lLc) (l : Nat), kR (x f) u = some a → kH (x f) u l → H2 u l) (hal : ∀ u : Nat, al2 u → kal (x f) u) (hlo : ∀ (v : Nat) (π : lLc), v < 40 → (8, v, 0) ∈ (x f).2.1 → klo (x f) v π → lo2 v π) : kJ y vt tb f (kUx x f ((x f).1, (x f).2.1, 0, kR (x f), H2, al2, lo2, kAn (x f))) rt V := by
  have hw := h
  obtain ⟨h0, h1, h2, h3, h4, h5, h6, h7, h8⟩ := h
  have hA : ∀ u : Nat, kA ((x f).1, (x f).2.1, 0, kR (x f), H2, al2, lo2, kAn (x f)) u → kA (x f) u := fun u hu => by
    rcases hu with ⟨a, b⟩ | ⟨a, b⟩
    · exact Or.inl ⟨a, hal u b⟩
    · exact Or.inr ⟨a, by rw [hn]; exact b⟩
  have hf := Nat.le_refl f
  refine kJ_top hw _ rfl rfl (fun j u hj => ⟨rfl, rfl⟩) (fun u => h0 (f, u)) (lIv_mono2 (h1.1 f hf) (fun u a hu ha => ⟨hA u hu, ha⟩) (fun u a l _ ha hl => hH u a l ha hl) (fun u a _ _ => Iff.rfl)) (fun u a hu ha => h2 f hf u a (hA u hu) ha) (fun u t g hv hk hu => h3 f hf u t g hv hk (hA u hu)) (kK_cg (h4 f hf) (fun u _ => ⟨rfl, rfl, rfl⟩)) (fun u π z hz => (h5 f u π z hz).2) (fun v v4 hv => ⟨(h6 f hf v v4 hv).1, fun π T g1 g2 g3 => (h6 f hf v v4 hv).2 π T g1 g2 (fun q => g3 (hlo v π v4 hv q))⟩) (fun r m => ?_) (h8 f hf)
  have go : ∀ q : Nat, kPm y rt V f (tb (x f).1) (x f) q r m → kPm y rt V f (tb (x f).1) ((x f).1, (x f).2.1, 0, kR (x f), H2, al2, lo2, kAn (x f)) q r m := fun q hq => by
    have hq2 := hq
    obtain ⟨a0, π, p1, -⟩ := hq2
    exact kPm_cg hq rfl (fun u b a1 a2 => ⟨hA u a1, a2⟩) (fun _ _ _ _ => rfl) (fun l hl => hH 300 _ l p1 hl) rfl (fun _ _ _ _ => ⟨rfl, rfl⟩)
  exact ⟨fun z => go 5 ((h7 f hf r m).1 z).2, fun z => go 6 ((h7 f hf r m).2 z).2⟩
/-- the variables' roots change so that all places that are led to stay whole -/
theorem kJ_var {y : qY} {vt : Nat → Nat → Nat} {tb : Nat → lTb} {f : Nat} {x : Nat → kFm} {rt rt2 : Nat × Nat → Nat} {V V2 : Nat × Nat → qV} (h : kJ y vt tb f x rt V) {S2 : List tE} {R2 : Nat → Option lLc} {H2 : Nat → Nat → Prop} {al2 : Nat → Prop} {lo2 : Nat → lLc → Prop} (hn : (x f).2.2.1 = 0) (e1 : ∀ j u : Nat, j ≠ f ∨ 40 ≤ u → rt2 (j, u) = rt (j, u) ∧ V2 (j, u) = V (j, u)) (hR : ∀ u : Nat, 40 ≤ u → R2 u = kR (x f) u) (hS : ∃ O : List tE, (∀ e : tE, e ∈ O → ∃ v : Nat, e = (8, v, 0)) ∧ ((x f).2.1 = O ++ S2 ∨ S2 = O ++ (x f).2.1)) (hmt : ∀ r m : Nat, (5, r, m) ∉ (x f).2.1 ∧ (6, r, m) ∉ (x f).2.1) (q : ∀ u : Nat, u < 40 → qOk y (rt2 (f, u)) (V2 (f, u))) (l : lIv f (tb (x f).1) (kAn (x f)) (kfr y rt2 f ((x f).1, S2, 0, R2, H2, al2, lo2, kAn (x f)))) (c2 : ∀ (u : Nat) (a : lLc), kA ((x f).1, S2, 0, R2, H2, al2, lo2, kAn (x f)) u → R2 u = some a → qTr y rt2 V2 f u a) (c3 : ∀ (u t g : Nat), u < 40 → V2 (f, u) [] = some (t, g) → (y.1 t = 5 ∨ y.1 t = 6) → al2 u → ∃ a : lLc, R2 u = some a) (c5 : ∀ (u : Nat) (π : lLc) (z : Nat × Nat), u < 40 → V2 (f, u) π = some z → (8, u, 0) ∈ S2 ∧ rt2 (f, u) = vt (x f).1 u) (c6 : ∀ v : Nat, v < 40 → (8, v, 0) ∈ S2 → rt2 (f, v) = vt (x f).1 v ∧ ∀ (π : lLc) (T : Nat), qM π → qW y (vt (x f).1 v) π T → ¬ lo2 v π → qQ y (V2 (f, v)) π T) : kJ y vt tb f (kUx x f ((x f).1, S2, 0, R2, H2, al2, lo2, kAn (x f))) rt2 V2 := by
  have hw := h
  obtain ⟨h0, h1, h2, h3, h4, h5, h6, h7, h8⟩ := h
  have hf := Nat.le_refl f
  obtain ⟨O, hO, hS⟩ := hS
  have wO : wl O = 0 := by
    clear hS
    induction O with
    | nil => rfl
    | cons e O ih =>
      obtain ⟨v, rfl⟩ := hO _ (List.mem_cons_self ..)
      rw [wl_0 (Or.inl rfl)]
      exact ih (fun e he => hO e (List.mem_cons_of_mem _ he))
  have wS : wl S2 = wl (x f).2.1 := by
    rcases hS with e | e
    · rw [e, wl_app, wO]; omega
    · rw [e, wl_app, wO]; omega
  have mem : ∀ e : tE, e.1 ≠ 8 → (e ∈ S2 ↔ e ∈ (x f).2.1) := fun e he => by
    have hOn : e ∉ O := fun q => by
      obtain ⟨v, rfl⟩ := hO e q
      exact he rfl
    rcases hS with z | z
    · rw [z, List.mem_append]
      exact ⟨Or.inr, fun q => q.resolve_left hOn⟩
    · rw [z, List.mem_append]
      exact ⟨fun q => q.resolve_left hOn, Or.inr⟩
  have hA4 : ∀ u : Nat, 40 ≤ u → kA ((x f).1, S2, 0, R2, H2, al2, lo2, kAn (x f)) u → kA (x f) u := fun u h4 hu => by
    rcases hu with ⟨a, b⟩ | ⟨a, b⟩
    · omega
    · have b : u < 40 + wl S2 + 0 := b
      exact Or.inr ⟨a, by omega⟩
  have kk : kK y rt2 V2 f ((x f).1, S2, 0, R2, H2, al2, lo2, kAn (x f)) S2 := by
    have k0 : kK y rt2 V2 f ((x f).1, S2, 0, R2, H2, al2, lo2, kAn (x f)) (x f).2.1 := kK_cg (h4 f hf) (fun u hu => by
      have h4 : 40 ≤ u := by omega
      exact ⟨(e1 f u (Or.inr h4)).1, (e1 f u (Or.inr h4)).2, hR u h4⟩)
    rcases hS with e | e
    · rw [e] at k0
      clear wO mem hO e
      induction O with
      | nil => exact k0
      | cons e O ih => exact ih k0.2
    · have gen : ∀ (X : kFm) (O2 S : List tE), (∀ e : tE, e ∈ O2 → ∃ v : Nat, e = (8, v, 0)) → kK y rt2 V2 f X S → kK y rt2 V2 f X (O2 ++ S) := fun X O2 S hO2 hS => by
        induction O2 with
        | nil => exact hS
        | cons e O2 ih =>
          obtain ⟨v, rfl⟩ := hO2 _ (List.mem_cons_self ..)
          exact ⟨trivial, ih (fun e he => hO2 e (List.mem_cons_of_mem _ he))⟩
      have := gen _ O _ hO k0
      rw [← e] at this
      exact this
  refine kJ_top hw _ rfl rfl (fun j u hj => e1 j u (Or.inl hj)) (fun u => ?_) l c2 (fun u t g hv hk hu => ?_) kk (fun u π z hz => ?_) c6 (fun r m => ?_) (by show wl S2 ≤ 211; rw [wS]; exact h8 f hf)
  · by_cases c : u < 40
    · exact q u c
    · rw [(e1 f u (Or.inr (by omega))).1, (e1 f u (Or.inr (by omega))).2]; exact h0 (f, u)
  · by_cases c : u < 40
    · rcases hu with ⟨a, b⟩ | ⟨a, b⟩
      · exact c3 u t g c hv hk b
      · omega
    · rw [(e1 f u (Or.inr (by omega))).2] at hv
      show ∃ a : lLc, R2 u = some a
      rw [hR u (by omega)]
      exact h3 f hf u t g hv hk (hA4 u (by omega) hu)
  · by_cases c : u < 40
    · obtain ⟨k1, k2⟩ := c5 u π z c hz
      exact ⟨Or.inl ⟨c, k1⟩, fun _ => k2⟩
    · rw [(e1 f u (Or.inr (by omega))).2] at hz
      obtain ⟨-, k1, k2⟩ := h5 f u π z hz
      refine ⟨?_, fun q => absurd q c⟩
      rcases k1 with ⟨a, b⟩ | ⟨a, b⟩ | ⟨a, r, m, b⟩ | ⟨r, m, i, a, b⟩
      · exact absurd a c
      · exact Or.inr (Or.inl ⟨a, by show u < 40 + wl S2; omega⟩)
      · exact absurd b (by rintro (z | z); exact (hmt r m).1 z; exact (hmt r m).2 z)
      · exact Or.inr (Or.inr (Or.inr ⟨r, m, i, (mem _ (by show (4 : Nat) ≠ 8; decide)).mpr a, b⟩))
  · exact ⟨fun z => absurd ((mem _ (by show (5 : Nat) ≠ 8; decide)).mp z) (hmt r m).1, fun z => absurd ((mem _ (by show (6 : Nat) ≠ 8; decide)).mp z) (hmt r m).2⟩
