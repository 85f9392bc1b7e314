def kUx (x : Nat → kFm) (f : Nat) (X : kFm) : Nat → kFm := fun j => if j = f then X else x j
theorem kUx_eq {x : Nat → kFm} {f : Nat} {X : kFm} : kUx x f X f = X := if_pos rfl
theorem kUx_ne {x : Nat → kFm} {f j : Nat} {X : kFm} (h : j ≠ f) : kUx x f X j = x j := if_neg h
theorem kE_cg {y : qY} {rt rt2 : Nat × Nat → Nat} {V V2 : Nat × Nat → qV} {j n : Nat} {x x2 : kFm} : ∀ {e : tE}, kE y rt V j x n e → (∀ u : Nat, u = 40 + n ∨ 300 ≤ u → rt2 (j, u) = rt (j, u) ∧ V2 (j, u) = V (j, u) ∧ kR x2 u = kR x u) → kE y rt2 V2 j x2 n e
  | (0, t, m), h, e => by
    obtain ⟨e1, e2, e3⟩ := e (40 + n) (Or.inl rfl)
    unfold kE at h ⊢; rw [e1, e2, e3]; exact h
  | (1, t, m), h, e => by
    obtain ⟨e1, e2, e3⟩ := e (40 + n) (Or.inl rfl)
    unfold kE at h ⊢; rw [e1, e2]; exact h
  | (2, t, m), h, e => by
    obtain ⟨e1, e2, e3⟩ := e (40 + n) (Or.inl rfl)
    unfold kE at h ⊢; rw [e1, e2]; exact h
  | (3, t, m), h, e => by
    obtain ⟨e1, e2, e3⟩ := e (40 + n) (Or.inl rfl)
    unfold kE at h ⊢; rw [e1, e2, e3]; exact h
  | (4, r, m), h, e => fun i h1 h2 => by
    obtain ⟨e1, e2, e3⟩ := e (400 + i) (Or.inr (by omega))
    rw [e1, e2]; exact h i h1 h2
  | (5, r, m), h, e => by
    obtain ⟨e1, e2, e3⟩ := e 300 (Or.inr (by omega))
    unfold kE at h ⊢; rw [e1, e2]; exact h
  | (6, r, m), h, e => by
    obtain ⟨e1, e2, e3⟩ := e 300 (Or.inr (by omega))
    unfold kE at h ⊢; rw [e1, e2]; exact h
  | (7, t, m), h, e => by
    obtain ⟨e1, e2, e3⟩ := e (40 + n) (Or.inl rfl)
    unfold kE at h ⊢; rw [e1, e2, e3]; exact h
  | (8, t, m), h, e => trivial
  | (k + 9, t, m), h, e => h.elim
theorem wl_0 {e : tE} {s : List tE} (h : e.1 = 8 ∨ e.1 = 4 ∨ e.1 = 5 ∨ e.1 = 6) : wl (e :: s) = wl s := by
  show wl s + (if e.1 = 8 ∨ e.1 = 4 ∨ e.1 = 5 ∨ e.1 = 6 then 0 else 1) = wl s
  rw [if_pos h]; rfl
theorem wl_1 {e : tE} {s : List tE} : wl (e :: s) ≤ wl s + 1 := by
  show wl s + (if e.1 = 8 ∨ e.1 = 4 ∨ e.1 = 5 ∨ e.1 = 6 then 0 else 1) ≤ wl s + 1
  split <;> omega
/-- of a marker or a matched value nothing is asked of roots 40.. -/
theorem kE_cg2 {y : qY} {rt rt2 : Nat × Nat → Nat} {V V2 : Nat × Nat → qV} {j n : Nat} {x x2 : kFm} {e : tE} (h : kE y rt V j x n e) (he : e.1 = 8 ∨ e.1 = 4 ∨ e.1 = 5 ∨ e.1 = 6) (h2 : ∀ u : Nat, 300 ≤ u → rt2 (j, u) = rt (j, u) ∧ V2 (j, u) = V (j, u)) : kE y rt2 V2 j x2 n e := by
  obtain ⟨k, t, m⟩ := e
  rcases he with he | he | he | he
  · have he : k = 8 := he
    subst he; trivial
  · have he : k = 4 := he
    subst he
    intro i h3 h4
    obtain ⟨e1, e2⟩ := h2 (400 + i) (by omega)
    rw [e1, e2]; exact h i h3 h4
  · have he : k = 5 := he
    subst he
    obtain ⟨e1, e2⟩ := h2 300 (by omega)
    unfold kE at h ⊢; rw [e1, e2]; exact h
  · have he : k = 6 := he
    subst he
    obtain ⟨e1, e2⟩ := h2 300 (by omega)
    unfold kE at h ⊢; rw [e1, e2]; exact h
theorem kK_cg {y : qY} {rt rt2 : Nat × Nat → Nat} {V V2 : Nat × Nat → qV} {j : Nat} {x x2 : kFm} : ∀ {S : List tE}, kK y rt V j x S → (∀ u : Nat, (40 ≤ u ∧ u < 40 + wl S) ∨ 300 ≤ u → rt2 (j, u) = rt (j, u) ∧ V2 (j, u) = V (j, u) ∧ kR x2 u = kR x u) → kK y rt2 V2 j x2 S
  | [], _, _ => trivial
  | e :: s, h, h2 => by
    refine ⟨?_, kK_cg h.2 (fun u hu => h2 u (hu.imp (fun z => ⟨z.1, by have := wl_le (e := e) (s := s); omega⟩) id))⟩
    by_cases he : e.1 = 8 ∨ e.1 = 4 ∨ e.1 = 5 ∨ e.1 = 6
    · exact kE_cg2 h.1 he (fun u hu => ⟨(h2 u (Or.inr hu)).1, (h2 u (Or.inr hu)).2.1⟩)
    · exact kE_cg h.1 (fun u hu => h2 u (hu.imp (fun z => ⟨by omega, by rw [wl_n he]; omega⟩) id))
theorem kPm_cg {y : qY} {rt rt2 : Nat × Nat → Nat} {V V2 : Nat × Nat → qV} {j : Nat} {tb : lTb} {x x2 : kFm} {q r m : Nat} (h : kPm y rt V j tb x q r m) (hR : kR x2 300 = kR x 300) (hA : ∀ (u : Nat) (b : lLc), kA x2 u → kR x2 u = some b → kA x u ∧ kR x u = some b) (hU : ∀ (u : Nat) (b : lLc), kA x2 u → kR x2 u = some b → rt2 (j, u) = rt (j, u)) (hH : ∀ l : Nat, kH x 300 l → kH x2 300 l) (hn : kAn x2 = kAn x) (hV : ∀ (a0 : Nat × Nat) (π : lLc), kR x 300 = some (a0 :: π) → a0.2 < 40 → V2 a0 π = V a0 π ∧ rt2 a0 = rt a0) : kPm y rt2 V2 j tb x2 q r m := by
  obtain ⟨a0, π, h1, h2, h3, h4, h5, h6⟩ := h
  obtain ⟨e1, e2⟩ := hV a0 π h1 h2
  refine ⟨a0, π, hR.trans h1, h2, by rw [e2]; exact h3, by rw [e1]; exact h4, by rw [hn]; exact lOk_mono hH id (lP_rf _) h5, fun u b hu hb hq hc => ?_⟩
  obtain ⟨a1, a2⟩ := hA u b hu hb
  rcases h6 u b a1 a2 (by rw [← hU u b hu hb]; exact hq) hc with z | ⟨z0, l, σ, z1, z2, z3⟩
  · exact Or.inl z
  · exact Or.inr ⟨z0, l, σ, z1, hH l z2, z3⟩
/-- only the latest frame and its roots change -/
theorem kJ_top {y : qY} {vt : Nat → Nat → Nat} {tb : Nat → lTb} {f : Nat} {x : Nat → kFm} {rt rt2 : Nat × Nat → Nat} {V V2 : Nat × Nat → qV} (h : kJ y vt tb f x rt V) (X : kFm) (hX1 : X.1 = (x f).1) (hAn : kAn X = kAn (x f)) (e1 : ∀ j u : Nat, j ≠ f → rt2 (j, u) = rt (j, u) ∧ V2 (j, u) = V (j, u)) (q : ∀ u : Nat, qOk y (rt2 (f, u)) (V2 (f, u))) (l : lIv f (tb X.1) (kAn X) (kfr y rt2 f X)) (c2 : ∀ (u : Nat) (a : lLc), kA X u → kR X u = some a → qTr y rt2 V2 f u a) (c3 : ∀ (u t g : Nat), V2 (f, u) [] = some (t, g) → (y.1 t = 5 ∨ y.1 t = 6) → kA X u → ∃ a : lLc, kR X u = some a) (c4 : kK y rt2 V2 f X X.2.1) (c5 : ∀ (u : Nat) (π : lLc) (z : Nat × Nat), V2 (f, u) π = some z → kRo y X.2.1 u ∧ (u < 40 → rt2 (f, u) = vt X.1 u)) (c6 : ∀ v : Nat, v < 40 → (8, v, 0) ∈ X.2.1 → rt2 (f, v) = vt X.1 v ∧ ∀ (π : lLc) (T : Nat), qM π → qW y (vt X.1 v) π T → ¬ klo X v π → qQ y (V2 (f, v)) π T) (c7 : ∀ r m : Nat, ((5, r, m) ∈ X.2.1 → kPm y rt2 V2 f (tb X.1) X 5 r m) ∧ ((6, r, m) ∈ X.2.1 → kPm y rt2 V2 f (tb X.1) X 6 r m)) (c8 : wl X.2.1 ≤ 211) : kJ y vt tb f (kUx x f X) rt2 V2 := by
  obtain ⟨h0, h1, h2, h3, h4, h5, h6, h7, h8⟩ := h
  have lower : ∀ j : Nat, j < f → ∀ (r : Nat × Nat) (π : lLc) (u : Nat), kA (x j) u → kR (x j) u = some (r :: π) → V2 r = V r ∧ rt2 r = rt r := fun j hj r π u hu hr => by
    obtain ⟨i, v, w, e, hi⟩ := lIv_fr (h1.1 j (by omega)) hu hr
    injection e with e3 e4
    obtain ⟨k1, k2⟩ := e1 i v (by omega)
    rw [e3]
    exact ⟨k2, k1⟩
  refine ⟨fun r => ?_, ?_, fun j hj u a hu ha => ?_, fun j hj u t g hv hk hu => ?_, fun j hj => ?_, fun j u π z hz => ?_, fun j hj v v4 hv => ?_, fun j hj r m => ?_, fun j hj => ?_⟩
  · obtain ⟨j, u⟩ := r
    by_cases ej : j = f
    · subst ej; exact q u
    · rw [(e1 j u ej).1, (e1 j u ej).2]; exact h0 (j, u)
  · have hf : ∀ j : Nat, j < f → kUx x f X j = x j := fun j hj => kUx_ne (by omega)
    have hfr : ∀ j : Nat, j < f → kfr y rt2 j (kUx x f X j) = kfr y rt j (x j) := fun j hj => by
      rw [hf j hj]
      unfold kfr
      have : (fun u => y.1 (rt2 (j, u)) = 6) = fun u => y.1 (rt (j, u)) = 6 := funext (fun u => by rw [(e1 j u (by omega)).1])
      rw [this]
    refine ⟨fun j hj => ?_, fun o e q ho => ?_, fun j hj o e q ho => ?_⟩
    · by_cases ej : j = f
      · subst ej
        show lIv j (tb (kUx x j X j).1) (kAn (kUx x j X j)) (kfr y rt2 j (kUx x j X j))
        rw [kUx_eq]; exact l
      · show lIv j (tb (kUx x f X j).1) (kAn (kUx x f X j)) (kfr y rt2 j (kUx x f X j))
        rw [hfr j (by omega), hf j (by omega)]; exact h1.1 j hj
    · have ho : kAn (kUx x f X 0) o e q := ho
      by_cases ej : 0 = f
      · rw [← ej, kUx_eq, hAn, ← ej] at ho; exact h1.2.1 o e q ho
      · rw [hf 0 (by omega)] at ho; exact h1.2.1 o e q ho
    · have ho : kAn (kUx x f X (j + 1)) o e q := ho
      have ho2 : kAn (x (j + 1)) o e q := by
        by_cases ej : j + 1 = f
        · rw [ej, kUx_eq, hAn, ← ej] at ho; exact ho
        · rw [hf (j + 1) (by omega)] at ho; exact ho
      obtain ⟨t, t1, t2⟩ := h1.2.2 j hj o e q ho2
      exact ⟨t, t1, by
        show (kfr y rt2 j (kUx x f X j)).2.1 t ∧ (kfr y rt2 j (kUx x f X j)).1 t = some e ∧ (q = 1 → (kfr y rt2 j (kUx x f X j)).2.2.2 t)
        rw [hfr j hj]; exact t2⟩
  · by_cases ej : j = f
    · subst ej
      rw [kUx_eq] at hu ha
      exact c2 u a hu ha
    · rw [kUx_ne ej] at hu ha
      unfold qTr
      rw [(e1 j u ej).1]
      refine ⟨(h2 j hj u a hu ha).1, qTg_eq (h2 j hj u a hu ha).2 (fun r π e hp hr => ?_)⟩
      subst e
      exact lower j (by omega) r π u hu ha
  · by_cases ej : j = f
    · subst ej
      rw [kUx_eq] at hu ⊢
      exact c3 u t g hv hk hu
    · rw [kUx_ne ej] at hu ⊢
      rw [(e1 j u ej).2] at hv
      exact h3 j hj u t g hv hk hu
  · by_cases ej : j = f
    · subst ej
      rw [kUx_eq]; exact c4
    · rw [kUx_ne ej]
      exact kK_cg (h4 j hj) (fun u _ => ⟨(e1 j u ej).1, (e1 j u ej).2, rfl⟩)
  · by_cases ej : j = f
    · subst ej
      rw [kUx_eq]
      exact ⟨Nat.le_refl _, c5 u π z hz⟩
    · rw [kUx_ne ej]
      rw [(e1 j u ej).2] at hz
      rw [(e1 j u ej).1]
      exact h5 j u π z hz
  · by_cases ej : j = f
    · subst ej
      rw [kUx_eq] at hv ⊢
      exact c6 v v4 hv
    · rw [kUx_ne ej] at hv ⊢
      rw [(e1 j v ej).1, (e1 j v ej).2]
      exact h6 j hj v v4 hv
  · by_cases ej : j = f
    · subst ej
      rw [kUx_eq]; exact ⟨fun z => ⟨rfl, (c7 r m).1 z⟩, fun z => ⟨rfl, (c7 r m).2 z⟩⟩
    · rw [kUx_ne ej]
      exact ⟨fun z => absurd ((h7 j hj r m).1 z).1 ej, fun z => absurd ((h7 j hj r m).2 z).1 ej⟩
  · by_cases ej : j = f
    · subst ej
      rw [kUx_eq]; exact c8
    · rw [kUx_ne ej]; exact h8 j hj
