/-- the running's state: the frames x, where their values begin -/
def kT (y : qY) (zn sz : Nat → Nat) (vt : Nat → Nat → Nat) (tb : Nat → lTb) (f : Nat) (x : Nat → kFm) (bs : Nat → Nat) (S : Sg) : Prop := ∃ (rt : Nat × Nat → Nat) (V : Nat × Nat → qV) (C L H : Nat × Nat → List Nat) (fl : List Nat) (t : Nat), kJ y vt tb f x rt V ∧ kN y zn sz (nMS S) (Zl S 72) (Zr S 74) f x rt V bs C L H ∧ kC C L H fl t (Zr S 67) ∧ FLs S fl t
section PS47
variable {y : qY} {vt : Nat → Nat → Nat} {tb : Nat → lTb} {zn sz rk : Nat → Nat} {M M2 : nM} {sk sk2 : Nat → Int64} {pl pl2 : Nat → Int32} {f : Nat} {x x2 : Nat → kFm} {rt : Nat × Nat → Nat} {V : Nat × Nat → qV} {bs : Nat → Nat} {C L H : Nat × Nat → List Nat} {S : Sg}
/-- the stack is told otherwise, as many values, the same variables -/
theorem kN.cx (h : kN y zn sz M sk pl f x rt V bs C L H) (hx : ∀ j : Nat, j ≤ f → wl (x2 j).2.1 = wl (x j).2.1 ∧ (∀ v : Nat, (8, v, 0) ∈ (x2 j).2.1 ↔ (8, v, 0) ∈ (x j).2.1) ∧ ∀ (u : Nat) (a : lLc), kA (x2 j) u → kR (x2 j) u = some a → kA (x j) u ∧ kR (x j) u = some a) : kN y zn sz M sk pl f x2 rt V bs C L H := by
  obtain ⟨h1, h2, ⟨h3, h4⟩, h5⟩ := h
  have hs : ∀ j u : Nat, j ≤ f → (kSc (x2 j).2.1 u ↔ kSc (x j).2.1 u) := fun j u hj => by
    obtain ⟨e1, e2, _⟩ := hx j hj
    unfold kSc
    rw [e1, e2 u]
  refine ⟨fun j u hj => ?_, h2, ⟨h3, fun j hj => ?_⟩, fun j u d π hj ha hc hr => ?_⟩
  · obtain ⟨e1, e2, _⟩ := hx j hj
    obtain ⟨q1, q2, q3⟩ := h1 j u hj
    exact ⟨fun a b => q1 a ((e2 u).mp b), fun a b => q2 a (by rw [e1] at b; exact b), fun a => q3 (fun b => a ((hs j u hj).mpr b))⟩
  · rw [(hx j (by omega)).1]; exact h4 j hj
  · obtain ⟨z1, z2⟩ := (hx j hj).2.2 u _ ha hr
    exact h5 j u d π hj z1 ((hs j u hj).mp hc) z2
theorem kJ_eq (h : kJ y vt tb f x rt V) {s2 : List tE} (hw : wl s2 = wl (x f).2.1) (hm : ∀ e : tE, (e.1 = 8 ∨ e.1 = 4 ∨ e.1 = 5 ∨ e.1 = 6) → (e ∈ s2 ↔ e ∈ (x f).2.1)) (hk : kK y rt V f (x f) s2) : kJ y vt tb f (kUx x f ((x f).1, s2, (x f).2.2.1, kR (x f), kH (x f), kal (x f), klo (x f), kAn (x f))) rt V := by
  have hw0 := h
  obtain ⟨h0, h1, h2, h3, h4, h5, h6, h7, h8⟩ := h
  have hf := Nat.le_refl f
  have hA : ∀ u : Nat, kA ((x f).1, s2, (x f).2.2.1, kR (x f), kH (x f), kal (x f), klo (x f), kAn (x f)) u → kA (x f) u := fun u hu => by
    rcases hu with z | ⟨z1, z2⟩
    · exact Or.inl z
    · have z2 : u < 40 + wl s2 + (x f).2.2.1 := z2
      rw [hw] at z2; exact Or.inr ⟨z1, z2⟩
  have m8 : ∀ v : Nat, (8, v, 0) ∈ s2 ↔ (8, v, 0) ∈ (x f).2.1 := fun v => hm (8, v, 0) (Or.inl rfl)
  have m4 : ∀ r m : Nat, (4, r, m) ∈ s2 ↔ (4, r, m) ∈ (x f).2.1 := fun r m => hm (4, r, m) (Or.inr (Or.inl rfl))
  have m5 : ∀ r m : Nat, (5, r, m) ∈ s2 ↔ (5, r, m) ∈ (x f).2.1 := fun r m => hm (5, r, m) (Or.inr (Or.inr (Or.inl rfl)))
  have m6 : ∀ r m : Nat, (6, r, m) ∈ s2 ↔ (6, r, m) ∈ (x f).2.1 := fun r m => hm (6, r, m) (Or.inr (Or.inr (Or.inr rfl)))
  refine kJ_top hw0 _ rfl rfl (fun j u _ => ⟨rfl, rfl⟩) (fun u => h0 (f, u)) (lIv_mono2 (h1.1 f hf) (fun u a hu ha => ⟨hA u hu, ha⟩) (fun u a l _ _ hl => hl) (fun u a _ _ => Iff.rfl)) (fun u a hu ha => h2 f hf u a (hA u hu) ha) (fun u t g hv hk2 hu => h3 f hf u t g hv hk2 (hA u hu)) (kK_cg hk (fun u _ => ⟨rfl, rfl, rfl⟩)) (fun u π z hz => ?_) (fun v v4 hvS => h6 f hf v v4 ((m8 v).mp hvS)) (fun r m => ⟨fun q => ?_, fun q => ?_⟩) (by show wl s2 ≤ 211; rw [hw]; exact h8 f hf)
  · obtain ⟨-, k1, k2⟩ := h5 f u π z hz
    refine ⟨?_, k2⟩
    rcases k1 with ⟨a, b⟩ | ⟨a, b⟩ | ⟨a, r, m2, b⟩ | ⟨r, m2, i, a, b⟩
    · exact Or.inl ⟨a, (m8 u).mpr b⟩
    · exact Or.inr (Or.inl ⟨a, by show u < 40 + wl s2; rw [hw]; exact b⟩)
    · exact Or.inr (Or.inr (Or.inl ⟨a, r, m2, b.imp (m5 r m2).mpr (m6 r m2).mpr⟩))
    · exact Or.inr (Or.inr (Or.inr ⟨r, m2, i, (m4 r m2).mpr a, b⟩))
  · exact kPm_cg ((h7 f hf r m).1 ((m5 r m).mp q)).2 rfl (fun u b hu hb => ⟨hA u hu, hb⟩) (fun _ _ _ _ => rfl) (fun _ q => q) rfl (fun _ _ _ _ => ⟨rfl, rfl⟩)
  · exact kPm_cg ((h7 f hf r m).2 ((m6 r m).mp q)).2 rfl (fun u b hu hb => ⟨hA u hu, hb⟩) (fun _ _ _ _ => rfl) (fun _ q => q) rfl (fun _ _ _ _ => ⟨rfl, rfl⟩)
theorem wl_8m {v : Nat} : ∀ {e r : List tE}, wl (e ++ (8, v, 0) :: r) = wl (e ++ r)
  | [], r => wl_0 (Or.inl rfl)
  | a :: e, r => by
    show wl (e ++ (8, v, 0) :: r) + _ = wl (e ++ r) + _
    rw [wl_8m]
theorem kK_mv {j v : Nat} {xx : kFm} {r : List tE} : ∀ {e : List tE}, kK y rt V j xx (e ++ (8, v, 0) :: r) → kK y rt V j xx (e ++ r)
  | [], h => h.2
  | a :: e, h => by
    refine ⟨?_, kK_mv h.2⟩
    have h1 : kE y rt V j xx (wl (e ++ (8, v, 0) :: r)) a := h.1
    rw [wl_8m] at h1; exact h1
/-- a variable's mark goes to the front -/
theorem kJ_mv8 (h : kJ y vt tb f x rt V) {e r : List tE} {v : Nat} (hS : (x f).2.1 = e ++ (8, v, 0) :: r) : kJ y vt tb f (kUx x f ((x f).1, (8, v, 0) :: (e ++ r), (x f).2.2.1, kR (x f), kH (x f), kal (x f), klo (x f), kAn (x f))) rt V := by
  refine kJ_eq h (by rw [hS, wl_8m]; exact wl_0 (Or.inl rfl)) (fun a _ => ?_) ⟨trivial, ?_⟩
  · rw [hS, List.mem_cons, List.mem_append, List.mem_append, List.mem_cons]
    constructor
    · rintro (z | z | z)
      · exact Or.inr (Or.inl z)
      · exact Or.inl z
      · exact Or.inr (Or.inr z)
    · rintro (z | z | z)
      · exact Or.inr (Or.inl z)
      · exact Or.inl z
      · exact Or.inr (Or.inr z)
  · have := h.2.2.2.2.1 f (Nat.le_refl _)
    rw [hS] at this
    exact kK_mv this
theorem kUx_top {X : kFm} : kUx x f X f = X := if_pos rfl
theorem kUx_lo {X : kFm} {j : Nat} (h : j ≠ f) : kUx x f X j = x j := if_neg h
/-- frames but the latest are the same -/
theorem cxU {X : kFm} (h1 : wl X.2.1 = wl (x f).2.1) (h2 : ∀ v : Nat, (8, v, 0) ∈ X.2.1 ↔ (8, v, 0) ∈ (x f).2.1) (h3 : ∀ (u : Nat) (a : lLc), kA X u → kR X u = some a → kA (x f) u ∧ kR (x f) u = some a) : ∀ j : Nat, j ≤ f → wl (kUx x f X j).2.1 = wl (x j).2.1 ∧ (∀ v : Nat, (8, v, 0) ∈ (kUx x f X j).2.1 ↔ (8, v, 0) ∈ (x j).2.1) ∧ ∀ (u : Nat) (a : lLc), kA (kUx x f X j) u → kR (kUx x f X j) u = some a → kA (x j) u ∧ kR (x j) u = some a := fun j _ => by
  by_cases e : j = f
  · subst e; rw [kUx_top]; exact ⟨h1, h2, h3⟩
  · rw [kUx_lo e]; exact ⟨rfl, fun _ => Iff.rfl, fun _ _ a b => ⟨a, b⟩⟩
theorem kT.mv8 (h : kT y zn sz vt tb f x bs S) {e r : List tE} {v : Nat} (hS : (x f).2.1 = e ++ (8, v, 0) :: r) : kT y zn sz vt tb f (kUx x f ((x f).1, (8, v, 0) :: (e ++ r), (x f).2.2.1, kR (x f), kH (x f), kal (x f), klo (x f), kAn (x f))) bs S := by
  obtain ⟨rt, V, C, L, H, fl, t, hJ, hN, hC, hF⟩ := h
  have hw : wl ((8, v, 0) :: (e ++ r)) = wl (x f).2.1 := by rw [hS, wl_8m]; exact wl_0 (Or.inl rfl)
  refine ⟨rt, V, C, L, H, fl, t, kJ_mv8 hJ hS, hN.cx (cxU hw (fun w => ?_) (fun u a hu ha => ⟨?_, ha⟩)), hC, hF⟩
  · rw [hS]
    show (8, w, 0) ∈ (8, v, 0) :: (e ++ r) ↔ _
    rw [List.mem_cons, List.mem_append, List.mem_append, List.mem_cons]
    constructor
    · rintro (z | z | z)
      · exact Or.inr (Or.inl z)
      · exact Or.inl z
      · exact Or.inr (Or.inr z)
    · rintro (z | z | z)
      · exact Or.inr (Or.inl z)
      · exact Or.inl z
      · exact Or.inr (Or.inr z)
  · rcases hu with z | ⟨z1, z2⟩
    · exact Or.inl z
    · have z2 : u < 40 + wl ((8, v, 0) :: (e ++ r)) + (x f).2.2.1 := z2
      rw [hw] at z2; exact Or.inr ⟨z1, z2⟩
/-- less is used, more may be held, more may lack a value -/
theorem kT.wk (h : kT y zn sz vt tb f x bs S) {H2 : Nat → Nat → Prop} {al2 : Nat → Prop} {lo2 : Nat → lLc → Prop} (hn : (x f).2.2.1 = 0) (hH : ∀ (u : Nat) (a : lLc) (l : Nat), lv2 (x f).2.1 al2 u → kR (x f) u = some a → kH (x f) u l → H2 u l) (hal : ∀ u : Nat, al2 u → kal (x f) u) (hlo : ∀ (v : Nat) (π : lLc), v < 40 → (8, v, 0) ∈ (x f).2.1 → klo (x f) v π → lo2 v π) : kT y zn sz vt tb f (kUx x f ((x f).1, (x f).2.1, 0, kR (x f), H2, al2, lo2, kAn (x f))) bs S := by
  obtain ⟨rt, V, C, L, H, fl, t, hJ, hN, hC, hF⟩ := h
  refine ⟨rt, V, C, L, H, fl, t, kJ_wk2 hJ hn hH hal hlo, hN.cx (cxU rfl (fun _ => Iff.rfl) (fun u a hu ha => ⟨?_, ha⟩)), hC, hF⟩
  rcases hu with ⟨z1, z2⟩ | ⟨z1, z2⟩
  · exact Or.inl ⟨z1, hal u z2⟩
  · have z2 : u < 40 + wl (x f).2.1 + 0 := z2
    exact Or.inr ⟨z1, by omega⟩
end PS47
