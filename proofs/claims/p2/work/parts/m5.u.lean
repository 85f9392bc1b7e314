-- m5.u.lean.txt
section
section PS98
variable {y : qY} {vt : Nat → Nat → Nat} {tb : Nat → lTb} {f v T : Nat} {x : Nat → kFm} {rt : Nat × Nat → Nat} {V : Nat × Nat → qV} {al2 : Nat → Prop} {lo2 : Nat → lLc → Prop} {ρ : lLc} {m : Nat} {S : List tE}
/-- the value on top -/
theorem kJ_tv (hJ : kJ y vt tb f x rt V) (hS : (x f).2.1 = (0, T, m) :: S) (hT : T ≠ 0) : rt (f, 40 + wl S) = T ∧ qFu y T (V (f, 40 + wl S)) ∧ y.1 T ≠ 5 ∧ y.1 T ≠ 6 := by
  have hK := hJ.2.2.2.2.1 f (Nat.le_refl f)
  rw [hS] at hK
  obtain ⟨⟨k1, k2, k3, k4, k5⟩, -⟩ := hK
  refine ⟨(k4 hT).1, ⟨?_, (k4 hT).2⟩, k2, k3⟩
  have := hJ.1 (f, 40 + wl S)
  rw [(k4 hT).1] at this
  exact this
/-- a value is put into a place that is reached without a star -/
theorem kJ_asA (hJ : kJ y vt tb f x rt V) (hS : (x f).2.1 = (0, T, m) :: S) (hn : (x f).2.2.1 = 0) (hno : ∀ r m : Nat, (5, r, m) ∉ S ∧ (6, r, m) ∉ S) (hT : T ≠ 0) (hv4 : v < 40) (hvS : (8, v, 0) ∈ S) (hw : qW y (vt (x f).1 v) ρ T) (hm : qM ρ) (hal : ∀ u : Nat, al2 u → kal (x f) u) (hlo : ∀ (w : Nat) (π : lLc), ¬ lo2 w π → ¬ klo (x f) w π ∨ (w = v ∧ lCmp π ρ)) (hk : lCk (tb (x f).1) (kH (x f)) (fun u => ((u < 40 ∧ al2 u) ∨ (40 ≤ u ∧ u < 40 + wl S)) ∧ kR (x f) u ≠ none) v ρ False) : kJ y vt tb f (kUx x f ((x f).1, S, 0, kR (x f), kH (x f), al2, lo2, kAn (x f))) rt (qUp (kCl V f (wl S)) (f, v) (qG (V (f, v)) ρ (V (f, 40 + wl S)))) ∧ ∀ (u : Nat) (b : lLc), ((u < 40 ∧ al2 u) ∨ (40 ≤ u ∧ u < 40 + wl S)) → kR (x f) u = some b → ¬ lCmp b ((f, v) :: ρ) := by
  have hf := Nat.le_refl f
  have hk0 : kNm (0, T, m) := nm_0 rfl
  obtain ⟨s1, s2, s3, s4⟩ := kJ_tv hJ hS hT
  have wS : wl (x f).2.1 = wl S + 1 := by rw [hS, wl_n hk0]
  have iv : lIv f (tb (x f).1) (kAn (x f)) (kfr y rt f (x f)) := hJ.2.1.1 f hf
  have j1 := kJ_pop hJ (E := [(0, T, m)]) (S := S) hS (fun e he => by rw [List.mem_singleton.mp he]; exact hk0) hn
  generalize hx1 : kUx x f ((x f).1, S, 0, kR (x f), kH (x f), kal (x f), klo (x f), kAn (x f)) = x1 at j1
  have e1 : x1 f = ((x f).1, S, 0, kR (x f), kH (x f), kal (x f), klo (x f), kAn (x f)) := by rw [← hx1, kUx_eq]
  have hcv : kCl V f (wl S) (f, v) = V (f, v) := kCl_ge (fun g => by have := g.2.1; have : 40 + wl S ≤ v := this; omega)
  have hcmp : ∀ (u : Nat) (b : lLc), ((u < 40 ∧ al2 u) ∨ (40 ≤ u ∧ u < 40 + wl S)) → kR (x f) u = some b → ¬ lCmp b ((f, v) :: ρ) := fun u b hu hb hcm => by
    refine (lAc_var (A2 := fun u => ((u < 40 ∧ al2 u) ∨ (40 ≤ u ∧ u < 40 + wl S)) ∧ kR (x f) u ≠ none) iv (fun u hu => ?_) hk ⟨hu, fun z => by rw [z] at hb; cases hb⟩ hb hcm).1
    rcases hu.1 with ⟨a, b⟩ | ⟨a, b⟩
    · exact Or.inl ⟨a, hal u b⟩
    · exact Or.inr ⟨a, by omega⟩
  have j2 := kJ_as1 (v := v) (T1 := T) (ρ := ρ) (W := V (f, 40 + wl S)) (al2 := al2) (lo2 := lo2) j1 (by rw [e1]) hv4 (by rw [e1]; exact hvS) (by rw [e1]; exact hno) hm (by rw [e1]; exact hw) s2 ⟨s3, s4⟩ (by rw [e1]; exact hal) (by rw [e1]; exact hlo) (by
    rw [e1]
    intro u b hu hb hcm
    exact absurd hcm (hcmp u b hu hb))
  rw [e1, hcv, ← hx1, kUx2] at j2
  exact ⟨j2, hcmp⟩
/-- a variable that is no reference counts as used -/
theorem kJ_al (hJ : kJ y vt tb f x rt V) (hv4 : v < 40) (hn : (x f).2.2.1 = 0) (hnr : ∀ z : Nat × Nat, V (f, v) [] = some z → y.1 z.1 ≠ 5 ∧ y.1 z.1 ≠ 6) {hd : Nat → Prop} : kJ y vt tb f (kUx x f ((x f).1, (x f).2.1, 0, lUp (kR (x f)) v none, lUp (kH (x f)) v hd, (fun u => kal (x f) u ∨ u = v), klo (x f), kAn (x f))) rt V := by
  have hw0 := hJ
  obtain ⟨h0, h1, h2, h3, h4, h5, h6, h7, h8⟩ := hJ
  have hf := Nat.le_refl f
  have hA : ∀ (u : Nat) (a : lLc), kA ((x f).1, (x f).2.1, 0, lUp (kR (x f)) v none, lUp (kH (x f)) v hd, (fun u => kal (x f) u ∨ u = v), klo (x f), kAn (x f)) u → lUp (kR (x f)) v none u = some a → u ≠ v ∧ kA (x f) u ∧ kR (x f) u = some a := fun u a hu ha => by
    have hun : u ≠ v := fun z => by rw [z, lUp_eq] at ha; cases ha
    rw [lUp_ne hun] at ha
    refine ⟨hun, ?_, ha⟩
    rcases hu with ⟨z1, z2⟩ | ⟨z1, z2⟩
    · exact Or.inl ⟨z1, z2.resolve_right hun⟩
    · exact Or.inr ⟨z1, by rw [hn]; exact z2⟩
  refine kJ_top hw0 _ rfl rfl (fun j u _ => ⟨rfl, rfl⟩) (fun u => h0 (f, u)) (lIv_mono2 (h1.1 f hf) (fun u a hu ha => (hA u a hu ha).2) (fun u a l hu ha hl => ?_) (fun u a _ _ => Iff.rfl)) (fun u a hu ha => h2 f hf u a (hA u a hu ha).2.1 (hA u a hu ha).2.2) (fun u t g hv hk2 hu => ?_) (kK_cg (h4 f hf) (fun u hu => ⟨rfl, rfl, lUp_ne (by omega)⟩)) (fun u π z hz => (h5 f u π z hz).2) (fun w w4 hvS => h6 f hf w w4 hvS) (fun r m => ⟨fun q => ?_, fun q => ?_⟩) (h8 f hf)
  · show lUp (kH (x f)) v hd u l
    rw [lUp_ne (hA u a hu ha).1]; exact hl
  · by_cases c : u = v
    · subst c
      obtain ⟨n1, n2⟩ := hnr _ hv
      exact absurd hk2 (by rintro (z | z); exact n1 z; exact n2 z)
    · have hu' : kA (x f) u := by
        rcases hu with ⟨z1, z2⟩ | ⟨z1, z2⟩
        · exact Or.inl ⟨z1, z2.resolve_right c⟩
        · exact Or.inr ⟨z1, by rw [hn]; exact z2⟩
      obtain ⟨a, ha⟩ := h3 f hf u t g hv hk2 hu'
      exact ⟨a, (lUp_ne c).trans ha⟩
  · exact kPm_cg ((h7 f hf r m).1 q).2 (lUp_ne (by omega)) (fun u b hu hb => (hA u b hu hb).2) (fun _ _ _ _ => rfl) (fun l q => by show lUp (kH (x f)) v hd 300 l; rw [lUp_ne (by omega)]; exact q) rfl (fun _ _ _ _ => ⟨rfl, rfl⟩)
  · exact kPm_cg ((h7 f hf r m).2 q).2 (lUp_ne (by omega)) (fun u b hu hb => (hA u b hu hb).2) (fun _ _ _ _ => rfl) (fun l q => by show lUp (kH (x f)) v hd 300 l; rw [lUp_ne (by omega)]; exact q) rfl (fun _ _ _ _ => ⟨rfl, rfl⟩)
/-- a reference has no parts -/
theorem qW_rf {T t : Nat} {π : lLc} (h : y.1 T = 5 ∨ y.1 T = 6) (g2 : qW y T π t) : π = [] ∧ t = T := by
  cases π with
  | nil => exact ⟨rfl, g2⟩
  | cons s π =>
    obtain ⟨q, i⟩ := s
    match q, g2 with
    | 0, g2 => exact absurd g2.1 (by rcases h with h | h <;> rw [h] <;> decide)
    | 1, g2 => exact absurd g2.2.1 (by rcases h with h | h <;> rw [h] <;> decide)
    | g + 2, g2 => exact absurd g2.1 (by rcases h with h | h <;> rw [h] <;> decide)
/-- a reference is put into its variable anew -/
theorem kJ_asR (hcr : qCr y) (hrf : qRf y) (hJ : kJ y vt tb f x rt V) {k U m : Nat} {S : List tE} (hS : (x f).2.1 = (k, U, m) :: S) (hn : (x f).2.2.1 = 0) (hno : ∀ r m : Nat, (5, r, m) ∉ S ∧ (6, r, m) ∉ S) (hU : U < 10000) (hkt : (k = 1 ∧ vt (x f).1 v = 10000 + 2 * U) ∨ (k = 2 ∧ vt (x f).1 v = 10001 + 2 * U)) (hv4 : v < 40) (hvS : (8, v, 0) ∈ S) (hal : ∀ u : Nat, u ≠ v → al2 u → kal (x f) u) (hlo : ∀ (w : Nat) (π : lLc), w ≠ v → ¬ lo2 w π → ¬ klo (x f) w π) {hd : Nat → Prop} (hhd : ∀ κ : Nat, kH (x f) (40 + wl S) κ → hd κ) : ∃ a : lLc, kR (x f) (40 + wl S) = some a ∧ rt (f, 40 + wl S) = vt (x f).1 v ∧ (∃ z : Nat × Nat, V (f, 40 + wl S) [] = some z) ∧ kJ y vt tb f (kUx x f ((x f).1, S, 0, lUp (kR (x f)) v (some a), lUp (kH (x f)) v hd, al2, lo2, kAn (x f))) (qRt rt (f, v) (vt (x f).1 v)) (qUp (kCl V f (wl S)) (f, v) (V (f, 40 + wl S))) := by
  have hf := Nat.le_refl f
  have hcu := hcr U hU
  have hk0 : kNm (k, U, m) := by
    rcases hkt with ⟨rfl, -⟩ | ⟨rfl, -⟩ <;> (unfold kNm; simp)
  have hK := hJ.2.2.2.2.1 f hf
  rw [hS] at hK
  have hK1 : rt (f, 40 + wl S) = vt (x f).1 v ∧ ∃ w : Nat × Nat, V (f, 40 + wl S) [] = some w := by
    rcases hkt with ⟨rfl, e⟩ | ⟨rfl, e⟩
    · rw [e]; exact hK.1
    · rw [e]; exact hK.1
  obtain ⟨r1, ⟨t9, g9⟩, r2⟩ := hK1
  have h56 : (y.1 (vt (x f).1 v) = 5 ∨ y.1 (vt (x f).1 v) = 6) ∧ y.2.1 (vt (x f).1 v) = U := by
    rcases hkt with ⟨-, e⟩ | ⟨-, e⟩
    · rw [e]; exact ⟨Or.inl hcu.1, hcu.2.1⟩
    · rw [e]; exact ⟨Or.inr hcu.2.2.1, hcu.2.2.2⟩
  obtain ⟨h56, eU⟩ := h56
  have wS : wl (x f).2.1 = wl S + 1 := by rw [hS, wl_n hk0]
  have wB := hJ.2.2.2.2.2.2.2.2 f hf
  have hWk : qOk y (vt (x f).1 v) (V (f, 40 + wl S)) := by rw [← r1]; exact hJ.1 _
  have e9 : t9 = vt (x f).1 v := (hWk.1 [] t9 g9 r2).1
  have hks : kA (x f) (40 + wl S) := Or.inr ⟨by omega, by omega⟩
  obtain ⟨a, ea⟩ := hJ.2.2.2.1 f hf (40 + wl S) t9 g9 r2 (by rw [e9]; exact h56) hks
  obtain ⟨-, htg⟩ := hJ.2.2.1 f hf (40 + wl S) a hks ea
  rw [r1, eU] at htg
  have hE1 : ∀ e : tE, e ∈ [(k, U, m)] → kNm e := fun e he => by rw [List.mem_singleton.mp he]; exact hk0
  have j1 := kJ_pop hJ (E := [(k, U, m)]) (S := S) hS hE1 hn
  generalize hx1 : kUx x f ((x f).1, S, 0, kR (x f), kH (x f), kal (x f), klo (x f), kAn (x f)) = x1 at j1
  have e1 : x1 f = ((x f).1, S, 0, kR (x f), kH (x f), kal (x f), klo (x f), kAn (x f)) := by rw [← hx1, kUx_eq]
  obtain ⟨b1, b2⟩ := lBw_pop (A2 := fun u => ((u < 40 ∧ al2 u) ∨ (40 ≤ u ∧ u < 40 + wl S)) ∧ u ≠ v) (t := v) (un := y.1 (vt (x f).1 v) = 6) (hd := hd) (hJ.2.1.1 f hf) (fun u hu => by
    obtain ⟨hu, hne⟩ := hu
    rcases hu with ⟨g1, g2⟩ | ⟨g1, g2⟩
    · exact ⟨Or.inl ⟨g1, hal u hne g2⟩, by omega⟩
    · exact ⟨Or.inr ⟨g1, by omega⟩, by omega⟩) (by omega) hks ea (fun q => by show y.1 (rt (f, 40 + wl S)) = 6; rw [r1]; exact q) (fun l q => hhd l q) (lP_rf a)
  have fullW : ∀ (π : lLc) (t : Nat), qM π → qW y (vt (x f).1 v) π t → π = [] ∧ t = vt (x f).1 v := fun π t g1 g2 => by
    cases π with
    | nil => exact ⟨rfl, g2⟩
    | cons s π =>
      obtain ⟨q, i⟩ := s
      obtain ⟨g3, g4⟩ := qM_cons.mp g1
      obtain rfl : q = 0 := g3
      rcases h56 with h | h
      · exact absurd (h.symm.trans g2.1) (by decide)
      · exact absurd (h.symm.trans g2.1) (by decide)
  have r := kJ_set (v := v) (W := V (f, 40 + wl S)) (ro := some a) (hd := hd) (al2 := al2) (lo2 := lo2) (S2 := S) hrf j1 (by rw [e1]) hv4 (by rw [e1]; exact hno) (Or.inr ⟨by rw [e1], by rw [e1]; exact hvS, by rw [e1]; exact h56⟩) (by rw [e1]; exact hWk) (by rw [e1]; exact hal) (by rw [e1]; exact hlo) (by
    rw [e1]
    intro π t g1 g2 _
    obtain ⟨rfl, rfl⟩ := fullW π t g1 g2
    refine ⟨fun _ => ⟨_, r2⟩, fun q => ?_⟩
    rcases h56 with h | h
    · exact absurd (h.symm.trans q) (by decide)
    · exact absurd (h.symm.trans q) (by decide)) (Or.inr ⟨a, rfl, by rw [e1]; exact b1, by
      rw [e1]
      exact fun u hu hne => b2 u ⟨hu, hne⟩, by
      rw [e1]
      show qTg y rt (kCl V f (wl S)) a (y.2.1 (vt (x f).1 v))
      rw [eU]
      refine qTg_eq htg (fun r π _ _ hr => ⟨kCl_ge (fun g => ?_), rfl⟩)
      omega, by rw [e1]; exact h56⟩)
  rw [e1, ← hx1, kUx2] at r
  exact ⟨a, ea, r1, ⟨_, r2⟩, r⟩
section PS98b
variable {R : yR} {S0 : Sg}
/-- a value is put into a place behind a star -/
theorem kJ_asB {d : Nat × Nat} {π : lLc} (hJ : kJ (yT R S0) vt tb f x rt V) (hS : (x f).2.1 = (0, T, m) :: S) (hn : (x f).2.2.1 = 0) (hno : ∀ r m : Nat, (5, r, m) ∉ S ∧ (6, r, m) ∉ S) (hT : T ≠ 0) (hv4 : v < 40) (hvS : (8, v, 0) ∈ S) (hkv : isRf (vt (x f).1 v) → kal (x f) v ∧ (yT R S0).1 (vt (x f).1 v) = 6) (hal : ∀ u : Nat, al2 u → kal (x f) u) (hlo : ∀ (w : Nat) (π : lLc), klo (x f) w π → lo2 w π) (hk : lCk (tb (x f).1) (kH (x f)) (fun u => (u < 40 ∧ al2 u) ∨ (40 ≤ u ∧ u < 40 + wl S)) v ρ False) (d1 : d.2 < 40) (d2 : qW (yT R S0) (rt d) π T) (d3 : qF (yT R S0) (V d) π T)
  (d7 : (d = (f, v) ∧ π = ρ ∧ ¬ isRf (vt (x f).1 v)) ∨ ∃ π0 ρ2 : lLc, kR (x f) v = some (d :: π0) ∧ π = π0 ++ ρ2 ∧ ρ = (1, 0) :: ρ2 ∧ isRf (vt (x f).1 v) ∧ qW (yT R S0) (rt d) π0 ((yT R S0).2.1 (vt (x f).1 v))) : kJ (yT R S0) vt tb f (kUx x f ((x f).1, S, 0, kR (x f), kH (x f), al2, lo2, kAn (x f))) rt (qUp (kCl V f (wl S)) d (qG (V d) π (V (f, 40 + wl S)))) ∧ ∀ (j u : Nat) (b : lLc), j ≤ f → kA (kUx x f ((x f).1, S, 0, kR (x f), kH (x f), al2, lo2, kAn (x f)) j) u → kR (kUx x f ((x f).1, S, 0, kR (x f), kH (x f), al2, lo2, kAn (x f)) j) u = some b → lCmp b (d :: π) → lP b (d :: π) := by
  have hf := Nat.le_refl f
  have hk0 : kNm (0, T, m) := nm_0 rfl
  have hvS1 : (8, v, 0) ∈ (x f).2.1 := by rw [hS]; exact List.mem_cons_of_mem _ hvS
  obtain ⟨s1, s2, s3, s4⟩ := kJ_tv hJ hS hT
  have wS : wl (x f).2.1 = wl S + 1 := by rw [hS, wl_n hk0]
  have iv : lIv f (tb (x f).1) (kAn (x f)) (kfr (yT R S0) rt f (x f)) := hJ.2.1.1 f hf
  have hkr := (hJ.2.2.2.2.2.2.1 f hf v hv4 hvS1).1
  have J0 := kJ_wk2 (H2 := kH (x f)) (al2 := fun u => al2 u ∨ (u = v ∧ kal (x f) v)) (lo2 := klo (x f)) hJ hn (fun _ _ _ _ _ q => q) (fun u q => q.elim (hal u) (fun q => by rw [q.1]; exact q.2)) (fun _ _ _ _ q => q)
  generalize hx0 : kUx x f ((x f).1, (x f).2.1, 0, kR (x f), kH (x f), (fun u => al2 u ∨ (u = v ∧ kal (x f) v)), klo (x f), kAn (x f)) = x0 at J0
  have e0 : x0 f = ((x f).1, (x f).2.1, 0, kR (x f), kH (x f), (fun u => al2 u ∨ (u = v ∧ kal (x f) v)), klo (x f), kAn (x f)) := by rw [← hx0, kUx_eq]
  have hS0 : (x0 f).2.1 = [(0, T, m)] ++ S := by rw [e0]; exact hS
  have j1 := kJ_pop J0 hS0 (fun e he => by rw [List.mem_singleton.mp he]; exact hk0) (by rw [e0])
  generalize hx1 : kUx x0 f ((x0 f).1, S, 0, kR (x0 f), kH (x0 f), kal (x0 f), klo (x0 f), kAn (x0 f)) = x1 at j1
  have e1 : x1 f = ((x f).1, S, 0, kR (x f), kH (x f), (fun u => al2 u ∨ (u = v ∧ kal (x f) v)), klo (x f), kAn (x f)) := by
    rw [← hx1, kUx_eq, e0]; rfl
  have xo : ∀ j : Nat, j ≠ f → x1 j = x j := fun j hj => by rw [← hx1, kUx_ne hj, ← hx0, kUx_ne hj]
  have hcv : kCl V f (wl S) d = V d := kCl_ge (fun g => by have := g.2.1; omega)
  have ha : ∀ (j u : Nat) (b : lLc), j ≤ f → kA (x1 j) u → kR (x1 j) u = some b → lCmp b (d :: π) → lP b (d :: π) := fun j u b hj hu hb hcm => by
    by_cases e : j = f
    · subst e
      rw [e1] at hu hb
      have hb : kR (x j) u = some b := hb
      have hA2 : ∀ u : Nat, ((u < 40 ∧ al2 u) ∨ (40 ≤ u ∧ u < 40 + wl S)) → kA (x j) u := fun u hu => by
        rcases hu with ⟨a, b⟩ | ⟨a, b⟩
        · exact Or.inl ⟨a, hal u b⟩
        · exact Or.inr ⟨a, by omega⟩
      have hu2 : ((u < 40 ∧ al2 u) ∨ (40 ≤ u ∧ u < 40 + wl S)) ∨ (u = v ∧ kal (x j) v) := by
        rcases hu with ⟨a, b⟩ | ⟨a, b⟩
        · rcases b with b | b
          · exact Or.inl (Or.inl ⟨a, b⟩)
          · exact Or.inr b
        · exact Or.inl (Or.inr ⟨a, b⟩)
      rcases d7 with ⟨rfl, rfl, n5⟩ | ⟨π0, ρ2, g1, rfl, rfl, h56, g2⟩
      · rcases hu2 with hu2 | ⟨rfl, hu2⟩
        · exact absurd (lAc_var (A2 := fun u => (u < 40 ∧ al2 u) ∨ (40 ≤ u ∧ u < 40 + wl S)) iv hA2 hk hu2 hb hcm).1 id
        · obtain ⟨h56, -⟩ := hJ.2.2.1 j hj u b (Or.inl ⟨hv4, hu2⟩) hb
          rw [hkr] at h56
          exact absurd (yRf.mp h56) n5
      · by_cases euv : u = v
        · rw [euv, g1] at hb
          injection hb with hb
          rw [← hb]
          exact lP_app (d :: π0) ρ2
        · rcases hu2 with hu2 | ⟨q, -⟩
          · have hun : (yT R S0).1 (rt (j, v)) = 6 := by rw [hkr]; exact (hkv h56).2
            rcases lAc_ref (A2 := fun u => (u < 40 ∧ al2 u) ∨ (40 ≤ u ∧ u < 40 + wl S)) iv hA2 (Or.inl ⟨hv4, (hkv h56).1⟩) g1 hk hu2 euv hb (Or.inr hun) hcm with q | q
            · exact absurd q.1 id
            · exact lP_tr (lRt_up q) (lP_app (d :: π0) ρ2)
          · exact absurd q euv
    · rw [xo j e] at hu hb
      rcases d7 with ⟨rfl, rfl, n5⟩ | ⟨π0, ρ2, g1, rfl, rfl, h56, g2⟩
      · obtain ⟨j2, w, r, e8, e9⟩ := lIv_fr (hJ.2.1.1 j hj) hu hb
        rw [e8] at hcm
        obtain ⟨e7, -⟩ := lCmp_cons hcm
        injection e7 with e7 _
        omega
      · have hun : (yT R S0).1 (rt (f, v)) = 6 := by rw [hkr]; exact (hkv h56).2
        have := kUp hJ.2.1 (r := v) (b := d :: π0) (Or.inl ⟨hv4, (hkv h56).1⟩) g1 hun (j := j) (by omega) hu hb (lCmp_sym (lCmp_pre (lP_app (d :: π0) ρ2) (lCmp_sym hcm)))
        exact lP_tr this (lP_app (d :: π0) ρ2)
  have j2 := kJ_as2 j1 d1 (by rw [e1]; exact hno) d2 (by rw [hcv]; exact d3) s2 ⟨s3, s4⟩ ha
  have j3 := kJ_wk2 (H2 := kH (x f)) (al2 := al2) (lo2 := lo2) j2 (by rw [e1]) (by rw [e1]; exact fun _ _ _ _ _ q => q) (by rw [e1]; exact fun u q => Or.inl q) (by rw [e1]; exact fun w π _ _ q => hlo w π q)
  have ex : kUx x1 f ((x1 f).1, (x1 f).2.1, 0, kR (x1 f), kH (x f), al2, lo2, kAn (x1 f)) = kUx x f ((x f).1, S, 0, kR (x f), kH (x f), al2, lo2, kAn (x f)) := by
    rw [e1, ← hx1, kUx2, ← hx0, kUx2]; rfl
  rw [ex, hcv] at j3
  refine ⟨j3, fun j u b hj hu hb => ha j u b hj ?_ ?_⟩
  · by_cases e : j = f
    · subst e
      rw [kUx_top] at hu
      rw [e1]
      rcases hu with ⟨a, b⟩ | z
      · exact Or.inl ⟨a, Or.inl b⟩
      · exact Or.inr z
    · rw [kUx_lo e] at hu
      rw [xo j e]; exact hu
  · by_cases e : j = f
    · subst e
      rw [kUx_top] at hb
      rw [e1]; exact hb
    · rw [kUx_lo e] at hb
      rw [xo j e]; exact hb
end PS98b
end PS98
end
-- m5.v.lean.txt
section
section PS99
variable {R : yR} {K : Ky} {S0 Sl S S1 S2 S3 : Sg} {D : fD} {i k j f nw n v T : Nat} {vt : Nat → Nat → Nat} {tb : Nat → lTb} {x : Nat → kFm} {bs : Nat → Nat} {g : Nat → Int32} {X : kFm} {rt : Nat × Nat → Nat} {V : Nat × Nat → qV} {C L H : Nat × Nat → List Nat} {ρ : lLc} {r : List tE}
/-- what lacks a value behind an assignment -/
theorem FnD.lo14 (hL : LFS R S0 g) (hE : D.E.y = yT R S0) (h : FnD R S0 i D) (e : edg D k j) (hk : (D.I k).kd = 14) (hpa : (D.I k).pa = some (v, ρ, T)) (hms : qMs ρ) (hqw : qM ρ → qW (yT R S0) (D.E.vt v) ρ T) {w : Nat} {π : lLc} (hw : w < 40) (q : LO R S0 D k w π) (hn : ¬ (w = v ∧ qM ρ ∧ lCmp π ρ)) : LO R S0 D j w π := fun h1 h2 => by
  obtain ⟨U, h3⟩ := h2
  have hy := nYk_of hL
  refine h.lo hy hE e hw q (fun c hc _ hm => hn ?_) h1 ⟨U, h3⟩
  rw [hE] at h3
  rcases hm with ⟨z, _⟩ | ⟨_, v2, ρ2, T2, z1, z2, z3⟩
  · omega
  · rw [hpa] at z1
    cases z1
    have hm : qM ρ := fun s hs => by
      rcases hms s hs with y | y
      · exact y
      · exact absurd y (z2 s hs)
    have htv := h.2.2.1.1 k v T ρ e.1 e.2.1 (by rw [hk]; decide) hpa
    rw [htv] at z3
    have c1 := inR_16 hy h1 h3 hc
    have c2 := inR_16 hy hm (hqw hm) z3
    obtain rfl : w = v := by omega
    exact ⟨rfl, hm, inR_cmp hy h1 hm h3 (hqw hm) hc z3⟩
/-- an assignment: its place, the frame behind it -/
theorem RQ.as (hL : LFS R S0 g) (h1 : RQ R S0 vt tb i D k f x bs Sl nw S1) (hk : (D.I k).kd = 14) (hac : (D.I k).ac = 6) (hi : iPa D.E (D.I k) r v ρ T) (hs : D.st k = eT T :: r) (hwr : wl r = 0) (hρr : isRf T → ρ = []) (he0 : ¬ isRf T → eT T = (0, T, 0))
  (hcs : (ρ = [] ∧ (D.I k).ho = some v ∧ (isRf T → (D.I k).us = [40] ∧ (D.I k).fr = [40]) ∧ (¬ isRf T → (D.I k).us = [] ∧ (D.I k).fr = [])) ∨ (ρ ≠ [] ∧ (D.I k).ho = none ∧ (D.I k).fr = [] ∧ (isRf (D.E.vt v) → (D.I k).us = [v] ∧ D.E.vt v % 2 = 1) ∧ (¬ isRf (D.E.vt v) → (D.I k).us = [])))
  (hed : edg D k (k + 1)) (hJ : kJ (yT R S0) vt tb f x rt V) (hN : kN (yT R S0) (zN R S0) (szN R S0) (nMS S1) (Zl S1 72) (Zr S1 74) f x rt V bs C L H) :
  ∃ (d : Nat × Nat) (π : lLc) (X : kFm), (d.1 ≤ f ∧ d.2 < 40 ∧ (8, d.2, 0) ∈ (x d.1).2.1) ∧ qW (yT R S0) (rt d) π T ∧ prS (V d) π ∧ (∀ n : Nat, wRn (yT R S0) (zN R S0) (nMS S1) (rt d) (hdN (C d)) π n → (ρ.length = 0 ∧ n = hdN (C (f, v))) ∨ gWk (yT R S0) (zN R S0) (nMS S1) (D.E.vt v) (hdN (C (f, v))) ρ n) ∧
    (vaR (yT R S0) (szN R S0) (nMS S1) T (V (f, 40)) (Zl S1 72 (bs f)) (L (f, 40)) (H (f, 40)) ∧ ((yT R S0).1 T = 2 → qF (yT R S0) (V (f, 40)) [] T)) ∧
    kJ (yT R S0) vt tb f (kUx x f X) rt (qUp (kCl V f 0) d (qG (V d) π (V (f, 40)))) ∧ (X.1 = i ∧ X.2.1 = trL (AL D k) r ∧ X.2.2.1 = 0 ∧ kAn X = kAn (x f)) ∧ (∀ u : Nat, u < 40 → AL D (k + 1) u → kal X u) ∧ (∀ u κ : Nat, u < 40 → AL D (k + 1) u → kH X u κ → HK D (k + 1) u κ) ∧ (∀ (u : Nat) (π : lLc), u < 40 → klo X u π → LO R S0 D (k + 1) u π) ∧
    ∀ (j u : Nat) (e : Nat × Nat) (π9 : lLc), j ≤ f → kA (kUx x f X j) u → kR (kUx x f X j) u = some (e :: π9) → ((j, u) ≠ d ∧ kA (x j) u ∧ kR (x j) u = some (e :: π9) ∧ (e = d → lP π π9 → π9 = π)) ∨ ((j, u) = d ∧ e ≠ d ∧ (e.1 ≤ f ∧ e.2 < 40 ∧ (8, e.2, 0) ∈ (x e.1).2.1) ∧ π = [] ∧ (yT R S0).1 T ≠ 2 ∧ ∃ n2 : Nat, Zl S1 72 (bs f) = nL n2 ∧ n2 < 430000 ∧ wRn (yT R S0) (zN R S0) (nMS S1) (rt e) (hdN (C e)) π9 n2 ∧ ∃ T9 : Nat, qW (yT R S0) (rt e) π9 T9 ∧ prS (V e) π9) := by
  have hy := nYk_of hL
  have hB := yB_yT (R := R) (S0 := S0)
  have hf := Nat.le_refl f
  obtain ⟨hpa, ⟨hv4, had⟩, hvr, hpt, hms, hT0, hlen, hnr⟩ := hi
  have hEy := h1.1.2.2.2.2
  have hpt' := hpt
  rw [hEy] at hpt
  have hgt := h1.1.2.2.2.1
  rw [hs] at hgt
  have hrn := hgt.tl
  have hFn := h1.1.1
  have hnm : kNm (eT T) := eT_nm
  have wst : wl (D.st k) = 1 := by rw [hs, wl_n hnm, hwr]
  obtain ⟨a1, a2, a3, a4, a5, a6⟩ := h1.2.2.2.2.2.1
  have hvt : vt (x f).1 = D.E.vt := by rw [a1]; exact h1.2.2.2.2.2.2.2.2.1
  have htb : tb (x f).1 = tbD D := by rw [a1]; exact h1.2.2.2.2.2.2.2.2.2
  have hst := h1.st.2
  have k24 : (D.I k).kd ≠ 24 := by rw [hk]; decide
  have wl0 : wl (trL (AL D k) r) = 0 := by rw [trL_wl]; exact hwr
  have hS8 : (8, v, 0) ∈ trL (AL D k) r := trL_8.mpr hvr
  have hvS : (8, v, 0) ∈ (x f).2.1 := by rw [a2, hs]; exact List.mem_cons_of_mem _ hS8
  have hno : ∀ r1 m2 : Nat, (5, r1, m2) ∉ trL (AL D k) r ∧ (6, r1, m2) ∉ trL (AL D k) r := fun r1 m2 => ⟨fun z => absurd (Or.inr (Or.inl rfl)) (trL_4 (pn_4 hrn) _ z), fun z => absurd (Or.inr (Or.inr rfl)) (trL_4 (pn_4 hrn) _ z)⟩
  have hkr := (hJ.2.2.2.2.2.2.1 f hf v hv4 hvS).1
  have hkr' := hkr
  rw [hvt] at hkr
  have hva40 := ((hN.1 f 40 hf).2.1 (Nat.le_refl _) (by rw [hst, wst]; decide)).2
  have hqw : qM ρ → qW (yT R S0) (D.E.vt v) ρ T := fun hm => by
    rcases hpt with ⟨_, w⟩ | ⟨h56, ⟨w1, w2⟩ | ⟨ρ2, w1, _⟩⟩
    · exact w
    · rw [w1, w2]; exact rfl
    · rw [w1] at hm
      exact absurd (hm (1, 0) (List.mem_cons_self ..)) (by show ¬ ((1 : Nat) = 0); decide)
  have hno40 : (x f).2.2.1 = 0 := a3
  by_cases hT : isRf T
  · -- a reference
    have hρ := hρr hT
    subst hρ
    have hvT : D.E.vt v = T := by
      have := hqw qM_nil
      exact this.symm
    obtain ⟨_, ho, hus1, _⟩ | ⟨hne, _⟩ := hcs
    · obtain ⟨hus, hfr⟩ := hus1 hT
      have hal40 : AL D k 40 := Or.inl (by rw [hus]; exact List.mem_singleton_self _)
      obtain ⟨q, U, hU9, hq, eTT⟩ : ∃ q U : Nat, U < 10000 ∧ ((q = 1 ∧ T = 10000 + 2 * U) ∨ (q = 2 ∧ T = 10001 + 2 * U)) ∧ eT T = (q, U, 0) := by
        by_cases c : T % 2 = 0
        · refine ⟨1, (T - 10000) / 2, by have := hT.1; have := hT.2; omega, Or.inl ⟨rfl, by have := hT.1; omega⟩, ?_⟩
          unfold eT
          rw [if_pos hT.1, if_pos c]
        · refine ⟨2, (T - 10000) / 2, by have := hT.1; have := hT.2; omega, Or.inr ⟨rfl, by have := hT.1; omega⟩, ?_⟩
          unfold eT
          rw [if_pos hT.1, if_neg c]
      have hS : (x f).2.1 = (q, U, 0) :: trL (AL D k) r := by
        rw [a2, hs, eTT]
        show trE (AL D k) (wl r) (q, U, 0) :: trL (AL D k) r = _
        rw [trE_r (by show q = 1 ∨ q = 2; omega) (Or.inr (by rw [hwr]; exact hal40))]
      have hTv : vt (x f).1 v = T := by rw [hvt]; exact hvT
      obtain ⟨a, b1, b2, b3, b4⟩ := kJ_asR (v := v) (al2 := fun u => u < 40 ∧ AL D (k + 1) u) (lo2 := fun w π => LO R S0 D (k + 1) w π ∨ 40 ≤ w) (hd := HK D (k + 1) v) hB.2.2.1 hB.2.2.2 hJ hS a3 hno hU9 (by rw [hTv]; exact hq) hv4 hS8 (fun u hu q => by
        rw [a5]
        exact ⟨q.1, hFn.al hed (by omega) (fun z => by rw [ho] at z; exact hu (Option.some.inj z).symm) q.2⟩) (fun w π hw hn q => by
        rw [a6] at q
        by_cases c : w < 40
        · exact hn (Or.inl (hFn.lo14 hL hEy hed hk hpa hms hqw c q (fun z => hw z.1)))
        · exact hn (Or.inr (by omega))) (fun κ q => by
        rw [wl0, a4] at q
        rcases q with ⟨_, q⟩ | ⟨q, _⟩
        · exact hFn.hf hed (by omega) ho k24 (by rw [hfr]; exact List.mem_singleton_self _) q.1
        · omega)
      rw [wl0] at b1 b2 b3 b4
      have b2 : rt (f, 40) = vt (x f).1 v := b2
      rw [qRt_id hkr'] at b4
      rw [b2, hTv] at hva40
      have h56 := (yRf (R := R) (S0 := S0)).mpr hT
      have hT2 : (yT R S0).1 T ≠ 2 := by rcases h56 with z | z <;> rw [z] <;> decide
      have hks : kA (x f) 40 := Or.inr ⟨Nat.le_refl _, by rw [hst, wst]; omega⟩
      refine ⟨(f, v), [], ((x f).1, trL (AL D k) r, 0, lUp (kR (x f)) v (some a), lUp (kH (x f)) v (HK D (k + 1) v), (fun u => u < 40 ∧ AL D (k + 1) u), (fun w π => LO R S0 D (k + 1) w π ∨ 40 ≤ w), kAn (x f)), ⟨hf, hv4, hvS⟩, by rw [hkr, hvT]; exact rfl, trivial, fun n hn => Or.inl ⟨rfl, hn⟩, ⟨hva40, fun z => absurd z hT2⟩, by rw [qG_nil]; exact b4, ⟨a1, rfl, rfl, rfl⟩, fun u hu q => ⟨hu, q⟩, fun u κ hu q z => ?_, fun u π hu q => ?_, fun j u e π9 hj hA hR => ?_⟩
      · have z : lUp (kH (x f)) v (HK D (k + 1) v) u κ := z
        by_cases c0 : u = v
        · rw [c0, lUp_eq] at z; rw [c0]; exact z
        · rw [lUp_ne c0, a4] at z
          rcases z with ⟨_, z⟩ | ⟨z, _⟩
          · exact hFn.hk hed (by omega) (fun y => by rw [ho] at y; exact c0 (Option.some.inj y).symm) z.1
          · omega
      · rcases q with q | q
        · exact q
        · omega
      · by_cases ej : j = f
        · subst ej
          rw [kUx_top] at hA hR
          have hR : lUp (kR (x j)) v (some a) u = some (e :: π9) := hR
          by_cases eu : u = v
          · rw [eu, lUp_eq] at hR
            have hR := Option.some.inj hR
            subst hR
            obtain ⟨g1, e', π', g2, g3, g4, g5⟩ := hJ.2.2.1 j hf 40 _ hks b1
            obtain ⟨rfl, rfl⟩ := List.cons.inj g2
            obtain ⟨l1, l2, l3, T9, l4, _, l6⟩ := hJ.ld hf hks b1
            obtain ⟨n2, m1, m2, _, m4⟩ := hN.2.2.2 j 40 e π9 hf hks (Or.inr ⟨Nat.le_refl _, by rw [hst, wst]; omega⟩) b1
            refine Or.inr ⟨by rw [eu], fun z => ?_, ⟨l1, l2, l3⟩, rfl, hT2, n2, m4 (Nat.le_refl _), m1, m2, T9, l4, l6⟩
            rw [z, hkr'] at g4
            have g56 := g1
            have nr := hB.2.2.2 _ g1
            rw [b2] at g4 nr
            obtain ⟨_, w2⟩ := qW_rf (by rw [hTv]; exact h56) g4
            rw [w2] at nr
            rw [b2] at g1
            exact g1.elim nr.1 nr.2
          · rw [lUp_ne eu] at hR
            have hA' : kA (x j) u := by
              rcases hA with ⟨q1, q2⟩ | ⟨q1, q2⟩
              · refine Or.inl ⟨q1, ?_⟩
                have q2 : u < 40 ∧ AL D (k + 1) u := q2
                rw [a5]
                exact ⟨q1, hFn.al hed (by omega) (fun z => by rw [ho] at z; exact eu (Option.some.inj z).symm) q2.2⟩
              · have q2 : u < 40 + wl (trL (AL D k) r) + 0 := q2
                omega
            refine Or.inl ⟨fun z => eu (Prod.mk.inj z).2, hA', hR, fun z _ => ?_⟩
            obtain ⟨l1, l2, l3, T9, l4, _, l6⟩ := hJ.ld hf hA' hR
            rw [z, hkr'] at l4
            exact (qW_rf (by rw [hTv]; exact h56) l4).1
        · rw [kUx_lo ej] at hA hR
          refine Or.inl ⟨fun z => ej (Prod.mk.inj z).1, hA, hR, fun z _ => ?_⟩
          have := kJ_hd1 hJ hj hA hR
          rw [z] at this
          have this : f ≤ j := this
          omega
    · exact absurd rfl hne
  · have eTT : eT T = (0, T, 0) := he0 hT
    have hS : (x f).2.1 = (0, T, 0) :: trL (AL D k) r := by
      rw [a2, hs, eTT]
      exact trL_0 (E := [(0, T, 0)]) (fun e he => by rw [List.mem_singleton.mp he])
    obtain ⟨s1, s2, s3, s4⟩ := kJ_tv hJ hS hT0
    rw [wl0] at s1 s2
    have s1 : rt (f, 40) = T := s1
    rw [s1] at hva40
    by_cases hm : qM ρ
    · -- members alone
      have hnv : ¬ isRf (D.E.vt v) := fun w => by
        obtain ⟨w1, w2⟩ := qW_rf (yRf.mpr w) (hqw hm)
        rw [← w2] at w; exact hT w
      have hnr5 : (yT R S0).1 (rt (f, v)) ≠ 5 ∧ (yT R S0).1 (rt (f, v)) ≠ 6 := by
        rw [hkr]
        exact ⟨fun z => hnv (yRf.mp (Or.inl z)), fun z => hnv (yRf.mp (Or.inr z))⟩
      have hou : ∀ u : Nat, u ≠ v → (D.I k).ho ≠ some u := fun u hu z => by
        rcases hcs with ⟨_, y, _⟩ | ⟨_, y, _⟩
        · rw [y] at z; exact hu (Option.some.inj z).symm
        · rw [y] at z; cases z
      have J0 := kJ_al (v := v) (hd := HK D (k + 1) v) hJ hv4 a3 (fun z hz => by
        obtain ⟨t, gg⟩ := z
        have := ((hJ.1 (f, v)).1 [] t gg hz).1
        have this : t = rt (f, v) := this
        show (yT R S0).1 t ≠ 5 ∧ (yT R S0).1 t ≠ 6
        rw [this]; exact hnr5)
      generalize hx0 : kUx x f ((x f).1, (x f).2.1, 0, lUp (kR (x f)) v none, lUp (kH (x f)) v (HK D (k + 1) v), (fun u => kal (x f) u ∨ u = v), klo (x f), kAn (x f)) = x0 at J0
      have e0 : x0 f = ((x f).1, (x f).2.1, 0, lUp (kR (x f)) v none, lUp (kH (x f)) v (HK D (k + 1) v), (fun u => kal (x f) u ∨ u = v), klo (x f), kAn (x f)) := by rw [← hx0, kUx_eq]
      have hck := hFn.ck h1.1.2.1.1 h1.1.2.1.2.1 h1.1.2.1.2.2 hpa (by rw [hac]; decide) (fun z => hT z.2.2) (Or.inr ⟨hms, T, hpt'⟩) (A2 := fun u => u ≠ v ∧ u < 40 ∧ AL D (k + 1) u) (fun u κ z1 z2 => ⟨by omega, hFn.ab hed (by omega) z1.2.2, hou u z1.1⟩)
      obtain ⟨J1, hcmp⟩ := kJ_asA (v := v) (ρ := ρ) (T := T) (m := 0) (S := trL (AL D k) r) (al2 := fun u => u < 40 ∧ AL D (k + 1) u) (lo2 := fun w π => LO R S0 D (k + 1) w π ∨ 40 ≤ w) J0 (by rw [e0]; exact hS) (by rw [e0]) hno hT0 hv4 hS8 (by rw [e0]; show qW (yT R S0) (vt (x f).1 v) ρ T; rw [hvt]; exact hqw hm) hm (fun u q => by
        rw [e0]
        show kal (x f) u ∨ u = v
        by_cases c : u = v
        · exact Or.inr c
        · refine Or.inl ?_
          rw [a5]; exact ⟨q.1, hFn.al hed (by omega) (hou u c) q.2⟩) (fun w π hn => by
        by_cases c : w = v ∧ lCmp π ρ
        · exact Or.inr c
        · refine Or.inl (fun q => hn ?_)
          rw [e0] at q
          have q : klo (x f) w π := q
          rw [a6] at q
          by_cases c4 : w < 40
          · exact Or.inl (hFn.lo14 hL hEy hed hk hpa hms hqw c4 q (fun z => c ⟨z.1, z.2.2⟩))
          · exact Or.inr (by omega)) (by
        rw [e0]
        intro u κ z1 z2 z3 z4 z5
        have z1' : ((u < 40 ∧ (u < 40 ∧ AL D (k + 1) u)) ∨ (40 ≤ u ∧ u < 40 + wl (trL (AL D k) r))) ∧ lUp (kR (x f)) v none u ≠ none := z1
        have hun : u ≠ v := fun z => by rw [z, lUp_eq] at z1'; exact z1'.2 rfl
        have z2 : lUp (kH (x f)) v (HK D (k + 1) v) u κ := z2
        rw [lUp_ne hun, a4] at z2
        have z3 : ¬ (tb (x f).1).2.2.2.1 κ := z3
        have z4 : (tb (x f).1).1 κ = v := z4
        have z5 : lCmp ((tb (x f).1).2.1 κ) ρ := z5
        rw [htb] at z3 z4 z5
        have hu4 : u < 40 ∧ AL D (k + 1) u := by
          rcases z1'.1 with ⟨_, y⟩ | ⟨y1, y2⟩
          · exact y
          · omega
        have := (hck u κ ⟨hun, hu4⟩ z2 z3 z4 z5).1
        rw [hac] at this
        omega)
      rw [e0, ← hx0, kUx2, wl0] at J1
      refine ⟨(f, v), ρ, ((x f).1, trL (AL D k) r, 0, lUp (kR (x f)) v none, lUp (kH (x f)) v (HK D (k + 1) v), (fun u => u < 40 ∧ AL D (k + 1) u), (fun w π => LO R S0 D (k + 1) w π ∨ 40 ≤ w), kAn (x f)), ⟨hf, hv4, hvS⟩, by rw [hkr]; exact hqw hm, prS.mem hm, fun n hn => Or.inr (Or.inl ⟨hnv, by rw [hkr] at hn; exact hn⟩), ⟨hva40, fun _ => s2.2⟩, J1, ⟨a1, rfl, rfl, rfl⟩, fun u hu q => ⟨hu, q⟩, fun u κ hu q z => ?_, fun u π hu q => ?_, fun j u e π9 hj hA hR => ?_⟩
      · have z : lUp (kH (x f)) v (HK D (k + 1) v) u κ := z
        by_cases c0 : u = v
        · rw [c0, lUp_eq] at z; rw [c0]; exact z
        · rw [lUp_ne c0, a4] at z
          rcases z with ⟨_, z⟩ | ⟨z, _⟩
          · exact hFn.hk hed (by omega) (hou u c0) z.1
          · omega
      · rcases q with q | q
        · exact q
        · omega
      · by_cases ej : j = f
        · subst ej
          rw [kUx_top] at hA hR
          have hR : lUp (kR (x j)) v none u = some (e :: π9) := hR
          have eu : u ≠ v := fun z => by rw [z, lUp_eq] at hR; cases hR
          have hA2 : u < 40 ∧ AL D (k + 1) u := by
            rcases hA with ⟨q1, q2⟩ | ⟨q1, q2⟩
            · exact q2
            · have q2 : u < 40 + wl (trL (AL D k) r) + 0 := q2
              omega
          have hcm := hcmp u (e :: π9) (Or.inl ⟨hA2.1, hA2⟩) (by rw [e0]; exact hR)
          rw [lUp_ne eu] at hR
          refine Or.inl ⟨fun z => eu (Prod.mk.inj z).2, Or.inl ⟨hA2.1, by rw [a5]; exact ⟨hA2.1, hFn.al hed (by omega) (hou u eu) hA2.2⟩⟩, hR, fun z w => absurd (Or.inr ?_) hcm⟩
          rw [z]; exact lP_consI w
        · rw [kUx_lo ej] at hA hR
          refine Or.inl ⟨fun z => ej (Prod.mk.inj z).1, hA, hR, fun z _ => ?_⟩
          have := kJ_hd1 hJ hj hA hR
          rw [z] at this
          have this : f ≤ j := this
          omega
    · -- behind a star
      have hst1 : ∃ s ∈ ρ, s.1 = 1 := Classical.byContradiction (fun w => hm (fun s hs => by
        rcases hms s hs with y | y
        · exact y
        · exact absurd ⟨s, hs, y⟩ w))
      have hne : ρ ≠ [] := fun z => by
        obtain ⟨s, y, _⟩ := hst1
        rw [z] at y; cases y
      obtain ⟨z, _⟩ | ⟨_, ho, hfr, hus1, hus2⟩ := hcs
      · exact absurd z hne
      · have hou : ∀ u : Nat, (D.I k).ho ≠ some u := fun u z => by rw [ho] at z; cases z
        have hfu := hFn.fu hy hEy h1.1.2.1.1 h1.1.2.1.2.1 h1.1.2.1.2.2 hpa k24 (by rw [hac]; decide) (by rw [hac]; decide) (Or.inr hst1) (pTy_fu hpt').1 (pTy_fu hpt').2
        rw [hEy, ← a6] at hfu
        have hkv : isRf (vt (x f).1 v) → kal (x f) v := fun w => by
          rw [hvt] at w
          rw [a5]
          exact ⟨hv4, Or.inl (by rw [(hus1 w).1]; exact List.mem_singleton_self _)⟩
        obtain ⟨d, π, n, ⟨c1, c2, c3⟩, c4, c5, c6, c7, c8, c9⟩ := plN hy hJ hN hv4 hvS (by rw [hvt]; exact hpt) hms hfu (fun w => ⟨hkv w, hne⟩)
        have hck := hFn.ck h1.1.2.1.1 h1.1.2.1.2.1 h1.1.2.1.2.2 hpa (by rw [hac]; decide) (fun z => hT z.2.2) (Or.inr ⟨hms, T, hpt'⟩) (A2 := fun u => (u < 40 ∧ (u < 40 ∧ AL D (k + 1) u)) ∨ (40 ≤ u ∧ u < 40 + wl (trL (AL D k) r))) (fun u κ z1 z2 => by
          rcases z1 with ⟨_, z1, z3⟩ | ⟨z1, z3⟩
          · exact ⟨by omega, hFn.ab hed (by omega) z3, hou u⟩
          · omega)
        obtain ⟨J1, hpre⟩ := kJ_asB (v := v) (ρ := ρ) (T := T) (m := 0) (d := d) (π := π) (S := trL (AL D k) r) (al2 := fun u => u < 40 ∧ AL D (k + 1) u) (lo2 := fun w π => LO R S0 D (k + 1) w π ∨ 40 ≤ w) hJ hS a3 hno hT0 hv4 hS8 (fun w => ⟨hkv w, by
          rw [hvt] at w ⊢
          exact yRf6 w (hus1 w).2⟩) (fun u q => by rw [a5]; exact ⟨q.1, hFn.al hed (by omega) (hou u) q.2⟩) (fun w π q => by
          rw [a6] at q
          by_cases c4 : w < 40
          · exact Or.inl (hFn.lo14 hL hEy hed hk hpa hms hqw c4 q (fun z => hm z.2.1))
          · exact Or.inr (by omega)) (by
          rw [htb]
          show lCk (tbD D) (kH (x f)) _ _ _ _
          rw [a4]
          intro u κ z1 z2 z3 z4 z5
          have := (hck u κ z1 z2 z3 z4 z5).1
          rw [hac] at this
          omega) c2 c4 c5 c9
        rw [wl0] at J1
        refine ⟨d, π, ((x f).1, trL (AL D k) r, 0, kR (x f), kH (x f), (fun u => u < 40 ∧ AL D (k + 1) u), (fun w π => LO R S0 D (k + 1) w π ∨ 40 ≤ w), kAn (x f)), ⟨c1, c2, c3⟩, c4, prS.of (hJ.1 d) (qF_pl c5), fun n9 hn => Or.inr ?_, ⟨hva40, fun _ => s2.2⟩, J1, ⟨a1, rfl, rfl, rfl⟩, fun u hu q => ⟨hu, q⟩, fun u κ hu q z => ?_, fun u π hu q => ?_, fun j u e π9 hj hA hR => ?_⟩
        · rw [wRn.det hn c6, ← hvt]; exact c8
        · have z : kH (x f) u κ := z
          rw [a4] at z
          rcases z with ⟨_, z⟩ | ⟨z, _⟩
          · exact hFn.hk hed (by omega) (hou u) z.1
          · omega
        · rcases q with q | q
          · exact q
          · omega
        · have hp := hpre j u _ hj hA hR
          have hAR : kA (x j) u ∧ kR (x j) u = some (e :: π9) := by
            by_cases ej : j = f
            · subst ej
              rw [kUx_top] at hA hR
              refine ⟨?_, hR⟩
              rcases hA with ⟨q1, q2⟩ | ⟨q1, q2⟩
              · refine Or.inl ⟨q1, ?_⟩
                have q2 : u < 40 ∧ AL D (k + 1) u := q2
                rw [a5]
                exact ⟨q1, hFn.al hed (by omega) (hou u) q2.2⟩
              · have q2 : u < 40 + wl (trL (AL D k) r) + 0 := q2
                omega
            · rw [kUx_lo ej] at hA hR
              exact ⟨hA, hR⟩
          refine Or.inl ⟨fun z => ?_, hAR.1, hAR.2, fun z w => ?_⟩
          · have g1 := (hJ.2.2.1 j hj u _ hAR.1 hAR.2).1
            rw [z] at g1
            obtain ⟨_, w2⟩ := qW_rf g1 c4
            rw [w2] at s3 s4
            exact g1.elim s3 s4
          · rw [z] at hp
            have := hp (Or.inr (lP_consI w))
            exact (lP_anti w (lP_cons this).2).symm
end PS99
end
-- m5.w.lean.txt
section
section PS100
variable {R : yR} {K : Ky} {S0 Sl S S1 S2 S3 : Sg} {D : fD} {i k j f nw n v T : Nat} {vt : Nat → Nat → Nat} {tb : Nat → lTb} {x : Nat → kFm} {bs : Nat → Nat} {g : Nat → Int32} {X : kFm}
theorem hl9 {l : List Nat} (key : ∀ q : Nat, cnN q l ≤ 1 ∧ (q ∈ l → q < 4000)) : l.length ≤ 4000 := by
  rw [← cnN_len (l := l) (m := 4000) (fun a ha => (key a).2 ha)]
  have := psN_le (w := fun a => cnN a l) (w2 := fun _ => 1) (n := 4000) (fun a _ => (key a).1)
  rw [psN_c9] at this
  omega
/-- ASSIGN -/
theorem s_14 (hL : LFS R S0 g) (hx : LX S0 Sl) (hE : hFE R S0 D) (h : RQ R S0 vt tb i D k f x bs Sl k S) (hQ : D.Pe < 24000) (hk : (D.I k).kd = 14) : Rt (f_step R.K S) (fun S2 _ => RTt R S0 vt tb i D k f x bs Sl S S2) := by
  have hy := nYk_of hL
  refine stp_14 h hQ hk (fun S1 h1 e70 e3 er el => ?_)
  have hp := h1.pt.1
  unfold tPt at hp
  rw [hk] at hp
  obtain ⟨hac, hln, v, ρ, T, r, hi, hs, hwr, hcs, _, _, hw⟩ := hp
  have k24 : (D.I k).kd ≠ 24 := by rw [hk]; decide
  have hed : edg D k (k + 1) := h1.e1 (kd_s hk (by decide))
  have hFn := h1.1.1
  have hgt := h1.1.2.2.2.1
  rw [hs] at hgt
  have hrn := hgt.tl
  have hT0 := hi.2.2.2.2.2.1
  have hv4 := hi.2.1.1
  have hvr := hi.2.2.1
  have wst : wl (D.st k) = 1 := by rw [hs, wl_n eT_nm, hwr]
  have hb := h1.sb
  have h73 := h1.2.2.2.1.2.1
  rw [wst] at h73 hb
  have hX1 := h1.2.2.1
  have e := hX1.1
  have h76 := h1.2.2.2.1.2.2
  have hf6 := h1.2.2.2.2.1
  have hws := h1.2.2.2.2.2.2.2.1
  have hst := h1.st.2
  obtain ⟨w, xt, r1, r2, hrx, exT⟩ := h1.ft hL hx hE hQ hi.1 hT0 k24
  obtain ⟨w', va, sa, ta, F, G, mu, p1, p2, p3, p4, p5, p6⟩ := h1.pw hL hx hE hi.1 k24
  obtain rfl : w' = w := by
    rw [rQ_n (show k < rlen 38 from h1.k24 hQ) (by decide), e.2.2.2.1, p1] at r1
    exact Option.some.inj (Option.some.inj r1)
  have he0 : ¬ isRf T → eT T = (0, T, 0) := fun hT => by
    rcases hrx.nm hL.1 with ⟨_, _, _, z9⟩ | ⟨_, _, _, _, z9, _⟩
    · rw [exT] at z9
      unfold eT at z9 ⊢
      by_cases c : 10000 ≤ T
      · rw [if_pos c] at z9
        by_cases c2 : T % 2 = 0
        · rw [if_pos c2] at z9; cases z9
        · rw [if_neg c2] at z9; cases z9
      · rw [if_neg c]
    · rw [exT] at z9; exact absurd z9 hT
  obtain ⟨rt, V, C, L, H, fl, t9, ⟨hJ, hN, hC, hF⟩, _⟩ := h1.2.2.2.2.2.2.1
  obtain ⟨a1, a2, a3, a4, a5, a6⟩ := h1.2.2.2.2.2.1
  have hvt : vt (x f).1 = D.E.vt := by rw [a1]; exact h1.2.2.2.2.2.2.2.2.1
  obtain ⟨d, π, X, ⟨d1, d4, dS⟩, qwd, prd, hgw, ⟨hva, hW⟩, hJ2, ⟨X1, X2, X3, X4⟩, x5, x6, x7, href⟩ := RQ.as hL h1 hk hac hi hs hwr (fun z => h1.r0 hL hx hE hi.1 k24 z) he0 hcs hed hJ hN
  obtain ⟨⟨⟨kk, zz1⟩, zz2, _⟩, q2, q3⟩ := hN.hd hy (d := d) d1 d4 dS
  obtain ⟨k0, c0, l0, g0, rest, hr, b1, b2, b3, b4, b5, b6, b7⟩ := zz1.fo hy zz2 qwd prd
  have hnlt : hdN c0 < 430000 := b3.lt q3
  have d60 : d.1 < 60 := by omega
  have d300 : d.2 < 300 := by omega
  have ne40 : ((f, 40) : Nat × Nat) ≠ d := fun z => by rw [← z] at d4; exact absurd d4 (by show ¬ (40 < 40); omega)
  have hvS : (8, v, 0) ∈ (x f).2.1 := by rw [a2]; exact trL_8.mpr (by rw [hs]; exact List.mem_cons_of_mem _ hvr)
  -- nodes stand apart
  have hd0 : ∀ a : Nat, (a ∈ c0 ∨ a ∈ l0) → (a ∉ fl ∧ 1 ≤ a ∧ a ≤ t9) ∧ cnN a c0 + cnN a l0 = 1 ∧ a ∉ L (f, 40) := fun a ha => by
    have h1' : 1 ≤ cnN a c0 + cnN a l0 := by
      rcases ha with z | z
      · have := cnN_mem.mp z; omega
      · have := cnN_mem.mp z; omega
    have hpa := b4 a
    have hm : a ∈ C d ∨ a ∈ L d := by
      by_cases z : a ∈ C d
      · exact Or.inl z
      · have := cnN_z z
        exact Or.inr (cnN_mem.mpr (by omega))
    obtain ⟨o1, o2, o3, o4, o5⟩ := hC.one d60 d300 hm
    exact ⟨⟨o1, o2, o3⟩, by omega, fun z => ne40 (o5 (f, 40) hf6 (show 40 < 300 by omega) (Or.inr z))⟩
  have h40 : ∀ a ∈ L (f, 40), a ∉ fl ∧ a ≤ t9 ∧ cnN a (L (f, 40)) ≤ 1 := fun a ha => by
    obtain ⟨o1, o2, o3, o4, o5⟩ := hC.one (r := (f, 40)) hf6 (show 40 < 300 by omega) (Or.inr ha)
    exact ⟨o1, o3, by omega⟩
  have hg9 : g0.length ≤ 4000 := hl9 (fun q => by
    have z1 := b5 q
    have z2 : cnN q (H d) ≤ sm2 (fun r => cnN q (H r)) := sm2_i1 (G := fun r => cnN q (H r)) d60 d300
    obtain ⟨z3, z4⟩ := hC.2 q
    exact ⟨by omega, fun z => (z4 (by have := cnN_mem.mp z; omega)).1⟩)
  have hcnt := b1.cnt hy
  have hsz := hy.1 T
  have hlen := b1.len hy
  have hcv : cvN c0 l0 fl t9 := hC.cv (r := d) d60 d300 hF.2.2.2.1 (fun a => by have := b4 a; omega)
  -- the program
  refine Rt.bn (Q := fun S2 _ => RTt R S0 vt tb i D k f x bs Sl S S2) ?_ (fun S2 _ q => by unfold f_step_590; exact Rt.rt q)
  unfold f_runAssign
  obtain ⟨r3, r4⟩ := r2 S1 e
  refine Rt.bd r1 (Rt.bd r3 (Rt.be r4 ?_))
  refine Rt.bn (pop_ (p := bs f) h73 (by omega)) (fun S3 xv ⟨u1, u2, u3, u4, u5⟩ => ?_)
  rw [u2]
  have n3 : nMS S3 = nMS S1 := u3.sam.1
  have e3' := (u3.rx hX1).1
  refine Rt.bd (v := nI ρ.length) (oI_mk (by rw [e3'.1]; exact p2.1) (by rw [e3'.2.1]; exact p2.2.1) rfl) ?_
  have hw74 : Zr S3 74 (40 * f + v) = nI (hdN (C (f, v))) := by
    rw [u3.2.2.2.2.2.2.1]
    exact ((hN.hd hy (d := (f, v)) (Nat.le_refl f) hv4 hvS).1).2.2
  have hfd : f_find R.K S3 (some w') (nI ρ.length) = some (S3, nI (hdN c0)) := fnd_ hL hx e3' p2 p3 p4 ((u3.2.2.2.2.2.2.2 76 (by decide)).trans h76) hf6 hv4 (Nat.le_refl _) hw74 ((hN.hd hy (d := (f, v)) (Nat.le_refl f) hv4 hvS).2.2) (by
    rw [List.take_length, n3, p5]
    exact hgw _ b3)
  refine Rt.be hfd ?_
  refine Rt.bn (doP_ (T := T) (k := k0) (V := qS (V d) π) (c := c0) (l := l0) (h := g0) (fl := fl) (t := t9) hL hx (by rw [n3]; exact b1) hrx exT e3' (u3.wq hX1.2.1) (u3.sam.fl hF) ((u3.rx hX1).2.2.2.2) (by
    have : Zr S3 63 = Zr S1 63 := by rw [u3.2.2.2.2.2.2.1]
    rw [this]; exact b2) hcv (by omega)) (fun S4 _ q4 => Rt.bn q4 (fun S5 _ ⟨fl3, v1, v2, v3, v4, v5, v6, v7⟩ => ?_))
  have go5 : GO (fun a => a ∈ c0 ∨ a ∈ l0) (fun q => q ∈ g0) (fun _ => False) S1 S5 := u3.go.tr v1.go
  have e5 := e.tr go5.1
  have hva5 : vaR (yT R S0) (szN R S0) (nMS S5) T (V (f, 40)) (Zl S1 72 (bs f)) (L (f, 40)) (H (f, 40)) := hva.st (go5.ag (fun a ha z => (hd0 a z).2.2 ha))
  have r63 : Zr S3 63 = Zr S1 63 := by rw [u3.2.2.2.2.2.2.1]
  have h63 : ∀ a ∈ c0, Zr S5 63 a = Zr S1 63 a := fun a ha => by rw [(v5 a ha).2, r63]
  refine Rt.bn (asp9_ (T := T) (W := V (f, 40)) (l := L (f, 40)) (h := H (f, 40)) (fl := fl3) (t := t9) (c0 := c0) hL hx e5 hrx exT hva5 hW v3 hlen (b2.cg h63) (cnN_nd.mpr (fun a => ?_)) (fun a ha => ⟨fun z => ?_, (h40 a ha).2.1, fun z => (hd0 a (Or.inl z)).2.2 ha⟩) (fun a ha => ⟨fun z => ?_, by have := (hd0 a (Or.inl ha)).1.2.2; have := hF.2.1; omega⟩) (fun a => ?_)) (fun S6 _ ⟨k1, l1, fl4, w1, w2, w3, w4, w5, w6⟩ => ?_)
  · by_cases c : a ∈ c0
    · have := (hd0 a (Or.inl c)).2.1; omega
    · rw [cnN_z c]; omega
  · have z1 := cnN_mem.mp z
    rw [v4 a, cnN_z (h40 a ha).1] at z1
    exact (hd0 a (Or.inr (cnN_mem.mpr (by omega)))).2.2 ha
  · have z1 := cnN_mem.mp z
    obtain ⟨⟨o1, _⟩, o2, _⟩ := hd0 a (Or.inl ha)
    have o3 := cnN_mem.mp ha
    rw [v4 a, cnN_z o1] at z1
    omega
  · by_cases c : a ∈ L (f, 40)
    · exact (h40 a c).2.2
    · rw [cnN_z c]; omega
  have go : GO (fun a => (a ∈ c0 ∨ a ∈ l0) ∨ a ∈ L (f, 40)) (fun q => q ∈ g0) (fun _ => False) S1 S6 := (go5.mo (fun a z => Or.inl z) (fun _ z => z) (fun _ z => z)).tr (w3.go.mo (fun a z => z.elim (fun y => Or.inl (Or.inl y)) Or.inr) (fun _ z => z) (fun _ z => z))
  have h81 : Zi S6 81 = nI 0 := by rw [w3.2.2.2.2.2.2.2.1 81 (by decide) (by decide)]; exact v2
  have h736 : Zi S6 73 = nI (bs f) := by rw [w3.2.2.2.2.2.2.2.1 73 (by decide) (by decide), v1.2.2.2.2.2.2.2.1 73 (by decide) (by decide) (by decide) (by decide)]; exact u4
  have h72 : ∀ q : Nat, Zl S6 72 q = Zl S1 72 q := fun q => by rw [w3.2.2.2.2.2.1 72 (by decide), v1.2.2.2.2.2.1 72 (by decide), u5]
  have h74 : Zr S6 74 = Zr S1 74 := by rw [w3.2.2.2.2.2.2.1 74 (by decide) (by decide), v1.2.2.2.2.2.2.1 74 (by decide) (by decide) (by decide) (by decide), u3.2.2.2.2.2.2.1]
  have wl0 : wl (trL (AL D k) r) = 0 := by rw [trL_wl]; exact hwr
  obtain ⟨l2, h2, nv1, nv2⟩ := hN.as (X := X) (d := d) (π := π) (W := V (f, 40)) (T := T) (c0 := c0) (l0 := l0) (g0 := g0) (rest := rest) (hr := hr) (l1 := l1) (h1 := H (f, 40)) (k1 := k1) (fl2 := fl4) (M2 := nMS S6) (sk2 := Zl S6 72) (tk2 := Zr S6 67) (A := fun a => (a ∈ c0 ∨ a ∈ l0) ∨ a ∈ L (f, 40)) (rt2 := rt) (V2 := qUp (kCl V f 0) d (qG (V d) π (V (f, 40)))) hy hJ hC hf6 hws d1 d4 dS (by rw [hst, wst]) (by rw [X2]; exact wl0) (fun u => by
    rw [X2, a2, trL_8, trL_8, hs, List.mem_cons]
    exact ⟨Or.inr, fun z => z.resolve_left (fun y => by
      have := eT_nm (t := T)
      rw [← y] at this
      exact this (Or.inl rfl))⟩) (fun q n1 n2 => ⟨rfl, (qUp_ne n1).trans (kCl_ge (fun z => n2 ⟨z.1, by have := z.2.1; omega⟩))⟩) rfl qUp_eq b4 b5 b6 b7 (fun a z => go.2.2.2.1 a z) (fun a z => z) (fun a ha => by
    show Zr S6 63 a = Zr S1 63 a
    rw [w4 a ha, h63 a ha]) w1 (fun a => by
    have z1 := w5 a
    have z2 := v4 a
    omega) (fun q => Nat.le_refl _) (fun q => by
    by_cases c : q ∈ g0
    · exact Or.inr (cnN_mem.mp c)
    · exact Or.inl (go.2.2.2.2.1 q c)) (fun j u e9 π9 hj hA hsc hR => by
    rcases href j u e9 π9 hj hA hR with z | ⟨z1, z2, z3, z4, z5, n2, z6, z7, z8, z9⟩
    · exact Or.inl z
    · refine Or.inr ⟨z1, z2, z3, hdN (C d), n2, ?_, ?_, z7, z8, z9⟩
      · have hl1 : (C d).length = 1 := by
          have t1 := zz1.len hy
          have t2 : (yT R S0).1 (rt d) ≠ 2 := by
            rw [z4] at qwd
            have qwd : T = rt d := qwd
            rw [← qwd]; exact z5
          exact t1.trans (hy.2.1 _ t2)
        match hCd : C d, hl1 with
        | [a], _ => rfl
      · obtain ⟨m, m1, m2⟩ := w6 z5
        have hm : m = hdN (C d) := by
          rw [z4] at b3
          have b3 : hdN c0 = hdN (C d) := b3
          rw [← b3, m1]; rfl
        rw [← hm]
        show Zl S6 61 m = nL n2
        rw [m2]; exact z6) (fun q _ => h72 q)
  refine Rt.rt ⟨hX1.go go (w3.wq v7) h81, Or.inr ⟨(go.2.1 3 (by decide)).trans e3, (go.2.1 70 (by decide)).trans e70, NXt.fr ?_ er ?_⟩⟩
  · have hjn := wkS_pn hw hrn
    have wj : wl (D.st (k + 1)) = 0 := (wkS_wl hw).trans hwr
    refine finG (X := X) hL h1.1 hed ⟨_, _, _, _, _, fl4, t9, hJ2, by rw [h74]; exact nv1, nv2, w2⟩ X3 X1 X4 (by rw [X2]; exact trL_t hw (fun n hn => by rw [hwr] at hn; omega)) (gtS.of hjn) hjn x5 x6 (fun m κ hm => by rw [wj] at hm; omega) (fun κ r1 m q => ?_) (fun u π hu4 _ q => x7 u π hu4 q) ((go.2.1 77 (by decide)).trans h1.2.2.2.1.1) (by rw [wj]; exact h736) go.2.2.1 (go.2.1 76 (by decide))
    rcases q with q | q
    · exact absurd (Or.inr (Or.inl rfl)) (trL_4 (pn_4 hjn) _ q)
    · exact absurd (Or.inr (Or.inr rfl)) (trL_4 (pn_4 hjn) _ q)
  · rw [h1.2.2.2.1.2.2, h.2.2.2.1.2.2]
end PS100
end
-- m5.x.lean.txt
section
/-- roots of a call: its arguments come to the new frame's variables -/
def caN (F : Nat × Nat → List Nat) (f w n : Nat) (c : Nat → List Nat) : Nat × Nat → List Nat := fun r => if r.1 = f + 1 then (if r.2 < n then c r.2 else []) else if r.1 = f ∧ 40 + w ≤ r.2 then [] else F r
section PS101
variable {y : qY} {vt : Nat → Nat → Nat} {tb : Nat → lTb} {zn sz rk : Nat → Nat} {M M2 : nM} {sk sk2 : Nat → Int64} {pl pl2 : Nat → Int32} {f w n t t2 : Nat} {x : Nat → kFm} {rt : Nat × Nat → Nat} {V : Nat × Nat → qV} {bs bs2 : Nat → Nat} {C L H F : Nat × Nat → List Nat} {fl fl2 : List Nat} {tk tk2 : Nat → Int32} {A : Nat → Prop} {X Xf : kFm} {c l : Nat → List Nat} {vt2 : Nat → Nat}
theorem psN_sp {u : Nat → Nat} {n : Nat} : ∀ {m : Nat}, psN u (n + m) = psN u n + psN (fun i => u (n + i)) m
  | 0 => rfl
  | m + 1 => by
    show psN u (n + m) + u (n + m) = psN u n + (psN (fun i => u (n + i)) m + u (n + m))
    rw [psN_sp (m := m)]; omega
theorem psN_s2 {u a b : Nat → Nat} {n m : Nat} (h1 : ∀ i : Nat, i < n → u i = a i) (h2 : ∀ i : Nat, i < m → u (n + i) = b i) : psN u (n + m) = psN a n + psN b m := by
  have e1 := psN_cg h1
  have e2 := psN_cg (w := fun i => u (n + i)) h2
  rw [psN_sp, e1, e2]
theorem caN_n {i : Nat} (h : i < n) : caN F f w n c (f + 1, i) = c i := by
  unfold caN; rw [if_pos rfl]; exact if_pos h
theorem caN_z {i : Nat} (h : ¬ i < n) : caN F f w n c (f + 1, i) = [] := by
  unfold caN; rw [if_pos rfl]; exact if_neg h
theorem caN_t {u : Nat} (h : 40 + w ≤ u) : caN F f w n c (f, u) = [] := by
  unfold caN
  rw [if_neg (show ¬ f = f + 1 by omega), if_pos ⟨rfl, h⟩]
theorem caN_o {r : Nat × Nat} (h1 : r.1 ≠ f + 1) (h2 : ¬ (r.1 = f ∧ 40 + w ≤ r.2)) : caN F f w n c r = F r := by
  unfold caN
  rw [if_neg h1, if_neg h2]
/-- a call: the nodes -/
theorem kN.call (hy : nYk y zn sz rk) (hJ : kJ y vt tb f x rt V) (hN : kN y zn sz M sk pl f x rt V bs C L H) (hC : kC C L H fl t tk) (hf6 : f + 1 < 60) (hw1 : ∀ j : Nat, j ≤ f → wl (x j).2.1 ≤ 177) (hwx : wl (x f).2.1 = w + n) (hXf : wl Xf.2.1 = w) (hXf8 : ∀ u : Nat, (8, u, 0) ∈ Xf.2.1 ↔ (8, u, 0) ∈ (x f).2.1) (hn40 : n ≤ 12) (hX0 : wl X.2.1 = 0) (hX8 : ∀ u : Nat, (8, u, 0) ∈ X.2.1 ↔ u < n)
  (hrf : ∀ (u : Nat) (a : lLc), kA Xf u → kSc Xf.2.1 u → kR Xf u = some a → kA (x f) u ∧ kR (x f) u = some a) (hrX : ∀ (u : Nat) (d : Nat × Nat) (π : lLc), u < n → kR X u = some (d :: π) → kR (x f) (40 + w + u) = some (d :: π) ∧ ∃ m : Nat, c u = [m] ∧ M2.w m = sk (bs f + (w + u)))
  (hp : ∀ i : Nat, i < n → plR y sz M2 (vt2 i) (V (f, 40 + w + i)) (pl2 (40 * (f + 1) + i)) (c i) (l i) (H (f, 40 + w + i))) (hpl : ∀ j u : Nat, j ≤ f → u < 40 → pl2 (40 * j + u) = pl (40 * j + u))
  (hM : ∀ a : Nat, ¬ A a → M2.w a = M.w a ∧ M2.h a = M.h a ∧ M2.x a = M.x a) (hA : ∀ a : Nat, A a → a ∈ fl ∨ t < a)
  (hfl2 : ∀ a : Nat, psN (fun i => cnN a (c i) + cnN a (l i)) n + cnN a fl2 + ind t a = psN (fun i => cnN a (L (f, 40 + w + i))) n + cnN a fl + ind t2 a) (htk : ∀ q : Nat, tk2 q = tk q)
  (hsk : ∀ q : Nat, q < bs f + w → sk2 q = sk q) (hbs : ∀ j : Nat, j ≤ f → bs2 j = bs j) (hbs1 : bs2 (f + 1) = bs f + w) :
  kN y zn sz M2 sk2 pl2 (f + 1) (kUx (kUx x f Xf) (f + 1) X) (kCt rt vt2 f) (kCa V f w n) bs2 (caN C f w n c) (caN L f w n l) (caN H f w n (fun i => H (f, 40 + w + i))) ∧ kC (caN C f w n c) (caN L f w n l) (caN H f w n (fun i => H (f, 40 + w + i))) fl2 t2 tk2 := by
  have hf := Nat.le_refl f
  have h177 := hw1 f hf
  have x1 : kUx (kUx x f Xf) (f + 1) X (f + 1) = X := kUx_eq
  have xf : kUx (kUx x f Xf) (f + 1) X f = Xf := by rw [kUx_ne (by omega)]; exact kUx_eq
  have xj : ∀ j : Nat, j < f → kUx (kUx x f Xf) (f + 1) X j = x j := fun j hj => by rw [kUx_ne (by omega), kUx_ne (by omega)]
  have top : ∀ u : Nat, 40 + w ≤ u → C (f, u) = [] ∧ (¬ u < 40 + (w + n) → L (f, u) = [] ∧ H (f, u) = []) := fun u hu => by
    obtain ⟨q1, q2, q3⟩ := hN.1 f u hf
    by_cases e : u < 40 + wl (x f).2.1
    · exact ⟨(q2 (by omega) e).1, fun z => by omega⟩
    · obtain ⟨z1, z2, z3⟩ := q3 (fun z => by rcases z with z | z <;> omega)
      exact ⟨z1, fun _ => ⟨z2, z3⟩⟩
  have hag : ∀ q : Nat × Nat, q.1 ≤ f → agN M M2 (C q) ∧ agN M M2 (L q) := fun q h2 => by
    have hq := hw1 q.1 h2
    by_cases cc : kSc (x q.1).2.1 q.2
    · have q300 : q.2 < 300 := by rcases cc with z | z <;> omega
      have key : ∀ a : Nat, (a ∈ C q ∨ a ∈ L q) → ¬ A a := fun a ha z => by
        obtain ⟨q1, _, q3, _⟩ := hC.one (r := q) (by omega) q300 ha
        rcases hA a z with z | z
        · exact q1 z
        · omega
      exact ⟨fun a ha => hM a (key a (Or.inl ha)), fun a ha => hM a (key a (Or.inr ha))⟩
    · obtain ⟨z1, z2, _⟩ := (hN.1 q.1 q.2 h2).2.2 cc
      have z1 : C q = [] := z1
      have z2 : L q = [] := z2
      rw [z1, z2]
      exact ⟨fun _ w => (by cases w), fun _ w => (by cases w)⟩
  have caO : ∀ (F : Nat × Nat → List Nat) (c : Nat → List Nat) (j u : Nat), j ≤ f → ¬ (j = f ∧ 40 + w ≤ u) → caN F f w n c (j, u) = F (j, u) := fun F c j u h1 h2 => caN_o (show j ≠ f + 1 by omega) h2
  refine ⟨kN.up (bs := bs) (bs2 := bs2) (f2 := f + 1) hy hJ hN (fun r => r.1 ≤ f ∧ ¬ (r.1 = f ∧ 40 + w ≤ r.2)) (fun j u ⟨k1, k3⟩ => ?_) (fun j u hj hk => ?_) (fun j u hj => ?_) ⟨by rw [hbs 0 (Nat.zero_le _)]; exact hN.2.2.1.1, fun j hj => ?_⟩ (fun j u d π hj ha hc he => ?_), ?_⟩
  · have k1 : j ≤ f := k1
    have k3 : ¬ (j = f ∧ 40 + w ≤ u) := k3
    obtain ⟨a1, a2⟩ := hag (j, u) k1
    refine ⟨⟨k1, hbs j k1⟩, ?_, fun a => ?_, ⟨kCt_f (by omega), (kCa_f (by omega)).trans (kCl_ge (fun z => k3 ⟨z.1, z.2.1⟩))⟩, ⟨caO _ _ j u k1 k3, caO _ _ j u k1 k3, caO _ _ j u k1 k3⟩, a1, a2, fun a _ => hpl j u k1 a, fun a b => hsk _ ?_⟩
    · by_cases e : j = f
      · subst e; rw [xf]; exact hXf8 u
      · rw [xj j (by omega)]
    · by_cases e : j = f
      · subst e; rw [xf, hXf, hwx]
        have : ¬ 40 + w ≤ u := fun z => k3 ⟨rfl, z⟩
        omega
      · rw [xj j (by omega)]
    · by_cases e : j = f
      · subst e
        have : ¬ 40 + w ≤ u := fun z => k3 ⟨rfl, z⟩
        omega
      · have := (hN.bsm k1 hf).2 (by omega)
        omega
  · by_cases e : j = f + 1
    · subst e
      rw [x1]
      by_cases cu : u < n
      · rw [kCt_n, kCa_n cu, caN_n cu, caN_n cu, caN_n cu]
        exact ⟨fun _ _ => hp u cu, fun z => by omega, fun z => absurd (Or.inl ⟨by omega, (hX8 u).mpr cu⟩) z⟩
      · rw [caN_z cu, caN_z cu, caN_z cu]
        exact ⟨fun _ z => absurd ((hX8 u).mp z) cu, fun _ z => by rw [hX0] at z; omega, fun _ => ⟨rfl, rfl, rfl⟩⟩
    · have c2 : j = f ∧ 40 + w ≤ u := Classical.byContradiction (fun z => hk ⟨by show j ≤ f; omega, z⟩)
      obtain ⟨rfl, c3⟩ := c2
      rw [xf, caN_t c3, caN_t c3, caN_t c3]
      exact ⟨fun z => by omega, fun _ z => by rw [hXf] at z; omega, fun _ => ⟨rfl, rfl, rfl⟩⟩
  · have n1 : ((j, u) : Nat × Nat).1 ≠ f + 1 := by show j ≠ f + 1; omega
    have n2 : ¬ (((j, u) : Nat × Nat).1 = f ∧ 40 + w ≤ ((j, u) : Nat × Nat).2) := fun z => by have : j = f := z.1; omega
    rw [caN_o n1 n2, caN_o n1 n2, caN_o n1 n2]
    exact hN.2.1 j u (by omega)
  · by_cases e : j = f
    · subst e
      rw [xf, hbs1, hbs j (Nat.le_refl _), hXf]
    · rw [xj j (by omega), hbs j (by omega), hbs (j + 1) (by omega)]
      exact hN.2.2.1.2 j (by omega)
  · by_cases e : j = f + 1
    · subst e
      rw [x1] at ha hc he
      have hun : u < n := by
        rcases hc with ⟨z1, z2⟩ | ⟨z1, z2⟩
        · exact (hX8 u).mp z2
        · rw [hX0] at z2; omega
      obtain ⟨r1, m, r2, r3⟩ := hrX u d π hun he
      have hks : kA (x f) (40 + w + u) := Or.inr ⟨by omega, by omega⟩
      obtain ⟨l1, l2, l3, T9, l4, _, l6⟩ := hJ.ld hf hks r1
      obtain ⟨n2, m1, m2, _, m4⟩ := hN.2.2.2 f (40 + w + u) d π hf hks (Or.inr ⟨by omega, by omega⟩) r1
      have m4 := m4 (by omega)
      rw [show 40 + w + u - 40 = w + u by omega] at m4
      obtain ⟨b1, b2⟩ := hag d l1
      obtain ⟨da, db⟩ := d
      have l1' : da ≤ f := l1
      have l2' : db < 40 := l2
      refine Or.inr ⟨n2, m1, ?_, fun _ => ⟨m, by rw [caN_n hun]; exact r2, r3.trans m4⟩, fun z => by omega⟩
      rw [kCt_f (by omega), caO _ _ da db l1' (by omega)]
      exact ((hN.hd hy l1 l2 l3).1).wk hy l4 l6 m2 b1 b2
    · by_cases e2 : j = f
      · subst e2
        rw [xf] at ha hc he
        obtain ⟨z1, z2⟩ := hrf u _ ha hc he
        obtain ⟨l1, l2, l3, _⟩ := hJ.ld hf z1 z2
        refine Or.inl ⟨⟨hf, fun z => ?_⟩, ⟨l1, fun z => by have := z.2; omega⟩, z1, z2⟩
        have z3 : 40 + w ≤ u := z.2
        rcases hc with y | y
        · omega
        · rw [hXf] at y; omega
      · rw [xj j (by omega)] at ha hc he
        obtain ⟨l1, l2, l3, _⟩ := hJ.ld (show j ≤ f by omega) ha he
        exact Or.inl ⟨⟨by show j ≤ f; omega, fun z => e2 z.1⟩, ⟨l1, fun z => by have := z.2; omega⟩, ha, he⟩
  · -- counts
    have rl : ∀ i : Nat, i < n → (if i < n then (f + 1, i) else (f, 40 + w + (i - n)) : Nat × Nat) = (f + 1, i) := fun i hi => if_pos hi
    have rh : ∀ i : Nat, (if n + i < n then (f + 1, n + i) else (f, 40 + w + (n + i - n)) : Nat × Nat) = (f, 40 + w + i) := fun i => by rw [if_neg (by omega), show n + i - n = i by omega]
    have old : ∀ i : Nat, C (f + 1, i) = [] ∧ L (f + 1, i) = [] ∧ H (f + 1, i) = [] := fun i => hN.2.1 (f + 1) i (by omega)
    refine hC.fam (r := fun i => if i < n then (f + 1, i) else (f, 40 + w + (i - n))) (n := n + n) (fun i hi => ?_) (fun i j hi hj he => ?_) (fun q hq => ?_) (fun a => ?_) (fun q => Or.inl ?_)
    · show (if i < n then (f + 1, i) else (f, 40 + w + (i - n)) : Nat × Nat).1 < 60 ∧ (if i < n then (f + 1, i) else (f, 40 + w + (i - n)) : Nat × Nat).2 < 300
      by_cases e : i < n
      · rw [if_pos e]; exact ⟨hf6, show i < 300 by omega⟩
      · rw [if_neg e]; exact ⟨show f < 60 by omega, show 40 + w + (i - n) < 300 by omega⟩
    · have he : (if i < n then (f + 1, i) else (f, 40 + w + (i - n)) : Nat × Nat) = (if j < n then (f + 1, j) else (f, 40 + w + (j - n))) := he
      by_cases e1 : i < n
      · rw [if_pos e1] at he
        by_cases e2 : j < n
        · rw [if_pos e2] at he; exact (Prod.mk.inj he).2
        · rw [if_neg e2] at he
          have := (Prod.mk.inj he).1
          omega
      · rw [if_neg e1] at he
        by_cases e2 : j < n
        · rw [if_pos e2] at he
          have := (Prod.mk.inj he).1
          omega
        · rw [if_neg e2] at he
          have := (Prod.mk.inj he).2
          omega
    · obtain ⟨qa, qb⟩ := q
      by_cases e : qa = f + 1
      · subst e
        have nb : ¬ qb < n := fun z => hq qb (by omega) (by rw [if_pos z])
        obtain ⟨o1, o2, o3⟩ := old qb
        rw [caN_z nb, caN_z nb, caN_z nb, o1, o2, o3]
        exact ⟨rfl, rfl, rfl⟩
      · by_cases e2 : qa = f ∧ 40 + w ≤ qb
        · obtain ⟨rfl, e2⟩ := e2
          have nb : ¬ qb < 40 + (w + n) := fun z => hq (n + (qb - (40 + w))) (by omega) (by
            rw [rh, show 40 + w + (qb - (40 + w)) = qb by omega])
          obtain ⟨t1, t2⟩ := top qb e2
          obtain ⟨t2, t3⟩ := t2 nb
          rw [caN_t e2, caN_t e2, caN_t e2, t1, t2, t3]
          exact ⟨rfl, rfl, rfl⟩
        · exact ⟨caN_o e e2, caN_o e e2, caN_o e e2⟩
    · have z0 : cnN a ([] : List Nat) = 0 := rfl
      have e1 : psN (fun i => cnN a (caN C f w n c (if i < n then (f + 1, i) else (f, 40 + w + (i - n)))) + cnN a (caN L f w n l (if i < n then (f + 1, i) else (f, 40 + w + (i - n))))) (n + n) = psN (fun i => cnN a (c i) + cnN a (l i)) n := by
        rw [psN_s2 (a := fun i => cnN a (c i) + cnN a (l i)) (b := fun _ => 0) (fun i hi => by rw [rl i hi, caN_n hi, caN_n hi]) (fun i hi => by rw [rh i, caN_t (by omega), caN_t (by omega)]; rfl), psN_z]
        exact Nat.add_zero _
      have e2 : psN (fun i => cnN a (C (if i < n then (f + 1, i) else (f, 40 + w + (i - n)))) + cnN a (L (if i < n then (f + 1, i) else (f, 40 + w + (i - n))))) (n + n) = psN (fun i => cnN a (L (f, 40 + w + i))) n := by
        rw [psN_s2 (a := fun _ => 0) (b := fun i => cnN a (L (f, 40 + w + i))) (fun i hi => by
          obtain ⟨o1, o2, _⟩ := old i
          rw [rl i hi, o1, o2]; rfl) (fun i hi => by
          rw [rh i, (top (40 + w + i) (by omega)).1, z0, Nat.zero_add]), psN_z]
        exact Nat.zero_add _
      rw [e1, e2]
      exact hfl2 a
    · have z0 : cnN q ([] : List Nat) = 0 := rfl
      have e1 : psN (fun i => cnN q (caN H f w n (fun i => H (f, 40 + w + i)) (if i < n then (f + 1, i) else (f, 40 + w + (i - n))))) (n + n) = psN (fun i => cnN q (H (f, 40 + w + i))) n := by
        rw [psN_s2 (a := fun i => cnN q (H (f, 40 + w + i))) (b := fun _ => 0) (fun i hi => by rw [rl i hi, caN_n hi]) (fun i hi => by rw [rh i, caN_t (by omega)]; rfl), psN_z]
        exact Nat.add_zero _
      have e2 : psN (fun i => cnN q (H (if i < n then (f + 1, i) else (f, 40 + w + (i - n))))) (n + n) = psN (fun i => cnN q (H (f, 40 + w + i))) n := by
        rw [psN_s2 (a := fun _ => 0) (b := fun i => cnN q (H (f, 40 + w + i))) (fun i hi => by
          obtain ⟨_, _, o3⟩ := old i
          rw [rl i hi, o3]; rfl) (fun i hi => by rw [rh i]), psN_z]
        exact Nat.zero_add _
      rw [e1, e2]
      exact ⟨Nat.le_refl _, Or.inl (htk q)⟩
end PS101
end
-- m5.y.lean.txt
section
section PS102
variable {y : qY} {vt : Nat → Nat → Nat} {tb : Nat → lTb} {zn sz rk : Nat → Nat} {M : nM} {sk : Nat → Int64} {pl : Nat → Int32} {f w m t T : Nat} {x : Nat → kFm} {rt : Nat × Nat → Nat} {V : Nat × Nat → qV} {bs : Nat → Nat} {C L H : Nat × Nat → List Nat} {fl : List Nat} {tk : Nat → Int32} {X : kFm} {W : qV}
/-- a return: the nodes -/
theorem kN.ret (hy : nYk y zn sz rk) (hJ : kJ y vt tb (f + 1) x rt V) (hN : kN y zn sz M sk pl (f + 1) x rt V bs C L H) (hC : kC C L H fl t tk) (hf6 : f + 1 < 60) (hw1 : ∀ j : Nat, j ≤ f + 1 → wl (x j).2.1 ≤ 177) (hwf : wl (x f).2.1 = w) (hm : m ≤ 1) (h8 : ∀ u : Nat, (8, u, 0) ∉ (x (f + 1)).2.1) (hwm : wl (x (f + 1)).2.1 = m) (hXw : wl X.2.1 = w + m) (hX8 : ∀ u : Nat, (8, u, 0) ∈ X.2.1 ↔ (8, u, 0) ∈ (x f).2.1) (hT : m = 1 → rt (f + 1, 40) = T ∧ W = V (f + 1, 40))
  (hr : ∀ (u : Nat) (d : Nat × Nat) (π : lLc), kA X u → kSc X.2.1 u → kR X u = some (d :: π) → (u ≠ 40 + w ∧ kA (x f) u ∧ kR (x f) u = some (d :: π)) ∨ (u = 40 + w ∧ m = 1 ∧ kR (x (f + 1)) 40 = some (d :: π) ∧ d.1 ≤ f)) :
  kN y zn sz M sk pl f (kUx x f X) (qRt rt (f, 40 + w) T) (kRv V f (40 + w) W) bs C (u2N L (f, 40 + w) (f + 1, 40) (L (f + 1, 40)) []) (u2N H (f, 40 + w) (f + 1, 40) (H (f + 1, 40)) []) ∧ kC C (u2N L (f, 40 + w) (f + 1, 40) (L (f + 1, 40)) []) (u2N H (f, 40 + w) (f + 1, 40) (H (f + 1, 40)) []) fl t tk := by
  have hf : f ≤ f + 1 := Nat.le_succ f
  have h177 := hw1 f hf
  have hne : ((f, 40 + w) : Nat × Nat) ≠ (f + 1, 40) := fun z => by have := (Prod.mk.inj z).1; omega
  have hbf : bs (f + 1) = bs f + w := by rw [hN.2.2.1.2 f (Nat.lt_succ_self f), hwf]
  obtain ⟨c40, l40, h40⟩ := (hN.1 f (40 + w) hf).2.2 (fun z => by rcases z with z | z <;> omega)
  have n1 : ∀ u : Nat, C (f + 1, u) = [] ∧ (u ≠ 40 ∨ m = 0 → L (f + 1, u) = [] ∧ H (f + 1, u) = []) := fun u => by
    obtain ⟨q1, q2, q3⟩ := hN.1 (f + 1) u (Nat.le_refl _)
    by_cases e : 40 ≤ u ∧ u < 40 + wl (x (f + 1)).2.1
    · exact ⟨(q2 e.1 e.2).1, fun z => by omega⟩
    · obtain ⟨z1, z2, z3⟩ := q3 (fun z => by
        rcases z with z | z
        · exact h8 u z.2
        · exact e z)
      exact ⟨z1, fun _ => ⟨z2, z3⟩⟩
  refine ⟨kN.up (bs := bs) (bs2 := bs) (f2 := f) hy hJ hN (fun r => r.1 ≤ f ∧ r ≠ (f, 40 + w)) (fun j u ⟨k1, k2⟩ => ?_) (fun j u hj hk => ?_) (fun j u hj => ?_) ⟨hN.2.2.1.1, fun j hj => ?_⟩ (fun j u d π hj ha hc he => ?_), ?_⟩
  · have k1 : j ≤ f := k1
    have k3 : ((j, u) : Nat × Nat) ≠ (f + 1, 40) := fun z => by have := (Prod.mk.inj z).1; omega
    refine ⟨⟨by omega, rfl⟩, ?_, fun a => ?_, ⟨qRt_ne k2, kRv_ne (by omega) k2⟩, ⟨rfl, u2N_o k2 k3, u2N_o k2 k3⟩, fun _ _ => ⟨rfl, rfl, rfl⟩, fun _ _ => ⟨rfl, rfl, rfl⟩, fun _ _ => rfl, fun _ _ => rfl⟩
    · by_cases e : j = f
      · subst e; rw [kUx_top]; exact hX8 u
      · rw [kUx_lo e]
    · by_cases e : j = f
      · subst e
        rw [kUx_top, hXw, hwf]
        have : u ≠ 40 + w := fun z => k2 (by rw [z])
        omega
      · rw [kUx_lo e]
  · have c2 : (j, u) = (f, 40 + w) := Classical.byContradiction (fun z => hk ⟨hj, z⟩)
    obtain ⟨rfl, rfl⟩ := Prod.mk.inj c2
    rw [kUx_top, qRt_eq, kRv_eq, u2N_1, u2N_1, c40]
    refine ⟨fun z => by omega, fun _ z => ?_, fun z => ⟨rfl, ?_⟩⟩
    · have hm1 : m = 1 := by rw [hXw] at z; omega
      obtain ⟨t1, t2⟩ := hT hm1
      have q := ((hN.1 (j + 1) 40 (Nat.le_refl _)).2.1 (Nat.le_refl _) (by rw [hwm]; omega)).2
      rw [t1, hbf] at q
      rw [t2, show 40 + w - 40 = w by omega]
      exact ⟨rfl, q⟩
    · have hm0 : m = 0 := Classical.byContradiction (fun y => z (Or.inr ⟨by omega, by rw [hXw]; omega⟩))
      exact (n1 40).2 (Or.inr hm0)
  · by_cases e : j = f + 1
    · subst e
      by_cases e2 : u = 40
      · subst e2
        rw [u2N_2 hne.symm, u2N_2 hne.symm]
        exact ⟨(n1 40).1, rfl, rfl⟩
      · have k3 : ((f + 1, u) : Nat × Nat) ≠ (f + 1, 40) := fun z => e2 (Prod.mk.inj z).2
        have k2 : ((f + 1, u) : Nat × Nat) ≠ (f, 40 + w) := fun z => by have := (Prod.mk.inj z).1; omega
        rw [u2N_o k2 k3, u2N_o k2 k3]
        exact ⟨(n1 u).1, (n1 u).2 (Or.inl e2)⟩
    · have k3 : ((j, u) : Nat × Nat) ≠ (f + 1, 40) := fun z => e (Prod.mk.inj z).1
      have k2 : ((j, u) : Nat × Nat) ≠ (f, 40 + w) := fun z => by have := (Prod.mk.inj z).1; omega
      rw [u2N_o k2 k3, u2N_o k2 k3]
      exact hN.2.1 j u (by omega)
  · rw [kUx_lo (by omega)]; exact hN.2.2.1.2 j (by omega)
  · by_cases e : j = f
    · subst e
      rw [kUx_top] at ha hc he
      rcases hr u d π ha hc he with ⟨z1, z2, z3⟩ | ⟨z1, z2, z3, z4⟩
      · obtain ⟨_, l2, _⟩ := hJ.ld hf z2 z3
        have l1 := kJ_hd1 hJ hf z2 z3
        exact Or.inl ⟨⟨Nat.le_refl _, fun z => z1 (Prod.mk.inj z).2⟩, ⟨l1, fun z => by rw [z] at l2; have l2 : 40 + w < 40 := l2; omega⟩, z2, z3⟩
      · have hks : kA (x (j + 1)) 40 := Or.inr ⟨Nat.le_refl _, by rw [hwm]; omega⟩
        obtain ⟨_, l2, _⟩ := hJ.ld (Nat.le_refl _) hks z3
        obtain ⟨n2, m1, m2, _, m4⟩ := hN.2.2.2 (j + 1) 40 d π (Nat.le_refl _) hks (Or.inr ⟨Nat.le_refl _, by rw [hwm]; omega⟩) z3
        have m4 := m4 (Nat.le_refl _)
        have hd : d ≠ (j, 40 + w) := fun z => by rw [z] at l2; have l2 : 40 + w < 40 := l2; omega
        refine Or.inr ⟨n2, m1, ?_, fun z => by omega, fun _ => ?_⟩
        · rw [qRt_ne hd]; exact m2
        · rw [z1, show 40 + w - 40 = w by omega, ← hbf]; exact m4
    · rw [kUx_lo e] at ha hc he
      obtain ⟨_, l2, _⟩ := hJ.ld (show j ≤ f + 1 by omega) ha he
      have l1 := kJ_hd1 hJ (show j ≤ f + 1 by omega) ha he
      exact Or.inl ⟨⟨hj, fun z => e (Prod.mk.inj z).1⟩, ⟨by omega, fun z => by rw [z] at l2; have l2 : 40 + w < 40 := l2; omega⟩, ha, he⟩
  · have r0 : ∀ i : Nat, i < 2 → i = 0 ∨ i = 1 := fun i hi => by omega
    refine hC.fam (r := fun i => if i = 0 then (f, 40 + w) else (f + 1, 40)) (n := 2) (fun i hi => ?_) (fun i j hi hj he => ?_) (fun q hq => ?_) (fun a => ?_) (fun q => Or.inl ?_)
    · rcases r0 i hi with e | e <;> subst e
      · exact ⟨show f < 60 by omega, show 40 + w < 300 by omega⟩
      · exact ⟨hf6, show 40 < 300 by omega⟩
    · rcases r0 i hi with e | e <;> rcases r0 j hj with e2 | e2 <;> subst e <;> subst e2
      · rfl
      · exact absurd he hne
      · exact absurd he.symm hne
      · rfl
    · have k1 := hq 0 (by omega)
      have k2 := hq 1 (by omega)
      exact ⟨rfl, u2N_o k1 k2, u2N_o k1 k2⟩
    · rw [psN_two, psN_two]
      show (cnN a (C (f, 40 + w)) + cnN a (u2N L (f, 40 + w) (f + 1, 40) (L (f + 1, 40)) [] (f, 40 + w))) + (cnN a (C (f + 1, 40)) + cnN a (u2N L (f, 40 + w) (f + 1, 40) (L (f + 1, 40)) [] (f + 1, 40))) + cnN a fl + ind t a = (cnN a (C (f, 40 + w)) + cnN a (L (f, 40 + w))) + (cnN a (C (f + 1, 40)) + cnN a (L (f + 1, 40))) + cnN a fl + ind t a
      rw [u2N_1, u2N_2 hne.symm, l40]
      have z0 : cnN a ([] : List Nat) = 0 := rfl
      rw [z0]
      omega
    · rw [psN_two, psN_two]
      show cnN q (u2N H (f, 40 + w) (f + 1, 40) (H (f + 1, 40)) [] (f, 40 + w)) + cnN q (u2N H (f, 40 + w) (f + 1, 40) (H (f + 1, 40)) [] (f + 1, 40)) ≤ cnN q (H (f, 40 + w)) + cnN q (H (f + 1, 40)) ∧ _
      rw [u2N_1, u2N_2 hne.symm, h40]
      have z0 : cnN q ([] : List Nat) = 0 := rfl
      rw [z0]
      exact ⟨by omega, Or.inl rfl⟩
end PS102
end
-- m5.z.lean.txt
section
section PS103
variable {R : yR} {K : Ky} {S0 Sl S S1 S2 S3 : Sg} {f n t p0 P0 ws aw cap : Nat} {g : Nat → Int32} {fl : List Nat} {gs : List Value} {fv : Nat → Option Nat} {ty : Nat → Nat} {W : Nat → qV} {L H : Nat → List Nat} {Q : Sg → Unit → Prop}
/-- some of a call's arguments lie in the new frame's variables -/
def cI9 (R : yR) (S0 : Sg) (f t p0 : Nat) (fl : List Nat) (ty : Nat → Nat) (W : Nat → qV) (L H : Nat → List Nat) (S : Sg) (i : Nat) (S1 : Sg) (c l : Nat → List Nat) (fl1 : List Nat) (t1 : Nat) : Prop := GO (fun a => a ∈ fl ∨ t < a) (fun _ => False) (fun p => ∃ j : Nat, j < i ∧ p = 40 * (f + 1) + j) S S1 ∧ (wq S → wq S1) ∧ (Zi S1 73 = Zi S 73 ∧ Zi S1 81 = Zi S 81 ∧ Zl S1 72 = Zl S 72) ∧ FLs S1 fl1 t1 ∧ (t ≤ t1 ∧ t1 + fl.length ≤ fl1.length + t + i ∧ ∀ a ∈ fl1, a ∈ fl) ∧ (∀ j : Nat, j < i → (∃ k : Nat, pL (yT R S0) (szN R S0) (nMS S1) k (ty j) (W j) (c j) (l j) (H j)) ∧ lkN (Zr S1 63) (c j) ∧ Zr S1 74 (40 * (f + 1) + j) = nI (hdN (c j)) ∧ ((yT R S0).1 (ty j) ≠ 2 → ∃ m : Nat, c j = [m] ∧ Zl S1 61 m = Zl S 72 (p0 + j))) ∧ ∀ a : Nat, psN (fun j => cnN a (c j) + cnN a (l j)) i + cnN a fl1 + ind t a = psN (fun j => cnN a (L j)) i + cnN a fl + ind t1 a
/-- runCall's loop over the arguments -/
theorem rc88 (hL : LFS R S0 g) (hx : LX S0 Sl) (e : RNx Sl S) (h76 : Zi S 76 = nI (f + 1 + 1)) (hf : f + 1 < 60) (ha : ws ∈ ZL Sl ∧ ZF Sl ws = .inr (16, gs) ∧ gs[3]? = some (.int (nI n)) ∧ gs[5]? = some (.int (nI P0)) ∧ gs[17]? = some (.ref aw)) (hw : aw ∈ ZL Sl ∧ ZF Sl aw = .inl (R.K.1 5, cap, .inr (.inr (.inr (.inr fv))))) (hn : n ≤ 12) (hnc : n ≤ cap ∧ cap < 1000) (hv : ∀ j : Nat, j < n → ∃ (va z : Nat) (mu : Int32), fv j = some va ∧ isU Sl va j (some z) mu ∧ rTy S0 z ∧ abT S0 z = ty j) (hva : ∀ j : Nat, j < n → vaR (yT R S0) (szN R S0) (nMS S) (ty j) (W j) (Zl S 72 (p0 + j)) (L j) (H j)) (h1 : ∀ a ∈ fl, 1 ≤ a) (hro : t ≤ fl.length + 424640) (hsub : ∀ a : Nat, psN (fun j => cnN a (L j)) n + cnN a fl ≤ ind t a) (hp0 : p0 + n < 20000)
  (kf : ∀ (S1 : Sg) (c l : Nat → List Nat) (fl1 : List Nat) (t1 : Nat), cI9 R S0 f t p0 fl ty W L H S n S1 c l fl1 t1 → Q (Ui (Ui S1 73 (nI p0)) 77 (nI P0)) ()) : ∀ (r i d : Nat) (S1 : Sg) (c l : Nat → List Nat) (fl1 : List Nat) (t1 : Nat), i + r = n → r < d → cI9 R S0 f t p0 fl ty W L H S i S1 c l fl1 t1 → Rt (f_runCall_88 R.K d S1 (some ws) (nI p0) (nI i)) Q
  | r, i, 0, _, _, _, _, _, _, hd, _ => by omega
  | 0, i, d + 1, S1, c, l, fl1, t1, hi, hd, q => by
    obtain rfl : i = n := by omega
    have e1 := e.tr q.1.1
    have q5 : oI (Ui S1 73 (nI p0)) 16 (some ws) 5 = some (nI P0) := oI_mk (show ws ∈ ZL S1 from by rw [e1.1]; exact ha.1) (show ZF S1 ws = _ from by rw [e1.2.1]; exact ha.2.1) ha.2.2.2.1
    unfold f_runCall_88
    refine Rt.bd (v := nI i) (oI_mk (by rw [e1.1]; exact ha.1) (by rw [e1.2.1]; exact ha.2.1) ha.2.2.1) (Rt.ip (nI_le (Nat.le_refl _) (by omega)) ?_)
    exact Rt.bd (v := Ui S1 73 (nI p0)) rfl (Rt.bd q5 (Rt.bd (v := Ui (Ui S1 73 (nI p0)) 77 (nI P0)) rfl (Rt.rt (kf S1 c l fl1 t1 q))))
  | r + 1, i, d + 1, S1, c, l, fl1, t1, hi, hd, q => by
    have hin : i < n := by omega
    obtain ⟨g1, g2, ⟨g31, g32, g33⟩, g4, ⟨g51, g52, g53⟩, g6, g7⟩ := q
    have e1 := e.tr g1.1
    obtain ⟨va, z, mu, v1, v2, v3, v4⟩ := hv i hin
    have oR4 : oR S1 16 (some ws) 17 = some (some aw) := oR_mk (v := some aw) (by rw [e1.1]; exact ha.1) (by rw [e1.2.1]; exact ha.2.1) ha.2.2.2.2
    have aq : aQ R.K 5 S1 (some aw) (nI i) = some (some va) := by
      rw [← v1]; exact aQ_n (by rw [e1.1]; exact hw.1) (by rw [e1.2.1]; exact hw.2) (by omega) (by omega)
    obtain ⟨sl1, sl2⟩ := slo_ (R := R) (f := f + 1) (S := S1) e1 v2 ((g1.2.1 76 (by decide)).trans h76)
    -- what is told of nodes
    have hLm : ∀ a : Nat, psN (fun j => cnN a (L j)) i + cnN a (L i) ≤ psN (fun j => cnN a (L j)) n := fun a => psN_sl (w := fun j => cnN a (L j)) (Nat.le_refl i) hin
    have ind1 : ∀ s a : Nat, ind s a ≤ 1 ∧ (1 ≤ ind s a → 1 ≤ a ∧ a ≤ s) := fun s a => by
      unfold ind
      by_cases cc : 1 ≤ a ∧ a ≤ s
      · rw [if_pos cc]; exact ⟨Nat.le_refl _, fun _ => cc⟩
      · rw [if_neg cc]; exact ⟨by omega, fun w => by omega⟩
    have hLi : ∀ a ∈ L i, a ∉ fl ∧ a ≤ t ∧ 1 ≤ a := fun a hai => by
      have w1 := cnN_mem.mp hai
      have w2 := hLm a
      have w3 := hsub a
      obtain ⟨w4, w5⟩ := ind1 t a
      obtain ⟨w6, w7⟩ := w5 (by omega)
      exact ⟨fun w => by have := cnN_mem.mp w; omega, w7, w6⟩
    have hold : ∀ j : Nat, j < i → ∀ a : Nat, (a ∈ c j ∨ a ∈ l j) → a ∉ fl1 ∧ a ≤ t1 := fun j hj a haj => by
      have w1 : 1 ≤ cnN a (c j) + cnN a (l j) := by
        rcases haj with w | w
        · have := cnN_mem.mp w; omega
        · have := cnN_mem.mp w; omega
      have w2 := psN_i1 (v := fun j => cnN a (c j) + cnN a (l j)) hj
      have w2 : cnN a (c j) + cnN a (l j) ≤ psN (fun j => cnN a (c j) + cnN a (l j)) i := w2
      have w3 := g7 a
      have w4 := hLm a
      have w5 := hsub a
      obtain ⟨w6, w7⟩ := ind1 t1 a
      exact ⟨fun w => by have := cnN_mem.mp w; omega, (w7 (by omega)).2⟩
    have hvi : vaR (yT R S0) (szN R S0) (nMS S1) (ty i) (W i) (Zl S 72 (p0 + i)) (L i) (H i) := (hva i hin).st (g1.ag (fun a hai w => by
      obtain ⟨w1, w2, _⟩ := hLi a hai
      rcases w with w | w
      · exact w1 w
      · omega))
    unfold f_runCall_88
    refine Rt.bd (v := nI n) (oI_mk (by rw [e1.1]; exact ha.1) (by rw [e1.2.1]; exact ha.2.1) ha.2.2.1) (Rt.iq (fun w => by have := (nI_leI (by omega) (by omega)).mp w; omega) ?_)
    refine Rt.bd oR4 (Rt.bd aq (Rt.be sl1 (Rt.bd oR4 (Rt.bd aq (Rt.bd sl2 ?_)))))
    rw [nI_add]
    refine Rt.bd (rJ_n (show p0 + i < rlen 72 from by show _ < 20000; omega) (by decide)) ?_
    rw [g33]
    refine Rt.bn (fpl_ (T := ty i) (W := W i) (l := L i) (h := H i) (fl := fl1) (t := t1) hL hx e1 v3 v4 hvi g4 (fun a w => h1 a (g53 a w)) (by omega) (fun a hai => ⟨fun w => (hLi a hai).1 (g53 a w), by have := (hLi a hai).2.1; omega⟩)) (fun S5 r5 ⟨c5, l5, fl3, t3, k3, b1, b2, b3, b4, b5, ⟨b71, b72, b73, b74⟩, b6⟩ => ?_)
    rw [b1]
    refine Rt.bd (wRI_n (show 40 * (f + 1) + i < rlen 74 from by show _ < 2440; omega) (by decide)) ?_
    have go6 : GO (fun _ => False) (fun _ => False) (fun p => p = 40 * (f + 1) + i) S5 (Ur S5 74 (upd (Zr S5 74) (40 * (f + 1) + i) (nI (hdN c5)))) := Ur.go rfl
    have y6 : Zr (Ur S5 74 (upd (Zr S5 74) (40 * (f + 1) + i) (nI (hdN c5)))) 74 = upd (Zr S5 74) (40 * (f + 1) + i) (nI (hdN c5)) := Zr_us
    have i6 : Zi (Ur S5 74 (upd (Zr S5 74) (40 * (f + 1) + i) (nI (hdN c5)))) = Zi S5 := rfl
    have l6 : Zl (Ur S5 74 (upd (Zr S5 74) (40 * (f + 1) + i) (nI (hdN c5)))) = Zl S5 := rfl
    have r6 : ∀ q : Nat, q ≠ 74 → Zr (Ur S5 74 (upd (Zr S5 74) (40 * (f + 1) + i) (nI (hdN c5)))) q = Zr S5 q := fun q hq => Zr_u9 hq
    have f6 : FLs (Ur S5 74 (upd (Zr S5 74) (40 * (f + 1) + i) (nI (hdN c5)))) fl3 t3 := b4.eq rfl rfl (r6 63 (by decide))
    generalize Ur S5 74 (upd (Zr S5 74) (40 * (f + 1) + i) (nI (hdN c5))) = S6 at go6 y6 i6 l6 r6 f6
    have n6 : nMS S6 = nMS S5 := by
      show (Zl S6 61, Zr S6 62, Zr S6 63) = (Zl S5 61, Zr S5 62, Zr S5 63)
      rw [l6, r6 62 (by decide), r6 63 (by decide)]
    have hag : ∀ j : Nat, j < i → ∀ a : Nat, (a ∈ c j ∨ a ∈ l j) → Zl S6 61 a = Zl S1 61 a ∧ Zr S6 62 a = Zr S1 62 a ∧ Zr S6 63 a = Zr S1 63 a := fun j hj a haj => by
      rw [l6, r6 62 (by decide), r6 63 (by decide)]
      obtain ⟨w1, w2⟩ := hold j hj a haj
      exact b5.2.2.2.2.2.2.2.2 a (fun w => by
        rcases w.1 with w | w
        · exact w1 w
        · omega)
    rw [nI_1]
    refine rc88 hL hx e h76 hf ha hw hn hnc hv hva h1 hro hsub hp0 kf r (i + 1) d S6 (lUp c i c5) (lUp l i l5) fl3 t3 (by omega) (by omega) ⟨?_, fun w => ((b5.wq (g2 w)).eq (by rw [i6]) (by rw [i6])), ⟨?_, ?_, ?_⟩, f6, ⟨by omega, by omega, fun a w => g53 a (b73 a w)⟩, fun j hj => ?_, fun a => ?_⟩
    · refine ((g1.mo (fun a w => w) (fun _ w => w) (fun p ⟨j, j1, j2⟩ => ⟨j, by omega, j2⟩)).tr (b5.go.mo (fun a w => ?_) (fun _ w => w) (fun _ w => w))).tr (go6.mo (fun _ w => w.elim) (fun _ w => w) (fun p w => ⟨i, Nat.lt_succ_self i, w⟩))
      rcases w.1 with w | w
      · exact Or.inl (g53 a w)
      · exact Or.inr (by omega)
    · rw [i6, b5.2.2.2.2.2.2.2.1 73 (by decide) (by decide)]; exact g31
    · rw [i6, b5.2.2.2.2.2.2.2.1 81 (by decide) (by decide)]; exact g32
    · rw [l6, b5.2.2.2.2.2.1 72 (by decide)]; exact g33
    · by_cases cj : j = i
      · subst cj
        rw [lUp_eq, lUp_eq, n6, y6, upd_s, r6 63 (by decide), l6]
        exact ⟨⟨k3, b2⟩, b3, rfl, b74⟩
      · have hji : j < i := by omega
        obtain ⟨⟨k, w1⟩, w2, w3, w4⟩ := g6 j hji
        rw [lUp_ne cj, lUp_ne cj, y6, upd_n (by omega), b5.2.2.2.2.2.2.1 74 (by decide) (by decide)]
        refine ⟨⟨k, w1.st (M2 := nMS S6) (fun a haj => ?_) (fun a haj => hag j hji a (Or.inr haj))⟩, w2.cg (fun a haj => (hag j hji a (Or.inl haj)).2.2), w3, fun w => ?_⟩
        · obtain ⟨x1, x2, _⟩ := hag j hji a (Or.inl haj)
          exact ⟨x1, x2⟩
        · obtain ⟨m, m1, m2⟩ := w4 w
          exact ⟨m, m1, (hag j hji m (Or.inl (by rw [m1]; exact List.mem_singleton_self m))).1.trans m2⟩
    · show psN (fun j => cnN a (lUp c i c5 j) + cnN a (lUp l i l5 j)) i + (cnN a (lUp c i c5 i) + cnN a (lUp l i l5 i)) + cnN a fl3 + ind t a = psN (fun j => cnN a (L j)) i + cnN a (L i) + cnN a fl + ind t3 a
      rw [lUp_eq, lUp_eq, psN_cg (w2 := fun j => cnN a (c j) + cnN a (l j)) (fun j hj => by rw [lUp_ne (by omega), lUp_ne (by omega)])]
      have w1 := g7 a
      have w2 := b6 a
      omega
end PS103
end
