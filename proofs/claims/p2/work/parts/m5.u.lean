section PS98
variable {y : qY} {vt : Nat → Nat → Nat} {tb : Nat → lTb} {f v T : Nat} {x : Nat → kFm} {rt : Nat × Nat → Nat} {V : Nat × Nat → qV} {al2 : Nat → Prop} {lo2 : Nat → lLc → Prop} {ρ : lLc} {m : Nat} {S : List tE}
/-- the value on top -/
theorem kJ_tv (hJ : kJ y vt tb f x rt V) (hS : (x f).2.1 = (0, T, m) :: S) (hT : T ≠ 0) : rt (f, 40 + wl S) = T ∧ qFu y T (V (f, 40 + wl S)) ∧ y.1 T ≠ 5 ∧ y.1 T ≠ 6 := by
  have hK := hJ.2.2.2.2.1 f (Nat.le_refl f)
  rw [hS] at hK
  obtain ⟨⟨k1, k2, k3, k4, k5⟩, -⟩ := hK
  refine ⟨(k4 hT).1, ⟨?_, (k4 hT).2⟩, k2, k3⟩
  have := hJ.1 (f, 40 + wl S)
  rw [(k4 hT).1] at this
  exact this
/-- a value is put into a place that is reached without a star -/
theorem kJ_asA (hJ : kJ y vt tb f x rt V) (hS : (x f).2.1 = (0, T, m) :: S) (hn : (x f).2.2.1 = 0) (hno : ∀ r m : Nat, (5, r, m) ∉ S ∧ (6, r, m) ∉ S) (hT : T ≠ 0) (hv4 : v < 40) (hvS : (8, v, 0) ∈ S) (hw : qW y (vt (x f).1 v) ρ T) (hm : qM ρ) (hal : ∀ u : Nat, al2 u → kal (x f) u) (hlo : ∀ (w : Nat) (π : lLc), ¬ lo2 w π → ¬ klo (x f) w π ∨ (w = v ∧ lCmp π ρ)) (hk : lCk (tb (x f).1) (kH (x f)) (fun u => ((u < 40 ∧ al2 u) ∨ (40 ≤ u ∧ u < 40 + wl S)) ∧ kR (x f) u ≠ none) v ρ False) : kJ y vt tb f (kUx x f ((x f).1, S, 0, kR (x f), kH (x f), al2, lo2, kAn (x f))) rt (qUp (kCl V f (wl S)) (f, v) (qG (V (f, v)) ρ (V (f, 40 + wl S)))) ∧ ∀ (u : Nat) (b : lLc), ((u < 40 ∧ al2 u) ∨ (40 ≤ u ∧ u < 40 + wl S)) → kR (x f) u = some b → ¬ lCmp b ((f, v) :: ρ) := by
  have hf := Nat.le_refl f
  have hk0 : kNm (0, T, m) := nm_0 rfl
  obtain ⟨s1, s2, s3, s4⟩ := kJ_tv hJ hS hT
  have wS : wl (x f).2.1 = wl S + 1 := by rw [hS, wl_n hk0]
  have iv : lIv f (tb (x f).1) (kAn (x f)) (kfr y rt f (x f)) := hJ.2.1.1 f hf
  have j1 := kJ_pop hJ (E := [(0, T, m)]) (S := S) hS (fun e he => by rw [List.mem_singleton.mp he]; exact hk0) hn
  generalize hx1 : kUx x f ((x f).1, S, 0, kR (x f), kH (x f), kal (x f), klo (x f), kAn (x f)) = x1 at j1
  have e1 : x1 f = ((x f).1, S, 0, kR (x f), kH (x f), kal (x f), klo (x f), kAn (x f)) := by rw [← hx1, kUx_eq]
  have hcv : kCl V f (wl S) (f, v) = V (f, v) := kCl_ge (fun g => by have := g.2.1; have : 40 + wl S ≤ v := this; omega)
  have hcmp : ∀ (u : Nat) (b : lLc), ((u < 40 ∧ al2 u) ∨ (40 ≤ u ∧ u < 40 + wl S)) → kR (x f) u = some b → ¬ lCmp b ((f, v) :: ρ) := fun u b hu hb hcm => by
    refine (lAc_var (A2 := fun u => ((u < 40 ∧ al2 u) ∨ (40 ≤ u ∧ u < 40 + wl S)) ∧ kR (x f) u ≠ none) iv (fun u hu => ?_) hk ⟨hu, fun z => by rw [z] at hb; cases hb⟩ hb hcm).1
    rcases hu.1 with ⟨a, b⟩ | ⟨a, b⟩
    · exact Or.inl ⟨a, hal u b⟩
    · exact Or.inr ⟨a, by omega⟩
  have j2 := kJ_as1 (v := v) (T1 := T) (ρ := ρ) (W := V (f, 40 + wl S)) (al2 := al2) (lo2 := lo2) j1 (by rw [e1]) hv4 (by rw [e1]; exact hvS) (by rw [e1]; exact hno) hm (by rw [e1]; exact hw) s2 ⟨s3, s4⟩ (by rw [e1]; exact hal) (by rw [e1]; exact hlo) (by
    rw [e1]
    intro u b hu hb hcm
    exact absurd hcm (hcmp u b hu hb))
  rw [e1, hcv, ← hx1, kUx2] at j2
  exact ⟨j2, hcmp⟩
/-- a variable that is no reference counts as used -/
theorem kJ_al (hJ : kJ y vt tb f x rt V) (hv4 : v < 40) (hn : (x f).2.2.1 = 0) (hnr : ∀ z : Nat × Nat, V (f, v) [] = some z → y.1 z.1 ≠ 5 ∧ y.1 z.1 ≠ 6) {hd : Nat → Prop} : kJ y vt tb f (kUx x f ((x f).1, (x f).2.1, 0, lUp (kR (x f)) v none, lUp (kH (x f)) v hd, (fun u => kal (x f) u ∨ u = v), klo (x f), kAn (x f))) rt V := by
  have hw0 := hJ
  obtain ⟨h0, h1, h2, h3, h4, h5, h6, h7, h8⟩ := hJ
  have hf := Nat.le_refl f
  have hA : ∀ (u : Nat) (a : lLc), kA ((x f).1, (x f).2.1, 0, lUp (kR (x f)) v none, lUp (kH (x f)) v hd, (fun u => kal (x f) u ∨ u = v), klo (x f), kAn (x f)) u → lUp (kR (x f)) v none u = some a → u ≠ v ∧ kA (x f) u ∧ kR (x f) u = some a := fun u a hu ha => by
    have hun : u ≠ v := fun z => by rw [z, lUp_eq] at ha; cases ha
    rw [lUp_ne hun] at ha
    refine ⟨hun, ?_, ha⟩
    rcases hu with ⟨z1, z2⟩ | ⟨z1, z2⟩
    · exact Or.inl ⟨z1, z2.resolve_right hun⟩
    · exact Or.inr ⟨z1, by rw [hn]; exact z2⟩
  refine kJ_top hw0 _ rfl rfl (fun j u _ => ⟨rfl, rfl⟩) (fun u => h0 (f, u)) (lIv_mono2 (h1.1 f hf) (fun u a hu ha => (hA u a hu ha).2) (fun u a l hu ha hl => ?_) (fun u a _ _ => Iff.rfl)) (fun u a hu ha => h2 f hf u a (hA u a hu ha).2.1 (hA u a hu ha).2.2) (fun u t g hv hk2 hu => ?_) (kK_cg (h4 f hf) (fun u hu => ⟨rfl, rfl, lUp_ne (by omega)⟩)) (fun u π z hz => (h5 f u π z hz).2) (fun w w4 hvS => h6 f hf w w4 hvS) (fun r m => ⟨fun q => ?_, fun q => ?_⟩) (h8 f hf)
  · show lUp (kH (x f)) v hd u l
    rw [lUp_ne (hA u a hu ha).1]; exact hl
  · by_cases c : u = v
    · subst c
      obtain ⟨n1, n2⟩ := hnr _ hv
      exact absurd hk2 (by rintro (z | z); exact n1 z; exact n2 z)
    · have hu' : kA (x f) u := by
        rcases hu with ⟨z1, z2⟩ | ⟨z1, z2⟩
        · exact Or.inl ⟨z1, z2.resolve_right c⟩
        · exact Or.inr ⟨z1, by rw [hn]; exact z2⟩
      obtain ⟨a, ha⟩ := h3 f hf u t g hv hk2 hu'
      exact ⟨a, (lUp_ne c).trans ha⟩
  · exact kPm_cg ((h7 f hf r m).1 q).2 (lUp_ne (by omega)) (fun u b hu hb => (hA u b hu hb).2) (fun _ _ _ _ => rfl) (fun l q => by show lUp (kH (x f)) v hd 300 l; rw [lUp_ne (by omega)]; exact q) rfl (fun _ _ _ _ => ⟨rfl, rfl⟩)
  · exact kPm_cg ((h7 f hf r m).2 q).2 (lUp_ne (by omega)) (fun u b hu hb => (hA u b hu hb).2) (fun _ _ _ _ => rfl) (fun l q => by show lUp (kH (x f)) v hd 300 l; rw [lUp_ne (by omega)]; exact q) rfl (fun _ _ _ _ => ⟨rfl, rfl⟩)
/-- a reference has no parts -/
theorem qW_rf {T t : Nat} {π : lLc} (h : y.1 T = 5 ∨ y.1 T = 6) (g2 : qW y T π t) : π = [] ∧ t = T := by
  cases π with
  | nil => exact ⟨rfl, g2⟩
  | cons s π =>
    obtain ⟨q, i⟩ := s
    match q, g2 with
    | 0, g2 => exact absurd g2.1 (by rcases h with h | h <;> rw [h] <;> decide)
    | 1, g2 => exact absurd g2.2.1 (by rcases h with h | h <;> rw [h] <;> decide)
    | g + 2, g2 => exact absurd g2.1 (by rcases h with h | h <;> rw [h] <;> decide)
/-- a reference is put into its variable anew -/
theorem kJ_asR (hcr : qCr y) (hrf : qRf y) (hJ : kJ y vt tb f x rt V) {k U m : Nat} {S : List tE} (hS : (x f).2.1 = (k, U, m) :: S) (hn : (x f).2.2.1 = 0) (hno : ∀ r m : Nat, (5, r, m) ∉ S ∧ (6, r, m) ∉ S) (hU : U < 10000) (hkt : (k = 1 ∧ vt (x f).1 v = 10000 + 2 * U) ∨ (k = 2 ∧ vt (x f).1 v = 10001 + 2 * U)) (hv4 : v < 40) (hvS : (8, v, 0) ∈ S) (hal : ∀ u : Nat, u ≠ v → al2 u → kal (x f) u) (hlo : ∀ (w : Nat) (π : lLc), w ≠ v → ¬ lo2 w π → ¬ klo (x f) w π) {hd : Nat → Prop} (hhd : ∀ κ : Nat, kH (x f) (40 + wl S) κ → hd κ) : ∃ a : lLc, kR (x f) (40 + wl S) = some a ∧ rt (f, 40 + wl S) = vt (x f).1 v ∧ (∃ z : Nat × Nat, V (f, 40 + wl S) [] = some z) ∧ kJ y vt tb f (kUx x f ((x f).1, S, 0, lUp (kR (x f)) v (some a), lUp (kH (x f)) v hd, al2, lo2, kAn (x f))) (qRt rt (f, v) (vt (x f).1 v)) (qUp (kCl V f (wl S)) (f, v) (V (f, 40 + wl S))) := by
  have hf := Nat.le_refl f
  have hcu := hcr U hU
  have hk0 : kNm (k, U, m) := by
    rcases hkt with ⟨rfl, -⟩ | ⟨rfl, -⟩ <;> (unfold kNm; simp)
  have hK := hJ.2.2.2.2.1 f hf
  rw [hS] at hK
  have hK1 : rt (f, 40 + wl S) = vt (x f).1 v ∧ ∃ w : Nat × Nat, V (f, 40 + wl S) [] = some w := by
    rcases hkt with ⟨rfl, e⟩ | ⟨rfl, e⟩
    · rw [e]; exact hK.1
    · rw [e]; exact hK.1
  obtain ⟨r1, ⟨t9, g9⟩, r2⟩ := hK1
  have h56 : (y.1 (vt (x f).1 v) = 5 ∨ y.1 (vt (x f).1 v) = 6) ∧ y.2.1 (vt (x f).1 v) = U := by
    rcases hkt with ⟨-, e⟩ | ⟨-, e⟩
    · rw [e]; exact ⟨Or.inl hcu.1, hcu.2.1⟩
    · rw [e]; exact ⟨Or.inr hcu.2.2.1, hcu.2.2.2⟩
  obtain ⟨h56, eU⟩ := h56
  have wS : wl (x f).2.1 = wl S + 1 := by rw [hS, wl_n hk0]
  have wB := hJ.2.2.2.2.2.2.2.2 f hf
  have hWk : qOk y (vt (x f).1 v) (V (f, 40 + wl S)) := by rw [← r1]; exact hJ.1 _
  have e9 : t9 = vt (x f).1 v := (hWk.1 [] t9 g9 r2).1
  have hks : kA (x f) (40 + wl S) := Or.inr ⟨by omega, by omega⟩
  obtain ⟨a, ea⟩ := hJ.2.2.2.1 f hf (40 + wl S) t9 g9 r2 (by rw [e9]; exact h56) hks
  obtain ⟨-, htg⟩ := hJ.2.2.1 f hf (40 + wl S) a hks ea
  rw [r1, eU] at htg
  have hE1 : ∀ e : tE, e ∈ [(k, U, m)] → kNm e := fun e he => by rw [List.mem_singleton.mp he]; exact hk0
  have j1 := kJ_pop hJ (E := [(k, U, m)]) (S := S) hS hE1 hn
  generalize hx1 : kUx x f ((x f).1, S, 0, kR (x f), kH (x f), kal (x f), klo (x f), kAn (x f)) = x1 at j1
  have e1 : x1 f = ((x f).1, S, 0, kR (x f), kH (x f), kal (x f), klo (x f), kAn (x f)) := by rw [← hx1, kUx_eq]
  obtain ⟨b1, b2⟩ := lBw_pop (A2 := fun u => ((u < 40 ∧ al2 u) ∨ (40 ≤ u ∧ u < 40 + wl S)) ∧ u ≠ v) (t := v) (un := y.1 (vt (x f).1 v) = 6) (hd := hd) (hJ.2.1.1 f hf) (fun u hu => by
    obtain ⟨hu, hne⟩ := hu
    rcases hu with ⟨g1, g2⟩ | ⟨g1, g2⟩
    · exact ⟨Or.inl ⟨g1, hal u hne g2⟩, by omega⟩
    · exact ⟨Or.inr ⟨g1, by omega⟩, by omega⟩) (by omega) hks ea (fun q => by show y.1 (rt (f, 40 + wl S)) = 6; rw [r1]; exact q) (fun l q => hhd l q) (lP_rf a)
  have fullW : ∀ (π : lLc) (t : Nat), qM π → qW y (vt (x f).1 v) π t → π = [] ∧ t = vt (x f).1 v := fun π t g1 g2 => by
    cases π with
    | nil => exact ⟨rfl, g2⟩
    | cons s π =>
      obtain ⟨q, i⟩ := s
      obtain ⟨g3, g4⟩ := qM_cons.mp g1
      obtain rfl : q = 0 := g3
      rcases h56 with h | h
      · exact absurd (h.symm.trans g2.1) (by decide)
      · exact absurd (h.symm.trans g2.1) (by decide)
  have r := kJ_set (v := v) (W := V (f, 40 + wl S)) (ro := some a) (hd := hd) (al2 := al2) (lo2 := lo2) (S2 := S) hrf j1 (by rw [e1]) hv4 (by rw [e1]; exact hno) (Or.inr ⟨by rw [e1], by rw [e1]; exact hvS, by rw [e1]; exact h56⟩) (by rw [e1]; exact hWk) (by rw [e1]; exact hal) (by rw [e1]; exact hlo) (by
    rw [e1]
    intro π t g1 g2 _
    obtain ⟨rfl, rfl⟩ := fullW π t g1 g2
    refine ⟨fun _ => ⟨_, r2⟩, fun q => ?_⟩
    rcases h56 with h | h
    · exact absurd (h.symm.trans q) (by decide)
    · exact absurd (h.symm.trans q) (by decide)) (Or.inr ⟨a, rfl, by rw [e1]; exact b1, by
      rw [e1]
      exact fun u hu hne => b2 u ⟨hu, hne⟩, by
      rw [e1]
      show qTg y rt (kCl V f (wl S)) a (y.2.1 (vt (x f).1 v))
      rw [eU]
      refine qTg_eq htg (fun r π _ _ hr => ⟨kCl_ge (fun g => ?_), rfl⟩)
      omega, by rw [e1]; exact h56⟩)
  rw [e1, ← hx1, kUx2] at r
  exact ⟨a, ea, r1, ⟨_, r2⟩, r⟩
section PS98b
variable {R : yR} {S0 : Sg}
/-- a value is put into a place behind a star -/
theorem kJ_asB {d : Nat × Nat} {π : lLc} (hJ : kJ (yT R S0) vt tb f x rt V) (hS : (x f).2.1 = (0, T, m) :: S) (hn : (x f).2.2.1 = 0) (hno : ∀ r m : Nat, (5, r, m) ∉ S ∧ (6, r, m) ∉ S) (hT : T ≠ 0) (hv4 : v < 40) (hvS : (8, v, 0) ∈ S) (hkv : isRf (vt (x f).1 v) → kal (x f) v ∧ (yT R S0).1 (vt (x f).1 v) = 6) (hal : ∀ u : Nat, al2 u → kal (x f) u) (hlo : ∀ (w : Nat) (π : lLc), klo (x f) w π → lo2 w π) (hk : lCk (tb (x f).1) (kH (x f)) (fun u => (u < 40 ∧ al2 u) ∨ (40 ≤ u ∧ u < 40 + wl S)) v ρ False) (d1 : d.2 < 40) (d2 : qW (yT R S0) (rt d) π T) (d3 : qF (yT R S0) (V d) π T)
  (d7 : (d = (f, v) ∧ π = ρ ∧ ¬ isRf (vt (x f).1 v)) ∨ ∃ π0 ρ2 : lLc, kR (x f) v = some (d :: π0) ∧ π = π0 ++ ρ2 ∧ ρ = (1, 0) :: ρ2 ∧ isRf (vt (x f).1 v) ∧ qW (yT R S0) (rt d) π0 ((yT R S0).2.1 (vt (x f).1 v))) : kJ (yT R S0) vt tb f (kUx x f ((x f).1, S, 0, kR (x f), kH (x f), al2, lo2, kAn (x f))) rt (qUp (kCl V f (wl S)) d (qG (V d) π (V (f, 40 + wl S)))) ∧ ∀ (j u : Nat) (b : lLc), j ≤ f → kA (kUx x f ((x f).1, S, 0, kR (x f), kH (x f), al2, lo2, kAn (x f)) j) u → kR (kUx x f ((x f).1, S, 0, kR (x f), kH (x f), al2, lo2, kAn (x f)) j) u = some b → lCmp b (d :: π) → lP b (d :: π) := by
  have hf := Nat.le_refl f
  have hk0 : kNm (0, T, m) := nm_0 rfl
  have hvS1 : (8, v, 0) ∈ (x f).2.1 := by rw [hS]; exact List.mem_cons_of_mem _ hvS
  obtain ⟨s1, s2, s3, s4⟩ := kJ_tv hJ hS hT
  have wS : wl (x f).2.1 = wl S + 1 := by rw [hS, wl_n hk0]
  have iv : lIv f (tb (x f).1) (kAn (x f)) (kfr (yT R S0) rt f (x f)) := hJ.2.1.1 f hf
  have hkr := (hJ.2.2.2.2.2.2.1 f hf v hv4 hvS1).1
  have J0 := kJ_wk2 (H2 := kH (x f)) (al2 := fun u => al2 u ∨ (u = v ∧ kal (x f) v)) (lo2 := klo (x f)) hJ hn (fun _ _ _ _ _ q => q) (fun u q => q.elim (hal u) (fun q => by rw [q.1]; exact q.2)) (fun _ _ _ _ q => q)
  generalize hx0 : kUx x f ((x f).1, (x f).2.1, 0, kR (x f), kH (x f), (fun u => al2 u ∨ (u = v ∧ kal (x f) v)), klo (x f), kAn (x f)) = x0 at J0
  have e0 : x0 f = ((x f).1, (x f).2.1, 0, kR (x f), kH (x f), (fun u => al2 u ∨ (u = v ∧ kal (x f) v)), klo (x f), kAn (x f)) := by rw [← hx0, kUx_eq]
  have hS0 : (x0 f).2.1 = [(0, T, m)] ++ S := by rw [e0]; exact hS
  have j1 := kJ_pop J0 hS0 (fun e he => by rw [List.mem_singleton.mp he]; exact hk0) (by rw [e0])
  generalize hx1 : kUx x0 f ((x0 f).1, S, 0, kR (x0 f), kH (x0 f), kal (x0 f), klo (x0 f), kAn (x0 f)) = x1 at j1
  have e1 : x1 f = ((x f).1, S, 0, kR (x f), kH (x f), (fun u => al2 u ∨ (u = v ∧ kal (x f) v)), klo (x f), kAn (x f)) := by
    rw [← hx1, kUx_eq, e0]; rfl
  have xo : ∀ j : Nat, j ≠ f → x1 j = x j := fun j hj => by rw [← hx1, kUx_ne hj, ← hx0, kUx_ne hj]
  have hcv : kCl V f (wl S) d = V d := kCl_ge (fun g => by have := g.2.1; omega)
  have ha : ∀ (j u : Nat) (b : lLc), j ≤ f → kA (x1 j) u → kR (x1 j) u = some b → lCmp b (d :: π) → lP b (d :: π) := fun j u b hj hu hb hcm => by
    by_cases e : j = f
    · subst e
      rw [e1] at hu hb
      have hb : kR (x j) u = some b := hb
      have hA2 : ∀ u : Nat, ((u < 40 ∧ al2 u) ∨ (40 ≤ u ∧ u < 40 + wl S)) → kA (x j) u := fun u hu => by
        rcases hu with ⟨a, b⟩ | ⟨a, b⟩
        · exact Or.inl ⟨a, hal u b⟩
        · exact Or.inr ⟨a, by omega⟩
      have hu2 : ((u < 40 ∧ al2 u) ∨ (40 ≤ u ∧ u < 40 + wl S)) ∨ (u = v ∧ kal (x j) v) := by
        rcases hu with ⟨a, b⟩ | ⟨a, b⟩
        · rcases b with b | b
          · exact Or.inl (Or.inl ⟨a, b⟩)
          · exact Or.inr b
        · exact Or.inl (Or.inr ⟨a, b⟩)
      rcases d7 with ⟨rfl, rfl, n5⟩ | ⟨π0, ρ2, g1, rfl, rfl, h56, g2⟩
      · rcases hu2 with hu2 | ⟨rfl, hu2⟩
        · exact absurd (lAc_var (A2 := fun u => (u < 40 ∧ al2 u) ∨ (40 ≤ u ∧ u < 40 + wl S)) iv hA2 hk hu2 hb hcm).1 id
        · obtain ⟨h56, -⟩ := hJ.2.2.1 j hj u b (Or.inl ⟨hv4, hu2⟩) hb
          rw [hkr] at h56
          exact absurd (yRf.mp h56) n5
      · by_cases euv : u = v
        · rw [euv, g1] at hb
          injection hb with hb
          rw [← hb]
          exact lP_app (d :: π0) ρ2
        · rcases hu2 with hu2 | ⟨q, -⟩
          · have hun : (yT R S0).1 (rt (j, v)) = 6 := by rw [hkr]; exact (hkv h56).2
            rcases lAc_ref (A2 := fun u => (u < 40 ∧ al2 u) ∨ (40 ≤ u ∧ u < 40 + wl S)) iv hA2 (Or.inl ⟨hv4, (hkv h56).1⟩) g1 hk hu2 euv hb (Or.inr hun) hcm with q | q
            · exact absurd q.1 id
            · exact lP_tr (lRt_up q) (lP_app (d :: π0) ρ2)
          · exact absurd q euv
    · rw [xo j e] at hu hb
      rcases d7 with ⟨rfl, rfl, n5⟩ | ⟨π0, ρ2, g1, rfl, rfl, h56, g2⟩
      · obtain ⟨j2, w, r, e8, e9⟩ := lIv_fr (hJ.2.1.1 j hj) hu hb
        rw [e8] at hcm
        obtain ⟨e7, -⟩ := lCmp_cons hcm
        injection e7 with e7 _
        omega
      · have hun : (yT R S0).1 (rt (f, v)) = 6 := by rw [hkr]; exact (hkv h56).2
        have := kUp hJ.2.1 (r := v) (b := d :: π0) (Or.inl ⟨hv4, (hkv h56).1⟩) g1 hun (j := j) (by omega) hu hb (lCmp_sym (lCmp_pre (lP_app (d :: π0) ρ2) (lCmp_sym hcm)))
        exact lP_tr this (lP_app (d :: π0) ρ2)
  have j2 := kJ_as2 j1 d1 (by rw [e1]; exact hno) d2 (by rw [hcv]; exact d3) s2 ⟨s3, s4⟩ ha
  have j3 := kJ_wk2 (H2 := kH (x f)) (al2 := al2) (lo2 := lo2) j2 (by rw [e1]) (by rw [e1]; exact fun _ _ _ _ _ q => q) (by rw [e1]; exact fun u q => Or.inl q) (by rw [e1]; exact fun w π _ _ q => hlo w π q)
  have ex : kUx x1 f ((x1 f).1, (x1 f).2.1, 0, kR (x1 f), kH (x f), al2, lo2, kAn (x1 f)) = kUx x f ((x f).1, S, 0, kR (x f), kH (x f), al2, lo2, kAn (x f)) := by
    rw [e1, ← hx1, kUx2, ← hx0, kUx2]; rfl
  rw [ex, hcv] at j3
  refine ⟨j3, fun j u b hj hu hb => ha j u b hj ?_ ?_⟩
  · by_cases e : j = f
    · subst e
      rw [kUx_top] at hu
      rw [e1]
      rcases hu with ⟨a, b⟩ | z
      · exact Or.inl ⟨a, Or.inl b⟩
      · exact Or.inr z
    · rw [kUx_lo e] at hu
      rw [xo j e]; exact hu
  · by_cases e : j = f
    · subst e
      rw [kUx_top] at hb
      rw [e1]; exact hb
    · rw [kUx_lo e] at hb
      rw [xo j e]; exact hb
end PS98b
end PS98
