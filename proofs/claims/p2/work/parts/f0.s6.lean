theorem lBw_copy2 {f : Nat} {tb : lTb} {An : Nat → lLc → Nat → Prop} {fr : lFr} {A2 : Nat → Prop} {v t : Nat} {b : lLc} {un : Prop} {hd : Nat → Prop} (h : lIv f tb An fr) (hA : ∀ u : Nat, A2 u → fr.2.1 u) (hv : fr.2.1 v) (hb : fr.1 v = some b) (hn : ¬ fr.2.2.2 v) (hun : ¬ un) (hl2 : ∀ l : Nat, fr.2.2.1 v l → hd l) (hst : ∀ u l : Nat, fr.2.2.1 u l → ¬ tb.2.2.2.1 l → tb.1 l = v → tb.2.2.1 l) : lOk f tb An hd un b ∧ ∀ u : Nat, A2 u → lMt tb fr t hd un b u := by
  refine ⟨lOk_mono hl2 (fun z => absurd z hun) (lP_rf b) (h.1 v b hv hb), fun u hu a ha hq hc => ?_⟩
  have hqu : fr.2.2.2 u := hq.resolve_left hun
  have hne : u ≠ v := fun e => hn (e ▸ hqu)
  rcases h.2 u v a b hne (hA u hu) hv ha hb (Or.inl hqu) (lCmp_sym hc) with x | x
  · obtain ⟨x0, l, π, x1, x2, x3, x4, x5, x6⟩ := x
    exact absurd (hst u l x2 x1 x3) (x6 hqu)
  · obtain ⟨x0, l, π, x1, x2, x3, x4, x5, x6⟩ := x
    exact ⟨x0, l, π, x1, hl2 l x2, x3, x4, x5, fun z => absurd z hun⟩
theorem qM_fst : ∀ {ρ : lLc}, qMs ρ → qM ρ ∨ ∃ (ρ0 : lLc) (j : Nat) (ρ1 : lLc), ρ = ρ0 ++ (1, j) :: ρ1 ∧ qM ρ0
  | [], _ => Or.inl qM_nil
  | (q, j) :: ρ, h => by
    obtain ⟨h1, h2⟩ := qMs_cons.mp h
    rcases h1 with e | e
    · rcases qM_fst h2 with g | ⟨ρ0, i, ρ1, rfl, g⟩
      · exact Or.inl (qM_cons.mpr ⟨e, g⟩)
      · exact Or.inr ⟨(q, j) :: ρ0, i, ρ1, rfl, qM_cons.mpr ⟨e, g⟩⟩
    · have e : q = 1 := e
      subst e
      exact Or.inr ⟨[], j, ρ, rfl, qM_nil⟩
/-- what a place's use asks to be there: all of it, or the first box on the way -/
def fuL (y : qY) (lo : Nat → lLc → Prop) (v : Nat) (ρ : lLc) (T : Nat) : Prop := (qM ρ → ∀ (τ : lLc) (t : Nat), qM τ → qW y T τ t → ¬ lo v (ρ ++ τ)) ∧ ∀ (ρ0 : lLc) (j : Nat) (ρ1 : lLc), ρ = ρ0 ++ (1, j) :: ρ1 → qM ρ0 → ¬ lo v ρ0
/-- a place on a variable of type T0: its way, its route -/
def plW (y : qY) (z : qZ) (T0 T : Nat) (ρ : lLc) (os : List Nat) (o : Nat) : Prop := (y.1 T0 ≠ 5 ∧ y.1 T0 ≠ 6 ∧ qW y T0 ρ T ∧ qMs ρ ∧ os = (rtU y z T0 0 ρ).1 ∧ o = (rtU y z T0 0 ρ).2) ∨ ((y.1 T0 = 5 ∨ y.1 T0 = 6) ∧ ∃ ρ2 : lLc, ρ = (1, 0) :: ρ2 ∧ qW y (y.2.1 T0) ρ2 T ∧ qMs ρ2 ∧ os = 0 :: (rtU y z (y.2.1 T0) 0 ρ2).1 ∧ o = (rtU y z (y.2.1 T0) 0 ρ2).2)
section
variable {y : qY} {z : qZ} {vt vo : Nat → Nat → Nat} {vc : Nat → Nat} {tb : Nat → lTb} {hp : Nat} {tk tk2 : Nat → Prop} {c c2 : Nat → Int} {f : Nat} {x : Nat → kFm} {rt ra : Nat × Nat → Nat} {V : Nat × Nat → qV} {fb : Nat → Nat} {top : Nat} {fil : Nat → Nat → Nat → Prop} {v T o : Nat} {ρ : lLc} {os : List Nat}
theorem qF_4 {W : qV} {π : lLc} {B : Nat} (h4 : y.1 B = 4) (h : ∃ w : Nat × Nat, W π = some w) : qF y W π B := fun τ t g1 g2 => by
  cases τ with
  | nil =>
    obtain rfl : t = B := g2
    rw [List.append_nil]
    exact ⟨fun _ => h, fun q => absurd (h4.symm.trans q) (by decide)⟩
  | cons a τ =>
    obtain ⟨q, i⟩ := a
    obtain ⟨g3, g4⟩ := qM_cons.mp g1
    obtain rfl : q = 0 := g3
    exact absurd (h4.symm.trans g2.1) (by decide)
theorem pl_A (hJ : kJ y vt tb f x rt V) (hv4 : v < 40) (hvS : (8, v, 0) ∈ (x f).2.1) (hw : qW y (vt (x f).1 v) ρ T) (hms : qMs ρ) (hfu : fuL y (klo (x f)) v ρ T) : qF y (V (f, v)) ρ T ∧ rt (f, v) = vt (x f).1 v := by
  obtain ⟨h1, h2⟩ := hJ.2.2.2.2.2.2.1 f (Nat.le_refl f) v hv4 hvS
  refine ⟨?_, h1⟩
  rcases qM_fst hms with hm | ⟨ρ0, j, ρ1, rfl, hm⟩
  · exact fun τ t g1 g2 => h2 (ρ ++ τ) t (qM_app.mpr ⟨hm, g1⟩) (qW_app hw g2) (hfu.1 hm τ t g1 g2)
  · obtain ⟨B, w1, w2⟩ := qW_cut hw
    have q := h2 ρ0 B hm w1 (hfu.2 ρ0 j ρ1 rfl hm)
    have h4 : y.1 B = 4 := w2.2.1
    have q2 := q.1 (by rw [h4]; decide)
    refine qF_path (hJ.1 (f, v)) (by rw [h1]; exact w1) (qF_4 h4 q2) w2 (fun a ha => hms a (List.mem_append_right _ ha))
theorem pl_B (hJ : kJ y vt tb f x rt V) (hL : kL y z vt vo vc hp tk c f x rt ra V fb top fil) (hv4 : v < 40) (hvS : (8, v, 0) ∈ (x f).2.1) (hal : kal (x f) v) (h56 : y.1 (vt (x f).1 v) = 5 ∨ y.1 (vt (x f).1 v) = 6) (hlo : ¬ klo (x f) v []) : ∃ (d : Nat × Nat) (π : lLc) (w : Nat × Nat), kR (x f) v = some (d :: π) ∧ d.2 < 40 ∧ qW y (rt d) π (y.2.1 (vt (x f).1 v)) ∧ qF y (V d) π (y.2.1 (vt (x f).1 v)) ∧ V (f, v) [] = some w ∧ c (ra (f, v)) = (qA y z c (rt d) (ra d) π : Int) ∧ rt (f, v) = vt (x f).1 v := by
  have hf := Nat.le_refl f
  obtain ⟨h1, h2⟩ := hJ.2.2.2.2.2.2.1 f hf v hv4 hvS
  have q := h2 [] _ qM_nil rfl hlo
  obtain ⟨⟨t, g⟩, e⟩ := q.1 (by rcases h56 with a | a <;> rw [a] <;> decide)
  have et : t = rt (f, v) := ((hJ.1 (f, v)).1 [] t g e).1
  obtain ⟨a, ea⟩ := hJ.2.2.2.1 f hf v t g e (by rw [et, h1]; exact h56) (Or.inl ⟨hv4, hal⟩)
  obtain ⟨-, d, π, rfl, d1, d2, d3⟩ := hJ.2.2.1 f hf v a (Or.inl ⟨hv4, hal⟩) ea
  rw [h1] at d2 d3
  have l := hL.2.1 f hf v _ (Or.inl (Or.inl ⟨hv4, hal⟩)) ea ⟨_, e⟩
  exact ⟨d, π, (t, g), ea, d1, d2, d3, e, l, h1⟩
theorem pl_loc (hy : kYs y z vt vo vc) (hJ : kJ y vt tb f x rt V) (hL : kL y z vt vo vc hp tk c f x rt ra V fb top fil) (hv4 : v < 40) (hvS : (8, v, 0) ∈ (x f).2.1) (hw : plW y z (vt (x f).1 v) T ρ os o) (hfu : fuL y (klo (x f)) v ρ T) (hal : (y.1 (vt (x f).1 v) = 5 ∨ y.1 (vt (x f).1 v) = 6) → kal (x f) v) (htop : top < 2 ^ 31) : ∃ (d : Nat × Nat) (π : lLc), d.2 < 40 ∧ qW y (rt d) π T ∧ qF y (V d) π T ∧ qA y z c (rt d) (ra d) π = rA c (fb f + vo (x f).1 v) os o ∧ rOk c top (fb f + vo (x f).1 v) os ∧ qA y z c (rt d) (ra d) π + z.1 T ≤ top ∧ ((d = (f, v) ∧ π = ρ ∧ y.1 (vt (x f).1 v) ≠ 5 ∧ y.1 (vt (x f).1 v) ≠ 6) ∨ ∃ π0 ρ2 : lLc, kR (x f) v = some (d :: π0) ∧ π = π0 ++ ρ2 ∧ ρ = (1, 0) :: ρ2 ∧ (y.1 (vt (x f).1 v) = 5 ∨ y.1 (vt (x f).1 v) = 6) ∧ qW y (rt d) π0 (y.2.1 (vt (x f).1 v))) := by
  have hf := Nat.le_refl f
  have hra : ra (f, v) = fb f + vo (x f).1 v := hL.2.2.2.1 f hf v hv4 hvS
  have ht := kTopF hL
  have lt : ∀ (r : Nat × Nat) (π : lLc) (w : Nat × Nat), V r π = some w → qA y z c (rt r) (ra r) π < top := fun r π w h => kLt hy hJ hL h
  have le : ∀ (r : Nat × Nat) (π : lLc) (w : Nat × Nat), V r π = some w → ra r + z.1 (rt r) ≤ top := fun r π w h => (kTop hy.1 hy.2.1 hy.2.2.1 hJ hL h).2.1
  rcases hw with ⟨n5, n6, w1, w2, rfl, rfl⟩ | ⟨h56, ρ2, rfl, w1, w2, rfl, rfl⟩
  · obtain ⟨q1, q2⟩ := pl_A hJ hv4 hvS w1 w2 hfu
    have w3 : qW y (rt (f, v)) ρ T := by rw [q2]; exact w1
    refine ⟨(f, v), ρ, hv4, w3, q1, ?_, ?_, qEnd hy.1 hL.1 (fun π w => le (f, v) π w) (by omega) w3 (qF_pl q1), Or.inl ⟨rfl, rfl, n5, n6⟩⟩
    · rw [q2, ← hra]
      exact rtF_A (o := 0)
    · rw [← hra]
      exact rW_ok hL.1 (fun π w => lt (f, v) π w) hy.1 (by omega) (π1 := []) (T1 := vt (x f).1 v) q2.symm w1 (qF_pl q1) rfl
  · obtain ⟨d, π, w, a1, a2, a3, a4, a5, a6, a7⟩ := pl_B hJ hL hv4 hvS (hal h56) h56 (hfu.2 [] 0 ρ2 rfl qM_nil)
    have b1 : qW y (rt d) (π ++ ρ2) T := qW_app a3 w1
    have b2 : qF y (V d) (π ++ ρ2) T := qF_path (hJ.1 d) a3 a4 w1 w2
    have b3 := qEnd hy.1 hL.1 (r := d) (fun π w => le d π w) (by omega) a3 (qF_pl a4)
    have p1 := hy.1.1 (y.2.1 (vt (x f).1 v))
    have b5 := lt (f, v) [] w a5
    have b5 : ra (f, v) < top := b5
    refine ⟨d, π ++ ρ2, a2, b1, b2, ?_, ?_, qEnd hy.1 hL.1 (fun π w => le d π w) (by omega) b1 (qF_pl b2), Or.inr ⟨π, ρ2, a1, rfl, rfl, h56, a3⟩⟩
    · rw [qA_app a3, ← hra]
      show _ = rA c (c (ra (f, v) + 0)).toNat _ _
      rw [Nat.add_zero, a6, Int.toNat_natCast]
      exact rtF_A (o := 0)
    · rw [← hra]
      show ra (f, v) + 0 < top ∧ (∃ b : Nat, c (ra (f, v) + 0) = (b : Int) ∧ b < 2 ^ 31) ∧ rOk c top (c (ra (f, v) + 0)).toNat _
      rw [Nat.add_zero]
      refine ⟨b5, ⟨_, a6, by omega⟩, ?_⟩
      rw [a6, Int.toNat_natCast]
      exact rW_ok hL.1 (fun π w => lt d π w) hy.1 (by omega) (π1 := π) a3 w1 (qF_pl b2) rfl
/-- what the class's addressOf may rely on -/
theorem pl_adr (hy : kYs y z vt vo vc) (h : kS y z vt vo vc tb hp tk c f x fb top fil) (hv4 : v < 40) (hvS : (8, v, 0) ∈ (x f).2.1) (hw : plW y z (vt (x f).1 v) T ρ os o) (hfu : fuL y (klo (x f)) v ρ T) (hal : (y.1 (vt (x f).1 v) = 5 ∨ y.1 (vt (x f).1 v) = 6) → kal (x f) v) (htop : top < 2 ^ 31) : rOk c top (fb f + vo (x f).1 v) os ∧ rA c (fb f + vo (x f).1 v) os o + z.1 T ≤ top := by
  obtain ⟨rt, ra, V, hJ, hL⟩ := h
  obtain ⟨d, π, -, -, -, e1, e2, e3, -⟩ := pl_loc hy hJ hL hv4 hvS hw hfu hal htop
  exact ⟨e2, by rw [← e1]; exact e3⟩
/-- a reference comes on top -/
theorem kS_pushR (hy : kYs y z vt vo vc) (hJ : kJ y vt tb f x rt V) (hL : kL y z vt vo vc hp tk c f x rt ra V fb top fil) (hn : (x f).2.2.1 = 0) (hl : wl (x f).2.1 < 211) (hno : ∀ r m2 : Nat, (5, r, m2) ∉ (x f).2.1 ∧ (6, r, m2) ∉ (x f).2.1) {k m t U : Nat} {a : lLc} {hd : Nat → Prop} {al2 : Nat → Prop} (hU : U < 10000) (hkt : (k = 1 ∧ t = 10000 + 2 * U) ∨ (k = 2 ∧ t = 10001 + 2 * U)) (hal : ∀ u : Nat, al2 u → kal (x f) u) (hT : qTg y rt V a U) (hok : lOk f (tb (x f).1) (kAn (x f)) hd (y.1 t = 6) a) (hmt : ∀ u : Nat, ((u < 40 ∧ al2 u) ∨ (40 ≤ u ∧ u < 40 + wl (x f).2.1)) → lMt (tb (x f).1) (kfr y rt f (x f)) (40 + wl (x f).2.1) hd (y.1 t = 6) a u) (hc : ∀ k : Nat, k < top → c2 k = c k) (hct : c2 top = (qAd y z c rt ra a : Int)) : kS y z vt vo vc tb hp tk c2 f (kUx x f ((x f).1, (k, U, m) :: (x f).2.1, 0, lUp (kR (x f)) (40 + wl (x f).2.1) (some a), lUp (kH (x f)) (40 + wl (x f).2.1) hd, al2, klo (x f), kAn (x f))) fb (top + 1) fil := by
  have hcr := hy.2.2.2.1 U hU
  have hk56 : (y.1 t = 5 ∨ y.1 t = 6) ∧ y.2.1 t = U := by
    rcases hkt with ⟨-, rfl⟩ | ⟨-, rfl⟩
    · exact ⟨Or.inl hcr.1, hcr.2.1⟩
    · exact ⟨Or.inr hcr.2.2.1, hcr.2.2.2⟩
  have hk : kNm (k, U, m) := by
    rcases hkt with ⟨rfl, -⟩ | ⟨rfl, -⟩ <;> (unfold kNm; simp)
  have j := kJ_pushR (m := m) hJ hy.2.2.2.1 hU hkt hn hl hno hal hT hok hmt
  obtain ⟨q1, q2, q3⟩ := qMm_tp (t := t) hy hJ hL hl hc
  have q := qMm_pl q1 (d := (f, 40 + wl (x f).2.1)) (by rw [qRt_eq]; rcases hk56.1 with a | a <;> rw [a] <;> decide) (by rw [qRt_eq]; rcases hk56.1 with a | a <;> rw [a] <;> decide) (by rw [qRt_eq]; rcases hk56.1 with a | a <;> rw [a] <;> decide) q2 (fun r π w hr hw => Or.inl (by rw [qRt_eq]; exact q3 r π w hr hw))
  rw [qRt_eq] at q
  have l := kL_push (ro := some a) (hd := hd) (al2 := al2) (e := (k, U, m)) hy hJ hL hk hn hal q (kTopC hy hJ hL hc) (by
    rcases hkt with ⟨rfl, -⟩ | ⟨rfl, -⟩
    · exact qRt_eq
    · exact qRt_eq) (fun a2 q => by
    injection q with q
    subst q
    rw [hk56.2]
    exact ⟨hT, hct⟩)
  have ek : kes z (k, U, m) = 1 := by
    rcases hkt with ⟨rfl, -⟩ | ⟨rfl, -⟩ <;> rfl
  rw [ek] at l
  exact ⟨_, _, _, j, l⟩
theorem kA_to {al2 : Nat → Prop} (hn : (x f).2.2.1 = 0) (hal : ∀ u : Nat, al2 u → kal (x f) u) : ∀ u : Nat, ((u < 40 ∧ al2 u) ∨ (40 ≤ u ∧ u < 40 + wl (x f).2.1)) → kA (x f) u := fun u hu => by
  rcases hu with ⟨a, b⟩ | ⟨a, b⟩
  · exact Or.inl ⟨a, hal u b⟩
  · exact Or.inr ⟨a, by rw [hn]; exact b⟩
/-- a shared reference is copied -/
theorem kS_cpR (hy : kYs y z vt vo vc) (h : kS y z vt vo vc tb hp tk c f x fb top fil) (hn : (x f).2.2.1 = 0) (hl : wl (x f).2.1 < 211) (hno : ∀ r m2 : Nat, (5, r, m2) ∉ (x f).2.1 ∧ (6, r, m2) ∉ (x f).2.1) {m U : Nat} {al2 : Nat → Prop} (hU : U < 10000) (hv4 : v < 40) (hvS : (8, v, 0) ∈ (x f).2.1) (hvt : vt (x f).1 v = 10000 + 2 * U) (hkv : kal (x f) v) (hlo : ¬ klo (x f) v []) (hal : ∀ u : Nat, al2 u → kal (x f) u) (hst : ∀ u l : Nat, kH (x f) u l → ¬ (tb (x f).1).2.2.2.1 l → (tb (x f).1).1 l = v → (tb (x f).1).2.2.1 l) (hc : ∀ k : Nat, k < top → c2 k = c k) (hct : c2 top = c (fb f + vo (x f).1 v)) : ∃ a : lLc, kS y z vt vo vc tb hp tk c2 f (kUx x f ((x f).1, (1, U, m) :: (x f).2.1, 0, lUp (kR (x f)) (40 + wl (x f).2.1) (some a), lUp (kH (x f)) (40 + wl (x f).2.1) (kH (x f) v), al2, klo (x f), kAn (x f))) fb (top + 1) fil := by
  obtain ⟨rt, ra, V, hJ, hL⟩ := h
  have hf := Nat.le_refl f
  have hcr := hy.2.2.2.1 U hU
  have h5 : y.1 (vt (x f).1 v) = 5 := by rw [hvt]; exact hcr.1
  obtain ⟨d, π, w, a1, a2, a3, a4, a5, a6, a7⟩ := pl_B hJ hL hv4 hvS hkv (Or.inl h5) hlo
  have hra : ra (f, v) = fb f + vo (x f).1 v := hL.2.2.2.1 f hf v hv4 hvS
  have eU : y.2.1 (vt (x f).1 v) = U := by rw [hvt]; exact hcr.2.1
  rw [eU] at a3 a4
  have hun : ¬ (y.1 (10000 + 2 * U) = 6) := by rw [hcr.1]; decide
  obtain ⟨b1, b2⟩ := lBw_copy2 (t := 40 + wl (x f).2.1) (un := y.1 (10000 + 2 * U) = 6) (hd := kH (x f) v) (hJ.2.1.1 f hf) (kA_to hn hal) (Or.inl ⟨hv4, hkv⟩) a1 (by show ¬ (y.1 (rt (f, v)) = 6); rw [a7, h5]; decide) hun (fun l q => q) hst
  exact ⟨d :: π, kS_pushR hy hJ hL hn hl hno hU (Or.inl ⟨rfl, rfl⟩) hal ⟨d, π, rfl, a2, a3, a4⟩ b1 b2 hc (by rw [hct, ← hra]; exact a6)⟩
/-- a place is lent -/
theorem kS_bor (hy : kYs y z vt vo vc) (h : kS y z vt vo vc tb hp tk c f x fb top fil) (hn : (x f).2.2.1 = 0) (hl : wl (x f).2.1 < 211) (hno : ∀ r m2 : Nat, (5, r, m2) ∉ (x f).2.1 ∧ (6, r, m2) ∉ (x f).2.1) {k m t l0 : Nat} {al2 : Nat → Prop} {hd : Nat → Prop} (hT9 : T < 10000) (hkt : (k = 1 ∧ t = 10000 + 2 * T) ∨ (k = 2 ∧ t = 10001 + 2 * T)) (hv4 : v < 40) (hvS : (8, v, 0) ∈ (x f).2.1) (hw : plW y z (vt (x f).1 v) T ρ os o) (hfu : fuL y (klo (x f)) v ρ T) (hkv : (y.1 (vt (x f).1 v) = 5 ∨ y.1 (vt (x f).1 v) = 6) → kal (x f) v) (htop : top < 2 ^ 31) (hal : ∀ u : Nat, al2 u → kal (x f) u) (hk : lCk (tb (x f).1) (kH (x f)) (fun u => (u < 40 ∧ al2 u) ∨ (40 ≤ u ∧ u < 40 + wl (x f).2.1)) v ρ (k = 1)) (hd0 : hd l0) (h0 : ¬ (tb (x f).1).2.2.2.1 l0) (h1 : (tb (x f).1).1 l0 = v) (h2 : (tb (x f).1).2.1 l0 = ρ) (h3 : k = 2 → ¬ (tb (x f).1).2.2.1 l0) (hrf : (tb (x f).1).2.2.2.2 v ↔ (y.1 (vt (x f).1 v) = 5 ∨ y.1 (vt (x f).1 v) = 6)) (hl2 : (y.1 (vt (x f).1 v) = 5 ∨ y.1 (vt (x f).1 v) = 6) → ∀ l : Nat, kH (x f) v l → hd l) (h6 : k = 2 → (y.1 (vt (x f).1 v) = 5 ∨ y.1 (vt (x f).1 v) = 6) → y.1 (vt (x f).1 v) = 6) (hc : ∀ k : Nat, k < top → c2 k = c k) (hct : c2 top = (rA c (fb f + vo (x f).1 v) os o : Int)) : ∃ a : lLc, kS y z vt vo vc tb hp tk c2 f (kUx x f ((x f).1, (k, T, m) :: (x f).2.1, 0, lUp (kR (x f)) (40 + wl (x f).2.1) (some a), lUp (kH (x f)) (40 + wl (x f).2.1) hd, al2, klo (x f), kAn (x f))) fb (top + 1) fil := by
  obtain ⟨rt, ra, V, hJ, hL⟩ := h
  have hf := Nat.le_refl f
  have hcr := hy.2.2.2.1 T hT9
  have hun : y.1 t = 6 ↔ k = 2 := by
    rcases hkt with ⟨rfl, rfl⟩ | ⟨rfl, rfl⟩
    · rw [hcr.1]; decide
    · rw [hcr.2.2.1]; decide
  have hk1 : k = 1 ↔ ¬ (y.1 t = 6) := by
    rw [hun]
    rcases hkt with ⟨rfl, -⟩ | ⟨rfl, -⟩ <;> decide
  have hk2 : lCk (tb (x f).1) (kH (x f)) (fun u => (u < 40 ∧ al2 u) ∨ (40 ≤ u ∧ u < 40 + wl (x f).2.1)) v ρ (¬ (y.1 t = 6)) := fun u l g1 g2 g3 g4 g5 => (hk u l g1 g2 g3 g4 g5).imp (hk1.mp) id
  obtain ⟨d, π, d1, d2, d3, d4, d5, d6, d7⟩ := pl_loc hy hJ hL hv4 hvS hw hfu hkv htop
  have hct2 : c2 top = (qAd y z c rt ra (d :: π) : Int) := by rw [hct, ← d4]; rfl
  have iv := hJ.2.1.1 f hf
  rcases d7 with ⟨rfl, rfl, n5, n6⟩ | ⟨π0, ρ2, e1, rfl, rfl, h56, e2⟩
  · obtain ⟨b1, b2⟩ := lBw_var (t := 40 + wl (x f).2.1) (un := y.1 t = 6) (hd := hd) iv (kA_to hn hal) hk2 hd0 h0 h1 h2 (fun q => h3 (hun.mp q)) (fun q => (hrf.mp q).elim n5 n6)
    exact ⟨(f, v) :: π, kS_pushR hy hJ hL hn hl hno hT9 hkt hal ⟨(f, v), π, rfl, d1, d2, d3⟩ b1 b2 hc hct2⟩
  · have hkr : rt (f, v) = vt (x f).1 v := (hJ.2.2.2.2.2.2.1 f hf v hv4 hvS).1
    obtain ⟨b1, b2⟩ := lBw_ref (t := 40 + wl (x f).2.1) (un := y.1 t = 6) (hd := hd) (r := ρ2) iv (kA_to hn hal) (Or.inl ⟨hv4, hkv h56⟩) e1 hk2 (fun q => by show y.1 (rt (f, v)) = 6; rw [hkr]; exact h6 (hun.mp q) h56) hd0 (hl2 h56) h0 h1 h2 (fun q => h3 (hun.mp q)) hv4
    exact ⟨(d :: π0) ++ ρ2, kS_pushR hy hJ hL hn hl hno hT9 hkt hal ⟨d, π0 ++ ρ2, rfl, d1, d2, d3⟩ b1 b2 hc hct2⟩
end
