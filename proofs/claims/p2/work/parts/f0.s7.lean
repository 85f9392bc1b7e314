theorem qG_nil {V W : qV} : qG V [] W = W := funext fun π => rfl
section
variable {y : qY} {z : qZ} {vt vo : Nat → Nat → Nat} {vc : Nat → Nat} {tb : Nat → lTb} {hp : Nat} {tk tk2 : Nat → Prop} {c c2 : Nat → Int} {f : Nat} {x : Nat → kFm} {rt ra : Nat × Nat → Nat} {V : Nat × Nat → qV} {fb : Nat → Nat} {top : Nat} {fil fil2 : Nat → Nat → Nat → Prop} {v T o : Nat} {ρ σ : lLc} {os : List Nat}
/-- a place is cut out of its variable; its cells stay as they are -/
theorem kL_cut (hJ : kJ y vt tb f x rt V) (hL : kL y z vt vo vc hp tk c f x rt ra V fb top fil) {B : Nat} {R2 : Nat → Option lLc} {al2 : Nat → Prop} {lo2 : Nat → lLc → Prop} (hn : (x f).2.2.1 = 0) (hz : qLy y z) (hv4 : v < 40) (hvS : (8, v, 0) ∈ (x f).2.1) (hmt : ∀ r m : Nat, (5, r, m) ∉ (x f).2.1 ∧ (6, r, m) ∉ (x f).2.1) (hm : qM σ) (hσ : qW y (vt (x f).1 v) σ B) (hR : ∀ u : Nat, u ≠ v → R2 u = kR (x f) u) (hRv : R2 v = kR (x f) v ∨ R2 v = none) (hal : ∀ u : Nat, al2 u → kal (x f) u) (hf1 : ∀ j w : Nat, (j, w) ≠ (f, v) → fil2 j w = fil j w) (hf2 : ∀ k : Nat, fil2 f v k → fil f v k ∧ ¬ (qA y z (fun _ => 0) (vt (x f).1 v) 0 σ ≤ k ∧ k < qA y z (fun _ => 0) (vt (x f).1 v) 0 σ + z.1 B)) : kL y z vt vo vc hp tk c f (kUx x f ((x f).1, (x f).2.1, 0, R2, kH (x f), al2, lo2, kAn (x f))) rt ra (qUp V (f, v) (qC (V (f, v)) σ)) fb top fil2 := by
  have hw := hL
  obtain ⟨l0, l1, l2, l3, l4, l5, l6, l7, l8, l9⟩ := hL
  have hf := Nat.le_refl f
  have ne : ∀ j u : Nat, j ≠ f ∨ 40 ≤ u → ((j, u) : Nat × Nat) ≠ (f, v) := fun j u h q => by
    injection q with q1 q2
    rcases h with h | h
    · exact h q1
    · omega
  have sub : ∀ (r : Nat × Nat) (π : lLc) (w : Nat × Nat), qUp V (f, v) (qC (V (f, v)) σ) r π = some w → V r π = some w := fun r π w hw => by
    by_cases e : r = (f, v)
    · rw [e, qUp_eq] at hw; rw [e]; exact (qC_some hw).2
    · rw [qUp_ne e] at hw; exact hw
  have q : qMm y z hp tk c rt ra (qUp V (f, v) (qC (V (f, v)) σ)) := qMm_sub l0 (fun r => by
    by_cases e : r = (f, v)
    · rw [e, qUp_eq]; exact qOk_C (l0.1 _) hm
    · rw [qUp_ne e]; exact l0.1 r) sub
  refine kL_var hJ hw hn (fun j u h => ⟨rfl, rfl, qUp_ne (ne j u h)⟩) (fun u hu => hR u (by omega)) ⟨[], fun e he => by simp at he, Or.inl rfl⟩ hmt q (fun _ _ _ _ _ => rfl) (fun _ _ _ _ _ _ _ => rfl) (fun u a u4 hu ha hw9 => ?_) (fun w w4 hwS => l3 f hf w w4 hwS) (fun j hj => funext fun w => hf1 j w (fun q => hj (by injection q))) (fun w w4 hwS π t hm1 hq hk hfl => ?_) (fun u π w u4 hw9 => l8 f u π w u4 (sub _ _ _ hw9))
  · obtain ⟨w, hw9⟩ := hw9
    have ha2 : kR (x f) u = some a := by
      by_cases e : u = v
      · rw [e] at ha ⊢
        rcases hRv with z | z
        · rw [← z]; exact ha
        · rw [z] at ha; simp at ha
      · rw [← hR u e]; exact ha
    exact l1 f hf u a (Or.inl (Or.inl ⟨u4, hal u hu⟩)) ha2 ⟨w, sub _ _ _ hw9⟩
  · by_cases e : w = v
    · subst e
      obtain ⟨g1, g2⟩ := hf2 _ hfl
      obtain ⟨w9, hw9⟩ := l7 f hf w w4 hwS π t hm1 hq hk g1
      refine ⟨w9, ?_⟩
      rw [qUp_eq, qC_out]; exact hw9
      intro q
      obtain ⟨τ, rfl⟩ := q
      obtain ⟨B2, v1, v2⟩ := qW_cut hq
      obtain rfl := qW_det hσ v1
      have mτ := (qM_app.mp hm1).2
      refine g2 ?_
      have i1 := qA_in (c := c) hz (a := qA y z c (vt (x f).1 w) 0 σ) v2 (qN_M mτ)
      have i2 := qA_sh (z := z) (c := c) (c2 := fun _ => 0) (a := 0) (b := 0) hσ (qN_M hm)
      have p1 := hz.1 t
      rw [qA_app hσ]
      constructor <;> omega
    · rw [qUp_ne (fun q => e (by injection q))]
      rw [hf1 f w (fun q => e (by injection q))] at hfl
      exact l7 f hf w w4 hwS π t hm1 hq hk hfl
/-- a value is moved out of its place -/
theorem kS_mv (hy : kYs y z vt vo vc) (h : kS y z vt vo vc tb hp tk c f x fb top fil) (hn : (x f).2.2.1 = 0) (hl : wl (x f).2.1 < 211) (hno : ∀ r m2 : Nat, (5, r, m2) ∉ (x f).2.1 ∧ (6, r, m2) ∉ (x f).2.1) {B : Nat} {al2 : Nat → Prop} {lo2 : Nat → lLc → Prop} (hT0 : T ≠ 0) (hT5 : y.1 T ≠ 5) (hT6 : y.1 T ≠ 6) (hv4 : v < 40) (hvS : (8, v, 0) ∈ (x f).2.1) (hw : qW y (vt (x f).1 v) ρ T) (hm : qM σ) (hσ : qW y (vt (x f).1 v) σ B) (hσρ : (ρ = σ ∧ ∀ k : Nat, tk k → tk2 k) ∨ (ρ = σ ++ [(1, 0)] ∧ ∀ k : Nat, tk k → ¬ (rA c (fb f + vo (x f).1 v) os o ≤ k ∧ k < rA c (fb f + vo (x f).1 v) os o + z.1 T) → tk2 k)) (hrt : os = (rtU y z (vt (x f).1 v) 0 ρ).1 ∧ o = (rtU y z (vt (x f).1 v) 0 ρ).2) (hfu : fuL y (klo (x f)) v ρ T) (hal : ∀ u : Nat, al2 u → kal (x f) u) (hlo : ∀ (w : Nat) (π : lLc), ¬ lo2 w π → ¬ klo (x f) w π ∧ (w = v → ¬ lCmp π σ)) (hk : lCk (tb (x f).1) (kH (x f)) (fun u => (u < 40 ∧ al2 u) ∨ (40 ≤ u ∧ u < 40 + wl (x f).2.1)) v ρ False) (hc1 : ∀ i : Nat, i < z.1 T → c2 (top + i) = c (rA c (fb f + vo (x f).1 v) os o + i)) (hc2 : ∀ k : Nat, ¬ (top ≤ k ∧ k < top + z.1 T) → c2 k = c k) (hf1 : ∀ j w : Nat, (j, w) ≠ (f, v) → fil2 j w = fil j w) (hf2 : ∀ k : Nat, fil2 f v k → fil f v k ∧ ¬ (qA y z (fun _ => 0) (vt (x f).1 v) 0 σ ≤ k ∧ k < qA y z (fun _ => 0) (vt (x f).1 v) 0 σ + z.1 B)) : kS y z vt vo vc tb hp tk2 c2 f (kUx x f ((x f).1, (0, T, 0) :: (x f).2.1, 0, lUp (kR (x f)) (40 + wl (x f).2.1) none, kH (x f), al2, lo2, kAn (x f))) fb (top + z.1 T) fil2 := by
  obtain ⟨rt, ra, V, hJ, hL⟩ := h
  have hf := Nat.le_refl f
  have hms : qMs ρ := by
    rcases hσρ with ⟨rfl, -⟩ | ⟨rfl, -⟩
    · exact qMs_M hm
    · intro a ha
      rcases List.mem_append.mp ha with q | q
      · exact Or.inl (hm a q)
      · rw [List.mem_singleton.mp q]; exact Or.inr rfl
  obtain ⟨F1, F2⟩ := pl_A hJ hv4 hvS hw hms hfu
  have hra : ra (f, v) = fb f + vo (x f).1 v := hL.2.2.2.1 f hf v hv4 hvS
  have eA : qA y z c (rt (f, v)) (ra (f, v)) ρ = rA c (fb f + vo (x f).1 v) os o := by
    rw [F2, ← hra, hrt.1, hrt.2]
    exact rtF_A (o := 0)
  have wρ : qW y (rt (f, v)) ρ T := by rw [F2]; exact hw
  have wσ : qW y (rt (f, v)) σ B := by rw [F2]; exact hσ
  have iv := hJ.2.1.1 f hf
  have hcc : ∀ (u : Nat) (b : lLc), ((u < 40 ∧ al2 u) ∨ (40 ≤ u ∧ u < 40 + wl (x f).2.1)) → kR (x f) u = some b → ¬ lCmp b ((f, v) :: σ) := fun u b hu hb hcm => by
    have hA := kA_to hn hal u hu
    obtain ⟨-, r, π, rfl, -, w1, -⟩ := hJ.2.2.1 f hf u b hA hb
    refine (lAc_var iv (kA_to hn hal) hk hu hb ?_).1
    obtain ⟨rfl, hcm2⟩ := lCmp_cons hcm
    clear hcm
    rcases hσρ with ⟨rfl, -⟩ | ⟨rfl, -⟩
    · exact hcm2.imp lP_consI lP_consI
    · rcases hcm2 with q | q
      · exact Or.inl (lP_consI (lP_tr q (lP_app _ _)))
      · obtain ⟨s, rfl⟩ := q
        cases s with
        | nil => rw [List.append_nil]; exact Or.inl (lP_consI (lP_app _ _))
        | cons a s =>
          obtain ⟨T2, v1, v2⟩ := qW_cut w1
          obtain rfl := qW_det wσ v1
          obtain ⟨T3, v3, v4⟩ := qW_cut wρ
          obtain rfl := qW_det wσ v3
          have h4 : y.1 B = 4 := v4.2.1
          obtain ⟨q, i⟩ := a
          refine Or.inr (lP_consI ?_)
          match q, v2 with
          | 0, v2 => exact absurd (h4.symm.trans v2.1) (by decide)
          | 1, v2 =>
            obtain rfl : i = 0 := v2.1
            exact ⟨s, by rw [List.append_assoc]; rfl⟩
          | g + 2, v2 => exact absurd (h4.symm.trans v2.1) (by decide)
  have j1 := kJ_cut hJ (σ := σ) (R2 := kR (x f)) (al2 := al2) (lo2 := lo2) hn hv4 hno hm (fun _ _ => rfl) (Or.inl rfl) hal hlo hcc
  have l1 := kL_cut (lo2 := lo2) (R2 := kR (x f)) hJ hL hn hy.1 hv4 hvS hno hm hσ (fun _ _ => rfl) (Or.inl rfl) hal hf1 hf2
  generalize hx1 : kUx x f ((x f).1, (x f).2.1, 0, kR (x f), kH (x f), al2, lo2, kAn (x f)) = x1 at j1 l1
  have e1 : x1 f = ((x f).1, (x f).2.1, 0, kR (x f), kH (x f), al2, lo2, kAn (x f)) := by rw [← hx1, kUx_eq]
  have eS : (x1 f).2.1 = (x f).2.1 := by rw [e1]
  have hu : qFu y T (qS (V (f, v)) ρ) := qFu_S (hL.1.1 _) wρ F1
  have hk0 : kNm (0, T, 0) := by unfold kNm; simp
  obtain ⟨q1, q2, q3⟩ := qMm_tp (c2 := c) (t := T) hy hJ hL hl (fun _ _ => rfl)
  have hnd : ((f, v) : Nat × Nat) ≠ (f, 40 + wl (x f).2.1) := fun q => by injection q with _ q; omega
  have hd0 : ∀ (r : Nat × Nat) (π : lLc) (w : Nat × Nat), V r π = some w → r ≠ (f, 40 + wl (x f).2.1) := fun r π w hw q => by
    rw [q, kNo hJ (Nat.le_refl _) (by omega) π] at hw; simp at hw
  have q := qMvT (tk2 := tk2) (c2 := c2) hy.1 q1 (s := (f, v)) (d := (f, 40 + wl (x f).2.1)) (σ := ρ) (ρ := []) (T1 := T) (Vs := qC (V (f, v)) σ) hnd (by rw [qRt_ne hnd]; exact wρ) (by rw [qRt_eq]; rfl) (by rw [qRt_ne hnd]; exact qOk_C (hL.1.1 _) hm) (fun π w hw => by
      obtain ⟨g1, g2⟩ := qC_some hw
      refine ⟨g2, fun q => g1 ?_⟩
      rcases hσρ with ⟨rfl, -⟩ | ⟨rfl, -⟩
      · exact q
      · exact lP_tr (lP_app _ _) q) (by rw [qRt_eq, qG_nil]; exact hu.1) (fun ρ1 j ρ2 e => by simp at e) (fun r π w hw _ _ => by
      have hr := hd0 r π w hw
      rw [qRt_eq, qRt_eq, qRt_ne hr, qRt_ne hr]
      have := kLt hy hJ hL hw
      show ¬ (top ≤ _ ∧ _)
      omega) (by rw [qRt_eq, qRt_eq]; exact hc2) (by
      rw [qRt_eq, qRt_eq, qRt_ne hnd, qRt_ne hnd, eA]; exact hc1) q2 (fun r π w hr hw => Or.inl (by
      have hw2 : V r π = some w := by
        by_cases e : r = (f, v)
        · rw [e, qUp_eq] at hw; rw [e]; exact (qC_some hw).2
        · rw [qUp_ne e] at hw; exact hw
      rw [qRt_eq]
      exact q3 r π w hr hw2)) (fun r0 π0 t g b hv0 k4 hs _ hb k g1 g2 => by
      have hr := hd0 r0 π0 _ hv0
      rw [qRt_ne hr, qRt_ne hr] at hb
      obtain ⟨b9, b1, b2, b3⟩ := (hL.1.2.1 r0 π0 t g hv0).2 k4
      rw [hb] at b1
      have b1 : b = b9 := by omega
      subst b1
      have htk := b3 k g1 g2
      rcases hσρ with ⟨rfl, q⟩ | ⟨rfl, q⟩
      · exact q k htk
      · refine q k htk (fun g3 => ?_)
        obtain ⟨T3, v3, v4⟩ := qW_cut wρ
        obtain rfl := qW_det wσ v3
        have h4 : y.1 B = 4 := v4.2.1
        obtain ⟨⟨t1, g5⟩, e5⟩ := qPl_par (hL.1.1 (f, v)) (ρ1 := σ) (j := 0) (ρ2 := []) (qF_pl F1)
        obtain rfl := qW_det ((hL.1.1 (f, v)).1 σ t1 g5 e5).1 wσ
        obtain ⟨bb, c1, c3, -⟩ := (hL.1.2.1 (f, v) σ t1 g5 e5).2 h4
        have e6 : rA c (fb f + vo (x f).1 v) os o = bb := by
          rw [← eA, qA_app wσ]
          show (c _).toNat = bb
          rw [c1, Int.toNat_natCast]
        have e7 : y.2.1 t1 = T := v4.2.2.symm
        have ap := hL.1.2.2.1 r0 π0 t g (f, v) σ t1 g5 b bb hv0 e5 k4 h4 (fun q => by
          injection q with q1 q2
          rcases hs q1 with z9 | ⟨w, z9⟩
          · obtain ⟨s, z9⟩ := z9
            have := congrArg List.length z9
            rw [q2] at this
            simp only [List.length_append, List.length_cons, List.length_nil] at this
            omega
          · exact absurd (by rw [q2]; exact lP_rf σ) (qC_some z9).1) hb c1
        rw [e7] at ap
        omega)
  rw [qG_nil] at q
  have j := kJ_push (hd := kH (x1 f) (40 + wl (x1 f).2.1)) j1 hk0 (by rw [e1]) (by rw [eS]; exact hl) hu.1 (fun w hw => by
    obtain ⟨a, b⟩ := w
    have e9 : a = T := (hu.1.1 [] a b hw).1
    show y.1 a ≠ 5 ∧ y.1 a ≠ 6
    rw [e9]
    exact ⟨hT5, hT6⟩) (e := (0, T, 0)) ⟨lUp_eq, hT5, hT6, fun _ => ⟨qRt_eq, by rw [qUp_eq]; exact hu.2⟩, fun q => absurd q hT0⟩
  have l := kL_push (ro := none) (hd := kH (x1 f) (40 + wl (x1 f).2.1)) (al2 := kal (x1 f)) (e := (0, T, 0)) (t := T) (W := qS (V (f, v)) ρ) (tk2 := tk2) (c2 := c2) hy j1 l1 hk0 (by rw [e1]) (fun u q => q) (by rw [eS]; exact q) (fun r π w hw => by
    have := kLt hy j1 l1 hw
    exact hc2 _ (by omega)) (fun _ => qRt_eq) (fun a q => by simp at q)
  rw [lUp_self] at j l
  rw [e1, ← hx1, kUx2] at j l
  rw [show kes z (0, T, 0) = z.1 T from if_neg hT0] at l
  exact ⟨_, _, _, j, l⟩
/-- a reference is moved out of its variable -/
theorem kS_mvR (hy : kYs y z vt vo vc) (h : kS y z vt vo vc tb hp tk c f x fb top fil) (hn : (x f).2.2.1 = 0) (hl : wl (x f).2.1 < 211) (hno : ∀ r m2 : Nat, (5, r, m2) ∉ (x f).2.1 ∧ (6, r, m2) ∉ (x f).2.1) {m U : Nat} {al2 : Nat → Prop} {lo2 : Nat → lLc → Prop} (hU : U < 10000) (hv4 : v < 40) (hvS : (8, v, 0) ∈ (x f).2.1) (hvt : vt (x f).1 v = 10001 + 2 * U) (hkv : kal (x f) v) (hlv : ¬ klo (x f) v []) (hal : ∀ u : Nat, al2 u → kal (x f) u ∧ u ≠ v) (hlo : ∀ (w : Nat) (π : lLc), ¬ lo2 w π → ¬ klo (x f) w π ∧ (w = v → ¬ lCmp π [])) (hk : lCk (tb (x f).1) (kH (x f)) (fun u => (u < 40 ∧ al2 u) ∨ (40 ≤ u ∧ u < 40 + wl (x f).2.1)) v [] False) (hc : ∀ k : Nat, k < top → c2 k = c k) (hct : c2 top = c (fb f + vo (x f).1 v)) (hf1 : ∀ j w : Nat, (j, w) ≠ (f, v) → fil2 j w = fil j w) (hf2 : ∀ k : Nat, fil2 f v k → fil f v k ∧ k ≠ 0) : ∃ a : lLc, kS y z vt vo vc tb hp tk c2 f (kUx x f ((x f).1, (2, U, m) :: (x f).2.1, 0, lUp (lUp (kR (x f)) v none) (40 + wl (x f).2.1) (some a), lUp (kH (x f)) (40 + wl (x f).2.1) (kH (x f) v), al2, lo2, kAn (x f))) fb (top + 1) fil2 := by
  obtain ⟨rt, ra, V, hJ, hL⟩ := h
  have hf := Nat.le_refl f
  have hcr := hy.2.2.2.1 U hU
  have h6 : y.1 (vt (x f).1 v) = 6 := by rw [hvt]; exact hcr.2.2.1
  obtain ⟨d, π, w, a1, a2, a3, a4, a5, a6, a7⟩ := pl_B hJ hL hv4 hvS hkv (Or.inr h6) hlv
  have hra : ra (f, v) = fb f + vo (x f).1 v := hL.2.2.2.1 f hf v hv4 hvS
  have eU : y.2.1 (vt (x f).1 v) = U := by rw [hvt]; exact hcr.2.2.2
  rw [eU] at a3 a4
  have iv := hJ.2.1.1 f hf
  have hal1 : ∀ u : Nat, al2 u → kal (x f) u := fun u q => (hal u q).1
  have hA2 : ∀ u : Nat, ((u < 40 ∧ al2 u) ∨ (40 ≤ u ∧ u < 40 + wl (x f).2.1)) → kA (x f) u ∧ u ≠ v := fun u hu => ⟨kA_to hn hal1 u hu, by
    rcases hu with q | q
    · exact (hal u q.2).2
    · omega⟩
  have hcc : ∀ (u : Nat) (b : lLc), ((u < 40 ∧ al2 u) ∨ (40 ≤ u ∧ u < 40 + wl (x f).2.1)) → kR (x f) u = some b → ¬ lCmp b ((f, v) :: []) := fun u b hu hb hcm => (lAc_var iv (kA_to hn hal1) hk hu hb hcm).1
  have hRn : ∀ u : Nat, u ≠ v → lUp (kR (x f)) v none u = kR (x f) u := fun u q => lUp_ne q
  have hcc2 : ∀ (u : Nat) (b : lLc), ((u < 40 ∧ al2 u) ∨ (40 ≤ u ∧ u < 40 + wl (x f).2.1)) → lUp (kR (x f)) v none u = some b → ¬ lCmp b ((f, v) :: []) := fun u b hu hb => hcc u b hu (by rw [← hRn u (hA2 u hu).2]; exact hb)
  obtain ⟨b1, b2⟩ := lBw_move (t := 40 + wl (x f).2.1) (un := y.1 (10001 + 2 * U) = 6) (hd := kH (x f) v) iv hA2 (Or.inl ⟨hv4, hkv⟩) a1 hk (fun _ => by show y.1 (rt (f, v)) = 6; rw [a7]; exact h6) (fun l q => q)
  have zz : z.1 (vt (x f).1 v) = 1 := by rw [hvt]; exact (hy.2.1.2 U).2
  have j1 := kJ_cut hJ (σ := []) (R2 := lUp (kR (x f)) v none) (al2 := al2) (lo2 := lo2) hn hv4 hno qM_nil hRn (Or.inr ⟨lUp_eq, rfl⟩) hal1 hlo hcc2
  have l1 := kL_cut (lo2 := lo2) (R2 := lUp (kR (x f)) v none) (σ := []) (B := vt (x f).1 v) hJ hL hn hy.1 hv4 hvS hno qM_nil rfl hRn (Or.inr lUp_eq) hal1 hf1 (fun k q => by
    obtain ⟨g1, g2⟩ := hf2 k q
    refine ⟨g1, fun g3 => g2 ?_⟩
    have g3 : 0 ≤ k ∧ k < 0 + z.1 (vt (x f).1 v) := g3
    omega)
  generalize hx1 : kUx x f ((x f).1, (x f).2.1, 0, lUp (kR (x f)) v none, kH (x f), al2, lo2, kAn (x f)) = x1 at j1 l1
  have e1 : x1 f = ((x f).1, (x f).2.1, 0, lUp (kR (x f)) v none, kH (x f), al2, lo2, kAn (x f)) := by rw [← hx1, kUx_eq]
  have eS : (x1 f).2.1 = (x f).2.1 := by rw [e1]
  have htg : qTg y rt (qUp V (f, v) (qC (V (f, v)) [])) (d :: π) U := by
    refine ⟨d, π, rfl, a2, a3, ?_⟩
    have hdv : d ≠ (f, v) := fun e => by
      subst e
      have q := (hL.1.1 (f, v)).1
      have : rt (f, v) = vt (x f).1 v := a7
      cases π with
      | nil =>
        have a3 : U = rt (f, v) := a3
        have h9 := hy.2.2.2.2 (vt (x f).1 v) (Or.inr h6)
        rw [eU, a3, this] at h9
        exact h9.2 h6
      | cons s π =>
        obtain ⟨q, i⟩ := s
        rw [this] at a3
        match q, a3 with
        | 0, a3 => exact absurd (h6.symm.trans a3.1) (by decide)
        | 1, a3 => exact absurd (h6.symm.trans a3.2.1) (by decide)
        | g + 2, a3 => exact absurd (h6.symm.trans a3.1) (by decide)
    rw [qUp_ne hdv]; exact a4
  have r := kS_pushR (c2 := c2) (m := m) (k := 2) (t := 10001 + 2 * U) (U := U) (a := d :: π) (hd := kH (x f) v) (al2 := al2) hy j1 l1 (by rw [e1]) (by rw [eS]; exact hl) (by rw [eS]; exact hno) hU (Or.inr ⟨rfl, rfl⟩) (by rw [e1]; exact fun u q => q) htg (by rw [e1]; exact b1) (by
    rw [e1]
    intro u hu b hb
    have hne := (hA2 u hu).2
    have hb : lUp (kR (x f)) v none u = some b := hb
    have hb2 : kR (x f) u = some b := by rw [← hRn u hne]; exact hb
    exact b2 u hu b hb2) hc (by
    rw [hct, ← hra, a6]; rfl)
  rw [e1, ← hx1, kUx2] at r
  exact ⟨d :: π, r⟩
end
