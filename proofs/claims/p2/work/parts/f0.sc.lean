section
variable {y : qY} {z : qZ} {vt vo : Nat → Nat → Nat} {vc : Nat → Nat} {tb : Nat → lTb} {hp : Nat} {tk tk2 : Nat → Prop} {c c2 : Nat → Int} {f : Nat} {x : Nat → kFm} {rt ra : Nat × Nat → Nat} {V V2 : Nat × Nat → qV} {fb : Nat → Nat} {top : Nat} {fil fil2 : Nat → Nat → Nat → Prop} {v T o : Nat} {ρ σ : lLc} {os : List Nat}
/-- a value is put into a place behind a star -/
theorem kS_as2 (hy : kYs y z vt vo vc) (hz16 : ∀ t : Nat, z.1 t ≤ 16) (h : kS y z vt vo vc tb hp tk c f x fb top fil) {S : List tE} {m : Nat} (hS : (x f).2.1 = (0, T, m) :: S) (hn : (x f).2.2.1 = 0) (hno : ∀ r m : Nat, (5, r, m) ∉ S ∧ (6, r, m) ∉ S) (hT : T ≠ 0) (hv4 : v < 40) (hvS : (8, v, 0) ∈ S) (hw : plW y z (vt (x f).1 v) T ρ os o) (hfu : fuL y (klo (x f)) v ρ T) (hkv : (y.1 (vt (x f).1 v) = 5 ∨ y.1 (vt (x f).1 v) = 6) → kal (x f) v ∧ y.1 (vt (x f).1 v) = 6) (htop : top < 2 ^ 31) {al2 : Nat → Prop} {lo2 : Nat → lLc → Prop} (hal : ∀ u : Nat, al2 u → kal (x f) u) (hlo : ∀ (w : Nat) (π : lLc), klo (x f) w π → lo2 w π) (hk : lCk (tb (x f).1) (kH (x f)) (fun u => (u < 40 ∧ al2 u) ∨ (40 ≤ u ∧ u < 40 + wl S)) v ρ False) : ∃ (P : Nat → Nat → Int32 → Prop) (B : Nat → Prop), drC y z c hp top P B ∧ (∀ p : Int32, P T (rA c (fb f + vo (x f).1 v) os o) p) ∧ ∀ (tk2 : Nat → Prop) (c2 : Nat → Int), (∀ k : Nat, tk k → ¬ B k → tk2 k) → (∀ i : Nat, i < z.1 T → c2 (rA c (fb f + vo (x f).1 v) os o + i) = c (fb f + vc (x f).1 + khs z S + i)) → (∀ k : Nat, ¬ (rA c (fb f + vo (x f).1 v) os o ≤ k ∧ k < rA c (fb f + vo (x f).1 v) os o + z.1 T) → c2 k = c k) → kS y z vt vo vc tb hp tk2 c2 f (kUx x f ((x f).1, S, 0, kR (x f), kH (x f), al2, lo2, kAn (x f))) fb (fb f + vc (x f).1 + khs z S) fil := by
  obtain ⟨rt, ra, V, hJ, hL⟩ := h
  have hf := Nat.le_refl f
  have hk0 : kNm (0, T, m) := by unfold kNm; simp
  have hvS1 : (8, v, 0) ∈ (x f).2.1 := by rw [hS]; exact List.mem_cons_of_mem _ hvS
  obtain ⟨d, π, d1, d2, d3, d4, d5, d6, d7⟩ := pl_loc hy hJ hL hv4 hvS1 hw hfu (fun q => (hkv q).1) htop
  have wS : wl (x f).2.1 = wl S + 1 := by rw [hS, wl_n hk0]
  have wB := hJ.2.2.2.2.2.2.2.2 f hf
  have iv := hJ.2.1.1 f hf
  refine ⟨dPF y z c rt ra V (fun r τ => r = d ∧ lP π τ), drB y z c rt ra V (fun r τ => r = d ∧ lP π τ), dr_ok hy.1 hz16 hL.1 (fun r π w => kLt hy hJ hL) (fun r π σ q => ⟨q.1, lP_tr q.2 (lP_app _ _)⟩), fun p => ?_, fun tk2 c2 htk hc1 hc2 => ?_⟩
  · rw [← d4]
    exact dP_full (DS := fun r τ => r = d ∧ lP π τ) ⟨rfl, lP_rf π⟩ d2 d3
  · rw [← d4] at hc1 hc2
    obtain ⟨σ0, w0, hpl⟩ := qF_pl d3
    have ap : ∀ (r : Nat × Nat) (τ : lLc) (w : Nat × Nat), V r τ = some w → ¬ (r = d ∧ lP π τ) → ¬ (qA y z c (rt d) (ra d) π ≤ qA y z c (rt r) (ra r) τ ∧ qA y z c (rt r) (ra r) τ < qA y z c (rt d) (ra d) π + z.1 T) := fun r τ w hw9 hn9 => by
      obtain ⟨t9, g9⟩ := w
      exact qOwn hy.1 hL.1 hpl d2 hw9 (fun q => hn9 ⟨q.1.symm, q.2⟩)
    have hsW : qOk y T (V (f, 40 + wl S)) ∧ qF y (V (f, 40 + wl S)) [] T := by
      have hK := hJ.2.2.2.2.1 f hf
      rw [hS] at hK
      obtain ⟨⟨k1, k2, k3, k4, k5⟩, -⟩ := hK
      refine ⟨?_, (k4 hT).2⟩
      rw [← (k4 hT).1]; exact hL.1.1 _
    obtain ⟨q, s1, s2, s3, s4⟩ := qMm_asg (c2 := c2) (tk2 := tk2) hy hJ hL hS hT d1 d2 (qOk_G (hL.1.1 _) d2 ⟨σ0, w0, hpl⟩ hsW) (fun ρ1 j ρ2 e => by
      subst e
      exact qPl_par (hL.1.1 d) (qF_pl d3)) ap (hL.1.2.2.2.1 d _ _ hpl) (fun r τ w hr hw9 => hL.1.2.2.2.2 r d τ _ w w0 hr hw9 hpl) hc1 hc2 htk
    -- less is looked at
    have J0 := kJ_wk2 (H2 := kH (x f)) (al2 := fun u => al2 u ∨ (u = v ∧ kal (x f) v)) (lo2 := klo (x f)) hJ hn (fun _ _ _ _ _ q => q) (fun u q => q.elim (hal u) (fun q => by rw [q.1]; exact q.2)) (fun _ _ _ _ q => q)
    have L0 := kL_wk (H2 := kH (x f)) (al2 := fun u => al2 u ∨ (u = v ∧ kal (x f) v)) (lo2 := klo (x f)) hJ hL hn (fun u q => q.elim (hal u) (fun q => by rw [q.1]; exact q.2))
    generalize hx0 : kUx x f ((x f).1, (x f).2.1, 0, kR (x f), kH (x f), (fun u => al2 u ∨ (u = v ∧ kal (x f) v)), klo (x f), kAn (x f)) = x0 at J0 L0
    have e0 : x0 f = ((x f).1, (x f).2.1, 0, kR (x f), kH (x f), (fun u => al2 u ∨ (u = v ∧ kal (x f) v)), klo (x f), kAn (x f)) := by rw [← hx0, kUx_eq]
    have hE1 : ∀ e : tE, e ∈ [(0, T, m)] → kNm e := fun e he => by rw [List.mem_singleton.mp he]; exact hk0
    have hS0 : (x0 f).2.1 = [(0, T, m)] ++ S := by rw [e0]; exact hS
    have j1 := kJ_pop J0 hS0 hE1 (by rw [e0])
    have l1 := kL_pop J0 L0 hS0 hE1 (by rw [e0]) (qMm_cl hL.1)
    generalize hx1 : kUx x0 f ((x0 f).1, S, 0, kR (x0 f), kH (x0 f), kal (x0 f), klo (x0 f), kAn (x0 f)) = x1 at j1 l1
    have e1 : x1 f = ((x f).1, S, 0, kR (x f), kH (x f), (fun u => al2 u ∨ (u = v ∧ kal (x f) v)), klo (x f), kAn (x f)) := by
      rw [← hx1, kUx_eq, e0]; rfl
    have xo : ∀ j : Nat, j ≠ f → x1 j = x j := fun j hj => by rw [← hx1, kUx_ne hj, ← hx0, kUx_ne hj]
    have hcv : kCl V f (wl S) d = V d := kCl_ge (fun g => by have := g.2.1; omega)
    have ha : ∀ (j u : Nat) (b : lLc), j ≤ f → kA (x1 j) u → kR (x1 j) u = some b → lCmp b (d :: π) → lP b (d :: π) := fun j u b hj hu hb hcm => by
      by_cases e : j = f
      · subst e
        rw [e1] at hu hb
        have hb : kR (x j) u = some b := hb
        have hA2 : ∀ u : Nat, ((u < 40 ∧ al2 u) ∨ (40 ≤ u ∧ u < 40 + wl S)) → kA (x j) u := fun u hu => by
          rcases hu with ⟨a, b⟩ | ⟨a, b⟩
          · exact Or.inl ⟨a, hal u b⟩
          · exact Or.inr ⟨a, by omega⟩
        have hu2 : ((u < 40 ∧ al2 u) ∨ (40 ≤ u ∧ u < 40 + wl S)) ∨ (u = v ∧ kal (x j) v) := by
          rcases hu with ⟨a, b⟩ | ⟨a, b⟩
          · rcases b with b | b
            · exact Or.inl (Or.inl ⟨a, b⟩)
            · exact Or.inr b
          · exact Or.inl (Or.inr ⟨a, b⟩)
        rcases d7 with ⟨rfl, rfl, n5, n6⟩ | ⟨π0, ρ2, g1, rfl, rfl, h56, g2⟩
        · rcases hu2 with hu2 | ⟨rfl, hu2⟩
          · exact absurd (lAc_var iv hA2 hk hu2 hb hcm).1 id
          · obtain ⟨h56, -⟩ := hJ.2.2.1 j hf u b (Or.inl ⟨hv4, hu2⟩) hb
            rw [(hJ.2.2.2.2.2.2.1 j hf u hv4 hvS1).1] at h56
            exact absurd h56 (by rintro (q | q); exact n5 q; exact n6 q)
        · by_cases euv : u = v
          · rw [euv, g1] at hb
            injection hb with hb
            rw [← hb]
            exact lP_app (d :: π0) ρ2
          · rcases hu2 with hu2 | ⟨q, -⟩
            · have hun : y.1 (rt (j, v)) = 6 := by rw [(hJ.2.2.2.2.2.2.1 j hf v hv4 hvS1).1]; exact (hkv h56).2
              rcases lAc_ref iv hA2 (Or.inl ⟨hv4, (hkv h56).1⟩) g1 hk hu2 euv hb (Or.inr hun) hcm with q | q
              · exact absurd q.1 id
              · exact lP_tr (lRt_up q) (lP_app (d :: π0) ρ2)
            · exact absurd q euv
      · rw [xo j e] at hu hb
        rcases d7 with ⟨rfl, rfl, n5, n6⟩ | ⟨π0, ρ2, g1, rfl, rfl, h56, g2⟩
        · obtain ⟨j2, w, r, e8, e9⟩ := lIv_fr (hJ.2.1.1 j hj) hu hb
          rw [e8] at hcm
          obtain ⟨e7, -⟩ := lCmp_cons hcm
          injection e7 with e7 _
          omega
        · have hun : y.1 (rt (f, v)) = 6 := by rw [(hJ.2.2.2.2.2.2.1 f hf v hv4 hvS1).1]; exact (hkv h56).2
          have := kUp hJ.2.1 (r := v) (b := d :: π0) (Or.inl ⟨hv4, (hkv h56).1⟩) g1 hun (j := j) (by omega) hu hb (lCmp_sym (lCmp_pre (lP_app (d :: π0) ρ2) (lCmp_sym hcm)))
          exact lP_tr this (lP_app (d :: π0) ρ2)
    have j2 := kJ_as2 j1 d1 (by rw [e1]; exact hno) d2 (by rw [hcv]; exact d3) hsW ⟨s3, s4⟩ ha
    have l2 := kL_as2 (tk2 := tk2) (c2 := c2) j1 l1 d1 (by rw [e1]; exact hno) d2 (by rw [hcv]; exact d3) hsW ⟨s3, s4⟩ ha (by rw [hcv]; exact q) (fun r τ w hw9 hn9 => hc2 _ (ap r τ w (kCl_le hw9).1 hn9))
    have j3 := kJ_wk2 (H2 := kH (x f)) (al2 := al2) (lo2 := lo2) j2 (by rw [e1]) (by rw [e1]; exact fun _ _ _ _ _ q => q) (by rw [e1]; exact fun u q => Or.inl q) (by rw [e1]; exact fun w π _ _ q => hlo w π q)
    have l3 := kL_wk (H2 := kH (x f)) (al2 := al2) (lo2 := lo2) j2 l2 (by rw [e1]) (by rw [e1]; exact fun u q => Or.inl q)
    have ex : kUx x1 f ((x1 f).1, (x1 f).2.1, 0, kR (x1 f), kH (x f), al2, lo2, kAn (x1 f)) = kUx x f ((x f).1, S, 0, kR (x f), kH (x f), al2, lo2, kAn (x f)) := by
      rw [e1, ← hx1, kUx2, ← hx0, kUx2]; rfl
    rw [ex] at j3 l3
    rw [show (x0 f).1 = (x f).1 by rw [e0]] at l3
    exact ⟨_, _, _, j3, l3⟩
/-- a reference is put into its variable anew -/
theorem kS_asR (hy : kYs y z vt vo vc) (h : kS y z vt vo vc tb hp tk c f x fb top fil) {k U m : Nat} {S : List tE} (hS : (x f).2.1 = (k, U, m) :: S) (hn : (x f).2.2.1 = 0) (hno : ∀ r m : Nat, (5, r, m) ∉ S ∧ (6, r, m) ∉ S) (hU : U < 10000) (hkt : (k = 1 ∧ vt (x f).1 v = 10000 + 2 * U) ∨ (k = 2 ∧ vt (x f).1 v = 10001 + 2 * U)) (hv4 : v < 40) (hvS : (8, v, 0) ∈ S) {al2 : Nat → Prop} {lo2 : Nat → lLc → Prop} (hal : ∀ u : Nat, u ≠ v → al2 u → kal (x f) u) (hlo : ∀ (w : Nat) (π : lLc), w ≠ v → ¬ lo2 w π → ¬ klo (x f) w π) (hc1 : c2 (fb f + vo (x f).1 v) = c (fb f + vc (x f).1 + khs z S)) (hc2 : ∀ k : Nat, k ≠ fb f + vo (x f).1 v → c2 k = c k) (hf1 : ∀ j w : Nat, (j, w) ≠ (f, v) → fil2 j w = fil j w) : ∃ a : lLc, kS y z vt vo vc tb hp tk c2 f (kUx x f ((x f).1, S, 0, lUp (kR (x f)) v (some a), lUp (kH (x f)) v (kH (x f) (40 + wl S)), al2, lo2, kAn (x f))) fb (fb f + vc (x f).1 + khs z S) fil2 := by
  obtain ⟨rt, ra, V, hJ, hL⟩ := h
  have hf := Nat.le_refl f
  have hcr := hy.2.2.2.1 U hU
  have hk0 : kNm (k, U, m) := by
    rcases hkt with ⟨rfl, -⟩ | ⟨rfl, -⟩ <;> (unfold kNm; simp)
  have hvS1 : (8, v, 0) ∈ (x f).2.1 := by rw [hS]; exact List.mem_cons_of_mem _ hvS
  have rv1 := (hJ.2.2.2.2.2.2.1 f hf v hv4 hvS1).1
  have hrv : ra (f, v) = fb f + vo (x f).1 v := hL.2.2.2.1 f hf v hv4 hvS1
  have hK := hJ.2.2.2.2.1 f hf
  rw [hS] at hK
  have hK1 : rt (f, 40 + wl S) = vt (x f).1 v ∧ ∃ w : Nat × Nat, V (f, 40 + wl S) [] = some w := by
    rcases hkt with ⟨rfl, e⟩ | ⟨rfl, e⟩
    · rw [e]; exact hK.1
    · rw [e]; exact hK.1
  obtain ⟨r1, ⟨t9, g9⟩, r2⟩ := hK1
  have h56 : (y.1 (vt (x f).1 v) = 5 ∨ y.1 (vt (x f).1 v) = 6) ∧ y.2.1 (vt (x f).1 v) = U ∧ vt (x f).1 v ≠ 0 ∧ z.1 (vt (x f).1 v) = 1 := by
    rcases hkt with ⟨-, e⟩ | ⟨-, e⟩
    · rw [e]; exact ⟨Or.inl hcr.1, hcr.2.1, by omega, (hy.2.1.2 U).1⟩
    · rw [e]; exact ⟨Or.inr hcr.2.2.1, hcr.2.2.2, by omega, (hy.2.1.2 U).2⟩
  obtain ⟨h56, eU, hv0, hz1⟩ := h56
  have hA := hL.2.2.1 f hf
  rw [hS] at hA
  have a1 : ra (f, 40 + wl S) = fb f + vc (x f).1 + khs z S := by
    rcases hkt with ⟨rfl, -⟩ | ⟨rfl, -⟩
    · exact hA.1
    · exact hA.1
  have wS : wl (x f).2.1 = wl S + 1 := by rw [hS, wl_n hk0]
  have wB := hJ.2.2.2.2.2.2.2.2 f hf
  have ht := kTopF hL
  have hWk : qOk y (vt (x f).1 v) (V (f, 40 + wl S)) := by rw [← r1]; exact hL.1.1 _
  have e9 : t9 = vt (x f).1 v := (hWk.1 [] t9 g9 r2).1
  have hks : kA (x f) (40 + wl S) := Or.inr ⟨by omega, by omega⟩
  obtain ⟨a, ea⟩ := hJ.2.2.2.1 f hf (40 + wl S) t9 g9 r2 (by rw [e9]; exact h56) hks
  obtain ⟨-, htg⟩ := hJ.2.2.1 f hf (40 + wl S) a hks ea
  rw [r1, eU] at htg
  have hla := hL.2.1 f hf (40 + wl S) a (Or.inl hks) ea ⟨_, r2⟩
  have ap : ∀ (r : Nat × Nat) (π : lLc) (w : Nat × Nat), V r π = some w → r ≠ (f, v) → qA y z c (rt r) (ra r) π ≠ fb f + vo (x f).1 v := fun r π w hw hr e => by
    have := qFresh (n := 1) (a := fb f + vo (x f).1 v) hy.1 hL.1 (by omega) hw (by rw [← hz1]; exact kVarAp hy hJ hL hv4 hv0 hw hr)
    omega
  have hsd : ((f, 40 + wl S) : Nat × Nat) ≠ (f, v) := fun q => by injection q with _ q; omega
  have fullW : ∀ (π : lLc) (t : Nat), qW y (vt (x f).1 v) π t → π = [] ∧ t = vt (x f).1 v := fun π t g2 => by
    cases π with
    | nil => exact ⟨rfl, g2⟩
    | cons s π =>
      obtain ⟨q, i⟩ := s
      match q, g2 with
      | 0, g2 => exact absurd g2.1 (by rcases h56 with h | h <;> rw [h] <;> decide)
      | 1, g2 => exact absurd g2.2.1 (by rcases h56 with h | h <;> rw [h] <;> decide)
      | g + 2, g2 => exact absurd g2.1 (by rcases h56 with h | h <;> rw [h] <;> decide)
  have q := qMv (c2 := c2) hy.1 hL.1 (s := (f, 40 + wl S)) (d := (f, v)) (σ := []) (ρ := []) (T1 := vt (x f).1 v) (Vs := fun _ => none) hsd r1.symm rv1.symm qOk_none (fun π w hw => by simp at hw) (by
      rw [qG_nil, rv1]; exact hWk) (fun ρ1 j ρ2 e9 => by simp at e9) (fun r π w hw hn9 _ => by
      have hr : r ≠ (f, v) := fun e => hn9 ⟨e, π, rfl⟩
      show ¬ (ra (f, v) ≤ _ ∧ _ < ra (f, v) + _)
      rw [hrv, hz1]
      have := ap r π w hw hr
      omega) (by
      show ∀ k : Nat, ¬ (ra (f, v) ≤ k ∧ k < ra (f, v) + _) → _
      rw [hrv, hz1]
      intro k hk
      exact hc2 k (by omega)) (by
      rw [hz1]
      intro i hi
      obtain rfl : i = 0 := by omega
      show c2 (ra (f, v) + 0) = c (ra (f, 40 + wl S) + 0)
      rw [Nat.add_zero, Nat.add_zero, hrv, a1]
      exact hc1) (by rw [hrv]; omega) (fun r π w hr hw => by
      rw [hrv, rv1]
      by_cases e9 : r = (f, 40 + wl S)
      · rw [e9, qUp_eq] at hw; simp at hw
      · rw [qUp_ne e9] at hw
        exact kVarAp hy hJ hL hv4 hv0 hw hr)
  have ev : qUp (kCl V f (wl S)) (f, v) (V (f, 40 + wl S)) = qUp (qUp V (f, 40 + wl S) (fun _ => none)) (f, v) (qG (V (f, v)) [] (qS (V (f, 40 + wl S)) [])) := funext fun r => by
    by_cases e9 : r = (f, v)
    · rw [e9, qUp_eq, qUp_eq, qG_nil]; rfl
    · rw [qUp_ne e9, qUp_ne e9]
      have := congrFun (kCl_one hJ (W := fun _ => none) hS hk0) r
      by_cases e8 : r = (f, 40 + wl S)
      · rw [e8, qUp_eq]
        exact kCl_ze ⟨rfl, Nat.le_refl _, by show 40 + wl S < 300; omega⟩
      · rw [qUp_ne e8]
        rw [qUp_ne e8, qUp_ne e8] at this
        exact this
  rw [← ev] at q
  have hE1 : ∀ e : tE, e ∈ [(k, U, m)] → kNm e := fun e he => by rw [List.mem_singleton.mp he]; exact hk0
  have j1 := kJ_pop hJ (E := [(k, U, m)]) (S := S) hS hE1 hn
  have l1 := kL_pop hJ hL (E := [(k, U, m)]) (S := S) hS hE1 hn (qMm_cl hL.1)
  generalize hx1 : kUx x f ((x f).1, S, 0, kR (x f), kH (x f), kal (x f), klo (x f), kAn (x f)) = x1 at j1 l1
  have e1 : x1 f = ((x f).1, S, 0, kR (x f), kH (x f), kal (x f), klo (x f), kAn (x f)) := by rw [← hx1, kUx_eq]
  obtain ⟨b1, b2⟩ := lBw_pop (A2 := fun u => ((u < 40 ∧ al2 u) ∨ (40 ≤ u ∧ u < 40 + wl S)) ∧ u ≠ v) (t := v) (un := y.1 (vt (x f).1 v) = 6) (hd := kH (x f) (40 + wl S)) (hJ.2.1.1 f hf) (fun u hu => by
    obtain ⟨hu, hne⟩ := hu
    rcases hu with ⟨g1, g2⟩ | ⟨g1, g2⟩
    · exact ⟨Or.inl ⟨g1, hal u hne g2⟩, by omega⟩
    · exact ⟨Or.inr ⟨g1, by omega⟩, by omega⟩) (by omega) hks ea (fun q => by show y.1 (rt (f, 40 + wl S)) = 6; rw [r1]; exact q) (fun l q => q) (lP_rf a)
  have htg2 : qTg y rt (kCl V f (wl S)) a U := qTg_eq htg (fun r π _ _ hr => ⟨kCl_ge (fun g => by omega), rfl⟩)
  have j2 := kJ_set (v := v) (S2 := S) (W := V (f, 40 + wl S)) (ro := some a) (hd := kH (x f) (40 + wl S)) (al2 := al2) (lo2 := lo2) hy.2.2.2.2 j1 (by rw [e1]) hv4 (by rw [e1]; exact hno) (Or.inr ⟨by rw [e1], by rw [e1]; exact hvS, by rw [e1]; exact h56⟩) (by rw [e1]; exact hWk) (by rw [e1]; exact hal) (by rw [e1]; exact hlo) (by
    rw [e1]
    intro π t g1 g2 _
    obtain ⟨rfl, rfl⟩ := fullW π t g2
    exact ⟨fun _ => ⟨_, r2⟩, fun q => absurd q (by rcases h56 with h | h <;> rw [h] <;> decide)⟩) (Or.inr ⟨a, rfl, by rw [e1]; exact b1, by
      rw [e1]
      exact fun u hu hne => b2 u ⟨hu, hne⟩, by
      rw [e1]
      show qTg y rt (kCl V f (wl S)) a (y.2.1 (vt (x f).1 v))
      rw [eU]
      exact htg2, by rw [e1]; exact h56⟩)
  have noV : ∀ (b : lLc) (W9 : Nat × Nat → qV) (T9 : Nat), qTg y rt W9 b T9 → y.1 T9 ≠ 5 → y.1 T9 ≠ 6 → ∀ (r : Nat × Nat) (π : lLc), b = r :: π → r ≠ (f, v) := fun b W9 T9 hb n5 n6 r π e er => by
    obtain ⟨r3, π3, e3, -, w3, -⟩ := hb
    rw [e] at e3
    injection e3 with e3 e4
    rw [← e3, er, rv1] at w3
    obtain ⟨-, e5⟩ := fullW π3 T9 w3
    rw [e5] at n5 n6
    exact h56.elim n5 n6
  have adr : ∀ (b : lLc) (T9 : Nat), qTg y rt (kCl V f (wl S)) b T9 → y.1 T9 ≠ 5 → y.1 T9 ≠ 6 → qAd y z c2 rt ra b = qAd y z c rt ra b := fun b T9 hb n5 n6 => qAd_pl j1.1 hb (fun _ _ _ => ⟨rfl, rfl⟩) (fun r π π1 w eb hw9 _ _ => hc2 _ (ap r π1 w (kCl_le hw9).1 (noV b _ T9 hb n5 n6 r π eb)))
  have tgn : ∀ (j u : Nat) (b : lLc), j ≤ f → kA (x1 j) u → kR (x1 j) u = some b → qAd y z c2 rt ra b = qAd y z c rt ra b := fun j u b hj hu hb => by
    obtain ⟨g1, g2⟩ := j1.2.2.1 j hj u b hu hb
    obtain ⟨n5, n6⟩ := hy.2.2.2.2 _ g1
    exact adr b _ g2 n5 n6
  rw [e1] at j2
  have j2 : kJ y vt tb f (kUx x1 f ((x f).1, S, 0, lUp (kR (x f)) v (some a), lUp (kH (x f)) v (kH (x f) (40 + wl S)), al2, lo2, kAn (x f))) (qRt rt (f, v) (vt (x f).1 v)) (qUp (kCl V f (wl S)) (f, v) (V (f, 40 + wl S))) := j2
  rw [qRt_id rv1] at j2
  have l2 := kL_var (c2 := c2) (tk2 := tk) (rt2 := rt) (ra2 := ra) (V2 := qUp (kCl V f (wl S)) (f, v) (V (f, 40 + wl S))) (S2 := (x1 f).2.1) (R2 := lUp (kR (x1 f)) v (some a)) (H2 := lUp (kH (x f)) v (kH (x f) (40 + wl S))) (al2 := al2) (lo2 := lo2) (fil2 := fil2) j1 l1 (by rw [e1]) (fun j u g => ⟨rfl, rfl, qUp_ne (fun q => by injection q with q1 q2; omega)⟩) (fun u hu => lUp_ne (by omega)) ⟨[], fun e he => by simp at he, Or.inl rfl⟩ (by rw [e1]; exact hno) q (fun j u w g hw9 => hc2 _ (ap (j, u) [] w (kCl_le hw9).1 (fun q => by injection q with q1 q2; omega))) (fun j u b hj hu hb _ => tgn j u b hj hu hb) (fun u b u4 hu hb hw9 => by
    by_cases e : u = v
    · rw [e] at hb ⊢
      rw [lUp_eq] at hb
      injection hb with hb
      rw [← hb]
      obtain ⟨n5, n6⟩ := hy.2.2.2.2 _ h56
      rw [eU] at n5 n6
      rw [adr a U htg2 n5 n6, hrv, hc1, ← a1]
      exact hla
    · rw [lUp_ne e] at hb
      obtain ⟨w, hw9⟩ := hw9
      rw [qUp_ne (fun q => e (by injection q))] at hw9
      have hu2 : kA (x1 f) u := Or.inl ⟨u4, by rw [e1]; exact hal u e hu⟩
      rw [tgn f u b hf hu2 hb, ← l1.2.1 f hf u b (Or.inl hu2) hb ⟨w, hw9⟩]
      exact hc2 _ (ap (f, u) [] w (kCl_le hw9).1 (fun q => e (by injection q)))) (fun w w4 hwS => l1.2.2.2.1 f hf w w4 hwS) (fun j hj => funext fun w => hf1 j w (fun q => hj (by injection q))) (fun w w4 hwS π t hm1 hq9 hk9 hfl9 => by
    rw [e1] at hq9 hfl9
    have hq9 : qW y (vt (x f).1 w) π t := hq9
    have hfl9 : fil2 f w (qA y z c2 (vt (x f).1 w) 0 π) := hfl9
    have i4 := qA_sh (z := z) (c := c2) (c2 := c) (a := 0) (b := 0) hq9 (qN_M hm1)
    by_cases e : w = v
    · subst e
      rw [qUp_eq]
      obtain ⟨rfl, rfl⟩ := fullW π t hq9
      exact ⟨_, r2⟩
    · rw [qUp_ne (fun q => e (by injection q))]
      rw [hf1 f w (fun q => e (by injection q))] at hfl9
      refine l1.2.2.2.2.2.2.2.1 f hf w w4 hwS π t hm1 (by rw [e1]; exact hq9) hk9 ?_
      rw [e1]
      show fil f w (qA y z c (vt (x f).1 w) 0 π)
      rw [show qA y z c (vt (x f).1 w) 0 π = qA y z c2 (vt (x f).1 w) 0 π by omega]
      exact hfl9) (fun u π w u4 hw9 => by
    by_cases e : u = v
    · rw [e1, e]; exact hv0
    · rw [qUp_ne (fun q => e (by injection q))] at hw9
      exact l1.2.2.2.2.2.2.2.2.1 f u π w u4 hw9)
  rw [e1] at l2
  have l2 : kL y z vt vo vc hp tk c2 f (kUx x1 f ((x f).1, S, 0, lUp (kR (x f)) v (some a), lUp (kH (x f)) v (kH (x f) (40 + wl S)), al2, lo2, kAn (x f))) rt ra (qUp (kCl V f (wl S)) (f, v) (V (f, 40 + wl S))) fb (fb f + vc (x f).1 + khs z S) fil2 := l2
  rw [← hx1, kUx2] at j2 l2
  exact ⟨a, _, _, _, j2, l2⟩
end
