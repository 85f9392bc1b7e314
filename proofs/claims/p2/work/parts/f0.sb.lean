section
variable {y : qY} {z : qZ} {vt vo : Nat → Nat → Nat} {vc : Nat → Nat} {tb : Nat → lTb} {hp : Nat} {tk tk2 : Nat → Prop} {c c2 : Nat → Int} {f : Nat} {x : Nat → kFm} {rt ra : Nat × Nat → Nat} {V V2 : Nat × Nat → qV} {fb : Nat → Nat} {top : Nat} {fil fil2 : Nat → Nat → Nat → Prop} {v T o : Nat} {ρ σ : lLc} {os : List Nat}
/-- the value on top goes to (d, π), what was there is dropped -/
theorem qMm_asg (hy : kYs y z vt vo vc) (hJ : kJ y vt tb f x rt V) (hL : kL y z vt vo vc hp tk c f x rt ra V fb top fil) {S : List tE} {m : Nat} (hS : (x f).2.1 = (0, T, m) :: S) (hT : T ≠ 0) {d : Nat × Nat} {π : lLc} (hd4 : d.2 < 40) (hw : qW y (rt d) π T) (hVd : qOk y (rt d) (qG (V d) π (V (f, 40 + wl S)))) (hpar : ∀ (ρ1 : lLc) (j : Nat) (ρ2 : lLc), π = ρ1 ++ (1, j) :: ρ2 → ∃ w : Nat × Nat, V d ρ1 = some w) (e1 : ∀ (r : Nat × Nat) (τ : lLc) (w : Nat × Nat), V r τ = some w → ¬ (r = d ∧ lP π τ) → ¬ (qA y z c (rt d) (ra d) π ≤ qA y z c (rt r) (ra r) τ ∧ qA y z c (rt r) (ra r) τ < qA y z c (rt d) (ra d) π + z.1 T)) (e4 : hp ≤ ra d) (e5 : ∀ (r : Nat × Nat) (τ : lLc) (w : Nat × Nat), r ≠ d → V r τ = some w → ra r + z.1 (rt r) ≤ ra d ∨ ra d + z.1 (rt d) ≤ ra r) (hc1 : ∀ i : Nat, i < z.1 T → c2 (qA y z c (rt d) (ra d) π + i) = c (fb f + vc (x f).1 + khs z S + i)) (hc2 : ∀ k : Nat, ¬ (qA y z c (rt d) (ra d) π ≤ k ∧ k < qA y z c (rt d) (ra d) π + z.1 T) → c2 k = c k) (htk : ∀ k : Nat, tk k → ¬ drB y z c rt ra V (fun r τ => r = d ∧ lP π τ) k → tk2 k) : qMm y z hp tk2 c2 rt ra (qUp (kCl V f (wl S)) d (qG (V d) π (V (f, 40 + wl S)))) ∧ rt (f, 40 + wl S) = T ∧ qF y (V (f, 40 + wl S)) [] T ∧ y.1 T ≠ 5 ∧ y.1 T ≠ 6 := by
  have hf := Nat.le_refl f
  have hk0 : kNm (0, T, m) := by unfold kNm; simp
  have hK := hJ.2.2.2.2.1 f hf
  rw [hS] at hK
  obtain ⟨⟨k1, k2, k3, k4, k5⟩, -⟩ := hK
  obtain ⟨r1, r2⟩ := k4 hT
  have hA := hL.2.2.1 f hf
  rw [hS] at hA
  have a1 : ra (f, 40 + wl S) = fb f + vc (x f).1 + khs z S := hA.1 hT
  have wS : wl (x f).2.1 = wl S + 1 := by rw [hS, wl_n hk0]
  have wB := hJ.2.2.2.2.2.2.2.2 f hf
  have hsd : ((f, 40 + wl S) : Nat × Nat) ≠ d := fun q => by rw [← q] at hd4; have hd4 : 40 + wl S < 40 := hd4; omega
  refine ⟨?_, r1, r2, k2, k3⟩
  have q := qMvT (tk2 := tk2) (c2 := c2) hy.1 hL.1 (s := (f, 40 + wl S)) (d := d) (σ := []) (ρ := π) (T1 := T) (Vs := fun _ => none) hsd r1.symm hw qOk_none (fun _ _ q => by simp at q) hVd hpar (fun r τ w g1 g2 _ => e1 r τ w g1 g2) hc2 (by
    intro i hi
    rw [hc1 i hi]
    show c _ = c (ra (f, 40 + wl S) + i)
    rw [a1]) e4 (fun r τ w hr hw9 => by
    by_cases e9 : r = (f, 40 + wl S)
    · rw [e9, qUp_eq] at hw9; simp at hw9
    · rw [qUp_ne e9] at hw9
      exact e5 r τ w hr hw9) (fun r0 π0 t g b hv0 k4 _ hd hb => dr_tk hL.1 htk hv0 k4 (fun q => hd q.1 q.2) hb)
  have ev : qUp (kCl V f (wl S)) d (qG (V d) π (V (f, 40 + wl S))) = qUp (qUp V (f, 40 + wl S) (fun _ => none)) d (qG (V d) π (qS (V (f, 40 + wl S)) [])) := funext fun r => by
    by_cases e9 : r = d
    · rw [e9, qUp_eq, qUp_eq]; rfl
    · rw [qUp_ne e9, qUp_ne e9]
      have := congrFun (kCl_one hJ (W := fun _ => none) hS hk0) r
      by_cases e8 : r = (f, 40 + wl S)
      · rw [e8, qUp_eq]
        exact kCl_ze ⟨rfl, Nat.le_refl _, by show 40 + wl S < 300; omega⟩
      · rw [qUp_ne e8]
        rw [qUp_ne e8, qUp_ne e8] at this
        exact this
  rw [ev]; exact q
/-- a value is put into a place of a variable that is reached without a star -/
theorem kS_as1 (hy : kYs y z vt vo vc) (hz16 : ∀ t : Nat, z.1 t ≤ 16) (h : kS y z vt vo vc tb hp tk c f x fb top fil) {S : List tE} {m : Nat} (hS : (x f).2.1 = (0, T, m) :: S) (hn : (x f).2.2.1 = 0) (hno : ∀ r m : Nat, (5, r, m) ∉ S ∧ (6, r, m) ∉ S) (hT : T ≠ 0) (hv4 : v < 40) (hvS : (8, v, 0) ∈ S) (hvt0 : vt (x f).1 v ≠ 0) (hw : qW y (vt (x f).1 v) ρ T) (hm : qM ρ) {al2 : Nat → Prop} {lo2 : Nat → lLc → Prop} (hal : ∀ u : Nat, al2 u → kal (x f) u) (hlo : ∀ (w : Nat) (π : lLc), ¬ lo2 w π → ¬ klo (x f) w π ∨ (w = v ∧ lCmp π ρ)) (hk : lCk (tb (x f).1) (kH (x f)) (fun u => (u < 40 ∧ al2 u) ∨ (40 ≤ u ∧ u < 40 + wl S)) v ρ False) : ∃ (P : Nat → Nat → Int32 → Prop) (B : Nat → Prop), drC y z c hp top P B ∧ (∀ p : Int32, (∀ k : Nat, k < 16 → ibit p k = true → fil f v (qA y z (fun _ => 0) (vt (x f).1 v) 0 ρ + k)) → P T (fb f + vo (x f).1 v + qA y z (fun _ => 0) (vt (x f).1 v) 0 ρ) p) ∧ ∀ (tk2 : Nat → Prop) (c2 : Nat → Int) (fil2 : Nat → Nat → Nat → Prop), (∀ k : Nat, tk k → ¬ B k → tk2 k) → (∀ i : Nat, i < z.1 T → c2 (fb f + vo (x f).1 v + qA y z (fun _ => 0) (vt (x f).1 v) 0 ρ + i) = c (fb f + vc (x f).1 + khs z S + i)) → (∀ k : Nat, ¬ (fb f + vo (x f).1 v + qA y z (fun _ => 0) (vt (x f).1 v) 0 ρ ≤ k ∧ k < fb f + vo (x f).1 v + qA y z (fun _ => 0) (vt (x f).1 v) 0 ρ + z.1 T) → c2 k = c k) → (∀ j w : Nat, (j, w) ≠ (f, v) → fil2 j w = fil j w) → (∀ k : Nat, fil2 f v k → fil f v k ∨ (qA y z (fun _ => 0) (vt (x f).1 v) 0 ρ ≤ k ∧ k < qA y z (fun _ => 0) (vt (x f).1 v) 0 ρ + z.1 T)) → kS y z vt vo vc tb hp tk2 c2 f (kUx x f ((x f).1, S, 0, kR (x f), kH (x f), al2, lo2, kAn (x f))) fb (fb f + vc (x f).1 + khs z S) fil2 := by
  obtain ⟨rt, ra, V, hJ, hL⟩ := h
  have hf := Nat.le_refl f
  have hk0 : kNm (0, T, m) := by unfold kNm; simp
  have hvS1 : (8, v, 0) ∈ (x f).2.1 := by rw [hS]; exact List.mem_cons_of_mem _ hvS
  obtain ⟨r1, r2⟩ := hJ.2.2.2.2.2.2.1 f hf v hv4 hvS1
  have hra : ra (f, v) = fb f + vo (x f).1 v := hL.2.2.2.1 f hf v hv4 hvS1
  have eA : qA y z c (rt (f, v)) (ra (f, v)) ρ = fb f + vo (x f).1 v + qA y z (fun _ => 0) (vt (x f).1 v) 0 ρ := by
    have := qA_sh (z := z) (c := c) (c2 := fun _ => 0) (a := ra (f, v)) (b := 0) hw (qN_M hm)
    rw [r1, hra] at *
    omega
  have hw2 : qW y (rt (f, v)) ρ T := by rw [r1]; exact hw
  have ht := kTopF hL
  have iin := qA_in (c := fun _ => 0) (a := 0) hy.1 hw (qN_M hm)
  have wS : wl (x f).2.1 = wl S + 1 := by rw [hS, wl_n hk0]
  have wB := hJ.2.2.2.2.2.2.2.2 f hf
  have iv := hJ.2.1.1 f hf
  refine ⟨dPF y z c rt ra V (fun r τ => r = (f, v) ∧ lP ρ τ), drB y z c rt ra V (fun r τ => r = (f, v) ∧ lP ρ τ), dr_ok hy.1 hz16 hL.1 (fun r π w => kLt hy hJ hL) (fun r π σ q => ⟨q.1, lP_tr q.2 (lP_app _ _)⟩), fun p g4 => ?_, fun tk2 c2 fil2 htk hc1 hc2 hf1 hf2 => ?_⟩
  · refine ⟨(f, v), ρ, ⟨rfl, lP_rf ρ⟩, hw2, eA.symm, fun τ s q1 q2 q3 q4 => ?_⟩
    have i1 := qA_in (c := fun _ => 0) (a := 0) hy.1 q2 (qN_M q1)
    have i2 := hz16 T
    have i3 := hy.1.1 s
    have m2 : qM (ρ ++ τ) := qM_app.mpr ⟨hm, q1⟩
    have i4 := qA_sh (z := z) (c := c) (c2 := fun _ => 0) (a := 0) (b := 0) (qW_app hw q2) (qN_M m2)
    have i5 := qA_sh (z := z) (c := fun _ => 0) (c2 := fun _ => 0) (a := qA y z (fun _ => 0) (vt (x f).1 v) 0 ρ) (b := 0) q2 (qN_M q1)
    refine hL.2.2.2.2.2.2.2.1 f hf v hv4 hvS1 (ρ ++ τ) s m2 (qW_app hw q2) q3 ?_
    have e9 : qA y z (fun _ => 0) (vt (x f).1 v) 0 (ρ ++ τ) = qA y z (fun _ => 0) (vt (x f).1 v) 0 ρ + qA y z (fun _ => 0) T 0 τ := by
      rw [qA_app hw]; omega
    rw [show qA y z c (vt (x f).1 v) 0 (ρ ++ τ) = qA y z (fun _ => 0) (vt (x f).1 v) 0 ρ + qA y z (fun _ => 0) T 0 τ by omega]
    exact g4 _ (by omega) q4
  · have ap : ∀ (r : Nat × Nat) (τ : lLc) (w : Nat × Nat), V r τ = some w → ¬ (r = (f, v) ∧ lP ρ τ) → ¬ (qA y z c (rt (f, v)) (ra (f, v)) ρ ≤ qA y z c (rt r) (ra r) τ ∧ qA y z c (rt r) (ra r) τ < qA y z c (rt (f, v)) (ra (f, v)) ρ + z.1 T) := fun r τ w hw9 hn9 => by
      by_cases e9 : r = (f, v)
      · subst e9
        obtain ⟨t9, g9⟩ := w
        obtain ⟨w1, w2, -⟩ := (hL.1.1 _).1 τ t9 g9 hw9
        rcases qN_last τ with nπ | ⟨π1, i, π2, rfl, nπ⟩
        · refine qA_ap (c := c) (a := ra (f, v)) hy.1 hw2 w1 (qN_M hm) nπ (fun q => hn9 ⟨rfl, q⟩) w2 (fun κ ρ1 π1 g1 j1 g2 j2 q _ => ?_)
          have := hm (g1 + 2, j1) (by rw [q]; exact List.mem_append_right _ (List.mem_cons_self ..))
          exact absurd this (by show ¬ (g1 + 2 = 0); omega)
        · have := qEndH hy.1 hL.1 w1 nπ (qPl_of hw9)
          have := hy.1.1 t9
          rw [eA]
          omega
      · have := qFresh (n := z.1 (vt (x f).1 v)) (a := fb f + vo (x f).1 v) hy.1 hL.1 (by omega) hw9 (kVarAp hy hJ hL hv4 hvt0 hw9 e9)
        rw [eA]
        omega
    have hsW : qOk y T (V (f, 40 + wl S)) := by
      have hK := hJ.2.2.2.2.1 f hf
      rw [hS] at hK
      obtain ⟨⟨k1, k2, k3, k4, k5⟩, -⟩ := hK
      rw [← (k4 hT).1]; exact hL.1.1 _
    obtain ⟨q, s1, s2, s3, s4⟩ := qMm_asg (c2 := c2) (tk2 := tk2) hy hJ hL hS hT hv4 hw2 (qOk_Gm (hL.1.1 _) hw2 hm hsW) (fun ρ1 j ρ2 e => by
      have := hm (1, j) (by rw [e]; exact List.mem_append_right _ (List.mem_cons_self ..))
      exact absurd this (by show ¬ ((1 : Nat) = 0); decide)) ap (by omega) (fun r τ w hr hw9 => by
      rw [hra, r1]; exact kVarAp hy hJ hL hv4 hvt0 hw9 hr) (by rw [eA]; exact hc1) (by rw [eA]; exact hc2) htk
    have hE1 : ∀ e : tE, e ∈ [(0, T, m)] → kNm e := fun e he => by rw [List.mem_singleton.mp he]; exact hk0
    have j1 := kJ_pop hJ (E := [(0, T, m)]) (S := S) hS hE1 hn
    have l1 := kL_pop hJ hL (E := [(0, T, m)]) (S := S) hS hE1 hn (qMm_cl hL.1)
    generalize hx1 : kUx x f ((x f).1, S, 0, kR (x f), kH (x f), kal (x f), klo (x f), kAn (x f)) = x1 at j1 l1
    have e1 : x1 f = ((x f).1, S, 0, kR (x f), kH (x f), kal (x f), klo (x f), kAn (x f)) := by rw [← hx1, kUx_eq]
    have xo : ∀ j : Nat, j ≠ f → x1 j = x j := fun j hj => by rw [← hx1, kUx_ne hj]
    have hcv : kCl V f (wl S) (f, v) = V (f, v) := kCl_ge (fun g => by have := g.2.1; have : 40 + wl S ≤ v := this; omega)
    have hcmp : ∀ (u : Nat) (b : lLc), ((u < 40 ∧ al2 u) ∨ (40 ≤ u ∧ u < 40 + wl S)) → kR (x f) u = some b → ¬ lCmp b ((f, v) :: ρ) := fun u b hu hb hcm => by
      refine (lAc_var iv (fun u hu => ?_) hk hu hb hcm).1
      rcases hu with ⟨a, b⟩ | ⟨a, b⟩
      · exact Or.inl ⟨a, hal u b⟩
      · exact Or.inr ⟨a, by omega⟩
    have j2 := kJ_as1 (v := v) (T1 := T) (ρ := ρ) (W := V (f, 40 + wl S)) (al2 := al2) (lo2 := lo2) j1 (by rw [e1]) hv4 (by rw [e1]; exact hvS) (by rw [e1]; exact hno) hm (by rw [e1]; exact hw) ⟨hsW, s2⟩ ⟨s3, s4⟩ (by rw [e1]; exact hal) (by rw [e1]; exact hlo) (by
      rw [e1]
      intro u b hu hb hcm
      exact absurd hcm (hcmp u b hu hb))
    have tgA : ∀ (a : lLc) (U : Nat), qTg y rt (kCl V f (wl S)) a U → ¬ lP ((f, v) :: ρ) a → qAd y z c2 rt ra a = qAd y z c rt ra a := fun a U htg hnl => qAd_pl j1.1 htg (fun _ _ _ => ⟨rfl, rfl⟩) (fun r π π1 w ea hw9 hp1 hne => hc2 _ (by
      rw [← eA]
      refine ap r π1 w (kCl_le hw9).1 (fun g => hnl ?_)
      rw [ea, g.1]
      exact lP_consI (lP_tr g.2 hp1)))
    have fr : ∀ (j u : Nat) (a : lLc), j ≤ f → kA (x1 j) u → kR (x1 j) u = some a → (j = f → (u < 40 ∧ al2 u) ∨ (40 ≤ u ∧ u < 40 + wl S)) → ¬ lP ((f, v) :: ρ) a := fun j u a hj hu ha hjf hlp => by
      by_cases e : j = f
      · subst e
        rw [e1] at ha
        exact hcmp u a (hjf rfl) ha (Or.inr hlp)
      · obtain ⟨j2, w, r, e8, e9⟩ := lIv_fr (j1.2.1.1 j hj) hu ha
        rw [e8] at hlp
        obtain ⟨e7, -⟩ := lP_cons hlp
        injection e7 with e7 _
        omega
    have l2 := kL_var (c2 := c2) (tk2 := tk2) (rt2 := rt) (ra2 := ra) (V2 := qUp (kCl V f (wl S)) (f, v) (qG (V (f, v)) ρ (V (f, 40 + wl S)))) (S2 := (x1 f).2.1) (R2 := kR (x1 f)) (H2 := kH (x1 f)) (al2 := al2) (lo2 := lo2) (fil2 := fil2) j1 l1 (by rw [e1]) (fun j u g => ⟨rfl, rfl, qUp_ne (fun q => by injection q with q1 q2; omega)⟩) (fun _ _ => rfl) ⟨[], fun e he => by simp at he, Or.inl rfl⟩ (by rw [e1]; exact hno) q (fun j u w g hw9 => hc2 _ (by
      rw [← eA]
      exact ap (j, u) [] w (kCl_le hw9).1 (fun q => by have := q.1; injection this with q1 q2; omega))) (fun j u a hj hu ha g => tgA a _ (j1.2.2.1 j hj u a hu ha).2 (fr j u a hj hu ha (fun e => by
      subst e
      have g := g rfl
      rcases hu with hu | hu
      · omega
      · rw [e1] at hu; exact Or.inr hu))) (fun u a u4 hu ha hw9 => by
      obtain ⟨w, hw9⟩ := hw9
      have hu2 : kA (x1 f) u := Or.inl ⟨u4, by rw [e1]; exact hal u hu⟩
      have hw8 : ∃ w : Nat × Nat, kCl V f (wl S) (f, u) [] = some w := by
        by_cases e : u = v
        · obtain ⟨h56, -⟩ := j1.2.2.1 f hf u a hu2 ha
          rw [e, qUp_eq] at hw9
          rw [e, hcv]
          by_cases c9 : lP ρ []
          · obtain ⟨s, c9⟩ := c9
            have : ρ = [] := by
              cases ρ with
              | nil => rfl
              | cons _ _ => simp at c9
            subst this
            rw [e, r1, show vt (x f).1 v = T from (show T = vt (x f).1 v from hw).symm] at h56
            exact absurd h56 (by rintro (q | q); exact s3 q; exact s4 q)
          · rw [qG_out c9] at hw9; exact ⟨w, hw9⟩
        · rw [qUp_ne (fun q => e (by injection q))] at hw9; exact ⟨w, hw9⟩
      obtain ⟨w8, hw8⟩ := hw8
      rw [tgA a _ (j1.2.2.1 f hf u a hu2 ha).2 (fr f u a hf hu2 ha (fun _ => Or.inl ⟨u4, hu⟩)), ← l1.2.1 f hf u a (Or.inl hu2) ha ⟨w8, hw8⟩]
      refine hc2 _ ?_
      rw [← eA]
      refine ap (f, u) [] w8 (kCl_le hw8).1 (fun q => ?_)
      obtain ⟨q1, q2⟩ := q
      injection q1 with _ q1
      obtain ⟨h56, -⟩ := j1.2.2.1 f hf u a hu2 ha
      have : ρ = [] := by
        obtain ⟨s, q2⟩ := q2
        cases ρ with
        | nil => rfl
        | cons _ _ => simp at q2
      subst this
      rw [q1, r1, show vt (x f).1 v = T from (show T = vt (x f).1 v from hw).symm] at h56
      exact absurd h56 (by rintro (q | q); exact s3 q; exact s4 q)) (fun w w4 hwS => l1.2.2.2.1 f hf w w4 hwS) (fun j hj => funext fun w => hf1 j w (fun q => hj (by injection q))) (fun w w4 hwS π t hm1 hq9 hk9 hfl9 => by
      rw [e1] at hq9 hfl9
      have hq9 : qW y (vt (x f).1 w) π t := hq9
      have hfl9 : fil2 f w (qA y z c2 (vt (x f).1 w) 0 π) := hfl9
      have i4 := qA_sh (z := z) (c := c2) (c2 := c) (a := 0) (b := 0) hq9 (qN_M hm1)
      have i5 := qA_sh (z := z) (c := c2) (c2 := fun _ => 0) (a := 0) (b := 0) hq9 (qN_M hm1)
      by_cases e : w = v
      · subst e
        rw [qUp_eq]
        by_cases c9 : lP ρ π
        · obtain ⟨τ, rfl⟩ := c9
          rw [qG_in]
          obtain ⟨T9, v1, v2⟩ := qW_cut hq9
          obtain rfl := qW_det hw v1
          exact (s2 τ t (qM_app.mp hm1).2 v2).1 hk9
        · rw [qG_out c9, ← hcv]
          rcases hf2 _ hfl9 with g | g
          · refine l1.2.2.2.2.2.2.2.1 f hf w w4 hwS π t hm1 (by rw [e1]; exact hq9) hk9 ?_
            rw [e1]
            show fil f w (qA y z c (vt (x f).1 w) 0 π)
            rw [show qA y z c (vt (x f).1 w) 0 π = qA y z c2 (vt (x f).1 w) 0 π by omega]
            exact g
          · refine absurd ?_ (qA_ap (c := fun _ => 0) (a := 0) hy.1 hw hq9 (qN_M hm) (qN_M hm1) c9 hk9 (fun κ ρ1 π1 g1 j1 g2 j2 q _ => ?_))
            · rw [show qA y z (fun _ => 0) (vt (x f).1 w) 0 π = qA y z c2 (vt (x f).1 w) 0 π by omega]
              exact g
            · have := hm (g1 + 2, j1) (by rw [q]; exact List.mem_append_right _ (List.mem_cons_self ..))
              exact absurd this (by show ¬ (g1 + 2 = 0); omega)
      · rw [qUp_ne (fun q => e (by injection q))]
        rw [hf1 f w (fun q => e (by injection q))] at hfl9
        refine l1.2.2.2.2.2.2.2.1 f hf w w4 hwS π t hm1 (by rw [e1]; exact hq9) hk9 ?_
        rw [e1]
        show fil f w (qA y z c (vt (x f).1 w) 0 π)
        rw [show qA y z c (vt (x f).1 w) 0 π = qA y z c2 (vt (x f).1 w) 0 π by omega]
        exact hfl9) (fun u π w u4 hw9 => by
      by_cases e : u = v
      · rw [e1, e]; exact hvt0
      · rw [qUp_ne (fun q => e (by injection q))] at hw9
        exact l1.2.2.2.2.2.2.2.2.1 f u π w u4 hw9)
    rw [hcv] at j2
    rw [e1, ← hx1, kUx2] at j2 l2
    exact ⟨_, _, _, j2, l2⟩
end
