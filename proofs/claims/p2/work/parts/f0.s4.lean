theorem kCl_le {V : Nat × Nat → qV} {f n : Nat} {r : Nat × Nat} {π : lLc} {w : Nat × Nat} (h : kCl V f n r π = some w) : V r π = some w ∧ ¬ (r.1 = f ∧ 40 + n ≤ r.2 ∧ r.2 < 300) := by
  unfold kCl at h
  by_cases e : r.1 = f ∧ 40 + n ≤ r.2 ∧ r.2 < 300
  · rw [if_pos e] at h; simp at h
  · rw [if_neg e] at h; exact ⟨h, e⟩
theorem kCl_ge {V : Nat × Nat → qV} {f n : Nat} {r : Nat × Nat} (h : ¬ (r.1 = f ∧ 40 + n ≤ r.2 ∧ r.2 < 300)) : kCl V f n r = V r := if_neg h
theorem kCl_ze {V : Nat × Nat → qV} {f n : Nat} {r : Nat × Nat} (h : r.1 = f ∧ 40 + n ≤ r.2 ∧ r.2 < 300) : kCl V f n r = fun _ => none := if_pos h
theorem qRt_id {g : Nat × Nat → Nat} {r : Nat × Nat} {a : Nat} (h : g r = a) : qRt g r a = g := funext fun q => by
  by_cases e : q = r
  · rw [e, qRt_eq, h]
  · rw [qRt_ne e]
def psum (z : qZ) (p : Nat → Nat) : Nat → Nat
  | 0 => 0
  | n + 1 => psum z p n + z.1 (p n)
theorem psum_hs {z : qZ} {p : Nat → Nat} {S : List tE} : ∀ n : Nat, (∀ i : Nat, i < n → p i ≠ 0) → khs z (dsl (fun i => (0, p i, 0)) n ++ S) = khs z S + psum z p n
  | 0, _ => rfl
  | n + 1, h => by
    show khs z (dsl (fun i => (0, p i, 0)) n ++ S) + kes z (0, p n, 0) = khs z S + (psum z p n + z.1 (p n))
    rw [psum_hs n (fun i hi => h i (by omega)), show kes z (0, p n, 0) = z.1 (p n) from if_neg (h n (by omega))]
    omega
section
variable {y : qY} {z : qZ} {vt vo : Nat → Nat → Nat} {vc : Nat → Nat} {tb : Nat → lTb} {hp : Nat} {tk tk2 : Nat → Prop} {c c2 : Nat → Int} {f : Nat} {x : Nat → kFm} {rt ra : Nat × Nat → Nat} {V : Nat × Nat → qV} {fb : Nat → Nat} {top : Nat} {fil : Nat → Nat → Nat → Prop}
theorem kAk_ap {j B : Nat} : ∀ {E S : List tE}, kAk y z c ra j B (E ++ S) → kAk y z c ra j B S
  | [], S, h => h
  | e :: E, S, h => kAk_ap (E := E) h.2
theorem kCl_one (hJ : kJ y vt tb f x rt V) {e : tE} {S : List tE} {W : qV} (hS : (x f).2.1 = e :: S) (he : kNm e) : qUp (kCl V f (wl S)) (f, 40 + wl S) W = qUp V (f, 40 + wl S) W := funext fun r => by
  by_cases q : r = (f, 40 + wl S)
  · rw [q, qUp_eq, qUp_eq]
  · rw [qUp_ne q, qUp_ne q]
    by_cases g : r.1 = f ∧ 40 + wl S ≤ r.2 ∧ r.2 < 300
    · rw [kCl_ze g]
      obtain ⟨a, b⟩ := r
      obtain ⟨rfl, g2, g3⟩ := g
      refine funext fun π => (kNo hJ (u := b) ?_ g3 π).symm
      rw [hS, wl_n he]
      have g2 : 40 + wl S ≤ b := g2
      have : b ≠ 40 + wl S := fun e => q (by rw [e])
      omega
    · rw [kCl_ge g]
theorem kS_box (hy : kYs y z vt vo vc) (h : kS y z vt vo vc tb hp tk c f x fb top fil) {T U m b : Nat} {S : List tE} (hS : (x f).2.1 = (0, T, m) :: S) (hn : (x f).2.2.1 = 0) (hl : wl S < 211) (hT : T ≠ 0) (hU0 : U ≠ 0) (h4 : y.1 U = 4) (hof : y.2.1 U = T) (hz1 : z.1 U = 1) (hb1 : b + z.1 T ≤ hp) (hb2 : ∀ k : Nat, b ≤ k → k < b + z.1 T → tk2 k ∧ ¬ tk k) (htk : ∀ k : Nat, tk k → tk2 k) (e1 : ∀ o : Nat, o < z.1 T → c2 (b + o) = c (fb f + vc (x f).1 + khs z S + o)) (e2 : c2 (fb f + vc (x f).1 + khs z S) = (b : Int)) (e3 : ∀ k : Nat, k ≠ fb f + vc (x f).1 + khs z S → ¬ (b ≤ k ∧ k < b + z.1 T) → c2 k = c k) : kS y z vt vo vc tb hp tk2 c2 f (kUx x f ((x f).1, (0, U, 0) :: S, 0, lUp (kR (x f)) (40 + wl S) none, kH (x f), kal (x f), klo (x f), kAn (x f))) fb (fb f + vc (x f).1 + khs z S + 1) fil := by
  obtain ⟨rt, ra, V, hJ, hL⟩ := h
  have hf := Nat.le_refl f
  have hk : kNm (0, T, m) := by unfold kNm; simp
  have hK := hJ.2.2.2.2.1 f hf
  rw [hS] at hK
  obtain ⟨⟨k1, k2, k3, k4, k5⟩, -⟩ := hK
  obtain ⟨r1, r2⟩ := k4 hT
  have hA := hL.2.2.1 f hf
  rw [hS] at hA
  have a1 : ra (f, 40 + wl S) = fb f + vc (x f).1 + khs z S := hA.1 hT
  have hq := qMm_bx (tk2 := tk2) (c2 := c2) hy.1 hL.1 (s := (f, 40 + wl S)) (t := U) (b := b) (by rw [r1]; exact r2) (qF_pl r2) h4 (hof.trans r1.symm) hz1 (by rw [r1]; exact hb1) (by rw [r1]; exact hb2) htk (by rw [r1, a1]; exact e1) (by rw [a1]; exact e2) (by rw [r1, a1]; exact e3)
  have hu : qFu y U (qB U (V (f, 40 + wl S))) := qFu_B h4 (by rw [hof, ← r1]; exact ⟨hL.1.1 _, by rw [r1]; exact r2⟩)
  have hE1 : ∀ e : tE, e ∈ [(0, T, m)] → kNm e := fun e he => by rw [List.mem_singleton.mp he]; exact hk
  have r := kS_pp (tk2 := tk2) (c2 := c2) hy hJ hL (E := [(0, T, m)]) (S := S) hS hE1 hn hl (t := U) (e := (0, U, 0)) hu.1 (Or.inl ⟨0, rfl, hU0, by rw [h4]; decide, by rw [h4]; decide, hu.2⟩) (by rw [qRt_id a1, kCl_one hJ hS hk]; exact hq) (fun r π w hw => by
    have g1 := kLt hy (kJ_pop hJ (E := [(0, T, m)]) (S := S) hS hE1 hn) (kL_pop hJ hL (E := [(0, T, m)]) (S := S) hS hE1 hn (qMm_cl hL.1)) hw
    refine e3 _ (by omega) (fun g2 => ?_)
    rcases qTk hy.1 hL.1 (kCl_le hw).1 with g3 | g3
    · omega
    · exact (hb2 _ g2.1 g2.2).2 g3)
  rw [show kes z (0, U, 0) = 1 from (if_neg hU0).trans hz1] at r
  exact r
/-- a member is put into its struct -/
theorem kS_fld (hy : kYs y z vt vo vc) (h : kS y z vt vo vc tb hp tk c f x fb top fil) {t j m U m0 : Nat} {S : List tE} {e2 : tE} (hS : (x f).2.1 = (0, U, m0) :: (7, t, m) :: S) (hn : (x f).2.2.1 = 0) (hl : wl S < 211) (hU : U ≠ 0) (h2 : y.1 t = 2) (hj : j < y.2.2.2.1 t 0) (hUt : y.2.2.2.2 t 0 j = U) (he2 : (e2 = (0, t, 0) ∧ t ≠ 0 ∧ ∀ i : Nat, i < y.2.2.2.1 t 0 → i = j ∨ m.testBit i = true) ∨ (∃ m2 : Nat, e2 = (7, t, m2) ∧ ∀ i : Nat, i < y.2.2.2.1 t 0 → m2.testBit i = true → i = j ∨ m.testBit i = true)) (e1 : ∀ o : Nat, o < z.1 U → c2 (fb f + vc (x f).1 + khs z S + z.2 t 0 j + o) = c (fb f + vc (x f).1 + khs z S + z.1 t + o)) (e3 : ∀ k : Nat, ¬ (fb f + vc (x f).1 + khs z S + z.2 t 0 j ≤ k ∧ k < fb f + vc (x f).1 + khs z S + z.2 t 0 j + z.1 U) → c2 k = c k) : kS y z vt vo vc tb hp tk c2 f (kUx x f ((x f).1, e2 :: S, 0, lUp (kR (x f)) (40 + wl S) none, kH (x f), kal (x f), klo (x f), kAn (x f))) fb (fb f + vc (x f).1 + khs z S + z.1 t) fil := by
  obtain ⟨rt, ra, V, hJ, hL⟩ := h
  have hf := Nat.le_refl f
  have n1 : kNm (0, U, m0) := by unfold kNm; simp
  have n2 : kNm (7, t, m) := by unfold kNm; simp
  have hK := hJ.2.2.2.2.1 f hf
  rw [hS] at hK
  obtain ⟨⟨k1, k2, k3, k4, k5⟩, ⟨k6, k7, k8, k9⟩, -⟩ := hK
  rw [wl_n n2] at k1 k4 k5
  obtain ⟨r1, r2⟩ := k4 hU
  have hA := hL.2.2.1 f hf
  rw [hS] at hA
  obtain ⟨a1, a2, -⟩ := hA
  have a1 := a1 hU
  rw [wl_n n2] at a1
  have a1 : ra (f, 40 + (wl S + 1)) = fb f + vc (x f).1 + (khs z S + z.1 t) := a1
  have a2 : ra (f, 40 + wl S) = fb f + vc (x f).1 + khs z S := a2
  have hE1 : ∀ e : tE, e ∈ [(0, U, m0), (7, t, m)] → kNm e := fun e he => by
    rcases List.mem_cons.mp he with q | q
    · rw [q]; exact n1
    · rw [List.mem_singleton.mp q]; exact n2
  have j2 := kJ_pop hJ (E := [(0, U, m0), (7, t, m)]) (S := S) hS hE1 hn
  have l2 := kL_pop hJ hL (E := [(0, U, m0), (7, t, m)]) (S := S) hS hE1 hn (qMm_cl hL.1)
  have hb := kTopF hL
  have hsd : ((f, 40 + (wl S + 1)) : Nat × Nat) ≠ (f, 40 + wl S) := fun q => by injection q with _ q; omega
  have wS : wl (x f).2.1 = wl S + 2 := by rw [hS, wl_n n1, wl_n n2]
  have oth : ∀ (r : Nat × Nat) (π : lLc) (w : Nat × Nat), r ≠ (f, 40 + wl S) → r ≠ (f, 40 + (wl S + 1)) → V r π = some w → kCl V f (wl S) r π = some w := fun r π w g1 g2 hw => by
    rw [kCl_ge (fun g => ?_)]; exact hw
    obtain ⟨a, b⟩ := r
    obtain ⟨rfl, g3, g4⟩ := g
    have g3 : 40 + wl S ≤ b := g3
    have g5 : b ≠ 40 + wl S := fun e => g1 (by rw [e])
    have g6 : b ≠ 40 + (wl S + 1) := fun e => g2 (by rw [e])
    rw [kNo hJ (u := b) (by omega) g4 π] at hw
    simp at hw
  have hρ : qW y (rt (f, 40 + wl S)) [(0, j)] U := by rw [k8]; exact ⟨h2, hj, hUt.symm⟩
  have hM1 : qM [(0, j)] := qM_cons.mpr ⟨rfl, qM_nil⟩
  have eA : qA y z c (rt (f, 40 + wl S)) (ra (f, 40 + wl S)) [(0, j)] = fb f + vc (x f).1 + khs z S + z.2 t 0 j := by
    rw [k8, a2]; rfl
  have hly := hy.1.2.1 t j h2 hj
  rw [hUt] at hly
  have hq := qMv (c2 := c2) hy.1 hL.1 (s := (f, 40 + (wl S + 1))) (d := (f, 40 + wl S)) (σ := []) (ρ := [(0, j)]) (T1 := U) (Vs := fun _ => none) hsd r1.symm hρ qOk_none (fun π w hw => by simp at hw) (qOk_Gm (hL.1.1 _) hρ hM1 (by have := hL.1.1 (f, 40 + (wl S + 1)); rw [r1] at this; exact this)) (fun ρ1 i ρ2 e => by
      cases ρ1 with
      | nil => simp at e
      | cons a l => simp at e) (fun r π w hw g1 g2 => by
      rw [eA]
      intro g3
      by_cases c1 : r = (f, 40 + wl S)
      · subst c1
        obtain ⟨t9, g9⟩ := w
        obtain ⟨w1, w2, -⟩ := (hL.1.1 _).1 π t9 g9 hw
        rcases qN_last π with nπ | ⟨π1, i, π2, rfl, nπ⟩
        · refine qA_ap (c := c) (a := ra (f, 40 + wl S)) hy.1 hρ w1 (qN_M hM1) nπ (fun q => g1 ⟨rfl, q⟩) w2 (fun κ ρ1 π1 g1 j1 g2 j2 q => ?_) (by rw [eA]; exact g3)
          cases κ with
          | nil => simp at q
          | cons a l => simp at q
        · have := qEndH hy.1 hL.1 w1 nπ (qPl_of hw)
          have := hy.1.1 t9
          omega
      · by_cases c2 : r = (f, 40 + (wl S + 1))
        · subst c2
          obtain ⟨t9, g9⟩ := w
          obtain ⟨w1, w2, -⟩ := (hL.1.1 _).1 π t9 g9 hw
          rcases qN_last π with nπ | ⟨π1, i, π2, rfl, nπ⟩
          · have := (qA_in (c := c) (a := ra (f, 40 + (wl S + 1))) hy.1 w1 nπ).1
            omega
          · have := qEndH hy.1 hL.1 w1 nπ (qPl_of hw)
            have := hy.1.1 t9
            omega
        · have := kLt hy j2 l2 (oth r π w c1 c2 hw)
          omega) (by rw [eA]; exact e3) (by
      rw [eA]
      intro o ho
      rw [e1 o ho]
      show c _ = c (ra (f, 40 + (wl S + 1)) + o)
      rw [a1]
      congr 1; omega) (by omega) (fun r π w hr hw => Or.inl (by
      by_cases c2 : r = (f, 40 + (wl S + 1))
      · rw [c2, qUp_eq] at hw; simp at hw
      · rw [qUp_ne c2] at hw
        have := (kTop hy.1 hy.2.1 hy.2.2.1 j2 l2 (oth r π w hr c2 hw)).2.1
        rw [a2]; exact this))
  have P1 : ∀ (i : Nat) (ρ : lLc) (t' : Nat), i < y.2.2.2.1 t 0 → (i = j ∨ m.testBit i = true) → qM ρ → qW y (y.2.2.2.2 t 0 i) ρ t' → qQ y (qG (V (f, 40 + wl S)) [(0, j)] (V (f, 40 + (wl S + 1)))) ((0, i) :: ρ) t' := fun i ρ t' hi hb hm hw => by
    refine qQ_G hρ (T := t') (by rw [k8]; exact ⟨h2, hi, hw⟩) (qM_cons.mpr ⟨rfl, hm⟩) r2 ?_
    by_cases q : i = j
    · exact Or.inr ⟨hM1, Or.inr (by rw [q]; exact lP_app [(0, j)] ρ)⟩
    · exact Or.inl (k9 i hi (hb.resolve_left q) ρ t' hm hw)
  have r := kS_pp (tk2 := tk) (c2 := c2) hy hJ hL (E := [(0, U, m0), (7, t, m)]) (S := S) hS hE1 hn hl (t := t) (e := e2) (W := qG (V (f, 40 + wl S)) [(0, j)] (V (f, 40 + (wl S + 1)))) (by
      have := qOk_Gm (hL.1.1 (f, 40 + wl S)) hρ hM1 (W := V (f, 40 + (wl S + 1))) (by have := hL.1.1 (f, 40 + (wl S + 1)); rw [r1] at this; exact this)
      rw [k8] at this; exact this) (by
      rcases he2 with ⟨rfl, t0, ha⟩ | ⟨m2, rfl, ha⟩
      · refine Or.inl ⟨0, rfl, t0, by rw [h2]; decide, by rw [h2]; decide, fun ρ t' g1 g2 => ?_⟩
        show qQ y _ ρ t'
        cases ρ with
        | nil =>
          obtain rfl : t' = t := g2
          refine ⟨fun q => absurd h2 q, fun _ => ?_⟩
          obtain ⟨σ, w, hw⟩ := qF_pl r2
          exact ⟨(0, j) :: σ, w, by rw [List.nil_append] at hw; exact (qG_in (ρ := [(0, j)])).trans hw⟩
        | cons a ρ =>
          obtain ⟨q, i⟩ := a
          obtain ⟨g3, g4⟩ := qM_cons.mp g1
          obtain rfl : q = 0 := g3
          exact P1 i ρ t' g2.2.1 (ha i g2.2.1) g4 g2.2.2
      · exact Or.inr ⟨m2, rfl, h2, fun i hi hb ρ t' g1 g2 => P1 i ρ t' hi (ha i hi hb) g1 g2⟩) (by
      rw [qRt_id a2, qRt_id k8]
      have ev : qUp (kCl V f (wl S)) (f, 40 + wl S) (qG (V (f, 40 + wl S)) [(0, j)] (V (f, 40 + (wl S + 1)))) = qUp (qUp V (f, 40 + (wl S + 1)) (fun _ => none)) (f, 40 + wl S) (qG (V (f, 40 + wl S)) [(0, j)] (qS (V (f, 40 + (wl S + 1))) [])) := funext fun r => by
        by_cases q : r = (f, 40 + wl S)
        · rw [q, qUp_eq, qUp_eq]; rfl
        · rw [qUp_ne q, qUp_ne q]
          by_cases q2 : r = (f, 40 + (wl S + 1))
          · rw [q2, qUp_eq]
            exact kCl_ze ⟨rfl, by show 40 + wl S ≤ 40 + (wl S + 1); omega, by show 40 + (wl S + 1) < 300; omega⟩
          · rw [qUp_ne q2]
            by_cases g : r.1 = f ∧ 40 + wl S ≤ r.2 ∧ r.2 < 300
            · rw [kCl_ze g]
              obtain ⟨a, b⟩ := r
              obtain ⟨rfl, g3, g4⟩ := g
              have g3 : 40 + wl S ≤ b := g3
              have g5 : b ≠ 40 + wl S := fun e => q (by rw [e])
              have g6 : b ≠ 40 + (wl S + 1) := fun e => q2 (by rw [e])
              exact funext fun π => (kNo hJ (u := b) (by omega) g4 π).symm
            · rw [kCl_ge g]
      rw [ev]; exact hq) (fun r π w hw => by
      have g1 := kLt hy j2 l2 hw
      exact e3 _ (by omega))
  have ek : kes z e2 = z.1 t := by
    rcases he2 with ⟨rfl, t0, -⟩ | ⟨m2, rfl, -⟩
    · exact if_neg t0
    · rfl
  rw [ek] at r
  exact r
/-- a variant's value is whole -/
theorem kS_pad (hy : kYs y z vt vo vc) (h : kS y z vt vo vc tb hp tk c f x fb top fil) {t g n m : Nat} {p : Nat → Nat} {S : List tE} (hS : (x f).2.1 = dsl (fun i => (0, p i, 0)) n ++ (3, g, m) :: S) (hn : (x f).2.2.1 = 0) (hl : wl S < 211) (h3 : y.1 t = 3) (t0 : t ≠ 0) (hg : g < y.2.2.1 t) (hnn : y.2.2.2.1 t g = n) (hpp : ∀ i : Nat, i < n → y.2.2.2.2 t g i = p i ∧ p i ≠ 0) (ho : ∀ i : Nat, i < n → z.2 t g i = 1 + psum z p i) (hn12 : n ≤ 12) : kS y z vt vo vc tb hp tk c f (kUx x f ((x f).1, (0, t, 0) :: S, 0, lUp (kR (x f)) (40 + wl S) none, kH (x f), kal (x f), klo (x f), kAn (x f))) fb (fb f + vc (x f).1 + khs z S + z.1 t) fil := by
  obtain ⟨rt, ra, V, hJ, hL⟩ := h
  have hf := Nat.le_refl f
  have n3 : kNm (3, g, m) := by unfold kNm; simp
  have nm : ∀ i : Nat, i < n → kNm ((fun i => (0, p i, 0)) i) := fun i _ => by unfold kNm; simp
  have hK := hJ.2.2.2.2.1 f hf
  rw [hS] at hK
  have kp := dsl_K n nm hK
  rw [wl_n n3] at kp
  obtain ⟨⟨k1, k2, k3⟩, -⟩ := kK_app hK
  have hA := hL.2.2.1 f hf
  rw [hS] at hA
  have ap := dsl_A n nm hA
  rw [wl_n n3] at ap
  obtain ⟨⟨a1, a2⟩, -⟩ := kAk_ap hA
  have wS : wl (x f).2.1 = wl S + 1 + n := by rw [hS, wl_app, dsl_wl n nm, wl_n n3]; omega
  have wB := hJ.2.2.2.2.2.2.2.2 f hf
  have hS2 : (x f).2.1 = (dsl (fun i => (0, p i, 0)) n ++ [(3, g, m)]) ++ S := by rw [List.append_assoc]; exact hS
  have hE1 : ∀ e : tE, e ∈ dsl (fun i => (0, p i, 0)) n ++ [(3, g, m)] → kNm e := fun e he => by
    rcases List.mem_append.mp he with q | q
    · exact dsl_nm n nm e q
    · rw [List.mem_singleton.mp q]; exact n3
  have j2 := kJ_pop hJ hS2 hE1 hn
  have l2 := kL_pop hJ hL hS2 hE1 hn (qMm_cl hL.1)
  have hb := kTopF hL
  have prt : ∀ i : Nat, i < y.2.2.2.1 t g → rt (f, 40 + (wl S + 1 + i)) = y.2.2.2.2 t g i ∧ ra (f, 40 + (wl S + 1 + i)) = ra (f, 40 + wl S) + z.2 t g i ∧ qF y (V (f, 40 + (wl S + 1 + i))) [] (rt (f, 40 + (wl S + 1 + i))) := fun i hi => by
    rw [hnn] at hi
    obtain ⟨-, -, -, q4, -⟩ := kp i hi
    obtain ⟨q5, q6⟩ := q4 (hpp i hi).2
    have q7 := ap i hi (hpp i hi).2
    rw [psum_hs i (fun j hj => (hpp j (by omega)).2)] at q7
    have q7 : ra (f, 40 + (wl S + 1 + i)) = fb f + vc (x f).1 + (khs z S + 1 + psum z p i) := q7
    refine ⟨q5.trans (hpp i hi).1.symm, ?_, by rw [q5]; exact q6⟩
    rw [q7, a1, ho i hi]; omega
  have hq := qMm_pad hL.1 (d := (f, 40 + wl S)) (t := t) (g := g) (V2 := qUp (kCl V f (wl S)) (f, 40 + wl S) (qE t g (y.2.2.2.1 t g) (fun i => V (f, 40 + (wl S + 1 + i))))) (fun i => (f, 40 + (wl S + 1 + i))) (fun i j _ _ q => by injection q with _ q; omega) h3 hg prt (by rw [a1]; exact a2) qUp_eq (fun r hr => by
      rw [qUp_ne hr]
      by_cases gg : r.1 = f ∧ 40 + wl S ≤ r.2 ∧ r.2 < 300
      · exact Or.inl (fun π => by rw [kCl_ze gg])
      · refine Or.inr ⟨kCl_ge gg, fun i hi q => gg ?_⟩
        rw [hnn] at hi
        rw [q]
        exact ⟨rfl, by show 40 + wl S ≤ 40 + (wl S + 1 + i); omega, by show 40 + (wl S + 1 + i) < 300; omega⟩) (by rw [a1]; omega) (fun r π w hr hw => Or.inl (by
      rw [qUp_ne hr] at hw
      have := (kTop hy.1 hy.2.1 hy.2.2.1 j2 l2 hw).2.1
      rw [a1]; exact this))
  have hu : qFu y t (qE t g (y.2.2.2.1 t g) (fun i => V (f, 40 + (wl S + 1 + i)))) := qFu_E h3 hg (fun i hi => by
    obtain ⟨q1, -, q3⟩ := prt i hi
    rw [← q1]
    exact ⟨hL.1.1 _, q3⟩)
  have r := kS_pp (tk2 := tk) (c2 := c) hy hJ hL hS2 hE1 hn hl (t := t) (e := (0, t, 0)) hu.1 (Or.inl ⟨0, rfl, t0, by rw [h3]; decide, by rw [h3]; decide, hu.2⟩) (by rw [qRt_id a1]; exact hq) (fun _ _ _ _ => rfl)
  rw [show kes z (0, t, 0) = z.1 t from if_neg t0] at r
  exact r
end
