theorem ibit_shr (p : Int32) {k i : Nat} (h : k + i < 32) : ibit (p >>> (nI k &&& 31)) i = ibit p (k + i) := by
  unfold ibit
  rw [Int32.toBitVec_shiftRight, BitVec.sshiftRight_eq', sh5 k (by omega), BitVec.getLsbD_sshiftRight, if_pos h, decide_eq_false (by omega), Bool.not_false, Bool.true_and]
/-- what a drop may rely on: P: what is dropped (type, where, which cells), B: cells that may become free -/
def drC (y : qY) (z : qZ) (c : Nat → Int) (hp top : Nat) (P : Nat → Nat → Int32 → Prop) (B : Nat → Prop) : Prop := ∀ (t a : Nat) (p : Int32), P t a p →
  (y.1 t ≠ 2 → ibit p 0 = true → a < top) ∧
  (y.1 t = 2 → ∀ i : Nat, i < y.2.2.2.1 t 0 → P (y.2.2.2.2 t 0 i) (a + z.2 t 0 i) (p >>> (nI (z.2 t 0 i) &&& 31))) ∧
  (y.1 t = 3 → ibit p 0 = true → ∃ g : Nat, c a = (g : Int) ∧ g < y.2.2.1 t ∧ ∀ (i : Nat) (p2 : Int32), i < y.2.2.2.1 t g → P (y.2.2.2.2 t g i) (a + z.2 t g i) p2) ∧
  (y.1 t = 4 → ibit p 0 = true → ∃ b : Nat, c a = (b : Int) ∧ b + z.1 (y.2.1 t) ≤ hp ∧ (∀ k : Nat, b ≤ k → k < b + z.1 (y.2.1 t) → B k) ∧ ∀ p2 : Int32, P (y.2.1 t) b p2)
def dPF (y : qY) (z : qZ) (c : Nat → Int) (rt ra : Nat × Nat → Nat) (V : Nat × Nat → qV) (DS : Nat × Nat → lLc → Prop) (t a : Nat) (p : Int32) : Prop := ∃ (r : Nat × Nat) (π : lLc), DS r π ∧ qW y (rt r) π t ∧ a = qA y z c (rt r) (ra r) π ∧ ∀ (ρ : lLc) (s : Nat), qM ρ → qW y t ρ s → y.1 s ≠ 2 → ibit p (qA y z (fun _ => 0) t 0 ρ) = true → ∃ w : Nat × Nat, V r (π ++ ρ) = some w
def drB (y : qY) (z : qZ) (c : Nat → Int) (rt ra : Nat × Nat → Nat) (V : Nat × Nat → qV) (DS : Nat × Nat → lLc → Prop) (k : Nat) : Prop := ∃ (r : Nat × Nat) (π : lLc) (t g b : Nat), DS r π ∧ V r π = some (t, g) ∧ y.1 t = 4 ∧ c (qA y z c (rt r) (ra r) π) = (b : Int) ∧ b ≤ k ∧ k < b + z.1 (y.2.1 t)
section
variable {y : qY} {z : qZ} {vt vo : Nat → Nat → Nat} {vc : Nat → Nat} {tb : Nat → lTb} {hp : Nat} {tk tk2 : Nat → Prop} {c c2 : Nat → Int} {f : Nat} {x : Nat → kFm} {rt ra : Nat × Nat → Nat} {V V2 : Nat × Nat → qV} {fb : Nat → Nat} {top : Nat} {fil fil2 : Nat → Nat → Nat → Prop} {v T o : Nat} {ρ σ : lLc} {os : List Nat} {DS : Nat × Nat → lLc → Prop}
theorem dP_full {r : Nat × Nat} {π : lLc} {t : Nat} {p : Int32} (h1 : DS r π) (h2 : qW y (rt r) π t) (h3 : qF y (V r) π t) : dPF y z c rt ra V DS t (qA y z c (rt r) (ra r) π) p := ⟨r, π, h1, h2, rfl, fun ρ s g1 g2 g3 _ => (h3 ρ s g1 g2).1 g3⟩
theorem dr_ok (hz : qLy y z) (hz16 : ∀ t : Nat, z.1 t ≤ 16) (hm : qMm y z hp tk c rt ra V) (hlt : ∀ (r : Nat × Nat) (π : lLc) (w : Nat × Nat), V r π = some w → qA y z c (rt r) (ra r) π < top) (hDS : ∀ (r : Nat × Nat) (π σ : lLc), DS r π → DS r (π ++ σ)) : drC y z c hp top (dPF y z c rt ra V DS) (drB y z c rt ra V DS) := fun t a p hP => by
  obtain ⟨r, π, d1, d2, rfl, d3⟩ := hP
  have leaf : y.1 t ≠ 2 → ibit p 0 = true → ∃ g : Nat, V r π = some (t, g) := fun k2 hb => by
    obtain ⟨⟨t1, g⟩, e⟩ := d3 [] t qM_nil rfl k2 hb
    rw [List.append_nil] at e
    obtain rfl := qW_det ((hm.1 r).1 π t1 g e).1 d2
    exact ⟨g, e⟩
  refine ⟨fun k2 hb => ?_, fun k2 i hi => ?_, fun k3 hb => ?_, fun k4 hb => ?_⟩
  · obtain ⟨g, e⟩ := leaf k2 hb
    exact hlt r π _ e
  · have w1 : qW y t [(0, i)] (y.2.2.2.2 t 0 i) := ⟨k2, hi, rfl⟩
    refine ⟨r, π ++ [(0, i)], hDS r π _ d1, qW_app d2 w1, ?_, fun ρ s g1 g2 g3 hb => ?_⟩
    · rw [qA_app d2]; rfl
    · have i1 := qA_in (c := fun _ => 0) (a := 0) hz g2 (qN_M g1)
      have i2 := hz.2.1 t i k2 hi
      have i3 := hz16 t
      have i4 := hz.1 s
      have e := d3 ((0, i) :: ρ) s (qM_cons.mpr ⟨rfl, g1⟩) ⟨k2, hi, g2⟩ g3 (by
        rw [ibit_shr p (by omega)] at hb
        have e5 := qA_sh (z := z) (c := fun _ => 0) (c2 := fun _ => 0) (a := 0 + z.2 t 0 i) (b := 0) g2 (qN_M g1)
        show ibit p (qA y z (fun _ => 0) (y.2.2.2.2 t 0 i) (0 + z.2 t 0 i) ρ) = true
        rw [show qA y z (fun _ => 0) (y.2.2.2.2 t 0 i) (0 + z.2 t 0 i) ρ = z.2 t 0 i + qA y z (fun _ => 0) (y.2.2.2.2 t 0 i) 0 ρ by omega]
        exact hb)
      rw [List.append_assoc]
      exact e
  · obtain ⟨g, e⟩ := leaf (by rw [k3]; decide) hb
    obtain ⟨-, -, g3, -, g5⟩ := (hm.1 r).1 π t g e
    refine ⟨g, (hm.2.1 r π t g e).1 k3, g3 k3, fun i p2 hi => ?_⟩
    have w1 : qW y t [(g + 2, i)] (y.2.2.2.2 t g i) := ⟨k3, g3 k3, hi, rfl⟩
    have q := dP_full (p := p2) (z := z) (c := c) (ra := ra) (hDS r π [(g + 2, i)] d1) (qW_app d2 w1) (g5 k3 i hi)
    rw [qA_app d2] at q
    exact q
  · obtain ⟨g, e⟩ := leaf (by rw [k4]; decide) hb
    obtain ⟨-, -, -, g4, -⟩ := (hm.1 r).1 π t g e
    obtain ⟨b, b1, b2, b3⟩ := (hm.2.1 r π t g e).2 k4
    refine ⟨b, b1, b2, fun k g1 g2 => ⟨r, π, t, g, b, d1, e, k4, b1, g1, g2⟩, fun p2 => ?_⟩
    have w1 : qW y t [(1, 0)] (y.2.1 t) := ⟨rfl, k4, rfl⟩
    have q := dP_full (p := p2) (z := z) (c := c) (ra := ra) (hDS r π [(1, 0)] d1) (qW_app d2 w1) (g4 k4)
    rw [qA_app d2] at q
    have q : dPF y z c rt ra V DS (y.2.1 t) (c (qA y z c (rt r) (ra r) π)).toNat p2 := q
    rw [b1, Int.toNat_natCast] at q
    exact q
/-- blocks of what isn't dropped stay taken -/
theorem dr_tk (hm : qMm y z hp tk c rt ra V) (htk : ∀ k : Nat, tk k → ¬ drB y z c rt ra V DS k → tk2 k) {r : Nat × Nat} {π : lLc} {t g b : Nat} (he : V r π = some (t, g)) (k4 : y.1 t = 4) (hd : ¬ DS r π) (hb : c (qA y z c (rt r) (ra r) π) = (b : Int)) : ∀ k : Nat, b ≤ k → k < b + z.1 (y.2.1 t) → tk2 k := fun k h1 h2 => by
  obtain ⟨b9, b1, b2, b3⟩ := (hm.2.1 r π t g he).2 k4
  rw [hb] at b1
  have b1 : b = b9 := by omega
  subst b1
  refine htk k (b3 k h1 h2) (fun q => ?_)
  obtain ⟨r0, π0, t0, g0, b0, q1, q2, q3, q4, q5, q6⟩ := q
  have := hm.2.2.1 r π t g r0 π0 t0 g0 b b0 he q2 k4 q3 (fun e => by
    injection e with e1 e2
    rw [e1, e2] at hd
    exact hd q1) hb q4
  omega
theorem qMm_subT (h : qMm y z hp tk c rt ra V) (h1 : ∀ r : Nat × Nat, qOk y (rt r) (V2 r)) (h2 : ∀ (r : Nat × Nat) (π : lLc) (w : Nat × Nat), V2 r π = some w → V r π = some w) (hT : ∀ (r : Nat × Nat) (π : lLc) (t g b : Nat), V2 r π = some (t, g) → y.1 t = 4 → c (qA y z c (rt r) (ra r) π) = (b : Int) → ∀ k : Nat, b ≤ k → k < b + z.1 (y.2.1 t) → tk2 k) : qMm y z hp tk2 c rt ra V2 := by
  have q := qMm_sub h h1 h2
  obtain ⟨m1, m2, m3, m4, m5⟩ := q
  refine ⟨m1, fun r π t g hv => ?_, m3, m4, m5⟩
  obtain ⟨q1, q2⟩ := m2 r π t g hv
  refine ⟨q1, fun k4 => ?_⟩
  obtain ⟨b, b1, b2, -⟩ := q2 k4
  exact ⟨b, b1, b2, hT r π t g b hv k4 b1⟩
/-- variables go out of scope -/
theorem kS_scp (hy : kYs y z vt vo vc) (hz16 : ∀ t : Nat, z.1 t ≤ 16) (h : kS y z vt vo vc tb hp tk c f x fb top fil) {v0 v1 : Nat} {O S2 : List tE} {al2 : Nat → Prop} {lo2 : Nat → lLc → Prop} (hn : (x f).2.2.1 = 0) (hv4 : v1 ≤ 40) (hmt : ∀ r m : Nat, (5, r, m) ∉ (x f).2.1 ∧ (6, r, m) ∉ (x f).2.1) (hS : (x f).2.1 = O ++ S2) (hO : ∀ e : tE, e ∈ O → ∃ v : Nat, e = (8, v, 0) ∧ v0 ≤ v ∧ v < v1) (hS2 : ∀ v : Nat, v0 ≤ v → v < v1 → (8, v, 0) ∉ S2) (hal : ∀ u : Nat, u < v0 ∨ v1 ≤ u → al2 u → kal (x f) u) (hlo : ∀ (w : Nat) (π : lLc), (8, w, 0) ∈ S2 → ¬ lo2 w π → ¬ klo (x f) w π) (hck : ∀ u l : Nat, ((u < 40 ∧ al2 u) ∨ (40 ≤ u ∧ u < 40 + wl (x f).2.1)) → (u < v0 ∨ v1 ≤ u) → kH (x f) u l → ¬ (tb (x f).1).2.2.2.1 l → v0 ≤ (tb (x f).1).1 l → (tb (x f).1).1 l < v1 → (tb (x f).1).2.2.2.2 ((tb (x f).1).1 l)) : ∃ (P : Nat → Nat → Int32 → Prop) (B : Nat → Prop), drC y z c hp top P B ∧ (∀ (v : Nat) (p : Int32), v0 ≤ v → v < v1 → (8, v, 0) ∈ (x f).2.1 → (∀ k : Nat, k < 16 → ibit p k = true → fil f v k) → P (vt (x f).1 v) (fb f + vo (x f).1 v) p) ∧ ∀ (tk2 : Nat → Prop) (fil2 : Nat → Nat → Nat → Prop), (∀ k : Nat, tk k → ¬ B k → tk2 k) → (∀ j w : Nat, ¬ (j = f ∧ v0 ≤ w ∧ w < v1) → fil2 j w = fil j w) → kS y z vt vo vc tb hp tk2 c f (kUx x f ((x f).1, S2, 0, (fun u => if v0 ≤ u ∧ u < v1 then none else kR (x f) u), kH (x f), al2, lo2, kAn (x f))) fb top fil2 := by
  obtain ⟨rt, ra, V, hJ, hL⟩ := h
  have hf := Nat.le_refl f
  have hw := hL
  obtain ⟨l0, l1, l2, l3, l4, l5, l6, l7, l8, l9⟩ := hL
  have hsub : ∀ e : tE, e ∈ S2 → e ∈ (x f).2.1 := fun e he => by rw [hS]; exact List.mem_append_right _ he
  refine ⟨dPF y z c rt ra V (fun r _ => r.1 = f ∧ v0 ≤ r.2 ∧ r.2 < v1), drB y z c rt ra V (fun r _ => r.1 = f ∧ v0 ≤ r.2 ∧ r.2 < v1), dr_ok hy.1 hz16 l0 (fun r π w => kLt hy hJ hw) (fun r π σ q => q), fun v p g1 g2 g3 g4 => ?_, fun tk2 fil2 htk hfl => ?_⟩
  · obtain ⟨r1, r2⟩ := hJ.2.2.2.2.2.2.1 f hf v (by omega) g3
    refine ⟨(f, v), [], ⟨rfl, g1, g2⟩, r1.symm, (l3 f hf v (by omega) g3).symm, fun ρ s q1 q2 q3 q4 => ?_⟩
    have i1 := qA_in (c := fun _ => 0) (a := 0) hy.1 q2 (qN_M q1)
    have i2 := hz16 (vt (x f).1 v)
    have i3 := hy.1.1 s
    have i4 := qA_sh (z := z) (c := c) (c2 := fun _ => 0) (a := 0) (b := 0) q2 (qN_M q1)
    refine l7 f hf v (by omega) g3 ρ s q1 q2 q3 ?_
    rw [show qA y z c (vt (x f).1 v) 0 ρ = qA y z (fun _ => 0) (vt (x f).1 v) 0 ρ by omega]
    exact g4 _ (by omega) q4
  · have iv := hJ.2.1.1 f hf
    have hA2 : ∀ u : Nat, ((u < 40 ∧ al2 u) ∨ (40 ≤ u ∧ u < 40 + wl (x f).2.1)) → (u < v0 ∨ v1 ≤ u) → kA (x f) u := fun u hu ho => by
      rcases hu with ⟨a, b⟩ | ⟨a, b⟩
      · exact Or.inl ⟨a, hal u ho b⟩
      · exact Or.inr ⟨a, by omega⟩
    have j := kJ_scp (H2 := kH (x f)) (al2 := al2) (lo2 := lo2) hJ hn hv4 hmt hS hO hS2 hal (fun _ _ _ q => q) hlo (fun u b hu ho hb v π q1 q2 e => by
      have hk := iv.1 u b (hA2 u hu ho) hb
      rcases hk with ⟨l, a1, a2, a3, a4, -⟩ | ⟨o, e2, q, a1, a2, a3, a4, a5, a6⟩
      · obtain ⟨s, a4⟩ := a4
        rw [e] at a4
        have a4 : (f, v) :: π = (f, (tb (x f).1).1 l) :: ((tb (x f).1).2.1 l ++ s) := a4
        injection a4 with a4 _
        injection a4 with _ a4
        exact a3 (hck u l hu ho a2 a1 (by omega) (by omega))
      · obtain ⟨j, w, r, rfl, a6⟩ := a6
        obtain ⟨s, a4⟩ := a4
        rw [e] at a4
        have a4 : (f, v) :: π = (j, w) :: (r ++ s) := a4
        injection a4 with a4 _
        injection a4 with a4 _
        omega)
    have hin : ∀ u : Nat, u < 40 → (8, u, 0) ∈ S2 → u < v0 ∨ v1 ≤ u := fun u _ hu => by
      rcases Nat.lt_or_ge u v0 with q | q
      · exact Or.inl q
      · rcases Nat.lt_or_ge u v1 with q2 | q2
        · exact absurd hu (hS2 u q q2)
        · exact Or.inr q2
    have cv : ∀ (r : Nat × Nat) (π : lLc) (w : Nat × Nat), kCv V f v0 v1 r π = some w → V r π = some w ∧ ¬ (r.1 = f ∧ v0 ≤ r.2 ∧ r.2 < v1) := fun r π w hw9 => by
      unfold kCv at hw9
      by_cases e : r.1 = f ∧ v0 ≤ r.2 ∧ r.2 < v1
      · rw [if_pos e] at hw9; simp at hw9
      · rw [if_neg e] at hw9; exact ⟨hw9, e⟩
    have q : qMm y z hp tk2 c rt ra (kCv V f v0 v1) := qMm_subT l0 (fun r => by
      unfold kCv
      by_cases e : r.1 = f ∧ v0 ≤ r.2 ∧ r.2 < v1
      · rw [if_pos e]; exact qOk_none
      · rw [if_neg e]; exact l0.1 r) (fun r π w hw9 => (cv r π w hw9).1) (fun r π t g b hv k4 hb => dr_tk l0 htk (cv r π _ hv).1 k4 (cv r π _ hv).2 hb)
    refine ⟨_, _, _, j, kL_var (R2 := fun u => if v0 ≤ u ∧ u < v1 then none else kR (x f) u) (S2 := S2) hJ hw hn (fun j u g => ⟨rfl, rfl, kCv_out (by omega)⟩) (fun u hu => if_neg (by omega)) ⟨O, fun e he => by obtain ⟨v, e1, -⟩ := hO e he; exact ⟨v, e1⟩, Or.inl hS⟩ hmt q (fun _ _ _ _ _ => rfl) (fun _ _ _ _ _ _ _ => rfl) (fun u a u4 hu ha hw9 => ?_) (fun w w4 hwS => l3 f hf w w4 (hsub _ hwS)) (fun j hj => funext fun w => hfl j w (fun q => hj q.1)) (fun w w4 hwS π t hm1 hq hk hfl9 => ?_) (fun u π w u4 hw9 => l8 f u π w u4 (cv _ _ _ hw9).1)⟩
    · by_cases e : v0 ≤ u ∧ u < v1
      · have ha : (if v0 ≤ u ∧ u < v1 then none else kR (x f) u) = some a := ha
        rw [if_pos e] at ha; simp at ha
      · have ha : (if v0 ≤ u ∧ u < v1 then none else kR (x f) u) = some a := ha
        rw [if_neg e] at ha
        obtain ⟨w, hw9⟩ := hw9
        exact l1 f hf u a (Or.inl (Or.inl ⟨u4, hal u (by omega) hu⟩)) ha ⟨w, (cv _ _ _ hw9).1⟩
    · have ho := hin w w4 hwS
      rw [kCv_out (by omega)]
      rw [hfl f w (by omega)] at hfl9
      exact l7 f hf w w4 (hsub _ hwS) π t hm1 hq hk hfl9
/-- the value on top is dropped -/
theorem kS_drp (hy : kYs y z vt vo vc) (hz16 : ∀ t : Nat, z.1 t ≤ 16) (h : kS y z vt vo vc tb hp tk c f x fb top fil) {m : Nat} {S : List tE} (hS : (x f).2.1 = (0, T, m) :: S) (hn : (x f).2.2.1 = 0) (hT : T ≠ 0) : ∃ (P : Nat → Nat → Int32 → Prop) (B : Nat → Prop), drC y z c hp top P B ∧ (∀ p : Int32, P T (fb f + vc (x f).1 + khs z S) p) ∧ ∀ tk2 : Nat → Prop, (∀ k : Nat, tk k → ¬ B k → tk2 k) → kS y z vt vo vc tb hp tk2 c f (kUx x f ((x f).1, S, 0, kR (x f), kH (x f), kal (x f), klo (x f), kAn (x f))) fb (fb f + vc (x f).1 + khs z S) fil := by
  obtain ⟨rt, ra, V, hJ, hL⟩ := h
  have hf := Nat.le_refl f
  have hk0 : kNm (0, T, m) := by unfold kNm; simp
  have hK := hJ.2.2.2.2.1 f hf
  rw [hS] at hK
  obtain ⟨⟨k1, k2, k3, k4, k5⟩, -⟩ := hK
  obtain ⟨r1, r2⟩ := k4 hT
  have hA := hL.2.2.1 f hf
  rw [hS] at hA
  have a1 : ra (f, 40 + wl S) = fb f + vc (x f).1 + khs z S := hA.1 hT
  have wS : wl (x f).2.1 = wl S + 1 := by rw [hS, wl_n hk0]
  have wB := hJ.2.2.2.2.2.2.2.2 f hf
  refine ⟨dPF y z c rt ra V (fun r _ => r = (f, 40 + wl S)), drB y z c rt ra V (fun r _ => r = (f, 40 + wl S)), dr_ok hy.1 hz16 hL.1 (fun r π w => kLt hy hJ hL) (fun r π σ q => q), fun p => ?_, fun tk2 htk => ?_⟩
  · have q := dP_full (p := p) (z := z) (c := c) (rt := rt) (ra := ra) (V := V) (DS := fun r _ => r = (f, 40 + wl S)) (r := (f, 40 + wl S)) (π := []) rfl (by rw [r1]; rfl) r2
    rw [← a1]
    exact q
  · have hE1 : ∀ e : tE, e ∈ [(0, T, m)] → kNm e := fun e he => by rw [List.mem_singleton.mp he]; exact hk0
    refine ⟨_, _, _, kJ_pop hJ (E := [(0, T, m)]) (S := S) hS hE1 hn, kL_pop hJ hL (E := [(0, T, m)]) (S := S) hS hE1 hn (qMm_subT hL.1 (qMm_cl hL.1).1 (fun r π w hw => (kCl_le hw).1) (fun r π t g b hv k4 hb => dr_tk hL.1 htk (kCl_le hv).1 k4 (fun e => (kCl_le hv).2 (by rw [e]; exact ⟨rfl, Nat.le_refl _, by show 40 + wl S < 300; omega⟩)) hb))⟩
end
