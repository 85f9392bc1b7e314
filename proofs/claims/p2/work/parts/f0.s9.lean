section
variable {y : qY} {z : qZ} {vt vo : Nat → Nat → Nat} {vc : Nat → Nat} {tb : Nat → lTb} {hp : Nat} {tk tk2 : Nat → Prop} {c c2 : Nat → Int} {f : Nat} {x : Nat → kFm} {rt ra : Nat × Nat → Nat} {V : Nat × Nat → qV} {fb : Nat → Nat} {top : Nat} {fil fil2 : Nat → Nat → Nat → Prop} {v T o : Nat} {ρ σ : lLc} {os : List Nat}
theorem kNoV (hJ : kJ y vt tb f x rt V) (hv4 : v < 40) (hvS : (8, v, 0) ∉ (x f).2.1) (π : lLc) : V (f, v) π = none := by
  cases e9 : V (f, v) π with
  | none => rfl
  | some w =>
    obtain ⟨-, q, -⟩ := hJ.2.2.2.2.2.1 f v π w e9
    rcases q with ⟨-, q⟩ | ⟨q1, q2⟩ | ⟨q, -⟩ | ⟨r, m, i, -, q, -⟩
    · exact absurd q hvS
    · omega
    · omega
    · omega
/-- a root goes into a variable that comes into scope -/
theorem qMm_mvv (hy : kYs y z vt vo vc) (hJ : kJ y vt tb f x rt V) (hL : kL y z vt vo vc hp tk c f x rt ra V fb top fil) (hv4 : v < 40) (hvS : (8, v, 0) ∉ (x f).2.1) (hvt0 : vt (x f).1 v ≠ 0) {s : Nat × Nat} (hs : s ≠ (f, v)) (hrt : rt s = vt (x f).1 v) (hc1 : ∀ i : Nat, i < z.1 (vt (x f).1 v) → c2 (fb f + vo (x f).1 v + i) = c (ra s + i)) (hc2 : ∀ k : Nat, ¬ (fb f + vo (x f).1 v ≤ k ∧ k < fb f + vo (x f).1 v + z.1 (vt (x f).1 v)) → c2 k = c k) : qMm y z hp tk c2 (qRt rt (f, v) (vt (x f).1 v)) (qRt ra (f, v) (fb f + vo (x f).1 v)) (qUp (qUp V s (fun _ => none)) (f, v) (V s)) ∧ ∀ (r : Nat × Nat) (π : lLc) (w : Nat × Nat), V r π = some w → c2 (qA y z c (rt r) (ra r) π) = c (qA y z c (rt r) (ra r) π) := by
  have hno2 := kNoV hJ hv4 hvS
  have ht := kTopF hL
  have q0 : qMm y z hp tk c (qRt rt (f, v) (vt (x f).1 v)) (qRt ra (f, v) (fb f + vo (x f).1 v)) V := qMm_em hL.1 (fun r => by
    by_cases e9 : r = (f, v)
    · subst e9; exact Or.inl hno2
    · exact Or.inr ⟨qRt_ne e9, qRt_ne e9⟩)
  have hrv : ∀ (r : Nat × Nat) (π : lLc) (w : Nat × Nat), V r π = some w → r ≠ (f, v) := fun r π w hw q => by
    rw [q, hno2] at hw; simp at hw
  have ap : ∀ (r : Nat × Nat) (π : lLc) (w : Nat × Nat), V r π = some w → ¬ (fb f + vo (x f).1 v ≤ qA y z c (rt r) (ra r) π ∧ qA y z c (rt r) (ra r) π < fb f + vo (x f).1 v + z.1 (vt (x f).1 v)) := fun r π w hw => qFresh hy.1 hL.1 (by omega) hw (kVarAp hy hJ hL hv4 hvt0 hw (hrv r π w hw))
  refine ⟨?_, fun r π w hw => hc2 _ (ap r π w hw)⟩
  have q := qMv (c2 := c2) hy.1 q0 (s := s) (d := (f, v)) (σ := []) (ρ := []) (T1 := vt (x f).1 v) (Vs := fun _ => none) hs (by rw [qRt_ne hs]; exact hrt.symm) (by rw [qRt_eq]; rfl) qOk_none (fun π w hw => by simp at hw) (by
      rw [qRt_eq, qG_nil, ← hrt]; exact hL.1.1 _) (fun ρ1 j ρ2 e9 => by simp at e9) (fun r π w hw _ _ => by
      have hr := hrv r π w hw
      rw [qRt_eq, qRt_eq, qRt_ne hr, qRt_ne hr]
      exact ap r π w hw) (by rw [qRt_eq, qRt_eq]; exact hc2) (by
      rw [qRt_eq, qRt_eq, qRt_ne hs, qRt_ne hs]; exact hc1) (by rw [qRt_eq]; omega) (fun r π w hr hw => by
      rw [qRt_eq, qRt_eq, qRt_ne hr, qRt_ne hr]
      by_cases e9 : r = s
      · rw [e9, qUp_eq] at hw; simp at hw
      · rw [qUp_ne e9] at hw
        exact kVarAp hy hJ hL hv4 hvt0 hw hr)
  rw [qG_nil] at q
  exact q
/-- a part of a matched value goes into its variable -/
theorem kS_bind (hy : kYs y z vt vo vc) (h : kS y z vt vo vc tb hp tk c f x fb top fil) {r : List tE} {r0 m : Nat} (hS : (x f).2.1 = (4, r0, m) :: r) (hn : (x f).2.2.1 = 0) (hmt : ∀ e : tE, e ∈ r → ¬ (e.1 = 4 ∨ e.1 = 5 ∨ e.1 = 6)) (hv4 : v < 40) (hvS : (8, v, 0) ∉ r) (hm : m < y.2.2.2.1 (4 + r0 / 12) (r0 % 12)) (hvt : vt (x f).1 v = y.2.2.2.2 (4 + r0 / 12) (r0 % 12) m) (hvt0 : vt (x f).1 v ≠ 0) (hnr : y.1 (vt (x f).1 v) ≠ 5 ∧ y.1 (vt (x f).1 v) ≠ 6) {al2 : Nat → Prop} {lo2 : Nat → lLc → Prop} (hal : ∀ u : Nat, u ≠ v → al2 u → kal (x f) u) (hlo : ∀ (w : Nat) (π : lLc), w ≠ v → ¬ lo2 w π → ¬ klo (x f) w π) (hc1 : ∀ i : Nat, i < z.1 (vt (x f).1 v) → c2 (fb f + vo (x f).1 v + i) = c (fb f + vc (x f).1 + khs z r + z.2 (4 + r0 / 12) (r0 % 12) m + i)) (hc2 : ∀ k : Nat, ¬ (fb f + vo (x f).1 v ≤ k ∧ k < fb f + vo (x f).1 v + z.1 (vt (x f).1 v)) → c2 k = c k) (hf1 : ∀ j w : Nat, (j, w) ≠ (f, v) → fil2 j w = fil j w) : kS y z vt vo vc tb hp tk c2 f (kUx x f ((x f).1, (4, r0, m + 1) :: (8, v, 0) :: r, 0, lUp (kR (x f)) v none, kH (x f), al2, lo2, kAn (x f))) fb top fil2 := by
  obtain ⟨rt, ra, V, hJ, hL⟩ := h
  have hf := Nat.le_refl f
  have hK := hJ.2.2.2.2.1 f hf
  rw [hS] at hK
  obtain ⟨r1, r2⟩ := hK.1 m (Nat.le_refl _) hm
  have hA := hL.2.2.1 f hf
  rw [hS] at hA
  have a1 : ra (f, 400 + m) = fb f + vc (x f).1 + khs z r + z.2 (4 + r0 / 12) (r0 % 12) m := hA.1 m (Nat.le_refl _) hm
  have hvS2 : (8, v, 0) ∉ (x f).2.1 := fun q => by
    rw [hS] at q
    rcases List.mem_cons.mp q with q | q
    · injection q with q; exact absurd q (by decide)
    · exact hvS q
  have hs : ((f, 400 + m) : Nat × Nat) ≠ (f, v) := fun q => by injection q with _ q; omega
  obtain ⟨q, hc⟩ := qMm_mvv (c2 := c2) hy hJ hL hv4 hvS2 hvt0 hs (r1.trans hvt.symm) (by rw [a1]; exact hc1) hc2
  have j := kJ_bind (hd := kH (x f) v) (al2 := al2) (lo2 := lo2) hJ hn hS hmt hv4 hvS hm hvt hnr hal hlo
  have l := kL_bnd (c2 := c2) (fil2 := fil2) (ro := none) (hd := kH (x f) v) (al2 := al2) (lo2 := lo2) (m2 := m + 1) (V2 := qUp (qUp V (f, 400 + m) (fun _ => none)) (f, v) (V (f, 400 + m))) hJ hL hn (Or.inl rfl) hS hmt (by omega) hv4 hvS hal q (fun j u g1 g2 => by rw [qUp_ne g1, qUp_ne (g2 rfl)]) (fun π _ => by rw [qUp_ne hs, qUp_eq]) (by rw [qUp_eq, hvt]; exact r2) hvt0 hc (fun a q => by simp at q) hf1
  rw [lUp_self] at j l
  exact ⟨_, _, _, j, l⟩
/-- a reference to a part of what a matched reference leads to -/
theorem kS_bindR (hy : kYs y z vt vo vc) (h : kS y z vt vo vc tb hp tk c f x fb top fil) {r : List tE} {r0 q m : Nat} (hq : q = 5 ∨ q = 6) (hS : (x f).2.1 = (q, r0, m) :: r) (hn : (x f).2.2.1 = 0) (hmt : ∀ e : tE, e ∈ r → ¬ (e.1 = 4 ∨ e.1 = 5 ∨ e.1 = 6)) (hv4 : v < 40) (hvS : (8, v, 0) ∉ r) (hk3 : y.1 (4 + r0 / 12) = 3) (hm : m / 64 < y.2.2.2.1 (4 + r0 / 12) (r0 % 12)) (ht9 : y.2.2.2.2 (4 + r0 / 12) (r0 % 12) (m / 64) < 10000) (hvt : vt (x f).1 v = 9995 + q + 2 * y.2.2.2.2 (4 + r0 / 12) (r0 % 12) (m / 64)) {al2 : Nat → Prop} {lo2 : Nat → lLc → Prop} {hd : Nat → Prop} (hal : ∀ u : Nat, u ≠ v → al2 u → kal (x f) u) (hlo : ∀ (w : Nat) (π : lLc), w ≠ v → ¬ lo2 w π → ¬ klo (x f) w π) (hd1 : ∀ l : Nat, kH (x f) 300 l → hd l) (hc1 : c2 (fb f + vo (x f).1 v) = c (fb f + vc (x f).1 + khs z r) + (z.2 (4 + r0 / 12) (r0 % 12) (m / 64) : Nat)) (hc2 : ∀ k : Nat, k ≠ fb f + vo (x f).1 v → c2 k = c k) (hf1 : ∀ j w : Nat, (j, w) ≠ (f, v) → fil2 j w = fil j w) : (∃ a : lLc, kS y z vt vo vc tb hp tk c2 f (kUx x f ((x f).1, (q, r0, m + 64) :: (8, v, 0) :: r, 0, lUp (kR (x f)) v (some a), lUp (kH (x f)) v hd, al2, lo2, kAn (x f))) fb top fil2) := by
  obtain ⟨rt, ra, V, hJ, hL⟩ := h
  have hf := Nat.le_refl f
  obtain ⟨a0, π0, b1, b2, b3, b4, j⟩ := kJ_bindR (hd := hd) (al2 := al2) (lo2 := lo2) hy.2.2.2.1 hJ hn ht9 hq hS hmt hv4 hvS hk3 hm hvt hal hlo hd1
  have hcr := hy.2.2.2.1 _ ht9
  have h56 : (y.1 (vt (x f).1 v) = 5 ∨ y.1 (vt (x f).1 v) = 6) ∧ y.2.1 (vt (x f).1 v) = y.2.2.2.2 (4 + r0 / 12) (r0 % 12) (m / 64) ∧ vt (x f).1 v ≠ 0 ∧ z.1 (vt (x f).1 v) = 1 := by
    rcases hq with rfl | rfl
    · rw [hvt, show 9995 + 5 + 2 * y.2.2.2.2 (4 + r0 / 12) (r0 % 12) (m / 64) = 10000 + 2 * y.2.2.2.2 (4 + r0 / 12) (r0 % 12) (m / 64) by omega]
      exact ⟨Or.inl hcr.1, hcr.2.1, by omega, (hy.2.1.2 _).1⟩
    · rw [hvt, show 9995 + 6 + 2 * y.2.2.2.2 (4 + r0 / 12) (r0 % 12) (m / 64) = 10001 + 2 * y.2.2.2.2 (4 + r0 / 12) (r0 % 12) (m / 64) by omega]
      exact ⟨Or.inr hcr.2.2.1, hcr.2.2.2, by omega, (hy.2.1.2 _).2⟩
  obtain ⟨h56, eU, hv0, hz1⟩ := h56
  have hK := hJ.2.2.2.2.1 f hf
  rw [hS] at hK
  have hw3 : ∃ w : Nat × Nat, V (f, 300) [] = some w := by
    rcases hq with rfl | rfl
    · exact hK.1.2
    · exact hK.1.2
  have hA := hL.2.2.1 f hf
  rw [hS] at hA
  have a1 : ra (f, 300) = fb f + vc (x f).1 + khs z r := by
    rcases hq with rfl | rfl
    · exact hA.1
    · exact hA.1
  have hla := hL.2.1 f hf 300 _ (Or.inr rfl) b1 hw3
  have hvS2 : (8, v, 0) ∉ (x f).2.1 := fun g => by
    rw [hS] at g
    rcases List.mem_cons.mp g with g | g
    · injection g with g; rcases hq with e | e <;> omega
    · exact hvS g
  have hno2 := kNoV hJ hv4 hvS2
  have ht := kTopF hL
  have hrv : ∀ (r : Nat × Nat) (π : lLc) (w : Nat × Nat), V r π = some w → r ≠ (f, v) := fun r π w hw q => by
    rw [q, hno2] at hw; simp at hw
  have hc : ∀ (r : Nat × Nat) (π : lLc) (w : Nat × Nat), V r π = some w → c2 (qA y z c (rt r) (ra r) π) = c (qA y z c (rt r) (ra r) π) := fun r π w hw => hc2 _ (fun e => by
    have := qFresh (n := 1) (a := fb f + vo (x f).1 v) hy.1 hL.1 (by omega) hw (by rw [← hz1]; exact kVarAp hy hJ hL hv4 hv0 hw (hrv r π w hw))
    omega)
  have q0 : qMm y z hp tk c2 (qRt rt (f, v) (vt (x f).1 v)) (qRt ra (f, v) (fb f + vo (x f).1 v)) V := qMm_em (qMm_c hL.1 hc) (fun r => by
    by_cases e9 : r = (f, v)
    · subst e9; exact Or.inl hno2
    · exact Or.inr ⟨qRt_ne e9, qRt_ne e9⟩)
  have q1 := qMm_pl q0 (d := (f, v)) (by rw [qRt_eq]; rcases h56 with a | a <;> rw [a] <;> decide) (by rw [qRt_eq]; rcases h56 with a | a <;> rw [a] <;> decide) (by rw [qRt_eq]; rcases h56 with a | a <;> rw [a] <;> decide) (by rw [qRt_eq]; omega) (fun r π w hr hw => by
    rw [qRt_eq, qRt_eq, qRt_ne hr, qRt_ne hr]
    exact kVarAp hy hJ hL hv4 hv0 hw hr)
  rw [qRt_eq] at q1
  have hlf : qFu y (vt (x f).1 v) (qL (vt (x f).1 v)) := qFu_L (by rcases h56 with a | a <;> rw [a] <;> decide) (by rcases h56 with a | a <;> rw [a] <;> decide) (by rcases h56 with a | a <;> rw [a] <;> decide)
  have l := kL_bnd (c2 := c2) (fil2 := fil2) (ro := some (a0 :: (π0 ++ [(r0 % 12 + 2, m / 64)]))) (hd := hd) (al2 := al2) (lo2 := lo2) (m2 := m + 64) (V2 := qUp V (f, v) (qL (vt (x f).1 v))) hJ hL hn (Or.inr hq) hS hmt (by omega) hv4 hvS hal q1 (fun j u g1 _ => qUp_ne g1) (fun π g => by rcases hq with e | e <;> omega) (by rw [qUp_eq]; exact hlf.2) hv0 hc (fun a g => by
    injection g with g
    subst g
    obtain ⟨g1, g2, g3, g4, g5⟩ := (hL.1.1 a0).1 π0 _ _ b2
    have w1 : qW y (4 + r0 / 12) [(r0 % 12 + 2, m / 64)] (y.2.2.2.2 (4 + r0 / 12) (r0 % 12) (m / 64)) := ⟨hk3, g3 hk3, hm, rfl⟩
    rw [eU]
    refine ⟨⟨a0, _, rfl, b3, qW_app b4 w1, g5 hk3 _ hm⟩, ?_⟩
    rw [hc1, ← a1, hla]
    show (qA y z c (rt a0) (ra a0) π0 : Int) + (z.2 (4 + r0 / 12) (r0 % 12) (m / 64) : Nat) = ((qA y z c (rt a0) (ra a0) (π0 ++ [(r0 % 12 + 2, m / 64)]) : Nat) : Int)
    rw [qA_app b4]
    show _ = ((qA y z c (rt a0) (ra a0) π0 + z.2 (4 + r0 / 12) (r0 % 12) (m / 64) : Nat) : Int)
    omega) hf1
  exact ⟨_, _, _, _, j, l⟩
theorem kS_popM (h : kS y z vt vo vc tb hp tk c f x fb top fil) {e : tE} {r : List tE} (hn : (x f).2.2.1 = 0) (hS : (x f).2.1 = e :: r) (he : e.1 = 4 ∨ e.1 = 5 ∨ e.1 = 6) (hmt : ∀ e : tE, e ∈ r → ¬ (e.1 = 4 ∨ e.1 = 5 ∨ e.1 = 6)) : kS y z vt vo vc tb hp tk c f (kUx x f ((x f).1, r, 0, kR (x f), kH (x f), kal (x f), klo (x f), kAn (x f))) fb (fb f + vc (x f).1 + khs z r) fil := by
  obtain ⟨rt, ra, V, hJ, hL⟩ := h
  exact ⟨_, _, _, kJ_popM hJ hn hS he hmt, kL_popM hJ hL hn hS he hmt⟩
theorem kS_sw0 (hy : kYs y z vt vo vc) (h : kS y z vt vo vc tb hp tk c f x fb top fil) {r : List tE} {sh m : Nat} (hn : (x f).2.2.1 = 0) (hS : (x f).2.1 = (0, 4 + sh, m) :: r) (hmt : ∀ e : tE, e ∈ r → ¬ (e.1 = 4 ∨ e.1 = 5 ∨ e.1 = 6)) (hk : y.1 (4 + sh) = 3) (h12 : y.2.2.1 (4 + sh) ≤ 12) : ∃ g : Nat, g < y.2.2.1 (4 + sh) ∧ c (fb f + vc (x f).1 + khs z r) = (g : Int) ∧ kS y z vt vo vc tb hp tk c f (kUx x f ((x f).1, (4, sh * 12 + g, 0) :: r, 0, kR (x f), kH (x f), kal (x f), klo (x f), kAn (x f))) fb top fil := by
  obtain ⟨rt, ra, V, hJ, hL⟩ := h
  have hf := Nat.le_refl f
  have hK := hJ.2.2.2.2.1 f hf
  rw [hS] at hK
  obtain ⟨⟨k1, k2, k3, k4, k5⟩, -⟩ := hK
  obtain ⟨r1, r2⟩ := k4 (by omega)
  have hA := hL.2.2.1 f hf
  rw [hS] at hA
  have a1 : ra (f, 40 + wl r) = fb f + vc (x f).1 + khs z r := hA.1 (by omega)
  obtain ⟨⟨t, g⟩, e⟩ := (r2 [] _ qM_nil rfl).1 (by rw [hk]; decide)
  have e : V (f, 40 + wl r) [] = some (t, g) := e
  obtain ⟨g1, g2, g3, -⟩ := (hL.1.1 (f, 40 + wl r)).1 [] t g e
  have et : t = 4 + sh := by rw [← r1]; exact g1
  subst et
  have hg := g3 hk
  have hcg := (hL.1.2.1 (f, 40 + wl r) [] _ g e).1 hk
  have hcg : c (ra (f, 40 + wl r)) = (g : Int) := hcg
  rw [a1] at hcg
  exact ⟨g, hg, hcg, _, _, _, kJ_sw0 hJ hn hS hmt (by omega) hk e, kL_sw0 hy hJ hL hn hS hmt (by omega) hk e⟩
theorem kS_sw1 (hy : kYs y z vt vo vc) (h : kS y z vt vo vc tb hp tk c f x fb top fil) {r : List tE} {sh q m : Nat} {hd : Nat → Prop} (hn : (x f).2.2.1 = 0) (hs9 : 4 + sh < 10000) (hq : q = 1 ∨ q = 2) (hS : (x f).2.1 = (q, 4 + sh, m) :: r) (hmt : ∀ e : tE, e ∈ r → ¬ (e.1 = 4 ∨ e.1 = 5 ∨ e.1 = 6)) (hk : y.1 (4 + sh) = 3) (h12 : y.2.2.1 (4 + sh) ≤ 12) (hm : m < 64) (hd1 : ∀ l : Nat, kH (x f) (40 + wl r) l → hd l) : ∃ (g ad : Nat) (a : lLc), g < y.2.2.1 (4 + sh) ∧ c (fb f + vc (x f).1 + khs z r) = (ad : Int) ∧ ad < top ∧ c ad = (g : Int) ∧ kS y z vt vo vc tb hp tk c f (kUx x f ((x f).1, (q + 4, sh * 12 + g, m) :: r, 0, lUp (kR (x f)) 300 (some a), lUp (kH (x f)) 300 hd, kal (x f), klo (x f), kAn (x f))) fb top fil := by
  obtain ⟨rt, ra, V, hJ, hL⟩ := h
  have hf := Nat.le_refl f
  have hcr := hy.2.2.2.1 _ hs9
  have hk0 : kNm (q, 4 + sh, m) := by
    rcases hq with rfl | rfl <;> (unfold kNm; simp)
  have hK := hJ.2.2.2.2.1 f hf
  rw [hS] at hK
  have hK1 : (y.1 (rt (f, 40 + wl r)) = 5 ∨ y.1 (rt (f, 40 + wl r)) = 6) ∧ y.2.1 (rt (f, 40 + wl r)) = 4 + sh ∧ ∃ w : Nat × Nat, V (f, 40 + wl r) [] = some w := by
    rcases hq with rfl | rfl
    · obtain ⟨e1, e2⟩ := hK.1
      rw [e1]; exact ⟨Or.inl hcr.1, hcr.2.1, e2⟩
    · obtain ⟨e1, e2⟩ := hK.1
      rw [e1]; exact ⟨Or.inr hcr.2.2.1, hcr.2.2.2, e2⟩
  obtain ⟨h56, eU, ⟨t9, g9⟩, r2⟩ := hK1
  have hA := hL.2.2.1 f hf
  rw [hS] at hA
  have a1 : ra (f, 40 + wl r) = fb f + vc (x f).1 + khs z r := by
    rcases hq with rfl | rfl
    · exact hA.1
    · exact hA.1
  have wS : wl (x f).2.1 = wl r + 1 := by rw [hS, wl_n hk0]
  have hks : kA (x f) (40 + wl r) := Or.inr ⟨by omega, by omega⟩
  have e9 : t9 = rt (f, 40 + wl r) := ((hL.1.1 _).1 [] t9 g9 r2).1
  obtain ⟨a, ea⟩ := hJ.2.2.2.1 f hf (40 + wl r) t9 g9 r2 (by rw [e9]; exact h56) hks
  obtain ⟨-, d, π, rfl, d1, d2, d3⟩ := hJ.2.2.1 f hf (40 + wl r) a hks ea
  rw [eU] at d2 d3
  have hla := hL.2.1 f hf (40 + wl r) _ (Or.inl hks) ea ⟨_, r2⟩
  obtain ⟨⟨t, g⟩, e⟩ := (d3 [] _ qM_nil rfl).1 (by rw [hk]; decide)
  rw [List.append_nil] at e
  obtain ⟨g1, g2, g3, -⟩ := (hL.1.1 d).1 π t g e
  obtain rfl := qW_det g1 d2
  have hg := g3 hk
  have hcg := (hL.1.2.1 d π _ g e).1 hk
  refine ⟨g, qA y z c (rt d) (ra d) π, d :: π, hg, by rw [← a1]; exact hla, kLt hy hJ hL e, hcg, _, _, _, kJ_sw1 hy.2.2.2.1 hJ hn hs9 hq hS hmt (by omega) hm ea e hd1, kL_sw1 hJ hL hn hq hS hmt ea⟩
end
