section
variable {y : qY} {z : qZ} {vt vo : Nat → Nat → Nat} {vc : Nat → Nat} {tb : Nat → lTb} {hp : Nat} {tk tk2 : Nat → Prop} {c c2 : Nat → Int} {f : Nat} {x : Nat → kFm} {rt ra : Nat × Nat → Nat} {V V2 : Nat × Nat → qV} {fb : Nat → Nat} {top : Nat} {fil fil2 : Nat → Nat → Nat → Prop} {v T o : Nat} {ρ σ : lLc} {os : List Nat}
theorem qF_56 {W : qV} {t : Nat} (h56 : y.1 t = 5 ∨ y.1 t = 6) (h : ∃ w : Nat × Nat, W [] = some w) : qF y W [] t := fun τ s g1 g2 => by
  cases τ with
  | nil =>
    obtain rfl : s = t := g2
    exact ⟨fun _ => h, fun q => absurd q (by rcases h56 with h | h <;> rw [h] <;> decide)⟩
  | cons a τ =>
    obtain ⟨q, i⟩ := a
    obtain ⟨g3, g4⟩ := qM_cons.mp g1
    obtain rfl : q = 0 := g3
    exact absurd g2.1 (by rcases h56 with h | h <;> rw [h] <;> decide)
/-- a call: the arguments become the parameters -/
theorem kS_call (hy : kYs y z vt vo vc) (h : kS y z vt vo vc tb hp tk c f x fb top fil) {g n : Nat} {e : Nat → tE} {r P : List tE} {al2 : Nat → Prop} {lo2 : Nat → lLc → Prop} {H' : Nat → Nat → Prop} {al' : Nat → Prop} {lo' : Nat → lLc → Prop} {ou : Nat → Nat} (hn : (x f).2.2.1 = 0) (hS : (x f).2.1 = dsl e n ++ r) (hn12 : n ≤ 12) (hmt : ∀ r m : Nat, (5, r, m) ∉ (x f).2.1 ∧ (6, r, m) ∉ (x f).2.1) (he : ∀ i : Nat, i < n → (e i = (0, vt g i, 0) ∧ vt g i ≠ 0) ∨ ∃ U : Nat, U < 10000 ∧ ((e i = (1, U, 0) ∧ vt g i = 10000 + 2 * U) ∨ (e i = (2, U, 0) ∧ vt g i = 10001 + 2 * U))) (hvo : ∀ i : Nat, i < n → vo g i = khs z (dsl e i)) (hal : ∀ u : Nat, al2 u → kal (x f) u) (hlo : ∀ (w : Nat) (π : lLc), ¬ lo2 w π → ¬ klo (x f) w π) (hP : ∀ e : tE, e ∈ P ↔ ∃ v : Nat, e = (8, v, 0) ∧ v < n) (hH : ∀ i : Nat, i < n → H' i (ou i) ∧ (tb g).2.2.2.1 (ou i)) (hf2 : ∀ j : Nat, j ≤ f → fil2 j = fil j) : kS y z vt vo vc tb hp tk c (f + 1) (kUx (kUx x f ((x f).1, r, n, kR (x f), kH (x f), al2, lo2, kAn (x f))) (f + 1) (g, P, 0, (fun i => if i < n then kR (x f) (40 + wl r + i) else none), H', al', lo', kAo y (vt g) (kR (x f)) (wl r) n ou)) (fun j => if j = f + 1 then fb f + vc (x f).1 + khs z r else fb j) (fb f + vc (x f).1 + khs z r + vc g) fil2 := by
  obtain ⟨rt, ra, V, hJ, hL⟩ := h
  have hf := Nat.le_refl f
  have nm : ∀ i : Nat, i < n → kNm (e i) := fun i hi => by
    rcases he i hi with ⟨q, -⟩ | ⟨U, -, ⟨q, -⟩ | ⟨q, -⟩⟩ <;> (rw [q]; unfold kNm; simp)
  have hK := hJ.2.2.2.2.1 f hf
  rw [hS] at hK
  have kp := dsl_K n nm hK
  have hA := hL.2.2.1 f hf
  rw [hS] at hA
  have ap := dsl_A n nm hA
  have hty : ∀ i : Nat, i < n → rt (f, 40 + wl r + i) = vt g i ∧ ra (f, 40 + wl r + i) = fb f + vc (x f).1 + khs z r + vo g i ∧ qF y (V (f, 40 + wl r + i)) [] (vt g i) ∧ vt g i ≠ 0 := fun i hi => by
    have k1 := kp i hi
    have a1 := ap i hi
    have e3 : fb f + vc (x f).1 + khs z (dsl e i ++ r) = fb f + vc (x f).1 + khs z r + vo g i := by
      rw [khs_app, hvo i hi]; omega
    rw [e3] at a1
    rw [Nat.add_assoc]
    rcases he i hi with ⟨q, q0⟩ | ⟨U, hU, ⟨q, q2⟩ | ⟨q, q2⟩⟩
    · rw [q] at k1 a1
      obtain ⟨-, -, -, k4, -⟩ := k1
      exact ⟨(k4 q0).1, a1 q0, (k4 q0).2, q0⟩
    · rw [q] at k1 a1
      rw [q2]
      exact ⟨k1.1, a1, qF_56 (Or.inl (hy.2.2.2.1 U hU).1) k1.2, by omega⟩
    · rw [q] at k1 a1
      rw [q2]
      exact ⟨k1.1, a1, qF_56 (Or.inr (hy.2.2.2.1 U hU).2.2.1) k1.2, by omega⟩
  have hEn := dsl_wl n nm
  exact ⟨_, _, _, kJ_call hJ hn hS (dsl_nm n nm) hEn hn12 hmt (fun i hi => ⟨(hty i hi).1, (hty i hi).2.2.1⟩) hal hlo hP hH, kL_call hJ hL hS hEn hn12 hty hal hmt hP hf2⟩
theorem kL_fil (h : kL y z vt vo vc hp tk c f x rt ra V fb top fil) (hf : ∀ j : Nat, j ≤ f → fil2 j = fil j) : kL y z vt vo vc hp tk c f x rt ra V fb top fil2 := by
  obtain ⟨l0, l1, l2, l3, l4, l5, l6, l7, l8, l9⟩ := h
  refine ⟨l0, l1, l2, l3, l4, l5, l6, fun j hj v v4 hv π t g1 g2 g3 g4 => l7 j hj v v4 hv π t g1 g2 g3 ?_, l8, l9⟩
  rw [← hf j hj]; exact g4
/-- the variables of the top frame are dropped -/
theorem kS_vdr (hy : kYs y z vt vo vc) (hz16 : ∀ t : Nat, z.1 t ≤ 16) (hJ : kJ y vt tb f x rt V) (hL : kL y z vt vo vc hp tk c f x rt ra V fb top fil) : drC y z c hp top (dPF y z c rt ra V (fun r _ => r.1 = f ∧ r.2 < 40)) (drB y z c rt ra V (fun r _ => r.1 = f ∧ r.2 < 40)) ∧ ∀ (v : Nat) (p : Int32), v < 40 → (8, v, 0) ∈ (x f).2.1 → (∀ k : Nat, k < 16 → ibit p k = true → fil f v k) → dPF y z c rt ra V (fun r _ => r.1 = f ∧ r.2 < 40) (vt (x f).1 v) (fb f + vo (x f).1 v) p := by
  have hf := Nat.le_refl f
  have hw := hL
  obtain ⟨l0, l1, l2, l3, l4, l5, l6, l7, l8, l9⟩ := hL
  refine ⟨dr_ok hy.1 hz16 l0 (fun r π w => kLt hy hJ hw) (fun r π σ q => q), fun v p v4 g3 g4 => ?_⟩
  obtain ⟨r1, r2⟩ := hJ.2.2.2.2.2.2.1 f hf v v4 g3
  refine ⟨(f, v), [], ⟨rfl, v4⟩, r1.symm, (l3 f hf v v4 g3).symm, fun ρ s q1 q2 q3 q4 => ?_⟩
  have i1 := qA_in (c := fun _ => 0) (a := 0) hy.1 q2 (qN_M q1)
  have i2 := hz16 (vt (x f).1 v)
  have i3 := hy.1.1 s
  have i4 := qA_sh (z := z) (c := c) (c2 := fun _ => 0) (a := 0) (b := 0) q2 (qN_M q1)
  refine l7 f hf v v4 g3 ρ s q1 q2 q3 ?_
  rw [show qA y z c (vt (x f).1 v) 0 ρ = qA y z (fun _ => 0) (vt (x f).1 v) 0 ρ by omega]
  exact g4 _ (by omega) q4
theorem kNoJ (hJ : kJ y vt tb f x rt V) {j u : Nat} (h : 40 + wl (x j).2.1 ≤ u) (h3 : u < 300) (π : lLc) : V (j, u) π = none := by
  cases e : V (j, u) π with
  | none => rfl
  | some w =>
    obtain ⟨-, q, -⟩ := hJ.2.2.2.2.2.1 j u π w e
    rcases q with ⟨q, -⟩ | ⟨q1, q2⟩ | ⟨q, -⟩ | ⟨r, m, i, -, q, -⟩ <;> omega
/-- a frame ends: what is left of its cells -/
theorem qMm_ret (hy : kYs y z vt vo vc) (hJ : kJ y vt tb (f + 1) x rt V) (hL : kL y z vt vo vc hp tk c (f + 1) x rt ra V fb top fil) {e : tE} {O : List tE} (hS : (x (f + 1)).2.1 = e :: O) (hk0 : kNm e) (hO : ∀ a : tE, a ∈ O → ∃ v : Nat, a = (8, v, 0)) (hl : wl (x f).2.1 < 211) (hrt : rt (f + 1, 40) = T) (hra : ra (f + 1, 40) = fb (f + 1) + vc (x (f + 1)).1) (htk : ∀ k : Nat, tk k → ¬ drB y z c rt ra V (fun r _ => r.1 = f + 1 ∧ r.2 < 40) k → tk2 k) (hc1 : ∀ i : Nat, i < z.1 T → c2 (fb (f + 1) + i) = c (fb (f + 1) + vc (x (f + 1)).1 + i)) (hc2 : ∀ k : Nat, ¬ (fb (f + 1) ≤ k ∧ k < fb (f + 1) + z.1 T) → c2 k = c k) : qMm y z hp tk2 c2 (qRt rt (f, 40 + wl (x f).2.1) T) (qRt ra (f, 40 + wl (x f).2.1) (fb (f + 1))) (kRv V f (40 + wl (x f).2.1) (V (f + 1, 40))) ∧ ∀ (r : Nat × Nat) (π : lLc) (w : Nat × Nat), r.1 ≤ f → V r π = some w → c2 (qA y z c (rt r) (ra r) π) = c (qA y z c (rt r) (ra r) π) := by
  have ht := kTopF hL
  have wO : wl O = 0 := wl_8 hO
  have wS : wl (x (f + 1)).2.1 = 1 := by rw [hS, wl_n hk0, wO]
  have hd : ∀ π : lLc, V (f, 40 + wl (x f).2.1) π = none := fun π => kNoJ hJ (Nat.le_refl _) (by omega) π
  have ds : ∀ (r : Nat × Nat) (π : lLc) (w : Nat × Nat), V r π = some w → r ≠ (f, 40 + wl (x f).2.1) := fun r π w hw q => by
    rw [q, hd] at hw; simp at hw
  -- the roots of the last frame
  have rf : ∀ (r : Nat × Nat) (π : lLc) (w : Nat × Nat), V r π = some w → ¬ (r.1 = f + 1 ∧ r.2 < 40) → r = (f + 1, 40) ∨ r.1 ≤ f := fun r π w hw hn => by
    obtain ⟨a, b⟩ := r
    obtain ⟨q1, q, -⟩ := hJ.2.2.2.2.2.1 a b π w hw
    by_cases e9 : a = f + 1
    · subst e9
      left
      rcases q with ⟨q, -⟩ | ⟨q1, q2⟩ | ⟨-, r, m, q⟩ | ⟨r, m, i, q, -⟩
      · exact absurd ⟨rfl, q⟩ hn
      · rw [show b = 40 by omega]
      · exfalso
        rcases q with q | q
        · rw [hS] at q
          rcases List.mem_cons.mp q with q | q
          · exact hk0 (Or.inr (Or.inr (Or.inl (by rw [← q]))))
          · obtain ⟨v, q⟩ := hO _ q
            injection q with q
            exact absurd q (by decide)
        · rw [hS] at q
          rcases List.mem_cons.mp q with q | q
          · exact hk0 (Or.inr (Or.inr (Or.inr (by rw [← q]))))
          · obtain ⟨v, q⟩ := hO _ q
            injection q with q
            exact absurd q (by decide)
      · exfalso
        rw [hS] at q
        rcases List.mem_cons.mp q with q | q
        · exact hk0 (Or.inr (Or.inl (by rw [← q])))
        · obtain ⟨v, q⟩ := hO _ q
          injection q with q
          exact absurd q (by decide)
    · right
      show a ≤ f
      omega
  have lo : ∀ (r : Nat × Nat) (π : lLc) (w : Nat × Nat), V r π = some w → r.1 ≤ f → ra r + z.1 (rt r) ≤ fb (f + 1) := fun r π w hw hr => (kTop hy.1 hy.2.1 hy.2.2.1 hJ hL hw).2.2.1 (by omega)
  have ap : ∀ (r : Nat × Nat) (π : lLc) (w : Nat × Nat), V r π = some w → r.1 ≤ f → ¬ (fb (f + 1) ≤ qA y z c (rt r) (ra r) π ∧ qA y z c (rt r) (ra r) π < fb (f + 1) + z.1 T) := fun r π w hw hr => qFresh hy.1 hL.1 ht.1 hw (Or.inl (lo r π w hw hr))
  refine ⟨?_, fun r π w hr hw => hc2 _ (ap r π w hw hr)⟩
  have q0 : qMm y z hp tk2 c rt ra (fun r => if r.1 = f + 1 ∧ r.2 < 40 then fun _ => none else V r) := qMm_subT hL.1 (fun r => by
    show qOk y (rt r) (if r.1 = f + 1 ∧ r.2 < 40 then fun _ => none else V r)
    by_cases e9 : r.1 = f + 1 ∧ r.2 < 40
    · rw [if_pos e9]; exact qOk_none
    · rw [if_neg e9]; exact hL.1.1 r) (fun r π w hw => by
    have hw : (if r.1 = f + 1 ∧ r.2 < 40 then fun _ => none else V r) π = some w := hw
    by_cases e9 : r.1 = f + 1 ∧ r.2 < 40
    · rw [if_pos e9] at hw; simp at hw
    · rw [if_neg e9] at hw; exact hw) (fun r π t g b hv k4 hb => by
    have hv : (if r.1 = f + 1 ∧ r.2 < 40 then fun _ => none else V r) π = some (t, g) := hv
    by_cases e9 : r.1 = f + 1 ∧ r.2 < 40
    · rw [if_pos e9] at hv; simp at hv
    · rw [if_neg e9] at hv
      exact dr_tk hL.1 htk hv k4 e9 hb)
  generalize hV1 : (fun r : Nat × Nat => if r.1 = f + 1 ∧ r.2 < 40 then (fun _ => none : qV) else V r) = V1 at q0
  have v1 : ∀ (r : Nat × Nat) (π : lLc) (w : Nat × Nat), V1 r π = some w → V r π = some w ∧ ¬ (r.1 = f + 1 ∧ r.2 < 40) := fun r π w hw => by
    rw [← hV1] at hw
    have hw : (if r.1 = f + 1 ∧ r.2 < 40 then fun _ => none else V r) π = some w := hw
    by_cases e9 : r.1 = f + 1 ∧ r.2 < 40
    · rw [if_pos e9] at hw; simp at hw
    · rw [if_neg e9] at hw; exact ⟨hw, e9⟩
  have v2 : ∀ r : Nat × Nat, ¬ (r.1 = f + 1 ∧ r.2 < 40) → V1 r = V r := fun r hn => by
    rw [← hV1]; exact if_neg hn
  have vs : V1 (f + 1, 40) = V (f + 1, 40) := v2 _ (fun q => Nat.lt_irrefl 40 q.2)
  have hsd : ((f + 1, 40) : Nat × Nat) ≠ (f, 40 + wl (x f).2.1) := fun q => by injection q with q _; omega
  have q1 : qMm y z hp tk2 c (qRt rt (f, 40 + wl (x f).2.1) T) (qRt ra (f, 40 + wl (x f).2.1) (fb (f + 1))) V1 := qMm_em q0 (fun r => by
    by_cases e9 : r = (f, 40 + wl (x f).2.1)
    · subst e9
      exact Or.inl (fun π => by
        cases e : V1 (f, 40 + wl (x f).2.1) π with
        | none => rfl
        | some w => have := (v1 _ _ _ e).1; rw [hd] at this; simp at this)
    · exact Or.inr ⟨qRt_ne e9, qRt_ne e9⟩)
  have q2 := qMv (c2 := c2) hy.1 q1 (s := (f + 1, 40)) (d := (f, 40 + wl (x f).2.1)) (σ := []) (ρ := []) (T1 := T) (Vs := fun _ => none) hsd (by rw [qRt_ne hsd]; exact hrt.symm) (by rw [qRt_eq]; rfl) qOk_none (fun π w hw => by simp at hw) (by
      rw [qRt_eq, qG_nil, ← hrt]
      show qOk y _ (V1 (f + 1, 40))
      rw [vs]; exact hL.1.1 _) (fun ρ1 j ρ2 e9 => by simp at e9) (fun r π w hw _ hs => by
      obtain ⟨g1, g2⟩ := v1 r π w hw
      have hr := ds r π w g1
      rw [qRt_eq, qRt_eq, qRt_ne hr, qRt_ne hr]
      show ¬ (fb (f + 1) ≤ _ ∧ _ < fb (f + 1) + z.1 T)
      rcases rf r π w g1 g2 with e9 | e9
      · have hs := hs e9 ⟨π, rfl⟩
        obtain ⟨t9, g9⟩ := w
        obtain ⟨w1, w2, -⟩ := (hL.1.1 r).1 π t9 g9 g1
        rcases qN_last π with nπ | ⟨π1, i, π2, rfl, nπ⟩
        · exact absurd nπ hs
        · have := qEndH hy.1 hL.1 w1 nπ (qPl_of g1)
          have := hy.1.1 t9
          omega
      · exact ap r π w g1 e9) (by rw [qRt_eq, qRt_eq]; exact hc2) (by
      rw [qRt_eq, qRt_eq, qRt_ne hsd, qRt_ne hsd]
      show ∀ i : Nat, i < z.1 T → c2 (fb (f + 1) + i) = c (ra (f + 1, 40) + i)
      rw [hra]; exact hc1) (by rw [qRt_eq]; exact ht.1) (fun r π w hr hw => Or.inl (by
      rw [qRt_eq, qRt_ne hr, qRt_ne hr]
      by_cases e9 : r = (f + 1, 40)
      · rw [e9, qUp_eq] at hw; simp at hw
      · rw [qUp_ne e9] at hw
        obtain ⟨g1, g2⟩ := v1 r π w hw
        exact lo r π w g1 ((rf r π w g1 g2).resolve_left e9)))
  rw [qG_nil] at q2
  refine qMm_sub q2 (fun r => ?_) (fun r π w hw => ?_)
  · unfold kRv
    by_cases e9 : r.1 = f + 1
    · rw [if_pos e9]; exact qOk_none
    · rw [if_neg e9]
      by_cases e8 : r = (f, 40 + wl (x f).2.1)
      · rw [if_pos e8, e8, qRt_eq, ← hrt]; exact hL.1.1 _
      · rw [if_neg e8, qRt_ne e8]; exact hL.1.1 r
  · unfold kRv at hw
    by_cases e9 : r.1 = f + 1
    · rw [if_pos e9] at hw; simp at hw
    · rw [if_neg e9] at hw
      by_cases e8 : r = (f, 40 + wl (x f).2.1)
      · rw [if_pos e8] at hw
        rw [e8, qUp_eq]
        show V1 (f + 1, 40) ([] ++ π) = some w
        rw [vs]; exact hw
      · rw [if_neg e8] at hw
        rw [qUp_ne e8, qUp_ne (fun q => e9 (by rw [q])), v2 r (fun q => e9 q.1)]
        exact hw
/-- what the caller's frame keeps -/
theorem lIv_ret (hJ : kJ y vt tb (f + 1) x rt V) {t : Nat} {hd : Nat → Prop} {e : tE} {al2 : Nat → Prop} {lo2 : Nat → lLc → Prop} (he : kNm e) (hal : ∀ u : Nat, al2 u → kal (x f) u) : lIv f (tb (x f).1) (kAn (x f)) (kfr y (qRt rt (f, 40 + wl (x f).2.1) t) f ((x f).1, e :: (x f).2.1, 0, lUp (kR (x f)) (40 + wl (x f).2.1) none, lUp (kH (x f)) (40 + wl (x f).2.1) hd, al2, lo2, kAn (x f))) := by
  have hne : ∀ (u : Nat) (a : lLc), lUp (kR (x f)) (40 + wl (x f).2.1) none u = some a → u ≠ 40 + wl (x f).2.1 ∧ kR (x f) u = some a := fun u a ha => by
    by_cases c : u = 40 + wl (x f).2.1
    · rw [c, lUp_eq] at ha; simp at ha
    · rw [lUp_ne c] at ha; exact ⟨c, ha⟩
  refine lIv_mono2 (hJ.2.1.1 f (by omega)) (fun u a hu ha => ?_) (fun u a l hu ha hl => ?_) (fun u a hu ha => ?_)
  · obtain ⟨g1, g2⟩ := hne u a ha
    refine ⟨?_, g2⟩
    rcases hu with ⟨h1, h2⟩ | ⟨h1, h2⟩
    · exact Or.inl ⟨h1, hal u h2⟩
    · have h2 : u < 40 + wl (e :: (x f).2.1) + 0 := h2
      rw [wl_n he] at h2
      exact Or.inr ⟨h1, by show u < 40 + wl (x f).2.1 + (x f).2.2.1; omega⟩
  · show lUp (kH (x f)) (40 + wl (x f).2.1) hd u l
    rw [lUp_ne (hne u a ha).1]; exact hl
  · show y.1 (qRt rt (f, 40 + wl (x f).2.1) t (f, u)) = 6 ↔ y.1 (rt (f, u)) = 6
    rw [qRt_ne (fun q => (hne u a ha).1 (by injection q))]
/-- return of a value that is no reference -/
theorem kS_ret1 (hy : kYs y z vt vo vc) (hz16 : ∀ t : Nat, z.1 t ≤ 16) (h : kS y z vt vo vc tb hp tk c (f + 1) x fb top fil) {O : List tE} {m : Nat} (hS : (x (f + 1)).2.1 = (0, T, m) :: O) (hO : ∀ a : tE, a ∈ O → ∃ v : Nat, a = (8, v, 0)) (hl : wl (x f).2.1 < 211) (hT : T ≠ 0) {al2 : Nat → Prop} {lo2 : Nat → lLc → Prop} (hal : ∀ u : Nat, al2 u → kal (x f) u) (hlo : ∀ (w : Nat) (π : lLc), ¬ lo2 w π → ¬ klo (x f) w π) : ∃ (P : Nat → Nat → Int32 → Prop) (B : Nat → Prop), drC y z c hp top P B ∧ (∀ (v : Nat) (p : Int32), v < 40 → (8, v, 0) ∈ (x (f + 1)).2.1 → (∀ k : Nat, k < 16 → ibit p k = true → fil (f + 1) v k) → P (vt (x (f + 1)).1 v) (fb (f + 1) + vo (x (f + 1)).1 v) p) ∧ ∀ (tk2 : Nat → Prop) (c2 : Nat → Int) (fil2 : Nat → Nat → Nat → Prop), (∀ k : Nat, tk k → ¬ B k → tk2 k) → (∀ i : Nat, i < z.1 T → c2 (fb (f + 1) + i) = c (fb (f + 1) + vc (x (f + 1)).1 + i)) → (∀ k : Nat, ¬ (fb (f + 1) ≤ k ∧ k < fb (f + 1) + z.1 T) → c2 k = c k) → (∀ j : Nat, j ≤ f → fil2 j = fil j) → kS y z vt vo vc tb hp tk2 c2 f (kUx x f ((x f).1, (0, T, 0) :: (x f).2.1, 0, lUp (kR (x f)) (40 + wl (x f).2.1) none, kH (x f), al2, lo2, kAn (x f))) fb (fb (f + 1) + z.1 T) fil2 := by
  obtain ⟨rt, ra, V, hJ, hL⟩ := h
  have hf := Nat.le_refl (f + 1)
  have hk0 : kNm (0, T, m) := by unfold kNm; simp
  have hk1 : kNm (0, T, 0) := by unfold kNm; simp
  have wO : wl O = 0 := wl_8 hO
  have hK := hJ.2.2.2.2.1 (f + 1) hf
  rw [hS] at hK
  obtain ⟨⟨k1, k2, k3, k4, k5⟩, -⟩ := hK
  rw [wO] at k1 k4
  obtain ⟨r1, r2⟩ := k4 hT
  have hA := hL.2.2.1 (f + 1) hf
  rw [hS] at hA
  have a1 := hA.1 hT
  rw [wO, khs_8 hO] at a1
  have a1 : ra (f + 1, 40) = fb (f + 1) + vc (x (f + 1)).1 := a1
  obtain ⟨p1, p2⟩ := kS_vdr hy hz16 hJ hL
  refine ⟨_, _, p1, p2, fun tk2 c2 fil2 htk hc1 hc2 hfl => ?_⟩
  obtain ⟨q, hc⟩ := qMm_ret (tk2 := tk2) (c2 := c2) hy hJ hL hS hk0 hO hl r1 a1 htk hc1 hc2
  have hWk : qOk y T (V (f + 1, 40)) := by
    have := hL.1.1 (f + 1, 40)
    rw [show rt (f + 1, 40) = T from r1] at this; exact this
  have j := kJ_ret (t := T) (W := V (f + 1, 40)) (ro := none) (hd := kH (x f) (40 + wl (x f).2.1)) (al2 := al2) (lo2 := lo2) hJ hk1 hl hal hlo hWk (fun _ w hw => by
    obtain ⟨a, b⟩ := w
    have e9 : a = T := (hWk.1 [] a b hw).1
    show y.1 a ≠ 5 ∧ y.1 a ≠ 6
    rw [e9]; exact ⟨k2, k3⟩) (lIv_ret hJ hk1 hal) (fun a q => by simp at q) ⟨lUp_eq, k2, k3, fun _ => ⟨qRt_eq, by rw [kRv_eq]; exact r2⟩, fun q => absurd q hT⟩
  have l := kL_ret (tk2 := tk2) (c2 := c2) (e := (0, T, 0)) (t := T) (W := V (f + 1, 40)) (ro := none) (hd := kH (x f) (40 + wl (x f).2.1)) (al2 := al2) (lo2 := lo2) hJ hL hk1 hal q hc (fun _ => qRt_eq) (fun a q => by simp at q)
  rw [lUp_self] at j l
  rw [show kes z (0, T, 0) = z.1 T from if_neg hT] at l
  exact ⟨_, _, _, j, kL_fil l hfl⟩
/-- return of nothing -/
theorem kS_ret0 (hy : kYs y z vt vo vc) (hz16 : ∀ t : Nat, z.1 t ≤ 16) (h : kS y z vt vo vc tb hp tk c (f + 1) x fb top fil) (hO : (∀ a : tE, a ∈ (x (f + 1)).2.1 → ∃ v : Nat, a = (8, v, 0)) ∨ ∃ (m : Nat) (O : List tE), (x (f + 1)).2.1 = (0, 0, m) :: O ∧ ∀ a : tE, a ∈ O → ∃ v : Nat, a = (8, v, 0)) (hl : wl (x f).2.1 < 211) (hy0 : y.1 0 = 0) {al2 : Nat → Prop} {lo2 : Nat → lLc → Prop} (hal : ∀ u : Nat, al2 u → kal (x f) u) (hlo : ∀ (w : Nat) (π : lLc), ¬ lo2 w π → ¬ klo (x f) w π) : ∃ (P : Nat → Nat → Int32 → Prop) (B : Nat → Prop), drC y z c hp top P B ∧ (∀ (v : Nat) (p : Int32), v < 40 → (8, v, 0) ∈ (x (f + 1)).2.1 → (∀ k : Nat, k < 16 → ibit p k = true → fil (f + 1) v k) → P (vt (x (f + 1)).1 v) (fb (f + 1) + vo (x (f + 1)).1 v) p) ∧ ∀ (tk2 : Nat → Prop) (fil2 : Nat → Nat → Nat → Prop), (∀ k : Nat, tk k → ¬ B k → tk2 k) → (∀ j : Nat, j ≤ f → fil2 j = fil j) → kS y z vt vo vc tb hp tk2 c f (kUx x f ((x f).1, (0, 0, 0) :: (x f).2.1, 0, lUp (kR (x f)) (40 + wl (x f).2.1) none, kH (x f), al2, lo2, kAn (x f))) fb (fb (f + 1)) fil2 := by
  obtain ⟨rt, ra, V, hJ, hL⟩ := h
  have hk1 : kNm (0, 0, 0) := by unfold kNm; simp
  have ht := kTopF hL
  obtain ⟨p1, p2⟩ := kS_vdr hy hz16 hJ hL
  refine ⟨_, _, p1, p2, fun tk2 fil2 htk hfl => ?_⟩
  have hno : ∀ (r m : Nat), (4, r, m) ∉ (x (f + 1)).2.1 ∧ (5, r, m) ∉ (x (f + 1)).2.1 ∧ (6, r, m) ∉ (x (f + 1)).2.1 := fun r m => by
    have key : ∀ e : tE, e ∈ (x (f + 1)).2.1 → e.1 = 8 ∨ e.1 = 0 := fun e he => by
      rcases hO with g | ⟨m9, O, g1, g2⟩
      · obtain ⟨v, q⟩ := g e he; rw [q]; exact Or.inl rfl
      · rw [g1] at he
        rcases List.mem_cons.mp he with q | q
        · rw [q]; exact Or.inr rfl
        · obtain ⟨v, q⟩ := g2 e q; rw [q]; exact Or.inl rfl
    refine ⟨fun q => ?_, fun q => ?_, fun q => ?_⟩ <;> (have := key _ q; simp at this)
  have wS : ∀ (u : Nat) (π : lLc) (w : Nat × Nat), V (f + 1, u) π = some w → u < 40 := fun u π w hw => by
    obtain ⟨-, q, -⟩ := hJ.2.2.2.2.2.1 (f + 1) u π w hw
    rcases q with ⟨q, -⟩ | ⟨q1, q2⟩ | ⟨-, r, m, q⟩ | ⟨r, m, i, q, -⟩
    · exact q
    · rcases hO with g | ⟨m9, O, g1, g2⟩
      · rw [wl_8 g] at q2; omega
      · have hk2 : kNm (0, 0, m9) := by unfold kNm; simp
        rw [g1, wl_n hk2, wl_8 g2] at q2
        have hK := hJ.2.2.2.2.1 (f + 1) (Nat.le_refl _)
        rw [g1] at hK
        obtain ⟨⟨k1, k2, k3, k4, k5⟩, -⟩ := hK
        rw [wl_8 g2] at k5
        rw [show u = 40 by omega, k5 rfl] at hw
        simp at hw
    · rcases q with q | q
      · exact absurd q (hno r m).2.1
      · exact absurd q (hno r m).2.2
    · exact absurd q (hno r m).1
  have hd : ∀ π : lLc, V (f, 40 + wl (x f).2.1) π = none := fun π => kNoJ hJ (Nat.le_refl _) (by omega) π
  have kv : ∀ (r : Nat × Nat) (π : lLc) (w : Nat × Nat), kRv V f (40 + wl (x f).2.1) (fun _ => none) r π = some w → V r π = some w ∧ r.1 ≠ f + 1 ∧ r ≠ (f, 40 + wl (x f).2.1) := fun r π w hw => by
    unfold kRv at hw
    by_cases e9 : r.1 = f + 1
    · rw [if_pos e9] at hw; simp at hw
    · rw [if_neg e9] at hw
      by_cases e8 : r = (f, 40 + wl (x f).2.1)
      · rw [if_pos e8] at hw; simp at hw
      · rw [if_neg e8] at hw; exact ⟨hw, e9, e8⟩
  have q : qMm y z hp tk2 c (qRt rt (f, 40 + wl (x f).2.1) 0) (qRt ra (f, 40 + wl (x f).2.1) (fb (f + 1))) (kRv V f (40 + wl (x f).2.1) (fun _ => none)) := by
    refine qMm_em (rt := rt) (ra := ra) (qMm_subT hL.1 (fun r => ?_) (fun r π w hw => (kv r π w hw).1) (fun r π t g b hv k4 hb => dr_tk hL.1 htk (kv r π _ hv).1 k4 (fun q => (kv r π _ hv).2.1 q.1) hb)) (fun r => ?_)
    · unfold kRv
      by_cases e9 : r.1 = f + 1
      · rw [if_pos e9]; exact qOk_none
      · rw [if_neg e9]
        by_cases e8 : r = (f, 40 + wl (x f).2.1)
        · rw [if_pos e8]; exact qOk_none
        · rw [if_neg e8]; exact hL.1.1 r
    · by_cases e8 : r = (f, 40 + wl (x f).2.1)
      · subst e8
        exact Or.inl (fun π => by rw [kRv_eq])
      · exact Or.inr ⟨qRt_ne e8, qRt_ne e8⟩
  have j := kJ_ret (e := (0, 0, 0)) (t := 0) (W := fun _ => none) (ro := none) (hd := kH (x f) (40 + wl (x f).2.1)) (al2 := al2) (lo2 := lo2) hJ hk1 hl hal hlo qOk_none (fun _ w hw => by simp at hw) (lIv_ret hJ hk1 hal) (fun a q => by simp at q) ⟨lUp_eq, by rw [hy0]; decide, by rw [hy0]; decide, fun q => absurd rfl q, fun _ π => by rw [kRv_eq]⟩
  have l := kL_ret (tk2 := tk2) (c2 := c) (e := (0, 0, 0)) (t := 0) (W := fun _ => none) (ro := none) (hd := kH (x f) (40 + wl (x f).2.1)) (al2 := al2) (lo2 := lo2) hJ hL hk1 hal q (fun _ _ _ _ _ => rfl) (fun q => absurd rfl q) (fun a q => by simp at q)
  rw [lUp_self] at j l
  exact ⟨_, _, _, j, kL_fil l hfl⟩
end
