-- f0.sd.lean.txt
section
section
variable {y : qY} {z : qZ} {vt vo : Nat → Nat → Nat} {vc : Nat → Nat} {tb : Nat → lTb} {hp : Nat} {tk tk2 : Nat → Prop} {c c2 : Nat → Int} {f : Nat} {x : Nat → kFm} {rt ra : Nat × Nat → Nat} {V V2 : Nat × Nat → qV} {fb : Nat → Nat} {top : Nat} {fil fil2 : Nat → Nat → Nat → Prop} {v T o : Nat} {ρ σ : lLc} {os : List Nat}
theorem qF_56 {W : qV} {t : Nat} (h56 : y.1 t = 5 ∨ y.1 t = 6) (h : ∃ w : Nat × Nat, W [] = some w) : qF y W [] t := fun τ s g1 g2 => by
  cases τ with
  | nil =>
    obtain rfl : s = t := g2
    exact ⟨fun _ => h, fun q => absurd q (by rcases h56 with h | h <;> rw [h] <;> decide)⟩
  | cons a τ =>
    obtain ⟨q, i⟩ := a
    obtain ⟨g3, g4⟩ := qM_cons.mp g1
    obtain rfl : q = 0 := g3
    exact absurd g2.1 (by rcases h56 with h | h <;> rw [h] <;> decide)
/-- a call: the arguments become the parameters -/
theorem kS_call (hy : kYs y z vt vo vc) (h : kS y z vt vo vc tb hp tk c f x fb top fil) {g n : Nat} {e : Nat → tE} {r P : List tE} {al2 : Nat → Prop} {lo2 : Nat → lLc → Prop} {H' : Nat → Nat → Prop} {al' : Nat → Prop} {lo' : Nat → lLc → Prop} {ou : Nat → Nat} (hn : (x f).2.2.1 = 0) (hS : (x f).2.1 = dsl e n ++ r) (hn12 : n ≤ 12) (hmt : ∀ r m : Nat, (5, r, m) ∉ (x f).2.1 ∧ (6, r, m) ∉ (x f).2.1) (he : ∀ i : Nat, i < n → (e i = (0, vt g i, 0) ∧ vt g i ≠ 0) ∨ ∃ U : Nat, U < 10000 ∧ ((e i = (1, U, 0) ∧ vt g i = 10000 + 2 * U) ∨ (e i = (2, U, 0) ∧ vt g i = 10001 + 2 * U))) (hvo : ∀ i : Nat, i < n → vo g i = khs z (dsl e i)) (hal : ∀ u : Nat, al2 u → kal (x f) u) (hlo : ∀ (w : Nat) (π : lLc), ¬ lo2 w π → ¬ klo (x f) w π) (hP : ∀ e : tE, e ∈ P ↔ ∃ v : Nat, e = (8, v, 0) ∧ v < n) (hH : ∀ i : Nat, i < n → H' i (ou i) ∧ (tb g).2.2.2.1 (ou i)) (hf2 : ∀ j : Nat, j ≤ f → fil2 j = fil j) : kS y z vt vo vc tb hp tk c (f + 1) (kUx (kUx x f ((x f).1, r, n, kR (x f), kH (x f), al2, lo2, kAn (x f))) (f + 1) (g, P, 0, (fun i => if i < n then kR (x f) (40 + wl r + i) else none), H', al', lo', kAo y (vt g) (kR (x f)) (wl r) n ou)) (fun j => if j = f + 1 then fb f + vc (x f).1 + khs z r else fb j) (fb f + vc (x f).1 + khs z r + vc g) fil2 := by
  obtain ⟨rt, ra, V, hJ, hL⟩ := h
  have hf := Nat.le_refl f
  have nm : ∀ i : Nat, i < n → kNm (e i) := fun i hi => by
    rcases he i hi with ⟨q, -⟩ | ⟨U, -, ⟨q, -⟩ | ⟨q, -⟩⟩ <;> (rw [q]; unfold kNm; simp)
  have hK := hJ.2.2.2.2.1 f hf
  rw [hS] at hK
  have kp := dsl_K n nm hK
  have hA := hL.2.2.1 f hf
  rw [hS] at hA
  have ap := dsl_A n nm hA
  have hty : ∀ i : Nat, i < n → rt (f, 40 + wl r + i) = vt g i ∧ ra (f, 40 + wl r + i) = fb f + vc (x f).1 + khs z r + vo g i ∧ qF y (V (f, 40 + wl r + i)) [] (vt g i) ∧ vt g i ≠ 0 := fun i hi => by
    have k1 := kp i hi
    have a1 := ap i hi
    have e3 : fb f + vc (x f).1 + khs z (dsl e i ++ r) = fb f + vc (x f).1 + khs z r + vo g i := by
      rw [khs_app, hvo i hi]; omega
    rw [e3] at a1
    rw [Nat.add_assoc]
    rcases he i hi with ⟨q, q0⟩ | ⟨U, hU, ⟨q, q2⟩ | ⟨q, q2⟩⟩
    · rw [q] at k1 a1
      obtain ⟨-, -, -, k4, -⟩ := k1
      exact ⟨(k4 q0).1, a1 q0, (k4 q0).2, q0⟩
    · rw [q] at k1 a1
      rw [q2]
      exact ⟨k1.1, a1, qF_56 (Or.inl (hy.2.2.2.1 U hU).1) k1.2, by omega⟩
    · rw [q] at k1 a1
      rw [q2]
      exact ⟨k1.1, a1, qF_56 (Or.inr (hy.2.2.2.1 U hU).2.2.1) k1.2, by omega⟩
  have hEn := dsl_wl n nm
  exact ⟨_, _, _, kJ_call hJ hn hS (dsl_nm n nm) hEn hn12 hmt (fun i hi => ⟨(hty i hi).1, (hty i hi).2.2.1⟩) hal hlo hP hH, kL_call hJ hL hS hEn hn12 hty hal hmt hP hf2⟩
theorem kL_fil (h : kL y z vt vo vc hp tk c f x rt ra V fb top fil) (hf : ∀ j : Nat, j ≤ f → fil2 j = fil j) : kL y z vt vo vc hp tk c f x rt ra V fb top fil2 := by
  obtain ⟨l0, l1, l2, l3, l4, l5, l6, l7, l8, l9⟩ := h
  refine ⟨l0, l1, l2, l3, l4, l5, l6, fun j hj v v4 hv π t g1 g2 g3 g4 => l7 j hj v v4 hv π t g1 g2 g3 ?_, l8, l9⟩
  rw [← hf j hj]; exact g4
/-- the variables of the top frame are dropped -/
theorem kS_vdr (hy : kYs y z vt vo vc) (hz16 : ∀ t : Nat, z.1 t ≤ 16) (hJ : kJ y vt tb f x rt V) (hL : kL y z vt vo vc hp tk c f x rt ra V fb top fil) : drC y z c hp top (dPF y z c rt ra V (fun r _ => r.1 = f ∧ r.2 < 40)) (drB y z c rt ra V (fun r _ => r.1 = f ∧ r.2 < 40)) ∧ ∀ (v : Nat) (p : Int32), v < 40 → (8, v, 0) ∈ (x f).2.1 → (∀ k : Nat, k < 16 → ibit p k = true → fil f v k) → dPF y z c rt ra V (fun r _ => r.1 = f ∧ r.2 < 40) (vt (x f).1 v) (fb f + vo (x f).1 v) p := by
  have hf := Nat.le_refl f
  have hw := hL
  obtain ⟨l0, l1, l2, l3, l4, l5, l6, l7, l8, l9⟩ := hL
  refine ⟨dr_ok hy.1 hz16 l0 (fun r π w => kLt hy hJ hw) (fun r π σ q => q), fun v p v4 g3 g4 => ?_⟩
  obtain ⟨r1, r2⟩ := hJ.2.2.2.2.2.2.1 f hf v v4 g3
  refine ⟨(f, v), [], ⟨rfl, v4⟩, r1.symm, (l3 f hf v v4 g3).symm, fun ρ s q1 q2 q3 q4 => ?_⟩
  have i1 := qA_in (c := fun _ => 0) (a := 0) hy.1 q2 (qN_M q1)
  have i2 := hz16 (vt (x f).1 v)
  have i3 := hy.1.1 s
  have i4 := qA_sh (z := z) (c := c) (c2 := fun _ => 0) (a := 0) (b := 0) q2 (qN_M q1)
  refine l7 f hf v v4 g3 ρ s q1 q2 q3 ?_
  rw [show qA y z c (vt (x f).1 v) 0 ρ = qA y z (fun _ => 0) (vt (x f).1 v) 0 ρ by omega]
  exact g4 _ (by omega) q4
theorem kNoJ (hJ : kJ y vt tb f x rt V) {j u : Nat} (h : 40 + wl (x j).2.1 ≤ u) (h3 : u < 300) (π : lLc) : V (j, u) π = none := by
  cases e : V (j, u) π with
  | none => rfl
  | some w =>
    obtain ⟨-, q, -⟩ := hJ.2.2.2.2.2.1 j u π w e
    rcases q with ⟨q, -⟩ | ⟨q1, q2⟩ | ⟨q, -⟩ | ⟨r, m, i, -, q, -⟩ <;> omega
/-- a frame ends: what is left of its cells -/
theorem qMm_ret (hy : kYs y z vt vo vc) (hJ : kJ y vt tb (f + 1) x rt V) (hL : kL y z vt vo vc hp tk c (f + 1) x rt ra V fb top fil) {e : tE} {O : List tE} (hS : (x (f + 1)).2.1 = e :: O) (hk0 : kNm e) (hO : ∀ a : tE, a ∈ O → ∃ v : Nat, a = (8, v, 0)) (hl : wl (x f).2.1 < 211) (hrt : rt (f + 1, 40) = T) (hra : ra (f + 1, 40) = fb (f + 1) + vc (x (f + 1)).1) (htk : ∀ k : Nat, tk k → ¬ drB y z c rt ra V (fun r _ => r.1 = f + 1 ∧ r.2 < 40) k → tk2 k) (hc1 : ∀ i : Nat, i < z.1 T → c2 (fb (f + 1) + i) = c (fb (f + 1) + vc (x (f + 1)).1 + i)) (hc2 : ∀ k : Nat, ¬ (fb (f + 1) ≤ k ∧ k < fb (f + 1) + z.1 T) → c2 k = c k) : qMm y z hp tk2 c2 (qRt rt (f, 40 + wl (x f).2.1) T) (qRt ra (f, 40 + wl (x f).2.1) (fb (f + 1))) (kRv V f (40 + wl (x f).2.1) (V (f + 1, 40))) ∧ ∀ (r : Nat × Nat) (π : lLc) (w : Nat × Nat), r.1 ≤ f → V r π = some w → c2 (qA y z c (rt r) (ra r) π) = c (qA y z c (rt r) (ra r) π) := by
  have ht := kTopF hL
  have wO : wl O = 0 := wl_8 hO
  have wS : wl (x (f + 1)).2.1 = 1 := by rw [hS, wl_n hk0, wO]
  have hd : ∀ π : lLc, V (f, 40 + wl (x f).2.1) π = none := fun π => kNoJ hJ (Nat.le_refl _) (by omega) π
  have ds : ∀ (r : Nat × Nat) (π : lLc) (w : Nat × Nat), V r π = some w → r ≠ (f, 40 + wl (x f).2.1) := fun r π w hw q => by
    rw [q, hd] at hw; simp at hw
  -- the roots of the last frame
  have rf : ∀ (r : Nat × Nat) (π : lLc) (w : Nat × Nat), V r π = some w → ¬ (r.1 = f + 1 ∧ r.2 < 40) → r = (f + 1, 40) ∨ r.1 ≤ f := fun r π w hw hn => by
    obtain ⟨a, b⟩ := r
    obtain ⟨q1, q, -⟩ := hJ.2.2.2.2.2.1 a b π w hw
    by_cases e9 : a = f + 1
    · subst e9
      left
      rcases q with ⟨q, -⟩ | ⟨q1, q2⟩ | ⟨-, r, m, q⟩ | ⟨r, m, i, q, -⟩
      · exact absurd ⟨rfl, q⟩ hn
      · rw [show b = 40 by omega]
      · exfalso
        rcases q with q | q
        · rw [hS] at q
          rcases List.mem_cons.mp q with q | q
          · exact hk0 (Or.inr (Or.inr (Or.inl (by rw [← q]))))
          · obtain ⟨v, q⟩ := hO _ q
            injection q with q
            exact absurd q (by decide)
        · rw [hS] at q
          rcases List.mem_cons.mp q with q | q
          · exact hk0 (Or.inr (Or.inr (Or.inr (by rw [← q]))))
          · obtain ⟨v, q⟩ := hO _ q
            injection q with q
            exact absurd q (by decide)
      · exfalso
        rw [hS] at q
        rcases List.mem_cons.mp q with q | q
        · exact hk0 (Or.inr (Or.inl (by rw [← q])))
        · obtain ⟨v, q⟩ := hO _ q
          injection q with q
          exact absurd q (by decide)
    · right
      show a ≤ f
      omega
  have lo : ∀ (r : Nat × Nat) (π : lLc) (w : Nat × Nat), V r π = some w → r.1 ≤ f → ra r + z.1 (rt r) ≤ fb (f + 1) := fun r π w hw hr => (kTop hy.1 hy.2.1 hy.2.2.1 hJ hL hw).2.2.1 (by omega)
  have ap : ∀ (r : Nat × Nat) (π : lLc) (w : Nat × Nat), V r π = some w → r.1 ≤ f → ¬ (fb (f + 1) ≤ qA y z c (rt r) (ra r) π ∧ qA y z c (rt r) (ra r) π < fb (f + 1) + z.1 T) := fun r π w hw hr => qFresh hy.1 hL.1 ht.1 hw (Or.inl (lo r π w hw hr))
  refine ⟨?_, fun r π w hr hw => hc2 _ (ap r π w hw hr)⟩
  have q0 : qMm y z hp tk2 c rt ra (fun r => if r.1 = f + 1 ∧ r.2 < 40 then fun _ => none else V r) := qMm_subT hL.1 (fun r => by
    show qOk y (rt r) (if r.1 = f + 1 ∧ r.2 < 40 then fun _ => none else V r)
    by_cases e9 : r.1 = f + 1 ∧ r.2 < 40
    · rw [if_pos e9]; exact qOk_none
    · rw [if_neg e9]; exact hL.1.1 r) (fun r π w hw => by
    have hw : (if r.1 = f + 1 ∧ r.2 < 40 then fun _ => none else V r) π = some w := hw
    by_cases e9 : r.1 = f + 1 ∧ r.2 < 40
    · rw [if_pos e9] at hw; simp at hw
    · rw [if_neg e9] at hw; exact hw) (fun r π t g b hv k4 hb => by
    have hv : (if r.1 = f + 1 ∧ r.2 < 40 then fun _ => none else V r) π = some (t, g) := hv
    by_cases e9 : r.1 = f + 1 ∧ r.2 < 40
    · rw [if_pos e9] at hv; simp at hv
    · rw [if_neg e9] at hv
      exact dr_tk hL.1 htk hv k4 e9 hb)
  generalize hV1 : (fun r : Nat × Nat => if r.1 = f + 1 ∧ r.2 < 40 then (fun _ => none : qV) else V r) = V1 at q0
  have v1 : ∀ (r : Nat × Nat) (π : lLc) (w : Nat × Nat), V1 r π = some w → V r π = some w ∧ ¬ (r.1 = f + 1 ∧ r.2 < 40) := fun r π w hw => by
    rw [← hV1] at hw
    have hw : (if r.1 = f + 1 ∧ r.2 < 40 then fun _ => none else V r) π = some w := hw
    by_cases e9 : r.1 = f + 1 ∧ r.2 < 40
    · rw [if_pos e9] at hw; simp at hw
    · rw [if_neg e9] at hw; exact ⟨hw, e9⟩
  have v2 : ∀ r : Nat × Nat, ¬ (r.1 = f + 1 ∧ r.2 < 40) → V1 r = V r := fun r hn => by
    rw [← hV1]; exact if_neg hn
  have vs : V1 (f + 1, 40) = V (f + 1, 40) := v2 _ (fun q => Nat.lt_irrefl 40 q.2)
  have hsd : ((f + 1, 40) : Nat × Nat) ≠ (f, 40 + wl (x f).2.1) := fun q => by injection q with q _; omega
  have q1 : qMm y z hp tk2 c (qRt rt (f, 40 + wl (x f).2.1) T) (qRt ra (f, 40 + wl (x f).2.1) (fb (f + 1))) V1 := qMm_em q0 (fun r => by
    by_cases e9 : r = (f, 40 + wl (x f).2.1)
    · subst e9
      exact Or.inl (fun π => by
        cases e : V1 (f, 40 + wl (x f).2.1) π with
        | none => rfl
        | some w => have := (v1 _ _ _ e).1; rw [hd] at this; simp at this)
    · exact Or.inr ⟨qRt_ne e9, qRt_ne e9⟩)
  have q2 := qMv (c2 := c2) hy.1 q1 (s := (f + 1, 40)) (d := (f, 40 + wl (x f).2.1)) (σ := []) (ρ := []) (T1 := T) (Vs := fun _ => none) hsd (by rw [qRt_ne hsd]; exact hrt.symm) (by rw [qRt_eq]; rfl) qOk_none (fun π w hw => by simp at hw) (by
      rw [qRt_eq, qG_nil, ← hrt]
      show qOk y _ (V1 (f + 1, 40))
      rw [vs]; exact hL.1.1 _) (fun ρ1 j ρ2 e9 => by simp at e9) (fun r π w hw _ hs => by
      obtain ⟨g1, g2⟩ := v1 r π w hw
      have hr := ds r π w g1
      rw [qRt_eq, qRt_eq, qRt_ne hr, qRt_ne hr]
      show ¬ (fb (f + 1) ≤ _ ∧ _ < fb (f + 1) + z.1 T)
      rcases rf r π w g1 g2 with e9 | e9
      · have hs := hs e9 ⟨π, rfl⟩
        obtain ⟨t9, g9⟩ := w
        obtain ⟨w1, w2, -⟩ := (hL.1.1 r).1 π t9 g9 g1
        rcases qN_last π with nπ | ⟨π1, i, π2, rfl, nπ⟩
        · exact absurd nπ hs
        · have := qEndH hy.1 hL.1 w1 nπ (qPl_of g1)
          have := hy.1.1 t9
          omega
      · exact ap r π w g1 e9) (by rw [qRt_eq, qRt_eq]; exact hc2) (by
      rw [qRt_eq, qRt_eq, qRt_ne hsd, qRt_ne hsd]
      show ∀ i : Nat, i < z.1 T → c2 (fb (f + 1) + i) = c (ra (f + 1, 40) + i)
      rw [hra]; exact hc1) (by rw [qRt_eq]; exact ht.1) (fun r π w hr hw => Or.inl (by
      rw [qRt_eq, qRt_ne hr, qRt_ne hr]
      by_cases e9 : r = (f + 1, 40)
      · rw [e9, qUp_eq] at hw; simp at hw
      · rw [qUp_ne e9] at hw
        obtain ⟨g1, g2⟩ := v1 r π w hw
        exact lo r π w g1 ((rf r π w g1 g2).resolve_left e9)))
  rw [qG_nil] at q2
  refine qMm_sub q2 (fun r => ?_) (fun r π w hw => ?_)
  · unfold kRv
    by_cases e9 : r.1 = f + 1
    · rw [if_pos e9]; exact qOk_none
    · rw [if_neg e9]
      by_cases e8 : r = (f, 40 + wl (x f).2.1)
      · rw [if_pos e8, e8, qRt_eq, ← hrt]; exact hL.1.1 _
      · rw [if_neg e8, qRt_ne e8]; exact hL.1.1 r
  · unfold kRv at hw
    by_cases e9 : r.1 = f + 1
    · rw [if_pos e9] at hw; simp at hw
    · rw [if_neg e9] at hw
      by_cases e8 : r = (f, 40 + wl (x f).2.1)
      · rw [if_pos e8] at hw
        rw [e8, qUp_eq]
        show V1 (f + 1, 40) ([] ++ π) = some w
        rw [vs]; exact hw
      · rw [if_neg e8] at hw
        rw [qUp_ne e8, qUp_ne (fun q => e9 (by rw [q])), v2 r (fun q => e9 q.1)]
        exact hw
/-- what the caller's frame keeps -/
theorem lIv_ret (hJ : kJ y vt tb (f + 1) x rt V) {t : Nat} {hd : Nat → Prop} {e : tE} {al2 : Nat → Prop} {lo2 : Nat → lLc → Prop} (he : kNm e) (hal : ∀ u : Nat, al2 u → kal (x f) u) : lIv f (tb (x f).1) (kAn (x f)) (kfr y (qRt rt (f, 40 + wl (x f).2.1) t) f ((x f).1, e :: (x f).2.1, 0, lUp (kR (x f)) (40 + wl (x f).2.1) none, lUp (kH (x f)) (40 + wl (x f).2.1) hd, al2, lo2, kAn (x f))) := by
  have hne : ∀ (u : Nat) (a : lLc), lUp (kR (x f)) (40 + wl (x f).2.1) none u = some a → u ≠ 40 + wl (x f).2.1 ∧ kR (x f) u = some a := fun u a ha => by
    by_cases c : u = 40 + wl (x f).2.1
    · rw [c, lUp_eq] at ha; simp at ha
    · rw [lUp_ne c] at ha; exact ⟨c, ha⟩
  refine lIv_mono2 (hJ.2.1.1 f (by omega)) (fun u a hu ha => ?_) (fun u a l hu ha hl => ?_) (fun u a hu ha => ?_)
  · obtain ⟨g1, g2⟩ := hne u a ha
    refine ⟨?_, g2⟩
    rcases hu with ⟨h1, h2⟩ | ⟨h1, h2⟩
    · exact Or.inl ⟨h1, hal u h2⟩
    · have h2 : u < 40 + wl (e :: (x f).2.1) + 0 := h2
      rw [wl_n he] at h2
      exact Or.inr ⟨h1, by show u < 40 + wl (x f).2.1 + (x f).2.2.1; omega⟩
  · show lUp (kH (x f)) (40 + wl (x f).2.1) hd u l
    rw [lUp_ne (hne u a ha).1]; exact hl
  · show y.1 (qRt rt (f, 40 + wl (x f).2.1) t (f, u)) = 6 ↔ y.1 (rt (f, u)) = 6
    rw [qRt_ne (fun q => (hne u a ha).1 (by injection q))]
/-- return of a value that is no reference -/
theorem kS_ret1 (hy : kYs y z vt vo vc) (hz16 : ∀ t : Nat, z.1 t ≤ 16) (h : kS y z vt vo vc tb hp tk c (f + 1) x fb top fil) {O : List tE} {m : Nat} (hS : (x (f + 1)).2.1 = (0, T, m) :: O) (hO : ∀ a : tE, a ∈ O → ∃ v : Nat, a = (8, v, 0)) (hl : wl (x f).2.1 < 211) (hT : T ≠ 0) {al2 : Nat → Prop} {lo2 : Nat → lLc → Prop} (hal : ∀ u : Nat, al2 u → kal (x f) u) (hlo : ∀ (w : Nat) (π : lLc), ¬ lo2 w π → ¬ klo (x f) w π) : ∃ (P : Nat → Nat → Int32 → Prop) (B : Nat → Prop), drC y z c hp top P B ∧ (∀ (v : Nat) (p : Int32), v < 40 → (8, v, 0) ∈ (x (f + 1)).2.1 → (∀ k : Nat, k < 16 → ibit p k = true → fil (f + 1) v k) → P (vt (x (f + 1)).1 v) (fb (f + 1) + vo (x (f + 1)).1 v) p) ∧ ∀ (tk2 : Nat → Prop) (c2 : Nat → Int) (fil2 : Nat → Nat → Nat → Prop), (∀ k : Nat, tk k → ¬ B k → tk2 k) → (∀ i : Nat, i < z.1 T → c2 (fb (f + 1) + i) = c (fb (f + 1) + vc (x (f + 1)).1 + i)) → (∀ k : Nat, ¬ (fb (f + 1) ≤ k ∧ k < fb (f + 1) + z.1 T) → c2 k = c k) → (∀ j : Nat, j ≤ f → fil2 j = fil j) → kS y z vt vo vc tb hp tk2 c2 f (kUx x f ((x f).1, (0, T, 0) :: (x f).2.1, 0, lUp (kR (x f)) (40 + wl (x f).2.1) none, kH (x f), al2, lo2, kAn (x f))) fb (fb (f + 1) + z.1 T) fil2 := by
  obtain ⟨rt, ra, V, hJ, hL⟩ := h
  have hf := Nat.le_refl (f + 1)
  have hk0 : kNm (0, T, m) := by unfold kNm; simp
  have hk1 : kNm (0, T, 0) := by unfold kNm; simp
  have wO : wl O = 0 := wl_8 hO
  have hK := hJ.2.2.2.2.1 (f + 1) hf
  rw [hS] at hK
  obtain ⟨⟨k1, k2, k3, k4, k5⟩, -⟩ := hK
  rw [wO] at k1 k4
  obtain ⟨r1, r2⟩ := k4 hT
  have hA := hL.2.2.1 (f + 1) hf
  rw [hS] at hA
  have a1 := hA.1 hT
  rw [wO, khs_8 hO] at a1
  have a1 : ra (f + 1, 40) = fb (f + 1) + vc (x (f + 1)).1 := a1
  obtain ⟨p1, p2⟩ := kS_vdr hy hz16 hJ hL
  refine ⟨_, _, p1, p2, fun tk2 c2 fil2 htk hc1 hc2 hfl => ?_⟩
  obtain ⟨q, hc⟩ := qMm_ret (tk2 := tk2) (c2 := c2) hy hJ hL hS hk0 hO hl r1 a1 htk hc1 hc2
  have hWk : qOk y T (V (f + 1, 40)) := by
    have := hL.1.1 (f + 1, 40)
    rw [show rt (f + 1, 40) = T from r1] at this; exact this
  have j := kJ_ret (t := T) (W := V (f + 1, 40)) (ro := none) (hd := kH (x f) (40 + wl (x f).2.1)) (al2 := al2) (lo2 := lo2) hJ hk1 hl hal hlo hWk (fun _ w hw => by
    obtain ⟨a, b⟩ := w
    have e9 : a = T := (hWk.1 [] a b hw).1
    show y.1 a ≠ 5 ∧ y.1 a ≠ 6
    rw [e9]; exact ⟨k2, k3⟩) (lIv_ret hJ hk1 hal) (fun a q => by simp at q) ⟨lUp_eq, k2, k3, fun _ => ⟨qRt_eq, by rw [kRv_eq]; exact r2⟩, fun q => absurd q hT⟩
  have l := kL_ret (tk2 := tk2) (c2 := c2) (e := (0, T, 0)) (t := T) (W := V (f + 1, 40)) (ro := none) (hd := kH (x f) (40 + wl (x f).2.1)) (al2 := al2) (lo2 := lo2) hJ hL hk1 hal q hc (fun _ => qRt_eq) (fun a q => by simp at q)
  rw [lUp_self] at j l
  rw [show kes z (0, T, 0) = z.1 T from if_neg hT] at l
  exact ⟨_, _, _, j, kL_fil l hfl⟩
/-- return of nothing -/
theorem kS_ret0 (hy : kYs y z vt vo vc) (hz16 : ∀ t : Nat, z.1 t ≤ 16) (h : kS y z vt vo vc tb hp tk c (f + 1) x fb top fil) (hO : (∀ a : tE, a ∈ (x (f + 1)).2.1 → ∃ v : Nat, a = (8, v, 0)) ∨ ∃ (m : Nat) (O : List tE), (x (f + 1)).2.1 = (0, 0, m) :: O ∧ ∀ a : tE, a ∈ O → ∃ v : Nat, a = (8, v, 0)) (hl : wl (x f).2.1 < 211) (hy0 : y.1 0 = 0) {al2 : Nat → Prop} {lo2 : Nat → lLc → Prop} (hal : ∀ u : Nat, al2 u → kal (x f) u) (hlo : ∀ (w : Nat) (π : lLc), ¬ lo2 w π → ¬ klo (x f) w π) : ∃ (P : Nat → Nat → Int32 → Prop) (B : Nat → Prop), drC y z c hp top P B ∧ (∀ (v : Nat) (p : Int32), v < 40 → (8, v, 0) ∈ (x (f + 1)).2.1 → (∀ k : Nat, k < 16 → ibit p k = true → fil (f + 1) v k) → P (vt (x (f + 1)).1 v) (fb (f + 1) + vo (x (f + 1)).1 v) p) ∧ ∀ (tk2 : Nat → Prop) (fil2 : Nat → Nat → Nat → Prop), (∀ k : Nat, tk k → ¬ B k → tk2 k) → (∀ j : Nat, j ≤ f → fil2 j = fil j) → kS y z vt vo vc tb hp tk2 c f (kUx x f ((x f).1, (0, 0, 0) :: (x f).2.1, 0, lUp (kR (x f)) (40 + wl (x f).2.1) none, kH (x f), al2, lo2, kAn (x f))) fb (fb (f + 1)) fil2 := by
  obtain ⟨rt, ra, V, hJ, hL⟩ := h
  have hk1 : kNm (0, 0, 0) := by unfold kNm; simp
  have ht := kTopF hL
  obtain ⟨p1, p2⟩ := kS_vdr hy hz16 hJ hL
  refine ⟨_, _, p1, p2, fun tk2 fil2 htk hfl => ?_⟩
  have hno : ∀ (r m : Nat), (4, r, m) ∉ (x (f + 1)).2.1 ∧ (5, r, m) ∉ (x (f + 1)).2.1 ∧ (6, r, m) ∉ (x (f + 1)).2.1 := fun r m => by
    have key : ∀ e : tE, e ∈ (x (f + 1)).2.1 → e.1 = 8 ∨ e.1 = 0 := fun e he => by
      rcases hO with g | ⟨m9, O, g1, g2⟩
      · obtain ⟨v, q⟩ := g e he; rw [q]; exact Or.inl rfl
      · rw [g1] at he
        rcases List.mem_cons.mp he with q | q
        · rw [q]; exact Or.inr rfl
        · obtain ⟨v, q⟩ := g2 e q; rw [q]; exact Or.inl rfl
    refine ⟨fun q => ?_, fun q => ?_, fun q => ?_⟩ <;> (have := key _ q; simp at this)
  have wS : ∀ (u : Nat) (π : lLc) (w : Nat × Nat), V (f + 1, u) π = some w → u < 40 := fun u π w hw => by
    obtain ⟨-, q, -⟩ := hJ.2.2.2.2.2.1 (f + 1) u π w hw
    rcases q with ⟨q, -⟩ | ⟨q1, q2⟩ | ⟨-, r, m, q⟩ | ⟨r, m, i, q, -⟩
    · exact q
    · rcases hO with g | ⟨m9, O, g1, g2⟩
      · rw [wl_8 g] at q2; omega
      · have hk2 : kNm (0, 0, m9) := by unfold kNm; simp
        rw [g1, wl_n hk2, wl_8 g2] at q2
        have hK := hJ.2.2.2.2.1 (f + 1) (Nat.le_refl _)
        rw [g1] at hK
        obtain ⟨⟨k1, k2, k3, k4, k5⟩, -⟩ := hK
        rw [wl_8 g2] at k5
        rw [show u = 40 by omega, k5 rfl] at hw
        simp at hw
    · rcases q with q | q
      · exact absurd q (hno r m).2.1
      · exact absurd q (hno r m).2.2
    · exact absurd q (hno r m).1
  have hd : ∀ π : lLc, V (f, 40 + wl (x f).2.1) π = none := fun π => kNoJ hJ (Nat.le_refl _) (by omega) π
  have kv : ∀ (r : Nat × Nat) (π : lLc) (w : Nat × Nat), kRv V f (40 + wl (x f).2.1) (fun _ => none) r π = some w → V r π = some w ∧ r.1 ≠ f + 1 ∧ r ≠ (f, 40 + wl (x f).2.1) := fun r π w hw => by
    unfold kRv at hw
    by_cases e9 : r.1 = f + 1
    · rw [if_pos e9] at hw; simp at hw
    · rw [if_neg e9] at hw
      by_cases e8 : r = (f, 40 + wl (x f).2.1)
      · rw [if_pos e8] at hw; simp at hw
      · rw [if_neg e8] at hw; exact ⟨hw, e9, e8⟩
  have q : qMm y z hp tk2 c (qRt rt (f, 40 + wl (x f).2.1) 0) (qRt ra (f, 40 + wl (x f).2.1) (fb (f + 1))) (kRv V f (40 + wl (x f).2.1) (fun _ => none)) := by
    refine qMm_em (rt := rt) (ra := ra) (qMm_subT hL.1 (fun r => ?_) (fun r π w hw => (kv r π w hw).1) (fun r π t g b hv k4 hb => dr_tk hL.1 htk (kv r π _ hv).1 k4 (fun q => (kv r π _ hv).2.1 q.1) hb)) (fun r => ?_)
    · unfold kRv
      by_cases e9 : r.1 = f + 1
      · rw [if_pos e9]; exact qOk_none
      · rw [if_neg e9]
        by_cases e8 : r = (f, 40 + wl (x f).2.1)
        · rw [if_pos e8]; exact qOk_none
        · rw [if_neg e8]; exact hL.1.1 r
    · by_cases e8 : r = (f, 40 + wl (x f).2.1)
      · subst e8
        exact Or.inl (fun π => by rw [kRv_eq])
      · exact Or.inr ⟨qRt_ne e8, qRt_ne e8⟩
  have j := kJ_ret (e := (0, 0, 0)) (t := 0) (W := fun _ => none) (ro := none) (hd := kH (x f) (40 + wl (x f).2.1)) (al2 := al2) (lo2 := lo2) hJ hk1 hl hal hlo qOk_none (fun _ w hw => by simp at hw) (lIv_ret hJ hk1 hal) (fun a q => by simp at q) ⟨lUp_eq, by rw [hy0]; decide, by rw [hy0]; decide, fun q => absurd rfl q, fun _ π => by rw [kRv_eq]⟩
  have l := kL_ret (tk2 := tk2) (c2 := c) (e := (0, 0, 0)) (t := 0) (W := fun _ => none) (ro := none) (hd := kH (x f) (40 + wl (x f).2.1)) (al2 := al2) (lo2 := lo2) hJ hL hk1 hal q (fun _ _ _ _ _ => rfl) (fun q => absurd rfl q) (fun a q => by simp at q)
  rw [lUp_self] at j l
  exact ⟨_, _, _, j, kL_fil l hfl⟩
end
end
-- f0.se.lean.txt
section
section
variable {y : qY} {z : qZ} {vt vo : Nat → Nat → Nat} {vc : Nat → Nat} {tb : Nat → lTb} {hp : Nat} {tk tk2 : Nat → Prop} {c c2 : Nat → Int} {f : Nat} {x : Nat → kFm} {rt ra : Nat × Nat → Nat} {V V2 : Nat × Nat → qV} {fb : Nat → Nat} {top : Nat} {fil fil2 : Nat → Nat → Nat → Prop} {v T o : Nat} {ρ σ : lLc} {os : List Nat}
/-- return of a reference -/
theorem kS_retR (hy : kYs y z vt vo vc) (hz16 : ∀ t : Nat, z.1 t ≤ 16) (h : kS y z vt vo vc tb hp tk c (f + 1) x fb top fil) {k U m t n : Nat} {ou : Nat → Nat} {O : List tE} (hS : (x (f + 1)).2.1 = (k, U, m) :: O) (hO : ∀ a : tE, a ∈ O → ∃ v : Nat, a = (8, v, 0)) (hl : wl (x f).2.1 < 211) (hU : U < 10000) (hkt : (k = 1 ∧ t = 10000 + 2 * U) ∨ (k = 2 ∧ t = 10001 + 2 * U)) (hxn : (x f).2.2.1 = n) (hAn : kAn (x (f + 1)) = kAo y (vt (x (f + 1)).1) (kR (x f)) (wl (x f).2.1) n ou) (hx1 : (x (f + 1)).2.2.1 = 0) {al2 : Nat → Prop} {lo2 : Nat → lLc → Prop} {hd : Nat → Prop} (hal : ∀ u : Nat, al2 u → kal (x f) u) (hlo : ∀ (w : Nat) (π : lLc), ¬ lo2 w π → ¬ klo (x f) w π) (hck : ∀ l : Nat, kH (x (f + 1)) 40 l → ¬ (tb (x (f + 1)).1).2.2.2.1 l → (8, (tb (x (f + 1)).1).1 l, 0) ∈ O → (tb (x (f + 1)).1).2.2.2.2 ((tb (x (f + 1)).1).1 l)) (hcl : ∀ i : Nat, i < n → kH (x (f + 1)) 40 (ou i) → ∀ l : Nat, kH (x f) (40 + wl (x f).2.1 + i) l → hd l) : ∃ (P : Nat → Nat → Int32 → Prop) (B : Nat → Prop), drC y z c hp top P B ∧ (∀ (v : Nat) (p : Int32), v < 40 → (8, v, 0) ∈ (x (f + 1)).2.1 → (∀ k : Nat, k < 16 → ibit p k = true → fil (f + 1) v k) → P (vt (x (f + 1)).1 v) (fb (f + 1) + vo (x (f + 1)).1 v) p) ∧ ∀ (tk2 : Nat → Prop) (c2 : Nat → Int) (fil2 : Nat → Nat → Nat → Prop), (∀ k : Nat, tk k → ¬ B k → tk2 k) → c2 (fb (f + 1)) = c (fb (f + 1) + vc (x (f + 1)).1) → (∀ k : Nat, k ≠ fb (f + 1) → c2 k = c k) → (∀ j : Nat, j ≤ f → fil2 j = fil j) → ∃ a : lLc, kS y z vt vo vc tb hp tk2 c2 f (kUx x f ((x f).1, (k, U, 0) :: (x f).2.1, 0, lUp (kR (x f)) (40 + wl (x f).2.1) (some a), lUp (kH (x f)) (40 + wl (x f).2.1) hd, al2, lo2, kAn (x f))) fb (fb (f + 1) + 1) fil2 := by
  obtain ⟨rt, ra, V, hJ, hL⟩ := h
  have hf := Nat.le_refl (f + 1)
  have hcr := hy.2.2.2.1 U hU
  have hk0 : kNm (k, U, m) := by
    rcases hkt with ⟨rfl, -⟩ | ⟨rfl, -⟩ <;> (unfold kNm; simp)
  have hk1 : kNm (k, U, 0) := by
    rcases hkt with ⟨rfl, -⟩ | ⟨rfl, -⟩ <;> (unfold kNm; simp)
  have wO : wl O = 0 := wl_8 hO
  have wS : wl (x (f + 1)).2.1 = 1 := by rw [hS, wl_n hk0, wO]
  have h56 : (y.1 t = 5 ∨ y.1 t = 6) ∧ y.2.1 t = U ∧ z.1 t = 1 := by
    rcases hkt with ⟨-, e⟩ | ⟨-, e⟩
    · rw [e]; exact ⟨Or.inl hcr.1, hcr.2.1, (hy.2.1.2 U).1⟩
    · rw [e]; exact ⟨Or.inr hcr.2.2.1, hcr.2.2.2, (hy.2.1.2 U).2⟩
  obtain ⟨h56, eU, hz1⟩ := h56
  have hK := hJ.2.2.2.2.1 (f + 1) hf
  rw [hS] at hK
  have hK1 : rt (f + 1, 40) = t ∧ ∃ w : Nat × Nat, V (f + 1, 40) [] = some w := by
    have q := hK.1
    rw [wO] at q
    rcases hkt with ⟨rfl, e⟩ | ⟨rfl, e⟩
    · rw [e]; exact q
    · rw [e]; exact q
  obtain ⟨r1, ⟨t9, g9⟩, r2⟩ := hK1
  have hA := hL.2.2.1 (f + 1) hf
  rw [hS] at hA
  have a1 : ra (f + 1, 40) = fb (f + 1) + vc (x (f + 1)).1 := by
    have q := hA.1
    rw [wO, khs_8 hO] at q
    rcases hkt with ⟨rfl, -⟩ | ⟨rfl, -⟩
    · exact q
    · exact q
  have hWk : qOk y t (V (f + 1, 40)) := by rw [← r1]; exact hL.1.1 _
  have e9 : t9 = t := (hWk.1 [] t9 g9 r2).1
  have hks : kA (x (f + 1)) 40 := Or.inr ⟨by omega, by omega⟩
  obtain ⟨a, ea⟩ := hJ.2.2.2.1 (f + 1) hf 40 t9 g9 r2 (by rw [e9]; exact h56) hks
  obtain ⟨-, htg⟩ := hJ.2.2.1 (f + 1) hf 40 a hks ea
  have htg : qTg y rt V a (y.2.1 (rt (f + 1, 40))) := htg
  rw [r1] at htg
  have hla := hL.2.1 (f + 1) hf 40 a (Or.inl hks) ea ⟨_, r2⟩
  obtain ⟨p1, p2⟩ := kS_vdr hy hz16 hJ hL
  refine ⟨_, _, p1, p2, fun tk2 c2 fil2 htk hc1 hc2 hfl => ?_⟩
  obtain ⟨q, hc⟩ := qMm_ret (tk2 := tk2) (c2 := c2) hy hJ hL hS hk0 hO hl r1 a1 htk (by
    rw [hz1]
    intro i hi
    obtain rfl : i = 0 := by omega
    exact hc1) (by
    rw [hz1]
    intro k hk
    exact hc2 k (by omega))
  have ok := (hJ.2.1.1 (f + 1) hf).1 40 a hks ea
  have key : ∃ (i : Nat) (e : lLc) (q : Nat), i < n ∧ kH (x (f + 1)) 40 (ou i) ∧ kR (x f) (40 + wl (x f).2.1 + i) = some e ∧ lP e a ∧ (y.1 t = 6 → y.1 (rt (f, 40 + wl (x f).2.1 + i)) = 6) ∧ lUn (f + 1) e := by
    rcases ok with ⟨l, n1, n2, n3, n4, n5⟩ | ⟨o, e, q, o1, o2, o3, o4, o5, o6⟩
    · exfalso
      obtain ⟨s, n4⟩ := n4
      obtain ⟨d, π, e1, d1, d2, d3⟩ := htg
      rw [n4] at e1
      have e1 : (f + 1, (tb (x (f + 1)).1).1 l) :: ((tb (x (f + 1)).1).2.1 l ++ s) = d :: π := e1
      injection e1 with e1 e2
      obtain ⟨σ, w, hw⟩ := qF_pl d3
      rw [← e1] at hw d1
      obtain ⟨-, kr, -⟩ := hJ.2.2.2.2.2.1 (f + 1) _ _ w hw
      have d1 : (tb (x (f + 1)).1).1 l < 40 := d1
      have hin : (8, (tb (x (f + 1)).1).1 l, 0) ∈ (x (f + 1)).2.1 := by
        rcases kr with ⟨-, kr⟩ | ⟨k1, k2⟩ | ⟨k1, -⟩ | ⟨r, m, i, -, k1, -⟩
        · exact kr
        · omega
        · omega
        · omega
      rw [hS] at hin
      rcases List.mem_cons.mp hin with g | g
      · exact hk0 (Or.inl (by rw [← g]))
      · exact n3 (hck l n2 n1 g)
    · have o3' := o3
      have o3' : kAn (x (f + 1)) o e q := o3'
      rw [hAn] at o3'
      obtain ⟨i, i1, i2, i3, i4⟩ := o3'
      refine ⟨i, e, q, i1, by rw [← i2]; exact o2, i3, o4, fun h6 => ?_, o6⟩
      have q1 : q = 1 := o5 (by show y.1 (rt (f + 1, 40)) = 6; rw [r1]; exact h6)
      obtain ⟨t', t40, tA, tR, tU⟩ := hJ.2.1.2.2 f (by omega) o e q o3
      have tU := tU q1
      by_cases et : t' = 40 + wl (x f).2.1 + i
      · rw [← et]; exact tU
      · exfalso
        have twA : (kfr y rt f (x f)).2.1 (40 + wl (x f).2.1 + i) := Or.inr ⟨by omega, by omega⟩
        rcases (hJ.2.1.1 f (by omega)).2 t' (40 + wl (x f).2.1 + i) e e et tA twA tR i3 (Or.inl tU) (Or.inl (lP_rf e)) with g | g
        · have := g.1; omega
        · have := g.1; omega
  obtain ⟨i, e, q9, i1, i2, i3, i4, i5, i6⟩ := key
  have hbw := lBw_res (A2 := fun u => (u < 40 ∧ al2 u) ∨ (40 ≤ u ∧ u < 40 + wl (x f).2.1)) (t := 40 + wl (x f).2.1) (w := 40 + wl (x f).2.1 + i) (c := a) (un := y.1 t = 6) (hd := hd) (hJ.2.1.1 f (by omega)) (fun u hu => by
    rcases hu with ⟨g1, g2⟩ | ⟨g1, g2⟩
    · exact ⟨Or.inl ⟨g1, hal u g2⟩, by omega⟩
    · exact ⟨Or.inr ⟨g1, by omega⟩, by omega⟩) (by omega) (Or.inr ⟨by omega, by omega⟩) i3 i5 (hcl i i1 i2) i4
  obtain ⟨b1, b2⟩ := hbw
  have lnew := lIv_new (A2 := fun u => (u < 40 ∧ al2 u) ∨ (40 ≤ u ∧ u < 40 + wl (x f).2.1)) (t := 40 + wl (x f).2.1) (a := a) (hd := hd) (un := y.1 t = 6) (hJ.2.1.1 f (by omega)) (fun u hu _ => by
    rcases hu with ⟨g1, g2⟩ | ⟨g1, g2⟩
    · exact Or.inl ⟨g1, hal u g2⟩
    · exact Or.inr ⟨g1, by omega⟩) b1 (fun u hu _ => b2 u hu)
  have lv : lIv f (tb (x f).1) (kAn (x f)) (kfr y (qRt rt (f, 40 + wl (x f).2.1) t) f ((x f).1, (k, U, 0) :: (x f).2.1, 0, lUp (kR (x f)) (40 + wl (x f).2.1) (some a), lUp (kH (x f)) (40 + wl (x f).2.1) hd, al2, lo2, kAn (x f))) := by
    refine lIv_mono2 lnew (fun u b hu hb => ⟨?_, hb⟩) (fun u b l hu hb hl => hl) (fun u b hu hb => ?_)
    · rcases hu with ⟨g1, g2⟩ | ⟨g1, g2⟩
      · exact Or.inl (Or.inl ⟨g1, g2⟩)
      · have g2 : u < 40 + wl ((k, U, 0) :: (x f).2.1) + 0 := g2
        rw [wl_n hk1] at g2
        by_cases e8 : u = 40 + wl (x f).2.1
        · exact Or.inr e8
        · exact Or.inl (Or.inr ⟨g1, by omega⟩)
    · show y.1 (qRt rt (f, 40 + wl (x f).2.1) t (f, u)) = 6 ↔ lUp (fun u => y.1 (rt (f, u)) = 6) (40 + wl (x f).2.1) (y.1 t = 6) u
      by_cases e8 : u = 40 + wl (x f).2.1
      · rw [e8, qRt_eq, lUp_eq]
      · rw [qRt_ne (fun q => e8 (by injection q)), lUp_ne e8]
  have hlow : ∃ (j v : Nat) (s : lLc), a = (j, v) :: s ∧ j ≤ f := by
    obtain ⟨j, v, r, e1, e2⟩ := i6
    obtain ⟨s, e3⟩ := i4
    refine ⟨j, v, r ++ s, ?_, by omega⟩
    rw [e3, e1]; rfl
  have j := kJ_ret (e := (k, U, 0)) (t := t) (W := V (f + 1, 40)) (ro := some a) (hd := hd) (al2 := al2) (lo2 := lo2) hJ hk1 hl hal hlo hWk (fun g => by simp at g) lv (fun b g => by
    injection g with g
    rw [← g]
    exact ⟨h56, htg, hlow⟩) (by
    rcases hkt with ⟨rfl, e8⟩ | ⟨rfl, e8⟩
    · exact ⟨by rw [qRt_eq]; exact e8, by rw [kRv_eq]; exact ⟨_, r2⟩⟩
    · exact ⟨by rw [qRt_eq]; exact e8, by rw [kRv_eq]; exact ⟨_, r2⟩⟩)
  have l := kL_ret (tk2 := tk2) (c2 := c2) (e := (k, U, 0)) (t := t) (W := V (f + 1, 40)) (ro := some a) (hd := hd) (al2 := al2) (lo2 := lo2) hJ hL hk1 hal q hc (by
    rcases hkt with ⟨rfl, -⟩ | ⟨rfl, -⟩
    · exact qRt_eq
    · exact qRt_eq) (fun b g => by
    injection g with g
    rw [← g]
    exact ⟨htg, hlow, by rw [hc1, ← a1]; exact hla⟩)
  have ek : kes z (k, U, 0) = 1 := by
    rcases hkt with ⟨rfl, -⟩ | ⟨rfl, -⟩ <;> rfl
  rw [ek] at l
  exact ⟨a, _, _, _, j, kL_fil l hfl⟩
/-- the top frame's variables, at the end of main -/
theorem kS_end (hy : kYs y z vt vo vc) (hz16 : ∀ t : Nat, z.1 t ≤ 16) (h : kS y z vt vo vc tb hp tk c f x fb top fil) : ∃ (P : Nat → Nat → Int32 → Prop) (B : Nat → Prop), drC y z c hp top P B ∧ ∀ (v : Nat) (p : Int32), v < 40 → (8, v, 0) ∈ (x f).2.1 → (∀ k : Nat, k < 16 → ibit p k = true → fil f v k) → P (vt (x f).1 v) (fb f + vo (x f).1 v) p := by
  obtain ⟨rt, ra, V, hJ, hL⟩ := h
  obtain ⟨p1, p2⟩ := kS_vdr hy hz16 hJ hL
  exact ⟨_, _, p1, p2⟩
/-- main begins -/
theorem kS_ini {g : Nat} {H : Nat → Nat → Prop} {al : Nat → Prop} {lo : Nat → lLc → Prop} (hx : x 0 = (g, [], 0, (fun _ => none), H, al, lo, fun _ _ _ => False)) : kS y z vt vo vc tb hp tk c 0 x (fun _ => hp) (hp + vc g) fil := by
  refine ⟨fun _ => 0, fun _ => 0, fun _ _ => none, ⟨fun _ => qOk_none, ⟨fun j hj => ?_, fun o e q => ?_, fun j hj => absurd hj (by omega)⟩, fun j hj u a _ ha => ?_, fun j hj u t g hv => by simp at hv, fun j hj => ?_, fun j u π w hw => by simp at hw, fun j hj v v4 hv => ?_, fun j hj r m => ?_, fun j hj => ?_⟩, ?_⟩
  · obtain rfl : j = 0 := by omega
    refine ⟨fun u a _ ha => ?_, fun u w a b _ _ _ ha => ?_⟩
    · have ha : kR (x 0) u = some a := ha
      rw [hx] at ha
      exact absurd ha (by show ¬ ((none : Option lLc) = some a); simp)
    · have ha : kR (x 0) u = some a := ha
      rw [hx] at ha
      exact absurd ha (by show ¬ ((none : Option lLc) = some a); simp)
  · show ¬ kAn (x 0) o e q
    rw [hx]; exact id
  · obtain rfl : j = 0 := by omega
    rw [hx] at ha
    exact absurd ha (by show ¬ ((none : Option lLc) = some a); simp)
  · obtain rfl : j = 0 := by omega
    rw [hx]; exact trivial
  · obtain rfl : j = 0 := by omega
    rw [hx] at hv
    exact absurd hv (by show ¬ (_ ∈ ([] : List tE)); simp)
  · obtain rfl : j = 0 := by omega
    rw [hx]
    exact ⟨fun q => absurd q (by show ¬ (_ ∈ ([] : List tE)); simp), fun q => absurd q (by show ¬ (_ ∈ ([] : List tE)); simp)⟩
  · obtain rfl : j = 0 := by omega
    rw [hx]; show wl [] ≤ 211; decide
  · refine ⟨⟨fun _ => qOk_none, fun r π t g hv => by simp at hv, fun r π t g r2 π2 t2 g2 b b2 hv => by simp at hv, fun r π w hv => by simp at hv, fun r r2 π π2 w w2 _ hv => by simp at hv⟩, fun j hj u a _ ha hw => ?_, fun j hj => ?_, fun j hj v v4 hv => ?_, rfl, fun j hj => absurd hj (by omega), ?_, fun j hj v v4 hv => ?_, fun j u π w _ hw => by simp at hw, fun j hj r m hm => ?_⟩
    · obtain ⟨w, hw⟩ := hw
      simp at hw
    · obtain rfl : j = 0 := by omega
      rw [hx]; exact trivial
    · obtain rfl : j = 0 := by omega
      rw [hx] at hv
      exact absurd hv (by show ¬ (_ ∈ ([] : List tE)); simp)
    · show hp + vc g = hp + vc (x 0).1 + khs z (x 0).2.1
      rw [hx]; rfl
    · obtain rfl : j = 0 := by omega
      rw [hx] at hv
      exact absurd hv (by show ¬ (_ ∈ ([] : List tE)); simp)
    · obtain rfl : j = 0 := by omega
      rw [hx] at hm
      exact absurd hm (by show ¬ (_ ∈ ([] : List tE)); simp)
end
end
-- f1.k1.lean.txt
section
theorem lnSd_1 {n L : Nat} {s t : lnT} {rv : Int32} (h : lnSd n L s t rv) : t.1 = s.1 := h.1
theorem lnPo_1 {k : Nat} {s t : lnT} (h : lnPo k s t) : t.1 = s.1 := by
  obtain ⟨x, h1, h2⟩ := h
  rw [h2]; rfl
theorem lnSw_1 {F : tF} {n tb : Nat} : ∀ {k : Nat} {s t : lnT}, lnSw F n tb k s t → t.1 = s.1
  | 0, s, t, h => by
    have h : t = s := h
    rw [h]
  | k + 1, s, t, h => by
    obtain ⟨u, L, rv, h1, h2, h3, h4⟩ := h
    exact (lnSd_1 h4).trans (lnSw_1 h1)
theorem lnLk_1 {F : tF} {C : lnC} {Q : lnQ} {i : Nat} {s t : lnT} : ∀ o : Nat, o < 33 → o ≠ 24 → o ≠ 25 → o ≠ 26 → o ≠ 29 → o ≠ 30 → o ≠ 32 → lnLk F C Q i s t o → t.1 = s.1
  | 0, _, _, _, _, _, _, _, h => by
    obtain ⟨gt, tn2, h1, rfl⟩ := h
    rfl
  | 1, _, _, _, _, _, _, _, h => by
    obtain ⟨gt, tn2, h1, rfl⟩ := h
    rfl
  | 2, _, _, _, _, _, _, _, h => by
    obtain ⟨p, v, u, h1, h2, h3, h4, rfl, h5⟩ := h
    rcases h5 with ⟨-, gt, tn2, h6, rfl⟩ | ⟨-, gt, tn2, h6, rfl⟩
    · rfl
    · rfl
  | 3, _, _, _, _, _, _, _, h => by
    obtain ⟨p, v, u, h1, h2, h3, h4, rfl, h5⟩ := h
    rcases h5 with ⟨-, gt, tn2, h6, rfl⟩ | ⟨-, gt, tn2, h6, rfl⟩
    · rfl
    · rfl
  | 4, _, _, _, _, _, _, _, h => by
    obtain ⟨p, v, b, x, gt, tn2, h1, h2, h3, h4, h5, h6, h7, h8, rfl⟩ := h
    rfl
  | 5, _, _, _, _, _, _, _, h => by
    have h : t = s := h
    rw [h]
  | 6, _, _, _, _, _, _, _, h => by
    have h : t = s := h
    rw [h]
  | 7, _, _, _, _, _, _, _, h => lnPo_1 h
  | 8, _, _, _, _, _, _, _, h => by
    have h : t = s := h
    rw [h]
  | 9, _, _, _, _, _, _, _, h => by
    obtain ⟨gt, tn2, h1, rfl⟩ := h
    rfl
  | 10, _, _, _, _, _, _, _, h => lnPo_1 h
  | 11, _, _, _, _, _, _, _, h => by
    obtain ⟨gt, tn2, h1, rfl⟩ := h
    rfl
  | 12, _, _, _, _, _, _, _, h => by
    obtain ⟨n, h1, h2, h3⟩ := h
    exact lnPo_1 h3
  | 13, _, _, _, _, _, _, _, h => by
    have h : t = s := h
    rw [h]
  | 14, _, _, _, _, _, _, _, h => by
    have h : t = s := h
    rw [h]
  | 15, _, _, _, _, _, _, _, h => by
    obtain ⟨L, u, rv, q1, q2, q3, rfl⟩ := h
    have e : u.1 = s.1 := lnSd_1 q3
    exact e
  | 16, _, _, _, _, _, _, _, h => by
    obtain ⟨L, u, rv, q1, q2, q3, rfl⟩ := h
    have e : u.1 = s.1 := lnSd_1 q3
    exact e
  | 17, _, _, _, _, _, _, _, h => by
    obtain ⟨L, u, rv, q1, q2, q3, q4⟩ := h
    exact (lnSd_1 q4).trans (lnPo_1 q3)
  | 18, _, _, _, _, _, _, _, h => by
    obtain ⟨L, u, rv, q1, q2, q3, q4⟩ := h
    exact (lnSd_1 q4).trans (lnPo_1 q3)
  | 19, _, _, _, _, _, _, _, h => by
    obtain ⟨L, u, rv, q1, q2, q3, q4⟩ := h
    exact (lnSd_1 q4).trans (lnPo_1 q3)
  | 20, _, _, _, _, _, _, _, h => by
    obtain ⟨tb, c, u, v, q1, q2, q3, q4, q5, q6, rfl⟩ := h
    have e : v.1 = u.1 := lnSw_1 q6
    exact e.trans (lnPo_1 q5)
  | 21, _, _, _, _, _, _, _, h => by
    obtain ⟨g, h1, h2, n, x, t1, gt, tn2, q1, q2, q3, q4, rfl⟩ := h
    rfl
  | 22, _, _, _, _, _, _, _, h => by
    obtain ⟨x, f1, g6, g8, h1, h2, h3, rfl⟩ := h
    rfl
  | 23, _, _, _, _, _, _, _, h => by
    have h : t = s := h
    rw [h]
  | 24, _, e, _, _, _, _, _, _ => absurd rfl e
  | 25, _, _, e, _, _, _, _, _ => absurd rfl e
  | 26, _, _, _, e, _, _, _, _ => absurd rfl e
  | 27, _, _, _, _, _, _, _, h => lnPo_1 h
  | 28, _, _, _, _, _, _, _, h => lnPo_1 h
  | 29, _, _, _, _, e, _, _, _ => absurd rfl e
  | 30, _, _, _, _, _, e, _, _ => absurd rfl e
  | 31, _, _, _, _, _, _, _, h => by
    have h : t = s := h
    rw [h]
  | 32, _, _, _, _, _, _, e, _ => absurd rfl e
  | n + 33, h, _, _, _, _, _, _, _ => absurd h (by omega)
theorem lbit_lt {x : Int64} {l : Nat} (h : lbit x l = true) : l < 64 := by
  rcases Nat.lt_or_ge l 64 with q | q
  · exact q
  · unfold lbit at h
    rw [BitVec.getLsbD_of_ge _ _ q] at h
    exact absurd h (by decide)
theorem lS_b {x y : Int64} {l : Nat} (h : lS x y) (hb : lbit x l = true) : lbit y l = true := h l (lbit_lt hb) hb
theorem bt_bv {b : Nat} (h : b < 64) : (bt b).toBitVec = BitVec.ofNat 64 (2 ^ b) := by
  apply BitVec.eq_of_getLsbD_eq
  intro k hk
  have e := lbit_bt b k h hk
  unfold lbit at e
  rw [e, BitVec.getLsbD_ofNat, Nat.testBit_two_pow]
  have : decide (k < 64) = true := decide_eq_true hk
  rw [this, Bool.true_and]
  by_cases q : k = b
  · rw [decide_eq_true q, decide_eq_true q.symm]
  · rw [decide_eq_false q, decide_eq_false (fun z => q z.symm)]
theorem bt_rng {v0 v1 u : Nat} (h : v0 ≤ v1) (h1 : v1 ≤ 40) (hu : u < 64) : lbit (bt v1 - bt v0) u = (decide (v0 ≤ u) && decide (u < v1)) := by
  have p0 : 2 ^ v0 ≤ 2 ^ v1 := Nat.pow_le_pow_right (by decide) h
  have p1 : 2 ^ v1 ≤ 2 ^ 40 := Nat.pow_le_pow_right (by decide) h1
  have e : (bt v1 - bt v0).toBitVec = BitVec.ofNat 64 ((2 ^ (v1 - v0) - 1) * 2 ^ v0) := by
    rw [Int64.toBitVec_sub, bt_bv (by omega), bt_bv (by omega)]
    apply BitVec.eq_of_toNat_eq
    rw [BitVec.toNat_sub, BitVec.toNat_ofNat, BitVec.toNat_ofNat, BitVec.toNat_ofNat]
    have e2 : (2 ^ (v1 - v0) - 1) * 2 ^ v0 = 2 ^ v1 - 2 ^ v0 := by
      rw [Nat.sub_mul, ← Nat.pow_add, Nat.one_mul, show v1 - v0 + v0 = v1 by omega]
    rw [e2]
    rw [Nat.mod_eq_of_lt (show 2 ^ v0 < 2 ^ 64 by omega), Nat.mod_eq_of_lt (show 2 ^ v1 < 2 ^ 64 by omega)]
    omega
  unfold lbit
  rw [e, BitVec.getLsbD_ofNat, tb_rng, decide_eq_true hu, Bool.true_and, show v0 + (v1 - v0) = v1 by omega]
theorem uaF_up {F : tF} {ua : Nat → Int64} {i : Nat} {x : Int64} : ∀ o : Nat, o < 33 → o ≠ 15 → o ≠ 16 → o ≠ 20 → o ≠ 22 → o ≠ 24 → o ≠ 25 → o ≠ 26 → o ≠ 29 → o ≠ 30 → o ≠ 32 → lS x (uaF F ua i x o) := fun o h33 h15 h16 h20 h22 h24 h25 h26 h29 h30 h32 => by
  by_cases a2 : o = 2
  · subst a2; exact lS_orl _ _
  by_cases a3 : o = 3
  · subst a3; exact lS_orl _ _
  by_cases a4 : o = 4
  · subst a4; exact lS_orl _ _
  by_cases a17 : o = 17
  · subst a17; exact lS_orl _ _
  by_cases a18 : o = 18
  · subst a18; exact lS_orl _ _
  by_cases a19 : o = 19
  · subst a19; exact lS_orl _ _
  rcases (show o = 0 ∨ o = 1 ∨ o = 5 ∨ o = 6 ∨ o = 7 ∨ o = 8 ∨ o = 9 ∨ o = 10 ∨ o = 11 ∨ o = 12 ∨ o = 13 ∨ o = 14 ∨ o = 21 ∨ o = 23 ∨ o = 27 ∨ o = 28 ∨ o = 31 by omega) with rfl | rfl | rfl | rfl | rfl | rfl | rfl | rfl | rfl | rfl | rfl | rfl | rfl | rfl | rfl | rfl | rfl <;> exact lS_rf _
theorem uaF_v {F : tF} {ua : Nat → Int64} {i p v : Nat} {x : Int64} {o : Nat} (ho : o = 2 ∨ o = 3 ∨ o = 4) (h1 : F 1 i = nI p) (hp : p < 3001) (h6 : F 6 p = nI v) (hv : v < 40) : lbit (uaF F ua i x o) v = true := by
  have e : uaF F ua i x o = x ||| bt v := by
    rcases ho with rfl | rfl | rfl
    · show x ||| bt (cN (F 6 (cN (F 1 i)))) = _
      rw [h1, cN_nI (by omega), h6, cN_nI (by omega)]
    · show x ||| bt (cN (F 6 (cN (F 1 i)))) = _
      rw [h1, cN_nI (by omega), h6, cN_nI (by omega)]
    · show x ||| bt (cN (F 6 (cN (F 1 i)))) = _
      rw [h1, cN_nI (by omega), h6, cN_nI (by omega)]
  rw [e, lbit_or, lbit_bt v v (by omega) (by omega), decide_eq_true rfl, Bool.or_true]
theorem lb_cut {x : Int64} {u v : Nat} (hv : v < 40) (hu : lbit x u = true) (h : u ≠ v) : lbit (x &&& (bt v ^^^ -1)) u = true := by
  have hu6 := lbit_lt hu
  rw [lbit_and, hu, lbit_not _ _ hu6, lbit_bt v u (by omega) hu6, decide_eq_false h]; rfl
theorem uaF_k {F : tF} {ua : Nat → Int64} {i v u : Nat} {x : Int64} {o : Nat} (ho : o = 24 ∨ o = 25 ∨ o = 29 ∨ o = 30) (h1 : F 1 i = nI v) (hv : v < 40) (hu : lbit x u = true) (h : u ≠ v) : lbit (uaF F ua i x o) u = true := by
  have e : uaF F ua i x o = x &&& (bt v ^^^ -1) := by
    rcases ho with rfl | rfl | rfl | rfl
    · show x &&& (bt (cN (F 1 i)) ^^^ -1) = _
      rw [h1, cN_nI (by omega)]
    · show x &&& (bt (cN (F 1 i)) ^^^ -1) = _
      rw [h1, cN_nI (by omega)]
    · show x &&& (bt (cN (F 1 i)) ^^^ -1) = _
      rw [h1, cN_nI (by omega)]
    · show x &&& (bt (cN (F 1 i)) ^^^ -1) = _
      rw [h1, cN_nI (by omega)]
  rw [e]; exact lb_cut hv hu h
theorem uaF_s {F : tF} {ua : Nat → Int64} {i v0 v1 u : Nat} {x : Int64} (h1 : F 1 i = nI v0) (h2 : F 2 i = nI v1) (hv : v0 ≤ v1) (hv4 : v1 ≤ 40) (hu : lbit x u = true) (h : u < v0 ∨ v1 ≤ u) : lbit (uaF F ua i x 32) u = true := by
  have hu6 := lbit_lt hu
  have e : uaF F ua i x 32 = x &&& ((bt v1 - bt v0) ^^^ -1) := by
    show x &&& ((bt (cN (F 2 i)) - bt (cN (F 1 i))) ^^^ -1) = _
    rw [h1, h2, cN_nI (by omega), cN_nI (by omega)]
  rw [e, lbit_and, hu, lbit_not _ _ hu6, bt_rng hv hv4 hu6]
  rcases h with h | h
  · rw [decide_eq_false (by omega)]; rfl
  · rw [decide_eq_false (show ¬ u < v1 by omega), Bool.and_false]; rfl
theorem uaF_a {F : tF} {ua : Nat → Int64} {i p v : Nat} {x : Int64} (h1 : F 1 i = nI p) (hp : p < 3001) (h6 : F 6 p = nI v) (hv : v < 40) : (∀ u : Nat, lbit x u = true → (F 8 p = 0 → ¬ (0 : Int32) < F 9 p &&& 15 → u ≠ v) → lbit (uaF F ua i x 26) u = true) ∧ ((0 : Int32) < F 9 p &&& 15 → lbit (uaF F ua i x 26) v = true) := by
  have e : uaF F ua i x 26 = if (0 : Int32) < F 9 p &&& 15 then x ||| bt v else if F 8 p = 0 then x &&& (bt v ^^^ -1) else x := by
    show (if (0 : Int32) < F 9 (cN (F 1 i)) &&& 15 then x ||| bt (cN (F 6 (cN (F 1 i)))) else if F 8 (cN (F 1 i)) = 0 then x &&& (bt (cN (F 6 (cN (F 1 i)))) ^^^ -1) else x) = _
    rw [h1, cN_nI (by omega), h6, cN_nI (by omega)]
  rw [e]
  constructor
  · intro u hu hn
    by_cases c1 : (0 : Int32) < F 9 p &&& 15
    · rw [if_pos c1, lbit_or, hu]; rfl
    · rw [if_neg c1]
      by_cases c2 : F 8 p = 0
      · rw [if_pos c2]; exact lb_cut hv hu (hn c2 c1)
      · rw [if_neg c2]; exact hu
  · intro c1
    rw [if_pos c1, lbit_or, lbit_bt v v (by omega) (by omega), decide_eq_true rfl, Bool.or_true]
/-- a function's loans, as the running looks at them: what is held, what is used ahead, what is reached -/
abbrev lK := (Nat → Nat → Nat → Prop) × (Nat → Nat → Prop) × (Nat → Prop)
def lkp (N : lK) (i j w : Nat) (E : Nat → Prop) : Prop := N.2.2 j ∧ (∀ u l : Nat, ¬ E u → (u < 40 ∨ (40 ≤ u ∧ u < 40 + w)) → N.1 i u l → N.1 j u l) ∧ ∀ u : Nat, u < 40 → ¬ E u → N.2.1 j u → N.2.1 i u
def a2N (N : lK) (j w : Nat) (u : Nat) : Prop := (u < 40 ∧ N.2.1 j u) ∨ (40 ≤ u ∧ u < 40 + w)
/-- the rules of an instruction -/
def lRu (F : tF) (G : Nat → Nat → Nat) (tb : lTb) (rl : Nat → Int32) (pl : Nat → Nat → Int32) (me : Int32) (k : Nat → Option (List tE)) (a b : Nat) (N : lK) (i : Nat) (s : List tE) (o : Nat) : Prop :=
  ((o = 0 ∨ o = 1 ∨ o = 5 ∨ o = 6 ∨ o = 8 ∨ o = 9 ∨ o = 11 ∨ o = 23 ∨ o = 31) → lkp N i (i + 1) (wl s) (fun _ => False)) ∧
  ((o = 13 ∨ o = 14) → lkp N i (i + 1) (wl s) (fun _ => False) ∧ ∀ l : Nat, N.1 i 300 l → N.1 (i + 1) 300 l) ∧
  ((o = 7 ∨ o = 10 ∨ o = 27 ∨ o = 28 ∨ o = 17 ∨ o = 18 ∨ o = 19) → lkp N i (i + 1) (wl s - 1) (fun _ => False)) ∧
  (o = 12 → ∀ n : Nat, F 2 i = nI n → n ≤ 12 → lkp N i (i + 1) (wl s - n) (fun _ => False)) ∧
  ((o = 2 ∨ o = 3) → lkp N i (i + 1) (wl s) (fun _ => False) ∧ ∀ p v : Nat, F 1 i = nI p → p < 3001 → F 6 p = nI v → v < 40 → (tb.2.2.2.2 v → N.2.1 i v) ∧ lCk tb (N.1 i) (a2N N (i + 1) (wl s)) v (wyF F p) (o = 2) ∧ (rfB (F 20) (F 10 p) → ∀ l : Nat, N.1 i v l → N.1 (i + 1) (40 + wl s) l)) ∧
  (o = 4 → lkp N i (i + 1) (wl s) (fun _ => False) ∧ ∀ p v c : Nat, F 1 i = nI p → p < 3001 → F 6 p = nI v → v < 40 → F 2 i = nI c → c < 54 → (tb.2.2.2.2 v → N.2.1 i v) ∧ lCk tb (N.1 i) (a2N N (i + 1) (wl s)) v (wyF F p) (F 3 i ≠ 1) ∧ N.1 (i + 1) (40 + wl s) c ∧ (rfB (F 20) (F 15 v) → ∀ l : Nat, N.1 i v l → N.1 (i + 1) (40 + wl s) l)) ∧
  (o = 24 → ∀ v : Nat, F 1 i = nI v → v < 40 → lkp N i (i + 1) (wl s - 1) (fun u => u = v) ∧ ∀ l : Nat, N.1 i (40 + (wl s - 1)) l → N.1 (i + 1) v l) ∧
  ((o = 25 ∨ o = 29) → ∀ v : Nat, F 1 i = nI v → v < 40 → lkp N i (i + 1) (wl s) (fun u => u = v)) ∧
  (o = 30 → ∀ v : Nat, F 1 i = nI v → v < 40 → lkp N i (i + 1) (wl s) (fun u => u = v) ∧ (∀ l : Nat, N.1 i 300 l → N.1 (i + 1) v l) ∧ ∀ l : Nat, N.1 i 300 l → N.1 (i + 1) 300 l) ∧
  (o = 26 → ∀ p v : Nat, F 1 i = nI p → p < 3001 → F 6 p = nI v → v < 40 → (rfB (F 20) (F 10 p) → lkp N i (i + 1) (wl s - 1) (fun u => u = v) ∧ ∀ l : Nat, N.1 i (40 + (wl s - 1)) l → N.1 (i + 1) v l) ∧ (¬ rfB (F 20) (F 10 p) → N.2.2 (i + 1) ∧ (∀ u l : Nat, (u < 40 ∨ (40 ≤ u ∧ u < 40 + (wl s - 1))) → N.1 i u l → N.1 (i + 1) u l) ∧ (∀ u : Nat, u < 40 → (F 8 p = 0 → ¬ (0 : Int32) < F 9 p &&& 15 → u ≠ v) → N.2.1 (i + 1) u → N.2.1 i u) ∧ ((0 : Int32) < F 9 p &&& 15 → tb.2.2.2.2 v → N.2.1 i v) ∧ lCk tb (N.1 i) (a2N N (i + 1) (wl s - 1)) v (wyF F p) False)) ∧
  (o = 32 → ∀ v0 v1 : Nat, F 1 i = nI v0 → F 2 i = nI v1 → v0 ≤ v1 → v1 ≤ 40 → lkp N i (i + 1) (wl s) (fun u => v0 ≤ u ∧ u < v1) ∧ ∀ u l : Nat, a2N N (i + 1) (wl s) u → (u < v0 ∨ v1 ≤ u) → N.1 i u l → ¬ tb.2.2.2.1 l → v0 ≤ tb.1 l → tb.1 l < v1 → tb.2.2.2.2 (tb.1 l)) ∧
  (o = 21 → ∀ g : Nat, F 1 i = nI g → g < 40 → lkp N i (i + 1) (wl s - G g 0) (fun _ => False) ∧ (rfB (F 20) (nI (G g 1)) → ∀ q l : Nat, q < G g 0 → (rl g < 0 ∨ pl g q = rl g) → N.1 i (40 + (wl s - G g 0) + q) l → N.1 (i + 1) (40 + (wl s - G g 0)) l)) ∧
  (o = 22 → F 2 i = 1 → (∀ l : Nat, N.1 i (40 + (wl s - 1)) l → ¬ tb.2.2.2.1 l → F 18 (tb.1 l) ≤ nI i → nI i < F 19 (tb.1 l) → tb.2.2.2.2 (tb.1 l)) ∧ (rfB (F 20) (F 1 i) → ∀ r l : Nat, me = nI r → r < 8 → tb.2.2.2.1 l → N.1 i (40 + (wl s - 1)) l → l = 54 + r)) ∧
  ((o = 16 ∨ o = 17 ∨ o = 18 ∨ o = 19) → ∀ (j : Nat) (r : List tE), tJm F G k i b (F 1 i) r → k j = some r → i < j → j < b → F 0 j = 13 → F 1 j = F 1 i → lkp N i j (wl s - 1) (fun _ => False)) ∧
  (o = 15 → ∀ (j : Nat), a ≤ j → j ≤ i → F 0 j = 14 → F 1 j = F 1 i → lkp N i j 0 (fun _ => False)) ∧
  (o = 20 → ∀ (j tc g : Nat) (r : List tE), F 1 i = nI tc → tc ≤ 3002 → F 13 (tc + g) = F 1 j → i < j → j < b → F 0 j = 13 → k j = some r → nI g < F 3 i → g < 12 → lkp N i j (wl s - 1) (fun _ => False) ∧ ∀ (q sh m : Nat) (r0 : List tE), (q = 1 ∨ q = 2) → s = (q, 4 + sh, m) :: r0 → r = (q + 4, sh * 12 + g, m) :: r0 → ∀ l : Nat, N.1 i (40 + wl r0) l → N.1 j 300 l) ∧
  (o = 23 → ∀ l : Nat, N.1 i 300 l → N.1 (i + 1) 300 l)
end
-- f1.k2.lean.txt
section
def hBl (F : tF) (k : Nat → Option (List tE)) (a b l : Nat) : Prop := 54 ≤ l ∨ isB F k a b l
/-- what is held at i, out of Loans' last pass -/
def HLt (F : tF) (k : Nat → Option (List tE)) (a b n : Nat) (h : Nat → lnT) (i u l : Nat) : Prop := hBl F k a b l ∧ ((u < n ∧ lbit (cS F (fun j => lnp (h j)) i u) l = true) ∨ (40 ≤ u ∧ u < 300 ∧ lbit (lnF (h i) (u - 40)) l = true) ∨ (u = 300 ∧ ∃ (s : List tE) (q r m : Nat), k i = some s ∧ (q, r, m) ∈ s ∧ (q = 5 ∨ q = 6) ∧ (m % 64 = 0 ∨ ∃ c : Nat, c < 54 ∧ m % 64 = c + 1 ∧ lbit (lnB (h i) c) l = true)))
def lnkT (F : tF) (k : Nat → Option (List tE)) (a b n : Nat) (h : Nat → lnT) (hU : Nat → fuT) : lK := (HLt F k a b n h, fun i u => lbit (hU i).1 u = true ∧ (F 20 (cN (F 15 u)) = 5 ∨ F 20 (cN (F 15 u)) = 6), fun i => a ≤ i ∧ i < b ∧ ∃ p : Nat, crn F k h a p i)
/-- what else is known of the function -/
def lnZ (F X : tF) (G : Nat → Nat → Nat) (a b : Nat) (k : Nat → Option (List tE)) (C : lnC) (Q : lnQ) (yp yt : Nat) : Prop :=
  tbO F X yp yt ∧ (∀ w : Nat, w < 40 → F 15 w ≠ -1 → ∃ T0 : Nat, F 15 w = nI T0 ∧ tyV yp yt (F 20) T0) ∧
  (∃ (pof : Nat → Int32) (lon : Nat → Int64), (C.2.2.2.1, C.2.1, C.2.2.1) = gaS F pof lon a (b - a)) ∧
  (∀ i : Nat, a ≤ i → i < b → F 0 i = 4 → ∃ p v l : Nat, F 1 i = nI p ∧ p < 3001 ∧ F 6 p = nI v ∧ v < 40 ∧ F 2 i = nI l ∧ l < 54) ∧
  (∀ i j : Nat, a ≤ i → i < b → a ≤ j → j < b → F 0 i = 4 → F 0 j = 4 → F 2 i = F 2 j → i = j) ∧
  (∀ j l : Nat, a ≤ j → j < b → F 0 j = 4 → F 2 j = nI l → l < 54 → l < C.2.2.2.2.1) ∧
  C.2.2.2.2.1 ≤ 54 ∧ k b = none ∧ (∀ t : Nat, t < yt → Q.1 t = F 20 t) ∧ (∀ v : Nat, v < C.2.2.2.2.2 → Q.2.1 v = F 15 v ∧ Q.2.2.1 v = F 18 v ∧ Q.2.2.2.1 v = F 19 v) ∧
  (∀ v : Nat, v < 40 → F 15 v ≠ -1 → v < C.2.2.2.2.2) ∧ (∀ v i : Nat, v < 40 → i < 6000 → F 18 v = nI i → v < C.2.2.2.2.2) ∧
  (∀ g : Nat, g < 40 → G g 1 < 3040 → g < Q.2.2.2.2.2.1 ∧ Q.2.2.2.2.2.2.1 g 5 = nI (G g 1) ∧ G g 1 < yt)
section
variable {F X : tF} {G : Nat → Nat → Nat} {rs a b yp yt : Nat} {k : Nat → Option (List tE)} {C : lnC} {Q : lnQ} {h : Nat → lnT} {hU : Nat → fuT} {i o p : Nat} {s : List tE}
theorem ft_b (w : lnW F X G rs a b k C Q h) (hkb : k b = none) (hi : a ≤ i) (hb : i < b) (hs : k i = some s) (ho : F 0 i = nI o) (h33 : o < 33) (hn : nu o ∨ o = 13 ∨ o = 14) : i + 1 < b ∧ ∃ r : List tE, k (i + 1) = some r := by
  cases e9 : k (i + 1) with
  | some r =>
    refine ⟨?_, r, rfl⟩
    rcases Nat.lt_or_ge (i + 1) b with q | q
    · exact q
    · rw [show i + 1 = b by omega, hkb] at e9; simp at e9
  | none =>
    exfalso
    have q := iOp_nx e9 o (ce_op w.ce hi hb hs ho h33)
    rcases hn with hn | hn
    · rcases q with z | z | z | z
      · exact hn.1 z
      · exact hn.2.1 z
      · exact hn.2.2.1 z
      · exact hn.2.2.2 z
    · omega
/-- an instruction that the next one follows -/
theorem ft_n (w : lnW F X G rs a b k C Q h) (h54 : C.2.2.2.2.1 ≤ 54) (hf : (h b).2.2.2.2.2.1 < 0) (hkb : k b = none) (hi : a ≤ i) (hb : i < b) (hc : crn F k h a p i) (hs : k i = some s) (ho : F 0 i = nI o) (h33 : o < 33) (hl : ¬ isL (F 0 i)) : lnN (h i) = wl s ∧ wl s ≤ 211 ∧ lnLk F C Q i (h i) (h (i + 1)) o ∧ lnO F C Q i (h i) o ∧ cS F (fun j => lnp (h j)) i = (h i).1 ∧ po F G i o ≤ wl s ∧ (∀ m : Nat, m < wl s - po F G i o → lnF (h (i + 1)) m = lnF (h i) m) ∧ (psh o = 1 → ∃ x : Int64, psR (lnF (h i)) (lnN (h i) - po F G i o) x (lnF (h (i + 1))) (lnN (h (i + 1)))) ∧ cA F (fun j => lnp (h j)) i ∧ (nu o → i + 1 < b ∧ crn F k h a p (i + 1) ∧ ∀ v l : Nat, v < C.2.2.2.2.2 → lbit ((h (i + 1)).1 v) l = true → lbit (cS F (fun j => lnp (h j)) (i + 1) v) l = true) := by
  obtain ⟨c1, s2, c2, c3⟩ := crn_T w (i - p) i (by have := hc.2.1; omega) hb hc
  obtain rfl : s = s2 := some_i (hs.symm.trans c2)
  have hal : (h i).2.2.2.1 ≠ 0 := (cA_n (h := fun j => lnp (h j)) hl).mp c1
  obtain ⟨o2, h332, ho2, q1, q2, q3, q4, q5⟩ := lnW_1 w hi hb hl hal hs
  obtain rfl : o = o2 := nI_33 h33 h332 (ho.symm.trans ho2)
  obtain ⟨-, q6⟩ := lnW_O w h54 hf hi hb hl c1 ho h33
  have hv : wl s ≤ 211 := Nat.le_trans wl_vl_le (w.v211 i s hi hb hs)
  refine ⟨c3, hv, q1, q6, cS_n (h := fun j => lnp (h j)) hl, q2, fun m hm => ?_, fun q => ?_, c1, fun hn => ?_⟩
  · rcases q5 with ⟨-, -, q⟩ | ⟨-, x, q⟩
    · rw [q]
    · rcases q with ⟨-, -, q⟩ | ⟨-, -, q⟩
      · rw [q, pk_uLn (by omega)]
      · rw [q]
  · rcases q5 with ⟨z, -⟩ | ⟨-, z⟩
    · omega
    · exact z
  · obtain ⟨b1, r, b2⟩ := ft_b w hkb hi hb hs ho h33 (Or.inl hn)
    obtain ⟨f1, f2⟩ := c_fall (le := lS) (h := fun j => lnp (h j)) lS_rf (lnW_p w) (ce_lb w.ce) hi b1 c1 (fun _ => ⟨o, h33, ho, hn⟩)
    refine ⟨b1, ⟨hc.1, by have := hc.2.1; omega, hc.2.2.1, hc.2.2.2.1, fun m m1 m2 => ?_⟩, fun v l hv9 hb9 => lS_b (f2 v hv9) hb9⟩
    by_cases e : m = i
    · rw [e]; exact Or.inr ⟨o, h33, ho, hn⟩
    · exact hc.2.2.2.2 m m1 (by omega)
/-- the same behind it, but for some variables -/
theorem ft_k (w : lnW F X G rs a b k C Q h) (h54 : C.2.2.2.2.1 ≤ 54) (hf : (h b).2.2.2.2.2.1 < 0) (hkb : k b = none) (hi : a ≤ i) (hb : i < b) (hc : crn F k h a p i) (hs : k i = some s) (ho : F 0 i = nI o) (h33 : o < 33) (hl : ¬ isL (F 0 i)) (hn : nu o) {E : Nat → Prop} {m : Nat} (hm : m ≤ wl s - po F G i o) (hE : ∀ u : Nat, u < C.2.2.2.2.2 → ¬ E u → (h (i + 1)).1 u = (h i).1 u) (hU1 : ∀ u : Nat, u < 40 → ¬ E u → lbit (hU (i + 1)).1 u = true → lbit (hU i).1 u = true) : lkp (lnkT F k a b C.2.2.2.2.2 h hU) i (i + 1) m E := by
  obtain ⟨n1, n2, n3, n4, n5, n6, n7, n8, n9, n10⟩ := ft_n w h54 hf hkb hi hb hc hs ho h33 hl
  obtain ⟨m1, m2, m3⟩ := n10 hn
  have h40 := w.n40
  refine ⟨⟨by omega, m1, p, m2⟩, fun u l hu hw9 hH => ?_, fun u u4 hu hb9 => ⟨hU1 u u4 hu hb9.1, hb9.2⟩⟩
  obtain ⟨g1, g2⟩ := hH
  refine ⟨g1, ?_⟩
  rcases g2 with ⟨g2, g3⟩ | ⟨g2, g3, g4⟩ | ⟨g2, g3⟩
  · left
    refine ⟨g2, m3 u l g2 ?_⟩
    rw [hE u g2 hu]
    rw [n5] at g3
    exact g3
  · right; left
    refine ⟨g2, g3, ?_⟩
    rw [n7 (u - 40) (by omega)]; exact g4
  · clear g3
    omega
theorem isL_o (ho : F 0 i = nI o) (h33 : o < 33) (hn : o ≠ 13 ∧ o ≠ 14) : ¬ isL (F 0 i) := fun q => by
  rw [ho] at q
  rcases isL_nI h33 q with z | z
  · exact hn.1 z
  · exact hn.2 z
theorem fu_up (ht : ∀ i : Nat, a ≤ i → i < b → fuR F i (hU (i + 1)) (hU i)) (hi : a ≤ i) (hb : i < b) (ho : F 0 i = nI o) (h33 : o < 33) : (hU i).1 = uaF F (hU (i + 1)).2.1 i (hU (i + 1)).1 o := by
  obtain ⟨o2, ho2, h332, e9⟩ := ht i hi hb
  obtain rfl : o = o2 := nI_33 h33 h332 (ho.symm.trans ho2)
  rw [e9]
/-- a label -/
theorem ft_l (w : lnW F X G rs a b k C Q h) (ht : ∀ i : Nat, a ≤ i → i < b → fuR F i (hU (i + 1)) (hU i)) (hkb : k b = none) (hi : a ≤ i) (hb : i < b) (hc : crn F k h a p i) (hs : k i = some s) (ho : F 0 i = nI o) (h33 : o < 33) (ho2 : o = 13 ∨ o = 14) : lkp (lnkT F k a b C.2.2.2.2.2 h hU) i (i + 1) (wl s) (fun _ => False) ∧ ∀ l : Nat, (lnkT F k a b C.2.2.2.2.2 h hU).1 i 300 l → (lnkT F k a b C.2.2.2.2.2 h hU).1 (i + 1) 300 l := by
  have hl : isL (F 0 i) := by
    rw [ho]; rcases ho2 with rfl | rfl
    · exact Or.inl rfl
    · exact Or.inr rfl
  obtain ⟨c1, s2, c2, c3⟩ := crn_T w (i - p) i (by have := hc.2.1; omega) hb hc
  obtain rfl : s = s2 := some_i (hs.symm.trans c2)
  obtain ⟨b1, -⟩ := ft_b w hkb hi hb hs ho h33 (Or.inr ho2)
  have hsn : k (i + 1) = some s := ce_l w.ce hi hb hl hs
  obtain ⟨f1, f2⟩ := c_fall (le := lS) (h := fun j => lnp (h j)) lS_rf (lnW_p w) (ce_lb w.ce) hi b1 c1 (fun q => absurd hl q)
  have e5 : (h (i + 1)).2.2.2.2 = (h i).2.2.2.2 := by
    obtain ⟨o3, ho3, h333, hr⟩ := w.tr i hi hb
    rcases hr with ⟨hl2, L, l1, l2, l3, l4, l5, hr⟩ | ⟨n13, n14, hr⟩
    · exact l5
    · obtain rfl : o = o3 := nI_33 h33 h333 (ho.symm.trans ho3)
      omega
  have eF : lnF (h (i + 1)) = lnF (h i) := by unfold lnF; rw [e5]
  have eB : lnB (h (i + 1)) = lnB (h i) := by unfold lnB; rw [e5]
  have eS : cS F (fun j => lnp (h j)) i = (h (i + 1)).1 := cS_l (h := fun j => lnp (h j)) hl
  have hcr : crn F k h a p (i + 1) := ⟨hc.1, by have := hc.2.1; omega, hc.2.2.1, hc.2.2.2.1, fun m m1 m2 => by
    by_cases e : m = i
    · rw [e]; exact Or.inl hl
    · exact hc.2.2.2.2 m m1 (by omega)⟩
  have hv : wl s ≤ 211 := Nat.le_trans wl_vl_le (w.v211 i s hi hb hs)
  have h40 := w.n40
  have key : ∀ u l : Nat, HLt F k a b C.2.2.2.2.2 h i u l → HLt F k a b C.2.2.2.2.2 h (i + 1) u l := fun u l hH => by
    obtain ⟨g1, g2⟩ := hH
    refine ⟨g1, ?_⟩
    rcases g2 with ⟨g2, g3⟩ | ⟨g2, g3, g4⟩ | ⟨g2, s3, q, r, m, g3, g4, g5, g6⟩
    · rw [eS] at g3
      exact Or.inl ⟨g2, lS_b (f2 u g2) g3⟩
    · exact Or.inr (Or.inl ⟨g2, g3, by rw [eF]; exact g4⟩)
    · refine Or.inr (Or.inr ⟨g2, s3, q, r, m, ?_, g4, g5, by rw [eB]; exact g6⟩)
      rw [hsn, ← hs]; exact g3
  refine ⟨⟨⟨by omega, b1, p, hcr⟩, fun u l _ _ => key u l, fun u u4 _ hb9 => ?_⟩, fun l => key 300 l⟩
  refine ⟨?_, hb9.2⟩
  have hb9 : lbit (hU (i + 1)).1 u = true := hb9.1
  rw [fu_up ht hi hb ho h33]
  have : uaF F (hU (i + 1)).2.1 i (hU (i + 1)).1 o = (hU (i + 1)).1 := by
    rcases ho2 with rfl | rfl <;> rfl
  rw [this]; exact hb9
/-- accesses that nothing was told of -/
theorem ft_ck (w : lnW F X G rs a b k C Q h) (zz : lnZ F X G a b k C Q yp yt) (hub : C.1 i = (hU (i + 1)).1) (hi : a ≤ i) (hb : i < b) (hl : ¬ isL (F 0 i)) {q v n T tn : Nat} {pa ro mu ms : Int32} (hpl : plI F X q v n T pa ro mu) (hac : acO F C i q v ms (h i).1 (lnF (h i)) tn) (htn : tn ≤ 211) : lCk (tbF F C.2.2.2.1 C.2.2.1) ((lnkT F k a b C.2.2.2.2.2 h hU).1 i) (a2N (lnkT F k a b C.2.2.2.2.2 h hU) (i + 1) tn) v (wyF F q) (ms = 0) := by
  obtain ⟨z1, z2, ⟨pof, lon, z3⟩, z4, z5, z6, z7, z8, z9, z10, z11, z12, z13⟩ := zz
  have hv4 : v < 40 := hpl.2.1
  have hne : F 15 v ≠ -1 := pl_ne n pa ro T mu hpl.2.2.2.1 hpl.2.2.2.2.2.2.2.2.2.2
  obtain ⟨T0, e1, e2⟩ := z2 v hv4 hne
  obtain ⟨ds, os, o9, g1, -⟩ := pG_of z1 e1 e2 hpl
  have eS : cS F (fun j => lnp (h j)) i = (h i).1 := cS_n (h := fun j => lnp (h j)) hl
  have h40 := w.n40
  refine ck_of w.ce (by omega) z1 z2 z3 z4 z5 z6 g1 hac (fun u l hu hH => ?_) (fun u l _ hH => hH.1)
  obtain ⟨-, g2⟩ := hH
  rcases g2 with ⟨g2, g3⟩ | ⟨g2, g3, g4⟩ | ⟨g2, -⟩
  · right
    refine ⟨u, g2, ?_, by rw [← eS]; exact g3⟩
    rcases hu with ⟨-, hu⟩ | ⟨hu, -⟩
    · rw [hub]; exact hu.1
    · omega
  · left
    refine ⟨u - 40, ?_, g4⟩
    rcases hu with ⟨hu, -⟩ | ⟨-, hu⟩
    · omega
    · omega
  · rcases hu with ⟨hu, -⟩ | ⟨-, hu⟩
    · omega
    · omega
end
end
