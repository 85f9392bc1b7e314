/-- a matched reference's root holds something only where it is matched on -/
theorem k300 {y : qY} {vt : Nat → Nat → Nat} {tb : Nat → lTb} {f : Nat} {x : Nat → kFm} {rt : Nat × Nat → Nat} {V : Nat × Nat → qV} (hJ : kJ y vt tb f x rt V) {j : Nat} {w : Nat × Nat} (hw : V (j, 300) [] = some w) : j = f ∧ ∃ q r m : Nat, (q = 5 ∨ q = 6) ∧ (q, r, m) ∈ (x f).2.1 ∧ kPm y rt V f (tb (x f).1) (x f) q r m := by
  obtain ⟨k0, k1, -⟩ := hJ.2.2.2.2.2.1 j 300 [] w hw
  have h8 := hJ.2.2.2.2.2.2.2.2 j k0
  rcases k1 with ⟨b1, b2⟩ | ⟨b1, b2⟩ | ⟨b1, r2, m, b2⟩ | ⟨r2, m2, i, b1, b2, b3⟩
  · omega
  · omega
  · have h7 := hJ.2.2.2.2.2.2.2.1 j k0 r2 m
    rcases b2 with b2 | b2
    · obtain ⟨rfl, hp⟩ := h7.1 b2
      exact ⟨rfl, 5, r2, m, Or.inl rfl, b2, hp⟩
    · obtain ⟨rfl, hp⟩ := h7.2 b2
      exact ⟨rfl, 6, r2, m, Or.inr rfl, b2, hp⟩
  · omega
/-- a whole place of any frame is written -/
theorem kL_as2 {y : qY} {z : qZ} {vt vo : Nat → Nat → Nat} {vc : Nat → Nat} {tb : Nat → lTb} {hp : Nat} {tk tk2 : Nat → Prop} {c c2 : Nat → Int} {f : Nat} {x : Nat → kFm} {rt ra : Nat × Nat → Nat} {V : Nat × Nat → qV} {fb : Nat → Nat} {top : Nat} {fil : Nat → Nat → Nat → Prop} (hJ : kJ y vt tb f x rt V) (h : kL y z vt vo vc hp tk c f x rt ra V fb top fil) {d : Nat × Nat} {T1 : Nat} {ρ : lLc} {W : qV} (hd4 : d.2 < 40) (hmt : ∀ r m : Nat, (5, r, m) ∉ (x f).2.1 ∧ (6, r, m) ∉ (x f).2.1) (hρ : qW y (rt d) ρ T1) (hfl : qF y (V d) ρ T1) (hW : qFu y T1 W) (hk1 : y.1 T1 ≠ 5 ∧ y.1 T1 ≠ 6) (ha : ∀ (j u : Nat) (b : lLc), j ≤ f → kA (x j) u → kR (x j) u = some b → lCmp b (d :: ρ) → lP b (d :: ρ)) (q : qMm y z hp tk2 c2 rt ra (qUp V d (qG (V d) ρ W))) (hc : ∀ (r : Nat × Nat) (π : lLc) (w : Nat × Nat), V r π = some w → ¬ (r = d ∧ lP ρ π) → c2 (qA y z c (rt r) (ra r) π) = c (qA y z c (rt r) (ra r) π)) : kL y z vt vo vc hp tk2 c2 f x rt ra (qUp V d (qG (V d) ρ W)) fb top fil := by
  obtain ⟨l0, l1, l2, l3, l4, l5, l6, l7, l8, l9⟩ := h
  have own : ∀ (j u : Nat) (w : Nat × Nat), V (j, u) [] = some w → ((j, u) = d → ρ ≠ []) → c2 (ra (j, u)) = c (ra (j, u)) := fun j u w hw hn => hc (j, u) [] w hw (fun q => by
    obtain ⟨s, e⟩ := q.2
    exact hn q.1 (List.append_eq_nil_iff.mp e.symm).1)
  refine ⟨q, fun j hj u a hu ha2 hw => ?_, fun j hj => ?_, l3, l4, l5, l6, fun j hj v v4 hv π t g1 g2 g3 g4 => ?_, fun j u π w u4 hw => ?_, l9⟩
  · have hne : ((j, u) : Nat × Nat) = d → ρ ≠ [] := fun e e2 => by
      rcases hu with hu | hu
      · have := (hJ.2.2.1 j hj u a hu ha2).1
        rw [e] at this
        have hρ2 : T1 = rt d := by rw [e2] at hρ; exact hρ
        rw [← hρ2] at this
        exact this.elim hk1.1 hk1.2
      · rw [← e] at hd4
        have hd4 : u < 40 := hd4
        omega
    have hw2 : ∃ w : Nat × Nat, V (j, u) [] = some w := by
      obtain ⟨w, hw⟩ := hw
      by_cases e : ((j, u) : Nat × Nat) = d
      · rw [e, qUp_eq, qG_out (fun q => hne e (by obtain ⟨s, e3⟩ := q; exact (List.append_eq_nil_iff.mp e3.symm).1))] at hw
        exact ⟨w, by rw [e]; exact hw⟩
      · rw [qUp_ne e] at hw; exact ⟨w, hw⟩
    have l1u := l1 j hj u a hu ha2 hw2
    obtain ⟨w, hw2⟩ := hw2
    rw [own j u w hw2 hne, l1u]
    rcases hu with hu | hu
    · refine congrArg Int.ofNat (qAd_pl hJ.1 (hJ.2.2.1 j hj u a hu ha2).2 (fun _ _ _ => ⟨rfl, rfl⟩) (fun r π π1 w e hw h5 h6 => hc r π1 w hw (fun q => h6 ?_))).symm
      have h7 := ha j u a hj hu ha2 (Or.inr (by rw [e, q.1]; exact lP_consI (lP_tr q.2 h5)))
      rw [e, q.1] at h7
      exact lP_anti h5 (lP_tr (lP_cons h7).2 q.2)
    · subst hu
      obtain ⟨rfl, q2, r2, m, b1, b2, -⟩ := k300 hJ hw2
      rcases b1 with rfl | rfl
      · exact absurd b2 (hmt r2 m).1
      · exact absurd b2 (hmt r2 m).2
  · refine kAk_cg (hJ.2.2.2.2.1 j hj) (l2 j hj) (fun _ _ => rfl) (fun u w h4 _ hw => own j u w hw (fun e => ?_))
    rw [← e] at hd4
    have hd4 : u < 40 := hd4
    omega
  · have e := qA_sh (z := z) (c := c2) (c2 := c) (a := 0) (b := 0) g2 (qN_M g1)
    obtain ⟨w, hw⟩ := l7 j hj v v4 hv π t g1 g2 g3 (by rw [← Nat.add_right_cancel e]; exact g4)
    by_cases e2 : ((j, v) : Nat × Nat) = d
    · subst e2
      rw [qUp_eq]
      exact (qQ_G hρ (by rw [(hJ.2.2.2.2.2.2.1 j hj v v4 hv).1]; exact g2) g1 hW.2 (Or.inl ⟨fun _ => ⟨w, hw⟩, fun z => absurd z g3⟩)).1 g3
    · rw [qUp_ne e2]; exact ⟨w, hw⟩
  · by_cases e2 : ((j, u) : Nat × Nat) = d
    · subst e2
      obtain ⟨τ, w2, hw2⟩ := qF_pl hfl
      exact l8 j u _ w2 u4 hw2
    · rw [qUp_ne e2] at hw
      exact l8 j u π w u4 hw
/-- a call: the arguments lie where the parameters are to be -/
theorem kL_call {y : qY} {z : qZ} {vt vo : Nat → Nat → Nat} {vc : Nat → Nat} {tb : Nat → lTb} {hp : Nat} {tk : Nat → Prop} {c : Nat → Int} {f : Nat} {x : Nat → kFm} {rt ra : Nat × Nat → Nat} {V : Nat × Nat → qV} {fb : Nat → Nat} {top : Nat} {fil fil2 : Nat → Nat → Nat → Prop} (hJ : kJ y vt tb f x rt V) (h : kL y z vt vo vc hp tk c f x rt ra V fb top fil) {g n : Nat} {E r P : List tE} {al2 : Nat → Prop} {lo2 : Nat → lLc → Prop} {H' : Nat → Nat → Prop} {al' : Nat → Prop} {lo' : Nat → lLc → Prop} {An' : Nat → lLc → Nat → Prop} (hS : (x f).2.1 = E ++ r) (hEn : wl E = n) (hn12 : n ≤ 12) (hty : ∀ i : Nat, i < n → rt (f, 40 + wl r + i) = vt g i ∧ ra (f, 40 + wl r + i) = fb f + vc (x f).1 + khs z r + vo g i ∧ qF y (V (f, 40 + wl r + i)) [] (vt g i) ∧ vt g i ≠ 0) (hal : ∀ u : Nat, al2 u → kal (x f) u) (hmt : ∀ r m : Nat, (5, r, m) ∉ (x f).2.1 ∧ (6, r, m) ∉ (x f).2.1) (hP : ∀ e : tE, e ∈ P ↔ ∃ v : Nat, e = (8, v, 0) ∧ v < n) (hf2 : ∀ j : Nat, j ≤ f → fil2 j = fil j) : kL y z vt vo vc hp tk c (f + 1) (kUx (kUx x f ((x f).1, r, n, kR (x f), kH (x f), al2, lo2, kAn (x f))) (f + 1) (g, P, 0, (fun i => if i < n then kR (x f) (40 + wl r + i) else none), H', al', lo', An')) (kCt rt (vt g) f) (kCt ra (fun i => fb f + vc (x f).1 + khs z r + vo g i) f) (kCa V f (wl r) n) (fun j => if j = f + 1 then fb f + vc (x f).1 + khs z r else fb j) (fb f + vc (x f).1 + khs z r + vc g) fil2 := by
  have hL := h
  obtain ⟨l0, l1, l2, l3, l4, l5, l6, l7, l8, l9⟩ := h
  have hf := Nat.le_refl f
  have hwl : wl (x f).2.1 = wl r + n := by rw [hS, wl_app, hEn]; omega
  have h211 := hJ.2.2.2.2.2.2.2.2 f hf
  generalize hXf : (((x f).1, r, n, kR (x f), kH (x f), al2, lo2, kAn (x f)) : kFm) = Xf
  generalize hX : ((g, P, 0, (fun i => if i < n then kR (x f) (40 + wl r + i) else none), H', al', lo', An') : kFm) = X
  generalize hra : (fun i => fb f + vc (x f).1 + khs z r + vo g i) = rg
  have hrg : ∀ i : Nat, rg i = fb f + vc (x f).1 + khs z r + vo g i := fun i => by rw [← hra]
  have xf1 : kUx (kUx x f Xf) (f + 1) X (f + 1) = X := kUx_eq
  have xff : kUx (kUx x f Xf) (f + 1) X f = Xf := by rw [kUx_ne (by omega)]; exact kUx_eq
  have xj : ∀ j : Nat, j < f → kUx (kUx x f Xf) (f + 1) X j = x j := fun j hj => by rw [kUx_ne (by omega), kUx_ne (by omega)]
  have eP : X.2.1 = P := by rw [← hX]
  have eg : X.1 = g := by rw [← hX]
  have er : Xf.2.1 = r := by rw [← hXf]
  have ef : Xf.1 = (x f).1 := by rw [← hXf]
  have fbn : (fun j => if j = f + 1 then fb f + vc (x f).1 + khs z r else fb j) (f + 1) = fb f + vc (x f).1 + khs z r := if_pos rfl
  have fbo : ∀ j : Nat, j ≤ f → (fun j => if j = f + 1 then fb f + vc (x f).1 + khs z r else fb j) j = fb j := fun j hj => if_neg (by omega)
  have hP8 : ∀ e : tE, e ∈ P → ∃ v : Nat, e = (8, v, 0) := fun e he => by
    obtain ⟨v, e1, -⟩ := (hP e).mp he
    exact ⟨v, e1⟩
  have RX : ∀ (u : Nat) (a : lLc), kR X u = some a → u < n ∧ kR (x f) (40 + wl r + u) = some a := fun u a ha => by
    rw [← hX] at ha
    have ha : (if u < n then kR (x f) (40 + wl r + u) else none) = some a := ha
    by_cases c : u < n
    · rw [if_pos c] at ha; exact ⟨c, ha⟩
    · rw [if_neg c] at ha; simp at ha
  have Aa : ∀ u : Nat, u < n → kA (x f) (40 + wl r + u) := fun u hu => Or.inr ⟨by omega, by omega⟩
  have out : ∀ e : tE, e ∈ r → e ∈ (x f).2.1 := fun e he => by rw [hS]; exact List.mem_append_right _ he
  have ads : ∀ (j u : Nat) (a : lLc), j ≤ f → kA (x j) u → kR (x j) u = some a → qAd y z c (kCt rt (vt g) f) (kCt ra rg f) a = qAd y z c rt ra a := fun j u a hj hu ha => by
    obtain ⟨i, v, w, e2, hi⟩ := lIv_fr (hJ.2.1.1 j hj) hu ha
    subst e2
    show qA y z c (kCt rt (vt g) f (i, v)) (kCt ra rg f (i, v)) w = qA y z c (rt (i, v)) (ra (i, v)) w
    rw [kCt_f (by omega), kCt_f (by omega)]
  have no3 : ∀ (j : Nat) (w : Nat × Nat), V (j, 300) [] = some w → False := fun j w hw => by
    obtain ⟨-, q2, r2, m, b1, b2, -⟩ := k300 hJ hw
    rcases b1 with rfl | rfl
    · exact (hmt r2 m).1 b2
    · exact (hmt r2 m).2 b2
  have Vo : ∀ (j u : Nat) (π : lLc) (w : Nat × Nat), j ≠ f + 1 → kCa V f (wl r) n (j, u) π = some w → V (j, u) π = some w ∧ (j = f → u < 40 + wl r ∨ 300 ≤ u) := fun j u π w hj hw => by
    rw [kCa_f hj] at hw
    by_cases e : j = f
    · subst e
      exact ⟨(kCl_some hw).2, fun _ => (kCl_some hw).1⟩
    · rw [kCl_f e] at hw
      exact ⟨hw, fun q => absurd q e⟩
  refine ⟨?_, fun j hj u a hu ha hw => ?_, fun j hj => ?_, fun j hj v v4 hv => ?_, ?_, fun j hj => ?_, ?_, fun j hj v v4 hv π t g1 g2 g3 g4 => ?_, fun j u π w u4 hw => ?_, fun j hj r1 m hm => ?_⟩
  · refine qMm_ren l0 (fun q => if q.1 = f + 1 then (f, 40 + wl r + q.2) else q) (fun q => ?_) (fun q q2 π π2 w w2 hw hw2 e => ?_)
    · obtain ⟨j, u⟩ := q
      by_cases cj : j = f + 1
      · subst cj
        by_cases cn : u < n
        · right
          show kCa V f (wl r) n (f + 1, u) = V (if f + 1 = f + 1 then (f, 40 + wl r + u) else (f + 1, u)) ∧ kCt rt (vt g) f (f + 1, u) = rt (if f + 1 = f + 1 then (f, 40 + wl r + u) else (f + 1, u)) ∧ kCt ra rg f (f + 1, u) = ra (if f + 1 = f + 1 then (f, 40 + wl r + u) else (f + 1, u))
          rw [if_pos rfl, kCa_n cn, kCt_n, kCt_n, hrg]
          exact ⟨rfl, (hty u cn).1.symm, (hty u cn).2.1.symm⟩
        · left
          intro π
          rw [kCa_o cn]
      · by_cases cl : j = f ∧ 40 + wl r ≤ u ∧ u < 300
        · left
          intro π
          rw [kCa_f cj, cl.1]
          exact kCl_in cl.2.1 cl.2.2
        · right
          show kCa V f (wl r) n (j, u) = V (if j = f + 1 then (f, 40 + wl r + u) else (j, u)) ∧ kCt rt (vt g) f (j, u) = rt (if j = f + 1 then (f, 40 + wl r + u) else (j, u)) ∧ kCt ra rg f (j, u) = ra (if j = f + 1 then (f, 40 + wl r + u) else (j, u))
          rw [if_neg cj, kCa_f cj, kCt_f cj, kCt_f cj]
          refine ⟨?_, rfl, rfl⟩
          by_cases e : j = f
          · subst e
            exact kCl_out (by omega)
          · exact kCl_f e
    · obtain ⟨j, u⟩ := q
      obtain ⟨j2, u2⟩ := q2
      have e : (if j = f + 1 then (f, 40 + wl r + u) else (j, u)) = (if j2 = f + 1 then (f, 40 + wl r + u2) else (j2, u2)) := e
      by_cases c1 : j = f + 1
      · rw [if_pos c1] at e
        by_cases c2 : j2 = f + 1
        · rw [if_pos c2] at e
          injection e with e1 e2
          rw [c1, c2, show u = u2 by omega]
        · rw [if_neg c2] at e
          injection e with e1 e2
          have := (Vo j2 u2 π2 w2 c2 hw2).2 e1.symm
          have cn : u < n := by
            by_cases cn : u < n
            · exact cn
            · rw [c1, kCa_o cn] at hw; simp at hw
          omega
      · rw [if_neg c1] at e
        by_cases c2 : j2 = f + 1
        · rw [if_pos c2] at e
          injection e with e1 e2
          have := (Vo j u π w c1 hw).2 e1
          have cn : u2 < n := by
            by_cases cn : u2 < n
            · exact cn
            · rw [c2, kCa_o cn] at hw2; simp at hw2
          omega
        · rw [if_neg c2] at e
          exact e
  · by_cases cj : j = f + 1
    · subst cj
      rw [xf1] at hu ha
      obtain ⟨u1, u2⟩ := RX u a ha
      rw [kCa_n u1] at hw
      rw [kCt_n, hrg, ← (hty u u1).2.1, ads f _ a hf (Aa u u1) u2]
      exact l1 f hf _ a (Or.inl (Aa u u1)) u2 hw
    · rw [kCt_f cj]
      obtain ⟨w, hw⟩ := hw
      have hw2 := (Vo j u [] w cj hw).1
      by_cases e : j = f
      · subst e
        rw [xff] at hu ha
        have ha2 : kR (x j) u = some a := by rw [← hXf] at ha; exact ha
        rcases hu with hu | hu
        · have hA : kA (x j) u := by
            rw [← hXf] at hu
            rcases hu with ⟨b1, b2⟩ | ⟨b1, b2⟩
            · exact Or.inl ⟨b1, hal u b2⟩
            · have b2 : u < 40 + wl r + n := b2
              exact Or.inr ⟨b1, by omega⟩
          rw [ads j u a hf hA ha2]
          exact l1 j hf u a (Or.inl hA) ha2 ⟨w, hw2⟩
        · subst hu
          exact (no3 j w hw2).elim
      · rw [xj j (by omega)] at hu ha
        rcases hu with hu | hu
        · rw [ads j u a (by omega) hu ha]
          exact l1 j (by omega) u a (Or.inl hu) ha ⟨w, hw2⟩
        · subst hu
          exact (no3 j w hw2).elim
  · by_cases cj : j = f + 1
    · subst cj
      rw [xf1, eP]
      have := (kAk_8 (y := y) (z := z) (c := c) (ra := kCt ra rg f) (j := f + 1) (B := (fun j => if j = f + 1 then fb f + vc (x f).1 + khs z r else fb j) (f + 1) + vc X.1) (S := []) hP8).mpr trivial
      rw [List.append_nil] at this
      exact this
    · rw [fbo j (by omega)]
      by_cases e : j = f
      · subst e
        rw [xff, er, ef]
        have hk := l2 j hf
        rw [hS] at hk
        have hk2 : kAk y z c ra j (fb j + vc (x j).1) r := by
          clear hS hEn out
          induction E with
          | nil => exact hk
          | cons e E ih => exact ih hk.2
        have hkk := hJ.2.2.2.2.1 j hf
        rw [hS] at hkk
        have hkk2 : kK y rt V j (x j) r := by
          clear hS hEn out hk hk2
          induction E with
          | nil => exact hkk
          | cons e E ih => exact ih hkk.2
        exact kAk_cg hkk2 hk2 (fun u _ => kCt_f cj) (fun _ _ _ _ _ => rfl)
      · rw [xj j (by omega)]
        exact kAk_cg (hJ.2.2.2.2.1 j (by omega)) (l2 j (by omega)) (fun u _ => kCt_f cj) (fun _ _ _ _ _ => rfl)
  · by_cases cj : j = f + 1
    · subst cj
      rw [xf1, eg, kCt_n, hrg, fbn]
    · rw [kCt_f cj, fbo j (by omega)]
      by_cases e : j = f
      · subst e
        rw [xff] at hv ⊢
        rw [er] at hv
        rw [ef]
        exact l3 j hf v v4 (out _ hv)
      · rw [xj j (by omega)] at hv ⊢
        exact l3 j (by omega) v v4 hv
  · rw [fbo 0 (by omega)]; exact l4
  · by_cases e : j = f
    · subst e
      rw [fbn, fbo j hf, xff, er, ef]
    · rw [fbo j (by omega), fbo (j + 1) (by omega), xj j (by omega)]
      exact l5 j (by omega)
  · rw [fbn, xf1, eg, eP, khs_8 hP8]; rfl
  · by_cases cj : j = f + 1
    · subst cj
      rw [xf1] at hv g2
      rw [eP] at hv
      rw [eg] at g2
      obtain ⟨v2, e3, e4⟩ := (hP _).mp hv
      obtain rfl : v = v2 := by injection e3 with q1 q2; injection q2
      rw [kCa_n e4]
      have := (hty v e4).2.2.1 π t g1 g2
      rw [List.nil_append] at this
      exact this.1 g3
    · rw [kCa_f cj]
      by_cases e : j = f
      · subst e
        rw [xff] at hv g2 g4
        rw [er] at hv
        rw [ef] at g2 g4
        rw [kCl_out (Or.inl (by omega))]
        rw [hf2 j hf] at g4
        exact l7 j hf v v4 (out _ hv) π t g1 g2 g3 g4
      · rw [xj j (by omega)] at hv g2 g4
        rw [kCl_f e]
        rw [hf2 j (by omega)] at g4
        exact l7 j (by omega) v v4 hv π t g1 g2 g3 g4
  · by_cases cj : j = f + 1
    · subst cj
      rw [xf1, eg]
      by_cases cn : u < n
      · exact (hty u cn).2.2.2
      · rw [kCa_o cn] at hw; simp at hw
    · have hw2 := (Vo j u π w cj hw).1
      by_cases e : j = f
      · subst e
        rw [xff, ef]
        exact l8 j u π w u4 hw2
      · have hj : j ≤ f := (hJ.2.2.2.2.2.1 j u π w hw2).1
        rw [xj j (by omega)]
        exact l8 j u π w u4 hw2
  · by_cases cj : j = f + 1
    · subst cj
      rw [xf1, eP] at hm
      obtain ⟨v, e⟩ := hP8 _ hm
      injection e with e1 e2
      exact absurd e1 (by decide)
    · by_cases e : j = f
      · subst e
        rw [xff, er] at hm
        exact l9 j hf r1 m (out _ hm)
      · rw [xj j (by omega)] at hm
        exact l9 j (by omega) r1 m hm
