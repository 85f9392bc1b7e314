/-- a return: the value lies where the called frame began -/
theorem kL_ret {y : qY} {z : qZ} {vt vo : Nat → Nat → Nat} {vc : Nat → Nat} {tb : Nat → lTb} {hp : Nat} {tk tk2 : Nat → Prop} {c c2 : Nat → Int} {f : Nat} {x : Nat → kFm} {rt ra : Nat × Nat → Nat} {V : Nat × Nat → qV} {fb : Nat → Nat} {top : Nat} {fil : Nat → Nat → Nat → Prop} (hJ : kJ y vt tb (f + 1) x rt V) (h : kL y z vt vo vc hp tk c (f + 1) x rt ra V fb top fil) {e : tE} {t : Nat} {W : qV} {ro : Option lLc} {hd : Nat → Prop} {al2 : Nat → Prop} {lo2 : Nat → lLc → Prop} (he : kNm e) (hal : ∀ u : Nat, al2 u → kal (x f) u) (q : qMm y z hp tk2 c2 (qRt rt (f, 40 + wl (x f).2.1) t) (qRt ra (f, 40 + wl (x f).2.1) (fb (f + 1))) (kRv V f (40 + wl (x f).2.1) W)) (hc : ∀ (r : Nat × Nat) (π : lLc) (w : Nat × Nat), r.1 ≤ f → V r π = some w → c2 (qA y z c (rt r) (ra r) π) = c (qA y z c (rt r) (ra r) π)) (hA : kAe y z c2 (qRt ra (f, 40 + wl (x f).2.1) (fb (f + 1))) f (fb (f + 1)) (wl (x f).2.1) e) (hro : ∀ a : lLc, ro = some a → qTg y rt V a (y.2.1 t) ∧ (∃ (j v : Nat) (s : lLc), a = (j, v) :: s ∧ j ≤ f) ∧ c2 (fb (f + 1)) = qAd y z c rt ra a) : kL y z vt vo vc hp tk2 c2 f (kUx x f ((x f).1, e :: (x f).2.1, 0, lUp (kR (x f)) (40 + wl (x f).2.1) ro, lUp (kH (x f)) (40 + wl (x f).2.1) hd, al2, lo2, kAn (x f))) (qRt rt (f, 40 + wl (x f).2.1) t) (qRt ra (f, 40 + wl (x f).2.1) (fb (f + 1))) (kRv V f (40 + wl (x f).2.1) W) fb (fb (f + 1) + kes z e) fil := by
  obtain ⟨l0, l1, l2, l3, l4, l5, l6, l7, l8, l9⟩ := h
  have hf : f ≤ f + 1 := Nat.le_succ f
  have h8 := hJ.2.2.2.2.2.2.2.2 f hf
  have hwl : wl (e :: (x f).2.1) = wl (x f).2.1 + 1 := wl_n he
  have lf5 := l5 f (Nat.lt_succ_self f)
  generalize hu0 : 40 + wl (x f).2.1 = u0 at *
  generalize hX : (((x f).1, e :: (x f).2.1, 0, lUp (kR (x f)) u0 ro, lUp (kH (x f)) u0 hd, al2, lo2, kAn (x f)) : kFm) = X
  have xff : kUx x f X f = X := kUx_eq
  have xj : ∀ j : Nat, j ≠ f → kUx x f X j = x j := fun j hj => kUx_ne hj
  have e1 : X.1 = (x f).1 := by rw [← hX]
  have e2 : X.2.1 = e :: (x f).2.1 := by rw [← hX]
  have hne : ∀ u : Nat, u ≠ u0 → ((f, u) : Nat × Nat) ≠ (f, u0) := fun u hu q => hu (by injection q)
  have hnj : ∀ j u : Nat, j ≠ f → ((j, u) : Nat × Nat) ≠ (f, u0) := fun j u hj q => hj (by injection q)
  have own : ∀ (j u : Nat) (w : Nat × Nat), j ≤ f → V (j, u) [] = some w → c2 (ra (j, u)) = c (ra (j, u)) := fun j u w hj hw => hc (j, u) [] w hj hw
  have ads : ∀ (a : lLc) (T : Nat), (∃ (j v : Nat) (s : lLc), a = (j, v) :: s ∧ j ≤ f) → qTg y rt V a T → qAd y z c2 (qRt rt (f, u0) t) (qRt ra (f, u0) (fb (f + 1))) a = qAd y z c rt ra a := fun a T ⟨j, v, s, ea, hj⟩ ht => by
    have ht2 := ht
    obtain ⟨r, π, er, hr, -⟩ := ht2
    refine qAd_pl hJ.1 ht (fun r2 π2 e3 => ?_) (fun r2 π2 π1 w e3 hw _ _ => hc r2 π1 w ?_ hw)
    · rw [er] at e3
      injection e3 with e4 e5
      have : r2 ≠ (f, u0) := fun z => by
        rw [e4, z] at hr
        have hr : u0 < 40 := hr
        omega
      exact ⟨qRt_ne this, qRt_ne this⟩
    · rw [ea] at e3
      injection e3 with e4 e5
      rw [← e4]; exact hj
  have no3 : ∀ (j : Nat) (w : Nat × Nat), j ≤ f → V (j, 300) [] = some w → False := fun j w hj hw => by
    obtain ⟨e3, -⟩ := k300 hJ hw
    omega
  refine ⟨q, fun j hj u a hu ha hw => ?_, fun j hj => ?_, fun j hj v v4 hv => ?_, l4, fun j hj => ?_, ?_, fun j hj v v4 hv π t1 g1 g2 g3 g4 => ?_, fun j u π w u4 hw => ?_, fun j hj r1 m hm => ?_⟩
  · by_cases ej : j = f
    · subst ej
      rw [xff] at hu ha
      have ha : lUp (kR (x j)) u0 ro u = some a := by rw [← hX] at ha; exact ha
      by_cases c1 : u = u0
      · rw [c1, lUp_eq] at ha
        obtain ⟨t1, t2, t3⟩ := hro a ha
        rw [c1, qRt_eq, ads a _ t2 t1]
        exact t3
      · rw [lUp_ne c1] at ha
        rw [kRv_ne (by omega) (hne u c1)] at hw
        rw [qRt_ne (hne u c1)]
        rcases hu with hu | hu
        · have hA2 : kA (x j) u := by
            rw [← hX] at hu
            rcases hu with ⟨b1, b2⟩ | ⟨b1, b2⟩
            · exact Or.inl ⟨b1, hal u b2⟩
            · have b2 : u < 40 + wl (e :: (x j).2.1) + 0 := b2
              exact Or.inr ⟨b1, by omega⟩
          obtain ⟨i, v, s, ea, hi⟩ := lIv_fr (hJ.2.1.1 j hf) hA2 ha
          rw [ads a _ ⟨i, v, s, ea, hi⟩ (hJ.2.2.1 j hf u a hA2 ha).2, ← l1 j hf u a (Or.inl hA2) ha hw]
          obtain ⟨w, hw⟩ := hw
          exact own j u w (Nat.le_refl _) hw
        · subst hu
          obtain ⟨w, hw⟩ := hw
          exact (no3 j w (Nat.le_refl _) hw).elim
    · rw [xj j ej] at hu ha
      rw [kRv_ne (by omega) (hnj j u ej)] at hw
      rw [qRt_ne (hnj j u ej)]
      rcases hu with hu | hu
      · obtain ⟨i, v, s, ea, hi⟩ := lIv_fr (hJ.2.1.1 j (by omega)) hu ha
        rw [ads a _ ⟨i, v, s, ea, by omega⟩ (hJ.2.2.1 j (by omega) u a hu ha).2, ← l1 j (by omega) u a (Or.inl hu) ha hw]
        obtain ⟨w, hw⟩ := hw
        exact own j u w hj hw
      · subst hu
        obtain ⟨w, hw⟩ := hw
        exact (no3 j w hj hw).elim
  · by_cases ej : j = f
    · subst ej
      rw [xff, e1, e2]
      refine ⟨?_, kAk_cg (hJ.2.2.2.2.1 j hf) (l2 j hf) (fun u hu => qRt_ne (hne u (by omega))) (fun u w _ _ hw => own j u w (Nat.le_refl _) hw)⟩
      rw [← lf5]; exact hA
    · rw [xj j ej]
      exact kAk_cg (hJ.2.2.2.2.1 j (by omega)) (l2 j (by omega)) (fun u _ => qRt_ne (hnj j u ej)) (fun u w _ _ hw => own j u w hj hw)
  · by_cases ej : j = f
    · subst ej
      rw [xff] at hv ⊢
      rw [e2] at hv
      rw [e1, qRt_ne (hne v (by omega))]
      rcases List.mem_cons.mp hv with z | z
      · exact absurd (Or.inl (by rw [← z])) he
      · exact l3 j hf v v4 z
    · rw [xj j ej] at hv ⊢
      rw [qRt_ne (hnj j v ej)]
      exact l3 j (by omega) v v4 hv
  · rw [xj j (by omega)]
    exact l5 j (by omega)
  · rw [xff, e1, e2]
    show fb (f + 1) + kes z e = fb f + vc (x f).1 + (khs z (x f).2.1 + kes z e)
    omega
  · have e3 := qA_sh (z := z) (c := c2) (c2 := c) (a := 0) (b := 0) g2 (qN_M g1)
    by_cases ej : j = f
    · subst ej
      rw [xff] at hv g2 g4 e3
      rw [e2] at hv
      rw [e1] at g2 g4 e3
      rw [kRv_ne (by omega) (hne v (by omega))]
      rcases List.mem_cons.mp hv with z | z
      · exact absurd (Or.inl (by rw [← z])) he
      · exact l7 j hf v v4 z π t1 g1 g2 g3 (by rw [← Nat.add_right_cancel e3]; exact g4)
    · rw [xj j ej] at hv g2 g4 e3
      rw [kRv_ne (by omega) (hnj j v ej)]
      exact l7 j (by omega) v v4 hv π t1 g1 g2 g3 (by rw [← Nat.add_right_cancel e3]; exact g4)
  · by_cases c0 : j = f + 1
    · subst c0
      rw [kRv_n] at hw; simp at hw
    · by_cases ej : j = f
      · subst ej
        rw [xff, e1]
        rw [kRv_ne c0 (hne u (by omega))] at hw
        exact l8 j u π w u4 hw
      · rw [xj j ej]
        rw [kRv_ne c0 (hnj j u ej)] at hw
        exact l8 j u π w u4 hw
  · by_cases ej : j = f
    · subst ej
      rw [xff, e2] at hm
      rcases List.mem_cons.mp hm with z | z
      · exact absurd (Or.inr (Or.inl (by rw [← z]))) he
      · exact l9 j hf r1 m z
    · rw [xj j ej] at hm
      exact l9 j (by omega) r1 m hm
