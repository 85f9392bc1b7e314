/-- what the tables promise -/
def kYs (y : qY) (z : qZ) (vt vo : Nat → Nat → Nat) (vc : Nat → Nat) : Prop := qLy y z ∧ qZ1 z ∧ kFt z vt vo vc ∧ qCr y ∧ qRf y
/-- all cells of what lies there are below top -/
theorem kLt {y : qY} {z : qZ} {vt vo : Nat → Nat → Nat} {vc : Nat → Nat} {tb : Nat → lTb} {hp : Nat} {tk : Nat → Prop} {c : Nat → Int} {f : Nat} {x : Nat → kFm} {rt ra : Nat × Nat → Nat} {V : Nat × Nat → qV} {fb : Nat → Nat} {top : Nat} {fil : Nat → Nat → Nat → Prop} (hy : kYs y z vt vo vc) (hJ : kJ y vt tb f x rt V) (h : kL y z vt vo vc hp tk c f x rt ra V fb top fil) {r : Nat × Nat} {π : lLc} {w : Nat × Nat} (hv : V r π = some w) : qA y z c (rt r) (ra r) π < top := by
  have := kFree (n := qA y z c (rt r) (ra r) π + 1) hy.1 hy.2.1 hy.2.2.1 hJ h hv
  omega
/-- the latest values E are gone -/
theorem kL_pop {y : qY} {z : qZ} {vt vo : Nat → Nat → Nat} {vc : Nat → Nat} {tb : Nat → lTb} {hp : Nat} {tk tk2 : Nat → Prop} {c : Nat → Int} {f : Nat} {x : Nat → kFm} {rt ra : Nat × Nat → Nat} {V : Nat × Nat → qV} {fb : Nat → Nat} {top : Nat} {fil : Nat → Nat → Nat → Prop} (hJ : kJ y vt tb f x rt V) (h : kL y z vt vo vc hp tk c f x rt ra V fb top fil) {E S : List tE} (hS : (x f).2.1 = E ++ S) (hE : ∀ e : tE, e ∈ E → kNm e) (hn : (x f).2.2.1 = 0) (q : qMm y z hp tk2 c rt ra (kCl V f (wl S))) : kL y z vt vo vc hp tk2 c f (kUx x f ((x f).1, S, 0, kR (x f), kH (x f), kal (x f), klo (x f), kAn (x f))) rt ra (kCl V f (wl S)) fb (fb f + vc (x f).1 + khs z S) fil := by
  have hL := h
  obtain ⟨l0, l1, l2, l3, l4, l5, l6, l7, l8, l9⟩ := h
  have hf := Nat.le_refl f
  have h8 := hJ.2.2.2.2.2.2.2.2 f hf
  have hwl : wl (x f).2.1 = wl E + wl S := by rw [hS, wl_app]
  have out : ∀ e : tE, e ∈ S → e ∈ (x f).2.1 := fun e he => by rw [hS]; exact List.mem_append_right _ he
  refine kL_top hJ hL _ rfl q (fun j u hj => ⟨rfl, rfl, kCl_f hj⟩) (fun _ _ _ _ _ => rfl) (fun _ _ _ _ _ _ _ => rfl) (fun u a hu ha hw => ?_) ?_ (fun v v4 hv => l3 f hf v v4 (out _ hv)) rfl (fun _ _ => rfl) (fun v v4 hv π t g1 g2 g3 g4 => ?_) (fun u π w u4 hw => ?_) (fun r m hm => l9 f hf r m (out _ hm))
  · obtain ⟨w, hw⟩ := hw
    obtain ⟨c1, hw⟩ := kCl_some hw
    refine l1 f hf u a ?_ ha ⟨w, hw⟩
    rcases hu with hu | hu
    · left
      rcases hu with ⟨a, b⟩ | ⟨a, b⟩
      · exact Or.inl ⟨a, b⟩
      · have b : u < 40 + wl S + 0 := b
        exact Or.inr ⟨a, by omega⟩
    · exact Or.inr hu
  · have hk := l2 f hf
    rw [hS] at hk
    clear hS hE hwl out
    induction E with
    | nil => exact hk
    | cons e E ih => exact ih hk.2
  · rw [kCl_out (Or.inl (by omega))]
    exact l7 f hf v v4 (out _ hv) π t g1 g2 g3 g4
  · exact l8 f u π w u4 (kCl_some hw).2
/-- a value comes on top: its root's tree W of type t -/
theorem kL_push {y : qY} {z : qZ} {vt vo : Nat → Nat → Nat} {vc : Nat → Nat} {tb : Nat → lTb} {hp : Nat} {tk tk2 : Nat → Prop} {c c2 : Nat → Int} {f : Nat} {x : Nat → kFm} {rt ra : Nat × Nat → Nat} {V : Nat × Nat → qV} {fb : Nat → Nat} {top : Nat} {fil : Nat → Nat → Nat → Prop} (hy : kYs y z vt vo vc) (hJ : kJ y vt tb f x rt V) (h : kL y z vt vo vc hp tk c f x rt ra V fb top fil) {e : tE} {t : Nat} {W : qV} {ro : Option lLc} {hd : Nat → Prop} {al2 : Nat → Prop} (he : kNm e) (hn : (x f).2.2.1 = 0) (hal : ∀ u : Nat, al2 u → kal (x f) u) (q : qMm y z hp tk2 c2 (qRt rt (f, 40 + wl (x f).2.1) t) (qRt ra (f, 40 + wl (x f).2.1) top) (qUp V (f, 40 + wl (x f).2.1) W)) (hc : ∀ (r : Nat × Nat) (π : lLc) (w : Nat × Nat), V r π = some w → c2 (qA y z c (rt r) (ra r) π) = c (qA y z c (rt r) (ra r) π)) (hA : kAe y z c2 (qRt ra (f, 40 + wl (x f).2.1) top) f top (wl (x f).2.1) e) (hro : ∀ a : lLc, ro = some a → qTg y rt V a (y.2.1 t) ∧ c2 top = qAd y z c rt ra a) : kL y z vt vo vc hp tk2 c2 f (kUx x f ((x f).1, e :: (x f).2.1, 0, lUp (kR (x f)) (40 + wl (x f).2.1) ro, lUp (kH (x f)) (40 + wl (x f).2.1) hd, al2, klo (x f), kAn (x f))) (qRt rt (f, 40 + wl (x f).2.1) t) (qRt ra (f, 40 + wl (x f).2.1) top) (qUp V (f, 40 + wl (x f).2.1) W) fb (top + kes z e) fil := by
  have hL := h
  obtain ⟨l0, l1, l2, l3, l4, l5, l6, l7, l8, l9⟩ := h
  have hf := Nat.le_refl f
  have h8 := hJ.2.2.2.2.2.2.2.2 f hf
  have hwl : wl (e :: (x f).2.1) = wl (x f).2.1 + 1 := wl_n he
  generalize hu0 : 40 + wl (x f).2.1 = u0 at *
  have hne : ∀ u : Nat, u ≠ u0 → ((f, u) : Nat × Nat) ≠ (f, u0) := fun u hu q => hu (by injection q)
  have hnj : ∀ j u : Nat, j ≠ f → ((j, u) : Nat × Nat) ≠ (f, u0) := fun j u hj q => hj (by injection q)
  have own : ∀ (r : Nat × Nat) (w : Nat × Nat), V r [] = some w → c2 (ra r) = c (ra r) := fun r w hw => hc r [] w hw
  have ads : ∀ (a : lLc) (T : Nat), qTg y rt V a T → qAd y z c2 (qRt rt (f, u0) t) (qRt ra (f, u0) top) a = qAd y z c rt ra a := fun a T ha => by
    have ha2 := ha
    obtain ⟨r, π, ea, hr, -⟩ := ha2
    refine qAd_pl hJ.1 ha (fun r2 π2 e2 => ?_) (fun r2 π2 π1 w e2 hw _ _ => hc r2 π1 w hw)
    rw [ea] at e2
    injection e2 with e3 e4
    have : r2 ≠ (f, u0) := fun z => by
      rw [e3, z] at hr
      have hr : u0 < 40 := hr
      omega
    exact ⟨qRt_ne this, qRt_ne this⟩
  have mem : ∀ e2 : tE, ¬ kNm e2 → e2 ∈ e :: (x f).2.1 → e2 ∈ (x f).2.1 := fun e2 h2 hm => by
    rcases List.mem_cons.mp hm with z | z
    · rw [z] at h2; exact absurd he h2
    · exact z
  refine kL_top hJ hL _ rfl q (fun j u hj => ⟨qRt_ne (hnj j u hj), qRt_ne (hnj j u hj), qUp_ne (hnj j u hj)⟩) (fun j u w _ hw => own _ w hw) (fun j u a hj hu ha hw => ?_) (fun u a hu ha hw => ?_) ⟨?_, ?_⟩ (fun v v4 hv => ?_) ?_ (fun _ _ => rfl) (fun v v4 hv π t g1 g2 g3 g4 => ?_) (fun u π w u4 hw => ?_) (fun r m hm => l9 f hf r m (mem _ (fun z => z (Or.inr (Or.inl rfl))) hm))
  · rcases hu with hu | hu
    · exact ads a _ (hJ.2.2.1 j (by omega) u a hu ha).2
    · subst hu
      obtain ⟨w, hw⟩ := hw
      rcases (hJ.2.2.2.2.2.1 j 300 [] w hw).2.1 with ⟨b1, b2⟩ | ⟨b1, b2⟩ | ⟨b1, r2, m, b2⟩ | ⟨r2, m2, i, b1, b2, b3⟩
      · omega
      · have := hJ.2.2.2.2.2.2.2.2 j (by omega)
        omega
      · have h7 := hJ.2.2.2.2.2.2.2.1 j (by omega) r2 m
        rcases b2 with b2 | b2
        · have := (h7.1 b2).1; omega
        · have := (h7.2 b2).1; omega
      · omega
  · have ha : lUp (kR (x f)) u0 ro u = some a := ha
    by_cases c1 : u = u0
    · rw [c1, lUp_eq] at ha
      obtain ⟨t1, t2⟩ := hro a ha
      rw [c1, qRt_eq, ads a _ t1]
      exact t2
    · rw [lUp_ne c1] at ha
      rw [qUp_ne (hne u c1)] at hw
      rw [qRt_ne (hne u c1)]
      have hu2 : kA (x f) u ∨ u = 300 := by
        rcases hu with hu | hu
        · left
          rcases hu with ⟨b1, b2⟩ | ⟨b1, b2⟩
          · exact Or.inl ⟨b1, hal u b2⟩
          · have b2 : u < 40 + wl (e :: (x f).2.1) + 0 := b2
            exact Or.inr ⟨b1, by omega⟩
        · exact Or.inr hu
      have l1u := l1 f hf u a hu2 ha hw
      obtain ⟨w, hw⟩ := hw
      rw [own (f, u) w hw, l1u]
      rcases hu2 with hu2 | hu2
      · rw [ads a _ (hJ.2.2.1 f hf u a hu2 ha).2]
      · subst hu2
        have h7 : ∃ q2 r2 m : Nat, kPm y rt V f (tb (x f).1) (x f) q2 r2 m := by
          rcases (hJ.2.2.2.2.2.1 f 300 [] w hw).2.1 with ⟨b1, b2⟩ | ⟨b1, b2⟩ | ⟨b1, r2, m, b2⟩ | ⟨r2, m2, i, b1, b2, b3⟩
          · omega
          · omega
          · have h7 := hJ.2.2.2.2.2.2.2.1 f hf r2 m
            rcases b2 with b2 | b2
            · exact ⟨5, r2, m, (h7.1 b2).2⟩
            · exact ⟨6, r2, m, (h7.2 b2).2⟩
          · omega
        obtain ⟨q2, r2, m, a0, π0, p1, p2, p3, p4, -⟩ := h7
        obtain rfl := Option.some.inj (p1.symm.trans ha)
        refine congrArg Int.ofNat (?_ : qAd y z c2 (qRt rt (f, u0) t) (qRt ra (f, u0) top) (a0 :: π0) = qAd y z c rt ra (a0 :: π0)).symm
        have hn0 : a0 ≠ (f, u0) := fun z => by
          rw [z] at p2
          have p2 : u0 < 40 := p2
          omega
        show qA y z c2 (qRt rt (f, u0) t a0) (qRt ra (f, u0) top a0) π0 = qA y z c (rt a0) (ra a0) π0
        rw [qRt_ne hn0, qRt_ne hn0]
        exact qA_pl (hJ.1 a0) (qPl_of p4) p3 (fun π1 w hw _ _ => hc a0 π1 w hw)
  · show kAe y z c2 (qRt ra (f, u0) top) f (fb f + vc (x f).1 + khs z (x f).2.1) (wl (x f).2.1) e
    rw [← l6]; exact hA
  · refine kAk_cg (hJ.2.2.2.2.1 f hf) (l2 f hf) (fun u hu => qRt_ne (hne u (by omega))) (fun u w _ _ hw => own _ w hw)
  · rw [qRt_ne (hne v (by omega))]
    exact l3 f hf v v4 (mem _ (fun z => z (Or.inl rfl)) hv)
  · show top + kes z e = fb f + vc (x f).1 + (khs z (x f).2.1 + kes z e)
    omega
  · rw [qUp_ne (hne v (by omega))]
    have e := qA_sh (z := z) (c := c2) (c2 := c) (a := 0) (b := 0) g2 (qN_M g1)
    exact l7 f hf v v4 (mem _ (fun z => z (Or.inl rfl)) hv) π t g1 g2 g3 (by rw [← Nat.add_right_cancel e]; exact g4)
  · rw [qUp_ne (hne u (by omega))] at hw
    exact l8 f u π w u4 hw
