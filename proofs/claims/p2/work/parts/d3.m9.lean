/-- a part of what is matched on goes to variable v, or is lent to it: n the entry behind it -/
theorem kL_bnd {y : qY} {z : qZ} {vt vo : Nat → Nat → Nat} {vc : Nat → Nat} {tb : Nat → lTb} {hp : Nat} {tk : Nat → Prop} {c c2 : Nat → Int} {f : Nat} {x : Nat → kFm} {rt ra : Nat × Nat → Nat} {V V2 : Nat × Nat → qV} {fb : Nat → Nat} {top : Nat} {fil fil2 : Nat → Nat → Nat → Prop} (hJ : kJ y vt tb f x rt V) (h : kL y z vt vo vc hp tk c f x rt ra V fb top fil) {k r0 m m2 v : Nat} {r : List tE} {ro : Option lLc} {hd : Nat → Prop} {al2 : Nat → Prop} {lo2 : Nat → lLc → Prop} (hn : (x f).2.2.1 = 0) (hk : k = 4 ∨ k = 5 ∨ k = 6) (hS : (x f).2.1 = (k, r0, m) :: r) (hmt : ∀ e : tE, e ∈ r → ¬ (e.1 = 4 ∨ e.1 = 5 ∨ e.1 = 6)) (hm2 : m ≤ m2) (hv4 : v < 40) (hvS : (8, v, 0) ∉ r) (hal : ∀ u : Nat, u ≠ v → al2 u → kal (x f) u) (q : qMm y z hp tk c2 (qRt rt (f, v) (vt (x f).1 v)) (qRt ra (f, v) (fb f + vo (x f).1 v)) V2) (hV : ∀ j u : Nat, (j, u) ≠ (f, v) → (k = 4 → (j, u) ≠ (f, 400 + m)) → V2 (j, u) = V (j, u)) (hV4 : ∀ π : lLc, k = 4 → V2 (f, 400 + m) π = none) (hVv : qF y (V2 (f, v)) [] (vt (x f).1 v)) (hvt : vt (x f).1 v ≠ 0) (hc : ∀ (s : Nat × Nat) (π : lLc) (w : Nat × Nat), V s π = some w → c2 (qA y z c (rt s) (ra s) π) = c (qA y z c (rt s) (ra s) π)) (hro : ∀ a : lLc, ro = some a → qTg y rt V a (y.2.1 (vt (x f).1 v)) ∧ c2 (fb f + vo (x f).1 v) = qAd y z c rt ra a) (hf1 : ∀ j w : Nat, (j, w) ≠ (f, v) → fil2 j w = fil j w) : kL y z vt vo vc hp tk c2 f (kUx x f ((x f).1, (k, r0, m2) :: (8, v, 0) :: r, 0, lUp (kR (x f)) v ro, lUp (kH (x f)) v hd, al2, lo2, kAn (x f))) (qRt rt (f, v) (vt (x f).1 v)) (qRt ra (f, v) (fb f + vo (x f).1 v)) V2 fb top fil2 := by
  have hL := h
  obtain ⟨l0, l1, l2, l3, l4, l5, l6, l7, l8, l9⟩ := h
  have hf := Nat.le_refl f
  have h8 := hJ.2.2.2.2.2.2.2.2 f hf
  have hmq : ∀ m3 : Nat, (k, r0, m3).1 = 8 ∨ (k, r0, m3).1 = 4 ∨ (k, r0, m3).1 = 5 ∨ (k, r0, m3).1 = 6 := fun m3 => by
    show k = 8 ∨ k = 4 ∨ k = 5 ∨ k = 6
    omega
  have hwl : wl (x f).2.1 = wl r := by rw [hS]; exact wl_0 (hmq m)
  have hwl2 : wl (((k, r0, m2) : tE) :: (8, v, 0) :: r) = wl r := by rw [wl_0 (hmq _), wl_0 (Or.inl rfl)]
  have hk2 := l2 f hf
  rw [hS] at hk2
  have hkk := hJ.2.2.2.2.1 f hf
  rw [hS] at hkk
  have hne : ∀ u : Nat, u ≠ v → ((f, u) : Nat × Nat) ≠ (f, v) := fun u hu q => hu (by injection q)
  have hnj : ∀ j u : Nat, j ≠ f → ((j, u) : Nat × Nat) ≠ (f, v) := fun j u hj q => hj (by injection q)
  have own : ∀ (j u : Nat) (w : Nat × Nat), V (j, u) [] = some w → c2 (ra (j, u)) = c (ra (j, u)) := fun j u w hw => hc (j, u) [] w hw
  have vnone : qPl (V (f, v)) [] → False := fun ⟨τ, w, hw⟩ => by
    rcases (hJ.2.2.2.2.2.1 f v _ w hw).2.1 with ⟨a, b⟩ | ⟨a, b⟩ | ⟨a, b⟩ | ⟨r2, m2, i, a, b, b2⟩
    · rw [hS] at b
      rcases List.mem_cons.mp b with z | z
      · injection z with q1 q2; omega
      · exact hvS z
    · omega
    · omega
    · omega
  have ads : ∀ (a : lLc) (T : Nat), qTg y rt V a T → qAd y z c2 (qRt rt (f, v) (vt (x f).1 v)) (qRt ra (f, v) (fb f + vo (x f).1 v)) a = qAd y z c rt ra a := fun a T ht => kTg_top hJ (fun j u hu hp => by
    have : ((j, u) : Nat × Nat) ≠ (f, v) := fun e => by
      injection e with e1 e2
      subst e1; subst e2
      exact vnone hp
    exact ⟨qRt_ne this, qRt_ne this⟩) hc ht
  have V2l : ∀ u : Nat, u ≠ v → u < 400 → V2 (f, u) = V (f, u) := fun u h1 h2 => hV f u (hne u h1) (fun _ e => by injection e with e1 e2; omega)
  have memw : ∀ w : Nat, w ≠ v → (8, w, 0) ∈ ((k, r0, m2) : tE) :: (8, v, 0) :: r → (8, w, 0) ∈ (x f).2.1 := fun w hw hm => by
    rcases List.mem_cons.mp hm with z | z
    · injection z with q1 q2; omega
    · rcases List.mem_cons.mp z with z | z
      · injection z with q1 q2
        injection q2 with q3 q4
        exact absurd q3 hw
      · rw [hS]; exact List.mem_cons_of_mem _ z
  refine kL_top hJ hL _ rfl q (fun j u hj => ⟨qRt_ne (hnj j u hj), qRt_ne (hnj j u hj), hV j u (hnj j u hj) (fun _ e => hj (by injection e))⟩) (fun j u w _ hw => own j u w hw) (fun j u a hj hu ha hw => ?_) (fun u a hu ha hw => ?_) ⟨?_, trivial, ?_⟩ (fun w w4 hw2 => ?_) ?_ (fun j hj => funext (fun w => hf1 j w (hnj j w hj))) (fun w w4 hw2 π t g1 g2 g3 g4 => ?_) (fun u π w u4 hw => ?_) (fun r1 m1 hm => ?_)
  · rcases hu with hu | hu
    · exact ads a _ (hJ.2.2.1 j (by omega) u a hu ha).2
    · subst hu
      obtain ⟨w, hw⟩ := hw
      obtain ⟨e3, -⟩ := k300 hJ hw
      omega
  · have ha : lUp (kR (x f)) v ro u = some a := ha
    by_cases cv : u = v
    · rw [cv, lUp_eq] at ha
      obtain ⟨t1, t2⟩ := hro a ha
      rw [cv, qRt_eq, ads a _ t1]
      exact t2
    · rw [lUp_ne cv] at ha
      rw [qRt_ne (hne u cv)]
      have hu4 : u < 400 := by
        rcases hu with hu | hu
        · rcases hu with ⟨b1, b2⟩ | ⟨b1, b2⟩
          · omega
          · have b2 : u < 40 + wl (((k, r0, m2) : tE) :: (8, v, 0) :: r) + 0 := b2
            omega
        · omega
      rw [V2l u cv hu4] at hw
      rcases hu with hu | hu
      · have hA : kA (x f) u := kA_al (x := x f) (by rw [hwl2, hwl]) hn hu (hal u cv)
        rw [ads a _ (hJ.2.2.1 f hf u a hA ha).2, ← l1 f hf u a (Or.inl hA) ha hw]
        obtain ⟨w, hw⟩ := hw
        exact own f u w hw
      · subst hu
        have l1u := l1 f hf 300 a (Or.inr rfl) ha hw
        obtain ⟨w, hw⟩ := hw
        obtain ⟨-, q2, r2, m3, -, -, a0, π0, p1, p2, p3, p4, -⟩ := k300 hJ hw
        obtain rfl := Option.some.inj (p1.symm.trans ha)
        rw [own f 300 w hw, l1u]
        refine congrArg Int.ofNat (?_ : qA y z c2 (qRt rt (f, v) (vt (x f).1 v) a0) (qRt ra (f, v) (fb f + vo (x f).1 v) a0) π0 = qA y z c (rt a0) (ra a0) π0).symm
        have hn0 : a0 ≠ (f, v) := fun z => by
          subst z
          exact vnone ⟨π0, _, p4⟩
        rw [qRt_ne hn0, qRt_ne hn0]
        exact qA_pl (hJ.1 a0) (qPl_of p4) p3 (fun π1 w hw _ _ => hc a0 π1 w hw)
  · show kAe y z c2 (qRt ra (f, v) (fb f + vo (x f).1 v)) f (fb f + vc (x f).1 + khs z ((8, v, 0) :: r)) (wl ((8, v, 0) :: r)) (k, r0, m2)
    have hk3 := hk2.1
    rcases hk with rfl | rfl | rfl
    · intro i hi1 hi2
      rw [qRt_ne (hne _ (by omega))]
      exact hk3 i (by omega) hi2
    · show qRt ra (f, v) (fb f + vo (x f).1 v) (f, 300) = fb f + vc (x f).1 + khs z ((8, v, 0) :: r)
      rw [qRt_ne (hne _ (by omega))]
      exact hk3
    · show qRt ra (f, v) (fb f + vo (x f).1 v) (f, 300) = fb f + vc (x f).1 + khs z ((8, v, 0) :: r)
      rw [qRt_ne (hne _ (by omega))]
      exact hk3
  · exact kAk_nm hkk.2 hk2.2 hmt (fun u h4 h5 => qRt_ne (hne u (by omega))) (fun u w _ _ hw => own f u w hw)
  · by_cases cv : w = v
    · rw [cv, qRt_eq]
    · rw [qRt_ne (hne w cv)]
      exact l3 f hf w w4 (memw w cv hw2)
  · rw [l6, hS]
    rcases hk with rfl | rfl | rfl
    · rfl
    · rfl
    · rfl
  · by_cases cv : w = v
    · subst cv
      have := hVv π t g1 g2
      rw [List.nil_append] at this
      exact this.1 g3
    · rw [V2l w cv (by omega)]
      have e := qA_sh (z := z) (c := c2) (c2 := c) (a := 0) (b := 0) g2 (qN_M g1)
      rw [hf1 f w (hne w cv)] at g4
      exact l7 f hf w w4 (memw w cv hw2) π t g1 g2 g3 (by rw [← Nat.add_right_cancel e]; exact g4)
  · by_cases cv : u = v
    · rw [cv]; exact hvt
    · rw [V2l u cv (by omega)] at hw
      exact l8 f u π w u4 hw
  · rcases List.mem_cons.mp hm with z | z
    · injection z with q1 q2
      injection q2 with q3 q4
      rw [q3]
      have : (4, r0, m) ∈ (x f).2.1 := by rw [hS, q1]; exact List.mem_cons_self ..
      exact l9 f hf r0 m this
    · rcases List.mem_cons.mp z with z | z
      · injection z with q1 q2; exact absurd q1 (by decide)
      · exact absurd (Or.inl rfl) (hmt _ z)
