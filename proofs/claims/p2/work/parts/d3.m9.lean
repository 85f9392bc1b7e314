-- d3.m9.lean.txt
section
/-- a part of what is matched on goes to variable v, or is lent to it: n the entry behind it -/
theorem kL_bnd {y : qY} {z : qZ} {vt vo : Nat → Nat → Nat} {vc : Nat → Nat} {tb : Nat → lTb} {hp : Nat} {tk : Nat → Prop} {c c2 : Nat → Int} {f : Nat} {x : Nat → kFm} {rt ra : Nat × Nat → Nat} {V V2 : Nat × Nat → qV} {fb : Nat → Nat} {top : Nat} {fil fil2 : Nat → Nat → Nat → Prop} (hJ : kJ y vt tb f x rt V) (h : kL y z vt vo vc hp tk c f x rt ra V fb top fil) {k r0 m m2 v : Nat} {r : List tE} {ro : Option lLc} {hd : Nat → Prop} {al2 : Nat → Prop} {lo2 : Nat → lLc → Prop} (hn : (x f).2.2.1 = 0) (hk : k = 4 ∨ k = 5 ∨ k = 6) (hS : (x f).2.1 = (k, r0, m) :: r) (hmt : ∀ e : tE, e ∈ r → ¬ (e.1 = 4 ∨ e.1 = 5 ∨ e.1 = 6)) (hm2 : m ≤ m2) (hv4 : v < 40) (hvS : (8, v, 0) ∉ r) (hal : ∀ u : Nat, u ≠ v → al2 u → kal (x f) u) (q : qMm y z hp tk c2 (qRt rt (f, v) (vt (x f).1 v)) (qRt ra (f, v) (fb f + vo (x f).1 v)) V2) (hV : ∀ j u : Nat, (j, u) ≠ (f, v) → (k = 4 → (j, u) ≠ (f, 400 + m)) → V2 (j, u) = V (j, u)) (hV4 : ∀ π : lLc, k = 4 → V2 (f, 400 + m) π = none) (hVv : qF y (V2 (f, v)) [] (vt (x f).1 v)) (hvt : vt (x f).1 v ≠ 0) (hc : ∀ (s : Nat × Nat) (π : lLc) (w : Nat × Nat), V s π = some w → c2 (qA y z c (rt s) (ra s) π) = c (qA y z c (rt s) (ra s) π)) (hro : ∀ a : lLc, ro = some a → qTg y rt V a (y.2.1 (vt (x f).1 v)) ∧ c2 (fb f + vo (x f).1 v) = qAd y z c rt ra a) (hf1 : ∀ j w : Nat, (j, w) ≠ (f, v) → fil2 j w = fil j w) : kL y z vt vo vc hp tk c2 f (kUx x f ((x f).1, (k, r0, m2) :: (8, v, 0) :: r, 0, lUp (kR (x f)) v ro, lUp (kH (x f)) v hd, al2, lo2, kAn (x f))) (qRt rt (f, v) (vt (x f).1 v)) (qRt ra (f, v) (fb f + vo (x f).1 v)) V2 fb top fil2 := by
  have hL := h
  obtain ⟨l0, l1, l2, l3, l4, l5, l6, l7, l8, l9⟩ := h
  have hf := Nat.le_refl f
  have h8 := hJ.2.2.2.2.2.2.2.2 f hf
  have hmq : ∀ m3 : Nat, (k, r0, m3).1 = 8 ∨ (k, r0, m3).1 = 4 ∨ (k, r0, m3).1 = 5 ∨ (k, r0, m3).1 = 6 := fun m3 => by
    show k = 8 ∨ k = 4 ∨ k = 5 ∨ k = 6
    omega
  have hwl : wl (x f).2.1 = wl r := by rw [hS]; exact wl_0 (hmq m)
  have hwl2 : wl (((k, r0, m2) : tE) :: (8, v, 0) :: r) = wl r := by rw [wl_0 (hmq _), wl_0 (Or.inl rfl)]
  have hk2 := l2 f hf
  rw [hS] at hk2
  have hkk := hJ.2.2.2.2.1 f hf
  rw [hS] at hkk
  have hne : ∀ u : Nat, u ≠ v → ((f, u) : Nat × Nat) ≠ (f, v) := fun u hu q => hu (by injection q)
  have hnj : ∀ j u : Nat, j ≠ f → ((j, u) : Nat × Nat) ≠ (f, v) := fun j u hj q => hj (by injection q)
  have own : ∀ (j u : Nat) (w : Nat × Nat), V (j, u) [] = some w → c2 (ra (j, u)) = c (ra (j, u)) := fun j u w hw => hc (j, u) [] w hw
  have vnone : qPl (V (f, v)) [] → False := fun ⟨τ, w, hw⟩ => by
    rcases (hJ.2.2.2.2.2.1 f v _ w hw).2.1 with ⟨a, b⟩ | ⟨a, b⟩ | ⟨a, b⟩ | ⟨r2, m2, i, a, b, b2⟩
    · rw [hS] at b
      rcases List.mem_cons.mp b with z | z
      · injection z with q1 q2; omega
      · exact hvS z
    · omega
    · omega
    · omega
  have ads : ∀ (a : lLc) (T : Nat), qTg y rt V a T → qAd y z c2 (qRt rt (f, v) (vt (x f).1 v)) (qRt ra (f, v) (fb f + vo (x f).1 v)) a = qAd y z c rt ra a := fun a T ht => kTg_top hJ (fun j u hu hp => by
    have : ((j, u) : Nat × Nat) ≠ (f, v) := fun e => by
      injection e with e1 e2
      subst e1; subst e2
      exact vnone hp
    exact ⟨qRt_ne this, qRt_ne this⟩) hc ht
  have V2l : ∀ u : Nat, u ≠ v → u < 400 → V2 (f, u) = V (f, u) := fun u h1 h2 => hV f u (hne u h1) (fun _ e => by injection e with e1 e2; omega)
  have memw : ∀ w : Nat, w ≠ v → (8, w, 0) ∈ ((k, r0, m2) : tE) :: (8, v, 0) :: r → (8, w, 0) ∈ (x f).2.1 := fun w hw hm => by
    rcases List.mem_cons.mp hm with z | z
    · injection z with q1 q2; omega
    · rcases List.mem_cons.mp z with z | z
      · injection z with q1 q2
        injection q2 with q3 q4
        exact absurd q3 hw
      · rw [hS]; exact List.mem_cons_of_mem _ z
  refine kL_top hJ hL _ rfl q (fun j u hj => ⟨qRt_ne (hnj j u hj), qRt_ne (hnj j u hj), hV j u (hnj j u hj) (fun _ e => hj (by injection e))⟩) (fun j u w _ hw => own j u w hw) (fun j u a hj hu ha hw => ?_) (fun u a hu ha hw => ?_) ⟨?_, trivial, ?_⟩ (fun w w4 hw2 => ?_) ?_ (fun j hj => funext (fun w => hf1 j w (hnj j w hj))) (fun w w4 hw2 π t g1 g2 g3 g4 => ?_) (fun u π w u4 hw => ?_) (fun r1 m1 hm => ?_)
  · rcases hu with hu | hu
    · exact ads a _ (hJ.2.2.1 j (by omega) u a hu ha).2
    · subst hu
      obtain ⟨w, hw⟩ := hw
      obtain ⟨e3, -⟩ := k300 hJ hw
      omega
  · have ha : lUp (kR (x f)) v ro u = some a := ha
    by_cases cv : u = v
    · rw [cv, lUp_eq] at ha
      obtain ⟨t1, t2⟩ := hro a ha
      rw [cv, qRt_eq, ads a _ t1]
      exact t2
    · rw [lUp_ne cv] at ha
      rw [qRt_ne (hne u cv)]
      have hu4 : u < 400 := by
        rcases hu with hu | hu
        · rcases hu with ⟨b1, b2⟩ | ⟨b1, b2⟩
          · omega
          · have b2 : u < 40 + wl (((k, r0, m2) : tE) :: (8, v, 0) :: r) + 0 := b2
            omega
        · omega
      rw [V2l u cv hu4] at hw
      rcases hu with hu | hu
      · have hA : kA (x f) u := kA_al (x := x f) (by rw [hwl2, hwl]) hn hu (hal u cv)
        rw [ads a _ (hJ.2.2.1 f hf u a hA ha).2, ← l1 f hf u a (Or.inl hA) ha hw]
        obtain ⟨w, hw⟩ := hw
        exact own f u w hw
      · subst hu
        have l1u := l1 f hf 300 a (Or.inr rfl) ha hw
        obtain ⟨w, hw⟩ := hw
        obtain ⟨-, q2, r2, m3, -, -, a0, π0, p1, p2, p3, p4, -⟩ := k300 hJ hw
        obtain rfl := Option.some.inj (p1.symm.trans ha)
        rw [own f 300 w hw, l1u]
        refine congrArg Int.ofNat (?_ : qA y z c2 (qRt rt (f, v) (vt (x f).1 v) a0) (qRt ra (f, v) (fb f + vo (x f).1 v) a0) π0 = qA y z c (rt a0) (ra a0) π0).symm
        have hn0 : a0 ≠ (f, v) := fun z => by
          subst z
          exact vnone ⟨π0, _, p4⟩
        rw [qRt_ne hn0, qRt_ne hn0]
        exact qA_pl (hJ.1 a0) (qPl_of p4) p3 (fun π1 w hw _ _ => hc a0 π1 w hw)
  · show kAe y z c2 (qRt ra (f, v) (fb f + vo (x f).1 v)) f (fb f + vc (x f).1 + khs z ((8, v, 0) :: r)) (wl ((8, v, 0) :: r)) (k, r0, m2)
    have hk3 := hk2.1
    rcases hk with rfl | rfl | rfl
    · intro i hi1 hi2
      rw [qRt_ne (hne _ (by omega))]
      exact hk3 i (by omega) hi2
    · show qRt ra (f, v) (fb f + vo (x f).1 v) (f, 300) = fb f + vc (x f).1 + khs z ((8, v, 0) :: r)
      rw [qRt_ne (hne _ (by omega))]
      exact hk3
    · show qRt ra (f, v) (fb f + vo (x f).1 v) (f, 300) = fb f + vc (x f).1 + khs z ((8, v, 0) :: r)
      rw [qRt_ne (hne _ (by omega))]
      exact hk3
  · exact kAk_nm hkk.2 hk2.2 hmt (fun u h4 h5 => qRt_ne (hne u (by omega))) (fun u w _ _ hw => own f u w hw)
  · by_cases cv : w = v
    · rw [cv, qRt_eq]
    · rw [qRt_ne (hne w cv)]
      exact l3 f hf w w4 (memw w cv hw2)
  · rw [l6, hS]
    rcases hk with rfl | rfl | rfl
    · rfl
    · rfl
    · rfl
  · by_cases cv : w = v
    · subst cv
      have := hVv π t g1 g2
      rw [List.nil_append] at this
      exact this.1 g3
    · rw [V2l w cv (by omega)]
      have e := qA_sh (z := z) (c := c2) (c2 := c) (a := 0) (b := 0) g2 (qN_M g1)
      rw [hf1 f w (hne w cv)] at g4
      exact l7 f hf w w4 (memw w cv hw2) π t g1 g2 g3 (by rw [← Nat.add_right_cancel e]; exact g4)
  · by_cases cv : u = v
    · rw [cv]; exact hvt
    · rw [V2l u cv (by omega)] at hw
      exact l8 f u π w u4 hw
  · rcases List.mem_cons.mp hm with z | z
    · injection z with q1 q2
      injection q2 with q3 q4
      rw [q3]
      have : (4, r0, m) ∈ (x f).2.1 := by rw [hS, q1]; exact List.mem_cons_self ..
      exact l9 f hf r0 m this
    · rcases List.mem_cons.mp z with z | z
      · injection z with q1 q2; exact absurd q1 (by decide)
      · exact absurd (Or.inl rfl) (hmt _ z)
end
-- d3.ma.lean.txt
section
theorem kAk_ty {y : qY} {z : qZ} {c : Nat → Int} {ra : Nat × Nat → Nat} {j B : Nat} {S : List tE} {t1 t2 m : Nat} (h1 : t1 ≠ 0) (hz : kes z (0, t1, m) = kes z (0, t2, m)) : ∀ {E : List tE}, kAk y z c ra j B (E ++ (0, t1, m) :: S) → kAk y z c ra j B (E ++ (0, t2, m) :: S)
  | [], h => ⟨fun _ => h.1 h1, h.2⟩
  | e :: E, h => by
    refine ⟨?_, kAk_ty h1 hz h.2⟩
    have h1 : kAe y z c ra j (B + khs z (E ++ (0, t1, m) :: S)) (wl (E ++ (0, t1, m) :: S)) e := h.1
    show kAe y z c ra j (B + khs z (E ++ (0, t2, m) :: S)) (wl (E ++ (0, t2, m) :: S)) e
    have e1 : khs z (E ++ (0, t2, m) :: S) = khs z (E ++ (0, t1, m) :: S) := by
      rw [khs_app, khs_app]
      show khs z E + (khs z S + kes z (0, t2, m)) = khs z E + (khs z S + kes z (0, t1, m))
      rw [hz]
    have e2 : wl (E ++ (0, t2, m) :: S) = wl (E ++ (0, t1, m) :: S) := ty_wl
    rw [e1, e2]; exact h1
/-- the cells of a value of one cell that is told as one of another type -/
theorem kL_rty {y : qY} {z : qZ} {vt vo : Nat → Nat → Nat} {vc : Nat → Nat} {tb : Nat → lTb} {hp : Nat} {tk : Nat → Prop} {c : Nat → Int} {f : Nat} {x : Nat → kFm} {rt ra : Nat × Nat → Nat} {V : Nat × Nat → qV} {fb : Nat → Nat} {top : Nat} {fil : Nat → Nat → Nat → Prop} (hJ : kJ y vt tb f x rt V) (h : kL y z vt vo vc hp tk c f x rt ra V fb top fil) {E S : List tE} {t1 t2 m : Nat} (hS : (x f).2.1 = E ++ (0, t1, m) :: S) (hk : y.1 t2 ≠ 2 ∧ y.1 t2 ≠ 3 ∧ y.1 t2 ≠ 4 ∧ y.1 t2 ≠ 5 ∧ y.1 t2 ≠ 6) (ht : t2 ≠ 0) (h1 : t1 ≠ 0) (hk1 : y.1 t1 ≠ 2) (hz1 : z.1 t1 = z.1 t2) : kL y z vt vo vc hp tk c f (kUx x f ((x f).1, E ++ (0, t2, m) :: S, (x f).2.2.1, kR (x f), kH (x f), kal (x f), klo (x f), kAn (x f))) (qRt rt (f, 40 + wl S) t2) ra (qUp V (f, 40 + wl S) (qL t2)) fb top fil := by
  have hw := h
  have hJw := hJ
  obtain ⟨h0, g1, g2, g3, g4, g5, g6, g7, g8⟩ := hJ
  obtain ⟨l0, l1, l2, l3, l4, l5, l6, l7, l8, l9⟩ := h
  have hf := Nat.le_refl f
  have hK : kK y rt V f (x f) (E ++ (0, t1, m) :: S) := by rw [← hS]; exact g4 f hf
  have hK0 := (kK_app hK).1
  unfold kE at hK0
  obtain ⟨hRn, -, -, hq, -⟩ := hK0
  obtain ⟨hrt, hqF⟩ := hq h1
  obtain ⟨w0, hw0⟩ : ∃ w : Nat × Nat, V (f, 40 + wl S) [] = some w := (hqF [] t1 qM_nil rfl).1 hk1
  have hes : kes z (0, t1, m) = kes z (0, t2, m) := by
    show (if t1 = 0 then 0 else z.1 t1) = (if t2 = 0 then 0 else z.1 t2)
    rw [if_neg h1, if_neg ht, hz1]
  have hhs : khs z (E ++ (0, t2, m) :: S) = khs z (x f).2.1 := by
    rw [hS, khs_app, khs_app]
    show khs z E + (khs z S + kes z (0, t2, m)) = khs z E + (khs z S + kes z (0, t1, m))
    rw [hes]
  have ne : ∀ (u : Nat) (a : lLc), kR (x f) u = some a → u ≠ 40 + wl S := fun u a ha e => by rw [e, hRn] at ha; simp at ha
  have rtn : ∀ j u : Nat, (j, u) ≠ (f, 40 + wl S) → qRt rt (f, 40 + wl S) t2 (j, u) = rt (j, u) ∧ qUp V (f, 40 + wl S) (qL t2) (j, u) = V (j, u) := fun j u e => ⟨qRt_ne e, qUp_ne e⟩
  have nef : ∀ u : Nat, u ≠ 40 + wl S → (f, u) ≠ (f, 40 + wl S) := fun u e q => by
    injection q with _ q2
    exact e q2
  have hA : ∀ u : Nat, kA ((x f).1, E ++ (0, t2, m) :: S, (x f).2.2.1, kR (x f), kH (x f), kal (x f), klo (x f), kAn (x f)) u → kA (x f) u := fun u hu => by
    rcases hu with q | ⟨z1, z2⟩
    · exact Or.inl q
    · refine Or.inr ⟨z1, ?_⟩
      have z2 : u < 40 + wl (E ++ (0, t2, m) :: S) + (x f).2.2.1 := z2
      have e2 : wl (E ++ (0, t2, m) :: S) = wl (E ++ (0, t1, m) :: S) := ty_wl
      rw [e2, ← hS] at z2; exact z2
  have adr : ∀ (a : lLc), (∃ (r : Nat × Nat) (π : lLc), a = r :: π ∧ r.2 < 40) → qAd y z c (qRt rt (f, 40 + wl S) t2) ra a = qAd y z c rt ra a := fun a ⟨r, π, e, hr⟩ => by
    rw [e]
    show qA y z c (qRt rt (f, 40 + wl S) t2 r) (ra r) π = qA y z c (rt r) (ra r) π
    rw [qRt_ne (fun q => by
      have : r.2 = 40 + wl S := congrArg Prod.snd q
      omega)]
  -- the cells
  have q1 : qMm y z hp tk c rt ra (qUp V (f, 40 + wl S) (fun _ => none)) := qMm_sub l0 (fun r => by
    by_cases e : r = (f, 40 + wl S)
    · rw [e, qUp_eq]; exact qOk_none
    · rw [qUp_ne e]; exact h0 r) (fun r π w hv => by
    by_cases e : r = (f, 40 + wl S)
    · rw [e, qUp_eq] at hv; simp at hv
    · rw [qUp_ne e] at hv; exact hv)
  have q2 : qMm y z hp tk c (qRt rt (f, 40 + wl S) t2) ra (qUp V (f, 40 + wl S) (fun _ => none)) := qMm_em q1 (fun r => by
    by_cases e : r = (f, 40 + wl S)
    · exact Or.inl (fun π => by rw [e, qUp_eq])
    · exact Or.inr ⟨qRt_ne e, rfl⟩)
  have q3 : qMm y z hp tk c (qRt rt (f, 40 + wl S) t2) ra (qUp V (f, 40 + wl S) (qL t2)) := by
    have := qMm_pl (d := (f, 40 + wl S)) q2 (by rw [qRt_eq]; exact hk.1) (by rw [qRt_eq]; exact hk.2.1) (by rw [qRt_eq]; exact hk.2.2.1) (l0.2.2.2.1 _ _ _ hw0) (fun r π w hr hv => by
      rw [qUp_ne hr] at hv
      have := l0.2.2.2.2 r (f, 40 + wl S) π [] w w0 hr hv hw0
      rw [qRt_ne hr, qRt_eq, ← hz1, ← hrt]
      exact this)
    rw [qRt_eq] at this
    have e9 : qUp (qUp V (f, 40 + wl S) (fun _ => none)) (f, 40 + wl S) (qL t2) = qUp V (f, 40 + wl S) (qL t2) := by
      funext r
      by_cases e : r = (f, 40 + wl S)
      · rw [e, qUp_eq, qUp_eq]
      · rw [qUp_ne e, qUp_ne e, qUp_ne e]
    rw [e9] at this
    exact this
  refine kL_top hJw hw _ rfl q3 (fun j u hj => ?_) (fun j u w _ _ => rfl) (fun j u a hj hu ha hw9 => ?_) (fun u a hu ha hw9 => ?_) ?_ (fun v v4 hvS => ?_) ?_ (fun j _ => rfl) (fun v v4 hvS π t hm hq9 hk9 hfl => ?_) (fun u π w u4 hv => ?_) (fun r m2 hm => ?_)
  · have := rtn j u (fun q => hj (by injection q))
    exact ⟨this.1, rfl, this.2⟩
  · refine adr a ?_
    rcases hu with hu | hu
    · obtain ⟨-, r, π, e, hr, -⟩ := g2 j (by omega) u a hu ha
      exact ⟨r, π, e, hr⟩
    · subst hu
      obtain ⟨w9, hw9⟩ := hw9
      obtain ⟨e, -⟩ := k300 hJw hw9
      omega
  · have hne := ne u a ha
    have hw9 : ∃ w : Nat × Nat, V (f, u) [] = some w := by
      rw [(rtn f u (nef u hne)).2] at hw9; exact hw9
    have hu2 : kA (x f) u ∨ u = 300 := hu.imp (hA u) id
    rw [l1 f hf u a hu2 ha hw9]
    refine congrArg Int.ofNat (adr a ?_).symm
    rcases hu2 with hu2 | hu2
    · obtain ⟨-, r, π, e, hr, -⟩ := g2 f hf u a hu2 ha
      exact ⟨r, π, e, hr⟩
    · subst hu2
      obtain ⟨w9, hw9⟩ := hw9
      obtain ⟨-, q, r0, m0, -, -, a0, π, e1, e2, -⟩ := k300 hJw hw9
      have ha : kR (x f) 300 = some a := ha
      rw [e1] at ha
      injection ha with ha
      exact ⟨a0, π, ha.symm, e2⟩
  · have := l2 f hf
    rw [hS] at this
    exact kAk_ty h1 hes this
  · exact l3 f hf v v4 (by rw [hS]; exact (ty_mem (show (8, v, 0).1 ≠ 0 by show (8 : Nat) ≠ 0; decide)).mpr hvS)
  · show top = fb f + vc (x f).1 + khs z (E ++ (0, t2, m) :: S)
    rw [hhs]; exact l6
  · have e : v ≠ 40 + wl S := by omega
    rw [(rtn f v (nef v e)).2]
    exact l7 f hf v v4 (by rw [hS]; exact (ty_mem (show (8, v, 0).1 ≠ 0 by show (8 : Nat) ≠ 0; decide)).mpr hvS) π t hm hq9 hk9 hfl
  · have e : u ≠ 40 + wl S := by omega
    rw [(rtn f u (nef u e)).2] at hv
    exact l8 f u π w u4 hv
  · exact l9 f hf r m2 (by rw [hS]; exact (ty_mem (show (4, r, m2).1 ≠ 0 by show (4 : Nat) ≠ 0; decide)).mpr hm)
end
-- d4.c1.lean.txt
section
/-- a pass over the code: of variables, of labels' rows, which labels are reached, is the place reached, again -/
abbrev pT (α : Type) := (Nat → α) × (Nat → α) × (Nat → Int32) × Int32 × Int32
/-- instruction i may jump ahead to label L -/
def tgt (F : tF) (i L : Nat) : Prop := ((F 0 i = 16 ∨ F 0 i = 17 ∨ F 0 i = 18 ∨ F 0 i = 19) ∧ F 1 i = nI L) ∨ (F 0 i = 20 ∧ ∃ tb c g : Nat, F 1 i = nI tb ∧ F 3 i = nI c ∧ tb ≤ 3002 ∧ c ≤ 12 ∧ g < c ∧ F 13 (tb + g) = nI L)
/-- one instruction of a pass: what is common -/
def pS {α : Type} (le : α → α → Prop) (F : tF) (n i : Nat) (s t : pT α) : Prop :=
  (∀ j : Nat, le (s.2.1 j) (t.2.1 j)) ∧ (∀ L : Nat, s.2.2.1 L ≠ 0 → t.2.2.1 L ≠ 0) ∧
  (isL (F 0 i) → ∀ L : Nat, L < 1100 → F 1 i = nI L → t.2.1 = s.2.1 ∧ t.2.2.1 = s.2.2.1 ∧ t.2.2.2.2 = s.2.2.2.2 ∧ (s.2.2.1 L = 0 → t.1 = s.1 ∧ t.2.2.2.1 = s.2.2.2.1) ∧ (s.2.2.1 L ≠ 0 → t.2.2.2.1 ≠ 0 ∧ ∀ v : Nat, v < n → le (s.2.1 (L * 40 + v)) (t.1 v) ∧ (s.2.2.2.1 ≠ 0 → le (s.1 v) (t.1 v)))) ∧
  (¬ isL (F 0 i) → s.2.2.2.1 = 0 → t = s) ∧
  (¬ isL (F 0 i) → s.2.2.2.1 ≠ 0 → ∀ L : Nat, L < 1100 → tgt F i L → t.2.2.1 L ≠ 0 ∧ ∀ v : Nat, v < n → le (s.1 v) (t.2.1 (L * 40 + v))) ∧
  (s.2.2.2.1 ≠ 0 → F 0 i = 15 → t.2.2.2.2 = 0 → ∀ L : Nat, L < 1100 → F 1 i = nI L → s.2.2.1 L ≠ 0 ∧ ∀ v : Nat, v < n → le (s.1 v) (s.2.1 (L * 40 + v))) ∧
  (t.2.2.2.2 = 0 → s.2.2.2.2 = 0 ∧ ∀ L : Nat, L < 1100 → ¬ tgt F i L → (∀ v : Nat, v < n → t.2.1 (L * 40 + v) = s.2.1 (L * 40 + v)) ∧ (t.2.2.1 L ≠ 0 → s.2.2.1 L ≠ 0)) ∧
  (¬ isL (F 0 i) → s.2.2.2.1 ≠ 0 → ∀ o : Nat, o < 33 → F 0 i = nI o → (nu o → t.2.2.2.1 ≠ 0) ∧ (¬ nu o → t.2.2.2.1 = 0))
section
variable {α : Type} {le : α → α → Prop} {F : tF} {n a b : Nat} {h : Nat → pT α}
theorem pS_ag (hp : ∀ i : Nat, a ≤ i → i < b → pS le F n i (h i) (h (i + 1))) (h0 : (h b).2.2.2.2 = 0) : ∀ d i : Nat, a ≤ i → i + d = b → (h i).2.2.2.2 = 0
  | 0, i, _, e => by rw [show i = b by omega]; exact h0
  | d + 1, i, ha, e => ((hp i ha (by omega)).2.2.2.2.2.2.1 (pS_ag hp h0 d (i + 1) (by omega) (by omega))).1
theorem pS_gr (hrf : ∀ x : α, le x x) (htr : ∀ x y z : α, le x y → le y z → le x z) (hp : ∀ i : Nat, a ≤ i → i < b → pS le F n i (h i) (h (i + 1))) : ∀ d i : Nat, a ≤ i → i + d ≤ b → (∀ j : Nat, le ((h i).2.1 j) ((h (i + d)).2.1 j)) ∧ ∀ L : Nat, (h i).2.2.1 L ≠ 0 → (h (i + d)).2.2.1 L ≠ 0
  | 0, i, _, _ => ⟨fun j => hrf _, fun L q => q⟩
  | d + 1, i, ha, e => by
    obtain ⟨q1, q2⟩ := pS_gr hrf htr hp d i ha (by omega)
    have q := hp (i + d) (by omega) (by omega)
    exact ⟨fun j => htr _ _ _ (q1 j) (q.1 j), fun L z => q.2.1 L (q2 L z)⟩
/-- the state ahead of instruction i, behind its join if it is a label -/
def cS (F : tF) (h : Nat → pT α) (i : Nat) : Nat → α := if F 0 i = 13 ∨ F 0 i = 14 then (h (i + 1)).1 else (h i).1
def cA (F : tF) (h : Nat → pT α) (i : Nat) : Prop := (if F 0 i = 13 ∨ F 0 i = 14 then (h (i + 1)).2.2.2.1 else (h i).2.2.2.1) ≠ 0
theorem cS_l {i : Nat} (q : isL (F 0 i)) : cS F h i = (h (i + 1)).1 := if_pos q
theorem cS_n {i : Nat} (q : ¬ isL (F 0 i)) : cS F h i = (h i).1 := if_neg q
theorem cA_l {i : Nat} (q : isL (F 0 i)) : cA F h i ↔ (h (i + 1)).2.2.2.1 ≠ 0 := by unfold cA; rw [if_pos (show F 0 i = 13 ∨ F 0 i = 14 from q)]
theorem cA_n {i : Nat} (q : ¬ isL (F 0 i)) : cA F h i ↔ (h i).2.2.2.1 ≠ 0 := by unfold cA; rw [if_neg (show ¬ (F 0 i = 13 ∨ F 0 i = 14) from q)]
/-- what comes behind instruction i goes into the next one -/
theorem c_fall (hrf : ∀ x : α, le x x) (hp : ∀ i : Nat, a ≤ i → i < b → pS le F n i (h i) (h (i + 1))) (hlb : ∀ i : Nat, a ≤ i → i < b → isL (F 0 i) → ∃ L : Nat, L < 1100 ∧ F 1 i = nI L) {i : Nat} (ha : a ≤ i) (hb : i + 1 < b) (hA : cA F h i) (hn : ¬ isL (F 0 i) → ∃ o : Nat, o < 33 ∧ F 0 i = nI o ∧ nu o) : cA F h (i + 1) ∧ ∀ v : Nat, v < n → le ((h (i + 1)).1 v) (cS F h (i + 1) v) := by
  have hi : (h (i + 1)).2.2.2.1 ≠ 0 := by
    by_cases c : isL (F 0 i)
    · exact (cA_l c).mp hA
    · obtain ⟨o, o1, o2, o3⟩ := hn c
      exact ((hp i ha (by omega)).2.2.2.2.2.2.2 c ((cA_n c).mp hA) o o1 o2).1 o3
  by_cases c : isL (F 0 (i + 1))
  · obtain ⟨L, l1, l2⟩ := hlb (i + 1) (by omega) hb c
    obtain ⟨-, -, -, q1, q2⟩ := (hp (i + 1) (by omega) hb).2.2.1 c L l1 l2
    rw [cA_l c, cS_l c]
    by_cases e : (h (i + 1)).2.2.1 L = 0
    · obtain ⟨e1, e2⟩ := q1 e
      rw [e2, e1]; exact ⟨hi, fun v _ => hrf _⟩
    · obtain ⟨e1, e2⟩ := q2 e
      exact ⟨e1, fun v hv => (e2 v hv).2 hi⟩
  · rw [cA_n c, cS_n c]; exact ⟨hi, fun v _ => hrf _⟩
/-- a jump ahead -/
theorem c_jump (hrf : ∀ x : α, le x x) (htr : ∀ x y z : α, le x y → le y z → le x z) (hp : ∀ i : Nat, a ≤ i → i < b → pS le F n i (h i) (h (i + 1))) {i j L : Nat} (ha : a ≤ i) (hij : i < j) (hb : j < b) (hA : cA F h i) (hn : ¬ isL (F 0 i)) (hL : L < 1100) (ht : tgt F i L) (hj : isL (F 0 j)) (hjL : F 1 j = nI L) : cA F h j ∧ ∀ v : Nat, v < n → le (cS F h i v) (cS F h j v) := by
  obtain ⟨q1, q2⟩ := (hp i ha (by omega)).2.2.2.2.1 hn ((cA_n hn).mp hA) L hL ht
  obtain ⟨g1, g2⟩ := pS_gr hrf htr hp (j - (i + 1)) (i + 1) (by omega) (by omega)
  rw [show i + 1 + (j - (i + 1)) = j by omega] at g1 g2
  obtain ⟨-, -, -, -, w2⟩ := (hp j (by omega) hb).2.2.1 hj L hL hjL
  obtain ⟨e1, e2⟩ := w2 (g2 L q1)
  rw [cA_l hj, cS_l hj, cS_n hn]
  exact ⟨e1, fun v hv => htr _ _ _ (q2 v hv) (htr _ _ _ (g1 _) (e2 v hv).1)⟩
/-- rows of a label that nothing jumps ahead to stay -/
theorem pS_kp (hp : ∀ i : Nat, a ≤ i → i < b → pS le F n i (h i) (h (i + 1))) (h0 : (h b).2.2.2.2 = 0) {L : Nat} (hL : L < 1100) (hno : ∀ i : Nat, a ≤ i → i < b → ¬ isL (F 0 i) → (h i).2.2.2.1 ≠ 0 → ¬ tgt F i L) (hlb : ∀ i : Nat, a ≤ i → i < b → isL (F 0 i) → ∃ M : Nat, M < 1100 ∧ F 1 i = nI M) : ∀ d i : Nat, a ≤ i → i + d ≤ b → (∀ v : Nat, v < n → (h (i + d)).2.1 (L * 40 + v) = (h i).2.1 (L * 40 + v)) ∧ ((h (i + d)).2.2.1 L ≠ 0 → (h i).2.2.1 L ≠ 0)
  | 0, i, _, _ => ⟨fun _ _ => rfl, fun q => q⟩
  | d + 1, i, ha, e => by
    obtain ⟨q1, q2⟩ := pS_kp hp h0 hL hno hlb d i ha (by omega)
    have q := hp (i + d) (by omega) (by omega)
    have key : (∀ v : Nat, v < n → (h (i + d + 1)).2.1 (L * 40 + v) = (h (i + d)).2.1 (L * 40 + v)) ∧ ((h (i + d + 1)).2.2.1 L ≠ 0 → (h (i + d)).2.2.1 L ≠ 0) := by
      by_cases c : isL (F 0 (i + d))
      · obtain ⟨M, m1, m2⟩ := hlb (i + d) (by omega) (by omega) c
        obtain ⟨e1, e2, -⟩ := q.2.2.1 c M m1 m2
        rw [e1, e2]; exact ⟨fun _ _ => rfl, fun z => z⟩
      · by_cases c2 : (h (i + d)).2.2.2.1 = 0
        · rw [q.2.2.2.1 c c2]; exact ⟨fun _ _ => rfl, fun z => z⟩
        · exact (q.2.2.2.2.2.2.1 (pS_ag hp h0 (b - (i + d + 1)) (i + d + 1) (by omega) (by omega))).2 L hL (hno (i + d) (by omega) (by omega) c c2)
    exact ⟨fun v hv => (key.1 v hv).trans (q1 v hv), fun z => q2 (key.2 z)⟩
/-- the way back of a loop -/
theorem c_loop (hrf : ∀ x : α, le x x) (htr : ∀ x y z : α, le x y → le y z → le x z) (hp : ∀ i : Nat, a ≤ i → i < b → pS le F n i (h i) (h (i + 1))) (h0 : (h b).2.2.2.2 = 0) (hlb : ∀ i : Nat, a ≤ i → i < b → isL (F 0 i) → ∃ M : Nat, M < 1100 ∧ F 1 i = nI M) {i j L : Nat} (hno : ∀ m : Nat, a ≤ m → m < b → ¬ isL (F 0 m) → (h m).2.2.2.1 ≠ 0 → ¬ tgt F m L) (ha : a ≤ j) (hji : j ≤ i) (hb : i < b) (hA : cA F h i) (h15 : F 0 i = 15) (hL : L < 1100) (hiL : F 1 i = nI L) (hj : isL (F 0 j)) (hjL : F 1 j = nI L) : cA F h j ∧ ∀ v : Nat, v < n → le (cS F h i v) (cS F h j v) := by
  have hn : ¬ isL (F 0 i) := by rw [h15]; unfold isL; decide
  obtain ⟨q1, q2⟩ := (hp i (by omega) hb).2.2.2.2.2.1 ((cA_n hn).mp hA) h15 (pS_ag hp h0 (b - (i + 1)) (i + 1) (by omega) (by omega)) L hL hiL
  obtain ⟨g1, g2⟩ := pS_kp hp h0 hL hno hlb (i - j) j ha (by omega)
  rw [show j + (i - j) = i by omega] at g1 g2
  obtain ⟨-, -, -, -, w2⟩ := (hp j ha (by omega)).2.2.1 hj L hL hjL
  obtain ⟨e1, e2⟩ := w2 (g2 q1)
  rw [cA_l hj, cS_l hj, cS_n hn]
  exact ⟨e1, fun v hv => htr _ _ _ (q2 v hv) (by rw [g1 v hv]; exact (e2 v hv).1)⟩
end
end
-- d4.c2.lean.txt
section
/-- to a label: rv: whether it learnt something -/
def pSd {α : Type} (or : α → α → α) (n L : Nat) (s t : pT α) (rv : Int32) : Prop := t.1 = s.1 ∧ (∀ j : Nat, t.2.1 j = if L * 40 ≤ j ∧ j < L * 40 + n then or (s.2.1 j) (s.1 (j - L * 40)) else s.2.1 j) ∧ t.2.2.1 L ≠ 0 ∧ (∀ M : Nat, M ≠ L → t.2.2.1 M = s.2.2.1 M) ∧ t.2.2.2 = s.2.2.2 ∧ (rv = 0 → s.2.2.1 L ≠ 0 ∧ ∀ v : Nat, v < n → or (s.2.1 (L * 40 + v)) (s.1 v) = s.2.1 (L * 40 + v))
def pSw {α : Type} (or : α → α → α) (F : tF) (n tb : Nat) : Nat → pT α → pT α → Prop
  | 0, s, t => t = s
  | k + 1, s, t => ∃ (u : pT α) (L : Nat) (rv : Int32), pSw or F n tb k s u ∧ F 13 (tb + k) = nI L ∧ L < 1100 ∧ pSd or n L u t rv
def pFl {α : Type} (or : α → α → α) (F : tF) (n i : Nat) (s t : pT α) (o : Nat) : Prop :=
  (o = 15 → ∃ (L : Nat) (u : pT α) (rv : Int32), F 1 i = nI L ∧ L < 1100 ∧ pSd or n L s u rv ∧ t = (u.1, u.2.1, u.2.2.1, 0, if rv = 0 then (if s.2.2.2.2 = 0 then 0 else 1) else 1)) ∧
  (o = 16 → ∃ (L : Nat) (u : pT α) (rv : Int32), F 1 i = nI L ∧ L < 1100 ∧ pSd or n L s u rv ∧ t = (u.1, u.2.1, u.2.2.1, 0, s.2.2.2.2)) ∧
  (o = 17 ∨ o = 18 ∨ o = 19 → ∃ (L : Nat) (rv : Int32), F 1 i = nI L ∧ L < 1100 ∧ pSd or n L s t rv) ∧
  (o = 20 → ∃ (tb c : Nat) (u : pT α), F 1 i = nI tb ∧ F 3 i = nI c ∧ tb ≤ 3002 ∧ c ≤ 12 ∧ pSw or F n tb c s u ∧ t = (u.1, u.2.1, u.2.2.1, 0, s.2.2.2.2)) ∧
  (o = 22 → t.2 = (s.2.1, s.2.2.1, 0, s.2.2.2.2)) ∧
  (o ≠ 15 → o ≠ 16 → o ≠ 17 → o ≠ 18 → o ≠ 19 → o ≠ 20 → o ≠ 22 → t.2 = s.2)
def pR {α : Type} (or : α → α → α) (F : tF) (n i : Nat) (s t : pT α) : Prop := ∃ o : Nat, F 0 i = nI o ∧ o < 33 ∧ (((o = 13 ∨ o = 14) ∧ ∃ L : Nat, F 1 i = nI L ∧ L < 1100 ∧ t.2.1 = s.2.1 ∧ t.2.2.1 = s.2.2.1 ∧ t.2.2.2.2 = s.2.2.2.2 ∧ ((s.2.2.1 L = 0 ∧ t = s) ∨ (s.2.2.1 L ≠ 0 ∧ (∀ v : Nat, v < n → t.1 v = if s.2.2.2.1 = 0 then s.2.1 (L * 40 + v) else or (s.1 v) (s.2.1 (L * 40 + v))) ∧ t.2.2.2.1 = 1))) ∨ (o ≠ 13 ∧ o ≠ 14 ∧ ((s.2.2.2.1 = 0 ∧ t = s) ∨ (s.2.2.2.1 ≠ 0 ∧ pFl or F n i s t o))))
section
variable {α : Type} {or : α → α → α} {le : α → α → Prop} {F : tF} {n : Nat}
theorem pSd_ge (hrf : ∀ x : α, le x x) (h1 : ∀ x y : α, le x (or x y)) {L : Nat} {s t : pT α} {rv : Int32} (h : pSd or n L s t rv) : (∀ j : Nat, le (s.2.1 j) (t.2.1 j)) ∧ ∀ M : Nat, s.2.2.1 M ≠ 0 → t.2.2.1 M ≠ 0 := by
  refine ⟨fun j => ?_, fun M hM => ?_⟩
  · rw [h.2.1 j]
    by_cases c : L * 40 ≤ j ∧ j < L * 40 + n
    · rw [if_pos c]; exact h1 _ _
    · rw [if_neg c]; exact hrf _
  · by_cases e : M = L
    · rw [e]; exact h.2.2.1
    · rw [h.2.2.2.1 M e]; exact hM
theorem pSd_at (h2 : ∀ x y : α, le y (or x y)) {L : Nat} {s t : pT α} {rv : Int32} (h : pSd or n L s t rv) : ∀ v : Nat, v < n → le (s.1 v) (t.2.1 (L * 40 + v)) := fun v hv => by
  rw [h.2.1 (L * 40 + v), if_pos (by omega), show L * 40 + v - L * 40 = v by omega]
  exact h2 _ _
theorem pSd_ne (hn : n ≤ 40) {L M : Nat} {s t : pT α} {rv : Int32} (h : pSd or n L s t rv) (e : M ≠ L) : (∀ v : Nat, v < n → t.2.1 (M * 40 + v) = s.2.1 (M * 40 + v)) ∧ t.2.2.1 M = s.2.2.1 M :=
  ⟨fun v hv => by rw [h.2.1, if_neg (by omega)], h.2.2.2.1 M e⟩
theorem pSw_al (hrf : ∀ x : α, le x x) (htr : ∀ x y z : α, le x y → le y z → le x z) (h1 : ∀ x y : α, le x (or x y)) (h2 : ∀ x y : α, le y (or x y)) (hn : n ≤ 40) {tb : Nat} : ∀ {c : Nat} {s t : pT α}, pSw or F n tb c s t → t.1 = s.1 ∧ t.2.2.2 = s.2.2.2 ∧ (∀ j : Nat, le (s.2.1 j) (t.2.1 j)) ∧ (∀ M : Nat, s.2.2.1 M ≠ 0 → t.2.2.1 M ≠ 0) ∧ (∀ g L : Nat, g < c → F 13 (tb + g) = nI L → L < 1100 → t.2.2.1 L ≠ 0 ∧ ∀ v : Nat, v < n → le (s.1 v) (t.2.1 (L * 40 + v))) ∧ ∀ M : Nat, M < 1100 → (∀ g : Nat, g < c → F 13 (tb + g) ≠ nI M) → (∀ v : Nat, v < n → t.2.1 (M * 40 + v) = s.2.1 (M * 40 + v)) ∧ t.2.2.1 M = s.2.2.1 M
  | 0, s, t, h => by
    obtain rfl : t = s := h
    exact ⟨rfl, rfl, fun _ => hrf _, fun _ q => q, fun g L hg => absurd hg (by omega), fun _ _ _ => ⟨fun _ _ => rfl, rfl⟩⟩
  | c + 1, s, t, h => by
    obtain ⟨u, L, rv, g1, g2, g3, g4⟩ := h
    obtain ⟨e1, e2, e3, e4, e5, e6⟩ := pSw_al hrf htr h1 h2 hn g1
    have k := pSd_ge hrf h1 g4
    refine ⟨g4.1.trans e1, g4.2.2.2.2.1.trans e2, fun j => htr _ _ _ (e3 j) (k.1 j), fun M q => k.2 M (e4 M q), fun g M hg hM hM2 => ?_, fun M hM q => ?_⟩
    · by_cases e : M = L
      · subst e
        exact ⟨g4.2.2.1, fun v hv => by have := pSd_at h2 g4 v hv; rw [e1] at this; exact this⟩
      · have hgc : g < c := by
          rcases Nat.lt_or_ge g c with z | z
          · exact z
          · rw [show g = c by omega] at hM
            exact absurd ((nI_eq (a := L) (b := M) (by omega) (by omega)).mp (g2.symm.trans hM)).symm e
        obtain ⟨x1, x2⟩ := e5 g M hgc hM hM2
        obtain ⟨y1, y2⟩ := pSd_ne hn g4 e
        exact ⟨by rw [y2]; exact x1, fun v hv => by rw [y1 v hv]; exact x2 v hv⟩
    · have e : M ≠ L := fun z => q c (by omega) (by rw [g2, z])
      obtain ⟨x1, x2⟩ := e6 M hM (fun g hg => q g (by omega))
      obtain ⟨y1, y2⟩ := pSd_ne hn g4 e
      exact ⟨fun v hv => (y1 v hv).trans (x1 v hv), y2.trans x2⟩
theorem nI_33 {o p : Nat} (h1 : o < 33) (h2 : p < 33) (h : nI o = nI p) : o = p := (nI_eq (by omega) (by omega)).mp h
theorem pR_S (hrf : ∀ x : α, le x x) (htr : ∀ x y z : α, le x y → le y z → le x z) (h1 : ∀ x y : α, le x (or x y)) (h2 : ∀ x y : α, le y (or x y)) (hn : n ≤ 40) {i : Nat} {s t : pT α} (h : pR or F n i s t) : pS le F n i s t := by
  obtain ⟨o, ho, h33, h⟩ := h
  rcases h with ⟨hl, L, L1, L2, r1, r2, r3, h⟩ | ⟨n13, n14, h⟩
  · have hil : isL (F 0 i) := by rcases hl with z | z <;> rw [ho, z]; exact Or.inl rfl; exact Or.inr rfl
    have hng : ∀ M : Nat, ¬ tgt F i M := fun M q => by
      rcases q with ⟨q, -⟩ | ⟨q, -⟩
      · rw [ho] at q
        rcases hl with z | z <;> rw [z] at q <;> exact absurd q (by decide)
      · rw [ho] at q
        rcases hl with z | z <;> rw [z] at q <;> exact absurd q (by decide)
    refine ⟨fun j => by rw [r1]; exact hrf _, fun M q => by rw [r2]; exact q, fun _ M m1 m2 => ?_, fun q => absurd hil q, fun q => absurd hil q, fun _ q => ?_, fun q => ⟨by rw [← r3]; exact q, fun M m1 m2 => ⟨fun v hv => by rw [r1], fun z => by rw [← r2]; exact z⟩⟩, fun q => absurd hil q⟩
    · obtain rfl : L = M := (nI_eq (a := L) (b := M) (by omega) (by omega)).mp (L1.symm.trans m2)
      refine ⟨r1, r2, r3, fun z => ?_, fun z => ?_⟩
      · rcases h with ⟨-, h⟩ | ⟨h, -⟩
        · rw [h]; exact ⟨rfl, rfl⟩
        · exact absurd z h
      · rcases h with ⟨h, -⟩ | ⟨-, g1, g2⟩
        · exact absurd h z
        · refine ⟨by rw [g2]; decide, fun v hv => ?_⟩
          rw [g1 v hv]
          by_cases c : s.2.2.2.1 = 0
          · rw [if_pos c]; exact ⟨hrf _, fun q => absurd c q⟩
          · rw [if_neg c]; exact ⟨h2 _ _, fun _ => h1 _ _⟩
    · rw [q] at hil; rcases hil with z | z <;> exact absurd z (by decide)
  · have hil : ¬ isL (F 0 i) := fun q => by
      rw [ho] at q
      rcases q with z | z
      · exact n13 (nI_33 h33 (by omega) z)
      · exact n14 (nI_33 h33 (by omega) z)
    rcases h with ⟨hz, rfl⟩ | ⟨hz, hf⟩
    · exact ⟨fun j => hrf _, fun M q => q, fun q => absurd q hil, fun _ _ => rfl, fun _ q => absurd hz q, fun q => absurd hz q, fun q => ⟨q, fun M _ _ => ⟨fun v hv => rfl, fun z => z⟩⟩, fun _ q => absurd hz q⟩
    · obtain ⟨f15, f16, f17, f20, f22, fo⟩ := hf
      have ho2 : ∀ p : Nat, p < 33 → F 0 i = nI p → o = p := fun p hp e => nI_33 h33 hp (ho.symm.trans e)
      -- the targets
      have tg1 : ∀ M : Nat, tgt F i M → o ≠ 16 → o ≠ 17 → o ≠ 18 → o ≠ 19 → o ≠ 20 → False := fun M q a1 a2 a3 a4 a5 => by
        rcases q with ⟨q, -⟩ | ⟨q, -⟩
        · rcases q with q | q | q | q
          · exact a1 (ho2 16 (by omega) q)
          · exact a2 (ho2 17 (by omega) q)
          · exact a3 (ho2 18 (by omega) q)
          · exact a4 (ho2 19 (by omega) q)
        · exact a5 (ho2 20 (by omega) q)
      have nuo : ∀ p : Nat, p < 33 → F 0 i = nI p → nu o → nu p := fun p hp e q => by rw [← ho2 p hp e]; exact q
      by_cases e15 : o = 15
      · obtain ⟨L, u, rv, l1, l2, l3, l4⟩ := f15 e15
        obtain ⟨k1, k2⟩ := pSd_ge hrf h1 l3
        have kr : t.2.2.2.2 = 0 → rv = 0 ∧ s.2.2.2.2 = 0 := fun q => by
          rw [l4] at q
          have q : (if rv = 0 then (if s.2.2.2.2 = 0 then (0 : Int32) else 1) else 1) = 0 := q
          by_cases c : rv = 0
          · rw [if_pos c] at q
            by_cases c2 : s.2.2.2.2 = 0
            · exact ⟨c, c2⟩
            · rw [if_neg c2] at q; exact absurd q (by decide)
          · rw [if_neg c] at q; exact absurd q (by decide)
        refine ⟨fun j => by rw [l4]; exact k1 j, fun M q => by rw [l4]; exact k2 M q, fun q => absurd q hil, fun _ q => absurd q hz, fun _ _ M _ q => absurd (tg1 M q (by omega) (by omega) (by omega) (by omega) (by omega)) id, fun _ _ q M m1 m2 => ?_, fun q => ⟨(kr q).2, fun M m1 m2 => ?_⟩, fun _ _ p hp e => ⟨fun q => absurd (ho2 p hp e) (by have := q.1; omega), fun _ => by rw [l4]⟩⟩
        · obtain rfl : L = M := (nI_eq (a := L) (b := M) (by omega) (by omega)).mp (l1.symm.trans m2)
          obtain ⟨w1, w2⟩ := l3.2.2.2.2.2 (kr q).1
          exact ⟨w1, fun v hv => by rw [← w2 v hv]; exact h2 _ _⟩
        · rw [l4]
          by_cases e : M = L
          · subst e
            obtain ⟨w1, w2⟩ := l3.2.2.2.2.2 (kr q).1
            refine ⟨fun v hv => ?_, fun _ => w1⟩
            show u.2.1 (M * 40 + v) = _
            rw [l3.2.1, if_pos (by omega), show M * 40 + v - M * 40 = v by omega]
            exact w2 v hv
          · obtain ⟨y1, y2⟩ := pSd_ne hn l3 e
            exact ⟨y1, fun z => by rw [← y2]; exact z⟩
      by_cases e16 : o = 16
      · obtain ⟨L, u, rv, l1, l2, l3, l4⟩ := f16 e16
        obtain ⟨k1, k2⟩ := pSd_ge hrf h1 l3
        refine ⟨fun j => by rw [l4]; exact k1 j, fun M q => by rw [l4]; exact k2 M q, fun q => absurd q hil, fun _ q => absurd q hz, fun _ _ M m1 q => ?_, fun _ q => absurd (ho2 15 (by omega) q) e15, fun q => ⟨by rw [l4] at q; exact q, fun M m1 m2 => ?_⟩, fun _ _ p hp e => ⟨fun q => absurd (ho2 p hp e) (by have := q.2.1; omega), fun _ => by rw [l4]⟩⟩
        · rcases q with ⟨-, q⟩ | ⟨q, -⟩
          · obtain rfl : L = M := (nI_eq (a := L) (b := M) (by omega) (by omega)).mp (l1.symm.trans q)
            rw [l4]
            exact ⟨l3.2.2.1, fun v hv => pSd_at h2 l3 v hv⟩
          · exact absurd (ho2 20 (by omega) q) (by omega)
        · rw [l4]
          obtain ⟨y1, y2⟩ := pSd_ne hn l3 (M := M) (fun e => m2 (Or.inl ⟨Or.inl (by rw [ho, e16]; rfl), by rw [l1, e]⟩))
          exact ⟨y1, fun z => by rw [← y2]; exact z⟩
      by_cases e17 : o = 17 ∨ o = 18 ∨ o = 19
      · obtain ⟨L, rv, l1, l2, l3⟩ := f17 e17
        obtain ⟨k1, k2⟩ := pSd_ge hrf h1 l3
        have ht : ∀ M : Nat, F 1 i = nI M → tgt F i M := fun M q => Or.inl ⟨by rcases e17 with z | z | z <;> rw [ho, z]; exact Or.inr (Or.inl rfl); exact Or.inr (Or.inr (Or.inl rfl)); exact Or.inr (Or.inr (Or.inr rfl)), q⟩
        refine ⟨k1, k2, fun q => absurd q hil, fun _ q => absurd q hz, fun _ _ M m1 q => ?_, fun _ q => absurd (ho2 15 (by omega) q) e15, fun q => ⟨by rw [← l3.2.2.2.2.1]; exact q, fun M m1 m2 => ?_⟩, fun _ _ p hp e => ⟨fun _ => by rw [l3.2.2.2.2.1]; exact hz, fun q => ?_⟩⟩
        · rcases q with ⟨-, q⟩ | ⟨q, -⟩
          · obtain rfl : L = M := (nI_eq (a := L) (b := M) (by omega) (by omega)).mp (l1.symm.trans q)
            exact ⟨l3.2.2.1, pSd_at h2 l3⟩
          · exact absurd (ho2 20 (by omega) q) (by omega)
        · obtain ⟨y1, y2⟩ := pSd_ne hn l3 (M := M) (fun e => m2 (ht M (by rw [l1, e])))
          exact ⟨y1, fun z => by rw [← y2]; exact z⟩
        · exact absurd (show nu p by rw [← ho2 p hp e]; exact ⟨e15, e16, by omega, by omega⟩) q
      by_cases e20 : o = 20
      · obtain ⟨tb, c, u, l1, l2, l3, l4, l5, l6⟩ := f20 e20
        obtain ⟨k1, k2, k3, k4, k5, k6⟩ := pSw_al hrf htr h1 h2 hn l5
        refine ⟨fun j => by rw [l6]; exact k3 j, fun M q => by rw [l6]; exact k4 M q, fun q => absurd q hil, fun _ q => absurd q hz, fun _ _ M m1 q => ?_, fun _ q => absurd (ho2 15 (by omega) q) e15, fun q => ⟨by rw [l6] at q; exact q, fun M m1 m2 => ?_⟩, fun _ _ p hp e => ⟨fun q => absurd (ho2 p hp e) (by have := q.2.2.1; omega), fun _ => by rw [l6]⟩⟩
        · rcases q with ⟨q, -⟩ | ⟨-, tb2, c2, g, q1, q2, q3, q4, q5, q6⟩
          · rcases q with q | q | q | q
            · exact absurd (ho2 16 (by omega) q) (by omega)
            · exact absurd (ho2 17 (by omega) q) (by omega)
            · exact absurd (ho2 18 (by omega) q) (by omega)
            · exact absurd (ho2 19 (by omega) q) (by omega)
          · obtain rfl : tb = tb2 := (nI_eq (a := tb) (b := tb2) (by omega) (by omega)).mp (l1.symm.trans q1)
            obtain rfl : c = c2 := (nI_eq (a := c) (b := c2) (by omega) (by omega)).mp (l2.symm.trans q2)
            rw [l6]
            exact k5 g M q5 q6 m1
        · rw [l6]
          obtain ⟨y1, y2⟩ := k6 M m1 (fun g hg z => m2 (Or.inr ⟨by rw [ho, e20]; rfl, tb, c, g, l1, l2, l3, l4, hg, z⟩))
          exact ⟨y1, fun z => by rw [← y2]; exact z⟩
      by_cases e22 : o = 22
      · have e := f22 e22
        refine ⟨fun j => by rw [e]; exact hrf _, fun M q => by rw [e]; exact q, fun q => absurd q hil, fun _ q => absurd q hz, fun _ _ M m1 q => absurd (tg1 M q (by omega) (by omega) (by omega) (by omega) (by omega)) id, fun _ q => absurd (ho2 15 (by omega) q) e15, fun q => ⟨by rw [e] at q; exact q, fun M m1 m2 => by rw [e]; exact ⟨fun _ _ => rfl, fun z => z⟩⟩, fun _ _ p hp e9 => ⟨fun q => absurd (ho2 p hp e9) (by have := q.2.2.2; omega), fun _ => by rw [e]⟩⟩
      · have e := fo e15 e16 (fun z => e17 (Or.inl z)) (fun z => e17 (Or.inr (Or.inl z))) (fun z => e17 (Or.inr (Or.inr z))) e20 e22
        refine ⟨fun j => by rw [e]; exact hrf _, fun M q => by rw [e]; exact q, fun q => absurd q hil, fun _ q => absurd q hz, fun _ _ M m1 q => absurd (tg1 M q (by omega) (by omega) (by omega) (by omega) (by omega)) id, fun _ q => absurd (ho2 15 (by omega) q) e15, fun q => ⟨by rw [e] at q; exact q, fun M m1 m2 => by rw [e]; exact ⟨fun _ _ => rfl, fun z => z⟩⟩, fun _ _ p hp e9 => ⟨fun _ => by rw [e]; exact hz, fun q => absurd (show nu p by rw [← ho2 p hp e9]; exact ⟨e15, e16, e20, e22⟩) q⟩⟩
end
end
-- d4.c3.lean.txt
section
/-- each bit of x is one of y -/
def iS (x y : Int32) : Prop := ∃ z : Int32, y = x ||| z
theorem iS_rf (x : Int32) : iS x x := ⟨x, (Int32.or_self).symm⟩
theorem iS_tr (x y z : Int32) (h1 : iS x y) (h2 : iS y z) : iS x z := by
  obtain ⟨a, rfl⟩ := h1
  obtain ⟨b, rfl⟩ := h2
  exact ⟨a ||| b, Int32.or_assoc _ _ _⟩
theorem iS_l (x y : Int32) : iS x (x ||| y) := ⟨y, rfl⟩
theorem iS_r (x y : Int32) : iS y (x ||| y) := ⟨x, Int32.or_comm _ _⟩
def mvp (s : mvT) : pT Int32 := (s.1, s.2.1, s.2.2.1, s.2.2.2.1, s.2.2.2.2.1)
theorem mvSd_p {n L : Nat} {s t : mvT} {rv : Int32} (h : mvSd n L s t rv) : pSd (fun x y => x ||| y) n L (mvp s) (mvp t) rv :=
  ⟨h.1, h.2.1, by show t.2.2.1 L ≠ 0; rw [h.2.2.1, pk_us]; exact nar1, fun M e => by show t.2.2.1 M = s.2.2.1 M; rw [h.2.2.1, pk_un e], by show (t.2.2.2.1, t.2.2.2.2.1) = (s.2.2.2.1, s.2.2.2.2.1); rw [h.2.2.2.1], h.2.2.2.2.1⟩
theorem mvSw_p {F : tF} {n tb : Nat} : ∀ {c : Nat} {s t : mvT}, mvSw F n tb c s t → pSw (fun x y => x ||| y) F n tb c (mvp s) (mvp t)
  | 0, s, t, h => congrArg mvp h
  | c + 1, s, t, h => by
    obtain ⟨u, L, rv, g1, g2, g3, g4⟩ := h
    exact ⟨mvp u, L, rv, mvSw_p g1, g2, g3, mvSd_p g4⟩
theorem mvR_p {F : tF} {n i : Nat} {et em az : Nat → Int32} {s t : mvT} (h : mvR F n et em az i s t) : pR (fun x y => x ||| y) F n i (mvp s) (mvp t) := by
  obtain ⟨o, ho, h33, h⟩ := h
  refine ⟨o, ho, h33, ?_⟩
  rcases h with ⟨hl, L, l1, l2, l3, l4, l5, h⟩ | ⟨n1, n2, h⟩
  · refine Or.inl ⟨hl, L, l1, l2, l3, l4, by show t.2.2.2.2.1 = s.2.2.2.2.1; rw [l5], ?_⟩
    rcases h with ⟨h1, h2⟩ | ⟨h1, h2, h3⟩
    · exact Or.inl ⟨h1, congrArg mvp h2⟩
    · exact Or.inr ⟨h1, fun v hv => by have := h2 v; rw [if_pos hv] at this; exact this, h3⟩
  · refine Or.inr ⟨n1, n2, ?_⟩
    rcases h with ⟨h1, h2⟩ | ⟨h1, h2⟩
    · exact Or.inl ⟨h1, congrArg mvp h2⟩
    · refine Or.inr ⟨h1, ?_⟩
      rcases mvLk_o o h2 with h2 | ⟨ho2, st, fi, h2⟩
      · refine ⟨fun e => ?_, fun e => ?_, fun e => ?_, fun e => ?_, fun e => ?_, fun a1 a2 a3 a4 a5 a6 a7 => ?_⟩
        · subst e
          obtain ⟨L, u, rv, q1, q2, q3, q4, q5, q6, -⟩ := h2
          refine ⟨L, mvp u, rv, q1, q2, mvSd_p q3, ?_⟩
          have e1 : t.1 = u.1 := congrArg (fun x : (Nat → Int32) × (Nat → Int32) × (Nat → Int32) => x.1) q4
          have e2 : t.2.1 = u.2.1 := congrArg (fun x : (Nat → Int32) × (Nat → Int32) × (Nat → Int32) => x.2.1) q4
          have e3 : t.2.2.1 = u.2.2.1 := congrArg (fun x : (Nat → Int32) × (Nat → Int32) × (Nat → Int32) => x.2.2) q4
          show (t.1, t.2.1, t.2.2.1, t.2.2.2.1, t.2.2.2.2.1) = _
          rw [e1, e2, e3, q5, q6]; rfl
        · subst e
          obtain ⟨L, u, rv, q1, q2, q3, q4⟩ := h2
          exact ⟨L, mvp u, rv, q1, q2, mvSd_p q3, congrArg mvp q4⟩
        · rcases e with rfl | rfl | rfl
          · obtain ⟨L, rv, q1, q2, q3⟩ := h2
            exact ⟨L, rv, q1, q2, mvSd_p q3⟩
          · obtain ⟨L, rv, q1, q2, q3⟩ := h2
            exact ⟨L, rv, q1, q2, mvSd_p q3⟩
          · obtain ⟨L, rv, q1, q2, q3⟩ := h2
            exact ⟨L, rv, q1, q2, mvSd_p q3⟩
        · subst e
          obtain ⟨tb, c, u, q1, q2, q3, q4, q5, q6⟩ := h2
          refine ⟨tb, c, mvp u, q1, q2, q3, q4, mvSw_p q5, ?_⟩
          rw [q6]
          show (u.1, u.2.1, u.2.2.1, (0 : Int32), u.2.2.2.2.1) = (u.1, u.2.1, u.2.2.1, 0, s.2.2.2.2.1)
          rw [(mvSw_ag q5).1]
        · subst e
          have h2 : t = (s.1, s.2.1, s.2.2.1, 0, s.2.2.2.2) := h2
          rw [h2]; rfl
        · rw [mvFl_o o a1 a2 a3 a4 a5 a6 a7 h2]
      · refine ⟨fun e => by omega, fun e => by omega, fun e => by omega, fun e => by omega, fun e => by omega, fun _ _ _ _ _ _ _ => ?_⟩
        rw [h2]; rfl
def lnp (s : lnT) : pT Int64 := (s.1, s.2.1, s.2.2.1, s.2.2.2.1, s.2.2.2.2.1)
theorem lnSd_p {n L : Nat} {s t : lnT} {rv : Int32} (h : lnSd n L s t rv) : pSd (fun x y => x ||| y) n L (lnp s) (lnp t) rv :=
  ⟨h.1, h.2.1, by show t.2.2.1 L ≠ 0; rw [h.2.2.1, pk_us]; exact nar1, fun M e => by show t.2.2.1 M = s.2.2.1 M; rw [h.2.2.1, pk_un e], by show (t.2.2.2.1, t.2.2.2.2.1) = (s.2.2.2.1, s.2.2.2.2.1); rw [h.2.2.2.1], h.2.2.2.2.1⟩
theorem lnSw_p {F : tF} {n tb : Nat} : ∀ {c : Nat} {s t : lnT}, lnSw F n tb c s t → pSw (fun x y => x ||| y) F n tb c (lnp s) (lnp t)
  | 0, s, t, h => congrArg lnp h
  | c + 1, s, t, h => by
    obtain ⟨u, L, rv, g1, g2, g3, g4⟩ := h
    exact ⟨lnp u, L, rv, lnSw_p g1, g2, g3, lnSd_p g4⟩
theorem lnPo_p {k : Nat} {s t : lnT} (h : lnPo k s t) : lnp t = lnp s := by
  obtain ⟨h1, h2, h3, h4, h5⟩ := lnPo_eq h
  show (t.1, t.2.1, t.2.2.1, t.2.2.2.1, t.2.2.2.2.1) = _
  rw [h1, h2, h3, h4, h5]; rfl
theorem lnR_p {F : tF} {C : lnC} {Q : lnQ} {i : Nat} {s t : lnT} (h : lnR F C Q i s t) : pR (fun x y => x ||| y) F C.2.2.2.2.2 i (lnp s) (lnp t) := by
  obtain ⟨o, ho, h33, h⟩ := h
  refine ⟨o, ho, h33, ?_⟩
  rcases h with ⟨hl, L, l1, l2, l3, l4, l5, h⟩ | ⟨n1, n2, h⟩
  · refine Or.inl ⟨hl, L, l1, l2, l3, l4, by show t.2.2.2.2.1 = s.2.2.2.2.1; rw [l5], ?_⟩
    rcases h with ⟨h1, h2⟩ | ⟨h1, h2, h3⟩
    · exact Or.inl ⟨h1, congrArg lnp h2⟩
    · exact Or.inr ⟨h1, fun v hv => by have := h2 v; rw [if_pos hv] at this; exact this, h3⟩
  · refine Or.inr ⟨n1, n2, ?_⟩
    rcases h with ⟨h1, h2⟩ | ⟨h1, h2⟩
    · exact Or.inl ⟨h1, congrArg lnp h2⟩
    · refine Or.inr ⟨h1, ?_⟩
      rcases lnLk_o o h2 with ⟨n22, h2⟩ | ⟨e22, g1, g2, g3, g4⟩ | ⟨ho2, n22, g1, g2, g3, g4⟩
      · refine ⟨fun e => ?_, fun e => ?_, fun e => ?_, fun e => ?_, fun e => absurd e n22, fun a1 a2 a3 a4 a5 a6 _ => ?_⟩
        · subst e
          obtain ⟨L, u, rv, q1, q2, q3, q4⟩ := h2
          exact ⟨L, lnp u, rv, q1, q2, lnSd_p q3, congrArg lnp q4⟩
        · subst e
          obtain ⟨L, u, rv, q1, q2, q3, q4⟩ := h2
          exact ⟨L, lnp u, rv, q1, q2, lnSd_p q3, congrArg lnp q4⟩
        · rcases e with rfl | rfl | rfl
          · obtain ⟨L, u, rv, q1, q2, q3, q4⟩ := h2
            exact ⟨L, rv, q1, q2, by rw [← lnPo_p q3]; exact lnSd_p q4⟩
          · obtain ⟨L, u, rv, q1, q2, q3, q4⟩ := h2
            exact ⟨L, rv, q1, q2, by rw [← lnPo_p q3]; exact lnSd_p q4⟩
          · obtain ⟨L, u, rv, q1, q2, q3, q4⟩ := h2
            exact ⟨L, rv, q1, q2, by rw [← lnPo_p q3]; exact lnSd_p q4⟩
        · subst e
          obtain ⟨tb, c, u, v, q1, q2, q3, q4, q5, q6, q7⟩ := h2
          exact ⟨tb, c, lnp v, q1, q2, q3, q4, by rw [← lnPo_p q5]; exact lnSw_p q6, congrArg lnp q7⟩
        · rw [lnFl_o o a1 a2 a3 a4 a5 a6 h2]
      · refine ⟨fun e => by omega, fun e => by omega, fun e => by omega, fun e => by omega, fun _ => ?_, fun _ _ _ _ _ _ e => absurd e22 e⟩
        show (t.2.1, t.2.2.1, t.2.2.2.1, t.2.2.2.2.1) = _
        rw [g1, g2, g3, g4]; rfl
      · refine ⟨fun e => by omega, fun e => by omega, fun e => by omega, fun e => by omega, fun e => absurd e n22, fun _ _ _ _ _ _ _ => ?_⟩
        show (t.2.1, t.2.2.1, t.2.2.2.1, t.2.2.2.2.1) = _
        rw [g1, g2, g3, g4]; rfl
end
-- d4.c4.lean.txt
section
/-- what an instruction of code o puts on the list of loans -/
def psh : Nat → Nat
  | 0 => 1
  | 1 => 1
  | 2 => 1
  | 3 => 1
  | 4 => 1
  | 9 => 1
  | 11 => 1
  | 21 => 1
  | _ => 0
theorem wl_a8 : ∀ {O : List tE}, (∀ x : tE, x ∈ O → ∃ v : Nat, x = (8, v, 0)) → wl O = 0
  | [], _ => rfl
  | x :: O, h => by
    obtain ⟨v, e⟩ := h x List.mem_cons_self
    show wl O + (if x.1 = 8 ∨ x.1 = 4 ∨ x.1 = 5 ∨ x.1 = 6 then 0 else 1) = 0
    rw [wl_a8 (fun y hy => h y (List.mem_cons_of_mem _ hy)), e, if_pos (Or.inl rfl)]
theorem wl_0n {a b c : Nat} {s : List tE} (h : ¬ (a = 8 ∨ a = 4 ∨ a = 5 ∨ a = 6)) : wl ((a, b, c) :: s) = wl s + 1 := wl_n (e := (a, b, c)) h
theorem wl_00 {a b c : Nat} {s : List tE} (h : a = 8 ∨ a = 4 ∨ a = 5 ∨ a = 6) : wl ((a, b, c) :: s) = wl s := by
  show wl s + (if a = 8 ∨ a = 4 ∨ a = 5 ∨ a = 6 then 0 else 1) = wl s
  rw [if_pos h, Nat.add_zero]
theorem some_i {s r : List tE} (h : some s = some r) : s = r := by injection h
/-- how deep the stack is behind instruction i -/
theorem wl_step {F X : tF} {G : Nat → Nat → Nat} {rs i : Nat} {k : Nat → Option (List tE)} {J K : Int32 → List tE → Prop} {s : List tE} : ∀ o : Nat, iOp F X G rs k J K i s o → po F G i o ≤ wl s ∧ (nu o → ∀ r : List tE, k (i + 1) = some r → wl r + po F G i o = wl s + psh o) ∧ (¬ nu o → wl s ≤ po F G i o)
  | 0, h => by
    obtain ⟨T, h1, h2⟩ := h
    refine ⟨Nat.zero_le _, fun _ r hr => ?_, fun q => absurd (by unfold nu; decide) q⟩
    obtain rfl := some_i (h2.symm.trans hr)
    show wl _ + 0 = wl s + 1
    rw [wl_0n (by decide)]
  | 1, h => by
    have h : k (i + 1) = some ((0, 1, 0) :: s) := h
    refine ⟨Nat.zero_le _, fun _ r hr => ?_, fun q => absurd (by unfold nu; decide) q⟩
    obtain rfl := some_i (h.symm.trans hr)
    show wl _ + 0 = wl s + 1
    rw [wl_0n (by decide)]
  | 2, h => by
    obtain ⟨p, T, mu, h1, h2, h3, h4⟩ := h
    refine ⟨Nat.zero_le _, fun _ r hr => ?_, fun q => absurd (by unfold nu; decide) q⟩
    obtain rfl := some_i (h4.symm.trans hr)
    show wl _ + 0 = wl s + 1
    rw [wl_t]
  | 3, h => by
    obtain ⟨p, T, h1, h2, h3, h4, h5⟩ := h
    refine ⟨Nat.zero_le _, fun _ r hr => ?_, fun q => absurd (by unfold nu; decide) q⟩
    obtain rfl := some_i (h5.symm.trans hr)
    show wl _ + 0 = wl s + 1
    rw [wl_t]
  | 4, h => by
    obtain ⟨p, T, b, m, mu, h1, h2, h3, h4, h5, h6, h7, h8⟩ := h
    refine ⟨Nat.zero_le _, fun _ r hr => ?_, fun q => absurd (by unfold nu; decide) q⟩
    rcases h8 with ⟨-, h8⟩ | ⟨-, -, h8⟩
    · obtain rfl := some_i (h8.symm.trans hr)
      show wl _ + 0 = wl s + 1
      rw [wl_0n (by decide)]
    · obtain rfl := some_i (h8.symm.trans hr)
      show wl _ + 0 = wl s + 1
      rw [wl_0n (by decide)]
  | 5, h => by
    refine ⟨Nat.zero_le _, fun _ r hr => ?_, fun q => absurd (by unfold nu; decide) q⟩
    obtain rfl := some_i ((h.2).symm.trans hr)
    rfl
  | 6, h => by
    refine ⟨Nat.zero_le _, fun _ r hr => ?_, fun q => absurd (by unfold nu; decide) q⟩
    obtain rfl := some_i ((h.2).symm.trans hr)
    rfl
  | 7, h => by
    obtain ⟨x, y, z, r0, h1, h2, h3, rfl, h5⟩ := h
    refine ⟨by rw [wl_0n (by decide)]; exact Nat.succ_le_succ (Nat.zero_le _), fun _ r hr => ?_, fun q => absurd (by unfold nu; decide) q⟩
    obtain rfl := some_i (h5.symm.trans hr)
    rw [wl_0n (by decide), wl_0n (by decide), wl_0n (by decide)]; rfl
  | 8, h => by
    obtain ⟨T, U, r0, h1, h2, h3, h4, h5, h6, h7, h8, rfl, h9⟩ := h
    refine ⟨Nat.zero_le _, fun _ r hr => ?_, fun q => absurd (by unfold nu; decide) q⟩
    obtain rfl := some_i (h9.symm.trans hr)
    rw [wl_0n (by decide), wl_t]; rfl
  | 9, h => by
    obtain ⟨sh, n, h1, h2, h3, h4, h5, h6⟩ := h
    refine ⟨Nat.zero_le _, fun _ r hr => ?_, fun q => absurd (by unfold nu; decide) q⟩
    obtain rfl := some_i (h6.symm.trans hr)
    show wl _ + 0 = wl s + 1
    rw [wl_p]
  | 10, h => by
    obtain ⟨sh, j, n, sn, r0, h1, h2, h3, h4, h5, h6, h7, h8, h9, rfl, h10⟩ := h
    refine ⟨by rw [wl_t]; exact Nat.succ_le_succ (Nat.zero_le _), fun _ r hr => ?_, fun q => absurd (by unfold nu; decide) q⟩
    obtain rfl := some_i (h10.symm.trans hr)
    rw [wl_t, wl_p, wl_p]; rfl
  | 11, h => by
    obtain ⟨g, h1, h2, h3⟩ := h
    refine ⟨Nat.zero_le _, fun _ r hr => ?_, fun q => absurd (by unfold nu; decide) q⟩
    obtain rfl := some_i (h3.symm.trans hr)
    show wl _ + 0 = wl s + 1
    rw [wl_0n (by decide)]
  | 12, h => by
    obtain ⟨sh, g, n, r0, h1, h2, h3, h4, h5, h6, h7, h8, rfl, h9⟩ := h
    have e : po F G i 12 = n := by show cN (F 2 i) = n; rw [h7, cN_nI (by omega)]
    rw [e, wl_app, wl_ps]
    refine ⟨Nat.le_add_right _ _, fun _ r hr => ?_, fun q => absurd (by unfold nu; decide) q⟩
    obtain rfl := some_i (h9.symm.trans hr)
    rw [wl_0n (by decide), wl_0n (by decide)]
    show wl r0 + 1 + n = n + (wl r0 + 1) + 0
    omega
  | 13, h => by
    refine ⟨Nat.zero_le _, fun _ r hr => ?_, fun q => absurd (by unfold nu; decide) q⟩
    obtain rfl := some_i (((show k (i + 1) = some s from h)).symm.trans hr)
    rfl
  | 14, h => by
    refine ⟨Nat.zero_le _, fun _ r hr => ?_, fun q => absurd (by unfold nu; decide) q⟩
    obtain rfl := some_i (((show k (i + 1) = some s from h)).symm.trans hr)
    rfl
  | 15, h => ⟨Nat.zero_le _, fun q => absurd q (by unfold nu; decide), fun _ => Nat.le_of_eq (wl_vl h.1)⟩
  | 16, h => ⟨Nat.zero_le _, fun q => absurd q (by unfold nu; decide), fun _ => Nat.le_of_eq (wl_vl h.1)⟩
  | 17, h => by
    obtain ⟨r0, rfl, ⟨h2, h3⟩, h4⟩ := h
    refine ⟨by rw [wl_0n (by decide)]; exact Nat.succ_le_succ (Nat.zero_le _), fun _ r hr => ?_, fun q => absurd (by unfold nu; decide) q⟩
    obtain rfl := some_i (h2.symm.trans hr)
    rw [wl_0n (by decide)]; rfl
  | 18, h => by
    obtain ⟨r0, rfl, h2, h4⟩ := h
    refine ⟨by rw [wl_0n (by decide)]; exact Nat.succ_le_succ (Nat.zero_le _), fun _ r hr => ?_, fun q => absurd (by unfold nu; decide) q⟩
    obtain rfl := some_i (h2.symm.trans hr)
    rw [wl_0n (by decide)]; rfl
  | 19, h => by
    obtain ⟨r0, rfl, h2, h4⟩ := h
    refine ⟨by rw [wl_0n (by decide)]; exact Nat.succ_le_succ (Nat.zero_le _), fun _ r hr => ?_, fun q => absurd (by unfold nu; decide) q⟩
    obtain rfl := some_i (h2.symm.trans hr)
    rw [wl_0n (by decide)]; rfl
  | 20, h => by
    obtain ⟨sh, n, tb, r0, h1, h2, h3, h4, h5, h6, ⟨h7, h0⟩, h8⟩ := h
    have e0 := wl_vl h0
    rcases h8 with ⟨rfl, -⟩ | ⟨q, m, hq, rfl, -⟩
    · rw [wl_0n (by decide), e0]
      exact ⟨Nat.le_refl _, fun q => absurd q (by unfold nu; decide), fun _ => Nat.le_refl _⟩
    · rw [wl_0n (by omega), e0]
      exact ⟨Nat.le_refl _, fun q => absurd q (by unfold nu; decide), fun _ => Nat.le_refl _⟩
  | 21, h => by
    obtain ⟨g, r0, h1, h2, rfl, h3⟩ := h
    have e : po F G i 21 = G g 0 := by show G (cN (F 1 i)) 0 = G g 0; rw [h2, cN_nI (by omega)]
    rw [e, wl_app, wl_as]
    refine ⟨Nat.le_add_right _ _, fun _ r hr => ?_, fun q => absurd (by unfold nu; decide) q⟩
    obtain rfl := some_i (h3.symm.trans hr)
    rw [wl_t]
    show wl r0 + 1 + G g 0 = G g 0 + wl r0 + 1
    omega
  | 22, h => by
    obtain ⟨T, O, h1, h2, h3, h4, h5⟩ := h
    have e0 : wl O = 0 := wl_a8 (fun x hx => by obtain ⟨v, e, -⟩ := h5 x hx; exact ⟨v, e⟩)
    rcases h4 with ⟨q, rfl⟩ | ⟨q, rfl, -⟩
    · have e : po F G i 22 = 1 := by show cN (F 2 i) = 1; rw [q]; rfl
      rw [e, wl_t, e0]
      exact ⟨Nat.le_refl _, fun q => absurd q (by unfold nu; decide), fun _ => Nat.le_refl _⟩
    · have e : po F G i 22 = 0 := by show cN (F 2 i) = 0; rw [q]; rfl
      rw [e, e0]
      exact ⟨Nat.le_refl _, fun q => absurd q (by unfold nu; decide), fun _ => Nat.le_refl _⟩
  | 23, h => by
    refine ⟨Nat.zero_le _, fun _ r hr => ?_, fun q => absurd (by unfold nu; decide) q⟩
    obtain rfl := some_i (((show k (i + 1) = some s from h)).symm.trans hr)
    rfl
  | 24, h => by
    obtain ⟨v, T, r0, h1, h2, h3, h4, h5, h6, rfl, h7⟩ := h
    refine ⟨by rw [wl_t]; exact Nat.succ_le_succ (Nat.zero_le _), fun _ r hr => ?_, fun q => absurd (by unfold nu; decide) q⟩
    obtain rfl := some_i (h7.symm.trans hr)
    rw [wl_00 (by decide), wl_t]; rfl
  | 25, h => by
    obtain ⟨v, h1, h2, h3, h4, h5⟩ := h
    refine ⟨Nat.zero_le _, fun _ r hr => ?_, fun q => absurd (by unfold nu; decide) q⟩
    obtain rfl := some_i (h5.symm.trans hr)
    rw [wl_00 (by decide)]; rfl
  | 26, h => by
    obtain ⟨p, v, n, T, pa, ro, mu, r0, h1, h2, h3, rfl, h5⟩ := h
    refine ⟨by rw [wl_t]; exact Nat.succ_le_succ (Nat.zero_le _), fun _ r hr => ?_, fun q => absurd (by unfold nu; decide) q⟩
    obtain rfl := some_i (h5.symm.trans hr)
    rw [wl_t]; rfl
  | 27, h => by
    obtain ⟨T, r0, h1, h2, rfl, h5⟩ := h
    refine ⟨by rw [wl_t]; exact Nat.succ_le_succ (Nat.zero_le _), fun _ r hr => ?_, fun q => absurd (by unfold nu; decide) q⟩
    obtain rfl := some_i (h5.symm.trans hr)
    rw [wl_t]; rfl
  | 28, h => by
    obtain ⟨T, r0, h1, h2, rfl, h5⟩ := h
    refine ⟨by rw [wl_0n (by decide)]; exact Nat.succ_le_succ (Nat.zero_le _), fun _ r hr => ?_, fun q => absurd (by unfold nu; decide) q⟩
    obtain rfl := some_i (h5.symm.trans hr)
    rw [wl_0n (by decide)]; rfl
  | 29, h => by
    obtain ⟨v, sh, g, j, n, T, r0, h1, h2, h3, h4, h5, h6, h7, h8, h9, h10, h11, h12, h13, h14, rfl, h15⟩ := h
    refine ⟨Nat.zero_le _, fun _ r hr => ?_, fun q => absurd (by unfold nu; decide) q⟩
    obtain rfl := some_i (h15.symm.trans hr)
    rw [wl_00 (by decide), wl_00 (by decide), wl_00 (by decide)]; rfl
  | 30, h => by
    obtain ⟨v, sh, g, j, n, T, b, q, r0, h1, h2, h3, h4, h5, h6, h7, h8, hq, h10, h11, h12, h13, h14, h15, h16, h17, rfl, h18⟩ := h
    refine ⟨Nat.zero_le _, fun _ r hr => ?_, fun q => absurd (by unfold nu; decide) q⟩
    obtain rfl := some_i (h18.symm.trans hr)
    rw [wl_00 (by omega), wl_00 (by decide), wl_00 (by omega)]; rfl
  | 31, h => by
    obtain ⟨r1, q, m, r0, rfl, h1, h2⟩ := h
    refine ⟨Nat.zero_le _, fun _ r hr => ?_, fun q => absurd (by unfold nu; decide) q⟩
    obtain rfl := some_i (h2.symm.trans hr)
    rw [wl_00 (by rcases h1 with ⟨z, -⟩ | ⟨z, -⟩ <;> omega)]; rfl
  | 32, h => by
    obtain ⟨v0, v1, O, r0, h1, h2, h3, h4, rfl, h5, h6, h7⟩ := h
    refine ⟨Nat.zero_le _, fun _ r hr => ?_, fun q => absurd (by unfold nu; decide) q⟩
    obtain rfl := some_i (h7.symm.trans hr)
    rw [wl_app, wl_a8 (O := O) (fun x hx => by obtain ⟨v, e, -⟩ := h5 x hx; exact ⟨v, e⟩)]
    show wl r0 + 0 = 0 + wl r0 + 0
    omega
  | n + 33, h => h.elim
/-- temps, how many -/
def lnF (s : lnT) : Nat → Int64 := s.2.2.2.2.2.2.1
def lnN (s : lnT) : Nat := s.2.2.2.2.2.2.2.1
def lnB (s : lnT) : Nat → Int64 := s.2.2.2.2.2.2.2.2
theorem popF_n {ft : Nat → Int64} : ∀ (k tn : Nat) (x : Int64), (popF ft k tn x).1 = tn - k
  | 0, tn, x => rfl
  | k + 1, 0, x => by show (0 : Nat) = 0 - (k + 1); omega
  | k + 1, tn + 1, x => by show (popF ft k tn (x ||| ft tn)).1 = tn + 1 - (k + 1); rw [popF_n k tn]; omega
theorem popF_e {ft : Nat → Int64} {k tn tn2 : Nat} {x y : Int64} (h : (tn2, y) = popF ft k tn x) : tn2 = tn - k := (congrArg Prod.fst h).trans (popF_n k tn x)
theorem lnCl_n {rl : Int32} {pl : Nat → Int32} {ft : Nat → Int64} : ∀ {n : Nat} {s t : Nat × Int64}, lnCl rl pl ft n s t → t.1 = s.1 - n
  | 0, s, t, h => by
    have h : t = s := h
    rw [h]; omega
  | n + 1, s, t, h => by
    obtain ⟨tn2, x, h1, h2⟩ := h
    have e := lnCl_n h2
    have e1 := popF_e h1
    have e2 : t.1 = tn2 - n := e
    omega
theorem lnPo_n {k : Nat} {s t : lnT} (h : lnPo k s t) : lnN t = lnN s - k ∧ lnF t = lnF s := by
  obtain ⟨x, h1, h2⟩ := h
  exact ⟨popF_e h1, by unfold lnF; rw [h2]; rfl⟩
theorem lnSd_n {n L : Nat} {s t : lnT} {rv : Int32} (h : lnSd n L s t rv) : lnN t = lnN s ∧ lnF t = lnF s := by
  unfold lnN lnF; rw [h.2.2.2.1]; exact ⟨rfl, rfl⟩
theorem lnSw_n {F : tF} {n tb c : Nat} {s t : lnT} (h : lnSw F n tb c s t) : lnN t = lnN s ∧ lnF t = lnF s := by
  unfold lnN lnF; rw [(lnSw_ag h).1]; exact ⟨rfl, rfl⟩
/-- what an instruction does to the temps -/
theorem lnE {F : tF} {G : Nat → Nat → Nat} {C : lnC} {Q : lnQ} {i : Nat} {s t : lnT} (hG : ∀ g : Nat, g < Q.2.2.2.2.2.1 → Q.2.2.2.2.2.2.1 g 3 = nI (G g 0) ∧ G g 0 ≤ 12) (h22 : F 0 i = 22 → F 2 i = 0 ∨ F 2 i = 1) (hgb : ∀ g : Nat, g < Q.2.2.2.2.2.1 → g < 2 ^ 31) : ∀ o : Nat, F 0 i = nI o → o < 33 → lnLk F C Q i s t o → (psh o = 0 ∧ lnN t = lnN s - po F G i o ∧ lnF t = lnF s) ∨ (psh o = 1 ∧ ∃ x : Int64, psR (lnF s) (lnN s - po F G i o) x (lnF t) (lnN t))
  | 0, ho, _, h => by
    obtain ⟨gt, tn2, h1, rfl⟩ := h
    exact Or.inr ⟨rfl, _, h1⟩
  | 1, ho, _, h => by
    obtain ⟨gt, tn2, h1, rfl⟩ := h
    exact Or.inr ⟨rfl, _, h1⟩
  | 2, ho, _, h => by
    obtain ⟨p, v, u, h1, h2, h3, h4, rfl, h5⟩ := h
    rcases h5 with ⟨-, gt, tn2, h6, rfl⟩ | ⟨-, gt, tn2, h6, rfl⟩
    · exact Or.inr ⟨rfl, _, h6⟩
    · exact Or.inr ⟨rfl, _, h6⟩
  | 3, ho, _, h => by
    obtain ⟨p, v, u, h1, h2, h3, h4, rfl, h5⟩ := h
    rcases h5 with ⟨-, gt, tn2, h6, rfl⟩ | ⟨-, gt, tn2, h6, rfl⟩
    · exact Or.inr ⟨rfl, _, h6⟩
    · exact Or.inr ⟨rfl, _, h6⟩
  | 4, ho, _, h => by
    obtain ⟨p, v, b, x, gt, tn2, h1, h2, h3, h4, h5, h6, h7, h8, rfl⟩ := h
    exact Or.inr ⟨rfl, _, h8⟩
  | 5, ho, _, h => by
    have h : t = s := h
    rw [h]; exact Or.inl ⟨rfl, rfl, rfl⟩
  | 6, ho, _, h => by
    have h : t = s := h
    rw [h]; exact Or.inl ⟨rfl, rfl, rfl⟩
  | 7, ho, _, h => Or.inl ⟨rfl, (lnPo_n h).1, (lnPo_n h).2⟩
  | 8, ho, _, h => by
    have h : t = s := h
    rw [h]; exact Or.inl ⟨rfl, rfl, rfl⟩
  | 9, ho, _, h => by
    obtain ⟨gt, tn2, h1, rfl⟩ := h
    exact Or.inr ⟨rfl, _, h1⟩
  | 10, ho, _, h => Or.inl ⟨rfl, (lnPo_n h).1, (lnPo_n h).2⟩
  | 11, ho, _, h => by
    obtain ⟨gt, tn2, h1, rfl⟩ := h
    exact Or.inr ⟨rfl, _, h1⟩
  | 12, ho, _, h => by
    obtain ⟨n, h1, h2, h3⟩ := h
    have e : po F G i 12 = n := by show cN (F 2 i) = n; rw [h2, cN_nI (by omega)]
    rw [e]; exact Or.inl ⟨rfl, (lnPo_n h3).1, (lnPo_n h3).2⟩
  | 13, ho, _, h => by
    have h : t = s := h
    rw [h]; exact Or.inl ⟨rfl, rfl, rfl⟩
  | 14, ho, _, h => by
    have h : t = s := h
    rw [h]; exact Or.inl ⟨rfl, rfl, rfl⟩
  | 15, ho, _, h => by
    obtain ⟨L, u, rv, q1, q2, q3, rfl⟩ := h
    exact Or.inl ⟨rfl, (lnSd_n q3).1, (lnSd_n q3).2⟩
  | 16, ho, _, h => by
    obtain ⟨L, u, rv, q1, q2, q3, rfl⟩ := h
    exact Or.inl ⟨rfl, (lnSd_n q3).1, (lnSd_n q3).2⟩
  | 17, ho, _, h => by
    obtain ⟨L, u, rv, q1, q2, q3, q4⟩ := h
    exact Or.inl ⟨rfl, (lnSd_n q4).1.trans (lnPo_n q3).1, (lnSd_n q4).2.trans (lnPo_n q3).2⟩
  | 18, ho, _, h => by
    obtain ⟨L, u, rv, q1, q2, q3, q4⟩ := h
    exact Or.inl ⟨rfl, (lnSd_n q4).1.trans (lnPo_n q3).1, (lnSd_n q4).2.trans (lnPo_n q3).2⟩
  | 19, ho, _, h => by
    obtain ⟨L, u, rv, q1, q2, q3, q4⟩ := h
    exact Or.inl ⟨rfl, (lnSd_n q4).1.trans (lnPo_n q3).1, (lnSd_n q4).2.trans (lnPo_n q3).2⟩
  | 20, ho, _, h => by
    obtain ⟨tb, c, u, v, q1, q2, q3, q4, q5, q6, rfl⟩ := h
    exact Or.inl ⟨rfl, (lnSw_n q6).1.trans (lnPo_n q5).1, (lnSw_n q6).2.trans (lnPo_n q5).2⟩
  | 21, ho, _, h => by
    obtain ⟨g, h1, h2, n, x, t1, gt, tn2, q1, q2, q3, q4, rfl⟩ := h
    obtain ⟨e1, e2⟩ := hG g h2
    have en : n = G g 0 := (nI_eq (a := n) (b := G g 0) (by omega) (by omega)).mp (q1.symm.trans e1)
    have e3 : t1 = lnN s - n := lnCl_n q3
    have e : po F G i 21 = n := by
      show G (cN (F 1 i)) 0 = n
      rw [h1, cN_nI (hgb g h2), en]
    rw [e, ← e3]
    rcases q4 with ⟨-, q4⟩ | ⟨-, q4⟩
    · exact Or.inr ⟨rfl, _, q4⟩
    · exact Or.inr ⟨rfl, _, q4⟩
  | 22, ho, _, h => by
    obtain ⟨x, f1, g6, g8, h1, h2, h3, rfl⟩ := h
    rcases h1 with ⟨q, h1⟩ | ⟨q, h1, -⟩
    · have e : po F G i 22 = 1 := by show cN (F 2 i) = 1; rw [q]; rfl
      rw [e]; exact Or.inl ⟨rfl, popF_e h1, rfl⟩
    · have e : po F G i 22 = 0 := by show cN (F 2 i) = 0; rw [(h22 ho).resolve_right q]; rfl
      rw [e]; exact Or.inl ⟨rfl, h1, rfl⟩
  | 23, ho, _, h => by
    have h : t = s := h
    rw [h]; exact Or.inl ⟨rfl, rfl, rfl⟩
  | 24, ho, _, h => by
    obtain ⟨v, x, tn2, h1, h2, h3, rfl⟩ := h
    exact Or.inl ⟨rfl, popF_e h3, rfl⟩
  | 25, ho, _, h => by
    obtain ⟨v, h1, h2, rfl⟩ := h
    exact Or.inl ⟨rfl, rfl, rfl⟩
  | 26, ho, _, h => by
    obtain ⟨p, v, x, tn2, h1, h2, h3, h4, h5, h6⟩ := h
    rcases h6 with ⟨-, rfl⟩ | ⟨-, rfl⟩
    · exact Or.inl ⟨rfl, popF_e h5, rfl⟩
    · exact Or.inl ⟨rfl, popF_e h5, rfl⟩
  | 27, ho, _, h => Or.inl ⟨rfl, (lnPo_n h).1, (lnPo_n h).2⟩
  | 28, ho, _, h => Or.inl ⟨rfl, (lnPo_n h).1, (lnPo_n h).2⟩
  | 29, ho, _, h => by
    obtain ⟨v, h1, h2, rfl⟩ := h
    exact Or.inl ⟨rfl, rfl, rfl⟩
  | 30, ho, _, h => by
    obtain ⟨v, b, h1, h2, h3, h4, rfl⟩ := h
    exact Or.inl ⟨rfl, rfl, rfl⟩
  | 31, ho, _, h => by
    have h : t = s := h
    rw [h]; exact Or.inl ⟨rfl, rfl, rfl⟩
  | 32, ho, _, h => by
    obtain ⟨v0, v1, g1, g6, h1, h2, h3, h4, h5, rfl⟩ := h
    exact Or.inl ⟨rfl, rfl, rfl⟩
  | n + 33, _, h, _ => absurd h (by omega)
end
-- d4.c5.lean.txt
section
/-- what is known of Loans' last pass h over the code from a to b -/
def lnW (F X : tF) (G : Nat → Nat → Nat) (rs a b : Nat) (k : Nat → Option (List tE)) (C : lnC) (Q : lnQ) (h : Nat → lnT) : Prop :=
  (ceI F X G rs a b k) ∧
  (∀ (i : Nat) (s : List tE), a ≤ i → i < b → k i = some s → vl s ≤ 211) ∧
  (C.2.2.2.2.2 ≤ 40) ∧
  (∀ i : Nat, a ≤ i → i < b → lnR F C Q i (h i) (h (i + 1))) ∧
  (∀ i : Nat, a ≤ i → i < b → (h i).2.2.2.1 ≠ 0 → ∃ s : List tE, k i = some s) ∧
  (∀ i : Nat, a ≤ i → i < b → rcK F k a b (h i).2.2.1) ∧
  (∀ g : Nat, g < Q.2.2.2.2.2.1 → Q.2.2.2.2.2.2.1 g 3 = nI (G g 0) ∧ G g 0 ≤ 12) ∧
  (Q.2.2.2.2.2.1 ≤ 40) ∧
  (lnN (h a) = 0) ∧
  ((h b).2.2.2.2.1 = 0)
theorem lnW.ce {F X : tF} {G : Nat → Nat → Nat} {rs a b : Nat} {k : Nat → Option (List tE)} {C : lnC} {Q : lnQ} {h : Nat → lnT} (w : lnW F X G rs a b k C Q h) : ceI F X G rs a b k := w.1
theorem lnW.v211 {F X : tF} {G : Nat → Nat → Nat} {rs a b : Nat} {k : Nat → Option (List tE)} {C : lnC} {Q : lnQ} {h : Nat → lnT} (w : lnW F X G rs a b k C Q h) : ∀ (i : Nat) (s : List tE), a ≤ i → i < b → k i = some s → vl s ≤ 211 := w.2.1
theorem lnW.n40 {F X : tF} {G : Nat → Nat → Nat} {rs a b : Nat} {k : Nat → Option (List tE)} {C : lnC} {Q : lnQ} {h : Nat → lnT} (w : lnW F X G rs a b k C Q h) : C.2.2.2.2.2 ≤ 40 := w.2.2.1
theorem lnW.tr {F X : tF} {G : Nat → Nat → Nat} {rs a b : Nat} {k : Nat → Option (List tE)} {C : lnC} {Q : lnQ} {h : Nat → lnT} (w : lnW F X G rs a b k C Q h) : ∀ i : Nat, a ≤ i → i < b → lnR F C Q i (h i) (h (i + 1)) := w.2.2.2.1
theorem lnW.al {F X : tF} {G : Nat → Nat → Nat} {rs a b : Nat} {k : Nat → Option (List tE)} {C : lnC} {Q : lnQ} {h : Nat → lnT} (w : lnW F X G rs a b k C Q h) : ∀ i : Nat, a ≤ i → i < b → (h i).2.2.2.1 ≠ 0 → ∃ s : List tE, k i = some s := w.2.2.2.2.1
theorem lnW.rk {F X : tF} {G : Nat → Nat → Nat} {rs a b : Nat} {k : Nat → Option (List tE)} {C : lnC} {Q : lnQ} {h : Nat → lnT} (w : lnW F X G rs a b k C Q h) : ∀ i : Nat, a ≤ i → i < b → rcK F k a b (h i).2.2.1 := w.2.2.2.2.2.1
theorem lnW.hG {F X : tF} {G : Nat → Nat → Nat} {rs a b : Nat} {k : Nat → Option (List tE)} {C : lnC} {Q : lnQ} {h : Nat → lnT} (w : lnW F X G rs a b k C Q h) : ∀ g : Nat, g < Q.2.2.2.2.2.1 → Q.2.2.2.2.2.2.1 g 3 = nI (G g 0) ∧ G g 0 ≤ 12 := w.2.2.2.2.2.2.1
theorem lnW.nb40 {F X : tF} {G : Nat → Nat → Nat} {rs a b : Nat} {k : Nat → Option (List tE)} {C : lnC} {Q : lnQ} {h : Nat → lnT} (w : lnW F X G rs a b k C Q h) : Q.2.2.2.2.2.1 ≤ 40 := w.2.2.2.2.2.2.2.1
theorem lnW.t0 {F X : tF} {G : Nat → Nat → Nat} {rs a b : Nat} {k : Nat → Option (List tE)} {C : lnC} {Q : lnQ} {h : Nat → lnT} (w : lnW F X G rs a b k C Q h) : lnN (h a) = 0 := w.2.2.2.2.2.2.2.2.1
theorem lnW.ag {F X : tF} {G : Nat → Nat → Nat} {rs a b : Nat} {k : Nat → Option (List tE)} {C : lnC} {Q : lnQ} {h : Nat → lnT} (w : lnW F X G rs a b k C Q h) : (h b).2.2.2.2.1 = 0 := w.2.2.2.2.2.2.2.2.2
section
variable {F X : tF} {G : Nat → Nat → Nat} {rs a b : Nat} {k : Nat → Option (List tE)} {C : lnC} {Q : lnQ} {h : Nat → lnT}
theorem lnW_p (w : lnW F X G rs a b k C Q h) : ∀ i : Nat, a ≤ i → i < b → pS lS F C.2.2.2.2.2 i (lnp (h i)) (lnp (h (i + 1))) := fun i h1 h2 => pR_S (or := fun x y => x ||| y) lS_rf (fun x y z => lS_tr) lS_orl (fun x y q hq hb => by rw [lbit_or, hb, Bool.or_true]) w.n40 (lnR_p (w.tr i h1 h2))
theorem ce_lb (hc : ceI F X G rs a b k) : ∀ i : Nat, a ≤ i → i < b → isL (F 0 i) → ∃ L : Nat, L < 1100 ∧ F 1 i = nI L := fun i h1 h2 h3 => by
  obtain ⟨L, l1, l2, -⟩ := hc.2.2 i h1 h2 h3
  exact ⟨L, l1, l2⟩
/-- a label's stack goes on -/
theorem ce_l (hc : ceI F X G rs a b k) {i : Nat} {s : List tE} (h1 : a ≤ i) (h2 : i < b) (hl : isL (F 0 i)) (hs : k i = some s) : k (i + 1) = some s := by
  rcases hl with z | z
  · exact ce_op (o := 13) hc h1 h2 hs z (by decide)
  · exact ce_op (o := 14) hc h1 h2 hs z (by decide)
theorem isL_nI {o : Nat} (ho : o < 33) (h : isL (nI o)) : o = 13 ∨ o = 14 := by
  rcases h with z | z
  · exact Or.inl (nI_33 ho (by omega) z)
  · exact Or.inr (nI_33 ho (by omega) z)
/-- one instruction, not a label, that is reached -/
theorem lnW_1 (w : lnW F X G rs a b k C Q h) {i : Nat} {s : List tE} (h1 : a ≤ i) (h2 : i < b) (hl : ¬ isL (F 0 i)) (ha : (h i).2.2.2.1 ≠ 0) (hs : k i = some s) : ∃ o : Nat, o < 33 ∧ F 0 i = nI o ∧ lnLk F C Q i (h i) (h (i + 1)) o ∧ po F G i o ≤ wl s ∧ (nu o → ∀ r : List tE, k (i + 1) = some r → wl r + po F G i o = wl s + psh o) ∧ (¬ nu o → wl s ≤ po F G i o) ∧ ((psh o = 0 ∧ lnN (h (i + 1)) = lnN (h i) - po F G i o ∧ lnF (h (i + 1)) = lnF (h i)) ∨ (psh o = 1 ∧ ∃ x : Int64, psR (lnF (h i)) (lnN (h i) - po F G i o) x (lnF (h (i + 1))) (lnN (h (i + 1))))) := by
  obtain ⟨o, ho, h33, hr⟩ := w.tr i h1 h2
  rcases hr with ⟨hl2, -⟩ | ⟨n13, n14, hr⟩
  · exact absurd (by rw [ho]; rcases hl2 with z | z <;> rw [z]; exact Or.inl rfl; exact Or.inr rfl) hl
  · rcases hr with ⟨z, -⟩ | ⟨-, hk⟩
    · exact absurd z ha
    · have hop := ce_op w.ce h1 h2 hs ho h33
      obtain ⟨q1, q2, q3⟩ := wl_step o hop
      refine ⟨o, h33, ho, hk, q1, q2, q3, lnE w.hG (fun e => ?_) (fun g hg => by have := w.nb40; omega) o ho h33 hk⟩
      have e22 : o = 22 := nI_33 h33 (by omega) (ho.symm.trans e)
      subst e22
      obtain ⟨T, O, -, -, -, h4, -⟩ := hop
      rcases h4 with ⟨q, -⟩ | ⟨q, -⟩
      · exact Or.inr q
      · exact Or.inl q
theorem nu_sh {o : Nat} (ho : o < 33) (h : ¬ nu o) : psh o = 0 := by
  by_cases e1 : o = 15
  · rw [e1]; rfl
  by_cases e2 : o = 16
  · rw [e2]; rfl
  by_cases e3 : o = 20
  · rw [e3]; rfl
  by_cases e4 : o = 22
  · rw [e4]; rfl
  exact absurd ⟨e1, e2, e3, e4⟩ h
/-- of temps there are at most as many as values stand in the stack; where no way comes: none -/
theorem lnW_T (w : lnW F X G rs a b k C Q h) : ∀ d i : Nat, i = a + d → i ≤ b → ((h i).2.2.2.1 ≠ 0 → ∀ s : List tE, i < b → k i = some s → lnN (h i) ≤ wl s) ∧ ((h i).2.2.2.1 = 0 → lnN (h i) = 0)
  | 0, i, e, hb => by
    rw [show i = a by omega, w.t0]
    exact ⟨fun _ s _ _ => Nat.zero_le _, fun _ => rfl⟩
  | d + 1, i, e, hb => by
    obtain ⟨j, rfl⟩ : ∃ j : Nat, i = j + 1 := ⟨a + d, by omega⟩
    obtain ⟨q1, q2⟩ := lnW_T w d j (by omega) (by omega)
    have hj1 : a ≤ j := by omega
    have hj2 : j < b := by omega
    by_cases c : isL (F 0 j)
    · obtain ⟨o, ho, h33, hr⟩ := w.tr j hj1 hj2
      rcases hr with ⟨hl2, L, l1, l2, l3, l4, l5, hr⟩ | ⟨n13, n14, hr⟩
      · have en : lnN (h (j + 1)) = lnN (h j) := by unfold lnN; rw [l5]
        rw [en]
        rcases hr with ⟨r1, r2⟩ | ⟨r1, r2, r3⟩
        · rw [r2]
          refine ⟨fun z s z2 z3 => ?_, q2⟩
          obtain ⟨s0, hs0⟩ := w.al j hj1 hj2 z
          have := ce_l w.ce hj1 hj2 c hs0
          rw [z3] at this
          rw [some_i this]
          exact q1 z s0 hj2 hs0
        · refine ⟨fun _ s z2 z3 => ?_, fun z => absurd z (by rw [r3]; decide)⟩
          by_cases z : (h j).2.2.2.1 = 0
          · rw [q2 z]; exact Nat.zero_le _
          · obtain ⟨s0, hs0⟩ := w.al j hj1 hj2 z
            have := ce_l w.ce hj1 hj2 c hs0
            rw [z3] at this
            rw [some_i this]
            exact q1 z s0 hj2 hs0
      · rw [ho] at c
        rcases isL_nI h33 c with z | z
        · exact absurd z n13
        · exact absurd z n14
    · by_cases z : (h j).2.2.2.1 = 0
      · have e9 := (lnW_p w j hj1 hj2).2.2.2.1 c z
        obtain ⟨o, ho, h33, hr⟩ := w.tr j hj1 hj2
        rcases hr with ⟨hl2, -⟩ | ⟨n13, n14, hr⟩
        · exact absurd (by rw [ho]; rcases hl2 with z | z <;> rw [z]; exact Or.inl rfl; exact Or.inr rfl) c
        · rcases hr with ⟨-, hr⟩ | ⟨hr, -⟩
          · rw [hr]; exact ⟨fun y => absurd z y, q2⟩
          · exact absurd z hr
      · obtain ⟨s, hs⟩ := w.al j hj1 hj2 z
        obtain ⟨o, h33, ho, hk, p1, p2, p3, p4⟩ := lnW_1 w hj1 hj2 c z hs
        have hn := q1 z s hj2 hs
        have hpn := (lnW_p w j hj1 hj2).2.2.2.2.2.2.2 c z o h33 ho
        refine ⟨fun y r hb2 hr => ?_, fun y => ?_⟩
        · have hu : nu o := by
            by_cases q : nu o
            · exact q
            · exact absurd (hpn.2 q) y
          have e1 := p2 hu r hr
          rcases p4 with ⟨g1, g2, -⟩ | ⟨g1, x, g2⟩
          · omega
          · rcases g2 with ⟨g2, g3, -⟩ | ⟨g2, g3, -⟩ <;> omega
        · have hu : ¬ nu o := fun q => hpn.1 q y
          have e1 := p3 hu
          have e2 := nu_sh h33 hu
          rcases p4 with ⟨g1, g2, -⟩ | ⟨g1, -⟩ <;> omega
/-- from p, where no value stands, the code up to i goes on without a jump -/
def crn (F : tF) (k : Nat → Option (List tE)) (h : Nat → lnT) (a p i : Nat) : Prop := a ≤ p ∧ p ≤ i ∧ cA F (fun j => lnp (h j)) p ∧ (∃ s : List tE, k p = some s ∧ wl s = 0) ∧ ∀ m : Nat, p ≤ m → m < i → isL (F 0 m) ∨ ∃ o : Nat, o < 33 ∧ F 0 m = nI o ∧ nu o
/-- there the temps are as many as the values -/
theorem crn_T (w : lnW F X G rs a b k C Q h) {p : Nat} : ∀ d i : Nat, i = p + d → i < b → crn F k h a p i → cA F (fun j => lnp (h j)) i ∧ ∃ s : List tE, k i = some s ∧ lnN (h i) = wl s
  | 0, i, e, hb, hc => by
    obtain rfl : i = p := by omega
    obtain ⟨h1, h2, h3, ⟨s, h4, h5⟩, h6⟩ := hc
    refine ⟨h3, s, h4, ?_⟩
    obtain ⟨q1, q2⟩ := lnW_T w (i - a) i (by omega) (by omega)
    by_cases z : (h i).2.2.2.1 = 0
    · rw [q2 z, h5]
    · have := q1 z s hb h4
      omega
  | d + 1, i, e, hb, hc => by
    obtain ⟨j, rfl⟩ : ∃ j : Nat, i = j + 1 := ⟨p + d, by omega⟩
    obtain ⟨h1, h2, h3, h4, h6⟩ := hc
    have hj2 : j < b := by omega
    obtain ⟨q1, s, q2, q3⟩ := crn_T w d j (by omega) hj2 ⟨h1, by omega, h3, h4, fun m m1 m2 => h6 m m1 (by omega)⟩
    have hfall := c_fall (le := lS) (h := fun j => lnp (h j)) lS_rf (lnW_p w) (ce_lb w.ce) (show a ≤ j by omega) hb q1 (fun hn => (h6 j (by omega) (by omega)).resolve_left hn)
    refine ⟨hfall.1, ?_⟩
    by_cases c : isL (F 0 j)
    · refine ⟨s, ce_l w.ce (by omega) hj2 c q2, ?_⟩
      obtain ⟨o, ho, h33, hr⟩ := w.tr j (by omega) hj2
      rcases hr with ⟨hl2, L, l1, l2, l3, l4, l5, hr⟩ | ⟨n13, n14, hr⟩
      · rw [← q3]; unfold lnN; rw [l5]
      · rw [ho] at c
        rcases isL_nI h33 c with z | z
        · exact absurd z n13
        · exact absurd z n14
    · have hal : (h j).2.2.2.1 ≠ 0 := (cA_n (h := fun j => lnp (h j)) c).mp q1
      obtain ⟨o, h33, ho, hk, p1, p2, p3, p4⟩ := lnW_1 w (by omega) hj2 c hal q2
      obtain ⟨o2, o3, o4, o5⟩ := (h6 j (by omega) (by omega)).resolve_left c
      obtain rfl : o = o2 := nI_33 h33 o3 (ho.symm.trans o4)
      have hv : wl s ≤ 211 := Nat.le_trans wl_vl_le (w.v211 j s (by omega) hj2 q2)
      obtain ⟨r, hr⟩ : ∃ r : List tE, k (j + 1) = some r := by
        cases e9 : k (j + 1) with
        | some r => exact ⟨r, rfl⟩
        | none =>
          rcases iOp_nx e9 o (ce_op w.ce (by omega) hj2 q2 ho h33) with z | z | z | z
          · exact absurd z o5.1
          · exact absurd z o5.2.1
          · exact absurd z o5.2.2.1
          · exact absurd z o5.2.2.2
      refine ⟨r, hr, ?_⟩
      have e1 := p2 o5 r hr
      rcases p4 with ⟨g1, g2, -⟩ | ⟨g1, x, g2⟩
      · omega
      · rcases g2 with ⟨g2, g3, -⟩ | ⟨g2, g3, -⟩ <;> omega
/-- a short cut: over code that keeps the n values below -/
theorem crn_J (w : lnW F X G rs a b k C Q h) {p i n : Nat} (hp : crn F k h a p (i + 1)) : ∀ d j : Nat, j = i + 1 + d → j < b → rgn F G k i j n → crn F k h a p j ∧ ∀ m : Nat, m + 1 < n → lnF (h j) m = lnF (h (i + 1)) m
  | 0, j, e, hb, hr => by
    obtain rfl : j = i + 1 := by omega
    exact ⟨hp, fun _ _ => rfl⟩
  | d + 1, j, e, hb, hr => by
    obtain ⟨m, rfl⟩ : ∃ m : Nat, j = m + 1 := ⟨i + 1 + d, by omega⟩
    have hm2 : m < b := by omega
    obtain ⟨q1, q2⟩ := crn_J w hp d m (by omega) hm2 (fun m2 o s g1 g2 => hr m2 o s g1 (by omega))
    obtain ⟨t1, s, t2, t3⟩ := crn_T w (m - p) m (by have := q1.2.1; omega) hm2 q1
    have ham : a ≤ m := by have := q1.1; have := q1.2.1; omega
    by_cases c : isL (F 0 m)
    · refine ⟨⟨q1.1, by have := q1.2.1; omega, q1.2.2.1, q1.2.2.2.1, fun m2 g1 g2 => ?_⟩, fun m2 g1 => ?_⟩
      · by_cases e9 : m2 = m
        · rw [e9]; exact Or.inl c
        · exact q1.2.2.2.2 m2 g1 (by omega)
      · rw [← q2 m2 g1]
        obtain ⟨o, ho, h33, hr9⟩ := w.tr m ham hm2
        rcases hr9 with ⟨hl2, L, l1, l2, l3, l4, l5, -⟩ | ⟨n13, n14, -⟩
        · unfold lnF; rw [l5]
        · rw [ho] at c
          rcases isL_nI h33 c with z | z
          · exact absurd z n13
          · exact absurd z n14
    · have hal : (h m).2.2.2.1 ≠ 0 := (cA_n (h := fun j => lnp (h j)) c).mp t1
      obtain ⟨o, h33, ho, hk, p1, p2, p3, p4⟩ := lnW_1 w ham hm2 c hal t2
      obtain ⟨g1, g2⟩ := hr m o s (by omega) (by omega) t2 h33 ho
      refine ⟨⟨q1.1, by have := q1.2.1; omega, q1.2.2.1, q1.2.2.2.1, fun m2 x1 x2 => ?_⟩, fun m2 x1 => ?_⟩
      · by_cases e9 : m2 = m
        · rw [e9]; exact Or.inr ⟨o, h33, ho, g2⟩
        · exact q1.2.2.2.2 m2 x1 (by omega)
      · rw [← q2 m2 x1]
        rcases p4 with ⟨-, -, y3⟩ | ⟨-, x, y2⟩
        · rw [y3]
        · rcases y2 with ⟨-, -, y4⟩ | ⟨-, -, y4⟩
          · rw [y4]; exact pk_uLn (by omega)
          · rw [y4]
end
end
-- d4.c6.lean.txt
section
theorem lbit_1 (k : Nat) : lbit 1 k = decide (k = 0) := by
  show (1#64).getLsbD k = decide (k = 0)
  rw [BitVec.getLsbD_one]; simp
theorem shN2 (v : Nat) (h : v < 64) : (((nI v : Int32).toInt64.toUInt64 &&& Int64.toUInt64 63).toBitVec % 64).toNat = v := by
  have : ∀ v : Fin 64, (((nI v.1 : Int32).toInt64.toUInt64 &&& Int64.toUInt64 63).toBitVec % 64).toNat = v.1 := by decide
  exact this ⟨v, h⟩
theorem shI2 (v : Nat) (h : v < 64) : (((nI v : Int32).toInt64 &&& 63).toBitVec.smod 64).toNat = v := by
  have : ∀ v : Fin 64, (((nI v.1 : Int32).toInt64 &&& 63).toBitVec.smod 64).toNat = v.1 := by decide
  exact this ⟨v, h⟩
theorem lbit_shr (ub : Int64) (v k : Nat) (h : v < 64) : lbit ((ub.toUInt64 >>> ((nI v : Int32).toInt64.toUInt64 &&& Int64.toUInt64 63)).toInt64) k = lbit ub (v + k) := by
  unfold lbit
  rw [UInt64.toBitVec_toInt64, UInt64.toBitVec_shiftRight, BitVec.ushiftRight_eq', shN2 v h, BitVec.getLsbD_ushiftRight]
  rfl
theorem usB_bit {ub : Int64} {v : Nat} (h : v < 64) : usB ub v = 0 ↔ lbit ub v = true := by
  unfold usB
  rw [lgc0]
  constructor
  · intro e
    have e2 := congrArg (fun x => lbit x 0) e
    have e2 : lbit (((ub.toUInt64 >>> ((nI v : Int32).toInt64.toUInt64 &&& Int64.toUInt64 63)).toInt64) &&& 1) 0 = lbit 1 0 := e2
    rw [lbit_and, lbit_shr ub v 0 h, lbit_1, Nat.add_zero] at e2
    simpa using e2
  · intro e
    refine lbit_eq (fun k hk => ?_)
    rw [lbit_and, lbit_shr ub v k h, lbit_1]
    by_cases c : k = 0
    · subst c; rw [Nat.add_zero, e]; rfl
    · rw [decide_eq_false c, Bool.and_false]
theorem lbit_bt (b k : Nat) (h : b < 64) (hk : k < 64) : lbit (bt b) k = decide (k = b) := by
  unfold lbit bt
  rw [Int64.toBitVec_shiftLeft, BitVec.shiftLeft_eq', shI2 b h, BitVec.getLsbD_shiftLeft]
  show (decide (k < 64) && !decide (k < b) && (1#64).getLsbD (k - b)) = decide (k = b)
  rw [BitVec.getLsbD_one]
  by_cases c : k = b
  · subst c; simp [hk]
  · rw [decide_eq_false c]
    by_cases c2 : k < b
    · simp [c2]
    · have : ¬ (k - b = 0) := by omega
      simp [this]
theorem lbit_not (x : Int64) (k : Nat) (hk : k < 64) : lbit (x ^^^ -1) k = !lbit x k := by
  unfold lbit
  rw [Int64.toBitVec_xor, BitVec.getLsbD_xor]
  have : (-1 : Int64).toBitVec.getLsbD k = true := by
    have : ∀ v : Fin 64, (-1 : Int64).toBitVec.getLsbD v.1 = true := by decide
    exact this ⟨k, hk⟩
  rw [this, Bool.xor_true]
/-- what n temps hold -/
theorem orT_bit {f : Nat → Int64} {l : Nat} : ∀ n : Nat, lbit (orT f n) l = true ↔ ∃ m : Nat, m < n ∧ lbit (f m) l = true
  | 0 => by
    show lbit 0 l = true ↔ _
    rw [lbit_0]
    exact ⟨fun h => absurd h (by decide), fun ⟨m, h, _⟩ => absurd h (by omega)⟩
  | n + 1 => by
    show lbit (orT f n ||| f n) l = true ↔ _
    rw [lbit_or, Bool.or_eq_true, orT_bit n]
    constructor
    · rintro (⟨m, h1, h2⟩ | h)
      · exact ⟨m, by omega, h2⟩
      · exact ⟨n, by omega, h⟩
    · rintro ⟨m, h1, h2⟩
      by_cases c : m = n
      · rw [c] at h2; exact Or.inr h2
      · exact Or.inl ⟨m, by omega, h2⟩
theorem orV_bit {ub x : Int64} {hd : Nat → Int64} {l : Nat} : ∀ n : Nat, n ≤ 64 → (lbit (orV ub hd x n) l = true ↔ lbit x l = true ∨ ∃ v : Nat, v < n ∧ lbit ub v = true ∧ lbit (hd v) l = true)
  | 0, _ => by
    show lbit x l = true ↔ _
    exact ⟨Or.inl, fun h => h.elim id (fun ⟨m, h, _⟩ => absurd h (by omega))⟩
  | n + 1, hn => by
    show lbit (if usB ub n = 0 then orV ub hd x n ||| hd n else orV ub hd x n) l = true ↔ _
    have ih := orV_bit (ub := ub) (x := x) (hd := hd) (l := l) n (by omega)
    have hu := usB_bit (ub := ub) (v := n) (by omega)
    by_cases c : usB ub n = 0
    · rw [if_pos c, lbit_or, Bool.or_eq_true, ih]
      constructor
      · rintro ((h | ⟨v, h1, h2, h3⟩) | h)
        · exact Or.inl h
        · exact Or.inr ⟨v, by omega, h2, h3⟩
        · exact Or.inr ⟨n, by omega, hu.mp c, h⟩
      · rintro (h | ⟨v, h1, h2, h3⟩)
        · exact Or.inl (Or.inl h)
        · by_cases e : v = n
          · rw [e] at h3; exact Or.inr h3
          · exact Or.inl (Or.inr ⟨v, by omega, h2, h3⟩)
    · rw [if_neg c, ih]
      constructor
      · rintro (h | ⟨v, h1, h2, h3⟩)
        · exact Or.inl h
        · exact Or.inr ⟨v, by omega, h2, h3⟩
      · rintro (h | ⟨v, h1, h2, h3⟩)
        · exact Or.inl h
        · by_cases e : v = n
          · rw [e] at h2; exact absurd (hu.mpr h2) c
          · exact Or.inr ⟨v, by omega, h2, h3⟩
/-- a fault that is told isn't below 0 -/
theorem tlF_ge {a w : Int32} (h : ¬ w < 0) : ¬ tlF a w < 0 := by
  unfold tlF
  by_cases c : a < 0
  · rw [if_pos c]; exact h
  · rw [if_neg c]
    by_cases c2 : w < a
    · rw [if_pos c2]; exact h
    · rw [if_neg c2]; exact c
theorem acF_no {near : Int64} {wh : Int32} {ov : Nat → Int32} {fi : Int32} (hw : ¬ wh < 0) : ∀ n : Nat, acF near wh ov fi n < 0 → fi < 0 ∧ ∀ l : Nat, l < n → ¬ (usB near l = 0 ∧ ov l = 0)
  | 0, h => ⟨h, fun l hl => absurd hl (by omega)⟩
  | n + 1, h => by
    have h : (if usB near n = 0 ∧ ov n = 0 then tlF (acF near wh ov fi n) wh else acF near wh ov fi n) < 0 := h
    by_cases c : usB near n = 0 ∧ ov n = 0
    · rw [if_pos c] at h; exact absurd h (tlF_ge hw)
    · rw [if_neg c] at h
      obtain ⟨q1, q2⟩ := acF_no hw n h
      refine ⟨q1, fun l hl => ?_⟩
      by_cases e : l = n
      · rw [e]; exact c
      · exact q2 l (by omega)
/-- loan l is held by one who is used behind i: a temp, or a variable -/
def lnA (C : lnC) (i : Nat) (hd ft : Nat → Int64) (tn l : Nat) : Prop := (∃ m : Nat, m < tn ∧ lbit (ft m) l = true) ∨ ∃ v : Nat, v < C.2.2.2.2.2 ∧ lbit (C.1 i) v = true ∧ lbit (hd v) l = true
theorem lnA_bit {C : lnC} {i : Nat} {hd ft : Nat → Int64} {tn l : Nat} (hn : C.2.2.2.2.2 ≤ 40) : lbit (orV (C.1 i) hd (orT ft tn) C.2.2.2.2.2) l = true ↔ lnA C i hd ft tn l := by
  rw [orV_bit _ (by omega), orT_bit]; rfl
/-- an access of place p on v that tells nothing -/
def acO (F : tF) (C : lnC) (i p v : Nat) (ms : Int32) (hd ft : Nat → Int64) (tn : Nat) : Prop := ∀ l : Nat, l < C.2.2.2.2.1 → lbit (C.2.1 v) l = true → (ms = 0 → lbit C.2.2.1 l = false) → lnA C i hd ft tn l → ovB (F 8 p) (F 8 (C.2.2.2.1 l).toNatClampNeg) (F 7 p) (F 7 (C.2.2.2.1 l).toNatClampNeg) ≠ 0
theorem lnAc_no {F : tF} {C : lnC} {i p v : Nat} {ms : Int32} {s : lnT} (hn : C.2.2.2.2.2 ≤ 40) (h54 : C.2.2.2.2.1 ≤ 54) (hw : ¬ F 11 p < 0) (h : lnAc F C i p v ms s < 0) : s.2.2.2.2.2.1 < 0 ∧ acO F C i p v ms s.1 (lnF s) (lnN s) := by
  unfold lnAc at h
  by_cases c : lg_cmp (acN ms (C.2.1 v) C.2.2.1) 0 = 0
  · rw [if_pos c] at h
    refine ⟨h, fun l l1 l2 l3 l4 => ?_⟩
    have e := lgc0.mp c
    have e2 : lbit (acN ms (C.2.1 v) C.2.2.1) l = false := by rw [e, lbit_0]
    unfold acN at e2
    by_cases c2 : ms ≠ 0
    · rw [if_pos c2, l2] at e2; exact absurd e2 (by decide)
    · rw [if_neg c2, lbit_and, l2, lbit_not _ _ (by omega), l3 (Classical.not_not.mp c2)] at e2; exact absurd e2 (by decide)
  · rw [if_neg c] at h
    obtain ⟨q1, q2⟩ := acF_no hw _ h
    refine ⟨q1, fun l l1 l2 l3 l4 ho => q2 l l1 ⟨(usB_bit (by omega)).mpr ?_, ho⟩⟩
    rw [lbit_and]
    have e2 : lbit (acN ms (C.2.1 v) C.2.2.1) l = true := by
      unfold acN
      by_cases c2 : ms ≠ 0
      · rw [if_pos c2]; exact l2
      · rw [if_neg c2, lbit_and, l2, lbit_not _ _ (by omega), l3 (Classical.not_not.mp c2)]; rfl
    rw [e2, Bool.true_and]
    exact (lnA_bit hn).mpr l4
/-- variables that go out of scope -/
theorem lnLv_no {F : tF} {C : lnC} {ak et : Nat → Int32} {i v0 : Nat} {ft : Nat → Int64} {tn : Nat} (hn : C.2.2.2.2.2 ≤ 40) (hw : ¬ F 4 i < 0) : ∀ (d : Nat) (s t : (Nat → Int64) × Int32), lnLv F C ak et i v0 ft tn d s t → t.2 < 0 → s.2 < 0 ∧ (∀ u : Nat, t.1 u = if v0 ≤ u ∧ u < v0 + d then 0 else s.1 u) ∧ ∀ v l : Nat, v0 ≤ v → v < v0 + d → ¬ rfB ak (et v) → l < 64 → lbit (C.2.1 v) l = true → ¬ ((∃ m : Nat, m < tn ∧ lbit (ft m) l = true) ∨ ∃ u : Nat, u < C.2.2.2.2.2 ∧ (u < v0 ∨ v0 + d ≤ u) ∧ lbit (C.1 i) u = true ∧ lbit (s.1 u) l = true)
  | 0, s, t, h, ht => by
    obtain rfl : t = s := h
    exact ⟨ht, fun u => (if_neg (by omega)).symm, fun v l h1 h2 => absurd h2 (by omega)⟩
  | d + 1, s, t, h, ht => by
    obtain ⟨f1, h1, h2⟩ := h
    obtain ⟨q1, q2, q3⟩ := lnLv_no hn hw d _ _ h2 ht
    have q1 : f1 < 0 := q1
    have hf : s.2 < 0 ∧ (¬ rfB ak (et (v0 + d)) → lg_cmp (C.2.1 (v0 + d) &&& orV (C.1 i) s.1 (orT ft tn) C.2.2.2.2.2) 0 = 0) := by
      rcases h1 with ⟨z, h1⟩ | ⟨z, h1⟩
      · rw [← h1]; exact ⟨q1, fun y => absurd z y⟩
      · by_cases c : lg_cmp (C.2.1 (v0 + d) &&& orV (C.1 i) s.1 (orT ft tn) C.2.2.2.2.2) 0 = 0
        · rw [if_pos c] at h1; rw [← h1]; exact ⟨q1, fun _ => c⟩
        · rw [if_neg c] at h1; rw [h1] at q1; exact absurd q1 (tlF_ge hw)
    refine ⟨hf.1, fun u => ?_, fun v l v1 v2 v3 l1 l2 hl => ?_⟩
    · rw [q2 u]
      show (if v0 ≤ u ∧ u < v0 + d then (0 : Int64) else vp_updL s.1 (v0 + d) 0 u) = _
      by_cases c : v0 ≤ u ∧ u < v0 + d
      · rw [if_pos c, if_pos (by omega)]
      · rw [if_neg c]
        by_cases c2 : u = v0 + d
        · rw [c2, pk_uLs, if_pos (by omega)]
        · rw [pk_uLn c2, if_neg (by omega)]
    · by_cases e : v = v0 + d
      · subst e
        have e9 := lgc0.mp (hf.2 v3)
        have e8 : lbit (C.2.1 (v0 + d) &&& orV (C.1 i) s.1 (orT ft tn) C.2.2.2.2.2) l = false := by rw [e9, lbit_0]
        rw [lbit_and, l2, Bool.true_and] at e8
        have e7 := (lnA_bit (C := C) (i := i) (hd := s.1) (ft := ft) (tn := tn) (l := l) hn).mpr (hl.imp id (fun ⟨u, u1, u2, u3, u4⟩ => ⟨u, u1, u3, u4⟩))
        rw [e7] at e8; exact absurd e8 (by decide)
      · refine q3 v l v1 (by omega) v3 l1 l2 (hl.imp id (fun ⟨u, u1, u2, u3, u4⟩ => ⟨u, u1, by omega, u3, ?_⟩))
        show lbit (vp_updL s.1 (v0 + d) 0 u) l = true
        rw [pk_uLn (by omega)]; exact u4
/-- a return's look at the variables in scope -/
theorem lnGv_no {F : tF} {C : lnC} {ak et ef ez : Nat → Int32} {i : Nat} {x : Int64} (hw : ¬ F 4 i < 0) : ∀ (d : Nat) (f g : Int32), lnGv F C ak et ef ez i x d f g → g < 0 → f < 0 ∧ ∀ v l : Nat, v < d → ef v ≤ nI i → nI i < ez v → ¬ rfB ak (et v) → lbit (C.2.1 v) l = true → lbit x l = false
  | 0, f, g, h, hg => by
    obtain rfl : g = f := h
    exact ⟨hg, fun v l hv => absurd hv (by omega)⟩
  | d + 1, f, g, h, hg => by
    obtain ⟨f1, h1, h2⟩ := h
    obtain ⟨q1, q2⟩ := lnGv_no hw d f1 g h2 hg
    rcases h1 with ⟨-, h1⟩ | ⟨c, h1⟩
    · rw [h1] at q1; exact absurd q1 (tlF_ge hw)
    · rw [h1] at q1
      refine ⟨q1, fun v l v1 v2 v3 v4 v5 => ?_⟩
      by_cases e : v = d
      · subst e
        cases e9 : lbit x l with
        | false => rfl
        | true =>
          refine absurd ⟨v2, v3, v4, fun q => ?_⟩ c
          have e8 := lgc0.mp q
          have e7 : lbit (C.2.1 v &&& x) l = false := by rw [e8, lbit_0]
          rw [lbit_and, v5, e9] at e7; exact absurd e7 (by decide)
      · exact q2 v l (by omega) v2 v3 v4 v5
end
