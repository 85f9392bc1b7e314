theorem kAk_ty {y : qY} {z : qZ} {c : Nat → Int} {ra : Nat × Nat → Nat} {j B : Nat} {S : List tE} {t1 t2 m : Nat} (h1 : t1 ≠ 0) (hz : kes z (0, t1, m) = kes z (0, t2, m)) : ∀ {E : List tE}, kAk y z c ra j B (E ++ (0, t1, m) :: S) → kAk y z c ra j B (E ++ (0, t2, m) :: S)
  | [], h => ⟨fun _ => h.1 h1, h.2⟩
  | e :: E, h => by
    refine ⟨?_, kAk_ty h1 hz h.2⟩
    have h1 : kAe y z c ra j (B + khs z (E ++ (0, t1, m) :: S)) (wl (E ++ (0, t1, m) :: S)) e := h.1
    show kAe y z c ra j (B + khs z (E ++ (0, t2, m) :: S)) (wl (E ++ (0, t2, m) :: S)) e
    have e1 : khs z (E ++ (0, t2, m) :: S) = khs z (E ++ (0, t1, m) :: S) := by
      rw [khs_app, khs_app]
      show khs z E + (khs z S + kes z (0, t2, m)) = khs z E + (khs z S + kes z (0, t1, m))
      rw [hz]
    have e2 : wl (E ++ (0, t2, m) :: S) = wl (E ++ (0, t1, m) :: S) := ty_wl
    rw [e1, e2]; exact h1
/-- the cells of a value of one cell that is told as one of another type -/
theorem kL_rty {y : qY} {z : qZ} {vt vo : Nat → Nat → Nat} {vc : Nat → Nat} {tb : Nat → lTb} {hp : Nat} {tk : Nat → Prop} {c : Nat → Int} {f : Nat} {x : Nat → kFm} {rt ra : Nat × Nat → Nat} {V : Nat × Nat → qV} {fb : Nat → Nat} {top : Nat} {fil : Nat → Nat → Nat → Prop} (hJ : kJ y vt tb f x rt V) (h : kL y z vt vo vc hp tk c f x rt ra V fb top fil) {E S : List tE} {t1 t2 m : Nat} (hS : (x f).2.1 = E ++ (0, t1, m) :: S) (hk : y.1 t2 ≠ 2 ∧ y.1 t2 ≠ 3 ∧ y.1 t2 ≠ 4 ∧ y.1 t2 ≠ 5 ∧ y.1 t2 ≠ 6) (ht : t2 ≠ 0) (h1 : t1 ≠ 0) (hk1 : y.1 t1 ≠ 2) (hz1 : z.1 t1 = z.1 t2) : kL y z vt vo vc hp tk c f (kUx x f ((x f).1, E ++ (0, t2, m) :: S, (x f).2.2.1, kR (x f), kH (x f), kal (x f), klo (x f), kAn (x f))) (qRt rt (f, 40 + wl S) t2) ra (qUp V (f, 40 + wl S) (qL t2)) fb top fil := by
  have hw := h
  have hJw := hJ
  obtain ⟨h0, g1, g2, g3, g4, g5, g6, g7, g8⟩ := hJ
  obtain ⟨l0, l1, l2, l3, l4, l5, l6, l7, l8, l9⟩ := h
  have hf := Nat.le_refl f
  have hK : kK y rt V f (x f) (E ++ (0, t1, m) :: S) := by rw [← hS]; exact g4 f hf
  have hK0 := (kK_app hK).1
  unfold kE at hK0
  obtain ⟨hRn, -, -, hq, -⟩ := hK0
  obtain ⟨hrt, hqF⟩ := hq h1
  obtain ⟨w0, hw0⟩ : ∃ w : Nat × Nat, V (f, 40 + wl S) [] = some w := (hqF [] t1 qM_nil rfl).1 hk1
  have hes : kes z (0, t1, m) = kes z (0, t2, m) := by
    show (if t1 = 0 then 0 else z.1 t1) = (if t2 = 0 then 0 else z.1 t2)
    rw [if_neg h1, if_neg ht, hz1]
  have hhs : khs z (E ++ (0, t2, m) :: S) = khs z (x f).2.1 := by
    rw [hS, khs_app, khs_app]
    show khs z E + (khs z S + kes z (0, t2, m)) = khs z E + (khs z S + kes z (0, t1, m))
    rw [hes]
  have ne : ∀ (u : Nat) (a : lLc), kR (x f) u = some a → u ≠ 40 + wl S := fun u a ha e => by rw [e, hRn] at ha; simp at ha
  have rtn : ∀ j u : Nat, (j, u) ≠ (f, 40 + wl S) → qRt rt (f, 40 + wl S) t2 (j, u) = rt (j, u) ∧ qUp V (f, 40 + wl S) (qL t2) (j, u) = V (j, u) := fun j u e => ⟨qRt_ne e, qUp_ne e⟩
  have nef : ∀ u : Nat, u ≠ 40 + wl S → (f, u) ≠ (f, 40 + wl S) := fun u e q => by
    injection q with _ q2
    exact e q2
  have hA : ∀ u : Nat, kA ((x f).1, E ++ (0, t2, m) :: S, (x f).2.2.1, kR (x f), kH (x f), kal (x f), klo (x f), kAn (x f)) u → kA (x f) u := fun u hu => by
    rcases hu with q | ⟨z1, z2⟩
    · exact Or.inl q
    · refine Or.inr ⟨z1, ?_⟩
      have z2 : u < 40 + wl (E ++ (0, t2, m) :: S) + (x f).2.2.1 := z2
      have e2 : wl (E ++ (0, t2, m) :: S) = wl (E ++ (0, t1, m) :: S) := ty_wl
      rw [e2, ← hS] at z2; exact z2
  have adr : ∀ (a : lLc), (∃ (r : Nat × Nat) (π : lLc), a = r :: π ∧ r.2 < 40) → qAd y z c (qRt rt (f, 40 + wl S) t2) ra a = qAd y z c rt ra a := fun a ⟨r, π, e, hr⟩ => by
    rw [e]
    show qA y z c (qRt rt (f, 40 + wl S) t2 r) (ra r) π = qA y z c (rt r) (ra r) π
    rw [qRt_ne (fun q => by
      have : r.2 = 40 + wl S := congrArg Prod.snd q
      omega)]
  -- the cells
  have q1 : qMm y z hp tk c rt ra (qUp V (f, 40 + wl S) (fun _ => none)) := qMm_sub l0 (fun r => by
    by_cases e : r = (f, 40 + wl S)
    · rw [e, qUp_eq]; exact qOk_none
    · rw [qUp_ne e]; exact h0 r) (fun r π w hv => by
    by_cases e : r = (f, 40 + wl S)
    · rw [e, qUp_eq] at hv; simp at hv
    · rw [qUp_ne e] at hv; exact hv)
  have q2 : qMm y z hp tk c (qRt rt (f, 40 + wl S) t2) ra (qUp V (f, 40 + wl S) (fun _ => none)) := qMm_em q1 (fun r => by
    by_cases e : r = (f, 40 + wl S)
    · exact Or.inl (fun π => by rw [e, qUp_eq])
    · exact Or.inr ⟨qRt_ne e, rfl⟩)
  have q3 : qMm y z hp tk c (qRt rt (f, 40 + wl S) t2) ra (qUp V (f, 40 + wl S) (qL t2)) := by
    have := qMm_pl (d := (f, 40 + wl S)) q2 (by rw [qRt_eq]; exact hk.1) (by rw [qRt_eq]; exact hk.2.1) (by rw [qRt_eq]; exact hk.2.2.1) (l0.2.2.2.1 _ _ _ hw0) (fun r π w hr hv => by
      rw [qUp_ne hr] at hv
      have := l0.2.2.2.2 r (f, 40 + wl S) π [] w w0 hr hv hw0
      rw [qRt_ne hr, qRt_eq, ← hz1, ← hrt]
      exact this)
    rw [qRt_eq] at this
    have e9 : qUp (qUp V (f, 40 + wl S) (fun _ => none)) (f, 40 + wl S) (qL t2) = qUp V (f, 40 + wl S) (qL t2) := by
      funext r
      by_cases e : r = (f, 40 + wl S)
      · rw [e, qUp_eq, qUp_eq]
      · rw [qUp_ne e, qUp_ne e, qUp_ne e]
    rw [e9] at this
    exact this
  refine kL_top hJw hw _ rfl q3 (fun j u hj => ?_) (fun j u w _ _ => rfl) (fun j u a hj hu ha hw9 => ?_) (fun u a hu ha hw9 => ?_) ?_ (fun v v4 hvS => ?_) ?_ (fun j _ => rfl) (fun v v4 hvS π t hm hq9 hk9 hfl => ?_) (fun u π w u4 hv => ?_) (fun r m2 hm => ?_)
  · have := rtn j u (fun q => hj (by injection q))
    exact ⟨this.1, rfl, this.2⟩
  · refine adr a ?_
    rcases hu with hu | hu
    · obtain ⟨-, r, π, e, hr, -⟩ := g2 j (by omega) u a hu ha
      exact ⟨r, π, e, hr⟩
    · subst hu
      obtain ⟨w9, hw9⟩ := hw9
      obtain ⟨e, -⟩ := k300 hJw hw9
      omega
  · have hne := ne u a ha
    have hw9 : ∃ w : Nat × Nat, V (f, u) [] = some w := by
      rw [(rtn f u (nef u hne)).2] at hw9; exact hw9
    have hu2 : kA (x f) u ∨ u = 300 := hu.imp (hA u) id
    rw [l1 f hf u a hu2 ha hw9]
    refine congrArg Int.ofNat (adr a ?_).symm
    rcases hu2 with hu2 | hu2
    · obtain ⟨-, r, π, e, hr, -⟩ := g2 f hf u a hu2 ha
      exact ⟨r, π, e, hr⟩
    · subst hu2
      obtain ⟨w9, hw9⟩ := hw9
      obtain ⟨-, q, r0, m0, -, -, a0, π, e1, e2, -⟩ := k300 hJw hw9
      have ha : kR (x f) 300 = some a := ha
      rw [e1] at ha
      injection ha with ha
      exact ⟨a0, π, ha.symm, e2⟩
  · have := l2 f hf
    rw [hS] at this
    exact kAk_ty h1 hes this
  · exact l3 f hf v v4 (by rw [hS]; exact (ty_mem (show (8, v, 0).1 ≠ 0 by show (8 : Nat) ≠ 0; decide)).mpr hvS)
  · show top = fb f + vc (x f).1 + khs z (E ++ (0, t2, m) :: S)
    rw [hhs]; exact l6
  · have e : v ≠ 40 + wl S := by omega
    rw [(rtn f v (nef v e)).2]
    exact l7 f hf v v4 (by rw [hS]; exact (ty_mem (show (8, v, 0).1 ≠ 0 by show (8 : Nat) ≠ 0; decide)).mpr hvS) π t hm hq9 hk9 hfl
  · have e : u ≠ 40 + wl S := by omega
    rw [(rtn f u (nef u e)).2] at hv
    exact l8 f u π w u4 hv
  · exact l9 f hf r m2 (by rw [hS]; exact (ty_mem (show (4, r, m2).1 ≠ 0 by show (4 : Nat) ≠ 0; decide)).mpr hm)
