theorem on_wl {E S : List tE} {e1 : tE} {t2 m : Nat} (he : kNm e1) : wl (E ++ (0, t2, m) :: S) = wl (E ++ e1 :: S) := by
  rw [wl_app, wl_app, wl_n he]; rfl
theorem on_mem {E S : List tE} {e1 e : tE} {t2 m : Nat} (he : kNm e1) (h8 : e.1 = 8 ∨ e.1 = 4 ∨ e.1 = 5 ∨ e.1 = 6) : e ∈ E ++ e1 :: S ↔ e ∈ E ++ (0, t2, m) :: S := by
  rw [List.mem_append, List.mem_append, List.mem_cons, List.mem_cons]
  constructor
  · rintro (h | h | h)
    · exact Or.inl h
    · rw [h] at h8; exact absurd h8 he
    · exact Or.inr (Or.inr h)
  · rintro (h | h | h)
    · exact Or.inl h
    · rw [h] at h8
      exact absurd h8 (by show ¬ ((0 : Nat) = 8 ∨ (0 : Nat) = 4 ∨ (0 : Nat) = 5 ∨ (0 : Nat) = 6); decide)
    · exact Or.inr (Or.inr h)
theorem kK_on {y : qY} {rt rt2 : Nat × Nat → Nat} {V V2 : Nat × Nat → qV} {j : Nat} {x x2 : kFm} {S : List tE} {e1 : tE} {t2 m : Nat} (he : kNm e1) (hS : kK y rt2 V2 j x2 ((0, t2, m) :: S)) (hw : wl S < 260) (hg : ∀ u : Nat, u ≠ 40 + wl S → rt2 (j, u) = rt (j, u) ∧ V2 (j, u) = V (j, u) ∧ kR x2 u = kR x u) : ∀ {E : List tE}, kK y rt V j x (E ++ e1 :: S) → kK y rt2 V2 j x2 (E ++ (0, t2, m) :: S)
  | [], _ => hS
  | e :: E, h => by
    refine ⟨?_, kK_on he hS hw hg h.2⟩
    have e0 : wl (E ++ (0, t2, m) :: S) = wl (E ++ e1 :: S) := on_wl he
    show kE y rt2 V2 j x2 (wl (E ++ (0, t2, m) :: S)) e
    rw [e0]
    refine kE_cg h.1 (fun u hu => hg u ?_)
    have e9 : wl (E ++ e1 :: S) = wl E + (wl S + 1) := by rw [wl_app, wl_n he]
    rw [e9] at hu
    omega
/-- a value is told as a plain one, whatever it was -/
theorem kJ_one {y : qY} {vt : Nat → Nat → Nat} {tb : Nat → lTb} {f : Nat} {x : Nat → kFm} {rt : Nat × Nat → Nat} {V : Nat × Nat → qV} (h : kJ y vt tb f x rt V) {E S : List tE} {e1 : tE} {t2 m : Nat} (hS : (x f).2.1 = E ++ e1 :: S) (he : kNm e1) (hk : y.1 t2 ≠ 2 ∧ y.1 t2 ≠ 3 ∧ y.1 t2 ≠ 4 ∧ y.1 t2 ≠ 5 ∧ y.1 t2 ≠ 6) (ht : t2 ≠ 0) : kJ y vt tb f (kUx x f ((x f).1, E ++ (0, t2, m) :: S, (x f).2.2.1, lUp (kR (x f)) (40 + wl S) none, kH (x f), kal (x f), klo (x f), kAn (x f))) (qRt rt (f, 40 + wl S) t2) (qUp V (f, 40 + wl S) (qL t2)) := by
  have hw := h
  obtain ⟨h0, h1, h2, h3, h4, h5, h6, h7, h8⟩ := h
  have hf := Nat.le_refl f
  have hwl : wl (E ++ (0, t2, m) :: S) = wl (x f).2.1 := by rw [hS]; exact on_wl he
  have hS2 : wl S < 211 := by
    have e9 : wl (E ++ e1 :: S) = wl E + (wl S + 1) := by rw [wl_app, wl_n he]
    have := h8 f hf
    rw [hS, e9] at this
    omega
  have hK : kK y rt V f (x f) (E ++ e1 :: S) := by rw [← hS]; exact h4 f hf
  have hK0 := kK_app hK
  have ne : ∀ (u : Nat) (a : lLc), lUp (kR (x f)) (40 + wl S) none u = some a → u ≠ 40 + wl S ∧ kR (x f) u = some a := fun u a ha => by
    by_cases e : u = 40 + wl S
    · subst e; rw [lUp_eq] at ha; cases ha
    · rw [lUp_ne e] at ha; exact ⟨e, ha⟩
  have rtn : ∀ j u : Nat, (j, u) ≠ (f, 40 + wl S) → qRt rt (f, 40 + wl S) t2 (j, u) = rt (j, u) ∧ qUp V (f, 40 + wl S) (qL t2) (j, u) = V (j, u) := fun j u e => ⟨qRt_ne e, qUp_ne e⟩
  have nef : ∀ u : Nat, u ≠ 40 + wl S → (f, u) ≠ (f, 40 + wl S) := fun u e q => by
    injection q with _ q2
    exact e q2
  have hA : ∀ u : Nat, kA ((x f).1, E ++ (0, t2, m) :: S, (x f).2.2.1, lUp (kR (x f)) (40 + wl S) none, kH (x f), kal (x f), klo (x f), kAn (x f)) u → kA (x f) u := fun u hu => by
    rcases hu with z | ⟨z1, z2⟩
    · exact Or.inl z
    · refine Or.inr ⟨z1, ?_⟩
      have z2 : u < 40 + wl (E ++ (0, t2, m) :: S) + (x f).2.2.1 := z2
      rw [hwl] at z2; exact z2
  refine kJ_top hw _ rfl rfl (fun j u hj => rtn j u (fun q => hj (by injection q))) (fun u => ?_) (lIv_mono2 (h1.1 f hf) (fun u a hu ha => ⟨hA u hu, (ne u a ha).2⟩) (fun u a l _ _ hl => hl) (fun u a hu ha => ?_)) (fun u a hu ha => ?_) (fun u t g hv hk2 hu => ?_) ?_ (fun u π z hz => ?_) (fun v v4 hvS => ?_) (fun r m2 => ⟨fun hm => ?_, fun hm => ?_⟩) ?_
  · by_cases e : u = 40 + wl S
    · rw [e, qRt_eq, qUp_eq]; exact (qFu_L hk.1 hk.2.1 hk.2.2.1).1
    · obtain ⟨a1, a2⟩ := rtn f u (nef u e)
      rw [a1, a2]; exact h0 (f, u)
  · show y.1 (qRt rt (f, 40 + wl S) t2 (f, u)) = 6 ↔ y.1 (rt (f, u)) = 6
    rw [(rtn f u (nef u (ne u a ha).1)).1]
  · obtain ⟨q1, q2⟩ := h2 f hf u a (hA u hu) (ne u a ha).2
    have e1 := (rtn f u (nef u (ne u a ha).1)).1
    unfold qTr
    rw [e1]
    refine ⟨q1, qTg_eq q2 (fun r π _ _ hr => ?_)⟩
    have := rtn r.1 r.2 (fun q => by
      have : r.2 = 40 + wl S := congrArg Prod.snd q
      omega)
    exact ⟨this.2, this.1⟩
  · by_cases e : u = 40 + wl S
    · rw [e, qUp_eq] at hv
      have hv : some (t2, 0) = some (t, g) := hv
      injection hv with hv
      injection hv with hv1 hv2
      rw [← hv1] at hk2
      exact absurd hk2 (by have := hk.2.2.2; rintro (z | z); exact this.1 z; exact this.2 z)
    · rw [(rtn f u (nef u e)).2] at hv
      obtain ⟨a, ha⟩ := h3 f hf u t g hv hk2 (hA u hu)
      exact ⟨a, (lUp_ne e).trans ha⟩
  · refine kK_on he (t2 := t2) (rt := rt) (V := V) (x := x f) (x2 := ((x f).1, E ++ (0, t2, m) :: S, (x f).2.2.1, lUp (kR (x f)) (40 + wl S) none, kH (x f), kal (x f), klo (x f), kAn (x f))) ?_ (by omega) (fun u hu => ⟨(rtn f u (nef u hu)).1, (rtn f u (nef u hu)).2, lUp_ne hu⟩) hK
    refine ⟨?_, kK_cg hK0.2 (fun u hu => ?_)⟩
    · unfold kE
      refine ⟨lUp_eq, hk.2.2.2.1, hk.2.2.2.2, fun _ => ⟨qRt_eq, by rw [qUp_eq]; exact (qFu_L hk.1 hk.2.1 hk.2.2.1).2⟩, fun e => absurd e ht⟩
    · have e : u ≠ 40 + wl S := by omega
      exact ⟨(rtn f u (nef u e)).1, (rtn f u (nef u e)).2, lUp_ne e⟩
  · have old : ∀ (u : Nat) (π : lLc) (z : Nat × Nat), V (f, u) π = some z → kRo y (E ++ (0, t2, m) :: S) u ∧ (u < 40 → rt (f, u) = vt (x f).1 u) := fun u π z hz => by
      obtain ⟨-, k1, k2⟩ := h5 f u π z hz
      refine ⟨?_, k2⟩
      rw [hS] at k1
      rcases k1 with ⟨a, b⟩ | ⟨a, b⟩ | ⟨a, r, m2, b⟩ | ⟨r, m2, i, a, b⟩
      · exact Or.inl ⟨a, (on_mem (t2 := t2) (m := m) he (show ((8, u, 0) : tE).1 = 8 ∨ ((8, u, 0) : tE).1 = 4 ∨ ((8, u, 0) : tE).1 = 5 ∨ ((8, u, 0) : tE).1 = 6 by show (8 : Nat) = 8 ∨ (8 : Nat) = 4 ∨ (8 : Nat) = 5 ∨ (8 : Nat) = 6; decide)).mp b⟩
      · exact Or.inr (Or.inl ⟨a, by rw [on_wl he]; exact b⟩)
      · exact Or.inr (Or.inr (Or.inl ⟨a, r, m2, b.imp (fun q => (on_mem (t2 := t2) (m := m) he (show ((5, r, m2) : tE).1 = 8 ∨ ((5, r, m2) : tE).1 = 4 ∨ ((5, r, m2) : tE).1 = 5 ∨ ((5, r, m2) : tE).1 = 6 by show (5 : Nat) = 8 ∨ (5 : Nat) = 4 ∨ (5 : Nat) = 5 ∨ (5 : Nat) = 6; decide)).mp q) (fun q => (on_mem (t2 := t2) (m := m) he (show ((6, r, m2) : tE).1 = 8 ∨ ((6, r, m2) : tE).1 = 4 ∨ ((6, r, m2) : tE).1 = 5 ∨ ((6, r, m2) : tE).1 = 6 by show (6 : Nat) = 8 ∨ (6 : Nat) = 4 ∨ (6 : Nat) = 5 ∨ (6 : Nat) = 6; decide)).mp q)⟩))
      · exact Or.inr (Or.inr (Or.inr ⟨r, m2, i, (on_mem (t2 := t2) (m := m) he (show ((4, r, m2) : tE).1 = 8 ∨ ((4, r, m2) : tE).1 = 4 ∨ ((4, r, m2) : tE).1 = 5 ∨ ((4, r, m2) : tE).1 = 6 by show (4 : Nat) = 8 ∨ (4 : Nat) = 4 ∨ (4 : Nat) = 5 ∨ (4 : Nat) = 6; decide)).mp a, b⟩))
    by_cases e : u = 40 + wl S
    · refine ⟨?_, fun q => by omega⟩
      show kRo y (E ++ (0, t2, m) :: S) u
      refine Or.inr (Or.inl ⟨by omega, ?_⟩)
      have e1 : wl (E ++ (0, t2, m) :: S) = wl E + (wl S + 1) := by rw [wl_app]; rfl
      rw [e1]; omega
    · rw [(rtn f u (nef u e)).2] at hz
      rw [(rtn f u (nef u e)).1]
      exact old u π z hz
  · have e : v ≠ 40 + wl S := by omega
    rw [(rtn f v (nef v e)).1, (rtn f v (nef v e)).2]
    exact h6 f hf v v4 (by rw [hS]; exact (on_mem (t2 := t2) (m := m) he (show ((8, v, 0) : tE).1 = 8 ∨ ((8, v, 0) : tE).1 = 4 ∨ ((8, v, 0) : tE).1 = 5 ∨ ((8, v, 0) : tE).1 = 6 by show (8 : Nat) = 8 ∨ (8 : Nat) = 4 ∨ (8 : Nat) = 5 ∨ (8 : Nat) = 6; decide)).mpr hvS)
  · have hm : (5, r, m2) ∈ (x f).2.1 := by rw [hS]; exact (on_mem (t2 := t2) (m := m) he (show ((5, r, m2) : tE).1 = 8 ∨ ((5, r, m2) : tE).1 = 4 ∨ ((5, r, m2) : tE).1 = 5 ∨ ((5, r, m2) : tE).1 = 6 by show (5 : Nat) = 8 ∨ (5 : Nat) = 4 ∨ (5 : Nat) = 5 ∨ (5 : Nat) = 6; decide)).mpr hm
    refine kPm_cg ((h7 f hf r m2).1 hm).2 (lUp_ne (by omega)) (fun u b hu hb => ⟨hA u hu, (ne u b hb).2⟩) (fun u b _ hb => (rtn f u (nef u (ne u b hb).1)).1) (fun l q => q) rfl (fun a0 π _ ha => ?_)
    have := rtn a0.1 a0.2 (fun q => by
      have : a0.2 = 40 + wl S := congrArg Prod.snd q
      omega)
    exact ⟨congrFun this.2 π, this.1⟩
  · have hm : (6, r, m2) ∈ (x f).2.1 := by rw [hS]; exact (on_mem (t2 := t2) (m := m) he (show ((6, r, m2) : tE).1 = 8 ∨ ((6, r, m2) : tE).1 = 4 ∨ ((6, r, m2) : tE).1 = 5 ∨ ((6, r, m2) : tE).1 = 6 by show (6 : Nat) = 8 ∨ (6 : Nat) = 4 ∨ (6 : Nat) = 5 ∨ (6 : Nat) = 6; decide)).mpr hm
    refine kPm_cg ((h7 f hf r m2).2 hm).2 (lUp_ne (by omega)) (fun u b hu hb => ⟨hA u hu, (ne u b hb).2⟩) (fun u b _ hb => (rtn f u (nef u (ne u b hb).1)).1) (fun l q => q) rfl (fun a0 π _ ha => ?_)
    have := rtn a0.1 a0.2 (fun q => by
      have : a0.2 = 40 + wl S := congrArg Prod.snd q
      omega)
    exact ⟨congrFun this.2 π, this.1⟩
  · show wl (E ++ (0, t2, m) :: S) ≤ 211
    rw [hwl]; exact h8 f hf
