theorem kK_nm {y : qY} {rt rt2 : Nat × Nat → Nat} {V V2 : Nat × Nat → qV} {j : Nat} {x x2 : kFm} : ∀ {S : List tE}, kK y rt V j x S → (∀ e : tE, e ∈ S → ¬ (e.1 = 4 ∨ e.1 = 5 ∨ e.1 = 6)) → (∀ u : Nat, 40 ≤ u → u < 40 + wl S → rt2 (j, u) = rt (j, u) ∧ V2 (j, u) = V (j, u) ∧ kR x2 u = kR x u) → kK y rt2 V2 j x2 S
  | [], _, _, _ => trivial
  | e :: S2, hkk, hm, h2 => by
    refine ⟨?_, kK_nm hkk.2 (fun e he => hm e (List.mem_cons_of_mem _ he)) (fun u h1 h3 => h2 u h1 (Nat.lt_of_lt_of_le h3 (Nat.add_le_add_left wl_le 40)))⟩
    have he := hm e (List.mem_cons_self ..)
    have hk3 := hkk.1
    by_cases c8 : e.1 = 8
    · obtain ⟨k, t, n⟩ := e
      have c8 : k = 8 := c8
      subst c8; trivial
    · have hwe : wl (e :: S2) = wl S2 + 1 := wl_n (by rintro (q | q); exact c8 q; exact he q)
      obtain ⟨a1, a2, a3⟩ := h2 (40 + wl S2) (by omega) (by omega)
      obtain ⟨k, t, n⟩ := e
      match k, he, c8, hk3 with
      | 0, _, _, hk3 => unfold kE at hk3 ⊢; rw [a1, a2, a3]; exact hk3
      | 1, _, _, hk3 => unfold kE at hk3 ⊢; rw [a1, a2]; exact hk3
      | 2, _, _, hk3 => unfold kE at hk3 ⊢; rw [a1, a2]; exact hk3
      | 3, _, _, hk3 => unfold kE at hk3 ⊢; rw [a1, a2, a3]; exact hk3
      | 4, he, _, _ => exact absurd (Or.inl rfl) he
      | 5, he, _, _ => exact absurd (Or.inr (Or.inl rfl)) he
      | 6, he, _, _ => exact absurd (Or.inr (Or.inr rfl)) he
      | 7, _, _, hk3 => unfold kE at hk3 ⊢; rw [a1, a2, a3]; exact hk3
      | 8, _, c8, _ => exact absurd rfl c8
      | k + 9, _, _, hk3 => exact hk3.elim
/-- roots from 300 on are cleared -/
def kC3 (V : Nat × Nat → qV) (f : Nat) : Nat × Nat → qV := fun q => if q.1 = f ∧ 300 ≤ q.2 then fun _ => none else V q
theorem kC3_in {V : Nat × Nat → qV} {f u : Nat} (h : 300 ≤ u) : kC3 V f (f, u) = fun _ => none := by
  unfold kC3; exact if_pos ⟨rfl, h⟩
theorem kC3_out {V : Nat × Nat → qV} {f j u : Nat} (h : j ≠ f ∨ u < 300) : kC3 V f (j, u) = V (j, u) := by
  unfold kC3
  refine if_neg (fun z => ?_)
  have h1 : j = f := z.1
  have h2 : 300 ≤ u := z.2
  omega
/-- the matched value is gone -/
theorem kJ_popM {y : qY} {vt : Nat → Nat → Nat} {tb : Nat → lTb} {f : Nat} {x : Nat → kFm} {rt : Nat × Nat → Nat} {V : Nat × Nat → qV} (h : kJ y vt tb f x rt V) {e : tE} {r : List tE} (hn : (x f).2.2.1 = 0) (hS : (x f).2.1 = e :: r) (he : e.1 = 4 ∨ e.1 = 5 ∨ e.1 = 6) (hmt : ∀ e : tE, e ∈ r → ¬ (e.1 = 4 ∨ e.1 = 5 ∨ e.1 = 6)) : kJ y vt tb f (kUx x f ((x f).1, r, 0, kR (x f), kH (x f), kal (x f), klo (x f), kAn (x f))) rt (kC3 V f) := by
  have hw := h
  obtain ⟨h0, h1, h2, h3, h4, h5, h6, h7, h8⟩ := h
  have hf := Nat.le_refl f
  have hwl : wl (x f).2.1 = wl r := by rw [hS]; exact wl_0 (Or.inr he)
  have h211 := h8 f hf
  have hA : ∀ u : Nat, kA ((x f).1, r, 0, kR (x f), kH (x f), kal (x f), klo (x f), kAn (x f)) u → kA (x f) u := fun u hu => kA_al (x := x f) hwl.symm hn hu id
  have lo4 : ∀ j u : Nat, u < 40 → kC3 V f (j, u) = V (j, u) := fun j u hu => kC3_out (Or.inr (by omega))
  refine kJ_top hw _ rfl rfl (fun j u hj => ⟨rfl, kC3_out (Or.inl hj)⟩) (fun u => ?_) (lIv_mono2 (h1.1 f hf) (fun u a hu ha => ⟨hA u hu, ha⟩) (fun u a l _ _ hl => hl) (fun u a hu _ => Iff.rfl)) (fun u a hu ha => ?_) (fun u t g1 hv1 hk1 hu => ?_) ?_ (fun u π z hz => ?_) (fun v v4 hv1 => ?_) (fun r1 m1 => ⟨fun z => absurd (Or.inr (Or.inl rfl)) (hmt _ z), fun z => absurd (Or.inr (Or.inr rfl)) (hmt _ z)⟩) (by show wl r ≤ 211; omega)
  · by_cases c : u < 300
    · rw [kC3_out (Or.inr c)]; exact h0 _
    · rw [kC3_in (by omega)]; exact qOk_none
  · have q := h2 f hf u a (hA u hu) ha
    exact ⟨q.1, qTg_eq q.2 (fun q π _ _ hq => by obtain ⟨j, v⟩ := q; exact ⟨lo4 j v hq, rfl⟩)⟩
  · by_cases c : u < 300
    · rw [kC3_out (Or.inr c)] at hv1
      exact h3 f hf u t g1 hv1 hk1 (hA u hu)
    · rw [kC3_in (by omega)] at hv1; simp at hv1
  · have hk2 := h4 f hf
    rw [hS] at hk2
    exact kK_nm hk2.2 hmt (fun u h1 h2 => ⟨rfl, kC3_out (Or.inr (by have h2 : u < 40 + wl r := h2; omega)), rfl⟩)
  · by_cases c : u < 300
    · rw [kC3_out (Or.inr c)] at hz
      obtain ⟨-, k1, k2⟩ := h5 f u π z hz
      refine ⟨?_, k2⟩
      rcases k1 with ⟨a, b⟩ | ⟨a, b⟩ | ⟨a, b⟩ | ⟨r2, m2, i, a, b, b2⟩
      · rw [hS] at b
        rcases List.mem_cons.mp b with q | q
        · rw [← q] at he
          exact absurd he (by show ¬ ((8 : Nat) = 4 ∨ (8 : Nat) = 5 ∨ (8 : Nat) = 6); decide)
        · exact Or.inl ⟨a, q⟩
      · exact Or.inr (Or.inl ⟨a, by show u < 40 + wl r; omega⟩)
      · omega
      · omega
    · rw [kC3_in (by omega)] at hz; simp at hz
  · rw [lo4 f v v4]
    exact h6 f hf v v4 (by rw [hS]; exact List.mem_cons_of_mem _ hv1)
/-- part m of the matched value goes to variable v -/
theorem kJ_bind {y : qY} {vt : Nat → Nat → Nat} {tb : Nat → lTb} {f : Nat} {x : Nat → kFm} {rt : Nat × Nat → Nat} {V : Nat × Nat → qV} (h : kJ y vt tb f x rt V) {r : List tE} {r0 m v : Nat} {hd : Nat → Prop} {al2 : Nat → Prop} {lo2 : Nat → lLc → Prop} (hn : (x f).2.2.1 = 0) (hS : (x f).2.1 = (4, r0, m) :: r) (hmt : ∀ e : tE, e ∈ r → ¬ (e.1 = 4 ∨ e.1 = 5 ∨ e.1 = 6)) (hv4 : v < 40) (hvS : (8, v, 0) ∉ r) (hm : m < y.2.2.2.1 (4 + r0 / 12) (r0 % 12)) (hvt : vt (x f).1 v = y.2.2.2.2 (4 + r0 / 12) (r0 % 12) m) (hnr : y.1 (vt (x f).1 v) ≠ 5 ∧ y.1 (vt (x f).1 v) ≠ 6) (hal : ∀ u : Nat, u ≠ v → al2 u → kal (x f) u) (hlo : ∀ (w : Nat) (π : lLc), w ≠ v → ¬ lo2 w π → ¬ klo (x f) w π) : kJ y vt tb f (kUx x f ((x f).1, (4, r0, m + 1) :: (8, v, 0) :: r, 0, lUp (kR (x f)) v none, lUp (kH (x f)) v hd, al2, lo2, kAn (x f))) (qRt rt (f, v) (vt (x f).1 v)) (qUp (qUp V (f, 400 + m) (fun _ => none)) (f, v) (V (f, 400 + m))) := by
  have hw := h
  obtain ⟨h0, h1, h2, h3, h4, h5, h6, h7, h8⟩ := h
  have hf := Nat.le_refl f
  have hwl : wl (x f).2.1 = wl r := by rw [hS]; exact wl_0 (Or.inr (Or.inl rfl))
  have hwl2 : wl (((4, r0, m + 1) : tE) :: (8, v, 0) :: r) = wl r := by rw [wl_0 (Or.inr (Or.inl rfl)), wl_0 (Or.inl rfl)]
  have h211 := h8 f hf
  have hk2 := h4 f hf
  rw [hS] at hk2
  have hmt4 : kMt y rt V f (4 + r0 / 12) (r0 % 12) m := hk2.1
  obtain ⟨p1, p2⟩ := hmt4 m (Nat.le_refl _) hm
  have hne : ∀ u : Nat, u ≠ v → ((f, u) : Nat × Nat) ≠ (f, v) := fun u hu q => hu (by injection q)
  have hne4 : ∀ u : Nat, u ≠ 400 + m → ((f, u) : Nat × Nat) ≠ (f, 400 + m) := fun u hu q => hu (by injection q)
  have ou : ∀ u : Nat, u ≠ v → u ≠ 400 + m → qUp (qUp V (f, 400 + m) (fun _ => none)) (f, v) (V (f, 400 + m)) (f, u) = V (f, u) := fun u h1 h2 => by rw [qUp_ne (hne u h1), qUp_ne (hne4 u h2)]
  have oj : ∀ j u : Nat, j ≠ f → qUp (qUp V (f, 400 + m) (fun _ => none)) (f, v) (V (f, 400 + m)) (j, u) = V (j, u) ∧ qRt rt (f, v) (vt (x f).1 v) (j, u) = rt (j, u) := fun j u hj => ⟨by rw [qUp_ne (fun q => hj (by injection q)), qUp_ne (fun q => hj (by injection q))], qRt_ne (fun q => hj (by injection q))⟩
  have ov : qUp (qUp V (f, 400 + m) (fun _ => none)) (f, v) (V (f, 400 + m)) (f, v) = V (f, 400 + m) := qUp_eq
  have om : qUp (qUp V (f, 400 + m) (fun _ => none)) (f, v) (V (f, 400 + m)) (f, 400 + m) = fun _ => none := by rw [qUp_ne (hne _ (by omega))]; exact qUp_eq
  have hR : ∀ (u : Nat) (a : lLc), lUp (kR (x f)) v none u = some a → u ≠ v ∧ kR (x f) u = some a := fun u a ha => by
    by_cases c : u = v
    · rw [c, lUp_eq] at ha; simp at ha
    · rw [lUp_ne c] at ha; exact ⟨c, ha⟩
  have hA : ∀ u : Nat, u ≠ v → kA ((x f).1, (4, r0, m + 1) :: (8, v, 0) :: r, 0, lUp (kR (x f)) v none, lUp (kH (x f)) v hd, al2, lo2, kAn (x f)) u → kA (x f) u := fun u c hu => kA_al (x := x f) (by rw [hwl2, hwl]) hn hu (hal u c)
  have vnone : ∀ (π : lLc) (z : Nat × Nat), V (f, v) π = some z → False := fun π z hz => by
    rcases (h5 f v π z hz).2.1 with ⟨a, b⟩ | ⟨a, b⟩ | ⟨a, b⟩ | ⟨r2, m2, i, a, b, b2⟩
    · rw [hS] at b
      rcases List.mem_cons.mp b with q | q
      · injection q with q1 q2; exact absurd q1 (by decide)
      · exact hvS q
    · omega
    · omega
    · omega
  refine kJ_top hw _ rfl rfl (fun j u hj => ⟨(oj j u hj).2, (oj j u hj).1⟩) (fun u => ?_) (lIv_mono2 (h1.1 f hf) (fun u a hu ha => ⟨hA u (hR u a ha).1 hu, (hR u a ha).2⟩) (fun u a l _ ha hl => by show lUp (kH (x f)) v hd u l; rw [lUp_ne (hR u a ha).1]; exact hl) (fun u a hu ha => ?_)) (fun u a hu ha => ?_) (fun u t g1 hv1 hk1 hu => ?_) ⟨?_, trivial, ?_⟩ (fun u π z hz => ?_) (fun w w4 hv1 => ?_) (fun r1 m1 => ?_) (by show wl (((4, r0, m + 1) : tE) :: (8, v, 0) :: r) ≤ 211; omega)
  · by_cases c : u = v
    · rw [c, ov, qRt_eq, hvt, ← p1]; exact h0 _
    · rw [qRt_ne (hne u c)]
      by_cases c2 : u = 400 + m
      · rw [c2, om]; exact qOk_none
      · rw [ou u c c2]; exact h0 _
  · show y.1 (qRt rt (f, v) (vt (x f).1 v) (f, u)) = 6 ↔ y.1 (rt (f, u)) = 6
    rw [qRt_ne (hne u (hR u a ha).1)]
  · obtain ⟨c, ha⟩ := hR u a ha
    have q := h2 f hf u a (hA u c hu) ha
    unfold qTr
    rw [qRt_ne (hne u c)]
    refine ⟨q.1, qTg_eq q.2 (fun q π _ hp hq => ?_)⟩
    obtain ⟨j, w⟩ := q
    have hq : w < 40 := hq
    by_cases cj : j = f
    · subst cj
      have cw : w ≠ v := fun e => by
        subst e
        obtain ⟨τ, z, hz⟩ := hp
        exact vnone _ z hz
      exact ⟨ou w cw (by omega), qRt_ne (hne w cw)⟩
    · exact oj j w cj
  · by_cases c : u = v
    · rw [c, ov] at hv1
      have := (h0 (f, 400 + m)).1 [] t g1 hv1
      have e : t = rt (f, 400 + m) := this.1
      rw [p1, ← hvt] at e
      rw [e] at hk1
      exact absurd hk1 (by rintro (z | z); exact hnr.1 z; exact hnr.2 z)
    · show ∃ a : lLc, lUp (kR (x f)) v none u = some a
      rw [lUp_ne c]
      by_cases c2 : u = 400 + m
      · rw [c2, om] at hv1; simp at hv1
      · rw [ou u c c2] at hv1
        exact h3 f hf u t g1 hv1 hk1 (hA u c hu)
  · intro i hi1 hi2
    obtain ⟨a1, a2⟩ := hmt4 i (by omega) hi2
    rw [qRt_ne (hne _ (by omega)), ou _ (by omega) (by omega)]
    exact ⟨a1, a2⟩
  · exact kK_nm hk2.2 hmt (fun u h1 h2 => ⟨qRt_ne (hne u (by omega)), ou u (by omega) (by omega), lUp_ne (by omega)⟩)
  · by_cases c : u = v
    · refine ⟨Or.inl ⟨by omega, ?_⟩, fun _ => by rw [c, qRt_eq]⟩
      rw [c]
      exact List.mem_cons_of_mem _ (List.mem_cons_self ..)
    · rw [qRt_ne (hne u c)]
      by_cases c2 : u = 400 + m
      · rw [c2, om] at hz; simp at hz
      · rw [ou u c c2] at hz
        obtain ⟨-, k1, k2⟩ := h5 f u π z hz
        refine ⟨?_, k2⟩
        rw [hS] at k1
        rcases k1 with ⟨a, b⟩ | ⟨a, b⟩ | ⟨a, r2, m2, b⟩ | ⟨r2, m2, i, a, b, b2⟩
        · rcases List.mem_cons.mp b with q | q
          · injection q with q1 q2; exact absurd q1 (by decide)
          · exact Or.inl ⟨a, List.mem_cons_of_mem _ (List.mem_cons_of_mem _ q)⟩
        · exact Or.inr (Or.inl ⟨a, by show u < 40 + wl (((4, r0, m + 1) : tE) :: (8, v, 0) :: r); rw [hwl2]; rw [wl_0 (Or.inr (Or.inl rfl))] at b; exact b⟩)
        · rcases b with b | b
          · rcases List.mem_cons.mp b with q | q
            · injection q with q1 q2; exact absurd q1 (by decide)
            · exact absurd (Or.inr (Or.inl rfl)) (hmt _ q)
          · rcases List.mem_cons.mp b with q | q
            · injection q with q1 q2; exact absurd q1 (by decide)
            · exact absurd (Or.inr (Or.inr rfl)) (hmt _ q)
        · rcases List.mem_cons.mp a with q | q
          · injection q with q1 q2
            injection q2 with q3 q4
            exact Or.inr (Or.inr (Or.inr ⟨r0, m + 1, i, List.mem_cons_self .., b, by omega, by rw [← q3]; exact b2.2⟩))
          · exact absurd (Or.inl rfl) (hmt _ q)
  · by_cases c : w = v
    · subst c
      rw [ov, qRt_eq]
      refine ⟨rfl, fun π T g1 g2 g3 => ?_⟩
      have := p2 π T g1 (by rw [← hvt]; exact g2)
      rw [List.nil_append] at this
      exact this
    · rw [ou w c (by omega), qRt_ne (hne w c)]
      have hv2 : (8, w, 0) ∈ (x f).2.1 := by
        rcases List.mem_cons.mp hv1 with q | q
        · injection q with q1 q2; exact absurd q1 (by decide)
        · rcases List.mem_cons.mp q with q | q
          · injection q with q1 q2
            injection q2 with q3 q4
            exact absurd q3 c
          · rw [hS]; exact List.mem_cons_of_mem _ q
      have q := h6 f hf w w4 hv2
      exact ⟨q.1, fun π T g1 g2 g3 => q.2 π T g1 g2 (hlo w π c g3)⟩
  · have no : ∀ e : tE, e ∈ ((4, r0, m + 1) : tE) :: (8, v, 0) :: r → e.1 = 5 ∨ e.1 = 6 → False := fun e he h56 => by
      rcases List.mem_cons.mp he with q | q
      · rw [q] at h56
        exact absurd h56 (by show ¬ ((4 : Nat) = 5 ∨ (4 : Nat) = 6); decide)
      · rcases List.mem_cons.mp q with q | q
        · rw [q] at h56
          exact absurd h56 (by show ¬ ((8 : Nat) = 5 ∨ (8 : Nat) = 6); decide)
        · exact hmt e q (Or.inr h56)
    exact ⟨fun z => (no _ z (Or.inl rfl)).elim, fun z => (no _ z (Or.inr rfl)).elim⟩
