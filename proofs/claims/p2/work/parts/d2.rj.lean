theorem kR_row {sh g : Nat} (h : g < 12) : (sh * 12 + g) / 12 = sh ∧ (sh * 12 + g) % 12 = g := by omega
/-- the roots of a matched value's parts -/
def kSv (V : Nat × Nat → qV) (f w g n : Nat) : Nat × Nat → qV := fun q => if q.1 = f ∧ 400 ≤ q.2 then (if q.2 - 400 < n then qS (V (f, 40 + w)) [(g + 2, q.2 - 400)] else fun _ => none) else kCl V f w q
def kSt (rt : Nat × Nat → Nat) (f : Nat) (pt : Nat → Nat) : Nat × Nat → Nat := fun q => if q.1 = f ∧ 400 ≤ q.2 then pt (q.2 - 400) else rt q
theorem kSv_p {V : Nat × Nat → qV} {f w g n i : Nat} (h : i < n) : kSv V f w g n (f, 400 + i) = qS (V (f, 40 + w)) [(g + 2, i)] := by
  unfold kSv
  rw [if_pos ⟨rfl, Nat.le_add_right _ _⟩]
  have e : 400 + i - 400 = i := by omega
  show (if 400 + i - 400 < n then qS (V (f, 40 + w)) [(g + 2, 400 + i - 400)] else fun _ => none) = _
  rw [e, if_pos h]
theorem kSv_o {V : Nat × Nat → qV} {f w g n u : Nat} (h : 400 + n ≤ u) : kSv V f w g n (f, u) = fun _ => none := by
  unfold kSv
  rw [if_pos ⟨rfl, by show 400 ≤ u; omega⟩]
  show (if u - 400 < n then qS (V (f, 40 + w)) [(g + 2, u - 400)] else fun _ => none) = _
  rw [if_neg (by omega)]
theorem kSv_l {V : Nat × Nat → qV} {f w g n j u : Nat} (h : j ≠ f ∨ u < 400) : kSv V f w g n (j, u) = kCl V f w (j, u) := by
  unfold kSv
  rw [if_neg]
  intro z
  have h1 : j = f := z.1
  have h2 : 400 ≤ u := z.2
  omega
theorem kSt_p {rt : Nat × Nat → Nat} {f i : Nat} {pt : Nat → Nat} : kSt rt f pt (f, 400 + i) = pt i := by
  unfold kSt
  rw [if_pos ⟨rfl, Nat.le_add_right _ _⟩]
  show pt (400 + i - 400) = pt i
  rw [show 400 + i - 400 = i by omega]
theorem kSt_l {rt : Nat × Nat → Nat} {f j u : Nat} {pt : Nat → Nat} (h : j ≠ f ∨ u < 400) : kSt rt f pt (j, u) = rt (j, u) := by
  unfold kSt
  rw [if_neg]
  intro z
  have h1 : j = f := z.1
  have h2 : 400 ≤ u := z.2
  omega
/-- a value is matched on: variant g -/
theorem kJ_sw0 {y : qY} {vt : Nat → Nat → Nat} {tb : Nat → lTb} {f : Nat} {x : Nat → kFm} {rt : Nat × Nat → Nat} {V : Nat × Nat → qV} (h : kJ y vt tb f x rt V) {r : List tE} {sh g m : Nat} (hn : (x f).2.2.1 = 0) (hS : (x f).2.1 = (0, 4 + sh, m) :: r) (hmt : ∀ e : tE, e ∈ r → ¬ (e.1 = 4 ∨ e.1 = 5 ∨ e.1 = 6)) (hg : g < 12) (hk : y.1 (4 + sh) = 3) (hv : V (f, 40 + wl r) [] = some (4 + sh, g)) : kJ y vt tb f (kUx x f ((x f).1, (4, sh * 12 + g, 0) :: r, 0, kR (x f), kH (x f), kal (x f), klo (x f), kAn (x f))) (kSt rt f (y.2.2.2.2 (4 + sh) g)) (kSv V f (wl r) g (y.2.2.2.1 (4 + sh) g)) := by
  have hw := h
  obtain ⟨h0, h1, h2, h3, h4, h5, h6, h7, h8⟩ := h
  have hf := Nat.le_refl f
  obtain ⟨e1, e2⟩ := kR_row (sh := sh) hg
  have hwl : wl (x f).2.1 = wl r + 1 := by rw [hS]; exact wl_n (by show ¬ ((0 : Nat) = 8 ∨ (0 : Nat) = 4 ∨ (0 : Nat) = 5 ∨ (0 : Nat) = 6); decide)
  have hwl2 : wl (((4, sh * 12 + g, 0) : tE) :: r) = wl r := wl_0 (Or.inr (Or.inl rfl))
  have h211 := h8 f hf
  obtain ⟨w1, w2, w3, w4, w5⟩ := (h0 (f, 40 + wl r)).1 [] _ _ hv
  have hrt : rt (f, 40 + wl r) = 4 + sh := (show 4 + sh = rt (f, 40 + wl r) from w1).symm
  have hgn := w3 hk
  have hA : ∀ u : Nat, kA ((x f).1, (4, sh * 12 + g, 0) :: r, 0, kR (x f), kH (x f), kal (x f), klo (x f), kAn (x f)) u → kA (x f) u := fun u hu => by
    rcases hu with ⟨a, b⟩ | ⟨a, b⟩
    · exact Or.inl ⟨a, b⟩
    · have b : u < 40 + wl (((4, sh * 12 + g, 0) : tE) :: r) + 0 := b
      exact Or.inr ⟨a, by omega⟩
  have mem : ∀ e : tE, e.1 ≠ 0 → e ∈ (x f).2.1 → e ∈ r := fun e he hm => by
    rw [hS] at hm
    rcases List.mem_cons.mp hm with q | q
    · exact absurd (by rw [q]) he
    · exact q
  have out : ∀ e : tE, e ∈ r → e ∈ (x f).2.1 := fun e he => by rw [hS]; exact List.mem_cons_of_mem _ he
  have lo4 : ∀ j u : Nat, u < 40 → kSv V f (wl r) g (y.2.2.2.1 (4 + sh) g) (j, u) = V (j, u) ∧ kSt rt f (y.2.2.2.2 (4 + sh) g) (j, u) = rt (j, u) := fun j u hu => by
    refine ⟨?_, kSt_l (Or.inr (by omega))⟩
    rw [kSv_l (Or.inr (by omega))]
    by_cases c : j = f
    · rw [c]; exact kCl_out (Or.inl (by omega))
    · exact kCl_f c
  refine kJ_top hw _ rfl rfl (fun j u hj => ⟨kSt_l (Or.inl hj), by rw [kSv_l (Or.inl hj)]; exact kCl_f hj⟩) (fun u => ?_) (lIv_mono2 (h1.1 f hf) (fun u a hu ha => ⟨hA u hu, ha⟩) (fun u a l _ _ hl => hl) (fun u a hu _ => ?_)) (fun u a hu ha => ?_) (fun u t g1 hv1 hk1 hu => ?_) ⟨?_, ?_⟩ (fun u π z hz => ?_) (fun v v4 hv1 => ?_) (fun r1 m1 => ?_) (by show wl (((4, sh * 12 + g, 0) : tE) :: r) ≤ 211; omega)
  · by_cases c : u < 400
    · rw [kSv_l (Or.inr c), kSt_l (Or.inr c)]
      by_cases c4 : u < 40 + wl r ∨ 300 ≤ u
      · rw [kCl_out c4]; exact h0 _
      · rw [show kCl V f (wl r) (f, u) = fun _ => none from funext (fun π => kCl_in (by omega) (by omega))]; exact qOk_none
    · obtain ⟨i, rfl⟩ : ∃ i : Nat, u = 400 + i := ⟨u - 400, by omega⟩
      by_cases c2 : i < y.2.2.2.1 (4 + sh) g
      · rw [kSv_p c2, kSt_p]
        exact qOk_S (h0 (f, 40 + wl r)) (by rw [hrt]; exact ⟨hk, hgn, c2, rfl⟩)
      · rw [kSv_o (by omega)]; exact qOk_none
  · show y.1 (kSt rt f (y.2.2.2.2 (4 + sh) g) (f, u)) = 6 ↔ y.1 (rt (f, u)) = 6
    rw [kSt_l (Or.inr ?_)]
    rcases hu with ⟨a, b⟩ | ⟨a, b⟩
    · omega
    · have b : u < 40 + wl (((4, sh * 12 + g, 0) : tE) :: r) + 0 := b
      omega
  · have q := h2 f hf u a (hA u hu) ha
    unfold qTr
    rw [kSt_l (Or.inr ?_)]
    · exact ⟨q.1, qTg_eq q.2 (fun q π _ _ hq => by obtain ⟨j, v⟩ := q; exact lo4 j v hq)⟩
    · rcases hu with ⟨a, b⟩ | ⟨a, b⟩
      · omega
      · have b : u < 40 + wl (((4, sh * 12 + g, 0) : tE) :: r) + 0 := b
        omega
  · have u4 : u < 400 := by
      rcases hu with ⟨a, b⟩ | ⟨a, b⟩
      · omega
      · have b : u < 40 + wl (((4, sh * 12 + g, 0) : tE) :: r) + 0 := b
        omega
    rw [kSv_l (Or.inr u4)] at hv1
    exact h3 f hf u t g1 (kCl_some hv1).2 hk1 (hA u hu)
  · show kMt y (kSt rt f (y.2.2.2.2 (4 + sh) g)) (kSv V f (wl r) g (y.2.2.2.1 (4 + sh) g)) f (4 + (sh * 12 + g) / 12) ((sh * 12 + g) % 12) 0
    rw [e1, e2]
    intro i _ hi
    rw [kSt_p, kSv_p hi, qF_S]
    exact ⟨rfl, w5 hk i hi⟩
  · have hk2 := h4 f hf
    rw [hS] at hk2
    have gen : ∀ S2 : List tE, (∀ e : tE, e ∈ S2 → ¬ (e.1 = 4 ∨ e.1 = 5 ∨ e.1 = 6)) → wl S2 ≤ wl r → kK y rt V f (x f) S2 → kK y (kSt rt f (y.2.2.2.2 (4 + sh) g)) (kSv V f (wl r) g (y.2.2.2.1 (4 + sh) g)) f ((x f).1, (4, sh * 12 + g, 0) :: r, 0, kR (x f), kH (x f), kal (x f), klo (x f), kAn (x f)) S2 := fun S2 => by
      induction S2 with
      | nil => exact fun _ _ _ => trivial
      | cons e S2 ih =>
        intro hm hle hkk
        have hle2 : wl S2 ≤ wl r := Nat.le_trans wl_le hle
        refine ⟨?_, ih (fun e he => hm e (List.mem_cons_of_mem _ he)) hle2 hkk.2⟩
        have he := hm e (List.mem_cons_self ..)
        have hk3 := hkk.1
        by_cases c8 : e.1 = 8
        · obtain ⟨k, t, n⟩ := e
          have c8 : k = 8 := c8
          subst c8; trivial
        · have hwe : wl (e :: S2) = wl S2 + 1 := wl_n (by rintro (q | q); exact c8 q; exact he q)
          have ag : kSt rt f (y.2.2.2.2 (4 + sh) g) (f, 40 + wl S2) = rt (f, 40 + wl S2) ∧ kSv V f (wl r) g (y.2.2.2.1 (4 + sh) g) (f, 40 + wl S2) = V (f, 40 + wl S2) := by
            refine ⟨kSt_l (Or.inr (by omega)), ?_⟩
            rw [kSv_l (Or.inr (by omega))]
            exact kCl_out (Or.inl (by omega))
          obtain ⟨k, t, n⟩ := e
          match k, he, c8, hk3 with
          | 0, _, _, hk3 => unfold kE at hk3 ⊢; rw [ag.1, ag.2]; exact hk3
          | 1, _, _, hk3 => unfold kE at hk3 ⊢; rw [ag.1, ag.2]; exact hk3
          | 2, _, _, hk3 => unfold kE at hk3 ⊢; rw [ag.1, ag.2]; exact hk3
          | 3, _, _, hk3 => unfold kE at hk3 ⊢; rw [ag.1, ag.2]; exact hk3
          | 4, he, _, _ => exact absurd (Or.inl rfl) he
          | 5, he, _, _ => exact absurd (Or.inr (Or.inl rfl)) he
          | 6, he, _, _ => exact absurd (Or.inr (Or.inr rfl)) he
          | 7, _, _, hk3 => unfold kE at hk3 ⊢; rw [ag.1, ag.2]; exact hk3
          | 8, _, c8, _ => exact absurd rfl c8
          | k + 9, _, _, hk3 => exact hk3.elim
    exact gen r hmt (Nat.le_refl _) hk2.2
  · by_cases c : u < 400
    · rw [kSv_l (Or.inr c)] at hz
      rw [kSt_l (Or.inr c)]
      obtain ⟨c1, hz⟩ := kCl_some hz
      obtain ⟨-, k1, k2⟩ := h5 f u π z hz
      refine ⟨?_, k2⟩
      rcases k1 with ⟨a, b⟩ | ⟨a, b⟩ | ⟨a, r2, m2, b⟩ | ⟨r2, m2, i, a, b, b2⟩
      · exact Or.inl ⟨a, List.mem_cons_of_mem _ (mem _ (by show (8 : Nat) ≠ 0; decide) b)⟩
      · exact Or.inr (Or.inl ⟨a, by show u < 40 + wl (((4, sh * 12 + g, 0) : tE) :: r); omega⟩)
      · rcases b with b | b
        · exact absurd (Or.inr (Or.inl rfl)) (hmt _ (mem _ (by show (5 : Nat) ≠ 0; decide) b))
        · exact absurd (Or.inr (Or.inr rfl)) (hmt _ (mem _ (by show (6 : Nat) ≠ 0; decide) b))
      · omega
    · obtain ⟨i, rfl⟩ : ∃ i : Nat, u = 400 + i := ⟨u - 400, by omega⟩
      by_cases c2 : i < y.2.2.2.1 (4 + sh) g
      · refine ⟨Or.inr (Or.inr (Or.inr ⟨sh * 12 + g, 0, i, List.mem_cons_self .., rfl, Nat.zero_le _, by rw [e1, e2]; exact c2⟩)), fun q => by omega⟩
      · rw [kSv_o (by omega)] at hz; simp at hz
  · have hv2 : (8, v, 0) ∈ (x f).2.1 := by
      rcases List.mem_cons.mp hv1 with q | q
      · injection q with q1 q2; exact absurd q1 (by decide)
      · exact out _ q
    rw [(lo4 f v v4).1, (lo4 f v v4).2]
    exact h6 f hf v v4 hv2
  · refine ⟨fun z => ?_, fun z => ?_⟩
    · rcases List.mem_cons.mp z with q | q
      · injection q with q1 q2; exact absurd q1 (by decide)
      · exact absurd (Or.inr (Or.inl rfl)) (hmt _ q)
    · rcases List.mem_cons.mp z with q | q
      · injection q with q1 q2; exact absurd q1 (by decide)
      · exact absurd (Or.inr (Or.inr rfl)) (hmt _ q)
