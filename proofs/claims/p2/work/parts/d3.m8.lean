theorem kTg_top {y : qY} {z : qZ} {c c2 : Nat → Int} {vt : Nat → Nat → Nat} {tb : Nat → lTb} {f : Nat} {x : Nat → kFm} {rt ra rt2 ra2 : Nat × Nat → Nat} {V : Nat × Nat → qV} (hJ : kJ y vt tb f x rt V) (he : ∀ j u : Nat, u < 40 → qPl (V (j, u)) [] → rt2 (j, u) = rt (j, u) ∧ ra2 (j, u) = ra (j, u)) (hc : ∀ (r : Nat × Nat) (π : lLc) (w : Nat × Nat), V r π = some w → c2 (qA y z c (rt r) (ra r) π) = c (qA y z c (rt r) (ra r) π)) {a : lLc} {T : Nat} (ht : qTg y rt V a T) : qAd y z c2 rt2 ra2 a = qAd y z c rt ra a := by
  have ht2 := ht
  obtain ⟨r, π, er, hr, -, hf⟩ := ht2
  refine qAd_pl hJ.1 ht (fun r2 π2 e3 => ?_) (fun r2 π2 π1 w e3 hw _ _ => hc r2 π1 w hw)
  rw [er] at e3
  injection e3 with e4 e5
  subst e4
  obtain ⟨j, u⟩ := r
  obtain ⟨τ, w, hw⟩ := qF_pl hf
  exact he j u hr ⟨π ++ τ, w, hw⟩
theorem kAk_nm {y : qY} {z : qZ} {c c2 : Nat → Int} {rt ra ra2 : Nat × Nat → Nat} {V : Nat × Nat → qV} {j B : Nat} {x : kFm} : ∀ {S : List tE}, kK y rt V j x S → kAk y z c ra j B S → (∀ e : tE, e ∈ S → ¬ (e.1 = 4 ∨ e.1 = 5 ∨ e.1 = 6)) → (∀ u : Nat, 40 ≤ u → u < 40 + wl S → ra2 (j, u) = ra (j, u)) → (∀ (u : Nat) (w : Nat × Nat), 40 ≤ u → u < 40 + wl S → V (j, u) [] = some w → c2 (ra (j, u)) = c (ra (j, u))) → kAk y z c2 ra2 j B S
  | [], _, _, _, _, _ => trivial
  | e :: s, hk, h, hm, h2, h3 => by
    refine ⟨?_, kAk_nm hk.2 h.2 (fun e he => hm e (List.mem_cons_of_mem _ he)) (fun u h4 h5 => h2 u h4 (by have := wl_le (e := e) (s := s); omega)) (fun u w h4 h5 h6 => h3 u w h4 (by have := wl_le (e := e) (s := s); omega) h6)⟩
    have he := hm e (List.mem_cons_self ..)
    have h1 := h.1
    have hk1 := hk.1
    by_cases c8 : e.1 = 8
    · obtain ⟨k, t, n⟩ := e
      have c8 : k = 8 := c8
      subst c8; trivial
    · have hwe : wl (e :: s) = wl s + 1 := wl_n (by rintro (q | q); exact c8 q; exact he q)
      have a1 := h2 (40 + wl s) (by omega) (by omega)
      obtain ⟨k, t, n⟩ := e
      match k, he, c8, h1, hk1 with
      | 0, _, _, h1, _ => exact fun q => a1.trans (h1 q)
      | 1, _, _, h1, _ => exact a1.trans h1
      | 2, _, _, h1, _ => exact a1.trans h1
      | 3, _, _, h1, hk1 =>
        obtain ⟨w, hw⟩ := hk1.2.2
        have := h3 (40 + wl s) w (by omega) (by omega) hw
        rw [h1.1] at this
        exact ⟨a1.trans h1.1, this.trans h1.2⟩
      | 4, he, _, _, _ => exact absurd (Or.inl rfl) he
      | 5, he, _, _, _ => exact absurd (Or.inr (Or.inl rfl)) he
      | 6, he, _, _, _ => exact absurd (Or.inr (Or.inr rfl)) he
      | 7, _, _, h1, _ => exact a1.trans h1
      | k + 8, _, _, _, _ => trivial
/-- a value is matched on -/
theorem kL_sw0 {y : qY} {z : qZ} {vt vo : Nat → Nat → Nat} {vc : Nat → Nat} {tb : Nat → lTb} {hp : Nat} {tk : Nat → Prop} {c : Nat → Int} {f : Nat} {x : Nat → kFm} {rt ra : Nat × Nat → Nat} {V : Nat × Nat → qV} {fb : Nat → Nat} {top : Nat} {fil : Nat → Nat → Nat → Prop} (hy : kYs y z vt vo vc) (hJ : kJ y vt tb f x rt V) (h : kL y z vt vo vc hp tk c f x rt ra V fb top fil) {r : List tE} {sh g m : Nat} (hn : (x f).2.2.1 = 0) (hS : (x f).2.1 = (0, 4 + sh, m) :: r) (hmt : ∀ e : tE, e ∈ r → ¬ (e.1 = 4 ∨ e.1 = 5 ∨ e.1 = 6)) (hg : g < 12) (hk : y.1 (4 + sh) = 3) (hv : V (f, 40 + wl r) [] = some (4 + sh, g)) : kL y z vt vo vc hp tk c f (kUx x f ((x f).1, (4, sh * 12 + g, 0) :: r, 0, kR (x f), kH (x f), kal (x f), klo (x f), kAn (x f))) (kSt rt f (y.2.2.2.2 (4 + sh) g)) (kSt ra f (fun i => ra (f, 40 + wl r) + z.2 (4 + sh) g i)) (kSv V f (wl r) g (y.2.2.2.1 (4 + sh) g)) fb top fil := by
  have hL := h
  obtain ⟨l0, l1, l2, l3, l4, l5, l6, l7, l8, l9⟩ := h
  have hf := Nat.le_refl f
  have h8 := hJ.2.2.2.2.2.2.2.2 f hf
  obtain ⟨e1, e2⟩ := kR_row (sh := sh) hg
  have hwl : wl (x f).2.1 = wl r + 1 := by rw [hS]; exact wl_n (by show ¬ ((0 : Nat) = 8 ∨ (0 : Nat) = 4 ∨ (0 : Nat) = 5 ∨ (0 : Nat) = 6); decide)
  have hwl2 : wl (((4, sh * 12 + g, 0) : tE) :: r) = wl r := wl_0 (Or.inr (Or.inl rfl))
  obtain ⟨w1, w2, w3, w4, w5⟩ := (hJ.1 (f, 40 + wl r)).1 [] _ _ hv
  have hrt : rt (f, 40 + wl r) = 4 + sh := (show 4 + sh = rt (f, 40 + wl r) from w1).symm
  have hk2 := l2 f hf
  rw [hS] at hk2
  have hra : ra (f, 40 + wl r) = fb f + vc (x f).1 + khs z r := hk2.1 (by omega)
  have hkk := hJ.2.2.2.2.1 f hf
  rw [hS] at hkk
  have no4 : ∀ (u : Nat) (π : lLc) (w : Nat × Nat), 300 ≤ u → V (f, u) π = some w → False := fun u π w hu hw => by
    rcases (hJ.2.2.2.2.2.1 f u π w hw).2.1 with ⟨b1, b2⟩ | ⟨b1, b2⟩ | ⟨b1, r2, m2, b2⟩ | ⟨r2, m2, i, b1, b2, b3⟩
    · omega
    · omega
    · rw [hS] at b2
      rcases b2 with b2 | b2
      · rcases List.mem_cons.mp b2 with q | q
        · injection q with q1 q2; exact absurd q1 (by decide)
        · exact hmt _ q (Or.inr (Or.inl rfl))
      · rcases List.mem_cons.mp b2 with q | q
        · injection q with q1 q2; exact absurd q1 (by decide)
        · exact hmt _ q (Or.inr (Or.inr rfl))
    · rw [hS] at b1
      rcases List.mem_cons.mp b1 with q | q
      · injection q with q1 q2; exact absurd q1 (by decide)
      · exact hmt _ q (Or.inl rfl)
  have rt4 : ∀ (s : Nat × Nat → Nat) (p : Nat → Nat) (j u : Nat), u < 40 → kSt s f p (j, u) = s (j, u) := fun s p j u hu => kSt_l (Or.inr (by omega))
  have out : ∀ e : tE, e ∈ r → e ∈ (x f).2.1 := fun e he => by rw [hS]; exact List.mem_cons_of_mem _ he
  have q := (qMm_spl (rt2 := kSt rt f (y.2.2.2.2 (4 + sh) g)) (ra2 := kSt ra f (fun i => ra (f, 40 + wl r) + z.2 (4 + sh) g i)) (V2 := kSv V f (wl r) g (y.2.2.2.1 (4 + sh) g)) hy.1 l0 (s := (f, 40 + wl r)) (t := 4 + sh) (g := g) (fun j => (f, 400 + j)) (fun i j _ _ e => by injection e with e1 e2; omega) hv hk hrt (fun j hj => ⟨kSt_p, kSt_p, kSv_p hj⟩) (fun s => by
    obtain ⟨j, u⟩ := s
    by_cases cj : j = f
    · subst cj
      by_cases c4 : 400 ≤ u
      · obtain ⟨i, rfl⟩ : ∃ i : Nat, u = 400 + i := ⟨u - 400, by omega⟩
        by_cases ci : i < y.2.2.2.1 (4 + sh) g
        · exact Or.inl ⟨i, ci, rfl⟩
        · exact Or.inr (Or.inl (fun π => by rw [kSv_o (by omega)]))
      · by_cases cl : 40 + wl r ≤ u ∧ u < 300
        · exact Or.inr (Or.inl (fun π => by rw [kSv_l (Or.inr (by omega))]; exact kCl_in cl.1 cl.2))
        · refine Or.inr (Or.inr ⟨?_, kSt_l (Or.inr (by omega)), kSt_l (Or.inr (by omega)), fun e => ?_⟩)
          · rw [kSv_l (Or.inr (by omega))]; exact kCl_out (by omega)
          · injection e with e3 e4
            omega
    · refine Or.inr (Or.inr ⟨?_, kSt_l (Or.inl cj), kSt_l (Or.inl cj), fun e => cj (by injection e)⟩)
      rw [kSv_l (Or.inl cj)]; exact kCl_f cj)).1
  have ads : ∀ (a : lLc) (T : Nat), qTg y rt V a T → qAd y z c (kSt rt f (y.2.2.2.2 (4 + sh) g)) (kSt ra f (fun i => ra (f, 40 + wl r) + z.2 (4 + sh) g i)) a = qAd y z c rt ra a := fun a T ht => kTg_top hJ (fun j u hu _ => ⟨rt4 _ _ j u hu, rt4 _ _ j u hu⟩) (fun _ _ _ _ => rfl) ht
  refine kL_top hJ hL _ rfl q (fun j u hj => ⟨kSt_l (Or.inl hj), kSt_l (Or.inl hj), by rw [kSv_l (Or.inl hj)]; exact kCl_f hj⟩) (fun _ _ _ _ _ => rfl) (fun j u a hj hu ha hw => ?_) (fun u a hu ha hw => ?_) ⟨?_, ?_⟩ (fun v v4 hv2 => ?_) ?_ (fun _ _ => rfl) (fun v v4 hv2 π t g1 g2 g3 g4 => ?_) (fun u π w u4 hw => ?_) (fun r1 m1 hm => ?_)
  · rcases hu with hu | hu
    · exact ads a _ (hJ.2.2.1 j (by omega) u a hu ha).2
    · subst hu
      obtain ⟨w, hw⟩ := hw
      obtain ⟨e3, -⟩ := k300 hJ hw
      omega
  · rcases hu with hu | hu
    · have u4 : u < 40 + wl r := by
        rcases hu with ⟨b1, b2⟩ | ⟨b1, b2⟩
        · omega
        · have b2 : u < 40 + wl (((4, sh * 12 + g, 0) : tE) :: r) + 0 := b2
          omega
      have hA : kA (x f) u := by
        rcases hu with ⟨b1, b2⟩ | ⟨b1, b2⟩
        · exact Or.inl ⟨b1, b2⟩
        · exact Or.inr ⟨b1, by omega⟩
      rw [kSv_l (Or.inr (by omega)), kCl_out (Or.inl u4)] at hw
      rw [kSt_l (Or.inr (by omega)), ads a _ (hJ.2.2.1 f hf u a hA ha).2]
      exact l1 f hf u a (Or.inl hA) ha hw
    · subst hu
      obtain ⟨w, hw⟩ := hw
      rw [kSv_l (Or.inr (by omega)), kCl_out (Or.inr (by omega))] at hw
      exact (no4 300 [] w (by omega) hw).elim
  · show kAe y z c (kSt ra f (fun i => ra (f, 40 + wl r) + z.2 (4 + sh) g i)) f (fb f + vc (x f).1 + khs z r) (wl r) (4, sh * 12 + g, 0)
    intro i _ hi
    rw [kSt_p, e1, e2, hra]
  · exact kAk_nm hkk.2 hk2.2 hmt (fun u h4 h5 => kSt_l (Or.inr (by omega))) (fun _ _ _ _ _ => rfl)
  · rw [rt4 _ _ f v v4]
    refine l3 f hf v v4 ?_
    rcases List.mem_cons.mp hv2 with q | q
    · injection q with q1 q2; exact absurd q1 (by decide)
    · exact out _ q
  · show top = fb f + vc (x f).1 + (khs z r + z.1 (4 + (sh * 12 + g) / 12))
    rw [l6, hS, e1]
    show fb f + vc (x f).1 + (khs z r + (if 4 + sh = 0 then 0 else z.1 (4 + sh))) = _
    rw [if_neg (by omega)]
  · rw [kSv_l (Or.inr (by omega)), kCl_out (Or.inl (by omega))]
    refine l7 f hf v v4 ?_ π t g1 g2 g3 g4
    rcases List.mem_cons.mp hv2 with q | q
    · injection q with q1 q2; exact absurd q1 (by decide)
    · exact out _ q
  · rw [kSv_l (Or.inr (by omega)), kCl_out (Or.inl (by omega))] at hw
    exact l8 f u π w u4 hw
  · rcases List.mem_cons.mp hm with q | q
    · injection q with q1 q2
      injection q2 with q3 q4
      rw [q3, e1, e2]
      exact ⟨hk, w3 hk⟩
    · exact absurd (Or.inl rfl) (hmt _ q)
/-- a reference is matched on -/
theorem kL_sw1 {y : qY} {z : qZ} {vt vo : Nat → Nat → Nat} {vc : Nat → Nat} {tb : Nat → lTb} {hp : Nat} {tk : Nat → Prop} {c : Nat → Int} {f : Nat} {x : Nat → kFm} {rt ra : Nat × Nat → Nat} {V : Nat × Nat → qV} {fb : Nat → Nat} {top : Nat} {fil : Nat → Nat → Nat → Prop} (hJ : kJ y vt tb f x rt V) (h : kL y z vt vo vc hp tk c f x rt ra V fb top fil) {r : List tE} {sh g q m : Nat} {a0 : lLc} {hd : Nat → Prop} (hn : (x f).2.2.1 = 0) (hq : q = 1 ∨ q = 2) (hS : (x f).2.1 = (q, 4 + sh, m) :: r) (hmt : ∀ e : tE, e ∈ r → ¬ (e.1 = 4 ∨ e.1 = 5 ∨ e.1 = 6)) (hR : kR (x f) (40 + wl r) = some a0) : kL y z vt vo vc hp tk c f (kUx x f ((x f).1, (q + 4, sh * 12 + g, m) :: r, 0, lUp (kR (x f)) 300 (some a0), lUp (kH (x f)) 300 hd, kal (x f), klo (x f), kAn (x f))) (qRt rt (f, 300) (rt (f, 40 + wl r))) (qRt ra (f, 300) (ra (f, 40 + wl r))) (qUp (kCl V f (wl r)) (f, 300) (V (f, 40 + wl r))) fb top fil := by
  have hL := h
  obtain ⟨l0, l1, l2, l3, l4, l5, l6, l7, l8, l9⟩ := h
  have hf := Nat.le_refl f
  have h8 := hJ.2.2.2.2.2.2.2.2 f hf
  have hnm : kNm (q, 4 + sh, m) := by
    show ¬ (q = 8 ∨ q = 4 ∨ q = 5 ∨ q = 6)
    omega
  have hwl : wl (x f).2.1 = wl r + 1 := by rw [hS]; exact wl_n hnm
  have hmq : (q + 4, sh * 12 + g, m).1 = 8 ∨ (q + 4, sh * 12 + g, m).1 = 4 ∨ (q + 4, sh * 12 + g, m).1 = 5 ∨ (q + 4, sh * 12 + g, m).1 = 6 := by
    show q + 4 = 8 ∨ q + 4 = 4 ∨ q + 4 = 5 ∨ q + 4 = 6
    omega
  have hwl2 : wl (((q + 4, sh * 12 + g, m) : tE) :: r) = wl r := wl_0 hmq
  have hk2 := l2 f hf
  rw [hS] at hk2
  have hra : ra (f, 40 + wl r) = fb f + vc (x f).1 + khs z r := by
    have hk3 := hk2.1
    rcases hq with rfl | rfl
    · exact hk3
    · exact hk3
  have hkk := hJ.2.2.2.2.1 f hf
  rw [hS] at hkk
  have out : ∀ e : tE, e ∈ r → e ∈ (x f).2.1 := fun e he => by rw [hS]; exact List.mem_cons_of_mem _ he
  have hne : ∀ u : Nat, u ≠ 300 → ((f, u) : Nat × Nat) ≠ (f, 300) := fun u hu q => hu (by injection q)
  have hnj : ∀ j u : Nat, j ≠ f → ((j, u) : Nat × Nat) ≠ (f, 300) := fun j u hj q => hj (by injection q)
  have hl4 : ∀ (s : Nat × Nat → Nat) (n j u : Nat), u < 40 → qRt s (f, 300) n (j, u) = s (j, u) := fun s n j u hu => qRt_ne (fun q => by injection q with q1 q2; omega)
  have mem : ∀ e : tE, e.1 ≠ q + 4 → e ∈ ((q + 4, sh * 12 + g, m) : tE) :: r → e ∈ r := fun e he hm => by
    rcases List.mem_cons.mp hm with z | z
    · exact absurd (by rw [z]) he
    · exact z
  have q9 : qMm y z hp tk c (qRt rt (f, 300) (rt (f, 40 + wl r))) (qRt ra (f, 300) (ra (f, 40 + wl r))) (qUp (kCl V f (wl r)) (f, 300) (V (f, 40 + wl r))) := by
    refine qMm_ren l0 (fun s => if s = (f, 300) then (f, 40 + wl r) else s) (fun s => ?_) (fun s s2 π π2 w w2 hw hw2 e => ?_)
    · by_cases e : s = (f, 300)
      · right
        show qUp (kCl V f (wl r)) (f, 300) (V (f, 40 + wl r)) s = V (if s = (f, 300) then (f, 40 + wl r) else s) ∧ qRt rt (f, 300) (rt (f, 40 + wl r)) s = rt (if s = (f, 300) then (f, 40 + wl r) else s) ∧ qRt ra (f, 300) (ra (f, 40 + wl r)) s = ra (if s = (f, 300) then (f, 40 + wl r) else s)
        rw [if_pos e, e, qUp_eq, qRt_eq, qRt_eq]
        exact ⟨rfl, rfl, rfl⟩
      · obtain ⟨j, u⟩ := s
        by_cases cl : j = f ∧ 40 + wl r ≤ u ∧ u < 300
        · left
          intro π
          rw [qUp_ne e, cl.1]
          exact kCl_in cl.2.1 cl.2.2
        · right
          show qUp (kCl V f (wl r)) (f, 300) (V (f, 40 + wl r)) (j, u) = V (if (j, u) = (f, 300) then (f, 40 + wl r) else (j, u)) ∧ qRt rt (f, 300) (rt (f, 40 + wl r)) (j, u) = rt (if (j, u) = (f, 300) then (f, 40 + wl r) else (j, u)) ∧ qRt ra (f, 300) (ra (f, 40 + wl r)) (j, u) = ra (if (j, u) = (f, 300) then (f, 40 + wl r) else (j, u))
          rw [if_neg e, qUp_ne e, qRt_ne e, qRt_ne e]
          refine ⟨?_, rfl, rfl⟩
          by_cases ej : j = f
          · subst ej; exact kCl_out (by omega)
          · exact kCl_f ej
    · have e : (if s = (f, 300) then (f, 40 + wl r) else s) = (if s2 = (f, 300) then (f, 40 + wl r) else s2) := e
      have no : ∀ (s : Nat × Nat) (π : lLc) (w : Nat × Nat), s ≠ (f, 300) → qUp (kCl V f (wl r)) (f, 300) (V (f, 40 + wl r)) s π = some w → s ≠ (f, 40 + wl r) := fun s π w hs hw es => by
        rw [qUp_ne hs, es, kCl_in (by omega) (by omega)] at hw
        simp at hw
      by_cases c1 : s = (f, 300)
      · by_cases c2 : s2 = (f, 300)
        · rw [c1, c2]
        · rw [if_pos c1, if_neg c2] at e
          exact absurd e.symm (no s2 π2 w2 c2 hw2)
      · by_cases c2 : s2 = (f, 300)
        · rw [if_neg c1, if_pos c2] at e
          exact absurd e (no s π w c1 hw)
        · rw [if_neg c1, if_neg c2] at e
          exact e
  have ads : ∀ (a : lLc) (T : Nat), qTg y rt V a T → qAd y z c (qRt rt (f, 300) (rt (f, 40 + wl r))) (qRt ra (f, 300) (ra (f, 40 + wl r))) a = qAd y z c rt ra a := fun a T ht => kTg_top hJ (fun j u hu _ => ⟨hl4 _ _ j u hu, hl4 _ _ j u hu⟩) (fun _ _ _ _ => rfl) ht
  have hAt : kA (x f) (40 + wl r) := Or.inr ⟨by omega, by omega⟩
  refine kL_top hJ hL _ rfl q9 (fun j u hj => ⟨qRt_ne (hnj j u hj), qRt_ne (hnj j u hj), by rw [qUp_ne (hnj j u hj)]; exact kCl_f hj⟩) (fun _ _ _ _ _ => rfl) (fun j u a hj hu ha hw => ?_) (fun u a hu ha hw => ?_) ⟨?_, ?_⟩ (fun v v4 hv2 => ?_) ?_ (fun _ _ => rfl) (fun v v4 hv2 π t g1 g2 g3 g4 => ?_) (fun u π w u4 hw => ?_) (fun r1 m1 hm => ?_)
  · rcases hu with hu | hu
    · exact ads a _ (hJ.2.2.1 j (by omega) u a hu ha).2
    · subst hu
      obtain ⟨w, hw⟩ := hw
      obtain ⟨e3, -⟩ := k300 hJ hw
      omega
  · have ha : lUp (kR (x f)) 300 (some a0) u = some a := ha
    rcases hu with hu | hu
    · have u4 : u < 40 + wl r := by
        rcases hu with ⟨b1, b2⟩ | ⟨b1, b2⟩
        · omega
        · have b2 : u < 40 + wl (((q + 4, sh * 12 + g, m) : tE) :: r) + 0 := b2
          omega
      have hA : kA (x f) u := by
        rcases hu with ⟨b1, b2⟩ | ⟨b1, b2⟩
        · exact Or.inl ⟨b1, b2⟩
        · exact Or.inr ⟨b1, by omega⟩
      rw [lUp_ne (by omega)] at ha
      rw [qUp_ne (hne u (by omega)), kCl_out (Or.inl u4)] at hw
      rw [qRt_ne (hne u (by omega)), ads a _ (hJ.2.2.1 f hf u a hA ha).2]
      exact l1 f hf u a (Or.inl hA) ha hw
    · subst hu
      rw [lUp_eq] at ha
      obtain rfl := Option.some.inj ha
      rw [qUp_eq] at hw
      rw [qRt_eq, ads a0 _ (hJ.2.2.1 f hf _ a0 hAt hR).2]
      exact l1 f hf _ a0 (Or.inl hAt) hR hw
  · rcases hq with rfl | rfl
    · show qRt ra (f, 300) (ra (f, 40 + wl r)) (f, 300) = fb f + vc (x f).1 + khs z r
      rw [qRt_eq]; exact hra
    · show qRt ra (f, 300) (ra (f, 40 + wl r)) (f, 300) = fb f + vc (x f).1 + khs z r
      rw [qRt_eq]; exact hra
  · exact kAk_nm hkk.2 hk2.2 hmt (fun u h4 h5 => qRt_ne (hne u (by omega))) (fun _ _ _ _ _ => rfl)
  · rw [hl4 _ _ f v v4]
    exact l3 f hf v v4 (out _ (mem _ (by show (8 : Nat) ≠ q + 4; omega) hv2))
  · rw [l6, hS]
    rcases hq with rfl | rfl
    · rfl
    · rfl
  · rw [qUp_ne (hne v (by omega)), kCl_out (Or.inl (by omega))]
    exact l7 f hf v v4 (out _ (mem _ (by show (8 : Nat) ≠ q + 4; omega) hv2)) π t g1 g2 g3 g4
  · rw [qUp_ne (hne u (by omega)), kCl_out (Or.inl (by omega))] at hw
    exact l8 f u π w u4 hw
  · exact l9 f hf r1 m1 (out _ (mem _ (by show (4 : Nat) ≠ q + 4; omega) hm))
/-- the matched value is gone -/
theorem kL_popM {y : qY} {z : qZ} {vt vo : Nat → Nat → Nat} {vc : Nat → Nat} {tb : Nat → lTb} {hp : Nat} {tk : Nat → Prop} {c : Nat → Int} {f : Nat} {x : Nat → kFm} {rt ra : Nat × Nat → Nat} {V : Nat × Nat → qV} {fb : Nat → Nat} {top : Nat} {fil : Nat → Nat → Nat → Prop} (hJ : kJ y vt tb f x rt V) (h : kL y z vt vo vc hp tk c f x rt ra V fb top fil) {e : tE} {r : List tE} (hn : (x f).2.2.1 = 0) (hS : (x f).2.1 = e :: r) (he : e.1 = 4 ∨ e.1 = 5 ∨ e.1 = 6) (hmt : ∀ e : tE, e ∈ r → ¬ (e.1 = 4 ∨ e.1 = 5 ∨ e.1 = 6)) : kL y z vt vo vc hp tk c f (kUx x f ((x f).1, r, 0, kR (x f), kH (x f), kal (x f), klo (x f), kAn (x f))) rt ra (kC3 V f) fb (fb f + vc (x f).1 + khs z r) fil := by
  have hL := h
  obtain ⟨l0, l1, l2, l3, l4, l5, l6, l7, l8, l9⟩ := h
  have hf := Nat.le_refl f
  have h8 := hJ.2.2.2.2.2.2.2.2 f hf
  have hwl : wl (x f).2.1 = wl r := by rw [hS]; exact wl_0 (Or.inr he)
  have hk2 := l2 f hf
  rw [hS] at hk2
  have hkk := hJ.2.2.2.2.1 f hf
  rw [hS] at hkk
  have out : ∀ e : tE, e ∈ r → e ∈ (x f).2.1 := fun e he => by rw [hS]; exact List.mem_cons_of_mem _ he
  have q9 : qMm y z hp tk c rt ra (kC3 V f) := by
    refine qMm_sub l0 (fun s => ?_) (fun s π w hw => ?_)
    · obtain ⟨j, u⟩ := s
      by_cases c1 : j = f ∧ 300 ≤ u
      · rw [c1.1, kC3_in c1.2]; exact qOk_none
      · rw [kC3_out (by omega)]; exact hJ.1 _
    · obtain ⟨j, u⟩ := s
      by_cases c1 : j = f ∧ 300 ≤ u
      · rw [c1.1, kC3_in c1.2] at hw; simp at hw
      · rw [kC3_out (by omega)] at hw; exact hw
  refine kL_top hJ hL _ rfl q9 (fun j u hj => ⟨rfl, rfl, kC3_out (Or.inl hj)⟩) (fun _ _ _ _ _ => rfl) (fun _ _ _ _ _ _ _ => rfl) (fun u a hu ha hw => ?_) ?_ (fun v v4 hv2 => l3 f hf v v4 (out _ hv2)) rfl (fun _ _ => rfl) (fun v v4 hv2 π t g1 g2 g3 g4 => ?_) (fun u π w u4 hw => ?_) (fun r1 m1 hm => l9 f hf r1 m1 (out _ hm))
  · by_cases c1 : 300 ≤ u
    · obtain ⟨w, hw⟩ := hw
      rw [kC3_in c1] at hw; simp at hw
    · rw [kC3_out (Or.inr (by omega))] at hw
      refine l1 f hf u a ?_ ha hw
      rcases hu with hu | hu
      · exact Or.inl (kA_al (x := x f) hwl.symm hn hu id)
      · exact Or.inr hu
  · exact kAk_nm hkk.2 hk2.2 hmt (fun _ _ _ => rfl) (fun _ _ _ _ _ => rfl)
  · rw [kC3_out (Or.inr (by omega))]
    exact l7 f hf v v4 (out _ hv2) π t g1 g2 g3 g4
  · rw [kC3_out (Or.inr (by omega))] at hw
    exact l8 f u π w u4 hw
