section
variable {y : qY} {z : qZ} {vt vo : Nat → Nat → Nat} {vc : Nat → Nat} {tb : Nat → lTb} {hp : Nat} {tk tk2 : Nat → Prop} {c c2 : Nat → Int} {f g i j : Nat} {x : Nat → kFm} {An : Nat → lLc → Nat → Prop} {fb : Nat → Nat} {top top2 : Nat} {fil fil2 : Nat → Nat → Nat → Prop} {N : lK} {L : Nat → Nat → lLc → Prop} {Rm : Nat → Prop} {F X : tF} {G : Nat → Nat → Nat} {rs a b n yp yt : Nat} {k : Nat → Option (List tE)} {rl : Nat → Int32} {pl : Nat → Nat → Int32} {me : Int32} {s s2 : List tE} {R R2 : Nat → Option lLc}
theorem lkp_le {E : Nat → Prop} {m m2 : Nat} (h : lkp N i j m E) (hm : m2 ≤ m) : lkp N i j m2 E := ⟨h.1, fun u l hu hw => h.2.1 u l hu (by omega), h.2.2⟩
theorem nm0 {t m : Nat} : kNm (0, t, m) := by unfold kNm; simp
theorem khs_p {t m : Nat} {r : List tE} (ht : t ≠ 0) (hz : z.1 t = 1) : khs z ((0, t, m) :: r) = khs z r + 1 := by
  show khs z r + (if t = 0 then 0 else z.1 t) = _
  rw [if_neg ht, hz]
/-- NOT, NEGATE -/
theorem s_un (E : sgE y z F X G rs a b n yp yt k N L Rm (tb g) rl pl me (vt g)) (hy : kYs y z vt vo vc) (h : At y z vt vo vc tb hp a b k N L Rm g f x An fb i tk c top fil) (ho : F 0 i = nI 5 ∨ F 0 i = nI 6) : 1 ≤ top ∧ ∀ c2 : Nat → Int, (∀ k : Nat, k + 1 < top → c2 k = c k) → At y z vt vo vc tb hp a b k N L Rm g f x An fb (i + 1) tk c2 top fil := by
  obtain ⟨s, R, hs, ha, hb, hN, hR, hk⟩ := h
  obtain ⟨y0, y1, y2, y3, z1, z2, z3⟩ := sg_p E
  obtain ⟨et, ew⟩ := At_s hk
  have key : ∀ o : Nat, (o = 5 ∨ o = 6) → F 0 i = nI o → (∃ (T : Nat) (r : List tE), (T = 1 ∨ T = 2) ∧ s = (0, T, 0) :: r) → k (i + 1) = some s → 1 ≤ top ∧ ∀ c2 : Nat → Int, (∀ k : Nat, k + 1 < top → c2 k = c k) → At y z vt vo vc tb hp a b k N L Rm g f x An fb (i + 1) tk c2 top fil := fun o hoo ho hr h1 => by
    obtain ⟨T, r, hT, rfl⟩ := hr
    have zT : z.1 T = 1 := by rcases hT with rfl | rfl; exact z1; exact z2
    have yT : y.1 T = 0 := by rcases hT with rfl | rfl; exact y1; exact y2
    rw [khs_p (by omega) zT] at et
    refine ⟨by omega, fun c2 hc => ?_⟩
    obtain ⟨e1, e2⟩ := E.2.2.2.2.2.2.2.1 i o _ ha hb hs ho (by omega) hN hR
    have hlk := e1.1 (by omega)
    have hmk := e2.2.1 (by omega)
    have hRm := e2.1 (by omega)
    have hj := E.2.2.2.2.2.2.2.2.2.2.2.1.2 (i + 1) hRm
    have hv := E.2.2.1 (i + 1) _ hj.1 hj.2 h1
    rw [wl_n nm0] at ew
    have q := kS_op (c2 := c2) hy hk (E := [(0, T, 0)]) (S := r) (by rw [kUx_eq]; rfl) (fun e he => by rw [List.mem_singleton.mp he]; exact nm0) (by rw [kUx_eq]; rfl) (by omega) (t := T) (by omega) yT (by
      rw [kUx_eq]
      intro k hk9
      have hk9 : k < fb f + vc g + khs z r := hk9
      exact hc k (by omega))
    rw [kUx_eq, kUx2, zT] at q
    rw [show top = fb f + vc g + khs z r + 1 by omega]
    exact At_mk E h1 hRm hlk.1 (st_fin0 q rfl nm0 hv E.2.2.2.2.2.2.2.2.1 (lkp_le hlk (by rw [wl_n nm0]; omega)) hmk)
  rcases ho with ho | ho
  · obtain ⟨⟨r, hr⟩, h1⟩ := ce_op E.2.1 ha hb hs ho (by decide)
    exact key 5 (Or.inl rfl) ho ⟨1, r, Or.inl rfl, hr⟩ h1
  · obtain ⟨⟨r, hr⟩, h1⟩ := ce_op E.2.1 ha hb hs ho (by decide)
    exact key 6 (Or.inr rfl) ho ⟨2, r, Or.inr rfl, hr⟩ h1
/-- OPERATE -/
theorem s_op2 (E : sgE y z F X G rs a b n yp yt k N L Rm (tb g) rl pl me (vt g)) (hy : kYs y z vt vo vc) (h : At y z vt vo vc tb hp a b k N L Rm g f x An fb i tk c top fil) (ho : F 0 i = nI 7) : 2 ≤ top ∧ ∀ c2 : Nat → Int, (∀ k : Nat, k + 2 < top → c2 k = c k) → At y z vt vo vc tb hp a b k N L Rm g f x An fb (i + 1) tk c2 (top - 1) fil := by
  obtain ⟨s, R, hs, ha, hb, hN, hR, hk⟩ := h
  obtain ⟨y0, y1, y2, y3, z1, z2, z3⟩ := sg_p E
  obtain ⟨et, ew⟩ := At_s hk
  obtain ⟨x1, x2, x3, r, q1, q2, q3, rfl, h1⟩ := ce_op E.2.1 ha hb hs ho (by decide)
  have zz : ∀ T : Nat, (T = 1 ∨ T = 2) → z.1 T = 1 := fun T hT => by rcases hT with rfl | rfl; exact z1; exact z2
  rw [khs_p (by omega) (zz x1 q1), khs_p (by omega) (zz x2 q2)] at et
  refine ⟨by omega, fun c2 hc => ?_⟩
  obtain ⟨e1, e2⟩ := E.2.2.2.2.2.2.2.1 i 7 _ ha hb hs ho (by decide) hN hR
  have hlk := e1.2.2.1 (by omega)
  have hmk := e2.2.1 (by omega)
  have hRm := e2.1 (by omega)
  have hj := E.2.2.2.2.2.2.2.2.2.2.2.1.2 (i + 1) hRm
  have hv := E.2.2.1 (i + 1) _ hj.1 hj.2 h1
  rw [wl_n nm0, wl_n nm0] at ew hlk
  have q := kS_op (c2 := c2) hy hk (E := [(0, x1, 0), (0, x2, 0)]) (S := r) (by rw [kUx_eq]; rfl) (fun e he => by
    rcases List.mem_cons.mp he with g9 | g9
    · rw [g9]; exact nm0
    · rw [List.mem_singleton.mp g9]; exact nm0) (by rw [kUx_eq]; rfl) (by omega) (t := x3) (by omega) (by rcases q3 with rfl | rfl; exact y1; exact y2) (by
    rw [kUx_eq]
    intro k hk9
    have hk9 : k < fb f + vc g + khs z r := hk9
    exact hc k (by omega))
  rw [kUx_eq, kUx2, zz x3 q3] at q
  rw [show top - 1 = fb f + vc g + khs z r + 1 by omega]
  exact At_mk E h1 hRm hlk.1 (st_fin0 q rfl nm0 hv E.2.2.2.2.2.2.2.2.1 (lkp_le hlk (by omega)) hmk)
/-- a value of one cell goes: PRINT, UNLESS, AND, OR -/
theorem s_pop1 (E : sgE y z F X G rs a b n yp yt k N L Rm (tb g) rl pl me (vt g)) {T : Nat} {r : List tE} (hT : T = 1 ∨ T = 2) (hs : k i = some ((0, T, 0) :: r)) (hk : kS y z vt vo vc tb hp tk c f (kUx x f (Fr N L g i ((0, T, 0) :: r) R An)) fb top fil) (hj : k j = some r) (hlk : lkp N i j (wl r) (fun _ => False)) (hmk : mkp L n i j (fun _ => False)) (hRm : Rm j) (ha : a ≤ i) (hb : i < b) : 1 ≤ top ∧ At y z vt vo vc tb hp a b k N L Rm g f x An fb j tk c (top - 1) fil := by
  obtain ⟨y0, y1, y2, y3, z1, z2, z3⟩ := sg_p E
  obtain ⟨et, ew⟩ := At_s hk
  have zT : z.1 T = 1 := by rcases hT with rfl | rfl; exact z1; exact z2
  rw [khs_p (by omega) zT] at et
  have hv := E.2.2.1 i _ ha hb hs
  have q := st_pop (E := [(0, T, 0)]) (s2 := r) hk rfl (fun e he => by rw [List.mem_singleton.mp he]; exact nm0) E.2.2.2.2.2.2.2.2.1 hlk hmk (fun l hm => by
    obtain ⟨r9, m9, hm⟩ := hm
    have := no56 (vl_no (vl_1 hv nm0)) r9 m9
    exact absurd hm (by rintro (q | q); exact this.1 q; exact this.2 q))
  refine ⟨by omega, ?_⟩
  rw [show top - 1 = fb f + vc g + khs z r by omega]
  exact At_mk E hj hRm hlk.1 q
theorem s_prt (E : sgE y z F X G rs a b n yp yt k N L Rm (tb g) rl pl me (vt g)) (h : At y z vt vo vc tb hp a b k N L Rm g f x An fb i tk c top fil) (ho : F 0 i = nI 28) : 1 ≤ top ∧ (F 1 i = 1 ∨ F 1 i = 2) ∧ At y z vt vo vc tb hp a b k N L Rm g f x An fb (i + 1) tk c (top - 1) fil := by
  obtain ⟨s, R, hs, ha, hb, hN, hR, hk⟩ := h
  obtain ⟨T, r, hT, h1, rfl, h2⟩ := ce_op E.2.1 ha hb hs ho (by decide)
  obtain ⟨e1, e2⟩ := E.2.2.2.2.2.2.2.1 i 28 _ ha hb hs ho (by decide) hN hR
  have hlk := e1.2.2.1 (by omega)
  rw [wl_n nm0] at hlk
  obtain ⟨q1, q2⟩ := s_pop1 E hT hs hk h2 (lkp_le hlk (by omega)) (e2.2.1 (by omega)) (e2.1 (by omega)) ha hb
  exact ⟨q1, by rcases hT with rfl | rfl; exact Or.inl h1; exact Or.inr h1, q2⟩
/-- where a label stands -/
theorem lab_at (E : sgE y z F X G rs a b n yp yt k N L Rm (tb g) rl pl me (vt g)) (haj : a ≤ j) (hjb : j < b) (hl : F 0 j = 13 ∨ F 0 j = 14) {u : Int32} (hu : F 1 j = u) : ∃ l : Nat, l < 1100 ∧ u = nI l ∧ F 5 l = nI j := by
  obtain ⟨l, l1, l2, l3⟩ := E.2.1.2.2 j haj hjb hl
  exact ⟨l, l1, hu.symm.trans l2, l3⟩
/-- UNLESS -/
theorem s_unl (E : sgE y z F X G rs a b n yp yt k N L Rm (tb g) rl pl me (vt g)) (h : At y z vt vo vc tb hp a b k N L Rm g f x An fb i tk c top fil) (ho : F 0 i = nI 17) : 1 ≤ top ∧ At y z vt vo vc tb hp a b k N L Rm g f x An fb (i + 1) tk c (top - 1) fil ∧ ∃ l j : Nat, l < 1100 ∧ F 1 i = nI l ∧ F 5 l = nI j ∧ At y z vt vo vc tb hp a b k N L Rm g f x An fb j tk c (top - 1) fil := by
  obtain ⟨s, R, hs, ha, hb, hN, hR, hk⟩ := h
  obtain ⟨r, rfl, ⟨h1, h1v⟩, hJ⟩ := ce_op E.2.1 ha hb hs ho (by decide)
  obtain ⟨e1, e2⟩ := E.2.2.2.2.2.2.2.1 i 17 _ ha hb hs ho (by decide) hN hR
  have hlk := e1.2.2.1 (by omega)
  rw [wl_n nm0] at hlk
  obtain ⟨q1, q2⟩ := s_pop1 E (Or.inr rfl) hs hk h1 (lkp_le hlk (by omega)) (e2.2.1 (by omega)) (e2.1 (by omega)) ha hb
  have hJ := hJ.resolve_left id
  have hJ2 := hJ
  obtain ⟨j, ⟨j1, -⟩, j3, j4, j5, j6⟩ := hJ2
  obtain ⟨l, l1, l2, l3⟩ := lab_at E (by omega) j3 (Or.inl j4) j5
  have m := e2.2.2.2.2.2.2.2.1 (by omega) j j1 j3 j4 j5
  have hl2 := e1.2.2.2.2.2.2.2.2.2.2.2.2.2.1 (by omega) j r hJ j6 j1 j3 j4 j5
  rw [wl_n nm0] at hl2
  obtain ⟨-, q3⟩ := s_pop1 E (Or.inr rfl) hs hk j6 (lkp_le hl2 (by omega)) m.2 m.1 ha hb
  exact ⟨q1, q2, l, j, l1, l2, l3, q3⟩
/-- AND, OR -/
theorem s_and (E : sgE y z F X G rs a b n yp yt k N L Rm (tb g) rl pl me (vt g)) (h : At y z vt vo vc tb hp a b k N L Rm g f x An fb i tk c top fil) (ho : F 0 i = nI 18 ∨ F 0 i = nI 19) : 1 ≤ top ∧ At y z vt vo vc tb hp a b k N L Rm g f x An fb (i + 1) tk c (top - 1) fil ∧ ∃ l j : Nat, l < 1100 ∧ F 1 i = nI l ∧ F 5 l = nI j ∧ At y z vt vo vc tb hp a b k N L Rm g f x An fb j tk c top fil := by
  obtain ⟨s, R, hs, ha, hb, hN, hR, hk⟩ := h
  have key : ∀ o : Nat, (o = 18 ∨ o = 19) → F 0 i = nI o → (∃ r : List tE, s = (0, 2, 0) :: r ∧ k (i + 1) = some r ∧ (False ∨ tJm F G k i b (F 1 i) s)) → 1 ≤ top ∧ At y z vt vo vc tb hp a b k N L Rm g f x An fb (i + 1) tk c (top - 1) fil ∧ ∃ l j : Nat, l < 1100 ∧ F 1 i = nI l ∧ F 5 l = nI j ∧ At y z vt vo vc tb hp a b k N L Rm g f x An fb j tk c top fil := fun o hoo ho hr => by
    obtain ⟨r, rfl, h1, hJ⟩ := hr
    obtain ⟨e1, e2⟩ := E.2.2.2.2.2.2.2.1 i o _ ha hb hs ho (by omega) hN hR
    have hlk := e1.2.2.1 (by omega)
    rw [wl_n nm0] at hlk
    obtain ⟨q1, q2⟩ := s_pop1 E (Or.inr rfl) hs hk h1 (lkp_le hlk (by omega)) (e2.2.1 (by omega)) (e2.1 (by omega)) ha hb
    have hJ := hJ.resolve_left id
    have hJ2 := hJ
    obtain ⟨j, ⟨j1, -⟩, j3, j4, j5, j6⟩ := hJ2
    obtain ⟨l, l1, l2, l3⟩ := lab_at E (by omega) j3 (Or.inl j4) j5
    have m := e2.2.2.2.2.2.2.2.1 (by omega) j j1 j3 j4 j5
    have hl2 := e1.2.2.2.2.2.2.2.2.2.2.2.2.2.1 (by omega) j _ hJ j6 j1 j3 j4 j5
    rw [wl_n nm0] at hl2
    have hv := E.2.2.1 i _ ha hb hs
    obtain ⟨et, ew⟩ := At_s hk
    -- the value that stays leads nowhere
    have hR0 : R (40 + wl r) = none := by
      obtain ⟨rt, ra, V, hJ9, hL9⟩ := hk
      have hK := hJ9.2.2.2.2.1 f (Nat.le_refl f)
      rw [kUx_eq] at hK
      exact hK.1.1
    have q3 : kS y z vt vo vc tb hp tk c f (kUx x f (Fr N L g j ((0, 2, 0) :: r) R An)) fb top fil := by
      refine fin hk (fun u w l hu hr hh => ?_) (kpA E.2.2.2.2.2.2.2.2.1 hl2 m.2 · (fun q => q)) (fun v π q => kpL E.2.2.2.2.2.2.2.2.1 m.2 v π (fun q => q) q)
      rcases hu with hu | hu | ⟨rfl, r9, m9, hu⟩
      · exact hl2.2.1 u l (fun q => q) (Or.inl hu.1) hh
      · rw [wl_n nm0] at hu
        by_cases e9 : u = 40 + wl r
        · rw [e9, hR0] at hr; simp at hr
        · exact hl2.2.1 u l (fun q => q) (Or.inr ⟨hu.1, by omega⟩) hh
      · exfalso
        have n5 := no56 (vl_no (vl_1 hv nm0)) r9 m9
        rcases hu with hu | hu
        · rcases List.mem_cons.mp hu with q | q
          · injection q with q; exact absurd q (by decide)
          · exact n5.1 q
        · rcases List.mem_cons.mp hu with q | q
          · injection q with q; exact absurd q (by decide)
          · exact n5.2 q
    exact ⟨q1, q2, l, j, l1, l2, l3, At_mk E j6 m.1 hl2.1 q3⟩
  rcases ho with ho | ho
  · exact key 18 (Or.inl rfl) ho (ce_op E.2.1 ha hb hs ho (by decide))
  · exact key 19 (Or.inr rfl) ho (ce_op E.2.1 ha hb hs ho (by decide))
/-- JUMP, LOOP -/
theorem s_jmp (E : sgE y z F X G rs a b n yp yt k N L Rm (tb g) rl pl me (vt g)) (h : At y z vt vo vc tb hp a b k N L Rm g f x An fb i tk c top fil) (ho : F 0 i = nI 16 ∨ F 0 i = nI 15) : ∃ l j : Nat, l < 1100 ∧ F 1 i = nI l ∧ F 5 l = nI j ∧ At y z vt vo vc tb hp a b k N L Rm g f x An fb j tk c top fil := by
  obtain ⟨s, R, hs, ha, hb, hN, hR, hk⟩ := h
  have no5 : vl s = 0 → ∀ (j l : Nat), (∃ r m : Nat, (5, r, m) ∈ s ∨ (6, r, m) ∈ s) → N.1 i 300 l → N.1 j 300 l := fun v0 j l hm => by
    obtain ⟨r9, m9, hm⟩ := hm
    have := no56 (vl_no (show vl s ≤ 210 by omega)) r9 m9
    exact absurd hm (by rintro (q | q); exact this.1 q; exact this.2 q)
  rcases ho with ho | ho
  · obtain ⟨v0, hJ⟩ := ce_op E.2.1 ha hb hs ho (by decide)
    obtain ⟨e1, e2⟩ := E.2.2.2.2.2.2.2.1 i 16 _ ha hb hs ho (by decide) hN hR
    have hJ := hJ.resolve_left id
    have hJ2 := hJ
    obtain ⟨j, ⟨j1, -⟩, j3, j4, j5, j6⟩ := hJ2
    obtain ⟨l, l1, l2, l3⟩ := lab_at E (by omega) j3 (Or.inl j4) j5
    have m := e2.2.2.2.2.2.2.2.1 (by omega) j j1 j3 j4 j5
    have hl2 := e1.2.2.2.2.2.2.2.2.2.2.2.2.2.1 (by omega) j _ hJ j6 j1 j3 j4 j5
    exact ⟨l, j, l1, l2, l3, At_mk E j6 m.1 hl2.1 (st_id hk E.2.2.2.2.2.2.2.2.1 (lkp_le hl2 (by rw [wl_vl v0]; omega)) m.2 (no5 v0 j))⟩
  · obtain ⟨v0, hK⟩ := ce_op E.2.1 ha hb hs ho (by decide)
    obtain ⟨e1, e2⟩ := E.2.2.2.2.2.2.2.1 i 15 _ ha hb hs ho (by decide) hN hR
    obtain ⟨j, j1, j2, j3, j4, j5⟩ := hK
    obtain ⟨l, l1, l2, l3⟩ := lab_at E j1 (by omega) (Or.inr j3) j4
    have m := e2.2.2.2.2.2.2.2.2.1 rfl j j1 j2 j3 j4
    have hl2 := e1.2.2.2.2.2.2.2.2.2.2.2.2.2.2.1 rfl j j1 j2 j3 j4
    exact ⟨l, j, l1, l2, l3, At_mk E j5 m.1 hl2.1 (st_id hk E.2.2.2.2.2.2.2.2.1 (lkp_le hl2 (by rw [wl_vl v0]; omega)) m.2 (no5 v0 j))⟩
/-- sizes, as the class has them -/
theorem sg_sz (E : sgE y z F X G rs a b n yp yt k N L Rm (tb g) rl pl me (vt g)) {u : Nat} (hu : tyV yp yt (F 20) u) : F 22 u = nI (z.1 (ymF F u)) ∧ 1 ≤ z.1 (ymF F u) ∧ z.1 (ymF F u) ≤ 16 := by
  obtain ⟨⟨h1, rfl, rfl, -⟩, -⟩ := E
  obtain ⟨s1, s2, s3⟩ := ty_sz h1 hu
  rw [s1]
  exact ⟨nI_cN s2, s2, s3⟩
theorem sg_sh (E : sgE y z F X G rs a b n yp yt k N L Rm (tb g) rl pl me (vt g)) {sh : Nat} (h30 : sh < 30) (hk : F 20 (4 + sh) = 2 ∨ F 20 (4 + sh) = 3) : sh < yp ∧ F 22 (4 + sh) = nI (z.1 (4 + sh)) ∧ 1 ≤ z.1 (4 + sh) ∧ z.1 (4 + sh) ≤ 16 ∧ 4 + sh < yt ∧ tyN yp (F 20) (4 + sh) := by
  have hsh := E.1.2.2.2.1 sh h30 hk
  have h34 : 34 ≤ yt := E.1.1.1.1
  have hy30 : yp ≤ 30 := E.1.1.1.2.2.1
  have hN : tyN yp (F 20) (4 + sh) := Or.inr (Or.inl ⟨by omega, by omega⟩)
  have q := sg_sz E (u := 4 + sh) ⟨Or.inl hN, by omega⟩
  rw [ymF_n E.1.1 hN] at q
  exact ⟨hsh, q.1, q.2.1, q.2.2, by omega, hN⟩
/-- POP of what was matched -/
theorem s_popM (E : sgE y z F X G rs a b n yp yt k N L Rm (tb g) rl pl me (vt g)) (h : At y z vt vo vc tb hp a b k N L Rm g f x An fb i tk c top fil) (ho : F 0 i = nI 31) : ∃ a9 : Nat, F 1 i = nI a9 ∧ a9 ≤ 16 ∧ a9 ≤ top ∧ At y z vt vo vc tb hp a b k N L Rm g f x An fb (i + 1) tk c (top - a9) fil := by
  obtain ⟨s, R, hs, ha, hb, hN, hR, hk⟩ := h
  obtain ⟨r0, q, m, r, rfl, hq, h2⟩ := ce_op E.2.1 ha hb hs ho (by decide)
  obtain ⟨e1, e2⟩ := E.2.2.2.2.2.2.2.1 i 31 _ ha hb hs ho (by decide) hN hR
  obtain ⟨et, ew⟩ := At_s hk
  have hq4 : q = 4 ∨ q = 5 ∨ q = 6 := by rcases hq with ⟨z9, -⟩ | ⟨z9, -⟩ <;> omega
  have hv := E.2.2.1 i _ ha hb hs
  have hv0 : vl r ≤ 210 := by
    have hv : vl r + (if q = 8 then 0 else if q = 4 ∨ q = 5 ∨ q = 6 then 211 else 1) ≤ 211 := hv
    rw [if_neg (by omega), if_pos hq4] at hv
    omega
  have hmt := vl_no hv0
  have hlk := e1.1 (by omega)
  rw [wl_0 (show (q, r0, m).1 = 8 ∨ (q, r0, m).1 = 4 ∨ (q, r0, m).1 = 5 ∨ (q, r0, m).1 = 6 from Or.inr hq4)] at hlk
  have p := kS_popM hk (e := (q, r0, m)) (r := r) (by rw [kUx_eq]; rfl) (by rw [kUx_eq]; rfl) hq4 hmt
  rw [kUx_eq, kUx2] at p
  have p2 : kS y z vt vo vc tb hp tk c f (kUx x f (Fr N L g (i + 1) r R An)) fb (fb f + vc g + khs z r) fil := by
    refine fin p (fun u w l hu _ hh => ?_) (kpA E.2.2.2.2.2.2.2.2.1 hlk (e2.2.1 (by omega)) · (fun q => q)) (fun v π q => kpL E.2.2.2.2.2.2.2.2.1 (e2.2.1 (by omega)) v π (fun q => q) q)
    rcases hu with hu | hu | ⟨rfl, r9, m9, hu⟩
    · exact hlk.2.1 u l (fun q => q) (Or.inl hu.1) hh
    · exact hlk.2.1 u l (fun q => q) (Or.inr hu) hh
    · have n5 := no56 hmt r9 m9
      exact absurd hu (by rintro (q | q); exact n5.1 q; exact n5.2 q)
  have fa : ∃ a9 : Nat, F 1 i = nI a9 ∧ a9 ≤ 16 ∧ top = fb f + vc g + khs z r + a9 := by
    rcases hq with ⟨rfl, sh, gg, s1, s2, s3, s4, s5⟩ | ⟨hq, s5⟩
    · have et : top = fb f + vc g + (khs z r + z.1 (4 + r0 / 12)) := et
      have h3 : y.1 (4 + r0 / 12) = 3 := by
        obtain ⟨rt, ra, V, hJ9, hL9⟩ := hk
        have q9 := hL9.2.2.2.2.2.2.2.2.2 f (Nat.le_refl f) r0 m (by rw [kUx_eq]; exact List.mem_cons_self ..)
        exact q9.1
      have hr0 : r0 / 12 = sh := by rw [s3]; omega
      rw [hr0] at et h3
      have hk3 : F 20 (4 + sh) = 3 := by
        rw [E.1.2.1] at h3
        exact (yF_3 h3).2.2
      obtain ⟨-, t2, t3, t4, -⟩ := sg_sh E s1 (Or.inr hk3)
      exact ⟨z.1 (4 + sh), by rw [s5]; exact t2, t4, by omega⟩
    · refine ⟨1, s5, by decide, ?_⟩
      have et : top = fb f + vc g + (khs z r + kes z (q, r0, m)) := et
      rw [show kes z (q, r0, m) = 1 by rcases hq with rfl | rfl <;> rfl] at et
      omega
  obtain ⟨a9, f1, f2, f3⟩ := fa
  refine ⟨a9, f1, f2, by omega, ?_⟩
  rw [show top - a9 = fb f + vc g + khs z r by omega]
  exact At_mk E h2 (e2.1 (by omega)) hlk.1 p2
end
