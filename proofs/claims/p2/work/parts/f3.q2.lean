section
variable {y : qY} {z : qZ} {vt vo : Nat → Nat → Nat} {vc : Nat → Nat} {tb : Nat → lTb} {hp : Nat} {tk tk2 : Nat → Prop} {c c2 : Nat → Int} {f g i j : Nat} {x : Nat → kFm} {An : Nat → lLc → Nat → Prop} {fb : Nat → Nat} {top top2 : Nat} {fil fil2 : Nat → Nat → Nat → Prop} {N : lK} {L : Nat → Nat → lLc → Prop} {Rm : Nat → Prop} {F X : tF} {G : Nat → Nat → Nat} {rs a b n yp yt : Nat} {k : Nat → Option (List tE)} {rl : Nat → Int32} {pl : Nat → Nat → Int32} {me : Int32} {s s2 : List tE} {R R2 : Nat → Option lLc}
theorem At_mk (E : sgE y z F X G rs a b n yp yt k N L Rm (tb g) rl pl me (vt g)) (hk : k j = some s) (hR : Rm j) (hN : N.2.2 j) (h : kS y z vt vo vc tb hp tk c f (kUx x f (Fr N L g j s R An)) fb top fil) : At y z vt vo vc tb hp a b k N L Rm g f x An fb j tk c top fil := by
  obtain ⟨q1, q2⟩ := E.2.2.2.2.2.2.2.2.2.2.2.1.2 j hR
  exact ⟨s, R, hk, q1, q2, hN, hR, h⟩
theorem At_top (hz16 : ∀ t : Nat, z.1 t ≤ 16) (E : sgE y z F X G rs a b n yp yt k N L Rm (tb g) rl pl me (vt g)) (h : At y z vt vo vc tb hp a b k N L Rm g f x An fb i tk c top fil) : hp ≤ fb f ∧ fb f ≤ top ∧ top ≤ fb f + vc g + 3376 := by
  obtain ⟨s, R, hs, ha, hb, hN, hR, rt, ra, V, hJ, hL⟩ := h
  have ht := kTopF hL
  rw [kUx_eq] at ht
  have hv := E.2.2.1 i s ha hb hs
  have hq := khs_vl hz16 s
  have h3 : top = fb f + vc g + khs z s := ht.2.2
  exact ⟨ht.1, ht.2.1, by omega⟩
theorem At_s (h : kS y z vt vo vc tb hp tk c f (kUx x f (Fr N L g i s R An)) fb top fil) : top = fb f + vc g + khs z s ∧ wl s ≤ 211 := by
  obtain ⟨rt, ra, V, hJ, hL⟩ := h
  have ht := (kTopF hL).2.2
  have h8 := hJ.2.2.2.2.2.2.2.2 f (Nat.le_refl f)
  rw [kUx_eq] at ht h8
  exact ⟨ht, h8⟩
/-- what the tables tell of numbers, truths, tokens -/
theorem sg_p (E : sgE y z F X G rs a b n yp yt k N L Rm (tb g) rl pl me (vt g)) : y.1 0 = 0 ∧ y.1 1 = 0 ∧ y.1 2 = 0 ∧ y.1 3 = 0 ∧ z.1 1 = 1 ∧ z.1 2 = 1 ∧ z.1 3 = 1 := by
  obtain ⟨⟨h1, rfl, rfl, -⟩, -⟩ := E
  have h34 : 34 ≤ yt := h1.1.1
  obtain ⟨z0, z1, z2, z3⟩ := h1.1.2.2.2.2.1
  have z1 : F 22 1 = 1 := z1
  have z2 : F 22 2 = 1 := z2
  have z3 : F 22 3 = 1 := z3
  refine ⟨yF_p (by decide), yF_p (by decide), yF_p (by decide), yF_p (by decide), ?_, ?_, ?_⟩
  · show (if 1 < yt then max 1 (min 16 (cN (F 22 1))) else 1) = 1
    rw [if_pos (by omega), z1]; rfl
  · show (if 2 < yt then max 1 (min 16 (cN (F 22 2))) else 1) = 1
    rw [if_pos (by omega), z2]; rfl
  · show (if 3 < yt then max 1 (min 16 (cN (F 22 3))) else 1) = 1
    rw [if_pos (by omega), z3]; rfl
/-- NUMBER, READ -/
theorem s_num (E : sgE y z F X G rs a b n yp yt k N L Rm (tb g) rl pl me (vt g)) (hy : kYs y z vt vo vc) (h : At y z vt vo vc tb hp a b k N L Rm g f x An fb i tk c top fil) (ho : F 0 i = nI 0 ∨ F 0 i = nI 1) (hc : ∀ k : Nat, k < top → c2 k = c k) : At y z vt vo vc tb hp a b k N L Rm g f x An fb (i + 1) tk c2 (top + 1) fil := by
  obtain ⟨s, R, hs, ha, hb, hN, hR, hk⟩ := h
  obtain ⟨y0, y1, y2, y3, z1, z2, z3⟩ := sg_p E
  have key : ∀ (o T : Nat), (o = 0 ∨ o = 1) → F 0 i = nI o → (T = 1 ∨ T = 2) → k (i + 1) = some ((0, T, 0) :: s) → At y z vt vo vc tb hp a b k N L Rm g f x An fb (i + 1) tk c2 (top + 1) fil := fun o T hoo ho hT h1 => by
    obtain ⟨e1, e2⟩ := E.2.2.2.2.2.2.2.1 i o s ha hb hs ho (by omega) hN hR
    have hlk := e1.1 (by omega)
    have hmk := e2.2.1 (by omega)
    have hRm := e2.1 (by omega)
    have hj := E.2.2.2.2.2.2.2.2.2.2.2.1.2 (i + 1) hRm
    have hv := E.2.2.1 (i + 1) _ hj.1 hj.2 h1
    have hnm : kNm (0, T, 0) := by unfold kNm; simp
    have hw : wl s < 211 := by
      have := wl_vl_le (r := (0, T, 0) :: s)
      rw [wl_n hnm] at this
      omega
    have q := kS_push0 (c2 := c2) hy hk (by rw [kUx_eq]; rfl) (by rw [kUx_eq]; exact hw) (e := (0, T, 0)) (t := T) (Or.inl ⟨0, rfl, by omega⟩) (by rcases hT with rfl | rfl; exact y1; exact y2) hc
    rw [kUx_eq, kUx2] at q
    rw [show kes z (0, T, 0) = 1 by rcases hT with rfl | rfl; exact z1; exact z2] at q
    exact At_mk E h1 hRm hlk.1 (st_fin0 q rfl hnm hv E.2.2.2.2.2.2.2.2.1 hlk hmk)
  rcases ho with ho | ho
  · obtain ⟨T, hT, h1⟩ := ce_op E.2.1 ha hb hs ho (by decide)
    exact key 0 T (Or.inl rfl) ho hT h1
  · have h1 : k (i + 1) = some ((0, 1, 0) :: s) := ce_op E.2.1 ha hb hs ho (by decide)
    exact key 1 1 (Or.inr rfl) ho (Or.inl rfl) h1
/-- TAG -/
theorem s_tag (E : sgE y z F X G rs a b n yp yt k N L Rm (tb g) rl pl me (vt g)) (hy : kYs y z vt vo vc) (h : At y z vt vo vc tb hp a b k N L Rm g f x An fb i tk c top fil) (ho : F 0 i = nI 11) : ∃ gg : Nat, gg < 12 ∧ F 1 i = nI gg ∧ ∀ c2 : Nat → Int, (∀ k : Nat, k < top → c2 k = c k) → c2 top = (gg : Int) → At y z vt vo vc tb hp a b k N L Rm g f x An fb (i + 1) tk c2 (top + 1) fil := by
  obtain ⟨s, R, hs, ha, hb, hN, hR, hk⟩ := h
  obtain ⟨y0, y1, y2, y3, z1, z2, z3⟩ := sg_p E
  obtain ⟨gg, g1, g2, h1⟩ := ce_op E.2.1 ha hb hs ho (by decide)
  refine ⟨gg, g1, g2, fun c2 hc hct => ?_⟩
  obtain ⟨e1, e2⟩ := E.2.2.2.2.2.2.2.1 i 11 s ha hb hs ho (by decide) hN hR
  have hlk := e1.1 (by omega)
  have hmk := e2.2.1 (by omega)
  have hRm := e2.1 (by omega)
  have hj := E.2.2.2.2.2.2.2.2.2.2.2.1.2 (i + 1) hRm
  have hv := E.2.2.1 (i + 1) _ hj.1 hj.2 h1
  have hnm : kNm (3, gg, 0) := by unfold kNm; simp
  have hw : wl s < 211 := by
    have := wl_vl_le (r := (3, gg, 0) :: s)
    rw [wl_n hnm] at this
    omega
  have q := kS_push0 (c2 := c2) hy hk (by rw [kUx_eq]; rfl) (by rw [kUx_eq]; exact hw) (e := (3, gg, 0)) (t := 1) (Or.inr ⟨gg, 0, rfl, rfl, hct⟩) y1 hc
  rw [kUx_eq, kUx2] at q
  exact At_mk E h1 hRm hlk.1 (st_fin0 q rfl hnm hv E.2.2.2.2.2.2.2.2.1 hlk hmk)
/-- FUEL -/
theorem s_fuel (E : sgE y z F X G rs a b n yp yt k N L Rm (tb g) rl pl me (vt g)) (h : At y z vt vo vc tb hp a b k N L Rm g f x An fb i tk c top fil) (ho : F 0 i = nI 23 ∨ F 0 i = nI 13 ∨ F 0 i = nI 14) : At y z vt vo vc tb hp a b k N L Rm g f x An fb (i + 1) tk c top fil := by
  obtain ⟨s, R, hs, ha, hb, hN, hR, hk⟩ := h
  have key : ∀ o : Nat, (o = 23 ∨ o = 13 ∨ o = 14) → F 0 i = nI o → k (i + 1) = some s → At y z vt vo vc tb hp a b k N L Rm g f x An fb (i + 1) tk c top fil := fun o hoo ho h1 => by
    obtain ⟨e1, e2⟩ := E.2.2.2.2.2.2.2.1 i o s ha hb hs ho (by omega) hN hR
    have hmk := e2.2.1 (by omega)
    have hRm := e2.1 (by omega)
    have hl : lkp N i (i + 1) (wl s) (fun _ => False) ∧ ∀ l : Nat, (∃ r m : Nat, (5, r, m) ∈ s ∨ (6, r, m) ∈ s) → N.1 i 300 l → N.1 (i + 1) 300 l := by
      rcases hoo with rfl | hoo
      · exact ⟨e1.1 (by omega), fun l _ => e1.2.2.2.2.2.2.2.2.2.2.2.2.2.2.2.2 rfl l⟩
      · have := e1.2.1 hoo
        exact ⟨this.1, fun l _ => this.2 l⟩
    exact At_mk E h1 hRm hl.1.1 (st_id hk E.2.2.2.2.2.2.2.2.1 hl.1 hmk hl.2)
  rcases ho with ho | ho | ho
  · exact key 23 (Or.inl rfl) ho (ce_op E.2.1 ha hb hs ho (by decide))
  · exact key 13 (Or.inr (Or.inl rfl)) ho (ce_op E.2.1 ha hb hs ho (by decide))
  · exact key 14 (Or.inr (Or.inr rfl)) ho (ce_op E.2.1 ha hb hs ho (by decide))
end
