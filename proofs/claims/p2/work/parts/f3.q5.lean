theorem ibit_1 {c : Nat} (h : c < 32) : ibit 1 c = decide (c = 0) := by
  rw [show (1 : Int32) = nI (2 ^ 0) from rfl, ibit_nI h, Nat.testBit_two_pow]
  by_cases q : c = 0
  · rw [decide_eq_true q, decide_eq_true q.symm]
  · rw [decide_eq_false q, decide_eq_false (fun e => q e.symm)]
theorem ibit_ext {x y : Int32} (h : ∀ c : Nat, c < 32 → ibit x c = ibit y c) : x = y := Int32.toBitVec_inj.mp (BitVec.eq_of_getLsbD_eq (fun c hc => h c hc))
theorem ibit_tst {sn : Int32} {j : Nat} (hj : j < 12) (h : (sn >>> (nI j &&& 31)) &&& 1 ≠ 1) : ibit sn j = false := by
  cases e : ibit sn j with
  | false => rfl
  | true =>
    exfalso
    refine h (ibit_ext (fun c hc => ?_))
    rw [ibit_and, ibit_1 hc]
    by_cases q : c = 0
    · rw [q, ibit_shr sn (by omega), Nat.add_zero, e]; rfl
    · rw [decide_eq_false q, Bool.and_false]
theorem ibit_put {sn : Int32} {j c : Nat} (hj : j < 12) (hc : c < 32) : ibit (sn ||| ((1 : Int32) <<< (nI j &&& 31))) c = (ibit sn c || decide (c = j)) := by
  rw [ibit_or, show (1 : Int32) = nI 1 from rfl, nI_shl (by omega), Nat.one_mul, ibit_nI hc, Nat.testBit_two_pow]
  by_cases q : c = j
  · rw [decide_eq_true q, decide_eq_true q.symm]
  · rw [decide_eq_false q, decide_eq_false (fun e => q e.symm)]
theorem ibit_all {n c : Nat} (hn : n ≤ 12) (hc : c < n) : ibit (((1 : Int32) <<< (nI n &&& 31)) - 1) c = true := fuI_bit (az := fun _ => nI n) (u := 0) (m := n) rfl (by omega) hc
section
variable {y : qY} {z : qZ} {vt vo : Nat → Nat → Nat} {vc : Nat → Nat} {tb : Nat → lTb} {hp : Nat} {tk tk2 : Nat → Prop} {c c2 : Nat → Int} {f g i j : Nat} {x : Nat → kFm} {An : Nat → lLc → Nat → Prop} {fb : Nat → Nat} {top top2 : Nat} {fil fil2 : Nat → Nat → Nat → Prop} {N : lK} {L : Nat → Nat → lLc → Prop} {Rm : Nat → Prop} {F X : tF} {G : Nat → Nat → Nat} {rs a b n yp yt : Nat} {k : Nat → Option (List tE)} {rl : Nat → Int32} {pl : Nat → Nat → Int32} {me : Int32} {s s2 : List tE} {R R2 : Nat → Option lLc}
/-- the tables' words on a shape -/
theorem sg_y (E : sgE y z F X G rs a b n yp yt k N L Rm (tb g) rl pl me (vt g)) {sh : Nat} (hsh : sh < yp) : (∀ gg : Nat, y.2.2.2.1 (4 + sh) gg = cN (X 1 (sh * 12 + gg))) ∧ (∀ gg q : Nat, y.2.2.2.2 (4 + sh) gg q = cN (X 2 ((sh * 12 + gg) * 12 + q)) ∧ z.2 (4 + sh) gg q = cN (X 3 ((sh * 12 + gg) * 12 + q))) ∧ y.2.2.1 (4 + sh) = cN (X 0 sh) ∧ (F 20 (4 + sh) = 3 → y.1 (4 + sh) = 3) ∧ (F 20 (4 + sh) = 2 → cN (X 1 (sh * 12)) ≠ 0 → y.1 (4 + sh) = 2) := by
  have h30 := E.1.1.1.2.2.1
  rw [E.1.2.1, E.1.2.2.1]
  have e : 4 + sh - 4 = sh := by omega
  refine ⟨fun gg => ?_, fun gg q => ⟨?_, ?_⟩, ?_, fun h3 => ?_, fun h2 hn => ?_⟩
  · show cN (X 1 ((4 + sh - 4) * 12 + gg)) = _
    rw [e]
  · show cN (X 2 (((4 + sh - 4) * 12 + gg) * 12 + q)) = _
    rw [e]
  · show cN (X 3 (((4 + sh - 4) * 12 + gg) * 12 + q)) = _
    rw [e]
  · show cN (X 0 (4 + sh - 4)) = _
    rw [e]
  · show (if 10000 ≤ 4 + sh ∧ 4 + sh < 30000 then 5 + (4 + sh) % 2 else if 4 ≤ 4 + sh ∧ 4 + sh < 4 + yp then (if F 20 (4 + sh) = 3 then 3 else if cN (X 1 ((4 + sh - 4) * 12)) = 0 then 0 else 2) else if 34 ≤ 4 + sh ∧ 4 + sh < yt ∧ F 20 (4 + sh) = 4 then 4 else 0) = 3
    have h30 : yp ≤ 30 := h30
    rw [if_neg (by omega), if_pos (by omega), if_pos h3]
  · have h30 : yp ≤ 30 := h30
    exact yF_s (by omega) (by omega) h30 h2 (by rw [e]; exact hn)
/-- FIELD -/
theorem s_fld (E : sgE y z F X G rs a b n yp yt k N L Rm (tb g) rl pl me (vt g)) (hy : kYs y z vt vo vc) (h : At y z vt vo vc tb hp a b k N L Rm g f x An fb i tk c top fil) (ho : F 0 i = nI 10) : ∃ off m sz : Nat, F 1 i = nI off ∧ F 2 i = nI m ∧ F 3 i = nI sz ∧ off + m ≤ sz ∧ 1 ≤ m ∧ sz ≤ 16 ∧ sz + m ≤ top ∧ ∀ c2 : Nat → Int, (∀ o : Nat, o < m → c2 (top - m - sz + off + o) = c (top - m + o)) → (∀ k : Nat, ¬ (top - m - sz + off ≤ k ∧ k < top - m - sz + off + m) → c2 k = c k) → At y z vt vo vc tb hp a b k N L Rm g f x An fb (i + 1) tk c2 (top - m) fil := by
  obtain ⟨s, R, hs, ha, hb, hN, hR, hk⟩ := h
  obtain ⟨sh, j, n9, sn, r, g1, g2, g3, g4, g5, g6, g7, g8, g9, rfl, h1⟩ := ce_op E.2.1 ha hb hs ho (by decide)
  obtain ⟨t1, t2, t3, t4, t5, t6⟩ := sg_sh E g1 (Or.inl g2)
  obtain ⟨w1, w2, w3, w4, w5⟩ := sg_y E t1
  obtain ⟨nn, n1, n2, n3, n4, n5⟩ := E.1.1.2.1 sh t1
  obtain ⟨pm, p1, p2, p3⟩ := n5 0 (by omega)
  have p1 : X 1 (sh * 12) = nI pm := p1
  have epm : pm = n9 := (nI_eq (by omega) (by omega)).mp (p1.symm.trans g3)
  subst epm
  obtain ⟨U, u1, u2, u3⟩ := p3 j g5
  have u1 : X 2 (sh * 12 * 12 + j) = nI U := u1
  have h30 : yt ≤ 3040 := E.1.1.1.2.1
  have eU : cN (X 2 (sh * 12 * 12 + j)) = U := by rw [u1, cN_nI (by omega)]
  rw [eU] at hk hs g8
  have nr := tyN_nr E.1.1 u2
  have hk2 := st_rt E nr.1 nr.2 hk
  have c9 : cN (X 1 (sh * 12)) = pm := by rw [g3, cN_nI (by omega)]
  have y2 : y.1 (4 + sh) = 2 := w5 g2 (by rw [c9]; omega)
  have yn : y.2.2.2.1 (4 + sh) 0 = pm := (w1 0).trans c9
  have yU : y.2.2.2.2 (4 + sh) 0 j = U := (w2 0 j).1.trans eU
  have zo : z.2 (4 + sh) 0 j = cN (X 3 (sh * 12 * 12 + j)) := (w2 0 j).2
  have U0 : U ≠ 0 := by
    rcases u2 with q | q | q <;> omega
  have sz := sg_sz E (u := U) ⟨Or.inl u2, u3⟩
  rw [ymF_n E.1.1 u2] at sz
  have lay := hy.1.2.1 (4 + sh) j y2 (by rw [yn]; exact g5)
  rw [yU] at lay
  have snj := ibit_tst (by omega) g6
  have ep : pE pm sh sn = (7, 4 + sh, sn.toBitVec.toNat) := by
    unfold pE
    rw [if_neg ?_]
    intro e
    have := ibit_all (n := pm) (c := j) g4 g5
    rw [← e, snj] at this
    exact absurd this (by decide)
  rw [ep] at hk2
  have n7 : kNm (7, 4 + sh, sn.toBitVec.toNat) := by unfold kNm; simp
  obtain ⟨et, ew⟩ := At_s hk2
  have et : top = fb f + vc g + (khs z r + z.1 (4 + sh) + kes z (0, U, 0)) := et
  rw [show kes z (0, U, 0) = z.1 U from if_neg U0] at et
  rw [wl_n nm0, wl_n n7] at ew
  have ex3 : F 1 i = nI (z.2 (4 + sh) 0 j) := by
    rw [g7, zo]
    have := x3_nI E.1.1 t6 g2 (by omega) (show nI j < X 1 ((4 + sh - 4) * 12) by
      rw [show 4 + sh - 4 = sh by omega, g3]; exact nI_lt g5 (by omega))
    rw [show 4 + sh - 4 = sh by omega] at this
    exact this
  refine ⟨z.2 (4 + sh) 0 j, z.1 U, z.1 (4 + sh), ex3, g8.trans sz.1, g9.trans t2, lay, sz.2.1, t4, by omega, fun c2 q1 q2 => ?_⟩
  have eA : top - z.1 U - z.1 (4 + sh) = fb f + vc g + khs z r := by omega
  have eB : top - z.1 U = fb f + vc g + khs z r + z.1 (4 + sh) := by omega
  rw [eA] at q1 q2
  rw [eB] at q1 ⊢
  obtain ⟨e1, e2⟩ := E.2.2.2.2.2.2.2.1 i 10 _ ha hb hs ho (by decide) hN hR
  have hlk := e1.2.2.1 (by omega)
  rw [wl_t, wl_p] at hlk
  have hmk := e2.2.1 (by omega)
  have hRm := e2.1 (by omega)
  have hj := E.2.2.2.2.2.2.2.2.2.2.2.1.2 (i + 1) hRm
  have hv := E.2.2.1 (i + 1) _ hj.1 hj.2 h1
  have new : ∀ q : Nat, q < pm → ibit (sn ||| ((1 : Int32) <<< (nI j &&& 31))) q = true → q = j ∨ sn.toBitVec.toNat.testBit q = true := fun q hq hb9 => by
    rw [ibit_put (by omega) (by omega), Bool.or_eq_true] at hb9
    rcases hb9 with z9 | z9
    · exact Or.inr z9
    · exact Or.inl (of_decide_eq_true z9)
  have he2 : (pE pm sh (sn ||| ((1 : Int32) <<< (nI j &&& 31))) = (0, 4 + sh, 0) ∧ 4 + sh ≠ 0 ∧ ∀ q : Nat, q < y.2.2.2.1 (4 + sh) 0 → q = j ∨ sn.toBitVec.toNat.testBit q = true) ∨ (∃ m2 : Nat, pE pm sh (sn ||| ((1 : Int32) <<< (nI j &&& 31))) = (7, 4 + sh, m2) ∧ ∀ q : Nat, q < y.2.2.2.1 (4 + sh) 0 → m2.testBit q = true → q = j ∨ sn.toBitVec.toNat.testBit q = true) := by
    rw [yn]
    unfold pE
    by_cases c0 : sn ||| ((1 : Int32) <<< (nI j &&& 31)) = ((1 : Int32) <<< (nI pm &&& 31)) - 1
    · rw [if_pos c0]
      refine Or.inl ⟨rfl, by omega, fun q hq => new q hq ?_⟩
      rw [c0]; exact ibit_all g4 hq
    · rw [if_neg c0]
      exact Or.inr ⟨_, rfl, fun q hq hb9 => new q hq hb9⟩
  have hne : kNm (pE pm sh (sn ||| ((1 : Int32) <<< (nI j &&& 31)))) := by
    rcases he2 with ⟨e9, -⟩ | ⟨m2, e9, -⟩ <;> (rw [e9]; unfold kNm; simp)
  have q := kS_fld (c2 := c2) hy hk2 (t := 4 + sh) (j := j) (m := sn.toBitVec.toNat) (U := U) (m0 := 0) (S := r) (e2 := pE pm sh (sn ||| ((1 : Int32) <<< (nI j &&& 31)))) (by rw [kUx_eq]; rfl) (by rw [kUx_eq]; rfl) (by omega) U0 y2 (by rw [yn]; exact g5) yU he2 (by rw [kUx_eq]; exact q1) (by rw [kUx_eq]; exact q2)
  rw [kUx_eq, kUx2] at q
  exact At_mk E h1 hRm hlk.1 (st_fin0 q rfl hne hv E.2.2.2.2.2.2.2.2.1 (lkp_le hlk (by omega)) hmk)
theorem tSz_ps (E : sgE y z F X G rs a b n yp yt k N L Rm (tb g) rl pl me (vt g)) {r0 : Nat} : ∀ q : Nat, (∀ w : Nat, w < q → tyN yp (F 20) (cN (X 2 (r0 * 12 + w))) ∧ cN (X 2 (r0 * 12 + w)) < yt) → tSz F X r0 q = psum z (fun w => cN (X 2 (r0 * 12 + w))) q
  | 0, _ => rfl
  | q + 1, h => by
    have h1 := h q (by omega)
    have sz := sg_sz E (u := cN (X 2 (r0 * 12 + q))) ⟨Or.inl h1.1, h1.2⟩
    rw [ymF_n E.1.1 h1.1] at sz
    show tSz F X r0 q + cN (F 22 (cN (X 2 (r0 * 12 + q)))) = psum z (fun w => cN (X 2 (r0 * 12 + w))) q + z.1 (cN (X 2 (r0 * 12 + q)))
    rw [tSz_ps E q (fun w hw => h w (by omega)), sz.1, cN_nI (by omega)]
/-- PAD -/
theorem s_pad (E : sgE y z F X G rs a b n yp yt k N L Rm (tb g) rl pl me (vt g)) (hy : kYs y z vt vo vc) (h : At y z vt vo vc tb hp a b k N L Rm g f x An fb i tk c top fil) (ho : F 0 i = nI 12) : ∃ m : Nat, F 1 i = nI m ∧ m ≤ 16 ∧ At y z vt vo vc tb hp a b k N L Rm g f x An fb (i + 1) tk c (top + m) fil := by
  obtain ⟨s, R, hs, ha, hb, hN, hR, hk⟩ := h
  obtain ⟨sh, gg, n9, r, g1, g2, g3, g4, g5, g6, g7, g8, rfl, h1⟩ := ce_op E.2.1 ha hb hs ho (by decide)
  obtain ⟨y0, y1, y2', y3, z1, z2, z3⟩ := sg_p E
  obtain ⟨t1, t2, t3, t4, t5, t6⟩ := sg_sh E g1 (Or.inr g2)
  obtain ⟨w1, w2, w3, w4, w5⟩ := sg_y E t1
  obtain ⟨nn, n1, n2, n3, n4, n5⟩ := E.1.1.2.1 sh t1
  have hgn : gg < nn := by
    rw [n1] at g4
    exact (nI_ltI (by omega) (by omega)).mp g4
  obtain ⟨pm, p1, p2, p3⟩ := n5 gg hgn
  have epm : pm = n9 := (nI_eq (by omega) (by omega)).mp (p1.symm.trans g5)
  subst epm
  have h30 : yt ≤ 3040 := E.1.1.1.2.1
  have pt : ∀ w : Nat, w < pm → tyN yp (F 20) (cN (X 2 ((sh * 12 + gg) * 12 + w))) ∧ cN (X 2 ((sh * 12 + gg) * 12 + w)) < yt ∧ cN (X 2 ((sh * 12 + gg) * 12 + w)) ≠ 0 := fun w hw => by
    obtain ⟨u, u1, u2, u3⟩ := p3 w hw
    rw [u1, cN_nI (by omega)]
    exact ⟨u2, u3, by rcases u2 with q | q | q <;> omega⟩
  have hx0 : cN (X 0 sh) = nn := by rw [n1, cN_nI (by omega)]
  have c9 : cN (X 1 (sh * 12 + gg)) = pm := by rw [p1, cN_nI (by omega)]
  -- tokens are told as tokens
  have hk1 := hk
  rw [dsl_ps] at hk1
  have hk2 := kS_rtl (y := y) (z := z) (e := fun w => tNf F (cN (X 2 ((sh * 12 + gg) * 12 + w)))) (e2 := fun w => (0, cN (X 2 ((sh * 12 + gg) * 12 + w)), 0)) y1 y3 (by rw [z1, z3]) pm (P := []) (S := (3, gg, 0) :: r) (fun w hw => by
    have nr := tyN_nr E.1.1 (pt w hw).1
    show tNf F (cN (X 2 ((sh * 12 + gg) * 12 + w))) = _ ∨ _
    by_cases c3 : cN (X 2 ((sh * 12 + gg) * 12 + w)) = 3
    · right
      show tNf F (cN (X 2 ((sh * 12 + gg) * 12 + w))) = _ ∧ (0, cN (X 2 ((sh * 12 + gg) * 12 + w)), 0) = _
      rw [c3]; exact ⟨tNf_3, rfl⟩
    · left; exact tNf_u c3 nr.1 nr.2) (by rw [kUx_eq]; rfl) hk1
  rw [kUx_eq, kUx2] at hk2
  have hk2 : kS y z vt vo vc tb hp tk c f (kUx x f (Fr N L g i (dsl (fun w => (0, cN (X 2 ((sh * 12 + gg) * 12 + w)), 0)) pm ++ (3, gg, 0) :: r) R An)) fb top fil := hk2
  obtain ⟨et, ew⟩ := At_s hk2
  rw [psum_hs pm (fun w hw => (pt w hw).2.2)] at et
  have et : top = fb f + vc g + (khs z r + 1 + psum z (fun w => cN (X 2 ((sh * 12 + gg) * 12 + w))) pm) := et
  have n3' : kNm (3, gg, 0) := by unfold kNm; simp
  rw [wl_app, dsl_wl pm (fun w _ => nm0), wl_n n3'] at ew
  have off : ∀ w : Nat, w < pm → z.2 (4 + sh) gg w = 1 + psum z (fun w => cN (X 2 ((sh * 12 + gg) * 12 + w))) w := fun w hw => by
    rw [(w2 gg w).2]
    have := yz_off (yt := yt) E.1.1 t1 (g := gg) (by rw [hx0]; exact hgn) w (by rw [c9]; exact hw)
    rw [if_pos g2] at this
    rw [this, E.1.2.2.1]
  have y3k := w4 g2
  have sizes : 1 + psum z (fun w => cN (X 2 ((sh * 12 + gg) * 12 + w))) pm ≤ z.1 (4 + sh) := by
    cases pm with
    | zero => exact t3
    | succ q =>
      have := (hy.1.2.2.2.1 (4 + sh) gg q y3k (by rw [w3, hx0]; exact hgn) (by rw [w1 gg, c9]; omega)).2
      rw [off q (by omega), (w2 gg q).1] at this
      show 1 + (psum z (fun w => cN (X 2 ((sh * 12 + gg) * 12 + w))) q + z.1 (cN (X 2 ((sh * 12 + gg) * 12 + q)))) ≤ _
      omega
  obtain ⟨e1, e2⟩ := E.2.2.2.2.2.2.2.1 i 12 _ ha hb hs ho (by decide) hN hR
  have hlk := e1.2.2.2.1 rfl pm g7 g6
  rw [wl_app, wl_ps, wl_n n3'] at hlk
  have hmk := e2.2.1 (by omega)
  have hRm := e2.1 (by omega)
  have hj := E.2.2.2.2.2.2.2.2.2.2.2.1.2 (i + 1) hRm
  have hv := E.2.2.1 (i + 1) _ hj.1 hj.2 h1
  refine ⟨z.1 (4 + sh) - (1 + psum z (fun w => cN (X 2 ((sh * 12 + gg) * 12 + w))) pm), ?_, by omega, ?_⟩
  · rw [g8, t2, tSz_ps E pm (fun w hw => ⟨(pt w hw).1, (pt w hw).2.1⟩)]
    obtain ⟨d, hd⟩ : ∃ d : Nat, z.1 (4 + sh) = d + (1 + psum z (fun w => cN (X 2 ((sh * 12 + gg) * 12 + w))) pm) := ⟨z.1 (4 + sh) - (1 + psum z (fun w => cN (X 2 ((sh * 12 + gg) * 12 + w))) pm), by omega⟩
    rw [hd, Nat.add_sub_cancel, ← nI_add]
    exact Int32.add_sub_cancel _ _
  · have q := kS_pad hy hk2 (t := 4 + sh) (g := gg) (n := pm) (m := 0) (p := fun w => cN (X 2 ((sh * 12 + gg) * 12 + w))) (S := r) (by rw [kUx_eq]; rfl) (by rw [kUx_eq]; rfl) (by omega) y3k (by omega) (by rw [w3, hx0]; exact hgn) ((w1 gg).trans c9) (fun w hw => ⟨(w2 gg w).1, (pt w hw).2.2⟩) off g6
    rw [kUx_eq, kUx2] at q
    have q : kS y z vt vo vc tb hp tk c f (kUx x f (g, (0, 4 + sh, 0) :: r, 0, lUp R (40 + wl r) none, N.1 i, (fun u => u < 40 ∧ N.2.1 i u ∧ ¬ L i u []), L i, An)) fb (fb f + vc g + khs z r + z.1 (4 + sh)) fil := q
    rw [show top + (z.1 (4 + sh) - (1 + psum z (fun w => cN (X 2 ((sh * 12 + gg) * 12 + w))) pm)) = fb f + vc g + khs z r + z.1 (4 + sh) by omega]
    exact At_mk E h1 hRm hlk.1 (st_fin0 q rfl nm0 hv E.2.2.2.2.2.2.2.2.1 (lkp_le hlk (by omega)) hmk)
end
