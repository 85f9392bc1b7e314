/-- a part's place is no negative number -/
theorem x3_any {F X : tF} {yp yt sh g : Nat} (hh : tbO F X yp yt) (hsh : sh < yp) (hg : g < cN (X 0 sh)) : ∀ j : Nat, j < cN (X 1 (sh * 12 + g)) → X 3 ((sh * 12 + g) * 12 + j) = nI (cN (X 3 ((sh * 12 + g) * 12 + j))) := by
  obtain ⟨hty, hsq, hsz, hms⟩ := hh
  obtain ⟨z, z1, z2, z3⟩ := hsz sh hsh
  have h34 : 34 ≤ yt := hty.1
  have hyp : yp ≤ 30 := hty.2.2.1
  have hzz : (zF F X yt).1 (4 + sh) = z := by
    show (if 4 + sh < yt then max 1 (min 16 (cN (F 22 (4 + sh)))) else 1) = z
    rw [if_pos (by omega), z1, cN_nI (by omega)]; omega
  obtain ⟨mo, m1, m2, m3⟩ := (hms sh hsh).resolve_left (fun e => by
    rw [z1] at e
    have : z = 0 := (nI_eq (a := z) (b := 0) (by omega) (by decide)).mp e
    omega)
  obtain rfl : mo = z := (nI_eq (a := mo) (b := z) (by omega) (by omega)).mp (m2.symm.trans z1)
  obtain ⟨n, n1, n2, n3, n4, n5⟩ := hsq sh hsh
  have hcn : cN (X 0 sh) = n := by rw [n1, cN_nI (by omega)]
  rw [hcn] at hg
  obtain ⟨pm, p1, p2, p3⟩ := n5 g hg
  have hpm : cN (X 1 (sh * 12 + g)) = pm := by rw [p1, cN_nI (by omega)]
  rw [hpm]
  have hhd : (if F 20 (4 + sh) = 3 then 1 else 0) ≤ 17 := by split <;> omega
  obtain ⟨q1, q2⟩ := m3 g (show g < pcR (X 0) sh from by show g < cN (X 0 sh); rw [hcn]; exact hg)
  rw [show pcR (X 1) (sh * 12 + g) = pm from hpm] at q1 q2
  intro j hj
  obtain ⟨w1, w2⟩ := q2 j hj
  have hl0 : lyP (if F 20 (4 + sh) = 3 then 1 else 0) (sh * 12 + g) (F 22) (X 2) j ≤ 17 := (lyP_1 hhd j).1
  rw [w1, cN_nI (by omega)]
section
variable {y : qY} {z : qZ} {vt vo : Nat → Nat → Nat} {vc : Nat → Nat} {tb : Nat → lTb} {hp : Nat} {tk tk2 : Nat → Prop} {c c2 : Nat → Int} {f g i j : Nat} {x : Nat → kFm} {An : Nat → lLc → Nat → Prop} {fb : Nat → Nat} {top top2 : Nat} {fil fil2 : Nat → Nat → Nat → Prop} {N : lK} {L : Nat → Nat → lLc → Prop} {Rm : Nat → Prop} {F X : tF} {G : Nat → Nat → Nat} {rs a b n yp yt : Nat} {k : Nat → Option (List tE)} {rl : Nat → Int32} {pl : Nat → Nat → Int32} {me : Int32} {s s2 : List tE} {R R2 : Nat → Option lLc}
/-- a variable's type -/
theorem sg_v (E : sgE y z F X G rs a b n yp yt k N L Rm (tb g) rl pl me (vt g)) {v T : Nat} (hv4 : v < 40) (hT : T < 3040) (h15 : F 15 v = nI T) : v < n ∧ tyV yp yt (F 20) T ∧ vt g v = ymF F T ∧ vt g v ≠ 0 := by
  obtain ⟨hvn, T0, e1, e2, e3⟩ := E.2.2.2.2.2.1 v hv4 (by rw [h15]; exact fun e => nI_pos (n := T) (by omega) (by rw [e]; decide))
  have h30 : yt ≤ 3040 := E.1.1.1.2.1
  obtain rfl : T = T0 := (nI_eq (by omega) (by have := e2.2; omega)).mp (h15.symm.trans e1)
  exact ⟨hvn, e2, e3, by rw [e3]; exact ymF_0 E.1.1 e2⟩
/-- a variable has come: told by what is known of j -/
theorem st_finV {v : Nat} {ro : Option lLc} {hd : Nat → Prop} (h : kS y z vt vo vc tb hp tk c f (kUx x f (g, s, 0, lUp R v ro, lUp (N.1 i) v hd, (fun u => u < 40 ∧ N.2.1 j u ∧ ¬ L j u []), L j, An)) fb top fil) (hv4 : v < 40) {m : Nat} (hm : wl s ≤ m) (h1 : lkp N i j m (fun u => u = v)) (h3 : ∀ l : Nat, (∃ r m : Nat, (5, r, m) ∈ s ∨ (6, r, m) ∈ s) → N.1 i 300 l → N.1 j 300 l) (hh9 : ∀ (q : lLc) (l : Nat), ro = some q → hd l → N.1 j v l) : kS y z vt vo vc tb hp tk c f (kUx x f (Fr N L g j s (lUp R v ro) An)) fb top fil := by
  refine fin h (fun u w l hu hr hh => ?_) (fun u q => q) (fun v π q => q)
  by_cases e9 : u = v
  · subst e9
    rw [lUp_eq] at hr hh
    exact hh9 w l hr hh
  · rw [lUp_ne e9] at hh
    rcases hu with hu | hu | ⟨rfl, hu⟩
    · exact h1.2.1 u l e9 (Or.inl hu.1) hh
    · exact h1.2.1 u l e9 (Or.inr ⟨hu.1, by omega⟩) hh
    · exact h3 l hu hh
theorem L_ne (E : sgE y z F X G rs a b n yp yt k N L Rm (tb g) rl pl me (vt g)) {v : Nat} (hmk : mkp L n i j (fun u => u = v)) : ∀ (w : Nat) (π : lLc), w ≠ v → ¬ L j w π → ¬ L i w π := fun w π hw hn q => hn (kpL E.2.2.2.2.2.2.2.2.1 hmk w π hw q)
/-- LET -/
theorem s_let (E : sgE y z F X G rs a b n yp yt k N L Rm (tb g) rl pl me (vt g)) (hy : kYs y z vt vo vc) (h : At y z vt vo vc tb hp a b k N L Rm g f x An fb i tk c top fil) (ho : F 0 i = nI 24) : ∃ v T m : Nat, F 1 i = nI v ∧ v < n ∧ F 15 v = nI T ∧ T < 3040 ∧ F 22 T = nI m ∧ 1 ≤ m ∧ m ≤ 16 ∧ m ≤ top ∧ fb f + vo g v + m ≤ top - m ∧ ∀ (c2 : Nat → Int) (fil2 : Nat → Nat → Nat → Prop), (∀ q : Nat, q < m → c2 (fb f + vo g v + q) = c (top - m + q)) → (∀ k : Nat, ¬ (fb f + vo g v ≤ k ∧ k < fb f + vo g v + m) → c2 k = c k) → (∀ j w : Nat, (j, w) ≠ (f, v) → fil2 j w = fil j w) → At y z vt vo vc tb hp a b k N L Rm g f x An fb (i + 1) tk c2 (top - m) fil2 := by
  obtain ⟨s, R, hs, ha, hb, hN, hR, hk⟩ := h
  obtain ⟨v, T, r, hv4, g1, g2, g3, g4, g5, rfl, h1⟩ := ce_op E.2.1 ha hb hs ho (by decide)
  obtain ⟨hvn, q2, q3, q4⟩ := sg_v E hv4 g3 g2
  obtain ⟨e1, e2⟩ := E.2.2.2.2.2.2.2.1 i 24 _ ha hb hs ho (by decide) hN hR
  obtain ⟨hlk, hnew⟩ := e1.2.2.2.2.2.2.1 rfl v g1 hv4
  have hmk := e2.2.2.2.2.1 (Or.inl rfl) v g1 hv4
  have hRm := e2.1 (by omega)
  have hv := E.2.2.1 i _ ha hb hs
  have hvr : (8, v, 0) ∉ r := fun q => g5 _ q rfl
  have hno := no56 (vl_no (vl_1 hv nm_t))
  have h3 : ∀ l : Nat, (∃ r9 m : Nat, (5, r9, m) ∈ (8, v, 0) :: r ∨ (6, r9, m) ∈ (8, v, 0) :: r) → N.1 i 300 l → N.1 (i + 1) 300 l := fun l hm => by
    obtain ⟨r9, m9, hm⟩ := hm
    have n5 := hno r9 m9
    exfalso
    rcases hm with q | q
    · rcases List.mem_cons.mp q with q | q
      · injection q with q; exact absurd q (by decide)
      · exact n5.1 q
    · rcases List.mem_cons.mp q with q | q
      · injection q with q; exact absurd q (by decide)
      · exact n5.2 q
  have sz := sg_sz E q2
  rw [← q3] at sz
  have lay := hy.2.2.1.1 g v hv4 q4
  rw [wl_t, Nat.add_sub_cancel] at hlk hnew
  have w8 : wl ((8, v, 0) :: r) ≤ wl r := by rw [wl_0 (Or.inl rfl)]; exact Nat.le_refl _
  have Aup : ∀ u : Nat, u ≠ v → (u < 40 ∧ N.2.1 (i + 1) u ∧ ¬ L (i + 1) u []) → (u < 40 ∧ N.2.1 i u ∧ ¬ L i u []) := fun u hu q => kpA E.2.2.2.2.2.2.2.2.1 hlk hmk u hu q
  by_cases hrf : F 20 T = 5 ∨ F 20 T = 6
  · have kk := sg_k E q2
    have zv : z.1 (vt g v) = 1 := sg_z4 E _ (Or.inr (by rw [q3]; exact kk.2.2.1.mpr hrf))
    have ref : ∃ kq U : Nat, U < 10000 ∧ tNf F T = (kq, U, 0) ∧ ((kq = 1 ∧ vt g v = 10000 + 2 * U) ∨ (kq = 2 ∧ vt g v = 10001 + 2 * U)) := by
      rcases hrf with h5 | h6
      · obtain ⟨U, u1, u2, u3, u4, u5, u6⟩ := kk.1 h5
        exact ⟨1, U, u2, u6, Or.inl ⟨rfl, by rw [q3]; exact u5⟩⟩
      · obtain ⟨U, u1, u2, u3, u4, u5, u6⟩ := kk.2.1 h6
        exact ⟨2, U, u2, u6, Or.inr ⟨rfl, by rw [q3]; exact u5⟩⟩
    obtain ⟨kq, U, u2, u6, ukt⟩ := ref
    rw [u6] at hk
    obtain ⟨et, ew⟩ := At_s hk
    have et : top = fb f + vc g + (khs z r + kes z (kq, U, 0)) := et
    rw [show kes z (kq, U, 0) = 1 by rcases ukt with ⟨rfl, -⟩ | ⟨rfl, -⟩ <;> rfl] at et
    rw [zv] at sz lay
    refine ⟨v, T, 1, g1, hvn, g2, g3, sz.1, by decide, by decide, by omega, by omega, fun c2 fil2 hc1 hc2 hf1 => ?_⟩
    have eA : top - 1 = fb f + vc g + khs z r := by omega
    rw [eA] at hc1 ⊢
    obtain ⟨aa, q⟩ := kS_letR (c2 := c2) (fil2 := fil2) (v := v) (al2 := fun u => u < 40 ∧ N.2.1 (i + 1) u ∧ ¬ L (i + 1) u []) (lo2 := L (i + 1)) hy hk (k := kq) (U := U) (m := 0) (S := r) (by rw [kUx_eq]; rfl) (by rw [kUx_eq]; rfl) hno u2 (by rw [kUx_eq]; exact ukt) hv4 hvr (by rw [kUx_eq]; exact Aup) (by rw [kUx_eq]; exact L_ne E hmk) (by rw [kUx_eq]; exact hc1 0 (by decide)) (by
      rw [kUx_eq]
      intro k hk9
      have hk9 : k ≠ fb f + vo g v := hk9
      exact hc2 k (by omega)) hf1
    rw [kUx_eq, kUx2] at q
    exact At_mk E h1 hRm hlk.1 (st_finV q hv4 w8 hlk h3 (fun _ l _ hh => hnew l hh))
  · have h5 : F 20 T ≠ 5 := fun q => hrf (Or.inl q)
    have h6 : F 20 T ≠ 6 := fun q => hrf (Or.inr q)
    have hk2 := st_rt E h5 h6 hk
    have eT : ymF F T = T := by unfold ymF; rw [if_neg h5, if_neg h6]
    rw [eT] at q3
    have T0 : T ≠ 0 := by rw [← q3]; exact q4
    obtain ⟨et, ew⟩ := At_s hk2
    have et : top = fb f + vc g + (khs z r + kes z (0, T, 0)) := et
    rw [show kes z (0, T, 0) = z.1 T from if_neg T0] at et
    rw [q3] at sz lay
    refine ⟨v, T, z.1 T, g1, hvn, g2, g3, sz.1, sz.2.1, sz.2.2, by omega, by omega, fun c2 fil2 hc1 hc2 hf1 => ?_⟩
    have eA : top - z.1 T = fb f + vc g + khs z r := by omega
    rw [eA] at hc1 ⊢
    have q := kS_let (c2 := c2) (fil2 := fil2) (v := v) (T := T) (al2 := fun u => u < 40 ∧ N.2.1 (i + 1) u ∧ ¬ L (i + 1) u []) (lo2 := L (i + 1)) hy hk2 (m := 0) (S := r) (by rw [kUx_eq]; rfl) (by rw [kUx_eq]; rfl) hno T0 (by rw [kUx_eq]; exact q3) hv4 hvr (by rw [kUx_eq]; exact Aup) (by rw [kUx_eq]; exact L_ne E hmk) (by rw [kUx_eq]; exact hc1) (by rw [kUx_eq]; exact hc2) hf1
    rw [kUx_eq, kUx2, ← lUp_self (g := kH (Fr N L g i ((0, T, 0) :: r) R An)) (t := v)] at q
    exact At_mk E h1 hRm hlk.1 (st_finV q hv4 w8 hlk h3 (fun _ l q _ => by simp at q))
/-- LET without a value -/
theorem s_let0 (E : sgE y z F X G rs a b n yp yt k N L Rm (tb g) rl pl me (vt g)) (hy : kYs y z vt vo vc) (h : At y z vt vo vc tb hp a b k N L Rm g f x An fb i tk c top fil) (ho : F 0 i = nI 25) : ∃ v : Nat, F 1 i = nI v ∧ v < n ∧ ∀ fil2 : Nat → Nat → Nat → Prop, (∀ j w : Nat, (j, w) ≠ (f, v) → fil2 j w = fil j w) → (∀ q : Nat, ¬ fil2 f v q) → At y z vt vo vc tb hp a b k N L Rm g f x An fb (i + 1) tk c top fil2 := by
  obtain ⟨s, R, hs, ha, hb, hN, hR, hk⟩ := h
  obtain ⟨v, hv4, g1, g2, g5, h1⟩ := ce_op E.2.1 ha hb hs ho (by decide)
  have h60 := E.2.1.2.1
  have hvn := E.2.2.2.2.2.2.1 v i hv4 (by omega) g2
  obtain ⟨e1, e2⟩ := E.2.2.2.2.2.2.2.1 i 25 _ ha hb hs ho (by decide) hN hR
  have hlk := e1.2.2.2.2.2.2.2.1 (Or.inl rfl) v g1 hv4
  have hmk := e2.2.2.2.2.1 (Or.inr (Or.inl rfl)) v g1 hv4
  have hlost := e2.2.2.2.2.2.1 rfl v g1 hvn
  have hRm := e2.1 (by omega)
  have hj := E.2.2.2.2.2.2.2.2.2.2.2.1.2 (i + 1) hRm
  have hv := E.2.2.1 (i + 1) _ hj.1 hj.2 h1
  have v0 := (E.1.2.2.2.2.2.1 i s hR hs).2 ho
  have hno := no56 (vl_no (show vl s ≤ 210 by omega))
  refine ⟨v, g1, hvn, fun fil2 hf1 hf2 => ?_⟩
  have q := kS_let0 (fil2 := fil2) (v := v) (al2 := fun u => u < 40 ∧ N.2.1 (i + 1) u ∧ ¬ L (i + 1) u []) (lo2 := L (i + 1)) hy hk (by rw [kUx_eq]; rfl) (by rw [kUx_eq]; exact hno) hv4 (by rw [kUx_eq]; exact fun q => g5 _ q rfl) (by rw [kUx_eq]; exact fun u hu q => kpA E.2.2.2.2.2.2.2.2.1 hlk hmk u hu q) (by rw [kUx_eq]; exact L_ne E hmk) (by rw [kUx_eq]; exact fun π _ _ _ => hlost π) hf1 hf2
  rw [kUx_eq, kUx2, ← lUp_self (g := kH (Fr N L g i s R An)) (t := v)] at q
  have w8 : wl ((8, v, 0) :: s) ≤ wl s := by rw [wl_0 (Or.inl rfl)]; exact Nat.le_refl _
  refine At_mk E h1 hRm hlk.1 (st_finV q hv4 w8 hlk (fun l hm => ?_) (fun _ l q _ => by simp at q))
  obtain ⟨r9, m9, hm⟩ := hm
  have n5 := hno r9 m9
  exfalso
  rcases hm with q | q
  · rcases List.mem_cons.mp q with q | q
    · injection q with q; exact absurd q (by decide)
    · exact n5.1 q
  · rcases List.mem_cons.mp q with q | q
    · injection q with q; exact absurd q (by decide)
    · exact n5.2 q
/-- the row of a matched variant -/
theorem row_d {sh gg : Nat} (h : gg < 12) : (sh * 12 + gg) / 12 = sh ∧ (sh * 12 + gg) % 12 = gg := by omega
/-- BIND -/
theorem s_bnd (E : sgE y z F X G rs a b n yp yt k N L Rm (tb g) rl pl me (vt g)) (hy : kYs y z vt vo vc) (h : At y z vt vo vc tb hp a b k N L Rm g f x An fb i tk c top fil) (ho : F 0 i = nI 29) : ∃ v T m off sz : Nat, F 1 i = nI v ∧ v < n ∧ F 15 v = nI T ∧ T < 3040 ∧ F 22 T = nI m ∧ 1 ≤ m ∧ m ≤ 16 ∧ F 2 i = nI off ∧ F 3 i = nI sz ∧ off + m ≤ sz ∧ sz ≤ 16 ∧ sz ≤ top ∧ fb f + vo g v + m ≤ top ∧ ∀ (c2 : Nat → Int) (fil2 : Nat → Nat → Nat → Prop), (∀ q : Nat, q < m → c2 (fb f + vo g v + q) = c (top - sz + off + q)) → (∀ k : Nat, ¬ (fb f + vo g v ≤ k ∧ k < fb f + vo g v + m) → c2 k = c k) → (∀ j w : Nat, (j, w) ≠ (f, v) → fil2 j w = fil j w) → At y z vt vo vc tb hp a b k N L Rm g f x An fb (i + 1) tk c2 top fil2 := by
  obtain ⟨s, R, hs, ha, hb, hN, hR, hk⟩ := h
  obtain ⟨v, sh, gg, j, n9, T, r, hv4, g1, g2, g3, g4, g5, g6, g7, g8, g9, g10, g11, g12, g13, rfl, h1⟩ := ce_op E.2.1 ha hb hs ho (by decide)
  obtain ⟨t1, t2, t3, t4, t5, t6⟩ := sg_sh E g2 (Or.inr g3)
  obtain ⟨w1, w2, w3, w4, w5⟩ := sg_y E t1
  obtain ⟨rd1, rd2⟩ := row_d (sh := sh) g4
  obtain ⟨nn, n1, n2, n3, n4, n5⟩ := E.1.1.2.1 sh t1
  have hx0 : cN (X 0 sh) = nn := by rw [n1, cN_nI (by omega)]
  obtain ⟨et, ew⟩ := At_s hk
  have mt9 : y.1 (4 + (sh * 12 + gg) / 12) = 3 ∧ (sh * 12 + gg) % 12 < y.2.2.1 (4 + (sh * 12 + gg) / 12) := by
    obtain ⟨rt, ra, V, hJ9, hL9⟩ := hk
    exact hL9.2.2.2.2.2.2.2.2.2 f (Nat.le_refl f) (sh * 12 + gg) j (by rw [kUx_eq]; exact List.mem_cons_self ..)
  rw [rd1, rd2, w3, hx0] at mt9
  have hgn : gg < nn := mt9.2
  obtain ⟨pm, p1, p2, p3⟩ := n5 gg hgn
  have epm : pm = n9 := (nI_eq (by omega) (by omega)).mp (p1.symm.trans g5)
  subst epm
  obtain ⟨u, u1, u2, u3⟩ := p3 j g6
  have h30 : yt ≤ 3040 := E.1.1.1.2.1
  have g9 : F 15 v = nI u := g9.trans (g8.symm.trans u1)
  have hT : u < 3040 := by omega
  obtain ⟨hvn, q2, q3, q4⟩ := sg_v E hv4 hT g9
  rw [ymF_n E.1.1 u2] at q3
  have nr := tyN_nr E.1.1 u2
  have sz := sg_sz E q2
  rw [ymF_n E.1.1 u2] at sz
  have c9 : cN (X 1 (sh * 12 + gg)) = pm := by rw [p1, cN_nI (by omega)]
  have eU : y.2.2.2.2 (4 + sh) gg j = u := by rw [(w2 gg j).1, u1, cN_nI (by omega)]
  have lay := hy.1.2.2.2.1 (4 + sh) gg j mt9.1 (by rw [w3, hx0]; exact hgn) (by rw [w1 gg, c9]; exact g6)
  rw [eU] at lay
  have layv := hy.2.2.1.1 g v hv4 q4
  rw [q3] at layv
  have ex3 : F 2 i = nI (z.2 (4 + sh) gg j) := by
    rw [g12, (w2 gg j).2]
    exact x3_any (yt := yt) E.1.1 t1 (by rw [hx0]; exact hgn) j (by rw [c9]; exact g6)
  have et : top = fb f + vc g + (khs z r + z.1 (4 + (sh * 12 + gg) / 12)) := et
  rw [rd1] at et
  have hv := E.2.2.1 i _ ha hb hs
  have hv0 : vl r ≤ 210 := by
    have hv : vl r + (if (4 : Nat) = 8 then 0 else if (4 : Nat) = 4 ∨ (4 : Nat) = 5 ∨ (4 : Nat) = 6 then 211 else 1) ≤ 211 := hv
    rw [if_neg (by decide), if_pos (by decide)] at hv
    omega
  have hmt := vl_no hv0
  obtain ⟨e1, e2⟩ := E.2.2.2.2.2.2.2.1 i 29 _ ha hb hs ho (by decide) hN hR
  have hlk := e1.2.2.2.2.2.2.2.1 (Or.inr rfl) v g1 hv4
  rw [wl_0 (show ((4, sh * 12 + gg, j) : tE).1 = 8 ∨ ((4, sh * 12 + gg, j) : tE).1 = 4 ∨ ((4, sh * 12 + gg, j) : tE).1 = 5 ∨ ((4, sh * 12 + gg, j) : tE).1 = 6 from Or.inr (Or.inl rfl))] at hlk
  have hmk := e2.2.2.2.2.1 (Or.inr (Or.inr (Or.inl rfl))) v g1 hv4
  have hRm := e2.1 (by omega)
  refine ⟨v, u, z.1 u, z.2 (4 + sh) gg j, z.1 (4 + sh), g1, hvn, g9, hT, sz.1, sz.2.1, sz.2.2, ex3, g13.trans t2, lay.2, t4, by omega, by omega, fun c2 fil2 hc1 hc2 hf1 => ?_⟩
  have eA : top - z.1 (4 + sh) = fb f + vc g + khs z r := by omega
  rw [eA] at hc1
  have q := kS_bind (c2 := c2) (fil2 := fil2) (v := v) (al2 := fun u => u < 40 ∧ N.2.1 (i + 1) u ∧ ¬ L (i + 1) u []) (lo2 := L (i + 1)) hy hk (r := r) (r0 := sh * 12 + gg) (m := j) (by rw [kUx_eq]; rfl) (by rw [kUx_eq]; rfl) hmt hv4 (fun q => g11 _ q rfl) (by rw [rd1, rd2, w1 gg, c9]; exact g6) (by rw [kUx_eq, rd1, rd2, eU]; exact q3) (by rw [kUx_eq]; exact q4) (by
    rw [kUx_eq]
    show y.1 (vt g v) ≠ 5 ∧ y.1 (vt g v) ≠ 6
    rw [q3, E.1.2.1]
    have : ¬ ((yF F X yp yt).1 u = 5 ∨ (yF F X yp yt).1 u = 6) := fun q => by
      have := yF_56.mp q
      omega
    exact ⟨fun q => this (Or.inl q), fun q => this (Or.inr q)⟩) (by rw [kUx_eq]; exact fun u hu q => kpA E.2.2.2.2.2.2.2.2.1 hlk hmk u hu q) (by rw [kUx_eq]; exact L_ne E hmk) (by
    rw [kUx_eq, rd1, rd2]
    show ∀ q : Nat, q < z.1 (vt g v) → c2 (fb f + vo g v + q) = _
    rw [q3]; exact hc1) (by
    rw [kUx_eq]
    show ∀ k : Nat, ¬ (fb f + vo g v ≤ k ∧ k < fb f + vo g v + z.1 (vt g v)) → _
    rw [q3]; exact hc2) hf1
  rw [kUx_eq, kUx2, ← lUp_self (g := kH (Fr N L g i ((4, sh * 12 + gg, j) :: r) R An)) (t := v)] at q
  refine At_mk E h1 hRm hlk.1 (st_finV q hv4 (m := wl r) ?_ hlk (fun l hm => ?_) (fun _ l q _ => by simp at q))
  · rw [wl_0 (Or.inr (Or.inl rfl)), wl_0 (Or.inl rfl)]; exact Nat.le_refl _
  · obtain ⟨r9, m9, hm⟩ := hm
    have n5 := no56 hmt r9 m9
    exfalso
    rcases hm with q | q
    · rcases List.mem_cons.mp q with q | q
      · injection q with q; exact absurd q (by decide)
      · rcases List.mem_cons.mp q with q | q
        · injection q with q; exact absurd q (by decide)
        · exact n5.1 q
    · rcases List.mem_cons.mp q with q | q
      · injection q with q; exact absurd q (by decide)
      · rcases List.mem_cons.mp q with q | q
        · injection q with q; exact absurd q (by decide)
        · exact n5.2 q
/-- BIND of a reference -/
theorem s_bndR (E : sgE y z F X G rs a b n yp yt k N L Rm (tb g) rl pl me (vt g)) (hy : kYs y z vt vo vc) (h : At y z vt vo vc tb hp a b k N L Rm g f x An fb i tk c top fil) (ho : F 0 i = nI 30) : ∃ v off : Nat, F 1 i = nI v ∧ v < n ∧ F 2 i = nI off ∧ off ≤ 16 ∧ 1 ≤ top ∧ fb f + vo g v + 1 ≤ top ∧ ∀ (c2 : Nat → Int) (fil2 : Nat → Nat → Nat → Prop), c2 (fb f + vo g v) = c (top - 1) + (off : Nat) → (∀ k : Nat, k ≠ fb f + vo g v → c2 k = c k) → (∀ j w : Nat, (j, w) ≠ (f, v) → fil2 j w = fil j w) → At y z vt vo vc tb hp a b k N L Rm g f x An fb (i + 1) tk c2 top fil2 := by
  obtain ⟨s, R, hs, ha, hb, hN, hR, hk⟩ := h
  obtain ⟨v, sh, gg, j, n9, T, b9, q, r, hv4, g1, g2, g3, g4, g5, g6, g7, gq, g8, gT, gn, g9, g11, g12, g13, g14, rfl, h1⟩ := ce_op E.2.1 ha hb hs ho (by decide)
  obtain ⟨t1, t2, t3, t4, t5, t6⟩ := sg_sh E g2 (Or.inr g3)
  obtain ⟨w1, w2, w3, w4, w5⟩ := sg_y E t1
  obtain ⟨rd1, rd2⟩ := row_d (sh := sh) g4
  obtain ⟨nn, n1, n2, n3, n4, n5⟩ := E.1.1.2.1 sh t1
  have hx0 : cN (X 0 sh) = nn := by rw [n1, cN_nI (by omega)]
  obtain ⟨et, ew⟩ := At_s hk
  have y3 := w4 g3
  have h30 : yt ≤ 3040 := E.1.1.1.2.1
  -- the variant is one of the shape's
  have hgn : gg < nn := by
    obtain ⟨rt, ra, V, hJ9, hL9⟩ := hk
    have hmem : (q + 4, sh * 12 + gg, b9 + 1 + 64 * j) ∈ (kUx x f (Fr N L g i ((q + 4, sh * 12 + gg, b9 + 1 + 64 * j) :: r) R An) f).2.1 := by rw [kUx_eq]; exact List.mem_cons_self ..
    have pm : ∃ (a0 : Nat × Nat) (π : lLc), V a0 π = some (4 + (sh * 12 + gg) / 12, (sh * 12 + gg) % 12) := by
      rcases gq with rfl | rfl
      · obtain ⟨a0, π, -, -, -, e, -⟩ := ((hJ9.2.2.2.2.2.2.2.1 f (Nat.le_refl f) (sh * 12 + gg) (b9 + 1 + 64 * j)).1 hmem).2
        exact ⟨a0, π, e⟩
      · obtain ⟨a0, π, -, -, -, e, -⟩ := ((hJ9.2.2.2.2.2.2.2.1 f (Nat.le_refl f) (sh * 12 + gg) (b9 + 1 + 64 * j)).2 hmem).2
        exact ⟨a0, π, e⟩
    obtain ⟨a0, π, e⟩ := pm
    rw [rd1, rd2] at e
    have := ((hJ9.1 a0).1 π _ _ e).2.2.1 y3
    rw [w3, hx0] at this
    exact this
  obtain ⟨pm, p1, p2, p3⟩ := n5 gg hgn
  have epm : pm = n9 := (nI_eq (by omega) (by omega)).mp (p1.symm.trans g5)
  subst epm
  obtain ⟨u, u1, u2, u3⟩ := p3 j g6
  have eu : cN (X 2 ((sh * 12 + gg) * 12 + j)) = u := by rw [u1, cN_nI (by omega)]
  rw [eu] at gn
  obtain ⟨hvn, q2, q3, q4⟩ := sg_v E hv4 gT g8
  have c9 : cN (X 1 (sh * 12 + gg)) = pm := by rw [p1, cN_nI (by omega)]
  have eU : y.2.2.2.2 (4 + sh) gg j = u := (w2 gg j).1.trans eu
  have kk := sg_k E q2
  have k56 : (q = 1 ∧ F 20 T = 5 ∧ vt g v = 10000 + 2 * u) ∨ (q = 2 ∧ F 20 T = 6 ∧ vt g v = 10001 + 2 * u) := by
    by_cases c5 : F 20 T = 5
    · obtain ⟨U, v1, v2, v3, v4, v5, v6⟩ := kk.1 c5
      rw [v6] at gn
      injection gn with gn1 gn2
      injection gn2 with gn2 _
      exact Or.inl ⟨gn1.symm, c5, by rw [q3, v5, gn2]⟩
    · by_cases c6 : F 20 T = 6
      · obtain ⟨U, v1, v2, v3, v4, v5, v6⟩ := kk.2.1 c6
        rw [v6] at gn
        injection gn with gn1 gn2
        injection gn2 with gn2 _
        exact Or.inr ⟨gn1.symm, c6, by rw [q3, v5, gn2]⟩
      · exfalso
        by_cases c3 : T = 3
        · rw [c3, tNf_3] at gn
          injection gn with gn1 _
          omega
        · rw [tNf_u c3 c5 c6] at gn
          injection gn with gn1 _
          omega
  have lay := hy.1.2.2.2.1 (4 + sh) gg j y3 (by rw [w3, hx0]; exact hgn) (by rw [w1 gg, c9]; exact g6)
  have layv := hy.2.2.1.1 g v hv4 q4
  rw [sg_z4 E _ (Or.inr (by rw [q3]; exact kk.2.2.1.mpr (by rcases k56 with ⟨-, z9, -⟩ | ⟨-, z9, -⟩; exact Or.inl z9; exact Or.inr z9)))] at layv
  have ex3 : F 2 i = nI (z.2 (4 + sh) gg j) := by
    rw [g12, (w2 gg j).2]
    exact x3_any (yt := yt) E.1.1 t1 (by rw [hx0]; exact hgn) j (by rw [c9]; exact g6)
  have et : top = fb f + vc g + (khs z r + kes z (q + 4, sh * 12 + gg, b9 + 1 + 64 * j)) := et
  rw [show kes z (q + 4, sh * 12 + gg, b9 + 1 + 64 * j) = 1 by rcases gq with rfl | rfl <;> rfl] at et
  have hv := E.2.2.1 i _ ha hb hs
  have hv0 : vl r ≤ 210 := by
    have hv : vl r + (if q + 4 = 8 then 0 else if q + 4 = 4 ∨ q + 4 = 5 ∨ q + 4 = 6 then 211 else 1) ≤ 211 := hv
    rw [if_neg (by omega), if_pos (by omega)] at hv
    omega
  have hmt := vl_no hv0
  obtain ⟨e1, e2⟩ := E.2.2.2.2.2.2.2.1 i 30 _ ha hb hs ho (by decide) hN hR
  obtain ⟨hlk, hnew, h300⟩ := e1.2.2.2.2.2.2.2.2.1 rfl v g1 hv4
  rw [wl_0 (show ((q + 4, sh * 12 + gg, b9 + 1 + 64 * j) : tE).1 = 8 ∨ ((q + 4, sh * 12 + gg, b9 + 1 + 64 * j) : tE).1 = 4 ∨ ((q + 4, sh * 12 + gg, b9 + 1 + 64 * j) : tE).1 = 5 ∨ ((q + 4, sh * 12 + gg, b9 + 1 + 64 * j) : tE).1 = 6 from by show q + 4 = 8 ∨ q + 4 = 4 ∨ q + 4 = 5 ∨ q + 4 = 6; omega)] at hlk
  have hmk := e2.2.2.2.2.1 (Or.inr (Or.inr (Or.inr rfl))) v g1 hv4
  have hRm := e2.1 (by omega)
  have mj : (b9 + 1 + 64 * j) / 64 = j := by omega
  refine ⟨v, z.2 (4 + sh) gg j, g1, hvn, ex3, by have := lay.2; have := hy.1.1 (y.2.2.2.2 (4 + sh) gg j); omega, by omega, by omega, fun c2 fil2 hc1 hc2 hf1 => ?_⟩
  have eA : top - 1 = fb f + vc g + khs z r := by omega
  rw [eA] at hc1
  obtain ⟨aa, p⟩ := kS_bindR (c2 := c2) (fil2 := fil2) (v := v) (hd := N.1 i 300) (al2 := fun u => u < 40 ∧ N.2.1 (i + 1) u ∧ ¬ L (i + 1) u []) (lo2 := L (i + 1)) hy hk (r := r) (r0 := sh * 12 + gg) (q := q + 4) (m := b9 + 1 + 64 * j) (by omega) (by rw [kUx_eq]; rfl) (by rw [kUx_eq]; rfl) hmt hv4 (fun q => g11 _ q rfl) (by rw [rd1]; exact y3) (by rw [rd1, rd2, mj, w1 gg, c9]; exact g6) (by rw [rd1, rd2, mj, eU]; omega) (by
    rw [kUx_eq, rd1, rd2, mj, eU]
    show vt g v = _
    rcases k56 with ⟨rfl, -, e⟩ | ⟨rfl, -, e⟩ <;> (rw [e])) (by rw [kUx_eq]; exact fun u hu q => kpA E.2.2.2.2.2.2.2.2.1 hlk hmk u hu q) (by rw [kUx_eq]; exact L_ne E hmk) (by rw [kUx_eq]; exact fun l q => q) (by rw [kUx_eq, rd1, rd2, mj]; exact hc1) (by rw [kUx_eq]; exact hc2) hf1
  rw [kUx_eq, kUx2] at p
  have h1' : k (i + 1) = some ((q + 4, sh * 12 + gg, b9 + 1 + 64 * j + 64) :: (8, v, 0) :: r) := by
    rw [h1, show b9 + 1 + 64 * (j + 1) = b9 + 1 + 64 * j + 64 by omega]
  refine At_mk E h1' hRm hlk.1 (st_finV p hv4 (m := wl r) ?_ hlk (fun l _ hh => h300 l hh) (fun _ l _ hh => hnew l hh))
  rw [wl_0 (show ((q + 4, sh * 12 + gg, b9 + 1 + 64 * j + 64) : tE).1 = 8 ∨ ((q + 4, sh * 12 + gg, b9 + 1 + 64 * j + 64) : tE).1 = 4 ∨ ((q + 4, sh * 12 + gg, b9 + 1 + 64 * j + 64) : tE).1 = 5 ∨ ((q + 4, sh * 12 + gg, b9 + 1 + 64 * j + 64) : tE).1 = 6 from by show q + 4 = 8 ∨ q + 4 = 4 ∨ q + 4 = 5 ∨ q + 4 = 6; omega), wl_0 (Or.inl rfl)]
  exact Nat.le_refl _
/-- SWITCH -/
theorem s_swi (E : sgE y z F X G rs a b n yp yt k N L Rm (tb g) rl pl me (vt g)) (hy : kYs y z vt vo vc) (h : At y z vt vo vc tb hp a b k N L Rm g f x An fb i tk c top fil) (ho : F 0 i = nI 20) : ∃ tc gg l j : Nat, F 1 i = nI tc ∧ (gg < 12 ∧ ∃ n9 : Nat, F 3 i = nI n9 ∧ n9 ≤ 12 ∧ gg < n9) ∧ tc + gg < 3002 ∧ F 13 (tc + gg) = nI l ∧ l < 1100 ∧ F 5 l = nI j ∧ ((∃ sz : Nat, F 2 i = nI sz ∧ 1 ≤ sz ∧ sz ≤ 16 ∧ sz ≤ top ∧ c (top - sz) = (gg : Int)) ∨ (F 2 i = 0 ∧ 1 ≤ top ∧ ∃ ad : Nat, c (top - 1) = (ad : Int) ∧ ad < top ∧ c ad = (gg : Int))) ∧ At y z vt vo vc tb hp a b k N L Rm g f x An fb j tk c top fil := by
  obtain ⟨s, R, hs, ha, hb, hN, hR, hk⟩ := h
  obtain ⟨sh, n9, tc, r, g1, g2, g3, g4, g5, g6, ⟨g7, g8⟩, g9⟩ := ce_op E.2.1 ha hb hs ho (by decide)
  obtain ⟨t1, t2, t3, t4, t5, t6⟩ := sg_sh E g1 (Or.inr g2)
  obtain ⟨w1, w2, w3, w4, w5⟩ := sg_y E t1
  have y3 := w4 g2
  have yv : y.2.2.1 (4 + sh) = n9 := by rw [w3, g3, cN_nI (by omega)]
  obtain ⟨et, ew⟩ := At_s hk
  obtain ⟨e1, e2⟩ := E.2.2.2.2.2.2.2.1 i 20 _ ha hb hs ho (by decide) hN hR
  have hmt := vl_no (show vl r ≤ 210 by omega)
  have wr : wl r = 0 := wl_vl g8
  rcases g9 with ⟨rfl, gz, gJ⟩ | ⟨q, m, hq, rfl, gz, gJ⟩
  · obtain ⟨gg, c1, c2, c3⟩ := kS_sw0 hy hk (r := r) (sh := sh) (m := 0) (by rw [kUx_eq]; rfl) (by rw [kUx_eq]; rfl) hmt y3 (by rw [yv]; exact g4)
    rw [yv] at c1
    rw [kUx_eq] at c2
    rw [kUx_eq, kUx2] at c3
    have hJ := (gJ gg c1).resolve_left id
    obtain ⟨j, ⟨j1, -⟩, j3, j4, j5, j6⟩ := hJ
    obtain ⟨l, l1, l2, l3⟩ := lab_at E (by omega) j3 (Or.inl j4) j5
    have m9 := e2.2.2.2.2.2.2.2.2.2 rfl j tc n9 gg g5 (by omega) g7 g4 c1 j5.symm j1 j3 j4
    have hl2 := (e1.2.2.2.2.2.2.2.2.2.2.2.2.2.2.2.1 rfl j tc gg _ g5 (by omega) j5.symm j1 j3 j4 j6 (by rw [g7]; exact nI_lt c1 (by omega)) (by omega)).1
    have et : top = fb f + vc g + (khs z r + kes z (0, 4 + sh, 0)) := et
    rw [show kes z (0, 4 + sh, 0) = z.1 (4 + sh) from if_neg (by omega)] at et
    have eA : top - z.1 (4 + sh) = fb f + vc g + khs z r := by omega
    refine ⟨tc, gg, l, j, g5, ⟨by omega, n9, g7, g4, c1⟩, by omega, l2, l1, l3, Or.inl ⟨z.1 (4 + sh), gz.trans t2, t3, t4, by omega, by rw [eA]; exact c2⟩, At_mk E j6 m9.1 hl2.1 (s := (4, sh * 12 + gg, 0) :: r) (R := R) ?_⟩
    refine fin c3 (fun u w l hu _ hh => ?_) (kpA E.2.2.2.2.2.2.2.2.1 hl2 m9.2 · (fun q => q)) (fun v π q => kpL E.2.2.2.2.2.2.2.2.1 m9.2 v π (fun q => q) q)
    rcases hu with hu | hu | ⟨rfl, r9, m8, hu⟩
    · exact hl2.2.1 u l (fun q => q) (Or.inl hu.1) hh
    · rw [wl_0 (Or.inr (Or.inl rfl)), wr] at hu
      omega
    · exfalso
      have n5 := no56 hmt r9 m8
      rcases hu with q | q
      · rcases List.mem_cons.mp q with q | q
        · injection q with q; exact absurd q (by decide)
        · exact n5.1 q
      · rcases List.mem_cons.mp q with q | q
        · injection q with q; exact absurd q (by decide)
        · exact n5.2 q
  · have m64 : m < 64 := (((E.1.2.2.2.2.2.1 i _ hR hs).1 (q, 4 + sh, m) (List.mem_cons_self ..)).2 hq).2.2
    obtain ⟨gg, ad, aa, c1, c2, c3, c4, c5⟩ := kS_sw1 (hd := N.1 i (40 + wl r)) hy hk (r := r) (sh := sh) (q := q) (m := m) (by rw [kUx_eq]; rfl) (by omega) hq (by rw [kUx_eq]; rfl) hmt y3 (by rw [yv]; exact g4) m64 (by rw [kUx_eq]; exact fun l q => q)
    rw [yv] at c1
    rw [kUx_eq] at c2
    rw [kUx_eq, kUx2] at c5
    have hJ := (gJ gg c1).resolve_left id
    obtain ⟨j, ⟨j1, -⟩, j3, j4, j5, j6⟩ := hJ
    obtain ⟨l, l1, l2, l3⟩ := lab_at E (by omega) j3 (Or.inl j4) j5
    have m9 := e2.2.2.2.2.2.2.2.2.2 rfl j tc n9 gg g5 (by omega) g7 g4 c1 j5.symm j1 j3 j4
    obtain ⟨hl2, hmk3⟩ := e1.2.2.2.2.2.2.2.2.2.2.2.2.2.2.2.1 rfl j tc gg _ g5 (by omega) j5.symm j1 j3 j4 j6 (by rw [g7]; exact nI_lt c1 (by omega)) (by omega)
    have et : top = fb f + vc g + (khs z r + kes z (q, 4 + sh, m)) := et
    rw [show kes z (q, 4 + sh, m) = 1 by rcases hq with rfl | rfl <;> rfl] at et
    have eA : top - 1 = fb f + vc g + khs z r := by omega
    refine ⟨tc, gg, l, j, g5, ⟨by omega, n9, g7, g4, c1⟩, by omega, l2, l1, l3, Or.inr ⟨gz, by omega, ad, by rw [eA]; exact c2, c3, c4⟩, At_mk E j6 m9.1 hl2.1 (s := (q + 4, sh * 12 + gg, m) :: r) (R := lUp R 300 (some aa)) ?_⟩
    refine fin c5 (fun u w l hu _ hh => ?_) (kpA E.2.2.2.2.2.2.2.2.1 hl2 m9.2 · (fun q => q)) (fun v π q => kpL E.2.2.2.2.2.2.2.2.1 m9.2 v π (fun q => q) q)
    rcases hu with hu | hu | ⟨rfl, r9, m8, hu⟩
    · rw [lUp_ne (by omega)] at hh
      exact hl2.2.1 u l (fun q => q) (Or.inl hu.1) hh
    · rw [wl_0 (show ((q + 4, sh * 12 + gg, m) : tE).1 = 8 ∨ ((q + 4, sh * 12 + gg, m) : tE).1 = 4 ∨ ((q + 4, sh * 12 + gg, m) : tE).1 = 5 ∨ ((q + 4, sh * 12 + gg, m) : tE).1 = 6 from by show q + 4 = 8 ∨ q + 4 = 4 ∨ q + 4 = 5 ∨ q + 4 = 6; omega), wr] at hu
      omega
    · rw [lUp_eq] at hh
      exact hmk3 q sh m r hq rfl rfl l hh
end
