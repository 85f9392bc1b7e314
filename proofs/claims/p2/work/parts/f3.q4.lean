/-- a row's parts lie one behind the other -/
theorem yz_off {F X : tF} {yp yt sh g : Nat} (hh : tbO F X yp yt) (hsh : sh < yp) (hg : g < cN (X 0 sh)) : ∀ j : Nat, j < cN (X 1 (sh * 12 + g)) → cN (X 3 ((sh * 12 + g) * 12 + j)) = (if F 20 (4 + sh) = 3 then 1 else 0) + psum (zF F X yt) (fun i => cN (X 2 ((sh * 12 + g) * 12 + i))) j := by
  obtain ⟨hty, hsq, hsz, hms⟩ := hh
  obtain ⟨z, z1, z2, z3⟩ := hsz sh hsh
  have h34 : 34 ≤ yt := hty.1
  have hyp : yp ≤ 30 := hty.2.2.1
  have hzz : (zF F X yt).1 (4 + sh) = z := by
    show (if 4 + sh < yt then max 1 (min 16 (cN (F 22 (4 + sh)))) else 1) = z
    rw [if_pos (by omega), z1, cN_nI (by omega)]; omega
  obtain ⟨mo, m1, m2, m3⟩ := (hms sh hsh).resolve_left (fun e => by
    rw [z1] at e
    have : z = 0 := (nI_eq (a := z) (b := 0) (by omega) (by decide)).mp e
    omega)
  obtain rfl : mo = z := (nI_eq (a := mo) (b := z) (by omega) (by omega)).mp (m2.symm.trans z1)
  obtain ⟨n, n1, n2, n3, n4, n5⟩ := hsq sh hsh
  have hcn : cN (X 0 sh) = n := by rw [n1, cN_nI (by omega)]
  rw [hcn] at hg
  obtain ⟨pm, p1, p2, p3⟩ := n5 g hg
  have hpm : cN (X 1 (sh * 12 + g)) = pm := by rw [p1, cN_nI (by omega)]
  rw [hpm]
  have hhd : (if F 20 (4 + sh) = 3 then 1 else 0) ≤ 17 := by split <;> omega
  obtain ⟨q1, q2⟩ := m3 g (show g < pcR (X 0) sh from by show g < cN (X 0 sh); rw [hcn]; exact hg)
  rw [show pcR (X 1) (sh * 12 + g) = pm from hpm] at q1 q2
  have key : ∀ j : Nat, j < pm → cN (X 2 ((sh * 12 + g) * 12 + j)) < yt ∧ cN (X 3 ((sh * 12 + g) * 12 + j)) = lyP (if F 20 (4 + sh) = 3 then 1 else 0) (sh * 12 + g) (F 22) (X 2) j ∧ lyP (if F 20 (4 + sh) = 3 then 1 else 0) (sh * 12 + g) (F 22) (X 2) j + (zF F X yt).1 (cN (X 2 ((sh * 12 + g) * 12 + j))) = lyP (if F 20 (4 + sh) = 3 then 1 else 0) (sh * 12 + g) (F 22) (X 2) (j + 1) := fun j hj => by
    obtain ⟨u, u1, u2, u3⟩ := p3 j hj
    obtain ⟨w1, w2⟩ := q2 j hj
    have hu : cN (X 2 ((sh * 12 + g) * 12 + j)) = u := by rw [u1, cN_nI (by have := hty.2.1; omega)]
    have hle : lyP (if F 20 (4 + sh) = 3 then 1 else 0) (sh * 12 + g) (F 22) (X 2) (j + 1) ≤ 16 := by
      have := lyP_m (r := sh * 12 + g) (fs := F 22) (fpt := X 2) hhd (k := j + 1) (pm - (j + 1))
      rw [show j + 1 + (pm - (j + 1)) = pm by omega] at this
      omega
    have hl0 : lyP (if F 20 (4 + sh) = 3 then 1 else 0) (sh * 12 + g) (F 22) (X 2) j ≤ 17 := (lyP_1 hhd j).1
    refine ⟨by omega, by rw [w1, cN_nI (by omega)], ?_⟩
    have hs16 := lyP_S hle
    rw [lyP_S hle]
    have e1 : szP (F 22) (X 2) ((sh * 12 + g) * 12 + j) = cN (F 22 (cN (X 2 ((sh * 12 + g) * 12 + j)))) := rfl
    have e2 : (zF F X yt).1 (cN (X 2 ((sh * 12 + g) * 12 + j))) = szP (F 22) (X 2) ((sh * 12 + g) * 12 + j) := by
      rw [e1]
      rw [e1] at w2 hs16
      show (if cN (X 2 ((sh * 12 + g) * 12 + j)) < yt then max 1 (min 16 (cN (F 22 (cN (X 2 ((sh * 12 + g) * 12 + j)))))) else 1) = _
      rw [if_pos (by omega)]; omega
    rw [e2]
  have ind : ∀ j : Nat, j ≤ pm → lyP (if F 20 (4 + sh) = 3 then 1 else 0) (sh * 12 + g) (F 22) (X 2) j = (if F 20 (4 + sh) = 3 then 1 else 0) + psum (zF F X yt) (fun i => cN (X 2 ((sh * 12 + g) * 12 + i))) j := by
    intro j
    induction j with
    | zero => intro _; rfl
    | succ j ih =>
      intro hj
      obtain ⟨-, -, k3⟩ := key j (by omega)
      rw [← k3, ih (by omega)]
      show _ = (if F 20 (4 + sh) = 3 then 1 else 0) + (psum (zF F X yt) (fun i => cN (X 2 ((sh * 12 + g) * 12 + i))) j + (zF F X yt).1 (cN (X 2 ((sh * 12 + g) * 12 + j))))
      omega
  intro j hj
  obtain ⟨-, k2, -⟩ := key j hj
  rw [k2, ind j (by omega)]
section
variable {y : qY} {z : qZ} {vt vo : Nat → Nat → Nat} {vc : Nat → Nat} {tb : Nat → lTb} {hp : Nat} {tk tk2 : Nat → Prop} {c c2 : Nat → Int} {f g i j : Nat} {x : Nat → kFm} {An : Nat → lLc → Nat → Prop} {fb : Nat → Nat} {top top2 : Nat} {fil fil2 : Nat → Nat → Nat → Prop} {N : lK} {L : Nat → Nat → lLc → Prop} {Rm : Nat → Prop} {F X : tF} {G : Nat → Nat → Nat} {rs a b n yp yt : Nat} {k : Nat → Option (List tE)} {rl : Nat → Int32} {pl : Nat → Nat → Int32} {me : Int32} {s s2 : List tE} {R R2 : Nat → Option lLc}
theorem tNf_3 : tNf F 3 = (0, 1, 0) := if_pos rfl
theorem tNf_u {T : Nat} (h3 : T ≠ 3) (h5 : F 20 T ≠ 5) (h6 : F 20 T ≠ 6) : tNf F T = (0, T, 0) := by
  unfold tNf
  rw [if_neg h3, if_neg h5, if_neg h6]
/-- the value on top is told by its type -/
theorem st_rt (E : sgE y z F X G rs a b n yp yt k N L Rm (tb g) rl pl me (vt g)) {T : Nat} {r : List tE} (h5 : F 20 T ≠ 5) (h6 : F 20 T ≠ 6) (h : kS y z vt vo vc tb hp tk c f (kUx x f (Fr N L g i (tNf F T :: r) R An)) fb top fil) : kS y z vt vo vc tb hp tk c f (kUx x f (Fr N L g i ((0, T, 0) :: r) R An)) fb top fil := by
  by_cases h3 : T = 3
  · subst h3
    obtain ⟨y0, y1, y2, y3, z1, z2, z3⟩ := sg_p E
    have q := kS_rtl (y := y) (z := z) (e := fun _ => (0, 1, 0)) (e2 := fun _ => (0, 3, 0)) y1 y3 (by rw [z1, z3]) 1 (x := kUx x f (Fr N L g i (tNf F 3 :: r) R An)) (P := []) (S := r) (fun _ _ => Or.inr ⟨rfl, rfl⟩) (by rw [kUx_eq, tNf_3]; rfl) h
    rw [kUx_eq, kUx2] at q
    exact q
  · rw [tNf_u h3 h5 h6] at h
    exact h
/-- the type of a value that is no reference -/
theorem gd_0 (E : sgE y z F X G rs a b n yp yt k N L Rm (tb g) rl pl me (vt g)) (hR : Rm i) {T : Nat} {r : List tE} (hs : k i = some (tNf F T :: r)) (h0 : T ≠ 0) (h5 : F 20 T ≠ 5) (h6 : F 20 T ≠ 6) : tyN yp (F 20) T ∧ T < yt := by
  have h34 : 34 ≤ yt := E.1.1.1.1
  by_cases h3 : T = 3
  · subst h3
    exact ⟨Or.inl (Or.inr (Or.inr rfl)), by omega⟩
  · have q := ((E.1.2.2.2.2.2.1 i _ hR hs).1 (tNf F T) (List.mem_cons_self ..)).1
    rw [tNf_u h3 h5 h6] at q
    exact (q rfl).resolve_left h0
/-- BOX -/
theorem s_box (E : sgE y z F X G rs a b n yp yt k N L Rm (tb g) rl pl me (vt g)) (hy : kYs y z vt vo vc) (h : At y z vt vo vc tb hp a b k N L Rm g f x An fb i tk c top fil) (ho : F 0 i = nI 8) : ∃ T m : Nat, F 1 i = nI T ∧ T < 3040 ∧ F 22 T = nI m ∧ 1 ≤ m ∧ m ≤ 16 ∧ (m ≤ top ∧ hp ≤ top - m) ∧ ∀ (tk2 : Nat → Prop) (c2 : Nat → Int) (b9 : Nat), b9 + m ≤ hp → (∀ k : Nat, b9 ≤ k → k < b9 + m → tk2 k ∧ ¬ tk k) → (∀ k : Nat, tk k → tk2 k) → (∀ o : Nat, o < m → c2 (b9 + o) = c (top - m + o)) → c2 (top - m) = (b9 : Int) → (∀ k : Nat, k ≠ top - m → ¬ (b9 ≤ k ∧ k < b9 + m) → c2 k = c k) → At y z vt vo vc tb hp a b k N L Rm g f x An fb (i + 1) tk2 c2 (top - m + 1) fil := by
  obtain ⟨s, R, hs, ha, hb, hN, hR, hk⟩ := h
  obtain ⟨T, U, r, g1, g2, g3, g4, g5, g6, g7, g8, rfl, h1⟩ := ce_op E.2.1 ha hb hs ho (by decide)
  obtain ⟨t1, t2⟩ := gd_0 E hR hs g2 g7 g8
  have hU := E.1.2.2.2.2.1 U g4 (Or.inl g5)
  have hk2 := st_rt E g7 g8 hk
  obtain ⟨et, ew⟩ := At_s hk2
  have sz := sg_sz E (u := T) ⟨Or.inl t1, t2⟩
  rw [ymF_n E.1.1 t1] at sz
  have h30 : yt ≤ 3040 := E.1.1.1.2.1
  have yU : y.1 U = 4 := by rw [E.1.2.1]; exact yF_4 hU.1 E.1.1.1.2.2.1 hU.2 h30 g5
  have yU2 : y.2.1 U = T := by
    rw [E.1.2.1]
    show (if 10000 ≤ U then (U - 10000) / 2 else cN (F 21 U)) = T
    rw [if_neg (by omega), g6, cN_nI (by omega)]
  have zU : z.1 U = 1 := by
    have := E.1.2.1; have e2 := E.1.2.2.1
    rw [e2]
    exact zF_1 (yp := yp) E.1.1 (Or.inl (by rw [← this]; exact yU))
  have et : top = fb f + vc g + (khs z r + kes z (0, T, 0)) := et
  rw [show kes z (0, T, 0) = z.1 T from if_neg g2] at et
  rw [wl_n nm0] at ew
  have hpf : hp ≤ fb f := by
    obtain ⟨rt, ra, V, hJ, hL⟩ := hk2
    exact (kTopF hL).1
  refine ⟨T, z.1 T, g1, g3, sz.1, sz.2.1, sz.2.2, ⟨by omega, by omega⟩, fun tk2 c2 b9 p1 p2 p3 p4 p5 p6 => ?_⟩
  have eA : top - z.1 T = fb f + vc g + khs z r := by omega
  rw [eA] at p4 p5 p6 ⊢
  obtain ⟨e1, e2⟩ := E.2.2.2.2.2.2.2.1 i 8 _ ha hb hs ho (by decide) hN hR
  have hlk := e1.1 (by omega)
  have hmk := e2.2.1 (by omega)
  have hRm := e2.1 (by omega)
  have hj := E.2.2.2.2.2.2.2.2.2.2.2.1.2 (i + 1) hRm
  have hv := E.2.2.1 (i + 1) _ hj.1 hj.2 h1
  have q := kS_box (tk2 := tk2) (c2 := c2) (b := b9) hy hk2 (T := T) (U := U) (m := 0) (S := r) (by rw [kUx_eq]; rfl) (by rw [kUx_eq]; rfl) (by omega) g2 (by omega) yU yU2 zU p1 p2 p3 (by rw [kUx_eq]; exact p4) (by rw [kUx_eq]; exact p5) (by rw [kUx_eq]; exact p6)
  rw [kUx_eq, kUx2] at q
  exact At_mk E h1 hRm hlk.1 (st_fin0 q rfl nm0 hv E.2.2.2.2.2.2.2.2.1 (lkp_le hlk (by rw [wl_t]; omega)) hmk)
/-- NEW -/
theorem s_new (E : sgE y z F X G rs a b n yp yt k N L Rm (tb g) rl pl me (vt g)) (hy : kYs y z vt vo vc) (h : At y z vt vo vc tb hp a b k N L Rm g f x An fb i tk c top fil) (ho : F 0 i = nI 9) : ∃ m : Nat, F 1 i = nI m ∧ m ≤ 16 ∧ At y z vt vo vc tb hp a b k N L Rm g f x An fb (i + 1) tk c (top + m) fil := by
  obtain ⟨s, R, hs, ha, hb, hN, hR, hk⟩ := h
  obtain ⟨sh, n9, g1, g2, g3, g4, g5, h1⟩ := ce_op E.2.1 ha hb hs ho (by decide)
  obtain ⟨t1, t2, t3, t4, t5, t6⟩ := sg_sh E g1 (Or.inl g2)
  obtain ⟨et, ew⟩ := At_s hk
  obtain ⟨e1, e2⟩ := E.2.2.2.2.2.2.2.1 i 9 _ ha hb hs ho (by decide) hN hR
  have hlk := e1.1 (by omega)
  have hmk := e2.2.1 (by omega)
  have hRm := e2.1 (by omega)
  have hj := E.2.2.2.2.2.2.2.2.2.2.2.1.2 (i + 1) hRm
  have hv := E.2.2.1 (i + 1) _ hj.1 hj.2 h1
  refine ⟨z.1 (4 + sh), by rw [g5]; exact t2, t4, ?_⟩
  have yt : y.1 (4 + sh) = if n9 = 0 then 0 else 2 := by
    rw [E.1.2.1]
    show (if 10000 ≤ 4 + sh ∧ 4 + sh < 30000 then 5 + (4 + sh) % 2 else if 4 ≤ 4 + sh ∧ 4 + sh < 4 + yp then (if F 20 (4 + sh) = 3 then 3 else if cN (X 1 ((4 + sh - 4) * 12)) = 0 then 0 else 2) else if 34 ≤ 4 + sh ∧ 4 + sh < yt ∧ F 20 (4 + sh) = 4 then 4 else 0) = _
    rw [if_neg (by omega), if_pos (by omega), if_neg (by rw [g2]; decide), show 4 + sh - 4 = sh by omega, g3, cN_nI (by omega)]
  by_cases c0 : n9 = 0
  · subst c0
    have ep : pE 0 sh 0 = (0, 4 + sh, 0) := rfl
    rw [ep] at h1 hv
    have hw : wl s < 211 := by
      have := wl_vl_le (r := (0, 4 + sh, 0) :: s)
      rw [wl_n nm0] at this
      omega
    have q := kS_push0 (c2 := c) hy hk (by rw [kUx_eq]; rfl) (by rw [kUx_eq]; exact hw) (e := (0, 4 + sh, 0)) (t := 4 + sh) (Or.inl ⟨0, rfl, by omega⟩) (by rw [yt, if_pos rfl]) (fun _ _ => rfl)
    rw [kUx_eq, kUx2, show kes z (0, 4 + sh, 0) = z.1 (4 + sh) from if_neg (by omega)] at q
    exact At_mk E h1 hRm hlk.1 (st_fin0 q rfl nm0 hv E.2.2.2.2.2.2.2.2.1 hlk hmk)
  · have ep : pE n9 sh 0 = (7, 4 + sh, 0) := by
      unfold pE
      rw [if_neg ?_]
      · rfl
      · intro e
        have e1 : ibit (((1 : Int32) <<< (nI n9 &&& 31)) - 1) 0 = true := by
          have := fuI_bit (az := fun _ => nI n9) (u := 0) (m := n9) (c := 0) rfl (by omega) (by omega)
          exact this
        rw [← e, ibit_0] at e1
        exact absurd e1 (by decide)
    rw [ep] at h1 hv
    have hn7 : kNm (7, 4 + sh, 0) := by unfold kNm; simp
    have hw : wl s < 211 := by
      have := wl_vl_le (r := (7, 4 + sh, 0) :: s)
      rw [wl_n hn7] at this
      omega
    have q := kS_push7 hy hk (by rw [kUx_eq]; rfl) (by rw [kUx_eq]; exact hw) (t := 4 + sh) (by rw [yt, if_neg c0])
    rw [kUx_eq, kUx2, show kes z (7, 4 + sh, 0) = z.1 (4 + sh) from rfl] at q
    exact At_mk E h1 hRm hlk.1 (st_fin0 q rfl hn7 hv E.2.2.2.2.2.2.2.2.1 hlk hmk)
end
