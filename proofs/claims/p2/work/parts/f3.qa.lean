section
variable {y : qY} {z : qZ} {vt vo : Nat → Nat → Nat} {vc : Nat → Nat} {tb : Nat → lTb} {hp : Nat} {tk tk2 : Nat → Prop} {c c2 : Nat → Int} {f g i j : Nat} {x : Nat → kFm} {An : Nat → lLc → Nat → Prop} {fb : Nat → Nat} {top top2 : Nat} {fil fil2 : Nat → Nat → Nat → Prop} {N : lK} {L : Nat → Nat → lLc → Prop} {Rm : Nat → Prop} {F X : tF} {G : Nat → Nat → Nat} {rs a b n yp yt : Nat} {k : Nat → Option (List tE)} {rl : Nat → Int32} {pl : Nat → Nat → Int32} {me : Int32} {s s2 : List tE} {R R2 : Nat → Option lLc}
theorem kS_fl (h : kS y z vt vo vc tb hp tk c f x fb top fil) (hf : ∀ j v q : Nat, j ≤ f → fil2 j v q → fil j v q) : kS y z vt vo vc tb hp tk c f x fb top fil2 := by
  obtain ⟨rt, ra, V, hJ, l0, l1, l2, l3, l4, l5, l6, l7, l8, l9⟩ := h
  exact ⟨rt, ra, V, hJ, l0, l1, l2, l3, l4, l5, l6, fun j hj v v4 hv π t g1 g2 g3 g4 => l7 j hj v v4 hv π t g1 g2 g3 (hf j v _ hj g4), l8, l9⟩
/-- ASSIGN -/
theorem s_asg (E : sgE y z F X G rs a b n yp yt k N L Rm (tb g) rl pl me (vt g)) (hy : kYs y z vt vo vc) (htop : top < 2 ^ 31) (h : At y z vt vo vc tb hp a b k N L Rm g f x An fb i tk c top fil) (ho : F 0 i = nI 26) : ∃ (p v T m nd : Nat) (ds os : List Nat) (o : Nat) (pa ro : Int32), F 1 i = nI p ∧ v < n ∧ plF F c top (fb f + vo g v) p v T m nd ds os o pa ro ∧ m ≤ top ∧ ∃ (P : Nat → Nat → Int32 → Prop) (B : Nat → Prop), drC y z c hp top P B ∧ (F 23 T ≠ 0 → tyN yp (F 20) T ∧ T < yt ∧ ∀ pp : Int32, (os = [] → ∀ q : Nat, q < 16 → ibit pp q = true → fil f v (o + q)) → P T (rA c (fb f + vo g v) os o) pp) ∧ ∀ (tk2 : Nat → Prop) (c2 : Nat → Int) (fil2 : Nat → Nat → Nat → Prop), (∀ k : Nat, tk k → ¬ B k → tk2 k) → (∀ q : Nat, q < m → c2 (rA c (fb f + vo g v) os o + q) = c (top - m + q)) → (∀ k : Nat, ¬ (rA c (fb f + vo g v) os o ≤ k ∧ k < rA c (fb f + vo g v) os o + m) → c2 k = c k) → (∀ j w : Nat, (j, w) ≠ (f, v) → fil2 j w = fil j w) → (∀ q : Nat, fil2 f v q → fil f v q ∨ (os = [] ∧ q < 16 ∧ ibit (F 12 p) q = true)) → At y z vt vo vc tb hp a b k N L Rm g f x An fb (i + 1) tk2 c2 (top - m) fil2 := by
  obtain ⟨s, R, hs, ha, hb, hN, hR, hk⟩ := h
  obtain ⟨p, v, nd, T, pa, ro, mu, r, g1, hpl, gmu, rfl, h1⟩ := ce_op E.2.1 ha hb hs ho (by decide)
  have hv4 : v < 40 := hpl.2.1
  have hvS0 := E.1.2.2.2.2.2.2 i 26 p v _ hR hs ho (Or.inr (Or.inr (Or.inr rfl))) g1 hpl.1.1 hpl.2.2.2.2.1 hv4
  have n0 : ¬ ((tNf F T).1 = 8 ∨ (tNf F T).1 = 4 ∨ (tNf F T).1 = 5 ∨ (tNf F T).1 = 6) := nm_t
  have hvS : (8, v, 0) ∈ r := by
    rcases List.mem_cons.mp hvS0 with q | q
    · exact absurd (Or.inl (by rw [← q])) n0
    · exact q
  obtain ⟨T0, ds, os, o, hvn, q1, q2, q3, q4, q5, q6, q7⟩ := sg_pl E hpl
  obtain ⟨e1, e2⟩ := E.2.2.2.2.2.2.2.1 i 26 _ ha hb hs ho (by decide) hN hR
  obtain ⟨rrf, rnf⟩ := e1.2.2.2.2.2.2.2.2.2.1 rfl p v g1 hpl.1.1 hpl.2.2.2.2.1 hv4
  obtain ⟨mst, mno⟩ := e2.2.2.2.2.2.2.1 rfl p v g1 hpl.1.1 hpl.2.2.2.2.1 hvn
  rw [wl_t, Nat.add_sub_cancel] at rrf rnf
  have hRm := e2.1 (by omega)
  have hv := E.2.2.1 i _ ha hb hs
  have hno := no56 (vl_no (vl_1 hv nm_t))
  have h30 : yt ≤ 3040 := E.1.1.1.2.1
  have h16 := sg_16 E
  have l15 := pW_15 q5 hpl.2.2.1
  have e9p : F 9 p = ro := hpl.2.2.2.2.2.2.2.1
  have lenle : os.length ≤ 4 := by have := q5.2.2.2.2.1; have := hpl.2.2.1; omega
  have star : (0 : Int32) < F 9 p &&& 15 ↔ os ≠ [] := by
    rw [e9p, l15]
    constructor
    · intro q e
      rw [e] at q
      exact absurd q (by decide)
    · intro q
      have : 0 < os.length := by
        cases os with
        | nil => exact absurd rfl q
        | cons _ _ => simp
      exact nI_lt (a := 0) this (by omega)
  have lay := hy.2.2.1.1 g v hv4 q4
  rcases q7 with ⟨w1, w2, w3, w4, w5, w6⟩ | ⟨rfl, rfl, rfl, rfl, w5, w6⟩
  · have nr := tyN_nr E.1.1 w2
    have T00 : T ≠ 0 := by rcases w2 with z9 | z9 | z9 <;> omega
    have hrf : ¬ rfB (F 20) (F 10 p) := fun q => ((rf_eq hpl.2.2.2.2.2.2.2.2.1 hpl.2.2.2.1).mp q).elim nr.1 nr.2
    obtain ⟨N1, H1, U1, U2, ck⟩ := rnf hrf
    have hk2 := st_rt E nr.1 nr.2 hk
    obtain ⟨et, ew⟩ := At_s hk2
    have et : top = fb f + vc g + (khs z r + kes z (0, T, 0)) := et
    rw [show kes z (0, T, 0) = z.1 T from if_neg T00] at et
    have sz := sg_sz E (u := T) ⟨Or.inl w2, w3⟩
    rw [ymF_n E.1.1 w2] at sz
    have eA : top - z.1 T = fb f + vc g + khs z r := by omega
    have hckr : lCk (tb g) (N.1 i) (fun u => (u < 40 ∧ (u < 40 ∧ N.2.1 (i + 1) u ∧ ¬ L (i + 1) u [])) ∨ (40 ≤ u ∧ u < 40 + wl r)) v (ds.map stO) False := by
      rw [← q6]
      intro u l a1 a2 a3 a4 a5
      exact ck u l (a1.imp (fun z => ⟨z.1, z.2.2.1⟩) (fun z => z)) a2 a3 a4 a5
    have finA : ∀ (tk9 : Nat → Prop) (c9 : Nat → Int) (fil9 : Nat → Nat → Nat → Prop), kS y z vt vo vc tb hp tk9 c9 f (kUx x f (g, r, 0, R, N.1 i, (fun u => u < 40 ∧ N.2.1 (i + 1) u ∧ ¬ L (i + 1) u []), L (i + 1), An)) fb (fb f + vc g + khs z r) fil9 → At y z vt vo vc tb hp a b k N L Rm g f x An fb (i + 1) tk9 c9 (top - z.1 T) fil9 := fun tk9 c9 fil9 q => by
      rw [eA]
      refine At_mk E h1 hRm N1 (s := r) (R := R) (fin q (fun u w l hu hr hh => ?_) (fun u q => q) (fun v π q => q))
      rcases hu with hu | hu | ⟨rfl, r9, m9, hu⟩
      · exact H1 u l (Or.inl hu.1) hh
      · exact H1 u l (Or.inr hu) hh
      · exact absurd hu (by rintro (q | q); exact (hno r9 m9).1 q; exact (hno r9 m9).2 q)
    by_cases hos : os = []
    · -- without a star
      have lft : qW y (vt g v) (ds.map stO) T ∧ qM (ds.map stO) ∧ o = qA y z (fun _ => 0) (vt g v) 0 (ds.map stO) ∧ y.1 (vt g v) ≠ 5 ∧ y.1 (vt g v) ≠ 6 := by
        rcases w1 with ⟨n5, n6, a1, a2, a3, a4⟩ | ⟨h56, ρ2, er, a1, a2, a3, a4⟩
        · have hm := rtF_nil a2 (a3.symm.trans hos)
          obtain ⟨f1, f2⟩ := rtF_M (z := z) (o := 0) hm a1
          exact ⟨a1, hm, by rw [a4, f2]; omega, n5, n6⟩
        · rw [hos] at a3; simp at a3
      obtain ⟨a1, hm, eo, n5, n6⟩ := lft
      obtain ⟨mk9, xa, xb, hxa, hxb, hab⟩ := mno (fun q => star.mp q hos)
      have iin := qA_in (c := fun _ => 0) (a := 0) hy.1 a1 (qN_M hm)
      have nrv : ∀ j : Nat, ¬ N.2.1 j v := fun j q => by
        have := E.2.2.2.2.2.2.2.2.2.2.2.2 j v q
        rw [q1, cN_nI (by have := q2.2; omega)] at this
        have := (sg_k E q2).2.2.1.mpr this
        rw [← q3] at this
        exact this.elim n5 n6
      obtain ⟨P, B, p1, p2, p3⟩ := kS_as1 (v := v) (T := T) (ρ := ds.map stO) (al2 := fun u => u < 40 ∧ N.2.1 (i + 1) u ∧ ¬ L (i + 1) u []) (lo2 := L (i + 1)) hy h16 hk2 (S := r) (m := 0) (by rw [kUx_eq]; rfl) (by rw [kUx_eq]; rfl) hno T00 hv4 hvS (by rw [kUx_eq]; exact q4) (by rw [kUx_eq]; exact a1) hm (by
        rw [kUx_eq]
        intro u q
        have huv : u ≠ v := fun e => nrv (i + 1) (by rw [← e]; exact q.2.1)
        exact ⟨q.1, U1 u q.1 (fun _ _ => huv) q.2.1, fun z9 => q.2.2 (kpL E.2.2.2.2.2.2.2.2.1 mk9 u [] huv z9)⟩) (by
        rw [kUx_eq]
        intro w π hn
        by_cases c9 : w = v
        · subst c9
          by_cases c8 : L i w π
          · right
            rcases as_lo hy.1 hm a1 (fun cc hc16 hb9 => (hab cc hc16 hb9).imp id (fun hb8 => by
              rw [w5, pc_bit q5 hpl.2.2.1 w4 (by omega), if_pos hos, Bool.and_eq_true] at hb8
              have z1 := of_decide_eq_true hb8.1
              have z2 := of_decide_eq_true hb8.2
              exact ⟨T, a1, by omega, by omega⟩)) (hxa π c8) with z9 | z9
            · exact absurd (hxb π z9) hn
            · exact ⟨rfl, z9⟩
          · exact Or.inl c8
        · exact Or.inl (fun q => hn (kpL E.2.2.2.2.2.2.2.2.1 mk9 w π c9 q))) (by rw [kUx_eq]; exact hckr)
      rw [kUx_eq] at p2 p3
      have eR : rA c (fb f + vo g v) os o = fb f + vo g v + qA y z (fun _ => 0) (vt g v) 0 (ds.map stO) := by rw [hos, eo]; rfl
      refine ⟨p, v, T, z.1 T, nd, ds, os, o, pa, ro, g1, hvn, ⟨rfl, hpl.1.1, hpl.2.2.2.2.1, hv4, e9p, hpl.2.2.2.2.2.2.2.2.1, hpl.2.2.2.1, sz.1, sz.2.1, sz.2.2, q5, hpl.2.2.1, by rw [hos]; exact trivial, by rw [eR]; omega⟩, by omega, P, B, p1, fun _ => ⟨w2, w3, fun pp hb9 => ?_⟩, fun tk2 c2 fil2 ht hc1 hc2 hf1 hf2 => ?_⟩
      · rw [eR]
        exact p2 pp (fun q hq hb8 => by
          show fil f v (qA y z (fun _ => 0) (vt g v) 0 (ds.map stO) + q)
          rw [← eo]; exact hb9 hos q hq hb8)
      · rw [eR] at hc1 hc2
        rw [eA] at hc1
        have q := p3 tk2 c2 fil2 ht hc1 hc2 hf1 (fun q hq => by
          rcases hf2 q hq with z9 | ⟨-, z8, z9⟩
          · exact Or.inl z9
          · right
            rw [w5, pc_bit q5 hpl.2.2.1 w4 (by omega), if_pos hos, Bool.and_eq_true] at z9
            have z1 := of_decide_eq_true z9.1
            have z2 := of_decide_eq_true z9.2
            show qA y z (fun _ => 0) (vt g v) 0 (ds.map stO) ≤ q ∧ q < qA y z (fun _ => 0) (vt g v) 0 (ds.map stO) + z.1 T
            constructor <;> omega)
        rw [kUx2] at q
        exact finA tk2 c2 fil2 q
    · obtain ⟨mk9, xx, hx, hx0⟩ := mst (star.mpr hos)
      have hU := U2 (star.mpr hos)
      obtain ⟨fu, hal, hpf⟩ := sg_rd E hy hk2 htop hpl (List.mem_cons_of_mem _ hvS) q2 q3 q4 q5 w1 w2 w3 w4 w5 (fun q => hU ((sg_rf E hvn q1 q2 q3).mpr q)) hx hx0
      have hmu : mu ≠ 0 := by
        rcases gmu with z9 | z9
        · exfalso
          have := q5.2.2.2.2.1
          rw [z9] at this
          exact hos (List.eq_nil_of_length_eq_zero (by omega))
        · exact z9
      obtain ⟨P, B, p1, p2, p3⟩ := kS_as2 (v := v) (T := T) (ρ := ds.map stO) (os := os) (o := o) (al2 := fun u => u < 40 ∧ N.2.1 (i + 1) u ∧ ¬ L (i + 1) u []) (lo2 := L (i + 1)) hy h16 hk2 (S := r) (m := 0) (by rw [kUx_eq]; rfl) (by rw [kUx_eq]; rfl) hno T00 hv4 hvS (by rw [kUx_eq]; exact w1) (by rw [kUx_eq]; exact fu) (by
        rw [kUx_eq]
        intro q
        have q : y.1 (vt g v) = 5 ∨ y.1 (vt g v) = 6 := q
        refine ⟨hal q, ?_⟩
        show y.1 (vt g v) = 6
        rw [q3] at q ⊢
        exact (sg_k E q2).2.2.2 (w6 ((sg_k E q2).2.2.1.mp q) hmu)) htop (by
        rw [kUx_eq]
        intro u q
        exact ⟨q.1, U1 u q.1 (fun _ q9 => absurd (star.mpr hos) q9) q.2.1, fun z9 => q.2.2 (kpL E.2.2.2.2.2.2.2.2.1 mk9 u [] (fun q => q) z9)⟩) (by
        rw [kUx_eq]
        exact fun w π q => kpL E.2.2.2.2.2.2.2.2.1 mk9 w π (fun q => q) q) (by rw [kUx_eq]; exact hckr)
      rw [kUx_eq] at p2 p3
      refine ⟨p, v, T, z.1 T, nd, ds, os, o, pa, ro, g1, hvn, hpf, by omega, P, B, p1, fun _ => ⟨w2, w3, fun pp _ => p2 pp⟩, fun tk2 c2 fil2 ht hc1 hc2 hf1 hf2 => ?_⟩
      rw [eA] at hc1
      have q := p3 tk2 c2 ht hc1 hc2
      rw [kUx2] at q
      have q := kS_fl (fil2 := fil2) q (fun j w q9 _ hq => by
        by_cases c9 : (j, w) = (f, v)
        · injection c9 with c8 c9
          subst c8; subst c9
          rcases hf2 q9 hq with z9 | ⟨z9, -⟩
          · exact z9
          · exact absurd z9 hos
        · rw [hf1 j w c9] at hq; exact hq)
      exact finA tk2 c2 fil2 q
  · -- a reference, anew
    have hrf : rfB (F 20) (F 10 p) := (rf_eq hpl.2.2.2.2.2.2.2.2.1 hpl.2.2.2.1).mpr w5
    obtain ⟨hlk, hnew⟩ := rrf hrf
    obtain ⟨mk9, -⟩ := mno (fun q => star.mp q rfl)
    have kk := sg_k E q2
    have zv : z.1 (vt g v) = 1 := sg_z4 E _ (Or.inr (by rw [q3]; exact kk.2.2.1.mpr w5))
    have ref : ∃ kq U : Nat, U < 10000 ∧ tNf F T = (kq, U, 0) ∧ ((kq = 1 ∧ vt g v = 10000 + 2 * U) ∨ (kq = 2 ∧ vt g v = 10001 + 2 * U)) := by
      rcases w5 with h5 | h6
      · obtain ⟨U, u1, u2, u3, u4, u5, u6⟩ := kk.1 h5
        exact ⟨1, U, u2, u6, Or.inl ⟨rfl, by rw [q3]; exact u5⟩⟩
      · obtain ⟨U, u1, u2, u3, u4, u5, u6⟩ := kk.2.1 h6
        exact ⟨2, U, u2, u6, Or.inr ⟨rfl, by rw [q3]; exact u5⟩⟩
    obtain ⟨kq, U, u2, u6, ukt⟩ := ref
    rw [u6] at hk
    obtain ⟨et, ew⟩ := At_s hk
    have et : top = fb f + vc g + (khs z r + kes z (kq, U, 0)) := et
    rw [show kes z (kq, U, 0) = 1 by rcases ukt with ⟨rfl, -⟩ | ⟨rfl, -⟩ <;> rfl] at et
    have sz := sg_sz E q2
    rw [← q3, zv] at sz
    rw [zv] at lay
    have eA : top - 1 = fb f + vc g + khs z r := by omega
    have h34 : 34 ≤ T := (E.1.2.2.2.2.1 T hpl.2.2.2.1 (by rcases w5 with q | q; exact Or.inr (Or.inl q); exact Or.inr (Or.inr q))).1
    have h23 : F 23 T = 0 := by
      have q : F 23 T = if F 20 T = 4 then 1 else 0 := (E.1.1.1.2.2.2.2.2.2.2.1 T h34 q2.2).2.2.1
      rw [q, if_neg (by rcases w5 with z9 | z9 <;> rw [z9] <;> decide)]
    refine ⟨p, v, T, 1, nd, [], [], 0, pa, ro, g1, hvn, ⟨rfl, hpl.1.1, hpl.2.2.2.2.1, hv4, e9p, hpl.2.2.2.2.2.2.2.2.1, hpl.2.2.2.1, sz.1, by decide, by decide, q5, hpl.2.2.1, trivial, by show fb f + vo g v + 0 + 1 ≤ top; omega⟩, by omega, fun _ _ _ => False, fun _ => False, drC_0, fun q => absurd h23 q, fun tk2 c2 fil2 ht hc1 hc2 hf1 hf2 => ?_⟩
    have w8 : wl r ≤ wl r := Nat.le_refl _
    rw [eA] at hc1 ⊢
    obtain ⟨aa, q⟩ := kS_asR (c2 := c2) (fil2 := fil2) (v := v) (al2 := fun u => u < 40 ∧ N.2.1 (i + 1) u ∧ ¬ L (i + 1) u []) (lo2 := L (i + 1)) hy hk (k := kq) (U := U) (m := 0) (S := r) (by rw [kUx_eq]; rfl) (by rw [kUx_eq]; rfl) hno u2 (by rw [kUx_eq]; exact ukt) hv4 hvS (by rw [kUx_eq]; exact fun u hu q => kpA E.2.2.2.2.2.2.2.2.1 hlk mk9 u hu q) (by rw [kUx_eq]; exact L_ne E mk9) (by rw [kUx_eq]; exact hc1 0 (by decide)) (by
      rw [kUx_eq]
      intro k hk9
      have hk9 : k ≠ fb f + vo g v := hk9
      refine hc2 k ?_
      show ¬ (fb f + vo g v + 0 ≤ k ∧ k < fb f + vo g v + 0 + 1)
      omega) hf1
    rw [kUx_eq, kUx2] at q
    refine At_mk E h1 hRm hlk.1 (kS_tk (st_finV q hv4 w8 hlk (fun l hm => ?_) (fun _ l _ hh => hnew l hh)) (fun k hk9 => ht k hk9 (fun q => q)))
    obtain ⟨r9, m9, hm⟩ := hm
    exact absurd hm (by rintro (q | q); exact (hno r9 m9).1 q; exact (hno r9 m9).2 q)
end
