-- f3.qa.lean.txt
section
section
variable {y : qY} {z : qZ} {vt vo : Nat → Nat → Nat} {vc : Nat → Nat} {tb : Nat → lTb} {hp : Nat} {tk tk2 : Nat → Prop} {c c2 : Nat → Int} {f g i j : Nat} {x : Nat → kFm} {An : Nat → lLc → Nat → Prop} {fb : Nat → Nat} {top top2 : Nat} {fil fil2 : Nat → Nat → Nat → Prop} {N : lK} {L : Nat → Nat → lLc → Prop} {Rm : Nat → Prop} {F X : tF} {G : Nat → Nat → Nat} {rs a b n yp yt : Nat} {k : Nat → Option (List tE)} {rl : Nat → Int32} {pl : Nat → Nat → Int32} {me : Int32} {s s2 : List tE} {R R2 : Nat → Option lLc}
theorem kS_fl (h : kS y z vt vo vc tb hp tk c f x fb top fil) (hf : ∀ j v q : Nat, j ≤ f → fil2 j v q → fil j v q) : kS y z vt vo vc tb hp tk c f x fb top fil2 := by
  obtain ⟨rt, ra, V, hJ, l0, l1, l2, l3, l4, l5, l6, l7, l8, l9⟩ := h
  exact ⟨rt, ra, V, hJ, l0, l1, l2, l3, l4, l5, l6, fun j hj v v4 hv π t g1 g2 g3 g4 => l7 j hj v v4 hv π t g1 g2 g3 (hf j v _ hj g4), l8, l9⟩
/-- ASSIGN -/
theorem s_asg (E : sgE y z F X G rs a b n yp yt k N L Rm (tb g) rl pl me (vt g)) (hy : kYs y z vt vo vc) (htop : top < 2 ^ 31) (h : At y z vt vo vc tb hp a b k N L Rm g f x An fb i tk c top fil) (ho : F 0 i = nI 26) : ∃ (p v T m nd : Nat) (ds os : List Nat) (o : Nat) (pa ro : Int32), F 1 i = nI p ∧ v < n ∧ plF F c top (fb f + vo g v) p v T m nd ds os o pa ro ∧ m ≤ top ∧ ∃ (P : Nat → Nat → Int32 → Prop) (B : Nat → Prop), drC y z c hp top P B ∧ (F 23 T ≠ 0 → tyN yp (F 20) T ∧ T < yt ∧ ∀ pp : Int32, (os = [] → ∀ q : Nat, q < 16 → ibit pp q = true → fil f v (o + q)) → P T (rA c (fb f + vo g v) os o) pp) ∧ ∀ (tk2 : Nat → Prop) (c2 : Nat → Int) (fil2 : Nat → Nat → Nat → Prop), (∀ k : Nat, tk k → ¬ B k → tk2 k) → (∀ q : Nat, q < m → c2 (rA c (fb f + vo g v) os o + q) = c (top - m + q)) → (∀ k : Nat, ¬ (rA c (fb f + vo g v) os o ≤ k ∧ k < rA c (fb f + vo g v) os o + m) → c2 k = c k) → (∀ j w : Nat, (j, w) ≠ (f, v) → fil2 j w = fil j w) → (∀ q : Nat, fil2 f v q → fil f v q ∨ (os = [] ∧ q < 16 ∧ ibit (F 12 p) q = true)) → At y z vt vo vc tb hp a b k N L Rm g f x An fb (i + 1) tk2 c2 (top - m) fil2 := by
  obtain ⟨s, R, hs, ha, hb, hN, hR, hk⟩ := h
  obtain ⟨p, v, nd, T, pa, ro, mu, r, g1, hpl, gmu, rfl, h1⟩ := ce_op E.2.1 ha hb hs ho (by decide)
  have hv4 : v < 40 := hpl.2.1
  have hvS0 := E.1.2.2.2.2.2.2 i 26 p v _ hR hs ho (Or.inr (Or.inr (Or.inr rfl))) g1 hpl.1.1 hpl.2.2.2.2.1 hv4
  have n0 : ¬ ((tNf F T).1 = 8 ∨ (tNf F T).1 = 4 ∨ (tNf F T).1 = 5 ∨ (tNf F T).1 = 6) := nm_t
  have hvS : (8, v, 0) ∈ r := by
    rcases List.mem_cons.mp hvS0 with q | q
    · exact absurd (Or.inl (by rw [← q])) n0
    · exact q
  obtain ⟨T0, ds, os, o, hvn, q1, q2, q3, q4, q5, q6, q7⟩ := sg_pl E hpl
  obtain ⟨e1, e2⟩ := E.2.2.2.2.2.2.2.1 i 26 _ ha hb hs ho (by decide) hN hR
  obtain ⟨rrf, rnf⟩ := e1.2.2.2.2.2.2.2.2.2.1 rfl p v g1 hpl.1.1 hpl.2.2.2.2.1 hv4
  obtain ⟨mst, mno⟩ := e2.2.2.2.2.2.2.1 rfl p v g1 hpl.1.1 hpl.2.2.2.2.1 hvn
  rw [wl_t, Nat.add_sub_cancel] at rrf rnf
  have hRm := e2.1 (by omega)
  have hv := E.2.2.1 i _ ha hb hs
  have hno := no56 (vl_no (vl_1 hv nm_t))
  have h30 : yt ≤ 3040 := E.1.1.1.2.1
  have h16 := sg_16 E
  have l15 := pW_15 q5 hpl.2.2.1
  have e9p : F 9 p = ro := hpl.2.2.2.2.2.2.2.1
  have lenle : os.length ≤ 4 := by have := q5.2.2.2.2.1; have := hpl.2.2.1; omega
  have star : (0 : Int32) < F 9 p &&& 15 ↔ os ≠ [] := by
    rw [e9p, l15]
    constructor
    · intro q e
      rw [e] at q
      exact absurd q (by decide)
    · intro q
      have : 0 < os.length := by
        cases os with
        | nil => exact absurd rfl q
        | cons _ _ => simp
      exact nI_lt (a := 0) this (by omega)
  have lay := hy.2.2.1.1 g v hv4 q4
  rcases q7 with ⟨w1, w2, w3, w4, w5, w6⟩ | ⟨rfl, rfl, rfl, rfl, w5, w6⟩
  · have nr := tyN_nr E.1.1 w2
    have T00 : T ≠ 0 := by rcases w2 with z9 | z9 | z9 <;> omega
    have hrf : ¬ rfB (F 20) (F 10 p) := fun q => ((rf_eq hpl.2.2.2.2.2.2.2.2.1 hpl.2.2.2.1).mp q).elim nr.1 nr.2
    obtain ⟨N1, H1, U1, U2, ck⟩ := rnf hrf
    have hk2 := st_rt E nr.1 nr.2 hk
    obtain ⟨et, ew⟩ := At_s hk2
    have et : top = fb f + vc g + (khs z r + kes z (0, T, 0)) := et
    rw [show kes z (0, T, 0) = z.1 T from if_neg T00] at et
    have sz := sg_sz E (u := T) ⟨Or.inl w2, w3⟩
    rw [ymF_n E.1.1 w2] at sz
    have eA : top - z.1 T = fb f + vc g + khs z r := by omega
    have hckr : lCk (tb g) (N.1 i) (fun u => (u < 40 ∧ (u < 40 ∧ N.2.1 (i + 1) u ∧ ¬ L (i + 1) u [])) ∨ (40 ≤ u ∧ u < 40 + wl r)) v (ds.map stO) False := by
      rw [← q6]
      intro u l a1 a2 a3 a4 a5
      exact ck u l (a1.imp (fun z => ⟨z.1, z.2.2.1⟩) (fun z => z)) a2 a3 a4 a5
    have finA : ∀ (tk9 : Nat → Prop) (c9 : Nat → Int) (fil9 : Nat → Nat → Nat → Prop), kS y z vt vo vc tb hp tk9 c9 f (kUx x f (g, r, 0, R, N.1 i, (fun u => u < 40 ∧ N.2.1 (i + 1) u ∧ ¬ L (i + 1) u []), L (i + 1), An)) fb (fb f + vc g + khs z r) fil9 → At y z vt vo vc tb hp a b k N L Rm g f x An fb (i + 1) tk9 c9 (top - z.1 T) fil9 := fun tk9 c9 fil9 q => by
      rw [eA]
      refine At_mk E h1 hRm N1 (s := r) (R := R) (fin q (fun u w l hu hr hh => ?_) (fun u q => q) (fun v π q => q))
      rcases hu with hu | hu | ⟨rfl, r9, m9, hu⟩
      · exact H1 u l (Or.inl hu.1) hh
      · exact H1 u l (Or.inr hu) hh
      · exact absurd hu (by rintro (q | q); exact (hno r9 m9).1 q; exact (hno r9 m9).2 q)
    by_cases hos : os = []
    · -- without a star
      have lft : qW y (vt g v) (ds.map stO) T ∧ qM (ds.map stO) ∧ o = qA y z (fun _ => 0) (vt g v) 0 (ds.map stO) ∧ y.1 (vt g v) ≠ 5 ∧ y.1 (vt g v) ≠ 6 := by
        rcases w1 with ⟨n5, n6, a1, a2, a3, a4⟩ | ⟨h56, ρ2, er, a1, a2, a3, a4⟩
        · have hm := rtF_nil a2 (a3.symm.trans hos)
          obtain ⟨f1, f2⟩ := rtF_M (z := z) (o := 0) hm a1
          exact ⟨a1, hm, by rw [a4, f2]; omega, n5, n6⟩
        · rw [hos] at a3; simp at a3
      obtain ⟨a1, hm, eo, n5, n6⟩ := lft
      obtain ⟨mk9, xa, xb, hxa, hxb, hab⟩ := mno (fun q => star.mp q hos)
      have iin := qA_in (c := fun _ => 0) (a := 0) hy.1 a1 (qN_M hm)
      have nrv : ∀ j : Nat, ¬ N.2.1 j v := fun j q => by
        have := E.2.2.2.2.2.2.2.2.2.2.2.2 j v q
        rw [q1, cN_nI (by have := q2.2; omega)] at this
        have := (sg_k E q2).2.2.1.mpr this
        rw [← q3] at this
        exact this.elim n5 n6
      obtain ⟨P, B, p1, p2, p3⟩ := kS_as1 (v := v) (T := T) (ρ := ds.map stO) (al2 := fun u => u < 40 ∧ N.2.1 (i + 1) u ∧ ¬ L (i + 1) u []) (lo2 := L (i + 1)) hy h16 hk2 (S := r) (m := 0) (by rw [kUx_eq]; rfl) (by rw [kUx_eq]; rfl) hno T00 hv4 hvS (by rw [kUx_eq]; exact q4) (by rw [kUx_eq]; exact a1) hm (by
        rw [kUx_eq]
        intro u q
        have huv : u ≠ v := fun e => nrv (i + 1) (by rw [← e]; exact q.2.1)
        exact ⟨q.1, U1 u q.1 (fun _ _ => huv) q.2.1, fun z9 => q.2.2 (kpL E.2.2.2.2.2.2.2.2.1 mk9 u [] huv z9)⟩) (by
        rw [kUx_eq]
        intro w π hn
        by_cases c9 : w = v
        · subst c9
          by_cases c8 : L i w π
          · right
            rcases as_lo hy.1 hm a1 (fun cc hc16 hb9 => (hab cc hc16 hb9).imp id (fun hb8 => by
              rw [w5, pc_bit q5 hpl.2.2.1 w4 (by omega), if_pos hos, Bool.and_eq_true] at hb8
              have z1 := of_decide_eq_true hb8.1
              have z2 := of_decide_eq_true hb8.2
              exact ⟨T, a1, by omega, by omega⟩)) (hxa π c8) with z9 | z9
            · exact absurd (hxb π z9) hn
            · exact ⟨rfl, z9⟩
          · exact Or.inl c8
        · exact Or.inl (fun q => hn (kpL E.2.2.2.2.2.2.2.2.1 mk9 w π c9 q))) (by rw [kUx_eq]; exact hckr)
      rw [kUx_eq] at p2 p3
      have eR : rA c (fb f + vo g v) os o = fb f + vo g v + qA y z (fun _ => 0) (vt g v) 0 (ds.map stO) := by rw [hos, eo]; rfl
      refine ⟨p, v, T, z.1 T, nd, ds, os, o, pa, ro, g1, hvn, ⟨rfl, hpl.1.1, hpl.2.2.2.2.1, hv4, e9p, hpl.2.2.2.2.2.2.2.2.1, hpl.2.2.2.1, sz.1, sz.2.1, sz.2.2, q5, hpl.2.2.1, by rw [hos]; exact trivial, by rw [eR]; omega⟩, by omega, P, B, p1, fun _ => ⟨w2, w3, fun pp hb9 => ?_⟩, fun tk2 c2 fil2 ht hc1 hc2 hf1 hf2 => ?_⟩
      · rw [eR]
        exact p2 pp (fun q hq hb8 => by
          show fil f v (qA y z (fun _ => 0) (vt g v) 0 (ds.map stO) + q)
          rw [← eo]; exact hb9 hos q hq hb8)
      · rw [eR] at hc1 hc2
        rw [eA] at hc1
        have q := p3 tk2 c2 fil2 ht hc1 hc2 hf1 (fun q hq => by
          rcases hf2 q hq with z9 | ⟨-, z8, z9⟩
          · exact Or.inl z9
          · right
            rw [w5, pc_bit q5 hpl.2.2.1 w4 (by omega), if_pos hos, Bool.and_eq_true] at z9
            have z1 := of_decide_eq_true z9.1
            have z2 := of_decide_eq_true z9.2
            show qA y z (fun _ => 0) (vt g v) 0 (ds.map stO) ≤ q ∧ q < qA y z (fun _ => 0) (vt g v) 0 (ds.map stO) + z.1 T
            constructor <;> omega)
        rw [kUx2] at q
        exact finA tk2 c2 fil2 q
    · obtain ⟨mk9, xx, hx, hx0⟩ := mst (star.mpr hos)
      have hU := U2 (star.mpr hos)
      obtain ⟨fu, hal, hpf⟩ := sg_rd E hy hk2 htop hpl (List.mem_cons_of_mem _ hvS) q2 q3 q4 q5 w1 w2 w3 w4 w5 (fun q => hU ((sg_rf E hvn q1 q2 q3).mpr q)) hx hx0
      have hmu : mu ≠ 0 := by
        rcases gmu with z9 | z9
        · exfalso
          have := q5.2.2.2.2.1
          rw [z9] at this
          exact hos (List.eq_nil_of_length_eq_zero (by omega))
        · exact z9
      obtain ⟨P, B, p1, p2, p3⟩ := kS_as2 (v := v) (T := T) (ρ := ds.map stO) (os := os) (o := o) (al2 := fun u => u < 40 ∧ N.2.1 (i + 1) u ∧ ¬ L (i + 1) u []) (lo2 := L (i + 1)) hy h16 hk2 (S := r) (m := 0) (by rw [kUx_eq]; rfl) (by rw [kUx_eq]; rfl) hno T00 hv4 hvS (by rw [kUx_eq]; exact w1) (by rw [kUx_eq]; exact fu) (by
        rw [kUx_eq]
        intro q
        have q : y.1 (vt g v) = 5 ∨ y.1 (vt g v) = 6 := q
        refine ⟨hal q, ?_⟩
        show y.1 (vt g v) = 6
        rw [q3] at q ⊢
        exact (sg_k E q2).2.2.2 (w6 ((sg_k E q2).2.2.1.mp q) hmu)) htop (by
        rw [kUx_eq]
        intro u q
        exact ⟨q.1, U1 u q.1 (fun _ q9 => absurd (star.mpr hos) q9) q.2.1, fun z9 => q.2.2 (kpL E.2.2.2.2.2.2.2.2.1 mk9 u [] (fun q => q) z9)⟩) (by
        rw [kUx_eq]
        exact fun w π q => kpL E.2.2.2.2.2.2.2.2.1 mk9 w π (fun q => q) q) (by rw [kUx_eq]; exact hckr)
      rw [kUx_eq] at p2 p3
      refine ⟨p, v, T, z.1 T, nd, ds, os, o, pa, ro, g1, hvn, hpf, by omega, P, B, p1, fun _ => ⟨w2, w3, fun pp _ => p2 pp⟩, fun tk2 c2 fil2 ht hc1 hc2 hf1 hf2 => ?_⟩
      rw [eA] at hc1
      have q := p3 tk2 c2 ht hc1 hc2
      rw [kUx2] at q
      have q := kS_fl (fil2 := fil2) q (fun j w q9 _ hq => by
        by_cases c9 : (j, w) = (f, v)
        · injection c9 with c8 c9
          subst c8; subst c9
          rcases hf2 q9 hq with z9 | ⟨z9, -⟩
          · exact z9
          · exact absurd z9 hos
        · rw [hf1 j w c9] at hq; exact hq)
      exact finA tk2 c2 fil2 q
  · -- a reference, anew
    have hrf : rfB (F 20) (F 10 p) := (rf_eq hpl.2.2.2.2.2.2.2.2.1 hpl.2.2.2.1).mpr w5
    obtain ⟨hlk, hnew⟩ := rrf hrf
    obtain ⟨mk9, -⟩ := mno (fun q => star.mp q rfl)
    have kk := sg_k E q2
    have zv : z.1 (vt g v) = 1 := sg_z4 E _ (Or.inr (by rw [q3]; exact kk.2.2.1.mpr w5))
    have ref : ∃ kq U : Nat, U < 10000 ∧ tNf F T = (kq, U, 0) ∧ ((kq = 1 ∧ vt g v = 10000 + 2 * U) ∨ (kq = 2 ∧ vt g v = 10001 + 2 * U)) := by
      rcases w5 with h5 | h6
      · obtain ⟨U, u1, u2, u3, u4, u5, u6⟩ := kk.1 h5
        exact ⟨1, U, u2, u6, Or.inl ⟨rfl, by rw [q3]; exact u5⟩⟩
      · obtain ⟨U, u1, u2, u3, u4, u5, u6⟩ := kk.2.1 h6
        exact ⟨2, U, u2, u6, Or.inr ⟨rfl, by rw [q3]; exact u5⟩⟩
    obtain ⟨kq, U, u2, u6, ukt⟩ := ref
    rw [u6] at hk
    obtain ⟨et, ew⟩ := At_s hk
    have et : top = fb f + vc g + (khs z r + kes z (kq, U, 0)) := et
    rw [show kes z (kq, U, 0) = 1 by rcases ukt with ⟨rfl, -⟩ | ⟨rfl, -⟩ <;> rfl] at et
    have sz := sg_sz E q2
    rw [← q3, zv] at sz
    rw [zv] at lay
    have eA : top - 1 = fb f + vc g + khs z r := by omega
    have h34 : 34 ≤ T := (E.1.2.2.2.2.1 T hpl.2.2.2.1 (by rcases w5 with q | q; exact Or.inr (Or.inl q); exact Or.inr (Or.inr q))).1
    have h23 : F 23 T = 0 := by
      have q : F 23 T = if F 20 T = 4 then 1 else 0 := (E.1.1.1.2.2.2.2.2.2.2.1 T h34 q2.2).2.2.1
      rw [q, if_neg (by rcases w5 with z9 | z9 <;> rw [z9] <;> decide)]
    refine ⟨p, v, T, 1, nd, [], [], 0, pa, ro, g1, hvn, ⟨rfl, hpl.1.1, hpl.2.2.2.2.1, hv4, e9p, hpl.2.2.2.2.2.2.2.2.1, hpl.2.2.2.1, sz.1, by decide, by decide, q5, hpl.2.2.1, trivial, by show fb f + vo g v + 0 + 1 ≤ top; omega⟩, by omega, fun _ _ _ => False, fun _ => False, drC_0, fun q => absurd h23 q, fun tk2 c2 fil2 ht hc1 hc2 hf1 hf2 => ?_⟩
    have w8 : wl r ≤ wl r := Nat.le_refl _
    rw [eA] at hc1 ⊢
    obtain ⟨aa, q⟩ := kS_asR (c2 := c2) (fil2 := fil2) (v := v) (al2 := fun u => u < 40 ∧ N.2.1 (i + 1) u ∧ ¬ L (i + 1) u []) (lo2 := L (i + 1)) hy hk (k := kq) (U := U) (m := 0) (S := r) (by rw [kUx_eq]; rfl) (by rw [kUx_eq]; rfl) hno u2 (by rw [kUx_eq]; exact ukt) hv4 hvS (by rw [kUx_eq]; exact fun u hu q => kpA E.2.2.2.2.2.2.2.2.1 hlk mk9 u hu q) (by rw [kUx_eq]; exact L_ne E mk9) (by rw [kUx_eq]; exact hc1 0 (by decide)) (by
      rw [kUx_eq]
      intro k hk9
      have hk9 : k ≠ fb f + vo g v := hk9
      refine hc2 k ?_
      show ¬ (fb f + vo g v + 0 ≤ k ∧ k < fb f + vo g v + 0 + 1)
      omega) hf1
    rw [kUx_eq, kUx2] at q
    refine At_mk E h1 hRm hlk.1 (kS_tk (st_finV q hv4 w8 hlk (fun l hm => ?_) (fun _ l _ hh => hnew l hh)) (fun k hk9 => ht k hk9 (fun q => q)))
    obtain ⟨r9, m9, hm⟩ := hm
    exact absurd hm (by rintro (q | q); exact (hno r9 m9).1 q; exact (hno r9 m9).2 q)
end
end
-- f3.qb.lean.txt
section
/-- the outer loan of a parameter -/
def ouF (pl : Nat → Nat → Int32) (g q : Nat) : Nat := if pl g q < 0 then 62 else 54 + cN (pl g q)
/-- how a function begins -/
def enF (y : qY) (z : qZ) (F : tF) (G : Nat → Nat → Nat) (yp yt a : Nat) (k : Nat → Option (List tE)) (N : lK) (Rm : Nat → Prop) (tb : lTb) (rl : Nat → Int32) (pl : Nat → Nat → Int32) (me : Int32) (vt vo : Nat → Nat → Nat) (g : Nat) : Prop :=
  ∃ P : List tE, k a = some P ∧ (∀ e : tE, e ∈ P ↔ ∃ v : Nat, e = (8, v, 0) ∧ v < G g 0) ∧ G g 0 ≤ 12 ∧ N.2.2 a ∧ Rm a ∧
  (∀ q : Nat, q < G g 0 → tyV yp yt (F 20) (G g (q + 2)) ∧ vt g q = ymF F (G g (q + 2)) ∧ vo g q = psum z (vt g) q) ∧
  (∀ q : Nat, q < G g 0 → tb.2.2.2.1 (ouF pl g q) ∧ ((y.1 (vt g q) = 5 ∨ y.1 (vt g q) = 6) → N.1 a q (ouF pl g q)) ∧ (pl g q < 0 ∨ ∃ w : Nat, w < 8 ∧ pl g q = nI w)) ∧
  (rl g < 0 ∨ ∃ w : Nat, w < 8 ∧ rl g = nI w) ∧ me = rl g
/-- a frame that waits for a call's end -/
def Cf (N : lK) (L : Nat → Nat → lLc → Prop) (g i : Nat) (r : List tE) (n : Nat) (R : Nat → Option lLc) (An : Nat → lLc → Nat → Prop) : kFm := (g, r, n, R, N.1 i, (fun u => u < 40 ∧ N.2.1 (i + 1) u ∧ ¬ L (i + 1) u []), L (i + 1), An)
section
variable {y : qY} {z : qZ} {vt vo : Nat → Nat → Nat} {vc : Nat → Nat} {tb : Nat → lTb} {hp : Nat} {tk tk2 : Nat → Prop} {c c2 : Nat → Int} {f g i j : Nat} {x : Nat → kFm} {An : Nat → lLc → Nat → Prop} {fb : Nat → Nat} {top top2 : Nat} {fil fil2 : Nat → Nat → Nat → Prop} {N : lK} {L : Nat → Nat → lLc → Prop} {Rm : Nat → Prop} {F X : tF} {G : Nat → Nat → Nat} {rs a b n yp yt : Nat} {k : Nat → Option (List tE)} {rl : Nat → Int32} {pl : Nat → Nat → Int32} {me : Int32} {s s2 : List tE} {R R2 : Nat → Option lLc} {g2 a2 b2 : Nat} {k2 : Nat → Option (List tE)} {N2 : lK} {L2 : Nat → Nat → lLc → Prop} {Rm2 : Nat → Prop} {F2 : tF} {me2 : Int32}
/-- CALL -/
theorem s_call (E : sgE y z F X G rs a b n yp yt k N L Rm (tb g) rl pl me (vt g)) (hy : kYs y z vt vo vc) (h : At y z vt vo vc tb hp a b k N L Rm g f x An fb i tk c top fil) (ho : F 0 i = nI 21) (hg1 : F 1 i = nI g2) (hg40 : g2 < 40) (hb2 : a2 < b2) (en : enF y z F G yp yt a2 k2 N2 Rm2 (tb g2) rl pl me2 vt vo g2) : psum z (vt g2) (G g2 0) ≤ top ∧ ∃ (r : List tE) (R : Nat → Option lLc), k i = some (tAs F G g2 (G g2 0) ++ r) ∧ k (i + 1) = some (tNf F (G g2 1) :: r) ∧ N.2.2 i ∧ Rm i ∧ a ≤ i ∧ i < b ∧ wl r < 211 ∧ top = fb f + vc g + khs z r + psum z (vt g2) (G g2 0) ∧ ∀ fil2 : Nat → Nat → Nat → Prop, (∀ j : Nat, j ≤ f → fil2 j = fil j) → At y z vt vo vc tb hp a2 b2 k2 N2 L2 Rm2 g2 (f + 1) (kUx x f (Cf N L g i r (G g2 0) R An)) (kAo y (vt g2) R (wl r) (G g2 0) (ouF pl g2)) (fun j => if j = f + 1 then top - psum z (vt g2) (G g2 0) else fb j) a2 tk c (top - psum z (vt g2) (G g2 0) + vc g2) fil2 := by
  obtain ⟨s, R, hs, ha, hb, hN, hR, hk⟩ := h
  obtain ⟨g9, r, ⟨q1, q2⟩, q3, rfl, h1⟩ := ce_op E.2.1 ha hb hs ho (by decide)
  obtain rfl : g2 = g9 := (nI_eq (by omega) (by omega)).mp (hg1.symm.trans q3)
  obtain ⟨P, p1, p2, p3, p4, p5, p6, p7, p8, p9⟩ := en
  obtain ⟨y0, y1, y2, y3, z1, z2, z3⟩ := sg_p E
  obtain ⟨e1, e2⟩ := E.2.2.2.2.2.2.2.1 i 21 _ ha hb hs ho (by decide) hN hR
  obtain ⟨hlk, hres⟩ := e1.2.2.2.2.2.2.2.2.2.2.2.1 rfl g2 hg1 hg40
  have hmk := e2.2.1 (by omega)
  have hRm := e2.1 (by omega)
  have hj := E.2.2.2.2.2.2.2.2.2.2.2.1.2 (i + 1) hRm
  have hv1 := E.2.2.1 (i + 1) _ hj.1 hj.2 h1
  have hv := E.2.2.1 i _ ha hb hs
  have wr : wl r < 211 := wl_nx nm_t hv1
  -- the exact entries
  have ent : ∀ q : Nat, q < G g2 0 → ∃ e : tE, (tNf F (G g2 (q + 2)) = e ∨ (tNf F (G g2 (q + 2)) = (0, 1, 0) ∧ e = (0, 3, 0))) ∧ ((e = (0, vt g2 q, 0) ∧ vt g2 q ≠ 0 ∧ y.1 (vt g2 q) ≠ 5 ∧ y.1 (vt g2 q) ≠ 6) ∨ ∃ U : Nat, U < 10000 ∧ ((e = (1, U, 0) ∧ vt g2 q = 10000 + 2 * U) ∨ (e = (2, U, 0) ∧ vt g2 q = 10001 + 2 * U))) ∧ kes z e = z.1 (vt g2 q) := fun q hq => by
    obtain ⟨t1, t2, -⟩ := p6 q hq
    have kk := sg_k E t1
    by_cases c5 : F 20 (G g2 (q + 2)) = 5
    · obtain ⟨U, u1, u2, u3, u4, u5, u6⟩ := kk.1 c5
      refine ⟨(1, U, 0), Or.inl u6, Or.inr ⟨U, u2, Or.inl ⟨rfl, by rw [t2, u5]⟩⟩, ?_⟩
      rw [sg_z4 E _ (Or.inr (by rw [t2]; exact kk.2.2.1.mpr (Or.inl c5)))]; rfl
    · by_cases c6 : F 20 (G g2 (q + 2)) = 6
      · obtain ⟨U, u1, u2, u3, u4, u5, u6⟩ := kk.2.1 c6
        refine ⟨(2, U, 0), Or.inl u6, Or.inr ⟨U, u2, Or.inr ⟨rfl, by rw [t2, u5]⟩⟩, ?_⟩
        rw [sg_z4 E _ (Or.inr (by rw [t2]; exact kk.2.2.1.mpr (Or.inr c6)))]; rfl
      · have em : ymF F (G g2 (q + 2)) = G g2 (q + 2) := by unfold ymF; rw [if_neg c5, if_neg c6]
        have n0 : vt g2 q ≠ 0 := by rw [t2]; exact ymF_0 E.1.1 t1
        have n56 : ¬ (y.1 (vt g2 q) = 5 ∨ y.1 (vt g2 q) = 6) := fun z9 => by
          rw [t2] at z9
          exact (kk.2.2.1.mp z9).elim c5 c6
        refine ⟨(0, vt g2 q, 0), ?_, Or.inl ⟨rfl, n0, fun z9 => n56 (Or.inl z9), fun z9 => n56 (Or.inr z9)⟩, if_neg n0⟩
        rw [t2, em]
        by_cases c3 : G g2 (q + 2) = 3
        · right; rw [c3]; exact ⟨tNf_3, rfl⟩
        · left; exact tNf_u c3 c5 c6
  have ex2 : ∃ e2 : Nat → tE, ∀ q : Nat, q < G g2 0 → (tNf F (G g2 (q + 2)) = e2 q ∨ (tNf F (G g2 (q + 2)) = (0, 1, 0) ∧ e2 q = (0, 3, 0))) ∧ ((e2 q = (0, vt g2 q, 0) ∧ vt g2 q ≠ 0 ∧ y.1 (vt g2 q) ≠ 5 ∧ y.1 (vt g2 q) ≠ 6) ∨ ∃ U : Nat, U < 10000 ∧ ((e2 q = (1, U, 0) ∧ vt g2 q = 10000 + 2 * U) ∨ (e2 q = (2, U, 0) ∧ vt g2 q = 10001 + 2 * U))) ∧ kes z (e2 q) = z.1 (vt g2 q) := by
    refine ⟨fun q => if hq : q < G g2 0 then Classical.choose (ent q hq) else (0, 0, 0), fun q hq => ?_⟩
    have := Classical.choose_spec (ent q hq)
    have e9 : (fun q : Nat => if hq : q < G g2 0 then Classical.choose (ent q hq) else ((0, 0, 0) : tE)) q = Classical.choose (ent q hq) := dif_pos hq
    rw [e9]
    exact this
  obtain ⟨ee, hee⟩ := ex2
  have hk1 := hk
  rw [dsl_as] at hk1
  have hk2 := kS_rtl (y := y) (z := z) (e := fun q => tNf F (G g2 (q + 2))) (e2 := ee) y1 y3 (by rw [z1, z3]) (G g2 0) (P := []) (S := r) (fun q hq => (hee q hq).1) (by rw [kUx_eq]; rfl) hk1
  rw [kUx_eq, kUx2] at hk2
  have hk2 : kS y z vt vo vc tb hp tk c f (kUx x f (Fr N L g i (dsl ee (G g2 0) ++ r) R An)) fb top fil := hk2
  have nme : ∀ q : Nat, q < G g2 0 → kNm (ee q) := fun q hq => by
    rcases (hee q hq).2.1 with ⟨e9, -⟩ | ⟨U, -, ⟨e9, -⟩ | ⟨e9, -⟩⟩ <;> (rw [e9]; unfold kNm; simp)
  have hsz : ∀ q : Nat, q ≤ G g2 0 → khs z (dsl ee q) = psum z (vt g2) q := fun q => by
    induction q with
    | zero => intro _; rfl
    | succ q ih =>
      intro hq
      show khs z (dsl ee q) + kes z (ee q) = psum z (vt g2) q + z.1 (vt g2 q)
      rw [ih (by omega), (hee q (by omega)).2.2]
  obtain ⟨et, ew⟩ := At_s hk2
  rw [khs_app, hsz _ (Nat.le_refl _)] at et
  have hno : ∀ r9 m9 : Nat, (5, r9, m9) ∉ dsl ee (G g2 0) ++ r ∧ (6, r9, m9) ∉ dsl ee (G g2 0) ++ r := fun r9 m9 => by
    have hr := no56 (vl_no (vl_1 hv1 nm_t)) r9 m9
    refine ⟨fun q => ?_, fun q => ?_⟩
    · rcases List.mem_append.mp q with q | q
      · exact dsl_nm _ nme _ q (Or.inr (Or.inr (Or.inl rfl)))
      · exact hr.1 q
    · rcases List.mem_append.mp q with q | q
      · exact dsl_nm _ nme _ q (Or.inr (Or.inr (Or.inr rfl)))
      · exact hr.2 q
  have eA : top - psum z (vt g2) (G g2 0) = fb f + vc g + khs z r := by omega
  refine ⟨by omega, r, R, hs, h1, hN, hR, ha, hb, wr, by omega, fun fil2 hf2 => ?_⟩
  rw [eA]
  have q := kS_call (g := g2) (n := G g2 0) (e := ee) (r := r) (P := P) (al2 := fun u => u < 40 ∧ N.2.1 (i + 1) u ∧ ¬ L (i + 1) u []) (lo2 := L (i + 1)) (H' := fun u l => N2.1 a2 u l ∨ l = ouF pl g2 u) (al' := fun u => u < 40 ∧ N2.2.1 a2 u ∧ ¬ L2 a2 u []) (lo' := L2 a2) (ou := ouF pl g2) (fil2 := fil2) hy hk2 (by rw [kUx_eq]; rfl) (by rw [kUx_eq]; rfl) p3 (by rw [kUx_eq]; exact hno) (fun q hq => by
    rcases (hee q hq).2.1 with ⟨e9, n9, -⟩ | z9
    · exact Or.inl ⟨e9, n9⟩
    · exact Or.inr z9) (fun q hq => by rw [hsz q (by omega)]; exact (p6 q hq).2.2) (by rw [kUx_eq]; exact fun u q => kpA E.2.2.2.2.2.2.2.2.1 hlk hmk u (fun q => q) q) (by
    rw [kUx_eq]
    exact fun w π hn q => hn (kpL E.2.2.2.2.2.2.2.2.1 hmk w π (fun q => q) q)) p2 (fun q hq => ⟨Or.inr rfl, (p7 q hq).1⟩) hf2
  rw [kUx_eq, kUx2] at q
  have q : kS y z vt vo vc tb hp tk c (f + 1) (kUx (kUx x f (Cf N L g i r (G g2 0) R An)) (f + 1) (g2, P, 0, (fun w => if w < G g2 0 then R (40 + wl r + w) else none), (fun u l => N2.1 a2 u l ∨ l = ouF pl g2 u), (fun u => u < 40 ∧ N2.2.1 a2 u ∧ ¬ L2 a2 u []), L2 a2, kAo y (vt g2) R (wl r) (G g2 0) (ouF pl g2))) (fun j => if j = f + 1 then fb f + vc g + khs z r else fb j) (fb f + vc g + khs z r + vc g2) fil2 := q
  -- arguments that are no references lead nowhere
  have hRn : ∀ w : Nat, w < G g2 0 → (y.1 (vt g2 w) ≠ 5 ∧ y.1 (vt g2 w) ≠ 6) → R (40 + wl r + w) = none := fun w hw hn => by
    obtain ⟨rt, ra, V, hJ9, hL9⟩ := hk2
    have hK := hJ9.2.2.2.2.1 f (Nat.le_refl f)
    rw [kUx_eq] at hK
    have kp := dsl_K (G g2 0) nme hK w hw
    rcases (hee w hw).2.1 with ⟨e9, -⟩ | ⟨U, hU, ⟨-, e9⟩ | ⟨-, e9⟩⟩
    · rw [e9] at kp
      have := kp.1
      rw [Nat.add_assoc]
      exact this
    · exfalso
      rw [e9] at hn
      exact hn.1 (hy.2.2.2.1 U hU).1
    · exfalso
      rw [e9] at hn
      exact hn.2 (hy.2.2.2.1 U hU).2.2.1
  have q2 : kS y z vt vo vc tb hp tk c (f + 1) (kUx (kUx x f (Cf N L g i r (G g2 0) R An)) (f + 1) (Fr N2 L2 g2 a2 P (fun w => if w < G g2 0 then R (40 + wl r + w) else none) (kAo y (vt g2) R (wl r) (G g2 0) (ouF pl g2)))) (fun j => if j = f + 1 then fb f + vc g + khs z r else fb j) (fb f + vc g + khs z r + vc g2) fil2 := by
    refine fin q (fun u w l hu hr hh => ?_) (fun u q => q) (fun v π q => q)
    have hr : (if u < G g2 0 then R (40 + wl r + u) else none) = some w := hr
    rcases hh with hh | hh
    · exact hh
    · by_cases c9 : u < G g2 0
      · rw [if_pos c9] at hr
        by_cases c8 : y.1 (vt g2 u) = 5 ∨ y.1 (vt g2 u) = 6
        · rw [hh]; exact (p7 u c9).2.1 c8
        · rw [hRn u c9 ⟨fun z9 => c8 (Or.inl z9), fun z9 => c8 (Or.inr z9)⟩] at hr
          simp at hr
      · rw [if_neg c9] at hr; simp at hr
  exact ⟨P, _, p1, Nat.le_refl _, hb2, p4, p5, q2⟩
end
end
-- f3.qc.lean.txt
section
/-- frame f waits at i for a call of g2 -/
def Wt (F : tF) (G : Nat → Nat → Nat) (a b : Nat) (k : Nat → Option (List tE)) (N : lK) (Rm : Nat → Prop) (i g2 : Nat) (r : List tE) : Prop := k i = some (tAs F G g2 (G g2 0) ++ r) ∧ k (i + 1) = some (tNf F (G g2 1) :: r) ∧ N.2.2 i ∧ Rm i ∧ a ≤ i ∧ i < b ∧ wl r < 211 ∧ F 0 i = nI 21 ∧ F 1 i = nI g2 ∧ g2 < 40
section
variable {y : qY} {z : qZ} {vt vo : Nat → Nat → Nat} {vc : Nat → Nat} {tb : Nat → lTb} {hp : Nat} {tk tk2 : Nat → Prop} {c c2 : Nat → Int} {f g i j : Nat} {x : Nat → kFm} {An : Nat → lLc → Nat → Prop} {fb : Nat → Nat} {top top2 : Nat} {fil fil2 : Nat → Nat → Nat → Prop} {N : lK} {L : Nat → Nat → lLc → Prop} {Rm : Nat → Prop} {F X : tF} {G : Nat → Nat → Nat} {rs a b n yp yt : Nat} {k : Nat → Option (List tE)} {rl : Nat → Int32} {pl : Nat → Nat → Int32} {me : Int32} {s s2 r : List tE} {R R2 : Nat → Option lLc} {rs2 g2 a2 b2 i2 n2 : Nat} {k2 : Nat → Option (List tE)} {N2 : lK} {L2 : Nat → Nat → lLc → Prop} {Rm2 : Nat → Prop} {F2 : tF} {me2 : Int32}
/-- the caller's frame is told behind the call -/
theorem fin_r {e : tE} {ro : Option lLc} {H2 : Nat → Nat → Prop} (h : kS y z vt vo vc tb hp tk c f (kUx x f (g, e :: r, 0, lUp R (40 + wl r) ro, H2, (fun u => u < 40 ∧ N.2.1 j u ∧ ¬ L j u []), L j, An)) fb top fil) (he : kNm e) (hv : vl (e :: r) ≤ 211) (h1 : lkp N i j (wl r) (fun _ => False)) (hH : ∀ u l : Nat, u ≠ 40 + wl r → H2 u l → N.1 i u l) (hh9 : ∀ (q : lLc) (l : Nat), ro = some q → H2 (40 + wl r) l → N.1 j (40 + wl r) l) : kS y z vt vo vc tb hp tk c f (kUx x f (Fr N L g j (e :: r) (lUp R (40 + wl r) ro) An)) fb top fil := by
  refine fin h (fun u w l hu hr hh => ?_) (fun u q => q) (fun v π q => q)
  rcases hu with hu | hu | ⟨rfl, r9, m9, hu⟩
  · exact h1.2.1 u l (fun q => q) (Or.inl hu.1) (hH u l (by omega) hh)
  · rw [wl_n he] at hu
    by_cases e9 : u = 40 + wl r
    · rw [e9, lUp_eq] at hr
      rw [e9] at hh ⊢
      exact hh9 w l hr hh
    · exact h1.2.1 u l (fun q => q) (Or.inr ⟨hu.1, by omega⟩) (hH u l e9 hh)
  · exfalso
    have n5 := no56 (vl_no (vl_1 hv he)) r9 m9
    rcases hu with hu | hu
    · rcases List.mem_cons.mp hu with q | q
      · exact he (Or.inr (Or.inr (Or.inl (by rw [← q]))))
      · exact n5.1 q
    · rcases List.mem_cons.mp hu with q | q
      · exact he (Or.inr (Or.inr (Or.inr (by rw [← q]))))
      · exact n5.2 q
/-- what a returning call asks and gives -/
def rtG (y : qY) (z : qZ) (vt vo : Nat → Nat → Nat) (vc : Nat → Nat) (tb : Nat → lTb) (hp : Nat) (a b : Nat) (k : Nat → Option (List tE)) (N : lK) (L : Nat → Nat → lLc → Prop) (Rm : Nat → Prop) (g f : Nat) (x : Nat → kFm) (An : Nat → lLc → Nat → Prop) (fb : Nat → Nat) (i : Nat) (tk : Nat → Prop) (c : Nat → Int) (top : Nat) (fil : Nat → Nat → Nat → Prop) (F2 : tF) (k2 : Nat → Option (List tE)) (g2 i2 : Nat) : Prop := ∃ T m : Nat, F2 1 i2 = nI T ∧ T < 3040 ∧ F2 22 T = nI m ∧ m ≤ 16 ∧ top = fb (f + 1) + vc g2 + m ∧ ∃ (P : Nat → Nat → Int32 → Prop) (B : Nat → Prop), drC y z c hp top P B ∧ (∀ (v : Nat) (p : Int32) (s : List tE), k2 i2 = some s → v < 40 → (8, v, 0) ∈ s → (∀ q : Nat, q < 16 → ibit p q = true → fil (f + 1) v q) → P (vt g2 v) (fb (f + 1) + vo g2 v) p) ∧ ∀ (tk2 : Nat → Prop) (c2 : Nat → Int) (fil2 : Nat → Nat → Nat → Prop), (∀ k : Nat, tk k → ¬ B k → tk2 k) → (∀ q : Nat, q < m → c2 (fb (f + 1) + q) = c (fb (f + 1) + vc g2 + q)) → (∀ k : Nat, ¬ (fb (f + 1) ≤ k ∧ k < fb (f + 1) + m) → c2 k = c k) → (∀ j : Nat, j ≤ f → fil2 j = fil j) → ∃ x2 : Nat → kFm, (∀ j : Nat, j ≤ f → x2 j = x j) ∧ At y z vt vo vc tb hp a b k N L Rm g f x2 An fb (i + 1) tk2 c2 (fb (f + 1) + m) fil2
/-- RETURN to a caller -/
theorem s_ret (E : sgE y z F X G rs a b n yp yt k N L Rm (tb g) rl pl me (vt g)) (E2 : sgE y z F2 X G rs2 a2 b2 n2 yp yt k2 N2 L2 Rm2 (tb g2) rl pl me2 (vt g2)) (hF0 : F2 20 = F 20) (hF1 : F2 21 = F 21) (hrs : rs2 = G g2 1) (hme : me2 = rl g2) (hou : ∀ q : Nat, q < G g2 0 → (tb g2).2.2.2.1 (ouF pl g2 q) ∧ (pl g2 q < 0 ∨ ∃ w : Nat, w < 8 ∧ pl g2 q = nI w)) (hrl : rl g2 < 0 ∨ ∃ w : Nat, w < 8 ∧ rl g2 = nI w) (hy : kYs y z vt vo vc) (W : Wt F G a b k N Rm i g2 r) (hx : x f = Cf N L g i r (G g2 0) R An) (h : At y z vt vo vc tb hp a2 b2 k2 N2 L2 Rm2 g2 (f + 1) x (kAo y (vt g2) R (wl r) (G g2 0) (ouF pl g2)) fb i2 tk c top fil) (ho : F2 0 i2 = nI 22) : rtG y z vt vo vc tb hp a b k N L Rm g f x An fb i tk c top fil F2 k2 g2 i2 := by
  obtain ⟨s, R9, hs, ha, hb, hN, hR, hk⟩ := h
  obtain ⟨T, O, g1, ⟨gT, -, -⟩, g3, g4, gO⟩ := ce_op E2.2.1 ha hb hs ho (by decide)
  obtain ⟨w1, w2, w3, w4, w5, w6, w7, w8, w9, w0⟩ := W
  obtain ⟨y0, y1, y2, y3, z1, z2, z3⟩ := sg_p E
  have eN : ∀ T : Nat, tNf F2 T = tNf F T := fun T => by unfold tNf; rw [hF0, hF1]
  have eT : G g2 1 = T := by rw [← hrs]; exact gT.symm
  rw [eT] at w2
  have hO : ∀ a : tE, a ∈ O → ∃ v : Nat, a = (8, v, 0) := fun a ha9 => by
    obtain ⟨v, q, -⟩ := gO a ha9
    exact ⟨v, q⟩
  obtain ⟨e1, e2⟩ := E.2.2.2.2.2.2.2.1 i 21 _ w5 w6 w1 w8 (by decide) w3 w4
  obtain ⟨hlk, hres⟩ := e1.2.2.2.2.2.2.2.2.2.2.2.1 rfl g2 w9 w0
  rw [wl_app, wl_as, show G g2 0 + wl r - G g2 0 = wl r by omega] at hlk hres
  have hRm := e2.1 (by omega)
  have hj := E.2.2.2.2.2.2.2.2.2.2.2.1.2 (i + 1) hRm
  have hv1 := E.2.2.1 (i + 1) _ hj.1 hj.2 w2
  obtain ⟨f1, f2⟩ := E2.2.2.2.2.2.2.2.1 i2 22 _ ha hb hs ho (by decide) hN hR
  have r22 := f1.2.2.2.2.2.2.2.2.2.2.2.2.1 rfl
  have fz : F2 20 0 = 0 ∧ F2 22 0 = 0 := ⟨E2.1.1.1.2.2.2.1.1, E2.1.1.1.2.2.2.2.1.1⟩
  have ez : F 20 0 = 0 := E.1.1.1.2.2.2.1.1
  have fNf : ∀ j : Nat, j ≤ f → kUx x (f + 1) (Fr N2 L2 g2 i2 s R9 (kAo y (vt g2) R (wl r) (G g2 0) (ouF pl g2))) j = x j := fun j hj9 => kUx_ne (by omega)
  have ef : kUx x (f + 1) (Fr N2 L2 g2 i2 s R9 (kAo y (vt g2) R (wl r) (G g2 0) (ouF pl g2))) f = Cf N L g i r (G g2 0) R An := by rw [fNf f (Nat.le_refl f)]; exact hx
  -- nothing comes back
  have none0 : T = 0 → ((∀ a : tE, a ∈ s → ∃ v : Nat, a = (8, v, 0)) ∨ ∃ (m : Nat) (O : List tE), s = (0, 0, m) :: O ∧ ∀ a : tE, a ∈ O → ∃ v : Nat, a = (8, v, 0)) → rtG y z vt vo vc tb hp a b k N L Rm g f x An fb i tk c top fil F2 k2 g2 i2 := fun t0 hc => by
    subst t0
    obtain ⟨et, -⟩ := At_s hk
    have e0 : khs z s = 0 := by
      rcases hc with q | ⟨m, O9, rfl, q⟩
      · exact khs_8 q
      · show khs z O9 + kes z (0, 0, m) = 0
        rw [khs_8 q]; rfl
    rw [e0] at et
    obtain ⟨P, B, p1, p2, p3⟩ := kS_ret0 hy (sg_16 E) hk (by rw [kUx_eq]; exact hc) (by rw [ef]; exact w7) y0 (al2 := fun u => u < 40 ∧ N.2.1 (i + 1) u ∧ ¬ L (i + 1) u []) (lo2 := L (i + 1)) (by rw [ef]; exact fun u q => q) (by rw [ef]; exact fun w π q => q)
    rw [kUx_eq] at p2
    refine ⟨0, 0, g1, by decide, fz.2, by decide, et, P, B, p1, fun v p s9 hs9 hv hm => ?_, fun tk2 c2 fil2 ht h1 h2 hf2 => ?_⟩
    · rw [hs] at hs9
      injection hs9 with hs9
      subst hs9
      exact p2 v p hv hm
    · have q := p3 tk2 fil2 ht hf2
      rw [ef] at q
      have ec : c2 = c := funext fun k => h2 k (by omega)
      subst ec
      rw [tNf_u (by decide) (by rw [ez]; decide) (by rw [ez]; decide)] at w2 hv1
      refine ⟨_, fNf, At_mk E w2 hRm hlk.1 (fin_r q nm0 hv1 hlk (fun u l _ q => q) (fun q l e9 => by simp at e9))⟩
  rcases g4 with ⟨c1, rfl⟩ | ⟨-, rfl, t0⟩
  · obtain ⟨r1, r2⟩ := r22 c1
    rw [wl_t, wl_8 hO] at r1 r2
    obtain ⟨et, -⟩ := At_s hk
    by_cases c0 : T = 0
    · have e9 : tNf F2 T = (0, 0, 0) := by
        rw [c0]
        exact tNf_u (by decide) (by rw [fz.1]; decide) (by rw [fz.1]; decide)
      exact none0 c0 (Or.inr ⟨0, O, by rw [e9], hO⟩)
    · by_cases hrf : F2 20 T = 5 ∨ F2 20 T = 6
      · have hU := E2.1.2.2.2.2.1 T g3 (by rcases hrf with q | q; exact Or.inr (Or.inl q); exact Or.inr (Or.inr q))
        have row := E2.1.1.1.2.2.2.2.2.2.2.1 T hU.1 hU.2
        have kk := sg_k E2 (T0 := T) ⟨Or.inr ⟨hU.1, hrf⟩, hU.2⟩
        have key : ∃ k9 U t : Nat, tNf F2 T = (k9, U, 0) ∧ U < 10000 ∧ ((k9 = 1 ∧ t = 10000 + 2 * U) ∨ (k9 = 2 ∧ t = 10001 + 2 * U)) := by
          rcases hrf with h5 | h6
          · obtain ⟨U, u1, u2, u3, u4, u5, u6⟩ := kk.1 h5
            exact ⟨1, U, _, u6, u2, Or.inl ⟨rfl, rfl⟩⟩
          · obtain ⟨U, u1, u2, u3, u4, u5, u6⟩ := kk.2.1 h6
            exact ⟨2, U, _, u6, u2, Or.inr ⟨rfl, rfl⟩⟩
        obtain ⟨k9, U, t, eU, u2, u3⟩ := key
        have nk : kNm (k9, U, 0) := by
          rcases u3 with ⟨rfl, -⟩ | ⟨rfl, -⟩ <;> (unfold kNm; simp)
        have ek : kes z (k9, U, 0) = 1 := by
          rcases u3 with ⟨rfl, -⟩ | ⟨rfl, -⟩ <;> rfl
        have et : top = fb (f + 1) + vc g2 + (khs z O + kes z (tNf F2 T)) := et
        rw [eU, ek, khs_8 hO] at et
        have hres := hres ((rf_eq rfl (by omega)).mpr (by rw [eT, ← hF0]; exact hrf))
        obtain ⟨P, B, p1, p2, p3⟩ := kS_retR hy (sg_16 E) hk (k := k9) (U := U) (m := 0) (t := t) (n := G g2 0) (ou := ouF pl g2) (O := O) (by rw [kUx_eq]; show tNf F2 T :: O = _; rw [eU]) hO (by rw [ef]; exact w7) u2 u3 (by rw [ef]; rfl) (by rw [kUx_eq, ef]; rfl) (by rw [kUx_eq]; rfl) (al2 := fun u => u < 40 ∧ N.2.1 (i + 1) u ∧ ¬ L (i + 1) u []) (lo2 := L (i + 1)) (hd := fun l => N.1 (i + 1) (40 + wl r) l) (by rw [ef]; exact fun u q => q) (by rw [ef]; exact fun w π q => q) (by
          rw [kUx_eq]
          intro l q1 q2 q3
          obtain ⟨v, e9, -, v1, v2⟩ := gO _ q3
          injection e9 with _ e9
          injection e9 with e9 _
          have e9 : (tb g2).1 l = v := e9
          exact r1 l q1 q2 (by rw [e9]; exact v1) (by rw [e9]; exact v2)) (by
          rw [kUx_eq, ef]
          intro q hq q1 l q2
          refine hres q l hq ?_ q2
          rcases hrl with z9 | ⟨w, hw, e9⟩
          · exact Or.inl z9
          · have := r2 ((rf_eq g1 (by omega)).mpr hrf) w _ (by rw [hme]; exact e9) hw (hou q hq).1 q1
            right
            unfold ouF at this
            rcases (hou q hq).2 with z9 | ⟨w9, hw9, e8⟩
            · rw [if_pos z9] at this; omega
            · rw [e8, if_neg (nI_pos (by omega)), cN_nI (by omega)] at this
              rw [e8, e9, show w9 = w by omega])
        rw [kUx_eq] at p2 p3
        refine ⟨T, 1, g1, g3, row.2.1, by decide, by omega, P, B, p1, fun v p s9 hs9 hv hm => ?_, fun tk2 c2 fil2 ht h1 h2 hf2 => ?_⟩
        · rw [hs] at hs9
          injection hs9 with hs9
          subst hs9
          exact p2 v p hv hm
        · obtain ⟨q, h9⟩ := p3 tk2 c2 fil2 ht (h1 0 (by decide)) (fun k hk9 => h2 k (by omega)) hf2
          rw [ef] at h9
          rw [← eN, eU] at w2 hv1
          refine ⟨_, fNf, At_mk E w2 hRm hlk.1 (fin_r h9 nk hv1 hlk (fun u l hu q => ?_) (fun q l e9 hh => ?_))⟩
          · have q : lUp (N.1 i) (40 + wl r) (fun l => N.1 (i + 1) (40 + wl r) l) u l := q
            rw [lUp_ne hu] at q
            exact q
          · have hh : lUp (N.1 i) (40 + wl r) (fun l => N.1 (i + 1) (40 + wl r) l) (40 + wl r) l := hh
            rw [lUp_eq] at hh
            exact hh
      · have h5 : F2 20 T ≠ 5 := fun q => hrf (Or.inl q)
        have h6 : F2 20 T ≠ 6 := fun q => hrf (Or.inr q)
        obtain ⟨t1, t2⟩ := gd_0 E2 hR hs c0 h5 h6
        have hk2 := st_rt E2 h5 h6 hk
        have sz := sg_sz E2 (u := T) ⟨Or.inl t1, t2⟩
        rw [ymF_n E2.1.1 t1] at sz
        obtain ⟨et, -⟩ := At_s hk2
        have et : top = fb (f + 1) + vc g2 + (khs z O + kes z (0, T, 0)) := et
        rw [show kes z (0, T, 0) = z.1 T from if_neg c0, khs_8 hO] at et
        have fNf2 : ∀ j : Nat, j ≤ f → kUx x (f + 1) (Fr N2 L2 g2 i2 ((0, T, 0) :: O) R9 (kAo y (vt g2) R (wl r) (G g2 0) (ouF pl g2))) j = x j := fun j hj9 => kUx_ne (by omega)
        have ef2 : kUx x (f + 1) (Fr N2 L2 g2 i2 ((0, T, 0) :: O) R9 (kAo y (vt g2) R (wl r) (G g2 0) (ouF pl g2))) f = Cf N L g i r (G g2 0) R An := by rw [fNf2 f (Nat.le_refl f)]; exact hx
        obtain ⟨P, B, p1, p2, p3⟩ := kS_ret1 hy (sg_16 E) hk2 (T := T) (m := 0) (O := O) (by rw [kUx_eq]; rfl) hO (by rw [ef2]; exact w7) c0 (al2 := fun u => u < 40 ∧ N.2.1 (i + 1) u ∧ ¬ L (i + 1) u []) (lo2 := L (i + 1)) (by rw [ef2]; exact fun u q => q) (by rw [ef2]; exact fun w π q => q)
        rw [kUx_eq] at p2 p3
        refine ⟨T, z.1 T, g1, g3, sz.1, sz.2.2, by omega, P, B, p1, fun v p s9 hs9 hv hm => ?_, fun tk2 c2 fil2 ht h1 h2 hf2 => ?_⟩
        · rw [hs] at hs9
          injection hs9 with hs9
          subst hs9
          rcases List.mem_cons.mp hm with q | q
          · exact absurd q (fun q => nm_t (F := F2) (t := T) (Or.inl (by rw [← q])))
          · exact p2 v p hv (List.mem_cons_of_mem _ q)
        · have q := p3 tk2 c2 fil2 ht h1 h2 hf2
          rw [ef2] at q
          have q2 := st_tr E (by rw [← hF0]; exact h5) (by rw [← hF0]; exact h6) q
          refine ⟨_, fNf2, At_mk E w2 hRm hlk.1 (fin_r q2 nm_t hv1 hlk (fun u l _ q => q) (fun q l e9 => by simp at e9))⟩
  · exact none0 t0 (Or.inl hO)
/-- RETURN of main -/
theorem s_end (E : sgE y z F X G rs a b n yp yt k N L Rm (tb g) rl pl me (vt g)) (hy : kYs y z vt vo vc) (h : At y z vt vo vc tb hp a b k N L Rm g f x An fb i tk c top fil) (ho : F 0 i = nI 22) : ∃ T m : Nat, F 1 i = nI T ∧ T < 3040 ∧ F 22 T = nI m ∧ m ≤ 16 ∧ top = fb f + vc g + m ∧ ∃ (P : Nat → Nat → Int32 → Prop) (B : Nat → Prop), drC y z c hp top P B ∧ ∀ (v : Nat) (p : Int32) (s : List tE), k i = some s → v < 40 → (8, v, 0) ∈ s → (∀ q : Nat, q < 16 → ibit p q = true → fil f v q) → P (vt g v) (fb f + vo g v) p := by
  obtain ⟨s, R9, hs, ha, hb, hN, hR, hk⟩ := h
  obtain ⟨T, O, g1, ⟨gT, -, -⟩, g3, g4, gO⟩ := ce_op E.2.1 ha hb hs ho (by decide)
  have hO : ∀ a : tE, a ∈ O → ∃ v : Nat, a = (8, v, 0) := fun a ha9 => by
    obtain ⟨v, q, -⟩ := gO a ha9
    exact ⟨v, q⟩
  have fz : F 20 0 = 0 ∧ F 22 0 = 0 := ⟨E.1.1.1.2.2.2.1.1, E.1.1.1.2.2.2.2.1.1⟩
  obtain ⟨P, B, p1, p2⟩ := kS_end hy (sg_16 E) hk
  rw [kUx_eq] at p2
  have p3 : ∀ (v : Nat) (p : Int32) (s : List tE), k i = some s → v < 40 → (8, v, 0) ∈ s → (∀ q : Nat, q < 16 → ibit p q = true → fil f v q) → P (vt g v) (fb f + vo g v) p := fun v p s9 hs9 hv hm => by
    rw [hs] at hs9
    injection hs9 with hs9
    subst hs9
    exact p2 v p hv hm
  rcases g4 with ⟨c1, rfl⟩ | ⟨-, rfl, t0⟩
  · by_cases c0 : T = 0
    · obtain ⟨et, -⟩ := At_s hk
      have et : top = fb f + vc g + (khs z O + kes z (tNf F T)) := et
      rw [c0, tNf_u (by decide) (by rw [fz.1]; decide) (by rw [fz.1]; decide), khs_8 hO] at et
      exact ⟨0, 0, by rw [← c0]; exact g1, by decide, fz.2, by decide, et, P, B, p1, p3⟩
    · by_cases hrf : F 20 T = 5 ∨ F 20 T = 6
      · have hU := E.1.2.2.2.2.1 T g3 (by rcases hrf with q | q; exact Or.inr (Or.inl q); exact Or.inr (Or.inr q))
        have row := E.1.1.1.2.2.2.2.2.2.2.1 T hU.1 hU.2
        have kk := sg_k E (T0 := T) ⟨Or.inr ⟨hU.1, hrf⟩, hU.2⟩
        have ek : kes z (tNf F T) = 1 := by
          rcases hrf with h5 | h6
          · obtain ⟨U, u1, u2, u3, u4, u5, u6⟩ := kk.1 h5
            rw [u6]; rfl
          · obtain ⟨U, u1, u2, u3, u4, u5, u6⟩ := kk.2.1 h6
            rw [u6]; rfl
        obtain ⟨et, -⟩ := At_s hk
        have et : top = fb f + vc g + (khs z O + kes z (tNf F T)) := et
        rw [ek, khs_8 hO] at et
        exact ⟨T, 1, g1, g3, row.2.1, by decide, et, P, B, p1, p3⟩
      · have h5 : F 20 T ≠ 5 := fun q => hrf (Or.inl q)
        have h6 : F 20 T ≠ 6 := fun q => hrf (Or.inr q)
        obtain ⟨t1, t2⟩ := gd_0 E hR hs c0 h5 h6
        have hk2 := st_rt E h5 h6 hk
        have sz := sg_sz E (u := T) ⟨Or.inl t1, t2⟩
        rw [ymF_n E.1.1 t1] at sz
        obtain ⟨et, -⟩ := At_s hk2
        have et : top = fb f + vc g + (khs z O + kes z (0, T, 0)) := et
        rw [show kes z (0, T, 0) = z.1 T from if_neg c0, khs_8 hO] at et
        exact ⟨T, z.1 T, g1, g3, sz.1, sz.2.2, by omega, P, B, p1, p3⟩
  · obtain ⟨et, -⟩ := At_s hk
    rw [khs_8 hO] at et
    subst t0
    exact ⟨0, 0, g1, by decide, fz.2, by decide, et, P, B, p1, p3⟩
end
end
