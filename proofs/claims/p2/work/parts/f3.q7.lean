theorem rtF_nil {y : qY} {z : qZ} : ∀ {ρ : lLc} {T o : Nat}, qMs ρ → (rtU y z T o ρ).1 = [] → qM ρ
  | [], _, _, _, _ => qM_nil
  | (q, j) :: ρ, T, o, h, he => by
    obtain ⟨h1, h2⟩ := qMs_cons.mp h
    rcases h1 with e | e
    · have e : q = 0 := e
      subst e
      exact qM_cons.mpr ⟨rfl, rtF_nil h2 he⟩
    · have e : q = 1 := e
      subst e
      have he : o :: (rtU y z (y.2.1 T) 0 ρ).1 = [] := he
      simp at he
theorem rtF_sn {y : qY} {z : qZ} : ∀ {ρ : lLc} {T o : Nat}, qMs ρ → (rtU y z T o (ρ ++ [(1, 0)])).1.length = (rtU y z T o ρ).1.length + 1
  | [], _, _, _ => rfl
  | (q, j) :: ρ, T, o, h => by
    obtain ⟨h1, h2⟩ := qMs_cons.mp h
    rcases h1 with e | e
    · have e : q = 0 := e
      subst e
      exact rtF_sn (ρ := ρ) h2
    · have e : q = 1 := e
      subst e
      show ((rtU y z (y.2.1 T) 0 (ρ ++ [(1, 0)])).1.length + 1) = (rtU y z (y.2.1 T) 0 ρ).1.length + 1 + 1
      rw [rtF_sn (ρ := ρ) h2]
theorem pW_15 {ds os : List Nat} {o n : Nat} {pa ro : Int32} (h : pW ds os o n pa ro) (hn : n ≤ 4) : ro &&& 15 = nI os.length := by
  obtain ⟨h1, h2, h3, h4, h5, h6, h7⟩ := h
  rw [h4, nI_and15]; congr 1; omega
theorem pW_last {ds os : List Nat} {o n d : Nat} {pa ro : Int32} (h : pW ds os o n pa ro) (hn : n ≤ 4) (h0 : 0 < n) (hd : pa >>> (nI ((n - 1) * 4) &&& 31) = nI d) (hd2 : d < 16) : ∃ ds0 : List Nat, ds = ds0 ++ [d] := by
  obtain ⟨h1, h2, h3, h4, h5, h6, h7⟩ := h
  rcases List.eq_nil_or_concat ds with e | ⟨l, b, e⟩
  · rw [e] at h1; simp at h1; omega
  · rw [List.concat_eq_append] at e
    refine ⟨l, ?_⟩
    rw [e]
    have hl : l.length = n - 1 := by
      rw [e, List.length_append] at h1; simp at h1; omega
    have hb : b < 16 := by have := h2 b (by rw [e]; simp); omega
    have hlt := dgP_lt (ds := l) (fun x hx => by have := h2 x (by rw [e]; exact List.mem_append_left _ hx); omega)
    rw [hl, pow16] at hlt
    have p4 : 2 ^ ((n - 1) * 4) ≤ 2 ^ 12 := Nat.pow_le_pow_right (by decide) (by omega)
    have p0 : 0 < 2 ^ ((n - 1) * 4) := Nat.two_pow_pos _
    have ed : dgP ds = dgP l + b * 2 ^ ((n - 1) * 4) := by rw [e, dgP_app, hl, pow16]
    have hb2 : b * 2 ^ ((n - 1) * 4) ≤ 15 * 2 ^ 12 := Nat.mul_le_mul (by omega) p4
    rw [h3, nI_shr (by rw [ed]; omega) (by omega)] at hd
    have ev : dgP ds / 2 ^ ((n - 1) * 4) = b := by
      rw [ed, Nat.add_mul_div_right _ _ p0, Nat.div_eq_of_lt hlt, Nat.zero_add]
    rw [ev] at hd
    rw [(nI_eq (by omega) (by omega)).mp hd]
section
variable {y : qY} {z : qZ} {vt vo : Nat → Nat → Nat} {vc : Nat → Nat} {tb : Nat → lTb} {hp : Nat} {tk tk2 : Nat → Prop} {c c2 : Nat → Int} {f g i j : Nat} {x : Nat → kFm} {An : Nat → lLc → Nat → Prop} {fb : Nat → Nat} {top top2 : Nat} {fil fil2 : Nat → Nat → Nat → Prop} {N : lK} {L : Nat → Nat → lLc → Prop} {Rm : Nat → Prop} {F X : tF} {G : Nat → Nat → Nat} {rs a b n yp yt : Nat} {k : Nat → Option (List tE)} {rl : Nat → Int32} {pl : Nat → Nat → Int32} {me : Int32} {s s2 : List tE} {R R2 : Nat → Option lLc}
/-- a token on top is told as a number -/
theorem st_tr (E : sgE y z F X G rs a b n yp yt k N L Rm (tb g) rl pl me (vt g)) {T : Nat} {r : List tE} {H2 : Nat → Nat → Prop} {al2 : Nat → Prop} {lo2 : Nat → lLc → Prop} (h5 : F 20 T ≠ 5) (h6 : F 20 T ≠ 6) (h : kS y z vt vo vc tb hp tk c f (kUx x f (g, (0, T, 0) :: r, 0, R, H2, al2, lo2, An)) fb top fil) : kS y z vt vo vc tb hp tk c f (kUx x f (g, tNf F T :: r, 0, R, H2, al2, lo2, An)) fb top fil := by
  by_cases h3 : T = 3
  · subst h3
    obtain ⟨y0, y1, y2, y3, z1, z2, z3⟩ := sg_p E
    obtain ⟨rt, ra, V, hJ, hL⟩ := h
    have k0 : y.1 1 ≠ 2 ∧ y.1 1 ≠ 3 ∧ y.1 1 ≠ 4 ∧ y.1 1 ≠ 5 ∧ y.1 1 ≠ 6 := by rw [y1]; decide
    have e0 : (kUx x f (g, (0, 3, 0) :: r, 0, R, H2, al2, lo2, An) f).2.1 = [] ++ (0, 3, 0) :: r := by rw [kUx_eq]; rfl
    have j := kJ_rty hJ e0 k0 (by decide)
    have l := kL_rty hJ hL e0 k0 (by decide) (by decide) (by rw [y3]; decide) (by rw [z1, z3])
    rw [kUx_eq, kUx2] at j l
    rw [tNf_3]
    exact ⟨_, _, _, j, l⟩
  · rw [tNf_u h3 h5 h6]
    exact h
/-- MOVE -/
theorem s_mov (E : sgE y z F X G rs a b n yp yt k N L Rm (tb g) rl pl me (vt g)) (hy : kYs y z vt vo vc) (htop : top < 2 ^ 31) (h : At y z vt vo vc tb hp a b k N L Rm g f x An fb i tk c top fil) (ho : F 0 i = nI 3) : ∃ (p v T m nd : Nat) (ds os : List Nat) (o : Nat) (pa ro : Int32), F 1 i = nI p ∧ plF F c top (fb f + vo g v) p v T m nd ds os o pa ro ∧ (os ≠ [] → rA c (fb f + vo g v) os o + m ≤ hp) ∧ ∀ (tk2 : Nat → Prop) (c2 : Nat → Int) (fil2 : Nat → Nat → Nat → Prop), (∀ k : Nat, tk k → (os ≠ [] → ¬ (rA c (fb f + vo g v) os o ≤ k ∧ k < rA c (fb f + vo g v) os o + m)) → tk2 k) → (∀ q : Nat, q < m → c2 (top + q) = c (rA c (fb f + vo g v) os o + q)) → (∀ k : Nat, ¬ (top ≤ k ∧ k < top + m) → c2 k = c k) → (∀ j w : Nat, (j, w) ≠ (f, v) → fil2 j w = fil j w) → (∀ q : Nat, fil2 f v q → fil f v q ∧ (q < 16 → ibit (F 12 p) q = false)) → At y z vt vo vc tb hp a b k N L Rm g f x An fb (i + 1) tk2 c2 (top + m) fil2 := by
  obtain ⟨s, R, hs, ha, hb, hN, hR, hk⟩ := h
  obtain ⟨p, T, g1, ⟨v, nd, pa, ro, mu, hpl, hst⟩, gk0, gk5, h1⟩ := ce_op E.2.1 ha hb hs ho (by decide)
  have hv4 : v < 40 := hpl.2.1
  have hvS := E.1.2.2.2.2.2.2 i 3 p v s hR hs ho (Or.inr (Or.inl rfl)) g1 hpl.1.1 hpl.2.2.2.2.1 hv4
  obtain ⟨T0, ds, os, o, hvn, q1, q2, q3, q4, q5, q6, q7⟩ := sg_pl E hpl
  obtain ⟨e1, e2⟩ := E.2.2.2.2.2.2.2.1 i 3 _ ha hb hs ho (by decide) hN hR
  obtain ⟨hlk, hck⟩ := e1.2.2.2.2.1 (Or.inr rfl)
  obtain ⟨hU, hck, hrf⟩ := hck p v g1 hpl.1.1 hpl.2.2.2.2.1 hv4
  have hU : (y.1 (vt g v) = 5 ∨ y.1 (vt g v) = 6) → N.2.1 i v := fun q => hU ((sg_rf E hvn q1 q2 q3).mpr q)
  obtain ⟨xx, hx, hx0⟩ := e2.2.2.1 (Or.inr (Or.inl rfl)) p v g1 hpl.1.1 hpl.2.2.2.2.1 hv4
  obtain ⟨hmk, xa, xb, hxa, hxb, hab, hcb⟩ := e2.2.2.2.1 rfl p v g1 hpl.1.1 hpl.2.2.2.2.1 hvn
  have hRm := e2.1 (by omega)
  have hj := E.2.2.2.2.2.2.2.2.2.2.2.1.2 (i + 1) hRm
  have hv := E.2.2.1 (i + 1) _ hj.1 hj.2 h1
  obtain ⟨et, ew⟩ := At_s hk
  have h16 := sg_16 E
  have Lup : ∀ (w : Nat) (π : lLc), L i w π → L (i + 1) w π := fun w π q => by
    by_cases c0 : w = v
    · subst c0
      refine hxb π ((hxa π q).imp id (fun q9 g9 => ?_))
      obtain ⟨cc, c1, c2, c3⟩ := q9 g9
      exact ⟨cc, c1, c2, hab cc c1 c3⟩
    · rcases Nat.lt_or_ge w n with g9 | g9
      · exact hmk w π g9 c0 q
      · exact E.2.2.2.2.2.2.2.2.1 (i + 1) w π g9
  have Aup : ∀ u : Nat, (u < 40 ∧ N.2.1 (i + 1) u ∧ ¬ L (i + 1) u []) → (u < 40 ∧ N.2.1 i u ∧ ¬ L i u []) := fun u q => ⟨q.1, hlk.2.2 u q.1 (fun q => q) q.2.1, fun z => q.2.2 (Lup u [] z)⟩
  have mk0 : mkp L n i (i + 1) (fun _ => False) := fun w π _ _ q => Lup w π q
  have hck2 : lCk (tb g) (N.1 i) (fun u => (u < 40 ∧ (u < 40 ∧ N.2.1 (i + 1) u ∧ ¬ L (i + 1) u [])) ∨ (40 ≤ u ∧ u < 40 + wl s)) v (ds.map stO) False := by
    rw [← q6]
    intro u l a1 a2 a3 a4 a5
    exact absurd (hck u l (a1.imp (fun z => ⟨z.1, z.2.2.1⟩) id) a2 a3 a4 a5).1 (by decide)
  rcases q7 with ⟨w1, w2, w3, w4, w5, w6⟩ | ⟨rfl, rfl, rfl, rfl, w5, w6⟩
  · obtain ⟨fu, hal, hpf⟩ := sg_rd E hy hk htop hpl hvS q2 q3 q4 q5 w1 w2 w3 w4 w5 hU hx hx0
    have nr := tyN_nr E.1.1 w2
    have T00 : T ≠ 0 := by rcases w2 with z9 | z9 | z9 <;> omega
    have sz := sg_sz E (u := T) ⟨Or.inl w2, w3⟩
    rw [ymF_n E.1.1 w2] at sz
    have h30 : yt ≤ 3040 := E.1.1.1.2.1
    have yT56 : y.1 T ≠ 5 ∧ y.1 T ≠ 6 := by
      have : ¬ (y.1 T = 5 ∨ y.1 T = 6) := fun q => by
        rw [E.1.2.1, yF_56] at q
        omega
      exact ⟨fun q => this (Or.inl q), fun q => this (Or.inr q)⟩
    -- the place's way
    have l15 := pW_15 q5 hpl.2.2.1
    have dec : ∃ (σ : lLc) (B : Nat), qM σ ∧ qW y (vt g v) σ B ∧ ((ds.map stO = σ ∧ os = []) ∨ (ds.map stO = σ ++ [(1, 0)] ∧ os ≠ [])) ∧ qW y (vt g v) (ds.map stO) T ∧ os = (rtU y z (vt g v) 0 (ds.map stO)).1 ∧ o = (rtU y z (vt g v) 0 (ds.map stO)).2 := by
      have lft : y.1 (vt g v) ≠ 5 ∧ y.1 (vt g v) ≠ 6 ∧ qW y (vt g v) (ds.map stO) T ∧ qMs (ds.map stO) ∧ os = (rtU y z (vt g v) 0 (ds.map stO)).1 ∧ o = (rtU y z (vt g v) 0 (ds.map stO)).2 := by
        rcases w1 with w1 | ⟨h56, ρ2, er, a1, a2, a3, a4⟩
        · exact w1
        · exfalso
          rcases hst with hs0 | ⟨hs1, -, -, hn⟩
          · rw [l15, a3] at hs0
            have := (nI_eq (a := (0 :: (rtU y z (y.2.1 (vt g v)) 0 ρ2).1).length) (b := 0) (by
              rw [← a3]; have := q5.2.2.2.2.1; have := hpl.2.2.1; omega) (by decide)).mp hs0
            simp at this
          · have := hn T0 (by have := q2.2; omega) q1
            rw [q3] at h56
            exact absurd ((sg_k E q2).2.2.1.mp h56) (by rintro (z9 | z9); exact this.1 z9; exact this.2 z9)
      obtain ⟨n5, n6, a1, a2, a3, a4⟩ := lft
      rcases hst with hs0 | ⟨hs1, hn0, hlast, -⟩
      · rw [l15] at hs0
        have hl0 := (nI_eq (a := os.length) (b := 0) (by have := q5.2.2.2.2.1; have := hpl.2.2.1; omega) (by decide)).mp hs0
        have os0 : os = [] := List.eq_nil_of_length_eq_zero hl0
        have hm := rtF_nil a2 (a3.symm.trans os0)
        exact ⟨ds.map stO, T, hm, a1, Or.inl ⟨rfl, os0⟩, a1, a3, a4⟩
      · rw [l15] at hs1
        have hl1 := (nI_eq (a := os.length) (b := 1) (by have := q5.2.2.2.2.1; have := hpl.2.2.1; omega) (by decide)).mp hs1
        obtain ⟨ds0, rfl⟩ := pW_last q5 hpl.2.2.1 hn0 (d := 13) hlast (by decide)
        have em : (ds0 ++ [13]).map stO = ds0.map stO ++ [(1, 0)] := by rw [List.map_append]; rfl
        rw [em] at a1 a3 a4 ⊢
        obtain ⟨B, b1, b2⟩ := qW_cut a1
        have ln := rtF_sn (y := y) (z := z) (T := vt g v) (o := 0) (ρ := ds0.map stO) stO_ms
        rw [← a3, hl1] at ln
        have hm := rtF_nil (y := y) (z := z) (T := vt g v) (o := 0) (ρ := ds0.map stO) stO_ms (List.eq_nil_of_length_eq_zero (by omega))
        exact ⟨ds0.map stO, B, hm, b1, Or.inr ⟨rfl, fun e => by rw [e] at hl1; simp at hl1⟩, a1, a3, a4⟩
    obtain ⟨σ, B, d1, d2, d3, d4, d5, d6⟩ := dec
    -- the bits of its cells
    have cells : ∀ cc : Nat, inW y z (vt g v) σ cc → ibit (F 12 p) cc = true := fun cc hin => by
      have c16 := inW_16 hy.1 (h16 _) d1 hin
      obtain ⟨B2, b1, b2, b3⟩ := hin
      obtain rfl := qW_det d2 b1
      rw [w5, pc_bit q5 hpl.2.2.1 w4 (by omega)]
      rcases d3 with ⟨e9, os0⟩ | ⟨e9, os0⟩
      · obtain ⟨f1, f2⟩ := rtF_M (z := z) (o := 0) d1 d2
        rw [e9] at d4 d6
        obtain rfl := qW_det d2 d4
        rw [f2] at d6
        rw [if_pos os0, decide_eq_true (by omega), decide_eq_true (by omega)]; rfl
      · obtain ⟨l, f1⟩ := rtF_st (z := z) (ρ1 := []) (o := 0) (j := 0) d1 d2
        rw [e9] at d4 d5
        rw [f1] at d5
        obtain ⟨B3, v1, v2⟩ := qW_cut d4
        obtain rfl := qW_det d2 v1
        rw [sg_z4 E B (Or.inl v2.2.1)] at b3
        rw [if_neg os0, d5]
        show decide (cc = 0 + qA y z (fun _ => 0) (vt g v) 0 σ) = true
        exact decide_eq_true (by omega)
    refine ⟨p, v, T, z.1 T, nd, ds, os, o, pa, ro, g1, hpf, fun hos => ?_, fun tk2 c2 fil2 ht hc1 hc2 hf1 hf2 => ?_⟩
    · rcases d3 with ⟨-, os0⟩ | ⟨e9, -⟩
      · exact absurd os0 hos
      · obtain ⟨rt, ra, V, hJ, hL⟩ := hk
        obtain ⟨F1, F2⟩ := pl_A hJ hv4 (by rw [kUx_eq]; exact hvS) (by rw [kUx_eq]; exact d4) stO_ms (by rw [kUx_eq]; exact fu)
        rw [kUx_eq] at F2
        have F2 : rt (f, v) = vt g v := F2
        have hra := hL.2.2.2.1 f (Nat.le_refl f) v hv4 (by rw [kUx_eq]; exact hvS)
        rw [kUx_eq] at hra
        have hra : ra (f, v) = fb f + vo g v := hra
        have eA : qA y z c (rt (f, v)) (ra (f, v)) (ds.map stO) = rA c (fb f + vo g v) os o := by
          rw [F2, hra, d5, d6]; exact rtF_A (o := 0)
        rw [← eA, e9]
        rw [e9] at F1 d4
        exact qEndH hy.1 hL.1 (π1 := σ) (π2 := []) (j := 0) (by rw [F2]; exact d4) qN_nil (qF_pl F1)
    · have q := kS_mv (tk2 := tk2) (c2 := c2) (fil2 := fil2) (v := v) (T := T) (ρ := ds.map stO) (σ := σ) (B := B) (os := os) (o := o) (al2 := fun u => u < 40 ∧ N.2.1 (i + 1) u ∧ ¬ L (i + 1) u []) (lo2 := L (i + 1)) hy hk (by rw [kUx_eq]; rfl) (by rw [kUx_eq]; exact wl_nx (nm_t) hv) (by rw [kUx_eq]; exact no56 (vl_no (vl_1 hv nm_t))) T00 yT56.1 yT56.2 hv4 (by rw [kUx_eq]; exact hvS) (by rw [kUx_eq]; exact d4) d1 (by rw [kUx_eq]; exact d2) (by
        rw [kUx_eq]
        rcases d3 with ⟨e9, os0⟩ | ⟨e9, os0⟩
        · exact Or.inl ⟨e9, fun k hk9 => ht k hk9 (fun q => absurd os0 q)⟩
        · exact Or.inr ⟨e9, fun k hk9 hn => ht k hk9 (fun _ => hn)⟩) (by rw [kUx_eq]; exact ⟨d5, d6⟩) (by rw [kUx_eq]; exact fu) (by rw [kUx_eq]; exact Aup) (by
        rw [kUx_eq]
        intro w π hn
        refine ⟨fun q => hn (Lup w π q), fun e9 => ?_⟩
        subst e9
        exact (mv_lo hy.1 (h16 _) d1 d2 hab (fun cc hc16 hin => hcb cc hc16 (cells cc hin)) (fun q => hn (hxb π q))).2) (by rw [kUx_eq]; exact hck2) (by rw [kUx_eq]; exact hc1) hc2 hf1 (by
        rw [kUx_eq]
        intro q hq
        obtain ⟨a1, a2⟩ := hf2 q hq
        refine ⟨a1, fun a3 => ?_⟩
        have hin : inW y z (vt g v) σ q := ⟨B, d2, a3.1, a3.2⟩
        have := a2 (inW_16 hy.1 (h16 _) d1 hin)
        rw [cells q hin] at this
        exact absurd this (by decide))
      rw [kUx_eq, kUx2] at q
      have q : kS y z vt vo vc tb hp tk2 c2 f (kUx x f (g, (0, T, 0) :: s, 0, lUp R (40 + wl s) none, N.1 i, (fun u => u < 40 ∧ N.2.1 (i + 1) u ∧ ¬ L (i + 1) u []), L (i + 1), An)) fb (top + z.1 T) fil2 := q
      have q := st_tr E nr.1 nr.2 q
      have q3 : kS y z vt vo vc tb hp tk2 c2 f (kUx x f (Fr N L g (i + 1) (tNf F T :: s) (lUp R (40 + wl s) none) An)) fb (top + z.1 T) fil2 := by
        refine fin q (fun u w l hu hr hh => ?_) (fun u q => q) (fun v π q => q)
        rcases hu with hu | hu | ⟨rfl, r, m, hu⟩
        · exact hlk.2.1 u l (fun q => q) (Or.inl hu.1) hh
        · rw [wl_t] at hu
          by_cases e9 : u = 40 + wl s
          · rw [e9, lUp_eq] at hr; simp at hr
          · exact hlk.2.1 u l (fun q => q) (Or.inr ⟨hu.1, by omega⟩) hh
        · exfalso
          have n5 := no56 (vl_no (vl_1 hv nm_t)) r m
          have n0 : ¬ ((tNf F T).1 = 8 ∨ (tNf F T).1 = 4 ∨ (tNf F T).1 = 5 ∨ (tNf F T).1 = 6) := nm_t
          rcases hu with hu | hu
          · rcases List.mem_cons.mp hu with q | q
            · exact n0 (Or.inr (Or.inr (Or.inl (by rw [← q]))))
            · exact n5.1 q
          · rcases List.mem_cons.mp hu with q | q
            · exact n0 (Or.inr (Or.inr (Or.inr (by rw [← q]))))
            · exact n5.2 q
      exact At_mk E h1 hRm hlk.1 q3
  · have k6 : F 20 T = 6 := w5.resolve_left gk5
    obtain ⟨U, u1, u2, u3, u4, u5, u6⟩ := (sg_k E q2).2.1 k6
    have zv : z.1 (vt g v) = 1 := sg_z4 E _ (Or.inr (by rw [q3]; exact (sg_k E q2).2.2.1.mpr w5))
    have nlo : ¬ L i v [] := fun q => fu_ref zv q4 q5 hpl.2.2.1 (by rw [← w6]; exact hx0) (hx [] q)
    have hU := hU (by rw [q3]; exact (sg_k E q2).2.2.1.mpr w5)
    rw [u6] at h1 hv
    have n1 : kNm (2, U, 0) := by unfold kNm; simp
    have sz := sg_sz E q2
    rw [← q3, zv] at sz
    have lt : fb f + vo g v < top := by
      obtain ⟨rt, ra, V, hJ, hL⟩ := hk
      obtain ⟨d, π, w, -, -, -, -, b5, -⟩ := pl_B hJ hL hv4 (by rw [kUx_eq]; exact hvS) (by rw [kUx_eq]; exact ⟨hv4, hU, nlo⟩) (by rw [kUx_eq]; show y.1 (vt g v) = 5 ∨ y.1 (vt g v) = 6; rw [q3]; exact (sg_k E q2).2.2.1.mpr w5) (by rw [kUx_eq]; exact nlo)
      have b6 := kLt hy hJ hL b5
      have b7 := hL.2.2.2.1 f (Nat.le_refl f) v hv4 (by rw [kUx_eq]; exact hvS)
      rw [kUx_eq] at b7
      have b6 : ra (f, v) < top := b6
      rw [b7] at b6
      exact b6
    have b0 : ibit (F 12 p) 0 = true := by
      rw [w6, pc_bit q5 hpl.2.2.1 (by omega) (by decide), if_pos rfl, decide_eq_true (by omega), decide_eq_true (by omega)]; rfl
    have lost : ∀ π : lLc, L (i + 1) v π := fun π => hxb π (no_lo hy.1 (h16 _) (Or.inr (fun cc hcc => by
      rw [zv] at hcc
      obtain rfl : cc = 0 := by omega
      exact hcb 0 (by decide) b0)) π)
    refine ⟨p, v, T, 1, nd, [], [], 0, pa, ro, g1, ⟨rfl, hpl.1.1, hpl.2.2.2.2.1, hv4, hpl.2.2.2.2.2.2.2.1, hpl.2.2.2.2.2.2.2.2.1, hpl.2.2.2.1, sz.1, by decide, by decide, q5, hpl.2.2.1, trivial, lt⟩, fun q => absurd rfl q, fun tk2 c2 fil2 ht hc1 hc2 hf1 hf2 => ?_⟩
    obtain ⟨aa, q⟩ := kS_mvR (c2 := c2) (fil2 := fil2) (m := 0) (v := v) (al2 := fun u => u < 40 ∧ N.2.1 (i + 1) u ∧ ¬ L (i + 1) u []) (lo2 := L (i + 1)) hy hk (by rw [kUx_eq]; rfl) (by rw [kUx_eq]; exact wl_nx n1 hv) (by rw [kUx_eq]; exact no56 (vl_no (vl_1 hv n1))) u2 hv4 (by rw [kUx_eq]; exact hvS) (by rw [kUx_eq]; show vt g v = _; rw [q3]; exact u5) (by rw [kUx_eq]; exact ⟨hv4, hU, nlo⟩) (by rw [kUx_eq]; exact nlo) (by
      rw [kUx_eq]
      exact fun u q => ⟨Aup u q, fun e9 => q.2.2 (by rw [e9]; exact lost [])⟩) (by
      rw [kUx_eq]
      intro w π hn
      exact ⟨fun q => hn (Lup w π q), fun e9 => absurd (by rw [e9]; exact lost π) hn⟩) (by rw [kUx_eq]; exact hck2) (fun k hk9 => hc2 k (by omega)) (by
      rw [kUx_eq]
      exact hc1 0 (by decide)) hf1 (fun q hq => by
      obtain ⟨a1, a2⟩ := hf2 q hq
      refine ⟨a1, fun e9 => ?_⟩
      subst e9
      have := a2 (by decide)
      rw [b0] at this
      exact absurd this (by decide))
    rw [kUx_eq, kUx2] at q
    have q : kS y z vt vo vc tb hp tk c2 f (kUx x f (g, (2, U, 0) :: s, 0, lUp (lUp R v none) (40 + wl s) (some aa), lUp (N.1 i) (40 + wl s) (N.1 i v), (fun u => u < 40 ∧ N.2.1 (i + 1) u ∧ ¬ L (i + 1) u []), L (i + 1), An)) fb (top + 1) fil2 := q
    have r10 : rfB (F 20) (F 10 p) := (rf_eq hpl.2.2.2.2.2.2.2.2.1 hpl.2.2.2.1).mpr w5
    have q3 : kS y z vt vo vc tb hp tk c2 f (kUx x f (Fr N L g (i + 1) ((2, U, 0) :: s) (lUp (lUp R v none) (40 + wl s) (some aa)) An)) fb (top + 1) fil2 := by
      refine fin q (fun u w l hu hr hh => ?_) (fun u q => q) (fun v π q => q)
      rcases hu with hu | hu | ⟨rfl, r, m, hu⟩
      · rw [lUp_ne (by omega)] at hh
        exact hlk.2.1 u l (fun q => q) (Or.inl hu.1) hh
      · rw [wl_n n1] at hu
        by_cases e9 : u = 40 + wl s
        · rw [e9, lUp_eq] at hh
          rw [e9]; exact hrf r10 l hh
        · rw [lUp_ne e9] at hh
          exact hlk.2.1 u l (fun q => q) (Or.inr ⟨hu.1, by omega⟩) hh
      · exfalso
        have n5 := no56 (vl_no (vl_1 hv n1)) r m
        rcases hu with hu | hu
        · rcases List.mem_cons.mp hu with q | q
          · injection q with q; exact absurd q (by decide)
          · exact n5.1 q
        · rcases List.mem_cons.mp hu with q | q
          · injection q with q; exact absurd q (by decide)
          · exact n5.2 q
    obtain ⟨rt9, ra9, V9, hJ9, hL9⟩ := q3
    refine At_mk E h1 hRm hlk.1 ⟨rt9, ra9, V9, hJ9, ?_⟩
    obtain ⟨l0, lr⟩ := hL9
    refine ⟨qMm_subT l0 l0.1 (fun _ _ _ q => q) (fun r π t gg bb hv9 k4 hb9 k g9 g8 => ?_), lr⟩
    obtain ⟨b9, b1, b2, b3⟩ := (l0.2.1 r π t gg hv9).2 k4
    rw [hb9] at b1
    have b1 : bb = b9 := by omega
    subst b1
    exact ht k (b3 k g9 g8) (fun q => absurd rfl q)
end
