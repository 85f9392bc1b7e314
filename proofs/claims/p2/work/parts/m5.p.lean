-- m5.p.lean.txt
section
section PS93
variable {R : yR} {K : Ky} {S0 Sl S S1 S2 S3 : Sg} {D : fD} {i k j f nw n v : Nat} {vt : Nat → Nat → Nat} {tb : Nat → lTb} {x : Nat → kFm} {bs : Nat → Nat} {g : Nat → Int32} {X : kFm} {al : Nat → Prop}
theorem trL_56 {q r c : Nat} (hq : q = 5 ∨ q = 6) : ∀ {s : List tE}, (q, r, c) ∈ s → (q, r, 64 * (c % 64)) ∈ trL al s
  | [], h => by cases h
  | e :: s, h => by
    show (q, r, 64 * (c % 64)) ∈ trE al (wl s) e :: trL al s
    rcases List.mem_cons.mp h with w | w
    · rw [← w, trE_56 hq]; exact List.mem_cons_self ..
    · exact List.mem_cons_of_mem _ (trL_56 hq w)
/-- a step's end, told in full: where the place that is matched on lies, too -/
theorem finG5 (hL : LFS R S0 g) (hk : PK R S0 i D k) (e : edg D k j) (hX : kT (yT R S0) (zN R S0) (szN R S0) vt tb f (kUx x f X) bs S2) (x2 : X.2.2.1 = 0) (x1 : X.1 = i) (xA : kAn X = kAn (x f)) (hst : wkS X.2.1 (trL (AL D j) (D.st j))) (hg : gtS (D.st j)) (h3 : ∀ r m : Nat, (3, r, m) ∉ D.st j) (h5 : ∀ (q r m v : Nat) (ρ : lLc), (q = 5 ∨ q = 6) → (q, r, 64 * cdP v ρ + m) ∈ D.st j → m < 64 → v < 40 → pd5 f (vt i v) (kR X) v ρ)
  (hal : ∀ u : Nat, u < 40 → AL D j u → kal X u) (hH1 : ∀ u κ : Nat, u < 40 → AL D j u → kH X u κ → HK D j u κ) (hH2 : ∀ m κ : Nat, m < wl (D.st j) → AL D j (40 + m) ∨ mkS (D.st j) → kH X (40 + m) κ → HK D j (40 + m) κ ∧ (mkS (D.st j) → m = 0 → okl R S0 i D κ)) (hH3 : ∀ (κ r m : Nat), (5, r, m) ∈ trL (AL D j) (D.st j) ∨ (6, r, m) ∈ trL (AL D j) (D.st j) → kH X 300 κ → HA R S0 i D j 300 κ) (hlo : ∀ (v : Nat) (π : lLc), v < 40 → (8, v, 0) ∈ D.st j → klo X v π → LO R S0 D j v π)
  (h77 : Zi S2 77 = nI j) (h73 : Zi S2 73 = nI (bs f + wl (D.st j))) (h75 : Zr S2 75 = Zr S 75) (h76 : Zi S2 76 = Zi S 76) : NXt R S0 vt tb i D k f x bs S S2 := by
  obtain ⟨hD, hkk, hW, hG, hE⟩ := hk
  have hy := nYk_of hL
  obtain ⟨j1, j2, j3, j4, j5⟩ := hD.in e
  obtain ⟨Y, y1, y2, y3, y4⟩ := kT.finR (D := D) (j := j) (i := i) (R := R) (S0 := S0) hy yB_yT hX (by rw [kUx_top]; exact x2) (by rw [kUx_top]; exact x1) (by rw [kUx_top]; exact hst) (by rw [kUx_top]; exact hal) (by rw [kUx_top]; exact hH1) (by rw [kUx_top]; exact hH2) (by rw [kUx_top]; exact hH3) (by rw [kUx_top]; exact hlo)
  rw [kUx_top] at y2 y4
  rw [kUx2] at y3
  obtain ⟨rt, V, C, L, H, fl, t, hh⟩ := y3
  refine ⟨j, Y, e, ⟨hD, ⟨j1, j2, j5⟩, j3 hW, hg, hE⟩, h77, h73, ⟨h75, h76⟩, y1, y2.trans xA, rt, V, C, L, H, fl, t, hh, (fun r m w => absurd w (h3 r m)), fun q r m v ρ hq w hm hv => ?_⟩
  rw [kUx_top, y1.1]
  have h7 := hh.1.2.2.2.2.2.2.2.1 f (Nat.le_refl f) r (64 * ((64 * cdP v ρ + m) % 64))
  rw [kUx_top, y1.2.1] at h7
  have hm8 : (q, r, 64 * ((64 * cdP v ρ + m) % 64)) ∈ trL (AL D j) (D.st j) := trL_56 hq w
  have h300 : ∃ a : lLc, kR Y 300 = some a := by
    rcases hq with rfl | rfl
    · obtain ⟨_, a0, π, p, _⟩ := h7.1 hm8
      exact ⟨_, p⟩
    · obtain ⟨_, a0, π, p, _⟩ := h7.2 hm8
      exact ⟨_, p⟩
  obtain ⟨a, ha⟩ := h300
  obtain ⟨d, π, p1, p2⟩ := h5 q r m v ρ hq w hm hv
  refine ⟨d, π, ?_, ?_⟩
  · rcases y4 300 with z | ⟨z, _⟩
    · rw [z]; exact p1
    · rw [z] at ha; cases ha
  · rcases p2 with p2 | ⟨π0, ρ2, q1, q2⟩
    · exact Or.inl p2
    · refine Or.inr ⟨π0, ρ2, ?_, q2⟩
      rcases y4 v with z | ⟨_, z⟩
      · rw [z]; exact q1
      · omega
/-- PART -/
theorem s_23 (hL : LFS R S0 g) (hx : LX S0 Sl) (hE : hFE R S0 D) (h : RQ R S0 vt tb i D k f x bs Sl k S) (hQ : D.Pe < 24000) (hk : (D.I k).kd = 23) : Rt (f_step R.K S) (fun S2 _ => RTt R S0 vt tb i D k f x bs Sl S S2) := by
  have h24 := h.k24 hQ
  have hy := nYk_of hL
  have hB := yB_yT (R := R) (S0 := S0)
  refine stp_23 h hQ hk (fun S1 h1 e70 e3 er el => ?_)
  have hp := h1.pt.1
  unfold tPt at hp
  rw [hk] at hp
  obtain ⟨_, v, ρ, w, q9, g9, m9, r, hvs, hw4, ho, ⟨l, hln⟩, hs, ⟨hwr, hnr, hmu⟩, hwrn, hq70, hg12, h3k, hgl, hml, hpa, ⟨hv4, had⟩, hvr, hpt, hms, hlen, hiu, hvtw, ht9, hJ9⟩ := hp
  have hEy := h1.1.2.2.2.2
  rw [hEy] at h3k hgl hml hpa hpt hvtw ht9 hJ9
  have hFn := h1.1.1
  have hn31 : (D.I k).n3 ≤ 1 := ((hFn.1.2.2 k h1.1.2.1.1 h1.1.2.1.2.1).2.2.2.1 l hln).2.2
  obtain ⟨Q, e1, hQ56, e3q, hQ5⟩ : ∃ Q : Nat, (if (D.I k).n3 = 1 then 5 else 6) = Q ∧ (Q = 5 ∨ Q = 6) ∧ (if (D.I k).n3 = 1 then 10000 else 10001) = 9995 + Q ∧ ((Q = 5 ∧ (D.I k).n3 = 1) ∨ (Q = 6 ∧ (D.I k).n3 = 0)) := by
    by_cases c : (D.I k).n3 = 1
    · rw [if_pos c, if_pos c]; exact ⟨5, rfl, Or.inl rfl, rfl, Or.inl ⟨rfl, c⟩⟩
    · rw [if_neg c, if_neg c]; exact ⟨6, rfl, Or.inr rfl, rfl, Or.inr ⟨rfl, by omega⟩⟩
  rw [e1] at hs hJ9
  rw [e3q] at hvtw
  generalize hU : (yT R S0).2.2.2.2 (4 + q9) g9 m9 = U at hpa hvtw ht9
  generalize hN9 : (yT R S0).2.2.2.1 (4 + q9) g9 = N9 at hml hJ9
  have hN12 : N9 ≤ 12 := by rw [← hN9]; exact (hy.2.2.2 (4 + q9) g9 h3k hgl).2.1
  have hgt := h1.1.2.2.2.1
  rw [hs] at hgt
  have hrn := hgt.tl
  have hed : edg D k (k + 1) := h1.e1 (kd_s hk (by decide))
  have k24 : (D.I k).kd ≠ 24 := by rw [hk]; decide
  have hmk : ∀ c : Nat, (Q, q9 * 12 + g9, c).1 = 8 ∨ (Q, q9 * 12 + g9, c).1 = 4 ∨ (Q, q9 * 12 + g9, c).1 = 5 ∨ (Q, q9 * 12 + g9, c).1 = 6 := fun c => by
    show Q = 8 ∨ Q = 4 ∨ Q = 5 ∨ Q = 6
    omega
  have wst : wl (D.st k) = 0 := by rw [hs, wl_0 (hmk _), hwr]
  have hb := h1.sb
  have h73 := h1.2.2.2.1.2.1
  rw [wst] at h73 hb
  obtain ⟨va, v9, ty, mu, z1, z2, z3, z4, z5⟩ := h1.2.1.2.2.2.2.2.2.2.2.2.2.1 (Or.inr (Or.inr (Or.inl hk)))
  obtain rfl : v9 = w := by rw [hvs] at z2; exact (List.cons.inj z2).1.symm
  have hX1 := h1.2.2.1
  have e := hX1.1
  obtain ⟨rt, V, C, L, H, fl, t9, ⟨hJ, hN, hC, hF⟩, _, h5v⟩ := h1.2.2.2.2.2.2.1
  obtain ⟨a1, a2, a3, a4, a5, a6⟩ := h1.2.2.2.2.2.1
  have hvt : vt (x f).1 = D.E.vt := by rw [a1]; exact h1.2.2.2.2.2.2.2.2.1
  have hf6 := h1.2.2.2.2.1
  have hws := h1.2.2.2.2.2.2.2.1
  have hro := hN.room hy hC hf6 hws hF.2.2.2.2
  have h76 := h1.2.2.2.1.2.2
  have wx : wl (x f).2.1 = 0 := by rw [h1.st.2]; exact wst
  have er12 : (q9 * 12 + g9) / 12 = q9 := by omega
  have em12 : (q9 * 12 + g9) % 12 = g9 := by omega
  have e64 : 64 * m9 / 64 = m9 := by omega
  have hS : (x f).2.1 = (Q, q9 * 12 + g9, 64 * m9) :: trL (AL D k) r := by
    rw [a2, hs]
    show trE (AL D k) (wl r) (Q, q9 * 12 + g9, 64 * cdP v ρ + m9) :: trL (AL D k) r = _
    rw [trE_56 hQ56]
    show (Q, q9 * 12 + g9, 64 * ((64 * cdP v ρ + m9) % 64)) :: trL (AL D k) r = _
    rw [show (64 * cdP v ρ + m9) % 64 = m9 by omega]
  have wl0 : wl (trL (AL D k) r) = 0 := by rw [trL_wl]; exact hwr
  have hvold : (8, v9, 0) ∉ (x f).2.1 := fun z => by
    rw [hS] at z
    rcases List.mem_cons.mp z with z | z
    · have := (Prod.mk.inj z).1
      omega
    · exact hwrn (trL_8.mp z)
  have hvS : (8, v, 0) ∈ (x f).2.1 := by rw [hS]; exact List.mem_cons_of_mem _ (trL_8.mpr hvr)
  have hvw : v ≠ v9 := fun z => by rw [z] at hvS; exact hvold hvS
  have hal : ∀ u : Nat, u ≠ v9 → (u < 40 ∧ AL D (k + 1) u) → kal (x f) u := fun u hu q => by
    rw [a5]
    exact ⟨q.1, hFn.al hed (by omega) (fun z => by rw [ho] at z; exact hu (Option.some.inj z).symm) q.2⟩
  have hlo : ∀ (u : Nat) (π : lLc), u ≠ v9 → ¬ (LO R S0 D (k + 1) u π ∨ 40 ≤ u) → ¬ klo (x f) u π := fun u π hu hn q => by
    rw [a6] at q
    by_cases c : u < 40
    · exact hn (Or.inl (hFn.lv9 hL hEy hed c q (Or.inr (Or.inr (Or.inr (Or.inl hk)))) (by rw [hvs]; exact fun z => hu (List.mem_singleton.mp z)) (by rw [hk]; decide)))
    · exact hn (Or.inr (by omega))
  have hcod : ∀ (v' q' r' m' : Nat) (ρ' : lLc) (s' : List tE), D.st k = (q', r', 64 * cdP v' ρ' + m') :: s' → m' < 64 → v' = v ∧ ρ' = ρ ∧ q' = Q := fun v' q' r' m' ρ' s' z zm => by
    rw [hs] at z
    obtain ⟨z, _⟩ := List.cons.inj z
    obtain ⟨z1, z⟩ := Prod.mk.inj z
    obtain ⟨_, z⟩ := Prod.mk.inj z
    obtain ⟨y1, y2⟩ := cdP_inj (show cdP v ρ = cdP v' ρ' by omega)
    exact ⟨y1.symm, y2.symm, z1.symm⟩
  have hd1 : ∀ κ : Nat, kH (x f) 300 κ → HK D (k + 1) v9 κ := fun κ q => by
    rw [a4] at q
    rcases q with ⟨q, _⟩ | ⟨_, v', q', r', m', ρ', s', q1, q2, q3, q4⟩
    · omega
    · obtain ⟨rfl, rfl, rfl⟩ := hcod v' q' r' m' ρ' s' q1 q3.1
      rcases q4 with q4 | ⟨q4, q5⟩
      · rw [q4]
        refine hFn.hn hed (by omega) ho ⟨hln, ?_, Or.inr ⟨hk, g9, m9, _, hpa⟩⟩
        rcases hQ5 with ⟨c1, c2⟩ | ⟨c1, c2⟩
        · rw [c1, c2]; rfl
        · rw [c1, c2]; rfl
      · exact hFn.hf hed (by omega) ho k24 (by rw [(hiu.1 q4).2]; exact List.mem_singleton_self _) q5.1
  have hmt : ∀ e : tE, e ∈ trL (AL D k) r → ¬ (e.1 = 4 ∨ e.1 = 5 ∨ e.1 = 6) := trL_4 (pn_4 hrn)
  obtain ⟨d, π, b1, b2, b3, b4, hJ2⟩ := kJ_bindR (hd := HK D (k + 1) v9) (al2 := fun u => u < 40 ∧ AL D (k + 1) u) (lo2 := fun u π => LO R S0 D (k + 1) u π ∨ 40 ≤ u) hB.2.2.1 hJ a3 (by rw [er12, em12, e64, hU]; exact ht9) hQ56 hS hmt hw4 (fun z => hwrn (trL_8.mp z)) (by rw [er12]; exact h3k) (by rw [er12, em12, e64, hN9]; exact hml) (by rw [er12, em12, e64, hU, hvt]; exact hvtw) hal hlo hd1
  rw [er12, em12] at b2
  rw [er12] at b4
  rw [em12, e64] at hJ2
  -- where the part lies
  obtain ⟨d', π', c1, c2⟩ := h5v Q _ m9 v ρ hQ56 (by rw [hs]; exact List.mem_cons_self ..) (by omega) hv4
  rw [b1] at c1
  obtain ⟨rfl, rfl⟩ := List.cons.inj (Option.some.inj c1)
  have hrf : Nat.le f f := Nat.le_refl f
  have hkv : isRf (vt (x f).1 v) → kA (x f) v := fun z => by
    refine Or.inl ⟨hv4, ?_⟩
    rw [hvt] at z
    rw [a5]
    exact ⟨hv4, Or.inl (by rw [(hiu.1 z).1]; exact List.mem_singleton_self _)⟩
  have hdl : d.1 ≤ f ∧ d.2 < 40 ∧ (8, d.2, 0) ∈ (x d.1).2.1 := by
    rcases c2 with ⟨q1, _, _⟩ | ⟨π0, ρ2, q1, _, _, q4⟩
    · rw [q1]; exact ⟨Nat.le_refl _, hv4, hvS⟩
    · obtain ⟨l1, l2, l3, _⟩ := hJ.ld (Nat.le_refl f) (hkv q4) q1
      exact ⟨l1, l2, l3⟩
  obtain ⟨p1, p2, p3⟩ := hN.hd hy (d := d) hdl.1 hdl.2.1 hdl.2.2
  have hpt1 : qW (yT R S0) (4 + q9) [(g9 + 2, m9)] U := ⟨h3k, hgl, by rw [hN9]; exact hml, hU.symm⟩
  have hwp := qW_app b4 hpt1
  have hqp : qPl (V d) (π ++ [(g9 + 2, m9)]) := qF_pl (((hJ.1 d).1 π _ _ b2).2.2.2.2 h3k m9 (by rw [hN9]; exact hml))
  obtain ⟨⟨kk, zz1⟩, zz2, _⟩ := p1
  obtain ⟨nn, hnn⟩ := zz1.wk hy zz2 hwp (prS.of (hJ.1 d) hqp)
  have hn0 := hnn (nMS S1) (fun _ _ => ⟨rfl, rfl⟩) (fun _ _ => ⟨rfl, rfl, rfl⟩)
  have hn4 := hn0.lt p3
  have hgw : gWk (yT R S0) (zN R S0) (nMS S1) (D.E.vt v) (hdN (C (f, v))) (ρ ++ [(g9 + 2, m9)]) nn := by
    have hkr := (hJ.2.2.2.2.2.2.1 f (Nat.le_refl f) v hv4 hvS).1
    rw [hvt] at hkr
    rcases c2 with ⟨q1, q2, q3⟩ | ⟨π0, ρ2, q1, q2, q3, q4⟩
    · rw [hvt] at q3
      refine Or.inl ⟨q3, ?_⟩
      rw [q1, q2, hkr] at hn0
      exact hn0
    · obtain ⟨m1, m2, m3, m4, _⟩ := hN.2.2.2 f v d π0 (Nat.le_refl f) (hkv q4) (Or.inl ⟨hv4, hvS⟩) q1
      obtain ⟨m0, y1, y2⟩ := m4 hv4
      obtain ⟨_, r', π9, e9, d1, d2, d3⟩ := hJ.2.2.1 f (Nat.le_refl f) v (d :: π0) (hkv q4) q1
      obtain ⟨rfl, rfl⟩ := List.cons.inj e9
      rw [hkr] at d2
      rw [hvt] at q4
      rw [q2, List.append_assoc] at hn0
      obtain ⟨n9, u1, u2⟩ := hn0.cut d2
      have e9 := wRn.det u1 m3
      subst e9
      refine Or.inr ⟨q4, ρ2 ++ [(g9 + 2, m9)], n9, by rw [q3]; rfl, ?_, m2, u2⟩
      rw [y1]; exact y2
  obtain ⟨wp, r1, r2, r3⟩ := h1.fd (n := hdN (C (f, v))) (m := (ρ ++ [(g9 + 2, m9)]).length) (n2 := nn) hL hx hE hQ hN hpa hv4 (by rw [hs]; exact List.mem_cons_of_mem _ hvr) k24 rfl (Nat.le_refl _) (Or.inr (by rw [List.take_length]; exact hgw))
  obtain ⟨sl1, _⟩ := slo_ (R := R) (S := S1) e z3 h76
  have q40 : rQ S1 40 (nI k) = some (some va) := by rw [rQ_n (show k < rlen 40 from h24) (by decide), e.2.2.2.1, z1]
  refine Rt.bd q40 (Rt.be sl1 (Rt.bd r1 (Rt.bd r1 (Rt.bd r2 (Rt.be r3 ?_)))))
  show Rt (bnd (f_leaf R.K S1 (nL nn)) _) _
  refine Rt.bn (lea_ hF (fun z => by rw [z] at hro; have hro : t9 ≤ 0 + 424640 := hro; omega)) (fun S5 r5 ⟨nl, fl3, t3, y1, y2, y3, b6, b7, y6, y7, b8⟩ => ?_)
  rw [y1]
  refine Rt.bd (wRI_n (show 40 * f + v9 < rlen 74 from by show _ < 2440; omega) (by decide)) ?_
  unfold f_step_590
  have go6 : GO (fun _ => False) (fun _ => False) (fun p => p = 40 * f + v9) S5 (Ur S5 74 (upd (Zr S5 74) (40 * f + v9) (nI nl))) := Ur.go rfl
  have x6 : Zr (Ur S5 74 (upd (Zr S5 74) (40 * f + v9) (nI nl))) 74 = upd (Zr S5 74) (40 * f + v9) (nI nl) := Zr_us
  have i6 : Zi (Ur S5 74 (upd (Zr S5 74) (40 * f + v9) (nI nl))) = Zi S5 := rfl
  have l6 : Zl (Ur S5 74 (upd (Zr S5 74) (40 * f + v9) (nI nl))) = Zl S5 := rfl
  have r6 : ∀ q : Nat, q ≠ 74 → Zr (Ur S5 74 (upd (Zr S5 74) (40 * f + v9) (nI nl))) q = Zr S5 q := fun q hq => Zr_u9 hq
  have f6 : FLs (Ur S5 74 (upd (Zr S5 74) (40 * f + v9) (nI nl))) fl3 t3 := b6.eq rfl rfl (r6 63 (by decide))
  generalize Ur S5 74 (upd (Zr S5 74) (40 * f + v9) (nI nl)) = S6 at go6 x6 i6 l6 r6 f6
  have n6 : nMS S6 = nMS S5 := by
    show (Zl S6 61, Zr S6 62, Zr S6 63) = (Zl S5 61, Zr S5 62, Zr S5 63)
    rw [l6, r6 62 (by decide), r6 63 (by decide)]
  have hnl := (b8.1 nl (List.mem_singleton_self nl)).2.2
  have go : GO (fun a => a ∈ fl ∨ t9 < a) (fun _ => False) (fun p => p = 40 * f + v9) S1 S6 := (b7.go.mo (fun a z => by rw [z]; exact hnl) (fun _ z => z) (fun _ z => z)).tr (go6.mo (fun _ z => z.elim) (fun _ z => z) (fun _ z => z))
  have hag : ∀ l : List Nat, (∀ a ∈ l, a ∉ fl ∧ a ≤ t9) → agN (nMS S1) (nMS S6) l := fun l hl => go.ag (fun a ha z => by
    obtain ⟨w1, w2⟩ := hl a ha
    rcases z with z | z
    · exact w1 z
    · omega)
  have hL40 : L (f, 40) = [] ∧ H (f, 40) = [] := ((hN.1 f 40 (Nat.le_refl f)).2.2 (fun z => by rcases z with z | z <;> omega)).2
  have hkw : isRf (vt (x f).1 v9) := by
    rw [hvt, hvtw]
    exact ⟨by omega, by omega⟩
  have hkw2 : (yT R S0).1 (vt (x f).1 v9) ≠ 2 ∧ (yT R S0).1 (vt (x f).1 v9) ≠ 3 ∧ (yT R S0).1 (vt (x f).1 v9) ≠ 4 := by
    rcases (yRf (R := R) (S0 := S0)).mpr hkw with z | z <;> rw [z] <;> decide
  -- the mark stays, or goes
  have hst9 : ∃ (sk : List tE) (V3 : Nat × Nat → qV), kJ (yT R S0) vt tb f (kUx x f ((x f).1, sk, 0, lUp (kR (x f)) v9 (some (d :: (π ++ [(g9 + 2, m9)]))), lUp (kH (x f)) v9 (HK D (k + 1) v9), (fun u => u < 40 ∧ AL D (k + 1) u), (fun u π => LO R S0 D (k + 1) u π ∨ 40 ≤ u), kAn (x f))) (qRt rt (f, v9) (vt (x f).1 v9)) V3 ∧ V3 (f, v9) = qL (vt (x f).1 v9) ∧ (∀ q : Nat × Nat, ¬ (q.1 = f ∧ (q.2 = v9 ∨ 40 ≤ q.2)) → V3 q = V q) ∧ wl sk = 0 ∧ (∀ u : Nat, (8, u, 0) ∈ sk ↔ u = v9 ∨ (8, u, 0) ∈ (x f).2.1) ∧ wkS sk (trL (AL D (k + 1)) (D.st (k + 1))) ∧ wl (D.st (k + 1)) = 0 ∧ ((∀ a ∈ D.st (k + 1), pnE a) ∨ (m9 + 1 < 64 ∧ ∃ s : List tE, D.st (k + 1) = (Q, q9 * 12 + g9, 64 * cdP v ρ + (m9 + 1)) :: s ∧ ∀ a ∈ s, pnE a)) := by
    have hr8 : ∀ a ∈ (8, v9, 0) :: r, pnE a := fun a ha => by
      rcases List.mem_cons.mp ha with q | q
      · rw [q]; exact pnE_k (Or.inr (Or.inr (Or.inr rfl)))
      · exact hrn a q
    have hm8 : ∀ e : tE, e ∈ (8, v9, 0) :: trL (AL D k) r → ¬ (e.1 = 4 ∨ e.1 = 5 ∨ e.1 = 6) := fun a ha => by
      rcases List.mem_cons.mp ha with q | q
      · rw [q]; show ¬ ((8 : Nat) = 4 ∨ (8 : Nat) = 5 ∨ (8 : Nat) = 6); decide
      · exact hmt a q
    have V2q : ∀ q : Nat × Nat, ¬ (q.1 = f ∧ (q.2 = v9 ∨ 40 ≤ q.2)) → qUp V (f, v9) (qL (vt (x f).1 v9)) q = V q := fun q hq => qUp_ne (fun z => hq (by rw [z]; exact ⟨rfl, Or.inl rfl⟩))
    have mem8 : ∀ u : Nat, (8, u, 0) ∈ (8, v9, 0) :: trL (AL D k) r ↔ u = v9 ∨ (8, u, 0) ∈ (x f).2.1 := fun u => by
      rw [hS, List.mem_cons, List.mem_cons]
      constructor
      · rintro (q | q)
        · exact Or.inl (Prod.mk.inj (Prod.mk.inj q).2).1
        · exact Or.inr (Or.inr q)
      · rintro (q | q | q)
        · rw [q]; exact Or.inl rfl
        · have := (Prod.mk.inj q).1
          omega
        · exact Or.inr q
    rcases hJ9 with ⟨_, _, _, hw⟩ | ⟨hm1, _, _, hw⟩
    · have hJ3 := kJ_popM (e := (Q, q9 * 12 + g9, 64 * m9 + 64)) (r := (8, v9, 0) :: trL (AL D k) r) hJ2 (by rw [kUx_eq]) (by rw [kUx_eq]) (by show Q = 4 ∨ Q = 5 ∨ Q = 6; omega) hm8
      rw [kUx_eq, kUx2] at hJ3
      refine ⟨(8, v9, 0) :: trL (AL D k) r, _, hJ3, ?_, fun q hq => ?_, by rw [wl_0 (Or.inl rfl)]; exact wl0, mem8, trL_c hw (show (8 : Nat) ≠ 3 by decide) (show (8 : Nat) ≠ 5 by decide) (show (8 : Nat) ≠ 6 by decide) (fun n hn => by rw [hwr] at hn; omega), by rw [wkS_wl hw, wl_0 (Or.inl rfl)]; exact hwr, Or.inl (wkS_pn hw hr8)⟩
      · rw [kC3_out (Or.inr (by omega)), qUp_eq]
      · obtain ⟨qa, qb⟩ := q
        rw [kC3_out ?_]
        · exact V2q _ hq
        · by_cases c : qa = f
          · refine Or.inr (Nat.lt_of_not_le (fun z => hq ⟨c, Or.inr (by show 40 ≤ qb; omega)⟩))
          · exact Or.inl c
    · have hjq : ∃ s : List tE, D.st (k + 1) = (Q, q9 * 12 + g9, 64 * cdP v ρ + (m9 + 1)) :: s ∧ wkS ((8, v9, 0) :: r) s := by
        cases hst : D.st (k + 1) with
        | nil => rw [hst] at hw; exact hw.elim
        | cons a s =>
          rw [hst] at hw
          rcases hw.1 with z | ⟨t2, _, _, z⟩
          · rw [z]; exact ⟨s, rfl, hw.2⟩
          · rcases z with ⟨t, _, z⟩ | ⟨T, z | z⟩
            · have := (Prod.mk.inj z).1; omega
            · have := (Prod.mk.inj z).1; omega
            · have := (Prod.mk.inj z).1; omega
      obtain ⟨s, j1, j2⟩ := hjq
      refine ⟨(Q, q9 * 12 + g9, 64 * m9 + 64) :: (8, v9, 0) :: trL (AL D k) r, _, hJ2, qUp_eq, V2q, by rw [wl_0 (hmk _), wl_0 (Or.inl rfl)]; exact wl0, fun u => ?_, ?_, ?_, Or.inr ⟨by omega, s, j1, wkS_pn j2 hr8⟩⟩
      · rw [List.mem_cons, mem8]
        constructor
        · rintro (q | q)
          · have := (Prod.mk.inj q).1
            omega
          · exact q
        · exact Or.inr
      · rw [j1]
        show wkS _ (trE (AL D (k + 1)) (wl s) (Q, q9 * 12 + g9, 64 * cdP v ρ + (m9 + 1)) :: trL (AL D (k + 1)) s)
        rw [trE_56 hQ56]
        show wkS _ ((Q, q9 * 12 + g9, 64 * ((64 * cdP v ρ + (m9 + 1)) % 64)) :: trL (AL D (k + 1)) s)
        rw [show (64 * cdP v ρ + (m9 + 1)) % 64 = m9 + 1 by omega]
        exact ⟨Or.inl rfl, trL_c j2 (show (8 : Nat) ≠ 3 by decide) (show (8 : Nat) ≠ 5 by decide) (show (8 : Nat) ≠ 6 by decide) (fun n hn => by rw [hwr] at hn; omega)⟩
      · rw [j1, wl_0 (hmk _), wkS_wl j2, wl_0 (Or.inl rfl)]; exact hwr
  obtain ⟨sk, V3, hJ3, v3a, v3b, wsk, sk8, hskw, wj, hjc⟩ := hst9
  obtain ⟨nv1, nv2⟩ := hN.nv (X := ((x f).1, sk, 0, lUp (kR (x f)) v9 (some (d :: (π ++ [(g9 + 2, m9)]))), lUp (kH (x f)) v9 (HK D (k + 1) v9), (fun u => u < 40 ∧ AL D (k + 1) u), (fun u π => LO R S0 D (k + 1) u π ∨ 40 ≤ u), kAn (x f))) (n := 1) (w := fun _ => v9) (c := fun _ => [nl]) (l := fun _ => []) (h := fun _ => []) (M2 := nMS S6) (sk2 := Zl S6 72) (pl2 := Zr S6 74) (tk2 := Zr S6 67) (fl2 := fl3) (t2 := t3) (A := fun a => a ∈ fl ∨ t9 < a) (rt2 := qRt rt (f, v9) (vt (x f).1 v9)) (V2 := V3) hy hJ hC hf6 hws (by rw [wx]; decide) wsk (fun u => by
      show (8, u, 0) ∈ sk ↔ (∃ i : Nat, i < 1 ∧ u = v9) ∨ (8, u, 0) ∈ (x f).2.1
      rw [sk8]
      exact or_congr ⟨fun z => ⟨0, by decide, z⟩, fun ⟨_, _, z⟩ => z⟩ Iff.rfl) rfl (fun _ _ => ⟨hw4, hvold⟩) (fun a b ha hb _ => by omega) (fun q hq => by
      have n1 : q ≠ (f, v9) := fun z => hq (by rw [z]; exact ⟨rfl, Or.inl ⟨0, by decide, rfl⟩⟩)
      exact ⟨qRt_ne n1, v3b q (fun z => hq ⟨z.1, z.2.imp (fun y => ⟨0, by decide, y⟩) id⟩)⟩) (fun i _ => by
      rw [qRt_eq, v3a, x6, n6]
      refine ⟨⟨1, Or.inr ⟨hkw2.1, nl, rfl, Or.inr ⟨y7, Or.inr (Or.inr ⟨hkw2.2.1, hkw2.2.2, ⟨_, rfl⟩, rfl, rfl⟩)⟩⟩⟩, ⟨fun a ha => by rw [List.mem_singleton.mp ha]; exact ⟨y2, y3⟩, fun i a b _ h2 => by
        have h2 : ([] : List Nat)[i]? = some b := h2
        cases h2⟩, upd_s⟩) (fun j u hj hu h8 => by
      rw [x6, upd_n (fun z => ?_), b7.2.2.2.2.2.2.1 74 (by decide) (by decide)]
      obtain rfl : j = f := by omega
      obtain rfl : u = v9 := by omega
      exact hvold h8) (fun u d2 π2 hu hA hR => by
      have hR : lUp (kR (x f)) v9 (some (d :: (π ++ [(g9 + 2, m9)]))) u = some (d2 :: π2) := hR
      by_cases c0 : u = v9
      · subst c0
        rw [lUp_eq] at hR
        obtain ⟨rfl, rfl⟩ := List.cons.inj (Option.some.inj hR)
        refine Or.inr ⟨0, nl, nn, by decide, rfl, hdl, rfl, ?_, hn4, ?_⟩
        · rw [n6]; exact y6
        · have nf : ∀ a : Nat, (a ∈ C d ∨ a ∈ L d) → a ∉ fl ∧ a ≤ t9 := fun a ha => by
            obtain ⟨q1, _, q3, _⟩ := hC.one (r := d) (by omega) (by omega) ha
            exact ⟨q1, q3⟩
          refine hnn (nMS S6) (fun a ha => ?_) (hag _ (fun a ha => nf a (Or.inr ha)))
          obtain ⟨k1, _, k3⟩ := hag _ (fun a ha => nf a (Or.inl ha)) a ha
          exact ⟨k1, k3⟩
      · rw [lUp_ne c0] at hR
        refine Or.inl ⟨?_, hR, fun ⟨_, _, z⟩ => c0 z⟩
        rcases hA with ⟨q1, q2⟩ | ⟨q1, _⟩
        · exact Or.inl ⟨q1, hal u c0 q2⟩
        · omega) (fun a z => go.2.2.2.1 a z) (fun a z => z.imp id (fun y => Or.inl y)) (fun a => by
      rw [psN_1u, hL40.1]
      have := b8.ct hF hC.f1 b6.2.2.2.1 y2 a
      show ((if nl = a then 1 else 0) + 0) + 0 + cnN a fl3 + ind t9 a = 0 + cnN a fl + ind t3 a
      omega) (fun q => by rw [psN_1u]; exact ⟨Nat.zero_le _, go.2.2.2.2.1 q (fun z => z)⟩) (fun q hq => by rw [l6, b7.2.2.2.2.2.1 72 (by decide)])
  refine Rt.rt ⟨hX1.go go ((b7.wq hX1.2.1).eq (by rw [i6]) (by rw [i6])) ?_, Or.inr ⟨(go.2.1 3 (by decide)).trans e3, (go.2.1 70 (by decide)).trans e70, NXt.fr ?_ er ?_⟩⟩
  · rw [i6, b7.2.2.2.2.2.2.2.1 81 (by decide) (by decide)]; exact hX1.2.2.2.2
  · have hgj : gtS (D.st (k + 1)) := by
      rcases hjc with q | ⟨_, s, q1, q2⟩
      · exact gtS.of q
      · rw [q1]; exact gtS.cn q2
    have h3j : ∀ r m : Nat, (3, r, m) ∉ D.st (k + 1) := fun r m z => by
      rcases hjc with q | ⟨_, s, q1, q2⟩
      · exact absurd rfl (q _ z).1
      · rw [q1] at z
        rcases List.mem_cons.mp z with z | z
        · have := (Prod.mk.inj z).1; omega
        · exact absurd rfl (q2 _ z).1
    have hkv40 : ∀ κ : Nat, HK D k v κ → HK D (k + 1) v κ := fun κ q => hFn.hk hed (by omega) (fun z => by rw [ho] at z; exact hvw (Option.some.inj z).symm) q
    refine finG5 (X := ((x f).1, sk, 0, lUp (kR (x f)) v9 (some (d :: (π ++ [(g9 + 2, m9)]))), lUp (kH (x f)) v9 (HK D (k + 1) v9), (fun u => u < 40 ∧ AL D (k + 1) u), (fun u π => LO R S0 D (k + 1) u π ∨ 40 ≤ u), kAn (x f))) hL h1.1 hed ⟨_, _, _, _, _, fl3, t3, hJ3, nv1, nv2, f6⟩ rfl a1 rfl hskw hgj h3j (fun q' r' m' v' ρ' hq' z zm zv => ?_) (fun u hu q => ⟨hu, q⟩) (fun u κ hu q z => ?_) (fun m κ hm => by rw [wj] at hm; omega) (fun κ r1 m q z => ?_) (fun u π hu4 _ q => ?_) ((go.2.1 77 (by decide)).trans h1.2.2.2.1.1) ?_ go.2.2.1 (go.2.1 76 (by decide))
    · rcases hjc with q | ⟨hm64, s, q1, q2⟩
      · exact (hq'.elim (q _ z).2.2.1 (q _ z).2.2.2.1).elim
      · rw [q1] at z
        rcases List.mem_cons.mp z with z | z
        · obtain ⟨_, z⟩ := Prod.mk.inj z
          obtain ⟨_, z⟩ := Prod.mk.inj z
          obtain ⟨y1, y2⟩ := cdP_inj (show cdP v ρ = cdP v' ρ' by omega)
          subst y1; subst y2
          rw [a1] at c2
          refine ⟨d, π, ?_, ?_⟩
          · show lUp (kR (x f)) v9 _ 300 = _
            rw [lUp_ne (by omega)]; exact b1
          · rcases c2 with c2 | ⟨π0, ρ2, c2, c3⟩
            · exact Or.inl c2
            · refine Or.inr ⟨π0, ρ2, ?_, c3⟩
              show lUp (kR (x f)) v9 _ v = _
              rw [lUp_ne hvw]; exact c2
        · exact (hq'.elim (q2 _ z).2.2.1 (q2 _ z).2.2.2.1).elim
    · have z : lUp (kH (x f)) v9 (HK D (k + 1) v9) u κ := z
      by_cases c0 : u = v9
      · subst c0; rw [lUp_eq] at z; exact z
      · rw [lUp_ne c0, a4] at z
        rcases z with ⟨_, z⟩ | ⟨z, _⟩
        · exact hFn.hk hed (by omega) (fun y => by rw [ho] at y; exact c0 (Option.some.inj y).symm) z.1
        · omega
    · have z : lUp (kH (x f)) v9 (HK D (k + 1) v9) 300 κ := z
      rw [lUp_ne (by omega), a4] at z
      rcases hjc with q9' | ⟨hm64, s, q1, q2⟩
      · rcases q with q | q
        · exact absurd (Or.inr (Or.inl rfl)) (trL_4 (pn_4 q9') _ q)
        · exact absurd (Or.inr (Or.inr rfl)) (trL_4 (pn_4 q9') _ q)
      · rcases z with ⟨z, _⟩ | ⟨_, v', q', r', m', ρ', s', z1, z2, z3, z4⟩
        · exact absurd rfl z
        · obtain ⟨rfl, rfl, rfl⟩ := hcod v' q' r' m' ρ' s' z1 z3.1
          refine Or.inr ⟨rfl, v', q', _, m9 + 1, ρ', s, q1, z2, ⟨hm64, hv4⟩, z4.imp id (fun ⟨y1, y2⟩ => ⟨y1, hkv40 κ y2.1, fun y => by omega, fun _ y => by omega⟩)⟩
    · rcases q with q | q
      · exact q
      · omega
    · rw [i6, b7.2.2.2.2.2.2.2.1 73 (by decide) (by decide), wj]; exact h73
  · rw [h1.2.2.2.1.2.2, h.2.2.2.1.2.2]
end PS93
end
-- m5.q.lean.txt
section
section PS94
variable {R : yR} {K : Ky} {S0 Sl S S1 S2 S3 : Sg} {D : fD} {i k j f nw n v : Nat} {vt : Nat → Nat → Nat} {tb : Nat → lTb} {x : Nat → kFm} {bs : Nat → Nat} {g : Nat → Int32} {X : kFm} {al : Nat → Prop}
/-- LOOK -/
theorem s_21 (hL : LFS R S0 g) (hx : LX S0 Sl) (hE : hFE R S0 D) (h : RQ R S0 vt tb i D k f x bs Sl k S) (hQ : D.Pe < 24000) (hk : (D.I k).kd = 21) : Rt (f_step R.K S) (fun S2 _ => RTt R S0 vt tb i D k f x bs Sl S S2) := by
  have h24 := h.k24 hQ
  have hy := nYk_of hL
  have hB := yB_yT (R := R) (S0 := S0)
  refine stp_21 h hQ hk (fun S1 h1 e70 e3 er el => ?_)
  have hp := h1.pt.1
  unfold tPt at hp
  rw [hk] at hp
  obtain ⟨ho, hln, v, ρ, hi, hu, hws0, n70, y3, hac, hl1, hl2, hJ9⟩ := hp
  have hEy := h1.1.2.2.2.2
  rw [hEy] at y3 hl1 hJ9
  have k24 : (D.I k).kd ≠ 24 := by rw [hk]; decide
  have T9 : 4 + (D.I k).n1 < 10000 := by omega
  have hne : isRf (D.E.vt v) → ρ ≠ [] := fun w z => by
    rcases hi.2.2.2.1 with ⟨w2, _⟩ | ⟨_, ⟨_, w2⟩ | ⟨ρ2, w2, _⟩⟩
    · exact w2 w
    · have := w.1; omega
    · rw [z] at w2; cases w2
  have ha : (D.I k).ac ≠ 0 ∧ (D.I k).ac ≠ 7 ∧ (D.I k).ac ≠ 6 := by
    rcases hac with ⟨a, _⟩ | ⟨a, _⟩ <;> rw [a] <;> decide
  obtain ⟨rt, V, C, L, H, fl, t9, ⟨hJ, hN, hC, hF⟩, _⟩ := h1.2.2.2.2.2.2.1
  obtain ⟨d, π, n, ⟨c1, c2, c3⟩, c4, c5, c6, c7, c8, c9⟩ := h1.pn hL hJ hN hi hu hne k24 ha
  obtain ⟨a1, a2, a3, a4, a5, a6⟩ := h1.2.2.2.2.2.1
  have hvt : vt (x f).1 = D.E.vt := by rw [a1]; exact h1.2.2.2.2.2.2.2.2.1
  have htb : tb (x f).1 = tbD D := by rw [a1]; exact h1.2.2.2.2.2.2.2.2.2
  obtain ⟨w, r1, r2, r3⟩ := h1.fd (n := hdN (C (f, v))) (m := ρ.length) (n2 := n) hL hx hE hQ hN hi.1 hi.2.1.1 hi.2.2.1 k24 rfl (Nat.le_refl _) (Or.inr (by rw [List.take_length, ← hvt]; exact c8))
  have hnt := hi.2.2.2.2.2.2.2
  have hs := h1.1.2.2.2.1.all hnt
  have hst := h1.st.2
  have hFn := h1.1.1
  have hf6 := h1.2.2.2.2.1
  have hws := h1.2.2.2.2.2.2.2.1
  have hX1 := h1.2.2.1
  have e := hX1.1
  have h73 := h1.2.2.2.1.2.1
  have wx : wl (x f).2.1 = 0 := hst.trans hws0
  -- what lies there
  obtain ⟨⟨t0, gg⟩, hVg⟩ : ∃ z : Nat × Nat, V d π = some z := by
    have := (c5 [] _ qM_nil rfl).1 (by rw [y3]; decide)
    rw [List.append_nil] at this
    exact this
  obtain ⟨o1, o2, o3, _, _⟩ := (hJ.1 d).1 π t0 gg hVg
  obtain rfl : t0 = 4 + (D.I k).n1 := qW_det o1 c4
  have hgg := o3 y3
  obtain ⟨⟨⟨kk, zz1⟩, zz2, _⟩, p2, p3⟩ := hN.hd hy (d := d) c1 c2 c3
  obtain ⟨k0, c0, l0, g0, rest, hr, b1, b2, b3, _⟩ := zz1.fo hy zz2 c4 (prS.of (hJ.1 d) (qPl_of hVg))
  have hn0 : n = hdN c0 := wRn.det c6 b3
  have hSg : qS (V d) π [] = some (4 + (D.I k).n1, gg) := by
    show V d (π ++ []) = _
    rw [List.append_nil]; exact hVg
  obtain ⟨m, q3, q4, q6⟩ : ∃ m : Nat, Zl S1 61 n = nL m ∧ (1 ≤ m ∧ m < 430000) ∧ vrW (Zl S1 61 m) = nI gg := by
    cases k0 with
    | zero => exact b1.elim
    | succ k0 =>
      rcases b1 with ⟨z, _⟩ | ⟨_, n9, e9, b1⟩
      · rw [y3] at z; cases z
      · rcases b1 with ⟨z, _⟩ | ⟨_, b1⟩
        · rw [hSg] at z; cases z
        · rcases b1 with ⟨_, m, g', cs, ls, hs', u1, u2, u3, u4, _, u6, _⟩ | ⟨z, _⟩ | ⟨z, _⟩
          · rw [hSg] at u1
            obtain rfl := (Prod.mk.inj (Option.some.inj u1)).2
            refine ⟨m, ?_, u4, u6⟩
            rw [hn0, e9]; exact u3
          · rw [y3] at z; cases z
          · exact absurd y3 z
  have hgl : gg < (D.I k).sc.length := by rw [hl1]; exact hgg
  obtain ⟨j, hj, hjm⟩ := sc_at hgl
  obtain ⟨hkj, hwj⟩ := hJ9 gg j hj
  obtain ⟨a, ra, rb⟩ := h1.sc hQ (Or.inr hk) hl2 hj
  have hed : edg D k j := h1.ed hjm
  unfold f_step_477 f_runMatch f_runMatch_51
  have r27 : Zr S1 27 = Zr Sl 27 := e.2.2.2.2.2.1 27 (by decide)
  refine Rt.bn (Q := fun S2 _ => RTt R S0 vt tb i D k f x bs Sl S S2) ?_ (fun S2 _ q => by unfold f_step_590; exact Rt.rt q)
  refine Rt.bd (v := 21) (by rw [rI_n (show k < rlen 27 from h24) (by decide), r27, h1.2.1.1, hk]; rfl) (Rt.iq (by decide) ?_)
  refine Rt.bd r1 (Rt.bd r1 (Rt.bd r2 (Rt.be r3 (Rt.bd (rJ_n (show n < rlen 61 from c7) (by decide)) ?_))))
  rw [q3, nL_t]
  have hvo : f_variantOf_ R.K S1 (nI m) = some (S1, nI gg) := by
    unfold f_variantOf_
    rw [rJ_n (show m < rlen 61 from q4.2) (by decide)]
    show some (S1, vrW (Zl S1 61 m)) = _
    rw [q6]
  refine Rt.bd ra (Rt.be hvo (Rt.bd rb (Rt.bd (v := Ui S1 77 (nI j)) rfl ?_)))
  have hno : ∀ u : Nat, (D.I k).ho ≠ some u := fun u w => by rw [ho] at w; cases w
  have sm : sam S1 (Ui S1 77 (nI j)) := Ui.sam9 (by decide) (by decide)
  refine Rt.rt ⟨hX1.u77, Or.inr ⟨(Zi_n (by decide)).trans e3, (Zi_n (by decide)).trans e70, NXt.fr ?_ er (by rw [h1.2.2.2.1.2.2, h.2.2.2.1.2.2])⟩⟩
  rcases hwj with ⟨_, _, _, hwj⟩ | ⟨hpos, _, _, hwj⟩
  · exact h1.id0 hL hed hnt hwj (kdM_k hk (by decide)) ho sm (fun _ _ => rfl) Zi_s ((Zi_n (by decide)).trans h73) rfl (Zi_n (by decide))
  · obtain ⟨q, Q, hq, eQ, hQ5, hrf, hacq⟩ : ∃ q Q : Nat, (q = 1 ∨ q = 2) ∧ Q = q + 4 ∧ (if (D.I k).n3 = 1 then 5 else 6) = Q ∧ (q = 2 → isRf (D.E.vt v) → D.E.vt v % 2 = 1) ∧ ((D.I k).ac = 1 ∨ (D.I k).ac = 2 → q = 1) := by
      rcases hac with ⟨a, b⟩ | ⟨a, b, c⟩
      · exact ⟨1, 5, Or.inl rfl, rfl, by rw [if_pos b], fun z => by omega, fun _ => rfl⟩
      · exact ⟨2, 6, Or.inr rfl, rfl, by rw [b]; rfl, fun _ => c, fun z => by omega⟩
    rw [hQ5] at hwj
    have hQ56 : Q = 5 ∨ Q = 6 := by omega
    have hg12 : gg < 12 := by omega
    obtain ⟨t, hkt⟩ : ∃ t : Nat, (q = 1 ∧ t = 10000 + 2 * (4 + (D.I k).n1)) ∨ (q = 2 ∧ t = 10001 + 2 * (4 + (D.I k).n1)) := by
      rcases hq with z | z
      · exact ⟨_, Or.inl ⟨z, rfl⟩⟩
      · exact ⟨_, Or.inr ⟨z, rfl⟩⟩
    obtain ⟨m1, m2, m3⟩ := dcd_lm (v := v) (s := if Q = 5 then 1 else 0) (ρ := ρ)
    have hus : ∀ u : Nat, 40 ≤ u → u ∉ (D.I k).us := fun u h4 hm => by
      have := hi.2.1.1
      by_cases z : isRf (D.E.vt v)
      · rw [(hu.1 z).1] at hm
        have := List.mem_singleton.mp hm; omega
      · rw [(hu.2 z).1] at hm; cases hm
    have hal : ∀ u : Nat, AB D k u → u < 40 → AL D k u := fun u w h4 => w.al (hno u)
    have hck := hFn.ck h1.1.2.1.1 h1.1.2.1.2.1 h1.1.2.1.2.2 hi.1 ha.1 (fun z => z.1.elim ha.2.1 ha.2.2) (Or.inr ⟨hi.2.2.2.2.1, _, hi.2.2.2.1⟩) (A2 := fun u => (u < 40 ∧ (u < 40 ∧ AB D k u)) ∨ (40 ≤ u ∧ u < 40 + wl (x f).2.1)) (fun u κ z1 z2 => by
      rcases z1 with ⟨z3, _, z4⟩ | ⟨z3, z4⟩
      · exact ⟨by omega, z4, hno u⟩
      · omega)
    have hno56 : ∀ r m2 : Nat, (5, r, m2) ∉ (x f).2.1 ∧ (6, r, m2) ∉ (x f).2.1 := fun r m2 => by
      rw [a2]
      exact ⟨fun z => absurd (Or.inr (Or.inl rfl)) (trL_4 (pn_4 hs) _ z), fun z => absurd (Or.inr (Or.inr rfl)) (trL_4 (pn_4 hs) _ z)⟩
    have hJ2 := kJ_bor (q := q) (t := t) (l0 := lm v ρ (if Q = 5 then 1 else 0)) (d := d) (π := π) (hd := fun κ => κ = lm v ρ (if Q = 5 then 1 else 0) ∨ (isRf (D.E.vt v) ∧ HKm R S0 i D k v κ)) (al2 := fun u => u < 40 ∧ AB D k u) (v := v) (ρ := ρ) (T := 4 + (D.I k).n1) hJ a3 (by omega) hno56 T9 hkt hi.2.1.1 (by rw [a2]; exact trL_8.mpr hi.2.2.1) (fun z => by
        rw [hvt] at z
        rw [a5]
        exact ⟨hi.2.1.1, Or.inl (by rw [(hu.1 z).1]; exact List.mem_singleton_self _)⟩) (fun u z => by rw [a5]; exact ⟨z.1, hal u z.2 z.1⟩) (fun u κ g1 g2 g3 g4 g5 => by
        rw [htb] at g3 g4 g5 ⊢
        rw [a4] at g2
        exact (hck u κ g1 g2 g3 g4 g5).imp hacq id) (Or.inl rfl) (by rw [htb]; exact lm_100) (by rw [htb]; exact m1) (by rw [htb]; exact m2) (fun z => by
        rw [htb]
        show ¬ ((dcd (lm v ρ (if Q = 5 then 1 else 0))).2.2 % 2 = 1)
        rw [m3, if_neg (by omega)]; decide) (by rw [htb, hvt]; exact Iff.rfl) (fun z κ hκ => by
        rw [hvt] at z
        rw [a4] at hκ
        rcases hκ with ⟨_, hκ⟩ | ⟨hκ, _⟩
        · exact Or.inr ⟨z, hκ⟩
        · have := hi.2.1.1; omega) (fun z z2 => by
        rw [hvt] at z2 ⊢
        exact yRf6 z2 (hrf z z2)) c2 c4 c5 c9
    have hmt : ∀ e : tE, e ∈ (x f).2.1 → ¬ (e.1 = 4 ∨ e.1 = 5 ∨ e.1 = 6) := by rw [a2]; exact trL_4 (pn_4 hs)
    have hJ3 := kJ_sw1 (sh := (D.I k).n1) (g := gg) (q := q) (m := 0) (a0 := d) (π0 := π) (r := (x f).2.1) (hd := fun κ => κ = lm v ρ (if Q = 5 then 1 else 0) ∨ (isRf (D.E.vt v) ∧ HKm R S0 i D k v κ)) hB.2.2.1 hJ2 (by rw [kUx_eq]) T9 hq (by rw [kUx_eq]) hmt hg12 (by decide) (by rw [kUx_eq]; exact lUp_eq) (by rw [qUp_ne (fun z => by rw [z] at c2; have c2 : 40 + wl (x f).2.1 < 40 := c2; omega)]; exact hVg) (fun κ z => by
      rw [kUx_eq] at z
      have z : lUp (kH (x f)) (40 + wl (x f).2.1) _ (40 + wl (x f).2.1) κ := z
      rw [lUp_eq] at z; exact z)
    rw [kUx_eq, kUx2, ← eQ] at hJ3
    obtain ⟨rt3, V3, hJ3, hrV⟩ : ∃ (rt3 : Nat × Nat → Nat) (V3 : Nat × Nat → qV), kJ (yT R S0) vt tb f (kUx x f ((x f).1, (Q, (D.I k).n1 * 12 + gg, 0) :: (x f).2.1, 0, lUp (lUp (kR (x f)) (40 + wl (x f).2.1) (some (d :: π))) 300 (some (d :: π)), lUp (lUp (kH (x f)) (40 + wl (x f).2.1) (fun κ => κ = lm v ρ (if Q = 5 then 1 else 0) ∨ (isRf (D.E.vt v) ∧ HKm R S0 i D k v κ))) 300 (fun κ => κ = lm v ρ (if Q = 5 then 1 else 0) ∨ (isRf (D.E.vt v) ∧ HKm R S0 i D k v κ)), (fun u => u < 40 ∧ AB D k u), klo (x f), kAn (x f))) rt3 V3 ∧ ∀ q : Nat × Nat, ¬ (q.1 = f ∧ 40 ≤ q.2) → rt3 q = rt q ∧ V3 q = V q := by
      refine ⟨_, _, hJ3, fun q hq => ?_⟩
      have n1 : q ≠ (f, 300) := fun z => hq (by rw [z]; exact ⟨rfl, by show 40 ≤ 300; decide⟩)
      have n2 : q ≠ (f, 40 + wl (x f).2.1) := fun z => hq (by rw [z]; exact ⟨rfl, by show 40 ≤ 40 + wl (x f).2.1; omega⟩)
      exact ⟨(qRt_ne n1).trans (qRt_ne n2), (qUp_ne n1).trans ((kCl_ge (fun z => hq ⟨z.1, by have := z.2.1; omega⟩)).trans (qUp_ne n2))⟩
    have hL40 : L (f, 40) = [] ∧ H (f, 40) = [] := ((hN.1 f 40 (Nat.le_refl f)).2.2 (fun z => by rcases z with z | z <;> omega)).2
    have hmk : ∀ c : Nat, (Q, (D.I k).n1 * 12 + gg, c).1 = 8 ∨ (Q, (D.I k).n1 * 12 + gg, c).1 = 4 ∨ (Q, (D.I k).n1 * 12 + gg, c).1 = 5 ∨ (Q, (D.I k).n1 * 12 + gg, c).1 = 6 := fun c => by
      show Q = 8 ∨ Q = 4 ∨ Q = 5 ∨ Q = 6
      omega
    obtain ⟨s, hsj, hws9⟩ : ∃ s : List tE, D.st j = (Q, (D.I k).n1 * 12 + gg, 64 * cdP v ρ) :: s ∧ wkS (D.st k) s := by
      cases hst : D.st j with
      | nil => rw [hst] at hwj; exact hwj.elim
      | cons a s =>
        rw [hst] at hwj
        rcases hwj.1 with z | ⟨t2, _, _, z⟩
        · rw [z]; exact ⟨s, rfl, hwj.2⟩
        · rcases z with ⟨t, _, z⟩ | ⟨T, z | z⟩
          · have := (Prod.mk.inj z).1; omega
          · have := (Prod.mk.inj z).1; omega
          · have := (Prod.mk.inj z).1; omega
    have hsp := wkS_pn hws9 hs
    have wj : wl (D.st j) = 0 := by rw [hsj, wl_0 (hmk _), wkS_wl hws9, hws0]
    obtain ⟨nv1, nv2⟩ := hN.nv (X := ((x f).1, (Q, (D.I k).n1 * 12 + gg, 0) :: (x f).2.1, 0, lUp (lUp (kR (x f)) (40 + wl (x f).2.1) (some (d :: π))) 300 (some (d :: π)), lUp (lUp (kH (x f)) (40 + wl (x f).2.1) (fun κ => κ = lm v ρ (if Q = 5 then 1 else 0) ∨ (isRf (D.E.vt v) ∧ HKm R S0 i D k v κ))) 300 (fun κ => κ = lm v ρ (if Q = 5 then 1 else 0) ∨ (isRf (D.E.vt v) ∧ HKm R S0 i D k v κ)), (fun u => u < 40 ∧ AB D k u), klo (x f), kAn (x f))) (n := 0) (w := fun _ => 0) (c := fun _ => []) (l := fun _ => []) (h := fun _ => []) (M2 := nMS (Ui S1 77 (nI j))) (sk2 := Zl (Ui S1 77 (nI j)) 72) (pl2 := Zr (Ui S1 77 (nI j)) 74) (tk2 := Zr (Ui S1 77 (nI j)) 67) (fl2 := fl) (t2 := t9) (A := fun _ => False) (rt2 := rt3) (V2 := V3) hy hJ hC hf6 hws (by rw [wx]; decide) (by show wl ((Q, (D.I k).n1 * 12 + gg, 0) :: (x f).2.1) = 0; rw [wl_0 (hmk _)]; exact wx) (fun u => by
        show (8, u, 0) ∈ (Q, (D.I k).n1 * 12 + gg, 0) :: (x f).2.1 ↔ (∃ i : Nat, i < 0 ∧ u = 0) ∨ (8, u, 0) ∈ (x f).2.1
        rw [List.mem_cons]
        constructor
        · rintro (z | z)
          · have := (Prod.mk.inj z).1
            omega
          · exact Or.inr z
        · rintro (⟨_, z, _⟩ | z)
          · omega
          · exact Or.inr z) rfl (fun _ z => by omega) (fun a b ha hb _ => by omega) (fun q hq => hrV q (fun z => hq ⟨z.1, Or.inr z.2⟩)) (fun i z => by omega) (fun _ _ _ _ _ => rfl) (fun u d2 π2 hu hA hR => by
        have hR : lUp (lUp (kR (x f)) (40 + wl (x f).2.1) (some (d :: π))) 300 (some (d :: π)) u = some (d2 :: π2) := hR
        rw [lUp_ne (by omega), lUp_ne (by omega)] at hR
        refine Or.inl ⟨?_, hR, fun ⟨_, z, _⟩ => by omega⟩
        rcases hA with ⟨q1, q2⟩ | ⟨q1, _⟩
        · have q2 : u < 40 ∧ AB D k u := q2
          exact Or.inl ⟨q1, by rw [a5]; exact ⟨q1, hal u q2.2 q1⟩⟩
        · omega) (fun a _ => ⟨rfl, rfl, rfl⟩) (fun a z => z.elim) (fun a => by
        rw [hL40.1]
        show 0 + cnN a fl + ind t9 a = 0 + cnN a fl + ind t9 a
        rfl) (fun q => ⟨Nat.zero_le _, rfl⟩) (fun _ _ => rfl)
    refine finG5 (X := ((x f).1, (Q, (D.I k).n1 * 12 + gg, 0) :: (x f).2.1, 0, lUp (lUp (kR (x f)) (40 + wl (x f).2.1) (some (d :: π))) 300 (some (d :: π)), lUp (lUp (kH (x f)) (40 + wl (x f).2.1) (fun κ => κ = lm v ρ (if Q = 5 then 1 else 0) ∨ (isRf (D.E.vt v) ∧ HKm R S0 i D k v κ))) 300 (fun κ => κ = lm v ρ (if Q = 5 then 1 else 0) ∨ (isRf (D.E.vt v) ∧ HKm R S0 i D k v κ)), (fun u => u < 40 ∧ AB D k u), klo (x f), kAn (x f))) hL h1.1 hed ⟨_, _, _, _, _, fl, t9, hJ3, nv1, nv2, sm.fl hF⟩ rfl a1 rfl ?_ (by rw [hsj]; exact gtS.cn hsp) (fun r m z => ?_) (fun q' r' m' v' ρ' hq' z zm zv => ?_) (fun u hu q => ⟨hu, hFn.ab hed (by omega) q⟩) (fun u κ hu q z => ?_) (fun m κ hm => by rw [wj] at hm; omega) (fun κ r1 m q z => ?_) (fun u π hu4 _ q => ?_) Zi_s ?_ rfl (Zi_n (by decide))
    · rw [hsj]
      show wkS _ (trE (AL D j) (wl s) (Q, (D.I k).n1 * 12 + gg, 64 * cdP v ρ) :: trL (AL D j) s)
      rw [trE_56 hQ56]
      show wkS _ ((Q, (D.I k).n1 * 12 + gg, 64 * ((64 * cdP v ρ) % 64)) :: trL (AL D j) s)
      rw [show 64 * ((64 * cdP v ρ) % 64) = 0 by omega, a2]
      exact ⟨Or.inl rfl, trL_t hws9 (fun n hn => by rw [hws0] at hn; omega)⟩
    · rw [hsj] at z
      rcases List.mem_cons.mp z with z | z
      · have := (Prod.mk.inj z).1; omega
      · exact absurd rfl (hsp _ z).1
    · rw [hsj] at z
      rcases List.mem_cons.mp z with z | z
      · obtain ⟨_, z⟩ := Prod.mk.inj z
        obtain ⟨_, z⟩ := Prod.mk.inj z
        obtain ⟨y1, y2⟩ := cdP_inj (show cdP v ρ = cdP v' ρ' by omega)
        subst y1; subst y2
        rw [a1] at c9
        refine ⟨d, π, (show lUp (lUp (kR (x f)) (40 + wl (x f).2.1) (some (d :: π))) 300 (some (d :: π)) 300 = some (d :: π) from lUp_eq), ?_⟩
        rcases c9 with c9 | ⟨π0, ρ2, u1, u2, u3, u4, _⟩
        · exact Or.inl c9
        · refine Or.inr ⟨π0, ρ2, ?_, u2, u3, u4⟩
          show lUp (lUp (kR (x f)) (40 + wl (x f).2.1) (some (d :: π))) 300 (some (d :: π)) v = _
          rw [lUp_ne (by omega), lUp_ne (by omega)]; exact u1
      · exact (hq'.elim (hsp _ z).2.2.1 (hsp _ z).2.2.2.1).elim
    · have z : lUp (lUp (kH (x f)) (40 + wl (x f).2.1) (fun κ => κ = lm v ρ (if Q = 5 then 1 else 0) ∨ (isRf (D.E.vt v) ∧ HKm R S0 i D k v κ))) 300 (fun κ => κ = lm v ρ (if Q = 5 then 1 else 0) ∨ (isRf (D.E.vt v) ∧ HKm R S0 i D k v κ)) u κ := z
      rw [lUp_ne (by omega), lUp_ne (by omega), a4] at z
      rcases z with ⟨_, z⟩ | ⟨z, _⟩
      · exact hFn.hk hed (by omega) (hno u) z.1
      · omega
    · have z : lUp (lUp (kH (x f)) (40 + wl (x f).2.1) (fun κ => κ = lm v ρ (if Q = 5 then 1 else 0) ∨ (isRf (D.E.vt v) ∧ HKm R S0 i D k v κ))) 300 (fun κ => κ = lm v ρ (if Q = 5 then 1 else 0) ∨ (isRf (D.E.vt v) ∧ HKm R S0 i D k v κ)) 300 κ := z
      rw [lUp_eq] at z
      have hv4 := hi.2.1.1
      exact Or.inr ⟨rfl, v, Q, _, 0, ρ, s, hsj, hQ56, ⟨by decide, hv4⟩, z.imp id (fun ⟨y1, y2⟩ => ⟨y1, hFn.hk hed (by omega) (hno v) y2.1, fun y => by omega, fun _ y => by omega⟩)⟩
    · have q : klo (x f) u π := q
      rw [a6] at q
      exact hFn.lo hy hEy hed hu4 q (fun c _ _ => (kdM_k hk (by decide)).nk)
    · rw [wj]
      rw [hws0] at h73
      exact (Zi_n (by decide)).trans h73
end PS94
end
-- m5.r.lean.txt
section
section PS95
variable {R : yR} {K : Ky} {S0 Sl S S1 S2 S3 : Sg} {D : fD} {i k j f nw n v : Nat} {vt : Nat → Nat → Nat} {tb : Nat → lTb} {x : Nat → kFm} {bs : Nat → Nat} {g : Nat → Int32} {X : kFm} {al : Nat → Prop} {y : qY} {zn sz rk : Nat → Nat} {M M2 : nM} {sk : Nat → Int64} {pl : Nat → Int32} {rt : Nat × Nat → Nat} {V : Nat × Nat → qV} {C L H : Nat × Nat → List Nat} {fl fl2 : List Nat} {t : Nat} {tk tk2 : Nat → Int32}
/-- a mark within, as the running sees it -/
theorem trL_8m {r : List tE} : ∀ e : List tE, ∃ e2 : List tE, trL al (e ++ (8, v, 0) :: r) = e2 ++ (8, v, 0) :: trL al r ∧ trL al (e ++ r) = e2 ++ trL al r
  | [] => ⟨[], by
    show trE al (wl r) (8, v, 0) :: trL al r = _
    rw [trE_o (show (8 : Nat) ≠ 1 by decide) (show (8 : Nat) ≠ 2 by decide) (show (8 : Nat) ≠ 3 by decide) (show (8 : Nat) ≠ 5 by decide) (show (8 : Nat) ≠ 6 by decide)]
    rfl, rfl⟩
  | a :: e => by
    obtain ⟨e2, h1, h2⟩ := trL_8m (r := r) e
    refine ⟨trE al (wl (e ++ r)) a :: e2, ?_, ?_⟩
    · show trE al (wl (e ++ (8, v, 0) :: r)) a :: trL al (e ++ (8, v, 0) :: r) = _
      rw [wl_8m, h1]; rfl
    · show trE al (wl (e ++ r)) a :: trL al (e ++ r) = _
      rw [h2]; rfl
/-- no reference leads to a later frame -/
theorem kJ_hd1 {j u : Nat} {d : Nat × Nat} {π : lLc} (hJ : kJ y vt tb f x rt V) (hj : j ≤ f) (ha : kA (x j) u) (hr : kR (x j) u = some (d :: π)) : d.1 ≤ j := by
  have iv : lIv j (tb (x j).1) (kAn (x j)) (kfr y rt j (x j)) := hJ.2.1.1 j hj
  rcases iv.1 u _ ha hr with ⟨l, _, _, _, ⟨s, b4⟩, _⟩ | ⟨o, e3, q3, _, _, _, ⟨s, b4⟩, _, ⟨j2, w, r3, rfl, b6⟩⟩
  · have b4 : d :: π = (j, (tb (x j).1).1 l) :: ((tb (x j).1).2.1 l ++ s) := b4
    rw [(List.cons.inj b4).1]; exact Nat.le_refl j
  · have b4 : d :: π = (j2, w) :: (r3 ++ s) := b4
    rw [(List.cons.inj b4).1]; exact Nat.le_of_lt b6
/-- a variable goes out of scope: its nodes -/
theorem kN.ou (hy : nYk y zn sz rk) (hJ : kJ y vt tb f x rt V) (hN : kN y zn sz M sk pl f x rt V bs C L H) (hC : kC C L H fl t tk) (hf6 : f < 60) (hw1 : ∀ j : Nat, j ≤ f → wl (x j).2.1 ≤ 177) (hv4 : v < 40) (hX8 : ∀ u : Nat, (8, u, 0) ∈ X.2.1 ↔ u ≠ v ∧ (8, u, 0) ∈ (x f).2.1) (hXw : wl X.2.1 = wl (x f).2.1)
  (hr : ∀ (u : Nat) (d : Nat × Nat) (π : lLc), kA X u → kSc X.2.1 u → kR X u = some (d :: π) → kA (x f) u ∧ kR (x f) u = some (d :: π) ∧ u ≠ v ∧ d ≠ (f, v))
  (hM : ∀ a : Nat, ¬ (a ∈ C (f, v) ∨ a ∈ L (f, v)) → M2.w a = M.w a ∧ M2.h a = M.h a ∧ M2.x a = M.x a) (hfl2 : ∀ a : Nat, cnN a fl2 = cnN a (C (f, v)) + cnN a (L (f, v)) + cnN a fl) (hhv : ∀ q : Nat, tk2 q = tk q ∨ 1 ≤ cnN q (H (f, v))) : kN y zn sz M2 sk pl f (kUx x f X) rt (kCv V f v (v + 1)) bs (u2N C (f, v) (f, v) [] []) (u2N L (f, v) (f, v) [] []) (u2N H (f, v) (f, v) [] []) ∧ kC (u2N C (f, v) (f, v) [] []) (u2N L (f, v) (f, v) [] []) (u2N H (f, v) (f, v) [] []) fl2 t tk2 := by
  have hf := Nat.le_refl f
  have nq : ∀ q : Nat × Nat, ¬ (q.1 = f ∧ q.2 = v) → q ≠ (f, v) := fun q hq z => hq (by rw [z]; exact ⟨rfl, rfl⟩)
  have dj : ∀ (q : Nat × Nat) (a : Nat), q ≠ (f, v) → q.1 ≤ f → kSc (x q.1).2.1 q.2 → (a ∈ C q ∨ a ∈ L q) → ¬ (a ∈ C (f, v) ∨ a ∈ L (f, v)) := fun q a h1 h2 h3 h4 z => by
    have hq := hw1 q.1 h2
    have q300 : q.2 < 300 := by rcases h3 with z | z <;> omega
    obtain ⟨_, _, _, _, q5⟩ := hC.one (r := q) (by omega) q300 h4
    exact h1 (q5 (f, v) hf6 (show v < 300 by omega) z).symm
  refine ⟨kN.rq (Q := fun u => u = v) hy hJ hN (fun j hj => kUx_lo hj) (fun u hu => ?_) (fun u hu h4 => by rw [kUx_top, hXw]) (fun q hq => ?_) (fun q hq h1 h3 => ⟨fun a z => hM a (dj q a (nq q hq) h1 h3 (Or.inl z)), fun a z => hM a (dj q a (nq q hq) h1 h3 (Or.inr z))⟩) (fun q hq h1 h4 h8 => rfl) (fun q hq h1 h4 h5 => rfl) (fun u hu => ?_) (fun j u d π hj ha hc hrr => Or.inl ?_), ?_⟩
  · rw [kUx_top, hX8]
    exact ⟨fun z => z.2, fun z => ⟨hu, z⟩⟩
  · have n1 := nq q hq
    refine ⟨rfl, ?_, u2N_o n1 n1, u2N_o n1 n1, u2N_o n1 n1⟩
    obtain ⟨qa, qb⟩ := q
    refine kCv_out ?_
    by_cases c : qa = f
    · have : qb ≠ v := fun z => hq ⟨c, z⟩
      omega
    · exact Or.inl c
  · subst hu
    rw [u2N_1, u2N_1, u2N_1, kUx_top]
    exact ⟨fun _ z => absurd rfl ((hX8 _).mp z).1, fun z => by omega, fun _ => ⟨rfl, rfl, rfl⟩⟩
  · by_cases e : j = f
    · subst e
      rw [kUx_top] at ha hrr hc
      obtain ⟨z1, z2, z3, z4⟩ := hr u d π ha hc hrr
      exact ⟨fun z => z3 z.2, fun z => z4 (by
        obtain ⟨da, db⟩ := d
        obtain ⟨c1, c2⟩ := z
        have c1 : da = j := c1
        have c2 : db = v := c2
        rw [c1, c2]), z1, z2⟩
    · rw [kUx_lo e] at ha hrr hc
      have l1 := kJ_hd1 hJ hj ha hrr
      exact ⟨fun z => e z.1, fun z => by have := z.1; omega, ha, hrr⟩
  · refine hC.fam (r := fun _ => (f, v)) (n := 1) (fun _ _ => ⟨hf6, show v < 300 by omega⟩) (fun i j hi hj _ => by omega) (fun q hq => ?_) (fun a => ?_) (fun q => Or.inl ?_)
    · have n1 := hq 0 (by decide)
      exact ⟨u2N_o n1 n1, u2N_o n1 n1, u2N_o n1 n1⟩
    · rw [psN_1u, psN_1u, u2N_1, u2N_1, hfl2 a]
      show (0 + 0) + _ + _ = _
      omega
    · rw [psN_1u, psN_1u, u2N_1]
      show 0 ≤ cnN q (H (f, v)) ∧ (tk2 q = tk q ∨ ((0 : Nat) = 0 ∧ 1 ≤ cnN q (H (f, v))))
      exact ⟨Nat.zero_le _, (hhv q).imp id (fun z => ⟨rfl, z⟩)⟩
theorem yK_z : yK R S0 0 = 0 := by
  unfold yK
  rw [if_neg (by decide), if_neg (by omega), if_neg (by omega)]
/-- OUT -/
theorem s_24 (hL : LFS R S0 g) (hx : LX S0 Sl) (h : RQ R S0 vt tb i D k f x bs Sl k S) (hQ : D.Pe < 24000) (hk : (D.I k).kd = 24) : Rt (f_step R.K S) (fun S2 _ => RTt R S0 vt tb i D k f x bs Sl S S2) := by
  have h24 := h.k24 hQ
  have hy := nYk_of hL
  have hB := yB_yT (R := R) (S0 := S0)
  refine stp_24 h hQ hk (fun S1 h1 e70 e3 er el => ?_)
  have hp := h1.pt.1
  unfold tPt at hp
  rw [hk] at hp
  obtain ⟨hac, hln, hus, hfr, v, E, r, hvs, ⟨hv4, had⟩, ho, hpa, hn1, hs, hvr, hE0, hwr, _, _, hw⟩ := hp
  have hgt := h1.1.2.2.2.1
  have hEn : ∀ a ∈ E, kNm a ∧ pnE a := fun a ha => by
    rcases hE0 with z | ⟨z, _⟩
    · rw [z] at ha; cases ha
    · rw [z] at ha
      rw [List.mem_singleton.mp ha]
      refine ⟨eT_nm, ?_⟩
      unfold eT
      by_cases c : 10000 ≤ D.E.gv
      · rw [if_pos c]
        by_cases c2 : D.E.gv % 2 = 0
        · rw [if_pos c2]; exact ⟨by show (1 : Nat) ≠ 3; decide, by show (1 : Nat) ≠ 4; decide, by show (1 : Nat) ≠ 5; decide, by show (1 : Nat) ≠ 6; decide, fun _ => rfl⟩
        · rw [if_neg c2]; exact ⟨by show (2 : Nat) ≠ 3; decide, by show (2 : Nat) ≠ 4; decide, by show (2 : Nat) ≠ 5; decide, by show (2 : Nat) ≠ 6; decide, fun _ => rfl⟩
      · rw [if_neg c]; exact ⟨by show (0 : Nat) ≠ 3; decide, by show (0 : Nat) ≠ 4; decide, by show (0 : Nat) ≠ 5; decide, by show (0 : Nat) ≠ 6; decide, fun _ => rfl⟩
  have hrn : ∀ a ∈ r, pnE a := fun a ha => by
    rcases hE0 with z | ⟨z, _⟩
    · rw [hs, z] at hgt
      exact hgt.tl a ha
    · rw [hs, z] at hgt
      exact hgt.tl a (List.mem_cons_of_mem _ ha)
  have hsr : ∀ a ∈ E ++ r, pnE a := fun a ha => by
    rcases List.mem_append.mp ha with z | z
    · exact (hEn a z).2
    · exact hrn a z
  have hsp : ∀ a ∈ D.st k, pnE a := fun a ha => by
    rw [hs] at ha
    rcases List.mem_append.mp ha with z | z
    · exact (hEn a z).2
    · rcases List.mem_cons.mp z with z | z
      · rw [z]; exact pnE_k (Or.inr (Or.inr (Or.inr rfl)))
      · exact hrn a z
  have hed : edg D k (k + 1) := h1.e1 (kd_s hk (by decide))
  have hEy := h1.1.2.2.2.2
  have hFn := h1.1.1
  obtain ⟨va, v9, ty, mu, z1, z2, z3, z4, z5⟩ := h1.2.1.2.2.2.2.2.2.2.2.2.2.1 (Or.inr (Or.inr (Or.inr hk)))
  obtain rfl : v9 = v := by rw [hvs] at z2; exact (List.cons.inj z2).1.symm
  rw [hn1] at z4
  have hX1 := h1.2.2.1
  have e := hX1.1
  obtain ⟨rt, V, C, L, H, fl, t9, ⟨hJ, hN, hC, hF⟩, _⟩ := h1.2.2.2.2.2.2.1
  obtain ⟨a1, a2, a3, a4, a5, a6⟩ := h1.2.2.2.2.2.1
  have hvt : vt (x f).1 = D.E.vt := by rw [a1]; exact h1.2.2.2.2.2.2.2.2.1
  have htb : tb (x f).1 = tbD D := by rw [a1]; exact h1.2.2.2.2.2.2.2.2.2
  have hf6 := h1.2.2.2.2.1
  have hws := h1.2.2.2.2.2.2.2.1
  have h177 := h1.pt.2
  have hst := h1.st.2
  have h76 := h1.2.2.2.1.2.2
  have h73 := h1.2.2.2.1.2.1
  obtain ⟨e2, t1, t2⟩ := trL_8m (al := AL D k) (v := v9) (r := r) E
  have hS : (x f).2.1 = e2 ++ (8, v9, 0) :: trL (AL D k) r := by rw [a2, hs]; exact t1
  have hvS : (8, v9, 0) ∈ (x f).2.1 := by rw [hS]; exact List.mem_append_right _ (List.mem_cons_self ..)
  have h8i : ∀ u : Nat, (8, u, 0) ∈ e2 ++ trL (AL D k) r ↔ (8, u, 0) ∈ r := fun u => by
    rw [← t2, trL_8]
    constructor
    · intro z
      rcases List.mem_append.mp z with z | z
      · exact absurd (Or.inl rfl) (hEn _ z).1
      · exact z
    · exact fun z => List.mem_append_right _ z
  have hX8 : ∀ u : Nat, (8, u, 0) ∈ e2 ++ trL (AL D k) r ↔ u ≠ v9 ∧ (8, u, 0) ∈ (x f).2.1 := fun u => by
    constructor
    · intro z
      refine ⟨fun c => hvr ?_, ?_⟩
      · rw [← c]; exact (h8i u).mp z
      · rw [hS]
        rcases List.mem_append.mp z with z | z
        · exact List.mem_append_left _ z
        · exact List.mem_append_right _ (List.mem_cons_of_mem _ z)
    · rintro ⟨c, z⟩
      rw [hS] at z
      rcases List.mem_append.mp z with z | z
      · exact List.mem_append_left _ z
      · rcases List.mem_cons.mp z with z | z
        · exact absurd (Prod.mk.inj (Prod.mk.inj z).2).1 c
        · exact List.mem_append_right _ z
  have hXw : wl (e2 ++ trL (AL D k) r) = wl (x f).2.1 := by rw [hS, wl_8m]
  have wj0 : wl (E ++ r) = wl (D.st k) := by rw [hs, wl_8m]
  have hno56 : ∀ r m2 : Nat, (5, r, m2) ∉ (x f).2.1 ∧ (6, r, m2) ∉ (x f).2.1 := fun r m2 => by
    rw [a2]
    exact ⟨fun z => absurd (Or.inr (Or.inl rfl)) (trL_4 (pn_4 hsp) _ z), fun z => absurd (Or.inr (Or.inr rfl)) (trL_4 (pn_4 hsp) _ z)⟩
  have hal : ∀ u : Nat, u ≠ v9 → (u < 40 ∧ AL D (k + 1) u) → kal (x f) u := fun u hu q => by
    rw [a5]
    exact ⟨q.1, hFn.al hed (by omega) (fun z => by rw [ho] at z; exact hu (Option.some.inj z).symm) q.2⟩
  -- nobody leads there
  have hkA : ∀ u : Nat, ((u < 40 ∧ (u < 40 ∧ AL D (k + 1) u)) ∨ (40 ≤ u ∧ u < 40 + wl (x f).2.1)) → u ≠ v9 → kA (x f) u := fun u hu ho => by
    rcases hu with ⟨a, b⟩ | ⟨a, b⟩
    · exact Or.inl ⟨a, hal u ho b⟩
    · exact Or.inr ⟨a, by omega⟩
  have hc : ∀ (u : Nat) (b : lLc), ((u < 40 ∧ (u < 40 ∧ AL D (k + 1) u)) ∨ (40 ≤ u ∧ u < 40 + wl (x f).2.1)) → u ≠ v9 → kR (x f) u = some b → ∀ π : lLc, b ≠ (f, v9) :: π := fun u b hu hun hb π q => by
    have iv : lIv f (tb (x f).1) (kAn (x f)) (kfr (yT R S0) rt f (x f)) := hJ.2.1.1 f (Nat.le_refl f)
    by_cases hrf : isRf (D.E.vt v9)
    · rcases iv.1 u b (hkA u hu hun) hb with ⟨l, b1, b2, b3, ⟨s, b4⟩, _⟩ | ⟨o, e3, q3, _, _, _, ⟨s, b4⟩, _, b6⟩
      · rw [q] at b4
        have b4 : (f, v9) :: π = (f, (tb (x f).1).1 l) :: ((tb (x f).1).2.1 l ++ s) := b4
        have b5 := (Prod.mk.inj (List.cons.inj b4).1).2
        rw [htb] at b3 b5
        rw [← b5] at b3
        exact b3 hrf
      · obtain ⟨j, w, r3, rfl, b6⟩ := b6
        rw [q] at b4
        have b4 : (f, v9) :: π = (j, w) :: (r3 ++ s) := b4
        have := (Prod.mk.inj (List.cons.inj b4).1).1
        omega
    · have hck := hFn.ck h1.1.2.1.1 h1.1.2.1.2.1 h1.1.2.1.2.2 hpa (by rw [hac]; decide) (fun z => hrf z.2.2) (Or.inl rfl) (A2 := fun u => u ≠ v9 ∧ ((u < 40 ∧ (u < 40 ∧ AL D (k + 1) u)) ∨ (40 ≤ u ∧ u < 40 + wl (x f).2.1))) (fun u κ z1 z2 => by
        obtain ⟨z0, z1⟩ := z1
        have hou : (D.I k).ho ≠ some u := fun z => by rw [ho] at z; exact z0 (Option.some.inj z).symm
        rcases z1 with ⟨z3, _, z4⟩ | ⟨z3, z4⟩
        · exact ⟨by omega, hFn.ab hed (by omega) z4, hou⟩
        · rw [hst] at z4
          refine ⟨by omega, ?_, hou⟩
          rcases z2 with ⟨_, z2⟩ | ⟨z2, _⟩
          · rcases z2.2.1 z3 with z5 | z5
            · exact (z5.ab (by rw [hus]; exact List.not_mem_nil)).1
            · exact absurd z5 (pn_mk hsp)
          · omega)
      have := (lAc_var (A2 := fun u => u ≠ v9 ∧ ((u < 40 ∧ (u < 40 ∧ AL D (k + 1) u)) ∨ (40 ≤ u ∧ u < 40 + wl (x f).2.1))) (v := v9) (r := []) (rd := (D.I k).ac = 1 ∨ (D.I k).ac = 2) iv (fun u z => hkA u z.2 z.1) (by
        rw [htb]
        show lCk (tbD D) (kH (x f)) _ _ _ _
        rw [a4]; exact hck) ⟨hun, hu⟩ hb (Or.inr ⟨π, by rw [q]; rfl⟩)).1
      rw [hac] at this
      omega
  have hJ1 := kJ_mv8 hJ hS
  have hJ2 := kJ_scp (v0 := v9) (v1 := v9 + 1) (O := [(8, v9, 0)]) (S2 := e2 ++ trL (AL D k) r) (H2 := lUp (kH (x f)) v9 (HK D (k + 1) v9)) (al2 := fun u => u < 40 ∧ AL D (k + 1) u) (lo2 := fun u π => LO R S0 D (k + 1) u π ∨ 40 ≤ u) hJ1 (by rw [kUx_top]; exact a3) (by omega) (fun r1 m1 => by
    rw [kUx_top]
    have key : ∀ q : Nat, q ≠ 8 → (q, r1, m1) ∈ (8, v9, 0) :: (e2 ++ trL (AL D k) r) → (q, r1, m1) ∈ (x f).2.1 := fun q h8 z => by
      rw [hS]
      rcases List.mem_cons.mp z with z | z
      · exact absurd (Prod.mk.inj z).1 h8
      · rcases List.mem_append.mp z with z | z
        · exact List.mem_append_left _ z
        · exact List.mem_append_right _ (List.mem_cons_of_mem _ z)
    exact ⟨fun z => (hno56 r1 m1).1 (key 5 (by decide) z), fun z => (hno56 r1 m1).2 (key 6 (by decide) z)⟩) (by rw [kUx_top]; rfl) (fun a ha => ⟨v9, List.mem_singleton.mp ha, Nat.le_refl _, Nat.lt_succ_self _⟩) (fun u h1 h2 z => by
      obtain rfl : u = v9 := by omega
      exact absurd rfl ((hX8 u).mp z).1) (fun u hu q => by rw [kUx_top]; exact hal u (by omega) q) (fun u κ hu q => by
      rw [kUx_top] at q
      have q : kH (x f) u κ := q
      rw [lUp_ne (by omega)]; exact q) (fun u π hu hn q => by
      rw [kUx_top] at q
      have q : klo (x f) u π := q
      rw [a6] at q
      by_cases c : u < 40
      · exact hn (Or.inl (hFn.lv9 hL hEy hed c q (Or.inr (Or.inr (Or.inr (Or.inr hk)))) (by rw [hvs]; exact fun z => ((hX8 u).mp hu).1 (List.mem_singleton.mp z)) (by rw [hk]; decide)))
      · exact hn (Or.inr (by omega))) (fun u b hu hun hb w π q1 q2 => by
      rw [kUx_top] at hu hb
      obtain rfl : w = v9 := by omega
      refine hc u b (hu.imp id (fun z => ⟨z.1, ?_⟩)) (by omega) hb π
      have z2 : u < 40 + wl ((8, w, 0) :: (e2 ++ trL (AL D k) r)) := z.2
      rw [wl_0 (Or.inl rfl), hXw] at z2
      exact z2)
  rw [kUx_top, kUx2] at hJ2
  -- what lies there goes
  obtain ⟨p1, p2, p3⟩ := hN.hd hy (d := (f, v9)) (Nat.le_refl f) hv4 hvS
  obtain ⟨⟨kk, zz1⟩, zz2, zz3⟩ := p1
  have hkr := (hJ.2.2.2.2.2.2.1 f (Nat.le_refl f) v9 hv4 hvS).1
  rw [hvt] at hkr
  rw [hkr] at zz1
  have hone : ∀ a : Nat, (a ∈ C (f, v9) ∨ a ∈ L (f, v9)) → a ∉ fl ∧ 1 ≤ a ∧ a ≤ t9 ∧ cnN a (C (f, v9)) + cnN a (L (f, v9)) = 1 := fun a ha => by
    obtain ⟨q1, q2, q3, q4, _⟩ := hC.one (r := (f, v9)) hf6 (show v9 < 300 by omega) ha
    exact ⟨q1, q2, q3, q4⟩
  have hlen := zz1.len hy
  obtain ⟨sl1, sl2⟩ := slo_ (R := R) (S := S1) e z3 h76
  have q40 : rQ S1 40 (nI k) = some (some va) := by rw [rQ_n (show k < rlen 40 from h24) (by decide), e.2.2.2.1, z1]
  refine Rt.bd q40 (Rt.bn (Q := fun S6 _ => ∃ fl3 : List Nat, FLs S6 fl3 t9 ∧ GO (fun a => a ∈ C (f, v9) ∨ a ∈ L (f, v9)) (fun q => q ∈ H (f, v9)) (fun _ => False) S1 S6 ∧ (∀ a : Nat, cnN a fl3 = cnN a (C (f, v9)) + cnN a (L (f, v9)) + cnN a fl) ∧ wq S6 ∧ Zi S6 81 = nI 0 ∧ Zl S6 72 = Zl S1 72 ∧ Zi S6 73 = Zi S1 73 ∧ Zr S6 74 = Zr S1 74) ?_ (fun S6 _ ⟨fl3, f6, go, hfl3, hwq, h81, h72, h736, h74⟩ => ?_))
  · unfold f_runOut
    refine Rt.be sl1 (Rt.bd (v := nI (hdN (C (f, v9)))) (by rw [rI_n (show 40 * f + v9 < rlen 74 from by show _ < 2440; omega) (by decide), zz3]) (Rt.bd sl2 ?_))
    cases ty with
    | none =>
      refine Rt.ip rfl ?_
      have hT0 : D.E.vt v9 = 0 := z4.symm
      rw [hT0] at zz1 hlen
      have y0 : (yT R S0).1 0 = 0 := yK_z (R := R) (S0 := S0)
      obtain ⟨n, hn⟩ : ∃ n : Nat, C (f, v9) = [n] ∧ L (f, v9) = [] := by
        cases kk with
        | zero => exact zz1.elim
        | succ kk =>
          rcases zz1 with ⟨z, _⟩ | ⟨_, n, en, z⟩
          · rw [y0] at z; cases z
          · refine ⟨n, en, ?_⟩
            rcases z with ⟨_, _, z, _⟩ | ⟨_, ⟨z, _⟩ | ⟨z, _⟩ | ⟨_, _, _, z, _⟩⟩
            · exact z
            · rw [y0] at z; cases z
            · rw [y0] at z; cases z
            · exact z
      have hm : n ∈ C (f, v9) := by rw [hn.1]; exact List.mem_singleton_self _
      obtain ⟨o1, o2, o3, _⟩ := hone n (Or.inl hm)
      have ehd : hdN (C (f, v9)) = n := by rw [hn.1]; rfl
      rw [ehd]
      refine Rt.bn (frn_ hF o2 o3 o1) (fun S5 _ ⟨f1, f2, f3, f4⟩ => Rt.rt ⟨n :: fl, f1, f2.go.mo (fun a z => Or.inl (by rw [z]; exact hm)) (fun _ z => z) (fun _ z => z), fun a => ?_, f2.wq hX1.2.1, ?_, by rw [f3], f2.2.2.2.2.2.2.2.1 73 (by decide) (by decide), f2.2.2.2.2.2.2.1 74 (by decide) (by decide)⟩)
      · rw [hn.1, hn.2]
        show (if n = a then 1 else 0) + cnN a fl = ((if n = a then 1 else 0) + 0) + 0 + cnN a fl
        omega
      · rw [f2.2.2.2.2.2.2.2.1 81 (by decide) (by decide)]; exact hX1.2.2.2.2
    | some z =>
      have hrz := z5 z rfl
      have z4 : abT S0 z = D.E.vt v9 := z4
      refine Rt.iq (by intro q; cases q) (Rt.bd sl2 ?_)
      have hcnt := zz1.cnt hy
      have hsz := hy.1 (D.E.vt v9)
      have hhl := hC.hl (r := (f, v9)) hf6 (show v9 < 300 by omega)
      have hcv : cvN (C (f, v9)) (L (f, v9)) fl t9 := hC.cv (r := (f, v9)) hf6 (show v9 < 300 by omega) hF.2.2.2.1 (fun a => Nat.le_refl _)
      refine Rt.bn (doP_ (T := D.E.vt v9) (k := kk) (V := V (f, v9)) (c := C (f, v9)) (l := L (f, v9)) (h := H (f, v9)) (fl := fl) (t := t9) hL hx zz1 hrz z4 e hX1.2.1 hF hX1.2.2.2.2 zz2 hcv (by omega)) (fun S4 _ q4 => Rt.bn q4 (fun S5 _ ⟨fl3, d1, d2, d3, d4, d5, d6, d7⟩ => ?_))
      have go5 : GO (fun a => a ∈ C (f, v9) ∨ a ∈ L (f, v9)) (fun q => q ∈ H (f, v9)) (fun _ => False) S1 S5 := d1.go
      have e5 : RNx Sl S5 := e.tr go5.1
      obtain ⟨_, sl3⟩ := slo_ (R := R) (S := S5) e5 z3 ((go5.2.1 76 (by decide)).trans h76)
      refine Rt.bd sl3 ?_
      have hl5 : lkN (Zr S5 63) (C (f, v9)) := zz2.cg (fun a ha => (d5 a ha).2)
      refine Rt.bn (frp_ (L := C (f, v9)) (l := fl3) (t := t9) hL hx e5 (fun y hy => by cases hy; exact hrz) (by rw [show abU S0 (some z) = D.E.vt v9 from z4]; exact hsz.2.1) d3 (by rw [show abU S0 (some z) = D.E.vt v9 from z4]; exact hlen) hl5 (cnN_nd.mpr (fun a => ?_)) (fun a ha => ?_) (hdN_0 p2)) (fun S6 _ ⟨f1, f2, f3, f4⟩ => Rt.rt ⟨(C (f, v9)).reverse ++ fl3, f1, go5.tr (f2.go.mo (fun a z => Or.inl z) (fun _ z => z) (fun _ z => z)), fun a => ?_, f2.wq d7, ?_, ?_, ?_, ?_⟩)
      · by_cases c : a ∈ C (f, v9)
        · have := (hone a (Or.inl c)).2.2.2; omega
        · rw [cnN_z c]; omega
      · obtain ⟨o1, o2, o3, o4⟩ := hone a (Or.inl ha)
        have := cnN_mem.mp ha
        refine ⟨o3, fun w => ?_⟩
        have w1 := cnN_mem.mp w
        have w2 := d4 a
        rw [cnN_z o1] at w2
        omega
      · rw [cnN_app, cnN_rev, d4 a]; omega
      · rw [f2.2.2.2.2.2.2.2.1 81 (by decide) (by decide)]; exact d2
      · rw [f3, d1.2.2.2.2.2.1 72 (by decide)]
      · rw [f2.2.2.2.2.2.2.2.1 73 (by decide) (by decide), d1.2.2.2.2.2.2.2.1 73 (by decide) (by decide) (by decide) (by decide)]
      · rw [f2.2.2.2.2.2.2.1 74 (by decide) (by decide), d1.2.2.2.2.2.2.1 74 (by decide) (by decide) (by decide) (by decide)]
  · unfold f_step_590
    obtain ⟨nv1, nv2⟩ := hN.ou (X := ((x f).1, e2 ++ trL (AL D k) r, 0, (fun u => if v9 ≤ u ∧ u < v9 + 1 then none else kR (x f) u), lUp (kH (x f)) v9 (HK D (k + 1) v9), (fun u => u < 40 ∧ AL D (k + 1) u), (fun u π => LO R S0 D (k + 1) u π ∨ 40 ≤ u), kAn (x f))) (v := v9) (M2 := nMS S6) (fl2 := fl3) (tk2 := Zr S6 67) hy hJ hC hf6 hws hv4 hX8 hXw (fun u d π hA hs8 hR => by
        have hR : (if v9 ≤ u ∧ u < v9 + 1 then none else kR (x f) u) = some (d :: π) := hR
        have hun : u ≠ v9 := fun z => by
          rw [if_pos (by omega)] at hR; cases hR
        rw [if_neg (by omega)] at hR
        have hu : (u < 40 ∧ (u < 40 ∧ AL D (k + 1) u)) ∨ (40 ≤ u ∧ u < 40 + wl (x f).2.1) := by
          rcases hA with ⟨q1, q2⟩ | ⟨q1, q2⟩
          · exact Or.inl ⟨q1, q2⟩
          · have q2 : u < 40 + wl (e2 ++ trL (AL D k) r) + 0 := q2
            rw [hXw] at q2
            exact Or.inr ⟨q1, q2⟩
        exact ⟨hkA u hu hun, hR, hun, fun z => hc u _ hu hun hR π (by rw [z])⟩) (fun a z => go.2.2.2.1 a z) hfl3 (fun q => by
        by_cases c : q ∈ H (f, v9)
        · exact Or.inr (cnN_mem.mp c)
        · exact Or.inl (go.2.2.2.2.1 q c))
    refine Rt.rt ⟨hX1.go go hwq h81, Or.inr ⟨(go.2.1 3 (by decide)).trans e3, (go.2.1 70 (by decide)).trans e70, NXt.fr ?_ er ?_⟩⟩
    · have hjn := wkS_pn hw hsr
      have wj : wl (D.st (k + 1)) = wl (D.st k) := (wkS_wl hw).trans wj0
      refine finG (X := ((x f).1, e2 ++ trL (AL D k) r, 0, (fun u => if v9 ≤ u ∧ u < v9 + 1 then none else kR (x f) u), lUp (kH (x f)) v9 (HK D (k + 1) v9), (fun u => u < 40 ∧ AL D (k + 1) u), (fun u π => LO R S0 D (k + 1) u π ∨ 40 ≤ u), kAn (x f))) hL h1.1 hed ⟨_, _, _, _, _, fl3, t9, hJ2, by rw [h72, h74]; exact nv1, nv2, f6⟩ rfl a1 rfl ?_ (gtS.of hjn) hjn (fun u hu q => ⟨hu, q⟩) (fun u κ hu q z => ?_) (fun m κ hm q z => ⟨?_, fun y => absurd y (pn_mk hjn)⟩) (fun κ r1 m q => ?_) (fun u π hu4 _ q => ?_) ((go.2.1 77 (by decide)).trans h1.2.2.2.1.1) ?_ go.2.2.1 (go.2.1 76 (by decide))
      · show wkS (e2 ++ trL (AL D k) r) _
        rw [← t2]
        refine trL_t hw (fun n hn q => hFn.al hed (by omega) (fun z => ?_) q)
        rw [ho] at z
        have := Option.some.inj z
        omega
      · have z : lUp (kH (x f)) v9 (HK D (k + 1) v9) u κ := z
        by_cases c0 : u = v9
        · subst c0; rw [lUp_eq] at z; exact z
        · rw [lUp_ne c0, a4] at z
          rcases z with ⟨_, z⟩ | ⟨z, _⟩
          · exact hFn.hk hed (by omega) (fun y => by rw [ho] at y; exact c0 (Option.some.inj y).symm) z.1
          · omega
      · have z : lUp (kH (x f)) v9 (HK D (k + 1) v9) (40 + m) κ := z
        rw [lUp_ne (by omega), a4] at z
        rw [wj] at hm
        rcases z with ⟨_, z⟩ | ⟨z, _⟩
        · exact hFn.hk hed (by omega) (fun y => by rw [ho] at y; have := Option.some.inj y; omega) z.1
        · omega
      · rcases q with q | q
        · exact absurd (Or.inr (Or.inl rfl)) (trL_4 (pn_4 hjn) _ q)
        · exact absurd (Or.inr (Or.inr rfl)) (trL_4 (pn_4 hjn) _ q)
      · rcases q with q | q
        · exact q
        · omega
      · rw [wj, h736]; exact h73
    · rw [h1.2.2.2.1.2.2, h.2.2.2.1.2.2]
end PS95
end
-- m5.s.lean.txt
section
section PS96
variable {R : yR} {K : Ky} {S0 Sl S S1 S2 S3 : Sg} {D : fD} {i k j f nw n v : Nat} {vt : Nat → Nat → Nat} {tb : Nat → lTb} {x : Nat → kFm} {bs : Nat → Nat} {g : Nat → Int32} {X : kFm}
/-- USE: a reference is given back -/
theorem s_25 (hL : LFS R S0 g) (h : RQ R S0 vt tb i D k f x bs Sl k S) (hQ : D.Pe < 24000) (hk : (D.I k).kd = 25) : Rt (f_step R.K S) (fun S2 _ => RTt R S0 vt tb i D k f x bs Sl S S2) := by
  refine stp_25 h hQ hk (fun S1 h1 e70 e3 er el => ?_)
  have hy := nYk_of hL
  have hp := h1.pt.1
  unfold tPt at hp
  rw [hk] at hp
  obtain ⟨hac, hpa, ho, hln, hus, hfr, hn1, hs, hgv, _, _, hw⟩ := hp
  have hed : edg D k (k + 1) := h1.e1 (kd_s hk (by decide))
  have hEy := h1.1.2.2.2.2
  have hFn := h1.1.1
  have hX1 := h1.2.2.1
  obtain ⟨rt, V, C, L, H, fl, t9, ⟨hJ, hN, hC, hF⟩, _⟩ := h1.2.2.2.2.2.2.1
  obtain ⟨a1, a2, a3, a4, a5, a6⟩ := h1.2.2.2.2.2.1
  obtain ⟨q, U, hq, hqT, hqU⟩ : ∃ q U : Nat, (q = 1 ∨ q = 2) ∧ eT D.E.gv = (q, U, 0) ∧ eU D.E.gv = (q, U, 1) := by
    unfold eT eU
    rw [if_pos hgv.1, if_pos hgv.1]
    by_cases c : D.E.gv % 2 = 0
    · rw [if_pos c, if_pos c]; exact ⟨1, _, Or.inl rfl, rfl, rfl⟩
    · rw [if_neg c, if_neg c]; exact ⟨2, _, Or.inr rfl, rfl, rfl⟩
  rw [hqT] at hs
  rw [hqU] at hw
  have hnm : ∀ m : Nat, kNm (q, U, m) := fun m => pR_nm hq
  have hsj : D.st (k + 1) = [(q, U, 1)] := by
    cases hd : D.st (k + 1) with
    | nil => rw [hd] at hw; exact hw.elim
    | cons a s =>
      rw [hd] at hw
      obtain ⟨w1, w2⟩ := hw
      have hs0 : s = [] := by
        cases s with
        | nil => rfl
        | cons b s => exact w2.elim
      rw [hs0]
      rcases w1 with w1 | ⟨_, _, _, w1⟩
      · rw [w1]
      · rcases w1 with ⟨_, _, w1⟩ | ⟨_, w1 | w1⟩
        · have := (Prod.mk.inj (Prod.mk.inj w1).2).2; omega
        · have := (Prod.mk.inj (Prod.mk.inj w1).2).2; omega
        · have := (Prod.mk.inj (Prod.mk.inj w1).2).2; omega
  have hal40 : AL D k (40 + 0) := Or.inl (by rw [hus]; exact List.mem_singleton_self _)
  have hS : (x f).2.1 = [(q, U, 0)] := by
    rw [a2, hs]
    show trE (AL D k) 0 (q, U, 0) :: [] = _
    rw [trE_r (show q = 1 ∨ q = 2 from hq) (Or.inr hal40)]
  have hSj : trL (AL D (k + 1)) (D.st (k + 1)) = [(q, U, 1)] := by
    rw [hsj]
    show trE (AL D (k + 1)) 0 (q, U, 1) :: [] = _
    rw [trE_r (show q = 1 ∨ q = 2 from hq) (Or.inl (show (1 : Nat) ≠ 0 by decide))]
  have hw1 : ∀ m : Nat, wl [(q, U, m)] = 1 := fun m => wl_n (hnm m)
  have hkK := hJ.2.2.2.2.1 f (Nat.le_refl f)
  rw [hS] at hkK
  have hno : ∀ u : Nat, (D.I k).ho ≠ some u := fun u w => by rw [ho] at w; cases w
  have hJ2 := kJ_eq (s2 := [(q, U, 1)]) hJ (by rw [hS, hw1, hw1]) (fun a ha => by
    rw [hS, List.mem_singleton, List.mem_singleton]
    exact ⟨fun z => absurd (by rw [z] at ha; exact ha) (hnm 1), fun z => absurd (by rw [z] at ha; exact ha) (hnm 0)⟩) (by
    refine ⟨?_, trivial⟩
    rcases hq with rfl | rfl
    · exact hkK.1
    · exact hkK.1)
  have hN2 := hN.cx (x2 := kUx x f ((x f).1, [(q, U, 1)], (x f).2.2.1, kR (x f), kH (x f), kal (x f), klo (x f), kAn (x f))) (cxU (show wl [(q, U, 1)] = wl (x f).2.1 by rw [hS, hw1, hw1]) (fun u => by
      show (8, u, 0) ∈ [(q, U, 1)] ↔ _
      rw [hS, List.mem_singleton, List.mem_singleton]
      exact ⟨fun z => absurd (Or.inl (by rw [← z])) (hnm 1), fun z => absurd (Or.inl (by rw [← z])) (hnm 0)⟩) (fun u a hu ha => ⟨by
      rcases hu with z | ⟨z1, z2⟩
      · exact Or.inl z
      · have z2 : u < 40 + wl [(q, U, 1)] + (x f).2.2.1 := z2
        rw [hw1] at z2
        exact Or.inr ⟨z1, by rw [hS, hw1]; exact z2⟩, ha⟩))
  unfold f_step_590
  have wj : wl (D.st (k + 1)) = 1 := by rw [hsj, hw1]
  have wk : wl (D.st k) = 1 := by rw [hs, hw1]
  refine Rt.rt ⟨hX1, Or.inr ⟨e3, e70, NXt.fr ?_ er (by rw [h1.2.2.2.1.2.2, h.2.2.2.1.2.2])⟩⟩
  refine finG5 (X := ((x f).1, [(q, U, 1)], (x f).2.2.1, kR (x f), kH (x f), kal (x f), klo (x f), kAn (x f))) hL h1.1 hed ⟨_, _, _, _, _, fl, t9, hJ2, hN2, hC, hF⟩ a3 a1 rfl (by rw [hSj]; exact ⟨Or.inl rfl, trivial⟩) (by rw [hsj]; exact gtS.cn (fun a ha => by cases ha)) (fun r m z => ?_) (fun q' r' m' v' ρ' hq' z _ _ => ?_) (fun u hu z => ?_) (fun u κ hu z1 z2 => ?_) (fun m κ hm z1 z2 => ?_) (fun κ r1 m z1 => ?_) (fun u π hu4 _ z => ?_) h1.2.2.2.1.1 (by rw [wj, ← wk]; exact h1.2.2.2.1.2.1) rfl rfl
  · rw [hsj] at z
    have := (Prod.mk.inj (List.mem_singleton.mp z)).1
    omega
  · rw [hsj] at z
    have := (Prod.mk.inj (List.mem_singleton.mp z)).1
    omega
  · have : kal (x f) u := by rw [a5]; exact ⟨hu, hFn.al hed (by omega) (hno u) z⟩
    exact this
  · have z2 : kH (x f) u κ := z2
    rw [a4] at z2
    rcases z2 with ⟨_, z2⟩ | ⟨z2, _⟩
    · exact hFn.hk hed (by omega) (hno u) z2.1
    · omega
  · have z2 : kH (x f) (40 + m) κ := z2
    rw [a4] at z2
    rw [wj] at hm
    obtain rfl : m = 0 := by omega
    rcases z2 with ⟨_, z2⟩ | ⟨z2, _⟩
    · refine ⟨hFn.hk hed (by omega) (hno _) z2.1, fun _ _ h100 hmr hrl => ?_⟩
      rcases z2.1 with ⟨_, y2⟩ | ⟨k2, l, v2, sh, ρ2, y1, _⟩
      · obtain ⟨l, l1, l2, l3⟩ := y2 hmr
        refine Classical.byContradiction (fun hc => ?_)
        have := (hFn.2.2.2.2.2.2.2.1 l l1).2.2.2 k h1.1.2.1.1 h1.1.2.1.2.1 h1.1.2.1.2.2 hk hrl (by rw [l2]; exact hc)
        rw [hn1] at this
        have l3 : rb (D.H l) (4 * k) 40 = true := l3
        rw [l3] at this; cases this
      · rw [y1] at h100
        exact absurd h100 lm_100
    · omega
  · rw [hSj] at z1
    rcases z1 with z1 | z1
    · have := (Prod.mk.inj (List.mem_singleton.mp z1)).1; omega
    · have := (Prod.mk.inj (List.mem_singleton.mp z1)).1; omega
  · have z : klo (x f) u π := z
    rw [a6] at z
    exact hFn.lo hy hEy hed hu4 z (fun c _ _ => (kdM_k hk (by decide)).nk)
end PS96
end
-- m5.t.lean.txt
section
section PS97
variable {R : yR} {K : Ky} {S0 Sl S S1 S2 S3 : Sg} {D : fD} {i k j f nw n v z T t : Nat} {vt : Nat → Nat → Nat} {tb : Nat → lTb} {x : Nat → kFm} {bs : Nat → Nat} {g : Nat → Int32} {X : kFm} {y : qY} {zn sz rk : Nat → Nat} {M M2 : nM} {sk sk2 : Nat → Int64} {pl pl2 : Nat → Int32} {rt rt2 : Nat × Nat → Nat} {V V2 : Nat × Nat → qV} {C L H : Nat × Nat → List Nat} {fl fl2 l h c0 : List Nat} {tk tk2 : Nat → Int32} {W : qV} {xv : Int64} {π : lLc}
/-- setPlace -/
theorem asp9_ (hL : LFS R S0 g) (hx : LX S0 Sl) (e : RNx Sl S) (hr : rTy S0 z) (eT : abT S0 z = T) (hva : vaR (yT R S0) (szN R S0) (nMS S) T W xv l h) (hW : (yT R S0).1 T = 2 → qF (yT R S0) W [] T) (hf : FLs S fl t) (hlen : c0.length = zN R S0 T) (hk : lkN (Zr S 63) c0) (hd0 : c0.Nodup) (hcl : ∀ a ∈ l, a ∉ fl ∧ a ≤ t ∧ a ∉ c0) (hcn : ∀ a ∈ c0, a ∉ fl ∧ a < 430000) (hl1 : ∀ a : Nat, cnN a l ≤ 1) : Rt (f_setPlace R.K S (some z) (nI (hdN c0)) xv) (fun S2 _ => ∃ (k1 : Nat) (l1 fl2 : List Nat), pL (yT R S0) (szN R S0) (nMS S2) k1 T W c0 l1 h ∧ FLs S2 fl2 t ∧ NO (fun a => a ∈ c0 ∨ a ∈ l) S S2 ∧ (∀ a ∈ c0, Zr S2 63 a = Zr S 63 a) ∧ (∀ a : Nat, cnN a l1 + cnN a fl2 = cnN a l + cnN a fl) ∧ ((yT R S0).1 T ≠ 2 → ∃ m : Nat, c0 = [m] ∧ Zl S2 61 m = xv)) := by
  have hy := nYk_of hL
  obtain ⟨kd, o1, o2⟩ := kd3_ hL hx hr
  rw [eT] at o2
  have hz := hy.1 T
  unfold f_setPlace
  refine Rt.bd (o1 S e) (Rt.it (fun w => ?_) (fun w => ?_))
  · rcases hva with ⟨y2, k, c, l1, q2, q3, q4, q5⟩ | ⟨q1, _⟩
    · subst q5
      rw [q4]
      have hcl2 := q2.len hy
      refine Rt.be (lvo_ hL hx e (o := some z) (fun y hy => by cases hy; exact hr)) ?_
      show Rt (f_setPlace_37 R.K bigN S (Int64.toInt32 (nL (hdN c))) (nI (hdN c0)) (nI (zN R S0 (abT S0 z)))) _
      rw [eT, nL_t, ← hcl2]
      have c1 : ∀ a ∈ c, a ∉ fl ∧ a ≤ t ∧ a ∉ c0 := fun a ha => hcl a (List.mem_append_left _ ha)
      refine (st37 c c0 bigN S fl (nI (hdN c)) (nI (hdN c0)) (by rw [hlen, hcl2]) (by unfold bigN; have : zN R S0 T ≤ 16 := hz.2.1; omega) (by have : zN R S0 T ≤ 16 := hz.2.1; omega) hf q3 hk (cnN_nd.mpr (fun a => ?_)) hd0 (fun a ha => ⟨(c1 a ha).2.1, (c1 a ha).1, (c1 a ha).2.2⟩) (fun b hb => (hcn b hb).1) (fun a ha => ?_) (fun b hb => ?_)).mo (fun S2 _ ⟨u1, u2, u3⟩ => ⟨k, l1, c.reverse ++ fl, ?_, u1, u2.mo (fun a ha => ha.elim (fun z => Or.inr (List.mem_append_left _ z)) Or.inl), fun a ha => ?_, fun a => ?_, fun z => absurd y2 z⟩)
      · have := hl1 a
        rw [cnN_app] at this
        omega
      · rw [hdN_0 (by rw [hcl2]; exact hz.1)] at ha
        rw [Option.some.inj ha]
      · rw [hdN_0 (by rw [hlen]; exact hz.1)] at hb
        rw [Option.some.inj hb]
      · refine q2.cp (hW y2) (by rw [hlen, hcl2]) (fun i a b h1 h2 => ⟨(u3 i a b h1 h2).1, (u3 i a b h1 h2).2.1⟩) (u2.ag (fun a ha z => ?_))
        rcases z with z | z
        · have := hl1 a
          rw [cnN_app] at this
          have z1 := cnN_mem.mp z
          have z2 := cnN_mem.mp ha
          omega
        · exact (hcl a (List.mem_append_right _ ha)).2.2 z
      · obtain ⟨i, hi⟩ := List.getElem?_of_mem ha
        have hi2 : i < c.length := by
          have := (List.getElem?_eq_some_iff.mp hi).1
          rw [hcl2, ← hlen]; exact this
        exact (u3 i c[i] a (List.getElem?_eq_getElem hi2) hi).2.2
      · rw [cnN_app, cnN_app, cnN_rev]; omega
    · exact absurd (o2.mp w) q1
  · rcases hva with ⟨q1, _⟩ | ⟨q1, k, q2⟩
    · exact absurd (o2.mpr q1) w
    · obtain ⟨n, rfl⟩ : ∃ n : Nat, c0 = [n] := by
        have h1 : c0.length = 1 := hlen.trans (hy.2.1 T q1)
        cases c0 with
        | nil => cases h1
        | cons a c0 =>
          cases c0 with
          | nil => exact ⟨a, rfl⟩
          | cons b c0 =>
            have h1 : c0.length + 1 + 1 = 1 := h1
            omega
      obtain ⟨hnf, hn4⟩ := hcn n (List.mem_singleton_self n)
      have hnl : n ∉ l := fun w => (hcl n w).2.2 (List.mem_singleton_self n)
      rw [show hdN [n] = n from rfl]
      refine Rt.bd (wJ_n (show n < rlen 61 from hn4) (by decide)) ?_
      have e1 : NO (fun m => m = n) S (Ul S 61 (vp_updL (Zl S 61) n xv)) := NO.w1 rfl
      have f6 : FLs (Ul S 61 (vp_updL (Zl S 61) n xv)) fl t := hf.no e1 (fun m hm w => hnf (by rw [← w]; exact hm)) rfl rfl
      have v1 : Zl (Ul S 61 (vp_updL (Zl S 61) n xv)) 61 n = xv := by rw [Zl_us, upL_s]
      have x1 : Zr (Ul S 61 (vp_updL (Zl S 61) n xv)) = Zr S := rfl
      generalize Ul S 61 (vp_updL (Zl S 61) n xv) = Sa at e1 f6 v1 x1
      refine Rt.bd (wZ_n (show n < rlen 62 from hn4) (by decide) (Or.inr rfl)) ?_
      have e2 : NO (fun m => m = n) Sa (Ur Sa 62 (upd (Zr Sa 62) n 1)) := NO.w2 rfl
      have f7 := f6.no e2 (fun m hm w => hnf (by rw [← w]; exact hm)) rfl rfl
      have v2 : Zl (Ur Sa 62 (upd (Zr Sa 62) n 1)) 61 = Zl Sa 61 := rfl
      have v3 : Zr (Ur Sa 62 (upd (Zr Sa 62) n 1)) 62 n = 1 := by rw [Zr_us, upd_s]
      have v4 : Zr (Ur Sa 62 (upd (Zr Sa 62) n 1)) 63 = Zr Sa 63 := Zr_u9 (by decide)
      generalize Ur Sa 62 (upd (Zr Sa 62) n 1) = Sb at e2 f7 v2 v3 v4
      have e3 := e1.tr e2
      refine Rt.rt ⟨k + 1, l, fl, Or.inr ⟨q1, n, rfl, Or.inr ⟨v3, ?_⟩⟩, f7, e3.mo (fun a ha => Or.inl (List.mem_singleton.mpr ha)), fun a _ => by rw [v4, x1], fun a => rfl, fun _ => ⟨n, rfl, by rw [v2, v1]⟩⟩
      show vL (yT R S0) (szN R S0) (nMS Sb) k T W (Zl Sb 61 n) l h
      rw [v2, v1]
      exact q2.st (e3.ag (fun a ha w => hnl (by rw [← w]; exact ha)))
/-- a value is put into a place, it leaves the stack -/
theorem kN.as {k1 : Nat} {l0 g0 rest hr l1 h1 : List Nat} {d : Nat × Nat} {A : Nat → Prop} (hy : nYk y zn sz rk) (hJ : kJ y vt tb f x rt V) (hN : kN y zn sz M sk pl f x rt V bs C L H) (hC : kC C L H fl t tk) (hf6 : f < 60) (hw1 : ∀ j : Nat, j ≤ f → wl (x j).2.1 ≤ 177) (hd1 : d.1 ≤ f) (hd4 : d.2 < 40) (hdS : (8, d.2, 0) ∈ (x d.1).2.1) (wlx : wl (x f).2.1 = 1) (hX0 : wl X.2.1 = 0) (hX8 : ∀ u : Nat, (8, u, 0) ∈ X.2.1 ↔ (8, u, 0) ∈ (x f).2.1)
  (hV : ∀ q : Nat × Nat, q ≠ d → ¬ (q.1 = f ∧ 40 ≤ q.2) → rt2 q = rt q ∧ V2 q = V q) (hrd : rt2 d = rt d) (hVd : V2 d = qG (V d) π W)
  (pc : ∀ a : Nat, cnN a (C d) + cnN a (L d) = cnN a c0 + cnN a l0 + cnN a rest) (ph : ∀ a : Nat, cnN a (H d) = cnN a g0 + cnN a hr) (pm : ∀ a ∈ C d, a ∈ c0 ∨ a ∈ rest) (pf : foR y zn sz M (rt d) T (V d) π (C d) c0 rest hr)
  (hM : ∀ a : Nat, ¬ A a → M2.w a = M.w a ∧ M2.h a = M.h a ∧ M2.x a = M.x a) (hA : ∀ a : Nat, A a → (a ∈ c0 ∨ a ∈ l0) ∨ a ∈ L (f, 40)) (hx0 : ∀ a ∈ c0, M2.x a = M.x a) (hnew : pL y sz M2 k1 T W c0 l1 h1)
  (hfl2 : ∀ a : Nat, cnN a l1 + cnN a fl2 = cnN a l0 + cnN a (L (f, 40)) + cnN a fl) (hh1 : ∀ q : Nat, cnN q h1 ≤ cnN q (H (f, 40))) (htk : ∀ q : Nat, tk2 q = tk q ∨ 1 ≤ cnN q g0)
  (hrr : ∀ (j u : Nat) (e : Nat × Nat) (π9 : lLc), j ≤ f → kA (kUx x f X j) u → kSc (kUx x f X j).2.1 u → kR (kUx x f X j) u = some (e :: π9) → ((j, u) ≠ d ∧ kA (x j) u ∧ kR (x j) u = some (e :: π9) ∧ (e = d → lP π π9 → π9 = π)) ∨ ((j, u) = d ∧ e ≠ d ∧ (e.1 ≤ f ∧ e.2 < 40 ∧ (8, e.2, 0) ∈ (x e.1).2.1) ∧ ∃ m n2 : Nat, C d = [m] ∧ M2.w m = nL n2 ∧ n2 < 430000 ∧ wRn y zn M (rt e) (hdN (C e)) π9 n2 ∧ ∃ T9 : Nat, qW y (rt e) π9 T9 ∧ prS (V e) π9))
  (hsk : ∀ q : Nat, q < bs f → sk2 q = sk q) : ∃ l2 h2 : List Nat, kN y zn sz M2 sk2 pl f (kUx x f X) rt2 V2 bs C (u2N L d (f, 40) l2 []) (u2N H d (f, 40) h2 []) ∧ kC C (u2N L d (f, 40) l2 []) (u2N H d (f, 40) h2 []) fl2 t tk2 := by
  have hf := Nat.le_refl f
  have h177 := hw1 f hf
  have e1 : ((f, 40) : Nat × Nat) ≠ d := fun w => by rw [← w] at hd4; exact absurd hd4 (by show ¬ (40 < 40); omega)
  have d60 : d.1 < 60 := by omega
  have d300 : d.2 < 300 := by omega
  have top : ∀ u : Nat, 40 ≤ u → C (f, u) = [] ∧ (u ≠ 40 → L (f, u) = [] ∧ H (f, u) = []) := fun u hu => by
    obtain ⟨q1, q2, q3⟩ := hN.1 f u hf
    by_cases e : u < 40 + wl (x f).2.1
    · exact ⟨(q2 hu e).1, fun z => by omega⟩
    · obtain ⟨z1, z2, z3⟩ := q3 (fun z => by rcases z with z | z <;> omega)
      exact ⟨z1, fun _ => ⟨z2, z3⟩⟩
  have inV : ∀ a : Nat, 1 ≤ cnN a c0 + cnN a l0 + cnN a rest → cnN a c0 + cnN a l0 + cnN a rest = 1 ∧ ∀ q : Nat × Nat, q.1 < 60 → q.2 < 300 → (a ∈ C q ∨ a ∈ L q) → q = d := fun a ha => by
    have hm : a ∈ C d ∨ a ∈ L d := by
      have := pc a
      by_cases w : a ∈ C d
      · exact Or.inl w
      · have := cnN_z w
        exact Or.inr (cnN_mem.mpr (by omega))
    obtain ⟨q1, q2, q3, q4, q5⟩ := hC.one d60 d300 hm
    exact ⟨by rw [← pc a]; exact q4, q5⟩
  have one : ∀ a : Nat, (a ∈ c0 ∨ a ∈ l0) → 1 ≤ cnN a c0 + cnN a l0 := fun a w => by
    rcases w with w | w
    · have := cnN_mem.mp w; omega
    · have := cnN_mem.mp w; omega
  have dj : ∀ (q : Nat × Nat) (a : Nat), q ≠ d → q ≠ (f, 40) → q.1 ≤ f → kSc (x q.1).2.1 q.2 → (a ∈ C q ∨ a ∈ L q) → ¬ A a := fun q a h1 h12 h2 h3 h4 w => by
    have hq := hw1 q.1 h2
    have q300 : q.2 < 300 := by rcases h3 with z | z <;> omega
    rcases hA a w with z | z
    · have := one a z
      exact h1 ((inV a (by omega)).2 q (by omega) q300 h4)
    · obtain ⟨_, _, _, _, q5⟩ := hC.one (r := q) (by omega) q300 h4
      exact h12 (q5 (f, 40) hf6 (show 40 < 300 by omega) (Or.inr z)).symm
  have dr : ∀ a ∈ rest, ¬ A a := fun a ha w => by
    have m1 := cnN_mem.mp ha
    obtain ⟨z3, z4⟩ := inV a (by omega)
    rcases hA a w with z | z
    · have := one a z; omega
    · exact e1 (z4 (f, 40) hf6 (show 40 < 300 by omega) (Or.inr z))
  obtain ⟨f1, f2⟩ := pf M2 (fun a ha => hM a (dr a ha)) hx0
  obtain ⟨k2, l2, h2, g1, g2, g3⟩ := f1 W k1 l1 h1 hnew
  obtain ⟨_, hlk, hpl⟩ := (hN.1 d.1 d.2 hd1).1 hd4 hdS
  have hlk2 : lkN M2.x (C d) := hlk.cg (fun a ha => by
    rcases pm a ha with w | w
    · exact hx0 a w
    · exact (hM a (dr a w)).2.2)
  have hag : ∀ q : Nat × Nat, q ≠ d → ¬ (q.1 = f ∧ 40 ≤ q.2) → q.1 ≤ f → agN M M2 (C q) ∧ agN M M2 (L q) := fun q h1 h12 h2 => by
    have n40 : q ≠ (f, 40) := fun z => h12 (by rw [z]; exact ⟨rfl, Nat.le_refl 40⟩)
    by_cases c : kSc (x q.1).2.1 q.2
    · exact ⟨fun a ha => hM a (dj q a h1 n40 h2 c (Or.inl ha)), fun a ha => hM a (dj q a h1 n40 h2 c (Or.inr ha))⟩
    · obtain ⟨z1, z2, _⟩ := (hN.1 q.1 q.2 h2).2.2 c
      have z1 : C q = [] := z1
      have z2 : L q = [] := z2
      rw [z1, z2]
      exact ⟨fun _ w => (by cases w), fun _ w => (by cases w)⟩
  refine ⟨l2, h2, kN.up (bs := bs) (bs2 := bs) (f2 := f) hy hJ hN (fun r => r.1 ≤ f ∧ r ≠ d ∧ ¬ (r.1 = f ∧ 40 ≤ r.2)) (fun j u ⟨k1, k2, k3⟩ => ?_) (fun j u hj hk => ?_) (fun j u hj => ?_) ⟨hN.2.2.1.1, fun j hj => ?_⟩ (fun j u e π9 hj ha hc he => ?_), ?_⟩
  · have n40 : (j, u) ≠ (f, 40) := fun z => k3 (by rw [z]; exact ⟨rfl, Nat.le_refl 40⟩)
    obtain ⟨v1, v2⟩ := hV (j, u) k2 k3
    obtain ⟨a1, a2⟩ := hag (j, u) k2 k3 k1
    refine ⟨⟨k1, rfl⟩, ?_, fun a => ?_, ⟨v1, v2⟩, ⟨rfl, u2N_o k2 n40, u2N_o k2 n40⟩, a1, a2, fun _ _ => rfl, fun a b => ?_⟩
    · by_cases e : j = f
      · subst e; rw [kUx_top]; exact hX8 u
      · rw [kUx_lo e]
    · have e : j ≠ f := fun w => k3 ⟨w, a⟩
      rw [kUx_lo e]
    · have e : j ≠ f := fun w => k3 ⟨w, a⟩
      have k1 : j ≤ f := k1
      have := (hN.bsm k1 hf).2 (by omega)
      exact hsk _ (by omega)
  · by_cases c : (j, u) = d
    · subst c
      rw [hrd, hVd, u2N_1, u2N_1]
      have h8 : (8, u, 0) ∈ (kUx x f X j).2.1 := by
        by_cases e : j = f
        · subst e; rw [kUx_top]; exact (hX8 u).mpr hdS
        · rw [kUx_lo e]; exact hdS
      exact ⟨fun _ _ => ⟨⟨k2, g1⟩, hlk2, hpl⟩, fun w => by have hd4 : u < 40 := hd4; omega, fun w => absurd (Or.inl ⟨hd4, h8⟩) w⟩
    · have c2 : j = f ∧ 40 ≤ u := Classical.byContradiction (fun w => hk ⟨hj, c, w⟩)
      obtain ⟨c2, c3⟩ := c2
      subst c2
      rw [kUx_top]
      obtain ⟨t1, t2⟩ := top u c3
      have hLH : u2N L d (j, 40) l2 [] (j, u) = [] ∧ u2N H d (j, 40) h2 [] (j, u) = [] := by
        by_cases c4 : u = 40
        · subst c4
          exact ⟨u2N_2 e1, u2N_2 e1⟩
        · have n1 : ((j, u) : Nat × Nat) ≠ (j, 40) := fun w => c4 (Prod.mk.inj w).2
          rw [u2N_o c n1, u2N_o c n1]
          exact t2 c4
      rw [t1, hLH.1, hLH.2]
      exact ⟨fun w => by omega, fun _ w => by rw [hX0] at w; omega, fun _ => ⟨rfl, rfl, rfl⟩⟩
  · have n1 : ((j, u) : Nat × Nat) ≠ d := fun w => by rw [← w] at hd1; have hd1 : j ≤ f := hd1; omega
    have n2 : ((j, u) : Nat × Nat) ≠ (f, 40) := fun w => by have := (Prod.mk.inj w).1; omega
    rw [u2N_o n1 n2, u2N_o n1 n2]
    exact hN.2.1 j u hj
  · rw [kUx_lo (by omega)]; exact hN.2.2.1.2 j hj
  · have hju : ¬ (j = f ∧ 40 ≤ u) := fun ⟨w1, w2⟩ => by
      subst w1
      rw [kUx_top] at hc
      rcases hc with z | z
      · omega
      · rw [hX0] at z; omega
    rcases hrr j u e π9 hj ha hc he with ⟨q1, q2, q3, q4⟩ | ⟨q1, q2, q3, m, n2, q4, q5, q6, q7, T9, q8, q9⟩
    · obtain ⟨l1', l2', l3, T9, l4, l5, l6⟩ := hJ.ld hj q2 q3
      by_cases ed : e = d
      · refine Or.inr ?_
        subst ed
        have oc : kSc (x j).2.1 u := by
          by_cases ejf : j = f
          · subst ejf
            rw [kUx_top] at hc
            rcases hc with ⟨z1, z2⟩ | ⟨z1, z2⟩
            · exact Or.inl ⟨z1, (hX8 u).mp z2⟩
            · rw [hX0] at z2; omega
          · rw [kUx_lo ejf] at hc; exact hc
        have n40 : ((j, u) : Nat × Nat) ≠ (f, 40) := fun z => hju ⟨(Prod.mk.inj z).1, by rw [(Prod.mk.inj z).2]; exact Nat.le_refl 40⟩
        obtain ⟨n, n1, n2, n3, n4⟩ := hN.2.2.2 j u e π9 hj q2 oc q3
        refine ⟨n, n1, ?_, fun a => ?_, fun a => ?_⟩
        · rw [hrd]
          exact f2 π9 T9 n l4 l6 (q4 rfl) n2
        · obtain ⟨m, i1, i2⟩ := n3 a
          have hm : m ∈ C (j, u) := by rw [i1]; exact List.mem_singleton_self m
          exact ⟨m, i1, (hM m (dj (j, u) m q1 n40 hj oc (Or.inl hm))).1.trans i2⟩
        · have ejf : j ≠ f := fun w => hju ⟨w, a⟩
          have hlt : u < 40 + wl (x j).2.1 := by
            rcases oc with z | z <;> omega
          have := (hN.bsm hj hf).2 (by omega)
          rw [hsk _ (by omega)]; exact n4 a
      · exact Or.inl ⟨⟨hj, q1, hju⟩, ⟨l1', ed, fun w => by omega⟩, q2, q3⟩
    · refine Or.inr ?_
      obtain ⟨q31, q32, q33⟩ := q3
      obtain ⟨a1, a2⟩ := hag e q2 (fun w => by omega) q31
      have hre := (hV e q2 (fun w => by omega)).1
      subst q1
      refine ⟨n2, q6, ?_, fun _ => ⟨m, q4, q5⟩, fun w => by have hd4 : u < 40 := hd4; omega⟩
      rw [hre]
      exact ((hN.hd hy q31 q32 q33).1).wk hy q8 q9 q7 a1 a2
  · have r0 : ∀ i : Nat, i < 2 → i = 0 ∨ i = 1 := fun i hi => by omega
    have pn : ∀ q : Nat, psN (fun i => cnN q (u2N H d (f, 40) h2 [] (if i = 0 then d else (f, 40)))) 2 = cnN q h1 + cnN q hr ∧ psN (fun i => cnN q (H (if i = 0 then d else (f, 40)))) 2 = cnN q g0 + cnN q hr + cnN q (H (f, 40)) ∧ cnN q g0 + cnN q hr + cnN q (H (f, 40)) ≤ 1 := fun q => by
      rw [psN_two, psN_two]
      have w1 := g3 q
      have w2 := ph q
      have w5 : cnN q (H d) + cnN q (H (f, 40)) ≤ sm2 (fun r => cnN q (H r)) := sm2_ij (G := fun r => cnN q (H r)) d60 d300 hf6 (show 40 < 300 by omega) e1.symm
      have w6 := (hC.2 q).1
      refine ⟨?_, ?_, by omega⟩
      · show cnN q (u2N H d (f, 40) h2 [] d) + cnN q (u2N H d (f, 40) h2 [] (f, 40)) = _
        rw [u2N_1, u2N_2 e1]
        show cnN q h2 + 0 = _
        omega
      · show cnN q (H d) + cnN q (H (f, 40)) = _
        omega
    refine hC.fam (r := fun i => if i = 0 then d else (f, 40)) (n := 2) (fun i hi => ?_) (fun i j hi hj he => ?_) (fun q hq => ?_) (fun a => ?_) (fun q => Or.inl ?_)
    · rcases r0 i hi with e | e <;> subst e
      · exact ⟨d60, d300⟩
      · exact ⟨hf6, show 40 < 300 by omega⟩
    · rcases r0 i hi with e | e <;> rcases r0 j hj with e2 | e2 <;> subst e <;> subst e2
      · rfl
      · exact absurd he.symm e1
      · exact absurd he e1
      · rfl
    · have n1 := hq 0 (by omega)
      have n2 := hq 1 (by omega)
      exact ⟨rfl, u2N_o n1 n2, u2N_o n1 n2⟩
    · rw [psN_two, psN_two]
      show (cnN a (C d) + cnN a (u2N L d (f, 40) l2 [] d)) + (cnN a (C (f, 40)) + cnN a (u2N L d (f, 40) l2 [] (f, 40))) + cnN a fl2 + ind t a = (cnN a (C d) + cnN a (L d)) + (cnN a (C (f, 40)) + cnN a (L (f, 40))) + cnN a fl + ind t a
      rw [u2N_1, u2N_2 e1]
      have w1 := g2 a
      have w2 := pc a
      have w3 := hfl2 a
      have w4 : cnN a ([] : List Nat) = 0 := rfl
      rw [w4]
      omega
    · obtain ⟨w1, w2, w3⟩ := pn q
      have z1 := hh1 q
      rw [w1, w2]
      exact ⟨by omega, (htk q).imp id (fun z => ⟨by omega, by omega⟩)⟩
end PS97
end
