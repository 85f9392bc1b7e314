section PS93
variable {R : yR} {K : Ky} {S0 Sl S S1 S2 S3 : Sg} {D : fD} {i k j f nw n v : Nat} {vt : Nat → Nat → Nat} {tb : Nat → lTb} {x : Nat → kFm} {bs : Nat → Nat} {g : Nat → Int32} {X : kFm} {al : Nat → Prop}
theorem trL_56 {q r c : Nat} (hq : q = 5 ∨ q = 6) : ∀ {s : List tE}, (q, r, c) ∈ s → (q, r, 64 * (c % 64)) ∈ trL al s
  | [], h => by cases h
  | e :: s, h => by
    show (q, r, 64 * (c % 64)) ∈ trE al (wl s) e :: trL al s
    rcases List.mem_cons.mp h with w | w
    · rw [← w, trE_56 hq]; exact List.mem_cons_self ..
    · exact List.mem_cons_of_mem _ (trL_56 hq w)
/-- a step's end, told in full: where the place that is matched on lies, too -/
theorem finG5 (hL : LFS R S0 g) (hk : PK R S0 i D k) (e : edg D k j) (hX : kT (yT R S0) (zN R S0) (szN R S0) vt tb f (kUx x f X) bs S2) (x2 : X.2.2.1 = 0) (x1 : X.1 = i) (xA : kAn X = kAn (x f)) (hst : wkS X.2.1 (trL (AL D j) (D.st j))) (hg : gtS (D.st j)) (h3 : ∀ r m : Nat, (3, r, m) ∉ D.st j) (h5 : ∀ (q r m v : Nat) (ρ : lLc), (q = 5 ∨ q = 6) → (q, r, 64 * cdP v ρ + m) ∈ D.st j → m < 64 → v < 40 → pd5 f (vt i v) (kR X) v ρ)
  (hal : ∀ u : Nat, u < 40 → AL D j u → kal X u) (hH1 : ∀ u κ : Nat, u < 40 → AL D j u → kH X u κ → HK D j u κ) (hH2 : ∀ m κ : Nat, m < wl (D.st j) → AL D j (40 + m) ∨ mkS (D.st j) → kH X (40 + m) κ → HK D j (40 + m) κ ∧ (mkS (D.st j) → m = 0 → okl R S0 i D κ)) (hH3 : ∀ (κ r m : Nat), (5, r, m) ∈ trL (AL D j) (D.st j) ∨ (6, r, m) ∈ trL (AL D j) (D.st j) → kH X 300 κ → HA R S0 i D j 300 κ) (hlo : ∀ (v : Nat) (π : lLc), v < 40 → (8, v, 0) ∈ D.st j → klo X v π → LO R S0 D j v π)
  (h77 : Zi S2 77 = nI j) (h73 : Zi S2 73 = nI (bs f + wl (D.st j))) (h75 : Zr S2 75 = Zr S 75) (h76 : Zi S2 76 = Zi S 76) : NXt R S0 vt tb i D k f x bs S S2 := by
  obtain ⟨hD, hkk, hW, hG, hE⟩ := hk
  have hy := nYk_of hL
  obtain ⟨j1, j2, j3, j4, j5⟩ := hD.in e
  obtain ⟨Y, y1, y2, y3, y4⟩ := kT.finR (D := D) (j := j) (i := i) (R := R) (S0 := S0) hy yB_yT hX (by rw [kUx_top]; exact x2) (by rw [kUx_top]; exact x1) (by rw [kUx_top]; exact hst) (by rw [kUx_top]; exact hal) (by rw [kUx_top]; exact hH1) (by rw [kUx_top]; exact hH2) (by rw [kUx_top]; exact hH3) (by rw [kUx_top]; exact hlo)
  rw [kUx_top] at y2 y4
  rw [kUx2] at y3
  obtain ⟨rt, V, C, L, H, fl, t, hh⟩ := y3
  refine ⟨j, Y, e, ⟨hD, ⟨j1, j2, j5⟩, j3 hW, hg, hE⟩, h77, h73, ⟨h75, h76⟩, y1, y2.trans xA, rt, V, C, L, H, fl, t, hh, (fun r m w => absurd w (h3 r m)), fun q r m v ρ hq w hm hv => ?_⟩
  rw [kUx_top, y1.1]
  have h7 := hh.1.2.2.2.2.2.2.2.1 f (Nat.le_refl f) r (64 * ((64 * cdP v ρ + m) % 64))
  rw [kUx_top, y1.2.1] at h7
  have hm8 : (q, r, 64 * ((64 * cdP v ρ + m) % 64)) ∈ trL (AL D j) (D.st j) := trL_56 hq w
  have h300 : ∃ a : lLc, kR Y 300 = some a := by
    rcases hq with rfl | rfl
    · obtain ⟨_, a0, π, p, _⟩ := h7.1 hm8
      exact ⟨_, p⟩
    · obtain ⟨_, a0, π, p, _⟩ := h7.2 hm8
      exact ⟨_, p⟩
  obtain ⟨a, ha⟩ := h300
  obtain ⟨d, π, p1, p2⟩ := h5 q r m v ρ hq w hm hv
  refine ⟨d, π, ?_, ?_⟩
  · rcases y4 300 with z | ⟨z, _⟩
    · rw [z]; exact p1
    · rw [z] at ha; cases ha
  · rcases p2 with p2 | ⟨π0, ρ2, q1, q2⟩
    · exact Or.inl p2
    · refine Or.inr ⟨π0, ρ2, ?_, q2⟩
      rcases y4 v with z | ⟨_, z⟩
      · rw [z]; exact q1
      · omega
/-- PART -/
theorem s_23 (hL : LFS R S0 g) (hx : LX S0 Sl) (hE : hFE R S0 D) (h : RQ R S0 vt tb i D k f x bs Sl k S) (hQ : D.Pe < 24000) (hk : (D.I k).kd = 23) : Rt (f_step R.K S) (fun S2 _ => RTt R S0 vt tb i D k f x bs Sl S S2) := by
  have h24 := h.k24 hQ
  have hy := nYk_of hL
  have hB := yB_yT (R := R) (S0 := S0)
  refine stp_23 h hQ hk (fun S1 h1 e70 e3 er el => ?_)
  have hp := h1.pt.1
  unfold tPt at hp
  rw [hk] at hp
  obtain ⟨_, v, ρ, w, q9, g9, m9, r, hvs, hw4, ho, ⟨l, hln⟩, hs, ⟨hwr, hnr, hmu⟩, hwrn, hq70, hg12, h3k, hgl, hml, hpa, ⟨hv4, had⟩, hvr, hpt, hms, hlen, hiu, hvtw, ht9, hJ9⟩ := hp
  have hEy := h1.1.2.2.2.2
  rw [hEy] at h3k hgl hml hpa hpt hvtw ht9 hJ9
  have hFn := h1.1.1
  have hn31 : (D.I k).n3 ≤ 1 := ((hFn.1.2.2 k h1.1.2.1.1 h1.1.2.1.2.1).2.2.2.1 l hln).2.2
  obtain ⟨Q, e1, hQ56, e3q, hQ5⟩ : ∃ Q : Nat, (if (D.I k).n3 = 1 then 5 else 6) = Q ∧ (Q = 5 ∨ Q = 6) ∧ (if (D.I k).n3 = 1 then 10000 else 10001) = 9995 + Q ∧ ((Q = 5 ∧ (D.I k).n3 = 1) ∨ (Q = 6 ∧ (D.I k).n3 = 0)) := by
    by_cases c : (D.I k).n3 = 1
    · rw [if_pos c, if_pos c]; exact ⟨5, rfl, Or.inl rfl, rfl, Or.inl ⟨rfl, c⟩⟩
    · rw [if_neg c, if_neg c]; exact ⟨6, rfl, Or.inr rfl, rfl, Or.inr ⟨rfl, by omega⟩⟩
  rw [e1] at hs hJ9
  rw [e3q] at hvtw
  generalize hU : (yT R S0).2.2.2.2 (4 + q9) g9 m9 = U at hpa hvtw ht9
  generalize hN9 : (yT R S0).2.2.2.1 (4 + q9) g9 = N9 at hml hJ9
  have hN12 : N9 ≤ 12 := by rw [← hN9]; exact (hy.2.2.2 (4 + q9) g9 h3k hgl).2.1
  have hgt := h1.1.2.2.2.1
  rw [hs] at hgt
  have hrn := hgt.tl
  have hed : edg D k (k + 1) := h1.e1 (kd_s hk (by decide))
  have k24 : (D.I k).kd ≠ 24 := by rw [hk]; decide
  have hmk : ∀ c : Nat, (Q, q9 * 12 + g9, c).1 = 8 ∨ (Q, q9 * 12 + g9, c).1 = 4 ∨ (Q, q9 * 12 + g9, c).1 = 5 ∨ (Q, q9 * 12 + g9, c).1 = 6 := fun c => by
    show Q = 8 ∨ Q = 4 ∨ Q = 5 ∨ Q = 6
    omega
  have wst : wl (D.st k) = 0 := by rw [hs, wl_0 (hmk _), hwr]
  have hb := h1.sb
  have h73 := h1.2.2.2.1.2.1
  rw [wst] at h73 hb
  obtain ⟨va, v9, ty, mu, z1, z2, z3, z4, z5⟩ := h1.2.1.2.2.2.2.2.2.2.2.2.2.1 (Or.inr (Or.inr (Or.inl hk)))
  obtain rfl : v9 = w := by rw [hvs] at z2; exact (List.cons.inj z2).1.symm
  have hX1 := h1.2.2.1
  have e := hX1.1
  obtain ⟨rt, V, C, L, H, fl, t9, ⟨hJ, hN, hC, hF⟩, _, h5v⟩ := h1.2.2.2.2.2.2.1
  obtain ⟨a1, a2, a3, a4, a5, a6⟩ := h1.2.2.2.2.2.1
  have hvt : vt (x f).1 = D.E.vt := by rw [a1]; exact h1.2.2.2.2.2.2.2.2.1
  have hf6 := h1.2.2.2.2.1
  have hws := h1.2.2.2.2.2.2.2.1
  have hro := hN.room hy hC hf6 hws hF.2.2.2.2
  have h76 := h1.2.2.2.1.2.2
  have wx : wl (x f).2.1 = 0 := by rw [h1.st.2]; exact wst
  have er12 : (q9 * 12 + g9) / 12 = q9 := by omega
  have em12 : (q9 * 12 + g9) % 12 = g9 := by omega
  have e64 : 64 * m9 / 64 = m9 := by omega
  have hS : (x f).2.1 = (Q, q9 * 12 + g9, 64 * m9) :: trL (AL D k) r := by
    rw [a2, hs]
    show trE (AL D k) (wl r) (Q, q9 * 12 + g9, 64 * cdP v ρ + m9) :: trL (AL D k) r = _
    rw [trE_56 hQ56]
    show (Q, q9 * 12 + g9, 64 * ((64 * cdP v ρ + m9) % 64)) :: trL (AL D k) r = _
    rw [show (64 * cdP v ρ + m9) % 64 = m9 by omega]
  have wl0 : wl (trL (AL D k) r) = 0 := by rw [trL_wl]; exact hwr
  have hvold : (8, v9, 0) ∉ (x f).2.1 := fun z => by
    rw [hS] at z
    rcases List.mem_cons.mp z with z | z
    · have := (Prod.mk.inj z).1
      omega
    · exact hwrn (trL_8.mp z)
  have hvS : (8, v, 0) ∈ (x f).2.1 := by rw [hS]; exact List.mem_cons_of_mem _ (trL_8.mpr hvr)
  have hvw : v ≠ v9 := fun z => by rw [z] at hvS; exact hvold hvS
  have hal : ∀ u : Nat, u ≠ v9 → (u < 40 ∧ AL D (k + 1) u) → kal (x f) u := fun u hu q => by
    rw [a5]
    exact ⟨q.1, hFn.al hed (by omega) (fun z => by rw [ho] at z; exact hu (Option.some.inj z).symm) q.2⟩
  have hlo : ∀ (u : Nat) (π : lLc), u ≠ v9 → ¬ (LO R S0 D (k + 1) u π ∨ 40 ≤ u) → ¬ klo (x f) u π := fun u π hu hn q => by
    rw [a6] at q
    by_cases c : u < 40
    · exact hn (Or.inl (hFn.lv9 hL hEy hed c q (Or.inr (Or.inr (Or.inr (Or.inl hk)))) (by rw [hvs]; exact fun z => hu (List.mem_singleton.mp z)) (by rw [hk]; decide)))
    · exact hn (Or.inr (by omega))
  have hcod : ∀ (v' q' r' m' : Nat) (ρ' : lLc) (s' : List tE), D.st k = (q', r', 64 * cdP v' ρ' + m') :: s' → m' < 64 → v' = v ∧ ρ' = ρ ∧ q' = Q := fun v' q' r' m' ρ' s' z zm => by
    rw [hs] at z
    obtain ⟨z, _⟩ := List.cons.inj z
    obtain ⟨z1, z⟩ := Prod.mk.inj z
    obtain ⟨_, z⟩ := Prod.mk.inj z
    obtain ⟨y1, y2⟩ := cdP_inj (show cdP v ρ = cdP v' ρ' by omega)
    exact ⟨y1.symm, y2.symm, z1.symm⟩
  have hd1 : ∀ κ : Nat, kH (x f) 300 κ → HK D (k + 1) v9 κ := fun κ q => by
    rw [a4] at q
    rcases q with ⟨q, _⟩ | ⟨_, v', q', r', m', ρ', s', q1, q2, q3, q4⟩
    · omega
    · obtain ⟨rfl, rfl, rfl⟩ := hcod v' q' r' m' ρ' s' q1 q3.1
      rcases q4 with q4 | ⟨q4, q5⟩
      · rw [q4]
        refine hFn.hn hed (by omega) ho ⟨hln, ?_, Or.inr ⟨hk, g9, m9, _, hpa⟩⟩
        rcases hQ5 with ⟨c1, c2⟩ | ⟨c1, c2⟩
        · rw [c1, c2]; rfl
        · rw [c1, c2]; rfl
      · exact hFn.hf hed (by omega) ho k24 (by rw [(hiu.1 q4).2]; exact List.mem_singleton_self _) q5.1
  have hmt : ∀ e : tE, e ∈ trL (AL D k) r → ¬ (e.1 = 4 ∨ e.1 = 5 ∨ e.1 = 6) := trL_4 (pn_4 hrn)
  obtain ⟨d, π, b1, b2, b3, b4, hJ2⟩ := kJ_bindR (hd := HK D (k + 1) v9) (al2 := fun u => u < 40 ∧ AL D (k + 1) u) (lo2 := fun u π => LO R S0 D (k + 1) u π ∨ 40 ≤ u) hB.2.2.1 hJ a3 (by rw [er12, em12, e64, hU]; exact ht9) hQ56 hS hmt hw4 (fun z => hwrn (trL_8.mp z)) (by rw [er12]; exact h3k) (by rw [er12, em12, e64, hN9]; exact hml) (by rw [er12, em12, e64, hU, hvt]; exact hvtw) hal hlo hd1
  rw [er12, em12] at b2
  rw [er12] at b4
  rw [em12, e64] at hJ2
  -- where the part lies
  obtain ⟨d', π', c1, c2⟩ := h5v Q _ m9 v ρ hQ56 (by rw [hs]; exact List.mem_cons_self ..) (by omega) hv4
  rw [b1] at c1
  obtain ⟨rfl, rfl⟩ := List.cons.inj (Option.some.inj c1)
  have hrf : Nat.le f f := Nat.le_refl f
  have hkv : isRf (vt (x f).1 v) → kA (x f) v := fun z => by
    refine Or.inl ⟨hv4, ?_⟩
    rw [hvt] at z
    rw [a5]
    exact ⟨hv4, Or.inl (by rw [(hiu.1 z).1]; exact List.mem_singleton_self _)⟩
  have hdl : d.1 ≤ f ∧ d.2 < 40 ∧ (8, d.2, 0) ∈ (x d.1).2.1 := by
    rcases c2 with ⟨q1, _, _⟩ | ⟨π0, ρ2, q1, _, _, q4⟩
    · rw [q1]; exact ⟨Nat.le_refl _, hv4, hvS⟩
    · obtain ⟨l1, l2, l3, _⟩ := hJ.ld (Nat.le_refl f) (hkv q4) q1
      exact ⟨l1, l2, l3⟩
  obtain ⟨p1, p2, p3⟩ := hN.hd hy (d := d) hdl.1 hdl.2.1 hdl.2.2
  have hpt1 : qW (yT R S0) (4 + q9) [(g9 + 2, m9)] U := ⟨h3k, hgl, by rw [hN9]; exact hml, hU.symm⟩
  have hwp := qW_app b4 hpt1
  have hqp : qPl (V d) (π ++ [(g9 + 2, m9)]) := qF_pl (((hJ.1 d).1 π _ _ b2).2.2.2.2 h3k m9 (by rw [hN9]; exact hml))
  obtain ⟨⟨kk, zz1⟩, zz2, _⟩ := p1
  obtain ⟨nn, hnn⟩ := zz1.wk hy zz2 hwp (prS.of (hJ.1 d) hqp)
  have hn0 := hnn (nMS S1) (fun _ _ => ⟨rfl, rfl⟩) (fun _ _ => ⟨rfl, rfl, rfl⟩)
  have hn4 := hn0.lt p3
  have hgw : gWk (yT R S0) (zN R S0) (nMS S1) (D.E.vt v) (hdN (C (f, v))) (ρ ++ [(g9 + 2, m9)]) nn := by
    have hkr := (hJ.2.2.2.2.2.2.1 f (Nat.le_refl f) v hv4 hvS).1
    rw [hvt] at hkr
    rcases c2 with ⟨q1, q2, q3⟩ | ⟨π0, ρ2, q1, q2, q3, q4⟩
    · rw [hvt] at q3
      refine Or.inl ⟨q3, ?_⟩
      rw [q1, q2, hkr] at hn0
      exact hn0
    · obtain ⟨m1, m2, m3, m4, _⟩ := hN.2.2.2 f v d π0 (Nat.le_refl f) (hkv q4) (Or.inl ⟨hv4, hvS⟩) q1
      obtain ⟨m0, y1, y2⟩ := m4 hv4
      obtain ⟨_, r', π9, e9, d1, d2, d3⟩ := hJ.2.2.1 f (Nat.le_refl f) v (d :: π0) (hkv q4) q1
      obtain ⟨rfl, rfl⟩ := List.cons.inj e9
      rw [hkr] at d2
      rw [hvt] at q4
      rw [q2, List.append_assoc] at hn0
      obtain ⟨n9, u1, u2⟩ := hn0.cut d2
      have e9 := wRn.det u1 m3
      subst e9
      refine Or.inr ⟨q4, ρ2 ++ [(g9 + 2, m9)], n9, by rw [q3]; rfl, ?_, m2, u2⟩
      rw [y1]; exact y2
  obtain ⟨wp, r1, r2, r3⟩ := h1.fd (n := hdN (C (f, v))) (m := (ρ ++ [(g9 + 2, m9)]).length) (n2 := nn) hL hx hE hQ hN hpa hv4 (by rw [hs]; exact List.mem_cons_of_mem _ hvr) k24 rfl (Nat.le_refl _) (Or.inr (by rw [List.take_length]; exact hgw))
  obtain ⟨sl1, _⟩ := slo_ (R := R) (S := S1) e z3 h76
  have q40 : rQ S1 40 (nI k) = some (some va) := by rw [rQ_n (show k < rlen 40 from h24) (by decide), e.2.2.2.1, z1]
  refine Rt.bd q40 (Rt.be sl1 (Rt.bd r1 (Rt.bd r1 (Rt.bd r2 (Rt.be r3 ?_)))))
  show Rt (bnd (f_leaf R.K S1 (nL nn)) _) _
  refine Rt.bn (lea_ hF (fun z => by rw [z] at hro; have hro : t9 ≤ 0 + 424640 := hro; omega)) (fun S5 r5 ⟨nl, fl3, t3, y1, y2, y3, b6, b7, y6, y7, b8⟩ => ?_)
  rw [y1]
  refine Rt.bd (wRI_n (show 40 * f + v9 < rlen 74 from by show _ < 2440; omega) (by decide)) ?_
  unfold f_step_590
  have go6 : GO (fun _ => False) (fun _ => False) (fun p => p = 40 * f + v9) S5 (Ur S5 74 (upd (Zr S5 74) (40 * f + v9) (nI nl))) := Ur.go rfl
  have x6 : Zr (Ur S5 74 (upd (Zr S5 74) (40 * f + v9) (nI nl))) 74 = upd (Zr S5 74) (40 * f + v9) (nI nl) := Zr_us
  have i6 : Zi (Ur S5 74 (upd (Zr S5 74) (40 * f + v9) (nI nl))) = Zi S5 := rfl
  have l6 : Zl (Ur S5 74 (upd (Zr S5 74) (40 * f + v9) (nI nl))) = Zl S5 := rfl
  have r6 : ∀ q : Nat, q ≠ 74 → Zr (Ur S5 74 (upd (Zr S5 74) (40 * f + v9) (nI nl))) q = Zr S5 q := fun q hq => Zr_u9 hq
  have f6 : FLs (Ur S5 74 (upd (Zr S5 74) (40 * f + v9) (nI nl))) fl3 t3 := b6.eq rfl rfl (r6 63 (by decide))
  generalize Ur S5 74 (upd (Zr S5 74) (40 * f + v9) (nI nl)) = S6 at go6 x6 i6 l6 r6 f6
  have n6 : nMS S6 = nMS S5 := by
    show (Zl S6 61, Zr S6 62, Zr S6 63) = (Zl S5 61, Zr S5 62, Zr S5 63)
    rw [l6, r6 62 (by decide), r6 63 (by decide)]
  have hnl := (b8.1 nl (List.mem_singleton_self nl)).2.2
  have go : GO (fun a => a ∈ fl ∨ t9 < a) (fun _ => False) (fun p => p = 40 * f + v9) S1 S6 := (b7.go.mo (fun a z => by rw [z]; exact hnl) (fun _ z => z) (fun _ z => z)).tr (go6.mo (fun _ z => z.elim) (fun _ z => z) (fun _ z => z))
  have hag : ∀ l : List Nat, (∀ a ∈ l, a ∉ fl ∧ a ≤ t9) → agN (nMS S1) (nMS S6) l := fun l hl => go.ag (fun a ha z => by
    obtain ⟨w1, w2⟩ := hl a ha
    rcases z with z | z
    · exact w1 z
    · omega)
  have hL40 : L (f, 40) = [] ∧ H (f, 40) = [] := ((hN.1 f 40 (Nat.le_refl f)).2.2 (fun z => by rcases z with z | z <;> omega)).2
  have hkw : isRf (vt (x f).1 v9) := by
    rw [hvt, hvtw]
    exact ⟨by omega, by omega⟩
  have hkw2 : (yT R S0).1 (vt (x f).1 v9) ≠ 2 ∧ (yT R S0).1 (vt (x f).1 v9) ≠ 3 ∧ (yT R S0).1 (vt (x f).1 v9) ≠ 4 := by
    rcases (yRf (R := R) (S0 := S0)).mpr hkw with z | z <;> rw [z] <;> decide
  -- the mark stays, or goes
  have hst9 : ∃ (sk : List tE) (V3 : Nat × Nat → qV), kJ (yT R S0) vt tb f (kUx x f ((x f).1, sk, 0, lUp (kR (x f)) v9 (some (d :: (π ++ [(g9 + 2, m9)]))), lUp (kH (x f)) v9 (HK D (k + 1) v9), (fun u => u < 40 ∧ AL D (k + 1) u), (fun u π => LO R S0 D (k + 1) u π ∨ 40 ≤ u), kAn (x f))) (qRt rt (f, v9) (vt (x f).1 v9)) V3 ∧ V3 (f, v9) = qL (vt (x f).1 v9) ∧ (∀ q : Nat × Nat, ¬ (q.1 = f ∧ (q.2 = v9 ∨ 40 ≤ q.2)) → V3 q = V q) ∧ wl sk = 0 ∧ (∀ u : Nat, (8, u, 0) ∈ sk ↔ u = v9 ∨ (8, u, 0) ∈ (x f).2.1) ∧ wkS sk (trL (AL D (k + 1)) (D.st (k + 1))) ∧ wl (D.st (k + 1)) = 0 ∧ ((∀ a ∈ D.st (k + 1), pnE a) ∨ (m9 + 1 < 64 ∧ ∃ s : List tE, D.st (k + 1) = (Q, q9 * 12 + g9, 64 * cdP v ρ + (m9 + 1)) :: s ∧ ∀ a ∈ s, pnE a)) := by
    have hr8 : ∀ a ∈ (8, v9, 0) :: r, pnE a := fun a ha => by
      rcases List.mem_cons.mp ha with q | q
      · rw [q]; exact pnE_k (Or.inr (Or.inr (Or.inr rfl)))
      · exact hrn a q
    have hm8 : ∀ e : tE, e ∈ (8, v9, 0) :: trL (AL D k) r → ¬ (e.1 = 4 ∨ e.1 = 5 ∨ e.1 = 6) := fun a ha => by
      rcases List.mem_cons.mp ha with q | q
      · rw [q]; show ¬ ((8 : Nat) = 4 ∨ (8 : Nat) = 5 ∨ (8 : Nat) = 6); decide
      · exact hmt a q
    have V2q : ∀ q : Nat × Nat, ¬ (q.1 = f ∧ (q.2 = v9 ∨ 40 ≤ q.2)) → qUp V (f, v9) (qL (vt (x f).1 v9)) q = V q := fun q hq => qUp_ne (fun z => hq (by rw [z]; exact ⟨rfl, Or.inl rfl⟩))
    have mem8 : ∀ u : Nat, (8, u, 0) ∈ (8, v9, 0) :: trL (AL D k) r ↔ u = v9 ∨ (8, u, 0) ∈ (x f).2.1 := fun u => by
      rw [hS, List.mem_cons, List.mem_cons]
      constructor
      · rintro (q | q)
        · exact Or.inl (Prod.mk.inj (Prod.mk.inj q).2).1
        · exact Or.inr (Or.inr q)
      · rintro (q | q | q)
        · rw [q]; exact Or.inl rfl
        · have := (Prod.mk.inj q).1
          omega
        · exact Or.inr q
    rcases hJ9 with ⟨_, _, _, hw⟩ | ⟨hm1, _, _, hw⟩
    · have hJ3 := kJ_popM (e := (Q, q9 * 12 + g9, 64 * m9 + 64)) (r := (8, v9, 0) :: trL (AL D k) r) hJ2 (by rw [kUx_eq]) (by rw [kUx_eq]) (by show Q = 4 ∨ Q = 5 ∨ Q = 6; omega) hm8
      rw [kUx_eq, kUx2] at hJ3
      refine ⟨(8, v9, 0) :: trL (AL D k) r, _, hJ3, ?_, fun q hq => ?_, by rw [wl_0 (Or.inl rfl)]; exact wl0, mem8, trL_c hw (show (8 : Nat) ≠ 3 by decide) (show (8 : Nat) ≠ 5 by decide) (show (8 : Nat) ≠ 6 by decide) (fun n hn => by rw [hwr] at hn; omega), by rw [wkS_wl hw, wl_0 (Or.inl rfl)]; exact hwr, Or.inl (wkS_pn hw hr8)⟩
      · rw [kC3_out (Or.inr (by omega)), qUp_eq]
      · obtain ⟨qa, qb⟩ := q
        rw [kC3_out ?_]
        · exact V2q _ hq
        · by_cases c : qa = f
          · refine Or.inr (Nat.lt_of_not_le (fun z => hq ⟨c, Or.inr (by show 40 ≤ qb; omega)⟩))
          · exact Or.inl c
    · have hjq : ∃ s : List tE, D.st (k + 1) = (Q, q9 * 12 + g9, 64 * cdP v ρ + (m9 + 1)) :: s ∧ wkS ((8, v9, 0) :: r) s := by
        cases hst : D.st (k + 1) with
        | nil => rw [hst] at hw; exact hw.elim
        | cons a s =>
          rw [hst] at hw
          rcases hw.1 with z | ⟨t2, _, _, z⟩
          · rw [z]; exact ⟨s, rfl, hw.2⟩
          · rcases z with ⟨t, _, z⟩ | ⟨T, z | z⟩
            · have := (Prod.mk.inj z).1; omega
            · have := (Prod.mk.inj z).1; omega
            · have := (Prod.mk.inj z).1; omega
      obtain ⟨s, j1, j2⟩ := hjq
      refine ⟨(Q, q9 * 12 + g9, 64 * m9 + 64) :: (8, v9, 0) :: trL (AL D k) r, _, hJ2, qUp_eq, V2q, by rw [wl_0 (hmk _), wl_0 (Or.inl rfl)]; exact wl0, fun u => ?_, ?_, ?_, Or.inr ⟨by omega, s, j1, wkS_pn j2 hr8⟩⟩
      · rw [List.mem_cons, mem8]
        constructor
        · rintro (q | q)
          · have := (Prod.mk.inj q).1
            omega
          · exact q
        · exact Or.inr
      · rw [j1]
        show wkS _ (trE (AL D (k + 1)) (wl s) (Q, q9 * 12 + g9, 64 * cdP v ρ + (m9 + 1)) :: trL (AL D (k + 1)) s)
        rw [trE_56 hQ56]
        show wkS _ ((Q, q9 * 12 + g9, 64 * ((64 * cdP v ρ + (m9 + 1)) % 64)) :: trL (AL D (k + 1)) s)
        rw [show (64 * cdP v ρ + (m9 + 1)) % 64 = m9 + 1 by omega]
        exact ⟨Or.inl rfl, trL_c j2 (show (8 : Nat) ≠ 3 by decide) (show (8 : Nat) ≠ 5 by decide) (show (8 : Nat) ≠ 6 by decide) (fun n hn => by rw [hwr] at hn; omega)⟩
      · rw [j1, wl_0 (hmk _), wkS_wl j2, wl_0 (Or.inl rfl)]; exact hwr
  obtain ⟨sk, V3, hJ3, v3a, v3b, wsk, sk8, hskw, wj, hjc⟩ := hst9
  obtain ⟨nv1, nv2⟩ := hN.nv (X := ((x f).1, sk, 0, lUp (kR (x f)) v9 (some (d :: (π ++ [(g9 + 2, m9)]))), lUp (kH (x f)) v9 (HK D (k + 1) v9), (fun u => u < 40 ∧ AL D (k + 1) u), (fun u π => LO R S0 D (k + 1) u π ∨ 40 ≤ u), kAn (x f))) (n := 1) (w := fun _ => v9) (c := fun _ => [nl]) (l := fun _ => []) (h := fun _ => []) (M2 := nMS S6) (sk2 := Zl S6 72) (pl2 := Zr S6 74) (tk2 := Zr S6 67) (fl2 := fl3) (t2 := t3) (A := fun a => a ∈ fl ∨ t9 < a) (rt2 := qRt rt (f, v9) (vt (x f).1 v9)) (V2 := V3) hy hJ hC hf6 hws (by rw [wx]; decide) wsk (fun u => by
      show (8, u, 0) ∈ sk ↔ (∃ i : Nat, i < 1 ∧ u = v9) ∨ (8, u, 0) ∈ (x f).2.1
      rw [sk8]
      exact or_congr ⟨fun z => ⟨0, by decide, z⟩, fun ⟨_, _, z⟩ => z⟩ Iff.rfl) rfl (fun _ _ => ⟨hw4, hvold⟩) (fun a b ha hb _ => by omega) (fun q hq => by
      have n1 : q ≠ (f, v9) := fun z => hq (by rw [z]; exact ⟨rfl, Or.inl ⟨0, by decide, rfl⟩⟩)
      exact ⟨qRt_ne n1, v3b q (fun z => hq ⟨z.1, z.2.imp (fun y => ⟨0, by decide, y⟩) id⟩)⟩) (fun i _ => by
      rw [qRt_eq, v3a, x6, n6]
      refine ⟨⟨1, Or.inr ⟨hkw2.1, nl, rfl, Or.inr ⟨y7, Or.inr (Or.inr ⟨hkw2.2.1, hkw2.2.2, ⟨_, rfl⟩, rfl, rfl⟩)⟩⟩⟩, ⟨fun a ha => by rw [List.mem_singleton.mp ha]; exact ⟨y2, y3⟩, fun i a b _ h2 => by
        have h2 : ([] : List Nat)[i]? = some b := h2
        cases h2⟩, upd_s⟩) (fun j u hj hu h8 => by
      rw [x6, upd_n (fun z => ?_), b7.2.2.2.2.2.2.1 74 (by decide) (by decide)]
      obtain rfl : j = f := by omega
      obtain rfl : u = v9 := by omega
      exact hvold h8) (fun u d2 π2 hu hA hR => by
      have hR : lUp (kR (x f)) v9 (some (d :: (π ++ [(g9 + 2, m9)]))) u = some (d2 :: π2) := hR
      by_cases c0 : u = v9
      · subst c0
        rw [lUp_eq] at hR
        obtain ⟨rfl, rfl⟩ := List.cons.inj (Option.some.inj hR)
        refine Or.inr ⟨0, nl, nn, by decide, rfl, hdl, rfl, ?_, hn4, ?_⟩
        · rw [n6]; exact y6
        · have nf : ∀ a : Nat, (a ∈ C d ∨ a ∈ L d) → a ∉ fl ∧ a ≤ t9 := fun a ha => by
            obtain ⟨q1, _, q3, _⟩ := hC.one (r := d) (by omega) (by omega) ha
            exact ⟨q1, q3⟩
          refine hnn (nMS S6) (fun a ha => ?_) (hag _ (fun a ha => nf a (Or.inr ha)))
          obtain ⟨k1, _, k3⟩ := hag _ (fun a ha => nf a (Or.inl ha)) a ha
          exact ⟨k1, k3⟩
      · rw [lUp_ne c0] at hR
        refine Or.inl ⟨?_, hR, fun ⟨_, _, z⟩ => c0 z⟩
        rcases hA with ⟨q1, q2⟩ | ⟨q1, _⟩
        · exact Or.inl ⟨q1, hal u c0 q2⟩
        · omega) (fun a z => go.2.2.2.1 a z) (fun a z => z.imp id (fun y => Or.inl y)) (fun a => by
      rw [psN_1u, hL40.1]
      have := b8.ct hF hC.f1 b6.2.2.2.1 y2 a
      show ((if nl = a then 1 else 0) + 0) + 0 + cnN a fl3 + ind t9 a = 0 + cnN a fl + ind t3 a
      omega) (fun q => by rw [psN_1u]; exact ⟨Nat.zero_le _, go.2.2.2.2.1 q (fun z => z)⟩) (fun q hq => by rw [l6, b7.2.2.2.2.2.1 72 (by decide)])
  refine Rt.rt ⟨hX1.go go ((b7.wq hX1.2.1).eq (by rw [i6]) (by rw [i6])) ?_, Or.inr ⟨(go.2.1 3 (by decide)).trans e3, (go.2.1 70 (by decide)).trans e70, NXt.fr ?_ er ?_⟩⟩
  · rw [i6, b7.2.2.2.2.2.2.2.1 81 (by decide) (by decide)]; exact hX1.2.2.2.2
  · have hgj : gtS (D.st (k + 1)) := by
      rcases hjc with q | ⟨_, s, q1, q2⟩
      · exact gtS.of q
      · rw [q1]; exact gtS.cn q2
    have h3j : ∀ r m : Nat, (3, r, m) ∉ D.st (k + 1) := fun r m z => by
      rcases hjc with q | ⟨_, s, q1, q2⟩
      · exact absurd rfl (q _ z).1
      · rw [q1] at z
        rcases List.mem_cons.mp z with z | z
        · have := (Prod.mk.inj z).1; omega
        · exact absurd rfl (q2 _ z).1
    have hkv40 : ∀ κ : Nat, HK D k v κ → HK D (k + 1) v κ := fun κ q => hFn.hk hed (by omega) (fun z => by rw [ho] at z; exact hvw (Option.some.inj z).symm) q
    refine finG5 (X := ((x f).1, sk, 0, lUp (kR (x f)) v9 (some (d :: (π ++ [(g9 + 2, m9)]))), lUp (kH (x f)) v9 (HK D (k + 1) v9), (fun u => u < 40 ∧ AL D (k + 1) u), (fun u π => LO R S0 D (k + 1) u π ∨ 40 ≤ u), kAn (x f))) hL h1.1 hed ⟨_, _, _, _, _, fl3, t3, hJ3, nv1, nv2, f6⟩ rfl a1 rfl hskw hgj h3j (fun q' r' m' v' ρ' hq' z zm zv => ?_) (fun u hu q => ⟨hu, q⟩) (fun u κ hu q z => ?_) (fun m κ hm => by rw [wj] at hm; omega) (fun κ r1 m q z => ?_) (fun u π hu4 _ q => ?_) ((go.2.1 77 (by decide)).trans h1.2.2.2.1.1) ?_ go.2.2.1 (go.2.1 76 (by decide))
    · rcases hjc with q | ⟨hm64, s, q1, q2⟩
      · exact (hq'.elim (q _ z).2.2.1 (q _ z).2.2.2.1).elim
      · rw [q1] at z
        rcases List.mem_cons.mp z with z | z
        · obtain ⟨_, z⟩ := Prod.mk.inj z
          obtain ⟨_, z⟩ := Prod.mk.inj z
          obtain ⟨y1, y2⟩ := cdP_inj (show cdP v ρ = cdP v' ρ' by omega)
          subst y1; subst y2
          rw [a1] at c2
          refine ⟨d, π, ?_, ?_⟩
          · show lUp (kR (x f)) v9 _ 300 = _
            rw [lUp_ne (by omega)]; exact b1
          · rcases c2 with c2 | ⟨π0, ρ2, c2, c3⟩
            · exact Or.inl c2
            · refine Or.inr ⟨π0, ρ2, ?_, c3⟩
              show lUp (kR (x f)) v9 _ v = _
              rw [lUp_ne hvw]; exact c2
        · exact (hq'.elim (q2 _ z).2.2.1 (q2 _ z).2.2.2.1).elim
    · have z : lUp (kH (x f)) v9 (HK D (k + 1) v9) u κ := z
      by_cases c0 : u = v9
      · subst c0; rw [lUp_eq] at z; exact z
      · rw [lUp_ne c0, a4] at z
        rcases z with ⟨_, z⟩ | ⟨z, _⟩
        · exact hFn.hk hed (by omega) (fun y => by rw [ho] at y; exact c0 (Option.some.inj y).symm) z.1
        · omega
    · have z : lUp (kH (x f)) v9 (HK D (k + 1) v9) 300 κ := z
      rw [lUp_ne (by omega), a4] at z
      rcases hjc with q9' | ⟨hm64, s, q1, q2⟩
      · rcases q with q | q
        · exact absurd (Or.inr (Or.inl rfl)) (trL_4 (pn_4 q9') _ q)
        · exact absurd (Or.inr (Or.inr rfl)) (trL_4 (pn_4 q9') _ q)
      · rcases z with ⟨z, _⟩ | ⟨_, v', q', r', m', ρ', s', z1, z2, z3, z4⟩
        · exact absurd rfl z
        · obtain ⟨rfl, rfl, rfl⟩ := hcod v' q' r' m' ρ' s' z1 z3.1
          refine Or.inr ⟨rfl, v', q', _, m9 + 1, ρ', s, q1, z2, ⟨hm64, hv4⟩, z4.imp id (fun ⟨y1, y2⟩ => ⟨y1, hkv40 κ y2.1, fun y => by omega, fun _ y => by omega⟩)⟩
    · rcases q with q | q
      · exact q
      · omega
    · rw [i6, b7.2.2.2.2.2.2.2.1 73 (by decide) (by decide), wj]; exact h73
  · rw [h1.2.2.2.1.2.2, h.2.2.2.1.2.2]
end PS93
