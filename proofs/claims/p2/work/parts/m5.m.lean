section PS90
variable {R : yR} {K : Ky} {S0 Sl S S1 S2 S3 : Sg} {D : fD} {i k j f nw n v : Nat} {vt : Nat → Nat → Nat} {tb : Nat → lTb} {x : Nat → kFm} {bs : Nat → Nat} {g : Nat → Int32} {X : kFm}
/-- a step's end, told in full, what is matched on too -/
theorem finG3 (hL : LFS R S0 g) (hk : PK R S0 i D k) (e : edg D k j) (hX : kT (yT R S0) (zN R S0) (szN R S0) vt tb f (kUx x f X) bs S2) (x2 : X.2.2.1 = 0) (x1 : X.1 = i) (xA : kAn X = kAn (x f)) (hst : wkS X.2.1 (trL (AL D j) (D.st j))) (hg : gtS (D.st j)) (h3 : ∀ (Y : kFm) (rt : Nat × Nat → Nat) (V : Nat × Nat → qV) (C L H : Nat × Nat → List Nat), Y.2.1 = trL (AL D j) (D.st j) → kJ (yT R S0) vt tb f (kUx x f Y) rt V → kN (yT R S0) (zN R S0) (szN R S0) (nMS S2) (Zl S2 72) (Zr S2 74) f (kUx x f Y) rt V bs C L H → ∀ r m : Nat, (3, r, m) ∈ D.st j → V (f, 40) [] = some (r / 12, r % 12)) (h5 : ∀ q r m : Nat, (q = 5 ∨ q = 6) → (q, r, m) ∉ D.st j)
  (hal : ∀ u : Nat, u < 40 → AL D j u → kal X u) (hH1 : ∀ u κ : Nat, u < 40 → AL D j u → kH X u κ → HK D j u κ) (hH2 : ∀ m κ : Nat, m < wl (D.st j) → AL D j (40 + m) ∨ mkS (D.st j) → kH X (40 + m) κ → HK D j (40 + m) κ ∧ (mkS (D.st j) → m = 0 → okl R S0 i D κ)) (hH3 : ∀ (κ r m : Nat), (5, r, m) ∈ trL (AL D j) (D.st j) ∨ (6, r, m) ∈ trL (AL D j) (D.st j) → kH X 300 κ → HA R S0 i D j 300 κ) (hlo : ∀ (v : Nat) (π : lLc), v < 40 → (8, v, 0) ∈ D.st j → klo X v π → LO R S0 D j v π)
  (h77 : Zi S2 77 = nI j) (h73 : Zi S2 73 = nI (bs f + wl (D.st j))) (h75 : Zr S2 75 = Zr S 75) (h76 : Zi S2 76 = Zi S 76) : NXt R S0 vt tb i D k f x bs S S2 := by
  obtain ⟨hD, hkk, hW, hG, hE⟩ := hk
  have hy := nYk_of hL
  obtain ⟨j1, j2, j3, j4, j5⟩ := hD.in e
  obtain ⟨Y, y1, y2, y3⟩ := kT.fin (D := D) (j := j) (i := i) (R := R) (S0 := S0) hy yB_yT hX (by rw [kUx_top]; exact x2) (by rw [kUx_top]; exact x1) (by rw [kUx_top]; exact hst) (by rw [kUx_top]; exact hal) (by rw [kUx_top]; exact hH1) (by rw [kUx_top]; exact hH2) (by rw [kUx_top]; exact hH3) (by rw [kUx_top]; exact hlo)
  rw [kUx_top] at y2
  rw [kUx2] at y3
  obtain ⟨rt, V, C, L, H, fl, t, hh⟩ := y3
  exact ⟨j, Y, e, ⟨hD, ⟨j1, j2, j5⟩, j3 hW, hg, hE⟩, h77, h73, ⟨h75, h76⟩, y1, y2.trans xA, rt, V, C, L, H, fl, t, hh, h3 Y rt V C L H y1.2.1 hh.1 hh.2.1, fun q r m v ρ hq w _ _ => absurd w (h5 q r _ hq)⟩
/-- the variant that a value on top has -/
theorem top_g {T : Nat} {s : List tE} {rt : Nat × Nat → Nat} {V : Nat × Nat → qV} {C L H : Nat × Nat → List Nat} {M : nM} {sk : Nat → Int64} {pl : Nat → Int32} {y : qY} {zn sz : Nat → Nat} (hJ : kJ y vt tb f x rt V) (hN : kN y zn sz M sk pl f x rt V bs C L H) (hS : (x f).2.1 = (0, T, 0) :: s) (hw : wl s = 0) (hT : T ≠ 0) (h3 : y.1 T = 3) : ∃ m gg : Nat, V (f, 40) [] = some (T, gg) ∧ gg < y.2.2.1 T ∧ sk (bs f) = nL m ∧ (1 ≤ m ∧ m < 430000) ∧ vrW (M.w m) = nI gg := by
  have hE := kK_top hJ hS
  rw [hw] at hE
  obtain ⟨_, _, _, e0, _⟩ := hE
  obtain ⟨e1, _⟩ := e0 hT
  have q := ((hN.1 f 40 (Nat.le_refl f)).2.1 (Nat.le_refl _) (by rw [hS, wl_n (nm_0 rfl), hw]; decide)).2
  have e1 : rt (f, 40) = T := e1
  rw [e1] at q
  rcases q with ⟨z, _⟩ | ⟨_, k, ⟨_, m, gg, cs, ls, hs, q1, q2, q3, q4, _, q6, _⟩ | ⟨z, _⟩ | ⟨z, _⟩⟩
  · rw [h3] at z; cases z
  · exact ⟨m, gg, q1, q2, q3, q4, q6⟩
  · rw [h3] at z; cases z
  · exact absurd h3 z
theorem sc_at {l : List Nat} {n : Nat} (h : n < l.length) : ∃ j : Nat, l[n]? = some j ∧ j ∈ l := ⟨l[n], List.getElem?_eq_getElem h, List.getElem_mem h⟩
/-- the row of a match -/
theorem RQ.sc (h1 : RQ R S0 vt tb i D k f x bs Sl nw S) (hQ : D.Pe < 24000) (hk : (D.I k).kd = 20 ∨ (D.I k).kd = 21) {gg j : Nat} (hl : (D.I k).sc.length ≤ 12) (hj : (D.I k).sc[gg]? = some j) : ∃ a : Nat, rQ S 42 (nI k) = some (some a) ∧ aI R.K S (some a) (nI gg) = some (nI j) := by
  have h24 := h1.k24 hQ
  have e := h1.2.2.1.1
  rcases h1.2.1.2.2.2.2.2.2.1 with ⟨w, _⟩ | ⟨w, _⟩ | ⟨w, _⟩ | ⟨_, w, _⟩ | ⟨_, _, _, _, _, w1, w2, _⟩
  · rw [w] at hk; exact absurd hk (by decide)
  · rw [w] at hk; exact absurd hk (by decide)
  · omega
  · rcases w with ⟨_, w⟩ | ⟨a, F, w1, w2, w3, _, w5⟩
    · rw [w] at hj; cases hj
    · have hg := (List.getElem?_eq_some_iff.mp hj).1
      refine ⟨a, by rw [rQ_n (show k < rlen 42 from h24) (by decide), e.2.2.2.1, w1], ?_⟩
      rw [← (w5 gg j hj).1]
      exact aI_n (by rw [e.1]; exact w2) (by rw [e.2.1]; exact w3) hg (by omega)
  · omega
/-- MATCH -/
theorem s_20 (hL : LFS R S0 g) (hx : LX S0 Sl) (h : RQ R S0 vt tb i D k f x bs Sl k S) (hQ : D.Pe < 24000) (hk : (D.I k).kd = 20) : Rt (f_step R.K S) (fun S2 _ => RTt R S0 vt tb i D k f x bs Sl S S2) := by
  have h24 := h.k24 hQ
  have hy := nYk_of hL
  refine stp_20 h hQ hk (fun S1 h1 e70 e3 er el => ?_)
  have hp := h1.pt.1
  unfold tPt at hp
  rw [hk] at hp
  obtain ⟨d0, r, hs, hwr, n70, y3, hl1, hl2, hJ9⟩ := hp
  rw [h1.1.2.2.2.2] at y3 hl1
  have hgt := h1.1.2.2.2.1
  rw [hs] at hgt
  have hrn := hgt.tl
  have hb := h1.sb
  have h73 := h1.2.2.2.1.2.1
  have hFn := h1.1.1
  have wst : wl (D.st k) = 1 := by rw [hs, wl_01.2, hwr]
  rw [wst] at h73 hb
  have hX1 := h1.2.2.1
  have e := hX1.1
  obtain ⟨rt, V, C, L, H, fl, t9, ⟨hJ, hN, hC, hF⟩, _⟩ := h1.2.2.2.2.2.2.1
  obtain ⟨a1, a2, a3, a4, a5, a6⟩ := h1.2.2.2.2.2.1
  have hS : (x f).2.1 = (0, 4 + (D.I k).n1, 0) :: trL (AL D k) r := by
    rw [a2, hs]
    exact trL_0 (E := [(0, 4 + (D.I k).n1, 0)]) (fun e he => by rw [List.mem_singleton.mp he])
  obtain ⟨m, gg, q1, q2, q3, q4, q6⟩ := top_g hJ hN hS (by rw [trL_wl]; exact hwr) (by omega) y3
  have hgl : gg < (D.I k).sc.length := by rw [hl1]; exact q2
  obtain ⟨j, hj, hjm⟩ := sc_at hgl
  obtain ⟨hkj, _, _, hwj⟩ := hJ9 gg j hj
  obtain ⟨a, ra, rb⟩ := h1.sc hQ (Or.inl hk) hl2 hj
  have hed : edg D k j := h1.ed hjm
  unfold f_step_477 f_runMatch f_runMatch_51
  have r27 : Zr S1 27 = Zr Sl 27 := e.2.2.2.2.2.1 27 (by decide)
  refine Rt.bn (Q := fun S2 _ => RTt R S0 vt tb i D k f x bs Sl S S2) ?_ (fun S2 _ q => by unfold f_step_590; exact Rt.rt q)
  refine Rt.bd (v := 20) (by rw [rI_n (show k < rlen 27 from h24) (by decide), r27, h1.2.1.1, hk]; rfl) (Rt.ip rfl ?_)
  rw [h73, show nI (bs f + 1) - 1 = nI (bs f) from nI_pred _]
  refine Rt.bd (rJ_n (show bs f < rlen 72 from by show _ < 20000; omega) (by decide)) ?_
  rw [q3, nL_t]
  have hvo : f_variantOf_ R.K S1 (nI m) = some (S1, nI gg) := by
    unfold f_variantOf_
    rw [rJ_n (show m < rlen 61 from q4.2) (by decide)]
    show some (S1, vrW (Zl S1 61 m)) = _
    rw [show vrW (Zl S1 61 m) = nI gg from q6]
  refine Rt.bd ra (Rt.be hvo (Rt.bd rb (Rt.bd (v := Ui S1 77 (nI j)) rfl ?_)))
  have hno9 : (D.I k).ho = none := d0.2.2.1
  have hno : ∀ u : Nat, (D.I k).ho ≠ some u := fun u w => by rw [hno9] at w; cases w
  have sm : sam S1 (Ui S1 77 (nI j)) := Ui.sam9 (by decide) (by decide)
  refine Rt.rt ⟨hX1.u77, Or.inr ⟨(Zi_n (by decide)).trans e3, (Zi_n (by decide)).trans e70, NXt.fr ?_ er ?_⟩⟩
  · -- the stack at j
    obtain ⟨r', hsj, hwr'⟩ : ∃ r' : List tE, D.st j = (3, (4 + (D.I k).n1) * 12 + gg, 1) :: r' ∧ wkS r r' := by
      cases hd : D.st j with
      | nil => rw [hd] at hwj; exact hwj.elim
      | cons e2 r' =>
        rw [hd] at hwj
        obtain ⟨w1, w2⟩ := hwj
        refine ⟨r', ?_, w2⟩
        rcases w1 with w1 | ⟨t2, _, w1, ⟨t3, _, w3⟩ | ⟨T3, w3 | w3⟩⟩
        · rw [w1]
        · have := congrArg Prod.fst w3
          have this : (3 : Nat) = 0 := this
          omega
        · have := congrArg Prod.fst w3
          have this : (3 : Nat) = 1 := this
          omega
        · have := congrArg Prod.fst w3
          have this : (3 : Nat) = 2 := this
          omega
    have hrn' := wkS_pn hwr' hrn
    have hg12 : gg < 12 := by omega
    have n3 : kNm (3, (4 + (D.I k).n1) * 12 + gg, 1) := by show ¬ ((3 : Nat) = 8 ∨ (3 : Nat) = 4 ∨ (3 : Nat) = 5 ∨ (3 : Nat) = 6); decide
    have wj : wl (D.st j) = 1 := by rw [hsj, wl_n n3, wkS_wl hwr', hwr]
    have htr : trL (AL D j) (D.st j) = (0, 4 + (D.I k).n1, 0) :: trL (AL D j) r' := by
      rw [hsj]
      show trE (AL D j) (wl r') (3, (4 + (D.I k).n1) * 12 + gg, 1) :: trL (AL D j) r' = _
      rw [trE_3 rfl]
      show (0, ((4 + (D.I k).n1) * 12 + gg) / 12, 0) :: _ = _
      rw [show ((4 + (D.I k).n1) * 12 + gg) / 12 = 4 + (D.I k).n1 by omega]
    have nmk : ¬ mkS (D.st j) := fun ⟨a, b1, b2, b3⟩ => by
      rw [hsj] at b1
      rcases List.mem_cons.mp b1 with w | w
      · rw [w] at b2
        have b2 : (3 : Nat) = 1 ∨ (3 : Nat) = 2 := b2
        omega
      · exact b3 ((hrn' a w).2.2.2.2 b2)
    have n56 : ∀ r1 m1 : Nat, (5, r1, m1) ∉ trL (AL D j) (D.st j) ∧ (6, r1, m1) ∉ trL (AL D j) (D.st j) := fun r1 m1 => by
      have h4 : ∀ a ∈ D.st j, ¬ (a.1 = 4 ∨ a.1 = 5 ∨ a.1 = 6) := fun a ha => by
        rw [hsj] at ha
        rcases List.mem_cons.mp ha with w | w
        · rw [w]; show ¬ ((3 : Nat) = 4 ∨ (3 : Nat) = 5 ∨ (3 : Nat) = 6); decide
        · exact pn_4 hrn' a w
      exact ⟨fun z => absurd (Or.inr (Or.inl rfl)) (trL_4 h4 _ z), fun z => absurd (Or.inr (Or.inr rfl)) (trL_4 h4 _ z)⟩
    have hkT := (show kT (yT R S0) (zN R S0) (szN R S0) vt tb f x bs S1 from ⟨rt, V, C, L, H, fl, t9, hJ, hN, hC, hF⟩).skc sm (fun _ _ => rfl)
    have eX : kUx x f (x f) = x := funext fun q => by
      by_cases c : q = f
      · rw [c, kUx_top]
      · rw [kUx_lo c]
    refine finG3 (X := x f) hL h1.1 hed (by rw [eX]; exact hkT) a3 a1 rfl ?_ (by rw [hsj]; exact gtS.cn hrn') (fun Y rt' V' C' L' H' hY hJ' hN' r1 m1 hm1 => ?_) (fun q9 r9 m9 hq9 w9 => by
      rw [hsj] at w9
      rcases List.mem_cons.mp w9 with w | w
      · have := (Prod.mk.inj w).1
        omega
      · exact hq9.elim (hrn' _ w).2.2.1 (hrn' _ w).2.2.2.1) (fun u hu q => by rw [a5]; exact ⟨hu, hFn.al hed (by omega) (hno u) q⟩) (fun u κ hu q w => ?_) (fun m1 κ hm q w => ⟨?_, fun z => absurd z nmk⟩) (fun κ r1 m1 q => ?_) (fun w π hw4 _ q => ?_) Zi_s ?_ rfl (Zi_n (by decide))
    · rw [htr, hS]
      exact ⟨Or.inl rfl, trL_t hwr' (fun n hn => by rw [hwr] at hn; omega)⟩
    · rw [hsj] at hm1
      rcases List.mem_cons.mp hm1 with w | w
      · obtain ⟨_, w⟩ := Prod.mk.inj w
        obtain ⟨w, _⟩ := Prod.mk.inj w
        subst w
        obtain ⟨m', g', p1, p2, p3, p4, p6⟩ := top_g hJ' hN' (by rw [kUx_top, hY, htr]) (by rw [trL_wl, wkS_wl hwr', hwr]) (by omega) y3
        have p3 : Zl S1 72 (bs f) = nL m' := p3
        have em : m' = m := nL_e (by omega) (by omega) (p3.symm.trans q3)
        subst em
        have p6 : vrW (Zl S1 61 m') = nI g' := p6
        have eg : g' = gg := nI_e (by have : g' < (D.I k).sc.length := by rw [hl1]; exact p2
                                      omega) (by omega) (p6.symm.trans q6)
        rw [p1, eg, show ((4 + (D.I k).n1) * 12 + gg) / 12 = 4 + (D.I k).n1 by omega, show ((4 + (D.I k).n1) * 12 + gg) % 12 = gg by omega]
      · exact absurd rfl (hrn' _ w).1
    · rw [a4] at w
      rcases w with ⟨_, w⟩ | ⟨w, _⟩
      · exact hFn.hk hed (by omega) (hno u) w.1
      · omega
    · rw [a4] at w
      rw [wj] at hm
      rcases w with ⟨_, w⟩ | ⟨w, _⟩
      · exact hFn.hk hed (by omega) (hno _) w.1
      · omega
    · rcases q with q | q
      · exact absurd q (n56 r1 m1).1
      · exact absurd q (n56 r1 m1).2
    · rw [a6] at q
      exact hFn.lo hy h1.1.2.2.2.2 hed hw4 q (fun c _ _ => (kdM_k hk (by decide)).nk)
    · rw [wj]; exact (Zi_n (by decide)).trans h73
  · rw [h1.2.2.2.1.2.2, h.2.2.2.1.2.2]
end PS90
