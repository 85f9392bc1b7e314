section PS84
variable {R : yR} {K : Ky} {S0 Sl S S1 S2 S3 : Sg} {D : fD} {i k j f nw n : Nat} {vt : Nat → Nat → Nat} {tb : Nat → lTb} {x : Nat → kFm} {bs : Nat → Nat} {g : Nat → Int32} {rt : Nat × Nat → Nat} {V : Nat × Nat → qV} {C L H : Nat × Nat → List Nat} {r : List tE} {p q : Nat → Nat} {fl : List Nat} {t : Nat} {tk : Nat → Int32}
/-- a family of values on top -/
theorem RQ.fam (h1 : RQ R S0 vt tb i D k f x bs Sl nw S) (hJ : kJ (yT R S0) vt tb f x rt V) (hN : kN (yT R S0) (zN R S0) (szN R S0) (nMS S) (Zl S 72) (Zr S 74) f x rt V bs C L H) (hC : kC C L H fl t tk) (hs : D.st k = dsl (fun q => (0, p q, 0)) n ++ r) (hp : ∀ q : Nat, q < n → p q ≠ 0) : (∀ q : Nat, q < n → qFu (yT R S0) (p q) (V (f, 40 + (wl r + q))) ∧ vaR (yT R S0) (szN R S0) (nMS S) (p q) (V (f, 40 + (wl r + q))) (Zl S 72 (bs f + (wl r + q))) (L (f, 40 + (wl r + q))) (H (f, 40 + (wl r + q)))) ∧ wl (D.st k) = wl r + n ∧ wl (dsl (fun q => ((0, p q, 0) : tE)) n) = n ∧ ∀ a : Nat, psN (fun i => cnN a (L (f, 40 + (wl r + i)))) n + cnN a fl ≤ ind t a := by
  have hw : wl (dsl (fun q => ((0, p q, 0) : tE)) n) = n := dsl_wl n (fun i _ => nm_0 rfl)
  have hwl : wl (D.st k) = wl r + n := by rw [hs, wl_app, hw]; omega
  have h177 := h1.pt.2
  have hf6 := h1.2.2.2.2.1
  refine ⟨fun q hq => ?_, hwl, hw, fun a => ?_⟩
  · have hS : (x f).2.1 = dsl (fun q => (0, p q, 0)) n ++ trL (AL D k) r := by
      rw [h1.st.1, hs]
      refine trL_0 (fun e he => ?_)
      clear hs hwl hw
      induction n with
      | zero => cases he
      | succ n ih =>
        rcases List.mem_cons.mp he with w | w
        · rw [w]
        · by_cases c : q < n
          · exact ih (fun q hq => hp q (by omega)) c w
          · clear ih c hq hp
            induction n with
            | zero => cases w
            | succ n ih =>
              rcases List.mem_cons.mp w with w2 | w2
              · rw [w2]
              · exact ih (List.mem_cons_of_mem _ w2) w2
    have hK := hJ.2.2.2.2.1 f (Nat.le_refl f)
    rw [hS] at hK
    have hE := dsl_K n (fun i _ => nm_0 rfl) hK q hq
    rw [trL_wl] at hE
    obtain ⟨_, v2, v3, _⟩ := h1.val hJ hN (by omega) hE (hp q hq)
    exact ⟨v2, v3⟩
  · have hc := hC.sub (r := fun i => (f, 40 + (wl r + i))) (n := n) (fun i hi => ⟨hf6, show 40 + (wl r + i) < 300 by omega⟩) (fun i j _ _ he => by have := (Prod.mk.inj he).2; omega) a
    rw [psN_cg (w2 := fun i => cnN a (L (f, 40 + (wl r + i)))) (fun i hi => ?_)] at hc
    · exact hc
    · have c0 : C (f, 40 + (wl r + i)) = [] := ((hN.1 f (40 + (wl r + i)) (Nat.le_refl f)).2.1 (by omega) (by rw [h1.st.2]; omega)).1
      show cnN a (C (f, 40 + (wl r + i))) + _ = _
      rw [c0]
      show 0 + _ = _
      omega
theorem dsl_0 : ∀ {n : Nat}, ∀ e ∈ dsl (fun q => ((0, p q, 0) : tE)) n, e.1 = 0
  | 0, e, he => by cases he
  | n + 1, e, he => by
    rcases List.mem_cons.mp he with w | w
    · rw [w]
    · exact dsl_0 e w
/-- NEW -/
theorem s_8 (hL : LFS R S0 g) (hx : LX S0 Sl) (h : RQ R S0 vt tb i D k f x bs Sl k S) (hQ : D.Pe < 24000) (hk : (D.I k).kd = 8) : Rt (f_step R.K S) (fun S2 _ => RTt R S0 vt tb i D k f x bs Sl S S2) := by
  have h24 := h.k24 hQ
  have hy := nYk_of hL
  refine stp_8 h hQ hk (fun S1 h1 e70 e3 er el => ?_)
  have hp := h1.pt.1
  unfold tPt at hp
  rw [hk] at hp
  obtain ⟨d0, fo, r, y2, n70, en, n12, hvs, fo1, fo2, hs, _, _, hw⟩ := hp
  rw [h1.1.2.2.2.2] at y2 en hs
  have hgt := h1.1.2.2.2.1
  have hb := h1.sb
  have h73 := h1.2.2.2.1.2.1
  obtain ⟨m0, hm0⟩ : ∃ m0 : Nat, (D.I k).n3 = m0 + 1 := ⟨(D.I k).n3 - 1, by have := (hy.2.2.1 _ y2).2.2.1; omega⟩
  have hrn : ∀ a ∈ r, pnE a := fun a ha => by
    rw [hs, hm0] at hgt
    exact hgt.tl a (List.mem_append_right _ ha)
  have hX1 := h1.2.2.1
  have e := hX1.1
  obtain ⟨hz1, hz2, hz3⟩ := h1.2.1.2.2.2.2.2.2.2.2.1 (Or.inl hk)
  have hz4 := h1.2.1.2.2.2.2.2.2.2.2.2.1 hk
  obtain ⟨ta, ff, a1, a2, a3, a4, a5⟩ := vwSi (i := (D.I k).n1) hL hx e y2
  have en : (D.I k).n3 = yP R S0 (4 + (D.I k).n1) 0 := en
  rw [← en] at a4 a5
  obtain ⟨rt, V, C, L, H, fl, t9, ⟨hJ, hN, hC, hF⟩, _⟩ := h1.2.2.2.2.2.2.1
  have hf6 := h1.2.2.2.2.1
  have hro := hN.room hy hC hf6 h1.2.2.2.2.2.2.2.1 hF.2.2.2.2
  have hpt : ∀ i : Nat, i < (D.I k).n3 → yQ R S0 (4 + (D.I k).n1) 0 i ≠ 0 := fun i hi => by
    obtain ⟨z, _, z2, z3⟩ := a5 i hi
    have := z2.nm hL.1
    omega
  obtain ⟨v1, v2, v3, v4⟩ := h1.fam (p := fun q => yQ R S0 (4 + (D.I k).n1) 0 (fo q)) hJ hN hC hs (fun q hq => hpt (fo q) (fo1 q hq))
  -- where each part stands
  have hsur : ∀ i : Nat, ∃ q : Nat, i < (D.I k).n3 → q < (D.I k).n3 ∧ fo q = i := fun i => by
    by_cases c : i < (D.I k).n3
    · obtain ⟨q, q1, q2⟩ := inj_su9 fo1 fo2 i c
      exact ⟨q, fun _ => ⟨q1, q2⟩⟩
    · exact ⟨0, fun w => absurd w c⟩
  obtain ⟨q, hq⟩ := Classical.skolem.mp hsur
  have pm : ∀ w : Nat → Nat, psN (fun i => w (q i)) (D.I k).n3 = psN w (D.I k).n3 := fun w => psN_pm (fun i hi => (hq i hi).1) (fun a ha => ⟨fo a, fo1 a ha, fo2 _ _ (hq (fo a) (fo1 a ha)).1 ha (hq (fo a) (fo1 a ha)).2⟩) (fun i j hi hj he => by rw [← (hq i hi).2, ← (hq j hj).2, he])
  obtain ⟨a9, F, b1, b2, b3, b4⟩ : ∃ (a9 : Nat) (F : Nat → Int32), Zq Sl 42 k = some a9 ∧ a9 ∈ ZL Sl ∧ ZF Sl a9 = .inl (R.K.1 0, (D.I k).n3, .inl F) ∧ ∀ j : Nat, j < (D.I k).n3 → F j = nI (fo j) := by
    rcases hz4 with ⟨_, w⟩ | ⟨a9, F, w1, w2, w3, _, w5⟩
    · rw [hvs, hm0] at w
      have := congrArg List.length w
      rw [List.length_map, List.length_range] at this
      cases this
    · refine ⟨a9, F, w1, w2, ?_, fun j hj => (w5 j (fo j) (by rw [hvs, List.getElem?_map, List.getElem?_range hj]; rfl)).1⟩
      rw [w3, hvs, List.length_map, List.length_range]
  rw [v2] at h73 hb
  unfold f_step_260 f_runMade f_runMade_112
  have r28 : Zr S1 28 = Zr Sl 28 := e.2.2.2.2.2.1 28 (by decide)
  have r27 : Zr S1 27 = Zr Sl 27 := e.2.2.2.2.2.1 27 (by decide)
  have r31 : Zl S1 31 = Zl Sl 31 := e.2.2.2.2.2.2.1 31 (by decide)
  refine Rt.bn (Q := fun S2 _ => RTt R S0 vt tb i D k f x bs Sl S S2) ?_ (fun S2 _ q => by unfold f_step_590; exact Rt.rt q)
  refine Rt.bd (v := nI (D.I k).n1) (by rw [rI_n (show k < rlen 28 from h24) (by decide), r28, hz1]) (Rt.bd a1 (Rt.bd (v := 8) (by rw [rI_n (show k < rlen 27 from h24) (by decide), r27, h1.2.1.1, hk]; rfl) (Rt.ip rfl (Rt.bd a2 (Rt.bd (v := nL (D.I k).n3) (by rw [rJ_n (show k < rlen 31 from h24) (by decide), r31, hz3]; rfl) (Rt.bd (v := some a9) (by rw [rQ_n (show k < rlen 42 from h24) (by decide), e.2.2.2.1, b1]) ?_))))))
  rw [nL_t]
  refine Rt.bn (gat_ (n := (D.I k).n3) (p := bs f + wl r) (cap := 13) (f := ff) (ta := ta) (pt := fun i => yQ R S0 (4 + (D.I k).n1) 0 i) (W := fun i => V (f, 40 + (wl r + q i))) (l := fun i => L (f, 40 + (wl r + q i))) (h := fun i => H (f, 40 + (wl r + q i))) (q := q) (fl := fl) (t := t9) hL hx e (Or.inr rfl) (Or.inr a3) ⟨by omega, by decide⟩ n12 (fun i hi => by
    obtain ⟨z, z1, z2, z3⟩ := a5 i hi
    exact ⟨z, z1, Or.inl z2, z3⟩) (by omega) (fun i hi => (hq i hi).1) (fun i hi => by
    have := (v1 (q i) (hq i hi).1).2
    rw [(hq i hi).2, show bs f + (wl r + q i) = bs f + wl r + q i by omega] at this
    exact this) (fun i hi => Or.inr ⟨a9, F, rfl, b2, b3, by rw [b4 _ (hq i hi).1, (hq i hi).2], fun j hj hne w => by
      rw [b4 j hj] at w
      have h1 := fo1 j hj
      have w2 := nI_e (by omega) (by omega) w
      exact hne (fo2 j (q i) hj (hq i hi).1 (w2.trans (hq i hi).2.symm))⟩) hF hC.f1 (by omega) (fun a => by
    rw [pm (fun i => cnN a (L (f, 40 + (wl r + i))))]; exact v4 a) (by rw [h73]; congr 1; omega)) (fun S3 r3 ⟨S4, cs, ls, fl1, t1, kk, c1, c2, c3, c4, c5, c6, c7, c8⟩ => ?_)
  have i3 : Zi S3 73 = nI (bs f + wl r) := by rw [c1]; exact Zi_s
  have o34 : SO S4 S3 := by rw [c1]; exact ⟨rfl, rfl, ⟨rfl, rfl⟩, rfl, rfl, fun _ _ => rfl, rfl, fun j hj => Zi_n hj⟩
  rw [c2]
  refine Rt.bn (psh_ (p := bs f + wl r) i3 (by omega)) (fun S5 _ ⟨s1, s2, s3, s4⟩ => ?_)
  have o45 := o34.tr s1
  have go : GO (fun a => (a ∈ fl ∨ t9 < a) ∨ ∃ i : Nat, i < (D.I k).n3 ∧ a ∈ L (f, 40 + (wl r + q i))) (fun _ => False) (fun _ => False) S1 S5 := c3.go.tr o45.go
  refine Rt.rt ⟨hX1.go go (o45.wq (c3.wq hX1.2.1)) ?_, Or.inr ⟨(go.2.1 3 (by decide)).trans e3, (go.2.1 70 (by decide)).trans e70, NXt.fr ?_ er ?_⟩⟩
  · rw [o45.2.2.2.2.2.2.2 81 (by decide), c3.2.2.2.2.2.2.2.1 81 (by decide) (by decide)]; exact hX1.2.2.2.2
  · have ety : (yT R S0).2.2.2.1 (4 + (D.I k).n1) 0 = (D.I k).n3 := en.symm
    have hFu := qFu_T (V := fun i => V (f, 40 + (wl r + q i))) y2 (hy.2.2.1 _ y2).2.2.1 (fun j hj => by
      rw [ety] at hj
      have := (v1 (q j) (hq j hj).1).1
      rw [(hq j hj).2] at this; exact this)
    rw [ety] at hFu
    refine h1.vs (E := dsl (fun q => (0, yQ R S0 (4 + (D.I k).n1) 0 (fo q), 0)) (D.I k).n3) (P := [(0, 4 + (D.I k).n1, 0)]) (r := r) (lv := ftN cs (D.I k).n3 ++ ftN ls (D.I k).n3) (hv := ftN (fun i => H (f, 40 + (wl r + q i))) (D.I k).n3) (fl2 := fl1) (t2 := t1) hL (h1.e1 (kd_s hk (by decide))) hJ hN hC hs dsl_0 hrn hw (kdM_k hk (by decide)) d0.2.2.1 (Or.inr ⟨4 + (D.I k).n1, _, rfl, by omega, by rw [y2]; decide, by rw [y2]; decide, hFu, Or.inl ⟨y2, kk + 1, ftN cs (D.I k).n3, ftN ls (D.I k).n3, Or.inl ⟨y2, cs, ls, fun i => H (f, 40 + (wl r + q i)), by rw [ety], by rw [ety], by rw [ety], fun j hj => ?_⟩, ?_, s3, rfl⟩⟩) go (fun a w => ?_) (fun a => ?_) (fun a => Or.inl ?_) (o45.sam.fl c4) (fun p hp => ?_) h1.2.2.2.1.1 ?_
    · rw [ety] at hj
      rw [qS_T hj]
      exact (c7 j hj).st (M2 := nMS S5) (fun a _ => ⟨by show Zl S5 61 a = _; rw [o45.2.2.2.2.2.1 61 (by decide)]; rfl, by show Zr S5 62 a = _; rw [o45.2.2.2.2.2.2.1]; rfl⟩) ((o45.go (A := fun _ => False) (B := fun _ => False) (P := fun _ => False)).ag (fun _ _ w => w))
    · show lkN (Zr S5 63) _
      rw [o45.2.2.2.2.2.2.1]; exact c6
    · rcases w with w | ⟨i, hi, w⟩
      · exact w.imp id (fun z => Or.inl z)
      · exact Or.inr (Or.inr ⟨q i, by rw [v3]; exact (hq i hi).1, w⟩)
    · rw [v3, cnN_app, ftN_cn, ftN_cn, ← psN_ad, ← pm (fun i => cnN a (L (f, 40 + (wl r + i))))]
      exact c8 a
    · rw [v3, ftN_cn, ← pm (fun i => cnN a (H (f, 40 + (wl r + i))))]
      exact ⟨Nat.le_refl _, Or.inl (go.2.2.2.2.1 a (fun w => w))⟩
    · rw [s4 p (by omega), show Zl S3 = Zl S4 by rw [c1]; rfl, c3.2.2.2.2.2.1 72 (by decide)]
    · rw [s2, show [(0, 4 + (D.I k).n1, 0)] ++ r = (0, 4 + (D.I k).n1, 0) :: r from rfl, wl_01.2]
      congr 1
  · rw [h1.2.2.2.1.2.2, h.2.2.2.1.2.2]
/-- VARIANT -/
theorem s_9 (hL : LFS R S0 g) (hx : LX S0 Sl) (h : RQ R S0 vt tb i D k f x bs Sl k S) (hQ : D.Pe < 24000) (hk : (D.I k).kd = 9) : Rt (f_step R.K S) (fun S2 _ => RTt R S0 vt tb i D k f x bs Sl S S2) := by
  have h24 := h.k24 hQ
  have hy := nYk_of hL
  refine stp_9 h hQ hk (fun S1 h1 e70 e3 er el => ?_)
  have hp := h1.pt.1
  unfold tPt at hp
  rw [hk] at hp
  obtain ⟨⟨d0, hnt⟩, r, y3, n70, ng, en, n12, hs, _, _, hw⟩ := hp
  rw [h1.1.2.2.2.2] at y3 ng en hs
  have hb := h1.sb
  have h73 := h1.2.2.2.1.2.1
  have h177 := h1.pt.2
  have hall := h1.1.2.2.2.1.all hnt
  have hrn : ∀ a ∈ r, pnE a := fun a ha => hall a (by rw [hs]; exact List.mem_append_right _ ha)
  have hX1 := h1.2.2.1
  have e := hX1.1
  obtain ⟨hz1, hz2, hz3⟩ := h1.2.1.2.2.2.2.2.2.2.2.1 (Or.inr (Or.inl hk))
  obtain ⟨vr, pa, ot, ff, a1, a2, a3, a4, a5, a6, a7, a8⟩ := vwEi (i := (D.I k).n1) (v := (D.I k).n2) hL hx e y3 ng
  have en : (D.I k).n3 = yP R S0 (4 + (D.I k).n1) (D.I k).n2 := en
  rw [← en] at a6 a7 a8
  obtain ⟨rt, V, C, L, H, fl, t9, ⟨hJ, hN, hC, hF⟩, _⟩ := h1.2.2.2.2.2.2.1
  have hf6 := h1.2.2.2.2.1
  have hro := hN.room hy hC hf6 h1.2.2.2.2.2.2.2.1 hF.2.2.2.2
  have hpt : ∀ i : Nat, i < (D.I k).n3 → yQ R S0 (4 + (D.I k).n1) (D.I k).n2 i ≠ 0 := fun i hi => by
    obtain ⟨z, _, z2, z3⟩ := a8 i hi
    have := z2.nm hL.1
    omega
  obtain ⟨v1, v2, v3, v4⟩ := h1.fam (p := fun q => yQ R S0 (4 + (D.I k).n1) (D.I k).n2 q) hJ hN hC hs hpt
  rw [v2] at h73 hb h177
  unfold f_step_260 f_runMade f_runMade_112
  have r28 : Zr S1 28 = Zr Sl 28 := e.2.2.2.2.2.1 28 (by decide)
  have r29 : Zr S1 29 = Zr Sl 29 := e.2.2.2.2.2.1 29 (by decide)
  have r27 : Zr S1 27 = Zr Sl 27 := e.2.2.2.2.2.1 27 (by decide)
  have r31 : Zl S1 31 = Zl Sl 31 := e.2.2.2.2.2.2.1 31 (by decide)
  refine Rt.bn (Q := fun S2 _ => RTt R S0 vt tb i D k f x bs Sl S S2) ?_ (fun S2 _ q => by unfold f_step_590; exact Rt.rt q)
  refine Rt.bd (v := nI (D.I k).n1) (by rw [rI_n (show k < rlen 28 from h24) (by decide), r28, hz1]) (Rt.bd a1 (Rt.bd (v := 9) (by rw [rI_n (show k < rlen 27 from h24) (by decide), r27, h1.2.1.1, hk]; rfl) (Rt.iq (by decide) (Rt.bd a2 (Rt.bd (v := nI (D.I k).n2) (by rw [rI_n (show k < rlen 29 from h24) (by decide), r29, hz2]) (Rt.bd a3 (Rt.bd a4 (Rt.bd (v := nL (D.I k).n3) (by rw [rJ_n (show k < rlen 31 from h24) (by decide), r31, hz3]; rfl) ?_))))))))
  rw [nL_t]
  have hta : ∃ ta : Nat, ((D.I k).n3 = 0 ∨ ot = some ta) ∧ ((D.I k).n3 = 0 ∨ (ta ∈ ZL Sl ∧ ZF Sl ta = .inl (R.K.1 4, 12, .inr (.inr (.inr (.inr ff)))))) := by
    rcases a7 with w | ⟨ta, w1, w2⟩
    · exact ⟨0, Or.inl w, Or.inl w⟩
    · exact ⟨ta, Or.inr w1, Or.inr w2⟩
  obtain ⟨ta, ta1, ta2⟩ := hta
  refine Rt.bn (gat_ (n := (D.I k).n3) (p := bs f + wl r) (cap := 12) (f := ff) (ta := ta) (pt := fun i => yQ R S0 (4 + (D.I k).n1) (D.I k).n2 i) (W := fun i => V (f, 40 + (wl r + i))) (l := fun i => L (f, 40 + (wl r + i))) (h := fun i => H (f, 40 + (wl r + i))) (q := fun i => i) (fl := fl) (t := t9) hL hx e ta1 ta2 ⟨n12, by decide⟩ n12 (fun i hi => by
    obtain ⟨z, z1, z2, z3⟩ := a8 i hi
    exact ⟨z, z1, Or.inl z2, z3⟩) (by omega) (fun i hi => hi) (fun i hi => by
    have := (v1 i hi).2
    rw [show bs f + (wl r + i) = bs f + wl r + i by omega] at this
    exact this) (fun i hi => Or.inl ⟨rfl, rfl⟩) hF hC.f1 (by omega) v4 (by rw [h73]; congr 1; omega)) (fun S3 r3 ⟨S4, cs, ls, fl1, t1, kk, c1, c2, c3, c4, c5, c6, c7, c8⟩ => ?_)
  have i3 : Zi S3 73 = nI (bs f + wl r) := by rw [c1]; exact Zi_s
  have o34 : SO S4 S3 := by rw [c1]; exact ⟨rfl, rfl, ⟨rfl, rfl⟩, rfl, rfl, fun _ _ => rfl, rfl, fun j hj => Zi_n hj⟩
  have z34 : Zl S3 = Zl S4 := by rw [c1]; rfl
  have f1 : ∀ n ∈ fl1, 1 ≤ n := fun n hn => by
    rcases c5.2.2 n hn with w | w
    · exact hC.f1 n w
    · omega
  refine Rt.bn (nod_ (o34.sam.fl c4) (fun z => by have := c5.2.1; rw [z] at this; have this : t1 + fl.length ≤ 0 + t9 + (D.I k).n3 := this; omega)) (fun S5 r5 ⟨m, l2, t2, d1, d2, d3, d4, d5, d6, d7, d8, d9, d10⟩ => ?_)
  have frs : Frs fl1 t1 [m] l2 t2 := Frs.one c4.2.2.2.1 c4.2.2.2.2 d10
  have hm1 := (frs.1 m (List.mem_singleton_self m)).2.2
  have hm2 : m ∈ fl ∨ t9 < m := by
    rcases hm1 with w | w
    · exact c5.2.2 m w
    · have := c5.1; exact Or.inr (by omega)
  have ht2 : t2 < 430000 := d5.2.1
  have e5 : RNx Sl S5 := ((e.tr c3.rn).tr o34.rn).tr d6.rn
  have r29' : Zr S5 29 = Zr Sl 29 := e5.2.2.2.2.2.1 29 (by decide)
  refine Rt.bd (v := nI (D.I k).n2) (by rw [rI_n (show k < rlen 29 from h24) (by decide), r29', hz2]) ?_
  rw [c2, d1]
  refine Rt.bd (wJ_n (show m < rlen 61 from (by show m < 430000; omega)) (by decide)) ?_
  show Rt (bnd (f_push R.K (Ul S5 61 (vp_updL (Zl S5 61) m (nL (hdN (ftN cs (D.I k).n3)) + (nL (D.I k).n2 <<< (Int32.toInt64 20 &&& 63))))) (nL m)) fun S15 v16 => some (S15, ())) _
  have hcm : ∀ j : Nat, j < (D.I k).n3 → m ∉ cs j ∧ m ∉ ls j := fun j hj => by
    have z1 := c8 m
    have z2 := frs.ct c4 f1 d5.2.2.2.1 d2 m
    have z3 := v4 m
    have z4 : cnN m l2 = 0 := cnN_z d4
    have i2 : ind t2 m ≤ 1 := ind_1
    have z5 : cnN m (cs j) + cnN m (ls j) ≤ psN (fun j => cnN m (cs j) + cnN m (ls j)) (D.I k).n3 := psN_i1 (v := fun j => cnN m (cs j) + cnN m (ls j)) hj
    rw [if_pos rfl] at z2
    have z1 : psN (fun j => cnN m (cs j) + cnN m (ls j)) (D.I k).n3 + cnN m fl1 + ind t9 m = psN (fun i => cnN m (L (f, 40 + (wl r + i)))) (D.I k).n3 + cnN m fl + ind t1 m := z1
    exact ⟨fun w => by have := cnN_mem.mp w; omega, fun w => by have := cnN_mem.mp w; omega⟩
  have hhd : hdN (ftN cs (D.I k).n3) < 2 ^ 20 := by
    by_cases c0 : 1 ≤ (ftN cs (D.I k).n3).length
    · have := (c6.1 _ (hdN_i c0)).2; omega
    · cases hh : ftN cs (D.I k).n3 with
      | nil => show 0 < _; omega
      | cons a b => rw [hh] at c0; exact absurd (Nat.succ_pos _) c0
  have wth := wth_e (a := hdN (ftN cs (D.I k).n3)) (b := (D.I k).n2) hhd (by omega)
  generalize hW : nL (hdN (ftN cs (D.I k).n3)) + (nL (D.I k).n2 <<< (Int32.toInt64 20 &&& 63)) = ww at wth
  have e8 : NO (fun a => a = m) S5 (Ul S5 61 (vp_updL (Zl S5 61) m ww)) := NO.w1 rfl
  have z8 : Zl (Ul S5 61 (vp_updL (Zl S5 61) m ww)) 61 m = ww := by rw [Zl_us, upL_s]
  have y8 : Zr (Ul S5 61 (vp_updL (Zl S5 61) m ww)) = Zr S5 := rfl
  have i8 : Zi (Ul S5 61 (vp_updL (Zl S5 61) m ww)) = Zi S5 := rfl
  have f8 : FLs (Ul S5 61 (vp_updL (Zl S5 61) m ww)) l2 t2 := d5.eq rfl rfl rfl
  generalize Ul S5 61 (vp_updL (Zl S5 61) m ww) = S8 at e8 z8 y8 i8 f8
  have i8' : Zi S8 73 = nI (bs f + wl r) := by rw [i8, d6.2.2.2.2.2.2.2.1 73 (by decide) (by decide)]; exact i3
  refine Rt.bn (psh_ (p := bs f + wl r) i8' (by omega)) (fun S9 _ ⟨s1, s2, s3, s4⟩ => ?_)
  have go : GO (fun a => (a ∈ fl ∨ t9 < a) ∨ ∃ i : Nat, i < (D.I k).n3 ∧ a ∈ L (f, 40 + (wl r + i))) (fun _ => False) (fun _ => False) S1 S9 := (((c3.go.tr o34.go).tr (d6.go.mo (fun a w => by rw [w]; exact Or.inl hm2) (fun _ w => w) (fun _ w => w))).tr (e8.go.mo (fun a w => by rw [w]; exact Or.inl hm2) (fun _ w => w) (fun _ w => w))).tr s1.go
  have n9 : ∀ a : Nat, a ≠ m → Zl S9 61 a = Zl S4 61 a ∧ Zr S9 62 a = Zr S4 62 a ∧ Zr S9 63 a = Zr S4 63 a := fun a ha => by
    obtain ⟨w1, w2, w3⟩ := e8.2.2.2.2.2.2.2.2 a ha
    obtain ⟨u1, u2, u3⟩ := d6.2.2.2.2.2.2.2.2 a ha
    rw [s1.2.2.2.2.2.1 61 (by decide), s1.2.2.2.2.2.2.1]
    refine ⟨w1.trans (u1.trans ?_), w2.trans (u2.trans ?_), w3.trans (u3.trans ?_)⟩
    · rw [z34]
    · rw [o34.2.2.2.2.2.2.1]
    · rw [o34.2.2.2.2.2.2.1]
  have z9 : Zl S9 61 m = ww := by rw [s1.2.2.2.2.2.1 61 (by decide)]; exact z8
  refine Rt.rt ⟨hX1.go go (s1.wq (e8.wq (d6.wq (o34.wq (c3.wq hX1.2.1))))) ?_, Or.inr ⟨(go.2.1 3 (by decide)).trans e3, (go.2.1 70 (by decide)).trans e70, NXt.fr ?_ er ?_⟩⟩
  · rw [s1.2.2.2.2.2.2.2 81 (by decide), i8, d6.2.2.2.2.2.2.2.1 81 (by decide) (by decide), o34.2.2.2.2.2.2.2 81 (by decide), c3.2.2.2.2.2.2.2.1 81 (by decide) (by decide)]; exact hX1.2.2.2.2
  · have ety : (yT R S0).2.2.2.1 (4 + (D.I k).n1) (D.I k).n2 = (D.I k).n3 := en.symm
    have hFu := qFu_E (V := fun i => V (f, 40 + (wl r + i))) y3 ng (fun j hj => by
      rw [ety] at hj
      exact (v1 j hj).1)
    rw [ety] at hFu
    have ftm : ∀ a : Nat, a ∈ ftN cs (D.I k).n3 → a ≠ m := fun a ha w => by
      obtain ⟨j, j1, j2⟩ := ftN_mem.mp ha
      exact (hcm j j1).1 (by rw [← w]; exact j2)
    refine h1.vs (E := dsl (fun q => (0, yQ R S0 (4 + (D.I k).n1) (D.I k).n2 q, 0)) (D.I k).n3) (P := [(0, 4 + (D.I k).n1, 0)]) (r := r) (lv := m :: (ftN cs (D.I k).n3 ++ ftN ls (D.I k).n3)) (hv := ftN (fun i => H (f, 40 + (wl r + i))) (D.I k).n3) (fl2 := l2) (t2 := t2) hL (h1.e1 (kd_s hk (by decide))) hJ hN hC hs dsl_0 hrn hw (kdM_k hk (by decide)) d0.2.2.1 (Or.inr ⟨4 + (D.I k).n1, _, rfl, by omega, by rw [y3]; decide, by rw [y3]; decide, hFu, Or.inr ⟨by rw [y3]; decide, kk, Or.inl ⟨y3, m, (D.I k).n2, cs, ls, fun i => H (f, 40 + (wl r + i)), rfl, ng, s3, ⟨d2, by omega⟩, ?_, ?_, ?_, by rw [ety], by rw [ety], fun j hj => ?_⟩⟩⟩) go (fun a w => ?_) (fun a => ?_) (fun a => Or.inl ?_) (s1.sam.fl f8) (fun p hp => ?_) h1.2.2.2.1.1 ?_
    · show kdW (Zl S9 61 m) = _
      rw [z9, ety]; exact wth.1
    · show vrW (Zl S9 61 m) = _
      rw [z9]; exact wth.2
    · rw [ety]
      exact c6.cg (fun a ha => (n9 a (ftm a ha)).2.2)
    · rw [ety] at hj
      rw [qS_E hj]
      exact (c7 j hj).st (M2 := nMS S9) (fun a ha => by
        obtain ⟨w1, w2, _⟩ := n9 a (fun w => (hcm j hj).1 (by rw [← w]; exact ha))
        exact ⟨w1, w2⟩) (fun a ha => n9 a (fun w => (hcm j hj).2 (by rw [← w]; exact ha)))
    · rcases w with w | ⟨i, hi, w⟩
      · exact w.imp id (fun z => Or.inl z)
      · exact Or.inr (Or.inr ⟨i, by rw [v3]; exact hi, w⟩)
    · show (if m = a then 1 else 0) + cnN a (ftN cs (D.I k).n3 ++ ftN ls (D.I k).n3) + _ + _ = _
      rw [v3, cnN_app, ftN_cn, ftN_cn, ← psN_ad]
      have z1 : psN (fun j => cnN a (cs j) + cnN a (ls j)) (D.I k).n3 + cnN a fl1 + ind t9 a = psN (fun i => cnN a (L (f, 40 + (wl r + i)))) (D.I k).n3 + cnN a fl + ind t1 a := c8 a
      have z2 := frs.ct c4 f1 d5.2.2.2.1 d2 a
      omega
    · rw [v3, ftN_cn]
      exact ⟨Nat.le_refl _, Or.inl (go.2.2.2.2.1 a (fun w => w))⟩
    · rw [s4 p (by omega), e8.2.2.2.2.2.1 72 (by decide), d6.2.2.2.2.2.1 72 (by decide), z34, c3.2.2.2.2.2.1 72 (by decide)]
    · rw [s2, show [(0, 4 + (D.I k).n1, 0)] ++ r = (0, 4 + (D.I k).n1, 0) :: r from rfl, wl_01.2]
      congr 1
  · rw [h1.2.2.2.1.2.2, h.2.2.2.1.2.2]
end PS84
