section PS85
variable {R : yR} {K : Ky} {S0 Sl S S1 S2 S3 : Sg} {D : fD} {i k j f nw n : Nat} {vt : Nat → Nat → Nat} {tb : Nat → lTb} {x : Nat → kFm} {bs : Nat → Nat} {g : Nat → Int32} {rt : Nat × Nat → Nat} {V : Nat × Nat → qV} {C L H : Nat × Nat → List Nat} {fl l h : List Nat} {t T z : Nat} {tk : Nat → Int32} {W : qV} {v : Int64}
/-- a root has at most as many cells of the heap as there are -/
theorem kC.hl (hC : kC C L H fl t tk) {r : Nat × Nat} (h1 : r.1 < 60) (h2 : r.2 < 300) : (H r).length ≤ 4000 := by
  have key : ∀ q : Nat, cnN q (H r) ≤ 1 ∧ (q ∈ H r → q < 4000) := fun q => by
    have g : cnN q (H r) ≤ sm2 (fun r => cnN q (H r)) := sm2_i1 (G := fun r => cnN q (H r)) h1 h2
    obtain ⟨d1, d2⟩ := hC.2 q
    refine ⟨by omega, fun w => ?_⟩
    have := cnN_mem.mp w
    exact (d2 (by omega)).1
  rw [← cnN_len (l := H r) (m := 4000) (fun a ha => (key a).2 ha)]
  have := psN_le (w := fun a => cnN a (H r)) (w2 := fun _ => 1) (n := 4000) (fun a _ => (key a).1)
  rw [psN_c9] at this
  omega
/-- a value is dropped, whatever it is -/
theorem doA_ (hL : LFS R S0 g) (hx : LX S0 Sl) (hva : vaR (yT R S0) (szN R S0) (nMS S) T W v l h) (hr : rTy S0 z) (eT : abT S0 z = T ∨ (isRf (abT S0 z) ∧ T = 1)) (e : RNx Sl S) (hq : wq S) (hf : FLs S fl t) (hd : Zi S 81 = nI 0) (hc : cvN [] l fl t) (h4 : h.length ≤ 4000) : Rt (f_dropValue R.K S (some z) v) (fun S2 _ => Rt (f_doAll R.K S2) (fun S3 _ => ∃ fl3 : List Nat, DPo [] l h fl t 0 S S3 fl3)) := by
  have hy := nYk_of hL
  have hcn := hva.cnt hy
  rcases eT with eT | ⟨e1, e2⟩
  · rcases hva with ⟨q1, k, c, l1, q2, q3, q4, q5⟩ | ⟨q1, k, q2⟩
    · subst q5
      rw [q4]
      rw [List.length_append] at hcn
      refine doS_ hL hx q2 hr eT q1 e hq hf hd q3 (fun a => ?_) (by omega)
      have := hc a
      rw [cnN_app] at this
      have z0 : cnN a [] = 0 := rfl
      exact ⟨by omega, fun w => this.2 (by omega)⟩
    · exact doV_ hL hx q2 hr eT q1 e hq hf hd hc (by omega)
  · subst e2
    have h1 : (yT R S0).1 1 = 0 := (yB_yT (R := R) (S0 := S0)).1 1 (by decide)
    obtain ⟨z1, z2⟩ := hva.lf (by rw [h1]; decide) (by rw [h1]; decide) (by rw [h1]; decide)
    subst z1; subst z2
    have hn := (yB_yT (R := R) (S0 := S0)).2.1 (abT S0 z) e1.1
    exact doV_ (k := 0) (V := qL (abT S0 z)) hL hx (Or.inr (Or.inr ⟨hn.2.1, hn.2.2, ⟨_, rfl⟩, rfl, rfl⟩)) hr rfl hn.1 e hq hf hd hc (by show 2 * 0 ≤ _; omega)
/-- DROP -/
theorem s_11 (hL : LFS R S0 g) (hx : LX S0 Sl) (h : RQ R S0 vt tb i D k f x bs Sl k S) (hQ : D.Pe < 24000) (hk : (D.I k).kd = 11) : Rt (f_step R.K S) (fun S2 _ => RTt R S0 vt tb i D k f x bs Sl S S2) := by
  have h24 := h.k24 hQ
  have hy := nYk_of hL
  refine stp_11 h hQ hk (fun S1 h1 e70 e3 er el => ?_)
  have hp := h1.pt.1
  unfold tPt at hp
  rw [hk] at hp
  obtain ⟨d0, T, r, hs, n0, n9, hT, _, _, hw⟩ := hp
  have hgt := h1.1.2.2.2.1
  rw [hs] at hgt
  have hb := h1.sb
  have h73 := h1.2.2.2.1.2.1
  have h177 := h1.pt.2
  rw [hs, (wl_01 (r := r)).2] at h73 hb h177
  obtain ⟨z, y1, y2, y3⟩ := h1.2.1.2.2.2.2.2.2.2.1 (Or.inr (Or.inl hk))
  have hX1 := h1.2.2.1
  have hq39 : Zq S1 = Zq Sl := hX1.1.2.2.2.1
  obtain ⟨rt, V, C, L, H, fl, t9, ⟨hJ, hN, hC, hF⟩, _⟩ := h1.2.2.2.2.2.2.1
  have hf6 := h1.2.2.2.2.1
  obtain ⟨v1, v2, v3, v4, v5⟩ := h1.top hJ hN hs n0
  refine Rt.bd (v := some z) (by rw [rQ_n (show k < rlen 39 from h24) (by decide), hq39, y1]) ?_
  refine Rt.bn (pop_ (p := bs f + wl r) h73 (by omega)) (fun S3 v ⟨c1, c2, c3, c4, c5⟩ => ?_)
  rw [c2]
  have hag : nMS S3 = nMS S1 := c3.sam.1
  refine Rt.bn (doA_ (T := T) (W := V (f, 40 + wl r)) (l := L (f, 40 + wl r)) (h := H (f, 40 + wl r)) (fl := fl) (t := t9) hL hx (by rw [hag]; exact v3) y2 (by rw [y3]; exact hT.imp (fun w => w.symm) id) (c3.rx hX1).1 (c3.rx hX1).2.1 (c3.sam.fl hF) (c3.rx hX1).2.2.2.2 (hC.cv (r := (f, 40 + wl r)) (c0 := []) hf6 (show 40 + wl r < 300 by omega) hF.2.2.2.1 (fun a => by show 0 + _ ≤ _; omega)) (hC.hl (r := (f, 40 + wl r)) hf6 (show 40 + wl r < 300 by omega))) (fun S4 _ q4 => Rt.bn q4 (fun S5 _ ⟨fl3, p1, p2, p3, p4, _, p6, p7⟩ => ?_))
  unfold f_step_590
  have go : GO (fun a => a ∈ ([] : List Nat) ∨ a ∈ L (f, 40 + wl r)) (fun q => q ∈ H (f, 40 + wl r)) (fun _ => False) S1 S5 := c3.go.tr p1.go
  refine Rt.rt ⟨hX1.go go p7 p2, Or.inr ⟨(go.2.1 3 (by decide)).trans e3, (go.2.1 70 (by decide)).trans e70, NXt.fr ?_ er ?_⟩⟩
  · refine h1.vs (E := [(0, T, 0)]) (P := []) (r := r) (lv := []) (hv := []) (fl2 := fl3) (t2 := t9) hL (h1.e1 (kd_s hk (by decide))) hJ hN hC hs (fun e he => by rw [List.mem_singleton.mp he]) hgt.tl hw (kdM_k hk (by decide)) d0.2.2.1 (Or.inl ⟨rfl, rfl, rfl⟩) go (fun a w => ?_) (fun a => ?_) (fun q => Or.inl ?_) p3 (fun q hq => ?_) h1.2.2.2.1.1 ?_
    · refine Or.inr (Or.inr ⟨0, by rw [(wl_01 (r := [])).1]; decide, ?_⟩)
      rcases w with w | w
      · cases w
      · exact w
    · rw [(wl_01 (r := [])).1, psN_1u, p4 a]
      show 0 + (cnN a (L (f, 40 + wl r)) + cnN a fl) + _ = cnN a (L (f, 40 + wl r)) + cnN a fl + _
      omega
    · rw [(wl_01 (r := [])).1, psN_1u]
      show 0 ≤ cnN q (H (f, 40 + wl r)) ∧ (Zr S5 67 q = Zr S1 67 q ∨ 0 < cnN q (H (f, 40 + wl r)))
      refine ⟨Nat.zero_le _, ?_⟩
      by_cases c : q ∈ H (f, 40 + wl r)
      · exact Or.inr (cnN_mem.mp c)
      · exact Or.inl (go.2.2.2.2.1 q c)
    · rw [p1.2.2.2.2.2.1 72 (by decide), c5]
    · rw [p1.2.2.2.2.2.2.2.1 73 (by decide) (by decide) (by decide) (by decide), c4]; rfl
  · rw [h1.2.2.2.1.2.2, h.2.2.2.1.2.2]
end PS85
