section PS59
variable {R : yR} {S0 Sl S S1 S2 S3 : Sg} {D : fD} {i k j f nw : Nat} {vt : Nat → Nat → Nat} {tb : Nat → lTb} {x : Nat → kFm} {bs : Nat → Nat} {g : Nat → Int32} {K : Ky} {p : Nat}
/-- the stack is told as it was: a step's end -/
theorem RQ.id0 (hL : LFS R S0 g) (h : RQ R S0 vt tb i D k f x bs Sl nw S) (e : edg D k j) (hnt : nT (D.st k)) (hw : wkS (D.st k) (D.st j)) (hm : kdM (D.I k)) (ho : (D.I k).ho = none) (hsm : sam S S2) (h2 : ∀ q : Nat, q < bs f + wl (D.st k) → Zl S2 72 q = Zl S 72 q) (h77 : Zi S2 77 = nI j) (h73 : Zi S2 73 = nI (bs f + wl (D.st k))) (h75 : Zr S2 75 = Zr S 75) (h76 : Zi S2 76 = Zi S 76) : NXt R S0 vt tb i D k f x bs S S2 := by
  obtain ⟨hst, hwl⟩ := h.st
  have h177 := h.pt.2
  obtain ⟨hPK, hz, hX, hI, hf, ⟨a1, a2, a3, a4, a5, a6⟩, hT, hws, hv⟩ := h
  refine fin0 (s := D.st k) (S := S) hL hPK e hw (hPK.2.2.2.1.all hnt) hm ho a3 a1 ?_ a4 a5 a6 (hT.kt.skc hsm (fun q hq => h2 q (by omega))) h77 ?_ h75 h76
  · rw [hst]
    exact trL_t hw (hPK.1.dn e ho h177)
  · rw [h73, wkS_wl hw]
theorem Ui.sam9 {v : Int32} {q : Nat} (h4 : q ≠ 64) (h5 : q ≠ 65) : sam S (Ui S q v) := ⟨rfl, rfl, rfl, Zi_n (fun w => h4 w.symm), Zi_n (fun w => h5 w.symm)⟩
theorem RX.u77 {v : Int32} (h : RX Sl S) : RX Sl (Ui S 77 v) := h.mk ⟨rfl, rfl, ⟨rfl, rfl⟩, rfl, rfl, fun _ _ => rfl, fun _ _ => rfl, fun j hj _ => Zi_n (by omega)⟩ (h.2.1.eq (Zi_n (by decide)) (Zi_n (by decide))) (Zi_n (by decide)) (Zi_n (by decide)) ((Zi_n (by decide)).trans h.2.2.2.2)
theorem RX.u70 {v : Int32} (h : RX Sl S) : RX Sl (Ui S 70 v) := h.mk ⟨rfl, rfl, ⟨rfl, rfl⟩, rfl, rfl, fun _ _ => rfl, fun _ _ => rfl, fun j hj _ => Zi_n (by omega)⟩ (h.2.1.eq (Zi_n (by decide)) (Zi_n (by decide))) (Zi_n (by decide)) (Zi_n (by decide)) ((Zi_n (by decide)).trans h.2.2.2.2)
/-- the rows of the program, while it runs -/
theorem RQ.r30 (h : RQ R S0 vt tb i D k f x bs Sl nw S) (hk : (D.I k).kd = 16 ∨ (D.I k).kd = 17 ∨ (D.I k).kd = 18 ∨ (D.I k).kd = 19) (h24 : k < 24000) : ∃ j : Nat, rI S 30 (nI k) = some (nI j) ∧ ((D.I k).kd = 16 → (D.I k).sc = [j]) ∧ ((D.I k).kd ≠ 16 → (D.I k).sc = [k + 1, j]) := by
  have e30 : Zr S 30 = Zr Sl 30 := h.2.2.1.1.2.2.2.2.2.1 30 (by decide)
  rcases h.2.1.2.2.2.2.2.2.1 with ⟨w, _⟩ | ⟨w, j, a, b, _⟩ | ⟨w, j, a, b, _⟩ | ⟨w, _⟩ | ⟨_, w1, w2, w3, w4, _⟩
  · rw [w] at hk; exact absurd hk (by decide)
  · exact ⟨j, by rw [rI_n (show k < rlen 30 from h24) (by decide), e30, a], fun _ => b, fun z => absurd w z⟩
  · refine ⟨j, by rw [rI_n (show k < rlen 30 from h24) (by decide), e30, a], fun z => ?_, fun _ => b⟩
    rw [z] at w; exact absurd w (by decide)
  · rcases w with w | w <;> rw [w] at hk <;> exact absurd hk (by decide)
  · rcases hk with z | z | z | z
    · exact absurd z w1
    · exact absurd z w2
    · exact absurd z w3
    · exact absurd z w4
theorem kdM_k {ii : iR} {K : Nat} (h : ii.kd = K) (h2 : K ≠ 12 ∧ K ≠ 14 ∧ K ≠ 22 ∧ K ≠ 23 ∧ K ≠ 24) : kdM ii := ⟨by rw [h]; exact h2.1, by rw [h]; exact h2.2.1, by rw [h]; exact h2.2.2.1, by rw [h]; exact h2.2.2.2.1, by rw [h]; exact h2.2.2.2.2⟩
theorem kd_s {ii : iR} {K : Nat} (h : ii.kd = K) (h2 : K ≠ 26 ∧ K ≠ 16 ∧ K ≠ 17 ∧ K ≠ 18 ∧ K ≠ 19 ∧ K ≠ 20 ∧ K ≠ 21) : ii.kd ≠ 26 ∧ ii.kd ≠ 16 ∧ ii.kd ≠ 17 ∧ ii.kd ≠ 18 ∧ ii.kd ≠ 19 ∧ ii.kd ≠ 20 ∧ ii.kd ≠ 21 := by rw [h]; exact h2
/-- INPUT -/
theorem s_27 (hL : LFS R S0 g) (h : RQ R S0 vt tb i D k f x bs Sl k S) (hQ : D.Pe < 24000) (hk : (D.I k).kd = 27) : Rt (f_step R.K S) (fun S2 _ => RTt R S0 vt tb i D k f x bs Sl S S2) := by
  refine stp_27 h hQ hk (fun S1 h1 e70 e3 er el => ?_)
  have hp := h1.pt.1
  unfold tPt at hp
  rw [hk] at hp
  obtain ⟨⟨d0, hnt⟩, t2, ht, _, _, hw⟩ := hp
  have hb := h1.sb
  obtain ⟨c, c1, c2⟩ := h1.2.2.1.2.2.1
  refine Rt.bn (nin_ c2 c1) (fun S3 v ⟨q1, c3, q2, q3⟩ => ?_)
  have es : sam S1 S3 := ⟨by show (Zl S3 61, Zr S3 62, Zr S3 63) = (Zl S1 61, Zr S1 62, Zr S1 63); rw [q1.2.2.2.2.2.1 61 (by decide), q1.2.2.2.2.2.2.1], by rw [q1.2.2.2.2.2.2.1], by rw [q1.2.2.2.2.2.2.1], q1.2.2.2.2.2.2.2 64 (by decide), q1.2.2.2.2.2.2.2 65 (by decide)⟩
  have hX3 : RX Sl S3 := by
    obtain ⟨a1, a2, a3, ⟨d, d1, d2⟩, a5⟩ := h1.2.2.1
    refine ⟨a1.tr ⟨q1.1, q1.2.1, q1.2.2.1, q1.2.2.2.1, q1.2.2.2.2.1, fun r _ => by rw [q1.2.2.2.2.2.2.1], fun r hr => q1.2.2.2.2.2.1 r (by omega), fun j hj _ => q1.2.2.2.2.2.2.2 j (by omega)⟩, a2.eq (q1.2.2.2.2.2.2.2 83 (by decide)) (q1.2.2.2.2.2.2.2 84 (by decide)), ⟨c3, by omega, q3⟩, ⟨d, d1, (q1.2.2.2.2.2.2.2 66 (by decide)).trans d2⟩, (q1.2.2.2.2.2.2.2 81 (by decide)).trans a5⟩
  have h3 : RQ R S0 vt tb i D k f x bs Sl (k + 1) S3 := by
    obtain ⟨b1, b2, b3, ⟨b4, b5, b6⟩, b7, b8, b9, b10⟩ := h1
    exact ⟨b1, b2, hX3, ⟨(q1.2.2.2.2.2.2.2 77 (by decide)).trans b4, (q1.2.2.2.2.2.2.2 73 (by decide)).trans b5, (q1.2.2.2.2.2.2.2 76 (by decide)).trans b6⟩, b7, b8, b9.cg es (fun q _ => by rw [q1.2.2.2.2.2.1 72 (by decide)]), b10⟩
  refine Rt.bn (psh_ h3.2.2.2.1.2.1 (by omega)) (fun S2 _ ⟨r1, r2, r3, r4⟩ => ?_)
  unfold f_step_590
  have hn := h3.p0 hL (h3.e1 (kd_s hk (by decide))) (by omega) hnt hw (kdM_k hk (by decide)) d0.2.2.1 r1 (fun q hq => r4 q (by omega)) ((r1.2.2.2.2.2.2.2 77 (by decide)).trans h3.2.2.2.1.1) r2
  refine Rt.rt ⟨r1.rx hX3, Or.inr ⟨((r1.2.2.2.2.2.2.2 3 (by decide)).trans (q1.2.2.2.2.2.2.2 3 (by decide))).trans e3, ((r1.2.2.2.2.2.2.2 70 (by decide)).trans (q1.2.2.2.2.2.2.2 70 (by decide))).trans e70, hn.fr (q1.2.2.2.2.2.2.1.trans er) ?_⟩⟩
  rw [h3.2.2.2.1.2.2, h.2.2.2.1.2.2]
/-- SIGN -/
theorem s_4 (hL : LFS R S0 g) (h : RQ R S0 vt tb i D k f x bs Sl k S) (hQ : D.Pe < 24000) (hk : (D.I k).kd = 4) : Rt (f_step R.K S) (fun S2 _ => RTt R S0 vt tb i D k f x bs Sl S S2) := by
  have h24 := h.k24 hQ
  refine stp_4 h hQ hk (fun S1 h1 e70 e3 er el => ?_)
  have hp := h1.pt.1
  unfold tPt at hp
  rw [hk] at hp
  obtain ⟨d0, t1, t2, t3, r, ht1, ht2, ht3, hs, _, _, hw⟩ := hp
  have hb := h1.sb
  have h73 := h1.2.2.2.1.2.1
  rw [hs, wl_00p, wl_00p] at h73
  rw [hs, wl_00p, wl_00p] at hb
  refine Rt.bd (rI_n (show k < rlen 28 from h24) (by decide)) (Rt.bn (rsg_ (p := bs f + wl r) h73 (by omega)) (fun S2 _ ⟨q1, q2, q3⟩ => ?_))
  unfold f_step_590
  refine Rt.rt ⟨q1.rx h1.2.2.1, ?_⟩
  rcases q1 with ⟨w1, w2⟩ | ⟨w1, _⟩
  · refine Or.inr ⟨w1.trans e3, (w2.2.2.2.2.2.2.2 70 (by decide)).trans e70, (h1.op hL (h1.e1 (kd_s hk (by decide))) (P := [(0, t3, 0)]) (Or.inr ⟨t1, t2, ht1, ht2, hs⟩) (Or.inr ⟨t3, by omega, rfl⟩) hw (kdM_k hk (by decide)) d0.2.2.1 w2.sam (fun q hq => q3 q (by omega)) ((w2.2.2.2.2.2.2.2 77 (by decide)).trans h1.2.2.2.1.1) ?_ (by rw [w2.2.2.2.2.2.2.1]) (w2.2.2.2.2.2.2.2 76 (by decide))).fr er ?_⟩
    · rw [q2]
      show nI (bs f + wl r + 1) = nI (bs f + wl ((0, t3, 0) :: r))
      rw [wl_00p]; rfl
    · rw [h1.2.2.2.1.2.2, h.2.2.2.1.2.2]
  · exact Or.inl w1
/-- NOT -/
theorem s_5 (hL : LFS R S0 g) (h : RQ R S0 vt tb i D k f x bs Sl k S) (hQ : D.Pe < 24000) (hk : (D.I k).kd = 5) : Rt (f_step R.K S) (fun S2 _ => RTt R S0 vt tb i D k f x bs Sl S S2) := by
  refine stp_5 h hQ hk (fun S1 h1 e70 e3 er el => ?_)
  have hp := h1.pt.1
  unfold tPt at hp
  rw [hk] at hp
  obtain ⟨d0, t1, r, ht1, hs, _, _, hw⟩ := hp
  have hb := h1.sb
  have h73 := h1.2.2.2.1.2.1
  rw [hs, wl_00p] at h73
  rw [hs, wl_00p] at hb
  refine Rt.bn (pop_ (p := bs f + wl r) h73 (by omega)) (fun S3 v ⟨_, _, q1, q2, q3⟩ => Rt.bn (psh_ q2 (by omega)) (fun S2 _ ⟨r1, r2, r3, r4⟩ => ?_))
  unfold f_step_590
  have e := q1.tr r1
  refine Rt.rt ⟨e.rx h1.2.2.1, Or.inr ⟨(e.2.2.2.2.2.2.2 3 (by decide)).trans e3, (e.2.2.2.2.2.2.2 70 (by decide)).trans e70, (h1.op hL (h1.e1 (kd_s hk (by decide))) (P := [(0, t1, 0)]) (Or.inl ⟨t1, ht1, hs⟩) (Or.inr ⟨t1, by omega, rfl⟩) (by rw [hs] at hw; exact hw) (kdM_k hk (by decide)) d0.2.2.1 e.sam (fun q hq => by rw [r4 q (by omega), q3]) ((e.2.2.2.2.2.2.2 77 (by decide)).trans h1.2.2.2.1.1) ?_ (by rw [e.2.2.2.2.2.2.1]) (e.2.2.2.2.2.2.2 76 (by decide))).fr er ?_⟩⟩
  · rw [r2]
    show nI (bs f + wl r + 1) = nI (bs f + wl ((0, t1, 0) :: r))
    rw [wl_00p]; rfl
  · rw [h1.2.2.2.1.2.2, h.2.2.2.1.2.2]
/-- MINUS -/
theorem s_6 (hL : LFS R S0 g) (h : RQ R S0 vt tb i D k f x bs Sl k S) (hQ : D.Pe < 24000) (hk : (D.I k).kd = 6) : Rt (f_step R.K S) (fun S2 _ => RTt R S0 vt tb i D k f x bs Sl S S2) := by
  refine stp_6 h hQ hk (fun S1 h1 e70 e3 er el => ?_)
  have hp := h1.pt.1
  unfold tPt at hp
  rw [hk] at hp
  obtain ⟨d0, t1, r, ht1, hs, _, _, hw⟩ := hp
  have hb := h1.sb
  have h73 := h1.2.2.2.1.2.1
  rw [hs, wl_00p] at h73
  rw [hs, wl_00p] at hb
  unfold f_runMinus f_runMinus_19
  have hX := h1.2.2.1
  have hm : Rt (bnd (f_pop R.K S1) fun S1 v2 => if (lg_cmp v2 (-9223372036854775808)) = 0 then ((pM S1 3 7).bind fun S3 => bnd (f_push R.K S3 (-v2)) fun S4 v5 => some (S4, ())) else (bnd (f_push R.K S1 (-v2)) fun S4 v5 => some (S4, ()))) (fun S2 _ => RTt R S0 vt tb i D k f x bs Sl S S2) := by
    refine Rt.bn (pop_ (p := bs f + wl r) h73 (by omega)) (fun S3 v ⟨_, _, q1, q2, q3⟩ => Rt.it (fun _ => ?_) (fun _ => ?_))
    · refine Rt.bd (v := Ui S3 3 7) rfl (Rt.bn (psh_ (p := bs f + wl r) ((Zi_n (by decide)).trans q2) (by omega)) (fun S2 _ ⟨r1, r2, r3, r4⟩ => Rt.rt ⟨r1.rx (q1.rx hX).f3, Or.inl ?_⟩))
      rw [r1.2.2.2.2.2.2.2 3 (by decide), show Zi (Ui S3 3 7) 3 = 7 from Zi_s]; decide
    · refine Rt.bn (psh_ q2 (by omega)) (fun S2 _ ⟨r1, r2, r3, r4⟩ => ?_)
      have e := q1.tr r1
      refine Rt.rt ⟨e.rx h1.2.2.1, Or.inr ⟨(e.2.2.2.2.2.2.2 3 (by decide)).trans e3, (e.2.2.2.2.2.2.2 70 (by decide)).trans e70, (h1.op hL (h1.e1 (kd_s hk (by decide))) (P := [(0, t1, 0)]) (Or.inl ⟨t1, ht1, hs⟩) (Or.inr ⟨t1, by omega, rfl⟩) (by rw [hs] at hw; exact hw) (kdM_k hk (by decide)) d0.2.2.1 e.sam (fun q hq => by rw [r4 q (by omega), q3]) ((e.2.2.2.2.2.2.2 77 (by decide)).trans h1.2.2.2.1.1) ?_ (by rw [e.2.2.2.2.2.2.1]) (e.2.2.2.2.2.2.2 76 (by decide))).fr er ?_⟩⟩
      · rw [r2]
        show nI (bs f + wl r + 1) = nI (bs f + wl ((0, t1, 0) :: r))
        rw [wl_00p]; rfl
      · rw [h1.2.2.2.1.2.2, h.2.2.2.1.2.2]
  refine Rt.bn hm (fun S2 _ q => ?_)
  unfold f_step_590
  exact Rt.rt q
end PS59
