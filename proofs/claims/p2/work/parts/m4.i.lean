section PS60
variable {R : yR} {S0 Sl S S1 S2 S3 : Sg} {D : fD} {i k j f nw : Nat} {vt : Nat → Nat → Nat} {tb : Nat → lTb} {x : Nat → kFm} {bs : Nat → Nat} {g : Nat → Int32} {K : Ky} {p : Nat}
theorem WO.sam (e : WO S S2) : sam S S2 := ⟨by show (Zl S2 61, Zr S2 62, Zr S2 63) = (Zl S 61, Zr S 62, Zr S 63); rw [e.2.2.2.2.2.1, e.2.2.2.2.2.2.1 62 (by decide), e.2.2.2.2.2.2.1 63 (by decide)], e.2.2.2.2.2.2.1 74 (by decide), e.2.2.2.2.2.2.1 67 (by decide), e.2.2.2.2.2.2.2 64 (by decide), e.2.2.2.2.2.2.2 65 (by decide)⟩
theorem sam.tr (a : sam S S1) (b : sam S1 S2) : sam S S2 := ⟨b.1.trans a.1, b.2.1.trans a.2.1, b.2.2.1.trans a.2.2.1, b.2.2.2.1.trans a.2.2.2.1, b.2.2.2.2.trans a.2.2.2.2⟩
theorem RX.wo (h : RX Sl S) (e : WO S S2) (hw : wq S2) : RX Sl S2 := h.mk e.rn hw (e.2.2.2.2.2.2.2 86 (by decide)) (e.2.2.2.2.2.2.2 66 (by decide)) ((e.2.2.2.2.2.2.2 81 (by decide)).trans h.2.2.2.2)
/-- runPrint, behind the pop -/
theorem prt_ {o : Option Nat} {kd : Int32} {v : Int64} (hq : wq S) (ho : oI S 20 o 0 = some kd) : Rt ((oI S 20 o 0).bind fun v3 => if v3 = 0 then (bnd (f_writeNumber K S v) fun S4 v5 => f_runPrint_39 K S4) else (if (lg_cmp v 0) = 0 then (f_runPrint_36 K S 439721161573) else (f_runPrint_36 K S 1953658213))) (fun S2 _ => WO S S2 ∧ wq S2) := by
  have h39 : ∀ S4 : Sg, WO S S4 → wq S4 → Rt (f_runPrint_39 K S4) (fun S2 _ => WO S S2 ∧ wq S2) := fun S4 e w => by
    unfold f_runPrint_39
    exact Rt.bn (wrt_ w) (fun S5 _ q => Rt.rt ⟨e.tr q.1, q.2⟩)
  have h36 : ∀ z : Int64, Rt (f_runPrint_36 K S z) (fun S2 _ => WO S S2 ∧ wq S2) := fun z => by
    unfold f_runPrint_36
    exact Rt.bn (wrw_ hq) (fun S4 _ q => h39 S4 q.1 q.2)
  exact Rt.bd ho (Rt.it (fun _ => Rt.bn (wnm_ hq) (fun S4 _ q => h39 S4 q.1 q.2)) (fun _ => Rt.it (fun _ => h36 _) (fun _ => h36 _)))
/-- PRINT -/
theorem s_15 (hL : LFS R S0 g) (hx : LX S0 Sl) (h : RQ R S0 vt tb i D k f x bs Sl k S) (hQ : D.Pe < 24000) (hk : (D.I k).kd = 15) : Rt (f_step R.K S) (fun S2 _ => RTt R S0 vt tb i D k f x bs Sl S S2) := by
  have h24 := h.k24 hQ
  refine stp_15 h hQ hk (fun S1 h1 e70 e3 er el => ?_)
  have hp := h1.pt.1
  unfold tPt at hp
  rw [hk] at hp
  obtain ⟨d0, t1, r, ht1, hs, _, _, hw⟩ := hp
  have hb := h1.sb
  have h73 := h1.2.2.2.1.2.1
  rw [hs, wl_00p] at h73
  rw [hs, wl_00p] at hb
  obtain ⟨ty, y1, y2, y3⟩ := h1.2.1.2.2.2.2.2.2.2.1 (Or.inr (Or.inr hk))
  have hq39 : Zq S1 = Zq Sl := h1.2.2.1.1.2.2.2.1
  obtain ⟨kd, ix, o, q, _⟩ := y2.ty
  refine Rt.bd (v := some ty) (by rw [rQ_n (show k < rlen 39 from h24) (by decide), hq39, y1]) ?_
  unfold f_runPrint
  have hm : Rt (bnd (f_pop R.K S1) fun S1 v2 => (oI S1 20 (some ty) 0).bind fun v3 => if v3 = 0 then (bnd (f_writeNumber R.K S1 v2) fun S4 v5 => f_runPrint_39 R.K S4) else (if (lg_cmp v2 0) = 0 then (f_runPrint_36 R.K S1 439721161573) else (f_runPrint_36 R.K S1 1953658213))) (fun S2 _ => RTt R S0 vt tb i D k f x bs Sl S S2) := by
    refine Rt.bn (pop_ (p := bs f + wl r) h73 (by omega)) (fun S3 v ⟨_, _, q1, q2, q3⟩ => ?_)
    have hX3 := q1.rx h1.2.2.1
    obtain ⟨tn, _, _, z3, z4⟩ := hX3.1.ty (hx.ty q)
    refine (prt_ hX3.2.1 (oI_mk z3 z4 rfl)).mo (fun S2 _ ⟨w1, w2⟩ => ?_)
    refine ⟨hX3.wo w1 w2, Or.inr ⟨((w1.2.2.2.2.2.2.2 3 (by decide)).trans (q1.2.2.2.2.2.2.2 3 (by decide))).trans e3, ((w1.2.2.2.2.2.2.2 70 (by decide)).trans (q1.2.2.2.2.2.2.2 70 (by decide))).trans e70, (h1.op hL (h1.e1 (kd_s hk (by decide))) (P := []) (Or.inl ⟨t1, ht1, hs⟩) (Or.inl rfl) hw (kdM_k hk (by decide)) d0.2.2.1 (q1.sam.tr w1.sam) (fun q _ => by rw [w1.2.2.2.2.2.1, q3]) (((w1.2.2.2.2.2.2.2 77 (by decide)).trans (q1.2.2.2.2.2.2.2 77 (by decide))).trans h1.2.2.2.1.1) ((w1.2.2.2.2.2.2.2 73 (by decide)).trans q2) ((w1.2.2.2.2.2.2.1 75 (by decide)).trans (by rw [q1.2.2.2.2.2.2.1])) ((w1.2.2.2.2.2.2.2 76 (by decide)).trans (q1.2.2.2.2.2.2.2 76 (by decide)))).fr er ?_⟩⟩
    rw [h1.2.2.2.1.2.2, h.2.2.2.1.2.2]
  refine Rt.bn hm (fun S2 _ q => ?_)
  unfold f_step_590
  exact Rt.rt q
/-- JUMP -/
theorem s_16 (hL : LFS R S0 g) (h : RQ R S0 vt tb i D k f x bs Sl k S) (hQ : D.Pe < 24000) (hk : (D.I k).kd = 16) : Rt (f_step R.K S) (fun S2 _ => RTt R S0 vt tb i D k f x bs Sl S S2) := by
  have h24 := h.k24 hQ
  refine stp_16 h hQ hk (fun S1 h1 e70 e3 er el => ?_)
  have hp := h1.pt.1
  unfold tPt at hp
  rw [hk] at hp
  obtain ⟨⟨d0, hnt⟩, j, hj, _, _, hw⟩ := hp
  obtain ⟨j2, a1, a2, _⟩ := h1.r30 (Or.inl hk) h24
  obtain rfl : j2 = j := by
    have := (a2 hk).symm.trans hj
    exact (List.cons.inj this).1
  refine Rt.bd a1 (Rt.bd (v := Ui S1 77 (nI j2)) rfl ?_)
  unfold f_step_590
  refine Rt.rt ⟨h1.2.2.1.u77, Or.inr ⟨(Zi_n (by decide)).trans e3, (Zi_n (by decide)).trans e70, (h1.id0 hL (h1.ed (by rw [hj]; exact List.mem_singleton_self _)) hnt hw (kdM_k hk (by decide)) d0.2.2.1 (Ui.sam9 (by decide) (by decide)) (fun _ _ => rfl) Zi_s ((Zi_n (by decide)).trans h1.2.2.2.1.2.1) rfl (Zi_n (by decide))).fr er ?_⟩⟩
  rw [h1.2.2.2.1.2.2, h.2.2.2.1.2.2]
/-- FUEL -/
theorem s_0 {fu : Nat} (hL : LFS R S0 g) (h : RQ R S0 vt tb i D k f x bs Sl k S) (hQ : D.Pe < 24000) (hk : (D.I k).kd = 0) (hf : Zi S 70 = nI fu) (hf2 : fu ≤ 20000) : Rt (f_step R.K S) (fun S2 _ => RX Sl S2 ∧ (Zi S2 3 ≠ 0 ∨ (Zi S2 3 = Zi S 3 ∧ (∃ m : Nat, fu = m + 1 ∧ Zi S2 70 = nI m) ∧ NXt R S0 vt tb i D k f x bs S S2))) := by
  refine stp_0 h hQ hk (fun S1 h1 e70 e3 er el => ?_)
  have hp := h1.pt.1
  unfold tPt at hp
  rw [hk] at hp
  obtain ⟨⟨d0, hnt⟩, _, _, hw⟩ := hp
  unfold f_burn f_burn_26
  have hm : Rt (if (Zi S1 70) = 0 then ((pM S1 3 8).bind fun S2 => some (S2, ())) else ((pM S1 70 ((Zi S1 70) - 1)).bind fun S1 => some (S1, ()))) (fun S2 _ => RX Sl S2 ∧ (Zi S2 3 ≠ 0 ∨ (Zi S2 3 = Zi S 3 ∧ (∃ m : Nat, fu = m + 1 ∧ Zi S2 70 = nI m) ∧ NXt R S0 vt tb i D k f x bs S S2))) := by
    refine Rt.it (fun _ => Rt.bd (v := Ui S1 3 8) rfl (Rt.rt ⟨h1.2.2.1.f3, Or.inl ?_⟩)) (fun w => ?_)
    · rw [show Zi (Ui S1 3 8) 3 = 8 from Zi_s]; decide
    · cases fu with
      | zero => exact absurd (e70.trans hf) w
      | succ m =>
        refine Rt.bd (v := Ui S1 70 (nI m)) (by rw [e70, hf, nI_pred]; rfl) (Rt.rt ⟨h1.2.2.1.u70, Or.inr ⟨(Zi_n (by decide)).trans e3, ⟨m, rfl, Zi_s⟩, (h1.id0 hL (h1.e1 (kd_s hk (by decide))) hnt hw (kdM_k hk (by decide)) d0.2.2.1 (Ui.sam9 (by decide) (by decide)) (fun _ _ => rfl) ((Zi_n (by decide)).trans h1.2.2.2.1.1) ((Zi_n (by decide)).trans h1.2.2.2.1.2.1) rfl (Zi_n (by decide))).fr er ?_⟩⟩)
        rw [h1.2.2.2.1.2.2, h.2.2.2.1.2.2]
  refine Rt.bn hm (fun S2 _ q => ?_)
  unfold f_step_590
  exact Rt.rt q
/-- UNLESS -/
theorem s_17 (hL : LFS R S0 g) (h : RQ R S0 vt tb i D k f x bs Sl k S) (hQ : D.Pe < 24000) (hk : (D.I k).kd = 17) : Rt (f_step R.K S) (fun S2 _ => RTt R S0 vt tb i D k f x bs Sl S S2) := by
  have h24 := h.k24 hQ
  refine stp_17 h hQ hk (fun S1 h1 e70 e3 er el => ?_)
  have hp := h1.pt.1
  unfold tPt at hp
  rw [hk] at hp
  obtain ⟨d0, t1, j, r, ht1, hs, hsc, ⟨_, _, hw1⟩, _, _, hw2⟩ := hp
  have hb := h1.sb
  have h73 := h1.2.2.2.1.2.1
  rw [hs, wl_00p] at h73
  rw [hs, wl_00p] at hb
  refine Rt.bn (pop_ (p := bs f + wl r) h73 (by omega)) (fun S3 v ⟨s3, _, q1, q2, q3⟩ => Rt.it (fun _ => ?_) (fun _ => ?_))
  · obtain ⟨j2, a1, _, a2⟩ := h1.r30 (Or.inr (Or.inl hk)) h24
    obtain rfl : j2 = j := by
      have := (a2 (by rw [hk]; decide)).symm.trans hsc
      exact (List.cons.inj (List.cons.inj this).2).1
    refine Rt.bd (v := nI j2) (by rw [← a1, s3]; rfl) (Rt.bd (v := Ui S3 77 (nI j2)) rfl ?_)
    unfold f_step_590
    have ea : sam S1 (Ui S3 77 (nI j2)) := q1.sam.tr (Ui.sam9 (by decide) (by decide))
    refine Rt.rt ⟨(q1.rx h1.2.2.1).u77, Or.inr ⟨((Zi_n (by decide)).trans (q1.2.2.2.2.2.2.2 3 (by decide))).trans e3, ((Zi_n (by decide)).trans (q1.2.2.2.2.2.2.2 70 (by decide))).trans e70, (h1.op hL (h1.ed (by rw [hsc]; exact List.mem_cons_of_mem _ (List.mem_singleton_self _))) (P := []) (Or.inl ⟨t1, ht1, hs⟩) (Or.inl rfl) hw2 (kdM_k hk (by decide)) d0.2.2.1 ea (fun q _ => by show Zl S3 72 q = _; rw [q3]) Zi_s ((Zi_n (by decide)).trans q2) (by show Zr S3 75 = _; rw [q1.2.2.2.2.2.2.1]) ((Zi_n (by decide)).trans (q1.2.2.2.2.2.2.2 76 (by decide)))).fr er ?_⟩⟩
    rw [h1.2.2.2.1.2.2, h.2.2.2.1.2.2]
  · unfold f_step_590
    refine Rt.rt ⟨q1.rx h1.2.2.1, Or.inr ⟨(q1.2.2.2.2.2.2.2 3 (by decide)).trans e3, (q1.2.2.2.2.2.2.2 70 (by decide)).trans e70, (h1.op hL (h1.ed (by rw [hsc]; exact List.mem_cons_self ..)) (P := []) (Or.inl ⟨t1, ht1, hs⟩) (Or.inl rfl) hw1 (kdM_k hk (by decide)) d0.2.2.1 q1.sam (fun q _ => by rw [q3]) ((q1.2.2.2.2.2.2.2 77 (by decide)).trans h1.2.2.2.1.1) q2 (by rw [q1.2.2.2.2.2.2.1]) (q1.2.2.2.2.2.2.2 76 (by decide))).fr er ?_⟩⟩
    rw [h1.2.2.2.1.2.2, h.2.2.2.1.2.2]
/-- AND, OR -/
theorem s_419 (hL : LFS R S0 g) (h1 : RQ R S0 vt tb i D k f x bs Sl (k + 1) S1) (hQ : D.Pe < 24000) (hk : (D.I k).kd = 18 ∨ (D.I k).kd = 19) (hz : Zi S1 76 = Zi S 76) (e70 : Zi S1 70 = Zi S 70) (e3 : Zi S1 3 = Zi S 3) (er : Zr S1 = Zr S) : Rt (f_step_419 R.K S1 (nI k)) (fun S2 _ => RTt R S0 vt tb i D k f x bs Sl S S2) := by
  have h24 := h1.k24 hQ
  have hp := h1.pt.1
  have hp2 : iD0 (D.I k) ∧ ∃ (t j : Nat) (r : List tE), (t = 1 ∨ t = 2) ∧ D.st k = (0, t, 0) :: r ∧ (D.I k).sc = [k + 1, j] ∧ (D.Ps ≤ k + 1 ∧ k + 1 < D.Pe ∧ wkS r (D.st (k + 1))) ∧ (D.Ps ≤ j ∧ j < D.Pe ∧ wkS (D.st k) (D.st j)) := by
    unfold tPt at hp
    rcases hk with e | e
    · rw [e] at hp; exact hp
    · rw [e] at hp; exact hp
  obtain ⟨d0, t1, j, r, ht1, hs, hsc, ⟨_, _, hw1⟩, _, _, hw2⟩ := hp2
  have hkm : kdM (D.I k) := by
    rcases hk with e | e
    · exact kdM_k e (by decide)
    · exact kdM_k e (by decide)
  have hb := h1.sb
  have h73 := h1.2.2.2.1.2.1
  rw [hs, wl_00p] at h73
  rw [hs, wl_00p] at hb
  have hnt : nT (D.st k) := by rw [hs]; exact nT_c (pnE_k (Or.inl rfl))
  have h446 : ∀ (y0 : Int32) (v : Int64), Rt (f_step_446 R.K S1 (nI k) y0 v) (fun S2 _ => RTt R S0 vt tb i D k f x bs Sl S S2) := fun y0 v => by
    unfold f_step_446 f_step_590
    refine Rt.it (fun _ => ?_) (fun _ => ?_)
    · obtain ⟨j2, a1, _, a2⟩ := h1.r30 (Or.inr (Or.inr hk)) h24
      obtain rfl : j2 = j := by
        have := (a2 (by rcases hk with e | e <;> rw [e] <;> decide)).symm.trans hsc
        exact (List.cons.inj (List.cons.inj this).2).1
      refine Rt.bd a1 (Rt.bd (v := Ui S1 77 (nI j2)) rfl (Rt.rt ⟨h1.2.2.1.u77, Or.inr ⟨(Zi_n (by decide)).trans e3, (Zi_n (by decide)).trans e70, (h1.id0 hL (h1.ed (by rw [hsc]; exact List.mem_cons_of_mem _ (List.mem_singleton_self _))) hnt hw2 hkm d0.2.2.1 (Ui.sam9 (by decide) (by decide)) (fun _ _ => rfl) Zi_s ((Zi_n (by decide)).trans h1.2.2.2.1.2.1) rfl (Zi_n (by decide))).fr er hz⟩⟩))
    · rw [h73]
      refine Rt.bd (v := Ui S1 73 (nI (bs f + wl r))) (by rw [show nI (bs f + (wl r + 1)) - 1 = nI (bs f + wl r) from nI_pred _]; rfl) (Rt.rt ?_)
      have q1 : SO S1 (Ui S1 73 (nI (bs f + wl r))) := ⟨rfl, rfl, ⟨rfl, rfl⟩, rfl, rfl, fun _ _ => rfl, rfl, fun j hj => Zi_n hj⟩
      exact ⟨q1.rx h1.2.2.1, Or.inr ⟨(Zi_n (by decide)).trans e3, (Zi_n (by decide)).trans e70, (h1.op hL (h1.ed (by rw [hsc]; exact List.mem_cons_self ..)) (P := []) (Or.inl ⟨t1, ht1, hs⟩) (Or.inl rfl) hw1 hkm d0.2.2.1 q1.sam (fun _ _ => rfl) ((Zi_n (by decide)).trans h1.2.2.2.1.1) Zi_s rfl (Zi_n (by decide))).fr er hz⟩⟩
  unfold f_step_419
  rw [h73, show nI (bs f + (wl r + 1)) - 1 = nI (bs f + wl r) from nI_pred _]
  refine Rt.bd (rJ_n (show bs f + wl r < rlen 72 from by show _ < 20000; omega) (by decide)) (Rt.bd (rI_n (show k < rlen 27 from h24) (by decide)) (Rt.it (fun _ => h446 _ _) (fun _ => h446 _ _)))
theorem s_18 (hL : LFS R S0 g) (h : RQ R S0 vt tb i D k f x bs Sl k S) (hQ : D.Pe < 24000) (hk : (D.I k).kd = 18) : Rt (f_step R.K S) (fun S2 _ => RTt R S0 vt tb i D k f x bs Sl S S2) := stp_18 h hQ hk (fun S1 h1 e70 e3 er el => s_419 hL h1 hQ (Or.inl hk) (by rw [h1.2.2.2.1.2.2, h.2.2.2.1.2.2]) e70 e3 er)
theorem s_19 (hL : LFS R S0 g) (h : RQ R S0 vt tb i D k f x bs Sl k S) (hQ : D.Pe < 24000) (hk : (D.I k).kd = 19) : Rt (f_step R.K S) (fun S2 _ => RTt R S0 vt tb i D k f x bs Sl S S2) := stp_19 h hQ hk (fun S1 h1 e70 e3 er el => s_419 hL h1 hQ (Or.inr hk) (by rw [h1.2.2.2.1.2.2, h.2.2.2.1.2.2]) e70 e3 er)
end PS60
