/-- the running at the point k; nw: what is told as the next point -/
def RQ (R : yR) (S0 : Sg) (vt : Nat → Nat → Nat) (tb : Nat → lTb) (i : Nat) (D : fD) (k f : Nat) (x : Nat → kFm) (bs : Nat → Nat) (Sl : Sg) (nw : Nat) (S : Sg) : Prop := PK R S0 i D k ∧ rzq R S0 Sl k (D.I k) ∧ RX Sl S ∧ (Zi S 77 = nI nw ∧ Zi S 73 = nI (bs f + wl (D.st k)) ∧ Zi S 76 = nI (f + 1)) ∧ f < 60 ∧ atT R S0 i D k (x f) ∧ kT3 (yT R S0) (zN R S0) (szN R S0) vt tb f x bs S (D.st k) ∧ (∀ j : Nat, j ≤ f → wl (x j).2.1 ≤ 177) ∧ vt i = D.E.vt ∧ tb i = tbD D
section PS56
variable {R : yR} {S0 Sl S S2 : Sg} {D : fD} {i k f nw : Nat} {vt : Nat → Nat → Nat} {tb : Nat → lTb} {x : Nat → kFm} {bs : Nat → Nat}
theorem kT3.cg {y : qY} {zn sz : Nat → Nat} {s : List tE} (h : kT3 y zn sz vt tb f x bs S s) (e : sam S S2) (hs : ∀ q : Nat, q < bs f + wl (x f).2.1 → Zl S2 72 q = Zl S 72 q) : kT3 y zn sz vt tb f x bs S2 s := by
  obtain ⟨rt, V, C, L, H, fl, t, ⟨hJ, hN, hC, hF⟩, h3⟩ := h
  exact ⟨rt, V, C, L, H, fl, t, ⟨hJ, by rw [e.1, e.2.1]; exact hN.skc hs, by rw [e.2.2.1]; exact hC, e.fl hF⟩, h3⟩
/-- the number of the next point is told -/
theorem RQ.nx (h : RQ R S0 vt tb i D k f x bs Sl nw S) (v : Nat) : RQ R S0 vt tb i D k f x bs Sl v (Ui S 77 (nI v)) := by
  obtain ⟨h1, h2, h3, ⟨h4, h5, h6⟩, h7, h8, h9, h10⟩ := h
  refine ⟨h1, h2, h3.mk ⟨rfl, rfl, ⟨rfl, rfl⟩, rfl, rfl, fun _ _ => rfl, fun _ _ => rfl, fun j hj _ => Zi_n (by omega)⟩ (h3.2.1.eq (Zi_n (by decide)) (Zi_n (by decide))) (Zi_n (by decide)) (Zi_n (by decide)) ((Zi_n (by decide)).trans h3.2.2.2.2), ⟨Zi_s, (Zi_n (by decide)).trans h5, (Zi_n (by decide)).trans h6⟩, h7, h8, h9.cg ⟨rfl, rfl, rfl, Zi_n (by decide), Zi_n (by decide)⟩ (fun _ _ => rfl), h10⟩
theorem RQ.k24 (h : RQ R S0 vt tb i D k f x bs Sl nw S) (hQ : D.Pe < 24000) : k < 24000 := by have := h.1.2.1.2.1; omega
theorem stp_0 {Q : Sg → Unit → Prop} (hr : RQ R S0 vt tb i D k f x bs Sl k S) (hQ : D.Pe < 24000) (hk : (D.I k).kd = 0) (h : ∀ S1 : Sg, RQ R S0 vt tb i D k f x bs Sl (k + 1) S1 → Zi S1 70 = Zi S 70 → Zi S1 3 = Zi S 3 → Zr S1 = Zr S → Zl S1 = Zl S → Rt (bnd (f_burn R.K S1) fun S3 v4 =>
  f_step_590 R.K S3) Q) : Rt (f_step R.K S) Q := by
  have h24 := hr.k24 hQ
  have hq : Zr (Ui S 77 (nI (k + 1))) 27 k = nI 0 ∧ RQ R S0 vt tb i D k f x bs Sl (k + 1) (Ui S 77 (nI (k + 1))) := ⟨((congrFun (hr.2.2.1.1.2.2.2.2.2.1 27 (by decide)) k).trans hr.2.1.1).trans (congrArg nI hk), hr.nx (k + 1)⟩
  unfold f_step
  rw [hr.2.2.2.1.1]
  refine Rt.bd (v := Ui S 77 (nI (k + 1))) (by rw [nI_1]; rfl) (Rt.bd (v := nI 0) (by rw [rI_n (show k < rlen 27 from h24) (by decide), hq.1]) ?_)
  exact Rt.ip rfl (h _ hq.2 (Zi_n (by decide)) (Zi_n (by decide)) rfl rfl)
theorem stp_1 {Q : Sg → Unit → Prop} (hr : RQ R S0 vt tb i D k f x bs Sl k S) (hQ : D.Pe < 24000) (hk : (D.I k).kd = 1) (h : ∀ S1 : Sg, RQ R S0 vt tb i D k f x bs Sl (k + 1) S1 → Zi S1 70 = Zi S 70 → Zi S1 3 = Zi S 3 → Zr S1 = Zr S → Zl S1 = Zl S → Rt ((rJ S1 31 (nI k)).bind fun v5 =>
  bnd (f_push R.K S1 v5) fun S6 v7 =>
  f_step_590 R.K S6) Q) : Rt (f_step R.K S) Q := by
  have h24 := hr.k24 hQ
  have hq : Zr (Ui S 77 (nI (k + 1))) 27 k = nI 1 ∧ RQ R S0 vt tb i D k f x bs Sl (k + 1) (Ui S 77 (nI (k + 1))) := ⟨((congrFun (hr.2.2.1.1.2.2.2.2.2.1 27 (by decide)) k).trans hr.2.1.1).trans (congrArg nI hk), hr.nx (k + 1)⟩
  unfold f_step
  rw [hr.2.2.2.1.1]
  refine Rt.bd (v := Ui S 77 (nI (k + 1))) (by rw [nI_1]; rfl) (Rt.bd (v := nI 1) (by rw [rI_n (show k < rlen 27 from h24) (by decide), hq.1]) ?_)
  exact Rt.iq (by decide) (Rt.ip rfl (h _ hq.2 (Zi_n (by decide)) (Zi_n (by decide)) rfl rfl))
theorem stp_2 {Q : Sg → Unit → Prop} (hr : RQ R S0 vt tb i D k f x bs Sl k S) (hQ : D.Pe < 24000) (hk : (D.I k).kd = 2) (h : ∀ S1 : Sg, RQ R S0 vt tb i D k f x bs Sl (k + 1) S1 → Zi S1 70 = Zi S 70 → Zi S1 3 = Zi S 3 → Zr S1 = Zr S → Zl S1 = Zl S → Rt (bnd (f_runRead R.K S1 (nI k)) fun S8 v9 =>
  f_step_590 R.K S8) Q) : Rt (f_step R.K S) Q := by
  have h24 := hr.k24 hQ
  have hq : Zr (Ui S 77 (nI (k + 1))) 27 k = nI 2 ∧ RQ R S0 vt tb i D k f x bs Sl (k + 1) (Ui S 77 (nI (k + 1))) := ⟨((congrFun (hr.2.2.1.1.2.2.2.2.2.1 27 (by decide)) k).trans hr.2.1.1).trans (congrArg nI hk), hr.nx (k + 1)⟩
  unfold f_step
  rw [hr.2.2.2.1.1]
  refine Rt.bd (v := Ui S 77 (nI (k + 1))) (by rw [nI_1]; rfl) (Rt.bd (v := nI 2) (by rw [rI_n (show k < rlen 27 from h24) (by decide), hq.1]) ?_)
  exact Rt.iq (by decide) (Rt.iq (by decide) (Rt.ip rfl (h _ hq.2 (Zi_n (by decide)) (Zi_n (by decide)) rfl rfl)))
theorem stp_3 {Q : Sg → Unit → Prop} (hr : RQ R S0 vt tb i D k f x bs Sl k S) (hQ : D.Pe < 24000) (hk : (D.I k).kd = 3) (h : ∀ S1 : Sg, RQ R S0 vt tb i D k f x bs Sl (k + 1) S1 → Zi S1 70 = Zi S 70 → Zi S1 3 = Zi S 3 → Zr S1 = Zr S → Zl S1 = Zl S → Rt ((rQ S1 38 (nI k)).bind fun v10 =>
  (rQ S1 38 (nI k)).bind fun v11 =>
  (oI S1 18 v11 1).bind fun v12 =>
  bnd (f_find R.K S1 v10 v12) fun S13 v14 =>
  bnd (f_push R.K S13 (Int32.toInt64 v14)) fun S15 v16 =>
  f_step_590 R.K S15) Q) : Rt (f_step R.K S) Q := by
  have h24 := hr.k24 hQ
  have hq : Zr (Ui S 77 (nI (k + 1))) 27 k = nI 3 ∧ RQ R S0 vt tb i D k f x bs Sl (k + 1) (Ui S 77 (nI (k + 1))) := ⟨((congrFun (hr.2.2.1.1.2.2.2.2.2.1 27 (by decide)) k).trans hr.2.1.1).trans (congrArg nI hk), hr.nx (k + 1)⟩
  unfold f_step
  rw [hr.2.2.2.1.1]
  refine Rt.bd (v := Ui S 77 (nI (k + 1))) (by rw [nI_1]; rfl) (Rt.bd (v := nI 3) (by rw [rI_n (show k < rlen 27 from h24) (by decide), hq.1]) ?_)
  exact Rt.iq (by decide) (Rt.iq (by decide) (Rt.iq (by decide) (Rt.ip rfl (h _ hq.2 (Zi_n (by decide)) (Zi_n (by decide)) rfl rfl))))
theorem stp_4 {Q : Sg → Unit → Prop} (hr : RQ R S0 vt tb i D k f x bs Sl k S) (hQ : D.Pe < 24000) (hk : (D.I k).kd = 4) (h : ∀ S1 : Sg, RQ R S0 vt tb i D k f x bs Sl (k + 1) S1 → Zi S1 70 = Zi S 70 → Zi S1 3 = Zi S 3 → Zr S1 = Zr S → Zl S1 = Zl S → Rt ((rI S1 28 (nI k)).bind fun v17 =>
  bnd (f_runSign R.K S1 v17) fun S18 v19 =>
  f_step_590 R.K S18) Q) : Rt (f_step R.K S) Q := by
  have h24 := hr.k24 hQ
  have hq : Zr (Ui S 77 (nI (k + 1))) 27 k = nI 4 ∧ RQ R S0 vt tb i D k f x bs Sl (k + 1) (Ui S 77 (nI (k + 1))) := ⟨((congrFun (hr.2.2.1.1.2.2.2.2.2.1 27 (by decide)) k).trans hr.2.1.1).trans (congrArg nI hk), hr.nx (k + 1)⟩
  unfold f_step
  rw [hr.2.2.2.1.1]
  refine Rt.bd (v := Ui S 77 (nI (k + 1))) (by rw [nI_1]; rfl) (Rt.bd (v := nI 4) (by rw [rI_n (show k < rlen 27 from h24) (by decide), hq.1]) ?_)
  exact Rt.iq (by decide) (Rt.iq (by decide) (Rt.iq (by decide) (Rt.iq (by decide) (Rt.ip rfl (h _ hq.2 (Zi_n (by decide)) (Zi_n (by decide)) rfl rfl)))))
theorem stp_5 {Q : Sg → Unit → Prop} (hr : RQ R S0 vt tb i D k f x bs Sl k S) (hQ : D.Pe < 24000) (hk : (D.I k).kd = 5) (h : ∀ S1 : Sg, RQ R S0 vt tb i D k f x bs Sl (k + 1) S1 → Zi S1 70 = Zi S 70 → Zi S1 3 = Zi S 3 → Zr S1 = Zr S → Zl S1 = Zl S → Rt (bnd (f_pop R.K S1) fun S20 v21 =>
  bnd (f_push R.K S20 (1 - v21)) fun S22 v23 =>
  f_step_590 R.K S22) Q) : Rt (f_step R.K S) Q := by
  have h24 := hr.k24 hQ
  have hq : Zr (Ui S 77 (nI (k + 1))) 27 k = nI 5 ∧ RQ R S0 vt tb i D k f x bs Sl (k + 1) (Ui S 77 (nI (k + 1))) := ⟨((congrFun (hr.2.2.1.1.2.2.2.2.2.1 27 (by decide)) k).trans hr.2.1.1).trans (congrArg nI hk), hr.nx (k + 1)⟩
  unfold f_step
  rw [hr.2.2.2.1.1]
  refine Rt.bd (v := Ui S 77 (nI (k + 1))) (by rw [nI_1]; rfl) (Rt.bd (v := nI 5) (by rw [rI_n (show k < rlen 27 from h24) (by decide), hq.1]) ?_)
  exact Rt.iq (by decide) (Rt.iq (by decide) (Rt.iq (by decide) (Rt.iq (by decide) (Rt.iq (by decide) (Rt.ip rfl (h _ hq.2 (Zi_n (by decide)) (Zi_n (by decide)) rfl rfl))))))
theorem stp_6 {Q : Sg → Unit → Prop} (hr : RQ R S0 vt tb i D k f x bs Sl k S) (hQ : D.Pe < 24000) (hk : (D.I k).kd = 6) (h : ∀ S1 : Sg, RQ R S0 vt tb i D k f x bs Sl (k + 1) S1 → Zi S1 70 = Zi S 70 → Zi S1 3 = Zi S 3 → Zr S1 = Zr S → Zl S1 = Zl S → Rt (bnd (f_runMinus R.K S1) fun S24 v25 =>
  f_step_590 R.K S24) Q) : Rt (f_step R.K S) Q := by
  have h24 := hr.k24 hQ
  have hq : Zr (Ui S 77 (nI (k + 1))) 27 k = nI 6 ∧ RQ R S0 vt tb i D k f x bs Sl (k + 1) (Ui S 77 (nI (k + 1))) := ⟨((congrFun (hr.2.2.1.1.2.2.2.2.2.1 27 (by decide)) k).trans hr.2.1.1).trans (congrArg nI hk), hr.nx (k + 1)⟩
  unfold f_step
  rw [hr.2.2.2.1.1]
  refine Rt.bd (v := Ui S 77 (nI (k + 1))) (by rw [nI_1]; rfl) (Rt.bd (v := nI 6) (by rw [rI_n (show k < rlen 27 from h24) (by decide), hq.1]) ?_)
  exact Rt.iq (by decide) (Rt.iq (by decide) (Rt.iq (by decide) (Rt.iq (by decide) (Rt.iq (by decide) (Rt.iq (by decide) (Rt.ip rfl (h _ hq.2 (Zi_n (by decide)) (Zi_n (by decide)) rfl rfl)))))))
theorem stp_7 {Q : Sg → Unit → Prop} (hr : RQ R S0 vt tb i D k f x bs Sl k S) (hQ : D.Pe < 24000) (hk : (D.I k).kd = 7) (h : ∀ S1 : Sg, RQ R S0 vt tb i D k f x bs Sl (k + 1) S1 → Zi S1 70 = Zi S 70 → Zi S1 3 = Zi S 3 → Zr S1 = Zr S → Zl S1 = Zl S → Rt ((rQ S1 39 (nI k)).bind fun v26 =>
  bnd (f_boxUp R.K S1 v26) fun S27 v28 =>
  f_step_590 R.K S27) Q) : Rt (f_step R.K S) Q := by
  have h24 := hr.k24 hQ
  have hq : Zr (Ui S 77 (nI (k + 1))) 27 k = nI 7 ∧ RQ R S0 vt tb i D k f x bs Sl (k + 1) (Ui S 77 (nI (k + 1))) := ⟨((congrFun (hr.2.2.1.1.2.2.2.2.2.1 27 (by decide)) k).trans hr.2.1.1).trans (congrArg nI hk), hr.nx (k + 1)⟩
  unfold f_step
  rw [hr.2.2.2.1.1]
  refine Rt.bd (v := Ui S 77 (nI (k + 1))) (by rw [nI_1]; rfl) (Rt.bd (v := nI 7) (by rw [rI_n (show k < rlen 27 from h24) (by decide), hq.1]) ?_)
  exact Rt.iq (by decide) (Rt.iq (by decide) (Rt.iq (by decide) (Rt.iq (by decide) (Rt.iq (by decide) (Rt.iq (by decide) (Rt.iq (by decide) (Rt.ip rfl (h _ hq.2 (Zi_n (by decide)) (Zi_n (by decide)) rfl rfl))))))))
theorem stp_8 {Q : Sg → Unit → Prop} (hr : RQ R S0 vt tb i D k f x bs Sl k S) (hQ : D.Pe < 24000) (hk : (D.I k).kd = 8) (h : ∀ S1 : Sg, RQ R S0 vt tb i D k f x bs Sl (k + 1) S1 → Zi S1 70 = Zi S 70 → Zi S1 3 = Zi S 3 → Zr S1 = Zr S → Zl S1 = Zl S → Rt (f_step_260 R.K S1 (nI k)) Q) : Rt (f_step R.K S) Q := by
  have h24 := hr.k24 hQ
  have hq : Zr (Ui S 77 (nI (k + 1))) 27 k = nI 8 ∧ RQ R S0 vt tb i D k f x bs Sl (k + 1) (Ui S 77 (nI (k + 1))) := ⟨((congrFun (hr.2.2.1.1.2.2.2.2.2.1 27 (by decide)) k).trans hr.2.1.1).trans (congrArg nI hk), hr.nx (k + 1)⟩
  unfold f_step
  rw [hr.2.2.2.1.1]
  refine Rt.bd (v := Ui S 77 (nI (k + 1))) (by rw [nI_1]; rfl) (Rt.bd (v := nI 8) (by rw [rI_n (show k < rlen 27 from h24) (by decide), hq.1]) ?_)
  exact Rt.iq (by decide) (Rt.iq (by decide) (Rt.iq (by decide) (Rt.iq (by decide) (Rt.iq (by decide) (Rt.iq (by decide) (Rt.iq (by decide) (Rt.iq (by decide) (Rt.ip rfl (h _ hq.2 (Zi_n (by decide)) (Zi_n (by decide)) rfl rfl)))))))))
theorem stp_9 {Q : Sg → Unit → Prop} (hr : RQ R S0 vt tb i D k f x bs Sl k S) (hQ : D.Pe < 24000) (hk : (D.I k).kd = 9) (h : ∀ S1 : Sg, RQ R S0 vt tb i D k f x bs Sl (k + 1) S1 → Zi S1 70 = Zi S 70 → Zi S1 3 = Zi S 3 → Zr S1 = Zr S → Zl S1 = Zl S → Rt (f_step_260 R.K S1 (nI k)) Q) : Rt (f_step R.K S) Q := by
  have h24 := hr.k24 hQ
  have hq : Zr (Ui S 77 (nI (k + 1))) 27 k = nI 9 ∧ RQ R S0 vt tb i D k f x bs Sl (k + 1) (Ui S 77 (nI (k + 1))) := ⟨((congrFun (hr.2.2.1.1.2.2.2.2.2.1 27 (by decide)) k).trans hr.2.1.1).trans (congrArg nI hk), hr.nx (k + 1)⟩
  unfold f_step
  rw [hr.2.2.2.1.1]
  refine Rt.bd (v := Ui S 77 (nI (k + 1))) (by rw [nI_1]; rfl) (Rt.bd (v := nI 9) (by rw [rI_n (show k < rlen 27 from h24) (by decide), hq.1]) ?_)
  exact Rt.iq (by decide) (Rt.iq (by decide) (Rt.iq (by decide) (Rt.iq (by decide) (Rt.iq (by decide) (Rt.iq (by decide) (Rt.iq (by decide) (Rt.iq (by decide) (Rt.iq (by decide) (Rt.ip rfl (h _ hq.2 (Zi_n (by decide)) (Zi_n (by decide)) rfl rfl))))))))))
theorem stp_10 {Q : Sg → Unit → Prop} (hr : RQ R S0 vt tb i D k f x bs Sl k S) (hQ : D.Pe < 24000) (hk : (D.I k).kd = 10) (h : ∀ S1 : Sg, RQ R S0 vt tb i D k f x bs Sl (k + 1) S1 → Zi S1 70 = Zi S 70 → Zi S1 3 = Zi S 3 → Zr S1 = Zr S → Zl S1 = Zl S → Rt (bnd (f_runCall R.K S1 (nI k)) fun S29 v30 =>
  f_step_590 R.K S29) Q) : Rt (f_step R.K S) Q := by
  have h24 := hr.k24 hQ
  have hq : Zr (Ui S 77 (nI (k + 1))) 27 k = nI 10 ∧ RQ R S0 vt tb i D k f x bs Sl (k + 1) (Ui S 77 (nI (k + 1))) := ⟨((congrFun (hr.2.2.1.1.2.2.2.2.2.1 27 (by decide)) k).trans hr.2.1.1).trans (congrArg nI hk), hr.nx (k + 1)⟩
  unfold f_step
  rw [hr.2.2.2.1.1]
  refine Rt.bd (v := Ui S 77 (nI (k + 1))) (by rw [nI_1]; rfl) (Rt.bd (v := nI 10) (by rw [rI_n (show k < rlen 27 from h24) (by decide), hq.1]) ?_)
  exact Rt.iq (by decide) (Rt.iq (by decide) (Rt.iq (by decide) (Rt.iq (by decide) (Rt.iq (by decide) (Rt.iq (by decide) (Rt.iq (by decide) (Rt.iq (by decide) (Rt.iq (by decide) (Rt.iq (by decide) (Rt.ip rfl (h _ hq.2 (Zi_n (by decide)) (Zi_n (by decide)) rfl rfl)))))))))))
theorem stp_11 {Q : Sg → Unit → Prop} (hr : RQ R S0 vt tb i D k f x bs Sl k S) (hQ : D.Pe < 24000) (hk : (D.I k).kd = 11) (h : ∀ S1 : Sg, RQ R S0 vt tb i D k f x bs Sl (k + 1) S1 → Zi S1 70 = Zi S 70 → Zi S1 3 = Zi S 3 → Zr S1 = Zr S → Zl S1 = Zl S → Rt ((rQ S1 39 (nI k)).bind fun v31 =>
  bnd (f_pop R.K S1) fun S32 v33 =>
  bnd (f_dropValue R.K S32 v31 v33) fun S34 v35 =>
  bnd (f_doAll R.K S34) fun S36 v37 =>
  f_step_590 R.K S36) Q) : Rt (f_step R.K S) Q := by
  have h24 := hr.k24 hQ
  have hq : Zr (Ui S 77 (nI (k + 1))) 27 k = nI 11 ∧ RQ R S0 vt tb i D k f x bs Sl (k + 1) (Ui S 77 (nI (k + 1))) := ⟨((congrFun (hr.2.2.1.1.2.2.2.2.2.1 27 (by decide)) k).trans hr.2.1.1).trans (congrArg nI hk), hr.nx (k + 1)⟩
  unfold f_step
  rw [hr.2.2.2.1.1]
  refine Rt.bd (v := Ui S 77 (nI (k + 1))) (by rw [nI_1]; rfl) (Rt.bd (v := nI 11) (by rw [rI_n (show k < rlen 27 from h24) (by decide), hq.1]) ?_)
  exact Rt.iq (by decide) (Rt.iq (by decide) (Rt.iq (by decide) (Rt.iq (by decide) (Rt.iq (by decide) (Rt.iq (by decide) (Rt.iq (by decide) (Rt.iq (by decide) (Rt.iq (by decide) (Rt.iq (by decide) (Rt.iq (by decide) (Rt.ip rfl (h _ hq.2 (Zi_n (by decide)) (Zi_n (by decide)) rfl rfl))))))))))))
theorem stp_12 {Q : Sg → Unit → Prop} (hr : RQ R S0 vt tb i D k f x bs Sl k S) (hQ : D.Pe < 24000) (hk : (D.I k).kd = 12) (h : ∀ S1 : Sg, RQ R S0 vt tb i D k f x bs Sl (k + 1) S1 → Zi S1 70 = Zi S 70 → Zi S1 3 = Zi S 3 → Zr S1 = Zr S → Zl S1 = Zl S → Rt ((rQ S1 40 (nI k)).bind fun v38 =>
  bnd (f_slot R.K S1 v38) fun S39 v40 =>
  (rQ S39 40 (nI k)).bind fun v41 =>
  (oR S39 21 v41 2).bind fun v42 =>
  bnd (f_pop R.K S39) fun S43 v44 =>
  bnd (f_freshPlace R.K S43 v42 v44) fun S45 v46 =>
  (wRI S45 74 v40 v46).bind fun S47 =>
  f_step_590 R.K S47) Q) : Rt (f_step R.K S) Q := by
  have h24 := hr.k24 hQ
  have hq : Zr (Ui S 77 (nI (k + 1))) 27 k = nI 12 ∧ RQ R S0 vt tb i D k f x bs Sl (k + 1) (Ui S 77 (nI (k + 1))) := ⟨((congrFun (hr.2.2.1.1.2.2.2.2.2.1 27 (by decide)) k).trans hr.2.1.1).trans (congrArg nI hk), hr.nx (k + 1)⟩
  unfold f_step
  rw [hr.2.2.2.1.1]
  refine Rt.bd (v := Ui S 77 (nI (k + 1))) (by rw [nI_1]; rfl) (Rt.bd (v := nI 12) (by rw [rI_n (show k < rlen 27 from h24) (by decide), hq.1]) ?_)
  exact Rt.iq (by decide) (Rt.iq (by decide) (Rt.iq (by decide) (Rt.iq (by decide) (Rt.iq (by decide) (Rt.iq (by decide) (Rt.iq (by decide) (Rt.iq (by decide) (Rt.iq (by decide) (Rt.iq (by decide) (Rt.iq (by decide) (Rt.iq (by decide) (Rt.ip rfl (h _ hq.2 (Zi_n (by decide)) (Zi_n (by decide)) rfl rfl)))))))))))))
theorem stp_13 {Q : Sg → Unit → Prop} (hr : RQ R S0 vt tb i D k f x bs Sl k S) (hQ : D.Pe < 24000) (hk : (D.I k).kd = 13) (h : ∀ S1 : Sg, RQ R S0 vt tb i D k f x bs Sl (k + 1) S1 → Zi S1 70 = Zi S 70 → Zi S1 3 = Zi S 3 → Zr S1 = Zr S → Zl S1 = Zl S → Rt ((rQ S1 40 (nI k)).bind fun v48 =>
  bnd (f_slot R.K S1 v48) fun S49 v50 =>
  (rQ S49 40 (nI k)).bind fun v51 =>
  (oR S49 21 v51 2).bind fun v52 =>
  bnd (f_newPlace R.K S49 v52) fun S53 v54 =>
  (wRI S53 74 v50 v54).bind fun S55 =>
  f_step_590 R.K S55) Q) : Rt (f_step R.K S) Q := by
  have h24 := hr.k24 hQ
  have hq : Zr (Ui S 77 (nI (k + 1))) 27 k = nI 13 ∧ RQ R S0 vt tb i D k f x bs Sl (k + 1) (Ui S 77 (nI (k + 1))) := ⟨((congrFun (hr.2.2.1.1.2.2.2.2.2.1 27 (by decide)) k).trans hr.2.1.1).trans (congrArg nI hk), hr.nx (k + 1)⟩
  unfold f_step
  rw [hr.2.2.2.1.1]
  refine Rt.bd (v := Ui S 77 (nI (k + 1))) (by rw [nI_1]; rfl) (Rt.bd (v := nI 13) (by rw [rI_n (show k < rlen 27 from h24) (by decide), hq.1]) ?_)
  exact Rt.iq (by decide) (Rt.iq (by decide) (Rt.iq (by decide) (Rt.iq (by decide) (Rt.iq (by decide) (Rt.iq (by decide) (Rt.iq (by decide) (Rt.iq (by decide) (Rt.iq (by decide) (Rt.iq (by decide) (Rt.iq (by decide) (Rt.iq (by decide) (Rt.iq (by decide) (Rt.ip rfl (h _ hq.2 (Zi_n (by decide)) (Zi_n (by decide)) rfl rfl))))))))))))))
theorem stp_14 {Q : Sg → Unit → Prop} (hr : RQ R S0 vt tb i D k f x bs Sl k S) (hQ : D.Pe < 24000) (hk : (D.I k).kd = 14) (h : ∀ S1 : Sg, RQ R S0 vt tb i D k f x bs Sl (k + 1) S1 → Zi S1 70 = Zi S 70 → Zi S1 3 = Zi S 3 → Zr S1 = Zr S → Zl S1 = Zl S → Rt (bnd (f_runAssign R.K S1 (nI k)) fun S56 v57 =>
  f_step_590 R.K S56) Q) : Rt (f_step R.K S) Q := by
  have h24 := hr.k24 hQ
  have hq : Zr (Ui S 77 (nI (k + 1))) 27 k = nI 14 ∧ RQ R S0 vt tb i D k f x bs Sl (k + 1) (Ui S 77 (nI (k + 1))) := ⟨((congrFun (hr.2.2.1.1.2.2.2.2.2.1 27 (by decide)) k).trans hr.2.1.1).trans (congrArg nI hk), hr.nx (k + 1)⟩
  unfold f_step
  rw [hr.2.2.2.1.1]
  refine Rt.bd (v := Ui S 77 (nI (k + 1))) (by rw [nI_1]; rfl) (Rt.bd (v := nI 14) (by rw [rI_n (show k < rlen 27 from h24) (by decide), hq.1]) ?_)
  exact Rt.iq (by decide) (Rt.iq (by decide) (Rt.iq (by decide) (Rt.iq (by decide) (Rt.iq (by decide) (Rt.iq (by decide) (Rt.iq (by decide) (Rt.iq (by decide) (Rt.iq (by decide) (Rt.iq (by decide) (Rt.iq (by decide) (Rt.iq (by decide) (Rt.iq (by decide) (Rt.iq (by decide) (Rt.ip rfl (h _ hq.2 (Zi_n (by decide)) (Zi_n (by decide)) rfl rfl)))))))))))))))
theorem stp_15 {Q : Sg → Unit → Prop} (hr : RQ R S0 vt tb i D k f x bs Sl k S) (hQ : D.Pe < 24000) (hk : (D.I k).kd = 15) (h : ∀ S1 : Sg, RQ R S0 vt tb i D k f x bs Sl (k + 1) S1 → Zi S1 70 = Zi S 70 → Zi S1 3 = Zi S 3 → Zr S1 = Zr S → Zl S1 = Zl S → Rt ((rQ S1 39 (nI k)).bind fun v58 =>
  bnd (f_runPrint R.K S1 v58) fun S59 v60 =>
  f_step_590 R.K S59) Q) : Rt (f_step R.K S) Q := by
  have h24 := hr.k24 hQ
  have hq : Zr (Ui S 77 (nI (k + 1))) 27 k = nI 15 ∧ RQ R S0 vt tb i D k f x bs Sl (k + 1) (Ui S 77 (nI (k + 1))) := ⟨((congrFun (hr.2.2.1.1.2.2.2.2.2.1 27 (by decide)) k).trans hr.2.1.1).trans (congrArg nI hk), hr.nx (k + 1)⟩
  unfold f_step
  rw [hr.2.2.2.1.1]
  refine Rt.bd (v := Ui S 77 (nI (k + 1))) (by rw [nI_1]; rfl) (Rt.bd (v := nI 15) (by rw [rI_n (show k < rlen 27 from h24) (by decide), hq.1]) ?_)
  exact Rt.iq (by decide) (Rt.iq (by decide) (Rt.iq (by decide) (Rt.iq (by decide) (Rt.iq (by decide) (Rt.iq (by decide) (Rt.iq (by decide) (Rt.iq (by decide) (Rt.iq (by decide) (Rt.iq (by decide) (Rt.iq (by decide) (Rt.iq (by decide) (Rt.iq (by decide) (Rt.iq (by decide) (Rt.iq (by decide) (Rt.ip rfl (h _ hq.2 (Zi_n (by decide)) (Zi_n (by decide)) rfl rfl))))))))))))))))
theorem stp_16 {Q : Sg → Unit → Prop} (hr : RQ R S0 vt tb i D k f x bs Sl k S) (hQ : D.Pe < 24000) (hk : (D.I k).kd = 16) (h : ∀ S1 : Sg, RQ R S0 vt tb i D k f x bs Sl (k + 1) S1 → Zi S1 70 = Zi S 70 → Zi S1 3 = Zi S 3 → Zr S1 = Zr S → Zl S1 = Zl S → Rt ((rI S1 30 (nI k)).bind fun v61 =>
  (pM S1 77 v61).bind fun S62 =>
  f_step_590 R.K S62) Q) : Rt (f_step R.K S) Q := by
  have h24 := hr.k24 hQ
  have hq : Zr (Ui S 77 (nI (k + 1))) 27 k = nI 16 ∧ RQ R S0 vt tb i D k f x bs Sl (k + 1) (Ui S 77 (nI (k + 1))) := ⟨((congrFun (hr.2.2.1.1.2.2.2.2.2.1 27 (by decide)) k).trans hr.2.1.1).trans (congrArg nI hk), hr.nx (k + 1)⟩
  unfold f_step
  rw [hr.2.2.2.1.1]
  refine Rt.bd (v := Ui S 77 (nI (k + 1))) (by rw [nI_1]; rfl) (Rt.bd (v := nI 16) (by rw [rI_n (show k < rlen 27 from h24) (by decide), hq.1]) ?_)
  exact Rt.iq (by decide) (Rt.iq (by decide) (Rt.iq (by decide) (Rt.iq (by decide) (Rt.iq (by decide) (Rt.iq (by decide) (Rt.iq (by decide) (Rt.iq (by decide) (Rt.iq (by decide) (Rt.iq (by decide) (Rt.iq (by decide) (Rt.iq (by decide) (Rt.iq (by decide) (Rt.iq (by decide) (Rt.iq (by decide) (Rt.iq (by decide) (Rt.ip rfl (h _ hq.2 (Zi_n (by decide)) (Zi_n (by decide)) rfl rfl)))))))))))))))))
theorem stp_17 {Q : Sg → Unit → Prop} (hr : RQ R S0 vt tb i D k f x bs Sl k S) (hQ : D.Pe < 24000) (hk : (D.I k).kd = 17) (h : ∀ S1 : Sg, RQ R S0 vt tb i D k f x bs Sl (k + 1) S1 → Zi S1 70 = Zi S 70 → Zi S1 3 = Zi S 3 → Zr S1 = Zr S → Zl S1 = Zl S → Rt (bnd (f_pop R.K S1) fun S63 v64 =>
  if (lg_cmp v64 0) = 0 then ((rI S63 30 (nI k)).bind fun v65 =>
  (pM S63 77 v65).bind fun S66 =>
  f_step_590 R.K S66) else (f_step_590 R.K S63)) Q) : Rt (f_step R.K S) Q := by
  have h24 := hr.k24 hQ
  have hq : Zr (Ui S 77 (nI (k + 1))) 27 k = nI 17 ∧ RQ R S0 vt tb i D k f x bs Sl (k + 1) (Ui S 77 (nI (k + 1))) := ⟨((congrFun (hr.2.2.1.1.2.2.2.2.2.1 27 (by decide)) k).trans hr.2.1.1).trans (congrArg nI hk), hr.nx (k + 1)⟩
  unfold f_step
  rw [hr.2.2.2.1.1]
  refine Rt.bd (v := Ui S 77 (nI (k + 1))) (by rw [nI_1]; rfl) (Rt.bd (v := nI 17) (by rw [rI_n (show k < rlen 27 from h24) (by decide), hq.1]) ?_)
  exact Rt.iq (by decide) (Rt.iq (by decide) (Rt.iq (by decide) (Rt.iq (by decide) (Rt.iq (by decide) (Rt.iq (by decide) (Rt.iq (by decide) (Rt.iq (by decide) (Rt.iq (by decide) (Rt.iq (by decide) (Rt.iq (by decide) (Rt.iq (by decide) (Rt.iq (by decide) (Rt.iq (by decide) (Rt.iq (by decide) (Rt.iq (by decide) (Rt.iq (by decide) (Rt.ip rfl (h _ hq.2 (Zi_n (by decide)) (Zi_n (by decide)) rfl rfl))))))))))))))))))
theorem stp_18 {Q : Sg → Unit → Prop} (hr : RQ R S0 vt tb i D k f x bs Sl k S) (hQ : D.Pe < 24000) (hk : (D.I k).kd = 18) (h : ∀ S1 : Sg, RQ R S0 vt tb i D k f x bs Sl (k + 1) S1 → Zi S1 70 = Zi S 70 → Zi S1 3 = Zi S 3 → Zr S1 = Zr S → Zl S1 = Zl S → Rt (f_step_419 R.K S1 (nI k)) Q) : Rt (f_step R.K S) Q := by
  have h24 := hr.k24 hQ
  have hq : Zr (Ui S 77 (nI (k + 1))) 27 k = nI 18 ∧ RQ R S0 vt tb i D k f x bs Sl (k + 1) (Ui S 77 (nI (k + 1))) := ⟨((congrFun (hr.2.2.1.1.2.2.2.2.2.1 27 (by decide)) k).trans hr.2.1.1).trans (congrArg nI hk), hr.nx (k + 1)⟩
  unfold f_step
  rw [hr.2.2.2.1.1]
  refine Rt.bd (v := Ui S 77 (nI (k + 1))) (by rw [nI_1]; rfl) (Rt.bd (v := nI 18) (by rw [rI_n (show k < rlen 27 from h24) (by decide), hq.1]) ?_)
  exact Rt.iq (by decide) (Rt.iq (by decide) (Rt.iq (by decide) (Rt.iq (by decide) (Rt.iq (by decide) (Rt.iq (by decide) (Rt.iq (by decide) (Rt.iq (by decide) (Rt.iq (by decide) (Rt.iq (by decide) (Rt.iq (by decide) (Rt.iq (by decide) (Rt.iq (by decide) (Rt.iq (by decide) (Rt.iq (by decide) (Rt.iq (by decide) (Rt.iq (by decide) (Rt.iq (by decide) (Rt.ip rfl (h _ hq.2 (Zi_n (by decide)) (Zi_n (by decide)) rfl rfl)))))))))))))))))))
theorem stp_19 {Q : Sg → Unit → Prop} (hr : RQ R S0 vt tb i D k f x bs Sl k S) (hQ : D.Pe < 24000) (hk : (D.I k).kd = 19) (h : ∀ S1 : Sg, RQ R S0 vt tb i D k f x bs Sl (k + 1) S1 → Zi S1 70 = Zi S 70 → Zi S1 3 = Zi S 3 → Zr S1 = Zr S → Zl S1 = Zl S → Rt (f_step_419 R.K S1 (nI k)) Q) : Rt (f_step R.K S) Q := by
  have h24 := hr.k24 hQ
  have hq : Zr (Ui S 77 (nI (k + 1))) 27 k = nI 19 ∧ RQ R S0 vt tb i D k f x bs Sl (k + 1) (Ui S 77 (nI (k + 1))) := ⟨((congrFun (hr.2.2.1.1.2.2.2.2.2.1 27 (by decide)) k).trans hr.2.1.1).trans (congrArg nI hk), hr.nx (k + 1)⟩
  unfold f_step
  rw [hr.2.2.2.1.1]
  refine Rt.bd (v := Ui S 77 (nI (k + 1))) (by rw [nI_1]; rfl) (Rt.bd (v := nI 19) (by rw [rI_n (show k < rlen 27 from h24) (by decide), hq.1]) ?_)
  exact Rt.iq (by decide) (Rt.iq (by decide) (Rt.iq (by decide) (Rt.iq (by decide) (Rt.iq (by decide) (Rt.iq (by decide) (Rt.iq (by decide) (Rt.iq (by decide) (Rt.iq (by decide) (Rt.iq (by decide) (Rt.iq (by decide) (Rt.iq (by decide) (Rt.iq (by decide) (Rt.iq (by decide) (Rt.iq (by decide) (Rt.iq (by decide) (Rt.iq (by decide) (Rt.iq (by decide) (Rt.iq (by decide) (Rt.ip rfl (h _ hq.2 (Zi_n (by decide)) (Zi_n (by decide)) rfl rfl))))))))))))))))))))
theorem stp_20 {Q : Sg → Unit → Prop} (hr : RQ R S0 vt tb i D k f x bs Sl k S) (hQ : D.Pe < 24000) (hk : (D.I k).kd = 20) (h : ∀ S1 : Sg, RQ R S0 vt tb i D k f x bs Sl (k + 1) S1 → Zi S1 70 = Zi S 70 → Zi S1 3 = Zi S 3 → Zr S1 = Zr S → Zl S1 = Zl S → Rt (f_step_477 R.K S1 (nI k)) Q) : Rt (f_step R.K S) Q := by
  have h24 := hr.k24 hQ
  have hq : Zr (Ui S 77 (nI (k + 1))) 27 k = nI 20 ∧ RQ R S0 vt tb i D k f x bs Sl (k + 1) (Ui S 77 (nI (k + 1))) := ⟨((congrFun (hr.2.2.1.1.2.2.2.2.2.1 27 (by decide)) k).trans hr.2.1.1).trans (congrArg nI hk), hr.nx (k + 1)⟩
  unfold f_step
  rw [hr.2.2.2.1.1]
  refine Rt.bd (v := Ui S 77 (nI (k + 1))) (by rw [nI_1]; rfl) (Rt.bd (v := nI 20) (by rw [rI_n (show k < rlen 27 from h24) (by decide), hq.1]) ?_)
  exact Rt.iq (by decide) (Rt.iq (by decide) (Rt.iq (by decide) (Rt.iq (by decide) (Rt.iq (by decide) (Rt.iq (by decide) (Rt.iq (by decide) (Rt.iq (by decide) (Rt.iq (by decide) (Rt.iq (by decide) (Rt.iq (by decide) (Rt.iq (by decide) (Rt.iq (by decide) (Rt.iq (by decide) (Rt.iq (by decide) (Rt.iq (by decide) (Rt.iq (by decide) (Rt.iq (by decide) (Rt.iq (by decide) (Rt.iq (by decide) (Rt.ip rfl (h _ hq.2 (Zi_n (by decide)) (Zi_n (by decide)) rfl rfl)))))))))))))))))))))
theorem stp_21 {Q : Sg → Unit → Prop} (hr : RQ R S0 vt tb i D k f x bs Sl k S) (hQ : D.Pe < 24000) (hk : (D.I k).kd = 21) (h : ∀ S1 : Sg, RQ R S0 vt tb i D k f x bs Sl (k + 1) S1 → Zi S1 70 = Zi S 70 → Zi S1 3 = Zi S 3 → Zr S1 = Zr S → Zl S1 = Zl S → Rt (f_step_477 R.K S1 (nI k)) Q) : Rt (f_step R.K S) Q := by
  have h24 := hr.k24 hQ
  have hq : Zr (Ui S 77 (nI (k + 1))) 27 k = nI 21 ∧ RQ R S0 vt tb i D k f x bs Sl (k + 1) (Ui S 77 (nI (k + 1))) := ⟨((congrFun (hr.2.2.1.1.2.2.2.2.2.1 27 (by decide)) k).trans hr.2.1.1).trans (congrArg nI hk), hr.nx (k + 1)⟩
  unfold f_step
  rw [hr.2.2.2.1.1]
  refine Rt.bd (v := Ui S 77 (nI (k + 1))) (by rw [nI_1]; rfl) (Rt.bd (v := nI 21) (by rw [rI_n (show k < rlen 27 from h24) (by decide), hq.1]) ?_)
  exact Rt.iq (by decide) (Rt.iq (by decide) (Rt.iq (by decide) (Rt.iq (by decide) (Rt.iq (by decide) (Rt.iq (by decide) (Rt.iq (by decide) (Rt.iq (by decide) (Rt.iq (by decide) (Rt.iq (by decide) (Rt.iq (by decide) (Rt.iq (by decide) (Rt.iq (by decide) (Rt.iq (by decide) (Rt.iq (by decide) (Rt.iq (by decide) (Rt.iq (by decide) (Rt.iq (by decide) (Rt.iq (by decide) (Rt.iq (by decide) (Rt.iq (by decide) (Rt.ip rfl (h _ hq.2 (Zi_n (by decide)) (Zi_n (by decide)) rfl rfl))))))))))))))))))))))
theorem stp_22 {Q : Sg → Unit → Prop} (hr : RQ R S0 vt tb i D k f x bs Sl k S) (hQ : D.Pe < 24000) (hk : (D.I k).kd = 22) (h : ∀ S1 : Sg, RQ R S0 vt tb i D k f x bs Sl (k + 1) S1 → Zi S1 70 = Zi S 70 → Zi S1 3 = Zi S 3 → Zr S1 = Zr S → Zl S1 = Zl S → Rt ((rQ S1 41 (nI k)).bind fun v67 =>
  bnd (f_runBind R.K S1 v67) fun S68 v69 =>
  f_step_590 R.K S68) Q) : Rt (f_step R.K S) Q := by
  have h24 := hr.k24 hQ
  have hq : Zr (Ui S 77 (nI (k + 1))) 27 k = nI 22 ∧ RQ R S0 vt tb i D k f x bs Sl (k + 1) (Ui S 77 (nI (k + 1))) := ⟨((congrFun (hr.2.2.1.1.2.2.2.2.2.1 27 (by decide)) k).trans hr.2.1.1).trans (congrArg nI hk), hr.nx (k + 1)⟩
  unfold f_step
  rw [hr.2.2.2.1.1]
  refine Rt.bd (v := Ui S 77 (nI (k + 1))) (by rw [nI_1]; rfl) (Rt.bd (v := nI 22) (by rw [rI_n (show k < rlen 27 from h24) (by decide), hq.1]) ?_)
  exact Rt.iq (by decide) (Rt.iq (by decide) (Rt.iq (by decide) (Rt.iq (by decide) (Rt.iq (by decide) (Rt.iq (by decide) (Rt.iq (by decide) (Rt.iq (by decide) (Rt.iq (by decide) (Rt.iq (by decide) (Rt.iq (by decide) (Rt.iq (by decide) (Rt.iq (by decide) (Rt.iq (by decide) (Rt.iq (by decide) (Rt.iq (by decide) (Rt.iq (by decide) (Rt.iq (by decide) (Rt.iq (by decide) (Rt.iq (by decide) (Rt.iq (by decide) (Rt.iq (by decide) (Rt.ip rfl (h _ hq.2 (Zi_n (by decide)) (Zi_n (by decide)) rfl rfl)))))))))))))))))))))))
theorem stp_23 {Q : Sg → Unit → Prop} (hr : RQ R S0 vt tb i D k f x bs Sl k S) (hQ : D.Pe < 24000) (hk : (D.I k).kd = 23) (h : ∀ S1 : Sg, RQ R S0 vt tb i D k f x bs Sl (k + 1) S1 → Zi S1 70 = Zi S 70 → Zi S1 3 = Zi S 3 → Zr S1 = Zr S → Zl S1 = Zl S → Rt ((rQ S1 40 (nI k)).bind fun v70 =>
  bnd (f_slot R.K S1 v70) fun S71 v72 =>
  (rQ S71 38 (nI k)).bind fun v73 =>
  (rQ S71 38 (nI k)).bind fun v74 =>
  (oI S71 18 v74 1).bind fun v75 =>
  bnd (f_find R.K S71 v73 v75) fun S76 v77 =>
  bnd (f_leaf R.K S76 (Int32.toInt64 v77)) fun S78 v79 =>
  (wRI S78 74 v72 v79).bind fun S80 =>
  f_step_590 R.K S80) Q) : Rt (f_step R.K S) Q := by
  have h24 := hr.k24 hQ
  have hq : Zr (Ui S 77 (nI (k + 1))) 27 k = nI 23 ∧ RQ R S0 vt tb i D k f x bs Sl (k + 1) (Ui S 77 (nI (k + 1))) := ⟨((congrFun (hr.2.2.1.1.2.2.2.2.2.1 27 (by decide)) k).trans hr.2.1.1).trans (congrArg nI hk), hr.nx (k + 1)⟩
  unfold f_step
  rw [hr.2.2.2.1.1]
  refine Rt.bd (v := Ui S 77 (nI (k + 1))) (by rw [nI_1]; rfl) (Rt.bd (v := nI 23) (by rw [rI_n (show k < rlen 27 from h24) (by decide), hq.1]) ?_)
  exact Rt.iq (by decide) (Rt.iq (by decide) (Rt.iq (by decide) (Rt.iq (by decide) (Rt.iq (by decide) (Rt.iq (by decide) (Rt.iq (by decide) (Rt.iq (by decide) (Rt.iq (by decide) (Rt.iq (by decide) (Rt.iq (by decide) (Rt.iq (by decide) (Rt.iq (by decide) (Rt.iq (by decide) (Rt.iq (by decide) (Rt.iq (by decide) (Rt.iq (by decide) (Rt.iq (by decide) (Rt.iq (by decide) (Rt.iq (by decide) (Rt.iq (by decide) (Rt.iq (by decide) (Rt.iq (by decide) (Rt.ip rfl (h _ hq.2 (Zi_n (by decide)) (Zi_n (by decide)) rfl rfl))))))))))))))))))))))))
theorem stp_24 {Q : Sg → Unit → Prop} (hr : RQ R S0 vt tb i D k f x bs Sl k S) (hQ : D.Pe < 24000) (hk : (D.I k).kd = 24) (h : ∀ S1 : Sg, RQ R S0 vt tb i D k f x bs Sl (k + 1) S1 → Zi S1 70 = Zi S 70 → Zi S1 3 = Zi S 3 → Zr S1 = Zr S → Zl S1 = Zl S → Rt ((rQ S1 40 (nI k)).bind fun v81 =>
  bnd (f_runOut R.K S1 v81) fun S82 v83 =>
  f_step_590 R.K S82) Q) : Rt (f_step R.K S) Q := by
  have h24 := hr.k24 hQ
  have hq : Zr (Ui S 77 (nI (k + 1))) 27 k = nI 24 ∧ RQ R S0 vt tb i D k f x bs Sl (k + 1) (Ui S 77 (nI (k + 1))) := ⟨((congrFun (hr.2.2.1.1.2.2.2.2.2.1 27 (by decide)) k).trans hr.2.1.1).trans (congrArg nI hk), hr.nx (k + 1)⟩
  unfold f_step
  rw [hr.2.2.2.1.1]
  refine Rt.bd (v := Ui S 77 (nI (k + 1))) (by rw [nI_1]; rfl) (Rt.bd (v := nI 24) (by rw [rI_n (show k < rlen 27 from h24) (by decide), hq.1]) ?_)
  exact Rt.iq (by decide) (Rt.iq (by decide) (Rt.iq (by decide) (Rt.iq (by decide) (Rt.iq (by decide) (Rt.iq (by decide) (Rt.iq (by decide) (Rt.iq (by decide) (Rt.iq (by decide) (Rt.iq (by decide) (Rt.iq (by decide) (Rt.iq (by decide) (Rt.iq (by decide) (Rt.iq (by decide) (Rt.iq (by decide) (Rt.iq (by decide) (Rt.iq (by decide) (Rt.iq (by decide) (Rt.iq (by decide) (Rt.iq (by decide) (Rt.iq (by decide) (Rt.iq (by decide) (Rt.iq (by decide) (Rt.iq (by decide) (Rt.ip rfl (h _ hq.2 (Zi_n (by decide)) (Zi_n (by decide)) rfl rfl)))))))))))))))))))))))))
theorem stp_25 {Q : Sg → Unit → Prop} (hr : RQ R S0 vt tb i D k f x bs Sl k S) (hQ : D.Pe < 24000) (hk : (D.I k).kd = 25) (h : ∀ S1 : Sg, RQ R S0 vt tb i D k f x bs Sl (k + 1) S1 → Zi S1 70 = Zi S 70 → Zi S1 3 = Zi S 3 → Zr S1 = Zr S → Zl S1 = Zl S → Rt (f_step_590 R.K S1) Q) : Rt (f_step R.K S) Q := by
  have h24 := hr.k24 hQ
  have hq : Zr (Ui S 77 (nI (k + 1))) 27 k = nI 25 ∧ RQ R S0 vt tb i D k f x bs Sl (k + 1) (Ui S 77 (nI (k + 1))) := ⟨((congrFun (hr.2.2.1.1.2.2.2.2.2.1 27 (by decide)) k).trans hr.2.1.1).trans (congrArg nI hk), hr.nx (k + 1)⟩
  unfold f_step
  rw [hr.2.2.2.1.1]
  refine Rt.bd (v := Ui S 77 (nI (k + 1))) (by rw [nI_1]; rfl) (Rt.bd (v := nI 25) (by rw [rI_n (show k < rlen 27 from h24) (by decide), hq.1]) ?_)
  exact Rt.iq (by decide) (Rt.iq (by decide) (Rt.iq (by decide) (Rt.iq (by decide) (Rt.iq (by decide) (Rt.iq (by decide) (Rt.iq (by decide) (Rt.iq (by decide) (Rt.iq (by decide) (Rt.iq (by decide) (Rt.iq (by decide) (Rt.iq (by decide) (Rt.iq (by decide) (Rt.iq (by decide) (Rt.iq (by decide) (Rt.iq (by decide) (Rt.iq (by decide) (Rt.iq (by decide) (Rt.iq (by decide) (Rt.iq (by decide) (Rt.iq (by decide) (Rt.iq (by decide) (Rt.iq (by decide) (Rt.iq (by decide) (Rt.iq (by decide) (Rt.ip rfl (h _ hq.2 (Zi_n (by decide)) (Zi_n (by decide)) rfl rfl))))))))))))))))))))))))))
theorem stp_26 {Q : Sg → Unit → Prop} (hr : RQ R S0 vt tb i D k f x bs Sl k S) (hQ : D.Pe < 24000) (hk : (D.I k).kd = 26) (h : ∀ S1 : Sg, RQ R S0 vt tb i D k f x bs Sl (k + 1) S1 → Zi S1 70 = Zi S 70 → Zi S1 3 = Zi S 3 → Zr S1 = Zr S → Zl S1 = Zl S → Rt ((pM S1 76 ((Zi S1 76) - 1)).bind fun S84 =>
  if (Zi S84 76) ≤ 0 then (f_step_584 R.K S84 (-1)) else ((rI S84 75 (Zi S84 76)).bind fun v85 =>
  f_step_584 R.K S84 v85)) Q) : Rt (f_step R.K S) Q := by
  have h24 := hr.k24 hQ
  have hq : Zr (Ui S 77 (nI (k + 1))) 27 k = nI 26 ∧ RQ R S0 vt tb i D k f x bs Sl (k + 1) (Ui S 77 (nI (k + 1))) := ⟨((congrFun (hr.2.2.1.1.2.2.2.2.2.1 27 (by decide)) k).trans hr.2.1.1).trans (congrArg nI hk), hr.nx (k + 1)⟩
  unfold f_step
  rw [hr.2.2.2.1.1]
  refine Rt.bd (v := Ui S 77 (nI (k + 1))) (by rw [nI_1]; rfl) (Rt.bd (v := nI 26) (by rw [rI_n (show k < rlen 27 from h24) (by decide), hq.1]) ?_)
  exact Rt.iq (by decide) (Rt.iq (by decide) (Rt.iq (by decide) (Rt.iq (by decide) (Rt.iq (by decide) (Rt.iq (by decide) (Rt.iq (by decide) (Rt.iq (by decide) (Rt.iq (by decide) (Rt.iq (by decide) (Rt.iq (by decide) (Rt.iq (by decide) (Rt.iq (by decide) (Rt.iq (by decide) (Rt.iq (by decide) (Rt.iq (by decide) (Rt.iq (by decide) (Rt.iq (by decide) (Rt.iq (by decide) (Rt.iq (by decide) (Rt.iq (by decide) (Rt.iq (by decide) (Rt.iq (by decide) (Rt.iq (by decide) (Rt.iq (by decide) (Rt.iq (by decide) (Rt.ip rfl (h _ hq.2 (Zi_n (by decide)) (Zi_n (by decide)) rfl rfl)))))))))))))))))))))))))))
theorem stp_27 {Q : Sg → Unit → Prop} (hr : RQ R S0 vt tb i D k f x bs Sl k S) (hQ : D.Pe < 24000) (hk : (D.I k).kd = 27) (h : ∀ S1 : Sg, RQ R S0 vt tb i D k f x bs Sl (k + 1) S1 → Zi S1 70 = Zi S 70 → Zi S1 3 = Zi S 3 → Zr S1 = Zr S → Zl S1 = Zl S → Rt (bnd (f_nextInput R.K S1) fun S86 v87 =>
  bnd (f_push R.K S86 v87) fun S88 v89 =>
  f_step_590 R.K S88) Q) : Rt (f_step R.K S) Q := by
  have h24 := hr.k24 hQ
  have hq : Zr (Ui S 77 (nI (k + 1))) 27 k = nI 27 ∧ RQ R S0 vt tb i D k f x bs Sl (k + 1) (Ui S 77 (nI (k + 1))) := ⟨((congrFun (hr.2.2.1.1.2.2.2.2.2.1 27 (by decide)) k).trans hr.2.1.1).trans (congrArg nI hk), hr.nx (k + 1)⟩
  unfold f_step
  rw [hr.2.2.2.1.1]
  refine Rt.bd (v := Ui S 77 (nI (k + 1))) (by rw [nI_1]; rfl) (Rt.bd (v := nI 27) (by rw [rI_n (show k < rlen 27 from h24) (by decide), hq.1]) ?_)
  exact Rt.iq (by decide) (Rt.iq (by decide) (Rt.iq (by decide) (Rt.iq (by decide) (Rt.iq (by decide) (Rt.iq (by decide) (Rt.iq (by decide) (Rt.iq (by decide) (Rt.iq (by decide) (Rt.iq (by decide) (Rt.iq (by decide) (Rt.iq (by decide) (Rt.iq (by decide) (Rt.iq (by decide) (Rt.iq (by decide) (Rt.iq (by decide) (Rt.iq (by decide) (Rt.iq (by decide) (Rt.iq (by decide) (Rt.iq (by decide) (Rt.iq (by decide) (Rt.iq (by decide) (Rt.iq (by decide) (Rt.iq (by decide) (Rt.iq (by decide) (Rt.iq (by decide) (Rt.iq (by decide) (Rt.ip rfl (h _ hq.2 (Zi_n (by decide)) (Zi_n (by decide)) rfl rfl))))))))))))))))))))))))))))
end PS56
