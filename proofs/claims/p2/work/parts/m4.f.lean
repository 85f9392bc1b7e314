/-- a step's outcome: a fault, or the next point -/
def RTt (R : yR) (S0 : Sg) (vt : Nat → Nat → Nat) (tb : Nat → lTb) (i : Nat) (D : fD) (k f : Nat) (x : Nat → kFm) (bs : Nat → Nat) (Sl S S2 : Sg) : Prop := RX Sl S2 ∧ (Zi S2 3 ≠ 0 ∨ (Zi S2 3 = Zi S 3 ∧ Zi S2 70 = Zi S 70 ∧ NXt R S0 vt tb i D k f x bs S S2))
section PS57
variable {R : yR} {S0 Sl S S1 S2 : Sg} {D : fD} {i k j f nw : Nat} {vt : Nat → Nat → Nat} {tb : Nat → lTb} {x : Nat → kFm} {bs : Nat → Nat} {g : Nat → Int32} {s t : List tE} {al al2 : Nat → Prop}
theorem NXt.ux {X : kFm} (h : NXt R S0 vt tb i D k f (kUx x f X) bs S S2) (ha : kAn X = kAn (x f)) : NXt R S0 vt tb i D k f x bs S S2 := by
  obtain ⟨j, Y, h1, h2, h3, h4, h5, h6, h7, h8⟩ := h
  rw [kUx_top] at h7
  rw [kUx2] at h8
  exact ⟨j, Y, h1, h2, h3, h4, h5, h6, h7.trans ha, h8⟩
theorem NXt.fr (h : NXt R S0 vt tb i D k f x bs S1 S2) (h1 : Zr S1 = Zr S) (h2 : Zi S1 76 = Zi S 76) : NXt R S0 vt tb i D k f x bs S S2 := by
  obtain ⟨j, Y, a1, a2, a3, a4, ⟨a5, a6⟩, a7⟩ := h
  exact ⟨j, Y, a1, a2, a3, a4, ⟨a5.trans (by rw [h1]), a6.trans h2⟩, a7⟩
theorem rzq.sc1 {ii : iR} (h : rzq R S0 Sl k ii) (hn : ii.kd ≠ 26 ∧ ii.kd ≠ 16 ∧ ii.kd ≠ 17 ∧ ii.kd ≠ 18 ∧ ii.kd ≠ 19 ∧ ii.kd ≠ 20 ∧ ii.kd ≠ 21) : ii.sc = [k + 1] := by
  obtain ⟨n26, n16, n17, n18, n19, n20, n21⟩ := hn
  rcases h.2.2.2.2.2.2.1 with ⟨w, _⟩ | ⟨w, _⟩ | ⟨w, _⟩ | ⟨w, _⟩ | ⟨_, _, _, _, _, _, _, _, w⟩
  · exact absurd w n26
  · exact absurd w n16
  · rcases w with w | w | w
    · exact absurd w n17
    · exact absurd w n18
    · exact absurd w n19
  · rcases w with w | w
    · exact absurd w n20
    · exact absurd w n21
  · exact w
theorem RQ.ed (h : RQ R S0 vt tb i D k f x bs Sl nw S) (hj : j ∈ (D.I k).sc) : edg D k j := ⟨h.1.2.1.1, h.1.2.1.2.1, h.1.2.1.2.2, hj⟩
theorem RQ.e1 (h : RQ R S0 vt tb i D k f x bs Sl nw S) (hn : (D.I k).kd ≠ 26 ∧ (D.I k).kd ≠ 16 ∧ (D.I k).kd ≠ 17 ∧ (D.I k).kd ≠ 18 ∧ (D.I k).kd ≠ 19 ∧ (D.I k).kd ≠ 20 ∧ (D.I k).kd ≠ 21) : edg D k (k + 1) := h.ed (by rw [h.2.1.sc1 hn]; exact List.mem_singleton_self _)
theorem RQ.pt (h : RQ R S0 vt tb i D k f x bs Sl nw S) : tPt D.E k (D.W k) (D.I k) (D.st k) (fun j s => D.Ps ≤ j ∧ j < D.Pe ∧ wkS s (D.st j)) ∧ wl (D.st k) ≤ 177 := h.1.1.pt h.1.2.1.1 h.1.2.1.2.1
/-- a plain entry and a stack below it, as the running sees them -/
theorem trL_c {e : tE} (h : wkS (e :: s) t) (h3 : e.1 ≠ 3) (h5 : e.1 ≠ 5) (h6 : e.1 ≠ 6) (ha : ∀ n : Nat, n < wl s → al2 (40 + n) → al (40 + n)) : wkS (e :: trL al s) (trL al2 t) := by
  cases t with
  | nil => exact h.elim
  | cons e2 t => exact ⟨trE_w h.1 h3 h5 h6, trL_t h.2 ha⟩
theorem FnD.dn (h : FnD R S0 i D) (e : edg D k j) (ho : (D.I k).ho = none) {m : Nat} (hm : m ≤ 177) : ∀ n : Nat, n < m → AL D j (40 + n) → AL D k (40 + n) := fun n hn => h.al e (by omega) (fun w => by rw [ho] at w; cases w)
theorem RQ.st (h : RQ R S0 vt tb i D k f x bs Sl nw S) : (x f).2.1 = trL (AL D k) (D.st k) ∧ wl (x f).2.1 = wl (D.st k) := ⟨h.2.2.2.2.2.1.2.1, by rw [h.2.2.2.2.2.1.2.1]; exact trL_wl⟩
theorem RQ.sb (h : RQ R S0 vt tb i D k f x bs Sl nw S) : bs f + wl (D.st k) ≤ 10700 := by
  have h177 := h.pt.2
  obtain ⟨_, _, _, _, hf, _, ⟨rt, V, C, L, H, fl, t, ⟨_, hN, _⟩, _⟩, hw, _⟩ := h
  have hb := hN.bb hw (Nat.le_refl f)
  clear hN
  omega
/-- a number is pushed: a step's end -/
theorem RQ.p0 (hL : LFS R S0 g) (h : RQ R S0 vt tb i D k f x bs Sl nw S) (e : edg D k j) {t2 : Nat} (ht : t2 = 1 ∨ t2 = 2 ∨ t2 = 3) (hnt : nT (D.st k)) (hw : wkS ((0, t2, 0) :: D.st k) (D.st j)) (hm : kdM (D.I k)) (ho : (D.I k).ho = none) (e2 : SO S S2) (h2 : ∀ q : Nat, q < bs f + wl (D.st k) → Zl S2 72 q = Zl S 72 q) (h77 : Zi S2 77 = nI j) (h73 : Zi S2 73 = nI (bs f + wl (D.st k) + 1)) : NXt R S0 vt tb i D k f x bs S S2 := by
  have hy := nYk_of hL
  obtain ⟨hst, hwl⟩ := h.st
  have h177 := h.pt.2
  obtain ⟨hP, hz, hX, hI, hf, ⟨a1, a2, a3, a4, a5, a6⟩, hT, hws, hv⟩ := h
  have hall := hP.2.2.2.1.all hnt
  have hT2 := (hT.kt.skc e2.sam (fun q hq => h2 q (by omega))).push0 hy yB_yT a3 (by omega) ht
  have hne : ∀ {t : Nat}, ((0, t, 0) : tE).1 = 0 := rfl
  refine (fin0 (s := (0, t2, 0) :: D.st k) hL hP e hw (fun a ha => ?_) hm ho ?_ ?_ ?_ ?_ ?_ ?_ hT2 h77 ?_ (by rw [e2.2.2.2.2.2.2.1]) (e2.2.2.2.2.2.2.2 76 (by decide))).ux rfl
  · rcases List.mem_cons.mp ha with w | w
    · rw [w]; exact pnE_k (Or.inl rfl)
    · exact hall a w
  · rw [kUx_top]
  · rw [kUx_top]; exact a1
  · rw [kUx_top]
    show wkS ((0, t2, 0) :: (x f).2.1) _
    rw [hst]
    exact trL_c hw (show (0 : Nat) ≠ 3 by decide) (show (0 : Nat) ≠ 5 by decide) (show (0 : Nat) ≠ 6 by decide) (hP.1.dn e ho (by omega))
  · rw [kUx_top]; exact a4
  · rw [kUx_top]; exact a5
  · rw [kUx_top]; exact a6
  · rw [h73, wkS_wl hw, wl_n (by show ¬ ((0 : Nat) = 8 ∨ (0 : Nat) = 4 ∨ (0 : Nat) = 5 ∨ (0 : Nat) = 6); decide)]
    congr 1
/-- PUSH -/
theorem s_1 (hL : LFS R S0 g) (h : RQ R S0 vt tb i D k f x bs Sl k S) (hQ : D.Pe < 24000) (hk : (D.I k).kd = 1) : Rt (f_step R.K S) (fun S2 _ => RTt R S0 vt tb i D k f x bs Sl S S2) := by
  have h24 := h.k24 hQ
  refine stp_1 h hQ hk (fun S1 h1 e70 e3 er el => ?_)
  have hp := h1.pt.1
  unfold tPt at hp
  rw [hk] at hp
  obtain ⟨⟨d0, hnt⟩, t2, ht, _, _, hw⟩ := hp
  have hb := h1.sb
  refine Rt.bd (rJ_n (show k < rlen 31 from h24) (by decide)) (Rt.bn (psh_ h1.2.2.2.1.2.1 (by omega)) (fun S2 _ ⟨q1, q2, q3, q4⟩ => ?_))
  unfold f_step_590
  have hn := h1.p0 hL (h1.e1 (by omega)) (by omega) hnt hw ⟨by omega, by omega, by omega, by omega, by omega⟩ d0.2.2.1 q1 (fun q hq => q4 q (by omega)) ((q1.2.2.2.2.2.2.2 77 (by decide)).trans h1.2.2.2.1.1) q2
  refine Rt.rt ⟨q1.rx h1.2.2.1, Or.inr ⟨(q1.2.2.2.2.2.2.2 3 (by decide)).trans e3, (q1.2.2.2.2.2.2.2 70 (by decide)).trans e70, hn.fr er ?_⟩⟩
  rw [h1.2.2.2.1.2.2, h.2.2.2.1.2.2]
end PS57
