-- m4.f.lean.txt
section
/-- a step's outcome: a fault, or the next point -/
def RTt (R : yR) (S0 : Sg) (vt : Nat → Nat → Nat) (tb : Nat → lTb) (i : Nat) (D : fD) (k f : Nat) (x : Nat → kFm) (bs : Nat → Nat) (Sl S S2 : Sg) : Prop := RX Sl S2 ∧ (Zi S2 3 ≠ 0 ∨ (Zi S2 3 = Zi S 3 ∧ Zi S2 70 = Zi S 70 ∧ NXt R S0 vt tb i D k f x bs S S2))
section PS57
variable {R : yR} {S0 Sl S S1 S2 : Sg} {D : fD} {i k j f nw : Nat} {vt : Nat → Nat → Nat} {tb : Nat → lTb} {x : Nat → kFm} {bs : Nat → Nat} {g : Nat → Int32} {s t : List tE} {al al2 : Nat → Prop}
theorem NXt.ux {X : kFm} (h : NXt R S0 vt tb i D k f (kUx x f X) bs S S2) (ha : kAn X = kAn (x f)) : NXt R S0 vt tb i D k f x bs S S2 := by
  obtain ⟨j, Y, h1, h2, h3, h4, h5, h6, h7, h8⟩ := h
  rw [kUx_top] at h7
  rw [kUx2] at h8
  exact ⟨j, Y, h1, h2, h3, h4, h5, h6, h7.trans ha, h8⟩
theorem NXt.fr (h : NXt R S0 vt tb i D k f x bs S1 S2) (h1 : Zr S1 = Zr S) (h2 : Zi S1 76 = Zi S 76) : NXt R S0 vt tb i D k f x bs S S2 := by
  obtain ⟨j, Y, a1, a2, a3, a4, ⟨a5, a6⟩, a7⟩ := h
  exact ⟨j, Y, a1, a2, a3, a4, ⟨a5.trans (by rw [h1]), a6.trans h2⟩, a7⟩
theorem rzq.sc1 {ii : iR} (h : rzq R S0 Sl k ii) (hn : ii.kd ≠ 26 ∧ ii.kd ≠ 16 ∧ ii.kd ≠ 17 ∧ ii.kd ≠ 18 ∧ ii.kd ≠ 19 ∧ ii.kd ≠ 20 ∧ ii.kd ≠ 21) : ii.sc = [k + 1] := by
  obtain ⟨n26, n16, n17, n18, n19, n20, n21⟩ := hn
  rcases h.2.2.2.2.2.2.1 with ⟨w, _⟩ | ⟨w, _⟩ | ⟨w, _⟩ | ⟨w, _⟩ | ⟨_, _, _, _, _, _, _, _, w⟩
  · exact absurd w n26
  · exact absurd w n16
  · rcases w with w | w | w
    · exact absurd w n17
    · exact absurd w n18
    · exact absurd w n19
  · rcases w with w | w
    · exact absurd w n20
    · exact absurd w n21
  · exact w
theorem RQ.ed (h : RQ R S0 vt tb i D k f x bs Sl nw S) (hj : j ∈ (D.I k).sc) : edg D k j := ⟨h.1.2.1.1, h.1.2.1.2.1, h.1.2.1.2.2, hj⟩
theorem RQ.e1 (h : RQ R S0 vt tb i D k f x bs Sl nw S) (hn : (D.I k).kd ≠ 26 ∧ (D.I k).kd ≠ 16 ∧ (D.I k).kd ≠ 17 ∧ (D.I k).kd ≠ 18 ∧ (D.I k).kd ≠ 19 ∧ (D.I k).kd ≠ 20 ∧ (D.I k).kd ≠ 21) : edg D k (k + 1) := h.ed (by rw [h.2.1.sc1 hn]; exact List.mem_singleton_self _)
theorem RQ.pt (h : RQ R S0 vt tb i D k f x bs Sl nw S) : tPt D.E k (D.W k) (D.I k) (D.st k) (fun j s => D.Ps ≤ j ∧ j < D.Pe ∧ wkS s (D.st j)) ∧ wl (D.st k) ≤ 177 := h.1.1.pt h.1.2.1.1 h.1.2.1.2.1
/-- a plain entry and a stack below it, as the running sees them -/
theorem trL_c {e : tE} (h : wkS (e :: s) t) (h3 : e.1 ≠ 3) (h5 : e.1 ≠ 5) (h6 : e.1 ≠ 6) (ha : ∀ n : Nat, n < wl s → al2 (40 + n) → al (40 + n)) : wkS (e :: trL al s) (trL al2 t) := by
  cases t with
  | nil => exact h.elim
  | cons e2 t => exact ⟨trE_w h.1 h3 h5 h6, trL_t h.2 ha⟩
theorem FnD.dn (h : FnD R S0 i D) (e : edg D k j) (ho : (D.I k).ho = none) {m : Nat} (hm : m ≤ 177) : ∀ n : Nat, n < m → AL D j (40 + n) → AL D k (40 + n) := fun n hn => h.al e (by omega) (fun w => by rw [ho] at w; cases w)
theorem RQ.st (h : RQ R S0 vt tb i D k f x bs Sl nw S) : (x f).2.1 = trL (AL D k) (D.st k) ∧ wl (x f).2.1 = wl (D.st k) := ⟨h.2.2.2.2.2.1.2.1, by rw [h.2.2.2.2.2.1.2.1]; exact trL_wl⟩
theorem RQ.sb (h : RQ R S0 vt tb i D k f x bs Sl nw S) : bs f + wl (D.st k) ≤ 10700 := by
  have h177 := h.pt.2
  obtain ⟨_, _, _, _, hf, _, ⟨rt, V, C, L, H, fl, t, ⟨_, hN, _⟩, _⟩, hw, _⟩ := h
  have hb := hN.bb hw (Nat.le_refl f)
  clear hN
  omega
/-- a number is pushed: a step's end -/
theorem RQ.p0 (hL : LFS R S0 g) (h : RQ R S0 vt tb i D k f x bs Sl nw S) (e : edg D k j) {t2 : Nat} (ht : t2 = 1 ∨ t2 = 2 ∨ t2 = 3) (hnt : nT (D.st k)) (hw : wkS ((0, t2, 0) :: D.st k) (D.st j)) (hm : kdM (D.I k)) (ho : (D.I k).ho = none) (e2 : SO S S2) (h2 : ∀ q : Nat, q < bs f + wl (D.st k) → Zl S2 72 q = Zl S 72 q) (h77 : Zi S2 77 = nI j) (h73 : Zi S2 73 = nI (bs f + wl (D.st k) + 1)) : NXt R S0 vt tb i D k f x bs S S2 := by
  have hy := nYk_of hL
  obtain ⟨hst, hwl⟩ := h.st
  have h177 := h.pt.2
  obtain ⟨hP, hz, hX, hI, hf, ⟨a1, a2, a3, a4, a5, a6⟩, hT, hws, hv⟩ := h
  have hall := hP.2.2.2.1.all hnt
  have hT2 := (hT.kt.skc e2.sam (fun q hq => h2 q (by omega))).push0 hy yB_yT a3 (by omega) ht
  have hne : ∀ {t : Nat}, ((0, t, 0) : tE).1 = 0 := rfl
  refine (fin0 (s := (0, t2, 0) :: D.st k) hL hP e hw (fun a ha => ?_) hm ho ?_ ?_ ?_ ?_ ?_ ?_ hT2 h77 ?_ (by rw [e2.2.2.2.2.2.2.1]) (e2.2.2.2.2.2.2.2 76 (by decide))).ux rfl
  · rcases List.mem_cons.mp ha with w | w
    · rw [w]; exact pnE_k (Or.inl rfl)
    · exact hall a w
  · rw [kUx_top]
  · rw [kUx_top]; exact a1
  · rw [kUx_top]
    show wkS ((0, t2, 0) :: (x f).2.1) _
    rw [hst]
    exact trL_c hw (show (0 : Nat) ≠ 3 by decide) (show (0 : Nat) ≠ 5 by decide) (show (0 : Nat) ≠ 6 by decide) (hP.1.dn e ho (by omega))
  · rw [kUx_top]; exact a4
  · rw [kUx_top]; exact a5
  · rw [kUx_top]; exact a6
  · rw [h73, wkS_wl hw, wl_n (by show ¬ ((0 : Nat) = 8 ∨ (0 : Nat) = 4 ∨ (0 : Nat) = 5 ∨ (0 : Nat) = 6); decide)]
    congr 1
/-- PUSH -/
theorem s_1 (hL : LFS R S0 g) (h : RQ R S0 vt tb i D k f x bs Sl k S) (hQ : D.Pe < 24000) (hk : (D.I k).kd = 1) : Rt (f_step R.K S) (fun S2 _ => RTt R S0 vt tb i D k f x bs Sl S S2) := by
  have h24 := h.k24 hQ
  refine stp_1 h hQ hk (fun S1 h1 e70 e3 er el => ?_)
  have hp := h1.pt.1
  unfold tPt at hp
  rw [hk] at hp
  obtain ⟨⟨d0, hnt⟩, t2, ht, _, _, hw⟩ := hp
  have hb := h1.sb
  refine Rt.bd (rJ_n (show k < rlen 31 from h24) (by decide)) (Rt.bn (psh_ h1.2.2.2.1.2.1 (by omega)) (fun S2 _ ⟨q1, q2, q3, q4⟩ => ?_))
  unfold f_step_590
  have hn := h1.p0 hL (h1.e1 (by omega)) (by omega) hnt hw ⟨by omega, by omega, by omega, by omega, by omega⟩ d0.2.2.1 q1 (fun q hq => q4 q (by omega)) ((q1.2.2.2.2.2.2.2 77 (by decide)).trans h1.2.2.2.1.1) q2
  refine Rt.rt ⟨q1.rx h1.2.2.1, Or.inr ⟨(q1.2.2.2.2.2.2.2 3 (by decide)).trans e3, (q1.2.2.2.2.2.2.2 70 (by decide)).trans e70, hn.fr er ?_⟩⟩
  rw [h1.2.2.2.1.2.2, h.2.2.2.1.2.2]
end PS57
end
-- m4.g.lean.txt
section
/-- the stack changes, a fault may have come -/
def SF (S S2 : Sg) : Prop := (Zi S2 3 = Zi S 3 ∧ SO S S2) ∨ (Zi S2 3 ≠ 0 ∧ SO (Ui S 3 7) S2)
section PS58
variable {R : yR} {S0 Sl S S1 S2 S3 : Sg} {D : fD} {i k j f nw : Nat} {vt : Nat → Nat → Nat} {tb : Nat → lTb} {x : Nat → kFm} {bs : Nat → Nat} {g : Nat → Int32} {K : Ky} {p : Nat}
theorem RX.f3 {v : Int32} (h : RX Sl S) : RX Sl (Ui S 3 v) := h.mk ⟨rfl, rfl, ⟨rfl, rfl⟩, rfl, rfl, fun _ _ => rfl, fun _ _ => rfl, fun j _ h3 => Zi_n h3⟩ (h.2.1.eq (Zi_n (by decide)) (Zi_n (by decide))) (Zi_n (by decide)) (Zi_n (by decide)) ((Zi_n (by decide)).trans h.2.2.2.2)
theorem SF.rx (e : SF S S2) (h : RX Sl S) : RX Sl S2 := by
  rcases e with ⟨_, e⟩ | ⟨_, e⟩
  · exact e.rx h
  · exact e.rx h.f3
theorem lg_0 {a : Int64} (h : ¬ lg_cmp a 0 = 0) : a ≠ 0 := fun e => h (by rw [e]; decide)
theorem sg340 {v : Int64} {y0 : Int32} (e : SO S S3) (hp : Zi S3 73 = nI p) (h2 : p < 20000) (hz : Zl S3 = Zl S) : Rt (f_runSign_340 K S3 v y0) (fun S2 _ => SF S S2 ∧ Zi S2 73 = nI (p + 1) ∧ ∀ q : Nat, q ≠ p → Zl S2 72 q = Zl S 72 q) := by
  unfold f_runSign_340 f_runSign_351
  refine Rt.it (fun _ => Rt.bn (psh_ hp h2) (fun S4 _ ⟨q1, q2, q3, q4⟩ => Rt.rt ⟨Or.inl ⟨(q1.2.2.2.2.2.2.2 3 (by decide)).trans (e.2.2.2.2.2.2.2 3 (by decide)), e.tr q1⟩, q2, fun q hq => by rw [q4 q hq, hz]⟩)) (fun _ => ?_)
  refine Rt.bd (v := Ui S3 3 7) rfl (Rt.bn (psh_ (p := p) ((Zi_n (by decide)).trans hp) h2) (fun S4 _ ⟨q1, q2, q3, q4⟩ => Rt.rt ⟨Or.inr ⟨?_, ?_⟩, q2, fun q hq => ?_⟩))
  · rw [q1.2.2.2.2.2.2.2 3 (by decide), show Zi (Ui S3 3 7) 3 = 7 from Zi_s]; decide
  · refine SO.tr (S1 := Ui S3 3 7) ⟨e.1, e.2.1, e.2.2.1, e.2.2.2.1, e.2.2.2.2.1, e.2.2.2.2.2.1, e.2.2.2.2.2.2.1, fun j hj => ?_⟩ q1
    by_cases w : j = 3
    · subst w; exact (Zi_s (S := S3)).trans (Zi_s (S := S)).symm
    · exact (Zi_n w).trans ((e.2.2.2.2.2.2.2 j hj).trans (Zi_n w).symm)
  · have := q4 q hq
    rw [this]
    show Zl S3 72 q = _
    rw [hz]
/-- runSign -/
theorem rsg_ {c : Int32} (hp : Zi S 73 = nI (p + 2)) (h2 : p + 2 < 20000) : Rt (f_runSign K S c) (fun S2 _ => SF S S2 ∧ Zi S2 73 = nI (p + 1) ∧ ∀ q : Nat, q ≠ p → Zl S2 72 q = Zl S 72 q) := by
  unfold f_runSign
  refine Rt.bn (pop_ (p := p + 1) hp (by omega)) (fun S1 v2 ⟨_, _, q1, q2, q3⟩ => Rt.bn (pop_ (p := p) q2 (by omega)) (fun S3 v4 ⟨_, _, r1, r2, r3⟩ => ?_))
  have e := q1.tr r1
  have hz : Zl S3 = Zl S := r3.trans q3
  have go : ∀ (v : Int64) (y0 : Int32), Rt (f_runSign_340 K S3 v y0) (fun S2 _ => SF S S2 ∧ Zi S2 73 = nI (p + 1) ∧ ∀ q : Nat, q ≠ p → Zl S2 72 q = Zl S 72 q) := fun v y0 => sg340 e r2 (by omega) hz
  have g184 : ∀ c : Int32, Rt (f_runSign_184 K S3 c v2 v4 0) (fun S2 _ => SF S S2 ∧ Zi S2 73 = nI (p + 1) ∧ ∀ q : Nat, q ≠ p → Zl S2 72 q = Zl S 72 q) := fun c => by
    unfold f_runSign_184 f_runSign_207 f_runSign_211
    have h0 : ¬ lg_cmp v2 0 = 0 → Rt (f_runSign_212 K S3 c v2 v4 0 0) (fun S2 _ => SF S S2 ∧ Zi S2 73 = nI (p + 1) ∧ ∀ q : Nat, q ≠ p → Zl S2 72 q = Zl S 72 q) := fun w => by
      unfold f_runSign_212 f_runSign_236
      exact Rt.ip rfl (Rt.it (fun _ => Rt.bd (show nzL v2 = some () from if_neg (lg_0 w)) (go _ _)) (fun _ => Rt.bd (show nzL v2 = some () from if_neg (lg_0 w)) (go _ _)))
    have h1 : Rt (f_runSign_212 K S3 c v2 v4 0 1) (fun S2 _ => SF S S2 ∧ Zi S2 73 = nI (p + 1) ∧ ∀ q : Nat, q ≠ p → Zl S2 72 q = Zl S 72 q) := by
      unfold f_runSign_212
      exact Rt.iq (by decide) (go _ _)
    exact Rt.it (fun _ => h1) (fun w => Rt.it (fun _ => Rt.it (fun _ => h1) (fun _ => h0 w)) (fun _ => h0 w))
  unfold f_runSign_98 f_runSign_129 f_runSign_174 f_runSign_178 f_runSign_179 f_runSign_253 f_runSign_270 f_runSign_287 f_runSign_304 f_runSign_321 f_runSign_338
  refine Rt.it (fun _ => Rt.it (fun _ => go _ _) (fun _ => go _ _)) (fun _ => Rt.it (fun _ => Rt.it (fun _ => go _ _) (fun _ => go _ _)) (fun _ => Rt.it (fun _ => Rt.it (fun _ => go _ _) (fun w => Rt.bd (show nzL v4 = some () from if_neg (lg_0 w)) (Rt.it (fun _ => Rt.it (fun _ => Rt.it (fun _ => go _ _) (fun _ => go _ _)) (fun _ => go _ _)) (fun _ => go _ _)))) (fun _ => Rt.it (fun _ => g184 _) (fun _ => Rt.it (fun _ => g184 _) (fun _ => Rt.it (fun _ => Rt.it (fun _ => go _ _) (fun _ => go _ _)) (fun _ => Rt.it (fun _ => Rt.it (fun _ => go _ _) (fun _ => go _ _)) (fun _ => Rt.it (fun _ => Rt.it (fun _ => go _ _) (fun _ => go _ _)) (fun _ => Rt.it (fun _ => Rt.it (fun _ => go _ _) (fun _ => go _ _)) (fun _ => Rt.it (fun _ => Rt.it (fun _ => go _ _) (fun _ => go _ _)) (fun _ => Rt.it (fun _ => go _ _) (fun _ => go _ _)))))))))))
theorem tr_0 {al : Nat → Prop} {t1 : Nat} {r : List tE} : trL al ((0, t1, 0) :: r) = (0, t1, 0) :: trL al r := by
  show trE al (wl r) (0, t1, 0) :: trL al r = _
  rw [trE_o (by show (0 : Nat) ≠ 1; decide) (by show (0 : Nat) ≠ 2; decide) (by show (0 : Nat) ≠ 3; decide) (by show (0 : Nat) ≠ 5; decide) (by show (0 : Nat) ≠ 6; decide)]
theorem wl_00p {t1 : Nat} {r : List tE} : wl ((0, t1, 0) :: r) = wl r + 1 := wl_n (by show ¬ ((0 : Nat) = 8 ∨ (0 : Nat) = 4 ∨ (0 : Nat) = 5 ∨ (0 : Nat) = 6); decide)
/-- numbers go (n = 1 or 2), one may come: a step's end -/
theorem RQ.op (hL : LFS R S0 g) (h : RQ R S0 vt tb i D k f x bs Sl nw S) (e : edg D k j) {r P : List tE} (hs : (∃ t1 : Nat, (t1 = 1 ∨ t1 = 2) ∧ D.st k = (0, t1, 0) :: r) ∨ ∃ t1 t2 : Nat, (t1 = 1 ∨ t1 = 2) ∧ (t2 = 1 ∨ t2 = 2) ∧ D.st k = (0, t1, 0) :: (0, t2, 0) :: r) (hP : P = [] ∨ ∃ t3 : Nat, (t3 = 1 ∨ t3 = 2 ∨ t3 = 3) ∧ P = [(0, t3, 0)]) (hw : wkS (P ++ r) (D.st j)) (hm : kdM (D.I k)) (ho : (D.I k).ho = none) (hsm : sam S S2) (h2 : ∀ q : Nat, q < bs f + wl r → Zl S2 72 q = Zl S 72 q) (h77 : Zi S2 77 = nI j) (h73 : Zi S2 73 = nI (bs f + wl (P ++ r))) (h75 : Zr S2 75 = Zr S 75) (h76 : Zi S2 76 = Zi S 76) : NXt R S0 vt tb i D k f x bs S S2 := by
  have hy := nYk_of hL
  obtain ⟨hst, hwl⟩ := h.st
  have h177 := h.pt.2
  obtain ⟨hPK, hz, hX, hI, hf, ⟨a1, a2, a3, a4, a5, a6⟩, hT, hws, hv⟩ := h
  have hgt := hPK.2.2.2.1
  have hr : (∀ a ∈ r, pnE a) ∧ wl r ≤ 177 := by
    rcases hs with ⟨t1, _, w⟩ | ⟨t1, t2, _, _, w⟩
    · rw [w] at hgt h177
      rw [wl_00p] at h177
      exact ⟨hgt.tl, by omega⟩
    · rw [w] at hgt h177
      rw [wl_00p, wl_00p] at h177
      exact ⟨fun a ha => hgt.tl a (List.mem_cons_of_mem _ ha), by omega⟩
  -- the values are gone
  have hpop : ∃ X : kFm, kT (yT R S0) (zN R S0) (szN R S0) vt tb f (kUx x f X) bs S ∧ X.1 = (x f).1 ∧ X.2.1 = trL (AL D k) r ∧ X.2.2.1 = 0 ∧ kH X = kH (x f) ∧ kal X = kal (x f) ∧ klo X = klo (x f) ∧ kAn X = kAn (x f) := by
    rcases hs with ⟨t1, w0, w⟩ | ⟨t1, t2, w0, w1, w⟩
    · have q := hT.kt.pop1 hy yB_yT a3 (s := trL (AL D k) r) (by rw [hst, w, tr_0]) (Or.inl ⟨t1, by omega, rfl⟩)
      exact ⟨_, q, rfl, rfl, rfl, rfl, rfl, rfl, rfl⟩
    · have q := hT.kt.pop1 hy yB_yT a3 (s := (0, t2, 0) :: trL (AL D k) r) (by rw [hst, w, tr_0, tr_0]) (Or.inl ⟨t1, by omega, rfl⟩)
      have q2 := q.pop1 hy yB_yT (by rw [kUx_top]) (s := trL (AL D k) r) (by rw [kUx_top]) (Or.inl ⟨t2, by omega, rfl⟩)
      rw [kUx_top, kUx2] at q2
      exact ⟨_, q2, rfl, rfl, rfl, rfl, rfl, rfl, rfl⟩
  obtain ⟨X, x0, x1, x2, x3, x4, x5, x6, x7⟩ := hpop
  have x0 := x0.skc hsm (fun q hq => h2 q (by rw [kUx_top, x2, trL_wl] at hq; exact hq))
  -- what comes
  have hpsh : ∃ Y : kFm, kT (yT R S0) (zN R S0) (szN R S0) vt tb f (kUx x f Y) bs S2 ∧ Y.1 = (x f).1 ∧ Y.2.1 = P ++ trL (AL D k) r ∧ Y.2.2.1 = 0 ∧ kH Y = kH (x f) ∧ kal Y = kal (x f) ∧ klo Y = klo (x f) ∧ kAn Y = kAn (x f) := by
    rcases hP with w | ⟨t3, w0, w⟩
    · exact ⟨X, x0, x1, by rw [w]; exact x2, x3, x4, x5, x6, x7⟩
    · have q := x0.push0 hy yB_yT (by rw [kUx_top]; exact x3) (by rw [kUx_top, x2, trL_wl]; omega) w0
      rw [kUx_top, kUx2] at q
      exact ⟨_, q, x1, by rw [w, ← x2]; rfl, rfl, x4, x5, x6, x7⟩
  obtain ⟨Y, y0, y1, y2, y3, y4, y5, y6, y7⟩ := hpsh
  have hPn : ∀ a ∈ P ++ r, pnE a := fun a ha => by
    rcases List.mem_append.mp ha with w | w
    · rcases hP with z | ⟨t3, _, z⟩
      · rw [z] at w; cases w
      · rw [z] at w; rw [List.mem_singleton.mp w]; exact pnE_k (Or.inl rfl)
    · exact hr.1 a w
  refine (fin0 (s := P ++ r) (S := S) hL hPK e hw hPn hm ho ?_ ?_ ?_ ?_ ?_ ?_ y0 h77 ?_ h75 h76).ux y7
  · rw [kUx_top]; exact y3
  · rw [kUx_top, y1]; exact a1
  · rw [kUx_top, y2]
    rcases hP with z | ⟨t3, _, z⟩
    · rw [z] at hw ⊢
      exact trL_t hw (hPK.1.dn e ho (show wl ([] ++ r) ≤ 177 from hr.2))
    · rw [z] at hw ⊢
      exact trL_c hw (show (0 : Nat) ≠ 3 by decide) (show (0 : Nat) ≠ 5 by decide) (show (0 : Nat) ≠ 6 by decide) (hPK.1.dn e ho hr.2)
  · rw [kUx_top, y4]; exact a4
  · rw [kUx_top, y5]; exact a5
  · rw [kUx_top, y6]; exact a6
  · rw [h73, wkS_wl hw]
end PS58
end
-- m4.h.lean.txt
section
section PS59
variable {R : yR} {S0 Sl S S1 S2 S3 : Sg} {D : fD} {i k j f nw : Nat} {vt : Nat → Nat → Nat} {tb : Nat → lTb} {x : Nat → kFm} {bs : Nat → Nat} {g : Nat → Int32} {K : Ky} {p : Nat}
/-- the stack is told as it was: a step's end -/
theorem RQ.id0 (hL : LFS R S0 g) (h : RQ R S0 vt tb i D k f x bs Sl nw S) (e : edg D k j) (hnt : nT (D.st k)) (hw : wkS (D.st k) (D.st j)) (hm : kdM (D.I k)) (ho : (D.I k).ho = none) (hsm : sam S S2) (h2 : ∀ q : Nat, q < bs f + wl (D.st k) → Zl S2 72 q = Zl S 72 q) (h77 : Zi S2 77 = nI j) (h73 : Zi S2 73 = nI (bs f + wl (D.st k))) (h75 : Zr S2 75 = Zr S 75) (h76 : Zi S2 76 = Zi S 76) : NXt R S0 vt tb i D k f x bs S S2 := by
  obtain ⟨hst, hwl⟩ := h.st
  have h177 := h.pt.2
  obtain ⟨hPK, hz, hX, hI, hf, ⟨a1, a2, a3, a4, a5, a6⟩, hT, hws, hv⟩ := h
  refine fin0 (s := D.st k) (S := S) hL hPK e hw (hPK.2.2.2.1.all hnt) hm ho a3 a1 ?_ a4 a5 a6 (hT.kt.skc hsm (fun q hq => h2 q (by omega))) h77 ?_ h75 h76
  · rw [hst]
    exact trL_t hw (hPK.1.dn e ho h177)
  · rw [h73, wkS_wl hw]
theorem Ui.sam9 {v : Int32} {q : Nat} (h4 : q ≠ 64) (h5 : q ≠ 65) : sam S (Ui S q v) := ⟨rfl, rfl, rfl, Zi_n (fun w => h4 w.symm), Zi_n (fun w => h5 w.symm)⟩
theorem RX.u77 {v : Int32} (h : RX Sl S) : RX Sl (Ui S 77 v) := h.mk ⟨rfl, rfl, ⟨rfl, rfl⟩, rfl, rfl, fun _ _ => rfl, fun _ _ => rfl, fun j hj _ => Zi_n (by omega)⟩ (h.2.1.eq (Zi_n (by decide)) (Zi_n (by decide))) (Zi_n (by decide)) (Zi_n (by decide)) ((Zi_n (by decide)).trans h.2.2.2.2)
theorem RX.u70 {v : Int32} (h : RX Sl S) : RX Sl (Ui S 70 v) := h.mk ⟨rfl, rfl, ⟨rfl, rfl⟩, rfl, rfl, fun _ _ => rfl, fun _ _ => rfl, fun j hj _ => Zi_n (by omega)⟩ (h.2.1.eq (Zi_n (by decide)) (Zi_n (by decide))) (Zi_n (by decide)) (Zi_n (by decide)) ((Zi_n (by decide)).trans h.2.2.2.2)
/-- the rows of the program, while it runs -/
theorem RQ.r30 (h : RQ R S0 vt tb i D k f x bs Sl nw S) (hk : (D.I k).kd = 16 ∨ (D.I k).kd = 17 ∨ (D.I k).kd = 18 ∨ (D.I k).kd = 19) (h24 : k < 24000) : ∃ j : Nat, rI S 30 (nI k) = some (nI j) ∧ ((D.I k).kd = 16 → (D.I k).sc = [j]) ∧ ((D.I k).kd ≠ 16 → (D.I k).sc = [k + 1, j]) := by
  have e30 : Zr S 30 = Zr Sl 30 := h.2.2.1.1.2.2.2.2.2.1 30 (by decide)
  rcases h.2.1.2.2.2.2.2.2.1 with ⟨w, _⟩ | ⟨w, j, a, b, _⟩ | ⟨w, j, a, b, _⟩ | ⟨w, _⟩ | ⟨_, w1, w2, w3, w4, _⟩
  · rw [w] at hk; exact absurd hk (by decide)
  · exact ⟨j, by rw [rI_n (show k < rlen 30 from h24) (by decide), e30, a], fun _ => b, fun z => absurd w z⟩
  · refine ⟨j, by rw [rI_n (show k < rlen 30 from h24) (by decide), e30, a], fun z => ?_, fun _ => b⟩
    rw [z] at w; exact absurd w (by decide)
  · rcases w with w | w <;> rw [w] at hk <;> exact absurd hk (by decide)
  · rcases hk with z | z | z | z
    · exact absurd z w1
    · exact absurd z w2
    · exact absurd z w3
    · exact absurd z w4
theorem kdM_k {ii : iR} {K : Nat} (h : ii.kd = K) (h2 : K ≠ 12 ∧ K ≠ 14 ∧ K ≠ 22 ∧ K ≠ 23 ∧ K ≠ 24) : kdM ii := ⟨by rw [h]; exact h2.1, by rw [h]; exact h2.2.1, by rw [h]; exact h2.2.2.1, by rw [h]; exact h2.2.2.2.1, by rw [h]; exact h2.2.2.2.2⟩
theorem kd_s {ii : iR} {K : Nat} (h : ii.kd = K) (h2 : K ≠ 26 ∧ K ≠ 16 ∧ K ≠ 17 ∧ K ≠ 18 ∧ K ≠ 19 ∧ K ≠ 20 ∧ K ≠ 21) : ii.kd ≠ 26 ∧ ii.kd ≠ 16 ∧ ii.kd ≠ 17 ∧ ii.kd ≠ 18 ∧ ii.kd ≠ 19 ∧ ii.kd ≠ 20 ∧ ii.kd ≠ 21 := by rw [h]; exact h2
/-- INPUT -/
theorem s_27 (hL : LFS R S0 g) (h : RQ R S0 vt tb i D k f x bs Sl k S) (hQ : D.Pe < 24000) (hk : (D.I k).kd = 27) : Rt (f_step R.K S) (fun S2 _ => RTt R S0 vt tb i D k f x bs Sl S S2) := by
  refine stp_27 h hQ hk (fun S1 h1 e70 e3 er el => ?_)
  have hp := h1.pt.1
  unfold tPt at hp
  rw [hk] at hp
  obtain ⟨⟨d0, hnt⟩, t2, ht, _, _, hw⟩ := hp
  have hb := h1.sb
  obtain ⟨c, c1, c2⟩ := h1.2.2.1.2.2.1
  refine Rt.bn (nin_ c2 c1) (fun S3 v ⟨q1, c3, q2, q3⟩ => ?_)
  have es : sam S1 S3 := ⟨by show (Zl S3 61, Zr S3 62, Zr S3 63) = (Zl S1 61, Zr S1 62, Zr S1 63); rw [q1.2.2.2.2.2.1 61 (by decide), q1.2.2.2.2.2.2.1], by rw [q1.2.2.2.2.2.2.1], by rw [q1.2.2.2.2.2.2.1], q1.2.2.2.2.2.2.2 64 (by decide), q1.2.2.2.2.2.2.2 65 (by decide)⟩
  have hX3 : RX Sl S3 := by
    obtain ⟨a1, a2, a3, ⟨d, d1, d2⟩, a5⟩ := h1.2.2.1
    refine ⟨a1.tr ⟨q1.1, q1.2.1, q1.2.2.1, q1.2.2.2.1, q1.2.2.2.2.1, fun r _ => by rw [q1.2.2.2.2.2.2.1], fun r hr => q1.2.2.2.2.2.1 r (by omega), fun j hj _ => q1.2.2.2.2.2.2.2 j (by omega)⟩, a2.eq (q1.2.2.2.2.2.2.2 83 (by decide)) (q1.2.2.2.2.2.2.2 84 (by decide)), ⟨c3, by omega, q3⟩, ⟨d, d1, (q1.2.2.2.2.2.2.2 66 (by decide)).trans d2⟩, (q1.2.2.2.2.2.2.2 81 (by decide)).trans a5⟩
  have h3 : RQ R S0 vt tb i D k f x bs Sl (k + 1) S3 := by
    obtain ⟨b1, b2, b3, ⟨b4, b5, b6⟩, b7, b8, b9, b10⟩ := h1
    exact ⟨b1, b2, hX3, ⟨(q1.2.2.2.2.2.2.2 77 (by decide)).trans b4, (q1.2.2.2.2.2.2.2 73 (by decide)).trans b5, (q1.2.2.2.2.2.2.2 76 (by decide)).trans b6⟩, b7, b8, b9.cg es (fun q _ => by rw [q1.2.2.2.2.2.1 72 (by decide)]), b10⟩
  refine Rt.bn (psh_ h3.2.2.2.1.2.1 (by omega)) (fun S2 _ ⟨r1, r2, r3, r4⟩ => ?_)
  unfold f_step_590
  have hn := h3.p0 hL (h3.e1 (kd_s hk (by decide))) (by omega) hnt hw (kdM_k hk (by decide)) d0.2.2.1 r1 (fun q hq => r4 q (by omega)) ((r1.2.2.2.2.2.2.2 77 (by decide)).trans h3.2.2.2.1.1) r2
  refine Rt.rt ⟨r1.rx hX3, Or.inr ⟨((r1.2.2.2.2.2.2.2 3 (by decide)).trans (q1.2.2.2.2.2.2.2 3 (by decide))).trans e3, ((r1.2.2.2.2.2.2.2 70 (by decide)).trans (q1.2.2.2.2.2.2.2 70 (by decide))).trans e70, hn.fr (q1.2.2.2.2.2.2.1.trans er) ?_⟩⟩
  rw [h3.2.2.2.1.2.2, h.2.2.2.1.2.2]
/-- SIGN -/
theorem s_4 (hL : LFS R S0 g) (h : RQ R S0 vt tb i D k f x bs Sl k S) (hQ : D.Pe < 24000) (hk : (D.I k).kd = 4) : Rt (f_step R.K S) (fun S2 _ => RTt R S0 vt tb i D k f x bs Sl S S2) := by
  have h24 := h.k24 hQ
  refine stp_4 h hQ hk (fun S1 h1 e70 e3 er el => ?_)
  have hp := h1.pt.1
  unfold tPt at hp
  rw [hk] at hp
  obtain ⟨d0, t1, t2, t3, r, ht1, ht2, ht3, hs, _, _, hw⟩ := hp
  have hb := h1.sb
  have h73 := h1.2.2.2.1.2.1
  rw [hs, wl_00p, wl_00p] at h73
  rw [hs, wl_00p, wl_00p] at hb
  refine Rt.bd (rI_n (show k < rlen 28 from h24) (by decide)) (Rt.bn (rsg_ (p := bs f + wl r) h73 (by omega)) (fun S2 _ ⟨q1, q2, q3⟩ => ?_))
  unfold f_step_590
  refine Rt.rt ⟨q1.rx h1.2.2.1, ?_⟩
  rcases q1 with ⟨w1, w2⟩ | ⟨w1, _⟩
  · refine Or.inr ⟨w1.trans e3, (w2.2.2.2.2.2.2.2 70 (by decide)).trans e70, (h1.op hL (h1.e1 (kd_s hk (by decide))) (P := [(0, t3, 0)]) (Or.inr ⟨t1, t2, ht1, ht2, hs⟩) (Or.inr ⟨t3, by omega, rfl⟩) hw (kdM_k hk (by decide)) d0.2.2.1 w2.sam (fun q hq => q3 q (by omega)) ((w2.2.2.2.2.2.2.2 77 (by decide)).trans h1.2.2.2.1.1) ?_ (by rw [w2.2.2.2.2.2.2.1]) (w2.2.2.2.2.2.2.2 76 (by decide))).fr er ?_⟩
    · rw [q2]
      show nI (bs f + wl r + 1) = nI (bs f + wl ((0, t3, 0) :: r))
      rw [wl_00p]; rfl
    · rw [h1.2.2.2.1.2.2, h.2.2.2.1.2.2]
  · exact Or.inl w1
/-- NOT -/
theorem s_5 (hL : LFS R S0 g) (h : RQ R S0 vt tb i D k f x bs Sl k S) (hQ : D.Pe < 24000) (hk : (D.I k).kd = 5) : Rt (f_step R.K S) (fun S2 _ => RTt R S0 vt tb i D k f x bs Sl S S2) := by
  refine stp_5 h hQ hk (fun S1 h1 e70 e3 er el => ?_)
  have hp := h1.pt.1
  unfold tPt at hp
  rw [hk] at hp
  obtain ⟨d0, t1, r, ht1, hs, _, _, hw⟩ := hp
  have hb := h1.sb
  have h73 := h1.2.2.2.1.2.1
  rw [hs, wl_00p] at h73
  rw [hs, wl_00p] at hb
  refine Rt.bn (pop_ (p := bs f + wl r) h73 (by omega)) (fun S3 v ⟨_, _, q1, q2, q3⟩ => Rt.bn (psh_ q2 (by omega)) (fun S2 _ ⟨r1, r2, r3, r4⟩ => ?_))
  unfold f_step_590
  have e := q1.tr r1
  refine Rt.rt ⟨e.rx h1.2.2.1, Or.inr ⟨(e.2.2.2.2.2.2.2 3 (by decide)).trans e3, (e.2.2.2.2.2.2.2 70 (by decide)).trans e70, (h1.op hL (h1.e1 (kd_s hk (by decide))) (P := [(0, t1, 0)]) (Or.inl ⟨t1, ht1, hs⟩) (Or.inr ⟨t1, by omega, rfl⟩) (by rw [hs] at hw; exact hw) (kdM_k hk (by decide)) d0.2.2.1 e.sam (fun q hq => by rw [r4 q (by omega), q3]) ((e.2.2.2.2.2.2.2 77 (by decide)).trans h1.2.2.2.1.1) ?_ (by rw [e.2.2.2.2.2.2.1]) (e.2.2.2.2.2.2.2 76 (by decide))).fr er ?_⟩⟩
  · rw [r2]
    show nI (bs f + wl r + 1) = nI (bs f + wl ((0, t1, 0) :: r))
    rw [wl_00p]; rfl
  · rw [h1.2.2.2.1.2.2, h.2.2.2.1.2.2]
/-- MINUS -/
theorem s_6 (hL : LFS R S0 g) (h : RQ R S0 vt tb i D k f x bs Sl k S) (hQ : D.Pe < 24000) (hk : (D.I k).kd = 6) : Rt (f_step R.K S) (fun S2 _ => RTt R S0 vt tb i D k f x bs Sl S S2) := by
  refine stp_6 h hQ hk (fun S1 h1 e70 e3 er el => ?_)
  have hp := h1.pt.1
  unfold tPt at hp
  rw [hk] at hp
  obtain ⟨d0, t1, r, ht1, hs, _, _, hw⟩ := hp
  have hb := h1.sb
  have h73 := h1.2.2.2.1.2.1
  rw [hs, wl_00p] at h73
  rw [hs, wl_00p] at hb
  unfold f_runMinus f_runMinus_19
  have hX := h1.2.2.1
  have hm : Rt (bnd (f_pop R.K S1) fun S1 v2 => if (lg_cmp v2 (-9223372036854775808)) = 0 then ((pM S1 3 7).bind fun S3 => bnd (f_push R.K S3 (-v2)) fun S4 v5 => some (S4, ())) else (bnd (f_push R.K S1 (-v2)) fun S4 v5 => some (S4, ()))) (fun S2 _ => RTt R S0 vt tb i D k f x bs Sl S S2) := by
    refine Rt.bn (pop_ (p := bs f + wl r) h73 (by omega)) (fun S3 v ⟨_, _, q1, q2, q3⟩ => Rt.it (fun _ => ?_) (fun _ => ?_))
    · refine Rt.bd (v := Ui S3 3 7) rfl (Rt.bn (psh_ (p := bs f + wl r) ((Zi_n (by decide)).trans q2) (by omega)) (fun S2 _ ⟨r1, r2, r3, r4⟩ => Rt.rt ⟨r1.rx (q1.rx hX).f3, Or.inl ?_⟩))
      rw [r1.2.2.2.2.2.2.2 3 (by decide), show Zi (Ui S3 3 7) 3 = 7 from Zi_s]; decide
    · refine Rt.bn (psh_ q2 (by omega)) (fun S2 _ ⟨r1, r2, r3, r4⟩ => ?_)
      have e := q1.tr r1
      refine Rt.rt ⟨e.rx h1.2.2.1, Or.inr ⟨(e.2.2.2.2.2.2.2 3 (by decide)).trans e3, (e.2.2.2.2.2.2.2 70 (by decide)).trans e70, (h1.op hL (h1.e1 (kd_s hk (by decide))) (P := [(0, t1, 0)]) (Or.inl ⟨t1, ht1, hs⟩) (Or.inr ⟨t1, by omega, rfl⟩) (by rw [hs] at hw; exact hw) (kdM_k hk (by decide)) d0.2.2.1 e.sam (fun q hq => by rw [r4 q (by omega), q3]) ((e.2.2.2.2.2.2.2 77 (by decide)).trans h1.2.2.2.1.1) ?_ (by rw [e.2.2.2.2.2.2.1]) (e.2.2.2.2.2.2.2 76 (by decide))).fr er ?_⟩⟩
      · rw [r2]
        show nI (bs f + wl r + 1) = nI (bs f + wl ((0, t1, 0) :: r))
        rw [wl_00p]; rfl
      · rw [h1.2.2.2.1.2.2, h.2.2.2.1.2.2]
  refine Rt.bn hm (fun S2 _ q => ?_)
  unfold f_step_590
  exact Rt.rt q
end PS59
end
-- m4.i.lean.txt
section
section PS60
variable {R : yR} {S0 Sl S S1 S2 S3 : Sg} {D : fD} {i k j f nw : Nat} {vt : Nat → Nat → Nat} {tb : Nat → lTb} {x : Nat → kFm} {bs : Nat → Nat} {g : Nat → Int32} {K : Ky} {p : Nat}
theorem WO.sam (e : WO S S2) : sam S S2 := ⟨by show (Zl S2 61, Zr S2 62, Zr S2 63) = (Zl S 61, Zr S 62, Zr S 63); rw [e.2.2.2.2.2.1, e.2.2.2.2.2.2.1 62 (by decide), e.2.2.2.2.2.2.1 63 (by decide)], e.2.2.2.2.2.2.1 74 (by decide), e.2.2.2.2.2.2.1 67 (by decide), e.2.2.2.2.2.2.2 64 (by decide), e.2.2.2.2.2.2.2 65 (by decide)⟩
theorem sam.tr (a : sam S S1) (b : sam S1 S2) : sam S S2 := ⟨b.1.trans a.1, b.2.1.trans a.2.1, b.2.2.1.trans a.2.2.1, b.2.2.2.1.trans a.2.2.2.1, b.2.2.2.2.trans a.2.2.2.2⟩
theorem RX.wo (h : RX Sl S) (e : WO S S2) (hw : wq S2) : RX Sl S2 := h.mk e.rn hw (e.2.2.2.2.2.2.2 86 (by decide)) (e.2.2.2.2.2.2.2 66 (by decide)) ((e.2.2.2.2.2.2.2 81 (by decide)).trans h.2.2.2.2)
/-- runPrint, behind the pop -/
theorem prt_ {o : Option Nat} {kd : Int32} {v : Int64} (hq : wq S) (ho : oI S 20 o 0 = some kd) : Rt ((oI S 20 o 0).bind fun v3 => if v3 = 0 then (bnd (f_writeNumber K S v) fun S4 v5 => f_runPrint_39 K S4) else (if (lg_cmp v 0) = 0 then (f_runPrint_36 K S 439721161573) else (f_runPrint_36 K S 1953658213))) (fun S2 _ => WO S S2 ∧ wq S2) := by
  have h39 : ∀ S4 : Sg, WO S S4 → wq S4 → Rt (f_runPrint_39 K S4) (fun S2 _ => WO S S2 ∧ wq S2) := fun S4 e w => by
    unfold f_runPrint_39
    exact Rt.bn (wrt_ w) (fun S5 _ q => Rt.rt ⟨e.tr q.1, q.2⟩)
  have h36 : ∀ z : Int64, Rt (f_runPrint_36 K S z) (fun S2 _ => WO S S2 ∧ wq S2) := fun z => by
    unfold f_runPrint_36
    exact Rt.bn (wrw_ hq) (fun S4 _ q => h39 S4 q.1 q.2)
  exact Rt.bd ho (Rt.it (fun _ => Rt.bn (wnm_ hq) (fun S4 _ q => h39 S4 q.1 q.2)) (fun _ => Rt.it (fun _ => h36 _) (fun _ => h36 _)))
/-- PRINT -/
theorem s_15 (hL : LFS R S0 g) (hx : LX S0 Sl) (h : RQ R S0 vt tb i D k f x bs Sl k S) (hQ : D.Pe < 24000) (hk : (D.I k).kd = 15) : Rt (f_step R.K S) (fun S2 _ => RTt R S0 vt tb i D k f x bs Sl S S2) := by
  have h24 := h.k24 hQ
  refine stp_15 h hQ hk (fun S1 h1 e70 e3 er el => ?_)
  have hp := h1.pt.1
  unfold tPt at hp
  rw [hk] at hp
  obtain ⟨d0, t1, r, ht1, hs, _, _, hw⟩ := hp
  have hb := h1.sb
  have h73 := h1.2.2.2.1.2.1
  rw [hs, wl_00p] at h73
  rw [hs, wl_00p] at hb
  obtain ⟨ty, y1, y2, y3⟩ := h1.2.1.2.2.2.2.2.2.2.1 (Or.inr (Or.inr hk))
  have hq39 : Zq S1 = Zq Sl := h1.2.2.1.1.2.2.2.1
  obtain ⟨kd, ix, o, q, _⟩ := y2.ty
  refine Rt.bd (v := some ty) (by rw [rQ_n (show k < rlen 39 from h24) (by decide), hq39, y1]) ?_
  unfold f_runPrint
  have hm : Rt (bnd (f_pop R.K S1) fun S1 v2 => (oI S1 20 (some ty) 0).bind fun v3 => if v3 = 0 then (bnd (f_writeNumber R.K S1 v2) fun S4 v5 => f_runPrint_39 R.K S4) else (if (lg_cmp v2 0) = 0 then (f_runPrint_36 R.K S1 439721161573) else (f_runPrint_36 R.K S1 1953658213))) (fun S2 _ => RTt R S0 vt tb i D k f x bs Sl S S2) := by
    refine Rt.bn (pop_ (p := bs f + wl r) h73 (by omega)) (fun S3 v ⟨_, _, q1, q2, q3⟩ => ?_)
    have hX3 := q1.rx h1.2.2.1
    obtain ⟨tn, _, _, z3, z4⟩ := hX3.1.ty (hx.ty q)
    refine (prt_ hX3.2.1 (oI_mk z3 z4 rfl)).mo (fun S2 _ ⟨w1, w2⟩ => ?_)
    refine ⟨hX3.wo w1 w2, Or.inr ⟨((w1.2.2.2.2.2.2.2 3 (by decide)).trans (q1.2.2.2.2.2.2.2 3 (by decide))).trans e3, ((w1.2.2.2.2.2.2.2 70 (by decide)).trans (q1.2.2.2.2.2.2.2 70 (by decide))).trans e70, (h1.op hL (h1.e1 (kd_s hk (by decide))) (P := []) (Or.inl ⟨t1, ht1, hs⟩) (Or.inl rfl) hw (kdM_k hk (by decide)) d0.2.2.1 (q1.sam.tr w1.sam) (fun q _ => by rw [w1.2.2.2.2.2.1, q3]) (((w1.2.2.2.2.2.2.2 77 (by decide)).trans (q1.2.2.2.2.2.2.2 77 (by decide))).trans h1.2.2.2.1.1) ((w1.2.2.2.2.2.2.2 73 (by decide)).trans q2) ((w1.2.2.2.2.2.2.1 75 (by decide)).trans (by rw [q1.2.2.2.2.2.2.1])) ((w1.2.2.2.2.2.2.2 76 (by decide)).trans (q1.2.2.2.2.2.2.2 76 (by decide)))).fr er ?_⟩⟩
    rw [h1.2.2.2.1.2.2, h.2.2.2.1.2.2]
  refine Rt.bn hm (fun S2 _ q => ?_)
  unfold f_step_590
  exact Rt.rt q
/-- JUMP -/
theorem s_16 (hL : LFS R S0 g) (h : RQ R S0 vt tb i D k f x bs Sl k S) (hQ : D.Pe < 24000) (hk : (D.I k).kd = 16) : Rt (f_step R.K S) (fun S2 _ => RTt R S0 vt tb i D k f x bs Sl S S2) := by
  have h24 := h.k24 hQ
  refine stp_16 h hQ hk (fun S1 h1 e70 e3 er el => ?_)
  have hp := h1.pt.1
  unfold tPt at hp
  rw [hk] at hp
  obtain ⟨⟨d0, hnt⟩, j, hj, _, _, hw⟩ := hp
  obtain ⟨j2, a1, a2, _⟩ := h1.r30 (Or.inl hk) h24
  obtain rfl : j2 = j := by
    have := (a2 hk).symm.trans hj
    exact (List.cons.inj this).1
  refine Rt.bd a1 (Rt.bd (v := Ui S1 77 (nI j2)) rfl ?_)
  unfold f_step_590
  refine Rt.rt ⟨h1.2.2.1.u77, Or.inr ⟨(Zi_n (by decide)).trans e3, (Zi_n (by decide)).trans e70, (h1.id0 hL (h1.ed (by rw [hj]; exact List.mem_singleton_self _)) hnt hw (kdM_k hk (by decide)) d0.2.2.1 (Ui.sam9 (by decide) (by decide)) (fun _ _ => rfl) Zi_s ((Zi_n (by decide)).trans h1.2.2.2.1.2.1) rfl (Zi_n (by decide))).fr er ?_⟩⟩
  rw [h1.2.2.2.1.2.2, h.2.2.2.1.2.2]
/-- FUEL -/
theorem s_0 {fu : Nat} (hL : LFS R S0 g) (h : RQ R S0 vt tb i D k f x bs Sl k S) (hQ : D.Pe < 24000) (hk : (D.I k).kd = 0) (hf : Zi S 70 = nI fu) (hf2 : fu ≤ 20000) : Rt (f_step R.K S) (fun S2 _ => RX Sl S2 ∧ (Zi S2 3 ≠ 0 ∨ (Zi S2 3 = Zi S 3 ∧ (∃ m : Nat, fu = m + 1 ∧ Zi S2 70 = nI m) ∧ NXt R S0 vt tb i D k f x bs S S2))) := by
  refine stp_0 h hQ hk (fun S1 h1 e70 e3 er el => ?_)
  have hp := h1.pt.1
  unfold tPt at hp
  rw [hk] at hp
  obtain ⟨⟨d0, hnt⟩, _, _, hw⟩ := hp
  unfold f_burn f_burn_26
  have hm : Rt (if (Zi S1 70) = 0 then ((pM S1 3 8).bind fun S2 => some (S2, ())) else ((pM S1 70 ((Zi S1 70) - 1)).bind fun S1 => some (S1, ()))) (fun S2 _ => RX Sl S2 ∧ (Zi S2 3 ≠ 0 ∨ (Zi S2 3 = Zi S 3 ∧ (∃ m : Nat, fu = m + 1 ∧ Zi S2 70 = nI m) ∧ NXt R S0 vt tb i D k f x bs S S2))) := by
    refine Rt.it (fun _ => Rt.bd (v := Ui S1 3 8) rfl (Rt.rt ⟨h1.2.2.1.f3, Or.inl ?_⟩)) (fun w => ?_)
    · rw [show Zi (Ui S1 3 8) 3 = 8 from Zi_s]; decide
    · cases fu with
      | zero => exact absurd (e70.trans hf) w
      | succ m =>
        refine Rt.bd (v := Ui S1 70 (nI m)) (by rw [e70, hf, nI_pred]; rfl) (Rt.rt ⟨h1.2.2.1.u70, Or.inr ⟨(Zi_n (by decide)).trans e3, ⟨m, rfl, Zi_s⟩, (h1.id0 hL (h1.e1 (kd_s hk (by decide))) hnt hw (kdM_k hk (by decide)) d0.2.2.1 (Ui.sam9 (by decide) (by decide)) (fun _ _ => rfl) ((Zi_n (by decide)).trans h1.2.2.2.1.1) ((Zi_n (by decide)).trans h1.2.2.2.1.2.1) rfl (Zi_n (by decide))).fr er ?_⟩⟩)
        rw [h1.2.2.2.1.2.2, h.2.2.2.1.2.2]
  refine Rt.bn hm (fun S2 _ q => ?_)
  unfold f_step_590
  exact Rt.rt q
/-- UNLESS -/
theorem s_17 (hL : LFS R S0 g) (h : RQ R S0 vt tb i D k f x bs Sl k S) (hQ : D.Pe < 24000) (hk : (D.I k).kd = 17) : Rt (f_step R.K S) (fun S2 _ => RTt R S0 vt tb i D k f x bs Sl S S2) := by
  have h24 := h.k24 hQ
  refine stp_17 h hQ hk (fun S1 h1 e70 e3 er el => ?_)
  have hp := h1.pt.1
  unfold tPt at hp
  rw [hk] at hp
  obtain ⟨d0, t1, j, r, ht1, hs, hsc, ⟨_, _, hw1⟩, _, _, hw2⟩ := hp
  have hb := h1.sb
  have h73 := h1.2.2.2.1.2.1
  rw [hs, wl_00p] at h73
  rw [hs, wl_00p] at hb
  refine Rt.bn (pop_ (p := bs f + wl r) h73 (by omega)) (fun S3 v ⟨s3, _, q1, q2, q3⟩ => Rt.it (fun _ => ?_) (fun _ => ?_))
  · obtain ⟨j2, a1, _, a2⟩ := h1.r30 (Or.inr (Or.inl hk)) h24
    obtain rfl : j2 = j := by
      have := (a2 (by rw [hk]; decide)).symm.trans hsc
      exact (List.cons.inj (List.cons.inj this).2).1
    refine Rt.bd (v := nI j2) (by rw [← a1, s3]; rfl) (Rt.bd (v := Ui S3 77 (nI j2)) rfl ?_)
    unfold f_step_590
    have ea : sam S1 (Ui S3 77 (nI j2)) := q1.sam.tr (Ui.sam9 (by decide) (by decide))
    refine Rt.rt ⟨(q1.rx h1.2.2.1).u77, Or.inr ⟨((Zi_n (by decide)).trans (q1.2.2.2.2.2.2.2 3 (by decide))).trans e3, ((Zi_n (by decide)).trans (q1.2.2.2.2.2.2.2 70 (by decide))).trans e70, (h1.op hL (h1.ed (by rw [hsc]; exact List.mem_cons_of_mem _ (List.mem_singleton_self _))) (P := []) (Or.inl ⟨t1, ht1, hs⟩) (Or.inl rfl) hw2 (kdM_k hk (by decide)) d0.2.2.1 ea (fun q _ => by show Zl S3 72 q = _; rw [q3]) Zi_s ((Zi_n (by decide)).trans q2) (by show Zr S3 75 = _; rw [q1.2.2.2.2.2.2.1]) ((Zi_n (by decide)).trans (q1.2.2.2.2.2.2.2 76 (by decide)))).fr er ?_⟩⟩
    rw [h1.2.2.2.1.2.2, h.2.2.2.1.2.2]
  · unfold f_step_590
    refine Rt.rt ⟨q1.rx h1.2.2.1, Or.inr ⟨(q1.2.2.2.2.2.2.2 3 (by decide)).trans e3, (q1.2.2.2.2.2.2.2 70 (by decide)).trans e70, (h1.op hL (h1.ed (by rw [hsc]; exact List.mem_cons_self ..)) (P := []) (Or.inl ⟨t1, ht1, hs⟩) (Or.inl rfl) hw1 (kdM_k hk (by decide)) d0.2.2.1 q1.sam (fun q _ => by rw [q3]) ((q1.2.2.2.2.2.2.2 77 (by decide)).trans h1.2.2.2.1.1) q2 (by rw [q1.2.2.2.2.2.2.1]) (q1.2.2.2.2.2.2.2 76 (by decide))).fr er ?_⟩⟩
    rw [h1.2.2.2.1.2.2, h.2.2.2.1.2.2]
/-- AND, OR -/
theorem s_419 (hL : LFS R S0 g) (h1 : RQ R S0 vt tb i D k f x bs Sl (k + 1) S1) (hQ : D.Pe < 24000) (hk : (D.I k).kd = 18 ∨ (D.I k).kd = 19) (hz : Zi S1 76 = Zi S 76) (e70 : Zi S1 70 = Zi S 70) (e3 : Zi S1 3 = Zi S 3) (er : Zr S1 = Zr S) : Rt (f_step_419 R.K S1 (nI k)) (fun S2 _ => RTt R S0 vt tb i D k f x bs Sl S S2) := by
  have h24 := h1.k24 hQ
  have hp := h1.pt.1
  have hp2 : iD0 (D.I k) ∧ ∃ (t j : Nat) (r : List tE), (t = 1 ∨ t = 2) ∧ D.st k = (0, t, 0) :: r ∧ (D.I k).sc = [k + 1, j] ∧ (D.Ps ≤ k + 1 ∧ k + 1 < D.Pe ∧ wkS r (D.st (k + 1))) ∧ (D.Ps ≤ j ∧ j < D.Pe ∧ wkS (D.st k) (D.st j)) := by
    unfold tPt at hp
    rcases hk with e | e
    · rw [e] at hp; exact hp
    · rw [e] at hp; exact hp
  obtain ⟨d0, t1, j, r, ht1, hs, hsc, ⟨_, _, hw1⟩, _, _, hw2⟩ := hp2
  have hkm : kdM (D.I k) := by
    rcases hk with e | e
    · exact kdM_k e (by decide)
    · exact kdM_k e (by decide)
  have hb := h1.sb
  have h73 := h1.2.2.2.1.2.1
  rw [hs, wl_00p] at h73
  rw [hs, wl_00p] at hb
  have hnt : nT (D.st k) := by rw [hs]; exact nT_c (pnE_k (Or.inl rfl))
  have h446 : ∀ (y0 : Int32) (v : Int64), Rt (f_step_446 R.K S1 (nI k) y0 v) (fun S2 _ => RTt R S0 vt tb i D k f x bs Sl S S2) := fun y0 v => by
    unfold f_step_446 f_step_590
    refine Rt.it (fun _ => ?_) (fun _ => ?_)
    · obtain ⟨j2, a1, _, a2⟩ := h1.r30 (Or.inr (Or.inr hk)) h24
      obtain rfl : j2 = j := by
        have := (a2 (by rcases hk with e | e <;> rw [e] <;> decide)).symm.trans hsc
        exact (List.cons.inj (List.cons.inj this).2).1
      refine Rt.bd a1 (Rt.bd (v := Ui S1 77 (nI j2)) rfl (Rt.rt ⟨h1.2.2.1.u77, Or.inr ⟨(Zi_n (by decide)).trans e3, (Zi_n (by decide)).trans e70, (h1.id0 hL (h1.ed (by rw [hsc]; exact List.mem_cons_of_mem _ (List.mem_singleton_self _))) hnt hw2 hkm d0.2.2.1 (Ui.sam9 (by decide) (by decide)) (fun _ _ => rfl) Zi_s ((Zi_n (by decide)).trans h1.2.2.2.1.2.1) rfl (Zi_n (by decide))).fr er hz⟩⟩))
    · rw [h73]
      refine Rt.bd (v := Ui S1 73 (nI (bs f + wl r))) (by rw [show nI (bs f + (wl r + 1)) - 1 = nI (bs f + wl r) from nI_pred _]; rfl) (Rt.rt ?_)
      have q1 : SO S1 (Ui S1 73 (nI (bs f + wl r))) := ⟨rfl, rfl, ⟨rfl, rfl⟩, rfl, rfl, fun _ _ => rfl, rfl, fun j hj => Zi_n hj⟩
      exact ⟨q1.rx h1.2.2.1, Or.inr ⟨(Zi_n (by decide)).trans e3, (Zi_n (by decide)).trans e70, (h1.op hL (h1.ed (by rw [hsc]; exact List.mem_cons_self ..)) (P := []) (Or.inl ⟨t1, ht1, hs⟩) (Or.inl rfl) hw1 hkm d0.2.2.1 q1.sam (fun _ _ => rfl) ((Zi_n (by decide)).trans h1.2.2.2.1.1) Zi_s rfl (Zi_n (by decide))).fr er hz⟩⟩
  unfold f_step_419
  rw [h73, show nI (bs f + (wl r + 1)) - 1 = nI (bs f + wl r) from nI_pred _]
  refine Rt.bd (rJ_n (show bs f + wl r < rlen 72 from by show _ < 20000; omega) (by decide)) (Rt.bd (rI_n (show k < rlen 27 from h24) (by decide)) (Rt.it (fun _ => h446 _ _) (fun _ => h446 _ _)))
theorem s_18 (hL : LFS R S0 g) (h : RQ R S0 vt tb i D k f x bs Sl k S) (hQ : D.Pe < 24000) (hk : (D.I k).kd = 18) : Rt (f_step R.K S) (fun S2 _ => RTt R S0 vt tb i D k f x bs Sl S S2) := stp_18 h hQ hk (fun S1 h1 e70 e3 er el => s_419 hL h1 hQ (Or.inl hk) (by rw [h1.2.2.2.1.2.2, h.2.2.2.1.2.2]) e70 e3 er)
theorem s_19 (hL : LFS R S0 g) (h : RQ R S0 vt tb i D k f x bs Sl k S) (hQ : D.Pe < 24000) (hk : (D.I k).kd = 19) : Rt (f_step R.K S) (fun S2 _ => RTt R S0 vt tb i D k f x bs Sl S S2) := stp_19 h hQ hk (fun S1 h1 e70 e3 er el => s_419 hL h1 hQ (Or.inr hk) (by rw [h1.2.2.2.1.2.2, h.2.2.2.1.2.2]) e70 e3 er)
end PS60
end
-- m4.j.lean.txt
section
section PS61
variable {R : yR} {S0 Sl S S1 S2 S3 : Sg} {g : Nat → Int32} {w v T : Nat} {ρ : lLc}
/-- a path's rows -/
def pRw (R : yR) (S0 Sl : Sg) (w va : Nat) (ρ : lLc) (f : Nat → Int32) (G : Nat → Option Nat) (sa ta : Nat) : Prop := w ∈ ZL Sl ∧ ZF Sl w = .inr (18, [.ref va, .int (nI ρ.length), .ref sa, .ref ta]) ∧ (sa ∈ ZL Sl ∧ ZF Sl sa = .inl (R.K.1 0, ρ.length, .inl f)) ∧ (ta ∈ ZL Sl ∧ ZF Sl ta = .inl (R.K.1 4, ρ.length + 1, .inr (.inr (.inr (.inr G))))) ∧ (∀ (j : Nat) (s : Nat × Nat), ρ[j]? = some s → f j = sCo s ∧ ∃ x y : Nat, G j = some x ∧ G (j + 1) = some y ∧ stY2 R S0 x s y) ∧ ρ.length ≤ 5
theorem sCo_m0 {j : Nat} : sCo (0, j) = nI j := if_pos rfl
theorem sCo_m1 {j : Nat} : sCo (1, j) = -1 := by
  unfold sCo
  rw [if_neg (show ¬ (1 : Nat) = 0 by decide), if_pos rfl]
theorem sCo_mp {q j : Nat} : sCo (q + 2, j) = nI (1000 + 16 * q + j) := by
  unfold sCo
  rw [if_neg (show ¬ q + 2 = 0 by omega), if_neg (show ¬ q + 2 = 1 by omega)]
  show nI (1000 + 16 * (q + 2 - 2) + j) = _
  rw [show q + 2 - 2 = q by omega]
theorem nI_s1000 {a : Nat} : nI (1000 + a) - 1000 = nI a := by
  rw [Nat.add_comm, ← nI_add, Int32.sub_eq_add_neg, Int32.add_assoc, show nI 1000 + -1000 = 0 by decide, Int32.add_zero]
theorem psN_lt {w : Nat → Nat} {a n m : Nat} (h : a ≤ n) (hm : psN w n ≤ m) : psN w a ≤ m := Nat.le_trans (psN_mo h) hm
/-- find's loop over what isn't a reference -/
theorem fn17 {va sa ta m : Nat} {f : Nat → Int32} {G : Nat → Option Nat} (hL : LFS R S0 g) (hx : LX S0 Sl) (e : RNx Sl S) (hp : pRw R S0 Sl w va ρ f G sa ta) (hm : m ≤ ρ.length) : ∀ (d : Nat) (π : lLc) (q n n2 x : Nat), q + π.length = m → m < q + d → (∀ t : Nat, t < π.length → ρ[q + t]? = π[t]?) → G q = some x → vTy S0 x → n < 430000 → wRn (yT R S0) (zN R S0) (nMS S) (abV S0 x) n π n2 → f_find_17 R.K d S (some w) (nI m) (nI n) (nI q) = some (S, nI n2)
  | 0, π, q, n, n2, x, h1, h2, _, _, _, _, _ => by omega
  | d + 1, [], q, n, n2, x, h1, h2, _, _, _, _, hw => by
    have h1 : q + 0 = m := h1
    have hw : n2 = n := hw
    subst hw
    unfold f_find_17
    rw [if_pos (nI_le (a := m) (b := q) (by omega) (by have := hp.2.2.2.2.2; omega))]
  | d + 1, s :: π, q, n, n2, x, h1, h2, h3, hg, hv, hn, hw => by
    have hY := hL.1
    have hyk := nYk_of hL
    obtain ⟨p1, p2, p3, p4, p5, p6⟩ := hp
    have h1 : q + (π.length + 1) = m := h1
    have hs : ρ[q]? = some s := (h3 0 (by show 0 < π.length + 1; omega)).trans rfl
    obtain ⟨f1, x2, y2, g1, g2, st⟩ := p5 q s hs
    rw [hg] at g1; cases g1
    obtain ⟨hv2, hq⟩ := st.qw hY hv
    have hqw := hq (π := []) (t := abV S0 y2) rfl
    have hrt : rTy S0 x := Or.inl hv
    have eab : abT S0 x = abV S0 x := (hv.nm hY).2.2
    have ih : ∀ n1 : Nat, n1 < 430000 → wRn (yT R S0) (zN R S0) (nMS S) (abV S0 y2) n1 π n2 → f_find_17 R.K d S (some w) (nI m) (nI n1) (nI q + 1) = some (S, nI n2) := fun n1 a b => by
      rw [nI_1]
      exact fn17 hL hx e ⟨p1, p2, p3, p4, p5, p6⟩ hm d π (q + 1) n1 n2 y2 (by omega) (by omega) (fun t ht => by
        have := h3 (t + 1) (by show t + 1 < π.length + 1; omega)
        rw [List.getElem?_cons_succ] at this
        rw [← this]; congr 1; omega) g2 hv2 a b
    have r1 : oR S 18 (some w) 2 = some (some sa) := oR_mk (v := some sa) (by rw [e.1]; exact p1) (by rw [e.2.1]; exact p2) rfl
    have r2 : aI R.K S (some sa) (nI q) = some (f q) := aI_n (by rw [e.1]; exact p3.1) (by rw [e.2.1]; exact p3.2) (show q < ρ.length by omega) (by omega)
    have r3 : oR S 18 (some w) 3 = some (some ta) := oR_mk (v := some ta) (by rw [e.1]; exact p1) (by rw [e.2.1]; exact p2) rfl
    have r4 : aQ R.K 4 S (some ta) (nI q) = some (some x) := by
      rw [← hg]; exact aQ_n (by rw [e.1]; exact p4.1) (by rw [e.2.1]; exact p4.2) (show q < ρ.length + 1 by omega) (by omega)
    unfold f_find_17
    rw [if_neg (Int32.not_le.mpr (nI_lt (a := q) (b := m) (by omega) (by omega))), r1]
    simp only [Option.bind_some]
    rw [r2]
    simp only [Option.bind_some]
    rw [r3]
    simp only [Option.bind_some]
    rw [r4]
    simp only [Option.bind_some]
    rw [f1]
    match s, hw, hqw with
    | (0, j), hw, hqw =>
      obtain ⟨L, n1, w1, w2, w3, w4⟩ := hw
      obtain ⟨a1, a2, a3⟩ := hqw
      have a1 : yK R S0 (abV S0 x) = 2 := a1
      have a2 : j < yP R S0 (abV S0 x) 0 := a2
      have a3 : abV S0 y2 = yQ R S0 (abV S0 x) 0 j := a3
      have hj12 := (hyk.2.2.1 (abV S0 x) a1).2.2.2.1
      have hj12 : yP R S0 (abV S0 x) 0 ≤ 12 := hj12
      rw [sCo_m0, if_pos (show nI j < 1000 from nI_lt (a := j) (b := 1000) (by omega) (by decide)), if_neg (nI_nn (by omega))]
      obtain ⟨i9, tb9, F, v1, v2, v3, v4, v5, v6, v7, v8⟩ := vwS hL hx e hrt (by rw [eab]; exact a1)
      rw [v2]
      simp only [Option.bind_some]
      rw [v3]
      simp only [Option.bind_some]
      rw [v4]
      simp only [Option.bind_some]
      have ep : psN (fun t => zN R S0 (abU S0 (F t))) j = psN (fun t => zN R S0 ((yT R S0).2.2.2.2 (abV S0 x) 0 t)) j := psN_cg (fun t ht => by
        obtain ⟨z, z1, z2, z3⟩ := v8 t (by rw [eab]; omega)
        rw [z1]
        show zN R S0 (abT S0 z) = zN R S0 (yQ R S0 (abV S0 x) 0 t)
        rw [z3, eab])
      have e16 : psN (fun t => zN R S0 ((yT R S0).2.2.2.2 (abV S0 x) 0 t)) j ≤ 16 := psN_lt (n := yP R S0 (abV S0 x) 0) (by omega) (by
        have := (hyk.2.2.1 (abV S0 x) a1).1
        have h16 := (hyk.1 (abV S0 x)).2.1
        rw [this] at h16; exact h16)
      rw [pof_ (L := L) (b := n1) hL hx e v6 ⟨by omega, by decide⟩ (fun t z ht hz => by
        obtain ⟨z9, z1, z2, _⟩ := v8 t (by rw [eab]; omega)
        rw [hz] at z1; cases z1; exact Or.inl z2) w1 w2 (by rw [ep]; exact w3) (by rw [ep]; omega)]
      show f_find_162 R.K (f_find_17 R.K d) S (some w) (nI m) (nI n1) (nI q) = _
      unfold f_find_162
      exact ih n1 (w1.1 n1 (List.mem_of_getElem? w3)).2 (by rw [a3]; exact w4)
    | (1, j), hw, hqw =>
      obtain ⟨mm, n1, w1, w2, w3, w4, w5⟩ := hw
      obtain ⟨_, a1, a3⟩ := hqw
      have a1 : yK R S0 (abV S0 x) = 4 := a1
      have a3 : abV S0 y2 = yO S0 (abV S0 x) := a3
      rw [sCo_m1, if_pos (by decide), if_pos (by decide)]
      obtain ⟨u, v1, _⟩ := vwB hL hx e hrt (by rw [eab]; exact a1)
      rw [v1]
      simp only [Option.bind_some]
      rw [if_pos trivial, rJ_n (show n < rlen 61 from hn) (by decide)]
      simp only [Option.bind_some]
      rw [show Zl S 61 n = nL mm from w1, nL_t]
      have hk : f_kidOf R.K S (nI mm) = some (S, nI n1) := by
        unfold f_kidOf
        rw [rJ_n (show mm < rlen 61 from w2.2) (by decide)]
        simp only [Option.bind_some]
        show some (S, kdW (Zl S 61 mm)) = _
        rw [show kdW (Zl S 61 mm) = nI n1 from w3]
      rw [hk]
      show f_find_161 R.K (f_find_17 R.K d) S (some w) (nI m) (nI q) (nI n1) = _
      unfold f_find_161 f_find_162
      exact ih n1 w4 (by rw [a3]; exact w5)
    | (p + 2, j), hw, hqw =>
      obtain ⟨mm, n0, L, n1, w1, w2, w3, w4, w5, w6, w7, w8⟩ := hw
      obtain ⟨a1, a4, a2, a3⟩ := hqw
      have a1 : yK R S0 (abV S0 x) = 3 := a1
      have a2 : j < yP R S0 (abV S0 x) p := a2
      have a3 : abV S0 y2 = yQ R S0 (abV S0 x) p j := a3
      obtain ⟨b1, b2, b3⟩ := hyk.2.2.2 (abV S0 x) p a1 a4
      have b2 : yP R S0 (abV S0 x) p ≤ 12 := b2
      obtain ⟨i9, vr, pa, ot, F, v1, v2, v3, v4, v5, v6, v7, v8, v9⟩ := vwE (v := p) hL hx e hrt (by rw [eab]; exact a1) (by rw [eab]; exact a4)
      rw [sCo_mp, if_neg (Int32.not_lt.mpr (show (1000 : Int32) ≤ nI (1000 + 16 * p + j) from nI_le (a := 1000) (b := 1000 + 16 * p + j) (by omega) (by omega)))]
      rw [v2]
      simp only [Option.bind_some]
      rw [v3]
      simp only [Option.bind_some]
      rw [v4]
      simp only [Option.bind_some]
      rw [Nat.add_assoc, nI_s1000]
      have sh : nI (16 * p + j) >>> (4 &&& 31) = nI p := by
        have := nI_shr (a := 16 * p + j) (k := 4) (by omega) (by decide)
        rw [show (16 * p + j) / 2 ^ 4 = p by omega] at this
        exact this
      have an : nI (16 * p + j) &&& 15 = nI j := by
        rw [nI_and15, show (16 * p + j) % 16 = j by omega]
      rw [sh, an, (v5 S e).1]
      simp only [Option.bind_some]
      rw [(v5 S e).2.1]
      simp only [Option.bind_some]
      rw [rJ_n (show n < rlen 61 from hn) (by decide)]
      simp only [Option.bind_some]
      rw [show Zl S 61 n = nL mm from w1, nL_t]
      have hk : f_kidOf R.K S (nI mm) = some (S, nI n0) := by
        unfold f_kidOf
        rw [rJ_n (show mm < rlen 61 from w2.2) (by decide)]
        simp only [Option.bind_some]
        show some (S, kdW (Zl S 61 mm)) = _
        rw [show kdW (Zl S 61 mm) = nI n0 from w3]
      rw [hk]
      have hy0 : ¬ yP R S0 (abT S0 x) p = 0 := by rw [eab]; omega
      obtain ⟨ta9, t1, t2⟩ := v8.resolve_left hy0
      have ep : psN (fun t => zN R S0 (abU S0 (F t))) j = psN (fun t => zN R S0 ((yT R S0).2.2.2.2 (abV S0 x) p t)) j := psN_cg (fun t ht => by
        obtain ⟨z, z1, z2, z3⟩ := v9 t (by rw [eab]; omega)
        rw [z1]
        show zN R S0 (abT S0 z) = zN R S0 (yQ R S0 (abV S0 x) p t)
        rw [z3, eab])
      have e16 : psN (fun t => zN R S0 ((yT R S0).2.2.2.2 (abV S0 x) p t)) j ≤ 16 := psN_lt (n := yP R S0 (abV S0 x) p) (by omega) b3
      show bnd (f_partOf R.K S ot (nI n0) (nI j)) (fun S27 v28 => f_find_162 R.K (f_find_17 R.K d) S27 (some w) (nI m) v28 (nI q)) = _
      rw [t1, pof_ (L := L) (b := n1) hL hx e t2 ⟨by omega, by decide⟩ (fun t z ht hz => by
        obtain ⟨z9, z1, z2, _⟩ := v9 t (by rw [eab]; omega)
        rw [hz] at z1; cases z1; exact Or.inl z2) w5 w6 (by rw [ep]; exact w7) (by rw [ep]; omega)]
      show f_find_162 R.K (f_find_17 R.K d) S (some w) (nI m) (nI n1) (nI q) = _
      unfold f_find_162
      exact ih n1 (w5.1 n1 (List.mem_of_getElem? w7)).2 (by rw [a3]; exact w8)
end PS61
end
-- m4.k.lean.txt
section
/-- a way from a variable's node, through a reference too -/
def gWk (y : qY) (zn : Nat → Nat) (M : nM) (T n : Nat) (ρ : lLc) (n2 : Nat) : Prop := (¬ isRf T ∧ wRn y zn M T n ρ n2) ∨ (isRf T ∧ ∃ (ρ2 : lLc) (n1 : Nat), ρ = (1, 0) :: ρ2 ∧ M.w n = nL n1 ∧ n1 < 430000 ∧ wRn y zn M (y.2.1 T) n1 ρ2 n2)
section PS62
variable {R : yR} {S0 Sl S S1 S2 S3 : Sg} {g : Nat → Int32} {y : qY} {vt : Nat → Nat → Nat} {tb : Nat → lTb} {zn sz rk : Nat → Nat} {M : nM} {sk : Nat → Int64} {pl : Nat → Int32} {f : Nat} {x : Nat → kFm} {rt : Nat × Nat → Nat} {V : Nat × Nat → qV} {bs : Nat → Nat} {C L H : Nat × Nat → List Nat} {v T : Nat} {ρ : lLc}
theorem yRf {t : Nat} : ((yT R S0).1 t = 5 ∨ (yT R S0).1 t = 6) ↔ isRf t := by
  constructor
  · intro h
    by_cases c : 10000 ≤ t
    · by_cases c2 : t < 30000
      · exact ⟨c, c2⟩
      · have e : (yT R S0).1 t = 0 := by
          show yK R S0 t = 0
          unfold yK
          rw [if_pos c, if_neg c2]
        rw [e] at h; rcases h with z | z <;> cases z
    · exfalso
      have h : yK R S0 t = 5 ∨ yK R S0 t = 6 := h
      have hb : ∀ T : Nat, 10000 ≤ T → T < 30000 → True := fun _ _ _ => trivial
      unfold yK at h
      rw [if_neg c] at h
      by_cases c2 : 4 ≤ t ∧ t < 4 + R.im
      · rw [if_pos c2] at h
        by_cases c3 : R.ik (t - 4) = 10
        · rw [if_pos c3] at h; rcases h with z | z <;> cases z
        · rw [if_neg c3] at h
          by_cases c4 : R.ik (t - 4) = 11
          · rw [if_pos c4] at h; rcases h with z | z <;> cases z
          · rw [if_neg c4] at h; rcases h with z | z <;> cases z
      · rw [if_neg c2] at h
        by_cases c3 : 100 ≤ t ∧ t < 100 + tmS S0
        · rw [if_pos c3] at h
          cases hz : Zq S0 18 (t - 100) with
          | none => rw [hz] at h; simp at h
          | some z =>
            rw [hz] at h
            by_cases c4 : fN (obF S0 z) 0 = 5
            · simp [c4] at h
            · simp [c4] at h
        · rw [if_neg c3] at h; rcases h with z | z <;> cases z
  · intro h
    obtain ⟨h1, h2⟩ := h
    show yK R S0 t = 5 ∨ yK R S0 t = 6
    unfold yK
    rw [if_pos h1, if_pos h2]
    by_cases c : t % 2 = 0
    · rw [if_pos c]; exact Or.inl rfl
    · rw [if_neg c]; exact Or.inr rfl
theorem wRn.cut : ∀ {π σ : lLc} {T T1 n n2 : Nat}, wRn y zn M T n (π ++ σ) n2 → qW y T π T1 → ∃ n1 : Nat, wRn y zn M T n π n1 ∧ wRn y zn M T1 n1 σ n2
  | [], σ, T, T1, n, n2, h, hq => by
    obtain rfl := (show _ = _ from hq)
    exact ⟨n, rfl, h⟩
  | (0, j) :: π, σ, T, T1, n, n2, ⟨L, n1, a, b, c, d⟩, hq => by
    obtain ⟨m, m1, m2⟩ := wRn.cut (π := π) d hq.2.2
    exact ⟨m, ⟨L, n1, a, b, c, m1⟩, m2⟩
  | (1, j) :: π, σ, T, T1, n, n2, ⟨q, n1, a, b, c, d, e⟩, hq => by
    obtain ⟨m, m1, m2⟩ := wRn.cut (π := π) e hq.2.2
    exact ⟨m, ⟨q, n1, a, b, c, d, m1⟩, m2⟩
  | (p + 2, j) :: π, σ, T, T1, n, n2, ⟨q, n0, L, n1, a, b, c, d, e, e2, e3, e4⟩, hq => by
    obtain ⟨m, m1, m2⟩ := wRn.cut (π := π) e4 hq.2.2.2
    exact ⟨m, ⟨q, n0, L, n1, a, b, c, d, e, e2, e3, m1⟩, m2⟩
/-- a way ends at a node -/
theorem wRn.lt : ∀ {π : lLc} {T n n2 : Nat}, n < 430000 → wRn y zn M T n π n2 → n2 < 430000
  | [], _, _, _, h, q => by rw [show _ = _ from q]; exact h
  | (0, j) :: π, T, n, n2, h, ⟨L, n1, a, b, c, d⟩ => wRn.lt (a.1 n1 (List.mem_of_getElem? c)).2 d
  | (1, j) :: π, T, n, n2, h, ⟨q, n1, a, b, c, d, e⟩ => wRn.lt d e
  | (p + 2, j) :: π, T, n, n2, h, ⟨q, n0, L, n1, a, b, c, d, e, e2, e3, e4⟩ => wRn.lt (e.1 n1 (List.mem_of_getElem? e3)).2 e4
theorem kN.hd (hy : nYk y zn sz rk) (h : kN y zn sz M sk pl f x rt V bs C L H) {d : Nat × Nat} (h1 : d.1 ≤ f) (h2 : d.2 < 40) (h3 : (8, d.2, 0) ∈ (x d.1).2.1) : plR y sz M (rt d) (V d) (pl (40 * d.1 + d.2)) (C d) (L d) (H d) ∧ 1 ≤ (C d).length ∧ hdN (C d) < 430000 := by
  have hp : plR y sz M (rt d) (V d) (pl (40 * d.1 + d.2)) (C d) (L d) (H d) := (h.1 d.1 d.2 h1).1 h2 h3
  obtain ⟨⟨k, q1⟩, q2, _⟩ := id hp
  have hl : 1 ≤ (C d).length := by rw [q1.len hy]; exact (hy.1 _).1
  exact ⟨hp, hl, (q2.1 _ (hdN_i hl)).2⟩
/-- where a place lies -/
theorem plN (hy : nYk (yT R S0) zn sz rk) (hJ : kJ (yT R S0) vt tb f x rt V) (hN : kN (yT R S0) zn sz M sk pl f x rt V bs C L H) (hv4 : v < 40) (hvS : (8, v, 0) ∈ (x f).2.1) (hp : pTy (yT R S0) (vt (x f).1 v) ρ T) (hms : qMs ρ) (hfu : fuL (yT R S0) (klo (x f)) v ρ T) (hal : isRf (vt (x f).1 v) → kal (x f) v ∧ ρ ≠ []) :
  ∃ (d : Nat × Nat) (π : lLc) (n : Nat), (d.1 ≤ f ∧ d.2 < 40 ∧ (8, d.2, 0) ∈ (x d.1).2.1) ∧ qW (yT R S0) (rt d) π T ∧ qF (yT R S0) (V d) π T ∧ wRn (yT R S0) zn M (rt d) (hdN (C d)) π n ∧ n < 430000 ∧ gWk (yT R S0) zn M (vt (x f).1 v) (hdN (C (f, v))) ρ n ∧ ((d = (f, v) ∧ π = ρ ∧ ¬ isRf (vt (x f).1 v)) ∨ ∃ π0 ρ2 : lLc, kR (x f) v = some (d :: π0) ∧ π = π0 ++ ρ2 ∧ ρ = (1, 0) :: ρ2 ∧ isRf (vt (x f).1 v) ∧ qW (yT R S0) (rt d) π0 ((yT R S0).2.1 (vt (x f).1 v))) := by
  have hf := Nat.le_refl f
  rcases hp with ⟨n1, w1⟩ | ⟨h56, hp⟩
  · obtain ⟨q1, q2⟩ := pl_A hJ hv4 hvS w1 hms hfu
    obtain ⟨p1, p2, p3⟩ := hN.hd hy (d := (f, v)) hf hv4 hvS
    obtain ⟨⟨k, z1⟩, z2, _⟩ := p1
    have w3 : qW (yT R S0) (rt (f, v)) ρ T := by rw [q2]; exact w1
    obtain ⟨n, hn⟩ := z1.wk hy z2 w3 (prS.of (hJ.1 (f, v)) (qF_pl q1))
    have hn := hn M (fun _ _ => ⟨rfl, rfl⟩) (fun _ _ => ⟨rfl, rfl, rfl⟩)
    refine ⟨(f, v), ρ, n, ⟨hf, hv4, hvS⟩, w3, q1, hn, hn.lt p3, Or.inl ⟨n1, ?_⟩, Or.inl ⟨rfl, rfl, n1⟩⟩
    rw [← q2]; exact hn
  · obtain ⟨hal1, hne⟩ := hal h56
    rcases hp with ⟨hp, _⟩ | ⟨ρ2, rfl, w1⟩
    · exact absurd hp hne
    · have ms2 : qMs ρ2 := (qMs_cons.mp hms).2
      obtain ⟨h1, h2⟩ := hJ.2.2.2.2.2.2.1 f hf v hv4 hvS
      have hlo : ¬ klo (x f) v [] := hfu.2 [] 0 ρ2 rfl qM_nil
      have h5 := (yRf (R := R) (S0 := S0)).mpr h56
      have q := h2 [] _ qM_nil rfl hlo
      obtain ⟨⟨t, gg⟩, e⟩ := q.1 (by rcases h5 with a | a <;> rw [a] <;> decide)
      have et : t = rt (f, v) := ((hJ.1 (f, v)).1 [] t gg e).1
      have hA : kA (x f) v := Or.inl ⟨hv4, hal1⟩
      obtain ⟨a, ea⟩ := hJ.2.2.2.1 f hf v t gg e (by rw [et, h1]; exact h5) hA
      obtain ⟨-, d, π, rfl, d1, d2, d3⟩ := hJ.2.2.1 f hf v a hA ea
      rw [h1] at d2 d3
      obtain ⟨l1, l2, l3, _⟩ := hJ.ld hf hA ea
      obtain ⟨m1, m2, m3, m4, _⟩ := hN.2.2.2 f v d π hf hA (Or.inl ⟨hv4, hvS⟩) ea
      obtain ⟨m0, c1, c2⟩ := m4 hv4
      obtain ⟨p1, p2, p3⟩ := hN.hd hy (d := d) l1 l2 l3
      obtain ⟨⟨k, z1⟩, z2, _⟩ := p1
      have b1 := qW_app d2 w1
      have b2 := qF_path (hJ.1 d) d2 d3 w1 ms2
      obtain ⟨n, hn⟩ := z1.wk hy z2 b1 (prS.of (hJ.1 d) (qF_pl b2))
      have hn := hn M (fun _ _ => ⟨rfl, rfl⟩) (fun _ _ => ⟨rfl, rfl, rfl⟩)
      obtain ⟨n9, u1, u2⟩ := hn.cut d2
      have e9 := wRn.det u1 m3
      subst e9
      refine ⟨d, π ++ ρ2, n, ⟨l1, l2, l3⟩, b1, b2, hn, hn.lt p3, Or.inr ⟨h56, ρ2, n9, rfl, ?_, m2, u2⟩, Or.inr ⟨π, ρ2, ea, rfl, rfl, h56, d2⟩⟩
      rw [c1]; exact c2
/-- find -/
theorem fnd_ {w va sa ta m n n2 : Nat} {F : Nat → Int32} {G : Nat → Option Nat} {mu : Int32} (hL : LFS R S0 g) (hx : LX S0 Sl) (e : RNx Sl S) (hp : pRw R S0 Sl w va ρ F G sa ta) (hr : ∀ j z : Nat, j ≤ ρ.length → G j = some z → rTy S0 z) (hu : isU Sl va v (G 0) mu) (h76 : Zi S 76 = nI (f + 1)) (hf : f < 60) (hv4 : v < 40) (hm : m ≤ ρ.length) (hn : Zr S 74 (40 * f + v) = nI n) (hn4 : n < 430000) (hw : (m = 0 ∧ n2 = n) ∨ gWk (yT R S0) (zN R S0) (nMS S) (abU S0 (G 0)) n (ρ.take m) n2) : f_find R.K S (some w) (nI m) = some (S, nI n2) := by
  have hY := hL.1
  have hp0 := hp
  obtain ⟨p1, p2, p3, p4, p5, p6⟩ := hp
  obtain ⟨u1, nm, wh, u2⟩ := hu
  have r0 : oR S 18 (some w) 0 = some (some va) := oR_mk (v := some va) (by rw [e.1]; exact p1) (by rw [e.2.1]; exact p2) rfl
  have r1 : oI S 21 (some va) 0 = some (nI v) := oI_mk (by rw [e.1]; exact u1) (by rw [e.2.1]; exact u2) rfl
  have hslot : f_slot R.K S (some va) = some (S, nI (40 * f + v)) := by
    unfold f_slot
    rw [r1, h76, nI_pred]
    simp only [Option.bind_some]
    rw [show (40 : Int32) = nI 40 from rfl, show nI 40 * nI f = nI (40 * f) from (Int32.ofNat_mul 40 f).symm, nI_add]
  unfold f_find
  rw [r0]
  simp only [Option.bind_some]
  rw [hslot]
  show (rI S 74 (nI (40 * f + v))).bind (fun v4 => f_find_17 R.K bigN S (some w) (nI m) v4 0) = _
  rw [rI_n (show 40 * f + v < rlen 74 from by show _ < 2440; omega) (by decide), hn]
  simp only [Option.bind_some]
  rw [show (0 : Int32) = nI 0 from rfl]
  have h0 : ∀ hm0 : m = 0, f_find_17 R.K bigN S (some w) (nI m) (nI n) (nI 0) = some (S, nI n) := fun hm0 => by
    subst hm0
    rw [show bigN = (bigN - 1) + 1 from rfl]
    unfold f_find_17
    rw [if_pos (nI_le (a := 0) (b := 0) (Nat.le_refl _) (by decide))]
  rcases hw with ⟨w1, w2⟩ | hw
  · rw [h0 w1, w2]
  · have htl : (ρ.take m).length = m := by rw [List.length_take]; omega
    rcases hw with ⟨w1, w2⟩ | ⟨w1, ρ2, n1, w2, w3, w4, w5⟩
    · by_cases hm0 : m = 0
      · rw [h0 hm0]
        subst hm0
        have w2 : n2 = n := w2
        rw [w2]
      · have h0l : 0 < ρ.length := by omega
        obtain ⟨_, x0, y0, g0, _⟩ := p5 0 ρ[0] (List.getElem?_eq_getElem h0l)
        have hrt := hr 0 x0 (Nat.zero_le _) g0
        rw [g0] at w1 w2
        have w1 : ¬ isRf (abT S0 x0) := w1
        have hv : vTy S0 x0 := by
          rcases hrt.nm hY with ⟨z, _⟩ | ⟨_, _, _, _, z, _⟩
          · exact z
          · exact absurd z w1
        have w2 : wRn (yT R S0) (zN R S0) (nMS S) (abT S0 x0) n (ρ.take m) n2 := w2
        rw [(hv.nm hY).2.2] at w2
        exact fn17 hL hx e hp0 hm bigN (ρ.take m) 0 n n2 x0 (by omega) (by unfold bigN; omega) (fun t ht => by rw [Nat.zero_add, List.getElem?_take, if_pos (by omega)]) g0 hv hn4 w2
    · have h0l : 0 < ρ.length := by
        have := congrArg List.length w2
        rw [htl] at this
        have h3 : m = ρ2.length + 1 := this
        omega
      have hm1 : m = ρ2.length + 1 := by
        have := congrArg List.length w2
        rw [htl] at this; exact this
      have hs0 : ρ[0]? = some (1, 0) := by
        have := congrArg (fun l : lLc => l[0]?) w2
        have this : (ρ.take m)[0]? = some (1, 0) := this
        rw [List.getElem?_take, if_pos (by omega)] at this; exact this
      obtain ⟨f1, x0, y0, g0, g1, st⟩ := p5 0 (1, 0) hs0
      have hrt := hr 0 x0 (Nat.zero_le _) g0
      rw [g0] at w1 w5
      have w1 : isRf (abT S0 x0) := w1
      have w5 : wRn (yT R S0) (zN R S0) (nMS S) (yO S0 (abT S0 x0)) n1 ρ2 n2 := w5
      rcases hrt.nm hY with ⟨_, z, _⟩ | ⟨kd, u, z1, z2, _, z4⟩
      · exact absurd w1 z
      · have hyu : y0 = u := by
          rcases st with ⟨_, kd2, _, t2⟩ | ⟨i, k, t1, _⟩ | ⟨i, g9, k, mk, tx, t1, _⟩
          · obtain ⟨_, _, e3⟩ := isTy_fn t2 z1
            exact Option.some.inj e3
          · cases t1
          · have := (Prod.mk.inj t1).1; omega
        subst hyu
        have hkd : kd ≠ 5 := by
          rcases z4 with ⟨z, _⟩ | ⟨z, _⟩
          · rw [z]; decide
          · rw [z]; decide
        have hyo : yO S0 (abT S0 x0) = abV S0 y0 := by
          unfold yO
          rw [if_pos w1.1]
          rcases z4 with ⟨_, z, _⟩ | ⟨_, z, _⟩
          · rw [z]; omega
          · rw [z]; omega
        rw [hyo] at w5
        obtain ⟨tn, _, _, c3, c4⟩ := e.ty (hx.ty z1)
        have o0 : oI S 20 (some x0) 0 = some kd := oI_mk c3 c4 rfl
        have q1 : oR S 18 (some w) 2 = some (some sa) := oR_mk (v := some sa) (by rw [e.1]; exact p1) (by rw [e.2.1]; exact p2) rfl
        have q2 : aI R.K S (some sa) (nI 0) = some (F 0) := aI_n (by rw [e.1]; exact p3.1) (by rw [e.2.1]; exact p3.2) h0l (by omega)
        have q3 : oR S 18 (some w) 3 = some (some ta) := oR_mk (v := some ta) (by rw [e.1]; exact p1) (by rw [e.2.1]; exact p2) rfl
        have q4 : aQ R.K 4 S (some ta) (nI 0) = some (some x0) := by
          rw [← g0]; exact aQ_n (by rw [e.1]; exact p4.1) (by rw [e.2.1]; exact p4.2) (show 0 < ρ.length + 1 by omega) (by omega)
        have hb : f_find_17 R.K bigN S (some w) (nI m) (nI n) (nI 0) = f_find_17 R.K (bigN - 1) S (some w) (nI m) (nI n1) (nI 1) := by
          rw [show bigN = (bigN - 1) + 1 from rfl]
          show f_find_17 R.K ((bigN - 1) + 1) S (some w) (nI m) (nI n) (nI 0) = f_find_17 R.K (bigN - 1) S (some w) (nI m) (nI n1) (nI 1)
          rw [f_find_17]
          rw [if_neg (Int32.not_le.mpr (nI_lt (a := 0) (b := m) (by omega) (by omega))), q1]
          simp only [Option.bind_some]
          rw [q2]
          simp only [Option.bind_some]
          rw [q3]
          simp only [Option.bind_some]
          rw [q4]
          simp only [Option.bind_some]
          rw [f1, sCo_m1, if_pos (by decide), if_pos (by decide), o0]
          simp only [Option.bind_some]
          rw [if_neg hkd, rJ_n (show n < rlen 61 from hn4) (by decide)]
          simp only [Option.bind_some]
          rw [show Zl S 61 n = nL n1 from w3, nL_t]
          rfl
        rw [hb]
        exact fn17 hL hx e hp0 hm (bigN - 1) ρ2 1 n1 n2 y0 (by omega) (by unfold bigN; omega) (fun t ht => by
          have h9 : (ρ.take m)[1 + t]? = ρ2[t]? := by rw [w2, Nat.add_comm, List.getElem?_cons_succ]
          rw [List.getElem?_take, if_pos (by omega)] at h9
          exact h9) g1 z2 w4 w5
end PS62
end
-- m4.l.lean.txt
section
/-- what a function's code is told over -/
def hFE (R : yR) (S0 : Sg) (D : fD) : Prop := ∃ (Λ : List Nat) (gv : Nat), D.E = eVf R S0 Λ gv ∧ FEn R S0 (eVf R S0 Λ gv) Λ gv
section PS63
variable {R : yR} {S0 Sl S S1 S2 S3 : Sg} {D : fD} {i k j f nw : Nat} {vt : Nat → Nat → Nat} {tb : Nat → lTb} {x : Nat → kFm} {bs : Nat → Nat} {g : Nat → Int32} {v T : Nat} {ρ : lLc} {y : qY} {zn sz rk : Nat → Nat} {M : nM} {sk : Nat → Int64} {pl : Nat → Int32} {rt : Nat × Nat → Nat} {V : Nat × Nat → qV} {C L H : Nat × Nat → List Nat}
/-- the path's rows at a point -/
theorem RQ.pw (hL : LFS R S0 g) (hx : LX S0 Sl) (h : RQ R S0 vt tb i D k f x bs Sl nw S) (hE : hFE R S0 D) (hp : (D.I k).pa = some (v, ρ, T)) (h24 : (D.I k).kd ≠ 24) : ∃ (w va sa ta : Nat) (F : Nat → Int32) (G : Nat → Option Nat) (mu : Int32), Zq Sl 38 k = some w ∧ pRw R S0 Sl w va ρ F G sa ta ∧ (∀ j z : Nat, j ≤ ρ.length → G j = some z → rTy S0 z) ∧ isU Sl va v (G 0) mu ∧ abU S0 (G 0) = D.E.vt v ∧ T = abU S0 (G ρ.length) := by
  obtain ⟨Λ, gv, e1, e2⟩ := hE
  have hpt := h.pt.1
  rcases h.2.1.2.2.2.2.2.1 with ⟨_, z⟩ | ⟨w, v2, T2, ρ2, a1, a2, a3, a4⟩
  · rw [hp] at z; cases z
  · rw [hp] at a2; cases a2
    rw [e1] at hpt
    have ht := (tv_ e2 hx hpt h24 hp).1
    obtain ⟨va, sa, ta, F, G, mu, b1, b2, b3, b4, b5, b6, b7, b8, b9⟩ := a3
    obtain ⟨gs, c1, c2⟩ := a4
    have hva : va = (D.I k).n2 := by
      rw [b2] at c1; cases c1
      cases c2; rfl
    refine ⟨w, va, sa, ta, F, G, mu, a1, ⟨b1, b2, b4, b5, b6, b9⟩, b7, b3, ?_, b8⟩
    rw [e1, ← ht, ← hva]
    obtain ⟨u1, nm, wh, u2⟩ := b3
    unfold vTp
    rw [obF_o u2]
    unfold rN
    show abU S0 (G 0) = abU S0 (match (some (va_rf (G 0)) : Option Value) with | some (.ref a) => some a | _ => none)
    cases G 0 <;> rfl
theorem pR_nm {q U m : Nat} (hq : q = 1 ∨ q = 2) : kNm (q, U, m) := by
  rcases hq with e | e <;> subst e
  · show ¬ ((1 : Nat) = 8 ∨ (1 : Nat) = 4 ∨ (1 : Nat) = 5 ∨ (1 : Nat) = 6); decide
  · show ¬ ((2 : Nat) = 8 ∨ (2 : Nat) = 4 ∨ (2 : Nat) = 5 ∨ (2 : Nat) = 6); decide
/-- a reference comes on top: its nodes -/
theorem kN.pR {q U m t n : Nat} {d : Nat × Nat} {π : lLc} {hd : Nat → Prop} {al2 : Nat → Prop} (hy : nYk y zn sz rk) (hB : yB y) (hJ : kJ y vt tb f x rt V) (h : kN y zn sz M sk pl f x rt V bs C L H) (h0 : (x f).2.2.1 = 0) (hl : wl (x f).2.1 < 211) (hq : q = 1 ∨ q = 2) (ht : 10000 ≤ t) (hal : ∀ u : Nat, al2 u → kal (x f) u) (hd4 : d.2 < 40) (hn : n < 430000) (hw : wRn y zn M (rt d) (hdN (C d)) π n) (hsk : sk (bs f + wl (x f).2.1) = nL n) : kN y zn sz M sk pl f (kUx x f ((x f).1, (q, U, m) :: (x f).2.1, 0, lUp (kR (x f)) (40 + wl (x f).2.1) (some (d :: π)), lUp (kH (x f)) (40 + wl (x f).2.1) hd, al2, klo (x f), kAn (x f))) (qRt rt (f, 40 + wl (x f).2.1) t) (qUp V (f, 40 + wl (x f).2.1) (qL t)) bs C L H := by
  have hnm : kNm (q, U, m) := pR_nm hq
  obtain ⟨n2, n3, n4⟩ := hB.2.1 t ht
  obtain ⟨c0, l0, hh0⟩ := (h.1 f (40 + wl (x f).2.1) (Nat.le_refl _)).2.2 (fun w => by rcases w with w | w <;> omega)
  refine kN.r1 (u0 := 40 + wl (x f).2.1) hy hJ h (fun j hj => kUx_lo hj) (fun u hu => by rw [kUx_top]; exact nm_8 hnm) (fun u hu h4 => by rw [kUx_top]; exact wl_u hnm hu h4) (fun r hr => ⟨qRt_ne hr, qUp_ne hr, rfl, rfl, rfl⟩) (fun r _ _ _ => ⟨agN.rf, agN.rf⟩) (fun _ _ _ _ _ => rfl) (fun _ _ _ _ _ => rfl) ?_ (fun j u d2 π2 hj ha hc hr => ?_)
  · rw [qRt_eq, qUp_eq, kUx_top, c0, l0, hh0]
    refine ⟨fun a => by omega, fun _ _ => ⟨rfl, vaR.mk n2 n3 n4 ⟨(t, 0), rfl⟩⟩, fun w => absurd (Or.inr ⟨by omega, ?_⟩) w⟩
    show 40 + wl (x f).2.1 < 40 + wl ((q, U, m) :: (x f).2.1)
    rw [wl_n hnm]; omega
  · by_cases e : j = f
    · subst e
      rw [kUx_top] at ha hr
      have hr : lUp (kR (x j)) (40 + wl (x j).2.1) (some (d :: π)) u = some (d2 :: π2) := hr
      by_cases hu : u = 40 + wl (x j).2.1
      · subst hu
        rw [lUp_eq] at hr
        cases hr
        refine Or.inr ⟨n, hn, ?_, fun w => by omega, fun _ => ?_⟩
        · rw [qRt_ne (ne40 (j := j) (u := 0) hd4)]; exact hw
        · rw [show 40 + wl (x j).2.1 - 40 = wl (x j).2.1 by omega]; exact hsk
      · rw [lUp_ne hu] at hr
        have ha2 : kA (x j) u := by
          rcases ha with ⟨z1, z2⟩ | ⟨z1, z2⟩
          · exact Or.inl ⟨z1, hal u z2⟩
          · have z2 : u < 40 + wl ((q, U, m) :: (x j).2.1) + 0 := z2
            rw [wl_n hnm] at z2; exact Or.inr ⟨z1, by omega⟩
        exact Or.inl ⟨fun w => hu (Prod.mk.inj w).2, ne40 (j := j) (u := 0) (hJ.ld (Nat.le_refl _) ha2 hr).2.1, ha2, hr⟩
    · rw [kUx_lo e] at ha hr
      exact Or.inl ⟨fun w => e (Prod.mk.inj w).1, ne40 (j := f) (u := 0) (hJ.ld hj ha hr).2.1, ha, hr⟩
/-- a step's end: a reference came on top -/
theorem finR {q U : Nat} {R2 : Nat → Option lLc} {hd : Nat → Prop} (hL : LFS R S0 g) (hk : PK R S0 i D k) (e : edg D k j) (hq : q = 1 ∨ q = 2) (hw : wkS ((q, U, 0) :: D.st k) (D.st j)) (hs : ∀ a ∈ D.st k, pnE a) (hm : kdM (D.I k)) (ho : (D.I k).ho = some (40 + wl (D.st k))) (hat : atT R S0 i D k (x f)) (hhd : ∀ κ : Nat, hd κ → HK D j (40 + wl (D.st k)) κ)
  (h : kT (yT R S0) (zN R S0) (szN R S0) vt tb f (kUx x f ((x f).1, (q, U, 0) :: (x f).2.1, 0, R2, lUp (kH (x f)) (40 + wl (D.st k)) hd, (fun u => u < 40 ∧ AB D k u), klo (x f), kAn (x f))) bs S2) (h77 : Zi S2 77 = nI j) (h73 : Zi S2 73 = nI (bs f + wl (D.st k) + 1)) (h75 : Zr S2 75 = Zr S 75) (h76 : Zi S2 76 = Zi S 76) : NXt R S0 vt tb i D k f x bs S S2 := by
  obtain ⟨hD, hkk, hW, hG, hE⟩ := hk
  obtain ⟨a1, a2, a3, a4, a5, a6⟩ := hat
  have hy := nYk_of hL
  have hnm : kNm (q, U, 0) := pR_nm hq
  have hpq : pnE (q, U, 0) := pnE_k (by omega)
  have hj : ∀ a ∈ D.st j, pnE a := wkS_pn hw (fun a ha => by
    rcases List.mem_cons.mp ha with w | w
    · rw [w]; exact hpq
    · exact hs a w)
  obtain ⟨j1, j2, j3, j4, j5⟩ := hD.in e
  have h177 := (hD.pt hkk.1 hkk.2.1).2
  have hwl := wkS_wl hw
  rw [wl_n hnm] at hwl
  have hno : ∀ u : Nat, u ≠ 40 + wl (D.st k) → (D.I k).ho ≠ some u := fun u hu w => by rw [ho] at w; exact hu (Option.some.inj w).symm
  have b1 : ∀ u κ : Nat, u < 40 → AL D j u → kH (kUx x f ((x f).1, (q, U, 0) :: (x f).2.1, 0, R2, lUp (kH (x f)) (40 + wl (D.st k)) hd, (fun u => u < 40 ∧ AB D k u), klo (x f), kAn (x f)) f) u κ → HK D j u κ := fun u κ hu q1 w => by
    rw [kUx_top] at w
    have w : lUp (kH (x f)) (40 + wl (D.st k)) hd u κ := w
    rw [lUp_ne (by omega), a4] at w
    rcases w with ⟨_, w⟩ | ⟨w, _⟩
    · exact hD.hk e (by omega) (hno u (by omega)) w.1
    · omega
  have b2 : ∀ m κ : Nat, m < wl (D.st j) → AL D j (40 + m) ∨ mkS (D.st j) → kH (kUx x f ((x f).1, (q, U, 0) :: (x f).2.1, 0, R2, lUp (kH (x f)) (40 + wl (D.st k)) hd, (fun u => u < 40 ∧ AB D k u), klo (x f), kAn (x f)) f) (40 + m) κ → HK D j (40 + m) κ ∧ (mkS (D.st j) → m = 0 → okl R S0 i D κ) := fun m κ hm2 q1 w => by
    rw [kUx_top] at w
    have w : lUp (kH (x f)) (40 + wl (D.st k)) hd (40 + m) κ := w
    refine ⟨?_, fun z => absurd z (pn_mk hj)⟩
    by_cases z : m = wl (D.st k)
    · subst z
      rw [lUp_eq] at w
      exact hhd κ w
    · rw [lUp_ne (by omega), a4] at w
      rcases w with ⟨_, w⟩ | ⟨w, _⟩
      · exact hD.hk e (by omega) (hno _ (by omega)) w.1
      · omega
  have b3 : ∀ (κ r m : Nat), (5, r, m) ∈ trL (AL D j) (D.st j) ∨ (6, r, m) ∈ trL (AL D j) (D.st j) → kH (kUx x f ((x f).1, (q, U, 0) :: (x f).2.1, 0, R2, lUp (kH (x f)) (40 + wl (D.st k)) hd, (fun u => u < 40 ∧ AB D k u), klo (x f), kAn (x f)) f) 300 κ → HA R S0 i D j 300 κ := fun κ r m q1 => by
    rcases q1 with q1 | q1
    · exact absurd (Or.inr (Or.inl rfl)) (trL_4 (pn_4 hj) _ q1)
    · exact absurd (Or.inr (Or.inr rfl)) (trL_4 (pn_4 hj) _ q1)
  obtain ⟨X, x1, x2, x3⟩ := kT.fin (D := D) (j := j) (i := i) (R := R) (S0 := S0) hy yB_yT h (by rw [kUx_top]) (by rw [kUx_top]; exact a1) (by
    rw [kUx_top]
    show wkS ((q, U, 0) :: (x f).2.1) _
    rw [a2]
    exact trL_c hw (show q ≠ 3 by omega) (show q ≠ 5 by omega) (show q ≠ 6 by omega) (fun n hn => hD.al e (by omega) (hno _ (by omega)))) (fun u hu q1 => by rw [kUx_top]; exact ⟨hu, hD.ab e (by omega) q1⟩) b1 b2 b3 (fun v π hv _ w => by
    rw [kUx_top] at w
    have w : klo (x f) v π := w
    rw [a6] at w
    exact hD.lo hy hE e hv w (fun c _ _ => hm.nk))
  rw [kUx_top] at x2
  rw [kUx2] at x3
  exact ⟨j, X, e, ⟨hD, ⟨j1, j2, j5⟩, j3 hW, gtS.of hj, hE⟩, h77, by rw [h73, hwl]; rfl, ⟨h75, h76⟩, x1, x2, x3.t3 hj⟩
end PS63
end
-- m4.m.lean.txt
section
section PS64
variable {R : yR} {S0 Sl S S1 S2 S3 : Sg} {D : fD} {i k j f nw : Nat} {vt : Nat → Nat → Nat} {tb : Nat → lTb} {x : Nat → kFm} {bs : Nat → Nat} {g : Nat → Int32} {v T : Nat} {ρ : lLc} {y : qY} {rt : Nat × Nat → Nat} {V : Nat × Nat → qV} {C L H : Nat × Nat → List Nat}
theorem pTy_fu {T0 : Nat} (h : pTy y T0 ρ T) : (qM ρ → qW y T0 ρ T) ∧ ∀ (ρ0 : lLc) (q : Nat) (ρ1 : lLc), ρ = ρ0 ++ (1, q) :: ρ1 → qM ρ0 → ∃ U : Nat, qW y T0 ρ0 U := by
  rcases h with ⟨_, h⟩ | ⟨_, ⟨h1, h2⟩ | ⟨ρ2, h1, _⟩⟩
  · refine ⟨fun _ => h, fun ρ0 q ρ1 e _ => ?_⟩
    rw [e] at h
    obtain ⟨U, u1, _⟩ := qW_cut h
    exact ⟨U, u1⟩
  · refine ⟨fun _ => by rw [h1, h2]; rfl, fun ρ0 q ρ1 e _ => ?_⟩
    rw [h1] at e
    cases ρ0 <;> cases e
  · refine ⟨fun w => ?_, fun ρ0 q ρ1 e m => ?_⟩
    · rw [h1] at w
      have := (qM_cons.mp w).1
      have this : (1 : Nat) = 0 := this
      omega
    · rw [h1] at e
      cases ρ0 with
      | nil => exact ⟨T0, rfl⟩
      | cons a ρ0 =>
        have e1 := (List.cons.inj e).1
        have := (qM_cons.mp m).1
        rw [← e1] at this
        have this : (1 : Nat) = 0 := this
        omega
theorem yRf6 {t : Nat} (h : isRf t) (h2 : t % 2 = 1) : (yT R S0).1 t = 6 := by
  obtain ⟨h1, h3⟩ := h
  show yK R S0 t = 6
  unfold yK
  rw [if_pos h1, if_pos h3, if_neg (by omega)]
/-- a place is lent -/
theorem kJ_bor {q t l0 : Nat} {d : Nat × Nat} {π : lLc} {hd al2 : Nat → Prop} (hJ : kJ (yT R S0) vt tb f x rt V) (hn : (x f).2.2.1 = 0) (hl : wl (x f).2.1 < 211) (hno : ∀ r m2 : Nat, (5, r, m2) ∉ (x f).2.1 ∧ (6, r, m2) ∉ (x f).2.1) (hT9 : T < 10000) (hkt : (q = 1 ∧ t = 10000 + 2 * T) ∨ (q = 2 ∧ t = 10001 + 2 * T)) (hv4 : v < 40) (hvS : (8, v, 0) ∈ (x f).2.1) (hkv : isRf (vt (x f).1 v) → kal (x f) v) (hal : ∀ u : Nat, al2 u → kal (x f) u) (hk : lCk (tb (x f).1) (kH (x f)) (fun u => (u < 40 ∧ al2 u) ∨ (40 ≤ u ∧ u < 40 + wl (x f).2.1)) v ρ (q = 1)) (hd0 : hd l0) (h0 : ¬ (tb (x f).1).2.2.2.1 l0) (h1 : (tb (x f).1).1 l0 = v) (h2 : (tb (x f).1).2.1 l0 = ρ) (h3 : q = 2 → ¬ (tb (x f).1).2.2.1 l0) (hrf : (tb (x f).1).2.2.2.2 v ↔ isRf (vt (x f).1 v)) (hl2 : isRf (vt (x f).1 v) → ∀ l : Nat, kH (x f) v l → hd l) (h6 : q = 2 → isRf (vt (x f).1 v) → (yT R S0).1 (vt (x f).1 v) = 6)
  (d1 : d.2 < 40) (d2 : qW (yT R S0) (rt d) π T) (d3 : qF (yT R S0) (V d) π T) (d7 : (d = (f, v) ∧ π = ρ ∧ ¬ isRf (vt (x f).1 v)) ∨ ∃ π0 ρ2 : lLc, kR (x f) v = some (d :: π0) ∧ π = π0 ++ ρ2 ∧ ρ = (1, 0) :: ρ2 ∧ isRf (vt (x f).1 v) ∧ qW (yT R S0) (rt d) π0 ((yT R S0).2.1 (vt (x f).1 v))) : kJ (yT R S0) vt tb f (kUx x f ((x f).1, (q, T, 0) :: (x f).2.1, 0, lUp (kR (x f)) (40 + wl (x f).2.1) (some (d :: π)), lUp (kH (x f)) (40 + wl (x f).2.1) hd, al2, klo (x f), kAn (x f))) (qRt rt (f, 40 + wl (x f).2.1) t) (qUp V (f, 40 + wl (x f).2.1) (qL t)) := by
  have hcr := (yB_yT (R := R) (S0 := S0)).2.2.1
  have hc := hcr T hT9
  have hf := Nat.le_refl f
  have hun : (yT R S0).1 t = 6 ↔ q = 2 := by
    rcases hkt with ⟨e1, e2⟩ | ⟨e1, e2⟩
    · rw [e1, e2, hc.1]; decide
    · rw [e1, e2, hc.2.2.1]; decide
  have hk1 : q = 1 ↔ ¬ ((yT R S0).1 t = 6) := by
    rw [hun]
    rcases hkt with ⟨e, _⟩ | ⟨e, _⟩ <;> rw [e] <;> decide
  have hk2 : lCk (tb (x f).1) (kH (x f)) (fun u => (u < 40 ∧ al2 u) ∨ (40 ≤ u ∧ u < 40 + wl (x f).2.1)) v ρ (¬ ((yT R S0).1 t = 6)) := fun u l g1 g2 g3 g4 g5 => (hk u l g1 g2 g3 g4 g5).imp (hk1.mp) id
  have iv := hJ.2.1.1 f hf
  rcases d7 with ⟨e1, e2, n5⟩ | ⟨π0, ρ2, e1, e2, e3, h56, e4⟩
  · subst e1; subst e2
    obtain ⟨b1, b2⟩ := lBw_var (t := 40 + wl (x f).2.1) (un := (yT R S0).1 t = 6) (hd := hd) iv (kA_to hn hal) hk2 hd0 h0 h1 h2 (fun q => h3 (hun.mp q)) (fun q => n5 (hrf.mp q))
    exact kJ_pushR hJ hcr hT9 hkt hn hl hno hal ⟨(f, v), π, rfl, d1, d2, d3⟩ b1 b2
  · subst e2; subst e3
    have hkr : rt (f, v) = vt (x f).1 v := (hJ.2.2.2.2.2.2.1 f hf v hv4 hvS).1
    obtain ⟨b1, b2⟩ := lBw_ref (t := 40 + wl (x f).2.1) (un := (yT R S0).1 t = 6) (hd := hd) (r := ρ2) iv (kA_to hn hal) (Or.inl ⟨hv4, hkv h56⟩) e1 hk2 (fun q => by show (yT R S0).1 (rt (f, v)) = 6; rw [hkr]; exact h6 (hun.mp q) h56) hd0 (hl2 h56) h0 h1 h2 (fun q => h3 (hun.mp q)) hv4
    exact kJ_pushR hJ hcr hT9 hkt hn hl hno hal ⟨d, π0 ++ ρ2, rfl, d1, d2, d3⟩ b1 b2
/-- a place that is looked at: where it lies -/
theorem RQ.pn (hL : LFS R S0 g) (h : RQ R S0 vt tb i D k f x bs Sl nw S) (hJ : kJ (yT R S0) vt tb f x rt V) (hN : kN (yT R S0) (zN R S0) (szN R S0) (nMS S) (Zl S 72) (Zr S 74) f x rt V bs C L H) (hi : iPa D.E (D.I k) (D.st k) v ρ T) (hu : iUv D.E (D.I k) v) (hne : isRf (D.E.vt v) → ρ ≠ []) (h24 : (D.I k).kd ≠ 24) (ha : (D.I k).ac ≠ 0 ∧ (D.I k).ac ≠ 7 ∧ (D.I k).ac ≠ 6) :
  ∃ (d : Nat × Nat) (π : lLc) (n : Nat), (d.1 ≤ f ∧ d.2 < 40 ∧ (8, d.2, 0) ∈ (x d.1).2.1) ∧ qW (yT R S0) (rt d) π T ∧ qF (yT R S0) (V d) π T ∧ wRn (yT R S0) (zN R S0) (nMS S) (rt d) (hdN (C d)) π n ∧ n < 430000 ∧ gWk (yT R S0) (zN R S0) (nMS S) (vt (x f).1 v) (hdN (C (f, v))) ρ n ∧ ((d = (f, v) ∧ π = ρ ∧ ¬ isRf (vt (x f).1 v)) ∨ ∃ π0 ρ2 : lLc, kR (x f) v = some (d :: π0) ∧ π = π0 ++ ρ2 ∧ ρ = (1, 0) :: ρ2 ∧ isRf (vt (x f).1 v) ∧ qW (yT R S0) (rt d) π0 ((yT R S0).2.1 (vt (x f).1 v))) := by
  obtain ⟨i1, ⟨i2, i3⟩, i4, i5, i6, i7, i8, i9⟩ := hi
  obtain ⟨a1, a2, a3, a4, a5, a6⟩ := h.2.2.2.2.2.1
  have hvt : vt (x f).1 = D.E.vt := by rw [a1]; exact h.2.2.2.2.2.2.2.2.1
  have hy := nYk_of hL
  have hEy := h.1.2.2.2.2
  rw [hEy] at i5
  have hfu := h.1.1.fu hy hEy h.1.2.1.1 h.1.2.1.2.1 h.1.2.1.2.2 i1 h24 ha.1 ha.2.1 (Or.inl ha.2.2) (by rw [hEy]; exact (pTy_fu i5).1) (by rw [hEy]; exact (pTy_fu i5).2)
  rw [hEy, ← a6] at hfu
  exact plN hy hJ hN i2 (by rw [a2]; exact trL_8.mpr i4) (by rw [hvt]; exact i5) i6 hfu (fun w => by
    rw [hvt] at w
    refine ⟨?_, hne w⟩
    rw [a5]
    exact ⟨i2, Or.inl (by rw [(hu.1 w).1]; exact List.mem_singleton_self _)⟩)
end PS64
end
-- m4.n.lean.txt
section
section PS65
variable {R : yR} {S0 Sl S S1 S2 S3 : Sg} {D : fD} {i k j f nw : Nat} {vt : Nat → Nat → Nat} {tb : Nat → lTb} {x : Nat → kFm} {bs : Nat → Nat} {g : Nat → Int32} {v T : Nat} {ρ : lLc} {y : qY} {rt : Nat × Nat → Nat} {V : Nat × Nat → qV} {C L H : Nat × Nat → List Nat}
/-- the node of a place -/
theorem RQ.fd {n m n2 : Nat} (hL : LFS R S0 g) (hx : LX S0 Sl) (h : RQ R S0 vt tb i D k f x bs Sl nw S) (hE : hFE R S0 D) (hQ : D.Pe < 24000) (hN : kN (yT R S0) (zN R S0) (szN R S0) (nMS S) (Zl S 72) (Zr S 74) f x rt V bs C L H) (hp : (D.I k).pa = some (v, ρ, T)) (hv : v < 40) (hs : (8, v, 0) ∈ D.st k) (h24 : (D.I k).kd ≠ 24) (hn : n = hdN (C (f, v))) (hm : m ≤ ρ.length) (hw : (m = 0 ∧ n2 = n) ∨ gWk (yT R S0) (zN R S0) (nMS S) (D.E.vt v) n (ρ.take m) n2) : ∃ w : Nat, rQ S 38 (nI k) = some (some w) ∧ oI S 18 (some w) 1 = some (nI ρ.length) ∧ f_find R.K S (some w) (nI m) = some (S, nI n2) := by
  obtain ⟨w, va, sa, ta, F, G, mu, w1, w2, w3, w4, w5, w6⟩ := h.pw hL hx hE hp h24
  have k24 := h.k24 hQ
  have e := h.2.2.1.1
  have a2 := h.2.2.2.2.2.1.2.1
  obtain ⟨p1, p2, p3⟩ := hN.hd (nYk_of hL) (d := (f, v)) (Nat.le_refl f) hv (by rw [a2]; exact trL_8.mpr hs)
  refine ⟨w, ?_, ?_, ?_⟩
  · rw [rQ_n (show k < rlen 38 from k24) (by decide), e.2.2.2.1, w1]
  · exact oI_mk (by rw [e.1]; exact w2.1) (by rw [e.2.1]; exact w2.2.1) rfl
  · refine fnd_ hL hx e w2 w3 w4 h.2.2.2.1.2.2 h.2.2.2.2.1 hv hm (n := n) ?_ (by rw [hn]; exact p3) (by rw [w5]; exact hw)
    rw [hn]; exact p1.2.2
/-- a value's end: the reference came on top, its nodes too -/
theorem RQ.eR {q U n : Nat} {d : Nat × Nat} {π : lLc} {hd : Nat → Prop} {fl : List Nat} {tt t : Nat} (hL : LFS R S0 g) (h : RQ R S0 vt tb i D k f x bs Sl nw S) (e : edg D k j) (hJ : kJ (yT R S0) vt tb f x rt V) (hN : kN (yT R S0) (zN R S0) (szN R S0) (nMS S) (Zl S 72) (Zr S 74) f x rt V bs C L H) (hC : kC C L H fl tt (Zr S 67)) (hF : FLs S fl tt) (hnt : nT (D.st k)) (hq : q = 1 ∨ q = 2) (ht : 10000 ≤ t) (hw : wkS ((q, U, 0) :: D.st k) (D.st j)) (hm : kdM (D.I k)) (ho : (D.I k).ho = some (40 + wl (D.st k))) (hhd : ∀ κ : Nat, hd κ → HK D j (40 + wl (D.st k)) κ) (hus : ∀ u : Nat, AB D k u → u < 40 → AL D k u) (hd4 : d.2 < 40) (hn : n < 430000) (hwk : wRn (yT R S0) (zN R S0) (nMS S) (rt d) (hdN (C d)) π n)
  (hJ2 : kJ (yT R S0) vt tb f (kUx x f ((x f).1, (q, U, 0) :: (x f).2.1, 0, lUp (kR (x f)) (40 + wl (x f).2.1) (some (d :: π)), lUp (kH (x f)) (40 + wl (x f).2.1) hd, (fun u => u < 40 ∧ AB D k u), klo (x f), kAn (x f))) (qRt rt (f, 40 + wl (x f).2.1) t) (qUp V (f, 40 + wl (x f).2.1) (qL t)))
  (e2 : SO S S2) (h2 : ∀ q : Nat, q < bs f + wl (D.st k) → Zl S2 72 q = Zl S 72 q) (h3 : Zl S2 72 (bs f + wl (D.st k)) = nL n) (h77 : Zi S2 77 = nI j) (h73 : Zi S2 73 = nI (bs f + wl (D.st k) + 1)) : NXt R S0 vt tb i D k f x bs S S2 := by
  obtain ⟨a1, a2, a3, a4, a5, a6⟩ := h.2.2.2.2.2.1
  have hst := h.st.2
  have h177 := h.pt.2
  have hs := h.1.2.2.2.1.all hnt
  have hN0 := hN.skc (sk2 := Zl S2 72) (by rw [hst]; exact h2)
  have hN2 := hN0.pR (q := q) (U := U) (m := 0) (t := t) (n := n) (d := d) (π := π) (hd := hd) (al2 := fun u => u < 40 ∧ AB D k u) (nYk_of hL) yB_yT hJ a3 (by omega) hq ht (fun u hu => by rw [a5]; exact ⟨hu.1, hus u hu.2 hu.1⟩) hd4 hn hwk (by rw [hst]; exact h3)
  rw [hst] at hJ2 hN2
  refine finR (q := q) (U := U) (hd := hd) hL h.1 e hq hw hs hm ho h.2.2.2.2.2.1 hhd ⟨_, _, C, L, H, fl, tt, hJ2, ?_, ?_, ?_⟩ h77 h73 (by rw [e2.2.2.2.2.2.2.1]) (e2.2.2.2.2.2.2.2 76 (by decide))
  · rw [e2.sam.1, e2.sam.2.1]; exact hN2
  · rw [e2.sam.2.2.1]; exact hC
  · exact e2.sam.fl hF
/-- REFER -/
theorem s_3 (hL : LFS R S0 g) (hx : LX S0 Sl) (hE : hFE R S0 D) (h : RQ R S0 vt tb i D k f x bs Sl k S) (hQ : D.Pe < 24000) (hk : (D.I k).kd = 3) : Rt (f_step R.K S) (fun S2 _ => RTt R S0 vt tb i D k f x bs Sl S S2) := by
  have h24 := h.k24 hQ
  refine stp_3 h hQ hk (fun S1 h1 e70 e3 er el => ?_)
  have hp := h1.pt.1
  unfold tPt at hp
  rw [hk] at hp
  obtain ⟨v, ρ, T, hi, hu, ho, ⟨l, hln⟩, hT9, hc⟩ := hp
  have k24 : (D.I k).kd ≠ 24 := by rw [hk]; decide
  have hne : isRf (D.E.vt v) → ρ ≠ [] := fun w z => by
    rcases hi.2.2.2.1 with ⟨w2, _⟩ | ⟨_, ⟨_, w2⟩ | ⟨ρ2, w2, _⟩⟩
    · exact w2 w
    · have := w.1; omega
    · rw [z] at w2; cases w2
  have ha : (D.I k).ac ≠ 0 ∧ (D.I k).ac ≠ 7 ∧ (D.I k).ac ≠ 6 := by
    rcases hc with ⟨a, _⟩ | ⟨a, _⟩ <;> rw [a] <;> decide
  obtain ⟨rt, V, C, L, H, fl, t9, ⟨hJ, hN, hC, hF⟩, _⟩ := h1.2.2.2.2.2.2.1
  obtain ⟨d, π, n, ⟨c1, c2, c3⟩, c4, c5, c6, c7, c8, c9⟩ := h1.pn hL hJ hN hi hu hne k24 ha
  obtain ⟨a1, a2, a3, a4, a5, a6⟩ := h1.2.2.2.2.2.1
  have hvt : vt (x f).1 = D.E.vt := by rw [a1]; exact h1.2.2.2.2.2.2.2.2.1
  have htb : tb (x f).1 = tbD D := by rw [a1]; exact h1.2.2.2.2.2.2.2.2.2
  obtain ⟨w, r1, r2, r3⟩ := h1.fd (n := hdN (C (f, v))) (m := ρ.length) (n2 := n) hL hx hE hQ hN hi.1 hi.2.1.1 hi.2.2.1 k24 rfl (Nat.le_refl _) (Or.inr (by rw [List.take_length, ← hvt]; exact c8))
  refine Rt.bd r1 (Rt.bd r1 (Rt.bd r2 ?_))
  rw [r3]
  show Rt (bnd (f_push R.K S1 (nL n)) fun S15 v16 => f_step_590 R.K S15) _
  have hb := h1.sb
  refine Rt.bn (psh_ (p := bs f + wl (D.st k)) h1.2.2.2.1.2.1 (by omega)) (fun S2 _ ⟨q1, q2, q3, q4⟩ => ?_)
  unfold f_step_590
  have hed : edg D k (k + 1) := h1.e1 (kd_s hk (by decide))
  have hnt := hi.2.2.2.2.2.2.2
  have hs := h1.1.2.2.2.1.all hnt
  have hst := h1.st.2
  have h177 := h1.pt.2
  have hFn := h1.1.1
  obtain ⟨m1, m2, m3⟩ := dcd_lm (v := v) (s := (D.I k).n3) (ρ := ρ)
  have hus : ∀ u : Nat, 40 ≤ u → u ∉ (D.I k).us := fun u h4 hm => by
    have := hi.2.1.1
    by_cases z : isRf (D.E.vt v)
    · rw [(hu.1 z).1] at hm
      have := List.mem_singleton.mp hm; omega
    · rw [(hu.2 z).1] at hm; cases hm
  have hal : ∀ u : Nat, AB D k u → u < 40 → AL D k u := fun u w h4 => w.al (fun z => by rw [ho] at z; have := Option.some.inj z; omega)
  have hck := hFn.ck h1.1.2.1.1 h1.1.2.1.2.1 h1.1.2.1.2.2 hi.1 ha.1 (fun z => z.1.elim ha.2.1 ha.2.2) (Or.inr ⟨hi.2.2.2.2.1, T, hi.2.2.2.1⟩) (A2 := fun u => (u < 40 ∧ (u < 40 ∧ AB D k u)) ∨ (40 ≤ u ∧ u < 40 + wl (x f).2.1)) (fun u κ z1 z2 => by
    rcases z1 with ⟨z3, _, z4⟩ | ⟨z3, z4⟩
    · exact ⟨by omega, z4, fun z => by rw [ho] at z; have := Option.some.inj z; omega⟩
    · rw [hst] at z4
      refine ⟨by omega, ?_, fun z => by rw [ho] at z; have := Option.some.inj z; omega⟩
      rcases z2 with ⟨_, z2⟩ | ⟨z2, _⟩
      · rcases z2.2.1 z3 with z5 | z5
        · exact (z5.ab (hus u z3)).1
        · exact absurd z5 (pn_mk hs)
      · omega)
  have fin : ∀ q t : Nat, (q = 1 ∧ t = 10000 + 2 * T) ∨ (q = 2 ∧ t = 10001 + 2 * T) → ((D.I k).ac = 1 ∨ (D.I k).ac = 2 → q = 1) → (q = 2 → (D.I k).n3 = 0 ∧ (isRf (D.E.vt v) → D.E.vt v % 2 = 1)) → wkS ((q, T, 0) :: D.st k) (D.st (k + 1)) → NXt R S0 vt tb i D k f x bs S1 S2 := fun q t hkt hq1 hq2 hw => by
    have hJ2 := kJ_bor (q := q) (t := t) (l0 := lm v ρ (D.I k).n3) (d := d) (π := π) (hd := HK D (k + 1) (40 + wl (D.st k))) (al2 := fun u => u < 40 ∧ AB D k u) (v := v) (ρ := ρ) (T := T) hJ a3 (by omega) (fun r m2 => by
      rw [a2]
      exact ⟨fun z => absurd (Or.inr (Or.inl rfl)) (trL_4 (pn_4 hs) _ z), fun z => absurd (Or.inr (Or.inr rfl)) (trL_4 (pn_4 hs) _ z)⟩) hT9 hkt hi.2.1.1 (by rw [a2]; exact trL_8.mpr hi.2.2.1) (fun z => by
      rw [hvt] at z
      rw [a5]
      exact ⟨hi.2.1.1, Or.inl (by rw [(hu.1 z).1]; exact List.mem_singleton_self _)⟩) (fun u z => by rw [a5]; exact ⟨z.1, hal u z.2 z.1⟩) (fun u κ g1 g2 g3 g4 g5 => by
      rw [htb] at g3 g4 g5 ⊢
      rw [a4] at g2
      exact (hck u κ g1 g2 g3 g4 g5).imp hq1 id) (hFn.hn hed (by omega) ho ⟨hln, rfl, Or.inl ⟨hk, T, hi.1⟩⟩) (by rw [htb]; exact lm_100) (by rw [htb]; exact m1) (by rw [htb]; exact m2) (fun z => by
      rw [htb]
      show ¬ ((dcd (lm v ρ (D.I k).n3)).2.2 % 2 = 1)
      rw [m3, (hq2 z).1]; decide) (by rw [htb, hvt]; exact Iff.rfl) (fun z κ hκ => by
      rw [hvt] at z
      rw [a4] at hκ
      rcases hκ with ⟨_, hκ⟩ | ⟨hκ, _⟩
      · exact hFn.hf hed (by omega) ho k24 (by rw [(hu.1 z).2]; exact List.mem_singleton_self _) hκ.1
      · have := hi.2.1.1; omega) (fun z z2 => by
      rw [hvt] at z2 ⊢
      exact yRf6 z2 ((hq2 z).2 z2)) c2 c4 c5 c9
    exact h1.eR (q := q) (U := T) (t := t) hL hed hJ hN hC hF hnt (by omega) (by omega) hw (kdM_k hk (by decide)) ho (fun κ z => z) hal c2 c7 c6 hJ2 q1 (fun p hp => q4 p (by omega)) q3 ((q1.2.2.2.2.2.2.2 77 (by decide)).trans h1.2.2.2.1.1) q2
  refine Rt.rt ⟨q1.rx h1.2.2.1, Or.inr ⟨(q1.2.2.2.2.2.2.2 3 (by decide)).trans e3, (q1.2.2.2.2.2.2.2 70 (by decide)).trans e70, NXt.fr ?_ er (by rw [h1.2.2.2.1.2.2, h.2.2.2.1.2.2])⟩⟩
  rcases hc with ⟨b1, b2, _, _, b3⟩ | ⟨b1, b2, b4, _, _, b3⟩
  · exact fin 1 (10000 + 2 * T) (Or.inl ⟨rfl, rfl⟩) (fun _ => rfl) (fun z => by omega) b3
  · exact fin 2 (10001 + 2 * T) (Or.inr ⟨rfl, rfl⟩) (fun z => by omega) (fun _ => ⟨b2, b4⟩) b3
end PS65
end
