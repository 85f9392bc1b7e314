/-- the stack changes, a fault may have come -/
def SF (S S2 : Sg) : Prop := (Zi S2 3 = Zi S 3 ∧ SO S S2) ∨ (Zi S2 3 ≠ 0 ∧ SO (Ui S 3 7) S2)
section PS58
variable {R : yR} {S0 Sl S S1 S2 S3 : Sg} {D : fD} {i k j f nw : Nat} {vt : Nat → Nat → Nat} {tb : Nat → lTb} {x : Nat → kFm} {bs : Nat → Nat} {g : Nat → Int32} {K : Ky} {p : Nat}
theorem RX.f3 {v : Int32} (h : RX Sl S) : RX Sl (Ui S 3 v) := h.mk ⟨rfl, rfl, ⟨rfl, rfl⟩, rfl, rfl, fun _ _ => rfl, fun _ _ => rfl, fun j _ h3 => Zi_n h3⟩ (h.2.1.eq (Zi_n (by decide)) (Zi_n (by decide))) (Zi_n (by decide)) (Zi_n (by decide)) ((Zi_n (by decide)).trans h.2.2.2.2)
theorem SF.rx (e : SF S S2) (h : RX Sl S) : RX Sl S2 := by
  rcases e with ⟨_, e⟩ | ⟨_, e⟩
  · exact e.rx h
  · exact e.rx h.f3
theorem lg_0 {a : Int64} (h : ¬ lg_cmp a 0 = 0) : a ≠ 0 := fun e => h (by rw [e]; decide)
theorem sg340 {v : Int64} {y0 : Int32} (e : SO S S3) (hp : Zi S3 73 = nI p) (h2 : p < 20000) (hz : Zl S3 = Zl S) : Rt (f_runSign_340 K S3 v y0) (fun S2 _ => SF S S2 ∧ Zi S2 73 = nI (p + 1) ∧ ∀ q : Nat, q ≠ p → Zl S2 72 q = Zl S 72 q) := by
  unfold f_runSign_340 f_runSign_351
  refine Rt.it (fun _ => Rt.bn (psh_ hp h2) (fun S4 _ ⟨q1, q2, q3, q4⟩ => Rt.rt ⟨Or.inl ⟨(q1.2.2.2.2.2.2.2 3 (by decide)).trans (e.2.2.2.2.2.2.2 3 (by decide)), e.tr q1⟩, q2, fun q hq => by rw [q4 q hq, hz]⟩)) (fun _ => ?_)
  refine Rt.bd (v := Ui S3 3 7) rfl (Rt.bn (psh_ (p := p) ((Zi_n (by decide)).trans hp) h2) (fun S4 _ ⟨q1, q2, q3, q4⟩ => Rt.rt ⟨Or.inr ⟨?_, ?_⟩, q2, fun q hq => ?_⟩))
  · rw [q1.2.2.2.2.2.2.2 3 (by decide), show Zi (Ui S3 3 7) 3 = 7 from Zi_s]; decide
  · refine SO.tr (S1 := Ui S3 3 7) ⟨e.1, e.2.1, e.2.2.1, e.2.2.2.1, e.2.2.2.2.1, e.2.2.2.2.2.1, e.2.2.2.2.2.2.1, fun j hj => ?_⟩ q1
    by_cases w : j = 3
    · subst w; exact (Zi_s (S := S3)).trans (Zi_s (S := S)).symm
    · exact (Zi_n w).trans ((e.2.2.2.2.2.2.2 j hj).trans (Zi_n w).symm)
  · have := q4 q hq
    rw [this]
    show Zl S3 72 q = _
    rw [hz]
/-- runSign -/
theorem rsg_ {c : Int32} (hp : Zi S 73 = nI (p + 2)) (h2 : p + 2 < 20000) : Rt (f_runSign K S c) (fun S2 _ => SF S S2 ∧ Zi S2 73 = nI (p + 1) ∧ ∀ q : Nat, q ≠ p → Zl S2 72 q = Zl S 72 q) := by
  unfold f_runSign
  refine Rt.bn (pop_ (p := p + 1) hp (by omega)) (fun S1 v2 ⟨_, _, q1, q2, q3⟩ => Rt.bn (pop_ (p := p) q2 (by omega)) (fun S3 v4 ⟨_, _, r1, r2, r3⟩ => ?_))
  have e := q1.tr r1
  have hz : Zl S3 = Zl S := r3.trans q3
  have go : ∀ (v : Int64) (y0 : Int32), Rt (f_runSign_340 K S3 v y0) (fun S2 _ => SF S S2 ∧ Zi S2 73 = nI (p + 1) ∧ ∀ q : Nat, q ≠ p → Zl S2 72 q = Zl S 72 q) := fun v y0 => sg340 e r2 (by omega) hz
  have g184 : ∀ c : Int32, Rt (f_runSign_184 K S3 c v2 v4 0) (fun S2 _ => SF S S2 ∧ Zi S2 73 = nI (p + 1) ∧ ∀ q : Nat, q ≠ p → Zl S2 72 q = Zl S 72 q) := fun c => by
    unfold f_runSign_184 f_runSign_207 f_runSign_211
    have h0 : ¬ lg_cmp v2 0 = 0 → Rt (f_runSign_212 K S3 c v2 v4 0 0) (fun S2 _ => SF S S2 ∧ Zi S2 73 = nI (p + 1) ∧ ∀ q : Nat, q ≠ p → Zl S2 72 q = Zl S 72 q) := fun w => by
      unfold f_runSign_212 f_runSign_236
      exact Rt.ip rfl (Rt.it (fun _ => Rt.bd (show nzL v2 = some () from if_neg (lg_0 w)) (go _ _)) (fun _ => Rt.bd (show nzL v2 = some () from if_neg (lg_0 w)) (go _ _)))
    have h1 : Rt (f_runSign_212 K S3 c v2 v4 0 1) (fun S2 _ => SF S S2 ∧ Zi S2 73 = nI (p + 1) ∧ ∀ q : Nat, q ≠ p → Zl S2 72 q = Zl S 72 q) := by
      unfold f_runSign_212
      exact Rt.iq (by decide) (go _ _)
    exact Rt.it (fun _ => h1) (fun w => Rt.it (fun _ => Rt.it (fun _ => h1) (fun _ => h0 w)) (fun _ => h0 w))
  unfold f_runSign_98 f_runSign_129 f_runSign_174 f_runSign_178 f_runSign_179 f_runSign_253 f_runSign_270 f_runSign_287 f_runSign_304 f_runSign_321 f_runSign_338
  refine Rt.it (fun _ => Rt.it (fun _ => go _ _) (fun _ => go _ _)) (fun _ => Rt.it (fun _ => Rt.it (fun _ => go _ _) (fun _ => go _ _)) (fun _ => Rt.it (fun _ => Rt.it (fun _ => go _ _) (fun w => Rt.bd (show nzL v4 = some () from if_neg (lg_0 w)) (Rt.it (fun _ => Rt.it (fun _ => Rt.it (fun _ => go _ _) (fun _ => go _ _)) (fun _ => go _ _)) (fun _ => go _ _)))) (fun _ => Rt.it (fun _ => g184 _) (fun _ => Rt.it (fun _ => g184 _) (fun _ => Rt.it (fun _ => Rt.it (fun _ => go _ _) (fun _ => go _ _)) (fun _ => Rt.it (fun _ => Rt.it (fun _ => go _ _) (fun _ => go _ _)) (fun _ => Rt.it (fun _ => Rt.it (fun _ => go _ _) (fun _ => go _ _)) (fun _ => Rt.it (fun _ => Rt.it (fun _ => go _ _) (fun _ => go _ _)) (fun _ => Rt.it (fun _ => Rt.it (fun _ => go _ _) (fun _ => go _ _)) (fun _ => Rt.it (fun _ => go _ _) (fun _ => go _ _)))))))))))
theorem tr_0 {al : Nat → Prop} {t1 : Nat} {r : List tE} : trL al ((0, t1, 0) :: r) = (0, t1, 0) :: trL al r := by
  show trE al (wl r) (0, t1, 0) :: trL al r = _
  rw [trE_o (by show (0 : Nat) ≠ 1; decide) (by show (0 : Nat) ≠ 2; decide) (by show (0 : Nat) ≠ 3; decide) (by show (0 : Nat) ≠ 5; decide) (by show (0 : Nat) ≠ 6; decide)]
theorem wl_00p {t1 : Nat} {r : List tE} : wl ((0, t1, 0) :: r) = wl r + 1 := wl_n (by show ¬ ((0 : Nat) = 8 ∨ (0 : Nat) = 4 ∨ (0 : Nat) = 5 ∨ (0 : Nat) = 6); decide)
/-- numbers go (n = 1 or 2), one may come: a step's end -/
theorem RQ.op (hL : LFS R S0 g) (h : RQ R S0 vt tb i D k f x bs Sl nw S) (e : edg D k j) {r P : List tE} (hs : (∃ t1 : Nat, (t1 = 1 ∨ t1 = 2) ∧ D.st k = (0, t1, 0) :: r) ∨ ∃ t1 t2 : Nat, (t1 = 1 ∨ t1 = 2) ∧ (t2 = 1 ∨ t2 = 2) ∧ D.st k = (0, t1, 0) :: (0, t2, 0) :: r) (hP : P = [] ∨ ∃ t3 : Nat, (t3 = 1 ∨ t3 = 2 ∨ t3 = 3) ∧ P = [(0, t3, 0)]) (hw : wkS (P ++ r) (D.st j)) (hm : kdM (D.I k)) (ho : (D.I k).ho = none) (hsm : sam S S2) (h2 : ∀ q : Nat, q < bs f + wl r → Zl S2 72 q = Zl S 72 q) (h77 : Zi S2 77 = nI j) (h73 : Zi S2 73 = nI (bs f + wl (P ++ r))) (h75 : Zr S2 75 = Zr S 75) (h76 : Zi S2 76 = Zi S 76) : NXt R S0 vt tb i D k f x bs S S2 := by
  have hy := nYk_of hL
  obtain ⟨hst, hwl⟩ := h.st
  have h177 := h.pt.2
  obtain ⟨hPK, hz, hX, hI, hf, ⟨a1, a2, a3, a4, a5, a6⟩, hT, hws, hv⟩ := h
  have hgt := hPK.2.2.2.1
  have hr : (∀ a ∈ r, pnE a) ∧ wl r ≤ 177 := by
    rcases hs with ⟨t1, _, w⟩ | ⟨t1, t2, _, _, w⟩
    · rw [w] at hgt h177
      rw [wl_00p] at h177
      exact ⟨hgt.tl, by omega⟩
    · rw [w] at hgt h177
      rw [wl_00p, wl_00p] at h177
      exact ⟨fun a ha => hgt.tl a (List.mem_cons_of_mem _ ha), by omega⟩
  -- the values are gone
  have hpop : ∃ X : kFm, kT (yT R S0) (zN R S0) (szN R S0) vt tb f (kUx x f X) bs S ∧ X.1 = (x f).1 ∧ X.2.1 = trL (AL D k) r ∧ X.2.2.1 = 0 ∧ kH X = kH (x f) ∧ kal X = kal (x f) ∧ klo X = klo (x f) ∧ kAn X = kAn (x f) := by
    rcases hs with ⟨t1, w0, w⟩ | ⟨t1, t2, w0, w1, w⟩
    · have q := hT.kt.pop1 hy yB_yT a3 (s := trL (AL D k) r) (by rw [hst, w, tr_0]) (Or.inl ⟨t1, by omega, rfl⟩)
      exact ⟨_, q, rfl, rfl, rfl, rfl, rfl, rfl, rfl⟩
    · have q := hT.kt.pop1 hy yB_yT a3 (s := (0, t2, 0) :: trL (AL D k) r) (by rw [hst, w, tr_0, tr_0]) (Or.inl ⟨t1, by omega, rfl⟩)
      have q2 := q.pop1 hy yB_yT (by rw [kUx_top]) (s := trL (AL D k) r) (by rw [kUx_top]) (Or.inl ⟨t2, by omega, rfl⟩)
      rw [kUx_top, kUx2] at q2
      exact ⟨_, q2, rfl, rfl, rfl, rfl, rfl, rfl, rfl⟩
  obtain ⟨X, x0, x1, x2, x3, x4, x5, x6, x7⟩ := hpop
  have x0 := x0.skc hsm (fun q hq => h2 q (by rw [kUx_top, x2, trL_wl] at hq; exact hq))
  -- what comes
  have hpsh : ∃ Y : kFm, kT (yT R S0) (zN R S0) (szN R S0) vt tb f (kUx x f Y) bs S2 ∧ Y.1 = (x f).1 ∧ Y.2.1 = P ++ trL (AL D k) r ∧ Y.2.2.1 = 0 ∧ kH Y = kH (x f) ∧ kal Y = kal (x f) ∧ klo Y = klo (x f) ∧ kAn Y = kAn (x f) := by
    rcases hP with w | ⟨t3, w0, w⟩
    · exact ⟨X, x0, x1, by rw [w]; exact x2, x3, x4, x5, x6, x7⟩
    · have q := x0.push0 hy yB_yT (by rw [kUx_top]; exact x3) (by rw [kUx_top, x2, trL_wl]; omega) w0
      rw [kUx_top, kUx2] at q
      exact ⟨_, q, x1, by rw [w, ← x2]; rfl, rfl, x4, x5, x6, x7⟩
  obtain ⟨Y, y0, y1, y2, y3, y4, y5, y6, y7⟩ := hpsh
  have hPn : ∀ a ∈ P ++ r, pnE a := fun a ha => by
    rcases List.mem_append.mp ha with w | w
    · rcases hP with z | ⟨t3, _, z⟩
      · rw [z] at w; cases w
      · rw [z] at w; rw [List.mem_singleton.mp w]; exact pnE_k (Or.inl rfl)
    · exact hr.1 a w
  refine (fin0 (s := P ++ r) (S := S) hL hPK e hw hPn hm ho ?_ ?_ ?_ ?_ ?_ ?_ y0 h77 ?_ h75 h76).ux y7
  · rw [kUx_top]; exact y3
  · rw [kUx_top, y1]; exact a1
  · rw [kUx_top, y2]
    rcases hP with z | ⟨t3, _, z⟩
    · rw [z] at hw ⊢
      exact trL_t hw (hPK.1.dn e ho (show wl ([] ++ r) ≤ 177 from hr.2))
    · rw [z] at hw ⊢
      exact trL_c hw (show (0 : Nat) ≠ 3 by decide) (show (0 : Nat) ≠ 5 by decide) (show (0 : Nat) ≠ 6 by decide) (hPK.1.dn e ho hr.2)
  · rw [kUx_top, y4]; exact a4
  · rw [kUx_top, y5]; exact a5
  · rw [kUx_top, y6]; exact a6
  · rw [h73, wkS_wl hw]
end PS58
