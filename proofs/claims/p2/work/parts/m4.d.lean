/-- below the top nothing is matched on -/
def gtS (s : List tE) : Prop := ∀ (e : tE) (r : List tE), s = e :: r → ∀ a ∈ r, pnE a
/-- what holds all the time while it runs -/
def RX (Sl S : Sg) : Prop := RNx Sl S ∧ wq S ∧ (∃ c : Nat, c ≤ 60 ∧ Zi S 86 = nI c) ∧ (∃ h : Nat, h ≤ 4000 ∧ Zi S 66 = nI h) ∧ Zi S 81 = nI 0
/-- the stack alone changes -/
def SO (S S2 : Sg) : Prop := ZL S2 = ZL S ∧ ZF S2 = ZF S ∧ (Zz S2 = Zz S ∧ Zn S2 = Zn S) ∧ Zq S2 = Zq S ∧ Zf S2 = Zf S ∧ (∀ r : Nat, r ≠ 72 → Zl S2 r = Zl S r) ∧ Zr S2 = Zr S ∧ ∀ j : Nat, j ≠ 73 → Zi S2 j = Zi S j
/-- where the running stands: at the point k of function i -/
def PK (R : yR) (S0 : Sg) (i : Nat) (D : fD) (k : Nat) : Prop := FnD R S0 i D ∧ (D.Ps ≤ k ∧ k < D.Pe ∧ D.rc k ≠ 0) ∧ D.W k ∧ gtS (D.st k) ∧ D.E.y = yT R S0
/-- root 300 leads to the place v ρ -/
def pd5 (f t : Nat) (r : Nat → Option lLc) (v : Nat) (ρ : lLc) : Prop := ∃ (d : Nat × Nat) (π : lLc), r 300 = some (d :: π) ∧ ((d = (f, v) ∧ π = ρ ∧ ¬ isRf t) ∨ ∃ π0 ρ2 : lLc, r v = some (d :: π0) ∧ π = π0 ++ ρ2 ∧ ρ = (1, 0) :: ρ2 ∧ isRf t)
/-- .. with what a value that is matched on is -/
def kT3 (y : qY) (zn sz : Nat → Nat) (vt : Nat → Nat → Nat) (tb : Nat → lTb) (f : Nat) (x : Nat → kFm) (bs : Nat → Nat) (S : Sg) (s : List tE) : Prop := ∃ (rt : Nat × Nat → Nat) (V : Nat × Nat → qV) (C L H : Nat × Nat → List Nat) (fl : List Nat) (t : Nat), (kJ y vt tb f x rt V ∧ kN y zn sz (nMS S) (Zl S 72) (Zr S 74) f x rt V bs C L H ∧ kC C L H fl t (Zr S 67) ∧ FLs S fl t) ∧ (∀ r m : Nat, (3, r, m) ∈ s → V (f, 40) [] = some (r / 12, r % 12)) ∧ ∀ (q r m v : Nat) (ρ : lLc), (q = 5 ∨ q = 6) → (q, r, 64 * cdP v ρ + m) ∈ s → m < 64 → v < 40 → pd5 f (vt (x f).1 v) (kR (x f)) v ρ
/-- the next point, in the same frame -/
def NXt (R : yR) (S0 : Sg) (vt : Nat → Nat → Nat) (tb : Nat → lTb) (i : Nat) (D : fD) (k f : Nat) (x : Nat → kFm) (bs : Nat → Nat) (S S2 : Sg) : Prop := ∃ (j : Nat) (X : kFm), edg D k j ∧ PK R S0 i D j ∧ Zi S2 77 = nI j ∧ Zi S2 73 = nI (bs f + wl (D.st j)) ∧ (Zr S2 75 = Zr S 75 ∧ Zi S2 76 = Zi S 76) ∧ atT R S0 i D j X ∧ kAn X = kAn (x f) ∧ kT3 (yT R S0) (zN R S0) (szN R S0) vt tb f (kUx x f X) bs S2 (D.st j)
section PS55
variable {R : yR} {S0 Sl S S1 S2 : Sg} {D : fD} {i k j f n u κ : Nat} {y : qY} {vt : Nat → Nat → Nat} {tb : Nat → lTb} {zn sz rk : Nat → Nat} {x : Nat → kFm} {bs : Nat → Nat} {s t : List tE} {K : Ky} {A B : Nat → Prop} {g : Nat → Int32}
theorem kT3.kt (h : kT3 y zn sz vt tb f x bs S s) : kT y zn sz vt tb f x bs S := by
  obtain ⟨rt, V, C, L, H, fl, t, h, _⟩ := h
  exact ⟨rt, V, C, L, H, fl, t, h⟩
theorem kT.t3 (h : kT y zn sz vt tb f x bs S) (hs : ∀ a ∈ s, pnE a) : kT3 y zn sz vt tb f x bs S s := by
  obtain ⟨rt, V, C, L, H, fl, t, h⟩ := h
  exact ⟨rt, V, C, L, H, fl, t, h, (fun r m w => absurd rfl (hs _ w).1), fun q r m v ρ hq w _ _ => (hq.elim (hs _ w).2.2.1 (hs _ w).2.2.2.1).elim⟩
theorem gtS.all (h : gtS s) (ht : nT s) : ∀ a ∈ s, pnE a := fun a ha => by
  cases s with
  | nil => cases ha
  | cons e r =>
    rcases List.mem_cons.mp ha with w | w
    · rw [w]; exact ht e r rfl
    · exact h e r rfl a w
theorem gtS.tl {e : tE} (h : gtS (e :: s)) : ∀ a ∈ s, pnE a := h e s rfl
theorem gtS.cn {e : tE} (h : ∀ a ∈ s, pnE a) : gtS (e :: s) := fun e2 r q => by cases q; exact h
theorem gtS.of (h : ∀ a ∈ s, pnE a) : gtS s := fun e r q a ha => h a (by rw [q]; exact List.mem_cons_of_mem _ ha)
theorem wkE.pn {e e2 : tE} (h : wkE e e2) (q : pnE e) : pnE e2 := by
  rcases h with h | ⟨t2, _, h, _⟩
  · rw [h]; exact q
  · rw [h]; exact pnE_k (Or.inl rfl)
theorem wkS_pn : ∀ {s t : List tE}, wkS s t → (∀ a ∈ s, pnE a) → ∀ a ∈ t, pnE a
  | [], [], _, _, _, h => by cases h
  | e :: s, e2 :: t, h, q, a, ha => by
    rcases List.mem_cons.mp ha with w | w
    · rw [w]; exact h.1.pn (q e (List.mem_cons_self ..))
    · exact wkS_pn h.2 (fun a z => q a (List.mem_cons_of_mem _ z)) a w
  | [], _ :: _, h, _, _, _ => h.elim
  | _ :: _, [], h, _, _, _ => h.elim
theorem wkS_gt (h : wkS s t) (q : gtS s) : gtS t := by
  cases s with
  | nil =>
    cases t with
    | nil => exact fun e r w => by cases w
    | cons a b => exact h.elim
  | cons e s =>
    cases t with
    | nil => exact h.elim
    | cons e2 t => exact gtS.cn (wkS_pn h.2 q.tl)
theorem pn_mk (h : ∀ a ∈ s, pnE a) : ¬ mkS s := fun ⟨a, a1, a2, a3⟩ => a3 ((h a a1).2.2.2.2 a2)
theorem pn_4 (h : ∀ a ∈ s, pnE a) : ∀ a ∈ s, ¬ (a.1 = 4 ∨ a.1 = 5 ∨ a.1 = 6) := fun a ha w => by
  obtain ⟨_, h1, h2, h3, _⟩ := h a ha
  rcases w with w | w | w
  · exact h1 w
  · exact h2 w
  · exact h3 w
theorem SO.rf : SO S S := ⟨rfl, rfl, ⟨rfl, rfl⟩, rfl, rfl, fun _ _ => rfl, rfl, fun _ _ => rfl⟩
theorem SO.tr (a : SO S S1) (b : SO S1 S2) : SO S S2 := ⟨b.1.trans a.1, b.2.1.trans a.2.1, ⟨b.2.2.1.1.trans a.2.2.1.1, b.2.2.1.2.trans a.2.2.1.2⟩, b.2.2.2.1.trans a.2.2.2.1, b.2.2.2.2.1.trans a.2.2.2.2.1, fun r h => (b.2.2.2.2.2.1 r h).trans (a.2.2.2.2.2.1 r h), b.2.2.2.2.2.2.1.trans a.2.2.2.2.2.2.1, fun r h => (b.2.2.2.2.2.2.2 r h).trans (a.2.2.2.2.2.2.2 r h)⟩
theorem SO.rn (e : SO S S2) : RNx S S2 := ⟨e.1, e.2.1, e.2.2.1, e.2.2.2.1, e.2.2.2.2.1, fun r _ => by rw [e.2.2.2.2.2.2.1], fun r h => e.2.2.2.2.2.1 r (by omega), fun j h _ => e.2.2.2.2.2.2.2 j (by omega)⟩
theorem SO.sam (e : SO S S2) : sam S S2 := ⟨by show (Zl S2 61, Zr S2 62, Zr S2 63) = (Zl S 61, Zr S 62, Zr S 63); rw [e.2.2.2.2.2.1 61 (by decide), e.2.2.2.2.2.2.1], by rw [e.2.2.2.2.2.2.1], by rw [e.2.2.2.2.2.2.1], e.2.2.2.2.2.2.2 64 (by decide), e.2.2.2.2.2.2.2 65 (by decide)⟩
theorem RX.mk (h : RX Sl S) (e : RNx S S2) (hw : wq S2) (h86 : Zi S2 86 = Zi S 86) (h66 : Zi S2 66 = Zi S 66) (h81 : Zi S2 81 = nI 0) : RX Sl S2 := by
  obtain ⟨h1, h2, ⟨c, c1, c2⟩, ⟨d, d1, d2⟩, h5⟩ := h
  exact ⟨h1.tr e, hw, ⟨c, c1, h86.trans c2⟩, ⟨d, d1, h66.trans d2⟩, h81⟩
theorem wq.eq (h : wq S) (h1 : Zi S2 83 = Zi S 83) (h2 : Zi S2 84 = Zi S 84) : wq S2 := by
  obtain ⟨f, l, a, b, c, d⟩ := h
  exact ⟨f, l, h1.trans a, b, h2.trans c, d⟩
theorem SO.rx (e : SO S S2) (h : RX Sl S) : RX Sl S2 := h.mk e.rn (h.2.1.eq (e.2.2.2.2.2.2.2 83 (by decide)) (e.2.2.2.2.2.2.2 84 (by decide))) (e.2.2.2.2.2.2.2 86 (by decide)) (e.2.2.2.2.2.2.2 66 (by decide)) ((e.2.2.2.2.2.2.2 81 (by decide)).trans h.2.2.2.2)
/-- push -/
theorem psh_ {p : Nat} {v : Int64} (hp : Zi S 73 = nI p) (h2 : p < 20000) : Rt (f_push K S v) (fun S2 _ => SO S S2 ∧ Zi S2 73 = nI (p + 1) ∧ Zl S2 72 p = v ∧ ∀ q : Nat, q ≠ p → Zl S2 72 q = Zl S 72 q) := by
  unfold f_push
  rw [hp]
  refine Rt.bd (wJ_n (show p < rlen 72 from h2) (by decide)) ?_
  refine Rt.bd (v := Ui (Ul S 72 (vp_updL (Zl S 72) p v)) 73 (nI (p + 1))) (by
    show some (Ui _ 73 (Zi S 73 + 1)) = _
    rw [hp, nI_1]) (Rt.rt ⟨⟨rfl, rfl, ⟨rfl, rfl⟩, rfl, rfl, fun r hr => Zl_un hr, rfl, fun j hj => Zi_n hj⟩, Zi_s, ?_, fun q hq => ?_⟩)
  · show Zl (Ul S 72 (vp_updL (Zl S 72) p v)) 72 p = v
    rw [Zl_us, upL_s]
  · show Zl (Ul S 72 (vp_updL (Zl S 72) p v)) 72 q = _
    rw [Zl_us]; exact upL_n hq
/-- pop -/
theorem pop_ {p : Nat} (hp : Zi S 73 = nI (p + 1)) (h2 : p < 20000) : Rt (f_pop K S) (fun S2 r => S2 = Ui S 73 (nI p) ∧ r = Zl S 72 p ∧ SO S S2 ∧ Zi S2 73 = nI p ∧ Zl S2 = Zl S) := by
  unfold f_pop
  rw [hp, nI_pred]
  refine Rt.bd (v := Ui S 73 (nI p)) rfl ?_
  rw [show Zi (Ui S 73 (nI p)) 73 = nI p from Zi_s]
  exact Rt.bd (rJ_n (show p < rlen 72 from h2) (by decide)) (Rt.rt ⟨rfl, rfl, ⟨rfl, rfl, ⟨rfl, rfl⟩, rfl, rfl, fun _ _ => rfl, rfl, fun j hj => Zi_n hj⟩, Zi_s, rfl⟩)
/-- no variable gets a value -/
def kdM (i : iR) : Prop := i.kd ≠ 12 ∧ i.kd ≠ 14 ∧ i.kd ≠ 22 ∧ i.kd ≠ 23 ∧ i.kd ≠ 24
theorem kdM.nk {T0 c : Nat} {ii : iR} (h : kdM ii) : ¬ MvK R S0 T0 ii c := fun w => by
  obtain ⟨h1, h2, h3, h4, h5⟩ := h
  rcases w with ⟨w, _⟩ | ⟨w, _⟩
  · omega
  · omega
/-- a step's end, if nobody holds anything new -/
theorem fin0 (hL : LFS R S0 g) (hk : PK R S0 i D k) (e : edg D k j) (hw : wkS s (D.st j)) (hs : ∀ a ∈ s, pnE a) (hm : kdM (D.I k)) (ho : (D.I k).ho = none)
  (h0 : (x f).2.2.1 = 0) (hi : (x f).1 = i) (hst : wkS (x f).2.1 (trL (AL D j) (D.st j))) (hH : kH (x f) = HA R S0 i D k) (hal : kal (x f) = fun u => u < 40 ∧ AL D k u) (hlo : klo (x f) = LO R S0 D k) (h : kT (yT R S0) (zN R S0) (szN R S0) vt tb f x bs S2) (h77 : Zi S2 77 = nI j) (h73 : Zi S2 73 = nI (bs f + wl (D.st j))) (h75 : Zr S2 75 = Zr S 75) (h76 : Zi S2 76 = Zi S 76) : NXt R S0 vt tb i D k f x bs S S2 := by
  obtain ⟨hD, hkk, hW, hG, hE⟩ := hk
  have hy := nYk_of hL
  have hj := wkS_pn hw hs
  obtain ⟨j1, j2, j3, j4, j5⟩ := hD.in e
  have hno : ∀ u : Nat, (D.I k).ho ≠ some u := fun u w => by rw [ho] at w; cases w
  have hwl := (hD.pt j1 j2).2
  have a1 : ∀ u κ : Nat, u < 40 → AL D j u → kH (x f) u κ → HK D j u κ := fun u κ hu q w => by
    rw [hH] at w
    rcases w with ⟨_, w⟩ | ⟨w, _⟩
    · exact hD.hk e (by omega) (hno u) w.1
    · omega
  have a2 : ∀ m κ : Nat, m < wl (D.st j) → AL D j (40 + m) ∨ mkS (D.st j) → kH (x f) (40 + m) κ → HK D j (40 + m) κ ∧ (mkS (D.st j) → m = 0 → okl R S0 i D κ) := fun m κ hm2 q w => by
    rw [hH] at w
    refine ⟨?_, fun z => absurd z (pn_mk hj)⟩
    rcases w with ⟨_, w⟩ | ⟨w, _⟩
    · exact hD.hk e (by omega) (hno _) w.1
    · omega
  have a3 : ∀ (κ r m : Nat), (5, r, m) ∈ trL (AL D j) (D.st j) ∨ (6, r, m) ∈ trL (AL D j) (D.st j) → kH (x f) 300 κ → HA R S0 i D j 300 κ := fun κ r m q => by
    rcases q with q | q
    · exact absurd (Or.inr (Or.inl rfl)) (trL_4 (pn_4 hj) _ q)
    · exact absurd (Or.inr (Or.inr rfl)) (trL_4 (pn_4 hj) _ q)
  have a4 : ∀ (v : Nat) (π : lLc), v < 40 → (8, v, 0) ∈ D.st j → klo (x f) v π → LO R S0 D j v π := fun v π hv _ w => by
    rw [hlo] at w
    exact hD.lo hy hE e hv w (fun c _ _ => hm.nk)
  obtain ⟨X, x1, x2, x3⟩ := kT.fin (D := D) (j := j) (i := i) (R := R) (S0 := S0) hy yB_yT h h0 hi hst (fun u hu q => by rw [hal]; exact ⟨hu, hD.al e (by omega) (hno u) q⟩) a1 a2 a3 a4
  exact ⟨j, X, e, ⟨hD, ⟨j1, j2, j5⟩, j3 hW, gtS.of hj, hE⟩, h77, h73, ⟨h75, h76⟩, x1, x2, x3.t3 hj⟩
end PS55
