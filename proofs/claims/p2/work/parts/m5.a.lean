section PS78
variable {R : yR} {S0 Sl S S1 S2 S3 : Sg} {D : fD} {i k j f nw : Nat} {y : qY} {vt : Nat → Nat → Nat} {tb : Nat → lTb} {x : Nat → kFm} {bs : Nat → Nat} {g : Nat → Int32} {rt : Nat × Nat → Nat} {V : Nat × Nat → qV} {C L H : Nat × Nat → List Nat} {al : Nat → Prop} {E r P : List tE}
/-- the latest values go, a whole one comes -/
theorem kJ_pp (h : kJ y vt tb f x rt V) {s : List tE} (hS : (x f).2.1 = E ++ s) (hE : ∀ e : tE, e ∈ E → kNm e) (hn : (x f).2.2.1 = 0) (hl : wl s < 211) {T : Nat} {W : qV} (hT0 : T ≠ 0) (hT5 : y.1 T ≠ 5) (hT6 : y.1 T ≠ 6) (hW : qFu y T W) : kJ y vt tb f (kUx x f ((x f).1, (0, T, 0) :: s, 0, lUp (kR (x f)) (40 + wl s) none, kH (x f), kal (x f), klo (x f), kAn (x f))) (qRt rt (f, 40 + wl s) T) (qUp (kCl V f (wl s)) (f, 40 + wl s) W) := by
  have j1 := kJ_pop h hS hE hn
  generalize hx1 : kUx x f ((x f).1, s, 0, kR (x f), kH (x f), kal (x f), klo (x f), kAn (x f)) = x1 at j1
  have e1 : x1 f = ((x f).1, s, 0, kR (x f), kH (x f), kal (x f), klo (x f), kAn (x f)) := by rw [← hx1, kUx_eq]
  have eS : (x1 f).2.1 = s := by rw [e1]
  have hk0 : kNm (0, T, 0) := by unfold kNm; simp
  have j := kJ_push (hd := kH (x1 f) (40 + wl (x1 f).2.1)) j1 hk0 (by rw [e1]) (by rw [eS]; exact hl) hW.1 (fun w hw => by
    obtain ⟨a, b⟩ := w
    have e9 : a = T := (hW.1.1 [] a b hw).1
    show y.1 a ≠ 5 ∧ y.1 a ≠ 6
    rw [e9]
    exact ⟨hT5, hT6⟩) (e := (0, T, 0)) ⟨lUp_eq, hT5, hT6, fun _ => ⟨qRt_eq, by rw [qUp_eq]; exact hW.2⟩, fun q => absurd q hT0⟩
  rw [lUp_self] at j
  rw [e1, ← hx1, kUx2] at j
  exact j
theorem trL_0 : ∀ {E : List tE}, (∀ e ∈ E, e.1 = 0) → trL al (E ++ r) = E ++ trL al r
  | [], _ => rfl
  | e :: E, h => by
    have h0 := h e (List.mem_cons_self ..)
    show trE al (wl (E ++ r)) e :: trL al (E ++ r) = e :: (E ++ trL al r)
    rw [trL_0 (fun a ha => h a (List.mem_cons_of_mem _ ha)), trE_o (by omega) (by omega) (by omega) (by omega) (by omega)]
theorem nm_0 {e : tE} (h : e.1 = 0) : kNm e := by
  show ¬ (e.1 = 8 ∨ e.1 = 4 ∨ e.1 = 5 ∨ e.1 = 6)
  omega
/-- values that are no references go, one may come: a step's end -/
theorem RQ.vs {A B : Nat → Prop} {tt t2 : Nat} {fl lv hv fl2 : List Nat} (hL : LFS R S0 g) (h1 : RQ R S0 vt tb i D k f x bs Sl nw S1) (hed : edg D k j) (hJ : kJ (yT R S0) vt tb f x rt V) (hN : kN (yT R S0) (zN R S0) (szN R S0) (nMS S1) (Zl S1 72) (Zr S1 74) f x rt V bs C L H) (hC : kC C L H fl tt (Zr S1 67)) (hs : D.st k = E ++ r) (hE : ∀ e ∈ E, e.1 = 0) (hrn : ∀ a ∈ r, pnE a) (hw : wkS (P ++ r) (D.st j)) (hm : kdM (D.I k)) (ho : (D.I k).ho = none)
  (hP : (P = [] ∧ lv = [] ∧ hv = []) ∨ ∃ (T : Nat) (W : qV), P = [(0, T, 0)] ∧ T ≠ 0 ∧ (yT R S0).1 T ≠ 5 ∧ (yT R S0).1 T ≠ 6 ∧ qFu (yT R S0) T W ∧ vaR (yT R S0) (szN R S0) (nMS S2) T W (Zl S2 72 (bs f + wl r)) lv hv)
  (e : GO A B (fun _ => False) S1 S2) (hA : ∀ a : Nat, A a → a ∈ fl ∨ tt < a ∨ ∃ i : Nat, i < wl E ∧ a ∈ L (f, 40 + (wl r + i)))
  (hfl2 : ∀ a : Nat, cnN a lv + cnN a fl2 + ind tt a = psN (fun i => cnN a (L (f, 40 + (wl r + i)))) (wl E) + cnN a fl + ind t2 a)
  (hhv : ∀ q : Nat, (cnN q hv ≤ psN (fun i => cnN q (H (f, 40 + (wl r + i)))) (wl E) ∧ (Zr S2 67 q = Zr S1 67 q ∨ cnN q hv < psN (fun i => cnN q (H (f, 40 + (wl r + i)))) (wl E))) ∨ (Zr S1 67 q = 0 ∧ cnN q hv ≤ 1 ∧ q < 4000 ∧ Zr S2 67 q ≠ 0))
  (hF : FLs S2 fl2 t2) (hsk : ∀ q : Nat, q < bs f + wl r → Zl S2 72 q = Zl S1 72 q) (h77 : Zi S1 77 = nI j) (h73 : Zi S2 73 = nI (bs f + wl (P ++ r))) : NXt R S0 vt tb i D k f x bs S1 S2 := by
  have hy := nYk_of hL
  have hat := h1.2.2.2.2.2.1
  obtain ⟨a1, a2, a3, a4, a5, a6⟩ := id hat
  have h177 := h1.pt.2
  have hFn := h1.1.1
  have eS : (x f).2.1 = E ++ trL (AL D k) r := by rw [a2, hs, trL_0 hE]
  have eW : wl (trL (AL D k) r) = wl r := trL_wl
  have hwr : wl r ≤ 177 := by rw [hs, wl_app] at h177; omega
  have hEn : ∀ e ∈ E, kNm e := fun e he => nm_0 (hE e he)
  have h74 : Zr S2 74 = Zr S1 74 := funext fun q => e.2.2.2.2.2 q (fun w => w)
  have key : ∃ X : kFm, kT (yT R S0) (zN R S0) (szN R S0) vt tb f (kUx x f X) bs S2 ∧ X.1 = (x f).1 ∧ X.2.1 = P ++ trL (AL D k) r ∧ X.2.2.1 = 0 ∧ kH X = kH (x f) ∧ kal X = kal (x f) ∧ klo X = klo (x f) ∧ kAn X = kAn (x f) := by
    rcases hP with ⟨z1, z2, z3⟩ | ⟨T, W, z1, z2, z3, z4, z5, z6⟩
    · have j1 := kJ_pop hJ eS hEn a3
      have k1 : ∀ q : Nat × Nat, ¬ (q.1 = f ∧ 40 + wl (trL (AL D k) r) ≤ q.2) → rt q = rt q ∧ kCl V f (wl (trL (AL D k) r)) q = V q := fun q hq => ⟨rfl, kCl_ge (fun w => hq ⟨w.1, w.2.1⟩)⟩
      obtain ⟨n1, n2⟩ := hN.vs (X := ((x f).1, trL (AL D k) r, 0, kR (x f), kH (x f), kal (x f), klo (x f), kAn (x f))) (P := []) (M2 := nMS S2) (sk2 := Zl S2 72) (tk2 := Zr S2 67) (A := A) (lv := lv) (hv := hv) (fl2 := fl2) (t2 := t2) (rt2 := rt) (V2 := kCl V f (wl (trL (AL D k) r))) hy hJ hC h1.2.2.2.2.1 h1.2.2.2.2.2.2.2.1 eS hEn (fun e he => by cases he) rfl rfl (fun u q => q) (fun u a q => ⟨q, fun w => absurd rfl w⟩) k1 (Or.inl ⟨rfl, z2, z3⟩) (fun a z => e.2.2.2.1 a z) (by rw [eW]; exact hA) (by rw [eW]; exact hfl2) (by rw [eW]; exact hhv) (by rw [eW]; exact hsk)
      exact ⟨_, ⟨_, _, _, _, _, fl2, t2, j1, by rw [h74]; exact n1, n2, hF⟩, rfl, by rw [z1]; rfl, rfl, rfl, rfl, rfl, rfl⟩
    · have j1 := kJ_pp (T := T) (W := W) hJ eS hEn a3 (by rw [eW]; omega) z2 z3 z4 z5
      have n1m : kNm (0, T, 0) := nm_0 rfl
      have k1 : ∀ q : Nat × Nat, ¬ (q.1 = f ∧ 40 + wl (trL (AL D k) r) ≤ q.2) → qRt rt (f, 40 + wl (trL (AL D k) r)) T q = rt q ∧ qUp (kCl V f (wl (trL (AL D k) r))) (f, 40 + wl (trL (AL D k) r)) W q = V q := fun q hq => by
        have nq : q ≠ (f, 40 + wl (trL (AL D k) r)) := fun w => hq (by rw [w]; exact ⟨rfl, Nat.le_refl _⟩)
        exact ⟨qRt_ne nq, (qUp_ne nq).trans (kCl_ge (fun w => hq ⟨w.1, w.2.1⟩))⟩
      have k2 : ∀ (u : Nat) (a : lLc), lUp (kR (x f)) (40 + wl (trL (AL D k) r)) none u = some a → kR (x f) u = some a ∧ ([((0, T, 0) : tE)] ≠ [] → u ≠ 40 + wl (trL (AL D k) r)) := fun u a q => by
        by_cases c : u = 40 + wl (trL (AL D k) r)
        · rw [c, lUp_eq] at q; cases q
        · rw [lUp_ne c] at q; exact ⟨q, fun _ => c⟩
      obtain ⟨n1, n2⟩ := hN.vs (X := ((x f).1, (0, T, 0) :: trL (AL D k) r, 0, lUp (kR (x f)) (40 + wl (trL (AL D k) r)) none, kH (x f), kal (x f), klo (x f), kAn (x f))) (P := [(0, T, 0)]) (M2 := nMS S2) (sk2 := Zl S2 72) (tk2 := Zr S2 67) (A := A) (lv := lv) (hv := hv) (fl2 := fl2) (t2 := t2) (rt2 := qRt rt (f, 40 + wl (trL (AL D k) r)) T) (V2 := qUp (kCl V f (wl (trL (AL D k) r))) (f, 40 + wl (trL (AL D k) r)) W) hy hJ hC h1.2.2.2.2.1 h1.2.2.2.2.2.2.2.1 eS hEn (fun e he => by rw [List.mem_singleton.mp he]; exact n1m) rfl rfl (fun u q => q) k2 k1 (Or.inr ⟨wl_n n1m, by rw [qRt_eq, qUp_eq, eW]; exact z6⟩) (fun a z => e.2.2.2.1 a z) (by rw [eW]; exact hA) (by rw [eW]; exact hfl2) (by rw [eW]; exact hhv) (by rw [eW]; exact hsk)
      exact ⟨_, ⟨_, _, _, _, _, fl2, t2, j1, by rw [h74]; exact n1, n2, hF⟩, rfl, by rw [z1]; rfl, rfl, rfl, rfl, rfl, rfl⟩
  obtain ⟨X, y0, y1, y2, y3, y4, y5, y6, y7⟩ := key
  have hPn : ∀ a ∈ P ++ r, pnE a := fun a ha => by
    rcases List.mem_append.mp ha with w | w
    · rcases hP with ⟨z, _⟩ | ⟨T, W, z, _⟩
      · rw [z] at w; cases w
      · rw [z] at w; rw [List.mem_singleton.mp w]; exact pnE_k (Or.inl rfl)
    · exact hrn a w
  refine (fin0 (s := P ++ r) (S := S1) hL h1.1 hed hw hPn hm ho ?_ ?_ ?_ ?_ ?_ ?_ y0 ((e.2.1 77 (by decide)).trans h77) ?_ e.2.2.1 (e.2.1 76 (by decide))).ux y7
  · rw [kUx_top]; exact y3
  · rw [kUx_top, y1]; exact a1
  · rw [kUx_top, y2]
    rcases hP with ⟨z, _⟩ | ⟨T, W, z, _⟩
    · rw [z] at hw ⊢
      exact trL_t hw (hFn.dn hed ho (show wl ([] ++ r) ≤ 177 from hwr))
    · rw [z] at hw ⊢
      exact trL_c hw (show (0 : Nat) ≠ 3 by decide) (show (0 : Nat) ≠ 5 by decide) (show (0 : Nat) ≠ 6 by decide) (hFn.dn hed ho hwr)
  · rw [kUx_top, y4]; exact a4
  · rw [kUx_top, y5]; exact a5
  · rw [kUx_top, y6]; exact a6
  · rw [h73, wkS_wl hw]
end PS78
