-- m4.w.lean.txt
section
/-- while one instruction runs: nodes of A, cells of B, variables' places of P, the stack -/
def GO (A B P : Nat → Prop) (S S2 : Sg) : Prop := RNx S S2 ∧ (∀ j : Nat, j = 3 ∨ j = 66 ∨ j = 70 ∨ j = 76 ∨ j = 77 ∨ j = 86 → Zi S2 j = Zi S j) ∧ Zr S2 75 = Zr S 75 ∧ (∀ n : Nat, ¬ A n → Zl S2 61 n = Zl S 61 n ∧ Zr S2 62 n = Zr S 62 n ∧ Zr S2 63 n = Zr S 63 n) ∧ (∀ q : Nat, ¬ B q → Zr S2 67 q = Zr S 67 q) ∧ ∀ q : Nat, ¬ P q → Zr S2 74 q = Zr S 74 q
section PS74
variable {K : Ky} {Sl S S1 S2 : Sg} {A B P A2 B2 P2 : Nat → Prop} {d m f s : Nat}
theorem GO.rf : GO A B P S S := ⟨RNx.rf, fun _ _ => rfl, rfl, fun _ _ => ⟨rfl, rfl, rfl⟩, fun _ _ => rfl, fun _ _ => rfl⟩
theorem GO.tr (a : GO A B P S S1) (b : GO A B P S1 S2) : GO A B P S S2 := ⟨a.1.tr b.1, fun j h => (b.2.1 j h).trans (a.2.1 j h), b.2.2.1.trans a.2.2.1, fun n h => by
    obtain ⟨x1, x2, x3⟩ := a.2.2.2.1 n h
    obtain ⟨y1, y2, y3⟩ := b.2.2.2.1 n h
    exact ⟨y1.trans x1, y2.trans x2, y3.trans x3⟩, fun q h => (b.2.2.2.2.1 q h).trans (a.2.2.2.2.1 q h), fun q h => (b.2.2.2.2.2 q h).trans (a.2.2.2.2.2 q h)⟩
theorem GO.mo (a : GO A B P S S2) (h1 : ∀ n : Nat, A n → A2 n) (h2 : ∀ n : Nat, B n → B2 n) (h3 : ∀ n : Nat, P n → P2 n) : GO A2 B2 P2 S S2 := ⟨a.1, a.2.1, a.2.2.1, fun n h => a.2.2.2.1 n (fun w => h (h1 n w)), fun n h => a.2.2.2.2.1 n (fun w => h (h2 n w)), fun n h => a.2.2.2.2.2 n (fun w => h (h3 n w))⟩
theorem NO.go (e : NO A S S2) : GO A B P S S2 := ⟨e.rn, fun j h => e.2.2.2.2.2.2.2.1 j (by omega) (by omega), by rw [e.2.2.2.2.2.2.1 75 (by decide) (by decide)], e.2.2.2.2.2.2.2.2, fun _ _ => by rw [e.2.2.2.2.2.2.1 67 (by decide) (by decide)], fun _ _ => by rw [e.2.2.2.2.2.2.1 74 (by decide) (by decide)]⟩
theorem HO.go (e : HO B S S2) : GO A B P S S2 := ⟨(HO.do (A := A) (d := 0) e).rn, fun j h => e.2.2.2.2.2.2.2.1 j (by omega) (by omega), by rw [e.2.2.2.2.2.2.1 75 (by decide)], fun n _ => by rw [e.2.2.2.2.2.1, e.2.2.2.2.2.2.1 62 (by decide), e.2.2.2.2.2.2.1 63 (by decide)]; exact ⟨rfl, rfl, rfl⟩, e.2.2.2.2.2.2.2.2, fun _ _ => by rw [e.2.2.2.2.2.2.1 74 (by decide)]⟩
theorem SO.go (e : SO S S2) : GO A B P S S2 := ⟨e.rn, fun j h => e.2.2.2.2.2.2.2 j (by omega), by rw [e.2.2.2.2.2.2.1], fun n _ => by rw [e.2.2.2.2.2.1 61 (by decide), e.2.2.2.2.2.2.1]; exact ⟨rfl, rfl, rfl⟩, fun _ _ => by rw [e.2.2.2.2.2.2.1], fun _ _ => by rw [e.2.2.2.2.2.2.1]⟩
theorem DO.go (e : DO A B d S S2) : GO A B P S S2 := ⟨e.rn, fun j h => e.2.2.2.2.2.2.2.1 j (by omega) (by omega) (by omega) (by omega), by rw [e.2.2.2.2.2.2.1 75 (by decide) (by decide) (by decide) (by decide)], e.2.2.2.2.2.2.2.2.1, e.2.2.2.2.2.2.2.2.2.1, fun _ _ => by rw [e.2.2.2.2.2.2.1 74 (by decide) (by decide) (by decide) (by decide)]⟩
theorem Ur.go {p : Nat} {v : Int32} (h : P p) : GO A B P S (Ur S 74 (upd (Zr S 74) p v)) := ⟨⟨rfl, rfl, ⟨rfl, rfl⟩, rfl, rfl, fun r hr => Zr_u9 (by omega), fun _ _ => rfl, fun _ _ _ => rfl⟩, fun _ _ => rfl, Zr_u9 (by decide), fun _ _ => ⟨rfl, by rw [Zr_u9 (by decide)], by rw [Zr_u9 (by decide)]⟩, fun _ _ => by rw [Zr_u9 (by decide)], fun q hq => by
    rw [Zr_us]; exact upd_n (fun w => hq (by rw [w]; exact h))⟩
theorem RX.go (h : RX Sl S) (e : GO A B P S S2) (hw : wq S2) (h81 : Zi S2 81 = nI 0) : RX Sl S2 := h.mk e.1 hw (e.2.1 86 (by decide)) (e.2.1 66 (by decide)) h81
theorem GO.ag {l : List Nat} (e : GO A B P S S2) (h : ∀ a ∈ l, ¬ A a) : agN (nMS S) (nMS S2) l := fun a ha => e.2.2.2.1 a (h a ha)
theorem SO.wq (e : SO S S2) (h : wq S) : wq S2 := h.eq (e.2.2.2.2.2.2.2 83 (by decide)) (e.2.2.2.2.2.2.2 84 (by decide))
/-- freeBlock -/
theorem fbk_ (hm : m < 430000) (hb : blW (Zl S 61 m) = nI s) (hv : vrW (Zl S 61 m) = nI f) (h4 : f + s ≤ 4000) : Rt (f_freeBlock K S (nI m)) (fun S2 _ => HO (fun q => q ∈ rgN f s) S S2 ∧ ∀ q ∈ rgN f s, Zr S2 67 q = 0) := by
  unfold f_freeBlock
  refine Rt.be (S := S) (r := nI s) (by unfold f_blockLong; rw [rJ_n (show m < rlen 61 from hm) (by decide), ← hb]; rfl) (Rt.be (S := S) (r := nI f) (by unfold f_variantOf_; rw [rJ_n (show m < rlen 61 from hm) (by decide), ← hv]; rfl) ?_)
  refine (fb15 (S := S) h4 bigN 0 S (by unfold bigN; omega) (Nat.zero_le _) HO.rf rfl (fun q a b => by omega)).mo (fun S3 _ ⟨q1, _, _, q4⟩ => ⟨⟨q1.1, q1.2.1, q1.2.2.1, q1.2.2.2.1, q1.2.2.2.2.1, q1.2.2.2.2.2.1, q1.2.2.2.2.2.2.1, q1.2.2.2.2.2.2.2.1, fun q hq => q1.2.2.2.2.2.2.2.2 q (fun w => hq (rgN_mem.mpr w))⟩, fun q hq => q4 q (rgN_mem.mp hq).1 (rgN_mem.mp hq).2⟩)
/-- kidOf -/
theorem kid_ {n : Nat} (hm : m < 430000) (hk : kdW (Zl S 61 m) = nI n) : f_kidOf K S (nI m) = some (S, nI n) := by
  unfold f_kidOf
  rw [rJ_n (show m < rlen 61 from hm) (by decide)]
  show some (S, kdW (Zl S 61 m)) = _
  rw [hk]
end PS74
end
-- m4.x.lean.txt
section
section PS75
variable {y : qY} {vt : Nat → Nat → Nat} {tb : Nat → lTb} {zn sz rk : Nat → Nat} {M M2 : nM} {sk sk2 : Nat → Int64} {pl pl2 : Nat → Int32} {f : Nat} {x x2 : Nat → kFm} {rt rt2 : Nat × Nat → Nat} {V V2 : Nat × Nat → qV} {bs : Nat → Nat} {C L H C2 L2 H2 : Nat × Nat → List Nat} {v T T0 : Nat} {ρ σ : lLc} {fl : List Nat} {t : Nat} {tk tk2 : Nat → Int32} {W : qV} {A : Nat → Prop}
/-- the nodes when a value is moved out of what lies at a place -/
theorem kN.mvb {k0 t2 : Nat} {al2 : Nat → Prop} {lo2 : Nat → lLc → Prop} {c0 l0 g0 rest hr lv hv fl2 : List Nat} {r : Int64} (hy : nYk y zn sz rk) (hJ : kJ y vt tb f x rt V) (hN : kN y zn sz M sk pl f x rt V bs C L H) (hC : kC C L H fl t tk) (hf6 : f < 60) (hw1 : ∀ j : Nat, j ≤ f → wl (x j).2.1 ≤ 177) (hv4 : v < 40) (hvS : (8, v, 0) ∈ (x f).2.1) (hnr : y.1 (rt (f, v)) ≠ 5 ∧ y.1 (rt (f, v)) ≠ 6) (hal : ∀ u : Nat, al2 u → kal (x f) u)
  (hJ2 : kJ y vt tb f (kUx x f ((x f).1, (0, T, 0) :: (x f).2.1, 0, lUp (kR (x f)) (40 + wl (x f).2.1) none, kH (x f), al2, lo2, kAn (x f))) (qRt rt (f, 40 + wl (x f).2.1) T) (qUp (qUp V (f, v) (qC (V (f, v)) σ)) (f, 40 + wl (x f).2.1) W))
  (p0 : pL y sz M k0 T0 (qS (V (f, v)) σ) c0 l0 g0) (pc : ∀ a : Nat, cnN a (C (f, v)) + cnN a (L (f, v)) = cnN a c0 + cnN a l0 + cnN a rest) (ph : ∀ a : Nat, cnN a (H (f, v)) = cnN a g0 + cnN a hr) (pm : ∀ a ∈ C (f, v), a ∈ c0 ∨ a ∈ rest) (pf : foR y zn sz M (rt (f, v)) T0 (V (f, v)) σ (C (f, v)) c0 rest hr)
  (hM : ∀ a : Nat, ¬ A a → M2.w a = M.w a ∧ M2.h a = M.h a ∧ M2.x a = M.x a) (hA : ∀ a : Nat, A a → (a ∈ c0 ∨ a ∈ l0) ∨ a ∈ fl ∨ t < a) (hfl2 : ∀ a : Nat, cnN a lv + cnN a fl2 + ind t a = cnN a l0 + cnN a fl + ind t2 a) (hc0 : ∀ a ∈ c0, M2.h a = 0 ∧ M2.x a = M.x a) (hva : vaR y sz M2 T W r lv hv) (hhv : ∀ q : Nat, cnN q hv ≤ cnN q g0 ∧ (tk2 q = tk q ∨ cnN q hv < cnN q g0))
  (hsk : ∀ q : Nat, q < bs f + wl (x f).2.1 → sk2 q = sk q) (hsk2 : sk2 (bs f + wl (x f).2.1) = r) : ∃ l2 h2 : List Nat, kN y zn sz M2 sk2 pl f (kUx x f ((x f).1, (0, T, 0) :: (x f).2.1, 0, lUp (kR (x f)) (40 + wl (x f).2.1) none, kH (x f), al2, lo2, kAn (x f))) (qRt rt (f, 40 + wl (x f).2.1) T) (qUp (qUp V (f, v) (qC (V (f, v)) σ)) (f, 40 + wl (x f).2.1) W) bs C (u2N L (f, v) (f, 40 + wl (x f).2.1) l2 lv) (u2N H (f, v) (f, 40 + wl (x f).2.1) h2 hv) ∧ kC C (u2N L (f, v) (f, 40 + wl (x f).2.1) l2 lv) (u2N H (f, v) (f, 40 + wl (x f).2.1) h2 hv) fl2 t2 tk2 := by
  have hf := Nat.le_refl f
  have hnm : kNm (0, T, 0) := by show ¬ ((0 : Nat) = 8 ∨ (0 : Nat) = 4 ∨ (0 : Nat) = 5 ∨ (0 : Nat) = 6); decide
  have h177 := hw1 f hf
  have e1 : ((f, 40 + wl (x f).2.1) : Nat × Nat) ≠ (f, v) := fun w => by have := (Prod.mk.inj w).2; omega
  obtain ⟨ct, lt, ht⟩ := (hN.1 f (40 + wl (x f).2.1) hf).2.2 (fun w => by rcases w with w | w <;> omega)
  have inV : ∀ a : Nat, 1 ≤ cnN a c0 + cnN a l0 + cnN a rest → (a ∉ fl ∧ a ≤ t) ∧ cnN a c0 + cnN a l0 + cnN a rest = 1 ∧ ∀ q : Nat × Nat, q.1 < 60 → q.2 < 300 → (a ∈ C q ∨ a ∈ L q) → q = (f, v) := fun a ha => by
    have hm : a ∈ C (f, v) ∨ a ∈ L (f, v) := by
      have := pc a
      by_cases w : a ∈ C (f, v)
      · exact Or.inl w
      · have := cnN_z w
        exact Or.inr (cnN_mem.mpr (by omega))
    obtain ⟨q1, q2, q3, q4, q5⟩ := hC.one (r := (f, v)) hf6 (show v < 300 by omega) hm
    exact ⟨⟨q1, q3⟩, by rw [← pc a]; exact q4, q5⟩
  have one : ∀ a : Nat, (a ∈ c0 ∨ a ∈ l0) → 1 ≤ cnN a c0 + cnN a l0 := fun a w => by
    rcases w with w | w
    · have := cnN_mem.mp w; omega
    · have := cnN_mem.mp w; omega
  have dj : ∀ (q : Nat × Nat) (a : Nat), q ≠ (f, v) → q.1 ≤ f → kSc (x q.1).2.1 q.2 → (a ∈ C q ∨ a ∈ L q) → ¬ A a := fun q a h1 h2 h3 h4 w => by
    have hq := hw1 q.1 h2
    have q300 : q.2 < 300 := by rcases h3 with z | z <;> omega
    obtain ⟨q1, q2, q3, q4, q5⟩ := hC.one (r := q) (by omega) q300 h4
    rcases hA a w with z | z | z
    · have := one a z
      exact h1 ((inV a (by omega)).2.2 q (by omega) q300 h4)
    · exact q1 z
    · omega
  have dr : ∀ a ∈ rest, ¬ A a := fun a ha w => by
    have m1 := cnN_mem.mp ha
    obtain ⟨⟨z1, z2⟩, z3, _⟩ := inV a (by omega)
    rcases hA a w with z | z | z
    · have := one a z; omega
    · exact z1 z
    · omega
  obtain ⟨f1, f2⟩ := pf M2 (fun a ha => hM a (dr a ha)) (fun a ha => (hc0 a ha).2)
  obtain ⟨k2, l2, h2, g1, g2, g3⟩ := f1 (fun _ => none) k0 [] [] (p0.none hy (fun a ha => (hc0 a ha).1))
  rw [qG_C] at g1
  obtain ⟨_, hlk, hpl⟩ := (hN.1 f v hf).1 hv4 hvS
  have hlk2 : lkN M2.x (C (f, v)) := hlk.cg (fun a ha => by
    rcases pm a ha with w | w
    · exact (hc0 a w).2
    · exact (hM a (dr a w)).2.2)
  have nQ : ∀ q : Nat × Nat, ¬ (q.1 = f ∧ (q.2 = v ∨ q.2 = 40 + wl (x f).2.1)) → q ≠ (f, v) ∧ q ≠ (f, 40 + wl (x f).2.1) := fun q hq => ⟨fun w => hq (by rw [w]; exact ⟨rfl, Or.inl rfl⟩), fun w => hq (by rw [w]; exact ⟨rfl, Or.inr rfl⟩)⟩
  refine ⟨l2, h2, kN.rq (Q := fun u => u = v ∨ u = 40 + wl (x f).2.1) hy hJ hN (fun j hj => kUx_lo hj) (fun u _ => by rw [kUx_top]; exact nm_8 hnm) (fun u hu h4 => by rw [kUx_top]; exact wl_u hnm (fun w => hu (Or.inr w)) h4) (fun q hq => ?_) (fun q hq h1 h3 => ?_) (fun _ _ _ _ _ => rfl) (fun q hq h1 h4 h5 => hsk _ (hN.ix h1 h4 h5)) (fun u hu => ?_) (fun j u d π hj ha hc hrr => ?_), ?_⟩
  · obtain ⟨n1, n2⟩ := nQ q hq
    exact ⟨qRt_ne n2, (qUp_ne n2).trans (qUp_ne n1), rfl, u2N_o n1 n2, u2N_o n1 n2⟩
  · obtain ⟨n1, n2⟩ := nQ q hq
    exact ⟨fun a w => hM a (dj q a n1 h1 h3 (Or.inl w)), fun a w => hM a (dj q a n1 h1 h3 (Or.inr w))⟩
  · rcases hu with rfl | rfl
    · rw [qRt_ne e1.symm, qUp_ne e1.symm, qUp_eq, u2N_1, u2N_1, kUx_top]
      exact ⟨fun _ _ => ⟨⟨k2, g1⟩, hlk2, hpl⟩, fun w => by omega, fun w => absurd (Or.inl ⟨hv4, (nm_8 hnm).mpr hvS⟩) w⟩
    · rw [qRt_eq, qUp_eq, u2N_2 e1, u2N_2 e1, kUx_top, ct]
      refine ⟨fun w => by omega, fun _ _ => ⟨rfl, ?_⟩, fun w => absurd (Or.inr ⟨by omega, ?_⟩) w⟩
      · rw [show 40 + wl (x f).2.1 - 40 = wl (x f).2.1 by omega, hsk2]; exact hva
      · show 40 + wl (x f).2.1 < 40 + wl ((0, T, 0) :: (x f).2.1)
        rw [wl_n hnm]; omega
  · have ld2 := hJ2.ld hj ha hrr
    have old : kA (x j) u ∧ kR (x j) u = some (d :: π) ∧ (j, u) ≠ (f, 40 + wl (x f).2.1) ∧ kSc (x j).2.1 u := by
      by_cases e : j = f
      · subst e
        rw [kUx_top] at ha hrr hc
        have hrr : lUp (kR (x j)) (40 + wl (x j).2.1) none u = some (d :: π) := hrr
        have hu : u ≠ 40 + wl (x j).2.1 := fun w => by rw [w, lUp_eq] at hrr; cases hrr
        rw [lUp_ne hu] at hrr
        refine ⟨?_, hrr, fun w => hu (Prod.mk.inj w).2, ?_⟩
        · rcases ha with ⟨z1, z2⟩ | ⟨z1, z2⟩
          · exact Or.inl ⟨z1, hal u z2⟩
          · have z2 : u < 40 + wl ((0, T, 0) :: (x j).2.1) + 0 := z2
            rw [wl_n hnm] at z2; exact Or.inr ⟨z1, by omega⟩
        · rcases hc with ⟨z1, z2⟩ | ⟨z1, z2⟩
          · exact Or.inl ⟨z1, (nm_8 hnm).mp z2⟩
          · have z2 : u < 40 + wl ((0, T, 0) :: (x j).2.1) := z2
            rw [wl_n hnm] at z2; exact Or.inr ⟨z1, by omega⟩
      · rw [kUx_lo e] at ha hrr hc
        exact ⟨ha, hrr, fun w => e (Prod.mk.inj w).1, hc⟩
    obtain ⟨oa, or, ot, oc⟩ := old
    have onv : (j, u) ≠ (f, v) := fun w => by
      obtain ⟨w1, w2⟩ := Prod.mk.inj w
      subst w1; subst w2
      rcases (hJ.2.2.1 j hj u _ oa or).1 with z | z
      · exact hnr.1 z
      · exact hnr.2 z
    obtain ⟨l1, l2', l3, T9, l4, l5, l6⟩ := hJ.ld hj oa or
    by_cases ed : d = (f, v)
    · refine Or.inr ?_
      subst ed
      obtain ⟨_, _, _, T8, m4, m5, _⟩ := ld2
      obtain ⟨n, n1, n2, n3, n4⟩ := hN.2.2.2 j u (f, v) π hj oa oc or
      have hnp : lP σ π → π = σ := fun w => by
        exfalso
        obtain ⟨s, rfl⟩ := w
        rw [qUp_ne e1.symm, qUp_eq] at m5
        obtain ⟨τ, z, hz⟩ := qF_pl m5
        rw [List.append_assoc, qC_in] at hz
        cases hz
      refine ⟨n, n1, ?_, fun a => ?_, fun a => ?_⟩
      · rw [qRt_ne e1.symm]
        exact f2 π T9 n l4 l6 hnp n2
      · obtain ⟨m, i1, i2⟩ := n3 a
        have hm : m ∈ C (j, u) := by rw [i1]; exact List.mem_singleton_self m
        exact ⟨m, i1, (hM m (dj (j, u) m onv hj oc (Or.inl hm))).1.trans i2⟩
      · have hlt : u < 40 + wl (x j).2.1 := by
          rcases oc with z | z <;> omega
        rw [hsk _ (hN.ix hj a hlt)]; exact n4 a
    · refine Or.inl ⟨fun w => ?_, fun w => ?_, oa, or⟩
      · rcases w with ⟨w1, w2 | w2⟩
        · exact onv (by rw [w1, w2])
        · exact ot (by rw [w1, w2])
      · rcases w with ⟨w1, w2 | w2⟩
        · exact ed (Prod.ext w1 w2)
        · omega
  · have r0 : ∀ i : Nat, i < 2 → i = 0 ∨ i = 1 := fun i hi => by omega
    have pn : ∀ q : Nat, psN (fun i => cnN q (u2N H (f, v) (f, 40 + wl (x f).2.1) h2 hv (if i = 0 then (f, v) else (f, 40 + wl (x f).2.1)))) 2 = cnN q hr + cnN q hv ∧ psN (fun i => cnN q (H (if i = 0 then (f, v) else (f, 40 + wl (x f).2.1)))) 2 = cnN q g0 + cnN q hr ∧ cnN q g0 + cnN q hr ≤ 1 := fun q => by
      rw [psN_two, psN_two]
      have w1 := g3 q
      have w2 := ph q
      have w4 : cnN q ([] : List Nat) = 0 := rfl
      have w5 : cnN q (H (f, v)) ≤ sm2 (fun r => cnN q (H r)) := sm2_i1 (G := fun r => cnN q (H r)) hf6 (show v < 300 by omega)
      have w6 := (hC.2 q).1
      rw [w4] at w1
      refine ⟨?_, ?_, by omega⟩
      · show cnN q (u2N H (f, v) (f, 40 + wl (x f).2.1) h2 hv (f, v)) + cnN q (u2N H (f, v) (f, 40 + wl (x f).2.1) h2 hv (f, 40 + wl (x f).2.1)) = _
        rw [u2N_1, u2N_2 e1]; omega
      · show cnN q (H (f, v)) + cnN q (H (f, 40 + wl (x f).2.1)) = _
        rw [ht, w4]; omega
    refine hC.fam (r := fun i => if i = 0 then (f, v) else (f, 40 + wl (x f).2.1)) (n := 2) (fun i hi => ?_) (fun i j hi hj he => ?_) (fun q hq => ?_) (fun a => ?_) (fun q => Or.inl ?_)
    · rcases r0 i hi with e | e <;> subst e
      · exact ⟨hf6, show v < 300 by omega⟩
      · exact ⟨hf6, show 40 + wl (x f).2.1 < 300 by omega⟩
    · rcases r0 i hi with e | e <;> rcases r0 j hj with e2 | e2 <;> subst e <;> subst e2
      · rfl
      · exact absurd he.symm e1
      · exact absurd he e1
      · rfl
    · have n1 := hq 0 (by omega)
      have n2 := hq 1 (by omega)
      exact ⟨rfl, u2N_o n1 n2, u2N_o n1 n2⟩
    · rw [psN_two, psN_two]
      show (cnN a (C (f, v)) + cnN a (u2N L (f, v) (f, 40 + wl (x f).2.1) l2 lv (f, v))) + (cnN a (C (f, 40 + wl (x f).2.1)) + cnN a (u2N L (f, v) (f, 40 + wl (x f).2.1) l2 lv (f, 40 + wl (x f).2.1))) + cnN a fl2 + ind t a = (cnN a (C (f, v)) + cnN a (L (f, v))) + (cnN a (C (f, 40 + wl (x f).2.1)) + cnN a (L (f, 40 + wl (x f).2.1))) + cnN a fl + ind t2 a
      rw [u2N_1, u2N_2 e1, ct, lt]
      have w1 := g2 a
      have w2 := pc a
      have w3 := hfl2 a
      have w4 : cnN a ([] : List Nat) = 0 := rfl
      rw [w4] at w1 ⊢
      omega
    · obtain ⟨w1, w2, w3⟩ := pn q
      obtain ⟨z1, z2⟩ := hhv q
      rw [w1, w2]
      exact ⟨by omega, z2.imp id (fun z => ⟨by omega, by omega⟩)⟩
end PS75
end
-- m4.y.lean.txt
section
section PS76
variable {R : yR} {S0 Sl S S1 S2 S3 : Sg} {D : fD} {i k j f nw : Nat} {vt : Nat → Nat → Nat} {tb : Nat → lTb} {x : Nat → kFm} {bs : Nat → Nat} {g : Nat → Int32} {v T : Nat} {ρ σ : lLc}
/-- is it a struct's type? -/
theorem kd3_ {z : Nat} (hL : LFS R S0 g) (hx : LX S0 Sl) (hr : rTy S0 z) : ∃ kd : Int32, (∀ S : Sg, RNx Sl S → oI S 20 (some z) 0 = some kd) ∧ (kd = 3 ↔ yK R S0 (abT S0 z) = 2) := by
  obtain ⟨kd, ix, o, q, _⟩ := hr.ty
  refine ⟨kd, fun S e => ?_, ?_⟩
  · obtain ⟨tn, _, _, z3, z4⟩ := e.ty (hx.ty q)
    exact oI_mk z3 z4 rfl
  · rcases yK_k hL hr q with ⟨h, h2⟩ | ⟨h, _, _, _, _, _, _, h2⟩ | ⟨h, _, _, _, _, _, _, h2⟩ | ⟨h, _, _, h2, _⟩ | ⟨h, h2⟩
    · rw [h2]
      exact ⟨fun w => by rw [w] at h; rcases h with z | z | z | z <;> exact absurd z (by decide), fun w => absurd w (by decide)⟩
    · exact ⟨fun _ => h2, fun _ => h⟩
    · rw [h2, h]; decide
    · rw [h2, h]; decide
    · refine ⟨fun w => ?_, fun w => ?_⟩
      · rw [w] at h; rcases h with z | z <;> exact absurd z (by decide)
      · rcases h2 with z | z <;> rw [z] at w <;> exact absurd w (by decide)
/-- a value that is no reference came on top out of the place σ: a step's end -/
theorem RQ.mvE {A B : Nat → Prop} {T0 k0 tt t2 : Nat} {rt : Nat × Nat → Nat} {V : Nat × Nat → qV} {C L H : Nat × Nat → List Nat} {fl c0 l0 g0 rest hr lv hv fl2 : List Nat} {r : Int64} {W : qV} (hL : LFS R S0 g) (h1 : RQ R S0 vt tb i D k f x bs Sl nw S1) (hed : edg D k j) (hJ : kJ (yT R S0) vt tb f x rt V) (hN : kN (yT R S0) (zN R S0) (szN R S0) (nMS S1) (Zl S1 72) (Zr S1 74) f x rt V bs C L H) (hC : kC C L H fl tt (Zr S1 67)) (hs : ∀ a ∈ D.st k, pnE a) (ho : (D.I k).ho = none) (hv4 : v < 40) (h8 : (8, v, 0) ∈ D.st k) (hnr : (yT R S0).1 (rt (f, v)) ≠ 5 ∧ (yT R S0).1 (rt (f, v)) ≠ 6) (hw : wkS ((0, T, 0) :: D.st k) (D.st j))
  (hJ2 : kJ (yT R S0) vt tb f (kUx x f ((x f).1, (0, T, 0) :: (x f).2.1, 0, lUp (kR (x f)) (40 + wl (x f).2.1) none, kH (x f), kal (x f), (fun w π => LO R S0 D j w π ∨ 40 ≤ w), kAn (x f))) (qRt rt (f, 40 + wl (x f).2.1) T) (qUp (qUp V (f, v) (qC (V (f, v)) σ)) (f, 40 + wl (x f).2.1) W))
  (p0 : pL (yT R S0) (szN R S0) (nMS S1) k0 T0 (qS (V (f, v)) σ) c0 l0 g0) (pc : ∀ a : Nat, cnN a (C (f, v)) + cnN a (L (f, v)) = cnN a c0 + cnN a l0 + cnN a rest) (ph : ∀ a : Nat, cnN a (H (f, v)) = cnN a g0 + cnN a hr) (pm : ∀ a ∈ C (f, v), a ∈ c0 ∨ a ∈ rest) (pf : foR (yT R S0) (zN R S0) (szN R S0) (nMS S1) (rt (f, v)) T0 (V (f, v)) σ (C (f, v)) c0 rest hr)
  (e : GO A B (fun _ => False) S1 S2) (hA : ∀ a : Nat, A a → (a ∈ c0 ∨ a ∈ l0) ∨ a ∈ fl ∨ tt < a) (hfl2 : ∀ a : Nat, cnN a lv + cnN a fl2 + ind tt a = cnN a l0 + cnN a fl + ind t2 a) (hc0 : ∀ a ∈ c0, Zr S2 62 a = 0 ∧ Zr S2 63 a = Zr S1 63 a) (hva : vaR (yT R S0) (szN R S0) (nMS S2) T W r lv hv) (hhv : ∀ q : Nat, cnN q hv ≤ cnN q g0 ∧ (Zr S2 67 q = Zr S1 67 q ∨ cnN q hv < cnN q g0)) (hF : FLs S2 fl2 t2)
  (hsk : ∀ q : Nat, q < bs f + wl (D.st k) → Zl S2 72 q = Zl S1 72 q) (hsk2 : Zl S2 72 (bs f + wl (D.st k)) = r) (h77 : Zi S1 77 = nI j) (h73 : Zi S2 73 = nI (bs f + wl (D.st k) + 1)) : NXt R S0 vt tb i D k f x bs S1 S2 := by
  have hy := nYk_of hL
  obtain ⟨a1, a2, a3, a4, a5, a6⟩ := h1.2.2.2.2.2.1
  have hst := h1.st.2
  have h177 := h1.pt.2
  have hvS : (8, v, 0) ∈ (x f).2.1 := by rw [a2]; exact trL_8.mpr h8
  have hFn := h1.1.1
  obtain ⟨l2, h2, n1, n2⟩ := hN.mvb (M2 := nMS S2) (sk2 := Zl S2 72) (r := r) (tk2 := Zr S2 67) (A := A) hy hJ hC h1.2.2.2.2.1 h1.2.2.2.2.2.2.2.1 hv4 hvS hnr (fun u q => q) hJ2 p0 pc ph pm pf (fun a z => e.2.2.2.1 a z) hA hfl2 hc0 hva hhv (fun p hp => hsk p (by rw [hst] at hp; exact hp)) (by rw [hst]; exact hsk2)
  have h74 : Zr S2 74 = Zr S1 74 := funext fun q => e.2.2.2.2.2 q (fun w => w)
  have kt : kT (yT R S0) (zN R S0) (szN R S0) vt tb f (kUx x f ((x f).1, (0, T, 0) :: (x f).2.1, 0, lUp (kR (x f)) (40 + wl (x f).2.1) none, kH (x f), kal (x f), (fun w π => LO R S0 D j w π ∨ 40 ≤ w), kAn (x f))) bs S2 := ⟨_, _, C, _, _, fl2, t2, hJ2, by rw [h74]; exact n1, n2, hF⟩
  refine (finV (s := (0, T, 0) :: D.st k) hL h1.1 hed hw (fun a ha => ?_) ho ?_ ?_ ?_ ?_ ?_ (fun v9 π hv9 q => ?_) kt ((e.2.1 77 (by decide)).trans h77) ?_ e.2.2.1 (e.2.1 76 (by decide))).ux rfl
  · rcases List.mem_cons.mp ha with z | z
    · rw [z]; exact pnE_k (Or.inl rfl)
    · exact hs a z
  · rw [kUx_top]
  · rw [kUx_top]; exact a1
  · rw [kUx_top]
    show wkS ((0, T, 0) :: (x f).2.1) _
    rw [a2]
    exact trL_c hw (show (0 : Nat) ≠ 3 by decide) (show (0 : Nat) ≠ 5 by decide) (show (0 : Nat) ≠ 6 by decide) (hFn.dn hed ho (by omega))
  · rw [kUx_top]; exact a4
  · rw [kUx_top]; exact a5
  · rw [kUx_top] at q
    rcases q with q | q
    · exact q
    · omega
  · rw [h73, wkS_wl hw, wl_n (by show ¬ ((0 : Nat) = 8 ∨ (0 : Nat) = 4 ∨ (0 : Nat) = 5 ∨ (0 : Nat) = 6); decide)]
    congr 1
theorem rgN_nd {f s q : Nat} : cnN q (rgN f s) ≤ 1 := by
  rw [rgN_cn]
  by_cases e : f ≤ q ∧ q < f + s
  · rw [if_pos e]; exact Nat.le_refl _
  · rw [if_neg e]; exact Nat.zero_le _
/-- READ: a value is moved out of its box -/
theorem s_2x (hL : LFS R S0 g) (hx : LX S0 Sl) (hE : hFE R S0 D) (h1 : RQ R S0 vt tb i D k f x bs Sl (k + 1) S1) (hQ : D.Pe < 24000) (hk : (D.I k).kd = 2) (hz : Zi S1 76 = Zi S 76) (e70 : Zi S1 70 = Zi S 70) (e3 : Zi S1 3 = Zi S 3) (er : Zr S1 = Zr S) (hi : iPa D.E (D.I k) (D.st k) v (σ ++ [(1, 0)]) T) (hu : iUv D.E (D.I k) v) (ho : (D.I k).ho = none) (hac : (D.I k).ac = 5) (hm : qM σ) (hnv : ¬ isRf (D.E.vt v)) (hT : ¬ isRf T) (hw : wkS (eT T :: D.st k) (D.st (k + 1))) : Rt (f_runRead R.K S1 (nI k)) (fun S2 _ => RTt R S0 vt tb i D k f x bs Sl S S2) := by
  have k24 : (D.I k).kd ≠ 24 := by rw [hk]; decide
  have hy := nYk_of hL
  have hEy := h1.1.2.2.2.2
  have hv4 := hi.2.1.1
  have hT0 := hi.2.2.2.2.2.1
  have hqw : qW (yT R S0) (D.E.vt v) (σ ++ [(1, 0)]) T := by
    have q := hi.2.2.2.1
    rw [hEy] at q
    rcases q with w2 | ⟨w1, _⟩
    · exact w2.2
    · exact absurd w1 hnv
  obtain ⟨B, hqB, hqT⟩ := qW_cut hqw
  obtain ⟨_, hB4, hBT⟩ := hqT
  have hBT : T = (yT R S0).2.1 B := hBT
  obtain ⟨rt, V, C, L, H, fl, t9, ⟨hJ, hN, hC, hF⟩, _⟩ := h1.2.2.2.2.2.2.1
  obtain ⟨a1, a2, a3, a4, a5, a6⟩ := h1.2.2.2.2.2.1
  have hvt : vt (x f).1 = D.E.vt := by rw [a1]; exact h1.2.2.2.2.2.2.2.2.1
  have hFn := h1.1.1
  have hf6 := h1.2.2.2.2.1
  have hws := h1.2.2.2.2.2.2.2.1
  have hs := h1.1.2.2.2.1.all hi.2.2.2.2.2.2.2
  have hst := h1.st.2
  have h177 := h1.pt.2
  have hb := h1.sb
  have hed : edg D k (k + 1) := h1.e1 (kd_s hk (by decide))
  have hvS : (8, v, 0) ∈ (x f).2.1 := by rw [a2]; exact trL_8.mpr hi.2.2.1
  have hno : ∀ r m2 : Nat, (5, r, m2) ∉ (x f).2.1 ∧ (6, r, m2) ∉ (x f).2.1 := fun r m2 => by
    rw [a2]
    exact ⟨fun z => absurd (Or.inr (Or.inl rfl)) (trL_4 (pn_4 hs) _ z), fun z => absurd (Or.inr (Or.inr rfl)) (trL_4 (pn_4 hs) _ z)⟩
  have hfu := hFn.fu hy hEy h1.1.2.1.1 h1.1.2.1.2.1 h1.1.2.1.2.2 hi.1 k24 (by rw [hac]; decide) (by rw [hac]; decide) (Or.inl (by rw [hac]; decide)) (pTy_fu hi.2.2.2.1).1 (pTy_fu hi.2.2.2.1).2
  rw [hEy, ← a6] at hfu
  have t56 : (yT R S0).1 T ≠ 5 ∧ (yT R S0).1 T ≠ 6 := ⟨fun z => hT (yRf.mp (Or.inl z)), fun z => hT (yRf.mp (Or.inr z))⟩
  obtain ⟨⟨F1, F2⟩, hJ2⟩ := kJ_mv (T := T) (B := B) (σ := σ) (ρ := σ ++ [(1, 0)]) (al2 := kal (x f)) (lo2 := fun w π => LO R S0 D (k + 1) w π ∨ 40 ≤ w) hJ a3 (by omega) hno hT0 t56.1 t56.2 hv4 hvS (by rw [hvt]; exact hqw) hm (by rw [hvt]; exact hqB) (Or.inr rfl) hfu (fun u q => q) (h1.lom hL hed hk (Or.inr hac) hi.1 hv4 hm (Or.inr rfl) hqB) (h1.ckm hi hu ho (Or.inr hac) hnv)
  have hnr : (yT R S0).1 (rt (f, v)) ≠ 5 ∧ (yT R S0).1 (rt (f, v)) ≠ 6 := by
    rw [F2, hvt]
    exact ⟨fun z => hnv (yRf.mp (Or.inl z)), fun z => hnv (yRf.mp (Or.inr z))⟩
  obtain ⟨⟨⟨k9, pl9⟩, plk, _⟩, p2, p3⟩ := hN.hd hy (d := (f, v)) (Nat.le_refl f) hv4 hvS
  have hqB2 : qW (yT R S0) (rt (f, v)) σ B := by rw [F2, hvt]; exact hqB
  obtain ⟨k0, c0, l0, g0, rest, hr, b1, b2, b3, b4, b5, b6, b7⟩ := pl9.fo hy plk hqB2 (prS.of (hJ.1 (f, v)) (qPl_up (qF_pl F1)))
  -- the box
  obtain ⟨τ9, z9, hz9⟩ := qF_pl F1
  obtain ⟨z8, hz8⟩ := (hJ.1 (f, v)).2.1 σ τ9 0 z9 (by rw [List.append_assoc] at hz9; exact hz9)
  have hS0 : qS (V (f, v)) σ [] = some z8 := by
    show V (f, v) (σ ++ []) = _
    rw [List.append_nil]; exact hz8
  cases k0 with
  | zero => exact b1.elim
  | succ k0 =>
  have b1' := b1
  rcases b1 with ⟨z, _⟩ | ⟨_, n0, en, ⟨z, _⟩ | ⟨hh, hvl⟩⟩
  · rw [hB4] at z; cases z
  · rw [hS0] at z; cases z
  obtain ⟨_, m, f9, c, L9, H9, _, v2, v3, v4, v5, v6, v7, v8, v9, v10, v11⟩ := (Or.resolve_left hvl (fun z => absurd (hB4.symm.trans z.1) (by decide))).resolve_right (fun z => z.2.1 hB4)
  subst en
  subst v9
  subst v10
  rw [← hBT] at v6 v7 v11 b5 b1'
  have eS : qS (qS (V (f, v)) σ) [(1, 0)] = qS (V (f, v)) (σ ++ [(1, 0)]) := funext fun π => by
    show V (f, v) (σ ++ ([(1, 0)] ++ π)) = V (f, v) (σ ++ [(1, 0)] ++ π)
    rw [List.append_assoc]
  rw [eS] at v11
  have hcv : cvN [n0] (m :: (c ++ L9)) fl t9 := hC.cv (r := (f, v)) hf6 (show v < 300 by omega) hF.2.2.2.1 (fun a => by have := b4 a; omega)
  have hcn : ∀ a : Nat, cnN a [n0] = (if n0 = a then 1 else 0) ∧ cnN a (m :: (c ++ L9)) = (if m = a then 1 else 0) + (cnN a c + cnN a L9) := fun a => ⟨rfl, by
    show (if m = a then 1 else 0) + cnN a (c ++ L9) = _
    rw [cnN_app]⟩
  have hm1 : m ≠ n0 ∧ m ∉ fl ∧ m ≤ t9 ∧ m ∉ c ∧ m ∉ L9 := by
    have q := hcv m
    rw [(hcn m).1, (hcn m).2, if_pos rfl] at q
    refine ⟨fun w => ?_, fun w => ?_, (q.2 (by omega)).2, fun w => ?_, fun w => ?_⟩
    · rw [if_pos w.symm] at q; omega
    · have := cnN_mem.mp w; omega
    · have := cnN_mem.mp w; omega
    · have := cnN_mem.mp w; omega
  have hn0 : n0 ∉ fl ∧ n0 ∉ c ∧ n0 ∉ L9 := by
    have q := hcv n0
    rw [(hcn n0).1, (hcn n0).2, if_pos rfl] at q
    exact ⟨fun w => by have := cnN_mem.mp w; omega, fun w => by have := cnN_mem.mp w; omega, fun w => by have := cnN_mem.mp w; omega⟩
  have hcl : ∀ a : Nat, a ∈ c → a ∉ fl ∧ a ≤ t9 ∧ a ∉ L9 := fun a ha => by
    have q := hcv a
    rw [(hcn a).1, (hcn a).2] at q
    have := cnN_mem.mp ha
    exact ⟨fun w => by have := cnN_mem.mp w; omega, (q.2 (by omega)).2, fun w => by have := cnN_mem.mp w; omega⟩
  have hclen : c.length = zN R S0 T := v11.len hy
  have hz1 := hy.1 T
  have hc1 : 1 ≤ c.length := by omega
  have hhd := hdN_i hc1
  have hn430 : n0 < 430000 := (b2.1 n0 (List.mem_singleton_self n0)).2
  have hd430 := (v8.1 _ hhd).2
  obtain ⟨w, r1, r2, r3⟩ := h1.fd (n := hdN (C (f, v))) (m := σ.length) (n2 := n0) hL hx hE hQ hN hi.1 hv4 hi.2.2.1 k24 rfl (by rw [List.length_append]; omega) (Or.inr (by
    rw [List.take_left]
    refine Or.inl ⟨hnv, ?_⟩
    rw [F2, hvt] at b3; exact b3))
  obtain ⟨w', xt, r4, r5, r6, r7⟩ := h1.ft hL hx hE hQ hi.1 hT0 k24
  obtain rfl : w = w' := by rw [r1] at r4; exact Option.some.inj (Option.some.inj r4)
  have eTT : eT T = (0, T, 0) := by
    unfold eT
    rw [if_neg (fun z => by
      rcases r6.nm hL.1 with ⟨z1, _, _, _⟩ | ⟨kd, u, _, _, z2, _⟩
      · have := z1.nm hL.1; omega
      · rw [r7] at z2; exact hT z2)]
  rw [eTT] at hw
  obtain ⟨kd, o1, o2⟩ := kd3_ (z := xt) hL hx r6
  rw [r7] at o2
  have hX1 := h1.2.2.1
  have h73 : Zi S1 73 = nI (bs f + wl (D.st k)) := h1.2.2.2.1.2.1
  unfold f_runRead
  refine Rt.bd r1 (Rt.bd (h1.rac hQ) (Rt.iq (by rw [hac]; decide) (Rt.bd (h1.rac hQ) (Rt.iq (by rw [hac]; decide) (Rt.bd r2 ?_)))))
  have e9 : ∀ q : Nat, q = σ.length + 1 → nI q - 1 = nI σ.length := fun q hq => by rw [hq]; exact nI_pred _
  rw [e9 _ (by rw [List.length_append]; rfl)]
  refine Rt.be r3 (Rt.bd (rJ_n (show n0 < rlen 61 from hn430) (by decide)) (Rt.bd (wZ_n (show n0 < rlen 62 from hn430) (by decide) (Or.inl rfl)) ?_))
  have e2 : NO (fun a => a = n0) S1 (Ur S1 62 (upd (Zr S1 62) n0 0)) := NO.w2 rfl
  have z2 : Zl (Ur S1 62 (upd (Zr S1 62) n0 0)) = Zl S1 := rfl
  have u2 : Zr (Ur S1 62 (upd (Zr S1 62) n0 0)) 62 n0 = 0 := by rw [Zr_us, upd_s]
  have w2 : Zr (Ur S1 62 (upd (Zr S1 62) n0 0)) 63 = Zr S1 63 := Zr_u9 (by decide)
  have f2 : FLs (Ur S1 62 (upd (Zr S1 62) n0 0)) fl t9 := hF.no e2 (fun a ha q => hn0.1 (by rw [← q]; exact ha)) rfl rfl
  have i2 : Zi (Ur S1 62 (upd (Zr S1 62) n0 0)) = Zi S1 := rfl
  generalize Ur S1 62 (upd (Zr S1 62) n0 0) = S4 at e2 z2 u2 w2 f2 i2
  have v2' : Zl S1 61 n0 = nL m := v2
  rw [v2', nL_t]
  have R4 : RNx Sl S4 := hX1.1.tr e2.rn
  refine Rt.be (kid_ (n := hdN c) v3.2 (by rw [z2]; exact v4)) (Rt.bd (r5 S4 R4).1 (Rt.be (r5 S4 R4).2 (Rt.bd (o1 S4 R4) ?_)))
  have R5 : ∀ S5 : Sg, GO (fun a => a = n0 ∨ a = m ∨ a = hdN c) (fun q => q ∈ rgN f9 (szN R S0 T)) (fun _ => False) S1 S5 → RNx Sl S5 := fun S5 e => hX1.1.tr e.1
  -- the block and its node are given back
  have fin153 : ∀ (S5 : Sg) (fl5 lv : List Nat) (rv : Int64), GO (fun a => a = n0 ∨ a = m ∨ a = hdN c) (fun q => q ∈ rgN f9 (szN R S0 T)) (fun _ => False) S1 S5 → Zl S5 61 m = Zl S1 61 m → wq S5 → Zi S5 81 = nI 0 → FLs S5 fl5 t9 → m ∉ fl5 → (∀ a : Nat, cnN a lv + (if m = a then 1 else 0) + cnN a fl5 = cnN a (m :: (c ++ L9)) + cnN a fl) → Zr S5 62 n0 = 0 → Zr S5 63 n0 = Zr S1 63 n0 → vaR (yT R S0) (szN R S0) (nMS S5) T (qS (V (f, v)) (σ ++ [(1, 0)])) rv lv H9 → m ∉ lv → (∀ q : Nat, q < bs f + wl (D.st k) → Zl S5 72 q = Zl S1 72 q) → Zl S5 72 (bs f + wl (D.st k)) = rv → Zi S5 73 = nI (bs f + wl (D.st k) + 1) → (∀ q : Nat, Zr S5 67 q = Zr S1 67 q) → Rt (f_runRead_153 R.K S5 (nI m)) (fun S2 _ => RTt R S0 vt tb i D k f x bs Sl S S2) := fun S5 fl5 lv rv g1 g2 g3 g4 g5 g6 g7 g8 g9 g10 g11 g12 g13 g14 g15 => by
    unfold f_runRead_153 f_runRead_165
    refine Rt.bn (fbk_ (m := m) (f := f9) (s := szN R S0 T) v3.2 (by rw [g2]; exact v6) (by rw [g2]; exact v5) v7) (fun S6 _ ⟨q1, q2⟩ => Rt.bn (frn_ (q1.fls g5) v3.1 hm1.2.2.1 g6) (fun S7 _ ⟨q3, q4, q5, q6⟩ => ?_))
    have e67 : GO (fun a => a = n0 ∨ a = m ∨ a = hdN c) (fun q => q ∈ rgN f9 (szN R S0 T)) (fun _ => False) S5 S7 := q1.go.tr (q4.go.mo (fun a z => Or.inr (Or.inl z)) (fun _ z => z) (fun _ z => z))
    have e17 := g1.tr e67
    have o72 : Zl S7 72 = Zl S5 72 := by rw [q5, q1.2.2.2.2.2.1]
    have hX7 : RX Sl S7 := hX1.go e17 (q4.wq (q1.wq g3)) ((q4.2.2.2.2.2.2.2.1 81 (by decide) (by decide)).trans ((q1.2.2.2.2.2.2.2.1 81 (by decide) (by decide)).trans g4))
    have n67 : ∀ a : Nat, a ≠ m → Zl S7 61 a = Zl S5 61 a ∧ Zr S7 62 a = Zr S5 62 a ∧ Zr S7 63 a = Zr S5 63 a := fun a ha => by
      obtain ⟨y1, y2, y3⟩ := q4.2.2.2.2.2.2.2.2 a ha
      rw [q1.2.2.2.2.2.1] at y1
      rw [q1.2.2.2.2.2.2.1 62 (by decide)] at y2
      rw [q1.2.2.2.2.2.2.1 63 (by decide)] at y3
      exact ⟨y1, y2, y3⟩
    refine Rt.rt ⟨hX7, Or.inr ⟨(e17.2.1 3 (by decide)).trans e3, (e17.2.1 70 (by decide)).trans e70, NXt.fr ?_ er hz⟩⟩
    refine h1.mvE (A := fun a => a = n0 ∨ a = m ∨ a = hdN c) (B := fun q => q ∈ rgN f9 (szN R S0 T)) (W := qS (V (f, v)) (σ ++ [(1, 0)])) (r := rv) (lv := lv) (hv := H9) (fl2 := m :: fl5) (t2 := t9) hL hed hJ hN hC hs ho hv4 hi.2.2.1 hnr hw hJ2 b1' b4 b5 b6 b7 e17 (fun a z => ?_) (fun a => ?_) (fun a ha => ?_) ?_ (fun q => ?_) q3 (fun q hq => by rw [o72]; exact g12 q hq) (by rw [o72]; exact g13) h1.2.2.2.1.1 ?_
    · rcases z with z | z | z
      · rw [z]; exact Or.inl (Or.inl (List.mem_singleton_self n0))
      · rw [z]; exact Or.inl (Or.inr (List.mem_cons_self ..))
      · rw [z]; exact Or.inl (Or.inr (List.mem_cons_of_mem _ (List.mem_append_left _ hhd)))
    · have := g7 a
      show cnN a lv + ((if m = a then 1 else 0) + cnN a fl5) + ind t9 a = _
      omega
    · rw [List.mem_singleton.mp ha]
      obtain ⟨_, y2, y3⟩ := n67 n0 (fun z => hm1.1 z.symm)
      exact ⟨y2.trans g8, y3.trans g9⟩
    · exact g10.st (fun a ha => n67 a (fun z => g11 (by rw [← z]; exact ha)))
    · by_cases hq : q ∈ rgN f9 (szN R S0 T)
      · have := cnN_mem.mp hq
        rw [cnN_app]
        exact ⟨by omega, Or.inr (by omega)⟩
      · rw [cnN_app, cnN_z hq]
        refine ⟨by omega, Or.inl ?_⟩
        rw [q4.2.2.2.2.2.2.1 67 (by decide) (by decide), q1.2.2.2.2.2.2.2.2 q hq, g15]
    · rw [q4.2.2.2.2.2.2.2.1 73 (by decide) (by decide), q1.2.2.2.2.2.2.2.1 73 (by decide) (by decide)]; exact g14
  have go4 : GO (fun a => a = n0 ∨ a = m ∨ a = hdN c) (fun q => q ∈ rgN f9 (szN R S0 T)) (fun _ => False) S1 S4 := e2.go.mo (fun a z => Or.inl z) (fun _ z => z) (fun _ z => z)
  have p4 : ∀ a : Nat, a ≠ n0 → Zl S4 61 a = Zl S1 61 a ∧ Zr S4 62 a = Zr S1 62 a ∧ Zr S4 63 a = Zr S1 63 a := e2.2.2.2.2.2.2.2.2
  by_cases h2 : yK R S0 T = 2
  · refine Rt.ip (o2.mpr h2) ?_
    unfold f_runRead_133
    refine Rt.bn (psh_ (p := bs f + wl (D.st k)) (by rw [i2]; exact h73) (by omega)) (fun S5 _ ⟨s1, s2, s3, s4⟩ => ?_)
    have g5 := go4.tr s1.go
    have R5' := R5 S5 g5
    refine Rt.bd (r5 S5 R5').1 (Rt.be (r5 S5 R5').2 (Rt.bd (o1 S5 R5') (Rt.ip (o2.mpr h2) ?_)))
    have n5 : ∀ a : Nat, a ≠ n0 → Zl S5 61 a = Zl S1 61 a ∧ Zr S5 62 a = Zr S1 62 a ∧ Zr S5 63 a = Zr S1 63 a := fun a ha => by
      obtain ⟨y1, y2, y3⟩ := p4 a ha
      rw [s1.2.2.2.2.2.1 61 (by decide), s1.2.2.2.2.2.2.1]
      exact ⟨y1, y2, y3⟩
    refine fin153 S5 fl (c ++ L9) (nL (hdN c)) g5 (n5 m hm1.1).1 (s1.wq (e2.wq hX1.2.1)) ((s1.2.2.2.2.2.2.2 81 (by decide)).trans (by rw [i2]; exact hX1.2.2.2.2)) (s1.sam.fl f2) hm1.2.1 (fun a => ?_) ?_ ?_ ?_ (fun z => ?_) (fun q hq => ?_) s3 s2 (fun q => ?_)
    · show cnN a (c ++ L9) + _ + _ = ((if m = a then 1 else 0) + cnN a (c ++ L9)) + _
      omega
    · rw [s1.2.2.2.2.2.2.1]; exact u2
    · rw [s1.2.2.2.2.2.2.1, w2]
    · refine Or.inl ⟨h2, k0, c, L9, ?_, ?_, rfl, rfl⟩
      · exact v11.st (fun a ha => by
          obtain ⟨y1, y2, _⟩ := n5 a (fun z => hn0.2.1 (by rw [← z]; exact ha))
          exact ⟨y1, y2⟩) (fun a ha => n5 a (fun z => hn0.2.2 (by rw [← z]; exact ha)))
      · exact v8.cg (fun a ha => (n5 a (fun z => hn0.2.1 (by rw [← z]; exact ha))).2.2)
    · rcases List.mem_append.mp z with z | z
      · exact hm1.2.2.2.1 z
      · exact hm1.2.2.2.2 z
    · rw [s4 q (by omega), z2]
    · rw [s1.2.2.2.2.2.2.1, e2.2.2.2.2.2.2.1 67 (by decide) (by decide)]
  · refine Rt.iq (fun z => h2 (o2.mp z)) ?_
    have hy2 : (yT R S0).1 T ≠ 2 := h2
    have v11' := v11
    cases k0 with
    | zero => exact v11'.elim
    | succ k0 =>
    rcases v11' with ⟨z, _⟩ | ⟨_, n1, ec, hl⟩
    · exact absurd z hy2
    subst ec
    have hvl : vL (yT R S0) (szN R S0) (nMS S1) k0 T (qS (V (f, v)) (σ ++ [(1, 0)])) (Zl S1 61 n1) L9 H9 := by
      rcases hl with ⟨z, _⟩ | ⟨_, z⟩
      · exfalso
        obtain ⟨y1, y2⟩ := (F1 [] T qM_nil rfl).1 hy2
        rw [List.append_nil] at y2
        have z : V (f, v) (σ ++ [(1, 0)] ++ []) = none := z
        rw [List.append_nil, y2] at z; cases z
      · exact z
    have n1i : n1 ∈ [n1] := List.mem_singleton_self n1
    have n1n : n1 ≠ n0 := fun z => hn0.2.1 (by rw [← z]; exact n1i)
    have n1m : n1 ≠ m := fun z => hm1.2.2.2.1 (by rw [← z]; exact n1i)
    refine Rt.bd (rJ_n (show n1 < rlen 61 from hd430) (by decide)) ?_
    unfold f_runRead_133
    refine Rt.bn (psh_ (p := bs f + wl (D.st k)) (by rw [i2]; exact h73) (by omega)) (fun S5 _ ⟨s1, s2, s3, s4⟩ => ?_)
    have g5 := go4.tr s1.go
    have R5' := R5 S5 g5
    refine Rt.bd (r5 S5 R5').1 (Rt.be (r5 S5 R5').2 (Rt.bd (o1 S5 R5') (Rt.iq (fun z => h2 (o2.mp z)) ?_)))
    refine Rt.bn (frn_ (n := n1) (s1.sam.fl f2) (v8.1 n1 n1i).1 (hcl n1 n1i).2.1 (hcl n1 n1i).1) (fun S6 _ ⟨q3, q4, q5, q6⟩ => ?_)
    have g6 := g5.tr (q4.go.mo (fun a z => Or.inr (Or.inr z)) (fun _ z => z) (fun _ z => z))
    have n6 : ∀ a : Nat, a ≠ n0 → a ≠ n1 → Zl S6 61 a = Zl S1 61 a ∧ Zr S6 62 a = Zr S1 62 a ∧ Zr S6 63 a = Zr S1 63 a := fun a ha hb => by
      obtain ⟨y1, y2, y3⟩ := p4 a ha
      obtain ⟨y4, y5, y6⟩ := q4.2.2.2.2.2.2.2.2 a hb
      rw [s1.2.2.2.2.2.1 61 (by decide)] at y4
      rw [s1.2.2.2.2.2.2.1] at y5 y6
      exact ⟨y4.trans y1, y5.trans y2, y6.trans y3⟩
    refine fin153 S6 (n1 :: fl) L9 (Zl S1 61 n1) g6 (n6 m hm1.1 (fun z => n1m z.symm)).1 (q4.wq (s1.wq (e2.wq hX1.2.1))) ?_ q3 (fun z => ?_) (fun a => ?_) ?_ ?_ (Or.inr ⟨hy2, k0, hvl.st (fun a ha => n6 a (fun z => hn0.2.2 (by rw [← z]; exact ha)) (fun z => (hcl n1 n1i).2.2 (by rw [← z]; exact ha)))⟩) hm1.2.2.2.2 (fun q hq => ?_) ?_ ?_ (fun q => ?_)
    · rw [q4.2.2.2.2.2.2.2.1 81 (by decide) (by decide), s1.2.2.2.2.2.2.2 81 (by decide), i2]; exact hX1.2.2.2.2
    · rcases List.mem_cons.mp z with z | z
      · exact n1m z.symm
      · exact hm1.2.1 z
    · show cnN a L9 + _ + ((if n1 = a then 1 else 0) + cnN a fl) = ((if m = a then 1 else 0) + ((if n1 = a then 1 else 0) + cnN a L9)) + _
      omega
    · rw [q6, s1.2.2.2.2.2.2.1]; exact u2
    · rw [(q4.2.2.2.2.2.2.2.2 n0 (fun z => n1n z.symm)).2.2, s1.2.2.2.2.2.2.1, w2]
    · rw [q5, s4 q (by omega), z2]
    · rw [q5, s3, z2]; rfl
    · rw [q4.2.2.2.2.2.2.2.1 73 (by decide) (by decide)]; exact s2
    · rw [q4.2.2.2.2.2.2.1 67 (by decide) (by decide), s1.2.2.2.2.2.2.1, e2.2.2.2.2.2.2.1 67 (by decide) (by decide)]
/-- READ -/
theorem s_2 (hL : LFS R S0 g) (hx : LX S0 Sl) (hE : hFE R S0 D) (h : RQ R S0 vt tb i D k f x bs Sl k S) (hQ : D.Pe < 24000) (hk : (D.I k).kd = 2) : Rt (f_step R.K S) (fun S2 _ => RTt R S0 vt tb i D k f x bs Sl S S2) := by
  refine stp_2 h hQ hk (fun S1 h1 e70 e3 er el => ?_)
  have hp := h1.pt.1
  unfold tPt at hp
  rw [hk] at hp
  obtain ⟨hln, v, ρ, T, hi, hu, ho1, ho2, hc, _, _, hw⟩ := hp
  have hz : Zi S1 76 = Zi S 76 := by rw [h1.2.2.2.1.2.2, h.2.2.2.1.2.2]
  have key : Rt (f_runRead R.K S1 (nI k)) (fun S2 _ => RTt R S0 vt tb i D k f x bs Sl S S2) := by
    have n12 : T = 1 ∨ T = 2 → ¬ isRf T := fun z w => by have := w.1; omega
    rcases hc with ⟨hac, z | z | ⟨z1, z2⟩⟩ | ⟨hac, hcp, hm⟩ | ⟨hac, hcp, hnv, σ, hσ, hm⟩
    · exact s_2a hL hx hE h1 hQ hk hz e70 e3 er hi hu (ho2 (n12 (Or.inl z))) hac (Or.inl z) hw
    · exact s_2a hL hx hE h1 hQ hk hz e70 e3 er hi hu (ho2 (n12 (Or.inr z))) hac (Or.inr z) hw
    · exact s_2b hL hx hE h1 hQ hk hz e70 e3 er hi hu (ho1 z1) hac z1 z2 hw
    · by_cases hT : isRf T
      · exact s_2r hL hx hE h1 hQ hk hz e70 e3 er hi hu (ho1 hT) hac hT (by
          by_cases z : T % 2 = 0
          · exact absurd (Or.inr (Or.inr ⟨hT, z⟩)) hcp
          · omega) hw
      · exact s_2m hL hx hE h1 hQ hk hz e70 e3 er hi hu (ho2 hT) hac hm hT hw
    · subst hσ
      have hT : ¬ isRf T := fun w => by
        have := h1.r0 hL hx hE hi.1 (by rw [hk]; decide) w
        cases σ <;> cases this
      exact s_2x hL hx hE h1 hQ hk hz e70 e3 er hi hu (ho2 hT) hac hm hnv hT hw
  refine Rt.bn key (fun S2 _ q => ?_)
  unfold f_step_590
  exact Rt.rt q
end PS76
end
-- m4.z.lean.txt
section
/-- values from m on are told anew -/
def vsN {α : Type} (F : Nat × Nat → List α) (f m : Nat) (a : List α) : Nat × Nat → List α := fun r => if r.1 = f ∧ 40 + m ≤ r.2 then (if r.2 = 40 + m then a else []) else F r
theorem vsN_o {α : Type} {F : Nat × Nat → List α} {f m : Nat} {a : List α} {r : Nat × Nat} (h : ¬ (r.1 = f ∧ 40 + m ≤ r.2)) : vsN F f m a r = F r := if_neg h
theorem vsN_1 {α : Type} {F : Nat × Nat → List α} {f m : Nat} {a : List α} : vsN F f m a (f, 40 + m) = a := by
  unfold vsN
  rw [if_pos ⟨rfl, Nat.le_refl _⟩, if_pos rfl]
theorem vsN_2 {α : Type} {F : Nat × Nat → List α} {f m u : Nat} {a : List α} (h : 40 + m < u) : vsN F f m a (f, u) = [] := by
  unfold vsN
  rw [if_pos ⟨rfl, Nat.le_of_lt h⟩, if_neg (by show ¬ u = 40 + m; omega)]
theorem psN_h0 {c : Nat} : ∀ {n : Nat}, psN (fun i => if i = 0 then c else 0) (n + 1) = c
  | 0 => by show 0 + (if 0 = 0 then c else 0) = c; rw [if_pos rfl]; omega
  | n + 1 => by
    show psN (fun i => if i = 0 then c else 0) (n + 1) + (if n + 1 = 0 then c else 0) = c
    rw [psN_h0, if_neg (by omega)]; rfl
section PS77
variable {y : qY} {vt : Nat → Nat → Nat} {tb : Nat → lTb} {zn sz rk : Nat → Nat} {M M2 : nM} {sk sk2 : Nat → Int64} {pl pl2 : Nat → Int32} {f : Nat} {x x2 : Nat → kFm} {rt rt2 : Nat × Nat → Nat} {V V2 : Nat × Nat → qV} {bs : Nat → Nat} {C L H : Nat × Nat → List Nat} {T : Nat} {fl fl2 lv hv : List Nat} {t t2 : Nat} {tk tk2 : Nat → Int32} {W : qV} {A : Nat → Prop} {E s P : List tE} {X : kFm} {xv : Int64}
/-- the latest values go, another may come -/
theorem kN.vs (hy : nYk y zn sz rk) (hJ : kJ y vt tb f x rt V) (hN : kN y zn sz M sk pl f x rt V bs C L H) (hC : kC C L H fl t tk) (hf6 : f < 60) (hw1 : ∀ j : Nat, j ≤ f → wl (x j).2.1 ≤ 177) (hS : (x f).2.1 = E ++ s) (hE : ∀ e ∈ E, kNm e) (hP1 : ∀ e ∈ P, kNm e) (hX1 : X.2.1 = P ++ s) (hX2 : X.2.2.1 = 0) (hX3 : ∀ u : Nat, kal X u → kal (x f) u)
  (hR : ∀ (u : Nat) (a : lLc), kR X u = some a → kR (x f) u = some a ∧ (P ≠ [] → u ≠ 40 + wl s))
  (hrt : ∀ r : Nat × Nat, ¬ (r.1 = f ∧ 40 + wl s ≤ r.2) → rt2 r = rt r ∧ V2 r = V r)
  (hP : (P = [] ∧ lv = [] ∧ hv = []) ∨ (wl P = 1 ∧ vaR y sz M2 (rt2 (f, 40 + wl s)) (V2 (f, 40 + wl s)) (sk2 (bs f + wl s)) lv hv))
  (hM : ∀ a : Nat, ¬ A a → M2.w a = M.w a ∧ M2.h a = M.h a ∧ M2.x a = M.x a) (hA : ∀ a : Nat, A a → a ∈ fl ∨ t < a ∨ ∃ i : Nat, i < wl E ∧ a ∈ L (f, 40 + (wl s + i)))
  (hfl2 : ∀ a : Nat, cnN a lv + cnN a fl2 + ind t a = psN (fun i => cnN a (L (f, 40 + (wl s + i)))) (wl E) + cnN a fl + ind t2 a)
  (hhv : ∀ q : Nat, (cnN q hv ≤ psN (fun i => cnN q (H (f, 40 + (wl s + i)))) (wl E) ∧ (tk2 q = tk q ∨ cnN q hv < psN (fun i => cnN q (H (f, 40 + (wl s + i)))) (wl E))) ∨ (tk q = 0 ∧ cnN q hv ≤ 1 ∧ q < 4000 ∧ tk2 q ≠ 0))
  (hsk : ∀ q : Nat, q < bs f + wl s → sk2 q = sk q) : kN y zn sz M2 sk2 pl f (kUx x f X) rt2 V2 bs C (vsN L f (wl s) lv) (vsN H f (wl s) hv) ∧ kC C (vsN L f (wl s) lv) (vsN H f (wl s) hv) fl2 t2 tk2 := by
  have hf := Nat.le_refl f
  have hwE : wl (x f).2.1 = wl E + wl s := by rw [hS, wl_app]
  have h177 := hw1 f hf
  have hwX : wl X.2.1 = wl P + wl s := by rw [hX1, wl_app]
  have m8 : ∀ u : Nat, (8, u, 0) ∈ X.2.1 ↔ (8, u, 0) ∈ (x f).2.1 := fun u => by
    rw [hX1, hS, List.mem_append, List.mem_append]
    constructor
    · rintro (w | w)
      · exact absurd (Or.inl rfl) (hP1 _ w)
      · exact Or.inr w
    · rintro (w | w)
      · exact absurd (Or.inl rfl) (hE _ w)
      · exact Or.inr w
  have hP01 : wl P ≤ 1 ∧ (wl P = 0 → lv = [] ∧ hv = [] ∧ P = []) := by
    rcases hP with ⟨z1, z2, z3⟩ | ⟨z1, _⟩
    · rw [z1]; exact ⟨Nat.zero_le _, fun _ => ⟨z2, z3, rfl⟩⟩
    · exact ⟨by omega, fun z => by omega⟩
  -- the roots above are no others
  have top : ∀ u : Nat, 40 + wl s ≤ u → C (f, u) = [] ∧ (40 + (wl s + wl E) ≤ u → L (f, u) = [] ∧ H (f, u) = []) := fun u hu => by
    obtain ⟨q1, q2, q3⟩ := hN.1 f u hf
    by_cases c : u < 40 + wl (x f).2.1
    · exact ⟨(q2 (by omega) c).1, fun w => by omega⟩
    · obtain ⟨z1, z2, z3⟩ := q3 (fun w => by rcases w with w | w <;> omega)
      exact ⟨z1, fun _ => ⟨z2, z3⟩⟩
  have dj : ∀ (q : Nat × Nat) (a : Nat), ¬ (q.1 = f ∧ 40 + wl s ≤ q.2) → q.1 ≤ f → kSc (x q.1).2.1 q.2 → (a ∈ C q ∨ a ∈ L q) → ¬ A a := fun q a h1 h2 h3 h4 w => by
    have hq := hw1 q.1 h2
    have q300 : q.2 < 300 := by rcases h3 with z | z <;> omega
    obtain ⟨q1, q2, q3, q4, q5⟩ := hC.one (r := q) (by omega) q300 h4
    rcases hA a w with z | z | ⟨i, z1, z2⟩
    · exact q1 z
    · omega
    · have := q5 (f, 40 + (wl s + i)) hf6 (show 40 + (wl s + i) < 300 by omega) (Or.inr z2)
      exact h1 (by rw [← this]; exact ⟨rfl, by show 40 + wl s ≤ 40 + (wl s + i); omega⟩)
  refine ⟨kN.rq (Q := fun u => 40 + wl s ≤ u) hy hJ hN (fun j hj => kUx_lo hj) (fun u _ => by rw [kUx_top]; exact m8 u) (fun u hu h4 => ?_) (fun q hq => ?_) (fun q hq h1 h3 => ⟨fun a w => hM a (dj q a hq h1 h3 (Or.inl w)), fun a w => hM a (dj q a hq h1 h3 (Or.inr w))⟩) (fun _ _ _ _ _ => rfl) (fun q hq h1 h4 h5 => hsk _ ?_) (fun u hu => ?_) (fun j u d π hj ha hc hrr => Or.inl ?_), ?_⟩
  · rw [kUx_top, hwX, hwE]; omega
  · obtain ⟨z1, z2⟩ := hrt q hq
    exact ⟨z1, z2, rfl, vsN_o hq, vsN_o hq⟩
  · by_cases e : q.1 = f
    · have h6 : ¬ 40 + wl s ≤ q.2 := fun w => hq ⟨e, w⟩
      rw [e]; omega
    · have := (hN.bsm (j := q.1) (q := f) h1 hf).2 (by omega)
      omega
  · obtain ⟨c0, c1⟩ := top u hu
    have ez : u = 40 + wl s ∨ 40 + wl s < u := by omega
    refine ⟨fun w => by omega, fun w1 w2 => ?_, fun w => ?_⟩
    · rw [kUx_top, hwX] at w2
      obtain rfl : u = 40 + wl s := by omega
      rcases hP with ⟨z1, _⟩ | ⟨_, z2⟩
      · rw [z1] at w2
        have w2 : 40 + wl s < 40 + (0 + wl s) := w2
        omega
      · rw [c0, vsN_1, vsN_1, show 40 + wl s - 40 = wl s by omega]
        exact ⟨rfl, z2⟩
    · rw [kUx_top] at w
      rcases ez with rfl | ez
      · have h0 : wl P = 0 := by
          rcases Nat.eq_zero_or_pos (wl P) with z | z
          · exact z
          · exact absurd (Or.inr ⟨by omega, by rw [hwX]; omega⟩) w
        obtain ⟨z1, z2, _⟩ := hP01.2 h0
        rw [c0, vsN_1, vsN_1]
        exact ⟨rfl, z1, z2⟩
      · rw [c0, vsN_2 ez, vsN_2 ez]
        exact ⟨rfl, rfl, rfl⟩
  · by_cases e : j = f
    · subst e
      rw [kUx_top] at ha hrr hc
      obtain ⟨r1, r2⟩ := hR u _ hrr
      have hu : u < 40 + wl s := by
        rcases hc with ⟨z1, _⟩ | ⟨z1, z2⟩
        · omega
        · rw [hwX] at z2
          by_cases c : wl P = 0
          · omega
          · have h1 : wl P = 1 := by have := hP01.1; omega
            have := r2 (fun z => c (by rw [z]; rfl))
            omega
      have ha2 : kA (x j) u := by
        rcases ha with ⟨z1, z2⟩ | ⟨z1, z2⟩
        · exact Or.inl ⟨z1, hX3 u z2⟩
        · exact Or.inr ⟨z1, by omega⟩
      exact ⟨fun w => by have := w.2; omega, fun w => by have := (hJ.ld (Nat.le_refl _) ha2 r1).2.1; have := w.2; omega, ha2, r1⟩
    · rw [kUx_lo e] at ha hrr hc
      exact ⟨fun w => e w.1, fun w => by have := (hJ.ld hj ha hrr).2.1; have := w.2; omega, ha, hrr⟩
  · have sv : ∀ (F : Nat × Nat → List Nat) (z : List Nat) (a : Nat), psN (fun i => cnN a (vsN F f (wl s) z (f, 40 + (wl s + i)))) (wl E + 1) = cnN a z := fun F z a => by
      rw [psN_cg (w2 := fun i => if i = 0 then cnN a z else 0) (fun i _ => ?_), psN_h0]
      by_cases c : i = 0
      · rw [if_pos c, c, show 40 + (wl s + 0) = 40 + wl s by omega, vsN_1]
      · rw [if_neg c, vsN_2 (by omega)]; rfl
    have so : ∀ (F : Nat × Nat → List Nat) (a : Nat), F (f, 40 + (wl s + wl E)) = [] → psN (fun i => cnN a (F (f, 40 + (wl s + i)))) (wl E + 1) = psN (fun i => cnN a (F (f, 40 + (wl s + i)))) (wl E) := fun F a z => by
      show psN _ (wl E) + cnN a (F (f, 40 + (wl s + wl E))) = _
      rw [z]; rfl
    obtain ⟨tc, th⟩ := top (40 + (wl s + wl E)) (by omega)
    obtain ⟨tl, th⟩ := th (Nat.le_refl _)
    refine hC.fam (r := fun i => (f, 40 + (wl s + i))) (n := wl E + 1) (fun i hi => ⟨hf6, show 40 + (wl s + i) < 300 by omega⟩) (fun i j hi hj he => by have := (Prod.mk.inj he).2; omega) (fun q hq => ?_) (fun a => ?_) (fun q => ?_)
    · by_cases c : q.1 = f ∧ 40 + wl s ≤ q.2
      · obtain ⟨c1, c2⟩ := c
        obtain ⟨q1, q2⟩ := q
        have c1 : q1 = f := c1
        subst c1
        have c2 : 40 + wl s ≤ q2 := c2
        by_cases c3 : q2 < 40 + (wl s + (wl E + 1))
        · exact absurd (by rw [show 40 + (wl s + (q2 - 40 - wl s)) = q2 by omega]) (hq (q2 - 40 - wl s) (by omega))
        · obtain ⟨d1, d2⟩ := top q2 c2
          obtain ⟨d2, d3⟩ := d2 (by omega)
          rw [vsN_2 (by omega), vsN_2 (by omega), d2, d3]
          exact ⟨rfl, rfl, rfl⟩
      · exact ⟨rfl, vsN_o c, vsN_o c⟩
    · have z : ∀ i : Nat, cnN a (C (f, 40 + (wl s + i))) = 0 := fun i => by rw [(top (40 + (wl s + i)) (by omega)).1]; rfl
      have e1 : psN (fun i => cnN a (C (f, 40 + (wl s + i))) + cnN a (vsN L f (wl s) lv (f, 40 + (wl s + i)))) (wl E + 1) = cnN a lv := by
        rw [← sv L lv a]
        exact psN_cg (fun i _ => by rw [z i]; omega)
      have e2 : psN (fun i => cnN a (C (f, 40 + (wl s + i))) + cnN a (L (f, 40 + (wl s + i)))) (wl E + 1) = psN (fun i => cnN a (L (f, 40 + (wl s + i)))) (wl E) := by
        rw [← so L a tl]
        exact psN_cg (fun i _ => by rw [z i]; omega)
      rw [e1, e2]
      exact hfl2 a
    · rw [sv H hv q, so H q th]
      have w5 : psN (fun i => cnN q (H (f, 40 + (wl s + i)))) (wl E) ≤ 1 := by
        have e := sm2_fam (G2 := fun _ => 0) (r := fun i => (f, 40 + (wl s + i))) (n := wl E) (G := fun r => if ∃ i : Nat, i < wl E ∧ r = (f, 40 + (wl s + i)) then cnN q (H r) else 0) (fun i hi => ⟨hf6, show 40 + (wl s + i) < 300 by omega⟩) (fun i j hi hj he => by have := (Prod.mk.inj he).2; omega) (fun r hr => (if_neg (fun ⟨i, i1, i2⟩ => hr i i1 i2)).symm)
        have e2 : psN (fun i => if ∃ i2 : Nat, i2 < wl E ∧ (f, 40 + (wl s + i)) = (f, 40 + (wl s + i2)) then cnN q (H (f, 40 + (wl s + i))) else 0) (wl E) = psN (fun i => cnN q (H (f, 40 + (wl s + i)))) (wl E) := psN_cg (fun i hi => if_pos ⟨i, hi, rfl⟩)
        rw [e2] at e
        have e3 : sm2 (fun r => if ∃ i : Nat, i < wl E ∧ r = (f, 40 + (wl s + i)) then cnN q (H r) else 0) ≤ sm2 (fun r => cnN q (H r)) := sm2_le (fun r _ _ => by
          by_cases c : ∃ i : Nat, i < wl E ∧ r = (f, 40 + (wl s + i))
          · rw [if_pos c]; exact Nat.le_refl _
          · rw [if_neg c]; exact Nat.zero_le _)
        have e4 := (hC.2 q).1
        have e5 : psN (fun i => (fun _ : Nat × Nat => 0) (f, 40 + (wl s + i))) (wl E) = 0 := psN_z
        rw [e5] at e
        omega
      rcases hhv q with ⟨z1, z2⟩ | ⟨z1, z2, z3, z4⟩
      · exact Or.inl ⟨z1, z2.imp id (fun z => ⟨by omega, by omega⟩)⟩
      · exact Or.inr ⟨z1, z2, z3, z4⟩
end PS77
end
-- m5.a.lean.txt
section
section PS78
variable {R : yR} {S0 Sl S S1 S2 S3 : Sg} {D : fD} {i k j f nw : Nat} {y : qY} {vt : Nat → Nat → Nat} {tb : Nat → lTb} {x : Nat → kFm} {bs : Nat → Nat} {g : Nat → Int32} {rt : Nat × Nat → Nat} {V : Nat × Nat → qV} {C L H : Nat × Nat → List Nat} {al : Nat → Prop} {E r P : List tE}
/-- the latest values go, a whole one comes -/
theorem kJ_pp (h : kJ y vt tb f x rt V) {s : List tE} (hS : (x f).2.1 = E ++ s) (hE : ∀ e : tE, e ∈ E → kNm e) (hn : (x f).2.2.1 = 0) (hl : wl s < 211) {T : Nat} {W : qV} (hT0 : T ≠ 0) (hT5 : y.1 T ≠ 5) (hT6 : y.1 T ≠ 6) (hW : qFu y T W) : kJ y vt tb f (kUx x f ((x f).1, (0, T, 0) :: s, 0, lUp (kR (x f)) (40 + wl s) none, kH (x f), kal (x f), klo (x f), kAn (x f))) (qRt rt (f, 40 + wl s) T) (qUp (kCl V f (wl s)) (f, 40 + wl s) W) := by
  have j1 := kJ_pop h hS hE hn
  generalize hx1 : kUx x f ((x f).1, s, 0, kR (x f), kH (x f), kal (x f), klo (x f), kAn (x f)) = x1 at j1
  have e1 : x1 f = ((x f).1, s, 0, kR (x f), kH (x f), kal (x f), klo (x f), kAn (x f)) := by rw [← hx1, kUx_eq]
  have eS : (x1 f).2.1 = s := by rw [e1]
  have hk0 : kNm (0, T, 0) := by unfold kNm; simp
  have j := kJ_push (hd := kH (x1 f) (40 + wl (x1 f).2.1)) j1 hk0 (by rw [e1]) (by rw [eS]; exact hl) hW.1 (fun w hw => by
    obtain ⟨a, b⟩ := w
    have e9 : a = T := (hW.1.1 [] a b hw).1
    show y.1 a ≠ 5 ∧ y.1 a ≠ 6
    rw [e9]
    exact ⟨hT5, hT6⟩) (e := (0, T, 0)) ⟨lUp_eq, hT5, hT6, fun _ => ⟨qRt_eq, by rw [qUp_eq]; exact hW.2⟩, fun q => absurd q hT0⟩
  rw [lUp_self] at j
  rw [e1, ← hx1, kUx2] at j
  exact j
theorem trL_0 : ∀ {E : List tE}, (∀ e ∈ E, e.1 = 0) → trL al (E ++ r) = E ++ trL al r
  | [], _ => rfl
  | e :: E, h => by
    have h0 := h e (List.mem_cons_self ..)
    show trE al (wl (E ++ r)) e :: trL al (E ++ r) = e :: (E ++ trL al r)
    rw [trL_0 (fun a ha => h a (List.mem_cons_of_mem _ ha)), trE_o (by omega) (by omega) (by omega) (by omega) (by omega)]
theorem nm_0 {e : tE} (h : e.1 = 0) : kNm e := by
  show ¬ (e.1 = 8 ∨ e.1 = 4 ∨ e.1 = 5 ∨ e.1 = 6)
  omega
/-- values that are no references go, one may come: a step's end -/
theorem RQ.vs {A B : Nat → Prop} {tt t2 : Nat} {fl lv hv fl2 : List Nat} (hL : LFS R S0 g) (h1 : RQ R S0 vt tb i D k f x bs Sl nw S1) (hed : edg D k j) (hJ : kJ (yT R S0) vt tb f x rt V) (hN : kN (yT R S0) (zN R S0) (szN R S0) (nMS S1) (Zl S1 72) (Zr S1 74) f x rt V bs C L H) (hC : kC C L H fl tt (Zr S1 67)) (hs : D.st k = E ++ r) (hE : ∀ e ∈ E, e.1 = 0) (hrn : ∀ a ∈ r, pnE a) (hw : wkS (P ++ r) (D.st j)) (hm : kdM (D.I k)) (ho : (D.I k).ho = none)
  (hP : (P = [] ∧ lv = [] ∧ hv = []) ∨ ∃ (T : Nat) (W : qV), P = [(0, T, 0)] ∧ T ≠ 0 ∧ (yT R S0).1 T ≠ 5 ∧ (yT R S0).1 T ≠ 6 ∧ qFu (yT R S0) T W ∧ vaR (yT R S0) (szN R S0) (nMS S2) T W (Zl S2 72 (bs f + wl r)) lv hv)
  (e : GO A B (fun _ => False) S1 S2) (hA : ∀ a : Nat, A a → a ∈ fl ∨ tt < a ∨ ∃ i : Nat, i < wl E ∧ a ∈ L (f, 40 + (wl r + i)))
  (hfl2 : ∀ a : Nat, cnN a lv + cnN a fl2 + ind tt a = psN (fun i => cnN a (L (f, 40 + (wl r + i)))) (wl E) + cnN a fl + ind t2 a)
  (hhv : ∀ q : Nat, (cnN q hv ≤ psN (fun i => cnN q (H (f, 40 + (wl r + i)))) (wl E) ∧ (Zr S2 67 q = Zr S1 67 q ∨ cnN q hv < psN (fun i => cnN q (H (f, 40 + (wl r + i)))) (wl E))) ∨ (Zr S1 67 q = 0 ∧ cnN q hv ≤ 1 ∧ q < 4000 ∧ Zr S2 67 q ≠ 0))
  (hF : FLs S2 fl2 t2) (hsk : ∀ q : Nat, q < bs f + wl r → Zl S2 72 q = Zl S1 72 q) (h77 : Zi S1 77 = nI j) (h73 : Zi S2 73 = nI (bs f + wl (P ++ r))) : NXt R S0 vt tb i D k f x bs S1 S2 := by
  have hy := nYk_of hL
  have hat := h1.2.2.2.2.2.1
  obtain ⟨a1, a2, a3, a4, a5, a6⟩ := id hat
  have h177 := h1.pt.2
  have hFn := h1.1.1
  have eS : (x f).2.1 = E ++ trL (AL D k) r := by rw [a2, hs, trL_0 hE]
  have eW : wl (trL (AL D k) r) = wl r := trL_wl
  have hwr : wl r ≤ 177 := by rw [hs, wl_app] at h177; omega
  have hEn : ∀ e ∈ E, kNm e := fun e he => nm_0 (hE e he)
  have h74 : Zr S2 74 = Zr S1 74 := funext fun q => e.2.2.2.2.2 q (fun w => w)
  have key : ∃ X : kFm, kT (yT R S0) (zN R S0) (szN R S0) vt tb f (kUx x f X) bs S2 ∧ X.1 = (x f).1 ∧ X.2.1 = P ++ trL (AL D k) r ∧ X.2.2.1 = 0 ∧ kH X = kH (x f) ∧ kal X = kal (x f) ∧ klo X = klo (x f) ∧ kAn X = kAn (x f) := by
    rcases hP with ⟨z1, z2, z3⟩ | ⟨T, W, z1, z2, z3, z4, z5, z6⟩
    · have j1 := kJ_pop hJ eS hEn a3
      have k1 : ∀ q : Nat × Nat, ¬ (q.1 = f ∧ 40 + wl (trL (AL D k) r) ≤ q.2) → rt q = rt q ∧ kCl V f (wl (trL (AL D k) r)) q = V q := fun q hq => ⟨rfl, kCl_ge (fun w => hq ⟨w.1, w.2.1⟩)⟩
      obtain ⟨n1, n2⟩ := hN.vs (X := ((x f).1, trL (AL D k) r, 0, kR (x f), kH (x f), kal (x f), klo (x f), kAn (x f))) (P := []) (M2 := nMS S2) (sk2 := Zl S2 72) (tk2 := Zr S2 67) (A := A) (lv := lv) (hv := hv) (fl2 := fl2) (t2 := t2) (rt2 := rt) (V2 := kCl V f (wl (trL (AL D k) r))) hy hJ hC h1.2.2.2.2.1 h1.2.2.2.2.2.2.2.1 eS hEn (fun e he => by cases he) rfl rfl (fun u q => q) (fun u a q => ⟨q, fun w => absurd rfl w⟩) k1 (Or.inl ⟨rfl, z2, z3⟩) (fun a z => e.2.2.2.1 a z) (by rw [eW]; exact hA) (by rw [eW]; exact hfl2) (by rw [eW]; exact hhv) (by rw [eW]; exact hsk)
      exact ⟨_, ⟨_, _, _, _, _, fl2, t2, j1, by rw [h74]; exact n1, n2, hF⟩, rfl, by rw [z1]; rfl, rfl, rfl, rfl, rfl, rfl⟩
    · have j1 := kJ_pp (T := T) (W := W) hJ eS hEn a3 (by rw [eW]; omega) z2 z3 z4 z5
      have n1m : kNm (0, T, 0) := nm_0 rfl
      have k1 : ∀ q : Nat × Nat, ¬ (q.1 = f ∧ 40 + wl (trL (AL D k) r) ≤ q.2) → qRt rt (f, 40 + wl (trL (AL D k) r)) T q = rt q ∧ qUp (kCl V f (wl (trL (AL D k) r))) (f, 40 + wl (trL (AL D k) r)) W q = V q := fun q hq => by
        have nq : q ≠ (f, 40 + wl (trL (AL D k) r)) := fun w => hq (by rw [w]; exact ⟨rfl, Nat.le_refl _⟩)
        exact ⟨qRt_ne nq, (qUp_ne nq).trans (kCl_ge (fun w => hq ⟨w.1, w.2.1⟩))⟩
      have k2 : ∀ (u : Nat) (a : lLc), lUp (kR (x f)) (40 + wl (trL (AL D k) r)) none u = some a → kR (x f) u = some a ∧ ([((0, T, 0) : tE)] ≠ [] → u ≠ 40 + wl (trL (AL D k) r)) := fun u a q => by
        by_cases c : u = 40 + wl (trL (AL D k) r)
        · rw [c, lUp_eq] at q; cases q
        · rw [lUp_ne c] at q; exact ⟨q, fun _ => c⟩
      obtain ⟨n1, n2⟩ := hN.vs (X := ((x f).1, (0, T, 0) :: trL (AL D k) r, 0, lUp (kR (x f)) (40 + wl (trL (AL D k) r)) none, kH (x f), kal (x f), klo (x f), kAn (x f))) (P := [(0, T, 0)]) (M2 := nMS S2) (sk2 := Zl S2 72) (tk2 := Zr S2 67) (A := A) (lv := lv) (hv := hv) (fl2 := fl2) (t2 := t2) (rt2 := qRt rt (f, 40 + wl (trL (AL D k) r)) T) (V2 := qUp (kCl V f (wl (trL (AL D k) r))) (f, 40 + wl (trL (AL D k) r)) W) hy hJ hC h1.2.2.2.2.1 h1.2.2.2.2.2.2.2.1 eS hEn (fun e he => by rw [List.mem_singleton.mp he]; exact n1m) rfl rfl (fun u q => q) k2 k1 (Or.inr ⟨wl_n n1m, by rw [qRt_eq, qUp_eq, eW]; exact z6⟩) (fun a z => e.2.2.2.1 a z) (by rw [eW]; exact hA) (by rw [eW]; exact hfl2) (by rw [eW]; exact hhv) (by rw [eW]; exact hsk)
      exact ⟨_, ⟨_, _, _, _, _, fl2, t2, j1, by rw [h74]; exact n1, n2, hF⟩, rfl, by rw [z1]; rfl, rfl, rfl, rfl, rfl, rfl⟩
  obtain ⟨X, y0, y1, y2, y3, y4, y5, y6, y7⟩ := key
  have hPn : ∀ a ∈ P ++ r, pnE a := fun a ha => by
    rcases List.mem_append.mp ha with w | w
    · rcases hP with ⟨z, _⟩ | ⟨T, W, z, _⟩
      · rw [z] at w; cases w
      · rw [z] at w; rw [List.mem_singleton.mp w]; exact pnE_k (Or.inl rfl)
    · exact hrn a w
  refine (fin0 (s := P ++ r) (S := S1) hL h1.1 hed hw hPn hm ho ?_ ?_ ?_ ?_ ?_ ?_ y0 ((e.2.1 77 (by decide)).trans h77) ?_ e.2.2.1 (e.2.1 76 (by decide))).ux y7
  · rw [kUx_top]; exact y3
  · rw [kUx_top, y1]; exact a1
  · rw [kUx_top, y2]
    rcases hP with ⟨z, _⟩ | ⟨T, W, z, _⟩
    · rw [z] at hw ⊢
      exact trL_t hw (hFn.dn hed ho (show wl ([] ++ r) ≤ 177 from hwr))
    · rw [z] at hw ⊢
      exact trL_c hw (show (0 : Nat) ≠ 3 by decide) (show (0 : Nat) ≠ 5 by decide) (show (0 : Nat) ≠ 6 by decide) (hFn.dn hed ho hwr)
  · rw [kUx_top, y4]; exact a4
  · rw [kUx_top, y5]; exact a5
  · rw [kUx_top, y6]; exact a6
  · rw [h73, wkS_wl hw]
end PS78
end
-- m5.b.lean.txt
section
theorem nL_o {a : Nat} (h : a < 2 ^ 31) : nL a = Int64.ofNat a := by
  refine Int64.toInt_inj.mp ?_
  unfold nL
  rw [Int32.toInt_toInt64, Int64.toInt_ofNat_of_lt (by omega)]
  exact Int32.toInt_ofNat_of_lt (by omega)
theorem jo_32 {a : Nat} (h : a < 2 ^ 31) : Int64.toInt32 (Int64.ofNat a) = nI a := by
  rw [← nL_o h]; exact nL_t
theorem jo_bv (a : Nat) : (Int64.ofNat a).toBitVec = BitVec.ofNat 64 a := rfl
theorem jo_s20 {b : Nat} : Int64.ofNat b <<< (Int32.toInt64 20 &&& 63) = Int64.ofNat (b * 2 ^ 20) := by
  refine Int64.toBitVec_inj.mp ?_
  rw [Int64.toBitVec_shiftLeft, BitVec.shiftLeft_eq', show ((Int32.toInt64 20 &&& 63 : Int64).toBitVec.smod 64).toNat = 20 by decide, jo_bv, jo_bv]
  apply BitVec.eq_of_toNat_eq
  rw [BitVec.toNat_shiftLeft, BitVec.toNat_ofNat, BitVec.toNat_ofNat, Nat.shiftLeft_eq]
  rw [Nat.mod_mul_mod]
theorem jo_s40 {b : Nat} : Int64.ofNat b <<< (Int32.toInt64 40 &&& 63) = Int64.ofNat (b * 2 ^ 40) := by
  refine Int64.toBitVec_inj.mp ?_
  rw [Int64.toBitVec_shiftLeft, BitVec.shiftLeft_eq', show ((Int32.toInt64 40 &&& 63 : Int64).toBitVec.smod 64).toNat = 40 by decide, jo_bv, jo_bv]
  apply BitVec.eq_of_toNat_eq
  rw [BitVec.toNat_shiftLeft, BitVec.toNat_ofNat, BitVec.toNat_ofNat, Nat.shiftLeft_eq]
  rw [Nat.mod_mul_mod]
theorem jo_r {n k : Nat} {s : Int64} (hs : (s.toBitVec.smod 64).toNat = k) (h : n < 2 ^ 63) : Int64.ofNat n >>> s = Int64.ofNat (n / 2 ^ k) := by
  refine Int64.toBitVec_inj.mp ?_
  rw [Int64.toBitVec_shiftRight, jo_bv, jo_bv]
  apply BitVec.eq_of_toNat_eq
  rw [BitVec.sshiftRight_eq', hs]
  rw [BitVec.sshiftRight_eq_of_msb_false (by rw [BitVec.msb_eq_decide]; simp; omega)]
  rw [BitVec.toNat_ushiftRight, BitVec.toNat_ofNat, BitVec.toNat_ofNat, Nat.shiftRight_eq_div_pow, Nat.mod_eq_of_lt (by omega : n < 2 ^ 64)]
  have : n / 2 ^ k ≤ n := Nat.div_le_self _ _
  rw [Nat.mod_eq_of_lt (by omega)]
theorem jo_a {n : Nat} : Int64.ofNat n &&& 1048575 = Int64.ofNat (n % 2 ^ 20) := by
  refine Int64.toBitVec_inj.mp ?_
  rw [Int64.toBitVec_and, jo_bv, jo_bv]
  apply BitVec.eq_of_toNat_eq
  rw [BitVec.toNat_and, BitVec.toNat_ofNat, BitVec.toNat_ofNat]
  show (n % 2 ^ 64) &&& 1048575 = n % 2 ^ 20 % 2 ^ 64
  rw [show (1048575 : Nat) = 2 ^ 20 - 1 by decide, Nat.and_two_pow_sub_one_eq_mod]
  omega
theorem jo_w {a b c : Nat} (ha : a < 2 ^ 20) (hb : b < 2 ^ 20) (hc : c < 2 ^ 20) : kdW (Int64.ofNat (a + b * 2 ^ 20 + c * 2 ^ 40)) = nI a ∧ vrW (Int64.ofNat (a + b * 2 ^ 20 + c * 2 ^ 40)) = nI b ∧ blW (Int64.ofNat (a + b * 2 ^ 20 + c * 2 ^ 40)) = nI c := by
  refine ⟨?_, ?_, ?_⟩
  · unfold kdW
    rw [jo_a, show (a + b * 2 ^ 20 + c * 2 ^ 40) % 2 ^ 20 = a by omega, jo_32 (by omega)]
  · unfold vrW
    rw [jo_r (k := 20) (by decide) (by omega), jo_a, show (a + b * 2 ^ 20 + c * 2 ^ 40) / 2 ^ 20 % 2 ^ 20 = b by omega, jo_32 (by omega)]
  · unfold blW
    rw [jo_r (k := 40) (by decide) (by omega), show (a + b * 2 ^ 20 + c * 2 ^ 40) / 2 ^ 40 = c by omega, jo_32 (by omega)]
/-- the worth of a box's node -/
theorem wth_b {a b c : Nat} (ha : a < 2 ^ 20) (hb : b < 2 ^ 20) (hc : c < 2 ^ 20) : kdW (nL a + (nL b <<< (Int32.toInt64 20 &&& 63)) + (nL c <<< (Int32.toInt64 40 &&& 63))) = nI a ∧ vrW (nL a + (nL b <<< (Int32.toInt64 20 &&& 63)) + (nL c <<< (Int32.toInt64 40 &&& 63))) = nI b ∧ blW (nL a + (nL b <<< (Int32.toInt64 20 &&& 63)) + (nL c <<< (Int32.toInt64 40 &&& 63))) = nI c := by
  rw [nL_o (by omega : a < 2 ^ 31), nL_o (by omega : b < 2 ^ 31), nL_o (by omega : c < 2 ^ 31), jo_s20, jo_s40, ← Int64.ofNat_add, ← Int64.ofNat_add]
  exact jo_w ha hb hc
/-- .. of an enum's node -/
theorem wth_e {a b : Nat} (ha : a < 2 ^ 20) (hb : b < 2 ^ 20) : kdW (nL a + (nL b <<< (Int32.toInt64 20 &&& 63))) = nI a ∧ vrW (nL a + (nL b <<< (Int32.toInt64 20 &&& 63))) = nI b := by
  rw [nL_o (by omega : a < 2 ^ 31), nL_o (by omega : b < 2 ^ 31), jo_s20, ← Int64.ofNat_add]
  have h := jo_w (c := 0) ha hb (by decide)
  rw [Nat.zero_mul, Nat.add_zero] at h
  exact ⟨h.1, h.2.1⟩
section PS79
variable {R : yR} {K : Ky} {S0 Sl S S1 S2 S3 : Sg} {g : Nat → Int32} {z T t k : Nat} {W : qV} {xv : Int64} {l h fl : List Nat}
/-- sizeOf, while it runs -/
theorem szr_ (hL : LFS R S0 g) (hx : LX S0 Sl) (e : RNx Sl S) (hr : rTy S0 z) : f_sizeOf R.K (f_sizeOfItem R.K 80) S (some z) = some (S, nI (szN R S0 (abT S0 z))) := by
  obtain ⟨kd, ix, o, q, _⟩ := hr.ty
  obtain ⟨tn, _, _, xl, xf⟩ := e.ty (hx.ty q)
  have o0 : oI S 20 (some z) 0 = some kd := oI_mk xl xf rfl
  have o1 : oI S 20 (some z) 1 = some ix := oI_mk xl xf rfl
  have item : ∀ i : Nat, i < R.im → R.ik i ≠ 12 → ix = nI i → abT S0 z = 4 + i → (yK R S0 (abT S0 z) = 2 ∨ yK R S0 (abT S0 z) = 3) → f_sizeOf_16 R.K (f_sizeOfItem R.K 80) S (some z) = some (S, nI (szN R S0 (abT S0 z))) := fun i hi hne ei et hk => by
    obtain ⟨s, s1, ⟨fs, g1, g2, g3, g4⟩, _⟩ := hL.2.2.2.2.1 i hi hne
    have w1 : R.ws i ∈ ZL S0 := hL.2.1 _ (hL.2.2.1 i hi).1.1
    have hs : szN R S0 (abT S0 z) = s := by
      unfold szN
      rw [if_pos hk, et, show 4 + i - 4 = i by omega, obF_o g1, fN_i g2 (by omega)]
    obtain ⟨c1, f2, c2, c3, c4⟩ := hx.it w1 g1
    have o19 : oI S 16 (some (R.ws i)) 19 = some (nI s) := oI_mk (by rw [e.1]; exact c1) (by rw [e.2.1]; exact c2) (by rw [c4 19 (by decide) (Or.inl (by decide))]; exact g2)
    have hit : f_sizeOfItem R.K 80 S (some (R.ws i)) = some (S, nI s) := by
      rw [show (80 : Nat) = 79 + 1 from rfl, f_sizeOfItem, o19]
      simp only [Option.bind_some]
      rw [if_neg (fun w => by have := nI_le0 (by omega) w; omega)]
    unfold f_sizeOf_16
    rw [o1]
    simp only [Option.bind_some]
    rw [ei, it11r hL hx e hi]
    simp only [Option.bind_some]
    rw [hit, hs]
    rfl
  have oth : kd ≠ 3 → kd ≠ 4 → szN R S0 (abT S0 z) = 1 → f_sizeOf R.K (f_sizeOfItem R.K 80) S (some z) = some (S, nI (szN R S0 (abT S0 z))) := fun h3 h4 hs => by
    unfold f_sizeOf f_sizeOf_33
    rw [o0]
    simp only [Option.bind_some]
    rw [if_neg h3, if_neg h4, hs]
    rfl
  have s1 : yK R S0 (abT S0 z) ≠ 2 → yK R S0 (abT S0 z) ≠ 3 → szN R S0 (abT S0 z) = 1 := fun h2 h3 => by
    unfold szN
    rw [if_neg (fun w => w.elim h2 h3)]
  rcases yK_k hL hr q with ⟨h, h2⟩ | ⟨h, i, hi, hk2, ei, _, et, h2⟩ | ⟨h, i, hi, hk2, ei, _, et, h2⟩ | ⟨h, _, _, h2, _⟩ | ⟨h, h2⟩
  · exact oth (fun w => by rw [w] at h; rcases h with z | z | z | z <;> exact absurd z (by decide)) (fun w => by rw [w] at h; rcases h with z | z | z | z <;> exact absurd z (by decide)) (s1 (by rw [h2]; decide) (by rw [h2]; decide))
  · have := item i hi (by rw [hk2]; decide) ei et (Or.inl h2)
    unfold f_sizeOf
    rw [o0]
    simp only [Option.bind_some]
    rw [if_pos h]
    exact this
  · have := item i hi (by rw [hk2]; decide) ei et (Or.inr h2)
    unfold f_sizeOf
    rw [o0]
    simp only [Option.bind_some]
    rw [if_neg (by rw [h]; decide), if_pos h]
    exact this
  · exact oth (by rw [h]; decide) (by rw [h]; decide) (s1 (by rw [h2]; decide) (by rw [h2]; decide))
  · refine oth (fun w => by rw [w] at h; rcases h with z | z <;> exact absurd z (by decide)) (fun w => by rw [w] at h; rcases h with z | z <;> exact absurd z (by decide)) (s1 ?_ ?_)
    · rcases h2 with z | z <;> rw [z] <;> decide
    · rcases h2 with z | z <;> rw [z] <;> decide
/-- a node was taken: how often each stands where -/
theorem Frs.ct {n : Nat} {l2 : List Nat} {t2 : Nat} (h : Frs fl t [n] l2 t2) (hl : FLs S fl t) (h1 : ∀ n ∈ fl, 1 ≤ n) (hl2 : l2.Nodup) (hn : 1 ≤ n) (a : Nat) : (if n = a then 1 else 0) + cnN a l2 + ind t a = cnN a fl + ind t2 a := by
  have := h.eq (List.nodup_cons.mpr ⟨List.not_mem_nil, List.nodup_nil⟩) hl.2.2.2.1 hl2 (fun m hm => ⟨h1 m hm, hl.2.2.2.2 m hm⟩) (fun m hm => by rw [List.mem_singleton.mp hm]; exact hn) a
  exact this
/-- freshPlace: a value gets a place of its own -/
theorem fpl_ (hL : LFS R S0 g) (hx : LX S0 Sl) (e : RNx Sl S) (hr : rTy S0 z) (eT : abT S0 z = T) (hva : vaR (yT R S0) (szN R S0) (nMS S) T W xv l h) (hf : FLs S fl t) (h1 : ∀ n ∈ fl, 1 ≤ n) (hro : t ≤ fl.length + 429000) (hcv : ∀ a ∈ l, a ∉ fl ∧ a ≤ t) : Rt (f_freshPlace R.K S (some z) xv) (fun S2 r => ∃ (c l1 fl2 : List Nat) (t2 k : Nat), r = nI (hdN c) ∧ pL (yT R S0) (szN R S0) (nMS S2) k T W c l1 h ∧ lkN (Zr S2 63) c ∧ FLs S2 fl2 t2 ∧ NO (fun a => (a ∈ fl ∨ t < a) ∧ a ∈ c) S S2 ∧ (t ≤ t2 ∧ t2 + fl.length ≤ fl2.length + t + 1 ∧ (∀ a ∈ fl2, a ∈ fl) ∧ ((yT R S0).1 T ≠ 2 → ∃ m : Nat, c = [m] ∧ Zl S2 61 m = xv)) ∧ ∀ a : Nat, cnN a c + cnN a l1 + cnN a fl2 + ind t a = cnN a l + cnN a fl + ind t2 a) := by
  have hy := nYk_of hL
  obtain ⟨kd, o1, o2⟩ := kd3_ hL hx hr
  rw [eT] at o2
  unfold f_freshPlace
  refine Rt.bd (o1 S e) (Rt.it (fun w => ?_) (fun w => ?_))
  · rcases hva with ⟨_, k, c, l1, q2, q3, q4, q5⟩ | ⟨q1, _⟩
    · unfold f_freshPlace_18
      rw [q4, nL_t]
      refine Rt.rt ⟨c, l1, fl, t, k, rfl, q2, q3, hf, NO.rf, ⟨Nat.le_refl _, by omega, fun a ha => ha, fun z => absurd (o2.mp w) z⟩, fun a => ?_⟩
      rw [q5, cnN_app]
    · exact absurd (o2.mp w) q1
  · rcases hva with ⟨q1, _⟩ | ⟨q1, k, q2⟩
    · exact absurd (o2.mpr q1) w
    · refine Rt.bn (lea_ hf (fun z => by rw [z] at hro; have hro : t ≤ 0 + 429000 := hro; omega)) (fun S2 r ⟨n, l2, t2, p1, p2, p3, p4, p5, p6, p7, p8⟩ => ?_)
      unfold f_freshPlace_18
      have hn := (p8.1 n (List.mem_singleton_self n)).2.2
      have hnl : n ∉ l := fun w => by
        obtain ⟨w1, w2⟩ := hcv n w
        rcases hn with z | z
        · exact w1 z
        · omega
      refine Rt.rt ⟨[n], l, l2, t2, k + 1, by rw [p1]; rfl, Or.inr ⟨q1, n, rfl, Or.inr ⟨p7, ?_⟩⟩, ⟨fun a ha => by rw [List.mem_singleton.mp ha]; exact ⟨p2, p3⟩, fun i a b h1 h2 => ?_⟩, p4, p5.mo (fun a w => by rw [w]; exact ⟨hn, List.mem_singleton_self n⟩), ⟨p8.2.1, by have e9 := p8.2.2.2.2; have e9 : l2.length + 1 + t = fl.length + t2 := e9; omega, p8.2.2.1, fun _ => ⟨n, rfl, p6⟩⟩, fun a => ?_⟩
      · show vL (yT R S0) (szN R S0) (nMS S2) k T W (Zl S2 61 n) l h
        rw [p6]
        exact q2.st (p5.ag (fun a ha w => hnl (by rw [← w]; exact ha)))
      · have h2 : ([] : List Nat)[i]? = some b := h2
        cases h2
      · have := p8.ct hf h1 p4.2.2.2.1 p2 a
        show (if n = a then 1 else 0) + 0 + cnN a l + cnN a l2 + ind t a = _
        omega
end PS79
end
-- m5.c.lean.txt
section
section PS80
variable {R : yR} {K : Ky} {S0 Sl S S1 S2 S3 : Sg} {D : fD} {i k j f nw : Nat} {vt : Nat → Nat → Nat} {tb : Nat → lTb} {x : Nat → kFm} {bs : Nat → Nat} {g : Nat → Int32} {rt : Nat × Nat → Nat} {V : Nat × Nat → qV} {C L H : Nat × Nat → List Nat} {A : Nat → Prop} {r : List tE}
theorem HO.ui {v : Int32} {j : Nat} (h : j = 68 ∨ j = 69) : HO A S (Ui S j v) := ⟨rfl, rfl, ⟨rfl, rfl⟩, rfl, rfl, rfl, fun _ _ => rfl, fun q h1 h2 => Zi_n (by omega), fun _ _ => rfl⟩
theorem qS_B {U : Nat} {W : qV} : qS (qB U W) [(1, 0)] = W := funext fun σ => (if_pos ⟨rfl, rfl⟩ : (if (1 : Nat) = 1 ∧ (0 : Nat) = 0 then W σ else none) = W σ)
/-- cells of the heap are taken -/
theorem bu26 {p m : Nat} {o : Option Nat} {Q : Sg → Unit → Prop} (hp : p + m ≤ 4000) (kk : ∀ S2 : Sg, HO (fun q => q ∈ rgN p m) S S2 → (∀ q ∈ rgN p m, Zr S2 67 q = 1) → Rt (f_boxUp_77 K S2 o (nI m) (nI p)) Q) : ∀ (d k : Nat) (S1 : Sg), m < k + d → k ≤ m → HO (fun q => q ∈ rgN p m) S S1 → (∀ q : Nat, p ≤ q → q < p + k → Zr S1 67 q = 1) → Rt (f_boxUp_26 K d S1 o (nI m) (nI p) (nI k)) Q
  | 0, k, S1, hd, hk, _, _ => by omega
  | d + 1, k, S1, hd, hk, e, hz => by
    unfold f_boxUp_26
    refine Rt.it (fun w => ?_) (fun w => ?_)
    · have : m ≤ k := (nI_leI (by omega) (by omega)).mp w
      obtain rfl : k = m := by omega
      have e1 : HO (fun q => q ∈ rgN p k) S1 (Ui S1 68 (Zi S1 68 + nI k)) := HO.ui (Or.inl rfl)
      have z1 : Zr (Ui S1 68 (Zi S1 68 + nI k)) = Zr S1 := rfl
      refine Rt.bd (v := Ui S1 68 (Zi S1 68 + nI k)) rfl ?_
      generalize Ui S1 68 (Zi S1 68 + nI k) = S4 at e1 z1
      refine Rt.it (fun _ => kk S4 (e.tr e1) (fun q hq => by rw [z1]; exact hz q (rgN_mem.mp hq).1 (rgN_mem.mp hq).2)) (fun _ => Rt.bd (v := Ui S4 69 (Zi S4 68)) rfl (kk _ ((e.tr e1).tr (HO.ui (Or.inr rfl))) (fun q hq => ?_)))
      show Zr S4 67 q = 1
      rw [z1]; exact hz q (rgN_mem.mp hq).1 (rgN_mem.mp hq).2
    · have hlt : k < m := by
        by_cases q : k < m
        · exact q
        · exact absurd (nI_le (a := m) (b := k) (by omega) (by omega)) w
      rw [nI_add]
      refine Rt.bd (wZ_n (show p + k < rlen 67 from by show _ < 4000; omega) (by decide) (Or.inr rfl)) ?_
      rw [nI_1]
      have e2 : HO (fun q => q ∈ rgN p m) S1 (Ur S1 67 (upd (Zr S1 67) (p + k) 1)) := HO.w (rgN_mem.mpr ⟨by omega, by omega⟩)
      refine bu26 hp kk d (k + 1) _ (by omega) (by omega) (e.tr e2) (fun q q1 q2 => ?_)
      rw [Zr_us]
      by_cases w2 : q = p + k
      · rw [w2, upd_s]
      · rw [upd_n w2]; exact hz q q1 (by omega)
/-- a value of the stack -/
theorem RQ.val {n T m : Nat} (h1 : RQ R S0 vt tb i D k f x bs Sl nw S) (hJ : kJ (yT R S0) vt tb f x rt V) (hN : kN (yT R S0) (zN R S0) (szN R S0) (nMS S) (Zl S 72) (Zr S 74) f x rt V bs C L H) (hn : n < wl (D.st k)) (hE : kE (yT R S0) rt V f (x f) n (0, T, m)) (hT0 : T ≠ 0) : rt (f, 40 + n) = T ∧ qFu (yT R S0) T (V (f, 40 + n)) ∧ vaR (yT R S0) (szN R S0) (nMS S) T (V (f, 40 + n)) (Zl S 72 (bs f + n)) (L (f, 40 + n)) (H (f, 40 + n)) ∧ (yT R S0).1 T ≠ 5 ∧ (yT R S0).1 T ≠ 6 := by
  obtain ⟨_, e5, e6, e0, _⟩ := hE
  obtain ⟨e1, e2⟩ := e0 hT0
  have ok := hJ.1 (f, 40 + n)
  have q := (hN.1 f (40 + n) (Nat.le_refl f)).2.1 (by omega) (by rw [h1.st.2]; omega)
  rw [e1] at ok q
  refine ⟨e1, ⟨ok, e2⟩, ?_, e5, e6⟩
  have q2 := q.2
  rw [show 40 + n - 40 = n by omega] at q2
  exact q2
theorem kK_top {y : qY} {e : tE} {s : List tE} (hJ : kJ y vt tb f x rt V) (hS : (x f).2.1 = e :: s) : kE y rt V f (x f) (wl s) e := by
  have := hJ.2.2.2.2.1 f (Nat.le_refl f)
  rw [hS] at this
  exact this.1
/-- the value on top -/
theorem RQ.top {T m : Nat} (h1 : RQ R S0 vt tb i D k f x bs Sl nw S) (hJ : kJ (yT R S0) vt tb f x rt V) (hN : kN (yT R S0) (zN R S0) (szN R S0) (nMS S) (Zl S 72) (Zr S 74) f x rt V bs C L H) (hs : D.st k = (0, T, m) :: r) (hT0 : T ≠ 0) : rt (f, 40 + wl r) = T ∧ qFu (yT R S0) T (V (f, 40 + wl r)) ∧ vaR (yT R S0) (szN R S0) (nMS S) T (V (f, 40 + wl r)) (Zl S 72 (bs f + wl r)) (L (f, 40 + wl r)) (H (f, 40 + wl r)) ∧ (yT R S0).1 T ≠ 5 ∧ (yT R S0).1 T ≠ 6 := by
  have hS : (x f).2.1 = (0, T, m) :: trL (AL D k) r := by
    rw [h1.st.1, hs]
    exact trL_0 (E := [(0, T, m)]) (fun e he => by rw [List.mem_singleton.mp he])
  have hE := kK_top hJ hS
  rw [trL_wl] at hE
  exact h1.val hJ hN (by rw [hs, wl_n (nm_0 rfl)]; omega) hE hT0
/-- the nodes of a value are not free -/
theorem kC.val {n : Nat} {fl : List Nat} {t : Nat} {tk : Nat → Int32} (hC : kC C L H fl t tk) (hf : f < 60) (hn : 40 + n < 300) : ∀ a ∈ L (f, 40 + n), a ∉ fl ∧ a ≤ t := fun a ha => by
  obtain ⟨q1, q2, q3, _⟩ := hC.one (r := (f, 40 + n)) hf (show 40 + n < 300 from hn) (Or.inr ha)
  exact ⟨q1, q3⟩
theorem psN_1u {w : Nat → Nat} : psN w 1 = w 0 := by show 0 + w 0 = w 0; omega
theorem wl_01 {T : Nat} {r : List tE} : wl [(0, T, 0)] = 1 ∧ wl ((0, T, 0) :: r) = wl r + 1 := ⟨wl_n (nm_0 rfl), wl_n (nm_0 rfl)⟩
/-- BOX -/
theorem s_7 (hL : LFS R S0 g) (hx : LX S0 Sl) (h : RQ R S0 vt tb i D k f x bs Sl k S) (hQ : D.Pe < 24000) (hk : (D.I k).kd = 7) : Rt (f_step R.K S) (fun S2 _ => RTt R S0 vt tb i D k f x bs Sl S S2) := by
  have h24 := h.k24 hQ
  have hy := nYk_of hL
  refine stp_7 h hQ hk (fun S1 h1 e70 e3 er el => ?_)
  have hp := h1.pt.1
  unfold tPt at hp
  rw [hk] at hp
  obtain ⟨d0, U, r, hs, n0, n9, hU4, hUT, u1, u2, _, _, hw⟩ := hp
  rw [h1.1.2.2.2.2] at hU4 hUT
  have hgt := h1.1.2.2.2.1
  rw [hs] at hgt
  have hb := h1.sb
  have h73 := h1.2.2.2.1.2.1
  have h177 := h1.pt.2
  rw [hs, (wl_01 (r := r)).2] at h73 hb h177
  obtain ⟨z, y1, y2, y3⟩ := h1.2.1.2.2.2.2.2.2.2.1 (Or.inl hk)
  have hX1 := h1.2.2.1
  have hq39 : Zq S1 = Zq Sl := hX1.1.2.2.2.1
  obtain ⟨rt, V, C, L, H, fl, t9, ⟨hJ, hN, hC, hF⟩, _⟩ := h1.2.2.2.2.2.2.1
  have hf6 := h1.2.2.2.2.1
  obtain ⟨v1, v2, v3, v4, v5⟩ := h1.top hJ hN hs n0
  have hsz := (hy.1 (D.I k).n1)
  obtain ⟨hh, hh1, hh2⟩ := hX1.2.2.2.1
  have hro := hN.room hy hC hf6 h1.2.2.2.2.2.2.2.1 hF.2.2.2.2
  refine Rt.bd (v := some z) (by rw [rQ_n (show k < rlen 39 from h24) (by decide), hq39, y1]) ?_
  unfold f_boxUp
  have key : Rt (bnd (f_sizeOf R.K (f_sizeOfItem R.K 80) S1 (some z)) fun S1 v2 => bnd (f_findRoom R.K S1 v2) fun S3 v4 => if 0 ≤ v4 then (f_boxUp_26 R.K bigN S3 (some z) v2 v4 0) else ((pM S3 3 9).bind fun S5 => some (S5, ()))) (fun S2 _ => RTt R S0 vt tb i D k f x bs Sl S S2) := by
    refine Rt.be (szr_ hL hx hX1.1 y2) ?_
    rw [y3]
    refine Rt.bn (fnr_ hh2 hh1 hsz.2.2.1 (by have := hsz.2.2.2.1; have : szN R S0 (D.I k).n1 ≤ 16 := this; omega)) (fun S3 r3 ⟨es, hr3⟩ => ?_)
    obtain rfl : S1 = S3 := es.symm
    rcases hr3 with hr3 | ⟨p, hr3, hp1, hp2⟩
    · rw [hr3]
      refine Rt.iq (by decide) (Rt.bd (v := Ui S1 3 9) rfl (Rt.rt ⟨hX1.f3, Or.inl ?_⟩))
      rw [show Zi (Ui S1 3 9) 3 = 9 from Zi_s]; decide
    · rw [hr3]
      have hp4 : p + szN R S0 (D.I k).n1 ≤ 4000 := by omega
      refine Rt.ip (nI_le (a := 0) (b := p) (Nat.zero_le _) (by omega)) (bu26 (S := S1) hp4 (fun S4 q1 q2 => ?_) bigN 0 S1 (by unfold bigN; have := hsz.2.2.2.1; have : szN R S0 (D.I k).n1 ≤ 16 := this; omega) (Nat.zero_le _) HO.rf (fun q a b => by omega))
      unfold f_boxUp_77
      refine Rt.bn (nod_ (q1.fls hF) (fun z => by rw [z] at hro; have hro : t9 ≤ 0 + 424640 := hro; omega)) (fun S5 r5 ⟨m, l2, t2, a1, a2, a3, a4, a5, a6, a7, a8, a9, a10⟩ => ?_)
      have frs : Frs fl t9 [m] l2 t2 := Frs.one hF.2.2.2.1 hF.2.2.2.2 a10
      have hm1 := (frs.1 m (List.mem_singleton_self m)).2.2
      have hmt : m ≤ t2 := a3
      have ht2 : t2 < 430000 := a5.2.1
      have x72 : Zl S5 72 = Zl S1 72 := by rw [a6.2.2.2.2.2.1 72 (by decide), q1.2.2.2.2.2.1]
      have x73 : Zi S5 73 = nI (bs f + wl r + 1) := by
        rw [a6.2.2.2.2.2.2.2.1 73 (by decide) (by decide), q1.2.2.2.2.2.2.2.1 73 (by decide) (by decide)]; exact h73
      have go5 : GO (fun a => a ∈ fl ∨ t9 < a) (fun q => q ∈ rgN p (szN R S0 (D.I k).n1)) (fun _ => False) S1 S5 := q1.go.tr (a6.go.mo (fun a w => by rw [w]; exact hm1) (fun _ w => w) (fun _ w => w))
      refine Rt.bn (pop_ (p := bs f + wl r) x73 (by omega)) (fun S6 v6 ⟨_, c2, c3, c4, c5⟩ => ?_)
      have go6 := go5.tr c3.go
      have hcv := hC.val (n := wl r) hf6 (by omega)
      have hag : agN (nMS S1) (nMS S6) (L (f, 40 + wl r)) := go6.ag (fun a ha w => by
        obtain ⟨w1, w2⟩ := hcv a ha
        rcases w with w | w
        · exact w1 w
        · omega)
      have ev6 : v6 = Zl S1 72 (bs f + wl r) := by rw [c2, x72]
      rw [ev6]
      refine Rt.bn (fpl_ (T := (D.I k).n1) (W := V (f, 40 + wl r)) (l := L (f, 40 + wl r)) (h := H (f, 40 + wl r)) (fl := l2) (t := t2) hL hx (hX1.1.tr go6.1) y2 y3 (v3.st hag) (c3.sam.fl a5) (fun n hn => hC.f1 n (frs.2.2.1 n hn)) (by have e9 := frs.2.2.2.2; have e9 : l2.length + 1 + t9 = fl.length + t2 := e9; omega) (fun a ha => ⟨fun w => (hcv a ha).1 (frs.2.2.1 a w), Nat.le_trans (hcv a ha).2 frs.2.1⟩)) (fun S7 r7 ⟨c, l1, fl3, t3, k3, b1, b2, b3, b4, b5, _, b6⟩ => ?_)
      have go7 := go6.tr (b5.go.mo (B2 := fun q => q ∈ rgN p (szN R S0 (D.I k).n1)) (P2 := fun _ => False) (A2 := fun a => a ∈ fl ∨ t9 < a) (A := fun a => (a ∈ l2 ∨ t2 < a) ∧ a ∈ c) (fun a w => by
        rcases w.1 with w | w
        · exact Or.inl (frs.2.2.1 a w)
        · have := frs.2.1; exact Or.inr (by omega)) (fun _ w => w) (fun _ w => w))
      have hc1 : 1 ≤ c.length := by rw [b2.len hy]; exact hsz.1
      have hdc := b3.1 _ (hdN_i hc1)
      have hcm : m ∉ c ∧ m ∉ l1 := by
        have e9 := b6 m
        have e8 := frs.ct hF hC.f1 a5.2.2.2.1 a2 m
        have e7 : cnN m (L (f, 40 + wl r)) = 0 := cnN_z (fun w => by
          obtain ⟨w1, w2⟩ := hcv m w
          rcases hm1 with z | z
          · exact w1 z
          · omega)
        have e6 : cnN m l2 = 0 := cnN_z a4
        have i2 : ind t2 m = 1 := if_pos ⟨a2, a3⟩
        have i3 : ind t3 m ≤ 1 := by unfold ind; by_cases w : 1 ≤ m ∧ m ≤ t3; rw [if_pos w]; exact Nat.le_refl _; rw [if_neg w]; exact Nat.zero_le _
        exact ⟨fun w => by have := cnN_mem.mp w; omega, fun w => by have := cnN_mem.mp w; omega⟩
      rw [b1, a1]
      refine Rt.bd (wJ_n (show m < rlen 61 from (by show m < 430000; omega)) (by decide)) ?_
      show Rt (bnd (f_push R.K (Ul S7 61 (vp_updL (Zl S7 61) m (nL (hdN c) + (nL p <<< (Int32.toInt64 20 &&& 63)) + (nL (szN R S0 (D.I k).n1) <<< (Int32.toInt64 40 &&& 63))))) (nL m)) fun S16 v17 => some (S16, ())) _
      have wth := wth_b (a := hdN c) (b := p) (c := szN R S0 (D.I k).n1) (by omega) (by omega) (by have := hsz.2.2.2.1; have : szN R S0 (D.I k).n1 ≤ 16 := this; omega)
      generalize hW : nL (hdN c) + (nL p <<< (Int32.toInt64 20 &&& 63)) + (nL (szN R S0 (D.I k).n1) <<< (Int32.toInt64 40 &&& 63)) = ww at wth
      have e8 : NO (fun a => a = m) S7 (Ul S7 61 (vp_updL (Zl S7 61) m ww)) := NO.w1 rfl
      have z8 : Zl (Ul S7 61 (vp_updL (Zl S7 61) m ww)) 61 m = ww := by rw [Zl_us, upL_s]
      have y8 : Zr (Ul S7 61 (vp_updL (Zl S7 61) m ww)) = Zr S7 := rfl
      have i8 : Zi (Ul S7 61 (vp_updL (Zl S7 61) m ww)) = Zi S7 := rfl
      have f8 : FLs (Ul S7 61 (vp_updL (Zl S7 61) m ww)) fl3 t3 := b4.eq rfl rfl rfl
      generalize Ul S7 61 (vp_updL (Zl S7 61) m ww) = S8 at e8 z8 y8 i8 f8
      have x73' : Zi S8 73 = nI (bs f + wl r) := by rw [i8, b5.2.2.2.2.2.2.2.1 73 (by decide) (by decide), c4]
      refine Rt.bn (psh_ (p := bs f + wl r) x73' (by omega)) (fun S9 _ ⟨s1, s2, s3, s4⟩ => ?_)
      have go9 : GO (fun a => a ∈ fl ∨ t9 < a) (fun q => q ∈ rgN p (szN R S0 (D.I k).n1)) (fun _ => False) S1 S9 := (go7.tr (e8.go.mo (fun a w => by rw [w]; exact hm1) (fun _ w => w) (fun _ w => w))).tr s1.go
      have x72' : ∀ q : Nat, q < bs f + wl r → Zl S9 72 q = Zl S1 72 q := fun q hq => by
        rw [s4 q (by omega), e8.2.2.2.2.2.1 72 (by decide), b5.2.2.2.2.2.1 72 (by decide), c5, x72]
      have n9 : ∀ a : Nat, a ≠ m → Zl S9 61 a = Zl S7 61 a ∧ Zr S9 62 a = Zr S7 62 a ∧ Zr S9 63 a = Zr S7 63 a := fun a ha => by
        obtain ⟨w1, w2, w3⟩ := e8.2.2.2.2.2.2.2.2 a ha
        rw [s1.2.2.2.2.2.1 61 (by decide), s1.2.2.2.2.2.2.1]
        exact ⟨w1, w2, w3⟩
      have hw67 : ∀ q : Nat, Zr S9 67 q = Zr S4 67 q := fun q => by
        rw [s1.2.2.2.2.2.2.1, y8, b5.2.2.2.2.2.2.1 67 (by decide) (by decide), c3.2.2.2.2.2.2.1, a6.2.2.2.2.2.2.1 67 (by decide) (by decide)]
      refine Rt.rt ⟨hX1.go go9 (s1.wq (e8.wq (b5.wq (c3.wq (a6.wq (q1.wq hX1.2.1)))))) ?_, Or.inr ⟨(go9.2.1 3 (by decide)).trans e3, (go9.2.1 70 (by decide)).trans e70, NXt.fr ?_ er ?_⟩⟩
      · rw [s1.2.2.2.2.2.2.2 81 (by decide), i8, b5.2.2.2.2.2.2.2.1 81 (by decide) (by decide), c3.2.2.2.2.2.2.2 81 (by decide), a6.2.2.2.2.2.2.2.1 81 (by decide) (by decide), q1.2.2.2.2.2.2.2.1 81 (by decide) (by decide)]
        exact hX1.2.2.2.2
      · have hUn : (yT R S0).1 U ≠ 5 ∧ (yT R S0).1 U ≠ 6 ∧ (yT R S0).1 U ≠ 2 := by
          rw [hU4]; decide
        have z9 : Zl S9 61 m = ww := by rw [s1.2.2.2.2.2.1 61 (by decide)]; exact z8
        refine h1.vs (E := [(0, (D.I k).n1, 0)]) (P := [(0, U, 0)]) (r := r) (lv := m :: (c ++ l1)) (hv := rgN p (szN R S0 (D.I k).n1) ++ H (f, 40 + wl r)) (fl2 := fl3) (t2 := t3) hL (h1.e1 (kd_s hk (by decide))) hJ hN hC hs (fun e he => by rw [List.mem_singleton.mp he]) hgt.tl hw (kdM_k hk (by decide)) d0.2.2.1 (Or.inr ⟨U, qB U (V (f, 40 + wl r)), rfl, by omega, hUn.1, hUn.2.1, qFu_B hU4 (by rw [hUT]; exact v2), Or.inr ⟨hUn.2.2, k3, Or.inr (Or.inl ⟨hU4, m, p, c, l1, H (f, 40 + wl r), ⟨_, rfl⟩, s3, ⟨a2, by omega⟩, ?_, ?_, ?_, ?_, ?_, rfl, ?_, ?_⟩)⟩⟩) go9 (fun a w => w.imp id (fun z => Or.inl z)) (fun a => ?_) (fun q => ?_) (s1.sam.fl f8) x72' h1.2.2.2.1.1 ?_
        · show kdW (Zl S9 61 m) = _
          rw [z9]; exact wth.1
        · show vrW (Zl S9 61 m) = _
          rw [z9]; exact wth.2.1
        · show blW (Zl S9 61 m) = _
          rw [z9, hUT]; exact wth.2.2
        · rw [hUT]; exact hp4
        · exact b3.cg (fun a ha => (n9 a (fun w => hcm.1 (by rw [← w]; exact ha))).2.2)
        · rw [hUT]
        · rw [hUT, qS_B]
          exact b2.st (fun a ha => by
            obtain ⟨w1, w2, _⟩ := n9 a (fun w => hcm.1 (by rw [← w]; exact ha))
            exact ⟨w1, w2⟩) (fun a ha => n9 a (fun w => hcm.2 (by rw [← w]; exact ha)))
        · rw [(wl_01 (r := [])).1, psN_1u]
          have e9 := frs.ct hF hC.f1 a5.2.2.2.1 a2 a
          have e8 := b6 a
          show (if m = a then 1 else 0) + cnN a (c ++ l1) + cnN a fl3 + ind t9 a = cnN a (L (f, 40 + wl r)) + cnN a fl + ind t3 a
          rw [cnN_app]; omega
        · rw [(wl_01 (r := [])).1, psN_1u]
          show (cnN q (rgN p (szN R S0 (D.I k).n1) ++ H (f, 40 + wl r)) ≤ cnN q (H (f, 40 + wl r)) ∧ (Zr S9 67 q = Zr S1 67 q ∨ cnN q (rgN p (szN R S0 (D.I k).n1) ++ H (f, 40 + wl r)) < cnN q (H (f, 40 + wl r)))) ∨ _
          rw [cnN_app]
          by_cases hq : q ∈ rgN p (szN R S0 (D.I k).n1)
          · have hq0 := hp2 q (rgN_mem.mp hq).1 (rgN_mem.mp hq).2
            have hz : cnN q (H (f, 40 + wl r)) = 0 := by
              have g1 : cnN q (H (f, 40 + wl r)) ≤ sm2 (fun r => cnN q (H r)) := sm2_i1 (G := fun r => cnN q (H r)) hf6 (show 40 + wl r < 300 by omega)
              rcases Nat.eq_zero_or_pos (cnN q (H (f, 40 + wl r))) with w | w
              · exact w
              · exact absurd hq0 ((hC.2 q).2 (by omega)).2
            refine Or.inr ⟨hq0, ?_, ?_, ?_⟩
            · rw [hz]; exact rgN_nd
            · have := (rgN_mem.mp hq).2; omega
            · rw [hw67, q2 q hq]; decide
          · rw [cnN_z hq]
            exact Or.inl ⟨by omega, Or.inl ((hw67 q).trans (q1.2.2.2.2.2.2.2.2 q hq))⟩
        · rw [s2, show [(0, U, 0)] ++ r = (0, U, 0) :: r from rfl, wl_01.2]
          congr 1
      · rw [h1.2.2.2.1.2.2, h.2.2.2.1.2.2]
  refine Rt.bn key (fun S2 _ q => ?_)
  unfold f_step_590
  exact Rt.rt q
end PS80
end
