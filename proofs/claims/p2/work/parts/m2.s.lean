/-- a function's points with their stacks -/
def FnI (R : yR) (S0 S : Sg) (E : eV) (Ps Pe L : Nat) (x : List tE) (I : Nat → iR) (st : Nat → List tE) (W : Nat → Prop) : Prop := wkS x (st Ps) ∧ W Ps ∧ ∀ k : Nat, Ps ≤ k → k < Pe → rz R S0 S k (I k) ∧ (∀ l : Nat, (I k).ln = some l → l < L) ∧ (∀ j ∈ (I k).sc, Ps ≤ j ∧ j < Pe ∧ (W k → W j) ∧ bkO S k j) ∧ wl (st k) ≤ 177 ∧ tPt E k (W k) (I k) (st k) (fun j s => Ps ≤ j ∧ j < Pe ∧ wkS s (st j))
/-- a function's code: points, stacks, what is reached, what lacks a value, who is used, who holds which loan -/
def FnP (R : yR) (S0 : Sg) (E : eV) (i mn Ps Pe L0 L : Nat) (I : Nat → iR) (st : Nat → List tE) (W : Nat → Prop) (rc : Nat → Int32) (tv : Nat → Nat) (mv lv : Nat → Int64) (H : Nat → Nat → Int64) (ql : Nat → Nat) : Prop :=
  (wkS (mkV (ksV 0 mn)) (st Ps) ∧ W Ps ∧ ∀ k : Nat, Ps ≤ k → k < Pe → (∀ j ∈ (I k).sc, Ps ≤ j ∧ j < Pe ∧ (W k → W j) ∧ (k < j ∨ (I j).kd = 0)) ∧ wl (st k) ≤ 177 ∧ tPt E k (W k) (I k) (st k) (fun j s => Ps ≤ j ∧ j < Pe ∧ wkS s (st j)) ∧ (∀ l : Nat, (I k).ln = some l → L0 ≤ l ∧ l < L ∧ (I k).n3 ≤ 1) ∧ hBd (I k) ∧ mBd (I k)) ∧
  (rc Ps ≠ 0 ∧ ∀ k : Nat, Ps ≤ k → k < Pe → rc k ≠ 0 → ∀ j ∈ (I k).sc, rc j ≠ 0) ∧
  ((∀ (k v T : Nat) (ρ : lLc), Ps ≤ k → k < Pe → (I k).kd ≠ 24 → (I k).pa = some (v, ρ, T) → tv k = E.vt v) ∧ MvD R S0 I tv rc mv Ps Pe ∧ ∀ k : Nat, Ps ≤ k → k < Pe → rc k ≠ 0 → MvW R S0 (tv k) (I k) mv k) ∧
  LvD I lv Ps Pe ∧
  (∀ l : Nat, l < L → LnD I rc (H l) l Ps Pe ∧ ∀ k k2 v2 T2 : Nat, ∀ ρ2 : lLc, Ps ≤ k → k < Pe → rc k ≠ 0 → Ps ≤ k2 → k2 < Pe → (I k2).ln = some l → (I k2).pa = some (v2, ρ2, T2) → NaB (I k) lv (H l) k l ∨ ∀ (v T : Nat) (ρ : lLc), (I k).pa = some (v, ρ, T) → (I k).ac ≠ 0 → (I k).n2 = (I k2).n2 → lCmp ρ ρ2 → MtP (I k) (nI (I k2).n3) ρ T) ∧
  (L0 ≤ L ∧ L ≤ 160 ∧ (∀ l : Nat, l < L0 → ql l < mn ∧ isRf (E.vt (ql l)) ∧ rb (H l) (4 * Ps) (ql l) = true ∧ ∀ k : Nat, Ps ≤ k → k < Pe → rc k ≠ 0 → (I k).kd = 25 → ¬ rlS R S0 i < 0 → lfS R S0 i (ql l) ≠ rlS R S0 i → rb (H l) (4 * k) (I k).n1 = false) ∧ ∀ q : Nat, q < mn → isRf (E.vt q) → ∃ l : Nat, l < L0 ∧ ql l = q)
/-- a function is laid and looked through -/
def FnQ (R : yR) (S0 S : Sg) (P i : Nat) : Prop := ∃ (Λ : List Nat) (gv mn Ps Pe L0 L : Nat) (I : Nat → iR) (st : Nat → List tE) (W : Nat → Prop) (rc : Nat → Int32) (tv : Nat → Nat) (mv lv : Nat → Int64) (H : Nat → Nat → Int64) (ql : Nat → Nat),
  (FEn R S0 (eVf R S0 Λ gv) Λ gv ∧ mn ≤ 12 ∧ mn ≤ Λ.length ∧ (hdS R S0 i).1 = mn ∧ (∀ q : Nat, q < mn → (hdS R S0 i).2.1 q = (eVf R S0 Λ gv).vt q ∧ (eVf R S0 Λ gv).vt q ≠ 0) ∧ (hdS R S0 i).2.2 = abT S0 gv) ∧
  (Ps < Pe ∧ Pe < 24000 ∧ ∃ fs : List Value, ZF S (R.ws i) = .inr (16, fs) ∧ fs[4]? = some (.int (nI Pe)) ∧ fs[5]? = some (.int (nI Ps))) ∧
  (∀ k : Nat, Ps ≤ k → k < Pe → rzq R S0 S k (I k)) ∧ FnP R S0 (eVf R S0 Λ gv) i mn Ps Pe L0 L I st W rc tv mv lv H ql ∧ Pe ≤ P
section PS18
variable {R : yR} {S0 S S1 S2 S3 S4 S5 Sr : Sg} {E : eV} {i mn Ps Pe L0 L gv : Nat} {x : List tE} {Λ : List Nat} {I : Nat → iR} {st : Nat → List tE} {W : Nat → Prop} {g : Nat → Int32}
theorem tsgR.ch (h : tsgR R S0 S E L Ps Pe x) : ∃ (I : Nat → iR) (st : Nat → List tE) (W : Nat → Prop), FnI R S0 S E Ps Pe L x I st W := by
  obtain ⟨st, W, h1, h2, h3, h4⟩ := h
  have : ∀ k : Nat, ∃ i : iR, Ps ≤ k → k < Pe → rz R S0 S k i ∧ (∀ l : Nat, i.ln = some l → l < L) ∧ (∀ j ∈ i.sc, Ps ≤ j ∧ j < Pe ∧ (W k → W j) ∧ bkO S k j) ∧ wl (st k) ≤ 177 ∧ tPt E k (W k) i (st k) (fun j s => Ps ≤ j ∧ j < Pe ∧ wkS s (st j)) := fun k => by
    by_cases q : Ps ≤ k ∧ k < Pe
    · obtain ⟨i, hi⟩ := h4 k q.1 q.2
      exact ⟨i, fun _ _ => hi⟩
    · exact ⟨(0, 0, none, (none, none), ([], []), [], (0, 0, 0), []), fun a b => absurd ⟨a, b⟩ q⟩
  obtain ⟨I, hI⟩ := Classical.skolem.mp this
  exact ⟨I, st, W, h1, h2, hI⟩
theorem FnI.hb (h : FnI R S0 S E Ps Pe L x I st W) (hL : L ≤ 160) : ∀ k : Nat, Ps ≤ k → k < Pe → hBd (I k) ∧ mBd (I k) ∧ ((I k).kd = 25 → (I k).n1 < 256) ∧ (I k).sc.length ≤ 12 := fun k a b => by
  obtain ⟨q1, q2, q3, q4, q5⟩ := h.2.2 k a b
  obtain ⟨r1, r2, r3, r4⟩ := q5.hb q4 q2 hL
  exact ⟨r1, r2, r3, q1.sl r4⟩
theorem FnI.pc {ws : Nat} (h : FnI R S0 S E Ps Pe L x I st W) (hL : L ≤ 160) (h1 : Ps < Pe) (h2 : Pe < 24000) (h3 : ws ∈ ZL S ∧ ∃ fs : List Value, ZF S ws = .inr (16, fs) ∧ fs[4]? = some (.int (nI Pe)) ∧ fs[5]? = some (.int (nI Ps))) : PCx R S0 S ws Ps Pe I := ⟨h1, h2, h3, fun k a b => by
  obtain ⟨q1, q2, q3, q4, q5⟩ := h.2.2 k a b
  obtain ⟨r1, r2, r3, r4⟩ := h.hb hL k a b
  exact ⟨q1, fun j hj => ⟨(q3 j hj).1, (q3 j hj).2.1⟩, r4, r1⟩⟩
/-- the certificate, of what the passes tell -/
theorem fnp_ {f : Nat → Int64} (hF : FEn R S0 (eVf R S0 Λ gv) Λ gv) (hx0 : LX S0 S) (hI : FnI R S0 S (eVf R S0 Λ gv) Ps Pe L (mkV (ksV 0 mn)) I st W) (hmn : mn ≤ 12) (hO : OUl R S0 S (eVf R S0 Λ gv) i mn L0) (h01 : L0 ≤ L) (hL : L ≤ 160) (h24 : Pe < 24000)
  (e3 : PSx S S3) (hr1 : Zr S3 52 Ps = 1) (hr2 : ∀ j : Nat, Ps ≤ j → j < Pe → Zr S3 52 j = 0 ∨ Zr S3 52 j = 1) (hr3 : ∀ k : Nat, Ps ≤ k → k < Pe → Zr S3 52 k = 1 → ∀ j ∈ (I k).sc, Zr S3 52 j = 1)
  (hm1 : MvD R S0 I (tvS S0 S3 I) (Zr S3 52) f Ps Pe) (hm2 : ∀ k : Nat, Ps ≤ k → k < Pe → Zr S3 52 k ≠ 0 → MvW R S0 (tvS S0 S3 I k) (I k) f k)
  (e4 : PSx S3 S4) (e4r : Zr S4 = Zr S3) (hl : ∃ lv : Nat → Int64, LvD I lv Ps Pe ∧ ∀ l : Nat, l < L → ∃ f : Nat → Int64, LnK R S0 S4 I lv f (rlS R S0 i) l Ps Pe) : ∃ (rc : Nat → Int32) (tv : Nat → Nat) (mv lv : Nat → Int64) (H : Nat → Nat → Int64) (ql : Nat → Nat), FnP R S0 (eVf R S0 Λ gv) i mn Ps Pe L0 L I st W rc tv mv lv H ql := by
  obtain ⟨lv, hlv, hln⟩ := hl
  have e34 := e3.tr e4
  have hH : ∀ l : Nat, ∃ f : Nat → Int64, l < L → LnK R S0 S4 I lv f (rlS R S0 i) l Ps Pe := fun l => by
    by_cases q : l < L
    · obtain ⟨f, hf⟩ := hln l q
      exact ⟨f, fun _ => hf⟩
    · exact ⟨fun _ => 0, fun a => absurd a q⟩
  obtain ⟨H, hH⟩ := Classical.skolem.mp hH
  have hQ : ∀ l : Nat, ∃ q : Nat, l < L0 → q < mn ∧ Zq S 43 l = none ∧ Zr S 44 l = 1 ∧ Zr S 45 l = nI q ∧ Zr S 46 l = lfS R S0 i q ∧ isRf ((eVf R S0 Λ gv).vt q) := fun l => by
    by_cases q : l < L0
    · obtain ⟨q, hq⟩ := hO.1 l q
      exact ⟨q, fun _ => hq⟩
    · exact ⟨0, fun a => absurd a q⟩
  obtain ⟨ql, hQ⟩ := Classical.skolem.mp hQ
  have z45 : ∀ l : Nat, Zr S4 45 l = Zr S 45 l := fun l => by rw [e34.2.2.2.2.2.1 45 (by decide)]
  have z46 : ∀ l : Nat, Zr S4 46 l = Zr S 46 l := fun l => by rw [e34.2.2.2.2.2.1 46 (by decide)]
  refine ⟨Zr S3 52, tvS S0 S3 I, f, lv, H, ql, ⟨hI.1, hI.2.1, fun k a b => ?_⟩, ⟨by rw [hr1]; decide, fun k a b c j hj => ?_⟩, ⟨fun k v T ρ a b c d => ?_, hm1, hm2⟩, hlv, fun l hl => ⟨?_, ?_⟩, h01, hL, fun l hl => ?_, fun q hq hrf => ?_⟩
  · obtain ⟨q1, q2, q3, q4, q5⟩ := hI.2.2 k a b
    obtain ⟨r1, r2, r3, r4⟩ := hI.hb hL k a b
    refine ⟨fun j hj => ⟨(q3 j hj).1, (q3 j hj).2.1, (q3 j hj).2.2.1, (q3 j hj).2.2.2.imp id (fun w => ?_)⟩, q4, q5, fun l e => ⟨?_, q2 l e, (by obtain ⟨_, _, _, _, _, _, _, _, _, _, q11, _⟩ := q1; exact (q11 l e).2.2.1)⟩, r1, r2⟩
    · have hz := (hI.2.2 j (q3 j hj).1 (q3 j hj).2.1).1
      have := hz.2.1
      exact nI_e (b := 0) (by omega) (by decide) (hz.1.symm.trans w)
    rcases Nat.lt_or_ge l L0 with w | w
    · obtain ⟨_, _, _, _, _, _, _, _, _, _, q11, _⟩ := q1
      obtain ⟨u1, _, _, u4, _⟩ := hQ l w
      have := (q11 l e).2.2.2
      rw [u4] at this
      exact absurd (show nI (ql l) < 0 by rw [this]; decide) (nI_nn (by omega))
    · exact w
  · have h1 : Zr S3 52 k = 1 := (hr2 k a b).resolve_left c
    rw [hr3 k a b h1 j hj]; decide
  · obtain ⟨q1, q2, q3, q4, q5⟩ := hI.2.2 k a b
    exact (tv_ hF (hx0.tr e3.lx) q5 c d).1
  · rw [← e4r]; exact (hH l hl).1
  · intro k k2 v2 T2 ρ2 a b c a2 b2 hl2 hp2
    have hk := (hH l hl).2.2 k a b (by rw [e4r]; exact c)
    refine hk.1.imp id (fun q v T ρ w1 w2 w3 w4 => ?_)
    have hz := ((hI.2.2 k2 a2 b2).1).ps e34
    obtain ⟨_, _, _, _, _, _, _, _, _, q10, q11, _⟩ := hz
    obtain ⟨u1, u2, _, _⟩ := q11 l hl2
    rcases q10 with ⟨_, z⟩ | ⟨wp, v', T', ρ', z1, z2, z3, z4⟩
    · rw [z] at hp2; cases hp2
    · rw [hp2] at z2; cases z2
      rw [← u2]
      exact q v T wp v2 T2 ρ ρ2 w1 w2 (u1.trans z1) z3 (by rw [w3]; exact z4) w4
  · obtain ⟨u1, u2, u3, u4, u5, u6⟩ := hQ l hl
    obtain ⟨k1, k2, k3⟩ := hH l (by omega)
    refine ⟨u1, u6, k2 (ql l) (by omega) (by rw [z45]; exact u4), fun k a b c k25 hr hne => ?_⟩
    exact (k3 k a b (by rw [e4r]; exact c)).2 k25 ⟨ql l, by rw [z45]; exact u4, by omega⟩ hr (by rw [z46, u5]; exact hne)
  · obtain ⟨l, l1, l2⟩ := hO.2 q hq hrf
    obtain ⟨u1, u2, u3, u4, u5, u6⟩ := hQ l l1
    exact ⟨l, l1, nI_e (by omega) (by omega) (u4.symm.trans l2)⟩
end PS18
