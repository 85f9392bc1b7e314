section TYA
variable {R : yR} {c nv : Nat} {S : Sg} {g : Nat → Int32}
/-- items' fields below 19, rows and variants' parts are as they were -/
def IV (R : yR) (S S2 : Sg) : Prop := (∀ (a : Nat) (fs : List Value), a < R.im → ZF S (R.ws a) = .inr (16, fs) → ∃ f2 : List Value, ZF S2 (R.ws a) = .inr (16, f2) ∧ ∀ l : Nat, l < 19 → f2[l]? = fs[l]?) ∧ ∀ a : Nat, nXo R a → (∀ (k : ClassId) (n : Nat) (f : vRw), ZF S a = .inl (k, n, f) → ZF S2 a = .inl (k, n, f)) ∧ ∀ ys : List Value, ZF S a = .inr (17, ys) → ZF S2 a = .inr (17, ys)
theorem IV.tr {S1 S2 : Sg} (h : IV R S S1) (q : IV R S1 S2) : IV R S S2 := ⟨fun a fs ha e => by
  obtain ⟨f1, h1, h2⟩ := h.1 a fs ha e
  obtain ⟨f2, q1, q2⟩ := q.1 a f1 ha h1
  exact ⟨f2, q1, fun l hl => (q2 l hl).trans (h2 l hl)⟩, fun a ha => ⟨fun k n f e => (q.2 a ha).1 k n f ((h.2 a ha).1 k n f e), fun ys e => (q.2 a ha).2 ys ((h.2 a ha).2 ys e)⟩⟩
theorem WI.iv {S1 : Sg} (h : WI R S S1) : IV R S S1 := by
  refine ⟨fun a fs ha e => ?_, fun a _ => ⟨fun k n f e => ?_, fun ys e => ?_⟩⟩
  · rcases h.1 (R.ws a) with w | ⟨j, g0, g1, _, _, w1, w2, w3⟩
    · exact ⟨fs, w.trans e, fun _ _ => rfl⟩
    · have ee : g0 = fs := (Prod.mk.inj (Sum.inr.inj (w1.symm.trans e))).2
      subst ee
      exact ⟨g1, w2, w3⟩
  · rcases h.1 a with w | ⟨_, gs, g1, _, _, w, _⟩
    · rw [w]; exact e
    · rw [e] at w; cases w
  · rcases h.1 a with w | ⟨_, gs, g1, _, _, w, _⟩
    · rw [w]; exact e
    · rw [e] at w; cases w
theorem NX0.iv {S2 : Sg} (hA : ITA R S) (h : NX0 R S S2) : IV R S S2 := ⟨fun a fs ha e => ⟨fs, (h.1 _ (hA a ha).1).trans e, fun _ _ => rfl⟩, fun a ha => ⟨fun k n f e => (h.1 a ha).trans e, fun ys e => (h.1 a ha).trans e⟩⟩
theorem EqS.iv {S1 S2 : Sg} {a s : Nat} (hA : ITA R S) (ha : a < R.im) (h : IV R S S2) (hv : ∀ x : Nat, vTy S x → vTy S2 x) (q : EqS R S S1 a s) : EqS R S2 S1 a s := by
  obtain ⟨fs, mn, q1, q2, q3, q4, q5⟩ := q
  obtain ⟨f2, h1, h2⟩ := h.1 a fs ha q1
  obtain ⟨_, _, fs8, mn8, na, g8, k3, k4, k5, k6, k7, k8, k9, k10, k11⟩ := hA a ha
  have e5 : fs = fs8 := (Prod.mk.inj (Sum.inr.inj (q1.symm.trans k3))).2
  subst e5
  refine ⟨f2, mn, h1, (h2 3 (by decide)).trans q2, q3, q4, ?_⟩
  rcases q5 with ⟨y0, ta, f, w, y1, y2, y3⟩ | ⟨y0, vr, fv, y1, y2, y3⟩
  · rcases k11 with ⟨_, ta2, f2, j2, j3⟩ | ⟨j1, _⟩ | ⟨j1, _⟩
    · have et : ta = ta2 := Value.ref.inj (Option.some.inj (y1.symm.trans j2))
      subst et
      exact Or.inl ⟨y0, ta, f, w, (h2 10 (by decide)).trans y1, (h.2 ta j3.1).1 _ _ _ y2, y3⟩
    · rw [y0] at j1; exact absurd j1 (by decide)
    · rw [y0] at j1; exact absurd j1 (by decide)
  · rcases k11 with ⟨j1, _⟩ | ⟨_, vr2, fv2, j2, j3, j4, j5⟩ | ⟨j1, _⟩
    · rw [y0] at j1; exact absurd j1 (by decide)
    · have et : vr = vr2 := Value.ref.inj (Option.some.inj (y1.symm.trans j2))
      subst et
      refine Or.inr ⟨y0, vr, fv, (h2 11 (by decide)).trans y1, (h.2 vr j3).1 _ _ _ y2, fun k hk => ?_⟩
      obtain ⟨pa, mk, f, w, i1, i2, i3⟩ := y3 k hk
      refine ⟨pa, mk, f, w, i1, ⟨i2.1, ?_⟩, i3⟩
      rcases i2.2 with ⟨u1, u2⟩ | ⟨wa, ta, u1, u2, u3⟩
      · exact Or.inl ⟨(h.2 pa i2.1).2 _ u1, u2⟩
      · exact Or.inr ⟨wa, ta, (h.2 pa i2.1).2 _ u1, u2, u3.1, (h.2 ta u3.1).1 _ _ _ u3.2.1, fun k hk => by obtain ⟨x, x1, x2⟩ := u3.2.2 k hk; exact ⟨x, x1, hv x x2⟩⟩
    · rw [y0] at j1; exact absurd j1 (by decide)
theorem EqL.iv {S1 S2 : Sg} {a n : Nat} (hA : ITA R S) (ha : a < R.im) (hk : R.ik a = 10) (h : IV R S S2) (q : EqL R g S S1 a n) : EqL R g S2 S1 a n := by
  obtain ⟨fs, mn, ta, f, w, q1, q2, q3, q4, q5, q6⟩ := q
  obtain ⟨f2, h1, h2⟩ := h.1 a fs ha q1
  obtain ⟨_, _, fs8, mn8, na, g8, k3, k4, k5, k6, k7, k8, k9, k10, k11⟩ := hA a ha
  have e5 : fs = fs8 := (Prod.mk.inj (Sum.inr.inj (q1.symm.trans k3))).2
  subst e5
  rcases k11 with ⟨_, ta2, f2, j2, j3⟩ | ⟨j1, _⟩ | ⟨j1, _⟩
  · have et : ta = ta2 := Value.ref.inj (Option.some.inj (q4.symm.trans j2))
    subst et
    exact ⟨_, mn, ta, f, w, h1, (h2 3 (by decide)).trans q2, q3, (h2 10 (by decide)).trans q4, (h.2 ta j3.1).1 _ _ _ q5, q6⟩
  · rw [hk] at j1; exact absurd j1 (by decide)
  · rw [hk] at j1; exact absurd j1 (by decide)
/-- the items' sizes and leaves -/
def SLF (R : yR) (S : Sg) (g : Nat → Int32) : Prop := (∀ a : Nat, a < R.im → R.ik a ≠ 12 → ∃ s : Nat, s ≤ 16 ∧ iSz R S a s ∧ EqS R S S a s) ∧ ∀ a : Nat, a < R.im → R.ik a = 10 → ∃ n : Nat, iLv R S a n ∧ EqL R g S S a n
theorem NX0.sm {S2 : Sg} (hA : ITA R S) (h : NX0 R S S2) : SM R S S2 := ⟨fun j s hj ⟨fs, q1, q2⟩ => ⟨fs, (h.1 _ (hA j hj).1).trans q1, q2⟩, h.2⟩
theorem NX0.lm {S2 : Sg} (hA : ITA R S) (h : NX0 R S S2) {m : Nat} : LM R g m S S2 := ⟨fun j n hj _ q => iLv_cell (h.1 _ (hA j hj).1) q, h.sm hA⟩
theorem vTyn.mo {S2 : Sg} (h : ∀ (x : Nat) (kd ix : Int32) (o : Option Nat), isTy S x kd ix o → isTy S2 x kd ix o) : ∀ {n x : Nat}, vTyn S n x → vTyn S2 n x
  | 0, _, q => q
  | n + 1, x, q => by
    obtain ⟨kd, ix, o, q1, q2⟩ := q
    exact ⟨kd, ix, o, h _ _ _ _ q1, q2.imp id (fun ⟨a, u, b1, b2⟩ => ⟨a, u, b1, vTyn.mo h b2⟩)⟩
theorem SLF.nx {S2 : Sg} (hA : ITA R S) (h : NX0 R S S2) (q : SLF R S g) : SLF R S2 g := ⟨fun a ha hk => by
  obtain ⟨s, q1, q2, q3⟩ := q.1 a ha hk
  exact ⟨s, q1, (h.sm hA).1 a s ha q2, (q3.mo (h.sm hA)).iv hA ha (h.iv hA) (fun x ⟨n, z⟩ => ⟨n, vTyn.mo h.2 z⟩)⟩, fun a ha hk => by
  obtain ⟨n, q1, q2⟩ := q.2 a ha hk
  exact ⟨n, iLv_cell (h.1 _ (hA a ha).1) q1, (q2.mo (h.lm hA)).iv hA ha hk (h.iv hA)⟩⟩
/-- what the typing gives at last -/
def TYF (R : yR) (nv : Nat) (S2 : Sg) : Prop := ∃ c2 nv2 : Nat, c2 ≤ R.ps R.im ∧ nv2 ≤ nv + 40 * R.im ∧ TS R c2 nv2 S2 ∧ (Zi S2 3 = 0 → ITA R S2 ∧ ROW R S2 ∧ (∀ i : Nat, i < R.im → R.ik i = 12 → FnT R S2 i) ∧ MN R S2 ∧ ∃ g : Nat → Int32, SLF R S2 g)
theorem MN.nx {S2 : Sg} (hA : ITA R S) (h : NX R S S2) (q : MN R S) : MN R S2 := by
  obtain ⟨i, fs, gv, q1, q2, q3, q4, q5, q6, q7⟩ := q
  exact ⟨i, fs, gv, q1, h.2.1.trans q2, q3, (h.1.1 _ (hA i q1).1).trans q4, q5, q6, h.1.2 _ _ _ _ q7⟩
theorem ta75 (hK : yRm R) (hD : RDI R) (hnv : nv + 40 * R.im ≤ 10000) (hp : R.ps R.im ≤ 1990) (h : TS R (hdT R R.im) nv S) (hU : Zi S 3 = 0 → Unt R S 0 (R.ps R.im)) (hg : Zi S 3 = 0 → ITA R S ∧ ROW R S ∧ MN R S ∧ ∃ g : Nat → Int32, SLF R S g) : Rt (f_typeAll_75 R.K S) (fun S2 _ => TYF R nv S2) := by
  have hD0 := hD.1
  unfold f_typeAll_75
  refine (ta77 hK hD hnv hp (S9 := S) bigN 0 (by unfold bigN; omega) (Nat.zero_le _) ⟨nv, by omega, h.up (Nat.le_add_right _ _), fun z => ⟨(hg z).1, (hg z).2.1, fun i hi => absurd hi (by omega), fun a ha w => hU z a ha (Xo_mo w (Nat.zero_le _) (Nat.le_refl _)), NX.rf⟩⟩).mo (fun S2 _ q => ?_)
  obtain ⟨c2, nv2, q1, q2, q3, q4⟩ := q
  refine ⟨c2, nv2, q1, q2, q3, fun z => ?_⟩
  obtain ⟨r1, r2, r3, r4⟩ := q4 z
  obtain ⟨hA, hR, hm, g, hs⟩ := hg (r4.2.2 z)
  exact ⟨r1, r2, r3, hm.nx hA r4, g, hs.nx hA r4.1⟩
theorem ta64 (hK : yRm R) (hD : RDI R) (hT9 : Zi R.S 9 = nI R.T) (hnv : nv + 40 * R.im ≤ 10000) (hp : R.ps R.im ≤ 1990) (h : TS R (hdT R R.im) nv S) (hU : Zi S 3 = 0 → Unt R S 0 (R.ps R.im)) (hg : Zi S 3 = 0 → ITA R S ∧ ROW R S ∧ ∃ g : Nat → Int32, SLF R S g) : Rt (f_typeAll_64 R.K S) (fun S2 _ => TYF R nv S2) := by
  have hs := hbT hD R.im (Nat.le_refl _)
  unfold f_typeAll_64
  refine Rt.ok (fun z => ?_) (fun z => ta75 hK hD hnv hp h hU (fun w => absurd w z))
  obtain ⟨hA, hR, g, hS⟩ := hg z
  refine Rt.bn (fmn_ hD (by omega) hT9 h z hA) (fun S2 _ q => ?_)
  obtain ⟨⟨q1, q2, _⟩, q3⟩ := q
  have hx : NX0 R S S2 := ⟨fun a ha => q2.1 a ha.1 (fun w => w), q2.2.2.1⟩
  refine ta75 hK hD hnv hp q1 (fun _ a ha w => (q2.1 a ha (fun w => w)).trans (hU z a ha w)) (fun w => ?_)
  obtain ⟨r1, r2⟩ := q3 w
  exact ⟨r1, fun a n k f h1 h2 h3 h4 h5 => (q2.1 a h1 (fun w => w)).trans (hR a n k f h1 h2 h3 h4 h5), r2, g, hS.nx hA hx⟩
/-- what sizes and leaves leave of the exps' cells -/
theorem WI.unt {S1 : Sg} (hA : ITA R S) (h : WI R S S1) {p q : Nat} (hU : Unt R S p q) : Unt R S1 p q := fun a ha w => by
  rcases h.1 a with e | ⟨i, gs, g1, hi, e, _⟩
  · exact e.trans (hU a ha w)
  · subst e; exact absurd w ((hA i hi).1.2 _ _)
theorem ta53 (hK : yRm R) (hD : RDI R) (hT9 : Zi R.S 9 = nI R.T) (hnv : nv + 40 * R.im ≤ 10000) (hp : R.ps R.im ≤ 1990) {S1 : Sg} (h1 : TS R (hdT R R.im) nv S1) (hg : Zi S1 3 = 0 → ITA R S ∧ Unt R S 0 (R.ps R.im) ∧ wC R.im R.im g ∧ (∀ a b : Nat, a < R.im → b < R.im → eD R S g a b) ∧ SI R (fun v => v = 0) (hdT R R.im) nv S g S1 ∧ SZD R g R.im S1) : Rt (f_typeAll_53 R.K S1) (fun S2 _ => TYF R nv S2) := by
  have hs := hbT hD R.im (Nat.le_refl _)
  have hD0 := hD.1
  unfold f_typeAll_53
  refine Rt.ok (fun z => ?_) (fun z => ta64 hK hD hT9 hnv hp h1 (fun w => absurd w z) (fun w => absurd w z))
  obtain ⟨hA, hU, hW, hE, ⟨hI, hI2⟩, hZ⟩ := hg z
  have hl : LVP R (hdT R R.im) nv S g 0 S1 := ⟨⟨hI.1, hI.2.1, hI.2.2.1, hI.2.2.2.1, hI.2.2.2.2.1, fun a ha => by obtain ⟨fs, v, k1, k2, _⟩ := hI.2.2.2.2.2 a ha; exact ⟨fs, v, k1, k2, trivial⟩⟩, z, fun a ha hk => by
    obtain ⟨s, s1, s2⟩ := (hZ a ha hk).2
    obtain ⟨fs, s9, v, k1, k2, k3, _, _, _, k4⟩ := hI2 a ha
    have s2' := s2
    obtain ⟨fs2, j1, j2, j3, j4⟩ := s2'
    have e1 : fs = fs2 := (Prod.mk.inj (Sum.inr.inj (k1.symm.trans j1))).2
    subst e1
    have e2 : s9 = s := nI_ij (Value.int.inj (Option.some.inj (k2.symm.trans j2))) (by omega) (by omega)
    subst e2
    exact ⟨s9, s1, s2, k4 (by omega)⟩⟩
  unfold f_leaves
  refine Rt.bn (lvs6 hD (by omega) hW hE (fun a ha hk => (hZ a ha hk).1) bigN 0 (by unfold bigN; omega) (Nat.zero_le _) hl (fun a ha hk _ => by
    obtain ⟨fs, v, k1, k2, k3⟩ := hI.2.2.2.2.2 a ha
    exact ⟨fs, v, k1, k2, Or.inl k3⟩) (fun a ha => absurd ha (by omega))) (fun S2 _ q => ?_)
  obtain ⟨⟨q1, q2, q3⟩, q4⟩ := q
  have hiv := q1.2.2.2.1.iv
  refine ta64 hK hD hT9 hnv hp q1.1 (fun _ => q1.2.2.2.1.unt hA hU) (fun _ => ⟨q1.2.1, q1.2.2.1, g, fun a ha hk => ?_, fun a ha hk => ?_⟩)
  · obtain ⟨s, r1, r2, r3⟩ := q3 a ha hk
    exact ⟨s, r1, r2, r3.iv hA ha hiv (fun x ⟨n, w⟩ => ⟨n, vTyn.mo (fun x kd ix o u => q1.2.2.2.1.ty2 u) w⟩)⟩
  · obtain ⟨n, r1, r2⟩ := q4 a ha hk
    exact ⟨n, r1, r2.iv hA ha hk hiv⟩
/-- typeAll -/
theorem tya_ (hK : yRm R) (hD : RDI R) (hT9 : Zi R.S 9 = nI R.T) (hnv : nv + 40 * R.im ≤ 10000) (hp : R.ps R.im ≤ 1990) (h : TS R 0 nv S) (hR : ROW R S) (hF : F20 R (fun v => v = 0) S) (hU : Unt R S 0 (R.ps R.im)) : Rt (bnd (f_itemNames R.K S) fun S2 _ => f_typeAll_11 R.K bigN S2 0) (fun S2 _ => TYF R nv S2) := by
  have hs := hbT hD R.im (Nat.le_refl _)
  have hD0 := hD.1
  refine Rt.bn (inn_ hD h) (fun S1 _ q1 => ?_)
  have hv : ∀ a ∈ ZL R.S, ZF S1 a = ZF S a := fun a ha => q1.2.1.2.1 a ha (fun w => w)
  refine ta11 hK hD (by omega) hp (fun S2 t2 w2 f2 u2 g2 => ?_) bigN 0 (by unfold bigN; omega) (Nat.zero_le _) ⟨q1.1, fun a n k f h1 h2 h3 h4 h5 => (hv a h1).trans (hR a n k f h1 h2 h3 h4 h5), ⟨fun a ha => ?_, fun a ha w => (hv a ha).trans (hU a ha w)⟩, fun _ i hi => absurd hi (by omega)⟩
  · unfold f_typeAll_42
    refine Rt.ok (fun z => ?_) (fun z => ta53 (g := fun _ => 0) (S := S2) hK hD hT9 hnv hp t2 (fun w => absurd w z))
    refine Rt.bn (szs_ hD (by omega) t2 (g2 z) w2 f2) (fun S3 _ q3 => ?_)
    obtain ⟨g, k1, k2, k3, k4⟩ := q3
    exact ta53 hK hD hT9 hnv hp k3.1.1 (fun w => ⟨g2 z, u2, k1, k2, k3, k4 w⟩)
  · obtain ⟨fs, v, k1, k2, k3⟩ := hF a ha
    obtain ⟨_, ⟨z1, _⟩, _, _, z5⟩ := hD.2.2.2.2 a ha
    exact ⟨fs, v, (hv _ (z5 _ z1)).trans k1, k2, k3⟩
end TYA
