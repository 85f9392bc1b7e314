-- k8.a.lean.txt
section
section TYA
variable {R : yR} {c nv : Nat} {S : Sg} {g : Nat → Int32}
/-- items' fields below 19, rows and variants' parts are as they were -/
def IV (R : yR) (S S2 : Sg) : Prop := (∀ (a : Nat) (fs : List Value), a < R.im → ZF S (R.ws a) = .inr (16, fs) → ∃ f2 : List Value, ZF S2 (R.ws a) = .inr (16, f2) ∧ ∀ l : Nat, l < 19 → f2[l]? = fs[l]?) ∧ ∀ a : Nat, nXo R a → (∀ (k : ClassId) (n : Nat) (f : vRw), ZF S a = .inl (k, n, f) → ZF S2 a = .inl (k, n, f)) ∧ ∀ ys : List Value, ZF S a = .inr (17, ys) → ZF S2 a = .inr (17, ys)
theorem IV.tr {S1 S2 : Sg} (h : IV R S S1) (q : IV R S1 S2) : IV R S S2 := ⟨fun a fs ha e => by
  obtain ⟨f1, h1, h2⟩ := h.1 a fs ha e
  obtain ⟨f2, q1, q2⟩ := q.1 a f1 ha h1
  exact ⟨f2, q1, fun l hl => (q2 l hl).trans (h2 l hl)⟩, fun a ha => ⟨fun k n f e => (q.2 a ha).1 k n f ((h.2 a ha).1 k n f e), fun ys e => (q.2 a ha).2 ys ((h.2 a ha).2 ys e)⟩⟩
theorem WI.iv {S1 : Sg} (h : WI R S S1) : IV R S S1 := by
  refine ⟨fun a fs ha e => ?_, fun a _ => ⟨fun k n f e => ?_, fun ys e => ?_⟩⟩
  · rcases h.1 (R.ws a) with w | ⟨j, g0, g1, _, _, w1, w2, w3⟩
    · exact ⟨fs, w.trans e, fun _ _ => rfl⟩
    · have ee : g0 = fs := (Prod.mk.inj (Sum.inr.inj (w1.symm.trans e))).2
      subst ee
      exact ⟨g1, w2, w3⟩
  · rcases h.1 a with w | ⟨_, gs, g1, _, _, w, _⟩
    · rw [w]; exact e
    · rw [e] at w; cases w
  · rcases h.1 a with w | ⟨_, gs, g1, _, _, w, _⟩
    · rw [w]; exact e
    · rw [e] at w; cases w
theorem NX0.iv {S2 : Sg} (hA : ITA R S) (h : NX0 R S S2) : IV R S S2 := ⟨fun a fs ha e => ⟨fs, (h.1 _ (hA a ha).1).trans e, fun _ _ => rfl⟩, fun a ha => ⟨fun k n f e => (h.1 a ha).trans e, fun ys e => (h.1 a ha).trans e⟩⟩
theorem EqS.iv {S1 S2 : Sg} {a s : Nat} (hA : ITA R S) (ha : a < R.im) (h : IV R S S2) (hv : ∀ x : Nat, vTy S x → vTy S2 x) (q : EqS R S S1 a s) : EqS R S2 S1 a s := by
  obtain ⟨fs, mn, q1, q2, q3, q4, q5⟩ := q
  obtain ⟨f2, h1, h2⟩ := h.1 a fs ha q1
  obtain ⟨_, _, fs8, mn8, na, g8, k3, k4, k5, k6, k7, k8, k9, k10, k11⟩ := hA a ha
  have e5 : fs = fs8 := (Prod.mk.inj (Sum.inr.inj (q1.symm.trans k3))).2
  subst e5
  refine ⟨f2, mn, h1, (h2 3 (by decide)).trans q2, q3, q4, ?_⟩
  rcases q5 with ⟨y0, ta, f, w, y1, y2, y3⟩ | ⟨y0, vr, fv, y1, y2, y3⟩
  · rcases k11 with ⟨_, ta2, f2, j2, j3⟩ | ⟨j1, _⟩ | ⟨j1, _⟩
    · have et : ta = ta2 := Value.ref.inj (Option.some.inj (y1.symm.trans j2))
      subst et
      exact Or.inl ⟨y0, ta, f, w, (h2 10 (by decide)).trans y1, (h.2 ta j3.1).1 _ _ _ y2, y3⟩
    · rw [y0] at j1; exact absurd j1 (by decide)
    · rw [y0] at j1; exact absurd j1 (by decide)
  · rcases k11 with ⟨j1, _⟩ | ⟨_, vr2, fv2, j2, j3, j4, j5⟩ | ⟨j1, _⟩
    · rw [y0] at j1; exact absurd j1 (by decide)
    · have et : vr = vr2 := Value.ref.inj (Option.some.inj (y1.symm.trans j2))
      subst et
      refine Or.inr ⟨y0, vr, fv, (h2 11 (by decide)).trans y1, (h.2 vr j3).1 _ _ _ y2, fun k hk => ?_⟩
      obtain ⟨pa, mk, f, w, i1, i2, i3⟩ := y3 k hk
      refine ⟨pa, mk, f, w, i1, ⟨i2.1, ?_⟩, i3⟩
      rcases i2.2 with ⟨u1, u2⟩ | ⟨wa, ta, u1, u2, u3⟩
      · exact Or.inl ⟨(h.2 pa i2.1).2 _ u1, u2⟩
      · exact Or.inr ⟨wa, ta, (h.2 pa i2.1).2 _ u1, u2, u3.1, (h.2 ta u3.1).1 _ _ _ u3.2.1, fun k hk => by obtain ⟨x, x1, x2⟩ := u3.2.2 k hk; exact ⟨x, x1, hv x x2⟩⟩
    · rw [y0] at j1; exact absurd j1 (by decide)
theorem EqL.iv {S1 S2 : Sg} {a n : Nat} (hA : ITA R S) (ha : a < R.im) (hk : R.ik a = 10) (h : IV R S S2) (q : EqL R g S S1 a n) : EqL R g S2 S1 a n := by
  obtain ⟨fs, mn, ta, f, w, q1, q2, q3, q4, q5, q6⟩ := q
  obtain ⟨f2, h1, h2⟩ := h.1 a fs ha q1
  obtain ⟨_, _, fs8, mn8, na, g8, k3, k4, k5, k6, k7, k8, k9, k10, k11⟩ := hA a ha
  have e5 : fs = fs8 := (Prod.mk.inj (Sum.inr.inj (q1.symm.trans k3))).2
  subst e5
  rcases k11 with ⟨_, ta2, f2, j2, j3⟩ | ⟨j1, _⟩ | ⟨j1, _⟩
  · have et : ta = ta2 := Value.ref.inj (Option.some.inj (q4.symm.trans j2))
    subst et
    exact ⟨_, mn, ta, f, w, h1, (h2 3 (by decide)).trans q2, q3, (h2 10 (by decide)).trans q4, (h.2 ta j3.1).1 _ _ _ q5, q6⟩
  · rw [hk] at j1; exact absurd j1 (by decide)
  · rw [hk] at j1; exact absurd j1 (by decide)
/-- the items' sizes and leaves -/
def SLF (R : yR) (S : Sg) (g : Nat → Int32) : Prop := (∀ a : Nat, a < R.im → R.ik a ≠ 12 → ∃ s : Nat, s ≤ 16 ∧ iSz R S a s ∧ EqS R S S a s) ∧ ∀ a : Nat, a < R.im → R.ik a = 10 → ∃ n : Nat, iLv R S a n ∧ EqL R g S S a n
theorem NX0.sm {S2 : Sg} (hA : ITA R S) (h : NX0 R S S2) : SM R S S2 := ⟨fun j s hj ⟨fs, q1, q2⟩ => ⟨fs, (h.1 _ (hA j hj).1).trans q1, q2⟩, h.2⟩
theorem NX0.lm {S2 : Sg} (hA : ITA R S) (h : NX0 R S S2) {m : Nat} : LM R g m S S2 := ⟨fun j n hj _ q => iLv_cell (h.1 _ (hA j hj).1) q, h.sm hA⟩
theorem vTyn.mo {S2 : Sg} (h : ∀ (x : Nat) (kd ix : Int32) (o : Option Nat), isTy S x kd ix o → isTy S2 x kd ix o) : ∀ {n x : Nat}, vTyn S n x → vTyn S2 n x
  | 0, _, q => q
  | n + 1, x, q => by
    obtain ⟨kd, ix, o, q1, q2⟩ := q
    exact ⟨kd, ix, o, h _ _ _ _ q1, q2.imp id (fun ⟨a, u, b1, b2⟩ => ⟨a, u, b1, vTyn.mo h b2⟩)⟩
theorem SLF.nx {S2 : Sg} (hA : ITA R S) (h : NX0 R S S2) (q : SLF R S g) : SLF R S2 g := ⟨fun a ha hk => by
  obtain ⟨s, q1, q2, q3⟩ := q.1 a ha hk
  exact ⟨s, q1, (h.sm hA).1 a s ha q2, (q3.mo (h.sm hA)).iv hA ha (h.iv hA) (fun x ⟨n, z⟩ => ⟨n, vTyn.mo h.2 z⟩)⟩, fun a ha hk => by
  obtain ⟨n, q1, q2⟩ := q.2 a ha hk
  exact ⟨n, iLv_cell (h.1 _ (hA a ha).1) q1, (q2.mo (h.lm hA)).iv hA ha hk (h.iv hA)⟩⟩
/-- what the typing gives at last -/
def TYF (R : yR) (nv : Nat) (S2 : Sg) : Prop := ∃ c2 nv2 : Nat, c2 ≤ R.ps R.im ∧ nv2 ≤ nv + 40 * R.im ∧ TS R c2 nv2 S2 ∧ (Zi S2 3 = 0 → ITA R S2 ∧ ROW R S2 ∧ (∀ i : Nat, i < R.im → R.ik i = 12 → FnT R S2 i) ∧ MN R S2 ∧ ∃ g : Nat → Int32, SLF R S2 g)
theorem MN.nx {S2 : Sg} (hA : ITA R S) (h : NX R S S2) (q : MN R S) : MN R S2 := by
  obtain ⟨i, fs, gv, q1, q2, q3, q4, q5, q6, q7⟩ := q
  exact ⟨i, fs, gv, q1, h.2.1.trans q2, q3, (h.1.1 _ (hA i q1).1).trans q4, q5, q6, h.1.2 _ _ _ _ q7⟩
theorem ta75 (hK : yRm R) (hD : RDI R) (hnv : nv + 40 * R.im ≤ 10000) (hp : R.ps R.im ≤ 1990) (h : TS R (hdT R R.im) nv S) (hU : Zi S 3 = 0 → Unt R S 0 (R.ps R.im)) (hg : Zi S 3 = 0 → ITA R S ∧ ROW R S ∧ MN R S ∧ ∃ g : Nat → Int32, SLF R S g) : Rt (f_typeAll_75 R.K S) (fun S2 _ => TYF R nv S2) := by
  have hD0 := hD.1
  unfold f_typeAll_75
  refine (ta77 hK hD hnv hp (S9 := S) bigN 0 (by unfold bigN; omega) (Nat.zero_le _) ⟨nv, by omega, h.up (Nat.le_add_right _ _), fun z => ⟨(hg z).1, (hg z).2.1, fun i hi => absurd hi (by omega), fun a ha w => hU z a ha (Xo_mo w (Nat.zero_le _) (Nat.le_refl _)), NX.rf⟩⟩).mo (fun S2 _ q => ?_)
  obtain ⟨c2, nv2, q1, q2, q3, q4⟩ := q
  refine ⟨c2, nv2, q1, q2, q3, fun z => ?_⟩
  obtain ⟨r1, r2, r3, r4⟩ := q4 z
  obtain ⟨hA, hR, hm, g, hs⟩ := hg (r4.2.2 z)
  exact ⟨r1, r2, r3, hm.nx hA r4, g, hs.nx hA r4.1⟩
theorem ta64 (hK : yRm R) (hD : RDI R) (hT9 : Zi R.S 9 = nI R.T) (hnv : nv + 40 * R.im ≤ 10000) (hp : R.ps R.im ≤ 1990) (h : TS R (hdT R R.im) nv S) (hU : Zi S 3 = 0 → Unt R S 0 (R.ps R.im)) (hg : Zi S 3 = 0 → ITA R S ∧ ROW R S ∧ ∃ g : Nat → Int32, SLF R S g) : Rt (f_typeAll_64 R.K S) (fun S2 _ => TYF R nv S2) := by
  have hs := hbT hD R.im (Nat.le_refl _)
  unfold f_typeAll_64
  refine Rt.ok (fun z => ?_) (fun z => ta75 hK hD hnv hp h hU (fun w => absurd w z))
  obtain ⟨hA, hR, g, hS⟩ := hg z
  refine Rt.bn (fmn_ hD (by omega) hT9 h z hA) (fun S2 _ q => ?_)
  obtain ⟨⟨q1, q2, _⟩, q3⟩ := q
  have hx : NX0 R S S2 := ⟨fun a ha => q2.1 a ha.1 (fun w => w), q2.2.2.1⟩
  refine ta75 hK hD hnv hp q1 (fun _ a ha w => (q2.1 a ha (fun w => w)).trans (hU z a ha w)) (fun w => ?_)
  obtain ⟨r1, r2⟩ := q3 w
  exact ⟨r1, fun a n k f h1 h2 h3 h4 h5 => (q2.1 a h1 (fun w => w)).trans (hR a n k f h1 h2 h3 h4 h5), r2, g, hS.nx hA hx⟩
/-- what sizes and leaves leave of the exps' cells -/
theorem WI.unt {S1 : Sg} (hA : ITA R S) (h : WI R S S1) {p q : Nat} (hU : Unt R S p q) : Unt R S1 p q := fun a ha w => by
  rcases h.1 a with e | ⟨i, gs, g1, hi, e, _⟩
  · exact e.trans (hU a ha w)
  · subst e; exact absurd w ((hA i hi).1.2 _ _)
theorem ta53 (hK : yRm R) (hD : RDI R) (hT9 : Zi R.S 9 = nI R.T) (hnv : nv + 40 * R.im ≤ 10000) (hp : R.ps R.im ≤ 1990) {S1 : Sg} (h1 : TS R (hdT R R.im) nv S1) (hg : Zi S1 3 = 0 → ITA R S ∧ Unt R S 0 (R.ps R.im) ∧ wC R.im R.im g ∧ (∀ a b : Nat, a < R.im → b < R.im → eD R S g a b) ∧ SI R (fun v => v = 0) (hdT R R.im) nv S g S1 ∧ SZD R g R.im S1) : Rt (f_typeAll_53 R.K S1) (fun S2 _ => TYF R nv S2) := by
  have hs := hbT hD R.im (Nat.le_refl _)
  have hD0 := hD.1
  unfold f_typeAll_53
  refine Rt.ok (fun z => ?_) (fun z => ta64 hK hD hT9 hnv hp h1 (fun w => absurd w z) (fun w => absurd w z))
  obtain ⟨hA, hU, hW, hE, ⟨hI, hI2⟩, hZ⟩ := hg z
  have hl : LVP R (hdT R R.im) nv S g 0 S1 := ⟨⟨hI.1, hI.2.1, hI.2.2.1, hI.2.2.2.1, hI.2.2.2.2.1, fun a ha => by obtain ⟨fs, v, k1, k2, _⟩ := hI.2.2.2.2.2 a ha; exact ⟨fs, v, k1, k2, trivial⟩⟩, z, fun a ha hk => by
    obtain ⟨s, s1, s2⟩ := (hZ a ha hk).2
    obtain ⟨fs, s9, v, k1, k2, k3, _, _, _, k4⟩ := hI2 a ha
    have s2' := s2
    obtain ⟨fs2, j1, j2, j3, j4⟩ := s2'
    have e1 : fs = fs2 := (Prod.mk.inj (Sum.inr.inj (k1.symm.trans j1))).2
    subst e1
    have e2 : s9 = s := nI_ij (Value.int.inj (Option.some.inj (k2.symm.trans j2))) (by omega) (by omega)
    subst e2
    exact ⟨s9, s1, s2, k4 (by omega)⟩⟩
  unfold f_leaves
  refine Rt.bn (lvs6 hD (by omega) hW hE (fun a ha hk => (hZ a ha hk).1) bigN 0 (by unfold bigN; omega) (Nat.zero_le _) hl (fun a ha hk _ => by
    obtain ⟨fs, v, k1, k2, k3⟩ := hI.2.2.2.2.2 a ha
    exact ⟨fs, v, k1, k2, Or.inl k3⟩) (fun a ha => absurd ha (by omega))) (fun S2 _ q => ?_)
  obtain ⟨⟨q1, q2, q3⟩, q4⟩ := q
  have hiv := q1.2.2.2.1.iv
  refine ta64 hK hD hT9 hnv hp q1.1 (fun _ => q1.2.2.2.1.unt hA hU) (fun _ => ⟨q1.2.1, q1.2.2.1, g, fun a ha hk => ?_, fun a ha hk => ?_⟩)
  · obtain ⟨s, r1, r2, r3⟩ := q3 a ha hk
    exact ⟨s, r1, r2, r3.iv hA ha hiv (fun x ⟨n, w⟩ => ⟨n, vTyn.mo (fun x kd ix o u => q1.2.2.2.1.ty2 u) w⟩)⟩
  · obtain ⟨n, r1, r2⟩ := q4 a ha hk
    exact ⟨n, r1, r2.iv hA ha hk hiv⟩
/-- typeAll -/
theorem tya_ (hK : yRm R) (hD : RDI R) (hT9 : Zi R.S 9 = nI R.T) (hnv : nv + 40 * R.im ≤ 10000) (hp : R.ps R.im ≤ 1990) (h : TS R 0 nv S) (hR : ROW R S) (hF : F20 R (fun v => v = 0) S) (hU : Unt R S 0 (R.ps R.im)) : Rt (bnd (f_itemNames R.K S) fun S2 _ => f_typeAll_11 R.K bigN S2 0) (fun S2 _ => TYF R nv S2) := by
  have hs := hbT hD R.im (Nat.le_refl _)
  have hD0 := hD.1
  refine Rt.bn (inn_ hD h) (fun S1 _ q1 => ?_)
  have hv : ∀ a ∈ ZL R.S, ZF S1 a = ZF S a := fun a ha => q1.2.1.2.1 a ha (fun w => w)
  refine ta11 hK hD (by omega) hp (fun S2 t2 w2 f2 u2 g2 => ?_) bigN 0 (by unfold bigN; omega) (Nat.zero_le _) ⟨q1.1, fun a n k f h1 h2 h3 h4 h5 => (hv a h1).trans (hR a n k f h1 h2 h3 h4 h5), ⟨fun a ha => ?_, fun a ha w => (hv a ha).trans (hU a ha w)⟩, fun _ i hi => absurd hi (by omega)⟩
  · unfold f_typeAll_42
    refine Rt.ok (fun z => ?_) (fun z => ta53 (g := fun _ => 0) (S := S2) hK hD hT9 hnv hp t2 (fun w => absurd w z))
    refine Rt.bn (szs_ hD (by omega) t2 (g2 z) w2 f2) (fun S3 _ q3 => ?_)
    obtain ⟨g, k1, k2, k3, k4⟩ := q3
    exact ta53 hK hD hT9 hnv hp k3.1.1 (fun w => ⟨g2 z, u2, k1, k2, k3, k4 w⟩)
  · obtain ⟨fs, v, k1, k2, k3⟩ := hF a ha
    obtain ⟨_, ⟨z1, _⟩, _, _, z5⟩ := hD.2.2.2.2 a ha
    exact ⟨fs, v, (hv _ (z5 _ z1)).trans k1, k2, k3⟩
end TYA
end
-- m0.a.lean.txt
section
/-- a cell of the store while points are laid: a variable may get its whole path, an item where it begins and ends -/
def cLy (c c2 : va_E) : Prop := c2 = c ∨ ∃ (k : Nat) (fs f2 : List Value), c = .inr (k, fs) ∧ c2 = .inr (k, f2) ∧ f2.length = fs.length ∧ ((k = 21 ∧ ∀ l : Nat, l ≠ 4 → f2[l]? = fs[l]?) ∨ (k = 16 ∧ ∀ l : Nat, l ≠ 4 → l ≠ 5 → f2[l]? = fs[l]?))
theorem cLy.tr {c c1 c2 : va_E} (h : cLy c c1) (g : cLy c1 c2) : cLy c c2 := by
  rcases h with h | ⟨k, fs, f1, h1, h2, h3, h4⟩
  · rw [h] at g; exact g
  · rcases g with g | ⟨k2, gs, f2, g1, g2, g3, g4⟩
    · rw [g]; exact Or.inr ⟨k, fs, f1, h1, h2, h3, h4⟩
    · obtain ⟨ek, ef⟩ := Prod.mk.inj (Sum.inr.inj (h2.symm.trans g1))
      subst ek; subst ef
      refine Or.inr ⟨k, fs, f2, h1, g2, g3.trans h3, ?_⟩
      rcases h4 with ⟨e, h4⟩ | ⟨e, h4⟩
      · rcases g4 with ⟨_, g4⟩ | ⟨e2, _⟩
        · exact Or.inl ⟨e, fun l hl => (g4 l hl).trans (h4 l hl)⟩
        · exact absurd (e.symm.trans e2) (by decide)
      · rcases g4 with ⟨e2, _⟩ | ⟨_, g4⟩
        · exact absurd (e2.symm.trans e) (by decide)
        · exact Or.inr ⟨e, fun l h1 h2 => (g4 l h1 h2).trans (h4 l h1 h2)⟩
theorem cLy.inl {c c2 : va_E} (h : cLy c c2) {r : ClassId × vp_A} (e : c = .inl r) : c2 = .inl r := by
  rcases h with h | ⟨k, fs, f2, h1, _⟩
  · exact h.trans e
  · rw [e] at h1; cases h1
theorem cLy.inr {c c2 : va_E} (h : cLy c c2) {k : Nat} {fs : List Value} (e : c = .inr (k, fs)) (h1 : k ≠ 21) (h2 : k ≠ 16) : c2 = .inr (k, fs) := by
  rcases h with h | ⟨k2, gs, f2, g1, _, _, g4⟩
  · exact h.trans e
  · obtain ⟨ek, _⟩ := Prod.mk.inj (Sum.inr.inj (e.symm.trans g1))
    rcases g4 with ⟨q, _⟩ | ⟨q, _⟩
    · exact absurd (ek.trans q) h1
    · exact absurd (ek.trans q) h2
theorem cLy.fs {c c2 : va_E} (h : cLy c c2) {k : Nat} {fs : List Value} (e : c = .inr (k, fs)) : ∃ f2 : List Value, c2 = .inr (k, f2) ∧ f2.length = fs.length ∧ ∀ l : Nat, l ≠ 4 → l ≠ 5 ∨ k ≠ 16 → f2[l]? = fs[l]? := by
  rcases h with h | ⟨k2, gs, f2, g1, g2, g3, g4⟩
  · exact ⟨fs, h.trans e, rfl, fun _ _ _ => rfl⟩
  · obtain ⟨ek, ef⟩ := Prod.mk.inj (Sum.inr.inj (e.symm.trans g1))
    subst ek; subst ef
    refine ⟨f2, g2, g3, fun l h1 h2 => ?_⟩
    rcases g4 with ⟨q, g4⟩ | ⟨q, g4⟩
    · exact g4 l h1
    · exact g4 l h1 (h2.resolve_right (fun w => w q))
/-- rows that the laying writes: ints, references -/
def ipR (r : Nat) : Prop := (27 ≤ r ∧ r ≤ 35) ∨ (44 ≤ r ∧ r ≤ 46) ∨ r = 52
def qpR (r : Nat) : Prop := (36 ≤ r ∧ r ≤ 43) ∨ r = 49 ∨ r = 51
/-- what the laying leaves as it was -/
def LX (S S2 : Sg) : Prop := (∀ a ∈ ZL S, a ∈ ZL S2 ∧ cLy (ZF S a) (ZF S2 a)) ∧ (∀ j : Nat, j ≠ 26 → j ≠ 47 → j ≠ 48 → (j ≠ 50 ∧ j ≠ 57) → Zi S2 j = Zi S j) ∧ (∀ r : Nat, ¬ ipR r → Zr S2 r = Zr S r) ∧ (∀ r : Nat, (r ≠ 31 ∧ ¬ (53 ≤ r ∧ r ≤ 60)) → Zl S2 r = Zl S r) ∧ (∀ r : Nat, ¬ qpR r → Zq S2 r = Zq S r) ∧ Zf S2 = Zf S ∧ Zz S ≤ Zz S2 ∧ Zn S ≤ Zn S2
/-- points below P are as they were -/
def PX (P : Nat) (S S2 : Sg) : Prop := ∀ k : Nat, k < P → (∀ r : Nat, 27 ≤ r → r ≤ 35 → Zr S2 r k = Zr S r k) ∧ Zl S2 31 k = Zl S 31 k ∧ ∀ r : Nat, 36 ≤ r → r ≤ 42 → Zq S2 r k = Zq S r k
/-- loans below L are as they were -/
def QX (L : Nat) (S S2 : Sg) : Prop := ∀ l : Nat, l < L → Zq S2 43 l = Zq S 43 l ∧ ∀ r : Nat, 44 ≤ r → r ≤ 46 → Zr S2 r l = Zr S r l
/-- the items are as they were -/
def IX (S S2 : Sg) : Prop := ∀ a ∈ ZL S, ∀ fs : List Value, ZF S a = .inr (16, fs) → ZF S2 a = .inr (16, fs)
def LZ (P L : Nat) (S S2 : Sg) : Prop := LX S S2 ∧ PX P S S2 ∧ QX L S S2 ∧ IX S S2
section LXL
variable {S S1 S2 : Sg} {P P2 L L2 : Nat}
theorem LX.rf : LX S S := ⟨fun a ha => ⟨ha, Or.inl rfl⟩, fun _ _ _ _ _ => rfl, fun _ _ => rfl, fun _ _ => rfl, fun _ _ => rfl, rfl, Nat.le_refl _, Nat.le_refl _⟩
theorem LX.tr (h : LX S S1) (g : LX S1 S2) : LX S S2 := ⟨fun a ha => ⟨(g.1 a (h.1 a ha).1).1, (h.1 a ha).2.tr (g.1 a (h.1 a ha).1).2⟩, fun j a b c d => (g.2.1 j a b c d).trans (h.2.1 j a b c d), fun r a => (g.2.2.1 r a).trans (h.2.2.1 r a), fun r a => (g.2.2.2.1 r a).trans (h.2.2.2.1 r a), fun r a => (g.2.2.2.2.1 r a).trans (h.2.2.2.2.1 r a), g.2.2.2.2.2.1.trans h.2.2.2.2.2.1, Nat.le_trans h.2.2.2.2.2.2.1 g.2.2.2.2.2.2.1, Nat.le_trans h.2.2.2.2.2.2.2 g.2.2.2.2.2.2.2⟩
theorem PX.rf : PX P S S := fun _ _ => ⟨fun _ _ _ => rfl, rfl, fun _ _ _ => rfl⟩
theorem PX.tr (h : PX P S S1) (g : PX P2 S1 S2) (hp : P ≤ P2) : PX P S S2 := fun k hk => ⟨fun r a b => ((g k (by omega)).1 r a b).trans ((h k hk).1 r a b), (g k (by omega)).2.1.trans (h k hk).2.1, fun r a b => ((g k (by omega)).2.2 r a b).trans ((h k hk).2.2 r a b)⟩
theorem PX.le (h : PX P2 S S1) (hp : P ≤ P2) : PX P S S1 := fun k hk => h k (by omega)
theorem QX.rf : QX L S S := fun _ _ => ⟨rfl, fun _ _ _ => rfl⟩
theorem QX.tr (h : QX L S S1) (g : QX L2 S1 S2) (hp : L ≤ L2) : QX L S S2 := fun k hk => ⟨(g k (by omega)).1.trans (h k hk).1, fun r a b => ((g k (by omega)).2 r a b).trans ((h k hk).2 r a b)⟩
theorem LZ.rf : LZ P L S S := ⟨LX.rf, PX.rf, QX.rf, fun _ _ _ e => e⟩
theorem LZ.tr (h : LZ P L S S1) (g : LZ P2 L2 S1 S2) (hp : P ≤ P2) (hl : L ≤ L2) : LZ P L S S2 := ⟨h.1.tr g.1, h.2.1.tr g.2.1 hp, h.2.2.1.tr g.2.2.1 hl, fun a ha fs e => g.2.2.2 a (h.1.1 a ha).1 fs (h.2.2.2 a ha fs e)⟩
theorem LZ.le (h : LZ P2 L2 S S1) (hp : P ≤ P2) (hl : L ≤ L2) : LZ P L S S1 := LZ.rf.tr h hp hl
/-- a row of points is written at P or above -/
theorem LZ.ur {r j : Nat} {v : Int32} (hr : 27 ≤ r ∧ r ≤ 35) (hj : P ≤ j) : LZ P L S (Ur S r (upd (Zr S r) j v)) := ⟨⟨fun a ha => ⟨ha, Or.inl rfl⟩, fun _ _ _ _ _ => rfl, fun r2 h2 => va_up_ne _ _ (fun e => h2 (Or.inl (by omega))), fun _ _ => rfl, fun _ _ => rfl, rfl, Nat.le_refl _, Nat.le_refl _⟩, fun k hk => ⟨fun r2 _ _ => by
  show va_up (Zr S) r (upd (Zr S r) j v) r2 k = _
  by_cases e : r2 = r
  · subst e; rw [va_up_self]; exact if_neg (by omega)
  · rw [va_up_ne _ _ e], rfl, fun _ _ _ => rfl⟩, fun l _ => ⟨rfl, fun r2 h1 h2 => by show va_up (Zr S) r _ r2 l = _; rw [va_up_ne _ _ (by omega)]⟩, fun _ _ _ e => e⟩
theorem LZ.ul {j : Nat} {v : Int64} (hj : P ≤ j) : LZ P L S (Ul S 31 (vp_updL (Zl S 31) j v)) := ⟨⟨fun a ha => ⟨ha, Or.inl rfl⟩, fun _ _ _ _ _ => rfl, fun _ _ => rfl, fun r2 h2 => va_up_ne _ _ h2.1, fun _ _ => rfl, rfl, Nat.le_refl _, Nat.le_refl _⟩, fun k hk => ⟨fun _ _ _ => rfl, by
  show va_up (Zl S) 31 _ 31 k = _
  rw [va_up_self]; exact if_neg (by omega), fun _ _ _ => rfl⟩, QX.rf, fun _ _ _ e => e⟩
theorem LZ.uq {r j : Nat} {v : Option Nat} (hr : 36 ≤ r ∧ r ≤ 42) (hj : P ≤ j) : LZ P L S (Uq S r (va_up (Zq S r) j v)) := ⟨⟨fun a ha => ⟨ha, Or.inl rfl⟩, fun _ _ _ _ _ => rfl, fun _ _ => rfl, fun _ _ => rfl, fun r2 h2 => va_up_ne _ _ (fun e => h2 (Or.inl (by omega))), rfl, Nat.le_refl _, Nat.le_refl _⟩, fun k hk => ⟨fun _ _ _ => rfl, rfl, fun r2 _ _ => by
  show va_up (Zq S) r (va_up (Zq S r) j v) r2 k = _
  by_cases e : r2 = r
  · subst e; rw [va_up_self, va_up_ne _ _ (by omega)]
  · rw [va_up_ne _ _ e]⟩, fun l _ => ⟨by show va_up (Zq S) r _ 43 l = _; rw [va_up_ne _ _ (by omega)], fun _ _ _ => rfl⟩, fun _ _ _ e => e⟩
/-- a loan's row is written at L or above -/
theorem LZ.lr {r j : Nat} {v : Int32} (hr : 44 ≤ r ∧ r ≤ 46) (hj : L ≤ j) : LZ P L S (Ur S r (upd (Zr S r) j v)) := ⟨⟨fun a ha => ⟨ha, Or.inl rfl⟩, fun _ _ _ _ _ => rfl, fun r2 h2 => va_up_ne _ _ (fun e => h2 (Or.inr (by omega))), fun _ _ => rfl, fun _ _ => rfl, rfl, Nat.le_refl _, Nat.le_refl _⟩, fun k hk => ⟨fun r2 _ _ => by show va_up (Zr S) r _ r2 k = _; rw [va_up_ne _ _ (by omega)], rfl, fun _ _ _ => rfl⟩, fun l hl => ⟨rfl, fun r2 h1 h2 => by
  show va_up (Zr S) r (upd (Zr S r) j v) r2 l = _
  by_cases e : r2 = r
  · subst e; rw [va_up_self]; exact if_neg (by omega)
  · rw [va_up_ne _ _ e]⟩, fun _ _ _ e => e⟩
theorem LZ.lq {j : Nat} {v : Option Nat} (hj : L ≤ j) : LZ P L S (Uq S 43 (va_up (Zq S 43) j v)) := ⟨⟨fun a ha => ⟨ha, Or.inl rfl⟩, fun _ _ _ _ _ => rfl, fun _ _ => rfl, fun _ _ => rfl, fun r2 h2 => va_up_ne _ _ (fun e => h2 (Or.inl (by omega))), rfl, Nat.le_refl _, Nat.le_refl _⟩, fun k hk => ⟨fun _ _ _ => rfl, rfl, fun r2 _ _ => by show va_up (Zq S) 43 _ r2 k = _; rw [va_up_ne _ _ (by omega)]⟩, fun l hl => ⟨by
  show va_up (Zq S) 43 (va_up (Zq S 43) j v) 43 l = Zq S 43 l
  rw [va_up_self, va_up_ne _ _ (by omega)], fun _ _ _ => rfl⟩, fun _ _ _ e => e⟩
theorem LZ.uo {r : Nat} {f : Nat → Option Nat} (hr : r = 49 ∨ r = 51) : LZ P L S (Uq S r f) := ⟨⟨fun a ha => ⟨ha, Or.inl rfl⟩, fun _ _ _ _ _ => rfl, fun _ _ => rfl, fun _ _ => rfl, fun r2 h2 => va_up_ne _ _ (fun e => h2 (Or.inr (by omega))), rfl, Nat.le_refl _, Nat.le_refl _⟩, fun k hk => ⟨fun _ _ _ => rfl, rfl, fun r2 _ _ => by show va_up (Zq S) r _ r2 k = _; rw [va_up_ne _ _ (by omega)]⟩, fun l hl => ⟨by show va_up (Zq S) r _ 43 l = _; rw [va_up_ne _ _ (by omega)], fun _ _ _ => rfl⟩, fun _ _ _ e => e⟩
theorem LZ.ui {j : Nat} {v : Int32} (hj : j = 26 ∨ j = 47 ∨ j = 48 ∨ j = 50) : LZ P L S (Ui S j v) := ⟨⟨fun a ha => ⟨ha, Or.inl rfl⟩, fun i a b c d => Zi_n (by omega), fun _ _ => rfl, fun _ _ => rfl, fun _ _ => rfl, rfl, Nat.le_refl _, Nat.le_refl _⟩, PX.rf, QX.rf, fun _ _ _ e => e⟩
theorem LZ.un {c : va_E} {n : Nat} (hz : ∀ a ∈ ZL S, a < Zz S) : LZ P L S (Un S c n) := ⟨⟨fun a ha => ⟨List.mem_cons_of_mem _ ha, Or.inl (updE_n (fun e => by have := hz a ha; omega))⟩, fun _ _ _ _ _ => rfl, fun _ _ => rfl, fun _ _ => rfl, fun _ _ => rfl, rfl, Nat.le_succ _, Nat.le_add_right _ _⟩, PX.rf, QX.rf, fun a ha fs e => (updE_n (fun q => by have := hz a ha; omega)).trans e⟩
/-- a cell that is new since S is written -/
theorem LZ.uF {a : Nat} {c : va_E} (h : LZ P L S S1) (ha : a ∉ ZL S) : LZ P L S (UF S1 a c) := ⟨⟨fun b hb => ⟨(h.1.1 b hb).1, by rw [show ZF (UF S1 a c) b = ZF S1 b from updE_n (fun e => ha (e ▸ hb))]; exact (h.1.1 b hb).2⟩, h.1.2⟩, h.2.1, h.2.2.1, fun b hb fs e => (show ZF (UF S1 a c) b = ZF S1 b from updE_n (fun q => ha (q ▸ hb))).trans (h.2.2.2 b hb fs e)⟩
/-- a cell is written as it may be -/
theorem LZ.uC {a : Nat} {c : va_E} (hc : cLy (ZF S a) c) (h16 : ∀ fs : List Value, ZF S a ≠ .inr (16, fs)) : LZ P L S (UF S a c) := ⟨⟨fun b hb => ⟨hb, by
  by_cases e : b = a
  · subst e; rw [show ZF (UF S b c) b = c from updE_s]; exact hc
  · rw [show ZF (UF S a c) b = ZF S b from updE_n e]; exact Or.inl rfl⟩, fun _ _ _ _ _ => rfl, fun _ _ => rfl, fun _ _ => rfl, fun _ _ => rfl, rfl, Nat.le_refl _, Nat.le_refl _⟩, PX.rf, QX.rf, fun b _ fs e => (show ZF (UF S a c) b = ZF S b from updE_n (fun q => h16 fs (q ▸ e))).trans e⟩
theorem LX.ro (h : LX S S2) {a : Nat} {r : ClassId × vp_A} (ha : a ∈ ZL S) (e : ZF S a = .inl r) : a ∈ ZL S2 ∧ ZF S2 a = .inl r := ⟨(h.1 a ha).1, (h.1 a ha).2.inl e⟩
theorem LX.ob (h : LX S S2) {a k : Nat} {fs : List Value} (ha : a ∈ ZL S) (e : ZF S a = .inr (k, fs)) (h1 : k ≠ 21) (h2 : k ≠ 16) : a ∈ ZL S2 ∧ ZF S2 a = .inr (k, fs) := ⟨(h.1 a ha).1, (h.1 a ha).2.inr e h1 h2⟩
theorem LX.it (h : LX S S2) {a k : Nat} {fs : List Value} (ha : a ∈ ZL S) (e : ZF S a = .inr (k, fs)) : a ∈ ZL S2 ∧ ∃ f2 : List Value, ZF S2 a = .inr (k, f2) ∧ f2.length = fs.length ∧ ∀ l : Nat, l ≠ 4 → l ≠ 5 ∨ k ≠ 16 → f2[l]? = fs[l]? := ⟨(h.1 a ha).1, (h.1 a ha).2.fs e⟩
theorem LX.ty (h : LX S S2) {x : Nat} {kd ix : Int32} {o : Option Nat} (q : isTy S x kd ix o) : isTy S2 x kd ix o := by
  obtain ⟨t, q1, q2, q3, q4⟩ := q
  obtain ⟨q5, q6⟩ := h.ob q3 q4 (by decide) (by decide)
  refine ⟨t, ?_, ?_, q5, q6⟩
  · unfold tmS at *; rw [h.2.1 19 (by decide) (by decide) (by decide) (by decide)]; exact q1
  · rw [h.2.2.2.2.1 18 (fun w => by rcases w with w | w | w <;> omega)]; exact q2
end LXL
end
-- m0.b.lean.txt
section
/-- the number of a type of values: 1 int, 2 bool, 3 token, 4 + i item i, 100 + t the box that is type t -/
def abV (S : Sg) (x : Nat) : Nat := match ZF S x with
  | .inr (20, [.int kd, .int ix, .int id, _]) => if kd = 0 then 1 else if kd = 1 then 2 else if kd = 2 then 3 else if kd = 3 ∨ kd = 4 then 4 + ix.toNatClampNeg else if kd = 5 then 100 + id.toNatClampNeg else 0
  | _ => 0
def abO (S : Sg) : Value → Nat
  | .ref u => abV S u
  | _ => 0
/-- .. of any type: 10000 and on the references, 0 nothing -/
def abT (S : Sg) (x : Nat) : Nat := match ZF S x with
  | .inr (20, [.int kd, .int _, .int _, o]) => if kd = 6 then 10000 + 2 * abO S o else if kd = 7 then 10001 + 2 * abO S o else abV S x
  | _ => 0
/-- .. of what may be none -/
def abU (S : Sg) : Option Nat → Nat
  | some x => abT S x
  | none => 0
/-- an object's values, a row's references -/
def obF (S : Sg) (a : Nat) : List Value := match ZF S a with
  | .inr (_, fs) => fs
  | _ => []
def roQ (S : Sg) (a k : Nat) : Option Nat := match ZF S a with
  | .inl (_, _, .inr (.inr (.inr (.inr f)))) => f k
  | _ => none
def abR (S : Sg) (o : Option Nat) (k : Nat) : Nat := match o with
  | some a => (match roQ S a k with
    | some x => abV S x
    | none => 0)
  | none => 0
/-- an enum's parts of variant g -/
def paI (R : yR) (S : Sg) (i g : Nat) : List Value := match rN (obF S (R.ws i)) 11 with
  | some vr => (match roQ S vr g with
    | some pa => obF S pa
    | none => [])
  | none => []
def yK (R : yR) (S : Sg) (n : Nat) : Nat := if 10000 ≤ n then (if n < 30000 then (if n % 2 = 0 then 5 else 6) else 0) else if 4 ≤ n ∧ n < 4 + R.im then (if R.ik (n - 4) = 10 then 2 else if R.ik (n - 4) = 11 then 3 else 0) else if 100 ≤ n ∧ n < 100 + tmS S then (match Zq S 18 (n - 100) with
    | some x => (if fN (obF S x) 0 = 5 then 4 else 0)
    | none => 0) else 0
def yO (S : Sg) (n : Nat) : Nat := if 10000 ≤ n then (n - 10000) / 2 else match Zq S 18 (n - 100) with
    | some x => (match (obF S x)[3]? with
      | some v => abO S v
      | none => 0)
    | none => 0
def yP (R : yR) (S : Sg) (n g : Nat) : Nat := if R.ik (n - 4) = 10 then (if g = 0 then fN (obF S (R.ws (n - 4))) 3 else 0) else fN (paI R S (n - 4) g) 0
def yQ (R : yR) (S : Sg) (n g k : Nat) : Nat := if R.ik (n - 4) = 10 then abR S (rN (obF S (R.ws (n - 4))) 10) k else abR S (rN (paI R S (n - 4) g) 2) k
/-- the table of types -/
def yT (R : yR) (S : Sg) : qY := (yK R S, yO S, fun n => fN (obF S (R.ws (n - 4))) 3, yP R S, yQ R S)
/-- an instruction: kind, access, path (variable, way, type), holder, loan, used, from, what follows, three numbers, a list -/
abbrev iR := Nat × Nat × Option (Nat × lLc × Nat) × (Option Nat × Option Nat) × (List Nat × List Nat) × List Nat × (Nat × Nat × Nat) × List Nat
def iR.kd (i : iR) : Nat := i.1
def iR.ac (i : iR) : Nat := i.2.1
def iR.pa (i : iR) : Option (Nat × lLc × Nat) := i.2.2.1
def iR.ho (i : iR) : Option Nat := i.2.2.2.1.1
def iR.ln (i : iR) : Option Nat := i.2.2.2.1.2
def iR.us (i : iR) : List Nat := i.2.2.2.2.1.1
def iR.fr (i : iR) : List Nat := i.2.2.2.2.1.2
def iR.sc (i : iR) : List Nat := i.2.2.2.2.2.1
def iR.n1 (i : iR) : Nat := i.2.2.2.2.2.2.1.1
def iR.n2 (i : iR) : Nat := i.2.2.2.2.2.2.1.2.1
def iR.n3 (i : iR) : Nat := i.2.2.2.2.2.2.1.2.2
def iR.vs (i : iR) : List Nat := i.2.2.2.2.2.2.2
/-- a number that may be none -/
def oNm : Option Nat → Int32
  | none => -1
  | some h => nI h
/-- a step of a way, as it is written -/
def sCo (s : Nat × Nat) : Int32 := if s.1 = 0 then nI s.2 else if s.1 = 1 then -1 else nI (1000 + 16 * (s.1 - 2) + s.2)
/-- a variable: number, type; S0 the state behind the typing -/
def isU (S : Sg) (va v : Nat) (ty : Option Nat) (mu : Int32) : Prop := va ∈ ZL S ∧ ∃ (nm : Int32) (wh : Value), ZF S va = .inr (21, [.int (nI v), .int nm, va_rf ty, .int mu, wh])
/-- from the type x one step leads to the type y -/
def stY2 (R : yR) (S0 : Sg) (x : Nat) (s : Nat × Nat) (y : Nat) : Prop := (s = (1, 0) ∧ ∃ kd : Int32, (kd = 5 ∨ kd = 6 ∨ kd = 7) ∧ isTy S0 x kd 0 (some y)) ∨ (∃ i k : Nat, s = (0, k) ∧ isTy S0 x 3 (nI i) none ∧ fld R S0 i k y) ∨ (∃ (i g k mk : Nat) (tx : Nat → Nat), s = (g + 2, k) ∧ isTy S0 x 4 (nI i) none ∧ enY R S0 i g mk tx ∧ k < mk ∧ tx k = y)
/-- a path: its object w, the variable va of number v, the way, the types on it -/
def isPt (R : yR) (S0 S : Sg) (w v : Nat) (ρ : lLc) (T : Nat) : Prop := ∃ (va sa ta : Nat) (f : Nat → Int32) (g : Nat → Option Nat) (mu : Int32), w ∈ ZL S ∧ ZF S w = .inr (18, [.ref va, .int (nI ρ.length), .ref sa, .ref ta]) ∧ isU S va v (g 0) mu ∧ (sa ∈ ZL S ∧ ZF S sa = .inl (R.K.1 0, ρ.length, .inl f)) ∧ (ta ∈ ZL S ∧ ZF S ta = .inl (R.K.1 4, ρ.length + 1, .inr (.inr (.inr (.inr g))))) ∧ (∀ (j : Nat) (s : Nat × Nat), ρ[j]? = some s → f j = sCo s ∧ ∃ x y : Nat, g j = some x ∧ g (j + 1) = some y ∧ stY2 R S0 x s y) ∧ (∀ j x : Nat, j ≤ ρ.length → g j = some x → rTy S0 x) ∧ T = abU S0 (g ρ.length) ∧ ρ.length ≤ 5
/-- a row of numbers -/
def rAr (R : yR) (S : Sg) (o : Option Nat) (l : List Nat) : Prop := (o = none ∧ l = []) ∨ ∃ (a : Nat) (f : Nat → Int32), o = some a ∧ a ∈ ZL S ∧ ZF S a = .inl (R.K.1 0, l.length, .inl f) ∧ l ≠ [] ∧ ∀ j x : Nat, l[j]? = some x → f j = nI x ∧ x < 24000
/-- the arm's variables -/
def rAm (R : yR) (S0 S : Sg) (o : Option Nat) (n1 n2 : Nat) (vs : List Nat) : Prop := ∃ (a na aw bk : Nat) (tk vn : Int32) (fv : Nat → Option Nat), o = some a ∧ a ∈ ZL S ∧ ZF S a = .inr (13, [.int tk, .int vn, .ref na, .int (nI vs.length), .ref aw, .ref bk]) ∧ aw ∈ ZL S ∧ ZF S aw = .inl (R.K.1 5, 12, .inr (.inr (.inr (.inr fv)))) ∧ vs.length ≤ 12 ∧ ∀ j v : Nat, vs[j]? = some v → ∃ (va x : Nat) (mu : Int32), fv j = some va ∧ isU S va v (some x) mu ∧ rTy S0 x ∧ abT S0 x = yQ R S0 (4 + n1) n2 j
/-- the path w is of the variable a -/
def pVa (S : Sg) (w a : Nat) : Prop := ∃ gs : List Value, ZF S w = .inr (18, gs) ∧ gs[0]? = some (.ref a)
/-- what lies in the rows at point k -/
def rz (R : yR) (S0 S : Sg) (k : Nat) (i : iR) : Prop := Zr S 27 k = nI i.kd ∧ i.kd < 28 ∧ Zr S 33 k = nI i.ac ∧ i.ac < 8 ∧ Zr S 34 k = oNm i.ho ∧ Zr S 35 k = oNm i.ln ∧ rAr R S (Zq S 37 k) i.us ∧ rAr R S (Zq S 36 k) i.fr ∧ (∃ tk : Nat, Zr S 32 k = nI tk ∧ tk < R.T) ∧
  ((Zq S 38 k = none ∧ i.pa = none) ∨ ∃ (w v T : Nat) (ρ : lLc), Zq S 38 k = some w ∧ i.pa = some (v, ρ, T) ∧ isPt R S0 S w v ρ T ∧ pVa S w i.n2) ∧
  (∀ l : Nat, i.ln = some l → Zq S 43 l = Zq S 38 k ∧ Zr S 44 l = nI i.n3 ∧ i.n3 ≤ 1 ∧ Zr S 45 l = -1) ∧
  ((i.kd = 26 ∧ i.sc = []) ∨ (i.kd = 16 ∧ ∃ j : Nat, Zr S 30 k = nI j ∧ i.sc = [j] ∧ j < 24000) ∨ ((i.kd = 17 ∨ i.kd = 18 ∨ i.kd = 19) ∧ ∃ j : Nat, Zr S 30 k = nI j ∧ i.sc = [k + 1, j] ∧ j < 24000) ∨ ((i.kd = 20 ∨ i.kd = 21) ∧ rAr R S (Zq S 42 k) i.sc ∧ i.sc ≠ []) ∨ (i.kd ≠ 26 ∧ i.kd ≠ 16 ∧ i.kd ≠ 17 ∧ i.kd ≠ 18 ∧ i.kd ≠ 19 ∧ i.kd ≠ 20 ∧ i.kd ≠ 21 ∧ Zr S 30 k = -1 ∧ i.sc = [k + 1])) ∧
  ((i.kd = 7 ∨ i.kd = 11 ∨ i.kd = 15) → ∃ x : Nat, Zq S 39 k = some x ∧ rTy S0 x ∧ abT S0 x = i.n1) ∧
  ((i.kd = 8 ∨ i.kd = 9 ∨ i.kd = 10) → Zr S 28 k = nI i.n1 ∧ Zr S 29 k = nI i.n2 ∧ Zl S 31 k = Int32.toInt64 (nI i.n3)) ∧
  (i.kd = 8 → rAr R S (Zq S 42 k) i.vs) ∧
  ((i.kd = 12 ∨ i.kd = 13 ∨ i.kd = 23 ∨ i.kd = 24) → ∃ (va v : Nat) (ty : Option Nat) (mu : Int32), Zq S 40 k = some va ∧ i.vs = [v] ∧ isU S va v ty mu ∧ abU S0 ty = i.n1 ∧ ∀ x : Nat, ty = some x → rTy S0 x) ∧
  (i.kd = 22 → rAm R S0 S (Zq S 41 k) i.n1 i.n2 i.vs) ∧
  (i.kd = 25 → Zr S 28 k = nI i.n1) ∧ (i.kd = 10 → R.ik i.n1 = 12 ∧ i.n1 < R.im)
end
-- m0.c.lean.txt
section
section RZS
variable {R : yR} {S0 S S2 : Sg}
theorem isU.st (h : LX S S2) {va v : Nat} {ty : Option Nat} {mu : Int32} (q : isU S va v ty mu) : isU S2 va v ty mu := by
  obtain ⟨q1, nm, wh, q2⟩ := q
  obtain ⟨h1, f2, h2, h3, h4⟩ := h.it q1 q2
  refine ⟨h1, nm, ?_⟩
  rcases h.1 va q1 with ⟨_, e | ⟨k, fs, g2, e1, e2, e3, e4⟩⟩
  · exact ⟨wh, e.trans q2⟩
  · obtain ⟨ek, ef⟩ := Prod.mk.inj (Sum.inr.inj (q2.symm.trans e1))
    have e0 : f2 = g2 := (Prod.mk.inj (Sum.inr.inj (h2.symm.trans (e2.trans (by rw [← ek]))))).2
    subst e0
    have hl : f2.length = 5 := h3
    match f2, hl with
    | [a, b, c, d, e], _ =>
      have a1 : a = .int (nI v) := Option.some.inj (h4 0 (by decide) (Or.inl (by decide)))
      have a2 : b = .int nm := Option.some.inj (h4 1 (by decide) (Or.inl (by decide)))
      have a3 : c = va_rf ty := Option.some.inj (h4 2 (by decide) (Or.inl (by decide)))
      have a4 : d = .int mu := Option.some.inj (h4 3 (by decide) (Or.inl (by decide)))
      rw [a1, a2, a3, a4] at h2
      exact ⟨e, h2⟩
theorem isPt.st (h : LX S S2) {w v T : Nat} {ρ : lLc} (q : isPt R S0 S w v ρ T) : isPt R S0 S2 w v ρ T := by
  obtain ⟨va, sa, ta, f, g, mu, q1, q2, q3, q4, q5, q6⟩ := q
  obtain ⟨h1, h2⟩ := h.ob q1 q2 (by decide) (by decide)
  exact ⟨va, sa, ta, f, g, mu, h1, h2, q3.st h, h.ro q4.1 q4.2, h.ro q5.1 q5.2, q6⟩
theorem rAr.st (h : LX S S2) {o : Option Nat} {l : List Nat} (q : rAr R S o l) : rAr R S2 o l := by
  rcases q with q | ⟨a, f, q1, q2, q3, q4⟩
  · exact Or.inl q
  · obtain ⟨h1, h2⟩ := h.ro q2 q3
    exact Or.inr ⟨a, f, q1, h1, h2, q4⟩
theorem rAm.st (h : LX S S2) {o : Option Nat} {n1 n2 : Nat} {l : List Nat} (q : rAm R S0 S o n1 n2 l) : rAm R S0 S2 o n1 n2 l := by
  obtain ⟨a, na, aw, bk, tk, vn, fv, q1, q2, q3, q4, q5, q6, q7⟩ := q
  obtain ⟨h1, h2⟩ := h.ob q2 q3 (by decide) (by decide)
  obtain ⟨h3, h4⟩ := h.ro q4 q5
  refine ⟨a, na, aw, bk, tk, vn, fv, q1, h1, h2, h3, h4, q6, fun j v e => ?_⟩
  obtain ⟨va, x, mu, r1, r2, r3⟩ := q7 j v e
  exact ⟨va, x, mu, r1, r2.st h, r3⟩
theorem pVa.st {w v T a : Nat} {ρ : lLc} (h : LX S S2) (hp : isPt R S0 S w v ρ T) (q : pVa S w a) : pVa S2 w a := by
  obtain ⟨gs, q1, q2⟩ := q
  obtain ⟨_, _, _, _, _, _, h1, _⟩ := hp
  exact ⟨gs, (h.ob h1 q1 (by decide) (by decide)).2, q2⟩
/-- the rows at point k are as they were -/
def RK (S S2 : Sg) (k : Nat) : Prop := (∀ r : Nat, 27 ≤ r → r ≤ 35 → Zr S2 r k = Zr S r k) ∧ Zl S2 31 k = Zl S 31 k ∧ ∀ r : Nat, 36 ≤ r → r ≤ 42 → Zq S2 r k = Zq S r k
theorem rz.st {k : Nat} {i : iR} (h : LX S S2) (hk : RK S S2 k) (hl : ∀ l : Nat, i.ln = some l → Zq S2 43 l = Zq S 43 l ∧ ∀ r : Nat, 44 ≤ r → r ≤ 46 → Zr S2 r l = Zr S r l) (q : rz R S0 S k i) : rz R S0 S2 k i := by
  obtain ⟨q1, q2, q3, q4, q5, q6, q7, q8, q9, q10, q11, q12, q13, q14, q15, q16, q17, q18⟩ := q
  obtain ⟨k1, k2, k3⟩ := hk
  refine ⟨(k1 27 (by decide) (by decide)).trans q1, q2, (k1 33 (by decide) (by decide)).trans q3, q4, (k1 34 (by decide) (by decide)).trans q5, (k1 35 (by decide) (by decide)).trans q6, by rw [k3 37 (by decide) (by decide)]; exact q7.st h, by rw [k3 36 (by decide) (by decide)]; exact q8.st h, by rw [k1 32 (by decide) (by decide)]; exact q9, ?_, fun l e => ?_, ?_, ?_, ?_, ?_, ?_, ?_, ?_⟩
  · rw [k3 38 (by decide) (by decide)]
    exact q10.imp id (fun ⟨w, v, T, ρ, a, b, c, d⟩ => ⟨w, v, T, ρ, a, b, c.st h, d.st h c⟩)
  · obtain ⟨a, b, c, d⟩ := q11 l e
    obtain ⟨l1, l2⟩ := hl l e
    exact ⟨by rw [l1, k3 38 (by decide) (by decide)]; exact a, (l2 44 (by decide) (by decide)).trans b, c, (l2 45 (by decide) (by decide)).trans d⟩
  · rw [k1 30 (by decide) (by decide), k3 42 (by decide) (by decide)]
    exact q12.imp id (fun z => z.imp id (fun z => z.imp id (fun z => z.imp (fun ⟨a, b, c⟩ => ⟨a, b.st h, c⟩) id)))
  · rw [k3 39 (by decide) (by decide)]; exact q13
  · rw [k1 28 (by decide) (by decide), k1 29 (by decide) (by decide), k2]; exact q14
  · rw [k3 42 (by decide) (by decide)]; exact fun e => (q15 e).st h
  · rw [k3 40 (by decide) (by decide)]
    intro e
    obtain ⟨va, v, ty, mu, a, b, c, d⟩ := q16 e
    exact ⟨va, v, ty, mu, a, b, c.st h, d⟩
  · rw [k3 41 (by decide) (by decide)]; exact fun e => (q17 e).st h
  · rw [k1 28 (by decide) (by decide)]; exact q18
end RZS
/-- a number of a reference's type -/
def isRf (t : Nat) : Prop := 10000 ≤ t ∧ t < 30000
/-- the entry of a type on the stack -/
def eT (t : Nat) : tE := if 10000 ≤ t then (if t % 2 = 0 then (1, (t - 10000) / 2, 0) else (2, (t - 10000) / 2, 0)) else (0, t, 0)
/-- .. of what a function gives back: a reference is marked -/
def eU (t : Nat) : tE := if 10000 ≤ t then (if t % 2 = 0 then (1, (t - 10000) / 2, 1) else (2, (t - 10000) / 2, 1)) else (0, t, 0)
/-- an entry is told as another: plain ones, a reference that is no longer one -/
def wkE (e e2 : tE) : Prop := e2 = e ∨ (∃ t2 : Nat, (t2 = 1 ∨ t2 = 2 ∨ t2 = 3) ∧ e2 = (0, t2, 0) ∧ ((∃ t : Nat, (t = 1 ∨ t = 2 ∨ t = 3) ∧ e = (0, t, 0)) ∨ ∃ T : Nat, e = (1, T, 0) ∨ e = (2, T, 0)))
def wkS : List tE → List tE → Prop
  | [], [] => True
  | e :: s, e2 :: s2 => wkE e e2 ∧ wkS s s2
  | _, _ => False
theorem wkE.tr {a b c : tE} (h : wkE a b) (g : wkE b c) : wkE a c := by
  rcases h with h | ⟨t, h1, h2, h3⟩
  · rw [h] at g; exact g
  · rcases g with g | ⟨t2, g1, g2, g3⟩
    · rw [g]; exact Or.inr ⟨t, h1, h2, h3⟩
    · exact Or.inr ⟨t2, g1, g2, h3⟩
theorem wkS.rf : ∀ {s : List tE}, wkS s s
  | [] => trivial
  | _ :: _ => ⟨Or.inl rfl, wkS.rf⟩
theorem wkS.tr : ∀ {a b c : List tE}, wkS a b → wkS b c → wkS a c
  | [], [], [], _, _ => trivial
  | _ :: _, _ :: _, _ :: _, h, g => ⟨h.1.tr g.1, h.2.tr g.2⟩
  | [], _ :: _, _, h, _ => h.elim
  | _ :: _, [], _, h, _ => h.elim
  | [], [], _ :: _, _, g => g.elim
  | _ :: _, _ :: _, [], _, g => g.elim
theorem wkE.n {a b : tE} (h : wkE a b) : (a.1 = 8 ∨ a.1 = 4 ∨ a.1 = 5 ∨ a.1 = 6) ↔ (b.1 = 8 ∨ b.1 = 4 ∨ b.1 = 5 ∨ b.1 = 6) := by
  rcases h with h | ⟨t, h1, h2, ⟨u, u1, u2⟩ | ⟨T, u | u⟩⟩
  · rw [h]
  · subst h2 u2; exact ⟨fun w => by simp at w, fun w => by simp at w⟩
  · subst h2 u; exact ⟨fun w => by simp at w, fun w => by simp at w⟩
  · subst h2 u; exact ⟨fun w => by simp at w, fun w => by simp at w⟩
theorem wkS_wl : ∀ {a b : List tE}, wkS a b → wl b = wl a
  | [], [], _ => rfl
  | x :: s, y :: t, h => by
    show wl t + _ = wl s + _
    rw [wkS_wl h.2]
    by_cases q : x.1 = 8 ∨ x.1 = 4 ∨ x.1 = 5 ∨ x.1 = 6
    · rw [if_pos q, if_pos (h.1.n.mp q)]
    · rw [if_neg q, if_neg (fun w => q (h.1.n.mpr w))]
  | [], _ :: _, h => h.elim
  | _ :: _, [], h => h.elim
/-- what a function's code is told over: types, types of its variables, the heads of all functions (item: how many, types, result), what it gives, lives -/
abbrev eV := qY × (Nat → Nat) × (Nat → Nat × (Nat → Nat) × Nat) × Nat × (Nat → Nat → Int32) × (Nat → Int32) × (Nat → Nat)
def eV.y (E : eV) : qY := E.1
def eV.vt (E : eV) : Nat → Nat := E.2.1
def eV.hd (E : eV) : Nat → Nat × (Nat → Nat) × Nat := E.2.2.1
def eV.gv (E : eV) : Nat := E.2.2.2.1
def eV.lf (E : eV) : Nat → Nat → Int32 := E.2.2.2.2.1
def eV.rl (E : eV) : Nat → Int32 := E.2.2.2.2.2.1
/-- where the variables lie -/
def eV.ad (E : eV) : Nat → Nat := E.2.2.2.2.2.2
/-- a place on a variable of type T0: its way leads to T -/
def pTy (y : qY) (T0 : Nat) (ρ : lLc) (T : Nat) : Prop := (¬ isRf T0 ∧ qW y T0 ρ T) ∨ (isRf T0 ∧ ((ρ = [] ∧ T = T0) ∨ ∃ ρ2 : lLc, ρ = (1, 0) :: ρ2 ∧ qW y (y.2.1 T0) ρ2 T))
/-- nothing is looked at, held, used -/
def iD0 (i : iR) : Prop := i.ac = 0 ∧ i.pa = none ∧ i.ho = none ∧ i.ln = none ∧ i.us = [] ∧ i.fr = []
/-- what a path's variable makes used: v itself if it is a reference -/
def iUv (E : eV) (i : iR) (v : Nat) : Prop := (isRf (E.vt v) → i.us = [v] ∧ i.fr = [v]) ∧ (¬ isRf (E.vt v) → i.us = [] ∧ i.fr = [])
def cpT (T : Nat) : Prop := T = 1 ∨ T = 2 ∨ (isRf T ∧ T % 2 = 0)
/-- an entry that is nothing matched on, no reference that is given back -/
def pnE (e : tE) : Prop := e.1 ≠ 3 ∧ e.1 ≠ 4 ∧ e.1 ≠ 5 ∧ e.1 ≠ 6 ∧ ((e.1 = 1 ∨ e.1 = 2) → e.2.2 = 0)
/-- .. stands on top -/
def nT (s : List tE) : Prop := ∀ (e : tE) (r : List tE), s = e :: r → pnE e
/-- a number for a way -/
def cdL : lLc → Nat
  | [] => 0
  | (a, b) :: ρ => 2 ^ a * (2 * (2 ^ b * (2 * cdL ρ + 1)) + 1)
/-- .. for a place -/
def cdP (v : Nat) (ρ : lLc) : Nat := 2 ^ v * (2 * cdL ρ + 1)
/-- a place that is looked at -/
def iPa (E : eV) (i : iR) (s : List tE) (v : Nat) (ρ : lLc) (T : Nat) : Prop := i.pa = some (v, ρ, T) ∧ (v < 40 ∧ E.ad v = i.n2) ∧ (8, v, 0) ∈ s ∧ pTy E.y (E.vt v) ρ T ∧ qMs ρ ∧ T ≠ 0 ∧ ρ.length ≤ 4 ∧ nT s
/-- references of a call's arguments, from place q on: those that hold P -/
def arL (b : Nat) (P : Nat → Bool) : Nat → List Nat
  | 0 => []
  | n + 1 => arL b P n ++ (if P n then [40 + (b + n)] else [])
/-- an instruction at point k, its stack s, where it leads -/
def tPt (E : eV) (k : Nat) (lv : Prop) (i : iR) (s : List tE) (J : Nat → List tE → Prop) : Prop := match i.kd with
  | 0 => (iD0 i ∧ nT s) ∧ J (k + 1) s
  | 1 => (iD0 i ∧ nT s) ∧ ∃ t : Nat, (t = 1 ∨ t = 2) ∧ J (k + 1) ((0, t, 0) :: s)
  | 27 => (iD0 i ∧ nT s) ∧ ∃ t : Nat, (t = 1 ∨ t = 2) ∧ J (k + 1) ((0, t, 0) :: s)
  | 2 => i.ln = none ∧ ∃ (v : Nat) (ρ : lLc) (T : Nat), iPa E i s v ρ T ∧ iUv E i v ∧ (isRf T → i.ho = some (40 + wl s)) ∧ (¬ isRf T → i.ho = none) ∧ ((i.ac = 1 ∧ cpT T) ∨ (i.ac = 4 ∧ ¬ cpT T ∧ qM ρ) ∨ (i.ac = 5 ∧ ¬ cpT T ∧ ¬ isRf (E.vt v) ∧ ∃ σ : lLc, ρ = σ ++ [(1, 0)] ∧ qM σ)) ∧ J (k + 1) (eT T :: s)
  | 3 => ∃ (v : Nat) (ρ : lLc) (T : Nat), iPa E i s v ρ T ∧ iUv E i v ∧ i.ho = some (40 + wl s) ∧ (∃ l : Nat, i.ln = some l) ∧ T < 10000 ∧ ((i.ac = 2 ∧ i.n3 = 1 ∧ J (k + 1) ((1, T, 0) :: s)) ∨ (i.ac = 3 ∧ i.n3 = 0 ∧ (isRf (E.vt v) → E.vt v % 2 = 1) ∧ J (k + 1) ((2, T, 0) :: s)))
  | 4 => iD0 i ∧ ∃ (t1 t2 t : Nat) (r : List tE), (t1 = 1 ∨ t1 = 2) ∧ (t2 = 1 ∨ t2 = 2) ∧ (t = 1 ∨ t = 2) ∧ s = (0, t1, 0) :: (0, t2, 0) :: r ∧ J (k + 1) ((0, t, 0) :: r)
  | 5 => iD0 i ∧ ∃ (t : Nat) (r : List tE), (t = 1 ∨ t = 2) ∧ s = (0, t, 0) :: r ∧ J (k + 1) s
  | 6 => iD0 i ∧ ∃ (t : Nat) (r : List tE), (t = 1 ∨ t = 2) ∧ s = (0, t, 0) :: r ∧ J (k + 1) s
  | 7 => iD0 i ∧ ∃ (U : Nat) (r : List tE), s = (0, i.n1, 0) :: r ∧ i.n1 ≠ 0 ∧ i.n1 < 10000 ∧ E.y.1 U = 4 ∧ E.y.2.1 U = i.n1 ∧ 100 ≤ U ∧ U < 10000 ∧ J (k + 1) ((0, U, 0) :: r)
  | 8 => iD0 i ∧ ∃ (fo : Nat → Nat) (r : List tE), E.y.1 (4 + i.n1) = 2 ∧ i.n1 < 70 ∧ i.n3 = E.y.2.2.2.1 (4 + i.n1) 0 ∧ i.n3 ≤ 12 ∧ i.vs = (List.range i.n3).map fo ∧ (∀ q : Nat, q < i.n3 → fo q < i.n3) ∧ (∀ a b : Nat, a < i.n3 → b < i.n3 → fo a = fo b → a = b) ∧ s = dsl (fun q => (0, E.y.2.2.2.2 (4 + i.n1) 0 (fo q), 0)) i.n3 ++ r ∧ J (k + 1) ((0, 4 + i.n1, 0) :: r)
  | 9 => (iD0 i ∧ nT s) ∧ ∃ r : List tE, E.y.1 (4 + i.n1) = 3 ∧ i.n1 < 70 ∧ i.n2 < E.y.2.2.1 (4 + i.n1) ∧ i.n3 = E.y.2.2.2.1 (4 + i.n1) i.n2 ∧ i.n3 ≤ 12 ∧ s = dsl (fun q => (0, E.y.2.2.2.2 (4 + i.n1) i.n2 q, 0)) i.n3 ++ r ∧ J (k + 1) ((0, 4 + i.n1, 0) :: r)
  | 10 => i.ac = 0 ∧ i.pa = none ∧ (i.ln = none ∧ nT s) ∧ ∃ r : List tE, i.n3 = (E.hd i.n1).1 ∧ i.n3 ≤ 12 ∧ i.n1 < 70 ∧ s = dsl (fun q => eT ((E.hd i.n1).2.1 q)) i.n3 ++ r ∧ (∀ q : Nat, q < i.n3 → (E.hd i.n1).2.1 q ≠ 0) ∧ i.us = arL (wl r) (fun q => decide (10000 ≤ (E.hd i.n1).2.1 q ∧ (E.hd i.n1).2.1 q < 30000)) i.n3 ∧ i.fr = arL (wl r) (fun q => decide (10000 ≤ (E.hd i.n1).2.1 q ∧ (E.hd i.n1).2.1 q < 30000) && (decide (E.rl i.n1 < 0) || decide (E.lf i.n1 q = E.rl i.n1))) i.n3 ∧ (((E.hd i.n1).2.2 = 0 ∧ i.ho = none ∧ J (k + 1) r) ∨ ((E.hd i.n1).2.2 ≠ 0 ∧ (isRf (E.hd i.n1).2.2 → i.ho = some (40 + wl r)) ∧ (¬ isRf (E.hd i.n1).2.2 → i.ho = none) ∧ J (k + 1) (eT (E.hd i.n1).2.2 :: r)))
  | 11 => iD0 i ∧ ∃ (T : Nat) (r : List tE), s = (0, T, 0) :: r ∧ T ≠ 0 ∧ T < 10000 ∧ (T = i.n1 ∨ (isRf i.n1 ∧ T = 1)) ∧ J (k + 1) r
  | 12 => i.ac = 0 ∧ i.pa = none ∧ i.ln = none ∧ ∃ (v : Nat) (r : List tE), i.vs = [v] ∧ v < 40 ∧ i.ho = some v ∧ E.vt v ≠ 0 ∧ s = eT (E.vt v) :: r ∧ (8, v, 0) ∉ r ∧ wl r = 0 ∧ (isRf (E.vt v) → i.us = [40] ∧ i.fr = [40]) ∧ (¬ isRf (E.vt v) → i.us = [] ∧ i.fr = []) ∧ i.n1 = E.vt v ∧ J (k + 1) ((8, v, 0) :: r)
  | 13 => i.ac = 0 ∧ i.pa = none ∧ (i.ln = none ∧ nT s) ∧ i.us = [] ∧ i.fr = [] ∧ ∃ v : Nat, i.vs = [v] ∧ v < 40 ∧ i.ho = some v ∧ (8, v, 0) ∉ s ∧ wl s = 0 ∧ i.n1 = E.vt v ∧ J (k + 1) ((8, v, 0) :: s)
  | 14 => i.ac = 6 ∧ i.ln = none ∧ ∃ (v : Nat) (ρ : lLc) (T : Nat) (r : List tE), iPa E i r v ρ T ∧ s = eT T :: r ∧ wl r = 0 ∧ ((ρ = [] ∧ i.ho = some v ∧ (isRf T → i.us = [40] ∧ i.fr = [40]) ∧ (¬ isRf T → i.us = [] ∧ i.fr = [])) ∨ (ρ ≠ [] ∧ i.ho = none ∧ i.fr = [] ∧ (isRf (E.vt v) → i.us = [v] ∧ E.vt v % 2 = 1) ∧ (¬ isRf (E.vt v) → i.us = []))) ∧ J (k + 1) r
  | 15 => iD0 i ∧ ∃ (t : Nat) (r : List tE), (t = 1 ∨ t = 2) ∧ s = (0, t, 0) :: r ∧ J (k + 1) r
  | 16 => (iD0 i ∧ nT s) ∧ ∃ j : Nat, i.sc = [j] ∧ J j s
  | 17 => iD0 i ∧ ∃ (t j : Nat) (r : List tE), (t = 1 ∨ t = 2) ∧ s = (0, t, 0) :: r ∧ i.sc = [k + 1, j] ∧ J (k + 1) r ∧ J j r
  | 18 => iD0 i ∧ ∃ (t j : Nat) (r : List tE), (t = 1 ∨ t = 2) ∧ s = (0, t, 0) :: r ∧ i.sc = [k + 1, j] ∧ J (k + 1) r ∧ J j s
  | 19 => iD0 i ∧ ∃ (t j : Nat) (r : List tE), (t = 1 ∨ t = 2) ∧ s = (0, t, 0) :: r ∧ i.sc = [k + 1, j] ∧ J (k + 1) r ∧ J j s
  | 20 => iD0 i ∧ ∃ r : List tE, s = (0, 4 + i.n1, 0) :: r ∧ wl r = 0 ∧ i.n1 < 70 ∧ E.y.1 (4 + i.n1) = 3 ∧ i.sc.length = E.y.2.2.1 (4 + i.n1) ∧ i.sc.length ≤ 12 ∧ ∀ g j : Nat, i.sc[g]? = some j → k < j ∧ J j ((3, (4 + i.n1) * 12 + g, 1) :: r)
  | 21 => i.ho = none ∧ i.ln = none ∧ ∃ (v : Nat) (ρ : lLc), iPa E i s v ρ (4 + i.n1) ∧ iUv E i v ∧ wl s = 0 ∧ i.n1 < 70 ∧ E.y.1 (4 + i.n1) = 3 ∧ ((i.ac = 2 ∧ i.n3 = 1) ∨ (i.ac = 3 ∧ i.n3 = 0 ∧ (isRf (E.vt v) → E.vt v % 2 = 1))) ∧ i.sc.length = E.y.2.2.1 (4 + i.n1) ∧ i.sc.length ≤ 12 ∧ ∀ g j : Nat, i.sc[g]? = some j → k < j ∧ ((E.y.2.2.2.1 (4 + i.n1) g = 0 ∧ J j s) ∨ (0 < E.y.2.2.2.1 (4 + i.n1) g ∧ J j ((if i.n3 = 1 then 5 else 6, i.n1 * 12 + g, 64 * cdP v ρ) :: s)))
  | 22 => iD0 i ∧ ∃ r : List tE, s = (3, (4 + i.n1) * 12 + i.n2, 1) :: r ∧ wl r = 0 ∧ i.n1 < 70 ∧ i.n2 < 12 ∧ E.y.1 (4 + i.n1) = 3 ∧ i.n2 < E.y.2.2.1 (4 + i.n1) ∧ i.vs.length = E.y.2.2.2.1 (4 + i.n1) i.n2 ∧ i.vs.length ≤ 12 ∧ (∀ a b v : Nat, i.vs[a]? = some v → i.vs[b]? = some v → a = b) ∧ (∀ q v : Nat, i.vs[q]? = some v → v < 40 ∧ (8, v, 0) ∉ r ∧ E.vt v = E.y.2.2.2.2 (4 + i.n1) i.n2 q) ∧ J (k + 1) ((i.vs.reverse.map (fun v => (8, v, 0))) ++ r)
  | 23 => i.ac = 0 ∧ ∃ (v : Nat) (ρ : lLc) (w q g m : Nat) (r : List tE), i.vs = [w] ∧ w < 40 ∧ i.ho = some w ∧ (∃ l : Nat, i.ln = some l) ∧ s = (if i.n3 = 1 then 5 else 6, q * 12 + g, 64 * cdP v ρ + m) :: r ∧ (wl r = 0 ∧ nT r ∧ (i.n3 ≠ 1 → isRf (E.vt v) → E.vt v % 2 = 1)) ∧ (8, w, 0) ∉ r ∧ q < 70 ∧ g < 12 ∧ E.y.1 (4 + q) = 3 ∧ g < E.y.2.2.1 (4 + q) ∧ m < E.y.2.2.2.1 (4 + q) g ∧ i.pa = some (v, ρ ++ [(g + 2, m)], E.y.2.2.2.2 (4 + q) g m) ∧ (v < 40 ∧ E.ad v = i.n2) ∧ (8, v, 0) ∈ r ∧ pTy E.y (E.vt v) ρ (4 + q) ∧ qMs ρ ∧ ρ.length ≤ 4 ∧ iUv E i v ∧ E.vt w = (if i.n3 = 1 then 10000 else 10001) + 2 * E.y.2.2.2.2 (4 + q) g m ∧ E.y.2.2.2.2 (4 + q) g m < 10000 ∧ ((m + 1 = E.y.2.2.2.1 (4 + q) g ∧ J (k + 1) ((8, w, 0) :: r)) ∨ (m + 1 < E.y.2.2.2.1 (4 + q) g ∧ J (k + 1) ((if i.n3 = 1 then 5 else 6, q * 12 + g, 64 * cdP v ρ + (m + 1)) :: (8, w, 0) :: r)))
  | 24 => i.ac = 7 ∧ i.ln = none ∧ i.us = [] ∧ i.fr = [] ∧ ∃ (v : Nat) (e r : List tE), i.vs = [v] ∧ (v < 40 ∧ E.ad v = i.n2) ∧ i.ho = some v ∧ i.pa = some (v, [], E.vt v) ∧ i.n1 = E.vt v ∧ s = e ++ (8, v, 0) :: r ∧ (8, v, 0) ∉ r ∧ (e = [] ∨ (e = [eT E.gv] ∧ E.gv ≠ 0)) ∧ wl r = 0 ∧ J (k + 1) (e ++ r)
  | 25 => i.ac = 0 ∧ i.pa = none ∧ i.ho = none ∧ i.ln = none ∧ i.us = [40] ∧ i.fr = [] ∧ i.n1 = 40 ∧ s = [eT E.gv] ∧ isRf E.gv ∧ J (k + 1) [eU E.gv]
  | 26 => iD0 i ∧ (lv → (s = [] ∧ E.gv = 0) ∨ (s = [eU E.gv] ∧ E.gv ≠ 0))
  | _ => False
end
-- m0.d.lean.txt
section
/-- a way forward, or to where fuel is burnt -/
def bkO (S : Sg) (k j : Nat) : Prop := k < j ∨ Zr S 27 j = 0
/-- points from a to b lead from the stack x to the stack y; cl: no way leads through. L: loans below it -/
def tsg (R : yR) (S0 S : Sg) (E : eV) (L a b : Nat) (x y : List tE) (cl : Prop) : Prop := ∃ (st : Nat → List tE) (W : Nat → Prop), wkS x (st a) ∧ st b = y ∧ W a ∧ (cl → ¬ W b) ∧ a ≤ b ∧ ∀ k : Nat, a ≤ k → k < b → ∃ i : iR, rz R S0 S k i ∧ (∀ l : Nat, i.ln = some l → l < L) ∧ (∀ j ∈ i.sc, a ≤ j ∧ j ≤ b ∧ (W k → W j) ∧ bkO S k j) ∧ wl (st k) ≤ 177 ∧ tPt E k (W k) i (st k) (fun j s => a ≤ j ∧ j ≤ b ∧ wkS s (st j))
def pwL {α : Type} (b : Nat) (f g : Nat → α) : Nat → α := fun k => if k < b then f k else g k
theorem pwL_l {α : Type} {b k : Nat} {f g : Nat → α} (h : k < b) : pwL b f g k = f k := if_pos h
theorem pwL_r {α : Type} {b k : Nat} {f g : Nat → α} (h : ¬ k < b) : pwL b f g k = g k := if_neg h
def pcE {α : Type} (b : Nat) (y : α) (f : Nat → α) : Nat → α := fun k => if k = b then y else f k
theorem pcE_s {α : Type} {b : Nat} {y : α} {f : Nat → α} : pcE b y f b = y := if_pos rfl
theorem pcE_n {α : Type} {b k : Nat} {y : α} {f : Nat → α} (h : k ≠ b) : pcE b y f k = f k := if_neg h
section TSG
variable {R : yR} {S0 S S2 : Sg} {E : eV} {L L2 a b c : Nat} {x y z : List tE} {cl cl2 : Prop}
theorem tPt.im {k : Nat} {lv lv2 : Prop} {i : iR} {s : List tE} {J J2 : Nat → List tE → Prop} (h : tPt E k lv i s J) (hl : lv2 → lv) (hJ : ∀ (j : Nat) (s : List tE), J j s → J2 j s) : tPt E k lv2 i s J2 := by
  unfold tPt at *
  split at h
  · exact ⟨h.1, hJ _ _ h.2⟩
  · obtain ⟨h1, t, h2, h3⟩ := h; exact ⟨h1, t, h2, hJ _ _ h3⟩
  · obtain ⟨h1, t, h2, h3⟩ := h; exact ⟨h1, t, h2, hJ _ _ h3⟩
  · obtain ⟨h1, v, ρ, T, h2, h3, h4, h5, h6, h7⟩ := h; exact ⟨h1, v, ρ, T, h2, h3, h4, h5, h6, hJ _ _ h7⟩
  · obtain ⟨v, ρ, T, h2, h3, h4, h5, h6, h7⟩ := h; exact ⟨v, ρ, T, h2, h3, h4, h5, h6, h7.imp (fun w => ⟨w.1, w.2.1, hJ _ _ w.2.2⟩) (fun w => ⟨w.1, w.2.1, w.2.2.1, hJ _ _ w.2.2.2⟩)⟩
  · obtain ⟨h1, t1, t2, t, r, h2, h3, h4, h5, h6⟩ := h; exact ⟨h1, t1, t2, t, r, h2, h3, h4, h5, hJ _ _ h6⟩
  · obtain ⟨h1, t, r, h2, h3, h4⟩ := h; exact ⟨h1, t, r, h2, h3, hJ _ _ h4⟩
  · obtain ⟨h1, t, r, h2, h3, h4⟩ := h; exact ⟨h1, t, r, h2, h3, hJ _ _ h4⟩
  · obtain ⟨h1, U, r, h2, h3, h4, h5, h6, h7, h8, h9⟩ := h; exact ⟨h1, U, r, h2, h3, h4, h5, h6, h7, h8, hJ _ _ h9⟩
  · obtain ⟨h1, fo, r, h2, h3, h4, h5, h6, h7, h8, h9, h10⟩ := h; exact ⟨h1, fo, r, h2, h3, h4, h5, h6, h7, h8, h9, hJ _ _ h10⟩
  · obtain ⟨h1, r, h2, h3, h4, h5, h6, h7, h8⟩ := h; exact ⟨h1, r, h2, h3, h4, h5, h6, h7, hJ _ _ h8⟩
  · obtain ⟨h1, h2, h3, r, h4, h5, h6, h7, h8, h9, h10, h11⟩ := h; exact ⟨h1, h2, h3, r, h4, h5, h6, h7, h8, h9, h10, h11.imp (fun w => ⟨w.1, w.2.1, hJ _ _ w.2.2⟩) (fun w => ⟨w.1, w.2.1, w.2.2.1, hJ _ _ w.2.2.2⟩)⟩
  · obtain ⟨h1, T, r, h2, h3, h4, h5, h6⟩ := h; exact ⟨h1, T, r, h2, h3, h4, h5, hJ _ _ h6⟩
  · obtain ⟨h1, h2, h3, v, r, h4, h5, h6, h7, h8, h9, h10, h11, h12, h13, h14⟩ := h; exact ⟨h1, h2, h3, v, r, h4, h5, h6, h7, h8, h9, h10, h11, h12, h13, hJ _ _ h14⟩
  · obtain ⟨h1, h2, h3, h4, h5, v, h6, h7, h8, h9, h10, h11, h12⟩ := h; exact ⟨h1, h2, h3, h4, h5, v, h6, h7, h8, h9, h10, h11, hJ _ _ h12⟩
  · obtain ⟨h1, h2, v, ρ, T, r, h3, h4, h5, h6, h7⟩ := h; exact ⟨h1, h2, v, ρ, T, r, h3, h4, h5, h6, hJ _ _ h7⟩
  · obtain ⟨h1, t, r, h2, h3, h4⟩ := h; exact ⟨h1, t, r, h2, h3, hJ _ _ h4⟩
  · obtain ⟨h1, j, h2, h3⟩ := h; exact ⟨h1, j, h2, hJ _ _ h3⟩
  · obtain ⟨h1, t, j, r, h2, h3, h4, h5, h6⟩ := h; exact ⟨h1, t, j, r, h2, h3, h4, hJ _ _ h5, hJ _ _ h6⟩
  · obtain ⟨h1, t, j, r, h2, h3, h4, h5, h6⟩ := h; exact ⟨h1, t, j, r, h2, h3, h4, hJ _ _ h5, hJ _ _ h6⟩
  · obtain ⟨h1, t, j, r, h2, h3, h4, h5, h6⟩ := h; exact ⟨h1, t, j, r, h2, h3, h4, hJ _ _ h5, hJ _ _ h6⟩
  · obtain ⟨h1, r, h2, h3, h4, h5, h6, h7, h8⟩ := h; exact ⟨h1, r, h2, h3, h4, h5, h6, h7, fun g j e => ⟨(h8 g j e).1, hJ _ _ (h8 g j e).2⟩⟩
  · obtain ⟨h1, h2, v, ρ, h3, h4, h5, h6, h7, h8, h9, h10, h11⟩ := h; exact ⟨h1, h2, v, ρ, h3, h4, h5, h6, h7, h8, h9, h10, fun g j e => ⟨(h11 g j e).1, (h11 g j e).2.imp (fun w => ⟨w.1, hJ _ _ w.2⟩) (fun w => ⟨w.1, hJ _ _ w.2⟩)⟩⟩
  · obtain ⟨h1, r, h2, h3, h4, h5, h6, h7, h8, h9, h10, h11, h12⟩ := h; exact ⟨h1, r, h2, h3, h4, h5, h6, h7, h8, h9, h10, h11, hJ _ _ h12⟩
  · obtain ⟨h1, v, ρ, w, q, g, m, r, h2, h3, h4, h5, h6, h7, h8, h9, h10, h11, h12, h13, h14, h15, h16, h17, h18, h19, h20, h21, h22, h23⟩ := h; exact ⟨h1, v, ρ, w, q, g, m, r, h2, h3, h4, h5, h6, h7, h8, h9, h10, h11, h12, h13, h14, h15, h16, h17, h18, h19, h20, h21, h22, h23.imp (fun w => ⟨w.1, hJ _ _ w.2⟩) (fun w => ⟨w.1, hJ _ _ w.2⟩)⟩
  · obtain ⟨h1, h2, h3, h4, v, e, r, h5, h6, h7, h8, h9, h10, h11, h12, h13, h14⟩ := h; exact ⟨h1, h2, h3, h4, v, e, r, h5, h6, h7, h8, h9, h10, h11, h12, h13, hJ _ _ h14⟩
  · obtain ⟨h1, h2, h3, h4, h5, h6, h7, h8, h9, h10⟩ := h; exact ⟨h1, h2, h3, h4, h5, h6, h7, h8, h9, hJ _ _ h10⟩
  · exact ⟨h.1, fun w => h.2 (hl w)⟩
  · exact h.elim
theorem bkO.st {k j : Nat} (h : bkO S k j) (hz : LZ b L S S2) (hk : k < b) : bkO S2 k j := by
  by_cases e : k < j
  · exact Or.inl e
  · exact Or.inr (((hz.2.1 j (by omega)).1 27 (by decide) (by decide)).trans (h.resolve_left e))
theorem bkO.ur {k j : Nat} {f : Nat → Int32} (h : bkO S k j) : bkO (Ur S 30 f) k j := h.imp id (fun w => (congrFun (va_up_ne (Zr S) f (show (27 : Nat) ≠ 30 by decide)) j).trans w)
/-- the state behind: rows below b, loans below L stay -/
theorem tsg.st (h : tsg R S0 S E L a b x y cl) (hz : LZ b L S S2) : tsg R S0 S2 E L a b x y cl := by
  obtain ⟨st, W, h1, h2, h3, h4, h5, h6⟩ := h
  refine ⟨st, W, h1, h2, h3, h4, h5, fun k hk hb => ?_⟩
  obtain ⟨i, q1, q2, q3, q4⟩ := h6 k hk hb
  exact ⟨i, q1.st hz.1 (hz.2.1 k hb) (fun l e => hz.2.2.1 l (q2 l e)), q2, fun j hj => ⟨(q3 j hj).1, (q3 j hj).2.1, (q3 j hj).2.2.1, (q3 j hj).2.2.2.st hz hb⟩, q4⟩
theorem tsg.up (h : tsg R S0 S E L a b x y cl) (hl : L ≤ L2) : tsg R S0 S E L2 a b x y cl := by
  obtain ⟨st, W, h1, h2, h3, h4, h5, h6⟩ := h
  refine ⟨st, W, h1, h2, h3, h4, h5, fun k hk hb => ?_⟩
  obtain ⟨i, q1, q2, q3⟩ := h6 k hk hb
  exact ⟨i, q1, fun l e => Nat.lt_of_lt_of_le (q2 l e) hl, q3⟩
/-- .. a jump of another point, outside of it, is set -/
theorem tsg.jp (h : tsg R S0 S E L a b x y cl) {n : Nat} {v : Int32} (hn : n < a ∨ b ≤ n) : tsg R S0 (Ur S 30 (upd (Zr S 30) n v)) E L a b x y cl := by
  obtain ⟨st, W, h1, h2, h3, h4, h5, h6⟩ := h
  refine ⟨st, W, h1, h2, h3, h4, h5, fun k hk hb => ?_⟩
  obtain ⟨i, q1, q2, q3, q4⟩ := h6 k hk hb
  refine ⟨i, q1.st (LZ.ur (P := 0) (L := 0) (by decide) (Nat.zero_le _)).1 ⟨fun r h1 h2 => ?_, rfl, fun _ _ _ => rfl⟩ (fun l e => ⟨rfl, fun r h1 h2 => ?_⟩), q2, fun j hj => ⟨(q3 j hj).1, (q3 j hj).2.1, (q3 j hj).2.2.1, (q3 j hj).2.2.2.ur⟩, q4⟩
  · show va_up (Zr S) 30 (upd (Zr S 30) n v) r k = _
    by_cases e : r = 30
    · subst e; rw [va_up_self]; exact if_neg (by omega)
    · rw [va_up_ne _ _ e]
  · show va_up (Zr S) 30 (upd (Zr S 30) n v) r l = _
    rw [va_up_ne _ _ (by omega)]
theorem tsg.nil (h : wkS x y) : tsg R S0 S E L a a x y False := ⟨fun _ => y, fun _ => True, h, rfl, trivial, fun w => w.elim, Nat.le_refl _, fun k hk hb => by omega⟩
theorem tsg.wk {x2 y2 : List tE} (h : tsg R S0 S E L a b x y cl) (hx : wkS x2 x) (hy : wkS y y2) (hc : cl2 → cl) (hab : a < b) : tsg R S0 S E L a b x2 y2 cl2 := by
  obtain ⟨st, W, h1, h2, h3, h4, h5, h6⟩ := h
  refine ⟨pcE b y2 st, W, by rw [pcE_n (by omega)]; exact hx.tr h1, pcE_s, h3, fun w => h4 (hc w), h5, fun k hk hb => ?_⟩
  obtain ⟨i, q1, q2, q3, q4, q5⟩ := h6 k hk hb
  refine ⟨i, q1, q2, q3, by rw [pcE_n (by omega)]; exact q4, ?_⟩
  rw [pcE_n (show k ≠ b by omega)]
  refine q5.im (fun w => w) (fun j s ⟨j1, j2, j3⟩ => ⟨j1, j2, ?_⟩)
  by_cases e : j = b
  · subst e; rw [pcE_s]; rw [h2] at j3; exact j3.tr hy
  · rw [pcE_n e]; exact j3
/-- one behind the other -/
theorem tsg.app (h : tsg R S0 S E L a b x y cl) (g : tsg R S0 S E L b c y z cl2) : tsg R S0 S E L a c x z (cl ∨ cl2) := by
  obtain ⟨st, W, h1, h2, h3, h4, h5, h6⟩ := h
  obtain ⟨st2, W2, g1, g2, g3, g4, g5, g6⟩ := g
  -- behind b the second, but if no way leads there nothing is reached
  refine ⟨pwL b st st2, pwL b W (fun k => W b ∧ W2 k), ?_, ?_, ?_, fun w => ?_, by omega, fun k hk hb => ?_⟩
  · by_cases e : a < b
    · rw [pwL_l e]; exact h1
    · obtain rfl : a = b := by omega
      rw [pwL_r e]
      rw [h2] at h1
      exact h1.tr g1
  · rw [pwL_r (by omega)]; exact g2
  · by_cases e : a < b
    · rw [pwL_l e]; exact h3
    · obtain rfl : a = b := by omega
      rw [pwL_r e]; exact ⟨h3, g3⟩
  · rw [pwL_r (by omega)]
    rcases w with w | w
    · exact fun q => h4 w q.1
    · exact fun q => g4 w q.2
  · by_cases e : k < b
    · obtain ⟨i, q1, q2, q3, q4, q5⟩ := h6 k hk e
      refine ⟨i, q1, q2, fun j hj => ?_, by rw [pwL_l e]; exact q4, ?_⟩
      · obtain ⟨j1, j2, j3, j4⟩ := q3 j hj
        refine ⟨j1, by omega, ?_, j4⟩
        rw [pwL_l e]
        by_cases e2 : j < b
        · rw [pwL_l e2]; exact j3
        · obtain rfl : j = b := by omega
          rw [pwL_r e2]; exact fun w => ⟨j3 w, g3⟩
      · rw [pwL_l e, pwL_l e]
        refine q5.im (fun w => w) (fun j s ⟨j1, j2, j3⟩ => ⟨j1, by omega, ?_⟩)
        by_cases e2 : j < b
        · rw [pwL_l e2]; exact j3
        · obtain rfl : j = b := by omega
          rw [pwL_r e2]; rw [h2] at j3; exact j3.tr g1
    · obtain ⟨i, q1, q2, q3, q4, q5⟩ := g6 k (by omega) hb
      refine ⟨i, q1, q2, fun j hj => ?_, by rw [pwL_r e]; exact q4, ?_⟩
      · obtain ⟨j1, j2, j3, j4⟩ := q3 j hj
        refine ⟨by omega, j2, ?_, j4⟩
        rw [pwL_r e, pwL_r (by omega)]; exact fun w => ⟨w.1, j3 w.2⟩
      · rw [pwL_r e, pwL_r e]
        refine q5.im (fun w => w.2) (fun j s ⟨j1, j2, j3⟩ => ⟨by omega, j2, ?_⟩)
        rw [pwL_r (by omega)]; exact j3
/-- one point -/
theorem tsg.one {i : iR} (h : rz R S0 S a i) (hl : ∀ l : Nat, i.ln = some l → l < L) (hs : ∀ j ∈ i.sc, j = a + 1) (hw : wl x ≤ 177) (ht : tPt E a True i x (fun j s => j = a + 1 ∧ wkS s y)) (hc : cl → i.sc = []) : tsg R S0 S E L a (a + 1) x y cl := by
  refine ⟨pcE a x (fun _ => y), fun k => k = a ∨ i.sc ≠ [], by rw [pcE_s]; exact wkS.rf, pcE_n (by omega), Or.inl rfl, fun w q => ?_, by omega, fun k hk hb => ?_⟩
  · rcases q with q | q
    · omega
    · exact q (hc w)
  · obtain rfl : k = a := by omega
    refine ⟨i, h, hl, fun j hj => ⟨by have := hs j hj; omega, by have := hs j hj; omega, fun _ => Or.inr (fun e => by rw [e] at hj; cases hj), Or.inl (by have := hs j hj; omega)⟩, by rw [pcE_s]; exact hw, ?_⟩
    rw [pcE_s]
    exact ht.im (fun _ => trivial) (fun j s ⟨j1, j2⟩ => ⟨by omega, by omega, by rw [pcE_n (by omega)]; exact j2⟩)
end TSG
end
