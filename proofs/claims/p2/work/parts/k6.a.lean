/-- what was read: rows' classes and room, the state then, tokens, bytes, items, where they lie, their tokens, kinds, the last token; the rows of parameters' variables, with their tokens -/
abbrev yR : Type := Ky × Sg × Nat × Nat × Nat × (Nat → Nat) × (Nat → Nat) × (Nat → Nat) × (Nat → Int32) × Nat × (Nat → Option Nat)
def yR.K (R : yR) : Ky := R.1
def yR.S (R : yR) : Sg := R.2.1
def yR.T (R : yR) : Nat := R.2.2.1
def yR.zs (R : yR) : Nat := R.2.2.2.1
def yR.im (R : yR) : Nat := R.2.2.2.2.1
def yR.ws (R : yR) : Nat → Nat := R.2.2.2.2.2.1
def yR.ps (R : yR) : Nat → Nat := R.2.2.2.2.2.2.1
def yR.ms (R : yR) : Nat → Nat := R.2.2.2.2.2.2.2.1
def yR.ik (R : yR) : Nat → Int32 := R.2.2.2.2.2.2.2.2.1
def yR.qz (R : yR) : Nat := R.2.2.2.2.2.2.2.2.2.1
def yR.pw (R : yR) : Nat → Option Nat := R.2.2.2.2.2.2.2.2.2.2
/-- how many types there are -/
def tmS (S : Sg) : Nat := (Zi S 19).toNatClampNeg
/-- x is a type: its kind, its item, what it is of -/
def isTy (S : Sg) (x : Nat) (kd ix : Int32) (o : Option Nat) : Prop := ∃ t : Nat, t < tmS S ∧ Zq S 18 t = some x ∧ x ∈ ZL S ∧ ZF S x = .inr (20, [.int kd, .int ix, .int (nI t), va_rf o])
theorem va_rf_inj {o p : Option Nat} (h : va_rf o = va_rf p) : o = p := by
  cases o with
  | none => cases p with
    | none => rfl
    | some _ => cases h
  | some a => cases p with
    | none => cases h
    | some b => cases h; rfl
theorem isTy_fn {S : Sg} {x : Nat} {kd ix kd2 ix2 : Int32} {o o2 : Option Nat} (h : isTy S x kd ix o) (g : isTy S x kd2 ix2 o2) : kd = kd2 ∧ ix = ix2 ∧ o = o2 := by
  obtain ⟨t, h1, h2, h3, h4⟩ := h
  obtain ⟨u, g1, g2, g3, g4⟩ := g
  rw [h4] at g4
  have e := (Prod.mk.inj (Sum.inr.inj g4)).2
  simp only [List.cons.injEq, Value.int.injEq, and_true] at e
  exact ⟨e.1, e.2.1, va_rf_inj e.2.2.2⟩
/-- a variable: its number, name, type, whether it is mutable -/
def vrC (ix : Nat) (nm : Int32) (ty : Option Nat) (mu : Int32) : va_E := .inr (21, [.int (nI ix), .int nm, va_rf ty, .int mu, .null])
/-- v is a variable -/
def isV (S : Sg) (v ix : Nat) (nm : Int32) (ty : Option Nat) (mu : Int32) : Prop := v ∈ ZL S ∧ ZF S v = vrC ix nm ty mu
/-- a type of values: plain, an item's, or a box of one -/
def vTyn (S : Sg) : Nat → Nat → Prop
  | 0, _ => False
  | n + 1, x => ∃ (kd ix : Int32) (o : Option Nat), isTy S x kd ix o ∧ ((kd = 0 ∨ kd = 1 ∨ kd = 2 ∨ kd = 3 ∨ kd = 4) ∨ (kd = 5 ∧ ∃ u : Nat, o = some u ∧ vTyn S n u))
def vTy (S : Sg) (x : Nat) : Prop := ∃ n : Nat, vTyn S n x
/-- .. or a reference to one -/
def rTy (S : Sg) (x : Nat) : Prop := vTy S x ∨ ∃ (kd : Int32) (u : Nat), isTy S x kd 0 (some u) ∧ (kd = 6 ∨ kd = 7) ∧ vTy S u
theorem vTyn_im {S S2 : Sg} (h : ∀ (x : Nat) (kd ix : Int32) (o : Option Nat), isTy S x kd ix o → isTy S2 x kd ix o) : ∀ {n x : Nat}, vTyn S n x → vTyn S2 n x
  | 0, _, q => q.elim
  | n + 1, x, ⟨kd, ix, o, q1, q2⟩ => ⟨kd, ix, o, h _ _ _ _ q1, q2.imp id (fun ⟨a, u, b, c⟩ => ⟨a, u, b, vTyn_im h c⟩)⟩
theorem vTy.im {S S2 : Sg} {x : Nat} (h : vTy S x) (g : ∀ (x : Nat) (kd ix : Int32) (o : Option Nat), isTy S x kd ix o → isTy S2 x kd ix o) : vTy S2 x := h.elim (fun n h => ⟨n, vTyn_im g h⟩)
theorem rTy.im {S S2 : Sg} {x : Nat} (h : rTy S x) (g : ∀ (x : Nat) (kd ix : Int32) (o : Option Nat), isTy S x kd ix o → isTy S2 x kd ix o) : rTy S2 x := h.imp (fun h => h.im g) (fun ⟨kd, u, h1, h2, h3⟩ => ⟨kd, u, g _ _ _ _ h1, h2, h3.im g⟩)
/-- .. but for the ints, the rows and the function that is typed -/
def VZ (R : yR) (X : Nat → Prop) (S S2 : Sg) : Prop := (∀ a ∈ ZL R.S, ¬ X a → ZF S2 a = ZF S a) ∧ (∀ a ∈ ZL S, a ∈ ZL S2) ∧ (∀ (x : Nat) (kd ix : Int32) (o : Option Nat), isTy S x kd ix o → isTy S2 x kd ix o) ∧ (∀ (v ix : Nat) (nm : Int32) (ty : Option Nat) (mu : Int32), isV S v ix nm ty mu → ∃ t2 : Option Nat, isV S2 v ix nm t2 mu ∧ ((ty = none ∧ ∀ x : Nat, t2 = some x → rTy S2 x) ∨ t2 = ty)) ∧ (Zi S2 3 = 0 → Zi S 3 = 0)
/-- from S to S2: of what was read only cells of X are written; types stay, variables may get their type -/
def VX (R : yR) (X : Nat → Prop) (S S2 : Sg) : Prop := ((∀ j : Nat, j ≠ 3 → j ≠ 4 → j ≠ 19 → j ≠ 23 → j ≠ 24 → Zi S2 j = Zi S j) ∧ Zr S2 = Zr S ∧ Zl S2 = Zl S ∧ (∀ r : Nat, r ≠ 18 → r ≠ 22 → Zq S2 r = Zq S r) ∧ Zf S2 = Zf S) ∧ VZ R X S S2
/-- the scope stays -/
def VS (S S2 : Sg) : Prop := Zi S2 23 = Zi S 23 ∧ Zi S2 24 = Zi S 24 ∧ (Zq S2 22 = Zq S 22 ∧ ∀ (a k : Nat) (vs : List Value), k = 13 ∨ k = 19 → a ∈ ZL S → ZF S a = .inr (k, vs) → a ∈ ZL S2 ∧ ZF S2 a = .inr (k, vs)) ∧ ∀ (v ix : Nat) (nm : Int32) (ty : Option Nat) (mu : Int32), isV S v ix nm ty mu → isV S2 v ix nm ty mu
theorem VX.rf {R : yR} {X : Nat → Prop} {S : Sg} : VX R X S S := ⟨⟨fun _ _ _ _ _ _ => rfl, rfl, rfl, fun _ _ _ => rfl, rfl⟩, fun _ _ _ => rfl, fun _ h => h, fun _ _ _ _ h => h, fun _ _ _ _ _ h => ⟨_, h, Or.inr rfl⟩, id⟩
theorem VX.tr {R : yR} {X Y : Nat → Prop} {S S1 S2 : Sg} (h : VX R X S S1) (g : VX R Y S1 S2) (hX : ∀ a : Nat, Y a → X a) : VX R X S S2 := by
  obtain ⟨⟨h1, h2, h3, h4, h5⟩, h6, h7, h8, h9, h10⟩ := h
  obtain ⟨⟨g1, g2, g3, g4, g5⟩, g6, g7, g8, g9, g10⟩ := g
  refine ⟨⟨fun j a b c d e => (g1 j a b c d e).trans (h1 j a b c d e), g2.trans h2, g3.trans h3, fun r a b => (g4 r a b).trans (h4 r a b), g5.trans h5⟩, fun a ha q => (g6 a ha (fun w => q (hX a w))).trans (h6 a ha q), fun a ha => g7 a (h7 a ha), fun x kd ix o q => g8 x kd ix o (h8 x kd ix o q), fun v ix nm ty mu q => ?_, fun q => h10 (g10 q)⟩
  obtain ⟨t1, a1, a2⟩ := h9 v ix nm ty mu q
  obtain ⟨t2, b1, b2⟩ := g9 v ix nm t1 mu a1
  refine ⟨t2, b1, ?_⟩
  rcases a2 with ⟨a2, a3⟩ | a2
  · rcases b2 with ⟨b2, b3⟩ | b2
    · exact Or.inl ⟨a2, b3⟩
    · exact Or.inl ⟨a2, fun x e => (a3 x (b2.symm.trans e)).im g8⟩
  · rcases b2 with ⟨b2, b3⟩ | b2
    · exact Or.inl ⟨a2.symm.trans b2, b3⟩
    · exact Or.inr (b2.trans a2)
theorem VX.mo {R : yR} {X Y : Nat → Prop} {S S2 : Sg} (h : VX R X S S2) (hX : ∀ a : Nat, X a → Y a) : VX R Y S S2 := ⟨h.1, fun a ha q => h.2.1 a ha (fun w => q (hX a w)), h.2.2⟩
theorem VX.n {R : yR} {X : Nat → Prop} {S S1 S2 : Sg} (h : VX R X S S1) (g : VX R nX S1 S2) : VX R X S S2 := h.tr g (fun _ q => q.elim)
theorem VX.b {R : yR} {X : Nat → Prop} {S S1 S2 : Sg} (h : VX R nX S S1) (g : VX R X S1 S2) : VX R X S S2 := (h.mo (fun _ q => q.elim)).tr g (fun _ q => q)
theorem VS.rf {S : Sg} : VS S S := ⟨rfl, rfl, ⟨rfl, fun _ _ _ _ h1 h2 => ⟨h1, h2⟩⟩, fun _ _ _ _ _ h => h⟩
theorem VS.tr {S S1 S2 : Sg} (h : VS S S1) (g : VS S1 S2) : VS S S2 := ⟨g.1.trans h.1, g.2.1.trans h.2.1, ⟨g.2.2.1.1.trans h.2.2.1.1, fun a k vs hk h1 h2 => g.2.2.1.2 a k vs hk (h.2.2.1.2 a k vs hk h1 h2).1 (h.2.2.1.2 a k vs hk h1 h2).2⟩, fun v ix nm ty mu q => g.2.2.2 v ix nm ty mu (h.2.2.2 v ix nm ty mu q)⟩
/-- the typing's state: c the tokens that the types made so far may be charged to, nv variables made -/
def TS (R : yR) (c nv : Nat) (S : Sg) : Prop := ∃ (G : Nat → va_E) (tm : Nat) (Y : Nat → Int32 × Int32 × Option Nat) (ad : Nat → Nat), TQ R.K S G R.T R.zs R.im R.ws R.ps R.ms R.ik R.qz tm Y ad (Zz R.S) (Zn R.S) nv ∧ (∀ a ∈ ZL R.S, a ∈ ZL S ∧ G a = ZF R.S a) ∧ ptN Y tm ≤ c + 4 ∧ ((∀ j : Nat, j ≠ 3 → j ≠ 4 → j ≠ 19 → j ≠ 21 → j ≠ 23 → j ≠ 24 → Zi S j = Zi R.S j) ∧ (∀ r : Nat, r ≠ 20 → Zr S r = Zr R.S r) ∧ Zl S = Zl R.S ∧ ∀ r : Nat, r ≠ 18 → r ≠ 22 → Zq S r = Zq R.S r)
/-- room for the typing -/
def yRm (R : yR) : Prop := Zz R.S + 40000 ≤ R.K.2.1 ∧ Zn R.S + 400000 ≤ R.K.2.2 ∧ ∀ i j : Nat, i < 14 → j < 14 → i ≠ j → R.K.1 i ≠ R.K.1 j
section TSL
variable {R : yR} {c nv : Nat} {S : Sg}
theorem TS.up (h : TS R c nv S) {c2 : Nat} (hc : c ≤ c2) : TS R c2 nv S := by
  obtain ⟨G, tm, Y, ad, h1, h2, h3, h4⟩ := h
  exact ⟨G, tm, Y, ad, h1, h2, by omega, h4⟩
theorem TS.fk (h : TS R c nv S) {r : Nat} (hr : r ≠ 20) : Zr S r = Zr R.S r := by
  obtain ⟨G, tm, Y, ad, h1, h2, h3, h4⟩ := h
  exact h4.2.1 r hr
theorem TS.L (h : TS R c nv S) {a : Nat} (ha : a ∈ ZL R.S) : a ∈ ZL S := by
  obtain ⟨G, tm, Y, ad, h1, h2, h3, h4⟩ := h
  exact (h2 a ha).1
theorem TQ.tm9 {K : Ky} {G : Nat → va_E} {T zs im : Nat} {xI ps ms : Nat → Nat} {ik : Nat → Int32} {qz tm : Nat} {Y : Nat → Int32 × Int32 × Option Nat} {ad : Nat → Nat} {z0 n0 vt : Nat} (h : TQ K S G T zs im xI ps ms ik qz tm Y ad z0 n0 vt) (ht : tm ≤ 2000) : tmS S = tm := by unfold tmS; rw [h.2.2.2.1, nI_clamp (by omega)]
theorem TQ.ty9 {K : Ky} {G : Nat → va_E} {T zs im : Nat} {xI ps ms : Nat → Nat} {ik : Nat → Int32} {qz tm : Nat} {Y : Nat → Int32 × Int32 × Option Nat} {ad : Nat → Nat} {z0 n0 vt : Nat} (h : TQ K S G T zs im xI ps ms ik qz tm Y ad z0 n0 vt) (ht : tm ≤ 2000) {t : Nat} (htt : t < tm) : isTy S (ad t) (Y t).1 (Y t).2.1 (Y t).2.2 := by
  obtain ⟨h1, h2, h3⟩ := h.ty htt
  exact ⟨t, by rw [h.tm9 ht]; exact htt, h1, h2, h3⟩
theorem TQ.of9 {K : Ky} {G : Nat → va_E} {T zs im : Nat} {xI ps ms : Nat → Nat} {ik : Nat → Int32} {qz tm : Nat} {Y : Nat → Int32 × Int32 × Option Nat} {ad : Nat → Nat} {z0 n0 vt : Nat} (h : TQ K S G T zs im xI ps ms ik qz tm Y ad z0 n0 vt) (ht : tm ≤ 2000) {x : Nat} {kd ix : Int32} {o : Option Nat} (hx : isTy S x kd ix o) : ∃ t : Nat, t < tm ∧ x = ad t ∧ Y t = (kd, ix, o) := by
  have hx' := hx
  obtain ⟨t, h1, h2, h3, h4⟩ := hx
  rw [h.tm9 ht] at h1
  obtain ⟨g1, g2, g3⟩ := h.ty h1
  have e : x = ad t := Option.some.inj (h2.symm.trans g1)
  subst e
  obtain ⟨e1, e2, e3⟩ := isTy_fn hx' (h.ty9 ht h1)
  exact ⟨t, h1, rfl, Prod.ext e1.symm (Prod.ext e2.symm e3.symm)⟩
theorem TS.at (h : TS R c nv S) (hc : c ≤ 1990) {x : Nat} {kd ix : Int32} {o : Option Nat} (hx : isTy S x kd ix o) : yOK R.im R.ik (kd, ix, o) ∧ ∀ u : Nat, o = some u → ∃ (k i : Int32) (p : Option Nat), isTy S u k i p := by
  obtain ⟨G, tm, Y, ad, h1, h2, h3, h4⟩ := h
  have htm : tm ≤ 2000 := by have := ptN_ge (Y := Y) (tm := tm); omega
  obtain ⟨t, g1, g2, g3⟩ := h1.of9 htm hx
  refine ⟨by rw [← g3]; exact h1.1.2.2.2.2 t g1, fun u hu => ?_⟩
  obtain ⟨_, _, _, k4⟩ := h1.1.2.2.2.1.1 t g1
  rw [g3] at k4
  rcases k4 with k4 | ⟨v, k5, k6⟩
  · rw [hu] at k4; cases k4
  · rw [hu] at k6
    cases k6
    exact ⟨_, _, _, h1.ty9 htm (by omega)⟩
theorem TS.eq (h : TS R c nv S) (hc : c ≤ 1990) {x y : Nat} {kd ix : Int32} {o : Option Nat} (hx : isTy S x kd ix o) (hy : isTy S y kd ix o) : x = y := by
  obtain ⟨G, tm, Y, ad, h1, h2, h3, h4⟩ := h
  have htm : tm ≤ 2000 := by have := ptN_ge (Y := Y) (tm := tm); omega
  obtain ⟨t, g1, g2, g3⟩ := h1.of9 htm hx
  obtain ⟨u, k1, k2, k3⟩ := h1.of9 htm hy
  rw [g2, k2, h1.1.2.2.2.1.2 t u g1 k1 (g3.trans k3.symm)]
/-- a member of the typing that only makes types -/
theorem TS.bk {G : Nat → va_E} {tm : Nat} {Y : Nat → Int32 × Int32 × Option Nat} {ad : Nat → Nat} {S2 : Sg} {G2 : Nat → va_E} {tm2 : Nat} {Y2 : Nat → Int32 × Int32 × Option Nat} {ad2 : Nat → Nat} {dp : Nat} (h1 : TQ R.K S G R.T R.zs R.im R.ws R.ps R.ms R.ik R.qz tm Y ad (Zz R.S) (Zn R.S) nv) (h2 : ∀ a ∈ ZL R.S, a ∈ ZL S ∧ G a = ZF R.S a) (h3 : ptN Y tm ≤ c + 4) (h4 : (∀ j : Nat, j ≠ 3 → j ≠ 4 → j ≠ 19 → j ≠ 21 → j ≠ 23 → j ≠ 24 → Zi S j = Zi R.S j) ∧ (∀ r : Nat, r ≠ 20 → Zr S r = Zr R.S r) ∧ Zl S = Zl R.S ∧ ∀ r : Nat, r ≠ 18 → r ≠ 22 → Zq S r = Zq R.S r) (g : TyM R.K S G R.T R.zs R.im R.ws R.ps R.ms R.ik R.qz tm Y ad (Zz R.S) (Zn R.S) nv dp S2 G2 tm2 Y2 ad2) (hc : c + dp ≤ 1990) : TS R (c + dp) nv S2 ∧ VX R nX S S2 ∧ VS S S2 ∧ tm2 ≤ 2000 := by
  obtain ⟨g1, g2, g3, g4, g5, g6⟩ := g
  have htm : tm ≤ 2000 := by have := ptN_ge (Y := Y) (tm := tm); omega
  have htm2 : tm2 ≤ 2000 := by have := ptN_ge (Y := Y2) (tm := tm2); omega
  have hV : ∀ (v ix : Nat) (nm : Int32) (ty : Option Nat) (mu : Int32), isV S v ix nm ty mu → isV S2 v ix nm ty mu := fun v ix nm ty mu q => ⟨(g3 v q.1).1, (g3 v q.1).2.trans q.2⟩
  refine ⟨⟨G2, tm2, Y2, ad2, g1, fun a ha => ⟨(g3 a (h2 a ha).1).1, ((g2.1 a (h2 a ha).1).2).trans (h2 a ha).2⟩, by omega, fun j a b c d e f => (g4.1 j a b c).trans (h4.1 j a b c d e f), fun r hr => (congrFun g4.2.1 r).trans (h4.2.1 r hr), g4.2.2.1.trans h4.2.2.1, fun r a b => (g4.2.2.2.1 r a).trans (h4.2.2.2 r a b)⟩, ⟨⟨fun j a b c _ _ => g4.1 j a b c, g4.2.1, g4.2.2.1, fun r a _ => g4.2.2.2.1 r a, g4.2.2.2.2⟩, fun a ha _ => (g3 a (h2 a ha).1).2, fun a ha => (g3 a ha).1, fun x kd ix o q => ?_, fun v ix nm ty mu q => ⟨ty, hV v ix nm ty mu q, Or.inr rfl⟩, g5⟩, ⟨g4.1 23 (by decide) (by decide) (by decide), g4.1 24 (by decide) (by decide) (by decide), ⟨g4.2.2.2.1 22 (by decide), fun a k vs _ q1 q2 => ⟨(g3 a q1).1, (g3 a q1).2.trans q2⟩⟩, hV⟩, htm2⟩
  obtain ⟨t, k1, k2, k3⟩ := h1.of9 htm q
  have k4 := g1.ty9 htm2 (t := t) (Nat.lt_of_lt_of_le k1 g2.2.1)
  rw [(g2.2.2 t k1).1, (g2.2.2 t k1).2, k3, ← k2] at k4
  exact k4
/-- type -/
theorem typ_ (hK : yRm R) (hv : nv ≤ 10000) (h : TS R c nv S) {kd ix : Int32} {o : Option Nat} (hy : yOK R.im R.ik (kd, ix, o)) (ho : o = none ∨ ∃ (u : Nat) (k i : Int32) (p : Option Nat), o = some u ∧ isTy S u k i p) (hc : c < 1990) : Rt (f_type R.K S kd ix o) (fun S2 r => ∃ x : Nat, r = some x ∧ TS R (c + 1) nv S2 ∧ isTy S2 x kd ix o ∧ VX R nX S S2 ∧ VS S S2 ∧ Zi S2 3 = Zi S 3) := by
  obtain ⟨G, tm, Y, ad, h1, h2, h3, h4⟩ := h
  have htm : tm < 2000 := by have := ptN_ge (Y := Y) (tm := tm); omega
  refine (type_ ⟨hK.1, hK.2.1⟩ hv h1 hy ?_ htm).mo (fun S2 r q => ?_)
  · rcases ho with ho | ⟨u, k, i, p, ho, hu⟩
    · exact Or.inl ho
    · obtain ⟨t, g1, g2, g3⟩ := h1.of9 (by omega) hu
      exact Or.inr ⟨t, g1, by rw [ho, g2]⟩
  · obtain ⟨G2, tm2, Y2, ad2, t2, q1, q2, q3, q4, q5, q6⟩ := q
    obtain ⟨b1, b2, b3, b4⟩ := TS.bk h1 h2 h3 h4 q1.m (by omega)
    have k := q1.1.ty9 b4 q2
    rw [q4] at k
    exact ⟨ad2 t2, q3, b1, k, b2, b3, q1.2.2.2.2.1⟩
/-- plainType -/
theorem plt_ (hK : yRm R) (hv : nv ≤ 10000) (h : TS R c nv S) {kd : Int32} (hk : kd = 0 ∨ kd = 1 ∨ kd = 2 ∨ kd = 8) (hc : c ≤ 1990) : Rt (f_plainType R.K S kd) (fun S2 r => ∃ x : Nat, r = some x ∧ TS R c nv S2 ∧ isTy S2 x kd 0 none ∧ VX R nX S S2 ∧ VS S S2 ∧ Zi S2 3 = Zi S 3) := by
  obtain ⟨G, tm, Y, ad, h1, h2, h3, h4⟩ := h
  refine (plain_ ⟨hK.1, hK.2.1⟩ hv h1 hk (by omega)).mo (fun S2 r q => ?_)
  obtain ⟨G2, tm2, Y2, ad2, t2, q1, q2, q3, q4, q5⟩ := q
  obtain ⟨b1, b2, b3, b4⟩ := TS.bk (dp := 0) h1 h2 h3 h4 q1.m (by omega)
  have k := q1.1.ty9 b4 q2
  rw [q4] at k
  exact ⟨ad2 t2, q3, b1, k, b2, b3, q1.2.2.2.2.1⟩
theorem ref_ {K : Ky} {x : Nat} {kd ix : Int32} {o : Option Nat} (h : isTy S x kd ix o) : f_refers K S (some x) = some (S, if kd = 6 ∨ kd = 7 then 1 else 0) := by
  obtain ⟨t, h1, h2, h3, h4⟩ := h
  unfold f_refers f_refers_18 f_refers_23
  rw [zb0, zb1, oI_mk h3 h4 (v := kd) rfl]
  show (if kd = 6 then _ else if kd = 7 then _ else _) = _
  by_cases e : kd = 6
  · rw [if_pos e, if_pos (Or.inl e)]
  · by_cases e2 : kd = 7
    · rw [if_neg e, if_pos e2, if_pos (Or.inr e2)]
    · rw [if_neg e, if_neg e2, if_neg (fun q => q.elim e e2)]
theorem cop_ {K : Ky} {x : Nat} {kd ix : Int32} {o : Option Nat} (h : isTy S x kd ix o) : f_copied K S (some x) = some (S, if kd = 0 ∨ kd = 1 ∨ kd = 6 then 1 else 0) := by
  obtain ⟨t, h1, h2, h3, h4⟩ := h
  unfold f_copied f_copied_24 f_copied_29
  rw [zb0, zb1, oI_mk h3 h4 (v := kd) rfl]
  show (if kd = 0 then _ else if kd = 1 then _ else if kd = 6 then _ else _) = _
  by_cases e : kd = 0
  · rw [if_pos e, if_pos (Or.inl e)]
  · by_cases e2 : kd = 1
    · rw [if_neg e, if_pos e2, if_pos (Or.inr (Or.inl e2))]
    · by_cases e3 : kd = 6
      · rw [if_neg e, if_neg e2, if_pos e3, if_pos (Or.inr (Or.inr e3))]
      · rw [if_neg e, if_neg e2, if_neg e3, if_neg (fun q => q.elim e (fun q => q.elim e2 e3))]
theorem snm_ (h : TS R c nv S) {ta tb : Nat} (hta : ta < R.T) (htb : tb < R.T) : Rt (f_sameName R.K S (nI ta) (nI tb)) (fun S2 r => S2 = S ∧ (r = 0 ∨ r = 1)) := by
  obtain ⟨G, tm, Y, ad, h1, h2, h3, h4⟩ := h
  exact sam_ h1 hta htb
theorem inm_ (h : TS R c nv S) {tj : Nat} (htj : tj < R.T) : Rt (f_itemNamed R.K S (nI tj)) (fun S2 r => S2 = S ∧ (r = -1 ∨ ∃ i : Nat, i < R.im ∧ r = nI i)) := by
  obtain ⟨G, tm, Y, ad, h1, h2, h3, h4⟩ := h
  exact itN_ h1 htj
theorem TS.tb (h : TS R c nv S) : R.T ≤ 3001 := by
  obtain ⟨G, tm, Y, ad, h1, h2, h3, h4⟩ := h
  exact h1.tb
theorem VX.fl {X : Nat → Prop} {wh x : Int32} : VX R X S (flS S wh x) := ⟨⟨fun j a b _ _ _ => flS_i a b, flS_fr.2.1, flS_fr.2.2.1, fun r a _ => flS_fr.2.2.2.1 r a, flS_fr.2.2.2.2⟩, fun a _ _ => by rw [flS_st.2.1], fun a ha => by rw [flS_st.1]; exact ha, fun y kd ix o ⟨t, h1, h2, h3, h4⟩ => ⟨t, by unfold tmS; rw [flS_st.2.2.2.2.2]; exact h1, by rw [flS_st.2.2.2.2.1]; exact h2, by rw [flS_st.1]; exact h3, by rw [flS_st.2.1]; exact h4⟩, fun v ix nm ty mu q => ⟨ty, ⟨by rw [flS_st.1]; exact q.1, by rw [flS_st.2.1]; exact q.2⟩, Or.inr rfl⟩, SS.fl.1.2.2.2.2.2⟩
theorem VS.fl {wh x : Int32} : VS S (flS S wh x) := ⟨flS_i (by decide) (by decide), flS_i (by decide) (by decide), ⟨by rw [flS_st.2.2.2.2.1], fun a k vs _ q1 q2 => ⟨by rw [flS_st.1]; exact q1, by rw [flS_st.2.1]; exact q2⟩⟩, fun v ix nm ty mu q => ⟨by rw [flS_st.1]; exact q.1, by rw [flS_st.2.1]; exact q.2⟩⟩
theorem TS.fl (h : TS R c nv S) {wh x : Int32} : TS R c nv (flS S wh x) := by
  obtain ⟨G, tm, Y, ad, h1, h2, h3, h4⟩ := h
  exact ⟨G, tm, Y, ad, h1.fl, fun a ha => ⟨by rw [flS_st.1]; exact (h2 a ha).1, (h2 a ha).2⟩, h3, fun j a b c d e f => (flS_i a b).trans (h4.1 j a b c d e f), fun r hr => (congrFun flS_fr.2.1 r).trans (h4.2.1 r hr), flS_fr.2.2.1.trans h4.2.2.1, fun r a b => (flS_fr.2.2.2.1 r a).trans (h4.2.2.2 r a b)⟩
/-- a cell that was read is written, as it may be -/
theorem TS.uf (h : TS R c nv S) {a : Nat} {x : va_E} (ha : a ∈ ZL R.S) (hx : cs (ZF R.S a) x) : TS R c nv (UF S a x) := by
  obtain ⟨G, tm, Y, ad, h1, h2, h3, h4⟩ := h
  refine ⟨G, tm, Y, ad, ⟨tgd_up h1.1 (by rw [(h2 a ha).2]; exact hx), h1.2.1, h1.2.2.1, h1.2.2.2.1, h1.2.2.2.2.1, h1.2.2.2.2.2.1, h1.2.2.2.2.2.2⟩, h2, h3, h4⟩
theorem VX.uf {X : Nat → Prop} {a : Nat} {x : va_E} (hX : X a) (hc : ∀ vs : List Value, ¬ ZF S a = .inr (20, vs)) (hd : ∀ vs : List Value, ¬ ZF S a = .inr (21, vs)) : VX R X S (UF S a x) := ⟨⟨fun _ _ _ _ _ _ => rfl, rfl, rfl, fun _ _ _ => rfl, rfl⟩, fun b _ q => ZF_n (fun e => q (e ▸ hX)), fun _ h => h, fun y kd ix o ⟨t, h1, h2, h3, h4⟩ => ⟨t, h1, h2, h3, (ZF_n (fun e => hc _ (e ▸ h4))).trans h4⟩, fun v ix nm ty mu q => ⟨ty, ⟨q.1, (ZF_n (fun e => hd _ (e ▸ q.2))).trans q.2⟩, Or.inr rfl⟩, id⟩
theorem VS.uf {a : Nat} {x : va_E} (hd : ∀ (k : Nat) (vs : List Value), k ≠ 15 → ¬ ZF S a = .inr (k, vs)) : VS S (UF S a x) := ⟨rfl, rfl, ⟨rfl, fun b k vs hk q1 q2 => ⟨q1, (ZF_n (b := b) (fun e => hd k vs (by rcases hk with w | w <;> subst w <;> decide) (by rw [← e]; exact q2))).trans q2⟩⟩, fun v ix nm ty mu q => ⟨q.1, (ZF_n (fun e => hd 21 _ (by decide) (e ▸ q.2))).trans q.2⟩⟩
/-- fail, at a token -/
theorem fai_ (h : TS R c nv S) {K : Ky} {wh : Int32} {tj : Nat} (htj : tj < R.T) : f_fail K S wh (nI tj) = some (flS S wh (Zr S 6 tj), ()) := fail_ (by have := h.tb; omega)
end TSL
