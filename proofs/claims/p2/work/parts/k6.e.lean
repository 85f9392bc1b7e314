/-- a row of types -/
def rTs (R : yR) (S : Sg) (ta cap mn : Nat) (f : Nat → Option Nat) (P : Nat → Prop) : Prop := nXo R ta ∧ ZF S ta = .inl (R.K.1 4, cap, .inr (.inr (.inr (.inr f)))) ∧ ∀ k : Nat, k < mn → ∃ x : Nat, f k = some x ∧ P x
/-- the parts of a variant, typed -/
def paY (R : yR) (S : Sg) (pa mk : Nat) (f : Nat → Option Nat) : Prop := nXo R pa ∧ ((ZF S pa = .inr (17, [.int 0, .null, .null]) ∧ mk = 0) ∨ ∃ wa ta : Nat, ZF S pa = .inr (17, [.int (nI mk), .ref wa, .ref ta]) ∧ mk ≤ 12 ∧ rTs R S ta 12 mk f (vTy S))
/-- what an item has beside its names: fields, variants, or parameters and result -/
def ItK (R : yR) (S : Sg) (i mn : Nat) (fs : List Value) : Prop :=
  (R.ik i = 10 ∧ ∃ (ta : Nat) (f : Nat → Option Nat), fs[10]? = some (.ref ta) ∧ rTs R S ta 13 mn f (vTy S)) ∨
  (R.ik i = 11 ∧ ∃ (vr : Nat) (fv : Nat → Option Nat), fs[11]? = some (.ref vr) ∧ nXo R vr ∧ ZF S vr = .inl (R.K.1 13, 13, .inr (.inr (.inr (.inr fv)))) ∧ ∀ k : Nat, k < mn → ∃ (pa mk : Nat) (f : Nat → Option Nat), fv k = some pa ∧ paY R S pa mk f) ∨
  (R.ik i = 12 ∧ ∃ (ta gv lo : Nat) (f : Nat → Option Nat) (go : Nat → Int32) (rl : Int32), fs[10]? = some (.ref ta) ∧ rTs R S ta 13 mn f (rTy S) ∧ fs[15]? = some (.ref gv) ∧ xTy S gv ∧ fs[7]? = some (.int rl) ∧ (rl = -1 ∨ ∃ l : Nat, l < 8 ∧ rl = nI l) ∧ fs[13]? = some (.ref lo) ∧ nXo R lo ∧ ZF S lo = .inl (R.K.1 0, 13, .inl go) ∧ ∀ k : Nat, k < mn → (go k = -1 ∨ ∃ l : Nat, l < 8 ∧ go k = nI l))
/-- an item whose types are told -/
def ItY (R : yR) (S : Sg) (i : Nat) : Prop := nXo R (R.ws i) ∧ Zq R.S 11 i = some (R.ws i) ∧ ∃ (fs : List Value) (mn na : Nat) (g : Nat → Int32), ZF S (R.ws i) = .inr (16, fs) ∧ fs[2]? = some (.int (R.ik i)) ∧ fs[3]? = some (.int (nI mn)) ∧ mn ≤ 12 ∧ fs[8]? = some (.ref na) ∧ nXo R na ∧ ZF S na = .inl (R.K.1 0, 13, .inl g) ∧ (∀ j : Nat, j < mn → ∃ s : Nat, g j = nI s ∧ s < R.T) ∧ ItK R S i mn fs
def ITA (R : yR) (S : Sg) : Prop := ∀ i : Nat, i < R.im → ItY R S i
/-- the scope: Γ the variables, in their order -/
def SCO (R : yR) (S : Sg) (Γ : List Nat) : Prop := Zi S 23 = nI Γ.length ∧ Γ.length ≤ 40 ∧ ∀ (k v : Nat), Γ[k]? = some v → Zq S 22 k = some v ∧ ∃ (ix nm mu : Nat) (ty : Option Nat), isV S v ix (nI nm) ty (nI mu) ∧ nm < R.T ∧ mu ≤ 1 ∧ ∀ x : Nat, ty = some x → rTy S x
section ITL
variable {R : yR} {S S2 : Sg} {p q c nv : Nat}
theorem rTs.vz (hV : VZ R (Xo R p q) S S2) {ta cap mn : Nat} {f : Nat → Option Nat} {P P2 : Nat → Prop} (h : rTs R S ta cap mn f P) (hP : ∀ x : Nat, P x → P2 x) : rTs R S2 ta cap mn f P2 := ⟨h.1, (hV.nx h.1).trans h.2.1, fun k hk => by obtain ⟨x, h1, h2⟩ := h.2.2 k hk; exact ⟨x, h1, hP x h2⟩⟩
theorem rTs.vx (hV : VX R (Xo R p q) S S2) {ta cap mn : Nat} {f : Nat → Option Nat} {P P2 : Nat → Prop} (h : rTs R S ta cap mn f P) (hP : ∀ x : Nat, P x → P2 x) : rTs R S2 ta cap mn f P2 := rTs.vz hV.2 h hP
theorem paY.vz (hV : VZ R (Xo R p q) S S2) {pa mk : Nat} {f : Nat → Option Nat} (h : paY R S pa mk f) : paY R S2 pa mk f := ⟨h.1, by
  rw [hV.nx h.1]
  exact h.2.imp id (fun ⟨wa, ta, h1, h2, h3⟩ => ⟨wa, ta, h1, h2, h3.vz hV (fun x q => q.im hV.2.2.1)⟩)⟩
theorem paY.vx (hV : VX R (Xo R p q) S S2) {pa mk : Nat} {f : Nat → Option Nat} (h : paY R S pa mk f) : paY R S2 pa mk f := paY.vz hV.2 h
theorem ItY.vz (hV : VZ R (Xo R p q) S S2) {i : Nat} (h : ItY R S i) : ItY R S2 i := by
  obtain ⟨h1, h2, fs, mn, na, g, h3, h4, h5, h6, h7, h8, h9, h10, h11⟩ := h
  refine ⟨h1, h2, fs, mn, na, g, (hV.nx h1).trans h3, h4, h5, h6, h7, h8, (hV.nx h8).trans h9, h10, ?_⟩
  rcases h11 with ⟨k1, ta, f, k2, k3⟩ | ⟨k1, vr, fv, k2, k3, k4, k5⟩ | ⟨k1, ta, gv, lo, f, go, rl, k2, k3, k4, k5, k6, k7, k8, k9, l1, l2⟩
  · exact Or.inl ⟨k1, ta, f, k2, k3.vz hV (fun x q => q.im hV.2.2.1)⟩
  · exact Or.inr (Or.inl ⟨k1, vr, fv, k2, k3, (hV.nx k3).trans k4, fun k hk => by obtain ⟨pa, mk, f, e1, e2⟩ := k5 k hk; exact ⟨pa, mk, f, e1, e2.vz hV⟩⟩)
  · exact Or.inr (Or.inr ⟨k1, ta, gv, lo, f, go, rl, k2, k3.vz hV (fun x q => q.im hV.2.2.1), k4, k5.im hV.2.2.1, k6, k7, k8, k9, (hV.nx k9).trans l1, l2⟩)
theorem ItY.vx (hV : VX R (Xo R p q) S S2) {i : Nat} (h : ItY R S i) : ItY R S2 i := ItY.vz hV.2 h
theorem ITA.vz (hV : VZ R (Xo R p q) S S2) (h : ITA R S) : ITA R S2 := fun i hi => (h i hi).vz hV
theorem ITA.vx (hV : VX R (Xo R p q) S S2) (h : ITA R S) : ITA R S2 := ITA.vz hV.2 h
theorem SCO.vx {X : Nat → Prop} (hV : VX R X S S2) (hs : VS S S2) {Γ : List Nat} (h : SCO R S Γ) : SCO R S2 Γ := by
  refine ⟨hs.1.trans h.1, h.2.1, fun k v hk => ?_⟩
  obtain ⟨h1, ix, nm, mu, ty, h2, h3, h4, h5⟩ := h.2.2 k v hk
  exact ⟨by rw [hs.2.2.1.1]; exact h1, ix, nm, mu, ty, hs.2.2.2 _ _ _ _ _ h2, h3, h4, fun x q => (h5 x q).im hV.2.2.2.1⟩
/-- a cell that was read, as it is now -/
theorem TS.ob (h : TS R c nv S) {a k : Nat} {fs : List Value} (ha : a ∈ ZL R.S) (hG : ZF R.S a = .inr (k, fs)) : a ∈ ZL S ∧ ∃ gs : List Value, ZF S a = .inr (k, gs) ∧ gs.length = fs.length ∧ (∀ j : Nat, mtF k j = false → gs[j]? = fs[j]?) ∧ cs (ZF R.S a) (.inr (k, gs)) := by
  obtain ⟨G, tm, Y, ad, h1, h2, h3, h4⟩ := h
  obtain ⟨g1, g2⟩ := h2 a ha
  obtain ⟨gs, k1, k2, k3⟩ := rl_ob h1.1.2.1 g1 (g2.trans hG)
  refine ⟨g1, gs, k1, k2, k3, ?_⟩
  have := h1.1.2.1 a g1
  rw [g2, k1] at this
  exact this
/-- behind a member of the typing of exps -/
def yXP (R : yR) (c nv : Nat) (S : Sg) (p q : Nat) (S2 : Sg) (x : Nat) : Prop := TS R c nv S2 ∧ VX R (Xo R p q) S S2 ∧ VS S S2 ∧ ∃ (kd ix : Int32) (o : Option Nat), isTy S2 x kd ix o
/-- told -/
theorem tol_ {K : Ky} (h : TS R c nv S) {e t x : Nat} {fs : List Value} (he : e ∈ ZL R.S) (hG : ZF R.S e = .inr (15, fs)) (hl : fs.length = 14) (ho : ownT (ZF R.S) e = some t) (h1 : p ≤ t) (h2 : t < q) (hx : ∃ (kd ix : Int32) (o : Option Nat), isTy S x kd ix o) : ∃ gs : List Value, ZF S e = .inr (15, gs) ∧ f_told K S (some e) (some x) = some (UF S e (.inr (15, gs.set 12 (.ref x))), some x) ∧ yXP R c nv S p q (UF S e (.inr (15, gs.set 12 (.ref x)))) x := by
  obtain ⟨g0, gs, g1, g2, g3, g4⟩ := h.ob he hG
  refine ⟨gs, g1, ?_, h.uf he (cs_put g4 rfl), VX.uf (Or.inl ⟨t, ho, h1, h2⟩) (fun vs w => by rw [g1] at w; cases w) (fun vs w => by rw [g1] at w; cases w), VS.uf (fun k vs hk w => by rw [g1] at w; cases w; exact hk rfl), ?_⟩
  · unfold f_told
    rw [pV_mk g0 g1 (by rw [g2, hl]; decide)]
    rfl
  · obtain ⟨kd, ix, o, ty, y1, y2, y3, y4⟩ := hx
    exact ⟨kd, ix, o, ty, y1, y2, y3, (ZF_n (fun w => by rw [w, g1] at y4; cases y4)).trans y4⟩
/-- wrong -/
theorem wrg_ (hK : yRm R) (hv : nv ≤ 10000) (hc : c ≤ 1990) (h : TS R c nv S) {e t tj : Nat} {wh : Int32} {fs : List Value} (he : e ∈ ZL R.S) (hG : ZF R.S e = .inr (15, fs)) (hl : fs.length = 14) (ho : ownT (ZF R.S) e = some t) (h1 : p ≤ t) (h2 : t < q) (htj : tj < R.T) (hw : wh ≠ 0) : Rt (f_wrong R.K S (some e) wh (nI tj)) (fun S2 r => ∃ x : Nat, r = some x ∧ yXP R c nv S p q S2 x ∧ ¬ Zi S2 3 = 0) := by
  unfold f_wrong
  refine Rt.be (fai_ h htj) (Rt.bn (plt_ hK hv h.fl (Or.inl rfl) hc) (fun S3 r3 q3 => ?_))
  obtain ⟨x, rfl, t3, y3, v3, s3, z3⟩ := q3
  obtain ⟨gs, g1, g2, g3⟩ := tol_ (K := R.K) t3 he hG hl ho h1 h2 ⟨_, _, _, y3⟩
  refine Rt.be g2 (Rt.rt ⟨x, rfl, ⟨g3.1, ((VX.fl (X := nX)).n v3).b g3.2.1, (VS.fl.tr s3).tr g3.2.2.1, g3.2.2.2⟩, ?_⟩)
  show ¬ Zi S3 3 = 0
  rw [z3]; exact flS_n0 hw
end ITL
