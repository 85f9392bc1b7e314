/-- a cell of item i -/
def cIt (R : yR) (i a : Nat) : Prop := R.ws i ≤ a ∧ a < R.ws (i + 1)
/-- .. that the typing of items may write -/
def cX (R : yR) (i a : Nat) : Prop := cIt R i a ∧ ((a = R.ws i ∧ ∃ fs : List Value, ZF R.S a = .inr (16, fs)) ∨ ∃ (k : ClassId) (n : Nat) (f : vRw), ZF R.S a = .inl (k, n, f) ∧ (k = R.K.1 0 ∨ k = R.K.1 4))
theorem cX.ro {R : yR} {i a n : Nat} {k : ClassId} {f : vRw} (h : cIt R i a) (hF : ZF R.S a = .inl (k, n, f)) (hk : k = R.K.1 0 ∨ k = R.K.1 4) : cX R i a := ⟨h, Or.inr ⟨k, n, f, hF, hk⟩⟩
theorem cX.ob {R : yR} {i : Nat} {fs : List Value} (h : cIt R i (R.ws i)) (hF : ZF R.S (R.ws i) = .inr (16, fs)) : cX R i (R.ws i) := ⟨h, Or.inl ⟨rfl, fs, hF⟩⟩
theorem cX.nx {R : yR} {i a p q : Nat} (hK : yRm R) (hL : a ∈ ZL R.S) (h : Xo R p q a) (hc : cX R i a) : False := by
  rcases hc.2 with ⟨_, fs, e⟩ | ⟨k, n, f, e, hk⟩
  · exact (nXo.ob hL e (by decide)).2 p q h
  · refine (nXo.ro hL e (Or.inl ?_)).2 p q h
    rcases hk with hk | hk <;> rw [hk]
    · exact hK.2.2 0 5 (by decide) (by decide) (by decide)
    · exact hK.2.2 4 5 (by decide) (by decide) (by decide)
/-- .. but for the item's own cell -/
def cY (R : yR) (i a : Nat) : Prop := cX R i a ∧ a ≠ R.ws i
theorem cY.ro {R : yR} {i a n : Nat} {k : ClassId} {f : vRw} {fs : List Value} (h : cIt R i a) (hF : ZF R.S a = .inl (k, n, f)) (hk : k = R.K.1 0 ∨ k = R.K.1 4) (hw : ZF R.S (R.ws i) = .inr (16, fs)) : cY R i a := ⟨cX.ro h hF hk, fun e => by rw [e, hw] at hF; cases hF⟩
/-- the field 20 stays -/
def K20 (R : yR) (S : Sg) (i : Nat) (S2 : Sg) : Prop := ∀ (fs : List Value) (v : Int32), ZF S (R.ws i) = .inr (16, fs) → fs[20]? = some (.int v) → ∃ gs : List Value, ZF S2 (R.ws i) = .inr (16, gs) ∧ gs[20]? = some (.int v)
theorem K20.cy {R : yR} {S S2 : Sg} {i : Nat} (hw : R.ws i ∈ ZL R.S) (hV : VX R (cY R i) S S2) : K20 R S i S2 := fun fs v h1 h2 => ⟨fs, (hV.2.1 _ hw (fun w => w.2 rfl)).trans h1, h2⟩
theorem K20.n {R : yR} {S S1 S2 : Sg} {i : Nat} (hw : R.ws i ∈ ZL R.S) (h : K20 R S i S1) (hV : VX R nX S1 S2) : K20 R S i S2 := fun fs v h1 h2 => by
  obtain ⟨gs, g1, g2⟩ := h fs v h1 h2
  exact ⟨gs, (hV.2.1 _ hw (fun w => w)).trans g1, g2⟩
theorem K20.uf {R : yR} {S S1 : Sg} {i k : Nat} {gs : List Value} {x : Value} (h : K20 R S i S1) (hF : ZF S1 (R.ws i) = .inr (16, gs)) (hk : k ≠ 20) : K20 R S i (UF S1 (R.ws i) (.inr (16, gs.set k x))) := fun fs v h1 h2 => by
  obtain ⟨g9, g1, g2⟩ := h fs v h1 h2
  have ee : g9 = gs := (Prod.mk.inj (Sum.inr.inj (g1.symm.trans hF))).2
  subst ee
  exact ⟨_, ZF_s, by rw [List.getElem?_set_ne hk]; exact g2⟩
theorem ROW.cx {R : yR} {S S2 : Sg} {i : Nat} (hV : VX R (cX R i) S S2) (h : ROW R S) : ROW R S2 := fun a n k f h1 h2 h3 h4 h5 => (hV.2.1 a h1 (fun w => by
  rcases w.2 with ⟨_, fs, e⟩ | ⟨k9, n9, f9, e, hk⟩
  · rw [h2] at e; cases e
  · rw [h2] at e; cases e; exact hk.elim h3 h4)).trans (h a n k f h1 h2 h3 h4 h5)
/-- item i is typed, and stays so as long as its cells stay -/
def ItZ (R : yR) (S : Sg) (i : Nat) : Prop := ∀ S2 : Sg, (∀ a : Nat, cIt R i a → ZF S2 a = ZF S a) → (∀ (x : Nat) (kd ix : Int32) (o : Option Nat), isTy S x kd ix o → isTy S2 x kd ix o) → ItY R S2 i
section ITT
variable {R : yR} {c nv : Nat} {S S1 : Sg}
theorem ItZ.y {i : Nat} (h : ItZ R S i) : ItY R S i := h S (fun _ _ => rfl) (fun _ _ _ _ q => q)
theorem ItZ.vx (hD : RDI R) {i j : Nat} (hi : i < R.im) (hj : j < R.im) (hij : i ≠ j) (hV : VX R (cX R j) S S1) (h : ItZ R S i) : ItZ R S1 i := fun S2 h1 h2 => h S2 (fun a ha => (h1 a ha).trans (hV.2.1 a ((hD.2.2.2.2 i hi).2.2.2.2 a (iv_m.mpr ha)) (fun w => by
  rcases Nat.lt_or_ge i j with z | z
  · have := (hD.2.2.1 (i + 1) j (by omega) (by omega)).2; have := ha.2; have := w.1.1; omega
  · have := (hD.2.2.1 (j + 1) i (by omega) (by omega)).2; have := ha.1; have := w.1.2; omega))) (fun x kd ix o q => h2 x kd ix o (hV.2.2.2.1 x kd ix o q))
/-- a row that was blank keeps its shape -/
theorem TS.ro (h : TS R c nv S) {a n : Nat} {k : ClassId} {g : Nat → Option Nat} (ha : a ∈ ZL R.S) (hG : ZF R.S a = .inl (k, n, .inr (.inr (.inr (.inr g))))) : ∃ f : Nat → Option Nat, ZF S a = .inl (k, n, .inr (.inr (.inr (.inr f)))) := by
  obtain ⟨G, tm, Y, ad, h1, h2, h3, h4⟩ := h
  have := h1.1.2.1 a (h2 a ha).1
  rw [(h2 a ha).2, hG] at this
  cases e : ZF S a with
  | inr x => rw [e] at this; exact this.elim
  | inl x =>
    obtain ⟨k2, n2, f2⟩ := x
    rw [e] at this
    obtain ⟨e1, e2, e3⟩ := this
    subst e1; subst e2
    rcases e3 with e3 | e3
    · exact ⟨g, by rw [e3]⟩
    · cases f2 with
      | inl _ => exact e3.elim
      | inr f2 => cases f2 with
        | inl _ => exact e3.elim
        | inr f2 => cases f2 with
          | inl _ => exact e3.elim
          | inr f2 => cases f2 with
            | inl _ => exact e3.elim
            | inr f2 => exact ⟨f2, rfl⟩
theorem TS.rj (h : TS R c nv S) {a n : Nat} {k : ClassId} {g : Nat → Int32} (ha : a ∈ ZL R.S) (hG : ZF R.S a = .inl (k, n, .inl g)) : ∃ f : Nat → Int32, ZF S a = .inl (k, n, .inl f) := by
  obtain ⟨G, tm, Y, ad, h1, h2, h3, h4⟩ := h
  have := h1.1.2.1 a (h2 a ha).1
  rw [(h2 a ha).2, hG] at this
  cases e : ZF S a with
  | inr x => rw [e] at this; exact this.elim
  | inl x =>
    obtain ⟨k2, n2, f2⟩ := x
    rw [e] at this
    obtain ⟨e1, e2, e3⟩ := this
    subst e1; subst e2
    rcases e3 with e3 | e3
    · exact ⟨g, by rw [e3]⟩
    · cases f2 with
      | inl f2 => exact ⟨f2, rfl⟩
      | inr _ => exact e3.elim
/-- a cell none of whose fields may be written -/
theorem TS.oe (h : TS R c nv S) {a k : Nat} {fs : List Value} (ha : a ∈ ZL R.S) (hG : ZF R.S a = .inr (k, fs)) (hk : ∀ j : Nat, mtF k j = false) : ZF S a = .inr (k, fs) := by
  obtain ⟨w1, gs, w2, w3, w4, w5⟩ := h.ob ha hG
  rw [w2, List.ext_getElem? (fun j => w4 j (hk j))]
/-- the names of an item are looked over, one behind the other -/
def it33r (K : Ky) (k16 : Sg → Option Nat → Int32 → Option (Sg × Unit)) (S : Sg) (x1 : Option Nat) (x2 : Int32) : Option (Sg × Unit) :=
  (oI S 16 x1 2).bind fun v7 =>
    if v7 = 11 then (f_itemTypes_144 K k16 bigN S x1 x2 0) else ((oR S 16 x1 10).bind fun v8 =>
    (oR S 16 x1 9).bind fun v9 =>
    (aQ K 12 S v9 x2).bind fun v10 =>
    (oI S 16 x1 2).bind fun v11 =>
    if v11 = 12 then (f_itemTypes_109 K k16 S x1 x2 1 v10 x2 v8) else (f_itemTypes_109 K k16 S x1 x2 0 v10 x2 v8))
theorem it33_ (hD : RDI R) {i k : Nat} (hi : i < R.im) {Q : Sg → Prop} {P : Sg → Unit → Prop} {k16 : Sg → Option Nat → Int32 → Option (Sg × Unit)} (hQ : ∀ S1 : Sg, Q S1 → ∃ c1 : Nat, TS R c1 nv S1) (hF : ∀ (S1 : Sg) (x : Int32), Q S1 → Q (flS S1 3 x)) (hk : ∀ S1 : Sg, Q S1 → Rt (it33r R.K k16 S1 (some (R.ws i)) (nI k)) P) {na mn : Nat} {g : Nat → Int32} (hna : na ∈ ZL R.S) (hnR : ZF R.S na = .inl (R.K.1 0, 13, .inl g)) (hn8 : ∀ fs : List Value, ZF R.S (R.ws i) = .inr (16, fs) → fs[8]? = some (.ref na)) (hmn : mn ≤ 12) (hkm : k < mn) (hgn : ∀ j : Nat, j < mn → ∃ s : Nat, g j = nI s ∧ 0 < s ∧ s < R.T) : ∀ (m j : Nat) {S1 : Sg}, k < j + m → j ≤ k → Q S1 → Rt (f_itemTypes_33 R.K k16 m S1 (some (R.ws i)) (nI k) (nI j)) P
  | 0, j, _, h1, h2, _ => by omega
  | m + 1, j, S1, h1, h2, q1 => by
    obtain ⟨c1, t1⟩ := hQ S1 q1
    have hT := t1.tb
    obtain ⟨a1, a2, a3, fs, gs, a4, a5, a6, a7, a8, a9, a10, a11⟩ := hD.ob t1 hi
    have h8 : gs[8]? = some (.ref na) := (a8 8 rfl).trans (hn8 fs a4)
    obtain ⟨s, s1, s2, s3⟩ := hgn k hkm
    have hrw := t1.ri hna hnR (i := k) (by rw [s1]; exact nI_ne0 (by omega) (by omega))
    unfold f_itemTypes_33
    refine Rt.it (fun w9 => hk S1 q1) (fun w9 => ?_)
    have hlt : j < k := by
      rcases Nat.lt_or_ge j k with z | z
      · exact z
      · exact absurd (nI_le z (by omega)) w9
    obtain ⟨t, u1, u2, u3⟩ := hgn j (by omega)
    refine Rt.bd (oR_mk (v := some na) a2 a5 h8) (Rt.bd (aI_n (t1.L hna) hrw (show j < 13 by omega) (by decide)) (Rt.bd (oR_mk (v := some na) a2 a5 h8) (Rt.bd (aI_n (t1.L hna) hrw (show k < 13 by omega) (by decide)) ?_)))
    rw [u1, s1]
    refine Rt.bn (snm_ t1 u3 s3) (fun S2 r q2 => ?_)
    obtain ⟨e2, q2⟩ := q2
    rw [e2]
    unfold f_itemTypes_68
    rw [nI_1]
    refine Rt.it (fun w8 => it33_ hD hi hQ hF hk hna hnR hn8 hmn hkm hgn m (j + 1) (by omega) (by omega) q1) (fun w8 => ?_)
    refine Rt.bd (oR_mk (v := some na) a2 a5 h8) (Rt.bd (aI_n (t1.L hna) hrw (show k < 13 by omega) (by decide)) ?_)
    rw [s1]
    exact Rt.be (fai_ t1 s3) (it33_ hD hi hQ hF hk hna hnR hn8 hmn hkm hgn m (j + 1) (by omega) (by omega) (hF S1 _ q1))
end ITT
