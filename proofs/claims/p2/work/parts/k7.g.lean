-- k7.g.lean.txt
section
/-- what was read, told of the state then -/
def RDI (R : yR) : Prop := R.im ≤ 70 ∧ Zi R.S 12 = nI R.im ∧ (∀ i j : Nat, i ≤ j → j ≤ R.im → R.ps i ≤ R.ps j ∧ R.ws i ≤ R.ws j) ∧ R.ps R.im ≤ R.T ∧ ∀ i : Nat, i < R.im → Zq R.S 11 i = some (R.ws i) ∧ isIt R.K (iv (R.ws i) (R.ws (i + 1))) (ZF R.S) (Zr R.S 5) (R.ws i) (R.ps i) (R.ms i) (R.ps (i + 1)) ∧ (∃ fs : List Value, ZF R.S (R.ws i) = .inr (16, fs) ∧ fs[2]? = some (.int (R.ik i))) ∧ (∀ (fs : List Value) (pa : Nat), ZF R.S (R.ws i) = .inr (16, fs) → fs[17]? = some (.ref pa) → R.pw pa = some (R.ms i)) ∧ ∀ a ∈ iv (R.ws i) (R.ws (i + 1)), a ∈ ZL R.S
/-- nothing but a fault -/
def QF (R : yR) (c nv : Nat) (S S2 : Sg) : Prop := TS R c nv S2 ∧ VX R nX S S2 ∧ VS S S2
section ITN
variable {R : yR} {c nv : Nat} {S S1 : Sg}
theorem QF.rf (h : TS R c nv S) : QF R c nv S S := ⟨h, VX.rf, VS.rf⟩
theorem QF.fl (h : QF R c nv S S1) {wh x : Int32} : QF R c nv S (flS S1 wh x) := ⟨h.1.fl, h.2.1.n VX.fl, h.2.2.tr VS.fl⟩
/-- an item, as it is now -/
theorem RDI.ob (hD : RDI R) (h : TS R c nv S) {i : Nat} (hi : i < R.im) : R.ws i ∈ ZL R.S ∧ R.ws i ∈ ZL S ∧ R.ps i + 1 < R.T ∧ ∃ (fs gs : List Value), ZF R.S (R.ws i) = .inr (16, fs) ∧ ZF S (R.ws i) = .inr (16, gs) ∧ fs.length = 22 ∧ gs.length = 22 ∧ (∀ j : Nat, mtF 16 j = false → gs[j]? = fs[j]?) ∧ cs (ZF R.S (R.ws i)) (.inr (16, gs)) ∧ gs[1]? = some (.int (nI (R.ps i + 1))) ∧ gs[2]? = some (.int (R.ik i)) := by
  obtain ⟨h1, h2, h3, h4, h5⟩ := hD
  obtain ⟨k1, k2, ⟨fs, k3, k4⟩, k5, k6⟩ := h5 i hi
  have hm := (h3 (i + 1) R.im (by omega) (Nat.le_refl _)).1
  have k2' := k2
  obtain ⟨a1, a2, a3, mn, na, g, a4, a5, a6, a7, a8⟩ := k2
  have a1 := k6 _ a1
  obtain ⟨w1, gs, w2, w3, w4, w5⟩ := h.ob a1 k3
  have hf : fs.length = 22 ∧ fs[1]? = some (.int (nI (R.ps i + 1))) := by
    rcases a8 with ⟨wa, ta, q', f, c3, _⟩ | ⟨vr, q', f, c3, _⟩ | ⟨lv, wa, ta, pa, lf, lo, q', va, b, bl, rs, f, gl, c3, _⟩ <;> (have e := (Prod.mk.inj (Sum.inr.inj (k3.symm.trans c3))).2; subst e; exact ⟨rfl, rfl⟩)
  exact ⟨a1, w1, by omega, fs, gs, k3, w2, hf.1, w3.trans hf.1, w4, w5, (w4 1 rfl).trans hf.2, (w4 2 rfl).trans k4⟩
theorem RDI.it (hD : RDI R) (h : TS R c nv S) {i : Nat} (hi : i < R.im) : rQ S 11 (nI i) = some (some (R.ws i)) := h.it hi (hD.2.2.2.2 i hi).1
theorem TS.i12 (hD : RDI R) (h : TS R c nv S) : Zi S 12 = nI R.im := by
  obtain ⟨G, tm, Y, ad, h1, h2, h3, h4⟩ := h
  exact (h4.1 12 (by decide) (by decide) (by decide) (by decide) (by decide) (by decide)).trans hD.2.1
/-- itemNames -/
theorem inn12 (hD : RDI R) {P : Sg → Unit → Prop} {k2 : Sg → Int32 → Option (Sg × Unit)} {i : Nat} (hi : i < R.im) (hk : ∀ S2 : Sg, QF R c nv S S2 → Rt (k2 S2 (nI (i + 1))) P) : ∀ (m j : Nat) {S1 : Sg}, i < j + m → j ≤ i → QF R c nv S S1 → Rt (f_itemNames_12 R.K k2 m S1 (nI i) (nI j)) P
  | 0, j, _, h1, h2, _ => by omega
  | m + 1, j, S1, h1, h2, q1 => by
    have hD0 := hD.1
    obtain ⟨a1, a2, a3, fs, gs, a4, a5, a6, a7, a8, a9, a10, a11⟩ := hD.ob q1.1 hi
    unfold f_itemNames_12
    refine Rt.it (fun w9 => by rw [nI_1]; exact hk S1 q1) (fun w9 => ?_)
    have hlt : j < i := by
      rcases Nat.lt_or_ge j i with z | z
      · exact z
      · exact absurd (nI_le z (by omega)) w9
    obtain ⟨b1, b2, b3, fs2, gs2, b4, b5, b6, b7, b8, b9, b10, b11⟩ := hD.ob q1.1 (show j < R.im by omega)
    refine Rt.bd (hD.it q1.1 hi) (Rt.bd (oI_mk a2 a5 a10) (Rt.bd (hD.it q1.1 (show j < R.im by omega)) (Rt.bd (oI_mk b2 b5 b10) (Rt.bn (snm_ q1.1 a3 b3) (fun S2 r q2 => ?_)))))
    obtain ⟨e2, q2⟩ := q2
    rw [e2]
    unfold f_itemNames_56
    rw [nI_1]
    refine Rt.it (fun w8 => inn12 hD hi hk m (j + 1) (by omega) (by omega) q1) (fun w8 => ?_)
    exact Rt.bd (hD.it q1.1 hi) (Rt.bd (oI_mk a2 a5 a10) (Rt.be (fai_ q1.1 a3) (inn12 hD hi hk m (j + 1) (by omega) (by omega) q1.fl)))
theorem inn2 (hD : RDI R) : ∀ (m i : Nat) {S1 : Sg}, R.im < i + m → i ≤ R.im → QF R c nv S S1 → Rt (f_itemNames_2 R.K m S1 (nI i)) (fun S2 _ => QF R c nv S S2)
  | 0, i, _, h1, h2, _ => by omega
  | m + 1, i, S1, h1, h2, q1 => by
    have hD0 := hD.1
    unfold f_itemNames_2
    rw [q1.1.i12 hD]
    refine Rt.it (fun w9 => Rt.rt q1) (fun w9 => ?_)
    have hlt : i < R.im := by
      rcases Nat.lt_or_ge i R.im with z | z
      · exact z
      · exact absurd (nI_le z (by omega)) w9
    exact inn12 hD hlt (fun S2 q2 => inn2 hD m (i + 1) (by omega) (by omega) q2) bigN 0 (by unfold bigN; omega) (Nat.zero_le _) q1
theorem inn_ (hD : RDI R) (h : TS R c nv S) : Rt (f_itemNames R.K S) (fun S2 _ => QF R c nv S S2) := by
  have hD0 := hD.1
  exact inn2 hD bigN 0 (by unfold bigN; omega) (Nat.zero_le _) (QF.rf h)
/-- a function's lifetimes -/
def LV (R : yR) (S : Sg) (a lv lf : Nat) (gl : Nat → Int32) : Prop := a ∈ ZL R.S ∧ (∃ fs : List Value, ZF R.S a = .inr (16, fs)) ∧ lv ≤ 8 ∧ lf ∈ ZL R.S ∧ ZF R.S lf = .inl (R.K.1 0, 8, .inl gl) ∧ (∀ i : Nat, i < lv → ∃ s : Nat, gl i = nI s ∧ 0 < s ∧ s < R.T) ∧ ∃ gs : List Value, ZF S a = .inr (16, gs) ∧ gs[6]? = some (.int (nI lv)) ∧ gs[12]? = some (.ref lf)
theorem LV.qf {a lv lf : Nat} {gl : Nat → Int32} (h : LV R S a lv lf gl) (hV : VX R nX S S1) : LV R S1 a lv lf gl := by
  obtain ⟨h1, h2, h3, h4, h5, h6, gs, h7, h8⟩ := h
  exact ⟨h1, h2, h3, h4, h5, h6, gs, (hV.2.1 a h1 (fun w => w)).trans h7, h8⟩
theorem lvs19 {P : Sg → Unit → Prop} {k2 : Sg → Option Nat → Int32 → Option (Sg × Unit)} {a lv lf i : Nat} {gl : Nat → Int32} (hL : LV R S a lv lf gl) (hi : i < lv) (hk : ∀ S2 : Sg, QF R c nv S S2 → Rt (k2 S2 (some a) (nI (i + 1))) P) : ∀ (m j : Nat) {S1 : Sg}, i < j + m → j ≤ i → QF R c nv S S1 → Rt (f_lives_19 R.K k2 m S1 (some a) (nI i) (nI j)) P
  | 0, j, _, h1, h2, _ => by omega
  | m + 1, j, S1, h1, h2, q1 => by
    obtain ⟨a1, a2, a3, a4, a5, a6, gs, a7, a8, a9⟩ := hL.qf q1.2.1
    obtain ⟨s, s1, s2, s3⟩ := a6 i hi
    have hrw := q1.1.ri a4 a5 (i := i) (by rw [s1]; have := q1.1.tb; exact nI_ne0 (by omega) (by omega))
    unfold f_lives_19
    refine Rt.it (fun w9 => by rw [nI_1]; exact hk S1 q1) (fun w9 => ?_)
    have hlt : j < i := by
      rcases Nat.lt_or_ge j i with z | z
      · exact z
      · exact absurd (nI_le z (by omega)) w9
    obtain ⟨t, t1, t2, t3⟩ := a6 j (by omega)
    refine Rt.bd (oR_mk (v := some lf) (q1.1.L a1) a7 a9) (Rt.bd (aI_n (q1.1.L a4) hrw (show j < 8 by omega) (by decide)) (Rt.bd (oR_mk (v := some lf) (q1.1.L a1) a7 a9) (Rt.bd (aI_n (q1.1.L a4) hrw (show i < 8 by omega) (by decide)) ?_)))
    rw [t1, s1]
    refine Rt.bn (snm_ q1.1 t3 s3) (fun S2 r q2 => ?_)
    obtain ⟨e2, q2⟩ := q2
    rw [e2]
    unfold f_lives_54
    rw [nI_1]
    refine Rt.it (fun w8 => lvs19 hL hi hk m (j + 1) (by omega) (by omega) q1) (fun w8 => ?_)
    refine Rt.bd (oR_mk (v := some lf) (q1.1.L a1) a7 a9) (Rt.bd (aI_n (q1.1.L a4) hrw (show i < 8 by omega) (by decide)) ?_)
    rw [s1]
    exact Rt.be (fai_ q1.1 s3) (lvs19 hL hi hk m (j + 1) (by omega) (by omega) q1.fl)
theorem lvs2 {a lv lf : Nat} {gl : Nat → Int32} (hL : LV R S a lv lf gl) : ∀ (m i : Nat) {S1 : Sg}, lv < i + m → i ≤ lv → QF R c nv S S1 → Rt (f_lives_2 R.K m S1 (some a) (nI i)) (fun S2 _ => QF R c nv S S2)
  | 0, i, _, h1, h2, _ => by omega
  | m + 1, i, S1, h1, h2, q1 => by
    obtain ⟨a1, a2, a3, a4, a5, a6, gs, a7, a8, a9⟩ := hL.qf q1.2.1
    unfold f_lives_2
    refine Rt.bd (oI_mk (q1.1.L a1) a7 a8) (Rt.it (fun w9 => Rt.rt q1) (fun w9 => ?_))
    have hlt : i < lv := by
      rcases Nat.lt_or_ge i lv with z | z
      · exact z
      · exact absurd (nI_le z (by omega)) w9
    refine Rt.ok (fun _ => ?_) (fun _ => Rt.rt q1)
    exact lvs19 hL hlt (fun S2 q2 => lvs2 hL m (i + 1) (by omega) (by omega) q2) bigN 0 (by unfold bigN; omega) (Nat.zero_le _) q1
theorem lvs_ (h : TS R c nv S) {a lv lf : Nat} {gl : Nat → Int32} (hL : LV R S a lv lf gl) : Rt (f_lives R.K S (some a)) (fun S2 _ => QF R c nv S S2) := by
  have := hL.2.2.1
  exact lvs2 hL bigN 0 (by unfold bigN; omega) (Nat.zero_le _) (QF.rf h)
/-- lifeIn -/
theorem lfi27 {a lv lf wr s : Nat} {gl : Nat → Int32} {ws : List Value} (h : TS R c nv S) (hL : LV R S a lv lf gl) (hw : wr ∈ ZL S) (hW : ZF S wr = .inr (22, ws)) (h3 : ws[3]? = some (.int (nI s))) (hs : s < R.T) : ∀ (m j : Nat), lv < j + m → j ≤ lv → Rt (f_lifeIn_27 R.K m S (some a) (some wr) (nI j)) (fun S2 r => QF R c nv S S2 ∧ (r = -1 ∨ ∃ l : Nat, l < 8 ∧ r = nI l))
  | 0, j, h1, h2 => by omega
  | m + 1, j, h1, h2 => by
    have hL0 := hL
    obtain ⟨a1, a2, a3, a4, a5, a6, gs, a7, a8, a9⟩ := hL
    unfold f_lifeIn_27
    refine Rt.bd (oI_mk (h.L a1) a7 a8) (Rt.it (fun w9 => ?_) (fun w9 => ?_))
    · exact Rt.bd (oI_mk hw hW h3) (Rt.be (fai_ h hs) (Rt.rt ⟨(QF.rf h).fl, Or.inl rfl⟩))
    have hlt : j < lv := by
      rcases Nat.lt_or_ge j lv with z | z
      · exact z
      · exact absurd (nI_le z (by omega)) w9
    obtain ⟨t, t1, t2, t3⟩ := a6 j hlt
    have hrw := h.ri a4 a5 (i := j) (by rw [t1]; have := h.tb; exact nI_ne0 (by omega) (by omega))
    refine Rt.bd (oR_mk (v := some lf) (h.L a1) a7 a9) (Rt.bd (aI_n (h.L a4) hrw (show j < 8 by omega) (by decide)) (Rt.bd (oI_mk hw hW h3) ?_))
    rw [t1]
    refine Rt.bn (snm_ h t3 hs) (fun S2 r q2 => ?_)
    obtain ⟨e2, q2⟩ := q2
    rw [e2]
    refine Rt.it (fun w8 => ?_) (fun w8 => Rt.rt ⟨QF.rf h, Or.inr ⟨j, by omega, rfl⟩⟩)
    rw [nI_1]
    exact lfi27 h hL0 hw hW h3 hs m (j + 1) (by omega) (by omega)
theorem lfi_ (h : TS R c nv S) {a lv lf : Nat} {gl : Nat → Int32} (hL : LV R S a lv lf gl) {wr p q n : Nat} (hw : isT (ZL R.S) (ZF R.S) (Zr R.S 5) n wr p q) (hq : q ≤ R.T) : Rt (f_lifeIn R.K S (some a) (some wr)) (fun S2 r => QF R c nv S S2 ∧ (r = -1 ∨ ∃ l : Nat, l < 8 ∧ r = nI l)) := by
  have hT := h.tb
  have hlt := isT_lt hw
  cases n with
  | zero => exact hw.elim
  | succ n =>
  have hbad : Rt (f_lifeIn_23 R.K S) (fun S2 r => QF R c nv S S2 ∧ (r = -1 ∨ ∃ l : Nat, l < 8 ∧ r = nI l)) := Rt.rt ⟨QF.rf h, Or.inl rfl⟩
  have hkd : ∃ (ws : List Value) (lf9 : Int32), ZF R.S wr = .inr (22, ws) ∧ ws[0]? = some (.int (Zr R.S 5 p)) ∧ ws[3]? = some (.int lf9) ∧ (lf9 = -1 ∨ (lf9 = nI (p + 1) ∧ p + 1 < R.T)) := by
    rcases hw.2 with ⟨k1, _, _⟩ | ⟨_, o, k1, _⟩ | ⟨_, o, p', mu, lf9, k1, k2, k3, k4, k5⟩
    · exact ⟨_, -1, k1, rfl, rfl, Or.inl rfl⟩
    · exact ⟨_, -1, k1, rfl, rfl, Or.inl rfl⟩
    · have := isT_lt k5
      exact ⟨_, lf9, k1, rfl, rfl, k4.imp id (fun z => ⟨z, by omega⟩)⟩
  obtain ⟨ws, lf9, g1, g2, g3, g4⟩ := hkd
  obtain ⟨w1, gs, w2, w3, w4, w5⟩ := h.ob hw.1 g1
  unfold f_lifeIn
  refine Rt.ok (fun _ => ?_) (fun _ => hbad)
  refine Rt.bd (oI_mk w1 w2 ((w4 0 rfl).trans g2)) (Rt.it (fun _ => ?_) (fun _ => hbad))
  refine Rt.bd (oI_mk w1 w2 ((w4 3 rfl).trans g3)) (Rt.it (fun w9 => ?_) (fun _ => hbad))
  rcases g4 with g4 | ⟨g4, g5⟩
  · rw [g4] at w9; exact absurd w9 (by decide)
  · rw [g4] at g3
    have := hL.2.2.1
    exact lfi27 h hL w1 w2 ((w4 3 rfl).trans g3) g5 bigN 0 (by unfold bigN; omega) (Nat.zero_le _)
end ITN
end
-- k7.h.lean.txt
section
/-- a cell of item i -/
def cIt (R : yR) (i a : Nat) : Prop := R.ws i ≤ a ∧ a < R.ws (i + 1)
/-- .. that the typing of items may write -/
def cX (R : yR) (i a : Nat) : Prop := cIt R i a ∧ ((a = R.ws i ∧ ∃ fs : List Value, ZF R.S a = .inr (16, fs)) ∨ ∃ (k : ClassId) (n : Nat) (f : vRw), ZF R.S a = .inl (k, n, f) ∧ (k = R.K.1 0 ∨ k = R.K.1 4))
theorem cX.ro {R : yR} {i a n : Nat} {k : ClassId} {f : vRw} (h : cIt R i a) (hF : ZF R.S a = .inl (k, n, f)) (hk : k = R.K.1 0 ∨ k = R.K.1 4) : cX R i a := ⟨h, Or.inr ⟨k, n, f, hF, hk⟩⟩
theorem cX.ob {R : yR} {i : Nat} {fs : List Value} (h : cIt R i (R.ws i)) (hF : ZF R.S (R.ws i) = .inr (16, fs)) : cX R i (R.ws i) := ⟨h, Or.inl ⟨rfl, fs, hF⟩⟩
theorem cX.nx {R : yR} {i a p q : Nat} (hK : yRm R) (hL : a ∈ ZL R.S) (h : Xo R p q a) (hc : cX R i a) : False := by
  rcases hc.2 with ⟨_, fs, e⟩ | ⟨k, n, f, e, hk⟩
  · exact (nXo.ob hL e (by decide)).2 p q h
  · refine (nXo.ro hL e (Or.inl ?_)).2 p q h
    rcases hk with hk | hk <;> rw [hk]
    · exact hK.2.2 0 5 (by decide) (by decide) (by decide)
    · exact hK.2.2 4 5 (by decide) (by decide) (by decide)
/-- .. but for the item's own cell -/
def cY (R : yR) (i a : Nat) : Prop := cX R i a ∧ a ≠ R.ws i
theorem cY.ro {R : yR} {i a n : Nat} {k : ClassId} {f : vRw} {fs : List Value} (h : cIt R i a) (hF : ZF R.S a = .inl (k, n, f)) (hk : k = R.K.1 0 ∨ k = R.K.1 4) (hw : ZF R.S (R.ws i) = .inr (16, fs)) : cY R i a := ⟨cX.ro h hF hk, fun e => by rw [e, hw] at hF; cases hF⟩
/-- the field 20 stays -/
def K20 (R : yR) (S : Sg) (i : Nat) (S2 : Sg) : Prop := ∀ (fs : List Value) (v : Int32), ZF S (R.ws i) = .inr (16, fs) → fs[20]? = some (.int v) → ∃ gs : List Value, ZF S2 (R.ws i) = .inr (16, gs) ∧ gs[20]? = some (.int v)
theorem K20.cy {R : yR} {S S2 : Sg} {i : Nat} (hw : R.ws i ∈ ZL R.S) (hV : VX R (cY R i) S S2) : K20 R S i S2 := fun fs v h1 h2 => ⟨fs, (hV.2.1 _ hw (fun w => w.2 rfl)).trans h1, h2⟩
theorem K20.n {R : yR} {S S1 S2 : Sg} {i : Nat} (hw : R.ws i ∈ ZL R.S) (h : K20 R S i S1) (hV : VX R nX S1 S2) : K20 R S i S2 := fun fs v h1 h2 => by
  obtain ⟨gs, g1, g2⟩ := h fs v h1 h2
  exact ⟨gs, (hV.2.1 _ hw (fun w => w)).trans g1, g2⟩
theorem K20.uf {R : yR} {S S1 : Sg} {i k : Nat} {gs : List Value} {x : Value} (h : K20 R S i S1) (hF : ZF S1 (R.ws i) = .inr (16, gs)) (hk : k ≠ 20) : K20 R S i (UF S1 (R.ws i) (.inr (16, gs.set k x))) := fun fs v h1 h2 => by
  obtain ⟨g9, g1, g2⟩ := h fs v h1 h2
  have ee : g9 = gs := (Prod.mk.inj (Sum.inr.inj (g1.symm.trans hF))).2
  subst ee
  exact ⟨_, ZF_s, by rw [List.getElem?_set_ne hk]; exact g2⟩
theorem ROW.cx {R : yR} {S S2 : Sg} {i : Nat} (hV : VX R (cX R i) S S2) (h : ROW R S) : ROW R S2 := fun a n k f h1 h2 h3 h4 h5 => (hV.2.1 a h1 (fun w => by
  rcases w.2 with ⟨_, fs, e⟩ | ⟨k9, n9, f9, e, hk⟩
  · rw [h2] at e; cases e
  · rw [h2] at e; cases e; exact hk.elim h3 h4)).trans (h a n k f h1 h2 h3 h4 h5)
/-- item i is typed, and stays so as long as its cells stay -/
def ItZ (R : yR) (S : Sg) (i : Nat) : Prop := ∀ S2 : Sg, (∀ a : Nat, cIt R i a → ZF S2 a = ZF S a) → (∀ (x : Nat) (kd ix : Int32) (o : Option Nat), isTy S x kd ix o → isTy S2 x kd ix o) → ItY R S2 i
section ITT
variable {R : yR} {c nv : Nat} {S S1 : Sg}
theorem ItZ.y {i : Nat} (h : ItZ R S i) : ItY R S i := h S (fun _ _ => rfl) (fun _ _ _ _ q => q)
theorem ItZ.vx (hD : RDI R) {i j : Nat} (hi : i < R.im) (hj : j < R.im) (hij : i ≠ j) (hV : VX R (cX R j) S S1) (h : ItZ R S i) : ItZ R S1 i := fun S2 h1 h2 => h S2 (fun a ha => (h1 a ha).trans (hV.2.1 a ((hD.2.2.2.2 i hi).2.2.2.2 a (iv_m.mpr ha)) (fun w => by
  rcases Nat.lt_or_ge i j with z | z
  · have := (hD.2.2.1 (i + 1) j (by omega) (by omega)).2; have := ha.2; have := w.1.1; omega
  · have := (hD.2.2.1 (j + 1) i (by omega) (by omega)).2; have := ha.1; have := w.1.2; omega))) (fun x kd ix o q => h2 x kd ix o (hV.2.2.2.1 x kd ix o q))
/-- a row that was blank keeps its shape -/
theorem TS.ro (h : TS R c nv S) {a n : Nat} {k : ClassId} {g : Nat → Option Nat} (ha : a ∈ ZL R.S) (hG : ZF R.S a = .inl (k, n, .inr (.inr (.inr (.inr g))))) : ∃ f : Nat → Option Nat, ZF S a = .inl (k, n, .inr (.inr (.inr (.inr f)))) := by
  obtain ⟨G, tm, Y, ad, h1, h2, h3, h4⟩ := h
  have := h1.1.2.1 a (h2 a ha).1
  rw [(h2 a ha).2, hG] at this
  cases e : ZF S a with
  | inr x => rw [e] at this; exact this.elim
  | inl x =>
    obtain ⟨k2, n2, f2⟩ := x
    rw [e] at this
    obtain ⟨e1, e2, e3⟩ := this
    subst e1; subst e2
    rcases e3 with e3 | e3
    · exact ⟨g, by rw [e3]⟩
    · cases f2 with
      | inl _ => exact e3.elim
      | inr f2 => cases f2 with
        | inl _ => exact e3.elim
        | inr f2 => cases f2 with
          | inl _ => exact e3.elim
          | inr f2 => cases f2 with
            | inl _ => exact e3.elim
            | inr f2 => exact ⟨f2, rfl⟩
theorem TS.rj (h : TS R c nv S) {a n : Nat} {k : ClassId} {g : Nat → Int32} (ha : a ∈ ZL R.S) (hG : ZF R.S a = .inl (k, n, .inl g)) : ∃ f : Nat → Int32, ZF S a = .inl (k, n, .inl f) := by
  obtain ⟨G, tm, Y, ad, h1, h2, h3, h4⟩ := h
  have := h1.1.2.1 a (h2 a ha).1
  rw [(h2 a ha).2, hG] at this
  cases e : ZF S a with
  | inr x => rw [e] at this; exact this.elim
  | inl x =>
    obtain ⟨k2, n2, f2⟩ := x
    rw [e] at this
    obtain ⟨e1, e2, e3⟩ := this
    subst e1; subst e2
    rcases e3 with e3 | e3
    · exact ⟨g, by rw [e3]⟩
    · cases f2 with
      | inl f2 => exact ⟨f2, rfl⟩
      | inr _ => exact e3.elim
/-- a cell none of whose fields may be written -/
theorem TS.oe (h : TS R c nv S) {a k : Nat} {fs : List Value} (ha : a ∈ ZL R.S) (hG : ZF R.S a = .inr (k, fs)) (hk : ∀ j : Nat, mtF k j = false) : ZF S a = .inr (k, fs) := by
  obtain ⟨w1, gs, w2, w3, w4, w5⟩ := h.ob ha hG
  rw [w2, List.ext_getElem? (fun j => w4 j (hk j))]
/-- the names of an item are looked over, one behind the other -/
def it33r (K : Ky) (k16 : Sg → Option Nat → Int32 → Option (Sg × Unit)) (S : Sg) (x1 : Option Nat) (x2 : Int32) : Option (Sg × Unit) :=
  (oI S 16 x1 2).bind fun v7 =>
    if v7 = 11 then (f_itemTypes_144 K k16 bigN S x1 x2 0) else ((oR S 16 x1 10).bind fun v8 =>
    (oR S 16 x1 9).bind fun v9 =>
    (aQ K 12 S v9 x2).bind fun v10 =>
    (oI S 16 x1 2).bind fun v11 =>
    if v11 = 12 then (f_itemTypes_109 K k16 S x1 x2 1 v10 x2 v8) else (f_itemTypes_109 K k16 S x1 x2 0 v10 x2 v8))
theorem it33_ (hD : RDI R) {i k : Nat} (hi : i < R.im) {Q : Sg → Prop} {P : Sg → Unit → Prop} {k16 : Sg → Option Nat → Int32 → Option (Sg × Unit)} (hQ : ∀ S1 : Sg, Q S1 → ∃ c1 : Nat, TS R c1 nv S1) (hF : ∀ (S1 : Sg) (x : Int32), Q S1 → Q (flS S1 3 x)) (hk : ∀ S1 : Sg, Q S1 → Rt (it33r R.K k16 S1 (some (R.ws i)) (nI k)) P) {na mn : Nat} {g : Nat → Int32} (hna : na ∈ ZL R.S) (hnR : ZF R.S na = .inl (R.K.1 0, 13, .inl g)) (hn8 : ∀ fs : List Value, ZF R.S (R.ws i) = .inr (16, fs) → fs[8]? = some (.ref na)) (hmn : mn ≤ 12) (hkm : k < mn) (hgn : ∀ j : Nat, j < mn → ∃ s : Nat, g j = nI s ∧ 0 < s ∧ s < R.T) : ∀ (m j : Nat) {S1 : Sg}, k < j + m → j ≤ k → Q S1 → Rt (f_itemTypes_33 R.K k16 m S1 (some (R.ws i)) (nI k) (nI j)) P
  | 0, j, _, h1, h2, _ => by omega
  | m + 1, j, S1, h1, h2, q1 => by
    obtain ⟨c1, t1⟩ := hQ S1 q1
    have hT := t1.tb
    obtain ⟨a1, a2, a3, fs, gs, a4, a5, a6, a7, a8, a9, a10, a11⟩ := hD.ob t1 hi
    have h8 : gs[8]? = some (.ref na) := (a8 8 rfl).trans (hn8 fs a4)
    obtain ⟨s, s1, s2, s3⟩ := hgn k hkm
    have hrw := t1.ri hna hnR (i := k) (by rw [s1]; exact nI_ne0 (by omega) (by omega))
    unfold f_itemTypes_33
    refine Rt.it (fun w9 => hk S1 q1) (fun w9 => ?_)
    have hlt : j < k := by
      rcases Nat.lt_or_ge j k with z | z
      · exact z
      · exact absurd (nI_le z (by omega)) w9
    obtain ⟨t, u1, u2, u3⟩ := hgn j (by omega)
    refine Rt.bd (oR_mk (v := some na) a2 a5 h8) (Rt.bd (aI_n (t1.L hna) hrw (show j < 13 by omega) (by decide)) (Rt.bd (oR_mk (v := some na) a2 a5 h8) (Rt.bd (aI_n (t1.L hna) hrw (show k < 13 by omega) (by decide)) ?_)))
    rw [u1, s1]
    refine Rt.bn (snm_ t1 u3 s3) (fun S2 r q2 => ?_)
    obtain ⟨e2, q2⟩ := q2
    rw [e2]
    unfold f_itemTypes_68
    rw [nI_1]
    refine Rt.it (fun w8 => it33_ hD hi hQ hF hk hna hnR hn8 hmn hkm hgn m (j + 1) (by omega) (by omega) q1) (fun w8 => ?_)
    refine Rt.bd (oR_mk (v := some na) a2 a5 h8) (Rt.bd (aI_n (t1.L hna) hrw (show k < 13 by omega) (by decide)) ?_)
    rw [s1]
    exact Rt.be (fai_ t1 s3) (it33_ hD hi hQ hF hk hna hnR hn8 hmn hkm hgn m (j + 1) (by omega) (by omega) (hF S1 _ q1))
end ITT
end
-- k7.i.lean.txt
section
/-- the fields or parameters of item i: their written types f, rows, tokens -/
def FC (R : yR) (i : Nat) (kd mb : Int32) (mn wa ta lo lv lf : Nat) (gl : Nat → Int32) (f : Nat → Option Nat) (pq : Nat → Nat) : Prop := (i < R.im ∧ R.ik i = kd ∧ ((kd = 10 ∧ mb = 0) ∨ (kd = 12 ∧ mb = 1)) ∧ mn ≤ 12) ∧ (∀ fs : List Value, ZF R.S (R.ws i) = .inr (16, fs) → fs[3]? = some (.int (nI mn)) ∧ fs[9]? = some (.ref wa) ∧ fs[10]? = some (.ref ta)) ∧ (wa ∈ ZL R.S ∧ ZF R.S wa = .inl (R.K.1 12, 13, .inr (.inr (.inr (.inr f))))) ∧ (ta ∈ ZL R.S ∧ cIt R i ta ∧ ZF R.S ta = .inl (R.K.1 4, 13, .inr (.inr (.inr (.inr (fun _ => none)))))) ∧ ((∀ j : Nat, j < mn → ∃ t p' q' : Nat, f j = some t ∧ pq j ≤ p' ∧ q' ≤ pq (j + 1) ∧ isT (ZL R.S) (ZF R.S) (Zr R.S 5) 17 t p' q') ∧ (∀ j : Nat, j ≤ mn → pq 0 ≤ pq j ∧ pq j ≤ pq mn) ∧ pq mn ≤ R.T) ∧ (kd = 12 → lo ∈ ZL R.S ∧ cIt R i lo ∧ ZF R.S lo = .inl (R.K.1 0, 13, .inl (fun _ => 0)) ∧ (∀ fs : List Value, ZF R.S (R.ws i) = .inr (16, fs) → fs[13]? = some (.ref lo)) ∧ ∀ (S : Sg) (c nv : Nat), TS R c nv S → LV R S (R.ws i) lv lf gl)
/-- the first k are typed -/
def FV (R : yR) (S : Sg) (i : Nat) (kd mb : Int32) (ta lo k : Nat) (c nv : Nat) (pq : Nat → Nat) (S1 : Sg) : Prop := TS R (c + (pq k - pq 0)) nv S1 ∧ VX R (cY R i) S S1 ∧ (Zi S1 3 = 0 → (∃ ft : Nat → Option Nat, ZF S1 ta = .inl (R.K.1 4, 13, .inr (.inr (.inr (.inr ft)))) ∧ ∀ j : Nat, j < k → ∃ x : Nat, ft j = some x ∧ rTy S1 x ∧ (mb = 0 → vTy S1 x)) ∧ (kd = 12 → ∃ go : Nat → Int32, ZF S1 lo = .inl (R.K.1 0, 13, .inl go) ∧ ∀ j : Nat, j < k → (go j = -1 ∨ ∃ l : Nat, l < 8 ∧ go j = nI l)))
section FLD
variable {R : yR} {c nv : Nat} {S : Sg}
theorem FV.fl {i ta lo k : Nat} {kd mb : Int32} {pq : Nat → Nat} {S1 : Sg} {wh x : Int32} (hw : ¬ wh = 0) (h : FV R S i kd mb ta lo k c nv pq S1) : FV R S i kd mb ta lo k c nv pq (flS S1 wh x) := ⟨h.1.fl, h.2.1.tr (VX.fl (X := cY R i)) (fun _ w => w), fun z => absurd z (flS_n0 hw)⟩
/-- a field, or a parameter -/
theorem it109 (hK : yRm R) (hD : RDI R) (hnv : nv ≤ 10000) {i mn wa ta lo lv lf k : Nat} {kd mb : Int32} {gl : Nat → Int32} {f : Nat → Option Nat} {pq : Nat → Nat} (hC : FC R i kd mb mn wa ta lo lv lf gl f pq) (hc : c + (pq mn - pq 0) ≤ 1990) {P : Sg → Unit → Prop} {k16 : Sg → Option Nat → Int32 → Option (Sg × Unit)} (hk16 : ∀ S2 : Sg, FV R S i kd mb ta lo (k + 1) c nv pq S2 → Rt (k16 S2 (some (R.ws i)) (nI (k + 1))) P) {S1 : Sg} (h : FV R S i kd mb ta lo k c nv pq S1) (hk : k < mn) : Rt (it33r R.K k16 S1 (some (R.ws i)) (nI k)) P := by
  obtain ⟨⟨hi, hik, hkm, hmn⟩, hfs, ⟨w1, w2⟩, ⟨y1, y2, y3⟩, ⟨p1, p2, p3⟩, hlo⟩ := hC
  obtain ⟨t1, v1, g1⟩ := h
  have hT := t1.tb
  obtain ⟨a1, a2, a3, fs, gs, a4, a5, a6, a7, a8, a9, a10, a11⟩ := hD.ob t1 hi
  obtain ⟨f3, f9, f10⟩ := hfs fs a4
  obtain ⟨t, p', q', k1, k2, k3, k4⟩ := p1 k hk
  have hlt := isT_lt k4
  have m1 := (p2 k (by omega)).1; have m2 := (p2 (k + 1) (by omega)).2; have m3 := (p2 (k + 1) (by omega)).1
  have hk11 : ¬ kd = 11 := by rcases hkm with ⟨e, _⟩ | ⟨e, _⟩ <;> rw [e] <;> decide
  have hrw := t1.rq w1 w2 k1
  -- what comes behind
  have hgo : Rt (f_itemTypes_109 R.K k16 S1 (some (R.ws i)) (nI k) mb (some t) (nI k) (some ta)) P := by
    unfold f_itemTypes_109
    refine Rt.bn (rsv_ hK hnv t1 (show 17 ≤ 20 by omega) k4 (by omega) (by omega)) (fun S2 r2 q2 => ?_)
    obtain ⟨x, e2, t2, v2, s2, hx, gx⟩ := q2
    subst e2
    obtain ⟨ft, hft⟩ := t2.ro y1 y3
    obtain ⟨kd9, ix9, o9, tt, x1, x2, x3, x4⟩ := hx
    refine Rt.bd (bQ_n (t2.L y1) hft (show k < 13 by omega) (by decide) (okO_mk (vs := _) x3 x4)) ?_
    have hcX : ∀ (k9 : Nat) (vs : List Value), ¬ ZF S2 ta = .inr (k9, vs) := fun k9 vs w => by rw [hft] at w; cases w
    have t3 : TS R (c + (pq (k + 1) - pq 0)) nv (UF S2 ta (.inl (R.K.1 4, 13, .inr (.inr (.inr (.inr (va_up ft k (some x)))))))) := (t2.uf y1 (cs_ro (f3 := va_up ft k (some x)) y3 (fun _ => rfl))).up (by omega)
    have v3 : VX R (cY R i) S (UF S2 ta (.inl (R.K.1 4, 13, .inr (.inr (.inr (.inr (va_up ft k (some x)))))))) := (v1.n v2).tr (VX.uf (X := cY R i) (cY.ro y2 y3 (Or.inr rfl) a4) (hcX 20) (hcX 21)) (fun _ w => w)
    have v23 : VX R (cY R i) S2 (UF S2 ta (.inl (R.K.1 4, 13, .inr (.inr (.inr (.inr (va_up ft k (some x)))))))) := VX.uf (cY.ro y2 y3 (Or.inr rfl) a4) (hcX 20) (hcX 21)
    have g3 : Zi (UF S2 ta (.inl (R.K.1 4, 13, .inr (.inr (.inr (.inr (va_up ft k (some x)))))))) 3 = 0 → (∃ ft2 : Nat → Option Nat, ZF (UF S2 ta (.inl (R.K.1 4, 13, .inr (.inr (.inr (.inr (va_up ft k (some x)))))))) ta = .inl (R.K.1 4, 13, .inr (.inr (.inr (.inr ft2)))) ∧ ∀ j : Nat, j < k + 1 → ∃ x9 : Nat, ft2 j = some x9 ∧ rTy (UF S2 ta (.inl (R.K.1 4, 13, .inr (.inr (.inr (.inr (va_up ft k (some x)))))))) x9 ∧ (mb = 0 → vTy (UF S2 ta (.inl (R.K.1 4, 13, .inr (.inr (.inr (.inr (va_up ft k (some x)))))))) x9)) ∧ (kd = 12 → ∃ go : Nat → Int32, ZF (UF S2 ta (.inl (R.K.1 4, 13, .inr (.inr (.inr (.inr (va_up ft k (some x)))))))) lo = .inl (R.K.1 0, 13, .inl go) ∧ ∀ j : Nat, j < k → (go j = -1 ∨ ∃ l : Nat, l < 8 ∧ go j = nI l)) := fun z => by
      have z2 : Zi S2 3 = 0 := z
      obtain ⟨⟨ft1, r1, r2⟩, r3⟩ := g1 (v2.2.2.2.2.2 z2)
      have e1 : ft1 = ft := by
        have := (v2.2.1 ta y1 (fun w => w)).trans r1
        rw [hft] at this; cases this; rfl
      subst e1
      refine ⟨⟨_, ZF_s, fun j hj => ?_⟩, fun ek => ?_⟩
      · by_cases e : j = k
        · subst e
          exact ⟨x, va_up_self _ _ _, (gx z2).1.im v23.2.2.2.1, fun m0 => ((gx z2).2 m0).im v23.2.2.2.1⟩
        · obtain ⟨x9, r4, r5, r6⟩ := r2 j (by omega)
          exact ⟨x9, (va_up_ne _ _ e).trans r4, (r5.im v2.2.2.2.1).im v23.2.2.2.1, fun m0 => ((r6 m0).im v2.2.2.2.1).im v23.2.2.2.1⟩
      · obtain ⟨go, r7, r8⟩ := r3 ek
        obtain ⟨l1, l2, l3, l4, l5⟩ := hlo ek
        exact ⟨go, (ZF_n (fun e => by rw [e, y3] at l3; exact absurd (Prod.mk.inj (Prod.mk.inj (Sum.inl.inj l3)).2).2 (fun w => by cases w))).trans ((v2.2.1 lo l1 (fun w => w)).trans r7), r8⟩
    revert t3 v3 g3
    generalize UF S2 ta (.inl (R.K.1 4, 13, .inr (.inr (.inr (.inr (va_up ft k (some x))))))) = S3
    intro t3 v3 g3
    obtain ⟨b1, b2, b3, fs9, gs9, b4, b5, b6, b7, b8, b9, b10, b11⟩ := hD.ob t3 hi
    have e9 : fs9 = fs := (Prod.mk.inj (Sum.inr.inj (b4.symm.trans a4))).2
    subst e9
    unfold f_itemTypes_197
    rw [nI_1]
    refine Rt.bd (oI_mk b2 b5 (b11.trans (by rw [hik]))) (Rt.it (fun ek => ?_) (fun ek => hk16 S3 ⟨t3, v3, fun z => ⟨(g3 z).1, fun ek2 => absurd ek2 ek⟩⟩))
    obtain ⟨l1, l2, l3, l4, l5⟩ := hlo ek
    refine Rt.bd (oR_mk (v := some lo) b2 b5 ((b8 13 rfl).trans (l4 _ b4))) (Rt.bd (oR_mk (v := some wa) b2 b5 ((b8 9 rfl).trans f9)) (Rt.bd (aQ_n (t3.L w1) (t3.rq w1 w2 k1) (show k < 13 by omega) (by decide)) ?_))
    rw [k1]
    refine Rt.bn (lfi_ t3 (l5 S3 _ _ t3) k4 (by omega)) (fun S4 r4 q4 => ?_)
    obtain ⟨⟨t4, v4, s4⟩, q4⟩ := q4
    obtain ⟨go4, hgo4⟩ := t4.rj l1 l3
    refine Rt.bd (bI_n (t4.L l1) hgo4 (show k < 13 by omega) (by decide)) (hk16 _ ⟨t4.uf l1 (cs_ri (f3 := upd go4 k r4) l3 (fun _ => rfl)), ?_, fun z => ?_⟩)
    · exact (v3.n v4).tr (VX.uf (X := cY R i) (cY.ro l2 l3 (Or.inl rfl) a4) (fun vs w => by rw [hgo4] at w; cases w) (fun vs w => by rw [hgo4] at w; cases w)) (fun _ w => w)
    · have z4 : Zi S4 3 = 0 := z
      have v45 : VX R (cY R i) S4 (UF S4 lo (.inl (R.K.1 0, 13, .inl (upd go4 k r4)))) := VX.uf (cY.ro l2 l3 (Or.inl rfl) a4) (fun vs w => by rw [hgo4] at w; cases w) (fun vs w => by rw [hgo4] at w; cases w)
      obtain ⟨⟨ft3, r1, r2⟩, r3⟩ := g3 (v4.2.2.2.2.2 z4)
      obtain ⟨go, r7, r8⟩ := r3 ek
      have e1 : go = go4 := by
        have := (v4.2.1 lo l1 (fun w => w)).trans r7
        rw [hgo4] at this; cases this; rfl
      subst e1
      refine ⟨⟨ft3, (ZF_n (fun e => by rw [e, l3] at y3; exact absurd (Prod.mk.inj (Prod.mk.inj (Sum.inl.inj y3)).2).2 (fun w => by cases w))).trans ((v4.2.1 ta y1 (fun w => w)).trans r1), fun j hj => ?_⟩, fun _ => ⟨_, ZF_s, fun j hj => ?_⟩⟩
      · obtain ⟨x9, r4, r5, r6⟩ := r2 j hj
        exact ⟨x9, r4, (r5.im v4.2.2.2.1).im v45.2.2.2.1, fun m0 => ((r6 m0).im v4.2.2.2.1).im v45.2.2.2.1⟩
      · by_cases e : j = k
        · subst e
          rw [show upd go j r4 j = r4 from if_pos rfl]
          exact q4
        · rw [show upd go k r4 j = go j from if_neg e]
          exact r8 j (by omega)
  unfold it33r
  refine Rt.bd (oI_mk a2 a5 (a11.trans (by rw [hik]))) (Rt.iq hk11 ?_)
  refine Rt.bd (oR_mk (v := some ta) a2 a5 ((a8 10 rfl).trans f10)) (Rt.bd (oR_mk (v := some wa) a2 a5 ((a8 9 rfl).trans f9)) (Rt.bd (aQ_n (t1.L w1) hrw (show k < 13 by omega) (by decide)) (Rt.bd (oI_mk a2 a5 (a11.trans (by rw [hik]))) ?_)))
  rw [k1]
  rcases hkm with ⟨e1, e2⟩ | ⟨e1, e2⟩
  · subst e2
    exact Rt.iq (by rw [e1]; decide) hgo
  · subst e2
    exact Rt.ip e1 hgo
end FLD
end
-- k7.j.lean.txt
section
/-- a variant's parts are typed -/
def PT (R : yR) (S1 : Sg) (i t : Nat) : Prop := ZF R.S t = .inr (17, [.int 0, .null, .null]) ∨ ∃ (wa ta mk : Nat) (ft : Nat → Option Nat), ZF R.S t = .inr (17, [.int (nI mk), .ref wa, .ref ta]) ∧ mk ≤ 12 ∧ cIt R i ta ∧ ta ∈ ZL R.S ∧ ZF R.S ta = .inl (R.K.1 4, 12, .inr (.inr (.inr (.inr (fun _ => none))))) ∧ ZF S1 ta = .inl (R.K.1 4, 12, .inr (.inr (.inr (.inr ft)))) ∧ ∀ l : Nat, l < mk → ∃ x : Nat, ft l = some x ∧ vTy S1 x
/-- the variants of item i -/
def EC (R : yR) (i mn vr : Nat) (fv : Nat → Option Nat) (pq : Nat → Nat) : Prop := (i < R.im ∧ R.ik i = 11 ∧ mn ≤ 12) ∧ (∀ fs : List Value, ZF R.S (R.ws i) = .inr (16, fs) → fs[3]? = some (.int (nI mn)) ∧ fs[11]? = some (.ref vr)) ∧ (vr ∈ ZL R.S ∧ ZF R.S vr = .inl (R.K.1 13, 13, .inr (.inr (.inr (.inr fv))))) ∧ (∀ j : Nat, j < mn → ∃ t p' q' : Nat, fv j = some t ∧ pq j ≤ p' ∧ q' ≤ pq (j + 1) ∧ isPa (iv (R.ws i) (R.ws (i + 1))) (ZF R.S) (Zr R.S 5) (R.K.1 12) (R.K.1 4) t p' q') ∧ (∀ j k t u ta : Nat, j < k → k < mn → fv j = some t → fv k = some u → taOf (ZF R.S) t ta → taOf (ZF R.S) u ta → False) ∧ (∀ j : Nat, j ≤ mn → pq 0 ≤ pq j ∧ pq j ≤ pq mn) ∧ pq mn ≤ R.T
/-- the first k variants are typed -/
def VV (R : yR) (S : Sg) (i k : Nat) (fv : Nat → Option Nat) (c nv : Nat) (pq : Nat → Nat) (S1 : Sg) : Prop := TS R (c + (pq k - pq 0)) nv S1 ∧ VX R (cY R i) S S1 ∧ (Zi S1 3 = 0 → ∀ j : Nat, j < k → ∃ t : Nat, fv j = some t ∧ PT R S1 i t)
section VRT
variable {R : yR} {c nv : Nat} {S : Sg}
theorem VV.fl {i k : Nat} {fv : Nat → Option Nat} {pq : Nat → Nat} {S1 : Sg} {wh x : Int32} (hw : ¬ wh = 0) (h : VV R S i k fv c nv pq S1) : VV R S i k fv c nv pq (flS S1 wh x) := ⟨h.1.fl, h.2.1.tr (VX.fl (X := cY R i)) (fun _ w => w), fun z => absurd z (flS_n0 hw)⟩
theorem PT.vx {i t : Nat} {X : Nat → Prop} {S1 S2 : Sg} (hV : VX R X S1 S2) (hX : ∀ ta : Nat, taOf (ZF R.S) t ta → ¬ X ta) (h : PT R S1 i t) : PT R S2 i t := by
  rcases h with h | ⟨wa, ta, mk, ft, h1, h2, h3, h4, h5, h6, h7⟩
  · exact Or.inl h
  · exact Or.inr ⟨wa, ta, mk, ft, h1, h2, h3, h4, h5, (hV.2.1 ta h4 (hX ta ⟨_, _, h1⟩)).trans h6, fun l hl => by obtain ⟨x, k1, k2⟩ := h7 l hl; exact ⟨x, k1, k2.im hV.2.2.2.1⟩⟩
/-- a variant -/
theorem it144 (hK : yRm R) (hD : RDI R) (hnv : nv ≤ 10000) {i mn vr k : Nat} {fv : Nat → Option Nat} {pq : Nat → Nat} (hC : EC R i mn vr fv pq) (hc : c + (pq mn - pq 0) ≤ 1990) {P : Sg → Unit → Prop} {k16 : Sg → Option Nat → Int32 → Option (Sg × Unit)} (hk16 : ∀ S2 : Sg, VV R S i (k + 1) fv c nv pq S2 → Rt (k16 S2 (some (R.ws i)) (nI (k + 1))) P) {S1 : Sg} (h : VV R S i k fv c nv pq S1) (hk : k < mn) : Rt (it33r R.K k16 S1 (some (R.ws i)) (nI k)) P := by
  obtain ⟨⟨hi, hik, hmn⟩, hfs, ⟨w1, w2⟩, hp, hdis, p2, p3⟩ := hC
  obtain ⟨t1, v1, g1⟩ := h
  have hT := t1.tb
  obtain ⟨t, p', q', k1, k2, k3, k4⟩ := hp k hk
  have m1 := (p2 k (by omega)).1; have m2 := (p2 (k + 1) (by omega)).2; have m3 := (p2 (k + 1) (by omega)).1
  have hiv := (hD.2.2.2.2 i hi).2.2.2.2
  obtain ⟨fsR, hwR, _⟩ := (hD.2.2.2.2 i hi).2.2.1
  have htR : t ∈ ZL R.S := hiv _ k4.1
  have hpq := k4.2.1
  -- how the item's fields are read
  have hit : ∀ {S2 : Sg} {c2 : Nat}, TS R c2 nv S2 → ∃ gs : List Value, R.ws i ∈ ZL S2 ∧ ZF S2 (R.ws i) = .inr (16, gs) ∧ gs[2]? = some (.int 11) ∧ gs[11]? = some (.ref vr) ∧ vr ∈ ZL S2 ∧ ZF S2 vr = .inl (R.K.1 13, 13, .inr (.inr (.inr (.inr fv)))) := fun {S2 c2} t2 => by
    obtain ⟨a1, a2, a3, fs, gs, a4, a5, a6, a7, a8, a9, a10, a11⟩ := hD.ob t2 hi
    exact ⟨gs, a2, a5, a11.trans (by rw [hik]), (a8 11 rfl).trans (hfs fs a4).2, t2.L w1, t2.rq w1 w2 k1⟩
  have hoe : ∀ {S2 : Sg} {c2 : Nat} {fs : List Value}, TS R c2 nv S2 → ZF R.S t = .inr (17, fs) → ZF S2 t = .inr (17, fs) := fun t2 e => t2.oe htR e (fun j => rfl)
  unfold it33r
  obtain ⟨gs, a1, a2, a3, a4, a5, a6⟩ := hit t1
  refine Rt.bd (oI_mk a1 a2 a3) (Rt.ip rfl ?_)
  rcases k4.2.2 with e0 | ⟨wa, ta, mk, q2, f, e0, b1, b2, b3, b4, b5, b6, rs, r1, r2, r3⟩
  · -- no parts
    unfold bigN f_itemTypes_144 f_itemTypes_197
    rw [nI_1]
    refine Rt.bd (oR_mk (v := some vr) a1 a2 a4) (Rt.bd (aQ_n a5 a6 (show k < 13 by omega) (by decide)) ?_)
    rw [k1]
    refine Rt.bd (oI_mk (t1.L htR) (hoe t1 e0) (v := 0) rfl) (Rt.ip (by decide) (hk16 S1 ⟨t1.up (by omega), v1, fun z j hj => ?_⟩))
    by_cases e : j = k
    · subst e; exact ⟨t, k1, Or.inl e0⟩
    · exact g1 z j (by omega)
  · have hta := hiv _ b3
    have hwa := hiv _ b2
    have hcta : cIt R i ta := iv_m.mp b3
    have hrm : ∀ l : Nat, l ≤ mk → rs 0 ≤ rs l ∧ rs l ≤ rs mk := by
      have hst : ∀ (d l : Nat), l + d ≤ mk → rs l ≤ rs (l + d) := by
        intro d
        induction d with
        | zero => exact fun l _ => Nat.le_refl _
        | succ d ih =>
          intro l hl
          obtain ⟨t9, p9, q9, _, z1, z2, z3⟩ := r3 (l + d) (by omega)
          have := isT_lt z3
          have := ih l (by omega)
          show rs l ≤ rs (l + d + 1)
          omega
      intro l hl
      have h1 := hst l 0 (by omega)
      have h2 := hst (mk - l) l (by omega)
      rw [Nat.zero_add] at h1
      rw [show l + (mk - l) = mk by omega] at h2
      exact ⟨h1, h2⟩
    suffices hloop : ∀ (m l : Nat) {S2 : Sg}, mk < l + m → l ≤ mk → TS R (c + (pq k - pq 0) + (rs l - rs 0)) nv S2 → VX R (cY R i) S S2 → (Zi S2 3 = 0 → (∀ j : Nat, j < k → ∃ t : Nat, fv j = some t ∧ PT R S2 i t) ∧ ∃ ft : Nat → Option Nat, ZF S2 ta = .inl (R.K.1 4, 12, .inr (.inr (.inr (.inr ft)))) ∧ ∀ j : Nat, j < l → ∃ x : Nat, ft j = some x ∧ vTy S2 x) → Rt (f_itemTypes_144 R.K k16 m S2 (some (R.ws i)) (nI k) (nI l)) P from
      hloop bigN 0 (by unfold bigN; omega) (Nat.zero_le _) (t1.up (by omega)) v1 (fun z => ⟨g1 z, by obtain ⟨ft, hft⟩ := t1.ro hta b5; exact ⟨ft, hft, fun j hj => absurd hj (by omega)⟩⟩)
    intro m
    induction m with
    | zero => intro l S2 h1 h2; omega
    | succ m ih =>
      intro l S2 hl1 hl2 t2 v2 g2
      obtain ⟨gs2, c1, c2, c3, c4, c5, c6⟩ := hit t2
      have ht := hoe t2 e0
      have hend : (Zi S2 3 = 0 → l = mk) → Rt (f_itemTypes_197 R.K k16 S2 (some (R.ws i)) (nI k)) P := fun hl => by
        unfold f_itemTypes_197
        rw [nI_1]
        have := (hrm l hl2).2
        refine hk16 S2 ⟨t2.up (by omega), v2, fun z j hj => ?_⟩
        obtain ⟨g3, ft, g4, g5⟩ := g2 z
        by_cases e : j = k
        · subst e
          exact ⟨t, k1, Or.inr ⟨wa, ta, mk, ft, e0, b1, hcta, hta, b5, g4, fun l9 h9 => g5 l9 (by rw [hl z]; exact h9)⟩⟩
        · exact g3 j (by omega)
      unfold f_itemTypes_144
      refine Rt.bd (oR_mk (v := some vr) c1 c2 c4) (Rt.bd (aQ_n c5 c6 (show k < 13 by omega) (by decide)) ?_)
      rw [k1]
      refine Rt.bd (oI_mk (t2.L htR) ht (v := nI mk) rfl) (Rt.it (fun w9 => hend (fun _ => ?_)) (fun w9 => ?_))
      · have := (nI_leI (a := mk) (b := l) (by omega) (by omega)).mp w9; omega
      have hlt : l < mk := by
        rcases Nat.lt_or_ge l mk with z | z
        · exact z
        · exact absurd (nI_le z (by omega)) w9
      refine Rt.ok (fun z2 => ?_) (fun z2 => hend (fun w => absurd w z2))
      obtain ⟨w, pw, qw, s1, s2, s3, s4⟩ := r3 l hlt
      have s4' : isT (ZL R.S) (ZF R.S) (Zr R.S 5) 17 w pw qw := isT_ex (fun a ha => ⟨hiv a ha, rfl⟩) s4
      have hlw := isT_lt s4
      have n1 := (hrm l hl2).1; have n2 := (hrm (l + 1) (by omega)).2; have n3 := (hrm (l + 1) (by omega)).1
      refine Rt.bd (oR_mk (v := some vr) c1 c2 c4) (Rt.bd (aQ_n c5 c6 (show k < 13 by omega) (by decide)) ?_)
      rw [k1]
      refine Rt.bd (oR_mk (v := some ta) (t2.L htR) ht rfl) (Rt.bd (oR_mk (v := some vr) c1 c2 c4) (Rt.bd (aQ_n c5 c6 (show k < 13 by omega) (by decide)) ?_))
      rw [k1]
      refine Rt.bd (oR_mk (v := some wa) (t2.L htR) ht rfl) (Rt.bd (aQ_n (t2.L hwa) (t2.rq hwa b4 s1) (show l < 12 by omega) (by decide)) ?_)
      rw [s1]
      refine Rt.bn (rsv_ hK hnv t2 (show 17 ≤ 20 by omega) s4' (by omega) (by omega)) (fun S3 r3' q3 => ?_)
      obtain ⟨x, e3, t3, v3, _, hx, gx⟩ := q3
      subst e3
      obtain ⟨ft, hft⟩ := t3.ro hta b5
      obtain ⟨kd9, ix9, o9, tt, x1, x2, x3, x4⟩ := hx
      refine Rt.bd (bQ_n (t3.L hta) hft (show l < 12 by omega) (by decide) (okO_mk (vs := _) x3 x4)) ?_
      rw [nI_1]
      have hcX : ∀ (k9 : Nat) (vs : List Value), ¬ ZF S3 ta = .inr (k9, vs) := fun k9 vs w => by rw [hft] at w; cases w
      have v34 : VX R (fun a => a = ta) S3 (UF S3 ta (.inl (R.K.1 4, 12, .inr (.inr (.inr (.inr (va_up ft l (some x)))))))) := VX.uf rfl (hcX 20) (hcX 21)
      refine ih (l + 1) (by omega) (by omega) ((t3.uf hta (cs_ro (f3 := va_up ft l (some x)) b5 (fun _ => rfl))).up (by omega)) ((v2.n v3).tr v34 (fun a e => e ▸ cY.ro hcta b5 (Or.inr rfl) hwR)) (fun z => ?_)
      have z3 : Zi S3 3 = 0 := z
      obtain ⟨g3, ft1, g4, g5⟩ := g2 (v3.2.2.2.2.2 z3)
      have e1 : ft1 = ft := by
        have := (v3.2.1 ta hta (fun w => w)).trans g4
        rw [hft] at this; cases this; rfl
      subst e1
      refine ⟨fun j hj => ?_, _, ZF_s, fun j hj => ?_⟩
      · obtain ⟨t9, i1, i2⟩ := g3 j hj
        exact ⟨t9, i1, (i2.vx v3 (fun _ _ w => w)).vx v34 (fun ta9 i3 e => by subst e; exact hdis j k t9 t ta9 hj hk i1 k1 i3 ⟨_, _, e0⟩)⟩
      · by_cases e : j = l
        · subst e
          exact ⟨x, va_up_self _ _ _, ((gx z3).2 rfl).im v34.2.2.2.1⟩
        · obtain ⟨x9, i1, i2⟩ := g5 j (by omega)
          exact ⟨x9, (va_up_ne _ _ e).trans i1, (i2.im v3.2.2.2.1).im v34.2.2.2.1⟩
end VRT
end
-- k7.k.lean.txt
section
/-- behind the typing of item i -/
def ItR (R : yR) (c nv : Nat) (S : Sg) (i : Nat) (S2 : Sg) : Prop := ∃ c2 : Nat, c2 ≤ c + (R.ms i - R.ps i) ∧ TS R c2 nv S2 ∧ VX R (cX R i) S S2 ∧ (Zi S2 3 = 0 → ItZ R S2 i) ∧ K20 R S i S2
section IT16
variable {R : yR} {c nv : Nat} {S : Sg}
theorem it16_ (hD : RDI R) {i mn na : Nat} {g : Nat → Int32} {I : Nat → Sg → Prop} {P : Sg → Unit → Prop} (hi : i < R.im) (hI1 : ∀ (k : Nat) (S1 : Sg), I k S1 → ∃ c1 : Nat, TS R c1 nv S1) (hIf : ∀ (k : Nat) (S1 : Sg) (x : Int32), I k S1 → I k (flS S1 3 x)) (hst : ∀ (k : Nat) (S1 : Sg) (k16 : Sg → Option Nat → Int32 → Option (Sg × Unit)), k < mn → (∀ S2 : Sg, I (k + 1) S2 → Rt (k16 S2 (some (R.ws i)) (nI (k + 1))) P) → I k S1 → Rt (it33r R.K k16 S1 (some (R.ws i)) (nI k)) P) (hen : ∀ (k : Nat) (S1 : Sg), k ≤ mn → I k S1 → (Zi S1 3 = 0 → k = mn) → Rt (f_itemTypes_203 R.K S1 (some (R.ws i))) P) (hna : na ∈ ZL R.S) (hnR : ZF R.S na = .inl (R.K.1 0, 13, .inl g)) (hfs : ∀ fs : List Value, ZF R.S (R.ws i) = .inr (16, fs) → fs[3]? = some (.int (nI mn)) ∧ fs[8]? = some (.ref na)) (hmn : mn ≤ 12) (hgn : ∀ j : Nat, j < mn → ∃ s : Nat, g j = nI s ∧ 0 < s ∧ s < R.T) : ∀ (m k : Nat) {S1 : Sg}, mn < k + m → k ≤ mn → I k S1 → Rt (f_itemTypes_16 R.K m S1 (some (R.ws i)) (nI k)) P
  | 0, k, _, h1, h2, _ => by omega
  | m + 1, k, S1, h1, h2, q1 => by
    obtain ⟨c1, t1⟩ := hI1 k S1 q1
    obtain ⟨a1, a2, a3, fs, gs, a4, a5, a6, a7, a8, a9, a10, a11⟩ := hD.ob t1 hi
    unfold f_itemTypes_16
    refine Rt.bd (oI_mk a2 a5 ((a8 3 rfl).trans (hfs fs a4).1)) (Rt.it (fun w9 => ?_) (fun w9 => ?_))
    · exact hen k S1 h2 q1 (fun _ => by have := (nI_leI (a := mn) (b := k) (by omega) (by omega)).mp w9; omega)
    have hlt : k < mn := by
      rcases Nat.lt_or_ge k mn with z | z
      · exact z
      · exact absurd (nI_le z (by omega)) w9
    refine Rt.ok (fun z => ?_) (fun z => hen k S1 h2 q1 (fun w => absurd w z))
    exact it33_ hD hi (Q := I k) (hI1 k) (fun S2 x => hIf k S2 x) (fun S2 q2 => hst k S2 _ hlt (fun S3 q3 => it16_ hD hi hI1 hIf hst hen hna hnR hfs hmn hgn m (k + 1) (by omega) (by omega) q3) q2) hna hnR (fun fs e => (hfs fs e).2) hmn hlt hgn bigN 0 (by unfold bigN; omega) (Nat.zero_le _) q1
/-- the names' row, as it is now -/
theorem TS.nm (h : TS R c nv S) {na mn : Nat} {g : Nat → Int32} (hna : na ∈ ZL R.S) (hnR : ZF R.S na = .inl (R.K.1 0, 13, .inl g)) (hgn : ∀ j : Nat, j < mn → ∃ s : Nat, g j = nI s ∧ 0 < s ∧ s < R.T) : ∃ g2 : Nat → Int32, ZF S na = .inl (R.K.1 0, 13, .inl g2) ∧ ∀ j : Nat, j < mn → ∃ s : Nat, g2 j = nI s ∧ s < R.T := by
  have hT := h.tb
  cases mn with
  | zero =>
    obtain ⟨g2, e⟩ := h.rj hna hnR
    exact ⟨g2, e, fun j hj => absurd hj (by omega)⟩
  | succ mn =>
    obtain ⟨s, s1, s2, s3⟩ := hgn 0 (by omega)
    refine ⟨g, h.ri hna hnR (i := 0) (by rw [s1]; exact nI_ne0 (by omega) (by omega)), fun j hj => ?_⟩
    obtain ⟨s, s1, s2, s3⟩ := hgn j hj
    exact ⟨s, s1, s3⟩
/-- what a function gives -/
theorem it203 (hK : yRm R) (hD : RDI R) (hnv : nv ≤ 10000) {i mn wa ta lo lv lf na : Nat} {gl g : Nat → Int32} {f : Nat → Option Nat} {pq : Nat → Nat} {rs : Value} (hC : FC R i 12 1 mn wa ta lo lv lf gl f pq) (hcI : cIt R i (R.ws i) ∧ cIt R i na) (hna : na ∈ ZL R.S) (hnR : ZF R.S na = .inl (R.K.1 0, 13, .inl g)) (hn8 : ∀ fs : List Value, ZF R.S (R.ws i) = .inr (16, fs) → fs[8]? = some (.ref na) ∧ fs[14]? = some rs) (hgn : ∀ j : Nat, j < mn → ∃ s : Nat, g j = nI s ∧ 0 < s ∧ s < R.T) (hrs : rs = .null ∨ ∃ t p' q2 : Nat, rs = .ref t ∧ pq mn ≤ p' ∧ q2 ≤ R.ms i ∧ isT (ZL R.S) (ZF R.S) (Zr R.S 5) 17 t p' q2) (hp0 : R.ps i ≤ pq 0) (hpm : pq mn ≤ R.ms i) (hpT : R.ms i ≤ R.T) (hc : c + (R.ms i - R.ps i) ≤ 1990) {k : Nat} {S1 : Sg} (hk : k ≤ mn) (h : FV R S i 12 1 ta lo k c nv pq S1) (hkz : Zi S1 3 = 0 → k = mn) : Rt (f_itemTypes_203 R.K S1 (some (R.ws i))) (fun S2 _ => ItR R c nv S i S2) := by
  obtain ⟨⟨hi, hik, _, hmn⟩, hfs, ⟨w1, w2⟩, ⟨y1, y2, y3⟩, ⟨p1, p2, p3⟩, hlo⟩ := hC
  obtain ⟨l1, l2, l3, l4, l5⟩ := hlo rfl
  obtain ⟨t1, v0, g1⟩ := h
  have v1 : VX R (cX R i) S S1 := v0.mo (fun a w => w.1)
  have hT := t1.tb
  have m1 := (p2 k hk).2; have m2 := (p2 k hk).1
  obtain ⟨a1, a2, a3, fs, gs, a4, a5, a6, a7, a8, a9, a10, a11⟩ := hD.ob t1 hi
  have hnw : nXo R (R.ws i) := nXo.ob a1 a4 (by decide)
  have k20 : K20 R S i S1 := K20.cy a1 v0
  -- how it ends: the fields 15 and 7 are told
  have hend : ∀ (S2 : Sg) (c2 x : Nat) (rl : Int32) (hs : List Value), c2 ≤ c + (R.ms i - R.ps i) → TS R c2 nv S2 → VX R (cX R i) S S2 → ZF S2 (R.ws i) = .inr (16, hs) → hs[15]? = some (.ref x) → K20 R S i S2 → (Zi S2 3 = 0 → (∃ ft : Nat → Option Nat, ZF S2 ta = .inl (R.K.1 4, 13, .inr (.inr (.inr (.inr ft)))) ∧ ∀ j : Nat, j < mn → ∃ x : Nat, ft j = some x ∧ rTy S2 x) ∧ (∃ go : Nat → Int32, ZF S2 lo = .inl (R.K.1 0, 13, .inl go) ∧ ∀ j : Nat, j < mn → (go j = -1 ∨ ∃ l : Nat, l < 8 ∧ go j = nI l)) ∧ xTy S2 x) → (rl = -1 ∨ ∃ l : Nat, l < 8 ∧ rl = nI l) → Rt (f_itemTypes_270 R.K S2 rl (some (R.ws i))) (fun S2 _ => ItR R c nv S i S2) := fun S2 c2 x rl hs hc2 t2 v2 e2 e15 k2' g2 hrl => by
    obtain ⟨b1, b2, b3, fs9, gs9, b4, b5, b6, b7, b8, b9, b10, b11⟩ := hD.ob t2 hi
    have ee : gs9 = hs := (Prod.mk.inj (Sum.inr.inj (b5.symm.trans e2))).2
    subst ee
    have ef : fs9 = fs := (Prod.mk.inj (Sum.inr.inj (b4.symm.trans a4))).2
    subst ef
    unfold f_itemTypes_270
    refine Rt.bd (pV_mk b2 b5 (by rw [b7]; decide)) (Rt.rt ⟨c2, hc2, t2.uf a1 (cs_put b9 rfl), v2.tr (VX.uf (X := cX R i) (cX.ob hcI.1 a4) (fun vs w => by rw [b5] at w; cases w) (fun vs w => by rw [b5] at w; cases w)) (fun _ w => w), fun z => ?_, k2'.uf b5 (by decide)⟩)
    have z2 : Zi S2 3 = 0 := z
    obtain ⟨⟨ft, r1, r2⟩, ⟨go, r3, r4⟩, r5⟩ := g2 z2
    obtain ⟨g9, n1, n2⟩ := t2.nm hna hnR hgn
    intro S3 hA hTy
    have v23 : ∀ (x : Nat) (kd ix : Int32) (o : Option Nat), isTy S2 x kd ix o → isTy S3 x kd ix o := fun x kd ix o q => hTy x kd ix o ((VX.uf (R := R) (X := cX R i) (S := S2) (a := R.ws i) (x := .inr (16, gs9.set 7 (.int rl))) (cX.ob hcI.1 a4) (fun vs w => by rw [b5] at w; cases w) (fun vs w => by rw [b5] at w; cases w)).2.2.2.1 x kd ix o q)
    have hne : ∀ {a n : Nat} {k : ClassId} {f : vRw}, ZF R.S a = .inl (k, n, f) → a ≠ R.ws i := fun e w => by rw [w, a4] at e; cases e
    refine ⟨hnw, (hD.2.2.2.2 i hi).1, gs9.set 7 (.int rl), mn, na, g9, (hA _ hcI.1).trans ZF_s, ?_, ?_, hmn, ?_, nXo.ro hna hnR (Or.inl (hK.2.2 0 5 (by decide) (by decide) (by decide))), (hA _ hcI.2).trans ((ZF_n (hne hnR)).trans n1), n2, Or.inr (Or.inr ⟨hik, ta, x, lo, ft, go, rl, ?_, ⟨nXo.ro y1 y3 (Or.inl (hK.2.2 4 5 (by decide) (by decide) (by decide))), (hA _ y2).trans ((ZF_n (hne y3)).trans r1), fun j hj => by obtain ⟨x9, q1, q2⟩ := r2 j hj; exact ⟨x9, q1, q2.im v23⟩⟩, ?_, r5.im v23, ?_, hrl, ?_, nXo.ro l1 l3 (Or.inl (hK.2.2 0 5 (by decide) (by decide) (by decide))), (hA _ l2).trans ((ZF_n (hne l3)).trans r3), r4⟩)⟩
    · rw [List.getElem?_set_ne (by decide)]; exact b11
    · rw [List.getElem?_set_ne (by decide)]; exact (b8 3 rfl).trans (hfs _ b4).1
    · rw [List.getElem?_set_ne (by decide)]; exact (b8 8 rfl).trans (hn8 _ b4).1
    · rw [List.getElem?_set_ne (by decide)]; exact (b8 10 rfl).trans (hfs _ b4).2.2
    · rw [List.getElem?_set_ne (by decide)]; exact e15
    · rw [List.getElem?_set_self (by rw [b7]; decide)]
    · rw [List.getElem?_set_ne (by decide)]; exact (b8 13 rfl).trans (l4 _ b4)
  -- field 15
  have h246 : ∀ (S2 : Sg) (c2 x : Nat), c2 ≤ c + (R.ms i - R.ps i) → TS R c2 nv S2 → VX R nX S1 S2 → (∃ (kd ix : Int32) (o : Option Nat), isTy S2 x kd ix o) → (Zi S2 3 = 0 → xTy S2 x) → Rt (f_itemTypes_246 R.K S2 (some (R.ws i)) (some x) (some (R.ws i))) (fun S2 _ => ItR R c nv S i S2) := fun S2 c2 x hc2 t2 v2 hx gx => by
    obtain ⟨b1, b2, b3, fs9, gs9, b4, b5, b6, b7, b8, b9, b10, b11⟩ := hD.ob t2 hi
    have ef : fs9 = fs := (Prod.mk.inj (Sum.inr.inj (b4.symm.trans a4))).2
    subst ef
    have hne : ∀ {a n : Nat} {k : ClassId} {f : vRw}, ZF R.S a = .inl (k, n, f) → a ≠ R.ws i := fun e w => by rw [w, a4] at e; cases e
    unfold f_itemTypes_246
    refine Rt.bd (pV_mk (v := .ref x) b2 b5 (by rw [b7]; decide)) ?_
    have vX : VX R (cX R i) S2 (UF S2 (R.ws i) (.inr (16, gs9.set 15 (.ref x)))) := VX.uf (cX.ob hcI.1 a4) (fun vs w => by rw [b5] at w; cases w) (fun vs w => by rw [b5] at w; cases w)
    have t3 : TS R c2 nv (UF S2 (R.ws i) (.inr (16, gs9.set 15 (.ref x)))) := t2.uf a1 (cs_put b9 rfl)
    have v3 : VX R (cX R i) S (UF S2 (R.ws i) (.inr (16, gs9.set 15 (.ref x)))) := (v1.n v2).tr vX (fun _ w => w)
    have e3 : ZF (UF S2 (R.ws i) (.inr (16, gs9.set 15 (.ref x)))) (R.ws i) = .inr (16, gs9.set 15 (.ref x)) := ZF_s
    have g3 : Zi (UF S2 (R.ws i) (.inr (16, gs9.set 15 (.ref x)))) 3 = 0 → (∃ ft : Nat → Option Nat, ZF (UF S2 (R.ws i) (.inr (16, gs9.set 15 (.ref x)))) ta = .inl (R.K.1 4, 13, .inr (.inr (.inr (.inr ft)))) ∧ ∀ j : Nat, j < mn → ∃ x9 : Nat, ft j = some x9 ∧ rTy (UF S2 (R.ws i) (.inr (16, gs9.set 15 (.ref x)))) x9) ∧ (∃ go : Nat → Int32, ZF (UF S2 (R.ws i) (.inr (16, gs9.set 15 (.ref x)))) lo = .inl (R.K.1 0, 13, .inl go) ∧ ∀ j : Nat, j < mn → (go j = -1 ∨ ∃ l : Nat, l < 8 ∧ go j = nI l)) ∧ xTy (UF S2 (R.ws i) (.inr (16, gs9.set 15 (.ref x)))) x := fun z => by
      have z2 : Zi S2 3 = 0 := z
      have z1 := v2.2.2.2.2.2 z2
      obtain ⟨⟨ft, r1, r2⟩, r3⟩ := g1 z1
      obtain ⟨go, r4, r5⟩ := r3 rfl
      rw [hkz z1] at r2 r5
      exact ⟨⟨ft, (ZF_n (hne y3)).trans ((v2.2.1 ta y1 (fun w => w)).trans r1), fun j hj => by obtain ⟨x9, q1, q2, _⟩ := r2 j hj; exact ⟨x9, q1, (q2.im v2.2.2.2.1).im vX.2.2.2.1⟩⟩, ⟨go, (ZF_n (hne l3)).trans ((v2.2.1 lo l1 (fun w => w)).trans r4), r5⟩, (gx z2).im vX.2.2.2.1⟩
    have k3' : K20 R S i (UF S2 (R.ws i) (.inr (16, gs9.set 15 (.ref x)))) := (k20.n a1 v2).uf b5 (by decide)
    have m3 : R.ws i ∈ ZL (UF S2 (R.ws i) (.inr (16, gs9.set 15 (.ref x)))) := b2
    have e14 : (gs9.set 15 (.ref x))[14]? = some rs := by rw [List.getElem?_set_ne (by decide)]; exact (b8 14 rfl).trans (hn8 _ b4).2
    have e15 : (gs9.set 15 (.ref x))[15]? = some (.ref x) := by rw [List.getElem?_set_self (by rw [b7]; decide)]
    revert t3 v3 e3 g3 k3' m3 e14 e15
    generalize UF S2 (R.ws i) (.inr (16, gs9.set 15 (.ref x))) = S3
    generalize gs9.set 15 (.ref x) = hs
    intro t3 v3 e3 g3 k3' m3 e14 e15
    rcases hrs with hrs | ⟨t, p', q2, hrs, u1, u2, u3⟩
    · refine Rt.bd (oR_mk (v := none) m3 e3 (e14.trans (by rw [hrs]; rfl))) (Rt.ip rfl (hend S3 c2 x (-1) hs hc2 t3 v3 e3 e15 k3' g3 (Or.inl rfl)))
    · refine Rt.bd (oR_mk (v := some t) m3 e3 (e14.trans (by rw [hrs]; rfl))) (Rt.iq (fun w => by cases w) (Rt.bd (oR_mk (v := some t) m3 e3 (e14.trans (by rw [hrs]; rfl))) ?_))
      refine Rt.bn (lfi_ t3 (l5 S3 _ _ t3) u3 (by omega)) (fun S4 r4 q4 => ?_)
      obtain ⟨⟨t4, v4, s4⟩, q4⟩ := q4
      refine hend S4 c2 x r4 hs hc2 t4 (v3.n v4) ((v4.2.1 _ a1 (fun w => w)).trans e3) e15 (k3'.n a1 v4) (fun z => ?_) q4
      obtain ⟨⟨ft, r1, r2⟩, ⟨go, r3, r5⟩, r6⟩ := g3 (v4.2.2.2.2.2 z)
      exact ⟨⟨ft, (v4.2.1 ta y1 (fun w => w)).trans r1, fun j hj => by obtain ⟨x9, q1, q2⟩ := r2 j hj; exact ⟨x9, q1, q2.im v4.2.2.2.1⟩⟩, ⟨go, (v4.2.1 lo l1 (fun w => w)).trans r3, r5⟩, r6.im v4.2.2.2.1⟩
  unfold f_itemTypes_203 f_itemTypes_219
  refine Rt.bd (oI_mk a2 a5 (a11.trans (by rw [hik]))) (Rt.ip rfl (Rt.ok (fun z => ?_) (fun z => Rt.rt ⟨_, by omega, t1, v1, fun w => absurd w z, k20⟩)))
  rcases hrs with hrs' | ⟨t, p', q2, hrs', u1, u2, u3⟩
  · refine Rt.bd (oR_mk (v := none) a2 a5 (((a8 14 rfl).trans (hn8 _ a4).2).trans (by rw [hrs']; rfl))) (Rt.ip rfl (Rt.bn (plt_ hK hnv t1 (Or.inr (Or.inr (Or.inr rfl))) (by omega)) (fun S2 r2 q2 => ?_)))
    obtain ⟨x, e2, t2, x2, v2, s2, z2⟩ := q2
    rw [e2]
    exact h246 S2 _ x (by omega) t2 v2 ⟨_, _, _, x2⟩ (fun _ => Or.inr x2)
  · have := isT_lt u3
    refine Rt.bd (oR_mk (v := some t) a2 a5 (((a8 14 rfl).trans (hn8 _ a4).2).trans (by rw [hrs']; rfl))) (Rt.iq (fun w => by cases w) (Rt.bd (oR_mk (v := some t) a2 a5 (((a8 14 rfl).trans (hn8 _ a4).2).trans (by rw [hrs']; rfl))) (Rt.bn (rsv_ hK hnv t1 (show 17 ≤ 20 by omega) u3 (by omega) (by omega)) (fun S2 r2 q2 => ?_))))
    obtain ⟨x, e2, t2, v2, s2, hx, gx⟩ := q2
    rw [e2]
    exact h246 S2 _ x (by omega) t2 v2 hx (fun z => Or.inl (gx z).1)
end IT16
end
-- k7.l.lean.txt
section
section ITY
variable {R : yR} {c nv : Nat} {S : Sg}
theorem chT_mo {L : List Nat} {F : Nat → va_E} {fk : Nat → Int32} {f : Nat → Option Nat} {n : Nat} {pq : Nat → Nat} (h : ∀ i : Nat, i < n → ∃ t p' q' : Nat, f i = some t ∧ pq i ≤ p' ∧ q' ≤ pq (i + 1) ∧ isT L F fk 17 t p' q') : ∀ j : Nat, j ≤ n → pq 0 ≤ pq j ∧ pq j ≤ pq n := by
  have hst : ∀ (d l : Nat), l + d ≤ n → pq l ≤ pq (l + d) := by
    intro d
    induction d with
    | zero => exact fun l _ => Nat.le_refl _
    | succ d ih =>
      intro l hl
      obtain ⟨t9, p9, q9, _, z1, z2, z3⟩ := h (l + d) (by omega)
      have := isT_lt z3
      have := ih l (by omega)
      show pq l ≤ pq (l + d + 1)
      omega
  intro l hl
  have h1 := hst l 0 (by omega)
  have h2 := hst (n - l) l (by omega)
  rw [Nat.zero_add] at h1
  rw [show l + (n - l) = n by omega] at h2
  exact ⟨h1, h2⟩
/-- itemTypes -/
theorem itt_ (hK : yRm R) (hD : RDI R) (hnv : nv ≤ 10000) (h : TS R c nv S) {i : Nat} (hi : i < R.im) (hc : c + (R.ms i - R.ps i) ≤ 1990) : Rt (f_itemTypes R.K S (some (R.ws i))) (fun S2 _ => ItR R c nv S i S2) := by
  have hT := h.tb
  obtain ⟨b1, b2, b3, fs, gs, b4, b5, b6, b7, b8, b9, b10, b11⟩ := hD.ob h hi
  obtain ⟨z1, z2, ⟨fs8, z3, z4⟩, z5, hiv⟩ := hD.2.2.2.2 i hi
  have hpT : R.ps (i + 1) ≤ R.T := Nat.le_trans (hD.2.2.1 (i + 1) R.im (by omega) (Nat.le_refl _)).1 hD.2.2.2.1
  have hex : exS (iv (R.ws i) (R.ws (i + 1))) (ZF R.S) (ZL R.S) (ZF R.S) := fun a ha => ⟨hiv a ha, rfl⟩
  obtain ⟨a1, a2, a3, mn, na, g, a4, a5, a6, a7, a8⟩ := z2
  have hgn : ∀ j : Nat, j < mn → ∃ s : Nat, g j = nI s ∧ 0 < s ∧ s < R.T := fun j hj => by
    obtain ⟨s, s1, s2, s3⟩ := a7 j hj
    exact ⟨s, s1, by omega, by omega⟩
  have hcI : cIt R i (R.ws i) ∧ cIt R i na := ⟨iv_m.mp a1, iv_m.mp a4⟩
  have hna := hiv _ a4
  have hnw : nXo R (R.ws i) := nXo.ob b1 b4 (by decide)
  have hnn : nXo R na := nXo.ro hna a5 (Or.inl (hK.2.2 0 5 (by decide) (by decide) (by decide)))
  unfold f_itemTypes f_itemTypes_14
  refine Rt.bd (oI_mk b2 b5 b11) ?_
  rcases a8 with ⟨wa, ta, q', f, c1, c2, c3, c4, c5, c6, c7, pq, d1, d2, d3⟩ | ⟨vr, q', f, c1, c2, c3, c4, c5, pq, d1, d2, d3, d4⟩ | ⟨lv, wa, ta, pa, lf, lo, q', va, b, bl, rs, f, gl, c1, c2, c3, c4, c5, c6, c7, c8, c9, e1, e2, e3, e4, ⟨pq, d1, d2, d3⟩, e5, e6, e7, e8, e9⟩
  · -- struct
    have ef : fs8 = _ := (Prod.mk.inj (Sum.inr.inj (z3.symm.trans c1))).2
    have hik : R.ik i = 10 := by rw [ef] at z4; exact (Value.int.inj (Option.some.inj z4)).symm
    have hall : ∀ fs : List Value, ZF R.S (R.ws i) = .inr (16, fs) → fs[3]? = some (.int (nI mn)) ∧ fs[8]? = some (.ref na) ∧ fs[9]? = some (.ref wa) ∧ fs[10]? = some (.ref ta) := fun fs e => by
      have := (Prod.mk.inj (Sum.inr.inj (e.symm.trans c1))).2
      subst this
      exact ⟨rfl, rfl, rfl, rfl⟩
    have d3' : ∀ j : Nat, j < mn → ∃ t p' q' : Nat, f j = some t ∧ pq j ≤ p' ∧ q' ≤ pq (j + 1) ∧ isT (ZL R.S) (ZF R.S) (Zr R.S 5) 17 t p' q' := fun j hj => by
      obtain ⟨t, p', q', k1, k2, k3, k4⟩ := d3 j hj
      exact ⟨t, p', q', k1, k2, k3, isT_ex hex k4⟩
    have hC : FC R i 10 0 mn wa ta 0 0 0 (fun _ => 0) f pq := ⟨⟨hi, hik, Or.inl ⟨rfl, rfl⟩, a6⟩, fun fs e => ⟨(hall fs e).1, (hall fs e).2.2.1, (hall fs e).2.2.2⟩, ⟨hiv _ c3, c5⟩, ⟨hiv _ c4, iv_m.mp c4, c6⟩, ⟨d3', chT_mo d3', by omega⟩, fun w => absurd w (by decide)⟩
    rw [hik]
    refine Rt.iq (by decide) ?_
    refine it16_ hD hi (I := fun k S1 => FV R S i 10 0 ta 0 k c nv pq S1) (fun k S1 q => ⟨_, q.1⟩) (fun k S1 x q => q.fl (by decide)) (fun k S1 k16 hk h16 q => it109 hK hD hnv hC (by omega) h16 q hk) (fun k S1 hk q hz => ?_) hna a5 (fun fs e => ⟨(hall fs e).1, (hall fs e).2.1⟩) a6 hgn bigN 0 (by unfold bigN; omega) (Nat.zero_le _) ⟨h.up (by omega), VX.rf, fun _ => ⟨by obtain ⟨ft, hft⟩ := h.ro (hiv _ c4) c6; exact ⟨ft, hft, fun j hj => absurd hj (by omega)⟩, fun w => absurd w (by decide)⟩⟩
    obtain ⟨t1, v1, g1⟩ := q
    have m1 := (chT_mo d3' k hk).1; have m2 := (chT_mo d3' k hk).2
    obtain ⟨b1, b2, b3, fs9, gs9, b4, b5, b6, b7, b8, b9, b10, b11⟩ := hD.ob t1 hi
    unfold f_itemTypes_203
    refine Rt.bd (oI_mk b2 b5 (b11.trans (by rw [hik]))) (Rt.iq (by decide) (Rt.rt ⟨_, by omega, t1, v1.mo (fun a w => w.1), fun z S3 hA hTy => ?_, K20.cy b1 v1⟩))
    obtain ⟨⟨ft, r1, r2⟩, _⟩ := g1 z
    rw [hz z] at r2
    obtain ⟨g9, n1, n2⟩ := t1.nm hna a5 hgn
    exact ⟨hnw, z1, gs9, mn, na, g9, (hA _ hcI.1).trans b5, b11, (b8 3 rfl).trans (hall _ b4).1, a6, (b8 8 rfl).trans (hall _ b4).2.1, hnn, (hA _ hcI.2).trans n1, n2, Or.inl ⟨hik, ta, ft, (b8 10 rfl).trans (hall _ b4).2.2.2, nXo.ro (hiv _ c4) c6 (Or.inl (hK.2.2 4 5 (by decide) (by decide) (by decide))), (hA _ (iv_m.mp c4)).trans r1, fun j hj => by obtain ⟨x9, q1, _, q2⟩ := r2 j hj; exact ⟨x9, q1, (q2 rfl).im hTy⟩⟩⟩
  · -- enum
    have ef : fs8 = _ := (Prod.mk.inj (Sum.inr.inj (z3.symm.trans c1))).2
    have hik : R.ik i = 11 := by rw [ef] at z4; exact (Value.int.inj (Option.some.inj z4)).symm
    have hall : ∀ fs : List Value, ZF R.S (R.ws i) = .inr (16, fs) → fs[3]? = some (.int (nI mn)) ∧ fs[8]? = some (.ref na) ∧ fs[11]? = some (.ref vr) := fun fs e => by
      have := (Prod.mk.inj (Sum.inr.inj (e.symm.trans c1))).2
      subst this
      exact ⟨rfl, rfl, rfl⟩
    have hmo : ∀ j : Nat, j ≤ mn → pq 0 ≤ pq j ∧ pq j ≤ pq mn := by
      have hst : ∀ (d l : Nat), l + d ≤ mn → pq l ≤ pq (l + d) := by
        intro d
        induction d with
        | zero => exact fun l _ => Nat.le_refl _
        | succ d ih =>
          intro l hl
          obtain ⟨t9, p9, q9, _, y1, y2, y3⟩ := d3 (l + d) (by omega)
          have := y3.2.1
          have := ih l (by omega)
          show pq l ≤ pq (l + d + 1)
          omega
      intro l hl
      have h1 := hst l 0 (by omega)
      have h2 := hst (mn - l) l (by omega)
      rw [Nat.zero_add] at h1
      rw [show l + (mn - l) = mn by omega] at h2
      exact ⟨h1, h2⟩
    have hC : EC R i mn vr f pq := ⟨⟨hi, hik, a6⟩, fun fs e => ⟨(hall fs e).1, (hall fs e).2.2⟩, ⟨hiv _ c3, c4⟩, d3, d4, hmo, by omega⟩
    rw [hik]
    refine Rt.iq (by decide) ?_
    refine it16_ hD hi (I := fun k S1 => VV R S i k f c nv pq S1) (fun k S1 q => ⟨_, q.1⟩) (fun k S1 x q => q.fl (by decide)) (fun k S1 k16 hk h16 q => it144 hK hD hnv hC (by omega) h16 q hk) (fun k S1 hk q hz => ?_) hna a5 (fun fs e => ⟨(hall fs e).1, (hall fs e).2.1⟩) a6 hgn bigN 0 (by unfold bigN; omega) (Nat.zero_le _) ⟨h.up (by omega), VX.rf, fun _ j hj => absurd hj (by omega)⟩
    obtain ⟨t1, v1, g1⟩ := q
    have m1 := (hmo k hk).1; have m2 := (hmo k hk).2
    obtain ⟨b1, b2, b3, fs9, gs9, b4, b5, b6, b7, b8, b9, b10, b11⟩ := hD.ob t1 hi
    unfold f_itemTypes_203
    refine Rt.bd (oI_mk b2 b5 (b11.trans (by rw [hik]))) (Rt.iq (by decide) (Rt.rt ⟨_, by omega, t1, v1.mo (fun a w => w.1), fun z S3 hA hTy => ?_, K20.cy b1 v1⟩))
    have r2 := g1 z
    rw [hz z] at r2
    obtain ⟨g9, n1, n2⟩ := t1.nm hna a5 hgn
    have hvr : ∃ f2 : Nat → Option Nat, ZF S1 vr = .inl (R.K.1 13, 13, .inr (.inr (.inr (.inr f2)))) ∧ ∀ j : Nat, j < mn → f2 j = f j := by
      cases mn with
      | zero =>
        obtain ⟨f2, e⟩ := t1.ro (hiv _ c3) c4
        exact ⟨f2, e, fun j hj => absurd hj (by omega)⟩
      | succ mn =>
        obtain ⟨t9, _, _, e9, _⟩ := d3 0 (by omega)
        exact ⟨f, t1.rq (hiv _ c3) c4 e9, fun _ _ => rfl⟩
    obtain ⟨f2, v2, v3⟩ := hvr
    refine ⟨hnw, z1, gs9, mn, na, g9, (hA _ hcI.1).trans b5, b11, (b8 3 rfl).trans (hall _ b4).1, a6, (b8 8 rfl).trans (hall _ b4).2.1, hnn, (hA _ hcI.2).trans n1, n2, Or.inr (Or.inl ⟨hik, vr, f2, (b8 11 rfl).trans (hall _ b4).2.2, nXo.ro (hiv _ c3) c4 (Or.inl (hK.2.2 13 5 (by decide) (by decide) (by decide))), (hA _ (iv_m.mp c3)).trans v2, fun k hk => ?_⟩)⟩
    obtain ⟨t, q1, q2⟩ := r2 k hk
    obtain ⟨t9, p9, q9, i1, _, _, i2⟩ := d3 k hk
    rw [q1] at i1; cases i1
    rcases q2 with q2 | ⟨wa, ta, mk, ft, q3, q4, q5, q6, q7, q8, q9⟩
    · exact ⟨t, 0, fun _ => none, (v3 k hk).trans q1, nXo.ob (hiv _ i2.1) q2 (by decide), Or.inl ⟨(hA _ (iv_m.mp i2.1)).trans (t1.oe (hiv _ i2.1) q2 (fun _ => rfl)), rfl⟩⟩
    · exact ⟨t, mk, ft, (v3 k hk).trans q1, nXo.ob (hiv _ i2.1) q3 (by decide), Or.inr ⟨wa, ta, (hA _ (iv_m.mp i2.1)).trans (t1.oe (hiv _ i2.1) q3 (fun _ => rfl)), q4, nXo.ro q6 q7 (Or.inl (hK.2.2 4 5 (by decide) (by decide) (by decide))), (hA _ q5).trans q8, fun l hl => by obtain ⟨x, u1, u2⟩ := q9 l hl; exact ⟨x, u1, u2.im hTy⟩⟩⟩
  · -- function
    have ef : fs8 = _ := (Prod.mk.inj (Sum.inr.inj (z3.symm.trans c1))).2
    have hik : R.ik i = 12 := by rw [ef] at z4; exact (Value.int.inj (Option.some.inj z4)).symm
    have hall : ∀ fs : List Value, ZF R.S (R.ws i) = .inr (16, fs) → fs[3]? = some (.int (nI mn)) ∧ fs[8]? = some (.ref na) ∧ fs[9]? = some (.ref wa) ∧ fs[10]? = some (.ref ta) ∧ fs[13]? = some (.ref lo) ∧ fs[14]? = some rs ∧ fs[6]? = some (.int (nI lv)) ∧ fs[12]? = some (.ref lf) := fun fs e => by
      have := (Prod.mk.inj (Sum.inr.inj (e.symm.trans c1))).2
      subst this
      exact ⟨rfl, rfl, rfl, rfl, rfl, rfl, rfl, rfl⟩
    have d3' : ∀ j : Nat, j < mn → ∃ t p' q' : Nat, f j = some t ∧ pq j ≤ p' ∧ q' ≤ pq (j + 1) ∧ isT (ZL R.S) (ZF R.S) (Zr R.S 5) 17 t p' q' := fun j hj => by
      obtain ⟨t, p', q', k1, k2, k3, k4⟩ := d3 j hj
      exact ⟨t, p', q', k1, k2, k3, isT_ex hex k4⟩
    have hLV : ∀ (S : Sg) (c nv : Nat), TS R c nv S → LV R S (R.ws i) lv lf gl := fun S c nv t => by
      obtain ⟨b1, b2, b3, fs9, gs9, b4, b5, b6, b7, b8, b9, b10, b11⟩ := hD.ob t hi
      exact ⟨b1, ⟨_, b4⟩, e3, hiv _ c5, e1, fun j hj => by obtain ⟨s, s1, s2, s3⟩ := e4 j hj; exact ⟨s, s1, by omega, by omega⟩, gs9, b5, (b8 6 rfl).trans (hall _ b4).2.2.2.2.2.2.1, (b8 12 rfl).trans (hall _ b4).2.2.2.2.2.2.2⟩
    have hC : FC R i 12 1 mn wa ta lo lv lf gl f pq := ⟨⟨hi, hik, Or.inr ⟨rfl, rfl⟩, a6⟩, fun fs e => ⟨(hall fs e).1, (hall fs e).2.2.1, (hall fs e).2.2.2.1⟩, ⟨hiv _ c2, c7⟩, ⟨hiv _ c3, iv_m.mp c3, c8⟩, ⟨d3', chT_mo d3', by omega⟩, fun _ => ⟨hiv _ c6, iv_m.mp c6, e2, fun fs e => (hall fs e).2.2.2.2.1, hLV⟩⟩
    rw [hik]
    refine Rt.ip rfl (Rt.bn (lvs_ h (hLV S _ _ h)) (fun S2 _ q2 => ?_))
    obtain ⟨t2, v2, s2⟩ := q2
    refine it16_ hD hi (I := fun k S1 => FV R S i 12 1 ta lo k c nv pq S1) (fun k S1 q => ⟨_, q.1⟩) (fun k S1 x q => q.fl (by decide)) (fun k S1 k16 hk h16 q => it109 hK hD hnv hC (by omega) h16 q hk) (fun k S1 hk q hz => it203 hK hD hnv hC hcI hna a5 (fun fs e => ⟨(hall fs e).2.1, (hall fs e).2.2.2.2.2.1⟩) hgn (e6.imp id (fun ⟨t, p', q2, y1, y2, y3, y4⟩ => ⟨t, p', q2, y1, by omega, by omega, isT_ex hex y4⟩)) (by omega) (by omega) (by omega) hc hk q hz) hna a5 (fun fs e => ⟨(hall fs e).1, (hall fs e).2.1⟩) a6 hgn bigN 0 (by unfold bigN; omega) (Nat.zero_le _) ⟨t2.up (by omega), v2.x, fun _ => ⟨by obtain ⟨ft, hft⟩ := t2.ro (hiv _ c3) c8; exact ⟨ft, hft, fun j hj => absurd hj (by omega)⟩, fun _ => by obtain ⟨go, hgo⟩ := t2.rj (hiv _ c6) e2; exact ⟨go, hgo, fun j hj => absurd hj (by omega)⟩⟩⟩
end ITY
end
-- k7.m.lean.txt
section
section TAL
variable {R : yR} {nv : Nat} {S : Sg}
/-- the tokens of heads, and of bodies -/
def hdT (R : yR) : Nat → Nat
  | 0 => 0
  | k + 1 => hdT R k + (R.ms k - R.ps k)
def bdT (R : yR) : Nat → Nat
  | 0 => 0
  | k + 1 => bdT R k + (R.ps (k + 1) - R.ms k)
theorem RDI.ms (hD : RDI R) {i : Nat} (hi : i < R.im) : R.ps i + 1 < R.ms i ∧ R.ms i ≤ R.ps (i + 1) := by
  obtain ⟨_, ⟨_, z2, z3, _⟩, _⟩ := hD.2.2.2.2 i hi
  exact ⟨z2, z3⟩
theorem hbT (hD : RDI R) : ∀ k : Nat, k ≤ R.im → hdT R k + bdT R k ≤ R.ps k
  | 0, _ => Nat.zero_le _
  | k + 1, h => by
    have := hbT hD k (by omega)
    have := hD.ms (show k < R.im by omega)
    unfold hdT bdT
    omega
theorem hdT_mo {k m : Nat} (h : k ≤ m) : hdT R k ≤ hdT R m := by
  induction h with
  | refl => exact Nat.le_refl _
  | step h ih => exact Nat.le_trans ih (Nat.le_add_right _ _)
theorem bdT_mo {k m : Nat} (h : k ≤ m) : bdT R k ≤ bdT R m := by
  induction h with
  | refl => exact Nat.le_refl _
  | step h ih => exact Nat.le_trans ih (Nat.le_add_right _ _)
/-- the items' field of leaves is a number -/
def F20 (R : yR) (Pz : Int32 → Prop) (S : Sg) : Prop := ∀ a : Nat, a < R.im → ∃ (fs : List Value) (v : Int32), ZF S (R.ws a) = .inr (16, fs) ∧ fs[20]? = some (.int v) ∧ Pz v
theorem F20.it {Pz : Int32 → Prop} (hD : RDI R) {S2 : Sg} {k : Nat} (hk : k < R.im) (h : F20 R Pz S) (hV : VX R (cX R k) S S2) (h2 : K20 R S k S2) : F20 R Pz S2 := fun a ha => by
  obtain ⟨fs, v, h3, h4, h5⟩ := h a ha
  by_cases e : a = k
  · subst e
    obtain ⟨gs, g1, g2⟩ := h2 fs v h3 h4
    exact ⟨gs, v, g1, g2, h5⟩
  · obtain ⟨_, ⟨z1, _⟩, _, _, z5⟩ := hD.2.2.2.2 a ha
    refine ⟨fs, v, (hV.2.1 _ (z5 _ z1) (fun w => ?_)).trans h3, h4, h5⟩
    have z2 := iv_m.mp z1
    rcases Nat.lt_or_ge a k with z | z
    · have := (hD.2.2.1 (a + 1) k (by omega) (by omega)).2; have := w.1.1; omega
    · have := (hD.2.2.1 (k + 1) a (by omega) (by omega)).2; have := w.1.2; omega
/-- the items, typed one behind the other: what is known behind the first k -/
def IA (R : yR) (nv k : Nat) (S1 : Sg) : Prop := TS R (hdT R k) nv S1 ∧ ROW R S1 ∧ (F20 R (fun v => v = 0) S1 ∧ Unt R S1 0 (R.ps R.im)) ∧ (Zi S1 3 = 0 → ∀ i : Nat, i < k → ItZ R S1 i)
theorem ta11 (hK : yRm R) (hD : RDI R) (hnv : nv ≤ 10000) (hp : R.ps R.im ≤ 1990) {P : Sg → Unit → Prop} (hk : ∀ S2 : Sg, TS R (hdT R R.im) nv S2 → ROW R S2 → F20 R (fun v => v = 0) S2 → Unt R S2 0 (R.ps R.im) → (Zi S2 3 = 0 → ITA R S2) → Rt (f_typeAll_42 R.K S2) P) : ∀ (m k : Nat) {S1 : Sg}, R.im < k + m → k ≤ R.im → IA R nv k S1 → Rt (f_typeAll_11 R.K m S1 (nI k)) P
  | 0, k, _, h1, h2, _ => by omega
  | m + 1, k, S1, h1, h2, ⟨t1, w1, ⟨f1, u1⟩, g1⟩ => by
    have hD0 := hD.1
    have hm := (hD.2.2.1 k R.im h2 (Nat.le_refl _)).1
    unfold f_typeAll_11
    rw [t1.i12 hD]
    refine Rt.it (fun w9 => ?_) (fun w9 => ?_)
    · have : k = R.im := by have := (nI_leI (a := R.im) (b := k) (by omega) (by omega)).mp w9; omega
      subst this
      exact hk S1 t1 w1 f1 u1 (fun z i hi => (g1 z i hi).y)
    have hlt : k < R.im := by
      rcases Nat.lt_or_ge k R.im with z | z
      · exact z
      · exact absurd (nI_le z (by omega)) w9
    have hs := hbT hD R.im (Nat.le_refl _)
    have hs2 := hdT_mo (R := R) (show k + 1 ≤ R.im by omega)
    have hs3 : hdT R (k + 1) = hdT R k + (R.ms k - R.ps k) := rfl
    refine Rt.ok (fun z => ?_) (fun z => hk S1 (t1.up (by omega)) w1 f1 u1 (fun w => absurd w z))
    refine Rt.bd (hD.it t1 hlt) (Rt.bn (itt_ hK hD hnv t1 hlt (by omega)) (fun S2 _ q2 => ?_))
    obtain ⟨c2, e1, t2, v2, g2, g20⟩ := q2
    rw [nI_1]
    refine ta11 hK hD hnv hp hk m (k + 1) (by omega) (by omega) ⟨t2.up (by omega), w1.cx v2, ⟨f1.it hD hlt v2 g20, fun a ha w => (v2.2.1 a ha (fun x => cX.nx hK ha w x)).trans (u1 a ha w)⟩, fun z2 i hi => ?_⟩
    by_cases e : i = k
    · subst e; exact g2 z2
    · exact (g1 z i (by omega)).vx hD (by omega) hlt e v2
end TAL
end
-- k7.n.lean.txt
section
section TAF
variable {R : yR} {nv : Nat} {S : Sg}
/-- items, rows of types, types are as they were -/
def NX0 (R : yR) (S S2 : Sg) : Prop := (∀ a : Nat, nXo R a → ZF S2 a = ZF S a) ∧ ∀ (x : Nat) (kd ix : Int32) (o : Option Nat), isTy S x kd ix o → isTy S2 x kd ix o
/-- .. main too -/
def NX (R : yR) (S S2 : Sg) : Prop := NX0 R S S2 ∧ Zi S2 21 = Zi S 21 ∧ (Zi S2 3 = 0 → Zi S 3 = 0)
theorem NX0.tr {S1 S2 : Sg} (h : NX0 R S S1) (q : NX0 R S1 S2) : NX0 R S S2 := ⟨fun a ha => (q.1 a ha).trans (h.1 a ha), fun x kd ix o w => q.2 x kd ix o (h.2 x kd ix o w)⟩
theorem NX.rf : NX R S S := ⟨⟨fun _ _ => rfl, fun _ _ _ _ q => q⟩, rfl, fun q => q⟩
theorem NX.tr {S1 S2 : Sg} (h : NX R S S1) (q : NX R S1 S2) : NX R S S2 := ⟨h.1.tr q.1, q.2.1.trans h.2.1, fun z => h.2.2 (q.2.2 z)⟩
theorem VZ.nx0 {S2 : Sg} {p q : Nat} (h : VZ R (Xo R p q) S S2) : NX0 R S S2 := ⟨fun a ha => h.1 a ha.1 (fun w => ha.2 _ _ w), h.2.2.1⟩
theorem VZ.nxx {S2 : Sg} {p q : Nat} (h : VZ R (Xo R p q) S S2) (e : Zi S2 21 = Zi S 21) : NX R S S2 := ⟨h.nx0, e, h.2.2.2.2⟩
/-- the functions, typed one behind the other: what is known behind the first k items -/
def FA (R : yR) (nv : Nat) (S9 : Sg) (k : Nat) (S1 : Sg) : Prop := ∃ nv1 : Nat, nv1 ≤ nv + 40 * k ∧ TS R (hdT R R.im + bdT R k) nv1 S1 ∧ (Zi S1 3 = 0 → ITA R S1 ∧ ROW R S1 ∧ (∀ i : Nat, i < k → R.ik i = 12 → FnT R S1 i) ∧ Unt R S1 (R.ps k) (R.ps R.im) ∧ NX R S9 S1)
/-- what the typing gives -/
def TYD (R : yR) (nv : Nat) (S9 S2 : Sg) : Prop := ∃ c2 nv2 : Nat, c2 ≤ R.ps R.im ∧ nv2 ≤ nv + 40 * R.im ∧ TS R c2 nv2 S2 ∧ (Zi S2 3 = 0 → ITA R S2 ∧ ROW R S2 ∧ (∀ i : Nat, i < R.im → R.ik i = 12 → FnT R S2 i) ∧ NX R S9 S2)
theorem ta77 (hK : yRm R) (hD : RDI R) (hnv : nv + 40 * R.im ≤ 10000) (hp : R.ps R.im ≤ 1990) {S9 : Sg} : ∀ (m k : Nat) {S1 : Sg}, R.im < k + m → k ≤ R.im → FA R nv S9 k S1 → Rt (f_typeAll_77 R.K m S1 (nI k)) (fun S2 _ => TYD R nv S9 S2)
  | 0, k, _, h1, h2, _ => by omega
  | m + 1, k, S1, h1, h2, ⟨nv1, n1, t1, g1⟩ => by
    have hD0 := hD.1
    have hb := hbT hD R.im (Nat.le_refl _)
    have hb2 := bdT_mo (R := R) h2
    have hend : (Zi S1 3 = 0 → k = R.im) → Rt (f_typeAll_117 R.K S1) (fun S2 _ => TYD R nv S9 S2) := fun hz => by
      refine Rt.rt ⟨_, nv1, Nat.le_trans (Nat.add_le_add_left hb2 _) hb, by omega, t1, fun z => ?_⟩
      obtain ⟨q1, q2, q3, _, q5⟩ := g1 z
      exact ⟨q1, q2, fun i hi => q3 i (by rw [hz z]; exact hi), q5⟩
    unfold f_typeAll_77
    rw [t1.i12 hD]
    refine Rt.it (fun w9 => hend (fun _ => ?_)) (fun w9 => ?_)
    · have := (nI_leI (a := R.im) (b := k) (by omega) (by omega)).mp w9; omega
    have hlt : k < R.im := by
      rcases Nat.lt_or_ge k R.im with z | z
      · exact z
      · exact absurd (nI_le z (by omega)) w9
    have hms := hD.ms hlt
    have hs2 := bdT_mo (R := R) (show k + 1 ≤ R.im by omega)
    have hs3 : bdT R (k + 1) = bdT R k + (R.ps (k + 1) - R.ms k) := rfl
    have hpT := (hD.2.2.1 (k + 1) R.im (by omega) (Nat.le_refl _)).1
    have hpT2 := hD.2.2.2.1
    refine Rt.ok (fun z => ?_) (fun z => hend (fun w => absurd w z))
    obtain ⟨b1, b2, b3, fs9, gs9, b4, b5, b6, b7, b8, b9, b10, b11⟩ := hD.ob t1 hlt
    obtain ⟨q1, q2, q3, q4, q5⟩ := g1 z
    unfold f_typeAll_111
    rw [nI_1]
    refine Rt.bd (hD.it t1 hlt) (Rt.bd (oI_mk b2 b5 b11) (Rt.it (fun ek => ?_) (fun ek => ?_)))
    · obtain ⟨z1, z2, z3, z5, hiv⟩ := hD.2.2.2.2 k hlt
      refine Rt.bn (tfn_ hK t1 q1 q2 hlt ek z (isI_ex (fun a ha => ⟨hiv a ha, rfl⟩) z2) (by rw [← ek]; exact z3) z5 (fun a ha w => q4 a ha (Xo_mo w (by omega) hpT)) (by omega) (by omega) (by omega)) (fun S2 _ r2 => ?_)
      obtain ⟨c2, nv2, e1, e2, t2, v2, ⟨_, e21⟩, g2⟩ := r2
      refine ta77 hK hD hnv hp m (k + 1) (by omega) (by omega) ⟨nv2, by omega, t2.up (by omega), fun z9 => ⟨q1.vz v2, q2.vz v2, fun i hi hik => ?_, fun a ha w => (v2.1 a ha (fun x => Xo_dj x w (Or.inl (Nat.le_refl _)))).trans (q4 a ha (Xo_mo w (by omega) (Nat.le_refl _))), q5.tr (v2.nxx e21)⟩⟩
      by_cases e : i = k
      · subst e; exact g2 z9
      · have := (hD.2.2.1 (i + 1) k (by omega) (by omega)).1
        exact (q3 i (by omega) hik).vz v2 (Or.inl (by omega))
    · refine ta77 hK hD hnv hp m (k + 1) (by omega) (by omega) ⟨nv1, by omega, t1.up (by omega), fun _ => ⟨q1, q2, fun i hi hik => ?_, fun a ha w => q4 a ha (Xo_mo w (by omega) (Nat.le_refl _)), q5⟩⟩
      by_cases e : i = k
      · subst e; exact absurd hik ek
      · exact q3 i (by omega) hik
end TAF
end
-- k7.o.lean.txt
section
section FMN
variable {R : yR} {c nv : Nat} {S : Sg}
theorem ism_ (h : TS R c nv S) {ta : Nat} (hta : ta < R.T) : Rt (f_isMain R.K S (nI ta)) (fun S2 r => S2 = S ∧ (r = 0 ∨ r = 1)) := by
  obtain ⟨G, tm, Y, ad, h1, h2, h3, h4⟩ := h
  exact isMain_ h1 hta
theorem TS.u21 (h : TS R c nv S) {x : Int32} : TS R c nv (Ui S 21 x) := by
  obtain ⟨G, tm, Y, ad, h1, h2, h3, h4⟩ := h
  exact ⟨G, tm, Y, ad, ⟨h1.1, (Zi_n (by decide)).trans h1.2.1, (Zi_n (by decide)).trans h1.2.2.1, (Zi_n (by decide)).trans h1.2.2.2.1, h1.2.2.2.2.1, h1.2.2.2.2.2.1, h1.2.2.2.2.2.2⟩, h2, h3, fun j a b c d e f => (Zi_n d).trans (h4.1 j a b c d e f), h4.2⟩
theorem VZ.u21 {X : Nat → Prop} {x : Int32} : VZ R X S (Ui S 21 x) := ⟨fun _ _ _ => rfl, fun _ q => q, fun y kd ix o ⟨t, q1, q2, q3, q4⟩ => ⟨t, by unfold tmS; rw [Zi_n (by decide)]; exact q1, q2, q3, q4⟩, fun v ix nm ty mu q => ⟨ty, q, Or.inr rfl⟩, fun q => by rw [Zi_n (by decide)] at q; exact q⟩
/-- nothing but a fault, and where main is -/
def MF (R : yR) (c nv : Nat) (S S2 : Sg) : Prop := TS R c nv S2 ∧ VZ R nX S S2 ∧ Zf S2 = Zf S
theorem MF.fl {S1 : Sg} (h : MF R c nv S S1) {wh x : Int32} : MF R c nv S (flS S1 wh x) := ⟨h.1.fl, h.2.1.tr (VX.fl (R := R) (X := nX)).2, (VX.fl (R := R) (X := nX) (S := S1) (wh := wh) (x := x)).1.2.2.2.2.trans h.2.2⟩
theorem MF.u {S1 : Sg} (h : MF R c nv S S1) {x : Int32} : MF R c nv S (Ui S1 21 x) := ⟨h.1.u21, h.2.1.tr VZ.u21, h.2.2⟩
/-- main: a function with nothing to take and nothing to give -/
def MN (R : yR) (S : Sg) : Prop := ∃ (i : Nat) (fs : List Value) (gv : Nat), i < R.im ∧ Zi S 21 = nI i ∧ R.ik i = 12 ∧ ZF S (R.ws i) = .inr (16, fs) ∧ fs[3]? = some (.int 0) ∧ fs[15]? = some (.ref gv) ∧ isTy S gv 8 0 none
theorem fmn7 (hD : RDI R) (hc : c ≤ 1990) (hT9 : Zi R.S 9 = nI R.T) : ∀ (m k : Nat) {S1 : Sg}, R.im < k + m → k ≤ R.im → MF R c nv S S1 → (Zi S1 3 = 0 → ITA R S1) → (Zi S1 21 = -1 ∨ ∃ i : Nat, i < R.im ∧ R.ik i = 12 ∧ Zi S1 21 = nI i) → (Zi S 3 = 0 → Zi S1 3 = 0) → Zi S 3 = 0 → Rt (f_findMain_7 R.K m S1 (nI k)) (fun S2 _ => MF R c nv S S2 ∧ (Zi S2 3 = 0 → ITA R S2 ∧ MN R S2))
  | 0, k, _, h1, h2, _, _, _, _, _ => by omega
  | m + 1, k, S1, h1, h2, q1, hA, hm, hz, hz0 => by
    have hD0 := hD.1
    have hTb := q1.1.tb
    have z1 := hz hz0
    have hA1 := hA z1
    have hT0 : 0 < R.T := by obtain ⟨G, tm, Y, ad, g1, _⟩ := q1.1; exact Nat.lt_of_le_of_lt (Nat.zero_le _) (show 0 < R.T from by have := g1.1.1; omega)
    have hfl : ∀ {S2 : Sg} {wh x : Int32}, ¬ wh = 0 → MF R c nv S S2 → Rt (f_findMain_144 R.K (flS S2 wh x)) (fun S2 _ => MF R c nv S S2 ∧ (Zi S2 3 = 0 → ITA R S2 ∧ MN R S2)) := fun hw q2 => Rt.rt ⟨q2.fl, fun w => absurd w (flS_n0 hw)⟩
    unfold f_findMain_7
    rw [q1.1.i12 hD]
    refine Rt.it (fun w9 => ?_) (fun w9 => ?_)
    · rcases hm with hm | ⟨i, hi, hik, hm⟩
      · rw [hm]
        refine Rt.iq (by decide) ?_
        have e9 : Zi S1 9 - 1 = nI (R.T - 1) := by
          obtain ⟨G, tm, Y, ad, g1, g2, g3, g4⟩ := q1.1
          rw [g4.1 9 (by decide) (by decide) (by decide) (by decide) (by decide) (by decide), hT9]
          exact nI_sb (b := 1) (by omega)
        rw [e9]
        exact Rt.be (fai_ q1.1 (by omega)) (hfl (by decide) q1)
      · rw [hm]
        obtain ⟨b1, b2, b3, fs9, gs9, b4, b5, b6, b7, b8, b9, b10, b11⟩ := hD.ob q1.1 hi
        obtain ⟨a1, a2, fs, mn, na, g, a3, a4, a5, a6, a7, a8, a9, a10, a11⟩ := hA1 i hi
        have ee : gs9 = fs := (Prod.mk.inj (Sum.inr.inj (b5.symm.trans a3))).2
        subst ee
        rcases a11 with ⟨k1, _⟩ | ⟨k1, _⟩ | ⟨k1, ta, gv, lo, f, go, rl, k2, k3, k4, k5, _⟩
        · rw [hik] at k1; exact absurd k1 (by decide)
        · rw [hik] at k1; exact absurd k1 (by decide)
        have h127 : Rt (f_findMain_127 R.K S1) (fun S2 _ => MF R c nv S S2 ∧ (Zi S2 3 = 0 → ITA R S2 ∧ MN R S2)) := by
          unfold f_findMain_127
          rw [hm]
          exact Rt.bd (hD.it q1.1 hi) (Rt.bd (oI_mk b2 b5 b10) (Rt.be (fai_ q1.1 b3) (hfl (by decide) q1)))
        have h6 : ∃ lv : Int32, gs9[6]? = some (.int lv) := by
          obtain ⟨_, z2, ⟨fs8, z3, z4⟩, _⟩ := hD.2.2.2.2 i hi
          obtain ⟨_, _, _, mn9, na9, g9, _, _, _, _, y8⟩ := z2
          rcases y8 with ⟨wa, ta, q', f, c3, _⟩ | ⟨vr, q', f, c3, _⟩ | ⟨lv, wa, ta, pa, lf, lo, q', va, b, bl, rs, f, gl, c3, _⟩ <;> (have e := (Prod.mk.inj (Sum.inr.inj (b4.symm.trans c3))).2; rw [b8 6 rfl, e]; exact ⟨_, rfl⟩)
        obtain ⟨lv, h6⟩ := h6
        refine Rt.ip (by
          have := nI_le (a := 0) (b := i) (Nat.zero_le _) (by omega)
          exact this) ?_
        refine Rt.bd (hD.it q1.1 hi) (Rt.bd (oI_mk b2 b5 a5) (Rt.it (fun _ => h127) (fun w8 => ?_)))
        have hmn : mn = 0 := by
          rcases Nat.eq_zero_or_pos mn with e | e
          · exact e
          · exact absurd (by
              have : ¬ nI mn ≤ nI 0 := fun w => by have := (nI_leI (a := mn) (b := 0) (by omega) (by omega)).mp w; omega
              exact Int32.not_le.mp this) w8
        refine Rt.bd (hD.it q1.1 hi) (Rt.bd (oI_mk b2 b5 h6) (Rt.it (fun _ => h127) (fun w7 => ?_)))
        obtain ⟨kd, ix, o, hty⟩ := k5.ty
        have hty2 := hty
        obtain ⟨tt, t1, t2, t3, t4⟩ := hty2
        refine Rt.bd (hD.it q1.1 hi) (Rt.bd (oR_mk (v := some gv) b2 b5 k4) (Rt.bd (oI_mk t3 t4 (v := kd) rfl) (Rt.it (fun w6 => ?_) (fun _ => h127))))
        refine Rt.rt ⟨q1, fun _ => ⟨hA1, i, gs9, gv, hi, hm, hik, b5, by rw [a5, hmn]; rfl, k4, ?_⟩⟩
        have := (q1.1.at hc hty).1
        rw [w6] at hty this
        rcases this with ⟨_, h1, h2⟩ | ⟨h, _⟩ | ⟨h, _⟩ | ⟨h, _⟩
        · have h1 : ix = 0 := h1
          have h2 : o = none := h2
          rw [h1, h2] at hty
          exact hty
        · exact absurd (show (8 : Int32) = 3 from h) (by decide)
        · exact absurd (show (8 : Int32) = 4 from h) (by decide)
        · exact absurd (show (8 : Int32) = 5 ∨ (8 : Int32) = 6 ∨ (8 : Int32) = 7 from h) (by decide)
    have hlt : k < R.im := by
      rcases Nat.lt_or_ge k R.im with z | z
      · exact z
      · exact absurd (nI_le z (by omega)) w9
    obtain ⟨b1, b2, b3, fs9, gs9, b4, b5, b6, b7, b8, b9, b10, b11⟩ := hD.ob q1.1 hlt
    unfold f_findMain_50
    rw [nI_1]
    have hgo := fmn7 hD hc hT9 m (k + 1) (S1 := S1) (by omega) (by omega) q1 hA hm hz hz0
    refine Rt.bd (hD.it q1.1 hlt) (Rt.bd (oI_mk b2 b5 b11) (Rt.it (fun ek => ?_) (fun _ => hgo)))
    refine Rt.bd (hD.it q1.1 hlt) (Rt.bd (oI_mk b2 b5 b10) (Rt.bn (ism_ q1.1 b3) (fun S2 r q2 => ?_)))
    obtain ⟨e2, q2⟩ := q2
    rw [e2]
    refine Rt.it (fun _ => hgo) (fun _ => Rt.bd (v := Ui S1 21 (nI k)) rfl ?_)
    refine fmn7 hD hc hT9 m (k + 1) (by omega) (by omega) q1.u (fun w i hi => (hA1 i hi).vz (p := 0) (q := 0) (S2 := Ui S1 21 (nI k)) VZ.u21) (Or.inr ⟨k, hlt, ek, Zi_s⟩) (fun w => by rw [Zi_n (by decide)]; exact hz w) hz0
/-- findMain -/
theorem fmn_ (hD : RDI R) (hc : c ≤ 1990) (hT9 : Zi R.S 9 = nI R.T) (h : TS R c nv S) (hz : Zi S 3 = 0) (hA : ITA R S) : Rt (f_findMain R.K S) (fun S2 _ => MF R c nv S S2 ∧ (Zi S2 3 = 0 → ITA R S2 ∧ MN R S2)) := by
  have hD0 := hD.1
  unfold f_findMain
  refine Rt.bd (v := Ui S 21 (-1)) rfl (fmn7 hD hc hT9 bigN 0 (by unfold bigN; omega) (Nat.zero_le _) ⟨h.u21, VZ.u21, rfl⟩ (fun _ i hi => (hA i hi).vz (p := 0) (q := 0) (S2 := Ui S 21 (-1)) VZ.u21) (Or.inl Zi_s) (fun w => by rw [Zi_n (by decide)]; exact w) hz)
end FMN
end
-- k7.p.lean.txt
section
section ITW
variable {R : yR} {c nv : Nat} {S : Sg}
/-- fields of an item that its size, its leaves and its end are told in -/
def wF (k : Nat) : Prop := k = 19 ∨ k = 20 ∨ k = 21
theorem wF.ne {k j : Nat} (h : wF k) (hj : j < 19) : k ≠ j := by rcases h with h | h | h <;> omega
theorem ItY.w {i j k : Nat} {gs : List Value} {v : Value} (hk : wF k) (hF : ZF S (R.ws i) = .inr (16, gs)) (h : ItY R S j) : ItY R (UF S (R.ws i) (.inr (16, gs.set k v))) j := by
  have hT : ∀ (x : Nat) (kd ix : Int32) (o : Option Nat), isTy S x kd ix o → isTy (UF S (R.ws i) (.inr (16, gs.set k v))) x kd ix o := fun x kd ix o ⟨t, h1, h2, h3, h4⟩ => ⟨t, h1, h2, h3, (ZF_n (fun e => by rw [e, hF] at h4; cases h4)).trans h4⟩
  have hr : ∀ {a n : Nat} {k9 : ClassId} {f : vRw}, ZF S a = .inl (k9, n, f) → ZF (UF S (R.ws i) (.inr (16, gs.set k v))) a = .inl (k9, n, f) := fun e => (ZF_n (fun w => by rw [w, hF] at e; cases e)).trans e
  obtain ⟨h1, h2, fs, mn, na, g, h3, h4, h5, h6, h7, h8, h9, h10, h11⟩ := h
  -- the item's own cell
  have hc : ∃ fs2 : List Value, ZF (UF S (R.ws i) (.inr (16, gs.set k v))) (R.ws j) = .inr (16, fs2) ∧ ∀ l : Nat, l < 19 → fs2[l]? = fs[l]? := by
    by_cases e : R.ws j = R.ws i
    · rw [e] at h3
      have ee : gs = fs := (Prod.mk.inj (Sum.inr.inj (hF.symm.trans h3))).2
      subst ee
      exact ⟨gs.set k v, by rw [e]; exact ZF_s, fun l hl => List.getElem?_set_ne (hk.ne hl)⟩
    · exact ⟨fs, (ZF_n e).trans h3, fun _ _ => rfl⟩
  obtain ⟨fs2, c1, c2⟩ := hc
  refine ⟨h1, h2, fs2, mn, na, g, c1, (c2 2 (by decide)).trans h4, (c2 3 (by decide)).trans h5, h6, (c2 8 (by decide)).trans h7, h8, hr h9, h10, ?_⟩
  have hrt : ∀ {ta cap m9 : Nat} {f : Nat → Option Nat} {P P2 : Nat → Prop}, rTs R S ta cap m9 f P → (∀ x : Nat, P x → P2 x) → rTs R (UF S (R.ws i) (.inr (16, gs.set k v))) ta cap m9 f P2 := fun q hP => ⟨q.1, hr q.2.1, fun l hl => by obtain ⟨x, k1, k2⟩ := q.2.2 l hl; exact ⟨x, k1, hP x k2⟩⟩
  rcases h11 with ⟨k1, ta, f, k2, k3⟩ | ⟨k1, vr, fv, k2, k3, k4, k5⟩ | ⟨k1, ta, gv, lo, f, go, rl, k2, k3, k4, k5, k6, k7, k8, k9, l1, l2⟩
  · exact Or.inl ⟨k1, ta, f, (c2 10 (by decide)).trans k2, hrt k3 (fun x q => q.im hT)⟩
  · refine Or.inr (Or.inl ⟨k1, vr, fv, (c2 11 (by decide)).trans k2, k3, hr k4, fun l hl => ?_⟩)
    obtain ⟨pa, mk, f, e1, e2, e3⟩ := k5 l hl
    refine ⟨pa, mk, f, e1, e2, ?_⟩
    have hp : ∀ {ys : List Value}, ZF S pa = .inr (17, ys) → ZF (UF S (R.ws i) (.inr (16, gs.set k v))) pa = .inr (17, ys) := fun e => (ZF_n (fun w => by rw [w, hF] at e; cases e)).trans e
    exact e3.imp (fun ⟨a1, a2⟩ => ⟨hp a1, a2⟩) (fun ⟨wa, ta, a1, a2, a3⟩ => ⟨wa, ta, hp a1, a2, hrt a3 (fun x q => q.im hT)⟩)
  · exact Or.inr (Or.inr ⟨k1, ta, gv, lo, f, go, rl, (c2 10 (by decide)).trans k2, hrt k3 (fun x q => q.im hT), (c2 15 (by decide)).trans k4, k5.im hT, (c2 7 (by decide)).trans k6, k7, (c2 13 (by decide)).trans k8, k9, hr l1, l2⟩)
theorem ROW.w {i k : Nat} {gs : List Value} {v : Value} (hF : ZF S (R.ws i) = .inr (16, gs)) (hO : ∃ fs : List Value, ZF R.S (R.ws i) = .inr (16, fs)) (h : ROW R S) : ROW R (UF S (R.ws i) (.inr (16, gs.set k v))) := fun a n k9 f h1 h2 h3 h4 h5 => (ZF_n (fun w => by obtain ⟨fs, e⟩ := hO; rw [w, e] at h2; cases h2)).trans (h a n k9 f h1 h2 h3 h4 h5)
/-- an item's field is written -/
theorem itw_ (hD : RDI R) (h : TS R c nv S) {i k : Nat} (hi : i < R.im) (hk : wF k) (v : Value) : ∃ gs : List Value, ZF S (R.ws i) = .inr (16, gs) ∧ gs.length = 22 ∧ pV S 16 (some (R.ws i)) k v = some (UF S (R.ws i) (.inr (16, gs.set k v))) ∧ TS R c nv (UF S (R.ws i) (.inr (16, gs.set k v))) ∧ (ITA R S → ITA R (UF S (R.ws i) (.inr (16, gs.set k v)))) ∧ (ROW R S → ROW R (UF S (R.ws i) (.inr (16, gs.set k v)))) := by
  obtain ⟨b1, b2, b3, fs, gs, b4, b5, b6, b7, b8, b9, b10, b11⟩ := hD.ob h hi
  exact ⟨gs, b5, b7, pV_mk b2 b5 (by rw [b7]; rcases hk with e | e | e <;> rw [e] <;> decide), h.uf b1 (cs_put b9 (by rcases hk with e | e | e <;> rw [e] <;> rfl)), fun hA j hj => (hA j hj).w hk b5, fun hR => hR.w b5 ⟨_, b4⟩⟩
/-- isItem -/
theorem isi_ {K : Ky} {x : Nat} {kd ix i : Int32} {o : Option Nat} (hx : isTy S x kd ix o) : Rt (f_isItem K S (some x) i) (fun S2 r => S2 = S ∧ ((r = 1 ∧ (kd = 3 ∨ kd = 4) ∧ ix = i) ∨ (r = 0 ∧ ¬ ((kd = 3 ∨ kd = 4) ∧ ix = i)))) := by
  obtain ⟨t, h1, h2, h3, h4⟩ := hx
  have h16 : (kd = 3 ∨ kd = 4) → Rt (f_isItem_16 K S (some x) i) (fun S2 r => S2 = S ∧ ((r = 1 ∧ (kd = 3 ∨ kd = 4) ∧ ix = i) ∨ (r = 0 ∧ ¬ ((kd = 3 ∨ kd = 4) ∧ ix = i)))) := fun hk => by
    unfold f_isItem_16 f_isItem_28 f_isItem_29
    exact Rt.bd (oI_mk h3 h4 (v := ix) rfl) (Rt.it (fun w => Rt.zr (Or.inr rfl) ⟨rfl, Or.inl ⟨rfl, hk, w⟩⟩) (fun w => Rt.zr (Or.inl rfl) ⟨rfl, Or.inr ⟨rfl, fun z => w z.2⟩⟩))
  unfold f_isItem
  refine Rt.bd (oI_mk h3 h4 (v := kd) rfl) (Rt.it (fun w => h16 (Or.inl w)) (fun w => ?_))
  refine Rt.bd (oI_mk h3 h4 (v := kd) rfl) (Rt.it (fun w => h16 (Or.inr w)) (fun w2 => ?_))
  exact Rt.zr (Or.inl rfl) ⟨rfl, Or.inr ⟨rfl, fun z => z.1.elim w w2⟩⟩
end ITW
end
-- k7.q.lean.txt
section
section LIE
variable {R : yR} {c nv : Nat} {S : Sg}
/-- x is not item j -/
def nIt (S : Sg) (x j : Nat) : Prop := ∀ (kd : Int32) (o : Option Nat), isTy S x kd (nI j) o → ¬ (kd = 3 ∨ kd = 4)
/-- what lies in item i: types of its fields, of its variants' parts -/
def fdO (R : yR) (S : Sg) (i x : Nat) : Prop := ∃ (fs : List Value) (mn : Nat), ZF S (R.ws i) = .inr (16, fs) ∧ fs[3]? = some (.int (nI mn)) ∧ mn ≤ 12 ∧ ((R.ik i = 10 ∧ ∃ (ta k : Nat) (f : Nat → Option Nat), fs[10]? = some (.ref ta) ∧ ZF S ta = .inl (R.K.1 4, 13, .inr (.inr (.inr (.inr f)))) ∧ k < mn ∧ f k = some x) ∨
  (R.ik i = 11 ∧ ∃ (vr k pa wa ta mk l : Nat) (fv f : Nat → Option Nat), fs[11]? = some (.ref vr) ∧ ZF S vr = .inl (R.K.1 13, 13, .inr (.inr (.inr (.inr fv)))) ∧ k < mn ∧ fv k = some pa ∧ ZF S pa = .inr (17, [.int (nI mk), .ref wa, .ref ta]) ∧ mk ≤ 12 ∧ ZF S ta = .inl (R.K.1 4, 12, .inr (.inr (.inr (.inr f)))) ∧ l < mk ∧ f l = some x))
theorem isi0 {K : Ky} {x j : Nat} {kd ix : Int32} {o : Option Nat} (hx : isTy S x kd ix o) : Rt (f_isItem K S (some x) (nI j)) (fun S2 r => S2 = S ∧ (r = 1 ∨ (r = 0 ∧ nIt S x j))) := (isi_ hx).mo (fun S2 r q => ⟨q.1, q.2.imp (fun z => z.1) (fun z => ⟨z.1, fun kd2 o2 h2 hk => by
  obtain ⟨e1, e2, _⟩ := isTy_fn hx h2
  exact z.2 ⟨by rw [e1]; exact hk, e2⟩⟩)⟩)
/-- lies, in a struct -/
theorem lieS (h : TS R c nv S) {i j mn ta : Nat} {fs : List Value} {f : Nat → Option Nat} (hw : R.ws i ∈ ZL S) (hF : ZF S (R.ws i) = .inr (16, fs)) (h2 : fs[2]? = some (.int 10)) (h3 : fs[3]? = some (.int (nI mn))) (hmn : mn ≤ 12) (h10 : fs[10]? = some (.ref ta)) (hta : rTs R S ta 13 mn f (vTy S)) : ∀ (m k : Nat), mn < k + m → k ≤ mn → (∀ (l x : Nat), l < k → f l = some x → nIt S x j) → Rt (f_lies_10 R.K m S (nI j) (some (R.ws i)) (nI k)) (fun S2 r => S2 = S ∧ (r = 1 ∨ (r = 0 ∧ ∀ (l x : Nat), l < mn → f l = some x → nIt S x j)))
  | 0, k, h1, h2, _ => by omega
  | m + 1, k, hk1, hk2, hd => by
    unfold f_lies_10
    refine Rt.bd (oI_mk hw hF h3) (Rt.it (fun w9 => ?_) (fun w9 => ?_))
    · have := (nI_leI (a := mn) (b := k) (by omega) (by omega)).mp w9
      exact Rt.zr (Or.inl rfl) ⟨rfl, Or.inr ⟨rfl, fun l x hl => hd l x (by omega)⟩⟩
    have hlt : k < mn := by
      rcases Nat.lt_or_ge k mn with z | z
      · exact z
      · exact absurd (nI_le z (by omega)) w9
    obtain ⟨x, x1, x2⟩ := hta.2.2 k hlt
    obtain ⟨kd, ix, o, hx, _⟩ := x2.ty
    refine Rt.bd (oI_mk hw hF h2) (Rt.ip rfl (Rt.bd (oR_mk (v := some ta) hw hF h10) (Rt.bd (aQ_n (h.L hta.1.1) hta.2.1 (show k < 13 by omega) (by decide)) ?_)))
    rw [x1]
    refine Rt.bn (isi0 hx) (fun S2 r q => ?_)
    obtain ⟨e, q⟩ := q
    rw [e]
    rcases q with q | ⟨q, q2⟩
    · exact Rt.iq (by rw [q]; decide) (Rt.zr (Or.inr rfl) ⟨rfl, Or.inl rfl⟩)
    · refine Rt.ip q ?_
      unfold f_lies_44 bigN f_lies_47 f_lies_99
      rw [nI_1]
      refine Rt.bd (oI_mk hw hF h2) (Rt.iq (by decide) (lieS h hw hF h2 h3 hmn h10 hta m (k + 1) (by omega) (by omega) (fun l x9 hl e9 => ?_)))
      by_cases e0 : l = k
      · subst e0; rw [x1] at e9; cases e9; exact q2
      · exact hd l x9 (by omega) e9
/-- lies, in a variant -/
theorem lieV (h : TS R c nv S) {i j mn vr k pa wa ta mk : Nat} {fs : List Value} {fv f : Nat → Option Nat} (hw : R.ws i ∈ ZL S) (hF : ZF S (R.ws i) = .inr (16, fs)) (h2 : fs[2]? = some (.int 11)) (hmn : mn ≤ 12) (h11 : fs[11]? = some (.ref vr)) (hvr : vr ∈ ZL S) (hvF : ZF S vr = .inl (R.K.1 13, 13, .inr (.inr (.inr (.inr fv))))) (hk : k < mn) (hfv : fv k = some pa) (hpa : pa ∈ ZL S) (hpF : ZF S pa = .inr (17, [.int (nI mk), .ref wa, .ref ta])) (hmk : mk ≤ 12) (hta : rTs R S ta 12 mk f (vTy S)) {P : Sg → Int32 → Prop} {k10 : Sg → Int32 → Option Nat → Int32 → Option (Sg × Int32)} (hgo : (∀ (l x : Nat), l < mk → f l = some x → nIt S x j) → Rt (k10 S (nI j) (some (R.ws i)) (nI (k + 1))) P) (h1 : P S 1) : ∀ (m l : Nat), mk < l + m → l ≤ mk → (∀ (l9 x : Nat), l9 < l → f l9 = some x → nIt S x j) → Rt (f_lies_47 R.K k10 m S (nI j) (some (R.ws i)) (nI k) (nI l)) P
  | 0, l, a1, a2, _ => by omega
  | m + 1, l, a1, a2, hd => by
    unfold f_lies_47
    refine Rt.bd (oI_mk hw hF h2) (Rt.ip rfl (Rt.bd (oR_mk (v := some vr) hw hF h11) (Rt.bd (aQ_n hvr hvF (show k < 13 by omega) (by decide)) ?_)))
    rw [hfv]
    refine Rt.bd (oI_mk hpa hpF (v := nI mk) rfl) (Rt.it (fun w9 => ?_) (fun w9 => ?_))
    · have := (nI_leI (a := mk) (b := l) (by omega) (by omega)).mp w9
      unfold f_lies_99
      rw [nI_1]
      exact hgo (fun l9 x hl => hd l9 x (by omega))
    have hlt : l < mk := by
      rcases Nat.lt_or_ge l mk with z | z
      · exact z
      · exact absurd (nI_le z (by omega)) w9
    obtain ⟨x, x1, x2⟩ := hta.2.2 l hlt
    obtain ⟨kd, ix, o, hx, _⟩ := x2.ty
    refine Rt.bd (oR_mk (v := some vr) hw hF h11) (Rt.bd (aQ_n hvr hvF (show k < 13 by omega) (by decide)) ?_)
    rw [hfv]
    refine Rt.bd (oR_mk (v := some ta) hpa hpF rfl) (Rt.bd (aQ_n (h.L hta.1.1) hta.2.1 (show l < 12 by omega) (by decide)) ?_)
    rw [x1]
    refine Rt.bn (isi0 hx) (fun S2 r q => ?_)
    obtain ⟨e, q⟩ := q
    rw [e]
    rcases q with q | ⟨q, q2⟩
    · exact Rt.iq (by rw [q]; decide) (Rt.zr (Or.inr rfl) h1)
    · refine Rt.ip q ?_
      rw [nI_1]
      refine lieV h hw hF h2 hmn h11 hvr hvF hk hfv hpa hpF hmk hta hgo h1 m (l + 1) (by omega) (by omega) (fun l9 x9 hl e9 => ?_)
      by_cases e0 : l9 = l
      · subst e0; rw [x1] at e9; cases e9; exact q2
      · exact hd l9 x9 (by omega) e9
end LIE
end
