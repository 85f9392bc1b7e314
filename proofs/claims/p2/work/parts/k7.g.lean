/-- what was read, told of the state then -/
def RDI (R : yR) : Prop := R.im ≤ 70 ∧ Zi R.S 12 = nI R.im ∧ (∀ i j : Nat, i ≤ j → j ≤ R.im → R.ps i ≤ R.ps j ∧ R.ws i ≤ R.ws j) ∧ R.ps R.im ≤ R.T ∧ ∀ i : Nat, i < R.im → Zq R.S 11 i = some (R.ws i) ∧ isIt R.K (iv (R.ws i) (R.ws (i + 1))) (ZF R.S) (Zr R.S 5) (R.ws i) (R.ps i) (R.ms i) (R.ps (i + 1)) ∧ (∃ fs : List Value, ZF R.S (R.ws i) = .inr (16, fs) ∧ fs[2]? = some (.int (R.ik i))) ∧ (∀ (fs : List Value) (pa : Nat), ZF R.S (R.ws i) = .inr (16, fs) → fs[17]? = some (.ref pa) → R.pw pa = some (R.ms i)) ∧ ∀ a ∈ iv (R.ws i) (R.ws (i + 1)), a ∈ ZL R.S
/-- nothing but a fault -/
def QF (R : yR) (c nv : Nat) (S S2 : Sg) : Prop := TS R c nv S2 ∧ VX R nX S S2 ∧ VS S S2
section ITN
variable {R : yR} {c nv : Nat} {S S1 : Sg}
theorem QF.rf (h : TS R c nv S) : QF R c nv S S := ⟨h, VX.rf, VS.rf⟩
theorem QF.fl (h : QF R c nv S S1) {wh x : Int32} : QF R c nv S (flS S1 wh x) := ⟨h.1.fl, h.2.1.n VX.fl, h.2.2.tr VS.fl⟩
/-- an item, as it is now -/
theorem RDI.ob (hD : RDI R) (h : TS R c nv S) {i : Nat} (hi : i < R.im) : R.ws i ∈ ZL R.S ∧ R.ws i ∈ ZL S ∧ R.ps i + 1 < R.T ∧ ∃ (fs gs : List Value), ZF R.S (R.ws i) = .inr (16, fs) ∧ ZF S (R.ws i) = .inr (16, gs) ∧ fs.length = 22 ∧ gs.length = 22 ∧ (∀ j : Nat, mtF 16 j = false → gs[j]? = fs[j]?) ∧ cs (ZF R.S (R.ws i)) (.inr (16, gs)) ∧ gs[1]? = some (.int (nI (R.ps i + 1))) ∧ gs[2]? = some (.int (R.ik i)) := by
  obtain ⟨h1, h2, h3, h4, h5⟩ := hD
  obtain ⟨k1, k2, ⟨fs, k3, k4⟩, k5, k6⟩ := h5 i hi
  have hm := (h3 (i + 1) R.im (by omega) (Nat.le_refl _)).1
  have k2' := k2
  obtain ⟨a1, a2, a3, mn, na, g, a4, a5, a6, a7, a8⟩ := k2
  have a1 := k6 _ a1
  obtain ⟨w1, gs, w2, w3, w4, w5⟩ := h.ob a1 k3
  have hf : fs.length = 22 ∧ fs[1]? = some (.int (nI (R.ps i + 1))) := by
    rcases a8 with ⟨wa, ta, q', f, c3, _⟩ | ⟨vr, q', f, c3, _⟩ | ⟨lv, wa, ta, pa, lf, lo, q', va, b, bl, rs, f, gl, c3, _⟩ <;> (have e := (Prod.mk.inj (Sum.inr.inj (k3.symm.trans c3))).2; subst e; exact ⟨rfl, rfl⟩)
  exact ⟨a1, w1, by omega, fs, gs, k3, w2, hf.1, w3.trans hf.1, w4, w5, (w4 1 rfl).trans hf.2, (w4 2 rfl).trans k4⟩
theorem RDI.it (hD : RDI R) (h : TS R c nv S) {i : Nat} (hi : i < R.im) : rQ S 11 (nI i) = some (some (R.ws i)) := h.it hi (hD.2.2.2.2 i hi).1
theorem TS.i12 (hD : RDI R) (h : TS R c nv S) : Zi S 12 = nI R.im := by
  obtain ⟨G, tm, Y, ad, h1, h2, h3, h4⟩ := h
  exact (h4.1 12 (by decide) (by decide) (by decide) (by decide) (by decide) (by decide)).trans hD.2.1
/-- itemNames -/
theorem inn12 (hD : RDI R) {P : Sg → Unit → Prop} {k2 : Sg → Int32 → Option (Sg × Unit)} {i : Nat} (hi : i < R.im) (hk : ∀ S2 : Sg, QF R c nv S S2 → Rt (k2 S2 (nI (i + 1))) P) : ∀ (m j : Nat) {S1 : Sg}, i < j + m → j ≤ i → QF R c nv S S1 → Rt (f_itemNames_12 R.K k2 m S1 (nI i) (nI j)) P
  | 0, j, _, h1, h2, _ => by omega
  | m + 1, j, S1, h1, h2, q1 => by
    have hD0 := hD.1
    obtain ⟨a1, a2, a3, fs, gs, a4, a5, a6, a7, a8, a9, a10, a11⟩ := hD.ob q1.1 hi
    unfold f_itemNames_12
    refine Rt.it (fun w9 => by rw [nI_1]; exact hk S1 q1) (fun w9 => ?_)
    have hlt : j < i := by
      rcases Nat.lt_or_ge j i with z | z
      · exact z
      · exact absurd (nI_le z (by omega)) w9
    obtain ⟨b1, b2, b3, fs2, gs2, b4, b5, b6, b7, b8, b9, b10, b11⟩ := hD.ob q1.1 (show j < R.im by omega)
    refine Rt.bd (hD.it q1.1 hi) (Rt.bd (oI_mk a2 a5 a10) (Rt.bd (hD.it q1.1 (show j < R.im by omega)) (Rt.bd (oI_mk b2 b5 b10) (Rt.bn (snm_ q1.1 a3 b3) (fun S2 r q2 => ?_)))))
    obtain ⟨e2, q2⟩ := q2
    rw [e2]
    unfold f_itemNames_56
    rw [nI_1]
    refine Rt.it (fun w8 => inn12 hD hi hk m (j + 1) (by omega) (by omega) q1) (fun w8 => ?_)
    exact Rt.bd (hD.it q1.1 hi) (Rt.bd (oI_mk a2 a5 a10) (Rt.be (fai_ q1.1 a3) (inn12 hD hi hk m (j + 1) (by omega) (by omega) q1.fl)))
theorem inn2 (hD : RDI R) : ∀ (m i : Nat) {S1 : Sg}, R.im < i + m → i ≤ R.im → QF R c nv S S1 → Rt (f_itemNames_2 R.K m S1 (nI i)) (fun S2 _ => QF R c nv S S2)
  | 0, i, _, h1, h2, _ => by omega
  | m + 1, i, S1, h1, h2, q1 => by
    have hD0 := hD.1
    unfold f_itemNames_2
    rw [q1.1.i12 hD]
    refine Rt.it (fun w9 => Rt.rt q1) (fun w9 => ?_)
    have hlt : i < R.im := by
      rcases Nat.lt_or_ge i R.im with z | z
      · exact z
      · exact absurd (nI_le z (by omega)) w9
    exact inn12 hD hlt (fun S2 q2 => inn2 hD m (i + 1) (by omega) (by omega) q2) bigN 0 (by unfold bigN; omega) (Nat.zero_le _) q1
theorem inn_ (hD : RDI R) (h : TS R c nv S) : Rt (f_itemNames R.K S) (fun S2 _ => QF R c nv S S2) := by
  have hD0 := hD.1
  exact inn2 hD bigN 0 (by unfold bigN; omega) (Nat.zero_le _) (QF.rf h)
/-- a function's lifetimes -/
def LV (R : yR) (S : Sg) (a lv lf : Nat) (gl : Nat → Int32) : Prop := a ∈ ZL R.S ∧ (∃ fs : List Value, ZF R.S a = .inr (16, fs)) ∧ lv ≤ 8 ∧ lf ∈ ZL R.S ∧ ZF R.S lf = .inl (R.K.1 0, 8, .inl gl) ∧ (∀ i : Nat, i < lv → ∃ s : Nat, gl i = nI s ∧ 0 < s ∧ s < R.T) ∧ ∃ gs : List Value, ZF S a = .inr (16, gs) ∧ gs[6]? = some (.int (nI lv)) ∧ gs[12]? = some (.ref lf)
theorem LV.qf {a lv lf : Nat} {gl : Nat → Int32} (h : LV R S a lv lf gl) (hV : VX R nX S S1) : LV R S1 a lv lf gl := by
  obtain ⟨h1, h2, h3, h4, h5, h6, gs, h7, h8⟩ := h
  exact ⟨h1, h2, h3, h4, h5, h6, gs, (hV.2.1 a h1 (fun w => w)).trans h7, h8⟩
theorem lvs19 {P : Sg → Unit → Prop} {k2 : Sg → Option Nat → Int32 → Option (Sg × Unit)} {a lv lf i : Nat} {gl : Nat → Int32} (hL : LV R S a lv lf gl) (hi : i < lv) (hk : ∀ S2 : Sg, QF R c nv S S2 → Rt (k2 S2 (some a) (nI (i + 1))) P) : ∀ (m j : Nat) {S1 : Sg}, i < j + m → j ≤ i → QF R c nv S S1 → Rt (f_lives_19 R.K k2 m S1 (some a) (nI i) (nI j)) P
  | 0, j, _, h1, h2, _ => by omega
  | m + 1, j, S1, h1, h2, q1 => by
    obtain ⟨a1, a2, a3, a4, a5, a6, gs, a7, a8, a9⟩ := hL.qf q1.2.1
    obtain ⟨s, s1, s2, s3⟩ := a6 i hi
    have hrw := q1.1.ri a4 a5 (i := i) (by rw [s1]; have := q1.1.tb; exact nI_ne0 (by omega) (by omega))
    unfold f_lives_19
    refine Rt.it (fun w9 => by rw [nI_1]; exact hk S1 q1) (fun w9 => ?_)
    have hlt : j < i := by
      rcases Nat.lt_or_ge j i with z | z
      · exact z
      · exact absurd (nI_le z (by omega)) w9
    obtain ⟨t, t1, t2, t3⟩ := a6 j (by omega)
    refine Rt.bd (oR_mk (v := some lf) (q1.1.L a1) a7 a9) (Rt.bd (aI_n (q1.1.L a4) hrw (show j < 8 by omega) (by decide)) (Rt.bd (oR_mk (v := some lf) (q1.1.L a1) a7 a9) (Rt.bd (aI_n (q1.1.L a4) hrw (show i < 8 by omega) (by decide)) ?_)))
    rw [t1, s1]
    refine Rt.bn (snm_ q1.1 t3 s3) (fun S2 r q2 => ?_)
    obtain ⟨e2, q2⟩ := q2
    rw [e2]
    unfold f_lives_54
    rw [nI_1]
    refine Rt.it (fun w8 => lvs19 hL hi hk m (j + 1) (by omega) (by omega) q1) (fun w8 => ?_)
    refine Rt.bd (oR_mk (v := some lf) (q1.1.L a1) a7 a9) (Rt.bd (aI_n (q1.1.L a4) hrw (show i < 8 by omega) (by decide)) ?_)
    rw [s1]
    exact Rt.be (fai_ q1.1 s3) (lvs19 hL hi hk m (j + 1) (by omega) (by omega) q1.fl)
theorem lvs2 {a lv lf : Nat} {gl : Nat → Int32} (hL : LV R S a lv lf gl) : ∀ (m i : Nat) {S1 : Sg}, lv < i + m → i ≤ lv → QF R c nv S S1 → Rt (f_lives_2 R.K m S1 (some a) (nI i)) (fun S2 _ => QF R c nv S S2)
  | 0, i, _, h1, h2, _ => by omega
  | m + 1, i, S1, h1, h2, q1 => by
    obtain ⟨a1, a2, a3, a4, a5, a6, gs, a7, a8, a9⟩ := hL.qf q1.2.1
    unfold f_lives_2
    refine Rt.bd (oI_mk (q1.1.L a1) a7 a8) (Rt.it (fun w9 => Rt.rt q1) (fun w9 => ?_))
    have hlt : i < lv := by
      rcases Nat.lt_or_ge i lv with z | z
      · exact z
      · exact absurd (nI_le z (by omega)) w9
    refine Rt.ok (fun _ => ?_) (fun _ => Rt.rt q1)
    exact lvs19 hL hlt (fun S2 q2 => lvs2 hL m (i + 1) (by omega) (by omega) q2) bigN 0 (by unfold bigN; omega) (Nat.zero_le _) q1
theorem lvs_ (h : TS R c nv S) {a lv lf : Nat} {gl : Nat → Int32} (hL : LV R S a lv lf gl) : Rt (f_lives R.K S (some a)) (fun S2 _ => QF R c nv S S2) := by
  have := hL.2.2.1
  exact lvs2 hL bigN 0 (by unfold bigN; omega) (Nat.zero_le _) (QF.rf h)
/-- lifeIn -/
theorem lfi27 {a lv lf wr s : Nat} {gl : Nat → Int32} {ws : List Value} (h : TS R c nv S) (hL : LV R S a lv lf gl) (hw : wr ∈ ZL S) (hW : ZF S wr = .inr (22, ws)) (h3 : ws[3]? = some (.int (nI s))) (hs : s < R.T) : ∀ (m j : Nat), lv < j + m → j ≤ lv → Rt (f_lifeIn_27 R.K m S (some a) (some wr) (nI j)) (fun S2 r => QF R c nv S S2 ∧ (r = -1 ∨ ∃ l : Nat, l < 8 ∧ r = nI l))
  | 0, j, h1, h2 => by omega
  | m + 1, j, h1, h2 => by
    have hL0 := hL
    obtain ⟨a1, a2, a3, a4, a5, a6, gs, a7, a8, a9⟩ := hL
    unfold f_lifeIn_27
    refine Rt.bd (oI_mk (h.L a1) a7 a8) (Rt.it (fun w9 => ?_) (fun w9 => ?_))
    · exact Rt.bd (oI_mk hw hW h3) (Rt.be (fai_ h hs) (Rt.rt ⟨(QF.rf h).fl, Or.inl rfl⟩))
    have hlt : j < lv := by
      rcases Nat.lt_or_ge j lv with z | z
      · exact z
      · exact absurd (nI_le z (by omega)) w9
    obtain ⟨t, t1, t2, t3⟩ := a6 j hlt
    have hrw := h.ri a4 a5 (i := j) (by rw [t1]; have := h.tb; exact nI_ne0 (by omega) (by omega))
    refine Rt.bd (oR_mk (v := some lf) (h.L a1) a7 a9) (Rt.bd (aI_n (h.L a4) hrw (show j < 8 by omega) (by decide)) (Rt.bd (oI_mk hw hW h3) ?_))
    rw [t1]
    refine Rt.bn (snm_ h t3 hs) (fun S2 r q2 => ?_)
    obtain ⟨e2, q2⟩ := q2
    rw [e2]
    refine Rt.it (fun w8 => ?_) (fun w8 => Rt.rt ⟨QF.rf h, Or.inr ⟨j, by omega, rfl⟩⟩)
    rw [nI_1]
    exact lfi27 h hL0 hw hW h3 hs m (j + 1) (by omega) (by omega)
theorem lfi_ (h : TS R c nv S) {a lv lf : Nat} {gl : Nat → Int32} (hL : LV R S a lv lf gl) {wr p q n : Nat} (hw : isT (ZL R.S) (ZF R.S) (Zr R.S 5) n wr p q) (hq : q ≤ R.T) : Rt (f_lifeIn R.K S (some a) (some wr)) (fun S2 r => QF R c nv S S2 ∧ (r = -1 ∨ ∃ l : Nat, l < 8 ∧ r = nI l)) := by
  have hT := h.tb
  have hlt := isT_lt hw
  cases n with
  | zero => exact hw.elim
  | succ n =>
  have hbad : Rt (f_lifeIn_23 R.K S) (fun S2 r => QF R c nv S S2 ∧ (r = -1 ∨ ∃ l : Nat, l < 8 ∧ r = nI l)) := Rt.rt ⟨QF.rf h, Or.inl rfl⟩
  have hkd : ∃ (ws : List Value) (lf9 : Int32), ZF R.S wr = .inr (22, ws) ∧ ws[0]? = some (.int (Zr R.S 5 p)) ∧ ws[3]? = some (.int lf9) ∧ (lf9 = -1 ∨ (lf9 = nI (p + 1) ∧ p + 1 < R.T)) := by
    rcases hw.2 with ⟨k1, _, _⟩ | ⟨_, o, k1, _⟩ | ⟨_, o, p', mu, lf9, k1, k2, k3, k4, k5⟩
    · exact ⟨_, -1, k1, rfl, rfl, Or.inl rfl⟩
    · exact ⟨_, -1, k1, rfl, rfl, Or.inl rfl⟩
    · have := isT_lt k5
      exact ⟨_, lf9, k1, rfl, rfl, k4.imp id (fun z => ⟨z, by omega⟩)⟩
  obtain ⟨ws, lf9, g1, g2, g3, g4⟩ := hkd
  obtain ⟨w1, gs, w2, w3, w4, w5⟩ := h.ob hw.1 g1
  unfold f_lifeIn
  refine Rt.ok (fun _ => ?_) (fun _ => hbad)
  refine Rt.bd (oI_mk w1 w2 ((w4 0 rfl).trans g2)) (Rt.it (fun _ => ?_) (fun _ => hbad))
  refine Rt.bd (oI_mk w1 w2 ((w4 3 rfl).trans g3)) (Rt.it (fun w9 => ?_) (fun _ => hbad))
  rcases g4 with g4 | ⟨g4, g5⟩
  · rw [g4] at w9; exact absurd w9 (by decide)
  · rw [g4] at g3
    have := hL.2.2.1
    exact lfi27 h hL w1 w2 ((w4 3 rfl).trans g3) g5 bigN 0 (by unfold bigN; omega) (Nat.zero_le _)
end ITN
