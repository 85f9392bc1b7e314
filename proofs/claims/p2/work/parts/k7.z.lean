/-- item j's leaves are told -/
def iLv (R : yR) (S1 : Sg) (j n : Nat) : Prop := (∃ fs : List Value, ZF S1 (R.ws j) = .inr (16, fs) ∧ fs[20]? = some (.int (nI n)) ∧ 1 ≤ n) ∧ ∃ s : Nat, iSz R S1 j s ∧ n ≤ s ∧ s ≤ 16
/-- the leaves of the type x; its item has fewer than m below it -/
def tyLv (R : yR) (g : Nat → Int32) (m : Nat) (S1 : Sg) (x n : Nat) : Prop := ∃ (kd ix : Int32) (o : Option Nat), isTy S1 x kd ix o ∧ ((kd = 3 ∧ ∃ j : Nat, j < R.im ∧ ix = nI j ∧ R.ik j = 10 ∧ hN g j R.im < m ∧ iLv R S1 j n) ∨ (kd ≠ 3 ∧ n = 1))
/-- leaves that are told stay, of items that have fewer than m below them -/
def LM (R : yR) (g : Nat → Int32) (m : Nat) (S1 S2 : Sg) : Prop := (∀ j n : Nat, j < R.im → hN g j R.im < m → iLv R S1 j n → iLv R S2 j n) ∧ SM R S1 S2
theorem LM.rf {R : yR} {g : Nat → Int32} {m : Nat} {S1 : Sg} : LM R g m S1 S1 := ⟨fun _ _ _ _ h => h, SM.rf⟩
theorem LM.tr {R : yR} {g : Nat → Int32} {m : Nat} {S1 S2 S3 : Sg} (h : LM R g m S1 S2) (q : LM R g m S2 S3) : LM R g m S1 S3 := ⟨fun j s hj hm z => q.1 j s hj hm (h.1 j s hj hm z), h.2.tr q.2⟩
theorem LM.up {R : yR} {g : Nat → Int32} {m k : Nat} {S1 S2 : Sg} (h : LM R g m S1 S2) (q : k ≤ m) : LM R g k S1 S2 := ⟨fun j s hj hm z => h.1 j s hj (by omega) z, h.2⟩
theorem tyLv.mo {R : yR} {g : Nat → Int32} {m : Nat} {S1 S2 : Sg} {x s : Nat} (h : LM R g m S1 S2) (q : tyLv R g m S1 x s) : tyLv R g m S2 x s := by
  obtain ⟨kd, ix, o, q1, q2⟩ := q
  exact ⟨kd, ix, o, h.2.2 _ _ _ _ q1, q2.imp (fun ⟨a, j, b1, b2, b3, b4, b5⟩ => ⟨a, j, b1, b2, b3, b4, h.1 j s b1 b4 b5⟩) id⟩
/-- what the leaves of a struct are: those of its fields -/
def EqL (R : yR) (g : Nat → Int32) (S S1 : Sg) (a n : Nat) : Prop := ∃ (fs : List Value) (mn ta : Nat) (f : Nat → Option Nat) (w : Nat → Nat), ZF S (R.ws a) = .inr (16, fs) ∧ fs[3]? = some (.int (nI mn)) ∧ mn ≤ 12 ∧ fs[10]? = some (.ref ta) ∧ ZF S ta = .inl (R.K.1 4, 13, .inr (.inr (.inr (.inr f)))) ∧ (∀ k : Nat, k < mn → ∃ x : Nat, f k = some x ∧ tyLv R g (hN g a R.im) S1 x (w k)) ∧ n = psN w mn
theorem EqL.mo {R : yR} {g : Nat → Int32} {S S1 S2 : Sg} {a n : Nat} (h : LM R g (hN g a R.im) S1 S2) (q : EqL R g S S1 a n) : EqL R g S S2 a n := by
  obtain ⟨fs, mn, ta, f, w, q1, q2, q3, q4, q5, q6, q7⟩ := q
  exact ⟨fs, mn, ta, f, w, q1, q2, q3, q4, q5, fun k hk => by obtain ⟨x, x1, x2⟩ := q6 k hk; exact ⟨x, x1, x2.mo h⟩, q7⟩
section LVI
variable {R : yR} {c nv : Nat} {S : Sg} {g : Nat → Int32}
/-- the leaves of items are being told -/
def LVP (R : yR) (c nv : Nat) (S : Sg) (g : Nat → Int32) (z : Int32) (S2 : Sg) : Prop := EI R (fun _ => True) c nv S g S2 ∧ Zi S2 3 = z ∧ ∀ a : Nat, a < R.im → R.ik a ≠ 12 → ∃ s : Nat, s ≤ 16 ∧ iSz R S2 a s ∧ EqS R S S2 a s
/-- of items that have fewer than m below them, the leaves are told or not begun -/
def LQ9 (R : yR) (S : Sg) (g : Nat → Int32) (m : Nat) (S1 : Sg) : Prop := ∀ a : Nat, a < R.im → R.ik a = 10 → hN g a R.im < m → ∃ (fs : List Value) (v : Int32), ZF S1 (R.ws a) = .inr (16, fs) ∧ fs[20]? = some (.int v) ∧ (v = 0 ∨ ∃ n : Nat, v = nI n ∧ iLv R S1 a n ∧ EqL R g S S1 a n)
/-- items but i that have at least as many below them as i are as they were -/
def LFr (R : yR) (g : Nat → Int32) (i : Nat) (S1 S2 : Sg) : Prop := ∀ a : Nat, a < R.im → a ≠ i → hN g i R.im ≤ hN g a R.im → ZF S2 (R.ws a) = ZF S1 (R.ws a)
theorem iLv_cell {S1 S2 : Sg} {j n : Nat} (e : ZF S2 (R.ws j) = ZF S1 (R.ws j)) (h : iLv R S1 j n) : iLv R S2 j n := by
  obtain ⟨⟨fs, h1, h2⟩, s, ⟨fs2, h3, h4⟩, h5⟩ := h
  exact ⟨⟨fs, e.trans h1, h2⟩, s, ⟨fs2, e.trans h3, h4⟩, h5⟩
/-- behind a call for an item j below i -/
theorem LQ9.up {S1 S2 : Sg} {m j : Nat} (h : LQ9 R S g m S1) (hj : hN g j R.im < m) (h2 : LQ9 R S g (hN g j R.im + 1) S2) (hf : LFr R g j S1 S2) (hl : ∀ k : Nat, LM R g k S1 S2) : LQ9 R S g m S2 := fun a ha hk hn => by
  by_cases e : hN g a R.im < hN g j R.im + 1
  · exact h2 a ha hk e
  · obtain ⟨fs, v, q1, q2, q3⟩ := h a ha hk hn
    have ec := hf a ha (fun e2 => by subst e2; omega) (by omega)
    exact ⟨fs, v, ec.trans q1, q2, q3.imp id (fun ⟨n, r1, r2, r3⟩ => ⟨n, r1, iLv_cell ec r2, r3.mo (hl _)⟩)⟩
/-- what the leaves of item i give -/
def LVR (R : yR) (c nv : Nat) (S : Sg) (g : Nat → Int32) (z : Int32) (i : Nat) (S1 S2 : Sg) (r : Int32) : Prop := LVP R c nv S g z S2 ∧ LQ9 R S g (hN g i R.im + 1) S2 ∧ LFr R g i S1 S2 ∧ (∀ k : Nat, LM R g k S1 S2) ∧ ∃ n : Nat, r = nI n ∧ iLv R S2 i n
theorem tyLv.le {m : Nat} {S1 : Sg} {x n s : Nat} (him : R.im ≤ 70) (h : tyLv R g m S1 x n) (q : tySz R S1 x s) : n ≤ s ∧ 1 ≤ n := by
  obtain ⟨kd, ix, o, h1, h2⟩ := h
  obtain ⟨kd2, ix2, o2, q1, q2⟩ := q
  obtain ⟨t, _, _, _, e1⟩ := h1
  obtain ⟨t2, _, _, _, e2⟩ := q1
  have ee := (Prod.mk.inj (Sum.inr.inj (e1.symm.trans e2))).2
  have ek : kd = kd2 := by injection ee with ee _; injection ee
  have ei : ix = ix2 := by injection ee with _ ee; injection ee with ee _; injection ee
  subst ek; subst ei
  rcases h2 with ⟨k3, j, j1, j2, j3, j4, ⟨fs0, u0, u1, u2⟩, s9, j5, j6, j7⟩ | ⟨k3, k4⟩
  · rcases q2 with ⟨_, j', b1, b2, b3, fs, b4, b5, b6, b7⟩ | ⟨q2, _⟩
    · have ej : j = j' := nI_ij (j2.symm.trans b2) (by omega) (by omega)
      subst ej
      obtain ⟨fs2, c1, c2, c3, c4⟩ := j5
      have e3 : fs = fs2 := (Prod.mk.inj (Sum.inr.inj (b4.symm.trans c1))).2
      subst e3
      have := nI_ij (Value.int.inj (Option.some.inj (b5.symm.trans c2))) (by omega) (by omega)
      omega
    · exact absurd k3 q2
  · rcases q2 with ⟨_, j', b1, b2, b3, fs, b4, b5, b6, b7⟩ | ⟨_, _, q3⟩ <;> omega
theorem psN_le {w w2 : Nat → Nat} : ∀ {n : Nat}, (∀ k : Nat, k < n → w k ≤ w2 k) → psN w n ≤ psN w2 n
  | 0, _ => Nat.le_refl _
  | n + 1, h => by
    show psN w n + w n ≤ psN w2 n + w2 n
    have := psN_le (n := n) (fun k hk => h k (by omega))
    have := h n (by omega); omega
theorem psN_mo {w : Nat → Nat} {k : Nat} : ∀ {n : Nat}, k ≤ n → psN w k ≤ psN w n
  | 0, h => by have : k = 0 := by omega
               subst this; exact Nat.le_refl _
  | n + 1, h => by
    by_cases e : k = n + 1
    · subst e; exact Nat.le_refl _
    · have := psN_mo (w := w) (k := k) (n := n) (by omega)
      show _ ≤ psN w n + w n; omega
/-- the leaves of item i, as far as its first k fields tell them -/
def PrL (R : yR) (g : Nat → Int32) (S S1 : Sg) (i k n : Nat) : Prop := ∃ (fs f1 : List Value) (ta : Nat) (f : Nat → Option Nat) (w : Nat → Nat), ZF S (R.ws i) = .inr (16, fs) ∧ fs[10]? = some (.ref ta) ∧ ZF S ta = .inl (R.K.1 4, 13, .inr (.inr (.inr (.inr f)))) ∧ (∀ l : Nat, l < k → ∃ x : Nat, f l = some x ∧ tyLv R g (hN g i R.im) S1 x (w l)) ∧ n = psN w k ∧ ZF S1 (R.ws i) = .inr (16, f1) ∧ f1[20]? = some (.int (nI n))
/-- what the fields' leaves come to is at most the size -/
theorem PrL.le {z : Int32} {S1 : Sg} {i k n mn : Nat} (him : R.im ≤ 70) (h : LVP R c nv S g z S1) (hi : i < R.im) (hik : R.ik i = 10) (hm3 : ∀ fs : List Value, ZF S (R.ws i) = .inr (16, fs) → fs[3]? = some (.int (nI mn))) (hmn : mn ≤ 12) (hk : k ≤ mn) (q : PrL R g S S1 i k n) : ∃ s : Nat, iSz R S1 i s ∧ n ≤ s ∧ s ≤ 16 := by
  obtain ⟨fs, f1, ta, f, w, q1, q2, q3, q4, q5, q6, q7⟩ := q
  obtain ⟨s, s1, s2, fs2, mn2, s3, s4, s5, s6, s7⟩ := h.2.2 i hi (by rw [hik]; decide)
  have e1 : fs = fs2 := (Prod.mk.inj (Sum.inr.inj (q1.symm.trans s3))).2
  subst e1
  have e2 : mn = mn2 := nI_ij (Value.int.inj (Option.some.inj ((hm3 _ q1).symm.trans s4))) (by omega) (by omega)
  subst e2
  refine ⟨s, s2, ?_, s1⟩
  rcases s7 with ⟨_, ta2, f2, w2, t1, t2, t3, t4⟩ | ⟨s7, _⟩
  · have et : ta = ta2 := Value.ref.inj (Option.some.inj (q2.symm.trans t1))
    subst et
    have ef : f = f2 := Sum.inr.inj (Sum.inr.inj (Sum.inr.inj (Sum.inr.inj (Prod.mk.inj (Prod.mk.inj (Sum.inl.inj (q3.symm.trans t2))).2).2)))
    subst ef
    have h1 : psN w k ≤ psN w2 k := psN_le (fun l hl => by
      obtain ⟨x, x1, x2⟩ := q4 l hl
      obtain ⟨x', y1, y2⟩ := t3 l (by omega)
      have : x = x' := Option.some.inj (x1.symm.trans y1)
      subst this
      exact (tyLv.le him x2 y2).1)
    have h2 : psN w2 k ≤ psN w2 mn := psN_mo hk
    omega
  · rw [hik] at s7; exact absurd s7 (by decide)
theorem lvi9 (hD : RDI R) (hc : c ≤ 1990) (hW : wC R.im R.im g) (hE : ∀ a b : Nat, a < R.im → b < R.im → eD R S g a b) {V : Sg → Option Nat → Option (Sg × Int32)} {i : Nat} {z : Int32} (hV : ∀ (j : Nat) (S1 : Sg), j < R.im → R.ik j = 10 → noC R.im g j → hN g j R.im < hN g i R.im → LVP R c nv S g z S1 → LQ9 R S g (hN g j R.im + 1) S1 → Rt (V S1 (some (R.ws j))) (LVR R c nv S g z j S1)) (hi : i < R.im) (hik : R.ik i = 10) (hno : noC R.im g i) {mn : Nat} (hm1 : 1 ≤ mn) (hmn : mn ≤ 12) (hm3 : ∀ fs : List Value, ZF R.S (R.ws i) = .inr (16, fs) → fs[3]? = some (.int (nI mn))) {S0 : Sg} (h0 : ∃ fs : List Value, ZF S0 (R.ws i) = .inr (16, fs) ∧ fs[20]? = some (.int 0)) (hQ0 : LQ9 R S g (hN g i R.im + 1) S0) : ∀ (m k n : Nat) {S1 : Sg}, mn < k + m → k ≤ mn → LVP R c nv S g z S1 → LQ9 R S g (hN g i R.im) S1 → PrL R g S S1 i k n → LFr R g i S0 S1 → LM R g (hN g i R.im) S0 S1 → Rt (f_leavesOfItem_9 R.K V m S1 (some (R.ws i)) (nI k)) (LVR R c nv S g z i S0)
  | 0, k, n, _, h1, h2, _, _, _, _, _ => by omega
  | m + 1, k, n, S1, h1, h2, h, hQ, hP, hFr, hLM => by
    obtain ⟨b1, b2, b3, fs9, gs9, b4, b5, b6, b7, b8, b9, b10, b11⟩ := hD.ob h.1.1 hi
    have e3 : gs9[3]? = some (.int (nI mn)) := (b8 3 rfl).trans (hm3 _ b4)
    obtain ⟨f0, w1, w2⟩ := h.1.2.2.2.1.io b5
    have hm3S : ∀ fs : List Value, ZF S (R.ws i) = .inr (16, fs) → fs[3]? = some (.int (nI mn)) := fun fs e => by
      have ee : f0 = fs := (Prod.mk.inj (Sum.inr.inj (w1.symm.trans e))).2
      rw [← ee, ← w2 3 (by decide)]; exact e3
    obtain ⟨a1, a2, fs, mn2, na, g9, a3, a4, a5, a6, a7, a8, a9, a10, a11⟩ := h.1.2.1 i hi
    have ee : gs9 = fs := (Prod.mk.inj (Sum.inr.inj (b5.symm.trans a3))).2
    subst ee
    have em : mn = mn2 := nI_ij (Value.int.inj (Option.some.inj (e3.symm.trans a5))) (by omega) (by omega)
    subst em
    obtain ⟨s9, hs1, hs2, hs3⟩ := PrL.le hD.1 h hi hik hm3S hmn h2 hP
    have hP2 := hP
    obtain ⟨fsP, f1, taP, fP, wP, p1, p2, p3, p4, p5, p6, p7⟩ := hP2
    have e0 : f0 = fsP := (Prod.mk.inj (Sum.inr.inj (w1.symm.trans p1))).2
    subst e0
    have ef1 : gs9 = f1 := (Prod.mk.inj (Sum.inr.inj (b5.symm.trans p6))).2
    subst ef1
    -- all of LM, from where it began: item i was not told there
    have hall : ∀ S2 : Sg, LFr R g i S0 S2 → LM R g (hN g i R.im) S0 S2 → ∀ k : Nat, LM R g k S0 S2 := fun S2 q1 q2 k => ⟨fun j t hj hm w => by
      by_cases ej : hN g j R.im < hN g i R.im
      · exact q2.1 j t hj ej w
      · by_cases e : j = i
        · subst e
          obtain ⟨fs0, z1, z2⟩ := h0
          obtain ⟨⟨fs, y1, y2, y3⟩, s, _, y4, y5⟩ := w
          have e1 : fs0 = fs := (Prod.mk.inj (Sum.inr.inj (z1.symm.trans y1))).2
          subst e1
          have := nI_ij (b := 0) (Value.int.inj (Option.some.inj (y2.symm.trans z2))) (by omega) (by omega)
          omega
        · exact iLv_cell (q1 j hj e (by omega)) w, q2.2⟩
    unfold f_leavesOfItem_9
    refine Rt.bd (oI_mk b2 b5 e3) (Rt.it (fun w9 => ?_) (fun w9 => ?_))
    · have ek : k = mn := by have := (nI_leI (a := mn) (b := k) (by omega) (by omega)).mp w9; omega
      subst ek
      have hn1 : 1 ≤ n := by
        rw [p5]
        refine psN_1 hm1 (fun l hl => ?_)
        obtain ⟨x, x1, x2⟩ := p4 l hl
        obtain ⟨kd, ix, o, _, ⟨_, j, _, _, _, _, ⟨_, _, _, q⟩, _⟩ | ⟨_, q⟩⟩ := x2 <;> omega
      have hit : iLv R S1 i n := ⟨⟨_, p6, p7, hn1⟩, s9, hs1, hs2, hs3⟩
      unfold f_leavesOfItem_67
      refine Rt.bd (oI_mk b2 b5 p7) (Rt.rt ⟨h, fun a ha hk hn => ?_, hFr, hall S1 hFr hLM, n, rfl, hit⟩)
      by_cases e : a = i
      · subst e
        exact ⟨_, _, b5, p7, Or.inr ⟨n, rfl, hit, f0, k, taP, fP, wP, p1, hm3S _ p1, hmn, p2, p3, p4, p5⟩⟩
      · by_cases en : hN g a R.im < hN g i R.im
        · exact hQ a ha hk en
        · -- as many below it as i: as it was
          have ec := hFr a ha e (by omega)
          obtain ⟨fs2, v2, q1, q2, q3⟩ := hQ0 a ha hk hn
          exact ⟨fs2, v2, ec.trans q1, q2, q3.imp id (fun ⟨n2, r1, r2, r3⟩ => ⟨n2, r1, iLv_cell ec r2, r3.mo (hall S1 hFr hLM _)⟩)⟩
    have hlt : k < mn := by
      rcases Nat.lt_or_ge k mn with z | z
      · exact z
      · exact absurd (nI_le z (by omega)) w9
    rcases a11 with ⟨k1, ta, f, k2, k3⟩ | ⟨k1, _⟩ | ⟨k1, _⟩
    · obtain ⟨x, x1, x2⟩ := k3.2.2 k hlt
      obtain ⟨kd, ix, o, hty, _⟩ := x2.ty
      have hok := (h.1.1.at hc hty).1
      have hty2 := hty
      obtain ⟨t, t1, t2, t3, t4⟩ := hty2
      have et : taP = ta := Value.ref.inj (Option.some.inj (p2.symm.trans ((w2 10 (by decide)).symm.trans k2)))
      have ef : fP = f := by
        rw [et] at p3
        exact Sum.inr.inj (Sum.inr.inj (Sum.inr.inj (Sum.inr.inj (Prod.mk.inj (Prod.mk.inj (Sum.inl.inj (p3.symm.trans (h.1.2.2.2.1.ro k3.2.1)))).2).2)))
      have h57 : ∀ (S2 : Sg) (n2 : Nat), LVP R c nv S g z S2 → LQ9 R S g (hN g i R.im) S2 → PrL R g S S2 i k n → LFr R g i S0 S2 → LM R g (hN g i R.im) S0 S2 → tyLv R g (hN g i R.im) S2 x n2 → Rt (f_leavesOfItem_57 R.K V (f_leavesOfItem_9 R.K V m) S2 (some (R.ws i)) (nI k) (nI n2) (nI n) (some (R.ws i))) (LVR R c nv S g z i S0) := fun S2 n2 u1 u2 u3 u4 u5 u6 => by
        obtain ⟨gs, g1, g2, g3, g4⟩ := u1.1.w hD hi (k := 20) (Or.inr (Or.inl rfl)) (.int (nI (n + n2))) (Or.inr ⟨_, rfl, trivial⟩)
        have hne : ∀ a : Nat, a < R.im → a ≠ i → ZF (UF S2 (R.ws i) (.inr (16, gs.set 20 (.int (nI (n + n2)))))) (R.ws a) = ZF S2 (R.ws a) := fun a ha e => ZF_n (hD.ne ha hi e)
        have hits : ∀ a s : Nat, a < R.im → iSz R S2 a s → iSz R (UF S2 (R.ws i) (.inr (16, gs.set 20 (.int (nI (n + n2)))))) a s := fun a s ha q => by
          by_cases e : a = i
          · subst e
            obtain ⟨fs8, y1, y2, y3⟩ := q
            have e1 : gs = fs8 := (Prod.mk.inj (Sum.inr.inj (g1.symm.trans y1))).2
            subst e1
            exact ⟨_, ZF_s, by rw [List.getElem?_set_ne (by decide)]; exact y2, y3⟩
          · obtain ⟨fs8, y1, y2⟩ := q
            exact ⟨fs8, (hne a ha e).trans y1, y2⟩
        have hsm : SM R S2 (UF S2 (R.ws i) (.inr (16, gs.set 20 (.int (nI (n + n2)))))) := ⟨fun j s hj q => hits j s hj q, fun x kd ix o q => g4.2.2.2.1.ty2 (u1.1.2.2.2.1.ty q)⟩
        have hlm : LM R g (hN g i R.im) S2 (UF S2 (R.ws i) (.inr (16, gs.set 20 (.int (nI (n + n2)))))) := ⟨fun j t hj hm w => iLv_cell (hne j hj (fun e => by subst e; omega)) w, hsm⟩
        unfold f_leavesOfItem_57
        rw [nI_add, nI_1]
        refine Rt.bd g3 (lvi9 hD hc hW hE hV hi hik hno hm1 hmn hm3 h0 hQ0 m (k + 1) (n + n2) (by omega) (by omega) ⟨g4, u1.2.1, fun a ha hk => ?_⟩ (fun a ha hk hn => ?_) ?_ (fun a ha e hn => (hne a ha e).trans (u4 a ha e hn)) (u5.tr hlm))
        · obtain ⟨s, v1, v2, v3⟩ := u1.2.2 a ha hk
          exact ⟨s, v1, hits a s ha v2, v3.mo hsm⟩
        · have ea : a ≠ i := fun e => by subst e; omega
          obtain ⟨fs2, v2, q1, q2, q3⟩ := u2 a ha hk hn
          exact ⟨fs2, v2, (hne a ha ea).trans q1, q2, q3.imp id (fun ⟨n9, r1, r2, r3⟩ => ⟨n9, r1, iLv_cell (hne a ha ea) r2, r3.mo (hlm.up (by omega))⟩)⟩
        · obtain ⟨fs7, f17, ta7, f7, w7, v1, v2, v3, v4, v5, v6, v7⟩ := u3
          have e7 : f0 = fs7 := (Prod.mk.inj (Sum.inr.inj (p1.symm.trans v1))).2
          subst e7
          have et7 : ta7 = taP := Value.ref.inj (Option.some.inj (v2.symm.trans p2))
          subst et7
          have ef7 : f7 = fP := Sum.inr.inj (Sum.inr.inj (Sum.inr.inj (Sum.inr.inj (Prod.mk.inj (Prod.mk.inj (Sum.inl.inj (v3.symm.trans p3))).2).2)))
          refine ⟨f0, _, ta7, f7, psU w7 k n2, v1, v2, v3, fun l hl => ?_, by rw [psN_up, ← v5], ZF_s, by rw [List.getElem?_set_self (by rw [g2]; decide)]⟩
          by_cases el : l = k
          · subst el; exact ⟨x, by rw [ef7, ef]; exact x1, by rw [psU_s]; exact u6.mo hlm⟩
          · obtain ⟨x9, i1, i2⟩ := v4 l (by omega)
            exact ⟨x9, i1, by rw [psU_n el]; exact i2.mo hlm⟩
      refine Rt.bd (oI_mk b2 b5 p7) (Rt.bd (oR_mk (v := some ta) b2 b5 k2) (Rt.bd (aQ_n (h.1.1.L k3.1.1) k3.2.1 (show k < 13 by omega) (by decide)) ?_))
      rw [x1]
      refine Rt.bd (oI_mk t3 t4 (v := kd) rfl) (Rt.it (fun ek => ?_) (fun ek => h57 S1 1 h hQ hP hFr hLM ⟨kd, ix, o, hty, Or.inr ⟨ek, rfl⟩⟩))
      obtain ⟨j, hj, ej, hjk⟩ : ∃ j : Nat, j < R.im ∧ ix = nI j ∧ R.ik j = 10 := by
        rcases hok with ⟨w, _⟩ | ⟨_, w, _⟩ | ⟨w, _⟩ | ⟨w, _⟩
        · have w : kd = 0 ∨ kd = 1 ∨ kd = 2 ∨ kd = 8 := w
          rw [ek] at w; exact absurd w (by decide)
        · exact w
        · have w : kd = 4 := w
          rw [ek] at w; exact absurd w (by decide)
        · have w : kd = 5 ∨ kd = 6 ∨ kd = 7 := w
          rw [ek] at w; exact absurd w (by decide)
      have hb : hB g i j := fun e => by
        rcases (hE i j hi hj).2 e with w | w | w
        · rw [hik] at w; exact absurd w (by decide)
        · rw [hjk] at w; exact absurd w (by decide)
        · exact w x (h.1.2.2.2.1.fd ⟨_, mn, b5, e3, hmn, Or.inl ⟨k1, ta, k, f, k2, k3.2.1, hlt, x1⟩⟩) kd o (by rw [← ej]; exact h.1.2.2.2.1.ty hty) (Or.inl ek)
      obtain ⟨d1, d2⟩ := noC_dn hW hi hj hno hb
      refine Rt.bd (oR_mk (v := some ta) b2 b5 k2) (Rt.bd (aQ_n (h.1.1.L k3.1.1) k3.2.1 (show k < 13 by omega) (by decide)) ?_)
      rw [x1]
      refine Rt.bd (oI_mk t3 t4 (v := ix) rfl) ?_
      rw [ej] at hty ⊢
      refine Rt.bd (hD.it h.1.1 hj) (Rt.bn (hV j S1 hj hjk d1 d2 h (fun a ha hk hn => hQ a ha hk (by omega))) (fun S2 r q => ?_))
      obtain ⟨q1, q2, q3, q4, n2, q5, q6⟩ := q
      rw [q5]
      have hji : i ≠ j := fun e => by subst e; omega
      refine h57 S2 n2 q1 (hQ.up d2 q2 q3 q4) ?_ (fun a ha e hn => (q3 a ha (fun e2 => by subst e2; omega) (by omega)).trans (hFr a ha e hn)) (hLM.tr (q4 _)) ⟨kd, _, o, (q4 0).2.2 _ _ _ _ hty, Or.inl ⟨ek, j, hj, rfl, hjk, d2, q6⟩⟩
      exact ⟨f0, gs9, taP, fP, wP, p1, p2, p3, fun l hl => by obtain ⟨x9, i1, i2⟩ := p4 l hl; exact ⟨x9, i1, i2.mo (q4 _)⟩, p5, (q3 i hi hji (by omega)).trans p6, p7⟩
    · rw [hik] at k1; exact absurd k1 (by decide)
    · rw [hik] at k1; exact absurd k1 (by decide)
/-- leavesOfItem -/
theorem lvi_ (hD : RDI R) (hc : c ≤ 1990) (hW : wC R.im R.im g) (hE : ∀ a b : Nat, a < R.im → b < R.im → eD R S g a b) {z : Int32} : ∀ (d i : Nat) (S1 : Sg), hN g i R.im < d → i < R.im → R.ik i = 10 → noC R.im g i → LVP R c nv S g z S1 → LQ9 R S g (hN g i R.im + 1) S1 → Rt (f_leavesOfItem R.K d S1 (some (R.ws i))) (LVR R c nv S g z i S1)
  | 0, i, S1, h1, _, _, _, _, _ => by omega
  | d + 1, i, S1, h1, hi, hik, hno, h, hQ => by
    obtain ⟨b1, b2, b3, fs9, gs9, b4, b5, b6, b7, b8, b9, b10, b11⟩ := hD.ob h.1.1 hi
    obtain ⟨fsu, u, u1, u2, u3⟩ := hQ i hi hik (by omega)
    have hm : ∃ mn : Nat, mn ≤ 12 ∧ ∀ fs : List Value, ZF R.S (R.ws i) = .inr (16, fs) → fs[3]? = some (.int (nI mn)) := by
      obtain ⟨a1, a2, fs, mn2, na, g9, a3, a4, a5, a6, _⟩ := h.1.2.1 i hi
      refine ⟨mn2, a6, fun fs0 e => ?_⟩
      have ee : gs9 = fs := (Prod.mk.inj (Sum.inr.inj (b5.symm.trans a3))).2
      subst ee
      have e0 : fs9 = fs0 := (Prod.mk.inj (Sum.inr.inj (b4.symm.trans e))).2
      subst e0
      exact (b8 3 rfl).symm.trans a5
    obtain ⟨mn, m1, m2⟩ := hm
    have hmn1 := hD.m1 hi (by rw [hik]; decide) m1 m2
    unfold f_leavesOfItem
    refine Rt.bd (oI_mk b2 u1 u2) (Rt.it (fun w => ?_) (fun w => ?_))
    · subst w
      have h0 : PrL R g S S1 i 0 0 := by
        obtain ⟨f0, w1, w2⟩ := h.1.2.2.2.1.io b5
        obtain ⟨a1, a2, fs3, mn2, na, g9, a3, a4, a5, a6, a7, a8, a9, a10, a11⟩ := h.1.2.1 i hi
        have ee : gs9 = fs3 := (Prod.mk.inj (Sum.inr.inj (b5.symm.trans a3))).2
        subst ee
        rcases a11 with ⟨j1, ta, f, j2, j3⟩ | ⟨j1, _⟩ | ⟨j1, _⟩
        · exact ⟨f0, fsu, ta, f, fun _ => 0, w1, (w2 10 (by decide)).symm.trans j2, h.1.2.2.2.1.ro j3.2.1, fun l hl => absurd hl (by omega), rfl, u1, u2⟩
        · rw [hik] at j1; exact absurd j1 (by decide)
        · rw [hik] at j1; exact absurd j1 (by decide)
      exact lvi9 hD hc hW hE (fun j S2 hj hjk hjn hjm q2 q3 => lvi_ hD hc hW hE d j S2 (by omega) hj hjk hjn q2 q3) hi hik hno hmn1 m1 m2 ⟨fsu, u1, u2⟩ hQ bigN 0 0 (by unfold bigN; omega) (Nat.zero_le _) h (fun a ha hk hn => hQ a ha hk (by omega)) h0 (fun _ _ _ _ => rfl) LM.rf
    · rcases u3 with u3 | ⟨n, r1, r2, r3⟩
      · exact absurd u3 w
      · unfold f_leavesOfItem_67
        exact Rt.bd (oI_mk b2 u1 u2) (Rt.rt ⟨h, hQ, fun _ _ _ _ => rfl, fun _ => LM.rf, n, r1, r2⟩)
/-- the leaves of the first k items are told -/
def LVD (R : yR) (S : Sg) (g : Nat → Int32) (k : Nat) (S1 : Sg) : Prop := ∀ a : Nat, a < k → R.ik a = 10 → ∃ n : Nat, iLv R S1 a n ∧ EqL R g S S1 a n
/-- leaves -/
theorem lvs6 (hD : RDI R) (hc : c ≤ 1990) (hW : wC R.im R.im g) (hE : ∀ a b : Nat, a < R.im → b < R.im → eD R S g a b) (hno : ∀ a : Nat, a < R.im → R.ik a ≠ 12 → noC R.im g a) {z : Int32} : ∀ (m k : Nat) {S1 : Sg}, R.im < k + m → k ≤ R.im → LVP R c nv S g z S1 → LQ9 R S g 100 S1 → LVD R S g k S1 → Rt (f_leaves_2 R.K m S1 (nI k)) (fun S2 _ => LVP R c nv S g z S2 ∧ LVD R S g R.im S2)
  | 0, k, _, h1, h2, _, _, _ => by omega
  | m + 1, k, S1, h1, h2, q1, hQ, hL => by
    have hD0 := hD.1
    have hb : ∀ a : Nat, hN g a R.im < 100 := fun a => by have := hN_le (f := g) (i := a) R.im; omega
    unfold f_leaves_2 f_leaves_35
    rw [q1.1.1.i12 hD, nI_1]
    refine Rt.it (fun w9 => ?_) (fun w9 => ?_)
    · have e : k = R.im := by have := (nI_leI (a := R.im) (b := k) (by omega) (by omega)).mp w9; omega
      subst e
      exact Rt.rt ⟨q1, hL⟩
    have hlt : k < R.im := by
      rcases Nat.lt_or_ge k R.im with z | z
      · exact z
      · exact absurd (nI_le z (by omega)) w9
    obtain ⟨b1, b2, b3, fs9, gs9, b4, b5, b6, b7, b8, b9, b10, b11⟩ := hD.ob q1.1.1 hlt
    refine Rt.bd (hD.it q1.1.1 hlt) (Rt.bd (oI_mk b2 b5 b11) (Rt.it (fun ek => ?_) (fun ek => lvs6 hD hc hW hE hno m (k + 1) (by omega) (by omega) q1 hQ (fun a ha hk => ?_))))
    · refine Rt.bd (hD.it q1.1.1 hlt) (Rt.bn (lvi_ hD hc hW hE 80 k S1 (by have := hN_le (f := g) (i := k) R.im; omega) hlt ek (hno k hlt (by rw [ek]; decide)) q1 (fun a ha hk _ => hQ a ha hk (hb a))) (fun S2 r q2 => ?_))
      obtain ⟨u1, u2, u3, u4, n, u5, u6⟩ := q2
      have hQ2 := hQ.up (hb k) u2 u3 u4
      refine lvs6 hD hc hW hE hno m (k + 1) (by omega) (by omega) u1 hQ2 (fun a ha hk => ?_)
      by_cases e : a = k
      · subst e
        obtain ⟨fs, v, v1, v2, v3⟩ := u2 a hlt hk (by omega)
        obtain ⟨⟨fs3, y1, y2, y3⟩, s3, y4, y5, y6⟩ := u6
        have e1 : fs = fs3 := (Prod.mk.inj (Sum.inr.inj (v1.symm.trans y1))).2
        subst e1
        rcases v3 with v3 | ⟨n2, r1, r2, r3⟩
        · have := nI_ij (b := 0) (Value.int.inj (Option.some.inj (y2.symm.trans (v2.trans (by rw [v3]; rfl))))) (by omega) (by omega)
          omega
        · exact ⟨n2, r2, r3⟩
      · obtain ⟨n2, r2, r3⟩ := hL a (by omega) hk
        exact ⟨n2, (u4 100).1 a n2 (by omega) (hb a) r2, r3.mo (u4 _)⟩
    · by_cases e : a = k
      · subst e; exact absurd hk ek
      · exact hL a (by omega) hk
end LVI
