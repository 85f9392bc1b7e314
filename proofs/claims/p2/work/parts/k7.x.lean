section SZI
variable {R : yR} {Pz : Int32 → Prop} {c nv : Nat} {S : Sg} {g : Nat → Int32}
/-- a struct has a field, an enum a variant -/
theorem RDI.m1 (hD : RDI R) {i mn : Nat} (hi : i < R.im) (hik : R.ik i ≠ 12) (hmn : mn ≤ 12) (h : ∀ fs : List Value, ZF R.S (R.ws i) = .inr (16, fs) → fs[3]? = some (.int (nI mn))) : 1 ≤ mn := by
  obtain ⟨_, ⟨_, _, _, mn9, na9, g9, _, _, c1, _, c2⟩, ⟨fs8, b1, b2⟩, _⟩ := hD.2.2.2.2 i hi
  have hb := h fs8 b1
  rcases c2 with ⟨wa, ta, q', f, c3, c4, _⟩ | ⟨vr, q', f, c3, c4, _⟩ | ⟨lv, wa, ta, pa, lf, lo, q', va, b, bl, rs, f, gl, c3, _⟩
  · have e := (Prod.mk.inj (Sum.inr.inj (b1.symm.trans c3))).2
    subst e
    have := nI_ij (Value.int.inj (Option.some.inj hb)) (by omega) (by omega)
    have := c4.2; omega
  · have e := (Prod.mk.inj (Sum.inr.inj (b1.symm.trans c3))).2
    subst e
    have := nI_ij (Value.int.inj (Option.some.inj hb)) (by omega) (by omega)
    have := c4.2; omega
  · have e := (Prod.mk.inj (Sum.inr.inj (b1.symm.trans c3))).2
    subst e
    exact absurd (Value.int.inj (Option.some.inj b2)).symm hik
/-- the size of item i, as far as its first k fields or variants tell it -/
def PrS (R : yR) (S S1 : Sg) (i k s : Nat) : Prop := ∃ fs : List Value, ZF S (R.ws i) = .inr (16, fs) ∧ s ≤ 13000 * k ∧
  ((R.ik i = 10 ∧ ∃ (ta : Nat) (f : Nat → Option Nat) (w : Nat → Nat), fs[10]? = some (.ref ta) ∧ ZF S ta = .inl (R.K.1 4, 13, .inr (.inr (.inr (.inr f)))) ∧ (∀ l : Nat, l < k → ∃ x : Nat, f l = some x ∧ tySz R S1 x (w l)) ∧ s = psN w k) ∨
   (R.ik i = 11 ∧ ∃ (vr : Nat) (fv : Nat → Option Nat), fs[11]? = some (.ref vr) ∧ ZF S vr = .inl (R.K.1 13, 13, .inr (.inr (.inr (.inr fv)))) ∧ (1 ≤ k → 1 ≤ s) ∧ ∀ l : Nat, l < k → ∃ (pa mk : Nat) (f : Nat → Option Nat) (w : Nat → Nat), fv l = some pa ∧ paY R S pa mk f ∧ (∀ l2 : Nat, l2 < mk → ∃ x : Nat, f l2 = some x ∧ tySz R S1 x (w l2)) ∧ 1 + psN w mk ≤ s))
theorem PrS.mo {S1 S2 : Sg} {i k s : Nat} (h : SM R S1 S2) (q : PrS R S S1 i k s) : PrS R S S2 i k s := by
  obtain ⟨fs, q1, q0, q2⟩ := q
  refine ⟨fs, q1, q0, ?_⟩
  rcases q2 with ⟨k1, ta, f, w, k2, k3, k4, k5⟩ | ⟨k1, vr, fv, k2, k3, k5, k4⟩
  · exact Or.inl ⟨k1, ta, f, w, k2, k3, fun k hk => by obtain ⟨x, x1, x2⟩ := k4 k hk; exact ⟨x, x1, x2.mo h⟩, k5⟩
  · refine Or.inr ⟨k1, vr, fv, k2, k3, k5, fun k hk => ?_⟩
    obtain ⟨pa, mk, f, w, j1, j2, j3, j4⟩ := k4 k hk
    exact ⟨pa, mk, f, w, j1, j2, fun l hl => by obtain ⟨x, x1, x2⟩ := j3 l hl; exact ⟨x, x1, x2.mo h⟩, j4⟩
theorem psN_1 {w : Nat → Nat} : ∀ {n : Nat}, 1 ≤ n → (∀ k : Nat, k < n → 1 ≤ w k) → 1 ≤ psN w n
  | 0, h, _ => absurd h (by omega)
  | n + 1, _, h => by
    show 1 ≤ psN w n + w n
    have := h n (by omega); omega
theorem psN_up {w : Nat → Nat} {k v : Nat} : psN (psU w k v) (k + 1) = psN w k + v := by
  show psN (psU w k v) k + psU w k v k = _
  rw [psU_s, psN_cg (w2 := w) (fun l hl => psU_n (by omega))]
theorem szEnd (hD : RDI R) {V : Sg → Option Nat → Option (Sg × Int32)} {S1 : Sg} {i s mn : Nat} (h : SI R Pz c nv S g S1) (hi : i < R.im) (h0 : ∃ fs : List Value, ZF S1 (R.ws i) = .inr (16, fs) ∧ fs[19]? = some (.int 0)) (hm1 : 1 ≤ mn) (hmn : mn ≤ 12) (hm3 : ∀ fs : List Value, ZF S (R.ws i) = .inr (16, fs) → fs[3]? = some (.int (nI mn))) (hp : PrS R S S1 i mn s) : Rt (if nI s ≤ 1000 then (f_sizeOfItem_126 R.K V S1 (some (R.ws i)) (nI s) (some (R.ws i))) else (f_sizeOfItem_126 R.K V S1 (some (R.ws i)) 1000 (some (R.ws i)))) (SZQ R Pz c nv S g i S1) := by
  obtain ⟨fs, q1, q0, q2⟩ := hp
  have hq : ∀ s2 : Nat, s ≤ s2 ∨ s2 = 1000 → EqS R S S1 i s2 := fun s2 hs => by
    refine ⟨fs, mn, q1, hm3 _ q1, hm1, hmn, ?_⟩
    rcases q2 with ⟨k1, ta, f, w, k2, k3, k4, k5⟩ | ⟨k1, vr, fv, k2, k3, _, k4⟩
    · exact Or.inl ⟨k1, ta, f, w, k2, k3, k4, by omega⟩
    · refine Or.inr ⟨k1, vr, fv, k2, k3, fun k hk => ?_⟩
      obtain ⟨pa, mk, f, w, j1, j2, j3, j4⟩ := k4 k hk
      exact ⟨pa, mk, f, w, j1, j2, j3, by omega⟩
  have hs1 : 1 ≤ s := by
    rcases q2 with ⟨k1, ta, f, w, k2, k3, k4, k5⟩ | ⟨k1, vr, fv, k2, k3, k5, _⟩
    · rw [k5]; exact psN_1 hm1 (fun k hk => by obtain ⟨x, _, x2⟩ := k4 k hk; exact x2.ps.1)
    · exact k5 hm1
  refine Rt.it (fun w => ?_) (fun w => ?_)
  · have := (nI_leI (a := s) (b := 1000) (by omega) (by omega)).mp w
    exact szi126 hD h hi this hs1 (hq s (Or.inl (Nat.le_refl _))) h0
  · exact szi126 hD (s := 1000) h hi (Nat.le_refl _) (by omega) (hq 1000 (Or.inr rfl)) h0
theorem szi16 (hD : RDI R) (hc : c ≤ 1990) (hW : wC R.im R.im g) (hE : ∀ a b : Nat, a < R.im → b < R.im → eD R S g a b) {V : Sg → Option Nat → Option (Sg × Int32)} {i : Nat} (hV : ∀ (j : Nat) (S1 : Sg), j < R.im → R.ik j ≠ 12 → noC R.im g j → hN g j R.im < hN g i R.im → SI R Pz c nv S g S1 → Rt (V S1 (some (R.ws j))) (SZQ R Pz c nv S g j S1)) (hi : i < R.im) (hik : R.ik i ≠ 12) (hno : noC R.im g i) {mn : Nat} (hm1 : 1 ≤ mn) (hmn : mn ≤ 12) (hm3 : ∀ fs : List Value, ZF R.S (R.ws i) = .inr (16, fs) → fs[3]? = some (.int (nI mn))) {S0 : Sg} (h0 : ∃ fs : List Value, ZF S0 (R.ws i) = .inr (16, fs) ∧ fs[19]? = some (.int 0)) : ∀ (m k s : Nat) {S1 : Sg}, mn < k + m → k ≤ mn → PrS R S S1 i k s → SI R Pz c nv S g S1 → SM R S0 S1 → SFr R g (hN g i R.im) S0 S1 → Rt (f_sizeOfItem_16 R.K V m S1 (some (R.ws i)) (nI s) (nI k)) (SZQ R Pz c nv S g i S0)
  | 0, k, s, _, h1, h2, _, _, _, _ => by omega
  | m + 1, k, s, S1, h1, h2, hs, h, hsm, hsf => by
    obtain ⟨b1, b2, b3, fs9, gs9, b4, b5, b6, b7, b8, b9, b10, b11⟩ := hD.ob h.1.1 hi
    have e3 : gs9[3]? = some (.int (nI mn)) := (b8 3 rfl).trans (hm3 _ b4)
    have h01 : ∃ fs : List Value, ZF S1 (R.ws i) = .inr (16, fs) ∧ fs[19]? = some (.int 0) := by
      obtain ⟨fs, z1, z2⟩ := h0
      exact ⟨fs, (hsf i hi (Nat.le_refl _)).trans z1, z2⟩
    obtain ⟨f0, w1, w2⟩ := h.1.2.2.2.1.io b5
    have hm3S : ∀ fs : List Value, ZF S (R.ws i) = .inr (16, fs) → fs[3]? = some (.int (nI mn)) := fun fs e => by
      have ee : f0 = fs := (Prod.mk.inj (Sum.inr.inj (w1.symm.trans e))).2
      rw [← ee, ← w2 3 (by decide)]; exact e3
    obtain ⟨a1, a2, fs, mn2, na, g9, a3, a4, a5, a6, a7, a8, a9, a10, a11⟩ := h.1.2.1 i hi
    have ee : gs9 = fs := (Prod.mk.inj (Sum.inr.inj (b5.symm.trans a3))).2
    subst ee
    have em : mn = mn2 := nI_ij (Value.int.inj (Option.some.inj (e3.symm.trans a5))) (by omega) (by omega)
    subst em
    unfold f_sizeOfItem_16
    refine Rt.bd (oI_mk b2 b5 e3) (Rt.it (fun w9 => ?_) (fun w9 => ?_))
    · have ek : k = mn := by have := (nI_leI (a := mn) (b := k) (by omega) (by omega)).mp w9; omega
      subst ek
      exact (szEnd hD h hi h01 hm1 hmn hm3S hs).mo (fun S2 r ⟨q1, q2, q3, q4⟩ => ⟨q1, hsm.tr q2, (hsf.mo (Nat.le_succ _)).tr q3, q4⟩)
    have hlt : k < mn := by
      rcases Nat.lt_or_ge k mn with z | z
      · exact z
      · exact absurd (nI_le z (by omega)) w9
    have hgo : ∀ (S2 : Sg) (s2 : Nat), PrS R S S2 i (k + 1) s2 → SI R Pz c nv S g S2 → SM R S1 S2 → SFr R g (hN g i R.im) S1 S2 → Rt (f_sizeOfItem_16 R.K V m S2 (some (R.ws i)) (nI s2) (nI (k + 1))) (SZQ R Pz c nv S g i S0) := fun S2 s2 hs2 q2 q3 q4 => szi16 hD hc hW hE hV hi hik hno hm1 hmn hm3 h0 m (k + 1) s2 (by omega) (by omega) hs2 q2 (hsm.tr q3) (hsf.tr q4)
    refine Rt.bd (oI_mk b2 b5 b11) ?_
    rcases a11 with ⟨k1, ta, f, k2, k3⟩ | ⟨k1, vr, fv, k2, k3, k4, k5⟩ | ⟨k1, _⟩
    · rw [k1]
      obtain ⟨x, x1, x2⟩ := k3.2.2 k hlt
      obtain ⟨kd, ix, o, hx, _⟩ := x2.ty
      refine Rt.ip rfl (Rt.bd (oR_mk (v := some ta) b2 b5 k2) (Rt.bd (aQ_n (h.1.1.L k3.1.1) k3.2.1 (show k < 13 by omega) (by decide)) ?_))
      rw [x1]
      refine Rt.bn (szo_ hD hc hW hE hV h hi hik hno ⟨_, mn, b5, e3, hmn, Or.inl ⟨k1, ta, k, f, k2, k3.2.1, hlt, x1⟩⟩ hx) (fun S2 r q => ?_)
      obtain ⟨q1, q2, q3, s2, q4, q5⟩ := q
      unfold f_sizeOfItem_105
      rw [q4, nI_add, nI_1]
      refine hgo S2 _ ?_ q1 q2 q3
      obtain ⟨fs7, y1, y0, y2⟩ := hs.mo q2
      have e7 : f0 = fs7 := (Prod.mk.inj (Sum.inr.inj (w1.symm.trans y1))).2
      subst e7
      have hps := q5.ps
      refine ⟨f0, w1, by omega, ?_⟩
      rcases y2 with ⟨_, ta2, f2, w, j2, j3, j4, j5⟩ | ⟨y2, _⟩
      · have et : ta2 = ta := Value.ref.inj (Option.some.inj (j2.symm.trans ((w2 10 (by decide)).symm.trans k2)))
        subst et
        have ef : f2 = f := Sum.inr.inj (Sum.inr.inj (Sum.inr.inj (Sum.inr.inj (Prod.mk.inj (Prod.mk.inj (Sum.inl.inj (j3.symm.trans (h.1.2.2.2.1.ro k3.2.1)))).2).2)))
        subst ef
        refine Or.inl ⟨k1, ta2, f2, psU w k s2, j2, j3, fun l hl => ?_, by rw [psN_up, ← j5]⟩
        by_cases el : l = k
        · subst el; exact ⟨x, x1, by rw [psU_s]; exact q5⟩
        · obtain ⟨x9, i1, i2⟩ := j4 l (by omega)
          exact ⟨x9, i1, by rw [psU_n el]; exact i2⟩
      · rw [k1] at y2; exact absurd y2 (by decide)
    · rw [k1]
      refine Rt.iq (by decide) ?_
      obtain ⟨pa, mk, f, p1, p3⟩ := k5 k hlt
      have hpS : paY R S pa mk f := p3.wi h.1.2.2.2.1
      have hmkr : mk ≤ 12 := by
        rcases p3.2 with ⟨_, e⟩ | ⟨_, _, _, e, _⟩ <;> omega
      -- a variant's parts
      suffices hloop : ∀ (m2 l s4 : Nat) (w : Nat → Nat) {S2 : Sg}, mk < l + m2 → l ≤ mk → s4 = 1 + psN w l → s4 ≤ 1 + 1000 * l → (∀ l2 : Nat, l2 < l → ∃ x : Nat, f l2 = some x ∧ tySz R S2 x (w l2)) → SI R Pz c nv S g S2 → SM R S1 S2 → SFr R g (hN g i R.im) S1 S2 → Rt (f_sizeOfItem_55 R.K V (f_sizeOfItem_16 R.K V m) m2 S2 (some (R.ws i)) (nI s) (nI k) (nI s4) (nI l)) (SZQ R Pz c nv S g i S0) from hloop bigN 0 1 (fun _ => 0) (by unfold bigN; omega) (by omega) rfl (by omega) (fun l hl => absurd hl (by omega)) h SM.rf SFr.rf
      intro m2
      induction m2 with
      | zero => intro l s4 w S2 h1 h2; omega
      | succ m2 ih =>
        intro l s4 w S2 hl1 hl2 hs4 hs5 hw q2 q3 q4
        obtain ⟨_, d2, _, fs8, gs8, d4, d5, _, _, d8, _, _, d11⟩ := hD.ob q2.1.1 hi
        have e8 : gs8[3]? = some (.int (nI mn)) := (d8 3 rfl).trans (hm3 _ d4)
        have hVX : WI R S S2 := q2.1.2.2.2.1
        obtain ⟨f02, w12, w22⟩ := hVX.io d5
        have ef0 : f0 = f02 := (Prod.mk.inj (Sum.inr.inj (w1.symm.trans w12))).2
        subst ef0
        have y2 : gs8[11]? = some (.ref vr) := (w22 11 (by decide)).trans ((w2 11 (by decide)).symm.trans k2)
        have hro : ∀ {a n : Nat} {kc : ClassId} {f : vRw}, ZF S1 a = .inl (kc, n, f) → ZF S2 a = .inl (kc, n, f) := fun {a n kc f} e => by
          rcases hVX.1 a with w | ⟨_, gs, g1, _, _, w, _⟩
          · rw [w]; exact h.1.2.2.2.1.ro e
          · rw [h.1.2.2.2.1.ro e] at w; cases w
        have hpa : ∀ {a : Nat} {ys : List Value}, ZF S1 a = .inr (17, ys) → ZF S2 a = .inr (17, ys) := fun {a ys} e => by
          rcases hVX.1 a with w | ⟨_, gs, g1, _, _, w, _⟩
          · rw [w]; exact h.1.2.2.2.1.pa e
          · rw [h.1.2.2.2.1.pa e] at w; cases w
        have y4 := hro k4
        have hmkr2 : ∃ ys : List Value, ZF S2 pa = .inr (17, ys) ∧ ys[0]? = some (.int (nI mk)) := by
          rcases p3.2 with ⟨p3, p4⟩ | ⟨wa, ta, p3, p4, p5⟩
          · exact ⟨_, hpa p3, by rw [p4]; rfl⟩
          · exact ⟨_, hpa p3, rfl⟩
        obtain ⟨ys, r1, r2⟩ := hmkr2
        have hpaL := q2.1.1.L p3.1.1
        unfold f_sizeOfItem_55
        refine Rt.bd (oR_mk (v := some vr) d2 d5 y2) (Rt.bd (aQ_n (q2.1.1.L k3.1) y4 (show k < 13 by omega) (by decide)) ?_)
        rw [p1]
        unfold f_sizeOfItem_105
        rw [nI_1 (a := k)]
        refine Rt.bd (oI_mk hpaL r1 r2) (Rt.it (fun w9 => ?_) (fun w9 => ?_))
        · have el : l = mk := by have := (nI_leI (a := mk) (b := l) (by omega) (by omega)).mp w9; omega
          subst el
          have hnew : ∀ s2 : Nat, s ≤ s2 → s4 ≤ s2 → s2 ≤ 13000 * (k + 1) → PrS R S S2 i (k + 1) s2 := fun s2 u1 u2 u3 => by
            obtain ⟨fs7, i1, i0, i2⟩ := hs.mo q3
            refine ⟨fs7, i1, u3, ?_⟩
            rcases i2 with ⟨i2, _⟩ | ⟨_, vr2, fv2, j2, j3, j5, j4⟩
            · rw [k1] at i2; exact absurd i2 (by decide)
            · have e7 : f0 = fs7 := (Prod.mk.inj (Sum.inr.inj (w1.symm.trans i1))).2
              subst e7
              have et : vr2 = vr := Value.ref.inj (Option.some.inj (j2.symm.trans ((w2 11 (by decide)).symm.trans k2)))
              subst et
              have ef : fv2 = fv := Sum.inr.inj (Sum.inr.inj (Sum.inr.inj (Sum.inr.inj (Prod.mk.inj (Prod.mk.inj (Sum.inl.inj (j3.symm.trans (h.1.2.2.2.1.ro k4)))).2).2)))
              subst ef
              refine Or.inr ⟨k1, vr2, fv2, j2, j3, fun _ => by omega, fun l9 hl9 => ?_⟩
              by_cases e9 : l9 = k
              · subst e9; exact ⟨pa, l, f, w, p1, hpS, hw, by omega⟩
              · obtain ⟨pa9, mk9, f9, w9, t1, t2, t3, t4⟩ := j4 l9 (by omega)
                exact ⟨pa9, mk9, f9, w9, t1, t2, t3, by omega⟩
          obtain ⟨_, _, i0, _⟩ := hs
          refine Rt.it (fun w8 => ?_) (fun w8 => ?_)
          · have := (nI_leI (a := s4) (b := s) (by omega) (by omega)).mp w8
            exact hgo S2 s (hnew s (Nat.le_refl _) this (by omega)) q2 q3 q4
          · have : s ≤ s4 := by
              rcases Nat.lt_or_ge s s4 with z | z
              · omega
              · exact absurd (nI_le z (by omega)) w8
            exact hgo S2 s4 (hnew s4 this (Nat.le_refl _) (by omega)) q2 q3 q4
        have hl : l < mk := by
          rcases Nat.lt_or_ge l mk with z | z
          · exact z
          · exact absurd (nI_le z (by omega)) w9
        rcases p3.2 with ⟨_, p4⟩ | ⟨wa, ta, p5, p4, p6⟩
        · omega
        obtain ⟨x, x1, x2⟩ := p6.2.2 l hl
        obtain ⟨kd, ix, o, hx, _⟩ := x2.ty
        refine Rt.bd (oR_mk (v := some vr) d2 d5 y2) (Rt.bd (aQ_n (q2.1.1.L k3.1) y4 (show k < 13 by omega) (by decide)) ?_)
        rw [p1]
        refine Rt.bd (oR_mk (v := some ta) hpaL (hpa p5) rfl) (Rt.bd (aQ_n (q2.1.1.L p6.1.1) (hro p6.2.1) (show l < 12 by omega) (by decide)) ?_)
        rw [x1]
        refine Rt.bn (szo_ hD hc hW hE hV q2 hi hik hno ⟨_, mn, d5, e8, hmn, Or.inr ⟨k1, vr, k, pa, wa, ta, mk, l, fv, f, y2, y4, hlt, p1, hpa p5, p4, hro p6.2.1, hl, x1⟩⟩ (q3.2 _ _ _ _ hx)) (fun S3 r q => ?_)
        obtain ⟨u1, u2, u3, s2, u4, u5⟩ := q
        rw [u4, nI_add, nI_1]
        have hps := u5.ps
        refine ih (l + 1) (s4 + s2) (psU w l s2) (by omega) (by omega) (by rw [psN_up]; omega) (by omega) (fun l2 hl2 => ?_) u1 (q3.tr u2) (q4.tr u3)
        by_cases el : l2 = l
        · subst el; exact ⟨x, x1, by rw [psU_s]; exact u5⟩
        · obtain ⟨x9, i1, i2⟩ := hw l2 (by omega)
          exact ⟨x9, i1, by rw [psU_n el]; exact i2.mo u2⟩
    · exact absurd k1 hik
/-- sizeOfItem -/
theorem szi_ (hD : RDI R) (hc : c ≤ 1990) (hW : wC R.im R.im g) (hE : ∀ a b : Nat, a < R.im → b < R.im → eD R S g a b) : ∀ (d i : Nat) (S1 : Sg), hN g i R.im < d → i < R.im → R.ik i ≠ 12 → noC R.im g i → SI R Pz c nv S g S1 → Rt (f_sizeOfItem R.K d S1 (some (R.ws i))) (SZQ R Pz c nv S g i S1)
  | 0, i, S1, h1, _, _, _, _ => by omega
  | d + 1, i, S1, h1, hi, hik, hno, h => by
    obtain ⟨b1, b2, b3, fs9, gs9, b4, b5, b6, b7, b8, b9, b10, b11⟩ := hD.ob h.1.1 hi
    obtain ⟨fs, s, v, k1, k2, k3, _⟩ := h.2 i hi
    have hm : ∃ mn : Nat, mn ≤ 12 ∧ ∀ fs : List Value, ZF R.S (R.ws i) = .inr (16, fs) → fs[3]? = some (.int (nI mn)) := by
      obtain ⟨a1, a2, fs, mn2, na, g9, a3, a4, a5, a6, _⟩ := h.1.2.1 i hi
      refine ⟨mn2, a6, fun fs0 e => ?_⟩
      have ee : gs9 = fs := (Prod.mk.inj (Sum.inr.inj (b5.symm.trans a3))).2
      subst ee
      have e0 : fs9 = fs0 := (Prod.mk.inj (Sum.inr.inj (b4.symm.trans e))).2
      subst e0
      exact (b8 3 rfl).symm.trans a5
    obtain ⟨mn, m1, m2⟩ := hm
    have hmn1 := hD.m1 hi hik m1 m2
    unfold f_sizeOfItem
    refine Rt.bd (oI_mk b2 k1 k2) (Rt.it (fun w => ?_) (fun w => Rt.bd (oI_mk b2 k1 k2) (Rt.rt ⟨h, SM.rf, SFr.rf, s, rfl, fs, k1, k2, ?_, k3⟩)))
    · have es : s = 0 := by have := (nI_leI (a := s) (b := 0) (by omega) (by omega)).mp w; omega
      subst es
      have h0 : PrS R S S1 i 0 0 := by
        obtain ⟨f0, w1, w2⟩ := h.1.2.2.2.1.io b5
        obtain ⟨a1, a2, fs3, mn2, na, g9, a3, a4, a5, a6, a7, a8, a9, a10, a11⟩ := h.1.2.1 i hi
        have ee : gs9 = fs3 := (Prod.mk.inj (Sum.inr.inj (b5.symm.trans a3))).2
        subst ee
        refine ⟨f0, w1, by omega, ?_⟩
        rcases a11 with ⟨j1, ta, f, j2, j3⟩ | ⟨j1, vr, fv, j2, j3, j4, j5⟩ | ⟨j1, _⟩
        · exact Or.inl ⟨j1, ta, f, fun _ => 0, (w2 10 (by decide)).symm.trans j2, h.1.2.2.2.1.ro j3.2.1, fun l hl => absurd hl (by omega), rfl⟩
        · exact Or.inr ⟨j1, vr, fv, (w2 11 (by decide)).symm.trans j2, h.1.2.2.2.1.ro j4, fun z => absurd z (by omega), fun l hl => absurd hl (by omega)⟩
        · exact absurd j1 hik
      exact szi16 hD hc hW hE (fun j S2 hj hjk hjn hjm q2 => szi_ hD hc hW hE d j S2 (by omega) hj hjk hjn q2) hi hik hno hmn1 m1 m2 ⟨fs, k1, k2⟩ bigN 0 0 (by unfold bigN; omega) (Nat.zero_le _) h0 h SM.rf SFr.rf
    · rcases Nat.eq_zero_or_pos s with z | z
      · subst z; exact absurd (nI_le (a := 0) (b := 0) (Nat.le_refl _) (by omega)) w
      · exact z
end SZI
