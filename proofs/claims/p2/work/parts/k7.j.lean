/-- a variant's parts are typed -/
def PT (R : yR) (S1 : Sg) (i t : Nat) : Prop := ZF R.S t = .inr (17, [.int 0, .null, .null]) ∨ ∃ (wa ta mk : Nat) (ft : Nat → Option Nat), ZF R.S t = .inr (17, [.int (nI mk), .ref wa, .ref ta]) ∧ mk ≤ 12 ∧ cIt R i ta ∧ ta ∈ ZL R.S ∧ ZF R.S ta = .inl (R.K.1 4, 12, .inr (.inr (.inr (.inr (fun _ => none))))) ∧ ZF S1 ta = .inl (R.K.1 4, 12, .inr (.inr (.inr (.inr ft)))) ∧ ∀ l : Nat, l < mk → ∃ x : Nat, ft l = some x ∧ vTy S1 x
/-- the variants of item i -/
def EC (R : yR) (i mn vr : Nat) (fv : Nat → Option Nat) (pq : Nat → Nat) : Prop := (i < R.im ∧ R.ik i = 11 ∧ mn ≤ 12) ∧ (∀ fs : List Value, ZF R.S (R.ws i) = .inr (16, fs) → fs[3]? = some (.int (nI mn)) ∧ fs[11]? = some (.ref vr)) ∧ (vr ∈ ZL R.S ∧ ZF R.S vr = .inl (R.K.1 13, 13, .inr (.inr (.inr (.inr fv))))) ∧ (∀ j : Nat, j < mn → ∃ t p' q' : Nat, fv j = some t ∧ pq j ≤ p' ∧ q' ≤ pq (j + 1) ∧ isPa (iv (R.ws i) (R.ws (i + 1))) (ZF R.S) (Zr R.S 5) (R.K.1 12) (R.K.1 4) t p' q') ∧ (∀ j k t u ta : Nat, j < k → k < mn → fv j = some t → fv k = some u → taOf (ZF R.S) t ta → taOf (ZF R.S) u ta → False) ∧ (∀ j : Nat, j ≤ mn → pq 0 ≤ pq j ∧ pq j ≤ pq mn) ∧ pq mn ≤ R.T
/-- the first k variants are typed -/
def VV (R : yR) (S : Sg) (i k : Nat) (fv : Nat → Option Nat) (c nv : Nat) (pq : Nat → Nat) (S1 : Sg) : Prop := TS R (c + (pq k - pq 0)) nv S1 ∧ VX R (cY R i) S S1 ∧ (Zi S1 3 = 0 → ∀ j : Nat, j < k → ∃ t : Nat, fv j = some t ∧ PT R S1 i t)
section VRT
variable {R : yR} {c nv : Nat} {S : Sg}
theorem VV.fl {i k : Nat} {fv : Nat → Option Nat} {pq : Nat → Nat} {S1 : Sg} {wh x : Int32} (hw : ¬ wh = 0) (h : VV R S i k fv c nv pq S1) : VV R S i k fv c nv pq (flS S1 wh x) := ⟨h.1.fl, h.2.1.tr (VX.fl (X := cY R i)) (fun _ w => w), fun z => absurd z (flS_n0 hw)⟩
theorem PT.vx {i t : Nat} {X : Nat → Prop} {S1 S2 : Sg} (hV : VX R X S1 S2) (hX : ∀ ta : Nat, taOf (ZF R.S) t ta → ¬ X ta) (h : PT R S1 i t) : PT R S2 i t := by
  rcases h with h | ⟨wa, ta, mk, ft, h1, h2, h3, h4, h5, h6, h7⟩
  · exact Or.inl h
  · exact Or.inr ⟨wa, ta, mk, ft, h1, h2, h3, h4, h5, (hV.2.1 ta h4 (hX ta ⟨_, _, h1⟩)).trans h6, fun l hl => by obtain ⟨x, k1, k2⟩ := h7 l hl; exact ⟨x, k1, k2.im hV.2.2.2.1⟩⟩
/-- a variant -/
theorem it144 (hK : yRm R) (hD : RDI R) (hnv : nv ≤ 10000) {i mn vr k : Nat} {fv : Nat → Option Nat} {pq : Nat → Nat} (hC : EC R i mn vr fv pq) (hc : c + (pq mn - pq 0) ≤ 1990) {P : Sg → Unit → Prop} {k16 : Sg → Option Nat → Int32 → Option (Sg × Unit)} (hk16 : ∀ S2 : Sg, VV R S i (k + 1) fv c nv pq S2 → Rt (k16 S2 (some (R.ws i)) (nI (k + 1))) P) {S1 : Sg} (h : VV R S i k fv c nv pq S1) (hk : k < mn) : Rt (it33r R.K k16 S1 (some (R.ws i)) (nI k)) P := by
  obtain ⟨⟨hi, hik, hmn⟩, hfs, ⟨w1, w2⟩, hp, hdis, p2, p3⟩ := hC
  obtain ⟨t1, v1, g1⟩ := h
  have hT := t1.tb
  obtain ⟨t, p', q', k1, k2, k3, k4⟩ := hp k hk
  have m1 := (p2 k (by omega)).1; have m2 := (p2 (k + 1) (by omega)).2; have m3 := (p2 (k + 1) (by omega)).1
  have hiv := (hD.2.2.2.2 i hi).2.2.2.2
  obtain ⟨fsR, hwR, _⟩ := (hD.2.2.2.2 i hi).2.2.1
  have htR : t ∈ ZL R.S := hiv _ k4.1
  have hpq := k4.2.1
  -- how the item's fields are read
  have hit : ∀ {S2 : Sg} {c2 : Nat}, TS R c2 nv S2 → ∃ gs : List Value, R.ws i ∈ ZL S2 ∧ ZF S2 (R.ws i) = .inr (16, gs) ∧ gs[2]? = some (.int 11) ∧ gs[11]? = some (.ref vr) ∧ vr ∈ ZL S2 ∧ ZF S2 vr = .inl (R.K.1 13, 13, .inr (.inr (.inr (.inr fv)))) := fun {S2 c2} t2 => by
    obtain ⟨a1, a2, a3, fs, gs, a4, a5, a6, a7, a8, a9, a10, a11⟩ := hD.ob t2 hi
    exact ⟨gs, a2, a5, a11.trans (by rw [hik]), (a8 11 rfl).trans (hfs fs a4).2, t2.L w1, t2.rq w1 w2 k1⟩
  have hoe : ∀ {S2 : Sg} {c2 : Nat} {fs : List Value}, TS R c2 nv S2 → ZF R.S t = .inr (17, fs) → ZF S2 t = .inr (17, fs) := fun t2 e => t2.oe htR e (fun j => rfl)
  unfold it33r
  obtain ⟨gs, a1, a2, a3, a4, a5, a6⟩ := hit t1
  refine Rt.bd (oI_mk a1 a2 a3) (Rt.ip rfl ?_)
  rcases k4.2.2 with e0 | ⟨wa, ta, mk, q2, f, e0, b1, b2, b3, b4, b5, b6, rs, r1, r2, r3⟩
  · -- no parts
    unfold bigN f_itemTypes_144 f_itemTypes_197
    rw [nI_1]
    refine Rt.bd (oR_mk (v := some vr) a1 a2 a4) (Rt.bd (aQ_n a5 a6 (show k < 13 by omega) (by decide)) ?_)
    rw [k1]
    refine Rt.bd (oI_mk (t1.L htR) (hoe t1 e0) (v := 0) rfl) (Rt.ip (by decide) (hk16 S1 ⟨t1.up (by omega), v1, fun z j hj => ?_⟩))
    by_cases e : j = k
    · subst e; exact ⟨t, k1, Or.inl e0⟩
    · exact g1 z j (by omega)
  · have hta := hiv _ b3
    have hwa := hiv _ b2
    have hcta : cIt R i ta := iv_m.mp b3
    have hrm : ∀ l : Nat, l ≤ mk → rs 0 ≤ rs l ∧ rs l ≤ rs mk := by
      have hst : ∀ (d l : Nat), l + d ≤ mk → rs l ≤ rs (l + d) := by
        intro d
        induction d with
        | zero => exact fun l _ => Nat.le_refl _
        | succ d ih =>
          intro l hl
          obtain ⟨t9, p9, q9, _, z1, z2, z3⟩ := r3 (l + d) (by omega)
          have := isT_lt z3
          have := ih l (by omega)
          show rs l ≤ rs (l + d + 1)
          omega
      intro l hl
      have h1 := hst l 0 (by omega)
      have h2 := hst (mk - l) l (by omega)
      rw [Nat.zero_add] at h1
      rw [show l + (mk - l) = mk by omega] at h2
      exact ⟨h1, h2⟩
    suffices hloop : ∀ (m l : Nat) {S2 : Sg}, mk < l + m → l ≤ mk → TS R (c + (pq k - pq 0) + (rs l - rs 0)) nv S2 → VX R (cY R i) S S2 → (Zi S2 3 = 0 → (∀ j : Nat, j < k → ∃ t : Nat, fv j = some t ∧ PT R S2 i t) ∧ ∃ ft : Nat → Option Nat, ZF S2 ta = .inl (R.K.1 4, 12, .inr (.inr (.inr (.inr ft)))) ∧ ∀ j : Nat, j < l → ∃ x : Nat, ft j = some x ∧ vTy S2 x) → Rt (f_itemTypes_144 R.K k16 m S2 (some (R.ws i)) (nI k) (nI l)) P from
      hloop bigN 0 (by unfold bigN; omega) (Nat.zero_le _) (t1.up (by omega)) v1 (fun z => ⟨g1 z, by obtain ⟨ft, hft⟩ := t1.ro hta b5; exact ⟨ft, hft, fun j hj => absurd hj (by omega)⟩⟩)
    intro m
    induction m with
    | zero => intro l S2 h1 h2; omega
    | succ m ih =>
      intro l S2 hl1 hl2 t2 v2 g2
      obtain ⟨gs2, c1, c2, c3, c4, c5, c6⟩ := hit t2
      have ht := hoe t2 e0
      have hend : (Zi S2 3 = 0 → l = mk) → Rt (f_itemTypes_197 R.K k16 S2 (some (R.ws i)) (nI k)) P := fun hl => by
        unfold f_itemTypes_197
        rw [nI_1]
        have := (hrm l hl2).2
        refine hk16 S2 ⟨t2.up (by omega), v2, fun z j hj => ?_⟩
        obtain ⟨g3, ft, g4, g5⟩ := g2 z
        by_cases e : j = k
        · subst e
          exact ⟨t, k1, Or.inr ⟨wa, ta, mk, ft, e0, b1, hcta, hta, b5, g4, fun l9 h9 => g5 l9 (by rw [hl z]; exact h9)⟩⟩
        · exact g3 j (by omega)
      unfold f_itemTypes_144
      refine Rt.bd (oR_mk (v := some vr) c1 c2 c4) (Rt.bd (aQ_n c5 c6 (show k < 13 by omega) (by decide)) ?_)
      rw [k1]
      refine Rt.bd (oI_mk (t2.L htR) ht (v := nI mk) rfl) (Rt.it (fun w9 => hend (fun _ => ?_)) (fun w9 => ?_))
      · have := (nI_leI (a := mk) (b := l) (by omega) (by omega)).mp w9; omega
      have hlt : l < mk := by
        rcases Nat.lt_or_ge l mk with z | z
        · exact z
        · exact absurd (nI_le z (by omega)) w9
      refine Rt.ok (fun z2 => ?_) (fun z2 => hend (fun w => absurd w z2))
      obtain ⟨w, pw, qw, s1, s2, s3, s4⟩ := r3 l hlt
      have s4' : isT (ZL R.S) (ZF R.S) (Zr R.S 5) 17 w pw qw := isT_ex (fun a ha => ⟨hiv a ha, rfl⟩) s4
      have hlw := isT_lt s4
      have n1 := (hrm l hl2).1; have n2 := (hrm (l + 1) (by omega)).2; have n3 := (hrm (l + 1) (by omega)).1
      refine Rt.bd (oR_mk (v := some vr) c1 c2 c4) (Rt.bd (aQ_n c5 c6 (show k < 13 by omega) (by decide)) ?_)
      rw [k1]
      refine Rt.bd (oR_mk (v := some ta) (t2.L htR) ht rfl) (Rt.bd (oR_mk (v := some vr) c1 c2 c4) (Rt.bd (aQ_n c5 c6 (show k < 13 by omega) (by decide)) ?_))
      rw [k1]
      refine Rt.bd (oR_mk (v := some wa) (t2.L htR) ht rfl) (Rt.bd (aQ_n (t2.L hwa) (t2.rq hwa b4 s1) (show l < 12 by omega) (by decide)) ?_)
      rw [s1]
      refine Rt.bn (rsv_ hK hnv t2 (show 17 ≤ 20 by omega) s4' (by omega) (by omega)) (fun S3 r3' q3 => ?_)
      obtain ⟨x, e3, t3, v3, _, hx, gx⟩ := q3
      subst e3
      obtain ⟨ft, hft⟩ := t3.ro hta b5
      obtain ⟨kd9, ix9, o9, tt, x1, x2, x3, x4⟩ := hx
      refine Rt.bd (bQ_n (t3.L hta) hft (show l < 12 by omega) (by decide) (okO_mk (vs := _) x3 x4)) ?_
      rw [nI_1]
      have hcX : ∀ (k9 : Nat) (vs : List Value), ¬ ZF S3 ta = .inr (k9, vs) := fun k9 vs w => by rw [hft] at w; cases w
      have v34 : VX R (fun a => a = ta) S3 (UF S3 ta (.inl (R.K.1 4, 12, .inr (.inr (.inr (.inr (va_up ft l (some x)))))))) := VX.uf rfl (hcX 20) (hcX 21)
      refine ih (l + 1) (by omega) (by omega) ((t3.uf hta (cs_ro (f3 := va_up ft l (some x)) b5 (fun _ => rfl))).up (by omega)) ((v2.n v3).tr v34 (fun a e => e ▸ cY.ro hcta b5 (Or.inr rfl) hwR)) (fun z => ?_)
      have z3 : Zi S3 3 = 0 := z
      obtain ⟨g3, ft1, g4, g5⟩ := g2 (v3.2.2.2.2.2 z3)
      have e1 : ft1 = ft := by
        have := (v3.2.1 ta hta (fun w => w)).trans g4
        rw [hft] at this; cases this; rfl
      subst e1
      refine ⟨fun j hj => ?_, _, ZF_s, fun j hj => ?_⟩
      · obtain ⟨t9, i1, i2⟩ := g3 j hj
        exact ⟨t9, i1, (i2.vx v3 (fun _ _ w => w)).vx v34 (fun ta9 i3 e => by subst e; exact hdis j k t9 t ta9 hj hk i1 k1 i3 ⟨_, _, e0⟩)⟩
      · by_cases e : j = l
        · subst e
          exact ⟨x, va_up_self _ _ _, ((gx z3).2 rfl).im v34.2.2.2.1⟩
        · obtain ⟨x9, i1, i2⟩ := g5 j (by omega)
          exact ⟨x9, (va_up_ne _ _ e).trans i1, (i2.im v3.2.2.2.1).im v34.2.2.2.1⟩
end VRT
