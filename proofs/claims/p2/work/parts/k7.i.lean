/-- the fields or parameters of item i: their written types f, rows, tokens -/
def FC (R : yR) (i : Nat) (kd mb : Int32) (mn wa ta lo lv lf : Nat) (gl : Nat → Int32) (f : Nat → Option Nat) (pq : Nat → Nat) : Prop := (i < R.im ∧ R.ik i = kd ∧ ((kd = 10 ∧ mb = 0) ∨ (kd = 12 ∧ mb = 1)) ∧ mn ≤ 12) ∧ (∀ fs : List Value, ZF R.S (R.ws i) = .inr (16, fs) → fs[3]? = some (.int (nI mn)) ∧ fs[9]? = some (.ref wa) ∧ fs[10]? = some (.ref ta)) ∧ (wa ∈ ZL R.S ∧ ZF R.S wa = .inl (R.K.1 12, 13, .inr (.inr (.inr (.inr f))))) ∧ (ta ∈ ZL R.S ∧ cIt R i ta ∧ ZF R.S ta = .inl (R.K.1 4, 13, .inr (.inr (.inr (.inr (fun _ => none)))))) ∧ ((∀ j : Nat, j < mn → ∃ t p' q' : Nat, f j = some t ∧ pq j ≤ p' ∧ q' ≤ pq (j + 1) ∧ isT (ZL R.S) (ZF R.S) (Zr R.S 5) 17 t p' q') ∧ (∀ j : Nat, j ≤ mn → pq 0 ≤ pq j ∧ pq j ≤ pq mn) ∧ pq mn ≤ R.T) ∧ (kd = 12 → lo ∈ ZL R.S ∧ cIt R i lo ∧ ZF R.S lo = .inl (R.K.1 0, 13, .inl (fun _ => 0)) ∧ (∀ fs : List Value, ZF R.S (R.ws i) = .inr (16, fs) → fs[13]? = some (.ref lo)) ∧ ∀ (S : Sg) (c nv : Nat), TS R c nv S → LV R S (R.ws i) lv lf gl)
/-- the first k are typed -/
def FV (R : yR) (S : Sg) (i : Nat) (kd mb : Int32) (ta lo k : Nat) (c nv : Nat) (pq : Nat → Nat) (S1 : Sg) : Prop := TS R (c + (pq k - pq 0)) nv S1 ∧ VX R (cY R i) S S1 ∧ (Zi S1 3 = 0 → (∃ ft : Nat → Option Nat, ZF S1 ta = .inl (R.K.1 4, 13, .inr (.inr (.inr (.inr ft)))) ∧ ∀ j : Nat, j < k → ∃ x : Nat, ft j = some x ∧ rTy S1 x ∧ (mb = 0 → vTy S1 x)) ∧ (kd = 12 → ∃ go : Nat → Int32, ZF S1 lo = .inl (R.K.1 0, 13, .inl go) ∧ ∀ j : Nat, j < k → (go j = -1 ∨ ∃ l : Nat, l < 8 ∧ go j = nI l)))
section FLD
variable {R : yR} {c nv : Nat} {S : Sg}
theorem FV.fl {i ta lo k : Nat} {kd mb : Int32} {pq : Nat → Nat} {S1 : Sg} {wh x : Int32} (hw : ¬ wh = 0) (h : FV R S i kd mb ta lo k c nv pq S1) : FV R S i kd mb ta lo k c nv pq (flS S1 wh x) := ⟨h.1.fl, h.2.1.tr (VX.fl (X := cY R i)) (fun _ w => w), fun z => absurd z (flS_n0 hw)⟩
/-- a field, or a parameter -/
theorem it109 (hK : yRm R) (hD : RDI R) (hnv : nv ≤ 10000) {i mn wa ta lo lv lf k : Nat} {kd mb : Int32} {gl : Nat → Int32} {f : Nat → Option Nat} {pq : Nat → Nat} (hC : FC R i kd mb mn wa ta lo lv lf gl f pq) (hc : c + (pq mn - pq 0) ≤ 1990) {P : Sg → Unit → Prop} {k16 : Sg → Option Nat → Int32 → Option (Sg × Unit)} (hk16 : ∀ S2 : Sg, FV R S i kd mb ta lo (k + 1) c nv pq S2 → Rt (k16 S2 (some (R.ws i)) (nI (k + 1))) P) {S1 : Sg} (h : FV R S i kd mb ta lo k c nv pq S1) (hk : k < mn) : Rt (it33r R.K k16 S1 (some (R.ws i)) (nI k)) P := by
  obtain ⟨⟨hi, hik, hkm, hmn⟩, hfs, ⟨w1, w2⟩, ⟨y1, y2, y3⟩, ⟨p1, p2, p3⟩, hlo⟩ := hC
  obtain ⟨t1, v1, g1⟩ := h
  have hT := t1.tb
  obtain ⟨a1, a2, a3, fs, gs, a4, a5, a6, a7, a8, a9, a10, a11⟩ := hD.ob t1 hi
  obtain ⟨f3, f9, f10⟩ := hfs fs a4
  obtain ⟨t, p', q', k1, k2, k3, k4⟩ := p1 k hk
  have hlt := isT_lt k4
  have m1 := (p2 k (by omega)).1; have m2 := (p2 (k + 1) (by omega)).2; have m3 := (p2 (k + 1) (by omega)).1
  have hk11 : ¬ kd = 11 := by rcases hkm with ⟨e, _⟩ | ⟨e, _⟩ <;> rw [e] <;> decide
  have hrw := t1.rq w1 w2 k1
  -- what comes behind
  have hgo : Rt (f_itemTypes_109 R.K k16 S1 (some (R.ws i)) (nI k) mb (some t) (nI k) (some ta)) P := by
    unfold f_itemTypes_109
    refine Rt.bn (rsv_ hK hnv t1 (show 17 ≤ 20 by omega) k4 (by omega) (by omega)) (fun S2 r2 q2 => ?_)
    obtain ⟨x, e2, t2, v2, s2, hx, gx⟩ := q2
    subst e2
    obtain ⟨ft, hft⟩ := t2.ro y1 y3
    obtain ⟨kd9, ix9, o9, tt, x1, x2, x3, x4⟩ := hx
    refine Rt.bd (bQ_n (t2.L y1) hft (show k < 13 by omega) (by decide) (okO_mk (vs := _) x3 x4)) ?_
    have hcX : ∀ (k9 : Nat) (vs : List Value), ¬ ZF S2 ta = .inr (k9, vs) := fun k9 vs w => by rw [hft] at w; cases w
    have t3 : TS R (c + (pq (k + 1) - pq 0)) nv (UF S2 ta (.inl (R.K.1 4, 13, .inr (.inr (.inr (.inr (va_up ft k (some x)))))))) := (t2.uf y1 (cs_ro (f3 := va_up ft k (some x)) y3 (fun _ => rfl))).up (by omega)
    have v3 : VX R (cY R i) S (UF S2 ta (.inl (R.K.1 4, 13, .inr (.inr (.inr (.inr (va_up ft k (some x)))))))) := (v1.n v2).tr (VX.uf (X := cY R i) (cY.ro y2 y3 (Or.inr rfl) a4) (hcX 20) (hcX 21)) (fun _ w => w)
    have v23 : VX R (cY R i) S2 (UF S2 ta (.inl (R.K.1 4, 13, .inr (.inr (.inr (.inr (va_up ft k (some x)))))))) := VX.uf (cY.ro y2 y3 (Or.inr rfl) a4) (hcX 20) (hcX 21)
    have g3 : Zi (UF S2 ta (.inl (R.K.1 4, 13, .inr (.inr (.inr (.inr (va_up ft k (some x)))))))) 3 = 0 → (∃ ft2 : Nat → Option Nat, ZF (UF S2 ta (.inl (R.K.1 4, 13, .inr (.inr (.inr (.inr (va_up ft k (some x)))))))) ta = .inl (R.K.1 4, 13, .inr (.inr (.inr (.inr ft2)))) ∧ ∀ j : Nat, j < k + 1 → ∃ x9 : Nat, ft2 j = some x9 ∧ rTy (UF S2 ta (.inl (R.K.1 4, 13, .inr (.inr (.inr (.inr (va_up ft k (some x)))))))) x9 ∧ (mb = 0 → vTy (UF S2 ta (.inl (R.K.1 4, 13, .inr (.inr (.inr (.inr (va_up ft k (some x)))))))) x9)) ∧ (kd = 12 → ∃ go : Nat → Int32, ZF (UF S2 ta (.inl (R.K.1 4, 13, .inr (.inr (.inr (.inr (va_up ft k (some x)))))))) lo = .inl (R.K.1 0, 13, .inl go) ∧ ∀ j : Nat, j < k → (go j = -1 ∨ ∃ l : Nat, l < 8 ∧ go j = nI l)) := fun z => by
      have z2 : Zi S2 3 = 0 := z
      obtain ⟨⟨ft1, r1, r2⟩, r3⟩ := g1 (v2.2.2.2.2.2 z2)
      have e1 : ft1 = ft := by
        have := (v2.2.1 ta y1 (fun w => w)).trans r1
        rw [hft] at this; cases this; rfl
      subst e1
      refine ⟨⟨_, ZF_s, fun j hj => ?_⟩, fun ek => ?_⟩
      · by_cases e : j = k
        · subst e
          exact ⟨x, va_up_self _ _ _, (gx z2).1.im v23.2.2.2.1, fun m0 => ((gx z2).2 m0).im v23.2.2.2.1⟩
        · obtain ⟨x9, r4, r5, r6⟩ := r2 j (by omega)
          exact ⟨x9, (va_up_ne _ _ e).trans r4, (r5.im v2.2.2.2.1).im v23.2.2.2.1, fun m0 => ((r6 m0).im v2.2.2.2.1).im v23.2.2.2.1⟩
      · obtain ⟨go, r7, r8⟩ := r3 ek
        obtain ⟨l1, l2, l3, l4, l5⟩ := hlo ek
        exact ⟨go, (ZF_n (fun e => by rw [e, y3] at l3; exact absurd (Prod.mk.inj (Prod.mk.inj (Sum.inl.inj l3)).2).2 (fun w => by cases w))).trans ((v2.2.1 lo l1 (fun w => w)).trans r7), r8⟩
    revert t3 v3 g3
    generalize UF S2 ta (.inl (R.K.1 4, 13, .inr (.inr (.inr (.inr (va_up ft k (some x))))))) = S3
    intro t3 v3 g3
    obtain ⟨b1, b2, b3, fs9, gs9, b4, b5, b6, b7, b8, b9, b10, b11⟩ := hD.ob t3 hi
    have e9 : fs9 = fs := (Prod.mk.inj (Sum.inr.inj (b4.symm.trans a4))).2
    subst e9
    unfold f_itemTypes_197
    rw [nI_1]
    refine Rt.bd (oI_mk b2 b5 (b11.trans (by rw [hik]))) (Rt.it (fun ek => ?_) (fun ek => hk16 S3 ⟨t3, v3, fun z => ⟨(g3 z).1, fun ek2 => absurd ek2 ek⟩⟩))
    obtain ⟨l1, l2, l3, l4, l5⟩ := hlo ek
    refine Rt.bd (oR_mk (v := some lo) b2 b5 ((b8 13 rfl).trans (l4 _ b4))) (Rt.bd (oR_mk (v := some wa) b2 b5 ((b8 9 rfl).trans f9)) (Rt.bd (aQ_n (t3.L w1) (t3.rq w1 w2 k1) (show k < 13 by omega) (by decide)) ?_))
    rw [k1]
    refine Rt.bn (lfi_ t3 (l5 S3 _ _ t3) k4 (by omega)) (fun S4 r4 q4 => ?_)
    obtain ⟨⟨t4, v4, s4⟩, q4⟩ := q4
    obtain ⟨go4, hgo4⟩ := t4.rj l1 l3
    refine Rt.bd (bI_n (t4.L l1) hgo4 (show k < 13 by omega) (by decide)) (hk16 _ ⟨t4.uf l1 (cs_ri (f3 := upd go4 k r4) l3 (fun _ => rfl)), ?_, fun z => ?_⟩)
    · exact (v3.n v4).tr (VX.uf (X := cY R i) (cY.ro l2 l3 (Or.inl rfl) a4) (fun vs w => by rw [hgo4] at w; cases w) (fun vs w => by rw [hgo4] at w; cases w)) (fun _ w => w)
    · have z4 : Zi S4 3 = 0 := z
      have v45 : VX R (cY R i) S4 (UF S4 lo (.inl (R.K.1 0, 13, .inl (upd go4 k r4)))) := VX.uf (cY.ro l2 l3 (Or.inl rfl) a4) (fun vs w => by rw [hgo4] at w; cases w) (fun vs w => by rw [hgo4] at w; cases w)
      obtain ⟨⟨ft3, r1, r2⟩, r3⟩ := g3 (v4.2.2.2.2.2 z4)
      obtain ⟨go, r7, r8⟩ := r3 ek
      have e1 : go = go4 := by
        have := (v4.2.1 lo l1 (fun w => w)).trans r7
        rw [hgo4] at this; cases this; rfl
      subst e1
      refine ⟨⟨ft3, (ZF_n (fun e => by rw [e, l3] at y3; exact absurd (Prod.mk.inj (Prod.mk.inj (Sum.inl.inj y3)).2).2 (fun w => by cases w))).trans ((v4.2.1 ta y1 (fun w => w)).trans r1), fun j hj => ?_⟩, fun _ => ⟨_, ZF_s, fun j hj => ?_⟩⟩
      · obtain ⟨x9, r4, r5, r6⟩ := r2 j hj
        exact ⟨x9, r4, (r5.im v4.2.2.2.1).im v45.2.2.2.1, fun m0 => ((r6 m0).im v4.2.2.2.1).im v45.2.2.2.1⟩
      · by_cases e : j = k
        · subst e
          rw [show upd go j r4 j = r4 from if_pos rfl]
          exact q4
        · rw [show upd go k r4 j = go j from if_neg e]
          exact r8 j (by omega)
  unfold it33r
  refine Rt.bd (oI_mk a2 a5 (a11.trans (by rw [hik]))) (Rt.iq hk11 ?_)
  refine Rt.bd (oR_mk (v := some ta) a2 a5 ((a8 10 rfl).trans f10)) (Rt.bd (oR_mk (v := some wa) a2 a5 ((a8 9 rfl).trans f9)) (Rt.bd (aQ_n (t1.L w1) hrw (show k < 13 by omega) (by decide)) (Rt.bd (oI_mk a2 a5 (a11.trans (by rw [hik]))) ?_)))
  rw [k1]
  rcases hkm with ⟨e1, e2⟩ | ⟨e1, e2⟩
  · subst e2
    exact Rt.iq (by rw [e1]; decide) hgo
  · subst e2
    exact Rt.ip e1 hgo
end FLD
