/-- behind the typing of item i -/
def ItR (R : yR) (c nv : Nat) (S : Sg) (i : Nat) (S2 : Sg) : Prop := ∃ c2 : Nat, c2 ≤ c + (R.ms i - R.ps i) ∧ TS R c2 nv S2 ∧ VX R (cX R i) S S2 ∧ (Zi S2 3 = 0 → ItZ R S2 i) ∧ K20 R S i S2
section IT16
variable {R : yR} {c nv : Nat} {S : Sg}
theorem it16_ (hD : RDI R) {i mn na : Nat} {g : Nat → Int32} {I : Nat → Sg → Prop} {P : Sg → Unit → Prop} (hi : i < R.im) (hI1 : ∀ (k : Nat) (S1 : Sg), I k S1 → ∃ c1 : Nat, TS R c1 nv S1) (hIf : ∀ (k : Nat) (S1 : Sg) (x : Int32), I k S1 → I k (flS S1 3 x)) (hst : ∀ (k : Nat) (S1 : Sg) (k16 : Sg → Option Nat → Int32 → Option (Sg × Unit)), k < mn → (∀ S2 : Sg, I (k + 1) S2 → Rt (k16 S2 (some (R.ws i)) (nI (k + 1))) P) → I k S1 → Rt (it33r R.K k16 S1 (some (R.ws i)) (nI k)) P) (hen : ∀ (k : Nat) (S1 : Sg), k ≤ mn → I k S1 → (Zi S1 3 = 0 → k = mn) → Rt (f_itemTypes_203 R.K S1 (some (R.ws i))) P) (hna : na ∈ ZL R.S) (hnR : ZF R.S na = .inl (R.K.1 0, 13, .inl g)) (hfs : ∀ fs : List Value, ZF R.S (R.ws i) = .inr (16, fs) → fs[3]? = some (.int (nI mn)) ∧ fs[8]? = some (.ref na)) (hmn : mn ≤ 12) (hgn : ∀ j : Nat, j < mn → ∃ s : Nat, g j = nI s ∧ 0 < s ∧ s < R.T) : ∀ (m k : Nat) {S1 : Sg}, mn < k + m → k ≤ mn → I k S1 → Rt (f_itemTypes_16 R.K m S1 (some (R.ws i)) (nI k)) P
  | 0, k, _, h1, h2, _ => by omega
  | m + 1, k, S1, h1, h2, q1 => by
    obtain ⟨c1, t1⟩ := hI1 k S1 q1
    obtain ⟨a1, a2, a3, fs, gs, a4, a5, a6, a7, a8, a9, a10, a11⟩ := hD.ob t1 hi
    unfold f_itemTypes_16
    refine Rt.bd (oI_mk a2 a5 ((a8 3 rfl).trans (hfs fs a4).1)) (Rt.it (fun w9 => ?_) (fun w9 => ?_))
    · exact hen k S1 h2 q1 (fun _ => by have := (nI_leI (a := mn) (b := k) (by omega) (by omega)).mp w9; omega)
    have hlt : k < mn := by
      rcases Nat.lt_or_ge k mn with z | z
      · exact z
      · exact absurd (nI_le z (by omega)) w9
    refine Rt.ok (fun z => ?_) (fun z => hen k S1 h2 q1 (fun w => absurd w z))
    exact it33_ hD hi (Q := I k) (hI1 k) (fun S2 x => hIf k S2 x) (fun S2 q2 => hst k S2 _ hlt (fun S3 q3 => it16_ hD hi hI1 hIf hst hen hna hnR hfs hmn hgn m (k + 1) (by omega) (by omega) q3) q2) hna hnR (fun fs e => (hfs fs e).2) hmn hlt hgn bigN 0 (by unfold bigN; omega) (Nat.zero_le _) q1
/-- the names' row, as it is now -/
theorem TS.nm (h : TS R c nv S) {na mn : Nat} {g : Nat → Int32} (hna : na ∈ ZL R.S) (hnR : ZF R.S na = .inl (R.K.1 0, 13, .inl g)) (hgn : ∀ j : Nat, j < mn → ∃ s : Nat, g j = nI s ∧ 0 < s ∧ s < R.T) : ∃ g2 : Nat → Int32, ZF S na = .inl (R.K.1 0, 13, .inl g2) ∧ ∀ j : Nat, j < mn → ∃ s : Nat, g2 j = nI s ∧ s < R.T := by
  have hT := h.tb
  cases mn with
  | zero =>
    obtain ⟨g2, e⟩ := h.rj hna hnR
    exact ⟨g2, e, fun j hj => absurd hj (by omega)⟩
  | succ mn =>
    obtain ⟨s, s1, s2, s3⟩ := hgn 0 (by omega)
    refine ⟨g, h.ri hna hnR (i := 0) (by rw [s1]; exact nI_ne0 (by omega) (by omega)), fun j hj => ?_⟩
    obtain ⟨s, s1, s2, s3⟩ := hgn j hj
    exact ⟨s, s1, s3⟩
/-- what a function gives -/
theorem it203 (hK : yRm R) (hD : RDI R) (hnv : nv ≤ 10000) {i mn wa ta lo lv lf na : Nat} {gl g : Nat → Int32} {f : Nat → Option Nat} {pq : Nat → Nat} {rs : Value} (hC : FC R i 12 1 mn wa ta lo lv lf gl f pq) (hcI : cIt R i (R.ws i) ∧ cIt R i na) (hna : na ∈ ZL R.S) (hnR : ZF R.S na = .inl (R.K.1 0, 13, .inl g)) (hn8 : ∀ fs : List Value, ZF R.S (R.ws i) = .inr (16, fs) → fs[8]? = some (.ref na) ∧ fs[14]? = some rs) (hgn : ∀ j : Nat, j < mn → ∃ s : Nat, g j = nI s ∧ 0 < s ∧ s < R.T) (hrs : rs = .null ∨ ∃ t p' q2 : Nat, rs = .ref t ∧ pq mn ≤ p' ∧ q2 ≤ R.ms i ∧ isT (ZL R.S) (ZF R.S) (Zr R.S 5) 17 t p' q2) (hp0 : R.ps i ≤ pq 0) (hpm : pq mn ≤ R.ms i) (hpT : R.ms i ≤ R.T) (hc : c + (R.ms i - R.ps i) ≤ 1990) {k : Nat} {S1 : Sg} (hk : k ≤ mn) (h : FV R S i 12 1 ta lo k c nv pq S1) (hkz : Zi S1 3 = 0 → k = mn) : Rt (f_itemTypes_203 R.K S1 (some (R.ws i))) (fun S2 _ => ItR R c nv S i S2) := by
  obtain ⟨⟨hi, hik, _, hmn⟩, hfs, ⟨w1, w2⟩, ⟨y1, y2, y3⟩, ⟨p1, p2, p3⟩, hlo⟩ := hC
  obtain ⟨l1, l2, l3, l4, l5⟩ := hlo rfl
  obtain ⟨t1, v0, g1⟩ := h
  have v1 : VX R (cX R i) S S1 := v0.mo (fun a w => w.1)
  have hT := t1.tb
  have m1 := (p2 k hk).2; have m2 := (p2 k hk).1
  obtain ⟨a1, a2, a3, fs, gs, a4, a5, a6, a7, a8, a9, a10, a11⟩ := hD.ob t1 hi
  have hnw : nXo R (R.ws i) := nXo.ob a1 a4 (by decide)
  have k20 : K20 R S i S1 := K20.cy a1 v0
  -- how it ends: the fields 15 and 7 are told
  have hend : ∀ (S2 : Sg) (c2 x : Nat) (rl : Int32) (hs : List Value), c2 ≤ c + (R.ms i - R.ps i) → TS R c2 nv S2 → VX R (cX R i) S S2 → ZF S2 (R.ws i) = .inr (16, hs) → hs[15]? = some (.ref x) → K20 R S i S2 → (Zi S2 3 = 0 → (∃ ft : Nat → Option Nat, ZF S2 ta = .inl (R.K.1 4, 13, .inr (.inr (.inr (.inr ft)))) ∧ ∀ j : Nat, j < mn → ∃ x : Nat, ft j = some x ∧ rTy S2 x) ∧ (∃ go : Nat → Int32, ZF S2 lo = .inl (R.K.1 0, 13, .inl go) ∧ ∀ j : Nat, j < mn → (go j = -1 ∨ ∃ l : Nat, l < 8 ∧ go j = nI l)) ∧ xTy S2 x) → (rl = -1 ∨ ∃ l : Nat, l < 8 ∧ rl = nI l) → Rt (f_itemTypes_270 R.K S2 rl (some (R.ws i))) (fun S2 _ => ItR R c nv S i S2) := fun S2 c2 x rl hs hc2 t2 v2 e2 e15 k2' g2 hrl => by
    obtain ⟨b1, b2, b3, fs9, gs9, b4, b5, b6, b7, b8, b9, b10, b11⟩ := hD.ob t2 hi
    have ee : gs9 = hs := (Prod.mk.inj (Sum.inr.inj (b5.symm.trans e2))).2
    subst ee
    have ef : fs9 = fs := (Prod.mk.inj (Sum.inr.inj (b4.symm.trans a4))).2
    subst ef
    unfold f_itemTypes_270
    refine Rt.bd (pV_mk b2 b5 (by rw [b7]; decide)) (Rt.rt ⟨c2, hc2, t2.uf a1 (cs_put b9 rfl), v2.tr (VX.uf (X := cX R i) (cX.ob hcI.1 a4) (fun vs w => by rw [b5] at w; cases w) (fun vs w => by rw [b5] at w; cases w)) (fun _ w => w), fun z => ?_, k2'.uf b5 (by decide)⟩)
    have z2 : Zi S2 3 = 0 := z
    obtain ⟨⟨ft, r1, r2⟩, ⟨go, r3, r4⟩, r5⟩ := g2 z2
    obtain ⟨g9, n1, n2⟩ := t2.nm hna hnR hgn
    intro S3 hA hTy
    have v23 : ∀ (x : Nat) (kd ix : Int32) (o : Option Nat), isTy S2 x kd ix o → isTy S3 x kd ix o := fun x kd ix o q => hTy x kd ix o ((VX.uf (R := R) (X := cX R i) (S := S2) (a := R.ws i) (x := .inr (16, gs9.set 7 (.int rl))) (cX.ob hcI.1 a4) (fun vs w => by rw [b5] at w; cases w) (fun vs w => by rw [b5] at w; cases w)).2.2.2.1 x kd ix o q)
    have hne : ∀ {a n : Nat} {k : ClassId} {f : vRw}, ZF R.S a = .inl (k, n, f) → a ≠ R.ws i := fun e w => by rw [w, a4] at e; cases e
    refine ⟨hnw, (hD.2.2.2.2 i hi).1, gs9.set 7 (.int rl), mn, na, g9, (hA _ hcI.1).trans ZF_s, ?_, ?_, hmn, ?_, nXo.ro hna hnR (Or.inl (hK.2.2 0 5 (by decide) (by decide) (by decide))), (hA _ hcI.2).trans ((ZF_n (hne hnR)).trans n1), n2, Or.inr (Or.inr ⟨hik, ta, x, lo, ft, go, rl, ?_, ⟨nXo.ro y1 y3 (Or.inl (hK.2.2 4 5 (by decide) (by decide) (by decide))), (hA _ y2).trans ((ZF_n (hne y3)).trans r1), fun j hj => by obtain ⟨x9, q1, q2⟩ := r2 j hj; exact ⟨x9, q1, q2.im v23⟩⟩, ?_, r5.im v23, ?_, hrl, ?_, nXo.ro l1 l3 (Or.inl (hK.2.2 0 5 (by decide) (by decide) (by decide))), (hA _ l2).trans ((ZF_n (hne l3)).trans r3), r4⟩)⟩
    · rw [List.getElem?_set_ne (by decide)]; exact b11
    · rw [List.getElem?_set_ne (by decide)]; exact (b8 3 rfl).trans (hfs _ b4).1
    · rw [List.getElem?_set_ne (by decide)]; exact (b8 8 rfl).trans (hn8 _ b4).1
    · rw [List.getElem?_set_ne (by decide)]; exact (b8 10 rfl).trans (hfs _ b4).2.2
    · rw [List.getElem?_set_ne (by decide)]; exact e15
    · rw [List.getElem?_set_self (by rw [b7]; decide)]
    · rw [List.getElem?_set_ne (by decide)]; exact (b8 13 rfl).trans (l4 _ b4)
  -- field 15
  have h246 : ∀ (S2 : Sg) (c2 x : Nat), c2 ≤ c + (R.ms i - R.ps i) → TS R c2 nv S2 → VX R nX S1 S2 → (∃ (kd ix : Int32) (o : Option Nat), isTy S2 x kd ix o) → (Zi S2 3 = 0 → xTy S2 x) → Rt (f_itemTypes_246 R.K S2 (some (R.ws i)) (some x) (some (R.ws i))) (fun S2 _ => ItR R c nv S i S2) := fun S2 c2 x hc2 t2 v2 hx gx => by
    obtain ⟨b1, b2, b3, fs9, gs9, b4, b5, b6, b7, b8, b9, b10, b11⟩ := hD.ob t2 hi
    have ef : fs9 = fs := (Prod.mk.inj (Sum.inr.inj (b4.symm.trans a4))).2
    subst ef
    have hne : ∀ {a n : Nat} {k : ClassId} {f : vRw}, ZF R.S a = .inl (k, n, f) → a ≠ R.ws i := fun e w => by rw [w, a4] at e; cases e
    unfold f_itemTypes_246
    refine Rt.bd (pV_mk (v := .ref x) b2 b5 (by rw [b7]; decide)) ?_
    have vX : VX R (cX R i) S2 (UF S2 (R.ws i) (.inr (16, gs9.set 15 (.ref x)))) := VX.uf (cX.ob hcI.1 a4) (fun vs w => by rw [b5] at w; cases w) (fun vs w => by rw [b5] at w; cases w)
    have t3 : TS R c2 nv (UF S2 (R.ws i) (.inr (16, gs9.set 15 (.ref x)))) := t2.uf a1 (cs_put b9 rfl)
    have v3 : VX R (cX R i) S (UF S2 (R.ws i) (.inr (16, gs9.set 15 (.ref x)))) := (v1.n v2).tr vX (fun _ w => w)
    have e3 : ZF (UF S2 (R.ws i) (.inr (16, gs9.set 15 (.ref x)))) (R.ws i) = .inr (16, gs9.set 15 (.ref x)) := ZF_s
    have g3 : Zi (UF S2 (R.ws i) (.inr (16, gs9.set 15 (.ref x)))) 3 = 0 → (∃ ft : Nat → Option Nat, ZF (UF S2 (R.ws i) (.inr (16, gs9.set 15 (.ref x)))) ta = .inl (R.K.1 4, 13, .inr (.inr (.inr (.inr ft)))) ∧ ∀ j : Nat, j < mn → ∃ x9 : Nat, ft j = some x9 ∧ rTy (UF S2 (R.ws i) (.inr (16, gs9.set 15 (.ref x)))) x9) ∧ (∃ go : Nat → Int32, ZF (UF S2 (R.ws i) (.inr (16, gs9.set 15 (.ref x)))) lo = .inl (R.K.1 0, 13, .inl go) ∧ ∀ j : Nat, j < mn → (go j = -1 ∨ ∃ l : Nat, l < 8 ∧ go j = nI l)) ∧ xTy (UF S2 (R.ws i) (.inr (16, gs9.set 15 (.ref x)))) x := fun z => by
      have z2 : Zi S2 3 = 0 := z
      have z1 := v2.2.2.2.2.2 z2
      obtain ⟨⟨ft, r1, r2⟩, r3⟩ := g1 z1
      obtain ⟨go, r4, r5⟩ := r3 rfl
      rw [hkz z1] at r2 r5
      exact ⟨⟨ft, (ZF_n (hne y3)).trans ((v2.2.1 ta y1 (fun w => w)).trans r1), fun j hj => by obtain ⟨x9, q1, q2, _⟩ := r2 j hj; exact ⟨x9, q1, (q2.im v2.2.2.2.1).im vX.2.2.2.1⟩⟩, ⟨go, (ZF_n (hne l3)).trans ((v2.2.1 lo l1 (fun w => w)).trans r4), r5⟩, (gx z2).im vX.2.2.2.1⟩
    have k3' : K20 R S i (UF S2 (R.ws i) (.inr (16, gs9.set 15 (.ref x)))) := (k20.n a1 v2).uf b5 (by decide)
    have m3 : R.ws i ∈ ZL (UF S2 (R.ws i) (.inr (16, gs9.set 15 (.ref x)))) := b2
    have e14 : (gs9.set 15 (.ref x))[14]? = some rs := by rw [List.getElem?_set_ne (by decide)]; exact (b8 14 rfl).trans (hn8 _ b4).2
    have e15 : (gs9.set 15 (.ref x))[15]? = some (.ref x) := by rw [List.getElem?_set_self (by rw [b7]; decide)]
    revert t3 v3 e3 g3 k3' m3 e14 e15
    generalize UF S2 (R.ws i) (.inr (16, gs9.set 15 (.ref x))) = S3
    generalize gs9.set 15 (.ref x) = hs
    intro t3 v3 e3 g3 k3' m3 e14 e15
    rcases hrs with hrs | ⟨t, p', q2, hrs, u1, u2, u3⟩
    · refine Rt.bd (oR_mk (v := none) m3 e3 (e14.trans (by rw [hrs]; rfl))) (Rt.ip rfl (hend S3 c2 x (-1) hs hc2 t3 v3 e3 e15 k3' g3 (Or.inl rfl)))
    · refine Rt.bd (oR_mk (v := some t) m3 e3 (e14.trans (by rw [hrs]; rfl))) (Rt.iq (fun w => by cases w) (Rt.bd (oR_mk (v := some t) m3 e3 (e14.trans (by rw [hrs]; rfl))) ?_))
      refine Rt.bn (lfi_ t3 (l5 S3 _ _ t3) u3 (by omega)) (fun S4 r4 q4 => ?_)
      obtain ⟨⟨t4, v4, s4⟩, q4⟩ := q4
      refine hend S4 c2 x r4 hs hc2 t4 (v3.n v4) ((v4.2.1 _ a1 (fun w => w)).trans e3) e15 (k3'.n a1 v4) (fun z => ?_) q4
      obtain ⟨⟨ft, r1, r2⟩, ⟨go, r3, r5⟩, r6⟩ := g3 (v4.2.2.2.2.2 z)
      exact ⟨⟨ft, (v4.2.1 ta y1 (fun w => w)).trans r1, fun j hj => by obtain ⟨x9, q1, q2⟩ := r2 j hj; exact ⟨x9, q1, q2.im v4.2.2.2.1⟩⟩, ⟨go, (v4.2.1 lo l1 (fun w => w)).trans r3, r5⟩, r6.im v4.2.2.2.1⟩
  unfold f_itemTypes_203 f_itemTypes_219
  refine Rt.bd (oI_mk a2 a5 (a11.trans (by rw [hik]))) (Rt.ip rfl (Rt.ok (fun z => ?_) (fun z => Rt.rt ⟨_, by omega, t1, v1, fun w => absurd w z, k20⟩)))
  rcases hrs with hrs' | ⟨t, p', q2, hrs', u1, u2, u3⟩
  · refine Rt.bd (oR_mk (v := none) a2 a5 (((a8 14 rfl).trans (hn8 _ a4).2).trans (by rw [hrs']; rfl))) (Rt.ip rfl (Rt.bn (plt_ hK hnv t1 (Or.inr (Or.inr (Or.inr rfl))) (by omega)) (fun S2 r2 q2 => ?_)))
    obtain ⟨x, e2, t2, x2, v2, s2, z2⟩ := q2
    rw [e2]
    exact h246 S2 _ x (by omega) t2 v2 ⟨_, _, _, x2⟩ (fun _ => Or.inr x2)
  · have := isT_lt u3
    refine Rt.bd (oR_mk (v := some t) a2 a5 (((a8 14 rfl).trans (hn8 _ a4).2).trans (by rw [hrs']; rfl))) (Rt.iq (fun w => by cases w) (Rt.bd (oR_mk (v := some t) a2 a5 (((a8 14 rfl).trans (hn8 _ a4).2).trans (by rw [hrs']; rfl))) (Rt.bn (rsv_ hK hnv t1 (show 17 ≤ 20 by omega) u3 (by omega) (by omega)) (fun S2 r2 q2 => ?_))))
    obtain ⟨x, e2, t2, v2, s2, hx, gx⟩ := q2
    rw [e2]
    exact h246 S2 _ x (by omega) t2 v2 hx (fun z => Or.inl (gx z).1)
end IT16
