section ITY
variable {R : yR} {c nv : Nat} {S : Sg}
theorem chT_mo {L : List Nat} {F : Nat → va_E} {fk : Nat → Int32} {f : Nat → Option Nat} {n : Nat} {pq : Nat → Nat} (h : ∀ i : Nat, i < n → ∃ t p' q' : Nat, f i = some t ∧ pq i ≤ p' ∧ q' ≤ pq (i + 1) ∧ isT L F fk 17 t p' q') : ∀ j : Nat, j ≤ n → pq 0 ≤ pq j ∧ pq j ≤ pq n := by
  have hst : ∀ (d l : Nat), l + d ≤ n → pq l ≤ pq (l + d) := by
    intro d
    induction d with
    | zero => exact fun l _ => Nat.le_refl _
    | succ d ih =>
      intro l hl
      obtain ⟨t9, p9, q9, _, z1, z2, z3⟩ := h (l + d) (by omega)
      have := isT_lt z3
      have := ih l (by omega)
      show pq l ≤ pq (l + d + 1)
      omega
  intro l hl
  have h1 := hst l 0 (by omega)
  have h2 := hst (n - l) l (by omega)
  rw [Nat.zero_add] at h1
  rw [show l + (n - l) = n by omega] at h2
  exact ⟨h1, h2⟩
/-- itemTypes -/
theorem itt_ (hK : yRm R) (hD : RDI R) (hnv : nv ≤ 10000) (h : TS R c nv S) {i : Nat} (hi : i < R.im) (hc : c + (R.ms i - R.ps i) ≤ 1990) : Rt (f_itemTypes R.K S (some (R.ws i))) (fun S2 _ => ItR R c nv S i S2) := by
  have hT := h.tb
  obtain ⟨b1, b2, b3, fs, gs, b4, b5, b6, b7, b8, b9, b10, b11⟩ := hD.ob h hi
  obtain ⟨z1, z2, ⟨fs8, z3, z4⟩, z5, hiv⟩ := hD.2.2.2.2 i hi
  have hpT : R.ps (i + 1) ≤ R.T := Nat.le_trans (hD.2.2.1 (i + 1) R.im (by omega) (Nat.le_refl _)).1 hD.2.2.2.1
  have hex : exS (iv (R.ws i) (R.ws (i + 1))) (ZF R.S) (ZL R.S) (ZF R.S) := fun a ha => ⟨hiv a ha, rfl⟩
  obtain ⟨a1, a2, a3, mn, na, g, a4, a5, a6, a7, a8⟩ := z2
  have hgn : ∀ j : Nat, j < mn → ∃ s : Nat, g j = nI s ∧ 0 < s ∧ s < R.T := fun j hj => by
    obtain ⟨s, s1, s2, s3⟩ := a7 j hj
    exact ⟨s, s1, by omega, by omega⟩
  have hcI : cIt R i (R.ws i) ∧ cIt R i na := ⟨iv_m.mp a1, iv_m.mp a4⟩
  have hna := hiv _ a4
  have hnw : nXo R (R.ws i) := nXo.ob b1 b4 (by decide)
  have hnn : nXo R na := nXo.ro hna a5 (Or.inl (hK.2.2 0 5 (by decide) (by decide) (by decide)))
  unfold f_itemTypes f_itemTypes_14
  refine Rt.bd (oI_mk b2 b5 b11) ?_
  rcases a8 with ⟨wa, ta, q', f, c1, c2, c3, c4, c5, c6, c7, pq, d1, d2, d3⟩ | ⟨vr, q', f, c1, c2, c3, c4, c5, pq, d1, d2, d3, d4⟩ | ⟨lv, wa, ta, pa, lf, lo, q', va, b, bl, rs, f, gl, c1, c2, c3, c4, c5, c6, c7, c8, c9, e1, e2, e3, e4, ⟨pq, d1, d2, d3⟩, e5, e6, e7, e8, e9⟩
  · -- struct
    have ef : fs8 = _ := (Prod.mk.inj (Sum.inr.inj (z3.symm.trans c1))).2
    have hik : R.ik i = 10 := by rw [ef] at z4; exact (Value.int.inj (Option.some.inj z4)).symm
    have hall : ∀ fs : List Value, ZF R.S (R.ws i) = .inr (16, fs) → fs[3]? = some (.int (nI mn)) ∧ fs[8]? = some (.ref na) ∧ fs[9]? = some (.ref wa) ∧ fs[10]? = some (.ref ta) := fun fs e => by
      have := (Prod.mk.inj (Sum.inr.inj (e.symm.trans c1))).2
      subst this
      exact ⟨rfl, rfl, rfl, rfl⟩
    have d3' : ∀ j : Nat, j < mn → ∃ t p' q' : Nat, f j = some t ∧ pq j ≤ p' ∧ q' ≤ pq (j + 1) ∧ isT (ZL R.S) (ZF R.S) (Zr R.S 5) 17 t p' q' := fun j hj => by
      obtain ⟨t, p', q', k1, k2, k3, k4⟩ := d3 j hj
      exact ⟨t, p', q', k1, k2, k3, isT_ex hex k4⟩
    have hC : FC R i 10 0 mn wa ta 0 0 0 (fun _ => 0) f pq := ⟨⟨hi, hik, Or.inl ⟨rfl, rfl⟩, a6⟩, fun fs e => ⟨(hall fs e).1, (hall fs e).2.2.1, (hall fs e).2.2.2⟩, ⟨hiv _ c3, c5⟩, ⟨hiv _ c4, iv_m.mp c4, c6⟩, ⟨d3', chT_mo d3', by omega⟩, fun w => absurd w (by decide)⟩
    rw [hik]
    refine Rt.iq (by decide) ?_
    refine it16_ hD hi (I := fun k S1 => FV R S i 10 0 ta 0 k c nv pq S1) (fun k S1 q => ⟨_, q.1⟩) (fun k S1 x q => q.fl (by decide)) (fun k S1 k16 hk h16 q => it109 hK hD hnv hC (by omega) h16 q hk) (fun k S1 hk q hz => ?_) hna a5 (fun fs e => ⟨(hall fs e).1, (hall fs e).2.1⟩) a6 hgn bigN 0 (by unfold bigN; omega) (Nat.zero_le _) ⟨h.up (by omega), VX.rf, fun _ => ⟨by obtain ⟨ft, hft⟩ := h.ro (hiv _ c4) c6; exact ⟨ft, hft, fun j hj => absurd hj (by omega)⟩, fun w => absurd w (by decide)⟩⟩
    obtain ⟨t1, v1, g1⟩ := q
    have m1 := (chT_mo d3' k hk).1; have m2 := (chT_mo d3' k hk).2
    obtain ⟨b1, b2, b3, fs9, gs9, b4, b5, b6, b7, b8, b9, b10, b11⟩ := hD.ob t1 hi
    unfold f_itemTypes_203
    refine Rt.bd (oI_mk b2 b5 (b11.trans (by rw [hik]))) (Rt.iq (by decide) (Rt.rt ⟨_, by omega, t1, v1.mo (fun a w => w.1), fun z S3 hA hTy => ?_, K20.cy b1 v1⟩))
    obtain ⟨⟨ft, r1, r2⟩, _⟩ := g1 z
    rw [hz z] at r2
    obtain ⟨g9, n1, n2⟩ := t1.nm hna a5 hgn
    exact ⟨hnw, z1, gs9, mn, na, g9, (hA _ hcI.1).trans b5, b11, (b8 3 rfl).trans (hall _ b4).1, a6, (b8 8 rfl).trans (hall _ b4).2.1, hnn, (hA _ hcI.2).trans n1, n2, Or.inl ⟨hik, ta, ft, (b8 10 rfl).trans (hall _ b4).2.2.2, nXo.ro (hiv _ c4) c6 (Or.inl (hK.2.2 4 5 (by decide) (by decide) (by decide))), (hA _ (iv_m.mp c4)).trans r1, fun j hj => by obtain ⟨x9, q1, _, q2⟩ := r2 j hj; exact ⟨x9, q1, (q2 rfl).im hTy⟩⟩⟩
  · -- enum
    have ef : fs8 = _ := (Prod.mk.inj (Sum.inr.inj (z3.symm.trans c1))).2
    have hik : R.ik i = 11 := by rw [ef] at z4; exact (Value.int.inj (Option.some.inj z4)).symm
    have hall : ∀ fs : List Value, ZF R.S (R.ws i) = .inr (16, fs) → fs[3]? = some (.int (nI mn)) ∧ fs[8]? = some (.ref na) ∧ fs[11]? = some (.ref vr) := fun fs e => by
      have := (Prod.mk.inj (Sum.inr.inj (e.symm.trans c1))).2
      subst this
      exact ⟨rfl, rfl, rfl⟩
    have hmo : ∀ j : Nat, j ≤ mn → pq 0 ≤ pq j ∧ pq j ≤ pq mn := by
      have hst : ∀ (d l : Nat), l + d ≤ mn → pq l ≤ pq (l + d) := by
        intro d
        induction d with
        | zero => exact fun l _ => Nat.le_refl _
        | succ d ih =>
          intro l hl
          obtain ⟨t9, p9, q9, _, y1, y2, y3⟩ := d3 (l + d) (by omega)
          have := y3.2.1
          have := ih l (by omega)
          show pq l ≤ pq (l + d + 1)
          omega
      intro l hl
      have h1 := hst l 0 (by omega)
      have h2 := hst (mn - l) l (by omega)
      rw [Nat.zero_add] at h1
      rw [show l + (mn - l) = mn by omega] at h2
      exact ⟨h1, h2⟩
    have hC : EC R i mn vr f pq := ⟨⟨hi, hik, a6⟩, fun fs e => ⟨(hall fs e).1, (hall fs e).2.2⟩, ⟨hiv _ c3, c4⟩, d3, d4, hmo, by omega⟩
    rw [hik]
    refine Rt.iq (by decide) ?_
    refine it16_ hD hi (I := fun k S1 => VV R S i k f c nv pq S1) (fun k S1 q => ⟨_, q.1⟩) (fun k S1 x q => q.fl (by decide)) (fun k S1 k16 hk h16 q => it144 hK hD hnv hC (by omega) h16 q hk) (fun k S1 hk q hz => ?_) hna a5 (fun fs e => ⟨(hall fs e).1, (hall fs e).2.1⟩) a6 hgn bigN 0 (by unfold bigN; omega) (Nat.zero_le _) ⟨h.up (by omega), VX.rf, fun _ j hj => absurd hj (by omega)⟩
    obtain ⟨t1, v1, g1⟩ := q
    have m1 := (hmo k hk).1; have m2 := (hmo k hk).2
    obtain ⟨b1, b2, b3, fs9, gs9, b4, b5, b6, b7, b8, b9, b10, b11⟩ := hD.ob t1 hi
    unfold f_itemTypes_203
    refine Rt.bd (oI_mk b2 b5 (b11.trans (by rw [hik]))) (Rt.iq (by decide) (Rt.rt ⟨_, by omega, t1, v1.mo (fun a w => w.1), fun z S3 hA hTy => ?_, K20.cy b1 v1⟩))
    have r2 := g1 z
    rw [hz z] at r2
    obtain ⟨g9, n1, n2⟩ := t1.nm hna a5 hgn
    have hvr : ∃ f2 : Nat → Option Nat, ZF S1 vr = .inl (R.K.1 13, 13, .inr (.inr (.inr (.inr f2)))) ∧ ∀ j : Nat, j < mn → f2 j = f j := by
      cases mn with
      | zero =>
        obtain ⟨f2, e⟩ := t1.ro (hiv _ c3) c4
        exact ⟨f2, e, fun j hj => absurd hj (by omega)⟩
      | succ mn =>
        obtain ⟨t9, _, _, e9, _⟩ := d3 0 (by omega)
        exact ⟨f, t1.rq (hiv _ c3) c4 e9, fun _ _ => rfl⟩
    obtain ⟨f2, v2, v3⟩ := hvr
    refine ⟨hnw, z1, gs9, mn, na, g9, (hA _ hcI.1).trans b5, b11, (b8 3 rfl).trans (hall _ b4).1, a6, (b8 8 rfl).trans (hall _ b4).2.1, hnn, (hA _ hcI.2).trans n1, n2, Or.inr (Or.inl ⟨hik, vr, f2, (b8 11 rfl).trans (hall _ b4).2.2, nXo.ro (hiv _ c3) c4 (Or.inl (hK.2.2 13 5 (by decide) (by decide) (by decide))), (hA _ (iv_m.mp c3)).trans v2, fun k hk => ?_⟩)⟩
    obtain ⟨t, q1, q2⟩ := r2 k hk
    obtain ⟨t9, p9, q9, i1, _, _, i2⟩ := d3 k hk
    rw [q1] at i1; cases i1
    rcases q2 with q2 | ⟨wa, ta, mk, ft, q3, q4, q5, q6, q7, q8, q9⟩
    · exact ⟨t, 0, fun _ => none, (v3 k hk).trans q1, nXo.ob (hiv _ i2.1) q2 (by decide), Or.inl ⟨(hA _ (iv_m.mp i2.1)).trans (t1.oe (hiv _ i2.1) q2 (fun _ => rfl)), rfl⟩⟩
    · exact ⟨t, mk, ft, (v3 k hk).trans q1, nXo.ob (hiv _ i2.1) q3 (by decide), Or.inr ⟨wa, ta, (hA _ (iv_m.mp i2.1)).trans (t1.oe (hiv _ i2.1) q3 (fun _ => rfl)), q4, nXo.ro q6 q7 (Or.inl (hK.2.2 4 5 (by decide) (by decide) (by decide))), (hA _ q5).trans q8, fun l hl => by obtain ⟨x, u1, u2⟩ := q9 l hl; exact ⟨x, u1, u2.im hTy⟩⟩⟩
  · -- function
    have ef : fs8 = _ := (Prod.mk.inj (Sum.inr.inj (z3.symm.trans c1))).2
    have hik : R.ik i = 12 := by rw [ef] at z4; exact (Value.int.inj (Option.some.inj z4)).symm
    have hall : ∀ fs : List Value, ZF R.S (R.ws i) = .inr (16, fs) → fs[3]? = some (.int (nI mn)) ∧ fs[8]? = some (.ref na) ∧ fs[9]? = some (.ref wa) ∧ fs[10]? = some (.ref ta) ∧ fs[13]? = some (.ref lo) ∧ fs[14]? = some rs ∧ fs[6]? = some (.int (nI lv)) ∧ fs[12]? = some (.ref lf) := fun fs e => by
      have := (Prod.mk.inj (Sum.inr.inj (e.symm.trans c1))).2
      subst this
      exact ⟨rfl, rfl, rfl, rfl, rfl, rfl, rfl, rfl⟩
    have d3' : ∀ j : Nat, j < mn → ∃ t p' q' : Nat, f j = some t ∧ pq j ≤ p' ∧ q' ≤ pq (j + 1) ∧ isT (ZL R.S) (ZF R.S) (Zr R.S 5) 17 t p' q' := fun j hj => by
      obtain ⟨t, p', q', k1, k2, k3, k4⟩ := d3 j hj
      exact ⟨t, p', q', k1, k2, k3, isT_ex hex k4⟩
    have hLV : ∀ (S : Sg) (c nv : Nat), TS R c nv S → LV R S (R.ws i) lv lf gl := fun S c nv t => by
      obtain ⟨b1, b2, b3, fs9, gs9, b4, b5, b6, b7, b8, b9, b10, b11⟩ := hD.ob t hi
      exact ⟨b1, ⟨_, b4⟩, e3, hiv _ c5, e1, fun j hj => by obtain ⟨s, s1, s2, s3⟩ := e4 j hj; exact ⟨s, s1, by omega, by omega⟩, gs9, b5, (b8 6 rfl).trans (hall _ b4).2.2.2.2.2.2.1, (b8 12 rfl).trans (hall _ b4).2.2.2.2.2.2.2⟩
    have hC : FC R i 12 1 mn wa ta lo lv lf gl f pq := ⟨⟨hi, hik, Or.inr ⟨rfl, rfl⟩, a6⟩, fun fs e => ⟨(hall fs e).1, (hall fs e).2.2.1, (hall fs e).2.2.2.1⟩, ⟨hiv _ c2, c7⟩, ⟨hiv _ c3, iv_m.mp c3, c8⟩, ⟨d3', chT_mo d3', by omega⟩, fun _ => ⟨hiv _ c6, iv_m.mp c6, e2, fun fs e => (hall fs e).2.2.2.2.1, hLV⟩⟩
    rw [hik]
    refine Rt.ip rfl (Rt.bn (lvs_ h (hLV S _ _ h)) (fun S2 _ q2 => ?_))
    obtain ⟨t2, v2, s2⟩ := q2
    refine it16_ hD hi (I := fun k S1 => FV R S i 12 1 ta lo k c nv pq S1) (fun k S1 q => ⟨_, q.1⟩) (fun k S1 x q => q.fl (by decide)) (fun k S1 k16 hk h16 q => it109 hK hD hnv hC (by omega) h16 q hk) (fun k S1 hk q hz => it203 hK hD hnv hC hcI hna a5 (fun fs e => ⟨(hall fs e).2.1, (hall fs e).2.2.2.2.2.1⟩) hgn (e6.imp id (fun ⟨t, p', q2, y1, y2, y3, y4⟩ => ⟨t, p', q2, y1, by omega, by omega, isT_ex hex y4⟩)) (by omega) (by omega) (by omega) hc hk q hz) hna a5 (fun fs e => ⟨(hall fs e).1, (hall fs e).2.1⟩) a6 hgn bigN 0 (by unfold bigN; omega) (Nat.zero_le _) ⟨t2.up (by omega), v2.x, fun _ => ⟨by obtain ⟨ft, hft⟩ := t2.ro (hiv _ c3) c8; exact ⟨ft, hft, fun j hj => absurd hj (by omega)⟩, fun _ => by obtain ⟨go, hgo⟩ := t2.rj (hiv _ c6) e2; exact ⟨go, hgo, fun j hj => absurd hj (by omega)⟩⟩⟩
end ITY
