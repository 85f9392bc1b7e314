section PS88
variable {R : yR} {K : Ky} {S0 Sl S S1 S2 S3 : Sg} {D : fD} {i k j f nw n v : Nat} {vt : Nat → Nat → Nat} {tb : Nat → lTb} {x : Nat → kFm} {bs : Nat → Nat} {g : Nat → Int32} {X : kFm}
theorem eT_nm {t : Nat} : kNm (eT t) := by
  unfold eT
  by_cases c : 10000 ≤ t
  · rw [if_pos c]
    by_cases c2 : t % 2 = 0
    · rw [if_pos c2]; exact pR_nm (Or.inl rfl)
    · rw [if_neg c2]; exact pR_nm (Or.inr rfl)
  · rw [if_neg c]; exact nm_0 rfl
/-- a step's end, told in full -/
theorem finG (hL : LFS R S0 g) (hk : PK R S0 i D k) (e : edg D k j) (hX : kT (yT R S0) (zN R S0) (szN R S0) vt tb f (kUx x f X) bs S2) (x2 : X.2.2.1 = 0) (x1 : X.1 = i) (xA : kAn X = kAn (x f)) (hst : wkS X.2.1 (trL (AL D j) (D.st j))) (hg : gtS (D.st j)) (h3 : ∀ a ∈ D.st j, pnE a)
  (hal : ∀ u : Nat, u < 40 → AL D j u → kal X u) (hH1 : ∀ u κ : Nat, u < 40 → AL D j u → kH X u κ → HK D j u κ) (hH2 : ∀ m κ : Nat, m < wl (D.st j) → AL D j (40 + m) ∨ mkS (D.st j) → kH X (40 + m) κ → HK D j (40 + m) κ ∧ (mkS (D.st j) → m = 0 → okl R S0 i D κ)) (hH3 : ∀ (κ r m : Nat), (5, r, m) ∈ trL (AL D j) (D.st j) ∨ (6, r, m) ∈ trL (AL D j) (D.st j) → kH X 300 κ → HA R S0 i D j 300 κ) (hlo : ∀ (v : Nat) (π : lLc), v < 40 → (8, v, 0) ∈ D.st j → klo X v π → LO R S0 D j v π)
  (h77 : Zi S2 77 = nI j) (h73 : Zi S2 73 = nI (bs f + wl (D.st j))) (h75 : Zr S2 75 = Zr S 75) (h76 : Zi S2 76 = Zi S 76) : NXt R S0 vt tb i D k f x bs S S2 := by
  obtain ⟨hD, hkk, hW, hG, hE⟩ := hk
  have hy := nYk_of hL
  obtain ⟨j1, j2, j3, j4, j5⟩ := hD.in e
  obtain ⟨Y, y1, y2, y3⟩ := kT.fin (D := D) (j := j) (i := i) (R := R) (S0 := S0) hy yB_yT hX (by rw [kUx_top]; exact x2) (by rw [kUx_top]; exact x1) (by rw [kUx_top]; exact hst) (by rw [kUx_top]; exact hal) (by rw [kUx_top]; exact hH1) (by rw [kUx_top]; exact hH2) (by rw [kUx_top]; exact hH3) (by rw [kUx_top]; exact hlo)
  rw [kUx_top] at y2
  rw [kUx2] at y3
  obtain ⟨rt, V, C, L, H, fl, t, hh⟩ := y3
  exact ⟨j, Y, e, ⟨hD, ⟨j1, j2, j5⟩, j3 hW, hg, hE⟩, h77, h73, ⟨h75, h76⟩, y1, y2.trans xA, rt, V, C, L, H, fl, t, hh, (fun r m w => absurd rfl (h3 _ w).1), fun q r m v ρ hq w _ _ => (hq.elim (h3 _ w).2.2.1 (h3 _ w).2.2.2.1).elim⟩
/-- slot, and a variable's type -/
theorem slo_ {va : Nat} {ty : Option Nat} {mu : Int32} (e : RNx Sl S) (hu : isU Sl va v ty mu) (h76 : Zi S 76 = nI (f + 1)) : f_slot R.K S (some va) = some (S, nI (40 * f + v)) ∧ oR S 21 (some va) 2 = some ty := by
  obtain ⟨u1, nm, wh, u2⟩ := hu
  have r1 : oI S 21 (some va) 0 = some (nI v) := oI_mk (by rw [e.1]; exact u1) (by rw [e.2.1]; exact u2) rfl
  refine ⟨?_, oR_mk (by rw [e.1]; exact u1) (by rw [e.2.1]; exact u2) rfl⟩
  unfold f_slot
  rw [r1, h76, nI_pred]
  simp only [Option.bind_some]
  rw [show (40 : Int32) = nI 40 from rfl, show nI 40 * nI f = nI (40 * f) from (Int32.ofNat_mul 40 f).symm, nI_add]
theorem FnD.lv9 (hL : LFS R S0 g) (hE : D.E.y = yT R S0) (h : FnD R S0 i D) (e : edg D k j) {w : Nat} {π : lLc} (hw : w < 40) (q : LO R S0 D k w π) (hk : (D.I k).kd = 12 ∨ (D.I k).kd = 13 ∨ (D.I k).kd = 22 ∨ (D.I k).kd = 23 ∨ (D.I k).kd = 24) (hvs : w ∉ (D.I k).vs) (k14 : (D.I k).kd ≠ 14) : LO R S0 D j w π := fun h1 h2 => by
  obtain ⟨T, h3⟩ := h2
  refine h.lo (nYk_of hL) hE e hw q (fun c hc _ hm => ?_) h1 ⟨T, h3⟩
  rw [hE] at h3
  have c16 := inR_16 (nYk_of hL) h1 h3 hc
  rcases hm with ⟨_, hm⟩ | ⟨hm, _⟩
  · rw [show c / 16 = w by omega] at hm; exact hvs hm
  · exact k14 hm
/-- LET -/
theorem s_12 (hL : LFS R S0 g) (hx : LX S0 Sl) (h : RQ R S0 vt tb i D k f x bs Sl k S) (hQ : D.Pe < 24000) (hk : (D.I k).kd = 12) : Rt (f_step R.K S) (fun S2 _ => RTt R S0 vt tb i D k f x bs Sl S S2) := by
  have h24 := h.k24 hQ
  have hy := nYk_of hL
  have hB := yB_yT (R := R) (S0 := S0)
  refine stp_12 h hQ hk (fun S1 h1 e70 e3 er el => ?_)
  have hp := h1.pt.1
  unfold tPt at hp
  rw [hk] at hp
  obtain ⟨_, _, _, v, r, hvs, hv4, ho, hv0, hs, hvr, hwr, hus1, hus2, hn1, _, _, hw⟩ := hp
  have hgt := h1.1.2.2.2.1
  rw [hs] at hgt
  have hrn := hgt.tl
  have hb := h1.sb
  have hed : edg D k (k + 1) := h1.e1 (kd_s hk (by decide))
  have hEy := h1.1.2.2.2.2
  have hFn := h1.1.1
  have hnm : kNm (eT (D.E.vt v)) := eT_nm
  have wst : wl (D.st k) = 1 := by rw [hs, wl_n hnm, hwr]
  have h73 := h1.2.2.2.1.2.1
  rw [wst] at h73 hb
  obtain ⟨va, v9, ty, mu, z1, z2, z3, z4, z5⟩ := h1.2.1.2.2.2.2.2.2.2.2.2.2.1 (Or.inl hk)
  obtain rfl : v9 = v := by rw [hvs] at z2; exact (List.cons.inj z2).1.symm
  rw [hn1] at z4
  obtain ⟨z, rfl⟩ : ∃ z : Nat, ty = some z := by
    cases ty with
    | none => exact absurd z4.symm hv0
    | some z => exact ⟨z, rfl⟩
  have hrz := z5 z rfl
  have z4 : abT S0 z = D.E.vt v9 := z4
  have hX1 := h1.2.2.1
  have e := hX1.1
  obtain ⟨rt, V, C, L, H, fl, t9, ⟨hJ, hN, hC, hF⟩, _⟩ := h1.2.2.2.2.2.2.1
  obtain ⟨a1, a2, a3, a4, a5, a6⟩ := h1.2.2.2.2.2.1
  have hvt : vt (x f).1 = D.E.vt := by rw [a1]; exact h1.2.2.2.2.2.2.2.2.1
  have hf6 := h1.2.2.2.2.1
  have hws := h1.2.2.2.2.2.2.2.1
  have hro := hN.room hy hC hf6 hws hF.2.2.2.2
  have wl0 : wl (trL (AL D k) r) = 0 := by rw [trL_wl]; exact hwr
  have h76 := h1.2.2.2.1.2.2
  have hvold : (8, v9, 0) ∉ D.st k := fun w => by
    rw [hs] at w
    rcases List.mem_cons.mp w with w | w
    · rw [← w] at hnm; exact hnm (Or.inl rfl)
    · exact hvr w
  -- who was used, what lacked a value
  have hal : ∀ u : Nat, u ≠ v9 → (u < 40 ∧ AL D (k + 1) u) → kal (x f) u := fun u hu q => by
    rw [a5]
    exact ⟨q.1, hFn.al hed (by omega) (fun w => by rw [ho] at w; exact hu (Option.some.inj w).symm) q.2⟩
  have hlo : ∀ (w : Nat) (π : lLc), w ≠ v9 → ¬ (LO R S0 D (k + 1) w π ∨ 40 ≤ w) → ¬ klo (x f) w π := fun w π hw hn q => by
    rw [a6] at q
    by_cases c : w < 40
    · exact hn (Or.inl (hFn.lv9 hL hEy hed c q (Or.inl hk) (by rw [hvs]; exact fun z => hw (List.mem_singleton.mp z)) (by rw [hk]; decide)))
    · exact hn (Or.inr (by omega))
  have hno : ∀ r1 m2 : Nat, (5, r1, m2) ∉ trL (AL D k) r ∧ (6, r1, m2) ∉ trL (AL D k) r := fun r1 m2 => ⟨fun z => absurd (Or.inr (Or.inl rfl)) (trL_4 (pn_4 hrn) _ z), fun z => absurd (Or.inr (Or.inr rfl)) (trL_4 (pn_4 hrn) _ z)⟩
  -- the value on top, and where it leads
  have key : ∃ (e0 : tE) (ro : Option lLc), (x f).2.1 = e0 :: trL (AL D k) r ∧ kNm e0 ∧ vaR (yT R S0) (szN R S0) (nMS S1) (D.E.vt v9) (V (f, 40)) (Zl S1 72 (bs f)) (L (f, 40)) (H (f, 40)) ∧ (∀ (d : Nat × Nat) (π : lLc), ro = some (d :: π) → kA (x f) 40 ∧ kR (x f) 40 = some (d :: π) ∧ (yT R S0).1 (D.E.vt v9) ≠ 2) ∧ ∀ hd : Nat → Prop, (∀ κ : Nat, isRf (D.E.vt v9) → kH (x f) 40 κ → hd κ) → kJ (yT R S0) vt tb f (kUx x f ((x f).1, (8, v9, 0) :: trL (AL D k) r, 0, lUp (kR (x f)) v9 ro, lUp (kH (x f)) v9 hd, (fun u => u < 40 ∧ AL D (k + 1) u), (fun w π => LO R S0 D (k + 1) w π ∨ 40 ≤ w), kAn (x f))) (qRt rt (f, v9) (vt (x f).1 v9)) (qUp (kCl V f 0) (f, v9) (V (f, 40))) := by
    by_cases hT : isRf (D.E.vt v9)
    · have hal40 : AL D k 40 := Or.inl (by rw [(hus1 hT).1]; exact List.mem_singleton_self _)
      obtain ⟨q, U, hU9, hq, eTT⟩ : ∃ q U : Nat, U < 10000 ∧ ((q = 1 ∧ D.E.vt v9 = 10000 + 2 * U) ∨ (q = 2 ∧ D.E.vt v9 = 10001 + 2 * U)) ∧ eT (D.E.vt v9) = (q, U, 0) := by
        by_cases c : D.E.vt v9 % 2 = 0
        · refine ⟨1, (D.E.vt v9 - 10000) / 2, by have := hT.1; have := hT.2; omega, Or.inl ⟨rfl, by have := hT.1; omega⟩, ?_⟩
          unfold eT
          rw [if_pos hT.1, if_pos c]
        · refine ⟨2, (D.E.vt v9 - 10000) / 2, by have := hT.1; have := hT.2; omega, Or.inr ⟨rfl, by have := hT.1; omega⟩, ?_⟩
          unfold eT
          rw [if_pos hT.1, if_neg c]
      have hS : (x f).2.1 = (q, U, 0) :: trL (AL D k) r := by
        rw [a2, hs, eTT]
        show trE (AL D k) (wl r) (q, U, 0) :: trL (AL D k) r = _
        rw [trE_r (by show q = 1 ∨ q = 2; omega) (Or.inr (by rw [hwr]; exact hal40))]
      rw [hvt.symm] at hq
      obtain ⟨a, b1, b2, b3, _⟩ := kJ_letR (al2 := fun u => u < 40 ∧ AL D (k + 1) u) (lo2 := fun w π => LO R S0 D (k + 1) w π ∨ 40 ≤ w) (hd := fun _ => True) hB.2.2.1 hB.2.2.2 hJ hS a3 hno hU9 hq hv4 (fun z => hvr (trL_8.mp z)) hal hlo (fun _ _ => trivial)
      rw [wl0] at b1 b2 b3
      have hw40 : (40 : Nat) < 40 + wl (x f).2.1 := by rw [h1.st.2, wst]; decide
      have q2 := ((hN.1 f 40 (Nat.le_refl f)).2.1 (Nat.le_refl _) hw40).2
      have b2 : rt (f, 40) = vt (x f).1 v9 := b2
      rw [b2, hvt] at q2
      refine ⟨(q, U, 0), some a, hS, pR_nm (by omega), q2, fun d π hd => ⟨Or.inr ⟨Nat.le_refl _, by omega⟩, b1.trans hd, ?_⟩, fun hd hhd => ?_⟩
      · rcases (yRf (R := R) (S0 := S0)).mpr hT with z | z <;> rw [z] <;> decide
      · obtain ⟨a', c1, _, _, c4⟩ := kJ_letR (al2 := fun u => u < 40 ∧ AL D (k + 1) u) (lo2 := fun w π => LO R S0 D (k + 1) w π ∨ 40 ≤ w) (hd := hd) hB.2.2.1 hB.2.2.2 hJ hS a3 hno hU9 hq hv4 (fun z => hvr (trL_8.mp z)) hal hlo (fun κ z => hhd κ hT (by rw [wl0] at z; exact z))
        rw [wl0] at c1 c4
        rw [b1] at c1
        cases c1
        exact c4
    · have eTT : eT (D.E.vt v9) = (0, D.E.vt v9, 0) := by
        rcases hrz.nm hL.1 with ⟨_, _, _, z9⟩ | ⟨_, _, _, _, z9, _⟩
        · rw [z4] at z9
          unfold eT at z9 ⊢
          by_cases c : 10000 ≤ D.E.vt v9
          · rw [if_pos c] at z9
            by_cases c2 : D.E.vt v9 % 2 = 0
            · rw [if_pos c2] at z9; cases z9
            · rw [if_neg c2] at z9; cases z9
          · rw [if_neg c]
        · rw [z4] at z9; exact absurd z9 hT
      have hs0 : D.st k = (0, D.E.vt v9, 0) :: r := by rw [hs, eTT]
      obtain ⟨v1, v2, v3, v4, v5⟩ := h1.top hJ hN hs0 hv0
      have hS : (x f).2.1 = (0, D.E.vt v9, 0) :: trL (AL D k) r := by
        rw [a2, hs0]
        exact trL_0 (E := [(0, D.E.vt v9, 0)]) (fun e he => by rw [List.mem_singleton.mp he])
      rw [hwr] at v3
      refine ⟨(0, D.E.vt v9, 0), none, hS, nm_0 rfl, v3, fun d π hd => (by cases hd), fun hd _ => ?_⟩
      have := kJ_let (hd := hd) (al2 := fun u => u < 40 ∧ AL D (k + 1) u) (lo2 := fun w π => LO R S0 D (k + 1) w π ∨ 40 ≤ w) hB.2.2.2 hJ hS a3 hno hv0 (by rw [hvt]) hv4 (fun z => hvr (trL_8.mp z)) hal hlo
      rw [wl0] at this
      exact this
  obtain ⟨e0, ro, hS, hn0, hva, hro2, hJ2⟩ := key
  have hJ2 := hJ2 (fun κ => HK D (k + 1) v9 κ) (fun κ hT q => by
    rw [a4] at q
    rcases q with ⟨_, q⟩ | ⟨q, _⟩
    · exact hFn.hf hed (by omega) ho (by rw [hk]; decide) (by rw [(hus1 hT).2]; exact List.mem_singleton_self _) q.1
    · omega)
  obtain ⟨sl1, sl2⟩ := slo_ (R := R) (S := S1) e z3 h76
  have q40 : rQ S1 40 (nI k) = some (some va) := by rw [rQ_n (show k < rlen 40 from h24) (by decide), e.2.2.2.1, z1]
  refine Rt.bd q40 (Rt.be sl1 (Rt.bd q40 (Rt.bd sl2 ?_)))
  refine Rt.bn (pop_ (p := bs f) h73 (by omega)) (fun S3 xv ⟨c1, c2, c3, c4, c5⟩ => ?_)
  rw [c2]
  have n3 : nMS S3 = nMS S1 := c3.sam.1
  have hcv := hC.val (n := 0) hf6 (by omega)
  refine Rt.bn (fpl_ (T := D.E.vt v9) (W := V (f, 40)) (l := L (f, 40)) (h := H (f, 40)) (fl := fl) (t := t9) hL hx (c3.rx hX1).1 hrz z4 (by rw [n3]; exact hva) (c3.sam.fl hF) hC.f1 (by omega) hcv) (fun S5 r5 ⟨c, l1, fl3, t3, k3, b1, b2, b3, b4, b5, b7, b6⟩ => ?_)
  rw [b1]
  refine Rt.bd (wRI_n (show 40 * f + v9 < rlen 74 from by show _ < 2440; omega) (by decide)) ?_
  unfold f_step_590
  have go6 : GO (fun _ => False) (fun _ => False) (fun p => p = 40 * f + v9) S5 (Ur S5 74 (upd (Zr S5 74) (40 * f + v9) (nI (hdN c)))) := Ur.go rfl
  have y6 : Zr (Ur S5 74 (upd (Zr S5 74) (40 * f + v9) (nI (hdN c)))) 74 = upd (Zr S5 74) (40 * f + v9) (nI (hdN c)) := Zr_us
  have i6 : Zi (Ur S5 74 (upd (Zr S5 74) (40 * f + v9) (nI (hdN c)))) = Zi S5 := rfl
  have l6 : Zl (Ur S5 74 (upd (Zr S5 74) (40 * f + v9) (nI (hdN c)))) = Zl S5 := rfl
  have r6 : ∀ q : Nat, q ≠ 74 → Zr (Ur S5 74 (upd (Zr S5 74) (40 * f + v9) (nI (hdN c)))) q = Zr S5 q := fun q hq => Zr_u9 hq
  have f6 : FLs (Ur S5 74 (upd (Zr S5 74) (40 * f + v9) (nI (hdN c)))) fl3 t3 := b4.eq rfl rfl (r6 63 (by decide))
  generalize Ur S5 74 (upd (Zr S5 74) (40 * f + v9) (nI (hdN c))) = S6 at go6 y6 i6 l6 r6 f6
  have n6 : nMS S6 = nMS S5 := by
    show (Zl S6 61, Zr S6 62, Zr S6 63) = (Zl S5 61, Zr S5 62, Zr S5 63)
    rw [l6, r6 62 (by decide), r6 63 (by decide)]
  have go : GO (fun a => a ∈ fl ∨ t9 < a) (fun _ => False) (fun p => p = 40 * f + v9) S1 S6 := (c3.go.tr (b5.go.mo (fun a w => w.1) (fun _ w => w) (fun _ w => w))).tr (go6.mo (fun _ w => w.elim) (fun _ w => w) (fun _ w => w))
  have hag : ∀ l : List Nat, (∀ a ∈ l, a ∉ fl ∧ a ≤ t9) → agN (nMS S1) (nMS S6) l := fun l hl => go.ag (fun a ha w => by
    obtain ⟨w1, w2⟩ := hl a ha
    rcases w with w | w
    · exact w1 w
    · omega)
  obtain ⟨nv1, nv2⟩ := hN.nv (X := ((x f).1, (8, v9, 0) :: trL (AL D k) r, 0, lUp (kR (x f)) v9 ro, lUp (kH (x f)) v9 (fun κ => HK D (k + 1) v9 κ), (fun u => u < 40 ∧ AL D (k + 1) u), (fun w π => LO R S0 D (k + 1) w π ∨ 40 ≤ w), kAn (x f))) (n := 1) (w := fun _ => v9) (c := fun _ => c) (l := fun _ => l1) (h := fun _ => H (f, 40)) (M2 := nMS S6) (sk2 := Zl S6 72) (pl2 := Zr S6 74) (tk2 := Zr S6 67) (fl2 := fl3) (t2 := t3) (A := fun a => a ∈ fl ∨ t9 < a) (rt2 := qRt rt (f, v9) (vt (x f).1 v9)) (V2 := qUp (kCl V f 0) (f, v9) (V (f, 40))) hy hJ hC hf6 hws (by rw [h1.st.2, wst]; exact Nat.le_refl _) (by show wl ((8, v9, 0) :: trL (AL D k) r) = 0; rw [wl_0 (Or.inl rfl)]; exact wl0) (fun u => by
      rw [hS]
      show (8, u, 0) ∈ (8, v9, 0) :: trL (AL D k) r ↔ (∃ i : Nat, i < 1 ∧ u = v9) ∨ (8, u, 0) ∈ e0 :: trL (AL D k) r
      rw [List.mem_cons, List.mem_cons]
      constructor
      · rintro (q | q)
        · have := (Prod.mk.inj q).2
          exact Or.inl ⟨0, by decide, (Prod.mk.inj this).1⟩
        · exact Or.inr (Or.inr q)
      · rintro (⟨_, _, q⟩ | q | q)
        · rw [q]; exact Or.inl rfl
        · rw [← q] at hn0; exact absurd (Or.inl rfl) hn0
        · exact Or.inr q) rfl (fun _ _ => ⟨hv4, fun w => hvold (trL_8.mp (by rw [a2] at w; exact w))⟩) (fun a b ha hb _ => by omega) (fun q hq => by
      have n1 : q ≠ (f, v9) := fun w => hq (by rw [w]; exact ⟨rfl, Or.inl ⟨0, by decide, rfl⟩⟩)
      exact ⟨qRt_ne n1, (qUp_ne n1).trans (kCl_ge (fun w => hq ⟨w.1, Or.inr (by have := w.2.1; omega)⟩))⟩) (fun i _ => by
      rw [qRt_eq, qUp_eq, hvt, y6, n6]
      exact ⟨⟨k3, b2⟩, b3, upd_s⟩) (fun j u hj hu h8 => by
      rw [y6, upd_n (fun w => ?_), b5.2.2.2.2.2.2.1 74 (by decide) (by decide), c3.2.2.2.2.2.2.1]
      obtain rfl : j = f := by omega
      obtain rfl : u = v9 := by omega
      exact hvold (trL_8.mp (by rw [a2] at h8; exact h8))) (fun u d π hu hA hR => by
      have hR : lUp (kR (x f)) v9 ro u = some (d :: π) := hR
      by_cases c0 : u = v9
      · subst c0
        rw [lUp_eq] at hR
        obtain ⟨r1, r2, r3⟩ := hro2 d π hR
        have hw40 : (40 : Nat) < 40 + wl (x f).2.1 := by rw [h1.st.2, wst]; decide
        obtain ⟨n2, m1, m2, m3, m4⟩ := hN.2.2.2 f 40 d π (Nat.le_refl f) r1 (Or.inr ⟨Nat.le_refl _, hw40⟩) r2
        obtain ⟨l1', l2', l3', T9, l4', _, l6'⟩ := hJ.ld (Nat.le_refl f) r1 r2
        obtain ⟨m, em, ew⟩ := b7.2.2.2 r3
        refine Or.inr ⟨0, m, n2, by decide, rfl, ⟨l1', l2', l3'⟩, em, ?_, m1, ?_⟩
        · rw [n6]
          show Zl S5 61 m = _
          rw [ew]; exact m4 (Nat.le_refl _)
        · have nf : ∀ a : Nat, (a ∈ C d ∨ a ∈ L d) → a ∉ fl ∧ a ≤ t9 := fun a ha => by
            obtain ⟨q1, _, q3, _⟩ := hC.one (r := d) (by omega) (by omega) ha
            exact ⟨q1, q3⟩
          exact (hN.hd hy (d := d) l1' l2' l3').1.wk hy l4' l6' m2 (hag _ (fun a ha => nf a (Or.inl ha))) (hag _ (fun a ha => nf a (Or.inr ha)))
      · rw [lUp_ne c0] at hR
        refine Or.inl ⟨?_, hR, fun ⟨_, _, w⟩ => c0 w⟩
        rcases hA with ⟨q1, q2⟩ | ⟨q1, _⟩
        · exact Or.inl ⟨q1, hal u c0 q2⟩
        · omega) (fun a w => go.2.2.2.1 a w) (fun a w => w.imp id (fun z => Or.inl z)) (fun a => by rw [psN_1u]; exact b6 a) (fun q => by rw [psN_1u]; exact ⟨Nat.le_refl _, go.2.2.2.2.1 q (fun w => w)⟩) (fun q hq => by rw [l6, b5.2.2.2.2.2.1 72 (by decide), c5])
  refine Rt.rt ⟨hX1.go go ((b5.wq (c3.wq hX1.2.1)).eq (by rw [i6]) (by rw [i6])) ?_, Or.inr ⟨(go.2.1 3 (by decide)).trans e3, (go.2.1 70 (by decide)).trans e70, NXt.fr ?_ er ?_⟩⟩
  · rw [i6, b5.2.2.2.2.2.2.2.1 81 (by decide) (by decide), c3.2.2.2.2.2.2.2 81 (by decide)]; exact hX1.2.2.2.2
  · have hjn : ∀ a ∈ D.st (k + 1), pnE a := wkS_pn hw (fun a ha => by
      rcases List.mem_cons.mp ha with q | q
      · rw [q]; exact pnE_k (Or.inr (Or.inr (Or.inr rfl)))
      · exact hrn a q)
    have wj : wl (D.st (k + 1)) = 0 := by rw [wkS_wl hw, wl_0 (Or.inl rfl)]; exact hwr
    refine finG (X := ((x f).1, (8, v9, 0) :: trL (AL D k) r, 0, lUp (kR (x f)) v9 ro, lUp (kH (x f)) v9 (fun κ => HK D (k + 1) v9 κ), (fun u => u < 40 ∧ AL D (k + 1) u), (fun w π => LO R S0 D (k + 1) w π ∨ 40 ≤ w), kAn (x f))) hL h1.1 hed ⟨_, _, _, _, _, fl3, t3, hJ2, nv1, nv2, f6⟩ rfl a1 rfl (trL_c hw (show (8 : Nat) ≠ 3 by decide) (show (8 : Nat) ≠ 5 by decide) (show (8 : Nat) ≠ 6 by decide) (fun n hn => by rw [hwr] at hn; omega)) (gtS.of hjn) hjn (fun u hu q => ⟨hu, q⟩) (fun u κ hu q w => ?_) (fun m κ hm => by rw [wj] at hm; omega) (fun κ r1 m q => ?_) (fun w π hw4 _ q => ?_) ((go.2.1 77 (by decide)).trans h1.2.2.2.1.1) ?_ go.2.2.1 (go.2.1 76 (by decide))
    · have w : lUp (kH (x f)) v9 (fun κ => HK D (k + 1) v9 κ) u κ := w
      by_cases c0 : u = v9
      · subst c0; rw [lUp_eq] at w; exact w
      · rw [lUp_ne c0, a4] at w
        rcases w with ⟨_, w⟩ | ⟨w, _⟩
        · exact hFn.hk hed (by omega) (fun z => by rw [ho] at z; exact c0 (Option.some.inj z).symm) w.1
        · omega
    · rcases q with q | q
      · exact absurd (Or.inr (Or.inl rfl)) (trL_4 (pn_4 hjn) _ q)
      · exact absurd (Or.inr (Or.inr rfl)) (trL_4 (pn_4 hjn) _ q)
    · rcases q with q | q
      · exact q
      · omega
    · rw [i6, b5.2.2.2.2.2.2.2.1 73 (by decide) (by decide), c4, wj]; rfl
  · rw [h1.2.2.2.1.2.2, h.2.2.2.1.2.2]
end PS88
