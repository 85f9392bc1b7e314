-- m5.k.lean.txt
section
section PS88
variable {R : yR} {K : Ky} {S0 Sl S S1 S2 S3 : Sg} {D : fD} {i k j f nw n v : Nat} {vt : Nat → Nat → Nat} {tb : Nat → lTb} {x : Nat → kFm} {bs : Nat → Nat} {g : Nat → Int32} {X : kFm}
theorem eT_nm {t : Nat} : kNm (eT t) := by
  unfold eT
  by_cases c : 10000 ≤ t
  · rw [if_pos c]
    by_cases c2 : t % 2 = 0
    · rw [if_pos c2]; exact pR_nm (Or.inl rfl)
    · rw [if_neg c2]; exact pR_nm (Or.inr rfl)
  · rw [if_neg c]; exact nm_0 rfl
/-- a step's end, told in full -/
theorem finG (hL : LFS R S0 g) (hk : PK R S0 i D k) (e : edg D k j) (hX : kT (yT R S0) (zN R S0) (szN R S0) vt tb f (kUx x f X) bs S2) (x2 : X.2.2.1 = 0) (x1 : X.1 = i) (xA : kAn X = kAn (x f)) (hst : wkS X.2.1 (trL (AL D j) (D.st j))) (hg : gtS (D.st j)) (h3 : ∀ a ∈ D.st j, pnE a)
  (hal : ∀ u : Nat, u < 40 → AL D j u → kal X u) (hH1 : ∀ u κ : Nat, u < 40 → AL D j u → kH X u κ → HK D j u κ) (hH2 : ∀ m κ : Nat, m < wl (D.st j) → AL D j (40 + m) ∨ mkS (D.st j) → kH X (40 + m) κ → HK D j (40 + m) κ ∧ (mkS (D.st j) → m = 0 → okl R S0 i D κ)) (hH3 : ∀ (κ r m : Nat), (5, r, m) ∈ trL (AL D j) (D.st j) ∨ (6, r, m) ∈ trL (AL D j) (D.st j) → kH X 300 κ → HA R S0 i D j 300 κ) (hlo : ∀ (v : Nat) (π : lLc), v < 40 → (8, v, 0) ∈ D.st j → klo X v π → LO R S0 D j v π)
  (h77 : Zi S2 77 = nI j) (h73 : Zi S2 73 = nI (bs f + wl (D.st j))) (h75 : Zr S2 75 = Zr S 75) (h76 : Zi S2 76 = Zi S 76) : NXt R S0 vt tb i D k f x bs S S2 := by
  obtain ⟨hD, hkk, hW, hG, hE⟩ := hk
  have hy := nYk_of hL
  obtain ⟨j1, j2, j3, j4, j5⟩ := hD.in e
  obtain ⟨Y, y1, y2, y3⟩ := kT.fin (D := D) (j := j) (i := i) (R := R) (S0 := S0) hy yB_yT hX (by rw [kUx_top]; exact x2) (by rw [kUx_top]; exact x1) (by rw [kUx_top]; exact hst) (by rw [kUx_top]; exact hal) (by rw [kUx_top]; exact hH1) (by rw [kUx_top]; exact hH2) (by rw [kUx_top]; exact hH3) (by rw [kUx_top]; exact hlo)
  rw [kUx_top] at y2
  rw [kUx2] at y3
  obtain ⟨rt, V, C, L, H, fl, t, hh⟩ := y3
  exact ⟨j, Y, e, ⟨hD, ⟨j1, j2, j5⟩, j3 hW, hg, hE⟩, h77, h73, ⟨h75, h76⟩, y1, y2.trans xA, rt, V, C, L, H, fl, t, hh, (fun r m w => absurd rfl (h3 _ w).1), fun q r m v ρ hq w _ _ => (hq.elim (h3 _ w).2.2.1 (h3 _ w).2.2.2.1).elim⟩
/-- slot, and a variable's type -/
theorem slo_ {va : Nat} {ty : Option Nat} {mu : Int32} (e : RNx Sl S) (hu : isU Sl va v ty mu) (h76 : Zi S 76 = nI (f + 1)) : f_slot R.K S (some va) = some (S, nI (40 * f + v)) ∧ oR S 21 (some va) 2 = some ty := by
  obtain ⟨u1, nm, wh, u2⟩ := hu
  have r1 : oI S 21 (some va) 0 = some (nI v) := oI_mk (by rw [e.1]; exact u1) (by rw [e.2.1]; exact u2) rfl
  refine ⟨?_, oR_mk (by rw [e.1]; exact u1) (by rw [e.2.1]; exact u2) rfl⟩
  unfold f_slot
  rw [r1, h76, nI_pred]
  simp only [Option.bind_some]
  rw [show (40 : Int32) = nI 40 from rfl, show nI 40 * nI f = nI (40 * f) from (Int32.ofNat_mul 40 f).symm, nI_add]
theorem FnD.lv9 (hL : LFS R S0 g) (hE : D.E.y = yT R S0) (h : FnD R S0 i D) (e : edg D k j) {w : Nat} {π : lLc} (hw : w < 40) (q : LO R S0 D k w π) (hk : (D.I k).kd = 12 ∨ (D.I k).kd = 13 ∨ (D.I k).kd = 22 ∨ (D.I k).kd = 23 ∨ (D.I k).kd = 24) (hvs : w ∉ (D.I k).vs) (k14 : (D.I k).kd ≠ 14) : LO R S0 D j w π := fun h1 h2 => by
  obtain ⟨T, h3⟩ := h2
  refine h.lo (nYk_of hL) hE e hw q (fun c hc _ hm => ?_) h1 ⟨T, h3⟩
  rw [hE] at h3
  have c16 := inR_16 (nYk_of hL) h1 h3 hc
  rcases hm with ⟨_, hm⟩ | ⟨hm, _⟩
  · rw [show c / 16 = w by omega] at hm; exact hvs hm
  · exact k14 hm
/-- LET -/
theorem s_12 (hL : LFS R S0 g) (hx : LX S0 Sl) (h : RQ R S0 vt tb i D k f x bs Sl k S) (hQ : D.Pe < 24000) (hk : (D.I k).kd = 12) : Rt (f_step R.K S) (fun S2 _ => RTt R S0 vt tb i D k f x bs Sl S S2) := by
  have h24 := h.k24 hQ
  have hy := nYk_of hL
  have hB := yB_yT (R := R) (S0 := S0)
  refine stp_12 h hQ hk (fun S1 h1 e70 e3 er el => ?_)
  have hp := h1.pt.1
  unfold tPt at hp
  rw [hk] at hp
  obtain ⟨_, _, _, v, r, hvs, hv4, ho, hv0, hs, hvr, hwr, hus1, hus2, hn1, _, _, hw⟩ := hp
  have hgt := h1.1.2.2.2.1
  rw [hs] at hgt
  have hrn := hgt.tl
  have hb := h1.sb
  have hed : edg D k (k + 1) := h1.e1 (kd_s hk (by decide))
  have hEy := h1.1.2.2.2.2
  have hFn := h1.1.1
  have hnm : kNm (eT (D.E.vt v)) := eT_nm
  have wst : wl (D.st k) = 1 := by rw [hs, wl_n hnm, hwr]
  have h73 := h1.2.2.2.1.2.1
  rw [wst] at h73 hb
  obtain ⟨va, v9, ty, mu, z1, z2, z3, z4, z5⟩ := h1.2.1.2.2.2.2.2.2.2.2.2.2.1 (Or.inl hk)
  obtain rfl : v9 = v := by rw [hvs] at z2; exact (List.cons.inj z2).1.symm
  rw [hn1] at z4
  obtain ⟨z, rfl⟩ : ∃ z : Nat, ty = some z := by
    cases ty with
    | none => exact absurd z4.symm hv0
    | some z => exact ⟨z, rfl⟩
  have hrz := z5 z rfl
  have z4 : abT S0 z = D.E.vt v9 := z4
  have hX1 := h1.2.2.1
  have e := hX1.1
  obtain ⟨rt, V, C, L, H, fl, t9, ⟨hJ, hN, hC, hF⟩, _⟩ := h1.2.2.2.2.2.2.1
  obtain ⟨a1, a2, a3, a4, a5, a6⟩ := h1.2.2.2.2.2.1
  have hvt : vt (x f).1 = D.E.vt := by rw [a1]; exact h1.2.2.2.2.2.2.2.2.1
  have hf6 := h1.2.2.2.2.1
  have hws := h1.2.2.2.2.2.2.2.1
  have hro := hN.room hy hC hf6 hws hF.2.2.2.2
  have wl0 : wl (trL (AL D k) r) = 0 := by rw [trL_wl]; exact hwr
  have h76 := h1.2.2.2.1.2.2
  have hvold : (8, v9, 0) ∉ D.st k := fun w => by
    rw [hs] at w
    rcases List.mem_cons.mp w with w | w
    · rw [← w] at hnm; exact hnm (Or.inl rfl)
    · exact hvr w
  -- who was used, what lacked a value
  have hal : ∀ u : Nat, u ≠ v9 → (u < 40 ∧ AL D (k + 1) u) → kal (x f) u := fun u hu q => by
    rw [a5]
    exact ⟨q.1, hFn.al hed (by omega) (fun w => by rw [ho] at w; exact hu (Option.some.inj w).symm) q.2⟩
  have hlo : ∀ (w : Nat) (π : lLc), w ≠ v9 → ¬ (LO R S0 D (k + 1) w π ∨ 40 ≤ w) → ¬ klo (x f) w π := fun w π hw hn q => by
    rw [a6] at q
    by_cases c : w < 40
    · exact hn (Or.inl (hFn.lv9 hL hEy hed c q (Or.inl hk) (by rw [hvs]; exact fun z => hw (List.mem_singleton.mp z)) (by rw [hk]; decide)))
    · exact hn (Or.inr (by omega))
  have hno : ∀ r1 m2 : Nat, (5, r1, m2) ∉ trL (AL D k) r ∧ (6, r1, m2) ∉ trL (AL D k) r := fun r1 m2 => ⟨fun z => absurd (Or.inr (Or.inl rfl)) (trL_4 (pn_4 hrn) _ z), fun z => absurd (Or.inr (Or.inr rfl)) (trL_4 (pn_4 hrn) _ z)⟩
  -- the value on top, and where it leads
  have key : ∃ (e0 : tE) (ro : Option lLc), (x f).2.1 = e0 :: trL (AL D k) r ∧ kNm e0 ∧ vaR (yT R S0) (szN R S0) (nMS S1) (D.E.vt v9) (V (f, 40)) (Zl S1 72 (bs f)) (L (f, 40)) (H (f, 40)) ∧ (∀ (d : Nat × Nat) (π : lLc), ro = some (d :: π) → kA (x f) 40 ∧ kR (x f) 40 = some (d :: π) ∧ (yT R S0).1 (D.E.vt v9) ≠ 2) ∧ ∀ hd : Nat → Prop, (∀ κ : Nat, isRf (D.E.vt v9) → kH (x f) 40 κ → hd κ) → kJ (yT R S0) vt tb f (kUx x f ((x f).1, (8, v9, 0) :: trL (AL D k) r, 0, lUp (kR (x f)) v9 ro, lUp (kH (x f)) v9 hd, (fun u => u < 40 ∧ AL D (k + 1) u), (fun w π => LO R S0 D (k + 1) w π ∨ 40 ≤ w), kAn (x f))) (qRt rt (f, v9) (vt (x f).1 v9)) (qUp (kCl V f 0) (f, v9) (V (f, 40))) := by
    by_cases hT : isRf (D.E.vt v9)
    · have hal40 : AL D k 40 := Or.inl (by rw [(hus1 hT).1]; exact List.mem_singleton_self _)
      obtain ⟨q, U, hU9, hq, eTT⟩ : ∃ q U : Nat, U < 10000 ∧ ((q = 1 ∧ D.E.vt v9 = 10000 + 2 * U) ∨ (q = 2 ∧ D.E.vt v9 = 10001 + 2 * U)) ∧ eT (D.E.vt v9) = (q, U, 0) := by
        by_cases c : D.E.vt v9 % 2 = 0
        · refine ⟨1, (D.E.vt v9 - 10000) / 2, by have := hT.1; have := hT.2; omega, Or.inl ⟨rfl, by have := hT.1; omega⟩, ?_⟩
          unfold eT
          rw [if_pos hT.1, if_pos c]
        · refine ⟨2, (D.E.vt v9 - 10000) / 2, by have := hT.1; have := hT.2; omega, Or.inr ⟨rfl, by have := hT.1; omega⟩, ?_⟩
          unfold eT
          rw [if_pos hT.1, if_neg c]
      have hS : (x f).2.1 = (q, U, 0) :: trL (AL D k) r := by
        rw [a2, hs, eTT]
        show trE (AL D k) (wl r) (q, U, 0) :: trL (AL D k) r = _
        rw [trE_r (by show q = 1 ∨ q = 2; omega) (Or.inr (by rw [hwr]; exact hal40))]
      rw [hvt.symm] at hq
      obtain ⟨a, b1, b2, b3, _⟩ := kJ_letR (al2 := fun u => u < 40 ∧ AL D (k + 1) u) (lo2 := fun w π => LO R S0 D (k + 1) w π ∨ 40 ≤ w) (hd := fun _ => True) hB.2.2.1 hB.2.2.2 hJ hS a3 hno hU9 hq hv4 (fun z => hvr (trL_8.mp z)) hal hlo (fun _ _ => trivial)
      rw [wl0] at b1 b2 b3
      have hw40 : (40 : Nat) < 40 + wl (x f).2.1 := by rw [h1.st.2, wst]; decide
      have q2 := ((hN.1 f 40 (Nat.le_refl f)).2.1 (Nat.le_refl _) hw40).2
      have b2 : rt (f, 40) = vt (x f).1 v9 := b2
      rw [b2, hvt] at q2
      refine ⟨(q, U, 0), some a, hS, pR_nm (by omega), q2, fun d π hd => ⟨Or.inr ⟨Nat.le_refl _, by omega⟩, b1.trans hd, ?_⟩, fun hd hhd => ?_⟩
      · rcases (yRf (R := R) (S0 := S0)).mpr hT with z | z <;> rw [z] <;> decide
      · obtain ⟨a', c1, _, _, c4⟩ := kJ_letR (al2 := fun u => u < 40 ∧ AL D (k + 1) u) (lo2 := fun w π => LO R S0 D (k + 1) w π ∨ 40 ≤ w) (hd := hd) hB.2.2.1 hB.2.2.2 hJ hS a3 hno hU9 hq hv4 (fun z => hvr (trL_8.mp z)) hal hlo (fun κ z => hhd κ hT (by rw [wl0] at z; exact z))
        rw [wl0] at c1 c4
        rw [b1] at c1
        cases c1
        exact c4
    · have eTT : eT (D.E.vt v9) = (0, D.E.vt v9, 0) := by
        rcases hrz.nm hL.1 with ⟨_, _, _, z9⟩ | ⟨_, _, _, _, z9, _⟩
        · rw [z4] at z9
          unfold eT at z9 ⊢
          by_cases c : 10000 ≤ D.E.vt v9
          · rw [if_pos c] at z9
            by_cases c2 : D.E.vt v9 % 2 = 0
            · rw [if_pos c2] at z9; cases z9
            · rw [if_neg c2] at z9; cases z9
          · rw [if_neg c]
        · rw [z4] at z9; exact absurd z9 hT
      have hs0 : D.st k = (0, D.E.vt v9, 0) :: r := by rw [hs, eTT]
      obtain ⟨v1, v2, v3, v4, v5⟩ := h1.top hJ hN hs0 hv0
      have hS : (x f).2.1 = (0, D.E.vt v9, 0) :: trL (AL D k) r := by
        rw [a2, hs0]
        exact trL_0 (E := [(0, D.E.vt v9, 0)]) (fun e he => by rw [List.mem_singleton.mp he])
      rw [hwr] at v3
      refine ⟨(0, D.E.vt v9, 0), none, hS, nm_0 rfl, v3, fun d π hd => (by cases hd), fun hd _ => ?_⟩
      have := kJ_let (hd := hd) (al2 := fun u => u < 40 ∧ AL D (k + 1) u) (lo2 := fun w π => LO R S0 D (k + 1) w π ∨ 40 ≤ w) hB.2.2.2 hJ hS a3 hno hv0 (by rw [hvt]) hv4 (fun z => hvr (trL_8.mp z)) hal hlo
      rw [wl0] at this
      exact this
  obtain ⟨e0, ro, hS, hn0, hva, hro2, hJ2⟩ := key
  have hJ2 := hJ2 (fun κ => HK D (k + 1) v9 κ) (fun κ hT q => by
    rw [a4] at q
    rcases q with ⟨_, q⟩ | ⟨q, _⟩
    · exact hFn.hf hed (by omega) ho (by rw [hk]; decide) (by rw [(hus1 hT).2]; exact List.mem_singleton_self _) q.1
    · omega)
  obtain ⟨sl1, sl2⟩ := slo_ (R := R) (S := S1) e z3 h76
  have q40 : rQ S1 40 (nI k) = some (some va) := by rw [rQ_n (show k < rlen 40 from h24) (by decide), e.2.2.2.1, z1]
  refine Rt.bd q40 (Rt.be sl1 (Rt.bd q40 (Rt.bd sl2 ?_)))
  refine Rt.bn (pop_ (p := bs f) h73 (by omega)) (fun S3 xv ⟨c1, c2, c3, c4, c5⟩ => ?_)
  rw [c2]
  have n3 : nMS S3 = nMS S1 := c3.sam.1
  have hcv := hC.val (n := 0) hf6 (by omega)
  refine Rt.bn (fpl_ (T := D.E.vt v9) (W := V (f, 40)) (l := L (f, 40)) (h := H (f, 40)) (fl := fl) (t := t9) hL hx (c3.rx hX1).1 hrz z4 (by rw [n3]; exact hva) (c3.sam.fl hF) hC.f1 (by omega) hcv) (fun S5 r5 ⟨c, l1, fl3, t3, k3, b1, b2, b3, b4, b5, b7, b6⟩ => ?_)
  rw [b1]
  refine Rt.bd (wRI_n (show 40 * f + v9 < rlen 74 from by show _ < 2440; omega) (by decide)) ?_
  unfold f_step_590
  have go6 : GO (fun _ => False) (fun _ => False) (fun p => p = 40 * f + v9) S5 (Ur S5 74 (upd (Zr S5 74) (40 * f + v9) (nI (hdN c)))) := Ur.go rfl
  have y6 : Zr (Ur S5 74 (upd (Zr S5 74) (40 * f + v9) (nI (hdN c)))) 74 = upd (Zr S5 74) (40 * f + v9) (nI (hdN c)) := Zr_us
  have i6 : Zi (Ur S5 74 (upd (Zr S5 74) (40 * f + v9) (nI (hdN c)))) = Zi S5 := rfl
  have l6 : Zl (Ur S5 74 (upd (Zr S5 74) (40 * f + v9) (nI (hdN c)))) = Zl S5 := rfl
  have r6 : ∀ q : Nat, q ≠ 74 → Zr (Ur S5 74 (upd (Zr S5 74) (40 * f + v9) (nI (hdN c)))) q = Zr S5 q := fun q hq => Zr_u9 hq
  have f6 : FLs (Ur S5 74 (upd (Zr S5 74) (40 * f + v9) (nI (hdN c)))) fl3 t3 := b4.eq rfl rfl (r6 63 (by decide))
  generalize Ur S5 74 (upd (Zr S5 74) (40 * f + v9) (nI (hdN c))) = S6 at go6 y6 i6 l6 r6 f6
  have n6 : nMS S6 = nMS S5 := by
    show (Zl S6 61, Zr S6 62, Zr S6 63) = (Zl S5 61, Zr S5 62, Zr S5 63)
    rw [l6, r6 62 (by decide), r6 63 (by decide)]
  have go : GO (fun a => a ∈ fl ∨ t9 < a) (fun _ => False) (fun p => p = 40 * f + v9) S1 S6 := (c3.go.tr (b5.go.mo (fun a w => w.1) (fun _ w => w) (fun _ w => w))).tr (go6.mo (fun _ w => w.elim) (fun _ w => w) (fun _ w => w))
  have hag : ∀ l : List Nat, (∀ a ∈ l, a ∉ fl ∧ a ≤ t9) → agN (nMS S1) (nMS S6) l := fun l hl => go.ag (fun a ha w => by
    obtain ⟨w1, w2⟩ := hl a ha
    rcases w with w | w
    · exact w1 w
    · omega)
  obtain ⟨nv1, nv2⟩ := hN.nv (X := ((x f).1, (8, v9, 0) :: trL (AL D k) r, 0, lUp (kR (x f)) v9 ro, lUp (kH (x f)) v9 (fun κ => HK D (k + 1) v9 κ), (fun u => u < 40 ∧ AL D (k + 1) u), (fun w π => LO R S0 D (k + 1) w π ∨ 40 ≤ w), kAn (x f))) (n := 1) (w := fun _ => v9) (c := fun _ => c) (l := fun _ => l1) (h := fun _ => H (f, 40)) (M2 := nMS S6) (sk2 := Zl S6 72) (pl2 := Zr S6 74) (tk2 := Zr S6 67) (fl2 := fl3) (t2 := t3) (A := fun a => a ∈ fl ∨ t9 < a) (rt2 := qRt rt (f, v9) (vt (x f).1 v9)) (V2 := qUp (kCl V f 0) (f, v9) (V (f, 40))) hy hJ hC hf6 hws (by rw [h1.st.2, wst]; exact Nat.le_refl _) (by show wl ((8, v9, 0) :: trL (AL D k) r) = 0; rw [wl_0 (Or.inl rfl)]; exact wl0) (fun u => by
      rw [hS]
      show (8, u, 0) ∈ (8, v9, 0) :: trL (AL D k) r ↔ (∃ i : Nat, i < 1 ∧ u = v9) ∨ (8, u, 0) ∈ e0 :: trL (AL D k) r
      rw [List.mem_cons, List.mem_cons]
      constructor
      · rintro (q | q)
        · have := (Prod.mk.inj q).2
          exact Or.inl ⟨0, by decide, (Prod.mk.inj this).1⟩
        · exact Or.inr (Or.inr q)
      · rintro (⟨_, _, q⟩ | q | q)
        · rw [q]; exact Or.inl rfl
        · rw [← q] at hn0; exact absurd (Or.inl rfl) hn0
        · exact Or.inr q) rfl (fun _ _ => ⟨hv4, fun w => hvold (trL_8.mp (by rw [a2] at w; exact w))⟩) (fun a b ha hb _ => by omega) (fun q hq => by
      have n1 : q ≠ (f, v9) := fun w => hq (by rw [w]; exact ⟨rfl, Or.inl ⟨0, by decide, rfl⟩⟩)
      exact ⟨qRt_ne n1, (qUp_ne n1).trans (kCl_ge (fun w => hq ⟨w.1, Or.inr (by have := w.2.1; omega)⟩))⟩) (fun i _ => by
      rw [qRt_eq, qUp_eq, hvt, y6, n6]
      exact ⟨⟨k3, b2⟩, b3, upd_s⟩) (fun j u hj hu h8 => by
      rw [y6, upd_n (fun w => ?_), b5.2.2.2.2.2.2.1 74 (by decide) (by decide), c3.2.2.2.2.2.2.1]
      obtain rfl : j = f := by omega
      obtain rfl : u = v9 := by omega
      exact hvold (trL_8.mp (by rw [a2] at h8; exact h8))) (fun u d π hu hA hR => by
      have hR : lUp (kR (x f)) v9 ro u = some (d :: π) := hR
      by_cases c0 : u = v9
      · subst c0
        rw [lUp_eq] at hR
        obtain ⟨r1, r2, r3⟩ := hro2 d π hR
        have hw40 : (40 : Nat) < 40 + wl (x f).2.1 := by rw [h1.st.2, wst]; decide
        obtain ⟨n2, m1, m2, m3, m4⟩ := hN.2.2.2 f 40 d π (Nat.le_refl f) r1 (Or.inr ⟨Nat.le_refl _, hw40⟩) r2
        obtain ⟨l1', l2', l3', T9, l4', _, l6'⟩ := hJ.ld (Nat.le_refl f) r1 r2
        obtain ⟨m, em, ew⟩ := b7.2.2.2 r3
        refine Or.inr ⟨0, m, n2, by decide, rfl, ⟨l1', l2', l3'⟩, em, ?_, m1, ?_⟩
        · rw [n6]
          show Zl S5 61 m = _
          rw [ew]; exact m4 (Nat.le_refl _)
        · have nf : ∀ a : Nat, (a ∈ C d ∨ a ∈ L d) → a ∉ fl ∧ a ≤ t9 := fun a ha => by
            obtain ⟨q1, _, q3, _⟩ := hC.one (r := d) (by omega) (by omega) ha
            exact ⟨q1, q3⟩
          exact (hN.hd hy (d := d) l1' l2' l3').1.wk hy l4' l6' m2 (hag _ (fun a ha => nf a (Or.inl ha))) (hag _ (fun a ha => nf a (Or.inr ha)))
      · rw [lUp_ne c0] at hR
        refine Or.inl ⟨?_, hR, fun ⟨_, _, w⟩ => c0 w⟩
        rcases hA with ⟨q1, q2⟩ | ⟨q1, _⟩
        · exact Or.inl ⟨q1, hal u c0 q2⟩
        · omega) (fun a w => go.2.2.2.1 a w) (fun a w => w.imp id (fun z => Or.inl z)) (fun a => by rw [psN_1u]; exact b6 a) (fun q => by rw [psN_1u]; exact ⟨Nat.le_refl _, go.2.2.2.2.1 q (fun w => w)⟩) (fun q hq => by rw [l6, b5.2.2.2.2.2.1 72 (by decide), c5])
  refine Rt.rt ⟨hX1.go go ((b5.wq (c3.wq hX1.2.1)).eq (by rw [i6]) (by rw [i6])) ?_, Or.inr ⟨(go.2.1 3 (by decide)).trans e3, (go.2.1 70 (by decide)).trans e70, NXt.fr ?_ er ?_⟩⟩
  · rw [i6, b5.2.2.2.2.2.2.2.1 81 (by decide) (by decide), c3.2.2.2.2.2.2.2 81 (by decide)]; exact hX1.2.2.2.2
  · have hjn : ∀ a ∈ D.st (k + 1), pnE a := wkS_pn hw (fun a ha => by
      rcases List.mem_cons.mp ha with q | q
      · rw [q]; exact pnE_k (Or.inr (Or.inr (Or.inr rfl)))
      · exact hrn a q)
    have wj : wl (D.st (k + 1)) = 0 := by rw [wkS_wl hw, wl_0 (Or.inl rfl)]; exact hwr
    refine finG (X := ((x f).1, (8, v9, 0) :: trL (AL D k) r, 0, lUp (kR (x f)) v9 ro, lUp (kH (x f)) v9 (fun κ => HK D (k + 1) v9 κ), (fun u => u < 40 ∧ AL D (k + 1) u), (fun w π => LO R S0 D (k + 1) w π ∨ 40 ≤ w), kAn (x f))) hL h1.1 hed ⟨_, _, _, _, _, fl3, t3, hJ2, nv1, nv2, f6⟩ rfl a1 rfl (trL_c hw (show (8 : Nat) ≠ 3 by decide) (show (8 : Nat) ≠ 5 by decide) (show (8 : Nat) ≠ 6 by decide) (fun n hn => by rw [hwr] at hn; omega)) (gtS.of hjn) hjn (fun u hu q => ⟨hu, q⟩) (fun u κ hu q w => ?_) (fun m κ hm => by rw [wj] at hm; omega) (fun κ r1 m q => ?_) (fun w π hw4 _ q => ?_) ((go.2.1 77 (by decide)).trans h1.2.2.2.1.1) ?_ go.2.2.1 (go.2.1 76 (by decide))
    · have w : lUp (kH (x f)) v9 (fun κ => HK D (k + 1) v9 κ) u κ := w
      by_cases c0 : u = v9
      · subst c0; rw [lUp_eq] at w; exact w
      · rw [lUp_ne c0, a4] at w
        rcases w with ⟨_, w⟩ | ⟨w, _⟩
        · exact hFn.hk hed (by omega) (fun z => by rw [ho] at z; exact c0 (Option.some.inj z).symm) w.1
        · omega
    · rcases q with q | q
      · exact absurd (Or.inr (Or.inl rfl)) (trL_4 (pn_4 hjn) _ q)
      · exact absurd (Or.inr (Or.inr rfl)) (trL_4 (pn_4 hjn) _ q)
    · rcases q with q | q
      · exact q
      · omega
    · rw [i6, b5.2.2.2.2.2.2.2.1 73 (by decide) (by decide), c4, wj]; rfl
  · rw [h1.2.2.2.1.2.2, h.2.2.2.1.2.2]
end PS88
end
-- m5.l.lean.txt
section
section PS89
variable {R : yR} {K : Ky} {S0 Sl S S1 S2 S3 : Sg} {D : fD} {i k j f nw n v : Nat} {vt : Nat → Nat → Nat} {tb : Nat → lTb} {x : Nat → kFm} {bs : Nat → Nat} {g : Nat → Int32} {X : kFm} {y : qY} {zn sz rk : Nat → Nat} {M : nM}
/-- a new place, nothing lies there -/
theorem pL.new (hy : nYk y zn sz rk) : ∀ (m T : Nat) (c : List Nat), rk T < m → c.length = zn T → (∀ a ∈ c, M.h a = 0) → pL y sz M m T (fun _ => Option.none) c [] []
  | 0, _, _, h, _, _ => by omega
  | m + 1, T, c, h, hl, hz => by
    by_cases h2 : y.1 T = 2
    · obtain ⟨e1, _, _, _, e5⟩ := hy.2.2.1 T h2
      obtain ⟨cs, q1, q2⟩ := ftN_spl (cs := fun j => List.replicate (zn (y.2.2.2.2 T 0 j)) 0) (n := y.2.2.2.1 T 0) (c2 := c) (by
        rw [hl, e1, ftN_len]
        exact psN_cg (fun j _ => (List.length_replicate ..).symm))
      refine Or.inl ⟨h2, cs, fun _ => [], fun _ => [], q1, ftN_nil.symm, ftN_nil.symm, fun j hj => ?_⟩
      exact pL.new hy m _ (cs j) (by have := e5 j hj; omega) (by rw [q2 j hj, List.length_replicate]) (fun a ha => hz a (by rw [q1]; exact ftN_mem.mpr ⟨j, hj, ha⟩))
    · have h1 := hy.2.1 T h2
      rw [h1] at hl
      obtain ⟨n, rfl⟩ : ∃ n : Nat, c = [n] := by
        match c, hl with
        | [n], _ => exact ⟨n, rfl⟩
      exact Or.inr ⟨h2, n, rfl, Or.inl ⟨rfl, hz n (List.mem_singleton_self n), rfl, rfl⟩⟩
theorem pL.new2 (hy : nYk y zn sz rk) {T : Nat} {c : List Nat} (hl : c.length = zn T) (hz : ∀ a ∈ c, M.h a = 0) : ∃ k : Nat, pL y sz M k T (fun _ => Option.none) c [] [] := ⟨_, pL.new hy (rk T + 1) T c (Nat.lt_succ_self _) hl hz⟩
theorem nd_ct {L l2 fl : List Nat} {t t2 : Nat} (h : Frs fl t L l2 t2) (hF : FLs S fl t) (h1 : ∀ n ∈ fl, 1 ≤ n) (hd : L.Nodup) (h2 : l2.Nodup) (hL : ∀ n ∈ L, 1 ≤ n) (a : Nat) : cnN a L + cnN a l2 + ind t a = cnN a fl + ind t2 a := h.eq hd hF.2.2.2.1 h2 (fun m hm => ⟨h1 m hm, hF.2.2.2.2 m hm⟩) hL a
/-- EMPTY -/
theorem s_13 (hL : LFS R S0 g) (hx : LX S0 Sl) (h : RQ R S0 vt tb i D k f x bs Sl k S) (hQ : D.Pe < 24000) (hk : (D.I k).kd = 13) : Rt (f_step R.K S) (fun S2 _ => RTt R S0 vt tb i D k f x bs Sl S S2) := by
  have h24 := h.k24 hQ
  have hy := nYk_of hL
  have hB := yB_yT (R := R) (S0 := S0)
  refine stp_13 h hQ hk (fun S1 h1 e70 e3 er el => ?_)
  have hp := h1.pt.1
  unfold tPt at hp
  rw [hk] at hp
  obtain ⟨_, _, ⟨_, hnt⟩, _, _, v, hvs, hv4, ho, hvr, hwr, hn1, _, _, hw⟩ := hp
  have hrn := h1.1.2.2.2.1.all hnt
  have hb := h1.sb
  have hed : edg D k (k + 1) := h1.e1 (kd_s hk (by decide))
  have hEy := h1.1.2.2.2.2
  have hFn := h1.1.1
  have h73 := h1.2.2.2.1.2.1
  rw [hwr] at h73 hb
  obtain ⟨va, v9, ty, mu, z1, z2, z3, z4, z5⟩ := h1.2.1.2.2.2.2.2.2.2.2.2.2.1 (Or.inr (Or.inl hk))
  obtain rfl : v9 = v := by rw [hvs] at z2; exact (List.cons.inj z2).1.symm
  rw [hn1] at z4
  have hX1 := h1.2.2.1
  have e := hX1.1
  obtain ⟨rt, V, C, L, H, fl, t9, ⟨hJ, hN, hC, hF⟩, _⟩ := h1.2.2.2.2.2.2.1
  obtain ⟨a1, a2, a3, a4, a5, a6⟩ := h1.2.2.2.2.2.1
  have hvt : vt (x f).1 = D.E.vt := by rw [a1]; exact h1.2.2.2.2.2.2.2.2.1
  have hf6 := h1.2.2.2.2.1
  have hws := h1.2.2.2.2.2.2.2.1
  have hro := hN.room hy hC hf6 hws hF.2.2.2.2
  have wx : wl (x f).2.1 = 0 := by rw [h1.st.2]; exact hwr
  have h76 := h1.2.2.2.1.2.2
  have hvold : (8, v9, 0) ∉ (x f).2.1 := fun w => hvr (trL_8.mp (by rw [a2] at w; exact w))
  have hal : ∀ u : Nat, u ≠ v9 → (u < 40 ∧ AL D (k + 1) u) → kal (x f) u := fun u hu q => by
    rw [a5]
    exact ⟨q.1, hFn.al hed (by omega) (fun w => by rw [ho] at w; exact hu (Option.some.inj w).symm) q.2⟩
  have hlo : ∀ (w : Nat) (π : lLc), w ≠ v9 → ¬ (LO R S0 D (k + 1) w π ∨ 40 ≤ w) → ¬ klo (x f) w π := fun w π hw hn q => by
    rw [a6] at q
    by_cases c : w < 40
    · exact hn (Or.inl (hFn.lv9 hL hEy hed c q (Or.inr (Or.inl hk)) (by rw [hvs]; exact fun z => hw (List.mem_singleton.mp z)) (by rw [hk]; decide)))
    · exact hn (Or.inr (by omega))
  have hlv : ∀ (π : lLc) (t : Nat), qM π → qW (yT R S0) (vt (x f).1 v9) π t → (LO R S0 D (k + 1) v9 π ∨ 40 ≤ v9) := fun π T q1 q2 => Or.inl (fun q3 _ => by
    rw [hvt] at q2
    have hc := inR_ex hy (ρ := π) (T0 := D.E.vt v9) (v := v9)
    have c16 := inR_16 hy q1 q2 hc
    exact ⟨_, hc, hFn.2.2.1.2.1 k hed.1 hed.2.1 hed.2.2.1 (k + 1) hed.2.2.2 _ (by omega) (Or.inr (Or.inl ⟨hk, by rw [hvs, show (16 * v9 + (pfO R S0 (D.E.vt v9) π).1) / 16 = v9 by omega]; exact List.mem_singleton_self _⟩))⟩)
  have hno : ∀ r1 m2 : Nat, (5, r1, m2) ∉ (x f).2.1 ∧ (6, r1, m2) ∉ (x f).2.1 := fun r1 m2 => by
    rw [a2]
    exact ⟨fun z => absurd (Or.inr (Or.inl rfl)) (trL_4 (pn_4 hrn) _ z), fun z => absurd (Or.inr (Or.inr rfl)) (trL_4 (pn_4 hrn) _ z)⟩
  have hJ2 := kJ_let0 (hd := fun κ => HK D (k + 1) v9 κ) (al2 := fun u => u < 40 ∧ AL D (k + 1) u) (lo2 := fun w π => LO R S0 D (k + 1) w π ∨ 40 ≤ w) hB.2.2.2 hJ a3 hno hv4 hvold hal hlo hlv
  obtain ⟨sl1, sl2⟩ := slo_ (R := R) (S := S1) e z3 h76
  have q40 : rQ S1 40 (nI k) = some (some va) := by rw [rQ_n (show k < rlen 40 from h24) (by decide), e.2.2.2.1, z1]
  refine Rt.bd q40 (Rt.be sl1 (Rt.bd q40 (Rt.bd sl2 ?_)))
  have hzT := hy.1 (abU S0 ty)
  refine Rt.bn (npl_ hL hx e z5 hzT.1 hzT.2.1 hF (by have := hzT.2.1; omega)) (fun S5 r5 ⟨c, fl3, t3, hc0, b1, b2, b3, b4, b5, b6, b7, b8, b9⟩ => ?_)
  have ec : r5 = nI (hdN c) := by
    rw [b3]
    have := hdN_0 (c := c) (by rw [b1]; exact hzT.1)
    rw [b2] at this
    rw [Option.some.inj this]
  rw [ec]
  refine Rt.bd (wRI_n (show 40 * f + v9 < rlen 74 from by show _ < 2440; omega) (by decide)) ?_
  unfold f_step_590
  have go6 : GO (fun _ => False) (fun _ => False) (fun p => p = 40 * f + v9) S5 (Ur S5 74 (upd (Zr S5 74) (40 * f + v9) (nI (hdN c)))) := Ur.go rfl
  have y6 : Zr (Ur S5 74 (upd (Zr S5 74) (40 * f + v9) (nI (hdN c)))) 74 = upd (Zr S5 74) (40 * f + v9) (nI (hdN c)) := Zr_us
  have i6 : Zi (Ur S5 74 (upd (Zr S5 74) (40 * f + v9) (nI (hdN c)))) = Zi S5 := rfl
  have l6 : Zl (Ur S5 74 (upd (Zr S5 74) (40 * f + v9) (nI (hdN c)))) = Zl S5 := rfl
  have r6 : ∀ q : Nat, q ≠ 74 → Zr (Ur S5 74 (upd (Zr S5 74) (40 * f + v9) (nI (hdN c)))) q = Zr S5 q := fun q hq => Zr_u9 hq
  have f6 : FLs (Ur S5 74 (upd (Zr S5 74) (40 * f + v9) (nI (hdN c)))) fl3 t3 := b6.eq rfl rfl (r6 63 (by decide))
  generalize Ur S5 74 (upd (Zr S5 74) (40 * f + v9) (nI (hdN c))) = S6 at go6 y6 i6 l6 r6 f6
  have n6 : nMS S6 = nMS S5 := by
    show (Zl S6 61, Zr S6 62, Zr S6 63) = (Zl S5 61, Zr S5 62, Zr S5 63)
    rw [l6, r6 62 (by decide), r6 63 (by decide)]
  have go : GO (fun a => a ∈ fl ∨ t9 < a) (fun _ => False) (fun p => p = 40 * f + v9) S1 S6 := (b7.go.mo (fun a w => (b8.1 a w).2.2) (fun _ w => w) (fun _ w => w)).tr (go6.mo (fun _ w => w.elim) (fun _ w => w) (fun _ w => w))
  have hL40 : L (f, 40) = [] ∧ H (f, 40) = [] := ((hN.1 f 40 (Nat.le_refl f)).2.2 (fun z => by rcases z with z | z <;> omega)).2
  obtain ⟨nv1, nv2⟩ := hN.nv (X := ((x f).1, (8, v9, 0) :: (x f).2.1, 0, lUp (kR (x f)) v9 none, lUp (kH (x f)) v9 (fun κ => HK D (k + 1) v9 κ), (fun u => u < 40 ∧ AL D (k + 1) u), (fun w π => LO R S0 D (k + 1) w π ∨ 40 ≤ w), kAn (x f))) (n := 1) (w := fun _ => v9) (c := fun _ => c) (l := fun _ => []) (h := fun _ => []) (M2 := nMS S6) (sk2 := Zl S6 72) (pl2 := Zr S6 74) (tk2 := Zr S6 67) (fl2 := fl3) (t2 := t3) (A := fun a => a ∈ fl ∨ t9 < a) (rt2 := qRt rt (f, v9) (vt (x f).1 v9)) (V2 := qUp V (f, v9) (fun _ => none)) hy hJ hC hf6 hws (by rw [wx]; decide) (by show wl ((8, v9, 0) :: (x f).2.1) = 0; rw [wl_0 (Or.inl rfl)]; exact wx) (fun u => by
      show (8, u, 0) ∈ (8, v9, 0) :: (x f).2.1 ↔ (∃ i : Nat, i < 1 ∧ u = v9) ∨ (8, u, 0) ∈ (x f).2.1
      rw [List.mem_cons]
      constructor
      · rintro (q | q)
        · have := (Prod.mk.inj q).2
          exact Or.inl ⟨0, by decide, (Prod.mk.inj this).1⟩
        · exact Or.inr q
      · rintro (⟨_, _, q⟩ | q)
        · rw [q]; exact Or.inl rfl
        · exact Or.inr q) rfl (fun _ _ => ⟨hv4, hvold⟩) (fun a b ha hb _ => by omega) (fun q hq => by
      have n1 : q ≠ (f, v9) := fun w => hq (by rw [w]; exact ⟨rfl, Or.inl ⟨0, by decide, rfl⟩⟩)
      exact ⟨qRt_ne n1, qUp_ne n1⟩) (fun i _ => by
      rw [qRt_eq, qUp_eq, hvt, y6, n6]
      exact ⟨pL.new2 hy (by rw [b1, z4]) (fun a ha => b9 a ha), b4, upd_s⟩) (fun j u hj hu h8 => by
      rw [y6, upd_n (fun w => ?_), b7.2.2.2.2.2.2.1 74 (by decide) (by decide)]
      obtain rfl : j = f := by omega
      obtain rfl : u = v9 := by omega
      exact hvold h8) (fun u d π hu hA hR => by
      have hR : lUp (kR (x f)) v9 none u = some (d :: π) := hR
      by_cases c0 : u = v9
      · subst c0
        rw [lUp_eq] at hR; cases hR
      · rw [lUp_ne c0] at hR
        refine Or.inl ⟨?_, hR, fun ⟨_, _, w⟩ => c0 w⟩
        rcases hA with ⟨q1, q2⟩ | ⟨q1, _⟩
        · exact Or.inl ⟨q1, hal u c0 q2⟩
        · omega) (fun a w => go.2.2.2.1 a w) (fun a w => w.imp id (fun z => Or.inl z)) (fun a => by
      rw [psN_1u, hL40.1]
      have := nd_ct b8 hF hC.f1 b5 b6.2.2.2.1 (fun n hn => (b4.1 n hn).1) a
      show cnN a c + 0 + cnN a fl3 + ind t9 a = 0 + cnN a fl + ind t3 a
      omega) (fun q => by rw [psN_1u]; exact ⟨Nat.zero_le _, go.2.2.2.2.1 q (fun w => w)⟩) (fun q hq => by rw [l6, b7.2.2.2.2.2.1 72 (by decide)])
  refine Rt.rt ⟨hX1.go go ((b7.wq hX1.2.1).eq (by rw [i6]) (by rw [i6])) ?_, Or.inr ⟨(go.2.1 3 (by decide)).trans e3, (go.2.1 70 (by decide)).trans e70, NXt.fr ?_ er ?_⟩⟩
  · rw [i6, b7.2.2.2.2.2.2.2.1 81 (by decide) (by decide)]; exact hX1.2.2.2.2
  · have hjn : ∀ a ∈ D.st (k + 1), pnE a := wkS_pn hw (fun a ha => by
      rcases List.mem_cons.mp ha with q | q
      · rw [q]; exact pnE_k (Or.inr (Or.inr (Or.inr rfl)))
      · exact hrn a q)
    have wj : wl (D.st (k + 1)) = 0 := by rw [wkS_wl hw, wl_0 (Or.inl rfl)]; exact hwr
    refine finG (X := ((x f).1, (8, v9, 0) :: (x f).2.1, 0, lUp (kR (x f)) v9 none, lUp (kH (x f)) v9 (fun κ => HK D (k + 1) v9 κ), (fun u => u < 40 ∧ AL D (k + 1) u), (fun w π => LO R S0 D (k + 1) w π ∨ 40 ≤ w), kAn (x f))) hL h1.1 hed ⟨_, _, _, _, _, fl3, t3, hJ2, nv1, nv2, f6⟩ rfl a1 rfl (by
      show wkS ((8, v9, 0) :: (x f).2.1) _
      rw [a2]
      exact trL_c hw (show (8 : Nat) ≠ 3 by decide) (show (8 : Nat) ≠ 5 by decide) (show (8 : Nat) ≠ 6 by decide) (fun n hn => by rw [hwr] at hn; omega)) (gtS.of hjn) hjn (fun u hu q => ⟨hu, q⟩) (fun u κ hu q w => ?_) (fun m κ hm => by rw [wj] at hm; omega) (fun κ r1 m q => ?_) (fun w π hw4 _ q => ?_) ((go.2.1 77 (by decide)).trans h1.2.2.2.1.1) ?_ go.2.2.1 (go.2.1 76 (by decide))
    · have w : lUp (kH (x f)) v9 (fun κ => HK D (k + 1) v9 κ) u κ := w
      by_cases c0 : u = v9
      · subst c0; rw [lUp_eq] at w; exact w
      · rw [lUp_ne c0, a4] at w
        rcases w with ⟨_, w⟩ | ⟨w, _⟩
        · exact hFn.hk hed (by omega) (fun z => by rw [ho] at z; exact c0 (Option.some.inj z).symm) w.1
        · omega
    · rcases q with q | q
      · exact absurd (Or.inr (Or.inl rfl)) (trL_4 (pn_4 hjn) _ q)
      · exact absurd (Or.inr (Or.inr rfl)) (trL_4 (pn_4 hjn) _ q)
    · rcases q with q | q
      · exact q
      · omega
    · rw [i6, b7.2.2.2.2.2.2.2.1 73 (by decide) (by decide), wj]; exact h73
  · rw [h1.2.2.2.1.2.2, h.2.2.2.1.2.2]
end PS89
end
-- m5.m.lean.txt
section
section PS90
variable {R : yR} {K : Ky} {S0 Sl S S1 S2 S3 : Sg} {D : fD} {i k j f nw n v : Nat} {vt : Nat → Nat → Nat} {tb : Nat → lTb} {x : Nat → kFm} {bs : Nat → Nat} {g : Nat → Int32} {X : kFm}
/-- a step's end, told in full, what is matched on too -/
theorem finG3 (hL : LFS R S0 g) (hk : PK R S0 i D k) (e : edg D k j) (hX : kT (yT R S0) (zN R S0) (szN R S0) vt tb f (kUx x f X) bs S2) (x2 : X.2.2.1 = 0) (x1 : X.1 = i) (xA : kAn X = kAn (x f)) (hst : wkS X.2.1 (trL (AL D j) (D.st j))) (hg : gtS (D.st j)) (h3 : ∀ (Y : kFm) (rt : Nat × Nat → Nat) (V : Nat × Nat → qV) (C L H : Nat × Nat → List Nat), Y.2.1 = trL (AL D j) (D.st j) → kJ (yT R S0) vt tb f (kUx x f Y) rt V → kN (yT R S0) (zN R S0) (szN R S0) (nMS S2) (Zl S2 72) (Zr S2 74) f (kUx x f Y) rt V bs C L H → ∀ r m : Nat, (3, r, m) ∈ D.st j → V (f, 40) [] = some (r / 12, r % 12)) (h5 : ∀ q r m : Nat, (q = 5 ∨ q = 6) → (q, r, m) ∉ D.st j)
  (hal : ∀ u : Nat, u < 40 → AL D j u → kal X u) (hH1 : ∀ u κ : Nat, u < 40 → AL D j u → kH X u κ → HK D j u κ) (hH2 : ∀ m κ : Nat, m < wl (D.st j) → AL D j (40 + m) ∨ mkS (D.st j) → kH X (40 + m) κ → HK D j (40 + m) κ ∧ (mkS (D.st j) → m = 0 → okl R S0 i D κ)) (hH3 : ∀ (κ r m : Nat), (5, r, m) ∈ trL (AL D j) (D.st j) ∨ (6, r, m) ∈ trL (AL D j) (D.st j) → kH X 300 κ → HA R S0 i D j 300 κ) (hlo : ∀ (v : Nat) (π : lLc), v < 40 → (8, v, 0) ∈ D.st j → klo X v π → LO R S0 D j v π)
  (h77 : Zi S2 77 = nI j) (h73 : Zi S2 73 = nI (bs f + wl (D.st j))) (h75 : Zr S2 75 = Zr S 75) (h76 : Zi S2 76 = Zi S 76) : NXt R S0 vt tb i D k f x bs S S2 := by
  obtain ⟨hD, hkk, hW, hG, hE⟩ := hk
  have hy := nYk_of hL
  obtain ⟨j1, j2, j3, j4, j5⟩ := hD.in e
  obtain ⟨Y, y1, y2, y3⟩ := kT.fin (D := D) (j := j) (i := i) (R := R) (S0 := S0) hy yB_yT hX (by rw [kUx_top]; exact x2) (by rw [kUx_top]; exact x1) (by rw [kUx_top]; exact hst) (by rw [kUx_top]; exact hal) (by rw [kUx_top]; exact hH1) (by rw [kUx_top]; exact hH2) (by rw [kUx_top]; exact hH3) (by rw [kUx_top]; exact hlo)
  rw [kUx_top] at y2
  rw [kUx2] at y3
  obtain ⟨rt, V, C, L, H, fl, t, hh⟩ := y3
  exact ⟨j, Y, e, ⟨hD, ⟨j1, j2, j5⟩, j3 hW, hg, hE⟩, h77, h73, ⟨h75, h76⟩, y1, y2.trans xA, rt, V, C, L, H, fl, t, hh, h3 Y rt V C L H y1.2.1 hh.1 hh.2.1, fun q r m v ρ hq w _ _ => absurd w (h5 q r _ hq)⟩
/-- the variant that a value on top has -/
theorem top_g {T : Nat} {s : List tE} {rt : Nat × Nat → Nat} {V : Nat × Nat → qV} {C L H : Nat × Nat → List Nat} {M : nM} {sk : Nat → Int64} {pl : Nat → Int32} {y : qY} {zn sz : Nat → Nat} (hJ : kJ y vt tb f x rt V) (hN : kN y zn sz M sk pl f x rt V bs C L H) (hS : (x f).2.1 = (0, T, 0) :: s) (hw : wl s = 0) (hT : T ≠ 0) (h3 : y.1 T = 3) : ∃ m gg : Nat, V (f, 40) [] = some (T, gg) ∧ gg < y.2.2.1 T ∧ sk (bs f) = nL m ∧ (1 ≤ m ∧ m < 430000) ∧ vrW (M.w m) = nI gg := by
  have hE := kK_top hJ hS
  rw [hw] at hE
  obtain ⟨_, _, _, e0, _⟩ := hE
  obtain ⟨e1, _⟩ := e0 hT
  have q := ((hN.1 f 40 (Nat.le_refl f)).2.1 (Nat.le_refl _) (by rw [hS, wl_n (nm_0 rfl), hw]; decide)).2
  have e1 : rt (f, 40) = T := e1
  rw [e1] at q
  rcases q with ⟨z, _⟩ | ⟨_, k, ⟨_, m, gg, cs, ls, hs, q1, q2, q3, q4, _, q6, _⟩ | ⟨z, _⟩ | ⟨z, _⟩⟩
  · rw [h3] at z; cases z
  · exact ⟨m, gg, q1, q2, q3, q4, q6⟩
  · rw [h3] at z; cases z
  · exact absurd h3 z
theorem sc_at {l : List Nat} {n : Nat} (h : n < l.length) : ∃ j : Nat, l[n]? = some j ∧ j ∈ l := ⟨l[n], List.getElem?_eq_getElem h, List.getElem_mem h⟩
/-- the row of a match -/
theorem RQ.sc (h1 : RQ R S0 vt tb i D k f x bs Sl nw S) (hQ : D.Pe < 24000) (hk : (D.I k).kd = 20 ∨ (D.I k).kd = 21) {gg j : Nat} (hl : (D.I k).sc.length ≤ 12) (hj : (D.I k).sc[gg]? = some j) : ∃ a : Nat, rQ S 42 (nI k) = some (some a) ∧ aI R.K S (some a) (nI gg) = some (nI j) := by
  have h24 := h1.k24 hQ
  have e := h1.2.2.1.1
  rcases h1.2.1.2.2.2.2.2.2.1 with ⟨w, _⟩ | ⟨w, _⟩ | ⟨w, _⟩ | ⟨_, w, _⟩ | ⟨_, _, _, _, _, w1, w2, _⟩
  · rw [w] at hk; exact absurd hk (by decide)
  · rw [w] at hk; exact absurd hk (by decide)
  · omega
  · rcases w with ⟨_, w⟩ | ⟨a, F, w1, w2, w3, _, w5⟩
    · rw [w] at hj; cases hj
    · have hg := (List.getElem?_eq_some_iff.mp hj).1
      refine ⟨a, by rw [rQ_n (show k < rlen 42 from h24) (by decide), e.2.2.2.1, w1], ?_⟩
      rw [← (w5 gg j hj).1]
      exact aI_n (by rw [e.1]; exact w2) (by rw [e.2.1]; exact w3) hg (by omega)
  · omega
/-- MATCH -/
theorem s_20 (hL : LFS R S0 g) (hx : LX S0 Sl) (h : RQ R S0 vt tb i D k f x bs Sl k S) (hQ : D.Pe < 24000) (hk : (D.I k).kd = 20) : Rt (f_step R.K S) (fun S2 _ => RTt R S0 vt tb i D k f x bs Sl S S2) := by
  have h24 := h.k24 hQ
  have hy := nYk_of hL
  refine stp_20 h hQ hk (fun S1 h1 e70 e3 er el => ?_)
  have hp := h1.pt.1
  unfold tPt at hp
  rw [hk] at hp
  obtain ⟨d0, r, hs, hwr, n70, y3, hl1, hl2, hJ9⟩ := hp
  rw [h1.1.2.2.2.2] at y3 hl1
  have hgt := h1.1.2.2.2.1
  rw [hs] at hgt
  have hrn := hgt.tl
  have hb := h1.sb
  have h73 := h1.2.2.2.1.2.1
  have hFn := h1.1.1
  have wst : wl (D.st k) = 1 := by rw [hs, wl_01.2, hwr]
  rw [wst] at h73 hb
  have hX1 := h1.2.2.1
  have e := hX1.1
  obtain ⟨rt, V, C, L, H, fl, t9, ⟨hJ, hN, hC, hF⟩, _⟩ := h1.2.2.2.2.2.2.1
  obtain ⟨a1, a2, a3, a4, a5, a6⟩ := h1.2.2.2.2.2.1
  have hS : (x f).2.1 = (0, 4 + (D.I k).n1, 0) :: trL (AL D k) r := by
    rw [a2, hs]
    exact trL_0 (E := [(0, 4 + (D.I k).n1, 0)]) (fun e he => by rw [List.mem_singleton.mp he])
  obtain ⟨m, gg, q1, q2, q3, q4, q6⟩ := top_g hJ hN hS (by rw [trL_wl]; exact hwr) (by omega) y3
  have hgl : gg < (D.I k).sc.length := by rw [hl1]; exact q2
  obtain ⟨j, hj, hjm⟩ := sc_at hgl
  obtain ⟨hkj, _, _, hwj⟩ := hJ9 gg j hj
  obtain ⟨a, ra, rb⟩ := h1.sc hQ (Or.inl hk) hl2 hj
  have hed : edg D k j := h1.ed hjm
  unfold f_step_477 f_runMatch f_runMatch_51
  have r27 : Zr S1 27 = Zr Sl 27 := e.2.2.2.2.2.1 27 (by decide)
  refine Rt.bn (Q := fun S2 _ => RTt R S0 vt tb i D k f x bs Sl S S2) ?_ (fun S2 _ q => by unfold f_step_590; exact Rt.rt q)
  refine Rt.bd (v := 20) (by rw [rI_n (show k < rlen 27 from h24) (by decide), r27, h1.2.1.1, hk]; rfl) (Rt.ip rfl ?_)
  rw [h73, show nI (bs f + 1) - 1 = nI (bs f) from nI_pred _]
  refine Rt.bd (rJ_n (show bs f < rlen 72 from by show _ < 20000; omega) (by decide)) ?_
  rw [q3, nL_t]
  have hvo : f_variantOf_ R.K S1 (nI m) = some (S1, nI gg) := by
    unfold f_variantOf_
    rw [rJ_n (show m < rlen 61 from q4.2) (by decide)]
    show some (S1, vrW (Zl S1 61 m)) = _
    rw [show vrW (Zl S1 61 m) = nI gg from q6]
  refine Rt.bd ra (Rt.be hvo (Rt.bd rb (Rt.bd (v := Ui S1 77 (nI j)) rfl ?_)))
  have hno9 : (D.I k).ho = none := d0.2.2.1
  have hno : ∀ u : Nat, (D.I k).ho ≠ some u := fun u w => by rw [hno9] at w; cases w
  have sm : sam S1 (Ui S1 77 (nI j)) := Ui.sam9 (by decide) (by decide)
  refine Rt.rt ⟨hX1.u77, Or.inr ⟨(Zi_n (by decide)).trans e3, (Zi_n (by decide)).trans e70, NXt.fr ?_ er ?_⟩⟩
  · -- the stack at j
    obtain ⟨r', hsj, hwr'⟩ : ∃ r' : List tE, D.st j = (3, (4 + (D.I k).n1) * 12 + gg, 1) :: r' ∧ wkS r r' := by
      cases hd : D.st j with
      | nil => rw [hd] at hwj; exact hwj.elim
      | cons e2 r' =>
        rw [hd] at hwj
        obtain ⟨w1, w2⟩ := hwj
        refine ⟨r', ?_, w2⟩
        rcases w1 with w1 | ⟨t2, _, w1, ⟨t3, _, w3⟩ | ⟨T3, w3 | w3⟩⟩
        · rw [w1]
        · have := congrArg Prod.fst w3
          have this : (3 : Nat) = 0 := this
          omega
        · have := congrArg Prod.fst w3
          have this : (3 : Nat) = 1 := this
          omega
        · have := congrArg Prod.fst w3
          have this : (3 : Nat) = 2 := this
          omega
    have hrn' := wkS_pn hwr' hrn
    have hg12 : gg < 12 := by omega
    have n3 : kNm (3, (4 + (D.I k).n1) * 12 + gg, 1) := by show ¬ ((3 : Nat) = 8 ∨ (3 : Nat) = 4 ∨ (3 : Nat) = 5 ∨ (3 : Nat) = 6); decide
    have wj : wl (D.st j) = 1 := by rw [hsj, wl_n n3, wkS_wl hwr', hwr]
    have htr : trL (AL D j) (D.st j) = (0, 4 + (D.I k).n1, 0) :: trL (AL D j) r' := by
      rw [hsj]
      show trE (AL D j) (wl r') (3, (4 + (D.I k).n1) * 12 + gg, 1) :: trL (AL D j) r' = _
      rw [trE_3 rfl]
      show (0, ((4 + (D.I k).n1) * 12 + gg) / 12, 0) :: _ = _
      rw [show ((4 + (D.I k).n1) * 12 + gg) / 12 = 4 + (D.I k).n1 by omega]
    have nmk : ¬ mkS (D.st j) := fun ⟨a, b1, b2, b3⟩ => by
      rw [hsj] at b1
      rcases List.mem_cons.mp b1 with w | w
      · rw [w] at b2
        have b2 : (3 : Nat) = 1 ∨ (3 : Nat) = 2 := b2
        omega
      · exact b3 ((hrn' a w).2.2.2.2 b2)
    have n56 : ∀ r1 m1 : Nat, (5, r1, m1) ∉ trL (AL D j) (D.st j) ∧ (6, r1, m1) ∉ trL (AL D j) (D.st j) := fun r1 m1 => by
      have h4 : ∀ a ∈ D.st j, ¬ (a.1 = 4 ∨ a.1 = 5 ∨ a.1 = 6) := fun a ha => by
        rw [hsj] at ha
        rcases List.mem_cons.mp ha with w | w
        · rw [w]; show ¬ ((3 : Nat) = 4 ∨ (3 : Nat) = 5 ∨ (3 : Nat) = 6); decide
        · exact pn_4 hrn' a w
      exact ⟨fun z => absurd (Or.inr (Or.inl rfl)) (trL_4 h4 _ z), fun z => absurd (Or.inr (Or.inr rfl)) (trL_4 h4 _ z)⟩
    have hkT := (show kT (yT R S0) (zN R S0) (szN R S0) vt tb f x bs S1 from ⟨rt, V, C, L, H, fl, t9, hJ, hN, hC, hF⟩).skc sm (fun _ _ => rfl)
    have eX : kUx x f (x f) = x := funext fun q => by
      by_cases c : q = f
      · rw [c, kUx_top]
      · rw [kUx_lo c]
    refine finG3 (X := x f) hL h1.1 hed (by rw [eX]; exact hkT) a3 a1 rfl ?_ (by rw [hsj]; exact gtS.cn hrn') (fun Y rt' V' C' L' H' hY hJ' hN' r1 m1 hm1 => ?_) (fun q9 r9 m9 hq9 w9 => by
      rw [hsj] at w9
      rcases List.mem_cons.mp w9 with w | w
      · have := (Prod.mk.inj w).1
        omega
      · exact hq9.elim (hrn' _ w).2.2.1 (hrn' _ w).2.2.2.1) (fun u hu q => by rw [a5]; exact ⟨hu, hFn.al hed (by omega) (hno u) q⟩) (fun u κ hu q w => ?_) (fun m1 κ hm q w => ⟨?_, fun z => absurd z nmk⟩) (fun κ r1 m1 q => ?_) (fun w π hw4 _ q => ?_) Zi_s ?_ rfl (Zi_n (by decide))
    · rw [htr, hS]
      exact ⟨Or.inl rfl, trL_t hwr' (fun n hn => by rw [hwr] at hn; omega)⟩
    · rw [hsj] at hm1
      rcases List.mem_cons.mp hm1 with w | w
      · obtain ⟨_, w⟩ := Prod.mk.inj w
        obtain ⟨w, _⟩ := Prod.mk.inj w
        subst w
        obtain ⟨m', g', p1, p2, p3, p4, p6⟩ := top_g hJ' hN' (by rw [kUx_top, hY, htr]) (by rw [trL_wl, wkS_wl hwr', hwr]) (by omega) y3
        have p3 : Zl S1 72 (bs f) = nL m' := p3
        have em : m' = m := nL_e (by omega) (by omega) (p3.symm.trans q3)
        subst em
        have p6 : vrW (Zl S1 61 m') = nI g' := p6
        have eg : g' = gg := nI_e (by have : g' < (D.I k).sc.length := by rw [hl1]; exact p2
                                      omega) (by omega) (p6.symm.trans q6)
        rw [p1, eg, show ((4 + (D.I k).n1) * 12 + gg) / 12 = 4 + (D.I k).n1 by omega, show ((4 + (D.I k).n1) * 12 + gg) % 12 = gg by omega]
      · exact absurd rfl (hrn' _ w).1
    · rw [a4] at w
      rcases w with ⟨_, w⟩ | ⟨w, _⟩
      · exact hFn.hk hed (by omega) (hno u) w.1
      · omega
    · rw [a4] at w
      rw [wj] at hm
      rcases w with ⟨_, w⟩ | ⟨w, _⟩
      · exact hFn.hk hed (by omega) (hno _) w.1
      · omega
    · rcases q with q | q
      · exact absurd q (n56 r1 m1).1
      · exact absurd q (n56 r1 m1).2
    · rw [a6] at q
      exact hFn.lo hy h1.1.2.2.2.2 hed hw4 q (fun c _ _ => (kdM_k hk (by decide)).nk)
    · rw [wj]; exact (Zi_n (by decide)).trans h73
  · rw [h1.2.2.2.1.2.2, h.2.2.2.1.2.2]
end PS90
end
-- m5.n.lean.txt
section
/-- some are told anew, one behind the other -/
def lUm {α : Type} (F : Nat → α) (w : Nat → Nat) (a : Nat → α) : Nat → Nat → α
  | 0 => F
  | m + 1 => lUp (lUm F w a m) (w m) (a m)
theorem lUm_o {α : Type} {F : Nat → α} {w : Nat → Nat} {a : Nat → α} {u : Nat} : ∀ {m : Nat}, (∀ i : Nat, i < m → u ≠ w i) → lUm F w a m u = F u
  | 0, _ => rfl
  | m + 1, h => by
    show lUp (lUm F w a m) (w m) (a m) u = _
    rw [lUp_ne (h m (by omega))]
    exact lUm_o (fun i hi => h i (by omega))
theorem lUm_i {α : Type} {F : Nat → α} {w : Nat → Nat} {a : Nat → α} {i : Nat} : ∀ {m : Nat}, i < m → (∀ p q : Nat, p < m → q < m → w p = w q → p = q) → lUm F w a m (w i) = a i
  | m + 1, hi, h => by
    show lUp (lUm F w a m) (w m) (a m) (w i) = _
    by_cases e : i = m
    · subst e; rw [lUp_eq]
    · rw [lUp_ne (fun z => e (h i m hi (by omega) z))]
      exact lUm_i (by omega) (fun p q hp hq => h p q (by omega) (by omega))
/-- marks of variables, the latest first -/
def bL8 (w : Nat → Nat) : Nat → List tE
  | 0 => []
  | m + 1 => (8, w m, 0) :: bL8 w m
theorem bL8_8 {w : Nat → Nat} : ∀ {m : Nat}, ∀ e ∈ bL8 w m, e.1 = 8
  | 0, e, he => by cases he
  | m + 1, e, he => by
    rcases List.mem_cons.mp he with q | q
    · rw [q]
    · exact bL8_8 e q
theorem bL8_m {w : Nat → Nat} {u : Nat} : ∀ {m : Nat}, (8, u, 0) ∈ bL8 w m ↔ ∃ i : Nat, i < m ∧ u = w i
  | 0 => ⟨fun h => (by cases h), fun ⟨_, h, _⟩ => (by omega)⟩
  | m + 1 => by
    show (8, u, 0) ∈ (8, w m, 0) :: bL8 w m ↔ _
    rw [List.mem_cons, bL8_m]
    constructor
    · rintro (q | ⟨i, i1, i2⟩)
      · exact ⟨m, by omega, (Prod.mk.inj (Prod.mk.inj q).2).1⟩
      · exact ⟨i, by omega, i2⟩
    · rintro ⟨i, i1, i2⟩
      by_cases e : i = m
      · subst e; rw [i2]; exact Or.inl rfl
      · exact Or.inr ⟨i, by omega, i2⟩
theorem bL8_wl {w : Nat → Nat} {r : List tE} : ∀ {m : Nat}, wl (bL8 w m ++ r) = wl r
  | 0 => rfl
  | m + 1 => by
    show wl ((8, w m, 0) :: (bL8 w m ++ r)) = _
    rw [wl_0 (Or.inl rfl), bL8_wl]
theorem bL8_l {w : Nat → Nat} : ∀ {m : Nat}, bL8 w m = ((List.range m).map w).reverse.map (fun v => (8, v, 0))
  | 0 => rfl
  | m + 1 => by
    show (8, w m, 0) :: bL8 w m = _
    rw [bL8_l, List.range_succ, List.map_append, List.reverse_append]
    rfl
theorem trL_8s {al : Nat → Prop} {r : List tE} : ∀ {E : List tE}, (∀ e ∈ E, e.1 = 8) → trL al (E ++ r) = E ++ trL al r
  | [], _ => rfl
  | e :: E, h => by
    have h0 := h e (List.mem_cons_self ..)
    show trE al (wl (E ++ r)) e :: trL al (E ++ r) = e :: (E ++ trL al r)
    rw [trL_8s (fun a ha => h a (List.mem_cons_of_mem _ ha)), trE_o (by omega) (by omega) (by omega) (by omega) (by omega)]
section PS91
variable {y : qY} {vt : Nat → Nat → Nat} {tb : Nat → lTb} {f : Nat} {x : Nat → kFm} {rt : Nat × Nat → Nat} {V : Nat × Nat → qV}
/-- a matched value's parts go into variables -/
theorem kJ_bnd {sh gg n : Nat} {w : Nat → Nat} {hd : Nat → Nat → Prop} {r : List tE} (hJ : kJ y vt tb f x rt V) (hn : (x f).2.2.1 = 0) (hS : (x f).2.1 = (0, 4 + sh, 0) :: r) (hmt : ∀ e : tE, e ∈ r → ¬ (e.1 = 4 ∨ e.1 = 5 ∨ e.1 = 6)) (hwr : wl r = 0) (hg : gg < 12) (h3 : y.1 (4 + sh) = 3) (hv : V (f, 40) [] = some (4 + sh, gg)) (hnn : n = y.2.2.2.1 (4 + sh) gg) (hw4 : ∀ i : Nat, i < n → w i < 40 ∧ (8, w i, 0) ∉ r ∧ vt (x f).1 (w i) = y.2.2.2.2 (4 + sh) gg i ∧ y.1 (vt (x f).1 (w i)) ≠ 5 ∧ y.1 (vt (x f).1 (w i)) ≠ 6) (hwi : ∀ a b : Nat, a < n → b < n → w a = w b → a = b) : ∀ m : Nat, m ≤ n → ∃ (rt2 : Nat × Nat → Nat) (V2 : Nat × Nat → qV), kJ y vt tb f (kUx x f ((x f).1, (4, sh * 12 + gg, m) :: (bL8 w m ++ r), 0, lUm (kR (x f)) w (fun _ => none) m, lUm (kH (x f)) w hd m, (fun u => kal (x f) u ∨ ∃ i : Nat, i < m ∧ u = w i), (fun u π => klo (x f) u π ∧ ¬ ∃ i : Nat, i < m ∧ u = w i), kAn (x f))) rt2 V2 ∧ (∀ i : Nat, m ≤ i → i < n → V2 (f, 400 + i) = qS (V (f, 40)) [(gg + 2, i)]) ∧ (∀ i : Nat, i < m → V2 (f, w i) = qS (V (f, 40)) [(gg + 2, i)] ∧ rt2 (f, w i) = vt (x f).1 (w i)) ∧ ∀ q : Nat × Nat, (q.1 ≠ f ∨ (q.2 < 40 ∧ ∀ i : Nat, i < m → q.2 ≠ w i)) → V2 q = V q ∧ rt2 q = rt q
  | 0, _ => by
    have j0 := kJ_sw0 hJ hn hS hmt hg h3 (by rw [hwr]; exact hv)
    rw [hwr] at j0
    refine ⟨kSt rt f (y.2.2.2.2 (4 + sh) gg), kSv V f 0 gg (y.2.2.2.1 (4 + sh) gg), ?_, fun i _ hi => kSv_p (V := V) (f := f) (w := 0) (g := gg) (n := y.2.2.2.1 (4 + sh) gg) (by rw [← hnn]; exact hi), fun i hi => absurd hi (Nat.not_lt_zero i), fun q hq => ?_⟩
    · have e1 : (fun u => kal (x f) u ∨ ∃ i : Nat, i < 0 ∧ u = w i) = kal (x f) := funext fun u => propext ⟨fun z => z.resolve_right (fun ⟨i, h, _⟩ => Nat.not_lt_zero i h), Or.inl⟩
      have e2 : (fun u π => klo (x f) u π ∧ ¬ ∃ i : Nat, i < 0 ∧ u = w i) = klo (x f) := funext fun u => funext fun π => propext ⟨fun z => z.1, fun z => ⟨z, fun ⟨i, h, _⟩ => Nat.not_lt_zero i h⟩⟩
      rw [e1, e2]
      exact j0
    · obtain ⟨q1, q2⟩ := q
      have hq : q1 ≠ f ∨ q2 < 400 := hq.imp id (fun z => by have : q2 < 40 := z.1; omega)
      rw [kSv_l hq, kSt_l hq]
      refine ⟨?_, rfl⟩
      rename_i hq0
      rcases hq0 with z | z
      · exact kCl_f z
      · by_cases c : q1 = f
        · subst c; exact kCl_out (Or.inl (by have : q2 < 40 := z.1; omega))
        · exact kCl_f c
  | m + 1, hm => by
    obtain ⟨rt2, V2, j2, F1, F2, F3⟩ := kJ_bnd (hd := hd) hJ hn hS hmt hwr hg h3 hv hnn hw4 hwi m (by omega)
    generalize hx2 : kUx x f ((x f).1, (4, sh * 12 + gg, m) :: (bL8 w m ++ r), 0, lUm (kR (x f)) w (fun _ => none) m, lUm (kH (x f)) w hd m, (fun u => kal (x f) u ∨ ∃ i : Nat, i < m ∧ u = w i), (fun u π => klo (x f) u π ∧ ¬ ∃ i : Nat, i < m ∧ u = w i), kAn (x f)) = x2 at j2
    have e2 : x2 f = ((x f).1, (4, sh * 12 + gg, m) :: (bL8 w m ++ r), 0, lUm (kR (x f)) w (fun _ => none) m, lUm (kH (x f)) w hd m, (fun u => kal (x f) u ∨ ∃ i : Nat, i < m ∧ u = w i), (fun u π => klo (x f) u π ∧ ¬ ∃ i : Nat, i < m ∧ u = w i), kAn (x f)) := by rw [← hx2, kUx_eq]
    obtain ⟨w1, w2, w3, w5, w6⟩ := hw4 m (by omega)
    obtain ⟨d1, d2⟩ := kR_row (sh := sh) hg
    have j3 := kJ_bind (v := w m) (r0 := sh * 12 + gg) (m := m) (r := bL8 w m ++ r) (hd := hd m) (al2 := fun u => kal (x f) u ∨ ∃ i : Nat, i < m + 1 ∧ u = w i) (lo2 := fun u π => klo (x f) u π ∧ ¬ ∃ i : Nat, i < m + 1 ∧ u = w i) j2 (by rw [e2]) (by rw [e2]) (fun e he => by
      rcases List.mem_append.mp he with z | z
      · rw [bL8_8 e z]; decide
      · exact hmt e z) w1 (fun z => by
      rcases List.mem_append.mp z with z | z
      · obtain ⟨i, i1, i2⟩ := bL8_m.mp z
        have := hwi m i (by omega) (by omega) i2
        omega
      · exact w2 z) (by rw [d1, d2, ← hnn]; omega) (by rw [d1, d2, e2]; exact w3) (by rw [e2]; exact ⟨w5, w6⟩) (by
      rw [e2]
      intro u hu z
      rcases z with z | ⟨i, i1, i2⟩
      · exact Or.inl z
      · by_cases c : i = m
        · subst c; exact absurd i2 hu
        · exact Or.inr ⟨i, by omega, i2⟩) (by
      rw [e2]
      intro u π hu z z2
      refine z ⟨z2.1, fun ⟨i, i1, i2⟩ => ?_⟩
      by_cases c : i = m
      · subst c; exact hu i2
      · exact z2.2 ⟨i, by omega, i2⟩)
    rw [e2, ← hx2, kUx2] at j3
    refine ⟨_, _, j3, fun i hi hin => ?_, fun i hi => ?_, fun q hq => ?_⟩
    · have n1 : ((f, 400 + i) : Nat × Nat) ≠ (f, w m) := fun z => by have := (Prod.mk.inj z).2; omega
      have n2 : ((f, 400 + i) : Nat × Nat) ≠ (f, 400 + m) := fun z => by have := (Prod.mk.inj z).2; omega
      rw [qUp_ne n1, qUp_ne n2]
      exact F1 i (by omega) hin
    · by_cases c : i = m
      · subst c
        rw [qUp_eq, qRt_eq]
        exact ⟨F1 i (Nat.le_refl _) (by omega), rfl⟩
      · have n1 : ((f, w i) : Nat × Nat) ≠ (f, w m) := fun z => c (hwi i m (by omega) (by omega) (Prod.mk.inj z).2)
        have n2 : ((f, w i) : Nat × Nat) ≠ (f, 400 + m) := fun z => by have := (Prod.mk.inj z).2; have := (hw4 i (by omega)).1; omega
        rw [qUp_ne n1, qUp_ne n2, qRt_ne n1]
        exact F2 i (by omega)
    · have n1 : q ≠ (f, w m) := fun z => by
        rw [z] at hq
        rcases hq with z | z
        · exact z rfl
        · exact z.2 m (by omega) rfl
      have n2 : q ≠ (f, 400 + m) := fun z => by
        rw [z] at hq
        rcases hq with z | z
        · exact z rfl
        · have z := z.1; have z : 400 + m < 40 := z; omega
      rw [qUp_ne n1, qUp_ne n2, qRt_ne n1]
      exact F3 q (hq.imp id (fun z => ⟨z.1, fun i hi => z.2 i (by omega)⟩))
end PS91
section PS91b
variable {K : Ky} {S : Sg} {L : List Nat}
/-- along, to behind a node -/
theorem alN {m b : Nat} (h : lkN (Zr S 63) L) (hm : m < 99) (hb : L[m]? = some b) : ∀ (d j c : Nat), m + 2 < j + d → j ≤ m → L[j]? = some c → f_along_5 K d S (nI (m + 1)) (nI c) (nI j) = some (S, Zr S 63 b)
  | 0, j, c, hd, hj, _ => by omega
  | d + 1, j, c, hd, hj, hc => by
    have hc4 := (h.1 c (List.mem_of_getElem? hc)).2
    unfold f_along_5
    rw [if_neg (fun w => by have := (nI_leI (by omega) (by omega)).mp w; omega), rI_n (show c < rlen 63 from hc4) (by decide)]
    simp only [Option.bind_some]
    rw [nI_1]
    by_cases e : j = m
    · subst e
      rw [hb] at hc
      cases hc
      obtain ⟨d2, rfl⟩ : ∃ d2 : Nat, d = d2 + 1 := ⟨d - 1, by omega⟩
      unfold f_along_5
      rw [if_pos (nI_le (Nat.le_refl _) (by omega))]
    · have hlt : j + 1 < L.length := by have := (List.getElem?_eq_some_iff.mp hb).1; omega
      have hn : L[j + 1]? = some L[j + 1] := List.getElem?_eq_getElem hlt
      rw [h.2 j c _ hc hn]
      exact alN h hm hb d (j + 1) _ (by omega) (by omega) hn
theorem alg1 {m a b : Nat} (h : lkN (Zr S 63) L) (hm : m < 99) (ha : L[0]? = some a) (hb : L[m]? = some b) : f_along K S (nI a) (nI (m + 1)) = some (S, Zr S 63 b) := by
  unfold f_along
  exact alN h hm hb bigN 0 a (by unfold bigN; omega) (Nat.zero_le _) ha
end PS91b
end
-- m5.o.lean.txt
section
section PS92
variable {R : yR} {K : Ky} {S0 Sl S S1 S2 S3 : Sg} {D : fD} {i k j f nw n v : Nat} {vt : Nat → Nat → Nat} {tb : Nat → lTb} {x : Nat → kFm} {bs : Nat → Nat} {g : Nat → Int32}
/-- only variables' places change -/
def VO (P : Nat → Prop) (S S2 : Sg) : Prop := ZL S2 = ZL S ∧ ZF S2 = ZF S ∧ (Zz S2 = Zz S ∧ Zn S2 = Zn S) ∧ Zq S2 = Zq S ∧ Zf S2 = Zf S ∧ Zl S2 = Zl S ∧ (∀ r : Nat, r ≠ 74 → Zr S2 r = Zr S r) ∧ Zi S2 = Zi S ∧ ∀ q : Nat, ¬ P q → Zr S2 74 q = Zr S 74 q
theorem VO.rf {P : Nat → Prop} : VO P S S := ⟨rfl, rfl, ⟨rfl, rfl⟩, rfl, rfl, rfl, fun _ _ => rfl, rfl, fun _ _ => rfl⟩
theorem VO.tr {P : Nat → Prop} (a : VO P S S1) (b : VO P S1 S2) : VO P S S2 := ⟨b.1.trans a.1, b.2.1.trans a.2.1, ⟨b.2.2.1.1.trans a.2.2.1.1, b.2.2.1.2.trans a.2.2.1.2⟩, b.2.2.2.1.trans a.2.2.2.1, b.2.2.2.2.1.trans a.2.2.2.2.1, b.2.2.2.2.2.1.trans a.2.2.2.2.2.1, fun r h => (b.2.2.2.2.2.2.1 r h).trans (a.2.2.2.2.2.2.1 r h), b.2.2.2.2.2.2.2.1.trans a.2.2.2.2.2.2.2.1, fun q h => (b.2.2.2.2.2.2.2.2 q h).trans (a.2.2.2.2.2.2.2.2 q h)⟩
theorem VO.w {P : Nat → Prop} {p : Nat} {v : Int32} (h : P p) : VO P S (Ur S 74 (upd (Zr S 74) p v)) := ⟨rfl, rfl, ⟨rfl, rfl⟩, rfl, rfl, rfl, fun r hr => Zr_u9 hr, rfl, fun q hq => by rw [Zr_us]; exact upd_n (fun e : q = p => hq (by rw [e]; exact h))⟩
theorem VO.rn {P : Nat → Prop} (e : VO P S S2) : RNx S S2 := ⟨e.1, e.2.1, e.2.2.1, e.2.2.2.1, e.2.2.2.2.1, fun r _ => e.2.2.2.2.2.2.1 r (by omega), fun r _ => by rw [e.2.2.2.2.2.1], fun j _ _ => by rw [e.2.2.2.2.2.2.2.1]⟩
theorem VO.go {A B P : Nat → Prop} (e : VO P S S2) : GO A B P S S2 := ⟨e.rn, fun j _ => by rw [e.2.2.2.2.2.2.2.1], e.2.2.2.2.2.2.1 75 (by decide), fun n _ => by rw [e.2.2.2.2.2.1, e.2.2.2.2.2.2.1 62 (by decide), e.2.2.2.2.2.2.1 63 (by decide)]; exact ⟨rfl, rfl, rfl⟩, fun _ _ => by rw [e.2.2.2.2.2.2.1 67 (by decide)], e.2.2.2.2.2.2.2.2⟩
theorem VO.nm {P : Nat → Prop} (e : VO P S S2) : nMS S2 = nMS S := by
  show (Zl S2 61, Zr S2 62, Zr S2 63) = (Zl S 61, Zr S 62, Zr S 63)
  rw [e.2.2.2.2.2.1, e.2.2.2.2.2.2.1 62 (by decide), e.2.2.2.2.2.2.1 63 (by decide)]
theorem VO.fl {P : Nat → Prop} (e : VO P S S2) {fl : List Nat} {t : Nat} (h : FLs S fl t) : FLs S2 fl t := h.eq (by rw [e.2.2.2.2.2.2.2.1]) (by rw [e.2.2.2.2.2.2.2.1]) (e.2.2.2.2.2.2.1 63 (by decide))
theorem VO.wq {P : Nat → Prop} (e : VO P S S2) (h : wq S) : wq S2 := h.eq (by rw [e.2.2.2.2.2.2.2.1]) (by rw [e.2.2.2.2.2.2.2.1])
/-- the parts' places are the variables' -/
theorem rb15 {a aw m n9 : Nat} {w : Nat → Nat} {cs : Nat → List Nat} {fv : Nat → Option Nat} {gs : List Value} {Q : Sg → Unit → Prop} {P : Nat → Prop} (hL : LFS R S0 g) (hx : LX S0 Sl) (e : RNx Sl S) (h76 : Zi S 76 = nI (f + 1)) (hf : f < 60) (ha : a ∈ ZL Sl ∧ ZF Sl a = .inr (13, gs) ∧ gs[3]? = some (.int (nI n9)) ∧ gs[4]? = some (.ref aw)) (hw : aw ∈ ZL Sl ∧ ZF Sl aw = .inl (R.K.1 5, 12, .inr (.inr (.inr (.inr fv))))) (hn : n9 ≤ 12) (hv : ∀ j : Nat, j < n9 → ∃ (va z : Nat) (mu : Int32), fv j = some va ∧ isU Sl va (w j) (some z) mu ∧ rTy S0 z ∧ (cs j).length = zN R S0 (abT S0 z) ∧ w j < 40 ∧ P (40 * f + w j)) (hk : lkN (Zr S 63) (ftN cs n9)) (h1 : ∀ j : Nat, j < n9 → 1 ≤ (cs j).length ∧ (cs j).length < 99) (hwi : ∀ a b : Nat, a < n9 → b < n9 → w a = w b → a = b) (kf : ∀ S2 : Sg, VO P S S2 → (∀ j : Nat, j < n9 → Zr S2 74 (40 * f + w j) = nI (hdN (cs j))) → Rt (bnd (f_freeNode R.K S2 (nI m)) fun S6 v7 => some (S6, ())) Q) : ∀ (r i d : Nat) (x3 : Int32) (S1 : Sg), i + r = n9 → r < d → VO P S S1 → (i < n9 → x3 = nI (hdN (cs i))) → (∀ j : Nat, j < i → Zr S1 74 (40 * f + w j) = nI (hdN (cs j))) → Rt (f_runBind_15 R.K d S1 (some a) (nI m) x3 (nI i)) Q
  | r, i, 0, _, _, _, hd, _, _, _ => by omega
  | 0, i, d + 1, x3, S1, hi, hd, q1, q2, q3 => by
    obtain rfl : i = n9 := by omega
    have e1 := e.tr q1.rn
    unfold f_runBind_15
    exact Rt.bd (v := nI i) (oI_mk (by rw [e1.1]; exact ha.1) (by rw [e1.2.1]; exact ha.2.1) ha.2.2.1) (Rt.ip (nI_le (Nat.le_refl _) (by omega)) (kf S1 q1 q3))
  | r + 1, i, d + 1, x3, S1, hi, hd, q1, q2, q3 => by
    have hin : i < n9 := by omega
    have e1 := e.tr q1.rn
    obtain ⟨va, z, mu, v1, v2, v3, v4, v5, v6⟩ := hv i hin
    have oR4 : ∀ S2 : Sg, RNx Sl S2 → oR S2 13 (some a) 4 = some (some aw) := fun S2 e2 => oR_mk (v := some aw) (by rw [e2.1]; exact ha.1) (by rw [e2.2.1]; exact ha.2.1) ha.2.2.2
    have aq : ∀ S2 : Sg, RNx Sl S2 → aQ R.K 5 S2 (some aw) (nI i) = some (some va) := fun S2 e2 => by
      rw [← v1]; exact aQ_n (by rw [e2.1]; exact hw.1) (by rw [e2.2.1]; exact hw.2) (by omega) (by omega)
    obtain ⟨sl1, _⟩ := slo_ (R := R) (S := S1) e1 v2 (by rw [q1.2.2.2.2.2.2.2.1]; exact h76)
    unfold f_runBind_15
    refine Rt.bd (v := nI n9) (oI_mk (by rw [e1.1]; exact ha.1) (by rw [e1.2.1]; exact ha.2.1) ha.2.2.1) (Rt.iq (fun z => by have := (nI_leI (by omega) (by omega)).mp z; omega) ?_)
    refine Rt.bd (oR4 S1 e1) (Rt.bd (aq S1 e1) (Rt.be sl1 (Rt.bd (wRI_n (show 40 * f + w i < rlen 74 from by show _ < 2440; omega) (by decide)) ?_)))
    have q4 : VO P S1 (Ur S1 74 (upd (Zr S1 74) (40 * f + w i) x3)) := VO.w v6
    have y4 : Zr (Ur S1 74 (upd (Zr S1 74) (40 * f + w i) x3)) 74 = upd (Zr S1 74) (40 * f + w i) x3 := Zr_us
    generalize Ur S1 74 (upd (Zr S1 74) (40 * f + w i) x3) = S4 at q4 y4
    have e4 := e1.tr q4.rn
    obtain ⟨_, sl2⟩ := slo_ (R := R) (S := S4) e4 v2 (by rw [q4.2.2.2.2.2.2.2.1, q1.2.2.2.2.2.2.2.1]; exact h76)
    refine Rt.bd (oR4 S4 e4) (Rt.bd (aq S4 e4) (Rt.bd sl2 (Rt.be (lvo_ hL hx e4 (o := some z) (fun y hy => by cases hy; exact v3)) ?_)))
    show Rt (bnd (f_along R.K S4 x3 (nI (zN R S0 (abT S0 z)))) _) Q
    obtain ⟨l1, l2⟩ := h1 i hin
    obtain ⟨mm, hmm⟩ : ∃ mm : Nat, (cs i).length = mm + 1 := ⟨(cs i).length - 1, by omega⟩
    obtain ⟨b, hb⟩ : ∃ b : Nat, (cs i)[mm]? = some b := ⟨(cs i)[mm], List.getElem?_eq_getElem (by omega)⟩
    have hk4 : lkN (Zr S4 63) (ftN cs n9) := by
      rw [q4.2.2.2.2.2.2.1 63 (by decide), q1.2.2.2.2.2.2.1 63 (by decide)]; exact hk
    rw [← v4, q2 hin, hmm]
    refine Rt.be (alg1 (L := cs i) (hk4.seg hin) (by omega) (hdN_0 l1) hb) ?_
    rw [nI_1]
    refine rb15 hL hx e h76 hf ha hw hn hv hk h1 hwi kf r (i + 1) d _ S4 (by omega) (by omega) (q1.tr q4) (fun hi1 => ?_) (fun j hj => ?_)
    · have c1 : (ftN cs n9)[psN (fun j => (cs j).length) i + mm]? = some b := (ftN_get hin (by omega)).trans hb
      have c2 := ftN_get (f := cs) (i := 0) hi1 (h1 (i + 1) hi1).1
      rw [hdN_0 (h1 (i + 1) hi1).1] at c2
      have e9 : psN (fun j => (cs j).length) (i + 1) + 0 = psN (fun j => (cs j).length) i + mm + 1 := by
        show psN (fun j => (cs j).length) i + (cs i).length + 0 = _
        omega
      rw [e9] at c2
      exact hk4.2 _ b _ c1 c2
    · rw [y4]
      by_cases c : j = i
      · subst c; rw [upd_s, q2 hin]
      · rw [upd_n (fun z => c (hwi j i (by omega) hin (by omega)))]
        exact q3 j (by omega)
/-- BIND -/
theorem s_22 (hL : LFS R S0 g) (hx : LX S0 Sl) (h : RQ R S0 vt tb i D k f x bs Sl k S) (hQ : D.Pe < 24000) (hk : (D.I k).kd = 22) : Rt (f_step R.K S) (fun S2 _ => RTt R S0 vt tb i D k f x bs Sl S S2) := by
  have h24 := h.k24 hQ
  have hy := nYk_of hL
  have hB := yB_yT (R := R) (S0 := S0)
  refine stp_22 h hQ hk (fun S1 h1 e70 e3 er el => ?_)
  have hp := h1.pt.1
  unfold tPt at hp
  rw [hk] at hp
  obtain ⟨d0, r, hs, hwr, n70, n12, y3, hg2, hvl, hv12, hinj, hvs, _, _, hw⟩ := hp
  rw [h1.1.2.2.2.2] at y3 hg2 hvl hvs
  have hgt := h1.1.2.2.2.1
  rw [hs] at hgt
  have hrn := hgt.tl
  have hb := h1.sb
  have h73 := h1.2.2.2.1.2.1
  have hFn := h1.1.1
  have hEy := h1.1.2.2.2.2
  have n3 : kNm (3, (4 + (D.I k).n1) * 12 + (D.I k).n2, 1) := by show ¬ ((3 : Nat) = 8 ∨ (3 : Nat) = 4 ∨ (3 : Nat) = 5 ∨ (3 : Nat) = 6); decide
  have wst : wl (D.st k) = 1 := by rw [hs, wl_n n3, hwr]
  rw [wst] at h73 hb
  have hX1 := h1.2.2.1
  have e := hX1.1
  obtain ⟨rt, V, C, L, H, fl, t9, ⟨hJ, hN, hC, hF⟩, h3v⟩ := h1.2.2.2.2.2.2.1
  obtain ⟨a1, a2, a3, a4, a5, a6⟩ := h1.2.2.2.2.2.1
  have hvt : vt (x f).1 = D.E.vt := by rw [a1]; exact h1.2.2.2.2.2.2.2.2.1
  have hf6 := h1.2.2.2.2.1
  have hws := h1.2.2.2.2.2.2.2.1
  have h76 := h1.2.2.2.1.2.2
  have hS : (x f).2.1 = (0, 4 + (D.I k).n1, 0) :: trL (AL D k) r := by
    rw [a2, hs]
    show trE (AL D k) (wl r) (3, (4 + (D.I k).n1) * 12 + (D.I k).n2, 1) :: trL (AL D k) r = _
    rw [trE_3 rfl]
    show (0, ((4 + (D.I k).n1) * 12 + (D.I k).n2) / 12, 0) :: _ = _
    rw [show ((4 + (D.I k).n1) * 12 + (D.I k).n2) / 12 = 4 + (D.I k).n1 by omega]
  have hV0 : V (f, 40) [] = some (4 + (D.I k).n1, (D.I k).n2) := by
    have := h3v.1 ((4 + (D.I k).n1) * 12 + (D.I k).n2) 1 (by rw [hs]; exact List.mem_cons_self ..)
    rw [show ((4 + (D.I k).n1) * 12 + (D.I k).n2) / 12 = 4 + (D.I k).n1 by omega, show ((4 + (D.I k).n1) * 12 + (D.I k).n2) % 12 = (D.I k).n2 by omega] at this
    exact this
  have wl0 : wl (trL (AL D k) r) = 0 := by rw [trL_wl]; exact hwr
  -- the value's nodes
  have hE := kK_top hJ hS
  rw [wl0] at hE
  obtain ⟨_, _, _, e0, _⟩ := hE
  obtain ⟨er1, _⟩ := e0 (by omega)
  have er1 : rt (f, 40) = 4 + (D.I k).n1 := er1
  have hw40 : (40 : Nat) < 40 + wl (x f).2.1 := by rw [h1.st.2, wst]; decide
  have hva := ((hN.1 f 40 (Nat.le_refl f)).2.1 (Nat.le_refl _) hw40).2
  rw [er1] at hva
  obtain ⟨kk, m, cs, ls, hs9, p2, p3, p4, p5, p7, p8, p9, p10⟩ : ∃ (kk m : Nat) (cs ls hs : Nat → List Nat), Zl S1 72 (bs f) = nL m ∧ (1 ≤ m ∧ m < 430000) ∧ kdW (Zl S1 61 m) = nI (hdN (ftN cs (D.I k).vs.length)) ∧ lkN (Zr S1 63) (ftN cs (D.I k).vs.length) ∧ L (f, 40) = m :: (ftN cs (D.I k).vs.length ++ ftN ls (D.I k).vs.length) ∧ H (f, 40) = ftN hs (D.I k).vs.length ∧ (∀ a : Nat, cnN a (m :: (ftN cs (D.I k).vs.length ++ ftN ls (D.I k).vs.length)) ≤ 1) ∧ ∀ j : Nat, j < (D.I k).vs.length → pL (yT R S0) (szN R S0) (nMS S1) kk (yQ R S0 (4 + (D.I k).n1) (D.I k).n2 j) (qS (V (f, 40)) [((D.I k).n2 + 2, j)]) (cs j) (ls j) (hs j) := by
    rcases hva with ⟨z, _⟩ | ⟨_, kk, ⟨_, m, gg, cs, ls, hs9, q1, q2, q3, q4, q5, q6, q7, q8, q9, q10⟩ | ⟨z, _⟩ | ⟨z, _⟩⟩
    · rw [y3] at z; cases z
    · rw [hV0] at q1
      obtain ⟨_, q1⟩ := Prod.mk.inj (Option.some.inj q1)
      subst q1
      rw [← hvl] at q5 q7 q8 q9 q10
      refine ⟨kk, m, cs, ls, hs9, q3, q4, q5, q7, q8, q9, fun a => ?_, q10⟩
      rw [← q8]
      by_cases c : a ∈ L (f, 40)
      · obtain ⟨_, _, _, w1, _⟩ := hC.one (r := (f, 40)) hf6 (show 40 < 300 by omega) (Or.inr c)
        omega
      · rw [cnN_z c]; exact Nat.zero_le _
    · rw [y3] at z; cases z
    · exact absurd y3 z
  obtain ⟨n9, hn9⟩ : ∃ n9 : Nat, n9 = (D.I k).vs.length := ⟨_, rfl⟩
  rw [← hn9] at hvl hv12 p4 p5 p7 p8 p9 p10
  obtain ⟨w, hwv⟩ : ∃ w : Nat → Nat, ∀ j : Nat, j < n9 → (D.I k).vs[j]? = some (w j) := ⟨fun j => ((D.I k).vs[j]?).getD 0, fun j hj => by
    rw [hn9] at hj
    show (D.I k).vs[j]? = some (((D.I k).vs[j]?).getD 0)
    rw [List.getElem?_eq_getElem hj]; rfl⟩
  have hwi : ∀ a b : Nat, a < n9 → b < n9 → w a = w b → a = b := fun a b ha hb hab => hinj a b (w a) (hwv a ha) (by rw [hab]; exact hwv b hb)
  have evs : (D.I k).vs = (List.range n9).map w := List.ext_getElem? (fun q => by
    by_cases c : q < n9
    · rw [hwv q c, List.getElem?_map, List.getElem?_range c]; rfl
    · rw [List.getElem?_eq_none (by omega), List.getElem?_eq_none (by rw [List.length_map, List.length_range]; omega)])
  obtain ⟨a, na, aw, bk, tk, vn, fv, z1, z2, z3, z4, z5, _, z7⟩ := h1.2.1.2.2.2.2.2.2.2.2.2.2.2.1 hk
  have hvj : ∀ j : Nat, j < n9 → ∃ (va z : Nat) (mu : Int32), fv j = some va ∧ isU Sl va (w j) (some z) mu ∧ rTy S0 z ∧ abT S0 z = yQ R S0 (4 + (D.I k).n1) (D.I k).n2 j := fun j hj => z7 j (w j) (hwv j hj)
  obtain ⟨_, _, _, ff, _, _, _, _, _, _, _, a8⟩ := vwEi (i := (D.I k).n1) (v := (D.I k).n2) hL hx e y3 hg2
  have hw4 : ∀ i : Nat, i < n9 → w i < 40 ∧ (8, w i, 0) ∉ trL (AL D k) r ∧ vt (x f).1 (w i) = (yT R S0).2.2.2.2 (4 + (D.I k).n1) (D.I k).n2 i ∧ (yT R S0).1 (vt (x f).1 (w i)) ≠ 5 ∧ (yT R S0).1 (vt (x f).1 (w i)) ≠ 6 := fun i hi => by
    obtain ⟨u1, u2, u3⟩ := hvs i (w i) (hwv i hi)
    have hvl : n9 = yP R S0 (4 + (D.I k).n1) (D.I k).n2 := hvl
    obtain ⟨z, _, y2, y3'⟩ := a8 i (by omega)
    have hlt : yQ R S0 (4 + (D.I k).n1) (D.I k).n2 i < 10000 := by
      have := y2.nm hL.1
      omega
    have hnr : ¬ isRf (vt (x f).1 (w i)) := fun q => by
      rw [hvt, u3] at q
      have := q.1
      have this : 10000 ≤ yQ R S0 (4 + (D.I k).n1) (D.I k).n2 i := this
      omega
    exact ⟨u1, fun q => u2 (trL_8.mp q), by rw [hvt]; exact u3, fun q => hnr (yRf.mp (Or.inl q)), fun q => hnr (yRf.mp (Or.inr q))⟩
  have hmt : ∀ e ∈ trL (AL D k) r, ¬ (e.1 = 4 ∨ e.1 = 5 ∨ e.1 = 6) := trL_4 (pn_4 hrn)
  obtain ⟨rt2, V2, j2, F1, F2, F3⟩ := kJ_bnd (w := w) (hd := fun i κ => HK D (k + 1) (w i) κ) hJ a3 hS hmt wl0 n12 y3 hV0 hvl hw4 hwi n9 (Nat.le_refl _)
  generalize hx2 : kUx x f ((x f).1, (4, (D.I k).n1 * 12 + (D.I k).n2, n9) :: (bL8 w n9 ++ trL (AL D k) r), 0, lUm (kR (x f)) w (fun _ => none) n9, lUm (kH (x f)) w (fun i κ => HK D (k + 1) (w i) κ) n9, (fun u => kal (x f) u ∨ ∃ i : Nat, i < n9 ∧ u = w i), (fun u π => klo (x f) u π ∧ ¬ ∃ i : Nat, i < n9 ∧ u = w i), kAn (x f)) = x2 at j2
  have e2 : x2 f = ((x f).1, (4, (D.I k).n1 * 12 + (D.I k).n2, n9) :: (bL8 w n9 ++ trL (AL D k) r), 0, lUm (kR (x f)) w (fun _ => none) n9, lUm (kH (x f)) w (fun i κ => HK D (k + 1) (w i) κ) n9, (fun u => kal (x f) u ∨ ∃ i : Nat, i < n9 ∧ u = w i), (fun u π => klo (x f) u π ∧ ¬ ∃ i : Nat, i < n9 ∧ u = w i), kAn (x f)) := by rw [← hx2, kUx_eq]
  have j3 := kJ_popM j2 (e := (4, (D.I k).n1 * 12 + (D.I k).n2, n9)) (r := bL8 w n9 ++ trL (AL D k) r) (by rw [e2]) (by rw [e2]) (Or.inl rfl) (fun e he => by
    rcases List.mem_append.mp he with z | z
    · rw [bL8_8 e z]; decide
    · exact hmt e z)
  rw [e2, ← hx2, kUx2] at j3
  have hcv := hC.val (n := 0) hf6 (by omega)
  have hcm : m ∉ fl ∧ m ≤ t9 := hcv m (by show m ∈ L (f, 40); rw [p7]; exact List.mem_cons_self ..)
  have hcn : ∀ j : Nat, j < n9 → m ∉ cs j ∧ m ∉ ls j := fun j hj => by
    have q := p9 m
    have q1 : cnN m (m :: (ftN cs n9 ++ ftN ls n9)) = 1 + (cnN m (ftN cs n9) + cnN m (ftN ls n9)) := by
      show (if m = m then 1 else 0) + cnN m (ftN cs n9 ++ ftN ls n9) = _
      rw [if_pos rfl, cnN_app]
    exact ⟨fun z => by have := cnN_mem.mp (ftN_mem.mpr ⟨j, hj, z⟩); omega, fun z => by have := cnN_mem.mp (ftN_mem.mpr ⟨j, hj, z⟩); omega⟩
  have hlen : ∀ j : Nat, j < n9 → (cs j).length = zN R S0 (yQ R S0 (4 + (D.I k).n1) (D.I k).n2 j) := fun j hj => (p10 j hj).len hy
  refine Rt.bn (Q := fun S2 _ => RTt R S0 vt tb i D k f x bs Sl S S2) ?_ (fun S2 _ q => by unfold f_step_590; exact Rt.rt q) |> fun q => Rt.bd (v := some a) (by rw [rQ_n (show k < rlen 41 from h24) (by decide), e.2.2.2.1, z1]) q
  unfold f_runBind
  refine Rt.bn (pop_ (p := bs f) h73 (by omega)) (fun S3 xv ⟨c1, c2, c3, c4, c5⟩ => ?_)
  rw [c2, p2, nL_t]
  have e3' := (c3.rx hX1).1
  refine Rt.be (kid_ (n := hdN (ftN cs n9)) p3.2 (by rw [c5]; exact p4)) ?_
  have h3z : Zr S3 = Zr S1 := c3.2.2.2.2.2.2.1
  refine rb15 (n9 := n9) (w := w) (cs := cs) (fv := fv) (P := fun p => ∃ i : Nat, i < n9 ∧ p = 40 * f + w i) hL hx e3' ((c3.2.2.2.2.2.2.2 76 (by decide)).trans h76) hf6 ⟨z2, z3, by rw [hn9]; rfl, rfl⟩ ⟨z4, z5⟩ hv12 (fun j hj => by
    obtain ⟨va, z, mu, u1, u2, u3, u4⟩ := hvj j hj
    exact ⟨va, z, mu, u1, u2, u3, by rw [u4]; exact hlen j hj, (hw4 j hj).1, j, hj, rfl⟩) (by rw [h3z]; exact p5) (fun j hj => by
    have := hy.1 (yQ R S0 (4 + (D.I k).n1) (D.I k).n2 j)
    rw [hlen j hj]; omega) hwi (fun S4 q1 q2 => ?_) n9 0 bigN _ S3 (by omega) (by unfold bigN; omega) VO.rf (fun h0 => ?_) (fun j hj => absurd hj (Nat.not_lt_zero j))
  · refine Rt.bn (frn_ (n := m) (q1.fl (c3.sam.fl hF)) p3.1 hcm.2 hcm.1) (fun S5 _ ⟨f1, f2, f3, f4⟩ => ?_)
    have go : GO (fun a => a = m) (fun _ => False) (fun p => ∃ i : Nat, i < n9 ∧ p = 40 * f + w i) S1 S5 := (c3.go.tr q1.go).tr f2.go
    have n5 : ∀ a : Nat, a ≠ m → Zl S5 61 a = Zl S1 61 a ∧ Zr S5 62 a = Zr S1 62 a ∧ Zr S5 63 a = Zr S1 63 a := fun a ha => go.2.2.2.1 a ha
    have w74 : Zr S5 74 = Zr S4 74 := f2.2.2.2.2.2.2.1 74 (by decide) (by decide)
    obtain ⟨nv1, nv2⟩ := hN.nv (X := ((x f).1, bL8 w n9 ++ trL (AL D k) r, 0, lUm (kR (x f)) w (fun _ => none) n9, lUm (kH (x f)) w (fun i κ => HK D (k + 1) (w i) κ) n9, (fun u => kal (x f) u ∨ ∃ i : Nat, i < n9 ∧ u = w i), (fun u π => klo (x f) u π ∧ ¬ ∃ i : Nat, i < n9 ∧ u = w i), kAn (x f))) (n := n9) (w := w) (c := cs) (l := ls) (h := hs9) (M2 := nMS S5) (sk2 := Zl S5 72) (pl2 := Zr S5 74) (tk2 := Zr S5 67) (fl2 := m :: fl) (t2 := t9) (A := fun a => a = m) (rt2 := rt2) (V2 := kC3 V2 f) hy hJ hC hf6 hws (by rw [h1.st.2, wst]; exact Nat.le_refl _) (by show wl (bL8 w n9 ++ trL (AL D k) r) = 0; rw [bL8_wl]; exact wl0) (fun u => by
        rw [hS]
        show (8, u, 0) ∈ bL8 w n9 ++ trL (AL D k) r ↔ (∃ i : Nat, i < n9 ∧ u = w i) ∨ (8, u, 0) ∈ (0, 4 + (D.I k).n1, 0) :: trL (AL D k) r
        rw [List.mem_append, bL8_m, List.mem_cons]
        constructor
        · rintro (q | q)
          · exact Or.inl q
          · exact Or.inr (Or.inr q)
        · rintro (q | q | q)
          · exact Or.inl q
          · have := (Prod.mk.inj q).1
            omega
          · exact Or.inr q) rfl (fun i hi => ⟨(hw4 i hi).1, fun z => by
        rw [hS] at z
        rcases List.mem_cons.mp z with z | z
        · have := (Prod.mk.inj z).1
          omega
        · exact (hw4 i hi).2.1 z⟩) hwi (fun q hq => by
        have hq2 : q.1 ≠ f ∨ (q.2 < 40 ∧ ∀ i : Nat, i < n9 → q.2 ≠ w i) := by
          by_cases c : q.1 = f
          · refine Or.inr ⟨?_, fun i hi z => hq ⟨c, Or.inl ⟨i, hi, z⟩⟩⟩
            by_cases c2 : q.2 < 40
            · exact c2
            · exact absurd ⟨c, Or.inr (by omega)⟩ hq
          · exact Or.inl c
        obtain ⟨u1, u2⟩ := F3 q hq2
        refine ⟨u2, ?_⟩
        obtain ⟨qa, qb⟩ := q
        rw [kC3_out (hq2.imp id (fun z => by have := z.1; have this : qb < 40 := this; omega))]
        exact u1) (fun i hi => by
        obtain ⟨u1, u2⟩ := F2 i hi
        obtain ⟨v4, _, vT, _⟩ := hw4 i hi
        rw [u2, vT, kC3_out (Or.inr (by omega)), u1, w74]
        refine ⟨⟨kk, (p10 i hi).st (fun a ha => ?_) (fun a ha => n5 a (fun z => (hcn i hi).2 (by rw [← z]; exact ha)))⟩, (p5.seg hi).cg (fun a ha => (n5 a (fun z => (hcn i hi).1 (by rw [← z]; exact ha))).2.2), q2 i hi⟩
        obtain ⟨y1, y2, _⟩ := n5 a (fun z => (hcn i hi).1 (by rw [← z]; exact ha))
        exact ⟨y1, y2⟩) (fun j u hj hu h8 => by
        refine go.2.2.2.2.2 _ (fun ⟨i, i1, i2⟩ => ?_)
        have w4 := (hw4 i i1).1
        obtain rfl : j = f := by omega
        obtain rfl : u = w i := by omega
        rw [hS] at h8
        rcases List.mem_cons.mp h8 with z | z
        · have := (Prod.mk.inj z).1
          omega
        · exact (hw4 i i1).2.1 z) (fun u d π hu hA hR => by
        have hR : lUm (kR (x f)) w (fun _ => none) n9 u = some (d :: π) := hR
        by_cases c0 : ∃ i : Nat, i < n9 ∧ u = w i
        · obtain ⟨i, i1, i2⟩ := c0
          rw [i2, lUm_i i1 hwi] at hR; cases hR
        · rw [lUm_o (fun i hi z => c0 ⟨i, hi, z⟩)] at hR
          refine Or.inl ⟨?_, hR, c0⟩
          rcases hA with ⟨q1, q2⟩ | ⟨q1, _⟩
          · exact Or.inl ⟨q1, q2.resolve_right c0⟩
          · omega) (fun a z => go.2.2.2.1 a z) (fun a z => Or.inr (Or.inr (by rw [z, p7]; exact List.mem_cons_self ..))) (fun a => by
        rw [p7]
        show _ + ((if m = a then 1 else 0) + cnN a fl) + _ = ((if m = a then 1 else 0) + cnN a (ftN cs n9 ++ ftN ls n9)) + _ + _
        rw [cnN_app, ftN_cn, ftN_cn, psN_ad (u := fun i => cnN a (cs i)) (v := fun i => cnN a (ls i))]
        omega) (fun q => by rw [p8, ftN_cn]; exact ⟨Nat.le_refl _, go.2.2.2.2.1 q (fun z => z)⟩) (fun q hq => by rw [f2.2.2.2.2.2.1 72 (by decide), q1.2.2.2.2.2.1, c5])
    refine Rt.rt ⟨hX1.go go (f2.wq (q1.wq (c3.wq hX1.2.1))) ?_, Or.inr ⟨(go.2.1 3 (by decide)).trans e3, (go.2.1 70 (by decide)).trans e70, NXt.fr ?_ er ?_⟩⟩
    · rw [f2.2.2.2.2.2.2.2.1 81 (by decide) (by decide), q1.2.2.2.2.2.2.2.1, c3.2.2.2.2.2.2.2 81 (by decide)]; exact hX1.2.2.2.2
    · have hed : edg D k (k + 1) := h1.e1 (kd_s hk (by decide))
      have hno9 : (D.I k).ho = none := d0.2.2.1
      have hno : ∀ u : Nat, (D.I k).ho ≠ some u := fun u z => by rw [hno9] at z; cases z
      rw [evs, ← bL8_l] at hw
      have hjn : ∀ a ∈ D.st (k + 1), pnE a := wkS_pn hw (fun a ha => by
        rcases List.mem_append.mp ha with q | q
        · obtain ⟨b1, b2, b3⟩ := a
          have h8 := bL8_8 _ q
          have h8 : b1 = 8 := h8
          subst h8
          exact ⟨by show (8 : Nat) ≠ 3; decide, by show (8 : Nat) ≠ 4; decide, by show (8 : Nat) ≠ 5; decide, by show (8 : Nat) ≠ 6; decide, fun z => by have z : (8 : Nat) = 1 ∨ (8 : Nat) = 2 := z; omega⟩
        · exact hrn a q)
      have wj : wl (D.st (k + 1)) = 0 := by rw [wkS_wl hw, bL8_wl]; exact hwr
      refine finG (X := ((x f).1, bL8 w n9 ++ trL (AL D k) r, 0, lUm (kR (x f)) w (fun _ => none) n9, lUm (kH (x f)) w (fun i κ => HK D (k + 1) (w i) κ) n9, (fun u => kal (x f) u ∨ ∃ i : Nat, i < n9 ∧ u = w i), (fun u π => klo (x f) u π ∧ ¬ ∃ i : Nat, i < n9 ∧ u = w i), kAn (x f))) hL h1.1 hed ⟨_, _, _, _, _, m :: fl, t9, j3, nv1, nv2, f1⟩ rfl a1 rfl (by
        show wkS (bL8 w n9 ++ trL (AL D k) r) _
        rw [← trL_8s bL8_8]
        exact trL_t hw (fun n hn => by rw [bL8_wl, hwr] at hn; omega)) (gtS.of hjn) hjn (fun u hu q => ?_) (fun u κ hu q z => ?_) (fun m κ hm => by rw [wj] at hm; omega) (fun κ r1 m q => ?_) (fun u π hw4' _ q => ?_) ((go.2.1 77 (by decide)).trans h1.2.2.2.1.1) ?_ go.2.2.1 (go.2.1 76 (by decide))
      · refine Or.inl ?_
        rw [a5]
        exact ⟨hu, hFn.al hed (by omega) (hno u) q⟩
      · have z : lUm (kH (x f)) w (fun i κ => HK D (k + 1) (w i) κ) n9 u κ := z
        by_cases c0 : ∃ i : Nat, i < n9 ∧ u = w i
        · obtain ⟨i, i1, i2⟩ := c0
          rw [i2, lUm_i i1 hwi] at z
          rw [i2]; exact z
        · rw [lUm_o (fun i hi z => c0 ⟨i, hi, z⟩), a4] at z
          rcases z with ⟨_, z⟩ | ⟨z, _⟩
          · exact hFn.hk hed (by omega) (hno u) z.1
          · omega
      · rcases q with q | q
        · exact absurd (Or.inr (Or.inl rfl)) (trL_4 (pn_4 hjn) _ q)
        · exact absurd (Or.inr (Or.inr rfl)) (trL_4 (pn_4 hjn) _ q)
      · obtain ⟨q, qn⟩ := q
        rw [a6] at q
        refine hFn.lv9 hL hEy hed hw4' q (Or.inr (Or.inr (Or.inl hk))) (fun z => qn ?_) (by rw [hk]; decide)
        rw [evs] at z
        obtain ⟨i, i1, i2⟩ := List.mem_map.mp z
        exact ⟨i, List.mem_range.mp i1, i2.symm⟩
      · rw [f2.2.2.2.2.2.2.2.1 73 (by decide) (by decide), q1.2.2.2.2.2.2.2.1, c4, wj]; rfl
    · rw [h1.2.2.2.1.2.2, h.2.2.2.1.2.2]
  · obtain ⟨q, hq⟩ : ∃ q : Nat, n9 = q + 1 := ⟨n9 - 1, by omega⟩
    have h0' : 0 < n9 := h0
    have l1 : 1 ≤ (cs 0).length := by rw [hlen 0 h0']; exact (hy.1 _).1
    have c2 := ftN_get (f := cs) (i := 0) h0' l1
    rw [hdN_0 l1] at c2
    have c3' := hdN_0 (c := ftN cs n9) (by
      have := (List.getElem?_eq_some_iff.mp c2).1
      omega)
    have e9 : psN (fun j => (cs j).length) 0 + 0 = 0 := rfl
    rw [e9, c3'] at c2
    rw [Option.some.inj c2]
end PS92
end
