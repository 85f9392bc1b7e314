section PS73
variable {R : yR} {S0 Sl S S1 S2 S3 : Sg} {D : fD} {i k j f nw : Nat} {vt : Nat → Nat → Nat} {tb : Nat → lTb} {x : Nat → kFm} {bs : Nat → Nat} {g : Nat → Int32} {v T : Nat} {ρ σ : lLc}
/-- takePlace of one node -/
theorem tkl_ {z n t : Nat} {fl : List Nat} (hL : LFS R S0 g) (hx : LX S0 Sl) (e : RNx Sl S) (hr : rTy S0 z) (h2 : yK R S0 (abT S0 z) ≠ 2) (n4 : n < 430000) (hf : FLs S fl t) (hn : n ∉ fl) : Rt (f_takePlace R.K S (some z) (nI n)) (fun S2 r => r = Zl S 61 n ∧ NO (fun m => m = n) S S2 ∧ Zr S2 62 n = 0 ∧ Zr S2 63 = Zr S 63 ∧ FLs S2 fl t) := by
  have hk2 : ∃ kd : Int32, oI S 20 (some z) 0 = some kd ∧ kd ≠ 3 := by
    obtain ⟨kd, ix, o, q, _⟩ := hr.ty
    obtain ⟨tn, _, _, z3, z4⟩ := e.ty (hx.ty q)
    refine ⟨kd, oI_mk z3 z4 rfl, fun w => h2 ?_⟩
    rcases yK_k hL hr q with ⟨z, _⟩ | ⟨_, i9, w1, w2, _, _, _, w3⟩ | z | z | z
    · rcases z with z | z | z | z <;> (rw [w] at z; exact absurd z (by decide))
    · exact w3
    · have := z.1; rw [w] at this; exact absurd this (by decide)
    · have := z.1; rw [w] at this; exact absurd this (by decide)
    · rcases z.1 with z | z <;> (rw [w] at z; exact absurd z (by decide))
  obtain ⟨kd, o1, o2⟩ := hk2
  unfold f_takePlace
  generalize bigN = bg
  refine Rt.bd o1 (Rt.iq o2 (Rt.bd (wZ_n (show n < rlen 62 from n4) (by decide) (Or.inl rfl)) ?_))
  have e2 : NO (fun m => m = n) S (Ur S 62 (upd (Zr S 62) n 0)) := NO.w2 rfl
  have v2 : Zl (Ur S 62 (upd (Zr S 62) n 0)) = Zl S := rfl
  have u2 : Zr (Ur S 62 (upd (Zr S 62) n 0)) 62 n = 0 := by rw [Zr_us, upd_s]
  have w2 : Zr (Ur S 62 (upd (Zr S 62) n 0)) 63 = Zr S 63 := Zr_u9 (by decide)
  have f2 : FLs (Ur S 62 (upd (Zr S 62) n 0)) fl t := hf.no e2 (fun m hm w => hn (by rw [← w]; exact hm)) rfl rfl
  generalize Ur S 62 (upd (Zr S 62) n 0) = S4 at e2 v2 u2 w2 f2
  exact Rt.bd (rJ_n (show n < rlen 61 from n4) (by decide)) (Rt.rt ⟨by rw [v2], e2, u2, w2, f2⟩)
/-- a step's end: a reference came on top, more may lack a value -/
theorem finRv {q U : Nat} {R2 : Nat → Option lLc} {hd : Nat → Prop} {lo2 : Nat → lLc → Prop} (hL : LFS R S0 g) (hk : PK R S0 i D k) (e : edg D k j) (hq : q = 1 ∨ q = 2) (hw : wkS ((q, U, 0) :: D.st k) (D.st j)) (hs : ∀ a ∈ D.st k, pnE a) (ho : (D.I k).ho = some (40 + wl (D.st k))) (hat : atT R S0 i D k (x f)) (hhd : ∀ κ : Nat, hd κ → HK D j (40 + wl (D.st k)) κ) (hlo : ∀ (v : Nat) (π : lLc), v < 40 → lo2 v π → LO R S0 D j v π)
  (h : kT (yT R S0) (zN R S0) (szN R S0) vt tb f (kUx x f ((x f).1, (q, U, 0) :: (x f).2.1, 0, R2, lUp (kH (x f)) (40 + wl (D.st k)) hd, (fun u => u < 40 ∧ AB D k u), lo2, kAn (x f))) bs S2) (h77 : Zi S2 77 = nI j) (h73 : Zi S2 73 = nI (bs f + wl (D.st k) + 1)) (h75 : Zr S2 75 = Zr S 75) (h76 : Zi S2 76 = Zi S 76) : NXt R S0 vt tb i D k f x bs S S2 := by
  obtain ⟨hD, hkk, hW, hG, hE⟩ := hk
  obtain ⟨a1, a2, a3, a4, a5, a6⟩ := hat
  have hy := nYk_of hL
  have hnm : kNm (q, U, 0) := pR_nm hq
  have hpq : pnE (q, U, 0) := pnE_k (by omega)
  have hj : ∀ a ∈ D.st j, pnE a := wkS_pn hw (fun a ha => by
    rcases List.mem_cons.mp ha with w | w
    · rw [w]; exact hpq
    · exact hs a w)
  obtain ⟨j1, j2, j3, j4, j5⟩ := hD.in e
  have h177 := (hD.pt hkk.1 hkk.2.1).2
  have hwl := wkS_wl hw
  rw [wl_n hnm] at hwl
  have hno : ∀ u : Nat, u ≠ 40 + wl (D.st k) → (D.I k).ho ≠ some u := fun u hu w => by rw [ho] at w; exact hu (Option.some.inj w).symm
  generalize hX : ((x f).1, (q, U, 0) :: (x f).2.1, 0, R2, lUp (kH (x f)) (40 + wl (D.st k)) hd, (fun u => u < 40 ∧ AB D k u), lo2, kAn (x f)) = X at h
  have eH : kH X = lUp (kH (x f)) (40 + wl (D.st k)) hd := by rw [← hX]; rfl
  have b1 : ∀ u κ : Nat, u < 40 → AL D j u → kH (kUx x f X f) u κ → HK D j u κ := fun u κ hu q1 w => by
    rw [kUx_top, eH, lUp_ne (by omega), a4] at w
    rcases w with ⟨_, w⟩ | ⟨w, _⟩
    · exact hD.hk e (by omega) (hno u (by omega)) w.1
    · omega
  have b2 : ∀ m κ : Nat, m < wl (D.st j) → AL D j (40 + m) ∨ mkS (D.st j) → kH (kUx x f X f) (40 + m) κ → HK D j (40 + m) κ ∧ (mkS (D.st j) → m = 0 → okl R S0 i D κ) := fun m κ hm2 q1 w => by
    rw [kUx_top, eH] at w
    refine ⟨?_, fun z => absurd z (pn_mk hj)⟩
    by_cases z : m = wl (D.st k)
    · subst z
      rw [lUp_eq] at w
      exact hhd κ w
    · rw [lUp_ne (by omega), a4] at w
      rcases w with ⟨_, w⟩ | ⟨w, _⟩
      · exact hD.hk e (by omega) (hno _ (by omega)) w.1
      · omega
  have b3 : ∀ (κ r m : Nat), (5, r, m) ∈ trL (AL D j) (D.st j) ∨ (6, r, m) ∈ trL (AL D j) (D.st j) → kH (kUx x f X f) 300 κ → HA R S0 i D j 300 κ := fun κ r m q1 => by
    rcases q1 with q1 | q1
    · exact absurd (Or.inr (Or.inl rfl)) (trL_4 (pn_4 hj) _ q1)
    · exact absurd (Or.inr (Or.inr rfl)) (trL_4 (pn_4 hj) _ q1)
  obtain ⟨Y, x1, x2, x3⟩ := kT.fin (D := D) (j := j) (i := i) (R := R) (S0 := S0) hy yB_yT h (by rw [kUx_top, ← hX]) (by rw [kUx_top, ← hX]; exact a1) (by
    rw [kUx_top, ← hX]
    show wkS ((q, U, 0) :: (x f).2.1) _
    rw [a2]
    exact trL_c hw (show q ≠ 3 by omega) (show q ≠ 5 by omega) (show q ≠ 6 by omega) (fun n hn => hD.al e (by omega) (hno _ (by omega)))) (fun u hu q1 => by rw [kUx_top, ← hX]; exact ⟨hu, hD.ab e (by omega) q1⟩) b1 b2 b3 (fun v π hv _ w => by
    rw [kUx_top, ← hX] at w
    exact hlo v π hv w)
  rw [kUx_top, ← hX] at x2
  rw [kUx2] at x3
  exact ⟨j, Y, e, ⟨hD, ⟨j1, j2, j5⟩, j3 hW, gtS.of hj, hE⟩, h77, by rw [h73, hwl]; rfl, ⟨h75, h76⟩, x1, x2, x3.t3 hj⟩
/-- READ: a reference is moved -/
theorem s_2r (hL : LFS R S0 g) (hx : LX S0 Sl) (hE : hFE R S0 D) (h1 : RQ R S0 vt tb i D k f x bs Sl (k + 1) S1) (hQ : D.Pe < 24000) (hk : (D.I k).kd = 2) (hz : Zi S1 76 = Zi S 76) (e70 : Zi S1 70 = Zi S 70) (e3 : Zi S1 3 = Zi S 3) (er : Zr S1 = Zr S) (hi : iPa D.E (D.I k) (D.st k) v ρ T) (hu : iUv D.E (D.I k) v) (ho : (D.I k).ho = some (40 + wl (D.st k))) (hac : (D.I k).ac = 4) (hT : isRf T) (hT2 : T % 2 = 1) (hw : wkS (eT T :: D.st k) (D.st (k + 1))) : Rt (f_runRead R.K S1 (nI k)) (fun S2 _ => RTt R S0 vt tb i D k f x bs Sl S S2) := by
  have k24 : (D.I k).kd ≠ 24 := by rw [hk]; decide
  have hρ := h1.r0 hL hx hE hi.1 k24 hT
  subst hρ
  have hy := nYk_of hL
  have hEy := h1.1.2.2.2.2
  have hv4 := hi.2.1.1
  have hTv : D.E.vt v = T := by
    rcases hi.2.2.2.1 with ⟨w2, w3⟩ | ⟨_, ⟨_, w2⟩ | ⟨ρ2, w2, _⟩⟩
    · have w3 : T = D.E.vt v := w3
      exact w3.symm
    · exact w2.symm
    · cases w2
  have hrv : isRf (D.E.vt v) := by rw [hTv]; exact hT
  obtain ⟨rt, V, C, L, H, fl, t9, ⟨hJ, hN, hC, hF⟩, _⟩ := h1.2.2.2.2.2.2.1
  have hat := h1.2.2.2.2.2.1
  obtain ⟨a1, a2, a3, a4, a5, a6⟩ := id hat
  have hvt : vt (x f).1 = D.E.vt := by rw [a1]; exact h1.2.2.2.2.2.2.2.2.1
  have htb : tb (x f).1 = tbD D := by rw [a1]; exact h1.2.2.2.2.2.2.2.2.2
  have hFn := h1.1.1
  have hf6 := h1.2.2.2.2.1
  have hws := h1.2.2.2.2.2.2.2.1
  have hfu := hFn.fu hy hEy h1.1.2.1.1 h1.1.2.1.2.1 h1.1.2.1.2.2 hi.1 k24 (by rw [hac]; decide) (by rw [hac]; decide) (Or.inl (by rw [hac]; decide)) (pTy_fu hi.2.2.2.1).1 (pTy_fu hi.2.2.2.1).2
  have hkv : kal (x f) v := by rw [a5]; exact ⟨hv4, Or.inl (by rw [(hu.1 hrv).1]; exact List.mem_singleton_self _)⟩
  have hvS : (8, v, 0) ∈ (x f).2.1 := by rw [a2]; exact trL_8.mpr hi.2.2.1
  obtain ⟨d, π, n, ⟨c1, c2, c3⟩, c4, c5, c6, c7, c8, c9, c10, z9, c11⟩ := plVr hy hJ hN hv4 hvS (by rw [hvt]; exact hrv) hkv (by rw [a6]; exact hfu.1 qM_nil [] T qM_nil rfl)
  have hnt := hi.2.2.2.2.2.2.2
  have hs := h1.1.2.2.2.1.all hnt
  have hst := h1.st.2
  have h177 := h1.pt.2
  have hb := h1.sb
  have hed : edg D k (k + 1) := h1.e1 (kd_s hk (by decide))
  obtain ⟨U, hU⟩ : ∃ U : Nat, T = 10001 + 2 * U := ⟨(T - 10000) / 2, by have := hT.1; omega⟩
  have hU9 : U < 10000 := by have := hT.2; omega
  have eTT : eT T = (2, U, 0) := by
    unfold eT
    rw [if_pos (by omega), if_neg (by omega), show (T - 10000) / 2 = U by omega]
  rw [eTT] at hw
  have hB := yB_yT (R := R) (S0 := S0)
  have hcr := hB.2.2.1
  have hc := hcr U hU9
  have eU : (yT R S0).2.1 (vt (x f).1 v) = U := by rw [hvt, hTv, hU]; exact hc.2.2.2
  rw [eU] at c5 c6
  have ert : rt (f, v) = 10001 + 2 * U := by rw [c10, hvt, hTv, hU]
  have hus : ∀ u : Nat, u ≠ v → u ∉ (D.I k).us := fun u h4 hm => by
    rw [(hu.1 hrv).1] at hm
    exact h4 (List.mem_singleton.mp hm)
  have hhn : ∀ u : Nat, u ≠ 40 + wl (D.st k) → (D.I k).ho ≠ some u := fun u hu w => by rw [ho] at w; exact hu (Option.some.inj w).symm
  have hno : ∀ r m2 : Nat, (5, r, m2) ∉ (x f).2.1 ∧ (6, r, m2) ∉ (x f).2.1 := fun r m2 => by
    rw [a2]
    exact ⟨fun z => absurd (Or.inr (Or.inl rfl)) (trL_4 (pn_4 hs) _ z), fun z => absurd (Or.inr (Or.inr rfl)) (trL_4 (pn_4 hs) _ z)⟩
  have hck := hFn.ck h1.1.2.1.1 h1.1.2.1.2.1 h1.1.2.1.2.2 hi.1 (by rw [hac]; decide) (fun z => by rw [hac] at z; omega) (Or.inl rfl) (A2 := fun u => (u < 40 ∧ ((u < 40 ∧ AB D k u) ∧ u ≠ v)) ∨ (40 ≤ u ∧ u < 40 + wl (x f).2.1)) (fun u κ z1 z2 => by
    rcases z1 with ⟨z3, ⟨_, z4⟩, _⟩ | ⟨z3, z4⟩
    · exact ⟨by omega, z4, hhn u (by omega)⟩
    · rw [hst] at z4
      refine ⟨by omega, ?_, hhn u (by omega)⟩
      rcases z2 with ⟨_, z2⟩ | ⟨z2, _⟩
      · rcases z2.2.1 z3 with z5 | z5
        · exact (z5.ab (hus u (by omega))).1
        · exact absurd z5 (pn_mk hs)
      · omega)
  obtain ⟨hdv, j1, j2⟩ := kJ_mvR (v := v) (U := U) (d := d) (π := π) (al2 := fun u => (u < 40 ∧ AB D k u) ∧ u ≠ v) (lo2 := fun w π => LO R S0 D (k + 1) w π ∨ 40 ≤ w) hJ a3 (by omega) hno hcr hB.2.2.2 hU9 hv4 ert hkv c4 c2 c5 c6 (fun u z => ⟨by rw [a5]; exact ⟨z.1.1, z.1.2.al (hhn u (by omega))⟩, z.2⟩) (h1.lom hL hed hk (Or.inl hac) hi.1 hv4 qM_nil (Or.inl rfl) (B := D.E.vt v) rfl) (fun u κ g1 g2 g3 g4 g5 => by
    rw [htb] at g3 g4 g5 ⊢
    rw [a4] at g2
    exact (hck u κ g1 g2 g3 g4 g5).imp (fun z => by rw [hac] at z; omega) id)
  obtain ⟨w, r1, r2, r3⟩ := h1.fd (n := hdN (C (f, v))) (m := 0) (n2 := hdN (C (f, v))) hL hx hE hQ hN hi.1 hv4 hi.2.2.1 k24 rfl (Nat.le_refl _) (Or.inl ⟨rfl, rfl⟩)
  have hT0 := hi.2.2.2.2.2.1
  obtain ⟨w', xt, r4, r5, r6, r7⟩ := h1.ft hL hx hE hQ hi.1 hT0 k24
  obtain rfl : w = w' := by rw [r1] at r4; exact Option.some.inj (Option.some.inj r4)
  obtain ⟨p1, p2, p3⟩ := hN.hd hy (d := (f, v)) (Nat.le_refl f) hv4 hvS
  have hin : hdN (C (f, v)) ∈ C (f, v) := hdN_i p2
  obtain ⟨o1, _, _, _, o5⟩ := hC.one (r := (f, v)) hf6 (show v < 300 by omega) (Or.inl hin)
  have hy56 : (yT R S0).1 (rt (f, v)) = 6 := by rw [ert]; exact hc.2.2.1
  have htk := tkl_ (z := xt) (n := hdN (C (f, v))) hL hx h1.2.2.1.1 r6 (by
    rw [r7, ← hTv, ← hvt, ← c10]
    show (yT R S0).1 (rt (f, v)) ≠ 2
    rw [hy56]; decide) p3 hF o1
  unfold f_runRead
  refine Rt.bd r1 (Rt.bd (h1.rac hQ) (Rt.iq (by rw [hac]; decide) (Rt.bd (h1.rac hQ) (Rt.ip (by rw [hac]; rfl) (Rt.bd (r5 S1 h1.2.2.1.1).1 (Rt.be (r5 S1 h1.2.2.1.1).2 (Rt.bd r2 (Rt.be r3 (Rt.bn htk (fun S2 r ⟨q0, q1, q2, q3, q4⟩ => ?_))))))))))
  have h73 : Zi S2 73 = nI (bs f + wl (D.st k)) := (q1.2.2.2.2.2.2.2.1 73 (by decide) (by decide)).trans h1.2.2.2.1.2.1
  refine Rt.bn (psh_ (p := bs f + wl (D.st k)) h73 (by omega)) (fun S3 _ ⟨s1, s2, s3, s4⟩ => ?_)
  unfold f_runRead_165
  have e72 : Zl S2 72 = Zl S1 72 := q1.2.2.2.2.2.1 72 (by decide)
  have hd300 : d.2 < 300 := by omega
  have nd : ∀ a : Nat, (a ∈ C d ∨ a ∈ L d) → a ≠ hdN (C (f, v)) := fun a ha w => hdv (o5 d (by omega) hd300 (by rw [w] at ha; exact ha))
  have agM : ∀ a : Nat, a ≠ hdN (C (f, v)) → (nMS S3).w a = (nMS S1).w a ∧ (nMS S3).h a = (nMS S1).h a ∧ (nMS S3).x a = (nMS S1).x a := fun a z => by
    rw [s1.sam.1]; exact q1.2.2.2.2.2.2.2.2 a z
  have hN1 := hN.cutR (M2 := nMS S3) (al2 := fun u => (u < 40 ∧ AB D k u) ∧ u ≠ v) (lo2 := fun w π => LO R S0 D (k + 1) w π ∨ 40 ≤ w) hy hB.2.2.2 hJ hC hf6 hws a3 hv4 hvS (Or.inr hy56) (by rw [hy56]; decide) (fun u z => by rw [a5]; exact ⟨z.1.1, z.1.2.al (hhn u (by omega))⟩) agM (by rw [s1.sam.1]; exact q2) (by rw [s1.sam.1]; exact q3)
  generalize hx1 : kUx x f ((x f).1, (x f).2.1, 0, lUp (kR (x f)) v none, kH (x f), (fun u => (u < 40 ∧ AB D k u) ∧ u ≠ v), (fun w π => LO R S0 D (k + 1) w π ∨ 40 ≤ w), kAn (x f)) = x1 at j1 hN1
  have e1 : x1 f = ((x f).1, (x f).2.1, 0, lUp (kR (x f)) v none, kH (x f), (fun u => (u < 40 ∧ AB D k u) ∧ u ≠ v), (fun w π => LO R S0 D (k + 1) w π ∨ 40 ≤ w), kAn (x f)) := by rw [← hx1, kUx_eq]
  have eS : (x1 f).2.1 = (x f).2.1 := by rw [e1]
  have hN2 := hN1.skc (sk2 := Zl S3 72) (fun p hp => by rw [eS, hst] at hp; rw [s4 p (by omega), e72])
  obtain ⟨_, _, _, T9, l4, _, l6⟩ := hJ.ld (Nat.le_refl f) (Or.inl ⟨hv4, hkv⟩) c4
  have hwk : wRn (yT R S0) (zN R S0) (nMS S3) (rt d) (hdN (C d)) π n := (hN.hd hy (d := d) c1 c2 c3).1.wk hy l4 l6 c7 (fun a ha => agM a (nd a (Or.inl ha))) (fun a ha => agM a (nd a (Or.inr ha)))
  have hN3 := hN2.pR (q := 2) (U := U) (m := 0) (t := 10001 + 2 * U) (n := n) (d := d) (π := π) (hd := kH (x f) v) (al2 := fun u => (u < 40 ∧ AB D k u) ∧ u ≠ v) hy hB j1 (by rw [e1]) (by rw [eS]; omega) (Or.inr rfl) (by omega) (by rw [e1]; exact fun u z => z) c2 c8 hwk (by rw [eS, hst, s3, q0]; exact c9)
  rw [e1, ← hx1, kUx2] at hN3
  generalize hx3 : kUx x f ((x f).1, (2, U, 0) :: (x f).2.1, 0, lUp (lUp (kR (x f)) v none) (40 + wl (x f).2.1) (some (d :: π)), lUp (kH (x f)) (40 + wl (x f).2.1) (kH (x f) v), (fun u => (u < 40 ∧ AB D k u) ∧ u ≠ v), (fun w π => LO R S0 D (k + 1) w π ∨ 40 ≤ w), kAn (x f)) = x3 at j2
  have hN3 : kN (yT R S0) (zN R S0) (szN R S0) (nMS S3) (Zl S3 72) (Zr S1 74) f x3 (qRt rt (f, 40 + wl (x f).2.1) (10001 + 2 * U)) (qUp (qUp V (f, v) (qC (V (f, v)) [])) (f, 40 + wl (x f).2.1) (qL (10001 + 2 * U))) bs C L H := by
    rw [← hx3]; exact hN3
  have e3' : x3 f = ((x f).1, (2, U, 0) :: (x f).2.1, 0, lUp (lUp (kR (x f)) v none) (40 + wl (x f).2.1) (some (d :: π)), lUp (kH (x f)) (40 + wl (x f).2.1) (kH (x f) v), (fun u => (u < 40 ∧ AB D k u) ∧ u ≠ v), (fun w π => LO R S0 D (k + 1) w π ∨ 40 ≤ w), kAn (x f)) := by rw [← hx3, kUx_eq]
  have hnt3 : ((f, v) : Nat × Nat) ≠ (f, 40 + wl (x f).2.1) := fun w => by have := (Prod.mk.inj w).2; omega
  have hax : ∀ u : Nat, (u < 40 ∧ AB D k u) → kal (x3 f) u ∨ (kR (x3 f) u = none ∧ qUp (qUp V (f, v) (qC (V (f, v)) [])) (f, 40 + wl (x f).2.1) (qL (10001 + 2 * U)) (f, u) [] = none) := fun u z => by
    rw [e3']
    by_cases c : u = v
    · subst c
      refine Or.inr ⟨?_, ?_⟩
      · show lUp (lUp (kR (x f)) u none) (40 + wl (x f).2.1) (some (d :: π)) u = none
        rw [lUp_ne (by omega), lUp_eq]
      · rw [qUp_ne hnt3, qUp_eq]
        exact qC_in (ρ := []) (σ := [])
    · exact Or.inl ⟨z, c⟩
  have j4 := kJ_alp (al2 := fun u => u < 40 ∧ AB D k u) j2 hax
  have hN4 := hN3.cx (x2 := kUx x3 f ((x3 f).1, (x3 f).2.1, (x3 f).2.2.1, kR (x3 f), kH (x3 f), (fun u => u < 40 ∧ AB D k u), klo (x3 f), kAn (x3 f))) (cxU rfl (fun _ => Iff.rfl) (fun u a hu ha => ⟨by
    have ha : kR (x3 f) u = some a := ha
    rcases hu with ⟨z1, z2⟩ | z
    · rcases hax u z2 with w | ⟨w, _⟩
      · exact Or.inl ⟨z1, w⟩
      · rw [w] at ha; cases ha
    · exact Or.inr z, ha⟩))
  rw [e3', ← hx3, kUx2] at j4 hN4
  rw [hst] at j4 hN4
  have h74 : Zr S3 74 = Zr S1 74 := by rw [s1.sam.2.1, q1.2.2.2.2.2.2.1 74 (by decide) (by decide)]
  have h67 : Zr S3 67 = Zr S1 67 := by rw [s1.sam.2.2.1, q1.2.2.2.2.2.2.1 67 (by decide) (by decide)]
  refine Rt.rt ⟨s1.rx (h1.2.2.1.no q1), Or.inr ⟨((s1.2.2.2.2.2.2.2 3 (by decide)).trans (q1.2.2.2.2.2.2.2.1 3 (by decide) (by decide))).trans e3, ((s1.2.2.2.2.2.2.2 70 (by decide)).trans (q1.2.2.2.2.2.2.2.1 70 (by decide) (by decide))).trans e70, NXt.fr ?_ er hz⟩⟩
  refine finRv (q := 2) (U := U) (hd := kH (x f) v) (lo2 := fun w π => LO R S0 D (k + 1) w π ∨ 40 ≤ w) hL h1.1 hed (Or.inr rfl) hw hs ho hat (fun κ hκ => ?_) (fun v9 π9 hv9 q => q.resolve_right (by omega)) ⟨_, _, C, L, H, fl, t9, j4, by rw [h74]; exact hN4, by rw [h67]; exact hC, s1.sam.fl q4⟩ ?_ s2 ?_ ?_
  · rw [a4] at hκ
    rcases hκ with ⟨_, hκ⟩ | ⟨hκ, _⟩
    · exact hFn.hf hed (by omega) ho k24 (by rw [(hu.1 hrv).2]; exact List.mem_singleton_self _) hκ.1
    · omega
  · exact ((s1.2.2.2.2.2.2.2 77 (by decide)).trans (q1.2.2.2.2.2.2.2.1 77 (by decide) (by decide))).trans h1.2.2.2.1.1
  · rw [s1.2.2.2.2.2.2.1, q1.2.2.2.2.2.2.1 75 (by decide) (by decide)]
  · exact (s1.2.2.2.2.2.2.2 76 (by decide)).trans (q1.2.2.2.2.2.2.2.1 76 (by decide) (by decide))
end PS73
