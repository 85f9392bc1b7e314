section PS76
variable {R : yR} {S0 Sl S S1 S2 S3 : Sg} {D : fD} {i k j f nw : Nat} {vt : Nat → Nat → Nat} {tb : Nat → lTb} {x : Nat → kFm} {bs : Nat → Nat} {g : Nat → Int32} {v T : Nat} {ρ σ : lLc}
/-- is it a struct's type? -/
theorem kd3_ {z : Nat} (hL : LFS R S0 g) (hx : LX S0 Sl) (hr : rTy S0 z) : ∃ kd : Int32, (∀ S : Sg, RNx Sl S → oI S 20 (some z) 0 = some kd) ∧ (kd = 3 ↔ yK R S0 (abT S0 z) = 2) := by
  obtain ⟨kd, ix, o, q, _⟩ := hr.ty
  refine ⟨kd, fun S e => ?_, ?_⟩
  · obtain ⟨tn, _, _, z3, z4⟩ := e.ty (hx.ty q)
    exact oI_mk z3 z4 rfl
  · rcases yK_k hL hr q with ⟨h, h2⟩ | ⟨h, _, _, _, _, _, _, h2⟩ | ⟨h, _, _, _, _, _, _, h2⟩ | ⟨h, _, _, h2, _⟩ | ⟨h, h2⟩
    · rw [h2]
      exact ⟨fun w => by rw [w] at h; rcases h with z | z | z | z <;> exact absurd z (by decide), fun w => absurd w (by decide)⟩
    · exact ⟨fun _ => h2, fun _ => h⟩
    · rw [h2, h]; decide
    · rw [h2, h]; decide
    · refine ⟨fun w => ?_, fun w => ?_⟩
      · rw [w] at h; rcases h with z | z <;> exact absurd z (by decide)
      · rcases h2 with z | z <;> rw [z] at w <;> exact absurd w (by decide)
/-- a value that is no reference came on top out of the place σ: a step's end -/
theorem RQ.mvE {A B : Nat → Prop} {T0 k0 tt t2 : Nat} {rt : Nat × Nat → Nat} {V : Nat × Nat → qV} {C L H : Nat × Nat → List Nat} {fl c0 l0 g0 rest hr lv hv fl2 : List Nat} {r : Int64} {W : qV} (hL : LFS R S0 g) (h1 : RQ R S0 vt tb i D k f x bs Sl nw S1) (hed : edg D k j) (hJ : kJ (yT R S0) vt tb f x rt V) (hN : kN (yT R S0) (zN R S0) (szN R S0) (nMS S1) (Zl S1 72) (Zr S1 74) f x rt V bs C L H) (hC : kC C L H fl tt (Zr S1 67)) (hs : ∀ a ∈ D.st k, pnE a) (ho : (D.I k).ho = none) (hv4 : v < 40) (h8 : (8, v, 0) ∈ D.st k) (hnr : (yT R S0).1 (rt (f, v)) ≠ 5 ∧ (yT R S0).1 (rt (f, v)) ≠ 6) (hw : wkS ((0, T, 0) :: D.st k) (D.st j))
  (hJ2 : kJ (yT R S0) vt tb f (kUx x f ((x f).1, (0, T, 0) :: (x f).2.1, 0, lUp (kR (x f)) (40 + wl (x f).2.1) none, kH (x f), kal (x f), (fun w π => LO R S0 D j w π ∨ 40 ≤ w), kAn (x f))) (qRt rt (f, 40 + wl (x f).2.1) T) (qUp (qUp V (f, v) (qC (V (f, v)) σ)) (f, 40 + wl (x f).2.1) W))
  (p0 : pL (yT R S0) (szN R S0) (nMS S1) k0 T0 (qS (V (f, v)) σ) c0 l0 g0) (pc : ∀ a : Nat, cnN a (C (f, v)) + cnN a (L (f, v)) = cnN a c0 + cnN a l0 + cnN a rest) (ph : ∀ a : Nat, cnN a (H (f, v)) = cnN a g0 + cnN a hr) (pm : ∀ a ∈ C (f, v), a ∈ c0 ∨ a ∈ rest) (pf : foR (yT R S0) (zN R S0) (szN R S0) (nMS S1) (rt (f, v)) T0 (V (f, v)) σ (C (f, v)) c0 rest hr)
  (e : GO A B (fun _ => False) S1 S2) (hA : ∀ a : Nat, A a → (a ∈ c0 ∨ a ∈ l0) ∨ a ∈ fl ∨ tt < a) (hfl2 : ∀ a : Nat, cnN a lv + cnN a fl2 + ind tt a = cnN a l0 + cnN a fl + ind t2 a) (hc0 : ∀ a ∈ c0, Zr S2 62 a = 0 ∧ Zr S2 63 a = Zr S1 63 a) (hva : vaR (yT R S0) (szN R S0) (nMS S2) T W r lv hv) (hhv : ∀ q : Nat, cnN q hv ≤ cnN q g0 ∧ (Zr S2 67 q = Zr S1 67 q ∨ cnN q hv < cnN q g0)) (hF : FLs S2 fl2 t2)
  (hsk : ∀ q : Nat, q < bs f + wl (D.st k) → Zl S2 72 q = Zl S1 72 q) (hsk2 : Zl S2 72 (bs f + wl (D.st k)) = r) (h77 : Zi S1 77 = nI j) (h73 : Zi S2 73 = nI (bs f + wl (D.st k) + 1)) : NXt R S0 vt tb i D k f x bs S1 S2 := by
  have hy := nYk_of hL
  obtain ⟨a1, a2, a3, a4, a5, a6⟩ := h1.2.2.2.2.2.1
  have hst := h1.st.2
  have h177 := h1.pt.2
  have hvS : (8, v, 0) ∈ (x f).2.1 := by rw [a2]; exact trL_8.mpr h8
  have hFn := h1.1.1
  obtain ⟨l2, h2, n1, n2⟩ := hN.mvb (M2 := nMS S2) (sk2 := Zl S2 72) (r := r) (tk2 := Zr S2 67) (A := A) hy hJ hC h1.2.2.2.2.1 h1.2.2.2.2.2.2.2.1 hv4 hvS hnr (fun u q => q) hJ2 p0 pc ph pm pf (fun a z => e.2.2.2.1 a z) hA hfl2 hc0 hva hhv (fun p hp => hsk p (by rw [hst] at hp; exact hp)) (by rw [hst]; exact hsk2)
  have h74 : Zr S2 74 = Zr S1 74 := funext fun q => e.2.2.2.2.2 q (fun w => w)
  have kt : kT (yT R S0) (zN R S0) (szN R S0) vt tb f (kUx x f ((x f).1, (0, T, 0) :: (x f).2.1, 0, lUp (kR (x f)) (40 + wl (x f).2.1) none, kH (x f), kal (x f), (fun w π => LO R S0 D j w π ∨ 40 ≤ w), kAn (x f))) bs S2 := ⟨_, _, C, _, _, fl2, t2, hJ2, by rw [h74]; exact n1, n2, hF⟩
  refine (finV (s := (0, T, 0) :: D.st k) hL h1.1 hed hw (fun a ha => ?_) ho ?_ ?_ ?_ ?_ ?_ (fun v9 π hv9 q => ?_) kt ((e.2.1 77 (by decide)).trans h77) ?_ e.2.2.1 (e.2.1 76 (by decide))).ux rfl
  · rcases List.mem_cons.mp ha with z | z
    · rw [z]; exact pnE_k (Or.inl rfl)
    · exact hs a z
  · rw [kUx_top]
  · rw [kUx_top]; exact a1
  · rw [kUx_top]
    show wkS ((0, T, 0) :: (x f).2.1) _
    rw [a2]
    exact trL_c hw (show (0 : Nat) ≠ 3 by decide) (show (0 : Nat) ≠ 5 by decide) (show (0 : Nat) ≠ 6 by decide) (hFn.dn hed ho (by omega))
  · rw [kUx_top]; exact a4
  · rw [kUx_top]; exact a5
  · rw [kUx_top] at q
    rcases q with q | q
    · exact q
    · omega
  · rw [h73, wkS_wl hw, wl_n (by show ¬ ((0 : Nat) = 8 ∨ (0 : Nat) = 4 ∨ (0 : Nat) = 5 ∨ (0 : Nat) = 6); decide)]
    congr 1
theorem rgN_nd {f s q : Nat} : cnN q (rgN f s) ≤ 1 := by
  rw [rgN_cn]
  by_cases e : f ≤ q ∧ q < f + s
  · rw [if_pos e]; exact Nat.le_refl _
  · rw [if_neg e]; exact Nat.zero_le _
/-- READ: a value is moved out of its box -/
theorem s_2x (hL : LFS R S0 g) (hx : LX S0 Sl) (hE : hFE R S0 D) (h1 : RQ R S0 vt tb i D k f x bs Sl (k + 1) S1) (hQ : D.Pe < 24000) (hk : (D.I k).kd = 2) (hz : Zi S1 76 = Zi S 76) (e70 : Zi S1 70 = Zi S 70) (e3 : Zi S1 3 = Zi S 3) (er : Zr S1 = Zr S) (hi : iPa D.E (D.I k) (D.st k) v (σ ++ [(1, 0)]) T) (hu : iUv D.E (D.I k) v) (ho : (D.I k).ho = none) (hac : (D.I k).ac = 5) (hm : qM σ) (hnv : ¬ isRf (D.E.vt v)) (hT : ¬ isRf T) (hw : wkS (eT T :: D.st k) (D.st (k + 1))) : Rt (f_runRead R.K S1 (nI k)) (fun S2 _ => RTt R S0 vt tb i D k f x bs Sl S S2) := by
  have k24 : (D.I k).kd ≠ 24 := by rw [hk]; decide
  have hy := nYk_of hL
  have hEy := h1.1.2.2.2.2
  have hv4 := hi.2.1.1
  have hT0 := hi.2.2.2.2.2.1
  have hqw : qW (yT R S0) (D.E.vt v) (σ ++ [(1, 0)]) T := by
    have q := hi.2.2.2.1
    rw [hEy] at q
    rcases q with w2 | ⟨w1, _⟩
    · exact w2.2
    · exact absurd w1 hnv
  obtain ⟨B, hqB, hqT⟩ := qW_cut hqw
  obtain ⟨_, hB4, hBT⟩ := hqT
  have hBT : T = (yT R S0).2.1 B := hBT
  obtain ⟨rt, V, C, L, H, fl, t9, ⟨hJ, hN, hC, hF⟩, _⟩ := h1.2.2.2.2.2.2.1
  obtain ⟨a1, a2, a3, a4, a5, a6⟩ := h1.2.2.2.2.2.1
  have hvt : vt (x f).1 = D.E.vt := by rw [a1]; exact h1.2.2.2.2.2.2.2.2.1
  have hFn := h1.1.1
  have hf6 := h1.2.2.2.2.1
  have hws := h1.2.2.2.2.2.2.2.1
  have hs := h1.1.2.2.2.1.all hi.2.2.2.2.2.2.2
  have hst := h1.st.2
  have h177 := h1.pt.2
  have hb := h1.sb
  have hed : edg D k (k + 1) := h1.e1 (kd_s hk (by decide))
  have hvS : (8, v, 0) ∈ (x f).2.1 := by rw [a2]; exact trL_8.mpr hi.2.2.1
  have hno : ∀ r m2 : Nat, (5, r, m2) ∉ (x f).2.1 ∧ (6, r, m2) ∉ (x f).2.1 := fun r m2 => by
    rw [a2]
    exact ⟨fun z => absurd (Or.inr (Or.inl rfl)) (trL_4 (pn_4 hs) _ z), fun z => absurd (Or.inr (Or.inr rfl)) (trL_4 (pn_4 hs) _ z)⟩
  have hfu := hFn.fu hy hEy h1.1.2.1.1 h1.1.2.1.2.1 h1.1.2.1.2.2 hi.1 k24 (by rw [hac]; decide) (by rw [hac]; decide) (Or.inl (by rw [hac]; decide)) (pTy_fu hi.2.2.2.1).1 (pTy_fu hi.2.2.2.1).2
  rw [hEy, ← a6] at hfu
  have t56 : (yT R S0).1 T ≠ 5 ∧ (yT R S0).1 T ≠ 6 := ⟨fun z => hT (yRf.mp (Or.inl z)), fun z => hT (yRf.mp (Or.inr z))⟩
  obtain ⟨⟨F1, F2⟩, hJ2⟩ := kJ_mv (T := T) (B := B) (σ := σ) (ρ := σ ++ [(1, 0)]) (al2 := kal (x f)) (lo2 := fun w π => LO R S0 D (k + 1) w π ∨ 40 ≤ w) hJ a3 (by omega) hno hT0 t56.1 t56.2 hv4 hvS (by rw [hvt]; exact hqw) hm (by rw [hvt]; exact hqB) (Or.inr rfl) hfu (fun u q => q) (h1.lom hL hed hk (Or.inr hac) hi.1 hv4 hm (Or.inr rfl) hqB) (h1.ckm hi hu ho (Or.inr hac) hnv)
  have hnr : (yT R S0).1 (rt (f, v)) ≠ 5 ∧ (yT R S0).1 (rt (f, v)) ≠ 6 := by
    rw [F2, hvt]
    exact ⟨fun z => hnv (yRf.mp (Or.inl z)), fun z => hnv (yRf.mp (Or.inr z))⟩
  obtain ⟨⟨⟨k9, pl9⟩, plk, _⟩, p2, p3⟩ := hN.hd hy (d := (f, v)) (Nat.le_refl f) hv4 hvS
  have hqB2 : qW (yT R S0) (rt (f, v)) σ B := by rw [F2, hvt]; exact hqB
  obtain ⟨k0, c0, l0, g0, rest, hr, b1, b2, b3, b4, b5, b6, b7⟩ := pl9.fo hy plk hqB2 (prS.of (hJ.1 (f, v)) (qPl_up (qF_pl F1)))
  -- the box
  obtain ⟨τ9, z9, hz9⟩ := qF_pl F1
  obtain ⟨z8, hz8⟩ := (hJ.1 (f, v)).2.1 σ τ9 0 z9 (by rw [List.append_assoc] at hz9; exact hz9)
  have hS0 : qS (V (f, v)) σ [] = some z8 := by
    show V (f, v) (σ ++ []) = _
    rw [List.append_nil]; exact hz8
  cases k0 with
  | zero => exact b1.elim
  | succ k0 =>
  have b1' := b1
  rcases b1 with ⟨z, _⟩ | ⟨_, n0, en, ⟨z, _⟩ | ⟨hh, hvl⟩⟩
  · rw [hB4] at z; cases z
  · rw [hS0] at z; cases z
  obtain ⟨_, m, f9, c, L9, H9, _, v2, v3, v4, v5, v6, v7, v8, v9, v10, v11⟩ := (Or.resolve_left hvl (fun z => absurd (hB4.symm.trans z.1) (by decide))).resolve_right (fun z => z.2.1 hB4)
  subst en
  subst v9
  subst v10
  rw [← hBT] at v6 v7 v11 b5 b1'
  have eS : qS (qS (V (f, v)) σ) [(1, 0)] = qS (V (f, v)) (σ ++ [(1, 0)]) := funext fun π => by
    show V (f, v) (σ ++ ([(1, 0)] ++ π)) = V (f, v) (σ ++ [(1, 0)] ++ π)
    rw [List.append_assoc]
  rw [eS] at v11
  have hcv : cvN [n0] (m :: (c ++ L9)) fl t9 := hC.cv (r := (f, v)) hf6 (show v < 300 by omega) hF.2.2.2.1 (fun a => by have := b4 a; omega)
  have hcn : ∀ a : Nat, cnN a [n0] = (if n0 = a then 1 else 0) ∧ cnN a (m :: (c ++ L9)) = (if m = a then 1 else 0) + (cnN a c + cnN a L9) := fun a => ⟨rfl, by
    show (if m = a then 1 else 0) + cnN a (c ++ L9) = _
    rw [cnN_app]⟩
  have hm1 : m ≠ n0 ∧ m ∉ fl ∧ m ≤ t9 ∧ m ∉ c ∧ m ∉ L9 := by
    have q := hcv m
    rw [(hcn m).1, (hcn m).2, if_pos rfl] at q
    refine ⟨fun w => ?_, fun w => ?_, (q.2 (by omega)).2, fun w => ?_, fun w => ?_⟩
    · rw [if_pos w.symm] at q; omega
    · have := cnN_mem.mp w; omega
    · have := cnN_mem.mp w; omega
    · have := cnN_mem.mp w; omega
  have hn0 : n0 ∉ fl ∧ n0 ∉ c ∧ n0 ∉ L9 := by
    have q := hcv n0
    rw [(hcn n0).1, (hcn n0).2, if_pos rfl] at q
    exact ⟨fun w => by have := cnN_mem.mp w; omega, fun w => by have := cnN_mem.mp w; omega, fun w => by have := cnN_mem.mp w; omega⟩
  have hcl : ∀ a : Nat, a ∈ c → a ∉ fl ∧ a ≤ t9 ∧ a ∉ L9 := fun a ha => by
    have q := hcv a
    rw [(hcn a).1, (hcn a).2] at q
    have := cnN_mem.mp ha
    exact ⟨fun w => by have := cnN_mem.mp w; omega, (q.2 (by omega)).2, fun w => by have := cnN_mem.mp w; omega⟩
  have hclen : c.length = zN R S0 T := v11.len hy
  have hz1 := hy.1 T
  have hc1 : 1 ≤ c.length := by omega
  have hhd := hdN_i hc1
  have hn430 : n0 < 430000 := (b2.1 n0 (List.mem_singleton_self n0)).2
  have hd430 := (v8.1 _ hhd).2
  obtain ⟨w, r1, r2, r3⟩ := h1.fd (n := hdN (C (f, v))) (m := σ.length) (n2 := n0) hL hx hE hQ hN hi.1 hv4 hi.2.2.1 k24 rfl (by rw [List.length_append]; omega) (Or.inr (by
    rw [List.take_left]
    refine Or.inl ⟨hnv, ?_⟩
    rw [F2, hvt] at b3; exact b3))
  obtain ⟨w', xt, r4, r5, r6, r7⟩ := h1.ft hL hx hE hQ hi.1 hT0 k24
  obtain rfl : w = w' := by rw [r1] at r4; exact Option.some.inj (Option.some.inj r4)
  have eTT : eT T = (0, T, 0) := by
    unfold eT
    rw [if_neg (fun z => by
      rcases r6.nm hL.1 with ⟨z1, _, _, _⟩ | ⟨kd, u, _, _, z2, _⟩
      · have := z1.nm hL.1; omega
      · rw [r7] at z2; exact hT z2)]
  rw [eTT] at hw
  obtain ⟨kd, o1, o2⟩ := kd3_ (z := xt) hL hx r6
  rw [r7] at o2
  have hX1 := h1.2.2.1
  have h73 : Zi S1 73 = nI (bs f + wl (D.st k)) := h1.2.2.2.1.2.1
  unfold f_runRead
  refine Rt.bd r1 (Rt.bd (h1.rac hQ) (Rt.iq (by rw [hac]; decide) (Rt.bd (h1.rac hQ) (Rt.iq (by rw [hac]; decide) (Rt.bd r2 ?_)))))
  have e9 : ∀ q : Nat, q = σ.length + 1 → nI q - 1 = nI σ.length := fun q hq => by rw [hq]; exact nI_pred _
  rw [e9 _ (by rw [List.length_append]; rfl)]
  refine Rt.be r3 (Rt.bd (rJ_n (show n0 < rlen 61 from hn430) (by decide)) (Rt.bd (wZ_n (show n0 < rlen 62 from hn430) (by decide) (Or.inl rfl)) ?_))
  have e2 : NO (fun a => a = n0) S1 (Ur S1 62 (upd (Zr S1 62) n0 0)) := NO.w2 rfl
  have z2 : Zl (Ur S1 62 (upd (Zr S1 62) n0 0)) = Zl S1 := rfl
  have u2 : Zr (Ur S1 62 (upd (Zr S1 62) n0 0)) 62 n0 = 0 := by rw [Zr_us, upd_s]
  have w2 : Zr (Ur S1 62 (upd (Zr S1 62) n0 0)) 63 = Zr S1 63 := Zr_u9 (by decide)
  have f2 : FLs (Ur S1 62 (upd (Zr S1 62) n0 0)) fl t9 := hF.no e2 (fun a ha q => hn0.1 (by rw [← q]; exact ha)) rfl rfl
  have i2 : Zi (Ur S1 62 (upd (Zr S1 62) n0 0)) = Zi S1 := rfl
  generalize Ur S1 62 (upd (Zr S1 62) n0 0) = S4 at e2 z2 u2 w2 f2 i2
  have v2' : Zl S1 61 n0 = nL m := v2
  rw [v2', nL_t]
  have R4 : RNx Sl S4 := hX1.1.tr e2.rn
  refine Rt.be (kid_ (n := hdN c) v3.2 (by rw [z2]; exact v4)) (Rt.bd (r5 S4 R4).1 (Rt.be (r5 S4 R4).2 (Rt.bd (o1 S4 R4) ?_)))
  have R5 : ∀ S5 : Sg, GO (fun a => a = n0 ∨ a = m ∨ a = hdN c) (fun q => q ∈ rgN f9 (szN R S0 T)) (fun _ => False) S1 S5 → RNx Sl S5 := fun S5 e => hX1.1.tr e.1
  -- the block and its node are given back
  have fin153 : ∀ (S5 : Sg) (fl5 lv : List Nat) (rv : Int64), GO (fun a => a = n0 ∨ a = m ∨ a = hdN c) (fun q => q ∈ rgN f9 (szN R S0 T)) (fun _ => False) S1 S5 → Zl S5 61 m = Zl S1 61 m → wq S5 → Zi S5 81 = nI 0 → FLs S5 fl5 t9 → m ∉ fl5 → (∀ a : Nat, cnN a lv + (if m = a then 1 else 0) + cnN a fl5 = cnN a (m :: (c ++ L9)) + cnN a fl) → Zr S5 62 n0 = 0 → Zr S5 63 n0 = Zr S1 63 n0 → vaR (yT R S0) (szN R S0) (nMS S5) T (qS (V (f, v)) (σ ++ [(1, 0)])) rv lv H9 → m ∉ lv → (∀ q : Nat, q < bs f + wl (D.st k) → Zl S5 72 q = Zl S1 72 q) → Zl S5 72 (bs f + wl (D.st k)) = rv → Zi S5 73 = nI (bs f + wl (D.st k) + 1) → (∀ q : Nat, Zr S5 67 q = Zr S1 67 q) → Rt (f_runRead_153 R.K S5 (nI m)) (fun S2 _ => RTt R S0 vt tb i D k f x bs Sl S S2) := fun S5 fl5 lv rv g1 g2 g3 g4 g5 g6 g7 g8 g9 g10 g11 g12 g13 g14 g15 => by
    unfold f_runRead_153 f_runRead_165
    refine Rt.bn (fbk_ (m := m) (f := f9) (s := szN R S0 T) v3.2 (by rw [g2]; exact v6) (by rw [g2]; exact v5) v7) (fun S6 _ ⟨q1, q2⟩ => Rt.bn (frn_ (q1.fls g5) v3.1 hm1.2.2.1 g6) (fun S7 _ ⟨q3, q4, q5, q6⟩ => ?_))
    have e67 : GO (fun a => a = n0 ∨ a = m ∨ a = hdN c) (fun q => q ∈ rgN f9 (szN R S0 T)) (fun _ => False) S5 S7 := q1.go.tr (q4.go.mo (fun a z => Or.inr (Or.inl z)) (fun _ z => z) (fun _ z => z))
    have e17 := g1.tr e67
    have o72 : Zl S7 72 = Zl S5 72 := by rw [q5, q1.2.2.2.2.2.1]
    have hX7 : RX Sl S7 := hX1.go e17 (q4.wq (q1.wq g3)) ((q4.2.2.2.2.2.2.2.1 81 (by decide) (by decide)).trans ((q1.2.2.2.2.2.2.2.1 81 (by decide) (by decide)).trans g4))
    have n67 : ∀ a : Nat, a ≠ m → Zl S7 61 a = Zl S5 61 a ∧ Zr S7 62 a = Zr S5 62 a ∧ Zr S7 63 a = Zr S5 63 a := fun a ha => by
      obtain ⟨y1, y2, y3⟩ := q4.2.2.2.2.2.2.2.2 a ha
      rw [q1.2.2.2.2.2.1] at y1
      rw [q1.2.2.2.2.2.2.1 62 (by decide)] at y2
      rw [q1.2.2.2.2.2.2.1 63 (by decide)] at y3
      exact ⟨y1, y2, y3⟩
    refine Rt.rt ⟨hX7, Or.inr ⟨(e17.2.1 3 (by decide)).trans e3, (e17.2.1 70 (by decide)).trans e70, NXt.fr ?_ er hz⟩⟩
    refine h1.mvE (A := fun a => a = n0 ∨ a = m ∨ a = hdN c) (B := fun q => q ∈ rgN f9 (szN R S0 T)) (W := qS (V (f, v)) (σ ++ [(1, 0)])) (r := rv) (lv := lv) (hv := H9) (fl2 := m :: fl5) (t2 := t9) hL hed hJ hN hC hs ho hv4 hi.2.2.1 hnr hw hJ2 b1' b4 b5 b6 b7 e17 (fun a z => ?_) (fun a => ?_) (fun a ha => ?_) ?_ (fun q => ?_) q3 (fun q hq => by rw [o72]; exact g12 q hq) (by rw [o72]; exact g13) h1.2.2.2.1.1 ?_
    · rcases z with z | z | z
      · rw [z]; exact Or.inl (Or.inl (List.mem_singleton_self n0))
      · rw [z]; exact Or.inl (Or.inr (List.mem_cons_self ..))
      · rw [z]; exact Or.inl (Or.inr (List.mem_cons_of_mem _ (List.mem_append_left _ hhd)))
    · have := g7 a
      show cnN a lv + ((if m = a then 1 else 0) + cnN a fl5) + ind t9 a = _
      omega
    · rw [List.mem_singleton.mp ha]
      obtain ⟨_, y2, y3⟩ := n67 n0 (fun z => hm1.1 z.symm)
      exact ⟨y2.trans g8, y3.trans g9⟩
    · exact g10.st (fun a ha => n67 a (fun z => g11 (by rw [← z]; exact ha)))
    · by_cases hq : q ∈ rgN f9 (szN R S0 T)
      · have := cnN_mem.mp hq
        rw [cnN_app]
        exact ⟨by omega, Or.inr (by omega)⟩
      · rw [cnN_app, cnN_z hq]
        refine ⟨by omega, Or.inl ?_⟩
        rw [q4.2.2.2.2.2.2.1 67 (by decide) (by decide), q1.2.2.2.2.2.2.2.2 q hq, g15]
    · rw [q4.2.2.2.2.2.2.2.1 73 (by decide) (by decide), q1.2.2.2.2.2.2.2.1 73 (by decide) (by decide)]; exact g14
  have go4 : GO (fun a => a = n0 ∨ a = m ∨ a = hdN c) (fun q => q ∈ rgN f9 (szN R S0 T)) (fun _ => False) S1 S4 := e2.go.mo (fun a z => Or.inl z) (fun _ z => z) (fun _ z => z)
  have p4 : ∀ a : Nat, a ≠ n0 → Zl S4 61 a = Zl S1 61 a ∧ Zr S4 62 a = Zr S1 62 a ∧ Zr S4 63 a = Zr S1 63 a := e2.2.2.2.2.2.2.2.2
  by_cases h2 : yK R S0 T = 2
  · refine Rt.ip (o2.mpr h2) ?_
    unfold f_runRead_133
    refine Rt.bn (psh_ (p := bs f + wl (D.st k)) (by rw [i2]; exact h73) (by omega)) (fun S5 _ ⟨s1, s2, s3, s4⟩ => ?_)
    have g5 := go4.tr s1.go
    have R5' := R5 S5 g5
    refine Rt.bd (r5 S5 R5').1 (Rt.be (r5 S5 R5').2 (Rt.bd (o1 S5 R5') (Rt.ip (o2.mpr h2) ?_)))
    have n5 : ∀ a : Nat, a ≠ n0 → Zl S5 61 a = Zl S1 61 a ∧ Zr S5 62 a = Zr S1 62 a ∧ Zr S5 63 a = Zr S1 63 a := fun a ha => by
      obtain ⟨y1, y2, y3⟩ := p4 a ha
      rw [s1.2.2.2.2.2.1 61 (by decide), s1.2.2.2.2.2.2.1]
      exact ⟨y1, y2, y3⟩
    refine fin153 S5 fl (c ++ L9) (nL (hdN c)) g5 (n5 m hm1.1).1 (s1.wq (e2.wq hX1.2.1)) ((s1.2.2.2.2.2.2.2 81 (by decide)).trans (by rw [i2]; exact hX1.2.2.2.2)) (s1.sam.fl f2) hm1.2.1 (fun a => ?_) ?_ ?_ ?_ (fun z => ?_) (fun q hq => ?_) s3 s2 (fun q => ?_)
    · show cnN a (c ++ L9) + _ + _ = ((if m = a then 1 else 0) + cnN a (c ++ L9)) + _
      omega
    · rw [s1.2.2.2.2.2.2.1]; exact u2
    · rw [s1.2.2.2.2.2.2.1, w2]
    · refine Or.inl ⟨h2, k0, c, L9, ?_, ?_, rfl, rfl⟩
      · exact v11.st (fun a ha => by
          obtain ⟨y1, y2, _⟩ := n5 a (fun z => hn0.2.1 (by rw [← z]; exact ha))
          exact ⟨y1, y2⟩) (fun a ha => n5 a (fun z => hn0.2.2 (by rw [← z]; exact ha)))
      · exact v8.cg (fun a ha => (n5 a (fun z => hn0.2.1 (by rw [← z]; exact ha))).2.2)
    · rcases List.mem_append.mp z with z | z
      · exact hm1.2.2.2.1 z
      · exact hm1.2.2.2.2 z
    · rw [s4 q (by omega), z2]
    · rw [s1.2.2.2.2.2.2.1, e2.2.2.2.2.2.2.1 67 (by decide) (by decide)]
  · refine Rt.iq (fun z => h2 (o2.mp z)) ?_
    have hy2 : (yT R S0).1 T ≠ 2 := h2
    have v11' := v11
    cases k0 with
    | zero => exact v11'.elim
    | succ k0 =>
    rcases v11' with ⟨z, _⟩ | ⟨_, n1, ec, hl⟩
    · exact absurd z hy2
    subst ec
    have hvl : vL (yT R S0) (szN R S0) (nMS S1) k0 T (qS (V (f, v)) (σ ++ [(1, 0)])) (Zl S1 61 n1) L9 H9 := by
      rcases hl with ⟨z, _⟩ | ⟨_, z⟩
      · exfalso
        obtain ⟨y1, y2⟩ := (F1 [] T qM_nil rfl).1 hy2
        rw [List.append_nil] at y2
        have z : V (f, v) (σ ++ [(1, 0)] ++ []) = none := z
        rw [List.append_nil, y2] at z; cases z
      · exact z
    have n1i : n1 ∈ [n1] := List.mem_singleton_self n1
    have n1n : n1 ≠ n0 := fun z => hn0.2.1 (by rw [← z]; exact n1i)
    have n1m : n1 ≠ m := fun z => hm1.2.2.2.1 (by rw [← z]; exact n1i)
    refine Rt.bd (rJ_n (show n1 < rlen 61 from hd430) (by decide)) ?_
    unfold f_runRead_133
    refine Rt.bn (psh_ (p := bs f + wl (D.st k)) (by rw [i2]; exact h73) (by omega)) (fun S5 _ ⟨s1, s2, s3, s4⟩ => ?_)
    have g5 := go4.tr s1.go
    have R5' := R5 S5 g5
    refine Rt.bd (r5 S5 R5').1 (Rt.be (r5 S5 R5').2 (Rt.bd (o1 S5 R5') (Rt.iq (fun z => h2 (o2.mp z)) ?_)))
    refine Rt.bn (frn_ (n := n1) (s1.sam.fl f2) (v8.1 n1 n1i).1 (hcl n1 n1i).2.1 (hcl n1 n1i).1) (fun S6 _ ⟨q3, q4, q5, q6⟩ => ?_)
    have g6 := g5.tr (q4.go.mo (fun a z => Or.inr (Or.inr z)) (fun _ z => z) (fun _ z => z))
    have n6 : ∀ a : Nat, a ≠ n0 → a ≠ n1 → Zl S6 61 a = Zl S1 61 a ∧ Zr S6 62 a = Zr S1 62 a ∧ Zr S6 63 a = Zr S1 63 a := fun a ha hb => by
      obtain ⟨y1, y2, y3⟩ := p4 a ha
      obtain ⟨y4, y5, y6⟩ := q4.2.2.2.2.2.2.2.2 a hb
      rw [s1.2.2.2.2.2.1 61 (by decide)] at y4
      rw [s1.2.2.2.2.2.2.1] at y5 y6
      exact ⟨y4.trans y1, y5.trans y2, y6.trans y3⟩
    refine fin153 S6 (n1 :: fl) L9 (Zl S1 61 n1) g6 (n6 m hm1.1 (fun z => n1m z.symm)).1 (q4.wq (s1.wq (e2.wq hX1.2.1))) ?_ q3 (fun z => ?_) (fun a => ?_) ?_ ?_ (Or.inr ⟨hy2, k0, hvl.st (fun a ha => n6 a (fun z => hn0.2.2 (by rw [← z]; exact ha)) (fun z => (hcl n1 n1i).2.2 (by rw [← z]; exact ha)))⟩) hm1.2.2.2.2 (fun q hq => ?_) ?_ ?_ (fun q => ?_)
    · rw [q4.2.2.2.2.2.2.2.1 81 (by decide) (by decide), s1.2.2.2.2.2.2.2 81 (by decide), i2]; exact hX1.2.2.2.2
    · rcases List.mem_cons.mp z with z | z
      · exact n1m z.symm
      · exact hm1.2.1 z
    · show cnN a L9 + _ + ((if n1 = a then 1 else 0) + cnN a fl) = ((if m = a then 1 else 0) + ((if n1 = a then 1 else 0) + cnN a L9)) + _
      omega
    · rw [q6, s1.2.2.2.2.2.2.1]; exact u2
    · rw [(q4.2.2.2.2.2.2.2.2 n0 (fun z => n1n z.symm)).2.2, s1.2.2.2.2.2.2.1, w2]
    · rw [q5, s4 q (by omega), z2]
    · rw [q5, s3, z2]; rfl
    · rw [q4.2.2.2.2.2.2.2.1 73 (by decide) (by decide)]; exact s2
    · rw [q4.2.2.2.2.2.2.1 67 (by decide) (by decide), s1.2.2.2.2.2.2.1, e2.2.2.2.2.2.2.1 67 (by decide) (by decide)]
/-- READ -/
theorem s_2 (hL : LFS R S0 g) (hx : LX S0 Sl) (hE : hFE R S0 D) (h : RQ R S0 vt tb i D k f x bs Sl k S) (hQ : D.Pe < 24000) (hk : (D.I k).kd = 2) : Rt (f_step R.K S) (fun S2 _ => RTt R S0 vt tb i D k f x bs Sl S S2) := by
  refine stp_2 h hQ hk (fun S1 h1 e70 e3 er el => ?_)
  have hp := h1.pt.1
  unfold tPt at hp
  rw [hk] at hp
  obtain ⟨hln, v, ρ, T, hi, hu, ho1, ho2, hc, _, _, hw⟩ := hp
  have hz : Zi S1 76 = Zi S 76 := by rw [h1.2.2.2.1.2.2, h.2.2.2.1.2.2]
  have key : Rt (f_runRead R.K S1 (nI k)) (fun S2 _ => RTt R S0 vt tb i D k f x bs Sl S S2) := by
    have n12 : T = 1 ∨ T = 2 → ¬ isRf T := fun z w => by have := w.1; omega
    rcases hc with ⟨hac, z | z | ⟨z1, z2⟩⟩ | ⟨hac, hcp, hm⟩ | ⟨hac, hcp, hnv, σ, hσ, hm⟩
    · exact s_2a hL hx hE h1 hQ hk hz e70 e3 er hi hu (ho2 (n12 (Or.inl z))) hac (Or.inl z) hw
    · exact s_2a hL hx hE h1 hQ hk hz e70 e3 er hi hu (ho2 (n12 (Or.inr z))) hac (Or.inr z) hw
    · exact s_2b hL hx hE h1 hQ hk hz e70 e3 er hi hu (ho1 z1) hac z1 z2 hw
    · by_cases hT : isRf T
      · exact s_2r hL hx hE h1 hQ hk hz e70 e3 er hi hu (ho1 hT) hac hT (by
          by_cases z : T % 2 = 0
          · exact absurd (Or.inr (Or.inr ⟨hT, z⟩)) hcp
          · omega) hw
      · exact s_2m hL hx hE h1 hQ hk hz e70 e3 er hi hu (ho2 hT) hac hm hT hw
    · subst hσ
      have hT : ¬ isRf T := fun w => by
        have := h1.r0 hL hx hE hi.1 (by rw [hk]; decide) w
        cases σ <;> cases this
      exact s_2x hL hx hE h1 hQ hk hz e70 e3 er hi hu (ho2 hT) hac hm hnv hT hw
  refine Rt.bn key (fun S2 _ q => ?_)
  unfold f_step_590
  exact Rt.rt q
end PS76
