section PS106
variable {R : yR} {K : Ky} {S0 Sl S S1 S2 S3 : Sg} {D D0 : fD} {i i0 k k0 j f nw n v T fu : Nat} {vt : Nat → Nat → Nat} {tb : Nat → lTb} {x : Nat → kFm} {bs : Nat → Nat} {g : Nat → Int32} {X : kFm} {r0 : List tE}
/-- main's end -/
theorem s_26m (h : RQ R S0 vt tb i D k 0 x bs Sl k S) (hQ : D.Pe < 24000) (hk : (D.I k).kd = 26) : Rt (f_step R.K S) (fun S2 _ => RX Sl S2 ∧ Zi S2 3 = Zi S 3 ∧ Zi S2 77 = -1) := by
  refine stp_26 h hQ hk (fun S1 h1 e70 e3 er el => ?_)
  have h76 := h1.2.2.2.1.2.2
  have hX1 := h1.2.2.1
  refine Rt.bd (v := Ui S1 76 (nI 0)) (by rw [h76, nI_pred]; rfl) ?_
  refine Rt.ip (by rw [show Zi (Ui S1 76 (nI 0)) 76 = nI 0 from Zi_s]; decide) ?_
  unfold f_step_584 f_step_590
  have zi7 : ∀ q : Nat, q ≠ 76 → q ≠ 77 → Zi (Ui (Ui S1 76 (nI 0)) 77 (-1)) q = Zi S1 q := fun q h7 h8 => (Zi_n h8).trans (Zi_n h7)
  refine Rt.bd (v := Ui (Ui S1 76 (nI 0)) 77 (-1)) rfl (Rt.rt ⟨hX1.mk ⟨rfl, rfl, ⟨rfl, rfl⟩, rfl, rfl, fun _ _ => rfl, fun _ _ => rfl, fun j hj _ => zi7 j (by omega) (by omega)⟩ (hX1.2.1.eq (zi7 83 (by decide) (by decide)) (zi7 84 (by decide) (by decide))) (zi7 86 (by decide) (by decide)) (zi7 66 (by decide) (by decide)) ((zi7 81 (by decide) (by decide)).trans hX1.2.2.2.2), (zi7 3 (by decide) (by decide)).trans e3, Zi_s⟩)
/-- RETURN -/
theorem s_26 (hL : LFS R S0 g) (h : RQ R S0 vt tb i D k (f + 1) x bs Sl k S) (hQ : D.Pe < 24000) (hk : (D.I k).kd = 26) (hP0 : PK R S0 i0 D0 k0) (h0k : (D0.I k0).kd = 10) (h0n : (D0.I k0).n1 = i) (h0x : x f = cWt R S0 i0 D0 k0 r0 (x f)) (h0i : (x f).1 = i0) (h0s : D0.st k0 = dsl (fun q => eT ((D0.E.hd i).2.1 q)) (D0.I k0).n3 ++ r0) (hAn : kAn (x (f + 1)) = kAo (yT R S0) (vt i) (kR (x f)) (wl r0) (D0.I k0).n3 (fun q => q)) (h0r : ∀ q : Nat, q < (D0.I k0).n3 → kR (x f) (40 + wl r0 + q) ≠ none → isRf (D.E.vt q)) (h75 : Zr S 75 (f + 1) = nI (k0 + 1))
  (hhd : (D0.E.hd i).1 = D.mn ∧ (∀ q : Nat, q < D.mn → (D0.E.hd i).2.1 q = D.E.vt q) ∧ (D0.E.hd i).2.2 = D.E.gv) (hlf : D0.E.rl i = rlS R S0 i ∧ ∀ q : Nat, D0.E.lf i q = lfS R S0 i q) (hed : edg D0 k0 (k0 + 1)) (hg9 : ¬ isRf D.E.gv → eU D.E.gv = (0, D.E.gv, 0) ∧ eT D.E.gv = (0, D.E.gv, 0)) : Rt (f_step R.K S) (fun S2 _ => RX Sl S2 ∧ Zi S2 3 = Zi S 3 ∧ Zi S2 70 = Zi S 70 ∧ Zr S2 75 = Zr S 75 ∧ Zi S2 76 = nI (f + 1) ∧ NXt R S0 vt tb i0 D0 k0 f x bs S2 S2) := by
  have hy := nYk_of hL
  have hB := yB_yT (R := R) (S0 := S0)
  refine stp_26 h hQ hk (fun S1 h1 e70 e3 er el => ?_)
  have hp := h1.pt.1
  unfold tPt at hp
  rw [hk] at hp
  obtain ⟨_, hlv⟩ := hp
  have hlv := hlv h1.1.2.2.1
  have hp0 := (hP0.1.pt hP0.2.1.1 hP0.2.1.2.1)
  have h177 := hp0.2
  have hp0 := hp0.1
  unfold tPt at hp0
  rw [h0k] at hp0
  obtain ⟨_, _, ⟨_, hnt0⟩, r, hn3, hn12, _, hs0, hT0, hus, hfr, hres⟩ := hp0
  rw [h0n] at hn3 hs0 hT0 hus hfr hres
  obtain rfl : r = r0 := List.append_cancel_left (hs0.symm.trans h0s)
  obtain ⟨hd1, hd2, hd3⟩ := hhd
  rw [hd3] at hres
  have hFn0 := hP0.1
  have hsp0 := hP0.2.2.2.1.all hnt0
  have hrn : ∀ a ∈ r, pnE a := fun a ha => hsp0 a (by rw [hs0]; exact List.mem_append_right _ ha)
  have wr : wl r ≤ 177 := by
    rw [hs0, wl_app] at h177
    omega
  have hX1 := h1.2.2.1
  have h76 := h1.2.2.2.1.2.2
  have h73 := h1.2.2.2.1.2.1
  have hf6 := h1.2.2.2.2.1
  have hwsj := h1.2.2.2.2.2.2.2.1
  obtain ⟨rt, V, C, L, H, fl, t9, ⟨hJ, hN, hC, hF⟩, _⟩ := h1.2.2.2.2.2.2.1
  obtain ⟨a1, a2, a3, a4, a5, a6⟩ := h1.2.2.2.2.2.1
  have b2 : (x f).2.1 = trL (AL D0 k0) r := by rw [h0x]; rfl
  have b3 : (x f).2.2.1 = (D0.I k0).n3 := by rw [h0x]; rfl
  have b4 : kH (x f) = HA R S0 i0 D0 k0 := by rw [h0x]; rfl
  have b5 : kal (x f) = (fun u => u < 40 ∧ AL D0 (k0 + 1) u) := by rw [h0x]; rfl
  have b6 : klo (x f) = (fun u π => LO R S0 D0 (k0 + 1) u π ∨ 40 ≤ u) := by rw [h0x]; rfl
  have wf : wl (x f).2.1 = wl r := by rw [b2, trL_wl]
  have hbf : bs (f + 1) = bs f + wl r := by rw [hN.2.2.1.2 f (Nat.lt_succ_self f), wf]
  -- the program
  have e75 : Zr S1 75 (f + 1) = nI (k0 + 1) := by rw [er]; exact h75
  refine Rt.bd (v := Ui S1 76 (nI (f + 1))) (by rw [h76, nI_pred]; rfl) ?_
  have z76 : Zi (Ui S1 76 (nI (f + 1))) 76 = nI (f + 1) := Zi_s
  refine Rt.iq (fun z => by
    rw [z76] at z
    have := (nI_leI (a := f + 1) (b := 0) (by omega) (by omega)).mp z
    omega) ?_
  rw [z76]
  refine Rt.bd (v := nI (k0 + 1)) (by rw [rI_n (show f + 1 < rlen 75 from Nat.lt_of_lt_of_le hf6 (by decide)) (by decide)]; show some (Zr S1 75 (f + 1)) = _; rw [e75]) ?_
  unfold f_step_584 f_step_590
  have zi7 : ∀ q : Nat, q ≠ 76 → q ≠ 77 → Zi (Ui (Ui S1 76 (nI (f + 1))) 77 (nI (k0 + 1))) q = Zi S1 q := fun q h7 h8 => (Zi_n h8).trans (Zi_n h7)
  have z777 : Zi (Ui (Ui S1 76 (nI (f + 1))) 77 (nI (k0 + 1))) 77 = nI (k0 + 1) := Zi_s
  have z767 : Zi (Ui (Ui S1 76 (nI (f + 1))) 77 (nI (k0 + 1))) 76 = nI (f + 1) := (Zi_n (by decide)).trans Zi_s
  refine Rt.bd (v := Ui (Ui S1 76 (nI (f + 1))) 77 (nI (k0 + 1))) rfl (Rt.rt ⟨hX1.mk ⟨rfl, rfl, ⟨rfl, rfl⟩, rfl, rfl, fun _ _ => rfl, fun _ _ => rfl, fun j hj _ => zi7 j (by omega) (by omega)⟩ (hX1.2.1.eq (zi7 83 (by decide) (by decide)) (zi7 84 (by decide) (by decide))) (zi7 86 (by decide) (by decide)) (zi7 66 (by decide) (by decide)) ((zi7 81 (by decide) (by decide)).trans hX1.2.2.2.2), (zi7 3 (by decide) (by decide)).trans e3, (zi7 70 (by decide) (by decide)).trans e70, (show Zr S1 75 = Zr S 75 by rw [er]), z767, ?_⟩)
  have f7 : FLs (Ui (Ui S1 76 (nI (f + 1))) 77 (nI (k0 + 1))) fl t9 := hF.eq (zi7 64 (by decide) (by decide)) (zi7 65 (by decide) (by decide)) rfl
  have z737 := (zi7 73 (by decide) (by decide)).trans h73
  generalize hS7 : Ui (Ui S1 76 (nI (f + 1))) 77 (nI (k0 + 1)) = S7 at *
  have n7 : nMS S7 = nMS S1 ∧ Zl S7 = Zl S1 ∧ Zr S7 = Zr S1 := by rw [← hS7]; exact ⟨rfl, rfl, rfl⟩
  obtain ⟨n71, n72, n73⟩ := n7
  have hl211 : wl (x f).2.1 < 211 := by omega
  -- what stays of the frame that waits
  have hkR : ∀ (u : Nat) (d : Nat × Nat) (π : lLc) (al : Nat → Prop), (∀ u : Nat, al u → kal (x f) u) → ((u < 40 ∧ al u) ∨ (40 ≤ u ∧ u < 40 + wl r)) → kA (x f) u := fun u d π al hal hu => by
    rcases hu with ⟨q1, q2⟩ | ⟨q1, q2⟩
    · exact Or.inl ⟨q1, hal u q2⟩
    · exact Or.inr ⟨q1, by omega⟩
  have fin : ∀ (m : Nat) (X : kFm) (T : Nat) (W : qV), m ≤ 1 → wl (x (f + 1)).2.1 = m → (∀ u : Nat, (8, u, 0) ∉ (x (f + 1)).2.1) → (X.1 = (x f).1 ∧ X.2.2.1 = 0 ∧ kal X = kal (x f) ∧ klo X = klo (x f) ∧ kAn X = kAn (x f)) → wl X.2.1 = wl r + m → (∀ u : Nat, (8, u, 0) ∈ X.2.1 ↔ (8, u, 0) ∈ (x f).2.1) → (m = 1 → rt (f + 1, 40) = T ∧ W = V (f + 1, 40)) → (∀ u : Nat, u ≠ 40 + wl r → kR X u = kR (x f) u ∧ ∀ κ : Nat, kH X u κ ↔ kH (x f) u κ) → (∀ (d : Nat × Nat) (π : lLc), kR X (40 + wl r) = some (d :: π) → m = 1 → kR (x (f + 1)) 40 = some (d :: π) ∧ d.1 ≤ f) → (∀ κ : Nat, m = 1 → kH X (40 + wl r) κ → HK D0 (k0 + 1) (40 + wl r) κ) → (∀ u : Nat, u ≠ 40 + wl r → (D0.I k0).ho ≠ some u) → kJ (yT R S0) vt tb f (kUx x f X) (qRt rt (f, 40 + wl r) T) (kRv V f (40 + wl r) W) → wkS X.2.1 (trL (AL D0 (k0 + 1)) (D0.st (k0 + 1))) → (∀ a ∈ D0.st (k0 + 1), pnE a) → wl (D0.st (k0 + 1)) = wl r + m → wl (D.st k) = m → NXt R S0 vt tb i0 D0 k0 f x bs S7 S7 := fun m X T W hm hwm h8 ⟨X1, X2, X3, X4, X5⟩ hXw hX8 hT hRH hR40 hH40 hou hJ2 hst hjn wj wk => by
    obtain ⟨nv1, nv2⟩ := hN.ret (X := X) (w := wl r) (m := m) (T := T) (W := W) hy hJ hC hf6 hwsj wf hm h8 hwm hXw hX8 hT (fun u d π hA hsc hR => by
      by_cases c : u = 40 + wl r
      · rw [c] at hR hsc
        have hm1 : m = 1 := by
          rcases hsc with z | z
          · omega
          · rw [hXw] at z; omega
        obtain ⟨y1, y2⟩ := hR40 d π hR hm1
        exact Or.inr ⟨c, hm1, y1, y2⟩
      · rw [(hRH u c).1] at hR
        refine Or.inl ⟨c, ?_, hR⟩
        rcases hA with ⟨q1, q2⟩ | ⟨q1, q2⟩
        · rw [X3] at q2; exact Or.inl ⟨q1, q2⟩
        · rw [X2, hXw] at q2
          exact Or.inr ⟨q1, by omega⟩)
    refine finG (X := X) hL hP0 hed ⟨_, _, _, _, _, fl, t9, hJ2, by rw [n71, n72, n73]; exact nv1, by rw [n73]; exact nv2, f7⟩ X2 (X1.trans h0i) X5 hst (gtS.of hjn) hjn (fun u hu q => by rw [X3, b5]; exact ⟨hu, q⟩) (fun u κ hu q z => ?_) (fun m2 κ hm2 q z => ⟨?_, fun y => absurd y (pn_mk hjn)⟩) (fun κ r1 m q => ?_) (fun u π hu4 _ q => ?_) z777 ?_ rfl rfl
    · have z := ((hRH u (by omega)).2 κ).mp z
      rw [b4] at z
      rcases z with ⟨_, z⟩ | ⟨z, _⟩
      · exact hFn0.hk hed (by omega) (hou u (by omega)) z.1
      · omega
    · rw [wj] at hm2
      by_cases c : 40 + m2 = 40 + wl r
      · rw [c] at z ⊢
        exact hH40 κ (by omega) z
      · have z := ((hRH (40 + m2) c).2 κ).mp z
        rw [b4] at z
        rcases z with ⟨_, z⟩ | ⟨z, _⟩
        · exact hFn0.hk hed (by omega) (hou _ c) z.1
        · omega
    · rcases q with q | q
      · exact absurd (Or.inr (Or.inl rfl)) (trL_4 (pn_4 hjn) _ q)
      · exact absurd (Or.inr (Or.inr rfl)) (trL_4 (pn_4 hjn) _ q)
    · rw [X4, b6] at q
      rcases q with q | q
      · exact q
      · omega
    · rw [z737, hbf, wk, wj, Nat.add_assoc]
  rcases hlv with ⟨hs, hgv⟩ | ⟨hs, hgv⟩
  · -- nothing comes
    rw [hgv] at hres
    obtain ⟨_, ho, _, _, hw⟩ | ⟨z, _⟩ := hres
    · have hx9 : (x (f + 1)).2.1 = [] := by rw [a2, hs]; rfl
      have hjn := wkS_pn hw hrn
      have hJ2 := kJ_ret0 (al2 := kal (x f)) (lo2 := klo (x f)) (yK_z (R := R) (S0 := S0)) hJ hl211 (fun u q => q) (fun w π q => q)
      rw [wf] at hJ2
      refine fin 0 ((x f).1, (x f).2.1, 0, lUp (kR (x f)) (40 + wl r) none, kH (x f), kal (x f), klo (x f), kAn (x f)) 0 (fun _ => none) (by decide) (by rw [hx9]; rfl) (fun u z => by rw [hx9] at z; cases z) ⟨rfl, rfl, rfl, rfl, rfl⟩ wf (fun u => Iff.rfl) (fun z => by cases z) (fun u hu => ⟨lUp_ne hu, fun κ => Iff.rfl⟩) (fun d π z _ => ?_) (fun κ z => by cases z) (fun u _ z => by rw [ho] at z; cases z) hJ2 ?_ hjn (wkS_wl hw) (by rw [hs]; rfl)
      · have z : lUp (kR (x f)) (40 + wl r) none (40 + wl r) = some (d :: π) := z
        rw [lUp_eq] at z; cases z
      · show wkS (x f).2.1 _
        rw [b2]
        exact trL_t hw (fun n hn q => hFn0.al hed (by omega) (fun z => by rw [ho] at z; cases z) q)
    · exact absurd rfl z
  · obtain ⟨z, _⟩ | ⟨_, ho1, ho2, _, _, hw⟩ := hres
    · exact absurd z hgv
    · have hnm : kNm (eT D.E.gv) := eT_nm
      have hjn := wkS_pn hw (fun a ha => by
        rcases List.mem_cons.mp ha with z | z
        · rw [z]
          unfold eT
          by_cases c : 10000 ≤ D.E.gv
          · rw [if_pos c]
            by_cases c2 : D.E.gv % 2 = 0
            · rw [if_pos c2]; exact ⟨by show (1 : Nat) ≠ 3; decide, by show (1 : Nat) ≠ 4; decide, by show (1 : Nat) ≠ 5; decide, by show (1 : Nat) ≠ 6; decide, fun _ => rfl⟩
            · rw [if_neg c2]; exact ⟨by show (2 : Nat) ≠ 3; decide, by show (2 : Nat) ≠ 4; decide, by show (2 : Nat) ≠ 5; decide, by show (2 : Nat) ≠ 6; decide, fun _ => rfl⟩
          · rw [if_neg c]; exact ⟨by show (0 : Nat) ≠ 3; decide, by show (0 : Nat) ≠ 4; decide, by show (0 : Nat) ≠ 5; decide, by show (0 : Nat) ≠ 6; decide, fun _ => rfl⟩
        · exact hrn a z)
      have wj : wl (D0.st (k0 + 1)) = wl r + 1 := by rw [wkS_wl hw, wl_n hnm]
      by_cases hrf : isRf D.E.gv
      · have ho := ho1 hrf
        obtain ⟨q, U, hU9, hkt, hqT, hqU⟩ : ∃ q U : Nat, U < 10000 ∧ ((q = 1 ∧ D.E.gv = 10000 + 2 * U) ∨ (q = 2 ∧ D.E.gv = 10001 + 2 * U)) ∧ eT D.E.gv = (q, U, 0) ∧ eU D.E.gv = (q, U, 1) := by
          unfold eT eU
          rw [if_pos hrf.1, if_pos hrf.1]
          have h2 := hrf.1
          have h3 := hrf.2
          by_cases c : D.E.gv % 2 = 0
          · rw [if_pos c, if_pos c]; exact ⟨1, _, by omega, Or.inl ⟨rfl, by omega⟩, rfl, rfl⟩
          · rw [if_neg c, if_neg c]; exact ⟨2, _, by omega, Or.inr ⟨rfl, by omega⟩, rfl, rfl⟩
        rw [hqU] at hs
        rw [hqT] at hw hnm
        have hx9 : (x (f + 1)).2.1 = [(q, U, 1)] := by
          rw [a2, hs]
          show trE (AL D k) 0 (q, U, 1) :: [] = _
          rw [trE_r (show q = 1 ∨ q = 2 by omega) (Or.inl (show (1 : Nat) ≠ 0 by decide))]
        have hmk : mkS (D.st k) := ⟨(q, U, 1), by rw [hs]; exact List.mem_singleton_self _, show q = 1 ∨ q = 2 by omega, show (1 : Nat) ≠ 0 by decide⟩
        obtain ⟨a, ea, r1, hlow, hJ2⟩ := kJ_retR (n := (D0.I k0).n3) (ou := fun q => q) (hd := HK D0 (k0 + 1) (40 + wl r)) (al2 := kal (x f)) (lo2 := klo (x f)) hB.2.2.1 hJ hx9 hl211 hU9 hkt b3 (by rw [wf, a1]; exact hAn) a3 (fun u q => q) (fun w π q => q) (fun j hj hRj hj40 κ hκ => by
          rw [wf] at hRj hκ
          have hrj := h0r j hj hRj
          have hj40 : kH (x (f + 1)) 40 j := hj40
          rw [a4] at hj40
          rw [b4] at hκ
          rcases hj40 with ⟨_, z⟩ | ⟨z, _⟩
          · have hokl := z.2.2 hmk rfl
            rcases hκ with ⟨_, hκ⟩ | ⟨hκ, _⟩
            · refine hFn0.hf hed (by omega) ho (by rw [h0k]; decide) ?_ hκ.1
              rw [hfr, Nat.add_assoc]
              refine arL_m ?_ hj
              have hjm : j < D.mn := by rw [← hd1, ← hn3]; exact hj
              rw [hd2 j hjm, hlf.1, hlf.2]
              have t1 : decide (10000 ≤ D.E.vt j ∧ D.E.vt j < 30000) = true := decide_eq_true hrj
              rw [t1, Bool.true_and]
              by_cases c : rlS R S0 i < 0
              · rw [decide_eq_true c]; rfl
              · rw [decide_eq_true (hokl (by omega) ⟨hjm, hrj⟩ c), Bool.or_true]
            · omega
          · omega)
        rw [wf] at hJ2
        refine fin 1 ((x f).1, (q, U, 0) :: (x f).2.1, 0, lUp (kR (x f)) (40 + wl r) (some a), lUp (kH (x f)) (40 + wl r) (HK D0 (k0 + 1) (40 + wl r)), kal (x f), klo (x f), kAn (x f)) D.E.gv (V (f + 1, 40)) (by decide) (by rw [hx9]; exact wl_n (pR_nm (by omega))) (fun u z => by rw [hx9] at z; have := (Prod.mk.inj (List.mem_singleton.mp z)).1; omega) ⟨rfl, rfl, rfl, rfl, rfl⟩ (by show wl ((q, U, 0) :: (x f).2.1) = _; rw [wl_n hnm, wf]) (fun u => by
          show (8, u, 0) ∈ (q, U, 0) :: (x f).2.1 ↔ _
          rw [List.mem_cons]
          exact ⟨fun z => z.resolve_left (fun y => by have := (Prod.mk.inj y).1; omega), Or.inr⟩) (fun _ => ⟨r1, rfl⟩) (fun u hu => ⟨lUp_ne hu, fun κ => by
          show lUp (kH (x f)) (40 + wl r) _ u κ ↔ _
          rw [lUp_ne hu]⟩) (fun d π z _ => ?_) (fun κ _ z => ?_) (fun u hu z => by rw [ho] at z; exact hu (Option.some.inj z).symm) hJ2 ?_ hjn wj (by rw [hs]; exact wl_n (pR_nm (by omega)))
        · have z : lUp (kR (x f)) (40 + wl r) (some a) (40 + wl r) = some (d :: π) := z
          rw [lUp_eq] at z
          rw [← z]
          refine ⟨ea, ?_⟩
          obtain ⟨j9, v9, s9, e9, l9⟩ := hlow
          rw [e9] at z
          have := (List.cons.inj (Option.some.inj z)).1
          rw [← this]; exact l9
        · have z : lUp (kH (x f)) (40 + wl r) (HK D0 (k0 + 1) (40 + wl r)) (40 + wl r) κ := z
          rw [lUp_eq] at z; exact z
        · show wkS ((q, U, 0) :: (x f).2.1) _
          rw [b2]
          exact trL_c hw (show q ≠ 3 by omega) (show q ≠ 5 by omega) (show q ≠ 6 by omega) (fun n hn z => hFn0.al hed (by omega) (fun y => by rw [ho] at y; have := Option.some.inj y; omega) z)
      · have ho := ho2 hrf
        obtain ⟨g1, g2⟩ := hg9 hrf
        rw [g1] at hs
        rw [g2] at hw hnm
        have hx9 : (x (f + 1)).2.1 = [(0, D.E.gv, 0)] := by
          rw [a2, hs]
          exact trL_0 (r := []) (E := [(0, D.E.gv, 0)]) (fun e he => by rw [List.mem_singleton.mp he])
        obtain ⟨r1, hJ2⟩ := kJ_retV (al2 := kal (x f)) (lo2 := klo (x f)) hJ hx9 hgv hl211 (fun u q => q) (fun w π q => q)
        rw [wf] at hJ2
        refine fin 1 ((x f).1, (0, D.E.gv, 0) :: (x f).2.1, 0, lUp (kR (x f)) (40 + wl r) none, kH (x f), kal (x f), klo (x f), kAn (x f)) D.E.gv (V (f + 1, 40)) (by decide) (by rw [hx9]; exact wl_n (nm_0 rfl)) (fun u z => by rw [hx9] at z; have := (Prod.mk.inj (List.mem_singleton.mp z)).1; omega) ⟨rfl, rfl, rfl, rfl, rfl⟩ (by show wl ((0, D.E.gv, 0) :: (x f).2.1) = _; rw [wl_n hnm, wf]) (fun u => by
          show (8, u, 0) ∈ (0, D.E.gv, 0) :: (x f).2.1 ↔ _
          rw [List.mem_cons]
          exact ⟨fun z => z.resolve_left (fun y => by have := (Prod.mk.inj y).1; omega), Or.inr⟩) (fun _ => ⟨r1, rfl⟩) (fun u hu => ⟨lUp_ne hu, fun κ => Iff.rfl⟩) (fun d π z _ => ?_) (fun κ _ z => ?_) (fun u _ z => by rw [ho] at z; cases z) hJ2 ?_ hjn wj (by rw [hs]; exact wl_n (nm_0 rfl))
        · have z : lUp (kR (x f)) (40 + wl r) none (40 + wl r) = some (d :: π) := z
          rw [lUp_eq] at z; cases z
        · have z : kH (x f) (40 + wl r) κ := z
          rw [b4] at z
          rcases z with ⟨_, z⟩ | ⟨z, _⟩
          · exact hFn0.hk hed (by omega) (fun y => by rw [ho] at y; cases y) z.1
          · omega
        · show wkS ((0, D.E.gv, 0) :: (x f).2.1) _
          rw [b2]
          exact trL_c hw (show (0 : Nat) ≠ 3 by decide) (show (0 : Nat) ≠ 5 by decide) (show (0 : Nat) ≠ 6 by decide) (fun n hn z => hFn0.al hed (by omega) (fun y => by rw [ho] at y; cases y) z)
end PS106
