/-- a called function's rows: its parameters, where its code begins -/
def cRw (R : yR) (S0 Sl : Sg) (g n P0 : Nat) (ty : Nat → Nat) : Prop := ∃ (gs : List Value) (aw cap : Nat) (fv : Nat → Option Nat), Zq Sl 11 g = some (R.ws g) ∧ (R.ws g ∈ ZL Sl ∧ ZF Sl (R.ws g) = .inr (16, gs) ∧ gs[3]? = some (.int (nI n)) ∧ gs[5]? = some (.int (nI P0)) ∧ gs[17]? = some (.ref aw)) ∧ (aw ∈ ZL Sl ∧ ZF Sl aw = .inl (R.K.1 5, cap, .inr (.inr (.inr (.inr fv))))) ∧ (n ≤ cap ∧ cap < 1000) ∧ ∀ j : Nat, j < n → ∃ (va z : Nat) (mu : Int32), fv j = some va ∧ isU Sl va j (some z) mu ∧ rTy S0 z ∧ abT S0 z = ty j
/-- the frame that calls, while it waits -/
noncomputable def cWt (R : yR) (S0 : Sg) (i : Nat) (D : fD) (k : Nat) (r : List tE) (x : kFm) : kFm := (x.1, trL (AL D k) r, (D.I k).n3, kR x, HA R S0 i D k, (fun u => u < 40 ∧ AL D (k + 1) u), (fun u π => LO R S0 D (k + 1) u π ∨ 40 ≤ u), kAn x)
/-- behind a call: a new frame -/
def NXc (R : yR) (S0 : Sg) (vt : Nat → Nat → Nat) (tb : Nat → lTb) (i : Nat) (D : fD) (k f : Nat) (x : Nat → kFm) (bs : Nat → Nat) (Sl S : Sg) (D2 : fD) (S2 : Sg) : Prop := ∃ (r : List tE) (X : kFm) (bs2 : Nat → Nat), D.st k = dsl (fun q => eT ((D.E.hd (D.I k).n1).2.1 q)) (D.I k).n3 ++ r ∧ kAn X = kAo (yT R S0) (vt (D.I k).n1) (kR (x f)) (wl r) (D.I k).n3 (fun q => q) ∧ RQ R S0 vt tb (D.I k).n1 D2 D2.Ps (f + 1) (kUx (kUx x f (cWt R S0 i D k r (x f))) (f + 1) X) bs2 Sl D2.Ps S2 ∧ (∀ j : Nat, j ≤ f → bs2 j = bs j) ∧ (∀ q : Nat, q < (D.I k).n3 → kR (x f) (40 + wl r + q) ≠ none → isRf (D2.E.vt q)) ∧ Zr S2 75 (f + 1) = nI (k + 1) ∧ ∀ q : Nat, q ≠ f + 1 → Zr S2 75 q = Zr S 75 q
section PS104
variable {R : yR} {K : Ky} {S0 Sl S S1 S2 S3 : Sg} {D D2 : fD} {i k j f nw n v T fu : Nat} {vt : Nat → Nat → Nat} {tb : Nat → lTb} {x : Nat → kFm} {bs : Nat → Nat} {g : Nat → Int32} {X : kFm} {al : Nat → Prop} {r : List tE} {e : Nat → tE}
theorem trL_a : ∀ {n : Nat}, (∀ q : Nat, q < n → kNm (e q) ∧ trE al (wl r + q) (e q) = e q) → trL al (dsl e n ++ r) = dsl e n ++ trL al r
  | 0, _ => rfl
  | n + 1, h => by
    have ih := trL_a (n := n) (fun q hq => h q (by omega))
    have hw : wl (dsl e n ++ r) = wl r + n := by
      rw [wl_app, dsl_wl n (fun i hi => (h i (by omega)).1)]; omega
    show trE al (wl (dsl e n ++ r)) (e n) :: trL al (dsl e n ++ r) = e n :: (dsl e n ++ trL al r)
    rw [hw, (h n (Nat.lt_succ_self n)).2, ih]
theorem arL_m {b q : Nat} {P : Nat → Bool} (hP : P q = true) : ∀ {n : Nat}, q < n → 40 + (b + q) ∈ arL b P n
  | 0, h => by omega
  | n + 1, h => by
    show _ ∈ arL b P n ++ (if P n then [40 + (b + n)] else [])
    by_cases c : q = n
    · subst c
      rw [if_pos hP]
      exact List.mem_append_right _ (List.mem_singleton_self _)
    · exact List.mem_append_left _ (arL_m hP (by omega))
theorem ks0_m {n : Nat} {e : tE} : e ∈ mkV (ksV 0 n) ↔ ∃ v : Nat, e = (8, v, 0) ∧ v < n := by
  constructor
  · intro h
    obtain ⟨v, h1, h2⟩ := List.mem_map.mp h
    exact ⟨v, h2.symm, by have := (ksV_lt h1).2; omega⟩
  · rintro ⟨v, rfl, hv⟩
    refine List.mem_map.mpr ⟨v, ?_, rfl⟩
    induction n with
    | zero => omega
    | succ n ih =>
      show v ∈ (0 + n) :: ksV 0 n
      by_cases c : v = n
      · rw [c, Nat.zero_add]; exact List.mem_cons_self ..
      · exact List.mem_cons_of_mem _ (ih (by omega))
theorem wkS_8 : ∀ {s t : List tE}, (∀ e ∈ s, e.1 = 8) → wkS s t → t = s
  | [], [], _, _ => rfl
  | [], _ :: _, _, h => h.elim
  | _ :: _, [], _, h => h.elim
  | a :: s, b :: t, h8, ⟨h1, h2⟩ => by
    rw [wkS_8 (fun e he => h8 e (List.mem_cons_of_mem _ he)) h2]
    have ha := h8 a (List.mem_cons_self ..)
    rcases h1 with z | ⟨_, _, _, ⟨_, _, z⟩ | ⟨_, z | z⟩⟩
    · rw [z]
    · rw [z] at ha; cases ha
    · rw [z] at ha; cases ha
    · rw [z] at ha; cases ha
/-- CALL -/
theorem s_10 (hL : LFS R S0 g) (hx : LX S0 Sl) (h : RQ R S0 vt tb i D k f x bs Sl k S) (hQ : D.Pe < 24000) (hk : (D.I k).kd = 10) (hfu : Zi S 70 = nI fu) (hfu2 : fu ≤ 20000) (hF2 : FnD R S0 (D.I k).n1 D2) (hEy2 : D2.E.y = yT R S0) (hP2 : D2.Ps < D2.Pe) (hrz : rzq R S0 Sl D2.Ps (D2.I D2.Ps)) (hvt2 : vt (D.I k).n1 = D2.E.vt ∧ tb (D.I k).n1 = tbD D2) (hhd : (D.E.hd (D.I k).n1).1 = D2.mn ∧ ∀ q : Nat, q < D2.mn → (D.E.hd (D.I k).n1).2.1 q = D2.E.vt q) (hcr : cRw R S0 Sl (D.I k).n1 D2.mn D2.Ps D2.E.vt) : Rt (f_step R.K S) (fun S2 _ => RX Sl S2 ∧ (Zi S2 3 ≠ 0 ∨ (Zi S2 3 = Zi S 3 ∧ (∃ m : Nat, fu = m + 1 ∧ Zi S2 70 = nI m) ∧ NXc R S0 vt tb i D k f x bs Sl S D2 S2))) := by
  have h24 := h.k24 hQ
  have hy := nYk_of hL
  have hB := yB_yT (R := R) (S0 := S0)
  refine stp_10 h hQ hk (fun S1 h1 e70 e3 er el => ?_)
  have hp := h1.pt.1
  unfold tPt at hp
  rw [hk] at hp
  obtain ⟨hac, hpa, ⟨hln, hnt⟩, r, hn3, hn12, hn70, hs, hT0, hus, hfr, hres⟩ := hp
  generalize hG : (D.I k).n1 = G at *
  obtain ⟨hd1, hd2⟩ := hhd
  rw [hd1] at hn3
  rw [hn3] at hs hn12 hT0 hus hfr
  obtain ⟨gs, aw, cap, fv, hq11, hws, haw, hcap, hfv⟩ := hcr
  generalize hnn : D2.mn = n at *
  have hs' : D.st k = dsl (fun q => eT (D2.E.vt q)) n ++ r := by
    rw [hs]
    congr 1
    clear hs hT0 hus hfr hres hcap hfv hws hn12 hn3 hd1 hnn
    induction n with
    | zero => rfl
    | succ n ih =>
      show eT _ :: _ = eT _ :: _
      rw [hd2 n (Nat.lt_succ_self n), ih (fun q hq => hd2 q (by omega))]
  have hX1 := h1.2.2.1
  have e := hX1.1
  have hFn := h1.1.1
  have hf6 := h1.2.2.2.2.1
  have hwsj := h1.2.2.2.2.2.2.2.1
  have h177 := h1.pt.2
  have hst := h1.st.2
  have h73 := h1.2.2.2.1.2.1
  have h76 := h1.2.2.2.1.2.2
  have hb := h1.sb
  have hsp := h1.1.2.2.2.1.all hnt
  have hnm : ∀ q : Nat, kNm (eT (D2.E.vt q)) := fun q => eT_nm
  have wst : wl (D.st k) = wl r + n := by rw [hs', wl_app, dsl_wl n (fun i _ => hnm i)]; omega
  obtain ⟨rt, V, C, L, H, fl, t9, ⟨hJ, hN, hC, hF⟩, _⟩ := h1.2.2.2.2.2.2.1
  obtain ⟨a1, a2, a3, a4, a5, a6⟩ := h1.2.2.2.2.2.1
  have hro := hN.room hy hC hf6 hwsj hF.2.2.2.2
  have htx : ∀ q : Nat, q < n → (isRf (D2.E.vt q) ∨ eT (D2.E.vt q) = (0, D2.E.vt q, 0)) ∧ D2.E.vt q ≠ 0 := fun q hq => by
    obtain ⟨va, z, mu, _, _, z3, z4⟩ := hfv q hq
    refine ⟨?_, by rw [← hd2 q hq]; exact hT0 q hq⟩
    rcases z3.nm hL.1 with ⟨_, _, _, z9⟩ | ⟨_, _, _, _, z9, _⟩
    · rw [z4] at z9
      refine Or.inr ?_
      unfold eT at z9 ⊢
      by_cases c : 10000 ≤ D2.E.vt q
      · rw [if_pos c] at z9
        by_cases c2 : D2.E.vt q % 2 = 0
        · rw [if_pos c2] at z9; cases z9
        · rw [if_neg c2] at z9; cases z9
      · rw [if_neg c]
    · rw [z4] at z9; exact Or.inl z9
  have hS : (x f).2.1 = dsl (fun q => eT (D2.E.vt q)) n ++ trL (AL D k) r := by
    rw [a2, hs']
    refine trL_a (fun q hq => ⟨hnm q, ?_⟩)
    rcases (htx q hq).1 with z | z
    · have hal : AL D k (40 + (wl r + q)) := Or.inl (by
        rw [hus]
        refine arL_m ?_ hq
        rw [hd2 q hq]
        exact decide_eq_true z)
      unfold eT
      rw [if_pos z.1]
      by_cases c : D2.E.vt q % 2 = 0
      · rw [if_pos c]; exact trE_r (Or.inl rfl) (Or.inr hal)
      · rw [if_neg c]; exact trE_r (Or.inr rfl) (Or.inr hal)
    · rw [z]
      exact trE_o (show (0 : Nat) ≠ 1 by decide) (show (0 : Nat) ≠ 2 by decide) (show (0 : Nat) ≠ 3 by decide) (show (0 : Nat) ≠ 5 by decide) (show (0 : Nat) ≠ 6 by decide)
  have wx : wl (x f).2.1 = wl r + n := hst.trans wst
  have hK := hJ.2.2.2.2.1 f (Nat.le_refl f)
  rw [hS] at hK
  have hval : ∀ q : Nat, q < n → (rt (f, 40 + wl r + q) = D2.E.vt q ∧ qF (yT R S0) (V (f, 40 + wl r + q)) [] (D2.E.vt q)) ∧ vaR (yT R S0) (szN R S0) (nMS S1) (D2.E.vt q) (V (f, 40 + wl r + q)) (Zl S1 72 (bs f + wl r + q)) (L (f, 40 + wl r + q)) (H (f, 40 + wl r + q)) := fun q hq => by
    have hE := dsl_K n (fun i _ => hnm i) hK q hq
    rw [trL_wl] at hE
    have key : rt (f, 40 + (wl r + q)) = D2.E.vt q ∧ qF (yT R S0) (V (f, 40 + (wl r + q))) [] (D2.E.vt q) := by
      rcases (htx q hq).1 with z | z
      · have hV : rt (f, 40 + (wl r + q)) = D2.E.vt q ∧ ∃ z : Nat × Nat, V (f, 40 + (wl r + q)) [] = some z := by
          unfold eT at hE
          rw [if_pos z.1] at hE
          have z1 := z.1
          by_cases c : D2.E.vt q % 2 = 0
          · rw [if_pos c] at hE
            exact ⟨hE.1.trans (by omega), hE.2⟩
          · rw [if_neg c] at hE
            exact ⟨hE.1.trans (by omega), hE.2⟩
        refine ⟨hV.1, fun ρ t _ g2 => ?_⟩
        have h56 := (yRf (R := R) (S0 := S0)).mpr z
        obtain ⟨w1, w2⟩ := qW_rf h56 g2
        subst w1; subst w2
        exact ⟨fun _ => hV.2, fun w => by rcases h56 with y | y <;> rw [y] at w <;> cases w⟩
      · rw [z] at hE
        exact hE.2.2.2.1 (htx q hq).2
    have hva := ((hN.1 f (40 + (wl r + q)) (Nat.le_refl f)).2.1 (by omega) (by omega)).2
    rw [key.1, show 40 + (wl r + q) - 40 = wl r + q by omega] at hva
    rw [Nat.add_assoc 40, Nat.add_assoc (bs f)]
    exact ⟨key, hva⟩
  have hsub : ∀ a : Nat, psN (fun j => cnN a (L (f, 40 + wl r + j))) n + cnN a fl ≤ ind t9 a := fun a => by
    have hc := hC.sub (r := fun i => (f, 40 + wl r + i)) (n := n) (fun i hi => ⟨hf6, show 40 + wl r + i < 300 by omega⟩) (fun i j _ _ he => by have := (Prod.mk.inj he).2; omega) a
    rw [psN_cg (w2 := fun i => cnN a (L (f, 40 + wl r + i))) (fun i hi => ?_)] at hc
    · exact hc
    · have c0 : C (f, 40 + wl r + i) = [] := ((hN.1 f (40 + wl r + i) (Nat.le_refl f)).2.1 (by omega) (by omega)).1
      show cnN a (C (f, 40 + wl r + i)) + _ = _
      rw [c0]
      show 0 + _ = _
      omega
  have hPQ : D2.st D2.Ps = mkV (ksV 0 n) := by
    have := hF2.1.1
    rw [hnn] at this
    exact wkS_8 (fun e he => by obtain ⟨v, rfl, _⟩ := ks0_m.mp he; rfl) this
  have hm8 : ∀ e ∈ mkV (ksV 0 n), e.1 = 8 := fun e he => by
    obtain ⟨v, rfl, _⟩ := ks0_m.mp he
    rfl
  have hmp : ∀ e ∈ mkV (ksV 0 n), pnE e := fun e he => by
    obtain ⟨v, rfl, _⟩ := ks0_m.mp he
    exact pnE_k (Or.inr (Or.inr (Or.inr rfl)))
  have htr2 : trL (AL D2 D2.Ps) (D2.st D2.Ps) = mkV (ksV 0 n) := by
    rw [hPQ]
    have := trL_8s (al := AL D2 D2.Ps) (r := []) hm8
    rw [List.append_nil] at this
    rw [this]
    exact List.append_nil _
  have hwm : wl (mkV (ksV 0 n)) = 0 := wl_mk
  have hou : ∀ u : Nat, u < 40 → (D.I k).ho ≠ some u := fun u hu z => by
    rcases hres with ⟨_, y, _⟩ | ⟨_, y1, y2, _⟩
    · rw [y] at z; cases z
    · by_cases c : isRf (D.E.hd G).2.2
      · rw [y1 c] at z
        have := Option.some.inj z
        omega
      · rw [y2 c] at z; cases z
  have hJ2 := kJ_call (g := G) (n := n) (P := mkV (ksV 0 n)) (al2 := fun u => u < 40 ∧ AL D (k + 1) u) (lo2 := fun u π => LO R S0 D (k + 1) u π ∨ 40 ≤ u) (H' := HA R S0 G D2 D2.Ps) (al' := fun u => u < 40 ∧ AL D2 D2.Ps u) (lo' := LO R S0 D2 D2.Ps) (ou := fun q => q) hJ a3 hS (dsl_nm n (fun i _ => hnm i)) (dsl_wl n (fun i _ => hnm i)) hn12 (fun r1 m2 => by
    rw [a2]
    exact ⟨fun z => absurd (Or.inr (Or.inl rfl)) (trL_4 (pn_4 hsp) _ z), fun z => absurd (Or.inr (Or.inr rfl)) (trL_4 (pn_4 hsp) _ z)⟩) (fun q hq => by
    rw [trL_wl, hvt2.1]; exact (hval q hq).1) (fun u q => by
    rw [a5]
    exact ⟨q.1, hFn.al (h1.e1 (kd_s hk (by decide))) (by have := q.1; omega) (hou u q.1) q.2⟩) (fun u π hn q => by
    rw [a6] at q
    by_cases c : u < 40
    · exact hn (Or.inl (hFn.lo hy h1.1.2.2.2.2 (h1.e1 (kd_s hk (by decide))) c q (fun c _ _ => (kdM_k hk (by decide)).nk)))
    · exact hn (Or.inr (by omega))) (fun a => ks0_m) (fun q hq => by
    rw [hvt2.2]
    refine ⟨Or.inl ⟨by omega, Or.inl ⟨by omega, fun z => ?_⟩, fun z => by omega, fun _ z => by omega⟩, show q < 100 by omega⟩
    obtain ⟨l, l1, l2⟩ := hF2.2.2.2.2.2.2.2.2 q z.1 z.2
    refine ⟨l, l1, l2, ?_⟩
    have := (hF2.2.2.2.2.2.2.2.1 l l1).2.2.1
    rw [l2] at this
    exact this)
  rw [trL_wl] at hJ2
  have hXf : cWt R S0 i D k r (x f) = ((x f).1, trL (AL D k) r, n, kR (x f), kH (x f), (fun u => u < 40 ∧ AL D (k + 1) u), (fun u π => LO R S0 D (k + 1) u π ∨ 40 ≤ u), kAn (x f)) := by
    unfold cWt
    rw [hn3, a4]
  rw [← hXf] at hJ2
  -- the program
  refine Rt.bn (Q := fun S2 _ => RX Sl S2 ∧ (Zi S2 3 ≠ 0 ∨ (Zi S2 3 = Zi S 3 ∧ (∃ m : Nat, fu = m + 1 ∧ Zi S2 70 = nI m) ∧ NXc R S0 vt tb i D k f x bs Sl S D2 S2))) ?_ (fun S2 _ q => by unfold f_step_590; exact Rt.rt q)
  unfold f_runCall
  refine Rt.it (fun _ => Rt.bd (v := Ui S1 3 8) rfl (Rt.rt ⟨hX1.f3, Or.inl ?_⟩)) (fun w => ?_)
  · rw [show Zi (Ui S1 3 8) 3 = 8 from Zi_s]; decide
  · cases fu with
    | zero => exact absurd (e70.trans hfu) w
    | succ m =>
      refine Rt.bd (v := Ui S1 70 (nI m)) (by rw [e70, hfu, nI_pred]; rfl) ?_
      refine Rt.it (fun _ => Rt.bd (v := Ui (Ui S1 70 (nI m)) 3 10) rfl (Rt.rt ⟨hX1.u70.f3, Or.inl ?_⟩)) (fun w2 => ?_)
      · rw [show Zi (Ui (Ui S1 70 (nI m)) 3 10) 3 = 10 from Zi_s]; decide
      · have hf60 : f + 1 < 60 := by
          refine Nat.lt_of_le_of_ne (by omega) (fun z => w2 ?_)
          rw [show Zi (Ui S1 70 (nI m)) 76 = Zi S1 76 from Zi_n (by decide), h76, z]; rfl
        have hr28 := (h1.2.1.2.2.2.2.2.2.2.2.1 (Or.inr (Or.inr hk))).1
        rw [hG] at hr28
        have e28 : Zr S1 28 = Zr Sl 28 := e.2.2.2.2.2.1 28 (by decide)
        refine Rt.bd (v := nI G) (by rw [rI_n (show k < rlen 28 from h24) (by decide)]; show some (Zr S1 28 k) = _; rw [e28, hr28]) ?_
        refine Rt.bd (v := some (R.ws G)) (by rw [rQ_n (show G < rlen 11 from by show _ < 70; exact hn70) (by decide)]; show some (Zq S1 11 G) = _; rw [e.2.2.2.1, hq11]) ?_
        rw [show Zi (Ui S1 70 (nI m)) 76 = nI (f + 1) from (Zi_n (by decide)).trans h76, show Zi (Ui S1 70 (nI m)) 77 = nI (k + 1) from (Zi_n (by decide)).trans h1.2.2.2.1.1]
        refine Rt.bd (wRI_n (show f + 1 < rlen 75 from Nat.lt_of_lt_of_le hf60 (by decide)) (by decide)) ?_
        rw [show Zi (Ur (Ui S1 70 (nI m)) 75 (upd (Zr (Ui S1 70 (nI m)) 75) (f + 1) (nI (k + 1)))) 76 = nI (f + 1) from (show Zi (Ui S1 70 (nI m)) 76 = nI (f + 1) from (Zi_n (by decide)).trans h76), nI_1]
        refine Rt.bd (v := Ui (Ur (Ui S1 70 (nI m)) 75 (upd (Zr (Ui S1 70 (nI m)) 75) (f + 1) (nI (k + 1)))) 76 (nI (f + 1 + 1))) rfl ?_
        have zl5 : Zl (Ui (Ur (Ui S1 70 (nI m)) 75 (upd (Zr (Ui S1 70 (nI m)) 75) (f + 1) (nI (k + 1)))) 76 (nI (f + 1 + 1))) = Zl S1 := rfl
        have zr5 : ∀ q : Nat, q ≠ 75 → Zr (Ui (Ur (Ui S1 70 (nI m)) 75 (upd (Zr (Ui S1 70 (nI m)) 75) (f + 1) (nI (k + 1)))) 76 (nI (f + 1 + 1))) q = Zr S1 q := fun q hq => Zr_u9 (S := Ui S1 70 (nI m)) hq
        have z755 : Zr (Ui (Ur (Ui S1 70 (nI m)) 75 (upd (Zr (Ui S1 70 (nI m)) 75) (f + 1) (nI (k + 1)))) 76 (nI (f + 1 + 1))) 75 = upd (Zr S1 75) (f + 1) (nI (k + 1)) := Zr_us (S := Ui S1 70 (nI m))
        have zi5 : ∀ q : Nat, q ≠ 70 → q ≠ 76 → Zi (Ui (Ur (Ui S1 70 (nI m)) 75 (upd (Zr (Ui S1 70 (nI m)) 75) (f + 1) (nI (k + 1)))) 76 (nI (f + 1 + 1))) q = Zi S1 q := fun q h7 h8 => (Zi_n h8).trans (Zi_n (S := S1) h7)
        have z705 : Zi (Ui (Ur (Ui S1 70 (nI m)) 75 (upd (Zr (Ui S1 70 (nI m)) 75) (f + 1) (nI (k + 1)))) 76 (nI (f + 1 + 1))) 70 = nI m := (Zi_n (by decide)).trans (show Zi (Ui S1 70 (nI m)) 70 = nI m from Zi_s)
        have z765 : Zi (Ui (Ur (Ui S1 70 (nI m)) 75 (upd (Zr (Ui S1 70 (nI m)) 75) (f + 1) (nI (k + 1)))) 76 (nI (f + 1 + 1))) 76 = nI (f + 1 + 1) := Zi_s
        have obj5 : ZL (Ui (Ur (Ui S1 70 (nI m)) 75 (upd (Zr (Ui S1 70 (nI m)) 75) (f + 1) (nI (k + 1)))) 76 (nI (f + 1 + 1))) = ZL S1 ∧ ZF (Ui (Ur (Ui S1 70 (nI m)) 75 (upd (Zr (Ui S1 70 (nI m)) 75) (f + 1) (nI (k + 1)))) 76 (nI (f + 1 + 1))) = ZF S1 ∧ (Zz (Ui (Ur (Ui S1 70 (nI m)) 75 (upd (Zr (Ui S1 70 (nI m)) 75) (f + 1) (nI (k + 1)))) 76 (nI (f + 1 + 1))) = Zz S1 ∧ Zn (Ui (Ur (Ui S1 70 (nI m)) 75 (upd (Zr (Ui S1 70 (nI m)) 75) (f + 1) (nI (k + 1)))) 76 (nI (f + 1 + 1))) = Zn S1) ∧ Zq (Ui (Ur (Ui S1 70 (nI m)) 75 (upd (Zr (Ui S1 70 (nI m)) 75) (f + 1) (nI (k + 1)))) 76 (nI (f + 1 + 1))) = Zq S1 ∧ Zf (Ui (Ur (Ui S1 70 (nI m)) 75 (upd (Zr (Ui S1 70 (nI m)) 75) (f + 1) (nI (k + 1)))) 76 (nI (f + 1 + 1))) = Zf S1 := ⟨rfl, rfl, ⟨rfl, rfl⟩, rfl, rfl⟩
        generalize Ui (Ur (Ui S1 70 (nI m)) 75 (upd (Zr (Ui S1 70 (nI m)) 75) (f + 1) (nI (k + 1)))) 76 (nI (f + 1 + 1)) = S5 at zl5 zr5 z755 zi5 z705 z765 obj5
        obtain ⟨ob1, ob2, ob3, ob4, ob5⟩ := obj5
        have rn5 : RNx S1 S5 := ⟨ob1, ob2, ob3, ob4, ob5, fun q hq => zr5 q (by omega), fun q _ => by rw [zl5], fun q hq _ => zi5 q (by omega) (by omega)⟩
        have e5 := e.tr rn5
        have n5 : nMS S5 = nMS S1 := by
          show (Zl S5 61, Zr S5 62, Zr S5 63) = (Zl S1 61, Zr S1 62, Zr S1 63)
          rw [zl5, zr5 62 (by decide), zr5 63 (by decide)]
        have wq5 : wq S5 := hX1.2.1.eq (zi5 83 (by decide) (by decide)) (zi5 84 (by decide) (by decide))
        have hX5 : RX Sl S5 := hX1.mk rn5 wq5 (zi5 86 (by decide) (by decide)) (zi5 66 (by decide) (by decide)) ((zi5 81 (by decide) (by decide)).trans hX1.2.2.2.2)
        refine Rt.bd (v := nI n) (oI_mk (by rw [e5.1]; exact hws.1) (by rw [e5.2.1]; exact hws.2.1) hws.2.2.1) ?_
        have h735 : Zi S5 73 - nI n = nI (bs f + wl r) := by
          rw [zi5 73 (by decide) (by decide), h73, wst, ← Nat.add_assoc, nI_sub9]
        rw [h735]
        have f5 : FLs S5 fl t9 := hF.eq (zi5 64 (by decide) (by decide)) (zi5 65 (by decide) (by decide)) (zr5 63 (by decide))
        refine rc88 (S := S5) (n := n) (p0 := bs f + wl r) (P0 := D2.Ps) (ws := R.ws G) (aw := aw) (cap := cap) (fl := fl) (t := t9) (gs := gs) (fv := fv) (ty := D2.E.vt) (W := fun j => V (f, 40 + wl r + j)) (L := fun j => L (f, 40 + wl r + j)) (H := fun j => H (f, 40 + wl r + j)) hL hx e5 z765 hf60 hws haw hn12 hcap hfv (fun j hj => by rw [n5, zl5]; exact (hval j hj).2) hC.f1 hro hsub (by omega) (fun S6 c l fl1 t1 q => ?_) n 0 bigN S5 (fun _ => []) (fun _ => []) fl t9 (by omega) (by unfold bigN; omega) ⟨SO.rf.go, fun z => z, ⟨rfl, rfl, rfl⟩, f5, ⟨Nat.le_refl _, by omega, fun _ z => z⟩, fun j hj => absurd hj (Nat.not_lt_zero j), fun a => rfl⟩
        obtain ⟨g1, g2, ⟨g31, g32, g33⟩, g4, ⟨g51, g52, g53⟩, g6, g7⟩ := q
        have zi7 : ∀ q : Nat, q ≠ 73 → q ≠ 77 → Zi (Ui (Ui S6 73 (nI (bs f + wl r))) 77 (nI D2.Ps)) q = Zi S6 q := fun q h7 h8 => (Zi_n h8).trans (Zi_n h7)
        have hX6 : RX Sl S6 := hX5.go g1 (g2 wq5) (g32.trans hX5.2.2.2.2)
        have hX7 : RX Sl (Ui (Ui S6 73 (nI (bs f + wl r))) 77 (nI D2.Ps)) := hX6.mk ⟨rfl, rfl, ⟨rfl, rfl⟩, rfl, rfl, fun _ _ => rfl, fun _ _ => rfl, fun j hj _ => zi7 j (by omega) (by omega)⟩ (hX6.2.1.eq (zi7 83 (by decide) (by decide)) (zi7 84 (by decide) (by decide))) (zi7 86 (by decide) (by decide)) (zi7 66 (by decide) (by decide)) ((zi7 81 (by decide) (by decide)).trans hX6.2.2.2.2)
        have f7 : FLs (Ui (Ui S6 73 (nI (bs f + wl r))) 77 (nI D2.Ps)) fl1 t1 := g4.eq (zi7 64 (by decide) (by decide)) (zi7 65 (by decide) (by decide)) rfl
        have z75 : Zr S6 75 = upd (Zr S1 75) (f + 1) (nI (k + 1)) := g1.2.2.1.trans z755
        obtain ⟨nv1, nv2⟩ := hN.call (X := (G, mkV (ksV 0 n), 0, (fun i => if i < n then kR (x f) (40 + wl r + i) else none), HA R S0 G D2 D2.Ps, (fun u => u < 40 ∧ AL D2 D2.Ps u), LO R S0 D2 D2.Ps, kAo (yT R S0) (vt G) (kR (x f)) (wl r) n (fun q => q))) (Xf := cWt R S0 i D k r (x f)) (w := wl r) (n := n) (c := c) (l := l) (M2 := nMS S6) (sk2 := Zl S6 72) (pl2 := Zr S6 74) (tk2 := Zr S6 67) (fl2 := fl1) (t2 := t1) (A := fun a => a ∈ fl ∨ t9 < a) (bs2 := fun j => if j = f + 1 then bs f + wl r else bs j) (vt2 := vt G) hy hJ hC hf60 hwsj wx (show wl (trL (AL D k) r) = wl r from trL_wl) (fun u => by
          show (8, u, 0) ∈ trL (AL D k) r ↔ _
          rw [hS, List.mem_append]
          exact ⟨Or.inr, fun z => z.resolve_left (fun y => dsl_nm n (fun i _ => hnm i) _ y (Or.inl rfl))⟩) hn12 hwm (fun u => ⟨fun z => by
          obtain ⟨v, z1, z2⟩ := ks0_m.mp z
          have := (Prod.mk.inj (Prod.mk.inj z1).2).1
          omega, fun z => ks0_m.mpr ⟨u, rfl, z⟩⟩) (fun u a hA _ hR => by
          refine ⟨?_, hR⟩
          rcases hA with ⟨q1, q2⟩ | ⟨q1, q2⟩
          · refine Or.inl ⟨q1, ?_⟩
            have q2 : u < 40 ∧ AL D (k + 1) u := q2
            rw [a5]
            exact ⟨q1, hFn.al (h1.e1 (kd_s hk (by decide))) (by omega) (hou u q1) q2.2⟩
          · have q2 : u < 40 + wl (trL (AL D k) r) + (D.I k).n3 := q2
            rw [trL_wl, hn3] at q2
            exact Or.inr ⟨q1, by rw [wx]; omega⟩) (fun u d π hu hR => by
          have hR : (if u < n then kR (x f) (40 + wl r + u) else none) = some (d :: π) := hR
          rw [if_pos hu] at hR
          refine ⟨hR, ?_⟩
          have hks : kA (x f) (40 + wl r + u) := Or.inr ⟨by omega, by rw [wx]; omega⟩
          have g56 := (hJ.2.2.1 f (Nat.le_refl f) _ _ hks hR).1
          rw [(hval u hu).1.1] at g56
          obtain ⟨m9, m1, m2⟩ := (g6 u hu).2.2.2 (by rcases g56 with z | z <;> rw [z] <;> decide)
          refine ⟨m9, m1, ?_⟩
          show Zl S6 61 m9 = Zl S1 72 (bs f + (wl r + u))
          rw [m2, zl5, Nat.add_assoc]) (fun j hj => by
          rw [hvt2.1]
          exact ⟨(g6 j hj).1, (g6 j hj).2.1, (g6 j hj).2.2.1⟩) (fun j u hj hu => by
          rw [g1.2.2.2.2.2 _ (fun ⟨j9, _, z⟩ => by omega), zr5 74 (by decide)]) (fun a z => by
          obtain ⟨y1, y2, y3⟩ := g1.2.2.2.1 a z
          rw [zl5, zr5 62 (by decide), zr5 63 (by decide)] at *
          exact ⟨y1, y2, y3⟩) (fun a z => z) g7 (fun q => by
          rw [g1.2.2.2.2.1 q (fun z => z), zr5 67 (by decide)]) (fun q _ => by rw [g33, zl5]) (fun j hj => if_neg (by omega)) (if_pos rfl)
        refine ⟨hX7, Or.inr ⟨(zi7 3 (by decide) (by decide)).trans ((g1.2.1 3 (by decide)).trans ((zi5 3 (by decide) (by decide)).trans e3)), ⟨m, rfl, (zi7 70 (by decide) (by decide)).trans ((g1.2.1 70 (by decide)).trans z705)⟩, ?_⟩⟩
        unfold NXc
        rw [hG, hn3]
        refine ⟨r, (G, mkV (ksV 0 n), 0, (fun i => if i < n then kR (x f) (40 + wl r + i) else none), HA R S0 G D2 D2.Ps, (fun u => u < 40 ∧ AL D2 D2.Ps u), LO R S0 D2 D2.Ps, kAo (yT R S0) (vt G) (kR (x f)) (wl r) n (fun q => q)), (fun j => if j = f + 1 then bs f + wl r else bs j), hs, rfl, ⟨⟨hF2, ⟨Nat.le_refl _, hP2, hF2.2.1.1⟩, hF2.1.2.1, gtS.of (by rw [hPQ]; exact hmp), hEy2⟩, hrz, hX7, ⟨Zi_s, ?_, ?_⟩, hf60, ?_, ⟨_, _, _, _, _, fl1, t1, ⟨hJ2, nv1, nv2, f7⟩, fun r1 m1 z => ?_, fun q1 r1 m1 v1 ρ1 hq1 z _ _ => ?_⟩, fun j hj => ?_, hvt2⟩, fun j hj => if_neg (by omega), fun q hq hR => ?_, ?_, fun q hq => ?_⟩
        · rw [show Zi (Ui (Ui S6 73 (nI (bs f + wl r))) 77 (nI D2.Ps)) 73 = nI (bs f + wl r) from (Zi_n (by decide)).trans Zi_s, hPQ, hwm]
          show nI (bs f + wl r) = nI ((if f + 1 = f + 1 then bs f + wl r else bs (f + 1)) + 0)
          rw [if_pos rfl]; rfl
        · exact (zi7 76 (by decide) (by decide)).trans ((g1.2.1 76 (by decide)).trans z765)
        · rw [kUx_eq]
          exact ⟨rfl, htr2.symm, rfl, rfl, rfl, rfl⟩
        · rw [hPQ] at z
          exact absurd rfl (hmp _ z).1
        · rw [hPQ] at z
          exact (hq1.elim (hmp _ z).2.2.1 (hmp _ z).2.2.2.1).elim
        · by_cases c1 : j = f + 1
          · rw [c1, kUx_eq]
            show wl (mkV (ksV 0 n)) ≤ 177
            rw [hwm]; omega
          · rw [kUx_ne c1]
            by_cases c2 : j = f
            · rw [c2, kUx_eq]
              show wl (trL (AL D k) r) ≤ 177
              rw [trL_wl]; omega
            · rw [kUx_ne c2]; exact hwsj j (by omega)
        · cases hR9 : kR (x f) (40 + wl r + q) with
          | none => exact absurd hR9 hR
          | some b9 =>
            have hks : kA (x f) (40 + wl r + q) := Or.inr ⟨by omega, by rw [wx]; omega⟩
            have g56 := (hJ.2.2.1 f (Nat.le_refl f) _ _ hks hR9).1
            rw [(hval q hq).1.1] at g56
            exact yRf.mp g56
        · show Zr S6 75 (f + 1) = _
          rw [z75, upd_s]
        · show Zr S6 75 q = _
          rw [z75, upd_n hq, er]
end PS104
