-- m6.a.lean.txt
section
/-- a called function's rows: its parameters, where its code begins -/
def cRw (R : yR) (S0 Sl : Sg) (g n P0 : Nat) (ty : Nat → Nat) : Prop := ∃ (gs : List Value) (aw cap : Nat) (fv : Nat → Option Nat), Zq Sl 11 g = some (R.ws g) ∧ (R.ws g ∈ ZL Sl ∧ ZF Sl (R.ws g) = .inr (16, gs) ∧ gs[3]? = some (.int (nI n)) ∧ gs[5]? = some (.int (nI P0)) ∧ gs[17]? = some (.ref aw)) ∧ (aw ∈ ZL Sl ∧ ZF Sl aw = .inl (R.K.1 5, cap, .inr (.inr (.inr (.inr fv))))) ∧ (n ≤ cap ∧ cap < 1000) ∧ ∀ j : Nat, j < n → ∃ (va z : Nat) (mu : Int32), fv j = some va ∧ isU Sl va j (some z) mu ∧ rTy S0 z ∧ abT S0 z = ty j
/-- the frame that calls, while it waits -/
noncomputable def cWt (R : yR) (S0 : Sg) (i : Nat) (D : fD) (k : Nat) (r : List tE) (x : kFm) : kFm := (x.1, trL (AL D k) r, (D.I k).n3, kR x, HA R S0 i D k, (fun u => u < 40 ∧ AL D (k + 1) u), (fun u π => LO R S0 D (k + 1) u π ∨ 40 ≤ u), kAn x)
/-- behind a call: a new frame -/
def NXc (R : yR) (S0 : Sg) (vt : Nat → Nat → Nat) (tb : Nat → lTb) (i : Nat) (D : fD) (k f : Nat) (x : Nat → kFm) (bs : Nat → Nat) (Sl S : Sg) (D2 : fD) (S2 : Sg) : Prop := ∃ (r : List tE) (X : kFm) (bs2 : Nat → Nat), D.st k = dsl (fun q => eT ((D.E.hd (D.I k).n1).2.1 q)) (D.I k).n3 ++ r ∧ kAn X = kAo (yT R S0) (vt (D.I k).n1) (kR (x f)) (wl r) (D.I k).n3 (fun q => q) ∧ RQ R S0 vt tb (D.I k).n1 D2 D2.Ps (f + 1) (kUx (kUx x f (cWt R S0 i D k r (x f))) (f + 1) X) bs2 Sl D2.Ps S2 ∧ (∀ j : Nat, j ≤ f → bs2 j = bs j) ∧ (∀ q : Nat, q < (D.I k).n3 → kR (x f) (40 + wl r + q) ≠ none → isRf (D2.E.vt q)) ∧ Zr S2 75 (f + 1) = nI (k + 1) ∧ ∀ q : Nat, q ≠ f + 1 → Zr S2 75 q = Zr S 75 q
section PS104
variable {R : yR} {K : Ky} {S0 Sl S S1 S2 S3 : Sg} {D D2 : fD} {i k j f nw n v T fu : Nat} {vt : Nat → Nat → Nat} {tb : Nat → lTb} {x : Nat → kFm} {bs : Nat → Nat} {g : Nat → Int32} {X : kFm} {al : Nat → Prop} {r : List tE} {e : Nat → tE}
theorem trL_a : ∀ {n : Nat}, (∀ q : Nat, q < n → kNm (e q) ∧ trE al (wl r + q) (e q) = e q) → trL al (dsl e n ++ r) = dsl e n ++ trL al r
  | 0, _ => rfl
  | n + 1, h => by
    have ih := trL_a (n := n) (fun q hq => h q (by omega))
    have hw : wl (dsl e n ++ r) = wl r + n := by
      rw [wl_app, dsl_wl n (fun i hi => (h i (by omega)).1)]; omega
    show trE al (wl (dsl e n ++ r)) (e n) :: trL al (dsl e n ++ r) = e n :: (dsl e n ++ trL al r)
    rw [hw, (h n (Nat.lt_succ_self n)).2, ih]
theorem arL_m {b q : Nat} {P : Nat → Bool} (hP : P q = true) : ∀ {n : Nat}, q < n → 40 + (b + q) ∈ arL b P n
  | 0, h => by omega
  | n + 1, h => by
    show _ ∈ arL b P n ++ (if P n then [40 + (b + n)] else [])
    by_cases c : q = n
    · subst c
      rw [if_pos hP]
      exact List.mem_append_right _ (List.mem_singleton_self _)
    · exact List.mem_append_left _ (arL_m hP (by omega))
theorem ks0_m {n : Nat} {e : tE} : e ∈ mkV (ksV 0 n) ↔ ∃ v : Nat, e = (8, v, 0) ∧ v < n := by
  constructor
  · intro h
    obtain ⟨v, h1, h2⟩ := List.mem_map.mp h
    exact ⟨v, h2.symm, by have := (ksV_lt h1).2; omega⟩
  · rintro ⟨v, rfl, hv⟩
    refine List.mem_map.mpr ⟨v, ?_, rfl⟩
    induction n with
    | zero => omega
    | succ n ih =>
      show v ∈ (0 + n) :: ksV 0 n
      by_cases c : v = n
      · rw [c, Nat.zero_add]; exact List.mem_cons_self ..
      · exact List.mem_cons_of_mem _ (ih (by omega))
theorem wkS_8 : ∀ {s t : List tE}, (∀ e ∈ s, e.1 = 8) → wkS s t → t = s
  | [], [], _, _ => rfl
  | [], _ :: _, _, h => h.elim
  | _ :: _, [], _, h => h.elim
  | a :: s, b :: t, h8, ⟨h1, h2⟩ => by
    rw [wkS_8 (fun e he => h8 e (List.mem_cons_of_mem _ he)) h2]
    have ha := h8 a (List.mem_cons_self ..)
    rcases h1 with z | ⟨_, _, _, ⟨_, _, z⟩ | ⟨_, z | z⟩⟩
    · rw [z]
    · rw [z] at ha; cases ha
    · rw [z] at ha; cases ha
    · rw [z] at ha; cases ha
/-- CALL -/
theorem s_10 (hL : LFS R S0 g) (hx : LX S0 Sl) (h : RQ R S0 vt tb i D k f x bs Sl k S) (hQ : D.Pe < 24000) (hk : (D.I k).kd = 10) (hfu : Zi S 70 = nI fu) (hfu2 : fu ≤ 20000) (hF2 : FnD R S0 (D.I k).n1 D2) (hEy2 : D2.E.y = yT R S0) (hP2 : D2.Ps < D2.Pe) (hrz : rzq R S0 Sl D2.Ps (D2.I D2.Ps)) (hvt2 : vt (D.I k).n1 = D2.E.vt ∧ tb (D.I k).n1 = tbD D2) (hhd : (D.E.hd (D.I k).n1).1 = D2.mn ∧ ∀ q : Nat, q < D2.mn → (D.E.hd (D.I k).n1).2.1 q = D2.E.vt q) (hcr : cRw R S0 Sl (D.I k).n1 D2.mn D2.Ps D2.E.vt) : Rt (f_step R.K S) (fun S2 _ => RX Sl S2 ∧ (Zi S2 3 ≠ 0 ∨ (Zi S2 3 = Zi S 3 ∧ (∃ m : Nat, fu = m + 1 ∧ Zi S2 70 = nI m) ∧ NXc R S0 vt tb i D k f x bs Sl S D2 S2))) := by
  have h24 := h.k24 hQ
  have hy := nYk_of hL
  have hB := yB_yT (R := R) (S0 := S0)
  refine stp_10 h hQ hk (fun S1 h1 e70 e3 er el => ?_)
  have hp := h1.pt.1
  unfold tPt at hp
  rw [hk] at hp
  obtain ⟨hac, hpa, ⟨hln, hnt⟩, r, hn3, hn12, hn70, hs, hT0, hus, hfr, hres⟩ := hp
  generalize hG : (D.I k).n1 = G at *
  obtain ⟨hd1, hd2⟩ := hhd
  rw [hd1] at hn3
  rw [hn3] at hs hn12 hT0 hus hfr
  obtain ⟨gs, aw, cap, fv, hq11, hws, haw, hcap, hfv⟩ := hcr
  generalize hnn : D2.mn = n at *
  have hs' : D.st k = dsl (fun q => eT (D2.E.vt q)) n ++ r := by
    rw [hs]
    congr 1
    clear hs hT0 hus hfr hres hcap hfv hws hn12 hn3 hd1 hnn
    induction n with
    | zero => rfl
    | succ n ih =>
      show eT _ :: _ = eT _ :: _
      rw [hd2 n (Nat.lt_succ_self n), ih (fun q hq => hd2 q (by omega))]
  have hX1 := h1.2.2.1
  have e := hX1.1
  have hFn := h1.1.1
  have hf6 := h1.2.2.2.2.1
  have hwsj := h1.2.2.2.2.2.2.2.1
  have h177 := h1.pt.2
  have hst := h1.st.2
  have h73 := h1.2.2.2.1.2.1
  have h76 := h1.2.2.2.1.2.2
  have hb := h1.sb
  have hsp := h1.1.2.2.2.1.all hnt
  have hnm : ∀ q : Nat, kNm (eT (D2.E.vt q)) := fun q => eT_nm
  have wst : wl (D.st k) = wl r + n := by rw [hs', wl_app, dsl_wl n (fun i _ => hnm i)]; omega
  obtain ⟨rt, V, C, L, H, fl, t9, ⟨hJ, hN, hC, hF⟩, _⟩ := h1.2.2.2.2.2.2.1
  obtain ⟨a1, a2, a3, a4, a5, a6⟩ := h1.2.2.2.2.2.1
  have hro := hN.room hy hC hf6 hwsj hF.2.2.2.2
  have htx : ∀ q : Nat, q < n → (isRf (D2.E.vt q) ∨ eT (D2.E.vt q) = (0, D2.E.vt q, 0)) ∧ D2.E.vt q ≠ 0 := fun q hq => by
    obtain ⟨va, z, mu, _, _, z3, z4⟩ := hfv q hq
    refine ⟨?_, by rw [← hd2 q hq]; exact hT0 q hq⟩
    rcases z3.nm hL.1 with ⟨_, _, _, z9⟩ | ⟨_, _, _, _, z9, _⟩
    · rw [z4] at z9
      refine Or.inr ?_
      unfold eT at z9 ⊢
      by_cases c : 10000 ≤ D2.E.vt q
      · rw [if_pos c] at z9
        by_cases c2 : D2.E.vt q % 2 = 0
        · rw [if_pos c2] at z9; cases z9
        · rw [if_neg c2] at z9; cases z9
      · rw [if_neg c]
    · rw [z4] at z9; exact Or.inl z9
  have hS : (x f).2.1 = dsl (fun q => eT (D2.E.vt q)) n ++ trL (AL D k) r := by
    rw [a2, hs']
    refine trL_a (fun q hq => ⟨hnm q, ?_⟩)
    rcases (htx q hq).1 with z | z
    · have hal : AL D k (40 + (wl r + q)) := Or.inl (by
        rw [hus]
        refine arL_m ?_ hq
        rw [hd2 q hq]
        exact decide_eq_true z)
      unfold eT
      rw [if_pos z.1]
      by_cases c : D2.E.vt q % 2 = 0
      · rw [if_pos c]; exact trE_r (Or.inl rfl) (Or.inr hal)
      · rw [if_neg c]; exact trE_r (Or.inr rfl) (Or.inr hal)
    · rw [z]
      exact trE_o (show (0 : Nat) ≠ 1 by decide) (show (0 : Nat) ≠ 2 by decide) (show (0 : Nat) ≠ 3 by decide) (show (0 : Nat) ≠ 5 by decide) (show (0 : Nat) ≠ 6 by decide)
  have wx : wl (x f).2.1 = wl r + n := hst.trans wst
  have hK := hJ.2.2.2.2.1 f (Nat.le_refl f)
  rw [hS] at hK
  have hval : ∀ q : Nat, q < n → (rt (f, 40 + wl r + q) = D2.E.vt q ∧ qF (yT R S0) (V (f, 40 + wl r + q)) [] (D2.E.vt q)) ∧ vaR (yT R S0) (szN R S0) (nMS S1) (D2.E.vt q) (V (f, 40 + wl r + q)) (Zl S1 72 (bs f + wl r + q)) (L (f, 40 + wl r + q)) (H (f, 40 + wl r + q)) := fun q hq => by
    have hE := dsl_K n (fun i _ => hnm i) hK q hq
    rw [trL_wl] at hE
    have key : rt (f, 40 + (wl r + q)) = D2.E.vt q ∧ qF (yT R S0) (V (f, 40 + (wl r + q))) [] (D2.E.vt q) := by
      rcases (htx q hq).1 with z | z
      · have hV : rt (f, 40 + (wl r + q)) = D2.E.vt q ∧ ∃ z : Nat × Nat, V (f, 40 + (wl r + q)) [] = some z := by
          unfold eT at hE
          rw [if_pos z.1] at hE
          have z1 := z.1
          by_cases c : D2.E.vt q % 2 = 0
          · rw [if_pos c] at hE
            exact ⟨hE.1.trans (by omega), hE.2⟩
          · rw [if_neg c] at hE
            exact ⟨hE.1.trans (by omega), hE.2⟩
        refine ⟨hV.1, fun ρ t _ g2 => ?_⟩
        have h56 := (yRf (R := R) (S0 := S0)).mpr z
        obtain ⟨w1, w2⟩ := qW_rf h56 g2
        subst w1; subst w2
        exact ⟨fun _ => hV.2, fun w => by rcases h56 with y | y <;> rw [y] at w <;> cases w⟩
      · rw [z] at hE
        exact hE.2.2.2.1 (htx q hq).2
    have hva := ((hN.1 f (40 + (wl r + q)) (Nat.le_refl f)).2.1 (by omega) (by omega)).2
    rw [key.1, show 40 + (wl r + q) - 40 = wl r + q by omega] at hva
    rw [Nat.add_assoc 40, Nat.add_assoc (bs f)]
    exact ⟨key, hva⟩
  have hsub : ∀ a : Nat, psN (fun j => cnN a (L (f, 40 + wl r + j))) n + cnN a fl ≤ ind t9 a := fun a => by
    have hc := hC.sub (r := fun i => (f, 40 + wl r + i)) (n := n) (fun i hi => ⟨hf6, show 40 + wl r + i < 300 by omega⟩) (fun i j _ _ he => by have := (Prod.mk.inj he).2; omega) a
    rw [psN_cg (w2 := fun i => cnN a (L (f, 40 + wl r + i))) (fun i hi => ?_)] at hc
    · exact hc
    · have c0 : C (f, 40 + wl r + i) = [] := ((hN.1 f (40 + wl r + i) (Nat.le_refl f)).2.1 (by omega) (by omega)).1
      show cnN a (C (f, 40 + wl r + i)) + _ = _
      rw [c0]
      show 0 + _ = _
      omega
  have hPQ : D2.st D2.Ps = mkV (ksV 0 n) := by
    have := hF2.1.1
    rw [hnn] at this
    exact wkS_8 (fun e he => by obtain ⟨v, rfl, _⟩ := ks0_m.mp he; rfl) this
  have hm8 : ∀ e ∈ mkV (ksV 0 n), e.1 = 8 := fun e he => by
    obtain ⟨v, rfl, _⟩ := ks0_m.mp he
    rfl
  have hmp : ∀ e ∈ mkV (ksV 0 n), pnE e := fun e he => by
    obtain ⟨v, rfl, _⟩ := ks0_m.mp he
    exact pnE_k (Or.inr (Or.inr (Or.inr rfl)))
  have htr2 : trL (AL D2 D2.Ps) (D2.st D2.Ps) = mkV (ksV 0 n) := by
    rw [hPQ]
    have := trL_8s (al := AL D2 D2.Ps) (r := []) hm8
    rw [List.append_nil] at this
    rw [this]
    exact List.append_nil _
  have hwm : wl (mkV (ksV 0 n)) = 0 := wl_mk
  have hou : ∀ u : Nat, u < 40 → (D.I k).ho ≠ some u := fun u hu z => by
    rcases hres with ⟨_, y, _⟩ | ⟨_, y1, y2, _⟩
    · rw [y] at z; cases z
    · by_cases c : isRf (D.E.hd G).2.2
      · rw [y1 c] at z
        have := Option.some.inj z
        omega
      · rw [y2 c] at z; cases z
  have hJ2 := kJ_call (g := G) (n := n) (P := mkV (ksV 0 n)) (al2 := fun u => u < 40 ∧ AL D (k + 1) u) (lo2 := fun u π => LO R S0 D (k + 1) u π ∨ 40 ≤ u) (H' := HA R S0 G D2 D2.Ps) (al' := fun u => u < 40 ∧ AL D2 D2.Ps u) (lo' := LO R S0 D2 D2.Ps) (ou := fun q => q) hJ a3 hS (dsl_nm n (fun i _ => hnm i)) (dsl_wl n (fun i _ => hnm i)) hn12 (fun r1 m2 => by
    rw [a2]
    exact ⟨fun z => absurd (Or.inr (Or.inl rfl)) (trL_4 (pn_4 hsp) _ z), fun z => absurd (Or.inr (Or.inr rfl)) (trL_4 (pn_4 hsp) _ z)⟩) (fun q hq => by
    rw [trL_wl, hvt2.1]; exact (hval q hq).1) (fun u q => by
    rw [a5]
    exact ⟨q.1, hFn.al (h1.e1 (kd_s hk (by decide))) (by have := q.1; omega) (hou u q.1) q.2⟩) (fun u π hn q => by
    rw [a6] at q
    by_cases c : u < 40
    · exact hn (Or.inl (hFn.lo hy h1.1.2.2.2.2 (h1.e1 (kd_s hk (by decide))) c q (fun c _ _ => (kdM_k hk (by decide)).nk)))
    · exact hn (Or.inr (by omega))) (fun a => ks0_m) (fun q hq => by
    rw [hvt2.2]
    refine ⟨Or.inl ⟨by omega, Or.inl ⟨by omega, fun z => ?_⟩, fun z => by omega, fun _ z => by omega⟩, show q < 100 by omega⟩
    obtain ⟨l, l1, l2⟩ := hF2.2.2.2.2.2.2.2.2 q z.1 z.2
    refine ⟨l, l1, l2, ?_⟩
    have := (hF2.2.2.2.2.2.2.2.1 l l1).2.2.1
    rw [l2] at this
    exact this)
  rw [trL_wl] at hJ2
  have hXf : cWt R S0 i D k r (x f) = ((x f).1, trL (AL D k) r, n, kR (x f), kH (x f), (fun u => u < 40 ∧ AL D (k + 1) u), (fun u π => LO R S0 D (k + 1) u π ∨ 40 ≤ u), kAn (x f)) := by
    unfold cWt
    rw [hn3, a4]
  rw [← hXf] at hJ2
  -- the program
  refine Rt.bn (Q := fun S2 _ => RX Sl S2 ∧ (Zi S2 3 ≠ 0 ∨ (Zi S2 3 = Zi S 3 ∧ (∃ m : Nat, fu = m + 1 ∧ Zi S2 70 = nI m) ∧ NXc R S0 vt tb i D k f x bs Sl S D2 S2))) ?_ (fun S2 _ q => by unfold f_step_590; exact Rt.rt q)
  unfold f_runCall
  refine Rt.it (fun _ => Rt.bd (v := Ui S1 3 8) rfl (Rt.rt ⟨hX1.f3, Or.inl ?_⟩)) (fun w => ?_)
  · rw [show Zi (Ui S1 3 8) 3 = 8 from Zi_s]; decide
  · cases fu with
    | zero => exact absurd (e70.trans hfu) w
    | succ m =>
      refine Rt.bd (v := Ui S1 70 (nI m)) (by rw [e70, hfu, nI_pred]; rfl) ?_
      refine Rt.it (fun _ => Rt.bd (v := Ui (Ui S1 70 (nI m)) 3 10) rfl (Rt.rt ⟨hX1.u70.f3, Or.inl ?_⟩)) (fun w2 => ?_)
      · rw [show Zi (Ui (Ui S1 70 (nI m)) 3 10) 3 = 10 from Zi_s]; decide
      · have hf60 : f + 1 < 60 := by
          refine Nat.lt_of_le_of_ne (by omega) (fun z => w2 ?_)
          rw [show Zi (Ui S1 70 (nI m)) 76 = Zi S1 76 from Zi_n (by decide), h76, z]; rfl
        have hr28 := (h1.2.1.2.2.2.2.2.2.2.2.1 (Or.inr (Or.inr hk))).1
        rw [hG] at hr28
        have e28 : Zr S1 28 = Zr Sl 28 := e.2.2.2.2.2.1 28 (by decide)
        refine Rt.bd (v := nI G) (by rw [rI_n (show k < rlen 28 from h24) (by decide)]; show some (Zr S1 28 k) = _; rw [e28, hr28]) ?_
        refine Rt.bd (v := some (R.ws G)) (by rw [rQ_n (show G < rlen 11 from by show _ < 70; exact hn70) (by decide)]; show some (Zq S1 11 G) = _; rw [e.2.2.2.1, hq11]) ?_
        rw [show Zi (Ui S1 70 (nI m)) 76 = nI (f + 1) from (Zi_n (by decide)).trans h76, show Zi (Ui S1 70 (nI m)) 77 = nI (k + 1) from (Zi_n (by decide)).trans h1.2.2.2.1.1]
        refine Rt.bd (wRI_n (show f + 1 < rlen 75 from Nat.lt_of_lt_of_le hf60 (by decide)) (by decide)) ?_
        rw [show Zi (Ur (Ui S1 70 (nI m)) 75 (upd (Zr (Ui S1 70 (nI m)) 75) (f + 1) (nI (k + 1)))) 76 = nI (f + 1) from (show Zi (Ui S1 70 (nI m)) 76 = nI (f + 1) from (Zi_n (by decide)).trans h76), nI_1]
        refine Rt.bd (v := Ui (Ur (Ui S1 70 (nI m)) 75 (upd (Zr (Ui S1 70 (nI m)) 75) (f + 1) (nI (k + 1)))) 76 (nI (f + 1 + 1))) rfl ?_
        have zl5 : Zl (Ui (Ur (Ui S1 70 (nI m)) 75 (upd (Zr (Ui S1 70 (nI m)) 75) (f + 1) (nI (k + 1)))) 76 (nI (f + 1 + 1))) = Zl S1 := rfl
        have zr5 : ∀ q : Nat, q ≠ 75 → Zr (Ui (Ur (Ui S1 70 (nI m)) 75 (upd (Zr (Ui S1 70 (nI m)) 75) (f + 1) (nI (k + 1)))) 76 (nI (f + 1 + 1))) q = Zr S1 q := fun q hq => Zr_u9 (S := Ui S1 70 (nI m)) hq
        have z755 : Zr (Ui (Ur (Ui S1 70 (nI m)) 75 (upd (Zr (Ui S1 70 (nI m)) 75) (f + 1) (nI (k + 1)))) 76 (nI (f + 1 + 1))) 75 = upd (Zr S1 75) (f + 1) (nI (k + 1)) := Zr_us (S := Ui S1 70 (nI m))
        have zi5 : ∀ q : Nat, q ≠ 70 → q ≠ 76 → Zi (Ui (Ur (Ui S1 70 (nI m)) 75 (upd (Zr (Ui S1 70 (nI m)) 75) (f + 1) (nI (k + 1)))) 76 (nI (f + 1 + 1))) q = Zi S1 q := fun q h7 h8 => (Zi_n h8).trans (Zi_n (S := S1) h7)
        have z705 : Zi (Ui (Ur (Ui S1 70 (nI m)) 75 (upd (Zr (Ui S1 70 (nI m)) 75) (f + 1) (nI (k + 1)))) 76 (nI (f + 1 + 1))) 70 = nI m := (Zi_n (by decide)).trans (show Zi (Ui S1 70 (nI m)) 70 = nI m from Zi_s)
        have z765 : Zi (Ui (Ur (Ui S1 70 (nI m)) 75 (upd (Zr (Ui S1 70 (nI m)) 75) (f + 1) (nI (k + 1)))) 76 (nI (f + 1 + 1))) 76 = nI (f + 1 + 1) := Zi_s
        have obj5 : ZL (Ui (Ur (Ui S1 70 (nI m)) 75 (upd (Zr (Ui S1 70 (nI m)) 75) (f + 1) (nI (k + 1)))) 76 (nI (f + 1 + 1))) = ZL S1 ∧ ZF (Ui (Ur (Ui S1 70 (nI m)) 75 (upd (Zr (Ui S1 70 (nI m)) 75) (f + 1) (nI (k + 1)))) 76 (nI (f + 1 + 1))) = ZF S1 ∧ (Zz (Ui (Ur (Ui S1 70 (nI m)) 75 (upd (Zr (Ui S1 70 (nI m)) 75) (f + 1) (nI (k + 1)))) 76 (nI (f + 1 + 1))) = Zz S1 ∧ Zn (Ui (Ur (Ui S1 70 (nI m)) 75 (upd (Zr (Ui S1 70 (nI m)) 75) (f + 1) (nI (k + 1)))) 76 (nI (f + 1 + 1))) = Zn S1) ∧ Zq (Ui (Ur (Ui S1 70 (nI m)) 75 (upd (Zr (Ui S1 70 (nI m)) 75) (f + 1) (nI (k + 1)))) 76 (nI (f + 1 + 1))) = Zq S1 ∧ Zf (Ui (Ur (Ui S1 70 (nI m)) 75 (upd (Zr (Ui S1 70 (nI m)) 75) (f + 1) (nI (k + 1)))) 76 (nI (f + 1 + 1))) = Zf S1 := ⟨rfl, rfl, ⟨rfl, rfl⟩, rfl, rfl⟩
        generalize Ui (Ur (Ui S1 70 (nI m)) 75 (upd (Zr (Ui S1 70 (nI m)) 75) (f + 1) (nI (k + 1)))) 76 (nI (f + 1 + 1)) = S5 at zl5 zr5 z755 zi5 z705 z765 obj5
        obtain ⟨ob1, ob2, ob3, ob4, ob5⟩ := obj5
        have rn5 : RNx S1 S5 := ⟨ob1, ob2, ob3, ob4, ob5, fun q hq => zr5 q (by omega), fun q _ => by rw [zl5], fun q hq _ => zi5 q (by omega) (by omega)⟩
        have e5 := e.tr rn5
        have n5 : nMS S5 = nMS S1 := by
          show (Zl S5 61, Zr S5 62, Zr S5 63) = (Zl S1 61, Zr S1 62, Zr S1 63)
          rw [zl5, zr5 62 (by decide), zr5 63 (by decide)]
        have wq5 : wq S5 := hX1.2.1.eq (zi5 83 (by decide) (by decide)) (zi5 84 (by decide) (by decide))
        have hX5 : RX Sl S5 := hX1.mk rn5 wq5 (zi5 86 (by decide) (by decide)) (zi5 66 (by decide) (by decide)) ((zi5 81 (by decide) (by decide)).trans hX1.2.2.2.2)
        refine Rt.bd (v := nI n) (oI_mk (by rw [e5.1]; exact hws.1) (by rw [e5.2.1]; exact hws.2.1) hws.2.2.1) ?_
        have h735 : Zi S5 73 - nI n = nI (bs f + wl r) := by
          rw [zi5 73 (by decide) (by decide), h73, wst, ← Nat.add_assoc, nI_sub9]
        rw [h735]
        have f5 : FLs S5 fl t9 := hF.eq (zi5 64 (by decide) (by decide)) (zi5 65 (by decide) (by decide)) (zr5 63 (by decide))
        refine rc88 (S := S5) (n := n) (p0 := bs f + wl r) (P0 := D2.Ps) (ws := R.ws G) (aw := aw) (cap := cap) (fl := fl) (t := t9) (gs := gs) (fv := fv) (ty := D2.E.vt) (W := fun j => V (f, 40 + wl r + j)) (L := fun j => L (f, 40 + wl r + j)) (H := fun j => H (f, 40 + wl r + j)) hL hx e5 z765 hf60 hws haw hn12 hcap hfv (fun j hj => by rw [n5, zl5]; exact (hval j hj).2) hC.f1 hro hsub (by omega) (fun S6 c l fl1 t1 q => ?_) n 0 bigN S5 (fun _ => []) (fun _ => []) fl t9 (by omega) (by unfold bigN; omega) ⟨SO.rf.go, fun z => z, ⟨rfl, rfl, rfl⟩, f5, ⟨Nat.le_refl _, by omega, fun _ z => z⟩, fun j hj => absurd hj (Nat.not_lt_zero j), fun a => rfl⟩
        obtain ⟨g1, g2, ⟨g31, g32, g33⟩, g4, ⟨g51, g52, g53⟩, g6, g7⟩ := q
        have zi7 : ∀ q : Nat, q ≠ 73 → q ≠ 77 → Zi (Ui (Ui S6 73 (nI (bs f + wl r))) 77 (nI D2.Ps)) q = Zi S6 q := fun q h7 h8 => (Zi_n h8).trans (Zi_n h7)
        have hX6 : RX Sl S6 := hX5.go g1 (g2 wq5) (g32.trans hX5.2.2.2.2)
        have hX7 : RX Sl (Ui (Ui S6 73 (nI (bs f + wl r))) 77 (nI D2.Ps)) := hX6.mk ⟨rfl, rfl, ⟨rfl, rfl⟩, rfl, rfl, fun _ _ => rfl, fun _ _ => rfl, fun j hj _ => zi7 j (by omega) (by omega)⟩ (hX6.2.1.eq (zi7 83 (by decide) (by decide)) (zi7 84 (by decide) (by decide))) (zi7 86 (by decide) (by decide)) (zi7 66 (by decide) (by decide)) ((zi7 81 (by decide) (by decide)).trans hX6.2.2.2.2)
        have f7 : FLs (Ui (Ui S6 73 (nI (bs f + wl r))) 77 (nI D2.Ps)) fl1 t1 := g4.eq (zi7 64 (by decide) (by decide)) (zi7 65 (by decide) (by decide)) rfl
        have z75 : Zr S6 75 = upd (Zr S1 75) (f + 1) (nI (k + 1)) := g1.2.2.1.trans z755
        obtain ⟨nv1, nv2⟩ := hN.call (X := (G, mkV (ksV 0 n), 0, (fun i => if i < n then kR (x f) (40 + wl r + i) else none), HA R S0 G D2 D2.Ps, (fun u => u < 40 ∧ AL D2 D2.Ps u), LO R S0 D2 D2.Ps, kAo (yT R S0) (vt G) (kR (x f)) (wl r) n (fun q => q))) (Xf := cWt R S0 i D k r (x f)) (w := wl r) (n := n) (c := c) (l := l) (M2 := nMS S6) (sk2 := Zl S6 72) (pl2 := Zr S6 74) (tk2 := Zr S6 67) (fl2 := fl1) (t2 := t1) (A := fun a => a ∈ fl ∨ t9 < a) (bs2 := fun j => if j = f + 1 then bs f + wl r else bs j) (vt2 := vt G) hy hJ hC hf60 hwsj wx (show wl (trL (AL D k) r) = wl r from trL_wl) (fun u => by
          show (8, u, 0) ∈ trL (AL D k) r ↔ _
          rw [hS, List.mem_append]
          exact ⟨Or.inr, fun z => z.resolve_left (fun y => dsl_nm n (fun i _ => hnm i) _ y (Or.inl rfl))⟩) hn12 hwm (fun u => ⟨fun z => by
          obtain ⟨v, z1, z2⟩ := ks0_m.mp z
          have := (Prod.mk.inj (Prod.mk.inj z1).2).1
          omega, fun z => ks0_m.mpr ⟨u, rfl, z⟩⟩) (fun u a hA _ hR => by
          refine ⟨?_, hR⟩
          rcases hA with ⟨q1, q2⟩ | ⟨q1, q2⟩
          · refine Or.inl ⟨q1, ?_⟩
            have q2 : u < 40 ∧ AL D (k + 1) u := q2
            rw [a5]
            exact ⟨q1, hFn.al (h1.e1 (kd_s hk (by decide))) (by omega) (hou u q1) q2.2⟩
          · have q2 : u < 40 + wl (trL (AL D k) r) + (D.I k).n3 := q2
            rw [trL_wl, hn3] at q2
            exact Or.inr ⟨q1, by rw [wx]; omega⟩) (fun u d π hu hR => by
          have hR : (if u < n then kR (x f) (40 + wl r + u) else none) = some (d :: π) := hR
          rw [if_pos hu] at hR
          refine ⟨hR, ?_⟩
          have hks : kA (x f) (40 + wl r + u) := Or.inr ⟨by omega, by rw [wx]; omega⟩
          have g56 := (hJ.2.2.1 f (Nat.le_refl f) _ _ hks hR).1
          rw [(hval u hu).1.1] at g56
          obtain ⟨m9, m1, m2⟩ := (g6 u hu).2.2.2 (by rcases g56 with z | z <;> rw [z] <;> decide)
          refine ⟨m9, m1, ?_⟩
          show Zl S6 61 m9 = Zl S1 72 (bs f + (wl r + u))
          rw [m2, zl5, Nat.add_assoc]) (fun j hj => by
          rw [hvt2.1]
          exact ⟨(g6 j hj).1, (g6 j hj).2.1, (g6 j hj).2.2.1⟩) (fun j u hj hu => by
          rw [g1.2.2.2.2.2 _ (fun ⟨j9, _, z⟩ => by omega), zr5 74 (by decide)]) (fun a z => by
          obtain ⟨y1, y2, y3⟩ := g1.2.2.2.1 a z
          rw [zl5, zr5 62 (by decide), zr5 63 (by decide)] at *
          exact ⟨y1, y2, y3⟩) (fun a z => z) g7 (fun q => by
          rw [g1.2.2.2.2.1 q (fun z => z), zr5 67 (by decide)]) (fun q _ => by rw [g33, zl5]) (fun j hj => if_neg (by omega)) (if_pos rfl)
        refine ⟨hX7, Or.inr ⟨(zi7 3 (by decide) (by decide)).trans ((g1.2.1 3 (by decide)).trans ((zi5 3 (by decide) (by decide)).trans e3)), ⟨m, rfl, (zi7 70 (by decide) (by decide)).trans ((g1.2.1 70 (by decide)).trans z705)⟩, ?_⟩⟩
        unfold NXc
        rw [hG, hn3]
        refine ⟨r, (G, mkV (ksV 0 n), 0, (fun i => if i < n then kR (x f) (40 + wl r + i) else none), HA R S0 G D2 D2.Ps, (fun u => u < 40 ∧ AL D2 D2.Ps u), LO R S0 D2 D2.Ps, kAo (yT R S0) (vt G) (kR (x f)) (wl r) n (fun q => q)), (fun j => if j = f + 1 then bs f + wl r else bs j), hs, rfl, ⟨⟨hF2, ⟨Nat.le_refl _, hP2, hF2.2.1.1⟩, hF2.1.2.1, gtS.of (by rw [hPQ]; exact hmp), hEy2⟩, hrz, hX7, ⟨Zi_s, ?_, ?_⟩, hf60, ?_, ⟨_, _, _, _, _, fl1, t1, ⟨hJ2, nv1, nv2, f7⟩, fun r1 m1 z => ?_, fun q1 r1 m1 v1 ρ1 hq1 z _ _ => ?_⟩, fun j hj => ?_, hvt2⟩, fun j hj => if_neg (by omega), fun q hq hR => ?_, ?_, fun q hq => ?_⟩
        · rw [show Zi (Ui (Ui S6 73 (nI (bs f + wl r))) 77 (nI D2.Ps)) 73 = nI (bs f + wl r) from (Zi_n (by decide)).trans Zi_s, hPQ, hwm]
          show nI (bs f + wl r) = nI ((if f + 1 = f + 1 then bs f + wl r else bs (f + 1)) + 0)
          rw [if_pos rfl]; rfl
        · exact (zi7 76 (by decide) (by decide)).trans ((g1.2.1 76 (by decide)).trans z765)
        · rw [kUx_eq]
          exact ⟨rfl, htr2.symm, rfl, rfl, rfl, rfl⟩
        · rw [hPQ] at z
          exact absurd rfl (hmp _ z).1
        · rw [hPQ] at z
          exact (hq1.elim (hmp _ z).2.2.1 (hmp _ z).2.2.2.1).elim
        · by_cases c1 : j = f + 1
          · rw [c1, kUx_eq]
            show wl (mkV (ksV 0 n)) ≤ 177
            rw [hwm]; omega
          · rw [kUx_ne c1]
            by_cases c2 : j = f
            · rw [c2, kUx_eq]
              show wl (trL (AL D k) r) ≤ 177
              rw [trL_wl]; omega
            · rw [kUx_ne c2]; exact hwsj j (by omega)
        · cases hR9 : kR (x f) (40 + wl r + q) with
          | none => exact absurd hR9 hR
          | some b9 =>
            have hks : kA (x f) (40 + wl r + q) := Or.inr ⟨by omega, by rw [wx]; omega⟩
            have g56 := (hJ.2.2.1 f (Nat.le_refl f) _ _ hks hR9).1
            rw [(hval q hq).1.1] at g56
            exact yRf.mp g56
        · show Zr S6 75 (f + 1) = _
          rw [z75, upd_s]
        · show Zr S6 75 q = _
          rw [z75, upd_n hq, er]
end PS104
end
-- m6.b.lean.txt
section
section PS105
variable {y : qY} {vt : Nat → Nat → Nat} {tb : Nat → lTb} {f T m : Nat} {x : Nat → kFm} {rt : Nat × Nat → Nat} {V : Nat × Nat → qV} {al2 : Nat → Prop} {lo2 : Nat → lLc → Prop}
/-- return of a value -/
theorem kJ_retV (hJ : kJ y vt tb (f + 1) x rt V) (hS : (x (f + 1)).2.1 = [(0, T, m)]) (hT : T ≠ 0) (hl : wl (x f).2.1 < 211) (hal : ∀ u : Nat, al2 u → kal (x f) u) (hlo : ∀ (w : Nat) (π : lLc), ¬ lo2 w π → ¬ klo (x f) w π) : rt (f + 1, 40) = T ∧ kJ y vt tb f (kUx x f ((x f).1, (0, T, 0) :: (x f).2.1, 0, lUp (kR (x f)) (40 + wl (x f).2.1) none, kH (x f), al2, lo2, kAn (x f))) (qRt rt (f, 40 + wl (x f).2.1) T) (kRv V f (40 + wl (x f).2.1) (V (f + 1, 40))) := by
  have hK := hJ.2.2.2.2.1 (f + 1) (Nat.le_refl _)
  rw [hS] at hK
  obtain ⟨⟨k1, k2, k3, k4, k5⟩, -⟩ := hK
  obtain ⟨r1, r2⟩ := k4 hT
  have r1 : rt (f + 1, 40) = T := r1
  have hk1 : kNm (0, T, 0) := nm_0 rfl
  have hWk : qOk y T (V (f + 1, 40)) := by
    have := hJ.1 (f + 1, 40)
    rw [r1] at this; exact this
  have j := kJ_ret (e := (0, T, 0)) (t := T) (W := V (f + 1, 40)) (ro := none) (hd := kH (x f) (40 + wl (x f).2.1)) (al2 := al2) (lo2 := lo2) hJ hk1 hl hal hlo hWk (fun _ w hw => by
    obtain ⟨a, b⟩ := w
    have e9 : a = T := (hWk.1 [] a b hw).1
    show y.1 a ≠ 5 ∧ y.1 a ≠ 6
    rw [e9]; exact ⟨k2, k3⟩) (lIv_ret hJ hk1 hal) (fun a q => by simp at q) ⟨lUp_eq, k2, k3, fun _ => ⟨qRt_eq, by rw [kRv_eq]; exact r2⟩, fun q => absurd q hT⟩
  rw [lUp_self] at j
  exact ⟨r1, j⟩
/-- return of nothing -/
theorem kJ_ret0 (hy0 : y.1 0 = 0) (hJ : kJ y vt tb (f + 1) x rt V) (hl : wl (x f).2.1 < 211) (hal : ∀ u : Nat, al2 u → kal (x f) u) (hlo : ∀ (w : Nat) (π : lLc), ¬ lo2 w π → ¬ klo (x f) w π) : kJ y vt tb f (kUx x f ((x f).1, (x f).2.1, 0, lUp (kR (x f)) (40 + wl (x f).2.1) none, kH (x f), al2, lo2, kAn (x f))) (qRt rt (f, 40 + wl (x f).2.1) 0) (kRv V f (40 + wl (x f).2.1) (fun _ => none)) := by
  have hk1 : kNm (0, 0, 0) := nm_0 rfl
  have j := kJ_ret (e := (0, 0, 0)) (t := 0) (W := fun _ => none) (ro := none) (hd := kH (x f) (40 + wl (x f).2.1)) (al2 := al2) (lo2 := lo2) hJ hk1 hl hal hlo qOk_none (fun _ w hw => by simp at hw) (lIv_ret hJ hk1 hal) (fun a q => by simp at q) ⟨lUp_eq, by rw [hy0]; decide, by rw [hy0]; decide, fun q => absurd rfl q, fun _ π => by rw [kRv_eq]⟩
  rw [lUp_self] at j
  generalize hx1 : kUx x f ((x f).1, (0, 0, 0) :: (x f).2.1, 0, lUp (kR (x f)) (40 + wl (x f).2.1) none, kH (x f), al2, lo2, kAn (x f)) = x1 at j
  have e1 : x1 f = ((x f).1, (0, 0, 0) :: (x f).2.1, 0, lUp (kR (x f)) (40 + wl (x f).2.1) none, kH (x f), al2, lo2, kAn (x f)) := by rw [← hx1, kUx_eq]
  have j2 := kJ_pop j (E := [(0, 0, 0)]) (S := (x f).2.1) (by rw [e1]; rfl) (fun e he => by rw [List.mem_singleton.mp he]; exact hk1) (by rw [e1])
  rw [e1, ← hx1, kUx2] at j2
  have ev : kCl (kRv V f (40 + wl (x f).2.1) (fun _ => none)) f (wl (x f).2.1) = kRv V f (40 + wl (x f).2.1) (fun _ => none) := funext fun r => by
    by_cases c : r.1 = f ∧ 40 + wl (x f).2.1 ≤ r.2 ∧ r.2 < 300
    · rw [kCl_ze c]
      obtain ⟨ra, rb⟩ := r
      obtain ⟨c1, c2, c3⟩ := c
      have c1 : ra = f := c1
      subst c1
      by_cases c4 : rb = 40 + wl (x ra).2.1
      · rw [c4, kRv_eq]
      · rw [kRv_ne (by omega) (fun z => c4 (Prod.mk.inj z).2)]
        refine funext fun π => ?_
        cases hv : V (ra, rb) π with
        | none => rfl
        | some z =>
          exfalso
          have c2 : 40 + wl (x ra).2.1 ≤ rb := c2
          have c3 : rb < 300 := c3
          obtain ⟨_, kr, _⟩ := hJ.2.2.2.2.2.1 ra rb π z hv
          rcases kr with ⟨k1, _⟩ | ⟨k1, k2⟩ | ⟨k1, _⟩ | ⟨_, _, i, _, k1, _⟩ <;> omega
    · rw [kCl_ge c]
  rw [ev] at j2
  exact j2
/-- return of a reference -/
theorem kJ_retR (hcr : qCr y) (hJ : kJ y vt tb (f + 1) x rt V) {k U t n : Nat} {ou : Nat → Nat} (hS : (x (f + 1)).2.1 = [(k, U, m)]) (hl : wl (x f).2.1 < 211) (hU : U < 10000) (hkt : (k = 1 ∧ t = 10000 + 2 * U) ∨ (k = 2 ∧ t = 10001 + 2 * U)) (hxn : (x f).2.2.1 = n) (hAn : kAn (x (f + 1)) = kAo y (vt (x (f + 1)).1) (kR (x f)) (wl (x f).2.1) n ou) (hx1 : (x (f + 1)).2.2.1 = 0) {hd : Nat → Prop} (hal : ∀ u : Nat, al2 u → kal (x f) u) (hlo : ∀ (w : Nat) (π : lLc), ¬ lo2 w π → ¬ klo (x f) w π) (hcl : ∀ i : Nat, i < n → kR (x f) (40 + wl (x f).2.1 + i) ≠ none → kH (x (f + 1)) 40 (ou i) → ∀ l : Nat, kH (x f) (40 + wl (x f).2.1 + i) l → hd l) : ∃ a : lLc, kR (x (f + 1)) 40 = some a ∧ rt (f + 1, 40) = t ∧ (∃ (j v : Nat) (s : lLc), a = (j, v) :: s ∧ j ≤ f) ∧ kJ y vt tb f (kUx x f ((x f).1, (k, U, 0) :: (x f).2.1, 0, lUp (kR (x f)) (40 + wl (x f).2.1) (some a), lUp (kH (x f)) (40 + wl (x f).2.1) hd, al2, lo2, kAn (x f))) (qRt rt (f, 40 + wl (x f).2.1) t) (kRv V f (40 + wl (x f).2.1) (V (f + 1, 40))) := by
  have hf : f + 1 ≤ f + 1 := Nat.le_refl _
  have hcu := hcr U hU
  have hk0 : kNm (k, U, m) := pR_nm (by omega)
  have hk1 : kNm (k, U, 0) := pR_nm (by omega)
  have hK := hJ.2.2.2.2.1 (f + 1) hf
  rw [hS] at hK
  have hK1 : rt (f + 1, 40) = t ∧ ∃ w : Nat × Nat, V (f + 1, 40) [] = some w := by
    rcases hkt with ⟨rfl, e⟩ | ⟨rfl, e⟩
    · rw [e]; exact hK.1
    · rw [e]; exact hK.1
  obtain ⟨r1, ⟨t9, g9⟩, r2⟩ := hK1
  have h56 : y.1 t = 5 ∨ y.1 t = 6 := by
    rcases hkt with ⟨-, e⟩ | ⟨-, e⟩
    · rw [e]; exact Or.inl hcu.1
    · rw [e]; exact Or.inr hcu.2.2.1
  have wS : wl (x (f + 1)).2.1 = 1 := by rw [hS]; exact wl_n hk0
  have hWk : qOk y t (V (f + 1, 40)) := by rw [← r1]; exact hJ.1 _
  have e9 : t9 = t := (hWk.1 [] t9 g9 r2).1
  have hks : kA (x (f + 1)) 40 := Or.inr ⟨by omega, by omega⟩
  obtain ⟨a, ea⟩ := hJ.2.2.2.1 (f + 1) hf 40 t9 g9 r2 (by rw [e9]; exact h56) hks
  obtain ⟨-, htg⟩ := hJ.2.2.1 (f + 1) hf 40 a hks ea
  have htg : qTg y rt V a (y.2.1 (rt (f + 1, 40))) := htg
  rw [r1] at htg
  have ok : lOk (f + 1) (tb (x (f + 1)).1) (kAn (x (f + 1))) (kH (x (f + 1)) 40) (y.1 (rt (f + 1, 40)) = 6) a := (hJ.2.1.1 (f + 1) hf).1 40 a hks ea
  have key : ∃ (i : Nat) (e : lLc) (q : Nat), i < n ∧ kH (x (f + 1)) 40 (ou i) ∧ kR (x f) (40 + wl (x f).2.1 + i) = some e ∧ lP e a ∧ (y.1 t = 6 → y.1 (rt (f, 40 + wl (x f).2.1 + i)) = 6) ∧ lUn (f + 1) e := by
    rcases ok with ⟨l, n1, n2, n3, n4, n5⟩ | ⟨o, e, q, o1, o2, o3, o4, o5, o6⟩
    · exfalso
      obtain ⟨s, n4⟩ := n4
      obtain ⟨d, π, e1, d1, d2, d3⟩ := htg
      rw [n4] at e1
      have e1 : (f + 1, (tb (x (f + 1)).1).1 l) :: ((tb (x (f + 1)).1).2.1 l ++ s) = d :: π := e1
      injection e1 with e1 e2
      obtain ⟨σ, w, hw⟩ := qF_pl d3
      rw [← e1] at hw d1
      obtain ⟨-, kr, -⟩ := hJ.2.2.2.2.2.1 (f + 1) _ _ w hw
      have d1 : (tb (x (f + 1)).1).1 l < 40 := d1
      have hin : (8, (tb (x (f + 1)).1).1 l, 0) ∈ (x (f + 1)).2.1 := by
        rcases kr with ⟨-, kr⟩ | ⟨k1, k2⟩ | ⟨k1, -⟩ | ⟨r, m, i, -, k1, -⟩
        · exact kr
        · omega
        · omega
        · omega
      rw [hS] at hin
      exact hk0 (Or.inl (by rw [← List.mem_singleton.mp hin]))
    · have o3' := o3
      rw [hAn] at o3'
      obtain ⟨i, i1, i2, i3, i4⟩ := o3'
      refine ⟨i, e, q, i1, by rw [← i2]; exact o2, i3, o4, fun h6 => ?_, o6⟩
      have q1 : q = 1 := o5 (by rw [r1]; exact h6)
      obtain ⟨t', t40, tA, tR, tU⟩ := hJ.2.1.2.2 f (by omega) o e q o3
      have tU := tU q1
      by_cases et : t' = 40 + wl (x f).2.1 + i
      · rw [← et]; exact tU
      · exfalso
        have twA : (kfr y rt f (x f)).2.1 (40 + wl (x f).2.1 + i) := Or.inr ⟨by omega, by omega⟩
        rcases (hJ.2.1.1 f (by omega)).2 t' (40 + wl (x f).2.1 + i) e e et tA twA tR i3 (Or.inl tU) (Or.inl (lP_rf e)) with g | g
        · have := g.1; omega
        · have := g.1; omega
  obtain ⟨i, e, q9, i1, i2, i3, i4, i5, i6⟩ := key
  have hbw := lBw_res (A2 := fun u => (u < 40 ∧ al2 u) ∨ (40 ≤ u ∧ u < 40 + wl (x f).2.1)) (t := 40 + wl (x f).2.1) (w := 40 + wl (x f).2.1 + i) (c := a) (un := y.1 t = 6) (hd := hd) (hJ.2.1.1 f (by omega)) (fun u hu => by
    rcases hu with ⟨g1, g2⟩ | ⟨g1, g2⟩
    · exact ⟨Or.inl ⟨g1, hal u g2⟩, by omega⟩
    · exact ⟨Or.inr ⟨g1, by omega⟩, by omega⟩) (by omega) (Or.inr ⟨by omega, by omega⟩) i3 i5 (hcl i i1 (fun z => by rw [z] at i3; cases i3) i2) i4
  obtain ⟨b1, b2⟩ := hbw
  have lnew := lIv_new (A2 := fun u => (u < 40 ∧ al2 u) ∨ (40 ≤ u ∧ u < 40 + wl (x f).2.1)) (t := 40 + wl (x f).2.1) (a := a) (hd := hd) (un := y.1 t = 6) (hJ.2.1.1 f (by omega)) (fun u hu _ => by
    rcases hu with ⟨g1, g2⟩ | ⟨g1, g2⟩
    · exact Or.inl ⟨g1, hal u g2⟩
    · exact Or.inr ⟨g1, by omega⟩) b1 (fun u hu _ => b2 u hu)
  have lv : lIv f (tb (x f).1) (kAn (x f)) (kfr y (qRt rt (f, 40 + wl (x f).2.1) t) f ((x f).1, (k, U, 0) :: (x f).2.1, 0, lUp (kR (x f)) (40 + wl (x f).2.1) (some a), lUp (kH (x f)) (40 + wl (x f).2.1) hd, al2, lo2, kAn (x f))) := by
    refine lIv_mono2 lnew (fun u b hu hb => ⟨?_, hb⟩) (fun u b l hu hb hl => hl) (fun u b hu hb => ?_)
    · rcases hu with ⟨g1, g2⟩ | ⟨g1, g2⟩
      · exact Or.inl (Or.inl ⟨g1, g2⟩)
      · have g2 : u < 40 + wl ((k, U, 0) :: (x f).2.1) + 0 := g2
        rw [wl_n hk1] at g2
        by_cases e8 : u = 40 + wl (x f).2.1
        · exact Or.inr e8
        · exact Or.inl (Or.inr ⟨g1, by omega⟩)
    · show y.1 (qRt rt (f, 40 + wl (x f).2.1) t (f, u)) = 6 ↔ lUp (fun u => y.1 (rt (f, u)) = 6) (40 + wl (x f).2.1) (y.1 t = 6) u
      by_cases e8 : u = 40 + wl (x f).2.1
      · rw [e8, qRt_eq, lUp_eq]
      · rw [qRt_ne (fun q => e8 (by injection q)), lUp_ne e8]
  have hlow : ∃ (j v : Nat) (s : lLc), a = (j, v) :: s ∧ j ≤ f := by
    obtain ⟨j, v, r, e1, e2⟩ := i6
    obtain ⟨s, e3⟩ := i4
    refine ⟨j, v, r ++ s, ?_, by omega⟩
    rw [e3, e1]; rfl
  refine ⟨a, ea, r1, hlow, ?_⟩
  exact kJ_ret (e := (k, U, 0)) (t := t) (W := V (f + 1, 40)) (ro := some a) (hd := hd) (al2 := al2) (lo2 := lo2) hJ hk1 hl hal hlo hWk (fun g => by simp at g) lv (fun b g => by
    injection g with g
    rw [← g]
    exact ⟨h56, htg, hlow⟩) (by
    rcases hkt with ⟨rfl, e8⟩ | ⟨rfl, e8⟩
    · exact ⟨by rw [qRt_eq]; exact e8, by rw [kRv_eq]; exact ⟨_, r2⟩⟩
    · exact ⟨by rw [qRt_eq]; exact e8, by rw [kRv_eq]; exact ⟨_, r2⟩⟩)
end PS105
end
-- m6.c.lean.txt
section
section PS106
variable {R : yR} {K : Ky} {S0 Sl S S1 S2 S3 : Sg} {D D0 : fD} {i i0 k k0 j f nw n v T fu : Nat} {vt : Nat → Nat → Nat} {tb : Nat → lTb} {x : Nat → kFm} {bs : Nat → Nat} {g : Nat → Int32} {X : kFm} {r0 : List tE}
/-- main's end -/
theorem s_26m (h : RQ R S0 vt tb i D k 0 x bs Sl k S) (hQ : D.Pe < 24000) (hk : (D.I k).kd = 26) : Rt (f_step R.K S) (fun S2 _ => RX Sl S2 ∧ Zi S2 3 = Zi S 3 ∧ Zi S2 77 = -1) := by
  refine stp_26 h hQ hk (fun S1 h1 e70 e3 er el => ?_)
  have h76 := h1.2.2.2.1.2.2
  have hX1 := h1.2.2.1
  refine Rt.bd (v := Ui S1 76 (nI 0)) (by rw [h76, nI_pred]; rfl) ?_
  refine Rt.ip (by rw [show Zi (Ui S1 76 (nI 0)) 76 = nI 0 from Zi_s]; decide) ?_
  unfold f_step_584 f_step_590
  have zi7 : ∀ q : Nat, q ≠ 76 → q ≠ 77 → Zi (Ui (Ui S1 76 (nI 0)) 77 (-1)) q = Zi S1 q := fun q h7 h8 => (Zi_n h8).trans (Zi_n h7)
  refine Rt.bd (v := Ui (Ui S1 76 (nI 0)) 77 (-1)) rfl (Rt.rt ⟨hX1.mk ⟨rfl, rfl, ⟨rfl, rfl⟩, rfl, rfl, fun _ _ => rfl, fun _ _ => rfl, fun j hj _ => zi7 j (by omega) (by omega)⟩ (hX1.2.1.eq (zi7 83 (by decide) (by decide)) (zi7 84 (by decide) (by decide))) (zi7 86 (by decide) (by decide)) (zi7 66 (by decide) (by decide)) ((zi7 81 (by decide) (by decide)).trans hX1.2.2.2.2), (zi7 3 (by decide) (by decide)).trans e3, Zi_s⟩)
/-- RETURN -/
theorem s_26 (hL : LFS R S0 g) (h : RQ R S0 vt tb i D k (f + 1) x bs Sl k S) (hQ : D.Pe < 24000) (hk : (D.I k).kd = 26) (hP0 : PK R S0 i0 D0 k0) (h0k : (D0.I k0).kd = 10) (h0n : (D0.I k0).n1 = i) (h0x : x f = cWt R S0 i0 D0 k0 r0 (x f)) (h0i : (x f).1 = i0) (h0s : D0.st k0 = dsl (fun q => eT ((D0.E.hd i).2.1 q)) (D0.I k0).n3 ++ r0) (hAn : kAn (x (f + 1)) = kAo (yT R S0) (vt i) (kR (x f)) (wl r0) (D0.I k0).n3 (fun q => q)) (h0r : ∀ q : Nat, q < (D0.I k0).n3 → kR (x f) (40 + wl r0 + q) ≠ none → isRf (D.E.vt q)) (h75 : Zr S 75 (f + 1) = nI (k0 + 1))
  (hhd : (D0.E.hd i).1 = D.mn ∧ (∀ q : Nat, q < D.mn → (D0.E.hd i).2.1 q = D.E.vt q) ∧ (D0.E.hd i).2.2 = D.E.gv) (hlf : D0.E.rl i = rlS R S0 i ∧ ∀ q : Nat, D0.E.lf i q = lfS R S0 i q) (hed : edg D0 k0 (k0 + 1)) (hg9 : ¬ isRf D.E.gv → eU D.E.gv = (0, D.E.gv, 0) ∧ eT D.E.gv = (0, D.E.gv, 0)) : Rt (f_step R.K S) (fun S2 _ => RX Sl S2 ∧ Zi S2 3 = Zi S 3 ∧ Zi S2 70 = Zi S 70 ∧ Zr S2 75 = Zr S 75 ∧ Zi S2 76 = nI (f + 1) ∧ NXt R S0 vt tb i0 D0 k0 f x bs S2 S2) := by
  have hy := nYk_of hL
  have hB := yB_yT (R := R) (S0 := S0)
  refine stp_26 h hQ hk (fun S1 h1 e70 e3 er el => ?_)
  have hp := h1.pt.1
  unfold tPt at hp
  rw [hk] at hp
  obtain ⟨_, hlv⟩ := hp
  have hlv := hlv h1.1.2.2.1
  have hp0 := (hP0.1.pt hP0.2.1.1 hP0.2.1.2.1)
  have h177 := hp0.2
  have hp0 := hp0.1
  unfold tPt at hp0
  rw [h0k] at hp0
  obtain ⟨_, _, ⟨_, hnt0⟩, r, hn3, hn12, _, hs0, hT0, hus, hfr, hres⟩ := hp0
  rw [h0n] at hn3 hs0 hT0 hus hfr hres
  obtain rfl : r = r0 := List.append_cancel_left (hs0.symm.trans h0s)
  obtain ⟨hd1, hd2, hd3⟩ := hhd
  rw [hd3] at hres
  have hFn0 := hP0.1
  have hsp0 := hP0.2.2.2.1.all hnt0
  have hrn : ∀ a ∈ r, pnE a := fun a ha => hsp0 a (by rw [hs0]; exact List.mem_append_right _ ha)
  have wr : wl r ≤ 177 := by
    rw [hs0, wl_app] at h177
    omega
  have hX1 := h1.2.2.1
  have h76 := h1.2.2.2.1.2.2
  have h73 := h1.2.2.2.1.2.1
  have hf6 := h1.2.2.2.2.1
  have hwsj := h1.2.2.2.2.2.2.2.1
  obtain ⟨rt, V, C, L, H, fl, t9, ⟨hJ, hN, hC, hF⟩, _⟩ := h1.2.2.2.2.2.2.1
  obtain ⟨a1, a2, a3, a4, a5, a6⟩ := h1.2.2.2.2.2.1
  have b2 : (x f).2.1 = trL (AL D0 k0) r := by rw [h0x]; rfl
  have b3 : (x f).2.2.1 = (D0.I k0).n3 := by rw [h0x]; rfl
  have b4 : kH (x f) = HA R S0 i0 D0 k0 := by rw [h0x]; rfl
  have b5 : kal (x f) = (fun u => u < 40 ∧ AL D0 (k0 + 1) u) := by rw [h0x]; rfl
  have b6 : klo (x f) = (fun u π => LO R S0 D0 (k0 + 1) u π ∨ 40 ≤ u) := by rw [h0x]; rfl
  have wf : wl (x f).2.1 = wl r := by rw [b2, trL_wl]
  have hbf : bs (f + 1) = bs f + wl r := by rw [hN.2.2.1.2 f (Nat.lt_succ_self f), wf]
  -- the program
  have e75 : Zr S1 75 (f + 1) = nI (k0 + 1) := by rw [er]; exact h75
  refine Rt.bd (v := Ui S1 76 (nI (f + 1))) (by rw [h76, nI_pred]; rfl) ?_
  have z76 : Zi (Ui S1 76 (nI (f + 1))) 76 = nI (f + 1) := Zi_s
  refine Rt.iq (fun z => by
    rw [z76] at z
    have := (nI_leI (a := f + 1) (b := 0) (by omega) (by omega)).mp z
    omega) ?_
  rw [z76]
  refine Rt.bd (v := nI (k0 + 1)) (by rw [rI_n (show f + 1 < rlen 75 from Nat.lt_of_lt_of_le hf6 (by decide)) (by decide)]; show some (Zr S1 75 (f + 1)) = _; rw [e75]) ?_
  unfold f_step_584 f_step_590
  have zi7 : ∀ q : Nat, q ≠ 76 → q ≠ 77 → Zi (Ui (Ui S1 76 (nI (f + 1))) 77 (nI (k0 + 1))) q = Zi S1 q := fun q h7 h8 => (Zi_n h8).trans (Zi_n h7)
  have z777 : Zi (Ui (Ui S1 76 (nI (f + 1))) 77 (nI (k0 + 1))) 77 = nI (k0 + 1) := Zi_s
  have z767 : Zi (Ui (Ui S1 76 (nI (f + 1))) 77 (nI (k0 + 1))) 76 = nI (f + 1) := (Zi_n (by decide)).trans Zi_s
  refine Rt.bd (v := Ui (Ui S1 76 (nI (f + 1))) 77 (nI (k0 + 1))) rfl (Rt.rt ⟨hX1.mk ⟨rfl, rfl, ⟨rfl, rfl⟩, rfl, rfl, fun _ _ => rfl, fun _ _ => rfl, fun j hj _ => zi7 j (by omega) (by omega)⟩ (hX1.2.1.eq (zi7 83 (by decide) (by decide)) (zi7 84 (by decide) (by decide))) (zi7 86 (by decide) (by decide)) (zi7 66 (by decide) (by decide)) ((zi7 81 (by decide) (by decide)).trans hX1.2.2.2.2), (zi7 3 (by decide) (by decide)).trans e3, (zi7 70 (by decide) (by decide)).trans e70, (show Zr S1 75 = Zr S 75 by rw [er]), z767, ?_⟩)
  have f7 : FLs (Ui (Ui S1 76 (nI (f + 1))) 77 (nI (k0 + 1))) fl t9 := hF.eq (zi7 64 (by decide) (by decide)) (zi7 65 (by decide) (by decide)) rfl
  have z737 := (zi7 73 (by decide) (by decide)).trans h73
  generalize hS7 : Ui (Ui S1 76 (nI (f + 1))) 77 (nI (k0 + 1)) = S7 at *
  have n7 : nMS S7 = nMS S1 ∧ Zl S7 = Zl S1 ∧ Zr S7 = Zr S1 := by rw [← hS7]; exact ⟨rfl, rfl, rfl⟩
  obtain ⟨n71, n72, n73⟩ := n7
  have hl211 : wl (x f).2.1 < 211 := by omega
  -- what stays of the frame that waits
  have hkR : ∀ (u : Nat) (d : Nat × Nat) (π : lLc) (al : Nat → Prop), (∀ u : Nat, al u → kal (x f) u) → ((u < 40 ∧ al u) ∨ (40 ≤ u ∧ u < 40 + wl r)) → kA (x f) u := fun u d π al hal hu => by
    rcases hu with ⟨q1, q2⟩ | ⟨q1, q2⟩
    · exact Or.inl ⟨q1, hal u q2⟩
    · exact Or.inr ⟨q1, by omega⟩
  have fin : ∀ (m : Nat) (X : kFm) (T : Nat) (W : qV), m ≤ 1 → wl (x (f + 1)).2.1 = m → (∀ u : Nat, (8, u, 0) ∉ (x (f + 1)).2.1) → (X.1 = (x f).1 ∧ X.2.2.1 = 0 ∧ kal X = kal (x f) ∧ klo X = klo (x f) ∧ kAn X = kAn (x f)) → wl X.2.1 = wl r + m → (∀ u : Nat, (8, u, 0) ∈ X.2.1 ↔ (8, u, 0) ∈ (x f).2.1) → (m = 1 → rt (f + 1, 40) = T ∧ W = V (f + 1, 40)) → (∀ u : Nat, u ≠ 40 + wl r → kR X u = kR (x f) u ∧ ∀ κ : Nat, kH X u κ ↔ kH (x f) u κ) → (∀ (d : Nat × Nat) (π : lLc), kR X (40 + wl r) = some (d :: π) → m = 1 → kR (x (f + 1)) 40 = some (d :: π) ∧ d.1 ≤ f) → (∀ κ : Nat, m = 1 → kH X (40 + wl r) κ → HK D0 (k0 + 1) (40 + wl r) κ) → (∀ u : Nat, u ≠ 40 + wl r → (D0.I k0).ho ≠ some u) → kJ (yT R S0) vt tb f (kUx x f X) (qRt rt (f, 40 + wl r) T) (kRv V f (40 + wl r) W) → wkS X.2.1 (trL (AL D0 (k0 + 1)) (D0.st (k0 + 1))) → (∀ a ∈ D0.st (k0 + 1), pnE a) → wl (D0.st (k0 + 1)) = wl r + m → wl (D.st k) = m → NXt R S0 vt tb i0 D0 k0 f x bs S7 S7 := fun m X T W hm hwm h8 ⟨X1, X2, X3, X4, X5⟩ hXw hX8 hT hRH hR40 hH40 hou hJ2 hst hjn wj wk => by
    obtain ⟨nv1, nv2⟩ := hN.ret (X := X) (w := wl r) (m := m) (T := T) (W := W) hy hJ hC hf6 hwsj wf hm h8 hwm hXw hX8 hT (fun u d π hA hsc hR => by
      by_cases c : u = 40 + wl r
      · rw [c] at hR hsc
        have hm1 : m = 1 := by
          rcases hsc with z | z
          · omega
          · rw [hXw] at z; omega
        obtain ⟨y1, y2⟩ := hR40 d π hR hm1
        exact Or.inr ⟨c, hm1, y1, y2⟩
      · rw [(hRH u c).1] at hR
        refine Or.inl ⟨c, ?_, hR⟩
        rcases hA with ⟨q1, q2⟩ | ⟨q1, q2⟩
        · rw [X3] at q2; exact Or.inl ⟨q1, q2⟩
        · rw [X2, hXw] at q2
          exact Or.inr ⟨q1, by omega⟩)
    refine finG (X := X) hL hP0 hed ⟨_, _, _, _, _, fl, t9, hJ2, by rw [n71, n72, n73]; exact nv1, by rw [n73]; exact nv2, f7⟩ X2 (X1.trans h0i) X5 hst (gtS.of hjn) hjn (fun u hu q => by rw [X3, b5]; exact ⟨hu, q⟩) (fun u κ hu q z => ?_) (fun m2 κ hm2 q z => ⟨?_, fun y => absurd y (pn_mk hjn)⟩) (fun κ r1 m q => ?_) (fun u π hu4 _ q => ?_) z777 ?_ rfl rfl
    · have z := ((hRH u (by omega)).2 κ).mp z
      rw [b4] at z
      rcases z with ⟨_, z⟩ | ⟨z, _⟩
      · exact hFn0.hk hed (by omega) (hou u (by omega)) z.1
      · omega
    · rw [wj] at hm2
      by_cases c : 40 + m2 = 40 + wl r
      · rw [c] at z ⊢
        exact hH40 κ (by omega) z
      · have z := ((hRH (40 + m2) c).2 κ).mp z
        rw [b4] at z
        rcases z with ⟨_, z⟩ | ⟨z, _⟩
        · exact hFn0.hk hed (by omega) (hou _ c) z.1
        · omega
    · rcases q with q | q
      · exact absurd (Or.inr (Or.inl rfl)) (trL_4 (pn_4 hjn) _ q)
      · exact absurd (Or.inr (Or.inr rfl)) (trL_4 (pn_4 hjn) _ q)
    · rw [X4, b6] at q
      rcases q with q | q
      · exact q
      · omega
    · rw [z737, hbf, wk, wj, Nat.add_assoc]
  rcases hlv with ⟨hs, hgv⟩ | ⟨hs, hgv⟩
  · -- nothing comes
    rw [hgv] at hres
    obtain ⟨_, ho, _, _, hw⟩ | ⟨z, _⟩ := hres
    · have hx9 : (x (f + 1)).2.1 = [] := by rw [a2, hs]; rfl
      have hjn := wkS_pn hw hrn
      have hJ2 := kJ_ret0 (al2 := kal (x f)) (lo2 := klo (x f)) (yK_z (R := R) (S0 := S0)) hJ hl211 (fun u q => q) (fun w π q => q)
      rw [wf] at hJ2
      refine fin 0 ((x f).1, (x f).2.1, 0, lUp (kR (x f)) (40 + wl r) none, kH (x f), kal (x f), klo (x f), kAn (x f)) 0 (fun _ => none) (by decide) (by rw [hx9]; rfl) (fun u z => by rw [hx9] at z; cases z) ⟨rfl, rfl, rfl, rfl, rfl⟩ wf (fun u => Iff.rfl) (fun z => by cases z) (fun u hu => ⟨lUp_ne hu, fun κ => Iff.rfl⟩) (fun d π z _ => ?_) (fun κ z => by cases z) (fun u _ z => by rw [ho] at z; cases z) hJ2 ?_ hjn (wkS_wl hw) (by rw [hs]; rfl)
      · have z : lUp (kR (x f)) (40 + wl r) none (40 + wl r) = some (d :: π) := z
        rw [lUp_eq] at z; cases z
      · show wkS (x f).2.1 _
        rw [b2]
        exact trL_t hw (fun n hn q => hFn0.al hed (by omega) (fun z => by rw [ho] at z; cases z) q)
    · exact absurd rfl z
  · obtain ⟨z, _⟩ | ⟨_, ho1, ho2, _, _, hw⟩ := hres
    · exact absurd z hgv
    · have hnm : kNm (eT D.E.gv) := eT_nm
      have hjn := wkS_pn hw (fun a ha => by
        rcases List.mem_cons.mp ha with z | z
        · rw [z]
          unfold eT
          by_cases c : 10000 ≤ D.E.gv
          · rw [if_pos c]
            by_cases c2 : D.E.gv % 2 = 0
            · rw [if_pos c2]; exact ⟨by show (1 : Nat) ≠ 3; decide, by show (1 : Nat) ≠ 4; decide, by show (1 : Nat) ≠ 5; decide, by show (1 : Nat) ≠ 6; decide, fun _ => rfl⟩
            · rw [if_neg c2]; exact ⟨by show (2 : Nat) ≠ 3; decide, by show (2 : Nat) ≠ 4; decide, by show (2 : Nat) ≠ 5; decide, by show (2 : Nat) ≠ 6; decide, fun _ => rfl⟩
          · rw [if_neg c]; exact ⟨by show (0 : Nat) ≠ 3; decide, by show (0 : Nat) ≠ 4; decide, by show (0 : Nat) ≠ 5; decide, by show (0 : Nat) ≠ 6; decide, fun _ => rfl⟩
        · exact hrn a z)
      have wj : wl (D0.st (k0 + 1)) = wl r + 1 := by rw [wkS_wl hw, wl_n hnm]
      by_cases hrf : isRf D.E.gv
      · have ho := ho1 hrf
        obtain ⟨q, U, hU9, hkt, hqT, hqU⟩ : ∃ q U : Nat, U < 10000 ∧ ((q = 1 ∧ D.E.gv = 10000 + 2 * U) ∨ (q = 2 ∧ D.E.gv = 10001 + 2 * U)) ∧ eT D.E.gv = (q, U, 0) ∧ eU D.E.gv = (q, U, 1) := by
          unfold eT eU
          rw [if_pos hrf.1, if_pos hrf.1]
          have h2 := hrf.1
          have h3 := hrf.2
          by_cases c : D.E.gv % 2 = 0
          · rw [if_pos c, if_pos c]; exact ⟨1, _, by omega, Or.inl ⟨rfl, by omega⟩, rfl, rfl⟩
          · rw [if_neg c, if_neg c]; exact ⟨2, _, by omega, Or.inr ⟨rfl, by omega⟩, rfl, rfl⟩
        rw [hqU] at hs
        rw [hqT] at hw hnm
        have hx9 : (x (f + 1)).2.1 = [(q, U, 1)] := by
          rw [a2, hs]
          show trE (AL D k) 0 (q, U, 1) :: [] = _
          rw [trE_r (show q = 1 ∨ q = 2 by omega) (Or.inl (show (1 : Nat) ≠ 0 by decide))]
        have hmk : mkS (D.st k) := ⟨(q, U, 1), by rw [hs]; exact List.mem_singleton_self _, show q = 1 ∨ q = 2 by omega, show (1 : Nat) ≠ 0 by decide⟩
        obtain ⟨a, ea, r1, hlow, hJ2⟩ := kJ_retR (n := (D0.I k0).n3) (ou := fun q => q) (hd := HK D0 (k0 + 1) (40 + wl r)) (al2 := kal (x f)) (lo2 := klo (x f)) hB.2.2.1 hJ hx9 hl211 hU9 hkt b3 (by rw [wf, a1]; exact hAn) a3 (fun u q => q) (fun w π q => q) (fun j hj hRj hj40 κ hκ => by
          rw [wf] at hRj hκ
          have hrj := h0r j hj hRj
          have hj40 : kH (x (f + 1)) 40 j := hj40
          rw [a4] at hj40
          rw [b4] at hκ
          rcases hj40 with ⟨_, z⟩ | ⟨z, _⟩
          · have hokl := z.2.2 hmk rfl
            rcases hκ with ⟨_, hκ⟩ | ⟨hκ, _⟩
            · refine hFn0.hf hed (by omega) ho (by rw [h0k]; decide) ?_ hκ.1
              rw [hfr, Nat.add_assoc]
              refine arL_m ?_ hj
              have hjm : j < D.mn := by rw [← hd1, ← hn3]; exact hj
              rw [hd2 j hjm, hlf.1, hlf.2]
              have t1 : decide (10000 ≤ D.E.vt j ∧ D.E.vt j < 30000) = true := decide_eq_true hrj
              rw [t1, Bool.true_and]
              by_cases c : rlS R S0 i < 0
              · rw [decide_eq_true c]; rfl
              · rw [decide_eq_true (hokl (by omega) ⟨hjm, hrj⟩ c), Bool.or_true]
            · omega
          · omega)
        rw [wf] at hJ2
        refine fin 1 ((x f).1, (q, U, 0) :: (x f).2.1, 0, lUp (kR (x f)) (40 + wl r) (some a), lUp (kH (x f)) (40 + wl r) (HK D0 (k0 + 1) (40 + wl r)), kal (x f), klo (x f), kAn (x f)) D.E.gv (V (f + 1, 40)) (by decide) (by rw [hx9]; exact wl_n (pR_nm (by omega))) (fun u z => by rw [hx9] at z; have := (Prod.mk.inj (List.mem_singleton.mp z)).1; omega) ⟨rfl, rfl, rfl, rfl, rfl⟩ (by show wl ((q, U, 0) :: (x f).2.1) = _; rw [wl_n hnm, wf]) (fun u => by
          show (8, u, 0) ∈ (q, U, 0) :: (x f).2.1 ↔ _
          rw [List.mem_cons]
          exact ⟨fun z => z.resolve_left (fun y => by have := (Prod.mk.inj y).1; omega), Or.inr⟩) (fun _ => ⟨r1, rfl⟩) (fun u hu => ⟨lUp_ne hu, fun κ => by
          show lUp (kH (x f)) (40 + wl r) _ u κ ↔ _
          rw [lUp_ne hu]⟩) (fun d π z _ => ?_) (fun κ _ z => ?_) (fun u hu z => by rw [ho] at z; exact hu (Option.some.inj z).symm) hJ2 ?_ hjn wj (by rw [hs]; exact wl_n (pR_nm (by omega)))
        · have z : lUp (kR (x f)) (40 + wl r) (some a) (40 + wl r) = some (d :: π) := z
          rw [lUp_eq] at z
          rw [← z]
          refine ⟨ea, ?_⟩
          obtain ⟨j9, v9, s9, e9, l9⟩ := hlow
          rw [e9] at z
          have := (List.cons.inj (Option.some.inj z)).1
          rw [← this]; exact l9
        · have z : lUp (kH (x f)) (40 + wl r) (HK D0 (k0 + 1) (40 + wl r)) (40 + wl r) κ := z
          rw [lUp_eq] at z; exact z
        · show wkS ((q, U, 0) :: (x f).2.1) _
          rw [b2]
          exact trL_c hw (show q ≠ 3 by omega) (show q ≠ 5 by omega) (show q ≠ 6 by omega) (fun n hn z => hFn0.al hed (by omega) (fun y => by rw [ho] at y; have := Option.some.inj y; omega) z)
      · have ho := ho2 hrf
        obtain ⟨g1, g2⟩ := hg9 hrf
        rw [g1] at hs
        rw [g2] at hw hnm
        have hx9 : (x (f + 1)).2.1 = [(0, D.E.gv, 0)] := by
          rw [a2, hs]
          exact trL_0 (r := []) (E := [(0, D.E.gv, 0)]) (fun e he => by rw [List.mem_singleton.mp he])
        obtain ⟨r1, hJ2⟩ := kJ_retV (al2 := kal (x f)) (lo2 := klo (x f)) hJ hx9 hgv hl211 (fun u q => q) (fun w π q => q)
        rw [wf] at hJ2
        refine fin 1 ((x f).1, (0, D.E.gv, 0) :: (x f).2.1, 0, lUp (kR (x f)) (40 + wl r) none, kH (x f), kal (x f), klo (x f), kAn (x f)) D.E.gv (V (f + 1, 40)) (by decide) (by rw [hx9]; exact wl_n (nm_0 rfl)) (fun u z => by rw [hx9] at z; have := (Prod.mk.inj (List.mem_singleton.mp z)).1; omega) ⟨rfl, rfl, rfl, rfl, rfl⟩ (by show wl ((0, D.E.gv, 0) :: (x f).2.1) = _; rw [wl_n hnm, wf]) (fun u => by
          show (8, u, 0) ∈ (0, D.E.gv, 0) :: (x f).2.1 ↔ _
          rw [List.mem_cons]
          exact ⟨fun z => z.resolve_left (fun y => by have := (Prod.mk.inj y).1; omega), Or.inr⟩) (fun _ => ⟨r1, rfl⟩) (fun u hu => ⟨lUp_ne hu, fun κ => Iff.rfl⟩) (fun d π z _ => ?_) (fun κ _ z => ?_) (fun u _ z => by rw [ho] at z; cases z) hJ2 ?_ hjn wj (by rw [hs]; exact wl_n (nm_0 rfl))
        · have z : lUp (kR (x f)) (40 + wl r) none (40 + wl r) = some (d :: π) := z
          rw [lUp_eq] at z; cases z
        · have z : kH (x f) (40 + wl r) κ := z
          rw [b4] at z
          rcases z with ⟨_, z⟩ | ⟨z, _⟩
          · exact hFn0.hk hed (by omega) (fun y => by rw [ho] at y; cases y) z.1
          · omega
        · show wkS ((0, D.E.gv, 0) :: (x f).2.1) _
          rw [b2]
          exact trL_c hw (show (0 : Nat) ≠ 3 by decide) (show (0 : Nat) ≠ 5 by decide) (show (0 : Nat) ≠ 6 by decide) (fun n hn z => hFn0.al hed (by omega) (fun y => by rw [ho] at y; cases y) z)
end PS106
end
-- m6.d.lean.txt
section
/-- how far it is to the end, at most -/
def wK (D : fD) (k : Nat) : Nat := if (D.I k).kd = 0 then 1 else D.Pe - k + 1
/-- a function's head, as its callers know it -/
def cLk (R : yR) (S0 : Sg) (D : fD) (g : Nat) (D2 : fD) : Prop := (D.E.hd g).1 = D2.mn ∧ (∀ q : Nat, q < D2.mn → (D.E.hd g).2.1 q = D2.E.vt q) ∧ (D.E.hd g).2.2 = D2.E.gv ∧ D.E.rl g = rlS R S0 g ∧ ∀ q : Nat, D.E.lf g q = lfS R S0 g q
/-- the program: its functions -/
def PRG (R : yR) (S0 Sl : Sg) (vt : Nat → Nat → Nat) (tb : Nat → lTb) (DD : Nat → fD) (G : Nat → Prop) : Prop := ∀ i : Nat, G i → (FnD R S0 i (DD i) ∧ (DD i).E.y = yT R S0 ∧ hFE R S0 (DD i)) ∧ ((DD i).Ps < (DD i).Pe ∧ (DD i).Pe < 24000) ∧ (∀ k : Nat, (DD i).Ps ≤ k → k < (DD i).Pe → rzq R S0 Sl k ((DD i).I k)) ∧ (vt i = (DD i).E.vt ∧ tb i = tbD (DD i)) ∧ cRw R S0 Sl i (DD i).mn (DD i).Ps (DD i).E.vt ∧ (¬ isRf (DD i).E.gv → eU (DD i).E.gv = (0, (DD i).E.gv, 0) ∧ eT (DD i).E.gv = (0, (DD i).E.gv, 0)) ∧ ∀ k : Nat, (DD i).Ps ≤ k → k < (DD i).Pe → ((DD i).I k).kd = 10 → G ((DD i).I k).n1 ∧ cLk R S0 (DD i) ((DD i).I k).n1 (DD ((DD i).I k).n1)
/-- frame j waits at the call k0 -/
def WTq (R : yR) (S0 : Sg) (vt : Nat → Nat → Nat) (DD : Nat → fD) (G : Nat → Prop) (x : Nat → kFm) (j : Nat) (S : Sg) (k0 : Nat) : Prop := ∃ r0 : List tE, G (x j).1 ∧ PK R S0 (x j).1 (DD (x j).1) k0 ∧ ((DD (x j).1).I k0).kd = 10 ∧ ((DD (x j).1).I k0).n1 = (x (j + 1)).1 ∧ x j = cWt R S0 (x j).1 (DD (x j).1) k0 r0 (x j) ∧ (DD (x j).1).st k0 = dsl (fun q => eT (((DD (x j).1).E.hd (x (j + 1)).1).2.1 q)) ((DD (x j).1).I k0).n3 ++ r0 ∧ kAn (x (j + 1)) = kAo (yT R S0) (vt (x (j + 1)).1) (kR (x j)) (wl r0) ((DD (x j).1).I k0).n3 (fun q => q) ∧ (∀ q : Nat, q < ((DD (x j).1).I k0).n3 → kR (x j) (40 + wl r0 + q) ≠ none → isRf ((DD (x (j + 1)).1).E.vt q)) ∧ Zr S 75 (j + 1) = nI (k0 + 1) ∧ edg (DD (x j).1) k0 (k0 + 1)
/-- the running, M steps from its end at most -/
def RUN (R : yR) (S0 Sl : Sg) (vt : Nat → Nat → Nat) (tb : Nat → lTb) (DD : Nat → fD) (G : Nat → Prop) (M : Nat) (S : Sg) : Prop := ∃ (f k fu : Nat) (x : Nat → kFm) (bs ks : Nat → Nat), G (x f).1 ∧ RQ R S0 vt tb (x f).1 (DD (x f).1) k f x bs Sl k S ∧ (∀ j : Nat, j < f → WTq R S0 vt DD G x j S (ks j)) ∧ (Zi S 70 = nI fu ∧ fu ≤ 20000) ∧ M = fu * 50000 + wK (DD (x f).1) k + psN (fun j => wK (DD (x j).1) (ks j + 1)) f
section PS107
variable {R : yR} {S0 Sl S S1 S2 S3 : Sg} {D D0 : fD} {i k j f n fu M : Nat} {vt : Nat → Nat → Nat} {tb : Nat → lTb} {x x2 : Nat → kFm} {bs ks : Nat → Nat} {g : Nat → Int32} {X : kFm} {DD : Nat → fD} {G : Nat → Prop}
theorem WTq.cg (h : WTq R S0 vt DD G x j S k) (e1 : x2 j = x j) (e2 : (x2 (j + 1)).1 = (x (j + 1)).1) (e3 : kAn (x2 (j + 1)) = kAn (x (j + 1))) (e4 : Zr S2 75 (j + 1) = Zr S 75 (j + 1)) : WTq R S0 vt DD G x2 j S2 k := by
  obtain ⟨r0, h1, h2, h3, h4, h5, h6, h7, h8, h9, h10⟩ := h
  unfold WTq
  rw [e1, e2, e3, e4]
  exact ⟨r0, h1, h2, h3, h4, h5, h6, h7, h8, h9, h10⟩
/-- the next point: the running goes on -/
theorem NXt.run (hP : PRG R S0 Sl vt tb DD G) (hG : G i) (hx1 : (x f).1 = i) (hf : f < 60) (hws : ∀ j : Nat, j < f → wl (x j).2.1 ≤ 177) (hlow : ∀ j : Nat, j < f → WTq R S0 vt DD G x j S (ks j)) (h76 : Zi S 76 = nI (f + 1)) (hX : RX Sl S2) (hfu : Zi S2 70 = nI fu ∧ fu ≤ 20000) (h : NXt R S0 vt tb i (DD i) k f x bs S S2) : ∃ j : Nat, edg (DD i) k j ∧ RUN R S0 Sl vt tb DD G (fu * 50000 + wK (DD i) j + psN (fun j => wK (DD (x j).1) (ks j + 1)) f) S2 := by
  obtain ⟨j, X, e, pk, h77, h73, ⟨h75, h76'⟩, hat, hAn, h3⟩ := h
  obtain ⟨_, _, p3, p4, _⟩ := hP i hG
  have e1 : (kUx x f X f).1 = i := by rw [kUx_top]; exact hat.1
  refine ⟨j, e, f, j, fu, kUx x f X, bs, ks, by rw [e1]; exact hG, ?_, fun q hq => ?_, hfu, ?_⟩
  · rw [e1]
    refine ⟨pk, p3 j pk.2.1.1 pk.2.1.2.1, hX, ⟨h77, h73, h76'.trans h76⟩, hf, by rw [kUx_top]; exact hat, h3, fun q hq => ?_, p4⟩
    by_cases c : q = f
    · rw [c, kUx_top, hat.2.1, trL_wl]
      exact (pk.1.pt pk.2.1.1 pk.2.1.2.1).2
    · rw [kUx_lo c]; exact hws q (by omega)
  · have q1 : kUx x f X q = x q := kUx_lo (by omega)
    by_cases c : q + 1 = f
    · subst c
      exact (hlow q hq).cg q1 (by rw [kUx_top, hat.1, hx1]) (by rw [kUx_top, hAn]) (by rw [h75])
    · exact (hlow q hq).cg q1 (by rw [kUx_lo c]) (by rw [kUx_lo c]) (by rw [h75])
  · rw [e1]
    congr 1
    exact psN_cg (fun q hq => by rw [kUx_lo (by omega)])
theorem wK_1 : 1 ≤ wK D k := by
  unfold wK
  by_cases c : (D.I k).kd = 0
  · rw [if_pos c]; exact Nat.le_refl _
  · rw [if_neg c]; omega
theorem wK_m (h : D.Pe < 24000) : wK D k ≤ 24001 := by
  unfold wK
  by_cases c : (D.I k).kd = 0
  · rw [if_pos c]; omega
  · rw [if_neg c]; omega
/-- every kind but FUEL, CALL, RETURN -/
theorem s_all (hL : LFS R S0 g) (hx : LX S0 Sl) (hE : hFE R S0 D) (h : RQ R S0 vt tb i D k f x bs Sl k S) (hQ : D.Pe < 24000) (h0 : (D.I k).kd ≠ 0) (h10 : (D.I k).kd ≠ 10) (h26 : (D.I k).kd ≠ 26) : Rt (f_step R.K S) (fun S2 _ => RTt R S0 vt tb i D k f x bs Sl S S2) := by
  have h28 := h.2.1.2.1
  have hh : (D.I k).kd = 1 ∨ (D.I k).kd = 2 ∨ (D.I k).kd = 3 ∨ (D.I k).kd = 4 ∨ (D.I k).kd = 5 ∨ (D.I k).kd = 6 ∨ (D.I k).kd = 7 ∨ (D.I k).kd = 8 ∨ (D.I k).kd = 9 ∨ (D.I k).kd = 11 ∨ (D.I k).kd = 12 ∨ (D.I k).kd = 13 ∨ (D.I k).kd = 14 ∨ (D.I k).kd = 15 ∨ (D.I k).kd = 16 ∨ (D.I k).kd = 17 ∨ (D.I k).kd = 18 ∨ (D.I k).kd = 19 ∨ (D.I k).kd = 20 ∨ (D.I k).kd = 21 ∨ (D.I k).kd = 22 ∨ (D.I k).kd = 23 ∨ (D.I k).kd = 24 ∨ (D.I k).kd = 25 ∨ (D.I k).kd = 27 := by omega
  rcases hh with c | c | c | c | c | c | c | c | c | c | c | c | c | c | c | c | c | c | c | c | c | c | c | c | c
  · exact s_1 hL h hQ c
  · exact s_2 hL hx hE h hQ c
  · exact s_3 hL hx hE h hQ c
  · exact s_4 hL h hQ c
  · exact s_5 hL h hQ c
  · exact s_6 hL h hQ c
  · exact s_7 hL hx h hQ c
  · exact s_8 hL hx h hQ c
  · exact s_9 hL hx h hQ c
  · exact s_11 hL hx h hQ c
  · exact s_12 hL hx h hQ c
  · exact s_13 hL hx h hQ c
  · exact s_14 hL hx hE h hQ c
  · exact s_15 hL hx h hQ c
  · exact s_16 hL h hQ c
  · exact s_17 hL h hQ c
  · exact s_18 hL h hQ c
  · exact s_19 hL h hQ c
  · exact s_20 hL hx h hQ c
  · exact s_21 hL hx hE h hQ c
  · exact s_22 hL hx h hQ c
  · exact s_23 hL hx hE h hQ c
  · exact s_24 hL hx h hQ c
  · exact s_25 hL h hQ c
  · exact s_27 hL h hQ c
/-- one step -/
theorem RUN.step (hL : LFS R S0 g) (hx : LX S0 Sl) (hP : PRG R S0 Sl vt tb DD G) (h : RUN R S0 Sl vt tb DD G M S) : Rt (f_step R.K S) (fun S2 _ => RX Sl S2 ∧ (Zi S2 3 ≠ 0 ∨ Zi S2 77 = -1 ∨ ∃ M2 : Nat, M2 < M ∧ RUN R S0 Sl vt tb DD G M2 S2)) := by
  obtain ⟨f, k, fu, x, bs, ks, hG, hR, hlow, ⟨hfu, hfu2⟩, rfl⟩ := h
  generalize hi : (x f).1 = i at *
  obtain ⟨⟨p1, p2, p3⟩, ⟨p4, p5⟩, p6, p7, p8, p9, p10⟩ := hP i hG
  have hf6 := hR.2.2.2.2.1
  have hws := hR.2.2.2.2.2.2.2.1
  have h76 := hR.2.2.2.1.2.2
  have hkr := hR.1.2.1
  have hx9 := wK_m (k := k) p5
  by_cases h0 : ((DD i).I k).kd = 0
  · refine (s_0 hL hR p5 h0 hfu hfu2).mo (fun S2 _ ⟨q1, q2⟩ => ⟨q1, ?_⟩)
    rcases q2 with q2 | ⟨q2, ⟨m, q3, q4⟩, q5⟩
    · exact Or.inl q2
    · obtain ⟨j, _, q6⟩ := NXt.run hP hG hi hf6 (fun j hj => hws j (by omega)) hlow h76 q1 ⟨q4, by omega⟩ q5
      refine Or.inr (Or.inr ⟨_, ?_, q6⟩)
      have := wK_m (k := j) p5
      have := wK_1 (D := DD i) (k := k)
      subst q3
      omega
  · by_cases h10 : ((DD i).I k).kd = 10
    · obtain ⟨c1, c2, c3, c4, c5, c6⟩ := p10 k hkr.1 hkr.2.1 h10
      obtain ⟨⟨d1, d2, d3⟩, ⟨d4, d5⟩, d6, d7, d8, _, _⟩ := hP _ c1
      refine (s_10 hL hx hR p5 h10 hfu hfu2 d1 d2 d4 (d6 _ (Nat.le_refl _) d4) d7 ⟨c2, c3⟩ d8).mo (fun S2 _ ⟨q1, q2⟩ => ⟨q1, ?_⟩)
      rcases q2 with q2 | ⟨q2, ⟨m, q3, q4⟩, r, X, bs2, q5, q6, q7, q8, q9, q10, q11⟩
      · exact Or.inl q2
      · have e1 : kUx (kUx x f (cWt R S0 i (DD i) k r (x f))) (f + 1) X (f + 1) = X := kUx_eq
        have eX : X.1 = ((DD i).I k).n1 := by
          have := q7.2.2.2.2.2.1.1
          rw [e1] at this
          exact this
        have ef : kUx (kUx x f (cWt R S0 i (DD i) k r (x f))) (f + 1) X f = cWt R S0 i (DD i) k r (x f) := by rw [kUx_ne (by omega)]; exact kUx_eq
        have ej : ∀ j : Nat, j < f → kUx (kUx x f (cWt R S0 i (DD i) k r (x f))) (f + 1) X j = x j := fun j hj => by rw [kUx_ne (by omega), kUx_ne (by omega)]
        refine Or.inr (Or.inr ⟨m * 50000 + wK (DD ((DD i).I k).n1) (DD ((DD i).I k).n1).Ps + (psN (fun j => wK (DD (x j).1) (ks j + 1)) f + wK (DD i) (k + 1)), ?_, f + 1, (DD ((DD i).I k).n1).Ps, m, kUx (kUx x f (cWt R S0 i (DD i) k r (x f))) (f + 1) X, bs2, (fun j => if j = f then k else ks j), by rw [e1, eX]; exact c1, by rw [e1, eX]; exact q7, fun j hj => ?_, ⟨q4, by omega⟩, ?_⟩)
        · have := wK_m (k := (DD ((DD i).I k).n1).Ps) d5
          have := wK_m (k := k + 1) p5
          subst q3
          omega
        · by_cases c : j = f
          · subst c
            show WTq R S0 vt DD G _ j S2 (if j = j then k else ks j)
            rw [if_pos rfl]
            have ec : (cWt R S0 i (DD i) k r (x j)).1 = i := hi
            unfold WTq
            rw [ef, e1, eX, ec]
            exact ⟨r, hG, hR.1, h10, rfl, rfl, q5, q6, q9, q10, hR.e1 (kd_s h10 (by decide))⟩
          · show WTq R S0 vt DD G _ j S2 (if j = f then k else ks j)
            rw [if_neg c]
            have hj2 : j < f := by omega
            by_cases c2 : j + 1 = f
            · subst c2
              exact (hlow j hj2).cg (ej j hj2) (by rw [ef]; rfl) (by rw [ef]; rfl) (by rw [q11 _ (by omega)])
            · exact (hlow j hj2).cg (ej j hj2) (by rw [ej (j + 1) (by omega)]) (by rw [ej (j + 1) (by omega)]) (by rw [q11 _ (by omega)])
        · rw [e1, eX]
          congr 1
          show _ = psN _ f + wK (DD (kUx (kUx x f (cWt R S0 i (DD i) k r (x f))) (f + 1) X f).1) ((if f = f then k else ks f) + 1)
          rw [ef, if_pos rfl]
          have : (cWt R S0 i (DD i) k r (x f)).1 = i := hi
          rw [this]
          congr 1
          exact psN_cg (fun j hj => by
            rw [ej j hj]
            show _ = wK (DD (x j).1) ((if j = f then k else ks j) + 1)
            rw [if_neg (by omega)])
    · by_cases h26 : ((DD i).I k).kd = 26
      · cases f with
        | zero =>
          exact (s_26m hR p5 h26).mo (fun S2 _ ⟨q1, _, q2⟩ => ⟨q1, Or.inr (Or.inl q2)⟩)
        | succ f =>
          obtain ⟨r0, w1, w2, w3, w4, w5, w6, w7, w8, w9, w10⟩ := hlow f (Nat.lt_succ_self f)
          rw [hi] at w4 w6 w7 w8
          obtain ⟨_, ⟨_, u5⟩, u6, _, _, _, u10⟩ := hP _ w1
          obtain ⟨_, c2, c3, c4, c5, c6⟩ := u10 (ks f) w2.2.1.1 w2.2.1.2.1 w3
          rw [w4] at c2 c3 c4 c5 c6
          refine (s_26 hL hR p5 h26 w2 w3 w4 w5 rfl w6 w7 w8 w9 ⟨c2, c3, c4⟩ ⟨c5, c6⟩ w10 p9).mo (fun S2 _ ⟨q1, q2, q3, q4, q5, q6⟩ => ⟨q1, Or.inr (Or.inr ?_)⟩)
          obtain ⟨j, e9, q7⟩ := NXt.run (S := S2) (ks := ks) (fu := fu) hP w1 rfl (by omega) (fun j hj => hws j (by omega)) (fun j hj => (hlow j (by omega)).cg rfl rfl rfl (by rw [q4])) q5 q1 ⟨q3.trans hfu, hfu2⟩ q6
          have hj : j = ks f + 1 := by
            have hz := (u6 (ks f) w2.2.1.1 w2.2.1.2.1).2.2.2.2.2.2.1
            rcases hz with ⟨z, _⟩ | ⟨z, _⟩ | ⟨z, _⟩ | ⟨z, _⟩ | ⟨_, _, _, _, _, _, _, _, z⟩
            · omega
            · omega
            · omega
            · omega
            · have := e9.2.2.2
              rw [z] at this
              exact List.mem_singleton.mp this
          refine ⟨_, ?_, q7⟩
          rw [hj]
          show _ < fu * 50000 + wK (DD i) k + (psN (fun j => wK (DD (x j).1) (ks j + 1)) f + wK (DD (x f).1) (ks f + 1))
          have := wK_1 (D := DD i) (k := k)
          omega
      · refine (s_all hL hx p3 hR p5 h0 h10 h26).mo (fun S2 _ ⟨q1, q2⟩ => ⟨q1, ?_⟩)
        rcases q2 with q2 | ⟨q2, q3, q5⟩
        · exact Or.inl q2
        · obtain ⟨j, e9, q6⟩ := NXt.run hP hG hi hf6 (fun j hj => hws j (by omega)) hlow h76 q1 ⟨q3.trans hfu, hfu2⟩ q5
          refine Or.inr (Or.inr ⟨_, ?_, q6⟩)
          have hb := (p1.1.2.2 k hkr.1 hkr.2.1).1 j e9.2.2.2
          have hw : wK (DD i) j < wK (DD i) k := by
            unfold wK
            rw [if_neg h0]
            by_cases c : ((DD i).I j).kd = 0
            · rw [if_pos c]
              have := hkr.2.1
              omega
            · rw [if_neg c]
              have := hb.2.2.2.resolve_right c
              have := hb.2.1
              omega
          omega
/-- the loop -/
theorem run81 (hL : LFS R S0 g) (hx : LX S0 Sl) (hP : PRG R S0 Sl vt tb DD G) : ∀ (d M : Nat) (S : Sg), M < d → RX Sl S → (Zi S 3 ≠ 0 ∨ Zi S 77 = -1 ∨ RUN R S0 Sl vt tb DD G M S) → Rt (f_runMain_81 R.K d S) (fun S2 _ => RX Sl S2)
  | 0, M, S, hd, _, _ => by omega
  | d + 1, M, S, hd, hX, h => by
    unfold f_runMain_81
    refine Rt.it (fun _ => Rt.rt hX) (fun hpc => ?_)
    refine Rt.ok (fun h3 => ?_) (fun _ => Rt.rt hX)
    rcases h with h | h | h
    · exact absurd h3 h
    · rw [h] at hpc
      exact absurd (by decide) hpc
    · have hM : 1 ≤ M := by
        obtain ⟨f, k, fu, x, bs, ks, _, _, _, _, hM⟩ := h
        have := wK_1 (D := DD (x f).1) (k := k)
        omega
      refine Rt.bn (h.step hL hx hP) (fun S2 _ ⟨q1, q2⟩ => ?_)
      rcases q2 with q2 | q2 | ⟨M2, q2, q3⟩
      · exact run81 hL hx hP d 0 S2 (by omega) q1 (Or.inl q2)
      · exact run81 hL hx hP d 0 S2 (by omega) q1 (Or.inr (Or.inl q2))
      · exact run81 hL hx hP d M2 S2 (by omega) q1 (Or.inr (Or.inr q3))
end PS107
end
-- m6.e.lean.txt
section
section PS108
variable {R : yR} {S0 Sl S S1 S2 S3 : Sg} {mI fu hh : Nat} {vt : Nat → Nat → Nat} {tb : Nat → lTb} {g : Nat → Int32} {DD : Nat → fD} {G : Nat → Prop} {y : qY} {x : Nat → kFm} {Q : Sg → Unit → Prop}
/-- main begins -/
theorem kJ_ini {g : Nat} {H : Nat → Nat → Prop} {al : Nat → Prop} {lo : Nat → lLc → Prop} (hx : x 0 = (g, [], 0, (fun _ => none), H, al, lo, fun _ _ _ => False)) : kJ y vt tb 0 x (fun _ => 0) (fun _ _ => none) := by
  refine ⟨fun _ => qOk_none, ⟨fun j hj => ?_, fun o e q => ?_, fun j hj => absurd hj (by omega)⟩, fun j hj u a _ ha => ?_, fun j hj u t g hv => by simp at hv, fun j hj => ?_, fun j u π w hw => by simp at hw, fun j hj v v4 hv => ?_, fun j hj r m => ?_, fun j hj => ?_⟩
  · obtain rfl : j = 0 := by omega
    refine ⟨fun u a _ ha => ?_, fun u w a b _ _ _ ha => ?_⟩
    · have ha : kR (x 0) u = some a := ha
      rw [hx] at ha
      exact absurd ha (by show ¬ ((none : Option lLc) = some a); simp)
    · have ha : kR (x 0) u = some a := ha
      rw [hx] at ha
      exact absurd ha (by show ¬ ((none : Option lLc) = some a); simp)
  · show ¬ kAn (x 0) o e q
    rw [hx]; exact id
  · obtain rfl : j = 0 := by omega
    rw [hx] at ha
    exact absurd ha (by show ¬ ((none : Option lLc) = some a); simp)
  · obtain rfl : j = 0 := by omega
    rw [hx]; exact trivial
  · obtain rfl : j = 0 := by omega
    rw [hx] at hv
    exact absurd hv (by show ¬ (_ ∈ ([] : List tE)); simp)
  · obtain rfl : j = 0 := by omega
    rw [hx]
    exact ⟨fun q => absurd q (by show ¬ (_ ∈ ([] : List tE)); simp), fun q => absurd q (by show ¬ (_ ∈ ([] : List tE)); simp)⟩
  · obtain rfl : j = 0 := by omega
    rw [hx]; show wl [] ≤ 211; decide
/-- the rows of memory are made empty -/
def mI9 (Sl S1 S : Sg) : Prop := RNx Sl S ∧ (∀ j : Nat, j ≠ 64 → j ≠ 65 → j ≠ 73 → j ≠ 81 → j ≠ 76 → Zi S j = Zi S1 j) ∧ (Zi S 64 = nI 0 ∧ Zi S 65 = nI 0 ∧ Zi S 73 = nI 0 ∧ Zi S 81 = nI 0)
theorem mI9.rx (h : mI9 Sl S1 S) (hq : wq S1) (h86 : ∃ c : Nat, c ≤ 60 ∧ Zi S1 86 = nI c) (h66 : ∃ h : Nat, h ≤ 4000 ∧ Zi S1 66 = nI h) : RX Sl S := by
  obtain ⟨h1, h2, _, _, _, h5⟩ := h
  obtain ⟨c, c1, c2⟩ := h86
  obtain ⟨d, d1, d2⟩ := h66
  exact ⟨h1, hq.eq (h2 83 (by decide) (by decide) (by decide) (by decide) (by decide)) (h2 84 (by decide) (by decide) (by decide) (by decide) (by decide)), ⟨c, c1, (h2 86 (by decide) (by decide) (by decide) (by decide) (by decide)).trans c2⟩, ⟨d, d1, (h2 66 (by decide) (by decide) (by decide) (by decide) (by decide)).trans d2⟩, h5⟩
theorem rm27 (hh4 : hh ≤ 4000) (h66 : Zi S1 66 = nI hh) (kf : ∀ S : Sg, mI9 Sl S1 S → Rt (bnd (f_burn R.K S) fun S6 v7 =>
    bnd (f_ok R.K S6) fun S8 v9 =>
    if v9 = 0 then (some (S8, ())) else ((pM S8 76 1).bind fun S10 =>
    (rQ S10 11 (Zi S10 21)).bind fun v11 =>
    (oI S10 16 v11 5).bind fun v12 =>
    (pM S10 77 v12).bind fun S13 =>
    f_runMain_81 R.K bigN S13)) Q) : ∀ (r i d : Nat) (S : Sg), i + r = hh → r < d → mI9 Sl S1 S → Rt (f_runMain_27 R.K d S (nI i)) Q
  | r, i, 0, _, _, hd, _ => by omega
  | 0, i, d + 1, S, hi, hd, h => by
    obtain rfl : i = hh := by omega
    have e66 : Zi S 66 = nI i := (h.2.1 66 (by decide) (by decide) (by decide) (by decide) (by decide)).trans h66
    unfold f_runMain_27
    refine Rt.ip ?_ (kf S h)
    rw [e66]; exact nI_le (Nat.le_refl _) (by omega)
  | r + 1, i, d + 1, S, hi, hd, h => by
    have e66 : Zi S 66 = nI hh := (h.2.1 66 (by decide) (by decide) (by decide) (by decide) (by decide)).trans h66
    unfold f_runMain_27
    refine Rt.iq (fun w => ?_) ?_
    · rw [e66] at w
      have := (nI_leI (by omega) (by omega)).mp w
      omega
    · refine Rt.bd (wZ_n (show i < rlen 67 from Nat.lt_of_lt_of_le (by omega : i < 4000) (by decide)) (by decide) (Or.inl rfl)) ?_
      rw [nI_1]
      refine rm27 hh4 h66 kf r (i + 1) d _ (by omega) (by omega) ⟨⟨h.1.1, h.1.2.1, h.1.2.2.1, h.1.2.2.2.1, h.1.2.2.2.2.1, fun q hq => (Zr_u9 (by omega)).trans (h.1.2.2.2.2.2.1 q hq), h.1.2.2.2.2.2.2.1, h.1.2.2.2.2.2.2.2⟩, h.2.1, h.2.2⟩
theorem sm2_0 : sm2 (fun _ => 0) = 0 := by
  unfold sm2
  rw [psN_cg (w2 := fun _ => 0) (fun j _ => psN_z), psN_z]
/-- runMain -/
theorem rmn_ (hL : LFS R S0 g) (hx : LX S0 Sl) (hP : PRG R S0 Sl vt tb DD G) (hG : G mI) (hmn : (DD mI).mn = 0) (hr0 : RNx Sl S1) (h21 : Zi S1 21 = nI mI) (hm70 : mI < 70) (hfu : Zi S1 70 = nI fu) (hfu2 : fu ≤ 20000) (hq : wq S1) (h86 : ∃ c : Nat, c ≤ 60 ∧ Zi S1 86 = nI c) (h66 : ∃ h : Nat, h ≤ 4000 ∧ Zi S1 66 = nI h) : Rt (f_runMain R.K S1) (fun S2 _ => RX Sl S2) := by
  obtain ⟨hh, hh4, h669⟩ := h66
  have hy := nYk_of hL
  obtain ⟨⟨d1, d2, d3⟩, ⟨d4, d5⟩, d6, d7, d8, _, _⟩ := hP mI hG
  obtain ⟨gs, aw, cap, fv, hq11, hws, _⟩ := d8
  unfold f_runMain
  refine Rt.bd (v := Ui S1 64 0) rfl (Rt.bd (v := Ui (Ui S1 64 0) 65 0) rfl (Rt.bd (v := Ui (Ui (Ui S1 64 0) 65 0) 73 0) rfl (Rt.bd (v := Ui (Ui (Ui (Ui S1 64 0) 65 0) 73 0) 81 0) rfl (Rt.bd (v := Ui (Ui (Ui (Ui (Ui S1 64 0) 65 0) 73 0) 81 0) 76 0) rfl ?_))))
  refine rm27 hh4 h669 (fun S h => ?_) hh 0 bigN _ (by omega) (by unfold bigN; omega) ⟨hr0.tr ⟨rfl, rfl, ⟨rfl, rfl⟩, rfl, rfl, fun _ _ => rfl, fun _ _ => rfl, fun j hj _ => (Zi_n (by omega)).trans ((Zi_n (by omega)).trans ((Zi_n (by omega)).trans ((Zi_n (by omega)).trans (Zi_n (by omega)))))⟩, fun j q1 q2 q3 q4 q5 => (Zi_n q5).trans ((Zi_n q4).trans ((Zi_n q3).trans ((Zi_n q2).trans (Zi_n q1)))), ⟨(Zi_n (by decide)).trans ((Zi_n (by decide)).trans ((Zi_n (by decide)).trans ((Zi_n (by decide)).trans Zi_s))), (Zi_n (by decide)).trans ((Zi_n (by decide)).trans ((Zi_n (by decide)).trans Zi_s)), (Zi_n (by decide)).trans ((Zi_n (by decide)).trans Zi_s), (Zi_n (by decide)).trans Zi_s⟩⟩
  have hX := h.rx hq h86 ⟨hh, hh4, h669⟩
  have e70 : Zi S 70 = nI fu := (h.2.1 70 (by decide) (by decide) (by decide) (by decide) (by decide)).trans hfu
  have e21 : Zi S 21 = nI mI := (h.2.1 21 (by decide) (by decide) (by decide) (by decide) (by decide)).trans h21
  have hb : Rt (f_burn R.K S) (fun S2 _ => RX Sl S2 ∧ (Zi S2 3 ≠ 0 ∨ ∃ m : Nat, fu = m + 1 ∧ S2 = Ui S 70 (nI m))) := by
    unfold f_burn f_burn_26
    refine Rt.it (fun _ => Rt.bd (v := Ui S 3 8) rfl (Rt.rt ⟨hX.f3, Or.inl ?_⟩)) (fun w => ?_)
    · rw [show Zi (Ui S 3 8) 3 = 8 from Zi_s]; decide
    · cases fu with
      | zero => exact absurd e70 w
      | succ m =>
        exact Rt.bd (v := Ui S 70 (nI m)) (by rw [e70, nI_pred]; rfl) (Rt.rt ⟨hX.u70, Or.inr ⟨m, rfl, rfl⟩⟩)
  refine Rt.bn hb (fun S6 _ ⟨q1, q2⟩ => ?_)
  refine Rt.ok (fun h3 => ?_) (fun _ => Rt.rt q1)
  rcases q2 with q2 | ⟨m, q2, q3⟩
  · exact absurd h3 q2
  · subst q3
    have zi9 : ∀ j : Nat, j ≠ 70 → j ≠ 76 → Zi (Ui (Ui S 70 (nI m)) 76 (nI 1)) j = Zi S j := fun j a b => (Zi_n b).trans (Zi_n a)
    refine Rt.bd (v := Ui (Ui S 70 (nI m)) 76 (nI 1)) rfl ?_
    rw [show Zi (Ui (Ui S 70 (nI m)) 76 (nI 1)) 21 = nI mI from (zi9 21 (by decide) (by decide)).trans e21]
    refine Rt.bd (v := some (R.ws mI)) (by rw [rQ_n (show mI < rlen 11 from by show _ < 70; exact hm70) (by decide)]; show some (Zq S 11 mI) = _; rw [h.1.2.2.2.1, hq11]) ?_
    refine Rt.bd (v := nI (DD mI).Ps) (oI_mk (by show _ ∈ ZL S; rw [h.1.1]; exact hws.1) (by show ZF S _ = _; rw [h.1.2.1]; exact hws.2.1) hws.2.2.2.1) ?_
    refine Rt.bd (v := Ui (Ui (Ui S 70 (nI m)) 76 (nI 1)) 77 (nI (DD mI).Ps)) rfl ?_
    have hX7 : RX Sl (Ui (Ui (Ui S 70 (nI m)) 76 (nI 1)) 77 (nI (DD mI).Ps)) := (q1.mk (S2 := Ui (Ui S 70 (nI m)) 76 (nI 1)) ⟨rfl, rfl, ⟨rfl, rfl⟩, rfl, rfl, fun _ _ => rfl, fun _ _ => rfl, fun j hj _ => Zi_n (by omega)⟩ (q1.2.1.eq (Zi_n (by decide)) (Zi_n (by decide))) (Zi_n (by decide)) (Zi_n (by decide)) ((Zi_n (by decide)).trans q1.2.2.2.2)).u77
    have hst : (DD mI).st (DD mI).Ps = [] := by
      have := d1.1.1
      rw [hmn] at this
      exact wkS_8 (fun e he => by cases he) this
    refine run81 hL hx hP bigN (m * 50000 + wK (DD mI) (DD mI).Ps + 0) _ ?_ hX7 (Or.inr (Or.inr ⟨0, (DD mI).Ps, m, (fun _ => (mI, [], 0, (fun _ => none), HA R S0 mI (DD mI) (DD mI).Ps, (fun u => u < 40 ∧ AL (DD mI) (DD mI).Ps u), LO R S0 (DD mI) (DD mI).Ps, fun _ _ _ => False)), (fun _ => 0), (fun _ => 0), hG, ⟨⟨d1, ⟨Nat.le_refl _, d4, d1.2.1.1⟩, d1.1.2.1, by rw [hst]; exact fun e r z => (by cases z), d2⟩, d6 _ (Nat.le_refl _) d4, hX7, ⟨Zi_s, ?_, ?_⟩, by decide, ⟨rfl, by rw [hst]; rfl, rfl, rfl, rfl, rfl⟩, ⟨(fun _ => 0), (fun _ _ => none), (fun _ => []), (fun _ => []), (fun _ => []), [], 0, ⟨kJ_ini rfl, ⟨fun j u hj => ⟨fun _ z => (by cases z), fun a z => ?_, fun _ => ⟨rfl, rfl, rfl⟩⟩, fun _ _ _ => ⟨rfl, rfl, rfl⟩, ⟨rfl, fun j hj => absurd hj (Nat.not_lt_zero j)⟩, fun j u d π _ _ _ z => (by cases z)⟩, ⟨fun a => ?_, fun q => ?_⟩, ?_⟩, fun r1 m1 z => (by rw [hst] at z; cases z), fun q1 r1 m1 v1 ρ1 _ z => (by rw [hst] at z; cases z)⟩, fun j _ => (by show wl [] ≤ 177; decide), d7⟩, fun j hj => absurd hj (Nat.not_lt_zero j), ⟨?_, by omega⟩, rfl⟩))
    · have := wK_m (k := (DD mI).Ps) d5
      unfold bigN
      omega
    · rw [hst]
      exact (Zi_n (by decide)).trans ((zi9 73 (by decide) (by decide)).trans h.2.2.2.2.1)
    · exact (Zi_n (by decide)).trans Zi_s
    · have z : u < 40 + 0 := z
      omega
    · have e0 : sm2 (fun r : Nat × Nat => cnN a ((fun _ => ([] : List Nat)) r) + cnN a ((fun _ => ([] : List Nat)) r)) = 0 := sm2_0
      rw [e0]
      unfold ind
      rw [if_neg (by omega)]; rfl
    · have e0 : sm2 (fun r : Nat × Nat => cnN q ((fun _ => ([] : List Nat)) r)) = 0 := sm2_0
      rw [e0]
      exact ⟨by omega, fun w => by omega⟩
    · exact ⟨(Zi_n (by decide)).trans ((zi9 64 (by decide) (by decide)).trans h.2.2.1), by decide, ⟨0, (Zi_n (by decide)).trans ((zi9 65 (by decide) (by decide)).trans h.2.2.2.1), rfl⟩, List.nodup_nil, fun n hn => by cases hn⟩
    · exact (Zi_n (by decide)).trans ((Zi_n (by decide)).trans Zi_s)
end PS108
end
-- m6.f.lean.txt
section
section PS109
variable {R : yR} {S0 Sl : Sg} {i P : Nat}
/-- a laid function: its data, its rows -/
theorem FnQ_D (hx : LX S0 Sl) (h11 : Zq S0 11 = Zq R.S 11) (hi : Zq R.S 11 i = some (R.ws i)) (hZ : ∀ a ∈ ZL R.S, a ∈ ZL S0) (hws : R.ws i ∈ ZL R.S) (hT : FnT R S0 i) (hQ : FnQ R S0 Sl P i) : ∃ D : fD, (FnD R S0 i D ∧ D.E.y = yT R S0 ∧ hFE R S0 D) ∧ (D.Ps < D.Pe ∧ D.Pe < 24000) ∧ (∀ k : Nat, D.Ps ≤ k → k < D.Pe → rzq R S0 Sl k (D.I k)) ∧ cRw R S0 Sl i D.mn D.Ps D.E.vt ∧ (D.E.hd = hdS R S0 ∧ D.E.rl = rlS R S0 ∧ D.E.lf = lfS R S0) ∧ ((hdS R S0 i).1 = D.mn ∧ (∀ q : Nat, q < D.mn → (hdS R S0 i).2.1 q = D.E.vt q) ∧ (hdS R S0 i).2.2 = D.E.gv) ∧ ∃ gv : Nat, D.E.gv = abT S0 gv ∧ xTy S0 gv := by
  obtain ⟨Λ, gv, mn, Ps, Pe, L0, L, I, st, W, rc, tv, mv, lv, H, ql, ⟨q1, q2, q3, q4, q5, q6⟩, ⟨q7, q8, fs2, q9, q10, q11⟩, q12, q13, _⟩ := hQ
  obtain ⟨fs, mn9, ta, pa, bl, va, b, gv9, f, fp, Λ9, ⟨_, t2, t3, t4, t5, t6, t7, t8⟩, t9, _, ⟨t11, _, t12⟩, _, t13, _⟩ := hT
  have hm : mn = mn9 := by
    rw [← q4]
    show fN (obF S0 (R.ws i)) 3 = mn9
    rw [obF_o t2, fN_i t3 (by omega)]
  subst hm
  obtain ⟨f2, e1, _, e2⟩ := (hx.1 _ (hZ _ hws)).2.fs t2
  have ef : f2 = fs2 := by
    have := e1.symm.trans q9
    exact (Prod.mk.inj (Sum.inr.inj this)).2
  subst ef
  have hE := q1
  refine ⟨(eVf R S0 Λ gv, (mn, Ps, Pe, L0, L), I, st, W, rc, tv, mv, lv, H, ql), ⟨q13, rfl, Λ, gv, rfl, hE⟩, ⟨q7, q8⟩, q12, ⟨f2, pa, 13, fp, ?_, ⟨(hx.1 _ (hZ _ hws)).1, e1, ?_, q11, ?_⟩, ⟨(hx.1 _ (hZ _ t11)).1, (hx.1 _ (hZ _ t11)).2.inl t12⟩, ⟨(show mn ≤ 13 by omega), by decide⟩, fun j hj => ?_⟩, ⟨rfl, rfl, rfl⟩, ⟨q4, fun q hq => (q5 q hq).1, q6⟩, gv, rfl, hE.2.2.2⟩
  · have hq := hx.2.2.2.2.1 11 (by unfold qpR; omega)
    rw [hq, h11]; exact hi
  · rw [e2 3 (by decide) (Or.inl (by decide))]; exact t3
  · rw [e2 17 (by decide) (Or.inl (by decide))]; exact t8
  · obtain ⟨v, x, nm, _, y2, y3, y4⟩ := t13 j hj
    obtain ⟨x9, w1, w2⟩ := t9.2.2 j hj
    rw [y3] at w1
    obtain rfl := Option.some.inj w1
    refine ⟨v, x, 0, y2, isU.st hx ⟨y4.1, nm, _, y4.2⟩, w2, ?_⟩
    show abT S0 x = (eVf R S0 Λ gv).vt j
    rw [← (q5 j hj).1]
    show _ = (match rN (obF S0 (R.ws i)) 10 with
      | some ta => abU S0 (roQ S0 ta j)
      | none => 0)
    rw [obF_o t2, rN_r t5]
    show _ = abU S0 (roQ S0 ta j)
    rw [roQ_o t9.2.1, y3]; rfl
end PS109
end
-- m6.g.lean.txt
section
section PS110
variable {R : yR} {S0 Sl : Sg} {P : Nat}
theorem gv9_ (hY : YK R S0) {gv : Nat} (h : xTy S0 gv) (hn : ¬ isRf (abT S0 gv)) : eU (abT S0 gv) = (0, abT S0 gv, 0) ∧ eT (abT S0 gv) = (0, abT S0 gv, 0) := by
  have h4 : abT S0 gv < 10000 := by
    rcases h with h | h
    · rcases h.nm hY with ⟨_, _, _, z9⟩ | ⟨_, _, _, _, z9, _⟩
      · refine Nat.lt_of_not_le (fun c => ?_)
        unfold eT at z9
        rw [if_pos c] at z9
        by_cases c2 : abT S0 gv % 2 = 0
        · rw [if_pos c2] at z9; cases z9
        · rw [if_neg c2] at z9; cases z9
      · exact absurd z9 hn
    · obtain ⟨t, _, _, _, a, b⟩ := abV_is hY h
      rw [b, if_neg (by decide), if_neg (by decide), a]
      show (0 : Nat) < 10000
      decide
  unfold eU eT
  rw [if_neg (by omega), if_neg (by omega)]
  exact ⟨rfl, rfl⟩
/-- a laid program: all its functions -/
theorem prg9_ (hD : RDI R) (hY : YK R S0) (hx : LX S0 Sl) (h11 : Zq S0 11 = Zq R.S 11) (hZ : ∀ a ∈ ZL R.S, a ∈ ZL S0) (hws : ∀ i : Nat, i < R.im → R.ws i ∈ ZL R.S) (hFT : ∀ i : Nat, i < R.im → R.ik i = 12 → FnT R S0 i) (hQ : ∀ j : Nat, j < R.im → R.ik j = 12 → FnQ R S0 Sl P j) : ∃ DD : Nat → fD, PRG R S0 Sl (fun i => (DD i).E.vt) (fun i => tbD (DD i)) DD (fun i => i < R.im ∧ R.ik i = 12) ∧ ∀ i : Nat, i < R.im → R.ik i = 12 → (hdS R S0 i).1 = (DD i).mn := by
  have key : ∀ i : Nat, ∃ D : fD, i < R.im ∧ R.ik i = 12 → (FnD R S0 i D ∧ D.E.y = yT R S0 ∧ hFE R S0 D) ∧ (D.Ps < D.Pe ∧ D.Pe < 24000) ∧ (∀ k : Nat, D.Ps ≤ k → k < D.Pe → rzq R S0 Sl k (D.I k)) ∧ cRw R S0 Sl i D.mn D.Ps D.E.vt ∧ (D.E.hd = hdS R S0 ∧ D.E.rl = rlS R S0 ∧ D.E.lf = lfS R S0) ∧ ((hdS R S0 i).1 = D.mn ∧ (∀ q : Nat, q < D.mn → (hdS R S0 i).2.1 q = D.E.vt q) ∧ (hdS R S0 i).2.2 = D.E.gv) ∧ ∃ gv : Nat, D.E.gv = abT S0 gv ∧ xTy S0 gv := fun i => by
    by_cases c : i < R.im ∧ R.ik i = 12
    · obtain ⟨D, hDD⟩ := FnQ_D hx h11 (hD.2.2.2.2 i c.1).1 hZ (hws i c.1) (hFT i c.1 c.2) (hQ i c.1 c.2)
      exact ⟨D, fun _ => hDD⟩
    · exact ⟨((yT R S0, fun _ => 0, fun _ => (0, fun _ => 0, 0), 0, fun _ _ => 0, fun _ => 0, fun _ => 0), (0, 0, 0, 0, 0), fun _ => (0, 0, none, (none, none), ([], []), [], (0, 0, 0), []), fun _ => [], fun _ => True, fun _ => 0, fun _ => 0, fun _ => 0, fun _ => 0, fun _ _ => 0, fun _ => 0), fun w => absurd w c⟩
  obtain ⟨DD, hDD⟩ := Classical.skolem.mp key
  refine ⟨DD, fun i hi => ?_, fun i h1 h2 => ((hDD i ⟨h1, h2⟩).2.2.2.2.2.1).1⟩
  obtain ⟨d1, d2, d3, d4, ⟨d5, d6, d7⟩, d8, gv, d9, d10⟩ := hDD i hi
  refine ⟨d1, d2, d3, ⟨rfl, rfl⟩, d4, fun hn => ?_, fun k hk1 hk2 h10 => ?_⟩
  · rw [d9] at hn ⊢
    exact gv9_ hY d10 hn
  · obtain ⟨g1, g2⟩ := (d3 k hk1 hk2).2.2.2.2.2.2.2.2.2.2.2.2.2 h10
    have hG : ((DD i).I k).n1 < R.im ∧ R.ik ((DD i).I k).n1 = 12 := ⟨g2, g1⟩
    obtain ⟨_, _, _, _, _, ⟨e1, e2, e3⟩, _⟩ := hDD _ hG
    refine ⟨hG, ?_⟩
    unfold cLk
    rw [d5, d6, d7]
    exact ⟨e1, e2, e3, rfl, fun _ => rfl⟩
end PS110
end
-- m6.h.lean.txt
section
section PS111
variable {R : yR} {S0 S S1 S2 Sl : Sg} {nv fu : Nat}
theorem LX.unr (h : LX S0 (rst S)) : LX S0 S := ⟨h.1, fun j a b c d => (rst_z b c d.1).symm.trans (h.2.1 j a b c d), h.2.2.1, h.2.2.2.1, h.2.2.2.2.1, h.2.2.2.2.2.1, h.2.2.2.2.2.2.1, h.2.2.2.2.2.2.2⟩
/-- the reference between two calls -/
def s51 (K : Ky) (S : Sg) : Prop := ∀ u : Nat, u < 256 → Zq S 51 u = none ∨ ∃ (a : Nat) (f : Nat → Int32), Zq S 51 u = some a ∧ a ∈ ZL S ∧ ZF S a = .inl (K.1 0, 1, .inl f) ∧ f 0 = nI u
def mS (K : Ky) (S : Sg) : Prop := wq S ∧ (∃ c : Nat, c ≤ 60 ∧ Zi S 86 = nI c) ∧ (∃ h : Nat, h ≤ 4000 ∧ Zi S 66 = nI h) ∧ s51 K S ∧ ∀ a ∈ ZL S, a < Zz S
/-- a run's end: at most z cells, n slots came -/
def rE9 (K : Ky) (S1 : Sg) (z n : Nat) (S2 : Sg) : Prop := mS K S2 ∧ Zi S2 1 = Zi S1 1 ∧ Zz S2 ≤ Zz S1 + z ∧ Zn S2 ≤ Zn S1 + n
theorem mS.ui {K : Ky} {k : Nat} {v : Int32} (h : mS K S) (hk : k = 88 ∨ k = 71 ∨ k = 3 ∨ k = 4) : mS K (Ui S k v) := ⟨h.1.eq (Zi_n (by omega)) (Zi_n (by omega)), by obtain ⟨c, a, b⟩ := h.2.1; exact ⟨c, a, (Zi_n (by omega)).trans b⟩, by obtain ⟨c, a, b⟩ := h.2.2.1; exact ⟨c, a, (Zi_n (by omega)).trans b⟩, h.2.2.2.1, h.2.2.2.2⟩
theorem rE9.ui {K : Ky} {k z n : Nat} {v : Int32} (h : rE9 K S1 z n S) (hk : k = 88 ∨ k = 71 ∨ k = 3 ∨ k = 4) : rE9 K S1 z n (Ui S k v) := ⟨h.1.ui hk, (Zi_n (by omega)).trans h.2.1, h.2.2.1, h.2.2.2⟩
theorem run120 {K : Ky} {z n : Nat} (h : rE9 K S1 z n S) : Rt (f_run_120 K S) (fun S2 _ => rE9 K S1 z n S2) := Rt.bd (v := Ui S 71 (Zi S 70)) rfl (Rt.rt (h.ui (by decide)))
/-- behind a fault -/
theorem run90b {K : Ky} {z n : Nat} (h3 : ¬ Zi S 3 = 0) (h : rE9 K S1 z n S) : Rt (f_run_90 K S) (fun S2 _ => rE9 K S1 z n S2) := by
  unfold f_run_90
  refine Rt.ok (fun w => absurd w h3) (fun _ => ?_)
  unfold f_run_106
  refine Rt.bd (v := Ui S 88 (Zi S 4)) rfl ?_
  exact Rt.ok (fun w => absurd ((Zi_n (by decide)).symm.trans w) h3) (fun _ => run120 (h.ui (by decide)))
theorem flS_rE9 {K : Ky} {z n : Nat} {wh x : Int32} (h : rE9 K S1 z n S) : rE9 K S1 z n (flS S wh x) := by
  unfold flS
  by_cases q : Zi S 3 = 0
  · rw [if_pos q]; exact (h.ui (by decide)).ui (by decide)
  · rw [if_neg q]; exact h
/-- laying and running -/
theorem lyr_ (hK : yRm R) (hD : RDI R) (hT : R.T ≤ 3001) (hpT : R.ps R.im < R.T) (hp : R.ps R.im ≤ 1990) (hzs : R.zs ≤ 1300) (hnv : nv ≤ 10) (h : TYF R nv S0) (h3 : Zi S0 3 = 0) (h51 : s51 R.K S0) (hq : wq S0) (h86 : ∃ c : Nat, c ≤ 60 ∧ Zi S0 86 = nI c) (h66 : ∃ h : Nat, h ≤ 4000 ∧ Zi S0 66 = nI h) (hfu : Zi S0 70 = nI fu) (hfu2 : fu ≤ 20000) : Rt (bnd (f_layAll R.K S0) fun S9 _ => f_run_90 R.K S9) (fun S2 _ => rE9 R.K S0 (20 * R.zs + 40 * R.im) (60 * R.zs + 100 * R.im) S2) := by
  have h0 := h
  obtain ⟨hE, ⟨g, hL⟩, hFT, hM, hz, h12⟩ := enb_ hD hT hp h h3
  obtain ⟨c2, nv2, t1, t2, hS, t4⟩ := h
  obtain ⟨bw, hB, hb⟩ := bw_ hS
  have him := hD.1
  have hb2 := hb (R.ps R.im) hpT
  have hTS := hS
  obtain ⟨G, tm, Y, ad, s1, s2, s3, _⟩ := hS
  have htm : tm ≤ 2000 := by have := ptN_ge (Y := Y) (tm := tm); omega
  have hz1 := s1.2.2.2.2.1
  have hz2 := s1.2.2.2.2.2.1
  have hk1 := hK.1
  have hk2 := hK.2.1
  have hZ : ∀ a ∈ ZL R.S, a ∈ ZL S0 := fun a ha => hTS.L ha
  have hws : ∀ i : Nat, i < R.im → R.ws i ∈ ZL R.S := fun i hi => by
    obtain ⟨_, k2, _, _, k5⟩ := hD.2.2.2.2 i hi
    exact k5 _ k2.1
  refine Rt.bn (lyA_ hE hL hFT hB (fun i j a b => (hD.2.2.1 i j a b).1) hD.2.2.2.1 (fun i hi hk => ?_) (fun i j hi hj hne => hD.wi hi hj hne) h12 (by omega) ⟨by omega, by omega⟩ (lc0 h51 hz) h3) (fun S2 _ q => ?_)
  · obtain ⟨_, k2, _⟩ := hD.2.2.2.2 i hi
    have := k2.2.1
    omega
  -- what the laying leaves for the calls
  have hmE : ∀ (S3 : Sg) (P : Nat), LC R S0 (rst S3) P 0 [] 0 → Zz S3 ≤ Zz S0 + (20 * (bw (R.ps R.im) - bw (R.ps 0)) + 40 * R.im) → Zn S3 ≤ Zn S0 + (60 * (bw (R.ps R.im) - bw (R.ps 0)) + 100 * R.im) → rE9 R.K S0 (20 * R.zs + 40 * R.im) (60 * R.zs + 100 * R.im) S3 := fun S3 P c z1 z2 => by
    have hx := LX.unr c.1
    have e := fun j a b c d => hx.2.1 j a b c d
    refine ⟨⟨hq.eq (e 83 (by decide) (by decide) (by decide) (by decide)) (e 84 (by decide) (by decide) (by decide) (by decide)), ?_, ?_, c.2.2.2.2.2.1.1, c.2.2.2.2.2.2.2⟩, e 1 (by decide) (by decide) (by decide) (by decide), by omega, by omega⟩
    · obtain ⟨a, b, d⟩ := h86
      exact ⟨a, b, (e 86 (by decide) (by decide) (by decide) (by decide)).trans d⟩
    · obtain ⟨a, b, d⟩ := h66
      exact ⟨a, b, (e 66 (by decide) (by decide) (by decide) (by decide)).trans d⟩
  rcases q with ⟨q3, ⟨P, c, hQ⟩, z1, z2⟩ | ⟨S3, wh, x, P, hw, c, q3, z1, z2, e⟩
  · have hx := LX.unr c.1
    have hm := hmE S2 P c z1 z2
    obtain ⟨DD, hP, hd⟩ := prg9_ hD hL.1 hx hL.2.2.2.1 hZ hws hFT hQ
    obtain ⟨mI, fs, gv, m1, m2, m3, m4, m5, _⟩ := hM
    have hmn : (DD mI).mn = 0 := by
      rw [← hd mI m1 m3]
      show fN (obF S0 (R.ws mI)) 3 = 0
      rw [obF_o m4]
      exact fN_i (n := 0) m5 (by decide)
    have e := fun j a b c d => hx.2.1 j a b c d
    unfold f_run_90
    refine Rt.ok (fun _ => ?_) (fun w => absurd q3 w)
    unfold f_run_106
    refine Rt.bd (v := Ui S2 88 (-1)) rfl ?_
    refine Rt.ok (fun _ => ?_) (fun w => absurd ((Zi_n (by decide)).trans q3) w)
    obtain ⟨f, l, w1, w2, w3, w4⟩ := hm.1.1
    refine Rt.bn (rmn_ (Sl := S2) (S1 := Ui S2 88 (-1)) hL hx hP ⟨m1, m3⟩ hmn ⟨rfl, rfl, ⟨rfl, rfl⟩, rfl, rfl, fun _ _ => rfl, fun _ _ => rfl, fun j hj _ => Zi_n (by omega)⟩ ((Zi_n (by decide)).trans ((e 21 (by decide) (by decide) (by decide) (by decide)).trans m2)) (by omega) ((Zi_n (by decide)).trans ((e 70 (by decide) (by decide) (by decide) (by decide)).trans hfu)) hfu2 (hm.1.1.eq (Zi_n (by decide)) (Zi_n (by decide))) (by obtain ⟨a, b, d⟩ := hm.1.2.1; exact ⟨a, b, (Zi_n (by decide)).trans d⟩) (by obtain ⟨a, b, d⟩ := hm.1.2.2.1; exact ⟨a, b, (Zi_n (by decide)).trans d⟩)) (fun S4 _ r => ?_)
    refine run120 ?_
    obtain ⟨⟨r1, r2, ⟨r3, r4⟩, r5, _, _, _, r8⟩, r9, r10, r11, _⟩ := r
    refine ⟨⟨r9, r10, r11, fun u hu => ?_, fun a ha => ?_⟩, (r8 1 (by decide) (by decide)).trans hm.2.1, by rw [r3]; exact hm.2.2.1, by rw [r4]; exact hm.2.2.2⟩
    · rw [r1, r2, r5]; exact hm.1.2.2.2.1 u hu
    · rw [r1] at ha; rw [r3]; exact hm.1.2.2.2.2 a ha
  · rw [e]
    exact run90b (flS_n0 (by rcases hw with w | w <;> rw [w] <;> decide)) (flS_rE9 (hmE S3 P c z1 z2))
end PS111
end
