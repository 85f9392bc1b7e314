/-- the stack where an arm begins -/
def xkO (cd : Nat) (E : eV) (js : List Nat) (i bd g : Nat) (x : List tE) : Prop := (bd = 0 ∧ x = (3, (4 + i) * 12 + g, 1) :: mkV js) ∨ (bd ≠ 0 ∧ ((E.y.2.2.2.1 (4 + i) g = 0 ∧ x = mkV js) ∨ (0 < E.y.2.2.2.1 (4 + i) g ∧ x = (if bd = 1 then 5 else 6, i * 12 + g, 64 * cd) :: mkV js)))
/-- k arms are laid -/
def MtS (cd : Nat) (R : yR) (S0 Sb Sx : Sg) (E : eV) (m : Nat) (Γ : List Nat) (L : Nat) (js : List Nat) (bw : Nat → Nat) (p i bd e ta mn z0 n0 : Nat) (f : Nat → Option Nat) (vf ps bs vs : Nat → Nat) (x : pRc) (S1 : Sg) (k : Nat) : Prop := ∃ (Pk Lk z n : Nat) (A J bk : Nat → Nat) (xk : Nat → List tE) (fe ft : Nat → Int32), FRM R S0 Sb S1 m Pk 0 Γ L Lk z n ∧ LX Sx S1 ∧ AT S1 m x ∧ ArS R S0 S1 E Lk js p m Pk k A J xk bk ∧ (PVc R S0 S1 (m + 1) Pk e mn fe ∧ PVc R S0 S1 (m + 1) Pk ta mn ft) ∧ (∀ j : Nat, j < k → fe j = nI (J j) ∧ ft (vf j) = nI (A j) ∧ xkO cd E js i bd (vf j) (xk j) ∧ ∃ (y : Nat) (ys : List Value), f j = some y ∧ ZF S0 y = .inr (13, ys) ∧ ys[5]? = some (.ref (bk j))) ∧ K0 S1 Pk ∧ m + 1 ≤ Pk ∧ Pk ≤ m + 1 + 8 * (bw (ps k) - bw (ps 0)) ∧ z ≤ z0 + 20 * (bw (ps k) - bw (ps 0)) ∧ n ≤ n0 + 60 * (bw (ps k) - bw (ps 0)) ∧ Lk + bs 0 + vs 0 ≤ L + bs k + vs k
section LY42
variable {R : yR} {S0 Sb Sx S S1 S2 S3 : Sg} {P P1 P2 P3 Pe h h0 h1 h2 hc L L1 L2 Le Lb z n z2 n2 : Nat} {Γ Γ0 Γ1 Γ2 Λ : List Nat} {E : eV} {s s1 s2 yD : List tE} {gv : Nat} {js ks us : List Nat} {bw : Nat → Nat} {V : Sg → Option Nat → Option (Sg × Unit)} {p m mn i : Nat} {x : pRc}
theorem vs_g {mk v q : Nat} (h : ((List.range mk).map (fun j => v + j))[q]? = some n) : q < mk ∧ n = v + q := by
  rw [List.getElem?_map] at h
  by_cases e : q < mk
  · rw [List.getElem?_range e] at h; exact ⟨e, (Option.some.inj h).symm⟩
  · rw [List.getElem?_eq_none (by rw [List.length_range]; omega)] at h; cases h
/-- an arm's value is bound -/
theorem bnd_ {y g mk va pa bk : Nat} {tx : Nat → Nat} {na : Nat} {fv : Nat → Option Nat} {gq : Sg → Option (Sg × Unit)} {Q : Sg → Unit → Prop} (hF : FEn R S0 E Λ gv) (c : LC R S0 S P 0 Γ L) (hy : y ∈ ZL R.S) (hyF : ZF S0 y = .inr (13, [.int (nI pa), .int (nI g), .ref na, .int (nI mk), .ref (y + 2), .ref bk])) (hpa : pa < R.T) (hy2 : y + 2 ∈ ZL R.S) (hFv : ZF S0 (y + 2) = .inl (R.K.1 5, 12, .inr (.inr (.inr (.inr fv))))) (hen : enY R S0 i g mk tx) (hv : ∀ i ∈ js, i < va) (hv40 : va + mk ≤ 40) (hvs : ∀ j : Nat, j < mk → ∃ (u ty : Nat) (nm : Int32), fv j = some u ∧ Λ[va + j]? = some u ∧ isV S0 u (va + j) nm (some ty) 0 ∧ ty = tx j) (hP : P < 24000) (k : ∀ S2 : Sg, GV R S0 S S2 E P (P + 1) 0 0 Γ Γ L L ((3, (4 + i) * 12 + g, 1) :: mkV js) (mkV (ksV va mk ++ js)) False 0 0 → Rt (gq S2) Q) : Rt ((oI S 13 (some y) 0).bind fun v38 =>
    bnd (f_point R.K S 22 v38) fun S39 v40 =>
    (wQ S39 13 41 v40 (some y)).bind gq) Q := by
  have hL := hF.1.1
  have hY := hF.1.2.1
  have hEy := hF.1.2.2.2.2.1
  obtain ⟨f1, f2, f3, f4, f5, f6⟩ := hen.y hY
  have him : i < R.im := by obtain ⟨_, _, _, _, _, _, w, _⟩ := hen; exact w
  have hi70 : i < 70 := by have := hY.2.1; omega
  refine Rt.bd (c.1.vi (by decide) (by decide) (oI_mk (hL y hy) hyF rfl)) ?_
  refine pnt_ (Lb := L) (Sb := S) (z := 0) (n := 0) hP c LZ.rf (Nat.le_refl _) (by omega) (by omega) UsK.rf (fun S1 p1 e1 => ?_)
  obtain ⟨y1, y2⟩ := p1.1.1.ob (hL y hy) hyF (by decide) (by decide)
  refine p1.wO hP (by decide) (okO_mk y1 y2) (Or.inl (by decide)) (fun S2 p2 e2 => k S2 ?_)
  obtain ⟨y3, y4⟩ := p2.1.1.ob (hL y hy) hyF (by decide) (by decide)
  obtain ⟨r1, r2⟩ := p2.1.1.ro (hL _ hy2) hFv
  have hlen : ((List.range mk).map (fun j => va + j)).length = mk := by rw [List.length_map, List.length_range]
  have hw0 : wl ((3, (4 + i) * 12 + g, 1) :: mkV js) = 1 := by
    rw [wl_n (by show ¬ ((3 : Nat) = 8 ∨ (3 : Nat) = 4 ∨ (3 : Nat) = 5 ∨ (3 : Nat) = 6); decide), wl_mk]
  refine gv0 (K := 22) (pp := pa) (n1 := i) (n2 := g) (n3 := 0) (vs := (List.range mk).map (fun j => va + j)) (by decide) (by decide) p2 ⟨rfl, rfl, rfl, rfl, rfl, rfl, rfl, rfl, rfl⟩ hpa (fun w => absurd w (by decide)) (fun w => absurd w (by decide)) (fun w => absurd w (by decide)) (fun w => absurd w (by decide)) (fun _ => ⟨y, na, y + 2, bk, nI pa, nI g, fv, rfl, y3, by rw [hlen]; exact y4, r1, r2, by rw [hlen]; exact f5, fun j v e => ?_⟩) (fun w => absurd w (by decide)) (by rw [hw0]; omega) (tP_22 rfl ⟨iD0_0, mkV js, rfl, wl_mk, hi70, ?_, ?_, ?_, ?_, ?_, fun a b v ea eb => ?_, fun q v e => ?_, rfl, ?_⟩)
  · obtain ⟨j1, rfl⟩ := vs_g e
    obtain ⟨u, ty, nm, u1, u2, u3, u4⟩ := hvs j j1
    obtain ⟨wh, w1, w2, _⟩ := p2.1.2.2.2.2.2.2.1 u (va + j) nm (some ty) 0 u3
    refine ⟨u, ty, 0, u1, ⟨w1, nm, wh, w2⟩, ?_, ?_⟩
    · rw [u4]; exact Or.inl (f6 j j1).2
    · rw [u4]
      show abT S0 (tx j) = yQ R S0 (4 + i) g j
      rw [(f6 j j1).1, ((f6 j j1).2.nm hY).2.2]
  · show g < 12; omega
  · rw [hEy]; exact f1
  · rw [hEy]; show g < fN (obF S0 (R.ws (4 + i - 4))) 3; rw [show 4 + i - 4 = i by omega]; exact f2
  · show ((List.range mk).map (fun j => va + j)).length = _
    rw [hlen, hEy]; exact f4.symm
  · show ((List.range mk).map (fun j => va + j)).length ≤ 12
    rw [hlen]; exact f5
  · obtain ⟨_, e1⟩ := vs_g ea
    obtain ⟨_, e2⟩ := vs_g eb
    omega
  · obtain ⟨j1, rfl⟩ := vs_g e
    obtain ⟨u, ty, nm, u1, u2, u3, u4⟩ := hvs q j1
    obtain ⟨_, nm2, mu2, ty2, hV2, hvt2, _⟩ := hF.2.1 (va + q) u u2
    have ety : ty2 = some ty := by obtain ⟨_, _, w, _⟩ := isV_u hV2 u3 (by omega) (by omega); exact w
    refine ⟨by omega, fun w => ?_, ?_⟩
    · have := hv _ (mkV_m w); omega
    · show E.vt (va + q) = E.y.2.2.2.2 (4 + i) g q
      rw [hvt2, ety, hEy, u4]
      show abT S0 (tx q) = yQ R S0 (4 + i) g q
      rw [(f6 q j1).1, ((f6 q j1).2.nm hY).2.2]
  · show wkS (((List.range mk).map (fun j => va + j)).reverse.map (fun v => (8, v, 0)) ++ mkV js) _
    rw [ksV_rev, mkV_ap]; exact wkS.rf
/-- the arms one behind the other -/
theorem lma142 {a xe ar px cap w9 va9 ix tv xt bd nn m9 e ta z0 n0 : Nat} {mu rf : Int32} {x2 : Option Nat} {ρ : List (Nat × Nat)} {f : Nat → Option Nat} {vf ps bs vs : Nat → Nat} {Q : Sg → Unit → Prop} (hF : FEn R S0 E Λ gv) (hB : BWt R bw) (hV : LbV R S0 E Λ gv bw V nn) (hm : m9 ≤ nn) (hM : MtH R S0 a xe ar px p mn mu rf) (hmn : mn ≤ 12) (har : ar ∈ ZL R.S) (hFa : ZF S0 ar = .inl (R.K.1 7, cap, .inr (.inr (.inr (.inr f))))) (hmc : mn ≤ cap) (hG : GJ Λ Γ js) (hv : ∀ i ∈ js, i < vs 0) (hw : vs mn ≤ 40) (hq : ps mn ≤ R.T) (hel : ∀ k : Nat, k < mn → ∃ y : Nat, f k = some y ∧ sN R S0 Λ gv (m9 + 1) 2 y (ps k) (ps (k + 1)) (bs k) (bs (k + 1)) (vs k) (vs (k + 1)) Γ Γ (i, vf k, bd)) (hij : ∀ k j : Nat, k < mn → j < mn → vf k = vf j → k = j) (hvf : ∀ k : Nat, k < mn → vf k < mn) (hmo : ∀ i j : Nat, i ≤ j → j ≤ mn → ps i + (j - i) ≤ ps j ∧ bs i ≤ bs j ∧ vs i ≤ vs j) (hP : m + 1 + 8 * (bw (ps mn) - bw (ps 0)) < 24000) (hl : L + bs mn + vs mn ≤ 160 + bs 0 + vs 0) (hr : RMl R Sb (z0 + 20 * (bw (ps mn) - bw (ps 0))) (n0 + 60 * (bw (ps mn) - bw (ps 0)))) (hbd : (rf = 0 ∧ bd = 0) ∨ (rf = 1 ∧ ((mu = 0 ∧ bd = 1) ∨ (mu = 1 ∧ bd = 2)) ∧ x2 = some w9 ∧ PlF bd R S0 Sx E js w9 va9 ix tv xt i ρ)) (heb : e ∉ ZL Sb ∧ ta ∉ ZL Sb ∧ e ∉ ZL Sx ∧ ta ∉ ZL Sx ∧ ta ≠ e) (h42 : x.2.2 42 = some ta)
  (kf : ∀ (S2 : Sg) (Pe Le z n : Nat) (A J bk : Nat → Nat) (xk : Nat → List tE) (ft : Nat → Int32), FRM R S0 Sb S2 m Pe 0 Γ L Le z n → LX Sx S2 → AT S2 m x → ArT R S0 S2 E Le js p m Pe mn mn A J xk bk → (ta ∈ ZL S2 ∧ ZF S2 ta = .inl (R.K.1 0, mn, .inl ft)) → (∀ j : Nat, j < mn → ft (vf j) = nI (A j) ∧ xkO (cdP ix ρ) E js i bd (vf j) (xk j) ∧ ∃ (y : Nat) (ys : List Value), f j = some y ∧ ZF S0 y = .inr (13, ys) ∧ ys[5]? = some (.ref (bk j))) → K0 S2 Pe → Pe ≤ m + 1 + 8 * (bw (ps mn) - bw (ps 0)) → z ≤ z0 + 20 * (bw (ps mn) - bw (ps 0)) → n ≤ n0 + 60 * (bw (ps mn) - bw (ps 0)) → Le + bs 0 + vs 0 ≤ L + bs mn + vs mn → Q S2 ()) : ∀ (d k : Nat) (S1 : Sg), mn < k + d → k ≤ mn → MtS (cdP ix ρ) R S0 Sb Sx E m Γ L js bw p i bd e ta mn z0 n0 f vf ps bs vs x S1 k → Rt (f_layMatch_142 R.K V d S1 (some a) x2 (nI m) (some e) (nI k)) Q
  | 0, k, S1, h1, h2, _ => by omega
  | d + 1, k, S1, h1, h2, hS => by
    have hL := hF.1.1
    have hM2 := hM
    obtain ⟨ha9, k1, hpT, _⟩ := hM2
    obtain ⟨Pk, Lk, z, n, A, J, bk, xk, fe, ft, F, hx, hat, q, ⟨ve, vt⟩, hj, kk, c0, c1, c2, c3, c4⟩ := hS
    have hm0 := hmo 0 k (Nat.zero_le _) h2
    have hmk := hmo k mn h2 (Nat.le_refl _)
    have wa := hB.mo (p := ps 0) (q := ps k) (by omega) (by omega)
    have wb := hB.mo (p := ps k) (q := ps mn) (by omega) (by omega)
    unfold f_layMatch_142
    refine Rt.bd (F.1.1.vi (by decide) (by decide) (oI_mk (hL a ha9) k1 (v := nI mn) rfl)) (Rt.it (fun w => ?_) (fun w => ?_))
    · have : mn ≤ k := (nI_leI (by omega) (by omega)).mp w
      obtain rfl : k = mn := by omega
      exact lma308 hL hM hmn (by omega) (fun j hj2 => (hj j hj2).1) (fun S2 F2 hx2 a2 q2 t2 k2 => kf S2 Pk Lk z n A J bk xk ft F2 hx2 a2 q2 t2 (fun j hj2 => (hj j hj2).2) k2 c1 c2 c3 c4) bigN 0 S1 (by unfold bigN; omega) (Nat.zero_le _) F hx hat q.t ⟨ve.1, ve.2.1⟩ ⟨vt.1, vt.2.1⟩ kk
    · have hlt : k < mn := by
        by_cases q : k < mn
        · exact q
        · exact absurd (nI_le (a := mn) (b := k) (by omega) (by omega)) w
      obtain ⟨y, y1, ys⟩ := hel k hlt
      have hsl := sN_lt ys
      obtain ⟨⟨hy, _, _⟩, na, bk9, mk, p', fv, tx, us, e1, e2, e3, e4, e5, e6, e7, e8, e9, l1⟩ := ys
      have e1 : ZF S0 y = .inr (13, [.int (nI (ps k)), .int (nI (vf k)), .ref na, .int (nI mk), .ref (y + 2), .ref bk9]) := e1
      have hmk1 := hmo (k + 1) mn hlt (Nat.le_refl _)
      have hmk2 := hmo k (k + 1) (by omega) hlt
      have wc := hB.mo (p := ps k) (q := ps (k + 1)) (by omega) (by omega)
      have wd := hB.mo (p := ps (k + 1)) (q := ps mn) (by omega) (by omega)
      have hmo9 := sN_mo l1
      obtain ⟨r1, r2⟩ := F.1.1.ro (hL ar har) hFa
      have h42' : Zq S1 42 m = some ta := (hat.2.2 42 (by decide) (by decide)).trans h42
      have hvk : ∀ j ∈ js, j < vs k := fun j hj => by have := hv j hj; omega
      refine Rt.bd (F.1.1.vr (by decide) (by decide) (oR_mk (hL a ha9) k1 (v := some ar) rfl)) (Rt.bd (aQ_j r1 r2 (by omega) (by omega)) ?_)
      rw [y1]
      refine Rt.bd (by rw [rQ_n (show m < rlen 42 from by show m < 24000; omega) (by decide), h42']) ?_
      refine Rt.bd (F.1.1.vi (by decide) (by decide) (oI_mk (hL y hy) e1 (v := nI (vf k)) rfl)) ?_
      have eP : Zi S1 26 = nI Pk := F.1.2.1
      have eG : Zi S1 50 = nI js.length := by rw [← hG.len]; exact F.1.2.2.2.1.1
      rw [eP, eG]
      refine Rt.bd (bI_n vt.1 vt.2.1 (hvf k hlt) (by omega)) ?_
      -- the row of targets is written
      have F2 : FRM R S0 Sb (UF S1 ta (.inl (R.K.1 0, mn, .inl (upd ft (vf k) (nI Pk))))) m Pk 0 Γ L Lk z n := F.uF2 vt heb.2.1
      have hx2 : LX Sx (UF S1 ta (.inl (R.K.1 0, mn, .inl (upd ft (vf k) (nI Pk))))) := hx.uF heb.2.2.2.1
      have q2 := q.uF (cc := .inl (R.K.1 0, mn, .inl (upd ft (vf k) (nI Pk)))) vt
      have vt2 : PVc R S0 (UF S1 ta (.inl (R.K.1 0, mn, .inl (upd ft (vf k) (nI Pk))))) (m + 1) Pk ta mn (upd ft (vf k) (nI Pk)) := vt.uF
      have ve2 : PVc R S0 (UF S1 ta (.inl (R.K.1 0, mn, .inl (upd ft (vf k) (nI Pk))))) (m + 1) Pk e mn fe := ve.uO heb.2.2.2.2
      have hat2 : AT (UF S1 ta (.inl (R.K.1 0, mn, .inl (upd ft (vf k) (nI Pk))))) m x := hat.sm rfl rfl rfl
      have kk2 : K0 (UF S1 ta (.inl (R.K.1 0, mn, .inl (upd ft (vf k) (nI Pk))))) Pk := kk
      generalize UF S1 ta (.inl (R.K.1 0, mn, .inl (upd ft (vf k) (nI Pk)))) = S2 at F2 hx2 q2 vt2 ve2 hat2 kk2
      have rm2 : RMl R S2 (20 * (bw (ps (k + 1)) - bw (ps k))) (60 * (bw (ps (k + 1)) - bw (ps k))) := F2.rm hr (by omega) (by omega)
      -- behind the arm
      have hnx : ∀ (x0 : List tE), xkO (cdP ix ρ) E js i bd (vf k) x0 → ∀ (S4 : Sg) (Pj L4 z4 n4 : Nat), ArQ R S0 S2 E Pk Γ Lk js bw p (ps k) (ps (k + 1)) (bs k) (bs (k + 1)) (vs k) (vs (k + 1)) x0 bk9 S4 Pj L4 z4 n4 → Rt ((bI R.K S4 (some e) (nI k) (nI Pj)).bind fun S54 => f_layMatch_142 R.K V d S54 (some a) x2 (nI m) (some e) (nI k + 1)) Q := fun x0 hx0 S4 Pj L4 z4 n4 hQ => by
        obtain ⟨G, g2, g3, g4, g5, g6, g7, g8, g9⟩ := hQ
        have ve4 := ve2.fr G
        have vt4 := vt2.fr G
        have hLk : Lk ≤ L4 := G.2.2.2.2.2.1
        refine Rt.bd (bI_n ve4.1 ve4.2.1 hlt (by omega)) ?_
        rw [nI_1]
        have hat4 : AT S4 m x := by
          have hk := G.2.1.2.1 m (by omega)
          exact ⟨fun r h1 h2 h3 => (hk.1 r h1 h2).trans (hat2.1 r h1 h2 h3), hk.2.1.trans hat2.2.1, fun r h1 h2 => (hk.2.2 r h1 h2).trans (hat2.2.2 r h1 h2)⟩
        have q4 := (q2.st G.2.1 hLk).add g2 g4 g3
        have q5 := q4.uF (cc := .inl (R.K.1 0, mn, .inl (upd fe k (nI Pj)))) ve4
        refine lma142 hF hB hV hm hM hmn har hFa hmc hG hv hw hq hel hij hvf hmo hP hl hr hbd heb h42 kf d (k + 1) _ (by omega) (by omega) ⟨Pj + 1, L4, z + z4, n + n4, _, _, _, _, upd fe k (nI Pj), upd ft (vf k) (nI Pk), (F2.tr G).uF2 ve4 heb.1, (hx2.tr G.2.1.1).uF heb.2.2.1, hat4.sm rfl rfl rfl, q5, ⟨ve4.uF, vt4.uO (fun w => heb.2.2.2.2 w.symm)⟩, fun j hj2 => ?_, g9, by omega, by omega, by omega, by omega, by omega⟩
        by_cases ej : j = k
        · subst ej
          rw [if_pos rfl, if_pos rfl, if_pos rfl, if_neg (by omega), upd_s, upd_s, q.2.1]
          exact ⟨rfl, rfl, hx0, y, _, y1, e1, rfl⟩
        · obtain ⟨b1, b2, b3, b4⟩ := hj j (by omega)
          rw [if_neg ej, if_neg ej, if_neg ej, if_neg (by omega), upd_n ej, upd_n (fun w => ej (hij j k (by omega) hlt w))]
          exact ⟨b1, b2, b3, b4⟩
      refine Rt.bd (F2.1.1.vi (by decide) (by decide) (oI_mk (hL a ha9) k1 (v := rf) rfl)) ?_
      have hvs : ∀ j : Nat, j < mk → ∃ (u ty : Nat) (nm : Int32), us[j]? = some u ∧ fv j = some u ∧ Λ[vs k + j]? = some u ∧ isV S0 u (vs k + j) nm (some ty) 0 ∧ ((bd = 0 ∧ ty = tx j) ∨ (bd = 1 ∧ isTy S0 ty 6 0 (some (tx j))) ∨ (bd = 2 ∧ isTy S0 ty 7 0 (some (tx j)))) := e8
      have hbd2 : (rf = 0 ∧ bd = 0) ∨ (rf = 1 ∧ ((mu = 0 ∧ bd = 1) ∨ (mu = 1 ∧ bd = 2)) ∧ x2 = some w9 ∧ PlF bd R S0 S2 E js w9 va9 ix tv xt i ρ) := hbd.imp id (fun ⟨w1, w2, w3, w4⟩ => ⟨w1, w2, w3, w4.st hx2⟩)
      have h207 : ∀ (S3 : Sg) (P3 : Nat) (x0 : List tE), xkO (cdP ix ρ) E js i bd (vf k) x0 → GV R S0 S2 S3 E Pk P3 0 0 Γ Γ Lk Lk x0 (stk (cdP ix ρ) bd i (vf k) mk (vs k) 0 js) False 0 0 → P3 ≤ Pk + 1 → Rt (f_layMatch_207 R.K V ((f_layMatch_142 R.K V d)) S3 (some a) x2 (nI m) (some e) (nI k) (some y) (nI js.length)) Q := fun S3 P3 x0 hx0 g3 b1 => by
        unfold f_layMatch_207
        refine lar210 (tx := tx) hF hB hV hm hM hG hvk (by omega) (by omega) hy e1 rfl rfl rfl rfl e2 e4 e6 e7 hvs e9 l1 (by omega) (by omega) rm2 hbd2 (hnx x0 hx0) bigN 0 S3 P3 Lk 0 0 (by unfold bigN; omega) (Nat.zero_le _) ?_ (by omega) (by omega) (by omega) (by omega) (kk2.st g3.2.1 g3.2.2.2.2.2.1)
        rw [show us.take 0 = [] from rfl, List.append_nil]; exact g3
      rcases hbd with ⟨w1, w2⟩ | ⟨w1, w2, w3, w4⟩
      · refine Rt.ip w1 ?_
        refine bnd_ (i := i) (tx := tx) (js := js) (va := vs k) hF F2.1 hy e1 (by omega) e2 e4 e6 hvk (by omega) (fun j hj2 => ?_) (by omega) (fun S4 g4 => h207 S4 (Pk + 1) _ (Or.inl ⟨w2, rfl⟩) ?_ (Nat.le_refl _))
        · obtain ⟨u, ty, nm, u1, u2, u3, u4, u5⟩ := hvs j hj2
          refine ⟨u, ty, nm, u2, u3, u4, ?_⟩
          rcases u5 with z | z | z
          · exact z.2
          · omega
          · omega
        · have : stk (cdP ix ρ) bd i (vf k) mk (vs k) 0 js = mkV (ksV (vs k) mk ++ js) := by unfold stk; rw [if_pos w2]
          rw [this]; exact g4
      · refine Rt.iq (by rw [w1]; decide) ?_
        have hb0 : bd ≠ 0 := by rcases w2 with w | w <;> omega
        have es : stk (cdP ix ρ) bd i (vf k) mk (vs k) 0 js = pSk (cdP ix ρ) bd i (vf k) mk (vs k) 0 js := by unfold stk; rw [if_neg hb0]
        refine h207 S2 Pk (pSk (cdP ix ρ) bd i (vf k) mk (vs k) 0 js) (Or.inr ⟨hb0, ?_⟩) ?_ (Nat.le_succ _)
        · have ey : E.y.2.2.2.1 (4 + i) (vf k) = mk := by rw [hF.1.2.2.2.2.1]; exact (e6.y hF.1.2.1).2.2.2.1
          rw [ey]
          unfold pSk
          by_cases e0 : mk = 0
          · exact Or.inl ⟨e0, by rw [if_pos e0.symm]; rfl⟩
          · exact Or.inr ⟨by omega, by rw [if_neg (fun w => e0 w.symm)]; rfl⟩
        · rw [es]
          exact ⟨F2.1, LZ.rf, tsg.nil wkS.rf, by omega, by omega, Nat.le_refl _, Nat.le_refl _, RFx.rf⟩
end LY42
