-- m1.q.lean.txt
section
/-- the stack where an arm begins -/
def xkO (cd : Nat) (E : eV) (js : List Nat) (i bd g : Nat) (x : List tE) : Prop := (bd = 0 ∧ x = (3, (4 + i) * 12 + g, 1) :: mkV js) ∨ (bd ≠ 0 ∧ ((E.y.2.2.2.1 (4 + i) g = 0 ∧ x = mkV js) ∨ (0 < E.y.2.2.2.1 (4 + i) g ∧ x = (if bd = 1 then 5 else 6, i * 12 + g, 64 * cd) :: mkV js)))
/-- k arms are laid -/
def MtS (cd : Nat) (R : yR) (S0 Sb Sx : Sg) (E : eV) (m : Nat) (Γ : List Nat) (L : Nat) (js : List Nat) (bw : Nat → Nat) (p i bd e ta mn z0 n0 : Nat) (f : Nat → Option Nat) (vf ps bs vs : Nat → Nat) (x : pRc) (S1 : Sg) (k : Nat) : Prop := ∃ (Pk Lk z n : Nat) (A J bk : Nat → Nat) (xk : Nat → List tE) (fe ft : Nat → Int32), FRM R S0 Sb S1 m Pk 0 Γ L Lk z n ∧ LX Sx S1 ∧ AT S1 m x ∧ ArS R S0 S1 E Lk js p m Pk k A J xk bk ∧ (PVc R S0 S1 (m + 1) Pk e mn fe ∧ PVc R S0 S1 (m + 1) Pk ta mn ft) ∧ (∀ j : Nat, j < k → fe j = nI (J j) ∧ ft (vf j) = nI (A j) ∧ xkO cd E js i bd (vf j) (xk j) ∧ ∃ (y : Nat) (ys : List Value), f j = some y ∧ ZF S0 y = .inr (13, ys) ∧ ys[5]? = some (.ref (bk j))) ∧ K0 S1 Pk ∧ m + 1 ≤ Pk ∧ Pk ≤ m + 1 + 8 * (bw (ps k) - bw (ps 0)) ∧ z ≤ z0 + 20 * (bw (ps k) - bw (ps 0)) ∧ n ≤ n0 + 60 * (bw (ps k) - bw (ps 0)) ∧ Lk + bs 0 + vs 0 ≤ L + bs k + vs k
section LY42
variable {R : yR} {S0 Sb Sx S S1 S2 S3 : Sg} {P P1 P2 P3 Pe h h0 h1 h2 hc L L1 L2 Le Lb z n z2 n2 : Nat} {Γ Γ0 Γ1 Γ2 Λ : List Nat} {E : eV} {s s1 s2 yD : List tE} {gv : Nat} {js ks us : List Nat} {bw : Nat → Nat} {V : Sg → Option Nat → Option (Sg × Unit)} {p m mn i : Nat} {x : pRc}
theorem vs_g {mk v q : Nat} (h : ((List.range mk).map (fun j => v + j))[q]? = some n) : q < mk ∧ n = v + q := by
  rw [List.getElem?_map] at h
  by_cases e : q < mk
  · rw [List.getElem?_range e] at h; exact ⟨e, (Option.some.inj h).symm⟩
  · rw [List.getElem?_eq_none (by rw [List.length_range]; omega)] at h; cases h
/-- an arm's value is bound -/
theorem bnd_ {y g mk va pa bk : Nat} {tx : Nat → Nat} {na : Nat} {fv : Nat → Option Nat} {gq : Sg → Option (Sg × Unit)} {Q : Sg → Unit → Prop} (hF : FEn R S0 E Λ gv) (c : LC R S0 S P 0 Γ L) (hy : y ∈ ZL R.S) (hyF : ZF S0 y = .inr (13, [.int (nI pa), .int (nI g), .ref na, .int (nI mk), .ref (y + 2), .ref bk])) (hpa : pa < R.T) (hy2 : y + 2 ∈ ZL R.S) (hFv : ZF S0 (y + 2) = .inl (R.K.1 5, 12, .inr (.inr (.inr (.inr fv))))) (hen : enY R S0 i g mk tx) (hv : ∀ i ∈ js, i < va) (hv40 : va + mk ≤ 40) (hvs : ∀ j : Nat, j < mk → ∃ (u ty : Nat) (nm : Int32), fv j = some u ∧ Λ[va + j]? = some u ∧ isV S0 u (va + j) nm (some ty) 0 ∧ ty = tx j) (hP : P < 24000) (k : ∀ S2 : Sg, GV R S0 S S2 E P (P + 1) 0 0 Γ Γ L L ((3, (4 + i) * 12 + g, 1) :: mkV js) (mkV (ksV va mk ++ js)) False 0 0 → Rt (gq S2) Q) : Rt ((oI S 13 (some y) 0).bind fun v38 =>
    bnd (f_point R.K S 22 v38) fun S39 v40 =>
    (wQ S39 13 41 v40 (some y)).bind gq) Q := by
  have hL := hF.1.1
  have hY := hF.1.2.1
  have hEy := hF.1.2.2.2.2.1
  obtain ⟨f1, f2, f3, f4, f5, f6⟩ := hen.y hY
  have him : i < R.im := by obtain ⟨_, _, _, _, _, _, w, _⟩ := hen; exact w
  have hi70 : i < 70 := by have := hY.2.1; omega
  refine Rt.bd (c.1.vi (by decide) (by decide) (oI_mk (hL y hy) hyF rfl)) ?_
  refine pnt_ (Lb := L) (Sb := S) (z := 0) (n := 0) hP c LZ.rf (Nat.le_refl _) (by omega) (by omega) UsK.rf (fun S1 p1 e1 => ?_)
  obtain ⟨y1, y2⟩ := p1.1.1.ob (hL y hy) hyF (by decide) (by decide)
  refine p1.wO hP (by decide) (okO_mk y1 y2) (Or.inl (by decide)) (fun S2 p2 e2 => k S2 ?_)
  obtain ⟨y3, y4⟩ := p2.1.1.ob (hL y hy) hyF (by decide) (by decide)
  obtain ⟨r1, r2⟩ := p2.1.1.ro (hL _ hy2) hFv
  have hlen : ((List.range mk).map (fun j => va + j)).length = mk := by rw [List.length_map, List.length_range]
  have hw0 : wl ((3, (4 + i) * 12 + g, 1) :: mkV js) = 1 := by
    rw [wl_n (by show ¬ ((3 : Nat) = 8 ∨ (3 : Nat) = 4 ∨ (3 : Nat) = 5 ∨ (3 : Nat) = 6); decide), wl_mk]
  refine gv0 (K := 22) (pp := pa) (n1 := i) (n2 := g) (n3 := 0) (vs := (List.range mk).map (fun j => va + j)) (by decide) (by decide) p2 ⟨rfl, rfl, rfl, rfl, rfl, rfl, rfl, rfl, rfl⟩ hpa (fun w => absurd w (by decide)) (fun w => absurd w (by decide)) (fun w => absurd w (by decide)) (fun w => absurd w (by decide)) (fun _ => ⟨y, na, y + 2, bk, nI pa, nI g, fv, rfl, y3, by rw [hlen]; exact y4, r1, r2, by rw [hlen]; exact f5, fun j v e => ?_⟩) (fun w => absurd w (by decide)) (by rw [hw0]; omega) (tP_22 rfl ⟨iD0_0, mkV js, rfl, wl_mk, hi70, ?_, ?_, ?_, ?_, ?_, fun a b v ea eb => ?_, fun q v e => ?_, rfl, ?_⟩)
  · obtain ⟨j1, rfl⟩ := vs_g e
    obtain ⟨u, ty, nm, u1, u2, u3, u4⟩ := hvs j j1
    obtain ⟨wh, w1, w2, _⟩ := p2.1.2.2.2.2.2.2.1 u (va + j) nm (some ty) 0 u3
    refine ⟨u, ty, 0, u1, ⟨w1, nm, wh, w2⟩, ?_, ?_⟩
    · rw [u4]; exact Or.inl (f6 j j1).2
    · rw [u4]
      show abT S0 (tx j) = yQ R S0 (4 + i) g j
      rw [(f6 j j1).1, ((f6 j j1).2.nm hY).2.2]
  · show g < 12; omega
  · rw [hEy]; exact f1
  · rw [hEy]; show g < fN (obF S0 (R.ws (4 + i - 4))) 3; rw [show 4 + i - 4 = i by omega]; exact f2
  · show ((List.range mk).map (fun j => va + j)).length = _
    rw [hlen, hEy]; exact f4.symm
  · show ((List.range mk).map (fun j => va + j)).length ≤ 12
    rw [hlen]; exact f5
  · obtain ⟨_, e1⟩ := vs_g ea
    obtain ⟨_, e2⟩ := vs_g eb
    omega
  · obtain ⟨j1, rfl⟩ := vs_g e
    obtain ⟨u, ty, nm, u1, u2, u3, u4⟩ := hvs q j1
    obtain ⟨_, nm2, mu2, ty2, hV2, hvt2, _⟩ := hF.2.1 (va + q) u u2
    have ety : ty2 = some ty := by obtain ⟨_, _, w, _⟩ := isV_u hV2 u3 (by omega) (by omega); exact w
    refine ⟨by omega, fun w => ?_, ?_⟩
    · have := hv _ (mkV_m w); omega
    · show E.vt (va + q) = E.y.2.2.2.2 (4 + i) g q
      rw [hvt2, ety, hEy, u4]
      show abT S0 (tx q) = yQ R S0 (4 + i) g q
      rw [(f6 q j1).1, ((f6 q j1).2.nm hY).2.2]
  · show wkS (((List.range mk).map (fun j => va + j)).reverse.map (fun v => (8, v, 0)) ++ mkV js) _
    rw [ksV_rev, mkV_ap]; exact wkS.rf
/-- the arms one behind the other -/
theorem lma142 {a xe ar px cap w9 va9 ix tv xt bd nn m9 e ta z0 n0 : Nat} {mu rf : Int32} {x2 : Option Nat} {ρ : List (Nat × Nat)} {f : Nat → Option Nat} {vf ps bs vs : Nat → Nat} {Q : Sg → Unit → Prop} (hF : FEn R S0 E Λ gv) (hB : BWt R bw) (hV : LbV R S0 E Λ gv bw V nn) (hm : m9 ≤ nn) (hM : MtH R S0 a xe ar px p mn mu rf) (hmn : mn ≤ 12) (har : ar ∈ ZL R.S) (hFa : ZF S0 ar = .inl (R.K.1 7, cap, .inr (.inr (.inr (.inr f))))) (hmc : mn ≤ cap) (hG : GJ Λ Γ js) (hv : ∀ i ∈ js, i < vs 0) (hw : vs mn ≤ 40) (hq : ps mn ≤ R.T) (hel : ∀ k : Nat, k < mn → ∃ y : Nat, f k = some y ∧ sN R S0 Λ gv (m9 + 1) 2 y (ps k) (ps (k + 1)) (bs k) (bs (k + 1)) (vs k) (vs (k + 1)) Γ Γ (i, vf k, bd)) (hij : ∀ k j : Nat, k < mn → j < mn → vf k = vf j → k = j) (hvf : ∀ k : Nat, k < mn → vf k < mn) (hmo : ∀ i j : Nat, i ≤ j → j ≤ mn → ps i + (j - i) ≤ ps j ∧ bs i ≤ bs j ∧ vs i ≤ vs j) (hP : m + 1 + 8 * (bw (ps mn) - bw (ps 0)) < 24000) (hl : L + bs mn + vs mn ≤ 160 + bs 0 + vs 0) (hr : RMl R Sb (z0 + 20 * (bw (ps mn) - bw (ps 0))) (n0 + 60 * (bw (ps mn) - bw (ps 0)))) (hbd : (rf = 0 ∧ bd = 0) ∨ (rf = 1 ∧ ((mu = 0 ∧ bd = 1) ∨ (mu = 1 ∧ bd = 2)) ∧ x2 = some w9 ∧ PlF bd R S0 Sx E js w9 va9 ix tv xt i ρ)) (heb : e ∉ ZL Sb ∧ ta ∉ ZL Sb ∧ e ∉ ZL Sx ∧ ta ∉ ZL Sx ∧ ta ≠ e) (h42 : x.2.2 42 = some ta)
  (kf : ∀ (S2 : Sg) (Pe Le z n : Nat) (A J bk : Nat → Nat) (xk : Nat → List tE) (ft : Nat → Int32), FRM R S0 Sb S2 m Pe 0 Γ L Le z n → LX Sx S2 → AT S2 m x → ArT R S0 S2 E Le js p m Pe mn mn A J xk bk → (ta ∈ ZL S2 ∧ ZF S2 ta = .inl (R.K.1 0, mn, .inl ft)) → (∀ j : Nat, j < mn → ft (vf j) = nI (A j) ∧ xkO (cdP ix ρ) E js i bd (vf j) (xk j) ∧ ∃ (y : Nat) (ys : List Value), f j = some y ∧ ZF S0 y = .inr (13, ys) ∧ ys[5]? = some (.ref (bk j))) → K0 S2 Pe → Pe ≤ m + 1 + 8 * (bw (ps mn) - bw (ps 0)) → z ≤ z0 + 20 * (bw (ps mn) - bw (ps 0)) → n ≤ n0 + 60 * (bw (ps mn) - bw (ps 0)) → Le + bs 0 + vs 0 ≤ L + bs mn + vs mn → Q S2 ()) : ∀ (d k : Nat) (S1 : Sg), mn < k + d → k ≤ mn → MtS (cdP ix ρ) R S0 Sb Sx E m Γ L js bw p i bd e ta mn z0 n0 f vf ps bs vs x S1 k → Rt (f_layMatch_142 R.K V d S1 (some a) x2 (nI m) (some e) (nI k)) Q
  | 0, k, S1, h1, h2, _ => by omega
  | d + 1, k, S1, h1, h2, hS => by
    have hL := hF.1.1
    have hM2 := hM
    obtain ⟨ha9, k1, hpT, _⟩ := hM2
    obtain ⟨Pk, Lk, z, n, A, J, bk, xk, fe, ft, F, hx, hat, q, ⟨ve, vt⟩, hj, kk, c0, c1, c2, c3, c4⟩ := hS
    have hm0 := hmo 0 k (Nat.zero_le _) h2
    have hmk := hmo k mn h2 (Nat.le_refl _)
    have wa := hB.mo (p := ps 0) (q := ps k) (by omega) (by omega)
    have wb := hB.mo (p := ps k) (q := ps mn) (by omega) (by omega)
    unfold f_layMatch_142
    refine Rt.bd (F.1.1.vi (by decide) (by decide) (oI_mk (hL a ha9) k1 (v := nI mn) rfl)) (Rt.it (fun w => ?_) (fun w => ?_))
    · have : mn ≤ k := (nI_leI (by omega) (by omega)).mp w
      obtain rfl : k = mn := by omega
      exact lma308 hL hM hmn (by omega) (fun j hj2 => (hj j hj2).1) (fun S2 F2 hx2 a2 q2 t2 k2 => kf S2 Pk Lk z n A J bk xk ft F2 hx2 a2 q2 t2 (fun j hj2 => (hj j hj2).2) k2 c1 c2 c3 c4) bigN 0 S1 (by unfold bigN; omega) (Nat.zero_le _) F hx hat q.t ⟨ve.1, ve.2.1⟩ ⟨vt.1, vt.2.1⟩ kk
    · have hlt : k < mn := by
        by_cases q : k < mn
        · exact q
        · exact absurd (nI_le (a := mn) (b := k) (by omega) (by omega)) w
      obtain ⟨y, y1, ys⟩ := hel k hlt
      have hsl := sN_lt ys
      obtain ⟨⟨hy, _, _⟩, na, bk9, mk, p', fv, tx, us, e1, e2, e3, e4, e5, e6, e7, e8, e9, l1⟩ := ys
      have e1 : ZF S0 y = .inr (13, [.int (nI (ps k)), .int (nI (vf k)), .ref na, .int (nI mk), .ref (y + 2), .ref bk9]) := e1
      have hmk1 := hmo (k + 1) mn hlt (Nat.le_refl _)
      have hmk2 := hmo k (k + 1) (by omega) hlt
      have wc := hB.mo (p := ps k) (q := ps (k + 1)) (by omega) (by omega)
      have wd := hB.mo (p := ps (k + 1)) (q := ps mn) (by omega) (by omega)
      have hmo9 := sN_mo l1
      obtain ⟨r1, r2⟩ := F.1.1.ro (hL ar har) hFa
      have h42' : Zq S1 42 m = some ta := (hat.2.2 42 (by decide) (by decide)).trans h42
      have hvk : ∀ j ∈ js, j < vs k := fun j hj => by have := hv j hj; omega
      refine Rt.bd (F.1.1.vr (by decide) (by decide) (oR_mk (hL a ha9) k1 (v := some ar) rfl)) (Rt.bd (aQ_j r1 r2 (by omega) (by omega)) ?_)
      rw [y1]
      refine Rt.bd (by rw [rQ_n (show m < rlen 42 from by show m < 24000; omega) (by decide), h42']) ?_
      refine Rt.bd (F.1.1.vi (by decide) (by decide) (oI_mk (hL y hy) e1 (v := nI (vf k)) rfl)) ?_
      have eP : Zi S1 26 = nI Pk := F.1.2.1
      have eG : Zi S1 50 = nI js.length := by rw [← hG.len]; exact F.1.2.2.2.1.1
      rw [eP, eG]
      refine Rt.bd (bI_n vt.1 vt.2.1 (hvf k hlt) (by omega)) ?_
      -- the row of targets is written
      have F2 : FRM R S0 Sb (UF S1 ta (.inl (R.K.1 0, mn, .inl (upd ft (vf k) (nI Pk))))) m Pk 0 Γ L Lk z n := F.uF2 vt heb.2.1
      have hx2 : LX Sx (UF S1 ta (.inl (R.K.1 0, mn, .inl (upd ft (vf k) (nI Pk))))) := hx.uF heb.2.2.2.1
      have q2 := q.uF (cc := .inl (R.K.1 0, mn, .inl (upd ft (vf k) (nI Pk)))) vt
      have vt2 : PVc R S0 (UF S1 ta (.inl (R.K.1 0, mn, .inl (upd ft (vf k) (nI Pk))))) (m + 1) Pk ta mn (upd ft (vf k) (nI Pk)) := vt.uF
      have ve2 : PVc R S0 (UF S1 ta (.inl (R.K.1 0, mn, .inl (upd ft (vf k) (nI Pk))))) (m + 1) Pk e mn fe := ve.uO heb.2.2.2.2
      have hat2 : AT (UF S1 ta (.inl (R.K.1 0, mn, .inl (upd ft (vf k) (nI Pk))))) m x := hat.sm rfl rfl rfl
      have kk2 : K0 (UF S1 ta (.inl (R.K.1 0, mn, .inl (upd ft (vf k) (nI Pk))))) Pk := kk
      generalize UF S1 ta (.inl (R.K.1 0, mn, .inl (upd ft (vf k) (nI Pk)))) = S2 at F2 hx2 q2 vt2 ve2 hat2 kk2
      have rm2 : RMl R S2 (20 * (bw (ps (k + 1)) - bw (ps k))) (60 * (bw (ps (k + 1)) - bw (ps k))) := F2.rm hr (by omega) (by omega)
      -- behind the arm
      have hnx : ∀ (x0 : List tE), xkO (cdP ix ρ) E js i bd (vf k) x0 → ∀ (S4 : Sg) (Pj L4 z4 n4 : Nat), ArQ R S0 S2 E Pk Γ Lk js bw p (ps k) (ps (k + 1)) (bs k) (bs (k + 1)) (vs k) (vs (k + 1)) x0 bk9 S4 Pj L4 z4 n4 → Rt ((bI R.K S4 (some e) (nI k) (nI Pj)).bind fun S54 => f_layMatch_142 R.K V d S54 (some a) x2 (nI m) (some e) (nI k + 1)) Q := fun x0 hx0 S4 Pj L4 z4 n4 hQ => by
        obtain ⟨G, g2, g3, g4, g5, g6, g7, g8, g9⟩ := hQ
        have ve4 := ve2.fr G
        have vt4 := vt2.fr G
        have hLk : Lk ≤ L4 := G.2.2.2.2.2.1
        refine Rt.bd (bI_n ve4.1 ve4.2.1 hlt (by omega)) ?_
        rw [nI_1]
        have hat4 : AT S4 m x := by
          have hk := G.2.1.2.1 m (by omega)
          exact ⟨fun r h1 h2 h3 => (hk.1 r h1 h2).trans (hat2.1 r h1 h2 h3), hk.2.1.trans hat2.2.1, fun r h1 h2 => (hk.2.2 r h1 h2).trans (hat2.2.2 r h1 h2)⟩
        have q4 := (q2.st G.2.1 hLk).add g2 g4 g3
        have q5 := q4.uF (cc := .inl (R.K.1 0, mn, .inl (upd fe k (nI Pj)))) ve4
        refine lma142 hF hB hV hm hM hmn har hFa hmc hG hv hw hq hel hij hvf hmo hP hl hr hbd heb h42 kf d (k + 1) _ (by omega) (by omega) ⟨Pj + 1, L4, z + z4, n + n4, _, _, _, _, upd fe k (nI Pj), upd ft (vf k) (nI Pk), (F2.tr G).uF2 ve4 heb.1, (hx2.tr G.2.1.1).uF heb.2.2.1, hat4.sm rfl rfl rfl, q5, ⟨ve4.uF, vt4.uO (fun w => heb.2.2.2.2 w.symm)⟩, fun j hj2 => ?_, g9, by omega, by omega, by omega, by omega, by omega⟩
        by_cases ej : j = k
        · subst ej
          rw [if_pos rfl, if_pos rfl, if_pos rfl, if_neg (by omega), upd_s, upd_s, q.2.1]
          exact ⟨rfl, rfl, hx0, y, _, y1, e1, rfl⟩
        · obtain ⟨b1, b2, b3, b4⟩ := hj j (by omega)
          rw [if_neg ej, if_neg ej, if_neg ej, if_neg (by omega), upd_n ej, upd_n (fun w => ej (hij j k (by omega) hlt w))]
          exact ⟨b1, b2, b3, b4⟩
      refine Rt.bd (F2.1.1.vi (by decide) (by decide) (oI_mk (hL a ha9) k1 (v := rf) rfl)) ?_
      have hvs : ∀ j : Nat, j < mk → ∃ (u ty : Nat) (nm : Int32), us[j]? = some u ∧ fv j = some u ∧ Λ[vs k + j]? = some u ∧ isV S0 u (vs k + j) nm (some ty) 0 ∧ ((bd = 0 ∧ ty = tx j) ∨ (bd = 1 ∧ isTy S0 ty 6 0 (some (tx j))) ∨ (bd = 2 ∧ isTy S0 ty 7 0 (some (tx j)))) := e8
      have hbd2 : (rf = 0 ∧ bd = 0) ∨ (rf = 1 ∧ ((mu = 0 ∧ bd = 1) ∨ (mu = 1 ∧ bd = 2)) ∧ x2 = some w9 ∧ PlF bd R S0 S2 E js w9 va9 ix tv xt i ρ) := hbd.imp id (fun ⟨w1, w2, w3, w4⟩ => ⟨w1, w2, w3, w4.st hx2⟩)
      have h207 : ∀ (S3 : Sg) (P3 : Nat) (x0 : List tE), xkO (cdP ix ρ) E js i bd (vf k) x0 → GV R S0 S2 S3 E Pk P3 0 0 Γ Γ Lk Lk x0 (stk (cdP ix ρ) bd i (vf k) mk (vs k) 0 js) False 0 0 → P3 ≤ Pk + 1 → Rt (f_layMatch_207 R.K V ((f_layMatch_142 R.K V d)) S3 (some a) x2 (nI m) (some e) (nI k) (some y) (nI js.length)) Q := fun S3 P3 x0 hx0 g3 b1 => by
        unfold f_layMatch_207
        refine lar210 (tx := tx) hF hB hV hm hM hG hvk (by omega) (by omega) hy e1 rfl rfl rfl rfl e2 e4 e6 e7 hvs e9 l1 (by omega) (by omega) rm2 hbd2 (hnx x0 hx0) bigN 0 S3 P3 Lk 0 0 (by unfold bigN; omega) (Nat.zero_le _) ?_ (by omega) (by omega) (by omega) (by omega) (kk2.st g3.2.1 g3.2.2.2.2.2.1)
        rw [show us.take 0 = [] from rfl, List.append_nil]; exact g3
      rcases hbd with ⟨w1, w2⟩ | ⟨w1, w2, w3, w4⟩
      · refine Rt.ip w1 ?_
        refine bnd_ (i := i) (tx := tx) (js := js) (va := vs k) hF F2.1 hy e1 (by omega) e2 e4 e6 hvk (by omega) (fun j hj2 => ?_) (by omega) (fun S4 g4 => h207 S4 (Pk + 1) _ (Or.inl ⟨w2, rfl⟩) ?_ (Nat.le_refl _))
        · obtain ⟨u, ty, nm, u1, u2, u3, u4, u5⟩ := hvs j hj2
          refine ⟨u, ty, nm, u2, u3, u4, ?_⟩
          rcases u5 with z | z | z
          · exact z.2
          · omega
          · omega
        · have : stk (cdP ix ρ) bd i (vf k) mk (vs k) 0 js = mkV (ksV (vs k) mk ++ js) := by unfold stk; rw [if_pos w2]
          rw [this]; exact g4
      · refine Rt.iq (by rw [w1]; decide) ?_
        have hb0 : bd ≠ 0 := by rcases w2 with w | w <;> omega
        have es : stk (cdP ix ρ) bd i (vf k) mk (vs k) 0 js = pSk (cdP ix ρ) bd i (vf k) mk (vs k) 0 js := by unfold stk; rw [if_neg hb0]
        refine h207 S2 Pk (pSk (cdP ix ρ) bd i (vf k) mk (vs k) 0 js) (Or.inr ⟨hb0, ?_⟩) ?_ (Nat.le_succ _)
        · have ey : E.y.2.2.2.1 (4 + i) (vf k) = mk := by rw [hF.1.2.2.2.2.1]; exact (e6.y hF.1.2.1).2.2.2.1
          rw [ey]
          unfold pSk
          by_cases e0 : mk = 0
          · exact Or.inl ⟨e0, by rw [if_pos e0.symm]; rfl⟩
          · exact Or.inr ⟨by omega, by rw [if_neg (fun w => e0 w.symm)]; rfl⟩
        · rw [es]
          exact ⟨F2.1, LZ.rf, tsg.nil wkS.rf, by omega, by omega, Nat.le_refl _, Nat.le_refl _, RFx.rf⟩
end LY42
end
-- m1.r.lean.txt
section
section LY43
variable {R : yR} {S0 Sb Sx S S1 S2 S3 : Sg} {P P1 P2 P3 Pe h h0 h1 h2 hc L L1 L2 Le Lb z n z2 n2 : Nat} {Γ Γ0 Γ1 Γ2 Λ : List Nat} {E : eV} {s s1 s2 yD : List tE} {gv : Nat} {js ks us : List Nat} {bw : Nat → Nat} {V : Sg → Option Nat → Option (Sg × Unit)} {m mn i : Nat} {x : pRc} {A J bk : Nat → Nat} {xk : Nat → List tE} {p q b c v w : Nat}
/-- what lies at the point of a match -/
theorem rz_m {K : Nat} {i : iR} (hK : K = 20 ∨ K = 21) (hk : i.kd = K) (a : AT S P x) (h27 : x.1 27 = nI K) (h33 : x.1 33 = nI i.ac) (ha : i.ac < 8) (h34 : x.1 34 = oNm i.ho) (h35 : x.1 35 = oNm i.ln) (h37 : rAr R S (x.2.2 37) i.us) (h36 : rAr R S (x.2.2 36) i.fr) (h32 : ∃ tk : Nat, x.1 32 = nI tk ∧ tk < R.T) (h38 : (x.2.2 38 = none ∧ i.pa = none) ∨ ∃ (w v T : Nat) (ρ : lLc), x.2.2 38 = some w ∧ i.pa = some (v, ρ, T) ∧ isPt R S0 S w v ρ T ∧ pVa S w i.n2) (hln : i.ln = none) (h42 : rAr R S (x.2.2 42) i.sc) (hsc : i.sc ≠ []) : rz R S0 S P i := by
  subst hk
  have e : ∀ r : Nat, 27 ≤ r → r ≤ 35 → r ≠ 31 → Zr S r P = x.1 r := a.1
  have q : ∀ r : Nat, 36 ≤ r → r ≤ 42 → Zq S r P = x.2.2 r := a.2.2
  unfold rz
  rw [e 27 (by decide) (by decide) (by decide), e 28 (by decide) (by decide) (by decide), e 29 (by decide) (by decide) (by decide), e 30 (by decide) (by decide) (by decide), e 32 (by decide) (by decide) (by decide), e 33 (by decide) (by decide) (by decide), e 34 (by decide) (by decide) (by decide), e 35 (by decide) (by decide) (by decide), q 36 (by decide) (by decide), q 37 (by decide) (by decide), q 38 (by decide) (by decide), q 39 (by decide) (by decide), q 40 (by decide) (by decide), q 41 (by decide) (by decide), q 42 (by decide) (by decide), a.2.1]
  exact ⟨h27, by omega, h33, ha, h34, h35, h37, h36, h32, h38, (fun l e => by rw [hln] at e; cases e), Or.inr (Or.inr (Or.inr (Or.inl ⟨hK, h42, hsc⟩))), fun w => by omega, fun w => by omega, fun w => by omega, fun w => by omega, fun w => by omega, fun w => by omega, fun w => by omega⟩
/-- where the arms begin, by variants -/
theorem mt_sc {ta : Nat} {vf : Nat → Nat} {ft : Nat → Int32} {Z : Nat → Prop} (q : ArT R S0 S1 E Le js p m Pe mn mn A J xk bk) (hij : ∀ k j : Nat, k < mn → j < mn → vf k = vf j → k = j) (hvf : ∀ k : Nat, k < mn → vf k < mn) (hft : ∀ j : Nat, j < mn → ft (vf j) = nI (A j) ∧ Z j) (hPe : Pe < 24000) (h1 : 1 ≤ mn) (hta : ta ∈ ZL S1 ∧ ZF S1 ta = .inl (R.K.1 0, mn, .inl ft)) : ∃ sc : List Nat, sc.length = mn ∧ sc ≠ [] ∧ rAr R S1 (some ta) sc ∧ ∀ g j : Nat, sc[g]? = some j → ∃ k : Nat, k < mn ∧ vf k = g ∧ j = A k ∧ m < j := by
  obtain ⟨r, hr⟩ := Classical.skolem.mp (fun g : Nat => show ∃ k : Nat, g < mn → (k < mn ∧ vf k = g) by
    by_cases e : g < mn
    · obtain ⟨k, k1, k2⟩ := inj_sur mn vf hvf (fun j k => hij j k) g e
      exact ⟨k, fun _ => ⟨k1, k2⟩⟩
    · exact ⟨0, fun w => absurd w e⟩)
  have hlen : ((List.range mn).map (fun g => A (r g))).length = mn := by rw [List.length_map, List.length_range]
  have hg : ∀ g j : Nat, ((List.range mn).map (fun g => A (r g)))[g]? = some j → g < mn ∧ j = A (r g) := fun g j h => by
    rw [List.getElem?_map] at h
    by_cases e : g < mn
    · rw [List.getElem?_range e] at h; exact ⟨e, (Option.some.inj h).symm⟩
    · rw [List.getElem?_eq_none (by rw [List.length_range]; omega)] at h; cases h
  have hne : (List.range mn).map (fun g => A (r g)) ≠ [] := fun e => by rw [e] at hlen; have : 0 = mn := hlen; omega
  have hA : ∀ k : Nat, k < mn → m < A k ∧ A k < 24000 := fun k hk => by
    have a1 := q.mo (k := 0) (j := k) (Nat.zero_le _) (by omega)
    have a2 := q.mo (k := k) (j := mn) (by omega) (Nat.le_refl _)
    have := q.1
    have := q.2.1
    omega
  refine ⟨(List.range mn).map (fun g => A (r g)), hlen, hne, Or.inr ⟨ta, ft, rfl, hta.1, by rw [hlen]; exact hta.2, hne, fun g j e => ?_⟩, fun g j e => ?_⟩
  · obtain ⟨g1, rfl⟩ := hg g j e
    obtain ⟨r1, r2⟩ := hr g g1
    have := (hft (r g) r1).1
    rw [r2] at this
    exact ⟨this, (hA _ r1).2⟩
  · obtain ⟨g1, rfl⟩ := hg g j e
    obtain ⟨r1, r2⟩ := hr g g1
    exact ⟨r g, r1, r2, rfl, (hA _ r1).1⟩
/-- the rows of a match are made, then its arms are laid -/
theorem lma105 {a xe ar px cap w9 va9 ix tv xt t bd nn m9 : Nat} {mu rf : Int32} {x2 : Option Nat} {ρ : List (Nat × Nat)} {f : Nat → Option Nat} {vf ps bs vs : Nat → Nat} {Q : Sg → Unit → Prop} (hF : FEn R S0 E Λ gv) (hB : BWt R bw) (hV : LbV R S0 E Λ gv bw V nn) (hm : m9 ≤ nn) (hM : MtH R S0 a xe ar px p mn mu rf) (hxt : ∃ gs : List Value, ZF S0 xe = .inr (15, gs) ∧ gs[12]? = some (.ref t)) (ht : isTy S0 t 4 (nI i) none) (henM : enM R S0 i mn) (har : ar ∈ ZL R.S) (hFa : ZF S0 ar = .inl (R.K.1 7, cap, .inr (.inr (.inr (.inr f))))) (hmc : mn ≤ cap) (hG : GJ Λ Γ js) (hv : ∀ i ∈ js, i < vs 0) (hw : vs mn ≤ 40) (hq : ps mn ≤ R.T) (hel : ∀ k : Nat, k < mn → ∃ y : Nat, f k = some y ∧ sN R S0 Λ gv (m9 + 1) 2 y (ps k) (ps (k + 1)) (bs k) (bs (k + 1)) (vs k) (vs (k + 1)) Γ Γ (i, vf k, bd)) (hij : ∀ k j : Nat, k < mn → j < mn → vf k = vf j → k = j) (hvf : ∀ k : Nat, k < mn → vf k < mn) (hmo : ∀ i j : Nat, i ≤ j → j ≤ mn → ps i + (j - i) ≤ ps j ∧ bs i ≤ bs j ∧ vs i ≤ vs j) (hP : m + 1 + 8 * (bw (ps mn) - bw (ps 0)) < 24000) (hl : L + bs mn + vs mn ≤ 160 + bs 0 + vs 0) (hr : RMl R Sb (z + 2 + 20 * (bw (ps mn) - bw (ps 0))) (n + 24 + 60 * (bw (ps mn) - bw (ps 0)))) (hbd : (rf = 0 ∧ bd = 0) ∨ (rf = 1 ∧ ((mu = 0 ∧ bd = 1) ∨ (mu = 1 ∧ bd = 2)) ∧ x2 = some w9 ∧ PlF bd R S0 Sx E js w9 va9 ix tv xt i ρ)) (pp : LPt R S0 Sb Sx m 0 Γ L L x z n) (kk : K0 Sx (m + 1))
  (kf : ∀ (S2 : Sg) (Pe Le z2 n2 : Nat) (A J bk : Nat → Nat) (xk : Nat → List tE) (ft : Nat → Int32) (ta : Nat), FRM R S0 Sb S2 m Pe 0 Γ L Le z2 n2 → LX Sx S2 → AT S2 m (x.1, x.2.1, va_up x.2.2 42 (some ta)) → ArT R S0 S2 E Le js p m Pe mn mn A J xk bk → (ta ∈ ZL S2 ∧ ZF S2 ta = .inl (R.K.1 0, mn, .inl ft)) → (∀ j : Nat, j < mn → ft (vf j) = nI (A j) ∧ xkO (cdP ix ρ) E js i bd (vf j) (xk j) ∧ ∃ (y : Nat) (ys : List Value), f j = some y ∧ ZF S0 y = .inr (13, ys) ∧ ys[5]? = some (.ref (bk j))) → K0 S2 Pe → Pe ≤ m + 1 + 8 * (bw (ps mn) - bw (ps 0)) → z2 ≤ z + 2 + 20 * (bw (ps mn) - bw (ps 0)) → n2 ≤ n + 24 + 60 * (bw (ps mn) - bw (ps 0)) → Le + bs 0 + vs 0 ≤ L + bs mn + vs mn → Q S2 ()) : Rt (f_layMatch_105 R.K V Sx (some a) x2 (nI m)) Q := by
  have hL := hF.1.1
  have hM2 := hM
  obtain ⟨ha9, k1, hpT, hxe, gs, e1, e2, e3⟩ := hM2
  obtain ⟨gs', g1, g2⟩ := hxt
  obtain rfl : gs' = gs := by rw [g1] at e1; cases e1; rfl
  obtain ⟨fs, i1, i2, i3, i4, i5, i6⟩ := henM
  have c0 := pp.1
  have hz0 := pp.2.2.2.1
  have hn0 := pp.2.2.2.2.1
  obtain ⟨r1, r2⟩ := hr
  unfold f_layMatch_105
  obtain ⟨ti, _, _, t3, t4⟩ := c0.1.ty ht
  have hi70 : i < 70 := by have := hF.1.2.1.2.1; omega
  have hq11 : rQ Sx 11 (nI i) = some (some (R.ws i)) := by
    rw [rQ_n (show i < rlen 11 from hi70) (by decide), c0.1.2.2.2.2.1 11 (fun w => by rcases w with w | w | w <;> omega), hF.1.2.2.2.2.2.2.2.2.1.1]
    obtain ⟨_, a1, _⟩ := hF.1.2.2.2.1 i i1
    rw [a1]
  obtain ⟨w1, fs2, w2, w3, w4⟩ := c0.1.it (hL _ i3.1) i4
  refine Rt.bd (c0.1.vr (by decide) (by decide) (oR_mk (hL a ha9) k1 (v := some xe) rfl)) (Rt.bd (c0.1.vr (by decide) (by decide) (oR_mk (hL xe hxe) g1 (v := some t) g2)) (Rt.bd (oI_mk t3 t4 (v := nI i) rfl) (Rt.bd hq11 (Rt.bd (oI_mk w1 w2 (v := nI mn) ((w4 3 (by decide) (Or.inl (by decide))).trans i5)) ?_))))
  refine Rt.be (nA_ok (by omega) ⟨by omega, by omega⟩) ?_
  have w0 : NW Sx (Un Sx (.inl (R.K.1 0, mn, .inl (fun _ => 0))) mn) := (NW.rf c0.hz).un
  have hno : Zz Sx ∉ ZL Sx := fun w => Nat.lt_irrefl _ (c0.hz _ w)
  have hm1 : Zz Sx ∈ ZL (Un Sx (.inl (R.K.1 0, mn, .inl (fun _ => 0))) mn) ∧ ZF (Un Sx (.inl (R.K.1 0, mn, .inl (fun _ => 0))) mn) (Zz Sx) = .inl (R.K.1 0, mn, .inl (fun _ => 0)) := ⟨List.mem_cons_self, ZF_uz⟩
  have hz1 : Zz (Un Sx (.inl (R.K.1 0, mn, .inl (fun _ => 0))) mn) = Zz Sx + 1 := rfl
  have hn1 : Zn (Un Sx (.inl (R.K.1 0, mn, .inl (fun _ => 0))) mn) = Zn Sx + mn := rfl
  generalize Un Sx (.inl (R.K.1 0, mn, .inl (fun _ => 0))) mn = A1 at w0 hm1 hz1 hn1
  have p1 := pp.nw (z2 := z + 1) (n2 := n + 12) w0 (by omega) (by omega)
  have hnb : Zz Sx ∉ ZL Sb := fun w => hno (pp.2.1.1.1 _ w).1
  refine p1.wA (by omega) (by decide) (okA_mk hm1.1 hm1.2) ⟨by decide, fun y e hy => by cases e; exact absurd hy hnb⟩ (fun A2 p2 s2 => ?_)
  refine Rt.bd (p2.1.1.vi (by decide) (by decide) (oI_mk (hL a ha9) k1 (v := nI mn) rfl)) ?_
  have hz2 : Zz A2 = Zz Sx + 1 := s2.2.2.2.1.trans hz1
  have hn2 : Zn A2 = Zn Sx + mn := s2.2.2.2.2.1.trans hn1
  refine Rt.be (nA_ok (by omega) ⟨by omega, by omega⟩) ?_
  have w2' : NW A2 (Un A2 (.inl (R.K.1 0, mn, .inl (fun _ => 0))) mn) := (NW.rf p2.1.hz).un
  have hno2 : Zz A2 ∉ ZL A2 := fun w => Nat.lt_irrefl _ (p2.1.hz _ w)
  have hm2 : Zz A2 ∈ ZL (Un A2 (.inl (R.K.1 0, mn, .inl (fun _ => 0))) mn) ∧ ZF (Un A2 (.inl (R.K.1 0, mn, .inl (fun _ => 0))) mn) (Zz A2) = .inl (R.K.1 0, mn, .inl (fun _ => 0)) := ⟨List.mem_cons_self, ZF_uz⟩
  have hz3 : Zz (Un A2 (.inl (R.K.1 0, mn, .inl (fun _ => 0))) mn) = Zz A2 + 1 := rfl
  have hn3 : Zn (Un A2 (.inl (R.K.1 0, mn, .inl (fun _ => 0))) mn) = Zn A2 + mn := rfl
  generalize Un A2 (.inl (R.K.1 0, mn, .inl (fun _ => 0))) mn = A3 at w2' hm2 hz3 hn3
  have p3 := p2.nw (z2 := z + 2) (n2 := n + 24) w2' (by omega) (by omega)
  have hta2 : Zz Sx ∈ ZL A2 ∧ ZF A2 (Zz Sx) = .inl (R.K.1 0, mn, .inl (fun _ => 0)) := s2.ob hm1.1 hm1.2
  have hta3 : Zz Sx ∈ ZL A3 ∧ ZF A3 (Zz Sx) = .inl (R.K.1 0, mn, .inl (fun _ => 0)) := ⟨(w2'.1 _ hta2.1).1, (w2'.1 _ hta2.1).2.trans hta2.2⟩
  have x02 : LX Sx A2 := w0.lx.tr s2.1
  have hS0 : ∀ y : Nat, y ∉ ZL Sx → y ∉ ZL S0 := fun y hy w => hy (c0.1.1 _ w).1
  have hno3 : Zz A2 ∉ ZL Sx := fun w => hno2 (x02.1 _ w).1
  have vt : PVc R S0 A3 (m + 1) (m + 1) (Zz Sx) mn (fun _ => 0) := ⟨hta3.1, hta3.2, hS0 _ hno, fun w => ?_, fun k h1 h2 => by omega⟩
  · have ve : PVc R S0 A3 (m + 1) (m + 1) (Zz A2) mn (fun _ => 0) := ⟨hm2.1, hm2.2, hS0 _ hno3, fun w => hno2 (p2.1.usm (NW.us2 p2.1 w2' w)), fun k h1 h2 => by omega⟩
    refine lma142 (e := Zz A2) (ta := Zz Sx) (z0 := z + 2) (n0 := n + 24) (x := (x.1, x.2.1, va_up x.2.2 42 (some (Zz Sx)))) (Sx := Sx) (Sb := Sb) hF hB hV hm hM i6 har hFa hmc hG hv hw hq hel hij hvf hmo hP hl ⟨by omega, by omega⟩ hbd ⟨fun w => hno3 (pp.2.1.1.1 _ w).1, hnb, hno3, hno, fun w => by omega⟩ (va_up_self x.2.2 42 (some (Zz Sx))) (fun S2 Pe Le z2 n2 A J bk xk ft => kf S2 Pe Le z2 n2 A J bk xk ft (Zz Sx)) bigN 0 A3 (by unfold bigN; omega) (Nat.zero_le _) ⟨m + 1, L, z + 2, n + 24, fun _ => m + 1, fun _ => 0, fun _ => 0, fun _ => [], _, _, p3.frm, x02.tr w2'.lx, p3.2.2.1, ⟨rfl, rfl, fun k hk => by omega⟩, ⟨ve, vt⟩, fun j hj => by omega, ?_, Nat.le_refl _, by omega, by omega, by omega, Nat.le_refl _⟩
    by_cases e0 : m = 0
    · subst e0
      have a3 := p3.2.2.1.1 27 (by decide) (by decide) (by decide)
      have ax := pp.2.2.1.1 27 (by decide) (by decide) (by decide)
      unfold K0
      rw [a3, show (x.1, x.2.1, va_up x.2.2 42 (some (Zz Sx))).1 27 = x.1 27 from rfl, ← ax]; exact kk
    · have b3 := (p3.2.1.2.1 0 (by omega)).1 27 (by decide) (by decide)
      have bx := (pp.2.1.2.1 0 (by omega)).1 27 (by decide) (by decide)
      unfold K0
      rw [b3, ← bx]; exact kk
  · have w2 := NW.us2 p2.1 w2' w
    have w3 : Us S0 A1 (Zz Sx) := by unfold Us at w2 ⊢; rw [s2.2.2.2.2.2, s2.2.2.1] at w2; exact w2
    exact hno (c0.usm (NW.us2 c0 w0 w3))
end LY43
end
-- m1.s.lean.txt
section
section LY44
variable {R : yR} {S0 Sb Sx S S1 S2 S3 : Sg} {P P1 P2 P3 Pe h h0 h1 h2 hc L L1 L2 Le Lb z n z2 n2 : Nat} {Γ Γ0 Γ1 Γ2 Λ : List Nat} {E : eV} {s s1 s2 yD : List tE} {gv : Nat} {js ks us : List Nat} {bw : Nat → Nat} {V : Sg → Option Nat → Option (Sg × Unit)} {m mn i : Nat} {x : pRc} {A J bk : Nat → Nat} {xk : Nat → List tE} {p q b c v w : Nat}
theorem enM.y (hY : YK R S) {i mn : Nat} (h : enM R S i mn) : yK R S (4 + i) = 3 ∧ (yT R S).2.2.1 (4 + i) = mn ∧ mn ≤ 12 ∧ i < 70 := by
  obtain ⟨fs, h1, h2, h3, h4, h5, h6⟩ := h
  have := hY.2.1
  refine ⟨by rw [yK_it hY h1, if_neg (by rw [h2]; decide), if_pos h2], ?_, h6, by omega⟩
  show fN (obF S (R.ws (4 + i - 4))) 3 = mn
  rw [show 4 + i - 4 = i by omega, obF_o h4, fN_i h5 (by omega)]
/-- all arms end the way -/
def amE (S0 : Sg) (mn : Nat) (f : Nat → Option Nat) : Prop := ∀ k : Nat, k < mn → ∃ (y bk : Nat) (ys : List Value), f k = some y ∧ ZF S0 y = .inr (13, ys) ∧ ys[5]? = some (.ref bk) ∧ eBx S0 bk
theorem amE.bx {f : Nat → Option Nat} (h : amE S0 mn f) (hj : ∀ j : Nat, j < mn → ∃ (y : Nat) (ys : List Value), f j = some y ∧ ZF S0 y = .inr (13, ys) ∧ ys[5]? = some (.ref (bk j))) : ∀ j : Nat, j < mn → eBx S0 (bk j) := fun j hj2 => by
  obtain ⟨y, b, ys, a1, a2, a3, a4⟩ := h j hj2
  obtain ⟨y', ys', b1, b2, b3⟩ := hj j hj2
  rw [a1] at b1; cases b1
  rw [a2] at b2; cases b2
  rw [a3] at b3; cases b3
  exact a4
/-- match -/
theorem lmt_ {a xe ar cap p0 q0 b1 t bd m9 nn w8 : Nat} {mu rf : Int32} {f : Nat → Option Nat} {vf : Nat → Nat} (H : LyH R S0 S E P Γ L js Λ gv bw p q b c v w8) (hV : LbV R S0 E Λ gv bw V nn) (hm : m9 ≤ nn + 1) (ha : a ∈ ZL R.S) (k1 : ZF S0 a = stC 5 p 0 mu rf .null (.ref xe) .null .null .null .null .null (.ref ar) mn) (k2 : p < p0) (k3 : (rf = 0 ∧ mu = 0 ∧ bd = 0 ∧ xE R S0 Γ 408 16 xe p0 q0 b b1 t) ∨ (rf = 1 ∧ b1 = b + 1 ∧ ∃ (vv m2 w2 : Nat) (π : List (Nat × Nat)), ((mu = 0 ∧ bd = 1) ∨ (mu = 1 ∧ bd = 2 ∧ m2 = 1)) ∧ xPl R S0 Γ 408 xe p0 q0 vv π t m2 w2 ∧ π.length ≤ 4)) (k4 : isTy S0 t 4 (nI i) none) (k5 : enM R S0 i mn) (k6 : nXo R ar) (k7 : ZF S0 ar = .inl (R.K.1 7, cap, .inr (.inr (.inr (.inr f))))) (k8 : mn ≤ cap) (l1 : chJ (fun k y p1 q1 b2 c1 v1 w1 => sN R S0 Λ gv m9 2 y p1 q1 b2 c1 v1 w1 Γ Γ (i, vf k, bd)) f mn (q0 + 1) (q - 1) b1 c v w8) (l2 : ∀ k j : Nat, k < mn → j < mn → vf k = vf j → k = j) (l3 : ∀ k : Nat, k < mn → vf k < mn) : Rt (f_layMatch R.K V S (some a)) (fun S2 _ => LyQ R S0 S E P Γ Γ L js Λ bw p q b c v w8 (amE S0 mn f) 1 S2) := by
  have H2 := H
  obtain ⟨hF, hB, cc, k0, hG, hv, hw, hpq, hP, hl, hr⟩ := H2
  have hL := hF.1.1
  have hY := hF.1.2.1
  have hEy := hF.1.2.2.2.2.1
  obtain ⟨y1, y2, y3, y4⟩ := k5.y hY
  have k5' := k5
  obtain ⟨fs, i1, i2, i3, i4, i5, i6⟩ := k5'
  have hm1 : 1 ≤ mn := hF.1.2.2.2.2.2.2.2.2.2.2.1 i mn fs i1 (by rw [i2]; decide) i4 i5 i6
  obtain ⟨ps, bs, vs, h1, h2, h3, h4, h5, h6, h7⟩ := l1
  have hmo : ∀ i j : Nat, i ≤ j → j ≤ mn → ps i + (j - i) ≤ ps j ∧ bs i ≤ bs j ∧ vs i ≤ vs j := fun i' j hi hj => chJ_mo (P := fun k y p1 q1 b2 c1 v1 w1 => sN R S0 Λ gv m9 2 y p1 q1 b2 c1 v1 w1 Γ Γ (i, vf k, bd)) (fun i x p q b c v w _ z => ⟨sN_lt z, (sN_mo z).1, (sN_mo z).2⟩) h7 hi hj
  obtain ⟨m8, rfl⟩ : ∃ m8 : Nat, m9 = m8 + 1 := by
    cases m9 with
    | zero => obtain ⟨y, _, w⟩ := h7 0 (by omega); exact w.elim
    | succ m8 => exact ⟨m8, rfl⟩
  have hmn := hmo 0 mn (Nat.zero_le _) (Nat.le_refl _)
  have hpq0 : p0 < q0 := by
    rcases k3 with ⟨_, _, _, z⟩ | ⟨_, _, vv, m2, w2, π, _, z, _⟩
    · exact xE_lt z
    · exact (xPl_c z).2.1
  have hb1 : b ≤ b1 := by
    rcases k3 with ⟨_, _, _, z⟩ | ⟨_, z, _⟩
    · exact xE_bc z
    · omega
  have w1 := hB.mo (p := p) (q := q0) (by omega) (by omega)
  have w2 := hB.mo (p := q0) (q := ps 0) (by omega) (by omega)
  have w3 := hB.mo (p := ps 0) (q := ps mn) (by omega) (by omega)
  have w4 := hB.mo (p := ps mn) (q := q) (by omega) (by omega)
  have r4 : ∀ {S' : Sg}, LX S0 S' → oI S' 19 (some a) 4 = some rf := fun hx => hx.vi (by decide) (by decide) (oI_mk (hL a ha) k1 rfl)
  have r3 : ∀ {S' : Sg}, LX S0 S' → oI S' 19 (some a) 3 = some mu := fun hx => hx.vi (by decide) (by decide) (oI_mk (hL a ha) k1 rfl)
  have r6 : ∀ {S' : Sg}, LX S0 S' → oR S' 19 (some a) 6 = some (some xe) := fun hx => hx.vr (by decide) (by decide) (oR_mk (hL a ha) k1 (v := some xe) rfl)
  have hgs : xe ∈ ZL R.S ∧ ∃ (gs : List Value) (px : Nat), ZF S0 xe = .inr (15, gs) ∧ gs[12]? = some (.ref t) ∧ gs[1]? = some (.int (nI px)) ∧ px < R.T := by
    rcases k3 with ⟨_, _, _, z⟩ | ⟨_, _, vv, m2, w2, π, _, z, _⟩
    · obtain ⟨gs, g1, g2, g3⟩ := xE_t12 z
      obtain ⟨px, g4, g5⟩ := xE_tk z g2 (by omega)
      exact ⟨g1, gs, px, g2, g3, g4, g5⟩
    · obtain ⟨gs, g1, g2, g3⟩ := xPl_ty z
      obtain ⟨gs', g4, g5⟩ := xPl_t1 z
      obtain rfl : gs' = gs := by rw [g2] at g4; cases g4; rfl
      exact ⟨g1, gs', p0, g2, g3, g5, by omega⟩
  obtain ⟨hxe, gs, px, g1, g12, gx, hpx⟩ := hgs
  have hM : MtH R S0 a xe ar px p mn mu rf := ⟨ha, k1, by omega, hxe, gs, g1, gx, hpx⟩
  have hvt : vTy S0 t := vTy.pl k4 (by decide)
  have eV : abT S0 t = 4 + i := by rw [(hvt.nm hY).2.2, abV_it hY (Or.inr rfl) i1 k4]
  unfold f_layMatch
  rcases k3 with ⟨z1, z2, z3, z4⟩ | ⟨z1, z2, vv, m2, w9, π, z3, z4, z5⟩
  · -- by value
    refine Rt.bd (r4 cc.1) (Rt.ip z1 ?_)
    unfold f_layMatch_19
    have hbc : b1 ≤ c := by omega
    refine Rt.bd (r4 cc.1) (Rt.ip z1 (Rt.bd (r6 cc.1) (Rt.bn (sgv (p := p) (q := q) (c := b1) (v := v) (w := v) ⟨hF, hB, cc, k0, hG, hv, ⟨Nat.le_refl _, by omega⟩, hpq, hP, ⟨hb1, by omega⟩, hr⟩ z4 (by omega) (by omega)) (fun S1 _ t1 => ?_))))
    obtain ⟨P1, L1, g1', b1', b2', b3', b4', b5', kk1⟩ := t1
    have hre : resE S0 t = [(0, 4 + i, 0)] := by
      rw [resE_r hY (Or.inl hvt), eV]
      unfold eT
      rw [if_neg (by omega)]
    rw [hre] at g1'
    have hw1 : wl ([(0, 4 + i, 0)] ++ mkV js) = 0 + 1 := by show wl ((0, 4 + i, 0) :: mkV js) = _; rw [wl_0t, wl_mk]
    rw [hw1] at g1'
    unfold f_layMatch_35
    refine Rt.bd (r4 g1'.1.1) (Rt.ip z1 ?_)
    unfold f_layMatch_50
    refine Rt.bd (r6 g1'.1.1) (Rt.bd (g1'.1.1.vi (by decide) (by decide) (oI_mk (hL xe hxe) g1 gx)) ?_)
    refine pnt_ (Lb := L1) (Sb := S1) (z := 0) (n := 0) (by omega) g1'.1 LZ.rf (Nat.le_refl _) (by omega) (by omega) UsK.rf (fun S2 p2 e2 => ?_)
    refine Rt.bd (r4 p2.1.1) (Rt.ip z1 ?_)
    have e48 : Zi S2 48 - 1 = nI 0 := by rw [p2.1.2.2.1]; exact nI_pred 0
    refine p2.hh e48 (fun S3 p3 e3 => ?_)
    refine lma105 (w9 := 0) (va9 := 0) (ix := 0) (tv := 0) (xt := 0) (ρ := []) (t := t) hF hB hV (by omega) hM ⟨gs, g1, g12⟩ k4 k5 k6.1 k7 k8 hG (by rw [h5]; exact hv) (by omega) (by omega) h7 l2 l3 hmo (by omega) (by omega) (g1'.rm hr (by omega) (by omega)) (Or.inl ⟨z1, z3⟩) p3 (kk1.st p3.2.1 (Nat.le_succ _)) (fun S4 Pe Le z2 n2 A J bk xk ft ta F hx hat qq hta hj kk4 d1 d2 d3 d4 => ?_)
    obtain ⟨sc, c1, c2, c3, c4⟩ := mt_sc (Z := fun j => xkO (cdP 0 []) E js i bd (vf j) (xk j) ∧ ∃ (y : Nat) (ys : List Value), f j = some y ∧ ZF S0 y = .inr (13, ys) ∧ ys[5]? = some (.ref (bk j))) qq l2 l3 hj (by omega) hm1 hta
    have hz : rz R S0 S4 P1 ((20, 0, none, (none, none), ([], []), sc, (i, 0, 0), []) : iR) := rz_m (K := 20) (Or.inl rfl) rfl hat rfl rfl (by show (0 : Nat) < 8; decide) rfl rfl (Or.inl ⟨rfl, rfl⟩) (Or.inl ⟨rfl, rfl⟩) ⟨px, rfl, hpx⟩ (Or.inl ⟨rfl, rfl⟩) rfl c3 c2
    have T := qq.mm mn (Nat.le_refl _)
    rw [qq.2.1] at T
    have T2 := T.fin hz rfl (fun j hj2 => by
      obtain ⟨g, hg⟩ := List.mem_iff_getElem?.mp hj2
      obtain ⟨k, a1, a2, a3, a4⟩ := c4 g j hg
      exact ⟨xk k, k, a1, a3, rfl⟩) (x0 := [(0, 4 + i, 0)] ++ mkV js) (by rw [hw1]; omega) (tP_20 rfl ⟨iD0_0, mkV js, rfl, wl_mk, y4, by rw [hEy]; exact y1, by rw [hEy]; exact c1.trans y2.symm, by show sc.length ≤ 12; omega, fun g j e => by
        obtain ⟨k, a1, a2, a3, a4⟩ := c4 g j e
        refine ⟨a4, k, a1, a3, ?_⟩
        rcases (hj k a1).2.1 with ⟨_, w⟩ | ⟨w, _⟩
        · rw [w, a2]; rfl
        · exact absurd z3 w⟩)
    have g5 : GV R S0 S1 S4 E P1 Pe (0 + 1) 0 Γ Γ L1 Le ([(0, 4 + i, 0)] ++ mkV js) (mkV js) (amE S0 mn f) z2 n2 := ⟨F.1, F.2.1, T2.fl (fun w => w.bx (fun j hj2 => (hj j hj2).2.2)), F.2.2⟩
    exact LyQ.of hG (fun i hi => by have := hv i hi; omega) (g1'.tr g5 (fun w => Or.inr w) (Nat.le_refl _) (Nat.le_refl _)) (by omega) (by omega) (by omega) (by omega) kk4
  · -- by reference
    have hA1 : ALv S0 E Γ (mkV js) := hG.al hF (fun i hi => List.mem_map.mpr ⟨i, hi, rfl⟩) nT_mk
    have hrf : rf ≠ 0 := by rw [z1]; decide
    refine Rt.bd (r4 cc.1) (Rt.iq hrf (Rt.bd (r6 cc.1) (Rt.bn (pthS hF hA1 cc z4 z5 (hr.le (by omega) (by omega))) (fun S1 r t1 => ?_))))
    obtain ⟨w, ix, tv, rfl, c1, kx1, pw1, zz1, nn1, u1, pn1, ⟨ix40, iad⟩, evt, hin, rtv, _, qms, hvt', hx0, hmu⟩ := t1
    unfold f_layMatch_19
    refine Rt.bd (r4 c1.1) (Rt.iq hrf ?_)
    unfold f_layMatch_35
    refine Rt.bd (r4 c1.1) (Rt.iq hrf ?_)
    unfold f_layMatch_50
    refine Rt.bd (r6 c1.1) (Rt.bd (c1.1.vi (by decide) (by decide) (oI_mk (hL xe hxe) g1 gx)) ?_)
    refine pnt_ (Lb := L) (Sb := S) (z := 3) (n := 13) (by omega) c1 (kx1.1 _ _) (Nat.le_refl _) zz1 nn1 u1 (fun S2 p2 e2 => ?_)
    have hwm : w ∈ ZL S1 := by obtain ⟨_, _, _, _, h, _⟩ := pw1; exact h
    refine Rt.bd (r4 p2.1.1) (Rt.iq hrf (Rt.bn (thr_ (by omega) p2 hY (pw1.st e2.1) (by omega) (by omega) (pn1.st e2.1 hwm) (by have := hr.1; omega) (by have := hr.2; omega)) (fun S3 _ t3 => ?_)))
    obtain ⟨x3, p3, l3', v1, v2, v3, v4, v5, v6, v7⟩ := t3
    have hπ0 : isRf (abT S0 tv) → π ≠ [] := fun q e => by
      rw [← hx0 e, eV] at q
      have := q.1; omega
    have h91 : ∀ ac n3 : Nat, ((ac = 2 ∧ n3 = 1 ∧ mu = 0 ∧ bd = 1) ∨ (ac = 3 ∧ n3 = 0 ∧ mu = 1 ∧ bd = 2 ∧ m2 = 1)) → Rt (f_layMatch_91 R.K V S3 (some a) (some w) (nI P) (nI ac) (nI P)) (fun S2 _ => LyQ R S0 S E P Γ Γ L js Λ bw p q b c v w8 (amE S0 mn f) 1 S2) := fun ac n3 hac => by
      have hac8 : ac < 8 := by rcases hac with w | w <;> omega
      unfold f_layMatch_91
      refine p3.wI (by omega) (by decide) (fun S4 p4 e4 => ?_)
      have pw4 := ((pw1.st e2.1).st l3').st e4.1
      refine lma105 (w9 := w) (va9 := vv) (ix := ix) (tv := tv) (xt := t) (ρ := π) (t := t) (bd := bd) hF hB hV (by omega) hM ⟨gs, g1, g12⟩ k4 k5 k6.1 k7 k8 hG (by rw [h5]; exact hv) (by omega) (by omega) h7 l2 l3 hmo (by omega) (by omega) (hr.le (by omega) (by omega)) (Or.inr ⟨z1, z3.imp id (fun w => ⟨w.1, w.2.1⟩), rfl, pw4, k4, ⟨ix40, iad⟩, evt, hin, qms, z5, i1, fun q1 q2 => by
        rcases hac with ⟨_, _, _, w4⟩ | ⟨_, _, _, _, w5⟩
        · exact absurd w4 q1
        · rw [evt] at q2 ⊢
          exact hmu q2 (hπ0 q2) w5⟩) p4 (k0.st p4.2.1 (Nat.le_succ _)) (fun S5 Pe Le z2 n2 A J bk xk ft ta F hx hat qq hta hj kk4 d1 d2 d3 d4 => ?_)
      obtain ⟨sc, c1', c2, c3, c4⟩ := mt_sc (Z := fun j => xkO (cdP ix π) E js i bd (vf j) (xk j) ∧ ∃ (y : Nat) (ys : List Value), f j = some y ∧ ZF S0 y = .inr (13, ys) ∧ ys[5]? = some (.ref (bk j))) qq l2 l3 hj (by omega) hm1 hta
      have hpt := (pw4.st hx).pt F.1 (by omega)
      rw [eV] at hpt
      have hus : ∀ r : Nat, (r = 36 ∨ r = 37) → rAr R S5 (va_up x3.2.2 42 (some ta) r) (ifR (E.vt ix) [ix] []) := fun r hr => by
        rw [va_up_ne _ _ (by omega)]
        by_cases q : isRf (E.vt ix)
        · rw [ifR_p q]
          rw [evt] at q
          rcases hr with e | e <;> subst e
          · exact ((v6 q).2.st e4.1).st hx
          · exact ((v6 q).1.st e4.1).st hx
        · rw [ifR_n q]
          rw [evt] at q
          rcases hr with e | e <;> subst e
          · exact Or.inl ⟨(v7 q).2, rfl⟩
          · exact Or.inl ⟨(v7 q).1, rfl⟩
      have g9 : ∀ r : Nat, r ≠ 33 → upd x3.1 33 (nI ac) r = (ptRc 21 (nI px)).1 r := fun r h1 => by rw [upd_n h1, v1]
      have hz : rz R S0 S5 P ((21, ac, some (ix, π, 4 + i), (none, none), (ifR (E.vt ix) [ix] [], ifR (E.vt ix) [ix] []), sc, (i, vv, n3), []) : iR) := rz_m (K := 21) (Or.inr rfl) rfl hat ((g9 27 (by decide)).trans rfl) (upd_s (f := x3.1) (k := 33)) hac8 ((g9 34 (by decide)).trans rfl) ((g9 35 (by decide)).trans rfl) (hus 37 (Or.inr rfl)) (hus 36 (Or.inl rfl)) ⟨px, (g9 32 (by decide)).trans rfl, hpx⟩ (Or.inr ⟨w, ix, 4 + i, π, (va_up_ne x3.2.2 (some ta) (show (38 : Nat) ≠ 42 by decide)).trans v3, rfl, hpt, (pw4.st hx).va⟩) rfl c3 c2
      have T := qq.mm mn (Nat.le_refl _)
      rw [qq.2.1] at T
      obtain ⟨_, _, _, _, _, _, _, _, q5, q6, _⟩ := id pw4
      have hpty : pTy E.y (E.vt ix) π (4 + i) := by rw [hEy, evt, ← eV]; exact q5.ty hY q6
      have T2 := T.fin hz rfl (fun j hj2 => by
        obtain ⟨g, hg⟩ := List.mem_iff_getElem?.mp hj2
        obtain ⟨k, a1, a2, a3, a4⟩ := c4 g j hg
        exact ⟨xk k, k, a1, a3, rfl⟩) (x0 := mkV js) (by rw [wl_mk]; omega) (tP_21 rfl ⟨rfl, rfl, ix, π, ⟨rfl, ⟨ix40, iad⟩, hin, hpty, qms, by show 4 + i ≠ 0; omega, z5, nT_mk⟩, ⟨fun q => ⟨ifR_p q, ifR_p q⟩, fun q => ⟨ifR_n q, ifR_n q⟩⟩, wl_mk, y4, by rw [hEy]; exact y1, by
          rcases hac with ⟨w1, w2, _⟩ | ⟨w1, w2, w3, w4, w5⟩
          · exact Or.inl ⟨w1, w2⟩
          · refine Or.inr ⟨w1, w2, fun q => ?_⟩
            rw [evt] at q ⊢
            exact hmu q (hπ0 q) w5, by rw [hEy]; exact c1'.trans y2.symm, by show sc.length ≤ 12; omega, fun g j e => by
          obtain ⟨k, a1, a2, a3, a4⟩ := c4 g j e
          refine ⟨a4, ?_⟩
          have hb0 : bd ≠ 0 := by rcases hac with w | w <;> omega
          have htag : (if n3 = 1 then 5 else 6) = (if bd = 1 then (5 : Nat) else 6) := by
            rcases hac with w | w
            · rw [if_pos w.2.1, if_pos w.2.2.2]
            · rw [if_neg (by omega), if_neg (by omega)]
          rcases (hj k a1).2.1 with ⟨w, _⟩ | ⟨_, w⟩
          · exact absurd w hb0
          · rw [a2] at w
            rcases w with ⟨w1, w2⟩ | ⟨w1, w2⟩
            · exact Or.inl ⟨w1, k, a1, a3, w2.symm⟩
            · refine Or.inr ⟨w1, k, a1, a3, ?_⟩
              show (if n3 = 1 then 5 else 6, i * 12 + g, 64 * cdP ix π) :: mkV js = xk k
              rw [w2, htag]⟩)
      have g5 : GV R S0 S S5 E P Pe 0 0 Γ Γ L Le (mkV js) (mkV js) (amE S0 mn f) z2 n2 := ⟨F.1, F.2.1, T2.fl (fun w => w.bx (fun j hj2 => (hj j hj2).2.2)), F.2.2⟩
      exact LyQ.of hG (fun i hi => by have := hv i hi; omega) g5 (by omega) (by omega) (by omega) (by omega) kk4
    refine Rt.bd (r3 p3.1.1) (Rt.it (fun w => ?_) (fun w => ?_))
    · refine h91 2 1 (Or.inl ⟨rfl, rfl, w, ?_⟩)
      rcases z3 with z | z
      · exact z.2
      · exact absurd (w.symm.trans z.1) (by decide)
    · refine h91 3 0 (Or.inr ?_)
      rcases z3 with z | z
      · exact absurd z.1 w
      · exact ⟨rfl, rfl, z⟩
end LY44
end
-- m1.t.lean.txt
section
section LY45
variable {R : yR} {S0 Sb Sx S S1 S2 S3 : Sg} {P P1 P2 P3 Pe h h0 h1 h2 hc L L1 L2 Le Lb z n z2 n2 : Nat} {Γ Γ0 Γ1 Γ2 Λ : List Nat} {E : eV} {s s1 s2 yD : List tE} {gv : Nat} {js ks us : List Nat} {bw : Nat → Nat} {V : Sg → Option Nat → Option (Sg × Unit)} {cl cl2 : Prop} {p q b c v w : Nat}
/-- FUEL ahead of a statement -/
theorem LyQ.fu (g : GV R S0 S S1 E P (P + 1) 0 0 Γ Γ L L (mkV js) (mkV js) False 0 0) (t : LyQ R S0 S1 E (P + 1) Γ Γ2 L js Λ bw p q b c v w cl 1 S2) (hc : cl2 → cl) : LyQ R S0 S E P Γ Γ2 L js Λ bw p q b c v w cl2 0 S2 := by
  obtain ⟨P2, L2, z, n, js2, g2, c1, c2, c3, c4, c5, c6, c7, c8⟩ := t
  exact ⟨P2, L2, 0 + z, 0 + n, js2, g.tr g2 (fun w => Or.inr (hc w)) (Nat.le_refl _) (Nat.le_refl _), c1, c2, c3, by omega, by omega, by omega, c7, c8⟩
theorem eS_c {Q : Nat → Prop} {a tk mn : Nat} {kd nm mu rf : Int32} {wr ex pl vr bl cs bs ar : Value} (k1 : ZF S a = stC kd tk nm mu rf wr ex pl vr bl cs bs ar mn) (h : eS S Q a) : kd = 6 ∨ (kd = 8 ∧ ∃ y : Nat, bl = .ref y ∧ Q y) ∨ (kd = 5 ∧ ∃ (ar' mn' cap : Nat) (k9 : ClassId) (f : Nat → Option Nat), ar = .ref ar' ∧ nI mn = nI mn' ∧ mn' ≤ 100000 ∧ ZF S ar' = .inl (k9, cap, .inr (.inr (.inr (.inr f)))) ∧ ∀ k : Nat, k < mn' → ∃ (y bk : Nat) (ys : List Value), f k = some y ∧ ZF S y = .inr (13, ys) ∧ ys[5]? = some (.ref bk) ∧ Q bk) ∨ (kd = 3 ∧ ∃ (ca ba mn' cap cap2 : Nat) (k8 k9 : ClassId) (f g : Nat → Option Nat), cs = .ref ca ∧ bs = .ref ba ∧ nI mn = nI mn' ∧ 1 ≤ mn' ∧ mn' ≤ 100000 ∧ ZF S ca = .inl (k8, cap, .inr (.inr (.inr (.inr f)))) ∧ f (mn' - 1) = none ∧ ZF S ba = .inl (k9, cap2, .inr (.inr (.inr (.inr g)))) ∧ ∀ k : Nat, k < mn' → ∃ y : Nat, g k = some y ∧ Q y) := by
  obtain ⟨fs, h1, h2⟩ := h
  obtain rfl : fs = _ := (Prod.mk.inj (Sum.inr.inj (h1.symm.trans k1))).2
  rcases h2 with h2 | ⟨h2, y, h3, h4⟩ | ⟨h2, ar', mn', cap, k9, f, h3, h4, h5, h6, h7⟩ | ⟨h2, ca, ba, mn', cap, cap2, k8, k9, f, g, h3, h4, h5, h6, h7, h8, h9, h10, h11⟩
  · exact Or.inl (Value.int.inj (Option.some.inj h2))
  · exact Or.inr (Or.inl ⟨Value.int.inj (Option.some.inj h2), y, Option.some.inj h3, h4⟩)
  · exact Or.inr (Or.inr (Or.inl ⟨Value.int.inj (Option.some.inj h2), ar', mn', cap, k9, f, Option.some.inj h3, Value.int.inj (Option.some.inj h4), h5, h6, h7⟩))
  · exact Or.inr (Or.inr (Or.inr ⟨Value.int.inj (Option.some.inj h2), ca, ba, mn', cap, cap2, k8, k9, f, g, Option.some.inj h3, Option.some.inj h4, Value.int.inj (Option.some.inj h5), h6, h7, h8, h9, h10, h11⟩))
theorem eS_no {Q : Nat → Prop} {a tk mn : Nat} {kd nm mu rf : Int32} {wr ex pl vr bl cs bs ar : Value} (k1 : ZF S a = stC kd tk nm mu rf wr ex pl vr bl cs bs ar mn) (h0 : kd = 0 ∨ kd = 1 ∨ kd = 2 ∨ kd = 4 ∨ kd = 7) (h : eS S Q a) : False := by
  rcases eS_c k1 h with e | ⟨e, _⟩ | ⟨e, _⟩ | ⟨e, _⟩ <;> subst e <;> exact absurd h0 (by decide)
/-- statements -/
theorem lay_ (hV : LbV R S0 E Λ gv bw V n) : LsV R S0 E Λ gv bw (f_lay R.K V) (n + 1) := fun m hm a p q b c v w Γ Γ2 hs S P L js H hP0 hr0 => by
  obtain ⟨hF, hB, cc, k0, hG, hv, hw, hpq, hP, hl, hr⟩ := H
  have hL := hF.1.1
  have hT3 : R.T ≤ 3001 := hF.1.2.2.2.2.2.2.2.2.2.1
  cases m with
  | zero => exact hs.elim
  | succ m =>
    obtain ⟨⟨ha, _, _⟩, hs⟩ := hs
    have hmn : m ≤ n := by omega
    -- the first point
    have h0 : ∀ {kd nm mu rf : Int32} {wr ex pl vr bl cs bs ar : Value} {mn : Nat} {g : Sg → Int32 → Option (Sg × Unit)} {Q : Sg → Unit → Prop}, ZF S0 a = stC kd p nm mu rf wr ex pl vr bl cs bs ar mn → (∀ S1 : Sg, GV R S0 S S1 E P (P + 1) 0 0 Γ Γ L L (mkV js) (mkV js) False 0 0 → LyH R S0 S1 E (P + 1) Γ L js Λ gv bw p q b c v w → Rt (g S1 kd) Q) → Rt ((oI S 19 (some a) 1).bind fun v1 => bnd (f_point R.K S 0 v1) fun S2 _ => (oI S2 19 (some a) 0).bind fun v4 => g S2 v4) Q := fun {kd nm mu rf wr ex pl vr bl cs bs ar mn g Q} k1 k => by
      refine Rt.bd (cc.1.vi (by decide) (by decide) (oI_mk (hL a ha) k1 (v := nI p) rfl)) (fue_ (E := E) (h0 := 0) (Γ0 := Γ) (s := mkV js) cc (by omega) (by omega) (by rw [wl_mk]; omega) nT_mk (fun S1 g1 kk1 _ => ?_))
      refine Rt.bd (g1.1.1.vi (by decide) (by decide) (oI_mk (hL a ha) k1 (v := kd) rfl)) (k S1 g1 ⟨hF, hB, g1.1, kk1 k0, hG, hv, hw, hpq, by omega, hl, g1.rm hr0 (by omega) (by omega)⟩)
    rcases hs with ⟨nm, y, mu, wr, ex, k1, k2, k3, k4, k5⟩ | ⟨kd, x, p', q', t, k1, k2, k3, k4, k5, k6, k7⟩ | ⟨x, y, q1, p3, q3, vv, t, mu, mv, π, k1, k2, k3, k4, k5, k6, k7, k8, k9⟩ | ⟨ca, ba, cap, mn, f, g, k1, k2, k3, k4, k5, k6, k7, k8, k9, l1⟩ | ⟨x, y, q0, b1, t, k1, k2, k3, k4, k5⟩ | ⟨x, ar, cap, mn, p0, q0, b1, i, t, bd, mu, rf, f, vf, k1, k2, k3, k4, k5, k6, k7, k8, k9, l1, l2, l3⟩ | ⟨ex, k1, k2, k3, k4⟩ | ⟨y, k1, k2, k3⟩
    · unfold f_lay
      refine h0 k1 (fun S1 g1 H1 => Rt.ip rfl (Rt.bn (llt_ H1 ha k1 k2 k3 k4 k5) (fun S2 _ t2 => ?_)))
      unfold f_lay_210
      exact Rt.rt (t2.fu g1 (fun w => eS_no k1 (by decide) w))
    · obtain rfl : w = v := k6
      obtain rfl : Γ2 = Γ := k7
      unfold f_lay
      rcases k1 with rfl | ⟨rfl, k1⟩
      · refine h0 k2 (fun S1 g1 H1 => Rt.iq (by decide) (Rt.ip rfl ?_))
        exact (lex_ H1 ha k2 k3 k4 k5).mo (fun S2 _ t2 => t2.fu g1 (fun w => eS_no k2 (by decide) w))
      · refine h0 k2 (fun S1 g1 H1 => Rt.iq (by decide) (Rt.iq (by decide) (Rt.iq (by decide) (Rt.iq (by decide) (Rt.iq (by decide) (Rt.iq (by decide) (Rt.iq (by decide) (Rt.ip rfl ?_))))))))
        exact (lpr_ H1 ha k2 k1 k3 k4 k5).mo (fun S2 _ t2 => t2.fu g1 (fun w => eS_no k2 (by decide) w))
    · obtain rfl : w = v := k8
      obtain rfl : Γ2 = Γ := k9
      unfold f_lay
      refine h0 k1 (fun S1 g1 H1 => Rt.iq (by decide) (Rt.iq (by decide) (Rt.ip rfl (Rt.bn (las_ H1 ha k1 k2 k3 k4 k5 k6 k7) (fun S2 _ t2 => ?_)))))
      unfold f_lay_210
      exact Rt.rt (t2.fu g1 (fun w => eS_no k1 (by decide) w))
    · obtain rfl : Γ2 = Γ := k9
      unfold f_lay
      have hps : mn ≤ 3001 := by
        obtain ⟨ps, bs, vs, z1, z2, _, _, _, _, z7⟩ := l1
        have hh : ∀ d : Nat, d ≤ mn → ps 0 + d ≤ ps d := fun d => by
          induction d with
          | zero => intro _; omega
          | succ d ih =>
            intro hd
            obtain ⟨x, _, p0, b0, y1, y2, y3⟩ := z7 d (by omega)
            have := sN_lt y3
            have := ih (by omega)
            omega
        have := hh mn (Nat.le_refl _)
        omega
      refine h0 k1 (fun S1 g1 H1 => Rt.iq (by decide) (Rt.iq (by decide) (Rt.iq (by decide) (Rt.ip rfl (Rt.bn (lif_ H1 hV hmn ha k1 k4.1 k5.1 k6 k7 k3 k2 l1) (fun S2 _ t2 => ?_))))))
      unfold f_lay_210
      refine Rt.rt (t2.fu g1 (fun w => ?_))
      rcases eS_c k1 w with e | ⟨e, _⟩ | ⟨e, _⟩ | ⟨_, ca', ba', mn', cap', cap2, k8', k9', f', g', e1, e2, e3, e4, e5, e6, e7, e8, e9⟩
      · exact absurd e (by decide)
      · exact absurd e (by decide)
      · exact absurd e (by decide)
      · obtain rfl : ca' = ca := (Value.ref.inj e1).symm
        obtain rfl : ba' = ba := (Value.ref.inj e2).symm
        obtain rfl : mn' = mn := (nI_ij e3 (by omega) (by omega)).symm
        obtain rfl : f' = f := by rw [k6] at e6; cases e6; rfl
        obtain rfl : g' = g := by rw [k7] at e8; cases e8; rfl
        exact ⟨⟨mn' - 1, by omega, e7⟩, e9⟩
    · obtain rfl : Γ2 = Γ := k5
      unfold f_lay
      refine h0 k1 (fun S1 g1 H1 => Rt.iq (by decide) (Rt.iq (by decide) (Rt.iq (by decide) (Rt.iq (by decide) (Rt.ip rfl (Rt.bn (lwh_ H1 hV hmn ha k1 k2 k3 k4) (fun S2 _ t2 => ?_)))))))
      unfold f_lay_210
      exact Rt.rt (t2.fu g1 (fun w => eS_no k1 (by decide) w))
    · obtain rfl : Γ2 = Γ := k9
      unfold f_lay
      have hm12 : mn ≤ 12 := by obtain ⟨_, _, _, _, _, _, w⟩ := k5; exact w
      refine h0 k1 (fun S1 g1 H1 => Rt.iq (by decide) (Rt.iq (by decide) (Rt.iq (by decide) (Rt.iq (by decide) (Rt.iq (by decide) (Rt.ip rfl (Rt.bn (lmt_ H1 hV (by omega) ha k1 k2 k3 k4 k5 k6 k7 k8 l1 l2 l3) (fun S2 _ t2 => ?_))))))))
      unfold f_lay_210
      refine Rt.rt (t2.fu g1 (fun w => ?_))
      rcases eS_c k1 w with e | ⟨e, _⟩ | ⟨_, ar', mn', cap', k9', f', e1, e2, e3, e4, e5⟩ | ⟨e, _⟩
      · exact absurd e (by decide)
      · exact absurd e (by decide)
      · obtain rfl : ar' = ar := (Value.ref.inj e1).symm
        obtain rfl : mn' = mn := (nI_ij e2 (by omega) (by omega)).symm
        obtain rfl : f' = f := by rw [k7] at e4; cases e4; rfl
        exact e5
      · exact absurd e (by decide)
    · obtain rfl : w = v := k3
      obtain rfl : Γ2 = Γ := k4.1
      unfold f_lay
      refine h0 k1 (fun S1 g1 H1 => Rt.iq (by decide) (Rt.iq (by decide) (Rt.iq (by decide) (Rt.iq (by decide) (Rt.iq (by decide) (Rt.iq (by decide) (Rt.ip rfl (Rt.bn (lrt_ H1 ha k1 k2 k4.2) (fun S2 _ t2 => ?_)))))))))
      unfold f_lay_210
      exact Rt.rt (t2.fu g1 (fun _ => trivial))
    · obtain rfl : Γ2 = Γ := k3
      unfold f_lay
      refine h0 k1 (fun S1 g1 H1 => Rt.iq (by decide) (Rt.iq (by decide) (Rt.iq (by decide) (Rt.iq (by decide) (Rt.iq (by decide) (Rt.iq (by decide) (Rt.iq (by decide) (Rt.iq (by decide) ?_)))))))) 
      obtain ⟨_, _, c1, kk1, _, _, _, _, hP1, _, hr1⟩ := H1
      refine Rt.bd (c1.1.vr (by decide) (by decide) (oR_mk (hL a ha) k1 (v := some y) rfl)) (Rt.bn (hV m hmn y p q b c v w Γ2 k2 S1 (P + 1) L js ⟨hF, hB, c1, Or.inr kk1, hG, hv, hw, hpq, hP1, hl, hr1.le (by omega) (by omega)⟩) (fun S2 _ t2 => ?_))
      obtain ⟨P2, L2, z2, n2, g2, d1, d2, d3, d4, d5⟩ := t2
      unfold f_lay_210
      refine Rt.rt (LyQ.fu (cl := eBx S0 y) g1 (LyQ.of hG (fun i hi => by have := hv i hi; omega) g2 (by omega) (by omega) (by omega) (by omega) ?_) (fun w => ?_))
      · rcases d5 with e | e
        · have := g2.2.2.2.2.2.1; omega
        · exact e
      · rcases eS_c k1 w with e | ⟨_, y', e1, e2⟩ | ⟨e, _⟩ | ⟨e, _⟩
        · exact absurd e (by decide)
        · cases e1; exact e2
        · exact absurd e (by decide)
        · exact absurd e (by decide)
/-- blocks -/
theorem lbk_ : ∀ (d : Nat), LbV R S0 E Λ gv bw (f_layBlock R.K d) (2 * d)
  | 0 => fun m hm bl p q b c v w Γ hs => by
    obtain rfl : m = 0 := by omega
    exact hs.elim
  | d + 1 => fun m hm bl p q b c v w Γ hs S P L js H => by
    cases m with
    | zero => exact hs.elim
    | succ m =>
      have H2 := H
      obtain ⟨hF, hB, cc, k0, hG, hv, hw, hpq, hP, hl, hr⟩ := H2
      obtain ⟨h1, h2, _, la, cap, mn, f, gs, e1, e2, e3, e4, e5, ps, bs, vs, h3, h4, h5, h6, h7, h8, h9⟩ := hs
      have hVs : LsV R S0 E Λ gv bw (f_lay R.K (f_layBlock R.K d)) m := by
        cases m with
        | zero =>
          intro m hm a p q b c v w Γ Γ2 hs
          obtain rfl : m = 0 := by omega
          exact hs.elim
        | succ m => exact lay_ (n := m) (fun m2 hm2 => lbk_ d m2 (by omega))
      show Rt (f_layBlock_7 R.K (f_layBlock R.K d) bigN S (some bl) (Zi S 50) 0) _
      have e50 : Zi S 50 = nI js.length := by rw [← hG.len]; exact cc.2.2.2.1.1
      rw [e50]
      refine lbk7 (n := m) H hVs h1.1 e1 e2.1 e3 e4 e5 h3 h4 h5 h6 h7 h8 h9 bigN 0 S P L 0 0 [] ?_ (Nat.zero_le _) ?_ ?_ ?_ ?_ ?_ ?_ ?_ ?_
      · unfold bigN
        have hT3 : R.T ≤ 3001 := hF.1.2.2.2.2.2.2.2.2.2.1
        have := chJ_mo (P := fun i x p1 q1 b1 c1 v1 w1 => sN R S0 Λ gv m 0 x p1 q1 b1 c1 v1 w1 (gs i) (gs (i + 1)) (0, 0, 0)) (fun i x p q b c v w _ z => ⟨sN_lt z, (sN_mo z).1, (sN_mo z).2⟩) h9 (Nat.zero_le mn) (Nat.le_refl mn)
        omega
      · rw [e5]
        exact ⟨cc, LZ.rf, (tsg.nil wkS.rf).fl (fun ⟨k, _, w, _⟩ => by omega), by omega, by omega, Nat.le_refl _, Nat.le_refl _, RFx.rf⟩
      · rw [e5]; exact hG
      · rw [h7]; exact hv
      · show P + 0 ≤ _; omega
      · show 0 + 3 * 0 ≤ _; omega
      · show 0 + 5 * 0 ≤ _; omega
      · omega
      · exact k0.imp (fun e => ⟨e, rfl⟩) id
end LY45
end
-- m1.u.lean.txt
section
/-- types of a function's variables, by numbers -/
def vtS (S : Sg) (Λ : List Nat) (k : Nat) : Nat := match Λ[k]? with
  | some v => abU S (rN (obF S v) 2)
  | none => 0
def adS (Λ : List Nat) (k : Nat) : Nat := match Λ[k]? with
  | some v => v
  | none => 0
/-- what a function's code is told over, from the store -/
def eVf (R : yR) (S : Sg) (Λ : List Nat) (gv : Nat) : eV := (yT R S, vtS S Λ, hdS R S, abT S gv, lfS R S, rlS R S, adS Λ)
/-- what is known behind the typing -/
def ENb (R : yR) (S0 : Sg) : Prop := RIn R S0 ∧ YK R S0 ∧ KEq R S0 ∧ ITA R S0 ∧ (Zq S0 11 = Zq R.S 11 ∧ Zr S0 5 = Zr R.S 5) ∧ R.T ≤ 3001 ∧ MN1 R S0 ∧ SNH R S0
/-- loans of what came from outside: parameters below j -/
def OUl (R : yR) (S0 S : Sg) (E : eV) (i j L : Nat) : Prop := (∀ l : Nat, l < L → ∃ q : Nat, q < j ∧ Zq S 43 l = none ∧ Zr S 44 l = 1 ∧ Zr S 45 l = nI q ∧ Zr S 46 l = lfS R S0 i q ∧ isRf (E.vt q)) ∧ ∀ q : Nat, q < j → isRf (E.vt q) → ∃ l : Nat, l < L ∧ Zr S 45 l = nI q
/-- a function's points: no way leads out -/
def tsgR (R : yR) (S0 S : Sg) (E : eV) (L a b : Nat) (x : List tE) : Prop := ∃ (st : Nat → List tE) (W : Nat → Prop), wkS x (st a) ∧ W a ∧ a < b ∧ ∀ k : Nat, a ≤ k → k < b → ∃ i : iR, rz R S0 S k i ∧ (∀ l : Nat, i.ln = some l → l < L) ∧ (∀ j ∈ i.sc, a ≤ j ∧ j < b ∧ (W k → W j) ∧ bkO S k j) ∧ wl (st k) ≤ 177 ∧ tPt E k (W k) i (st k) (fun j s => a ≤ j ∧ j < b ∧ wkS s (st j))
/-- a function was laid: points Ps to Pe, L0 loans from outside, L in all -/
def FnL (R : yR) (S0 S : Sg) (Λ : List Nat) (gv i mn Ps Pe L0 L : Nat) : Prop := FEn R S0 (eVf R S0 Λ gv) Λ gv ∧ tsgR R S0 S (eVf R S0 Λ gv) L Ps Pe (mkV (ksV 0 mn)) ∧ OUl R S0 S (eVf R S0 Λ gv) i mn L0 ∧ L0 ≤ L ∧ L ≤ 160 ∧ mn ≤ 12 ∧ mn ≤ Λ.length ∧ (hdS R S0 i).1 = mn ∧ (∀ q : Nat, q < mn → (hdS R S0 i).2.1 q = (eVf R S0 Λ gv).vt q ∧ (eVf R S0 Λ gv).vt q ≠ 0) ∧ (hdS R S0 i).2.2 = abT S0 gv ∧ Ps < Pe ∧ ∃ fs : List Value, ZF S (R.ws i) = .inr (16, fs) ∧ fs[4]? = some (.int (nI Pe)) ∧ fs[5]? = some (.int (nI Ps)) ∧ Pe < 24000
section LY46
variable {R : yR} {S0 Sb Sx S S1 S2 S3 : Sg} {P P1 P2 P3 Pe h h0 h1 h2 hc L L1 L2 Le Lb z n z2 n2 : Nat} {Γ Γ0 Γ1 Γ2 Λ : List Nat} {E : eV} {s s1 s2 yD : List tE} {gv : Nat} {js ks us : List Nat} {bw : Nat → Nat} {cl cl2 : Prop} {p q b c v w i : Nat} {x y : List tE}
theorem OUl.st {j : Nat} (q : OUl R S0 S E i j L) (hz : QX L S S2) : OUl R S0 S2 E i j L := by
  refine ⟨fun l hl => ?_, fun q1 hq hr => ?_⟩
  · obtain ⟨q1, a1, a2, a3, a4, a5, a6⟩ := q.1 l hl
    obtain ⟨z1, z2⟩ := hz l hl
    exact ⟨q1, a1, z1.trans a2, (z2 44 (by decide) (by decide)).trans a3, (z2 45 (by decide) (by decide)).trans a4, (z2 46 (by decide) (by decide)).trans a5, a6⟩
  · obtain ⟨l, l1, l2⟩ := q.2 q1 hq hr
    exact ⟨l, l1, ((hz l l1).2 45 (by decide) (by decide)).trans l2⟩
/-- an item's cell is written -/
theorem LC.ui {a : Nat} {fs f2 : List Value} (c : LC R S0 S P h Γ L) (hF : ZF S a = .inr (16, fs)) (hl : f2.length = fs.length) (hf : ∀ l : Nat, l ≠ 4 → l ≠ 5 → f2[l]? = fs[l]?) : LC R S0 (UF S a (.inr (16, f2))) P h Γ L ∧ LX S (UF S a (.inr (16, f2))) ∧ ZF (UF S a (.inr (16, f2))) a = .inr (16, f2) := by
  have hc : cLy (ZF S a) (.inr (16, f2)) := Or.inr ⟨16, fs, f2, hF, rfl, hl, Or.inr ⟨rfl, hf⟩⟩
  have hx : LX S (UF S a (.inr (16, f2))) := ⟨fun b hb => ⟨hb, by
    by_cases e : b = a
    · subst e; rw [show ZF (UF S b (.inr (16, f2))) b = .inr (16, f2) from updE_s]; exact hc
    · rw [show ZF (UF S a (.inr (16, f2))) b = ZF S b from updE_n e]; exact Or.inl rfl⟩, fun _ _ _ _ _ => rfl, fun _ _ => rfl, fun _ _ => rfl, fun _ _ => rfl, rfl, Nat.le_refl _, Nat.le_refl _⟩
  refine ⟨⟨c.1.tr hx, c.2.1, c.2.2.1, c.2.2.2.1, c.2.2.2.2.1, c.2.2.2.2.2.1.st hx rfl (c.2.2.2.2.2.1.2.st hx (fun _ _ _ => rfl) (fun _ _ _ => Or.inl rfl) rfl), c.2.2.2.2.2.2.1.st hx (fun b hb gs e => ZF_n (fun w => ?_)), c.2.2.2.2.2.2.2⟩, hx, ZF_s⟩
  rw [w, hF] at e; cases e
/-- RETURN at the end -/
theorem tsg.rt {a b pp : Nat} {xx : pRc} (h : tsg R S0 S E L a b x y cl) (hat : AT S b xx) (hx : pl0 xx 26 pp) (hpp : pp < R.T) (hw : wl y ≤ 177) (hc : cl ∨ ((y = [] ∧ E.gv = 0) ∨ (y = [eU E.gv] ∧ E.gv ≠ 0))) : tsgR R S0 S E L a (b + 1) x := by
  obtain ⟨st, W, h1, h2, h3, h4, h5, h6⟩ := h
  obtain ⟨x1, x2, x3, x4, x5, x6, x7, x8, x9⟩ := hx
  have hz : rz R S0 S b ((26, 0, none, (none, none), ([], []), [], (0, 0, 0), []) : iR) := ⟨(hat.1 27 (by decide) (by decide) (by decide)).trans x1, by show (26 : Nat) < 28; decide, (hat.1 33 (by decide) (by decide) (by decide)).trans x4, by show (0 : Nat) < 8; decide, (hat.1 34 (by decide) (by decide) (by decide)).trans x5, (hat.1 35 (by decide) (by decide) (by decide)).trans x6, Or.inl ⟨(hat.2.2 37 (by decide) (by decide)).trans x8, rfl⟩, Or.inl ⟨(hat.2.2 36 (by decide) (by decide)).trans x7, rfl⟩, ⟨pp, (hat.1 32 (by decide) (by decide) (by decide)).trans x3, hpp⟩, Or.inl ⟨(hat.2.2 38 (by decide) (by decide)).trans x9, rfl⟩, (fun l e => by cases e), Or.inl ⟨rfl, rfl⟩, fun w => absurd w (by decide), fun w => absurd w (by decide), fun w => absurd w (by decide), fun w => absurd w (by decide), fun w => absurd w (by decide), fun w => absurd w (by decide), fun w => absurd w (by decide)⟩
  refine ⟨st, W, h1, h3, by omega, fun k hk hb => ?_⟩
  by_cases e : k < b
  · obtain ⟨i, q1, q2, q3, q4, q5⟩ := h6 k hk e
    refine ⟨i, q1, q2, fun j hj2 => ?_, q4, q5.im id (fun j t ⟨j1, j2, j3⟩ => ⟨j1, by omega, j3⟩)⟩
    obtain ⟨j1, j2, j3⟩ := q3 j hj2
    exact ⟨j1, by omega, j3⟩
  · obtain rfl : k = b := by omega
    refine ⟨_, hz, (fun l e => by cases e), fun j hj2 => (by cases hj2), by rw [h2]; exact hw, tP_26 rfl ⟨iD0_0, fun w => ?_⟩⟩
    rw [h2]
    exact hc.resolve_left (fun q => h4 q w)
/-- newLoan of what came from outside -/
theorem nlo_ {g : Sg → Int32 → Option (Sg × Unit)} {Q : Sg → Unit → Prop} (hl : L < 160) (c : LC R S0 S P h Γ L) (k : ∀ S1 : Sg, LC R S0 S1 P h Γ (L + 1) → (∀ P' : Nat, LZ P' L S S1) → SEq S S1 → Zq S1 43 L = none → Zr S1 44 L = 1 → Zr S1 27 = Zr S 27 → (∀ k r : Nat, 36 ≤ r → r ≤ 42 → Zq S1 r k = Zq S r k) → Rt (g S1 (nI L)) Q) : Rt (bnd (f_newLoan R.K S none 1) g) Q := by
  have h47 : Zi S 47 = nI L := c.2.2.2.2.1
  refine Rt.bn (Q := fun S1 r => r = nI L ∧ LC R S0 S1 P h Γ (L + 1) ∧ (∀ P' : Nat, LZ P' L S S1) ∧ SEq S S1 ∧ Zq S1 43 L = none ∧ Zr S1 44 L = 1 ∧ Zr S1 27 = Zr S 27 ∧ (∀ k r : Nat, 36 ≤ r → r ≤ 42 → Zq S1 r k = Zq S r k)) ?_ (fun S1 r q => by rw [q.1]; exact k S1 q.2.1 q.2.2.1 q.2.2.2.1 q.2.2.2.2.1 q.2.2.2.2.2.1 q.2.2.2.2.2.2.1 q.2.2.2.2.2.2.2)
  unfold f_newLoan
  rw [h47]
  refine Rt.bd (wQ_n (show L < rlen 43 from hl) (by decide) rfl) ?_
  have c1 : LC R S0 (Uq S 43 (va_up (Zq S 43) L none)) P h Γ L := c.uq (Or.inr ⟨rfl, Nat.le_refl _⟩)
  have z1 : ∀ P' : Nat, LZ P' L S (Uq S 43 (va_up (Zq S 43) L none)) := fun P' => LZ.lq (Nat.le_refl _)
  have e1 : SEq S (Uq S 43 (va_up (Zq S 43) L none)) := ⟨(z1 0).1, rfl, rfl, rfl, rfl, Zq_un (by decide)⟩
  have q1 : Zq (Uq S 43 (va_up (Zq S 43) L none)) 43 L = none := (congrFun Zq_us L).trans (va_up_self _ _ _)
  have r1 : Zr (Uq S 43 (va_up (Zq S 43) L none)) = Zr S := rfl
  have s1 : ∀ k r : Nat, 36 ≤ r → r ≤ 42 → Zq (Uq S 43 (va_up (Zq S 43) L none)) r k = Zq S r k := fun k r h1 h2 => congrFun (Zq_un (by omega)) k
  generalize Uq S 43 (va_up (Zq S 43) L none) = A at c1 z1 e1 q1 r1 s1
  rw [show Zi A 47 = nI L from c1.2.2.2.2.1]
  refine Rt.bd (wZ_n (show L < rlen 44 from hl) (by decide) (Or.inr rfl)) ?_
  have c2 : LC R S0 (Ur A 44 (upd (Zr A 44) L 1)) P h Γ L := c1.ur (Or.inr ⟨by decide, fun e => absurd e (by decide)⟩)
  have z2 : ∀ P' : Nat, LZ P' L S (Ur A 44 (upd (Zr A 44) L 1)) := fun P' => (z1 P').tr (LZ.lr (by decide) (Nat.le_refl _)) (Nat.le_refl _) (Nat.le_refl _)
  have e2 : SEq S (Ur A 44 (upd (Zr A 44) L 1)) := e1.tr ⟨(LZ.lr (P := 0) (L := 0) (by decide) (Nat.zero_le _)).1, rfl, rfl, rfl, rfl, rfl⟩
  have q2 : Zq (Ur A 44 (upd (Zr A 44) L 1)) 43 L = none := q1
  have t2 : Zr (Ur A 44 (upd (Zr A 44) L 1)) 44 L = 1 := (congrFun Zr_us L).trans upd_s
  have r2 : Zr (Ur A 44 (upd (Zr A 44) L 1)) 27 = Zr S 27 := (Zr_un (by decide)).trans (by rw [r1])
  have s2 : ∀ k r : Nat, 36 ≤ r → r ≤ 42 → Zq (Ur A 44 (upd (Zr A 44) L 1)) r k = Zq S r k := s1
  generalize Ur A 44 (upd (Zr A 44) L 1) = B at c2 z2 e2 q2 t2 r2 s2
  rw [show Zi B 47 = nI L from c2.2.2.2.2.1]
  refine Rt.bd (wRI_n (show L < rlen 45 from hl) (by decide)) ?_
  have c3 : LC R S0 (Ur B 45 (upd (Zr B 45) L (-1))) P h Γ L := c2.ur (Or.inr ⟨by decide, fun _ => Or.inl (Nat.le_refl _)⟩)
  have z3 : ∀ P' : Nat, LZ P' L S (Ur B 45 (upd (Zr B 45) L (-1))) := fun P' => (z2 P').tr (LZ.lr (by decide) (Nat.le_refl _)) (Nat.le_refl _) (Nat.le_refl _)
  have e3 : SEq S (Ur B 45 (upd (Zr B 45) L (-1))) := e2.tr ⟨(LZ.lr (P := 0) (L := 0) (by decide) (Nat.zero_le _)).1, rfl, rfl, rfl, rfl, rfl⟩
  have q3 : Zq (Ur B 45 (upd (Zr B 45) L (-1))) 43 L = none := q2
  have t3 : Zr (Ur B 45 (upd (Zr B 45) L (-1))) 44 L = 1 := (congrFun (Zr_un (by decide)) L).trans t2
  have r3 : Zr (Ur B 45 (upd (Zr B 45) L (-1))) 27 = Zr S 27 := (Zr_un (by decide)).trans r2
  have s3 : ∀ k r : Nat, 36 ≤ r → r ≤ 42 → Zq (Ur B 45 (upd (Zr B 45) L (-1))) r k = Zq S r k := s2
  have h45 : Zr (Ur B 45 (upd (Zr B 45) L (-1))) 45 L = -1 := (congrFun Zr_us L).trans upd_s
  generalize Ur B 45 (upd (Zr B 45) L (-1)) = C at c3 z3 e3 q3 t3 r3 s3 h45
  have hC : Zi C 47 = nI L := c3.2.2.2.2.1
  have eC : Zi C 47 + 1 = nI (L + 1) := by rw [hC]; exact nI_1 L
  rw [eC]
  refine Rt.bd (v := Ui C 47 (nI (L + 1))) rfl (Rt.rt ⟨?_, c3.l1 hl (Or.inl q3) h45, fun P' => (z3 P').tr (LZ.ui (by decide)) (Nat.le_refl _) (Nat.le_refl _), e3.tr ⟨(LZ.ui (P := 0) (L := 0) (by decide)).1, rfl, rfl, rfl, rfl, rfl⟩, q3, t3, r3, s3⟩)
  rw [show Zi (Ui C 47 (nI (L + 1))) 47 = nI (L + 1) from Zi_s, nI_sb1 (by omega)]; rfl
end LY46
end
-- m1.v.lean.txt
section
section LY47
variable {R : yR} {S0 Sb Sx S S1 S2 S3 : Sg} {P P1 P2 P3 Pe h h0 h1 h2 hc L L1 L2 Le Lb z n z2 n2 : Nat} {Γ Γ0 Γ1 Γ2 Λ : List Nat} {E : eV} {s s1 s2 yD : List tE} {gv : Nat} {js ks us : List Nat} {bw : Nat → Nat} {cl cl2 : Prop} {i : Nat}
theorem isV_t {v k : Nat} {nm mu : Int32} {ty : Option Nat} (h : isV S v k nm ty mu) : rN (obF S v) 2 = ty := by
  have e : ZF S v = .inr (21, [.int (nI k), .int nm, va_rf ty, .int mu, .null]) := h.2
  rw [obF_o e]
  cases ty <;> rfl
theorem fen_ (hE : ENb R S0) (hg : xTy S0 gv) (hl : Λ.length ≤ 40) (hΛ : ∀ (k v : Nat), Λ[k]? = some v → v ∉ ZL R.S ∧ ∃ (nm mu : Nat) (ty : Option Nat), isV S0 v k (nI nm) ty (nI mu) ∧ nm < R.T ∧ mu ≤ 1 ∧ ∀ x : Nat, ty = some x → rTy S0 x) : FEn R S0 (eVf R S0 Λ gv) Λ gv := by
  obtain ⟨a1, a2, a3, a4, a5, a6, a7, a8⟩ := hE
  refine ⟨⟨a1, a2, a3, a4, rfl, rfl, rfl, rfl, a5, a6, a7, a8⟩, fun k v hk => ?_, rfl, hg⟩
  obtain ⟨_, nm, mu, ty, b1, _, _, b2⟩ := hΛ k v hk
  refine ⟨⟨by have := (List.getElem?_eq_some_iff.mp hk).1; omega, by show adS Λ k = v; unfold adS; rw [hk]⟩, nI nm, nI mu, ty, b1, ?_, b2⟩
  show vtS S0 Λ k = _
  unfold vtS; rw [hk]
  show abU S0 (rN (obF S0 v) 2) = _
  rw [isV_t b1]
theorem LC.a0 (c : LC R S0 S P h Γ L) : LC R S0 (Ui S 50 (nI 0)) P h [] L := ⟨c.1.tr (LZ.ui (P := 0) (L := 0) (Or.inr (Or.inr (Or.inr rfl)))).1, (Zi_n (by decide)).trans c.2.1, (Zi_n (by decide)).trans c.2.2.1, ⟨Zi_s, fun k v hk => by cases hk⟩, (Zi_n (by decide)).trans c.2.2.2.2.1, c.2.2.2.2.2.1.st (LZ.ui (P := 0) (L := 0) (Or.inr (Or.inr (Or.inr rfl)))).1 rfl (c.2.2.2.2.2.1.2.st (LZ.ui (P := 0) (L := 0) (Or.inr (Or.inr (Or.inr rfl)))).1 (fun _ _ _ => rfl) (fun _ _ _ => Or.inl rfl) (Zi_n (by decide))), c.2.2.2.2.2.2.1, c.2.2.2.2.2.2.2⟩
/-- nothing but loans and variables alive -/
theorem GV.ln {Γ3 : List Nat} {L3 : Nat} (g : GV R S0 S S1 E P P h h1 Γ Γ2 L L1 s s2 False z n) (c : LC R S0 S2 P h2 Γ3 L3) (hz : LZ P L1 S1 S2) (e : SEq S1 S2) (hl : L1 ≤ L3) (hs : wkS s s2) : GV R S0 S S2 E P P h h2 Γ Γ3 L L3 s s2 False z n := by
  obtain ⟨a1, a2, a3, a4, a5, a6, a7, a8⟩ := g
  refine ⟨c, a2.tr hz (Nat.le_refl _) a7, tsg.nil hs, by rw [e.2.2.2.1]; exact a4, by rw [e.2.2.2.2.1]; exact a5, Nat.le_refl _, by omega, fun a ha w => a8.1 a ha ?_, fun k h1 h2 => by omega⟩
  unfold Us at w ⊢; rw [e.2.2.2.2.2, e.2.2.1] at w; exact w
/-- comesAlive, rows of references told -/
theorem cmq_ {y : Nat} {g : Sg → Unit → Option (Sg × Unit)} {Q : Sg → Unit → Prop} (gg : GV R S0 S S2 E P P2 h h1 Γ Γ2 L L2 s s2 cl z n) (hy : okO S2 21 (some y) = true) (hl : Γ2.length < 40) (k : ∀ S3 : Sg, GV R S0 S S3 E P P2 h h1 Γ (Γ2 ++ [y]) L L2 s s2 cl z n → Zr S3 = Zr S2 → (∀ r : Nat, r ≠ 49 → Zq S3 r = Zq S2 r) → Rt (g S3 ()) Q) : Rt (bnd (f_comesAlive R.K S2 (some y)) g) Q := by
  have hh : Rt (bnd (f_comesAlive R.K S2 (some y)) (fun S3 _ => some (S3, ()))) (fun S3 _ => GV R S0 S S3 E P P2 h h1 Γ (Γ2 ++ [y]) L L2 s s2 cl z n ∧ Zr S3 = Zr S2) := cma_ gg hy hl (fun S3 g3 e3 => Rt.rt ⟨g3, e3⟩)
  have e : ∃ v : Int32, f_comesAlive R.K S2 (some y) = some (Ui (Uq S2 49 (va_up (Zq S2 49) Γ2.length (some y))) 50 v, ()) := by
    unfold f_comesAlive
    rw [gg.1.2.2.2.1.1, wQ_n (show Γ2.length < rlen 49 from hl) (by decide) hy]
    exact ⟨_, rfl⟩
  obtain ⟨v, e⟩ := e
  rw [e] at hh ⊢
  obtain ⟨S3, r3, h3, h4⟩ := hh
  obtain ⟨rfl, _⟩ := Prod.mk.inj (Option.some.inj h3)
  exact k _ h4.1 h4.2 (fun r hr => Zq_un hr)
/-- parameters come alive -/
theorem lfn32 {bl mn ta pa lo : Nat} {fs : List Value} {f fp : Nat → Option Nat} {go : Nat → Int32} {Q : Sg → Unit → Prop} (hF : FEn R S0 E Λ gv) (hi : i < R.im) (hfs : ZF S0 (R.ws i) = .inr (16, fs)) (hwm : R.ws i ∈ ZL R.S) (f3 : fs[3]? = some (.int (nI mn))) (hmn : mn ≤ 12) (f10 : fs[10]? = some (.ref ta)) (f13 : fs[13]? = some (.ref lo)) (f16 : fs[16]? = some (.ref bl)) (f17 : fs[17]? = some (.ref pa)) (hta : rTs R S0 ta 13 mn f (rTy S0)) (hlo : lo ∈ ZL R.S ∧ ZF S0 lo = .inl (R.K.1 0, 13, .inl go)) (hpa : pa ∈ ZL R.S ∧ ZF S0 pa = .inl (R.K.1 5, 13, .inr (.inr (.inr (.inr fp))))) (hpr : ∀ k : Nat, k < mn → ∃ (v x : Nat) (nm : Int32), Λ[k]? = some v ∧ fp k = some v ∧ f k = some x ∧ isV S0 v k nm (some x) 0) (hvl : mn ≤ Λ.length) (h40 : Λ.length ≤ 40)
  (kf : ∀ (S1 : Sg) (L1 : Nat), GV R S0 S S1 E P P 0 0 [] (Λ.take mn) 0 L1 [] [] False 0 0 → OUl R S0 S1 E i mn L1 → L1 ≤ mn → Zr S1 27 = Zr S 27 → Rt ((oR S1 16 (some (R.ws i)) 16).bind fun v7 =>
    bnd (f_layBlock R.K 45 S1 v7) fun S8 v9 =>
    (oR S8 16 (some (R.ws i)) 16).bind fun v10 =>
    (oI S8 14 v10 1).bind fun v11 =>
    bnd (f_goOut R.K S8 0 v11) fun S12 v13 =>
    (oR S12 16 (some (R.ws i)) 16).bind fun v14 =>
    (oI S12 14 v14 1).bind fun v15 =>
    bnd (f_point R.K S12 26 v15) fun S16 v17 =>
    (pV S16 16 (some (R.ws i)) 4 (.int (Zi S16 26))).bind fun S18 =>
    some (S18, ())) Q) : ∀ (d j : Nat) (S1 : Sg) (L1 : Nat), mn < j + d → j ≤ mn → GV R S0 S S1 E P P 0 0 [] (Λ.take j) 0 L1 [] [] False 0 0 → OUl R S0 S1 E i j L1 → L1 ≤ j → Zr S1 27 = Zr S 27 → Rt (f_layFunction_32 R.K d S1 (some (R.ws i)) (nI j)) Q
  | 0, j, S1, L1, h1, h2, _, _, _, _ => by omega
  | d + 1, j, S1, L1, h1, h2, g, hO, hL1, e27 => by
    have hL := hF.1.1
    have hY := hF.1.2.1
    have rd : ∀ {S' : Sg} {k : Nat} {v : Value}, LX S0 S' → fs[k]? = some v → k ≠ 4 → k ≠ 5 → R.ws i ∈ ZL S' ∧ ∃ f2 : List Value, ZF S' (R.ws i) = .inr (16, f2) ∧ f2[k]? = some v := fun {S' k v} hx hk h4 h5 => by
      obtain ⟨w1, f2, w2, w3, w4⟩ := hx.it (hL _ hwm) hfs
      exact ⟨w1, f2, w2, (w4 k h4 (Or.inl h5)).trans hk⟩
    have rI : ∀ {S' : Sg} {k : Nat} {v : Int32}, LX S0 S' → fs[k]? = some (.int v) → k ≠ 4 → k ≠ 5 → oI S' 16 (some (R.ws i)) k = some v := fun hx hk h4 h5 => by
      obtain ⟨w1, f2, w2, w3⟩ := rd hx hk h4 h5
      exact oI_mk w1 w2 w3
    have rR : ∀ {S' : Sg} {k a : Nat}, LX S0 S' → fs[k]? = some (.ref a) → k ≠ 4 → k ≠ 5 → oR S' 16 (some (R.ws i)) k = some (some a) := fun hx hk h4 h5 => by
      obtain ⟨w1, f2, w2, w3⟩ := rd hx hk h4 h5
      exact oR_mk w1 w2 w3
    unfold f_layFunction_32
    refine Rt.bd (rI g.1.1 f3 (by decide) (by decide)) (Rt.it (fun w => ?_) (fun w => ?_))
    · have : mn ≤ j := (nI_leI (by omega) (by omega)).mp w
      obtain rfl : j = mn := by omega
      exact kf S1 L1 g hO hL1 e27
    · have hlt : j < mn := by
        by_cases q : j < mn
        · exact q
        · exact absurd (nI_le (a := mn) (b := j) (by omega) (by omega)) w
      obtain ⟨v, x, nm, p1, p2, p3, p4⟩ := hpr j hlt
      obtain ⟨q1, q2⟩ := g.1.1.ro (hL _ hpa.1) hpa.2
      obtain ⟨wh, v1, v2, _⟩ := g.1.2.2.2.2.2.2.1 v j nm (some x) 0 p4
      have hlen : (Λ.take j).length = j := by rw [List.length_take]; omega
      refine Rt.bd (rR g.1.1 f17 (by decide) (by decide)) (Rt.bd (by rw [aQ_n q1 q2 (show j < 13 by omega) (by decide), p2]) ?_)
      refine cmq_ g (okO_mk v1 v2) (by omega) (fun S2 g2 e2 eq2 => ?_)
      rw [tk_s p1] at g2
      have hO2 : OUl R S0 S2 E i j L1 := hO.st (fun l hl => ⟨by rw [eq2 43 (by decide)], fun r h1 h2 => by rw [e2]⟩)
      · obtain ⟨q3, q4⟩ := g2.1.1.ro (hL _ hta.1.1) hta.2.1
        refine Rt.bd (rR g2.1.1 f10 (by decide) (by decide)) (Rt.bd (by rw [aQ_n q3 q4 (show j < 13 by omega) (by decide), p3]) ?_)
        obtain ⟨x', px1, px2⟩ := hta.2.2 j hlt
        rw [p3] at px1; cases px1
        obtain ⟨kd, ix, o, qt, _⟩ := px2.ty
        refine Rt.be (ref_ (g2.1.1.ty qt)) ?_
        have hrf := px2.rf hY qt
        have hvt : E.vt j = abT S0 x := by
          obtain ⟨_, nm2, mu2, ty2, hV2, hvt2, _⟩ := hF.2.1 j v p1
          have ety : ty2 = some x := by obtain ⟨_, _, w, _⟩ := isV_u hV2 p4 (by omega) (by omega); exact w
          rw [hvt2, ety]; rfl
        rw [← hvt] at hrf
        by_cases qk : kd = 6 ∨ kd = 7
        · rw [if_pos qk]
          refine Rt.iq (by decide) ?_
          refine nlo_ (by omega) g2.1 (fun S3 c3 z3 e3 a1 a2 a3 a4 => ?_)
          obtain ⟨q5, q6⟩ := c3.1.ro (hL _ hpa.1) hpa.2
          obtain ⟨wh3, v3, v4, _⟩ := c3.2.2.2.2.2.2.1 v j nm (some x) 0 p4
          refine Rt.bd (rR c3.1 f17 (by decide) (by decide)) (Rt.bd (by rw [aQ_n q5 q6 (show j < 13 by omega) (by decide), p2]) (Rt.bd (oI_mk v3 v4 (v := nI j) rfl) ?_))
          refine Rt.bd (wRI_n (show L1 < rlen 45 from by show L1 < 160; omega) (by decide)) ?_
          have c4 : LC R S0 (Ur S3 45 (upd (Zr S3 45) L1 (nI j))) P 0 (Λ.take (j + 1)) (L1 + 1) := c3.ur (Or.inr ⟨by decide, fun _ => Or.inr ⟨j, by omega, rfl⟩⟩)
          obtain ⟨l1, l2⟩ := c4.1.ro (hL _ hlo.1) hlo.2
          refine Rt.bd (rR c4.1 f13 (by decide) (by decide)) (Rt.bd (aI_n l1 l2 (show j < 13 by omega) (by decide)) ?_)
          refine Rt.bd (wRI_n (show L1 < rlen 46 from by show L1 < 160; omega) (by decide)) ?_
          have c5 : LC R S0 (Ur (Ur S3 45 (upd (Zr S3 45) L1 (nI j))) 46 (upd (Zr (Ur S3 45 (upd (Zr S3 45) L1 (nI j))) 46) L1 (go j))) P 0 (Λ.take (j + 1)) (L1 + 1) := c4.ur (Or.inr ⟨by decide, fun e => absurd e (by decide)⟩)
          have z5 : LZ P L1 S2 (Ur (Ur S3 45 (upd (Zr S3 45) L1 (nI j))) 46 (upd (Zr (Ur S3 45 (upd (Zr S3 45) L1 (nI j))) 46) L1 (go j))) := ((z3 P).tr (LZ.lr (by decide) (Nat.le_refl _)) (Nat.le_refl _) (Nat.le_refl _)).tr (LZ.lr (by decide) (Nat.le_refl _)) (Nat.le_refl _) (Nat.le_refl _)
          have e5 : SEq S2 (Ur (Ur S3 45 (upd (Zr S3 45) L1 (nI j))) 46 (upd (Zr (Ur S3 45 (upd (Zr S3 45) L1 (nI j))) 46) L1 (go j))) := (e3.tr ⟨(LZ.lr (P := 0) (L := 0) (by decide) (Nat.zero_le _)).1, rfl, rfl, rfl, rfl, rfl⟩).tr ⟨(LZ.lr (P := 0) (L := 0) (by decide) (Nat.zero_le _)).1, rfl, rfl, rfl, rfl, rfl⟩
          have b43 : Zq (Ur (Ur S3 45 (upd (Zr S3 45) L1 (nI j))) 46 (upd (Zr (Ur S3 45 (upd (Zr S3 45) L1 (nI j))) 46) L1 (go j))) 43 L1 = none := a1
          have b44 : Zr (Ur (Ur S3 45 (upd (Zr S3 45) L1 (nI j))) 46 (upd (Zr (Ur S3 45 (upd (Zr S3 45) L1 (nI j))) 46) L1 (go j))) 44 L1 = 1 := by rw [Zr_un (by decide), Zr_un (by decide)]; exact a2
          have b45 : Zr (Ur (Ur S3 45 (upd (Zr S3 45) L1 (nI j))) 46 (upd (Zr (Ur S3 45 (upd (Zr S3 45) L1 (nI j))) 46) L1 (go j))) 45 L1 = nI j := by rw [Zr_un (by decide), Zr_us, upd_s]
          have b46 : Zr (Ur (Ur S3 45 (upd (Zr S3 45) L1 (nI j))) 46 (upd (Zr (Ur S3 45 (upd (Zr S3 45) L1 (nI j))) 46) L1 (go j))) 46 L1 = go j := by rw [Zr_us, upd_s]
          have b27 : Zr (Ur (Ur S3 45 (upd (Zr S3 45) L1 (nI j))) 46 (upd (Zr (Ur S3 45 (upd (Zr S3 45) L1 (nI j))) 46) L1 (go j))) 27 = Zr S 27 := by rw [Zr_un (by decide), Zr_un (by decide), a3, e2]; exact e27
          generalize Ur (Ur S3 45 (upd (Zr S3 45) L1 (nI j))) 46 (upd (Zr (Ur S3 45 (upd (Zr S3 45) L1 (nI j))) 46) L1 (go j)) = S5 at c5 z5 e5 b43 b44 b45 b46 b27
          unfold f_layFunction_99
          rw [nI_1]
          have hO5 := hO2.st z5.2.2.1
          have hlf : lfS R S0 i j = go j := by
            show (match rN (obF S0 (R.ws i)) 13 with
              | some a => roI S0 a j
              | none => 0) = _
            rw [obF_o hfs, rN_r f13]
            exact roI_o hlo.2
          refine lfn32 hF hi hfs hwm f3 hmn f10 f13 f16 f17 hta hlo hpa hpr hvl h40 kf d (j + 1) S5 (L1 + 1) (by omega) (by omega) (g2.ln c5 z5 e5 (Nat.le_succ _) wkS.rf) ⟨fun l hl => ?_, fun q hq hr => ?_⟩ (by omega) b27
          · by_cases el : l < L1
            · obtain ⟨q, a1', a2'⟩ := hO5.1 l el
              exact ⟨q, by omega, a2'⟩
            · obtain rfl : l = L1 := by omega
              exact ⟨j, Nat.lt_succ_self _, b43, b44, b45, b46.trans hlf.symm, hrf.mpr qk⟩
          · by_cases eq : q = j
            · subst eq; exact ⟨L1, Nat.lt_succ_self _, b45⟩
            · obtain ⟨l, l1', l2'⟩ := hO5.2 q (by omega) hr
              exact ⟨l, by omega, l2'⟩
        · rw [if_neg qk]
          refine Rt.ip rfl ?_
          unfold f_layFunction_99
          rw [nI_1]
          refine lfn32 hF hi hfs hwm f3 hmn f10 f13 f16 f17 hta hlo hpa hpr hvl h40 kf d (j + 1) S2 L1 (by omega) (by omega) g2 ⟨fun l hl => ?_, fun q hq hr => ?_⟩ (by omega) (by rw [e2]; exact e27)
          · obtain ⟨q, a1', a2'⟩ := hO2.1 l hl
            exact ⟨q, by omega, a2'⟩
          · by_cases eq : q = j
            · subst eq; exact absurd (hrf.mp hr) qk
            · exact hO2.2 q (by omega) hr
end LY47
end
