/-- the stack while an arm's variables come alive -/
def stk (cd bd i g mk v n : Nat) (js : List Nat) : List tE := if bd = 0 then mkV (ksV v mk ++ js) else pSk cd bd i g mk v n js
/-- a match: its cell, what it looks at -/
def MtH (R : yR) (S0 : Sg) (a xe ar px p mn : Nat) (mu rf : Int32) : Prop := a ∈ ZL R.S ∧ ZF S0 a = stC 5 p 0 mu rf .null (.ref xe) .null .null .null .null .null (.ref ar) mn ∧ p < R.T ∧ xe ∈ ZL R.S ∧ ∃ gs : List Value, ZF S0 xe = .inr (15, gs) ∧ gs[1]? = some (.int (nI px)) ∧ px < R.T
/-- an arm was laid -/
def ArQ (R : yR) (S0 S : Sg) (E : eV) (P : Nat) (Γ : List Nat) (L : Nat) (js : List Nat) (bw : Nat → Nat) (p pa qa ba ca va wa : Nat) (x0 : List tE) (bk : Nat) (S4 : Sg) (Pj L4 z n : Nat) : Prop := FRM R S0 S S4 P (Pj + 1) 0 Γ L L4 z n ∧ tsg R S0 S4 E L4 P Pj x0 (mkV js) (eBx S0 bk) ∧ AT S4 Pj (ptRc 16 (nI p)) ∧ P ≤ Pj ∧ Pj + 9 ≤ P + 8 * (bw qa - bw pa) ∧ z + 20 ≤ 20 * (bw qa - bw pa) ∧ n + 60 ≤ 60 * (bw qa - bw pa) ∧ L4 + ba + va ≤ L + ca + wa ∧ K0 S4 (Pj + 1)
section LY40
variable {R : yR} {S0 Sb S S1 S2 S3 : Sg} {P P1 P2 P3 h h0 h1 h2 hc L L1 L2 Lb z n z2 n2 : Nat} {Γ Γ0 Γ1 Γ2 Λ : List Nat} {E : eV} {s s1 s2 : List tE} {gv : Nat} {js ks us : List Nat} {bw : Nat → Nat} {V : Sg → Option Nat → Option (Sg × Unit)}
theorem tk_s : ∀ {us : List Nat} {n u : Nat}, us[n]? = some u → us.take n ++ [u] = us.take (n + 1)
  | [], _, _, h => by cases h
  | x :: us, 0, u, h => by cases h; rfl
  | x :: us, n + 1, u, h => by
    show x :: (us.take n ++ [u]) = x :: us.take (n + 1)
    rw [tk_s (us := us) h]
theorem tk_a : ∀ {us : List Nat} {n : Nat}, us.length ≤ n → us.take n = us
  | [], 0, _ => rfl
  | [], _ + 1, _ => rfl
  | x :: us, 0, h => by cases h
  | x :: us, n + 1, h => by
    show x :: us.take n = _
    rw [tk_a (us := us) (Nat.le_of_succ_le_succ h)]
theorem GJ.kn {v : Nat} (hG : GJ Λ Γ js) (hv : ∀ i ∈ js, i < v) : ∀ {n : Nat}, (∀ j : Nat, j < n → ∃ u : Nat, us[j]? = some u ∧ Λ[v + j]? = some u) → GJ Λ (Γ ++ us.take n) (ksV v n ++ js)
  | 0, _ => by
    rw [show us.take 0 = [] from rfl, List.append_nil]; exact hG
  | n + 1, h => by
    obtain ⟨u, u1, u2⟩ := h n (Nat.lt_succ_self _)
    rw [← tk_s u1, ← List.append_assoc]
    exact (GJ.kn hG hv (fun j hj => h j (by omega))).add u2 (ksj hv)
/-- the arm's block, the end of its variables, its jump -/
theorem lar_e {a xe ar px p mn y m9 nn bk p' pa qa ba ca va wa mk P1 L1 z9 n9 : Nat} {mu rf : Int32} {x0 : List tE} {x2 x4 : Option Nat} {x3 x5 : Int32} {k142 : Sg → Option Nat → Option Nat → Int32 → Option Nat → Int32 → Option (Sg × Unit)} {Q : Sg → Unit → Prop} (hF : FEn R S0 E Λ gv) (hB : BWt R bw) (hV : LbV R S0 E Λ gv bw V nn) (hm : m9 ≤ nn) (hM : MtH R S0 a xe ar px p mn mu rf) (hG : GJ Λ Γ js) (hv : ∀ i ∈ js, i < va) (hw : wa ≤ 40) (hq : qa ≤ R.T) (hy : y ∈ ZL R.S) (hyF : ∃ ys : List Value, ZF S0 y = .inr (13, ys) ∧ ys[5]? = some (.ref bk)) (hus : us.length = mk) (hΛ : ∀ j : Nat, j < mk → ∃ u : Nat, us[j]? = some u ∧ Λ[va + j]? = some u) (hp' : pa + mk < p') (hbl : sN R S0 Λ gv m9 1 bk p' qa ba ca (va + mk) wa (Γ ++ us) (Γ ++ us) (0, 0, 0)) (hP : P + 8 * (bw qa - bw pa) ≤ 24000) (hl : L + ca + wa ≤ 160 + ba + va) (hr : RMl R S (20 * (bw qa - bw pa)) (60 * (bw qa - bw pa))) (g : GV R S0 S S1 E P P1 0 0 Γ (Γ ++ us) L L1 x0 (mkV (ksV va mk ++ js)) False z9 n9) (b1 : P1 ≤ P + 1 + mk) (b2 : z9 ≤ 5 * mk) (b3 : n9 ≤ 17 * mk) (b4 : L1 ≤ L + mk) (kk : K0 S1 P1)
  (k : ∀ (S4 : Sg) (Pj L4 z n : Nat), ArQ R S0 S E P Γ L js bw p pa qa ba ca va wa x0 bk S4 Pj L4 z n → Rt ((bI R.K S4 x4 x5 (nI Pj)).bind fun S54 => k142 S54 (some a) x2 x3 x4 (x5 + 1)) Q) : Rt ((oR S1 13 (some y) 5).bind fun v43 =>
    bnd (V S1 v43) fun S44 v45 =>
    (oR S44 13 (some y) 5).bind fun v46 =>
    (oI S44 14 v46 1).bind fun v47 =>
    bnd (f_goOut R.K S44 (nI js.length) v47) fun S48 v49 =>
    (pM S48 50 (nI js.length)).bind fun S50 =>
    (oI S50 19 (some a) 1).bind fun v51 =>
    bnd (f_point R.K S50 16 v51) fun S52 v53 =>
    (bI R.K S52 x4 x5 v53).bind fun S54 =>
    k142 S54 (some a) x2 x3 x4 (x5 + 1)) Q := by
  have hL := hF.1.1
  obtain ⟨ha, k1, hpT, _⟩ := hM
  obtain ⟨ys, y1, y2⟩ := hyF
  have hlt := sN_lt hbl
  have hmo := sN_mo hbl
  have w1 := hB.mo (p := pa) (q := p') (by omega) (by omega)
  have w2 := hB.mo (p := p') (q := qa) (by omega) (by omega)
  have hG2 : GJ Λ (Γ ++ us) (ksV va mk ++ js) := by
    have := GJ.kn (us := us) (n := mk) hG hv hΛ
    rw [tk_a (by omega)] at this; exact this
  have hv2 : ∀ i ∈ ksV va mk ++ js, i < va + mk := ksj hv
  have hln := hG2.len
  have hjl := GJ.l40 (v := va + mk) hG2 hv2
  have hkl : (ksV va mk).length = mk := ksV_len
  have hbc : bk ∈ ZL R.S ∧ ∃ la mn2 : Nat, ZF S0 bk = .inr (14, [.int (nI p'), .int (nI (qa - 1)), .ref la, .int (nI mn2)]) := by
    cases m9 with
    | zero => exact hbl.elim
    | succ m9 =>
      obtain ⟨h1, _, _, la, cap, mn2, f, gs, h2, _⟩ := hbl
      exact ⟨h1.1, la, mn2, h2⟩
  obtain ⟨hbk, la, mn2, hbF⟩ := hbc
  have r5 : ∀ {S' : Sg}, LX S0 S' → oR S' 13 (some y) 5 = some (some bk) := fun hx => hx.vr (by decide) (by decide) (oR_mk (hL y hy) y1 (v := some bk) y2)
  have hPP : P ≤ P1 := g.2.2.2.2.2.1
  refine Rt.bd (r5 g.1.1) (Rt.bn (hV m9 hm bk p' qa ba ca (va + mk) wa (Γ ++ us) hbl S1 P1 L1 (ksV va mk ++ js) ⟨hF, hB, g.1, Or.inr kk, hG2, hv2, ⟨hmo.2, hw⟩, ⟨hlt, hq⟩, by omega, ⟨hmo.1, by omega⟩, g.rm hr (by omega) (by omega)⟩) (fun S2 _ t2 => ?_))
  obtain ⟨P2, L2, z2, n2, g2, d1, d2, d3, d4, d5⟩ := t2
  have hP2 : P1 ≤ P2 := g2.2.2.2.2.2.1
  have g12 := g.tr g2 (cl3 := eBx S0 bk) (fun w => Or.inr w) (Nat.le_refl _) (Nat.le_refl _)
  refine Rt.bd (r5 g2.1.1) (Rt.bd (g2.1.1.vi (by decide) (by decide) (oI_mk (hL bk hbk) hbF (v := nI (qa - 1)) rfl)) ?_)
  refine Rt.bn (gou_ (h0 := 0) (Γ0 := Γ ++ us) (e := []) (ks := ksV va mk) (js1 := js) hF (Or.inl rfl) rfl rfl (by omega) g2.1 hG2 (by omega) (by omega) (g12.rm hr (by omega) (by omega))) (fun S3 _ g3 => ?_)
  have g13 := g12.tr g3 (cl3 := eBx S0 bk) (fun w => Or.inl w) (Nat.le_refl _) (Nat.le_refl _)
  refine g13.dn (by rw [hG.len]) (fun S4 g4 e4 => ?_)
  refine Rt.bd (g4.1.1.vi (by decide) (by decide) (oI_mk (hL a ha) k1 (v := nI p) rfl)) ?_
  refine pnt_ (Lb := L2) (Sb := S4) (z := 0) (n := 0) (by omega) g4.1 LZ.rf (Nat.le_refl _) (by omega) (by omega) UsK.rf (fun S5 p5 _ => k S5 (P2 + (ksV va mk).length) L2 _ _ ⟨g4.frm.tr p5.frm, g4.2.2.1.st p5.2.1, p5.2.2.1, by omega, by omega, by omega, by omega, by omega, ?_⟩)
  have k2 : K0 S2 P2 := by
    rcases d5 with e | e
    · have := kk.1; omega
    · exact e
  have k4 : K0 S4 (P2 + (ksV va mk).length) := by
    unfold K0; rw [e4]; exact k2.st g3.2.1 (by omega)
  exact k4.st p5.2.1 (Nat.le_succ _)
/-- an arm's variables come alive, its parts are looked at -/
theorem lar210 {a xe ar px p mn y w va9 ix tv xt i g bd m9 nn bk p' pa qa ba ca va wa mk : Nat} {mu rf : Int32} {x0 : List tE} {x2 x4 : Option Nat} {x3 x5 : Int32} {tx : Nat → Nat} {ρ : List (Nat × Nat)} {fv : Nat → Option Nat} {ys : List Value} {k142 : Sg → Option Nat → Option Nat → Int32 → Option Nat → Int32 → Option (Sg × Unit)} {Q : Sg → Unit → Prop} (hF : FEn R S0 E Λ gv) (hB : BWt R bw) (hV : LbV R S0 E Λ gv bw V nn) (hm : m9 ≤ nn) (hM : MtH R S0 a xe ar px p mn mu rf) (hG : GJ Λ Γ js) (hv : ∀ i ∈ js, i < va) (hw : wa ≤ 40) (hq : qa ≤ R.T) (hy : y ∈ ZL R.S) (hyF : ZF S0 y = .inr (13, ys)) (hy1 : ys[1]? = some (.int (nI g))) (hy3 : ys[3]? = some (.int (nI mk))) (hy4 : ys[4]? = some (.ref (y + 2))) (hy5 : ys[5]? = some (.ref bk)) (hy2 : y + 2 ∈ ZL R.S) (hFv : ZF S0 (y + 2) = .inl (R.K.1 5, 12, .inr (.inr (.inr (.inr fv))))) (hen : enY R S0 i g mk tx) (hus : us.length = mk) (hvs : ∀ j : Nat, j < mk → ∃ (u ty : Nat) (nm : Int32), us[j]? = some u ∧ fv j = some u ∧ Λ[va + j]? = some u ∧ isV S0 u (va + j) nm (some ty) 0 ∧ ((bd = 0 ∧ ty = tx j) ∨ (bd = 1 ∧ isTy S0 ty 6 0 (some (tx j))) ∨ (bd = 2 ∧ isTy S0 ty 7 0 (some (tx j))))) (hp' : pa + mk < p') (hbl : sN R S0 Λ gv m9 1 bk p' qa ba ca (va + mk) wa (Γ ++ us) (Γ ++ us) (0, 0, 0)) (hP : P + 8 * (bw qa - bw pa) ≤ 24000) (hl : L + ca + wa ≤ 160 + ba + va) (hr : RMl R S (20 * (bw qa - bw pa)) (60 * (bw qa - bw pa))) (hbd : (rf = 0 ∧ bd = 0) ∨ (rf = 1 ∧ ((mu = 0 ∧ bd = 1) ∨ (mu = 1 ∧ bd = 2)) ∧ x2 = some w ∧ PlF bd R S0 S E js w va9 ix tv xt i ρ))
  (k : ∀ (S4 : Sg) (Pj L4 z n : Nat), ArQ R S0 S E P Γ L js bw p pa qa ba ca va wa x0 bk S4 Pj L4 z n → Rt ((bI R.K S4 x4 x5 (nI Pj)).bind fun S54 => k142 S54 (some a) x2 x3 x4 (x5 + 1)) Q) : ∀ (m n : Nat) (S1 : Sg) (P1 L1 z9 n9 : Nat), mk < n + m → n ≤ mk → GV R S0 S S1 E P P1 0 0 Γ (Γ ++ us.take n) L L1 x0 (stk (cdP ix ρ) bd i g mk va n js) False z9 n9 → P1 ≤ P + 1 + n → z9 ≤ 5 * n → n9 ≤ 17 * n → L1 ≤ L + n → K0 S1 P1 → Rt (f_layMatch_210 R.K V k142 m S1 (some a) x2 x3 x4 x5 (some y) (nI js.length) (nI n)) Q
  | 0, n, S1, P1, L1, z9, n9, h1, h2, _, _, _, _, _, _ => by omega
  | m + 1, n, S1, P1, L1, z9, n9, h1, h2, g9, b1, b2, b3, b4, kk => by
    have hL := hF.1.1
    have hY := hF.1.2.1
    obtain ⟨_, _, _, _, f5, _⟩ := hen.y hY
    have hlt := sN_lt hbl
    have hmo := sN_mo hbl
    have w1 := hB.mo (p := pa) (q := p') (by omega) (by omega)
    have w2 := hB.mo (p := p') (q := qa) (by omega) (by omega)
    have hΛ : ∀ j : Nat, j < mk → ∃ u : Nat, us[j]? = some u ∧ Λ[va + j]? = some u := fun j hj => by
      obtain ⟨u, _, _, u1, _, u2, _⟩ := hvs j hj
      exact ⟨u, u1, u2⟩
    have hM2 := hM
    obtain ⟨ha, k1, hpT, hxe, gs, e1, e2, e3⟩ := hM2
    unfold f_layMatch_210
    refine Rt.bd (g9.1.1.vi (by decide) (by decide) (oI_mk (hL y hy) hyF hy3)) (Rt.it (fun q9 => ?_) (fun q9 => ?_))
    · have : mk ≤ n := (nI_leI (by omega) (by omega)).mp q9
      obtain rfl : n = mk := by omega
      have hst : stk (cdP ix ρ) bd i g n va n js = mkV (ksV va n ++ js) := by
        unfold stk pSk
        by_cases e : bd = 0
        · rw [if_pos e]
        · rw [if_neg e, if_pos rfl]
      rw [hst, tk_a (by omega)] at g9
      exact lar_e hF hB hV hm hM hG hv hw hq hy ⟨ys, hyF, hy5⟩ hus hΛ hp' hbl hP hl hr g9 b1 b2 b3 b4 kk k
    · have hlt2 : n < mk := by
        by_cases e : n < mk
        · exact e
        · exact absurd (nI_le (a := mk) (b := n) (by omega) (by omega)) q9
      obtain ⟨u, ty, nm, u1, u2, u3, u4, u5⟩ := hvs n hlt2
      have hG1 := GJ.kn (us := us) (n := n) hG hv (fun j hj => hΛ j (by omega))
      have hln := hG1.len
      have hjl := GJ.l40 (v := va + n) hG1 (ksj hv)
      -- the variable comes alive
      have h237 : ∀ (S2 : Sg) (P2 L2 z2 n2 : Nat), GV R S0 S S2 E P P2 0 0 Γ (Γ ++ us.take n) L L2 x0 (stk (cdP ix ρ) bd i g mk va (n + 1) js) False z2 n2 → P2 ≤ P + 1 + (n + 1) → z2 ≤ 5 * (n + 1) → n2 ≤ 17 * (n + 1) → L2 ≤ L + (n + 1) → K0 S2 P2 → Rt (f_layMatch_237 R.K V k142 ((f_layMatch_210 R.K V k142 m)) S2 (some a) x2 x3 x4 x5 (some y) (nI js.length) (nI n)) Q := fun S2 P2 L2 z2 n2 g2 c1 c2 c3 c4 k2 => by
        unfold f_layMatch_237
        obtain ⟨q1, q2⟩ := g2.1.1.ro (hL _ hy2) hFv
        obtain ⟨wh, v1, v2, _⟩ := g2.1.2.2.2.2.2.2.1 u (va + n) nm (some ty) 0 u4
        refine Rt.bd (g2.1.1.vr (by decide) (by decide) (oR_mk (hL y hy) hyF (v := some (y + 2)) hy4)) (Rt.bd (by rw [aQ_n q1 q2 (show n < 12 by omega) (by decide), u2]) ?_)
        refine cma_ g2 (okO_mk v1 v2) (by omega) (fun S3 g3 e3 => ?_)
        rw [nI_1]
        refine lar210 hF hB hV hm hM hG hv hw hq hy hyF hy1 hy3 hy4 hy5 hy2 hFv hen hus hvs hp' hbl hP hl hr hbd k m (n + 1) S3 P2 L2 z2 n2 (by omega) (by omega) ?_ c1 c2 c3 c4 (by unfold K0; rw [e3]; exact k2)
        rw [List.append_assoc, tk_s u1] at g3
        exact g3
      refine Rt.bd (g9.1.1.vi (by decide) (by decide) (oI_mk (hL a ha) k1 (v := rf) rfl)) ?_
      rcases hbd with ⟨w3, w4⟩ | ⟨w3, w4, w5, w6⟩
      · refine Rt.ip w3 (h237 S1 P1 L1 z9 n9 ?_ (by omega) (by omega) (by omega) (by omega) kk)
        have : stk (cdP ix ρ) bd i g mk va (n + 1) js = stk (cdP ix ρ) bd i g mk va n js := by unfold stk; rw [if_pos w4, if_pos w4]
        rw [this]; exact g9
      · refine Rt.iq (by rw [w3]; decide) ?_
        rw [w5]
        have hb0 : bd ≠ 0 := by rcases w4 with w | w <;> omega
        have es : ∀ n : Nat, stk (cdP ix ρ) bd i g mk va n js = pSk (cdP ix ρ) bd i g mk va n js := fun n => by unfold stk; rw [if_neg hb0]
        have hPA : PaA R S0 Λ a y xe 0 px i g mk n u ty va mu tx := ⟨⟨ha, _, k1, rfl, rfl⟩, ⟨hxe, gs, e1, e2, e3⟩, ⟨hy, ys, hyF, hy1, hy4⟩, ⟨hy2, fv, hFv, u2⟩, hen, hlt2, u3, ⟨nm, u4⟩, by
          rcases w4 with w | w
          · rcases u5 with z | z | z
            · exact absurd z.1 hb0
            · exact Or.inl ⟨w.1, z.2⟩
            · exact absurd (w.2.symm.trans z.1) (by decide)
          · rcases u5 with z | z | z
            · exact absurd z.1 hb0
            · exact absurd (w.2.symm.trans z.1) (by decide)
            · exact Or.inr ⟨w.1, z.2⟩⟩
        refine Rt.bn (lpt_ (L := L1) (P := P1) (Γ := Γ ++ us.take n) (js := js) hF g9.1 (w6.st g9.lx) hPA w4 hv (by omega) (by omega) (by omega) (g9.rm hr (by omega) (by omega))) (fun S2 _ g2 => ?_)
        rw [← es, ← es] at g2
        rw [← w5]
        exact h237 S2 (P1 + 1) (L1 + 1) (z9 + 5) (n9 + 17) (g9.tr g2 (fun w => w.elim) (Nat.le_refl _) (Nat.le_refl _)) (by omega) (by omega) (by omega) (by omega) (kk.st g2.2.1 (Nat.le_succ _))
end LY40
