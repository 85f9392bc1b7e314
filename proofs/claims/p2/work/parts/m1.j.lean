/-- branches, as they were typed -/
def IfX (R : yR) (S0 : Sg) (Λ : List Nat) (gv : Nat) (Γ : List Nat) (m mn : Nat) (f g : Nat → Option Nat) (ps bs vs : Nat → Nat) : Prop := ∀ i : Nat, i < mn → ∃ y : Nat, g i = some y ∧ ∃ p0 b0 : Nat, ((f i = none ∧ b0 = bs i) ∨ ∃ x p' q0 t : Nat, f i = some x ∧ ps i < p' ∧ q0 ≤ p0 ∧ xE R S0 Γ 408 16 x p' q0 (bs i) b0 t ∧ isTy S0 t 1 0 none) ∧ ps i ≤ p0 ∧ sN R S0 Λ gv m 1 y p0 (ps (i + 1)) b0 (bs (i + 1)) (vs i) (vs (i + 1)) Γ Γ (0, 0, 0)
/-- i branches are laid -/
def IfS (R : yR) (S0 S : Sg) (E : eV) (P : Nat) (Γ : List Nat) (L : Nat) (js : List Nat) (bw : Nat → Nat) (p b v e mn : Nat) (f g : Nat → Option Nat) (ps bs vs : Nat → Nat) (S1 : Sg) (i : Nat) : Prop := ∃ (Pi Li z n : Nat) (pe : Nat → Nat) (fe : Nat → Int32), GVo R S0 S S1 E P Pi 0 Γ L Li (mkV js) (mkV js) (fun k => ∃ j : Nat, j < i ∧ pe j = k) (mkV js) (∃ j : Nat, j < i ∧ f j = none) (∀ j : Nat, j < i → ∃ y : Nat, g j = some y ∧ eBx S0 y) z n ∧ PVc R S0 S1 P Pi e mn fe ∧ (∀ j : Nat, j < i → fe j = nI (pe j) ∧ P ≤ pe j ∧ pe j < Pi) ∧ (∀ j k : Nat, j < i → k < i → pe j = pe k → j = k) ∧ K0 S1 Pi ∧ Pi + 6 * i ≤ P + 8 * (bw (ps i) - bw p) ∧ z + 20 * i ≤ 1 + 20 * (bw (ps i) - bw p) ∧ n + 60 * i ≤ mn + 60 * (bw (ps i) - bw p) ∧ Li + b + v ≤ L + bs i + vs i
section LY35
variable {R : yR} {S0 Sb S S1 S2 S3 : Sg} {P P1 P2 P3 h h0 h1 h2 hc L L1 L2 Lb z n z2 n2 : Nat} {Γ Γ0 Γ1 Γ2 Λ : List Nat} {E : eV} {s s1 s2 yD : List tE} {gv : Nat} {js js1 ks : List Nat} {bw : Nat → Nat} {cl cD : Prop} {p q b c v w : Nat} {V : Sg → Option Nat → Option (Sg × Unit)} {D : Nat → Prop} {e mn : Nat} {f g : Nat → Option Nat} {ps bs vs pe : Nat → Nat}
/-- the jumps to the end are set -/
theorem lif108 {a ca ba : Nat} {fe : Nat → Int32} (hL : RIn R S0) (ha : a ∈ ZL R.S) (k1 : ZF S0 a = stC 3 p 0 0 0 .null .null .null .null .null (.ref ca) (.ref ba) .null mn) (hmn : mn ≤ 3001) (hP2 : P2 < 24000) (hpe : ∀ j : Nat, j < mn → fe j = nI (pe j) ∧ P ≤ pe j ∧ pe j < P2) (hij : ∀ j k : Nat, j < mn → k < mn → pe j = pe k → j = k) : ∀ (m i : Nat) (S1 : Sg), mn < i + m → i ≤ mn → GVo R S0 S S1 E P P2 0 Γ L L2 s s (fun k => ∃ j : Nat, i ≤ j ∧ j < mn ∧ pe j = k) s (cl ∧ cD) cD z n → (e ∈ ZL S1 ∧ ZF S1 e = .inl (R.K.1 0, mn, .inl fe)) → K0 S1 P2 → Rt (f_layIf_108 R.K V m S1 (some a) (some e) (nI i)) (fun S2 _ => GV R S0 S S2 E P P2 0 0 Γ Γ L L2 s s (cl ∧ cD) z n ∧ K0 S2 P2)
  | 0, i, S1, hm, hi, _, _, _ => by omega
  | m + 1, i, S1, hm, hi, G, he, k0 => by
    unfold f_layIf_108
    refine Rt.bd (G.1.1.vi (by decide) (by decide) (oI_mk (hL a ha) k1 (v := nI mn) rfl)) (Rt.it (fun w => ?_) (fun w => ?_))
    · have : mn ≤ i := (nI_leI (by omega) (by omega)).mp w
      exact Rt.rt ⟨G.cls (fun k hk => by obtain ⟨j, h1, h2, _⟩ := hk; omega), k0⟩
    · have hlt : i < mn := by
        by_cases q : i < mn
        · exact q
        · exact absurd (nI_le (a := mn) (b := i) (by omega) (by omega)) w
      obtain ⟨p1, p2, p3⟩ := hpe i hlt
      refine Rt.bd (by rw [aI_j he.1 he.2 hlt (by omega), p1]) ?_
      rw [G.1.2.1]
      refine Rt.bd (wRI_n (show pe i < rlen 30 from by show _ < 24000; omega) (by decide)) ?_
      rw [nI_1]
      refine lif108 hL ha k1 hmn hP2 hpe hij m (i + 1) _ (by omega) (by omega) ((G.pj (k := pe i) ⟨i, Nat.le_refl _, hlt, rfl⟩ wkS.rf hP2).mo (fun k => ⟨fun ⟨j, h1, h2, h3⟩ => ⟨⟨j, by omega, h2, h3⟩, fun e => ?_⟩, fun ⟨⟨j, h1, h2, h3⟩, h4⟩ => ⟨j, ?_, h2, h3⟩⟩) (fun w => ⟨w, w.2⟩) id (Nat.le_refl _) (Nat.le_refl _)) he ?_
      · have := hij j i h2 hlt (h3.trans e); omega
      · by_cases e : j = i
        · subst e; exact absurd h3.symm h4
        · omega
      · unfold K0; rw [Zr_un (by decide)]; exact k0
/-- the block of a branch and its jump -/
theorem lif61 {a ca ba cap y p0 b0 i m fe : Nat} {ff : Nat → Int32} {p1 b1 v1 w1 : Nat} {k9 : Sg → Option Nat → Option Nat → Int32 → Option (Sg × Unit)} {x4 : Int32} {Q : Sg → Unit → Prop} {q1 : Nat} (hF : FEn R S0 E Λ gv) (hB : BWt R bw) (hV : LbV R S0 E Λ gv bw V n) (hm : m ≤ n) (ha : a ∈ ZL R.S) (k1 : ZF S0 a = stC 3 p 0 0 0 .null .null .null .null .null (.ref ca) (.ref ba) .null mn) (hp : p < R.T) (hba : ba ∈ ZL R.S) (hFb : ZF S0 ba = .inl (R.K.1 10, cap, .inr (.inr (.inr (.inr g))))) (hmc : mn ≤ cap) (hmn : mn ≤ 3001) (hi : i < mn) (hy : g i = some y) (hs : sN R S0 Λ gv m 1 y p0 q1 b0 b1 v1 w1 Γ Γ (0, 0, 0)) (H : LyHb R S0 S E P Γ L js Λ gv bw p0 q1 b0 b1 v1 w1) (hP1 : 1 ≤ P)
  (k : ∀ (S4 : Sg) (Pj L4 z n : Nat), GVo R S0 S S4 E P (Pj + 1) 0 Γ L L4 (mkV js) (mkV js) (fun k => k = Pj) (mkV js) True (eBx S0 y) z n → P ≤ Pj → Pj + 8 ≤ P + 8 * (bw q1 - bw p0) → z + 20 ≤ 20 * (bw q1 - bw p0) → n + 60 ≤ 60 * (bw q1 - bw p0) → L4 + b0 + v1 ≤ L + b1 + w1 → K0 S4 (Pj + 1) → Rt ((bI R.K S4 (some e) (nI i) (nI Pj)).bind fun S22 =>
  if x4 < 0 then (f_layIf_100 R.K V k9 S22 (some a) (some e) (nI i)) else ((wRI S22 30 x4 (Zi S22 26)).bind fun S23 =>
  f_layIf_100 R.K V k9 S23 (some a) (some e) (nI i))) Q) : Rt (f_layIf_61 R.K V k9 S (some a) (some e) (nI i) x4) Q := by
  have hL := hF.1.1
  have cc := H.2.2.1
  have hPP := H.2.2.2.2.2.2.2.2.1
  obtain ⟨r1, r2⟩ := cc.1.ro (hL ba hba) hFb
  unfold f_layIf_61
  refine Rt.bd (cc.1.vr (by decide) (by decide) (oR_mk (hL a ha) k1 (v := some ba) rfl)) (Rt.bd (aQ_j r1 r2 (by omega) (by omega)) ?_)
  rw [hy]
  refine Rt.bn (hV m hm y p0 q1 b0 b1 v1 w1 Γ hs S P L js H) (fun S3 _ t3 => ?_)
  obtain ⟨P3, L3, z3, n3, g3, d1, d2, d3, d4, d5⟩ := t3
  have hP3 : P ≤ P3 := g3.2.2.2.2.2.1
  refine Rt.bd (g3.1.1.vi (by decide) (by decide) (oI_mk (hL a ha) k1 (v := nI p) rfl)) ?_
  refine pnt_ (Lb := L3) (Sb := S3) (z := 0) (n := 0) (by omega) g3.1 LZ.rf (Nat.le_refl _) (by omega) (by omega) UsK.rf (fun S4 p4 _ => ?_)
  have g4 : GVo R S0 S3 S4 E P3 (P3 + 1) 0 Γ L3 L3 (mkV js) (mkV js) (fun k => k = P3) (mkV js) True False 0 0 := by
    refine gvj (K := 16) (pp := p) (Or.inl rfl) p4 pl0_o hp (by rw [wl_mk]; omega) (fun T _ _ => ?_)
    exact tP_16 rfl ⟨⟨iD0_0, nT_mk⟩, T, rfl, Or.inl ⟨rfl, wkS.rf⟩⟩
  have G4 := (GVo.of (yD := mkV js) (cD := True) g3).tr g4
  refine k S4 P3 L3 _ _ (G4.mo (fun k => ⟨fun w => Or.inr w, fun w => w.elim (fun w => w.elim) id⟩) (fun _ => Or.inr trivial) (fun w => ⟨trivial, Or.inl w⟩) (Nat.le_refl _) (Nat.le_refl _)) hP3 d1 d2 d3 d4 ?_
  rcases d5 with w | w
  · omega
  · exact w.st p4.2.1 (Nat.le_succ _)
/-- the branches one behind the other -/
theorem lif9 {a ca ba cap m : Nat} (H : LyH R S0 S E P Γ L js Λ gv bw p q b c v w) (hV : LbV R S0 E Λ gv bw V n) (hm : m ≤ n) (ha : a ∈ ZL R.S) (k1 : ZF S0 a = stC 3 p 0 0 0 .null .null .null .null .null (.ref ca) (.ref ba) .null mn) (hca : ca ∈ ZL R.S) (hba : ba ∈ ZL R.S) (hFc : ZF S0 ca = .inl (R.K.1 9, cap, .inr (.inr (.inr (.inr f))))) (hFb : ZF S0 ba = .inl (R.K.1 10, cap, .inr (.inr (.inr (.inr g))))) (hmc : mn ≤ cap) (hm1 : 1 ≤ mn) (p0 : ps 0 = p) (pn : ps mn = q) (b0 : bs 0 = b) (bn : bs mn = c) (v0 : vs 0 = v) (vn : vs mn = w) (hX : IfX R S0 Λ gv Γ m mn f g ps bs vs) (hmo : ∀ i j : Nat, i ≤ j → j ≤ mn → ps i + (j - i) ≤ ps j ∧ bs i ≤ bs j ∧ vs i ≤ vs j) (hne : e ∉ ZL S) : ∀ (k i : Nat) (S1 : Sg), mn < i + k → i ≤ mn → IfS R S0 S E P Γ L js bw p b v e mn f g ps bs vs S1 i → Rt (f_layIf_9 R.K V k S1 (some a) (some e) (nI i)) (fun S2 _ => LyQ R S0 S E P Γ Γ L js Λ bw p q b c v w ((∃ j : Nat, j < mn ∧ f j = none) ∧ ∀ j : Nat, j < mn → ∃ y : Nat, g j = some y ∧ eBx S0 y) 1 S2)
  | 0, i, S1, hk, hi, _ => by omega
  | k + 1, i, S1, hk, hi, hS => by
    have H2 := H
    obtain ⟨hF, hB, cc, k0, hG, hv, hw, hpq, hP, hl, hr⟩ := H2
    have hL := hF.1.1
    have hY := hF.1.2.1
    have hT3 : R.T ≤ 3001 := hF.1.2.2.2.2.2.2.2.2.2.1
    have hmn := hmo 0 mn (Nat.zero_le _) (Nat.le_refl _)
    have hbq := hB.mo (p := p) (q := q) (by omega) hpq.2
    obtain ⟨Pi, Li, z, n', pe, fe, G, hv1, hpe, hij, kk, e1, e2, e3, e4⟩ := hS
    unfold f_layIf_9
    refine Rt.bd (G.1.1.vi (by decide) (by decide) (oI_mk (hL a ha) k1 (v := nI mn) rfl)) (Rt.it (fun q9 => ?_) (fun q9 => ?_))
    · have : mn ≤ i := (nI_leI (by omega) (by omega)).mp q9
      obtain rfl : i = mn := by omega
      rw [pn] at e1 e2 e3
      refine (lif108 (fe := fe) (pe := pe) (cl := ∃ j : Nat, j < i ∧ f j = none) (cD := ∀ j : Nat, j < i → ∃ y : Nat, g j = some y ∧ eBx S0 y) hL ha k1 (by omega) (by omega) hpe hij bigN 0 S1 (by unfold bigN; omega) (Nat.zero_le _) (G.mo (fun k => ⟨fun ⟨j, _, h2, h3⟩ => ⟨j, h2, h3⟩, fun ⟨j, h2, h3⟩ => ⟨j, Nat.zero_le _, h2, h3⟩⟩) (fun w => w.1) id (Nat.le_refl _) (Nat.le_refl _)) ⟨hv1.1, hv1.2.1⟩ kk).mo (fun S2 _ t => ?_)
      exact LyQ.of hG (fun j hj => by have := hv j hj; omega) t.1 (by omega) (by omega) (by omega) (by omega) t.2
    · have hlt : i < mn := by
        by_cases e : i < mn
        · exact e
        · exact absurd (nI_le (a := mn) (b := i) (by omega) (by omega)) q9
      obtain ⟨y, y1, p9, b9, y2, y3, y4⟩ := hX i hlt
      have hsl := sN_lt y4
      have hsm := sN_mo y4
      have m1 := hmo 0 i (Nat.zero_le _) hi
      have m2 := hmo (i + 1) mn hlt (Nat.le_refl _)
      have w1 := hB.mo (p := p) (q := ps i) (by omega) (by omega)
      have w2 := hB.mo (p := ps i) (q := p9) y3 (by omega)
      have w3 := hB.mo (p := p9) (q := ps (i + 1)) (by omega) (by omega)
      have w4 := hB.mo (p := ps (i + 1)) (q := q) (by omega) (by omega)
      have w5 := hB.mo (p := ps i) (q := ps (i + 1)) (by omega) (by omega)
      obtain ⟨r1, r2⟩ := G.1.1.ro (hL ca hca) hFc
      have rC : oR S1 19 (some a) 10 = some (some ca) := G.1.1.vr (by decide) (by decide) (oR_mk (hL a ha) k1 (v := some ca) rfl)
      have hbi : bs i ≤ b9 := by
        rcases y2 with ⟨_, w⟩ | ⟨_, _, _, _, _, _, _, w, _⟩
        · omega
        · exact xE_bc w
      -- the next branch
      have hnx : ∀ (S' : Sg) (P' L' z' n'' Pj : Nat) (fe' : Nat → Int32), GVo R S0 S S' E P P' 0 Γ L L' (mkV js) (mkV js) (fun k => (∃ j : Nat, j < i ∧ pe j = k) ∨ k = Pj) (mkV js) ((∃ j : Nat, j < i ∧ f j = none) ∨ f i = none) ((∀ j : Nat, j < i → ∃ y : Nat, g j = some y ∧ eBx S0 y) ∧ eBx S0 y) z' n'' → PVc R S0 S' P P' e mn fe' → fe' = upd fe i (nI Pj) → Pi ≤ Pj → Pj < P' → K0 S' P' → P' + 6 * (i + 1) ≤ P + 8 * (bw (ps (i + 1)) - bw p) → z' + 20 * (i + 1) ≤ 1 + 20 * (bw (ps (i + 1)) - bw p) → n'' + 60 * (i + 1) ≤ mn + 60 * (bw (ps (i + 1)) - bw p) → L' + b + v ≤ L + bs (i + 1) + vs (i + 1) → Rt (f_layIf_100 R.K V ((f_layIf_9 R.K V k)) S' (some a) (some e) (nI i)) (fun S2 _ => LyQ R S0 S E P Γ Γ L js Λ bw p q b c v w ((∃ j : Nat, j < mn ∧ f j = none) ∧ ∀ j : Nat, j < mn → ∃ y : Nat, g j = some y ∧ eBx S0 y) 1 S2) := fun S' P' L' z' n'' Pj fe' G' v' hfe hPj hPj2 kk' c1 c2 c3 c4 => by
        unfold f_layIf_100
        rw [nI_1]
        refine lif9 H hV hm ha k1 hca hba hFc hFb hmc hm1 p0 pn b0 bn v0 vn hX hmo hne k (i + 1) S' (by omega) (by omega) ⟨P', L', z', n'', fun j => if j = i then Pj else pe j, fe', G'.mo (fun k => ?_) (fun w => ?_) (fun w => ?_) (Nat.le_refl _) (Nat.le_refl _), v', fun j hj => ?_, fun j k hj hk e => ?_, kk', c1, c2, c3, c4⟩
        · constructor
          · rintro ⟨j, h1, h2⟩
            dsimp only at h2
            by_cases e : j = i
            · rw [if_pos e] at h2; exact Or.inr h2.symm
            · rw [if_neg e] at h2; exact Or.inl ⟨j, by omega, h2⟩
          · rintro (⟨j, h1, h2⟩ | h2)
            · exact ⟨j, by omega, by dsimp only; rw [if_neg (by omega)]; exact h2⟩
            · exact ⟨i, by omega, by dsimp only; rw [if_pos rfl]; exact h2.symm⟩
        · obtain ⟨j, h1, h2⟩ := w
          by_cases e : j = i
          · subst e; exact Or.inr h2
          · exact Or.inl ⟨j, by omega, h2⟩
        · refine ⟨fun j hj => w j (by omega), ?_⟩
          obtain ⟨y', z1, z2⟩ := w i (by omega)
          rw [y1] at z1; cases z1; exact z2
        · rw [hfe]
          dsimp only
          by_cases e : j = i
          · rw [if_pos e, e, upd_s]; exact ⟨rfl, by have := G.2.2.2.2.2.1; omega, hPj2⟩
          · rw [if_neg e, upd_n e]
            obtain ⟨h1, h2, h3⟩ := hpe j (by omega)
            exact ⟨h1, h2, by omega⟩
        · dsimp only at e
          by_cases e1 : j = i
          · by_cases e2 : k = i
            · omega
            · rw [if_pos e1, if_neg e2] at e
              have := (hpe k (by omega)).2.2; omega
          · by_cases e2 : k = i
            · rw [if_neg e1, if_pos e2] at e
              have := (hpe j (by omega)).2.2; omega
            · rw [if_neg e1, if_neg e2] at e
              exact hij j k (by omega) (by omega) e
      refine Rt.bd rC (Rt.bd (aQ_j r1 r2 (by omega) (by omega)) ?_)
      rcases y2 with ⟨y2, y5⟩ | ⟨x, p', q0, t, x1, x2, x3, x4, x5⟩
      · rw [y2]
        refine Rt.ip rfl ?_
        refine lif61 (q1 := ps (i + 1)) (p1 := ps i) (fe := 0) (ff := fe) hF hB hV hm ha k1 (by omega) hba hFb hmc (by omega) hlt y1 y4 ⟨hF, hB, G.1, Or.inr kk, hG, fun j hj => by have := hv j hj; omega, by omega, by omega, by omega, by omega, G.frm.rm hr (by omega) (by omega)⟩ kk.1 (fun S4 Pj L4 z4 n4 G4 c0 c1 c2 c3 c4 k4 => ?_)
        have v4 := hv1.gv G4
        refine Rt.bd (bI_n v4.1 v4.2.1 hlt (by omega)) (Rt.ip (by decide) ?_)
        refine hnx _ (Pj + 1) L4 (z + z4) (n' + n4) Pj _ (GVo.uF ((G.tr G4).mo (fun k => Iff.rfl) (fun w => Or.inr trivial) (fun w => ⟨w.1, Or.inr w.2⟩) (Nat.le_refl _) (Nat.le_refl _)) v4 hne) (PVc.uF v4) rfl c0 (Nat.lt_succ_self _) k4 (by omega) (by omega) (by omega) (by omega)
      · rw [x1]
        refine Rt.iq (by simp) (Rt.bd rC (Rt.bd (aQ_j r1 r2 (by omega) (by omega)) ?_))
        rw [x1]
        have xlt := xE_lt x4
        have w6 := hB.mo (p := ps i) (q := p') (by omega) (by omega)
        have w7 := hB.mo (p := p') (q := q0) (by omega) (by omega)
        have w8 := hB.mo (p := q0) (q := p9) (by omega) (by omega)
        have xbc := xE_bc x4
        refine Rt.bn (sgv (p := p') (q := ps (i + 1)) (c := b9) (v := v) (w := v) ⟨hF, hB, G.1, kk, hG, hv, by omega, by omega, by omega, by omega, G.frm.rm hr (by omega) (by omega)⟩ x4 (Nat.le_refl _) (by omega)) (fun S2 _ t2 => ?_)
        obtain ⟨P2, L2, g2, b1', b2', b3', b4', b5', kk2⟩ := t2
        rw [resE_b hY x5] at g2
        have hw1 : wl ([(0, 2, 0)] ++ mkV js) = 0 + 1 := by show wl ((0, 2, 0) :: mkV js) = _; rw [wl_0t, wl_mk]
        rw [hw1] at g2
        have e48 : Zi S2 48 - 1 = nI 0 := by rw [g2.1.2.2.1]; exact nI_pred 0
        refine g2.hs e48 (fun S3 g3 e3' => ?_)
        have kk3 : K0 S3 P2 := by unfold K0; rw [e3']; exact kk2
        refine Rt.bd (g3.1.1.vi (by decide) (by decide) (oI_mk (hL a ha) k1 (v := nI p) rfl)) ?_
        refine pnt_ (Lb := L2) (Sb := S3) (z := 0) (n := 0) (by omega) g3.1 LZ.rf (Nat.le_refl _) (by omega) (by omega) UsK.rf (fun S4 p4 _ => ?_)
        have F4 := (G.frm.tr g3.frm).tr p4.frm
        refine lif61 (q1 := ps (i + 1)) (p1 := ps i) (fe := 0) (ff := fe) hF hB hV hm ha k1 (by omega) hba hFb hmc (by omega) hlt y1 y4 ⟨hF, hB, p4.1, Or.inr (kk3.st p4.2.1 (Nat.le_succ _)), hG, fun j hj => by have := hv j hj; omega, by omega, by omega, by omega, by omega, F4.rm hr (by omega) (by omega)⟩ (by omega) (fun S5 Pj L5 z5 n5 G5 c0 c1 c2 c3 c4 k5 => ?_)
        have F5 := F4.tr G5.frm
        have v5 := hv1.fr ((g3.frm.tr p4.frm).tr G5.frm)
        refine Rt.bd (bI_n v5.1 v5.2.1 hlt (by omega)) (Rt.iq (nI_pos (by omega)) ?_)
        have e26 : Zi (UF S5 e (.inl (R.K.1 0, mn, .inl (upd fe i (nI Pj))))) 26 = nI (Pj + 1) := G5.1.2.1
        rw [e26]
        refine Rt.bd (wRI_n (show P2 < rlen 30 from by show P2 < 24000; omega) (by decide)) ?_
        have hL2 : Li ≤ L2 := g3.2.2.2.2.2.2.1
        have hL5 : L2 ≤ L5 := G5.2.2.2.2.2.2.1
        have t1 := (((G.2.2.1.st ((g3.2.1.tr p4.2.1 (by omega) (by omega)).tr (G5.2.1.le (P := P2) (L := L2) (by omega) (Nat.le_refl _)) (by omega) (by omega))).up (show Li ≤ L5 by omega)).uF (c := .inl (R.K.1 0, mn, .inl (upd fe i (nI Pj)))) v5.2.1 (fun k h1 h2 => (v5.2.2.2.2 k h1 (by omega)).1)).jp (n := P2) (w := nI (Pj + 1)) (Or.inr (by omega))
        have t2 := ((((tsgo.of (yD := mkV js) (cD := True) g3.2.2.1).st (p4.2.1.tr (G5.2.1.le (P := P2) (L := L2) (by omega) (Nat.le_refl _)) (Nat.le_refl _) (Nat.le_refl _))).up hL5).uF (c := .inl (R.K.1 0, mn, .inl (upd fe i (nI Pj)))) v5.2.1 (fun k h1 h2 => (v5.2.2.2.2 k (by have := G.2.2.2.2.2.1; omega) (by omega)).1)).jp (n := P2) (w := nI (Pj + 1)) (Or.inr (by omega))
        have t3 := (G5.2.2.1.uF (c := .inl (R.K.1 0, mn, .inl (upd fe i (nI Pj)))) v5.2.1 (fun k h1 h2 => (v5.2.2.2.2 k (by have := G.2.2.2.2.2.1; omega) h2).1)).jp (n := P2) (w := nI (Pj + 1)) (Or.inl (by omega))
        have hAT : AT (UF S5 e (.inl (R.K.1 0, mn, .inl (upd fe i (nI Pj))))) P2 (ptRc 17 (nI p)) := by
          have hk := G5.2.1.2.1 P2 (Nat.lt_succ_self _)
          have q := p4.2.2.1
          exact ⟨fun r h1 h2 h3 => (hk.1 r h1 h2).trans (q.1 r h1 h2 h3), hk.2.1.trans q.2.1, fun r h1 h2 => (hk.2.2 r h1 h2).trans (q.2.2 r h1 h2)⟩
        have t4 := t3.uns (pp := p) (by omega) (rz_j (K := 17) (T := Pj + 1) (sc := [P2 + 1, Pj + 1]) (Or.inr ⟨Or.inl rfl, rfl⟩) hAT pl0_o (by omega) (by omega)) (by rw [wl_mk]; omega)
        have t5 := (t1.app t2).app t4
        have F6 := (F5.uF (f2 := upd fe i (nI Pj)) v5 hne).ur (k := P2) (w := nI (Pj + 1)) (by have := G.2.2.2.2.2.1; omega)
        refine hnx _ (Pj + 1) L5 _ _ Pj _ ((GVo.mk F6 t5).mo (fun k => ⟨fun w => w.elim (fun w => Or.inl (Or.inl w)) (fun w => Or.inr w), fun w => w.elim (fun w => w.elim Or.inl (fun w => w.elim)) Or.inr⟩) (fun w => ?_) (fun w => ⟨⟨w.1, Or.inr trivial⟩, Or.inr w.2⟩) (Nat.le_refl _) (Nat.le_refl _)) (PVc.uF v5) rfl (by omega) (Nat.lt_succ_self _) ?_ (by omega) (by omega) (by omega) (by omega)
        · rcases w with w | w
          · exact Or.inl (Or.inl w)
          · rw [x1] at w; cases w
        · unfold K0; rw [Zr_un (by decide)]; exact k5
/-- if -/
theorem lif_ {a ca ba cap m : Nat} (H : LyH R S0 S E P Γ L js Λ gv bw p q b c v w) (hV : LbV R S0 E Λ gv bw V n) (hm : m ≤ n) (ha : a ∈ ZL R.S) (k1 : ZF S0 a = stC 3 p 0 0 0 .null .null .null .null .null (.ref ca) (.ref ba) .null mn) (hca : ca ∈ ZL R.S) (hba : ba ∈ ZL R.S) (hFc : ZF S0 ca = .inl (R.K.1 9, cap, .inr (.inr (.inr (.inr f))))) (hFb : ZF S0 ba = .inl (R.K.1 10, cap, .inr (.inr (.inr (.inr g))))) (hmc : mn ≤ cap) (hm1 : 1 ≤ mn) (hch : chJ (fun i y p1 q1 b1 c1 v1 w1 => ∃ p0 b0 : Nat, ((f i = none ∧ b0 = b1) ∨ ∃ x p' q0 t : Nat, f i = some x ∧ p1 < p' ∧ q0 ≤ p0 ∧ xE R S0 Γ 408 16 x p' q0 b1 b0 t ∧ isTy S0 t 1 0 none) ∧ p1 ≤ p0 ∧ sN R S0 Λ gv m 1 y p0 q1 b0 c1 v1 w1 Γ Γ (0, 0, 0)) g mn p q b c v w) : Rt (f_layIf R.K V S (some a)) (fun S2 _ => LyQ R S0 S E P Γ Γ L js Λ bw p q b c v w ((∃ j : Nat, j < mn ∧ f j = none) ∧ ∀ j : Nat, j < mn → ∃ y : Nat, g j = some y ∧ eBx S0 y) 1 S2) := by
  have H2 := H
  obtain ⟨hF, hB, cc, k0, hG, hv, hw, hpq, hP, hl, hr⟩ := H2
  have hL := hF.1.1
  have hT3 : R.T ≤ 3001 := hF.1.2.2.2.2.2.2.2.2.2.1
  obtain ⟨ps, bs, vs, h1, h2, h3, h4, h5, h6, h7⟩ := hch
  have hmo : ∀ i j : Nat, i ≤ j → j ≤ mn → ps i + (j - i) ≤ ps j ∧ bs i ≤ bs j ∧ vs i ≤ vs j := fun i j hi hj => chJ_mo (P := fun i y p1 q1 b1 c1 v1 w1 => ∃ p0 b0 : Nat, ((f i = none ∧ b0 = b1) ∨ ∃ x p' q0 t : Nat, f i = some x ∧ p1 < p' ∧ q0 ≤ p0 ∧ xE R S0 Γ 408 16 x p' q0 b1 b0 t ∧ isTy S0 t 1 0 none) ∧ p1 ≤ p0 ∧ sN R S0 Λ gv m 1 y p0 q1 b0 c1 v1 w1 Γ Γ (0, 0, 0)) (by
    intro i x p q b c v w _ z
    obtain ⟨p0, b0, z1, z2, z3⟩ := z
    have z4 := sN_mo z3
    have z5 := sN_lt z3
    rcases z1 with ⟨_, e⟩ | ⟨_, _, _, _, _, _, _, e, _⟩
    · exact ⟨by omega, by omega, z4.2⟩
    · have := xE_bc e; exact ⟨by omega, by omega, z4.2⟩) h7 hi hj
  have hmn := hmo 0 mn (Nat.zero_le _) (Nat.le_refl _)
  have hbq := hB.mo (p := p) (q := q) (by omega) hpq.2
  unfold f_layIf
  refine Rt.bd (cc.1.vi (by decide) (by decide) (oI_mk (hL a ha) k1 (v := nI mn) rfl)) ?_
  refine new_pv (E := E) (s := mkV js) (yD := mkV js) (cD := True) (m := mn) cc (by omega) (by have := hr.1; omega) (by have := hr.2; omega) (fun S2 c2 g2 v2 _ => ?_)
  have hno : Zz S ∉ ZL S := fun w => Nat.lt_irrefl _ (cc.hz _ w)
  refine lif9 H hV hm ha k1 hca hba hFc hFb hmc hm1 h1 h2 h3 h4 h5 h6 (fun i hi => ?_) hmo hno bigN 0 S2 (by unfold bigN; omega) (Nat.zero_le _) ⟨P, L, 1, mn, fun _ => 0, _, g2.mo (fun k => ⟨fun ⟨j, w, _⟩ => absurd w (by omega), fun w => w.elim⟩) (fun ⟨j, w, _⟩ => absurd w (by omega)) (fun _ => trivial) (Nat.le_refl _) (Nat.le_refl _), v2, fun j hj => absurd hj (by omega), fun j k hj => absurd hj (by omega), k0.gvo g2, by omega, by omega, by omega, by omega⟩
  obtain ⟨y, y1, y2⟩ := h7 i hi
  exact ⟨y, y1, y2⟩
end LY35
