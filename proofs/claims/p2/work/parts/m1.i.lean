-- m1.i.lean.txt
section
/-- what a piece's laying leaves, its code aside -/
def FRM (R : yR) (S0 S S2 : Sg) (P P2 h2 : Nat) (Γ2 : List Nat) (L L2 z n : Nat) : Prop := LC R S0 S2 P2 h2 Γ2 L2 ∧ LZ P L S S2 ∧ Zz S2 ≤ Zz S + z ∧ Zn S2 ≤ Zn S + n ∧ P ≤ P2 ∧ L ≤ L2 ∧ RFx S0 S P S2 P2
section LY34
variable {R : yR} {S0 Sb S S1 S2 S3 : Sg} {P P1 P2 P3 h h0 h1 h2 hc L L1 L2 Lb z n z2 n2 : Nat} {Γ Γ0 Γ1 Γ2 Λ : List Nat} {E : eV} {s s1 s2 yD : List tE} {cl cl2 cD cD2 : Prop} {D D2 : Nat → Prop} {a m : Nat} {f f2 : Nat → Int32} {x : pRc}
theorem GV.frm (g : GV R S0 S S2 E P P2 h h2 Γ Γ2 L L2 s s2 cl z n) : FRM R S0 S S2 P P2 h2 Γ2 L L2 z n := ⟨g.1, g.2.1, g.2.2.2⟩
theorem GVo.frm (g : GVo R S0 S S2 E P P2 h2 Γ2 L L2 s s2 D yD cl cD z n) : FRM R S0 S S2 P P2 h2 Γ2 L L2 z n := ⟨g.1, g.2.1, g.2.2.2⟩
theorem GVo.mk (F : FRM R S0 S S2 P P2 h2 Γ2 L L2 z n) (t : tsgo R S0 S2 E L2 P P2 s s2 D yD cl cD) : GVo R S0 S S2 E P P2 h2 Γ2 L L2 s s2 D yD cl cD z n := ⟨F.1, F.2.1, t, F.2.2⟩
theorem LPt.frm (p : LPt R S0 Sb S P h Γ L Lb x z n) : FRM R S0 Sb S P (P + 1) h Γ Lb L z n := ⟨p.1, p.2.1, p.2.2.2.1, p.2.2.2.2.1, Nat.le_succ _, p.2.2.2.2.2.1, p.2.2.2.2.2.2⟩
theorem FRM.tr (F : FRM R S0 S S1 P P1 h1 Γ1 L L1 z n) (G : FRM R S0 S1 S2 P1 P2 h2 Γ2 L1 L2 z2 n2) : FRM R S0 S S2 P P2 h2 Γ2 L L2 (z + z2) (n + n2) := by
  obtain ⟨a1, a2, a4, a5, a6, a7, a8⟩ := F
  obtain ⟨b1, b2, b4, b5, b6, b7, b8⟩ := G
  exact ⟨b1, a2.tr b2 a6 a7, by omega, by omega, by omega, by omega, a8.tr b8 a2.1 b2⟩
theorem FRM.uF (F : FRM R S0 S S2 P P2 h2 Γ2 L L2 z n) (v : PVc R S0 S2 P P2 a m f) (hn : a ∉ ZL S) : FRM R S0 S (UF S2 a (.inl (R.K.1 0, m, .inl f2))) P P2 h2 Γ2 L L2 z n := ⟨F.1.uF v.2.1 v.2.2.1 v.2.2.2.1, LZ.uF F.2.1 hn, F.2.2.1, F.2.2.2.1, F.2.2.2.2.1, F.2.2.2.2.2.1, F.2.2.2.2.2.2.uF⟩
theorem FRM.ur {k : Nat} {w : Int32} (F : FRM R S0 S S2 P P2 h2 Γ2 L L2 z n) (hk : P ≤ k) : FRM R S0 S (Ur S2 30 (upd (Zr S2 30) k w)) P P2 h2 Γ2 L L2 z n := ⟨F.1.ur (Or.inl (by decide)), F.2.1.tr (LZ.ur (by decide) hk) (Nat.le_refl _) (Nat.le_refl _), F.2.2.1, F.2.2.2.1, F.2.2.2.2.1, F.2.2.2.2.2.1, F.2.2.2.2.2.2⟩
theorem FRM.rm {z3 n3 : Nat} (F : FRM R S0 S S2 P P2 h2 Γ2 L L2 z n) (r : RMl R S z3 n3) (hz : z + z2 ≤ z3) (hn : n + n2 ≤ n3) : RMl R S2 z2 n2 := ⟨by have := F.2.2.1; have := r.1; omega, by have := F.2.2.2.1; have := r.2; omega⟩
theorem FRM.mo {z2 n2 : Nat} (F : FRM R S0 S S2 P P2 h2 Γ2 L L2 z n) (hz : z ≤ z2) (hn : n ≤ n2) : FRM R S0 S S2 P P2 h2 Γ2 L L2 z2 n2 := ⟨F.1, F.2.1, by have := F.2.2.1; omega, by have := F.2.2.2.1; omega, F.2.2.2.2⟩
/-- a row of the maker's stays his -/
theorem PVc.fr (v : PVc R S0 S P P1 a m f) (F : FRM R S0 S S2 P1 P2 h2 Γ2 L L2 z n) : PVc R S0 S2 P P2 a m f := by
  obtain ⟨v1, v2, v3, v4, v5⟩ := v
  have hx : LX S S2 := F.2.1.1
  obtain ⟨r1, r2⟩ := hx.ro v1 v2
  refine ⟨r1, r2, v3, fun w => v4 (F.2.2.2.2.2.2.1 a v1 w), fun k h1 h2 => ?_⟩
  by_cases e : k < P1
  · obtain ⟨q1, q2⟩ := v5 k h1 e
    have hq : ∀ r : Nat, 36 ≤ r → r ≤ 42 → Zq S2 r k = Zq S r k := (F.2.1.2.1 k e).2.2
    refine ⟨fun h => q1 ?_, fun w hw => ?_⟩
    · rcases h with h | h | h | ⟨w, gs, h3, h4, h5⟩
      · exact Or.inl (by rw [← hq 36 (by decide) (by decide)]; exact h)
      · exact Or.inr (Or.inl (by rw [← hq 37 (by decide) (by decide)]; exact h))
      · exact Or.inr (Or.inr (Or.inl (by rw [← hq 42 (by decide) (by decide)]; exact h)))
      · rw [hq 38 (by decide) (by decide)] at h3
        exact Or.inr (Or.inr (Or.inr ⟨w, gs, h3, (hx.1 w (q2 w h3)).2.back h4 (by decide) (by decide), h5⟩))
    · rw [hq 38 (by decide) (by decide)] at hw
      exact (hx.1 w (q2 w hw)).1
  · obtain ⟨q1, q2⟩ := F.2.2.2.2.2.2.2 k (by omega) h2
    exact ⟨fun w => v4 (q1 a v1 w), q2⟩
theorem PVc.ur {k : Nat} {w : Int32} (v : PVc R S0 S P P2 a m f) : PVc R S0 (Ur S 30 (upd (Zr S 30) k w)) P P2 a m f := v
theorem PVc.su {P0 : Nat} (v : PVc R S0 S P P2 a m f) (h : P ≤ P0) : PVc R S0 S P0 P2 a m f := ⟨v.1, v.2.1, v.2.2.1, v.2.2.2.1, fun k h1 h2 => v.2.2.2.2 k (by omega) h2⟩
/-- a jump outside of the piece is set -/
theorem tsgo.jp {n : Nat} {w : Int32} {x y : List tE} (q : tsgo R S0 S E L P P2 x y D yD cl cD) (hn : n < P ∨ P2 ≤ n) : tsgo R S0 (Ur S 30 (upd (Zr S 30) n w)) E L P P2 x y D yD cl cD := by
  obtain ⟨st, W, h1, h2, h3, h4, h5, h6, h7, h8⟩ := q
  refine ⟨st, W, h1, h2, h3, h4, h5, h6, h7, fun k hk hb => ?_⟩
  obtain ⟨q0, q1, q2⟩ := h8 k hk hb
  have hrk : RK S (Ur S 30 (upd (Zr S 30) n w)) k := ⟨fun r h1 h2 => by
    by_cases e : r = 30
    · subst e; rw [Zr_us, upd_n (by omega)]
    · rw [Zr_un e], rfl, fun _ _ _ => rfl⟩
  have hx : LX S (Ur S 30 (upd (Zr S 30) n w)) := (LZ.ur (P := 0) (L := 0) (by decide) (Nat.zero_le _)).1
  refine ⟨q0, fun hd => ?_, fun hd T hT hT2 => ?_⟩
  · obtain ⟨i, p1, p2, p3, p4⟩ := q1 hd
    exact ⟨i, p1.st hx hrk (fun l e => ⟨rfl, fun r h1 h2 => by rw [Zr_un (by omega)]⟩), p2, fun j hj => ⟨(p3 j hj).1, (p3 j hj).2.1, (p3 j hj).2.2.1, (p3 j hj).2.2.2.ur⟩, p4⟩
  · obtain ⟨i, p1, p2, p3⟩ := q2 hd T hT hT2
    exact ⟨i, p1.st (LX_j hx) (RK_j hrk) (fun l e => by rw [p2] at e; cases e), p2, p3⟩
/-- a condition ahead of a piece: the way that is not gone leads to its end -/
theorem tsgo.uns {k0 pp : Nat} {x : List tE} (q : tsgo R S0 S E L (k0 + 1) P2 x x D yD cl cD) (hb : k0 + 1 < P2) (hz : rz R S0 S k0 ((17, 0, none, (none, none), ([], []), [k0 + 1, P2], (0, 0, 0), []) : iR)) (hw : wl x + 1 ≤ 177) : tsgo R S0 S E L k0 P2 ((0, 2, 0) :: x) x D yD False cD := by
  obtain ⟨st, W, h1, h2, h3, h4, h5, h6, h7, h8⟩ := q
  have hj : ∀ {j : Nat} {t : List tE}, k0 + 1 ≤ j → wkS t (st j) → wkS t (pcE k0 ((0, 2, 0) :: x) st j) := fun hjb j3 => by rw [pcE_n (by omega)]; exact j3
  refine ⟨pcE k0 ((0, 2, 0) :: x) st, fun k => k = k0 ∨ k = P2 ∨ W k, by rw [pcE_s]; exact wkS.rf, by rw [pcE_n (by omega)]; exact h2, Or.inl rfl, fun w => w.elim, by omega, fun k hk => by have := h6 k hk; omega, fun w k hk z => ?_, fun k hk hb2 => ?_⟩
  · have := h6 k hk
    rcases z with z | z | z
    · omega
    · omega
    · exact h7 w k hk z
  · by_cases e : k = k0
    · subst e
      have hnd : ¬ D k := fun w => by have := h6 k w; omega
      rw [pcE_s]
      refine ⟨by rw [wl_0t]; exact hw, fun _ => ⟨_, hz, (fun l e => by cases e), fun j hj2 => ?_, tP_17 rfl ⟨iD0_0, 2, P2, x, Or.inr rfl, rfl, rfl, ⟨by omega, by omega, hj (Nat.le_refl _) h1⟩, by omega, Nat.le_refl _, hj (by omega) (by rw [h2]; exact wkS.rf)⟩⟩, fun w => absurd w hnd⟩
      rcases List.mem_cons.mp hj2 with e | e
      · rw [e]; exact ⟨by omega, by omega, fun _ => Or.inr (Or.inr h3), Or.inl (by omega)⟩
      · rw [List.mem_singleton.mp e]; exact ⟨by omega, Nat.le_refl _, fun _ => Or.inr (Or.inl rfl), Or.inl (by omega)⟩
    · obtain ⟨q0, q1, q2⟩ := h8 k (by omega) hb2
      have eW : (k = k0 ∨ k = P2 ∨ W k) → W k := fun w => by
        rcases w with w | w | w
        · omega
        · omega
        · exact w
      rw [pcE_n e]
      refine ⟨q0, fun hd => ?_, fun hd T hT hT2 => ?_⟩
      · obtain ⟨i, p1, p2, p3, p4⟩ := q1 hd
        refine ⟨i, p1, p2, fun j hj2 => ?_, p4.im eW (fun j t ⟨j1, j2, j3⟩ => ⟨by omega, j2, hj j1 j3⟩)⟩
        obtain ⟨j1, j2, j3, j4⟩ := p3 j hj2
        exact ⟨by omega, j2, fun w => Or.inr (Or.inr (j3 (eW w))), j4⟩
      · obtain ⟨i, p1, p2, p3, p4⟩ := q2 hd T hT hT2
        refine ⟨i, p1, p2, fun j hj2 => (p3 j hj2).imp id (fun ⟨w1, w2⟩ => ⟨w1, fun w => Or.inr (Or.inr (w2 (eW w)))⟩), p4.im eW (fun j t w => w.imp id (fun ⟨j1, j3⟩ => ⟨j1, hj (by omega) j3⟩))⟩
end LY34
end
-- m1.j.lean.txt
section
/-- branches, as they were typed -/
def IfX (R : yR) (S0 : Sg) (Λ : List Nat) (gv : Nat) (Γ : List Nat) (m mn : Nat) (f g : Nat → Option Nat) (ps bs vs : Nat → Nat) : Prop := ∀ i : Nat, i < mn → ∃ y : Nat, g i = some y ∧ ∃ p0 b0 : Nat, ((f i = none ∧ b0 = bs i) ∨ ∃ x p' q0 t : Nat, f i = some x ∧ ps i < p' ∧ q0 ≤ p0 ∧ xE R S0 Γ 408 16 x p' q0 (bs i) b0 t ∧ isTy S0 t 1 0 none) ∧ ps i ≤ p0 ∧ sN R S0 Λ gv m 1 y p0 (ps (i + 1)) b0 (bs (i + 1)) (vs i) (vs (i + 1)) Γ Γ (0, 0, 0)
/-- i branches are laid -/
def IfS (R : yR) (S0 S : Sg) (E : eV) (P : Nat) (Γ : List Nat) (L : Nat) (js : List Nat) (bw : Nat → Nat) (p b v e mn : Nat) (f g : Nat → Option Nat) (ps bs vs : Nat → Nat) (S1 : Sg) (i : Nat) : Prop := ∃ (Pi Li z n : Nat) (pe : Nat → Nat) (fe : Nat → Int32), GVo R S0 S S1 E P Pi 0 Γ L Li (mkV js) (mkV js) (fun k => ∃ j : Nat, j < i ∧ pe j = k) (mkV js) (∃ j : Nat, j < i ∧ f j = none) (∀ j : Nat, j < i → ∃ y : Nat, g j = some y ∧ eBx S0 y) z n ∧ PVc R S0 S1 P Pi e mn fe ∧ (∀ j : Nat, j < i → fe j = nI (pe j) ∧ P ≤ pe j ∧ pe j < Pi) ∧ (∀ j k : Nat, j < i → k < i → pe j = pe k → j = k) ∧ K0 S1 Pi ∧ Pi + 6 * i ≤ P + 8 * (bw (ps i) - bw p) ∧ z + 20 * i ≤ 1 + 20 * (bw (ps i) - bw p) ∧ n + 60 * i ≤ mn + 60 * (bw (ps i) - bw p) ∧ Li + b + v ≤ L + bs i + vs i
section LY35
variable {R : yR} {S0 Sb S S1 S2 S3 : Sg} {P P1 P2 P3 h h0 h1 h2 hc L L1 L2 Lb z n z2 n2 : Nat} {Γ Γ0 Γ1 Γ2 Λ : List Nat} {E : eV} {s s1 s2 yD : List tE} {gv : Nat} {js js1 ks : List Nat} {bw : Nat → Nat} {cl cD : Prop} {p q b c v w : Nat} {V : Sg → Option Nat → Option (Sg × Unit)} {D : Nat → Prop} {e mn : Nat} {f g : Nat → Option Nat} {ps bs vs pe : Nat → Nat}
/-- the jumps to the end are set -/
theorem lif108 {a ca ba : Nat} {fe : Nat → Int32} (hL : RIn R S0) (ha : a ∈ ZL R.S) (k1 : ZF S0 a = stC 3 p 0 0 0 .null .null .null .null .null (.ref ca) (.ref ba) .null mn) (hmn : mn ≤ 3001) (hP2 : P2 < 24000) (hpe : ∀ j : Nat, j < mn → fe j = nI (pe j) ∧ P ≤ pe j ∧ pe j < P2) (hij : ∀ j k : Nat, j < mn → k < mn → pe j = pe k → j = k) : ∀ (m i : Nat) (S1 : Sg), mn < i + m → i ≤ mn → GVo R S0 S S1 E P P2 0 Γ L L2 s s (fun k => ∃ j : Nat, i ≤ j ∧ j < mn ∧ pe j = k) s (cl ∧ cD) cD z n → (e ∈ ZL S1 ∧ ZF S1 e = .inl (R.K.1 0, mn, .inl fe)) → K0 S1 P2 → Rt (f_layIf_108 R.K V m S1 (some a) (some e) (nI i)) (fun S2 _ => GV R S0 S S2 E P P2 0 0 Γ Γ L L2 s s (cl ∧ cD) z n ∧ K0 S2 P2)
  | 0, i, S1, hm, hi, _, _, _ => by omega
  | m + 1, i, S1, hm, hi, G, he, k0 => by
    unfold f_layIf_108
    refine Rt.bd (G.1.1.vi (by decide) (by decide) (oI_mk (hL a ha) k1 (v := nI mn) rfl)) (Rt.it (fun w => ?_) (fun w => ?_))
    · have : mn ≤ i := (nI_leI (by omega) (by omega)).mp w
      exact Rt.rt ⟨G.cls (fun k hk => by obtain ⟨j, h1, h2, _⟩ := hk; omega), k0⟩
    · have hlt : i < mn := by
        by_cases q : i < mn
        · exact q
        · exact absurd (nI_le (a := mn) (b := i) (by omega) (by omega)) w
      obtain ⟨p1, p2, p3⟩ := hpe i hlt
      refine Rt.bd (by rw [aI_j he.1 he.2 hlt (by omega), p1]) ?_
      rw [G.1.2.1]
      refine Rt.bd (wRI_n (show pe i < rlen 30 from by show _ < 24000; omega) (by decide)) ?_
      rw [nI_1]
      refine lif108 hL ha k1 hmn hP2 hpe hij m (i + 1) _ (by omega) (by omega) ((G.pj (k := pe i) ⟨i, Nat.le_refl _, hlt, rfl⟩ wkS.rf hP2).mo (fun k => ⟨fun ⟨j, h1, h2, h3⟩ => ⟨⟨j, by omega, h2, h3⟩, fun e => ?_⟩, fun ⟨⟨j, h1, h2, h3⟩, h4⟩ => ⟨j, ?_, h2, h3⟩⟩) (fun w => ⟨w, w.2⟩) id (Nat.le_refl _) (Nat.le_refl _)) he ?_
      · have := hij j i h2 hlt (h3.trans e); omega
      · by_cases e : j = i
        · subst e; exact absurd h3.symm h4
        · omega
      · unfold K0; rw [Zr_un (by decide)]; exact k0
/-- the block of a branch and its jump -/
theorem lif61 {a ca ba cap y p0 b0 i m fe : Nat} {ff : Nat → Int32} {p1 b1 v1 w1 : Nat} {k9 : Sg → Option Nat → Option Nat → Int32 → Option (Sg × Unit)} {x4 : Int32} {Q : Sg → Unit → Prop} {q1 : Nat} (hF : FEn R S0 E Λ gv) (hB : BWt R bw) (hV : LbV R S0 E Λ gv bw V n) (hm : m ≤ n) (ha : a ∈ ZL R.S) (k1 : ZF S0 a = stC 3 p 0 0 0 .null .null .null .null .null (.ref ca) (.ref ba) .null mn) (hp : p < R.T) (hba : ba ∈ ZL R.S) (hFb : ZF S0 ba = .inl (R.K.1 10, cap, .inr (.inr (.inr (.inr g))))) (hmc : mn ≤ cap) (hmn : mn ≤ 3001) (hi : i < mn) (hy : g i = some y) (hs : sN R S0 Λ gv m 1 y p0 q1 b0 b1 v1 w1 Γ Γ (0, 0, 0)) (H : LyHb R S0 S E P Γ L js Λ gv bw p0 q1 b0 b1 v1 w1) (hP1 : 1 ≤ P)
  (k : ∀ (S4 : Sg) (Pj L4 z n : Nat), GVo R S0 S S4 E P (Pj + 1) 0 Γ L L4 (mkV js) (mkV js) (fun k => k = Pj) (mkV js) True (eBx S0 y) z n → P ≤ Pj → Pj + 8 ≤ P + 8 * (bw q1 - bw p0) → z + 20 ≤ 20 * (bw q1 - bw p0) → n + 60 ≤ 60 * (bw q1 - bw p0) → L4 + b0 + v1 ≤ L + b1 + w1 → K0 S4 (Pj + 1) → Rt ((bI R.K S4 (some e) (nI i) (nI Pj)).bind fun S22 =>
  if x4 < 0 then (f_layIf_100 R.K V k9 S22 (some a) (some e) (nI i)) else ((wRI S22 30 x4 (Zi S22 26)).bind fun S23 =>
  f_layIf_100 R.K V k9 S23 (some a) (some e) (nI i))) Q) : Rt (f_layIf_61 R.K V k9 S (some a) (some e) (nI i) x4) Q := by
  have hL := hF.1.1
  have cc := H.2.2.1
  have hPP := H.2.2.2.2.2.2.2.2.1
  obtain ⟨r1, r2⟩ := cc.1.ro (hL ba hba) hFb
  unfold f_layIf_61
  refine Rt.bd (cc.1.vr (by decide) (by decide) (oR_mk (hL a ha) k1 (v := some ba) rfl)) (Rt.bd (aQ_j r1 r2 (by omega) (by omega)) ?_)
  rw [hy]
  refine Rt.bn (hV m hm y p0 q1 b0 b1 v1 w1 Γ hs S P L js H) (fun S3 _ t3 => ?_)
  obtain ⟨P3, L3, z3, n3, g3, d1, d2, d3, d4, d5⟩ := t3
  have hP3 : P ≤ P3 := g3.2.2.2.2.2.1
  refine Rt.bd (g3.1.1.vi (by decide) (by decide) (oI_mk (hL a ha) k1 (v := nI p) rfl)) ?_
  refine pnt_ (Lb := L3) (Sb := S3) (z := 0) (n := 0) (by omega) g3.1 LZ.rf (Nat.le_refl _) (by omega) (by omega) UsK.rf (fun S4 p4 _ => ?_)
  have g4 : GVo R S0 S3 S4 E P3 (P3 + 1) 0 Γ L3 L3 (mkV js) (mkV js) (fun k => k = P3) (mkV js) True False 0 0 := by
    refine gvj (K := 16) (pp := p) (Or.inl rfl) p4 pl0_o hp (by rw [wl_mk]; omega) (fun T _ _ => ?_)
    exact tP_16 rfl ⟨⟨iD0_0, nT_mk⟩, T, rfl, Or.inl ⟨rfl, wkS.rf⟩⟩
  have G4 := (GVo.of (yD := mkV js) (cD := True) g3).tr g4
  refine k S4 P3 L3 _ _ (G4.mo (fun k => ⟨fun w => Or.inr w, fun w => w.elim (fun w => w.elim) id⟩) (fun _ => Or.inr trivial) (fun w => ⟨trivial, Or.inl w⟩) (Nat.le_refl _) (Nat.le_refl _)) hP3 d1 d2 d3 d4 ?_
  rcases d5 with w | w
  · omega
  · exact w.st p4.2.1 (Nat.le_succ _)
/-- the branches one behind the other -/
theorem lif9 {a ca ba cap m : Nat} (H : LyH R S0 S E P Γ L js Λ gv bw p q b c v w) (hV : LbV R S0 E Λ gv bw V n) (hm : m ≤ n) (ha : a ∈ ZL R.S) (k1 : ZF S0 a = stC 3 p 0 0 0 .null .null .null .null .null (.ref ca) (.ref ba) .null mn) (hca : ca ∈ ZL R.S) (hba : ba ∈ ZL R.S) (hFc : ZF S0 ca = .inl (R.K.1 9, cap, .inr (.inr (.inr (.inr f))))) (hFb : ZF S0 ba = .inl (R.K.1 10, cap, .inr (.inr (.inr (.inr g))))) (hmc : mn ≤ cap) (hm1 : 1 ≤ mn) (p0 : ps 0 = p) (pn : ps mn = q) (b0 : bs 0 = b) (bn : bs mn = c) (v0 : vs 0 = v) (vn : vs mn = w) (hX : IfX R S0 Λ gv Γ m mn f g ps bs vs) (hmo : ∀ i j : Nat, i ≤ j → j ≤ mn → ps i + (j - i) ≤ ps j ∧ bs i ≤ bs j ∧ vs i ≤ vs j) (hne : e ∉ ZL S) : ∀ (k i : Nat) (S1 : Sg), mn < i + k → i ≤ mn → IfS R S0 S E P Γ L js bw p b v e mn f g ps bs vs S1 i → Rt (f_layIf_9 R.K V k S1 (some a) (some e) (nI i)) (fun S2 _ => LyQ R S0 S E P Γ Γ L js Λ bw p q b c v w ((∃ j : Nat, j < mn ∧ f j = none) ∧ ∀ j : Nat, j < mn → ∃ y : Nat, g j = some y ∧ eBx S0 y) 1 S2)
  | 0, i, S1, hk, hi, _ => by omega
  | k + 1, i, S1, hk, hi, hS => by
    have H2 := H
    obtain ⟨hF, hB, cc, k0, hG, hv, hw, hpq, hP, hl, hr⟩ := H2
    have hL := hF.1.1
    have hY := hF.1.2.1
    have hT3 : R.T ≤ 3001 := hF.1.2.2.2.2.2.2.2.2.2.1
    have hmn := hmo 0 mn (Nat.zero_le _) (Nat.le_refl _)
    have hbq := hB.mo (p := p) (q := q) (by omega) hpq.2
    obtain ⟨Pi, Li, z, n', pe, fe, G, hv1, hpe, hij, kk, e1, e2, e3, e4⟩ := hS
    unfold f_layIf_9
    refine Rt.bd (G.1.1.vi (by decide) (by decide) (oI_mk (hL a ha) k1 (v := nI mn) rfl)) (Rt.it (fun q9 => ?_) (fun q9 => ?_))
    · have : mn ≤ i := (nI_leI (by omega) (by omega)).mp q9
      obtain rfl : i = mn := by omega
      rw [pn] at e1 e2 e3
      refine (lif108 (fe := fe) (pe := pe) (cl := ∃ j : Nat, j < i ∧ f j = none) (cD := ∀ j : Nat, j < i → ∃ y : Nat, g j = some y ∧ eBx S0 y) hL ha k1 (by omega) (by omega) hpe hij bigN 0 S1 (by unfold bigN; omega) (Nat.zero_le _) (G.mo (fun k => ⟨fun ⟨j, _, h2, h3⟩ => ⟨j, h2, h3⟩, fun ⟨j, h2, h3⟩ => ⟨j, Nat.zero_le _, h2, h3⟩⟩) (fun w => w.1) id (Nat.le_refl _) (Nat.le_refl _)) ⟨hv1.1, hv1.2.1⟩ kk).mo (fun S2 _ t => ?_)
      exact LyQ.of hG (fun j hj => by have := hv j hj; omega) t.1 (by omega) (by omega) (by omega) (by omega) t.2
    · have hlt : i < mn := by
        by_cases e : i < mn
        · exact e
        · exact absurd (nI_le (a := mn) (b := i) (by omega) (by omega)) q9
      obtain ⟨y, y1, p9, b9, y2, y3, y4⟩ := hX i hlt
      have hsl := sN_lt y4
      have hsm := sN_mo y4
      have m1 := hmo 0 i (Nat.zero_le _) hi
      have m2 := hmo (i + 1) mn hlt (Nat.le_refl _)
      have w1 := hB.mo (p := p) (q := ps i) (by omega) (by omega)
      have w2 := hB.mo (p := ps i) (q := p9) y3 (by omega)
      have w3 := hB.mo (p := p9) (q := ps (i + 1)) (by omega) (by omega)
      have w4 := hB.mo (p := ps (i + 1)) (q := q) (by omega) (by omega)
      have w5 := hB.mo (p := ps i) (q := ps (i + 1)) (by omega) (by omega)
      obtain ⟨r1, r2⟩ := G.1.1.ro (hL ca hca) hFc
      have rC : oR S1 19 (some a) 10 = some (some ca) := G.1.1.vr (by decide) (by decide) (oR_mk (hL a ha) k1 (v := some ca) rfl)
      have hbi : bs i ≤ b9 := by
        rcases y2 with ⟨_, w⟩ | ⟨_, _, _, _, _, _, _, w, _⟩
        · omega
        · exact xE_bc w
      -- the next branch
      have hnx : ∀ (S' : Sg) (P' L' z' n'' Pj : Nat) (fe' : Nat → Int32), GVo R S0 S S' E P P' 0 Γ L L' (mkV js) (mkV js) (fun k => (∃ j : Nat, j < i ∧ pe j = k) ∨ k = Pj) (mkV js) ((∃ j : Nat, j < i ∧ f j = none) ∨ f i = none) ((∀ j : Nat, j < i → ∃ y : Nat, g j = some y ∧ eBx S0 y) ∧ eBx S0 y) z' n'' → PVc R S0 S' P P' e mn fe' → fe' = upd fe i (nI Pj) → Pi ≤ Pj → Pj < P' → K0 S' P' → P' + 6 * (i + 1) ≤ P + 8 * (bw (ps (i + 1)) - bw p) → z' + 20 * (i + 1) ≤ 1 + 20 * (bw (ps (i + 1)) - bw p) → n'' + 60 * (i + 1) ≤ mn + 60 * (bw (ps (i + 1)) - bw p) → L' + b + v ≤ L + bs (i + 1) + vs (i + 1) → Rt (f_layIf_100 R.K V ((f_layIf_9 R.K V k)) S' (some a) (some e) (nI i)) (fun S2 _ => LyQ R S0 S E P Γ Γ L js Λ bw p q b c v w ((∃ j : Nat, j < mn ∧ f j = none) ∧ ∀ j : Nat, j < mn → ∃ y : Nat, g j = some y ∧ eBx S0 y) 1 S2) := fun S' P' L' z' n'' Pj fe' G' v' hfe hPj hPj2 kk' c1 c2 c3 c4 => by
        unfold f_layIf_100
        rw [nI_1]
        refine lif9 H hV hm ha k1 hca hba hFc hFb hmc hm1 p0 pn b0 bn v0 vn hX hmo hne k (i + 1) S' (by omega) (by omega) ⟨P', L', z', n'', fun j => if j = i then Pj else pe j, fe', G'.mo (fun k => ?_) (fun w => ?_) (fun w => ?_) (Nat.le_refl _) (Nat.le_refl _), v', fun j hj => ?_, fun j k hj hk e => ?_, kk', c1, c2, c3, c4⟩
        · constructor
          · rintro ⟨j, h1, h2⟩
            dsimp only at h2
            by_cases e : j = i
            · rw [if_pos e] at h2; exact Or.inr h2.symm
            · rw [if_neg e] at h2; exact Or.inl ⟨j, by omega, h2⟩
          · rintro (⟨j, h1, h2⟩ | h2)
            · exact ⟨j, by omega, by dsimp only; rw [if_neg (by omega)]; exact h2⟩
            · exact ⟨i, by omega, by dsimp only; rw [if_pos rfl]; exact h2.symm⟩
        · obtain ⟨j, h1, h2⟩ := w
          by_cases e : j = i
          · subst e; exact Or.inr h2
          · exact Or.inl ⟨j, by omega, h2⟩
        · refine ⟨fun j hj => w j (by omega), ?_⟩
          obtain ⟨y', z1, z2⟩ := w i (by omega)
          rw [y1] at z1; cases z1; exact z2
        · rw [hfe]
          dsimp only
          by_cases e : j = i
          · rw [if_pos e, e, upd_s]; exact ⟨rfl, by have := G.2.2.2.2.2.1; omega, hPj2⟩
          · rw [if_neg e, upd_n e]
            obtain ⟨h1, h2, h3⟩ := hpe j (by omega)
            exact ⟨h1, h2, by omega⟩
        · dsimp only at e
          by_cases e1 : j = i
          · by_cases e2 : k = i
            · omega
            · rw [if_pos e1, if_neg e2] at e
              have := (hpe k (by omega)).2.2; omega
          · by_cases e2 : k = i
            · rw [if_neg e1, if_pos e2] at e
              have := (hpe j (by omega)).2.2; omega
            · rw [if_neg e1, if_neg e2] at e
              exact hij j k (by omega) (by omega) e
      refine Rt.bd rC (Rt.bd (aQ_j r1 r2 (by omega) (by omega)) ?_)
      rcases y2 with ⟨y2, y5⟩ | ⟨x, p', q0, t, x1, x2, x3, x4, x5⟩
      · rw [y2]
        refine Rt.ip rfl ?_
        refine lif61 (q1 := ps (i + 1)) (p1 := ps i) (fe := 0) (ff := fe) hF hB hV hm ha k1 (by omega) hba hFb hmc (by omega) hlt y1 y4 ⟨hF, hB, G.1, Or.inr kk, hG, fun j hj => by have := hv j hj; omega, by omega, by omega, by omega, by omega, G.frm.rm hr (by omega) (by omega)⟩ kk.1 (fun S4 Pj L4 z4 n4 G4 c0 c1 c2 c3 c4 k4 => ?_)
        have v4 := hv1.gv G4
        refine Rt.bd (bI_n v4.1 v4.2.1 hlt (by omega)) (Rt.ip (by decide) ?_)
        refine hnx _ (Pj + 1) L4 (z + z4) (n' + n4) Pj _ (GVo.uF ((G.tr G4).mo (fun k => Iff.rfl) (fun w => Or.inr trivial) (fun w => ⟨w.1, Or.inr w.2⟩) (Nat.le_refl _) (Nat.le_refl _)) v4 hne) (PVc.uF v4) rfl c0 (Nat.lt_succ_self _) k4 (by omega) (by omega) (by omega) (by omega)
      · rw [x1]
        refine Rt.iq (by simp) (Rt.bd rC (Rt.bd (aQ_j r1 r2 (by omega) (by omega)) ?_))
        rw [x1]
        have xlt := xE_lt x4
        have w6 := hB.mo (p := ps i) (q := p') (by omega) (by omega)
        have w7 := hB.mo (p := p') (q := q0) (by omega) (by omega)
        have w8 := hB.mo (p := q0) (q := p9) (by omega) (by omega)
        have xbc := xE_bc x4
        refine Rt.bn (sgv (p := p') (q := ps (i + 1)) (c := b9) (v := v) (w := v) ⟨hF, hB, G.1, kk, hG, hv, by omega, by omega, by omega, by omega, G.frm.rm hr (by omega) (by omega)⟩ x4 (Nat.le_refl _) (by omega)) (fun S2 _ t2 => ?_)
        obtain ⟨P2, L2, g2, b1', b2', b3', b4', b5', kk2⟩ := t2
        rw [resE_b hY x5] at g2
        have hw1 : wl ([(0, 2, 0)] ++ mkV js) = 0 + 1 := by show wl ((0, 2, 0) :: mkV js) = _; rw [wl_0t, wl_mk]
        rw [hw1] at g2
        have e48 : Zi S2 48 - 1 = nI 0 := by rw [g2.1.2.2.1]; exact nI_pred 0
        refine g2.hs e48 (fun S3 g3 e3' => ?_)
        have kk3 : K0 S3 P2 := by unfold K0; rw [e3']; exact kk2
        refine Rt.bd (g3.1.1.vi (by decide) (by decide) (oI_mk (hL a ha) k1 (v := nI p) rfl)) ?_
        refine pnt_ (Lb := L2) (Sb := S3) (z := 0) (n := 0) (by omega) g3.1 LZ.rf (Nat.le_refl _) (by omega) (by omega) UsK.rf (fun S4 p4 _ => ?_)
        have F4 := (G.frm.tr g3.frm).tr p4.frm
        refine lif61 (q1 := ps (i + 1)) (p1 := ps i) (fe := 0) (ff := fe) hF hB hV hm ha k1 (by omega) hba hFb hmc (by omega) hlt y1 y4 ⟨hF, hB, p4.1, Or.inr (kk3.st p4.2.1 (Nat.le_succ _)), hG, fun j hj => by have := hv j hj; omega, by omega, by omega, by omega, by omega, F4.rm hr (by omega) (by omega)⟩ (by omega) (fun S5 Pj L5 z5 n5 G5 c0 c1 c2 c3 c4 k5 => ?_)
        have F5 := F4.tr G5.frm
        have v5 := hv1.fr ((g3.frm.tr p4.frm).tr G5.frm)
        refine Rt.bd (bI_n v5.1 v5.2.1 hlt (by omega)) (Rt.iq (nI_pos (by omega)) ?_)
        have e26 : Zi (UF S5 e (.inl (R.K.1 0, mn, .inl (upd fe i (nI Pj))))) 26 = nI (Pj + 1) := G5.1.2.1
        rw [e26]
        refine Rt.bd (wRI_n (show P2 < rlen 30 from by show P2 < 24000; omega) (by decide)) ?_
        have hL2 : Li ≤ L2 := g3.2.2.2.2.2.2.1
        have hL5 : L2 ≤ L5 := G5.2.2.2.2.2.2.1
        have t1 := (((G.2.2.1.st ((g3.2.1.tr p4.2.1 (by omega) (by omega)).tr (G5.2.1.le (P := P2) (L := L2) (by omega) (Nat.le_refl _)) (by omega) (by omega))).up (show Li ≤ L5 by omega)).uF (c := .inl (R.K.1 0, mn, .inl (upd fe i (nI Pj)))) v5.2.1 (fun k h1 h2 => (v5.2.2.2.2 k h1 (by omega)).1)).jp (n := P2) (w := nI (Pj + 1)) (Or.inr (by omega))
        have t2 := ((((tsgo.of (yD := mkV js) (cD := True) g3.2.2.1).st (p4.2.1.tr (G5.2.1.le (P := P2) (L := L2) (by omega) (Nat.le_refl _)) (Nat.le_refl _) (Nat.le_refl _))).up hL5).uF (c := .inl (R.K.1 0, mn, .inl (upd fe i (nI Pj)))) v5.2.1 (fun k h1 h2 => (v5.2.2.2.2 k (by have := G.2.2.2.2.2.1; omega) (by omega)).1)).jp (n := P2) (w := nI (Pj + 1)) (Or.inr (by omega))
        have t3 := (G5.2.2.1.uF (c := .inl (R.K.1 0, mn, .inl (upd fe i (nI Pj)))) v5.2.1 (fun k h1 h2 => (v5.2.2.2.2 k (by have := G.2.2.2.2.2.1; omega) h2).1)).jp (n := P2) (w := nI (Pj + 1)) (Or.inl (by omega))
        have hAT : AT (UF S5 e (.inl (R.K.1 0, mn, .inl (upd fe i (nI Pj))))) P2 (ptRc 17 (nI p)) := by
          have hk := G5.2.1.2.1 P2 (Nat.lt_succ_self _)
          have q := p4.2.2.1
          exact ⟨fun r h1 h2 h3 => (hk.1 r h1 h2).trans (q.1 r h1 h2 h3), hk.2.1.trans q.2.1, fun r h1 h2 => (hk.2.2 r h1 h2).trans (q.2.2 r h1 h2)⟩
        have t4 := t3.uns (pp := p) (by omega) (rz_j (K := 17) (T := Pj + 1) (sc := [P2 + 1, Pj + 1]) (Or.inr ⟨Or.inl rfl, rfl⟩) hAT pl0_o (by omega) (by omega)) (by rw [wl_mk]; omega)
        have t5 := (t1.app t2).app t4
        have F6 := (F5.uF (f2 := upd fe i (nI Pj)) v5 hne).ur (k := P2) (w := nI (Pj + 1)) (by have := G.2.2.2.2.2.1; omega)
        refine hnx _ (Pj + 1) L5 _ _ Pj _ ((GVo.mk F6 t5).mo (fun k => ⟨fun w => w.elim (fun w => Or.inl (Or.inl w)) (fun w => Or.inr w), fun w => w.elim (fun w => w.elim Or.inl (fun w => w.elim)) Or.inr⟩) (fun w => ?_) (fun w => ⟨⟨w.1, Or.inr trivial⟩, Or.inr w.2⟩) (Nat.le_refl _) (Nat.le_refl _)) (PVc.uF v5) rfl (by omega) (Nat.lt_succ_self _) ?_ (by omega) (by omega) (by omega) (by omega)
        · rcases w with w | w
          · exact Or.inl (Or.inl w)
          · rw [x1] at w; cases w
        · unfold K0; rw [Zr_un (by decide)]; exact k5
/-- if -/
theorem lif_ {a ca ba cap m : Nat} (H : LyH R S0 S E P Γ L js Λ gv bw p q b c v w) (hV : LbV R S0 E Λ gv bw V n) (hm : m ≤ n) (ha : a ∈ ZL R.S) (k1 : ZF S0 a = stC 3 p 0 0 0 .null .null .null .null .null (.ref ca) (.ref ba) .null mn) (hca : ca ∈ ZL R.S) (hba : ba ∈ ZL R.S) (hFc : ZF S0 ca = .inl (R.K.1 9, cap, .inr (.inr (.inr (.inr f))))) (hFb : ZF S0 ba = .inl (R.K.1 10, cap, .inr (.inr (.inr (.inr g))))) (hmc : mn ≤ cap) (hm1 : 1 ≤ mn) (hch : chJ (fun i y p1 q1 b1 c1 v1 w1 => ∃ p0 b0 : Nat, ((f i = none ∧ b0 = b1) ∨ ∃ x p' q0 t : Nat, f i = some x ∧ p1 < p' ∧ q0 ≤ p0 ∧ xE R S0 Γ 408 16 x p' q0 b1 b0 t ∧ isTy S0 t 1 0 none) ∧ p1 ≤ p0 ∧ sN R S0 Λ gv m 1 y p0 q1 b0 c1 v1 w1 Γ Γ (0, 0, 0)) g mn p q b c v w) : Rt (f_layIf R.K V S (some a)) (fun S2 _ => LyQ R S0 S E P Γ Γ L js Λ bw p q b c v w ((∃ j : Nat, j < mn ∧ f j = none) ∧ ∀ j : Nat, j < mn → ∃ y : Nat, g j = some y ∧ eBx S0 y) 1 S2) := by
  have H2 := H
  obtain ⟨hF, hB, cc, k0, hG, hv, hw, hpq, hP, hl, hr⟩ := H2
  have hL := hF.1.1
  have hT3 : R.T ≤ 3001 := hF.1.2.2.2.2.2.2.2.2.2.1
  obtain ⟨ps, bs, vs, h1, h2, h3, h4, h5, h6, h7⟩ := hch
  have hmo : ∀ i j : Nat, i ≤ j → j ≤ mn → ps i + (j - i) ≤ ps j ∧ bs i ≤ bs j ∧ vs i ≤ vs j := fun i j hi hj => chJ_mo (P := fun i y p1 q1 b1 c1 v1 w1 => ∃ p0 b0 : Nat, ((f i = none ∧ b0 = b1) ∨ ∃ x p' q0 t : Nat, f i = some x ∧ p1 < p' ∧ q0 ≤ p0 ∧ xE R S0 Γ 408 16 x p' q0 b1 b0 t ∧ isTy S0 t 1 0 none) ∧ p1 ≤ p0 ∧ sN R S0 Λ gv m 1 y p0 q1 b0 c1 v1 w1 Γ Γ (0, 0, 0)) (by
    intro i x p q b c v w _ z
    obtain ⟨p0, b0, z1, z2, z3⟩ := z
    have z4 := sN_mo z3
    have z5 := sN_lt z3
    rcases z1 with ⟨_, e⟩ | ⟨_, _, _, _, _, _, _, e, _⟩
    · exact ⟨by omega, by omega, z4.2⟩
    · have := xE_bc e; exact ⟨by omega, by omega, z4.2⟩) h7 hi hj
  have hmn := hmo 0 mn (Nat.zero_le _) (Nat.le_refl _)
  have hbq := hB.mo (p := p) (q := q) (by omega) hpq.2
  unfold f_layIf
  refine Rt.bd (cc.1.vi (by decide) (by decide) (oI_mk (hL a ha) k1 (v := nI mn) rfl)) ?_
  refine new_pv (E := E) (s := mkV js) (yD := mkV js) (cD := True) (m := mn) cc (by omega) (by have := hr.1; omega) (by have := hr.2; omega) (fun S2 c2 g2 v2 _ => ?_)
  have hno : Zz S ∉ ZL S := fun w => Nat.lt_irrefl _ (cc.hz _ w)
  refine lif9 H hV hm ha k1 hca hba hFc hFb hmc hm1 h1 h2 h3 h4 h5 h6 (fun i hi => ?_) hmo hno bigN 0 S2 (by unfold bigN; omega) (Nat.zero_le _) ⟨P, L, 1, mn, fun _ => 0, _, g2.mo (fun k => ⟨fun ⟨j, w, _⟩ => absurd w (by omega), fun w => w.elim⟩) (fun ⟨j, w, _⟩ => absurd w (by omega)) (fun _ => trivial) (Nat.le_refl _) (Nat.le_refl _), v2, fun j hj => absurd hj (by omega), fun j k hj => absurd hj (by omega), k0.gvo g2, by omega, by omega, by omega, by omega⟩
  obtain ⟨y, y1, y2⟩ := h7 i hi
  exact ⟨y, y1, y2⟩
end LY35
end
-- m1.k.lean.txt
section
/-- pieces beside each other, entered at X; all leave to bb, cE: none does -/
def tsgm (R : yR) (S0 S : Sg) (E : eV) (L a c bb : Nat) (X : Nat → List tE → Prop) (yD : List tE) (cE : Prop) : Prop := a ≤ c ∧ ∃ (st : Nat → List tE) (W : Nat → Prop), (∀ (e : Nat) (x : List tE), X e x → a ≤ e ∧ e < c ∧ wkS x (st e) ∧ W e) ∧ ∀ k : Nat, a ≤ k → k < c → ∃ i : iR, rz R S0 S k i ∧ (∀ l : Nat, i.ln = some l → l < L) ∧ (∀ j ∈ i.sc, ((a ≤ j ∧ j < c ∧ (W k → W j)) ∨ (j = bb ∧ (cE → ¬ W k))) ∧ bkO S k j) ∧ wl (st k) ≤ 177 ∧ tPt E k (W k) i (st k) (fun j s => (a ≤ j ∧ j < c ∧ wkS s (st j)) ∨ (j = bb ∧ wkS s yD))
/-- numbers of an arm's variables, the last one first -/
def ksV (v : Nat) : Nat → List Nat
  | 0 => []
  | n + 1 => (v + n) :: ksV v n
/-- i arms are laid: where their code begins, where their jumps stand -/
def ArS (R : yR) (S0 S1 : Sg) (E : eV) (L1 : Nat) (js : List Nat) (p m Pc i : Nat) (A J : Nat → Nat) (xk : Nat → List tE) (bk : Nat → Nat) : Prop := A 0 = m + 1 ∧ A i = Pc ∧ ∀ k : Nat, k < i → A k ≤ J k ∧ A (k + 1) = J k + 1 ∧ tsg R S0 S1 E L1 (A k) (J k) (xk k) (mkV js) (eBx S0 (bk k)) ∧ AT S1 (J k) (ptRc 16 (nI p))
section LY36
variable {R : yR} {S0 Sb S S1 S2 S3 : Sg} {P P1 P2 P3 h h0 h1 h2 hc L L1 L2 Lb z n z2 n2 : Nat} {Γ Γ0 Γ1 Γ2 Λ : List Nat} {E : eV} {s s1 s2 yD : List tE} {cl cl2 cE : Prop} {a c m bb i p : Nat} {f f2 : Nat → Int32} {X : Nat → List tE → Prop} {js : List Nat} {A J bk : Nat → Nat} {xk : Nat → List tE}
theorem ksV_len {v : Nat} : ∀ {n : Nat}, (ksV v n).length = n
  | 0 => rfl
  | n + 1 => by show (ksV v n).length + 1 = _; rw [ksV_len]
theorem ksV_lt {v : Nat} : ∀ {n j : Nat}, j ∈ ksV v n → v ≤ j ∧ j < v + n
  | 0, _, h => by cases h
  | n + 1, j, h => by
    rcases List.mem_cons.mp h with e | e
    · omega
    · have := ksV_lt e; omega
theorem ksV_rev {v : Nat} : ∀ {n : Nat}, ((List.range n).map (fun j => v + j)).reverse = ksV v n
  | 0 => rfl
  | n + 1 => by
    rw [List.range_succ, List.map_append, List.reverse_append]
    show (v + n) :: ((List.range n).map (fun j => v + j)).reverse = _
    rw [ksV_rev]; rfl
theorem tsgm.nil : tsgm R S0 S E L a a bb (fun _ _ => False) yD cE := ⟨Nat.le_refl _, fun _ => [], fun _ => True, fun _ _ w => w.elim, fun k h1 h2 => by omega⟩
theorem tsgm.add {j : Nat} {xs : List tE} (h : tsgm R S0 S E L a c bb X yD cE) (g : tsg R S0 S E L c j xs yD cl) (hz : rz R S0 S j ((16, 0, none, (none, none), ([], []), [bb], (0, 0, 0), []) : iR)) (hw : wl yD ≤ 177) (hbb : j < bb) (hT : nT yD) : tsgm R S0 S E L a (j + 1) bb (fun e s => X e s ∨ (e = c ∧ s = xs)) yD (cE ∧ cl) := by
  obtain ⟨h0, st, W, h1, h2⟩ := h
  obtain ⟨st2, W2, g1, g2, g3, g4, g5, g6⟩ := g
  refine ⟨by omega, pwL c st st2, pwL c W W2, fun e x hx => ?_, fun k hk hb => ?_⟩
  · rcases hx with hx | ⟨rfl, rfl⟩
    · obtain ⟨a1, a2, a3, a4⟩ := h1 e x hx
      rw [pwL_l a2, pwL_l a2]; exact ⟨a1, by omega, a3, a4⟩
    · rw [pwL_r (Nat.lt_irrefl _), pwL_r (Nat.lt_irrefl _)]; exact ⟨h0, by omega, g1, g3⟩
  · by_cases e : k < c
    · obtain ⟨i, q1, q2, q3, q4, q5⟩ := h2 k hk e
      rw [pwL_l e, pwL_l e]
      refine ⟨i, q1, q2, fun j9 hj => ?_, q4, q5.im (fun w => w) (fun j9 s w => ?_)⟩
      · refine ⟨?_, (q3 j9 hj).2⟩
        rcases (q3 j9 hj).1 with ⟨j1, j2, j3⟩ | ⟨j1, j2⟩
        · exact Or.inl ⟨j1, by omega, by rw [pwL_l j2]; exact j3⟩
        · exact Or.inr ⟨j1, fun w => j2 w.1⟩
      · rcases w with ⟨j1, j2, j3⟩ | w
        · exact Or.inl ⟨j1, by omega, by rw [pwL_l j2]; exact j3⟩
        · exact Or.inr w
    · rw [pwL_r e, pwL_r e]
      by_cases e2 : k < j
      · obtain ⟨i, q1, q2, q3, q4, q5⟩ := g6 k (by omega) e2
        refine ⟨i, q1, q2, fun j9 hj => ?_, q4, q5.im (fun w => w) (fun j9 s ⟨j1, j2, j3⟩ => Or.inl ⟨by omega, by omega, by rw [pwL_r (by omega)]; exact j3⟩)⟩
        obtain ⟨j1, j2, j3, j4⟩ := q3 j9 hj
        exact ⟨Or.inl ⟨by omega, by omega, by rw [pwL_r (by omega)]; exact j3⟩, j4⟩
      · obtain rfl : k = j := by omega
        refine ⟨_, hz, (fun l e => by cases e), fun j9 hj => ?_, by rw [g2]; exact hw, tP_16 rfl ⟨⟨iD0_0, by rw [g2]; exact hT⟩, bb, rfl, Or.inr ⟨rfl, by rw [g2]; exact wkS.rf⟩⟩⟩
        rw [List.mem_singleton.mp hj]
        exact ⟨Or.inr ⟨rfl, fun w => g4 w.2⟩, Or.inl hbb⟩
/-- the point of a match ahead of its arms -/
theorem tsgm.fin {i : iR} {x0 : List tE} (h : tsgm R S0 S E L (m + 1) c c X yD cE) (hz : rz R S0 S m i) (hln : i.ln = none) (hsc : ∀ j ∈ i.sc, ∃ t : List tE, X j t) (hw : wl x0 ≤ 177) (ht : tPt E m True i x0 X) : tsg R S0 S E L m c x0 yD cE := by
  obtain ⟨h0, st, W, h1, h2⟩ := h
  have hst : ∀ k : Nat, m < k → k < c → (if k = m then x0 else if k = c then yD else st k) = st k := fun k a b => by rw [if_neg (by omega), if_neg (by omega)]
  refine ⟨fun k => if k = m then x0 else if k = c then yD else st k, fun k => k = m ∨ (k = c ∧ ¬ cE) ∨ (m < k ∧ k < c ∧ W k), ?_, ?_, Or.inl rfl, fun w q => ?_, by omega, fun k hk hb => ?_⟩
  · dsimp only; rw [if_pos rfl]; exact wkS.rf
  · dsimp only; rw [if_neg (by omega), if_pos rfl]
  · rcases q with q | q | q
    · omega
    · exact q.2 w
    · omega
  · by_cases e : k = m
    · subst e
      refine ⟨i, hz, (fun l e => by rw [hln] at e; cases e), fun j hj => ?_, by dsimp only; rw [if_pos rfl]; exact hw, ?_⟩
      · obtain ⟨t, ht⟩ := hsc j hj
        obtain ⟨a1, a2, a3, a4⟩ := h1 j t ht
        exact ⟨by omega, by omega, fun _ => Or.inr (Or.inr ⟨by omega, a2, a4⟩), Or.inl (by omega)⟩
      · dsimp only
        rw [if_pos rfl]
        refine ht.im (fun _ => trivial) (fun j t hx => ?_)
        obtain ⟨a1, a2, a3, a4⟩ := h1 j t hx
        exact ⟨by omega, by omega, by rw [hst j (by omega) a2]; exact a3⟩
    · obtain ⟨i, q1, q2, q3, q4, q5⟩ := h2 k (by omega) hb
      have eW : (k = m ∨ (k = c ∧ ¬ cE) ∨ (m < k ∧ k < c ∧ W k)) → W k := fun w => by
        rcases w with w | w | w
        · omega
        · omega
        · exact w.2.2
      dsimp only
      rw [hst k (by omega) hb]
      refine ⟨i, q1, q2, fun j hj => ?_, q4, q5.im eW (fun j t w => ?_)⟩
      · have j4 := (q3 j hj).2
        rcases (q3 j hj).1 with ⟨j1, j2, j3⟩ | ⟨j1, j2⟩
        · exact ⟨by omega, by omega, fun w => Or.inr (Or.inr ⟨by omega, j2, j3 (eW w)⟩), j4⟩
        · exact ⟨by omega, by omega, fun w => Or.inr (Or.inl ⟨j1, fun z => j2 z (eW w)⟩), j4⟩
      · rcases w with ⟨j1, j2, j3⟩ | ⟨j1, j2⟩
        · exact ⟨by omega, by omega, by rw [hst j (by omega) j2]; exact j3⟩
        · exact ⟨by omega, by omega, by rw [if_neg (by omega), if_pos j1]; exact j2⟩
theorem tsg.uF {cc : va_E} {x y : List tE} (q : tsg R S0 S E L P P2 x y cl) (hF : ZF S a = .inl (R.K.1 0, m, .inl f)) (hu : ∀ k : Nat, P ≤ k → k < P2 → ¬ Up S k a) : tsg R S0 (UF S a cc) E L P P2 x y cl := ((tsgo.of (yD := []) (cD := True) q).uF hF hu).cls (fun _ w => w)
theorem ArS.mo (q : ArS R S0 S1 E L1 js p m P i A J xk bk) {k : Nat} : ∀ {j : Nat}, k ≤ j → j ≤ i → A k ≤ A j
  | 0, h1, _ => by rw [Nat.le_zero.mp h1]; exact Nat.le_refl _
  | j + 1, h1, h2 => by
    by_cases e : k = j + 1
    · rw [e]; exact Nat.le_refl _
    · have := ArS.mo q (k := k) (j := j) (by omega) (by omega)
      have := q.2.2 j (by omega)
      omega
theorem ArS.st {L2 : Nat} (q : ArS R S0 S1 E L1 js p m P i A J xk bk) (hz : LZ P L1 S1 S2) (hl : L1 ≤ L2) : ArS R S0 S2 E L2 js p m P i A J xk bk := by
  refine ⟨q.1, q.2.1, fun k hk => ?_⟩
  obtain ⟨a1, a2, a3, a4⟩ := q.2.2 k hk
  have hm := q.mo (k := k + 1) (j := i) (by omega) (Nat.le_refl _)
  have hJ : J k < P := by have := q.2.1; omega
  have hk2 := hz.2.1 (J k) hJ
  exact ⟨a1, a2, (a3.st (hz.le (by omega) (Nat.le_refl _))).up hl, fun r h1 h2 h3 => (hk2.1 r h1 h2).trans (a4.1 r h1 h2 h3), hk2.2.1.trans a4.2.1, fun r h1 h2 => (hk2.2.2 r h1 h2).trans (a4.2.2 r h1 h2)⟩
theorem ArS.uF {e n9 : Nat} {cc : va_E} (q : ArS R S0 S1 E L1 js p m P i A J xk bk) (v : PVc R S0 S1 (m + 1) P e n9 f) : ArS R S0 (UF S1 e cc) E L1 js p m P i A J xk bk := by
  refine ⟨q.1, q.2.1, fun k hk => ?_⟩
  obtain ⟨a1, a2, a3, a4⟩ := q.2.2 k hk
  have hm := q.mo (k := k + 1) (j := i) (by omega) (Nat.le_refl _)
  have hm0 := q.mo (k := 0) (j := k) (Nat.zero_le _) (by omega)
  exact ⟨a1, a2, a3.uF v.2.1 (fun k2 h1 h2 => (v.2.2.2.2 k2 (by have := q.1; omega) (by have := q.2.1; omega)).1), a4⟩
theorem ArS.add {Jn : Nat} {xn : List tE} {bn : Nat} (q : ArS R S0 S1 E L1 js p m P i A J xk bk) (g : tsg R S0 S1 E L1 P Jn xn (mkV js) (eBx S0 bn)) (hP : P ≤ Jn) (ha : AT S1 Jn (ptRc 16 (nI p))) : ArS R S0 S1 E L1 js p m (Jn + 1) (i + 1) (fun k => if k = i + 1 then Jn + 1 else A k) (fun k => if k = i then Jn else J k) (fun k => if k = i then xn else xk k) (fun k => if k = i then bn else bk k) := by
  refine ⟨by dsimp only; rw [if_neg (by omega)]; exact q.1, by dsimp only; rw [if_pos rfl], fun k hk => ?_⟩
  by_cases e : k = i
  · subst e
    dsimp only
    rw [if_neg (by omega), if_pos rfl, if_pos rfl, if_pos rfl, if_pos rfl]
    rw [q.2.1]
    exact ⟨hP, rfl, g, ha⟩
  · obtain ⟨a1, a2, a3, a4⟩ := q.2.2 k (by omega)
    dsimp only
    simp only [if_neg e, if_neg (show ¬ k = i + 1 by omega), if_neg (show ¬ k + 1 = i + 1 by omega)]
    exact ⟨a1, a2, a3, a4⟩
theorem FRM.uF2 {e n9 Pa Pb : Nat} {P2 h2 : Nat} (F : FRM R S0 S S2 P P2 h2 Γ2 L L2 z n) (v : PVc R S0 S2 Pa Pb e n9 f) (hn : e ∉ ZL S) : FRM R S0 S (UF S2 e (.inl (R.K.1 0, n9, .inl f2))) P P2 h2 Γ2 L L2 z n := ⟨F.1.uF v.2.1 v.2.2.1 v.2.2.2.1, LZ.uF F.2.1 hn, F.2.2.1, F.2.2.2.1, F.2.2.2.2.1, F.2.2.2.2.2.1, F.2.2.2.2.2.2.uF⟩
/-- another row is written -/
theorem PVc.uO {e e2 n9 n8 Pa Pb : Nat} {f3 : Nat → Int32} (v : PVc R S0 S Pa Pb e n9 f) (hne : e2 ≠ e) : PVc R S0 (UF S e2 (.inl (R.K.1 0, n8, .inl f3))) Pa Pb e n9 f := ⟨v.1, (ZF_n (fun w => hne w.symm)).trans v.2.1, v.2.2.1, fun w => v.2.2.2.1 w.uF, fun k h1 h2 => ⟨fun w => (v.2.2.2.2 k h1 h2).1 w.uF, (v.2.2.2.2 k h1 h2).2⟩⟩
end LY36
end
-- m1.l.lean.txt
section
section LY37
variable {R : yR} {S0 Sb S S1 S2 S3 : Sg} {P P1 P2 P3 h h0 h1 h2 hc L L1 L2 Lb z n z2 n2 : Nat} {Γ Γ0 Γ1 Γ2 Λ : List Nat} {E : eV} {s s1 s2 : List tE} {gv : Nat} {js ks : List Nat} {f f2 : Nat → Int32} {g g2 : Nat → Option Nat}
theorem wyT.cg {π : List (Nat × Nat)} {x : Nat} (h : wyT R S0 f g π x) (hf : ∀ j : Nat, j < π.length → f2 j = f j) (hg : ∀ j : Nat, j ≤ π.length → g2 j = g j) : wyT R S0 f2 g2 π x := by
  obtain ⟨h1, h2, h3⟩ := h
  refine ⟨fun j s e => ?_, fun j u hj e => ?_, (hg _ (Nat.le_refl _)).trans h3⟩
  · have hj := (List.getElem?_eq_some_iff.mp e).1
    rw [hf j hj, hg j (by omega), hg (j + 1) (by omega)]
    exact h1 j s e
  · rw [hg j hj] at e; exact h2 j u hj e
/-- a path that goes one step further is made -/
theorem npp_ {w va ix tv xt k9 : Nat} {ρ : List (Nat × Nat)} {g : Sg → Nat → Option (Sg × Unit)} {Q : Sg → Unit → Prop} (c : LC R S0 S P h Γ L) (pw : isPw R S0 S w va ix tv ρ xt) (hl : ρ.length ≤ 4) (h1 : Zz S + 3 ≤ R.K.2.1) (h2 : Zn S + 15 ≤ R.K.2.2) (k : ∀ (A : Sg), PBd R.K S A (Zz S) (ρ.length + 1) (.ref va) (fun _ => 0) (fun _ => none) (Zz S + 3) (Zn S + 4 + (ρ.length + 1) + (ρ.length + 1 + 1)) → Rt (g A (Zz S)) Q) : Rt (bnd (nO R.K S 18 4 [.null, .int 0, .null, .null]) fun S1 a2 =>
  (oI S1 18 (some w) 1).bind fun v3 =>
  bnd (f_X18_init R.K S1 a2 (v3 + 1)) fun S4 _ =>
  (oR S4 18 (some w) 0).bind fun v6 =>
  (pV S4 18 (some a2) 0 (va_rf v6)).bind fun S7 =>
  g S7 a2) Q := by
  have hz := c.hz
  obtain ⟨sa, ta, f, gg, q1, q2, _⟩ := pw
  refine FRC.rO hz (by omega) (by omega) (fun A fA => ?_)
  obtain ⟨a1, a2⟩ := fA.1.lx.ob q1 q2 (by decide) (by decide)
  refine Rt.bd (oI_mk a1 a2 (v := nI ρ.length) rfl) ?_
  rw [nI_1]
  refine Rt.bn (Q := fun S1 _ => NPA R.K S S1 (ρ.length + 1)) ?_ (fun B _ qB => ?_)
  · unfold f_X18_init
    refine fA.rP hz rfl rfl (fun B fB => ?_)
    refine fB.rA (by omega) (by omega) (by omega) (fun C fC => ?_)
    refine fC.rP hz rfl rfl (fun D fD => ?_)
    rw [nI_1]
    refine fD.rQ (by omega) (by omega) (by omega) (fun G fG => ?_)
    exact fG.rP hz rfl rfl (fun H fH => Rt.rt fH)
  · have b := PBd.o1 qB hz
    obtain ⟨b1, b2⟩ := b.1.lx.ob q1 q2 (by decide) (by decide)
    refine Rt.bd (oR_mk b1 b2 (v := some va) rfl) ?_
    exact Rt.bd (pV_e (f2 := [.ref va, .int (nI (ρ.length + 1)), .ref (Zz S + 1), .ref (Zz S + 2)]) b.2.2.1.1 b.2.2.1.2 rfl rfl) (k _ b.wo)
/-- the steps are copied -/
theorem lp29 {w va ix tv xt N z m : Nat} {ρ : List (Nat × Nat)} {x1 x2 : Option Nat} {x3 : Int32} {Q : Sg → Unit → Prop} (pw : isPw R S0 S w va ix tv ρ xt) (hl : ρ.length ≤ 4) (hN : N = ρ.length + 1) (hW : Zz S ∉ ZL S) (k : ∀ (A : Sg) (f : Nat → Int32) (sa ta : Nat) (fp : Nat → Int32) (gp : Nat → Option Nat), PBd R.K S A (Zz S) N (.ref va) f (fun _ => none) z m → ZF S w = .inr (18, [.ref va, .int (nI ρ.length), .ref sa, .ref ta]) → ZF S sa = .inl (R.K.1 0, ρ.length, .inl fp) → (∀ j : Nat, j < ρ.length → f j = fp j) → Rt (f_layPart_64 R.K bigN A x1 x2 x3 (some w) (some (Zz S)) 0) Q) : ∀ (d j : Nat) (A : Sg) (f : Nat → Int32), ρ.length < j + d → j ≤ ρ.length → PBd R.K S A (Zz S) N (.ref va) f (fun _ => none) z m → (∀ (sa ta : Nat) (fp : Nat → Int32), ZF S w = .inr (18, [.ref va, .int (nI ρ.length), .ref sa, .ref ta]) → ZF S sa = .inl (R.K.1 0, ρ.length, .inl fp) → ∀ i : Nat, i < j → f i = fp i) → Rt (f_layPart_29 R.K d A x1 x2 x3 (some w) (some (Zz S)) (nI j)) Q
  | 0, j, A, f, h1, h2, _, _ => by omega
  | d + 1, j, A, f, h1, h2, b, hf => by
    have pw2 := pw
    obtain ⟨sa, ta, fp, gp, q1, q2, q3, q4, q5, q6, nm, mt, q7⟩ := pw2
    obtain ⟨w1, w2⟩ := b.1.lx.ob q1 q2 (by decide) (by decide)
    obtain ⟨s1, s2⟩ := b.1.lx.ro q3.1 q3.2
    unfold f_layPart_29
    refine Rt.bd (oI_mk w1 w2 (v := nI ρ.length) rfl) (Rt.it (fun q => ?_) (fun q => ?_))
    · have : ρ.length ≤ j := (nI_leI (by omega) (by omega)).mp q
      exact k A f sa ta fp gp b q2 q3.2 (fun i hi => hf sa ta fp q2 q3.2 i (by omega))
    · have hlt : j < ρ.length := by
        by_cases e : j < ρ.length
        · exact e
        · exact absurd (nI_le (a := ρ.length) (b := j) (by omega) (by omega)) q
      refine Rt.bd (oR_mk b.2.2.1.1 b.2.2.1.2 (v := some (Zz S + 1)) rfl) (Rt.bd (oR_mk w1 w2 (v := some sa) rfl) (Rt.bd (aI_n s1 s2 hlt (by omega)) ?_))
      refine Rt.bd (bI_n (j := j) b.2.2.2.1.1 b.2.2.2.1.2 (by omega) (by omega)) ?_
      rw [nI_1]
      refine lp29 pw hl hN hW k d (j + 1) _ _ (by omega) (by omega) (b.wf (f2 := upd f j (fp j))) (fun sa' ta' fp' e1 e2 i hi => ?_)
      obtain ⟨rfl, rfl⟩ : sa' = sa ∧ ta' = ta := by rw [q2] at e1; cases e1; exact ⟨rfl, rfl⟩
      obtain rfl : fp' = fp := by rw [q3.2] at e2; cases e2; rfl
      by_cases e : i = j
      · subst e; rw [upd_s]
      · rw [upd_n e]; exact hf sa' ta' fp' q2 q3.2 i (by omega)
end LY37
end
-- m1.m.lean.txt
section
theorem nI_16 (n : Nat) : 16 * nI n = nI (16 * n) := (Int32.ofNat_mul 16 n).symm
/-- an arm whose parts are looked at: the statement, the arm, its variable u number j -/
def PaA (R : yR) (S0 : Sg) (Λ : List Nat) (a y xe p1 px i g mk j u ty v : Nat) (mu : Int32) (tx : Nat → Nat) : Prop := (a ∈ ZL R.S ∧ ∃ fs : List Value, ZF S0 a = .inr (19, fs) ∧ fs[3]? = some (.int mu) ∧ fs[6]? = some (.ref xe)) ∧ (xe ∈ ZL R.S ∧ ∃ gs : List Value, ZF S0 xe = .inr (15, gs) ∧ gs[1]? = some (.int (nI px)) ∧ px < R.T) ∧ (y ∈ ZL R.S ∧ ∃ ys : List Value, ZF S0 y = .inr (13, ys) ∧ ys[1]? = some (.int (nI g)) ∧ ys[4]? = some (.ref (y + 2))) ∧ (y + 2 ∈ ZL R.S ∧ ∃ fv : Nat → Option Nat, ZF S0 (y + 2) = .inl (R.K.1 5, 12, .inr (.inr (.inr (.inr fv)))) ∧ fv j = some u) ∧ enY R S0 i g mk tx ∧ j < mk ∧ Λ[v + j]? = some u ∧ (∃ nm : Int32, isV S0 u (v + j) nm (some ty) 0) ∧ ((mu = 0 ∧ isTy S0 ty 6 0 (some (tx j))) ∨ (mu = 1 ∧ isTy S0 ty 7 0 (some (tx j))))
section LY38
variable {R : yR} {S0 Sb S S1 S2 S3 : Sg} {P P1 P2 P3 h h0 h1 h2 hc L L1 L2 Lb z n z2 n2 : Nat} {Γ Γ0 Γ1 Γ2 Λ : List Nat} {E : eV} {s s1 s2 : List tE} {gv : Nat} {js ks : List Nat}
/-- the types are copied; then the path is whole -/
theorem lp64 {w va ix tv xt a y xe p1 px i g mk j u ty v : Nat} {mu : Int32} {tx : Nat → Nat} {ρ : List (Nat × Nat)} {Q : Sg → Unit → Prop} {zz nn : Nat} (c : LC R S0 S P h Γ L) (hL : RIn R S0) (pw : isPw R S0 S w va ix tv ρ xt) (hl : ρ.length ≤ 4) (hx4 : isTy S0 xt 4 (nI i) none) (hA : PaA R S0 Λ a y xe p1 px i g mk j u ty v mu tx) (hmk : mk ≤ 12) (hg12 : g < 12) (hvt : vTy S0 (tx j))
  (k : ∀ (A : Sg), NW S A → isPw R S0 A (Zz S) va ix tv (ρ ++ [(g + 2, j)]) (tx j) → (Zz S ∉ ZL S ∧ ZF A (Zz S) = .inr (18, [.ref va, .int (nI (ρ.length + 1)), .ref (Zz S + 1), .ref (Zz S + 2)]) ∧ Zz S + 1 ∉ ZL S) → Zz A = zz → Zn A = nn → Rt ((oR A 19 (some a) 6).bind fun v25 =>
    (oI A 15 v25 1).bind fun v26 =>
    bnd (f_point R.K A 23 v26) fun S27 v28 =>
    bnd (f_through R.K S27 v28 (some (Zz S))) fun S29 v30 =>
    (oR S29 13 (some y) 4).bind fun v31 =>
    (aQ R.K 5 S29 v31 (nI j)).bind fun v32 =>
    (wQ S29 21 40 v28 v32).bind fun S33 =>
    (oI S33 19 (some a) 3).bind fun v34 =>
    if v34 = 0 then (f_layPart_202 R.K S33 (some y) (nI j) v28 1 (some (Zz S)) v28) else (f_layPart_202 R.K S33 (some y) (nI j) v28 0 (some (Zz S)) v28)) Q) : ∀ (d t : Nat) (A : Sg) (f : Nat → Int32) (gq : Nat → Option Nat), ρ.length + 1 < t + d → t ≤ ρ.length + 1 → PBd R.K S A (Zz S) (ρ.length + 1) (.ref va) f gq zz nn → (∀ (sa ta : Nat) (fp : Nat → Int32) (gp : Nat → Option Nat), ZF S w = .inr (18, [.ref va, .int (nI ρ.length), .ref sa, .ref ta]) → ZF S sa = .inl (R.K.1 0, ρ.length, .inl fp) → ZF S ta = .inl (R.K.1 4, ρ.length + 1, .inr (.inr (.inr (.inr gp)))) → (∀ l : Nat, l < ρ.length → f l = fp l) ∧ ∀ l : Nat, l < t → gq l = gp l) → Rt (f_layPart_64 R.K d A (some a) (some y) (nI j) (some w) (some (Zz S)) (nI t)) Q
  | 0, t, A, f, gq, h1, h2, _, _ => by omega
  | d + 1, t, A, f, gq, h1, h2, b, hf => by
    have pw2 := pw
    obtain ⟨sa, ta, fp, gp, q1, q2, q3, q4, q5, q6, nm, mt, q7⟩ := pw2
    obtain ⟨w1, w2⟩ := b.1.lx.ob q1 q2 (by decide) (by decide)
    obtain ⟨t1, t2⟩ := b.1.lx.ro q4.1 q4.2
    obtain ⟨hf1, hf2⟩ := hf sa ta fp gp q2 q3.2 q4.2
    have hxA : LX S0 A := c.1.tr b.1.lx
    unfold f_layPart_64
    refine Rt.bd (oI_mk w1 w2 (v := nI ρ.length) rfl) (Rt.it (fun q => ?_) (fun q => ?_))
    · have ht : t = ρ.length + 1 := by
        by_cases e : t = ρ.length + 1
        · exact e
        · exfalso
          have hle : nI t ≤ nI ρ.length := nI_le (a := t) (b := ρ.length) (by omega) (by omega)
          exact absurd q (Int32.not_lt.mpr hle)
      subst ht
      obtain ⟨⟨ha, fs, a1, a2, a3⟩, ⟨he, gs, e1, e2, e3⟩, ⟨hy, ys, y1, y2, y3⟩, ⟨hy2, fv, v1, v2⟩, hen, hj, hΛ, ⟨nmu, hV⟩, hty⟩ := hA
      refine Rt.bd (oR_mk b.2.2.1.1 b.2.2.1.2 (v := some (Zz S + 1)) rfl) (Rt.bd (oI_mk w1 w2 (v := nI ρ.length) rfl) (Rt.bd (hxA.vi (by decide) (by decide) (oI_mk (hL y hy) y1 y2)) ?_))
      have e16 : (1000 + 16 * nI g) + nI j = sCo (g + 2, j) := by
        unfold sCo
        rw [if_neg (by show g + 2 ≠ 0; omega), if_neg (by show g + 2 ≠ 1; omega), nI_16]
        show nI 1000 + nI (16 * g) + nI j = nI (1000 + 16 * (g + 2 - 2) + j)
        rw [nI_add, nI_add, show g + 2 - 2 = g by omega]
      rw [e16]
      refine Rt.bd (bI_n (j := ρ.length) b.2.2.2.1.1 b.2.2.2.1.2 (by omega) (by omega)) ?_
      have b1 := b.wf (f2 := upd f ρ.length (sCo (g + 2, j)))
      generalize UF A (Zz S + 1) (.inl (R.K.1 0, ρ.length + 1, .inl (upd f ρ.length (sCo (g + 2, j))))) = B at b1
      have hxB : LX S0 B := c.1.tr b1.1.lx
      obtain ⟨w1', w2'⟩ := b1.1.lx.ob q1 q2 (by decide) (by decide)
      obtain ⟨r1, r2⟩ := hxB.ro (hL _ hy2) v1
      obtain ⟨wh, u1, u2, _⟩ := (c.nw b1.1).2.2.2.2.2.2.1 u (v + j) nmu (some ty) 0 hV
      have hty3 : oR B 20 (some ty) 3 = some (some (tx j)) := by
        rcases hty with ⟨_, w⟩ | ⟨_, w⟩
        · obtain ⟨ti, _, _, z3, z4⟩ := hxB.ty w; exact oR_mk z3 z4 (v := some (tx j)) rfl
        · obtain ⟨ti, _, _, z3, z4⟩ := hxB.ty w; exact oR_mk z3 z4 (v := some (tx j)) rfl
      have hok : okO B 20 (some (tx j)) = true := hxB.okT (by obtain ⟨kd, ix, o, q, _⟩ := hvt.ty; exact ⟨kd, ix, o, q⟩)
      refine Rt.bd (oR_mk b1.2.2.1.1 b1.2.2.1.2 (v := some (Zz S + 2)) rfl) (Rt.bd (oI_mk w1' w2' (v := nI ρ.length) rfl) (Rt.bd (hxB.vr (by decide) (by decide) (oR_mk (hL y hy) y1 (v := some (y + 2)) y3)) (Rt.bd (by rw [aQ_n r1 r2 (show j < 12 by omega) (by decide), v2]) (Rt.bd (oR_mk u1 u2 (v := some ty) rfl) (Rt.bd hty3 ?_)))))
      rw [nI_1]
      refine Rt.bd (bQ_n (j := ρ.length + 1) b1.2.2.2.2.1.1 b1.2.2.2.2.1.2 (by omega) (by omega) hok) ?_
      have b2 := b1.wg (g2 := va_up gq (ρ.length + 1) (some (tx j)))
      generalize UF B (Zz S + 2) (.inl (R.K.1 4, ρ.length + 1 + 1, .inr (.inr (.inr (.inr (va_up gq (ρ.length + 1) (some (tx j)))))))) = C at b2
      refine k C b2.1 ?_ ⟨b2.2.1.1, b2.2.2.1.2, b2.2.1.2.1⟩ b2.2.2.2.2.2.1 b2.2.2.2.2.2.2
      have hwy : wyT R S0 (upd f ρ.length (sCo (g + 2, j))) (va_up gq (ρ.length + 1) (some (tx j))) ρ xt := q5.cg (fun l hl => by rw [upd_n (by omega)]; exact hf1 l hl) (fun l hl => by rw [va_up_ne _ _ (by omega)]; exact hf2 l (by omega))
      refine b2.pw (by rw [List.length_append]; rfl) (hwy.ap upd_s (va_up_self _ _ _) (Or.inr (Or.inr ⟨i, g, j, mk, tx, rfl, hx4, hen, hj, rfl⟩)) (Or.inl hvt)) q7 ?_
      rw [va_up_ne _ _ (by omega), hf2 0 (by omega)]; exact q6
    · have hlt : t ≤ ρ.length := by
        by_cases e : t ≤ ρ.length
        · exact e
        · have : nI ρ.length < nI t := by
            rw [show t = ρ.length + 1 by omega]
            exact nI_lt (by omega) (by omega)
          exact absurd this q
      have hgp : ∃ x : Nat, gp t = some x ∧ rTy S0 x := by
        by_cases e : t < ρ.length
        · obtain ⟨s9, hs9⟩ : ∃ s9, ρ[t]? = some s9 := ⟨_, List.getElem?_eq_getElem e⟩
          obtain ⟨_, x9, y9, z1, _⟩ := q5.1 t s9 hs9
          exact ⟨x9, z1, q5.2.1 t x9 (by omega) z1⟩
        · have : t = ρ.length := by omega
          subst this
          exact ⟨xt, q5.2.2, q5.2.1 _ xt (Nat.le_refl _) q5.2.2⟩
      obtain ⟨x9, z1, z2⟩ := hgp
      have hok : okO A 20 (some x9) = true := hxA.okT (by obtain ⟨kd, ix, o, q, _⟩ := z2.ty; exact ⟨kd, ix, o, q⟩)
      refine Rt.bd (oR_mk b.2.2.1.1 b.2.2.1.2 (v := some (Zz S + 2)) rfl) (Rt.bd (oR_mk w1 w2 (v := some ta) rfl) (Rt.bd (by rw [aQ_n t1 t2 (show t < ρ.length + 1 by omega) (by omega), z1]) (Rt.bd (bQ_n (j := t) b.2.2.2.2.1.1 b.2.2.2.2.1.2 (by omega) (by omega) hok) ?_)))
      rw [nI_1]
      refine lp64 c hL pw hl hx4 hA hmk hg12 hvt k d (t + 1) _ f _ (by omega) (by omega) (b.wg (g2 := va_up gq t (some x9))) (fun sa' ta' fp' gp' e1 e2 e3 => ?_)
      obtain ⟨rfl, rfl⟩ : sa' = sa ∧ ta' = ta := by rw [q2] at e1; cases e1; exact ⟨rfl, rfl⟩
      obtain rfl : fp' = fp := by rw [q3.2] at e2; cases e2; rfl
      obtain rfl : gp' = gp := by rw [q4.2] at e3; cases e3; rfl
      refine ⟨hf1, fun l hl => ?_⟩
      by_cases e : l = t
      · subst e; rw [va_up_self, z1]
      · rw [va_up_ne _ _ e]; exact hf2 l (by omega)
end LY38
end
-- m1.n.lean.txt
section
/-- the place that a match looks at: an enum -/
def PlF (bd : Nat) (R : yR) (S0 S : Sg) (E : eV) (js : List Nat) (w va ix tv xt i : Nat) (ρ : List (Nat × Nat)) : Prop := isPw R S0 S w va ix tv ρ xt ∧ isTy S0 xt 4 (nI i) none ∧ (ix < 40 ∧ E.ad ix = va) ∧ E.vt ix = abT S0 tv ∧ (8, ix, 0) ∈ mkV js ∧ qMs ρ ∧ ρ.length ≤ 4 ∧ i < R.im ∧ (bd ≠ 1 → isRf (E.vt ix) → E.vt ix % 2 = 1)
/-- the stack ahead of part j of an arm -/
def pSk (cd bd i g mk v j : Nat) (js : List Nat) : List tE := if j = mk then mkV (ksV v j ++ js) else (if bd = 1 then 5 else 6, i * 12 + g, 64 * cd + j) :: mkV (ksV v j ++ js)
section LY39
variable {R : yR} {S0 Sb S S1 S2 S3 : Sg} {P P1 P2 P3 h h0 h1 h2 hc L L1 L2 Lb z n z2 n2 : Nat} {Γ Γ0 Γ1 Γ2 Λ : List Nat} {E : eV} {s s1 s2 : List tE} {gv : Nat} {js ks : List Nat}
theorem mkV_ap {a b : List Nat} : mkV (a ++ b) = mkV a ++ mkV b := List.map_append
theorem PlF.st {bd w va ix tv xt i : Nat} {ρ : List (Nat × Nat)} (hx : LX S S1) (q : PlF bd R S0 S E js w va ix tv xt i ρ) : PlF bd R S0 S1 E js w va ix tv xt i ρ := ⟨q.1.st hx, q.2⟩
theorem ksj {v j : Nat} (hv : ∀ i ∈ js, i < v) : ∀ i ∈ ksV v j ++ js, i < v + j := fun i hi => by
  rcases List.mem_append.mp hi with e | e
  · exact (ksV_lt e).2
  · have := hv i e; omega
theorem wl_56 {k : Nat} {a b : Nat} (h : k = 5 ∨ k = 6) : wl ((k, a, b) :: s) = wl s := wl_00 (by rcases h with e | e; exact Or.inr (Or.inr (Or.inl e)); exact Or.inr (Or.inr (Or.inr e)))
/-- a part of an arm -/
theorem lpt_ {w va ix tv xt a y xe p1 px i g mk j u ty v bd : Nat} {mu : Int32} {tx : Nat → Nat} {ρ : List (Nat × Nat)} (hF : FEn R S0 E Λ gv) (c : LC R S0 S P 0 Γ L) (hp : PlF bd R S0 S E js w va ix tv xt i ρ) (hA : PaA R S0 Λ a y xe p1 px i g mk j u ty v mu tx) (hbd : (mu = 0 ∧ bd = 1) ∨ (mu = 1 ∧ bd = 2)) (hv : ∀ i ∈ js, i < v) (hv40 : v + j < 40) (hP : P < 24000) (hl : L < 160) (hr : RMl R S 5 17) : Rt (f_layPart R.K S (some a) (some y) (nI j) (some w)) (fun S2 _ => GV R S0 S S2 E P (P + 1) 0 0 Γ Γ L (L + 1) (pSk (cdP ix ρ) bd i g mk v j js) (pSk (cdP ix ρ) bd i g mk v (j + 1) js) False 5 17) := by
  obtain ⟨r1, r2⟩ := hr
  have hL := hF.1.1
  have hY := hF.1.2.1
  have hEy := hF.1.2.2.2.2.1
  obtain ⟨pw, hx4, ⟨ix40, iad⟩, evt, hin, hqm, hρ, him, hmut⟩ := hp
  have hA2 := hA
  obtain ⟨⟨ha, fs, a1, a2, a3⟩, ⟨he, gs, e1, e2, e3⟩, ⟨hy, ys, y1, y2, y3⟩, ⟨hy2, fv, v1, v2⟩, hen, hj, hΛ, ⟨nmu, hV⟩, hty⟩ := hA2
  obtain ⟨f1, f2, f3, f4, f5, f6⟩ := hen.y hY
  obtain ⟨f7, hvt⟩ := f6 j hj
  have hg12 : g < 12 := by omega
  have hi70 : i < 70 := by have := hY.2.1; omega
  obtain ⟨_, nm2, mu2, ty2, hV2, hvt2, hty2⟩ := hF.2.1 (v + j) u hΛ
  have ety : ty2 = some ty := by obtain ⟨_, _, w, _⟩ := isV_u hV2 hV (by omega) (by omega); exact w
  subst ety
  have hevt : E.vt (v + j) = abT S0 ty := hvt2
  have habt : abT S0 ty = (if mu = 0 then 10000 else 10001) + 2 * abV S0 (tx j) := by
    rcases hty with ⟨w1, w⟩ | ⟨w1, w⟩
    · obtain ⟨_, _, _, _, _, q⟩ := abV_is hY w
      rw [q, if_pos rfl, if_pos w1]; rfl
    · obtain ⟨_, _, _, _, _, q⟩ := abV_is hY w
      rw [q, if_neg (by decide), if_pos rfl, if_neg (by rw [w1]; decide)]; rfl
  have hvx : vTy S0 xt := vTy.pl hx4 (by decide)
  have habx : abT S0 xt = 4 + i := by rw [(hvx.nm hY).2.2, abV_it hY (Or.inr rfl) him hx4]
  have hrx : rTy S0 ty := hty2 ty rfl
  unfold f_layPart
  refine npp_ (k9 := 0) c pw hρ (by omega) (by omega) (fun A b0 => ?_)
  refine lp29 pw hρ rfl b0.2.1.1 (fun A f sa ta fp gp b eq1 eq2 hf => ?_) bigN 0 A _ (by unfold bigN; omega) (Nat.zero_le _) b0 (fun _ _ _ _ _ i hi => by omega)
  refine lp64 c hL pw hρ hx4 hA f5 hg12 hvt (fun A nw pw2 hn hz hn2 => ?_) bigN 0 A f _ (by unfold bigN; omega) (Nat.zero_le _) b (fun sa' ta' fp' gp' q1 q2 q3 => ⟨fun l hl => ?_, fun l hl => by omega⟩)
  · obtain ⟨hn1, hn3, hn4⟩ := hn
    have cA := c.nw nw
    have rE : ∀ {S' : Sg}, LX S0 S' → oR S' 19 (some a) 6 = some (some xe) := fun hx => hx.vr (by decide) (by decide) (oR_mk (hL a ha) a1 (v := some xe) a3)
    have r4 : ∀ {S' : Sg}, LX S0 S' → oR S' 13 (some y) 4 = some (some (y + 2)) := fun hx => hx.vr (by decide) (by decide) (oR_mk (hL y hy) y1 (v := some (y + 2)) y3)
    have r5 : ∀ {S' : Sg}, LX S0 S' → aQ R.K 5 S' (some (y + 2)) (nI j) = some (some u) := fun hx => by
      obtain ⟨q1, q2⟩ := hx.ro (hL _ hy2) v1
      rw [aQ_n q1 q2 (show j < 12 by omega) (by decide), v2]
    have rv : ∀ {S' : Sg} {P' h' L' : Nat} {Γ' : List Nat}, LC R S0 S' P' h' Γ' L' → okO S' 21 (some u) = true ∧ oI S' 21 (some u) 0 = some (nI (v + j)) ∧ isU S' u (v + j) (some ty) 0 := fun c' => by
      obtain ⟨wh, w1, w2, _⟩ := c'.2.2.2.2.2.2.1 u (v + j) nmu (some ty) 0 hV
      exact ⟨okO_mk w1 w2, oI_mk w1 w2 rfl, w1, nmu, wh, w2⟩
    refine Rt.bd (rE cA.1) (Rt.bd (cA.1.vi (by decide) (by decide) (oI_mk (hL xe he) e1 e2)) ?_)
    refine pnt_ (Lb := L) (Sb := S) (z := 3) (n := 15) hP cA nw.lz (Nat.le_refl _) (by omega) (by omega) (NW.us c nw) (fun S1 p1 e1' => ?_)
    have hPN : PN S0 S S1 (Zz S) := fun gs9 a9 q1 q2 q3 => by
      rw [e1'.2.2.1, hn3] at q1
      cases q1; cases q2
      exact absurd q3 hn4
    refine Rt.bn (thr_ hP p1 hY (pw2.st e1'.1) (by rw [List.length_append]; show ρ.length + 1 ≤ 5; omega) (by omega) hPN (by omega) (by omega)) (fun S3 _ t3 => ?_)
    obtain ⟨x3, p3, l3, u1, u2, u3, u4, u5, u6, u7⟩ := t3
    refine Rt.bd (r4 p3.1.1) (Rt.bd (r5 p3.1.1) (p3.wO hP (by decide) (rv p3.1).1 (Or.inl (by decide)) (fun S4 p4 e4 => ?_)))
    refine Rt.bd (p4.1.1.vi (by decide) (by decide) (oI_mk (hL a ha) a1 a2)) ?_
    have pw4 := (pw2.st e1'.1).st (l3.tr e4.1)
    have hfin : ∀ n3 : Nat, ((n3 = 1 ∧ mu = 0) ∨ (n3 = 0 ∧ mu = 1)) → Rt (f_layPart_202 R.K S4 (some y) (nI j) (nI P) (nI n3) (some (Zz S)) (nI P)) (fun S2 _ => GV R S0 S S2 E P (P + 1) 0 0 Γ Γ L (L + 1) (pSk (cdP ix ρ) bd i g mk v j js) (pSk (cdP ix ρ) bd i g mk v (j + 1) js) False 5 17) := fun n3 hn3 => by
      have hn31 : n3 ≤ 1 := by rcases hn3 with w | w <;> omega
      have hok : okO S4 18 (some (Zz S)) = true := by
        obtain ⟨_, _, _, _, q1, q2, _⟩ := pw4
        exact okO_mk q1 q2
      unfold f_layPart_202
      refine nln_ hl p4 hok (pw4.po (by rw [List.length_append]; show ρ.length + 1 ≤ 5; omega)) (by rcases hn3 with w | w <;> rw [w.1] <;> decide) (fun S5 p5 e5 o1 o2 o3 => ?_)
      refine p5.wIl hP (by decide) (fun S6 p6 e6 n6 => ?_)
      refine Rt.bd (r4 p6.1.1) (Rt.bd (r5 p6.1.1) (Rt.bd (rv p6.1).2.1 (p6.wIl hP (by decide) (fun S7 p7 e7 n7 => Rt.rt ?_))))
      have l47 : LX S4 S7 := (e5.1.tr e6.1).tr e7.1
      have n67 := n6.tr n7
      have hpt := (pw4.st l47).pt p7.1 (by rw [List.length_append]; show ρ.length + 1 ≤ 5; omega)
      have hab : abT S0 (tx j) = abV S0 (tx j) := (hvt.nm hY).2.2
      rw [hab] at hpt
      have hEq : E.y.2.2.2.2 (4 + i) g j = abV S0 (tx j) := by rw [hEy]; exact f7
      have hus : ∀ r : Nat, (r = 36 ∨ r = 37) → rAr R S7 (va_up x3.2.2 40 (some u) r) (ifR (E.vt ix) [ix] []) := fun r hr => by
        rw [va_up_ne _ _ (by omega)]
        by_cases q : isRf (E.vt ix)
        · rw [ifR_p q]
          rw [evt] at q
          rcases hr with e | e <;> subst e
          · exact ((u6 q).2.st e4.1).st l47
          · exact ((u6 q).1.st e4.1).st l47
        · rw [ifR_n q]
          rw [evt] at q
          rcases hr with e | e <;> subst e
          · exact Or.inl ⟨(u7 q).2, rfl⟩
          · exact Or.inl ⟨(u7 q).1, rfl⟩
      have g1 : ∀ r : Nat, r ≠ 34 → r ≠ 35 → upd (upd x3.1 35 (nI L)) 34 (nI (v + j)) r = (ptRc 23 (nI px)).1 r := fun r h1 h2 => by rw [upd_n h1, upd_n h2, u1]
      have hrf : mkV (ksV v (j + 1) ++ js) = (8, v + j, 0) :: mkV (ksV v j ++ js) := rfl
      have hw0 : wl (pSk (cdP ix ρ) bd i g mk v j js) = 0 := by
        unfold pSk
        rw [if_neg (by omega), wl_56 (by by_cases q : bd = 1; rw [if_pos q]; exact Or.inl rfl; rw [if_neg q]; exact Or.inr rfl), wl_mk]
      have htag : (if n3 = 1 then 5 else 6) = (if bd = 1 then (5 : Nat) else 6) := by
        rcases hn3 with ⟨w1, w2⟩ | ⟨w1, w2⟩
        · rcases hbd with w | w
          · rw [if_pos w1, if_pos w.2]
          · exact absurd (w2.symm.trans w.1) (by decide)
        · rcases hbd with w | w
          · exact absurd (w2.symm.trans w.1) (by decide)
          · rw [if_neg (by omega), if_neg (by omega)]
      refine gv1 p7 (i := (23, 0, some (ix, ρ ++ [(g + 2, j)], abV S0 (tx j)), (some (v + j), some L), (ifR (E.vt ix) [ix] [], ifR (E.vt ix) [ix] []), [P + 1], (abT S0 ty, va, n3), [v + j])) (rz_g (K := 23) rfl p7.2.2.1 (by decide) (by decide) ?_ ?_ (by show (0 : Nat) < 8; decide) ?_ ?_ (hus 37 (Or.inr rfl)) (hus 36 (Or.inl rfl)) ⟨px, ?_, e3⟩ (Or.inr ⟨Zz S, ix, abV S0 (tx j), ρ ++ [(g + 2, j)], ?_, rfl, hpt, (pw4.st l47).va⟩) (fun l e => ?_) ?_ rfl (fun w => absurd w (by decide)) (fun w => absurd w (by decide)) (fun w => absurd w (by decide)) (fun _ => ⟨u, v + j, some ty, 0, ?_, rfl, (rv p7.1).2.2, rfl, hty2⟩) (fun w => absurd w (by decide)) (fun w => absurd w (by decide))) rfl (fun l e => by cases e; exact Nat.lt_succ_self _) (by rw [hw0]; omega) (tP_23 rfl ⟨rfl, ix, ρ, v + j, i, g, j, mkV (ksV v j ++ js), rfl, hv40, rfl, ⟨L, rfl⟩, ?_, ⟨wl_mk, nT_mk, fun w1 => hmut (fun w2 => w1 (by rcases hn3 with ⟨w3, _⟩ | ⟨w3, w4⟩; exact w3; exact absurd w4 (by rcases hbd with ⟨z, _⟩ | ⟨_, z⟩; rw [z]; decide; omega)))⟩, not8 (ksj hv), hi70, hg12, ?_, ?_, ?_, ?_, ⟨ix40, iad⟩, ?_, ?_, hqm, hρ, ⟨fun q => ⟨ifR_p q, ifR_p q⟩, fun q => ⟨ifR_n q, ifR_n q⟩⟩, ?_, ?_, ?_⟩)
      · exact (g1 27 (by decide) (by decide)).trans rfl
      · exact (g1 33 (by decide) (by decide)).trans rfl
      · exact upd_s (f := upd x3.1 35 (nI L)) (k := 34)
      · exact (upd_n (f := upd x3.1 35 (nI L)) (k := 34) (j := 35) (v := nI (v + j)) (by decide)).trans (upd_s (f := x3.1) (k := 35))
      · exact (g1 32 (by decide) (by decide)).trans rfl
      · exact (va_up_ne x3.2.2 (some u) (show (38 : Nat) ≠ 40 by decide)).trans u3
      · cases e
        refine ⟨?_, ?_, hn31, ?_⟩
        · rw [n67.1, o1]; exact ((va_up_ne x3.2.2 (some u) (show (38 : Nat) ≠ 40 by decide)).trans u3).symm
        · rw [n67.2.1]; exact o2
        · rw [n67.2.2]; exact o3
      · exact (g1 30 (by decide) (by decide)).trans rfl
      · exact va_up_self x3.2.2 40 (some u)
      · show pSk (cdP ix ρ) bd i g mk v j js = (if n3 = 1 then 5 else 6, i * 12 + g, 64 * cdP ix ρ + j) :: _
        rw [htag]; unfold pSk; rw [if_neg (by omega)]
      · rw [hEy]; exact f1
      · rw [hEy]; show g < fN (obF S0 (R.ws (4 + i - 4))) 3; rw [show 4 + i - 4 = i by omega]; exact f2
      · rw [hEy]; show j < yP R S0 (4 + i) g; rw [f4]; exact hj
      · rw [hEq]; rfl
      · rw [mkV_ap]; exact List.mem_append_right _ hin
      · obtain ⟨_, _, _, _, _, _, _, _, q5, q6, _⟩ := pw
        rw [hEy, evt, ← habx]; exact q5.ty hY q6
      · show E.vt (v + j) = (if n3 = 1 then 10000 else 10001) + _
        rw [hEq, hevt, habt]
        rcases hn3 with ⟨w1, w2⟩ | ⟨w1, w2⟩
        · rw [if_pos w1, if_pos w2]
        · rw [if_neg (show ¬ n3 = 1 by omega), if_neg (show ¬ mu = 0 by rw [w2]; decide)]
      · rw [hEq]; exact (hvt.nm hY).2.1
      · have ey : E.y.2.2.2.1 (4 + i) g = mk := by rw [hEy]; exact f4
        rw [ey]
        by_cases q : j + 1 = mk
        · refine Or.inl ⟨q, rfl, ?_⟩
          unfold pSk; rw [if_pos q, hrf]; exact wkS.rf
        · refine Or.inr ⟨by omega, rfl, ?_⟩
          show wkS ((if n3 = 1 then 5 else 6, i * 12 + g, 64 * cdP ix ρ + (j + 1)) :: _) _
          rw [htag]
          unfold pSk; rw [if_neg q, hrf]; exact wkS.rf
    refine Rt.it (fun w => ?_) (fun w => ?_)
    · exact hfin 1 (Or.inl ⟨rfl, w⟩)
    · refine hfin 0 (Or.inr ⟨rfl, ?_⟩)
      rcases hbd with q | q
      · exact absurd q.1 w
      · exact q.1
  · obtain ⟨rfl, rfl⟩ : sa' = sa ∧ ta' = ta := by rw [eq1] at q1; cases q1; exact ⟨rfl, rfl⟩
    obtain rfl : fp' = fp := by rw [eq2] at q2; cases q2; rfl
    exact hf l hl
end LY39
end
-- m1.o.lean.txt
section
/-- the stack while an arm's variables come alive -/
def stk (cd bd i g mk v n : Nat) (js : List Nat) : List tE := if bd = 0 then mkV (ksV v mk ++ js) else pSk cd bd i g mk v n js
/-- a match: its cell, what it looks at -/
def MtH (R : yR) (S0 : Sg) (a xe ar px p mn : Nat) (mu rf : Int32) : Prop := a ∈ ZL R.S ∧ ZF S0 a = stC 5 p 0 mu rf .null (.ref xe) .null .null .null .null .null (.ref ar) mn ∧ p < R.T ∧ xe ∈ ZL R.S ∧ ∃ gs : List Value, ZF S0 xe = .inr (15, gs) ∧ gs[1]? = some (.int (nI px)) ∧ px < R.T
/-- an arm was laid -/
def ArQ (R : yR) (S0 S : Sg) (E : eV) (P : Nat) (Γ : List Nat) (L : Nat) (js : List Nat) (bw : Nat → Nat) (p pa qa ba ca va wa : Nat) (x0 : List tE) (bk : Nat) (S4 : Sg) (Pj L4 z n : Nat) : Prop := FRM R S0 S S4 P (Pj + 1) 0 Γ L L4 z n ∧ tsg R S0 S4 E L4 P Pj x0 (mkV js) (eBx S0 bk) ∧ AT S4 Pj (ptRc 16 (nI p)) ∧ P ≤ Pj ∧ Pj + 9 ≤ P + 8 * (bw qa - bw pa) ∧ z + 20 ≤ 20 * (bw qa - bw pa) ∧ n + 60 ≤ 60 * (bw qa - bw pa) ∧ L4 + ba + va ≤ L + ca + wa ∧ K0 S4 (Pj + 1)
section LY40
variable {R : yR} {S0 Sb S S1 S2 S3 : Sg} {P P1 P2 P3 h h0 h1 h2 hc L L1 L2 Lb z n z2 n2 : Nat} {Γ Γ0 Γ1 Γ2 Λ : List Nat} {E : eV} {s s1 s2 : List tE} {gv : Nat} {js ks us : List Nat} {bw : Nat → Nat} {V : Sg → Option Nat → Option (Sg × Unit)}
theorem tk_s : ∀ {us : List Nat} {n u : Nat}, us[n]? = some u → us.take n ++ [u] = us.take (n + 1)
  | [], _, _, h => by cases h
  | x :: us, 0, u, h => by cases h; rfl
  | x :: us, n + 1, u, h => by
    show x :: (us.take n ++ [u]) = x :: us.take (n + 1)
    rw [tk_s (us := us) h]
theorem tk_a : ∀ {us : List Nat} {n : Nat}, us.length ≤ n → us.take n = us
  | [], 0, _ => rfl
  | [], _ + 1, _ => rfl
  | x :: us, 0, h => by cases h
  | x :: us, n + 1, h => by
    show x :: us.take n = _
    rw [tk_a (us := us) (Nat.le_of_succ_le_succ h)]
theorem GJ.kn {v : Nat} (hG : GJ Λ Γ js) (hv : ∀ i ∈ js, i < v) : ∀ {n : Nat}, (∀ j : Nat, j < n → ∃ u : Nat, us[j]? = some u ∧ Λ[v + j]? = some u) → GJ Λ (Γ ++ us.take n) (ksV v n ++ js)
  | 0, _ => by
    rw [show us.take 0 = [] from rfl, List.append_nil]; exact hG
  | n + 1, h => by
    obtain ⟨u, u1, u2⟩ := h n (Nat.lt_succ_self _)
    rw [← tk_s u1, ← List.append_assoc]
    exact (GJ.kn hG hv (fun j hj => h j (by omega))).add u2 (ksj hv)
/-- the arm's block, the end of its variables, its jump -/
theorem lar_e {a xe ar px p mn y m9 nn bk p' pa qa ba ca va wa mk P1 L1 z9 n9 : Nat} {mu rf : Int32} {x0 : List tE} {x2 x4 : Option Nat} {x3 x5 : Int32} {k142 : Sg → Option Nat → Option Nat → Int32 → Option Nat → Int32 → Option (Sg × Unit)} {Q : Sg → Unit → Prop} (hF : FEn R S0 E Λ gv) (hB : BWt R bw) (hV : LbV R S0 E Λ gv bw V nn) (hm : m9 ≤ nn) (hM : MtH R S0 a xe ar px p mn mu rf) (hG : GJ Λ Γ js) (hv : ∀ i ∈ js, i < va) (hw : wa ≤ 40) (hq : qa ≤ R.T) (hy : y ∈ ZL R.S) (hyF : ∃ ys : List Value, ZF S0 y = .inr (13, ys) ∧ ys[5]? = some (.ref bk)) (hus : us.length = mk) (hΛ : ∀ j : Nat, j < mk → ∃ u : Nat, us[j]? = some u ∧ Λ[va + j]? = some u) (hp' : pa + mk < p') (hbl : sN R S0 Λ gv m9 1 bk p' qa ba ca (va + mk) wa (Γ ++ us) (Γ ++ us) (0, 0, 0)) (hP : P + 8 * (bw qa - bw pa) ≤ 24000) (hl : L + ca + wa ≤ 160 + ba + va) (hr : RMl R S (20 * (bw qa - bw pa)) (60 * (bw qa - bw pa))) (g : GV R S0 S S1 E P P1 0 0 Γ (Γ ++ us) L L1 x0 (mkV (ksV va mk ++ js)) False z9 n9) (b1 : P1 ≤ P + 1 + mk) (b2 : z9 ≤ 5 * mk) (b3 : n9 ≤ 17 * mk) (b4 : L1 ≤ L + mk) (kk : K0 S1 P1)
  (k : ∀ (S4 : Sg) (Pj L4 z n : Nat), ArQ R S0 S E P Γ L js bw p pa qa ba ca va wa x0 bk S4 Pj L4 z n → Rt ((bI R.K S4 x4 x5 (nI Pj)).bind fun S54 => k142 S54 (some a) x2 x3 x4 (x5 + 1)) Q) : Rt ((oR S1 13 (some y) 5).bind fun v43 =>
    bnd (V S1 v43) fun S44 v45 =>
    (oR S44 13 (some y) 5).bind fun v46 =>
    (oI S44 14 v46 1).bind fun v47 =>
    bnd (f_goOut R.K S44 (nI js.length) v47) fun S48 v49 =>
    (pM S48 50 (nI js.length)).bind fun S50 =>
    (oI S50 19 (some a) 1).bind fun v51 =>
    bnd (f_point R.K S50 16 v51) fun S52 v53 =>
    (bI R.K S52 x4 x5 v53).bind fun S54 =>
    k142 S54 (some a) x2 x3 x4 (x5 + 1)) Q := by
  have hL := hF.1.1
  obtain ⟨ha, k1, hpT, _⟩ := hM
  obtain ⟨ys, y1, y2⟩ := hyF
  have hlt := sN_lt hbl
  have hmo := sN_mo hbl
  have w1 := hB.mo (p := pa) (q := p') (by omega) (by omega)
  have w2 := hB.mo (p := p') (q := qa) (by omega) (by omega)
  have hG2 : GJ Λ (Γ ++ us) (ksV va mk ++ js) := by
    have := GJ.kn (us := us) (n := mk) hG hv hΛ
    rw [tk_a (by omega)] at this; exact this
  have hv2 : ∀ i ∈ ksV va mk ++ js, i < va + mk := ksj hv
  have hln := hG2.len
  have hjl := GJ.l40 (v := va + mk) hG2 hv2
  have hkl : (ksV va mk).length = mk := ksV_len
  have hbc : bk ∈ ZL R.S ∧ ∃ la mn2 : Nat, ZF S0 bk = .inr (14, [.int (nI p'), .int (nI (qa - 1)), .ref la, .int (nI mn2)]) := by
    cases m9 with
    | zero => exact hbl.elim
    | succ m9 =>
      obtain ⟨h1, _, _, la, cap, mn2, f, gs, h2, _⟩ := hbl
      exact ⟨h1.1, la, mn2, h2⟩
  obtain ⟨hbk, la, mn2, hbF⟩ := hbc
  have r5 : ∀ {S' : Sg}, LX S0 S' → oR S' 13 (some y) 5 = some (some bk) := fun hx => hx.vr (by decide) (by decide) (oR_mk (hL y hy) y1 (v := some bk) y2)
  have hPP : P ≤ P1 := g.2.2.2.2.2.1
  refine Rt.bd (r5 g.1.1) (Rt.bn (hV m9 hm bk p' qa ba ca (va + mk) wa (Γ ++ us) hbl S1 P1 L1 (ksV va mk ++ js) ⟨hF, hB, g.1, Or.inr kk, hG2, hv2, ⟨hmo.2, hw⟩, ⟨hlt, hq⟩, by omega, ⟨hmo.1, by omega⟩, g.rm hr (by omega) (by omega)⟩) (fun S2 _ t2 => ?_))
  obtain ⟨P2, L2, z2, n2, g2, d1, d2, d3, d4, d5⟩ := t2
  have hP2 : P1 ≤ P2 := g2.2.2.2.2.2.1
  have g12 := g.tr g2 (cl3 := eBx S0 bk) (fun w => Or.inr w) (Nat.le_refl _) (Nat.le_refl _)
  refine Rt.bd (r5 g2.1.1) (Rt.bd (g2.1.1.vi (by decide) (by decide) (oI_mk (hL bk hbk) hbF (v := nI (qa - 1)) rfl)) ?_)
  refine Rt.bn (gou_ (h0 := 0) (Γ0 := Γ ++ us) (e := []) (ks := ksV va mk) (js1 := js) hF (Or.inl rfl) rfl rfl (by omega) g2.1 hG2 (by omega) (by omega) (g12.rm hr (by omega) (by omega))) (fun S3 _ g3 => ?_)
  have g13 := g12.tr g3 (cl3 := eBx S0 bk) (fun w => Or.inl w) (Nat.le_refl _) (Nat.le_refl _)
  refine g13.dn (by rw [hG.len]) (fun S4 g4 e4 => ?_)
  refine Rt.bd (g4.1.1.vi (by decide) (by decide) (oI_mk (hL a ha) k1 (v := nI p) rfl)) ?_
  refine pnt_ (Lb := L2) (Sb := S4) (z := 0) (n := 0) (by omega) g4.1 LZ.rf (Nat.le_refl _) (by omega) (by omega) UsK.rf (fun S5 p5 _ => k S5 (P2 + (ksV va mk).length) L2 _ _ ⟨g4.frm.tr p5.frm, g4.2.2.1.st p5.2.1, p5.2.2.1, by omega, by omega, by omega, by omega, by omega, ?_⟩)
  have k2 : K0 S2 P2 := by
    rcases d5 with e | e
    · have := kk.1; omega
    · exact e
  have k4 : K0 S4 (P2 + (ksV va mk).length) := by
    unfold K0; rw [e4]; exact k2.st g3.2.1 (by omega)
  exact k4.st p5.2.1 (Nat.le_succ _)
/-- an arm's variables come alive, its parts are looked at -/
theorem lar210 {a xe ar px p mn y w va9 ix tv xt i g bd m9 nn bk p' pa qa ba ca va wa mk : Nat} {mu rf : Int32} {x0 : List tE} {x2 x4 : Option Nat} {x3 x5 : Int32} {tx : Nat → Nat} {ρ : List (Nat × Nat)} {fv : Nat → Option Nat} {ys : List Value} {k142 : Sg → Option Nat → Option Nat → Int32 → Option Nat → Int32 → Option (Sg × Unit)} {Q : Sg → Unit → Prop} (hF : FEn R S0 E Λ gv) (hB : BWt R bw) (hV : LbV R S0 E Λ gv bw V nn) (hm : m9 ≤ nn) (hM : MtH R S0 a xe ar px p mn mu rf) (hG : GJ Λ Γ js) (hv : ∀ i ∈ js, i < va) (hw : wa ≤ 40) (hq : qa ≤ R.T) (hy : y ∈ ZL R.S) (hyF : ZF S0 y = .inr (13, ys)) (hy1 : ys[1]? = some (.int (nI g))) (hy3 : ys[3]? = some (.int (nI mk))) (hy4 : ys[4]? = some (.ref (y + 2))) (hy5 : ys[5]? = some (.ref bk)) (hy2 : y + 2 ∈ ZL R.S) (hFv : ZF S0 (y + 2) = .inl (R.K.1 5, 12, .inr (.inr (.inr (.inr fv))))) (hen : enY R S0 i g mk tx) (hus : us.length = mk) (hvs : ∀ j : Nat, j < mk → ∃ (u ty : Nat) (nm : Int32), us[j]? = some u ∧ fv j = some u ∧ Λ[va + j]? = some u ∧ isV S0 u (va + j) nm (some ty) 0 ∧ ((bd = 0 ∧ ty = tx j) ∨ (bd = 1 ∧ isTy S0 ty 6 0 (some (tx j))) ∨ (bd = 2 ∧ isTy S0 ty 7 0 (some (tx j))))) (hp' : pa + mk < p') (hbl : sN R S0 Λ gv m9 1 bk p' qa ba ca (va + mk) wa (Γ ++ us) (Γ ++ us) (0, 0, 0)) (hP : P + 8 * (bw qa - bw pa) ≤ 24000) (hl : L + ca + wa ≤ 160 + ba + va) (hr : RMl R S (20 * (bw qa - bw pa)) (60 * (bw qa - bw pa))) (hbd : (rf = 0 ∧ bd = 0) ∨ (rf = 1 ∧ ((mu = 0 ∧ bd = 1) ∨ (mu = 1 ∧ bd = 2)) ∧ x2 = some w ∧ PlF bd R S0 S E js w va9 ix tv xt i ρ))
  (k : ∀ (S4 : Sg) (Pj L4 z n : Nat), ArQ R S0 S E P Γ L js bw p pa qa ba ca va wa x0 bk S4 Pj L4 z n → Rt ((bI R.K S4 x4 x5 (nI Pj)).bind fun S54 => k142 S54 (some a) x2 x3 x4 (x5 + 1)) Q) : ∀ (m n : Nat) (S1 : Sg) (P1 L1 z9 n9 : Nat), mk < n + m → n ≤ mk → GV R S0 S S1 E P P1 0 0 Γ (Γ ++ us.take n) L L1 x0 (stk (cdP ix ρ) bd i g mk va n js) False z9 n9 → P1 ≤ P + 1 + n → z9 ≤ 5 * n → n9 ≤ 17 * n → L1 ≤ L + n → K0 S1 P1 → Rt (f_layMatch_210 R.K V k142 m S1 (some a) x2 x3 x4 x5 (some y) (nI js.length) (nI n)) Q
  | 0, n, S1, P1, L1, z9, n9, h1, h2, _, _, _, _, _, _ => by omega
  | m + 1, n, S1, P1, L1, z9, n9, h1, h2, g9, b1, b2, b3, b4, kk => by
    have hL := hF.1.1
    have hY := hF.1.2.1
    obtain ⟨_, _, _, _, f5, _⟩ := hen.y hY
    have hlt := sN_lt hbl
    have hmo := sN_mo hbl
    have w1 := hB.mo (p := pa) (q := p') (by omega) (by omega)
    have w2 := hB.mo (p := p') (q := qa) (by omega) (by omega)
    have hΛ : ∀ j : Nat, j < mk → ∃ u : Nat, us[j]? = some u ∧ Λ[va + j]? = some u := fun j hj => by
      obtain ⟨u, _, _, u1, _, u2, _⟩ := hvs j hj
      exact ⟨u, u1, u2⟩
    have hM2 := hM
    obtain ⟨ha, k1, hpT, hxe, gs, e1, e2, e3⟩ := hM2
    unfold f_layMatch_210
    refine Rt.bd (g9.1.1.vi (by decide) (by decide) (oI_mk (hL y hy) hyF hy3)) (Rt.it (fun q9 => ?_) (fun q9 => ?_))
    · have : mk ≤ n := (nI_leI (by omega) (by omega)).mp q9
      obtain rfl : n = mk := by omega
      have hst : stk (cdP ix ρ) bd i g n va n js = mkV (ksV va n ++ js) := by
        unfold stk pSk
        by_cases e : bd = 0
        · rw [if_pos e]
        · rw [if_neg e, if_pos rfl]
      rw [hst, tk_a (by omega)] at g9
      exact lar_e hF hB hV hm hM hG hv hw hq hy ⟨ys, hyF, hy5⟩ hus hΛ hp' hbl hP hl hr g9 b1 b2 b3 b4 kk k
    · have hlt2 : n < mk := by
        by_cases e : n < mk
        · exact e
        · exact absurd (nI_le (a := mk) (b := n) (by omega) (by omega)) q9
      obtain ⟨u, ty, nm, u1, u2, u3, u4, u5⟩ := hvs n hlt2
      have hG1 := GJ.kn (us := us) (n := n) hG hv (fun j hj => hΛ j (by omega))
      have hln := hG1.len
      have hjl := GJ.l40 (v := va + n) hG1 (ksj hv)
      -- the variable comes alive
      have h237 : ∀ (S2 : Sg) (P2 L2 z2 n2 : Nat), GV R S0 S S2 E P P2 0 0 Γ (Γ ++ us.take n) L L2 x0 (stk (cdP ix ρ) bd i g mk va (n + 1) js) False z2 n2 → P2 ≤ P + 1 + (n + 1) → z2 ≤ 5 * (n + 1) → n2 ≤ 17 * (n + 1) → L2 ≤ L + (n + 1) → K0 S2 P2 → Rt (f_layMatch_237 R.K V k142 ((f_layMatch_210 R.K V k142 m)) S2 (some a) x2 x3 x4 x5 (some y) (nI js.length) (nI n)) Q := fun S2 P2 L2 z2 n2 g2 c1 c2 c3 c4 k2 => by
        unfold f_layMatch_237
        obtain ⟨q1, q2⟩ := g2.1.1.ro (hL _ hy2) hFv
        obtain ⟨wh, v1, v2, _⟩ := g2.1.2.2.2.2.2.2.1 u (va + n) nm (some ty) 0 u4
        refine Rt.bd (g2.1.1.vr (by decide) (by decide) (oR_mk (hL y hy) hyF (v := some (y + 2)) hy4)) (Rt.bd (by rw [aQ_n q1 q2 (show n < 12 by omega) (by decide), u2]) ?_)
        refine cma_ g2 (okO_mk v1 v2) (by omega) (fun S3 g3 e3 => ?_)
        rw [nI_1]
        refine lar210 hF hB hV hm hM hG hv hw hq hy hyF hy1 hy3 hy4 hy5 hy2 hFv hen hus hvs hp' hbl hP hl hr hbd k m (n + 1) S3 P2 L2 z2 n2 (by omega) (by omega) ?_ c1 c2 c3 c4 (by unfold K0; rw [e3]; exact k2)
        rw [List.append_assoc, tk_s u1] at g3
        exact g3
      refine Rt.bd (g9.1.1.vi (by decide) (by decide) (oI_mk (hL a ha) k1 (v := rf) rfl)) ?_
      rcases hbd with ⟨w3, w4⟩ | ⟨w3, w4, w5, w6⟩
      · refine Rt.ip w3 (h237 S1 P1 L1 z9 n9 ?_ (by omega) (by omega) (by omega) (by omega) kk)
        have : stk (cdP ix ρ) bd i g mk va (n + 1) js = stk (cdP ix ρ) bd i g mk va n js := by unfold stk; rw [if_pos w4, if_pos w4]
        rw [this]; exact g9
      · refine Rt.iq (by rw [w3]; decide) ?_
        rw [w5]
        have hb0 : bd ≠ 0 := by rcases w4 with w | w <;> omega
        have es : ∀ n : Nat, stk (cdP ix ρ) bd i g mk va n js = pSk (cdP ix ρ) bd i g mk va n js := fun n => by unfold stk; rw [if_neg hb0]
        have hPA : PaA R S0 Λ a y xe 0 px i g mk n u ty va mu tx := ⟨⟨ha, _, k1, rfl, rfl⟩, ⟨hxe, gs, e1, e2, e3⟩, ⟨hy, ys, hyF, hy1, hy4⟩, ⟨hy2, fv, hFv, u2⟩, hen, hlt2, u3, ⟨nm, u4⟩, by
          rcases w4 with w | w
          · rcases u5 with z | z | z
            · exact absurd z.1 hb0
            · exact Or.inl ⟨w.1, z.2⟩
            · exact absurd (w.2.symm.trans z.1) (by decide)
          · rcases u5 with z | z | z
            · exact absurd z.1 hb0
            · exact absurd (w.2.symm.trans z.1) (by decide)
            · exact Or.inr ⟨w.1, z.2⟩⟩
        refine Rt.bn (lpt_ (L := L1) (P := P1) (Γ := Γ ++ us.take n) (js := js) hF g9.1 (w6.st g9.lx) hPA w4 hv (by omega) (by omega) (by omega) (g9.rm hr (by omega) (by omega))) (fun S2 _ g2 => ?_)
        rw [← es, ← es] at g2
        rw [← w5]
        exact h237 S2 (P1 + 1) (L1 + 1) (z9 + 5) (n9 + 17) (g9.tr g2 (fun w => w.elim) (Nat.le_refl _) (Nat.le_refl _)) (by omega) (by omega) (by omega) (by omega) (kk.st g2.2.1 (Nat.le_succ _))
end LY40
end
-- m1.p.lean.txt
section
theorem inj_sur : ∀ (n : Nat) (f : Nat → Nat), (∀ k : Nat, k < n → f k < n) → (∀ j k : Nat, j < n → k < n → f j = f k → j = k) → ∀ g : Nat, g < n → ∃ k : Nat, k < n ∧ f k = g
  | 0, _, _, _, g, hg => by omega
  | n + 1, f, h1, h2, g, hg => by
    have hc := h1 n (Nat.lt_succ_self _)
    have h3 : ∀ k : Nat, k < n → (if f k = n then f n else f k) < n := fun k hk => by
      have a := h1 k (by omega)
      by_cases e : f k = n
      · rw [if_pos e]
        have : f n ≠ n := fun w => by have := h2 k n (by omega) (by omega) (e.trans w.symm); omega
        omega
      · rw [if_neg e]; omega
    have h4 : ∀ j k : Nat, j < n → k < n → (if f j = n then f n else f j) = (if f k = n then f n else f k) → j = k := fun j k hj hk e => by
      by_cases a : f j = n
      · by_cases b : f k = n
        · exact h2 j k (by omega) (by omega) (a.trans b.symm)
        · rw [if_pos a, if_neg b] at e
          have := h2 n k (by omega) (by omega) e; omega
      · by_cases b : f k = n
        · rw [if_neg a, if_pos b] at e
          have := h2 j n (by omega) (by omega) e; omega
        · rw [if_neg a, if_neg b] at e
          exact h2 j k (by omega) (by omega) e
    by_cases e : g = f n
    · exact ⟨n, Nat.lt_succ_self _, e.symm⟩
    · by_cases e2 : g = n
      · obtain ⟨k, k1, k2⟩ := inj_sur n (fun k => if f k = n then f n else f k) h3 h4 (f n) (by omega)
        by_cases a : f k = n
        · exact ⟨k, by omega, a.trans e2.symm⟩
        · rw [if_neg a] at k2
          have := h2 k n (by omega) (by omega) k2; omega
      · obtain ⟨k, k1, k2⟩ := inj_sur n (fun k => if f k = n then f n else f k) h3 h4 g (by omega)
        by_cases a : f k = n
        · rw [if_pos a] at k2; exact absurd k2.symm e
        · rw [if_neg a] at k2; exact ⟨k, by omega, k2⟩
/-- the arms, the jumps of the first i are set -/
def ArT (R : yR) (S0 S1 : Sg) (E : eV) (L1 : Nat) (js : List Nat) (p m Pe mn i : Nat) (A J : Nat → Nat) (xk : Nat → List tE) (bk : Nat → Nat) : Prop := A 0 = m + 1 ∧ A mn = Pe ∧ ∀ k : Nat, k < mn → A k ≤ J k ∧ A (k + 1) = J k + 1 ∧ tsg R S0 S1 E L1 (A k) (J k) (xk k) (mkV js) (eBx S0 (bk k)) ∧ (k < i → rz R S0 S1 (J k) ((16, 0, none, (none, none), ([], []), [Pe], (0, 0, 0), []) : iR)) ∧ (i ≤ k → AT S1 (J k) (ptRc 16 (nI p)))
section LY41
variable {R : yR} {S0 Sb Sx S S1 S2 S3 : Sg} {P P1 P2 P3 Pe h h0 h1 h2 hc L L1 L2 Le Lb z n z2 n2 : Nat} {Γ Γ0 Γ1 Γ2 Λ : List Nat} {E : eV} {s s1 s2 yD : List tE} {gv : Nat} {js ks us : List Nat} {bw : Nat → Nat} {V : Sg → Option Nat → Option (Sg × Unit)} {A J bk : Nat → Nat} {xk : Nat → List tE} {p m mn i : Nat} {X X2 : Nat → List tE → Prop} {cE cE2 : Prop} {x : pRc}
theorem LX.uF {a : Nat} {c : va_E} (h : LX S S1) (ha : a ∉ ZL S) : LX S (UF S1 a c) := ⟨fun b hb => ⟨(h.1 b hb).1, by rw [show ZF (UF S1 a c) b = ZF S1 b from updE_n (fun e => ha (e ▸ hb))]; exact (h.1 b hb).2⟩, h.2⟩
theorem ArS.t (q : ArS R S0 S1 E L1 js p m Pe mn A J xk bk) : ArT R S0 S1 E L1 js p m Pe mn 0 A J xk bk := ⟨q.1, q.2.1, fun k hk => ⟨(q.2.2 k hk).1, (q.2.2 k hk).2.1, (q.2.2 k hk).2.2.1, fun w => by omega, fun _ => (q.2.2 k hk).2.2.2⟩⟩
theorem ArT.mo (q : ArT R S0 S1 E L1 js p m Pe mn i A J xk bk) {k : Nat} : ∀ {j : Nat}, k ≤ j → j ≤ mn → A k ≤ A j
  | 0, h1, _ => by rw [Nat.le_zero.mp h1]; exact Nat.le_refl _
  | j + 1, h1, h2 => by
    by_cases e : k = j + 1
    · rw [e]; exact Nat.le_refl _
    · have := ArT.mo q (k := k) (j := j) (by omega) (by omega)
      have := q.2.2 j (by omega)
      omega
theorem ArT.jb (q : ArT R S0 S1 E L1 js p m Pe mn i A J xk bk) {k : Nat} (hk : k < mn) : m < J k ∧ J k < Pe := by
  have a1 := q.mo (k := 0) (j := k) (Nat.zero_le _) (by omega)
  have a2 := q.mo (k := k + 1) (j := mn) (by omega) (Nat.le_refl _)
  have a3 := q.2.2 k hk
  have := q.1
  have := q.2.1
  omega
theorem AT.jp {k : Nat} {v : Int32} (a : AT S P x) (hk : k ≠ P) : AT (Ur S 30 (upd (Zr S 30) k v)) P x := ⟨fun r h1 h2 h3 => by
  by_cases e : r = 30
  · subst e; rw [Zr_us, upd_n (fun w => hk w.symm)]; exact a.1 _ h1 h2 h3
  · rw [Zr_un e]; exact a.1 _ h1 h2 h3, a.2⟩
/-- a jump is set -/
theorem ArT.sj (q : ArT R S0 S1 E L1 js p m Pe mn i A J xk bk) (hi : i < mn) (hp : p < R.T) (hPe : Pe < 24000) : ArT R S0 (Ur S1 30 (upd (Zr S1 30) (J i) (nI Pe))) E L1 js p m Pe mn (i + 1) A J xk bk := by
  have hx : LX S1 (Ur S1 30 (upd (Zr S1 30) (J i) (nI Pe))) := (LZ.ur (P := 0) (L := 0) (by decide) (Nat.zero_le _)).1
  refine ⟨q.1, q.2.1, fun k hk => ?_⟩
  obtain ⟨a1, a2, a3, a4, a5⟩ := q.2.2 k hk
  have ai := q.2.2 i hi
  have hne : k ≠ i → J k ≠ J i := fun e => by
    by_cases w : k < i
    · have := q.mo (k := k + 1) (j := i) (by omega) (by omega); omega
    · have := q.mo (k := i + 1) (j := k) (by omega) (by omega); omega
  refine ⟨a1, a2, a3.jp ?_, fun w => ?_, fun w => (a5 (by omega)).jp (fun e => hne (by omega) e.symm)⟩
  · by_cases w : i < k
    · have := q.mo (k := i + 1) (j := k) (by omega) (by omega); omega
    · by_cases e : k = i
      · subst e; omega
      · have := q.mo (k := k + 1) (j := i) (by omega) (by omega); omega
  · by_cases e : k = i
    · subst e
      exact rz_j (K := 16) (sc := [Pe]) (Or.inl ⟨rfl, rfl⟩) (a5 (Nat.le_refl _)) pl0_o hp hPe
    · refine (a4 (by omega)).st hx ⟨fun r h1 h2 => ?_, rfl, fun _ _ _ => rfl⟩ (fun l e => by cases e)
      by_cases e2 : r = 30
      · subst e2; rw [Zr_us, upd_n (hne e)]
      · rw [Zr_un e2]
theorem tsgm.mo {a c bb : Nat} (h : tsgm R S0 S E L a c bb X yD cE) (hX : ∀ e s, X2 e s → X e s) (hc : cE2 → cE) : tsgm R S0 S E L a c bb X2 yD cE2 := by
  obtain ⟨h0, st, W, h1, h2⟩ := h
  refine ⟨h0, st, W, fun e x w => h1 e x (hX e x w), fun k hk hb => ?_⟩
  obtain ⟨i, q1, q2, q3, q4⟩ := h2 k hk hb
  exact ⟨i, q1, q2, fun j hj => ⟨(q3 j hj).1.imp id (fun w => ⟨w.1, fun z => w.2 (hc z)⟩), (q3 j hj).2⟩, q4⟩
/-- the arms beside each other -/
theorem ArT.mm (q : ArT R S0 S1 E L1 js p m Pe mn mn A J xk bk) : ∀ k : Nat, k ≤ mn → tsgm R S0 S1 E L1 (m + 1) (A k) Pe (fun e s => ∃ j : Nat, j < k ∧ e = A j ∧ s = xk j) (mkV js) (∀ j : Nat, j < k → eBx S0 (bk j))
  | 0, _ => by
    rw [q.1]
    exact tsgm.nil.mo (fun e s ⟨j, w, _⟩ => by omega) (fun _ => trivial)
  | k + 1, hk => by
    obtain ⟨a1, a2, a3, a4, a5⟩ := q.2.2 k (by omega)
    rw [a2]
    refine ((ArT.mm q k (by omega)).add a3 (a4 (by omega)) (by rw [wl_mk]; omega) (q.jb (show k < mn by omega)).2 nT_mk).mo (fun e s w => ?_) (fun w => ⟨fun j hj => w j (by omega), w k (by omega)⟩)
    obtain ⟨j, j1, j2, j3⟩ := w
    by_cases e1 : j = k
    · subst e1; exact Or.inr ⟨j2, j3⟩
    · exact Or.inl ⟨j, by omega, j2, j3⟩
/-- the jumps of all arms are set -/
theorem lma308 {a xe ar px e ta : Nat} {mu rf : Int32} {fe ft : Nat → Int32} {Q : Sg → Unit → Prop} (hL : RIn R S0) (hM : MtH R S0 a xe ar px p mn mu rf) (hmn : mn ≤ 12) (hPe : Pe < 24000) (hfe : ∀ k : Nat, k < mn → fe k = nI (J k))
  (kf : ∀ S2 : Sg, FRM R S0 Sb S2 m Pe 0 Γ L Le z n → LX Sx S2 → AT S2 m x → ArT R S0 S2 E Le js p m Pe mn mn A J xk bk → (ta ∈ ZL S2 ∧ ZF S2 ta = .inl (R.K.1 0, mn, .inl ft)) → K0 S2 Pe → Q S2 ()) : ∀ (d i : Nat) (S1 : Sg), mn < i + d → i ≤ mn → FRM R S0 Sb S1 m Pe 0 Γ L Le z n → LX Sx S1 → AT S1 m x → ArT R S0 S1 E Le js p m Pe mn i A J xk bk → (e ∈ ZL S1 ∧ ZF S1 e = .inl (R.K.1 0, mn, .inl fe)) → (ta ∈ ZL S1 ∧ ZF S1 ta = .inl (R.K.1 0, mn, .inl ft)) → K0 S1 Pe → Rt (f_layMatch_308 R.K V d S1 (some a) (some e) (nI i)) Q
  | 0, i, S1, h1, h2, _, _, _, _, _, _, _ => by omega
  | d + 1, i, S1, h1, h2, F, hx, ha, q, he, hta, kk => by
    have hM2 := hM
    obtain ⟨ha9, k1, hpT, _⟩ := hM2
    unfold f_layMatch_308
    refine Rt.bd (F.1.1.vi (by decide) (by decide) (oI_mk (hL a ha9) k1 (v := nI mn) rfl)) (Rt.it (fun w => ?_) (fun w => ?_))
    · have : mn ≤ i := (nI_leI (by omega) (by omega)).mp w
      obtain rfl : i = mn := by omega
      exact Rt.rt (kf S1 F hx ha q hta kk)
    · have hlt : i < mn := by
        by_cases q : i < mn
        · exact q
        · exact absurd (nI_le (a := mn) (b := i) (by omega) (by omega)) w
      have hj := q.jb hlt
      refine Rt.bd (by rw [aI_j he.1 he.2 hlt (by omega), hfe i hlt]) ?_
      rw [F.1.2.1]
      refine Rt.bd (wRI_n (show J i < rlen 30 from by show _ < 24000; omega) (by decide)) ?_
      rw [nI_1]
      refine lma308 hL hM hmn hPe hfe kf d (i + 1) _ (by omega) (by omega) (F.ur (by omega)) (hx.tr (LZ.ur (P := 0) (L := 0) (by decide) (Nat.zero_le _)).1) (ha.jp (by omega)) (q.sj hlt hpT hPe) he hta ?_
      unfold K0; rw [Zr_un (by decide)]; exact kk
end LY41
end
