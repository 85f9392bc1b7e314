/-- exps in a row: what is known of each -/
def CHx (R : yR) (S0 : Sg) (Γ : List Nat) (n k2 z la sa mn cap : Nat) (f : Nat → Option Nat) (g : Nat → Int32) (tx ps bs : Nat → Nat) : Prop := la ∈ ZL R.S ∧ ZF S0 la = .inl (R.K.1 9, cap, .inr (.inr (.inr (.inr f)))) ∧ (z = 1 → sa ∈ ZL R.S ∧ ZF S0 sa = .inl (R.K.1 0, cap, .inl g)) ∧ mn ≤ cap ∧ (∀ i : Nat, i < mn → ∃ y p' s' : Nat, f i = some y ∧ ps i < p' ∧ xE R S0 Γ n k2 y p' (ps (i + 1)) (bs i) (bs (i + 1)) (tx i) ∧ g i = nI s' ∧ (z = 1 → ps i ≤ s' ∧ s' < p')) ∧ (∀ i j : Nat, i ≤ j → j ≤ mn → ps i + (j - i) ≤ ps j ∧ bs i ≤ bs j)
/-- a chain being laid: pe where its ands and ors stand -/
def CHI (R : yR) (S0 S1 S : Sg) (E : eV) (P1 Pi hh : Nat) (Γ2 : List Nat) (L1 Li : Nat) (sA sB yD : List tE) (a mn i : Nat) (pe : Nat → Nat) (z n : Nat) : Prop :=
  GVo R S0 S1 S E P1 Pi hh Γ2 L1 Li sA sB (fun k => k ≠ 0 ∧ ∃ j : Nat, pe j = k) yD False False z n ∧ (∃ fe : Nat → Int32, PVc R S0 S P1 Pi a mn fe ∧ ∀ j : Nat, j < mn → fe j = nI (pe j)) ∧ a ∉ ZL S1 ∧ (∀ j : Nat, pe j ≠ 0 → j < i ∧ P1 ≤ pe j ∧ pe j < Pi ∧ Zr S 30 (pe j) = -1 ∧ (Zr S 27 (pe j) = 18 ∨ Zr S 27 (pe j) = 19)) ∧ (∀ j k : Nat, pe j = pe k → pe j ≠ 0 → j = k)
/-- .. i members of it are laid -/
def ChS (R : yR) (S0 S1 : Sg) (E : eV) (P1 : Nat) (Γ2 : List Nat) (L1 : Nat) (s sA yD : List tE) (a mn : Nat) (ps bs : Nat → Nat) (S : Sg) (i : Nat) : Prop := ∃ (Pi Li t z n : Nat) (pe : Nat → Nat), (t = 1 ∨ t = 2) ∧ CHI R S0 S1 S E P1 Pi (wl s + 1) Γ2 L1 Li sA ((0, t, 0) :: s) yD a mn i pe z n ∧ K0 S Pi ∧ (i = 0 ∨ P1 < Pi) ∧ Pi + ps 0 ≤ P1 + ps i ∧ z + 5 * i ≤ 1 + 5 * (ps i - ps 0) ∧ n + 40 * i ≤ mn + 40 * (ps i - ps 0) ∧ Li + bs 0 ≤ L1 + bs i
section LY20
variable {R : yR} {S0 Sb S S1 S2 : Sg} {P P1 P2 Pi h h0 h1 h2 L L1 L2 Lb Li z n z2 n2 : Nat} {Γ Γ0 Γ1 Γ2 : List Nat} {x : pRc} {E : eV} {s s1 s2 sA sB yD : List tE} {α : Type} {D D2 : Nat → Prop} {cl cl2 cD cD2 : Prop} {a m i mn : Nat} {f f2 : Nat → Int32} {pe : Nat → Nat} {V : Sg → Option Nat → Option (Sg × Unit)}
theorem GVo.hh {h3 : Nat} (g : GVo R S0 S S2 E P P2 h2 Γ2 L L2 s s2 D yD cl cD z n) : GVo R S0 S (Ui S2 48 (nI h3)) E P P2 h3 Γ2 L L2 s s2 D yD cl cD z n := ⟨g.1.hh, g.2.1.tr (LZ.ui (Or.inr (Or.inr (Or.inl rfl)))) (Nat.le_refl _) (Nat.le_refl _), g.2.2.1.st (LZ.ui (Or.inr (Or.inr (Or.inl rfl)))), g.2.2.2.1, g.2.2.2.2.1, g.2.2.2.2.2.1, g.2.2.2.2.2.2.1, g.2.2.2.2.2.2.2⟩
theorem K0.gvo (k : K0 S P) (g : GVo R S0 S S2 E P P2 h2 Γ2 L L2 s s2 D yD cl cD z n) : K0 S2 P2 := k.st g.2.1 g.2.2.2.2.2.1
/-- more code behind the chain so far -/
theorem CHI.tr (q : CHI R S0 S1 S E P1 Pi h1 Γ1 L1 Li sA s1 yD a mn i pe z n) (g : GVo R S0 S S2 E Pi P2 h2 Γ2 Li L2 s1 s2 (fun _ => False) yD cl False z2 n2) : CHI R S0 S1 S2 E P1 P2 h2 Γ2 L1 L2 sA s2 yD a mn i pe (z + z2) (n + n2) := by
  obtain ⟨q1, ⟨fe, q2, q3⟩, q4, q5, q6⟩ := q
  refine ⟨(q1.tr g).mo (fun k => ⟨fun w => Or.inl w, fun w => w.elim id (fun w => w.elim)⟩) (fun w => w.elim) (fun w => w.elim) (Nat.le_refl _) (Nat.le_refl _), ⟨fe, q2.gv g, q3⟩, q4, fun j hj => ?_, q6⟩
  obtain ⟨j1, j2, j3, j4, j5⟩ := q5 j hj
  have hr := (g.2.1.2.1 (pe j) j3).1
  rw [hr 30 (by decide) (by decide), hr 27 (by decide) (by decide)]
  exact ⟨j1, j2, by have := g.2.2.2.2.2.1; omega, j4, j5⟩
/-- an and, an or: its jump is kept in the chain's row -/
theorem CHI.jn {K pp t : Nat} {f0 : Nat → Int32} (hK : K = 18 ∨ K = 19) (ht : t = 1 ∨ t = 2) (hy : ∀ u : Nat, u = 1 ∨ u = 2 → wkS ((0, u, 0) :: s) yD) (hi : i < mn) (k0 : K0 S Pi) (q : CHI R S0 S1 S E P1 Pi (wl s + 1) Γ2 L1 Li sA ((0, t, 0) :: s) yD a mn i pe z n) (p : LPt R S0 S S2 Pi (wl s + 1) Γ2 Li Li (ptRc (nI K) (nI pp)) 0 0) (hpp : pp < R.T) (hw : wl s + 1 ≤ 177) (hf : ZF S2 a = .inl (R.K.1 0, mn, .inl f0)) : CHI R S0 S1 (Ui (UF S2 a (.inl (R.K.1 0, mn, .inl (upd f0 i (nI Pi))))) 48 (nI (wl s))) E P1 (Pi + 1) (wl s) Γ2 L1 Li sA s yD a mn (i + 1) (fun j => if j = i then Pi else pe j) z n := by
  obtain ⟨q1, ⟨fe, q2, q3⟩, q4, q5, q6⟩ := q
  have hws : wl ((0, t, 0) :: s) = wl s + 1 := wl_n (by show ¬ ((0 : Nat) = 8 ∨ (0 : Nat) = 4 ∨ (0 : Nat) = 5 ∨ (0 : Nat) = 6); decide)
  have g1 : GVo R S0 S S2 E Pi (Pi + 1) (wl s + 1) Γ2 Li Li ((0, t, 0) :: s) s (fun k => k = Pi) yD False False 0 0 := by
    refine gvj (K := K) (pp := pp) (Or.inr ⟨by omega, fun w => w.elim⟩) p pl0_o hpp (by omega) (fun T _ _ => ?_)
    rcases hK with e | e <;> subst e
    · exact tP_18 rfl ⟨iD0_0, t, T, s, ht, rfl, rfl, Or.inr ⟨rfl, wkS.rf⟩, Or.inl ⟨rfl, hy t ht⟩⟩
    · exact tP_19 rfl ⟨iD0_0, t, T, s, ht, rfl, rfl, Or.inr ⟨rfl, wkS.rf⟩, Or.inl ⟨rfl, hy t ht⟩⟩
  have v1 := q2.gv g1
  have e0 : f0 = fe := by have := v1.2.1; rw [hf] at this; cases this; rfl
  subst e0
  have hp0 : pe i = 0 := by
    by_cases e : pe i = 0
    · exact e
    · have := (q5 i e).1; omega
  have hPi : Pi ≠ 0 := by have := k0.1; omega
  have hd : ∀ k : Nat, (k ≠ 0 ∧ ∃ j : Nat, (if j = i then Pi else pe j) = k) ↔ ((k ≠ 0 ∧ ∃ j : Nat, pe j = k) ∨ k = Pi) := fun k => by
    constructor
    · rintro ⟨w1, j, w2⟩
      by_cases e : j = i
      · rw [if_pos e] at w2; exact Or.inr w2.symm
      · rw [if_neg e] at w2; exact Or.inl ⟨w1, j, w2⟩
    · rintro (⟨w1, j, w2⟩ | w)
      · refine ⟨w1, j, ?_⟩
        by_cases e : j = i
        · subst e; exact absurd (w2.symm.trans hp0) w1
        · rw [if_neg e]; exact w2
      · subst w; exact ⟨hPi, i, if_pos rfl⟩
  refine ⟨?_, ⟨upd f0 i (nI Pi), ?_, fun j hj => ?_⟩, q4, fun j hj => ?_, fun j k e hj => ?_⟩
  · exact GVo.hh (GVo.uF ((q1.tr g1).mo hd (fun w => w.elim) (fun w => w.elim) (Nat.le_refl _) (Nat.le_refl _)) v1 q4)
  · exact PVc.uF v1
  · show upd f0 i (nI Pi) j = nI (if j = i then Pi else pe j)
    by_cases e : j = i
    · rw [if_pos e, e, upd_s]
    · rw [if_neg e, upd_n e]; exact q3 j hj
  · have hr : ∀ k : Nat, k < Pi → ∀ r : Nat, 27 ≤ r → r ≤ 35 → Zr S2 r k = Zr S r k := fun k hk => (g1.2.1.2.1 k hk).1
    have hj : (if j = i then Pi else pe j) ≠ 0 := hj
    show j < i + 1 ∧ P1 ≤ (if j = i then Pi else pe j) ∧ (if j = i then Pi else pe j) < Pi + 1 ∧ Zr S2 30 (if j = i then Pi else pe j) = -1 ∧ (Zr S2 27 (if j = i then Pi else pe j) = 18 ∨ Zr S2 27 (if j = i then Pi else pe j) = 19)
    by_cases e : j = i
    · rw [if_pos e]
      refine ⟨by omega, q1.2.2.2.2.2.1, by omega, p.2.2.1.1 30 (by decide) (by decide) (by decide), ?_⟩
      rw [p.2.2.1.1 27 (by decide) (by decide) (by decide)]
      rcases hK with e2 | e2 <;> subst e2
      · exact Or.inl rfl
      · exact Or.inr rfl
    · rw [if_neg e] at hj ⊢
      obtain ⟨j1, j2, j3, j4, j5⟩ := q5 j hj
      rw [hr _ j3 30 (by decide) (by decide), hr _ j3 27 (by decide) (by decide)]
      exact ⟨by omega, j2, by omega, j4, j5⟩
  · have e : (if j = i then Pi else pe j) = (if k = i then Pi else pe k) := e
    have hj : (if j = i then Pi else pe j) ≠ 0 := hj
    by_cases e1 : j = i
    · by_cases e2 : k = i
      · omega
      · rw [if_pos e1, if_neg e2] at e
        have := (q5 k (by omega)).2.2.1
        omega
    · by_cases e2 : k = i
      · rw [if_neg e1] at hj
        rw [if_neg e1, if_pos e2] at e
        have := (q5 j hj).2.2.1
        omega
      · rw [if_neg e1] at hj
        rw [if_neg e1, if_neg e2] at e
        exact q6 j k e hj
theorem CHI.mo {i2 : Nat} (q : CHI R S0 S1 S E P1 Pi h1 Γ1 L1 Li sA s1 yD a mn i pe z n) (hi : i ≤ i2) : CHI R S0 S1 S E P1 Pi h1 Γ1 L1 Li sA s1 yD a mn i2 pe z n := ⟨q.1, q.2.1, q.2.2.1, fun j hj => ⟨by have := (q.2.2.2.1 j hj).1; omega, (q.2.2.2.1 j hj).2⟩, q.2.2.2.2⟩
/-- the jumps of the chain are set -/
theorem gch148 {e la sa z1 n1 : Nat} {pe : Nat → Nat} {p o x : Nat} {fe : Nat → Int32} (hy : wkS yD sB) (hm : mn ≤ 3001) (he : e ∈ ZL R.S) (hL : RIn R S0) (hF : ZF S0 e = xtC 8 p 0 0 0 0 0 0 (.ref o) (.ref la) (.ref sa) mn (.ref x) .null) (hP2 : P2 < 24000) (hq6 : ∀ j k : Nat, pe j = pe k → pe j ≠ 0 → j = k) : ∀ (m i : Nat) (S : Sg), mn < i + m → i ≤ mn → GVo R S0 S1 S E P1 P2 h2 Γ2 L1 L2 sA sB (fun k => k ≠ 0 ∧ ∃ j : Nat, i ≤ j ∧ pe j = k) yD False False z1 n1 → (a ∈ ZL S ∧ ZF S a = .inl (R.K.1 0, mn, .inl fe)) → (∀ j : Nat, j < mn → fe j = nI (pe j)) → (∀ j : Nat, pe j ≠ 0 → j < mn ∧ P1 ≤ pe j ∧ pe j < P2 ∧ (i ≤ j → Zr S 30 (pe j) = -1) ∧ (Zr S 27 (pe j) = 18 ∨ Zr S 27 (pe j) = 19)) → K0 S P2 → Rt (f_giveChain_148 R.K V m S (some e) (some a) (nI i)) (fun S2 _ => GV R S0 S1 S2 E P1 P2 h h2 Γ Γ2 L1 L2 sA sB False z1 n1)
  | 0, i, S, hm1, hi, _, _, _, _, _ => by omega
  | m + 1, i, S, hm1, hi, g, ha, h3, h4, k0 => by
    unfold f_giveChain_148
    refine Rt.bd (g.1.1.vi (by decide) (by decide) (oI_mk (hL e he) hF (v := nI mn) rfl)) (Rt.it (fun w => ?_) (fun w => ?_))
    · have hmi : mn ≤ i := (nI_leI (by omega) (by omega)).mp w
      refine Rt.rt (g.cls (fun k hk => ?_))
      obtain ⟨hk0, j, hj, hjk⟩ := hk
      have := (h4 j (by omega)).1
      omega
    · have hmi : i < mn := by
        by_cases q : i < mn
        · exact q
        · exact absurd (nI_le (a := mn) (b := i) (by omega) (by omega)) w
      have hai : aI R.K S (some a) (nI i) = some (nI (pe i)) := by rw [aI_j ha.1 ha.2 hmi (by omega), h3 i hmi]
      have hnx : ∀ S' : Sg, GVo R S0 S1 S' E P1 P2 h2 Γ2 L1 L2 sA sB (fun k => k ≠ 0 ∧ ∃ j : Nat, i + 1 ≤ j ∧ pe j = k) yD False False z1 n1 → (a ∈ ZL S' ∧ ZF S' a = .inl (R.K.1 0, mn, .inl fe)) → (∀ j : Nat, pe j ≠ 0 → j < mn ∧ P1 ≤ pe j ∧ pe j < P2 ∧ (i + 1 ≤ j → Zr S' 30 (pe j) = -1) ∧ (Zr S' 27 (pe j) = 18 ∨ Zr S' 27 (pe j) = 19)) → K0 S' P2 → Rt (f_giveChain_216 R.K V ((f_giveChain_148 R.K V m)) S' (some e) (some a) (nI i)) (fun S2 _ => GV R S0 S1 S2 E P1 P2 h h2 Γ Γ2 L1 L2 sA sB False z1 n1) := fun S' g' a' h4' k0' => by
        unfold f_giveChain_216
        rw [nI_1]
        exact gch148 hy hm he hL hF hP2 hq6 m (i + 1) S' (by omega) (by omega) g' a' h3 h4' k0'
      by_cases e0 : pe i = 0
      · have hr : rI S 27 (nI (pe i)) = some (Zr S 27 0) := by rw [e0]; exact rI_n (show 0 < rlen 27 by decide) (by decide)
        refine Rt.bd hai (Rt.bd hr (Rt.iq k0.2.1 (Rt.bd hai (Rt.bd hr (Rt.iq k0.2.2 (hnx S ?_ ha (fun j hj => ?_) k0))))))
        · refine g.mo (fun k => ⟨fun ⟨w1, j, w2, w3⟩ => ⟨w1, j, by omega, w3⟩, fun ⟨w1, j, w2, w3⟩ => ⟨w1, j, ?_, w3⟩⟩) id id (Nat.le_refl _) (Nat.le_refl _)
          by_cases ej : j = i
          · subst ej; exact absurd (w3.symm.trans e0) w1
          · omega
        · obtain ⟨j1, j2, j3, j4, j5⟩ := h4 j hj
          exact ⟨j1, j2, j3, fun w => j4 (by omega), j5⟩
      · obtain ⟨j1, j2, j3, j4, j5⟩ := h4 i e0
        have j4 := j4 (Nat.le_refl _)
        have hr : rI S 27 (nI (pe i)) = some (Zr S 27 (pe i)) := rI_n (show pe i < rlen 27 from by show _ < 24000; omega) (by decide)
        have hr30 : rI S 30 (nI (pe i)) = some (-1) := by rw [rI_n (show pe i < rlen 30 from by show _ < 24000; omega) (by decide), j4]
        have h182 : Rt (f_giveChain_182 R.K V ((f_giveChain_148 R.K V m)) S (some e) (some a) (nI i)) (fun S2 _ => GV R S0 S1 S2 E P1 P2 h h2 Γ Γ2 L1 L2 sA sB False z1 n1) := by
          unfold f_giveChain_182
          refine Rt.bd hai (Rt.bd hai (Rt.bd hr30 (Rt.iq (by decide) ?_)))
          unfold f_giveChain_215
          rw [g.1.2.1]
          refine Rt.bd (wRI_n (show pe i < rlen 30 from by show _ < 24000; omega) (by decide)) (hnx _ ?_ ha (fun j hj => ?_) ?_)
          · refine (g.pj (k := pe i) ⟨e0, i, Nat.le_refl _, rfl⟩ hy hP2).mo (fun k => ⟨fun ⟨w1, j, w2, w3⟩ => ⟨⟨w1, j, by omega, w3⟩, fun w => ?_⟩, fun ⟨⟨w1, j, w2, w3⟩, w4⟩ => ⟨w1, j, ?_, w3⟩⟩) (fun w => w.elim) id (Nat.le_refl _) (Nat.le_refl _)
            · have := hq6 i j (w.symm.trans w3.symm) e0; omega
            · by_cases ej : j = i
              · subst ej; exact absurd w3.symm w4
              · omega
          · obtain ⟨i1, i2, i3, i4, i5⟩ := h4 j hj
            refine ⟨i1, i2, i3, fun w => ?_, i5⟩
            rw [Zr_us, upd_n (fun e => by have := hq6 j i e hj; omega)]
            exact i4 (by omega)
          · exact k0
        refine Rt.bd hai (Rt.bd hr (Rt.it (fun _ => h182) (fun w => Rt.bd hai (Rt.bd hr (Rt.it (fun _ => h182) (fun w2 => ?_))))))
        exact absurd j5 (fun w3 => w3.elim w w2)
end LY20
