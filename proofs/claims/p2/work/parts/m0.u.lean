-- m0.u.lean.txt
section
/-- exps in a row: what is known of each -/
def CHx (R : yR) (S0 : Sg) (Γ : List Nat) (n k2 z la sa mn cap : Nat) (f : Nat → Option Nat) (g : Nat → Int32) (tx ps bs : Nat → Nat) : Prop := la ∈ ZL R.S ∧ ZF S0 la = .inl (R.K.1 9, cap, .inr (.inr (.inr (.inr f)))) ∧ (z = 1 → sa ∈ ZL R.S ∧ ZF S0 sa = .inl (R.K.1 0, cap, .inl g)) ∧ mn ≤ cap ∧ (∀ i : Nat, i < mn → ∃ y p' s' : Nat, f i = some y ∧ ps i < p' ∧ xE R S0 Γ n k2 y p' (ps (i + 1)) (bs i) (bs (i + 1)) (tx i) ∧ g i = nI s' ∧ (z = 1 → ps i ≤ s' ∧ s' < p')) ∧ (∀ i j : Nat, i ≤ j → j ≤ mn → ps i + (j - i) ≤ ps j ∧ bs i ≤ bs j)
/-- a chain being laid: pe where its ands and ors stand -/
def CHI (R : yR) (S0 S1 S : Sg) (E : eV) (P1 Pi hh : Nat) (Γ2 : List Nat) (L1 Li : Nat) (sA sB yD : List tE) (a mn i : Nat) (pe : Nat → Nat) (z n : Nat) : Prop :=
  GVo R S0 S1 S E P1 Pi hh Γ2 L1 Li sA sB (fun k => k ≠ 0 ∧ ∃ j : Nat, pe j = k) yD False False z n ∧ (∃ fe : Nat → Int32, PVc R S0 S P1 Pi a mn fe ∧ ∀ j : Nat, j < mn → fe j = nI (pe j)) ∧ a ∉ ZL S1 ∧ (∀ j : Nat, pe j ≠ 0 → j < i ∧ P1 ≤ pe j ∧ pe j < Pi ∧ Zr S 30 (pe j) = -1 ∧ (Zr S 27 (pe j) = 18 ∨ Zr S 27 (pe j) = 19)) ∧ (∀ j k : Nat, pe j = pe k → pe j ≠ 0 → j = k)
/-- .. i members of it are laid -/
def ChS (R : yR) (S0 S1 : Sg) (E : eV) (P1 : Nat) (Γ2 : List Nat) (L1 : Nat) (s sA yD : List tE) (a mn : Nat) (ps bs : Nat → Nat) (S : Sg) (i : Nat) : Prop := ∃ (Pi Li t z n : Nat) (pe : Nat → Nat), (t = 1 ∨ t = 2) ∧ CHI R S0 S1 S E P1 Pi (wl s + 1) Γ2 L1 Li sA ((0, t, 0) :: s) yD a mn i pe z n ∧ K0 S Pi ∧ (i = 0 ∨ P1 < Pi) ∧ Pi + ps 0 ≤ P1 + ps i ∧ z + 5 * i ≤ 1 + 5 * (ps i - ps 0) ∧ n + 40 * i ≤ mn + 40 * (ps i - ps 0) ∧ Li + bs 0 ≤ L1 + bs i
section LY20
variable {R : yR} {S0 Sb S S1 S2 : Sg} {P P1 P2 Pi h h0 h1 h2 L L1 L2 Lb Li z n z2 n2 : Nat} {Γ Γ0 Γ1 Γ2 : List Nat} {x : pRc} {E : eV} {s s1 s2 sA sB yD : List tE} {α : Type} {D D2 : Nat → Prop} {cl cl2 cD cD2 : Prop} {a m i mn : Nat} {f f2 : Nat → Int32} {pe : Nat → Nat} {V : Sg → Option Nat → Option (Sg × Unit)}
theorem GVo.hh {h3 : Nat} (g : GVo R S0 S S2 E P P2 h2 Γ2 L L2 s s2 D yD cl cD z n) : GVo R S0 S (Ui S2 48 (nI h3)) E P P2 h3 Γ2 L L2 s s2 D yD cl cD z n := ⟨g.1.hh, g.2.1.tr (LZ.ui (Or.inr (Or.inr (Or.inl rfl)))) (Nat.le_refl _) (Nat.le_refl _), g.2.2.1.st (LZ.ui (Or.inr (Or.inr (Or.inl rfl)))), g.2.2.2.1, g.2.2.2.2.1, g.2.2.2.2.2.1, g.2.2.2.2.2.2.1, g.2.2.2.2.2.2.2⟩
theorem K0.gvo (k : K0 S P) (g : GVo R S0 S S2 E P P2 h2 Γ2 L L2 s s2 D yD cl cD z n) : K0 S2 P2 := k.st g.2.1 g.2.2.2.2.2.1
/-- more code behind the chain so far -/
theorem CHI.tr (q : CHI R S0 S1 S E P1 Pi h1 Γ1 L1 Li sA s1 yD a mn i pe z n) (g : GVo R S0 S S2 E Pi P2 h2 Γ2 Li L2 s1 s2 (fun _ => False) yD cl False z2 n2) : CHI R S0 S1 S2 E P1 P2 h2 Γ2 L1 L2 sA s2 yD a mn i pe (z + z2) (n + n2) := by
  obtain ⟨q1, ⟨fe, q2, q3⟩, q4, q5, q6⟩ := q
  refine ⟨(q1.tr g).mo (fun k => ⟨fun w => Or.inl w, fun w => w.elim id (fun w => w.elim)⟩) (fun w => w.elim) (fun w => w.elim) (Nat.le_refl _) (Nat.le_refl _), ⟨fe, q2.gv g, q3⟩, q4, fun j hj => ?_, q6⟩
  obtain ⟨j1, j2, j3, j4, j5⟩ := q5 j hj
  have hr := (g.2.1.2.1 (pe j) j3).1
  rw [hr 30 (by decide) (by decide), hr 27 (by decide) (by decide)]
  exact ⟨j1, j2, by have := g.2.2.2.2.2.1; omega, j4, j5⟩
/-- an and, an or: its jump is kept in the chain's row -/
theorem CHI.jn {K pp t : Nat} {f0 : Nat → Int32} (hK : K = 18 ∨ K = 19) (ht : t = 1 ∨ t = 2) (hy : ∀ u : Nat, u = 1 ∨ u = 2 → wkS ((0, u, 0) :: s) yD) (hi : i < mn) (k0 : K0 S Pi) (q : CHI R S0 S1 S E P1 Pi (wl s + 1) Γ2 L1 Li sA ((0, t, 0) :: s) yD a mn i pe z n) (p : LPt R S0 S S2 Pi (wl s + 1) Γ2 Li Li (ptRc (nI K) (nI pp)) 0 0) (hpp : pp < R.T) (hw : wl s + 1 ≤ 177) (hf : ZF S2 a = .inl (R.K.1 0, mn, .inl f0)) : CHI R S0 S1 (Ui (UF S2 a (.inl (R.K.1 0, mn, .inl (upd f0 i (nI Pi))))) 48 (nI (wl s))) E P1 (Pi + 1) (wl s) Γ2 L1 Li sA s yD a mn (i + 1) (fun j => if j = i then Pi else pe j) z n := by
  obtain ⟨q1, ⟨fe, q2, q3⟩, q4, q5, q6⟩ := q
  have hws : wl ((0, t, 0) :: s) = wl s + 1 := wl_n (by show ¬ ((0 : Nat) = 8 ∨ (0 : Nat) = 4 ∨ (0 : Nat) = 5 ∨ (0 : Nat) = 6); decide)
  have g1 : GVo R S0 S S2 E Pi (Pi + 1) (wl s + 1) Γ2 Li Li ((0, t, 0) :: s) s (fun k => k = Pi) yD False False 0 0 := by
    refine gvj (K := K) (pp := pp) (Or.inr ⟨by omega, fun w => w.elim⟩) p pl0_o hpp (by omega) (fun T _ _ => ?_)
    rcases hK with e | e <;> subst e
    · exact tP_18 rfl ⟨iD0_0, t, T, s, ht, rfl, rfl, Or.inr ⟨rfl, wkS.rf⟩, Or.inl ⟨rfl, hy t ht⟩⟩
    · exact tP_19 rfl ⟨iD0_0, t, T, s, ht, rfl, rfl, Or.inr ⟨rfl, wkS.rf⟩, Or.inl ⟨rfl, hy t ht⟩⟩
  have v1 := q2.gv g1
  have e0 : f0 = fe := by have := v1.2.1; rw [hf] at this; cases this; rfl
  subst e0
  have hp0 : pe i = 0 := by
    by_cases e : pe i = 0
    · exact e
    · have := (q5 i e).1; omega
  have hPi : Pi ≠ 0 := by have := k0.1; omega
  have hd : ∀ k : Nat, (k ≠ 0 ∧ ∃ j : Nat, (if j = i then Pi else pe j) = k) ↔ ((k ≠ 0 ∧ ∃ j : Nat, pe j = k) ∨ k = Pi) := fun k => by
    constructor
    · rintro ⟨w1, j, w2⟩
      by_cases e : j = i
      · rw [if_pos e] at w2; exact Or.inr w2.symm
      · rw [if_neg e] at w2; exact Or.inl ⟨w1, j, w2⟩
    · rintro (⟨w1, j, w2⟩ | w)
      · refine ⟨w1, j, ?_⟩
        by_cases e : j = i
        · subst e; exact absurd (w2.symm.trans hp0) w1
        · rw [if_neg e]; exact w2
      · subst w; exact ⟨hPi, i, if_pos rfl⟩
  refine ⟨?_, ⟨upd f0 i (nI Pi), ?_, fun j hj => ?_⟩, q4, fun j hj => ?_, fun j k e hj => ?_⟩
  · exact GVo.hh (GVo.uF ((q1.tr g1).mo hd (fun w => w.elim) (fun w => w.elim) (Nat.le_refl _) (Nat.le_refl _)) v1 q4)
  · exact PVc.uF v1
  · show upd f0 i (nI Pi) j = nI (if j = i then Pi else pe j)
    by_cases e : j = i
    · rw [if_pos e, e, upd_s]
    · rw [if_neg e, upd_n e]; exact q3 j hj
  · have hr : ∀ k : Nat, k < Pi → ∀ r : Nat, 27 ≤ r → r ≤ 35 → Zr S2 r k = Zr S r k := fun k hk => (g1.2.1.2.1 k hk).1
    have hj : (if j = i then Pi else pe j) ≠ 0 := hj
    show j < i + 1 ∧ P1 ≤ (if j = i then Pi else pe j) ∧ (if j = i then Pi else pe j) < Pi + 1 ∧ Zr S2 30 (if j = i then Pi else pe j) = -1 ∧ (Zr S2 27 (if j = i then Pi else pe j) = 18 ∨ Zr S2 27 (if j = i then Pi else pe j) = 19)
    by_cases e : j = i
    · rw [if_pos e]
      refine ⟨by omega, q1.2.2.2.2.2.1, by omega, p.2.2.1.1 30 (by decide) (by decide) (by decide), ?_⟩
      rw [p.2.2.1.1 27 (by decide) (by decide) (by decide)]
      rcases hK with e2 | e2 <;> subst e2
      · exact Or.inl rfl
      · exact Or.inr rfl
    · rw [if_neg e] at hj ⊢
      obtain ⟨j1, j2, j3, j4, j5⟩ := q5 j hj
      rw [hr _ j3 30 (by decide) (by decide), hr _ j3 27 (by decide) (by decide)]
      exact ⟨by omega, j2, by omega, j4, j5⟩
  · have e : (if j = i then Pi else pe j) = (if k = i then Pi else pe k) := e
    have hj : (if j = i then Pi else pe j) ≠ 0 := hj
    by_cases e1 : j = i
    · by_cases e2 : k = i
      · omega
      · rw [if_pos e1, if_neg e2] at e
        have := (q5 k (by omega)).2.2.1
        omega
    · by_cases e2 : k = i
      · rw [if_neg e1] at hj
        rw [if_neg e1, if_pos e2] at e
        have := (q5 j hj).2.2.1
        omega
      · rw [if_neg e1] at hj
        rw [if_neg e1, if_neg e2] at e
        exact q6 j k e hj
theorem CHI.mo {i2 : Nat} (q : CHI R S0 S1 S E P1 Pi h1 Γ1 L1 Li sA s1 yD a mn i pe z n) (hi : i ≤ i2) : CHI R S0 S1 S E P1 Pi h1 Γ1 L1 Li sA s1 yD a mn i2 pe z n := ⟨q.1, q.2.1, q.2.2.1, fun j hj => ⟨by have := (q.2.2.2.1 j hj).1; omega, (q.2.2.2.1 j hj).2⟩, q.2.2.2.2⟩
/-- the jumps of the chain are set -/
theorem gch148 {e la sa z1 n1 : Nat} {pe : Nat → Nat} {p o x : Nat} {fe : Nat → Int32} (hy : wkS yD sB) (hm : mn ≤ 3001) (he : e ∈ ZL R.S) (hL : RIn R S0) (hF : ZF S0 e = xtC 8 p 0 0 0 0 0 0 (.ref o) (.ref la) (.ref sa) mn (.ref x) .null) (hP2 : P2 < 24000) (hq6 : ∀ j k : Nat, pe j = pe k → pe j ≠ 0 → j = k) : ∀ (m i : Nat) (S : Sg), mn < i + m → i ≤ mn → GVo R S0 S1 S E P1 P2 h2 Γ2 L1 L2 sA sB (fun k => k ≠ 0 ∧ ∃ j : Nat, i ≤ j ∧ pe j = k) yD False False z1 n1 → (a ∈ ZL S ∧ ZF S a = .inl (R.K.1 0, mn, .inl fe)) → (∀ j : Nat, j < mn → fe j = nI (pe j)) → (∀ j : Nat, pe j ≠ 0 → j < mn ∧ P1 ≤ pe j ∧ pe j < P2 ∧ (i ≤ j → Zr S 30 (pe j) = -1) ∧ (Zr S 27 (pe j) = 18 ∨ Zr S 27 (pe j) = 19)) → K0 S P2 → Rt (f_giveChain_148 R.K V m S (some e) (some a) (nI i)) (fun S2 _ => GV R S0 S1 S2 E P1 P2 h h2 Γ Γ2 L1 L2 sA sB False z1 n1)
  | 0, i, S, hm1, hi, _, _, _, _, _ => by omega
  | m + 1, i, S, hm1, hi, g, ha, h3, h4, k0 => by
    unfold f_giveChain_148
    refine Rt.bd (g.1.1.vi (by decide) (by decide) (oI_mk (hL e he) hF (v := nI mn) rfl)) (Rt.it (fun w => ?_) (fun w => ?_))
    · have hmi : mn ≤ i := (nI_leI (by omega) (by omega)).mp w
      refine Rt.rt (g.cls (fun k hk => ?_))
      obtain ⟨hk0, j, hj, hjk⟩ := hk
      have := (h4 j (by omega)).1
      omega
    · have hmi : i < mn := by
        by_cases q : i < mn
        · exact q
        · exact absurd (nI_le (a := mn) (b := i) (by omega) (by omega)) w
      have hai : aI R.K S (some a) (nI i) = some (nI (pe i)) := by rw [aI_j ha.1 ha.2 hmi (by omega), h3 i hmi]
      have hnx : ∀ S' : Sg, GVo R S0 S1 S' E P1 P2 h2 Γ2 L1 L2 sA sB (fun k => k ≠ 0 ∧ ∃ j : Nat, i + 1 ≤ j ∧ pe j = k) yD False False z1 n1 → (a ∈ ZL S' ∧ ZF S' a = .inl (R.K.1 0, mn, .inl fe)) → (∀ j : Nat, pe j ≠ 0 → j < mn ∧ P1 ≤ pe j ∧ pe j < P2 ∧ (i + 1 ≤ j → Zr S' 30 (pe j) = -1) ∧ (Zr S' 27 (pe j) = 18 ∨ Zr S' 27 (pe j) = 19)) → K0 S' P2 → Rt (f_giveChain_216 R.K V ((f_giveChain_148 R.K V m)) S' (some e) (some a) (nI i)) (fun S2 _ => GV R S0 S1 S2 E P1 P2 h h2 Γ Γ2 L1 L2 sA sB False z1 n1) := fun S' g' a' h4' k0' => by
        unfold f_giveChain_216
        rw [nI_1]
        exact gch148 hy hm he hL hF hP2 hq6 m (i + 1) S' (by omega) (by omega) g' a' h3 h4' k0'
      by_cases e0 : pe i = 0
      · have hr : rI S 27 (nI (pe i)) = some (Zr S 27 0) := by rw [e0]; exact rI_n (show 0 < rlen 27 by decide) (by decide)
        refine Rt.bd hai (Rt.bd hr (Rt.iq k0.2.1 (Rt.bd hai (Rt.bd hr (Rt.iq k0.2.2 (hnx S ?_ ha (fun j hj => ?_) k0))))))
        · refine g.mo (fun k => ⟨fun ⟨w1, j, w2, w3⟩ => ⟨w1, j, by omega, w3⟩, fun ⟨w1, j, w2, w3⟩ => ⟨w1, j, ?_, w3⟩⟩) id id (Nat.le_refl _) (Nat.le_refl _)
          by_cases ej : j = i
          · subst ej; exact absurd (w3.symm.trans e0) w1
          · omega
        · obtain ⟨j1, j2, j3, j4, j5⟩ := h4 j hj
          exact ⟨j1, j2, j3, fun w => j4 (by omega), j5⟩
      · obtain ⟨j1, j2, j3, j4, j5⟩ := h4 i e0
        have j4 := j4 (Nat.le_refl _)
        have hr : rI S 27 (nI (pe i)) = some (Zr S 27 (pe i)) := rI_n (show pe i < rlen 27 from by show _ < 24000; omega) (by decide)
        have hr30 : rI S 30 (nI (pe i)) = some (-1) := by rw [rI_n (show pe i < rlen 30 from by show _ < 24000; omega) (by decide), j4]
        have h182 : Rt (f_giveChain_182 R.K V ((f_giveChain_148 R.K V m)) S (some e) (some a) (nI i)) (fun S2 _ => GV R S0 S1 S2 E P1 P2 h h2 Γ Γ2 L1 L2 sA sB False z1 n1) := by
          unfold f_giveChain_182
          refine Rt.bd hai (Rt.bd hai (Rt.bd hr30 (Rt.iq (by decide) ?_)))
          unfold f_giveChain_215
          rw [g.1.2.1]
          refine Rt.bd (wRI_n (show pe i < rlen 30 from by show _ < 24000; omega) (by decide)) (hnx _ ?_ ha (fun j hj => ?_) ?_)
          · refine (g.pj (k := pe i) ⟨e0, i, Nat.le_refl _, rfl⟩ hy hP2).mo (fun k => ⟨fun ⟨w1, j, w2, w3⟩ => ⟨⟨w1, j, by omega, w3⟩, fun w => ?_⟩, fun ⟨⟨w1, j, w2, w3⟩, w4⟩ => ⟨w1, j, ?_, w3⟩⟩) (fun w => w.elim) id (Nat.le_refl _) (Nat.le_refl _)
            · have := hq6 i j (w.symm.trans w3.symm) e0; omega
            · by_cases ej : j = i
              · subst ej; exact absurd w3.symm w4
              · omega
          · obtain ⟨i1, i2, i3, i4, i5⟩ := h4 j hj
            refine ⟨i1, i2, i3, fun w => ?_, i5⟩
            rw [Zr_us, upd_n (fun e => by have := hq6 j i e hj; omega)]
            exact i4 (by omega)
          · exact k0
        refine Rt.bd hai (Rt.bd hr (Rt.it (fun _ => h182) (fun w => Rt.bd hai (Rt.bd hr (Rt.it (fun _ => h182) (fun w2 => ?_))))))
        exact absurd j5 (fun w3 => w3.elim w w2)
end LY20
end
-- m0.v.lean.txt
section
section LY21
variable {R : yR} {S0 Sb S S1 S2 : Sg} {P P1 P2 Pi h h0 h1 h2 L L1 L2 Lb Li z n z2 n2 : Nat} {Γ Γ0 Γ1 Γ2 : List Nat} {E : eV} {s s1 s2 sA sB yD : List tE} {α : Type} {a m i mn : Nat} {pe : Nat → Nat} {V : Sg → Option Nat → Option (Sg × Unit)}
theorem wl_0t {t : Nat} : wl ((0, t, 0) :: s) = wl s + 1 := wl_n (by show ¬ ((0 : Nat) = 8 ∨ (0 : Nat) = 4 ∨ (0 : Nat) = 5 ∨ (0 : Nat) = 6); decide)
theorem wkS_t {t u : Nat} (ht : t = 1 ∨ t = 2) (hu : u = 1 ∨ u = 2) : wkS ((0, t, 0) :: s) ((0, u, 0) :: s) := ⟨Or.inr ⟨u, by omega, rfl, Or.inl ⟨t, by omega, rfl⟩⟩, wkS.rf⟩
theorem CHI.rm (q : CHI R S0 S1 S E P1 Pi h1 Γ1 L1 Li sA s1 yD a mn i pe z n) (r : RMl R S1 z2 n2) {z3 n3 : Nat} (hz : z + z3 ≤ z2) (hn : n + n3 ≤ n2) : RMl R S z3 n3 := ⟨by have := q.1.2.2.2.1; have := r.1; omega, by have := q.1.2.2.2.2.1; have := r.2; omega⟩
/-- the members of a chain are laid, then its jumps set -/
theorem gch17 {e la sa cap p o x k2 tf : Nat} {f : Nat → Option Nat} {g : Nat → Int32} {tx ps bs : Nat → Nat} (hN : EN R S0 E) (hV : GvV R S0 E Γ V n) (he : e ∈ ZL R.S) (hF : ZF S0 e = xtC 8 p 0 0 0 0 0 0 (.ref o) (.ref la) (.ref sa) mn (.ref x) .null) (hX : CHx R S0 Γ n k2 1 la sa mn cap f g tx ps bs) (hm1 : 1 ≤ mn) (htx : ∀ i : Nat, i < mn → ∃ t : Nat, (t = 1 ∨ t = 2) ∧ resE S0 (tx i) = [(0, t, 0)]) (htf : tf = 1 ∨ tf = 2) (hA : ALv S0 E Γ s) (hh : wl s + 1 + 11 * k2 + 1 ≤ 177) (hT : ps mn ≤ R.T) (hP : P1 + (ps mn - ps 0) < 24000) (hl : L1 + bs mn ≤ 160 + bs 0) (hr : RMl R S1 (5 * (ps mn - ps 0)) (40 * (ps mn - ps 0))) : ∀ (m i : Nat) (S : Sg), mn < i + m → i ≤ mn → ChS R S0 S1 E P1 Γ2 L1 s sA ((0, tf, 0) :: s) a mn ps bs S i → Rt (f_giveChain_17 R.K V m S (some e) (some a) (nI i)) (fun S2 _ => ∃ P2 L2 : Nat, GV R S0 S1 S2 E P1 P2 h (wl s + 1) Γ0 Γ2 L1 L2 sA ((0, tf, 0) :: s) False (5 * (ps mn - ps 0)) (40 * (ps mn - ps 0)) ∧ P1 < P2 ∧ P2 + ps 0 ≤ P1 + ps mn ∧ L2 + bs 0 ≤ L1 + bs mn)
  | 0, i, S, hmm, hi, _ => by omega
  | m + 1, i, S, hmm, hi, hC => by
    have hL := hN.1
    have hT3 : R.T ≤ 3001 := hN.2.2.2.2.2.2.2.2.2.1
    obtain ⟨hla, hl1, hsa, hcap, hel, hmo⟩ := hX
    obtain ⟨hsa, hl2⟩ := hsa rfl
    have hmn : mn ≤ 3001 := by have := (hmo 0 mn (Nat.zero_le _) (Nat.le_refl _)).1; omega
    obtain ⟨Pi, Li, t, z, n', pe, ht, q, k0, q1, q2, q3, q4, q5⟩ := hC
    have hLC := q.1.1
    unfold f_giveChain_17
    refine Rt.bd (hLC.1.vi (by decide) (by decide) (oI_mk (hL e he) hF (v := nI mn) rfl)) (Rt.it (fun w => ?_) (fun w => ?_))
    · have hmi : i = mn := by have := (nI_leI (a := mn) (b := i) (by omega) (by omega)).mp w; omega
      subst hmi
      have hPi : P1 < Pi := by omega
      obtain ⟨c1, ⟨fe, c2, c3⟩, c4, c5, c6⟩ := q
      have g1 := (c1.wk wkS.rf (wkS_t ht htf) hPi).mo (D2 := fun k => k ≠ 0 ∧ ∃ j : Nat, 0 ≤ j ∧ pe j = k) (z2 := 5 * (ps i - ps 0)) (n2 := 40 * (ps i - ps 0)) (fun k => ⟨fun ⟨w1, j, _, w2⟩ => ⟨w1, j, w2⟩, fun ⟨w1, j, w2⟩ => ⟨w1, j, Nat.zero_le _, w2⟩⟩) id id (by omega) (by omega)
      refine (gch148 (h := h) (Γ := Γ0) (fe := fe) wkS.rf hmn he hL hF (by omega) c6 bigN 0 S (by unfold bigN; omega) (Nat.zero_le _) g1 ⟨c2.1, c2.2.1⟩ c3 (fun j hj => ?_) k0).mo (fun S2 _ g => ⟨Pi, Li, g, hPi, q2, q5⟩)
      obtain ⟨j1, j2, j3, j4, j5⟩ := c5 j hj
      exact ⟨j1, j2, j3, fun _ => j4, j5⟩
    · have hmi : i < mn := by
        by_cases w2 : i < mn
        · exact w2
        · exact absurd (nI_le (a := mn) (b := i) (by omega) (by omega)) w
      obtain ⟨y, p', s', f1, f2, f3, f4, f5⟩ := hel i hmi
      obtain ⟨f5, f6⟩ := f5 rfl
      have hlt := xE_lt f3
      have hbc := xE_bc f3
      have m1 := hmo (i + 1) mn (by omega) (Nat.le_refl _)
      have m2 := hmo 0 i (Nat.zero_le _) (by omega)
      obtain ⟨t2, ht2, hre⟩ := htx i hmi
      have rSa : ∀ S' : Sg, LX S0 S' → oR S' 15 (some e) 10 = some (some sa) ∧ aI R.K S' (some sa) (nI i) = some (nI s') := fun S' hx => by
        obtain ⟨r1, r2⟩ := hx.ro (hL sa hsa) hl2
        exact ⟨hx.vr (by decide) (by decide) (oR_mk (hL e he) hF (v := some sa) rfl), by rw [aI_j r1 r2 (by omega) (by omega), f4]⟩
      have rLa : ∀ S' : Sg, LX S0 S' → oR S' 15 (some e) 9 = some (some la) ∧ aQ R.K 9 S' (some la) (nI i) = some (some y) := fun S' hx => by
        obtain ⟨r1, r2⟩ := hx.ro (hL la hla) hl1
        exact ⟨hx.vr (by decide) (by decide) (oR_mk (hL e he) hF (v := some la) rfl), by rw [aQ_j r1 r2 (by omega) (by omega), f1]⟩
      have h140 : ∀ S' : Sg, ChS R S0 S1 E P1 Γ2 L1 s sA ((0, tf, 0) :: s) a mn ps bs S' (i + 1) → Rt (f_giveChain_140 R.K V ((f_giveChain_17 R.K V m)) S' (some e) (some a) (nI i)) (fun S2 _ => ∃ P2 L2 : Nat, GV R S0 S1 S2 E P1 P2 h (wl s + 1) Γ0 Γ2 L1 L2 sA ((0, tf, 0) :: s) False (5 * (ps mn - ps 0)) (40 * (ps mn - ps 0)) ∧ P1 < P2 ∧ P2 + ps 0 ≤ P1 + ps mn ∧ L2 + bs 0 ≤ L1 + bs mn) := fun S' c' => by
        unfold f_giveChain_140
        rw [nI_1]
        exact gch17 hN hV he hF ⟨hla, hl1, fun _ => ⟨hsa, hl2⟩, hcap, hel, hmo⟩ hm1 htx htf hA hh hT hP hl hr m (i + 1) S' (by omega) (by omega) c'
      have h69 : ∀ K : Nat, (K = 18 ∨ K = 19) → Rt (f_giveChain_69 R.K V ((f_giveChain_17 R.K V m)) S (some e) (some a) (nI i) (nI K) (nI i) (some a)) (fun S2 _ => ∃ P2 L2 : Nat, GV R S0 S1 S2 E P1 P2 h (wl s + 1) Γ0 Γ2 L1 L2 sA ((0, tf, 0) :: s) False (5 * (ps mn - ps 0)) (40 * (ps mn - ps 0)) ∧ P1 < P2 ∧ P2 + ps 0 ≤ P1 + ps mn ∧ L2 + bs 0 ≤ L1 + bs mn) := fun K hK => by
        unfold f_giveChain_69
        refine Rt.bd (rSa S hLC.1).1 (Rt.bd (rSa S hLC.1).2 ?_)
        refine pnt_ (Lb := Li) (Sb := S) (z := 0) (n := 0) (by omega) hLC LZ.rf (Nat.le_refl _) (by omega) (by omega) UsK.rf (fun S2 p2 e2 => ?_)
        obtain ⟨c1, ⟨fe, c2, c3⟩, c4⟩ := id q
        obtain ⟨d1, d2⟩ := e2.ob c2.1 c2.2.1
        refine Rt.bd (bI_n d1 d2 hmi (by omega)) ?_
        have e48 : Zi (UF S2 a (.inl (R.K.1 0, mn, .inl (upd fe i (nI Pi))))) 48 - 1 = nI (wl s) := by
          show Zi S2 48 - 1 = _
          rw [p2.1.2.2.1]; exact nI_pred _
        rw [e48]
        refine Rt.bd (v := Ui (UF S2 a (.inl (R.K.1 0, mn, .inl (upd fe i (nI Pi))))) 48 (nI (wl s))) rfl ?_
        have cq := CHI.jn (pp := s') hK ht (fun u hu => wkS_t hu htf) hmi k0 q p2 (by omega) (by omega) d2
        have k1 : K0 (Ui (UF S2 a (.inl (R.K.1 0, mn, .inl (upd fe i (nI Pi))))) 48 (nI (wl s))) (Pi + 1) := K0.st (S := S) (S2 := S2) k0 p2.2.1 (Nat.le_succ _)
        generalize Ui (UF S2 a (.inl (R.K.1 0, mn, .inl (upd fe i (nI Pi))))) 48 (nI (wl s)) = S3 at cq k1
        refine Rt.bd (rLa S3 cq.1.1.1).1 (Rt.bd (rLa S3 cq.1.1.1).2 ?_)
        refine Rt.bn (hV k2 y p' (ps (i + 1)) (bs i) (bs (i + 1)) (tx i) f3 S3 (Pi + 1) (wl s) Γ2 Li s cq.1.1 k1 hA rfl (by omega) (by omega) (by omega) (by omega) (cq.rm hr (by omega) (by omega))) (fun S4 _ t4 => ?_)
        obtain ⟨P4, L4, g4, b1, b2, b3⟩ := t4
        rw [hre] at g4
        have c5 := (cq.tr (GVo.of g4))
        have hw4 : wl ([(0, t2, 0)] ++ s) = wl s + 1 := wl_0t
        rw [hw4] at c5
        exact h140 S4 ⟨P4, L4, t2, _, _, _, ht2, c5, k1.gvo (GVo.of (yD := s) (cD := False) g4), Or.inr (by have := cq.1.2.2.2.2.2.1; omega), by omega, by omega, by omega, by omega⟩
      refine Rt.bd (rSa S hLC.1).1 (Rt.bd (rSa S hLC.1).2 (Rt.bd (rI_n (show s' < rlen 5 from by show s' < 3002; omega) (by decide)) ?_))
      have h52 : ∀ x4 : Int32, Rt (f_giveChain_52 R.K V ((f_giveChain_17 R.K V m)) S (some e) (some a) (nI i) x4) (fun S2 _ => ∃ P2 L2 : Nat, GV R S0 S1 S2 E P1 P2 h (wl s + 1) Γ0 Γ2 L1 L2 sA ((0, tf, 0) :: s) False (5 * (ps mn - ps 0)) (40 * (ps mn - ps 0)) ∧ P1 < P2 ∧ P2 + ps 0 ≤ P1 + ps mn ∧ L2 + bs 0 ≤ L1 + bs mn) := fun x4 => by
        unfold f_giveChain_52
        exact Rt.it (fun _ => h69 18 (Or.inl rfl)) (fun _ => h69 19 (Or.inr rfl))
      refine Rt.it (fun _ => h52 _) (fun _ => Rt.it (fun _ => h52 _) (fun _ => ?_))
      refine Rt.bd (rLa S hLC.1).1 (Rt.bd (rLa S hLC.1).2 ?_)
      refine Rt.bn (hV k2 y p' (ps (i + 1)) (bs i) (bs (i + 1)) (tx i) f3 S Pi (wl s + 1) Γ2 Li ((0, t, 0) :: s) hLC k0 (hA.mo (fun e he => List.mem_cons_of_mem _ he) (nT_c (pnE_k (by decide)))) wl_0t (by omega) (by omega) (by omega) (by omega) (q.rm hr (by omega) (by omega))) (fun S4 _ t4 => ?_)
      obtain ⟨P4, L4, g4, b1, b2, b3⟩ := t4
      rw [hre] at g4
      refine Rt.bd (rSa S4 g4.1.1).1 (Rt.bd (rSa S4 g4.1.1).2 ?_)
      refine pnt_ (Lb := L4) (Sb := S4) (z := 0) (n := 0) (by omega) g4.1 LZ.rf (Nat.le_refl _) (by omega) (by omega) UsK.rf (fun S5 p5 e5 => ?_)
      refine p5.wI (by omega) (by decide) (fun S6 p6 e6 => ?_)
      have hw4 : wl ([(0, t2, 0)] ++ (0, t, 0) :: s) = wl s + 1 + 1 := by
        show wl ((0, t2, 0) :: (0, t, 0) :: s) = _
        rw [wl_0t, wl_0t]
      have e48 : Zi S6 48 - 1 = nI (wl s + 1) := by rw [p6.1.2.2.1, hw4]; exact nI_pred _
      refine p6.hh e48 (fun S7 p7 e7 => ?_)
      have g7 : GV R S0 S4 S7 E P4 (P4 + 1) h (wl s + 1) Γ0 Γ2 L4 L4 ([(0, t2, 0)] ++ (0, t, 0) :: s) ((0, 1, 0) :: s) False 0 0 := gvp (K := 4) (pp := s') (by decide) p7 ⟨rfl, rfl, rfl, rfl, rfl, rfl, rfl, rfl, rfl⟩ (by omega) (by omega) (tP_4 rfl ⟨iD0_0, t2, t, 1, s, ht2, ht, Or.inl rfl, rfl, rfl, wkS.rf⟩)
      have c5 := (q.tr (GVo.of g4)).tr (GVo.of g7)
      exact h140 S7 ⟨P4 + 1, L4, 1, _, _, pe, Or.inl rfl, c5.mo (Nat.le_succ i), (k0.gvo (GVo.of (yD := s) (cD := False) g4)).gvo (GVo.of (yD := s) (cD := False) g7), Or.inr (by have := q.1.2.2.2.2.2.1; omega), by omega, by omega, by omega, by omega⟩
/-- a list of exps, as the laying goes through it -/
theorem lsX_ch {z k2 p q b c : Nat} {li si : Value} {f : Nat → Option Nat} {g : Nat → Int32} {tx : Nat → Nat} (h : lsX R S0 (xE R S0 Γ n k2) z li si mn p q b c tx f g) (hm : 1 ≤ mn) : ∃ (la sa cap : Nat) (ps bs : Nat → Nat), li = .ref la ∧ si = .ref sa ∧ CHx R S0 Γ n k2 z la sa mn cap f g tx ps bs ∧ p ≤ ps 0 ∧ ps mn ≤ q ∧ bs 0 = b ∧ bs mn = c := by
  rcases h with ⟨h, _⟩ | ⟨la, sa, cap, q0, h1, h2, h3, h4, h5, h6, h7, h8, h9, ps, bs, c1, c2, c3, c4, c5⟩
  · omega
  · refine ⟨la, sa, cap, ps, bs, h1, h2, ⟨h3.1, h5, fun e => ⟨h4.1, h6 e⟩, h8, fun i hi => ?_, fun i j hij hj => ?_⟩, c1, by omega, c3, c4⟩
    · obtain ⟨y, p', s', d1, d2, d3, d4, d5⟩ := c5 i hi
      exact ⟨y, p', s', d1, d2, d3, d4, fun e => d5.resolve_left (fun w => by omega)⟩
    · have : ∀ d : Nat, i + d ≤ mn → ps i + d ≤ ps (i + d) ∧ bs i ≤ bs (i + d) := by
        intro d
        induction d with
        | zero => exact fun _ => ⟨Nat.le_refl _, Nat.le_refl _⟩
        | succ d ih =>
          intro hd
          obtain ⟨y, p', s', d1, d2, d3, _⟩ := c5 (i + d) (by omega)
          have := xE_lt d3
          have := xE_bc d3
          have := ih (by omega)
          show ps i + (d + 1) ≤ ps (i + d + 1) ∧ bs i ≤ bs (i + d + 1)
          exact ⟨by omega, by omega⟩
      have w := this (j - i) (by omega)
      rw [show i + (j - i) = j by omega] at w
      exact w
/-- a chain -/
theorem gchn {kk e o q1 b1 p q b c xt : Nat} {li si : Value} {f : Nat → Option Nat} {g : Nat → Int32} {tx tt : Nat → Nat} (hN : EN R S0 E) (hV : GvV R S0 E Γ V n) (he : e ∈ ZL R.S) (hF : ZF S0 e = xtC 8 p 0 0 0 0 0 0 (.ref o) li si mn (.ref xt) .null) (hm1 : 1 ≤ mn) (hx : xE R S0 Γ n kk o p q1 b b1 (tt 0)) (hls : lsK R S0 kk (xE R S0 Γ n) 1 li si mn q1 q b1 c tx f g) (htt : tt mn = xt) (hty : ∀ i : Nat, i < mn → (isTy S0 (tt i) 0 0 none ∨ isTy S0 (tt i) 1 0 none) ∧ (isTy S0 (tx i) 0 0 none ∨ isTy S0 (tx i) 1 0 none) ∧ (isTy S0 (tt (i + 1)) 0 0 none ∨ isTy S0 (tt (i + 1)) 1 0 none)) (cc : LC R S0 S P h Γ2 L) (k0 : K0 S P) (hA : ALv S0 E Γ s) (hs : wl s = h) (hh : h + 11 * kk + 1 ≤ 177) (hq : q ≤ R.T) (hP : P + (q - p) < 24000) (hl : L + c ≤ 160 + b) (hr : RMl R S (5 * (q - p)) (40 * (q - p))) : Rt (f_giveChain R.K V S (some e)) (fun S2 _ => GvQ R S0 S E P h Γ2 L s xt p q b c S2) := by
  have hL := hN.1
  have hY := hN.2.1
  have hlt := xE_lt hx
  have hbc := xE_bc hx
  obtain ⟨k2, hk2, hls⟩ := hls
  have hk2 : kk = k2 + 1 := by omega
  obtain ⟨la, sa, cap, ps, bs, rfl, rfl, hX, hp0, hpn, hb0, hbn⟩ := lsX_ch hls hm1
  have hmo := hX.2.2.2.2.2 0 mn (Nat.zero_le _) (Nat.le_refl _)
  obtain ⟨t0, ht0, hr0⟩ := resE_ib hY (hty 0 (by omega)).1
  obtain ⟨tf, htf, hrf⟩ := resE_ib hY (hty (mn - 1) (by omega)).2.2
  rw [show mn - 1 + 1 = mn by omega, htt] at hrf
  unfold f_giveChain
  refine Rt.bd (cc.1.vr (by decide) (by decide) (oR_mk (hL e he) hF (v := some o) rfl)) ?_
  refine Rt.bn (hV kk o p q1 b b1 (tt 0) hx S P h Γ2 L s cc k0 hA hs hh (by omega) (by omega) (by omega) (hr.le (by omega) (by omega))) (fun S1 _ t1 => ?_)
  obtain ⟨P1, L1, g1, d1, d2, d3⟩ := t1
  rw [hr0] at g1
  have hw1 : wl ([(0, t0, 0)] ++ s) = wl s + 1 := wl_0t
  rw [hw1] at g1
  have r1 : RMl R S1 (5 * (ps mn - ps 0)) (40 * (ps mn - ps 0)) := g1.rm hr (by omega) (by omega)
  refine Rt.bd (g1.1.1.vi (by decide) (by decide) (oI_mk (hL e he) hF (v := nI mn) rfl)) ?_
  refine new_pv (E := E) (s := (0, t0, 0) :: s) (yD := (0, tf, 0) :: s) (cD := False) (m := mn) g1.1 (by omega) (by have := r1.1; omega) (by have := r1.2; omega) (fun S2 c2 g2 v2 _ => ?_)
  have hno : Zz S1 ∉ ZL S1 := fun w => Nat.lt_irrefl _ (g1.1.hz _ w)
  have k2' : K0 S2 P1 := (k0.gvo (GVo.of (yD := s) (cD := False) g1)).gvo g2
  refine (gch17 (h := h) (Γ0 := Γ2) (S1 := S1) (sA := (0, t0, 0) :: s) (tf := tf) hN hV he hF hX hm1 (fun i hi => resE_ib hY (hty i hi).2.1) htf hA (by omega) (by omega) (by omega) (by omega) r1 bigN 0 S2 (by unfold bigN; omega) (Nat.zero_le _) ⟨P1, L1, t0, 1, mn, fun _ => 0, ht0, ⟨g2.mo (fun k => ⟨fun ⟨w1, j, w2⟩ => absurd w2.symm w1, fun w => w.elim⟩) id id (Nat.le_refl _) (Nat.le_refl _), ⟨_, v2, fun j hj => rfl⟩, hno, fun j w => absurd rfl w, fun j k _ w => absurd rfl w⟩, k2', Or.inl rfl, Nat.le_refl _, by omega, by omega, Nat.le_refl _⟩).mo (fun S3 _ t3 => ?_)
  obtain ⟨P3, L3, g3, b1, b2, b3⟩ := t3
  refine ⟨P3, L3, ?_, by omega, by omega, by omega⟩
  have hw3 : wl (resE S0 xt ++ s) = wl s + 1 := by rw [hrf]; exact wl_0t
  rw [hw3, hrf]
  exact g1.tr g3 (fun w => w.elim) (by omega) (by omega)
end LY21
end
-- m0.w.lean.txt
section
section LY22
variable {R : yR} {S0 Sb S S1 S2 : Sg} {P h h0 L Lb z n : Nat} {Γ Γ0 Γ2 : List Nat} {E : eV} {s s2 : List tE} {V : Sg → Option Nat → Option (Sg × Unit)}
/-- an exp's type stands in its cell -/
theorem xPl_ty {nn e p q v x mu mv : Nat} {π : List (Nat × Nat)} (h : xPl R S Γ nn e p q v π x mu mv) : ∃ gs : List Value, e ∈ ZL R.S ∧ ZF S e = .inr (15, gs) ∧ gs[12]? = some (.ref x) := by
  cases nn with
  | zero => exact h.elim
  | succ nn =>
    obtain ⟨⟨h1, _, _⟩, _, ⟨ix, nm, k1, _⟩ | ⟨o, p', q', k1, _⟩ | ⟨o, p', q', y, m2, w2, kd, π2, k1, _⟩ | ⟨o, nm, q', y, i, k, w2, π2, k1, _⟩⟩ := h
    · exact ⟨_, h1, k1, rfl⟩
    · exact ⟨_, h1, k1, rfl⟩
    · exact ⟨_, h1, k1, rfl⟩
    · exact ⟨_, h1, k1, rfl⟩
theorem xE_t12 {nn kk e p q b c x : Nat} (h : xE R S Γ nn kk e p q b c x) : ∃ gs : List Value, e ∈ ZL R.S ∧ ZF S e = .inr (15, gs) ∧ gs[12]? = some (.ref x) := by
  cases nn with
  | zero => exact h.elim
  | succ nn =>
    obtain ⟨⟨h1, _, _⟩, _, ⟨v, π, mu, mv, kd, ix, o, k1, _⟩ | h5⟩ := h
    · exact xPl_ty k1
    · have h5 : xNp R S Γ nn kk e p q b c x := h5
      rcases h5 with ⟨kd, num, k1, k2, _⟩ | ⟨kd, o, p', q', y, k1, _⟩ | ⟨mu, o, p', v, y, m2, w2, π, k1, _⟩ | ⟨o, q1, b1, mn, li, si, f, g, tx, tt, k1, _⟩ | ⟨i, mn, p', z, li, si, f, g, tx, k1, _⟩ | ⟨i, mn, p', li, si, f, g, tx, fo, k1, _⟩ | ⟨i, v, mn, p', z, li, si, f, g, tx, k1, _⟩
      · exact ⟨_, h1, k2, rfl⟩
      · exact ⟨_, h1, k1, rfl⟩
      · exact ⟨_, h1, k1, rfl⟩
      · exact ⟨_, h1, k1, rfl⟩
      · exact ⟨_, h1, k1, rfl⟩
      · exact ⟨_, h1, k1, rfl⟩
      · exact ⟨_, h1, k1, rfl⟩
theorem arL_le {b : Nat} {Q : Nat → Bool} {k : Nat} : ∀ {m : Nat}, k ≤ m → (arL b Q k).length ≤ (arL b Q m).length
  | 0, h => by rw [Nat.le_zero.mp h]; exact Nat.le_refl _
  | m + 1, h => by
    by_cases e : k = m + 1
    · rw [e]; exact Nat.le_refl _
    · have := arL_le (b := b) (Q := Q) (k := k) (m := m) (by omega)
      show _ ≤ (arL b Q m ++ _).length
      rw [List.length_append]; omega
theorem arL_ln {b : Nat} {Q : Nat → Bool} : ∀ (m : Nat), (arL b Q m).length ≤ m
  | 0 => Nat.le_refl _
  | m + 1 => by
    have := arL_ln (b := b) (Q := Q) m
    show (arL b Q m ++ (if Q m then [40 + (b + m)] else [])).length ≤ m + 1
    rw [List.length_append]
    by_cases e : Q m = true
    · rw [if_pos e]; show _ + 1 ≤ _; omega
    · rw [if_neg e]; show _ + 0 ≤ _; omega
theorem arL_S {b k : Nat} {Q : Nat → Bool} (h : Q k = true) : arL b Q (k + 1) = arL b Q k ++ [40 + (b + k)] := by
  show arL b Q k ++ (if Q k then [40 + (b + k)] else []) = _
  rw [if_pos h]
theorem arL_N {b k : Nat} {Q : Nat → Bool} (h : ¬ Q k = true) : arL b Q (k + 1) = arL b Q k := by
  show arL b Q k ++ (if Q k then [40 + (b + k)] else []) = _
  rw [if_neg h, List.append_nil]
/-- the arguments of a call: the row of exps, their types, the item -/
def CLa (R : yR) (S0 : Sg) (e i mn : Nat) (tx : Nat → Nat) (go : Nat → Int32) (rl : Int32) : Prop := e ∈ ZL R.S ∧ (∃ gs : List Value, ZF S0 e = .inr (15, gs) ∧ gs[4]? = some (.int (nI i)) ∧ gs[11]? = some (.int (nI mn)) ∧ (mn = 0 ∨ ∃ (la cap : Nat) (f : Nat → Option Nat), gs[9]? = some (.ref la) ∧ la ∈ ZL R.S ∧ ZF S0 la = .inl (R.K.1 9, cap, .inr (.inr (.inr (.inr f)))) ∧ mn ≤ cap ∧ ∀ k : Nat, k < mn → ∃ (y : Nat) (ys : List Value), f k = some y ∧ y ∈ ZL R.S ∧ ZF S0 y = .inr (15, ys) ∧ ys[12]? = some (.ref (tx k)) ∧ rTy S0 (tx k))) ∧ mn ≤ 12 ∧ i < 70 ∧ Zq S0 11 i = some (R.ws i) ∧ R.ws i ∈ ZL S0 ∧ ∃ (fs : List Value) (lo : Nat), ZF S0 (R.ws i) = .inr (16, fs) ∧ fs[7]? = some (.int rl) ∧ fs[13]? = some (.ref lo) ∧ lo ∈ ZL S0 ∧ ZF S0 lo = .inl (R.K.1 0, 13, .inl go)
/-- an argument that is held -/
def hlB (S0 : Sg) (tx : Nat → Nat) (go : Nat → Int32) (life : Int32) (q : Nat) : Bool := decide (10000 ≤ abT S0 (tx q) ∧ abT S0 (tx q) < 30000) && (decide (life < 0) || decide (go q = life))
theorem NW.lx (b : NW S S1) : LX S S1 := (b.lz (P := 0) (L := 0)).1
/-- isHeld -/
theorem ish_ {e i mn k : Nat} {tx : Nat → Nat} {go : Nat → Int32} {rl life : Int32} (hL : RIn R S0) (hY : YK R S0) (hC : CLa R S0 e i mn tx go rl) (hx : LX S0 S) (hk : k < mn) : f_isHeld R.K S (some e) (nI k) life = some (S, if hlB S0 tx go life k = true then 1 else 0) := by
  obtain ⟨he, ⟨gs, g1, g2, g3, g4⟩, hm, hi, hq, hw, fs, lo, f1, f2, f3, f4, f5⟩ := hC
  obtain ⟨la, cap, f, l1, l2, l3, l4, l5⟩ := g4.resolve_left (by omega)
  obtain ⟨y, ys, y1, y2, y3, y4, y5⟩ := l5 k hk
  obtain ⟨kd, ix, o, yt, _⟩ := y5.ty
  obtain ⟨r1, r2⟩ := hx.ro (hL la l2) l3
  obtain ⟨w1, fs2, w2, w3, w4⟩ := hx.it hw f1
  obtain ⟨lo1, lo2⟩ := hx.ro f4 f5
  have hrf := y5.rf hY yt
  unfold f_isHeld f_isHeld_37 f_isHeld_41 f_isHeld_42
  rw [hx.vr (by decide) (by decide) (oR_mk (hL e he) g1 (v := some la) l1), Option.bind_some, aQ_j r1 r2 (by omega) (by omega), Option.bind_some, y1, hx.vr (by decide) (by decide) (oR_mk (hL y y2) y3 (v := some (tx k)) y4), Option.bind_some, ref_ (hx.ty yt)]
  have hz1 : (zB 1).bind (fun _ => some (S, (1 : Int32))) = some (S, 1) := rfl
  have hz0 : (zB 0).bind (fun _ => some (S, (0 : Int32))) = some (S, 0) := rfl
  by_cases h6 : kd = 6 ∨ kd = 7
  · have hd := hrf.mpr h6
    rw [if_pos h6, bnd_s, if_neg (by decide)]
    by_cases hl : life < 0
    · rw [if_pos hl, hz1, if_pos (by unfold hlB; rw [decide_eq_true (show 10000 ≤ abT S0 (tx k) ∧ abT S0 (tx k) < 30000 from hd), decide_eq_true hl]; rfl)]
    · rw [if_neg hl, hx.vi (by decide) (by decide) (oI_mk (hL e he) g1 (v := nI i) g2), Option.bind_some, rQ_n (show i < rlen 11 from hi) (by decide), Option.bind_some, hx.2.2.2.2.1 11 (fun w => by rcases w with w | w | w <;> omega), hq, oR_mk w1 w2 (v := some lo) ((w4 13 (by decide) (Or.inl (by decide))).trans f3), Option.bind_some, aI_j lo1 lo2 (by omega) (by omega), Option.bind_some]
      by_cases hg : go k = life
      · rw [if_pos hg, hz1, if_pos (by unfold hlB; rw [decide_eq_true (show 10000 ≤ abT S0 (tx k) ∧ abT S0 (tx k) < 30000 from hd), decide_eq_true hg, Bool.or_true]; rfl)]
      · rw [if_neg hg, hz0, if_neg (by unfold hlB; rw [decide_eq_false hg, decide_eq_false hl]; simp)]
  · have hd : ¬ (10000 ≤ abT S0 (tx k) ∧ abT S0 (tx k) < 30000) := fun w => h6 (hrf.mp w)
    rw [if_neg h6, bnd_s, if_pos rfl, hz0, if_neg (by unfold hlB; rw [decide_eq_false hd]; simp)]
/-- held: the second round, the row is filled -/
theorem hld54 {e i mn b a N z1 n1 : Nat} {tx : Nat → Nat} {go : Nat → Int32} {rl life : Int32} (hL : RIn R S0) (hY : YK R S0) (hC : CLa R S0 e i mn tx go rl) (hx : LX S0 S) (hb : b ≤ 177) (hN : N = (arL b (hlB S0 tx go life) mn).length) (ha : a ∉ ZL S) : ∀ (m k : Nat) (S1 : Sg) (f : Nat → Int32), mn < k + m → k ≤ mn → NW S S1 → (a ∈ ZL S1 ∧ ZF S1 a = .inl (R.K.1 0, N, .inl f)) → (Zz S1 = z1 ∧ Zn S1 = n1) → (∀ j x : Nat, (arL b (hlB S0 tx go life) k)[j]? = some x → f j = nI x ∧ x < 24000) → Rt (f_held_54 R.K m S1 (some e) (nI b) life (nI (arL b (hlB S0 tx go life) k).length) (some a) (nI k)) (fun S2 r => r = some a ∧ NW S S2 ∧ (∃ f : Nat → Int32, a ∈ ZL S2 ∧ ZF S2 a = .inl (R.K.1 0, N, .inl f) ∧ ∀ j x : Nat, (arL b (hlB S0 tx go life) mn)[j]? = some x → f j = nI x ∧ x < 24000) ∧ Zz S2 = z1 ∧ Zn S2 = n1)
  | 0, k, S1, f, hm, hk, _, _, _, _ => by omega
  | m + 1, k, S1, f, hm, hk, w, hf, hz, hj => by
    have hx1 : LX S0 S1 := hx.tr w.lx
    have hC2 := hC
    obtain ⟨he, ⟨gs, g1, g2, g3, g4⟩, hm12, _⟩ := hC2
    have hln := arL_ln (b := b) (Q := hlB S0 tx go life) mn
    unfold f_held_54 f_held_89
    refine Rt.bd (hx1.vi (by decide) (by decide) (oI_mk (hL e he) g1 (v := nI mn) g3)) (Rt.it (fun q => ?_) (fun q => ?_))
    · have : mn ≤ k := (nI_leI (by omega) (by omega)).mp q
      obtain rfl : k = mn := by omega
      exact Rt.rt ⟨rfl, w, ⟨f, hf.1, hf.2, hj⟩, hz⟩
    · have hlt : k < mn := by
        by_cases e : k < mn
        · exact e
        · exact absurd (nI_le (a := mn) (b := k) (by omega) (by omega)) q
      refine Rt.be (ish_ (life := life) hL hY hC hx1 hlt) ?_
      by_cases hq : hlB S0 tx go life k = true
      · rw [if_pos hq]
        refine Rt.iq (by decide) ?_
        unfold f_temporary
        rw [nI_add]
        refine Rt.be (r := nI (40 + (b + k))) (by rw [← nI_add 40 (b + k)]; rfl) ?_
        have hS := arL_S (b := b) hq
        have hle := arL_le (b := b) (Q := hlB S0 tx go life) (k := k + 1) (m := mn) (by omega)
        rw [hS, List.length_append] at hle
        have hle : (arL b (hlB S0 tx go life) k).length + 1 ≤ (arL b (hlB S0 tx go life) mn).length := hle
        refine Rt.bd (bI_n hf.1 hf.2 (show (arL b (hlB S0 tx go life) k).length < N by omega) (by omega)) ?_
        rw [nI_1, nI_1]
        have e1 : (arL b (hlB S0 tx go life) k).length + 1 = (arL b (hlB S0 tx go life) (k + 1)).length := by rw [hS, List.length_append]; rfl
        rw [e1]
        refine hld54 hL hY hC hx hb hN ha m (k + 1) _ _ (by omega) (by omega) (w.uF ha) ⟨hf.1, ZF_s⟩ hz (fun j x hjx => ?_)
        rw [hS] at hjx
        by_cases ej : j < (arL b (hlB S0 tx go life) k).length
        · rw [List.getElem?_append_left ej] at hjx
          rw [upd_n (by omega)]; exact hj j x hjx
        · rw [List.getElem?_append_right (by omega)] at hjx
          by_cases e0 : j = (arL b (hlB S0 tx go life) k).length
          · subst e0
            rw [Nat.sub_self] at hjx
            cases hjx
            rw [upd_s]; exact ⟨rfl, by omega⟩
          · obtain ⟨d, hd⟩ : ∃ d : Nat, j - (arL b (hlB S0 tx go life) k).length = d + 1 := ⟨j - (arL b (hlB S0 tx go life) k).length - 1, by omega⟩
            rw [hd] at hjx; cases hjx
      · rw [if_neg hq]
        refine Rt.ip rfl ?_
        rw [nI_1]
        have hS := arL_N (b := b) hq
        rw [← hS]
        exact hld54 hL hY hC hx hb hN ha m (k + 1) S1 f (by omega) (by omega) w hf hz (by rw [hS]; exact hj)
/-- held: the first round, they are counted -/
theorem hld6 {e i mn b : Nat} {tx : Nat → Nat} {go : Nat → Int32} {rl life : Int32} (hL : RIn R S0) (hY : YK R S0) (hC : CLa R S0 e i mn tx go rl) (hx : LX S0 S) (hz : ∀ a ∈ ZL S, a < Zz S) (hb : b ≤ 177) (h1 : Zz S + 1 ≤ R.K.2.1) (h2 : Zn S + 12 ≤ R.K.2.2) : ∀ (m k : Nat), mn < k + m → k ≤ mn → Rt (f_held_6 R.K m S (some e) (nI b) life (nI (arL b (hlB S0 tx go life) k).length) (nI k)) (fun S2 r => NW S S2 ∧ rAr R S2 r (arL b (hlB S0 tx go life) mn) ∧ Zz S2 ≤ Zz S + 1 ∧ Zn S2 ≤ Zn S + 12 ∧ ∀ a : Nat, r = some a → a ∉ ZL S)
  | 0, k, hm, hk => by omega
  | m + 1, k, hm, hk => by
    have hC2 := hC
    obtain ⟨he, ⟨gs, g1, g2, g3, g4⟩, hm12, _⟩ := hC2
    have hln := arL_ln (b := b) (Q := hlB S0 tx go life) mn
    unfold f_held_6 f_held_29
    refine Rt.bd (hx.vi (by decide) (by decide) (oI_mk (hL e he) g1 (v := nI mn) g3)) (Rt.it (fun q => ?_) (fun q => ?_))
    · have : mn ≤ k := (nI_leI (by omega) (by omega)).mp q
      obtain rfl : k = mn := by omega
      by_cases e0 : (arL b (hlB S0 tx go life) k).length = 0
      · rw [e0]
        exact Rt.ip rfl (Rt.rt ⟨NW.rf hz, Or.inl ⟨rfl, List.length_eq_zero_iff.mp e0⟩, by omega, by omega, fun a w => by cases w⟩)
      · refine Rt.iq (nI_ne0 (by omega) (by omega)) (Rt.be (nA_ok (by omega) ⟨h1, by omega⟩) ?_)
        have w0 : NW S (Un S (.inl (R.K.1 0, (arL b (hlB S0 tx go life) k).length, .inl (fun _ => 0))) (arL b (hlB S0 tx go life) k).length) := (NW.rf hz).un
        have hno : Zz S ∉ ZL S := fun w => Nat.lt_irrefl _ (hz _ w)
        refine (hld54 (life := life) hL hY hC hx hb rfl hno bigN 0 _ (fun _ => 0) (by unfold bigN; omega) (Nat.zero_le _) w0 ⟨List.mem_cons_self, ZF_uz⟩ ⟨rfl, rfl⟩ (fun j x hj => by cases hj)).mo (fun S2 r t => ?_)
        obtain ⟨rfl, t2, ⟨f, t3, t4, t5⟩, t6, t7⟩ := t
        have t6 : Zz S2 = Zz S + 1 := t6
        have t7 : Zn S2 = Zn S + (arL b (hlB S0 tx go life) k).length := t7
        exact ⟨t2, Or.inr ⟨Zz S, f, rfl, t3, t4, (fun w => e0 (by rw [w]; rfl)), t5⟩, by omega, by omega, fun a w => by cases w; exact hno⟩
    · have hlt : k < mn := by
        by_cases e : k < mn
        · exact e
        · exact absurd (nI_le (a := mn) (b := k) (by omega) (by omega)) q
      refine Rt.be (ish_ (life := life) hL hY hC hx hlt) ?_
      by_cases hq : hlB S0 tx go life k = true
      · rw [if_pos hq]
        refine Rt.iq (by decide) ?_
        rw [nI_1, nI_1]
        have e1 : (arL b (hlB S0 tx go life) k).length + 1 = (arL b (hlB S0 tx go life) (k + 1)).length := by rw [arL_S hq, List.length_append]; rfl
        rw [e1]
        exact hld6 hL hY hC hx hz hb h1 h2 m (k + 1) (by omega) (by omega)
      · rw [if_neg hq]
        refine Rt.ip rfl ?_
        rw [nI_1, ← arL_N (b := b) hq]
        exact hld6 hL hY hC hx hz hb h1 h2 m (k + 1) (by omega) (by omega)
theorem hld_ {e i mn b : Nat} {tx : Nat → Nat} {go : Nat → Int32} {rl life : Int32} (hL : RIn R S0) (hY : YK R S0) (hC : CLa R S0 e i mn tx go rl) (hx : LX S0 S) (hz : ∀ a ∈ ZL S, a < Zz S) (hb : b ≤ 177) (h1 : Zz S + 1 ≤ R.K.2.1) (h2 : Zn S + 12 ≤ R.K.2.2) : Rt (f_held R.K S (some e) (nI b) life) (fun S2 r => NW S S2 ∧ rAr R S2 r (arL b (hlB S0 tx go life) mn) ∧ Zz S2 ≤ Zz S + 1 ∧ Zn S2 ≤ Zn S + 12 ∧ ∀ a : Nat, r = some a → a ∉ ZL S) := by
  have hm := hC.2.2.1
  exact hld6 (life := life) hL hY hC hx hz hb h1 h2 bigN 0 (by unfold bigN; omega) (Nat.zero_le _)
end LY22
end
-- m0.x.lean.txt
section
section LY23
variable {R : yR} {S0 Sb S S1 S2 : Sg} {P h h0 L Lb z n : Nat} {Γ Γ0 Γ2 : List Nat} {E : eV} {s s2 : List tE} {V : Sg → Option Nat → Option (Sg × Unit)}
theorem SNH.lx (hx : LX S0 S) (q : SNH R S0) : SNH R S := by
  have e : ∀ r : Nat, r < 10 → Zr S r = Zr S0 r := fun r hr => hx.2.2.1 r (fun w => by rcases w with w | w <;> omega)
  unfold SNH
  rw [e 0 (by decide), e 6 (by decide), e 7 (by decide)]
  exact q
theorem sng_36 (hT : R.T ≤ 3001) {ta tb a1 a2 ln : Nat} (hta : ta < R.T) (htb : tb < R.T) (e1 : Zr S 6 ta = nI a1) (e2 : Zr S 6 tb = nI a2) (h1 : a1 + ln ≤ 3000) (h2 : a2 + ln ≤ 3000) : ∀ (n j : Nat), ln < j + n → j ≤ ln → (∀ i : Nat, i < j → Zr S 0 (a1 + i) = Zr S 0 (a2 + i)) → Rt (f_sameName_36 R.K n S (nI ta) (nI tb) (nI ln) (nI j)) (fun S2 r => S2 = S ∧ ((r = 1 ∧ ∀ i : Nat, i < ln → Zr S 0 (a1 + i) = Zr S 0 (a2 + i)) ∨ (r = 0 ∧ ∃ i : Nat, i < ln ∧ ¬ Zr S 0 (a1 + i) = Zr S 0 (a2 + i))))
  | 0, j, a, b, _ => absurd a (by omega)
  | n + 1, j, a, b, hj0 => by
    unfold f_sameName_36
    refine Rt.it (fun hc => Rt.zr (Or.inr rfl) ⟨rfl, Or.inl ⟨rfl, fun i hi => hj0 i ?_⟩⟩) (fun hc => ?_)
    · have := (nI_leI (a := ln) (b := j) (by omega) (by omega)).mp hc; omega
    have hj : j < ln := by
      rcases Nat.lt_or_ge j ln with z | z
      · exact z
      · exact absurd (nI_le z (by omega)) hc
    refine Rt.bd (rI_n (show ta < rlen 6 by show ta < 3002; omega) (by decide)) ?_
    rw [e1, nI_add]
    refine Rt.bd (rI_n (show a1 + j < rlen 0 by show a1 + j < 3000; omega) (by decide)) ?_
    refine Rt.bd (rI_n (show tb < rlen 6 by show tb < 3002; omega) (by decide)) ?_
    rw [e2, nI_add]
    refine Rt.bd (rI_n (show a2 + j < rlen 0 by show a2 + j < 3000; omega) (by decide)) ?_
    refine Rt.it (fun w => ?_) (fun w => Rt.zr (Or.inl rfl) ⟨rfl, Or.inr ⟨rfl, j, hj, w⟩⟩)
    rw [nI_1]
    exact sng_36 hT hta htb e1 e2 h1 h2 n (j + 1) (by omega) (by omega) (fun i hi => by
      by_cases e : i = j
      · subst e; exact w
      · exact hj0 i (by omega))
/-- sameName, wherever tokens' texts are as they were read -/
theorem sng_ (q : SNH R S) {ta tb : Nat} (hta : ta < R.T) (htb : tb < R.T) : Rt (f_sameName R.K S (nI ta) (nI tb)) (fun S2 r => S2 = S ∧ ((r = 1 ∧ nmE R ta tb) ∨ (r = 0 ∧ ¬ nmE R ta tb))) := by
  obtain ⟨hT, ⟨z0, z6, z7⟩, h⟩ := q
  obtain ⟨a1, b1, ea1, eb1, hab1, hbz1⟩ := h ta hta
  obtain ⟨a2, b2, ea2, eb2, hab2, hbz2⟩ := h tb htb
  have ha1 : (Zr R.S 6 ta).toNatClampNeg = a1 := by rw [← z6, ea1, nI_clamp (by omega)]
  have ha2 : (Zr R.S 6 tb).toNatClampNeg = a2 := by rw [← z6, ea2, nI_clamp (by omega)]
  have hb1 : (Zr R.S 7 ta).toNatClampNeg = b1 := by rw [← z7, eb1, nI_clamp (by omega)]
  have hb2 : (Zr R.S 7 tb).toNatClampNeg = b2 := by rw [← z7, eb2, nI_clamp (by omega)]
  unfold nmE
  rw [ha1, ha2, hb1, hb2, ← z0]
  unfold f_sameName
  refine Rt.bd (rI_n (show ta < rlen 7 by show ta < 3002; omega) (by decide)) ?_
  refine Rt.bd (rI_n (show ta < rlen 6 by show ta < 3002; omega) (by decide)) ?_
  refine Rt.bd (rI_n (show tb < rlen 7 by show tb < 3002; omega) (by decide)) ?_
  refine Rt.bd (rI_n (show tb < rlen 6 by show tb < 3002; omega) (by decide)) ?_
  rw [ea1, eb1, ea2, eb2, nI_sb hab1, nI_sb hab2]
  refine Rt.it (fun hc => ?_) (fun hc => Rt.zr (Or.inl rfl) ⟨rfl, Or.inr ⟨rfl, fun w => hc (by rw [w.1])⟩⟩)
  have hln : b2 - a2 = b1 - a1 := (nI_eq (by omega) (by omega)).mp hc
  refine (sng_36 hT hta htb ea1 ea2 (by omega) (by omega) bigN 0 (by show _ < 0 + 1000000000000; omega) (by omega) (fun i hi => absurd hi (by omega))).mo (fun S2 r q => ⟨q.1, ?_⟩)
  rcases q.2 with ⟨w1, w2⟩ | ⟨w1, i, w2, w3⟩
  · exact Or.inl ⟨w1, hln.symm, w2⟩
  · exact Or.inr ⟨w1, fun w => w3 (w.2 i w2)⟩
/-- fieldOf in the laying -/
theorem fol_ {i k : Nat} {v : Int32} (hL : RIn R S0) (hS : SNH R S0) (q : fnm R S0 i k v) (hx : LX S0 S) : Rt (f_fieldOf R.K S (some (R.ws i)) v) (fun S2 r => S2 = S ∧ r = nI k) := by
  obtain ⟨fs, na, mn, tj, g, h1, h2, h3, h4, h5, h6, h7, rfl, h9, h10, h11, h12⟩ := q
  obtain ⟨w1, fs2, w2, w3, w4⟩ := hx.it (hL _ h1.1) h2
  obtain ⟨n1, n2⟩ := hx.ro (hL _ h6.1) h7
  have hS2 := hS.lx hx
  have hg : ∀ (m j : Nat), k < j + m → j ≤ k → Rt (f_fieldOf_2 R.K m S (some (R.ws i)) (nI tj) (nI j)) (fun S2 r => S2 = S ∧ r = nI k) := by
    intro m
    induction m with
    | zero => intro j a b; omega
    | succ m ih =>
      intro j a b
      unfold f_fieldOf_2
      refine Rt.bd (oI_mk w1 w2 (v := nI mn) ((w4 3 (by decide) (Or.inl (by decide))).trans h3)) (Rt.iq (fun w => ?_) ?_)
      · have := (nI_leI (a := mn) (b := j) (by omega) (by omega)).mp w; omega
      refine Rt.bd (oR_mk (v := some na) w1 w2 ((w4 8 (by decide) (Or.inl (by decide))).trans h5)) (Rt.bd (aI_n n1 n2 (show j < 13 by omega) (by decide)) ?_)
      by_cases e : j = k
      · subst e
        obtain ⟨s, s1, s2, s3⟩ := h11
        rw [s1]
        refine Rt.bn (sng_ hS2 s2 h9) (fun S3 r3 q3 => ?_)
        obtain ⟨rfl, ⟨e1, _⟩ | ⟨_, e2⟩⟩ := q3
        · rw [e1]; exact Rt.iq (by decide) (Rt.rt ⟨rfl, rfl⟩)
        · exact absurd s3 e2
      · obtain ⟨s, s1, s2, s3⟩ := h12 j (by omega)
        rw [s1]
        refine Rt.bn (sng_ hS2 s2 h9) (fun S3 r3 q3 => ?_)
        obtain ⟨rfl, ⟨_, e1⟩ | ⟨e2, _⟩⟩ := q3
        · exact absurd e1 s3
        · rw [e2, nI_1]; exact Rt.ip rfl (ih (j + 1) (by omega) (by omega))
  exact hg bigN 0 (by unfold bigN; omega) (Nat.zero_le _)
/-- order: the fields that a new struct's exps fill -/
theorem ord_ {e i mn cap sa : Nat} {g : Nat → Int32} {fo : Nat → Nat} {gs : List Value} (hL : RIn R S0) (hS : SNH R S0) (he : e ∈ ZL R.S) (g1 : ZF S0 e = .inr (15, gs)) (g2 : gs[4]? = some (.int (nI i))) (g3 : gs[11]? = some (.int (nI mn))) (g4 : gs[10]? = some (.ref sa)) (hsa : sa ∈ ZL R.S) (g5 : ZF S0 sa = .inl (R.K.1 0, cap, .inl g)) (hcap : mn ≤ cap) (hm : mn ≤ 12) (hm1 : 1 ≤ mn) (hi : i < 70) (hq : Zq S0 11 i = some (R.ws i)) (hf : ∀ k : Nat, k < mn → fo k < mn ∧ fnm R S0 i (fo k) (g k)) (hx : LX S0 S) (hz : ∀ a ∈ ZL S, a < Zz S) (h1 : Zz S + 1 ≤ R.K.2.1) (h2 : Zn S + 12 ≤ R.K.2.2) : Rt (f_order R.K S (some e)) (fun S2 r => NW S S2 ∧ rAr R S2 r ((List.range mn).map fo) ∧ Zz S2 ≤ Zz S + 1 ∧ Zn S2 ≤ Zn S + 12 ∧ ∀ a : Nat, r = some a → a ∉ ZL S) := by
  have hno : Zz S ∉ ZL S := fun w => Nat.lt_irrefl _ (hz _ w)
  have hg : ∀ (m k : Nat) (S1 : Sg) (f : Nat → Int32), mn < k + m → k ≤ mn → NW S S1 → (Zz S ∈ ZL S1 ∧ ZF S1 (Zz S) = .inl (R.K.1 0, mn, .inl f)) → (Zz S1 = Zz S + 1 ∧ Zn S1 = Zn S + mn) → (∀ j : Nat, j < k → f j = nI (fo j)) → Rt (f_order_9 R.K m S1 (some e) (some (Zz S)) (nI k)) (fun S2 r => NW S S2 ∧ rAr R S2 r ((List.range mn).map fo) ∧ Zz S2 ≤ Zz S + 1 ∧ Zn S2 ≤ Zn S + 12 ∧ ∀ a : Nat, r = some a → a ∉ ZL S) := by
    intro m
    induction m with
    | zero => intro k S1 f a b; omega
    | succ m ih =>
      intro k S1 f a b w hf1 hz1 hfo
      have hx1 : LX S0 S1 := hx.tr w.lx
      unfold f_order_9
      refine Rt.bd (hx1.vi (by decide) (by decide) (oI_mk (hL e he) g1 (v := nI mn) g3)) (Rt.it (fun q => ?_) (fun q => ?_))
      · have : mn ≤ k := (nI_leI (by omega) (by omega)).mp q
        obtain rfl : k = mn := by omega
        refine Rt.rt ⟨w, Or.inr ⟨Zz S, f, rfl, hf1.1, ?_, ?_, fun j x hj => ?_⟩, by omega, by omega, fun a e => by cases e; exact hno⟩
        · rw [List.length_map, List.length_range]; exact hf1.2
        · intro e
          have := congrArg List.length e
          rw [List.length_map, List.length_range] at this
          have : k = 0 := this
          omega
        · rw [List.getElem?_map] at hj
          by_cases ej : j < k
          · rw [List.getElem?_range ej] at hj
            cases hj
            exact ⟨hfo j ej, by have := (hf j ej).1; omega⟩
          · rw [List.getElem?_eq_none (by rw [List.length_range]; omega)] at hj
            cases hj
      · have hlt : k < mn := by
          by_cases e : k < mn
          · exact e
          · exact absurd (nI_le (a := mn) (b := k) (by omega) (by omega)) q
        obtain ⟨r1, r2⟩ := hx1.ro (hL sa hsa) g5
        have hq1 : rQ S1 11 (nI i) = some (some (R.ws i)) := by rw [rQ_n (show i < rlen 11 from hi) (by decide), hx1.2.2.2.2.1 11 (fun w => by rcases w with w | w | w <;> omega), hq]
        refine Rt.bd (hx1.vi (by decide) (by decide) (oI_mk (hL e he) g1 (v := nI i) g2)) (Rt.bd hq1 (Rt.bd (hx1.vr (by decide) (by decide) (oR_mk (hL e he) g1 (v := some sa) g4)) (Rt.bd (aI_j r1 r2 (by omega) (by omega)) (Rt.bn (fol_ hL hS (hf k hlt).2 hx1) (fun S3 r3 q3 => ?_)))))
        obtain ⟨rfl, rfl⟩ := q3
        refine Rt.bd (bI_n hf1.1 hf1.2 hlt (by omega)) ?_
        rw [nI_1]
        refine ih (k + 1) _ _ (by omega) (by omega) (w.uF hno) ⟨hf1.1, ZF_s⟩ hz1 (fun j hj => ?_)
        by_cases ej : j = k
        · subst ej; rw [upd_s]
        · rw [upd_n ej]; exact hfo j (by omega)
  unfold f_order
  refine Rt.bd (hx.vi (by decide) (by decide) (oI_mk (hL e he) g1 (v := nI mn) g3)) (Rt.be (nA_ok (by omega) ⟨h1, by omega⟩) ?_)
  exact hg bigN 0 _ (fun _ => 0) (by unfold bigN; omega) (Nat.zero_le _) ((NW.rf hz).un) ⟨List.mem_cons_self, ZF_uz⟩ ⟨rfl, rfl⟩ (fun j hj => absurd hj (by omega))
/-- what lists hold, on the stack -/
def stL (S0 : Sg) (tx : Nat → Nat) (k : Nat) (s : List tE) : List tE := dsl (fun q => eT (abT S0 (tx q))) k ++ s
theorem stL_nT {S0 : Sg} {tx : Nat → Nat} {s : List tE} (h : nT s) : ∀ k : Nat, nT (stL S0 tx k s)
  | 0 => h
  | _ + 1 => nT_eT
theorem stL_wl (S0 : Sg) (tx : Nat → Nat) (s : List tE) : ∀ k : Nat, wl (stL S0 tx k s) = wl s + k
  | 0 => rfl
  | k + 1 => by
    show wl (eT (abT S0 (tx k)) :: stL S0 tx k s) = _
    rw [wl_eT, stL_wl S0 tx s k]; omega
theorem stL_mem {tx : Nat → Nat} {e : tE} (h : e ∈ s) (k : Nat) : e ∈ stL S0 tx k s := List.mem_append_right _ h
/-- the exps of a list are laid, then what is made of them -/
theorem gls7 {e mn k2 : Nat} {gs : List Value} {la sa cap : Nat} {f : Nat → Option Nat} {g : Nat → Int32} {tx ps bs : Nat → Nat} {kd : Int32} {zz : Nat} {Q : Sg → Unit → Prop} (hN : EN R S0 E) (hV : GvV R S0 E Γ V n) (he : e ∈ ZL R.S) (g1 : ZF S0 e = .inr (15, gs)) (g0 : gs[0]? = some (.int kd)) (g3 : gs[11]? = some (.int (nI mn))) (hm : mn ≤ 12) (hli : mn = 0 ∨ (gs[9]? = some (.ref la) ∧ CHx R S0 Γ n k2 zz la sa mn cap f g tx ps bs)) (htx : ∀ k : Nat, k < mn → rTy S0 (tx k)) (hA : ALv S0 E Γ s) (hh : mn = 0 ∨ wl s + 11 + 11 * k2 + 1 ≤ 177) (hT : ps mn ≤ R.T) (hP : P + (ps mn - ps 0) < 24000) (hl : L + bs mn ≤ 160 + bs 0) (hr : RMl R S (5 * (ps mn - ps 0)) (40 * (ps mn - ps 0))) (k0 : K0 S P) (hend : ∀ (S1 : Sg) (P1 L1 : Nat), GV R S0 S S1 E P P1 h (wl s + mn) Γ0 Γ2 L L1 s (stL S0 tx mn s) False (5 * (ps mn - ps 0)) (40 * (ps mn - ps 0)) → P1 + ps 0 ≤ P + ps mn → L1 + bs 0 ≤ L + bs mn → K0 S1 P1 → Rt (if kd = 3 then (f_giveList_60 R.K V S1 (some e) (nI (wl s)) 10) else ((oI S1 15 (some e) 0).bind fun v3 =>
    if v3 = 5 then (f_giveList_60 R.K V S1 (some e) (nI (wl s)) 8) else (f_giveList_60 R.K V S1 (some e) (nI (wl s)) 9))) Q) : ∀ (m k : Nat) (S1 : Sg) (P1 L1 : Nat), mn < k + m → k ≤ mn → GV R S0 S S1 E P P1 h (wl s + k) Γ0 Γ2 L L1 s (stL S0 tx k s) False (5 * (ps k - ps 0)) (40 * (ps k - ps 0)) → P1 + ps 0 ≤ P + ps k → L1 + bs 0 ≤ L + bs k → K0 S1 P1 → Rt (f_giveList_7 R.K V m S1 (some e) (nI (wl s)) (nI k)) Q
  | 0, k, S1, P1, L1, hm1, hk, _, _, _, _ => by omega
  | m + 1, k, S1, P1, L1, hm1, hk, gg, b1, b2, k1 => by
    have hL := hN.1
    unfold f_giveList_7
    refine Rt.bd (gg.1.1.vi (by decide) (by decide) (oI_mk (hL e he) g1 (v := nI mn) g3)) (Rt.it (fun q => ?_) (fun q => ?_))
    · have : mn ≤ k := (nI_leI (by omega) (by omega)).mp q
      obtain rfl : k = mn := by omega
      exact Rt.bd (gg.1.1.vi (by decide) (by decide) (oI_mk (hL e he) g1 (v := kd) g0)) (hend S1 P1 L1 gg b1 b2 k1)
    · have hlt : k < mn := by
        by_cases e : k < mn
        · exact e
        · exact absurd (nI_le (a := mn) (b := k) (by omega) (by omega)) q
      obtain ⟨l1, hX⟩ := hli.resolve_left (by omega)
      have hX2 := hX
      obtain ⟨hla, hl1, hsa, hcap, hel, hmo⟩ := hX2
      obtain ⟨y, p', s', f1, f2, f3, f4, f5⟩ := hel k hlt
      have hlt2 := xE_lt f3
      have hbc := xE_bc f3
      have m1 := hmo (k + 1) mn (by omega) (Nat.le_refl _)
      have m2 := hmo 0 k (Nat.zero_le _) (by omega)
      obtain ⟨r1, r2⟩ := gg.1.1.ro (hL la hla) hl1
      refine Rt.bd (gg.1.1.vr (by decide) (by decide) (oR_mk (hL e he) g1 (v := some la) l1)) (Rt.bd (aQ_j r1 r2 (by omega) (by omega)) ?_)
      rw [f1]
      refine Rt.bn (hV k2 y p' (ps (k + 1)) (bs k) (bs (k + 1)) (tx k) f3 S1 P1 (wl s + k) Γ2 L1 (stL S0 tx k s) gg.1 k1 (hA.mo (fun e he => stL_mem he k) (stL_nT hA.1 k)) (stL_wl S0 tx s k) (by omega) (by omega) (by omega) (by omega) (gg.rm hr (by omega) (by omega))) (fun S4 _ t4 => ?_)
      obtain ⟨P4, L4, g4, c1, c2, c3⟩ := t4
      rw [resE_r hN.2.1 (htx k hlt)] at g4
      have g4 : GV R S0 S1 S4 E P1 P4 (wl s + k) (wl (stL S0 tx (k + 1) s)) Γ2 Γ2 L1 L4 (stL S0 tx k s) (stL S0 tx (k + 1) s) False _ _ := g4
      rw [stL_wl] at g4
      rw [nI_1]
      exact gls7 hN hV he g1 g0 g3 hm hli htx hA hh hT hP hl hr k0 hend m (k + 1) S4 P4 L4 (by omega) (by omega) (gg.tr g4 (fun w => w.elim) (by omega) (by omega)) (by omega) (by omega) (k1.st g4.2.1 (by omega))
end LY23
end
-- m0.y.lean.txt
section
section LY24
variable {R : yR} {S0 Sb S S1 S2 : Sg} {P h h0 hc L Lb z n : Nat} {Γ Γ0 Γ2 : List Nat} {E : eV} {s s2 : List tE} {V : Sg → Option Nat → Option (Sg × Unit)}
theorem stY.y (hY : YK R S) {i mn : Nat} (h : stY R S i mn) : yK R S (4 + i) = 2 ∧ yP R S (4 + i) 0 = mn ∧ mn ≤ 12 ∧ i < R.im := by
  obtain ⟨fs, h1, h2, h3, h4, h5, h6⟩ := h
  have e4 : 4 + i - 4 = i := by omega
  exact ⟨by rw [yK_it hY h1, if_pos h2], by unfold yP; rw [e4, if_pos h2, if_pos rfl, obF_o h4, fN_i h5 (by omega)], h6, h1⟩
theorem arL_cg {b : Nat} {P Q : Nat → Bool} : ∀ {m : Nat}, (∀ k : Nat, k < m → P k = Q k) → arL b P m = arL b Q m
  | 0, _ => rfl
  | m + 1, h => by
    show arL b P m ++ (if P m then [40 + (b + m)] else []) = arL b Q m ++ (if Q m then [40 + (b + m)] else [])
    rw [arL_cg (fun k hk => h k (by omega)), h m (by omega)]
theorem dsl_eq {e e2 : Nat → tE} : ∀ {m : Nat}, (∀ k : Nat, k < m → e k = e2 k) → dsl e m = dsl e2 m
  | 0, _ => rfl
  | m + 1, h => by
    show e m :: dsl e m = e2 m :: dsl e2 m
    rw [dsl_eq (fun k hk => h k (by omega)), h m (by omega)]
theorem rAr.okA {o : Option Nat} {l : List Nat} (q : rAr R S o l) : okA R.K S o = true := by
  rcases q with ⟨rfl, _⟩ | ⟨a, f, rfl, q2, q3, _⟩
  · rfl
  · exact okA_mk q2 q3
/-- a row of ints that was just made goes into the point's rows -/
theorem lwN {r z2 n2 : Nat} {α : Type} {x : pRc} {v : Option Nat} {l : List Nat} {g : Sg → Option (Sg × α)} {Q : Sg → α → Prop} (hP : P < 24000) (hr : r = 36 ∨ r = 37 ∨ r = 42) (p : LPt R S0 Sb S P h Γ L Lb x z n) (w : NW S S1) (ha : rAr R S1 v l) (hn : ∀ a : Nat, v = some a → a ∉ ZL S) (h1 : Zz S1 ≤ Zz Sb + z2) (h2 : Zn S1 ≤ Zn Sb + n2) (k : ∀ S2 : Sg, LPt R S0 Sb S2 P h Γ L Lb (x.1, x.2.1, va_up x.2.2 r v) z2 n2 → SEq S1 S2 → LX S S2 → rAr R S2 v l → Rt (g S2) Q) : Rt ((wA R.K S1 r (nI P) v).bind g) Q := by
  have p1 := p.nw w h1 h2
  refine p1.wA hP (by omega) ha.okA ⟨by omega, fun a e hs => absurd (p.2.1.1.1 a hs).1 (hn a e)⟩ (fun S2 p2 e2 => k S2 p2 e2 (w.lx.tr e2.1) (ha.st e2.1))
/-- a call's point -/
theorem cll_ {e i mn p xt : Nat} {tx : Nat → Nat} {go : Nat → Int32} {rl : Int32} {gs : List Value} (hN : EN R S0 E) (hC : CLa R S0 e i mn tx go rl) (g1 : ZF S0 e = .inr (15, gs)) (g0 : gs[0]? = some (.int 3)) (gp : gs[1]? = some (.int (nI p))) (g5 : gs[5]? = some (.int 0)) (gx : gs[12]? = some (.ref xt)) (hxt : xTy S0 xt) (hd1 : (E.hd i).1 = mn) (hd2 : ∀ k : Nat, k < mn → (E.hd i).2.1 k = abT S0 (tx k) ∧ rTy S0 (tx k)) (hd3 : (E.hd i).2.2 = abT S0 xt) (hlf : ∀ k : Nat, k < mn → E.lf i k = go k) (hrl : E.rl i = rl) (h12 : R.ik i = 12 ∧ i < R.im) (c : LC R S0 S P hc Γ2 L) (hT : nT s) (hp : p < R.T) (hP : P < 24000) (hw : wl s + mn ≤ 177) (hr : RMl R S 2 24) : Rt (f_giveList_60 R.K V S (some e) (nI (wl s)) 10) (fun S2 _ => GV R S0 S S2 E P (P + 1) h (wl (resE S0 xt ++ s)) Γ0 Γ2 L L (stL S0 tx mn s) (resE S0 xt ++ s) False 2 24) := by
  have hL := hN.1
  have hY := hN.2.1
  obtain ⟨r1, r2⟩ := hr
  have hC2 := hC
  obtain ⟨he, ⟨gs', g1', g4, g11, _⟩, hm, hi, hq, hws, fs, lo, f1, f2, f3, f4, f5⟩ := hC2
  obtain rfl : gs' = gs := by rw [g1] at g1'; cases g1'; rfl
  have rI4 : ∀ {S' : Sg} {k : Nat} {v : Int32}, LX S0 S' → gs'[k]? = some (.int v) → oI S' 15 (some e) k = some v := fun hx hk => hx.vi (by decide) (by decide) (oI_mk (hL e he) g1 hk)
  have rR : ∀ {S' : Sg}, LX S0 S' → oR S' 15 (some e) 12 = some (some xt) := fun hx => hx.vr (by decide) (by decide) (oR_mk (hL e he) g1 (v := some xt) gx)
  unfold f_giveList_60
  refine Rt.bd (rI4 c.1 gp) ?_
  refine pnt_ (Lb := L) (Sb := S) (z := 0) (n := 0) hP c LZ.rf (Nat.le_refl _) (by omega) (by omega) UsK.rf (fun S1 p1 _ => ?_)
  refine Rt.bd (rI4 p1.1.1 g4) (p1.wI hP (by decide) (fun S2 p2 _ => ?_))
  refine Rt.bd (rI4 p2.1.1 g5) (p2.wI hP (by decide) (fun S3 p3 _ => ?_))
  refine Rt.bd (rI4 p3.1.1 g11) (p3.wL hP (fun S4 p4 _ => ?_))
  refine p4.hh rfl (fun S5 p5 _ => Rt.bd (rI4 p5.1.1 g0) (Rt.ip rfl ?_))
  have z5 := p5.2.2.2.1
  have n5 := p5.2.2.2.2.1
  refine Rt.bn (hld_ (life := -1) hL hY hC p5.1.1 p5.1.hz (by omega) (by omega) (by omega)) (fun S6 v6 t6 => ?_)
  obtain ⟨w6, a6, z6, n6, o6⟩ := t6
  refine lwN (z2 := 1) (n2 := 12) hP (Or.inr (Or.inl rfl)) p5 w6 a6 o6 (by omega) (by omega) (fun S7 p7 _ x7 a7 => ?_)
  have hq7 : rQ S7 11 (nI i) = some (some (R.ws i)) := by rw [rQ_n (show i < rlen 11 from hi) (by decide), p7.1.1.2.2.2.2.1 11 (fun w => by rcases w with w | w | w <;> omega), hq]
  obtain ⟨w1, fs2, w2, w3, w4⟩ := p7.1.1.it hws f1
  refine Rt.bd (rI4 p7.1.1 g4) (Rt.bd hq7 (Rt.bd (oI_mk w1 w2 (v := rl) ((w4 7 (by decide) (Or.inl (by decide))).trans f2)) ?_))
  have z7 := p7.2.2.2.1
  have n7 := p7.2.2.2.2.1
  refine Rt.bn (hld_ (life := rl) hL hY hC p7.1.1 p7.1.hz (by omega) (by omega) (by omega)) (fun S8 v8 t8 => ?_)
  obtain ⟨w8, a8, z8, n8, o8⟩ := t8
  refine lwN (z2 := 2) (n2 := 24) hP (Or.inl rfl) p7 w8 a8 o8 (by omega) (by omega) (fun S9 p9 _ x9 a9 => ?_)
  have a7' := a7.st x9
  unfold f_giveList_149
  refine Rt.bd (rI4 p9.1.1 g0) (Rt.iq (by decide) ?_)
  unfold f_giveList_168 f_giveList_220
  refine Rt.bd (rI4 p9.1.1 g0) (Rt.ip rfl (Rt.bd (rR p9.1.1) ?_))
  have hty : ∃ (kd ix : Int32) (o : Option Nat), isTy S0 xt kd ix o ∧ ((kd = 8 ∧ resE S0 xt = [] ∧ abT S0 xt = 0) ∨ (kd ≠ 8 ∧ rTy S0 xt)) := by
    rcases hxt with w | w
    · obtain ⟨kd, ix, o, a, b⟩ := w.ty
      exact ⟨kd, ix, o, a, Or.inr ⟨b, w⟩⟩
    · refine ⟨8, 0, none, w, Or.inl ⟨rfl, resE_8 hY w, ?_⟩⟩
      obtain ⟨t, _, _, _, a, b⟩ := abV_is hY w
      rw [b, if_neg (by decide), if_neg (by decide), a]; rfl
  obtain ⟨kd, ix, o, ty, hk⟩ := hty
  refine Rt.bn (gho_ hP (by omega) p9 ty) (fun S10 _ t10 => ?_)
  obtain ⟨x10, p10, e10, u1, u2, u3, u4⟩ := t10
  have hk0 : oI S10 20 (some xt) 0 = some kd := by
    obtain ⟨t, _, _, b3, b4⟩ := p10.1.1.ty ty
    exact oI_mk b3 b4 rfl
  refine Rt.bd (rR p10.1.1) (Rt.bd hk0 ?_)
  have hus : arL (wl s) (hlB S0 tx go (-1)) mn = arL (wl s) (fun q => decide (10000 ≤ (E.hd i).2.1 q ∧ (E.hd i).2.1 q < 30000)) mn := arL_cg (fun k hk => by
    unfold hlB
    rw [(hd2 k hk).1, decide_eq_true (show (-1 : Int32) < 0 by decide)]; simp)
  have hfr : arL (wl s) (hlB S0 tx go rl) mn = arL (wl s) (fun q => decide (10000 ≤ (E.hd i).2.1 q ∧ (E.hd i).2.1 q < 30000) && (decide (E.rl i < 0) || decide (E.lf i q = E.rl i))) mn := arL_cg (fun k hk => by
    unfold hlB
    rw [(hd2 k hk).1, hlf k hk, hrl])
  have hst : stL S0 tx mn s = dsl (fun q => eT ((E.hd i).2.1 q)) mn ++ s := by
    unfold stL
    rw [dsl_eq (e2 := fun q => eT ((E.hd i).2.1 q)) (fun k hk => by show eT (abT S0 (tx k)) = eT ((E.hd i).2.1 k); rw [(hd2 k hk).1])]
  have a9' := a9.st e10.1
  have a7'' := a7'.st e10.1
  -- the point
  have fin : ∀ (S11 : Sg) (h11 : Nat) (ho : Option Nat) (s3 : List tE), LPt R S0 S S11 P h11 Γ2 L L x10 2 24 → SEq S10 S11 → x10.1 34 = oNm ho → (((E.hd i).2.2 = 0 ∧ ho = none ∧ s3 = s) ∨ ((E.hd i).2.2 ≠ 0 ∧ (isRf (E.hd i).2.2 → ho = some (40 + wl s)) ∧ (¬ isRf (E.hd i).2.2 → ho = none) ∧ s3 = eT (E.hd i).2.2 :: s)) → GV R S0 S S11 E P (P + 1) h h11 Γ0 Γ2 L L (stL S0 tx mn s) s3 False 2 24 := fun S11 h11 ho s3 p11 e11 hho hcs => by
    have r10 : ∀ r : Nat, x10.2.2 r = _ := fun r => by rw [u1]
    refine ⟨p11.1, p11.2.1, tsg.one (i := (10, 0, none, (ho, none), (arL (wl s) (hlB S0 tx go (-1)) mn, arL (wl s) (hlB S0 tx go rl) mn), [P + 1], (i, 0, mn), [])) (rz_g (K := 10) rfl p11.2.2.1 (by decide) (by decide) ?_ ?_ (by show (0 : Nat) < 8; decide) hho ?_ ?_ ?_ ⟨p, ?_, hp⟩ (Or.inl ⟨?_, rfl⟩) (fun l e => by cases e) ?_ rfl (fun w => absurd w (by decide)) (fun _ => ⟨?_, ?_, ?_⟩) (fun w => absurd w (by decide)) (fun w => absurd w (by decide)) (fun w => absurd w (by decide)) (fun w => absurd w (by decide)) (fun _ => h12)) (fun l e => by cases e) (fun j hj => List.mem_singleton.mp hj) (by rw [stL_wl]; omega) (tP_10 rfl ⟨rfl, rfl, ⟨rfl, stL_nT hT mn⟩, s, hd1.symm, hm, hi, hst, fun q hq2 => ?_, hus, hfr, ?_⟩) (fun w => w.elim), p11.2.2.2.1, p11.2.2.2.2.1, Nat.le_succ _, Nat.le_refl _, p11.2.2.2.2.2.2⟩
    · rw [u2 27 (by decide)]; rfl
    · rw [u2 33 (by decide)]; rfl
    · rw [u2 35 (by decide)]; rfl
    · rw [u1]; exact a7''.st e11.1
    · rw [u1]; exact a9'.st e11.1
    · rw [u2 32 (by decide)]; rfl
    · rw [u1]; rfl
    · rw [u2 30 (by decide)]; rfl
    · rw [u2 28 (by decide)]; rfl
    · rw [u2 29 (by decide)]; rfl
    · rw [u1]; rfl
    · have hq3 : q < mn := hq2
      show (E.hd i).2.1 q ≠ 0
      rw [(hd2 q hq3).1]; exact (hd2 q hq3).2.n0 hY
    · rcases hcs with ⟨c1, c2, c3⟩ | ⟨c1, c2, c3, c4⟩
      · exact Or.inl ⟨c1, c2, rfl, by rw [c3]; exact wkS.rf⟩
      · exact Or.inr ⟨c1, c2, c3, rfl, by rw [c4]; exact wkS.rf⟩
  have hx34 : x10.1 34 = oNm (if kd = 6 ∨ kd = 7 then some (40 + wl s) else none) := by
    by_cases q : kd = 6 ∨ kd = 7
    · rw [if_pos q, u3 q]; rfl
    · rw [if_neg q, u4 q]; rfl
  rcases hk with ⟨k1, k2, k3⟩ | ⟨k1, k2⟩
  · rw [if_neg (by rw [k1]; decide)] at hx34
    refine Rt.ip k1 (Rt.rt ?_)
    rw [k2]
    exact fin S10 (wl s) none s p10 ⟨LX.rf, rfl, rfl, rfl, rfl, rfl⟩ hx34 (Or.inl ⟨hd3.trans k3, rfl, rfl⟩)
  · have e48 : Zi S10 48 + 1 = nI (wl s + 1) := by rw [p10.1.2.2.1]; exact nI_1 _
    refine Rt.iq k1 (p10.hh e48 (fun S11 p11 e11 => Rt.rt ?_))
    have hre := resE_r hY k2
    have hwl : wl (resE S0 xt ++ s) = wl s + 1 := wl_rs hY k2
    rw [hwl, hre]
    refine fin S11 (wl s + 1) _ _ p11 e11 hx34 (Or.inr ⟨by rw [hd3]; exact k2.n0 hY, fun q => ?_, fun q => ?_, by rw [hd3]; rfl⟩)
    · rw [if_pos ((k2.rf hY ty).mp (by rw [← hd3]; exact q))]
    · rw [if_neg (fun w => q (by rw [hd3]; exact (k2.rf hY ty).mpr w))]
/-- a new struct's point -/
theorem nst_ {e i mn p xt sa cap : Nat} {tx fo : Nat → Nat} {g : Nat → Int32} {gs : List Value} (hN : EN R S0 E) (he : e ∈ ZL R.S) (g1 : ZF S0 e = .inr (15, gs)) (g0 : gs[0]? = some (.int 5)) (gp : gs[1]? = some (.int (nI p))) (g4 : gs[4]? = some (.int (nI i))) (g5 : gs[5]? = some (.int 0)) (g11 : gs[11]? = some (.int (nI mn))) (gsa : gs[10]? = some (.ref sa)) (hsa : sa ∈ ZL R.S) (gF : ZF S0 sa = .inl (R.K.1 0, cap, .inl g)) (hcap : mn ≤ cap) (hm1 : 1 ≤ mn) (hst : stY R S0 i mn) (hq : Zq S0 11 i = some (R.ws i)) (hxt : isTy S0 xt 3 (nI i) none) (hfo : ∀ k : Nat, k < mn → fo k < mn ∧ fld R S0 i (fo k) (tx k) ∧ fnm R S0 i (fo k) (g k)) (hij : ∀ k j : Nat, k < mn → j < mn → fo k = fo j → k = j) (c : LC R S0 S P hc Γ2 L) (hp : p < R.T) (hP : P < 24000) (hw : wl s + mn ≤ 177) (hr : RMl R S 2 24) : Rt (f_giveList_60 R.K V S (some e) (nI (wl s)) 8) (fun S2 _ => GV R S0 S S2 E P (P + 1) h (wl (resE S0 xt ++ s)) Γ0 Γ2 L L (stL S0 tx mn s) (resE S0 xt ++ s) False 2 24) := by
  have hL := hN.1
  have hY := hN.2.1
  obtain ⟨r1, r2⟩ := hr
  obtain ⟨y1, y2, y3, y4⟩ := hst.y hY
  have hi : i < 70 := by have := hY.2.1; omega
  have rI4 : ∀ {S' : Sg} {k : Nat} {v : Int32}, LX S0 S' → gs[k]? = some (.int v) → oI S' 15 (some e) k = some v := fun hx hk => hx.vi (by decide) (by decide) (oI_mk (hL e he) g1 hk)
  unfold f_giveList_60
  refine Rt.bd (rI4 c.1 gp) ?_
  refine pnt_ (Lb := L) (Sb := S) (z := 0) (n := 0) hP c LZ.rf (Nat.le_refl _) (by omega) (by omega) UsK.rf (fun S1 p1 _ => ?_)
  refine Rt.bd (rI4 p1.1.1 g4) (p1.wI hP (by decide) (fun S2 p2 _ => ?_))
  refine Rt.bd (rI4 p2.1.1 g5) (p2.wI hP (by decide) (fun S3 p3 _ => ?_))
  refine Rt.bd (rI4 p3.1.1 g11) (p3.wL hP (fun S4 p4 _ => ?_))
  refine p4.hh rfl (fun S5 p5 _ => Rt.bd (rI4 p5.1.1 g0) (Rt.iq (by decide) ?_))
  have z5 := p5.2.2.2.1
  have n5 := p5.2.2.2.2.1
  unfold f_giveList_149
  refine Rt.bd (rI4 p5.1.1 g0) (Rt.ip rfl ?_)
  refine Rt.bn (ord_ (fo := fo) hL hN.2.2.2.2.2.2.2.2.2.2.2 he g1 g4 g11 gsa hsa gF hcap y3 hm1 hi hq (fun k hk => ⟨(hfo k hk).1, (hfo k hk).2.2⟩) p5.1.1 p5.1.hz (by omega) (by omega)) (fun S6 v6 t6 => ?_)
  obtain ⟨w6, a6, z6, n6, o6⟩ := t6
  refine lwN (z2 := 2) (n2 := 24) hP (Or.inr (Or.inr rfl)) p5 w6 a6 o6 (by omega) (by omega) (fun S7 p7 _ x7 a7 => ?_)
  unfold f_giveList_168 f_giveList_220
  refine Rt.bd (rI4 p7.1.1 g0) (Rt.iq (by decide) ?_)
  have e48 : Zi S7 48 + 1 = nI (wl s + 1) := by rw [p7.1.2.2.1]; exact nI_1 _
  refine p7.hh e48 (fun S8 p8 e8 => Rt.rt ?_)
  have hvt : vTy S0 xt := vTy.pl hxt (by decide)
  have eV : abT S0 xt = 4 + i := by rw [(hvt.nm hY).2.2, abV_it hY (Or.inl rfl) y4 hxt]
  have hre : resE S0 xt = [(0, 4 + i, 0)] := by
    rw [resE_r hY (Or.inl hvt), eV]
    unfold eT
    rw [if_neg (by omega)]
  have hwl : wl (resE S0 xt ++ s) = wl s + 1 := wl_rs hY (Or.inl hvt)
  rw [hwl, hre]
  have hEy := hN.2.2.2.2.1
  refine gv0 (K := 8) (pp := p) (n1 := i) (n2 := 0) (n3 := mn) (vs := (List.range mn).map fo) (by decide) (by decide) p8 ⟨rfl, rfl, rfl, rfl, rfl, rfl, rfl, rfl, rfl⟩ hp (fun w => absurd w (by decide)) (fun _ => ⟨rfl, rfl, rfl⟩) (fun _ => a7.st e8.1) (fun w => absurd w (by decide)) (fun w => absurd w (by decide)) (fun w => absurd w (by decide)) (by rw [stL_wl]; omega) (tP_8 rfl ⟨iD0_0, fo, s, ?_, hi, ?_, y3, rfl, fun q hq => (hfo q hq).1, hij, ?_, rfl, wkS.rf⟩)
  · rw [hEy]; exact y1
  · rw [hEy]; exact y2.symm
  · unfold stL
    refine congrArg (fun l => l ++ s) (dsl_eq (e2 := fun q => (0, E.y.2.2.2.2 (4 + i) 0 (fo q), 0)) (fun k hk => ?_))
    show eT (abT S0 (tx k)) = (0, E.y.2.2.2.2 (4 + i) 0 (fo k), 0)
    obtain ⟨q1, q2, q3, q4⟩ := (hfo k hk).2.1.y hY
    have hv : vTy S0 (tx k) := by obtain ⟨_, _, _, _, _, _, _, _, _, _, _, _, _, _, _, w⟩ := (hfo k hk).2.1; exact w
    rw [hEy]
    show _ = (0, yQ R S0 (4 + i) 0 (fo k), 0)
    have hn := hv.nm hY
    rw [q4, hn.2.2]
    unfold eT
    rw [if_neg (by omega)]
/-- a variant's point -/
theorem nva_ {e i v mn p xt : Nat} {tx : Nat → Nat} {gs : List Value} (hN : EN R S0 E) (he : e ∈ ZL R.S) (g1 : ZF S0 e = .inr (15, gs)) (g0 : gs[0]? = some (.int 6)) (gp : gs[1]? = some (.int (nI p))) (g4 : gs[4]? = some (.int (nI i))) (g5 : gs[5]? = some (.int (nI v))) (g11 : gs[11]? = some (.int (nI mn))) (hst : enY R S0 i v mn tx) (hxt : isTy S0 xt 4 (nI i) none) (c : LC R S0 S P hc Γ2 L) (hT : nT s) (hp : p < R.T) (hP : P < 24000) (hw : wl s + mn ≤ 177) : Rt (f_giveList_60 R.K V S (some e) (nI (wl s)) 9) (fun S2 _ => GV R S0 S S2 E P (P + 1) h (wl (resE S0 xt ++ s)) Γ0 Γ2 L L (stL S0 tx mn s) (resE S0 xt ++ s) False 2 24) := by
  have hL := hN.1
  have hY := hN.2.1
  obtain ⟨y1, y2, y3, y4, y5, y6⟩ := hst.y hY
  have him : i < R.im := by obtain ⟨_, _, _, _, _, _, w, _⟩ := hst; exact w
  have hi : i < 70 := by have := hY.2.1; omega
  have rI4 : ∀ {S' : Sg} {k : Nat} {v : Int32}, LX S0 S' → gs[k]? = some (.int v) → oI S' 15 (some e) k = some v := fun hx hk => hx.vi (by decide) (by decide) (oI_mk (hL e he) g1 hk)
  unfold f_giveList_60
  refine Rt.bd (rI4 c.1 gp) ?_
  refine pnt_ (Lb := L) (Sb := S) (z := 2) (n := 24) hP c LZ.rf (Nat.le_refl _) (by omega) (by omega) UsK.rf (fun S1 p1 _ => ?_)
  refine Rt.bd (rI4 p1.1.1 g4) (p1.wI hP (by decide) (fun S2 p2 _ => ?_))
  refine Rt.bd (rI4 p2.1.1 g5) (p2.wI hP (by decide) (fun S3 p3 _ => ?_))
  refine Rt.bd (rI4 p3.1.1 g11) (p3.wL hP (fun S4 p4 _ => ?_))
  refine p4.hh rfl (fun S5 p5 _ => Rt.bd (rI4 p5.1.1 g0) (Rt.iq (by decide) ?_))
  unfold f_giveList_149
  refine Rt.bd (rI4 p5.1.1 g0) (Rt.iq (by decide) ?_)
  unfold f_giveList_168 f_giveList_220
  refine Rt.bd (rI4 p5.1.1 g0) (Rt.iq (by decide) ?_)
  have e48 : Zi S5 48 + 1 = nI (wl s + 1) := by rw [p5.1.2.2.1]; exact nI_1 _
  refine p5.hh e48 (fun S8 p8 e8 => Rt.rt ?_)
  have hvt : vTy S0 xt := vTy.pl hxt (by decide)
  have eV : abT S0 xt = 4 + i := by rw [(hvt.nm hY).2.2, abV_it hY (Or.inr rfl) him hxt]
  have hre : resE S0 xt = [(0, 4 + i, 0)] := by
    rw [resE_r hY (Or.inl hvt), eV]
    unfold eT
    rw [if_neg (by omega)]
  have hwl : wl (resE S0 xt ++ s) = wl s + 1 := wl_rs hY (Or.inl hvt)
  rw [hwl, hre]
  have hEy := hN.2.2.2.2.1
  refine gv0 (K := 9) (pp := p) (n1 := i) (n2 := v) (n3 := mn) (vs := []) (by decide) (by decide) p8 ⟨rfl, rfl, rfl, rfl, rfl, rfl, rfl, rfl, rfl⟩ hp (fun w => absurd w (by decide)) (fun _ => ⟨rfl, rfl, rfl⟩) (fun w => absurd w (by decide)) (fun w => absurd w (by decide)) (fun w => absurd w (by decide)) (fun w => absurd w (by decide)) (by rw [stL_wl]; omega) (tP_9 rfl ⟨⟨iD0_0, stL_nT hT mn⟩, s, ?_, hi, ?_, ?_, y5, ?_, rfl, wkS.rf⟩)
  · rw [hEy]; exact y1
  · rw [hEy]; show v < (yT R S0).2.2.1 (4 + i); show v < fN (obF S0 (R.ws (4 + i - 4))) 3; rw [show 4 + i - 4 = i by omega]; exact y2
  · rw [hEy]; exact y4.symm
  · unfold stL
    refine congrArg (fun l => l ++ s) (dsl_eq (e2 := fun q => (0, E.y.2.2.2.2 (4 + i) v q, 0)) (fun k hk => ?_))
    show eT (abT S0 (tx k)) = (0, E.y.2.2.2.2 (4 + i) v k, 0)
    rw [hEy]
    show _ = (0, yQ R S0 (4 + i) v k, 0)
    have hn := (y6 k hk).2.nm hY
    rw [(y6 k hk).1, hn.2.2]
    unfold eT
    rw [if_neg (by omega)]
end LY24
end
-- m0.z.lean.txt
section
section LY25
variable {R : yR} {S0 Sb S S1 S2 : Sg} {P h h0 hc L Lb z n : Nat} {Γ Γ0 Γ2 : List Nat} {E : eV} {s s2 : List tE} {V : Sg → Option Nat → Option (Sg × Unit)}
theorem lsK_c {kk zz mn p q b c : Nat} {li si : Value} {f : Nat → Option Nat} {g : Nat → Int32} {tx : Nat → Nat} (h : lsK R S0 kk (xE R S0 Γ n) zz li si mn p q b c tx f g) : ∃ (k2 la sa cap : Nat) (ps bs : Nat → Nat), (mn = 0 ∨ (kk = k2 + 1 ∧ li = .ref la ∧ si = .ref sa ∧ CHx R S0 Γ n k2 zz la sa mn cap f g tx ps bs)) ∧ p ≤ ps 0 ∧ ps 0 ≤ ps mn ∧ ps mn ≤ q ∧ bs 0 = b ∧ bs mn = c := by
  obtain ⟨k2, e, h⟩ := h
  by_cases hm : mn = 0
  · have hh : b = c ∧ p ≤ q := by
      rcases h with ⟨_, h2, h3⟩ | ⟨la, sa, cap, q0, h1, h2, h3, h4, h5, h6, h7, _⟩
      · exact ⟨h2, h3⟩
      · omega
    exact ⟨k2, 0, 0, 0, fun _ => p, fun _ => b, Or.inl hm, Nat.le_refl _, Nat.le_refl _, hh.2, rfl, hh.1⟩
  · obtain ⟨la, sa, cap, ps, bs, h1, h2, h3, h4, h5, h6, h7⟩ := lsX_ch h (by omega)
    exact ⟨k2, la, sa, cap, ps, bs, Or.inr ⟨by omega, h1, h2, h3⟩, h4, by have := (h3.2.2.2.2.2 0 mn (Nat.zero_le _) (Nat.le_refl _)).1; omega, h5, h6, h7⟩
/-- a list of exps and what is made of them -/
theorem glst {kk e i mn p p' q b c xt zz : Nat} {kd nm vr sg : Int32} {li si : Value} {f : Nat → Option Nat} {g : Nat → Int32} {tx : Nat → Nat} (hN : EN R S0 E) (hV : GvV R S0 E Γ V n) (he : e ∈ ZL R.S) (hF : ZF S0 e = xtC kd p sg nm (nI i) vr 0 0 .null li si mn (.ref xt) .null) (hpp : p < p') (hm : mn ≤ 12) (htx : ∀ k : Nat, k < mn → rTy S0 (tx k)) (hls : lsK R S0 kk (xE R S0 Γ n) zz li si mn p' q b c tx f g) (cc : LC R S0 S P h Γ2 L) (k0 : K0 S P) (hA : ALv S0 E Γ s) (hs : wl s = h) (hh : h + 11 * kk + 1 ≤ 177) (hmh : h + mn ≤ 177) (hq : q ≤ R.T) (hpq : p < q) (hP : P + (q - p) < 24000) (hl : L + c ≤ 160 + b) (hr : RMl R S (5 * (q - p)) (40 * (q - p)))
  (hend : ∀ (S1 : Sg) (P1 L1 : Nat), LC R S0 S1 P1 (wl s + mn) Γ2 L1 → P1 < 24000 → RMl R S1 2 24 → Rt (if kd = 3 then (f_giveList_60 R.K V S1 (some e) (nI (wl s)) 10) else ((oI S1 15 (some e) 0).bind fun v3 =>
    if v3 = 5 then (f_giveList_60 R.K V S1 (some e) (nI (wl s)) 8) else (f_giveList_60 R.K V S1 (some e) (nI (wl s)) 9))) (fun S2 _ => GV R S0 S1 S2 E P1 (P1 + 1) h (wl (resE S0 xt ++ s)) Γ2 Γ2 L1 L1 (stL S0 tx mn s) (resE S0 xt ++ s) False 2 24)) : Rt (f_giveList R.K V S (some e)) (fun S2 _ => GvQ R S0 S E P h Γ2 L s xt p q b c S2) := by
  obtain ⟨k2, la, sa, cap, ps, bs, hli, p1, p2, p3, b1, b2⟩ := lsK_c hls
  unfold f_giveList
  rw [cc.2.2.1, ← hs]
  have g00 : GV R S0 S S E P P h (wl s + 0) Γ2 Γ2 L L s (stL S0 tx 0 s) False (5 * (ps 0 - ps 0)) (40 * (ps 0 - ps 0)) := ⟨by rw [Nat.add_zero, hs]; exact cc, LZ.rf, tsg.nil wkS.rf, by omega, by omega, Nat.le_refl _, Nat.le_refl _, RFx.rf⟩
  refine gls7 (zz := zz) (la := la) (sa := sa) (cap := cap) (k2 := k2) (f := f) (g := g) (ps := ps) (bs := bs) (kd := kd) hN hV he hF rfl rfl hm (hli.imp id (fun ⟨w1, w2, w3, w4⟩ => ⟨by rw [w2]; rfl, w4⟩)) htx hA (hli.imp id (fun ⟨w1, _⟩ => by omega)) (by omega) (by omega) (by omega) (hr.le (by omega) (by omega)) k0 (fun S1 P1 L1 g1 c1 c2 k1 => ?_) bigN 0 S P L (by unfold bigN; omega) (Nat.zero_le _) g00 (Nat.le_refl _) (Nat.le_refl _) k0
  refine (hend S1 P1 L1 g1.1 (by omega) (g1.rm hr (by omega) (by omega))).mo (fun S2 _ g2 => ?_)
  exact ⟨P1 + 1, L1, g1.tr g2 (fun w => w.elim) (by omega) (by omega), by have := g1.2.2.2.2.2.1; omega, by omega, by omega⟩
theorem roI_o {a n k : Nat} {c : ClassId} {f : Nat → Int32} (h : ZF S a = .inl (c, n, .inl f)) : roI S a k = f k := by
  unfold roI; rw [h]
/-- the arguments of a typed call -/
theorem cla_of {kk e i mn p p' q b c xt zz : Nat} {li si : Value} {f : Nat → Option Nat} {g : Nat → Int32} {tx : Nat → Nat} (hN : EN R S0 E) (he : e ∈ ZL R.S) (hF : ZF S0 e = xtC 3 p 0 (nI p) (nI i) 0 0 0 .null li si mn (.ref xt) .null) (hfn : fnY R S0 i mn tx xt) (hls : lsK R S0 kk (xE R S0 Γ n) zz li si mn p' q b c tx f g) : ∃ (go : Nat → Int32) (rl : Int32), CLa R S0 e i mn tx go rl ∧ (∀ k : Nat, E.lf i k = go k) ∧ E.rl i = rl := by
  have hL := hN.1
  have hY := hN.2.1
  obtain ⟨d1, d2, d3, d4, d5⟩ := hfn.hd
  obtain ⟨fs, ta, f', h1, h2, h3, h4, h5, h6, _⟩ := hfn
  obtain ⟨n1, n2, fs2, mn2, na, g2, n3, n4, n5, n6, n7, n8, n9, n10, n11⟩ := hN.2.2.2.1 i h1
  obtain rfl : fs2 = fs := by rw [h4] at n3; cases n3; rfl
  have hK : ∃ (lo : Nat) (go : Nat → Int32) (rl : Int32), fs2[7]? = some (.int rl) ∧ fs2[13]? = some (.ref lo) ∧ nXo R lo ∧ ZF S0 lo = .inl (R.K.1 0, 13, .inl go) := by
    rcases n11 with ⟨w, _⟩ | ⟨w, _⟩ | ⟨_, ta, gv, lo, f, go, rl, _, _, _, _, w1, _, w2, w3, w4, _⟩
    · rw [h2] at w; exact absurd w (by decide)
    · rw [h2] at w; exact absurd w (by decide)
    · exact ⟨lo, go, rl, w1, w2, w3, w4⟩
  obtain ⟨lo, go, rl, w1, w2, w3, w4⟩ := hK
  have h11 : Zq S0 11 = Zq R.S 11 := hN.2.2.2.2.2.2.2.2.1.1
  refine ⟨go, rl, ⟨he, ⟨_, hF, rfl, rfl, ?_⟩, d2, by have := hY.2.1; omega, by rw [h11]; exact n2, hL _ n1.1, fs2, lo, n3, w1, w2, hL _ w3.1, w4⟩, fun k => ?_, ?_⟩
  · obtain ⟨k2, la, sa, cap, ps, bs, hli, _⟩ := lsK_c hls
    refine hli.imp id (fun ⟨e1, e2, e3, e4⟩ => ⟨la, cap, f, by rw [e2]; rfl, e4.1, e4.2.1, e4.2.2.2.1, fun k hk => ?_⟩)
    obtain ⟨y, p', s', y1, y2, y3, _⟩ := e4.2.2.2.2.1 k hk
    obtain ⟨ys, z1, z2, z3⟩ := xE_t12 y3
    exact ⟨y, ys, y1, z1, z2, z3, (d4 k hk).2⟩
  · rw [hN.2.2.2.2.2.2.1]
    show (match rN (obF S0 (R.ws i)) 13 with
      | some a => roI S0 a k
      | none => 0) = _
    rw [obF_o n3, rN_r w2]
    exact roI_o w4
  · rw [hN.2.2.2.2.2.2.2.1]
    show iN (obF S0 (R.ws i)) 7 = rl
    rw [obF_o n3]; unfold iN; rw [w1]
/-- an exp is laid -/
theorem give_ (hN : EN R S0 E) : ∀ (n d : Nat), n ≤ d → n ≤ 1000 → GvV R S0 E Γ (f_give R.K d) n
  | 0, _, _, _ => fun kk e p q b c x h => h.elim
  | n + 1, 0, hd, _ => by omega
  | n + 1, d + 1, hd, hn => fun kk e p q b c x hx S P h Γ2 L s cc k0 hA hs hh hq hP hl hr => by
    have hV : GvV R S0 E Γ (f_give R.K d) n := give_ hN n d (by omega) (by omega)
    have hL := hN.1
    have hY := hN.2.1
    have hEy := hN.2.2.2.2.1
    have hlt := xE_lt hx
    have hxt := xE_ty hx
    have he := hx.1.1
    unfold f_give
    rcases xE_isp (K := R.K) hN.2.2.1 hL cc.1 hx hn with ⟨w, v, π, mu, mv, kd, ix, o, k1, k2, k3, k4, k5⟩ | ⟨w, k⟩
    · refine Rt.be w (Rt.iq (by decide) ?_)
      refine Rt.bn (rea_ hL hY hEy hA hs (by omega) cc k1 hn k2 hq k4 k5 (by omega) (hr.le (by omega) (by omega))) (fun S1 _ g => Rt.rt ?_)
      have hrt : rTy S0 x := (xPl_c k1).2.2.1
      refine ⟨P + 1, L, ?_, by omega, by omega, by omega⟩
      rw [resE_r hY hrt, show wl ([eT (abT S0 x)] ++ s) = h + 1 from by rw [← hs]; exact wl_eT]
      exact ⟨g.1, g.2.1, g.2.2.1, by have := g.2.2.2.1; omega, by have := g.2.2.2.2.1; omega, g.2.2.2.2.2⟩
    · refine Rt.be w (Rt.ip rfl ?_)
      have rK : ∀ {kd : Int32} {gs : List Value}, ZF S0 e = .inr (15, gs) → gs[0]? = some (.int kd) → oI S 15 (some e) 0 = some kd := fun h1 h2 => cc.1.vi (by decide) (by decide) (oI_mk (hL e he) h1 h2)
      rcases k with ⟨kd, num, k1, k2, k3, k4⟩ | ⟨kd, o, p', q', y, k1, k2, k3, k4, k5⟩ | ⟨mu, o, p', v, y, m2, w2, π, k1, k2, k3, k4, k5, k6, k7⟩ | ⟨o, q1, b1, mn, li, si, f, g, tx, tt, k1, k2, k3, k4, k5, k6⟩ | ⟨i, mn, p', zz, li, si, f, g, tx, k1, k2, k3, k4⟩ | ⟨i, mn, p', li, si, f, g, tx, fo, k1, k2, k3, k4, k5, k6, k7⟩ | ⟨i, v, mn, p', zz, li, si, f, g, tx, k1, k2, k3, k4, k5⟩
      · refine Rt.bd (rK k2 rfl) ?_
        obtain ⟨t, ht, hre⟩ := resE_ib hY k4
        have fin : ∀ S2 : Sg, GV R S0 S S2 E P (P + 1) h (h + 1) Γ2 Γ2 L L s ((0, t, 0) :: s) False 0 0 → GvQ R S0 S E P h Γ2 L s x p q b c S2 := fun S2 g => by
          refine ⟨P + 1, L, ?_, by omega, by omega, by omega⟩
          rw [hre, show wl ([(0, t, 0)] ++ s) = h + 1 from by rw [← hs]; exact wl_0t]
          exact ⟨g.1, g.2.1, g.2.2.1, by have := g.2.2.2.1; omega, by have := g.2.2.2.2.1; omega, g.2.2.2.2.2⟩
        rcases k1 with e0 | e0 | e0 <;> subst e0
        · exact Rt.ip rfl ((num_ (q := q) hN hA.1 hs (by omega) cc he k2 (by omega) ht (by omega)).mo (fun S2 _ g => fin S2 g))
        · exact Rt.iq (by decide) (Rt.ip rfl ((num_ (q := q) hN hA.1 hs (by omega) cc he k2 (by omega) ht (by omega)).mo (fun S2 _ g => fin S2 g)))
        · refine Rt.iq (by decide) (Rt.iq (by decide) (Rt.iq (by decide) (Rt.iq (by decide) (Rt.iq (by decide) (Rt.iq (by decide) (Rt.iq (by decide) (Rt.iq (by decide) (Rt.iq (by decide) (Rt.iq (by decide) (Rt.iq (by decide) (Rt.iq (by decide) (Rt.iq (by decide) (Rt.iq (by decide) (Rt.iq (by decide) (Rt.ip rfl ?_)))))))))))))))
          refine Rt.bd (cc.1.vi (by decide) (by decide) (oI_mk (hL e he) k2 (v := nI p) rfl)) ?_
          exact (inp_ (e := e) (V := f_give R.K d) hA.1 hs (by omega) cc (by omega) ht (by omega)).mo (fun S2 _ g => fin S2 g)
      · refine Rt.bd (rK k1 rfl) ?_
        rcases k5 with ⟨e0, e1, e2⟩ | ⟨e0, e1, _⟩ | ⟨e0, e1, e2⟩ | ⟨e0, e1, e2⟩ | ⟨e0, e1, e2⟩ <;> subst e0
        · exact Rt.iq (by decide) (Rt.iq (by decide) (Rt.iq (by decide) (Rt.iq (by decide) (Rt.ip rfl (inn151 hN hV he k1 k2 k3 k4 (Or.inl ⟨e1, e2⟩) cc k0 hA hs hh hq hP hl hr)))))
        · exact Rt.iq (by decide) (Rt.iq (by decide) (Rt.iq (by decide) (Rt.iq (by decide) (Rt.iq (by decide) (Rt.iq (by decide) (Rt.iq (by decide) (Rt.ip rfl (inn151 hN hV he k1 k2 k3 k4 (Or.inr e1) cc k0 hA hs hh hq hP hl hr))))))))
        · exact Rt.iq (by decide) (Rt.iq (by decide) (Rt.iq (by decide) (Rt.iq (by decide) (Rt.iq (by decide) (Rt.iq (by decide) (Rt.iq (by decide) (Rt.iq (by decide) (Rt.iq (by decide) (Rt.ip rfl (gun_ hN hV he k1 k2 k3 k4 (Or.inl ⟨rfl, e1, e2⟩) cc k0 hA hs hh hq hP hl hr))))))))))
        · exact Rt.iq (by decide) (Rt.iq (by decide) (Rt.iq (by decide) (Rt.iq (by decide) (Rt.iq (by decide) (Rt.iq (by decide) (Rt.iq (by decide) (Rt.iq (by decide) (Rt.iq (by decide) (Rt.iq (by decide) (Rt.ip rfl (gun_ hN hV he k1 k2 k3 k4 (Or.inr ⟨rfl, e1, e2⟩) cc k0 hA hs hh hq hP hl hr)))))))))))
        · refine Rt.iq (by decide) (Rt.iq (by decide) (Rt.iq (by decide) (Rt.iq (by decide) (Rt.iq (by decide) (Rt.iq (by decide) (Rt.iq (by decide) (Rt.iq (by decide) (Rt.iq (by decide) (Rt.iq (by decide) (Rt.iq (by decide) (Rt.iq (by decide) (Rt.iq (by decide) (Rt.ip rfl ?_)))))))))))))
          obtain ⟨gs, z1, z2, z3⟩ := xE_t12 k4
          exact gbx_ hN hV he k1 ⟨gs, z1, z2, z3⟩ k2 k3 k4 e1 e2 cc k0 hA hs hh hq hP hl hr
      · refine Rt.bd (rK k1 rfl) ?_
        refine Rt.iq (by decide) (Rt.iq (by decide) (Rt.iq (by decide) (Rt.iq (by decide) (Rt.iq (by decide) (Rt.iq (by decide) (Rt.iq (by decide) (Rt.iq (by decide) (Rt.iq (by decide) (Rt.iq (by decide) (Rt.iq (by decide) (Rt.iq (by decide) (Rt.ip rfl ?_))))))))))))
        refine Rt.bn (len_ (t := x) hL hY hEy hA hs (by omega) cc he k1 k3 (by omega) k4 k5 hq (k7.imp (fun w => w.1) (fun w => ⟨w.1, w.2.2⟩)) (by omega) (by omega) (hr.le (by omega) (by omega))) (fun S1 _ g => ?_)
        unfold f_give_251
        refine Rt.rt ⟨P + 1, L + 1, ?_, by omega, by omega, by omega⟩
        have hre : resE S0 x = [(if mu = 0 then 1 else 2, abV S0 y, 0)] := by
          rcases k7 with ⟨e0, e1⟩ | ⟨e0, e1, _⟩
          · have hr6 : rTy S0 x := Or.inr ⟨6, y, e1, Or.inl rfl, k5⟩
            rw [resE_r hY hr6, if_pos e0]
            rcases hr6.nm hY with ⟨_, _, w, _⟩ | ⟨kd, u, w1, w2, w3, w4⟩
            · exact absurd rfl (w 6 0 _ e1).1
            · obtain ⟨rfl, _, eo⟩ := isTy_fn w1 e1
              cases eo
              rcases w4 with ⟨_, _, w⟩ | ⟨w, _⟩
              · rw [w]
              · exact absurd w (by decide)
          · have hr6 : rTy S0 x := Or.inr ⟨7, y, e1, Or.inr rfl, k5⟩
            rw [resE_r hY hr6, if_neg (by rw [e0]; decide)]
            rcases hr6.nm hY with ⟨_, _, w, _⟩ | ⟨kd, u, w1, w2, w3, w4⟩
            · exact absurd rfl (w 7 0 _ e1).2
            · obtain ⟨rfl, _, eo⟩ := isTy_fn w1 e1
              cases eo
              rcases w4 with ⟨w, _⟩ | ⟨_, _, w⟩
              · exact absurd w (by decide)
              · rw [w]
        have hwl : wl (resE S0 x ++ s) = h + 1 := by
          rw [hre, ← hs]
          refine wl_n (fun w => ?_)
          have w : (if mu = 0 then 1 else 2) = 8 ∨ (if mu = 0 then 1 else 2) = 4 ∨ (if mu = 0 then 1 else 2) = 5 ∨ (if mu = 0 then 1 else 2) = 6 := w
          by_cases q : mu = 0
          · rw [if_pos q] at w; omega
          · rw [if_neg q] at w; omega
        rw [hwl, hre]
        exact ⟨g.1, g.2.1, g.2.2.1, by have := g.2.2.2.1; omega, by have := g.2.2.2.2.1; omega, g.2.2.2.2.2⟩
      · refine Rt.bd (rK k1 rfl) ?_
        refine Rt.iq (by decide) (Rt.iq (by decide) (Rt.iq (by decide) (Rt.iq (by decide) (Rt.iq (by decide) (Rt.iq (by decide) (Rt.iq (by decide) (Rt.iq (by decide) (Rt.ip rfl ?_))))))))
        refine Rt.bn (gchn hN hV he k1 k2 k3 k4 k5 k6 cc k0 hA hs hh hq hP hl hr) (fun S1 _ g => ?_)
        unfold f_give_251
        exact Rt.rt g
      · refine Rt.bd (rK k1 rfl) ?_
        refine Rt.iq (by decide) (Rt.iq (by decide) (Rt.iq (by decide) (Rt.ip rfl ?_)))
        unfold f_give_246 f_give_251
        obtain ⟨d1, d2, d3, d4, d5⟩ := k3.hd
        obtain ⟨go, rl, hC, c1, c2⟩ := cla_of hN he k1 k3 k4
        have hmh : h + mn ≤ 177 := by
          obtain ⟨k2', _, _, _, _, _, hli, _⟩ := lsK_c k4
          rcases hli with w | ⟨w, _⟩ <;> omega
        refine Rt.bn (glst hN hV he k1 k2 d2 (fun k hk => (d4 k hk).2) k4 cc k0 hA hs hh hmh hq hlt hP hl hr (fun S1 P1 L1 a1 a2 a3 => Rt.ip rfl ?_)) (fun S1 _ g => Rt.rt g)
        exact cll_ hN hC k1 rfl rfl rfl rfl hxt (by rw [hN.2.2.2.2.2.1]; exact d3) (fun k hk => by rw [hN.2.2.2.2.2.1]; exact d4 k hk) (by rw [hN.2.2.2.2.2.1]; exact d5) (fun k _ => c1 k) c2 ⟨(by obtain ⟨_, _, _, _, q, _⟩ := k3; exact q), d1⟩ a1 hA.1 (by omega) a2 (by omega) a3
      · refine Rt.bd (rK k1 rfl) ?_
        refine Rt.iq (by decide) (Rt.iq (by decide) (Rt.iq (by decide) (Rt.iq (by decide) (Rt.iq (by decide) (Rt.ip rfl ?_)))))
        unfold f_give_246 f_give_251
        obtain ⟨y1, y2, y3, y4⟩ := k3.y hY
        have hm1 : 1 ≤ mn := by
          obtain ⟨fs, s1, s2, s3, s4, s5, s6⟩ := k3
          exact hN.2.2.2.2.2.2.2.2.2.2.1 i mn fs s1 (by rw [s2]; decide) s4 s5 s6
        obtain ⟨k2', la, sa, cap, ps, bs, hli, _⟩ := lsK_c k5
        obtain ⟨w1, w2, w3, w4⟩ := hli.resolve_left (by omega)
        have hit := hN.2.2.2.1 i y4
        have h11 : Zq S0 11 i = some (R.ws i) := by rw [hN.2.2.2.2.2.2.2.2.1.1]; exact hit.2.1
        refine Rt.bn (glst hN hV he k1 k2 y3 (fun k hk => Or.inl (by obtain ⟨_, _, _, _, _, _, _, _, _, _, _, _, _, _, _, w⟩ := (k6 k hk).2.1; exact w)) k5 cc k0 hA hs hh (by omega) hq hlt hP hl hr (fun S1 P1 L1 a1 a2 a3 => Rt.iq (by decide) ?_)) (fun S1 _ g => Rt.rt g)
        refine Rt.bd (a1.1.vi (by decide) (by decide) (oI_mk (hL e he) k1 (v := 5) rfl)) (Rt.ip rfl ?_)
        exact nst_ hN he k1 rfl rfl rfl rfl rfl (by rw [w3]; rfl) (w4.2.2.1 rfl).1 (w4.2.2.1 rfl).2 w4.2.2.2.1 hm1 k3 h11 k4 k6 k7 a1 (by omega) a2 (by omega) a3
      · refine Rt.bd (rK k1 rfl) ?_
        refine Rt.iq (by decide) (Rt.iq (by decide) (Rt.iq (by decide) (Rt.iq (by decide) (Rt.iq (by decide) (Rt.iq (by decide) (Rt.ip rfl ?_))))))
        unfold f_give_246 f_give_251
        obtain ⟨y1, y2, y3, y4, y5, y6⟩ := k3.y hY
        have hmh : h + mn ≤ 177 := by
          obtain ⟨k2', _, _, _, _, _, hli, _⟩ := lsK_c k5
          rcases hli with w | ⟨w, _⟩ <;> omega
        refine Rt.bn (glst hN hV he k1 k2 y5 (fun k hk => Or.inl (y6 k hk).2) k5 cc k0 hA hs hh hmh hq hlt hP hl hr (fun S1 P1 L1 a1 a2 a3 => Rt.iq (by decide) ?_)) (fun S1 _ g => Rt.rt g)
        refine Rt.bd (a1.1.vi (by decide) (by decide) (oI_mk (hL e he) k1 (v := 6) rfl)) (Rt.iq (by decide) ?_)
        exact nva_ hN he k1 rfl rfl rfl rfl rfl k3 k4 a1 hA.1 (by omega) a2 (by omega)
end LY25
end
