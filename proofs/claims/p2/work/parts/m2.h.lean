section PS7
variable {R : yR} {S0 S S1 S2 Sr : Sg} {ws Ps Pe k n l : Nat} {I : Nat → iR}
theorem ov15 {w1 w2 va1 va2 n1 n2 s1 s2 t1 t2 : Nat} {f1 f2 : Nat → Int32} (a1 : w1 ∈ ZL S) (a2 : ZF S w1 = .inr (18, [.ref va1, .int (nI n1), .ref s1, .ref t1])) (a3 : s1 ∈ ZL S) (a4 : ZF S s1 = .inl (R.K.1 0, n1, .inl f1)) (b1 : w2 ∈ ZL S) (b2 : ZF S w2 = .inr (18, [.ref va2, .int (nI n2), .ref s2, .ref t2])) (b3 : s2 ∈ ZL S) (b4 : ZF S s2 = .inl (R.K.1 0, n2, .inl f2)) (h1 : n1 ≤ 5) (h2 : n2 ≤ 5) : ∀ (d n : Nat), 5 < n + d → n ≤ 5 → Rt (f_overlap_15 R.K d S (some w1) (some w2) (nI n)) (fun Sx r => Sx = S ∧ (r = 0 ∨ r = 1) ∧ (r = 0 → ∃ m : Nat, m < n1 ∧ m < n2 ∧ f1 m ≠ f2 m))
  | 0, n, hd, hn => by omega
  | d + 1, n, hd, hn => by
    unfold f_overlap_15
    have h54 : Rt (f_overlap_54 R.K S) (fun Sx r => Sx = S ∧ (r = 0 ∨ r = 1) ∧ (r = 0 → ∃ m : Nat, m < n1 ∧ m < n2 ∧ f1 m ≠ f2 m)) := by
      unfold f_overlap_54
      exact Rt.zr (Or.inr rfl) ⟨rfl, Or.inr rfl, fun w => absurd w (by decide)⟩
    refine Rt.bd (oI_mk a1 a2 (v := nI n1) rfl) (Rt.it (fun _ => h54) (fun w => ?_))
    have hl1 : n < n1 := by
      by_cases q : n < n1
      · exact q
      · exact absurd (nI_le (a := n1) (b := n) (by omega) (by omega)) w
    refine Rt.bd (oI_mk b1 b2 (v := nI n2) rfl) (Rt.it (fun _ => h54) (fun w2 => ?_))
    have hl2 : n < n2 := by
      by_cases q : n < n2
      · exact q
      · exact absurd (nI_le (a := n2) (b := n) (by omega) (by omega)) w2
    refine Rt.bd (oR_mk a1 a2 (v := some s1) rfl) (Rt.bd (aI_n a3 a4 hl1 (by omega)) (Rt.bd (oR_mk b1 b2 (v := some s2) rfl) (Rt.bd (aI_n b3 b4 hl2 (by omega)) (Rt.it (fun _ => ?_) (fun w3 => ?_)))))
    · rw [nI_1]
      exact ov15 a1 a2 a3 a4 b1 b2 b3 b4 h1 h2 d (n + 1) (by omega) (by omega)
    · exact Rt.zr (Or.inl rfl) ⟨rfl, Or.inl rfl, fun _ => ⟨n, hl1, hl2, w3⟩⟩
theorem lCmp_get {a b : lLc} (h : lCmp a b) {m : Nat} (h1 : m < a.length) (h2 : m < b.length) : a[m]? = b[m]? := by
  rcases h with ⟨s, rfl⟩ | ⟨s, rfl⟩
  · rw [List.getElem?_append_left h1]
  · rw [List.getElem?_append_left h2]
/-- overlap -/
theorem ovl_ {w1 w2 : Nat} (p1 : pOb R S w1) (p2 : pOb R S w2) : Rt (f_overlap R.K S (some w1) (some w2)) (fun Sx r => Sx = S ∧ (r = 0 ∨ r = 1) ∧ (r = 0 → ∀ (va v1 v2 T1 T2 : Nat) (ρ1 ρ2 : lLc), isPt R S0 S w1 v1 ρ1 T1 → isPt R S0 S w2 v2 ρ2 T2 → pVa S w1 va → pVa S w2 va → ¬ lCmp ρ1 ρ2)) := by
  obtain ⟨va1, n1, s1, t1, f1, g1, a1, a2, a3, a4, a5⟩ := p1
  obtain ⟨va2, n2, s2, t2, f2, g2, b1, b2, b3, b4, b5⟩ := p2
  unfold f_overlap
  refine Rt.bd (oR_mk a1 a2 (v := some va1) rfl) (Rt.bd (oR_mk b1 b2 (v := some va2) rfl) (Rt.it (fun w => ?_) (fun w => ?_)))
  · refine (ov15 a1 a2 a3.1 a3.2 b1 b2 b3.1 b3.2 a5 b5 bigN 0 (by unfold bigN; omega) (Nat.zero_le _)).mo (fun Sx r ⟨q1, q2, q3⟩ => ⟨q1, q2, fun r0 va v1 v2 T1 T2 ρ1 ρ2 i1 i2 _ _ hc => ?_⟩)
    obtain ⟨m, m1, m2, m3⟩ := q3 r0
    obtain ⟨_, sa1, ta1, ff1, gg1, _, c1, c2, _, c4, _, c6, _⟩ := i1
    obtain ⟨_, sa2, ta2, ff2, gg2, _, d1, d2, _, d4, _, d6, _⟩ := i2
    rw [a2] at c2
    rw [b2] at d2
    obtain ⟨_, e2⟩ := Prod.mk.inj (Sum.inr.inj c2)
    injection e2 with _ e2
    injection e2 with e3 e2
    injection e2 with e4 e2
    injection e3 with e3
    injection e4 with e4
    obtain ⟨_, g2⟩ := Prod.mk.inj (Sum.inr.inj d2)
    injection g2 with _ g2
    injection g2 with g3 g2
    injection g2 with g4 g2
    injection g3 with g3
    injection g4 with g4
    subst e4; subst g4
    have l1 : n1 = ρ1.length := by
      have := a3.2.symm.trans c4.2; cases this; rfl
    have l2 : n2 = ρ2.length := by
      have := b3.2.symm.trans d4.2; cases this; rfl
    have x1 : f1 = ff1 := by have := a3.2.symm.trans c4.2; rw [← l1] at this; cases this; rfl
    have x2 : f2 = ff2 := by have := b3.2.symm.trans d4.2; rw [← l2] at this; cases this; rfl
    subst x1; subst x2
    have hg := lCmp_get hc (m := m) (by omega) (by omega)
    have h1 := List.getElem?_eq_getElem (l := ρ1) (i := m) (by omega)
    have y1 := (c6 m _ h1).1
    have y2 := (d6 m _ (hg.symm.trans h1)).1
    exact m3 (y1.trans y2.symm)
  · refine Rt.zr (Or.inl rfl) ⟨rfl, Or.inl rfl, fun _ va v1 v2 T1 T2 ρ1 ρ2 _ _ ⟨gs1, u1, u2⟩ ⟨gs2, z1, z2⟩ _ => w ?_⟩
    rw [a2] at u1; cases u1
    rw [b2] at z1; cases z1
    cases u2; cases z2; rfl
theorem hs2 {w va n1 s1 t1 : Nat} {f1 : Nat → Int32} (a1 : w ∈ ZL S) (a2 : ZF S w = .inr (18, [.ref va, .int (nI n1), .ref s1, .ref t1])) (a3 : s1 ∈ ZL S) (a4 : ZF S s1 = .inl (R.K.1 0, n1, .inl f1)) (h1 : n1 ≤ 5) : ∀ (d n : Nat), 5 < n + d → n ≤ n1 → (∀ m : Nat, m < n → f1 m ≠ -1) → Rt (f_hasStar_2 R.K d S (some w) (nI n)) (fun Sx r => Sx = S ∧ ((r = 1 ∧ ∃ m : Nat, m < n1 ∧ f1 m = -1) ∨ (r = 0 ∧ ∀ m : Nat, m < n1 → f1 m ≠ -1)))
  | 0, n, hd, hn, _ => by omega
  | d + 1, n, hd, hn, hm => by
    unfold f_hasStar_2
    refine Rt.bd (oI_mk a1 a2 (v := nI n1) rfl) (Rt.it (fun q => ?_) (fun q => ?_))
    · have : n1 ≤ n := (nI_leI (by omega) (by omega)).mp q
      exact Rt.zr (Or.inl rfl) ⟨rfl, Or.inr ⟨rfl, fun m h => hm m (by omega)⟩⟩
    · have hlt : n < n1 := by
        by_cases q2 : n < n1
        · exact q2
        · exact absurd (nI_le (a := n1) (b := n) (by omega) (by omega)) q
      refine Rt.bd (oR_mk a1 a2 (v := some s1) rfl) (Rt.bd (aI_n a3 a4 hlt (by omega)) (Rt.it (fun q2 => ?_) (fun q2 => ?_)))
      · exact Rt.zr (Or.inr rfl) ⟨rfl, Or.inl ⟨rfl, n, hlt, q2⟩⟩
      · rw [nI_1]
        refine hs2 a1 a2 a3 a4 h1 d (n + 1) (by omega) (by omega) (fun m h => ?_)
        by_cases e : m = n
        · rw [e]; exact q2
        · exact hm m (by omega)
/-- hasStar, of any path -/
theorem hst0 {w : Nat} (p : pOb R S w) : Rt (f_hasStar R.K S (some w)) (fun Sx r => Sx = S ∧ (r = 0 ∨ r = 1)) := by
  obtain ⟨va, n1, s1, t1, f1, g1, a1, a2, a3, a4, a5⟩ := p
  unfold f_hasStar
  exact (hs2 a1 a2 a3.1 a3.2 a5 bigN 0 (by unfold bigN; omega) (Nat.zero_le _) (fun m h => by omega)).mo (fun Sx r ⟨q1, q2⟩ => ⟨q1, q2.elim (fun q => Or.inr q.1) (fun q => Or.inl q.1)⟩)
theorem isPt.po {w v T : Nat} {ρ : lLc} (q : isPt R S0 S w v ρ T) : pOb R S w := by
  obtain ⟨va, sa, ta, f, g, mu, q1, q2, _, q4, q5, _, _, _, q9⟩ := q
  exact ⟨va, ρ.length, sa, ta, f, g, q1, q2, q4, q5, q9⟩
/-- a meeting that is let pass -/
def MtP (i : iR) (sh : Int32) (ρ : lLc) (T : Nat) : Prop := ((i.ac = 1 ∨ i.ac = 2) ∧ sh ≠ 0) ∨ ((i.ac = 7 ∨ i.ac = 6) ∧ ρ = [] ∧ isRf T)
/-- meets -/
theorem mts_ (hC : PCx R S0 S ws Ps Pe I) (hY : YK R S0) (hx0 : LX S0 S) (h1 : Ps ≤ k) (h2 : k < Pe) (hl : l < 160) (hp : Zq S 43 l = none ∨ ∃ w : Nat, Zq S 43 l = some w ∧ pOb R S w) : Rt (f_meets R.K S (nI k) (nI l)) (fun Sx r => Sx = S ∧ (r = 0 ∨ r = 1) ∧ (r = 0 → ∀ (v T w2 v2 T2 : Nat) (ρ ρ2 : lLc), (I k).pa = some (v, ρ, T) → (I k).ac ≠ 0 → Zq S 43 l = some w2 → isPt R S0 S w2 v2 ρ2 T2 → pVa S w2 (I k).n2 → lCmp ρ ρ2 → MtP (I k) (Zr S 44 l) ρ T)) := by
  obtain ⟨hz, hs, hsl, hb⟩ := hC.2.2.2 k h1 h2
  have h24 := hC.2.1
  obtain ⟨_, _, q3, q4, _, _, _, _, _, q10, _⟩ := hz
  have r33 : rI S 33 (nI k) = some (nI (I k).ac) := by rw [rI_n (show k < rlen 33 from by show k < 24000; omega) (by decide), q3]
  have r38 : rQ S 38 (nI k) = some (Zq S 38 k) := rQ_n (show k < rlen 38 from by show k < 24000; omega) (by decide)
  have r43 : rQ S 43 (nI l) = some (Zq S 43 l) := rQ_n (show l < rlen 43 from hl) (by decide)
  have r44 : rI S 44 (nI l) = some (Zr S 44 l) := rI_n (show l < rlen 44 from hl) (by decide)
  unfold f_meets
  refine Rt.bd r33 (Rt.bd r38 ?_)
  have h61 : ∀ {Q : Sg → Int32 → Prop}, Q S 0 → Rt (f_meets_61 R.K S) Q := fun q => by
    unfold f_meets_61; exact Rt.zr (Or.inl rfl) q
  have hac : ∀ {a : Nat}, a < 8 → (nI (I k).ac = nI a ↔ (I k).ac = a) := fun ha => ⟨fun e => nI_e (by omega) (by omega) e, fun e => by rw [e]⟩
  refine Rt.it (fun w => h61 ⟨rfl, Or.inl rfl, fun _ v T w2 v2 T2 ρ ρ2 _ q => absurd ((hac (a := 0) (by decide)).mp w) q⟩) (fun w => ?_)
  have hac0 : (I k).ac ≠ 0 := fun e => w (by rw [e]; rfl)
  refine Rt.bd r43 (Rt.it (fun w2 => h61 ⟨rfl, Or.inl rfl, fun _ v T w3 v2 T2 ρ ρ2 _ _ q => by rw [w2] at q; cases q⟩) (fun w2 => ?_))
  obtain ⟨wl', hw1, hw2⟩ := hp.resolve_left w2
  rcases q10 with ⟨_, q⟩ | ⟨wp, v, T, ρ, c1, c2, c3, c4⟩
  · exact absurd q (hb.2.2.2.2.2.2 hac0)
  · refine Rt.bd r43 ?_
    rw [c1, hw1]
    refine Rt.bn (ovl_ (S0 := S0) c3.po hw2) (fun S5 r5 t5 => ?_)
    obtain ⟨rfl, t6, t7⟩ := t5
    refine Rt.it (fun w3 => h61 ⟨rfl, Or.inl rfl, fun _ v' T' w3' v2 T2 ρ' ρ2 e1 _ e2 e3 e4 e5 => ?_⟩) (fun w3 => ?_)
    · rw [c2] at e1; cases e1
      cases e2
      exact absurd e5 (t7 w3 _ _ _ _ _ _ _ c3 e3 c4 e4)
    · -- a meeting, unless it is let pass
      have h122 : ∀ {Q : Sg → Int32 → Prop}, Q S5 1 → Rt (f_meets_122 R.K S5) Q := fun q => by
        unfold f_meets_122 f_meets_123 f_meets_135
        exact Rt.ip rfl (Rt.zr (Or.inr rfl) q)
      have one : (fun (Sx : Sg) (r : Int32) => Sx = S5 ∧ (r = 0 ∨ r = 1) ∧ (r = 0 → ∀ (v T w2 v2 T2 : Nat) (ρ ρ2 : lLc), (I k).pa = some (v, ρ, T) → (I k).ac ≠ 0 → some wl' = some w2 → isPt R S0 S5 w2 v2 ρ2 T2 → pVa S5 w2 (I k).n2 → lCmp ρ ρ2 → MtP (I k) (Zr S5 44 l) ρ T)) S5 1 := ⟨rfl, Or.inr rfl, fun e => absurd e (by decide)⟩
      have h75 : ((I k).ac = 7 ∨ (I k).ac = 6) → Rt (f_meets_75 R.K S5 (nI l) (some wp)) (fun (Sx : Sg) (r : Int32) => Sx = S5 ∧ (r = 0 ∨ r = 1) ∧ (r = 0 → ∀ (v T w2 v2 T2 : Nat) (ρ ρ2 : lLc), (I k).pa = some (v, ρ, T) → (I k).ac ≠ 0 → some wl' = some w2 → isPt R S0 S5 w2 v2 ρ2 T2 → pVa S5 w2 (I k).n2 → lCmp ρ ρ2 → MtP (I k) (Zr S5 44 l) ρ T)) := fun hac7 => by
        obtain ⟨va, sa, ta, f, g, mu, p1, p2, p3, p4, p5, p6, p7, p8, p9⟩ := c3
        have hT : aQ R.K 4 S5 (some ta) (nI 0) = some (g 0) := aQ_n p5.1 p5.2 (by omega) (by omega)
        unfold f_meets_75
        refine Rt.bd (oI_mk p1 p2 (v := nI ρ.length) rfl) (Rt.it (fun y1 => ?_) (fun _ => h122 one))
        have hρ : ρ = [] := List.length_eq_zero_iff.mp (nI_e (b := 0) (by omega) (by decide) y1)
        refine Rt.bd (oR_mk p1 p2 (v := some ta) rfl) (Rt.bd hT (Rt.it (fun _ => h122 one) (fun y2 => ?_)))
        cases hg : g 0 with
        | none => exact absurd hg y2
        | some x =>
          have hrx : rTy S0 x := p7 0 x (Nat.zero_le _) hg
          obtain ⟨kd, ix, o, qt, _⟩ := hrx.ty
          refine Rt.bd (oR_mk p1 p2 (v := some ta) rfl) (Rt.bd hT ?_)
          rw [hg]
          refine Rt.be (ref_ (hx0.ty qt)) ?_
          by_cases hk : kd = 6 ∨ kd = 7
          · rw [if_pos hk]
            refine Rt.iq (by decide) (Rt.bd r43 ?_)
            rw [hw1]
            refine Rt.bn (hst0 hw2) (fun S6 r6 t6 => ?_)
            obtain ⟨rfl, _⟩ := t6
            refine Rt.it (fun _ => h122 one) (fun _ => ?_)
            unfold f_meets_123 f_meets_135
            refine Rt.iq (by decide) (Rt.zr (Or.inl rfl) ⟨rfl, Or.inl rfl, fun _ v' T' w3' v2 T2 ρ' ρ2 e1 _ _ _ _ _ => Or.inr ⟨hac7, ?_⟩⟩)
            rw [c2] at e1; cases e1
            refine ⟨hρ, ?_⟩
            rw [p8, hρ, show g [].length = g 0 from rfl, hg]
            exact (hrx.rf hY qt).mpr hk
          · rw [if_neg hk]
            exact Rt.ip rfl (h122 one)
      have h63 : Rt (f_meets_63 R.K S5 (nI l) (nI (I k).ac) (some wp)) (fun (Sx : Sg) (r : Int32) => Sx = S5 ∧ (r = 0 ∨ r = 1) ∧ (r = 0 → ∀ (v T w2 v2 T2 : Nat) (ρ ρ2 : lLc), (I k).pa = some (v, ρ, T) → (I k).ac ≠ 0 → some wl' = some w2 → isPt R S0 S5 w2 v2 ρ2 T2 → pVa S5 w2 (I k).n2 → lCmp ρ ρ2 → MtP (I k) (Zr S5 44 l) ρ T)) := by
        unfold f_meets_63
        refine Rt.it (fun y => h75 (Or.inl ((hac (a := 7) (by decide)).mp y))) (fun _ => Rt.it (fun y => h75 (Or.inr ((hac (a := 6) (by decide)).mp y))) (fun _ => h122 one))
      have h52 : ((I k).ac = 1 ∨ (I k).ac = 2) → Rt (f_meets_52 R.K S5 (nI l) (nI (I k).ac) (some wp)) (fun (Sx : Sg) (r : Int32) => Sx = S5 ∧ (r = 0 ∨ r = 1) ∧ (r = 0 → ∀ (v T w2 v2 T2 : Nat) (ρ ρ2 : lLc), (I k).pa = some (v, ρ, T) → (I k).ac ≠ 0 → some wl' = some w2 → isPt R S0 S5 w2 v2 ρ2 T2 → pVa S5 w2 (I k).n2 → lCmp ρ ρ2 → MtP (I k) (Zr S5 44 l) ρ T)) := fun hac1 => by
        unfold f_meets_52
        exact Rt.bd r44 (Rt.it (fun _ => h63) (fun y => h61 ⟨rfl, Or.inl rfl, fun _ v' T' w3' v2 T2 ρ' ρ2 _ _ _ _ _ _ => Or.inl ⟨hac1, y⟩⟩))
      exact Rt.it (fun y => h52 (Or.inl ((hac (a := 1) (by decide)).mp y))) (fun _ => Rt.it (fun y => h52 (Or.inr ((hac (a := 2) (by decide)).mp y))) (fun _ => h63))
end PS7
