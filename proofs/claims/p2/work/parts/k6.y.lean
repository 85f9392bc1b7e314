theorem sub3 {A B C D : Nat} (h1 : C ≤ A) (h2 : A ≤ B) : D + (A - C) + (B - A) = D + (B - C) := by omega
theorem ROW.q {R : yR} {S : Sg} (hK : yRm R) (h : ROW R S) {a n j : Nat} {f : vRw} (ha : a ∈ ZL R.S) (hF : ZF R.S a = .inl (R.K.1 j, n, f)) (hj : j < 14) (h0 : j ≠ 0) (h4 : j ≠ 4) (h5 : j ≠ 5) : nXo R a ∧ ZF S a = .inl (R.K.1 j, n, f) := ⟨nXo.ro ha hF (Or.inl (hK.2.2 j 5 hj (by decide) h5)), (h a n _ f ha hF (hK.2.2 j 0 hj (by decide) h0) (hK.2.2 j 4 hj (by decide) h4) (hK.2.2 j 5 hj (by decide) h5)).trans hF⟩
section TIF
variable {R : yR} {c nv : Nat} {S : Sg} {Γ Λ : List Nat} {fi gv : Nat}
/-- if -/
theorem tif_ (hK : yRm R) {V : Sg → Option Nat → Option (Sg × Unit)} {n : Nat} (hV : BH R fi gv n V) (h : YS R c nv S Γ Λ fi gv) {a p q b b2 v w ca ba cap mn : Nat} {f g : Nat → Option Nat} (hz : Zi S 3 = 0) (hΛ : Λ.length = v) (hw : w ≤ 40) (hnv : nv + (w - v) ≤ 10000) (hc : c + (q - p) ≤ 1990) (ha : a ∈ ZL R.S) (hG : ZF R.S a = sxC 3 p 0 0 0 .null .null .null .null (.ref ca) (.ref ba) .null mn) (hF : ZF S a = ZF R.S a) (hpq : p < q) (hmn : 1 ≤ mn) (hcap : mn ≤ cap) (hca : ca ∈ ZL R.S) (hba : ba ∈ ZL R.S) (hfa : ZF R.S ca = .inl (R.K.1 9, cap, .inr (.inr (.inr (.inr f))))) (hga : ZF R.S ba = .inl (R.K.1 10, cap, .inr (.inr (.inr (.inr g))))) (hls : ∀ i : Nat, i < mn → f i = none → i + 1 = mn) (hJ : chJ (fun i y p1 q1 b1 c1 v1 w1 => ∃ p0 b0 : Nat, ((f i = none ∧ b0 = b1) ∨ ∃ x p' q0 : Nat, f i = some x ∧ p1 < p' ∧ q0 ≤ p0 ∧ isE (ZL R.S) (ZF R.S) (R.K.1 9) (R.K.1 0) 408 16 x p' q0 b1 b0) ∧ p1 ≤ p0 ∧ isQ R n 1 y p0 q1 b0 c1 v1 w1) g mn p q b b2 v w) (hU : Unt R S p q) (hq : q ≤ R.T) : Rt (f_typeStatement_82 R.K V bigN S (some a) 0) (fun S2 _ => StP R c nv S Γ Λ fi gv (n + 1) 0 a p q b b2 v w (0, 0, 0) S2) := by
  have hT := h.1.tb
  have ho : ownT (ZF R.S) a = some p := own_s hG (by omega)
  have c1 := hF.trans hG
  obtain ⟨nca, _⟩ := h.2.2.2.2.1.q hK hca hfa (by decide) (by decide) (by decide) (by decide)
  obtain ⟨nba, _⟩ := h.2.2.2.2.1.q hK hba hga (by decide) (by decide) (by decide) (by decide)
  obtain ⟨ps, bs, vs, xs, j1, j2, j3, j4, j5, j6, j7, j8⟩ := chJ_fn hJ (fun i x p q b c v w ⟨p0, b0, _, z2, z3⟩ => ⟨by have := (isN_lt z3).2; omega, isN_vw z3⟩)
  have hmq : mn ≤ 100000 := by
    have : ∀ d : Nat, d ≤ mn → d ≤ ps d := by
      intro d
      induction d with
      | zero => exact fun _ => Nat.zero_le _
      | succ d ih =>
        intro hd
        have := ih (by omega)
        obtain ⟨_, p0, b0, _, z2, z3⟩ := j7 d (by omega)
        have := (isN_lt z3).2
        omega
    have := this mn (Nat.le_refl _)
    omega
  have hcell : ∀ {S1 : Sg}, VX R (Xo R (p + 1) q) S S1 → ZF S1 a = sxC 3 p 0 0 0 .null .null .null .null (.ref ca) (.ref ba) .null mn := fun {S1} v1 => (v1.2.1 a ha (fun x => Xo_dj (Or.inl ⟨p, ho, Nat.le_refl p, Nat.lt_succ_self p⟩) x (Or.inl (Nat.le_refl _)))).trans c1
  have hloop : ∀ (m k : Nat) {S1 : Sg} {c9 nv9 : Nat}, mn < k + m → k ≤ mn → TS R c9 nv9 S1 → c9 ≤ c + (q - p) → nv9 ≤ nv + (w - v) → VX R (Xo R (p + 1) q) S S1 → (Zi S1 3 = 0 → VX R (Xo R (p + 1) (ps k)) S S1 ∧ ∃ Λ1 : List Nat, YS R (c + (ps k - p)) (nv + (vs k - v)) S1 Γ Λ1 fi gv ∧ pfx Λ Λ1 ∧ Λ1.length = vs k ∧ (∀ k9 : Nat, k9 < Γ.length → Zq S1 22 k9 = Zq S 22 k9) ∧ ∀ i : Nat, i < k → ∃ p0 b0 : Nat, ((f i = none ∧ b0 = bs i) ∨ ∃ x p' q0 t : Nat, f i = some x ∧ ps i < p' ∧ q0 ≤ p0 ∧ xE R S1 Γ 408 16 x p' q0 (bs i) b0 t ∧ isTy S1 t 1 0 none) ∧ ps i ≤ p0 ∧ sN R S1 Λ1 gv n 1 (xs i) p0 (ps (i + 1)) b0 (bs (i + 1)) (vs i) (vs (i + 1)) Γ Γ (0, 0, 0)) → Rt (f_typeStatement_82 R.K V m S1 (some a) (nI k)) (fun S2 _ => StP R c nv S Γ Λ fi gv (n + 1) 0 a p q b b2 v w (0, 0, 0) S2) := by
    intro m
    induction m with
    | zero => intro k S1 c9 nv9 a b; omega
    | succ m ih =>
      intro k S1 c9 nv9 hk1 hk2 t1 hc9 hn9 v1 g1
      have ce := hcell v1
      have he1 := t1.L ha
      have hend : (Zi S1 3 = 0 → k = mn) → Rt (f_typeStatement_139 R.K V S1) (fun S2 _ => StP R c nv S Γ Λ fi gv (n + 1) 0 a p q b b2 v w (0, 0, 0) S2) := fun hkk => by
        unfold f_typeStatement_139 f_typeStatement_238
        refine Rt.rt ⟨c9, nv9, hc9, hn9, t1, v1.mo (fun a w => Xo_mo w (by omega) (Nat.le_refl _)), fun z => ?_⟩
        obtain ⟨v2, Λ1, d1, d2, d3, d4, d5⟩ := g1 z
        have hk := hkk z
        subst hk
        rw [j2, j6] at d1
        exact ⟨Γ, Λ1, d1, d2, d3.trans j6, d4, ⟨ha, ho, hpq⟩, Or.inr (Or.inr (Or.inr (Or.inl ⟨ca, ba, cap, k, f, g, ce, hmn, hcap, nca, nba, (d1.2.2.2.2.1.q hK hca hfa (by decide) (by decide) (by decide) (by decide)).2, (d1.2.2.2.2.1.q hK hba hga (by decide) (by decide) (by decide) (by decide)).2, hls, rfl, ps, bs, vs, j1, j2, j3, j4, j5, j6, fun i hi => ⟨xs i, (j7 i hi).1, d5 i hi⟩⟩)))⟩
      unfold f_typeStatement_82
      refine Rt.bd (oI_mk he1 ce (v := nI mn) rfl) (Rt.it (fun w9 => hend (fun _ => ?_)) (fun w9 => ?_))
      · have := (nI_leI (a := mn) (b := k) (by omega) (by omega)).mp w9; omega
      have hlt : k < mn := by
        rcases Nat.lt_or_ge k mn with z | z
        · exact z
        · exact absurd (nI_le z (by omega)) w9
      refine Rt.ok (fun z1 => ?_) (fun z1 => hend (fun w => absurd w z1))
      obtain ⟨v2, Λ1, d1, d2, d3, d4, d5⟩ := g1 z1
      obtain ⟨_, p0, b0, k1, k3, k4⟩ := j7 k hlt
      have hl4 := (isN_lt k4).2
      have hm1 := j8 0 k (by omega) hk2; have hm2 := j8 (k + 1) mn (by omega) (Nat.le_refl _); have hm3 := j8 k (k + 1) (by omega) (by omega)
      rw [j1, j5] at hm1
      rw [j2, j6] at hm2
      -- the block
      have h116 : ∀ (S2 : Sg) (c2 : Nat), YS R c2 (nv + (vs k - v)) S2 Γ Λ1 fi gv → c2 ≤ c + (p0 - p) → VX R (Xo R (p + 1) p0) S S2 → Zq S2 22 = Zq S1 22 → (Zi S2 3 = 0 → ((f k = none ∧ b0 = bs k) ∨ ∃ x p' q0 t : Nat, f k = some x ∧ ps k < p' ∧ q0 ≤ p0 ∧ xE R S2 Γ 408 16 x p' q0 (bs k) b0 t ∧ isTy S2 t 1 0 none) ∧ ∀ i : Nat, i < k → ∃ p0 b0 : Nat, ((f i = none ∧ b0 = bs i) ∨ ∃ x p' q0 t : Nat, f i = some x ∧ ps i < p' ∧ q0 ≤ p0 ∧ xE R S2 Γ 408 16 x p' q0 (bs i) b0 t ∧ isTy S2 t 1 0 none) ∧ ps i ≤ p0 ∧ sN R S2 Λ1 gv n 1 (xs i) p0 (ps (i + 1)) b0 (bs (i + 1)) (vs i) (vs (i + 1)) Γ Γ (0, 0, 0)) → Rt (f_typeStatement_116 R.K V (f_typeStatement_82 R.K V m) S2 (some a) (nI k)) (fun S2 _ => StP R c nv S Γ Λ fi gv (n + 1) 0 a p q b b2 v w (0, 0, 0) S2) := fun S2 c2 y2 hc2 v02 hz2 g2 => by
        unfold f_typeStatement_116 f_typeStatement_133
        rw [nI_1]
        refine Rt.ok (fun z2 => ?_) (fun z2 => ih (k + 1) (by omega) (by omega) y2.1 (by omega) (by omega) (v02.mo (fun a w => Xo_mo w (Nat.le_refl _) (by omega))) (fun w => absurd w z2))
        have v02' : VX R (Xo R (p + 1) q) S S2 := v02.mo (fun a w => Xo_mo w (Nat.le_refl _) (by omega))
        have hbr := (y2.2.2.2.2.1.q hK hba hga (by decide) (by decide) (by decide) (by decide)).2
        refine Rt.bd (oR_mk (y2.1.L ha) (hcell v02') (v := some ba) rfl) (Rt.bd (aQ_j (y2.1.L hba) hbr (show k < cap by omega) (by omega)) ?_)
        rw [(j7 k hlt).1]
        have hU2 : Unt R S2 (p0 + 1) (ps (k + 1)) := fun a9 ha9 w9 => (v02.2.1 a9 ha9 (fun x9 => Xo_dj w9 x9 (Or.inr (by omega)))).trans (hU a9 ha9 (Xo_mo w9 (by omega) (by omega)))
        refine Rt.bn (hV c2 (nv + (vs k - v)) S2 Γ Λ1 (xs k) p0 (ps (k + 1)) b0 (bs (k + 1)) (vs k) (vs (k + 1)) y2 z2 d3 (by omega) (by omega) (by omega) k4 hU2 (by omega)) (fun S3 _ q3 => ?_)
        obtain ⟨c3, nv3, e1, e2, e3, e4, e5⟩ := q3
        have v03 : VX R (Xo R (p + 1) (ps (k + 1))) S S3 := (v02.mo (fun a w => Xo_mo w (Nat.le_refl _) (by omega))).tr e4 (fun a w => Xo_mo w (by omega) (Nat.le_refl _))
        refine ih (k + 1) (by omega) (by omega) e3 (by omega) (by omega) (v03.mo (fun a w => Xo_mo w (Nat.le_refl _) (by omega))) (fun z3 => ⟨v03, ?_⟩)
        obtain ⟨Λ2, l1, l2, l3, l4, l5⟩ := e5 z3
        obtain ⟨g3, g4⟩ := g2 z2
        have hcnd : ∀ i p9 b9 : Nat, p9 ≤ p0 → ((f i = none ∧ b9 = bs i) ∨ ∃ x p' q0 t : Nat, f i = some x ∧ ps i < p' ∧ q0 ≤ p9 ∧ xE R S2 Γ 408 16 x p' q0 (bs i) b9 t ∧ isTy S2 t 1 0 none) → ((f i = none ∧ b9 = bs i) ∨ ∃ x p' q0 t : Nat, f i = some x ∧ ps i < p' ∧ q0 ≤ p9 ∧ xE R S3 Γ 408 16 x p' q0 (bs i) b9 t ∧ isTy S3 t 1 0 none) := fun i p9 b9 hp9 z => z.imp id (fun ⟨x, p', q0, t, m1, m2, m3, m4, m5⟩ => ⟨x, p', q0, t, m1, m2, m3, xE_vx e4 m4 (e4.fr (Or.inl (by omega))), e4.2.2.2.1 _ _ _ _ m5⟩)
        refine ⟨Λ2, ?_, d2.tr l2, l3, fun k9 hk9 => by rw [l4 k9 hk9, hz2]; exact d4 k9 hk9, fun i hi => ?_⟩
        · have := l1.up (c2 := c + (ps (k + 1) - p)) (by omega)
          rw [sub3 hm1.2 hm3.2] at this
          exact this
        · by_cases e0 : i = k
          · subst e0
            exact ⟨p0, b0, hcnd i p0 b0 (Nat.le_refl _) g3, k3, l5⟩
          · obtain ⟨p9, b9, m1, m2, m3⟩ := g4 i (by omega)
            have hmi := j8 (i + 1) k (by omega) hk2
            have := sN_lt m3
            exact ⟨p9, b9, hcnd i p9 b9 (by omega) m1, m2, sN_vx e4 l2 m3 (Or.inl (by omega))⟩
      have hcr := (d1.2.2.2.2.1.q hK hca hfa (by decide) (by decide) (by decide) (by decide)).2
      refine Rt.bd (oR_mk he1 ce (v := some ca) rfl) (Rt.bd (aQ_j (t1.L hca) hcr (show k < cap by omega) (by omega)) ?_)
      rcases k1 with ⟨w1, w2⟩ | ⟨x, p', q0, w1, w2, w3, w4⟩
      · rw [w1]
        exact Rt.ip rfl (h116 S1 _ d1 (by omega) (v2.mo (fun a w => Xo_mo w (Nat.le_refl _) (by omega))) rfl (fun _ => ⟨Or.inl ⟨w1, w2⟩, d5⟩))
      · rw [w1]
        have hlx := (isE_mem w4).2
        have hU1 : Unt R S1 p' q0 := fun a9 ha9 w9 => (v2.2.1 a9 ha9 (fun x9 => Xo_dj w9 x9 (Or.inr (by omega)))).trans (hU a9 ha9 (Xo_mo w9 (by omega) (by omega)))
        refine Rt.iq (by simp) (Rt.bd (oR_mk he1 ce (v := some ca) rfl) (Rt.bd (aQ_j (t1.L hca) hcr (show k < cap by omega) (by omega)) ?_))
        rw [w1]
        refine Rt.bn (cnd_ hK (by omega) d1 (show c + (ps k - p) + (q0 - p') ≤ 1990 by omega) w4 hU1 (by omega)) (fun S2 _ q2 => ?_)
        obtain ⟨y1, y2, y3, y4⟩ := q2
        refine h116 S2 _ y1 (by omega) ((v2.mo (fun a w => Xo_mo w (Nat.le_refl _) (by omega))).tr y2 (fun a w => Xo_mo w (by omega) (by omega))) y3.2.2.1.1 (fun z2 => ⟨Or.inr ?_, fun i hi => ?_⟩)
        · obtain ⟨t, x1, x2⟩ := y4 z2
          exact ⟨x, p', q0, t, w1, w2, w3, x1, x2⟩
        · obtain ⟨p9, b9, m1, m2, m3⟩ := d5 i hi
          have hmi := j8 (i + 1) k (by omega) hk2
          have := sN_lt m3
          exact ⟨p9, b9, m1.imp id (fun ⟨x, p8, q8, t, n1, n2, n3, n4, n5⟩ => ⟨x, p8, q8, t, n1, n2, n3, xE_vx y2 n4 (y2.fr (Or.inl (by omega))), y2.2.2.2.1 _ _ _ _ n5⟩), m2, sN_vx y2 pfx.rf m3 (Or.inl (by omega))⟩
  have hst := hloop bigN 0 (S1 := S) (by show mn < 0 + 1000000000000; omega) (Nat.zero_le _) h.1 (by omega) (by omega) VX.rf (fun _ => ⟨VX.rf, Λ, by rw [j1, j5, Nat.sub_self, Nat.sub_self]; exact h, pfx.rf, hΛ.trans j5.symm, fun _ _ => rfl, fun i hi => absurd hi (by omega)⟩)
  exact hst
end TIF
