section BLK
variable {R : yR} {c nv : Nat} {S : Sg} {Γ Λ : List Nat} {fi gv : Nat}
theorem TS.u23 (h : TS R c nv S) {x : Int32} : TS R c nv (Ui S 23 x) := by
  obtain ⟨G, tm, Y, ad, h1, h2, h3, h4⟩ := h
  exact ⟨G, tm, Y, ad, ⟨h1.1, (Zi_n (by decide)).trans h1.2.1, (Zi_n (by decide)).trans h1.2.2.1, (Zi_n (by decide)).trans h1.2.2.2.1, h1.2.2.2.2.1, h1.2.2.2.2.2.1, h1.2.2.2.2.2.2⟩, h2, h3, fun j a b c d e f => (Zi_n e).trans (h4.1 j a b c d e f), h4.2⟩
theorem VX.u23 {X : Nat → Prop} {x : Int32} : VX R X S (Ui S 23 x) := ⟨⟨fun j _ _ _ d _ => Zi_n d, rfl, rfl, fun _ _ _ => rfl, rfl⟩, fun _ _ _ => rfl, fun _ q => q, fun x kd ix o ⟨t, q1, q2, q3, q4⟩ => ⟨t, by unfold tmS; rw [Zi_n (by decide)]; exact q1, q2, q3, q4⟩, fun v ix nm ty mu q => ⟨ty, q, Or.inr rfl⟩, fun q => by rwa [Zi_n (by decide)] at q⟩
/-- the scope is as it was -/
theorem YS.rs {Γ3 Λ3 : List Nat} (h : YS R c nv S Γ3 Λ3 fi gv) (hp : pfx Γ Γ3) (hl : Γ.length ≤ Γ3.length) : YS R c nv (Ui S 23 (nI Γ.length)) Γ Λ3 fi gv := by
  obtain ⟨h1, h2, h3, h4, h5, ⟨h6, h6'⟩, ⟨h7, h8, h9, h10⟩, h11, fs, h12, h13⟩ := h
  have hX : VX R (Xo R 0 0) S (Ui S 23 (nI Γ.length)) := VX.u23
  refine ⟨h1.u23, ⟨Zi_s, by have := h2.2.1; omega, fun k v hk => ?_⟩, ⟨(Zi_n (by decide)).trans h3.1, h3.2.1, fun k v hk => ?_⟩, h4.vx hX, h5.vx hX, ⟨fun v hv => h6 v (hp.mem hv), by omega⟩, ⟨h7, h8, h9, h10⟩, h11.im hX.2.2.2.1, fs, h12, h13⟩
  · obtain ⟨a1, ix, nm, mu, ty, a2, a3, a4, a5⟩ := h2.2.2 k v (hp k v hk)
    exact ⟨a1, ix, nm, mu, ty, a2, a3, a4, fun x q => (a5 x q).im hX.2.2.2.1⟩
  · obtain ⟨a0, nm, mu, ty, a2, a3, a4, a5⟩ := h3.2.2 k v hk
    exact ⟨a0, nm, mu, ty, a2, a3, a4, fun x q => (a5 x q).im hX.2.2.2.1⟩
theorem pfx_len {A B : List Nat} (h : pfx A B) : A.length ≤ B.length := by
  rcases Nat.lt_or_ge B.length A.length with z | z
  · have h1 : A[B.length]? = some A[B.length] := List.getElem?_eq_getElem z
    have h2 := h _ _ h1
    rw [List.getElem?_eq_none (Nat.le_refl _)] at h2; cases h2
  · exact z
/-- a statement's scope grows -/
theorem sN_sc {S : Sg} {n a p q b b2 v w : Nat} {Γ2 : List Nat} {κ : Nat × Nat × Nat} (h : sN R S Λ gv n 0 a p q b b2 v w Γ Γ2 κ) : pfx Γ Γ2 := by
  cases n with
  | zero => exact h.elim
  | succ n =>
    rcases h.2 with ⟨nm, y, mu, wr, ex, k1, k2, k3, k4, k5⟩ | ⟨kd, x, p', q', t, k1, k2, k3, k4, k5, k6, k7⟩ | ⟨x, y, q1, p3, q3, vv, t, mu, mv, π, k1, k2, k3, k4, k5, k6, k7, k8, k9⟩ | ⟨ca, ba, cap, mn, f, g, k1, k2, k3, k4, k5, k6, k7, k8, k9, l1⟩ | ⟨x, y, q0, b1, t, k1, k2, k3, k4, k5⟩ | ⟨x, ar, cap, mn, p0, q0, b1, i, t, bd, mu, rf, f, vf, k1, k2, k3, k4, k5, k6, k7, k8, k9, l1, l2, l3⟩ | ⟨ex, k1, k2, k3, k4⟩ | ⟨y, k1, k2, k3⟩
    · rw [k4.1]; exact pfx.add
    · rw [k7]; exact pfx.rf
    · rw [k9]; exact pfx.rf
    · rw [k9]; exact pfx.rf
    · rw [k5]; exact pfx.rf
    · rw [k9]; exact pfx.rf
    · rw [k4.1]; exact pfx.rf
    · rw [k3]; exact pfx.rf
/-- typeStatement, for statements of the depth n -/
def SH (R : yR) (fi gv n : Nat) (V : Sg → Option Nat → Option (Sg × Unit)) : Prop := ∀ (c nv : Nat) (S : Sg) (Γ Λ : List Nat) (a p q b b2 v w : Nat), YS R c nv S Γ Λ fi gv → Zi S 3 = 0 → Λ.length = v → w ≤ 40 → nv + (w - v) ≤ 10000 → c + (q - p) ≤ 1990 → isQ R n 0 a p q b b2 v w → Unt R S p q → q ≤ R.T → Rt (f_typeStatement R.K V S (some a)) (fun S2 _ => StP R c nv S Γ Λ fi gv n 0 a p q b b2 v w (0, 0, 0) S2)
/-- a block -/
theorem blk7 (hK : yRm R) {V : Sg → Option Nat → Option (Sg × Unit)} {n : Nat} (hV : SH R fi gv n V) (h : YS R c nv S Γ Λ fi gv) {a p q b b2 v w : Nat} (hz : Zi S 3 = 0) (hΛ : Λ.length = v) (hw : w ≤ 40) (hnv : nv + (w - v) ≤ 10000) (hc : c + (q - p) ≤ 1990) (hB : isQ R (n + 1) 1 a p q b b2 v w) (hU : Unt R S (p + 1) q) (hq : q ≤ R.T) : Rt (f_typeBlock_7 R.K V bigN S (some a) (Zi S 23) 0) (fun S2 _ => BlP R c nv S Γ Λ fi gv (n + 1) a p q b b2 v w S2) := by
  have hT := h.1.tb
  have hvw := isN_vw hB
  obtain ⟨ha, hpq, la, cap, mn, f, hG, hla, hfa, hcap, hJ⟩ := hB
  have nxa : nXo R a := nXo.ob ha hG (by decide)
  obtain ⟨nla, _⟩ := h.2.2.2.2.1.q hK hla hfa (by decide) (by decide) (by decide) (by decide)
  obtain ⟨ps, bs, vs, xs, j1, j2, j3, j4, j5, j6, j7, j8⟩ := chJ_fn (chN_J hJ) (fun i x p q b c v w z => ⟨(isN_lt z).2, isN_vw z⟩)
  have hca0 : ZF S a = .inr (14, [.int (nI p), .int (nI (q - 1)), .ref la, .int (nI mn)]) := by
    obtain ⟨g0, gs, g1, g2, g3, g4⟩ := h.1.ob ha hG
    rw [show gs = _ from List.ext_getElem? (fun k => g3 k rfl)] at g1
    exact g1
  have hmq : mn ≤ 100000 := by
    have : ∀ d : Nat, d ≤ mn → d ≤ ps d := by
      intro d
      induction d with
      | zero => exact fun _ => Nat.zero_le _
      | succ d ih =>
        intro hd
        have := ih (by omega)
        have := (isN_lt (j7 d (by omega)).2).2
        omega
    have := this mn (Nat.le_refl _)
    omega
  have hm0 := j8 0 mn (by omega) (Nat.le_refl _)
  rw [j1, j2, j5, j6] at hm0
  rw [h.2.1.1]
  have hloop : ∀ (m k : Nat) {S1 : Sg} {c9 nv9 : Nat}, mn < k + m → k ≤ mn → TS R c9 nv9 S1 → c9 ≤ c + (q - p) → nv9 ≤ nv + (w - v) → VX R (Xo R (p + 1) q) S S1 → (Zi S1 3 = 0 → VX R (Xo R (p + 1) (ps k)) S S1 ∧ ∃ (Λ1 : List Nat) (gs : Nat → List Nat), YS R (c + (ps k - p)) (nv + (vs k - v)) S1 (gs k) Λ1 fi gv ∧ pfx Λ Λ1 ∧ Λ1.length = vs k ∧ gs 0 = Γ ∧ pfx Γ (gs k) ∧ ∀ i : Nat, i < k → sN R S1 Λ1 gv n 0 (xs i) (ps i) (ps (i + 1)) (bs i) (bs (i + 1)) (vs i) (vs (i + 1)) (gs i) (gs (i + 1)) (0, 0, 0)) → Rt (f_typeBlock_7 R.K V m S1 (some a) (nI Γ.length) (nI k)) (fun S2 _ => BlP R c nv S Γ Λ fi gv (n + 1) a p q b b2 v w S2) := by
    intro m
    induction m with
    | zero => intro k S1 c9 nv9 a b; omega
    | succ m ih =>
      intro k S1 c9 nv9 hk1 hk2 t1 hc9 hn9 v1 g1
      have ce : ZF S1 a = .inr (14, [.int (nI p), .int (nI (q - 1)), .ref la, .int (nI mn)]) := (v1.nx nxa).trans hca0
      have hend : (Zi S1 3 = 0 → k = mn) → Rt (f_typeBlock_38 R.K V S1 (nI Γ.length)) (fun S2 _ => BlP R c nv S Γ Λ fi gv (n + 1) a p q b b2 v w S2) := fun hkk => by
        unfold f_typeBlock_38
        refine Rt.bd (v := Ui S1 23 (nI Γ.length)) rfl (Rt.rt ⟨c9, nv9, hc9, hn9, t1.u23, v1.tr (VX.u23 (X := nX)) (fun _ w => w.elim), fun z => ?_⟩)
        have z1 : Zi S1 3 = 0 := by rwa [Zi_n (by decide)] at z
        obtain ⟨v2, Λ1, gs, d1, d2, d3, d4, d5, d6⟩ := g1 z1
        have hk := hkk z1
        subst hk
        have d1' := d1.rs d5 (pfx_len d5)
        rw [j2, j6] at d1'
        refine ⟨Λ1, d1'.up (by omega), d2, d3.trans j6, fun k9 hk9 => ?_, nxa, hpq, rfl, la, cap, k, f, gs, ce, nla, (d1.2.2.2.2.1.q hK hla hfa (by decide) (by decide) (by decide) (by decide)).2, hcap, d4, ps, bs, vs, j1, j2, j3, j4, j5, j6, fun i hi => ⟨xs i, (j7 i hi).1, sN_vx (VX.u23 (X := Xo R 0 0)) pfx.rf (d6 i hi) (Or.inr (Nat.zero_le _))⟩⟩
        have e9 : Γ[k9]? = some Γ[k9] := List.getElem?_eq_getElem hk9
        show Zq S1 22 k9 = _
        rw [(d1.2.1.2.2 k9 _ (d5 _ _ e9)).1, (h.2.1.2.2 k9 _ e9).1]
      unfold f_typeBlock_7
      refine Rt.bd (oI_mk (t1.L ha) ce (v := nI mn) rfl) (Rt.it (fun w9 => hend (fun _ => ?_)) (fun w9 => ?_))
      · have := (nI_leI (a := mn) (b := k) (by omega) (by omega)).mp w9; omega
      have hlt : k < mn := by
        rcases Nat.lt_or_ge k mn with z | z
        · exact z
        · exact absurd (nI_le z (by omega)) w9
      refine Rt.ok (fun z1 => ?_) (fun z1 => hend (fun w => absurd w z1))
      obtain ⟨v2, Λ1, gs, d1, d2, d3, d4, d5, d6⟩ := g1 z1
      obtain ⟨k1, k4⟩ := j7 k hlt
      have hl4 := (isN_lt k4).2
      have hm1 := j8 0 k (by omega) hk2; have hm2 := j8 (k + 1) mn (by omega) (Nat.le_refl _); have hm3 := j8 k (k + 1) (by omega) (by omega)
      rw [j1, j5] at hm1
      rw [j2, j6] at hm2
      have hlr := (d1.2.2.2.2.1.q hK hla hfa (by decide) (by decide) (by decide) (by decide)).2
      refine Rt.bd (oR_mk (t1.L ha) ce (v := some la) rfl) (Rt.bd (aQ_j (t1.L hla) hlr (show k < cap by omega) (by omega)) ?_)
      rw [k1, nI_1]
      have hU2 : Unt R S1 (ps k) (ps (k + 1)) := fun a9 ha9 w9 => (v2.2.1 a9 ha9 (fun x9 => Xo_dj w9 x9 (Or.inr (Nat.le_refl _)))).trans (hU a9 ha9 (Xo_mo w9 (by omega) (by omega)))
      refine Rt.bn (hV (c + (ps k - p)) (nv + (vs k - v)) S1 (gs k) Λ1 (xs k) (ps k) (ps (k + 1)) (bs k) (bs (k + 1)) (vs k) (vs (k + 1)) d1 z1 d3 (by omega) (by omega) (by omega) k4 hU2 (by omega)) (fun S3 _ q3 => ?_)
      obtain ⟨c3, nv3, e1, e2, e3, e4, e5⟩ := q3
      have v03 : VX R (Xo R (p + 1) (ps (k + 1))) S S3 := (v2.mo (fun a w => Xo_mo w (Nat.le_refl _) (by omega))).tr e4 (fun a w => Xo_mo w (by omega) (Nat.le_refl _))
      refine ih (k + 1) (by omega) (by omega) e3 (by omega) (by omega) (v03.mo (fun a w => Xo_mo w (Nat.le_refl _) (by omega))) (fun z3 => ⟨v03, ?_⟩)
      obtain ⟨Γ2, Λ2, l1, l2, l3, l4, l5⟩ := e5 z3
      refine ⟨Λ2, fun i => if i = k + 1 then Γ2 else gs i, ?_, d2.tr l2, l3, (if_neg (by omega)).trans d4, ?_, fun i hi => ?_⟩
      · dsimp only
        rw [if_pos rfl]
        have := l1.up (c2 := c + (ps (k + 1) - p)) (by omega)
        rw [sub3 hm1.2 hm3.2] at this
        exact this
      · dsimp only
        rw [if_pos rfl]; exact d5.tr (sN_sc l5)
      · dsimp only
        by_cases e0 : i = k
        · subst e0
          rw [if_neg (show i ≠ i + 1 by omega), if_pos rfl]; exact l5
        · rw [if_neg (show i ≠ k + 1 by omega), if_neg (show i + 1 ≠ k + 1 by omega)]
          have hmi := j8 (i + 1) k (by omega) hk2
          exact sN_vx e4 l2 (d6 i (by omega)) (Or.inl (by omega))
  have hst := hloop bigN 0 (S1 := S) (by show mn < 0 + 1000000000000; omega) (Nat.zero_le _) h.1 (by omega) (by omega) VX.rf (fun _ => ⟨VX.rf, Λ, fun _ => Γ, by rw [j1, j5, Nat.sub_self]; exact h.up (by omega), pfx.rf, hΛ.trans j5.symm, rfl, pfx.rf, fun i hi => absurd hi (by omega)⟩)
  exact hst
end BLK
