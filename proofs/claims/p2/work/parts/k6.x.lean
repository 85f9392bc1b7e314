theorem chN_vw {P : Nat → Nat → Nat → Nat → Nat → Nat → Nat → Prop} {f : Nat → Option Nat} {n p q b c v w : Nat} (h : chN P f n p q b c v w) (hP : ∀ x p q b c v w : Nat, P x p q b c v w → v ≤ w) : v ≤ w := by
  obtain ⟨ps, bs, vs, _, _, _, _, h5, h6, h7⟩ := h
  have : ∀ d : Nat, d ≤ n → vs 0 ≤ vs d := by
    intro d
    induction d with
    | zero => exact fun _ => Nat.le_refl _
    | succ d ih =>
      intro hd
      obtain ⟨x, _, g⟩ := h7 d (by omega)
      have := hP _ _ _ _ _ _ _ g
      have := ih (by omega)
      omega
  have := this n (Nat.le_refl _)
  omega
theorem isN_vw {L : List Nat} {F : Nat → va_E} {fk : Nat → Int32} {kE kI kS kB kA kV : ClassId} : ∀ {n t a p q b c v w : Nat}, isN L F fk kE kI kS kB kA kV n t a p q b c v w → v ≤ w
  | 0, _, _, _, _, _, _, _, _, h => h.elim
  | n + 1, 0, a, p, q, b, c, v, w, h => by
    rcases h.2.2 with ⟨nm, pm, mu, wr, ex, k1, k2, k3, k4, k5, k8, k6, k7⟩ | ⟨kd, x, p', q', k1, k2, k3, k4, k5, k6⟩ | ⟨x, y, q1, p2, q2, b1, k1, k2, k3, k4, k5, k6, k7⟩ | ⟨ca, ba, cap, mn, f, g, k1, k2, k3, k4, k5, k6, k7, k8, k9⟩ | ⟨x, y, q0, b1, k1, k2, k3⟩ | ⟨x, ar, cap, mn, p0, q0, b0, b1, mu, rf, f, k1, k2, k3, k4, k5, k6, k7, k8⟩ | ⟨ex, k1, k2, k3⟩ | ⟨y, k1, k2⟩
    · omega
    · omega
    · omega
    · obtain ⟨ps, bs, vs, z1, z2, z3, z4, z5, z6, z7⟩ := k9
      have : ∀ d : Nat, d ≤ mn → vs 0 ≤ vs d := by
        intro d
        induction d with
        | zero => exact fun _ => Nat.le_refl _
        | succ d ih =>
          intro hd
          obtain ⟨x, _, p0, b0, _, _, g⟩ := z7 d (by omega)
          have := isN_vw g
          have := ih (by omega)
          omega
      have := this mn (Nat.le_refl _)
      omega
    · exact isN_vw k3
    · exact chN_vw k8 (fun x p q b c v w z => isN_vw z)
    · omega
    · exact isN_vw k2
  | n + 1, 1, a, p, q, b, c, v, w, h => by
    obtain ⟨_, _, la, cap, mn, f, k1, k2, k3, k4, k5⟩ := h
    exact chN_vw k5 (fun x p q b c v w z => isN_vw z)
  | n + 1, t + 2, a, p, q, b, c, v, w, h => by
    obtain ⟨_, _, na, va, bk, mn, p', g, k1, k2, k3, k4, k5, k6, k7, k8, k9, l1⟩ := h
    have := isN_vw k9
    omega
/-- a row of nodes, its parts told by functions -/
theorem chJ_fn {P : Nat → Nat → Nat → Nat → Nat → Nat → Nat → Nat → Prop} {f : Nat → Option Nat} {n p q b c v w : Nat} (h : chJ P f n p q b c v w) (hlt : ∀ i x p q b c v w : Nat, P i x p q b c v w → p < q ∧ v ≤ w) : ∃ ps bs vs xs : Nat → Nat, ps 0 = p ∧ ps n = q ∧ bs 0 = b ∧ bs n = c ∧ vs 0 = v ∧ vs n = w ∧ (∀ i : Nat, i < n → f i = some (xs i) ∧ P i (xs i) (ps i) (ps (i + 1)) (bs i) (bs (i + 1)) (vs i) (vs (i + 1))) ∧ ∀ i j : Nat, i ≤ j → j ≤ n → ps i ≤ ps j ∧ vs i ≤ vs j := by
  obtain ⟨ps, bs, vs, h1, h2, h3, h4, h5, h6, h7⟩ := h
  have hk : ∀ i : Nat, ∃ y : Nat, i < n → f i = some y ∧ P i y (ps i) (ps (i + 1)) (bs i) (bs (i + 1)) (vs i) (vs (i + 1)) := fun i => by
    by_cases hi : i < n
    · obtain ⟨x, g1, g2⟩ := h7 i hi
      exact ⟨x, fun _ => ⟨g1, g2⟩⟩
    · exact ⟨0, fun w => absurd w hi⟩
  have hm : ∀ d i : Nat, i + d ≤ n → ps i ≤ ps (i + d) ∧ vs i ≤ vs (i + d) := by
    intro d
    induction d with
    | zero => exact fun i _ => ⟨Nat.le_refl _, Nat.le_refl _⟩
    | succ d ih =>
      intro i hi
      obtain ⟨x, _, g⟩ := h7 (i + d) (by omega)
      have := hlt _ _ _ _ _ _ _ _ g
      have := ih i (by omega)
      show ps i ≤ ps (i + d + 1) ∧ vs i ≤ vs (i + d + 1)
      omega
  refine ⟨ps, bs, vs, fun i => Classical.choose (hk i), h1, h2, h3, h4, h5, h6, fun i hi => Classical.choose_spec (hk i) hi, fun i j hij hj => ?_⟩
  have := hm (j - i) i (by omega)
  rw [show i + (j - i) = j by omega] at this
  exact this
theorem chN_J {P : Nat → Nat → Nat → Nat → Nat → Nat → Nat → Prop} {f : Nat → Option Nat} {n p q b c v w : Nat} (h : chN P f n p q b c v w) : chJ (fun _ => P) f n p q b c v w := h
/-- statements, blocks, arms as they were read -/
def isQ (R : yR) (n t a p q b c v w : Nat) : Prop := isN (ZL R.S) (ZF R.S) (Zr R.S 5) (R.K.1 9) (R.K.1 0) (R.K.1 11) (R.K.1 10) (R.K.1 7) (R.K.1 5) n t a p q b c v w
/-- behind a block -/
def BlP (R : yR) (c nv : Nat) (S : Sg) (Γ Λ : List Nat) (fi gv n a p q b b2 v w : Nat) (S2 : Sg) : Prop := ∃ c2 nv2 : Nat, c2 ≤ c + (q - p) ∧ nv2 ≤ nv + (w - v) ∧ TS R c2 nv2 S2 ∧ VX R (Xo R (p + 1) q) S S2 ∧ (Zi S2 3 = 0 → ∃ Λ2 : List Nat, YS R (c + (q - p)) (nv + (w - v)) S2 Γ Λ2 fi gv ∧ pfx Λ Λ2 ∧ Λ2.length = w ∧ (∀ k : Nat, k < Γ.length → Zq S2 22 k = Zq S 22 k) ∧ sN R S2 Λ2 gv n 1 a p q b b2 v w Γ Γ (0, 0, 0))
/-- typeBlock, for blocks of the depth n -/
def BH (R : yR) (fi gv n : Nat) (V : Sg → Option Nat → Option (Sg × Unit)) : Prop := ∀ (c nv : Nat) (S : Sg) (Γ Λ : List Nat) (a p q b b2 v w : Nat), YS R c nv S Γ Λ fi gv → Zi S 3 = 0 → Λ.length = v → w ≤ 40 → nv + (w - v) ≤ 10000 → c + (q - p) ≤ 1990 → isQ R n 1 a p q b b2 v w → Unt R S (p + 1) q → q ≤ R.T → Rt (V S (some a)) (fun S2 _ => BlP R c nv S Γ Λ fi gv n a p q b b2 v w S2)
section STU
variable {R : yR} {c nv : Nat} {S : Sg} {Γ Λ : List Nat} {fi gv : Nat}
/-- a condition -/
theorem cnd_ (hK : yRm R) (hv : nv ≤ 10000) (h : YS R c nv S Γ Λ fi gv) {x p' q' b b2 : Nat} (hc : c + (q' - p') ≤ 1990) (hE : isE (ZL R.S) (ZF R.S) (R.K.1 9) (R.K.1 0) 408 16 x p' q' b b2) (hU : Unt R S p' q') (hq : q' ≤ R.T) : Rt (f_condition R.K S (some x)) (fun S2 _ => YS R (c + (q' - p')) nv S2 Γ Λ fi gv ∧ VX R (Xo R p' q') S S2 ∧ VS S S2 ∧ (Zi S2 3 = 0 → ∃ t : Nat, xE R S2 Γ 408 16 x p' q' b b2 t ∧ isTy S2 t 1 0 none)) := by
  have hlt := (isE_mem hE).2
  unfold f_condition f_condition_30
  refine Rt.bn (vst_ hK hv h hc hE hU hq) (fun S2 r q2 => ?_)
  obtain ⟨t, rfl, y1, y2, y3, ⟨ky, iy, oy, u1⟩, y5⟩ := q2
  have u1' := u1
  obtain ⟨ti, e1, e2, e3, e4⟩ := u1
  refine Rt.ok (fun z => Rt.bd (oI_mk e3 e4 (v := ky) rfl) (Rt.it (fun w => Rt.rt ⟨y1, y2, y3, fun z => ⟨t, y5 z, ?_⟩⟩) (fun _ => ?_))) (fun z => Rt.rt ⟨y1, y2, y3, fun w => absurd w z⟩)
  · subst w
    obtain ⟨a1, a2⟩ := yOK_0 (y1.1.at (by omega) u1').1 (by decide)
    rw [a1, a2] at u1'; exact u1'
  · obtain ⟨vs, g1, g2⟩ := isE_tok hE
    obtain ⟨k1, gs, k2, k3, k4, k5⟩ := y1.1.ob (isE_mem hE).1 g1
    exact Rt.bd (oI_mk k1 k2 ((k4 1 rfl).trans g2)) (Rt.be (fai_ y1.1 (by omega)) (Rt.rt ⟨y1.fl, y2.n VX.fl, y3.tr VS.fl, fun w => absurd w (flS_n0 (by decide))⟩))
/-- a block as a statement -/
theorem tbl_ {V : Sg → Option Nat → Option (Sg × Unit)} {n : Nat} (hV : BH R fi gv n V) (h : YS R c nv S Γ Λ fi gv) {a p q b b2 v w y : Nat} (hz : Zi S 3 = 0) (hΛ : Λ.length = v) (hw : w ≤ 40) (hnv : nv + (w - v) ≤ 10000) (hc : c + (q - p) ≤ 1990) (ha : a ∈ ZL R.S) (hG : ZF R.S a = sxC 8 p 0 0 0 .null .null .null (.ref y) .null .null .null 0) (hF : ZF S a = ZF R.S a) (hpq : p < q) (hB : isQ R n 1 y p q b b2 v w) (hU : Unt R S p q) (hq : q ≤ R.T) : Rt ((oR S 19 (some a) 9).bind fun v32 => bnd (V S v32) fun S33 v34 => some (S33, ())) (fun S2 _ => StP R c nv S Γ Λ fi gv (n + 1) 0 a p q b b2 v w (0, 0, 0) S2) := by
  have hT := h.1.tb
  have ho : ownT (ZF R.S) a = some p := own_s hG (by omega)
  have c1 := hF.trans hG
  refine Rt.bd (oR_mk (h.1.L ha) c1 (v := some y) rfl) (Rt.bn (hV c nv S Γ Λ y p q b b2 v w h hz hΛ hw hnv hc hB (hU.su (by omega) (Nat.le_refl _)) hq) (fun S2 _ q2 => Rt.rt ?_))
  obtain ⟨c2, nv2, g1, g2, g3, g4, g5⟩ := q2
  refine ⟨c2, nv2, g1, g2, g3, g4.mo (fun a w => Xo_mo w (by omega) (Nat.le_refl _)), fun z => ?_⟩
  obtain ⟨Λ2, k1, k2, k3, k4, k5⟩ := g5 z
  have ca2 := (g4.2.1 a ha (fun x => Xo_dj (Or.inl ⟨p, ho, Nat.le_refl p, Nat.lt_succ_self p⟩) x (Or.inl (Nat.le_refl _)))).trans c1
  exact ⟨Γ, Λ2, k1, k2, k3, k4, ⟨ha, ho, hpq⟩, Or.inr (Or.inr (Or.inr (Or.inr (Or.inr (Or.inr (Or.inr ⟨y, ca2, k5, rfl⟩))))))⟩
/-- while -/
theorem twh_ (hK : yRm R) {V : Sg → Option Nat → Option (Sg × Unit)} {n : Nat} (hV : BH R fi gv n V) (h : YS R c nv S Γ Λ fi gv) {a p q b b1 b2 v w x y q0 : Nat} (hz : Zi S 3 = 0) (hΛ : Λ.length = v) (hw : w ≤ 40) (hnv : nv + (w - v) ≤ 10000) (hc : c + (q - p) ≤ 1990) (ha : a ∈ ZL R.S) (hG : ZF R.S a = sxC 4 p 0 0 0 .null (.ref x) .null (.ref y) .null .null .null 0) (hF : ZF S a = ZF R.S a) (hpq : p < q) (hE : isE (ZL R.S) (ZF R.S) (R.K.1 9) (R.K.1 0) 408 16 x (p + 1) q0 b b1) (hB : isQ R n 1 y q0 q b1 b2 v w) (hU : Unt R S p q) (hq : q ≤ R.T) : Rt ((oR S 19 (some a) 6).bind fun v9 => bnd (f_condition R.K S v9) fun S10 v11 => bnd (f_ok R.K S10) fun S12 v13 => if v13 = 0 then some (S12, ()) else ((oR S12 19 (some a) 9).bind fun v14 => bnd (V S12 v14) fun S15 v16 => some (S15, ()))) (fun S2 _ => StP R c nv S Γ Λ fi gv (n + 1) 0 a p q b b2 v w (0, 0, 0) S2) := by
  have hT := h.1.tb
  have ho : ownT (ZF R.S) a = some p := own_s hG (by omega)
  have c1 := hF.trans hG
  have hlt := (isE_mem hE).2
  have hlb := (isN_lt hB).2
  have hvw := isN_vw hB
  have he1 := h.1.L ha
  refine Rt.bd (oR_mk he1 c1 (v := some x) rfl) (Rt.bn (cnd_ hK (by omega) h (show c + (q0 - (p + 1)) ≤ 1990 by omega) hE (hU.su (by omega) (by omega)) (by omega)) (fun S2 _ q2 => ?_))
  obtain ⟨y1, y2, y3, y4⟩ := q2
  have c2 := y3.2.2.1.2 a 19 _ (Or.inr rfl) he1 c1
  have v2 : VX R (Xo R p q) S S2 := y2.mo (fun a w => Xo_mo w (by omega) (by omega))
  refine Rt.ok (fun z => ?_) (fun z => Rt.rt (StP.bad (c2 := c + (q0 - (p + 1))) (by omega) (by omega) y1.1 v2 z))
  obtain ⟨t, x1, x2⟩ := y4 z
  have hU2 : Unt R S2 (q0 + 1) q := fun a9 ha9 w9 => (y2.2.1 a9 ha9 (fun x9 => Xo_dj w9 x9 (Or.inr (by omega)))).trans (hU a9 ha9 (Xo_mo w9 (by omega) (Nat.le_refl _)))
  refine Rt.bd (oR_mk c2.1 c2.2 (v := some y) rfl) (Rt.bn (hV (c + (q0 - (p + 1))) nv S2 Γ Λ y q0 q b1 b2 v w y1 z hΛ hw hnv (by omega) hB hU2 hq) (fun S3 _ q3 => Rt.rt ?_))
  obtain ⟨c3, nv3, g1, g2, g3, g4, g5⟩ := q3
  have v3 : VX R (Xo R p q) S S3 := v2.tr g4 (fun a w => Xo_mo w (by omega) (Nat.le_refl _))
  refine ⟨c3, nv3, by omega, g2, g3, v3, fun z3 => ?_⟩
  obtain ⟨Λ2, k1, k2, k3, k4, k5⟩ := g5 z3
  have ca3 := (g4.2.1 a ha (fun x => Xo_dj (Or.inl ⟨p, ho, Nat.le_refl p, Nat.lt_succ_self p⟩) x (Or.inl (by omega)))).trans c2.2
  exact ⟨Γ, Λ2, k1.up (by omega), k2, k3, fun k hk => by rw [k4 k hk, y3.2.2.1.1], ⟨ha, ho, hpq⟩, Or.inr (Or.inr (Or.inr (Or.inr (Or.inl ⟨x, y, q0, b1, t, ca3, xE_vx g4 x1 (g4.fr (Or.inl (by omega))), g4.2.2.2.1 _ _ _ _ x2, k5, rfl⟩))))⟩
end STU
