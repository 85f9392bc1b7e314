/-- what a match looks at, typed -/
def HD (R : yR) (S : Sg) (Γ : List Nat) (x p0 q0 b b1 t bd : Nat) (mu rf : Int32) : Prop := (rf = 0 ∧ mu = 0 ∧ bd = 0 ∧ xE R S Γ 408 16 x p0 q0 b b1 t) ∨ (rf = 1 ∧ b1 = b + 1 ∧ ∃ (vv m2 w2 : Nat) (π : List (Nat × Nat)), ((mu = 0 ∧ bd = 1) ∨ (mu = 1 ∧ bd = 2 ∧ m2 = 1)) ∧ xPl R S Γ 408 x p0 q0 vv π t m2 w2 ∧ π.length ≤ 4)
theorem HD.vx {R : yR} {S S2 : Sg} {Γ : List Nat} {x p0 q0 b b1 t bd p2 q2 : Nat} {mu rf : Int32} (hV : VX R (Xo R p2 q2) S S2) (h : HD R S Γ x p0 q0 b b1 t bd mu rf) (hd : dj p0 q0 p2 q2) : HD R S2 Γ x p0 q0 b b1 t bd mu rf := h.imp (fun ⟨e1, e2, e3, e4⟩ => ⟨e1, e2, e3, xE_vx hV e4 (hV.fr hd)⟩) (fun ⟨e1, e2, vv, m2, w2, π, e3, e4, e5⟩ => ⟨e1, e2, vv, m2, w2, π, e3, xPl_vx hV e4 (hV.fr hd), e5⟩)
section MAT
variable {R : yR} {c nv : Nat} {S : Sg} {Γ Λ : List Nat} {fi gv : Nat}
/-- the arms of a match -/
theorem mt119 (hK : yRm R) {V : Sg → Option Nat → Option (Sg × Unit)} {n : Nat} (hV : ∀ m : Nat, m < n → BH R fi gv m V) {S0 : Sg} {c0 : Nat} (h : YS R c nv S Γ Λ fi gv) {a p q b b1 b2 v w x ar cap mn p0 q0 t bd i : Nat} {mu rf : Int32} {f : Nat → Option Nat} (hz : Zi S 3 = 0) (hΛ : Λ.length = v) (hw : w ≤ 40) (hnv : nv + (w - v) ≤ 10000) (hc : c ≤ c0 + (q0 - p)) (hc0 : c0 + (q - p) ≤ 1990) (ha : a ∈ ZL R.S) (hG : ZF R.S a = sxC 5 p 0 mu rf .null (.ref x) .null .null .null .null (.ref ar) mn) (hF : ZF S a = ZF R.S a) (hpq : p < q) (hp0 : p < p0) (hpq0 : p0 < q0) (hq0 : q0 + 1 ≤ q) (hbd : (rf = 0 ∧ bd = 0) ∨ (rf = 1 ∧ mu = 0 ∧ bd = 1) ∨ (rf = 1 ∧ mu = 1 ∧ bd = 2)) (har : ar ∈ ZL R.S) (hfa : ZF R.S ar = .inl (R.K.1 7, cap, .inr (.inr (.inr (.inr f))))) (hcap : mn ≤ cap) (hJ : chN (isQ R n 2) f mn (q0 + 1) (q - 1) b1 b2 v w) (hi : i < R.im) (hik : R.ik i = 11) (hH : HD R S Γ x p0 q0 b b1 t bd mu rf) (hy : isTy S t 4 (nI i) none) (hv0 : VX R (Xo R (p + 1) q0) S0 S) (hq22 : ∀ k : Nat, k < Γ.length → Zq S 22 k = Zq S0 22 k) {Λ0 : List Nat} (hΛ0 : Λ0 = Λ) (hU : Unt R S (q0 + 1) (q - 1)) (hq : q ≤ R.T) : Rt (f_typeMatch_119 R.K V bigN S (some a) (some (R.ws i)) 0) (fun S2 _ => StP R c0 nv S0 Γ Λ0 fi gv (n + 1) 0 a p q b b2 v w (0, 0, 0) S2) := by
  subst hΛ0
  have hT := h.1.tb
  have ho : ownT (ZF R.S) a = some p := own_s hG (by omega)
  have c1 := hF.trans hG
  obtain ⟨nar, _⟩ := h.2.2.2.2.1.q hK har hfa (by decide) (by decide) (by decide) (by decide)
  obtain ⟨ps, bs, vs, xs, j1, j2, j3, j4, j5, j6, j7, j8⟩ := chJ_fn (chN_J hJ) (fun i x p q b c v w z => ⟨(isN_lt z).2, isN_vw z⟩)
  have hm0 := j8 0 mn (Nat.zero_le _) (Nat.le_refl _)
  rw [j1, j2, j5, j6] at hm0
  obtain ⟨n1, n2, fs, im2, na2, g2, n3, n4, n5, n6, n7, n8, n9, n10, n11⟩ := h.2.2.2.1 i hi
  have hEn : ∃ (vr : Nat) (fv : Nat → Option Nat), fs[11]? = some (.ref vr) ∧ nXo R vr ∧ ZF S vr = .inl (R.K.1 13, 13, .inr (.inr (.inr (.inr fv)))) ∧ ∀ k : Nat, k < im2 → ∃ (pa mk : Nat) (f : Nat → Option Nat), fv k = some pa ∧ paY R S pa mk f := by
    rcases n11 with ⟨w, _⟩ | ⟨_, w⟩ | ⟨w, _⟩
    · rw [hik] at w; exact absurd w (by decide)
    · exact w
    · rw [hik] at w; exact absurd w (by decide)
  obtain ⟨vr, fv, m1, m2, m3, m4⟩ := hEn
  have hmq : mn ≤ 100000 := by
    have : ∀ d : Nat, d ≤ mn → d ≤ ps d := by
      intro d
      induction d with
      | zero => exact fun _ => Nat.zero_le _
      | succ d ih =>
        intro hd
        have := ih (by omega)
        have := (isN_lt (j7 d (by omega)).2).2
        omega
    have := this mn (Nat.le_refl _)
    omega
  have hcell : ∀ {S1 : Sg}, VX R (Xo R (q0 + 1) (q - 1)) S S1 → ZF S1 a = sxC 5 p 0 mu rf .null (.ref x) .null .null .null .null (.ref ar) mn := fun {S1} v1 => (v1.2.1 a ha (fun x => Xo_dj (Or.inl ⟨p, ho, Nat.le_refl p, Nat.lt_succ_self p⟩) x (Or.inl (by omega)))).trans c1
  have hstp : ∀ {S1 : Sg}, VX R (Xo R (q0 + 1) (q - 1)) S S1 → VX R (Xo R p q) S0 S1 := fun {S1} v1 => (hv0.mo (fun a w => Xo_mo w (by omega) (by omega))).tr v1 (fun a w => Xo_mo w (by omega) (by omega))
  have hpar : ∀ {S1 : Sg} {k : Nat}, VX R (Xo R (q0 + 1) (q - 1)) S S1 → k < im2 → ∃ (pa mk : Nat) (f : Nat → Option Nat), fv k = some pa ∧ paY R S1 pa mk f ∧ ∃ tx : Nat → Nat, (∀ j : Nat, j < mk → f j = some (tx j)) ∧ enY R S1 i k mk tx := fun {S1 k} v1 hk => by
    obtain ⟨pa, mk, f9, e1, e2⟩ := m4 k hk
    have hf9 : ∀ j : Nat, j < mk → f9 j = some ((f9 j).getD 0) := fun j hj => by
      rcases e2.2 with ⟨_, e⟩ | ⟨wa, ta, _, _, e⟩
      · omega
      · obtain ⟨x9, x1, _⟩ := e.2.2 j hj; rw [x1]; rfl
    exact ⟨pa, mk, f9, e1, e2.vx v1, fun j => (f9 j).getD 0, hf9, enY.vx v1 ⟨fs, im2, vr, pa, fv, f9, hi, hik, n1, n3, n5, n6, hk, m1, m2, m3, e1, e2, hf9⟩⟩
  have hloop : ∀ (m k : Nat) {S1 : Sg} {c9 nv9 : Nat} {vf : Nat → Nat}, mn < k + m → k ≤ mn → TS R c9 nv9 S1 → c9 ≤ c0 + (q - p) → nv9 ≤ nv + (w - v) → VX R (Xo R (q0 + 1) (q - 1)) S S1 → (Zi S1 3 = 0 → VX R (Xo R (q0 + 1) (ps k)) S S1 ∧ ∃ Λ1 : List Nat, YS R (c + (ps k - (q0 + 1))) (nv + (vs k - v)) S1 Γ Λ1 fi gv ∧ pfx Λ0 Λ1 ∧ Λ1.length = vs k ∧ (∀ k9 : Nat, k9 < Γ.length → Zq S1 22 k9 = Zq S 22 k9) ∧ ∀ j : Nat, j < k → vf j < im2 ∧ sN R S1 Λ1 gv n 2 (xs j) (ps j) (ps (j + 1)) (bs j) (bs (j + 1)) (vs j) (vs (j + 1)) Γ Γ (i, vf j, bd) ∧ ∀ j2 : Nat, j2 < j → vf j2 ≠ vf j) → Rt (f_typeMatch_119 R.K V m S1 (some a) (some (R.ws i)) (nI k)) (fun S2 _ => StP R c0 nv S0 Γ Λ0 fi gv (n + 1) 0 a p q b b2 v w (0, 0, 0) S2) := by
    intro m
    induction m with
    | zero => intro k S1 c9 nv9 vf a b; omega
    | succ m ih =>
      intro k S1 c9 nv9 vf hk1 hk2 t1 hc9 hn9 v1 g1
      have ce := hcell v1
      have he1 := t1.L ha
      have hws : ZF S1 (R.ws i) = .inr (16, fs) := (v1.nx n1).trans n3
      have hend : (Zi S1 3 = 0 → k = mn) → Rt (f_typeMatch_286 R.K V S1 (some a) (some (R.ws i))) (fun S2 _ => StP R c0 nv S0 Γ Λ0 fi gv (n + 1) 0 a p q b b2 v w (0, 0, 0) S2) := fun hkk => by
        unfold f_typeMatch_286 f_typeMatch_313
        refine Rt.ok (fun z1 => ?_) (fun z1 => Rt.rt (StP.bad hc9 hn9 t1 (hstp v1) z1))
        refine Rt.bd (oI_mk he1 ce (v := nI mn) rfl) (Rt.bd (oI_mk (t1.L n1.1) hws n5) (Rt.it (fun w9 => Rt.rt ?_) (fun w9 => ?_)))
        · obtain ⟨v2, Λ1, d1, d2, d3, d4, d5⟩ := g1 z1
          have hk := hkk z1
          subst hk
          have hle := (nI_leI (a := im2) (b := k) (by omega) (by omega)).mp w9
          have hinj : ∀ a9 j9 : Nat, a9 < k → j9 < k → vf a9 = vf j9 → a9 = j9 := fun a9 j9 h1 h2 e => by
            rcases Nat.lt_trichotomy a9 j9 with z | z | z
            · exact absurd e ((d5 j9 h2).2.2 a9 z)
            · exact z
            · exact absurd e.symm ((d5 a9 h1).2.2 j9 z)
          have hpg := pig k im2 vf (fun j hj => (d5 j hj).1) hinj
          have hkim : k = im2 := by omega
          rw [j6] at d1 d3
          refine ⟨c9, nv9, hc9, hn9, t1, hstp v1, fun _ => ⟨Γ, Λ1, d1.up (by omega), d2, d3, fun k9 hk9 => by rw [d4 k9 hk9, hq22 k9 hk9], ⟨ha, ho, hpq⟩, Or.inr (Or.inr (Or.inr (Or.inr (Or.inr (Or.inl ⟨x, ar, cap, k, p0, q0, b1, i, t, bd, mu, rf, f, vf, ce, hp0, hH.vx v1 (Or.inl (by omega)), v1.2.2.2.1 _ _ _ _ hy, ⟨fs, hi, hik, n1, hws, by rw [hkim]; exact n5, by omega⟩, nar, (d1.2.2.2.2.1.q hK har hfa (by decide) (by decide) (by decide) (by decide)).2, hcap, rfl, ⟨ps, bs, vs, j1, j2, j3, j4, j5, j6, fun j hj => ⟨xs j, (j7 j hj).1, (d5 j hj).2.1⟩⟩, hinj, fun j hj => by have := (d5 j hj).1; omega⟩)))))⟩⟩
        · exact Rt.bd (oI_mk he1 ce (v := nI p) rfl) (Rt.be (fai_ t1 (by omega)) (Rt.rt (StP.bad hc9 hn9 t1.fl ((hstp v1).n VX.fl) (flS_n0 (by decide)))))
      unfold f_typeMatch_119
      refine Rt.bd (oI_mk he1 ce (v := nI mn) rfl) (Rt.it (fun w9 => hend (fun _ => ?_)) (fun w9 => ?_))
      · have := (nI_leI (a := mn) (b := k) (by omega) (by omega)).mp w9; omega
      have hlt : k < mn := by
        rcases Nat.lt_or_ge k mn with z | z
        · exact z
        · exact absurd (nI_le z (by omega)) w9
      refine Rt.ok (fun z1 => ?_) (fun z1 => hend (fun w => absurd w z1))
      obtain ⟨v2, Λ1, d1, d2, d3, d4, d5⟩ := g1 z1
      obtain ⟨k1, k4⟩ := j7 k hlt
      have hl4 := (isN_lt k4).2
      have hm1 := j8 0 k (Nat.zero_le _) hk2; have hm2 := j8 (k + 1) mn (by omega) (Nat.le_refl _); have hm3 := j8 k (k + 1) (by omega) (by omega)
      rw [j1, j5] at hm1
      rw [j2, j6] at hm2
      have harr := (d1.2.2.2.2.1.q hK har hfa (by decide) (by decide) (by decide) (by decide)).2
      -- the arm as it was read
      cases n with
      | zero => exact k4.elim
      | succ n =>
      obtain ⟨hyL, hyp, na, va, bk, mk, p', gn, a1, a2, a3, a4, a5, a6, a7, a8, a9, a10⟩ := k4
      subst a10
      have hlb := (isN_lt a9).2
      have hvb := isN_vw a9
      have hoy : ownT (ZF R.S) (xs k) = some (ps k) := own_ar a1 (by omega)
      have hXy : Xo R (ps k) (ps (k + 1)) (xs k) := Or.inl ⟨ps k, hoy, Nat.le_refl _, by omega⟩
      have hXv : Xo R (ps k) (ps (k + 1)) (xs k + 2) := Or.inr (Or.inl ⟨xs k, ps k, rfl, hoy, Nat.le_refl _, by omega, a5⟩)
      have hyS : ZF S1 (xs k) = ZF R.S (xs k) := (v2.2.1 _ hyL (fun x9 => Xo_dj hXy x9 (Or.inr (Nat.le_refl _)))).trans (hU _ hyL (Xo_mo hXy (by omega) (by omega)))
      have hy1 := t1.L hyL
      refine Rt.bd (oR_mk he1 ce (v := some ar) rfl) (Rt.bd (aQ_j (t1.L har) harr (show k < cap by omega) (by omega)) ?_)
      rw [k1]
      refine Rt.bd (oI_mk hy1 (hyS.trans a1) (v := nI (ps k)) rfl) (Rt.bn (fof_ t1 n1.1 hws n5 n6 n7 n8.1 ((v1.nx n8).trans n9) n10 (show ps k < R.T by omega)) (fun S2 r q2 => ?_))
      obtain ⟨e2, q2⟩ := q2
      rw [e2]
      refine Rt.bd (pV_mk (v := .int r) hy1 (hyS.trans a1) (Nat.le_of_ble_eq_true rfl)) ?_
      -- the arm's variant is told
      have hcs : cs (ZF R.S (xs k)) (.inr (13, [.int (nI (ps k)), .int r, .ref na, .int (nI mk), .ref (xs k + 2), .ref bk])) := by
        rw [a1]
        exact cs_put (k := 1) (c := 13) (gs := [.int (nI (ps k)), .int 0, .ref na, .int (nI mk), .ref (xs k + 2), .ref bk]) (cs_rf _) rfl
      have hne : ∀ (k9 : Nat) (vs : List Value), k9 ≠ 13 → ¬ ZF S1 (xs k) = .inr (k9, vs) := fun k9 vs hk w => by rw [hyS, a1] at w; cases w; exact hk rfl
      have v3 : VX R (fun a => a = xs k) S1 (UF S1 (xs k) (.inr (13, [.int (nI (ps k)), .int r, .ref na, .int (nI mk), .ref (xs k + 2), .ref bk]))) := VX.uf rfl (fun vs => hne _ _ (by decide)) (fun vs => hne _ _ (by decide))
      have w3 : VW S1 (UF S1 (xs k) (.inr (13, [.int (nI (ps k)), .int r, .ref na, .int (nI mk), .ref (xs k + 2), .ref bk]))) := ⟨rfl, rfl, rfl, fun u9 ix nm ty mu q => ⟨q.1, (ZF_n (fun e => hne 21 _ (by decide) (e ▸ q.2))).trans q.2⟩⟩
      have y3 := d1.vw (p := ps k) (q := ps (k + 1)) (d1.1.uf hyL hcs) (v3.mo (fun a e => e ▸ hXy)) w3
      have c3 : ZF (UF S1 (xs k) (.inr (13, [.int (nI (ps k)), .int r, .ref na, .int (nI mk), .ref (xs k + 2), .ref bk]))) (xs k) = .inr (13, [.int (nI (ps k)), .int r, .ref na, .int (nI mk), .ref (xs k + 2), .ref bk]) := ZF_s
      have f3 : ∀ b9 : Nat, b9 ≠ xs k → ZF (UF S1 (xs k) (.inr (13, [.int (nI (ps k)), .int r, .ref na, .int (nI mk), .ref (xs k + 2), .ref bk]))) b9 = ZF S1 b9 := fun _ hb => ZF_n hb
      have z3 : Zi (UF S1 (xs k) (.inr (13, [.int (nI (ps k)), .int r, .ref na, .int (nI mk), .ref (xs k + 2), .ref bk]))) 3 = 0 := z1
      have zq3 : Zq (UF S1 (xs k) (.inr (13, [.int (nI (ps k)), .int r, .ref na, .int (nI mk), .ref (xs k + 2), .ref bk]))) 22 = Zq S1 22 := rfl
      show Rt (f_typeMatch_165 R.K V (f_typeMatch_119 R.K V m) bigN (UF S1 (xs k) (.inr (13, [.int (nI (ps k)), .int r, .ref na, .int (nI mk), .ref (xs k + 2), .ref bk]))) (some a) (some (R.ws i)) (nI k) (some (xs k)) 0 (nI 0)) _
      suffices hmain : ∀ S3 : Sg, VX R (fun a => a = xs k) S1 S3 → YS R (c + (ps k - (q0 + 1))) (nv + (vs k - v)) S3 Γ Λ1 fi gv → ZF S3 (xs k) = .inr (13, [.int (nI (ps k)), .int r, .ref na, .int (nI mk), .ref (xs k + 2), .ref bk]) → (∀ b9 : Nat, b9 ≠ xs k → ZF S3 b9 = ZF S1 b9) → Zi S3 3 = 0 → Zq S3 22 = Zq S1 22 → Rt (f_typeMatch_165 R.K V (f_typeMatch_119 R.K V m) bigN S3 (some a) (some (R.ws i)) (nI k) (some (xs k)) 0 (nI 0)) (fun S2 _ => StP R c0 nv S0 Γ Λ0 fi gv (n + 1 + 1) 0 a p q b b2 v w (0, 0, 0) S2) by
        exact hmain _ v3 y3 c3 f3 z3 zq3
      clear v3 w3 y3 c3 f3 z3 zq3 hcs
      intro S3 v3 y3 c3 f3 z3 zq3
      have v3' : VX R (Xo R (q0 + 1) (q - 1)) S S3 := v1.tr v3 (fun a e => e ▸ Xo_mo hXy (by omega) (by omega))
      have v3k : VX R (Xo R (q0 + 1) (ps (k + 1))) S S3 := (v2.mo (fun a w => Xo_mo w (Nat.le_refl _) (by omega))).tr v3 (fun a e => e ▸ Xo_mo hXy (by omega) (Nat.le_refl _))
      have ce3 := hcell v3'
      have hws3 : ZF S3 (R.ws i) = .inr (16, fs) := (v3'.nx n1).trans n3
      have hvr3 : ZF S3 vr = .inl (R.K.1 13, 13, .inr (.inr (.inr (.inr fv)))) := (v3'.nx m2).trans m3
      have harr3 := (y3.2.2.2.2.1.q hK har hfa (by decide) (by decide) (by decide) (by decide)).2
      have hy3 := y3.1.L hyL
      -- a bad state goes on
      have hgo : ∀ S4 : Sg, ¬ Zi S4 3 = 0 → TS R (c + (ps k - (q0 + 1))) (nv + (vs k - v)) S4 → VX R (Xo R (q0 + 1) (q - 1)) S S4 → Rt (f_typeMatch_256 R.K V (f_typeMatch_119 R.K V m) S4 (some a) (some (R.ws i)) (nI k) (some (xs k))) (fun S2 _ => StP R c0 nv S0 Γ Λ0 fi gv (n + 1 + 1) 0 a p q b b2 v w (0, 0, 0) S2) := fun S4 z4 t4 v4 => by
        unfold f_typeMatch_256 f_typeMatch_280
        rw [nI_1]
        exact Rt.ok (fun z => absurd z z4) (fun _ => ih (k + 1) (vf := vf) (by omega) (by omega) t4 (by omega) (by omega) v4 (fun z => absurd z z4))
      have h212 : Rt (f_typeMatch_212 R.K V (f_typeMatch_119 R.K V m) S3 (some a) (some (R.ws i)) (nI k) (some (xs k))) (fun S2 _ => StP R c0 nv S0 Γ Λ0 fi gv (n + 1 + 1) 0 a p q b b2 v w (0, 0, 0) S2) := by
        unfold f_typeMatch_212
        exact Rt.bd (oI_mk hy3 c3 (v := nI (ps k)) rfl) (Rt.be (fai_ y3.1 (by omega)) (hgo _ (flS_n0 (by decide)) y3.1.fl (v3'.n VX.fl)))
      have h165 : ∀ (m2' j : Nat) (ag : Int32), k < j + m2' → j ≤ k → (ag = 0 → ∀ j2 : Nat, j2 < j → r ≠ nI (vf j2)) → Rt (f_typeMatch_165 R.K V (f_typeMatch_119 R.K V m) m2' S3 (some a) (some (R.ws i)) (nI k) (some (xs k)) ag (nI j)) (fun S2 _ => StP R c0 nv S0 Γ Λ0 fi gv (n + 1 + 1) 0 a p q b b2 v w (0, 0, 0) S2) := by
        intro m2'
        induction m2' with
        | zero => intro j ag a b; omega
        | succ m2' ih2 =>
          intro j ag h9 hjk hag
          unfold f_typeMatch_165 f_typeMatch_193
          refine Rt.it (fun w => ?_) (fun w => ?_)
          · have hjk2 : k ≤ j := (nI_leI (a := k) (b := j) (by omega) (by omega)).mp w
            refine Rt.bd (oI_mk hy3 c3 (v := r) rfl) ?_
            rcases q2 with q2 | ⟨kf, s9, x1, x5, x2, x3, x4⟩
            · rw [q2]; exact Rt.ip (by decide) h212
            rw [x5]
            refine Rt.iq (nI_pos (by omega)) (Rt.it (fun w0 => ?_) (fun _ => h212))
            obtain ⟨pa, mk2, f9, e1, e3, tx, e4, e5⟩ := hpar v3' x1
            have hpa0 : ∃ ws : List Value, ZF S3 pa = .inr (17, ws) ∧ ws[0]? = some (.int (nI mk2)) ∧ mk2 ≤ 12 := by
              rcases e3.2 with ⟨w1, w2⟩ | ⟨wa, ta, w1, w2, w3⟩
              · subst w2; exact ⟨_, w1, rfl, by omega⟩
              · exact ⟨_, w1, rfl, w2⟩
            obtain ⟨ws, p1, p2, p3⟩ := hpa0
            rw [x5] at c3
            refine Rt.bd (oR_mk (v := some vr) (y3.1.L n1.1) hws3 m1) (Rt.bd (oI_mk hy3 c3 (v := nI kf) rfl) (Rt.bd (aQ_n (y3.1.L m2.1) hvr3 (show kf < 13 by omega) (by decide)) ?_))
            rw [e1]
            refine Rt.bd (oI_mk (y3.1.L e3.1.1) p1 p2) (Rt.bd (oI_mk hy3 c3 (v := nI mk) rfl) (Rt.it (fun wm => ?_) (fun _ => ?_)))
            · have hmm : mk2 = mk := (nI_eq (a := mk2) (b := mk) (by omega) (by omega)).mp wm
              subst hmm
              -- the arm is typed
              unfold f_typeMatch_256 f_typeMatch_280
              refine Rt.ok (fun _ => ?_) (fun z => absurd z3 z)
              refine Rt.bd (oR_mk (v := some vr) (y3.1.L n1.1) hws3 m1) (Rt.bd (oI_mk hy3 c3 (v := nI kf) rfl) (Rt.bd (aQ_n (y3.1.L m2.1) hvr3 (show kf < 13 by omega) (by decide)) ?_))
              rw [e1, nI_1]
              have hvS : ZF S3 (xs k + 2) = ZF R.S (xs k + 2) := (f3 _ (by omega)).trans ((v2.2.1 _ a3 (fun x9 => Xo_dj hXv x9 (Or.inr (Nat.le_refl _)))).trans (hU _ a3 (Xo_mo hXv (by omega) (by omega))))
              have hU3 : Unt R S3 (p' + 1) (ps (k + 1)) := fun a9 ha9 w9 => (f3 a9 (fun e => by rw [e] at w9; exact Xo_dj (Or.inl ⟨ps k, hoy, Nat.le_refl _, Nat.lt_succ_self _⟩) w9 (Or.inl (by omega)))).trans ((v2.2.1 a9 ha9 (fun x9 => Xo_dj w9 x9 (Or.inr (by omega)))).trans (hU a9 ha9 (Xo_mo w9 (by omega) (by omega))))
              refine Rt.bn (tam_ hK (hV n (by omega)) y3 z3 d3 (show vs (k + 1) ≤ 40 by omega) (by omega) (by omega) ha ce3 rfl rfl ⟨_, hG⟩ hbd hyL a1 c3 a2 a4 a7 a3 a5 hvS a6 e5 e3 e4 a8 a9 hU3 (by omega)) (fun S4 _ q4 => ?_)
              obtain ⟨c4, nv4, l1, l2, l3, l4, l5⟩ := q4
              have v4 : VX R (Xo R (ps k) (ps (k + 1))) S3 S4 := l4.mo (fun a w => w.elim (fun e => e ▸ hXv) (fun w => Xo_mo w (by omega) (Nat.le_refl _)))
              have v4k : VX R (Xo R (q0 + 1) (ps (k + 1))) S S4 := v3k.tr v4 (fun a w => Xo_mo w (by omega) (Nat.le_refl _))
              refine ih (k + 1) (vf := fun j => if j = k then kf else vf j) (by omega) (by omega) l3 (by omega) (by omega) (v4k.mo (fun a w => Xo_mo w (Nat.le_refl _) (by omega))) (fun z4 => ⟨v4k, ?_⟩)
              obtain ⟨Λ2, o1, o2, o3, o4, o5⟩ := l5 z4
              refine ⟨Λ2, ?_, d2.tr o2, o3, fun k9 hk9 => by rw [o4 k9 hk9, zq3, d4 k9 hk9], fun j9 hj9 => ?_⟩
              · have := o1.up (c2 := c + (ps (k + 1) - (q0 + 1))) (by omega)
                rw [sub3 hm1.2 hm3.2] at this
                exact this
              · by_cases e0 : j9 = k
                · subst e0
                  rw [if_pos rfl]
                  refine ⟨x1, o5, fun j2 hj2 => ?_⟩
                  rw [if_neg (by omega)]
                  exact fun e => hag w0 j2 (by omega) (by rw [x5, e])
                · rw [if_neg e0]
                  obtain ⟨r1, r2, r3⟩ := d5 j9 (by omega)
                  have hmi := j8 (j9 + 1) k (by omega) hk2
                  refine ⟨r1, sN_vx ((v3.mo (fun a e => e ▸ hXy)).tr v4 (fun _ w => w)) o2 r2 (Or.inl (by omega)), fun j2 hj2 => ?_⟩
                  rw [if_neg (by omega)]; exact r3 j2 hj2
            · exact Rt.bd (oI_mk hy3 c3 (v := nI (ps k)) rfl) (Rt.be (fai_ y3.1 (by omega)) (hgo _ (flS_n0 (by decide)) y3.1.fl (v3'.n VX.fl)))
          · have hjlt : j < k := by
              rcases Nat.lt_or_ge j k with z | z
              · exact z
              · exact absurd (nI_le z (by omega)) w
            refine Rt.bd (oR_mk (y3.1.L ha) ce3 (v := some ar) rfl) (Rt.bd (aQ_j (y3.1.L har) harr3 (show j < cap by omega) (by omega)) ?_)
            rw [(j7 j (by omega)).1]
            obtain ⟨r1, r2, r3⟩ := d5 j hjlt
            have hmi := j8 (j + 1) k (by omega) hk2
            have r2' : sN R S3 Λ1 gv (n + 1) 2 (xs j) (ps j) (ps (j + 1)) (bs j) (bs (j + 1)) (vs j) (vs (j + 1)) Γ Γ (i, vf j, bd) := sN_vx (v3.mo (fun a e => e ▸ hXy)) pfx.rf r2 (Or.inl (by omega))
            obtain ⟨⟨b1', b2', b3'⟩, na9, bk9, mk9, p9, fv9, tx9, us9, b4', _⟩ := r2'
            refine Rt.bd (oI_mk (y3.1.L b1') b4' (v := nI (vf j)) rfl) (Rt.bd (oI_mk hy3 c3 (v := r) rfl) ?_)
            rw [nI_1]
            refine Rt.it (fun _ => ih2 (j + 1) 1 (by omega) (by omega) (fun w => absurd w (by decide))) (fun wv => ih2 (j + 1) ag (by omega) (by omega) (fun w j2 hj2 => ?_))
            by_cases e0 : j2 = j
            · subst e0; exact fun e => wv e.symm
            · exact hag w j2 (by omega)
      exact h165 bigN 0 0 (by show k < 0 + 1000000000000; omega) (Nat.zero_le _) (fun _ j2 hj2 => absurd hj2 (by omega))
  have hst := hloop bigN 0 (S1 := S) (vf := fun _ => 0) (by show mn < 0 + 1000000000000; omega) (Nat.zero_le _) h.1 (by omega) (by omega) VX.rf (fun _ => ⟨VX.rf, Λ0, by rw [j1, j5, Nat.sub_self, Nat.sub_self]; exact h, pfx.rf, hΛ.trans j5.symm, fun _ _ => rfl, fun j hj => absurd hj (by omega)⟩)
  exact hst
end MAT
