section VRT
variable {R : yR} {Γ : List Nat} {c nv : Nat}
/-- a variant -/
theorem vro_ (hK : yRm R) (hv : nv ≤ 10000) {V : Sg → Option Nat → Option (Sg × Option Nat)} {n : Nat} (hV : VH R Γ nv n V) {S : Sg} {kk kq e p q b b2 p' z mn : Nat} {li si : Value} (hc : c + (q - p) ≤ 1990) (h : TS R c nv S) (hS : SCO R S Γ) (hI : ITA R S) (he : e ∈ ZL R.S) (hG : ZF R.S e = xpC 6 p (nI (p + 2)) (nI p) 0 0 .null li si mn) (hF : ZF S e = ZF R.S e) (hpq : p + 2 < q) (hp : p < p') (hkq : kq = kk + 1 ∨ mn = 0) (hQ : isQl z (isE (ZL R.S) (ZF R.S) (R.K.1 9) (R.K.1 0) n kk) (ZL R.S) (ZF R.S) (R.K.1 9) (R.K.1 0) li si mn p' q b b2) (hU : Unt R S p q) (hq : q ≤ R.T) : Rt (f_variantOf R.K V S (some e)) (VaP R Γ c nv S (n + 1) kq e p q b b2) := by
  have hT := h.tb
  have hpq1 : p < q := by omega
  have ho : ownT (ZF R.S) e = some p := own_a hG (by decide) (by decide) (by omega)
  have c1 : ZF S e = xpC 6 p (nI (p + 2)) (nI p) 0 0 .null li si mn := hF.trans hG
  have he1 := h.L he
  have hwr : ∀ (wh : Int32) (tj : Nat), wh ≠ 0 → tj < R.T → Rt (bnd (f_wrong R.K S (some e) wh (nI tj)) fun S28 v29 => some (S28, v29)) (VaP R Γ c nv S (n + 1) kq e p q b b2) := fun wh tj hw htj => by
    refine Rt.bn (wrg_ hK hv (by omega) h he hG rfl ho (Nat.le_refl p) hpq1 htj hw) (fun S3 r3 q3 => ?_)
    obtain ⟨x3, rfl, k1, k2⟩ := q3
    exact Rt.rt (VaP.bad k1 (by omega) k2)
  have h27 : Rt (f_variantOf_27 R.K V S (some e)) (VaP R Γ c nv S (n + 1) kq e p q b b2) := by
    unfold f_variantOf_27
    exact Rt.bd (oI_mk he1 c1 (v := nI p) rfl) (hwr 3 p (by decide) (by omega))
  unfold f_variantOf
  refine Rt.bd (oI_mk he1 c1 (v := nI p) rfl) (Rt.bn (inm_ h (by omega)) (fun S2 r2 q2 => ?_))
  obtain ⟨rfl, q2⟩ := q2
  rcases q2 with rfl | ⟨i, hi, rfl⟩
  · exact Rt.ip (by decide) h27
  have hi70 := h.im.1
  obtain ⟨n1, n2, fs, mn2, na, g, n3, n4, n5, n6, n7, n8, n9, n10, n11⟩ := hI i hi
  have hw := h.L n1.1
  refine Rt.iq (nI_pos (by omega)) (Rt.bd (h.it hi n2) (Rt.bd (oI_mk hw n3 n4) (Rt.it (fun hk => ?_) (fun _ => h27))))
  refine Rt.bd (h.it hi n2) (Rt.bd (oI_mk he1 c1 (v := nI (p + 2)) rfl) (Rt.bn (fof_ h n1.1 n3 n5 n6 n7 n8.1 n9 n10 (show p + 2 < R.T by omega)) (fun S3 r3 q3 => ?_)))
  obtain ⟨rfl, q3⟩ := q3
  rcases q3 with rfl | ⟨vv, s9, x1, rfl, x2, x3, x4⟩
  · exact Rt.iq (by decide) (Rt.bd (oI_mk he1 c1 (v := nI (p + 2)) rfl) (hwr 3 (p + 2) (by decide) (by omega)))
  refine Rt.ip (nI_le (Nat.zero_le vv) (by omega)) ?_
  have hEn : ∃ (vr : Nat) (fv : Nat → Option Nat), fs[11]? = some (.ref vr) ∧ nXo R vr ∧ ZF S3 vr = .inl (R.K.1 13, 13, .inr (.inr (.inr (.inr fv)))) ∧ ∀ k : Nat, k < mn2 → ∃ (pa mk : Nat) (f : Nat → Option Nat), fv k = some pa ∧ paY R S3 pa mk f := by
    rcases n11 with ⟨w, _⟩ | ⟨_, w⟩ | ⟨w, _⟩
    · rw [hk] at w; exact absurd w (by decide)
    · exact w
    · rw [hk] at w; exact absurd w (by decide)
  obtain ⟨vr, fv, m1, m2, m3, m4⟩ := hEn
  obtain ⟨pa, mk, f, m5, m6⟩ := m4 vv x1
  have hpa : ∃ ws : List Value, ZF S3 pa = .inr (17, ws) ∧ ws[0]? = some (.int (nI mk)) ∧ mk ≤ 12 ∧ (0 < mk → ∃ ta : Nat, ws[2]? = some (.ref ta) ∧ rTs R S3 ta 12 mk f (vTy S3)) := by
    rcases m6.2 with ⟨w1, w2⟩ | ⟨wa, ta, w1, w2, w3⟩
    · subst w2; exact ⟨_, w1, rfl, by omega, fun w => absurd w (by omega)⟩
    · exact ⟨_, w1, rfl, w2, fun _ => ⟨ta, rfl, w3⟩⟩
  obtain ⟨ws, u1, u2, u3, u4⟩ := hpa
  refine Rt.bd (h.it hi n2) (Rt.bd (oR_mk (v := some vr) hw n3 m1) (Rt.bd (aQ_n (h.L m2.1) m3 (show vv < 13 by omega) (by decide)) ?_))
  rw [m5]
  refine Rt.bd (oI_mk (h.L m6.1.1) u1 u2) (Rt.bd (oI_mk he1 c1 (v := nI mn) rfl) (Rt.it (fun hm => ?_) (fun _ => Rt.bd (oI_mk he1 c1 (v := nI p) rfl) (hwr 4 p (by decide) (by omega)))))
  obtain ⟨a1, a2, a3, a4⟩ := ixw_ (k := 4) (v := .int (nI i)) h he hG rfl ho (Nat.le_refl p) hpq1 c1 (Or.inl rfl)
  refine Rt.bd a1 ?_
  obtain ⟨b1, b2', b3, b4⟩ := ixw_ (k := 5) (v := .int (nI vv)) a2 he hG rfl ho (Nat.le_refl p) hpq1 (gs := [.int 6, .int (nI p), .int (nI (p + 2)), .int (nI p), .int (nI i), .int 0, .long 0, .int 0, .null, li, si, .int (nI mn), .null, .null]) ZF_s (Or.inr rfl)
  refine Rt.bd b1 ?_
  have ce : ZF (UF (UF S3 e (.inr (15, ([.int 6, .int (nI p), .int (nI (p + 2)), .int (nI p), .int 0, .int 0, .long 0, .int 0, .null, li, si, .int (nI mn), .null, .null] : List Value).set 4 (.int (nI i))))) e (.inr (15, ([.int 6, .int (nI p), .int (nI (p + 2)), .int (nI p), .int (nI i), .int 0, .long 0, .int 0, .null, li, si, .int (nI mn), .null, .null] : List Value).set 5 (.int (nI vv))))) e = xtC 6 p (nI (p + 2)) (nI p) (nI i) (nI vv) 0 0 .null li si mn .null .null := ZF_s
  have hU9 : Unt R (UF (UF S3 e (.inr (15, ([.int 6, .int (nI p), .int (nI (p + 2)), .int (nI p), .int 0, .int 0, .long 0, .int 0, .null, li, si, .int (nI mn), .null, .null] : List Value).set 4 (.int (nI i))))) e (.inr (15, ([.int 6, .int (nI p), .int (nI (p + 2)), .int (nI p), .int (nI i), .int 0, .long 0, .int 0, .null, li, si, .int (nI mn), .null, .null] : List Value).set 5 (.int (nI vv))))) p' q := fun a ha w => by
    have hae : a ≠ e := fun e0 => by rw [e0] at w; exact own_n ho ⟨_, hG⟩ (Nat.le_refl p) (Nat.lt_succ_self p) (Or.inl (by omega)) w
    exact ((ZF_n hae).trans (ZF_n hae)).trans (hU a ha (Xo_mo w (by omega) (Nat.le_refl _)))
  suffices hmain : ∀ S9 : Sg, TS R c nv S9 → VX R (Xo R p q) S3 S9 → VS S3 S9 → ZF S9 e = xtC 6 p (nI (p + 2)) (nI p) (nI i) (nI vv) 0 0 .null li si mn .null .null → Unt R S9 p' q → Rt (f_variantOf_117 R.K V bigN S9 (some e) (nI i) (some pa) (nI 0)) (VaP R Γ c nv S3 (n + 1) kq e p q b b2) by
    exact hmain _ b2' (a3.tr b3 (fun _ w => w)) (a4.tr b4) ce hU9
  clear a1 a2 a3 a4 b1 b2' b3 b4 ce hU9
  intro S9 a2 a3 a4 ce hU9
  have hf : ∀ k : Nat, k < mk → f k = some ((f k).getD 0) := fun k hk => by obtain ⟨ta, _, r2⟩ := u4 (by omega); obtain ⟨x, y1, _⟩ := r2.2.2 k hk; rw [y1]; rfl
  have hen : ∀ {S1 : Sg} {p9 q9 : Nat}, VX R (Xo R p9 q9) S3 S1 → enY R S1 i vv mk (fun k => (f k).getD 0) := fun {S1 p9 q9} v => enY.vx v ⟨fs, mn2, vr, pa, fv, f, hi, hk, n1, n3, n5, n6, x1, m1, m2, m3, m5, m6, hf⟩
  -- the end
  have h158 : ∀ (S1 : Sg) (c9 : Nat), TS R c9 nv S1 → c9 + 1 ≤ c + (q - p) → VX R (Xo R p q) S3 S1 → VS S3 S1 → ZF S1 e = xtC 6 p (nI (p + 2)) (nI p) (nI i) (nI vv) 0 0 .null li si mn .null .null → (∀ S6 : Sg, VX R (Xo R p q) S1 S6 → (∀ a : Nat, a ∈ ZL R.S → a ≠ e → ZF S6 a = ZF S1 a) → Zi S1 3 = 0 → mn = mk ∧ ∃ (f9 : Nat → Option Nat) (g9 : Nat → Int32), lsX R S6 (xE R S6 Γ n kk) z li si mn p' q b b2 (fun k => (f k).getD 0) f9 g9) → Rt (f_variantOf_158 R.K V S1 (some e) (nI i)) (VaP R Γ c nv S3 (n + 1) kq e p q b b2) := fun S1 c9 t1 hc9 v1 s1 e1 g1 => by
    unfold f_variantOf_158
    refine Rt.bn (typ_ hK hv t1 (Or.inr (Or.inr (Or.inl ⟨rfl, ⟨i, hi, rfl, hk⟩, rfl⟩))) (Or.inl rfl) (by omega)) (fun S5 r5 q5 => ?_)
    obtain ⟨x, rfl, t5, y5, v5, s5, z5⟩ := q5
    have e5 : ZF S5 e = xtC 6 p (nI (p + 2)) (nI p) (nI i) (nI vv) 0 0 .null li si mn .null .null := (v5.2.1 e he (fun w => w)).trans e1
    refine ftl_ t5 hc9 (v1.n v5) (s1.tr s5) ⟨_, _, _, y5⟩ he hG rfl ho (Nat.le_refl p) hpq1 e5 (fun S6 v6 f6 e6 z6 => ?_)
    obtain ⟨q0, f9, g9, g2⟩ := g1 S6 (v5.b v6) (fun a ha hae => (f6 a hae).trans (v5.2.1 a ha (fun w => w))) (by rw [← z5]; exact z6)
    subst q0
    have v26 := (v1.n v5).tr v6 (fun _ w => w)
    have y6 := v6.2.2.2.1 _ _ _ _ y5
    exact ⟨⟨he, ⟨p, ho, Nat.le_refl _, hpq1⟩, hpq1⟩, Or.inl (Or.inl (vTy.pl y6 (by decide))), Or.inr (Or.inr (Or.inr (Or.inr (Or.inr (Or.inr (Or.inr ⟨i, vv, mn, p', z, li, si, f9, g9, _, e6, hp, hen v26, y6, kk, hkq, g2⟩))))))⟩
  rcases LQ_of hQ with ⟨w1, w2, w3⟩ | ⟨la, sa, cap, q0, f9, g9, ps, bs, xs, pf, sf, w1, w2, hL⟩
  · obtain ⟨m9, hb, _⟩ : ∃ m9 : Nat, bigN = m9 + 1 ∧ 0 ≤ m9 := bigN_gt (by omega)
    rw [hb]
    unfold f_variantOf_117
    refine Rt.bd (oI_mk (a2.L he) ce (v := nI mn) rfl) (Rt.ip (by rw [w1]; decide) (h158 S9 c a2 (by omega) a3 a4 ce (fun S6 _ _ _ => ⟨?_, fun _ => none, fun _ => 0, Or.inl ⟨w1, w2, w3⟩⟩)))
    have hm' := (nI_eq (a := mk) (b := mn) (by omega) (by omega)).mp hm
    omega
  · subst w1 w2
    have hmq : mn ≤ q := by have := hL.1; omega
    have hmm : mk = mn := (nI_eq (a := mk) (b := mn) (by omega) (by omega)).mp hm
    subst hmm
    obtain ⟨ta, r1, r2⟩ := u4 (by have := hL.1.2.2.2.2.1; omega)
    have hloop : ∀ (m k : Nat) {S1 : Sg}, mk < k + m → k ≤ mk → TS R (c + (ps k - p')) nv S1 → VX R (Xo R p' (ps k)) S9 S1 → VS S9 S1 → (Zi S1 3 = 0 → ∀ j : Nat, j < k → xE R S1 Γ n kk (xs j) (pf j) (ps (j + 1)) (bs j) (bs (j + 1)) ((fun k => (f k).getD 0) j)) → Rt (f_variantOf_117 R.K V m S1 (some e) (nI i) (some pa) (nI k)) (VaP R Γ c nv S3 (n + 1) kq e p q b b2) := by
      intro m
      induction m with
      | zero => intro k S1 a b; omega
      | succ m ih =>
        intro k S1 a hkm t1 v1 s1 g1
        have hpk : ps k ≤ q := by have := hL.2.2.2 k mk hkm (Nat.le_refl _); have := hL.1.2.2.2.2.2.2.1; have := hL.2.1.2.1; omega
        have e1 : ZF S1 e = xtC 6 p (nI (p + 2)) (nI p) (nI i) (nI vv) 0 0 .null (.ref la) (.ref sa) mk .null .null := (v1.2.1 e he (own_n ho ⟨_, hG⟩ (Nat.le_refl p) (Nat.lt_succ_self p) (Or.inl (by omega)))).trans ce
        have v1' : VX R (Xo R p q) S3 S1 := a3.tr v1 (fun a w => Xo_mo w (by omega) hpk)
        have s1' := a4.tr s1
        have hend : (Zi S1 3 = 0 → k = mk) → Rt (f_variantOf_158 R.K V S1 (some e) (nI i)) (VaP R Γ c nv S3 (n + 1) kq e p q b b2) := fun hz => h158 S1 _ t1 (by omega) v1' s1' e1 (fun S6 v6 f6 z6 => ⟨rfl, f9, g9, LQ.en hL t1 v6 (by omega) hq (fun j hj => xE_vx v6 (g1 z6 j (by rw [hz z6]; exact hj)) (fun a ha ⟨t, x1, x2, x3⟩ _ => f6 a ha (fun w => by
          rw [w, ho] at x1; cases x1
          have := (hL.2.2.1 j hj).2.1; have := hL.2.2.2 0 j (by omega) (by omega); have := hL.2.1.1
          omega)))⟩)
        unfold f_variantOf_117
        refine Rt.bd (oI_mk (t1.L he) e1 (v := nI mk) rfl) (Rt.it (fun w => hend (fun _ => ?_)) (fun w => ?_))
        · have := (nI_leI (a := mk) (b := k) (by omega) (by omega)).mp w; omega
        have hlt : k < mk := by
          rcases Nat.lt_or_ge k mk with z | z
          · exact z
          · exact absurd (nI_le z (by omega)) w
        refine Rt.ok (fun z1 => ?_) (fun z1 => hend (fun w => absurd w z1))
        have hla := t1.rq hL.1.1 hL.1.2.2.1 (hL.2.2.1 0 (by omega)).1
        refine Rt.bd (oR_mk (t1.L he) e1 (v := some la) rfl) (Rt.bd (aQ_j (t1.L hL.1.1) hla (show k < cap by have := hL.1.2.2.2.2.2.1; omega) (by omega)) ?_)
        rw [(hL.2.2.1 k hlt).1]
        refine Rt.bd (oR_mk (v := some ta) (t1.L m6.1.1) ((v1'.nx m6.1).trans u1) r1) (Rt.bd (aQ_n (t1.L r2.1.1) ((v1'.nx r2.1).trans r2.2.1) (show k < 12 by omega) (by decide)) ?_)
        refine Rt.bn (LQ.st hL hV hlt (c := c) (by omega) hq (SCO.vx v1' s1' hS) (hI.vx v1') hU9 t1 v1 s1 (g1 z1)) (fun S4 _ q3 => ?_)
        obtain ⟨t3, v3, s3, _, _, g3⟩ := q3
        rw [nI_1]
        refine ih (k + 1) (by omega) (by omega) t3 v3 s3 (fun z3 j hj => ?_)
        obtain ⟨t, y1, y2⟩ := g3 z3
        have := y2 j hj
        dsimp only at this
        by_cases e0 : j = k
        · rw [if_pos e0] at this
          subst e0
          have : t = (f j).getD 0 := by rw [y1]; rfl
          dsimp only
          rw [← this]; assumption
        · rw [if_neg e0] at this; exact this
    exact hloop bigN 0 (by show mk < 0 + 1000000000000; omega) (Nat.zero_le _) (a2.up (by omega)) VX.rf VS.rf (fun _ j hj => absurd hj (by omega))
end VRT
