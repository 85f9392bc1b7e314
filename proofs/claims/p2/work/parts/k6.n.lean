-- k6.n.lean.txt
section
section CAL
variable {R : yR} {Γ : List Nat} {c nv : Nat}
theorem TS.im {S : Sg} (h : TS R c nv S) : R.im ≤ 70 ∧ Zq S 11 = Zq R.S 11 := by
  obtain ⟨G, tm, Y, ad, h1, h2, h3, h4⟩ := h
  exact ⟨h1.1.2.2.1.1, h4.2.2.2 11 (by decide) (by decide)⟩
theorem TS.it {S : Sg} (h : TS R c nv S) {i : Nat} (hi : i < R.im) (hq : Zq R.S 11 i = some (R.ws i)) : rQ S 11 (nI i) = some (some (R.ws i)) := by
  have := h.im.1
  rw [rQ_n (show i < rlen 11 by show i < 70; omega) (by decide), h.im.2, hq]
/-- an exp's item or variant is written: the exp's own cell -/
theorem ixw_ {S : Sg} {e p q t k : Nat} {fs gs : List Value} {v : Value} (h : TS R c nv S) (he : e ∈ ZL R.S) (hG : ZF R.S e = .inr (15, fs)) (hl : fs.length = 14) (ho : ownT (ZF R.S) e = some t) (h1 : p ≤ t) (h2 : t < q) (hF : ZF S e = .inr (15, gs)) (hk : k = 4 ∨ k = 5) : pV S 15 (some e) k v = some (UF S e (.inr (15, gs.set k v))) ∧ TS R c nv (UF S e (.inr (15, gs.set k v))) ∧ VX R (Xo R p q) S (UF S e (.inr (15, gs.set k v))) ∧ VS S (UF S e (.inr (15, gs.set k v))) := by
  obtain ⟨g0, gs2, g1, g2, g3, g4⟩ := h.ob he hG
  rw [hF] at g1; cases g1
  refine ⟨pV_mk g0 hF (by rw [g2, hl]; rcases hk with w | w <;> subst w <;> decide), h.uf he (cs_put g4 (by rcases hk with w | w <;> subst w <;> rfl)), VX.uf (Or.inl ⟨t, ho, h1, h2⟩) (fun vs w => by rw [hF] at w; cases w) (fun vs w => by rw [hF] at w; cases w), VS.uf (fun k vs hk w => by rw [hF] at w; cases w; exact hk rfl)⟩
/-- call -/
theorem cal_ (hK : yRm R) (hv : nv ≤ 10000) {V : Sg → Option Nat → Option (Sg × Option Nat)} {n : Nat} (hV : VH R Γ nv n V) {S : Sg} {kk kq e p q b b2 p' z mn : Nat} {li si : Value} (hc : c + (q - p) ≤ 1990) (h : TS R c nv S) (hS : SCO R S Γ) (hI : ITA R S) (he : e ∈ ZL R.S) (hG : ZF R.S e = xpC 3 p 0 (nI p) 0 0 .null li si mn) (hF : ZF S e = ZF R.S e) (hpq : p < q) (hp : p < p') (hkq : kq = kk + 1 ∨ mn = 0) (hQ : isQl z (isE (ZL R.S) (ZF R.S) (R.K.1 9) (R.K.1 0) n kk) (ZL R.S) (ZF R.S) (R.K.1 9) (R.K.1 0) li si mn p' q b b2) (hU : Unt R S p q) (hq : q ≤ R.T) : Rt (f_call R.K V S (some e)) (VaP R Γ c nv S (n + 1) kq e p q b b2) := by
  have hT := h.tb
  have ho : ownT (ZF R.S) e = some p := own_a hG (by decide) (by decide) (by omega)
  have c1 : ZF S e = xpC 3 p 0 (nI p) 0 0 .null li si mn := hF.trans hG
  have he1 := h.L he
  have hwr : ∀ wh : Int32, wh ≠ 0 → Rt (bnd (f_wrong R.K S (some e) wh (nI p)) fun S28 v29 => some (S28, v29)) (VaP R Γ c nv S (n + 1) kq e p q b b2) := fun wh hw => by
    refine Rt.bn (wrg_ hK hv (by omega) h he hG rfl ho (Nat.le_refl p) hpq (by omega) hw) (fun S3 r3 q3 => ?_)
    obtain ⟨x3, rfl, k1, k2⟩ := q3
    exact Rt.rt (VaP.bad k1 (by omega) k2)
  have h27 : Rt (f_call_27 R.K V S (some e)) (VaP R Γ c nv S (n + 1) kq e p q b b2) := by
    unfold f_call_27
    exact Rt.bd (oI_mk he1 c1 (v := nI p) rfl) (hwr 3 (by decide))
  unfold f_call
  refine Rt.bd (oI_mk he1 c1 (v := nI p) rfl) (Rt.bn (inm_ h (by omega)) (fun S2 r2 q2 => ?_))
  obtain ⟨rfl, q2⟩ := q2
  rcases q2 with rfl | ⟨i, hi, rfl⟩
  · exact Rt.ip (by decide) h27
  have hi70 := h.im.1
  obtain ⟨n1, n2, fs, mn2, na, g, n3, n4, n5, n6, n7, n8, n9, n10, n11⟩ := hI i hi
  have hw := h.L n1.1
  refine Rt.iq (nI_pos (by omega)) (Rt.bd (h.it hi n2) (Rt.bd (oI_mk hw n3 n4) (Rt.it (fun hk => ?_) (fun _ => h27))))
  refine Rt.bd (h.it hi n2) (Rt.bd (oI_mk hw n3 n5) (Rt.bd (oI_mk he1 c1 (v := nI mn) rfl) (Rt.it (fun hm => ?_) (fun _ => Rt.bd (oI_mk he1 c1 (v := nI p) rfl) (hwr 4 (by decide))))))
  obtain ⟨a1, a2, a3, a4⟩ := ixw_ (k := 4) (v := .int (nI i)) h he hG rfl ho (Nat.le_refl p) hpq c1 (Or.inl rfl)
  refine Rt.bd a1 ?_
  rcases n11 with ⟨w, _⟩ | ⟨w, _⟩ | ⟨_, ta, gv, lo, f, go, rl, m1, m2, m3, m4, m5, m6, m7, m8, m9, l1⟩
  · rw [hk] at w; exact absurd w (by decide)
  · rw [hk] at w; exact absurd w (by decide)
  have ce : ZF (UF S2 e (.inr (15, ([.int 3, .int (nI p), .int 0, .int (nI p), .int 0, .int 0, .long 0, .int 0, .null, li, si, .int (nI mn), .null, .null] : List Value).set 4 (.int (nI i))))) e = xtC 3 p 0 (nI p) (nI i) 0 0 0 .null li si mn .null .null := ZF_s
  have hU9 : Unt R (UF S2 e (.inr (15, ([.int 3, .int (nI p), .int 0, .int (nI p), .int 0, .int 0, .long 0, .int 0, .null, li, si, .int (nI mn), .null, .null] : List Value).set 4 (.int (nI i))))) p' q := fun a ha w => (ZF_n (fun e0 => by rw [e0] at w; exact own_n ho ⟨_, hG⟩ (Nat.le_refl p) (Nat.lt_succ_self p) (Or.inl (by omega)) w)).trans (hU a ha (Xo_mo w (by omega) (Nat.le_refl _)))
  show Rt (f_call_72 R.K V bigN (UF S2 e (.inr (15, ([.int 3, .int (nI p), .int 0, .int (nI p), .int 0, .int 0, .long 0, .int 0, .null, li, si, .int (nI mn), .null, .null] : List Value).set 4 (.int (nI i))))) (some e) (nI i) (nI 0)) _
  revert a2 a3 a4 ce hU9
  generalize UF S2 e (.inr (15, ([.int 3, .int (nI p), .int 0, .int (nI p), .int 0, .int 0, .long 0, .int 0, .null, li, si, .int (nI mn), .null, .null] : List Value).set 4 (.int (nI i)))) = S9
  intro a2 a3 a4 ce hU9
  -- the types of the parameters
  have hf : ∀ k : Nat, k < mn2 → f k = some ((f k).getD 0) := fun k hk => by obtain ⟨x, x1, _⟩ := m2.2.2 k hk; rw [x1]; rfl
  have hfn : ∀ {S1 : Sg} {p9 q9 : Nat}, VX R (Xo R p9 q9) S2 S1 → fnY R S1 i mn2 (fun k => (f k).getD 0) gv := fun {S1 p9 q9} v => fnY.vx v ⟨fs, ta, f, hi, hk, n1, n3, n5, n6, m1, m2, hf, m3⟩
  -- the end
  have h114 : ∀ (S1 : Sg) (c9 : Nat), TS R c9 nv S1 → c9 ≤ c + (q - p) → VX R (Xo R p q) S2 S1 → VS S2 S1 → ZF S1 e = xtC 3 p 0 (nI p) (nI i) 0 0 0 .null li si mn .null .null → (∀ S6 : Sg, VX R (Xo R p q) S1 S6 → (∀ a : Nat, a ≠ e → ZF S6 a = ZF S1 a) → Zi S1 3 = 0 → mn = mn2 ∧ ∃ (f9 : Nat → Option Nat) (g9 : Nat → Int32), lsX R S6 (xE R S6 Γ n kk) z li si mn p' q b b2 (fun k => (f k).getD 0) f9 g9) → Rt (f_call_114 R.K V S1 (some e) (nI i)) (VaP R Γ c nv S2 (n + 1) kq e p q b b2) := fun S1 c9 t1 hc9 v1 s1 e1 g1 => by
    have hws : ZF S1 (R.ws i) = .inr (16, fs) := (v1.nx n1).trans n3
    unfold f_call_114
    refine Rt.bd (t1.it hi n2) (Rt.bd (oR_mk (v := some gv) (t1.L n1.1) hws m3) ?_)
    refine ftl_ t1 hc9 v1 s1 (m4.im v1.2.2.2.1).ty he hG rfl ho (Nat.le_refl p) hpq e1 (fun S6 v6 f6 e6 z6 => ?_)
    obtain ⟨q0, f9, g9, g2⟩ := g1 S6 v6 f6 z6
    subst q0
    have v26 := v1.tr v6 (fun _ w => w)
    exact ⟨⟨he, ⟨p, ho, Nat.le_refl _, hpq⟩, hpq⟩, m4.im v26.2.2.2.1, Or.inr (Or.inr (Or.inr (Or.inr (Or.inr (Or.inl ⟨i, mn, p', z, li, si, f9, g9, _, e6, hp, hfn v26, kk, hkq, g2⟩)))))⟩
  rcases LQ_of hQ with ⟨w1, w2, w3⟩ | ⟨la, sa, cap, q0, f9, g9, ps, bs, xs, pf, sf, w1, w2, hL⟩
  · obtain ⟨m9, hb, _⟩ : ∃ m9 : Nat, bigN = m9 + 1 ∧ 0 ≤ m9 := bigN_gt (by omega)
    rw [hb]
    unfold f_call_72
    refine Rt.bd (oI_mk (a2.L he) ce (v := nI mn) rfl) (Rt.ip (by rw [w1]; decide) (h114 S9 c a2 (by omega) a3 a4 ce (fun S6 _ _ _ => ⟨?_, fun _ => none, fun _ => 0, Or.inl ⟨w1, w2, w3⟩⟩)))
    have hm' := (nI_eq (a := mn2) (b := mn) (by omega) (by omega)).mp hm
    omega
  · subst w1 w2
    have hmq : mn ≤ q := by have := hL.1; omega
    have hmm : mn2 = mn := (nI_eq (a := mn2) (b := mn) (by omega) (by omega)).mp hm
    subst hmm
    have hloop : ∀ (m k : Nat) {S1 : Sg}, mn2 < k + m → k ≤ mn2 → TS R (c + (ps k - p')) nv S1 → VX R (Xo R p' (ps k)) S9 S1 → VS S9 S1 → (Zi S1 3 = 0 → ∀ j : Nat, j < k → xE R S1 Γ n kk (xs j) (pf j) (ps (j + 1)) (bs j) (bs (j + 1)) ((fun k => (f k).getD 0) j)) → Rt (f_call_72 R.K V m S1 (some e) (nI i) (nI k)) (VaP R Γ c nv S2 (n + 1) kq e p q b b2) := by
      intro m
      induction m with
      | zero => intro k S1 a b; omega
      | succ m ih =>
        intro k S1 a hkm t1 v1 s1 g1
        have hpk : ps k ≤ q := by have := hL.2.2.2 k mn2 hkm (Nat.le_refl _); have := hL.1.2.2.2.2.2.2.1; have := hL.2.1.2.1; omega
        have e1 : ZF S1 e = xtC 3 p 0 (nI p) (nI i) 0 0 0 .null (.ref la) (.ref sa) mn2 .null .null := (v1.2.1 e he (own_n ho ⟨_, hG⟩ (Nat.le_refl p) (Nat.lt_succ_self p) (Or.inl (by omega)))).trans ce
        have v1' : VX R (Xo R p q) S2 S1 := a3.tr v1 (fun a w => Xo_mo w (by omega) hpk)
        have s1' := a4.tr s1
        have hend : (Zi S1 3 = 0 → k = mn2) → Rt (f_call_114 R.K V S1 (some e) (nI i)) (VaP R Γ c nv S2 (n + 1) kq e p q b b2) := fun hz => h114 S1 _ t1 (by omega) v1' s1' e1 (fun S6 v6 f6 z6 => ⟨rfl, f9, g9, LQ.en hL t1 v6 (by omega) hq (fun j hj => xE_vx v6 (g1 z6 j (by rw [hz z6]; exact hj)) (fun a _ ⟨t, x1, x2, x3⟩ _ => f6 a (fun w => by
          rw [w, ho] at x1; cases x1
          have := (hL.2.2.1 j hj).2.1; have := hL.2.2.2 0 j (by omega) (by omega); have := hL.2.1.1
          omega)))⟩)
        unfold f_call_72
        refine Rt.bd (oI_mk (t1.L he) e1 (v := nI mn2) rfl) (Rt.it (fun w => hend (fun _ => ?_)) (fun w => ?_))
        · have := (nI_leI (a := mn2) (b := k) (by omega) (by omega)).mp w; omega
        have hlt : k < mn2 := by
          rcases Nat.lt_or_ge k mn2 with z | z
          · exact z
          · exact absurd (nI_le z (by omega)) w
        refine Rt.ok (fun z1 => ?_) (fun z1 => hend (fun w => absurd w z1))
        have hla := t1.rq hL.1.1 hL.1.2.2.1 (hL.2.2.1 0 (by omega)).1
        have hws : ZF S1 (R.ws i) = .inr (16, fs) := (v1'.nx n1).trans n3
        refine Rt.bd (oR_mk (t1.L he) e1 (v := some la) rfl) (Rt.bd (aQ_j (t1.L hL.1.1) hla (show k < cap by have := hL.1.2.2.2.2.2.1; omega) (by omega)) ?_)
        rw [(hL.2.2.1 k hlt).1]
        refine Rt.bd (t1.it hi n2) (Rt.bd (oR_mk (v := some ta) (t1.L n1.1) hws m1) (Rt.bd (aQ_n (t1.L m2.1.1) ((v1'.nx m2.1).trans m2.2.1) (show k < 13 by omega) (by decide)) ?_))
        refine Rt.bn (LQ.st hL hV hlt (c := c) (by omega) hq (SCO.vx v1' s1' hS) (hI.vx v1') hU9 t1 v1 s1 (g1 z1)) (fun S3 _ q3 => ?_)
        obtain ⟨t3, v3, s3, _, _, g3⟩ := q3
        rw [nI_1]
        refine ih (k + 1) (by omega) (by omega) t3 v3 s3 (fun z3 j hj => ?_)
        obtain ⟨t, y1, y2⟩ := g3 z3
        have := y2 j hj
        dsimp only at this
        by_cases e0 : j = k
        · rw [if_pos e0] at this
          subst e0
          have : t = (f j).getD 0 := by rw [y1]; rfl
          dsimp only
          rw [← this]; assumption
        · rw [if_neg e0] at this; exact this
    exact hloop bigN 0 (by show mn2 < 0 + 1000000000000; omega) (Nat.zero_le _) (a2.up (by omega)) VX.rf VS.rf (fun _ j hj => absurd hj (by omega))
end CAL
end
-- k6.o.lean.txt
section
section VRT
variable {R : yR} {Γ : List Nat} {c nv : Nat}
/-- a variant -/
theorem vro_ (hK : yRm R) (hv : nv ≤ 10000) {V : Sg → Option Nat → Option (Sg × Option Nat)} {n : Nat} (hV : VH R Γ nv n V) {S : Sg} {kk kq e p q b b2 p' z mn : Nat} {li si : Value} (hc : c + (q - p) ≤ 1990) (h : TS R c nv S) (hS : SCO R S Γ) (hI : ITA R S) (he : e ∈ ZL R.S) (hG : ZF R.S e = xpC 6 p (nI (p + 2)) (nI p) 0 0 .null li si mn) (hF : ZF S e = ZF R.S e) (hpq : p + 2 < q) (hp : p < p') (hkq : kq = kk + 1 ∨ mn = 0) (hQ : isQl z (isE (ZL R.S) (ZF R.S) (R.K.1 9) (R.K.1 0) n kk) (ZL R.S) (ZF R.S) (R.K.1 9) (R.K.1 0) li si mn p' q b b2) (hU : Unt R S p q) (hq : q ≤ R.T) : Rt (f_variantOf R.K V S (some e)) (VaP R Γ c nv S (n + 1) kq e p q b b2) := by
  have hT := h.tb
  have hpq1 : p < q := by omega
  have ho : ownT (ZF R.S) e = some p := own_a hG (by decide) (by decide) (by omega)
  have c1 : ZF S e = xpC 6 p (nI (p + 2)) (nI p) 0 0 .null li si mn := hF.trans hG
  have he1 := h.L he
  have hwr : ∀ (wh : Int32) (tj : Nat), wh ≠ 0 → tj < R.T → Rt (bnd (f_wrong R.K S (some e) wh (nI tj)) fun S28 v29 => some (S28, v29)) (VaP R Γ c nv S (n + 1) kq e p q b b2) := fun wh tj hw htj => by
    refine Rt.bn (wrg_ hK hv (by omega) h he hG rfl ho (Nat.le_refl p) hpq1 htj hw) (fun S3 r3 q3 => ?_)
    obtain ⟨x3, rfl, k1, k2⟩ := q3
    exact Rt.rt (VaP.bad k1 (by omega) k2)
  have h27 : Rt (f_variantOf_27 R.K V S (some e)) (VaP R Γ c nv S (n + 1) kq e p q b b2) := by
    unfold f_variantOf_27
    exact Rt.bd (oI_mk he1 c1 (v := nI p) rfl) (hwr 3 p (by decide) (by omega))
  unfold f_variantOf
  refine Rt.bd (oI_mk he1 c1 (v := nI p) rfl) (Rt.bn (inm_ h (by omega)) (fun S2 r2 q2 => ?_))
  obtain ⟨rfl, q2⟩ := q2
  rcases q2 with rfl | ⟨i, hi, rfl⟩
  · exact Rt.ip (by decide) h27
  have hi70 := h.im.1
  obtain ⟨n1, n2, fs, mn2, na, g, n3, n4, n5, n6, n7, n8, n9, n10, n11⟩ := hI i hi
  have hw := h.L n1.1
  refine Rt.iq (nI_pos (by omega)) (Rt.bd (h.it hi n2) (Rt.bd (oI_mk hw n3 n4) (Rt.it (fun hk => ?_) (fun _ => h27))))
  refine Rt.bd (h.it hi n2) (Rt.bd (oI_mk he1 c1 (v := nI (p + 2)) rfl) (Rt.bn (fof_ h n1.1 n3 n5 n6 n7 n8.1 n9 n10 (show p + 2 < R.T by omega)) (fun S3 r3 q3 => ?_)))
  obtain ⟨rfl, q3⟩ := q3
  rcases q3 with rfl | ⟨vv, s9, x1, rfl, x2, x3, x4⟩
  · exact Rt.iq (by decide) (Rt.bd (oI_mk he1 c1 (v := nI (p + 2)) rfl) (hwr 3 (p + 2) (by decide) (by omega)))
  refine Rt.ip (nI_le (Nat.zero_le vv) (by omega)) ?_
  have hEn : ∃ (vr : Nat) (fv : Nat → Option Nat), fs[11]? = some (.ref vr) ∧ nXo R vr ∧ ZF S3 vr = .inl (R.K.1 13, 13, .inr (.inr (.inr (.inr fv)))) ∧ ∀ k : Nat, k < mn2 → ∃ (pa mk : Nat) (f : Nat → Option Nat), fv k = some pa ∧ paY R S3 pa mk f := by
    rcases n11 with ⟨w, _⟩ | ⟨_, w⟩ | ⟨w, _⟩
    · rw [hk] at w; exact absurd w (by decide)
    · exact w
    · rw [hk] at w; exact absurd w (by decide)
  obtain ⟨vr, fv, m1, m2, m3, m4⟩ := hEn
  obtain ⟨pa, mk, f, m5, m6⟩ := m4 vv x1
  have hpa : ∃ ws : List Value, ZF S3 pa = .inr (17, ws) ∧ ws[0]? = some (.int (nI mk)) ∧ mk ≤ 12 ∧ (0 < mk → ∃ ta : Nat, ws[2]? = some (.ref ta) ∧ rTs R S3 ta 12 mk f (vTy S3)) := by
    rcases m6.2 with ⟨w1, w2⟩ | ⟨wa, ta, w1, w2, w3⟩
    · subst w2; exact ⟨_, w1, rfl, by omega, fun w => absurd w (by omega)⟩
    · exact ⟨_, w1, rfl, w2, fun _ => ⟨ta, rfl, w3⟩⟩
  obtain ⟨ws, u1, u2, u3, u4⟩ := hpa
  refine Rt.bd (h.it hi n2) (Rt.bd (oR_mk (v := some vr) hw n3 m1) (Rt.bd (aQ_n (h.L m2.1) m3 (show vv < 13 by omega) (by decide)) ?_))
  rw [m5]
  refine Rt.bd (oI_mk (h.L m6.1.1) u1 u2) (Rt.bd (oI_mk he1 c1 (v := nI mn) rfl) (Rt.it (fun hm => ?_) (fun _ => Rt.bd (oI_mk he1 c1 (v := nI p) rfl) (hwr 4 p (by decide) (by omega)))))
  obtain ⟨a1, a2, a3, a4⟩ := ixw_ (k := 4) (v := .int (nI i)) h he hG rfl ho (Nat.le_refl p) hpq1 c1 (Or.inl rfl)
  refine Rt.bd a1 ?_
  obtain ⟨b1, b2', b3, b4⟩ := ixw_ (k := 5) (v := .int (nI vv)) a2 he hG rfl ho (Nat.le_refl p) hpq1 (gs := [.int 6, .int (nI p), .int (nI (p + 2)), .int (nI p), .int (nI i), .int 0, .long 0, .int 0, .null, li, si, .int (nI mn), .null, .null]) ZF_s (Or.inr rfl)
  refine Rt.bd b1 ?_
  have ce : ZF (UF (UF S3 e (.inr (15, ([.int 6, .int (nI p), .int (nI (p + 2)), .int (nI p), .int 0, .int 0, .long 0, .int 0, .null, li, si, .int (nI mn), .null, .null] : List Value).set 4 (.int (nI i))))) e (.inr (15, ([.int 6, .int (nI p), .int (nI (p + 2)), .int (nI p), .int (nI i), .int 0, .long 0, .int 0, .null, li, si, .int (nI mn), .null, .null] : List Value).set 5 (.int (nI vv))))) e = xtC 6 p (nI (p + 2)) (nI p) (nI i) (nI vv) 0 0 .null li si mn .null .null := ZF_s
  have hU9 : Unt R (UF (UF S3 e (.inr (15, ([.int 6, .int (nI p), .int (nI (p + 2)), .int (nI p), .int 0, .int 0, .long 0, .int 0, .null, li, si, .int (nI mn), .null, .null] : List Value).set 4 (.int (nI i))))) e (.inr (15, ([.int 6, .int (nI p), .int (nI (p + 2)), .int (nI p), .int (nI i), .int 0, .long 0, .int 0, .null, li, si, .int (nI mn), .null, .null] : List Value).set 5 (.int (nI vv))))) p' q := fun a ha w => by
    have hae : a ≠ e := fun e0 => by rw [e0] at w; exact own_n ho ⟨_, hG⟩ (Nat.le_refl p) (Nat.lt_succ_self p) (Or.inl (by omega)) w
    exact ((ZF_n hae).trans (ZF_n hae)).trans (hU a ha (Xo_mo w (by omega) (Nat.le_refl _)))
  suffices hmain : ∀ S9 : Sg, TS R c nv S9 → VX R (Xo R p q) S3 S9 → VS S3 S9 → ZF S9 e = xtC 6 p (nI (p + 2)) (nI p) (nI i) (nI vv) 0 0 .null li si mn .null .null → Unt R S9 p' q → Rt (f_variantOf_117 R.K V bigN S9 (some e) (nI i) (some pa) (nI 0)) (VaP R Γ c nv S3 (n + 1) kq e p q b b2) by
    exact hmain _ b2' (a3.tr b3 (fun _ w => w)) (a4.tr b4) ce hU9
  clear a1 a2 a3 a4 b1 b2' b3 b4 ce hU9
  intro S9 a2 a3 a4 ce hU9
  have hf : ∀ k : Nat, k < mk → f k = some ((f k).getD 0) := fun k hk => by obtain ⟨ta, _, r2⟩ := u4 (by omega); obtain ⟨x, y1, _⟩ := r2.2.2 k hk; rw [y1]; rfl
  have hen : ∀ {S1 : Sg} {p9 q9 : Nat}, VX R (Xo R p9 q9) S3 S1 → enY R S1 i vv mk (fun k => (f k).getD 0) := fun {S1 p9 q9} v => enY.vx v ⟨fs, mn2, vr, pa, fv, f, hi, hk, n1, n3, n5, n6, x1, m1, m2, m3, m5, m6, hf⟩
  -- the end
  have h158 : ∀ (S1 : Sg) (c9 : Nat), TS R c9 nv S1 → c9 + 1 ≤ c + (q - p) → VX R (Xo R p q) S3 S1 → VS S3 S1 → ZF S1 e = xtC 6 p (nI (p + 2)) (nI p) (nI i) (nI vv) 0 0 .null li si mn .null .null → (∀ S6 : Sg, VX R (Xo R p q) S1 S6 → (∀ a : Nat, a ∈ ZL R.S → a ≠ e → ZF S6 a = ZF S1 a) → Zi S1 3 = 0 → mn = mk ∧ ∃ (f9 : Nat → Option Nat) (g9 : Nat → Int32), lsX R S6 (xE R S6 Γ n kk) z li si mn p' q b b2 (fun k => (f k).getD 0) f9 g9) → Rt (f_variantOf_158 R.K V S1 (some e) (nI i)) (VaP R Γ c nv S3 (n + 1) kq e p q b b2) := fun S1 c9 t1 hc9 v1 s1 e1 g1 => by
    unfold f_variantOf_158
    refine Rt.bn (typ_ hK hv t1 (Or.inr (Or.inr (Or.inl ⟨rfl, ⟨i, hi, rfl, hk⟩, rfl⟩))) (Or.inl rfl) (by omega)) (fun S5 r5 q5 => ?_)
    obtain ⟨x, rfl, t5, y5, v5, s5, z5⟩ := q5
    have e5 : ZF S5 e = xtC 6 p (nI (p + 2)) (nI p) (nI i) (nI vv) 0 0 .null li si mn .null .null := (v5.2.1 e he (fun w => w)).trans e1
    refine ftl_ t5 hc9 (v1.n v5) (s1.tr s5) ⟨_, _, _, y5⟩ he hG rfl ho (Nat.le_refl p) hpq1 e5 (fun S6 v6 f6 e6 z6 => ?_)
    obtain ⟨q0, f9, g9, g2⟩ := g1 S6 (v5.b v6) (fun a ha hae => (f6 a hae).trans (v5.2.1 a ha (fun w => w))) (by rw [← z5]; exact z6)
    subst q0
    have v26 := (v1.n v5).tr v6 (fun _ w => w)
    have y6 := v6.2.2.2.1 _ _ _ _ y5
    exact ⟨⟨he, ⟨p, ho, Nat.le_refl _, hpq1⟩, hpq1⟩, Or.inl (Or.inl (vTy.pl y6 (by decide))), Or.inr (Or.inr (Or.inr (Or.inr (Or.inr (Or.inr (Or.inr ⟨i, vv, mn, p', z, li, si, f9, g9, _, e6, hp, hen v26, y6, kk, hkq, g2⟩))))))⟩
  rcases LQ_of hQ with ⟨w1, w2, w3⟩ | ⟨la, sa, cap, q0, f9, g9, ps, bs, xs, pf, sf, w1, w2, hL⟩
  · obtain ⟨m9, hb, _⟩ : ∃ m9 : Nat, bigN = m9 + 1 ∧ 0 ≤ m9 := bigN_gt (by omega)
    rw [hb]
    unfold f_variantOf_117
    refine Rt.bd (oI_mk (a2.L he) ce (v := nI mn) rfl) (Rt.ip (by rw [w1]; decide) (h158 S9 c a2 (by omega) a3 a4 ce (fun S6 _ _ _ => ⟨?_, fun _ => none, fun _ => 0, Or.inl ⟨w1, w2, w3⟩⟩)))
    have hm' := (nI_eq (a := mk) (b := mn) (by omega) (by omega)).mp hm
    omega
  · subst w1 w2
    have hmq : mn ≤ q := by have := hL.1; omega
    have hmm : mk = mn := (nI_eq (a := mk) (b := mn) (by omega) (by omega)).mp hm
    subst hmm
    obtain ⟨ta, r1, r2⟩ := u4 (by have := hL.1.2.2.2.2.1; omega)
    have hloop : ∀ (m k : Nat) {S1 : Sg}, mk < k + m → k ≤ mk → TS R (c + (ps k - p')) nv S1 → VX R (Xo R p' (ps k)) S9 S1 → VS S9 S1 → (Zi S1 3 = 0 → ∀ j : Nat, j < k → xE R S1 Γ n kk (xs j) (pf j) (ps (j + 1)) (bs j) (bs (j + 1)) ((fun k => (f k).getD 0) j)) → Rt (f_variantOf_117 R.K V m S1 (some e) (nI i) (some pa) (nI k)) (VaP R Γ c nv S3 (n + 1) kq e p q b b2) := by
      intro m
      induction m with
      | zero => intro k S1 a b; omega
      | succ m ih =>
        intro k S1 a hkm t1 v1 s1 g1
        have hpk : ps k ≤ q := by have := hL.2.2.2 k mk hkm (Nat.le_refl _); have := hL.1.2.2.2.2.2.2.1; have := hL.2.1.2.1; omega
        have e1 : ZF S1 e = xtC 6 p (nI (p + 2)) (nI p) (nI i) (nI vv) 0 0 .null (.ref la) (.ref sa) mk .null .null := (v1.2.1 e he (own_n ho ⟨_, hG⟩ (Nat.le_refl p) (Nat.lt_succ_self p) (Or.inl (by omega)))).trans ce
        have v1' : VX R (Xo R p q) S3 S1 := a3.tr v1 (fun a w => Xo_mo w (by omega) hpk)
        have s1' := a4.tr s1
        have hend : (Zi S1 3 = 0 → k = mk) → Rt (f_variantOf_158 R.K V S1 (some e) (nI i)) (VaP R Γ c nv S3 (n + 1) kq e p q b b2) := fun hz => h158 S1 _ t1 (by omega) v1' s1' e1 (fun S6 v6 f6 z6 => ⟨rfl, f9, g9, LQ.en hL t1 v6 (by omega) hq (fun j hj => xE_vx v6 (g1 z6 j (by rw [hz z6]; exact hj)) (fun a ha ⟨t, x1, x2, x3⟩ _ => f6 a ha (fun w => by
          rw [w, ho] at x1; cases x1
          have := (hL.2.2.1 j hj).2.1; have := hL.2.2.2 0 j (by omega) (by omega); have := hL.2.1.1
          omega)))⟩)
        unfold f_variantOf_117
        refine Rt.bd (oI_mk (t1.L he) e1 (v := nI mk) rfl) (Rt.it (fun w => hend (fun _ => ?_)) (fun w => ?_))
        · have := (nI_leI (a := mk) (b := k) (by omega) (by omega)).mp w; omega
        have hlt : k < mk := by
          rcases Nat.lt_or_ge k mk with z | z
          · exact z
          · exact absurd (nI_le z (by omega)) w
        refine Rt.ok (fun z1 => ?_) (fun z1 => hend (fun w => absurd w z1))
        have hla := t1.rq hL.1.1 hL.1.2.2.1 (hL.2.2.1 0 (by omega)).1
        refine Rt.bd (oR_mk (t1.L he) e1 (v := some la) rfl) (Rt.bd (aQ_j (t1.L hL.1.1) hla (show k < cap by have := hL.1.2.2.2.2.2.1; omega) (by omega)) ?_)
        rw [(hL.2.2.1 k hlt).1]
        refine Rt.bd (oR_mk (v := some ta) (t1.L m6.1.1) ((v1'.nx m6.1).trans u1) r1) (Rt.bd (aQ_n (t1.L r2.1.1) ((v1'.nx r2.1).trans r2.2.1) (show k < 12 by omega) (by decide)) ?_)
        refine Rt.bn (LQ.st hL hV hlt (c := c) (by omega) hq (SCO.vx v1' s1' hS) (hI.vx v1') hU9 t1 v1 s1 (g1 z1)) (fun S4 _ q3 => ?_)
        obtain ⟨t3, v3, s3, _, _, g3⟩ := q3
        rw [nI_1]
        refine ih (k + 1) (by omega) (by omega) t3 v3 s3 (fun z3 j hj => ?_)
        obtain ⟨t, y1, y2⟩ := g3 z3
        have := y2 j hj
        dsimp only at this
        by_cases e0 : j = k
        · rw [if_pos e0] at this
          subst e0
          have : t = (f j).getD 0 := by rw [y1]; rfl
          dsimp only
          rw [← this]; assumption
        · rw [if_neg e0] at this; exact this
    exact hloop bigN 0 (by show mk < 0 + 1000000000000; omega) (Nat.zero_le _) (a2.up (by omega)) VX.rf VS.rf (fun _ j hj => absurd hj (by omega))
end VRT
end
-- k6.p.lean.txt
section
/-- pigeons -/
theorem pig : ∀ (n m : Nat) (f : Nat → Nat), (∀ k : Nat, k < n → f k < m) → (∀ k j : Nat, k < n → j < n → f k = f j → k = j) → n ≤ m
  | 0, _, _, _, _ => Nat.zero_le _
  | n + 1, 0, f, h, _ => absurd (h 0 (by omega)) (by omega)
  | n + 1, m + 1, f, h, hi => by
    have := pig n m (fun k => if f k = m then f n else f k) (fun k hk => ?_) (fun k j hk hj e => ?_)
    · omega
    · have h1 := h k (by omega)
      have h2 := h n (by omega)
      by_cases e : f k = m
      · rw [if_pos e]
        have : f n ≠ m := fun w => by have := hi k n (by omega) (by omega) (e.trans w.symm); omega
        omega
      · rw [if_neg e]; omega
    · by_cases e1 : f k = m
      · rw [if_pos e1] at e
        by_cases e2 : f j = m
        · exact hi k j (by omega) (by omega) (e1.trans e2.symm)
        · rw [if_neg e2] at e
          have := hi n j (by omega) (by omega) e; omega
      · rw [if_neg e1] at e
        by_cases e2 : f j = m
        · rw [if_pos e2] at e
          have := hi k n (by omega) (by omega) e; omega
        · rw [if_neg e2] at e
          exact hi k j (by omega) (by omega) e
/-- .. each hole has one -/
theorem pigS {n : Nat} {f : Nat → Nat} (h : ∀ k : Nat, k < n → f k < n) (hi : ∀ k j : Nat, k < n → j < n → f k = f j → k = j) {y : Nat} (hy : y < n) : ∃ k : Nat, k < n ∧ f k = y := by
  refine Classical.byContradiction (fun hno => ?_)
  have hno : ∀ k : Nat, k < n → f k ≠ y := fun k hk e => hno ⟨k, hk, e⟩
  have := pig n (n - 1) (fun k => if f k = n - 1 then y else f k) (fun k hk => ?_) (fun k j hk hj e => ?_)
  · omega
  · have h1 := h k hk
    have h2 := hno k hk
    by_cases e : f k = n - 1
    · rw [if_pos e]; omega
    · rw [if_neg e]; omega
  · by_cases e1 : f k = n - 1
    · rw [if_pos e1] at e
      by_cases e2 : f j = n - 1
      · exact hi k j hk hj (e1.trans e2.symm)
      · rw [if_neg e2] at e
        exact absurd e.symm (hno j hj)
    · rw [if_neg e1] at e
      by_cases e2 : f j = n - 1
      · rw [if_pos e2] at e
        exact absurd e (hno k hk)
      · rw [if_neg e2] at e
        exact hi k j hk hj e
section MAD
variable {R : yR} {Γ : List Nat} {c nv : Nat}
/-- a new struct -/
theorem mad_ (hK : yRm R) (hv : nv ≤ 10000) {V : Sg → Option Nat → Option (Sg × Option Nat)} {n : Nat} (hV : VH R Γ nv n V) {S : Sg} {kk kq e p q b b2 p' mn : Nat} {li si : Value} (hc : c + (q - p) ≤ 1990) (h : TS R c nv S) (hS : SCO R S Γ) (hI : ITA R S) (he : e ∈ ZL R.S) (hG : ZF R.S e = xpC 5 p 0 (nI (p + 1)) 0 0 .null li si mn) (hF : ZF S e = ZF R.S e) (hpq : p + 1 < q) (hp : p < p') (hkq : kq = kk + 1 ∨ mn = 0) (hQ : isQl 1 (isE (ZL R.S) (ZF R.S) (R.K.1 9) (R.K.1 0) n kk) (ZL R.S) (ZF R.S) (R.K.1 9) (R.K.1 0) li si mn p' q b b2) (hU : Unt R S p q) (hq : q ≤ R.T) : Rt (f_made R.K V S (some e)) (VaP R Γ c nv S (n + 1) kq e p q b b2) := by
  have hT := h.tb
  have hpq1 : p < q := by omega
  have ho : ownT (ZF R.S) e = some p := own_a hG (by decide) (by decide) (by omega)
  have c1 : ZF S e = xpC 5 p 0 (nI (p + 1)) 0 0 .null li si mn := hF.trans hG
  have he1 := h.L he
  have h27 : Rt (f_made_27 R.K V S (some e)) (VaP R Γ c nv S (n + 1) kq e p q b b2) := by
    unfold f_made_27
    refine Rt.bd (oI_mk he1 c1 (v := nI (p + 1)) rfl) (Rt.bn (wrg_ hK hv (by omega) h he hG rfl ho (Nat.le_refl p) hpq1 (by omega) (by decide)) (fun S3 r3 q3 => ?_))
    obtain ⟨x3, rfl, k1, k2⟩ := q3
    exact Rt.rt (VaP.bad k1 (by omega) k2)
  unfold f_made
  refine Rt.bd (oI_mk he1 c1 (v := nI (p + 1)) rfl) (Rt.bn (inm_ h (by omega)) (fun S2 r2 q2 => ?_))
  obtain ⟨rfl, q2⟩ := q2
  rcases q2 with rfl | ⟨i, hi, rfl⟩
  · exact Rt.ip (by decide) h27
  have hi70 := h.im.1
  obtain ⟨n1, n2, fs, mn2, na, g, n3, n4, n5, n6, n7, n8, n9, n10, n11⟩ := hI i hi
  have hw := h.L n1.1
  refine Rt.iq (nI_pos (by omega)) (Rt.bd (h.it hi n2) (Rt.bd (oI_mk hw n3 n4) (Rt.it (fun hk => ?_) (fun _ => h27))))
  have hSt : ∃ (ta : Nat) (f : Nat → Option Nat), fs[10]? = some (.ref ta) ∧ rTs R S2 ta 13 mn2 f (vTy S2) := by
    rcases n11 with ⟨_, w⟩ | ⟨w, _⟩ | ⟨w, _⟩
    · exact w
    · rw [hk] at w; exact absurd w (by decide)
    · rw [hk] at w; exact absurd w (by decide)
  obtain ⟨ta, f, m1, m2⟩ := hSt
  obtain ⟨a1, a2, a3, a4⟩ := ixw_ (k := 4) (v := .int (nI i)) h he hG rfl ho (Nat.le_refl p) hpq1 c1 (Or.inl rfl)
  refine Rt.bd (h.it hi n2) (Rt.bd a1 ?_)
  suffices hmain : ∀ S9 : Sg, TS R c nv S9 → VX R (Xo R p q) S2 S9 → VS S2 S9 → ZF S9 e = xtC 5 p 0 (nI (p + 1)) (nI i) 0 0 0 .null li si mn .null .null → Unt R S9 p' q → Rt (f_made_53 R.K V bigN S9 (some e) (nI i) (some (R.ws i)) (nI 0)) (VaP R Γ c nv S2 (n + 1) kq e p q b b2) by
    exact hmain _ a2 a3 a4 ZF_s (fun a ha w => (ZF_n (fun e0 => by rw [e0] at w; exact own_n ho ⟨_, hG⟩ (Nat.le_refl p) (Nat.lt_succ_self p) (Or.inl (by omega)) w)).trans (hU a ha (Xo_mo w (by omega) (Nat.le_refl _))))
  clear a1 a2 a3 a4
  intro S9 a2 a3 a4 ce hU9
  have hst : ∀ {S1 : Sg} {p9 q9 : Nat}, VX R (Xo R p9 q9) S2 S1 → stY R S1 i mn2 := fun {S1 p9 q9} v => stY.vx v ⟨fs, hi, hk, n1, n3, n5, n6⟩
  have hfl : ∀ {S1 : Sg} {p9 q9 k x : Nat}, VX R (Xo R p9 q9) S2 S1 → k < mn2 → f k = some x → fld R S1 i k x := fun {S1 p9 q9 k x} v hk' hx => fld.vx v (by
    obtain ⟨x2, y1, y2⟩ := m2.2.2 k hk'
    rw [hx] at y1; cases y1
    exact ⟨fs, mn2, ta, f, hi, hk, n1, n3, n5, hk', n6, m1, m2.1, m2.2.1, hx, y2⟩)
  -- the end
  have h202 : ∀ (S1 : Sg) (c9 : Nat), TS R c9 nv S1 → c9 + 1 ≤ c + (q - p) → VX R (Xo R p q) S2 S1 → VS S2 S1 → ZF S1 e = xtC 5 p 0 (nI (p + 1)) (nI i) 0 0 0 .null li si mn .null .null → (∀ S6 : Sg, VX R (Xo R p q) S1 S6 → (∀ a : Nat, a ∈ ZL R.S → a ≠ e → ZF S6 a = ZF S1 a) → Zi S1 3 = 0 → mn = mn2 ∧ ∃ (f9 : Nat → Option Nat) (g9 : Nat → Int32) (tx fo : Nat → Nat), lsX R S6 (xE R S6 Γ n kk) 1 li si mn p' q b b2 tx f9 g9 ∧ (∀ k : Nat, k < mn → fo k < mn ∧ fld R S6 i (fo k) (tx k) ∧ fnm R S6 i (fo k) (g9 k)) ∧ ∀ k j : Nat, k < mn → j < mn → fo k = fo j → k = j) → Rt (f_made_202 R.K V S1 (some e) (nI i)) (VaP R Γ c nv S2 (n + 1) kq e p q b b2) := fun S1 c9 t1 hc9 v1 s1 e1 g1 => by
    unfold f_made_202
    refine Rt.bn (typ_ hK hv t1 (Or.inr (Or.inl ⟨rfl, ⟨i, hi, rfl, hk⟩, rfl⟩)) (Or.inl rfl) (by omega)) (fun S5 r5 q5 => ?_)
    obtain ⟨x, rfl, t5, y5, v5, s5, z5⟩ := q5
    have e5 : ZF S5 e = xtC 5 p 0 (nI (p + 1)) (nI i) 0 0 0 .null li si mn .null .null := (v5.2.1 e he (fun w => w)).trans e1
    refine ftl_ t5 hc9 (v1.n v5) (s1.tr s5) ⟨_, _, _, y5⟩ he hG rfl ho (Nat.le_refl p) hpq1 e5 (fun S6 v6 f6 e6 z6 => ?_)
    obtain ⟨q0, f9, g9, tx, fo, g2, g3, g4⟩ := g1 S6 (v5.b v6) (fun a ha hae => (f6 a hae).trans (v5.2.1 a ha (fun w => w))) (by rw [← z5]; exact z6)
    subst q0
    have v26 := (v1.n v5).tr v6 (fun _ w => w)
    have y6 := v6.2.2.2.1 _ _ _ _ y5
    exact ⟨⟨he, ⟨p, ho, Nat.le_refl _, hpq1⟩, hpq1⟩, Or.inl (Or.inl (vTy.pl y6 (by decide))), Or.inr (Or.inr (Or.inr (Or.inr (Or.inr (Or.inr (Or.inl ⟨i, mn, p', li, si, f9, g9, tx, fo, e6, hp, hst v26, y6, ⟨kk, hkq, g2⟩, g3, g4⟩))))))⟩
  have h175 : ∀ (S1 : Sg) (c9 : Nat), mn ≤ 100000 → TS R c9 nv S1 → c9 + 1 ≤ c + (q - p) → VX R (Xo R p q) S2 S1 → VS S2 S1 → ZF S1 e = xtC 5 p 0 (nI (p + 1)) (nI i) 0 0 0 .null li si mn .null .null → (Zi S1 3 = 0 → mn2 ≤ mn → ∀ S6 : Sg, VX R (Xo R p q) S1 S6 → (∀ a : Nat, a ∈ ZL R.S → a ≠ e → ZF S6 a = ZF S1 a) → mn = mn2 ∧ ∃ (f9 : Nat → Option Nat) (g9 : Nat → Int32) (tx fo : Nat → Nat), lsX R S6 (xE R S6 Γ n kk) 1 li si mn p' q b b2 tx f9 g9 ∧ (∀ k : Nat, k < mn → fo k < mn ∧ fld R S6 i (fo k) (tx k) ∧ fnm R S6 i (fo k) (g9 k)) ∧ ∀ k j : Nat, k < mn → j < mn → fo k = fo j → k = j) → Rt (f_made_175 R.K V S1 (some e) (nI i) (some (R.ws i))) (VaP R Γ c nv S2 (n + 1) kq e p q b b2) := fun S1 c9 hmb t1 hc9 v1 s1 e1 g1 => by
    have hws : ZF S1 (R.ws i) = .inr (16, fs) := (v1.nx n1).trans n3
    unfold f_made_175
    refine Rt.ok (fun z1 => ?_) (fun z1 => h202 S1 c9 t1 hc9 v1 s1 e1 (fun S6 _ _ w => absurd w z1))
    refine Rt.bd (oI_mk (t1.L he) e1 (v := nI mn) rfl) (Rt.bd (oI_mk (t1.L n1.1) hws n5) (Rt.it (fun w => ?_) (fun w => ?_)))
    · have hle := (nI_leI (a := mn2) (b := mn) (by omega) (by omega)).mp w
      exact h202 S1 c9 t1 hc9 v1 s1 e1 (fun S6 v6 f6 z6 => g1 z1 hle S6 v6 f6)
    · refine Rt.bd (oI_mk (t1.L he) e1 (v := nI p) rfl) (Rt.be (fai_ t1 (by omega)) (h202 _ c9 t1.fl hc9 (v1.n VX.fl) (s1.tr VS.fl) (by rw [flS_st.2.1]; exact e1) (fun S6 _ _ w => absurd w (flS_n0 (by decide)))))
  rcases LQ_of hQ with ⟨w1, w2, w3⟩ | ⟨la, sa, cap, q0, f9, g9, ps, bs, xs, pf, sf, w1, w2, hL⟩
  · obtain ⟨m9, hb, _⟩ : ∃ m9 : Nat, bigN = m9 + 1 ∧ 0 ≤ m9 := bigN_gt (by omega)
    rw [hb]
    unfold f_made_53
    exact Rt.bd (oI_mk (a2.L he) ce (v := nI mn) rfl) (Rt.ip (by rw [w1]; decide) (h175 S9 c (by omega) a2 (by omega) a3 a4 ce (fun _ hle S6 _ _ => ⟨by omega, fun _ => none, fun _ => 0, fun _ => 0, fun _ => 0, Or.inl ⟨w1, w2, w3⟩, fun k hk => absurd hk (by omega), fun k j hk => absurd hk (by omega)⟩)))
  · subst w1 w2
    have hmq : mn ≤ q := by have := hL.1; omega
    have hsf : ∀ j : Nat, j < mn → ps j ≤ sf j ∧ sf j < pf j := fun j hj => (hL.2.2.1 j hj).2.2.2.2.2.elim (fun w => absurd w.2 (by decide)) id
    have hpsq : ∀ j : Nat, j ≤ mn → ps j ≤ q := fun j hj => by have := hL.2.2.2 j mn hj (Nat.le_refl _); have := hL.1.2.2.2.2.2.2.1; have := hL.2.1.2.1; omega
    have hg0 : g9 0 ≠ 0 := by
      have h0 := hL.1.2.2.2.2.1
      have h1 := hsf 0 (by omega); have h2 := (hL.2.2.1 0 (by omega)).2.2.1; have h3 := hpsq (0 + 1) (by omega); have h4 := hL.2.1.1
      rw [(hL.2.2.1 0 (by omega)).2.2.2.2.1]; exact nI_ne0 (by omega) (by omega)
    have hloop : ∀ (m k : Nat) {S1 : Sg} {tx fo : Nat → Nat}, mn < k + m → k ≤ mn → TS R (c + (ps k - p')) nv S1 → VX R (Xo R p' (ps k)) S9 S1 → VS S9 S1 → (Zi S1 3 = 0 → ∀ j : Nat, j < k → xE R S1 Γ n kk (xs j) (pf j) (ps (j + 1)) (bs j) (bs (j + 1)) (tx j) ∧ fo j < mn2 ∧ f (fo j) = some (tx j) ∧ (∃ s : Nat, g (fo j) = nI s ∧ s < R.T ∧ nmE R s (sf j) ∧ ∀ j9 : Nat, j9 < fo j → ∃ s : Nat, g j9 = nI s ∧ s < R.T ∧ ¬ nmE R s (sf j)) ∧ ∀ j2 : Nat, j2 < j → ¬ nmE R (sf j2) (sf j)) → Rt (f_made_53 R.K V m S1 (some e) (nI i) (some (R.ws i)) (nI k)) (VaP R Γ c nv S2 (n + 1) kq e p q b b2) := by
      intro m
      induction m with
      | zero => intro k S1 tx fo a b; omega
      | succ m ih =>
        intro k S1 tx fo a hkm t1 v1 s1 g1
        have hpk := hpsq k hkm
        have e1 : ZF S1 e = xtC 5 p 0 (nI (p + 1)) (nI i) 0 0 0 .null (.ref la) (.ref sa) mn .null .null := (v1.2.1 e he (own_n ho ⟨_, hG⟩ (Nat.le_refl p) (Nat.lt_succ_self p) (Or.inl (by omega)))).trans ce
        have v1' : VX R (Xo R p q) S2 S1 := a3.tr v1 (fun a w => Xo_mo w (by omega) hpk)
        have s1' := a4.tr s1
        have hend : (Zi S1 3 = 0 → k = mn) → Rt (f_made_175 R.K V S1 (some e) (nI i) (some (R.ws i))) (VaP R Γ c nv S2 (n + 1) kq e p q b b2) := fun hz => h175 S1 _ (by omega) t1 (by omega) v1' s1' e1 (fun z6 hle S6 v6 f6 => by
          have hkk := hz z6
          subst hkk
          have g2 := g1 z6
          have hinj : ∀ a9 j : Nat, a9 < k → j < k → fo a9 = fo j → a9 = j := fun a9 j ha hj he9 => by
            obtain ⟨s, b1, b2', b3⟩ := (g2 a9 ha).2.2.2.1
            obtain ⟨s2, d1, d2, d3⟩ := (g2 j hj).2.2.2.1
            rw [he9, d1] at b1
            have : s2 = s := (nI_eq (by omega) (by omega)).mp b1
            subst this
            have hnm := b3.1.sm.tr d3.1
            rcases Nat.lt_trichotomy a9 j with w | w | w
            · exact absurd hnm ((g2 j hj).2.2.2.2 a9 w)
            · exact w
            · exact absurd hnm.sm ((g2 a9 ha).2.2.2.2 j w)
          have hmn := pig k mn2 fo (fun j hj => (g2 j hj).2.1) hinj
          have hkm2 : k = mn2 := by omega
          have v26 := v1'.tr v6 (fun _ w => w)
          refine ⟨hkm2, f9, g9, tx, fo, LQ.en hL t1 v6 (by omega) hq (fun j hj => xE_vx v6 (g2 j hj).1 (fun a ha ⟨t, x1, x2, x3⟩ _ => f6 a ha (fun w => ?_))), fun j hj => ⟨by have := (g2 j hj).2.1; omega, hfl v26 (g2 j hj).2.1 (g2 j hj).2.2.1, ?_⟩, hinj⟩
          rotate_left
          · obtain ⟨s, b1, b2', b3, b4⟩ := (g2 j hj).2.2.2.1
            have hs9 := hsf j hj; have hs8 := (hL.2.2.1 j hj).2.2.1; have hs7 := hpsq (j + 1) (by omega)
            exact ⟨fs, na, mn2, sf j, g, n1, (v26.nx n1).trans n3, n5, n6, n7, n8, (v26.nx n8).trans n9, (hL.2.2.1 j hj).2.2.2.2.1, by omega, (g2 j hj).2.1, ⟨s, b1, b2', b3⟩, b4⟩
          rw [w, ho] at x1; cases x1
          have := (hL.2.2.1 j hj).2.1; have := hL.2.2.2 0 j (by omega) (by omega); have := hL.2.1.1
          omega)
        unfold f_made_53
        refine Rt.bd (oI_mk (t1.L he) e1 (v := nI mn) rfl) (Rt.it (fun w => hend (fun _ => ?_)) (fun w => ?_))
        · have := (nI_leI (a := mn) (b := k) (by omega) (by omega)).mp w; omega
        have hlt : k < mn := by
          rcases Nat.lt_or_ge k mn with z | z
          · exact z
          · exact absurd (nI_le z (by omega)) w
        refine Rt.ok (fun z1 => ?_) (fun z1 => hend (fun w => absurd w z1))
        have hsa := t1.ri hL.1.2.1 hL.1.2.2.2.1 hg0
        have hcap : mn ≤ cap := hL.1.2.2.2.2.2.1
        have hskT : ∀ j : Nat, j < mn → sf j < R.T := fun j hj => by have := hsf j hj; have := (hL.2.2.1 j hj).2.2.1; have := hpsq (j + 1) (by omega); omega
        have hws : ZF S1 (R.ws i) = .inr (16, fs) := (v1'.nx n1).trans n3
        have hna : ZF S1 na = .inl (R.K.1 0, 13, .inl g) := (v1'.nx n8).trans n9
        refine Rt.bd (oR_mk (t1.L he) e1 (v := some sa) rfl) (Rt.bd (aI_j (t1.L hL.1.2.1) hsa (show k < cap by omega) (by omega)) ?_)
        rw [(hL.2.2.1 k hlt).2.2.2.2.1]
        refine Rt.bn (fof_ t1 n1.1 hws n5 n6 n7 n8.1 hna n10 (hskT k hlt)) (fun S3 r3 q3 => ?_)
        obtain ⟨rfl, q3⟩ := q3
        have hps1 := hL.2.2.2 k (k + 1) (by omega) (by omega)
        -- a fault
        have h136 : Rt (f_made_136 R.K V (f_made_53 R.K V m) S3 (some e) (nI i) (some (R.ws i)) (nI k)) (VaP R Γ c nv S2 (n + 1) kq e p q b b2) := by
          unfold f_made_136 f_made_169
          refine Rt.bd (oR_mk (t1.L he) e1 (v := some sa) rfl) (Rt.bd (aI_j (t1.L hL.1.2.1) hsa (show k < cap by omega) (by omega)) ?_)
          rw [(hL.2.2.1 k hlt).2.2.2.2.1, nI_1]
          refine Rt.be (fai_ t1 (hskT k hlt)) (ih (k + 1) (tx := tx) (fo := fo) (by omega) (by omega) (t1.fl.up (by omega)) ((v1.mo (fun a w => Xo_mo w (Nat.le_refl _) (by omega))).n VX.fl) (s1.tr VS.fl) (fun w => absurd w (flS_n0 (by decide))))
        -- names that came before
        have h89 : ∀ (m2' j : Nat) (ag : Int32), k < j + m2' → j ≤ k → (ag = 0 → ∀ j2 : Nat, j2 < j → ¬ nmE R (sf j2) (sf k)) → Rt (f_made_89 R.K V (f_made_53 R.K V m) m2' S3 (some e) (nI i) (some (R.ws i)) (nI k) r3 ag (nI j)) (VaP R Γ c nv S2 (n + 1) kq e p q b b2) := by
          intro m2'
          induction m2' with
          | zero => intro j ag a b; omega
          | succ m2' ih2 =>
            intro j ag a9 hjk hag
            unfold f_made_89 f_made_120
            refine Rt.it (fun w => ?_) (fun w => ?_)
            · have hjk2 : k ≤ j := (nI_leI (a := k) (b := j) (by omega) (by omega)).mp w
              rcases q3 with rfl | ⟨kf, s9, x1, rfl, x2, x3, x4⟩
              · exact Rt.ip (by decide) h136
              refine Rt.iq (nI_pos (by omega)) (Rt.it (fun w0 => ?_) (fun _ => h136))
              have hla := t1.rq hL.1.1 hL.1.2.2.1 (hL.2.2.1 0 (by omega)).1
              refine Rt.bd (oR_mk (t1.L he) e1 (v := some la) rfl) (Rt.bd (aQ_j (t1.L hL.1.1) hla (show k < cap by omega) (by omega)) ?_)
              rw [(hL.2.2.1 k hlt).1]
              refine Rt.bd (oR_mk (v := some ta) (t1.L n1.1) hws m1) (Rt.bd (aQ_n (t1.L m2.1.1) ((v1'.nx m2.1).trans m2.2.1) (show kf < 13 by omega) (by decide)) ?_)
              refine Rt.bn (LQ.st hL hV hlt (c := c) (by omega) hq (SCO.vx v1' s1' hS) (hI.vx v1') hU9 t1 v1 s1 (fun j hj => (g1 z1 j hj).1)) (fun S4 _ q4 => ?_)
              obtain ⟨t4, v4, s4, _, _, g4⟩ := q4
              unfold f_made_169
              rw [nI_1]
              refine ih (k + 1) (tx := fun j => if j = k then (f kf).getD 0 else tx j) (fo := fun j => if j = k then kf else fo j) (by omega) (by omega) t4 v4 s4 (fun z4 j9 hj9 => ?_)
              obtain ⟨t, y1, y2⟩ := g4 z4
              have hy := y2 j9 hj9
              dsimp only at hy ⊢
              by_cases e0 : j9 = k
              · subst e0
                rw [if_pos rfl] at hy
                rw [if_pos rfl, if_pos rfl, y1]
                exact ⟨hy, x1, rfl, ⟨s9, x2, x3, x4⟩, fun j2 hj2 => hag w0 j2 (by omega)⟩
              · rw [if_neg e0] at hy
                rw [if_neg e0, if_neg e0]
                exact ⟨hy, (g1 z1 j9 (by omega)).2⟩
            · have hjlt : j < k := by
                rcases Nat.lt_or_ge j k with z | z
                · exact z
                · exact absurd (nI_le z (by omega)) w
              refine Rt.bd (oR_mk (t1.L he) e1 (v := some sa) rfl) (Rt.bd (aI_j (t1.L hL.1.2.1) hsa (show j < cap by omega) (by omega)) (Rt.bd (oR_mk (t1.L he) e1 (v := some sa) rfl) (Rt.bd (aI_j (t1.L hL.1.2.1) hsa (show k < cap by omega) (by omega)) ?_)))
              rw [(hL.2.2.1 k hlt).2.2.2.2.1, (hL.2.2.1 j (by omega)).2.2.2.2.1]
              refine Rt.bn (sne_ t1 (hskT j (by omega)) (hskT k hlt)) (fun S4 r4 q4 => ?_)
              obtain ⟨e4, q4⟩ := q4
              rw [e4, nI_1]
              rcases q4 with ⟨w1, w2⟩ | ⟨w1, w2⟩
              · rw [w1]
                exact Rt.iq (by decide) (ih2 (j + 1) 1 (by omega) (by omega) (fun w => absurd w (by decide)))
              · rw [w1]
                refine Rt.ip rfl (ih2 (j + 1) ag (by omega) (by omega) (fun w j2 hj2 => ?_))
                by_cases e0 : j2 = j
                · subst e0; exact w2
                · exact hag w j2 (by omega)
        exact h89 bigN 0 0 (by show k < 0 + 1000000000000; omega) (Nat.zero_le _) (fun _ j2 hj2 => absurd hj2 (by omega))
    exact hloop bigN 0 (tx := fun _ => 0) (fo := fun _ => 0) (by show mn < 0 + 1000000000000; omega) (Nat.zero_le _) (a2.up (by omega)) VX.rf VS.rf (fun _ j hj => absurd hj (by omega))
end MAD
end
-- k6.q.lean.txt
section
section VLU
variable {R : yR} {Γ : List Nat} {nv : Nat}
/-- value -/
theorem val0 (hK : yRm R) (hv : nv ≤ 10000) : ∀ (n d : Nat), n ≤ d → n ≤ 409 → ∀ (c : Nat) (S : Sg) (kk e p q b b2 : Nat), c + (q - p) ≤ 1990 → TS R c nv S → SCO R S Γ → ITA R S → isE (ZL R.S) (ZF R.S) (R.K.1 9) (R.K.1 0) n kk e p q b b2 → Unt R S p q → q ≤ R.T → Rt (f_value R.K d S (some e)) (VaP R Γ c nv S n kk e p q b b2)
  | 0, _, _, _ => fun _ _ _ _ _ _ _ _ _ _ _ _ h _ _ => h.elim
  | n + 1, 0, hd, _ => absurd hd (by omega)
  | n + 1, d + 1, hd, hn => fun c S kk e p q b b2 hc h hS hI hE hU hq => by
    have hV : VH R Γ nv n (f_value R.K d) := @fun c S kk e p q b b2 => val0 hK hv n d (by omega) (by omega) c S kk e p q b b2
    have hT := h.tb
    have hpq := hE.2.1
    obtain ⟨t, ho, ho1, ho2⟩ := isE_own hE (by omega)
    have he := hE.1
    have hF := hU e he (Or.inl ⟨t, ho, ho1, ho2⟩)
    have he1 := h.L he
    obtain ⟨fs0, hF0, hl0⟩ : ∃ fs : List Value, ZF R.S e = .inr (15, fs) ∧ fs.length = 14 := by
      rcases hE.2.2 with ⟨kd, num, k1, k2, k3⟩ | ⟨k2, k3⟩ | ⟨kd, o, p', q', k1, k2, k3, k4, k5⟩ | ⟨mu, o, p', k1, k2, k3, k5⟩ | ⟨o, nm, q', k2, k3, k4, k5⟩ | ⟨o, q1, b1, mn, li, si, k2, k3, k5, k6⟩ | ⟨kd, sg, nm, mn, p', z9, li, si, k2, k3, k4, k5⟩ <;> exact ⟨_, k2, rfl⟩
    unfold f_value
    refine Rt.ok (fun z0 => ?_) (fun z0 => by
      refine Rt.bn (plt_ hK hv h (Or.inl rfl) (by omega)) (fun S2 r2 q2 => ?_)
      obtain ⟨x, rfl, t2, y2, v2, s2, z2⟩ := q2
      obtain ⟨gs, g1, g2, g3⟩ := tol_ (K := R.K) (x := x) t2 he hF0 hl0 ho ho1 ho2 ⟨_, _, _, y2⟩
      exact Rt.be g2 (Rt.rt (VaP.bad ⟨g3.1, v2.b g3.2.1, s2.tr g3.2.2.1, g3.2.2.2⟩ (by omega) (by show ¬ Zi S2 3 = 0; rw [z2]; exact z0))))
    obtain ⟨hw1, hw2⟩ := un_pw hE (by omega) hU
    refine Rt.bn (isp_ (K := R.K) (fun a ha => h.L ha) hw1 (by omega)) (fun S1 r1 q1 => ?_)
    obtain ⟨e9, q1⟩ := q1
    rw [e9]
    rcases q1 with ⟨e1, q1⟩ | ⟨e1, q1⟩
    · -- a place
      rw [e1]
      have hpe := hw2.mp q1
      have hbb := isE_plb hE hpe
      unfold f_value_61
      refine Rt.iq (by decide) (Rt.bn (plc_ hK hv (show c ≤ 1990 by omega) (n + 1) 410 (by omega) (by omega) h hS hI hE hpe hU hq) (fun S2 r2 q2 => ?_))
      obtain ⟨y, rfl, y1, y2⟩ := q2
      obtain ⟨ky, iy, oy, u1⟩ := y1.2.2.2
      refine Rt.ok (fun z => ?_) (fun z => Rt.rt (VaP.bad y1 (by omega) z))
      obtain ⟨v, π, mu, mv, g3, g6⟩ := y2 z
      have hgd : (ky = 0 ∨ ky = 1 ∨ ky = 6 ∨ mv ≠ 0) → VaP R Γ c nv S (n + 1) kk e p q b b2 S2 (some y) := fun hg => ⟨y, rfl, y1.up (by omega), fun _ => ⟨⟨he, ⟨t, ho, ho1, ho2⟩, hpq⟩, Or.inl (xPl_c g3).2.2.1, Or.inl ⟨v, π, mu, mv, ky, iy, oy, g3, g6, hbb, u1, hg⟩⟩⟩
      refine Rt.be (cop_ u1) (Rt.it (fun w => ?_) (fun w => Rt.rt (hgd ?_)))
      · refine Rt.bn (mov_ (K := R.K) (fun a ha => y1.1.L ha) g3 (by omega)) (fun S3 r3 q3 => ?_)
        obtain ⟨e3, q3⟩ := q3
        rw [e3]
        rcases q3 with ⟨w1, w2⟩ | ⟨w1, w2⟩
        · rw [w1]
          obtain ⟨d1, d2, d3, d4, ck, cf, d5, d6, d7, _⟩ := xPl_c g3
          refine Rt.ip rfl (Rt.bd (oI_mk (y1.1.L he) d5 d7) (Rt.be (fai_ y1.1 (by omega)) (Rt.rt (VaP.bad (c1 := c) ⟨y1.1.fl, y1.2.1.n VX.fl, y1.2.2.1.tr VS.fl, ky, iy, oy, (VX.fl (R := R) (X := nX)).2.2.2.1 _ _ _ _ u1⟩ (by omega) (flS_n0 (by decide))))))
        · rw [w1]
          exact Rt.iq (by decide) (Rt.rt (hgd (Or.inr (Or.inr (Or.inr w2)))))
      · by_cases e0 : ky = 0 ∨ ky = 1 ∨ ky = 6
        · rcases e0 with e0 | e0 | e0
          · exact Or.inl e0
          · exact Or.inr (Or.inl e0)
          · exact Or.inr (Or.inr (Or.inl e0))
        · rw [if_neg e0] at w; exact absurd rfl w
    · rw [e1]
      refine Rt.ip rfl ?_
      have hnp : ¬ plE (ZF R.S) (n + 1) e := fun w => q1 (hw2.mpr w)
      -- a plain literal
      have hlit : ∀ {kd : Int32} {num : Int64} {kt : Int32}, (kd = 0 ∨ kd = 1 ∨ kd = 15) → (kt = 0 ∨ kt = 1) → ZF R.S e = xpC kd p 0 0 num 0 .null .null .null 0 → b = b2 → Rt (bnd (f_plainType R.K S kt) fun S60 v61 => bnd (f_told R.K S60 (some e) v61) fun S62 v63 => some (S62, v63)) (VaP R Γ c nv S (n + 1) kk e p q b b2) := fun {kd num kt} k1 k2 k3 k4 => by
        refine Rt.bn (plt_ hK hv h (by rcases k2 with w | w <;> subst w <;> decide) (by omega)) (fun S2 r2 q2 => ?_)
        obtain ⟨x, rfl, t2, y2, v2, s2, z2⟩ := q2
        have c2 : ZF S2 e = xpC kd p 0 0 num 0 .null .null .null 0 := ((v2.2.1 e he (fun w => w)).trans hF).trans k3
        refine ftl_ t2 (by omega) (v2.mo (fun _ w => w.elim)) s2 ⟨_, _, _, y2⟩ he hF0 hl0 ho ho1 ho2 c2 (fun S6 v6 f6 e6 z6 => ?_)
        have y6 := v6.2.2.2.1 _ _ _ _ y2
        refine ⟨⟨he, ⟨t, ho, ho1, ho2⟩, hpq⟩, Or.inl (Or.inl (vTy.pl y6 (by rcases k2 with w | w <;> subst w <;> decide))), Or.inr (Or.inl ⟨kd, num, k1, e6, k4, ?_⟩)⟩
        rcases k2 with w | w <;> subst w
        · exact Or.inl y6
        · exact Or.inr y6
      -- a child that is no place, then a fault
      have hbad : ∀ {o p' q' : Nat} {tj : Nat} {fs : List Value} {k : Nat}, p ≤ p' → q' ≤ q → (t < p' ∨ q' ≤ t) → isE (ZL R.S) (ZF R.S) (R.K.1 9) (R.K.1 0) n kk o p' q' b b2 → ZF R.S e = .inr (15, fs) → fs[k]? = some (.int (nI tj)) → fs[8]? = some (.ref o) → tj < R.T → Rt ((oR S 15 (some e) 8).bind fun v27 => bnd (f_value R.K d S v27) fun S28 v29 => (oI S28 15 (some e) k).bind fun v30 => bnd (f_wrong R.K S28 (some e) 4 v30) fun S31 v32 => some (S31, v32)) (VaP R Γ c nv S (n + 1) kk e p q b b2) := fun {o p' q' tj fs k} k1 k2 k3 k4 k5 k6 k7 k8 => by
        have hlt := (isE_mem k4).2
        refine Rt.bd (oR_mk he1 (hF.trans k5) (v := some o) k7) (Rt.bn (hV (show c + (q' - p') ≤ 1990 by omega) h hS hI k4 (hU.su k1 k2) (by omega)) (fun S2 r2 q2 => ?_))
        obtain ⟨y, rfl, y1, y2⟩ := q2
        have hne : ¬ Xo R p' q' e := own_n ho ⟨_, hF0⟩ (Nat.le_refl t) (Nat.lt_succ_self t) (by rcases k3 with w | w; exact Or.inl (by omega); exact Or.inr (by omega))
        have c2 : ZF S2 e = .inr (15, fs) := ((y1.2.1.2.1 e he hne).trans hF).trans k5
        refine Rt.bd (oI_mk (y1.1.L he) c2 k6) (Rt.bn (wrg_ hK hv (by omega) y1.1 he hF0 hl0 ho ho1 ho2 k8 (by decide)) (fun S3 r3 q3 => ?_))
        obtain ⟨x3, rfl, w1, w2⟩ := q3
        exact Rt.rt (VaP.bad ⟨w1.1, (y1.2.1.mo (fun a w => Xo_mo w k1 k2)).tr w1.2.1 (fun _ w => w), y1.2.2.1.tr w1.2.2.1, w1.2.2.2⟩ (by omega) w2)
      rcases hE.2.2 with ⟨kd, num, k1, k2, k3⟩ | ⟨k2, k3⟩ | ⟨kd, o, p', q', k1, k2, k3, k4, k5⟩ | ⟨mu, o, p', k1, k2, k3, k5⟩ | ⟨o, nm, q', k2, k3, k4, k5⟩ | ⟨o, q1', b1, mn, li, si, k2, k3, k5, k6⟩ | ⟨kd, sg, nm, mn, p', z9, li, si, k2, k3, k4, k5⟩
      · refine Rt.bd (oI_mk he1 (hF.trans k2) (v := kd) rfl) ?_
        rcases k1 with w | w | w
        · subst w
          unfold f_value_144
          exact Rt.ip rfl (hlit (Or.inl rfl) (Or.inl rfl) k2 k3)
        · subst w
          exact Rt.iq (by decide) (Rt.ip rfl (hlit (Or.inr (Or.inl rfl)) (Or.inr rfl) k2 k3))
        · subst w
          unfold f_value_144
          exact Rt.iq (by decide) (Rt.iq (by decide) (Rt.iq (by decide) (Rt.iq (by decide) (Rt.iq (by decide) (Rt.iq (by decide) (Rt.iq (by decide) (Rt.iq (by decide) (Rt.iq (by decide) (Rt.iq (by decide) (Rt.iq (by decide) (Rt.iq (by decide) (Rt.iq (by decide) (Rt.iq (by decide) (Rt.iq (by decide) (Rt.ip rfl (hlit (Or.inr (Or.inr rfl)) (Or.inl rfl) k2 k3))))))))))))))))
      · exact absurd (⟨2, .null, _, k2, rfl, rfl, Or.inl rfl⟩ : plE (ZF R.S) (n + 1) e) hnp
      · refine Rt.bd (oI_mk he1 (hF.trans k2) (v := kd) rfl) ?_
        have htp : t = p := by
          have := own_a k2 (by rcases k1 with w | w | w | w | w | w <;> subst w <;> decide) (by rcases k1 with w | w | w | w | w | w <;> subst w <;> decide) (by omega)
          rw [ho] at this; exact Option.some.inj this
        rcases k1 with w | w | w | w | w | w
        · subst w
          refine Rt.iq (by decide) (Rt.iq (by decide) (Rt.iq (by decide) (Rt.iq (by decide) (Rt.ip rfl (Rt.bn (opd_ hK hv hV (Or.inl ⟨rfl, rfl, rfl⟩) hc h hS hI he k2 hF k3 k4 hpq k5 hU hq) (fun S2 r2 q2 => Rt.rt q2))))))
        · subst w
          have hno : ¬ plE (ZF R.S) n o := fun w => hnp ((plE_dn k2 rfl rfl (Or.inl rfl)).mpr w)
          refine Rt.iq (by decide) (Rt.iq (by decide) (Rt.iq (by decide) (Rt.iq (by decide) (Rt.iq (by decide) (Rt.iq (by decide) (Rt.iq (by decide) (Rt.ip rfl ?_)))))))
          have hlt := (isE_mem k5).2
          refine Rt.bd (oR_mk he1 (hF.trans k2) (v := some o) rfl) (Rt.bn (hV (show c + (q' - p') ≤ 1990 by omega) h hS hI k5 (hU.su (by omega) k4) (by omega)) (fun S2 r2 q2 => ?_))
          obtain ⟨y, rfl, y1, y2⟩ := q2
          have hne : ¬ Xo R p' q' e := own_n ho ⟨_, hF0⟩ (Nat.le_refl t) (Nat.lt_succ_self t) (Or.inl (by omega))
          have c2 : ZF S2 e = xpC 7 p 0 0 0 0 (.ref o) .null .null 0 := ((y1.2.1.2.1 e he hne).trans hF).trans k2
          refine ftl_ y1.1 (by omega) (y1.2.1.mo (fun a w => Xo_mo w (by omega) k4)) y1.2.2.1 y1.2.2.2 he hF0 hl0 ho ho1 ho2 c2 (fun S6 v6 f6 e6 z6 => ?_)
          have hch := xE_vx v6 (y2 z6) (fun a a1 ⟨t2, a2, a3, a4⟩ a5 => f6 a (fun w => by rw [w, ho] at a2; cases a2; omega))
          have hx : xTy S6 y := by
            cases n with
            | zero => exact hch.elim
            | succ n => exact hch.2.1
          exact ⟨⟨he, ⟨t, ho, ho1, ho2⟩, hpq⟩, hx, Or.inr (Or.inr (Or.inl ⟨7, o, p', q', y, e6, k3, k4, hch, Or.inr (Or.inl ⟨rfl, rfl, hno⟩)⟩))⟩
        · subst w
          refine Rt.iq (by decide) (Rt.iq (by decide) (Rt.iq (by decide) (Rt.iq (by decide) (Rt.iq (by decide) (Rt.iq (by decide) (Rt.iq (by decide) (Rt.iq (by decide) (Rt.iq (by decide) (Rt.ip rfl (Rt.bn (opd_ hK hv hV (Or.inr (Or.inl ⟨rfl, rfl, rfl⟩)) hc h hS hI he k2 hF k3 k4 hpq k5 hU hq) (fun S2 r2 q2 => Rt.rt q2)))))))))))
        · subst w
          refine Rt.iq (by decide) (Rt.iq (by decide) (Rt.iq (by decide) (Rt.iq (by decide) (Rt.iq (by decide) (Rt.iq (by decide) (Rt.iq (by decide) (Rt.iq (by decide) (Rt.iq (by decide) (Rt.iq (by decide) (Rt.ip rfl (Rt.bn (opd_ hK hv hV (Or.inr (Or.inr ⟨rfl, rfl, rfl⟩)) hc h hS hI he k2 hF k3 k4 hpq k5 hU hq) (fun S2 r2 q2 => Rt.rt q2))))))))))))
        · subst w
          refine Rt.iq (by decide) (Rt.iq (by decide) (Rt.iq (by decide) (Rt.iq (by decide) (Rt.iq (by decide) (Rt.iq (by decide) (Rt.iq (by decide) (Rt.iq (by decide) (Rt.iq (by decide) (Rt.iq (by decide) (Rt.iq (by decide) (Rt.ip rfl (hbad (tj := p) (by omega) k4 (by omega) k5 k2 rfl rfl (by omega)))))))))))))
        · subst w
          refine Rt.iq (by decide) (Rt.iq (by decide) (Rt.iq (by decide) (Rt.iq (by decide) (Rt.iq (by decide) (Rt.iq (by decide) (Rt.iq (by decide) (Rt.iq (by decide) (Rt.iq (by decide) (Rt.iq (by decide) (Rt.iq (by decide) (Rt.iq (by decide) (Rt.iq (by decide) (Rt.ip rfl (Rt.bn (box_ hK hv hV hc h hS hI he k2 hF k3 k4 hpq k5 hU hq) (fun S2 r2 q2 => Rt.rt q2)))))))))))))))
      · refine Rt.bd (oI_mk he1 (hF.trans k2) (v := 12) rfl) ?_
        refine Rt.iq (by decide) (Rt.iq (by decide) (Rt.iq (by decide) (Rt.iq (by decide) (Rt.iq (by decide) (Rt.iq (by decide) (Rt.iq (by decide) (Rt.iq (by decide) (Rt.iq (by decide) (Rt.iq (by decide) (Rt.iq (by decide) (Rt.iq (by decide) (Rt.ip rfl (Rt.bn (rfr_ hK hv (by omega) hV k1 hc h hS hI he k2 hF k3 hpq k5 hU hq) (fun S2 r2 q2 => Rt.rt q2))))))))))))))
      · refine Rt.bd (oI_mk he1 (hF.trans k2) (v := 14) rfl) ?_
        have htn : t = nm := by
          have := own_m k2 (by omega)
          rw [ho] at this; exact Option.some.inj this
        refine Rt.iq (by decide) (Rt.iq (by decide) (Rt.iq (by decide) (Rt.iq (by decide) (Rt.iq (by decide) (Rt.iq (by decide) (Rt.iq (by decide) (Rt.iq (by decide) (Rt.iq (by decide) (Rt.iq (by decide) (Rt.iq (by decide) (Rt.iq (by decide) (Rt.iq (by decide) (Rt.iq (by decide) (Rt.ip rfl (hbad (tj := nm) (Nat.le_refl _) (by omega) (by omega) k5 k2 rfl rfl (by omega))))))))))))))))
      · refine Rt.bd (oI_mk he1 (hF.trans k2) (v := 8) rfl) ?_
        obtain ⟨kz, ekz, k6⟩ := k6
        refine Rt.iq (by decide) (Rt.iq (by decide) (Rt.iq (by decide) (Rt.iq (by decide) (Rt.iq (by decide) (Rt.iq (by decide) (Rt.iq (by decide) (Rt.iq (by decide) (Rt.ip rfl (Rt.bn (chd_ hK hv hV hc h hS hI he k2 hF k3 k5 ekz k6 hU hq) (fun S2 r2 q2 => Rt.rt q2))))))))))
      · refine Rt.bd (oI_mk he1 (hF.trans k2) (v := kd) rfl) ?_
        rcases k3 with ⟨w1, w2, w3⟩ | ⟨w1, w2, w3, w4, w5⟩ | ⟨w1, w2, w3, w4⟩
        · subst w1 w2 w3
          obtain ⟨kz, ekz, k5⟩ := k5
          exact Rt.iq (by decide) (Rt.iq (by decide) (Rt.iq (by decide) (Rt.ip rfl (Rt.bn (cal_ hK hv hV hc h hS hI he k2 hF hpq k4 ekz k5 hU hq) (fun S2 r2 q2 => Rt.rt q2)))))
        · subst w1 w2 w3 w5
          obtain ⟨kz, ekz, k5⟩ := k5
          exact Rt.iq (by decide) (Rt.iq (by decide) (Rt.iq (by decide) (Rt.iq (by decide) (Rt.iq (by decide) (Rt.ip rfl (Rt.bn (mad_ hK hv hV hc h hS hI he k2 hF w4 k4 ekz k5 hU hq) (fun S2 r2 q2 => Rt.rt q2)))))))
        · subst w1 w2 w3
          unfold f_value_274
          obtain ⟨kz, ekz, k5⟩ := k5
          exact Rt.iq (by decide) (Rt.iq (by decide) (Rt.iq (by decide) (Rt.iq (by decide) (Rt.iq (by decide) (Rt.iq (by decide) (Rt.ip rfl (Rt.bn (vro_ hK hv hV hc h hS hI he k2 hF w4 k4 ekz k5 hU hq) (fun S2 r2 q2 => Rt.rt q2))))))))
theorem val_ (hK : yRm R) (hv : nv ≤ 10000) : VH R Γ nv 408 (f_value R.K 410) := @fun c S kk e p q b b2 => val0 hK hv 408 410 (by decide) (by decide) c S kk e p q b b2
end VLU
end
-- k6.r.lean.txt
section
/-- a statement, typed -/
def stC (kd : Int32) (tk : Nat) (nm mu rf : Int32) (wr ex pl vr bl cs bs ar : Value) (mn : Nat) : va_E := .inr (19, [.int kd, .int (nI tk), .int nm, .int mu, .int rf, wr, ex, pl, vr, bl, cs, bs, ar, .int (nI mn)])
/-- the function's variables, in their order -/
def LVS (R : yR) (S : Sg) (Λ : List Nat) : Prop := Zi S 24 = nI Λ.length ∧ Λ.length ≤ 40 ∧ ∀ (k v : Nat), Λ[k]? = some v → v ∉ ZL R.S ∧ ∃ (nm mu : Nat) (ty : Option Nat), isV S v k (nI nm) ty (nI mu) ∧ nm < R.T ∧ mu ≤ 1 ∧ ∀ x : Nat, ty = some x → rTy S x
/-- rows that the typing never writes -/
def ROW (R : yR) (S : Sg) : Prop := ∀ (a n : Nat) (k : ClassId) (f : vRw), a ∈ ZL R.S → ZF R.S a = .inl (k, n, f) → k ≠ R.K.1 0 → k ≠ R.K.1 4 → k ≠ R.K.1 5 → ZF S a = ZF R.S a
theorem ROW.vz {R : yR} {S S2 : Sg} {p q : Nat} (hV : VZ R (Xo R p q) S S2) (h : ROW R S) : ROW R S2 := fun a n k f h1 h2 h3 h4 h5 => (hV.nx (nXo.ro h1 h2 (Or.inl h5))).trans (h a n k f h1 h2 h3 h4 h5)
theorem ROW.vx {R : yR} {S S2 : Sg} {p q : Nat} (hV : VX R (Xo R p q) S S2) (h : ROW R S) : ROW R S2 := ROW.vz hV.2 h
/-- only grown -/
def pfx (Λ Λ2 : List Nat) : Prop := ∀ k v : Nat, Λ[k]? = some v → Λ2[k]? = some v
theorem pfx.rf {Λ : List Nat} : pfx Λ Λ := fun _ _ h => h
theorem pfx.tr {Λ Λ1 Λ2 : List Nat} (h : pfx Λ Λ1) (g : pfx Λ1 Λ2) : pfx Λ Λ2 := fun k v q => g k v (h k v q)
theorem pfx.mem {Λ Λ2 : List Nat} (h : pfx Λ Λ2) {v : Nat} (hv : v ∈ Λ) : v ∈ Λ2 := by
  obtain ⟨j, hj⟩ := List.mem_iff_getElem?.mp hv
  exact List.mem_of_getElem? (h j v hj)
theorem pfx.add {Λ : List Nat} {y : Nat} : pfx Λ (Λ ++ [y]) := fun k v h => by
  rw [List.getElem?_append_left (List.getElem?_eq_some_iff.mp h).1]; exact h
/-- an enum has so many variants -/
def enM (R : yR) (S : Sg) (i mn : Nat) : Prop := ∃ fs : List Value, i < R.im ∧ R.ik i = 11 ∧ nXo R (R.ws i) ∧ ZF S (R.ws i) = .inr (16, fs) ∧ fs[3]? = some (.int (nI mn)) ∧ mn ≤ 12
/-- statements (0), blocks (1), arms (2), typed: n depth, a address, tokens p to q, borrows b to c, variables v to w, the scope before and behind; κ: an arm's enum, its variant, how it is bound; gv what the function gives -/
def sN (R : yR) (S : Sg) (Λ : List Nat) (gv : Nat) : Nat → Nat → Nat → Nat → Nat → Nat → Nat → Nat → Nat → List Nat → List Nat → Nat × Nat × Nat → Prop
  | 0, _, _, _, _, _, _, _, _, _, _, _ => False
  | n + 1, 0, a, p, q, b, c, v, w, Γ, Γ2, _ => (a ∈ ZL R.S ∧ ownT (ZF R.S) a = some p ∧ p < q) ∧
    ((∃ (nm y : Nat) (mu : Int32) (wr ex : Value), ZF S a = stC 0 p (nI nm) mu 0 wr ex .null (.ref y) .null .null .null .null 0 ∧ Λ[v]? = some y ∧ w = v + 1 ∧ (Γ2 = Γ ++ [y] ∧ p < nm ∧ nm < q) ∧ ((ex = .null ∧ b = c) ∨ ∃ (x p' q' t : Nat) (m9 : Int32), ex = .ref x ∧ p < p' ∧ q' < q ∧ xE R S Γ 408 16 x p' q' b c t ∧ rTy S t ∧ isV S y v (nI nm) (some t) m9)) ∨
     (∃ (kd : Int32) (x p' q' t : Nat), (kd = 1 ∨ (kd = 7 ∧ (isTy S t 0 0 none ∨ isTy S t 1 0 none))) ∧ ZF S a = stC kd p 0 0 0 .null (.ref x) .null .null .null .null .null .null 0 ∧ p ≤ p' ∧ q' < q ∧ xE R S Γ 408 16 x p' q' b c t ∧ w = v ∧ Γ2 = Γ) ∨
     (∃ (x y q1 p2 q2 vv t mu mv : Nat) (π : List (Nat × Nat)), ZF S a = stC 2 p 0 0 0 .null (.ref x) (.ref y) .null .null .null .null .null 0 ∧ xPl R S Γ 408 y p q1 vv π t mu mv ∧ π.length ≤ 4 ∧ q1 < p2 ∧ q2 < q ∧ xE R S Γ 408 16 x p2 q2 b c t ∧ (π = [] ∨ mu = 1) ∧ w = v ∧ Γ2 = Γ) ∨
     (∃ (ca ba cap mn : Nat) (f g : Nat → Option Nat), ZF S a = stC 3 p 0 0 0 .null .null .null .null .null (.ref ca) (.ref ba) .null mn ∧ 1 ≤ mn ∧ mn ≤ cap ∧ nXo R ca ∧ nXo R ba ∧ ZF S ca = .inl (R.K.1 9, cap, .inr (.inr (.inr (.inr f)))) ∧ ZF S ba = .inl (R.K.1 10, cap, .inr (.inr (.inr (.inr g)))) ∧ (∀ i : Nat, i < mn → f i = none → i + 1 = mn) ∧ Γ2 = Γ ∧ chJ (fun i y p1 q1 b1 c1 v1 w1 => ∃ p0 b0 : Nat, ((f i = none ∧ b0 = b1) ∨ ∃ x p' q0 t : Nat, f i = some x ∧ p1 < p' ∧ q0 ≤ p0 ∧ xE R S Γ 408 16 x p' q0 b1 b0 t ∧ isTy S t 1 0 none) ∧ p1 ≤ p0 ∧ sN R S Λ gv n 1 y p0 q1 b0 c1 v1 w1 Γ Γ (0, 0, 0)) g mn p q b c v w) ∨
     (∃ x y q0 b1 t : Nat, ZF S a = stC 4 p 0 0 0 .null (.ref x) .null .null (.ref y) .null .null .null 0 ∧ xE R S Γ 408 16 x (p + 1) q0 b b1 t ∧ isTy S t 1 0 none ∧ sN R S Λ gv n 1 y q0 q b1 c v w Γ Γ (0, 0, 0) ∧ Γ2 = Γ) ∨
     (∃ (x ar cap mn p0 q0 b1 i t bd : Nat) (mu rf : Int32) (f : Nat → Option Nat) (vf : Nat → Nat), ZF S a = stC 5 p 0 mu rf .null (.ref x) .null .null .null .null .null (.ref ar) mn ∧ p < p0 ∧ ((rf = 0 ∧ mu = 0 ∧ bd = 0 ∧ xE R S Γ 408 16 x p0 q0 b b1 t) ∨ (rf = 1 ∧ b1 = b + 1 ∧ ∃ (vv m2 w2 : Nat) (π : List (Nat × Nat)), ((mu = 0 ∧ bd = 1) ∨ (mu = 1 ∧ bd = 2 ∧ m2 = 1)) ∧ xPl R S Γ 408 x p0 q0 vv π t m2 w2 ∧ π.length ≤ 4)) ∧ isTy S t 4 (nI i) none ∧ enM R S i mn ∧ nXo R ar ∧ ZF S ar = .inl (R.K.1 7, cap, .inr (.inr (.inr (.inr f)))) ∧ mn ≤ cap ∧ Γ2 = Γ ∧ chJ (fun k y p1 q1 b2 c1 v1 w1 => sN R S Λ gv n 2 y p1 q1 b2 c1 v1 w1 Γ Γ (i, vf k, bd)) f mn (q0 + 1) (q - 1) b1 c v w ∧ (∀ k j : Nat, k < mn → j < mn → vf k = vf j → k = j) ∧ ∀ k : Nat, k < mn → vf k < mn) ∨
     (∃ ex : Value, ZF S a = stC 6 p 0 0 0 .null ex .null .null .null .null .null .null 0 ∧ ((ex = .null ∧ b = c ∧ isTy S gv 8 0 none) ∨ ∃ x p' q' : Nat, ex = .ref x ∧ p < p' ∧ q' < q ∧ xE R S Γ 408 16 x p' q' b c gv ∧ rTy S gv) ∧ w = v ∧ Γ2 = Γ ∧ Zr R.S 5 p = 19) ∨
     (∃ y : Nat, ZF S a = stC 8 p 0 0 0 .null .null .null .null (.ref y) .null .null .null 0 ∧ sN R S Λ gv n 1 y p q b c v w Γ Γ (0, 0, 0) ∧ Γ2 = Γ))
  | n + 1, 1, a, p, q, b, c, v, w, Γ, Γ2, _ => nXo R a ∧ p < q ∧ Γ2 = Γ ∧ ∃ (la cap mn : Nat) (f : Nat → Option Nat) (gs : Nat → List Nat), ZF S a = .inr (14, [.int (nI p), .int (nI (q - 1)), .ref la, .int (nI mn)]) ∧ nXo R la ∧ ZF S la = .inl (R.K.1 11, cap, .inr (.inr (.inr (.inr f)))) ∧ mn ≤ cap ∧ gs 0 = Γ ∧ chJ (fun i y p1 q1 b1 c1 v1 w1 => sN R S Λ gv n 0 y p1 q1 b1 c1 v1 w1 (gs i) (gs (i + 1)) (0, 0, 0)) f mn (p + 1) (q - 1) b c v w
  | n + 1, _ + 2, a, p, q, b, c, v, w, Γ, _, κ => (a ∈ ZL R.S ∧ ownT (ZF R.S) a = some p ∧ p < q) ∧ ∃ (na bk mk p' : Nat) (fv : Nat → Option Nat) (tx : Nat → Nat) (us : List Nat), ZF S a = .inr (13, [.int (nI p), .int (nI κ.2.1), .ref na, .int (nI mk), .ref (a + 2), .ref bk]) ∧ a + 2 ∈ ZL R.S ∧ ZF R.S (a + 2) = .inl (R.K.1 5, 12, .inr (.inr (.inr (.inr (fun _ => none))))) ∧ ZF S (a + 2) = .inl (R.K.1 5, 12, .inr (.inr (.inr (.inr fv)))) ∧ mk ≤ 12 ∧ enY R S κ.1 κ.2.1 mk tx ∧ us.length = mk ∧ (∀ j : Nat, j < mk → ∃ (u ty : Nat) (nm : Int32), us[j]? = some u ∧ fv j = some u ∧ Λ[v + j]? = some u ∧ isV S u (v + j) nm (some ty) 0 ∧ ((κ.2.2 = 0 ∧ ty = tx j) ∨ (κ.2.2 = 1 ∧ isTy S ty 6 0 (some (tx j))) ∨ (κ.2.2 = 2 ∧ isTy S ty 7 0 (some (tx j))))) ∧ p + mk < p' ∧ sN R S Λ gv n 1 bk p' q b c (v + mk) w (Γ ++ us) (Γ ++ us) (0, 0, 0)
section SNL
variable {R : yR} {S S2 : Sg} {Λ Λ2 : List Nat} {gv p2 q2 : Nat}
theorem enM.vz (hV : VZ R (Xo R p2 q2) S S2) {i mn : Nat} (h : enM R S i mn) : enM R S2 i mn := by
  obtain ⟨fs, h1, h2, h3, h4, h5, h6⟩ := h
  exact ⟨fs, h1, h2, h3, (hV.nx h3).trans h4, h5, h6⟩
theorem enM.vx (hV : VX R (Xo R p2 q2) S S2) {i mn : Nat} (h : enM R S i mn) : enM R S2 i mn := enM.vz hV.2 h
theorem isV.vz {X : Nat → Prop} (hV : VZ R X S S2) {v ix x : Nat} {nm mu : Int32} (h : isV S v ix nm (some x) mu) : isV S2 v ix nm (some x) mu := by
  obtain ⟨t2, g1, g2⟩ := hV.2.2.2.1 v ix nm (some x) mu h
  rcases g2 with g2 | g2
  · cases g2.1
  · rw [← g2]; exact g1
theorem isV.vx {X : Nat → Prop} (hV : VX R X S S2) {v ix x : Nat} {nm mu : Int32} (h : isV S v ix nm (some x) mu) : isV S2 v ix nm (some x) mu := isV.vz hV.2 h
theorem sN_lt : ∀ {n t a p q b c v w : Nat} {Γ Γ2 : List Nat} {κ : Nat × Nat × Nat}, sN R S Λ gv n t a p q b c v w Γ Γ2 κ → p < q
  | 0, _, _, _, _, _, _, _, _, _, _, _, h => h.elim
  | _ + 1, 0, _, _, _, _, _, _, _, _, _, _, h => h.1.2.2
  | _ + 1, 1, _, _, _, _, _, _, _, _, _, _, h => h.2.1
  | _ + 1, _ + 2, _, _, _, _, _, _, _, _, _, _, h => h.1.2.2
theorem chJ_ps {P : Nat → Nat → Nat → Nat → Nat → Nat → Nat → Nat → Prop} {f : Nat → Option Nat} {n : Nat} {ps bs vs : Nat → Nat} (hP : ∀ i x p q b c v w : Nat, P i x p q b c v w → p < q) (h : ∀ i : Nat, i < n → ∃ x : Nat, f i = some x ∧ P i x (ps i) (ps (i + 1)) (bs i) (bs (i + 1)) (vs i) (vs (i + 1))) : ∀ (d i : Nat), i + d ≤ n → ps i ≤ ps (i + d)
  | 0, _, _ => Nat.le_refl _
  | d + 1, i, hi => by
    have h1 := chJ_ps hP h d i (by omega)
    obtain ⟨x, _, h3⟩ := h (i + d) (by omega)
    have := hP _ _ _ _ _ _ _ _ h3
    show ps i ≤ ps (i + d + 1)
    omega
/-- .. each told with its tokens inside -/
theorem chJ_in {P P2 : Nat → Nat → Nat → Nat → Nat → Nat → Nat → Nat → Prop} {f : Nat → Option Nat} {n p q b c v w : Nat} (h : chJ P f n p q b c v w) (hP : ∀ i x p1 q1 b1 c1 v1 w1 : Nat, i < n → p ≤ p1 → q1 ≤ q → P i x p1 q1 b1 c1 v1 w1 → P2 i x p1 q1 b1 c1 v1 w1) (hlt : ∀ i x p1 q1 b1 c1 v1 w1 : Nat, P i x p1 q1 b1 c1 v1 w1 → p1 < q1) : chJ P2 f n p q b c v w := by
  obtain ⟨ps, bs, vs, h1, h2, h3, h4, h5, h6, h7⟩ := h
  refine ⟨ps, bs, vs, h1, h2, h3, h4, h5, h6, fun i hi => ?_⟩
  obtain ⟨x, g1, g2⟩ := h7 i hi
  have a1 := chJ_ps hlt h7 i 0 (by omega)
  have a2 := chJ_ps hlt h7 (n - (i + 1)) (i + 1) (by omega)
  rw [Nat.zero_add] at a1
  rw [show i + 1 + (n - (i + 1)) = n by omega] at a2
  exact ⟨x, g1, hP i x _ _ _ _ _ _ hi (by omega) (by omega) g2⟩
/-- a typed statement stays, whatever else is typed -/
theorem sN_vz (hV : VZ R (Xo R p2 q2) S S2) (hΛ : pfx Λ Λ2) : ∀ {n t a p q b c v w : Nat} {Γ Γ2 : List Nat} {κ : Nat × Nat × Nat}, sN R S Λ gv n t a p q b c v w Γ Γ2 κ → dj p q p2 q2 → sN R S2 Λ2 gv n t a p q b c v w Γ Γ2 κ
  | 0, _, _, _, _, _, _, _, _, _, _, _, h, _ => h.elim
  | n + 1, 0, a, p, q, b, c, v, w, Γ, Γ2, κ, h, hd => by
    obtain ⟨⟨h1, h2, h3⟩, h5⟩ := h
    have hT := hV.2.2.1
    have he : ∀ {k : Nat} {vs : List Value}, ZF S a = .inr (k, vs) → ZF S2 a = .inr (k, vs) := fun {k vs} w => (hV.1 a h1 (fun x => Xo_dj (Or.inl ⟨p, h2, Nat.le_refl _, h3⟩) x hd)).trans w
    have hds : ∀ {p1 q1 : Nat}, p ≤ p1 → q1 ≤ q → dj p1 q1 p2 q2 := fun a1 a2 => by rcases hd with w | w; exact Or.inl (by omega); exact Or.inr (by omega)
    have hX : ∀ {x p1 q1 b1 c1 t : Nat}, p ≤ p1 → q1 ≤ q → xE R S Γ 408 16 x p1 q1 b1 c1 t → xE R S2 Γ 408 16 x p1 q1 b1 c1 t := fun a1 a2 w => xE_vz hV w (hV.fr (hds a1 a2))
    refine ⟨⟨h1, h2, h3⟩, ?_⟩
    rcases h5 with ⟨nm, y, mu, wr, ex, k1, k2, k3, k4, k5⟩ | ⟨kd, x, p', q', t, k1, k2, k3, k4, k5, k6, k7⟩ | ⟨x, y, q1, p3, q3, vv, t, mu, mv, π, k1, k2, k3, k4, k5, k6, k7, k8, k9⟩ | ⟨ca, ba, cap, mn, f, g, k1, k2, k3, k4, k5, k6, k7, k8, k9, l1⟩ | ⟨x, y, q0, b1, t, k1, k2, k3, k4, k5⟩ | ⟨x, ar, cap, mn, p0, q0, b1, i, t, bd, mu, rf, f, vf, k1, k2, k3, k4, k5, k6, k7, k8, k9, l1, l2, l3⟩ | ⟨ex, k1, k2, k3, k4⟩ | ⟨y, k1, k2, k3⟩
    · refine Or.inl ⟨nm, y, mu, wr, ex, he k1, hΛ _ _ k2, k3, k4, k5.imp id (fun ⟨x, p', q', t, m9, e1, e2, e3, e4, e5, e6⟩ => ⟨x, p', q', t, m9, e1, e2, e3, hX (by omega) (by omega) e4, e5.im hT, e6.vz hV⟩)⟩
    · exact Or.inr (Or.inl ⟨kd, x, p', q', t, k1.imp id (fun z => ⟨z.1, z.2.imp (hT _ _ _ _) (hT _ _ _ _)⟩), he k2, k3, k4, hX k3 (by omega) k5, k6, k7⟩)
    · have hl := (xPl_c k2).2.1
      have hl2 := xE_lt k6
      exact Or.inr (Or.inr (Or.inl ⟨x, y, q1, p3, q3, vv, t, mu, mv, π, he k1, xPl_vz hV k2 (hV.fr (hds (Nat.le_refl _) (by omega))), k3, k4, k5, hX (by omega) (by omega) k6, k7, k8, k9⟩))
    · refine Or.inr (Or.inr (Or.inr (Or.inl ⟨ca, ba, cap, mn, f, g, he k1, k2, k3, k4, k5, (hV.nx k4).trans k6, (hV.nx k5).trans k7, k8, k9, chJ_in l1 ?_ ?_⟩)))
      · rintro i y p1 q1 b1 c1 v1 w1 _ a1 a2 ⟨p0, b0, g1, g2, g3⟩
        have := sN_lt g3
        refine ⟨p0, b0, g1.imp id (fun ⟨x, p', q0, t, e1, e2, e3, e4, e5⟩ => ⟨x, p', q0, t, e1, e2, e3, hX (by omega) (by omega) e4, hT _ _ _ _ e5⟩), g2, sN_vz hV hΛ g3 (hds (by omega) (by omega))⟩
      · rintro i y p1 q1 b1 c1 v1 w1 ⟨p0, b0, g1, g2, g3⟩
        have := sN_lt g3; omega
    · have := sN_lt k4
      exact Or.inr (Or.inr (Or.inr (Or.inr (Or.inl ⟨x, y, q0, b1, t, he k1, hX (by omega) (by omega) k2, hT _ _ _ _ k3, sN_vz hV hΛ k4 (hds (by have := xE_lt k2; omega) (Nat.le_refl _)), k5⟩))))
    · have hpq0 : p0 ≤ q0 ∧ q0 ≤ q := by
        obtain ⟨ps, bs, vs, z1, z2, _, _, _, _, z7⟩ := l1
        have hps := chJ_ps (P := fun k y p1 q1 b2 c1 v1 w1 => sN R S Λ gv n 2 y p1 q1 b2 c1 v1 w1 Γ Γ (i, vf k, bd)) (bs := bs) (vs := vs) (fun i x p q b c v w z => sN_lt z) z7 mn 0 (by omega)
        rw [Nat.zero_add] at hps
        have hlt : p0 < q0 := by
          rcases k3 with ⟨_, _, _, z⟩ | ⟨_, _, vv, m2, w2, π, _, z, _⟩
          · exact xE_lt z
          · exact (xPl_c z).2.1
        omega
      refine Or.inr (Or.inr (Or.inr (Or.inr (Or.inr (Or.inl ⟨x, ar, cap, mn, p0, q0, b1, i, t, bd, mu, rf, f, vf, he k1, k2, ?_, hT _ _ _ _ k4, k5.vz hV, k6, (hV.nx k6).trans k7, k8, k9, chJ_in l1 (fun k y p1 q1 b2 c1 v1 w1 _ a1 a2 z => sN_vz hV hΛ z (hds (by omega) (by omega))) (fun k y p1 q1 b2 c1 v1 w1 z => sN_lt z), l2, l3⟩)))))
      exact k3.imp (fun ⟨e1, e2, e3, e4⟩ => ⟨e1, e2, e3, hX (by omega) (by omega) e4⟩) (fun ⟨e1, e2, vv, m2, w2, π, e3, e4, e5⟩ => ⟨e1, e2, vv, m2, w2, π, e3, xPl_vz hV e4 (hV.fr (hds (by omega) (by omega))), e5⟩)
    · exact Or.inr (Or.inr (Or.inr (Or.inr (Or.inr (Or.inr (Or.inl ⟨ex, he k1, k2.imp (fun ⟨e1, e2, e3⟩ => ⟨e1, e2, hT _ _ _ _ e3⟩) (fun ⟨x, p', q', e1, e2, e3, e4, e5⟩ => ⟨x, p', q', e1, e2, e3, hX (by omega) (by omega) e4, e5.im hT⟩), k3, k4⟩))))))
    · exact Or.inr (Or.inr (Or.inr (Or.inr (Or.inr (Or.inr (Or.inr ⟨y, he k1, sN_vz hV hΛ k2 hd, k3⟩))))))
  | n + 1, 1, a, p, q, b, c, v, w, Γ, Γ2, κ, h, hd => by
    obtain ⟨h1, h2, h3, la, cap, mn, f, gs, k1, k2, k3, k4, k5, k6⟩ := h
    have hds : ∀ {p1 q1 : Nat}, p ≤ p1 → q1 ≤ q → dj p1 q1 p2 q2 := fun a1 a2 => by rcases hd with w | w; exact Or.inl (by omega); exact Or.inr (by omega)
    exact ⟨h1, h2, h3, la, cap, mn, f, gs, (hV.nx h1).trans k1, k2, (hV.nx k2).trans k3, k4, k5, chJ_in k6 (fun i y p1 q1 b1 c1 v1 w1 _ a1 a2 z => sN_vz hV hΛ z (hds (by omega) (by omega))) (fun i y p1 q1 b1 c1 v1 w1 z => sN_lt z)⟩
  | n + 1, t + 2, a, p, q, b, c, v, w, Γ, Γ2, κ, h, hd => by
    obtain ⟨⟨h1, h2, h3⟩, na, bk, mk, p', fv, tx, us, k1, k2, k3, k4, k5, k6, k7, k8, k9, l1⟩ := h
    have hT := hV.2.2.1
    have hds : ∀ {p1 q1 : Nat}, p ≤ p1 → q1 ≤ q → dj p1 q1 p2 q2 := fun a1 a2 => by rcases hd with w | w; exact Or.inl (by omega); exact Or.inr (by omega)
    have hXa : Xo R p q a := Or.inl ⟨p, h2, Nat.le_refl _, h3⟩
    have hXv : Xo R p q (a + 2) := Or.inr (Or.inl ⟨a, p, rfl, h2, Nat.le_refl _, h3, k3⟩)
    refine ⟨⟨h1, h2, h3⟩, na, bk, mk, p', fv, tx, us, (hV.1 a h1 (fun x => Xo_dj hXa x hd)).trans k1, k2, k3, (hV.1 _ k2 (fun x => Xo_dj hXv x hd)).trans k4, k5, k6.vz hV, k7, fun j hj => ?_, k9, sN_vz hV hΛ l1 (hds (by omega) (Nat.le_refl _))⟩
    obtain ⟨u, ty, nm, e1, e2, e3, e4, e5⟩ := k8 j hj
    exact ⟨u, ty, nm, e1, e2, hΛ _ _ e3, e4.vz hV, e5.imp id (fun z => z.imp (fun z => ⟨z.1, hT _ _ _ _ z.2⟩) (fun z => ⟨z.1, hT _ _ _ _ z.2⟩))⟩
theorem sN_vx (hV : VX R (Xo R p2 q2) S S2) (hΛ : pfx Λ Λ2) : ∀ {n t a p q b c v w : Nat} {Γ Γ2 : List Nat} {κ : Nat × Nat × Nat}, sN R S Λ gv n t a p q b c v w Γ Γ2 κ → dj p q p2 q2 → sN R S2 Λ2 gv n t a p q b c v w Γ Γ2 κ := sN_vz hV.2 hΛ
end SNL
end
-- k6.s.lean.txt
section
/-- the state in which a function's statements are typed -/
def YS (R : yR) (c nv : Nat) (S : Sg) (Γ Λ : List Nat) (fi gv : Nat) : Prop := TS R c nv S ∧ SCO R S Γ ∧ LVS R S Λ ∧ ITA R S ∧ ROW R S ∧ ((∀ v : Nat, v ∈ Γ → v ∈ Λ) ∧ Γ.length ≤ Λ.length) ∧ (Zf S = some (R.ws fi) ∧ fi < R.im ∧ R.ik fi = 12 ∧ nXo R (R.ws fi)) ∧ xTy S gv ∧ ∃ fs : List Value, ZF S (R.ws fi) = .inr (16, fs) ∧ fs[15]? = some (.ref gv)
theorem UF_Un {S : Sg} {c0 c1 : va_E} {n : Nat} : UF (Un S c0 n) (Zz S) c1 = Un S c1 n := by
  have : updE (updE (ZF S) (Zz S) c0) (Zz S) c1 = updE (ZF S) (Zz S) c1 := by
    funext b
    by_cases e : b = Zz S
    · subst e; rw [updE_s, updE_s]
    · rw [updE_n e, updE_n e, updE_n e]
  show (Zi S, Zr S, Zl S, Zq S, Zf S, Zz S :: ZL S, updE (updE (ZF S) (Zz S) c0) (Zz S) c1, Zz S + 1, Zn S + n) = _
  rw [this]
  rfl
/-- behind declare -/
def dS (S : Sg) (c0 : va_E) (x : Int32) (f : Nat → Option Nat) (y : Int32) : Sg := Ui (Uq (Ui (Un S c0 5) 24 x) 22 f) 23 y
theorem dZi {S : Sg} {c0 : va_E} {x y : Int32} {f : Nat → Option Nat} {j : Nat} (h3 : j ≠ 23) (h4 : j ≠ 24) : Zi (dS S c0 x f y) j = Zi S j := (if_neg h3).trans (if_neg h4)
theorem dZ4 {S : Sg} {c0 : va_E} {x y : Int32} {f : Nat → Option Nat} : Zi (dS S c0 x f y) 24 = x := rfl
theorem dZq {S : Sg} {c0 : va_E} {x y : Int32} {f : Nat → Option Nat} {r : Nat} (h : r ≠ 22) : Zq (dS S c0 x f y) r = Zq S r := va_up_ne _ _ h
section DCL
variable {R : yR} {c nv : Nat} {S S2 : Sg} {Γ Λ : List Nat} {fi gv : Nat}
theorem LVS.vs {X : Nat → Prop} (hV : VX R X S S2) (hs : VS S S2) (h : LVS R S Λ) : LVS R S2 Λ := by
  refine ⟨hs.2.1.trans h.1, h.2.1, fun k v hk => ?_⟩
  obtain ⟨h0, nm, mu, ty, h2, h3, h4, h5⟩ := h.2.2 k v hk
  exact ⟨h0, nm, mu, ty, hs.2.2.2 _ _ _ _ _ h2, h3, h4, fun x q => (h5 x q).im hV.2.2.2.1⟩
/-- behind an exp -/
theorem YS.vx {c2 p q : Nat} (h : YS R c nv S Γ Λ fi gv) (t : TS R c2 nv S2) (v : VX R (Xo R p q) S S2) (s : VS S S2) : YS R c2 nv S2 Γ Λ fi gv := by
  obtain ⟨h1, h2, h3, h4, h5, h6, ⟨h7, h8, h9, h10⟩, h11, fs, h12, h13⟩ := h
  exact ⟨t, h2.vx v s, h3.vs v s, h4.vx v, h5.vx v, h6, ⟨v.1.2.2.2.2.trans h7, h8, h9, h10⟩, h11.im v.2.2.2.1, fs, (v.nx h10).trans h12, h13⟩
theorem VX.x {X : Nat → Prop} (h : VX R nX S S2) : VX R X S S2 := h.mo (fun _ w => w.elim)
/-- a new variable's cell -/
theorem TS.nw (h : TS R c nv S) {vs : List Value} {x y : Int32} {f : Nat → Option Nat} : TS R c (nv + 1) (dS S (.inr (21, vs)) x f y) := by
  obtain ⟨G, tm, Y, ad, h1, h2, h3, h4⟩ := h
  have hlt := h1.2.2.2.2.2.2
  have hx : exS (ZL S) (ZF S) (Zz S :: ZL S) (updE (ZF S) (Zz S) (.inr (21, vs))) := fun a ha => ⟨List.mem_cons_of_mem _ ha, updE_n (by have := hlt a ha; omega)⟩
  refine ⟨grG (ZL S) G (updE (ZF S) (Zz S) (.inr (21, vs))), tm, Y, ad, ⟨?_, (dZi (by decide) (by decide)).trans h1.2.1, (dZi (by decide) (by decide)).trans h1.2.2.1, (dZi (by decide) (by decide)).trans h1.2.2.2.1, ?_, ?_, ?_⟩, fun a ha => ⟨List.mem_cons_of_mem _ (h2 a ha).1, (if_pos (h2 a ha).1).trans (h2 a ha).2⟩, h3, fun j a b c d e f => (dZi e f).trans (h4.1 j a b c d e f), h4.2.1, h4.2.2.1, fun r a b => (dZq b).trans (h4.2.2.2 r a b)⟩
  · rw [dZq (by decide), dZq (by decide)]
    exact ⟨h1.1.1, grG_rl hx h1.1.2.1, itD_ex (grG_ex hx) h1.1.2.2.1, tyW_lr hx h1.1.2.1 (tyW_ex hx (tyW_rl h1.1.2.1 h1.1.2.2.2.1)), h1.1.2.2.2.2⟩
  · show Zz S + 1 = _; have := h1.2.2.2.2.1; omega
  · show Zn S + 5 = _; have := h1.2.2.2.2.2.1; omega
  · intro a ha
    rcases List.mem_cons.mp ha with e | e
    · show a < Zz S + 1; omega
    · show a < Zz S + 1; have := hlt a e; omega
theorem TS.lt (h : TS R c nv S) : (∀ a ∈ ZL S, a < Zz S) ∧ Zz S ≤ Zz R.S + 2000 + nv + c ∧ Zn S ≤ Zn R.S + 8100 + 5 * nv + 4 * c := by
  obtain ⟨G, tm, Y, ad, h1, h2, h3, h4⟩ := h
  have := ptN_ge (Y := Y) (tm := tm)
  refine ⟨h1.2.2.2.2.2.2, ?_, ?_⟩
  · have := h1.2.2.2.2.1; omega
  · have := h1.2.2.2.2.2.1; omega
/-- declare -/
theorem dcl_ (hK : yRm R) (hc : c ≤ 1990) (hnv : nv < 10000) (h : YS R c nv S Γ Λ fi gv) {nm mu : Nat} {ty : Option Nat} (hn : nm < R.T) (hmu : mu ≤ 1) (hty : ∀ x : Nat, ty = some x → rTy S x) (hΛ : Λ.length < 40) : Rt (f_declare R.K S (nI nm) ty (nI mu)) (fun S2 r => ∃ y : Nat, r = some y ∧ YS R c (nv + 1) S2 (Γ ++ [y]) (Λ ++ [y]) fi gv ∧ VX R nX S S2 ∧ Zi S2 3 = Zi S 3 ∧ (∀ k : Nat, k < Γ.length → Zq S2 22 k = Zq S 22 k) ∧ isV S2 y Λ.length (nI nm) ty (nI mu)) := by
  obtain ⟨h1, h2, h3, h4, h5, ⟨h6, h6'⟩, ⟨h7, h8, h9, h10⟩, h11, fs, h12, h13⟩ := h
  obtain ⟨l1, l2, l3⟩ := h1.lt
  have hm : nI mu = 0 ∨ nI mu = 1 := by
    rcases Nat.lt_or_ge mu 1 with w | w
    · rw [show mu = 0 by omega]; exact Or.inl rfl
    · rw [show mu = 1 by omega]; exact Or.inr rfl
  unfold f_declare
  refine Rt.be (nO_ok ⟨by have := hK.1; omega, by have := hK.2.1; omega⟩) ?_
  have hq : ∀ c0 : va_E, Zz S ∈ ZL (Un S c0 5) := fun _ => List.mem_cons_self
  refine Rt.bd (pV_mk (v := .int (Zi S 24)) (hq _) updE_s (Nat.le_of_ble_eq_true rfl)) ?_
  rw [UF_Un]
  refine Rt.bd (pV_mk (v := .int (nI nm)) (hq _) updE_s (Nat.le_of_ble_eq_true rfl)) ?_
  rw [UF_Un]
  refine Rt.bd (pV_mk (v := va_rf ty) (hq _) updE_s (Nat.le_of_ble_eq_true rfl)) ?_
  rw [UF_Un]
  unfold pZ
  rw [if_pos hm]
  refine Rt.bd (pV_mk (v := .int (nI mu)) (hq _) updE_s (Nat.le_of_ble_eq_true rfl)) ?_
  rw [UF_Un]
  have hcell : (.inr (21, ((((([.int 0, .int 0, .null, .int 0, .null] : List Value).set 0 (.int (Zi S 24))).set 1 (.int (nI nm))).set 2 (va_rf ty)).set 3 (.int (nI mu)))) : va_E) = vrC Λ.length (nI nm) ty (nI mu) := by rw [h3.1]; rfl
  rw [hcell]
  have e24 : Zi (Un S (vrC Λ.length (nI nm) ty (nI mu)) 5) 24 = nI Λ.length := h3.1
  refine Rt.bd (v := Ui (Un S (vrC Λ.length (nI nm) ty (nI mu)) 5) 24 (nI (Λ.length + 1))) (by rw [e24, nI_1]; rfl) ?_
  have e23 : Zi (Ui (Un S (vrC Λ.length (nI nm) ty (nI mu)) 5) 24 (nI (Λ.length + 1))) 23 = nI Γ.length := by rw [Zi_n (by decide)]; exact h2.1
  rw [e23]
  refine Rt.bd (wQ_n (show Γ.length < rlen 22 by show Γ.length < 40; omega) (by decide) (okO_mk (vs := _) (show Zz S ∈ ZL (Un S (vrC Λ.length (nI nm) ty (nI mu)) 5) from hq _) (show ZF (Un S (vrC Λ.length (nI nm) ty (nI mu)) 5) (Zz S) = _ from updE_s))) ?_
  refine Rt.bd (v := dS S (vrC Λ.length (nI nm) ty (nI mu)) (nI (Λ.length + 1)) (va_up (Zq S 22) Γ.length (some (Zz S))) (nI (Γ.length + 1))) (by
    show some (Ui _ 23 (Zi (Uq (Ui (Un S (vrC Λ.length (nI nm) ty (nI mu)) 5) 24 (nI (Λ.length + 1))) 22 (va_up (Zq S 22) Γ.length (some (Zz S)))) 23 + 1)) = _
    rw [show Zi (Uq (Ui (Un S (vrC Λ.length (nI nm) ty (nI mu)) 5) 24 (nI (Λ.length + 1))) 22 (va_up (Zq S 22) Γ.length (some (Zz S)))) 23 = nI Γ.length from e23, nI_1]
    rfl) (Rt.rt ?_)
  have t2 := h1.nw (vs := [.int (nI Λ.length), .int (nI nm), va_rf ty, .int (nI mu), .null]) (x := nI (Λ.length + 1)) (y := nI (Γ.length + 1)) (f := va_up (Zq S 22) Γ.length (some (Zz S)))
  have hL2 : ZL (dS S (vrC Λ.length (nI nm) ty (nI mu)) (nI (Λ.length + 1)) (va_up (Zq S 22) Γ.length (some (Zz S))) (nI (Γ.length + 1))) = Zz S :: ZL S := rfl
  have hF2 : ∀ a : Nat, a ∈ ZL S → ZF (dS S (vrC Λ.length (nI nm) ty (nI mu)) (nI (Λ.length + 1)) (va_up (Zq S 22) Γ.length (some (Zz S))) (nI (Γ.length + 1))) a = ZF S a := fun a ha => updE_n (by have := l1 a ha; omega)
  have hFz : ZF (dS S (vrC Λ.length (nI nm) ty (nI mu)) (nI (Λ.length + 1)) (va_up (Zq S 22) Γ.length (some (Zz S))) (nI (Γ.length + 1))) (Zz S) = vrC Λ.length (nI nm) ty (nI mu) := updE_s
  have hQ2 : Zq (dS S (vrC Λ.length (nI nm) ty (nI mu)) (nI (Λ.length + 1)) (va_up (Zq S 22) Γ.length (some (Zz S))) (nI (Γ.length + 1))) 22 = va_up (Zq S 22) Γ.length (some (Zz S)) := by
    show va_up (Zq S) 22 (va_up (Zq S 22) Γ.length (some (Zz S))) 22 = _
    exact va_up_self _ _ _
  have hI23 : Zi (dS S (vrC Λ.length (nI nm) ty (nI mu)) (nI (Λ.length + 1)) (va_up (Zq S 22) Γ.length (some (Zz S))) (nI (Γ.length + 1))) 23 = nI (Γ.length + 1) := Zi_s
  have hI24 : Zi (dS S (vrC Λ.length (nI nm) ty (nI mu)) (nI (Λ.length + 1)) (va_up (Zq S 22) Γ.length (some (Zz S))) (nI (Γ.length + 1))) 24 = nI (Λ.length + 1) := dZ4
  have hT2 : ∀ (x : Nat) (kd ix : Int32) (o : Option Nat), isTy S x kd ix o → isTy (dS S (vrC Λ.length (nI nm) ty (nI mu)) (nI (Λ.length + 1)) (va_up (Zq S 22) Γ.length (some (Zz S))) (nI (Γ.length + 1))) x kd ix o := fun x kd ix o ⟨t, q1, q2, q3, q4⟩ => ⟨t, by unfold tmS; rw [dZi (by decide) (by decide)]; exact q1, (congrFun (dZq (by decide)) t).trans q2, List.mem_cons_of_mem _ q3, (hF2 x q3).trans q4⟩
  have hV2 : VX R nX S (dS S (vrC Λ.length (nI nm) ty (nI mu)) (nI (Λ.length + 1)) (va_up (Zq S 22) Γ.length (some (Zz S))) (nI (Γ.length + 1))) := ⟨⟨fun j a b c d e => dZi d e, rfl, rfl, fun r a b => dZq b, rfl⟩, fun a ha _ => hF2 a (h1.L ha), fun a ha => List.mem_cons_of_mem _ ha, hT2, fun v ix nm ty mu q => ⟨ty, ⟨List.mem_cons_of_mem _ q.1, (hF2 v q.1).trans q.2⟩, Or.inr rfl⟩, fun q => by rw [dZi (by decide) (by decide)] at q; exact q⟩
  have hI3 : Zi (dS S (vrC Λ.length (nI nm) ty (nI mu)) (nI (Λ.length + 1)) (va_up (Zq S 22) Γ.length (some (Zz S))) (nI (Γ.length + 1))) 3 = Zi S 3 := dZi (by decide) (by decide)
  have t2' : TS R c (nv + 1) (dS S (vrC Λ.length (nI nm) ty (nI mu)) (nI (Λ.length + 1)) (va_up (Zq S 22) Γ.length (some (Zz S))) (nI (Γ.length + 1))) := t2
  revert t2' hL2 hF2 hFz hQ2 hI23 hI24 hT2 hV2 hI3
  generalize dS S (vrC Λ.length (nI nm) ty (nI mu)) (nI (Λ.length + 1)) (va_up (Zq S 22) Γ.length (some (Zz S))) (nI (Γ.length + 1)) = S2
  intro hL2 hF2 hFz hQ2 hI23 hI24 hT2 hV2 hI3 t2'
  have hVv : ∀ {v ix : Nat} {nm mu : Int32} {ty : Option Nat}, isV S v ix nm ty mu → isV S2 v ix nm ty mu := fun {v ix nm mu ty} q => ⟨by rw [hL2]; exact List.mem_cons_of_mem _ q.1, (hF2 v q.1).trans q.2⟩
  have hVn : isV S2 (Zz S) Λ.length (nI nm) ty (nI mu) := ⟨by rw [hL2]; exact List.mem_cons_self, hFz⟩
  have hVX : VX R (Xo R 0 0) S S2 := hV2.x
  refine ⟨Zz S, rfl, ⟨t2', ⟨?_, ?_, fun k v hk => ?_⟩, ⟨?_, ?_, fun k v hk => ?_⟩, h4.vx hVX, h5.vx hVX, ⟨fun v hv => ?_, ?_⟩, ⟨hV2.1.2.2.2.2.trans h7, h8, h9, h10⟩, h11.im hT2, fs, (hVX.nx h10).trans h12, h13⟩, hV2, hI3, fun k hk => ?_, hVn⟩
  · rw [hI23, List.length_append]; rfl
  · rw [List.length_append]; show Γ.length + 1 ≤ 40; omega
  · rw [hQ2]
    by_cases e : k = Γ.length
    · subst e
      rw [List.getElem?_append_right (Nat.le_refl _), Nat.sub_self] at hk
      cases hk
      exact ⟨va_up_self _ _ _, Λ.length, nm, mu, ty, hVn, hn, hmu, fun x q => (hty x q).im hT2⟩
    · have hlt := (List.getElem?_eq_some_iff.mp hk).1
      rw [List.length_append] at hlt
      have hlt : k < Γ.length + 1 := hlt
      rw [List.getElem?_append_left (by omega)] at hk
      obtain ⟨a1, ix, nm2, mu2, ty2, a2, a3, a4, a5⟩ := h2.2.2 k v hk
      exact ⟨(va_up_ne _ _ e).trans a1, ix, nm2, mu2, ty2, hVv a2, a3, a4, fun x q => (a5 x q).im hT2⟩
  · rw [hI24, List.length_append]; rfl
  · rw [List.length_append]; show Λ.length + 1 ≤ 40; omega
  · by_cases e : k = Λ.length
    · subst e
      rw [List.getElem?_append_right (Nat.le_refl _), Nat.sub_self] at hk
      cases hk
      exact ⟨fun w => by have := l1 _ (h1.L w); omega, nm, mu, ty, hVn, hn, hmu, fun x q => (hty x q).im hT2⟩
    · have hlt := (List.getElem?_eq_some_iff.mp hk).1
      rw [List.length_append] at hlt
      have hlt : k < Λ.length + 1 := hlt
      rw [List.getElem?_append_left (by omega)] at hk
      obtain ⟨a0, nm2, mu2, ty2, a2, a3, a4, a5⟩ := h3.2.2 k v hk
      exact ⟨a0, nm2, mu2, ty2, hVv a2, a3, a4, fun x q => (a5 x q).im hT2⟩
  · rcases List.mem_append.mp hv with w | w
    · exact List.mem_append_left _ (h6 v w)
    · exact List.mem_append_right _ w
  · rw [List.length_append, List.length_append]; show Γ.length + 1 ≤ Λ.length + 1; omega
  · rw [hQ2]; exact va_up_ne _ _ (by omega)
end DCL
end
