/-- pigeons -/
theorem pig : ∀ (n m : Nat) (f : Nat → Nat), (∀ k : Nat, k < n → f k < m) → (∀ k j : Nat, k < n → j < n → f k = f j → k = j) → n ≤ m
  | 0, _, _, _, _ => Nat.zero_le _
  | n + 1, 0, f, h, _ => absurd (h 0 (by omega)) (by omega)
  | n + 1, m + 1, f, h, hi => by
    have := pig n m (fun k => if f k = m then f n else f k) (fun k hk => ?_) (fun k j hk hj e => ?_)
    · omega
    · have h1 := h k (by omega)
      have h2 := h n (by omega)
      by_cases e : f k = m
      · rw [if_pos e]
        have : f n ≠ m := fun w => by have := hi k n (by omega) (by omega) (e.trans w.symm); omega
        omega
      · rw [if_neg e]; omega
    · by_cases e1 : f k = m
      · rw [if_pos e1] at e
        by_cases e2 : f j = m
        · exact hi k j (by omega) (by omega) (e1.trans e2.symm)
        · rw [if_neg e2] at e
          have := hi n j (by omega) (by omega) e; omega
      · rw [if_neg e1] at e
        by_cases e2 : f j = m
        · rw [if_pos e2] at e
          have := hi k n (by omega) (by omega) e; omega
        · rw [if_neg e2] at e
          exact hi k j (by omega) (by omega) e
/-- .. each hole has one -/
theorem pigS {n : Nat} {f : Nat → Nat} (h : ∀ k : Nat, k < n → f k < n) (hi : ∀ k j : Nat, k < n → j < n → f k = f j → k = j) {y : Nat} (hy : y < n) : ∃ k : Nat, k < n ∧ f k = y := by
  refine Classical.byContradiction (fun hno => ?_)
  have hno : ∀ k : Nat, k < n → f k ≠ y := fun k hk e => hno ⟨k, hk, e⟩
  have := pig n (n - 1) (fun k => if f k = n - 1 then y else f k) (fun k hk => ?_) (fun k j hk hj e => ?_)
  · omega
  · have h1 := h k hk
    have h2 := hno k hk
    by_cases e : f k = n - 1
    · rw [if_pos e]; omega
    · rw [if_neg e]; omega
  · by_cases e1 : f k = n - 1
    · rw [if_pos e1] at e
      by_cases e2 : f j = n - 1
      · exact hi k j hk hj (e1.trans e2.symm)
      · rw [if_neg e2] at e
        exact absurd e.symm (hno j hj)
    · rw [if_neg e1] at e
      by_cases e2 : f j = n - 1
      · rw [if_pos e2] at e
        exact absurd e (hno k hk)
      · rw [if_neg e2] at e
        exact hi k j hk hj e
section MAD
variable {R : yR} {Γ : List Nat} {c nv : Nat}
/-- a new struct -/
theorem mad_ (hK : yRm R) (hv : nv ≤ 10000) {V : Sg → Option Nat → Option (Sg × Option Nat)} {n : Nat} (hV : VH R Γ nv n V) {S : Sg} {kk kq e p q b b2 p' mn : Nat} {li si : Value} (hc : c + (q - p) ≤ 1990) (h : TS R c nv S) (hS : SCO R S Γ) (hI : ITA R S) (he : e ∈ ZL R.S) (hG : ZF R.S e = xpC 5 p 0 (nI (p + 1)) 0 0 .null li si mn) (hF : ZF S e = ZF R.S e) (hpq : p + 1 < q) (hp : p < p') (hkq : kq = kk + 1 ∨ mn = 0) (hQ : isQl 1 (isE (ZL R.S) (ZF R.S) (R.K.1 9) (R.K.1 0) n kk) (ZL R.S) (ZF R.S) (R.K.1 9) (R.K.1 0) li si mn p' q b b2) (hU : Unt R S p q) (hq : q ≤ R.T) : Rt (f_made R.K V S (some e)) (VaP R Γ c nv S (n + 1) kq e p q b b2) := by
  have hT := h.tb
  have hpq1 : p < q := by omega
  have ho : ownT (ZF R.S) e = some p := own_a hG (by decide) (by decide) (by omega)
  have c1 : ZF S e = xpC 5 p 0 (nI (p + 1)) 0 0 .null li si mn := hF.trans hG
  have he1 := h.L he
  have h27 : Rt (f_made_27 R.K V S (some e)) (VaP R Γ c nv S (n + 1) kq e p q b b2) := by
    unfold f_made_27
    refine Rt.bd (oI_mk he1 c1 (v := nI (p + 1)) rfl) (Rt.bn (wrg_ hK hv (by omega) h he hG rfl ho (Nat.le_refl p) hpq1 (by omega) (by decide)) (fun S3 r3 q3 => ?_))
    obtain ⟨x3, rfl, k1, k2⟩ := q3
    exact Rt.rt (VaP.bad k1 (by omega) k2)
  unfold f_made
  refine Rt.bd (oI_mk he1 c1 (v := nI (p + 1)) rfl) (Rt.bn (inm_ h (by omega)) (fun S2 r2 q2 => ?_))
  obtain ⟨rfl, q2⟩ := q2
  rcases q2 with rfl | ⟨i, hi, rfl⟩
  · exact Rt.ip (by decide) h27
  have hi70 := h.im.1
  obtain ⟨n1, n2, fs, mn2, na, g, n3, n4, n5, n6, n7, n8, n9, n10, n11⟩ := hI i hi
  have hw := h.L n1.1
  refine Rt.iq (nI_pos (by omega)) (Rt.bd (h.it hi n2) (Rt.bd (oI_mk hw n3 n4) (Rt.it (fun hk => ?_) (fun _ => h27))))
  have hSt : ∃ (ta : Nat) (f : Nat → Option Nat), fs[10]? = some (.ref ta) ∧ rTs R S2 ta 13 mn2 f (vTy S2) := by
    rcases n11 with ⟨_, w⟩ | ⟨w, _⟩ | ⟨w, _⟩
    · exact w
    · rw [hk] at w; exact absurd w (by decide)
    · rw [hk] at w; exact absurd w (by decide)
  obtain ⟨ta, f, m1, m2⟩ := hSt
  obtain ⟨a1, a2, a3, a4⟩ := ixw_ (k := 4) (v := .int (nI i)) h he hG rfl ho (Nat.le_refl p) hpq1 c1 (Or.inl rfl)
  refine Rt.bd (h.it hi n2) (Rt.bd a1 ?_)
  suffices hmain : ∀ S9 : Sg, TS R c nv S9 → VX R (Xo R p q) S2 S9 → VS S2 S9 → ZF S9 e = xtC 5 p 0 (nI (p + 1)) (nI i) 0 0 0 .null li si mn .null .null → Unt R S9 p' q → Rt (f_made_53 R.K V bigN S9 (some e) (nI i) (some (R.ws i)) (nI 0)) (VaP R Γ c nv S2 (n + 1) kq e p q b b2) by
    exact hmain _ a2 a3 a4 ZF_s (fun a ha w => (ZF_n (fun e0 => by rw [e0] at w; exact own_n ho ⟨_, hG⟩ (Nat.le_refl p) (Nat.lt_succ_self p) (Or.inl (by omega)) w)).trans (hU a ha (Xo_mo w (by omega) (Nat.le_refl _))))
  clear a1 a2 a3 a4
  intro S9 a2 a3 a4 ce hU9
  have hst : ∀ {S1 : Sg} {p9 q9 : Nat}, VX R (Xo R p9 q9) S2 S1 → stY R S1 i mn2 := fun {S1 p9 q9} v => stY.vx v ⟨fs, hi, hk, n1, n3, n5, n6⟩
  have hfl : ∀ {S1 : Sg} {p9 q9 k x : Nat}, VX R (Xo R p9 q9) S2 S1 → k < mn2 → f k = some x → fld R S1 i k x := fun {S1 p9 q9 k x} v hk' hx => fld.vx v (by
    obtain ⟨x2, y1, y2⟩ := m2.2.2 k hk'
    rw [hx] at y1; cases y1
    exact ⟨fs, mn2, ta, f, hi, hk, n1, n3, n5, hk', n6, m1, m2.1, m2.2.1, hx, y2⟩)
  -- the end
  have h202 : ∀ (S1 : Sg) (c9 : Nat), TS R c9 nv S1 → c9 + 1 ≤ c + (q - p) → VX R (Xo R p q) S2 S1 → VS S2 S1 → ZF S1 e = xtC 5 p 0 (nI (p + 1)) (nI i) 0 0 0 .null li si mn .null .null → (∀ S6 : Sg, VX R (Xo R p q) S1 S6 → (∀ a : Nat, a ∈ ZL R.S → a ≠ e → ZF S6 a = ZF S1 a) → Zi S1 3 = 0 → mn = mn2 ∧ ∃ (f9 : Nat → Option Nat) (g9 : Nat → Int32) (tx fo : Nat → Nat), lsX R S6 (xE R S6 Γ n kk) 1 li si mn p' q b b2 tx f9 g9 ∧ (∀ k : Nat, k < mn → fo k < mn ∧ fld R S6 i (fo k) (tx k) ∧ fnm R S6 i (fo k) (g9 k)) ∧ ∀ k j : Nat, k < mn → j < mn → fo k = fo j → k = j) → Rt (f_made_202 R.K V S1 (some e) (nI i)) (VaP R Γ c nv S2 (n + 1) kq e p q b b2) := fun S1 c9 t1 hc9 v1 s1 e1 g1 => by
    unfold f_made_202
    refine Rt.bn (typ_ hK hv t1 (Or.inr (Or.inl ⟨rfl, ⟨i, hi, rfl, hk⟩, rfl⟩)) (Or.inl rfl) (by omega)) (fun S5 r5 q5 => ?_)
    obtain ⟨x, rfl, t5, y5, v5, s5, z5⟩ := q5
    have e5 : ZF S5 e = xtC 5 p 0 (nI (p + 1)) (nI i) 0 0 0 .null li si mn .null .null := (v5.2.1 e he (fun w => w)).trans e1
    refine ftl_ t5 hc9 (v1.n v5) (s1.tr s5) ⟨_, _, _, y5⟩ he hG rfl ho (Nat.le_refl p) hpq1 e5 (fun S6 v6 f6 e6 z6 => ?_)
    obtain ⟨q0, f9, g9, tx, fo, g2, g3, g4⟩ := g1 S6 (v5.b v6) (fun a ha hae => (f6 a hae).trans (v5.2.1 a ha (fun w => w))) (by rw [← z5]; exact z6)
    subst q0
    have v26 := (v1.n v5).tr v6 (fun _ w => w)
    have y6 := v6.2.2.2.1 _ _ _ _ y5
    exact ⟨⟨he, ⟨p, ho, Nat.le_refl _, hpq1⟩, hpq1⟩, Or.inl (Or.inl (vTy.pl y6 (by decide))), Or.inr (Or.inr (Or.inr (Or.inr (Or.inr (Or.inr (Or.inl ⟨i, mn, p', li, si, f9, g9, tx, fo, e6, hp, hst v26, y6, ⟨kk, hkq, g2⟩, g3, g4⟩))))))⟩
  have h175 : ∀ (S1 : Sg) (c9 : Nat), mn ≤ 100000 → TS R c9 nv S1 → c9 + 1 ≤ c + (q - p) → VX R (Xo R p q) S2 S1 → VS S2 S1 → ZF S1 e = xtC 5 p 0 (nI (p + 1)) (nI i) 0 0 0 .null li si mn .null .null → (Zi S1 3 = 0 → mn2 ≤ mn → ∀ S6 : Sg, VX R (Xo R p q) S1 S6 → (∀ a : Nat, a ∈ ZL R.S → a ≠ e → ZF S6 a = ZF S1 a) → mn = mn2 ∧ ∃ (f9 : Nat → Option Nat) (g9 : Nat → Int32) (tx fo : Nat → Nat), lsX R S6 (xE R S6 Γ n kk) 1 li si mn p' q b b2 tx f9 g9 ∧ (∀ k : Nat, k < mn → fo k < mn ∧ fld R S6 i (fo k) (tx k) ∧ fnm R S6 i (fo k) (g9 k)) ∧ ∀ k j : Nat, k < mn → j < mn → fo k = fo j → k = j) → Rt (f_made_175 R.K V S1 (some e) (nI i) (some (R.ws i))) (VaP R Γ c nv S2 (n + 1) kq e p q b b2) := fun S1 c9 hmb t1 hc9 v1 s1 e1 g1 => by
    have hws : ZF S1 (R.ws i) = .inr (16, fs) := (v1.nx n1).trans n3
    unfold f_made_175
    refine Rt.ok (fun z1 => ?_) (fun z1 => h202 S1 c9 t1 hc9 v1 s1 e1 (fun S6 _ _ w => absurd w z1))
    refine Rt.bd (oI_mk (t1.L he) e1 (v := nI mn) rfl) (Rt.bd (oI_mk (t1.L n1.1) hws n5) (Rt.it (fun w => ?_) (fun w => ?_)))
    · have hle := (nI_leI (a := mn2) (b := mn) (by omega) (by omega)).mp w
      exact h202 S1 c9 t1 hc9 v1 s1 e1 (fun S6 v6 f6 z6 => g1 z1 hle S6 v6 f6)
    · refine Rt.bd (oI_mk (t1.L he) e1 (v := nI p) rfl) (Rt.be (fai_ t1 (by omega)) (h202 _ c9 t1.fl hc9 (v1.n VX.fl) (s1.tr VS.fl) (by rw [flS_st.2.1]; exact e1) (fun S6 _ _ w => absurd w (flS_n0 (by decide)))))
  rcases LQ_of hQ with ⟨w1, w2, w3⟩ | ⟨la, sa, cap, q0, f9, g9, ps, bs, xs, pf, sf, w1, w2, hL⟩
  · obtain ⟨m9, hb, _⟩ : ∃ m9 : Nat, bigN = m9 + 1 ∧ 0 ≤ m9 := bigN_gt (by omega)
    rw [hb]
    unfold f_made_53
    exact Rt.bd (oI_mk (a2.L he) ce (v := nI mn) rfl) (Rt.ip (by rw [w1]; decide) (h175 S9 c (by omega) a2 (by omega) a3 a4 ce (fun _ hle S6 _ _ => ⟨by omega, fun _ => none, fun _ => 0, fun _ => 0, fun _ => 0, Or.inl ⟨w1, w2, w3⟩, fun k hk => absurd hk (by omega), fun k j hk => absurd hk (by omega)⟩)))
  · subst w1 w2
    have hmq : mn ≤ q := by have := hL.1; omega
    have hsf : ∀ j : Nat, j < mn → ps j ≤ sf j ∧ sf j < pf j := fun j hj => (hL.2.2.1 j hj).2.2.2.2.2.elim (fun w => absurd w.2 (by decide)) id
    have hpsq : ∀ j : Nat, j ≤ mn → ps j ≤ q := fun j hj => by have := hL.2.2.2 j mn hj (Nat.le_refl _); have := hL.1.2.2.2.2.2.2.1; have := hL.2.1.2.1; omega
    have hg0 : g9 0 ≠ 0 := by
      have h0 := hL.1.2.2.2.2.1
      have h1 := hsf 0 (by omega); have h2 := (hL.2.2.1 0 (by omega)).2.2.1; have h3 := hpsq (0 + 1) (by omega); have h4 := hL.2.1.1
      rw [(hL.2.2.1 0 (by omega)).2.2.2.2.1]; exact nI_ne0 (by omega) (by omega)
    have hloop : ∀ (m k : Nat) {S1 : Sg} {tx fo : Nat → Nat}, mn < k + m → k ≤ mn → TS R (c + (ps k - p')) nv S1 → VX R (Xo R p' (ps k)) S9 S1 → VS S9 S1 → (Zi S1 3 = 0 → ∀ j : Nat, j < k → xE R S1 Γ n kk (xs j) (pf j) (ps (j + 1)) (bs j) (bs (j + 1)) (tx j) ∧ fo j < mn2 ∧ f (fo j) = some (tx j) ∧ (∃ s : Nat, g (fo j) = nI s ∧ s < R.T ∧ nmE R s (sf j) ∧ ∀ j9 : Nat, j9 < fo j → ∃ s : Nat, g j9 = nI s ∧ s < R.T ∧ ¬ nmE R s (sf j)) ∧ ∀ j2 : Nat, j2 < j → ¬ nmE R (sf j2) (sf j)) → Rt (f_made_53 R.K V m S1 (some e) (nI i) (some (R.ws i)) (nI k)) (VaP R Γ c nv S2 (n + 1) kq e p q b b2) := by
      intro m
      induction m with
      | zero => intro k S1 tx fo a b; omega
      | succ m ih =>
        intro k S1 tx fo a hkm t1 v1 s1 g1
        have hpk := hpsq k hkm
        have e1 : ZF S1 e = xtC 5 p 0 (nI (p + 1)) (nI i) 0 0 0 .null (.ref la) (.ref sa) mn .null .null := (v1.2.1 e he (own_n ho ⟨_, hG⟩ (Nat.le_refl p) (Nat.lt_succ_self p) (Or.inl (by omega)))).trans ce
        have v1' : VX R (Xo R p q) S2 S1 := a3.tr v1 (fun a w => Xo_mo w (by omega) hpk)
        have s1' := a4.tr s1
        have hend : (Zi S1 3 = 0 → k = mn) → Rt (f_made_175 R.K V S1 (some e) (nI i) (some (R.ws i))) (VaP R Γ c nv S2 (n + 1) kq e p q b b2) := fun hz => h175 S1 _ (by omega) t1 (by omega) v1' s1' e1 (fun z6 hle S6 v6 f6 => by
          have hkk := hz z6
          subst hkk
          have g2 := g1 z6
          have hinj : ∀ a9 j : Nat, a9 < k → j < k → fo a9 = fo j → a9 = j := fun a9 j ha hj he9 => by
            obtain ⟨s, b1, b2', b3⟩ := (g2 a9 ha).2.2.2.1
            obtain ⟨s2, d1, d2, d3⟩ := (g2 j hj).2.2.2.1
            rw [he9, d1] at b1
            have : s2 = s := (nI_eq (by omega) (by omega)).mp b1
            subst this
            have hnm := b3.1.sm.tr d3.1
            rcases Nat.lt_trichotomy a9 j with w | w | w
            · exact absurd hnm ((g2 j hj).2.2.2.2 a9 w)
            · exact w
            · exact absurd hnm.sm ((g2 a9 ha).2.2.2.2 j w)
          have hmn := pig k mn2 fo (fun j hj => (g2 j hj).2.1) hinj
          have hkm2 : k = mn2 := by omega
          have v26 := v1'.tr v6 (fun _ w => w)
          refine ⟨hkm2, f9, g9, tx, fo, LQ.en hL t1 v6 (by omega) hq (fun j hj => xE_vx v6 (g2 j hj).1 (fun a ha ⟨t, x1, x2, x3⟩ _ => f6 a ha (fun w => ?_))), fun j hj => ⟨by have := (g2 j hj).2.1; omega, hfl v26 (g2 j hj).2.1 (g2 j hj).2.2.1, ?_⟩, hinj⟩
          rotate_left
          · obtain ⟨s, b1, b2', b3, b4⟩ := (g2 j hj).2.2.2.1
            have hs9 := hsf j hj; have hs8 := (hL.2.2.1 j hj).2.2.1; have hs7 := hpsq (j + 1) (by omega)
            exact ⟨fs, na, mn2, sf j, g, n1, (v26.nx n1).trans n3, n5, n6, n7, n8, (v26.nx n8).trans n9, (hL.2.2.1 j hj).2.2.2.2.1, by omega, (g2 j hj).2.1, ⟨s, b1, b2', b3⟩, b4⟩
          rw [w, ho] at x1; cases x1
          have := (hL.2.2.1 j hj).2.1; have := hL.2.2.2 0 j (by omega) (by omega); have := hL.2.1.1
          omega)
        unfold f_made_53
        refine Rt.bd (oI_mk (t1.L he) e1 (v := nI mn) rfl) (Rt.it (fun w => hend (fun _ => ?_)) (fun w => ?_))
        · have := (nI_leI (a := mn) (b := k) (by omega) (by omega)).mp w; omega
        have hlt : k < mn := by
          rcases Nat.lt_or_ge k mn with z | z
          · exact z
          · exact absurd (nI_le z (by omega)) w
        refine Rt.ok (fun z1 => ?_) (fun z1 => hend (fun w => absurd w z1))
        have hsa := t1.ri hL.1.2.1 hL.1.2.2.2.1 hg0
        have hcap : mn ≤ cap := hL.1.2.2.2.2.2.1
        have hskT : ∀ j : Nat, j < mn → sf j < R.T := fun j hj => by have := hsf j hj; have := (hL.2.2.1 j hj).2.2.1; have := hpsq (j + 1) (by omega); omega
        have hws : ZF S1 (R.ws i) = .inr (16, fs) := (v1'.nx n1).trans n3
        have hna : ZF S1 na = .inl (R.K.1 0, 13, .inl g) := (v1'.nx n8).trans n9
        refine Rt.bd (oR_mk (t1.L he) e1 (v := some sa) rfl) (Rt.bd (aI_j (t1.L hL.1.2.1) hsa (show k < cap by omega) (by omega)) ?_)
        rw [(hL.2.2.1 k hlt).2.2.2.2.1]
        refine Rt.bn (fof_ t1 n1.1 hws n5 n6 n7 n8.1 hna n10 (hskT k hlt)) (fun S3 r3 q3 => ?_)
        obtain ⟨rfl, q3⟩ := q3
        have hps1 := hL.2.2.2 k (k + 1) (by omega) (by omega)
        -- a fault
        have h136 : Rt (f_made_136 R.K V (f_made_53 R.K V m) S3 (some e) (nI i) (some (R.ws i)) (nI k)) (VaP R Γ c nv S2 (n + 1) kq e p q b b2) := by
          unfold f_made_136 f_made_169
          refine Rt.bd (oR_mk (t1.L he) e1 (v := some sa) rfl) (Rt.bd (aI_j (t1.L hL.1.2.1) hsa (show k < cap by omega) (by omega)) ?_)
          rw [(hL.2.2.1 k hlt).2.2.2.2.1, nI_1]
          refine Rt.be (fai_ t1 (hskT k hlt)) (ih (k + 1) (tx := tx) (fo := fo) (by omega) (by omega) (t1.fl.up (by omega)) ((v1.mo (fun a w => Xo_mo w (Nat.le_refl _) (by omega))).n VX.fl) (s1.tr VS.fl) (fun w => absurd w (flS_n0 (by decide))))
        -- names that came before
        have h89 : ∀ (m2' j : Nat) (ag : Int32), k < j + m2' → j ≤ k → (ag = 0 → ∀ j2 : Nat, j2 < j → ¬ nmE R (sf j2) (sf k)) → Rt (f_made_89 R.K V (f_made_53 R.K V m) m2' S3 (some e) (nI i) (some (R.ws i)) (nI k) r3 ag (nI j)) (VaP R Γ c nv S2 (n + 1) kq e p q b b2) := by
          intro m2'
          induction m2' with
          | zero => intro j ag a b; omega
          | succ m2' ih2 =>
            intro j ag a9 hjk hag
            unfold f_made_89 f_made_120
            refine Rt.it (fun w => ?_) (fun w => ?_)
            · have hjk2 : k ≤ j := (nI_leI (a := k) (b := j) (by omega) (by omega)).mp w
              rcases q3 with rfl | ⟨kf, s9, x1, rfl, x2, x3, x4⟩
              · exact Rt.ip (by decide) h136
              refine Rt.iq (nI_pos (by omega)) (Rt.it (fun w0 => ?_) (fun _ => h136))
              have hla := t1.rq hL.1.1 hL.1.2.2.1 (hL.2.2.1 0 (by omega)).1
              refine Rt.bd (oR_mk (t1.L he) e1 (v := some la) rfl) (Rt.bd (aQ_j (t1.L hL.1.1) hla (show k < cap by omega) (by omega)) ?_)
              rw [(hL.2.2.1 k hlt).1]
              refine Rt.bd (oR_mk (v := some ta) (t1.L n1.1) hws m1) (Rt.bd (aQ_n (t1.L m2.1.1) ((v1'.nx m2.1).trans m2.2.1) (show kf < 13 by omega) (by decide)) ?_)
              refine Rt.bn (LQ.st hL hV hlt (c := c) (by omega) hq (SCO.vx v1' s1' hS) (hI.vx v1') hU9 t1 v1 s1 (fun j hj => (g1 z1 j hj).1)) (fun S4 _ q4 => ?_)
              obtain ⟨t4, v4, s4, _, _, g4⟩ := q4
              unfold f_made_169
              rw [nI_1]
              refine ih (k + 1) (tx := fun j => if j = k then (f kf).getD 0 else tx j) (fo := fun j => if j = k then kf else fo j) (by omega) (by omega) t4 v4 s4 (fun z4 j9 hj9 => ?_)
              obtain ⟨t, y1, y2⟩ := g4 z4
              have hy := y2 j9 hj9
              dsimp only at hy ⊢
              by_cases e0 : j9 = k
              · subst e0
                rw [if_pos rfl] at hy
                rw [if_pos rfl, if_pos rfl, y1]
                exact ⟨hy, x1, rfl, ⟨s9, x2, x3, x4⟩, fun j2 hj2 => hag w0 j2 (by omega)⟩
              · rw [if_neg e0] at hy
                rw [if_neg e0, if_neg e0]
                exact ⟨hy, (g1 z1 j9 (by omega)).2⟩
            · have hjlt : j < k := by
                rcases Nat.lt_or_ge j k with z | z
                · exact z
                · exact absurd (nI_le z (by omega)) w
              refine Rt.bd (oR_mk (t1.L he) e1 (v := some sa) rfl) (Rt.bd (aI_j (t1.L hL.1.2.1) hsa (show j < cap by omega) (by omega)) (Rt.bd (oR_mk (t1.L he) e1 (v := some sa) rfl) (Rt.bd (aI_j (t1.L hL.1.2.1) hsa (show k < cap by omega) (by omega)) ?_)))
              rw [(hL.2.2.1 k hlt).2.2.2.2.1, (hL.2.2.1 j (by omega)).2.2.2.2.1]
              refine Rt.bn (sne_ t1 (hskT j (by omega)) (hskT k hlt)) (fun S4 r4 q4 => ?_)
              obtain ⟨e4, q4⟩ := q4
              rw [e4, nI_1]
              rcases q4 with ⟨w1, w2⟩ | ⟨w1, w2⟩
              · rw [w1]
                exact Rt.iq (by decide) (ih2 (j + 1) 1 (by omega) (by omega) (fun w => absurd w (by decide)))
              · rw [w1]
                refine Rt.ip rfl (ih2 (j + 1) ag (by omega) (by omega) (fun w j2 hj2 => ?_))
                by_cases e0 : j2 = j
                · subst e0; exact w2
                · exact hag w j2 (by omega)
        exact h89 bigN 0 0 (by show k < 0 + 1000000000000; omega) (Nat.zero_le _) (fun _ j2 hj2 => absurd hj2 (by omega))
    exact hloop bigN 0 (tx := fun _ => 0) (fo := fun _ => 0) (by show mn < 0 + 1000000000000; omega) (Nat.zero_le _) (a2.up (by omega)) VX.rf VS.rf (fun _ j hj => absurd hj (by omega))
end MAD
