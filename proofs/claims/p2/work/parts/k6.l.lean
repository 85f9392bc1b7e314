theorem in_j {j n : Nat} (h : j < n) (hj : j < 1000000) : ¬ (nI j < 0 ∨ n ≤ (nI j).toNatClampNeg) := by
  rw [nI_clamp (by omega)]
  rintro (w | w)
  · exact nI_pos (by omega) w
  · omega
theorem aQ_j {K : Ky} {t : Nat} {S : Sg} {a n j : Nat} {f : Nat → Option Nat} (ha : a ∈ ZL S) (hF : ZF S a = .inl (K.1 t, n, .inr (.inr (.inr (.inr f))))) (h : j < n) (hj : j < 1000000) : aQ K t S (some a) (nI j) = some (f j) := by
  rw [aQ_mk ha hF (in_j h hj), nI_clamp (by omega)]
theorem aI_j {K : Ky} {S : Sg} {a n j : Nat} {f : Nat → Int32} (ha : a ∈ ZL S) (hF : ZF S a = .inl (K.1 0, n, .inl f)) (h : j < n) (hj : j < 1000000) : aI K S (some a) (nI j) = some (f j) := by
  rw [aI_mk ha hF (in_j h hj), nI_clamp (by omega)]
/-- a row of exps, its parts told by functions -/
theorem chP_fn {z : Nat} {P : Nat → Nat → Nat → Nat → Nat → Prop} {f : Nat → Option Nat} {g : Nat → Int32} {n p q b c : Nat} (h : chP z P f g n p q b c) (hlt : ∀ x p q b c : Nat, P x p q b c → p < q) : ∃ ps bs xs pf sf : Nat → Nat, p ≤ ps 0 ∧ ps n = q ∧ bs 0 = b ∧ bs n = c ∧ (∀ i : Nat, i < n → f i = some (xs i) ∧ ps i < pf i ∧ pf i < ps (i + 1) ∧ P (xs i) (pf i) (ps (i + 1)) (bs i) (bs (i + 1)) ∧ g i = nI (sf i) ∧ ((sf i = 0 ∧ z = 0) ∨ (ps i ≤ sf i ∧ sf i < pf i))) ∧ ∀ i j : Nat, i ≤ j → j ≤ n → ps i ≤ ps j := by
  obtain ⟨ps, bs, h1, h2, h3, h4, h5⟩ := h
  have hk : ∀ i : Nat, ∃ y : Nat × Nat × Nat, i < n → f i = some y.1 ∧ ps i < y.2.1 ∧ y.2.1 < ps (i + 1) ∧ P y.1 y.2.1 (ps (i + 1)) (bs i) (bs (i + 1)) ∧ g i = nI y.2.2 ∧ ((y.2.2 = 0 ∧ z = 0) ∨ (ps i ≤ y.2.2 ∧ y.2.2 < y.2.1)) := fun i => by
    by_cases hi : i < n
    · obtain ⟨x, p', s, g1, g2, g3, g4, g5⟩ := h5 i hi
      exact ⟨(x, p', s), fun _ => ⟨g1, g2, hlt _ _ _ _ _ g3, g3, g4, g5⟩⟩
    · exact ⟨(0, 0, 0), fun w => absurd w hi⟩
  have hm : ∀ i j : Nat, i ≤ j → j ≤ n → ps i ≤ ps j := fun i j hij hj => by
    have := chP_ps (P := P) hlt h5 (j - i) (n := n) (i := i) (by omega)
    rw [show i + (j - i) = j by omega] at this
    exact this
  exact ⟨ps, bs, fun i => (Classical.choose (hk i)).1, fun i => (Classical.choose (hk i)).2.1, fun i => (Classical.choose (hk i)).2.2, h1, h2, h3, h4, fun i hi => Classical.choose_spec (hk i) hi, hm⟩
/-- a row that was read and isn't blank is as it was -/
theorem TS.rq {R : yR} {c nv : Nat} {S : Sg} (h : TS R c nv S) {a n i x : Nat} {k : ClassId} {g : Nat → Option Nat} (ha : a ∈ ZL R.S) (hG : ZF R.S a = .inl (k, n, .inr (.inr (.inr (.inr g))))) (hi : g i = some x) : ZF S a = .inl (k, n, .inr (.inr (.inr (.inr g)))) := by
  obtain ⟨G, tm, Y, ad, h1, h2, h3, h4⟩ := h
  exact rl_rr h1.1.2.1 (h2 a ha).1 ((h2 a ha).2.trans hG) hi
theorem TS.ri {R : yR} {c nv : Nat} {S : Sg} (h : TS R c nv S) {a n i : Nat} {k : ClassId} {g : Nat → Int32} (ha : a ∈ ZL R.S) (hG : ZF R.S a = .inl (k, n, .inl g)) (hi : g i ≠ 0) : ZF S a = .inl (k, n, .inl g) := by
  obtain ⟨G, tm, Y, ad, h1, h2, h3, h4⟩ := h
  exact rl_ri h1.1.2.1 (h2 a ha).1 ((h2 a ha).2.trans hG) hi
section CHN
variable {R : yR} {Γ : List Nat} {c nv : Nat}
/-- a chain -/
theorem chd_ (hK : yRm R) (hv : nv ≤ 10000) {V : Sg → Option Nat → Option (Sg × Option Nat)} {n : Nat} (hV : VH R Γ nv n V) {S : Sg} {kk kq e p q b b2 o q1 b1 mn : Nat} {li si : Value} (hc : c + (q - p) ≤ 1990) (h : TS R c nv S) (hS : SCO R S Γ) (hI : ITA R S) (he : e ∈ ZL R.S) (hG : ZF R.S e = xpC 8 p 0 0 0 0 (.ref o) li si mn) (hF : ZF S e = ZF R.S e) (hmn : 1 ≤ mn) (hE : isE (ZL R.S) (ZF R.S) (R.K.1 9) (R.K.1 0) n kq o p q1 b b1) (hkq : kq = kk + 1 ∨ mn = 0) (hQ : isQl 1 (isE (ZL R.S) (ZF R.S) (R.K.1 9) (R.K.1 0) n kk) (ZL R.S) (ZF R.S) (R.K.1 9) (R.K.1 0) li si mn q1 q b1 b2) (hU : Unt R S p q) (hq : q ≤ R.T) : Rt (f_chained R.K V S (some e)) (VaP R Γ c nv S (n + 1) kq e p q b b2) := by
  have hT := h.tb
  have hpq1 := (isE_mem hE).2
  rcases hQ with ⟨w, _⟩ | ⟨la, sa, cap, q0, f, g, w1, w2, w3, w4, w5, w6, w7, w8, w9⟩
  · omega
  subst w1 w2
  obtain ⟨ps, bs, xs, pf, sf, h1, h2, h3, h4, h5, h6⟩ := chP_fn w9 (fun x p q b c z => (isE_mem z).2)
  have hs0 : ps 0 ≤ sf 0 ∧ sf 0 < pf 0 := (h5 0 (by omega)).2.2.2.2.2.elim (fun w => absurd w.2 (by decide)) id
  have hps1 : pf 0 < ps 1 := (h5 0 (by omega)).2.2.1
  have hp1q : ps 1 ≤ q0 := by have := h6 1 mn (by omega) (Nat.le_refl _); omega
  have hcap : mn ≤ 100000 := by
    have : ∀ d : Nat, d ≤ mn → d ≤ ps d := by
      intro d
      induction d with
      | zero => exact fun _ => Nat.zero_le _
      | succ d ih =>
        intro hd
        have := ih (by omega)
        have := (h5 d (by omega)).2.1; have := (h5 d (by omega)).2.2.1
        omega
    have := this mn (Nat.le_refl _)
    omega
  have hsf : ∀ i : Nat, i < mn → ps i ≤ sf i ∧ sf i < pf i := fun i hi => (h5 i hi).2.2.2.2.2.elim (fun w => absurd w.2 (by decide)) id
  have ho : ownT (ZF R.S) e = some (sf 0) := own_c hG w6 (h5 0 (by omega)).2.2.2.2.1 (by omega)
  have ho1 : p ≤ sf 0 := by omega
  have ho2 : sf 0 < q := by omega
  have hne0 : ¬ Xo R p q1 e := own_n ho ⟨_, hG⟩ (Nat.le_refl _) (Nat.lt_succ_self _) (Or.inr (by omega))
  have hnei : ∀ a z : Nat, sf 0 < a → ¬ Xo R a z e := fun a z ha => own_n ho ⟨_, hG⟩ (Nat.le_refl _) (Nat.lt_succ_self _) (Or.inl (by omega))
  have hnla : nXo R la := nXo.ro w3 w5 (Or.inr (fun w => by cases w; exact absurd (h5 0 (by omega)).1 (by simp)))
  have hnsa : nXo R sa := nXo.ro w4 w6 (Or.inr (fun w => by cases w))
  have hg0 : g 0 ≠ 0 := by rw [(h5 0 (by omega)).2.2.2.2.1]; exact nI_ne0 (by omega) (by omega)
  -- what was read by the place k
  have hloop : ∀ (m k : Nat) {S1 : Sg} {tk : Nat} {tx tt : Nat → Nat}, mn < k + m → k ≤ mn → TS R (c + (ps k - p)) nv S1 → VX R (fun a => Xo R p q1 a ∨ Xo R (sf 0 + 1) (ps k) a) S S1 → VS S S1 → (∃ (kd ix : Int32) (oo : Option Nat), isTy S1 tk kd ix oo) → (Zi S1 3 = 0 → tt k = tk ∧ xE R S1 Γ n kq o p q1 b b1 (tt 0) ∧ ∀ i : Nat, i < k → xE R S1 Γ n kk (xs i) (pf i) (ps (i + 1)) (bs i) (bs (i + 1)) (tx i) ∧ (isTy S1 (tt i) 0 0 none ∨ isTy S1 (tt i) 1 0 none) ∧ (isTy S1 (tx i) 0 0 none ∨ isTy S1 (tx i) 1 0 none) ∧ (isTy S1 (tt (i + 1)) 0 0 none ∨ isTy S1 (tt (i + 1)) 1 0 none)) → Rt (f_chained_11 R.K V m S1 (some e) (some tk) (nI k)) (VaP R Γ c nv S (n + 1) kq e p q b b2) := by
    intro m
    induction m with
    | zero => intro k S1 tk tx tt a b; omega
    | succ m ih =>
      intro k S1 tk tx tt a hkm t1 v1 s1 y1 g1
      have hpk : ps k ≤ q0 := by have := h6 k mn hkm (Nat.le_refl _); omega
      have hpk0 := h6 0 k (by omega) hkm
      have c1 : ZF S1 e = xpC 8 p 0 0 0 0 (.ref o) (.ref la) (.ref sa) mn := (v1.2.1 e he (fun w => w.elim hne0 (hnei _ _ (by omega)))).trans (hF.trans hG)
      have he1 := t1.L he
      have v1' : VX R (Xo R p q) S S1 := v1.mo (fun a w => w.elim (fun w => Xo_mo w (Nat.le_refl _) (by omega)) (fun w => Xo_mo w (by omega) (by omega)))
      -- the end
      have hend : (Zi S1 3 = 0 → k = mn) → Rt (f_chained_196 R.K V S1 (some e) (some tk)) (VaP R Γ c nv S (n + 1) kq e p q b b2) := fun hz => by
        unfold f_chained_196
        refine ftl_ t1 (by omega) v1' s1 y1 he hG rfl ho ho1 ho2 c1 (fun S6 v6 f6 e6 z6 => ?_)
        have hkk := hz z6
        subst hkk
        obtain ⟨a1, a2, a3⟩ := g1 z6
        have hT6 := v6.2.2.2.1
        have hor : ∀ y : Nat, (isTy S1 y 0 0 none ∨ isTy S1 y 1 0 none) → (isTy S6 y 0 0 none ∨ isTy S6 y 1 0 none) := fun y w => w.imp (hT6 _ _ _ _) (hT6 _ _ _ _)
        have hfr : ∀ (p1 q9 : Nat), (q9 ≤ sf 0 ∨ sf 0 < p1) → ∀ a : Nat, a ∈ ZL R.S → (∃ t : Nat, ownT (ZF R.S) a = some t ∧ p1 ≤ t ∧ t < q9) → (∃ vs : List Value, ZF S1 a = .inr (15, vs)) → ZF S6 a = ZF S1 a := fun p1 q9 hd a _ ⟨t, b2', b3, b4⟩ _ => f6 a (fun w => by rw [w, ho] at b2'; cases b2'; omega)
        have hx : xTy S6 tk := by
          rw [← a1]
          have := (a3 (k - 1) (by omega)).2.2.2
          rw [show k - 1 + 1 = k by omega] at this
          rcases hor _ this with w | w
          · exact Or.inl (Or.inl (vTy.pl w (by decide)))
          · exact Or.inl (Or.inl (vTy.pl w (by decide)))
        refine ⟨⟨he, ⟨sf 0, ho, ho1, ho2⟩, by omega⟩, hx, Or.inr (Or.inr (Or.inr (Or.inr (Or.inl ⟨o, q1, b1, k, .ref la, .ref sa, f, g, tx, tt, e6, hmn, xE_vx v6 a2 (hfr p q1 (by omega)), ⟨kk, hkq, Or.inr ⟨la, sa, cap, q0, rfl, rfl, hnla, hnsa, ?_, ?_, hmn, w7, w8, ps, bs, h1, h2, h3, h4, fun i hi => ?_⟩⟩, a1, fun i hi => ⟨hor _ (a3 i hi).2.1, hor _ (a3 i hi).2.2.1, hor _ (a3 i hi).2.2.2⟩⟩))))⟩
        · rw [v6.nx hnla]; exact t1.rq w3 w5 (h5 0 (by omega)).1
        · intro _; rw [v6.nx hnsa]; exact t1.ri w4 w6 hg0
        · have hi0 := hsf i hi
          have := h6 0 i (by omega) (by omega)
          refine ⟨xs i, pf i, sf i, (h5 i hi).1, (h5 i hi).2.1, xE_vx v6 (a3 i hi).1 (hfr _ _ (Or.inr ?_)), (h5 i hi).2.2.2.2.1, Or.inr hi0⟩
          rcases Nat.eq_zero_or_pos i with w | w
          · subst w; omega
          · have := h6 1 i w (by omega); omega
      unfold f_chained_11
      refine Rt.bd (oI_mk he1 c1 (v := nI mn) rfl) (Rt.it (fun w => hend (fun _ => ?_)) (fun w => ?_))
      · have := (nI_leI (a := mn) (b := k) (by omega) (by omega)).mp w; omega
      have hlt : k < mn := by
        rcases Nat.lt_or_ge k mn with z | z
        · exact z
        · exact absurd (nI_le z (by omega)) w
      refine Rt.ok (fun z1 => ?_) (fun z1 => hend (fun w => absurd w z1))
      obtain ⟨d1, d2, d3, d4, d5, d6⟩ := h5 k hlt
      have hpk1 : ps (k + 1) ≤ q0 := by have := h6 (k + 1) mn (by omega) (Nat.le_refl _); omega
      have hpf0 : sf 0 < pf k := by
        rcases Nat.eq_zero_or_pos k with w | w
        · subst w; omega
        · have := h6 1 k w hkm; omega
      have cla := t1.rq w3 w5 (h5 0 (by omega)).1
      refine Rt.bd (oR_mk he1 c1 (v := some la) rfl) (Rt.bd (aQ_j (t1.L w3) cla (show k < cap by omega) (by omega)) ?_)
      rw [d1]
      have hUk : Unt R S1 (pf k) (ps (k + 1)) := fun a ha w9' => (v1.2.1 a ha (fun w => by
        have hdj : ∀ p9 q9 p8 q8 : Nat, Xo R p9 q9 a → Xo R p8 q8 a → dj p9 q9 p8 q8 → False := fun p9 q9 p8 q8 x1 x2 x3 => by
          exact Xo_dj x1 x2 x3
        rcases w with w | w
        · exact hdj _ _ _ _ w w9' (Or.inl (by omega))
        · exact hdj _ _ _ _ w w9' (Or.inl (by omega)))).trans (hU a ha (Xo_mo w9' (by omega) (by omega)))
      have vsc := SCO.vx v1 s1 hS
      refine Rt.bn (hV (c := c + (ps k - p)) (show c + (ps k - p) + (ps (k + 1) - pf k) ≤ 1990 by omega) t1 vsc (hI.vx v1') d4 hUk (by omega)) (fun S2 r2 q2 => ?_)
      obtain ⟨u, rfl, u1, u2⟩ := q2
      have c2 : ZF S2 e = xpC 8 p 0 0 0 0 (.ref o) (.ref la) (.ref sa) mn := (u1.2.1.2.1 e he (hnei _ _ hpf0)).trans c1
      have he2 := u1.1.L he
      have csa := u1.1.ri w4 w6 hg0
      refine Rt.bd (oR_mk he2 c2 (v := some sa) rfl) (Rt.bd (aI_j (u1.1.L w4) csa (show k < cap by omega) (by omega)) ?_)
      rw [d5]
      have hsk := hsf k hlt
      refine Rt.bd (rI_n (show sf k < rlen 5 by show sf k < 3002; omega) (by decide)) (Rt.bn lev_ (fun S3 lv q3 => ?_))
      obtain ⟨rfl, _⟩ := q3
      obtain ⟨kt, it, ot, yt⟩ := y1
      have yt2 := u1.2.1.2.2.2.1 _ _ _ _ yt
      obtain ⟨ku, iu, ou, yu⟩ := u1.2.2.2
      have yt' := yt2
      have yu' := yu
      obtain ⟨ti, a1, a2, a3, a4⟩ := yt2
      obtain ⟨ui, b1', b2', b3, b4⟩ := yu
      have v2 : VX R (fun a => Xo R p q1 a ∨ Xo R (sf 0 + 1) (ps (k + 1)) a) S S3 := (v1.mo (fun a w => w.imp id (fun w => Xo_mo w (Nat.le_refl _) (by omega)))).tr u1.2.1 (fun a w => Or.inr (Xo_mo w (by omega) (Nat.le_refl _)))
      -- behind the look at both kinds
      have h186 : ∀ (S4 : Sg) (kg : Int32), (kg = 0 ∨ kg = 1) → TS R (c + (ps k - p) + (ps (k + 1) - pf k)) nv S4 → VX R nX S3 S4 → VS S3 S4 → (Zi S4 3 = 0 → S4 = S3 ∧ ((kt = 0 ∧ ku = 0) ∨ (kt = 1 ∧ ku = 1))) → Rt (f_chained_186 R.K V (f_chained_11 R.K V m) S4 (some e) (nI k) kg) (VaP R Γ c nv S (n + 1) kq e p q b b2) := fun S4 kg hkg t4 v4 s4 g4 => by
        unfold f_chained_186
        refine Rt.bn (plt_ hK hv t4 (by rcases hkg with w | w <;> subst w <;> decide) (by omega)) (fun S5 r5 q5 => ?_)
        obtain ⟨x, rfl, t5, x5, v5, s5, z5⟩ := q5
        have v35 := v4.n v5
        rw [nI_1]
        refine ih (k + 1) (tx := fun i => if i = k then u else tx i) (tt := fun i => if i = k + 1 then x else tt i) (by omega) (by omega) (t5.up (by omega)) (v2.n v35) (s1.tr (u1.2.2.1.tr (s4.tr s5))) ⟨_, _, _, x5⟩ (fun z => ?_)
        obtain ⟨e9, hkk⟩ := g4 (by rw [← z5]; exact z)
        have hz3 : Zi S3 3 = 0 := v35.2.2.2.2.2 z
        obtain ⟨f1, f2, f3⟩ := g1 z1
        have v15 : VX R (Xo R (pf k) (ps (k + 1))) S1 S5 := u1.2.1.n v35
        have hT5 := v15.2.2.2.1
        have hor : ∀ y : Nat, (isTy S1 y 0 0 none ∨ isTy S1 y 1 0 none) → (isTy S5 y 0 0 none ∨ isTy S5 y 1 0 none) := fun y w => w.imp (hT5 _ _ _ _) (hT5 _ _ _ _)
        have hfr : ∀ (p1 q9 : Nat), (q9 ≤ pf k ∨ ps (k + 1) ≤ p1) → ∀ a : Nat, a ∈ ZL R.S → (∃ t : Nat, ownT (ZF R.S) a = some t ∧ p1 ≤ t ∧ t < q9) → (∃ vs : List Value, ZF S1 a = .inr (15, vs)) → ZF S5 a = ZF S1 a := fun p1 q9 hd a ha ⟨t, x1, x2, x3⟩ x4 => v15.2.1 a ha (fun w => by
          rcases w with ⟨t2, y1, y2, y3⟩ | ⟨b9, t2, _, _, _, _, y6⟩ | ⟨t2, _, _, _, y6⟩
          · rw [x1] at y1; cases y1; omega
          · unfold ownT at x1; rw [y6] at x1; cases x1
          · unfold ownT at x1; rw [y6] at x1; cases x1)
        have hku : isTy S5 tk 0 0 none ∧ isTy S5 u 0 0 none ∨ isTy S5 tk 1 0 none ∧ isTy S5 u 1 0 none := by
          have q1' := (u1.1.at (by omega) yt').1
          have q2' := (u1.1.at (by omega) yu').1
          rcases hkk with ⟨k1, k2⟩ | ⟨k1, k2⟩
          · subst k1 k2
            obtain ⟨m1, m2⟩ := yOK_0 q1' (by decide)
            obtain ⟨m3, m4⟩ := yOK_0 q2' (by decide)
            subst m1 m2 m3 m4
            exact Or.inl ⟨v35.2.2.2.1 _ _ _ _ yt', v35.2.2.2.1 _ _ _ _ yu'⟩
          · subst k1 k2
            obtain ⟨m1, m2⟩ := yOK_0 q1' (by decide)
            obtain ⟨m3, m4⟩ := yOK_0 q2' (by decide)
            subst m1 m2 m3 m4
            exact Or.inr ⟨v35.2.2.2.1 _ _ _ _ yt', v35.2.2.2.1 _ _ _ _ yu'⟩
        refine ⟨if_pos rfl, ?_, fun i hi => ?_⟩
        · rw [if_neg (by omega)]
          exact xE_vx v15 f2 (hfr p q1 (Or.inl (by omega)))
        · by_cases e0 : i = k
          · subst e0
            rw [if_pos rfl, if_pos rfl, if_neg (by omega), f1]
            refine ⟨xE_vx (v35.mo (Y := Xo R 0 0) (fun _ w => w.elim)) (u2 hz3) (fun a ha _ _ => v35.2.1 a ha (fun w => w)), ?_, ?_, ?_⟩
            · exact hku.imp (fun w => w.1) (fun w => w.1)
            · exact hku.imp (fun w => w.2) (fun w => w.2)
            · rcases hkg with w | w <;> subst w
              · exact Or.inl x5
              · exact Or.inr x5
          · rw [if_neg e0, if_neg (by omega), if_neg (by omega)]
            obtain ⟨m1, m2, m3, m4⟩ := f3 i (by omega)
            exact ⟨xE_vx v15 m1 (hfr _ _ (Or.inl (by have := h6 (i + 1) k (by omega) hkm; omega))), hor _ m2, hor _ m3, hor _ m4⟩
      have h174 : ∀ S4 : Sg, TS R (c + (ps k - p) + (ps (k + 1) - pf k)) nv S4 → VX R nX S3 S4 → VS S3 S4 → (Zi S4 3 = 0 → S4 = S3 ∧ ((kt = 0 ∧ ku = 0) ∨ (kt = 1 ∧ ku = 1))) → Rt (f_chained_174 R.K V (f_chained_11 R.K V m) S4 (some e) (nI k) lv) (VaP R Γ c nv S (n + 1) kq e p q b b2) := fun S4 t4 v4 s4 g4 => by
        unfold f_chained_174
        exact Rt.it (fun _ => h186 S4 1 (Or.inr rfl) t4 v4 s4 g4) (fun _ => h186 S4 0 (Or.inl rfl) t4 v4 s4 g4)
      have h149 : ∀ g9 : Int32, (g9 ≠ 0 → (kt = 0 ∧ ku = 0) ∨ (kt = 1 ∧ ku = 1)) → Rt (f_chained_149 R.K V (f_chained_11 R.K V m) S3 (some e) (nI k) lv g9) (VaP R Γ c nv S (n + 1) kq e p q b b2) := fun g9 hg9 => by
        unfold f_chained_149
        refine Rt.ok (fun z3 => Rt.it (fun w => ?_) (fun w => h174 S3 u1.1 VX.rf VS.rf (fun _ => ⟨rfl, hg9 w⟩))) (fun z3 => h174 S3 u1.1 VX.rf VS.rf (fun w => absurd w z3))
        refine Rt.bd (oR_mk he2 c2 (v := some sa) rfl) (Rt.bd (aI_j (u1.1.L w4) csa (show k < cap by omega) (by omega)) ?_)
        rw [d5]
        exact Rt.be (fai_ u1.1 (by omega)) (h174 _ u1.1.fl VX.fl VS.fl (fun w => absurd w (flS_n0 (by decide))))
      have h102 : ∀ (sg i9 b9 : Int32), (i9 ≠ 0 → kt = 0 ∧ ku = 0) → (b9 ≠ 0 → kt = 1 ∧ ku = 1) → Rt (f_chained_102 R.K V (f_chained_11 R.K V m) S3 (some e) (nI k) sg lv i9 b9) (VaP R Γ c nv S (n + 1) kq e p q b b2) := fun sg i9 b9 hi9 hb9 => by
        have h129 : Rt (f_chained_129 R.K V (f_chained_11 R.K V m) S3 (some e) (nI k) lv i9 b9) (VaP R Γ c nv S (n + 1) kq e p q b b2) := by
          unfold f_chained_129 f_chained_139
          exact Rt.it (fun _ => Rt.it (fun _ => h149 0 (fun w => absurd rfl w)) (fun w => h149 1 (fun _ => Or.inr (hb9 w)))) (fun w => h149 1 (fun _ => Or.inl (hi9 w)))
        unfold f_chained_102
        exact Rt.it (fun _ => Rt.it (fun _ => h129) (fun _ => Rt.it (fun _ => h129) (fun _ => h149 i9 (fun w => Or.inl (hi9 w))))) (fun _ => h149 b9 (fun w => Or.inr (hb9 w)))
      have h78 : ∀ (sg i9 : Int32), (i9 ≠ 0 → kt = 0 ∧ ku = 0) → Rt (f_chained_78 R.K V (f_chained_11 R.K V m) S3 (some e) (some tk) (nI k) (some u) sg lv i9) (VaP R Γ c nv S (n + 1) kq e p q b b2) := fun sg i9 hi9 => by
        unfold f_chained_78 f_chained_101
        exact Rt.bd (oI_mk a3 a4 (v := kt) rfl) (Rt.it (fun e1 => Rt.bd (oI_mk b3 b4 (v := ku) rfl) (Rt.it (fun e2 => h102 sg i9 1 hi9 (fun _ => ⟨e1, e2⟩)) (fun _ => h102 sg i9 0 hi9 (fun w => absurd rfl w)))) (fun _ => h102 sg i9 0 hi9 (fun w => absurd rfl w)))
      unfold f_chained_77
      exact Rt.bd (oI_mk a3 a4 (v := kt) rfl) (Rt.it (fun e1 => Rt.bd (oI_mk b3 b4 (v := ku) rfl) (Rt.it (fun e2 => h78 _ 1 (fun _ => ⟨e1, e2⟩)) (fun _ => h78 _ 0 (fun w => absurd rfl w)))) (fun _ => h78 _ 0 (fun w => absurd rfl w)))
  have c1 : ZF S e = xpC 8 p 0 0 0 0 (.ref o) (.ref la) (.ref sa) mn := hF.trans hG
  unfold f_chained
  refine Rt.bd (oR_mk (h.L he) c1 (v := some o) rfl) (Rt.bn (hV (show c + (q1 - p) ≤ 1990 by omega) h hS hI hE (hU.su (Nat.le_refl _) (by omega)) (by omega)) (fun S2 r2 q2 => ?_))
  obtain ⟨y, rfl, y1, y2⟩ := q2
  exact hloop bigN 0 (tx := fun _ => 0) (tt := fun _ => y) (by show mn < 0 + 1000000000000; omega) (Nat.zero_le _) (y1.1.up (by omega)) (y1.2.1.mo (fun a w => Or.inl w)) y1.2.2.1 y1.2.2.2 (fun z => ⟨rfl, y2 z, fun i hi => absurd hi (by omega)⟩)
end CHN
