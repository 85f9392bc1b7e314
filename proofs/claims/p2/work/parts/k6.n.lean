section CAL
variable {R : yR} {Γ : List Nat} {c nv : Nat}
theorem TS.im {S : Sg} (h : TS R c nv S) : R.im ≤ 70 ∧ Zq S 11 = Zq R.S 11 := by
  obtain ⟨G, tm, Y, ad, h1, h2, h3, h4⟩ := h
  exact ⟨h1.1.2.2.1.1, h4.2.2.2 11 (by decide) (by decide)⟩
theorem TS.it {S : Sg} (h : TS R c nv S) {i : Nat} (hi : i < R.im) (hq : Zq R.S 11 i = some (R.ws i)) : rQ S 11 (nI i) = some (some (R.ws i)) := by
  have := h.im.1
  rw [rQ_n (show i < rlen 11 by show i < 70; omega) (by decide), h.im.2, hq]
/-- an exp's item or variant is written: the exp's own cell -/
theorem ixw_ {S : Sg} {e p q t k : Nat} {fs gs : List Value} {v : Value} (h : TS R c nv S) (he : e ∈ ZL R.S) (hG : ZF R.S e = .inr (15, fs)) (hl : fs.length = 14) (ho : ownT (ZF R.S) e = some t) (h1 : p ≤ t) (h2 : t < q) (hF : ZF S e = .inr (15, gs)) (hk : k = 4 ∨ k = 5) : pV S 15 (some e) k v = some (UF S e (.inr (15, gs.set k v))) ∧ TS R c nv (UF S e (.inr (15, gs.set k v))) ∧ VX R (Xo R p q) S (UF S e (.inr (15, gs.set k v))) ∧ VS S (UF S e (.inr (15, gs.set k v))) := by
  obtain ⟨g0, gs2, g1, g2, g3, g4⟩ := h.ob he hG
  rw [hF] at g1; cases g1
  refine ⟨pV_mk g0 hF (by rw [g2, hl]; rcases hk with w | w <;> subst w <;> decide), h.uf he (cs_put g4 (by rcases hk with w | w <;> subst w <;> rfl)), VX.uf (Or.inl ⟨t, ho, h1, h2⟩) (fun vs w => by rw [hF] at w; cases w) (fun vs w => by rw [hF] at w; cases w), VS.uf (fun k vs hk w => by rw [hF] at w; cases w; exact hk rfl)⟩
/-- call -/
theorem cal_ (hK : yRm R) (hv : nv ≤ 10000) {V : Sg → Option Nat → Option (Sg × Option Nat)} {n : Nat} (hV : VH R Γ nv n V) {S : Sg} {kk kq e p q b b2 p' z mn : Nat} {li si : Value} (hc : c + (q - p) ≤ 1990) (h : TS R c nv S) (hS : SCO R S Γ) (hI : ITA R S) (he : e ∈ ZL R.S) (hG : ZF R.S e = xpC 3 p 0 (nI p) 0 0 .null li si mn) (hF : ZF S e = ZF R.S e) (hpq : p < q) (hp : p < p') (hkq : kq = kk + 1 ∨ mn = 0) (hQ : isQl z (isE (ZL R.S) (ZF R.S) (R.K.1 9) (R.K.1 0) n kk) (ZL R.S) (ZF R.S) (R.K.1 9) (R.K.1 0) li si mn p' q b b2) (hU : Unt R S p q) (hq : q ≤ R.T) : Rt (f_call R.K V S (some e)) (VaP R Γ c nv S (n + 1) kq e p q b b2) := by
  have hT := h.tb
  have ho : ownT (ZF R.S) e = some p := own_a hG (by decide) (by decide) (by omega)
  have c1 : ZF S e = xpC 3 p 0 (nI p) 0 0 .null li si mn := hF.trans hG
  have he1 := h.L he
  have hwr : ∀ wh : Int32, wh ≠ 0 → Rt (bnd (f_wrong R.K S (some e) wh (nI p)) fun S28 v29 => some (S28, v29)) (VaP R Γ c nv S (n + 1) kq e p q b b2) := fun wh hw => by
    refine Rt.bn (wrg_ hK hv (by omega) h he hG rfl ho (Nat.le_refl p) hpq (by omega) hw) (fun S3 r3 q3 => ?_)
    obtain ⟨x3, rfl, k1, k2⟩ := q3
    exact Rt.rt (VaP.bad k1 (by omega) k2)
  have h27 : Rt (f_call_27 R.K V S (some e)) (VaP R Γ c nv S (n + 1) kq e p q b b2) := by
    unfold f_call_27
    exact Rt.bd (oI_mk he1 c1 (v := nI p) rfl) (hwr 3 (by decide))
  unfold f_call
  refine Rt.bd (oI_mk he1 c1 (v := nI p) rfl) (Rt.bn (inm_ h (by omega)) (fun S2 r2 q2 => ?_))
  obtain ⟨rfl, q2⟩ := q2
  rcases q2 with rfl | ⟨i, hi, rfl⟩
  · exact Rt.ip (by decide) h27
  have hi70 := h.im.1
  obtain ⟨n1, n2, fs, mn2, na, g, n3, n4, n5, n6, n7, n8, n9, n10, n11⟩ := hI i hi
  have hw := h.L n1.1
  refine Rt.iq (nI_pos (by omega)) (Rt.bd (h.it hi n2) (Rt.bd (oI_mk hw n3 n4) (Rt.it (fun hk => ?_) (fun _ => h27))))
  refine Rt.bd (h.it hi n2) (Rt.bd (oI_mk hw n3 n5) (Rt.bd (oI_mk he1 c1 (v := nI mn) rfl) (Rt.it (fun hm => ?_) (fun _ => Rt.bd (oI_mk he1 c1 (v := nI p) rfl) (hwr 4 (by decide))))))
  obtain ⟨a1, a2, a3, a4⟩ := ixw_ (k := 4) (v := .int (nI i)) h he hG rfl ho (Nat.le_refl p) hpq c1 (Or.inl rfl)
  refine Rt.bd a1 ?_
  rcases n11 with ⟨w, _⟩ | ⟨w, _⟩ | ⟨_, ta, gv, lo, f, go, rl, m1, m2, m3, m4, m5, m6, m7, m8, m9, l1⟩
  · rw [hk] at w; exact absurd w (by decide)
  · rw [hk] at w; exact absurd w (by decide)
  have ce : ZF (UF S2 e (.inr (15, ([.int 3, .int (nI p), .int 0, .int (nI p), .int 0, .int 0, .long 0, .int 0, .null, li, si, .int (nI mn), .null, .null] : List Value).set 4 (.int (nI i))))) e = xtC 3 p 0 (nI p) (nI i) 0 0 0 .null li si mn .null .null := ZF_s
  have hU9 : Unt R (UF S2 e (.inr (15, ([.int 3, .int (nI p), .int 0, .int (nI p), .int 0, .int 0, .long 0, .int 0, .null, li, si, .int (nI mn), .null, .null] : List Value).set 4 (.int (nI i))))) p' q := fun a ha w => (ZF_n (fun e0 => by rw [e0] at w; exact own_n ho ⟨_, hG⟩ (Nat.le_refl p) (Nat.lt_succ_self p) (Or.inl (by omega)) w)).trans (hU a ha (Xo_mo w (by omega) (Nat.le_refl _)))
  show Rt (f_call_72 R.K V bigN (UF S2 e (.inr (15, ([.int 3, .int (nI p), .int 0, .int (nI p), .int 0, .int 0, .long 0, .int 0, .null, li, si, .int (nI mn), .null, .null] : List Value).set 4 (.int (nI i))))) (some e) (nI i) (nI 0)) _
  revert a2 a3 a4 ce hU9
  generalize UF S2 e (.inr (15, ([.int 3, .int (nI p), .int 0, .int (nI p), .int 0, .int 0, .long 0, .int 0, .null, li, si, .int (nI mn), .null, .null] : List Value).set 4 (.int (nI i)))) = S9
  intro a2 a3 a4 ce hU9
  -- the types of the parameters
  have hf : ∀ k : Nat, k < mn2 → f k = some ((f k).getD 0) := fun k hk => by obtain ⟨x, x1, _⟩ := m2.2.2 k hk; rw [x1]; rfl
  have hfn : ∀ {S1 : Sg} {p9 q9 : Nat}, VX R (Xo R p9 q9) S2 S1 → fnY R S1 i mn2 (fun k => (f k).getD 0) gv := fun {S1 p9 q9} v => fnY.vx v ⟨fs, ta, f, hi, hk, n1, n3, n5, n6, m1, m2, hf, m3⟩
  -- the end
  have h114 : ∀ (S1 : Sg) (c9 : Nat), TS R c9 nv S1 → c9 ≤ c + (q - p) → VX R (Xo R p q) S2 S1 → VS S2 S1 → ZF S1 e = xtC 3 p 0 (nI p) (nI i) 0 0 0 .null li si mn .null .null → (∀ S6 : Sg, VX R (Xo R p q) S1 S6 → (∀ a : Nat, a ≠ e → ZF S6 a = ZF S1 a) → Zi S1 3 = 0 → mn = mn2 ∧ ∃ (f9 : Nat → Option Nat) (g9 : Nat → Int32), lsX R S6 (xE R S6 Γ n kk) z li si mn p' q b b2 (fun k => (f k).getD 0) f9 g9) → Rt (f_call_114 R.K V S1 (some e) (nI i)) (VaP R Γ c nv S2 (n + 1) kq e p q b b2) := fun S1 c9 t1 hc9 v1 s1 e1 g1 => by
    have hws : ZF S1 (R.ws i) = .inr (16, fs) := (v1.nx n1).trans n3
    unfold f_call_114
    refine Rt.bd (t1.it hi n2) (Rt.bd (oR_mk (v := some gv) (t1.L n1.1) hws m3) ?_)
    refine ftl_ t1 hc9 v1 s1 (m4.im v1.2.2.2.1).ty he hG rfl ho (Nat.le_refl p) hpq e1 (fun S6 v6 f6 e6 z6 => ?_)
    obtain ⟨q0, f9, g9, g2⟩ := g1 S6 v6 f6 z6
    subst q0
    have v26 := v1.tr v6 (fun _ w => w)
    exact ⟨⟨he, ⟨p, ho, Nat.le_refl _, hpq⟩, hpq⟩, m4.im v26.2.2.2.1, Or.inr (Or.inr (Or.inr (Or.inr (Or.inr (Or.inl ⟨i, mn, p', z, li, si, f9, g9, _, e6, hp, hfn v26, kk, hkq, g2⟩)))))⟩
  rcases LQ_of hQ with ⟨w1, w2, w3⟩ | ⟨la, sa, cap, q0, f9, g9, ps, bs, xs, pf, sf, w1, w2, hL⟩
  · obtain ⟨m9, hb, _⟩ : ∃ m9 : Nat, bigN = m9 + 1 ∧ 0 ≤ m9 := bigN_gt (by omega)
    rw [hb]
    unfold f_call_72
    refine Rt.bd (oI_mk (a2.L he) ce (v := nI mn) rfl) (Rt.ip (by rw [w1]; decide) (h114 S9 c a2 (by omega) a3 a4 ce (fun S6 _ _ _ => ⟨?_, fun _ => none, fun _ => 0, Or.inl ⟨w1, w2, w3⟩⟩)))
    have hm' := (nI_eq (a := mn2) (b := mn) (by omega) (by omega)).mp hm
    omega
  · subst w1 w2
    have hmq : mn ≤ q := by have := hL.1; omega
    have hmm : mn2 = mn := (nI_eq (a := mn2) (b := mn) (by omega) (by omega)).mp hm
    subst hmm
    have hloop : ∀ (m k : Nat) {S1 : Sg}, mn2 < k + m → k ≤ mn2 → TS R (c + (ps k - p')) nv S1 → VX R (Xo R p' (ps k)) S9 S1 → VS S9 S1 → (Zi S1 3 = 0 → ∀ j : Nat, j < k → xE R S1 Γ n kk (xs j) (pf j) (ps (j + 1)) (bs j) (bs (j + 1)) ((fun k => (f k).getD 0) j)) → Rt (f_call_72 R.K V m S1 (some e) (nI i) (nI k)) (VaP R Γ c nv S2 (n + 1) kq e p q b b2) := by
      intro m
      induction m with
      | zero => intro k S1 a b; omega
      | succ m ih =>
        intro k S1 a hkm t1 v1 s1 g1
        have hpk : ps k ≤ q := by have := hL.2.2.2 k mn2 hkm (Nat.le_refl _); have := hL.1.2.2.2.2.2.2.1; have := hL.2.1.2.1; omega
        have e1 : ZF S1 e = xtC 3 p 0 (nI p) (nI i) 0 0 0 .null (.ref la) (.ref sa) mn2 .null .null := (v1.2.1 e he (own_n ho ⟨_, hG⟩ (Nat.le_refl p) (Nat.lt_succ_self p) (Or.inl (by omega)))).trans ce
        have v1' : VX R (Xo R p q) S2 S1 := a3.tr v1 (fun a w => Xo_mo w (by omega) hpk)
        have s1' := a4.tr s1
        have hend : (Zi S1 3 = 0 → k = mn2) → Rt (f_call_114 R.K V S1 (some e) (nI i)) (VaP R Γ c nv S2 (n + 1) kq e p q b b2) := fun hz => h114 S1 _ t1 (by omega) v1' s1' e1 (fun S6 v6 f6 z6 => ⟨rfl, f9, g9, LQ.en hL t1 v6 (by omega) hq (fun j hj => xE_vx v6 (g1 z6 j (by rw [hz z6]; exact hj)) (fun a _ ⟨t, x1, x2, x3⟩ _ => f6 a (fun w => by
          rw [w, ho] at x1; cases x1
          have := (hL.2.2.1 j hj).2.1; have := hL.2.2.2 0 j (by omega) (by omega); have := hL.2.1.1
          omega)))⟩)
        unfold f_call_72
        refine Rt.bd (oI_mk (t1.L he) e1 (v := nI mn2) rfl) (Rt.it (fun w => hend (fun _ => ?_)) (fun w => ?_))
        · have := (nI_leI (a := mn2) (b := k) (by omega) (by omega)).mp w; omega
        have hlt : k < mn2 := by
          rcases Nat.lt_or_ge k mn2 with z | z
          · exact z
          · exact absurd (nI_le z (by omega)) w
        refine Rt.ok (fun z1 => ?_) (fun z1 => hend (fun w => absurd w z1))
        have hla := t1.rq hL.1.1 hL.1.2.2.1 (hL.2.2.1 0 (by omega)).1
        have hws : ZF S1 (R.ws i) = .inr (16, fs) := (v1'.nx n1).trans n3
        refine Rt.bd (oR_mk (t1.L he) e1 (v := some la) rfl) (Rt.bd (aQ_j (t1.L hL.1.1) hla (show k < cap by have := hL.1.2.2.2.2.2.1; omega) (by omega)) ?_)
        rw [(hL.2.2.1 k hlt).1]
        refine Rt.bd (t1.it hi n2) (Rt.bd (oR_mk (v := some ta) (t1.L n1.1) hws m1) (Rt.bd (aQ_n (t1.L m2.1.1) ((v1'.nx m2.1).trans m2.2.1) (show k < 13 by omega) (by decide)) ?_))
        refine Rt.bn (LQ.st hL hV hlt (c := c) (by omega) hq (SCO.vx v1' s1' hS) (hI.vx v1') hU9 t1 v1 s1 (g1 z1)) (fun S3 _ q3 => ?_)
        obtain ⟨t3, v3, s3, _, _, g3⟩ := q3
        rw [nI_1]
        refine ih (k + 1) (by omega) (by omega) t3 v3 s3 (fun z3 j hj => ?_)
        obtain ⟨t, y1, y2⟩ := g3 z3
        have := y2 j hj
        dsimp only at this
        by_cases e0 : j = k
        · rw [if_pos e0] at this
          subst e0
          have : t = (f j).getD 0 := by rw [y1]; rfl
          dsimp only
          rw [← this]; assumption
        · rw [if_neg e0] at this; exact this
    exact hloop bigN 0 (by show mn2 < 0 + 1000000000000; omega) (Nat.zero_le _) (a2.up (by omega)) VX.rf VS.rf (fun _ j hj => absurd hj (by omega))
end CAL
