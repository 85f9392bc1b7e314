section LY21
variable {R : yR} {S0 Sb S S1 S2 : Sg} {P P1 P2 Pi h h0 h1 h2 L L1 L2 Lb Li z n z2 n2 : Nat} {Γ Γ0 Γ1 Γ2 : List Nat} {E : eV} {s s1 s2 sA sB yD : List tE} {α : Type} {a m i mn : Nat} {pe : Nat → Nat} {V : Sg → Option Nat → Option (Sg × Unit)}
theorem wl_0t {t : Nat} : wl ((0, t, 0) :: s) = wl s + 1 := wl_n (by show ¬ ((0 : Nat) = 8 ∨ (0 : Nat) = 4 ∨ (0 : Nat) = 5 ∨ (0 : Nat) = 6); decide)
theorem wkS_t {t u : Nat} (ht : t = 1 ∨ t = 2) (hu : u = 1 ∨ u = 2) : wkS ((0, t, 0) :: s) ((0, u, 0) :: s) := ⟨Or.inr ⟨u, by omega, rfl, Or.inl ⟨t, by omega, rfl⟩⟩, wkS.rf⟩
theorem CHI.rm (q : CHI R S0 S1 S E P1 Pi h1 Γ1 L1 Li sA s1 yD a mn i pe z n) (r : RMl R S1 z2 n2) {z3 n3 : Nat} (hz : z + z3 ≤ z2) (hn : n + n3 ≤ n2) : RMl R S z3 n3 := ⟨by have := q.1.2.2.2.1; have := r.1; omega, by have := q.1.2.2.2.2.1; have := r.2; omega⟩
/-- the members of a chain are laid, then its jumps set -/
theorem gch17 {e la sa cap p o x k2 tf : Nat} {f : Nat → Option Nat} {g : Nat → Int32} {tx ps bs : Nat → Nat} (hN : EN R S0 E) (hV : GvV R S0 E Γ V n) (he : e ∈ ZL R.S) (hF : ZF S0 e = xtC 8 p 0 0 0 0 0 0 (.ref o) (.ref la) (.ref sa) mn (.ref x) .null) (hX : CHx R S0 Γ n k2 1 la sa mn cap f g tx ps bs) (hm1 : 1 ≤ mn) (htx : ∀ i : Nat, i < mn → ∃ t : Nat, (t = 1 ∨ t = 2) ∧ resE S0 (tx i) = [(0, t, 0)]) (htf : tf = 1 ∨ tf = 2) (hA : ALv S0 E Γ s) (hh : wl s + 1 + 11 * k2 + 1 ≤ 177) (hT : ps mn ≤ R.T) (hP : P1 + (ps mn - ps 0) < 24000) (hl : L1 + bs mn ≤ 160 + bs 0) (hr : RMl R S1 (5 * (ps mn - ps 0)) (40 * (ps mn - ps 0))) : ∀ (m i : Nat) (S : Sg), mn < i + m → i ≤ mn → ChS R S0 S1 E P1 Γ2 L1 s sA ((0, tf, 0) :: s) a mn ps bs S i → Rt (f_giveChain_17 R.K V m S (some e) (some a) (nI i)) (fun S2 _ => ∃ P2 L2 : Nat, GV R S0 S1 S2 E P1 P2 h (wl s + 1) Γ0 Γ2 L1 L2 sA ((0, tf, 0) :: s) False (5 * (ps mn - ps 0)) (40 * (ps mn - ps 0)) ∧ P1 < P2 ∧ P2 + ps 0 ≤ P1 + ps mn ∧ L2 + bs 0 ≤ L1 + bs mn)
  | 0, i, S, hmm, hi, _ => by omega
  | m + 1, i, S, hmm, hi, hC => by
    have hL := hN.1
    have hT3 : R.T ≤ 3001 := hN.2.2.2.2.2.2.2.2.2.1
    obtain ⟨hla, hl1, hsa, hcap, hel, hmo⟩ := hX
    obtain ⟨hsa, hl2⟩ := hsa rfl
    have hmn : mn ≤ 3001 := by have := (hmo 0 mn (Nat.zero_le _) (Nat.le_refl _)).1; omega
    obtain ⟨Pi, Li, t, z, n', pe, ht, q, k0, q1, q2, q3, q4, q5⟩ := hC
    have hLC := q.1.1
    unfold f_giveChain_17
    refine Rt.bd (hLC.1.vi (by decide) (by decide) (oI_mk (hL e he) hF (v := nI mn) rfl)) (Rt.it (fun w => ?_) (fun w => ?_))
    · have hmi : i = mn := by have := (nI_leI (a := mn) (b := i) (by omega) (by omega)).mp w; omega
      subst hmi
      have hPi : P1 < Pi := by omega
      obtain ⟨c1, ⟨fe, c2, c3⟩, c4, c5, c6⟩ := q
      have g1 := (c1.wk wkS.rf (wkS_t ht htf) hPi).mo (D2 := fun k => k ≠ 0 ∧ ∃ j : Nat, 0 ≤ j ∧ pe j = k) (z2 := 5 * (ps i - ps 0)) (n2 := 40 * (ps i - ps 0)) (fun k => ⟨fun ⟨w1, j, _, w2⟩ => ⟨w1, j, w2⟩, fun ⟨w1, j, w2⟩ => ⟨w1, j, Nat.zero_le _, w2⟩⟩) id id (by omega) (by omega)
      refine (gch148 (h := h) (Γ := Γ0) (fe := fe) wkS.rf hmn he hL hF (by omega) c6 bigN 0 S (by unfold bigN; omega) (Nat.zero_le _) g1 ⟨c2.1, c2.2.1⟩ c3 (fun j hj => ?_) k0).mo (fun S2 _ g => ⟨Pi, Li, g, hPi, q2, q5⟩)
      obtain ⟨j1, j2, j3, j4, j5⟩ := c5 j hj
      exact ⟨j1, j2, j3, fun _ => j4, j5⟩
    · have hmi : i < mn := by
        by_cases w2 : i < mn
        · exact w2
        · exact absurd (nI_le (a := mn) (b := i) (by omega) (by omega)) w
      obtain ⟨y, p', s', f1, f2, f3, f4, f5⟩ := hel i hmi
      obtain ⟨f5, f6⟩ := f5 rfl
      have hlt := xE_lt f3
      have hbc := xE_bc f3
      have m1 := hmo (i + 1) mn (by omega) (Nat.le_refl _)
      have m2 := hmo 0 i (Nat.zero_le _) (by omega)
      obtain ⟨t2, ht2, hre⟩ := htx i hmi
      have rSa : ∀ S' : Sg, LX S0 S' → oR S' 15 (some e) 10 = some (some sa) ∧ aI R.K S' (some sa) (nI i) = some (nI s') := fun S' hx => by
        obtain ⟨r1, r2⟩ := hx.ro (hL sa hsa) hl2
        exact ⟨hx.vr (by decide) (by decide) (oR_mk (hL e he) hF (v := some sa) rfl), by rw [aI_j r1 r2 (by omega) (by omega), f4]⟩
      have rLa : ∀ S' : Sg, LX S0 S' → oR S' 15 (some e) 9 = some (some la) ∧ aQ R.K 9 S' (some la) (nI i) = some (some y) := fun S' hx => by
        obtain ⟨r1, r2⟩ := hx.ro (hL la hla) hl1
        exact ⟨hx.vr (by decide) (by decide) (oR_mk (hL e he) hF (v := some la) rfl), by rw [aQ_j r1 r2 (by omega) (by omega), f1]⟩
      have h140 : ∀ S' : Sg, ChS R S0 S1 E P1 Γ2 L1 s sA ((0, tf, 0) :: s) a mn ps bs S' (i + 1) → Rt (f_giveChain_140 R.K V ((f_giveChain_17 R.K V m)) S' (some e) (some a) (nI i)) (fun S2 _ => ∃ P2 L2 : Nat, GV R S0 S1 S2 E P1 P2 h (wl s + 1) Γ0 Γ2 L1 L2 sA ((0, tf, 0) :: s) False (5 * (ps mn - ps 0)) (40 * (ps mn - ps 0)) ∧ P1 < P2 ∧ P2 + ps 0 ≤ P1 + ps mn ∧ L2 + bs 0 ≤ L1 + bs mn) := fun S' c' => by
        unfold f_giveChain_140
        rw [nI_1]
        exact gch17 hN hV he hF ⟨hla, hl1, fun _ => ⟨hsa, hl2⟩, hcap, hel, hmo⟩ hm1 htx htf hA hh hT hP hl hr m (i + 1) S' (by omega) (by omega) c'
      have h69 : ∀ K : Nat, (K = 18 ∨ K = 19) → Rt (f_giveChain_69 R.K V ((f_giveChain_17 R.K V m)) S (some e) (some a) (nI i) (nI K) (nI i) (some a)) (fun S2 _ => ∃ P2 L2 : Nat, GV R S0 S1 S2 E P1 P2 h (wl s + 1) Γ0 Γ2 L1 L2 sA ((0, tf, 0) :: s) False (5 * (ps mn - ps 0)) (40 * (ps mn - ps 0)) ∧ P1 < P2 ∧ P2 + ps 0 ≤ P1 + ps mn ∧ L2 + bs 0 ≤ L1 + bs mn) := fun K hK => by
        unfold f_giveChain_69
        refine Rt.bd (rSa S hLC.1).1 (Rt.bd (rSa S hLC.1).2 ?_)
        refine pnt_ (Lb := Li) (Sb := S) (z := 0) (n := 0) (by omega) hLC LZ.rf (Nat.le_refl _) (by omega) (by omega) UsK.rf (fun S2 p2 e2 => ?_)
        obtain ⟨c1, ⟨fe, c2, c3⟩, c4⟩ := id q
        obtain ⟨d1, d2⟩ := e2.ob c2.1 c2.2.1
        refine Rt.bd (bI_n d1 d2 hmi (by omega)) ?_
        have e48 : Zi (UF S2 a (.inl (R.K.1 0, mn, .inl (upd fe i (nI Pi))))) 48 - 1 = nI (wl s) := by
          show Zi S2 48 - 1 = _
          rw [p2.1.2.2.1]; exact nI_pred _
        rw [e48]
        refine Rt.bd (v := Ui (UF S2 a (.inl (R.K.1 0, mn, .inl (upd fe i (nI Pi))))) 48 (nI (wl s))) rfl ?_
        have cq := CHI.jn (pp := s') hK ht (fun u hu => wkS_t hu htf) hmi k0 q p2 (by omega) (by omega) d2
        have k1 : K0 (Ui (UF S2 a (.inl (R.K.1 0, mn, .inl (upd fe i (nI Pi))))) 48 (nI (wl s))) (Pi + 1) := K0.st (S := S) (S2 := S2) k0 p2.2.1 (Nat.le_succ _)
        generalize Ui (UF S2 a (.inl (R.K.1 0, mn, .inl (upd fe i (nI Pi))))) 48 (nI (wl s)) = S3 at cq k1
        refine Rt.bd (rLa S3 cq.1.1.1).1 (Rt.bd (rLa S3 cq.1.1.1).2 ?_)
        refine Rt.bn (hV k2 y p' (ps (i + 1)) (bs i) (bs (i + 1)) (tx i) f3 S3 (Pi + 1) (wl s) Γ2 Li s cq.1.1 k1 hA rfl (by omega) (by omega) (by omega) (by omega) (cq.rm hr (by omega) (by omega))) (fun S4 _ t4 => ?_)
        obtain ⟨P4, L4, g4, b1, b2, b3⟩ := t4
        rw [hre] at g4
        have c5 := (cq.tr (GVo.of g4))
        have hw4 : wl ([(0, t2, 0)] ++ s) = wl s + 1 := wl_0t
        rw [hw4] at c5
        exact h140 S4 ⟨P4, L4, t2, _, _, _, ht2, c5, k1.gvo (GVo.of (yD := s) (cD := False) g4), Or.inr (by have := cq.1.2.2.2.2.2.1; omega), by omega, by omega, by omega, by omega⟩
      refine Rt.bd (rSa S hLC.1).1 (Rt.bd (rSa S hLC.1).2 (Rt.bd (rI_n (show s' < rlen 5 from by show s' < 3002; omega) (by decide)) ?_))
      have h52 : ∀ x4 : Int32, Rt (f_giveChain_52 R.K V ((f_giveChain_17 R.K V m)) S (some e) (some a) (nI i) x4) (fun S2 _ => ∃ P2 L2 : Nat, GV R S0 S1 S2 E P1 P2 h (wl s + 1) Γ0 Γ2 L1 L2 sA ((0, tf, 0) :: s) False (5 * (ps mn - ps 0)) (40 * (ps mn - ps 0)) ∧ P1 < P2 ∧ P2 + ps 0 ≤ P1 + ps mn ∧ L2 + bs 0 ≤ L1 + bs mn) := fun x4 => by
        unfold f_giveChain_52
        exact Rt.it (fun _ => h69 18 (Or.inl rfl)) (fun _ => h69 19 (Or.inr rfl))
      refine Rt.it (fun _ => h52 _) (fun _ => Rt.it (fun _ => h52 _) (fun _ => ?_))
      refine Rt.bd (rLa S hLC.1).1 (Rt.bd (rLa S hLC.1).2 ?_)
      refine Rt.bn (hV k2 y p' (ps (i + 1)) (bs i) (bs (i + 1)) (tx i) f3 S Pi (wl s + 1) Γ2 Li ((0, t, 0) :: s) hLC k0 (hA.mo (fun e he => List.mem_cons_of_mem _ he) (nT_c (pnE_k (by decide)))) wl_0t (by omega) (by omega) (by omega) (by omega) (q.rm hr (by omega) (by omega))) (fun S4 _ t4 => ?_)
      obtain ⟨P4, L4, g4, b1, b2, b3⟩ := t4
      rw [hre] at g4
      refine Rt.bd (rSa S4 g4.1.1).1 (Rt.bd (rSa S4 g4.1.1).2 ?_)
      refine pnt_ (Lb := L4) (Sb := S4) (z := 0) (n := 0) (by omega) g4.1 LZ.rf (Nat.le_refl _) (by omega) (by omega) UsK.rf (fun S5 p5 e5 => ?_)
      refine p5.wI (by omega) (by decide) (fun S6 p6 e6 => ?_)
      have hw4 : wl ([(0, t2, 0)] ++ (0, t, 0) :: s) = wl s + 1 + 1 := by
        show wl ((0, t2, 0) :: (0, t, 0) :: s) = _
        rw [wl_0t, wl_0t]
      have e48 : Zi S6 48 - 1 = nI (wl s + 1) := by rw [p6.1.2.2.1, hw4]; exact nI_pred _
      refine p6.hh e48 (fun S7 p7 e7 => ?_)
      have g7 : GV R S0 S4 S7 E P4 (P4 + 1) h (wl s + 1) Γ0 Γ2 L4 L4 ([(0, t2, 0)] ++ (0, t, 0) :: s) ((0, 1, 0) :: s) False 0 0 := gvp (K := 4) (pp := s') (by decide) p7 ⟨rfl, rfl, rfl, rfl, rfl, rfl, rfl, rfl, rfl⟩ (by omega) (by omega) (tP_4 rfl ⟨iD0_0, t2, t, 1, s, ht2, ht, Or.inl rfl, rfl, rfl, wkS.rf⟩)
      have c5 := (q.tr (GVo.of g4)).tr (GVo.of g7)
      exact h140 S7 ⟨P4 + 1, L4, 1, _, _, pe, Or.inl rfl, c5.mo (Nat.le_succ i), (k0.gvo (GVo.of (yD := s) (cD := False) g4)).gvo (GVo.of (yD := s) (cD := False) g7), Or.inr (by have := q.1.2.2.2.2.2.1; omega), by omega, by omega, by omega, by omega⟩
/-- a list of exps, as the laying goes through it -/
theorem lsX_ch {z k2 p q b c : Nat} {li si : Value} {f : Nat → Option Nat} {g : Nat → Int32} {tx : Nat → Nat} (h : lsX R S0 (xE R S0 Γ n k2) z li si mn p q b c tx f g) (hm : 1 ≤ mn) : ∃ (la sa cap : Nat) (ps bs : Nat → Nat), li = .ref la ∧ si = .ref sa ∧ CHx R S0 Γ n k2 z la sa mn cap f g tx ps bs ∧ p ≤ ps 0 ∧ ps mn ≤ q ∧ bs 0 = b ∧ bs mn = c := by
  rcases h with ⟨h, _⟩ | ⟨la, sa, cap, q0, h1, h2, h3, h4, h5, h6, h7, h8, h9, ps, bs, c1, c2, c3, c4, c5⟩
  · omega
  · refine ⟨la, sa, cap, ps, bs, h1, h2, ⟨h3.1, h5, fun e => ⟨h4.1, h6 e⟩, h8, fun i hi => ?_, fun i j hij hj => ?_⟩, c1, by omega, c3, c4⟩
    · obtain ⟨y, p', s', d1, d2, d3, d4, d5⟩ := c5 i hi
      exact ⟨y, p', s', d1, d2, d3, d4, fun e => d5.resolve_left (fun w => by omega)⟩
    · have : ∀ d : Nat, i + d ≤ mn → ps i + d ≤ ps (i + d) ∧ bs i ≤ bs (i + d) := by
        intro d
        induction d with
        | zero => exact fun _ => ⟨Nat.le_refl _, Nat.le_refl _⟩
        | succ d ih =>
          intro hd
          obtain ⟨y, p', s', d1, d2, d3, _⟩ := c5 (i + d) (by omega)
          have := xE_lt d3
          have := xE_bc d3
          have := ih (by omega)
          show ps i + (d + 1) ≤ ps (i + d + 1) ∧ bs i ≤ bs (i + d + 1)
          exact ⟨by omega, by omega⟩
      have w := this (j - i) (by omega)
      rw [show i + (j - i) = j by omega] at w
      exact w
/-- a chain -/
theorem gchn {kk e o q1 b1 p q b c xt : Nat} {li si : Value} {f : Nat → Option Nat} {g : Nat → Int32} {tx tt : Nat → Nat} (hN : EN R S0 E) (hV : GvV R S0 E Γ V n) (he : e ∈ ZL R.S) (hF : ZF S0 e = xtC 8 p 0 0 0 0 0 0 (.ref o) li si mn (.ref xt) .null) (hm1 : 1 ≤ mn) (hx : xE R S0 Γ n kk o p q1 b b1 (tt 0)) (hls : lsK R S0 kk (xE R S0 Γ n) 1 li si mn q1 q b1 c tx f g) (htt : tt mn = xt) (hty : ∀ i : Nat, i < mn → (isTy S0 (tt i) 0 0 none ∨ isTy S0 (tt i) 1 0 none) ∧ (isTy S0 (tx i) 0 0 none ∨ isTy S0 (tx i) 1 0 none) ∧ (isTy S0 (tt (i + 1)) 0 0 none ∨ isTy S0 (tt (i + 1)) 1 0 none)) (cc : LC R S0 S P h Γ2 L) (k0 : K0 S P) (hA : ALv S0 E Γ s) (hs : wl s = h) (hh : h + 11 * kk + 1 ≤ 177) (hq : q ≤ R.T) (hP : P + (q - p) < 24000) (hl : L + c ≤ 160 + b) (hr : RMl R S (5 * (q - p)) (40 * (q - p))) : Rt (f_giveChain R.K V S (some e)) (fun S2 _ => GvQ R S0 S E P h Γ2 L s xt p q b c S2) := by
  have hL := hN.1
  have hY := hN.2.1
  have hlt := xE_lt hx
  have hbc := xE_bc hx
  obtain ⟨k2, hk2, hls⟩ := hls
  have hk2 : kk = k2 + 1 := by omega
  obtain ⟨la, sa, cap, ps, bs, rfl, rfl, hX, hp0, hpn, hb0, hbn⟩ := lsX_ch hls hm1
  have hmo := hX.2.2.2.2.2 0 mn (Nat.zero_le _) (Nat.le_refl _)
  obtain ⟨t0, ht0, hr0⟩ := resE_ib hY (hty 0 (by omega)).1
  obtain ⟨tf, htf, hrf⟩ := resE_ib hY (hty (mn - 1) (by omega)).2.2
  rw [show mn - 1 + 1 = mn by omega, htt] at hrf
  unfold f_giveChain
  refine Rt.bd (cc.1.vr (by decide) (by decide) (oR_mk (hL e he) hF (v := some o) rfl)) ?_
  refine Rt.bn (hV kk o p q1 b b1 (tt 0) hx S P h Γ2 L s cc k0 hA hs hh (by omega) (by omega) (by omega) (hr.le (by omega) (by omega))) (fun S1 _ t1 => ?_)
  obtain ⟨P1, L1, g1, d1, d2, d3⟩ := t1
  rw [hr0] at g1
  have hw1 : wl ([(0, t0, 0)] ++ s) = wl s + 1 := wl_0t
  rw [hw1] at g1
  have r1 : RMl R S1 (5 * (ps mn - ps 0)) (40 * (ps mn - ps 0)) := g1.rm hr (by omega) (by omega)
  refine Rt.bd (g1.1.1.vi (by decide) (by decide) (oI_mk (hL e he) hF (v := nI mn) rfl)) ?_
  refine new_pv (E := E) (s := (0, t0, 0) :: s) (yD := (0, tf, 0) :: s) (cD := False) (m := mn) g1.1 (by omega) (by have := r1.1; omega) (by have := r1.2; omega) (fun S2 c2 g2 v2 _ => ?_)
  have hno : Zz S1 ∉ ZL S1 := fun w => Nat.lt_irrefl _ (g1.1.hz _ w)
  have k2' : K0 S2 P1 := (k0.gvo (GVo.of (yD := s) (cD := False) g1)).gvo g2
  refine (gch17 (h := h) (Γ0 := Γ2) (S1 := S1) (sA := (0, t0, 0) :: s) (tf := tf) hN hV he hF hX hm1 (fun i hi => resE_ib hY (hty i hi).2.1) htf hA (by omega) (by omega) (by omega) (by omega) r1 bigN 0 S2 (by unfold bigN; omega) (Nat.zero_le _) ⟨P1, L1, t0, 1, mn, fun _ => 0, ht0, ⟨g2.mo (fun k => ⟨fun ⟨w1, j, w2⟩ => absurd w2.symm w1, fun w => w.elim⟩) id id (Nat.le_refl _) (Nat.le_refl _), ⟨_, v2, fun j hj => rfl⟩, hno, fun j w => absurd rfl w, fun j k _ w => absurd rfl w⟩, k2', Or.inl rfl, Nat.le_refl _, by omega, by omega, Nat.le_refl _⟩).mo (fun S3 _ t3 => ?_)
  obtain ⟨P3, L3, g3, b1, b2, b3⟩ := t3
  refine ⟨P3, L3, ?_, by omega, by omega, by omega⟩
  have hw3 : wl (resE S0 xt ++ s) = wl s + 1 := by rw [hrf]; exact wl_0t
  rw [hw3, hrf]
  exact g1.tr g3 (fun w => w.elim) (by omega) (by omega)
end LY21
