section LY25
variable {R : yR} {S0 Sb S S1 S2 : Sg} {P h h0 hc L Lb z n : Nat} {Γ Γ0 Γ2 : List Nat} {E : eV} {s s2 : List tE} {V : Sg → Option Nat → Option (Sg × Unit)}
theorem lsK_c {kk zz mn p q b c : Nat} {li si : Value} {f : Nat → Option Nat} {g : Nat → Int32} {tx : Nat → Nat} (h : lsK R S0 kk (xE R S0 Γ n) zz li si mn p q b c tx f g) : ∃ (k2 la sa cap : Nat) (ps bs : Nat → Nat), (mn = 0 ∨ (kk = k2 + 1 ∧ li = .ref la ∧ si = .ref sa ∧ CHx R S0 Γ n k2 zz la sa mn cap f g tx ps bs)) ∧ p ≤ ps 0 ∧ ps 0 ≤ ps mn ∧ ps mn ≤ q ∧ bs 0 = b ∧ bs mn = c := by
  obtain ⟨k2, e, h⟩ := h
  by_cases hm : mn = 0
  · have hh : b = c ∧ p ≤ q := by
      rcases h with ⟨_, h2, h3⟩ | ⟨la, sa, cap, q0, h1, h2, h3, h4, h5, h6, h7, _⟩
      · exact ⟨h2, h3⟩
      · omega
    exact ⟨k2, 0, 0, 0, fun _ => p, fun _ => b, Or.inl hm, Nat.le_refl _, Nat.le_refl _, hh.2, rfl, hh.1⟩
  · obtain ⟨la, sa, cap, ps, bs, h1, h2, h3, h4, h5, h6, h7⟩ := lsX_ch h (by omega)
    exact ⟨k2, la, sa, cap, ps, bs, Or.inr ⟨by omega, h1, h2, h3⟩, h4, by have := (h3.2.2.2.2.2 0 mn (Nat.zero_le _) (Nat.le_refl _)).1; omega, h5, h6, h7⟩
/-- a list of exps and what is made of them -/
theorem glst {kk e i mn p p' q b c xt zz : Nat} {kd nm vr sg : Int32} {li si : Value} {f : Nat → Option Nat} {g : Nat → Int32} {tx : Nat → Nat} (hN : EN R S0 E) (hV : GvV R S0 E Γ V n) (he : e ∈ ZL R.S) (hF : ZF S0 e = xtC kd p sg nm (nI i) vr 0 0 .null li si mn (.ref xt) .null) (hpp : p < p') (hm : mn ≤ 12) (htx : ∀ k : Nat, k < mn → rTy S0 (tx k)) (hls : lsK R S0 kk (xE R S0 Γ n) zz li si mn p' q b c tx f g) (cc : LC R S0 S P h Γ2 L) (k0 : K0 S P) (hA : ALv S0 E Γ s) (hs : wl s = h) (hh : h + 11 * kk + 1 ≤ 177) (hmh : h + mn ≤ 177) (hq : q ≤ R.T) (hpq : p < q) (hP : P + (q - p) < 24000) (hl : L + c ≤ 160 + b) (hr : RMl R S (5 * (q - p)) (40 * (q - p)))
  (hend : ∀ (S1 : Sg) (P1 L1 : Nat), LC R S0 S1 P1 (wl s + mn) Γ2 L1 → P1 < 24000 → RMl R S1 2 24 → Rt (if kd = 3 then (f_giveList_60 R.K V S1 (some e) (nI (wl s)) 10) else ((oI S1 15 (some e) 0).bind fun v3 =>
    if v3 = 5 then (f_giveList_60 R.K V S1 (some e) (nI (wl s)) 8) else (f_giveList_60 R.K V S1 (some e) (nI (wl s)) 9))) (fun S2 _ => GV R S0 S1 S2 E P1 (P1 + 1) h (wl (resE S0 xt ++ s)) Γ2 Γ2 L1 L1 (stL S0 tx mn s) (resE S0 xt ++ s) False 2 24)) : Rt (f_giveList R.K V S (some e)) (fun S2 _ => GvQ R S0 S E P h Γ2 L s xt p q b c S2) := by
  obtain ⟨k2, la, sa, cap, ps, bs, hli, p1, p2, p3, b1, b2⟩ := lsK_c hls
  unfold f_giveList
  rw [cc.2.2.1, ← hs]
  have g00 : GV R S0 S S E P P h (wl s + 0) Γ2 Γ2 L L s (stL S0 tx 0 s) False (5 * (ps 0 - ps 0)) (40 * (ps 0 - ps 0)) := ⟨by rw [Nat.add_zero, hs]; exact cc, LZ.rf, tsg.nil wkS.rf, by omega, by omega, Nat.le_refl _, Nat.le_refl _, RFx.rf⟩
  refine gls7 (zz := zz) (la := la) (sa := sa) (cap := cap) (k2 := k2) (f := f) (g := g) (ps := ps) (bs := bs) (kd := kd) hN hV he hF rfl rfl hm (hli.imp id (fun ⟨w1, w2, w3, w4⟩ => ⟨by rw [w2]; rfl, w4⟩)) htx hA (hli.imp id (fun ⟨w1, _⟩ => by omega)) (by omega) (by omega) (by omega) (hr.le (by omega) (by omega)) k0 (fun S1 P1 L1 g1 c1 c2 k1 => ?_) bigN 0 S P L (by unfold bigN; omega) (Nat.zero_le _) g00 (Nat.le_refl _) (Nat.le_refl _) k0
  refine (hend S1 P1 L1 g1.1 (by omega) (g1.rm hr (by omega) (by omega))).mo (fun S2 _ g2 => ?_)
  exact ⟨P1 + 1, L1, g1.tr g2 (fun w => w.elim) (by omega) (by omega), by have := g1.2.2.2.2.2.1; omega, by omega, by omega⟩
theorem roI_o {a n k : Nat} {c : ClassId} {f : Nat → Int32} (h : ZF S a = .inl (c, n, .inl f)) : roI S a k = f k := by
  unfold roI; rw [h]
/-- the arguments of a typed call -/
theorem cla_of {kk e i mn p p' q b c xt zz : Nat} {li si : Value} {f : Nat → Option Nat} {g : Nat → Int32} {tx : Nat → Nat} (hN : EN R S0 E) (he : e ∈ ZL R.S) (hF : ZF S0 e = xtC 3 p 0 (nI p) (nI i) 0 0 0 .null li si mn (.ref xt) .null) (hfn : fnY R S0 i mn tx xt) (hls : lsK R S0 kk (xE R S0 Γ n) zz li si mn p' q b c tx f g) : ∃ (go : Nat → Int32) (rl : Int32), CLa R S0 e i mn tx go rl ∧ (∀ k : Nat, E.lf i k = go k) ∧ E.rl i = rl := by
  have hL := hN.1
  have hY := hN.2.1
  obtain ⟨d1, d2, d3, d4, d5⟩ := hfn.hd
  obtain ⟨fs, ta, f', h1, h2, h3, h4, h5, h6, _⟩ := hfn
  obtain ⟨n1, n2, fs2, mn2, na, g2, n3, n4, n5, n6, n7, n8, n9, n10, n11⟩ := hN.2.2.2.1 i h1
  obtain rfl : fs2 = fs := by rw [h4] at n3; cases n3; rfl
  have hK : ∃ (lo : Nat) (go : Nat → Int32) (rl : Int32), fs2[7]? = some (.int rl) ∧ fs2[13]? = some (.ref lo) ∧ nXo R lo ∧ ZF S0 lo = .inl (R.K.1 0, 13, .inl go) := by
    rcases n11 with ⟨w, _⟩ | ⟨w, _⟩ | ⟨_, ta, gv, lo, f, go, rl, _, _, _, _, w1, _, w2, w3, w4, _⟩
    · rw [h2] at w; exact absurd w (by decide)
    · rw [h2] at w; exact absurd w (by decide)
    · exact ⟨lo, go, rl, w1, w2, w3, w4⟩
  obtain ⟨lo, go, rl, w1, w2, w3, w4⟩ := hK
  have h11 : Zq S0 11 = Zq R.S 11 := hN.2.2.2.2.2.2.2.2.1.1
  refine ⟨go, rl, ⟨he, ⟨_, hF, rfl, rfl, ?_⟩, d2, by have := hY.2.1; omega, by rw [h11]; exact n2, hL _ n1.1, fs2, lo, n3, w1, w2, hL _ w3.1, w4⟩, fun k => ?_, ?_⟩
  · obtain ⟨k2, la, sa, cap, ps, bs, hli, _⟩ := lsK_c hls
    refine hli.imp id (fun ⟨e1, e2, e3, e4⟩ => ⟨la, cap, f, by rw [e2]; rfl, e4.1, e4.2.1, e4.2.2.2.1, fun k hk => ?_⟩)
    obtain ⟨y, p', s', y1, y2, y3, _⟩ := e4.2.2.2.2.1 k hk
    obtain ⟨ys, z1, z2, z3⟩ := xE_t12 y3
    exact ⟨y, ys, y1, z1, z2, z3, (d4 k hk).2⟩
  · rw [hN.2.2.2.2.2.2.1]
    show (match rN (obF S0 (R.ws i)) 13 with
      | some a => roI S0 a k
      | none => 0) = _
    rw [obF_o n3, rN_r w2]
    exact roI_o w4
  · rw [hN.2.2.2.2.2.2.2.1]
    show iN (obF S0 (R.ws i)) 7 = rl
    rw [obF_o n3]; unfold iN; rw [w1]
/-- an exp is laid -/
theorem give_ (hN : EN R S0 E) : ∀ (n d : Nat), n ≤ d → n ≤ 1000 → GvV R S0 E Γ (f_give R.K d) n
  | 0, _, _, _ => fun kk e p q b c x h => h.elim
  | n + 1, 0, hd, _ => by omega
  | n + 1, d + 1, hd, hn => fun kk e p q b c x hx S P h Γ2 L s cc k0 hA hs hh hq hP hl hr => by
    have hV : GvV R S0 E Γ (f_give R.K d) n := give_ hN n d (by omega) (by omega)
    have hL := hN.1
    have hY := hN.2.1
    have hEy := hN.2.2.2.2.1
    have hlt := xE_lt hx
    have hxt := xE_ty hx
    have he := hx.1.1
    unfold f_give
    rcases xE_isp (K := R.K) hN.2.2.1 hL cc.1 hx hn with ⟨w, v, π, mu, mv, kd, ix, o, k1, k2, k3, k4, k5⟩ | ⟨w, k⟩
    · refine Rt.be w (Rt.iq (by decide) ?_)
      refine Rt.bn (rea_ hL hY hEy hA hs (by omega) cc k1 hn k2 hq k4 k5 (by omega) (hr.le (by omega) (by omega))) (fun S1 _ g => Rt.rt ?_)
      have hrt : rTy S0 x := (xPl_c k1).2.2.1
      refine ⟨P + 1, L, ?_, by omega, by omega, by omega⟩
      rw [resE_r hY hrt, show wl ([eT (abT S0 x)] ++ s) = h + 1 from by rw [← hs]; exact wl_eT]
      exact ⟨g.1, g.2.1, g.2.2.1, by have := g.2.2.2.1; omega, by have := g.2.2.2.2.1; omega, g.2.2.2.2.2⟩
    · refine Rt.be w (Rt.ip rfl ?_)
      have rK : ∀ {kd : Int32} {gs : List Value}, ZF S0 e = .inr (15, gs) → gs[0]? = some (.int kd) → oI S 15 (some e) 0 = some kd := fun h1 h2 => cc.1.vi (by decide) (by decide) (oI_mk (hL e he) h1 h2)
      rcases k with ⟨kd, num, k1, k2, k3, k4⟩ | ⟨kd, o, p', q', y, k1, k2, k3, k4, k5⟩ | ⟨mu, o, p', v, y, m2, w2, π, k1, k2, k3, k4, k5, k6, k7⟩ | ⟨o, q1, b1, mn, li, si, f, g, tx, tt, k1, k2, k3, k4, k5, k6⟩ | ⟨i, mn, p', zz, li, si, f, g, tx, k1, k2, k3, k4⟩ | ⟨i, mn, p', li, si, f, g, tx, fo, k1, k2, k3, k4, k5, k6, k7⟩ | ⟨i, v, mn, p', zz, li, si, f, g, tx, k1, k2, k3, k4, k5⟩
      · refine Rt.bd (rK k2 rfl) ?_
        obtain ⟨t, ht, hre⟩ := resE_ib hY k4
        have fin : ∀ S2 : Sg, GV R S0 S S2 E P (P + 1) h (h + 1) Γ2 Γ2 L L s ((0, t, 0) :: s) False 0 0 → GvQ R S0 S E P h Γ2 L s x p q b c S2 := fun S2 g => by
          refine ⟨P + 1, L, ?_, by omega, by omega, by omega⟩
          rw [hre, show wl ([(0, t, 0)] ++ s) = h + 1 from by rw [← hs]; exact wl_0t]
          exact ⟨g.1, g.2.1, g.2.2.1, by have := g.2.2.2.1; omega, by have := g.2.2.2.2.1; omega, g.2.2.2.2.2⟩
        rcases k1 with e0 | e0 | e0 <;> subst e0
        · exact Rt.ip rfl ((num_ (q := q) hN hA.1 hs (by omega) cc he k2 (by omega) ht (by omega)).mo (fun S2 _ g => fin S2 g))
        · exact Rt.iq (by decide) (Rt.ip rfl ((num_ (q := q) hN hA.1 hs (by omega) cc he k2 (by omega) ht (by omega)).mo (fun S2 _ g => fin S2 g)))
        · refine Rt.iq (by decide) (Rt.iq (by decide) (Rt.iq (by decide) (Rt.iq (by decide) (Rt.iq (by decide) (Rt.iq (by decide) (Rt.iq (by decide) (Rt.iq (by decide) (Rt.iq (by decide) (Rt.iq (by decide) (Rt.iq (by decide) (Rt.iq (by decide) (Rt.iq (by decide) (Rt.iq (by decide) (Rt.iq (by decide) (Rt.ip rfl ?_)))))))))))))))
          refine Rt.bd (cc.1.vi (by decide) (by decide) (oI_mk (hL e he) k2 (v := nI p) rfl)) ?_
          exact (inp_ (e := e) (V := f_give R.K d) hA.1 hs (by omega) cc (by omega) ht (by omega)).mo (fun S2 _ g => fin S2 g)
      · refine Rt.bd (rK k1 rfl) ?_
        rcases k5 with ⟨e0, e1, e2⟩ | ⟨e0, e1, _⟩ | ⟨e0, e1, e2⟩ | ⟨e0, e1, e2⟩ | ⟨e0, e1, e2⟩ <;> subst e0
        · exact Rt.iq (by decide) (Rt.iq (by decide) (Rt.iq (by decide) (Rt.iq (by decide) (Rt.ip rfl (inn151 hN hV he k1 k2 k3 k4 (Or.inl ⟨e1, e2⟩) cc k0 hA hs hh hq hP hl hr)))))
        · exact Rt.iq (by decide) (Rt.iq (by decide) (Rt.iq (by decide) (Rt.iq (by decide) (Rt.iq (by decide) (Rt.iq (by decide) (Rt.iq (by decide) (Rt.ip rfl (inn151 hN hV he k1 k2 k3 k4 (Or.inr e1) cc k0 hA hs hh hq hP hl hr))))))))
        · exact Rt.iq (by decide) (Rt.iq (by decide) (Rt.iq (by decide) (Rt.iq (by decide) (Rt.iq (by decide) (Rt.iq (by decide) (Rt.iq (by decide) (Rt.iq (by decide) (Rt.iq (by decide) (Rt.ip rfl (gun_ hN hV he k1 k2 k3 k4 (Or.inl ⟨rfl, e1, e2⟩) cc k0 hA hs hh hq hP hl hr))))))))))
        · exact Rt.iq (by decide) (Rt.iq (by decide) (Rt.iq (by decide) (Rt.iq (by decide) (Rt.iq (by decide) (Rt.iq (by decide) (Rt.iq (by decide) (Rt.iq (by decide) (Rt.iq (by decide) (Rt.iq (by decide) (Rt.ip rfl (gun_ hN hV he k1 k2 k3 k4 (Or.inr ⟨rfl, e1, e2⟩) cc k0 hA hs hh hq hP hl hr)))))))))))
        · refine Rt.iq (by decide) (Rt.iq (by decide) (Rt.iq (by decide) (Rt.iq (by decide) (Rt.iq (by decide) (Rt.iq (by decide) (Rt.iq (by decide) (Rt.iq (by decide) (Rt.iq (by decide) (Rt.iq (by decide) (Rt.iq (by decide) (Rt.iq (by decide) (Rt.iq (by decide) (Rt.ip rfl ?_)))))))))))))
          obtain ⟨gs, z1, z2, z3⟩ := xE_t12 k4
          exact gbx_ hN hV he k1 ⟨gs, z1, z2, z3⟩ k2 k3 k4 e1 e2 cc k0 hA hs hh hq hP hl hr
      · refine Rt.bd (rK k1 rfl) ?_
        refine Rt.iq (by decide) (Rt.iq (by decide) (Rt.iq (by decide) (Rt.iq (by decide) (Rt.iq (by decide) (Rt.iq (by decide) (Rt.iq (by decide) (Rt.iq (by decide) (Rt.iq (by decide) (Rt.iq (by decide) (Rt.iq (by decide) (Rt.iq (by decide) (Rt.ip rfl ?_))))))))))))
        refine Rt.bn (len_ (t := x) hL hY hEy hA hs (by omega) cc he k1 k3 (by omega) k4 k5 hq (k7.imp (fun w => w.1) (fun w => ⟨w.1, w.2.2⟩)) (by omega) (by omega) (hr.le (by omega) (by omega))) (fun S1 _ g => ?_)
        unfold f_give_251
        refine Rt.rt ⟨P + 1, L + 1, ?_, by omega, by omega, by omega⟩
        have hre : resE S0 x = [(if mu = 0 then 1 else 2, abV S0 y, 0)] := by
          rcases k7 with ⟨e0, e1⟩ | ⟨e0, e1, _⟩
          · have hr6 : rTy S0 x := Or.inr ⟨6, y, e1, Or.inl rfl, k5⟩
            rw [resE_r hY hr6, if_pos e0]
            rcases hr6.nm hY with ⟨_, _, w, _⟩ | ⟨kd, u, w1, w2, w3, w4⟩
            · exact absurd rfl (w 6 0 _ e1).1
            · obtain ⟨rfl, _, eo⟩ := isTy_fn w1 e1
              cases eo
              rcases w4 with ⟨_, _, w⟩ | ⟨w, _⟩
              · rw [w]
              · exact absurd w (by decide)
          · have hr6 : rTy S0 x := Or.inr ⟨7, y, e1, Or.inr rfl, k5⟩
            rw [resE_r hY hr6, if_neg (by rw [e0]; decide)]
            rcases hr6.nm hY with ⟨_, _, w, _⟩ | ⟨kd, u, w1, w2, w3, w4⟩
            · exact absurd rfl (w 7 0 _ e1).2
            · obtain ⟨rfl, _, eo⟩ := isTy_fn w1 e1
              cases eo
              rcases w4 with ⟨w, _⟩ | ⟨_, _, w⟩
              · exact absurd w (by decide)
              · rw [w]
        have hwl : wl (resE S0 x ++ s) = h + 1 := by
          rw [hre, ← hs]
          refine wl_n (fun w => ?_)
          have w : (if mu = 0 then 1 else 2) = 8 ∨ (if mu = 0 then 1 else 2) = 4 ∨ (if mu = 0 then 1 else 2) = 5 ∨ (if mu = 0 then 1 else 2) = 6 := w
          by_cases q : mu = 0
          · rw [if_pos q] at w; omega
          · rw [if_neg q] at w; omega
        rw [hwl, hre]
        exact ⟨g.1, g.2.1, g.2.2.1, by have := g.2.2.2.1; omega, by have := g.2.2.2.2.1; omega, g.2.2.2.2.2⟩
      · refine Rt.bd (rK k1 rfl) ?_
        refine Rt.iq (by decide) (Rt.iq (by decide) (Rt.iq (by decide) (Rt.iq (by decide) (Rt.iq (by decide) (Rt.iq (by decide) (Rt.iq (by decide) (Rt.iq (by decide) (Rt.ip rfl ?_))))))))
        refine Rt.bn (gchn hN hV he k1 k2 k3 k4 k5 k6 cc k0 hA hs hh hq hP hl hr) (fun S1 _ g => ?_)
        unfold f_give_251
        exact Rt.rt g
      · refine Rt.bd (rK k1 rfl) ?_
        refine Rt.iq (by decide) (Rt.iq (by decide) (Rt.iq (by decide) (Rt.ip rfl ?_)))
        unfold f_give_246 f_give_251
        obtain ⟨d1, d2, d3, d4, d5⟩ := k3.hd
        obtain ⟨go, rl, hC, c1, c2⟩ := cla_of hN he k1 k3 k4
        have hmh : h + mn ≤ 177 := by
          obtain ⟨k2', _, _, _, _, _, hli, _⟩ := lsK_c k4
          rcases hli with w | ⟨w, _⟩ <;> omega
        refine Rt.bn (glst hN hV he k1 k2 d2 (fun k hk => (d4 k hk).2) k4 cc k0 hA hs hh hmh hq hlt hP hl hr (fun S1 P1 L1 a1 a2 a3 => Rt.ip rfl ?_)) (fun S1 _ g => Rt.rt g)
        exact cll_ hN hC k1 rfl rfl rfl rfl hxt (by rw [hN.2.2.2.2.2.1]; exact d3) (fun k hk => by rw [hN.2.2.2.2.2.1]; exact d4 k hk) (by rw [hN.2.2.2.2.2.1]; exact d5) (fun k _ => c1 k) c2 ⟨(by obtain ⟨_, _, _, _, q, _⟩ := k3; exact q), d1⟩ a1 hA.1 (by omega) a2 (by omega) a3
      · refine Rt.bd (rK k1 rfl) ?_
        refine Rt.iq (by decide) (Rt.iq (by decide) (Rt.iq (by decide) (Rt.iq (by decide) (Rt.iq (by decide) (Rt.ip rfl ?_)))))
        unfold f_give_246 f_give_251
        obtain ⟨y1, y2, y3, y4⟩ := k3.y hY
        have hm1 : 1 ≤ mn := by
          obtain ⟨fs, s1, s2, s3, s4, s5, s6⟩ := k3
          exact hN.2.2.2.2.2.2.2.2.2.2.1 i mn fs s1 (by rw [s2]; decide) s4 s5 s6
        obtain ⟨k2', la, sa, cap, ps, bs, hli, _⟩ := lsK_c k5
        obtain ⟨w1, w2, w3, w4⟩ := hli.resolve_left (by omega)
        have hit := hN.2.2.2.1 i y4
        have h11 : Zq S0 11 i = some (R.ws i) := by rw [hN.2.2.2.2.2.2.2.2.1.1]; exact hit.2.1
        refine Rt.bn (glst hN hV he k1 k2 y3 (fun k hk => Or.inl (by obtain ⟨_, _, _, _, _, _, _, _, _, _, _, _, _, _, _, w⟩ := (k6 k hk).2.1; exact w)) k5 cc k0 hA hs hh (by omega) hq hlt hP hl hr (fun S1 P1 L1 a1 a2 a3 => Rt.iq (by decide) ?_)) (fun S1 _ g => Rt.rt g)
        refine Rt.bd (a1.1.vi (by decide) (by decide) (oI_mk (hL e he) k1 (v := 5) rfl)) (Rt.ip rfl ?_)
        exact nst_ hN he k1 rfl rfl rfl rfl rfl (by rw [w3]; rfl) (w4.2.2.1 rfl).1 (w4.2.2.1 rfl).2 w4.2.2.2.1 hm1 k3 h11 k4 k6 k7 a1 (by omega) a2 (by omega) a3
      · refine Rt.bd (rK k1 rfl) ?_
        refine Rt.iq (by decide) (Rt.iq (by decide) (Rt.iq (by decide) (Rt.iq (by decide) (Rt.iq (by decide) (Rt.iq (by decide) (Rt.ip rfl ?_))))))
        unfold f_give_246 f_give_251
        obtain ⟨y1, y2, y3, y4, y5, y6⟩ := k3.y hY
        have hmh : h + mn ≤ 177 := by
          obtain ⟨k2', _, _, _, _, _, hli, _⟩ := lsK_c k5
          rcases hli with w | ⟨w, _⟩ <;> omega
        refine Rt.bn (glst hN hV he k1 k2 y5 (fun k hk => Or.inl (y6 k hk).2) k5 cc k0 hA hs hh hmh hq hlt hP hl hr (fun S1 P1 L1 a1 a2 a3 => Rt.iq (by decide) ?_)) (fun S1 _ g => Rt.rt g)
        refine Rt.bd (a1.1.vi (by decide) (by decide) (oI_mk (hL e he) k1 (v := 6) rfl)) (Rt.iq (by decide) ?_)
        exact nva_ hN he k1 rfl rfl rfl rfl rfl k3 k4 a1 hA.1 (by omega) a2 (by omega)
end LY25
