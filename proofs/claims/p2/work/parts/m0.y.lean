section LY24
variable {R : yR} {S0 Sb S S1 S2 : Sg} {P h h0 hc L Lb z n : Nat} {Γ Γ0 Γ2 : List Nat} {E : eV} {s s2 : List tE} {V : Sg → Option Nat → Option (Sg × Unit)}
theorem stY.y (hY : YK R S) {i mn : Nat} (h : stY R S i mn) : yK R S (4 + i) = 2 ∧ yP R S (4 + i) 0 = mn ∧ mn ≤ 12 ∧ i < R.im := by
  obtain ⟨fs, h1, h2, h3, h4, h5, h6⟩ := h
  have e4 : 4 + i - 4 = i := by omega
  exact ⟨by rw [yK_it hY h1, if_pos h2], by unfold yP; rw [e4, if_pos h2, if_pos rfl, obF_o h4, fN_i h5 (by omega)], h6, h1⟩
theorem arL_cg {b : Nat} {P Q : Nat → Bool} : ∀ {m : Nat}, (∀ k : Nat, k < m → P k = Q k) → arL b P m = arL b Q m
  | 0, _ => rfl
  | m + 1, h => by
    show arL b P m ++ (if P m then [40 + (b + m)] else []) = arL b Q m ++ (if Q m then [40 + (b + m)] else [])
    rw [arL_cg (fun k hk => h k (by omega)), h m (by omega)]
theorem dsl_eq {e e2 : Nat → tE} : ∀ {m : Nat}, (∀ k : Nat, k < m → e k = e2 k) → dsl e m = dsl e2 m
  | 0, _ => rfl
  | m + 1, h => by
    show e m :: dsl e m = e2 m :: dsl e2 m
    rw [dsl_eq (fun k hk => h k (by omega)), h m (by omega)]
theorem rAr.okA {o : Option Nat} {l : List Nat} (q : rAr R S o l) : okA R.K S o = true := by
  rcases q with ⟨rfl, _⟩ | ⟨a, f, rfl, q2, q3, _⟩
  · rfl
  · exact okA_mk q2 q3
/-- a row of ints that was just made goes into the point's rows -/
theorem lwN {r z2 n2 : Nat} {α : Type} {x : pRc} {v : Option Nat} {l : List Nat} {g : Sg → Option (Sg × α)} {Q : Sg → α → Prop} (hP : P < 24000) (hr : r = 36 ∨ r = 37 ∨ r = 42) (p : LPt R S0 Sb S P h Γ L Lb x z n) (w : NW S S1) (ha : rAr R S1 v l) (hn : ∀ a : Nat, v = some a → a ∉ ZL S) (h1 : Zz S1 ≤ Zz Sb + z2) (h2 : Zn S1 ≤ Zn Sb + n2) (k : ∀ S2 : Sg, LPt R S0 Sb S2 P h Γ L Lb (x.1, x.2.1, va_up x.2.2 r v) z2 n2 → SEq S1 S2 → LX S S2 → rAr R S2 v l → Rt (g S2) Q) : Rt ((wA R.K S1 r (nI P) v).bind g) Q := by
  have p1 := p.nw w h1 h2
  refine p1.wA hP (by omega) ha.okA ⟨by omega, fun a e hs => absurd (p.2.1.1.1 a hs).1 (hn a e)⟩ (fun S2 p2 e2 => k S2 p2 e2 (w.lx.tr e2.1) (ha.st e2.1))
/-- a call's point -/
theorem cll_ {e i mn p xt : Nat} {tx : Nat → Nat} {go : Nat → Int32} {rl : Int32} {gs : List Value} (hN : EN R S0 E) (hC : CLa R S0 e i mn tx go rl) (g1 : ZF S0 e = .inr (15, gs)) (g0 : gs[0]? = some (.int 3)) (gp : gs[1]? = some (.int (nI p))) (g5 : gs[5]? = some (.int 0)) (gx : gs[12]? = some (.ref xt)) (hxt : xTy S0 xt) (hd1 : (E.hd i).1 = mn) (hd2 : ∀ k : Nat, k < mn → (E.hd i).2.1 k = abT S0 (tx k) ∧ rTy S0 (tx k)) (hd3 : (E.hd i).2.2 = abT S0 xt) (hlf : ∀ k : Nat, k < mn → E.lf i k = go k) (hrl : E.rl i = rl) (h12 : R.ik i = 12 ∧ i < R.im) (c : LC R S0 S P hc Γ2 L) (hT : nT s) (hp : p < R.T) (hP : P < 24000) (hw : wl s + mn ≤ 177) (hr : RMl R S 2 24) : Rt (f_giveList_60 R.K V S (some e) (nI (wl s)) 10) (fun S2 _ => GV R S0 S S2 E P (P + 1) h (wl (resE S0 xt ++ s)) Γ0 Γ2 L L (stL S0 tx mn s) (resE S0 xt ++ s) False 2 24) := by
  have hL := hN.1
  have hY := hN.2.1
  obtain ⟨r1, r2⟩ := hr
  have hC2 := hC
  obtain ⟨he, ⟨gs', g1', g4, g11, _⟩, hm, hi, hq, hws, fs, lo, f1, f2, f3, f4, f5⟩ := hC2
  obtain rfl : gs' = gs := by rw [g1] at g1'; cases g1'; rfl
  have rI4 : ∀ {S' : Sg} {k : Nat} {v : Int32}, LX S0 S' → gs'[k]? = some (.int v) → oI S' 15 (some e) k = some v := fun hx hk => hx.vi (by decide) (by decide) (oI_mk (hL e he) g1 hk)
  have rR : ∀ {S' : Sg}, LX S0 S' → oR S' 15 (some e) 12 = some (some xt) := fun hx => hx.vr (by decide) (by decide) (oR_mk (hL e he) g1 (v := some xt) gx)
  unfold f_giveList_60
  refine Rt.bd (rI4 c.1 gp) ?_
  refine pnt_ (Lb := L) (Sb := S) (z := 0) (n := 0) hP c LZ.rf (Nat.le_refl _) (by omega) (by omega) UsK.rf (fun S1 p1 _ => ?_)
  refine Rt.bd (rI4 p1.1.1 g4) (p1.wI hP (by decide) (fun S2 p2 _ => ?_))
  refine Rt.bd (rI4 p2.1.1 g5) (p2.wI hP (by decide) (fun S3 p3 _ => ?_))
  refine Rt.bd (rI4 p3.1.1 g11) (p3.wL hP (fun S4 p4 _ => ?_))
  refine p4.hh rfl (fun S5 p5 _ => Rt.bd (rI4 p5.1.1 g0) (Rt.ip rfl ?_))
  have z5 := p5.2.2.2.1
  have n5 := p5.2.2.2.2.1
  refine Rt.bn (hld_ (life := -1) hL hY hC p5.1.1 p5.1.hz (by omega) (by omega) (by omega)) (fun S6 v6 t6 => ?_)
  obtain ⟨w6, a6, z6, n6, o6⟩ := t6
  refine lwN (z2 := 1) (n2 := 12) hP (Or.inr (Or.inl rfl)) p5 w6 a6 o6 (by omega) (by omega) (fun S7 p7 _ x7 a7 => ?_)
  have hq7 : rQ S7 11 (nI i) = some (some (R.ws i)) := by rw [rQ_n (show i < rlen 11 from hi) (by decide), p7.1.1.2.2.2.2.1 11 (fun w => by rcases w with w | w | w <;> omega), hq]
  obtain ⟨w1, fs2, w2, w3, w4⟩ := p7.1.1.it hws f1
  refine Rt.bd (rI4 p7.1.1 g4) (Rt.bd hq7 (Rt.bd (oI_mk w1 w2 (v := rl) ((w4 7 (by decide) (Or.inl (by decide))).trans f2)) ?_))
  have z7 := p7.2.2.2.1
  have n7 := p7.2.2.2.2.1
  refine Rt.bn (hld_ (life := rl) hL hY hC p7.1.1 p7.1.hz (by omega) (by omega) (by omega)) (fun S8 v8 t8 => ?_)
  obtain ⟨w8, a8, z8, n8, o8⟩ := t8
  refine lwN (z2 := 2) (n2 := 24) hP (Or.inl rfl) p7 w8 a8 o8 (by omega) (by omega) (fun S9 p9 _ x9 a9 => ?_)
  have a7' := a7.st x9
  unfold f_giveList_149
  refine Rt.bd (rI4 p9.1.1 g0) (Rt.iq (by decide) ?_)
  unfold f_giveList_168 f_giveList_220
  refine Rt.bd (rI4 p9.1.1 g0) (Rt.ip rfl (Rt.bd (rR p9.1.1) ?_))
  have hty : ∃ (kd ix : Int32) (o : Option Nat), isTy S0 xt kd ix o ∧ ((kd = 8 ∧ resE S0 xt = [] ∧ abT S0 xt = 0) ∨ (kd ≠ 8 ∧ rTy S0 xt)) := by
    rcases hxt with w | w
    · obtain ⟨kd, ix, o, a, b⟩ := w.ty
      exact ⟨kd, ix, o, a, Or.inr ⟨b, w⟩⟩
    · refine ⟨8, 0, none, w, Or.inl ⟨rfl, resE_8 hY w, ?_⟩⟩
      obtain ⟨t, _, _, _, a, b⟩ := abV_is hY w
      rw [b, if_neg (by decide), if_neg (by decide), a]; rfl
  obtain ⟨kd, ix, o, ty, hk⟩ := hty
  refine Rt.bn (gho_ hP (by omega) p9 ty) (fun S10 _ t10 => ?_)
  obtain ⟨x10, p10, e10, u1, u2, u3, u4⟩ := t10
  have hk0 : oI S10 20 (some xt) 0 = some kd := by
    obtain ⟨t, _, _, b3, b4⟩ := p10.1.1.ty ty
    exact oI_mk b3 b4 rfl
  refine Rt.bd (rR p10.1.1) (Rt.bd hk0 ?_)
  have hus : arL (wl s) (hlB S0 tx go (-1)) mn = arL (wl s) (fun q => decide (10000 ≤ (E.hd i).2.1 q ∧ (E.hd i).2.1 q < 30000)) mn := arL_cg (fun k hk => by
    unfold hlB
    rw [(hd2 k hk).1, decide_eq_true (show (-1 : Int32) < 0 by decide)]; simp)
  have hfr : arL (wl s) (hlB S0 tx go rl) mn = arL (wl s) (fun q => decide (10000 ≤ (E.hd i).2.1 q ∧ (E.hd i).2.1 q < 30000) && (decide (E.rl i < 0) || decide (E.lf i q = E.rl i))) mn := arL_cg (fun k hk => by
    unfold hlB
    rw [(hd2 k hk).1, hlf k hk, hrl])
  have hst : stL S0 tx mn s = dsl (fun q => eT ((E.hd i).2.1 q)) mn ++ s := by
    unfold stL
    rw [dsl_eq (e2 := fun q => eT ((E.hd i).2.1 q)) (fun k hk => by show eT (abT S0 (tx k)) = eT ((E.hd i).2.1 k); rw [(hd2 k hk).1])]
  have a9' := a9.st e10.1
  have a7'' := a7'.st e10.1
  -- the point
  have fin : ∀ (S11 : Sg) (h11 : Nat) (ho : Option Nat) (s3 : List tE), LPt R S0 S S11 P h11 Γ2 L L x10 2 24 → SEq S10 S11 → x10.1 34 = oNm ho → (((E.hd i).2.2 = 0 ∧ ho = none ∧ s3 = s) ∨ ((E.hd i).2.2 ≠ 0 ∧ (isRf (E.hd i).2.2 → ho = some (40 + wl s)) ∧ (¬ isRf (E.hd i).2.2 → ho = none) ∧ s3 = eT (E.hd i).2.2 :: s)) → GV R S0 S S11 E P (P + 1) h h11 Γ0 Γ2 L L (stL S0 tx mn s) s3 False 2 24 := fun S11 h11 ho s3 p11 e11 hho hcs => by
    have r10 : ∀ r : Nat, x10.2.2 r = _ := fun r => by rw [u1]
    refine ⟨p11.1, p11.2.1, tsg.one (i := (10, 0, none, (ho, none), (arL (wl s) (hlB S0 tx go (-1)) mn, arL (wl s) (hlB S0 tx go rl) mn), [P + 1], (i, 0, mn), [])) (rz_g (K := 10) rfl p11.2.2.1 (by decide) (by decide) ?_ ?_ (by show (0 : Nat) < 8; decide) hho ?_ ?_ ?_ ⟨p, ?_, hp⟩ (Or.inl ⟨?_, rfl⟩) (fun l e => by cases e) ?_ rfl (fun w => absurd w (by decide)) (fun _ => ⟨?_, ?_, ?_⟩) (fun w => absurd w (by decide)) (fun w => absurd w (by decide)) (fun w => absurd w (by decide)) (fun w => absurd w (by decide)) (fun _ => h12)) (fun l e => by cases e) (fun j hj => List.mem_singleton.mp hj) (by rw [stL_wl]; omega) (tP_10 rfl ⟨rfl, rfl, ⟨rfl, stL_nT hT mn⟩, s, hd1.symm, hm, hi, hst, fun q hq2 => ?_, hus, hfr, ?_⟩) (fun w => w.elim), p11.2.2.2.1, p11.2.2.2.2.1, Nat.le_succ _, Nat.le_refl _, p11.2.2.2.2.2.2⟩
    · rw [u2 27 (by decide)]; rfl
    · rw [u2 33 (by decide)]; rfl
    · rw [u2 35 (by decide)]; rfl
    · rw [u1]; exact a7''.st e11.1
    · rw [u1]; exact a9'.st e11.1
    · rw [u2 32 (by decide)]; rfl
    · rw [u1]; rfl
    · rw [u2 30 (by decide)]; rfl
    · rw [u2 28 (by decide)]; rfl
    · rw [u2 29 (by decide)]; rfl
    · rw [u1]; rfl
    · have hq3 : q < mn := hq2
      show (E.hd i).2.1 q ≠ 0
      rw [(hd2 q hq3).1]; exact (hd2 q hq3).2.n0 hY
    · rcases hcs with ⟨c1, c2, c3⟩ | ⟨c1, c2, c3, c4⟩
      · exact Or.inl ⟨c1, c2, rfl, by rw [c3]; exact wkS.rf⟩
      · exact Or.inr ⟨c1, c2, c3, rfl, by rw [c4]; exact wkS.rf⟩
  have hx34 : x10.1 34 = oNm (if kd = 6 ∨ kd = 7 then some (40 + wl s) else none) := by
    by_cases q : kd = 6 ∨ kd = 7
    · rw [if_pos q, u3 q]; rfl
    · rw [if_neg q, u4 q]; rfl
  rcases hk with ⟨k1, k2, k3⟩ | ⟨k1, k2⟩
  · rw [if_neg (by rw [k1]; decide)] at hx34
    refine Rt.ip k1 (Rt.rt ?_)
    rw [k2]
    exact fin S10 (wl s) none s p10 ⟨LX.rf, rfl, rfl, rfl, rfl, rfl⟩ hx34 (Or.inl ⟨hd3.trans k3, rfl, rfl⟩)
  · have e48 : Zi S10 48 + 1 = nI (wl s + 1) := by rw [p10.1.2.2.1]; exact nI_1 _
    refine Rt.iq k1 (p10.hh e48 (fun S11 p11 e11 => Rt.rt ?_))
    have hre := resE_r hY k2
    have hwl : wl (resE S0 xt ++ s) = wl s + 1 := wl_rs hY k2
    rw [hwl, hre]
    refine fin S11 (wl s + 1) _ _ p11 e11 hx34 (Or.inr ⟨by rw [hd3]; exact k2.n0 hY, fun q => ?_, fun q => ?_, by rw [hd3]; rfl⟩)
    · rw [if_pos ((k2.rf hY ty).mp (by rw [← hd3]; exact q))]
    · rw [if_neg (fun w => q (by rw [hd3]; exact (k2.rf hY ty).mpr w))]
/-- a new struct's point -/
theorem nst_ {e i mn p xt sa cap : Nat} {tx fo : Nat → Nat} {g : Nat → Int32} {gs : List Value} (hN : EN R S0 E) (he : e ∈ ZL R.S) (g1 : ZF S0 e = .inr (15, gs)) (g0 : gs[0]? = some (.int 5)) (gp : gs[1]? = some (.int (nI p))) (g4 : gs[4]? = some (.int (nI i))) (g5 : gs[5]? = some (.int 0)) (g11 : gs[11]? = some (.int (nI mn))) (gsa : gs[10]? = some (.ref sa)) (hsa : sa ∈ ZL R.S) (gF : ZF S0 sa = .inl (R.K.1 0, cap, .inl g)) (hcap : mn ≤ cap) (hm1 : 1 ≤ mn) (hst : stY R S0 i mn) (hq : Zq S0 11 i = some (R.ws i)) (hxt : isTy S0 xt 3 (nI i) none) (hfo : ∀ k : Nat, k < mn → fo k < mn ∧ fld R S0 i (fo k) (tx k) ∧ fnm R S0 i (fo k) (g k)) (hij : ∀ k j : Nat, k < mn → j < mn → fo k = fo j → k = j) (c : LC R S0 S P hc Γ2 L) (hp : p < R.T) (hP : P < 24000) (hw : wl s + mn ≤ 177) (hr : RMl R S 2 24) : Rt (f_giveList_60 R.K V S (some e) (nI (wl s)) 8) (fun S2 _ => GV R S0 S S2 E P (P + 1) h (wl (resE S0 xt ++ s)) Γ0 Γ2 L L (stL S0 tx mn s) (resE S0 xt ++ s) False 2 24) := by
  have hL := hN.1
  have hY := hN.2.1
  obtain ⟨r1, r2⟩ := hr
  obtain ⟨y1, y2, y3, y4⟩ := hst.y hY
  have hi : i < 70 := by have := hY.2.1; omega
  have rI4 : ∀ {S' : Sg} {k : Nat} {v : Int32}, LX S0 S' → gs[k]? = some (.int v) → oI S' 15 (some e) k = some v := fun hx hk => hx.vi (by decide) (by decide) (oI_mk (hL e he) g1 hk)
  unfold f_giveList_60
  refine Rt.bd (rI4 c.1 gp) ?_
  refine pnt_ (Lb := L) (Sb := S) (z := 0) (n := 0) hP c LZ.rf (Nat.le_refl _) (by omega) (by omega) UsK.rf (fun S1 p1 _ => ?_)
  refine Rt.bd (rI4 p1.1.1 g4) (p1.wI hP (by decide) (fun S2 p2 _ => ?_))
  refine Rt.bd (rI4 p2.1.1 g5) (p2.wI hP (by decide) (fun S3 p3 _ => ?_))
  refine Rt.bd (rI4 p3.1.1 g11) (p3.wL hP (fun S4 p4 _ => ?_))
  refine p4.hh rfl (fun S5 p5 _ => Rt.bd (rI4 p5.1.1 g0) (Rt.iq (by decide) ?_))
  have z5 := p5.2.2.2.1
  have n5 := p5.2.2.2.2.1
  unfold f_giveList_149
  refine Rt.bd (rI4 p5.1.1 g0) (Rt.ip rfl ?_)
  refine Rt.bn (ord_ (fo := fo) hL hN.2.2.2.2.2.2.2.2.2.2.2 he g1 g4 g11 gsa hsa gF hcap y3 hm1 hi hq (fun k hk => ⟨(hfo k hk).1, (hfo k hk).2.2⟩) p5.1.1 p5.1.hz (by omega) (by omega)) (fun S6 v6 t6 => ?_)
  obtain ⟨w6, a6, z6, n6, o6⟩ := t6
  refine lwN (z2 := 2) (n2 := 24) hP (Or.inr (Or.inr rfl)) p5 w6 a6 o6 (by omega) (by omega) (fun S7 p7 _ x7 a7 => ?_)
  unfold f_giveList_168 f_giveList_220
  refine Rt.bd (rI4 p7.1.1 g0) (Rt.iq (by decide) ?_)
  have e48 : Zi S7 48 + 1 = nI (wl s + 1) := by rw [p7.1.2.2.1]; exact nI_1 _
  refine p7.hh e48 (fun S8 p8 e8 => Rt.rt ?_)
  have hvt : vTy S0 xt := vTy.pl hxt (by decide)
  have eV : abT S0 xt = 4 + i := by rw [(hvt.nm hY).2.2, abV_it hY (Or.inl rfl) y4 hxt]
  have hre : resE S0 xt = [(0, 4 + i, 0)] := by
    rw [resE_r hY (Or.inl hvt), eV]
    unfold eT
    rw [if_neg (by omega)]
  have hwl : wl (resE S0 xt ++ s) = wl s + 1 := wl_rs hY (Or.inl hvt)
  rw [hwl, hre]
  have hEy := hN.2.2.2.2.1
  refine gv0 (K := 8) (pp := p) (n1 := i) (n2 := 0) (n3 := mn) (vs := (List.range mn).map fo) (by decide) (by decide) p8 ⟨rfl, rfl, rfl, rfl, rfl, rfl, rfl, rfl, rfl⟩ hp (fun w => absurd w (by decide)) (fun _ => ⟨rfl, rfl, rfl⟩) (fun _ => a7.st e8.1) (fun w => absurd w (by decide)) (fun w => absurd w (by decide)) (fun w => absurd w (by decide)) (by rw [stL_wl]; omega) (tP_8 rfl ⟨iD0_0, fo, s, ?_, hi, ?_, y3, rfl, fun q hq => (hfo q hq).1, hij, ?_, rfl, wkS.rf⟩)
  · rw [hEy]; exact y1
  · rw [hEy]; exact y2.symm
  · unfold stL
    refine congrArg (fun l => l ++ s) (dsl_eq (e2 := fun q => (0, E.y.2.2.2.2 (4 + i) 0 (fo q), 0)) (fun k hk => ?_))
    show eT (abT S0 (tx k)) = (0, E.y.2.2.2.2 (4 + i) 0 (fo k), 0)
    obtain ⟨q1, q2, q3, q4⟩ := (hfo k hk).2.1.y hY
    have hv : vTy S0 (tx k) := by obtain ⟨_, _, _, _, _, _, _, _, _, _, _, _, _, _, _, w⟩ := (hfo k hk).2.1; exact w
    rw [hEy]
    show _ = (0, yQ R S0 (4 + i) 0 (fo k), 0)
    have hn := hv.nm hY
    rw [q4, hn.2.2]
    unfold eT
    rw [if_neg (by omega)]
/-- a variant's point -/
theorem nva_ {e i v mn p xt : Nat} {tx : Nat → Nat} {gs : List Value} (hN : EN R S0 E) (he : e ∈ ZL R.S) (g1 : ZF S0 e = .inr (15, gs)) (g0 : gs[0]? = some (.int 6)) (gp : gs[1]? = some (.int (nI p))) (g4 : gs[4]? = some (.int (nI i))) (g5 : gs[5]? = some (.int (nI v))) (g11 : gs[11]? = some (.int (nI mn))) (hst : enY R S0 i v mn tx) (hxt : isTy S0 xt 4 (nI i) none) (c : LC R S0 S P hc Γ2 L) (hT : nT s) (hp : p < R.T) (hP : P < 24000) (hw : wl s + mn ≤ 177) : Rt (f_giveList_60 R.K V S (some e) (nI (wl s)) 9) (fun S2 _ => GV R S0 S S2 E P (P + 1) h (wl (resE S0 xt ++ s)) Γ0 Γ2 L L (stL S0 tx mn s) (resE S0 xt ++ s) False 2 24) := by
  have hL := hN.1
  have hY := hN.2.1
  obtain ⟨y1, y2, y3, y4, y5, y6⟩ := hst.y hY
  have him : i < R.im := by obtain ⟨_, _, _, _, _, _, w, _⟩ := hst; exact w
  have hi : i < 70 := by have := hY.2.1; omega
  have rI4 : ∀ {S' : Sg} {k : Nat} {v : Int32}, LX S0 S' → gs[k]? = some (.int v) → oI S' 15 (some e) k = some v := fun hx hk => hx.vi (by decide) (by decide) (oI_mk (hL e he) g1 hk)
  unfold f_giveList_60
  refine Rt.bd (rI4 c.1 gp) ?_
  refine pnt_ (Lb := L) (Sb := S) (z := 2) (n := 24) hP c LZ.rf (Nat.le_refl _) (by omega) (by omega) UsK.rf (fun S1 p1 _ => ?_)
  refine Rt.bd (rI4 p1.1.1 g4) (p1.wI hP (by decide) (fun S2 p2 _ => ?_))
  refine Rt.bd (rI4 p2.1.1 g5) (p2.wI hP (by decide) (fun S3 p3 _ => ?_))
  refine Rt.bd (rI4 p3.1.1 g11) (p3.wL hP (fun S4 p4 _ => ?_))
  refine p4.hh rfl (fun S5 p5 _ => Rt.bd (rI4 p5.1.1 g0) (Rt.iq (by decide) ?_))
  unfold f_giveList_149
  refine Rt.bd (rI4 p5.1.1 g0) (Rt.iq (by decide) ?_)
  unfold f_giveList_168 f_giveList_220
  refine Rt.bd (rI4 p5.1.1 g0) (Rt.iq (by decide) ?_)
  have e48 : Zi S5 48 + 1 = nI (wl s + 1) := by rw [p5.1.2.2.1]; exact nI_1 _
  refine p5.hh e48 (fun S8 p8 e8 => Rt.rt ?_)
  have hvt : vTy S0 xt := vTy.pl hxt (by decide)
  have eV : abT S0 xt = 4 + i := by rw [(hvt.nm hY).2.2, abV_it hY (Or.inr rfl) him hxt]
  have hre : resE S0 xt = [(0, 4 + i, 0)] := by
    rw [resE_r hY (Or.inl hvt), eV]
    unfold eT
    rw [if_neg (by omega)]
  have hwl : wl (resE S0 xt ++ s) = wl s + 1 := wl_rs hY (Or.inl hvt)
  rw [hwl, hre]
  have hEy := hN.2.2.2.2.1
  refine gv0 (K := 9) (pp := p) (n1 := i) (n2 := v) (n3 := mn) (vs := []) (by decide) (by decide) p8 ⟨rfl, rfl, rfl, rfl, rfl, rfl, rfl, rfl, rfl⟩ hp (fun w => absurd w (by decide)) (fun _ => ⟨rfl, rfl, rfl⟩) (fun w => absurd w (by decide)) (fun w => absurd w (by decide)) (fun w => absurd w (by decide)) (fun w => absurd w (by decide)) (by rw [stL_wl]; omega) (tP_9 rfl ⟨⟨iD0_0, stL_nT hT mn⟩, s, ?_, hi, ?_, ?_, y5, ?_, rfl, wkS.rf⟩)
  · rw [hEy]; exact y1
  · rw [hEy]; show v < (yT R S0).2.2.1 (4 + i); show v < fN (obF S0 (R.ws (4 + i - 4))) 3; rw [show 4 + i - 4 = i by omega]; exact y2
  · rw [hEy]; exact y4.symm
  · unfold stL
    refine congrArg (fun l => l ++ s) (dsl_eq (e2 := fun q => (0, E.y.2.2.2.2 (4 + i) v q, 0)) (fun k hk => ?_))
    show eT (abT S0 (tx k)) = (0, E.y.2.2.2.2 (4 + i) v k, 0)
    rw [hEy]
    show _ = (0, yQ R S0 (4 + i) v k, 0)
    have hn := (y6 k hk).2.nm hY
    rw [(y6 k hk).1, hn.2.2]
    unfold eT
    rw [if_neg (by omega)]
end LY24
