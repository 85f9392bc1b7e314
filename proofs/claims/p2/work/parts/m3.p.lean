section PS41
variable {R : yR} {S0 Sl S S2 : Sg} {g : Nat → Int32} {k t d T x : Nat} {V : qV} {fl l h c : List Nat} {v : Int64}
/-- dropValue, but for structs -/
theorem drV (hL : LFS R S0 g) (hx : LX S0 Sl) (ih : drH R S0 Sl g k) (hv : vL (yT R S0) (szN R S0) (nMS S) k T V v l h) (hr : rTy S0 x) (eT : abT S0 x = T) (h2 : (yT R S0).1 T ≠ 2) (e : RNx Sl S) (hq : wq S) (hf : FLs S fl t) (hd : Zi S 81 = nI d) (hc : cvN [] l fl t) (h9 : d + 2 * l.length ≤ 90000) : Rt (f_dropValue R.K S (some x) v) (fun S2 _ => drN R.K (103 * l.length) (DPo [] l h fl t d S) S2) := by
  have hy := nYk_of hL
  subst eT
  have htm : ∀ S3 : Sg, RNx Sl S3 → tmS S3 ≤ 2000 := fun S3 e3 => by
    have : tmS S3 = tmS S0 := by
      unfold tmS
      rw [e3.2.2.2.2.2.2.2 19 (by decide) (by decide), hx.2.1 19 (by decide) (by decide) (by decide) ⟨by decide, by decide⟩]
    rw [this]; exact hL.1.1
  unfold f_dropValue
  rcases hv with ⟨y3, m, w, cs, ls, hs, v1, v2, rfl, v4, v5, v6, v7, rfl, rfl, v10⟩ | ⟨y4, m, f, c, L, H, v1, rfl, v3, v4, v5, v6, v7, v8, rfl, rfl, v11⟩ | ⟨y3, y4, v1, rfl, rfl⟩
  · -- an enum
    obtain ⟨i, vr, pa, ot, f, a1, a2, a3, a4, a5, a6, a7, a8, a9⟩ := vwE hL hx e hr y3 v2
    have hlen : (m :: (ftN cs ((yT R S0).2.2.2.1 (abT S0 x) w) ++ ftN ls ((yT R S0).2.2.2.1 (abT S0 x) w))).length = 1 + (ftN cs ((yT R S0).2.2.2.1 (abT S0 x) w)).length + (ftN ls ((yT R S0).2.2.2.1 (abT S0 x) w)).length := by
      rw [List.length_cons, List.length_append]; omega
    have hcn : ∀ a : Nat, cnN a (m :: (ftN cs ((yT R S0).2.2.2.1 (abT S0 x) w) ++ ftN ls ((yT R S0).2.2.2.1 (abT S0 x) w))) = (if m = a then 1 else 0) + (cnN a (ftN cs ((yT R S0).2.2.2.1 (abT S0 x) w)) + cnN a (ftN ls ((yT R S0).2.2.2.1 (abT S0 x) w))) := fun a => by
      show (if m = a then 1 else 0) + cnN a (_ ++ _) = _
      rw [cnN_app]
    have h16 : (ftN cs ((yT R S0).2.2.2.1 (abT S0 x) w)).length ≤ 16 := by
      have g1 := (hy.2.2.2 (abT S0 x) w y3 v2).2.2
      rw [ftN_len, psN_cg (w2 := fun j => zN R S0 ((yT R S0).2.2.2.2 (abT S0 x) w j)) (fun j hj => (v10 j hj).len hy)]
      exact g1
    have e12 : yP R S0 (abT S0 x) w = (yT R S0).2.2.2.1 (abT S0 x) w := rfl
    rw [e12] at a5 a7 a8 a9
    have a9' : ∀ k : Nat, k < (yT R S0).2.2.2.1 (abT S0 x) w → ∃ z : Nat, f k = some z ∧ vTy S0 z ∧ abT S0 z = (yT R S0).2.2.2.2 (abT S0 x) w k := a9
    clear a9 e12
    generalize (yT R S0).2.2.2.1 (abT S0 x) w = mk at *
    rw [hlen]
    rw [hlen] at h9
    have hm0 := hc m
    rw [hcn m, if_pos rfl] at hm0
    have hmt : 1 ≤ m ∧ m ≤ t := hm0.2 (by omega)
    rw [a1]
    refine Rt.bd rfl (Rt.iq (by decide) (Rt.bd rfl (Rt.iq (by decide) (Rt.bd rfl (Rt.ip rfl (Rt.bd a2 (Rt.bd a3 (Rt.bd a4 ?_))))))))
    rw [nL_t]
    refine Rt.be (S := S) (r := nI w) (by unfold f_variantOf_; rw [rJ_n (show m < rlen 61 from v4.2) (by decide)]; show some (S, vrW (Zl S 61 m)) = _; rw [show vrW (Zl S 61 m) = nI w from v6]) (Rt.bd (a5 S e).1 (Rt.bn (ltr_ (w := 3) (o := none) hd (by omega) (fun y hy => by cases hy) (htm S e)) (fun S1 _ ⟨k1, k2, k3⟩ => ?_)))
    have e1 : RNx Sl S1 := e.tr k1.1.rn
    refine Rt.bd (a5 S1 e1).2.1 (Rt.bd (a5 S1 e1).2.2 (Rt.be (S := S1) (r := nI (hdN (ftN cs mk))) (by unfold f_kidOf; rw [rJ_n (show m < rlen 61 from v4.2) (by decide), show Zl S1 61 = Zl S 61 from congrArg (fun x : nM => x.1) k1.nm]; show some (S1, kdW (Zl S 61 m)) = _; rw [show kdW (Zl S 61 m) = nI (hdN (ftN cs mk)) from v5]) ?_))
    have hcv1 : cvN (ftN cs mk) (ftN ls mk) fl t := fun a => by
      have q := hc a
      rw [hcn a] at q
      have q0 : cnN a [] = 0 := rfl
      exact ⟨by omega, fun w => q.2 (by omega)⟩
    refine Rt.bn (drG (fr := 1) (f := f) (cs := cs) (ls := ls) (hs := hs) (ρ := 101) (cap := 12) (N := 101 * (ftN cs mk).length + 103 * (ftN ls mk).length + mk * 1) hL hx ih e1 k2 a8 ⟨a7, by decide⟩ (k1.wq hq) (k1.fl hf) (fun j hj => by rw [k1.nm]; exact v10 j hj) a9' (by rw [k1.x3]; exact v7) hcv1 (Or.inr rfl) (by omega) (by omega) (fun j _ => by have := (hy.1 ((yT R S0).2.2.2.2 (abT S0 x) w j)).2.2.2.2; omega) (Nat.le_refl _)) (fun S29 _ k29 => ?_)
    unfold f_dropValue_181
    refine Rt.rt ?_
    refine (k29.tr (N2 := 1) (P2 := DPo [] (m :: (ftN cs mk ++ ftN ls mk)) (ftN hs mk) fl t d S) (fun S3 fl3 ⟨p1, p2, p3, p4, p5, p6, p7⟩ => ?_)).mo (by omega) (fun _ _ w => w)
    refine (dAn (K := R.K) (m := m) p2 (by omega) (p1.wk k3 (by omega)) p4 p3 hmt.1 hmt.2 (fun w => ?_)).mo (Nat.le_refl _) (fun S4 fl4 ⟨f1, f2, f3, f4, f5⟩ => ⟨?_, f2, f3, fun a => ?_, fun a ha => (List.not_mem_nil ha).elim, fun q hq => ?_, f5⟩)
    · have := cnN_mem.mp w
      rw [p5 m] at this
      omega
    · refine (k1.do.tr (p1.mo (fun a w => Or.inr (List.mem_cons_of_mem m (List.mem_append.mpr w))) (fun _ w => w) (by omega))).tr (f1.mo (fun a w => Or.inr (by rw [w]; exact List.mem_cons_self ..)) (fun _ w => w.elim) (Nat.le_refl _))
    · rw [f4, hcn a]
      show (if m = a then 1 else 0) + cnN a fl3 = _
      rw [p5 a]; omega
    · rw [f1.2.2.2.2.2.2.2.2.2.1 q (fun w => w)]; exact p7 q hq
  · -- a box
    obtain ⟨u, a1, a2, a3, a4⟩ := vwB hL hx e hr y4
    have eo : (yT R S0).2.1 (abT S0 x) = abT S0 u := a4.symm
    rw [eo] at v6 v7 v11 ⊢
    have hlen : (m :: (c ++ L)).length = 1 + c.length + L.length := by
      rw [List.length_cons, List.length_append]; omega
    have hcn : ∀ a : Nat, cnN a (m :: (c ++ L)) = (if m = a then 1 else 0) + (cnN a c + cnN a L) := fun a => by
      show (if m = a then 1 else 0) + cnN a (_ ++ _) = _
      rw [cnN_app]
    have hcl : c.length = zN R S0 (abT S0 u) := v11.len hy
    have h16 := hy.1 (abT S0 u)
    rw [hlen]
    rw [hlen] at h9
    have hm0 := hc m
    rw [hcn m, if_pos rfl] at hm0
    have hmt : 1 ≤ m ∧ m ≤ t := hm0.2 (by omega)
    obtain ⟨kd, ix, ou, qu, _⟩ := (show rTy S0 u from Or.inl a3).ty
    have hT : ∀ S3 : Sg, RNx Sl S3 → ∀ y : Nat, some u = some y → ∃ (kd ix : Int32) (w : Option Nat), isTy S3 y kd ix w := fun S3 e3 y hy => by
      cases hy; exact ⟨kd, ix, ou, e3.ty (hx.ty qu)⟩
    rw [a1]
    refine Rt.bd rfl (Rt.iq (by decide) (Rt.bd rfl (Rt.iq (by decide) (Rt.bd rfl (Rt.iq (by decide) (Rt.bd rfl (Rt.ip rfl ?_)))))))
    rw [nL_t]
    refine Rt.bn (ltr_ (w := 2) (o := none) hd (by omega) (fun y hy => by cases hy) (htm S e)) (fun S1 _ ⟨k1, k2, k3⟩ => ?_)
    have e1 : RNx Sl S1 := e.tr k1.1.rn
    have kid : ∀ S3 : Sg, nMS S3 = nMS S → f_kidOf R.K S3 (nI m) = some (S3, nI (hdN c)) := fun S3 n3 => by
      unfold f_kidOf; rw [rJ_n (show m < rlen 61 from v3.2) (by decide), show Zl S3 61 = Zl S 61 from congrArg (fun x : nM => x.1) n3]; show some (S3, kdW (Zl S 61 m)) = _; rw [show kdW (Zl S 61 m) = nI (hdN c) from v4]
    refine Rt.bd (a2 S1 e1) (Rt.be (kid S1 k1.nm) (Rt.bn (ltr_ (w := 1) (o := some u) k2 (by omega) (hT S1 e1) (htm S1 e1)) (fun S5 _ ⟨l1, l2, l3⟩ => ?_)))
    have e5 : RNx Sl S5 := e1.tr l1.1.rn
    refine Rt.bd (a2 S5 e5) (Rt.be (kid S5 (l1.nm.trans k1.nm)) (Rt.bn (ltr_ (w := 0) (o := some u) l2 (by omega) (hT S5 e5) (htm S5 e5)) (fun S6 _ ⟨n1, n2, n3⟩ => ?_)))
    unfold f_dropValue_181
    refine Rt.rt ?_
    have hcv1 : cvN c L fl t := fun a => by
      have q := hc a
      rw [hcn a] at q
      have q0 : cnN a [] = 0 := rfl
      exact ⟨by omega, fun w => q.2 (by omega)⟩
    have k16 : KO (d + 1) S1 S6 := l1.tr (n1.mo (by omega))
    refine ((drM (fr := 1) (mn := 1) (b := d + 1) (S := S1) (f := fun _ => some u) (cs := fun _ => c) (ls := fun _ => L) (hs := fun _ => H) (pt := fun _ => abT S0 u) (vs := fun _ => qS V [(1, 0)]) (ρ := 101) (N := 101 * c.length + 103 * L.length + 1) (fl := fl) (t := t) hL hx ih e1 k16 n2 (fun i hi => ?_) (k1.wq hq) (k1.fl hf) (fun j hj => by rw [k1.nm]; exact v11) (fun i _ => ⟨u, rfl, a3, rfl⟩) (by rw [k1.x3]; exact v8) hcv1 (Or.inr rfl) ?_ (fun j _ => by have := h16.2.2.2.2; omega) (Nat.le_refl _)).tr (N2 := 1) (P2 := DPo [] (m :: (c ++ L)) (rgN f (szN R S0 (abT S0 u)) ++ H) fl t d S) (fun S3 fl3 ⟨p1, p2, p3, p4, p5, p6, p7⟩ => ?_)).mo (by omega) (fun _ _ w => w)
    · obtain rfl : i = 0 := by omega
      exact ⟨fun _ => n1.1.wk l3 (by omega), n3⟩
    · show d + 1 + 2 * c.length + 2 * L.length ≤ 90000
      omega
    · have p1' : DO (fun a => a ∈ c ∨ a ∈ L) (fun q => q ∈ H) (d + 1) S1 S3 := p1
      have p5' : ∀ a : Nat, cnN a fl3 = cnN a fl + (1 * cnN a c + cnN a L) := p5
      have hmz : Zl S3 61 m = Zl S 61 m := by
        rw [(p1'.2.2.2.2.2.2.2.2.1 m (fun w => ?_)).1, show Zl S1 61 = Zl S 61 from congrArg (fun x : nM => x.1) k1.nm]
        rcases w with w | w
        · have := cnN_mem.mp w; omega
        · have := cnN_mem.mp w; omega
      refine (dAb (K := R.K) (m := m) (f := f) (s := szN R S0 (abT S0 u)) p2 (by omega) (p1.wk k3 (by omega)) p4 p3 hmt.1 hmt.2 (fun w => ?_) (by rw [hmz]; exact v6) (by rw [hmz]; exact v5) v7).mo (Nat.le_refl _) (fun S4 fl4 ⟨f1, f2, f3, f4, f6, f5⟩ => ⟨?_, f2, f3, fun a => ?_, fun a ha => (List.not_mem_nil ha).elim, fun q hq => ?_, f5⟩)
      · have := cnN_mem.mp w
        rw [p5' m] at this
        omega
      · refine (k1.do.tr (p1'.mo (fun a w => Or.inr (List.mem_cons_of_mem m (List.mem_append.mpr w))) (fun _ w => List.mem_append_right _ w) (by omega))).tr (f1.mo (fun a w => Or.inr (by rw [w]; exact List.mem_cons_self ..)) (fun _ w => List.mem_append_left _ w) (Nat.le_refl _))
      · rw [f4, hcn a]
        show (if m = a then 1 else 0) + cnN a fl3 = _
        rw [p5' a]; omega
      · by_cases w : q ∈ rgN f (szN R S0 (abT S0 u))
        · exact f6 q w
        · rw [f1.2.2.2.2.2.2.2.2.2.1 q w]
          exact p7 q (show q ∈ H from (List.mem_append.mp hq).resolve_left w)
  · -- all others
    obtain ⟨kd, a1, a2, a3, a4⟩ := vwO hL hx e hr h2 y3 y4
    have fin : ∀ S3 : Sg, WO S S3 → wq S3 → Rt (f_dropValue_181 R.K S3) (fun S2 _ => drN R.K (103 * ([] : List Nat).length) (DPo [] [] [] fl t d S) S2) := fun S3 e3 q3 => by
      unfold f_dropValue_181
      refine Rt.rt ((drN.rf (fl := fl) (P := DPo [] [] [] fl t d S) ⟨e3.do, ?_, ?_, fun a => by show _ = 0 + _; omega, fun a ha => (List.not_mem_nil ha).elim, fun a ha => (List.not_mem_nil ha).elim, q3⟩).mo (Nat.zero_le _) (fun _ _ w => w))
      · rw [e3.2.2.2.2.2.2.2 81 (by decide)]; exact hd
      · obtain ⟨h1, h2, ⟨z, h3, h4⟩, h5, h6⟩ := hf
        exact ⟨(e3.2.2.2.2.2.2.2 64 (by decide)).trans h1, h2, ⟨z, (e3.2.2.2.2.2.2.2 65 (by decide)).trans h3, by rw [e3.2.2.2.2.2.2.1 63 (by decide)]; exact h4⟩, h5, h6⟩
    rw [a1]
    refine Rt.bd rfl (Rt.it (fun w => ?_) (fun w => Rt.bd rfl (Rt.iq a2 (Rt.bd rfl (Rt.iq a3 (Rt.bd rfl (Rt.iq a4 (fin S WO.rf hq))))))))
    exact Rt.bn (wrt_ hq) (fun S3 _ ⟨b1, b2⟩ => Rt.bn (wnm_ b2) (fun S4 _ ⟨c1, c2⟩ => Rt.bn (wrt_ c2) (fun S5 _ ⟨d1, d2⟩ => fin S5 ((b1.tr c1).tr d1) d2)))
/-- a place is dropped, whatever its depth -/
theorem drP (hL : LFS R S0 g) (hx : LX S0 Sl) : ∀ k : Nat, drH R S0 Sl g k
  | 0 => fun T V c l h x S d fl t N hp => hp.elim
  | k + 1 => fun T V c l h x S d fl t N hp hr eT e hq hf hd hk hc h9 hN => by
    have hy := nYk_of hL
    have ih := drP hL hx k
    subst eT
    have hlen := hp.len hy
    have h16 := hy.1 (abT S0 x)
    unfold f_dropPlace
    rcases hp with ⟨y2, cs, ls, hs, rfl, rfl, rfl, hp⟩ | ⟨y2, n, rfl, hp⟩
    · obtain ⟨i, ta, f, a1, a2, a3, a4, a5, a6, a7, a8⟩ := vwS hL hx e hr y2
      rw [a1]
      refine Rt.bd rfl (Rt.ip rfl (Rt.bd a2 (Rt.bd a3 (Rt.bd a4 (Rt.bd a2 (Rt.bd a3 (Rt.bd a5 ?_)))))))
      have hrk := (hy.2.2.1 (abT S0 x) y2).2.2.2.2
      refine Rt.bn (drG (fr := 0) (f := f) (cs := cs) (ls := ls) (hs := hs) (ρ := rkN R S0 g (abT S0 x)) (cap := 13) (N := N) (mn := (yT R S0).2.2.2.1 (abT S0 x) 0) hL hx ih e hd (Or.inr ⟨ta, rfl, a6⟩) ⟨Nat.le_trans a7 (by decide), by decide⟩ hq hf hp a8 hk hc (Or.inl rfl) (by omega) (by omega) (fun j hj => hrk j hj) ?_) (fun S2 _ q => Rt.rt (q.mo (Nat.le_refl _) (fun S3 fl3 ⟨p1, p2, p3, p4, p5, p6, p7⟩ => ⟨p1, p2, p4, fun a => by rw [p5 a]; omega, p6 rfl, p7, p3⟩)))
      rw [Nat.add_mul, Nat.one_mul] at hN
      omega
    · have hkd : ∃ kd : Int32, oI S 20 (some x) 0 = some kd ∧ kd ≠ 3 := by
        by_cases y3 : yK R S0 (abT S0 x) = 3
        · obtain ⟨kd, ix, o, q, _⟩ := hr.ty
          obtain ⟨t, _, _, xl, xf⟩ := e.ty (hx.ty q)
          refine ⟨kd, oI_mk xl xf rfl, fun w => ?_⟩
          rcases yK_k hL hr q with ⟨_, h⟩ | ⟨_, i, hi, hk2, ei, eo, et, h⟩ | ⟨k3, i, hi, hk2, ei, eo, et, h⟩ | ⟨_, u, _, h, _⟩ | ⟨_, h | h⟩
          · rw [h] at y3; cases y3
          · rw [h] at y3; cases y3
          · rw [w] at k3; exact absurd k3 (by decide)
          · rw [h] at y3; cases y3
          · rw [h] at y3; cases y3
          · rw [h] at y3; cases y3
        · by_cases y4 : yK R S0 (abT S0 x) = 4
          · obtain ⟨u, a1, _⟩ := vwB hL hx e hr y4
            exact ⟨5, a1, by decide⟩
          · obtain ⟨kd, a1, a2, _⟩ := vwO hL hx e hr y2 y3 y4
            exact ⟨kd, a1, a2⟩
      obtain ⟨kd, a1, a2⟩ := hkd
      have hn := hk.1 n (List.mem_cons_self ..)
      rw [a1, show hdN [n] = n from rfl]
      refine Rt.bd rfl (Rt.iq a2 (Rt.bd (rI_n (show n < rlen 62 from hn.2) (by decide)) ?_))
      rcases hp with ⟨_, hz, rfl, rfl⟩ | ⟨hz, hv⟩
      · have hz' : Zr S 62 n = 0 := hz
        refine Rt.ip hz' (Rt.rt ((drN.rf (fl := fl) (P := DPo [n] [] [] fl t d S) ⟨DO.rf, hd, hf, fun a => by show _ = 0 + _; omega, fun a ha => ?_, fun a ha => (List.not_mem_nil ha).elim, hq⟩).mo (Nat.zero_le _) (fun _ _ w => w)))
        rcases List.mem_singleton.mp ha with rfl
        exact ⟨hz', rfl⟩
      · have hz' : Zr S 62 n = 1 := hz
        refine Rt.iq (by rw [hz']; decide) (Rt.bd (wZ_n (show n < rlen 62 from hn.2) (by decide) (Or.inl rfl)) ?_)
        have e1 : NO (fun m => m = n) S (Ur S 62 (upd (Zr S 62) n 0)) := NO.w2 rfl
        have z1 : Zr (Ur S 62 (upd (Zr S 62) n 0)) 62 n = 0 := by rw [Zr_us, upd_s]
        have z3 : Zr (Ur S 62 (upd (Zr S 62) n 0)) 63 = Zr S 63 := Zr_u9 (by decide)
        have zl : Zl (Ur S 62 (upd (Zr S 62) n 0)) = Zl S := rfl
        have zi : Zi (Ur S 62 (upd (Zr S 62) n 0)) = Zi S := rfl
        generalize Ur S 62 (upd (Zr S 62) n 0) = S1 at e1 z1 z3 zl zi
        refine Rt.bd (rJ_n (show n < rlen 61 from hn.2) (by decide)) ?_
        rw [zl]
        have hnl : n ∉ l := fun w => by
          have q := (hc n).1
          have w1 := cnN_mem.mp w
          have w2 : cnN n [n] = 1 := by show (if n = n then 1 else 0) + 0 = 1; rw [if_pos rfl]
          omega
        have hnf : n ∉ fl := fun w => by
          have q := (hc n).1
          have w1 := cnN_mem.mp w
          have w2 : cnN n [n] = 1 := by show (if n = n then 1 else 0) + 0 = 1; rw [if_pos rfl]
          omega
        have f1 : FLs S1 fl t := hf.no e1 (fun a ha w => hnf (by rw [← w]; exact ha)) (by rw [zi]) (by rw [zi])
        have hv1 : vL (yT R S0) (szN R S0) (nMS S1) k (abT S0 x) V (Zl S 61 n) l h := (show vL (yT R S0) (szN R S0) (nMS S) k (abT S0 x) V (Zl S 61 n) l h from hv).st (fun a ha => e1.2.2.2.2.2.2.2.2 a (fun w => hnl (by rw [← w]; exact ha)))
        have hl1 : ([n] : List Nat).length = 1 := rfl
        rw [hl1] at h9 hN
        rw [Nat.mul_one] at hN
        refine Rt.bn (drV (fl := fl) (t := t) (d := d) hL hx ih hv1 hr rfl y2 (e.tr e1.rn) (e1.wq hq) f1 (by rw [zi]; exact hd) (fun a => ?_) (by omega)) (fun S2 _ q => Rt.rt (q.mo (by omega) (fun S3 fl3 ⟨p1, p2, p3, p4, p5, p6, p7⟩ => ⟨?_, p2, p3, p4, fun a ha => ?_, p6, p7⟩)))
        · have q := hc a
          have q0 : cnN a [] = 0 := rfl
          exact ⟨by omega, fun w => q.2 (by omega)⟩
        · exact (e1.do.mo (fun a w => Or.inl (by rw [w]; exact List.mem_cons_self ..)) (fun _ w => w) (Nat.le_refl _)).tr (p1.mo (fun a w => Or.inr (w.resolve_left (by simp))) (fun _ w => w) (Nat.le_refl _))
        · rcases List.mem_singleton.mp ha with rfl
          have q := p1.2.2.2.2.2.2.2.2.1 a (fun w => hnl (w.resolve_left (by simp)))
          exact ⟨q.2.1.trans z1, q.2.2.trans (congrFun z3 a)⟩
end PS41
