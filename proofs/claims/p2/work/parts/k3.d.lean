/-- a type of values: plain, an item's, or a box of one -/
def vTn (Y : Nat → Int32 × Int32 × Option Nat) (ad : Nat → Nat) (tm : Nat) : Nat → Nat → Prop
  | 0, _ => False
  | n + 1, t => t < tm ∧ (((Y t).1 = 0 ∨ (Y t).1 = 1 ∨ (Y t).1 = 2 ∨ (Y t).1 = 3 ∨ (Y t).1 = 4) ∨ ((Y t).1 = 5 ∧ ∃ u : Nat, (Y t).2.2 = some (ad u) ∧ vTn Y ad tm n u))
def vT (Y : Nat → Int32 × Int32 × Option Nat) (ad : Nat → Nat) (tm t : Nat) : Prop := ∃ n : Nat, vTn Y ad tm n t
/-- .. or a reference to one -/
def rfT (Y : Nat → Int32 × Int32 × Option Nat) (ad : Nat → Nat) (tm t : Nat) : Prop := vT Y ad tm t ∨ (t < tm ∧ ((Y t).1 = 6 ∨ (Y t).1 = 7) ∧ ∃ u : Nat, (Y t).2.2 = some (ad u) ∧ vT Y ad tm u)
theorem vTn_lt {Y : Nat → Int32 × Int32 × Option Nat} {ad : Nat → Nat} {tm : Nat} : ∀ {n t : Nat}, vTn Y ad tm n t → t < tm
  | 0, _, h => h.elim
  | _ + 1, _, h => h.1
theorem vTn_tX {L L2 : List Nat} {G G2 : Nat → va_E} {Y Y2 : Nat → Int32 × Int32 × Option Nat} {ad ad2 : Nat → Nat} {tm tm2 : Nat} (hx : tX L G tm Y ad L2 G2 tm2 Y2 ad2) : ∀ {n t : Nat}, vTn Y ad tm n t → vTn Y2 ad2 tm2 n t
  | 0, _, h => h.elim
  | n + 1, t, h => by
    obtain ⟨h1, h2⟩ := h
    obtain ⟨e1, e2⟩ := hx.2.2 t h1
    refine ⟨Nat.lt_of_lt_of_le h1 hx.2.1, ?_⟩
    rw [e1]
    rcases h2 with h2 | ⟨h2, u, h3, h4⟩
    · exact Or.inl h2
    · exact Or.inr ⟨h2, u, by rw [h3, (hx.2.2 u (vTn_lt h4)).2], vTn_tX hx h4⟩
theorem vT_tX {L L2 : List Nat} {G G2 : Nat → va_E} {Y Y2 : Nat → Int32 × Int32 × Option Nat} {ad ad2 : Nat → Nat} {tm tm2 t : Nat} (hx : tX L G tm Y ad L2 G2 tm2 Y2 ad2) (h : vT Y ad tm t) : vT Y2 ad2 tm2 t := h.elim (fun n h => ⟨n, vTn_tX hx h⟩)
theorem vT_lt {Y : Nat → Int32 × Int32 × Option Nat} {ad : Nat → Nat} {tm t : Nat} (h : vT Y ad tm t) : t < tm := h.elim (fun _ h => vTn_lt h)
theorem rT_tX {L L2 : List Nat} {G G2 : Nat → va_E} {Y Y2 : Nat → Int32 × Int32 × Option Nat} {ad ad2 : Nat → Nat} {tm tm2 t : Nat} (hx : tX L G tm Y ad L2 G2 tm2 Y2 ad2) (h : rfT Y ad tm t) : rfT Y2 ad2 tm2 t := by
  rcases h with h | ⟨h1, h2, u, h3, h4⟩
  · exact Or.inl (vT_tX hx h)
  · refine Or.inr ⟨Nat.lt_of_lt_of_le h1 hx.2.1, by rw [(hx.2.2 t h1).1]; exact h2, u, ?_, vT_tX hx h4⟩
    rw [(hx.2.2 t h1).1, h3, (hx.2.2 u (vT_lt h4)).2]
theorem rT_lt {Y : Nat → Int32 × Int32 × Option Nat} {ad : Nat → Nat} {tm t : Nat} (h : rfT Y ad tm t) : t < tm := h.elim vT_lt (fun h => h.1)
/-- a member of the typing has gone from S to S2: the table has grown, cells have come, a fault may have come -/
def TyM (K : Ky) (S : Sg) (G : Nat → va_E) (T zs im : Nat) (xI ps ms : Nat → Nat) (ik : Nat → Int32) (qz tm : Nat) (Y : Nat → Int32 × Int32 × Option Nat) (ad : Nat → Nat) (z0 n0 vt : Nat) (dp : Nat) (S2 : Sg) (G2 : Nat → va_E) (tm2 : Nat) (Y2 : Nat → Int32 × Int32 × Option Nat) (ad2 : Nat → Nat) : Prop :=
  TQ K S2 G2 T zs im xI ps ms ik qz tm2 Y2 ad2 z0 n0 vt ∧ tX (ZL S) G tm Y ad (ZL S2) G2 tm2 Y2 ad2 ∧ exS (ZL S) (ZF S) (ZL S2) (ZF S2) ∧ FrT S S2 ∧ (Zi S2 3 = 0 → Zi S 3 = 0) ∧ ptN Y2 tm2 ≤ ptN Y tm + dp
section TQN
variable {K : Ky} {S : Sg} {G : Nat → va_E} {T zs im : Nat} {xI ps ms : Nat → Nat} {ik : Nat → Int32} {qz tm : Nat} {Y : Nat → Int32 × Int32 × Option Nat} {ad : Nat → Nat} {z0 n0 vt dp dq : Nat}
variable {S1 S2 : Sg} {G1 G2 : Nat → va_E} {tm1 tm2 : Nat} {Y1 Y2 : Nat → Int32 × Int32 × Option Nat} {ad1 ad2 : Nat → Nat}
theorem TyP.m (h : TyP K S G T zs im xI ps ms ik qz tm Y ad z0 n0 vt dp S2 G2 tm2 Y2 ad2) : TyM K S G T zs im xI ps ms ik qz tm Y ad z0 n0 vt dp S2 G2 tm2 Y2 ad2 := ⟨h.1, h.2.1, h.2.2.1, h.2.2.2.1, fun q => h.2.2.2.2.1.symm.trans q, h.2.2.2.2.2⟩
theorem TyM.rf (h : TQ K S G T zs im xI ps ms ik qz tm Y ad z0 n0 vt) : TyM K S G T zs im xI ps ms ik qz tm Y ad z0 n0 vt 0 S G tm Y ad := ⟨h, tX.rf, exS.rf, FrT.rf, id, Nat.le_refl _⟩
theorem TyM.tr (h : TyM K S G T zs im xI ps ms ik qz tm Y ad z0 n0 vt dp S1 G1 tm1 Y1 ad1) (g : TyM K S1 G1 T zs im xI ps ms ik qz tm1 Y1 ad1 z0 n0 vt dq S2 G2 tm2 Y2 ad2) : TyM K S G T zs im xI ps ms ik qz tm Y ad z0 n0 vt (dp + dq) S2 G2 tm2 Y2 ad2 :=
  ⟨g.1, h.2.1.tr g.2.1, h.2.2.1.tr g.2.2.1, h.2.2.2.1.tr g.2.2.2.1, fun q => h.2.2.2.2.1 (g.2.2.2.2.1 q), by have := h.2.2.2.2.2; have := g.2.2.2.2.2; omega⟩
theorem TyM.up (h : TyM K S G T zs im xI ps ms ik qz tm Y ad z0 n0 vt dp S2 G2 tm2 Y2 ad2) (hd : dp ≤ dq) : TyM K S G T zs im xI ps ms ik qz tm Y ad z0 n0 vt dq S2 G2 tm2 Y2 ad2 := ⟨h.1, h.2.1, h.2.2.1, h.2.2.2.1, h.2.2.2.2.1, Nat.le_trans h.2.2.2.2.2 (Nat.add_le_add_left hd _)⟩
theorem TyM.fl (h : TQ K S G T zs im xI ps ms ik qz tm Y ad z0 n0 vt) {wh x : Int32} : TyM K S G T zs im xI ps ms ik qz tm Y ad z0 n0 vt 0 (flS S wh x) G tm Y ad := by
  obtain ⟨g1, g2, g3, g4, g5, g6⟩ := flS_st (S := S) (wh := wh) (x := x)
  refine ⟨h.fl, ?_, ?_, flS_fr, fun q => ?_, Nat.le_refl _⟩
  · rw [g1]; exact tX.rf
  · rw [g1, g2]; exact exS.rf
  · by_cases e : Zi S 3 = 0
    · exact e
    · unfold flS at q; rw [if_neg e] at q; exact q
/-- what resolve gives -/
def ReP (K : Ky) (S : Sg) (G : Nat → va_E) (T zs im : Nat) (xI ps ms : Nat → Nat) (ik : Nat → Int32) (qz tm : Nat) (Y : Nat → Int32 × Int32 × Option Nat) (ad : Nat → Nat) (z0 n0 vt : Nat) (mb : Int32) (dp : Nat) (S2 : Sg) (r : Option Nat) : Prop :=
  ∃ (G2 : Nat → va_E) (tm2 : Nat) (Y2 : Nat → Int32 × Int32 × Option Nat) (ad2 : Nat → Nat) (t2 : Nat), TyM K S G T zs im xI ps ms ik qz tm Y ad z0 n0 vt dp S2 G2 tm2 Y2 ad2 ∧ t2 < tm2 ∧ r = some (ad2 t2) ∧ (Zi S2 3 = 0 → rfT Y2 ad2 tm2 t2 ∧ (mb = 0 → vT Y2 ad2 tm2 t2))
theorem res_ (hK : z0 + 40000 ≤ K.2.1 ∧ n0 + 400000 ≤ K.2.2) (hv : vt ≤ 10000) : ∀ (d n : Nat), n ≤ d → ∀ {S : Sg} {G : Nat → va_E} {tm : Nat} {Y : Nat → Int32 × Int32 × Option Nat} {ad : Nat → Nat} {wr pp qq : Nat} {mb : Int32}, TQ K S G T zs im xI ps ms ik qz tm Y ad z0 n0 vt → isT (ZL S) G (Zr S 5) n wr pp qq → qq ≤ T → ptN Y tm + (qq - pp) ≤ 1999 → Rt (f_resolve K d S (some wr) mb) (ReP K S G T zs im xI ps ms ik qz tm Y ad z0 n0 vt mb (qq - pp))
  | 0, n, hn, S, G, tm, Y, ad, wr, pp, qq, mb, h, hw, _, _ => by rw [show n = 0 by omega] at hw; exact hw.elim
  | d + 1, 0, _, S, G, tm, Y, ad, wr, pp, qq, mb, h, hw, _, _ => hw.elim
  | d + 1, n + 1, hn, S, G, tm, Y, ad, wr, pp, qq, mb, h, hw, hqq, hp => by
    have hwl := isT_lt hw
    have hT := h.tb
    unfold f_resolve
    refine Rt.bn (plain_ hK hv h (Or.inl rfl) (by omega)) (fun S1 r1 q => ?_)
    obtain ⟨G1, tm1, Y1, ad1, t1, q1, q2, q3, q4, q5⟩ := q
    have hm := q1.m
    have h1 := q1.1
    have hw1 := isT_ex q1.2.1.1 hw
    have e5 : Zr S1 5 = Zr S 5 := by rw [q1.2.2.2.1.2.1]
    rw [← e5] at hw1
    obtain ⟨hwm, vs9, hF9, hv0, hv1⟩ := isT_c hw1
    have hF8 := rl_st h1.1.2.1 hwm hF9 mtF_22
    -- nothing better than the plain type
    have hbad : ∀ S9 : Sg, TyM K S1 G1 T zs im xI ps ms ik qz tm1 Y1 ad1 z0 n0 vt 0 S9 G1 tm1 Y1 ad1 → (Zi S9 3 = 0 → False) → Rt (some (S9, r1)) (ReP K S G T zs im xI ps ms ik qz tm Y ad z0 n0 vt mb (qq - pp)) := fun S9 hm9 hz => Rt.rt ⟨G1, tm1, Y1, ad1, t1, (hm.tr hm9).up (by omega), q2, q3, fun q => (hz q).elim⟩
    by_cases hok : Zi S1 3 = 0
    · refine Rt.be (ok_1 hok) (Rt.iq (by decide) ?_)
      have hkd : oI S1 22 (some wr) 0 = some (Zr S1 5 pp) := oI_mk hwm hF8 hv0
      have htk : oI S1 22 (some wr) 1 = some (nI pp) := oI_mk hwm hF8 hv1
      have hpl : ∀ kd : Int32, kd = 0 ∨ kd = 1 ∨ kd = 2 → Rt (f_resolve_70 K (f_resolve K d) S1 kd) (ReP K S G T zs im xI ps ms ik qz tm Y ad z0 n0 vt mb (qq - pp)) := fun kd hk => by
        unfold f_resolve_70
        refine Rt.bn (plain_ hK hv h1 (hk.elim Or.inl (fun z => z.elim (fun z => Or.inr (Or.inl z)) (fun z => Or.inr (Or.inr (Or.inl z))))) (by have := q1.2.2.2.2.2; omega)) (fun S2 r2 q => Rt.rt ?_)
        obtain ⟨G2, tm2, Y2, ad2, t2, p1, p2, p3, p4, p5⟩ := q
        have hvt : vT Y2 ad2 tm2 t2 := ⟨1, p2, Or.inl (by rw [p4]; rcases hk with hk | hk | hk <;> simp [hk])⟩
        exact ⟨G2, tm2, Y2, ad2, t2, (hm.tr p1.m).up (by omega), p2, p3, fun _ => ⟨Or.inl hvt, fun _ => hvt⟩⟩
      have h42 : Rt (f_resolve_42 K (f_resolve K d) S1 (some wr)) (ReP K S G T zs im xI ps ms ik qz tm Y ad z0 n0 vt mb (qq - pp)) := by
        unfold f_resolve_42
        exact Rt.bd hkd (Rt.it (fun _ => hpl 0 (Or.inl rfl)) (fun _ => Rt.bd hkd (Rt.it (fun _ => hpl 1 (Or.inr (Or.inl rfl))) (fun _ => hpl 2 (Or.inr (Or.inr rfl))))))
      -- a box, a reference: the type below, then the new one
      have hof : ∀ (kd : Int32) (o9 p9 : Nat), (kd = 5 ∨ ((kd = 6 ∨ kd = 7) ∧ mb ≠ 0)) → isT (ZL S1) G1 (Zr S1 5) n o9 p9 qq → pp < p9 → Rt (bnd (f_resolve K d S1 (some o9) 0) fun S27 v28 => bnd (f_type K S27 kd 0 v28) fun S29 v30 => some (S29, v30)) (ReP K S G T zs im xI ps ms ik qz tm Y ad z0 n0 vt mb (qq - pp)) := fun kd o9 p9 hk hO hp9 => by
        have hlt9 := isT_lt hO
        have hpt1 := q1.2.2.2.2.2
        refine Rt.bn (res_ hK hv d n (by omega) h1 hO hqq (by omega)) (fun S2 r2 q => ?_)
        obtain ⟨G2, tm2, Y2, ad2, t2, p1, p2, p3, p4⟩ := q
        subst p3
        have hpt2 := p1.2.2.2.2.2
        have hge := ptN_ge (Y := Y2) (tm := tm2)
        refine Rt.bn (type_ hK hv p1.1 (kd := kd) (ix := 0) (o := some (ad2 t2)) (Or.inr (Or.inr (Or.inr ⟨by rcases hk with hk | ⟨hk | hk, _⟩ <;> simp [hk], rfl, _, rfl⟩))) (Or.inr ⟨t2, p2, rfl⟩) (by omega)) (fun S3 r3 q => Rt.rt ?_)
        obtain ⟨G3, tm3, Y3, ad3, t3, u1, u2, u3, u4, u5, _⟩ := q
        refine ⟨G3, tm3, Y3, ad3, t3, ((hm.tr p1).tr u1.m).up (by omega), u2, u3, fun q => ?_⟩
        obtain ⟨_, m, hvn⟩ := (p4 (u1.2.2.2.2.1.symm.trans q)).1.imp id id |> fun _ => (⟨trivial, (p4 (u1.2.2.2.2.1.symm.trans q)).2 rfl⟩ : True ∧ vT Y2 ad2 tm2 t2)
        have hv3 : vTn Y3 ad3 tm3 m t2 := vTn_tX u1.2.1 hvn
        have e3 : (Y3 t3).2.2 = some (ad3 t2) := by rw [u4, (u1.2.1.2.2 t2 p2).2]
        rcases hk with hk | ⟨hk, hmb⟩
        · have hvt : vT Y3 ad3 tm3 t3 := ⟨m + 1, u2, Or.inr ⟨by rw [u4]; exact hk, t2, e3, hv3⟩⟩
          exact ⟨Or.inl hvt, fun _ => hvt⟩
        · exact ⟨Or.inr ⟨u2, by rw [u4]; exact hk, t2, e3, m, hv3⟩, fun z => absurd z hmb⟩
      refine Rt.bd hkd (Rt.it (fun _ => h42) (fun k26 => Rt.bd hkd (Rt.it (fun _ => h42) (fun k27 => Rt.bd hkd (Rt.it (fun _ => h42) (fun k25 => Rt.bd hkd (Rt.it (fun k23 => ?_) (fun k23 => Rt.bd hkd (Rt.it (fun k55 => ?_) (fun k55 => ?_))))))))))
      · obtain ⟨o9, vs8, hO1, hO4, hO5⟩ := isT_23 hw1 k23
        exact Rt.bd (oR_mk (v := some o9) hwm (rl_st h1.1.2.1 hwm hO1 mtF_22) hO4) (hof 5 o9 (pp + 1) (Or.inl rfl) hO5 (by omega))
      · refine Rt.it (fun hmb => ?_) (fun hmb => ?_)
        · refine Rt.bd htk (Rt.be (fail_ (by omega)) (hbad _ (TyM.fl h1) (flS_n0 (by decide))))
        · obtain ⟨o9, p9, mu9, lf9, vs8, hO1, hO2, hO3, hO4, hO6, hmu9, hlf9, hO5⟩ := isT_55 hw1 k55
          have hO7 := rl_st h1.1.2.1 hwm hO1 mtF_22
          refine Rt.bd (oI_mk hwm hO7 hO2) (Rt.it (fun _ => ?_) (fun _ => ?_))
          · unfold f_resolve_139; exact Rt.bd (oR_mk (v := some o9) hwm hO7 hO4) (hof 7 o9 p9 (Or.inr ⟨Or.inr rfl, hmb⟩) hO5 hO6)
          · unfold f_resolve_139; exact Rt.bd (oR_mk (v := some o9) hwm hO7 hO4) (hof 6 o9 p9 (Or.inr ⟨Or.inl rfl, hmb⟩) hO5 hO6)
      · refine Rt.bd htk (Rt.bn (itN_ h1 (by omega)) (fun S2 r2 q => ?_))
        obtain ⟨e2, q⟩ := q
        rw [e2]
        have hno : Rt (f_resolve_183 K (f_resolve K d) S1 (some wr) r1) (ReP K S G T zs im xI ps ms ik qz tm Y ad z0 n0 vt mb (qq - pp)) := by
          unfold f_resolve_183
          exact Rt.bd htk (Rt.be (fail_ (by omega)) (hbad _ (TyM.fl h1) (flS_n0 (by decide))))
        refine Rt.it (fun _ => hno) (fun hneg => ?_)
        obtain ⟨i, hi, ei⟩ := q.resolve_left (fun q => hneg (by rw [q]; decide))
        subst ei
        obtain ⟨hx1, hx2, hx3, hx4, gs, hg1, hg2, hg3⟩ := it_nm h1.1 hi
        have him : im ≤ 70 := h1.1.2.2.1.1
        have hld : rQ S1 11 (nI i) = some (some (xI i)) := by rw [rQ_n (show i < rlen 11 by show i < 70; omega) (by decide), hx3]
        have hpt1 := q1.2.2.2.2.2
        have hge := ptN_ge (Y := Y1) (tm := tm1)
        have hnew : ∀ kd : Int32, yOK im ik (kd, nI i, none) → (kd = 3 ∨ kd = 4) → Rt (f_resolve_215 K (f_resolve K d) S1 (nI i) kd) (ReP K S G T zs im xI ps ms ik qz tm Y ad z0 n0 vt mb (qq - pp)) := fun kd hy hk => by
          unfold f_resolve_215
          refine Rt.bn (type_ hK hv h1 hy (Or.inl rfl) (by omega)) (fun S3 r3 q => Rt.rt ?_)
          obtain ⟨G3, tm3, Y3, ad3, t3, u1, u2, u3, u4, u5, _⟩ := q
          have hvt : vT Y3 ad3 tm3 t3 := ⟨1, u2, Or.inl (by rw [u4]; rcases hk with hk | hk <;> simp [hk])⟩
          exact ⟨G3, tm3, Y3, ad3, t3, (hm.tr u1.m).up (by omega), u2, u3, fun _ => ⟨Or.inl hvt, fun _ => hvt⟩⟩
        refine Rt.bd hld (Rt.bd (oI_mk hx1 hg1 hg3) (Rt.it (fun _ => hno) (fun k12 => Rt.bd hld (Rt.bd (oI_mk hx1 hg1 hg3) (Rt.it (fun k10 => ?_) (fun k10 => ?_))))))
        · exact hnew 3 (Or.inr (Or.inl ⟨rfl, ⟨i, hi, rfl, k10⟩, rfl⟩)) (Or.inl rfl)
        · exact hnew 4 (Or.inr (Or.inr (Or.inl ⟨rfl, ⟨i, hi, rfl, (hx4.resolve_left k10).resolve_right k12⟩, rfl⟩))) (Or.inr rfl)
    · refine Rt.be (ok_0 hok) (Rt.ip rfl ?_)
      exact hbad S1 (TyM.rf h1) hok
end TQN
