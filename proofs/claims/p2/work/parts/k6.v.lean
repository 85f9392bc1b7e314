theorem bnd_s {α β : Type} {S : Sg} {v : β} {g : Sg → β → Option (Sg × α)} : bnd (some (S, v)) g = g S v := rfl
/-- brackets off -/
def brt (R : yR) : Nat → Nat → Nat → Prop
  | 0, _, _ => False
  | n + 1, y, e2 => ∃ (kd : Int32) (fs : List Value), ZF R.S y = .inr (15, fs) ∧ fs[0]? = some (.int kd) ∧ ((kd ≠ 7 ∧ e2 = y) ∨ (kd = 7 ∧ ∃ o : Nat, fs[8]? = some (.ref o) ∧ brt R n o e2))
section ASG
variable {R : yR} {c nv : Nat} {S S2 : Sg} {Γ Λ : List Nat} {fi gv : Nat}
theorem bru_ {K : Ky} {kE kI : ClassId} (hL : ∀ a ∈ ZL R.S, a ∈ ZL S) : ∀ {n m kk y p q b c : Nat}, isE (ZL R.S) (ZF R.S) kE kI n kk y p q b c → plE (ZF R.S) n y → Unt R S p q → q ≤ 100000 → n ≤ m → ∃ e2 n2 p2 q2 : Nat, brt R n y e2 ∧ f_bare_2 K m S (some y) = some (S, some e2) ∧ n2 ≤ n ∧ isE (ZL R.S) (ZF R.S) kE kI n2 kk e2 p2 q2 b c ∧ plE (ZF R.S) n2 e2 ∧ p ≤ p2 ∧ q2 ≤ q ∧ ∃ (kd : Int32) (fs : List Value), ZF R.S e2 = .inr (15, fs) ∧ fs[0]? = some (.int kd) ∧ kd ≠ 7
  | 0, _, _, _, _, _, _, _, h, _, _, _, _ => h.elim
  | n + 1, 0, _, _, _, _, _, _, _, _, _, _, hm => absurd hm (by omega)
  | n + 1, m + 1, kk, y, p, q, b, c, h, hp, hU, hq, hm => by
    obtain ⟨t, ho, ho1, ho2⟩ := isE_own h hq
    have hF := hU y h.1 (Or.inl ⟨t, ho, ho1, ho2⟩)
    have hs : ∀ {kd : Int32} {fs : List Value}, ZF R.S y = .inr (15, fs) → fs[0]? = some (.int kd) → kd ≠ 7 → ∃ e2 n2 p2 q2 : Nat, brt R (n + 1) y e2 ∧ f_bare_2 K (m + 1) S (some y) = some (S, some e2) ∧ n2 ≤ n + 1 ∧ isE (ZL R.S) (ZF R.S) kE kI n2 kk e2 p2 q2 b c ∧ plE (ZF R.S) n2 e2 ∧ p ≤ p2 ∧ q2 ≤ q ∧ ∃ (kd : Int32) (fs : List Value), ZF R.S e2 = .inr (15, fs) ∧ fs[0]? = some (.int kd) ∧ kd ≠ 7 := fun {kd fs} g1 g2 g3 => by
      refine ⟨y, n + 1, p, q, ⟨kd, fs, g1, g2, Or.inl ⟨g3, rfl⟩⟩, ?_, Nat.le_refl _, h, hp, Nat.le_refl _, Nat.le_refl _, kd, fs, g1, g2, g3⟩
      unfold f_bare_2
      rw [oI_mk (hL y h.1) (hF.trans g1) g2, Option.bind_some, if_neg g3]
    obtain ⟨_, _, _, h3⟩ := xpl_pl h hp
    rcases h3 with ⟨k, _⟩ | ⟨kd, o, p', q', k1, k2, k3, k4, k5, k6⟩ | ⟨o, nm, q', k2, k3, k4, k5, k6⟩
    · exact hs k rfl (by decide)
    · rcases k1 with w | w
      · subst w
        obtain ⟨e2, n2, p2, q2, r1, r2, r3, r4, r5, r6, r7, r8⟩ := bru_ (K := K) hL k5 k6 (hU.su (by omega) k4) (by omega) (m := m) (by omega)
        refine ⟨e2, n2, p2, q2, ⟨7, _, k2, rfl, Or.inr ⟨rfl, o, rfl, r1⟩⟩, ?_, by omega, r4, r5, by omega, by omega, r8⟩
        unfold f_bare_2
        rw [oI_mk (hL y h.1) (hF.trans k2) (v := 7) rfl, Option.bind_some, if_pos rfl, oR_mk (hL y h.1) (hF.trans k2) (v := some o) rfl, Option.bind_some]
        exact r2
      · subst w; exact hs k2 rfl (by decide)
    · exact hs k2 rfl (by decide)
/-- .. of a typed place -/
theorem brx_ (hT : TS R c nv S) : ∀ {n y e2 p q v : Nat} {π : List (Nat × Nat)} {x mu mv : Nat}, brt R n y e2 → xPl R S Γ n y p q v π x mu mv → ∃ n2 p2 q2 : Nat, n2 ≤ n ∧ xPl R S Γ n2 e2 p2 q2 v π x mu mv ∧ ((∃ fs : List Value, ZF R.S e2 = .inr (15, fs) ∧ fs[0]? = some (.int 2)) → π = [])
  | 0, _, _, _, _, _, _, _, _, _, h, _ => h.elim
  | n + 1, y, e2, p, q, v, π, x, mu, mv, h, g => by
    obtain ⟨kd, fs, h1, h2, h3⟩ := h
    obtain ⟨o1, gs, o2, o3, o4, o5⟩ := hT.ob g.1.1 h1
    have o6 : gs[0]? = some (.int kd) := (o4 0 rfl).trans h2
    rcases h3 with ⟨h3, h4⟩ | ⟨h3, o, h4, h5⟩
    · subst h4
      refine ⟨n + 1, p, q, Nat.le_refl _, g, fun ⟨fs2, w1, w2⟩ => ?_⟩
      rw [h1] at w1; cases w1
      rw [h2] at w2; cases w2
      rcases g.2.2 with ⟨ix, nm, k1, k2, k3, k4, k5, k6⟩ | ⟨o, p', q', k1, k2, k3, k4⟩ | ⟨o, p', q', y, m2, w2, kd, π2, k1, k2, k3, k4, k5, k6, k7⟩ | ⟨o, nm, q', y, i, k, w2, π2, k1, k2, k3, k4, k5, k6, k7, k8⟩
      · exact k2
      · rw [k1] at o2; cases o2; cases o6
      · rw [k1] at o2; cases o2; cases o6
      · rw [k1] at o2; cases o2; cases o6
    · subst h3
      rcases g.2.2 with ⟨ix, nm, k1, k2, k3, k4, k5, k6⟩ | ⟨o', p', q', k1, k2, k3, k4⟩ | ⟨o, p', q', y, m2, w2, kd, π2, k1, k2, k3, k4, k5, k6, k7⟩ | ⟨o, nm, q', y, i, k, w2, π2, k1, k2, k3, k4, k5, k6, k7, k8⟩
      · rw [k1] at o2; cases o2; cases o6
      · have o7 : gs[8]? = some (.ref o) := (o4 8 rfl).trans h4
        rw [k1] at o2; cases o2; cases o7
        obtain ⟨n2, p2, q2, r1, r2, r3⟩ := brx_ hT h5 k4
        exact ⟨n2, p2, q2, by omega, r2, r3⟩
      · rw [k1] at o2; cases o2; cases o6
      · rw [k1] at o2; cases o2; cases o6
theorem plc_n {K : Ky} {d y : Nat} {fs : List Value} (hz : Zi S 3 = 0) (hy : y ∈ ZL S) (hF : ZF S y = .inr (15, fs)) (h0 : fs[0]? = some (.int 2)) (hl : fs.length = 14) : f_place K (d + 1) S (some y) = f_place_56 K (f_place K d) bigN (UF S y (.inr (15, fs.set 13 .null))) (some y) 0 := by
  unfold f_place
  rw [ok_1 (K := K) hz, bnd_s, if_neg (by decide), oI_mk hy hF h0, Option.bind_some, if_neg (by decide), Option.bind_some, if_pos rfl, pV_mk hy hF (by rw [hl]; decide), Option.bind_some]
  rfl
theorem plc_b {K : Ky} {d y o : Nat} {fs : List Value} (hz : Zi S 3 = 0) (hy : y ∈ ZL S) (hF : ZF S y = .inr (15, fs)) (h0 : fs[0]? = some (.int 7)) (h8 : fs[8]? = some (.ref o)) : f_place K (d + 1) S (some y) = bnd (f_place K d S (some o)) fun S17 v18 => bnd (f_told K S17 (some y) v18) fun S19 v20 => some (S19, v20) := by
  conv => lhs; unfold f_place
  rw [ok_1 (K := K) hz, bnd_s, if_neg (by decide), oI_mk hy hF h0, Option.bind_some, if_pos rfl, oR_mk hy hF (v := some o) h8, Option.bind_some]
/-- place does not look at what its name's variable was -/
theorem plc_eq {K : Ky} {kE kI : ClassId} {e2 p2 : Nat} {w : Option Nat} (hL : ∀ a ∈ ZL R.S, a ∈ ZL S) (hz : Zi S 3 = 0) (h2 : ZF R.S e2 = xpC 2 p2 0 (nI p2) 0 0 .null .null .null 0) (hF2 : ZF S e2 = ZF R.S e2) (he2 : e2 ∈ ZL R.S) : ∀ {n d kk y p q b c : Nat}, isE (ZL R.S) (ZF R.S) kE kI n kk y p q b c → plE (ZF R.S) n y → Unt R S p q → q ≤ 100000 → brt R n y e2 → f_place K d (UF S e2 (xtC 2 p2 0 (nI p2) 0 0 0 0 .null .null .null 0 .null (va_rf w))) (some y) = f_place K d S (some y)
  | 0, _, _, _, _, _, _, _, h, _, _, _, _ => h.elim
  | n + 1, 0, _, _, _, _, _, _, _, _, _, _, _ => rfl
  | n + 1, d + 1, kk, y, p, q, b, c, h, hp, hU, hq, hb => by
    obtain ⟨t, ho, ho1, ho2⟩ := isE_own h hq
    have hF := hU y h.1 (Or.inl ⟨t, ho, ho1, ho2⟩)
    have hy1 := hL y h.1
    have hz2 : Zi (UF S e2 (xtC 2 p2 0 (nI p2) 0 0 0 0 .null .null .null 0 .null (va_rf w))) 3 = 0 := hz
    obtain ⟨kd, fs, b1, b2, b3⟩ := hb
    rcases b3 with ⟨b3, b4⟩ | ⟨b3, o, b4, b5⟩
    · subst b4
      have c1 : ZF S e2 = xpC 2 p2 0 (nI p2) 0 0 .null .null .null 0 := hF2.trans h2
      rw [plc_n (K := K) (d := d) hz2 (show e2 ∈ ZL (UF S e2 (xtC 2 p2 0 (nI p2) 0 0 0 0 .null .null .null 0 .null (va_rf w))) from hy1) ZF_s rfl rfl, plc_n (K := K) (d := d) hz hy1 c1 rfl rfl, UF_UF]
      rfl
    · subst b3
      have hne : y ≠ e2 := fun e => by
        rw [e, h2] at b1; cases b1; cases b2
      have c2 : ZF (UF S e2 (xtC 2 p2 0 (nI p2) 0 0 0 0 .null .null .null 0 .null (va_rf w))) y = .inr (15, fs) := (ZF_n hne).trans (hF.trans b1)
      have hm2 : y ∈ ZL (UF S e2 (xtC 2 p2 0 (nI p2) 0 0 0 0 .null .null .null 0 .null (va_rf w))) := hy1
      obtain ⟨_, _, _, h3⟩ := xpl_pl h hp
      rcases h3 with ⟨k, _⟩ | ⟨kd, o', p', q', k1, k2, k3, k4, k5, k6⟩ | ⟨o', nm, q', k2, k3, k4, k5, k6⟩
      · rw [k] at b1; cases b1; cases b2
      · have e8 : o' = o := by rw [k2] at b1; cases b1; cases b4; rfl
        subst e8
        rw [plc_b (K := K) (d := d) hz2 hm2 c2 b2 b4, plc_b (K := K) (d := d) hz hy1 (hF.trans b1) b2 b4, plc_eq hL hz h2 hF2 he2 k5 k6 (hU.su (by omega) k4) (by omega) b5]
      · rw [k2] at b1; cases b1; cases b2
/-- a variable gets its type -/
theorem YS.st (h : YS R c nv S Γ Λ fi gv) {u ix t : Nat} {nm mu : Int32} (hu : u ∉ ZL R.S) (hV : isV S u ix nm none mu) (ht : rTy S t) : YS R c nv (UF S u (vrC ix nm (some t) mu)) Γ Λ fi gv ∧ VX R nX S (UF S u (vrC ix nm (some t) mu)) := by
  obtain ⟨h1, h2, h3, h4, h5, h6, ⟨h7, h8, h9, h10⟩, h11, fs, h12, h13⟩ := h
  have t2 : TS R c nv (UF S u (vrC ix nm (some t) mu)) := by
    obtain ⟨G, tm, Y, ad, g1, g2, g3, g4⟩ := h1
    have := g1.1.2.1 u hV.1
    rw [hV.2] at this
    have hcs := cs_put (k := 2) (v := va_rf (some t)) this rfl
    exact ⟨G, tm, Y, ad, ⟨tgd_up g1.1 hcs, g1.2.1, g1.2.2.1, g1.2.2.2.1, g1.2.2.2.2.1, g1.2.2.2.2.2.1, g1.2.2.2.2.2.2⟩, g2, g3, g4⟩
  have hTy : ∀ (x : Nat) (kd ix2 : Int32) (o : Option Nat), isTy S x kd ix2 o → isTy (UF S u (vrC ix nm (some t) mu)) x kd ix2 o := fun x kd ix2 o ⟨ti, q1, q2, q3, q4⟩ => ⟨ti, q1, q2, q3, (ZF_n (fun e => by rw [e, hV.2] at q4; cases q4)).trans q4⟩
  have hVv : ∀ (v ix2 : Nat) (nm2 : Int32) (ty2 : Option Nat) (mu2 : Int32), isV S v ix2 nm2 ty2 mu2 → ∃ t2 : Option Nat, isV (UF S u (vrC ix nm (some t) mu)) v ix2 nm2 t2 mu2 ∧ ((ty2 = none ∧ t2 = some t) ∨ t2 = ty2) := fun v ix2 nm2 ty2 mu2 q => by
    by_cases e : v = u
    · subst e
      have e9 := q.2
      rw [hV.2] at e9
      unfold vrC at e9
      have e8 := (Prod.mk.inj (Sum.inr.inj e9)).2
      simp only [List.cons.injEq, Value.int.injEq, and_true] at e8
      obtain ⟨d1, d2, d3, d4⟩ := e8
      refine ⟨some t, ⟨q.1, ?_⟩, Or.inl ⟨(va_rf_inj d3).symm, rfl⟩⟩
      rw [ZF_s]; unfold vrC; rw [d1, d2, d4]
    · exact ⟨ty2, ⟨q.1, (ZF_n e).trans q.2⟩, Or.inr rfl⟩
  have hVX : VX R nX S (UF S u (vrC ix nm (some t) mu)) := ⟨⟨fun _ _ _ _ _ _ => rfl, rfl, rfl, fun _ _ _ => rfl, rfl⟩, fun a ha _ => ZF_n (fun e => hu (e ▸ ha)), fun _ q => q, hTy, fun v ix2 nm2 ty2 mu2 q => by
    obtain ⟨t9, q1, q2⟩ := hVv v ix2 nm2 ty2 mu2 q
    exact ⟨t9, q1, q2.imp (fun w => ⟨w.1, fun x e => by rw [w.2] at e; cases e; exact ht.im hTy⟩) id⟩, id⟩
  have hX0 : VX R (Xo R 0 0) S (UF S u (vrC ix nm (some t) mu)) := hVX.x
  refine ⟨⟨t2, ⟨h2.1, h2.2.1, fun k v hk => ?_⟩, ⟨h3.1, h3.2.1, fun k v hk => ?_⟩, h4.vx hX0, h5.vx hX0, h6, ⟨h7, h8, h9, h10⟩, h11.im hTy, fs, (hX0.nx h10).trans h12, h13⟩, hVX⟩
  · obtain ⟨a1, ix2, nm2, mu2, ty2, a2, a3, a4, a5⟩ := h2.2.2 k v hk
    obtain ⟨t9, q1, q2⟩ := hVv _ _ _ _ _ a2
    refine ⟨a1, ix2, nm2, mu2, t9, q1, a3, a4, fun x e => ?_⟩
    rcases q2 with ⟨_, q2⟩ | q2
    · rw [q2] at e; cases e; exact ht.im hTy
    · exact (a5 x (q2.symm.trans e)).im hTy
  · obtain ⟨a0, nm2, mu2, ty2, a2, a3, a4, a5⟩ := h3.2.2 k v hk
    obtain ⟨t9, q1, q2⟩ := hVv _ _ _ _ _ a2
    refine ⟨a0, nm2, mu2, t9, q1, a3, a4, fun x e => ?_⟩
    rcases q2 with ⟨_, q2⟩ | q2
    · rw [q2] at e; cases e; exact ht.im hTy
    · exact (a5 x (q2.symm.trans e)).im hTy
end ASG
