/-- .. or nothing -/
def xTy (S : Sg) (x : Nat) : Prop := rTy S x ∨ isTy S x 8 0 none
theorem xTy.im {S S2 : Sg} {x : Nat} (h : xTy S x) (g : ∀ (x : Nat) (kd ix : Int32) (o : Option Nat), isTy S x kd ix o → isTy S2 x kd ix o) : xTy S2 x := h.imp (fun h => h.im g) (g _ _ _ _)
theorem vTy.ty {S : Sg} {x : Nat} (h : vTy S x) : ∃ (kd ix : Int32) (o : Option Nat), isTy S x kd ix o ∧ kd ≠ 6 ∧ kd ≠ 7 ∧ kd ≠ 8 := by
  obtain ⟨n, h⟩ := h
  cases n with
  | zero => exact h.elim
  | succ n =>
    obtain ⟨kd, ix, o, h1, h2⟩ := h
    refine ⟨kd, ix, o, h1, ?_⟩
    rcases h2 with (h2 | h2 | h2 | h2 | h2) | ⟨h2, _⟩ <;> subst h2 <;> decide
theorem rTy.ty {S : Sg} {x : Nat} (h : rTy S x) : ∃ (kd ix : Int32) (o : Option Nat), isTy S x kd ix o ∧ kd ≠ 8 := by
  rcases h with h | ⟨kd, u, h1, h2, _⟩
  · obtain ⟨kd, ix, o, h1, _, _, h2⟩ := h.ty
    exact ⟨kd, ix, o, h1, h2⟩
  · exact ⟨kd, 0, some u, h1, by rcases h2 with e | e <;> subst e <;> decide⟩
theorem xTy.ty {S : Sg} {x : Nat} (h : xTy S x) : ∃ (kd ix : Int32) (o : Option Nat), isTy S x kd ix o := by
  rcases h with h | h
  · obtain ⟨kd, ix, o, h1, _⟩ := h.ty; exact ⟨kd, ix, o, h1⟩
  · exact ⟨_, _, _, h⟩
theorem xTy.v {S : Sg} {x : Nat} {kd ix : Int32} {o : Option Nat} (h : xTy S x) (g : isTy S x kd ix o) (h6 : kd ≠ 6) (h7 : kd ≠ 7) (h8 : kd ≠ 8) : vTy S x := by
  rcases h with (h | ⟨k, u, h1, h2, _⟩) | h
  · exact h
  · obtain ⟨e, _⟩ := isTy_fn g h1
    rcases h2 with w | w
    · exact absurd (e.trans w) h6
    · exact absurd (e.trans w) h7
  · exact absurd (isTy_fn g h).1 h8
theorem xTy.r {S : Sg} {x : Nat} {kd ix : Int32} {o : Option Nat} (h : xTy S x) (g : isTy S x kd ix o) (h8 : kd ≠ 8) : rTy S x := h.elim id (fun h => absurd (isTy_fn g h).1 h8)
theorem rTy.v {S : Sg} {x : Nat} {kd ix : Int32} {o : Option Nat} (h : rTy S x) (g : isTy S x kd ix o) (h6 : kd ≠ 6) (h7 : kd ≠ 7) : vTy S x := by
  obtain ⟨k2, i2, o2, g2, h8⟩ := h.ty
  obtain ⟨e, _⟩ := isTy_fn g g2
  exact xTy.v (Or.inl h) g h6 h7 (by rw [e]; exact h8)
theorem vTy.pl {S : Sg} {x : Nat} {kd ix : Int32} {o : Option Nat} (g : isTy S x kd ix o) (h : kd = 0 ∨ kd = 1 ∨ kd = 2 ∨ kd = 3 ∨ kd = 4) : vTy S x := ⟨1, kd, ix, o, g, Or.inl h⟩
theorem vTy.bx {S : Sg} {x u : Nat} {ix : Int32} (g : isTy S x 5 ix (some u)) (h : vTy S u) : vTy S x := by
  obtain ⟨n, h⟩ := h
  exact ⟨n + 1, 5, ix, some u, g, Or.inr ⟨rfl, u, rfl, h⟩⟩
/-- what a box holds -/
theorem vTy.of {S : Sg} {x u : Nat} {ix : Int32} (h : vTy S x) (g : isTy S x 5 ix (some u)) : vTy S u := by
  obtain ⟨n, h⟩ := h
  cases n with
  | zero => exact h.elim
  | succ n =>
    obtain ⟨kd, ix2, o, h1, h2⟩ := h
    obtain ⟨e1, e2, e3⟩ := isTy_fn g h1
    subst e1
    rcases h2 with h2 | ⟨_, w, h3, h4⟩
    · exact absurd h2 (by decide)
    · rw [← e3] at h3; cases h3; exact ⟨n, h4⟩
/-- what a place of this type leads to -/
theorem rTy.of {S : Sg} {x u : Nat} {kd ix : Int32} (h : rTy S x) (g : isTy S x kd ix (some u)) (hk : kd = 5 ∨ kd = 6 ∨ kd = 7) : vTy S u := by
  rcases h with h | ⟨k, w, h1, h2, h3⟩
  · obtain ⟨k2, i2, o2, g2, h6, h7, _⟩ := h.ty
    obtain ⟨e, _⟩ := isTy_fn g g2
    rcases hk with w | w | w
    · subst w; exact h.of g
    · exact absurd (e.symm.trans w) h6
    · exact absurd (e.symm.trans w) h7
  · obtain ⟨e1, e2, e3⟩ := isTy_fn g h1
    cases e3; exact h3
section RES
variable {R : yR} {c nv : Nat} {S : Sg}
theorem vTn_ty {K : Ky} {G : Nat → va_E} {T zs im : Nat} {xI ps ms : Nat → Nat} {ik : Nat → Int32} {qz tm : Nat} {Y : Nat → Int32 × Int32 × Option Nat} {ad : Nat → Nat} {z0 n0 vt : Nat} (h : TQ K S G T zs im xI ps ms ik qz tm Y ad z0 n0 vt) (ht : tm ≤ 2000) : ∀ {n t : Nat}, vTn Y ad tm n t → vTyn S n (ad t)
  | 0, _, q => q.elim
  | n + 1, t, q => ⟨_, _, _, h.ty9 ht q.1, q.2.imp id (fun ⟨a, u, b, c⟩ => ⟨a, ad u, b, vTn_ty h ht c⟩)⟩
/-- resolve -/
theorem rsv_ (hK : yRm R) (hv : nv ≤ 10000) (h : TS R c nv S) {d n wr pp qq : Nat} {mb : Int32} (hd : n ≤ d) (hw : isT (ZL R.S) (ZF R.S) (Zr R.S 5) n wr pp qq) (hq : qq ≤ R.T) (hc : c + (qq - pp) ≤ 1990) : Rt (f_resolve R.K d S (some wr) mb) (fun S2 r => ∃ x : Nat, r = some x ∧ TS R (c + (qq - pp)) nv S2 ∧ VX R nX S S2 ∧ VS S S2 ∧ (∃ (kd ix : Int32) (o : Option Nat), isTy S2 x kd ix o) ∧ (Zi S2 3 = 0 → rTy S2 x ∧ (mb = 0 → vTy S2 x))) := by
  obtain ⟨G, tm, Y, ad, h1, h2, h3, h4⟩ := h
  have hw2 : isT (ZL S) G (Zr S 5) n wr pp qq := by rw [h4.2.1 5 (by decide)]; exact isT_ex h2 hw
  refine (res_ ⟨hK.1, hK.2.1⟩ hv d n hd h1 hw2 hq (by omega)).mo (fun S2 r q => ?_)
  obtain ⟨G2, tm2, Y2, ad2, t2, q1, q2, q3, q4⟩ := q
  obtain ⟨b1, b2, b3, b4⟩ := TS.bk h1 h2 h3 h4 q1 hc
  refine ⟨ad2 t2, q3, b1, b2, b3, ⟨_, _, _, q1.1.ty9 b4 q2⟩, fun z => ?_⟩
  obtain ⟨k1, k2⟩ := q4 z
  have hvt : ∀ {t : Nat}, vT Y2 ad2 tm2 t → vTy S2 (ad2 t) := fun ⟨n, w⟩ => ⟨n, vTn_ty q1.1 b4 w⟩
  refine ⟨?_, fun e => hvt (k2 e)⟩
  rcases k1 with k1 | ⟨k1, k3, u, k4, k5⟩
  · exact Or.inl (hvt k1)
  · have k6 := q1.1.ty9 b4 k1
    rw [k4] at k6
    have k7 := q1.1.1.2.2.2.2 t2 k1
    have e0 : (Y2 t2).2.1 = 0 := by
      rcases k7 with ⟨w, _⟩ | ⟨w, _⟩ | ⟨w, _⟩ | ⟨_, w, _⟩
      · rcases k3 with e | e <;> rw [e] at w <;> exact absurd w (by decide)
      · rcases k3 with e | e <;> rw [e] at w <;> exact absurd w (by decide)
      · rcases k3 with e | e <;> rw [e] at w <;> exact absurd w (by decide)
      · exact w
    rw [e0] at k6
    exact Or.inr ⟨_, ad2 u, k6, k3, hvt k5⟩
end RES
/-- an int of an object, as a number -/
def fN (fs : List Value) (k : Nat) : Nat := match fs[k]? with
  | some (.int v) => v.toNatClampNeg
  | _ => 0
/-- a reference of an object -/
def rN (fs : List Value) (k : Nat) : Option Nat := match fs[k]? with
  | some (.ref a) => some a
  | _ => none
/-- the token that a cell owns: an exp, a statement, an arm -/
def ownT (F : Nat → va_E) (a : Nat) : Option Nat := match F a with
  | .inl _ => none
  | .inr (c, fs) => if c = 15 then (if fN fs 0 = 14 then some (fN fs 3) else if fN fs 0 = 8 then (match rN fs 10 with
      | some sa => (match F sa with
        | .inl (_, _, .inl g) => some (g 0).toNatClampNeg
        | _ => none)
      | none => none) else some (fN fs 1)) else if c = 19 then some (fN fs 1) else if c = 13 then some (fN fs 0) else none
/-- cells that own tokens from p to below q, and the rows of variables of such arms and functions -/
def Xo (R : yR) (p q a : Nat) : Prop := (∃ t : Nat, ownT (ZF R.S) a = some t ∧ p ≤ t ∧ t < q) ∨ (∃ b t : Nat, a = b + 2 ∧ ownT (ZF R.S) b = some t ∧ p ≤ t ∧ t < q ∧ ZF R.S a = .inl (R.K.1 5, 12, .inr (.inr (.inr (.inr (fun _ => none)))))) ∨ (∃ t : Nat, R.pw a = some t ∧ p ≤ t ∧ t < q ∧ ZF R.S a = .inl (R.K.1 5, 13, .inr (.inr (.inr (.inr (fun _ => none))))))
theorem Xo_mo {R : yR} {p q p2 q2 a : Nat} (h : Xo R p q a) (hp : p2 ≤ p) (hq : q ≤ q2) : Xo R p2 q2 a := h.imp (fun ⟨t, h1, h2, h3⟩ => ⟨t, h1, by omega, by omega⟩) (fun h => h.imp (fun ⟨b, t, h0, h1, h2, h3, h4⟩ => ⟨b, t, h0, h1, by omega, by omega, h4⟩) (fun ⟨t, h1, h2, h3, h4⟩ => ⟨t, h1, by omega, by omega, h4⟩))
/-- never written by exps and statements -/
def nXo (R : yR) (a : Nat) : Prop := a ∈ ZL R.S ∧ ∀ p q : Nat, ¬ Xo R p q a
theorem nXo.ro {R : yR} {a n : Nat} {k : ClassId} {f : vRw} (ha : a ∈ ZL R.S) (hF : ZF R.S a = .inl (k, n, f)) (h : k ≠ R.K.1 5 ∨ f ≠ .inr (.inr (.inr (.inr (fun _ => none))))) : nXo R a := by
  refine ⟨ha, fun p q w => ?_⟩
  rcases w with ⟨t, w, _⟩ | ⟨b, t, _, _, _, _, w⟩ | ⟨t, _, _, _, w⟩
  · unfold ownT at w; rw [hF] at w; cases w
  · rw [hF] at w; cases w; rcases h with h | h <;> exact h rfl
  · rw [hF] at w; cases w; rcases h with h | h <;> exact h rfl
theorem nXo.ob {R : yR} {a k : Nat} {fs : List Value} (ha : a ∈ ZL R.S) (hF : ZF R.S a = .inr (k, fs)) (h : k = 14 ∨ k = 16 ∨ k = 17 ∨ k = 18 ∨ k = 20 ∨ k = 21 ∨ k = 22) : nXo R a := by
  refine ⟨ha, fun p q w => ?_⟩
  rcases w with ⟨t, w, _⟩ | ⟨b, t, _, _, _, _, w⟩ | ⟨t, _, _, _, w⟩
  · unfold ownT at w; rw [hF] at w
    rcases h with e | e | e | e | e | e | e <;> subst e <;> cases w
  · rw [hF] at w; cases w
  · rw [hF] at w; cases w
theorem VZ.nx {R : yR} {p q a : Nat} {S S2 : Sg} (h : VZ R (Xo R p q) S S2) (ha : nXo R a) : ZF S2 a = ZF S a := h.1 a ha.1 (ha.2 p q)
theorem VX.nx {R : yR} {p q a : Nat} {S S2 : Sg} (h : VX R (Xo R p q) S S2) (ha : nXo R a) : ZF S2 a = ZF S a := h.2.1 a ha.1 (ha.2 p q)
/-- an exp's own token -/
theorem own_a {F : Nat → va_E} {e : Nat} {kd : Int32} {tk : Nat} {sg nm : Int32} {num : Int64} {mu : Int32} {vo li si : Value} {mn : Nat} (hF : F e = xpC kd tk sg nm num mu vo li si mn) (h14 : kd.toNatClampNeg ≠ 14) (h8 : kd.toNatClampNeg ≠ 8) (ht : tk ≤ 100000) : ownT F e = some tk := by
  unfold ownT
  rw [hF]
  show (if 15 = 15 then (if kd.toNatClampNeg = 14 then _ else if kd.toNatClampNeg = 8 then _ else some (nI tk).toNatClampNeg) else _) = _
  rw [if_pos rfl, if_neg h14, if_neg h8, nI_clamp (by omega)]
theorem own_m {F : Nat → va_E} {e : Nat} {tk nm : Nat} {sg : Int32} {num : Int64} {mu : Int32} {vo li si : Value} {mn : Nat} (hF : F e = xpC 14 tk sg (nI nm) num mu vo li si mn) (ht : nm ≤ 100000) : ownT F e = some nm := by
  unfold ownT
  rw [hF]
  show (if 15 = 15 then (if (14 : Int32).toNatClampNeg = 14 then some (nI nm).toNatClampNeg else _) else _) = _
  rw [if_pos rfl, if_pos (by decide), nI_clamp (by omega)]
theorem own_c {F : Nat → va_E} {e : Nat} {tk : Nat} {sg nm : Int32} {num : Int64} {mu : Int32} {vo li : Value} {sa mn cap s : Nat} {k : ClassId} {g : Nat → Int32} (hF : F e = xpC 8 tk sg nm num mu vo li (.ref sa) mn) (hs : F sa = .inl (k, cap, .inl g)) (hg : g 0 = nI s) (ht : s ≤ 100000) : ownT F e = some s := by
  unfold ownT
  rw [hF]
  show (if 15 = 15 then (if (8 : Int32).toNatClampNeg = 14 then _ else if (8 : Int32).toNatClampNeg = 8 then (match F sa with
        | .inl (_, _, .inl g) => some (g 0).toNatClampNeg
        | _ => none) else _) else _) = _
  rw [if_pos rfl, if_neg (by decide), if_pos (by decide), hs]
  show some (g 0).toNatClampNeg = _
  rw [hg, nI_clamp (by omega)]
theorem chP_ps {z : Nat} {P : Nat → Nat → Nat → Nat → Nat → Prop} {f : Nat → Option Nat} {g : Nat → Int32} {n : Nat} {ps bs : Nat → Nat} (hP : ∀ x p q b c : Nat, P x p q b c → p < q) (h : ∀ i : Nat, i < n → ∃ x p' s : Nat, f i = some x ∧ ps i < p' ∧ P x p' (ps (i + 1)) (bs i) (bs (i + 1)) ∧ g i = nI s ∧ ((s = 0 ∧ z = 0) ∨ (ps i ≤ s ∧ s < p'))) : ∀ (d : Nat) {i : Nat}, i + d ≤ n → ps i ≤ ps (i + d)
  | 0, _, _ => Nat.le_refl _
  | d + 1, i, hi => by
    have h1 := chP_ps hP h d (i := i) (by omega)
    obtain ⟨x, p', s, _, h2, h3, _⟩ := h (i + d) (by omega)
    have := hP _ _ _ _ _ h3
    show ps i ≤ ps (i + d + 1)
    omega
theorem isE_own {L : List Nat} {F : Nat → va_E} {kE kI : ClassId} {n k e p q b c : Nat} (h : isE L F kE kI n k e p q b c) (hq : q ≤ 100000) : ∃ t : Nat, ownT F e = some t ∧ p ≤ t ∧ t < q := by
  cases n with
  | zero => exact h.elim
  | succ n =>
    have hp := h.2.1
    rcases h.2.2 with ⟨kd, num, k1, k2, k3⟩ | ⟨k2, k3⟩ | ⟨kd, o, p', q', k1, k2, k3, k4, k5⟩ | ⟨mu, o, p', k1, k2, k3, k5⟩ | ⟨o, nm, q', k2, k3, k4, k5⟩ | ⟨o, q1, b1, mn, li, si, k2, k3, k5, k6⟩ | ⟨kd, sg, nm, mn, p', z9, li, si, k2, k3, k4, k5⟩
    · exact ⟨p, own_a k2 (by rcases k1 with e | e | e <;> subst e <;> decide) (by rcases k1 with e | e | e <;> subst e <;> decide) (by omega), Nat.le_refl _, hp⟩
    · exact ⟨p, own_a k2 (by decide) (by decide) (by omega), Nat.le_refl _, hp⟩
    · exact ⟨p, own_a k2 (by rcases k1 with e | e | e | e | e | e <;> subst e <;> decide) (by rcases k1 with e | e | e | e | e | e <;> subst e <;> decide) (by omega), Nat.le_refl _, hp⟩
    · exact ⟨p, own_a k2 (by decide) (by decide) (by omega), Nat.le_refl _, hp⟩
    · have := (isE_mem k5).2
      exact ⟨nm, own_m k2 (by omega), by omega, k4⟩
    · have h5 := (isE_mem k5).2
      obtain ⟨kz, _, k6⟩ := k6
      rcases k6 with ⟨w, _⟩ | ⟨la, sa, cap, q0, f, g, w1, w2, w3, w4, w5, w6, w7, w8, ps, bs, w9, w10, w11, w12, w13⟩
      · omega
      · obtain ⟨x, p', s, v1, v2, v3, v4, v5⟩ := w13 0 (by omega)
        have v6 : p' < ps 1 := (isE_mem v3).2
        have v7 := chP_ps (P := isE L F kE kI n kz) (fun x p q b c z => (isE_mem z).2) w13 (mn - 1) (n := mn) (i := 1) (by omega)
        rw [show 1 + (mn - 1) = mn by omega, w10] at v7
        have hs : ps 0 ≤ s ∧ s < p' := v5.elim (fun w => absurd w.2 (by decide)) id
        subst w2
        exact ⟨s, own_c k2 w6 v4 (by omega), by omega, by omega⟩
    · exact ⟨p, own_a k2 (by rcases k3 with ⟨e, _⟩ | ⟨e, _⟩ | ⟨e, _⟩ <;> subst e <;> decide) (by rcases k3 with ⟨e, _⟩ | ⟨e, _⟩ | ⟨e, _⟩ <;> subst e <;> decide) (by omega), Nat.le_refl _, hp⟩
