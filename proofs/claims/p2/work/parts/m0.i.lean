section LY8
variable {R : yR} {S0 S S1 A B : Sg} {P h L : Nat} {Γ Γ2 : List Nat} {α : Type} {K : Ky}
theorem nI_le0 {a : Nat} (h : a ≤ 100000) (q : nI a ≤ 0) : a = 0 := by
  have e : (nI a).toInt = (a : Int) := Int32.toInt_ofNat_of_lt (by omega)
  have g := Int32.le_iff_toInt_le.mp q
  rw [e] at g
  have : (0 : Int32).toInt = 0 := rfl
  omega
/-- a path w of N steps is being made -/
def PBd (K : Ky) (S A : Sg) (w N : Nat) (va : Value) (f : Nat → Int32) (g : Nat → Option Nat) (z m : Nat) : Prop := NW S A ∧ (w ∉ ZL S ∧ w + 1 ∉ ZL S ∧ w + 2 ∉ ZL S) ∧ (w ∈ ZL A ∧ ZF A w = .inr (18, [va, .int (nI N), .ref (w + 1), .ref (w + 2)])) ∧ (w + 1 ∈ ZL A ∧ ZF A (w + 1) = .inl (K.1 0, N, .inl f)) ∧ (w + 2 ∈ ZL A ∧ ZF A (w + 2) = .inl (K.1 4, N + 1, .inr (.inr (.inr (.inr g))))) ∧ Zz A = z ∧ Zn A = m
theorem PBd.o1 {n : Nat} (q : NPA K S A n) (hz : ∀ b ∈ ZL S, b < Zz S) : PBd K S A (Zz S) n .null (fun _ => 0) (fun _ => none) (Zz S + 3) (Zn S + 4 + n + (n + 1)) := by
  obtain ⟨w, _, q2, q3, q4, q5⟩ := q
  have t2 := q3 _ (List.mem_cons_self)
  have t1 := q3 _ (List.mem_cons_of_mem _ List.mem_cons_self)
  exact ⟨w, ⟨fun e => by have := hz _ e; omega, fun e => by have := hz _ e; omega, fun e => by have := hz _ e; omega⟩, q2, t1.2, t2.2, q4, q5⟩
theorem PBd.wo {w N z m : Nat} {va v2 : Value} {f : Nat → Int32} {g : Nat → Option Nat} (q : PBd K S A w N va f g z m) : PBd K S (UF A w (.inr (18, [v2, .int (nI N), .ref (w + 1), .ref (w + 2)]))) w N v2 f g z m := by
  obtain ⟨q1, q2, q3, q4, q5, q6⟩ := q
  exact ⟨q1.uF q2.1, q2, ⟨q3.1, ZF_s⟩, ⟨q4.1, (ZF_n (by omega)).trans q4.2⟩, ⟨q5.1, (ZF_n (by omega)).trans q5.2⟩, q6⟩
theorem PBd.wf {w N z m : Nat} {va : Value} {f f2 : Nat → Int32} {g : Nat → Option Nat} (q : PBd K S A w N va f g z m) : PBd K S (UF A (w + 1) (.inl (K.1 0, N, .inl f2))) w N va f2 g z m := by
  obtain ⟨q1, q2, q3, q4, q5, q6⟩ := q
  exact ⟨q1.uF q2.2.1, q2, ⟨q3.1, (ZF_n (by omega)).trans q3.2⟩, ⟨q4.1, ZF_s⟩, ⟨q5.1, (ZF_n (by omega)).trans q5.2⟩, q6⟩
theorem PBd.wg {w N z m : Nat} {va : Value} {f : Nat → Int32} {g g2 : Nat → Option Nat} (q : PBd K S A w N va f g z m) : PBd K S (UF A (w + 2) (.inl (K.1 4, N + 1, .inr (.inr (.inr (.inr g2)))))) w N va f g2 z m := by
  obtain ⟨q1, q2, q3, q4, q5, q6⟩ := q
  exact ⟨q1.uF q2.2.2, q2, ⟨q3.1, (ZF_n (by omega)).trans q3.2⟩, ⟨q4.1, (ZF_n (by omega)).trans q4.2⟩, ⟨q5.1, ZF_s⟩, q6⟩
/-- the steps and types of a way -/
def wyT (R : yR) (S0 : Sg) (f : Nat → Int32) (g : Nat → Option Nat) (π : List (Nat × Nat)) (x : Nat) : Prop := (∀ (j : Nat) (s : Nat × Nat), π[j]? = some s → f j = sCo s ∧ ∃ x y : Nat, g j = some x ∧ g (j + 1) = some y ∧ stY2 R S0 x s y) ∧ (∀ j x : Nat, j ≤ π.length → g j = some x → rTy S0 x) ∧ g π.length = some x
theorem wyT.ap {f : Nat → Int32} {g : Nat → Option Nat} {π : List (Nat × Nat)} {s : Nat × Nat} {y x : Nat} (q : wyT R S0 f g π y) (h1 : f π.length = sCo s) (h2 : g (π.length + 1) = some x) (h3 : stY2 R S0 y s x) (h4 : rTy S0 x) : wyT R S0 f g (π ++ [s]) x := by
  have hl : (π ++ [s]).length = π.length + 1 := by rw [List.length_append]; rfl
  refine ⟨fun j t e => ?_, fun j u hj e => ?_, by rw [hl]; exact h2⟩
  · have hj : j < π.length + 1 := by rw [← hl]; exact (List.getElem?_eq_some_iff.mp e).1
    by_cases w : j < π.length
    · rw [List.getElem?_append_left w] at e; exact q.1 j t e
    · have w2 : j = π.length := by omega
      subst w2
      rw [List.getElem?_append_right (Nat.le_refl _), Nat.sub_self] at e
      cases e
      exact ⟨h1, y, x, q.2.2, h2, h3⟩
  · rw [hl] at hj
    by_cases w : j ≤ π.length
    · exact q.2.1 j u w e
    · have w2 : j = π.length + 1 := by omega
      subst w2
      rw [h2] at e; cases e; exact h4
/-- the types behind the typing are there -/
def RIn (R : yR) (S0 : Sg) : Prop := ∀ a ∈ ZL R.S, a ∈ ZL S0
/-- the loop of pathOf -/
theorem pt35 {w N z m : Nat} (c : LC R S0 S P h Γ2 L) (hL : RIn R S0) (hN : N ≤ 1000) : ∀ {n k : Nat} {A : Sg} {e p q v : Nat} {π : List (Nat × Nat)} {x mu mv : Nat} {va : Value} {f : Nat → Int32} {g : Nat → Option Nat}, PBd R.K S A w N va f g z m → xPl R S0 Γ n e p q v π x mu mv → (∃ (kd : Int32) (fs : List Value), ZF S0 e = .inr (15, fs) ∧ fs[0]? = some (.int kd) ∧ (kd = 2 ∨ kd = 11 ∨ kd = 14)) → n ≤ k → n ≤ 1000 → π.length ≤ N → Rt (f_pathOf_35 R.K k A (some e) (some w) (nI π.length)) (fun A2 r => r = some w ∧ ∃ (f2 : Nat → Int32) (g2 : Nat → Option Nat) (ix tv : Nat) (nm mt : Int32), PBd R.K S A2 w N (.ref v) f2 g2 z m ∧ wyT R S0 f2 g2 π x ∧ isV S0 v ix nm (some tv) mt ∧ g2 0 = some tv ∧ v ∈ Γ ∧ (∀ j : Nat, π.length ≤ j → f2 j = f j) ∧ ∀ j : Nat, π.length < j → g2 j = g j)
  | 0, _, _, _, _, _, _, _, _, _, _, _, _, _, _, h, _, _, _, _ => h.elim
  | n + 1, 0, _, _, _, _, _, _, _, _, _, _, _, _, _, _, _, hm, _, _ => absurd hm (by omega)
  | n + 1, k + 1, A, e, p, q, v, π, x, mu, mv, va, f, g, b, h, hk, hm, hn, hp => by
    obtain ⟨⟨h1, h2, h3⟩, h4, h5⟩ := h
    have hx : LX S0 A := c.1.tr (b.1.lz (P := 0) (L := 0)).1
    have hrd : ∀ {l : Nat} {o : Option Nat} {fs : List Value}, ZF S0 e = .inr (15, fs) → fs[l]? = some (va_rf o) → oR A 15 (some e) l = some o := fun g1 g2 => hx.vr (by decide) (by decide) (oR_mk (hL e h1) g1 g2)
    have hri : ∀ {l : Nat} {o : Int32} {fs : List Value}, ZF S0 e = .inr (15, fs) → fs[l]? = some (.int o) → oI A 15 (some e) l = some o := fun g1 g2 => hx.vi (by decide) (by decide) (oI_mk (hL e h1) g1 g2)
    have hgo : ∀ {o p' q' y m2 w2 : Nat} {π2 : List (Nat × Nat)} {s : Nat × Nat} {kd : Int32} {fs : List Value}, ZF S0 e = .inr (15, fs) → fs[0]? = some (.int kd) → fs[12]? = some (.ref x) → ((kd = 14 ∧ fs[4]? = some (.int (sCo s))) ∨ (kd = 11 ∧ sCo s = -1)) → fs[8]? = some (.ref o) → xPl R S0 Γ n o p' q' v π2 y m2 w2 → π = π2 ++ [s] → stY2 R S0 y s x → Rt (f_pathOf_35 R.K (k + 1) A (some e) (some w) (nI π.length)) (fun A2 r => r = some w ∧ ∃ (f2 : Nat → Int32) (g2 : Nat → Option Nat) (ix tv : Nat) (nm mt : Int32), PBd R.K S A2 w N (.ref v) f2 g2 z m ∧ wyT R S0 f2 g2 π x ∧ isV S0 v ix nm (some tv) mt ∧ g2 0 = some tv ∧ v ∈ Γ ∧ (∀ j : Nat, π.length ≤ j → f2 j = f j) ∧ ∀ j : Nat, π.length < j → g2 j = g j) := fun {o p' q' y m2 w2 π2 s kd fs} g1 g2 g12 g3 g4 g5 g6 g7 => by
      have hl : π.length = π2.length + 1 := by rw [g6, List.length_append]; rfl
      obtain ⟨n2, e2, p3, q3, a1, a2, a3, a4, a5, a6⟩ := bare_ (K := R.K) hL g5 (by omega)
      unfold f_pathOf_35
      rw [hl]
      refine Rt.iq (fun q => absurd (nI_le0 (by omega) q) (by omega)) ?_
      refine Rt.bd (oR_mk b.2.2.1.1 b.2.2.1.2 (v := some (w + 2)) rfl) (Rt.bd (hrd g1 (o := some x) g12) ?_)
      have hok : okO A 20 (some x) = true := hx.okT (by obtain ⟨kd, ix, o, q, _⟩ := h4.ty; exact ⟨kd, ix, o, q⟩)
      refine Rt.bd (bQ_n (j := π2.length + 1) b.2.2.2.2.1.1 b.2.2.2.2.1.2 (by omega) (by omega) hok) ?_
      have b1 := b.wg (g2 := va_up g (π2.length + 1) (some x))
      have l1 : LX A (UF A (w + 2) (.inl (R.K.1 4, N + 1, .inr (.inr (.inr (.inr (va_up g (π2.length + 1) (some x)))))))) ∨ True := Or.inr trivial
      generalize UF A (w + 2) (.inl (R.K.1 4, N + 1, .inr (.inr (.inr (.inr (va_up g (π2.length + 1) (some x))))))) = B at b1
      clear l1
      have hxB : LX S0 B := c.1.tr (b1.1.lz (P := 0) (L := 0)).1
      have hrB : ∀ {l : Nat} {o : Option Nat}, fs[l]? = some (va_rf o) → oR B 15 (some e) l = some o := fun g2 => hxB.vr (by decide) (by decide) (oR_mk (hL e h1) g1 g2)
      have hiB : ∀ {l : Nat} {o : Int32}, fs[l]? = some (.int o) → oI B 15 (some e) l = some o := fun g2 => hxB.vi (by decide) (by decide) (oI_mk (hL e h1) g1 g2)
      refine Rt.bd (oR_mk b1.2.2.1.1 b1.2.2.1.2 (v := some (w + 1)) rfl) (Rt.bd (hiB g2) ?_)
      have es : nI (π2.length + 1) - 1 = nI π2.length := by rw [nI_sb1 (by omega)]; rfl
      have ed : nI (π2.length + 1) + (-1) = nI π2.length := by rw [← es]; exact (Int32.sub_eq_add_neg ..).symm
      have h78 : Rt (f_pathOf_78 R.K (f_pathOf_35 R.K k) B (some e) (some w) (nI (π2.length + 1)) (sCo s) (nI (π2.length + 1) - 1) (some (w + 1))) (fun A2 r => r = some w ∧ ∃ (f2 : Nat → Int32) (g2 : Nat → Option Nat) (ix tv : Nat) (nm mt : Int32), PBd R.K S A2 w N (.ref v) f2 g2 z m ∧ wyT R S0 f2 g2 π x ∧ isV S0 v ix nm (some tv) mt ∧ g2 0 = some tv ∧ v ∈ Γ ∧ (∀ j : Nat, π.length ≤ j → f2 j = f j) ∧ ∀ j : Nat, π.length < j → g2 j = g j) := by
        unfold f_pathOf_78
        rw [es, ed]
        refine Rt.bd (bI_n (j := π2.length) b1.2.2.2.1.1 b1.2.2.2.1.2 (by omega) (by omega)) ?_
        have b2 := b1.wf (f2 := upd f π2.length (sCo s))
        generalize UF B (w + 1) (.inl (R.K.1 0, N, .inl (upd f π2.length (sCo s)))) = C at b2
        have hxC : LX S0 C := c.1.tr (b2.1.lz (P := 0) (L := 0)).1
        refine Rt.bd (hxC.vr (by decide) (by decide) (oR_mk (hL e h1) g1 (v := some o) g4)) (Rt.be (hxC.bare a2) ?_)
        refine Rt.mo (pt35 c hL hN b2 a3 a6 (by omega) (by omega) (by omega)) (fun A2 r t => ?_)
        obtain ⟨t1, f2, g2, ix, tv, nm, mt, t2, t3, t4, t5, t6, t7, t8⟩ := t
        refine ⟨t1, f2, g2, ix, tv, nm, mt, t2, ?_, t4, t5, t6, fun j hj => ?_, fun j hj => ?_⟩
        · rw [g6]
          exact t3.ap ((t7 _ (Nat.le_refl _)).trans (if_pos rfl)) ((t8 _ (Nat.lt_succ_self _)).trans (va_up_self _ _ _)) g7 h4
        · rw [t7 j (by omega)]; exact if_neg (by omega)
        · rw [t8 j (by omega)]; exact va_up_ne _ _ (by omega)
      rw [hl] at h78
      rcases g3 with ⟨k1, k2⟩ | ⟨k1, k2⟩
      · exact Rt.iq (by rw [k1]; decide) (Rt.bd (hiB k2) h78)
      · rw [k2] at h78
        exact Rt.ip k1 h78
    rcases h5 with ⟨ix, nm, k1, k2, k3, k4, k5, k6⟩ | ⟨o, p', q', k1, k2, k3, k4⟩ | ⟨o, p', q', y, m2, w2, kd, π2, k1, k2, k3, k4, k5, k6, k7⟩ | ⟨o, nm, q', y, i, kf, w2, π2, k1, k2, k3, k4, k5, k6, k7, k8⟩
    · subst k2
      unfold f_pathOf_35
      refine Rt.ip (by decide) (Rt.bd (oR_mk b.2.2.1.1 b.2.2.1.2 (v := some (w + 2)) rfl) (Rt.bd (hrd k1 (o := some v) rfl) ?_))
      obtain ⟨wh, v1, v2, v3⟩ := (c.nw b.1).2.2.2.2.2.2.1 v ix nm (some x) _ k4
      have hok : okO A 20 (some x) = true := hx.okT (by obtain ⟨kd, ix, o, q, _⟩ := h4.ty; exact ⟨kd, ix, o, q⟩)
      refine Rt.bd (oR_mk v1 v2 (v := some x) rfl) (Rt.bd (bQ_n (j := 0) b.2.2.2.2.1.1 b.2.2.2.2.1.2 (by omega) (by omega) hok) ?_)
      have b1 := b.wg (g2 := va_up g 0 (some x))
      generalize UF A (w + 2) (.inl (R.K.1 4, N + 1, .inr (.inr (.inr (.inr (va_up g 0 (some x))))))) = B at b1
      have hxB : LX S0 B := c.1.tr (b1.1.lz (P := 0) (L := 0)).1
      refine Rt.bd (hxB.vr (by decide) (by decide) (oR_mk (hL e h1) k1 (v := some v) rfl)) (Rt.bd (pV_e (f2 := [.ref v, .int (nI N), .ref (w + 1), .ref (w + 2)]) b1.2.2.1.1 b1.2.2.1.2 rfl rfl) (Rt.rt ⟨rfl, f, va_up g 0 (some x), ix, x, nm, _, b1.wo, ⟨(fun j s e => nomatch e), fun j u hj e => ?_, va_up_self _ _ _⟩, k4, va_up_self _ _ _, k3, fun _ _ => rfl, fun j hj => va_up_ne _ _ (Nat.ne_of_gt hj)⟩))
      have hj : j = 0 := Nat.le_zero.mp hj
      subst hj
      rw [va_up_self] at e; cases e; exact h4
    · obtain ⟨kd, fs, w1, w2, w3⟩ := hk
      rw [k1] at w1; cases w1; cases w2
      exact absurd w3 (by decide)
    · exact hgo k1 rfl rfl (Or.inr ⟨rfl, rfl⟩) rfl k4 k6 (Or.inl ⟨rfl, kd, k7.imp (fun w => w.1) (fun w => w.imp (fun w => w.1) (fun w => w.1)), k5⟩)
    · exact hgo (s := (0, kf)) k1 rfl rfl (Or.inl ⟨rfl, rfl⟩) rfl k4 k7 (Or.inr (Or.inl ⟨i, kf, rfl, k5, k6⟩))
/-- a path: object w, variable va of number ix and type tv, the way, the type it leads to -/
def isPw (R : yR) (S0 S : Sg) (w va ix tv : Nat) (ρ : List (Nat × Nat)) (x : Nat) : Prop := ∃ (sa ta : Nat) (f : Nat → Int32) (g : Nat → Option Nat), w ∈ ZL S ∧ ZF S w = .inr (18, [.ref va, .int (nI ρ.length), .ref sa, .ref ta]) ∧ (sa ∈ ZL S ∧ ZF S sa = .inl (R.K.1 0, ρ.length, .inl f)) ∧ (ta ∈ ZL S ∧ ZF S ta = .inl (R.K.1 4, ρ.length + 1, .inr (.inr (.inr (.inr g))))) ∧ wyT R S0 f g ρ x ∧ g 0 = some tv ∧ ∃ nm mt : Int32, isV S0 va ix nm (some tv) mt
theorem isPw.st {w va ix tv x : Nat} {ρ : List (Nat × Nat)} (hx : LX S S1) (q : isPw R S0 S w va ix tv ρ x) : isPw R S0 S1 w va ix tv ρ x := by
  obtain ⟨sa, ta, f, g, q1, q2, q3, q4, q5⟩ := q
  obtain ⟨h1, h2⟩ := hx.ob q1 q2 (by decide) (by decide)
  exact ⟨sa, ta, f, g, h1, h2, hx.ro q3.1 q3.2, hx.ro q4.1 q4.2, q5⟩
theorem isPw.pt {w va ix tv x : Nat} {ρ : List (Nat × Nat)} (c : LC R S0 S P h Γ L) (hl : ρ.length ≤ 5) (q : isPw R S0 S w va ix tv ρ x) : isPt R S0 S w ix ρ (abT S0 x) := by
  obtain ⟨sa, ta, f, g, q1, q2, q3, q4, q5, q6, nm, mt, q7⟩ := q
  obtain ⟨wh, v1, v2, v3⟩ := c.2.2.2.2.2.2.1 va ix nm (some tv) mt q7
  exact ⟨va, sa, ta, f, g, mt, q1, q2, ⟨v1, nm, wh, by rw [q6]; exact v2⟩, q3, q4, q5.1, q5.2.1, by rw [q5.2.2]; rfl, hl⟩
theorem isPw.va {w va ix tv x : Nat} {ρ : List (Nat × Nat)} (q : isPw R S0 S w va ix tv ρ x) : pVa S w va := by
  obtain ⟨_, _, _, _, _, q2, _⟩ := q
  exact ⟨_, q2, rfl⟩
theorem PBd.pw {w N z m v ix tv x : Nat} {f : Nat → Int32} {g : Nat → Option Nat} {π : List (Nat × Nat)} {nm mt : Int32} (b : PBd R.K S A w N (.ref v) f g z m) (hN : N = π.length) (hw : wyT R S0 f g π x) (hV : isV S0 v ix nm (some tv) mt) (hg : g 0 = some tv) : isPw R S0 A w v ix tv π x := by
  subst hN
  exact ⟨w + 1, w + 2, f, g, b.2.2.1.1, b.2.2.1.2, b.2.2.2.1, b.2.2.2.2.1, hw, hg, nm, mt, hV⟩
theorem whP.pw {a w ix x : Nat} {nm mt : Int32} (q : whP R S a w (some x)) (hV : isV S0 a ix nm (some x) mt) (hr : rTy S0 x) : isPw R S0 S w a ix x [] x := by
  obtain ⟨sa, ta, f, g, q1, q2, q3, q4, q5⟩ := q
  exact ⟨sa, ta, f, g, q1, q2, q3, q4, ⟨(fun j s e => nomatch e), fun j u hj e => by have hj : j = 0 := Nat.le_zero.mp hj; subst hj; rw [q5] at e; cases e; exact hr, q5⟩, q5, nm, mt, hV⟩
/-- pathOf -/
theorem pth_ {n e p q v x mu mv : Nat} {π : List (Nat × Nat)} (c : LC R S0 S P h Γ2 L) (hL : RIn R S0) (hp : xPl R S0 Γ n e p q v π x mu mv) (hn : n ≤ 1000) (hπ : π.length ≤ 4) (h1 : Zz S + 3 ≤ R.K.2.1) (h2 : Zn S + 13 ≤ R.K.2.2) : Rt (f_pathOf R.K S (some e)) (fun S1 r => ∃ w ix tv : Nat, r = some w ∧ LC R S0 S1 P h Γ2 L ∧ KX S S1 ∧ isPw R S0 S1 w v ix tv π x ∧ v ∈ Γ ∧ Zz S1 ≤ Zz S + 3 ∧ Zn S1 ≤ Zn S + 13 ∧ UsK S0 S S1 ∧ PN S0 S S1 w) := by
  obtain ⟨n2, e2, p3, q3, a1, a2, a3, a4, a5, a6⟩ := bare_ (K := R.K) hL hp hn
  have hb := c.1.bare a2
  have hd : f_depth R.K S (some e) = some (S, nI π.length) := by
    unfold f_depth
    rw [hb]
    show f_depth_7 R.K bigN S (nI 0) (some e2) = _
    rw [c.1.dep7 hL a3 a6 (by show n2 ≤ 1000000000000; omega) (by omega), Nat.zero_add]
  unfold f_pathOf
  refine Rt.be hb (Rt.be hd ?_)
  cases π with
  | nil =>
    refine Rt.ip rfl ?_
    cases n2 with
    | zero => exact a3.elim
    | succ n2 =>
      obtain ⟨⟨b1, b2, b3⟩, b4, b5⟩ := a3
      rcases b5 with ⟨ix, nm, k1, k2, k3, k4, k5, k6⟩ | ⟨o, p', q', k1, k2, k3, k4⟩ | ⟨o, p', q', y, m2, w2, kd, π2, k1, k2, k3, k4, k5, k6, k7⟩ | ⟨o, nm, q', y, i, kf, w2, π2, k1, k2, k3, k4, k5, k6, k7, k8⟩
      · refine Rt.bd (c.1.vr (by decide) (by decide) (oR_mk (hL e2 b1) k1 (v := some v) rfl)) ?_
        refine Rt.bn (whl_ c k4 (fun y e => by cases e; obtain ⟨kd, ix, o, q, _⟩ := b4.ty; exact ⟨kd, ix, o, q⟩) h1 (by omega)) (fun S1 r t => Rt.rt ?_)
        obtain ⟨w, t1, t2, t3, t4, t5, t6, t7, t8⟩ := t
        exact ⟨w, ix, x, t1, t2, t3, t4.pw k4 b4, k3, t5, by omega, t7, t8⟩
      · obtain ⟨kd, fs, w1, w2, w3⟩ := a6
        rw [k1] at w1; cases w1; cases w2
        exact absurd w3 (by decide)
      · exact absurd (congrArg List.length k6) (by rw [List.length_append]; show ¬ (0 = π2.length + 1); omega)
      · exact absurd (congrArg List.length k7) (by rw [List.length_append]; show ¬ (0 = π2.length + 1); omega)
  | cons s π =>
    refine Rt.iq (fun w => ?_) ?_
    · have := nI_ij (a := (s :: π).length) (b := 0) w (by omega) (by decide)
      exact absurd this (by rw [List.length_cons]; omega)
    · refine npt_ c.hz (by omega) h1 (by omega) (fun A qA => ?_)
      have b := PBd.o1 qA c.hz
      refine Rt.mo (pt35 c hL (by omega) b a3 a6 (by show n2 ≤ 1000000000000; omega) (by omega) (Nat.le_refl _)) (fun A2 r t => ?_)
      obtain ⟨t1, f2, g2, ix, tv, nm, mt, t2, t3, t4, t5, t6, t7, t8⟩ := t
      have z1 := t2.2.2.2.2.2.1
      have z2 := t2.2.2.2.2.2.2
      refine ⟨Zz S, ix, tv, t1, c.nw t2.1, t2.1.kx, t2.pw rfl t3 t4 t5, t6, by omega, by omega, NW.us c t2.1, fun gs y e1 e2 hy => ?_⟩
      rw [t2.2.2.1.2] at e1; cases e1
      cases e2
      exact absurd hy t2.2.1.2.1
end LY8
