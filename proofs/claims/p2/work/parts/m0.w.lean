section LY22
variable {R : yR} {S0 Sb S S1 S2 : Sg} {P h h0 L Lb z n : Nat} {Γ Γ0 Γ2 : List Nat} {E : eV} {s s2 : List tE} {V : Sg → Option Nat → Option (Sg × Unit)}
/-- an exp's type stands in its cell -/
theorem xPl_ty {nn e p q v x mu mv : Nat} {π : List (Nat × Nat)} (h : xPl R S Γ nn e p q v π x mu mv) : ∃ gs : List Value, e ∈ ZL R.S ∧ ZF S e = .inr (15, gs) ∧ gs[12]? = some (.ref x) := by
  cases nn with
  | zero => exact h.elim
  | succ nn =>
    obtain ⟨⟨h1, _, _⟩, _, ⟨ix, nm, k1, _⟩ | ⟨o, p', q', k1, _⟩ | ⟨o, p', q', y, m2, w2, kd, π2, k1, _⟩ | ⟨o, nm, q', y, i, k, w2, π2, k1, _⟩⟩ := h
    · exact ⟨_, h1, k1, rfl⟩
    · exact ⟨_, h1, k1, rfl⟩
    · exact ⟨_, h1, k1, rfl⟩
    · exact ⟨_, h1, k1, rfl⟩
theorem xE_t12 {nn kk e p q b c x : Nat} (h : xE R S Γ nn kk e p q b c x) : ∃ gs : List Value, e ∈ ZL R.S ∧ ZF S e = .inr (15, gs) ∧ gs[12]? = some (.ref x) := by
  cases nn with
  | zero => exact h.elim
  | succ nn =>
    obtain ⟨⟨h1, _, _⟩, _, ⟨v, π, mu, mv, kd, ix, o, k1, _⟩ | h5⟩ := h
    · exact xPl_ty k1
    · have h5 : xNp R S Γ nn kk e p q b c x := h5
      rcases h5 with ⟨kd, num, k1, k2, _⟩ | ⟨kd, o, p', q', y, k1, _⟩ | ⟨mu, o, p', v, y, m2, w2, π, k1, _⟩ | ⟨o, q1, b1, mn, li, si, f, g, tx, tt, k1, _⟩ | ⟨i, mn, p', z, li, si, f, g, tx, k1, _⟩ | ⟨i, mn, p', li, si, f, g, tx, fo, k1, _⟩ | ⟨i, v, mn, p', z, li, si, f, g, tx, k1, _⟩
      · exact ⟨_, h1, k2, rfl⟩
      · exact ⟨_, h1, k1, rfl⟩
      · exact ⟨_, h1, k1, rfl⟩
      · exact ⟨_, h1, k1, rfl⟩
      · exact ⟨_, h1, k1, rfl⟩
      · exact ⟨_, h1, k1, rfl⟩
      · exact ⟨_, h1, k1, rfl⟩
theorem arL_le {b : Nat} {Q : Nat → Bool} {k : Nat} : ∀ {m : Nat}, k ≤ m → (arL b Q k).length ≤ (arL b Q m).length
  | 0, h => by rw [Nat.le_zero.mp h]; exact Nat.le_refl _
  | m + 1, h => by
    by_cases e : k = m + 1
    · rw [e]; exact Nat.le_refl _
    · have := arL_le (b := b) (Q := Q) (k := k) (m := m) (by omega)
      show _ ≤ (arL b Q m ++ _).length
      rw [List.length_append]; omega
theorem arL_ln {b : Nat} {Q : Nat → Bool} : ∀ (m : Nat), (arL b Q m).length ≤ m
  | 0 => Nat.le_refl _
  | m + 1 => by
    have := arL_ln (b := b) (Q := Q) m
    show (arL b Q m ++ (if Q m then [40 + (b + m)] else [])).length ≤ m + 1
    rw [List.length_append]
    by_cases e : Q m = true
    · rw [if_pos e]; show _ + 1 ≤ _; omega
    · rw [if_neg e]; show _ + 0 ≤ _; omega
theorem arL_S {b k : Nat} {Q : Nat → Bool} (h : Q k = true) : arL b Q (k + 1) = arL b Q k ++ [40 + (b + k)] := by
  show arL b Q k ++ (if Q k then [40 + (b + k)] else []) = _
  rw [if_pos h]
theorem arL_N {b k : Nat} {Q : Nat → Bool} (h : ¬ Q k = true) : arL b Q (k + 1) = arL b Q k := by
  show arL b Q k ++ (if Q k then [40 + (b + k)] else []) = _
  rw [if_neg h, List.append_nil]
/-- the arguments of a call: the row of exps, their types, the item -/
def CLa (R : yR) (S0 : Sg) (e i mn : Nat) (tx : Nat → Nat) (go : Nat → Int32) (rl : Int32) : Prop := e ∈ ZL R.S ∧ (∃ gs : List Value, ZF S0 e = .inr (15, gs) ∧ gs[4]? = some (.int (nI i)) ∧ gs[11]? = some (.int (nI mn)) ∧ (mn = 0 ∨ ∃ (la cap : Nat) (f : Nat → Option Nat), gs[9]? = some (.ref la) ∧ la ∈ ZL R.S ∧ ZF S0 la = .inl (R.K.1 9, cap, .inr (.inr (.inr (.inr f)))) ∧ mn ≤ cap ∧ ∀ k : Nat, k < mn → ∃ (y : Nat) (ys : List Value), f k = some y ∧ y ∈ ZL R.S ∧ ZF S0 y = .inr (15, ys) ∧ ys[12]? = some (.ref (tx k)) ∧ rTy S0 (tx k))) ∧ mn ≤ 12 ∧ i < 70 ∧ Zq S0 11 i = some (R.ws i) ∧ R.ws i ∈ ZL S0 ∧ ∃ (fs : List Value) (lo : Nat), ZF S0 (R.ws i) = .inr (16, fs) ∧ fs[7]? = some (.int rl) ∧ fs[13]? = some (.ref lo) ∧ lo ∈ ZL S0 ∧ ZF S0 lo = .inl (R.K.1 0, 13, .inl go)
/-- an argument that is held -/
def hlB (S0 : Sg) (tx : Nat → Nat) (go : Nat → Int32) (life : Int32) (q : Nat) : Bool := decide (10000 ≤ abT S0 (tx q) ∧ abT S0 (tx q) < 30000) && (decide (life < 0) || decide (go q = life))
theorem NW.lx (b : NW S S1) : LX S S1 := (b.lz (P := 0) (L := 0)).1
/-- isHeld -/
theorem ish_ {e i mn k : Nat} {tx : Nat → Nat} {go : Nat → Int32} {rl life : Int32} (hL : RIn R S0) (hY : YK R S0) (hC : CLa R S0 e i mn tx go rl) (hx : LX S0 S) (hk : k < mn) : f_isHeld R.K S (some e) (nI k) life = some (S, if hlB S0 tx go life k = true then 1 else 0) := by
  obtain ⟨he, ⟨gs, g1, g2, g3, g4⟩, hm, hi, hq, hw, fs, lo, f1, f2, f3, f4, f5⟩ := hC
  obtain ⟨la, cap, f, l1, l2, l3, l4, l5⟩ := g4.resolve_left (by omega)
  obtain ⟨y, ys, y1, y2, y3, y4, y5⟩ := l5 k hk
  obtain ⟨kd, ix, o, yt, _⟩ := y5.ty
  obtain ⟨r1, r2⟩ := hx.ro (hL la l2) l3
  obtain ⟨w1, fs2, w2, w3, w4⟩ := hx.it hw f1
  obtain ⟨lo1, lo2⟩ := hx.ro f4 f5
  have hrf := y5.rf hY yt
  unfold f_isHeld f_isHeld_37 f_isHeld_41 f_isHeld_42
  rw [hx.vr (by decide) (by decide) (oR_mk (hL e he) g1 (v := some la) l1), Option.bind_some, aQ_j r1 r2 (by omega) (by omega), Option.bind_some, y1, hx.vr (by decide) (by decide) (oR_mk (hL y y2) y3 (v := some (tx k)) y4), Option.bind_some, ref_ (hx.ty yt)]
  have hz1 : (zB 1).bind (fun _ => some (S, (1 : Int32))) = some (S, 1) := rfl
  have hz0 : (zB 0).bind (fun _ => some (S, (0 : Int32))) = some (S, 0) := rfl
  by_cases h6 : kd = 6 ∨ kd = 7
  · have hd := hrf.mpr h6
    rw [if_pos h6, bnd_s, if_neg (by decide)]
    by_cases hl : life < 0
    · rw [if_pos hl, hz1, if_pos (by unfold hlB; rw [decide_eq_true (show 10000 ≤ abT S0 (tx k) ∧ abT S0 (tx k) < 30000 from hd), decide_eq_true hl]; rfl)]
    · rw [if_neg hl, hx.vi (by decide) (by decide) (oI_mk (hL e he) g1 (v := nI i) g2), Option.bind_some, rQ_n (show i < rlen 11 from hi) (by decide), Option.bind_some, hx.2.2.2.2.1 11 (fun w => by rcases w with w | w | w <;> omega), hq, oR_mk w1 w2 (v := some lo) ((w4 13 (by decide) (Or.inl (by decide))).trans f3), Option.bind_some, aI_j lo1 lo2 (by omega) (by omega), Option.bind_some]
      by_cases hg : go k = life
      · rw [if_pos hg, hz1, if_pos (by unfold hlB; rw [decide_eq_true (show 10000 ≤ abT S0 (tx k) ∧ abT S0 (tx k) < 30000 from hd), decide_eq_true hg, Bool.or_true]; rfl)]
      · rw [if_neg hg, hz0, if_neg (by unfold hlB; rw [decide_eq_false hg, decide_eq_false hl]; simp)]
  · have hd : ¬ (10000 ≤ abT S0 (tx k) ∧ abT S0 (tx k) < 30000) := fun w => h6 (hrf.mp w)
    rw [if_neg h6, bnd_s, if_pos rfl, hz0, if_neg (by unfold hlB; rw [decide_eq_false hd]; simp)]
/-- held: the second round, the row is filled -/
theorem hld54 {e i mn b a N z1 n1 : Nat} {tx : Nat → Nat} {go : Nat → Int32} {rl life : Int32} (hL : RIn R S0) (hY : YK R S0) (hC : CLa R S0 e i mn tx go rl) (hx : LX S0 S) (hb : b ≤ 177) (hN : N = (arL b (hlB S0 tx go life) mn).length) (ha : a ∉ ZL S) : ∀ (m k : Nat) (S1 : Sg) (f : Nat → Int32), mn < k + m → k ≤ mn → NW S S1 → (a ∈ ZL S1 ∧ ZF S1 a = .inl (R.K.1 0, N, .inl f)) → (Zz S1 = z1 ∧ Zn S1 = n1) → (∀ j x : Nat, (arL b (hlB S0 tx go life) k)[j]? = some x → f j = nI x ∧ x < 24000) → Rt (f_held_54 R.K m S1 (some e) (nI b) life (nI (arL b (hlB S0 tx go life) k).length) (some a) (nI k)) (fun S2 r => r = some a ∧ NW S S2 ∧ (∃ f : Nat → Int32, a ∈ ZL S2 ∧ ZF S2 a = .inl (R.K.1 0, N, .inl f) ∧ ∀ j x : Nat, (arL b (hlB S0 tx go life) mn)[j]? = some x → f j = nI x ∧ x < 24000) ∧ Zz S2 = z1 ∧ Zn S2 = n1)
  | 0, k, S1, f, hm, hk, _, _, _, _ => by omega
  | m + 1, k, S1, f, hm, hk, w, hf, hz, hj => by
    have hx1 : LX S0 S1 := hx.tr w.lx
    have hC2 := hC
    obtain ⟨he, ⟨gs, g1, g2, g3, g4⟩, hm12, _⟩ := hC2
    have hln := arL_ln (b := b) (Q := hlB S0 tx go life) mn
    unfold f_held_54 f_held_89
    refine Rt.bd (hx1.vi (by decide) (by decide) (oI_mk (hL e he) g1 (v := nI mn) g3)) (Rt.it (fun q => ?_) (fun q => ?_))
    · have : mn ≤ k := (nI_leI (by omega) (by omega)).mp q
      obtain rfl : k = mn := by omega
      exact Rt.rt ⟨rfl, w, ⟨f, hf.1, hf.2, hj⟩, hz⟩
    · have hlt : k < mn := by
        by_cases e : k < mn
        · exact e
        · exact absurd (nI_le (a := mn) (b := k) (by omega) (by omega)) q
      refine Rt.be (ish_ (life := life) hL hY hC hx1 hlt) ?_
      by_cases hq : hlB S0 tx go life k = true
      · rw [if_pos hq]
        refine Rt.iq (by decide) ?_
        unfold f_temporary
        rw [nI_add]
        refine Rt.be (r := nI (40 + (b + k))) (by rw [← nI_add 40 (b + k)]; rfl) ?_
        have hS := arL_S (b := b) hq
        have hle := arL_le (b := b) (Q := hlB S0 tx go life) (k := k + 1) (m := mn) (by omega)
        rw [hS, List.length_append] at hle
        have hle : (arL b (hlB S0 tx go life) k).length + 1 ≤ (arL b (hlB S0 tx go life) mn).length := hle
        refine Rt.bd (bI_n hf.1 hf.2 (show (arL b (hlB S0 tx go life) k).length < N by omega) (by omega)) ?_
        rw [nI_1, nI_1]
        have e1 : (arL b (hlB S0 tx go life) k).length + 1 = (arL b (hlB S0 tx go life) (k + 1)).length := by rw [hS, List.length_append]; rfl
        rw [e1]
        refine hld54 hL hY hC hx hb hN ha m (k + 1) _ _ (by omega) (by omega) (w.uF ha) ⟨hf.1, ZF_s⟩ hz (fun j x hjx => ?_)
        rw [hS] at hjx
        by_cases ej : j < (arL b (hlB S0 tx go life) k).length
        · rw [List.getElem?_append_left ej] at hjx
          rw [upd_n (by omega)]; exact hj j x hjx
        · rw [List.getElem?_append_right (by omega)] at hjx
          by_cases e0 : j = (arL b (hlB S0 tx go life) k).length
          · subst e0
            rw [Nat.sub_self] at hjx
            cases hjx
            rw [upd_s]; exact ⟨rfl, by omega⟩
          · obtain ⟨d, hd⟩ : ∃ d : Nat, j - (arL b (hlB S0 tx go life) k).length = d + 1 := ⟨j - (arL b (hlB S0 tx go life) k).length - 1, by omega⟩
            rw [hd] at hjx; cases hjx
      · rw [if_neg hq]
        refine Rt.ip rfl ?_
        rw [nI_1]
        have hS := arL_N (b := b) hq
        rw [← hS]
        exact hld54 hL hY hC hx hb hN ha m (k + 1) S1 f (by omega) (by omega) w hf hz (by rw [hS]; exact hj)
/-- held: the first round, they are counted -/
theorem hld6 {e i mn b : Nat} {tx : Nat → Nat} {go : Nat → Int32} {rl life : Int32} (hL : RIn R S0) (hY : YK R S0) (hC : CLa R S0 e i mn tx go rl) (hx : LX S0 S) (hz : ∀ a ∈ ZL S, a < Zz S) (hb : b ≤ 177) (h1 : Zz S + 1 ≤ R.K.2.1) (h2 : Zn S + 12 ≤ R.K.2.2) : ∀ (m k : Nat), mn < k + m → k ≤ mn → Rt (f_held_6 R.K m S (some e) (nI b) life (nI (arL b (hlB S0 tx go life) k).length) (nI k)) (fun S2 r => NW S S2 ∧ rAr R S2 r (arL b (hlB S0 tx go life) mn) ∧ Zz S2 ≤ Zz S + 1 ∧ Zn S2 ≤ Zn S + 12 ∧ ∀ a : Nat, r = some a → a ∉ ZL S)
  | 0, k, hm, hk => by omega
  | m + 1, k, hm, hk => by
    have hC2 := hC
    obtain ⟨he, ⟨gs, g1, g2, g3, g4⟩, hm12, _⟩ := hC2
    have hln := arL_ln (b := b) (Q := hlB S0 tx go life) mn
    unfold f_held_6 f_held_29
    refine Rt.bd (hx.vi (by decide) (by decide) (oI_mk (hL e he) g1 (v := nI mn) g3)) (Rt.it (fun q => ?_) (fun q => ?_))
    · have : mn ≤ k := (nI_leI (by omega) (by omega)).mp q
      obtain rfl : k = mn := by omega
      by_cases e0 : (arL b (hlB S0 tx go life) k).length = 0
      · rw [e0]
        exact Rt.ip rfl (Rt.rt ⟨NW.rf hz, Or.inl ⟨rfl, List.length_eq_zero_iff.mp e0⟩, by omega, by omega, fun a w => by cases w⟩)
      · refine Rt.iq (nI_ne0 (by omega) (by omega)) (Rt.be (nA_ok (by omega) ⟨h1, by omega⟩) ?_)
        have w0 : NW S (Un S (.inl (R.K.1 0, (arL b (hlB S0 tx go life) k).length, .inl (fun _ => 0))) (arL b (hlB S0 tx go life) k).length) := (NW.rf hz).un
        have hno : Zz S ∉ ZL S := fun w => Nat.lt_irrefl _ (hz _ w)
        refine (hld54 (life := life) hL hY hC hx hb rfl hno bigN 0 _ (fun _ => 0) (by unfold bigN; omega) (Nat.zero_le _) w0 ⟨List.mem_cons_self, ZF_uz⟩ ⟨rfl, rfl⟩ (fun j x hj => by cases hj)).mo (fun S2 r t => ?_)
        obtain ⟨rfl, t2, ⟨f, t3, t4, t5⟩, t6, t7⟩ := t
        have t6 : Zz S2 = Zz S + 1 := t6
        have t7 : Zn S2 = Zn S + (arL b (hlB S0 tx go life) k).length := t7
        exact ⟨t2, Or.inr ⟨Zz S, f, rfl, t3, t4, (fun w => e0 (by rw [w]; rfl)), t5⟩, by omega, by omega, fun a w => by cases w; exact hno⟩
    · have hlt : k < mn := by
        by_cases e : k < mn
        · exact e
        · exact absurd (nI_le (a := mn) (b := k) (by omega) (by omega)) q
      refine Rt.be (ish_ (life := life) hL hY hC hx hlt) ?_
      by_cases hq : hlB S0 tx go life k = true
      · rw [if_pos hq]
        refine Rt.iq (by decide) ?_
        rw [nI_1, nI_1]
        have e1 : (arL b (hlB S0 tx go life) k).length + 1 = (arL b (hlB S0 tx go life) (k + 1)).length := by rw [arL_S hq, List.length_append]; rfl
        rw [e1]
        exact hld6 hL hY hC hx hz hb h1 h2 m (k + 1) (by omega) (by omega)
      · rw [if_neg hq]
        refine Rt.ip rfl ?_
        rw [nI_1, ← arL_N (b := b) hq]
        exact hld6 hL hY hC hx hz hb h1 h2 m (k + 1) (by omega) (by omega)
theorem hld_ {e i mn b : Nat} {tx : Nat → Nat} {go : Nat → Int32} {rl life : Int32} (hL : RIn R S0) (hY : YK R S0) (hC : CLa R S0 e i mn tx go rl) (hx : LX S0 S) (hz : ∀ a ∈ ZL S, a < Zz S) (hb : b ≤ 177) (h1 : Zz S + 1 ≤ R.K.2.1) (h2 : Zn S + 12 ≤ R.K.2.2) : Rt (f_held R.K S (some e) (nI b) life) (fun S2 r => NW S S2 ∧ rAr R S2 r (arL b (hlB S0 tx go life) mn) ∧ Zz S2 ≤ Zz S + 1 ∧ Zn S2 ≤ Zn S + 12 ∧ ∀ a : Nat, r = some a → a ∉ ZL S) := by
  have hm := hC.2.2.1
  exact hld6 (life := life) hL hY hC hx hz hb h1 h2 bigN 0 (by unfold bigN; omega) (Nat.zero_le _)
end LY22
