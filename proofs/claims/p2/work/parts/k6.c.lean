/-- an exp, typed: the item or field it names, the variant, its type, its variable -/
def xtC (kd : Int32) (tk : Nat) (sg nm ix vr : Int32) (num : Int64) (mu : Int32) (vo li si : Value) (mn : Nat) (ty va : Value) : va_E := .inr (15, [.int kd, .int (nI tk), .int sg, .int nm, .int ix, .int vr, .long num, .int mu, vo, li, si, .int (nI mn), ty, va])
/-- the field k of the struct i has the type x -/
def fld (R : yR) (S : Sg) (i k x : Nat) : Prop := ∃ (fs : List Value) (mn ta : Nat) (f : Nat → Option Nat), i < R.im ∧ R.ik i = 10 ∧ nXo R (R.ws i) ∧ ZF S (R.ws i) = .inr (16, fs) ∧ fs[3]? = some (.int (nI mn)) ∧ k < mn ∧ mn ≤ 12 ∧ fs[10]? = some (.ref ta) ∧ nXo R ta ∧ ZF S ta = .inl (R.K.1 4, 13, .inr (.inr (.inr (.inr f)))) ∧ f k = some x ∧ vTy S x
/-- a place, typed: exp e, tokens p to q: the variable v, the way π to it, its type x; mu: it may be written, mv: 1 a part of the variable, 2 in a box of one -/
def xPl (R : yR) (S : Sg) (Γ : List Nat) : Nat → Nat → Nat → Nat → Nat → List (Nat × Nat) → Nat → Nat → Nat → Prop
  | 0, _, _, _, _, _, _, _, _ => False
  | n + 1, e, p, q, v, π, x, mu, mv => (e ∈ ZL R.S ∧ (∃ t : Nat, ownT (ZF R.S) e = some t ∧ p ≤ t ∧ t < q) ∧ p < q) ∧ rTy S x ∧
    ((∃ (ix : Nat) (nm : Int32), ZF S e = xtC 2 p 0 (nI p) 0 0 0 0 .null .null .null 0 (.ref x) (.ref v) ∧ π = [] ∧ v ∈ Γ ∧ isV S v ix nm (some x) (nI mu) ∧ mu ≤ 1 ∧ mv = 1) ∨
     (∃ o p' q' : Nat, ZF S e = xtC 7 p 0 0 0 0 0 0 (.ref o) .null .null 0 (.ref x) .null ∧ p < p' ∧ q' ≤ q ∧ xPl R S Γ n o p' q' v π x mu mv) ∨
     (∃ (o p' q' y m2 w2 : Nat) (kd : Int32) (π2 : List (Nat × Nat)), ZF S e = xtC 11 p 0 0 0 0 0 0 (.ref o) .null .null 0 (.ref x) .null ∧ p < p' ∧ q' ≤ q ∧ xPl R S Γ n o p' q' v π2 y m2 w2 ∧ isTy S y kd 0 (some x) ∧ π = π2 ++ [(1, 0)] ∧ ((kd = 5 ∧ mu = m2 ∧ mv = (if w2 = 1 then 2 else 0)) ∨ (kd = 6 ∧ mu = 0 ∧ mv = 0) ∨ (kd = 7 ∧ mu = 1 ∧ mv = 0))) ∨
     (∃ (o nm q' y i k w2 : Nat) (π2 : List (Nat × Nat)), ZF S e = xtC 14 p 0 (nI nm) (nI k) 0 0 0 (.ref o) .null .null 0 (.ref x) .null ∧ q' < nm ∧ nm < q ∧ xPl R S Γ n o p q' v π2 y mu w2 ∧ isTy S y 3 (nI i) none ∧ fld R S i k x ∧ π = π2 ++ [(0, k)] ∧ mv = (if w2 = 1 then 1 else 0)))
/-- disjoint tokens -/
def dj (p q p2 q2 : Nat) : Prop := q ≤ p2 ∨ q2 ≤ p
theorem Xo_dj {R : yR} {a p9 q9 p8 q8 : Nat} (x1 : Xo R p9 q9 a) (x2 : Xo R p8 q8 a) (x3 : dj p9 q9 p8 q8) : False := by
  rcases x1 with ⟨t, x1, x4, x5⟩ | ⟨b9, t, x0, x1, x4, x5, x6⟩ | ⟨t, x1, x4, x5, x6⟩
  · rcases x2 with ⟨t2, x2, x7, x8⟩ | ⟨b8, t2, y0, x2, x7, x8, x9⟩ | ⟨t2, x2, x7, x8, x9⟩
    · rw [x1] at x2; cases x2; rcases x3 with x3 | x3 <;> omega
    · unfold ownT at x1; rw [x9] at x1; cases x1
    · unfold ownT at x1; rw [x9] at x1; cases x1
  · rcases x2 with ⟨t2, x2, x7, x8⟩ | ⟨b8, t2, y0, x2, x7, x8, x9⟩ | ⟨t2, x2, x7, x8, x9⟩
    · unfold ownT at x2; rw [x6] at x2; cases x2
    · have : b9 = b8 := by omega
      subst this
      rw [x1] at x2; cases x2; rcases x3 with x3 | x3 <;> omega
    · rw [x6] at x9; cases x9
  · rcases x2 with ⟨t2, x2, x7, x8⟩ | ⟨b8, t2, y0, x2, x7, x8, x9⟩ | ⟨t2, x2, x7, x8, x9⟩
    · unfold ownT at x2; rw [x6] at x2; cases x2
    · rw [x6] at x9; cases x9
    · rw [x1] at x2; cases x2; rcases x3 with x3 | x3 <;> omega
section XPL
variable {R : yR} {S S2 : Sg} {Γ : List Nat} {p2 q2 : Nat}
theorem own_n {a p q t : Nat} (h : ownT (ZF R.S) a = some t) (ha : ∃ fs : List Value, ZF R.S a = .inr (15, fs)) (h1 : p ≤ t) (h2 : t < q) (hd : dj p q p2 q2) : ¬ Xo R p2 q2 a := by
  rintro (⟨t2, g1, g2, g3⟩ | ⟨b, t2, _, _, _, _, g⟩ | ⟨t2, _, _, _, g⟩)
  · rw [h] at g1; cases g1
    rcases hd with hd | hd <;> omega
  · obtain ⟨fs, ha⟩ := ha
    rw [ha] at g; cases g
  · obtain ⟨fs, ha⟩ := ha
    rw [ha] at g; cases g
theorem fld.vz (hV : VZ R (Xo R p2 q2) S S2) {i k x : Nat} (h : fld R S i k x) : fld R S2 i k x := by
  obtain ⟨fs, mn, ta, f, h1, h2, h3, h4, h5, h6, h7, h8, h9, h10, h11, h12⟩ := h
  exact ⟨fs, mn, ta, f, h1, h2, h3, (hV.nx h3).trans h4, h5, h6, h7, h8, h9, (hV.nx h9).trans h10, h11, h12.im hV.2.2.1⟩
theorem fld.vx (hV : VX R (Xo R p2 q2) S S2) {i k x : Nat} (h : fld R S i k x) : fld R S2 i k x := fld.vz hV.2 h
/-- a typed place stays, whatever else is typed -/
theorem xPl_vz (hV : VZ R (Xo R p2 q2) S S2) : ∀ {n e p q v : Nat} {π : List (Nat × Nat)} {x mu mv : Nat}, xPl R S Γ n e p q v π x mu mv → (∀ a : Nat, a ∈ ZL R.S → (∃ t : Nat, ownT (ZF R.S) a = some t ∧ p ≤ t ∧ t < q) → (∃ vs : List Value, ZF S a = .inr (15, vs)) → ZF S2 a = ZF S a) → xPl R S2 Γ n e p q v π x mu mv
  | 0, _, _, _, _, _, _, _, _, h, _ => h.elim
  | n + 1, e, p, q, v, π, x, mu, mv, h, hd => by
    obtain ⟨⟨h1, h2, h3⟩, h4, h5⟩ := h
    refine ⟨⟨h1, h2, h3⟩, h4.im hV.2.2.1, ?_⟩
    have he : (∃ vs : List Value, ZF S e = .inr (15, vs)) → ZF S2 e = ZF S e := fun w => hd e h1 h2 w
    rcases h5 with ⟨ix, nm, k1, k2, k3, k4, k5, k6⟩ | ⟨o, p', q', k1, k2, k3, k4⟩ | ⟨o, p', q', y, m2, w2, kd, π2, k1, k2, k3, k4, k5, k6, k7⟩ | ⟨o, nm, q', y, i, k, w2, π2, k1, k2, k3, k4, k5, k6, k7, k8⟩
    · refine Or.inl ⟨ix, nm, (he ⟨_, k1⟩).trans k1, k2, k3, ?_, k5, k6⟩
      obtain ⟨t2, g1, g2⟩ := hV.2.2.2.1 v ix nm (some x) _ k4
      rcases g2 with g2 | g2
      · cases g2.1
      · rw [← g2]; exact g1
    · exact Or.inr (Or.inl ⟨o, p', q', (he ⟨_, k1⟩).trans k1, k2, k3, xPl_vz hV k4 (fun a a1 ⟨t, a2, a3, a4⟩ a5 => hd a a1 ⟨t, a2, by omega, by omega⟩ a5)⟩)
    · exact Or.inr (Or.inr (Or.inl ⟨o, p', q', y, m2, w2, kd, π2, (he ⟨_, k1⟩).trans k1, k2, k3, xPl_vz hV k4 (fun a a1 ⟨t, a2, a3, a4⟩ a5 => hd a a1 ⟨t, a2, by omega, by omega⟩ a5), hV.2.2.1 _ _ _ _ k5, k6, k7⟩))
    · exact Or.inr (Or.inr (Or.inr ⟨o, nm, q', y, i, k, w2, π2, (he ⟨_, k1⟩).trans k1, k2, k3, xPl_vz hV k4 (fun a a1 ⟨t, a2, a3, a4⟩ a5 => hd a a1 ⟨t, a2, a3, by omega⟩ a5), hV.2.2.1 _ _ _ _ k5, k6.vz hV, k7, k8⟩))
theorem xPl_vx (hV : VX R (Xo R p2 q2) S S2) : ∀ {n e p q v : Nat} {π : List (Nat × Nat)} {x mu mv : Nat}, xPl R S Γ n e p q v π x mu mv → (∀ a : Nat, a ∈ ZL R.S → (∃ t : Nat, ownT (ZF R.S) a = some t ∧ p ≤ t ∧ t < q) → (∃ vs : List Value, ZF S a = .inr (15, vs)) → ZF S2 a = ZF S a) → xPl R S2 Γ n e p q v π x mu mv := xPl_vz hV.2
/-- its cell -/
theorem xPl_c {n e p q v : Nat} {π : List (Nat × Nat)} {x mu mv : Nat} (h : xPl R S Γ n e p q v π x mu mv) : e ∈ ZL R.S ∧ p < q ∧ rTy S x ∧ (mu ≤ 1 ∧ mv ≤ 2) ∧ ∃ (kd : Int32) (fs : List Value), ZF S e = .inr (15, fs) ∧ fs[0]? = some (.int kd) ∧ fs[1]? = some (.int (nI p)) ∧ fs[12]? = some (.ref x) ∧ (kd = 2 ∨ kd = 7 ∨ kd = 11 ∨ kd = 14) := by
  cases n with
  | zero => exact h.elim
  | succ n =>
    obtain ⟨⟨h1, h2, h3⟩, h4, h5⟩ := h
    have hm : ∀ {n e p q v : Nat} {π : List (Nat × Nat)} {x mu mv : Nat}, xPl R S Γ n e p q v π x mu mv → mu ≤ 1 ∧ mv ≤ 2 := by
      intro n
      induction n with
      | zero => exact fun h => h.elim
      | succ n ih =>
        intro e p q v π x mu mv h
        rcases h.2.2 with ⟨ix, nm, k1, k2, k3, k4, k5, k6⟩ | ⟨o, p', q', k1, k2, k3, k4⟩ | ⟨o, p', q', y, m2, w2, kd, π2, k1, k2, k3, k4, k5, k6, k7⟩ | ⟨o, nm, q', y, i, k, w2, π2, k1, k2, k3, k4, k5, k6, k7, k8⟩
        · omega
        · exact ih k4
        · have := ih k4
          rcases k7 with ⟨_, e1, e2⟩ | ⟨_, e1, e2⟩ | ⟨_, e1, e2⟩
          · rw [e1, e2]; constructor
            · omega
            · split <;> omega
          · omega
          · omega
        · have := ih k4
          constructor
          · omega
          · rw [k8]; split <;> omega
    refine ⟨h1, h3, h4, hm (n := n + 1) ⟨⟨h1, h2, h3⟩, h4, h5⟩, ?_⟩
    rcases h5 with ⟨ix, nm, k1, k2, k3, k4, k5, k6⟩ | ⟨o, p', q', k1, k2, k3, k4⟩ | ⟨o, p', q', y, m2, w2, kd, π2, k1, k2, k3, k4, k5, k6, k7⟩ | ⟨o, nm, q', y, i, k, w2, π2, k1, k2, k3, k4, k5, k6, k7, k8⟩ <;> exact ⟨_, _, k1, rfl, rfl, rfl, by decide⟩
/-- bare -/
theorem bar_ {K : Ky} (hL : ∀ a ∈ ZL R.S, a ∈ ZL S) : ∀ {n m : Nat} {e p q v : Nat} {π : List (Nat × Nat)} {x mu mv : Nat}, xPl R S Γ n e p q v π x mu mv → n ≤ m → ∃ n2 e2 p' q' : Nat, n2 ≤ n ∧ f_bare_2 K m S (some e) = some (S, some e2) ∧ xPl R S Γ n2 e2 p' q' v π x mu mv ∧ p ≤ p' ∧ q' ≤ q ∧ ∃ (kd : Int32) (fs : List Value), ZF S e2 = .inr (15, fs) ∧ fs[0]? = some (.int kd) ∧ (kd = 2 ∨ kd = 11 ∨ kd = 14)
  | 0, _, _, _, _, _, _, _, _, _, h, _ => h.elim
  | n + 1, 0, _, _, _, _, _, _, _, _, _, hm => absurd hm (by omega)
  | n + 1, m + 1, e, p, q, v, π, x, mu, mv, h, hm => by
    have h0 := h
    obtain ⟨⟨h1, h2, h3⟩, h4, h5⟩ := h
    have hn : ∀ (kd : Int32) (fs : List Value), ZF S e = .inr (15, fs) → fs[0]? = some (.int kd) → (kd = 2 ∨ kd = 11 ∨ kd = 14) → ∃ n2 e2 p' q' : Nat, n2 ≤ n + 1 ∧ f_bare_2 K (m + 1) S (some e) = some (S, some e2) ∧ xPl R S Γ n2 e2 p' q' v π x mu mv ∧ p ≤ p' ∧ q' ≤ q ∧ ∃ (kd : Int32) (fs : List Value), ZF S e2 = .inr (15, fs) ∧ fs[0]? = some (.int kd) ∧ (kd = 2 ∨ kd = 11 ∨ kd = 14) := fun kd fs g1 g2 g3 => by
      refine ⟨n + 1, e, p, q, Nat.le_refl _, ?_, h0, Nat.le_refl _, Nat.le_refl _, kd, fs, g1, g2, g3⟩
      unfold f_bare_2
      rw [oI_mk (hL e h1) g1 g2]
      show (if kd = 7 then _ else some (S, some e)) = _
      rw [if_neg (by rcases g3 with w | w | w <;> subst w <;> decide)]
    rcases h5 with ⟨ix, nm, k1, k2, k3, k4, k5, k6⟩ | ⟨o, p', q', k1, k2, k3, k4⟩ | ⟨o, p', q', y, m2, w2, kd, π2, k1, k2, k3, k4, k5, k6, k7⟩ | ⟨o, nm, q', y, i, k, w2, π2, k1, k2, k3, k4, k5, k6, k7, k8⟩
    · exact hn 2 _ k1 rfl (by decide)
    · obtain ⟨n2, e2, p3, q3, g1, g2, g3, g4, g5, g6⟩ := bar_ (K := K) hL k4 (m := m) (by omega)
      refine ⟨n2, e2, p3, q3, by omega, ?_, g3, by omega, by omega, g6⟩
      unfold f_bare_2
      rw [oI_mk (hL e h1) k1 (v := 7) rfl, Option.bind_some, if_pos rfl, oR_mk (hL e h1) k1 (v := some o) rfl, Option.bind_some]
      exact g2
    · exact hn 11 _ k1 rfl (by decide)
    · exact hn 14 _ k1 rfl (by decide)
theorem bare_ {K : Ky} (hL : ∀ a ∈ ZL R.S, a ∈ ZL S) {n : Nat} {e p q v : Nat} {π : List (Nat × Nat)} {x mu mv : Nat} (h : xPl R S Γ n e p q v π x mu mv) (hn : n ≤ 1000) : ∃ n2 e2 p' q' : Nat, n2 ≤ n ∧ f_bare K S (some e) = some (S, some e2) ∧ xPl R S Γ n2 e2 p' q' v π x mu mv ∧ p ≤ p' ∧ q' ≤ q ∧ ∃ (kd : Int32) (fs : List Value), ZF S e2 = .inr (15, fs) ∧ fs[0]? = some (.int kd) ∧ (kd = 2 ∨ kd = 11 ∨ kd = 14) := by
  unfold f_bare
  exact bar_ hL h (by show n ≤ 1000000000000; omega)
/-- depth -/
theorem dep_7 {K : Ky} (hL : ∀ a ∈ ZL R.S, a ∈ ZL S) : ∀ {n m d : Nat} {e p q v : Nat} {π : List (Nat × Nat)} {x mu mv : Nat}, xPl R S Γ n e p q v π x mu mv → (∃ (kd : Int32) (fs : List Value), ZF S e = .inr (15, fs) ∧ fs[0]? = some (.int kd) ∧ (kd = 2 ∨ kd = 11 ∨ kd = 14)) → n ≤ m → n ≤ 1000 → f_depth_7 K m S (nI d) (some e) = some (S, nI (d + π.length))
  | 0, _, _, _, _, _, _, _, _, _, _, h, _, _, _ => h.elim
  | n + 1, 0, _, _, _, _, _, _, _, _, _, _, _, hm, _ => absurd hm (by omega)
  | n + 1, m + 1, d, e, p, q, v, π, x, mu, mv, h, hk, hm, hn => by
    obtain ⟨⟨h1, h2, h3⟩, h4, h5⟩ := h
    have hgo : ∀ {o p' q' y m2 w2 : Nat} {π2 : List (Nat × Nat)} {s : Nat × Nat} {kd : Int32} {fs : List Value}, ZF S e = .inr (15, fs) → fs[0]? = some (.int kd) → (kd = 14 ∨ kd = 11) → fs[8]? = some (.ref o) → xPl R S Γ n o p' q' v π2 y m2 w2 → π = π2 ++ [s] → f_depth_7 K (m + 1) S (nI d) (some e) = some (S, nI (d + π.length)) := fun {o p' q' y m2 w2 π2 s kd fs} g1 g2 g3 g4 g5 g6 => by
      obtain ⟨n2, e2, p3, q3, a1, a2, a3, a4, a5, a6⟩ := bare_ (K := K) hL g5 (by omega)
      have a7 := dep_7 (K := K) hL (m := m) (d := d + 1) a3 a6 (by omega) (by omega)
      have h25 : f_depth_25 K (f_depth_7 K m) S (nI d) (some e) = some (S, nI (d + π.length)) := by
        unfold f_depth_25
        rw [oR_mk (hL e h1) g1 (v := some o) g4, Option.bind_some, a2]
        show f_depth_7 K m S (nI d + 1) (some e2) = _
        rw [nI_1, a7, g6, List.length_append]
        show some (S, nI (d + 1 + π2.length)) = some (S, nI (d + (π2.length + 1)))
        rw [show d + 1 + π2.length = d + (π2.length + 1) by omega]
      unfold f_depth_7
      rw [oI_mk (hL e h1) g1 g2]
      show (if kd = 14 then _ else if kd = 11 then _ else _) = _
      rcases g3 with w | w
      · rw [if_pos w]; exact h25
      · rw [if_neg (by rw [w]; decide), if_pos w]; exact h25
    rcases h5 with ⟨ix, nm, k1, k2, k3, k4, k5, k6⟩ | ⟨o, p', q', k1, k2, k3, k4⟩ | ⟨o, p', q', y, m2, w2, kd, π2, k1, k2, k3, k4, k5, k6, k7⟩ | ⟨o, nm, q', y, i, k, w2, π2, k1, k2, k3, k4, k5, k6, k7, k8⟩
    · unfold f_depth_7
      rw [oI_mk (hL e h1) k1 (v := 2) rfl, Option.bind_some, if_neg (by decide), Option.bind_some, if_neg (by decide), k2]
      rfl
    · obtain ⟨kd, fs, w1, w2, w3⟩ := hk
      rw [k1] at w1; cases w1; cases w2
      exact absurd w3 (by decide)
    · exact hgo k1 rfl (Or.inr rfl) rfl k4 k6
    · exact hgo k1 rfl (Or.inl rfl) rfl k4 k7
theorem dep_ {K : Ky} (hL : ∀ a ∈ ZL R.S, a ∈ ZL S) {n : Nat} {e p q v : Nat} {π : List (Nat × Nat)} {x mu mv : Nat} (h : xPl R S Γ n e p q v π x mu mv) (hn : n ≤ 1000) : f_depth K S (some e) = some (S, nI π.length) := by
  obtain ⟨n2, e2, p3, q3, a1, a2, a3, a4, a5, a6⟩ := bare_ (K := K) hL h hn
  unfold f_depth
  rw [a2]
  show f_depth_7 K bigN S (nI 0) (some e2) = _
  rw [dep_7 hL a3 a6 (by show n2 ≤ 1000000000000; omega) (by omega), Nat.zero_add]
end XPL
