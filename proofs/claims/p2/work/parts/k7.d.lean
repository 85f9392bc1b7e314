/-- a statement ends the way: it returns, or all of its blocks do -/
def eS (S : Sg) (P : Nat → Prop) (a : Nat) : Prop := ∃ fs : List Value, ZF S a = .inr (19, fs) ∧ (fs[0]? = some (.int 6) ∨ (fs[0]? = some (.int 8) ∧ ∃ y : Nat, fs[9]? = some (.ref y) ∧ P y) ∨
  (fs[0]? = some (.int 5) ∧ ∃ (ar mn cap : Nat) (k9 : ClassId) (f : Nat → Option Nat), fs[12]? = some (.ref ar) ∧ fs[13]? = some (.int (nI mn)) ∧ mn ≤ 100000 ∧ ZF S ar = .inl (k9, cap, .inr (.inr (.inr (.inr f)))) ∧ ∀ k : Nat, k < mn → ∃ (y bk : Nat) (ys : List Value), f k = some y ∧ ZF S y = .inr (13, ys) ∧ ys[5]? = some (.ref bk) ∧ P bk) ∨
  (fs[0]? = some (.int 3) ∧ ∃ (ca ba mn cap cap2 : Nat) (k8 k9 : ClassId) (f g : Nat → Option Nat), fs[10]? = some (.ref ca) ∧ fs[11]? = some (.ref ba) ∧ fs[13]? = some (.int (nI mn)) ∧ 1 ≤ mn ∧ mn ≤ 100000 ∧ ZF S ca = .inl (k8, cap, .inr (.inr (.inr (.inr f)))) ∧ f (mn - 1) = none ∧ ZF S ba = .inl (k9, cap2, .inr (.inr (.inr (.inr g)))) ∧ ∀ k : Nat, k < mn → ∃ y : Nat, g k = some y ∧ P y))
/-- a block ends the way -/
def eB (S : Sg) : Nat → Nat → Prop
  | 0, _ => False
  | d + 1, a => ∃ (fs : List Value) (la mn cap k y : Nat) (k9 : ClassId) (f : Nat → Option Nat), ZF S a = .inr (14, fs) ∧ fs[2]? = some (.ref la) ∧ fs[3]? = some (.int (nI mn)) ∧ mn ≤ 100000 ∧ ZF S la = .inl (k9, cap, .inr (.inr (.inr (.inr f)))) ∧ k < mn ∧ f k = some y ∧ eS S (eB S d) y
section END
variable {R : yR} {c nv : Nat} {S : Sg} {Λ : List Nat} {gv : Nat}
/-- ends, of a block -/
theorem chJ_le {P : Nat → Nat → Nat → Nat → Nat → Nat → Nat → Nat → Prop} {f : Nat → Option Nat} {n p q b c v w : Nat} (h : chJ P f n p q b c v w) (hlt : ∀ i x p q b c v w : Nat, P i x p q b c v w → p < q) : n ≤ q - p ∧ p ≤ q := by
  obtain ⟨ps, bs, vs, h1, h2, h3, h4, h5, h6, h7⟩ := h
  have : ∀ d : Nat, d ≤ n → ps 0 + d ≤ ps d := by
    intro d
    induction d with
    | zero => exact fun _ => Nat.le_refl _
    | succ d ih =>
      intro hd
      obtain ⟨x, _, g⟩ := h7 d (by omega)
      have := hlt _ _ _ _ _ _ _ _ g
      have := ih (by omega)
      omega
  have := this n (Nat.le_refl _)
  omega
/-- each of a chain, its tokens inside -/
theorem chJ_el {P : Nat → Nat → Nat → Nat → Nat → Nat → Nat → Nat → Prop} {f : Nat → Option Nat} {n p q b c v w : Nat} (h : chJ P f n p q b c v w) (hlt : ∀ i x p q b c v w : Nat, P i x p q b c v w → p < q) (i : Nat) (hi : i < n) : ∃ x p1 q1 b1 c1 v1 w1 : Nat, f i = some x ∧ q1 ≤ q ∧ P i x p1 q1 b1 c1 v1 w1 ∧ p ≤ p1 := by
  obtain ⟨ps, bs, vs, h1, h2, h3, h4, h5, h6, h7⟩ := h
  obtain ⟨x, g1, g2⟩ := h7 i hi
  have := chJ_ps hlt h7 (n - (i + 1)) (i + 1) (by omega)
  rw [show i + 1 + (n - (i + 1)) = n by omega, h2] at this
  have h9 := chJ_ps hlt h7 i 0 (by omega)
  rw [Nat.zero_add, h1] at h9
  exact ⟨x, _, _, _, _, _, _, g1, this, g2, h9⟩
theorem e99_ {K : Ky} {V : Sg → Option Nat → Option (Sg × Int32)} {S : Sg} {a mn : Nat} {ba : Option Nat} {P : Nat → Prop} (hmn : mn ≤ 100000) (h13 : oI S 19 (some a) 13 = some (nI mn)) (h11 : oR S 19 (some a) 11 = some ba) (hg : ∀ k : Nat, k < mn → ∃ y : Nat, aQ K 10 S ba (nI k) = some (some y) ∧ Rt (V S (some y)) (fun S2 r => S2 = S ∧ (r = 0 ∨ (r = 1 ∧ P k)))) : ∀ (m k : Nat), mn < k + m → k ≤ mn → (∀ i : Nat, i < k → P i) → Rt (f_ends__99 K V m S (some a) (nI k)) (fun S2 r => S2 = S ∧ (r = 0 ∨ (r = 1 ∧ ∀ i : Nat, i < mn → P i)))
  | 0, k, h, h2, _ => by omega
  | m + 1, k, h, h2, hp => by
    unfold f_ends__99
    refine Rt.bd h13 (Rt.it (fun w9 => ?_) (fun w9 => ?_))
    · have := (nI_leI (a := mn) (b := k) (by omega) (by omega)).mp w9
      exact Rt.zr (Or.inr rfl) ⟨rfl, Or.inr ⟨rfl, fun i hi => hp i (by omega)⟩⟩
    have hlt : k < mn := by
      rcases Nat.lt_or_ge k mn with z | z
      · exact z
      · exact absurd (nI_le z (by omega)) w9
    obtain ⟨y, g1, g2⟩ := hg k hlt
    refine Rt.bd h11 (Rt.bd g1 (Rt.bn g2 (fun S2 r q2 => ?_)))
    obtain ⟨e2, q2⟩ := q2
    rw [e2]
    rcases q2 with q2 | ⟨q2, q3⟩
    · exact Rt.ip q2 (Rt.zr (Or.inl rfl) ⟨rfl, Or.inl rfl⟩)
    · refine Rt.iq (by rw [q2]; decide) ?_
      rw [nI_1]
      exact e99_ hmn h13 h11 hg m (k + 1) (by omega) (by omega) (fun i hi => by
        rcases Nat.lt_or_ge i k with z | z
        · exact hp i z
        · rw [show i = k by omega]; exact q3)
theorem e39_ {K : Ky} {V : Sg → Option Nat → Option (Sg × Int32)} {S : Sg} {a mn : Nat} {ba : Option Nat} {P : Nat → Prop} (hmn : mn ≤ 100000) (h13 : oI S 19 (some a) 13 = some (nI mn)) (h11 : oR S 19 (some a) 12 = some ba) (hg : ∀ k : Nat, k < mn → ∃ x y : Nat, aQ K 7 S ba (nI k) = some (some x) ∧ oR S 13 (some x) 5 = some (some y) ∧ Rt (V S (some y)) (fun S2 r => S2 = S ∧ (r = 0 ∨ (r = 1 ∧ P k)))) : ∀ (m k : Nat), mn < k + m → k ≤ mn → (∀ i : Nat, i < k → P i) → Rt (f_ends__39 K V m S (some a) (nI k)) (fun S2 r => S2 = S ∧ (r = 0 ∨ (r = 1 ∧ ∀ i : Nat, i < mn → P i)))
  | 0, k, h, h2, _ => by omega
  | m + 1, k, h, h2, hp => by
    unfold f_ends__39
    refine Rt.bd h13 (Rt.it (fun w9 => ?_) (fun w9 => ?_))
    · have := (nI_leI (a := mn) (b := k) (by omega) (by omega)).mp w9
      exact Rt.zr (Or.inr rfl) ⟨rfl, Or.inr ⟨rfl, fun i hi => hp i (by omega)⟩⟩
    have hlt : k < mn := by
      rcases Nat.lt_or_ge k mn with z | z
      · exact z
      · exact absurd (nI_le z (by omega)) w9
    obtain ⟨x, y, g0, g1, g2⟩ := hg k hlt
    refine Rt.bd h11 (Rt.bd g0 (Rt.bd g1 (Rt.bn g2 (fun S2 r q2 => ?_))))
    obtain ⟨e2, q2⟩ := q2
    rw [e2]
    rcases q2 with q2 | ⟨q2, q3⟩
    · exact Rt.ip q2 (Rt.zr (Or.inl rfl) ⟨rfl, Or.inl rfl⟩)
    · refine Rt.iq (by rw [q2]; decide) ?_
      rw [nI_1]
      exact e39_ hmn h13 h11 hg m (k + 1) (by omega) (by omega) (fun i hi => by
        rcases Nat.lt_or_ge i k with z | z
        · exact hp i z
        · rw [show i = k by omega]; exact q3)
theorem e2_ {K : Ky} {V : Sg → Option Nat → Option (Sg × Int32)} {S : Sg} {a mn : Nat} {ba : Option Nat} {P : Nat → Prop} (hmn : mn ≤ 100000) (h13 : oI S 14 (some a) 3 = some (nI mn)) (h11 : oR S 14 (some a) 2 = some ba) (hg : ∀ k : Nat, k < mn → ∃ y : Nat, aQ K 11 S ba (nI k) = some (some y) ∧ Rt (f_ends_ K V S (some y)) (fun S2 r => S2 = S ∧ (r = 0 ∨ (r = 1 ∧ P k)))) : ∀ (m k : Nat), mn < k + m → k ≤ mn → Rt (f_ends_2 K V m S (some a) (nI k)) (fun S2 r => S2 = S ∧ (r = 0 ∨ (r = 1 ∧ ∃ i : Nat, i < mn ∧ P i)))
  | 0, k, h, h2 => by omega
  | m + 1, k, h, h2 => by
    unfold f_ends_2
    refine Rt.bd h13 (Rt.it (fun w9 => ?_) (fun w9 => ?_))
    · exact Rt.zr (Or.inl rfl) ⟨rfl, Or.inl rfl⟩
    have hlt : k < mn := by
      rcases Nat.lt_or_ge k mn with z | z
      · exact z
      · exact absurd (nI_le z (by omega)) w9
    obtain ⟨y, g1, g2⟩ := hg k hlt
    refine Rt.bd h11 (Rt.bd g1 (Rt.bn g2 (fun S2 r q2 => ?_)))
    obtain ⟨e2, q2⟩ := q2
    rw [e2]
    rcases q2 with q2 | ⟨q2, q3⟩
    · refine Rt.ip q2 ?_
      rw [nI_1]
      exact e2_ hmn h13 h11 hg m (k + 1) (by omega) (by omega)
    · exact Rt.iq (by rw [q2]; decide) (Rt.zr (Or.inr rfl) ⟨rfl, Or.inr ⟨rfl, k, hlt, q3⟩⟩)
theorem end_ (hT : TS R c nv S) : ∀ (N n d : Nat), n ≤ N → n ≤ d → ∀ {a p q b b2 v w : Nat} {Γ Γ2 : List Nat} {κ : Nat × Nat × Nat}, sN R S Λ gv n 1 a p q b b2 v w Γ Γ2 κ → q ≤ 100000 → Rt (f_ends R.K d S (some a)) (fun S2 r => S2 = S ∧ ((r = 0) ∨ (r = 1 ∧ eB S d a)))
  | 0, n, d, hN, _, a, p, q, b, b2, v, w, Γ, Γ2, κ, h, _ => by rw [show n = 0 by omega] at h; exact h.elim
  | N + 1, 0, d, _, _, a, p, q, b, b2, v, w, Γ, Γ2, κ, h, _ => h.elim
  | N + 1, n + 1, 0, _, hd, a, p, q, b, b2, v, w, Γ, Γ2, κ, _, _ => absurd hd (by omega)
  | N + 1, n + 1, d + 1, hN, hd, a, p, q, b, b2, v, w, Γ, Γ2, κ, h, hq => by
    obtain ⟨nxa, hpq, _, la, cap, mn, f, gs, k1, k2, k3, k4, k5, k6⟩ := h
    have hml := chJ_le k6 (fun i x p q b c v w z => sN_lt z)
    have hV : ∀ {m : Nat}, m < n → ∀ {a p q b b2 v w : Nat} {Γ Γ2 : List Nat} {κ : Nat × Nat × Nat}, sN R S Λ gv m 1 a p q b b2 v w Γ Γ2 κ → q ≤ 100000 → Rt (f_ends R.K d S (some a)) (fun S2 r => S2 = S ∧ ((r = 0) ∨ (r = 1 ∧ eB S d a))) := fun {m} hm {a p q b b2 v w Γ Γ2 κ} h9 hq9 => end_ hT N m d (by omega) (by omega) h9 hq9
    have hL : ∀ {x : Nat}, x ∈ ZL R.S → x ∈ ZL S := fun h => hT.L h
    -- a statement
    have hS : ∀ {y p1 q1 b1 c1 v1 w1 : Nat} {Γ1 Γ3 : List Nat}, sN R S Λ gv n 0 y p1 q1 b1 c1 v1 w1 Γ1 Γ3 (0, 0, 0) → q1 ≤ 100000 → Rt (f_ends_ R.K (f_ends R.K d) S (some y)) (fun S2 r => S2 = S ∧ ((r = 0) ∨ (r = 1 ∧ eS S (eB S d) y))) := fun {y p1 q1 b1 c1 v1 w1 Γ1 Γ3} hs hq1 => by
      cases n with
      | zero => exact hs.elim
      | succ n =>
      obtain ⟨⟨h1, h2, h3⟩, h5⟩ := hs
      have hy := hL h1
      have hz0 : Rt ((zB 0).bind fun _ => some (S, (0 : Int32))) (fun S2 r => S2 = S ∧ ((r = 0) ∨ (r = 1 ∧ eS S (eB S d) y))) := Rt.zr (Or.inl rfl) ⟨rfl, Or.inl rfl⟩
      unfold f_ends_ f_ends__95
      rcases h5 with ⟨nm, y9, mu, wr, ex, k1, _⟩ | ⟨kd, x, p', q', t, e1, k1, _⟩ | ⟨x, y9, q9, p3, q3, vv, t, mu, mv, π, k1, _⟩ | ⟨ca, ba, cap, mn, f, g, k1, k2, k3, k4, k5, k6, k7, k8, k9, l1⟩ | ⟨x, y9, q0, b9, t, k1, _⟩ | ⟨x, ar, cap, mn, p0, q0, b9, i, t, bd, mu, rf, f, vf, k1, k2, k3, k4, k5, k6, k7, k8, k9, l1, l2, l3⟩ | ⟨ex, k1, _⟩ | ⟨y9, k1, k2, k3⟩
      · exact Rt.bd (oI_mk hy k1 (v := 0) rfl) (Rt.iq (by decide) (Rt.bd (oI_mk hy k1 (v := 0) rfl) (Rt.iq (by decide) (Rt.bd (oI_mk hy k1 (v := 0) rfl) (Rt.iq (by decide) (Rt.bd (oI_mk hy k1 (v := 0) rfl) (Rt.iq (by decide) hz0)))))))
      · have hk : kd ≠ 6 ∧ kd ≠ 8 ∧ kd ≠ 5 ∧ kd ≠ 3 := by rcases e1 with e | ⟨e, _⟩ <;> subst e <;> decide
        exact Rt.bd (oI_mk hy k1 (v := kd) rfl) (Rt.iq hk.1 (Rt.bd (oI_mk hy k1 (v := kd) rfl) (Rt.iq hk.2.1 (Rt.bd (oI_mk hy k1 (v := kd) rfl) (Rt.iq hk.2.2.1 (Rt.bd (oI_mk hy k1 (v := kd) rfl) (Rt.iq hk.2.2.2 hz0)))))))
      · exact Rt.bd (oI_mk hy k1 (v := 2) rfl) (Rt.iq (by decide) (Rt.bd (oI_mk hy k1 (v := 2) rfl) (Rt.iq (by decide) (Rt.bd (oI_mk hy k1 (v := 2) rfl) (Rt.iq (by decide) (Rt.bd (oI_mk hy k1 (v := 2) rfl) (Rt.iq (by decide) hz0)))))))
      · have hml2 := chJ_le l1 (fun i x p q b c v w ⟨p0, b0, _, z2, z3⟩ => by have := sN_lt z3; omega)
        refine Rt.bd (oI_mk hy k1 (v := 3) rfl) (Rt.iq (by decide) (Rt.bd (oI_mk hy k1 (v := 3) rfl) (Rt.iq (by decide) (Rt.bd (oI_mk hy k1 (v := 3) rfl) (Rt.iq (by decide) (Rt.bd (oI_mk hy k1 (v := 3) rfl) (Rt.ip rfl ?_)))))))
        refine Rt.bd (oR_mk hy k1 (v := some ca) rfl) (Rt.bd (oI_mk hy k1 (v := nI mn) rfl) ?_)
        rw [show nI mn - 1 = nI (mn - 1) from nI_sb (b := 1) k2]
        refine Rt.bd (aQ_j (hL k4.1) k6 (show mn - 1 < cap by omega) (by omega)) (Rt.it (fun w9 => ?_) (fun _ => hz0))
        refine (e99_ (by omega) (oI_mk hy k1 (v := nI mn) rfl) (oR_mk hy k1 (v := some ba) rfl) (P := fun k => ∃ y : Nat, g k = some y ∧ eB S d y) (fun k hk => ?_) bigN 0 (by unfold bigN; omega) (Nat.zero_le _) (fun i hi => absurd hi (by omega))).mo (fun S2 r q2 => ⟨q2.1, q2.2.imp id (fun q3 => ⟨q3.1, _, k1, Or.inr (Or.inr (Or.inr ⟨rfl, ca, ba, mn, cap, cap, _, _, f, g, rfl, rfl, rfl, k2, by omega, k6, w9, k7, q3.2⟩))⟩)⟩)
        obtain ⟨x, p1, q2, b1, c1, v1, w1, z1, z2, ⟨p0, b0, _, z4, z5⟩, _⟩ := chJ_el l1 (fun i x p q b c v w ⟨p0, b0, _, z2, z3⟩ => by have := sN_lt z3; omega) k hk
        exact ⟨x, (aQ_j (hL k5.1) k7 (by omega) (by omega)).trans (congrArg some z1), (hV (by omega) z5 (by omega)).mo (fun S2 r q2 => ⟨q2.1, q2.2.imp id (fun q3 => ⟨q3.1, x, z1, q3.2⟩)⟩)⟩
      · exact Rt.bd (oI_mk hy k1 (v := 4) rfl) (Rt.iq (by decide) (Rt.bd (oI_mk hy k1 (v := 4) rfl) (Rt.iq (by decide) (Rt.bd (oI_mk hy k1 (v := 4) rfl) (Rt.iq (by decide) (Rt.bd (oI_mk hy k1 (v := 4) rfl) (Rt.iq (by decide) hz0)))))))
      · have nxr := k6
        have hmn : mn ≤ 12 := by obtain ⟨_, _, _, _, _, _, z⟩ := k5; exact z
        refine Rt.bd (oI_mk hy k1 (v := 5) rfl) (Rt.iq (by decide) (Rt.bd (oI_mk hy k1 (v := 5) rfl) (Rt.iq (by decide) (Rt.bd (oI_mk hy k1 (v := 5) rfl) (Rt.ip rfl ?_)))))
        refine (e39_ (by omega) (oI_mk hy k1 (v := nI mn) rfl) (oR_mk hy k1 (v := some ar) rfl) (P := fun k => ∃ (y bk : Nat) (ys : List Value), f k = some y ∧ ZF S y = .inr (13, ys) ∧ ys[5]? = some (.ref bk) ∧ eB S d bk) (fun k hk => ?_) bigN 0 (by unfold bigN; omega) (Nat.zero_le _) (fun i hi => absurd hi (by omega))).mo (fun S2 r q2 => ⟨q2.1, q2.2.imp id (fun q3 => ⟨q3.1, _, k1, Or.inr (Or.inr (Or.inl ⟨rfl, ar, mn, cap, _, f, rfl, rfl, by omega, k7, q3.2⟩))⟩)⟩)
        obtain ⟨x, p1, q2, b1, c1, v1, w1, z1, z2, z5, _⟩ := chJ_el l1 (fun i x p q b c v w z => sN_lt z) k hk
        cases n with
        | zero => exact z5.elim
        | succ n =>
        obtain ⟨⟨y1, y2, y3⟩, na, bk, mk, p', fv, tx, us, y4, _, _, _, _, _, _, _, _, y5⟩ := z5
        exact ⟨x, bk, (aQ_j (hL nxr.1) k7 (by omega) (by omega)).trans (congrArg some z1), oR_mk (hL y1) y4 (v := some bk) rfl, (hV (by omega) y5 (by omega)).mo (fun S2 r q2 => ⟨q2.1, q2.2.imp id (fun q3 => ⟨q3.1, x, bk, _, z1, y4, rfl, q3.2⟩)⟩)⟩
      · exact Rt.bd (oI_mk hy k1 (v := 6) rfl) (Rt.ip rfl (Rt.zr (Or.inr rfl) ⟨rfl, Or.inr ⟨rfl, _, k1, Or.inl rfl⟩⟩))
      · refine Rt.bd (oI_mk hy k1 (v := 8) rfl) (Rt.iq (by decide) (Rt.bd (oI_mk hy k1 (v := 8) rfl) (Rt.ip rfl (Rt.bd (oR_mk hy k1 (v := some y9) rfl) (Rt.bn (hV (by omega) k2 hq1) (fun S2 r q2 => ?_))))))
        obtain ⟨e2, q2⟩ := q2
        rw [e2]
        rcases q2 with q2 | ⟨q2, q3⟩
        · rw [q2]; exact Rt.zr (Or.inl rfl) ⟨rfl, Or.inl rfl⟩
        · rw [q2]; exact Rt.zr (Or.inr rfl) ⟨rfl, Or.inr ⟨rfl, _, k1, Or.inr (Or.inl ⟨rfl, y9, rfl, q3⟩)⟩⟩
    unfold f_ends
    have hya := hL nxa.1
    refine (e2_ (by omega) (oI_mk hya k1 (v := nI mn) rfl) (oR_mk hya k1 (v := some la) rfl) (P := fun k => ∃ y : Nat, f k = some y ∧ eS S (eB S d) y) (fun k hk => ?_) bigN 0 (by unfold bigN; omega) (Nat.zero_le _)).mo (fun S2 r q2 => ⟨q2.1, q2.2.imp id (fun q3 => ?_)⟩)
    · obtain ⟨x, p1, q2, b1, c1, v1, w1, z1, z2, z5, _⟩ := chJ_el k6 (fun i x p q b c v w z => sN_lt z) k hk
      exact ⟨x, (aQ_j (hL k2.1) k3 (by omega) (by omega)).trans (congrArg some z1), (hS z5 (by omega)).mo (fun S2 r q2 => ⟨q2.1, q2.2.imp id (fun q3 => ⟨q3.1, x, z1, q3.2⟩)⟩)⟩
    · obtain ⟨e3, k, hk, y, z1, z2⟩ := q3
      exact ⟨e3, _, la, mn, cap, k, y, _, f, k1, rfl, rfl, by omega, k3, hk, z1, z2⟩
end END
