/-- a row of nodes: all grows -/
theorem chJ_mo {P : Nat → Nat → Nat → Nat → Nat → Nat → Nat → Nat → Prop} {f : Nat → Option Nat} {n : Nat} {ps bs vs : Nat → Nat} (hP : ∀ i x p q b c v w : Nat, i < n → P i x p q b c v w → p < q ∧ b ≤ c ∧ v ≤ w) (h : ∀ i : Nat, i < n → ∃ x : Nat, f i = some x ∧ P i x (ps i) (ps (i + 1)) (bs i) (bs (i + 1)) (vs i) (vs (i + 1))) {i : Nat} : ∀ {j : Nat}, i ≤ j → j ≤ n → ps i + (j - i) ≤ ps j ∧ bs i ≤ bs j ∧ vs i ≤ vs j
  | 0, h1, _ => by have : i = 0 := Nat.le_zero.mp h1; subst this; exact ⟨by omega, Nat.le_refl _, Nat.le_refl _⟩
  | j + 1, h1, h2 => by
    by_cases e : i = j + 1
    · subst e; exact ⟨by omega, Nat.le_refl _, Nat.le_refl _⟩
    · have a := chJ_mo hP h (i := i) (j := j) (by omega) (by omega)
      obtain ⟨x, _, b⟩ := h j (by omega)
      have b := hP _ _ _ _ _ _ _ _ (by omega) b
      exact ⟨by omega, by omega, by omega⟩
theorem sN_mo {R : yR} {S : Sg} {Λ : List Nat} {gv : Nat} : ∀ {n t a p q b c v w : Nat} {Γ Γ2 : List Nat} {κ : Nat × Nat × Nat}, sN R S Λ gv n t a p q b c v w Γ Γ2 κ → b ≤ c ∧ v ≤ w
  | 0, _, _, _, _, _, _, _, _, _, _, _, h => h.elim
  | n + 1, 0, a, p, q, b, c, v, w, Γ, Γ2, κ, h => by
    rcases h.2 with ⟨nm, y, mu, wr, ex, k1, k2, k3, k4, k5⟩ | ⟨kd, x, p', q', t, k1, k2, k3, k4, k5, k6, k7⟩ | ⟨x, y, q1, p2, q2, vv, t, mu, mv, π, k1, k2, k3, k4, k5, k6, k7, k8, k9⟩ | ⟨ca, ba, cap, mn, f, g, k1, k2, k3, k4, k5, k6, k7, k8, k9, l1⟩ | ⟨x, y, q0, b1, t, k1, k2, k3, k4, k5⟩ | ⟨x, ar, cap, mn, p0, q0, b1, i, t, bd, mu, rf, f, vf, k1, k2, k3, k4, k5, k6, k7, k8, k9, l1, l2, l3⟩ | ⟨ex, k1, k2, k3, k4⟩ | ⟨y, k1, k2, k3⟩
    · refine ⟨?_, by omega⟩
      rcases k5 with ⟨_, e⟩ | ⟨_, _, _, _, _, _, _, _, e, _⟩
      · omega
      · exact xE_bc e
    · exact ⟨xE_bc k5, by omega⟩
    · exact ⟨xE_bc k6, by omega⟩
    · obtain ⟨ps, bs, vs, h1, h2, h3, h4, h5, h6, h7⟩ := l1
      have := chJ_mo (P := fun i y p1 q1 b1 c1 v1 w1 => ∃ p0 b0 : Nat, ((f i = none ∧ b0 = b1) ∨ ∃ x p' q0 t : Nat, f i = some x ∧ p1 < p' ∧ q0 ≤ p0 ∧ xE R S Γ 408 16 x p' q0 b1 b0 t ∧ isTy S t 1 0 none) ∧ p1 ≤ p0 ∧ sN R S Λ gv n 1 y p0 q1 b0 c1 v1 w1 Γ Γ (0, 0, 0)) (i := 0) (j := mn) (by
        intro i x p q b c v w _ z
        obtain ⟨p0, b0, z1, z2, z3⟩ := z
        have z4 := sN_mo z3
        have z5 := sN_lt z3
        rcases z1 with ⟨_, e⟩ | ⟨_, _, _, _, _, _, _, e, _⟩
        · exact ⟨by omega, by omega, z4.2⟩
        · have := xE_bc e; exact ⟨by omega, by omega, z4.2⟩) h7 (Nat.zero_le _) (Nat.le_refl _)
      omega
    · have := xE_bc k2; have := sN_mo k4; omega
    · obtain ⟨ps, bs, vs, h1, h2, h3, h4, h5, h6, h7⟩ := l1
      have := chJ_mo (i := 0) (j := mn) (fun i x p q b c v w _ z => ⟨sN_lt z, (sN_mo z).1, (sN_mo z).2⟩) h7 (Nat.zero_le _) (Nat.le_refl _)
      have : b ≤ b1 := by
        rcases k3 with ⟨_, _, _, e⟩ | ⟨_, e, _⟩
        · exact xE_bc e
        · omega
      omega
    · refine ⟨?_, by omega⟩
      rcases k2 with ⟨_, e, _⟩ | ⟨_, _, _, _, _, _, e, _⟩
      · omega
      · exact xE_bc e
    · exact sN_mo k2
  | n + 1, 1, a, p, q, b, c, v, w, Γ, Γ2, κ, h => by
    obtain ⟨_, _, _, la, cap, mn, f, gs, _, _, _, _, _, ps, bs, vs, h1, h2, h3, h4, h5, h6, h7⟩ := h
    have := chJ_mo (i := 0) (j := mn) (fun i x p q b c v w _ z => ⟨sN_lt z, (sN_mo z).1, (sN_mo z).2⟩) h7 (Nat.zero_le _) (Nat.le_refl _)
    omega
  | n + 1, t + 2, a, p, q, b, c, v, w, Γ, Γ2, κ, h => by
    obtain ⟨_, na, bk, mk, p', fv, tx, us, _, _, _, _, _, _, _, _, _, h1⟩ := h
    have := sN_mo h1
    omega
/-- a block that ends the way -/
def eBx (S : Sg) (a : Nat) : Prop := ∃ m : Nat, eB S m a
theorem eS_mo {S : Sg} {P P2 : Nat → Prop} {a : Nat} (hP : ∀ y : Nat, P y → P2 y) (h : eS S P a) : eS S P2 a := by
  obtain ⟨fs, h1, h2⟩ := h
  refine ⟨fs, h1, ?_⟩
  rcases h2 with h2 | ⟨h2, y, h3, h4⟩ | ⟨h2, ar, mn, cap, k9, f, h3, h4, h5, h6, h7⟩ | ⟨h2, ca, ba, mn, cap, cap2, k8, k9, f, g, h3, h4, h5, h6, h7, h8, h9, h10, h11⟩
  · exact Or.inl h2
  · exact Or.inr (Or.inl ⟨h2, y, h3, hP y h4⟩)
  · refine Or.inr (Or.inr (Or.inl ⟨h2, ar, mn, cap, k9, f, h3, h4, h5, h6, fun k hk => ?_⟩))
    obtain ⟨y, bk, ys, a1, a2, a3, a4⟩ := h7 k hk
    exact ⟨y, bk, ys, a1, a2, a3, hP bk a4⟩
  · refine Or.inr (Or.inr (Or.inr ⟨h2, ca, ba, mn, cap, cap2, k8, k9, f, g, h3, h4, h5, h6, h7, h8, h9, h10, fun k hk => ?_⟩))
    obtain ⟨y, a1, a2⟩ := h11 k hk
    exact ⟨y, a1, hP y a2⟩
/-- what a block's laying begins with -/
def LyHb (R : yR) (S0 S : Sg) (E : eV) (P : Nat) (Γ : List Nat) (L : Nat) (js Λ : List Nat) (gv : Nat) (bw : Nat → Nat) (p q b c v w : Nat) : Prop := FEn R S0 E Λ gv ∧ BWt R bw ∧ LC R S0 S P 0 Γ L ∧ (P = 0 ∨ K0 S P) ∧ GJ Λ Γ js ∧ (∀ i ∈ js, i < v) ∧ (v ≤ w ∧ w ≤ 40) ∧ (p < q ∧ q ≤ R.T) ∧ P + 8 * (bw q - bw p) ≤ 24000 ∧ (b ≤ c ∧ L + c + w ≤ 160 + b + v) ∧ RMl R S (20 * (bw q - bw p) - 20) (60 * (bw q - bw p) - 60)
/-- a block was laid -/
def LyBQ (R : yR) (S0 S : Sg) (E : eV) (P : Nat) (Γ : List Nat) (L : Nat) (js : List Nat) (bw : Nat → Nat) (p q b c v w : Nat) (cl : Prop) (S2 : Sg) : Prop := ∃ P2 L2 z n : Nat, GV R S0 S S2 E P P2 0 0 Γ Γ L L2 (mkV js) (mkV js) cl z n ∧ P2 + 8 ≤ P + 8 * (bw q - bw p) ∧ z + 20 ≤ 20 * (bw q - bw p) ∧ n + 60 ≤ 60 * (bw q - bw p) ∧ L2 + b + v ≤ L + c + w ∧ (P2 = 0 ∨ K0 S2 P2)
/-- V lays blocks -/
def LbV (R : yR) (S0 : Sg) (E : eV) (Λ : List Nat) (gv : Nat) (bw : Nat → Nat) (V : Sg → Option Nat → Option (Sg × Unit)) (n : Nat) : Prop := ∀ m : Nat, m ≤ n → ∀ (bl p q b c v w : Nat) (Γ : List Nat), sN R S0 Λ gv m 1 bl p q b c v w Γ Γ (0, 0, 0) → ∀ (S : Sg) (P L : Nat) (js : List Nat), LyHb R S0 S E P Γ L js Λ gv bw p q b c v w → Rt (V S (some bl)) (fun S2 _ => LyBQ R S0 S E P Γ L js bw p q b c v w (eBx S0 bl) S2)
/-- V lays statements -/
def LsV (R : yR) (S0 : Sg) (E : eV) (Λ : List Nat) (gv : Nat) (bw : Nat → Nat) (V : Sg → Option Nat → Option (Sg × Unit)) (n : Nat) : Prop := ∀ m : Nat, m ≤ n → ∀ (a p q b c v w : Nat) (Γ Γ2 : List Nat), sN R S0 Λ gv m 0 a p q b c v w Γ Γ2 (0, 0, 0) → ∀ (S : Sg) (P L : Nat) (js : List Nat), LyHb R S0 S E P Γ L js Λ gv bw p q b c v w → P + 8 * (bw q - bw p) < 24000 → RMl R S (20 * (bw q - bw p)) (60 * (bw q - bw p)) → Rt (V S (some a)) (fun S2 _ => LyQ R S0 S E P Γ Γ2 L js Λ bw p q b c v w (eS S0 (eBx S0) a) 0 S2)
section LY32
variable {R : yR} {S0 Sb S S1 S2 : Sg} {P P1 P2 h h0 h1 hc L L2 Lb z n : Nat} {Γ Γ0 Γ1 Γ2 Λ : List Nat} {E : eV} {s s2 : List tE} {gv : Nat} {js js1 ks : List Nat} {bw : Nat → Nat} {cl : Prop} {p q b c v w : Nat} {V : Sg → Option Nat → Option (Sg × Unit)}
theorem GJ.un : ∀ {js Γ Γ2 : List Nat}, GJ Λ Γ js → GJ Λ Γ2 js → Γ = Γ2
  | [], _, _, a, b => a.trans b.symm
  | i :: js, _, _, a, b => by
    obtain ⟨A, y, rfl, a2, _, a4⟩ := a
    obtain ⟨B, y', rfl, b2, _, b4⟩ := b
    rw [a2] at b2; cases b2
    rw [GJ.un a4 b4]
theorem GJ.spl : ∀ {ks Γ : List Nat}, GJ Λ Γ (ks ++ js) → ∃ Γ0 us : List Nat, Γ = Γ0 ++ us ∧ GJ Λ Γ0 js
  | [], Γ, h => ⟨Γ, [], (List.append_nil _).symm, h⟩
  | i :: ks, Γ, h => by
    obtain ⟨A, y, rfl, _, _, h4⟩ := h
    obtain ⟨Γ0, us, rfl, h5⟩ := GJ.spl (ks := ks) h4
    exact ⟨Γ0, us ++ [y], List.append_assoc _ _ _, h5⟩
/-- the variables alive are fewer again -/
theorem GV.dn {us : List Nat} {α : Type} {g : Sg → Option (Sg × α)} {Q : Sg → α → Prop} {y : Int32} (gg : GV R S0 S S2 E P P2 h h1 Γ (Γ2 ++ us) L L2 s s2 cl z n) (hy : y = nI Γ2.length) (k : ∀ S3 : Sg, GV R S0 S S3 E P P2 h h1 Γ Γ2 L L2 s s2 cl z n → Zr S3 = Zr S2 → Rt (g S3) Q) : Rt ((pM S2 50 y).bind g) Q := by
  subst hy
  obtain ⟨a1, a2, a3, a4, a5, a6, a7, a8⟩ := gg
  have z1 : ∀ P L : Nat, LZ P L S2 (Ui S2 50 (nI Γ2.length)) := fun P L => LZ.ui (Or.inr (Or.inr (Or.inr rfl)))
  refine Rt.bd (v := Ui S2 50 (nI Γ2.length)) rfl (k _ ⟨⟨a1.1.tr (z1 0 0).1, (Zi_n (by decide)).trans a1.2.1, (Zi_n (by decide)).trans a1.2.2.1, ⟨Zi_s, fun k v hk => ?_⟩, (Zi_n (by decide)).trans a1.2.2.2.2.1, a1.2.2.2.2.2.1.st (z1 0 0).1 rfl (a1.2.2.2.2.2.1.2.st (z1 0 0).1 (fun _ _ _ => rfl) (fun _ _ _ => Or.inl rfl) (Zi_n (by decide))), a1.2.2.2.2.2.2.1, a1.2.2.2.2.2.2.2⟩, a2.tr (z1 _ _) (Nat.le_refl _) (Nat.le_refl _), a3.st (z1 _ _), a4, a5, a6, a7, a8⟩ rfl)
  have hlt := (List.getElem?_eq_some_iff.mp hk).1
  exact a1.2.2.2.1.2 k v (by rw [List.getElem?_append_left hlt]; exact hk)
theorem K0w.st (k : P = 0 ∨ K0 S P) (hz : LZ P L S S2) (hp : P ≤ P2) : (P2 = P ∧ P = 0) ∨ K0 S2 P2 ∨ (P = 0 ∧ 0 < P2) := by
  rcases k with k | k
  · by_cases e : P2 = 0
    · exact Or.inl ⟨by omega, k⟩
    · exact Or.inr (Or.inr ⟨k, by omega⟩)
  · exact Or.inr (Or.inl (k.st hz hp))
/-- the statements of a block, then its end -/
theorem lbk7 {bl la cap mn : Nat} {f : Nat → Option Nat} {gs : Nat → List Nat} {ps bs vs : Nat → Nat} (H : LyHb R S0 S E P Γ L js Λ gv bw p q b c v w) (hV : LsV R S0 E Λ gv bw (f_lay R.K V) n) (hbl : bl ∈ ZL R.S) (hF : ZF S0 bl = .inr (14, [.int (nI p), .int (nI (q - 1)), .ref la, .int (nI mn)])) (hla : la ∈ ZL R.S) (hFl : ZF S0 la = .inl (R.K.1 11, cap, .inr (.inr (.inr (.inr f))))) (hmc : mn ≤ cap) (g0 : gs 0 = Γ) (p0 : ps 0 = p + 1) (pn : ps mn = q - 1) (b0 : bs 0 = b) (bn : bs mn = c) (v0 : vs 0 = v) (vn : vs mn = w) (hel : ∀ i : Nat, i < mn → ∃ x : Nat, f i = some x ∧ sN R S0 Λ gv n 0 x (ps i) (ps (i + 1)) (bs i) (bs (i + 1)) (vs i) (vs (i + 1)) (gs i) (gs (i + 1)) (0, 0, 0)) : ∀ (m i : Nat) (S1 : Sg) (P1 L1 z n : Nat) (ks : List Nat), mn < i + m → i ≤ mn → GV R S0 S S1 E P P1 0 0 Γ (gs i) L L1 (mkV js) (mkV (ks ++ js)) (∃ k y : Nat, k < i ∧ f k = some y ∧ eS S0 (eBx S0) y) z n → GJ Λ (gs i) (ks ++ js) → (∀ j ∈ ks ++ js, j < vs i) → P1 + ks.length ≤ P + 8 * (bw (ps i) - bw (ps 0)) → z + 3 * ks.length ≤ 20 * (bw (ps i) - bw (ps 0)) → n + 5 * ks.length ≤ 60 * (bw (ps i) - bw (ps 0)) → L1 + b + v ≤ L + bs i + vs i → ((P1 = 0 ∧ ks = []) ∨ K0 S1 P1) → Rt (f_layBlock_7 R.K V m S1 (some bl) (nI js.length) (nI i)) (fun S2 _ => LyBQ R S0 S E P Γ L js bw p q b c v w (eBx S0 bl) S2)
  | 0, i, S1, P1, L1, z, n, ks, hm, hi, _, _, _, _, _, _, _, _ => by omega
  | m + 1, i, S1, P1, L1, z, n, ks, hm, hi, g, hG, hv, a1, a2, a3, a4, kk => by
    have H2 := H
    obtain ⟨hFE, hB, cc, k0, hGJ, hvj, hw, hpq, hP, hl, hr⟩ := H2
    have hL := hFE.1.1
    have hmo := fun {i j : Nat} (h1 : i ≤ j) (h2 : j ≤ mn) => chJ_mo (P := fun i x p1 q1 b1 c1 v1 w1 => sN R S0 Λ gv _ 0 x p1 q1 b1 c1 v1 w1 (gs i) (gs (i + 1)) (0, 0, 0)) (fun i x p q b c v w _ z => ⟨sN_lt z, (sN_mo z).1, (sN_mo z).2⟩) hel h1 h2
    have hmn := (hmo (Nat.zero_le mn) (Nat.le_refl mn))
    have hmi := (hmo (Nat.zero_le i) hi)
    have hT3 : R.T ≤ 3001 := hFE.1.2.2.2.2.2.2.2.2.2.1
    have w1 := hB.mo (p := p) (q := ps 0) (by omega) (by omega)
    have w2 := hB.mo (p := ps mn) (q := q) (by omega) (by omega)
    have w3 := hB.mo (p := ps 0) (q := ps i) (by omega) (by have := hmo hi (Nat.le_refl mn); omega)
    have w4 := hB.mo (p := ps i) (q := ps mn) (by have := hmo hi (Nat.le_refl mn); omega) (by omega)
    unfold f_layBlock_7
    refine Rt.bd (g.1.1.vi (by decide) (by decide) (oI_mk (hL bl hbl) hF (v := nI mn) rfl)) (Rt.it (fun q9 => ?_) (fun q9 => ?_))
    · have : mn ≤ i := (nI_leI (by omega) (by omega)).mp q9
      obtain rfl : i = mn := by omega
      have hln := hG.len
      rw [List.length_append] at hln
      have hjl := GJ.l40 (v := vs i) hG hv
      rw [List.length_append] at hjl
      refine Rt.bd (g.1.1.vi (by decide) (by decide) (oI_mk (hL bl hbl) hF (v := nI (q - 1)) rfl)) ?_
      refine Rt.bn (gou_ (h0 := 0) (Γ0 := gs i) (e := []) (ks := ks) (js1 := js) hFE (Or.inl rfl) rfl rfl (by omega) g.1 hG (by omega) (by omega) (g.rm hr (by omega) (by omega))) (fun S2 _ g2 => ?_)
      have g12 := g.tr g2 (cl3 := ∃ k y : Nat, k < i ∧ f k = some y ∧ eS S0 (eBx S0) y) (fun w => Or.inl w) (Nat.le_refl _) (Nat.le_refl _)
      obtain ⟨Γa, us, e1, e2⟩ := GJ.spl hG
      obtain rfl : Γa = Γ := GJ.un e2 hGJ
      rw [e1] at g12
      refine g12.dn (by rw [hGJ.len]) (fun S3 g3 e3 => Rt.rt ⟨P1 + ks.length, L1, _, _, g3.mo (fun hx => ?_) (Nat.le_refl _) (Nat.le_refl _), by omega, by omega, by omega, by omega, ?_⟩)
      · obtain ⟨m9, hx⟩ := hx
        cases m9 with
        | zero => exact hx.elim
        | succ m9 =>
          obtain ⟨fs, la2, mn2, cap2, k, y, k9, f2, x1, x2, x3, x4, x5, x6, x7, x8⟩ := hx
          obtain rfl : fs = _ := (Prod.mk.inj (Sum.inr.inj (x1.symm.trans hF))).2
          have : la2 = la := by cases x2; rfl
          subst this
          have : mn2 = i := nI_ij (Value.int.inj (Option.some.inj x3)).symm (by omega) (by omega)
          have ef : f2 = f := by rw [hFl] at x5; cases x5; rfl
          subst ef
          exact ⟨k, y, by omega, x7, eS_mo (fun y hy => ⟨m9, hy⟩) x8⟩
      · rcases kk with e | e
        · exact Or.inl (by rw [e.1, e.2]; rfl)
        · exact Or.inr (by unfold K0; rw [e3]; exact e.st g2.2.1 (by omega))
    · have hlt : i < mn := by
        by_cases e : i < mn
        · exact e
        · exact absurd (nI_le (a := mn) (b := i) (by omega) (by omega)) q9
      obtain ⟨x, f1, f2⟩ := hel i hlt
      obtain ⟨r1, r2⟩ := g.1.1.ro (hL la hla) hFl
      have h1 := hmo (show i ≤ i + 1 by omega) hlt
      have h2 := hmo (show i + 1 ≤ mn from hlt) (Nat.le_refl mn)
      have w5 := hB.mo (p := ps i) (q := ps (i + 1)) (by omega) (by omega)
      have w6 := hB.mo (p := ps (i + 1)) (q := ps mn) (by omega) (by omega)
      refine Rt.bd (g.1.1.vr (by decide) (by decide) (oR_mk (hL bl hbl) hF (v := some la) rfl)) (Rt.bd (aQ_j r1 r2 (by omega) (by omega)) ?_)
      rw [f1]
      have hln : (ks ++ js).length = ks.length + js.length := List.length_append
      refine Rt.bn (hV _ (Nat.le_refl _) x (ps i) (ps (i + 1)) (bs i) (bs (i + 1)) (vs i) (vs (i + 1)) (gs i) (gs (i + 1)) f2 S1 P1 L1 (ks ++ js) ⟨hFE, hB, g.1, kk.imp (fun w => w.1) id, hG, hv, by omega, by omega, by omega, by omega, g.rm hr (by omega) (by omega)⟩ (by omega) (g.rm hr (by omega) (by omega))) (fun S2 _ t2 => ?_)
      obtain ⟨P2, L2, z2, n2, js2, g2, c1, c2, c3, c4, c5, c6, c7, c8⟩ := t2
      rw [nI_1]
      have hks : ∃ ks2 : List Nat, js2 = ks2 ++ js ∧ ks2.length + (ks ++ js).length = js2.length + ks.length := by
        rcases c3 with e | ⟨i9, e⟩
        · exact ⟨ks, e, by rw [e]; omega⟩
        · exact ⟨i9 :: ks, e, by rw [e]; show ks.length + 1 + _ = (ks ++ js).length + 1 + _; omega⟩
      obtain ⟨ks2, rfl, hk2⟩ := hks
      have hln2 : (ks2 ++ js).length = ks2.length + js.length := List.length_append
      refine lbk7 H hV hbl hF hla hFl hmc g0 p0 pn b0 bn v0 vn hel m (i + 1) S2 P2 L2 (z + z2) (n + n2) ks2 (by omega) (by omega) (g.tr g2 (fun hx => ?_) (Nat.le_refl _) (Nat.le_refl _)) c1 c2 (by omega) (by omega) (by omega) (by omega) (Or.inr c8)
      obtain ⟨k, y, x1, x2, x3⟩ := hx
      by_cases e : k = i
      · subst e; rw [f1] at x2; cases x2; exact Or.inr x3
      · exact Or.inl ⟨k, y, by omega, x2, x3⟩
end LY32
