section PS34
variable {y : qY} {zn sz rk : Nat → Nat} {M M2 : nM} {k T : Nat} {V W : qV} {c l h : List Nat} {x : Int64} {ρ : lLc} {s s2 : Nat × Nat}
theorem qG_z : qG V [] W = W := rfl
theorem qG_n : qG V (s :: ρ) W [] = V [] := rfl
theorem qG_e : qS (qG V (s :: ρ) W) [s] = qG (qS V [s]) ρ W := funext fun σ => by
  show (match qD (s :: ρ) (s :: σ) with | some τ => W τ | none => V (s :: σ)) = (match qD ρ σ with | some τ => W τ | none => V (s :: σ))
  rw [show qD (s :: ρ) (s :: σ) = qD ρ σ from if_pos rfl]
theorem qG_o (q : s ≠ s2) : qS (qG V (s :: ρ) W) [s2] = qS V [s2] := funext fun σ => by
  show (match qD (s :: ρ) (s2 :: σ) with | some τ => W τ | none => V (s2 :: σ)) = V (s2 :: σ)
  rw [show qD (s :: ρ) (s2 :: σ) = none from if_neg q]
/-- what a change of the place at ρ does, if the nodes of rest stay, and the links of c0 -/
def foR (y : qY) (zn sz : Nat → Nat) (M : nM) (T T0 : Nat) (V : qV) (ρ : lLc) (c c0 rest hr : List Nat) : Prop := ∀ M2 : nM, agN M M2 rest → (∀ a ∈ c0, M2.x a = M.x a) →
  (∀ (W : qV) (k1 : Nat) (l1 h1 : List Nat), pL y sz M2 k1 T0 W c0 l1 h1 → ∃ (k2 : Nat) (l2 h2 : List Nat), pL y sz M2 k2 T (qG V ρ W) c l2 h2 ∧ (∀ a : Nat, cnN a c + cnN a l2 = cnN a c0 + cnN a l1 + cnN a rest) ∧ ∀ a : Nat, cnN a h2 = cnN a h1 + cnN a hr) ∧
  (∀ (π : lLc) (T1 n : Nat), qW y T π T1 → prS V π → (lP ρ π → π = ρ) → wRn y zn M T (hdN c) π n → wRn y zn M2 T (hdN c) π n)
theorem foS {cs ls : Nat → List Nat} {n j : Nat} {rest : List Nat} (hj : j < n) {i a : Nat} (hi : i < n) (hij : i ≠ j) : (a ∈ cs i → a ∈ rest ++ (ftN (lUp cs j []) n ++ ftN (lUp ls j []) n)) ∧ (a ∈ ls i → a ∈ rest ++ (ftN (lUp cs j []) n ++ ftN (lUp ls j []) n)) := ⟨fun w => List.mem_append_right _ (List.mem_append_left _ (ftN_rest hi hij w)), fun w => List.mem_append_right _ (List.mem_append_right _ (ftN_rest hi hij w))⟩
/-- parts: one of them changes -/
theorem foP {g : Nat} (hy : nYk y zn sz rk) {gg n j : Nat} {pt : Nat → Nat} {cs ls hs : Nat → List Nat} {k1 k2 : Nat} {lj hj2 : List Nat} {V2 : qV} {rest : List Nat} (hj : j < n) (hq : ∀ i : Nat, i < n → pL y sz M k1 (pt i) (qS V [(gg, i)]) (cs i) (ls i) (hs i)) (hag : agN M M2 (rest ++ (ftN (lUp cs j []) n ++ ftN (lUp ls j []) n))) (hV : ∀ i : Nat, i ≠ j → qS V2 [(gg, i)] = qS V [(gg, i)]) (hp : pL y sz M2 k2 (pt j) (qS V2 [(gg, j)]) (cs j) lj hj2) : ∀ i : Nat, i < n → pL y sz M2 (max k1 k2) (pt i) (qS V2 [(gg, i)]) (cs i) (lUp ls j lj i) (lUp hs j hj2 i) := fun i hi => by
  by_cases e : i = j
  · subst e
    rw [lUp_eq, lUp_eq]
    exact hp.up (Nat.le_max_right _ _)
  · rw [lUp_ne e, lUp_ne e, hV i e]
    exact ((hq i hi).st (fun a w => ⟨(hag a ((foS (rest := rest) hj hi e).1 w)).1, (hag a ((foS (rest := rest) hj hi e).1 w)).2.1⟩) (hag.im (fun a w => (foS (rest := rest) hj hi e).2 w))).up (Nat.le_max_left _ _)
/-- a place in a place -/
theorem pL.fo (hy : nYk y zn sz rk) : ∀ {ρ : lLc} {k T T0 : Nat} {V : qV} {c l h : List Nat}, pL y sz M k T V c l h → lkN M.x c → qW y T ρ T0 → prS V ρ → ∃ (k0 : Nat) (c0 l0 h0 rest hr : List Nat), pL y sz M k0 T0 (qS V ρ) c0 l0 h0 ∧ lkN M.x c0 ∧ wRn y zn M T (hdN c) ρ (hdN c0) ∧ (∀ a : Nat, cnN a c + cnN a l = cnN a c0 + cnN a l0 + cnN a rest) ∧ (∀ a : Nat, cnN a h = cnN a h0 + cnN a hr) ∧ (∀ a ∈ c, a ∈ c0 ∨ a ∈ rest) ∧ foR y zn sz M T T0 V ρ c c0 rest hr
  | [], k, T, T0, V, c, l, h, q, hk, hw, hp => by
    obtain rfl := (show _ = _ from hw)
    refine ⟨k, c, l, h, [], [], q, hk, rfl, fun a => rfl, fun a => rfl, fun a w => Or.inl w, fun M2 _ _ => ⟨fun W k1 l1 h1 w => ⟨k1, l1, h1, w, fun a => rfl, fun a => rfl⟩, fun π T1 n p1 p2 p3 p4 => ?_⟩⟩
    obtain rfl := p3 ⟨π, rfl⟩
    exact p4
  | _ :: _, 0, _, _, _, _, _, _, q, _, _, _ => q.elim
  | (0, j) :: ρ, k + 1, T, T0, V, c, l, h, q, hk, hw, hp => by
    rcases q with ⟨q1, cs, ls, hs, e1, e2, e3, q2⟩ | ⟨q1, _⟩
    · obtain ⟨_, hj, hw⟩ := hw
      subst e1 e2 e3
      have hn : ∀ i : Nat, i < y.2.2.2.1 T 0 → (cs i).length = zn (y.2.2.2.2 T 0 i) := fun i hi => (q2 i hi).len hy
      have hc1 := ftN_0 hn (fun i => (hy.1 _).1) hj
      obtain ⟨k0, c0, l0, h0, rest, hr, a1, a2, a3, a4, a5, a6, a7⟩ := (q2 j hj).fo hy (hk.seg hj) hw hp
      refine ⟨k0, c0, l0, h0, rest ++ (ftN (lUp cs j []) (y.2.2.2.1 T 0) ++ ftN (lUp ls j []) (y.2.2.2.1 T 0)), hr ++ ftN (lUp hs j []) (y.2.2.2.1 T 0), a1, a2, ⟨_, hdN (cs j), hk, hdN_0 hc1, ftN_hd hn (hy.1 _).1 hj, a3⟩, fun a => ?_, fun a => ?_, fun a w => ?_, fun M2 g1 g2 => ?_⟩
      · rw [ftN_sp (f := cs) (a := a) hj, ftN_sp (f := ls) (a := a) hj, cnN_app, cnN_app]
        have := a4 a
        omega
      · rw [ftN_sp (f := hs) (a := a) hj, cnN_app]
        have := a5 a
        omega
      · obtain ⟨i, hi, w⟩ := ftN_mem.mp w
        by_cases e : i = j
        · subst e
          exact (a6 a w).imp id (fun z => List.mem_append_left _ z)
        · exact Or.inr ((foS (rest := rest) hj hi e).1 w)
      · obtain ⟨b1, b2⟩ := a7 M2 (g1.im (fun a w => List.mem_append_left _ w)) g2
        have hlk : lkN M2.x (ftN cs (y.2.2.2.1 T 0)) := hk.cg (fun a w => by
          obtain ⟨i, hi, w⟩ := ftN_mem.mp w
          by_cases e : i = j
          · subst e
            rcases a6 a w with z | z
            · exact g2 a z
            · exact (g1 a (List.mem_append_left _ z)).2.2
          · exact (g1 a ((foS (rest := rest) hj hi e).1 w)).2.2)
        refine ⟨fun W k1 l1 h1 w => ?_, fun π T1 n p1 p2 p3 p4 => ?_⟩
        · obtain ⟨k2, l2, h2, c1, c2, c3⟩ := b1 W k1 l1 h1 w
          refine ⟨max k k2 + 1, ftN (lUp ls j l2) (y.2.2.2.1 T 0), ftN (lUp hs j h2) (y.2.2.2.1 T 0), Or.inl ⟨q1, cs, lUp ls j l2, lUp hs j h2, rfl, rfl, rfl, foP (g := 0) hy hj q2 g1 (fun i hi => qG_o (fun z => hi (Prod.mk.inj z).2.symm)) (by rw [qG_e]; exact c1)⟩, fun a => ?_, fun a => ?_⟩
          · rw [ftN_sp (f := cs) (a := a) hj, ftN_up (f := ls) (a := a) hj, cnN_app, cnN_app]
            have := c2 a
            omega
          · rw [ftN_up (f := hs) (a := a) hj, cnN_app]
            have := c3 a
            omega
        · match π, p1, p2, p3, p4 with
          | [], _, _, _, p4 => exact p4
          | (0, i) :: π, p1, p2, p3, ⟨L, n1, r1, r2, r3, r4⟩ =>
            obtain ⟨_, hi, p1⟩ := p1
            have e := r1.det hk (r2.trans (hdN_0 hc1).symm) r3 (ftN_hd hn (hy.1 _).1 hi)
            subst e
            refine ⟨_, hdN (cs i), hlk, hdN_0 hc1, ftN_hd hn (hy.1 _).1 hi, ?_⟩
            by_cases e : i = j
            · subst e
              exact b2 π T1 n p1 p2 (fun z => (List.cons.inj (p3 (lP_consI z))).2) r4
            · obtain ⟨n2, hq⟩ := (q2 i hi).wk hy (hk.seg hi) p1 p2
              have e2 := wRn.det r4 (hq M (fun a w => ⟨rfl, rfl⟩) (fun a w => ⟨rfl, rfl, rfl⟩))
              subst e2
              exact hq M2 (fun a w => ⟨(g1 a ((foS (rest := rest) hj hi e).1 w)).1, (g1 a ((foS (rest := rest) hj hi e).1 w)).2.2⟩) (g1.im (fun a w => (foS (rest := rest) hj hi e).2 w))
          | (1, i) :: π, p1, _, _, _ => exact absurd (q1.symm.trans p1.2.1) (by decide)
          | (g + 2, i) :: π, p1, _, _, _ => exact absurd (q1.symm.trans p1.1) (by decide)
    · exact absurd hw.1 q1
  | (1, j) :: ρ, k + 1, T, T0, V, c, l, h, q, hk, hw, hp => by
    obtain ⟨rfl, h4, hw⟩ := hw
    obtain ⟨⟨z, hz⟩, hp⟩ := hp
    rcases q with ⟨q1, _⟩ | ⟨q1, n, e1, ⟨q2, _⟩ | ⟨q2, ⟨q3, _⟩ | ⟨q3, m, f, C, L, H, a1, a2, a3, a4, a5, a6, a7, a8, a9, a10, a11⟩ | ⟨_, q3, _⟩⟩⟩
    · rw [h4] at q1; cases q1
    · rw [hz] at q2; cases q2
    · rw [h4] at q3; cases q3
    · subst e1 a9 a10
      have hC := a11.len hy
      have hC1 : 1 ≤ C.length := by rw [hC]; exact (hy.1 _).1
      obtain ⟨k0, c0, l0, h0, rest, hr, b1, b2, b3, b4, b5, b6, b7⟩ := a11.fo hy a8 hw hp
      refine ⟨k0, c0, l0, h0, n :: m :: rest, rgN f (sz (y.2.1 T)) ++ hr, b1, b2, ⟨m, hdN C, a2, a3, a4, (a8.1 _ (hdN_i hC1)).2, b3⟩, fun a => ?_, fun a => ?_, fun a w => ?_, fun M2 g1 g2 => ?_⟩
      · show ((if n = a then 1 else 0) + 0) + ((if m = a then 1 else 0) + cnN a (C ++ L)) = _ + ((if n = a then 1 else 0) + ((if m = a then 1 else 0) + cnN a rest))
        rw [cnN_app]
        have := b4 a
        omega
      · rw [cnN_app, cnN_app]
        have := b5 a
        omega
      · rw [List.mem_singleton.mp w]; exact Or.inr (List.mem_cons_self ..)
      · have hn := g1 n (List.mem_cons_self ..)
        have hm := g1 m (List.mem_cons_of_mem _ (List.mem_cons_self ..))
        obtain ⟨d1, d2⟩ := b7 M2 (g1.im (fun a w => List.mem_cons_of_mem _ (List.mem_cons_of_mem _ w))) g2
        have hlk : lkN M2.x C := a8.cg (fun a w => by
          rcases b6 a w with z | z
          · exact g2 a z
          · exact (g1 a (List.mem_cons_of_mem _ (List.mem_cons_of_mem _ z))).2.2)
        refine ⟨fun W k1 l1 h1 w => ?_, fun π T1 n9 p1 p2 p3 p4 => ?_⟩
        · obtain ⟨k2, l2, h2, c1, c2, c3⟩ := d1 W k1 l1 h1 w
          refine ⟨k2 + 1, m :: (C ++ l2), rgN f (sz (y.2.1 T)) ++ h2, Or.inr ⟨q1, n, rfl, Or.inr ⟨hn.2.1.trans q2, Or.inr (Or.inl ⟨q3, m, f, C, l2, h2, a1, by rw [hn.1]; exact a2, a3, by rw [hm.1]; exact a4, by rw [hm.1]; exact a5, by rw [hm.1]; exact a6, a7, hlk, rfl, rfl, by rw [qG_e]; exact c1⟩)⟩⟩, fun a => ?_, fun a => ?_⟩
          · show ((if n = a then 1 else 0) + 0) + ((if m = a then 1 else 0) + cnN a (C ++ l2)) = _ + ((if n = a then 1 else 0) + ((if m = a then 1 else 0) + cnN a rest))
            rw [cnN_app]
            have := c2 a
            omega
          · rw [cnN_app, cnN_app]
            have := c3 a
            omega
        · match π, p1, p2, p3, p4 with
          | [], _, _, _, p4 => exact p4
          | (0, i) :: π, p1, _, _, _ => exact absurd p1.1 q1
          | (1, i) :: π, ⟨hi, _, p1⟩, p2, p3, ⟨m9, n1, r1, r2, r3, r4, r5⟩ =>
            subst hi
            have e := nL_e (by omega) (by omega) (a2.symm.trans r1)
            subst e
            have e := nI_e (by have := (a8.1 _ (hdN_i hC1)).2; omega) (by omega) (a4.symm.trans r3)
            subst e
            exact ⟨m, hdN C, hn.1.trans a2, a3, by rw [hm.1]; exact a4, r4, d2 π T1 n9 p1 p2.2 (fun z => (List.cons.inj (p3 (lP_consI z))).2) r5⟩
          | (g + 2, i) :: π, p1, _, _, _ => exact absurd (h4.symm.trans p1.1) (by decide)
    · exact absurd h4 q3
  | (g + 2, j) :: ρ, k + 1, T, T0, V, c, l, h, q, hk, hw, hp => by
    obtain ⟨h3, hg, hj, hw⟩ := hw
    obtain ⟨⟨t, hz⟩, hp⟩ := hp
    rcases q with ⟨q1, _⟩ | ⟨q1, n, e1, ⟨q2, _⟩ | ⟨q2, ⟨q3, m, g2, cs, ls, hs, a1, a2, a3, a4, a5, a6, a7, a8, a9, a10⟩ | ⟨q3, _⟩ | ⟨q3, _⟩⟩⟩
    · rw [h3] at q1; cases q1
    · rw [hz] at q2; cases q2
    · obtain rfl : g2 = g := by rw [hz] at a1; cases a1; rfl
      subst e1 a8 a9
      have hn9 : ∀ i : Nat, i < y.2.2.2.1 T g2 → (cs i).length = zn (y.2.2.2.2 T g2 i) := fun i hi => (a10 i hi).len hy
      have hc1 := ftN_0 hn9 (fun i => (hy.1 _).1) hj
      have hb := (a7.1 _ (hdN_i hc1)).2
      obtain ⟨k0, c0, l0, h0, rest, hr, b1, b2, b3, b4, b5, b6, b7⟩ := (a10 j hj).fo hy (a7.seg hj) hw hp
      refine ⟨k0, c0, l0, h0, n :: m :: (rest ++ (ftN (lUp cs j []) (y.2.2.2.1 T g2) ++ ftN (lUp ls j []) (y.2.2.2.1 T g2))), hr ++ ftN (lUp hs j []) (y.2.2.2.1 T g2), b1, b2, ⟨m, _, _, hdN (cs j), a3, a4, a5, hb, a7, hdN_0 hc1, ftN_hd hn9 (hy.1 _).1 hj, b3⟩, fun a => ?_, fun a => ?_, fun a w => ?_, fun M2 g1 g2' => ?_⟩
      · show ((if n = a then 1 else 0) + 0) + ((if m = a then 1 else 0) + cnN a (ftN cs _ ++ ftN ls _)) = _ + ((if n = a then 1 else 0) + ((if m = a then 1 else 0) + cnN a (rest ++ (ftN (lUp cs j []) _ ++ ftN (lUp ls j []) _))))
        rw [cnN_app, cnN_app, cnN_app, ftN_sp (f := cs) (a := a) hj, ftN_sp (f := ls) (a := a) hj]
        have := b4 a
        omega
      · rw [ftN_sp (f := hs) (a := a) hj, cnN_app]
        have := b5 a
        omega
      · rw [List.mem_singleton.mp w]; exact Or.inr (List.mem_cons_self ..)
      · have hn := g1 n (List.mem_cons_self ..)
        have hm := g1 m (List.mem_cons_of_mem _ (List.mem_cons_self ..))
        have g3 : agN M M2 (rest ++ (ftN (lUp cs j []) (y.2.2.2.1 T g2) ++ ftN (lUp ls j []) (y.2.2.2.1 T g2))) := g1.im (fun a w => List.mem_cons_of_mem _ (List.mem_cons_of_mem _ w))
        obtain ⟨d1, d2⟩ := b7 M2 (g3.im (fun a w => List.mem_append_left _ w)) g2'
        have hlk : lkN M2.x (ftN cs (y.2.2.2.1 T g2)) := a7.cg (fun a w => by
          obtain ⟨i, hi, w⟩ := ftN_mem.mp w
          by_cases e : i = j
          · subst e
            rcases b6 a w with z | z
            · exact g2' a z
            · exact (g3 a (List.mem_append_left _ z)).2.2
          · exact (g3 a ((foS (rest := rest) hj hi e).1 w)).2.2)
        refine ⟨fun W k1 l1 h1 w => ?_, fun π T1 n9 p1 p2 p3 p4 => ?_⟩
        · obtain ⟨k2, l2, h2, c1, c2, c3⟩ := d1 W k1 l1 h1 w
          refine ⟨max k k2 + 1, m :: (ftN cs (y.2.2.2.1 T g2) ++ ftN (lUp ls j l2) (y.2.2.2.1 T g2)), ftN (lUp hs j h2) (y.2.2.2.1 T g2), Or.inr ⟨q1, n, rfl, Or.inr ⟨hn.2.1.trans q2, Or.inl ⟨q3, m, g2, cs, lUp ls j l2, lUp hs j h2, a1, a2, by rw [hn.1]; exact a3, a4, by rw [hm.1]; exact a5, by rw [hm.1]; exact a6, hlk, rfl, rfl, foP (g := 0) hy hj a10 g3 (fun i hi => qG_o (fun z => hi (Prod.mk.inj z).2.symm)) (by rw [qG_e]; exact c1)⟩⟩⟩, fun a => ?_, fun a => ?_⟩
          · show ((if n = a then 1 else 0) + 0) + ((if m = a then 1 else 0) + cnN a (ftN cs _ ++ ftN (lUp ls j l2) _)) = _ + ((if n = a then 1 else 0) + ((if m = a then 1 else 0) + cnN a (rest ++ (ftN (lUp cs j []) _ ++ ftN (lUp ls j []) _))))
            rw [cnN_app, cnN_app, cnN_app, ftN_sp (f := cs) (a := a) hj, ftN_up (f := ls) (a := a) hj]
            have := c2 a
            omega
          · rw [ftN_up (f := hs) (a := a) hj, cnN_app]
            have := c3 a
            omega
        · match π, p1, p2, p3, p4 with
          | [], _, _, _, p4 => exact p4
          | (0, i) :: π, p1, _, _, _ => exact absurd p1.1 q1
          | (1, i) :: π, p1, _, _, _ => exact absurd (h3.symm.trans p1.2.1) (by decide)
          | (g + 2, i) :: π, ⟨_, _, hi, p1⟩, ⟨⟨t9, hz9⟩, p2⟩, p3, ⟨m9, n0, L, n1, r1, r2, r3, r4, r5, r6, r7, r8⟩ =>
            obtain rfl : g2 = g := by rw [a1] at hz9; cases hz9; rfl
            have e := nL_e (by omega) (by omega) (a3.symm.trans r1)
            subst e
            have e := nI_e (by omega) (by omega) (a5.symm.trans r3)
            subst e
            have e := r5.det a7 (r6.trans (hdN_0 hc1).symm) r7 (ftN_hd hn9 (hy.1 _).1 hi)
            subst e
            refine ⟨m, _, _, hdN (cs i), hn.1.trans a3, a4, by rw [hm.1]; exact a5, r4, hlk, hdN_0 hc1, ftN_hd hn9 (hy.1 _).1 hi, ?_⟩
            by_cases e : i = j
            · subst e
              exact d2 π T1 n9 p1 p2 (fun z => (List.cons.inj (p3 (lP_consI z))).2) r8
            · obtain ⟨n2, hq⟩ := (a10 i hi).wk hy (a7.seg hi) p1 p2
              have e2 := wRn.det r8 (hq M (fun a w => ⟨rfl, rfl⟩) (fun a w => ⟨rfl, rfl, rfl⟩))
              subst e2
              exact hq M2 (fun a w => ⟨(g3 a ((foS (rest := rest) hj hi e).1 w)).1, (g3 a ((foS (rest := rest) hj hi e).1 w)).2.2⟩) (g3.im (fun a w => (foS (rest := rest) hj hi e).2 w))
    · rw [h3] at q3; cases q3
    · exact absurd h3 q3
end PS34
