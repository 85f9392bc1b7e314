section PS50
variable {y : qY} {vt : Nat → Nat → Nat} {tb : Nat → lTb} {zn sz rk : Nat → Nat} {M M2 : nM} {sk sk2 : Nat → Int64} {pl pl2 : Nat → Int32} {f : Nat} {x x2 : Nat → kFm} {rt rt2 : Nat × Nat → Nat} {V V2 : Nat × Nat → qV} {bs : Nat → Nat} {C L H C2 L2 H2 : Nat × Nat → List Nat} {S : Sg} {T : Nat} {W : qV} {xv : Int64} {l h : List Nat}
/-- a value without nodes -/
theorem vaR.lf (q : vaR y sz M T W xv l h) (h2 : y.1 T ≠ 2) (h3 : y.1 T ≠ 3) (h4 : y.1 T ≠ 4) : l = [] ∧ h = [] := by
  rcases q with ⟨q1, _⟩ | ⟨_, k, ⟨q1, _⟩ | ⟨q1, _⟩ | ⟨_, _, _, a, b⟩⟩
  · exact absurd q1 h2
  · exact absurd q1 h3
  · exact absurd q1 h4
  · exact ⟨a, b⟩
theorem vaR.mk (h2 : y.1 T ≠ 2) (h3 : y.1 T ≠ 3) (h4 : y.1 T ≠ 4) (hW : ∃ z : Nat × Nat, W [] = some z) : vaR y sz M T W xv [] [] := Or.inr ⟨h2, 0, Or.inr (Or.inr ⟨h3, h4, hW, rfl, rfl⟩)⟩
theorem agN.rf {l : List Nat} : agN M M l := fun _ _ => ⟨rfl, rfl, rfl⟩
/-- one root of the latest frame changes -/
theorem kN.r1 {u0 : Nat} (hy : nYk y zn sz rk) (hJ : kJ y vt tb f x rt V) (h : kN y zn sz M sk pl f x rt V bs C L H)
  (hx : ∀ j : Nat, j ≠ f → x2 j = x j) (h8 : ∀ u : Nat, u ≠ u0 → ((8, u, 0) ∈ (x2 f).2.1 ↔ (8, u, 0) ∈ (x f).2.1)) (hw : ∀ u : Nat, u ≠ u0 → 40 ≤ u → (u < 40 + wl (x2 f).2.1 ↔ u < 40 + wl (x f).2.1))
  (hV : ∀ r : Nat × Nat, r ≠ (f, u0) → rt2 r = rt r ∧ V2 r = V r ∧ C2 r = C r ∧ L2 r = L r ∧ H2 r = H r) (hM : ∀ r : Nat × Nat, r ≠ (f, u0) → r.1 ≤ f → kSc (x r.1).2.1 r.2 → agN M M2 (C r) ∧ agN M M2 (L r))
  (hp : ∀ r : Nat × Nat, r ≠ (f, u0) → r.1 ≤ f → r.2 < 40 → (8, r.2, 0) ∈ (x r.1).2.1 → pl2 (40 * r.1 + r.2) = pl (40 * r.1 + r.2)) (hs : ∀ r : Nat × Nat, r ≠ (f, u0) → r.1 ≤ f → 40 ≤ r.2 → r.2 < 40 + wl (x r.1).2.1 → sk2 (bs r.1 + (r.2 - 40)) = sk (bs r.1 + (r.2 - 40)))
  (hn : rPc y sz M2 sk2 pl2 (x2 f).2.1 (bs f) f u0 (rt2 (f, u0)) (V2 (f, u0)) (C2 (f, u0)) (L2 (f, u0)) (H2 (f, u0)))
  (hr : ∀ (j u : Nat) (d : Nat × Nat) (π : lLc), j ≤ f → kA (x2 j) u → kSc (x2 j).2.1 u → kR (x2 j) u = some (d :: π) → ((j, u) ≠ (f, u0) ∧ d ≠ (f, u0) ∧ kA (x j) u ∧ kR (x j) u = some (d :: π)) ∨ rfA y zn M2 sk2 (bs j) u (rt2 d) (C2 d) (C2 (j, u)) π) : kN y zn sz M2 sk2 pl2 f x2 rt2 V2 bs C2 L2 H2 := by
  have hag : ∀ r : Nat × Nat, r ≠ (f, u0) → r.1 ≤ f → agN M M2 (C r) ∧ agN M M2 (L r) := fun r h1 h2 => by
    by_cases c : kSc (x r.1).2.1 r.2
    · exact hM r h1 h2 c
    · obtain ⟨z1, z2, _⟩ := (h.1 r.1 r.2 h2).2.2 c
      have z1 : C r = [] := z1
      have z2 : L r = [] := z2
      rw [z1, z2]
      exact ⟨fun _ w => (by cases w), fun _ w => (by cases w)⟩
  refine kN.up (bs := bs) (f2 := f) hy hJ h (fun r => r ≠ (f, u0) ∧ r.1 ≤ f) (fun j u ⟨k1, k2⟩ => ?_) (fun j u hj hk => ?_) (fun j u hj => ?_) ⟨h.2.2.1.1, fun j hj => ?_⟩ (fun j u d π hj ha hc he => ?_)
  · obtain ⟨v1, v2, v3, v4, v5⟩ := hV (j, u) k1
    obtain ⟨a1, a2⟩ := hag (j, u) k1 k2
    refine ⟨⟨k2, rfl⟩, ?_, fun a => ?_, ⟨v1, v2⟩, ⟨v3, v4, v5⟩, a1, a2, fun a b => hp (j, u) k1 k2 a b, fun a b => hs (j, u) k1 k2 a b⟩
    · by_cases e : j = f
      · subst e; exact h8 u (fun w => k1 (by rw [w]))
      · rw [hx j e]
    · by_cases e : j = f
      · subst e; exact hw u (fun w => k1 (by rw [w])) a
      · rw [hx j e]
  · have e : (j, u) = (f, u0) := Classical.byContradiction (fun w => hk ⟨w, hj⟩)
    cases e
    exact hn
  · obtain ⟨_, _, v3, v4, v5⟩ := hV (j, u) (fun w => by have := (Prod.mk.inj w).1; omega)
    rw [v3, v4, v5]; exact h.2.1 j u hj
  · rw [hx j (by omega)]; exact h.2.2.1.2 j hj
  · rcases hr j u d π hj ha hc he with ⟨w1, w2, w3, w4⟩ | w
    · exact Or.inl ⟨⟨w1, hj⟩, ⟨w2, (hJ.ld hj w3 w4).1⟩, w3, w4⟩
    · exact Or.inr w
theorem ne40 {j u n : Nat} {d : Nat × Nat} (h : d.2 < 40) : d ≠ (j, 40 + n) := fun e => by
  rw [e] at h
  have h : 40 + n < 40 := h
  omega
/-- a value is told as a plain one -/
theorem kT.one (hy : nYk y zn sz rk) (hB : yB y) (hk : kT y zn sz vt tb f x bs S) {E s : List tE} {e1 : tE} {t2 : Nat} (hS : (x f).2.1 = E ++ e1 :: s) (he : (∃ t : Nat, (t = 1 ∨ t = 2 ∨ t = 3) ∧ e1 = (0, t, 0)) ∨ ∃ T : Nat, e1 = (1, T, 0) ∨ e1 = (2, T, 0)) (ht : t2 = 1 ∨ t2 = 2 ∨ t2 = 3) : kT y zn sz vt tb f (kUx x f ((x f).1, E ++ (0, t2, 0) :: s, (x f).2.2.1, lUp (kR (x f)) (40 + wl s) none, kH (x f), kal (x f), klo (x f), kAn (x f))) bs S := by
  obtain ⟨rt, V, C, L, H, fl, t, hJ, hN, hC, hF⟩ := hk
  have hn : kNm e1 := by
    rcases he with ⟨t, _, w⟩ | ⟨T, w | w⟩
    · rw [w]; show ¬ ((0 : Nat) = 8 ∨ (0 : Nat) = 4 ∨ (0 : Nat) = 5 ∨ (0 : Nat) = 6); decide
    · rw [w]; show ¬ ((1 : Nat) = 8 ∨ (1 : Nat) = 4 ∨ (1 : Nat) = 5 ∨ (1 : Nat) = 6); decide
    · rw [w]; show ¬ ((2 : Nat) = 8 ∨ (2 : Nat) = 4 ∨ (2 : Nat) = 5 ∨ (2 : Nat) = 6); decide
  have h0 : y.1 t2 = 0 := hB.1 t2 (by omega)
  have hJ2 := kJ_one (m := 0) hJ hS hn (t2 := t2) ⟨by rw [h0]; decide, by rw [h0]; decide, by rw [h0]; decide, by rw [h0]; decide, by rw [h0]; decide⟩ (by omega)
  have hw : wl (E ++ (0, t2, 0) :: s) = wl (x f).2.1 := by rw [hS]; exact on_wl hn
  have hlt : 40 + wl s < 40 + wl (x f).2.1 := by
    rw [hS, wl_app, wl_n hn]; omega
  have hK : kK y rt V f (x f) (E ++ e1 :: s) := by rw [← hS]; exact hJ.2.2.2.2.1 f (Nat.le_refl _)
  have hE : kE y rt V f (x f) (wl s) e1 := (kK_app hK).1
  -- nothing lies below it
  have hty : y.1 (rt (f, 40 + wl s)) ≠ 2 ∧ y.1 (rt (f, 40 + wl s)) ≠ 3 ∧ y.1 (rt (f, 40 + wl s)) ≠ 4 := by
    rcases he with ⟨t, w1, w⟩ | ⟨T, w | w⟩
    · rw [w] at hE
      have z : y.1 t = 0 := hB.1 t (by omega)
      rw [(hE.2.2.2.1 (by omega)).1, z]; decide
    · rw [w] at hE
      rw [hE.1]; exact hB.2.1 _ (by omega)
    · rw [w] at hE
      rw [hE.1]; exact hB.2.1 _ (by omega)
  obtain ⟨c0, v0⟩ := (hN.1 f (40 + wl s) (Nat.le_refl _)).2.1 (by omega) hlt
  obtain ⟨l0, hh0⟩ := v0.lf hty.1 hty.2.1 hty.2.2
  refine ⟨_, _, C, L, H, fl, t, hJ2, kN.r1 (u0 := 40 + wl s) hy hJ hN (fun j hj => kUx_lo hj) (fun u hu => ?_) (fun u hu h4 => ?_) (fun r hr => ⟨qRt_ne hr, qUp_ne hr, rfl, rfl, rfl⟩) (fun r _ _ _ => ⟨agN.rf, agN.rf⟩) (fun _ _ _ _ _ => rfl) (fun _ _ _ _ _ => rfl) ?_ (fun j u d π hj ha hc hr => Or.inl ?_), hC, hF⟩
  · rw [kUx_top, hS]
    exact (on_mem (t2 := t2) (m := 0) hn (Or.inl rfl)).symm
  · rw [kUx_top]; show u < 40 + wl (E ++ (0, t2, 0) :: s) ↔ _; rw [hw]
  · rw [qRt_eq, qUp_eq, kUx_top, c0, l0, hh0]
    refine ⟨fun a => by omega, fun _ _ => ⟨rfl, vaR.mk (by rw [h0]; decide) (by rw [h0]; decide) (by rw [h0]; decide) ⟨(t2, 0), rfl⟩⟩, fun w => absurd (Or.inr ⟨by omega, ?_⟩) w⟩
    show 40 + wl s < 40 + wl (E ++ (0, t2, 0) :: s)
    rw [hw]; exact hlt
  · by_cases e : j = f
    · subst e
      rw [kUx_top] at ha hr
      have hr : lUp (kR (x j)) (40 + wl s) none u = some (d :: π) := hr
      have hu : u ≠ 40 + wl s := fun w => by rw [w, lUp_eq] at hr; cases hr
      rw [lUp_ne hu] at hr
      have ha2 : kA (x j) u := by
        rcases ha with z | ⟨z1, z2⟩
        · exact Or.inl z
        · have z2 : u < 40 + wl (E ++ (0, t2, 0) :: s) + (x j).2.2.1 := z2
          rw [hw] at z2; exact Or.inr ⟨z1, z2⟩
      exact ⟨fun w => hu (Prod.mk.inj w).2, ne40 (j := j) (u := 0) (hJ.ld (Nat.le_refl _) ha2 hr).2.1, ha2, hr⟩
    · rw [kUx_lo e] at ha hr
      exact ⟨fun w => e (Prod.mk.inj w).1, ne40 (j := f) (u := 0) (hJ.ld hj ha hr).2.1, ha, hr⟩
/-- the stack is told more weakly -/
theorem kT.wks (hy : nYk y zn sz rk) (hB : yB y) : ∀ {s s2 P : List tE} {x : Nat → kFm}, kT y zn sz vt tb f x bs S → (x f).2.1 = P ++ s → wkS s s2 → ∃ R2 : Nat → Option lLc, (∀ u : Nat, R2 u = kR (x f) u ∨ (R2 u = none ∧ 40 ≤ u)) ∧ kT y zn sz vt tb f (kUx x f ((x f).1, P ++ s2, (x f).2.2.1, R2, kH (x f), kal (x f), klo (x f), kAn (x f))) bs S
  | [], [], P, x, h, e, _ => ⟨kR (x f), fun _ => Or.inl rfl, by
    have e2 : kUx x f ((x f).1, P ++ [], (x f).2.2.1, kR (x f), kH (x f), kal (x f), klo (x f), kAn (x f)) = x := funext fun j => by
      by_cases q : j = f
      · subst q; rw [kUx_top, ← e]; rfl
      · rw [kUx_lo q]
    rw [e2]; exact h⟩
  | [], _ :: _, _, _, _, _, w => w.elim
  | _ :: _, [], _, _, _, _, w => w.elim
  | e1 :: s, e2 :: s2, P, x, h, e, ⟨w1, w2⟩ => by
    obtain ⟨R2, r1, r2⟩ := kT.wks hy hB (s := s) (s2 := s2) (P := P ++ [e1]) h (by rw [e, List.append_assoc]; rfl) w2
    rcases w1 with w1 | ⟨t2, t3, w1, w3⟩
    · refine ⟨R2, r1, ?_⟩
      rw [w1]
      rw [List.append_assoc] at r2
      exact r2
    · have q := kT.one hy hB r2 (E := P) (s := s2) (e1 := e1) (t2 := t2) (by rw [kUx_top, List.append_assoc]; rfl) w3 t3
      rw [kUx_top, kUx2] at q
      rw [w1]
      refine ⟨lUp R2 (40 + wl s2) none, fun u => ?_, q⟩
      by_cases z : u = 40 + wl s2
      · rw [z, lUp_eq]; exact Or.inr ⟨rfl, by omega⟩
      · rw [lUp_ne z]; exact r1 u
end PS50
