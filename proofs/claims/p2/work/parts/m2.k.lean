section PS10
variable {R : yR} {S0 S : Sg} {g : Nat → Int32}
theorem sCo_0 (k : Nat) : sCo (0, k) = nI k := rfl
theorem sCo_p (a k : Nat) : sCo (a + 2, k) = nI (1000 + 16 * a + k) := by
  unfold sCo
  rw [if_neg (show ¬ (a + 2, k).1 = 0 by simp), if_neg (show ¬ (a + 2, k).1 = 1 by simp)]
  rfl
/-- a step, as it is written -/
theorem stY2.co {x y : Nat} {s : Nat × Nat} (h : stY2 R S0 x s y) : (s = (1, 0) ∧ sCo s = -1) ∨ (∃ k : Nat, s = (0, k) ∧ sCo s = nI k ∧ k < 12) ∨ (∃ a k : Nat, s = (a + 2, k) ∧ sCo s = nI (1000 + 16 * a + k) ∧ a < 12 ∧ k < 12) := by
  rcases h with ⟨e, _⟩ | ⟨i, k, e, _, fs, mn, ta, f, _, _, _, _, _, h6, h7, _⟩ | ⟨i, a, k, mk, tx, e, _, hen, hk, _⟩
  · subst e; exact Or.inl ⟨rfl, rfl⟩
  · subst e; exact Or.inr (Or.inl ⟨k, rfl, rfl, by omega⟩)
  · subst e
    obtain ⟨fs, mn, vr, pa, fv, f, h1, h2, h3, h4, h5, h6, h7, h8, h9, h10, h11, h12, h13⟩ := hen
    refine Or.inr (Or.inr ⟨a, k, rfl, sCo_p a k, by omega, ?_⟩)
    obtain ⟨_, ⟨q1, q2⟩ | ⟨wa, ta, q1, q2, q3⟩⟩ := h12
    · omega
    · omega
theorem pf67 (h : LFS R S0 g) (hx : LX S0 S) {i k w j va n sa ta B : Nat} {f : Nat → Int32} {G : Nat → Option Nat} {k21 : Sg → Option Nat → Int32 → Option Nat → Int32 → Option (Sg × Int32)} (hi : i < R.im) (hik : R.ik i = 10) (a1 : w ∈ ZL S) (a2 : ZF S w = .inr (18, [.ref va, .int (nI n), .ref sa, .ref ta])) (a3 : sa ∈ ZL S ∧ ZF S sa = .inl (R.K.1 0, n, .inl f)) (a4 : ta ∈ ZL S ∧ ZF S ta = .inl (R.K.1 4, n + 1, .inr (.inr (.inr (.inr G))))) (hn : n ≤ 5) (hj : j < n) (hf : f j = nI k) (hk : k < 12) (hkm : ofN R S0 (4 + i) k ≤ 16) (hfl : ∃ x : Nat, fld R S0 i k x) : ∀ (d q : Nat), 12 < q + d → q ≤ k → f_partFrom_67 R.K k21 d S (some w) (nI (B + ofN R S0 (4 + i) q)) (nI j) (some (R.ws i)) (nI q) = k21 S (some w) (nI (B + ofN R S0 (4 + i) k)) (G (j + 1)) (nI (j + 1))
  | 0, q, hd, hq => by omega
  | d + 1, q, hd, hq => by
    have r2 : oR S 18 (some w) 2 = some (some sa) := oR_mk a1 a2 (v := some sa) rfl
    have r3 : oR S 18 (some w) 3 = some (some ta) := oR_mk a1 a2 (v := some ta) rfl
    unfold f_partFrom_67
    rw [r2]
    simp only [Option.bind_some]
    rw [aI_n a3.1 a3.2 hj (by omega), hf]
    simp only [Option.bind_some]
    by_cases e : q = k
    · subst e
      rw [if_pos (nI_le (Nat.le_refl _) (by omega)), r3]
      simp only [Option.bind_some]
      rw [nI_1, aQ_n a4.1 a4.2 (show j + 1 < n + 1 by omega) (by omega)]
      rfl
    · have hlt : q < k := by omega
      rw [if_neg (Int32.not_le.mpr (nI_lt hlt (by omega)))]
      obtain ⟨fs, mn, tt, ff, b1, b2, b3, b4, b5, b6, b7, b8, b9, b10, b11, b12⟩ := zN_st h hi hik
      obtain ⟨c1, f2, c2, c3, c4⟩ := hx.it b1 b2
      obtain ⟨d1, d2⟩ := hx.ro b6 b7
      have hkm2 : k < mn := by
        obtain ⟨x, fs', mn', _, _, _, _, _, h4, h5, h6, h7, _⟩ := hfl
        have : fs' = fs := by have := h4.symm.trans b2; cases this; rfl
        subst this
        rw [b3] at h5
        have := nI_e (by omega) (by omega) (Value.int.inj (Option.some.inj h5))
        omega
      have r10 : oR S 16 (some (R.ws i)) 10 = some (some tt) := oR_mk c1 c2 (v := some tt) (by rw [c4 10 (by decide) (Or.inl (by decide))]; exact b5)
      rw [r10]
      simp only [Option.bind_some]
      rw [aQ_n d1 d2 (show q < 13 by omega) (by decide)]
      simp only [Option.bind_some]
      obtain ⟨x, x1, x2, x3, x4⟩ := b8 q (by omega)
      rw [x1, pto_ h hx 80 (hN g i R.im) x _ (by have := hN_le (f := g) (i := i) R.im; have := h.1.2.1; omega) x4]
      show f_partFrom_67 R.K k21 d S (some w) (nI (B + ofN R S0 (4 + i) q) + nI (zN R S0 (abT S0 x))) (nI j) (some (R.ws i)) (nI q + 1) = _
      have es : B + ofN R S0 (4 + i) q + zN R S0 (abT S0 x) = B + ofN R S0 (4 + i) (q + 1) := by
        rw [x3, Nat.add_assoc]; rfl
      rw [nI_add, nI_1, es]
      exact pf67 h hx hi hik a1 a2 a3 a4 hn hj hf hk hkm hfl d (q + 1) (by omega) (by omega)
theorem pf21 (h : LFS R S0 g) (hx : LX S0 S) {w va sa ta : Nat} {ρ : lLc} {f : Nat → Int32} {G : Nat → Option Nat} (a1 : w ∈ ZL S) (a2 : ZF S w = .inr (18, [.ref va, .int (nI ρ.length), .ref sa, .ref ta])) (a3 : sa ∈ ZL S ∧ ZF S sa = .inl (R.K.1 0, ρ.length, .inl f)) (a4 : ta ∈ ZL S ∧ ZF S ta = .inl (R.K.1 4, ρ.length + 1, .inr (.inr (.inr (.inr G))))) (a5 : ∀ (j : Nat) (s : Nat × Nat), ρ[j]? = some s → f j = sCo s ∧ ∃ x y : Nat, G j = some x ∧ G (j + 1) = some y ∧ stY2 R S0 x s y) (a6 : ∀ j x : Nat, j ≤ ρ.length → G j = some x → rTy S0 x) (hn : ρ.length ≤ 5) : ∀ (d j B : Nat), ρ.length < j + d → j ≤ ρ.length → f_partFrom_21 R.K d S (some w) (nI B) (G j) (nI j) = some (Ui S 57 (nI (zN R S0 (pfO R S0 (abU S0 (G j)) (ρ.drop j)).2)), nI (B + (pfO R S0 (abU S0 (G j)) (ρ.drop j)).1)) ∧ (pfO R S0 (abU S0 (G j)) (ρ.drop j)).1 + zN R S0 (pfO R S0 (abU S0 (G j)) (ρ.drop j)).2 ≤ zN R S0 (abU S0 (G j))
  | 0, j, B, hd, hj => by omega
  | d + 1, j, B, hd, hj => by
    have r1 : oI S 18 (some w) 1 = some (nI ρ.length) := oI_mk a1 a2 rfl
    have r2 : oR S 18 (some w) 2 = some (some sa) := oR_mk a1 a2 (v := some sa) rfl
    obtain ⟨p1, p2, p3⟩ := pto0 h hx (o := G j) (fun x e => a6 j x hj e)
    have h116 : f_partFrom_116 R.K S (nI B) (G j) = some (Ui S 57 (nI (zN R S0 (abU S0 (G j)))), nI B) := by
      unfold f_partFrom_116
      rw [p1]; rfl
    unfold f_partFrom_21
    rw [r1]
    simp only [Option.bind_some]
    by_cases e : j = ρ.length
    · subst e
      rw [if_pos (nI_le (Nat.le_refl _) (by omega)), List.drop_length, h116]
      exact ⟨rfl, Nat.le_of_eq (Nat.zero_add _)⟩
    · have hlt : j < ρ.length := by omega
      rw [if_neg (Int32.not_le.mpr (nI_lt hlt (by omega))), r2]
      simp only [Option.bind_some]
      rw [aI_n a3.1 a3.2 hlt (by omega)]
      simp only [Option.bind_some]
      rw [List.drop_eq_getElem_cons hlt]
      obtain ⟨s1, x, y, s2, s3, s4⟩ := a5 j _ (List.getElem?_eq_getElem hlt)
      generalize ρ[j] = s at s1 s4
      rw [s1]
      rcases s4.co with ⟨c1, c2⟩ | ⟨k, c1, c2, c3⟩ | ⟨a, k, c1, c2, c3, c4⟩
      · rw [c2, if_pos (by decide), h116, c1]
        exact ⟨rfl, Nat.le_of_eq (Nat.zero_add _)⟩
      · have n10 : ¬ (1000 : Int32) ≤ nI k := Int32.not_le.mpr (nI_lt (a := k) (b := 1000) (by omega) (by decide))
        rw [c2, if_neg (nI_nn (by omega)), if_neg n10]
        rcases s4 with ⟨w1, _⟩ | ⟨i, k2, w1, w2, w3⟩ | ⟨_, _, _, _, _, w1, _⟩
        · rw [c1] at w1; cases w1
        · have ek : k2 = k := by rw [c1] at w1; cases w1; rfl
          subst ek
          have hfl := w3
          obtain ⟨fs', mn', ta', f', hi, hik, _, h4, h5, h6, h7, _, _, _, _, h12⟩ := w3
          obtain ⟨t, _, _, xl, xf⟩ := hx.ty w2
          obtain ⟨fs, mn, tt, ff, b1, b2, b3, b4, b5, b6, b7, b8, b9, b10, b11, b12⟩ := zN_st h hi hik
          have em : mn' = mn := by
            have : fs' = fs := by have := h4.symm.trans b2; cases this; rfl
            subst this
            rw [b3] at h5
            exact (nI_e (by omega) (by omega) (Value.int.inj (Option.some.inj h5))).symm
          subst em
          have eT0 : abU S0 (G j) = 4 + i := by
            rw [s2]
            show abT S0 x = _
            obtain ⟨t2, _, _, _, _, u5⟩ := abV_is h.1 w2
            rw [u5, if_neg (by decide), if_neg (by decide), abV_it h.1 (Or.inl rfl) hi w2]
          have eT1 : abU S0 (G (j + 1)) = yQ R S0 (4 + i) 0 k2 := by
            rw [s3]
            show abT S0 y = _
            rw [(hfl.y h.1).2.2.2, (h12.nm h.1).2.2]
          have hof : ofN R S0 (4 + i) k2 + zN R S0 (yQ R S0 (4 + i) 0 k2) ≤ zN R S0 (4 + i) := by
            rw [b10]
            exact psN_mo (w := fun j => zN R S0 (yQ R S0 (4 + i) 0 j)) (k := k2 + 1) (n := mn') (by omega)
          obtain ⟨g1, g2⟩ := pf21 h hx a1 a2 a3 a4 a5 a6 hn d (j + 1) (B + ofN R S0 (4 + i) k2) (by omega) (by omega)
          have h67 := pf67 h hx (k21 := f_partFrom_21 R.K d) (B := B) hi hik a1 a2 a3 a4 hn hlt (s1.trans c2) c3 (by omega) ⟨y, hfl⟩ bigN 0 (by unfold bigN; omega) (Nat.zero_le _)
          have o1 : oI S 20 (G j) 1 = some (nI i) := by rw [s2]; exact oI_mk xl xf rfl
          rw [o1]
          simp only [Option.bind_some]
          rw [it11 h hx hi]
          simp only [Option.bind_some]
          rw [show nI B = nI (B + ofN R S0 (4 + i) 0) from rfl, show (0 : Int32) = nI 0 from rfl, h67, g1, c1, eT0]
          rw [eT1] at g2 ⊢
          show some (Ui S 57 (nI (zN R S0 (pfO R S0 (yQ R S0 (4 + i) 0 k2) (ρ.drop (j + 1))).2)), nI (B + ofN R S0 (4 + i) k2 + (pfO R S0 (yQ R S0 (4 + i) 0 k2) (ρ.drop (j + 1))).1)) = some (Ui S 57 (nI (zN R S0 (pfO R S0 (yQ R S0 (4 + i) 0 k2) (ρ.drop (j + 1))).2)), nI (B + (ofN R S0 (4 + i) k2 + (pfO R S0 (yQ R S0 (4 + i) 0 k2) (ρ.drop (j + 1))).1))) ∧ (ofN R S0 (4 + i) k2 + (pfO R S0 (yQ R S0 (4 + i) 0 k2) (ρ.drop (j + 1))).1) + zN R S0 (pfO R S0 (yQ R S0 (4 + i) 0 k2) (ρ.drop (j + 1))).2 ≤ zN R S0 (4 + i)
          exact ⟨by rw [Nat.add_assoc], by omega⟩
        · rw [c1] at w1
          have := (Prod.mk.inj w1).1
          omega
      · have n10 : (1000 : Int32) ≤ nI (1000 + 16 * a + k) := nI_le (a := 1000) (by omega) (by omega)
        rw [c2, if_neg (nI_nn (by omega)), if_pos n10, h116, c1]
        exact ⟨rfl, Nat.le_of_eq (Nat.zero_add _)⟩
/-- partFrom -/
theorem pfm_ (h : LFS R S0 g) (hx : LX S0 S) {w v T a : Nat} {ρ : lLc} (q : isPt R S0 S w v ρ T) (ha : pVa S w a) : f_partFrom R.K S (some w) = some (Ui S 57 (nI (zN R S0 (pfO R S0 (vTp S0 S a) ρ).2)), nI (16 * v + (pfO R S0 (vTp S0 S a) ρ).1)) ∧ (pfO R S0 (vTp S0 S a) ρ).1 + zN R S0 (pfO R S0 (vTp S0 S a) ρ).2 ≤ 16 := by
  obtain ⟨va, sa, ta, f, G, mu, q1, q2, q3, q4, q5, q6, q7, q8, q9⟩ := q
  obtain ⟨gs, z1, z2⟩ := ha
  have eva : va = a := by
    rw [q2] at z1; cases z1; cases z2; rfl
  subst eva
  obtain ⟨u1, nm, wh, u2⟩ := q3
  have eT : vTp S0 S va = abU S0 (G 0) := by
    unfold vTp
    rw [obF_o u2]
    cases G 0 <;> rfl
  obtain ⟨p1, p2, p3⟩ := pto0 h hx (o := G 0) (fun x e => q7 0 x (Nat.zero_le _) e)
  obtain ⟨g1, g2⟩ := pf21 h hx q1 q2 q4 q5 q6 q7 q9 bigN 0 (16 * v) (by unfold bigN; omega) (Nat.zero_le _)
  rw [List.drop_zero] at g1 g2
  rw [eT]
  refine ⟨?_, by omega⟩
  unfold f_partFrom
  rw [oR_mk q1 q2 (v := some va) rfl]
  simp only [Option.bind_some]
  rw [oI_mk u1 u2 (v := nI v) rfl]
  simp only [Option.bind_some]
  rw [oR_mk q1 q2 (v := some ta) rfl]
  simp only [Option.bind_some]
  rw [show (0 : Int32) = nI 0 from rfl, aQ_n q5.1 q5.2 (show 0 < ρ.length + 1 by omega) (by omega)]
  simp only [Option.bind_some]
  rw [nI_16]
  exact g1
end PS10
