section PS61
variable {R : yR} {S0 Sl S S1 S2 S3 : Sg} {g : Nat → Int32} {w v T : Nat} {ρ : lLc}
/-- a path's rows -/
def pRw (R : yR) (S0 Sl : Sg) (w va : Nat) (ρ : lLc) (f : Nat → Int32) (G : Nat → Option Nat) (sa ta : Nat) : Prop := w ∈ ZL Sl ∧ ZF Sl w = .inr (18, [.ref va, .int (nI ρ.length), .ref sa, .ref ta]) ∧ (sa ∈ ZL Sl ∧ ZF Sl sa = .inl (R.K.1 0, ρ.length, .inl f)) ∧ (ta ∈ ZL Sl ∧ ZF Sl ta = .inl (R.K.1 4, ρ.length + 1, .inr (.inr (.inr (.inr G))))) ∧ (∀ (j : Nat) (s : Nat × Nat), ρ[j]? = some s → f j = sCo s ∧ ∃ x y : Nat, G j = some x ∧ G (j + 1) = some y ∧ stY2 R S0 x s y) ∧ ρ.length ≤ 5
theorem sCo_m0 {j : Nat} : sCo (0, j) = nI j := if_pos rfl
theorem sCo_m1 {j : Nat} : sCo (1, j) = -1 := by
  unfold sCo
  rw [if_neg (show ¬ (1 : Nat) = 0 by decide), if_pos rfl]
theorem sCo_mp {q j : Nat} : sCo (q + 2, j) = nI (1000 + 16 * q + j) := by
  unfold sCo
  rw [if_neg (show ¬ q + 2 = 0 by omega), if_neg (show ¬ q + 2 = 1 by omega)]
  show nI (1000 + 16 * (q + 2 - 2) + j) = _
  rw [show q + 2 - 2 = q by omega]
theorem nI_s1000 {a : Nat} : nI (1000 + a) - 1000 = nI a := by
  rw [Nat.add_comm, ← nI_add, Int32.sub_eq_add_neg, Int32.add_assoc, show nI 1000 + -1000 = 0 by decide, Int32.add_zero]
theorem psN_lt {w : Nat → Nat} {a n m : Nat} (h : a ≤ n) (hm : psN w n ≤ m) : psN w a ≤ m := Nat.le_trans (psN_mo h) hm
/-- find's loop over what isn't a reference -/
theorem fn17 {va sa ta m : Nat} {f : Nat → Int32} {G : Nat → Option Nat} (hL : LFS R S0 g) (hx : LX S0 Sl) (e : RNx Sl S) (hp : pRw R S0 Sl w va ρ f G sa ta) (hm : m ≤ ρ.length) : ∀ (d : Nat) (π : lLc) (q n n2 x : Nat), q + π.length = m → m < q + d → (∀ t : Nat, t < π.length → ρ[q + t]? = π[t]?) → G q = some x → vTy S0 x → n < 430000 → wRn (yT R S0) (zN R S0) (nMS S) (abV S0 x) n π n2 → f_find_17 R.K d S (some w) (nI m) (nI n) (nI q) = some (S, nI n2)
  | 0, π, q, n, n2, x, h1, h2, _, _, _, _, _ => by omega
  | d + 1, [], q, n, n2, x, h1, h2, _, _, _, _, hw => by
    have h1 : q + 0 = m := h1
    have hw : n2 = n := hw
    subst hw
    unfold f_find_17
    rw [if_pos (nI_le (a := m) (b := q) (by omega) (by have := hp.2.2.2.2.2; omega))]
  | d + 1, s :: π, q, n, n2, x, h1, h2, h3, hg, hv, hn, hw => by
    have hY := hL.1
    have hyk := nYk_of hL
    obtain ⟨p1, p2, p3, p4, p5, p6⟩ := hp
    have h1 : q + (π.length + 1) = m := h1
    have hs : ρ[q]? = some s := (h3 0 (by show 0 < π.length + 1; omega)).trans rfl
    obtain ⟨f1, x2, y2, g1, g2, st⟩ := p5 q s hs
    rw [hg] at g1; cases g1
    obtain ⟨hv2, hq⟩ := st.qw hY hv
    have hqw := hq (π := []) (t := abV S0 y2) rfl
    have hrt : rTy S0 x := Or.inl hv
    have eab : abT S0 x = abV S0 x := (hv.nm hY).2.2
    have ih : ∀ n1 : Nat, n1 < 430000 → wRn (yT R S0) (zN R S0) (nMS S) (abV S0 y2) n1 π n2 → f_find_17 R.K d S (some w) (nI m) (nI n1) (nI q + 1) = some (S, nI n2) := fun n1 a b => by
      rw [nI_1]
      exact fn17 hL hx e ⟨p1, p2, p3, p4, p5, p6⟩ hm d π (q + 1) n1 n2 y2 (by omega) (by omega) (fun t ht => by
        have := h3 (t + 1) (by show t + 1 < π.length + 1; omega)
        rw [List.getElem?_cons_succ] at this
        rw [← this]; congr 1; omega) g2 hv2 a b
    have r1 : oR S 18 (some w) 2 = some (some sa) := oR_mk (v := some sa) (by rw [e.1]; exact p1) (by rw [e.2.1]; exact p2) rfl
    have r2 : aI R.K S (some sa) (nI q) = some (f q) := aI_n (by rw [e.1]; exact p3.1) (by rw [e.2.1]; exact p3.2) (show q < ρ.length by omega) (by omega)
    have r3 : oR S 18 (some w) 3 = some (some ta) := oR_mk (v := some ta) (by rw [e.1]; exact p1) (by rw [e.2.1]; exact p2) rfl
    have r4 : aQ R.K 4 S (some ta) (nI q) = some (some x) := by
      rw [← hg]; exact aQ_n (by rw [e.1]; exact p4.1) (by rw [e.2.1]; exact p4.2) (show q < ρ.length + 1 by omega) (by omega)
    unfold f_find_17
    rw [if_neg (Int32.not_le.mpr (nI_lt (a := q) (b := m) (by omega) (by omega))), r1]
    simp only [Option.bind_some]
    rw [r2]
    simp only [Option.bind_some]
    rw [r3]
    simp only [Option.bind_some]
    rw [r4]
    simp only [Option.bind_some]
    rw [f1]
    match s, hw, hqw with
    | (0, j), hw, hqw =>
      obtain ⟨L, n1, w1, w2, w3, w4⟩ := hw
      obtain ⟨a1, a2, a3⟩ := hqw
      have a1 : yK R S0 (abV S0 x) = 2 := a1
      have a2 : j < yP R S0 (abV S0 x) 0 := a2
      have a3 : abV S0 y2 = yQ R S0 (abV S0 x) 0 j := a3
      have hj12 := (hyk.2.2.1 (abV S0 x) a1).2.2.2.1
      have hj12 : yP R S0 (abV S0 x) 0 ≤ 12 := hj12
      rw [sCo_m0, if_pos (show nI j < 1000 from nI_lt (a := j) (b := 1000) (by omega) (by decide)), if_neg (nI_nn (by omega))]
      obtain ⟨i9, tb9, F, v1, v2, v3, v4, v5, v6, v7, v8⟩ := vwS hL hx e hrt (by rw [eab]; exact a1)
      rw [v2]
      simp only [Option.bind_some]
      rw [v3]
      simp only [Option.bind_some]
      rw [v4]
      simp only [Option.bind_some]
      have ep : psN (fun t => zN R S0 (abU S0 (F t))) j = psN (fun t => zN R S0 ((yT R S0).2.2.2.2 (abV S0 x) 0 t)) j := psN_cg (fun t ht => by
        obtain ⟨z, z1, z2, z3⟩ := v8 t (by rw [eab]; omega)
        rw [z1]
        show zN R S0 (abT S0 z) = zN R S0 (yQ R S0 (abV S0 x) 0 t)
        rw [z3, eab])
      have e16 : psN (fun t => zN R S0 ((yT R S0).2.2.2.2 (abV S0 x) 0 t)) j ≤ 16 := psN_lt (n := yP R S0 (abV S0 x) 0) (by omega) (by
        have := (hyk.2.2.1 (abV S0 x) a1).1
        have h16 := (hyk.1 (abV S0 x)).2.1
        rw [this] at h16; exact h16)
      rw [pof_ (L := L) (b := n1) hL hx e v6 ⟨by omega, by decide⟩ (fun t z ht hz => by
        obtain ⟨z9, z1, z2, _⟩ := v8 t (by rw [eab]; omega)
        rw [hz] at z1; cases z1; exact Or.inl z2) w1 w2 (by rw [ep]; exact w3) (by rw [ep]; omega)]
      show f_find_162 R.K (f_find_17 R.K d) S (some w) (nI m) (nI n1) (nI q) = _
      unfold f_find_162
      exact ih n1 (w1.1 n1 (List.mem_of_getElem? w3)).2 (by rw [a3]; exact w4)
    | (1, j), hw, hqw =>
      obtain ⟨mm, n1, w1, w2, w3, w4, w5⟩ := hw
      obtain ⟨_, a1, a3⟩ := hqw
      have a1 : yK R S0 (abV S0 x) = 4 := a1
      have a3 : abV S0 y2 = yO S0 (abV S0 x) := a3
      rw [sCo_m1, if_pos (by decide), if_pos (by decide)]
      obtain ⟨u, v1, _⟩ := vwB hL hx e hrt (by rw [eab]; exact a1)
      rw [v1]
      simp only [Option.bind_some]
      rw [if_pos trivial, rJ_n (show n < rlen 61 from hn) (by decide)]
      simp only [Option.bind_some]
      rw [show Zl S 61 n = nL mm from w1, nL_t]
      have hk : f_kidOf R.K S (nI mm) = some (S, nI n1) := by
        unfold f_kidOf
        rw [rJ_n (show mm < rlen 61 from w2.2) (by decide)]
        simp only [Option.bind_some]
        show some (S, kdW (Zl S 61 mm)) = _
        rw [show kdW (Zl S 61 mm) = nI n1 from w3]
      rw [hk]
      show f_find_161 R.K (f_find_17 R.K d) S (some w) (nI m) (nI q) (nI n1) = _
      unfold f_find_161 f_find_162
      exact ih n1 w4 (by rw [a3]; exact w5)
    | (p + 2, j), hw, hqw =>
      obtain ⟨mm, n0, L, n1, w1, w2, w3, w4, w5, w6, w7, w8⟩ := hw
      obtain ⟨a1, a4, a2, a3⟩ := hqw
      have a1 : yK R S0 (abV S0 x) = 3 := a1
      have a2 : j < yP R S0 (abV S0 x) p := a2
      have a3 : abV S0 y2 = yQ R S0 (abV S0 x) p j := a3
      obtain ⟨b1, b2, b3⟩ := hyk.2.2.2 (abV S0 x) p a1 a4
      have b2 : yP R S0 (abV S0 x) p ≤ 12 := b2
      obtain ⟨i9, vr, pa, ot, F, v1, v2, v3, v4, v5, v6, v7, v8, v9⟩ := vwE (v := p) hL hx e hrt (by rw [eab]; exact a1) (by rw [eab]; exact a4)
      rw [sCo_mp, if_neg (Int32.not_lt.mpr (show (1000 : Int32) ≤ nI (1000 + 16 * p + j) from nI_le (a := 1000) (b := 1000 + 16 * p + j) (by omega) (by omega)))]
      rw [v2]
      simp only [Option.bind_some]
      rw [v3]
      simp only [Option.bind_some]
      rw [v4]
      simp only [Option.bind_some]
      rw [Nat.add_assoc, nI_s1000]
      have sh : nI (16 * p + j) >>> (4 &&& 31) = nI p := by
        have := nI_shr (a := 16 * p + j) (k := 4) (by omega) (by decide)
        rw [show (16 * p + j) / 2 ^ 4 = p by omega] at this
        exact this
      have an : nI (16 * p + j) &&& 15 = nI j := by
        rw [nI_and15, show (16 * p + j) % 16 = j by omega]
      rw [sh, an, (v5 S e).1]
      simp only [Option.bind_some]
      rw [(v5 S e).2.1]
      simp only [Option.bind_some]
      rw [rJ_n (show n < rlen 61 from hn) (by decide)]
      simp only [Option.bind_some]
      rw [show Zl S 61 n = nL mm from w1, nL_t]
      have hk : f_kidOf R.K S (nI mm) = some (S, nI n0) := by
        unfold f_kidOf
        rw [rJ_n (show mm < rlen 61 from w2.2) (by decide)]
        simp only [Option.bind_some]
        show some (S, kdW (Zl S 61 mm)) = _
        rw [show kdW (Zl S 61 mm) = nI n0 from w3]
      rw [hk]
      have hy0 : ¬ yP R S0 (abT S0 x) p = 0 := by rw [eab]; omega
      obtain ⟨ta9, t1, t2⟩ := v8.resolve_left hy0
      have ep : psN (fun t => zN R S0 (abU S0 (F t))) j = psN (fun t => zN R S0 ((yT R S0).2.2.2.2 (abV S0 x) p t)) j := psN_cg (fun t ht => by
        obtain ⟨z, z1, z2, z3⟩ := v9 t (by rw [eab]; omega)
        rw [z1]
        show zN R S0 (abT S0 z) = zN R S0 (yQ R S0 (abV S0 x) p t)
        rw [z3, eab])
      have e16 : psN (fun t => zN R S0 ((yT R S0).2.2.2.2 (abV S0 x) p t)) j ≤ 16 := psN_lt (n := yP R S0 (abV S0 x) p) (by omega) b3
      show bnd (f_partOf R.K S ot (nI n0) (nI j)) (fun S27 v28 => f_find_162 R.K (f_find_17 R.K d) S27 (some w) (nI m) v28 (nI q)) = _
      rw [t1, pof_ (L := L) (b := n1) hL hx e t2 ⟨by omega, by decide⟩ (fun t z ht hz => by
        obtain ⟨z9, z1, z2, _⟩ := v9 t (by rw [eab]; omega)
        rw [hz] at z1; cases z1; exact Or.inl z2) w5 w6 (by rw [ep]; exact w7) (by rw [ep]; omega)]
      show f_find_162 R.K (f_find_17 R.K d) S (some w) (nI m) (nI n1) (nI q) = _
      unfold f_find_162
      exact ih n1 (w5.1 n1 (List.mem_of_getElem? w7)).2 (by rw [a3]; exact w8)
end PS61
