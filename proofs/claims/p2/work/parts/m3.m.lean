-- m3.m.lean.txt
section
section PS38
variable {R : yR} {S0 Sl S : Sg} {g : Nat → Int32} {x : Nat}
/-- a struct's type, while it runs -/
theorem vwS (hL : LFS R S0 g) (hx : LX S0 Sl) (e : RNx Sl S) (hr : rTy S0 x) (hk : yK R S0 (abT S0 x) = 2) : ∃ (i ta : Nat) (f : Nat → Option Nat), oI S 20 (some x) 0 = some 3 ∧ oI S 20 (some x) 1 = some (nI i) ∧ rQ S 11 (nI i) = some (some (R.ws i)) ∧ oR S 16 (some (R.ws i)) 10 = some (some ta) ∧ oI S 16 (some (R.ws i)) 3 = some (nI (yP R S0 (abT S0 x) 0)) ∧ (ta ∈ ZL Sl ∧ ZF Sl ta = .inl (R.K.1 4, 13, .inr (.inr (.inr (.inr f))))) ∧ yP R S0 (abT S0 x) 0 ≤ 12 ∧ ∀ k : Nat, k < yP R S0 (abT S0 x) 0 → ∃ z : Nat, f k = some z ∧ vTy S0 z ∧ abT S0 z = yQ R S0 (abT S0 x) 0 k := by
  obtain ⟨kd, ix, o, q, _⟩ := hr.ty
  obtain ⟨t, _, _, xl, xf⟩ := e.ty (hx.ty q)
  have o0 : oI S 20 (some x) 0 = some kd := oI_mk xl xf rfl
  have o1 : oI S 20 (some x) 1 = some ix := oI_mk xl xf rfl
  rcases yK_k hL hr q with ⟨_, h⟩ | ⟨k3, i, hi, hk2, ei, eo, et, _⟩ | ⟨_, i, hi, hk2, ei, eo, et, h⟩ | ⟨_, u, _, h, _⟩ | ⟨_, h | h⟩
  · rw [h] at hk; cases hk
  · obtain ⟨fs, mn, ta, f, w1, w2, w3, w4, w5, w6, w7, w8, _⟩ := zN_st hL hi hk2
    have ey : yP R S0 (4 + i) 0 = mn := by
      unfold yP
      rw [show 4 + i - 4 = i by omega, if_pos hk2, if_pos rfl, obF_o w2, fN_i w3 (by omega)]
    rw [et, ey]
    obtain ⟨c1, f2, c2, c3, c4⟩ := hx.it w1 w2
    refine ⟨i, ta, f, by rw [o0, k3], by rw [o1, ei], it11r hL hx e hi, ?_, ?_, hx.ro w6 w7, w4, fun k hk => ?_⟩
    · exact oR_mk (v := some ta) (by rw [e.1]; exact c1) (by rw [e.2.1]; exact c2) (by rw [c4 10 (by decide) (Or.inl (by decide))]; exact w5)
    · exact oI_mk (by rw [e.1]; exact c1) (by rw [e.2.1]; exact c2) (by rw [c4 3 (by decide) (Or.inl (by decide))]; exact w3)
    · obtain ⟨z, z1, z2, z3, _⟩ := w8 k hk
      exact ⟨z, z1, z2, z3⟩
  · rw [h] at hk; cases hk
  · rw [h] at hk; cases hk
  · rw [h] at hk; cases hk
  · rw [h] at hk; cases hk
/-- an enum's type: the variant v -/
theorem vwE {v : Nat} (hL : LFS R S0 g) (hx : LX S0 Sl) (e : RNx Sl S) (hr : rTy S0 x) (hk : yK R S0 (abT S0 x) = 3) (hv : v < (yT R S0).2.2.1 (abT S0 x)) : ∃ (i vr pa : Nat) (ot : Option Nat) (f : Nat → Option Nat), oI S 20 (some x) 0 = some 4 ∧ oI S 20 (some x) 1 = some (nI i) ∧ rQ S 11 (nI i) = some (some (R.ws i)) ∧ oR S 16 (some (R.ws i)) 11 = some (some vr) ∧ (∀ S2 : Sg, RNx Sl S2 → aQ R.K 13 S2 (some vr) (nI v) = some (some pa) ∧ oR S2 17 (some pa) 2 = some ot ∧ oI S2 17 (some pa) 0 = some (nI (yP R S0 (abT S0 x) v))) ∧ v ≤ 12 ∧ yP R S0 (abT S0 x) v ≤ 12 ∧ (yP R S0 (abT S0 x) v = 0 ∨ ∃ ta : Nat, ot = some ta ∧ ta ∈ ZL Sl ∧ ZF Sl ta = .inl (R.K.1 4, 12, .inr (.inr (.inr (.inr f))))) ∧ ∀ k : Nat, k < yP R S0 (abT S0 x) v → ∃ z : Nat, f k = some z ∧ vTy S0 z ∧ abT S0 z = yQ R S0 (abT S0 x) v k := by
  obtain ⟨kd, ix, o, q, _⟩ := hr.ty
  obtain ⟨t, _, _, xl, xf⟩ := e.ty (hx.ty q)
  have o0 : oI S 20 (some x) 0 = some kd := oI_mk xl xf rfl
  have o1 : oI S 20 (some x) 1 = some ix := oI_mk xl xf rfl
  rcases yK_k hL hr q with ⟨_, h⟩ | ⟨_, i, hi, hk2, ei, eo, et, h⟩ | ⟨k3, i, hi, hk2, ei, eo, et, h⟩ | ⟨_, u, _, h, _⟩ | ⟨_, h | h⟩
  · rw [h] at hk; cases hk
  · rw [h] at hk; cases hk
  · have hv2 : v < fN (obF S0 (R.ws i)) 3 := by
      have h9 : v < fN (obF S0 (R.ws (abT S0 x - 4))) 3 := hv
      rw [et, show 4 + i - 4 = i by omega] at h9; exact h9
    obtain ⟨fs, mn, vr, pa, mk, fv, f, w1, w2, w3, w4, w5, w6, w7, w8, w9, w10, w11, w12, w13, _⟩ := zN_en hL hi hk2 hv2
    have hvm : v < mn := by
      rw [obF_o w2, fN_i w3 (by omega)] at hv2; exact hv2
    rw [et, ← w10]
    obtain ⟨c1, f2, c2, c3, c4⟩ := hx.it w1 w2
    obtain ⟨r1, r2⟩ := hx.ro w6 w7
    have oR11 : oR S 16 (some (R.ws i)) 11 = some (some vr) := oR_mk (v := some vr) (by rw [e.1]; exact c1) (by rw [e.2.1]; exact c2) (by rw [c4 11 (by decide) (Or.inl (by decide))]; exact w5)
    rcases w12 with ⟨p1, p2⟩ | ⟨wa, ta, p1, p2, p3⟩
    · obtain ⟨b1, b2⟩ := hx.ob w9 p1 (by decide) (by decide)
      refine ⟨i, vr, pa, none, f, by rw [o0, k3], by rw [o1, ei], it11r hL hx e hi, oR11, fun S2 e2 => ⟨?_, ?_, ?_⟩, by omega, by omega, Or.inl p2, w13⟩
      · rw [← w8]; exact aQ_n (by rw [e2.1]; exact r1) (by rw [e2.2.1]; exact r2) (show v < 13 by omega) (by omega)
      · exact oR_mk (v := none) (by rw [e2.1]; exact b1) (by rw [e2.2.1]; exact b2) rfl
      · exact oI_mk (by rw [e2.1]; exact b1) (by rw [e2.2.1]; exact b2) (by rw [p2]; rfl)
    · obtain ⟨b1, b2⟩ := hx.ob w9 p1 (by decide) (by decide)
      refine ⟨i, vr, pa, some ta, f, by rw [o0, k3], by rw [o1, ei], it11r hL hx e hi, oR11, fun S2 e2 => ⟨?_, ?_, ?_⟩, by omega, by omega, Or.inr ⟨ta, rfl, hx.ro p2 p3⟩, w13⟩
      · rw [← w8]; exact aQ_n (by rw [e2.1]; exact r1) (by rw [e2.2.1]; exact r2) (show v < 13 by omega) (by omega)
      · exact oR_mk (v := some ta) (by rw [e2.1]; exact b1) (by rw [e2.2.1]; exact b2) rfl
      · exact oI_mk (by rw [e2.1]; exact b1) (by rw [e2.2.1]; exact b2) rfl
  · rw [h] at hk; cases hk
  · rw [h] at hk; cases hk
  · rw [h] at hk; cases hk
/-- a box's type -/
theorem vwB (hL : LFS R S0 g) (hx : LX S0 Sl) (e : RNx Sl S) (hr : rTy S0 x) (hk : yK R S0 (abT S0 x) = 4) : ∃ u : Nat, oI S 20 (some x) 0 = some 5 ∧ (∀ S2 : Sg, RNx Sl S2 → oR S2 20 (some x) 3 = some (some u)) ∧ vTy S0 u ∧ abT S0 u = yO S0 (abT S0 x) := by
  obtain ⟨kd, ix, o, q, _⟩ := hr.ty
  obtain ⟨t, _, _, xl, xf⟩ := e.ty (hx.ty q)
  have o0 : oI S 20 (some x) 0 = some kd := oI_mk xl xf rfl
  rcases yK_k hL hr q with ⟨_, h⟩ | ⟨_, i, hi, hk2, ei, eo, et, h⟩ | ⟨k3, i, hi, hk2, ei, eo, et, h⟩ | ⟨k5, u, eu, h, h2⟩ | ⟨_, h | h⟩
  · rw [h] at hk; cases hk
  · rw [h] at hk; cases hk
  · rw [h] at hk; cases hk
  · have hu : vTy S0 u := by
      rcases hr with ⟨n, hn⟩ | ⟨kd2, u2, q2, q3, _⟩
      · cases n with
        | zero => exact hn.elim
        | succ n =>
          obtain ⟨kd2, ix2, o2, q2, q3⟩ := hn
          obtain ⟨e1, e2, e3⟩ := isTy_fn q q2
          subst e1; subst e3; subst k5
          rcases q3 with q3 | ⟨_, u2, q4, q5⟩
          · exact absurd q3 (by decide)
          · rw [eu] at q4; cases q4; exact ⟨n, q5⟩
      · obtain ⟨e1, _, _⟩ := isTy_fn q q2
        subst e1; subst k5
        exact absurd q3 (by decide)
    refine ⟨u, by rw [o0, k5], fun S2 e2 => ?_, hu, ?_⟩
    · obtain ⟨t2, _, _, xl2, xf2⟩ := e2.ty (hx.ty q)
      exact oR_mk (v := some u) xl2 xf2 (by rw [eu]; rfl)
    · rw [h2]; exact (vTy.nm hL.1 hu).2.2
  · rw [h] at hk; cases hk
  · rw [h] at hk; cases hk
/-- all other types -/
theorem vwO (hL : LFS R S0 g) (hx : LX S0 Sl) (e : RNx Sl S) (hr : rTy S0 x) (h2 : yK R S0 (abT S0 x) ≠ 2) (h3 : yK R S0 (abT S0 x) ≠ 3) (h4 : yK R S0 (abT S0 x) ≠ 4) : ∃ kd : Int32, oI S 20 (some x) 0 = some kd ∧ kd ≠ 3 ∧ kd ≠ 4 ∧ kd ≠ 5 := by
  obtain ⟨kd, ix, o, q, _⟩ := hr.ty
  obtain ⟨t, _, _, xl, xf⟩ := e.ty (hx.ty q)
  have o0 : oI S 20 (some x) 0 = some kd := oI_mk xl xf rfl
  rcases yK_k hL hr q with ⟨h | h | h | h, _⟩ | ⟨_, i, hi, hk2, ei, eo, et, h⟩ | ⟨k3, i, hi, hk2, ei, eo, et, h⟩ | ⟨k5, u, eu, h, _⟩ | ⟨h | h, _⟩
  · exact ⟨kd, o0, by rw [h]; decide, by rw [h]; decide, by rw [h]; decide⟩
  · exact ⟨kd, o0, by rw [h]; decide, by rw [h]; decide, by rw [h]; decide⟩
  · exact ⟨kd, o0, by rw [h]; decide, by rw [h]; decide, by rw [h]; decide⟩
  · exact ⟨kd, o0, by rw [h]; decide, by rw [h]; decide, by rw [h]; decide⟩
  · exact absurd h h2
  · exact absurd h h3
  · exact absurd h h4
  · exact ⟨kd, o0, by rw [h]; decide, by rw [h]; decide, by rw [h]; decide⟩
  · exact ⟨kd, o0, by rw [h]; decide, by rw [h]; decide, by rw [h]; decide⟩
end PS38
end
-- m3.n.lean.txt
section
/-- parts are dropped, those below j were: the work stands at b -/
def inL (Si : Sg) (fl0 : List Nat) (t b fr mn : Nat) (f : Nat → Option Nat) (cs ls hs : Nat → List Nat) (j : Nat) (S : Sg) (fl : List Nat) : Prop := DO (fun a => ∃ i : Nat, i < mn ∧ (a ∈ cs i ∨ a ∈ ls i)) (fun q => ∃ i : Nat, i < mn ∧ q ∈ hs i) b Si S ∧ Zi S 81 = nI (b + (1 + fr) * (mn - j)) ∧ wq S ∧ FLs S fl t ∧ (∀ a : Nat, cnN a fl = cnN a fl0 + psN (fun i => fr * cnN a (cs i) + cnN a (ls i)) j) ∧ (∀ i : Nat, j ≤ i → i < mn → WP S b fr mn i (f i) (cs i) ∧ agN (nMS Si) (nMS S) (cs i) ∧ agN (nMS Si) (nMS S) (ls i)) ∧ ∀ i : Nat, i < j → (fr = 0 → ∀ a ∈ cs i, Zr S 62 a = 0 ∧ Zr S 63 a = Zr Si 63 a) ∧ ∀ q ∈ hs i, Zr S 67 q = 0
/-- a place is dropped -/
def drH (R : yR) (S0 Sl : Sg) (g : Nat → Int32) (k : Nat) : Prop := ∀ (T : Nat) (V : qV) (c l h : List Nat) (x : Nat) (S : Sg) (d : Nat) (fl : List Nat) (t N : Nat), pL (yT R S0) (szN R S0) (nMS S) k T V c l h → rTy S0 x → abT S0 x = T → RNx Sl S → wq S → FLs S fl t → Zi S 81 = nI d → lkN (Zr S 63) c → cvN c l fl t → d + c.length + 2 * l.length ≤ 90000 → (rkN R S0 g T + 1) * c.length + 103 * l.length ≤ N + 1 → Rt (f_dropPlace R.K S (some x) (nI (hdN c))) (fun S2 _ => drN R.K N (DPo c l h fl t d S) S2)
section PS39
variable {R : yR} {S0 Sl Si : Sg} {g : Nat → Int32} {k t b fr mn ρ : Nat} {f : Nat → Option Nat} {cs ls hs : Nat → List Nat} {fl0 : List Nat} {pt : Nat → Nat} {vs : Nat → qV}
theorem drL (hL : LFS R S0 g) (hx : LX S0 Sl) (ih : drH R S0 Sl g k) (eR : RNx Sl Si) (hp : ∀ i : Nat, i < mn → pL (yT R S0) (szN R S0) (nMS Si) k (pt i) (vs i) (cs i) (ls i) (hs i)) (hf : ∀ i : Nat, i < mn → ∃ z : Nat, f i = some z ∧ vTy S0 z ∧ abT S0 z = pt i) (hk : ∀ i : Nat, i < mn → lkN (Zr Si 63) (cs i)) (tot : ∀ a : Nat, psN (fun i => cnN a (cs i) + cnN a (ls i)) mn + cnN a fl0 ≤ 1) (ht : ∀ i a : Nat, i < mn → (a ∈ cs i ∨ a ∈ ls i) → 1 ≤ a ∧ a ≤ t) (hfr : fr = 0 ∨ fr = 1) (h9 : ∀ i : Nat, i < mn → b + (1 + fr) * (mn - 1 - i) + fr + (cs i).length + 2 * (ls i).length ≤ 90000) (hρ : ∀ i : Nat, i < mn → rkN R S0 g (pt i) + 1 ≤ ρ) : ∀ (r j : Nat) (S : Sg) (fl : List Nat), j + r = mn → inL Si fl0 t b fr mn f cs ls hs j S fl → drN R.K (psN (fun i => ρ * (cs i).length + 103 * (ls i).length + fr) mn - psN (fun i => ρ * (cs i).length + 103 * (ls i).length + fr) j) (inL Si fl0 t b fr mn f cs ls hs mn) S
  | 0, j, S, fl, hj, q => by
    obtain rfl : j = mn := by omega
    exact (drN.rf (P := inL Si fl0 t b fr j f cs ls hs j) q).mo (by omega) (fun _ _ w => w)
  | r + 1, j, S, fl, hj, q => by
    have hy := nYk_of hL
    have hjm : j < mn := by omega
    obtain ⟨q1, q2, q3, q4, q5, q6, q7⟩ := q
    obtain ⟨z, z1, z2, z3⟩ := hf j hjm
    obtain ⟨⟨w1, w2⟩, g1, g2⟩ := q6 j (Nat.le_refl _) hjm
    have eS : RNx Sl S := eR.tr q1.rn
    have hlen : (cs j).length = zN R S0 (pt j) := (hp j hjm).len hy
    have h16 := hy.1 (pt j)
    have tj : ∀ a : Nat, cnN a (cs j) + cnN a (ls j) + cnN a fl ≤ 1 := fun a => by
      have t1 := tot a
      have t2 : psN (fun i => cnN a (cs i) + cnN a (ls i)) (j + 1) ≤ psN (fun i => cnN a (cs i) + cnN a (ls i)) mn := psN_mo (by omega)
      have t3 : psN (fun i => cnN a (cs i) + cnN a (ls i)) (j + 1) = psN (fun i => cnN a (cs i) + cnN a (ls i)) j + (cnN a (cs j) + cnN a (ls j)) := rfl
      have t4 : psN (fun i => fr * cnN a (cs i) + cnN a (ls i)) j ≤ psN (fun i => cnN a (cs i) + cnN a (ls i)) j := psN_le (fun i _ => by rcases hfr with w | w <;> subst w <;> omega)
      have t5 := q5 a
      omega
    have dj : ∀ i a : Nat, i < mn → i ≠ j → (a ∈ cs i ∨ a ∈ ls i) → ¬ (a ∈ cs j ∨ a ∈ ls j) := fun i a hi hij h1 h2 => by
      have t1 := tot a
      have t2 := psN_ij (v := fun i => cnN a (cs i) + cnN a (ls i)) hij hi hjm
      have t3 : 1 ≤ cnN a (cs i) + cnN a (ls i) := by
        rcases h1 with h | h
        · have := cnN_mem.mp h; omega
        · have := cnN_mem.mp h; omega
      have t4 : 1 ≤ cnN a (cs j) + cnN a (ls j) := by
        rcases h2 with h | h
        · have := cnN_mem.mp h; omega
        · have := cnN_mem.mp h; omega
      have t5 : cnN a (cs i) + cnN a (ls i) + (cnN a (cs j) + cnN a (ls j)) ≤ psN (fun i => cnN a (cs i) + cnN a (ls i)) mn := t2
      omega
    have hcv : cvN (cs j) (ls j) fl t := fun a => ⟨tj a, fun w => ht j a hjm (by
      by_cases w2 : 1 ≤ cnN a (cs j)
      · exact Or.inl (cnN_mem.mpr w2)
      · exact Or.inr (cnN_mem.mpr (by omega)))⟩
    have h9j := h9 j hjm
    have hρj := hρ j hjm
    have hm1 : (rkN R S0 g (pt j) + 1) * (cs j).length ≤ ρ * (cs j).length := Nat.mul_le_mul_right _ hρj
    have hm2 : 1 ≤ ρ * (cs j).length := Nat.mul_pos (by omega) (by omega)
    have hu1 : psN (fun i => ρ * (cs i).length + 103 * (ls i).length + fr) (j + 1) ≤ psN (fun i => ρ * (cs i).length + 103 * (ls i).length + fr) mn := psN_mo (by omega)
    have hu2 : psN (fun i => ρ * (cs i).length + 103 * (ls i).length + fr) (j + 1) = psN (fun i => ρ * (cs i).length + 103 * (ls i).length + fr) j + (ρ * (cs j).length + 103 * (ls j).length + fr) := rfl
    -- the place of part j
    have s1 : drN R.K (ρ * (cs j).length + 103 * (ls j).length) (fun S3 fl3 => ∃ S1 : Sg, KO (b + (1 + fr) * (mn - 1 - j) + fr) S S1 ∧ DPo (cs j) (ls j) (hs j) fl t (b + (1 + fr) * (mn - 1 - j) + fr) S1 S3 fl3) S := fun e Q he kk => by
      obtain ⟨e, rfl⟩ : ∃ m : Nat, e = m + 1 := ⟨e - 1, by omega⟩
      refine dA1 (d := b + (1 + fr) * (mn - 1 - j) + fr) (by rw [q2]; congr 1; rcases hfr with w | w <;> subst w <;> omega) (by omega) w2 (fun S1 v k1 i1 hv => ?_)
      rw [hv z z1]
      refine Rt.ip rfl (Rt.bn (ih (pt j) (vs j) (cs j) (ls j) (hs j) z S1 (b + (1 + fr) * (mn - 1 - j) + fr) fl t (ρ * (cs j).length + 103 * (ls j).length - 1) ?_ (Or.inl z2) z3 (eS.tr k1.1.rn) (k1.wq q3) (k1.fl q4) i1 ?_ hcv h9j (by omega)) (fun S6 _ k6 => k6 e Q (by omega) (fun S3 fl3 e2 p1 p2 => kk S3 fl3 e2 ⟨S1, k1, p1⟩ (by omega))))
      · rw [k1.nm]
        exact (hp j hjm).st (fun a ha => ⟨(g1 a ha).1, (g1 a ha).2.1⟩) g2
      · rw [k1.x3]
        exact (hk j hjm).cg (fun a ha => (g1 a ha).2.2)
    -- .. and, where asked, its nodes
    have s2 : drN R.K (ρ * (cs j).length + 103 * (ls j).length + fr) (inL Si fl0 t b fr mn f cs ls hs (j + 1)) S := by
      have hbe : b ≤ b + (1 + fr) * (mn - 1 - j) := by omega
      have fin : ∀ (S3 S4 : Sg) (fl3 fl4 : List Nat) (S1 : Sg), KO (b + (1 + fr) * (mn - 1 - j) + fr) S S1 → DPo (cs j) (ls j) (hs j) fl t (b + (1 + fr) * (mn - 1 - j) + fr) S1 S3 fl3 → DO (fun a => fr = 1 ∧ a ∈ cs j) (fun _ => False) (b + (1 + fr) * (mn - 1 - j)) S3 S4 → Zi S4 81 = nI (b + (1 + fr) * (mn - 1 - j)) → FLs S4 fl4 t → (∀ a : Nat, cnN a fl4 = fr * cnN a (cs j) + cnN a fl3) → wq S4 → inL Si fl0 t b fr mn f cs ls hs (j + 1) S4 fl4 := fun S3 S4 fl3 fl4 S1 k1 ⟨p1, p2, p3, p4, p5, p6, p7⟩ f1 f2 f3 f4 f5 => by
        have eJ : DO (fun a => a ∈ cs j ∨ a ∈ ls j) (fun q => q ∈ hs j) (b + (1 + fr) * (mn - 1 - j)) S S4 := ((k1.do.tr p1).mo (fun _ w => w) (fun _ w => w) (by omega)).tr (f1.mo (fun a w => Or.inl w.2) (fun _ w => w.elim) (Nat.le_refl _))
        refine ⟨q1.tr (eJ.mo (fun a w => ⟨j, hjm, w⟩) (fun q w => ⟨j, hjm, w⟩) hbe), ?_, f5, f3, fun a => ?_, fun i i1 i2 => ?_, fun i hi => ?_⟩
        · rw [f2, show mn - 1 - j = mn - (j + 1) by omega]
        · rw [f4, p4, q5]
          show _ = cnN a fl0 + (psN (fun i => fr * cnN a (cs i) + cnN a (ls i)) j + (fr * cnN a (cs j) + cnN a (ls j)))
          omega
        · obtain ⟨⟨u1, u2⟩, u3, u4⟩ := q6 i (by omega) i2
          refine ⟨⟨fun w => eJ.wk (u1 w) ?_, eJ.wk u2 ?_⟩, fun a ha => ?_, fun a ha => ?_⟩
          · rcases hfr with w | w <;> subst w <;> omega
          · rcases hfr with w | w <;> subst w <;> omega
          · have v1 := u3 a ha
            have v2 := eJ.2.2.2.2.2.2.2.2.1 a (dj i a i2 (by omega) (Or.inl ha))
            exact ⟨v2.1.trans v1.1, v2.2.1.trans v1.2.1, v2.2.2.trans v1.2.2⟩
          · have v1 := u4 a ha
            have v2 := eJ.2.2.2.2.2.2.2.2.1 a (dj i a i2 (by omega) (Or.inr ha))
            exact ⟨v2.1.trans v1.1, v2.2.1.trans v1.2.1, v2.2.2.trans v1.2.2⟩
        · by_cases w : i = j
          · subst w
            refine ⟨fun w0 a ha => ?_, fun q hq => ?_⟩
            · have v2 := f1.2.2.2.2.2.2.2.2.1 a (fun w => by omega)
              obtain ⟨v3, v4⟩ := p5 a ha
              exact ⟨v2.2.1.trans v3, v2.2.2.trans (v4.trans ((congrFun k1.x3 a).trans (g1 a ha).2.2))⟩
            · rw [f1.2.2.2.2.2.2.2.2.2.1 q (fun w => w)]; exact p6 q hq
          · obtain ⟨u1, u2⟩ := q7 i (by omega)
            refine ⟨fun w0 a ha => ?_, fun q hq => ?_⟩
            · have v1 := u1 w0 a ha
              have v2 := eJ.2.2.2.2.2.2.2.2.1 a (dj i a (by omega) w (Or.inl ha))
              exact ⟨v2.2.1.trans v1.1, v2.2.2.trans v1.2⟩
            · by_cases w2 : q ∈ hs j
              · rw [f1.2.2.2.2.2.2.2.2.2.1 q (fun w => w)]; exact p6 q w2
              · rw [eJ.2.2.2.2.2.2.2.2.2.1 q w2]; exact u2 q hq
      rcases hfr with w | w
      · subst w
        refine s1.mo (by omega) (fun S3 fl3 ⟨S1, k1, p⟩ => fin S3 S3 fl3 fl3 S1 k1 p DO.rf ?_ p.2.2.1 (fun a => by omega) p.2.2.2.2.2.2)
        exact p.2.1
      · subst w
        refine s1.tr (N2 := 1) (fun S3 fl3 ⟨S1, k1, p⟩ => ?_)
        have p0 := p
        obtain ⟨p1, p2, p3, p4, p5, p6, p7⟩ := p
        have e3 : RNx Sl S3 := (eS.tr k1.1.rn).tr p1.rn
        have w1' := w1 rfl
        rw [z1] at w1'
        refine (dAf (c := cs j) (d := b + (1 + 1) * (mn - 1 - j)) hL hx e3 (Or.inl z2) p2 (by omega) (p1.wk (k1.1.wk w1' (by omega)) (by omega)) p3 p7 (by rw [hlen, z3]) (by omega) (by omega) ?_ (fun a => ⟨?_, fun w => ?_⟩)).mo (by omega) (fun S4 fl4 ⟨f1, f2, f3, f4, f5⟩ => fin S3 S4 fl3 fl4 S1 k1 p0 (f1.mo (fun a w => ⟨rfl, w⟩) (fun _ w => w) (Nat.le_refl _)) f2 f3 (fun a => by rw [f4]; omega) f5)
        · exact (hk j hjm).cg (fun a ha => (p5 a ha).2.trans ((congrFun k1.x3 a).trans (g1 a ha).2.2))
        · have := tj a
          have := p4 a
          show cnN a (cs j) + 0 + cnN a fl3 ≤ 1
          omega
        · have w9 : 1 ≤ cnN a (cs j) + 0 := w
          exact ht j a hjm (Or.inl (cnN_mem.mpr (by omega)))
    exact (s2.tr (fun S3 fl3 h3 => drL hL hx ih eR hp hf hk tot ht hfr h9 hρ r (j + 1) S3 fl3 (by omega) h3)).mo (by omega) (fun _ _ w => w)
end PS39
end
-- m3.o.lean.txt
section
/-- parts were dropped -/
def DPG (fr : Nat) (c l h fl : List Nat) (t b : Nat) (S S3 : Sg) (fl3 : List Nat) : Prop := DO (fun a => a ∈ c ∨ a ∈ l) (fun q => q ∈ h) b S S3 ∧ Zi S3 81 = nI b ∧ wq S3 ∧ FLs S3 fl3 t ∧ (∀ a : Nat, cnN a fl3 = cnN a fl + (fr * cnN a c + cnN a l)) ∧ (fr = 0 → ∀ a ∈ c, Zr S3 62 a = 0 ∧ Zr S3 63 a = Zr S 63 a) ∧ ∀ q ∈ h, Zr S3 67 q = 0
section PS40
variable {R : yR} {S0 Sl S S2 : Sg} {g : Nat → Int32} {k t b d fr mn ρ N : Nat} {f : Nat → Option Nat} {cs ls hs : Nat → List Nat} {fl l h c : List Nat} {pt : Nat → Nat} {vs : Nat → qV}
theorem drM (hL : LFS R S0 g) (hx : LX S0 Sl) (ih : drH R S0 Sl g k) (eR : RNx Sl S) (k0 : KO b S S2) (h81 : Zi S2 81 = nI (b + (1 + fr) * mn)) (hw : ∀ i : Nat, i < mn → WP S2 b fr mn i (f i) (cs i)) (hq : wq S) (hfl : FLs S fl t) (hp : ∀ i : Nat, i < mn → pL (yT R S0) (szN R S0) (nMS S) k (pt i) (vs i) (cs i) (ls i) (hs i)) (hf : ∀ i : Nat, i < mn → ∃ z : Nat, f i = some z ∧ vTy S0 z ∧ abT S0 z = pt i) (hk : lkN (Zr S 63) (ftN cs mn)) (hc : cvN (ftN cs mn) (ftN ls mn) fl t) (hfr : fr = 0 ∨ fr = 1) (h9 : b + (1 + fr) * (ftN cs mn).length + 2 * (ftN ls mn).length ≤ 90000) (hρ : ∀ i : Nat, i < mn → rkN R S0 g (pt i) + 1 ≤ ρ) (hN : ρ * (ftN cs mn).length + 103 * (ftN ls mn).length + mn * fr ≤ N) : drN R.K N (DPG fr (ftN cs mn) (ftN ls mn) (ftN hs mn) fl t b S) S2 := by
  have hy := nYk_of hL
  have hle : ∀ i : Nat, i < mn → 1 ≤ (cs i).length := fun i hi => by
    rw [(hp i hi).len hy]; exact (hy.1 _).1
  have e1 : (ftN cs mn).length = psN (fun i => (cs i).length) mn := ftN_len
  have e2 : (ftN ls mn).length = psN (fun i => (ls i).length) mn := ftN_len
  have mem : ∀ i a : Nat, i < mn → (a ∈ cs i ∨ a ∈ ls i) → a ∈ ftN cs mn ∨ a ∈ ftN ls mn := fun i a hi w => w.imp (fun w => ftN_mem.mpr ⟨i, hi, w⟩) (fun w => ftN_mem.mpr ⟨i, hi, w⟩)
  have hu : psN (fun i => ρ * (cs i).length + 103 * (ls i).length + fr) mn = ρ * (ftN cs mn).length + 103 * (ftN ls mn).length + mn * fr := by
    rw [psN_ad (u := fun i => ρ * (cs i).length + 103 * (ls i).length) (v := fun _ => fr), psN_ad (u := fun i => ρ * (cs i).length) (v := fun i => 103 * (ls i).length), psN_k9, psN_k9, psN_c9, e1, e2]
  refine (drL (Si := S2) (fl0 := fl) (b := b) (fr := fr) (f := f) (cs := cs) (ls := ls) (hs := hs) (ρ := ρ) hL hx ih (eR.tr k0.1.rn) (fun i hi => by rw [k0.nm]; exact hp i hi) hf (fun i hi => by rw [k0.x3]; exact hk.seg hi) (fun a => ?_) (fun i a hi w => ?_) hfr (fun i hi => ?_) hρ mn 0 S2 fl (by omega) ⟨DO.rf, h81, k0.wq hq, k0.fl hfl, fun a => rfl, fun i _ hi => ⟨hw i hi, fun a _ => ⟨rfl, rfl, rfl⟩, fun a _ => ⟨rfl, rfl, rfl⟩⟩, fun i hi => by omega⟩).mo ?_ (fun S3 fl3 ⟨q1, q2, q3, q4, q5, q6, q7⟩ => ?_)
  · have := (hc a).1
    rw [psN_ad (u := fun i => cnN a (cs i)) (v := fun i => cnN a (ls i)), ← ftN_cn, ← ftN_cn]
    exact this
  · refine (hc a).2 ?_
    rcases mem i a hi w with h | h
    · have := cnN_mem.mp h; omega
    · have := cnN_mem.mp h; omega
  · have g1 := psN_g9 (v := fun i => (cs i).length) hle hi
    have g2 := psN_i1 (v := fun i => (ls i).length) hi
    have g3 := hle i hi
    have g4 : (cs i).length + mn ≤ psN (fun i => (cs i).length) mn + 1 := g1
    have g5 : (ls i).length ≤ psN (fun i => (ls i).length) mn := g2
    rw [← e1] at g4
    rw [← e2] at g5
    rcases hfr with w | w <;> subst w <;> omega
  · rw [hu]
    show _ - 0 ≤ N
    omega
  · refine ⟨(k0.do.tr (q1.mo (fun a ⟨i, hi, w⟩ => mem i a hi w) (fun q ⟨i, hi, w⟩ => ftN_mem.mpr ⟨i, hi, w⟩) (Nat.le_refl _))), by rw [q2, Nat.sub_self, Nat.mul_zero, Nat.add_zero], q3, q4, fun a => ?_, fun w0 a ha => ?_, fun q hq => ?_⟩
    · rw [q5, psN_ad (u := fun i => fr * cnN a (cs i)) (v := fun i => cnN a (ls i)), psN_k9, ← ftN_cn, ← ftN_cn]
    · obtain ⟨i, hi, w⟩ := ftN_mem.mp ha
      obtain ⟨v1, v2⟩ := (q7 i hi).1 w0 a w
      exact ⟨v1, v2.trans (congrFun k0.x3 a)⟩
    · obtain ⟨i, hi, w⟩ := ftN_mem.mp hq
      exact (q7 i hi).2 q w
/-- laterParts: parts are dropped later -/
theorem drG {o : Option Nat} {cap : Nat} (hL : LFS R S0 g) (hx : LX S0 Sl) (ih : drH R S0 Sl g k) (eR : RNx Sl S) (h81 : Zi S 81 = nI b) (ho : mn = 0 ∨ ∃ ta : Nat, o = some ta ∧ ta ∈ ZL Sl ∧ ZF Sl ta = .inl (R.K.1 4, cap, .inr (.inr (.inr (.inr f))))) (hcap : mn ≤ cap ∧ cap < 100) (hq : wq S) (hfl : FLs S fl t) (hp : ∀ i : Nat, i < mn → pL (yT R S0) (szN R S0) (nMS S) k (pt i) (vs i) (cs i) (ls i) (hs i)) (hf : ∀ i : Nat, i < mn → ∃ z : Nat, f i = some z ∧ vTy S0 z ∧ abT S0 z = pt i) (hk : lkN (Zr S 63) (ftN cs mn)) (hc : cvN (ftN cs mn) (ftN ls mn) fl t) (hfr : fr = 0 ∨ fr = 1) (h9 : b + (1 + fr) * (ftN cs mn).length + 2 * (ftN ls mn).length ≤ 90000) (h16 : (ftN cs mn).length < 100) (hρ : ∀ i : Nat, i < mn → rkN R S0 g (pt i) + 1 ≤ ρ) (hN : ρ * (ftN cs mn).length + 103 * (ftN ls mn).length + mn * fr ≤ N) : Rt (f_laterParts R.K S o (nI mn) (nI (hdN (ftN cs mn))) (nI fr)) (fun S2 _ => drN R.K N (DPG fr (ftN cs mn) (ftN ls mn) (ftN hs mn) fl t b S) S2) := by
  have hy := nYk_of hL
  unfold f_laterParts
  rcases ho with w | ⟨ta, w, ht⟩
  · subst w
    rw [show bigN = (bigN - 1) + 1 from rfl]
    unfold f_laterParts_5
    exact Rt.ip (by decide) (Rt.rt (drM (f := f) hL hx ih eR KO.rf (by rw [h81]; rfl) (fun i hi => by omega) hq hfl hp hf hk hc hfr h9 hρ hN))
  · subst w
    have hle : ∀ i : Nat, i < mn → 1 ≤ (cs i).length := fun i hi => by
      rw [(hp i hi).len hy]; exact (hy.1 _).1
    have hmn : mn ≤ (ftN cs mn).length := by
      rw [ftN_len]
      have : psN (fun _ => 1) mn ≤ psN (fun i => (cs i).length) mn := psN_p9 hle
      rw [psN_c9] at this; omega
    refine (lpt5 (d := b) (fr := fr) (f := f) (cs := cs) hL hx eR ht hcap (fun i hi => ?_) hk (fun i hi => ?_) (fun i => (hy.1 _).1) h16 hfr ?_ mn bigN S (Nat.le_refl _) (by unfold bigN; omega) KO.rf (by rw [h81, Nat.sub_self, Nat.mul_zero, Nat.add_zero]) (fun i a b => by omega)).mo (fun S2 _ ⟨q1, q2, q3⟩ => drM (f := f) hL hx ih eR q1 q2 q3 hq hfl hp hf hk hc hfr h9 hρ hN)
    · obtain ⟨z, z1, z2, _⟩ := hf i hi
      exact ⟨z, z1, Or.inl z2⟩
    · obtain ⟨z, z1, z2, z3⟩ := hf i hi
      rw [(hp i hi).len hy, z1, ← z3]; rfl
    · rcases hfr with w | w <;> subst w <;> omega
end PS40
end
-- m3.p.lean.txt
section
section PS41
variable {R : yR} {S0 Sl S S2 : Sg} {g : Nat → Int32} {k t d T x : Nat} {V : qV} {fl l h c : List Nat} {v : Int64}
/-- dropValue, but for structs -/
theorem drV (hL : LFS R S0 g) (hx : LX S0 Sl) (ih : drH R S0 Sl g k) (hv : vL (yT R S0) (szN R S0) (nMS S) k T V v l h) (hr : rTy S0 x) (eT : abT S0 x = T) (h2 : (yT R S0).1 T ≠ 2) (e : RNx Sl S) (hq : wq S) (hf : FLs S fl t) (hd : Zi S 81 = nI d) (hc : cvN [] l fl t) (h9 : d + 2 * l.length ≤ 90000) : Rt (f_dropValue R.K S (some x) v) (fun S2 _ => drN R.K (103 * l.length) (DPo [] l h fl t d S) S2) := by
  have hy := nYk_of hL
  subst eT
  have htm : ∀ S3 : Sg, RNx Sl S3 → tmS S3 ≤ 2000 := fun S3 e3 => by
    have : tmS S3 = tmS S0 := by
      unfold tmS
      rw [e3.2.2.2.2.2.2.2 19 (by decide) (by decide), hx.2.1 19 (by decide) (by decide) (by decide) ⟨by decide, by decide⟩]
    rw [this]; exact hL.1.1
  unfold f_dropValue
  rcases hv with ⟨y3, m, w, cs, ls, hs, v1, v2, rfl, v4, v5, v6, v7, rfl, rfl, v10⟩ | ⟨y4, m, f, c, L, H, v1, rfl, v3, v4, v5, v6, v7, v8, rfl, rfl, v11⟩ | ⟨y3, y4, v1, rfl, rfl⟩
  · -- an enum
    obtain ⟨i, vr, pa, ot, f, a1, a2, a3, a4, a5, a6, a7, a8, a9⟩ := vwE hL hx e hr y3 v2
    have hlen : (m :: (ftN cs ((yT R S0).2.2.2.1 (abT S0 x) w) ++ ftN ls ((yT R S0).2.2.2.1 (abT S0 x) w))).length = 1 + (ftN cs ((yT R S0).2.2.2.1 (abT S0 x) w)).length + (ftN ls ((yT R S0).2.2.2.1 (abT S0 x) w)).length := by
      rw [List.length_cons, List.length_append]; omega
    have hcn : ∀ a : Nat, cnN a (m :: (ftN cs ((yT R S0).2.2.2.1 (abT S0 x) w) ++ ftN ls ((yT R S0).2.2.2.1 (abT S0 x) w))) = (if m = a then 1 else 0) + (cnN a (ftN cs ((yT R S0).2.2.2.1 (abT S0 x) w)) + cnN a (ftN ls ((yT R S0).2.2.2.1 (abT S0 x) w))) := fun a => by
      show (if m = a then 1 else 0) + cnN a (_ ++ _) = _
      rw [cnN_app]
    have h16 : (ftN cs ((yT R S0).2.2.2.1 (abT S0 x) w)).length ≤ 16 := by
      have g1 := (hy.2.2.2 (abT S0 x) w y3 v2).2.2
      rw [ftN_len, psN_cg (w2 := fun j => zN R S0 ((yT R S0).2.2.2.2 (abT S0 x) w j)) (fun j hj => (v10 j hj).len hy)]
      exact g1
    have e12 : yP R S0 (abT S0 x) w = (yT R S0).2.2.2.1 (abT S0 x) w := rfl
    rw [e12] at a5 a7 a8 a9
    have a9' : ∀ k : Nat, k < (yT R S0).2.2.2.1 (abT S0 x) w → ∃ z : Nat, f k = some z ∧ vTy S0 z ∧ abT S0 z = (yT R S0).2.2.2.2 (abT S0 x) w k := a9
    clear a9 e12
    generalize (yT R S0).2.2.2.1 (abT S0 x) w = mk at *
    rw [hlen]
    rw [hlen] at h9
    have hm0 := hc m
    rw [hcn m, if_pos rfl] at hm0
    have hmt : 1 ≤ m ∧ m ≤ t := hm0.2 (by omega)
    rw [a1]
    refine Rt.bd rfl (Rt.iq (by decide) (Rt.bd rfl (Rt.iq (by decide) (Rt.bd rfl (Rt.ip rfl (Rt.bd a2 (Rt.bd a3 (Rt.bd a4 ?_))))))))
    rw [nL_t]
    refine Rt.be (S := S) (r := nI w) (by unfold f_variantOf_; rw [rJ_n (show m < rlen 61 from v4.2) (by decide)]; show some (S, vrW (Zl S 61 m)) = _; rw [show vrW (Zl S 61 m) = nI w from v6]) (Rt.bd (a5 S e).1 (Rt.bn (ltr_ (w := 3) (o := none) hd (by omega) (fun y hy => by cases hy) (htm S e)) (fun S1 _ ⟨k1, k2, k3⟩ => ?_)))
    have e1 : RNx Sl S1 := e.tr k1.1.rn
    refine Rt.bd (a5 S1 e1).2.1 (Rt.bd (a5 S1 e1).2.2 (Rt.be (S := S1) (r := nI (hdN (ftN cs mk))) (by unfold f_kidOf; rw [rJ_n (show m < rlen 61 from v4.2) (by decide), show Zl S1 61 = Zl S 61 from congrArg (fun x : nM => x.1) k1.nm]; show some (S1, kdW (Zl S 61 m)) = _; rw [show kdW (Zl S 61 m) = nI (hdN (ftN cs mk)) from v5]) ?_))
    have hcv1 : cvN (ftN cs mk) (ftN ls mk) fl t := fun a => by
      have q := hc a
      rw [hcn a] at q
      have q0 : cnN a [] = 0 := rfl
      exact ⟨by omega, fun w => q.2 (by omega)⟩
    refine Rt.bn (drG (fr := 1) (f := f) (cs := cs) (ls := ls) (hs := hs) (ρ := 101) (cap := 12) (N := 101 * (ftN cs mk).length + 103 * (ftN ls mk).length + mk * 1) hL hx ih e1 k2 a8 ⟨a7, by decide⟩ (k1.wq hq) (k1.fl hf) (fun j hj => by rw [k1.nm]; exact v10 j hj) a9' (by rw [k1.x3]; exact v7) hcv1 (Or.inr rfl) (by omega) (by omega) (fun j _ => by have := (hy.1 ((yT R S0).2.2.2.2 (abT S0 x) w j)).2.2.2.2; omega) (Nat.le_refl _)) (fun S29 _ k29 => ?_)
    unfold f_dropValue_181
    refine Rt.rt ?_
    refine (k29.tr (N2 := 1) (P2 := DPo [] (m :: (ftN cs mk ++ ftN ls mk)) (ftN hs mk) fl t d S) (fun S3 fl3 ⟨p1, p2, p3, p4, p5, p6, p7⟩ => ?_)).mo (by omega) (fun _ _ w => w)
    refine (dAn (K := R.K) (m := m) p2 (by omega) (p1.wk k3 (by omega)) p4 p3 hmt.1 hmt.2 (fun w => ?_)).mo (Nat.le_refl _) (fun S4 fl4 ⟨f1, f2, f3, f4, f5⟩ => ⟨?_, f2, f3, fun a => ?_, fun a ha => (List.not_mem_nil ha).elim, fun q hq => ?_, f5⟩)
    · have := cnN_mem.mp w
      rw [p5 m] at this
      omega
    · refine (k1.do.tr (p1.mo (fun a w => Or.inr (List.mem_cons_of_mem m (List.mem_append.mpr w))) (fun _ w => w) (by omega))).tr (f1.mo (fun a w => Or.inr (by rw [w]; exact List.mem_cons_self ..)) (fun _ w => w.elim) (Nat.le_refl _))
    · rw [f4, hcn a]
      show (if m = a then 1 else 0) + cnN a fl3 = _
      rw [p5 a]; omega
    · rw [f1.2.2.2.2.2.2.2.2.2.1 q (fun w => w)]; exact p7 q hq
  · -- a box
    obtain ⟨u, a1, a2, a3, a4⟩ := vwB hL hx e hr y4
    have eo : (yT R S0).2.1 (abT S0 x) = abT S0 u := a4.symm
    rw [eo] at v6 v7 v11 ⊢
    have hlen : (m :: (c ++ L)).length = 1 + c.length + L.length := by
      rw [List.length_cons, List.length_append]; omega
    have hcn : ∀ a : Nat, cnN a (m :: (c ++ L)) = (if m = a then 1 else 0) + (cnN a c + cnN a L) := fun a => by
      show (if m = a then 1 else 0) + cnN a (_ ++ _) = _
      rw [cnN_app]
    have hcl : c.length = zN R S0 (abT S0 u) := v11.len hy
    have h16 := hy.1 (abT S0 u)
    rw [hlen]
    rw [hlen] at h9
    have hm0 := hc m
    rw [hcn m, if_pos rfl] at hm0
    have hmt : 1 ≤ m ∧ m ≤ t := hm0.2 (by omega)
    obtain ⟨kd, ix, ou, qu, _⟩ := (show rTy S0 u from Or.inl a3).ty
    have hT : ∀ S3 : Sg, RNx Sl S3 → ∀ y : Nat, some u = some y → ∃ (kd ix : Int32) (w : Option Nat), isTy S3 y kd ix w := fun S3 e3 y hy => by
      cases hy; exact ⟨kd, ix, ou, e3.ty (hx.ty qu)⟩
    rw [a1]
    refine Rt.bd rfl (Rt.iq (by decide) (Rt.bd rfl (Rt.iq (by decide) (Rt.bd rfl (Rt.iq (by decide) (Rt.bd rfl (Rt.ip rfl ?_)))))))
    rw [nL_t]
    refine Rt.bn (ltr_ (w := 2) (o := none) hd (by omega) (fun y hy => by cases hy) (htm S e)) (fun S1 _ ⟨k1, k2, k3⟩ => ?_)
    have e1 : RNx Sl S1 := e.tr k1.1.rn
    have kid : ∀ S3 : Sg, nMS S3 = nMS S → f_kidOf R.K S3 (nI m) = some (S3, nI (hdN c)) := fun S3 n3 => by
      unfold f_kidOf; rw [rJ_n (show m < rlen 61 from v3.2) (by decide), show Zl S3 61 = Zl S 61 from congrArg (fun x : nM => x.1) n3]; show some (S3, kdW (Zl S 61 m)) = _; rw [show kdW (Zl S 61 m) = nI (hdN c) from v4]
    refine Rt.bd (a2 S1 e1) (Rt.be (kid S1 k1.nm) (Rt.bn (ltr_ (w := 1) (o := some u) k2 (by omega) (hT S1 e1) (htm S1 e1)) (fun S5 _ ⟨l1, l2, l3⟩ => ?_)))
    have e5 : RNx Sl S5 := e1.tr l1.1.rn
    refine Rt.bd (a2 S5 e5) (Rt.be (kid S5 (l1.nm.trans k1.nm)) (Rt.bn (ltr_ (w := 0) (o := some u) l2 (by omega) (hT S5 e5) (htm S5 e5)) (fun S6 _ ⟨n1, n2, n3⟩ => ?_)))
    unfold f_dropValue_181
    refine Rt.rt ?_
    have hcv1 : cvN c L fl t := fun a => by
      have q := hc a
      rw [hcn a] at q
      have q0 : cnN a [] = 0 := rfl
      exact ⟨by omega, fun w => q.2 (by omega)⟩
    have k16 : KO (d + 1) S1 S6 := l1.tr (n1.mo (by omega))
    refine ((drM (fr := 1) (mn := 1) (b := d + 1) (S := S1) (f := fun _ => some u) (cs := fun _ => c) (ls := fun _ => L) (hs := fun _ => H) (pt := fun _ => abT S0 u) (vs := fun _ => qS V [(1, 0)]) (ρ := 101) (N := 101 * c.length + 103 * L.length + 1) (fl := fl) (t := t) hL hx ih e1 k16 n2 (fun i hi => ?_) (k1.wq hq) (k1.fl hf) (fun j hj => by rw [k1.nm]; exact v11) (fun i _ => ⟨u, rfl, a3, rfl⟩) (by rw [k1.x3]; exact v8) hcv1 (Or.inr rfl) ?_ (fun j _ => by have := h16.2.2.2.2; omega) (Nat.le_refl _)).tr (N2 := 1) (P2 := DPo [] (m :: (c ++ L)) (rgN f (szN R S0 (abT S0 u)) ++ H) fl t d S) (fun S3 fl3 ⟨p1, p2, p3, p4, p5, p6, p7⟩ => ?_)).mo (by omega) (fun _ _ w => w)
    · obtain rfl : i = 0 := by omega
      exact ⟨fun _ => n1.1.wk l3 (by omega), n3⟩
    · show d + 1 + 2 * c.length + 2 * L.length ≤ 90000
      omega
    · have p1' : DO (fun a => a ∈ c ∨ a ∈ L) (fun q => q ∈ H) (d + 1) S1 S3 := p1
      have p5' : ∀ a : Nat, cnN a fl3 = cnN a fl + (1 * cnN a c + cnN a L) := p5
      have hmz : Zl S3 61 m = Zl S 61 m := by
        rw [(p1'.2.2.2.2.2.2.2.2.1 m (fun w => ?_)).1, show Zl S1 61 = Zl S 61 from congrArg (fun x : nM => x.1) k1.nm]
        rcases w with w | w
        · have := cnN_mem.mp w; omega
        · have := cnN_mem.mp w; omega
      refine (dAb (K := R.K) (m := m) (f := f) (s := szN R S0 (abT S0 u)) p2 (by omega) (p1.wk k3 (by omega)) p4 p3 hmt.1 hmt.2 (fun w => ?_) (by rw [hmz]; exact v6) (by rw [hmz]; exact v5) v7).mo (Nat.le_refl _) (fun S4 fl4 ⟨f1, f2, f3, f4, f6, f5⟩ => ⟨?_, f2, f3, fun a => ?_, fun a ha => (List.not_mem_nil ha).elim, fun q hq => ?_, f5⟩)
      · have := cnN_mem.mp w
        rw [p5' m] at this
        omega
      · refine (k1.do.tr (p1'.mo (fun a w => Or.inr (List.mem_cons_of_mem m (List.mem_append.mpr w))) (fun _ w => List.mem_append_right _ w) (by omega))).tr (f1.mo (fun a w => Or.inr (by rw [w]; exact List.mem_cons_self ..)) (fun _ w => List.mem_append_left _ w) (Nat.le_refl _))
      · rw [f4, hcn a]
        show (if m = a then 1 else 0) + cnN a fl3 = _
        rw [p5' a]; omega
      · by_cases w : q ∈ rgN f (szN R S0 (abT S0 u))
        · exact f6 q w
        · rw [f1.2.2.2.2.2.2.2.2.2.1 q w]
          exact p7 q (show q ∈ H from (List.mem_append.mp hq).resolve_left w)
  · -- all others
    obtain ⟨kd, a1, a2, a3, a4⟩ := vwO hL hx e hr h2 y3 y4
    have fin : ∀ S3 : Sg, WO S S3 → wq S3 → Rt (f_dropValue_181 R.K S3) (fun S2 _ => drN R.K (103 * ([] : List Nat).length) (DPo [] [] [] fl t d S) S2) := fun S3 e3 q3 => by
      unfold f_dropValue_181
      refine Rt.rt ((drN.rf (fl := fl) (P := DPo [] [] [] fl t d S) ⟨e3.do, ?_, ?_, fun a => by show _ = 0 + _; omega, fun a ha => (List.not_mem_nil ha).elim, fun a ha => (List.not_mem_nil ha).elim, q3⟩).mo (Nat.zero_le _) (fun _ _ w => w))
      · rw [e3.2.2.2.2.2.2.2 81 (by decide)]; exact hd
      · obtain ⟨h1, h2, ⟨z, h3, h4⟩, h5, h6⟩ := hf
        exact ⟨(e3.2.2.2.2.2.2.2 64 (by decide)).trans h1, h2, ⟨z, (e3.2.2.2.2.2.2.2 65 (by decide)).trans h3, by rw [e3.2.2.2.2.2.2.1 63 (by decide)]; exact h4⟩, h5, h6⟩
    rw [a1]
    refine Rt.bd rfl (Rt.it (fun w => ?_) (fun w => Rt.bd rfl (Rt.iq a2 (Rt.bd rfl (Rt.iq a3 (Rt.bd rfl (Rt.iq a4 (fin S WO.rf hq))))))))
    exact Rt.bn (wrt_ hq) (fun S3 _ ⟨b1, b2⟩ => Rt.bn (wnm_ b2) (fun S4 _ ⟨c1, c2⟩ => Rt.bn (wrt_ c2) (fun S5 _ ⟨d1, d2⟩ => fin S5 ((b1.tr c1).tr d1) d2)))
/-- a place is dropped, whatever its depth -/
theorem drP (hL : LFS R S0 g) (hx : LX S0 Sl) : ∀ k : Nat, drH R S0 Sl g k
  | 0 => fun T V c l h x S d fl t N hp => hp.elim
  | k + 1 => fun T V c l h x S d fl t N hp hr eT e hq hf hd hk hc h9 hN => by
    have hy := nYk_of hL
    have ih := drP hL hx k
    subst eT
    have hlen := hp.len hy
    have h16 := hy.1 (abT S0 x)
    unfold f_dropPlace
    rcases hp with ⟨y2, cs, ls, hs, rfl, rfl, rfl, hp⟩ | ⟨y2, n, rfl, hp⟩
    · obtain ⟨i, ta, f, a1, a2, a3, a4, a5, a6, a7, a8⟩ := vwS hL hx e hr y2
      rw [a1]
      refine Rt.bd rfl (Rt.ip rfl (Rt.bd a2 (Rt.bd a3 (Rt.bd a4 (Rt.bd a2 (Rt.bd a3 (Rt.bd a5 ?_)))))))
      have hrk := (hy.2.2.1 (abT S0 x) y2).2.2.2.2
      refine Rt.bn (drG (fr := 0) (f := f) (cs := cs) (ls := ls) (hs := hs) (ρ := rkN R S0 g (abT S0 x)) (cap := 13) (N := N) (mn := (yT R S0).2.2.2.1 (abT S0 x) 0) hL hx ih e hd (Or.inr ⟨ta, rfl, a6⟩) ⟨Nat.le_trans a7 (by decide), by decide⟩ hq hf hp a8 hk hc (Or.inl rfl) (by omega) (by omega) (fun j hj => hrk j hj) ?_) (fun S2 _ q => Rt.rt (q.mo (Nat.le_refl _) (fun S3 fl3 ⟨p1, p2, p3, p4, p5, p6, p7⟩ => ⟨p1, p2, p4, fun a => by rw [p5 a]; omega, p6 rfl, p7, p3⟩)))
      rw [Nat.add_mul, Nat.one_mul] at hN
      omega
    · have hkd : ∃ kd : Int32, oI S 20 (some x) 0 = some kd ∧ kd ≠ 3 := by
        by_cases y3 : yK R S0 (abT S0 x) = 3
        · obtain ⟨kd, ix, o, q, _⟩ := hr.ty
          obtain ⟨t, _, _, xl, xf⟩ := e.ty (hx.ty q)
          refine ⟨kd, oI_mk xl xf rfl, fun w => ?_⟩
          rcases yK_k hL hr q with ⟨_, h⟩ | ⟨_, i, hi, hk2, ei, eo, et, h⟩ | ⟨k3, i, hi, hk2, ei, eo, et, h⟩ | ⟨_, u, _, h, _⟩ | ⟨_, h | h⟩
          · rw [h] at y3; cases y3
          · rw [h] at y3; cases y3
          · rw [w] at k3; exact absurd k3 (by decide)
          · rw [h] at y3; cases y3
          · rw [h] at y3; cases y3
          · rw [h] at y3; cases y3
        · by_cases y4 : yK R S0 (abT S0 x) = 4
          · obtain ⟨u, a1, _⟩ := vwB hL hx e hr y4
            exact ⟨5, a1, by decide⟩
          · obtain ⟨kd, a1, a2, _⟩ := vwO hL hx e hr y2 y3 y4
            exact ⟨kd, a1, a2⟩
      obtain ⟨kd, a1, a2⟩ := hkd
      have hn := hk.1 n (List.mem_cons_self ..)
      rw [a1, show hdN [n] = n from rfl]
      refine Rt.bd rfl (Rt.iq a2 (Rt.bd (rI_n (show n < rlen 62 from hn.2) (by decide)) ?_))
      rcases hp with ⟨_, hz, rfl, rfl⟩ | ⟨hz, hv⟩
      · have hz' : Zr S 62 n = 0 := hz
        refine Rt.ip hz' (Rt.rt ((drN.rf (fl := fl) (P := DPo [n] [] [] fl t d S) ⟨DO.rf, hd, hf, fun a => by show _ = 0 + _; omega, fun a ha => ?_, fun a ha => (List.not_mem_nil ha).elim, hq⟩).mo (Nat.zero_le _) (fun _ _ w => w)))
        rcases List.mem_singleton.mp ha with rfl
        exact ⟨hz', rfl⟩
      · have hz' : Zr S 62 n = 1 := hz
        refine Rt.iq (by rw [hz']; decide) (Rt.bd (wZ_n (show n < rlen 62 from hn.2) (by decide) (Or.inl rfl)) ?_)
        have e1 : NO (fun m => m = n) S (Ur S 62 (upd (Zr S 62) n 0)) := NO.w2 rfl
        have z1 : Zr (Ur S 62 (upd (Zr S 62) n 0)) 62 n = 0 := by rw [Zr_us, upd_s]
        have z3 : Zr (Ur S 62 (upd (Zr S 62) n 0)) 63 = Zr S 63 := Zr_u9 (by decide)
        have zl : Zl (Ur S 62 (upd (Zr S 62) n 0)) = Zl S := rfl
        have zi : Zi (Ur S 62 (upd (Zr S 62) n 0)) = Zi S := rfl
        generalize Ur S 62 (upd (Zr S 62) n 0) = S1 at e1 z1 z3 zl zi
        refine Rt.bd (rJ_n (show n < rlen 61 from hn.2) (by decide)) ?_
        rw [zl]
        have hnl : n ∉ l := fun w => by
          have q := (hc n).1
          have w1 := cnN_mem.mp w
          have w2 : cnN n [n] = 1 := by show (if n = n then 1 else 0) + 0 = 1; rw [if_pos rfl]
          omega
        have hnf : n ∉ fl := fun w => by
          have q := (hc n).1
          have w1 := cnN_mem.mp w
          have w2 : cnN n [n] = 1 := by show (if n = n then 1 else 0) + 0 = 1; rw [if_pos rfl]
          omega
        have f1 : FLs S1 fl t := hf.no e1 (fun a ha w => hnf (by rw [← w]; exact ha)) (by rw [zi]) (by rw [zi])
        have hv1 : vL (yT R S0) (szN R S0) (nMS S1) k (abT S0 x) V (Zl S 61 n) l h := (show vL (yT R S0) (szN R S0) (nMS S) k (abT S0 x) V (Zl S 61 n) l h from hv).st (fun a ha => e1.2.2.2.2.2.2.2.2 a (fun w => hnl (by rw [← w]; exact ha)))
        have hl1 : ([n] : List Nat).length = 1 := rfl
        rw [hl1] at h9 hN
        rw [Nat.mul_one] at hN
        refine Rt.bn (drV (fl := fl) (t := t) (d := d) hL hx ih hv1 hr rfl y2 (e.tr e1.rn) (e1.wq hq) f1 (by rw [zi]; exact hd) (fun a => ?_) (by omega)) (fun S2 _ q => Rt.rt (q.mo (by omega) (fun S3 fl3 ⟨p1, p2, p3, p4, p5, p6, p7⟩ => ⟨?_, p2, p3, p4, fun a ha => ?_, p6, p7⟩)))
        · have q := hc a
          have q0 : cnN a [] = 0 := rfl
          exact ⟨by omega, fun w => q.2 (by omega)⟩
        · exact (e1.do.mo (fun a w => Or.inl (by rw [w]; exact List.mem_cons_self ..)) (fun _ w => w) (Nat.le_refl _)).tr (p1.mo (fun a w => Or.inr (w.resolve_left (by simp))) (fun _ w => w) (Nat.le_refl _))
        · rcases List.mem_singleton.mp ha with rfl
          have q := p1.2.2.2.2.2.2.2.2.1 a (fun w => hnl (w.resolve_left (by simp)))
          exact ⟨q.2.1.trans z1, q.2.2.trans (congrFun z3 a)⟩
end PS41
end
-- m3.q.lean.txt
section
section PS42
variable {R : yR} {S0 Sl S S2 : Sg} {g : Nat → Int32} {k t T x N : Nat} {V : qV} {fl l h c : List Nat} {v : Int64} {P : Sg → List Nat → Prop}
theorem drN.all (q : drN R.K N P S) (hN : N < bigN) (hp : ∀ (S3 : Sg) (fl3 : List Nat), P S3 fl3 → Zi S3 81 = nI 0) : Rt (f_doAll R.K S) (fun S3 _ => ∃ fl3 : List Nat, P S3 fl3) := by
  unfold f_doAll
  refine q bigN _ (Nat.le_of_lt hN) (fun S3 fl3 e2 h1 h2 => ?_)
  obtain ⟨e2, rfl⟩ : ∃ m : Nat, e2 = m + 1 := ⟨e2 - 1, by omega⟩
  unfold f_doAll_0
  exact Rt.ip (by rw [hp S3 fl3 h1]; decide) (Rt.rt ⟨fl3, h1⟩)
/-- a place is dropped, and all work done -/
theorem doP_ (hL : LFS R S0 g) (hx : LX S0 Sl) (hp : pL (yT R S0) (szN R S0) (nMS S) k T V c l h) (hr : rTy S0 x) (eT : abT S0 x = T) (e : RNx Sl S) (hq : wq S) (hf : FLs S fl t) (hd : Zi S 81 = nI 0) (hk : lkN (Zr S 63) c) (hc : cvN c l fl t) (h9 : c.length + 2 * l.length ≤ 90000) : Rt (f_dropPlace R.K S (some x) (nI (hdN c))) (fun S2 _ => Rt (f_doAll R.K S2) (fun S3 _ => ∃ fl3 : List Nat, DPo c l h fl t 0 S S3 fl3)) := by
  have hy := nYk_of hL
  have hl := hp.len hy
  have h1 := hy.1 T
  have hm : (rkN R S0 g T + 1) * c.length ≤ 101 * 16 := Nat.mul_le_mul (by omega) (by omega)
  exact (drP hL hx k T V c l h x S 0 fl t (101 * 16 + 103 * l.length) hp hr eT e hq hf hd hk hc (by omega) (by omega)).mo (fun S2 _ q => q.all (by unfold bigN; omega) (fun S3 fl3 w => w.2.1))
/-- a value is dropped -/
theorem doV_ (hL : LFS R S0 g) (hx : LX S0 Sl) (hv : vL (yT R S0) (szN R S0) (nMS S) k T V v l h) (hr : rTy S0 x) (eT : abT S0 x = T) (h2 : (yT R S0).1 T ≠ 2) (e : RNx Sl S) (hq : wq S) (hf : FLs S fl t) (hd : Zi S 81 = nI 0) (hc : cvN [] l fl t) (h9 : 2 * l.length ≤ 90000) : Rt (f_dropValue R.K S (some x) v) (fun S2 _ => Rt (f_doAll R.K S2) (fun S3 _ => ∃ fl3 : List Nat, DPo [] l h fl t 0 S S3 fl3)) := (drV hL hx (drP hL hx k) hv hr eT h2 e hq hf hd hc (by omega)).mo (fun S2 _ q => q.all (by unfold bigN; omega) (fun S3 fl3 w => w.2.1))
/-- .. a struct -/
theorem doS_ (hL : LFS R S0 g) (hx : LX S0 Sl) (hp : pL (yT R S0) (szN R S0) (nMS S) k T V c l h) (hr : rTy S0 x) (eT : abT S0 x = T) (h2 : (yT R S0).1 T = 2) (e : RNx Sl S) (hq : wq S) (hf : FLs S fl t) (hd : Zi S 81 = nI 0) (hk : lkN (Zr S 63) c) (hc : cvN c l fl t) (h9 : 2 * c.length + 2 * l.length ≤ 90000) : Rt (f_dropValue R.K S (some x) (nL (hdN c))) (fun S2 _ => Rt (f_doAll R.K S2) (fun S3 _ => ∃ fl3 : List Nat, DPo [] (c ++ l) h fl t 0 S S3 fl3)) := by
  have hy := nYk_of hL
  have hl := hp.len hy
  have h1 := hy.1 T
  subst eT
  cases k with
  | zero => exact hp.elim
  | succ k =>
    rcases hp with ⟨y2, cs, ls, hs, rfl, rfl, rfl, hp⟩ | ⟨y2, _⟩
    · obtain ⟨i, ta, f, a1, a2, a3, a4, a5, a6, a7, a8⟩ := vwS hL hx e hr y2
      have hrk := (hy.2.2.1 (abT S0 x) y2).2.2.2.2
      unfold f_dropValue
      rw [a1, nL_t]
      refine Rt.bd rfl (Rt.iq (by decide) (Rt.bd rfl (Rt.ip rfl (Rt.bd a2 (Rt.bd a3 (Rt.bd a4 (Rt.bd a2 (Rt.bd a3 (Rt.bd a5 ?_)))))))))
      have hm : rkN R S0 g (abT S0 x) * (ftN cs ((yT R S0).2.2.2.1 (abT S0 x) 0)).length ≤ 100 * 16 := Nat.mul_le_mul (by omega) (by omega)
      have a7' : (yT R S0).2.2.2.1 (abT S0 x) 0 ≤ 12 := a7
      refine Rt.bn (drG (fr := 1) (b := 0) (f := f) (cs := cs) (ls := ls) (hs := hs) (ρ := rkN R S0 g (abT S0 x)) (cap := 13) (N := 100 * 16 + 103 * (ftN ls ((yT R S0).2.2.2.1 (abT S0 x) 0)).length + 12) (mn := (yT R S0).2.2.2.1 (abT S0 x) 0) hL hx (drP hL hx k) e hd (Or.inr ⟨ta, rfl, a6⟩) ⟨Nat.le_trans a7 (by decide), by decide⟩ hq hf hp a8 hk hc (Or.inr rfl) (by omega) (by omega) (fun j hj => hrk j hj) (by omega)) (fun S2 _ q => Rt.rt ((q.mo (P2 := DPo [] (ftN cs ((yT R S0).2.2.2.1 (abT S0 x) 0) ++ ftN ls ((yT R S0).2.2.2.1 (abT S0 x) 0)) (ftN hs ((yT R S0).2.2.2.1 (abT S0 x) 0)) fl t 0 S) (Nat.le_refl _) (fun S3 fl3 ⟨p1, p2, p3, p4, p5, p6, p7⟩ => ⟨p1.mo (fun a w => Or.inr (List.mem_append.mpr w)) (fun _ w => w) (Nat.le_refl _), p2, p4, fun a => by rw [p5 a, cnN_app]; omega, fun a ha => (List.not_mem_nil ha).elim, p7, p3⟩)).all (by unfold bigN; omega) (fun S3 fl3 w => w.2.1)))
    · exact absurd h2 y2
end PS42
end
-- m3.r.lean.txt
section
/-- 1 if the node a was made -/
def ind (t a : Nat) : Nat := if 1 ≤ a ∧ a ≤ t then 1 else 0
/-- a sum over the roots of 60 frames -/
def sm2 (G : Nat × Nat → Nat) : Nat := psN (fun j => psN (fun u => G (j, u)) 300) 60
theorem psN_u1 {w w2 : Nat → Nat} {i : Nat} : ∀ {n : Nat}, i < n → (∀ j : Nat, j ≠ i → w2 j = w j) → psN w2 n + w i = psN w n + w2 i
  | n + 1, h, e => by
    show psN w2 n + w2 n + w i = psN w n + w n + w2 i
    by_cases q : i = n
    · subst q
      rw [psN_cg (w := w2) (w2 := w) (fun j hj => e j (by omega))]; omega
    · have := psN_u1 (w := w) (w2 := w2) (i := i) (n := n) (by omega) e
      rw [e n (fun z => q z.symm)]; omega
theorem sm2_cg {G G2 : Nat × Nat → Nat} (h : ∀ r : Nat × Nat, r.1 < 60 → r.2 < 300 → G r = G2 r) : sm2 G = sm2 G2 := psN_cg (fun j hj => psN_cg (fun u hu => h (j, u) hj hu))
theorem sm2_u1 {G G2 : Nat × Nat → Nat} {r : Nat × Nat} (h1 : r.1 < 60) (h2 : r.2 < 300) (h : ∀ q : Nat × Nat, q ≠ r → G2 q = G q) : sm2 G2 + G r = sm2 G + G2 r := by
  obtain ⟨j, u⟩ := r
  have e1 : ∀ i : Nat, i ≠ j → psN (fun u => G2 (i, u)) 300 = psN (fun u => G (i, u)) 300 := fun i hi => psN_cg (fun v _ => h (i, v) (fun z => hi (Prod.mk.inj z).1))
  have e2 : psN (fun v => G2 (j, v)) 300 + G (j, u) = psN (fun v => G (j, v)) 300 + G2 (j, u) := psN_u1 (w := fun v => G (j, v)) (w2 := fun v => G2 (j, v)) (i := u) h2 (fun v hv => h (j, v) (fun z => hv (Prod.mk.inj z).2))
  have e3 : sm2 G2 + psN (fun u => G (j, u)) 300 = sm2 G + psN (fun u => G2 (j, u)) 300 := psN_u1 (w := fun i => psN (fun u => G (i, u)) 300) (w2 := fun i => psN (fun u => G2 (i, u)) 300) (i := j) h1 e1
  omega
theorem sm2_i1 {G : Nat × Nat → Nat} {r : Nat × Nat} (h1 : r.1 < 60) (h2 : r.2 < 300) : G r ≤ sm2 G := by
  obtain ⟨j, u⟩ := r
  have a := psN_i1 (v := fun v => G (j, v)) (i := u) h2
  have b := psN_i1 (v := fun i => psN (fun u => G (i, u)) 300) (i := j) h1
  exact Nat.le_trans a b
theorem sm2_ij {G : Nat × Nat → Nat} {r q : Nat × Nat} (h1 : r.1 < 60) (h2 : r.2 < 300) (g1 : q.1 < 60) (g2 : q.2 < 300) (hne : r ≠ q) : G r + G q ≤ sm2 G := by
  obtain ⟨j, u⟩ := r
  obtain ⟨i, v⟩ := q
  by_cases e : j = i
  · subst e
    have a := psN_ij (v := fun v => G (j, v)) (i := u) (j := v) (fun z => hne (by rw [z])) h2 g2
    have b := psN_i1 (v := fun i => psN (fun u => G (i, u)) 300) (i := j) h1
    exact Nat.le_trans a b
  · have a := psN_i1 (v := fun v => G (j, v)) (i := u) h2
    have b := psN_i1 (v := fun u => G (i, u)) (i := v) g2
    have c := psN_ij (v := fun i => psN (fun u => G (i, u)) 300) e h1 g1
    exact Nat.le_trans (Nat.add_le_add a b) c
theorem sm2_ad {G G2 : Nat × Nat → Nat} : sm2 (fun r => G r + G2 r) = sm2 G + sm2 G2 := by
  unfold sm2
  rw [← psN_ad]
  exact psN_cg (fun j _ => psN_ad (u := fun u => G (j, u)) (v := fun u => G2 (j, u)))
theorem sm2_le {G G2 : Nat × Nat → Nat} (h : ∀ r : Nat × Nat, r.1 < 60 → r.2 < 300 → G r ≤ G2 r) : sm2 G ≤ sm2 G2 := psN_le (fun j hj => psN_le (fun u hu => h (j, u) hj hu))
theorem psN_z : ∀ {n : Nat}, psN (fun _ => 0) n = 0
  | 0 => rfl
  | n + 1 => by show psN (fun _ => 0) n + 0 = 0; rw [psN_z]
theorem psN_sw {w : Nat → Nat → Nat} {m : Nat} : ∀ {n : Nat}, psN (fun i => psN (fun a => w i a) m) n = psN (fun a => psN (fun i => w i a) n) m
  | 0 => by
    show 0 = psN (fun a => 0) m
    rw [psN_z]
  | n + 1 => by
    show psN (fun i => psN (fun a => w i a) m) n + psN (fun a => w n a) m = psN (fun a => psN (fun i => w i a) n + w n a) m
    rw [psN_sw, psN_ad]
theorem sm2_sw {G : Nat × Nat → Nat → Nat} {m : Nat} : sm2 (fun r => psN (fun a => G r a) m) = psN (fun a => sm2 (fun r => G r a)) m := by
  unfold sm2
  exact (psN_cg (fun j _ => psN_sw (w := fun u a => G (j, u) a) (m := m) (n := 300))).trans (psN_sw (w := fun j a => psN (fun u => G (j, u) a) 300) (m := m) (n := 60))
theorem psN_e1 {x : Nat} : ∀ {m : Nat}, x < m → psN (fun a => if x = a then 1 else 0) m = 1
  | m + 1, h => by
    show psN (fun a => if x = a then 1 else 0) m + (if x = m then 1 else 0) = 1
    by_cases e : x = m
    · rw [if_pos e, psN_cg (w2 := fun _ => 0) (fun a ha => if_neg (by omega)), psN_z]
    · rw [if_neg e, psN_e1 (by omega)]
/-- a list's length, by how often each stands in it -/
theorem cnN_len : ∀ {l : List Nat} {m : Nat}, (∀ a ∈ l, a < m) → psN (fun a => cnN a l) m = l.length
  | [], m, _ => psN_z
  | x :: l, m, h => by
    have e : psN (fun a => cnN a (x :: l)) m = psN (fun a => if x = a then 1 else 0) m + psN (fun a => cnN a l) m := psN_ad (u := fun a => if x = a then 1 else 0) (v := fun a => cnN a l)
    rw [e, psN_e1 (h x (List.mem_cons_self ..)), cnN_len (fun a ha => h a (List.mem_cons_of_mem x ha)), List.length_cons]; omega
theorem ind_len {t : Nat} : psN (fun a => ind t a) (t + 1) = t := by
  have key : ∀ m : Nat, m ≤ t → psN (fun a => ind t a) (m + 1) = m := fun m => by
    induction m with
    | zero => intro _; show 0 + ind t 0 = 0; unfold ind; rw [if_neg (by omega)]
    | succ m ih =>
      intro h
      show psN (fun a => ind t a) (m + 1) + ind t (m + 1) = m + 1
      rw [ih (by omega)]; unfold ind; rw [if_pos (by omega)]
  exact key t (Nat.le_refl _)
/-- nodes that were taken: how often each stands where -/
theorem Frs.eq {l l2 L : List Nat} {t t2 : Nat} (h : Frs l t L l2 t2) (hL : L.Nodup) (hl : l.Nodup) (hl2 : l2.Nodup) (hb : ∀ n ∈ l, 1 ≤ n ∧ n ≤ t) (hb2 : ∀ n ∈ L, 1 ≤ n) (a : Nat) : cnN a L + cnN a l2 + ind t a = cnN a l + ind t2 a := by
  obtain ⟨h1, h2, h3, h4, h5⟩ := h
  have nL := cnN_nd.mp hL a
  have nl := cnN_nd.mp hl a
  have nl2 := cnN_nd.mp hl2 a
  have in1 : ∀ {l : List Nat}, a ∈ l → 1 ≤ cnN a l := fun w => cnN_mem.mp w
  unfold ind
  by_cases c1 : a ∈ L
  · obtain ⟨q1, q2, q3⟩ := h1 a c1
    have z2 := cnN_z q1
    have := in1 c1
    have h0 := hb2 a c1
    rw [if_pos (show 1 ≤ a ∧ a ≤ t2 from ⟨h0, q2⟩)]
    by_cases c2 : a ∈ l
    · have := in1 c2
      rw [if_pos (hb a c2)]; omega
    · have z := cnN_z c2
      have : t < a := q3.resolve_left c2
      rw [if_neg (by omega)]; omega
  · have z1 := cnN_z c1
    by_cases c2 : a ∈ l2
    · have c3 := h3 a c2
      have := in1 c2
      have := in1 c3
      obtain ⟨b1, b2⟩ := hb a c3
      rw [if_pos ⟨b1, b2⟩, if_pos (show 1 ≤ a ∧ a ≤ t2 from ⟨b1, by omega⟩)]; omega
    · have z2 := cnN_z c2
      by_cases c3 : 1 ≤ a ∧ a ≤ t2
      · rcases h4 a c3.2 c2 with w | ⟨w1, w2⟩
        · exact absurd w c1
        · have z3 := cnN_z w2
          rw [if_pos c3, if_pos ⟨c3.1, w1⟩]; omega
      · have c4 : a ∉ l := fun w => c3 ⟨(hb a w).1, by have := (hb a w).2; omega⟩
        have z3 := cnN_z c4
        rw [if_neg c3, if_neg (fun w => c3 ⟨w.1, by omega⟩)]; omega
end
-- m3.s.lean.txt
section
/-- a value on the stack -/
def vaR (y : qY) (sz : Nat → Nat) (M : nM) (T : Nat) (V : qV) (x : Int64) (l h : List Nat) : Prop := (y.1 T = 2 ∧ ∃ (k : Nat) (c l1 : List Nat), pL y sz M k T V c l1 h ∧ lkN M.x c ∧ x = nL (hdN c) ∧ l = c ++ l1) ∨ (y.1 T ≠ 2 ∧ ∃ k : Nat, vL y sz M k T V x l h)
/-- a variable's place -/
def plR (y : qY) (sz : Nat → Nat) (M : nM) (T : Nat) (V : qV) (a : Int32) (c l h : List Nat) : Prop := (∃ k : Nat, pL y sz M k T V c l h) ∧ lkN M.x c ∧ a = nI (hdN c)
/-- a root that has nodes: a variable in scope, a value -/
def kSc (s : List tE) (u : Nat) : Prop := (u < 40 ∧ (8, u, 0) ∈ s) ∨ (40 ≤ u ∧ u < 40 + wl s)
/-- a root's nodes: c its own, l those below, h cells of the heap; b where the frame's values begin -/
def rPc (y : qY) (sz : Nat → Nat) (M : nM) (sk : Nat → Int64) (pl : Nat → Int32) (s : List tE) (b j u T : Nat) (V : qV) (c l h : List Nat) : Prop := (u < 40 → (8, u, 0) ∈ s → plR y sz M T V (pl (40 * j + u)) c l h) ∧ (40 ≤ u → u < 40 + wl s → c = [] ∧ vaR y sz M T V (sk (b + (u - 40))) l h) ∧ (¬ kSc s u → c = [] ∧ l = [] ∧ h = [])
/-- where a reference leads -/
def rfA (y : qY) (zn : Nat → Nat) (M : nM) (sk : Nat → Int64) (b u T : Nat) (cd cu : List Nat) (π : lLc) : Prop := ∃ n : Nat, n < 430000 ∧ wRn y zn M T (hdN cd) π n ∧ (u < 40 → ∃ m : Nat, cu = [m] ∧ M.w m = nL n) ∧ (40 ≤ u → sk (b + (u - 40)) = nL n)
/-- the nodes of all roots -/
def kN (y : qY) (zn sz : Nat → Nat) (M : nM) (sk : Nat → Int64) (pl : Nat → Int32) (f : Nat) (x : Nat → kFm) (rt : Nat × Nat → Nat) (V : Nat × Nat → qV) (bs : Nat → Nat) (C L H : Nat × Nat → List Nat) : Prop :=
  (∀ j u : Nat, j ≤ f → rPc y sz M sk pl (x j).2.1 (bs j) j u (rt (j, u)) (V (j, u)) (C (j, u)) (L (j, u)) (H (j, u))) ∧
  (∀ j u : Nat, f < j → C (j, u) = [] ∧ L (j, u) = [] ∧ H (j, u) = []) ∧
  (bs 0 = 0 ∧ ∀ j : Nat, j < f → bs (j + 1) = bs j + wl (x j).2.1) ∧
  ∀ (j u : Nat) (d : Nat × Nat) (π : lLc), j ≤ f → kA (x j) u → kSc (x j).2.1 u → kR (x j) u = some (d :: π) → rfA y zn M sk (bs j) u (rt d) (C d) (C (j, u)) π
/-- all nodes, all cells of the heap stand in one root or are free -/
def kC (C L H : Nat × Nat → List Nat) (fl : List Nat) (t : Nat) (tk : Nat → Int32) : Prop := (∀ a : Nat, sm2 (fun r => cnN a (C r) + cnN a (L r)) + cnN a fl = ind t a) ∧ ∀ q : Nat, sm2 (fun r => cnN q (H r)) ≤ 1 ∧ (1 ≤ sm2 (fun r => cnN q (H r)) → q < 4000 ∧ tk q ≠ 0)
section PS44
variable {y : qY} {zn sz rk : Nat → Nat} {M M2 : nM} {sk sk2 : Nat → Int64} {pl pl2 : Nat → Int32} {f : Nat} {x : Nat → kFm} {rt : Nat × Nat → Nat} {V : Nat × Nat → qV} {bs : Nat → Nat} {C L H : Nat × Nat → List Nat} {T k : Nat} {W : qV} {xv : Int64} {c l h fl : List Nat} {t : Nat} {tk : Nat → Int32}
theorem vaR.st (q : vaR y sz M T W xv l h) (ha : agN M M2 l) : vaR y sz M2 T W xv l h := by
  rcases q with ⟨q1, k, c, l1, q2, q3, q4, q5⟩ | ⟨q1, k, q2⟩
  · subst q5
    have hc : ∀ a ∈ c, a ∈ c ++ l1 := fun a w => List.mem_append_left _ w
    exact Or.inl ⟨q1, k, c, l1, q2.st (fun a w => ⟨(ha a (hc a w)).1, (ha a (hc a w)).2.1⟩) (ha.im (fun a w => List.mem_append_right _ w)), q3.cg (fun a w => (ha a (hc a w)).2.2), q4, rfl⟩
  · exact Or.inr ⟨q1, k, q2.st ha⟩
theorem plR.st {a : Int32} (q : plR y sz M T W a c l h) (hc : agN M M2 c) (hl : agN M M2 l) : plR y sz M2 T W a c l h := by
  obtain ⟨⟨k, q1⟩, q2, q3⟩ := q
  exact ⟨⟨k, q1.st (fun a w => ⟨(hc a w).1, (hc a w).2.1⟩) hl⟩, q2.cg (fun a w => (hc a w).2.2), q3⟩
theorem vaR.cnt (hy : nYk y zn sz rk) (q : vaR y sz M T W xv l h) : l.length ≤ 32 + 2 * h.length := by
  have h1 := hy.1 T
  rcases q with ⟨q1, k, c, l1, q2, q3, q4, q5⟩ | ⟨q1, k, q2⟩
  · have := q2.cnt hy
    rw [q5, List.length_append]; omega
  · have := q2.cnt hy; omega
theorem plR.cnt {a : Int32} (hy : nYk y zn sz rk) (q : plR y sz M T W a c l h) : c.length + l.length ≤ 32 + 2 * h.length := by
  obtain ⟨⟨k, q1⟩, _⟩ := q
  have := q1.cnt hy
  have h1 := hy.1 T
  omega
theorem rPc.st {s : List tE} {b j u : Nat} (q : rPc y sz M sk pl s b j u T W c l h) (hc : agN M M2 c) (hl : agN M M2 l) (e1 : u < 40 → (8, u, 0) ∈ s → pl2 (40 * j + u) = pl (40 * j + u)) (e2 : 40 ≤ u → u < 40 + wl s → sk2 (b + (u - 40)) = sk (b + (u - 40))) : rPc y sz M2 sk2 pl2 s b j u T W c l h := by
  obtain ⟨q1, q2, q3⟩ := q
  refine ⟨fun a b => ?_, fun a b => ?_, q3⟩
  · rw [e1 a b]; exact (q1 a b).st hc hl
  · rw [e2 a b]; exact ⟨(q2 a b).1, (q2 a b).2.st hl⟩
theorem rPc.cnt {s : List tE} {b j u : Nat} (hy : nYk y zn sz rk) (q : rPc y sz M sk pl s b j u T W c l h) (hw : wl s ≤ 177) : c.length + l.length ≤ (if u < 217 then 32 else 0) + 2 * h.length := by
  obtain ⟨q1, q2, q3⟩ := q
  by_cases e : kSc s u
  · rw [if_pos (by rcases e with e | e <;> omega)]
    rcases e with ⟨a, b⟩ | ⟨a, b⟩
    · exact (q1 a b).cnt hy
    · obtain ⟨z1, z2⟩ := q2 a b
      have := z2.cnt hy
      rw [z1]; show 0 + _ ≤ _; omega
  · obtain ⟨z1, z2, z3⟩ := q3 e
    rw [z1, z2]; show 0 + 0 ≤ _; omega
theorem psN_if {m c : Nat} : ∀ {n : Nat}, psN (fun u => if u < m then c else 0) n ≤ m * c
  | 0 => Nat.zero_le _
  | n + 1 => by
    by_cases e : n < m
    · have h1 : psN (fun u => if u < m then c else 0) (n + 1) ≤ psN (fun _ => c) (n + 1) := psN_le (fun k _ => by by_cases q : k < m; rw [if_pos q]; exact Nat.le_refl _; rw [if_neg q]; exact Nat.zero_le _)
      rw [psN_c9] at h1
      exact Nat.le_trans h1 (Nat.mul_le_mul_right _ e)
    · show psN (fun u => if u < m then c else 0) n + (if n < m then c else 0) ≤ _
      rw [if_neg e]
      exact psN_if
/-- there is room for some nodes more -/
theorem kN.room (hy : nYk y zn sz rk) (h : kN y zn sz M sk pl f x rt V bs C L H) (hc : kC C L H fl t tk) (hf : f < 60) (hw : ∀ j : Nat, j ≤ f → wl (x j).2.1 ≤ 177) (hfl : ∀ n ∈ fl, n ≤ t) : t ≤ fl.length + 424640 := by
  obtain ⟨h1, h2, _⟩ := h
  obtain ⟨c1, c2⟩ := hc
  have hin : ∀ (r : Nat × Nat) (a : Nat), r.1 < 60 → r.2 < 300 → (a ∈ C r ∨ a ∈ L r) → a < t + 1 := fun r a r1 r2 w => by
    have g := sm2_i1 (G := fun r => cnN a (C r) + cnN a (L r)) r1 r2
    have e : 1 ≤ cnN a (C r) + cnN a (L r) := by
      rcases w with w | w
      · have := cnN_mem.mp w; omega
      · have := cnN_mem.mp w; omega
    have g : cnN a (C r) + cnN a (L r) ≤ sm2 (fun r => cnN a (C r) + cnN a (L r)) := g
    have e2 := c1 a
    unfold ind at e2
    by_cases q : 1 ≤ a ∧ a ≤ t
    · omega
    · rw [if_neg q] at e2; omega
  have hih : ∀ (r : Nat × Nat) (q : Nat), r.1 < 60 → r.2 < 300 → q ∈ H r → q < 4000 := fun r q r1 r2 w => by
    have g : cnN q (H r) ≤ sm2 (fun r => cnN q (H r)) := sm2_i1 (G := fun r => cnN q (H r)) r1 r2
    have e := cnN_mem.mp w
    exact ((c2 q).2 (by omega)).1
  have s1 : sm2 (fun r => (C r).length + (L r).length) + fl.length = t := by
    have e1 : sm2 (fun r => (C r).length + (L r).length) = psN (fun a => sm2 (fun r => cnN a (C r) + cnN a (L r))) (t + 1) := by
      rw [← sm2_sw (G := fun r a => cnN a (C r) + cnN a (L r))]
      refine sm2_cg (fun r r1 r2 => ?_)
      show (C r).length + (L r).length = psN (fun a => cnN a (C r) + cnN a (L r)) (t + 1)
      rw [psN_ad, cnN_len (fun a w => hin r a r1 r2 (Or.inl w)), cnN_len (fun a w => hin r a r1 r2 (Or.inr w))]
    rw [e1, ← cnN_len (l := fl) (m := t + 1) (fun a w => by have := hfl a w; omega), ← psN_ad, psN_cg (fun a _ => c1 a), ind_len]
  have s2 : sm2 (fun r => (H r).length) ≤ 4000 := by
    have e1 : sm2 (fun r => (H r).length) = psN (fun q => sm2 (fun r => cnN q (H r))) 4000 := by
      rw [← sm2_sw (G := fun r q => cnN q (H r))]
      exact sm2_cg (fun r r1 r2 => (cnN_len (fun a w => hih r a r1 r2 w)).symm)
    rw [e1]
    have := psN_le (w := fun q => sm2 (fun r => cnN q (H r))) (w2 := fun _ => 1) (n := 4000) (fun q _ => (c2 q).1)
    rw [psN_c9] at this
    omega
  have s3 : sm2 (fun r => (C r).length + (L r).length) ≤ sm2 (fun r => (if r.2 < 217 then 32 else 0) + 2 * (H r).length) := sm2_le (fun r r1 r2 => by
    obtain ⟨j, u⟩ := r
    show (C (j, u)).length + (L (j, u)).length ≤ (if u < 217 then 32 else 0) + 2 * (H (j, u)).length
    by_cases e : j ≤ f
    · exact (h1 j u e).cnt hy (hw j e)
    · obtain ⟨z1, z2, z3⟩ := h2 j u (by omega)
      rw [z1, z2]; show 0 + 0 ≤ _; omega)
  have s4 : sm2 (fun r => (if r.2 < 217 then 32 else 0) + 2 * (H r).length) = sm2 (fun r => if r.2 < 217 then 32 else 0) + sm2 (fun r => 2 * (H r).length) := sm2_ad
  have s5 : sm2 (fun r => 2 * (H r).length) = 2 * sm2 (fun r => (H r).length) := by
    unfold sm2
    rw [← psN_2]
    exact psN_cg (fun j _ => psN_2)
  have s6 : sm2 (fun r => if r.2 < 217 then 32 else 0) ≤ 60 * (217 * 32) := by
    unfold sm2
    have := psN_le (w := fun j => psN (fun u => if ((j, u) : Nat × Nat).2 < 217 then 32 else 0) 300) (w2 := fun _ => 217 * 32) (n := 60) (fun j _ => psN_if (m := 217) (c := 32) (n := 300))
    rw [psN_c9] at this
    exact this
  omega
end PS44
end
-- m3.t.lean.txt
section
section PS45
variable {y : qY} {vt : Nat → Nat → Nat} {tb : Nat → lTb} {zn sz rk : Nat → Nat} {M M2 : nM} {sk sk2 : Nat → Int64} {pl pl2 : Nat → Int32} {f f2 : Nat} {x x2 : Nat → kFm} {rt rt2 : Nat × Nat → Nat} {V V2 : Nat × Nat → qV} {bs bs2 : Nat → Nat} {C L H C2 L2 H2 : Nat × Nat → List Nat} {fl fl2 : List Nat} {t t2 : Nat} {tk tk2 : Nat → Int32}
/-- what is kept of a sum when a family of roots changes -/
theorem sm2_fam {G2 : Nat × Nat → Nat} {r : Nat → Nat × Nat} : ∀ {n : Nat} {G : Nat × Nat → Nat}, (∀ i : Nat, i < n → (r i).1 < 60 ∧ (r i).2 < 300) → (∀ i j : Nat, i < n → j < n → r i = r j → i = j) → (∀ q : Nat × Nat, (∀ i : Nat, i < n → q ≠ r i) → G2 q = G q) → sm2 G2 + psN (fun i => G (r i)) n = sm2 G + psN (fun i => G2 (r i)) n
  | 0, G, _, _, h => by
    have e : G2 = G := funext fun q => h q (fun i hi => by omega)
    rw [e]
  | n + 1, G, h1, h2, h => by
    have e0 := sm2_fam (G2 := G2) (n := n) (G := fun q => if q = r n then G2 q else G q) (fun i hi => h1 i (by omega)) (fun i j hi hj => h2 i j (by omega) (by omega)) (fun q hq => by
      by_cases w : q = r n
      · rw [if_pos w]
      · rw [if_neg w]
        exact h q (fun i hi => by
          by_cases w2 : i = n
          · subst w2; exact w
          · exact hq i (by omega)))
    have e1 := sm2_u1 (G := G) (G2 := fun q => if q = r n then G2 q else G q) (r := r n) (h1 n (by omega)).1 (h1 n (by omega)).2 (fun q hq => if_neg hq)
    rw [if_pos rfl] at e1
    have e2 : psN (fun i => if r i = r n then G2 (r i) else G (r i)) n = psN (fun i => G (r i)) n := psN_cg (fun i hi => if_neg (fun w => by have := h2 i n (by omega) (by omega) w; omega))
    rw [e2] at e0
    show sm2 G2 + (psN (fun i => G (r i)) n + G (r n)) = sm2 G + (psN (fun i => G2 (r i)) n + G2 (r n))
    omega
/-- a family of roots changes -/
theorem kC.fam (hc : kC C L H fl t tk) {r : Nat → Nat × Nat} {n : Nat} (h1 : ∀ i : Nat, i < n → (r i).1 < 60 ∧ (r i).2 < 300) (h2 : ∀ i j : Nat, i < n → j < n → r i = r j → i = j) (ho : ∀ q : Nat × Nat, (∀ i : Nat, i < n → q ≠ r i) → C2 q = C q ∧ L2 q = L q ∧ H2 q = H q) (hn : ∀ a : Nat, psN (fun i => cnN a (C2 (r i)) + cnN a (L2 (r i))) n + cnN a fl2 + ind t a = psN (fun i => cnN a (C (r i)) + cnN a (L (r i))) n + cnN a fl + ind t2 a) (hh : ∀ q : Nat, (psN (fun i => cnN q (H2 (r i))) n ≤ psN (fun i => cnN q (H (r i))) n ∧ (tk2 q = tk q ∨ (psN (fun i => cnN q (H2 (r i))) n = 0 ∧ 1 ≤ psN (fun i => cnN q (H (r i))) n))) ∨ (tk q = 0 ∧ psN (fun i => cnN q (H2 (r i))) n ≤ 1 ∧ q < 4000 ∧ tk2 q ≠ 0)) : kC C2 L2 H2 fl2 t2 tk2 := by
  obtain ⟨c1, c2⟩ := hc
  refine ⟨fun a => ?_, fun q => ?_⟩
  · have e := sm2_fam (G2 := fun r => cnN a (C2 r) + cnN a (L2 r)) (r := r) (n := n) (G := fun r => cnN a (C r) + cnN a (L r)) h1 h2 (fun q hq => by obtain ⟨z1, z2, _⟩ := ho q hq; rw [z1, z2])
    have e1 := c1 a
    have e2 := hn a
    omega
  · have e := sm2_fam (G2 := fun r => cnN q (H2 r)) (r := r) (n := n) (G := fun r => cnN q (H r)) h1 h2 (fun q2 hq => by obtain ⟨_, _, z3⟩ := ho q2 hq; rw [z3])
    obtain ⟨d1, d2⟩ := c2 q
    rcases hh q with ⟨w1, w2⟩ | ⟨w1, w2, w3, w4⟩
    · refine ⟨by omega, fun w => ?_⟩
      obtain ⟨z1, z2⟩ := d2 (by omega)
      refine ⟨z1, ?_⟩
      rcases w2 with w2 | ⟨w2, w3⟩
      · rw [w2]; exact z2
      · omega
    · have z : ¬ 1 ≤ sm2 (fun r => cnN q (H r)) := fun w => (d2 w).2 w1
      exact ⟨by omega, fun _ => ⟨w3, w4⟩⟩
/-- a root's node is no other's, and is not free -/
theorem kC.one (hc : kC C L H fl t tk) {r : Nat × Nat} (h1 : r.1 < 60) (h2 : r.2 < 300) {a : Nat} (ha : a ∈ C r ∨ a ∈ L r) : a ∉ fl ∧ 1 ≤ a ∧ a ≤ t ∧ cnN a (C r) + cnN a (L r) = 1 ∧ ∀ q : Nat × Nat, q.1 < 60 → q.2 < 300 → (a ∈ C q ∨ a ∈ L q) → q = r := by
  have e := hc.1 a
  have g : cnN a (C r) + cnN a (L r) ≤ sm2 (fun r => cnN a (C r) + cnN a (L r)) := sm2_i1 (G := fun r => cnN a (C r) + cnN a (L r)) h1 h2
  have p : ∀ {q : Nat × Nat}, (a ∈ C q ∨ a ∈ L q) → 1 ≤ cnN a (C q) + cnN a (L q) := fun w => by
    rcases w with w | w
    · have := cnN_mem.mp w; omega
    · have := cnN_mem.mp w; omega
  have p1 := p ha
  unfold ind at e
  by_cases w : 1 ≤ a ∧ a ≤ t
  · rw [if_pos w] at e
    refine ⟨fun z => ?_, w.1, w.2, by omega, fun q q1 q2 hq => ?_⟩
    · have := cnN_mem.mp z; omega
    · by_cases w2 : q = r
      · exact w2
      · have g2 : cnN a (C q) + cnN a (L q) + (cnN a (C r) + cnN a (L r)) ≤ sm2 (fun r => cnN a (C r) + cnN a (L r)) := sm2_ij (G := fun r => cnN a (C r) + cnN a (L r)) q1 q2 h1 h2 w2
        have := p hq
        omega
  · rw [if_neg w] at e; omega
/-- nodes of other roots are as they were -/
theorem kC.ag {A : Nat → Prop} {Kp : Nat × Nat → Prop} (hc : kC C L H fl t tk) (hA : ∀ a : Nat, A a → a ∈ fl ∨ t < a ∨ ∃ r : Nat × Nat, ¬ Kp r ∧ r.1 < 60 ∧ r.2 < 300 ∧ (a ∈ C r ∨ a ∈ L r)) {r : Nat × Nat} (hr : Kp r) (h1 : r.1 < 60) (h2 : r.2 < 300) {a : Nat} (ha : a ∈ C r ∨ a ∈ L r) : ¬ A a := fun w => by
  obtain ⟨q1, q2, q3, _, q4⟩ := hc.one h1 h2 ha
  rcases hA a w with z | z | ⟨r2, z1, z2, z3, z4⟩
  · exact q1 z
  · omega
  · rw [q4 r2 z2 z3 z4] at z1; exact z1 hr
/-- where a used reference leads: a variable in scope -/
theorem kJ.ld (hJ : kJ y vt tb f x rt V) {j u : Nat} {d : Nat × Nat} {π : lLc} (hj : j ≤ f) (ha : kA (x j) u) (hr : kR (x j) u = some (d :: π)) : d.1 ≤ f ∧ d.2 < 40 ∧ (8, d.2, 0) ∈ (x d.1).2.1 ∧ ∃ T : Nat, qW y (rt d) π T ∧ qF y (V d) π T ∧ prS (V d) π := by
  obtain ⟨_, r, π2, e, q1, q2, q3⟩ := hJ.2.2.1 j hj u (d :: π) ha hr
  cases e
  obtain ⟨σ, z, hz⟩ := qF_pl q3
  obtain ⟨a1, a2, _⟩ := hJ.2.2.2.2.2.1 d.1 d.2 (π ++ σ) z hz
  refine ⟨a1, q1, ?_, _, q2, q3, prS.of (hJ.1 d) (qF_pl q3)⟩
  rcases a2 with ⟨_, w⟩ | ⟨w, _⟩ | ⟨w, _⟩ | ⟨_, _, i, _, w, _⟩
  · exact w
  · omega
  · omega
  · omega
/-- a way in a place that stays -/
theorem plR.wk {T T1 n : Nat} {W : qV} {a : Int32} {c l h : List Nat} {π : lLc} (hy : nYk y zn sz rk) (q : plR y sz M T W a c l h) (hw : qW y T π T1) (hp : prS W π) (hn : wRn y zn M T (hdN c) π n) (hc : agN M M2 c) (hl : agN M M2 l) : wRn y zn M2 T (hdN c) π n := by
  obtain ⟨⟨k, q1⟩, q2, _⟩ := q
  obtain ⟨n0, hq⟩ := q1.wk hy q2 hw hp
  have e := wRn.det hn (hq M (fun a _ => ⟨rfl, rfl⟩) (fun a _ => ⟨rfl, rfl, rfl⟩))
  rw [e]
  exact hq M2 (fun a w => ⟨(hc a w).1, (hc a w).2.2⟩) hl
/-- roots change, those of Kp stay -/
theorem kN.up (hy : nYk y zn sz rk) (hJ : kJ y vt tb f x rt V) (h : kN y zn sz M sk pl f x rt V bs C L H) (Kp : Nat × Nat → Prop)
  (hk : ∀ j u : Nat, Kp (j, u) → (j ≤ f ∧ bs2 j = bs j) ∧ ((8, u, 0) ∈ (x2 j).2.1 ↔ (8, u, 0) ∈ (x j).2.1) ∧ (40 ≤ u → (u < 40 + wl (x2 j).2.1 ↔ u < 40 + wl (x j).2.1)) ∧ (rt2 (j, u) = rt (j, u) ∧ V2 (j, u) = V (j, u)) ∧ (C2 (j, u) = C (j, u) ∧ L2 (j, u) = L (j, u) ∧ H2 (j, u) = H (j, u)) ∧ agN M M2 (C (j, u)) ∧ agN M M2 (L (j, u)) ∧ (u < 40 → (8, u, 0) ∈ (x j).2.1 → pl2 (40 * j + u) = pl (40 * j + u)) ∧ (40 ≤ u → u < 40 + wl (x j).2.1 → sk2 (bs j + (u - 40)) = sk (bs j + (u - 40))))
  (hn : ∀ j u : Nat, j ≤ f2 → ¬ Kp (j, u) → rPc y sz M2 sk2 pl2 (x2 j).2.1 (bs2 j) j u (rt2 (j, u)) (V2 (j, u)) (C2 (j, u)) (L2 (j, u)) (H2 (j, u)))
  (ho : ∀ j u : Nat, f2 < j → C2 (j, u) = [] ∧ L2 (j, u) = [] ∧ H2 (j, u) = []) (hb : bs2 0 = 0 ∧ ∀ j : Nat, j < f2 → bs2 (j + 1) = bs2 j + wl (x2 j).2.1)
  (hr : ∀ (j u : Nat) (d : Nat × Nat) (π : lLc), j ≤ f2 → kA (x2 j) u → kSc (x2 j).2.1 u → kR (x2 j) u = some (d :: π) → (Kp (j, u) ∧ Kp d ∧ kA (x j) u ∧ kR (x j) u = some (d :: π)) ∨ rfA y zn M2 sk2 (bs2 j) u (rt2 d) (C2 d) (C2 (j, u)) π) : kN y zn sz M2 sk2 pl2 f2 x2 rt2 V2 bs2 C2 L2 H2 := by
  have hsc : ∀ j u : Nat, Kp (j, u) → (kSc (x2 j).2.1 u ↔ kSc (x j).2.1 u) := fun j u w => by
    obtain ⟨_, k2, k3, _⟩ := hk j u w
    constructor
    · rintro (⟨a, b⟩ | ⟨a, b⟩)
      · exact Or.inl ⟨a, k2.mp b⟩
      · exact Or.inr ⟨a, (k3 a).mp b⟩
    · rintro (⟨a, b⟩ | ⟨a, b⟩)
      · exact Or.inl ⟨a, k2.mpr b⟩
      · exact Or.inr ⟨a, (k3 a).mpr b⟩
  refine ⟨fun j u hj => ?_, ho, hb, fun j u d π hj ha hs he => ?_⟩
  · by_cases w : Kp (j, u)
    · obtain ⟨⟨k0, k1⟩, k2, k3, ⟨k4, k5⟩, ⟨k6, k7, k8⟩, k9, k10, k11, k12⟩ := hk j u w
      obtain ⟨q1, q2, q3⟩ := (h.1 j u k0).st k9 k10 k11 k12
      rw [k1, k4, k5, k6, k7, k8]
      exact ⟨fun a b => q1 a (k2.mp b), fun a b => q2 a ((k3 a).mp b), fun a => q3 (fun b => a ((hsc j u w).mpr b))⟩
    · exact hn j u hj w
  · rcases hr j u d π hj ha hs he with ⟨w1, w2, w3, w4⟩ | w
    · obtain ⟨⟨k0, k1⟩, k2, k3, ⟨k4, k5⟩, ⟨k6, k7, k8⟩, k9, k10, k11, k12⟩ := hk j u w1
      obtain ⟨d1, d2⟩ := d
      obtain ⟨⟨m0, m1⟩, m2, m3, ⟨m4, m5⟩, ⟨m6, m7, m8⟩, m9, m10, _⟩ := hk d1 d2 w2
      have hs0 := (hsc j u w1).mp hs
      obtain ⟨n, n1, n2, n3, n4⟩ := h.2.2.2 j u (d1, d2) π k0 w3 hs0 w4
      obtain ⟨l1, l2, l3, T, l4, l5, l6⟩ := hJ.ld k0 w3 w4
      have hp := (h.1 d1 d2 l1).1 l2 l3
      rw [k1, m4, m6, k6]
      refine ⟨n, n1, hp.wk hy l4 l6 n2 m9 m10, fun a => ?_, fun a => ?_⟩
      · obtain ⟨m, e1, e2⟩ := n3 a
        exact ⟨m, e1, (k9 m (by rw [e1]; exact List.mem_singleton_self m)).1.trans e2⟩
      · have hlt : u < 40 + wl (x j).2.1 := by
          rcases hs0 with z | z <;> omega
        rw [k12 a hlt]; exact n4 a
    · exact w
end PS45
end
-- m3.u.lean.txt
section
theorem on_wl {E S : List tE} {e1 : tE} {t2 m : Nat} (he : kNm e1) : wl (E ++ (0, t2, m) :: S) = wl (E ++ e1 :: S) := by
  rw [wl_app, wl_app, wl_n he]; rfl
theorem on_mem {E S : List tE} {e1 e : tE} {t2 m : Nat} (he : kNm e1) (h8 : e.1 = 8 ∨ e.1 = 4 ∨ e.1 = 5 ∨ e.1 = 6) : e ∈ E ++ e1 :: S ↔ e ∈ E ++ (0, t2, m) :: S := by
  rw [List.mem_append, List.mem_append, List.mem_cons, List.mem_cons]
  constructor
  · rintro (h | h | h)
    · exact Or.inl h
    · rw [h] at h8; exact absurd h8 he
    · exact Or.inr (Or.inr h)
  · rintro (h | h | h)
    · exact Or.inl h
    · rw [h] at h8
      exact absurd h8 (by show ¬ ((0 : Nat) = 8 ∨ (0 : Nat) = 4 ∨ (0 : Nat) = 5 ∨ (0 : Nat) = 6); decide)
    · exact Or.inr (Or.inr h)
theorem kK_on {y : qY} {rt rt2 : Nat × Nat → Nat} {V V2 : Nat × Nat → qV} {j : Nat} {x x2 : kFm} {S : List tE} {e1 : tE} {t2 m : Nat} (he : kNm e1) (hS : kK y rt2 V2 j x2 ((0, t2, m) :: S)) (hw : wl S < 260) (hg : ∀ u : Nat, u ≠ 40 + wl S → rt2 (j, u) = rt (j, u) ∧ V2 (j, u) = V (j, u) ∧ kR x2 u = kR x u) : ∀ {E : List tE}, kK y rt V j x (E ++ e1 :: S) → kK y rt2 V2 j x2 (E ++ (0, t2, m) :: S)
  | [], _ => hS
  | e :: E, h => by
    refine ⟨?_, kK_on he hS hw hg h.2⟩
    have e0 : wl (E ++ (0, t2, m) :: S) = wl (E ++ e1 :: S) := on_wl he
    show kE y rt2 V2 j x2 (wl (E ++ (0, t2, m) :: S)) e
    rw [e0]
    refine kE_cg h.1 (fun u hu => hg u ?_)
    have e9 : wl (E ++ e1 :: S) = wl E + (wl S + 1) := by rw [wl_app, wl_n he]
    rw [e9] at hu
    omega
/-- a value is told as a plain one, whatever it was -/
theorem kJ_one {y : qY} {vt : Nat → Nat → Nat} {tb : Nat → lTb} {f : Nat} {x : Nat → kFm} {rt : Nat × Nat → Nat} {V : Nat × Nat → qV} (h : kJ y vt tb f x rt V) {E S : List tE} {e1 : tE} {t2 m : Nat} (hS : (x f).2.1 = E ++ e1 :: S) (he : kNm e1) (hk : y.1 t2 ≠ 2 ∧ y.1 t2 ≠ 3 ∧ y.1 t2 ≠ 4 ∧ y.1 t2 ≠ 5 ∧ y.1 t2 ≠ 6) (ht : t2 ≠ 0) : kJ y vt tb f (kUx x f ((x f).1, E ++ (0, t2, m) :: S, (x f).2.2.1, lUp (kR (x f)) (40 + wl S) none, kH (x f), kal (x f), klo (x f), kAn (x f))) (qRt rt (f, 40 + wl S) t2) (qUp V (f, 40 + wl S) (qL t2)) := by
  have hw := h
  obtain ⟨h0, h1, h2, h3, h4, h5, h6, h7, h8⟩ := h
  have hf := Nat.le_refl f
  have hwl : wl (E ++ (0, t2, m) :: S) = wl (x f).2.1 := by rw [hS]; exact on_wl he
  have hS2 : wl S < 211 := by
    have e9 : wl (E ++ e1 :: S) = wl E + (wl S + 1) := by rw [wl_app, wl_n he]
    have := h8 f hf
    rw [hS, e9] at this
    omega
  have hK : kK y rt V f (x f) (E ++ e1 :: S) := by rw [← hS]; exact h4 f hf
  have hK0 := kK_app hK
  have ne : ∀ (u : Nat) (a : lLc), lUp (kR (x f)) (40 + wl S) none u = some a → u ≠ 40 + wl S ∧ kR (x f) u = some a := fun u a ha => by
    by_cases e : u = 40 + wl S
    · subst e; rw [lUp_eq] at ha; cases ha
    · rw [lUp_ne e] at ha; exact ⟨e, ha⟩
  have rtn : ∀ j u : Nat, (j, u) ≠ (f, 40 + wl S) → qRt rt (f, 40 + wl S) t2 (j, u) = rt (j, u) ∧ qUp V (f, 40 + wl S) (qL t2) (j, u) = V (j, u) := fun j u e => ⟨qRt_ne e, qUp_ne e⟩
  have nef : ∀ u : Nat, u ≠ 40 + wl S → (f, u) ≠ (f, 40 + wl S) := fun u e q => by
    injection q with _ q2
    exact e q2
  have hA : ∀ u : Nat, kA ((x f).1, E ++ (0, t2, m) :: S, (x f).2.2.1, lUp (kR (x f)) (40 + wl S) none, kH (x f), kal (x f), klo (x f), kAn (x f)) u → kA (x f) u := fun u hu => by
    rcases hu with z | ⟨z1, z2⟩
    · exact Or.inl z
    · refine Or.inr ⟨z1, ?_⟩
      have z2 : u < 40 + wl (E ++ (0, t2, m) :: S) + (x f).2.2.1 := z2
      rw [hwl] at z2; exact z2
  refine kJ_top hw _ rfl rfl (fun j u hj => rtn j u (fun q => hj (by injection q))) (fun u => ?_) (lIv_mono2 (h1.1 f hf) (fun u a hu ha => ⟨hA u hu, (ne u a ha).2⟩) (fun u a l _ _ hl => hl) (fun u a hu ha => ?_)) (fun u a hu ha => ?_) (fun u t g hv hk2 hu => ?_) ?_ (fun u π z hz => ?_) (fun v v4 hvS => ?_) (fun r m2 => ⟨fun hm => ?_, fun hm => ?_⟩) ?_
  · by_cases e : u = 40 + wl S
    · rw [e, qRt_eq, qUp_eq]; exact (qFu_L hk.1 hk.2.1 hk.2.2.1).1
    · obtain ⟨a1, a2⟩ := rtn f u (nef u e)
      rw [a1, a2]; exact h0 (f, u)
  · show y.1 (qRt rt (f, 40 + wl S) t2 (f, u)) = 6 ↔ y.1 (rt (f, u)) = 6
    rw [(rtn f u (nef u (ne u a ha).1)).1]
  · obtain ⟨q1, q2⟩ := h2 f hf u a (hA u hu) (ne u a ha).2
    have e1 := (rtn f u (nef u (ne u a ha).1)).1
    unfold qTr
    rw [e1]
    refine ⟨q1, qTg_eq q2 (fun r π _ _ hr => ?_)⟩
    have := rtn r.1 r.2 (fun q => by
      have : r.2 = 40 + wl S := congrArg Prod.snd q
      omega)
    exact ⟨this.2, this.1⟩
  · by_cases e : u = 40 + wl S
    · rw [e, qUp_eq] at hv
      have hv : some (t2, 0) = some (t, g) := hv
      injection hv with hv
      injection hv with hv1 hv2
      rw [← hv1] at hk2
      exact absurd hk2 (by have := hk.2.2.2; rintro (z | z); exact this.1 z; exact this.2 z)
    · rw [(rtn f u (nef u e)).2] at hv
      obtain ⟨a, ha⟩ := h3 f hf u t g hv hk2 (hA u hu)
      exact ⟨a, (lUp_ne e).trans ha⟩
  · refine kK_on he (t2 := t2) (rt := rt) (V := V) (x := x f) (x2 := ((x f).1, E ++ (0, t2, m) :: S, (x f).2.2.1, lUp (kR (x f)) (40 + wl S) none, kH (x f), kal (x f), klo (x f), kAn (x f))) ?_ (by omega) (fun u hu => ⟨(rtn f u (nef u hu)).1, (rtn f u (nef u hu)).2, lUp_ne hu⟩) hK
    refine ⟨?_, kK_cg hK0.2 (fun u hu => ?_)⟩
    · unfold kE
      refine ⟨lUp_eq, hk.2.2.2.1, hk.2.2.2.2, fun _ => ⟨qRt_eq, by rw [qUp_eq]; exact (qFu_L hk.1 hk.2.1 hk.2.2.1).2⟩, fun e => absurd e ht⟩
    · have e : u ≠ 40 + wl S := by omega
      exact ⟨(rtn f u (nef u e)).1, (rtn f u (nef u e)).2, lUp_ne e⟩
  · have old : ∀ (u : Nat) (π : lLc) (z : Nat × Nat), V (f, u) π = some z → kRo y (E ++ (0, t2, m) :: S) u ∧ (u < 40 → rt (f, u) = vt (x f).1 u) := fun u π z hz => by
      obtain ⟨-, k1, k2⟩ := h5 f u π z hz
      refine ⟨?_, k2⟩
      rw [hS] at k1
      rcases k1 with ⟨a, b⟩ | ⟨a, b⟩ | ⟨a, r, m2, b⟩ | ⟨r, m2, i, a, b⟩
      · exact Or.inl ⟨a, (on_mem (t2 := t2) (m := m) he (show ((8, u, 0) : tE).1 = 8 ∨ ((8, u, 0) : tE).1 = 4 ∨ ((8, u, 0) : tE).1 = 5 ∨ ((8, u, 0) : tE).1 = 6 by show (8 : Nat) = 8 ∨ (8 : Nat) = 4 ∨ (8 : Nat) = 5 ∨ (8 : Nat) = 6; decide)).mp b⟩
      · exact Or.inr (Or.inl ⟨a, by rw [on_wl he]; exact b⟩)
      · exact Or.inr (Or.inr (Or.inl ⟨a, r, m2, b.imp (fun q => (on_mem (t2 := t2) (m := m) he (show ((5, r, m2) : tE).1 = 8 ∨ ((5, r, m2) : tE).1 = 4 ∨ ((5, r, m2) : tE).1 = 5 ∨ ((5, r, m2) : tE).1 = 6 by show (5 : Nat) = 8 ∨ (5 : Nat) = 4 ∨ (5 : Nat) = 5 ∨ (5 : Nat) = 6; decide)).mp q) (fun q => (on_mem (t2 := t2) (m := m) he (show ((6, r, m2) : tE).1 = 8 ∨ ((6, r, m2) : tE).1 = 4 ∨ ((6, r, m2) : tE).1 = 5 ∨ ((6, r, m2) : tE).1 = 6 by show (6 : Nat) = 8 ∨ (6 : Nat) = 4 ∨ (6 : Nat) = 5 ∨ (6 : Nat) = 6; decide)).mp q)⟩))
      · exact Or.inr (Or.inr (Or.inr ⟨r, m2, i, (on_mem (t2 := t2) (m := m) he (show ((4, r, m2) : tE).1 = 8 ∨ ((4, r, m2) : tE).1 = 4 ∨ ((4, r, m2) : tE).1 = 5 ∨ ((4, r, m2) : tE).1 = 6 by show (4 : Nat) = 8 ∨ (4 : Nat) = 4 ∨ (4 : Nat) = 5 ∨ (4 : Nat) = 6; decide)).mp a, b⟩))
    by_cases e : u = 40 + wl S
    · refine ⟨?_, fun q => by omega⟩
      show kRo y (E ++ (0, t2, m) :: S) u
      refine Or.inr (Or.inl ⟨by omega, ?_⟩)
      have e1 : wl (E ++ (0, t2, m) :: S) = wl E + (wl S + 1) := by rw [wl_app]; rfl
      rw [e1]; omega
    · rw [(rtn f u (nef u e)).2] at hz
      rw [(rtn f u (nef u e)).1]
      exact old u π z hz
  · have e : v ≠ 40 + wl S := by omega
    rw [(rtn f v (nef v e)).1, (rtn f v (nef v e)).2]
    exact h6 f hf v v4 (by rw [hS]; exact (on_mem (t2 := t2) (m := m) he (show ((8, v, 0) : tE).1 = 8 ∨ ((8, v, 0) : tE).1 = 4 ∨ ((8, v, 0) : tE).1 = 5 ∨ ((8, v, 0) : tE).1 = 6 by show (8 : Nat) = 8 ∨ (8 : Nat) = 4 ∨ (8 : Nat) = 5 ∨ (8 : Nat) = 6; decide)).mpr hvS)
  · have hm : (5, r, m2) ∈ (x f).2.1 := by rw [hS]; exact (on_mem (t2 := t2) (m := m) he (show ((5, r, m2) : tE).1 = 8 ∨ ((5, r, m2) : tE).1 = 4 ∨ ((5, r, m2) : tE).1 = 5 ∨ ((5, r, m2) : tE).1 = 6 by show (5 : Nat) = 8 ∨ (5 : Nat) = 4 ∨ (5 : Nat) = 5 ∨ (5 : Nat) = 6; decide)).mpr hm
    refine kPm_cg ((h7 f hf r m2).1 hm).2 (lUp_ne (by omega)) (fun u b hu hb => ⟨hA u hu, (ne u b hb).2⟩) (fun u b _ hb => (rtn f u (nef u (ne u b hb).1)).1) (fun l q => q) rfl (fun a0 π _ ha => ?_)
    have := rtn a0.1 a0.2 (fun q => by
      have : a0.2 = 40 + wl S := congrArg Prod.snd q
      omega)
    exact ⟨congrFun this.2 π, this.1⟩
  · have hm : (6, r, m2) ∈ (x f).2.1 := by rw [hS]; exact (on_mem (t2 := t2) (m := m) he (show ((6, r, m2) : tE).1 = 8 ∨ ((6, r, m2) : tE).1 = 4 ∨ ((6, r, m2) : tE).1 = 5 ∨ ((6, r, m2) : tE).1 = 6 by show (6 : Nat) = 8 ∨ (6 : Nat) = 4 ∨ (6 : Nat) = 5 ∨ (6 : Nat) = 6; decide)).mpr hm
    refine kPm_cg ((h7 f hf r m2).2 hm).2 (lUp_ne (by omega)) (fun u b hu hb => ⟨hA u hu, (ne u b hb).2⟩) (fun u b _ hb => (rtn f u (nef u (ne u b hb).1)).1) (fun l q => q) rfl (fun a0 π _ ha => ?_)
    have := rtn a0.1 a0.2 (fun q => by
      have : a0.2 = 40 + wl S := congrArg Prod.snd q
      omega)
    exact ⟨congrFun this.2 π, this.1⟩
  · show wl (E ++ (0, t2, m) :: S) ≤ 211
    rw [hwl]; exact h8 f hf
end
-- m3.v.lean.txt
section
/-- the running's state: the frames x, where their values begin -/
def kT (y : qY) (zn sz : Nat → Nat) (vt : Nat → Nat → Nat) (tb : Nat → lTb) (f : Nat) (x : Nat → kFm) (bs : Nat → Nat) (S : Sg) : Prop := ∃ (rt : Nat × Nat → Nat) (V : Nat × Nat → qV) (C L H : Nat × Nat → List Nat) (fl : List Nat) (t : Nat), kJ y vt tb f x rt V ∧ kN y zn sz (nMS S) (Zl S 72) (Zr S 74) f x rt V bs C L H ∧ kC C L H fl t (Zr S 67) ∧ FLs S fl t
section PS47
variable {y : qY} {vt : Nat → Nat → Nat} {tb : Nat → lTb} {zn sz rk : Nat → Nat} {M M2 : nM} {sk sk2 : Nat → Int64} {pl pl2 : Nat → Int32} {f : Nat} {x x2 : Nat → kFm} {rt : Nat × Nat → Nat} {V : Nat × Nat → qV} {bs : Nat → Nat} {C L H : Nat × Nat → List Nat} {S : Sg}
/-- the stack is told otherwise, as many values, the same variables -/
theorem kN.cx (h : kN y zn sz M sk pl f x rt V bs C L H) (hx : ∀ j : Nat, j ≤ f → wl (x2 j).2.1 = wl (x j).2.1 ∧ (∀ v : Nat, (8, v, 0) ∈ (x2 j).2.1 ↔ (8, v, 0) ∈ (x j).2.1) ∧ ∀ (u : Nat) (a : lLc), kA (x2 j) u → kR (x2 j) u = some a → kA (x j) u ∧ kR (x j) u = some a) : kN y zn sz M sk pl f x2 rt V bs C L H := by
  obtain ⟨h1, h2, ⟨h3, h4⟩, h5⟩ := h
  have hs : ∀ j u : Nat, j ≤ f → (kSc (x2 j).2.1 u ↔ kSc (x j).2.1 u) := fun j u hj => by
    obtain ⟨e1, e2, _⟩ := hx j hj
    unfold kSc
    rw [e1, e2 u]
  refine ⟨fun j u hj => ?_, h2, ⟨h3, fun j hj => ?_⟩, fun j u d π hj ha hc hr => ?_⟩
  · obtain ⟨e1, e2, _⟩ := hx j hj
    obtain ⟨q1, q2, q3⟩ := h1 j u hj
    exact ⟨fun a b => q1 a ((e2 u).mp b), fun a b => q2 a (by rw [e1] at b; exact b), fun a => q3 (fun b => a ((hs j u hj).mpr b))⟩
  · rw [(hx j (by omega)).1]; exact h4 j hj
  · obtain ⟨z1, z2⟩ := (hx j hj).2.2 u _ ha hr
    exact h5 j u d π hj z1 ((hs j u hj).mp hc) z2
theorem kJ_eq (h : kJ y vt tb f x rt V) {s2 : List tE} (hw : wl s2 = wl (x f).2.1) (hm : ∀ e : tE, (e.1 = 8 ∨ e.1 = 4 ∨ e.1 = 5 ∨ e.1 = 6) → (e ∈ s2 ↔ e ∈ (x f).2.1)) (hk : kK y rt V f (x f) s2) : kJ y vt tb f (kUx x f ((x f).1, s2, (x f).2.2.1, kR (x f), kH (x f), kal (x f), klo (x f), kAn (x f))) rt V := by
  have hw0 := h
  obtain ⟨h0, h1, h2, h3, h4, h5, h6, h7, h8⟩ := h
  have hf := Nat.le_refl f
  have hA : ∀ u : Nat, kA ((x f).1, s2, (x f).2.2.1, kR (x f), kH (x f), kal (x f), klo (x f), kAn (x f)) u → kA (x f) u := fun u hu => by
    rcases hu with z | ⟨z1, z2⟩
    · exact Or.inl z
    · have z2 : u < 40 + wl s2 + (x f).2.2.1 := z2
      rw [hw] at z2; exact Or.inr ⟨z1, z2⟩
  have m8 : ∀ v : Nat, (8, v, 0) ∈ s2 ↔ (8, v, 0) ∈ (x f).2.1 := fun v => hm (8, v, 0) (Or.inl rfl)
  have m4 : ∀ r m : Nat, (4, r, m) ∈ s2 ↔ (4, r, m) ∈ (x f).2.1 := fun r m => hm (4, r, m) (Or.inr (Or.inl rfl))
  have m5 : ∀ r m : Nat, (5, r, m) ∈ s2 ↔ (5, r, m) ∈ (x f).2.1 := fun r m => hm (5, r, m) (Or.inr (Or.inr (Or.inl rfl)))
  have m6 : ∀ r m : Nat, (6, r, m) ∈ s2 ↔ (6, r, m) ∈ (x f).2.1 := fun r m => hm (6, r, m) (Or.inr (Or.inr (Or.inr rfl)))
  refine kJ_top hw0 _ rfl rfl (fun j u _ => ⟨rfl, rfl⟩) (fun u => h0 (f, u)) (lIv_mono2 (h1.1 f hf) (fun u a hu ha => ⟨hA u hu, ha⟩) (fun u a l _ _ hl => hl) (fun u a _ _ => Iff.rfl)) (fun u a hu ha => h2 f hf u a (hA u hu) ha) (fun u t g hv hk2 hu => h3 f hf u t g hv hk2 (hA u hu)) (kK_cg hk (fun u _ => ⟨rfl, rfl, rfl⟩)) (fun u π z hz => ?_) (fun v v4 hvS => h6 f hf v v4 ((m8 v).mp hvS)) (fun r m => ⟨fun q => ?_, fun q => ?_⟩) (by show wl s2 ≤ 211; rw [hw]; exact h8 f hf)
  · obtain ⟨-, k1, k2⟩ := h5 f u π z hz
    refine ⟨?_, k2⟩
    rcases k1 with ⟨a, b⟩ | ⟨a, b⟩ | ⟨a, r, m2, b⟩ | ⟨r, m2, i, a, b⟩
    · exact Or.inl ⟨a, (m8 u).mpr b⟩
    · exact Or.inr (Or.inl ⟨a, by show u < 40 + wl s2; rw [hw]; exact b⟩)
    · exact Or.inr (Or.inr (Or.inl ⟨a, r, m2, b.imp (m5 r m2).mpr (m6 r m2).mpr⟩))
    · exact Or.inr (Or.inr (Or.inr ⟨r, m2, i, (m4 r m2).mpr a, b⟩))
  · exact kPm_cg ((h7 f hf r m).1 ((m5 r m).mp q)).2 rfl (fun u b hu hb => ⟨hA u hu, hb⟩) (fun _ _ _ _ => rfl) (fun _ q => q) rfl (fun _ _ _ _ => ⟨rfl, rfl⟩)
  · exact kPm_cg ((h7 f hf r m).2 ((m6 r m).mp q)).2 rfl (fun u b hu hb => ⟨hA u hu, hb⟩) (fun _ _ _ _ => rfl) (fun _ q => q) rfl (fun _ _ _ _ => ⟨rfl, rfl⟩)
theorem wl_8m {v : Nat} : ∀ {e r : List tE}, wl (e ++ (8, v, 0) :: r) = wl (e ++ r)
  | [], r => wl_0 (Or.inl rfl)
  | a :: e, r => by
    show wl (e ++ (8, v, 0) :: r) + _ = wl (e ++ r) + _
    rw [wl_8m]
theorem kK_mv {j v : Nat} {xx : kFm} {r : List tE} : ∀ {e : List tE}, kK y rt V j xx (e ++ (8, v, 0) :: r) → kK y rt V j xx (e ++ r)
  | [], h => h.2
  | a :: e, h => by
    refine ⟨?_, kK_mv h.2⟩
    have h1 : kE y rt V j xx (wl (e ++ (8, v, 0) :: r)) a := h.1
    rw [wl_8m] at h1; exact h1
/-- a variable's mark goes to the front -/
theorem kJ_mv8 (h : kJ y vt tb f x rt V) {e r : List tE} {v : Nat} (hS : (x f).2.1 = e ++ (8, v, 0) :: r) : kJ y vt tb f (kUx x f ((x f).1, (8, v, 0) :: (e ++ r), (x f).2.2.1, kR (x f), kH (x f), kal (x f), klo (x f), kAn (x f))) rt V := by
  refine kJ_eq h (by rw [hS, wl_8m]; exact wl_0 (Or.inl rfl)) (fun a _ => ?_) ⟨trivial, ?_⟩
  · rw [hS, List.mem_cons, List.mem_append, List.mem_append, List.mem_cons]
    constructor
    · rintro (z | z | z)
      · exact Or.inr (Or.inl z)
      · exact Or.inl z
      · exact Or.inr (Or.inr z)
    · rintro (z | z | z)
      · exact Or.inr (Or.inl z)
      · exact Or.inl z
      · exact Or.inr (Or.inr z)
  · have := h.2.2.2.2.1 f (Nat.le_refl _)
    rw [hS] at this
    exact kK_mv this
theorem kUx_top {X : kFm} : kUx x f X f = X := if_pos rfl
theorem kUx_lo {X : kFm} {j : Nat} (h : j ≠ f) : kUx x f X j = x j := if_neg h
/-- frames but the latest are the same -/
theorem cxU {X : kFm} (h1 : wl X.2.1 = wl (x f).2.1) (h2 : ∀ v : Nat, (8, v, 0) ∈ X.2.1 ↔ (8, v, 0) ∈ (x f).2.1) (h3 : ∀ (u : Nat) (a : lLc), kA X u → kR X u = some a → kA (x f) u ∧ kR (x f) u = some a) : ∀ j : Nat, j ≤ f → wl (kUx x f X j).2.1 = wl (x j).2.1 ∧ (∀ v : Nat, (8, v, 0) ∈ (kUx x f X j).2.1 ↔ (8, v, 0) ∈ (x j).2.1) ∧ ∀ (u : Nat) (a : lLc), kA (kUx x f X j) u → kR (kUx x f X j) u = some a → kA (x j) u ∧ kR (x j) u = some a := fun j _ => by
  by_cases e : j = f
  · subst e; rw [kUx_top]; exact ⟨h1, h2, h3⟩
  · rw [kUx_lo e]; exact ⟨rfl, fun _ => Iff.rfl, fun _ _ a b => ⟨a, b⟩⟩
theorem kT.mv8 (h : kT y zn sz vt tb f x bs S) {e r : List tE} {v : Nat} (hS : (x f).2.1 = e ++ (8, v, 0) :: r) : kT y zn sz vt tb f (kUx x f ((x f).1, (8, v, 0) :: (e ++ r), (x f).2.2.1, kR (x f), kH (x f), kal (x f), klo (x f), kAn (x f))) bs S := by
  obtain ⟨rt, V, C, L, H, fl, t, hJ, hN, hC, hF⟩ := h
  have hw : wl ((8, v, 0) :: (e ++ r)) = wl (x f).2.1 := by rw [hS, wl_8m]; exact wl_0 (Or.inl rfl)
  refine ⟨rt, V, C, L, H, fl, t, kJ_mv8 hJ hS, hN.cx (cxU hw (fun w => ?_) (fun u a hu ha => ⟨?_, ha⟩)), hC, hF⟩
  · rw [hS]
    show (8, w, 0) ∈ (8, v, 0) :: (e ++ r) ↔ _
    rw [List.mem_cons, List.mem_append, List.mem_append, List.mem_cons]
    constructor
    · rintro (z | z | z)
      · exact Or.inr (Or.inl z)
      · exact Or.inl z
      · exact Or.inr (Or.inr z)
    · rintro (z | z | z)
      · exact Or.inr (Or.inl z)
      · exact Or.inl z
      · exact Or.inr (Or.inr z)
  · rcases hu with z | ⟨z1, z2⟩
    · exact Or.inl z
    · have z2 : u < 40 + wl ((8, v, 0) :: (e ++ r)) + (x f).2.2.1 := z2
      rw [hw] at z2; exact Or.inr ⟨z1, z2⟩
/-- less is used, more may be held, more may lack a value -/
theorem kT.wk (h : kT y zn sz vt tb f x bs S) {H2 : Nat → Nat → Prop} {al2 : Nat → Prop} {lo2 : Nat → lLc → Prop} (hn : (x f).2.2.1 = 0) (hH : ∀ (u : Nat) (a : lLc) (l : Nat), lv2 (x f).2.1 al2 u → kR (x f) u = some a → kH (x f) u l → H2 u l) (hal : ∀ u : Nat, al2 u → kal (x f) u) (hlo : ∀ (v : Nat) (π : lLc), v < 40 → (8, v, 0) ∈ (x f).2.1 → klo (x f) v π → lo2 v π) : kT y zn sz vt tb f (kUx x f ((x f).1, (x f).2.1, 0, kR (x f), H2, al2, lo2, kAn (x f))) bs S := by
  obtain ⟨rt, V, C, L, H, fl, t, hJ, hN, hC, hF⟩ := h
  refine ⟨rt, V, C, L, H, fl, t, kJ_wk2 hJ hn hH hal hlo, hN.cx (cxU rfl (fun _ => Iff.rfl) (fun u a hu ha => ⟨?_, ha⟩)), hC, hF⟩
  rcases hu with ⟨z1, z2⟩ | ⟨z1, z2⟩
  · exact Or.inl ⟨z1, hal u z2⟩
  · have z2 : u < 40 + wl (x f).2.1 + 0 := z2
    exact Or.inr ⟨z1, by omega⟩
end PS47
end
