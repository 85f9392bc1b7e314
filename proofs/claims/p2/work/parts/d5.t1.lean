/-- the table of types out of the class's rows: yp shapes, yt types; references to T are 10000 + 2 * T, 10001 + 2 * T -/
def yF (F X : tF) (yp yt : Nat) : qY :=
  (fun t => if 10000 ≤ t ∧ t < 30000 then 5 + t % 2 else if 4 ≤ t ∧ t < 4 + yp then (if F 20 t = 3 then 3 else if cN (X 1 ((t - 4) * 12)) = 0 then 0 else 2) else if 34 ≤ t ∧ t < yt ∧ F 20 t = 4 then 4 else 0,
   fun t => if 10000 ≤ t then (t - 10000) / 2 else cN (F 21 t),
   fun t => cN (X 0 (t - 4)),
   fun t g => cN (X 1 ((t - 4) * 12 + g)),
   fun t g j => cN (X 2 (((t - 4) * 12 + g) * 12 + j)))
def zF (F X : tF) (yt : Nat) : qZ := (fun t => if t < yt then max 1 (min 16 (cN (F 22 t))) else 1, fun t g j => cN (X 3 (((t - 4) * 12 + g) * 12 + j)))
theorem lyP_1 {hd r : Nat} {fs fpt : Nat → Int32} (h : hd ≤ 17) : ∀ k : Nat, lyP hd r fs fpt k ≤ 17 ∧ lyP hd r fs fpt k ≤ lyP hd r fs fpt (k + 1)
  | 0 => by
    show hd ≤ 17 ∧ hd ≤ min (hd + szP fs fpt (r * 12 + 0)) 17
    omega
  | k + 1 => by
    have q := lyP_1 (r := r) (fs := fs) (fpt := fpt) h k
    refine ⟨by show min _ 17 ≤ 17; omega, ?_⟩
    show lyP hd r fs fpt (k + 1) ≤ min (lyP hd r fs fpt (k + 1) + szP fs fpt (r * 12 + (k + 1))) 17
    have : lyP hd r fs fpt (k + 1) ≤ 17 := by show min _ 17 ≤ 17; omega
    omega
theorem lyP_m {hd r : Nat} {fs fpt : Nat → Int32} (h : hd ≤ 17) {k : Nat} : ∀ d : Nat, lyP hd r fs fpt k ≤ lyP hd r fs fpt (k + d)
  | 0 => Nat.le_refl _
  | d + 1 => Nat.le_trans (lyP_m h d) (lyP_1 h (k + d)).2
theorem lyP_S {hd r k : Nat} {fs fpt : Nat → Int32} (h : lyP hd r fs fpt (k + 1) ≤ 16) : lyP hd r fs fpt (k + 1) = lyP hd r fs fpt k + szP fs fpt (r * 12 + k) := by
  have e : lyP hd r fs fpt (k + 1) = min (lyP hd r fs fpt k + szP fs fpt (r * 12 + k)) 17 := rfl
  omega
/-- a row of parts lies as it should -/
theorem yz_row {F X : tF} {yp yt sh g : Nat} (hty : tyOK yp (yt, F 20, F 21, F 22, F 23, F 24, F 25, F 26)) (hsq : shQ yp yt (F 20) X) (hsz : szI yp yp (F 22)) (hms : msI yp (F 20) (X 0) (X 1) (F 22) (X 2) (X 3)) (hsh : sh < yp) (hg : g < cN (X 0 sh)) : (∀ j : Nat, j < cN (X 1 (sh * 12 + g)) → cN (X 2 ((sh * 12 + g) * 12 + j)) < yt ∧ (if F 20 (4 + sh) = 3 then 1 else 0) ≤ cN (X 3 ((sh * 12 + g) * 12 + j)) ∧ cN (X 3 ((sh * 12 + g) * 12 + j)) + (zF F X yt).1 (cN (X 2 ((sh * 12 + g) * 12 + j))) ≤ (zF F X yt).1 (4 + sh)) ∧ ∀ i j : Nat, i < j → j < cN (X 1 (sh * 12 + g)) → cN (X 3 ((sh * 12 + g) * 12 + i)) + (zF F X yt).1 (cN (X 2 ((sh * 12 + g) * 12 + i))) ≤ cN (X 3 ((sh * 12 + g) * 12 + j)) := by
  obtain ⟨z, z1, z2, z3⟩ := hsz sh hsh
  have h34 : 34 ≤ yt := hty.1
  have hyp : yp ≤ 30 := hty.2.2.1
  have hzz : (zF F X yt).1 (4 + sh) = z := by
    show (if 4 + sh < yt then max 1 (min 16 (cN (F 22 (4 + sh)))) else 1) = z
    rw [if_pos (by omega), z1, cN_nI (by omega)]; omega
  rw [hzz]
  obtain ⟨mo, m1, m2, m3⟩ := (hms sh hsh).resolve_left (fun e => by
    rw [z1] at e
    have : z = 0 := (nI_eq (a := z) (b := 0) (by omega) (by decide)).mp e
    omega)
  obtain rfl : mo = z := (nI_eq (a := mo) (b := z) (by omega) (by omega)).mp (m2.symm.trans z1)
  obtain ⟨n, n1, n2, n3, n4, n5⟩ := hsq sh hsh
  have hcn : cN (X 0 sh) = n := by rw [n1, cN_nI (by omega)]
  rw [hcn] at hg
  obtain ⟨pm, p1, p2, p3⟩ := n5 g hg
  have hpm : cN (X 1 (sh * 12 + g)) = pm := by rw [p1, cN_nI (by omega)]
  rw [hpm]
  have hhd : (if F 20 (4 + sh) = 3 then 1 else 0) ≤ 17 := by split <;> omega
  obtain ⟨q1, q2⟩ := m3 g (show g < pcR (X 0) sh from by show g < cN (X 0 sh); rw [hcn]; exact hg)
  rw [show pcR (X 1) (sh * 12 + g) = pm from hpm] at q1 q2
  have key : ∀ j : Nat, j < pm → cN (X 2 ((sh * 12 + g) * 12 + j)) < yt ∧ cN (X 3 ((sh * 12 + g) * 12 + j)) = lyP (if F 20 (4 + sh) = 3 then 1 else 0) (sh * 12 + g) (F 22) (X 2) j ∧ lyP (if F 20 (4 + sh) = 3 then 1 else 0) (sh * 12 + g) (F 22) (X 2) j + (zF F X yt).1 (cN (X 2 ((sh * 12 + g) * 12 + j))) = lyP (if F 20 (4 + sh) = 3 then 1 else 0) (sh * 12 + g) (F 22) (X 2) (j + 1) := fun j hj => by
    obtain ⟨u, u1, u2, u3⟩ := p3 j hj
    obtain ⟨w1, w2⟩ := q2 j hj
    have hu : cN (X 2 ((sh * 12 + g) * 12 + j)) = u := by rw [u1, cN_nI (by have := hty.2.1; omega)]
    have hle : lyP (if F 20 (4 + sh) = 3 then 1 else 0) (sh * 12 + g) (F 22) (X 2) (j + 1) ≤ 16 := by
      have := lyP_m (r := sh * 12 + g) (fs := F 22) (fpt := X 2) hhd (k := j + 1) (pm - (j + 1))
      rw [show j + 1 + (pm - (j + 1)) = pm by omega] at this
      omega
    have hl0 : lyP (if F 20 (4 + sh) = 3 then 1 else 0) (sh * 12 + g) (F 22) (X 2) j ≤ 17 := (lyP_1 hhd j).1
    refine ⟨by omega, by rw [w1, cN_nI (by omega)], ?_⟩
    have hs16 := lyP_S hle
    rw [lyP_S hle]
    have e1 : szP (F 22) (X 2) ((sh * 12 + g) * 12 + j) = cN (F 22 (cN (X 2 ((sh * 12 + g) * 12 + j)))) := rfl
    have e2 : (zF F X yt).1 (cN (X 2 ((sh * 12 + g) * 12 + j))) = szP (F 22) (X 2) ((sh * 12 + g) * 12 + j) := by
      rw [e1]
      rw [e1] at w2 hs16
      show (if cN (X 2 ((sh * 12 + g) * 12 + j)) < yt then max 1 (min 16 (cN (F 22 (cN (X 2 ((sh * 12 + g) * 12 + j)))))) else 1) = _
      rw [if_pos (by omega)]; omega
    rw [e2]
  refine ⟨fun j hj => ?_, fun i j hij hj => ?_⟩
  · obtain ⟨k1, k2, k3⟩ := key j hj
    refine ⟨k1, ?_, ?_⟩
    · rw [k2]
      have := lyP_m (r := sh * 12 + g) (fs := F 22) (fpt := X 2) hhd (k := 0) j
      rw [Nat.zero_add] at this
      exact this
    · rw [k2, k3]
      have := lyP_m (r := sh * 12 + g) (fs := F 22) (fpt := X 2) hhd (k := j + 1) (pm - (j + 1))
      rw [show j + 1 + (pm - (j + 1)) = pm by omega] at this
      omega
  · obtain ⟨k1, k2, k3⟩ := key i (by omega)
    obtain ⟨l1, l2, l3⟩ := key j hj
    rw [k2, k3, l2]
    have := lyP_m (r := sh * 12 + g) (fs := F 22) (fpt := X 2) hhd (k := i + 1) (j - (i + 1))
    rw [show i + 1 + (j - (i + 1)) = j by omega] at this
    exact this
theorem yF_2 {F X : tF} {yp yt t : Nat} (h : (yF F X yp yt).1 t = 2) : 4 ≤ t ∧ t < 4 + yp ∧ F 20 t ≠ 3 ∧ cN (X 1 ((t - 4) * 12)) ≠ 0 := by
  have h : (if 10000 ≤ t ∧ t < 30000 then 5 + t % 2 else if 4 ≤ t ∧ t < 4 + yp then (if F 20 t = 3 then 3 else if cN (X 1 ((t - 4) * 12)) = 0 then 0 else 2) else if 34 ≤ t ∧ t < yt ∧ F 20 t = 4 then 4 else 0) = 2 := h
  by_cases c : 10000 ≤ t ∧ t < 30000
  · rw [if_pos c] at h; omega
  · rw [if_neg c] at h
    by_cases c2 : 4 ≤ t ∧ t < 4 + yp
    · rw [if_pos c2] at h
      by_cases c3 : F 20 t = 3
      · rw [if_pos c3] at h; omega
      · rw [if_neg c3] at h
        by_cases c4 : cN (X 1 ((t - 4) * 12)) = 0
        · rw [if_pos c4] at h; omega
        · exact ⟨c2.1, c2.2, c3, c4⟩
    · rw [if_neg c2] at h
      split at h <;> omega
theorem yF_3 {F X : tF} {yp yt t : Nat} (h : (yF F X yp yt).1 t = 3) : 4 ≤ t ∧ t < 4 + yp ∧ F 20 t = 3 := by
  have h : (if 10000 ≤ t ∧ t < 30000 then 5 + t % 2 else if 4 ≤ t ∧ t < 4 + yp then (if F 20 t = 3 then 3 else if cN (X 1 ((t - 4) * 12)) = 0 then 0 else 2) else if 34 ≤ t ∧ t < yt ∧ F 20 t = 4 then 4 else 0) = 3 := h
  by_cases c : 10000 ≤ t ∧ t < 30000
  · rw [if_pos c] at h; omega
  · rw [if_neg c] at h
    by_cases c2 : 4 ≤ t ∧ t < 4 + yp
    · rw [if_pos c2] at h
      by_cases c3 : F 20 t = 3
      · exact ⟨c2.1, c2.2, c3⟩
      · rw [if_neg c3] at h
        split at h <;> omega
    · rw [if_neg c2] at h
      split at h <;> omega
theorem yF_56 {F X : tF} {yp yt t : Nat} : ((yF F X yp yt).1 t = 5 ∨ (yF F X yp yt).1 t = 6) ↔ 10000 ≤ t ∧ t < 30000 := by
  show ((if 10000 ≤ t ∧ t < 30000 then 5 + t % 2 else if 4 ≤ t ∧ t < 4 + yp then (if F 20 t = 3 then 3 else if cN (X 1 ((t - 4) * 12)) = 0 then 0 else 2) else if 34 ≤ t ∧ t < yt ∧ F 20 t = 4 then 4 else 0) = 5 ∨ (if 10000 ≤ t ∧ t < 30000 then 5 + t % 2 else if 4 ≤ t ∧ t < 4 + yp then (if F 20 t = 3 then 3 else if cN (X 1 ((t - 4) * 12)) = 0 then 0 else 2) else if 34 ≤ t ∧ t < yt ∧ F 20 t = 4 then 4 else 0) = 6) ↔ _
  by_cases c : 10000 ≤ t ∧ t < 30000
  · rw [if_pos c]; omega
  · rw [if_neg c]
    refine ⟨fun h => absurd h ?_, fun h => absurd h c⟩
    split
    · split
      · omega
      · split <;> omega
    · split <;> omega
/-- the tables keep what is asked of them -/
theorem yz_ok {F X : tF} {yp yt : Nat} (hty : tyOK yp (yt, F 20, F 21, F 22, F 23, F 24, F 25, F 26)) (hsq : shQ yp yt (F 20) X) (hsz : szI yp yp (F 22)) (hms : msI yp (F 20) (X 0) (X 1) (F 22) (X 2) (X 3)) : qLy (yF F X yp yt) (zF F X yt) ∧ qZ1 (zF F X yt) ∧ qCr (yF F X yp yt) ∧ qRf (yF F X yp yt) := by
  have h34 : 34 ≤ yt := hty.1
  have h30 : yt ≤ 3040 := hty.2.1
  have hrow := fun (sh g : Nat) => yz_row (sh := sh) (g := g) hty hsq hsz hms
  refine ⟨⟨fun t => ?_, fun t j h2 hj => ?_, fun t i j h2 hij hj => ?_, fun t g j h3 hg hj => ?_, fun t g i j h3 hg hij hj => ?_⟩, ⟨?_, fun T => ⟨?_, ?_⟩⟩, fun T hT => ⟨?_, ?_, ?_, ?_⟩, fun t h => ?_⟩
  · show 1 ≤ if t < yt then max 1 (min 16 (cN (F 22 t))) else 1
    split <;> omega
  · obtain ⟨a1, a2, a3, a4⟩ := yF_2 h2
    obtain ⟨n, n1, n2, n3, n4, n5⟩ := hsq (t - 4) (by omega)
    have q := ((hrow (t - 4) 0 (by omega) (by rw [n1, cN_nI (by omega)]; omega)).1 j hj).2.2
    rw [show 4 + (t - 4) = t by omega] at q
    exact q
  · obtain ⟨a1, a2, a3, a4⟩ := yF_2 h2
    obtain ⟨n, n1, n2, n3, n4, n5⟩ := hsq (t - 4) (by omega)
    exact (hrow (t - 4) 0 (by omega) (by rw [n1, cN_nI (by omega)]; omega)).2 i j hij hj
  · obtain ⟨a1, a2, a3⟩ := yF_3 h3
    have q := ((hrow (t - 4) g (by omega) hg).1 j hj).2
    rw [show 4 + (t - 4) = t by omega, if_pos a3] at q
    exact q
  · obtain ⟨a1, a2, a3⟩ := yF_3 h3
    exact (hrow (t - 4) g (by omega) hg).2 i j hij hj
  · show (if 1 < yt then max 1 (min 16 (cN (F 22 1))) else 1) = 1
    rw [if_pos (by omega), hty.2.2.2.2.1.2.1]; rfl
  · show (if 10000 + 2 * T < yt then max 1 (min 16 (cN (F 22 (10000 + 2 * T)))) else 1) = 1
    rw [if_neg (by omega)]
  · show (if 10001 + 2 * T < yt then max 1 (min 16 (cN (F 22 (10001 + 2 * T)))) else 1) = 1
    rw [if_neg (by omega)]
  · show (if 10000 ≤ 10000 + 2 * T ∧ 10000 + 2 * T < 30000 then 5 + (10000 + 2 * T) % 2 else _) = 5
    rw [if_pos (by omega)]; omega
  · show (if 10000 ≤ 10000 + 2 * T then (10000 + 2 * T - 10000) / 2 else _) = T
    rw [if_pos (by omega)]; omega
  · show (if 10000 ≤ 10001 + 2 * T ∧ 10001 + 2 * T < 30000 then 5 + (10001 + 2 * T) % 2 else _) = 6
    rw [if_pos (by omega)]; omega
  · show (if 10000 ≤ 10001 + 2 * T then (10001 + 2 * T - 10000) / 2 else _) = T
    rw [if_pos (by omega)]; omega
  · have h1 := yF_56.mp h
    have h2 : (yF F X yp yt).2.1 t = (t - 10000) / 2 := if_pos h1.1
    rw [h2]
    have h3 : ¬ ((yF F X yp yt).1 ((t - 10000) / 2) = 5 ∨ (yF F X yp yt).1 ((t - 10000) / 2) = 6) := fun q => by
      have := yF_56.mp q
      omega
    exact ⟨fun q => h3 (Or.inl q), fun q => h3 (Or.inr q)⟩
