theorem zF_le {F X : tF} {yt t : Nat} : (zF F X yt).1 t ≤ 16 := by
  show (if t < yt then max 1 (min 16 (cN (F 22 t))) else 1) ≤ 16
  split <;> omega
theorem yF_k4 {F X : tF} {yp yt t : Nat} (h : (yF F X yp yt).1 t = 4) : 34 ≤ t ∧ t < yt ∧ F 20 t = 4 := by
  have h : (if 10000 ≤ t ∧ t < 30000 then 5 + t % 2 else if 4 ≤ t ∧ t < 4 + yp then (if F 20 t = 3 then 3 else if cN (X 1 ((t - 4) * 12)) = 0 then 0 else 2) else if 34 ≤ t ∧ t < yt ∧ F 20 t = 4 then 4 else 0) = 4 := h
  by_cases c1 : 10000 ≤ t ∧ t < 30000
  · rw [if_pos c1] at h; omega
  · rw [if_neg c1] at h
    by_cases c2 : 4 ≤ t ∧ t < 4 + yp
    · rw [if_pos c2] at h
      by_cases c3 : F 20 t = 3
      · rw [if_pos c3] at h; omega
      · rw [if_neg c3] at h
        by_cases c4 : cN (X 1 ((t - 4) * 12)) = 0
        · rw [if_pos c4] at h; omega
        · rw [if_neg c4] at h; omega
    · rw [if_neg c2] at h
      by_cases c3 : 34 ≤ t ∧ t < yt ∧ F 20 t = 4
      · exact c3
      · rw [if_neg c3] at h; omega
theorem zF_1 {F X : tF} {yp yt t : Nat} (h : tbO F X yp yt) (hk : (yF F X yp yt).1 t = 4 ∨ (yF F X yp yt).1 t = 5 ∨ (yF F X yp yt).1 t = 6) : (zF F X yt).1 t = 1 := by
  have h30 : yt ≤ 3040 := h.1.2.1
  rcases hk with hk | hk
  · obtain ⟨k1, k2, k3⟩ := yF_k4 hk
    have q : F 22 t = 1 := (h.1.2.2.2.2.2.2.2.1 t k1 k2).2.1
    show (if t < yt then max 1 (min 16 (cN (F 22 t))) else 1) = 1
    rw [if_pos k2, q]; rfl
  · have := yF_56.mp hk
    show (if t < yt then max 1 (min 16 (cN (F 22 t))) else 1) = 1
    rw [if_neg (by omega)]
/-- kinds 0: numbers, truths, nothing, tokens -/
theorem yF_p {F X : tF} {yp yt t : Nat} (h : t < 4) : (yF F X yp yt).1 t = 0 := by
  show (if 10000 ≤ t ∧ t < 30000 then 5 + t % 2 else if 4 ≤ t ∧ t < 4 + yp then (if F 20 t = 3 then 3 else if cN (X 1 ((t - 4) * 12)) = 0 then 0 else 2) else if 34 ≤ t ∧ t < yt ∧ F 20 t = 4 then 4 else 0) = 0
  rw [if_neg (by omega), if_neg (by omega), if_neg (by omega)]
theorem nI_cN {x : Int32} (h : 1 ≤ cN x) : x = nI (cN x) := by
  apply Int32.toInt_inj.mp
  have e : (x.toNatClampNeg : Int) = max x.toInt 0 := by
    show ((x.toInt.toNat : Nat) : Int) = _
    exact Int.toNat_eq_max _
  have h1 : 1 ≤ x.toNatClampNeg := h
  have h2 := Int32.toInt_lt x
  have h3 : (cN x : Int) = x.toInt := by show (x.toNatClampNeg : Int) = _; omega
  have h4 : cN x < 2 ^ 31 := by omega
  have e5 := cN_nI h4
  have e6 : ((nI (cN x)).toNatClampNeg : Int) = max (nI (cN x)).toInt 0 := by
    show (((nI (cN x)).toInt.toNat : Nat) : Int) = _
    exact Int.toNat_eq_max _
  have e7 : (nI (cN x)).toNatClampNeg = cN x := e5
  rw [e7] at e6
  omega
theorem stO_ms {ds : List Nat} : qMs (ds.map stO) := fun x hx => by
  obtain ⟨d, -, rfl⟩ := List.mem_map.mp hx
  unfold stO
  by_cases c : d = 13
  · rw [if_pos c]; exact Or.inr rfl
  · rw [if_neg c]; exact Or.inl rfl
/-- a place, as the running looks at it -/
theorem pl_abs {F X : tF} {yp yt p v n T T0 : Nat} {pa ro mu : Int32} (h : tbO F X yp yt) (hv : F 15 v = nI T0) (hT0 : tyV yp yt (F 20) T0) (hp : plI F X p v n T pa ro mu) : ∃ (ds os : List Nat) (o : Nat), pW ds os o n pa ro ∧ wyF F p = ds.map stO ∧ ((plW (yF F X yp yt) (zF F X yt) (ymF F T0) T (ds.map stO) os o ∧ tyN yp (F 20) T ∧ T < yt ∧ o + (zF F X yt).1 T ≤ 16 ∧ F 12 p = pCells ro (nI ((zF F X yt).1 T)) ∧ ((F 20 T0 = 5 ∨ F 20 T0 = 6) → mu ≠ 0 → F 20 T0 = 6)) ∨ (ds = [] ∧ os = [] ∧ o = 0 ∧ T = T0 ∧ (F 20 T0 = 5 ∨ F 20 T0 = 6) ∧ F 12 p = pCells ro (nI ((zF F X yt).1 (ymF F T0))))) := by
  have h30 : yt ≤ 3040 := h.1.2.1
  obtain ⟨ds, os, o, g1, g2, g3⟩ := pG_of h hv hT0 hp
  have e12 : F 12 p = pCells ro (F 22 T) := hp.2.2.2.2.2.2.2.2.2.1
  have sz : ∀ u : Nat, tyV yp yt (F 20) u → F 22 u = nI ((zF F X yt).1 (ymF F u)) := fun u hu => by
    obtain ⟨s1, s2, s3⟩ := ty_sz h hu
    rw [s1]; exact nI_cN s2
  have szN : ∀ u : Nat, tyN yp (F 20) u → u < yt → F 22 u = nI ((zF F X yt).1 u) := fun u hu hy => by
    have := sz u ⟨Or.inl hu, hy⟩
    rw [ymF_n h hu] at this
    exact this
  have rt : ∀ (U : Nat) (d : List Nat) (s : List Nat), pD F X yp yt U (d.map stO) T s o → s = (rtU (yF F X yp yt) (zF F X yt) U 0 (d.map stO)).1 ∧ o = (rtU (yF F X yp yt) (zF F X yt) U 0 (d.map stO)).2 := fun U d s hD => rA_inj (fun c a => (hD.2.1 c a).symm.trans (rtF_A (o := 0)))
  refine ⟨ds, os, o, g2, pG_wy g1, ?_⟩
  rcases g3 with ⟨a1, a2, a3, a4, a5, a6, a7⟩ | ⟨a1, a2⟩ | ⟨a1, a2, a3, a4, U, ds2, os2, a5, a6, a7, a8, a9⟩
  · right
    refine ⟨a1, a2, a3, a4, a7, ?_⟩
    rw [e12, a4]
    rw [sz T0 ⟨Or.inr ⟨a5, a7⟩, a6⟩]
  · left
    have n56 := tyN_nr h a1
    obtain ⟨r1, r2⟩ := rt T0 ds os a2
    refine ⟨Or.inl ?_, a2.2.2.2.2.1, a2.2.2.2.2.2, a2.2.2.2.1, by rw [e12, szN T a2.2.2.2.2.1 a2.2.2.2.2.2], fun q => absurd q (by rintro (z | z); exact n56.1 z; exact n56.2 z)⟩
    rw [ymF_n h a1]
    have k56 : ¬ ((yF F X yp yt).1 T0 = 5 ∨ (yF F X yp yt).1 T0 = 6) := fun q => by
      have := yF_56.mp q
      have := hT0.2
      omega
    exact ⟨fun q => k56 (Or.inl q), fun q => k56 (Or.inr q), a2.1, stO_ms, r1, r2⟩
  · left
    subst a7; subst a8
    obtain ⟨r1, r2⟩ := rt U ds2 os2 a9
    refine ⟨Or.inr ?_, a9.2.2.2.2.1, a9.2.2.2.2.2, a9.2.2.2.1, by rw [e12, szN T a9.2.2.2.2.1 a9.2.2.2.2.2], fun _ hm => a4 hm⟩
    have ey : (ymF F T0 = 10000 + 2 * U ∧ F 20 T0 = 5) ∨ (ymF F T0 = 10001 + 2 * U ∧ F 20 T0 = 6) := by
      unfold ymF
      rcases a3 with z | z
      · rw [if_pos z, a5, cN_nI (by omega)]; exact Or.inl ⟨rfl, z⟩
      · rw [if_neg (by rw [z]; decide), if_pos z, a5, cN_nI (by omega)]; exact Or.inr ⟨rfl, z⟩
    have e2 : (yF F X yp yt).2.1 (ymF F T0) = U := by
      show (if 10000 ≤ ymF F T0 then (ymF F T0 - 10000) / 2 else cN (F 21 (ymF F T0))) = U
      rcases ey with ⟨z, -⟩ | ⟨z, -⟩ <;> (rw [z, if_pos (by omega)]; omega)
    have e1 : (yF F X yp yt).1 (ymF F T0) = 5 ∨ (yF F X yp yt).1 (ymF F T0) = 6 := yF_56.mpr (by rcases ey with ⟨z, -⟩ | ⟨z, -⟩ <;> omega)
    refine ⟨e1, ds2.map stO, rfl, ?_, stO_ms, ?_, ?_⟩
    · rw [e2]; exact a9.1
    · rw [e2, ← r1]
    · rw [e2, ← r2]
