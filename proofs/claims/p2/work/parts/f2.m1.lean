-- f2.m1.lean.txt
section
theorem ibit_shl (p : Int32) {i : Nat} (h : i < 16) : ibit (p <<< ((16 : Int32) &&& 31)) i = false := by
  unfold ibit
  rw [show ((16 : Int32) &&& 31) = (nI 16 &&& 31) from rfl, Int32.toBitVec_shiftLeft, BitVec.shiftLeft_eq', sh5 16 (by decide), BitVec.getLsbD_shiftLeft, decide_eq_true h, Bool.not_true, Bool.and_false, Bool.false_and]
/-- a way may be without a value -/
def LcF (y : qY) (z : qZ) (T0 : Nat) (x : Int32) (π : lLc) : Prop := T0 = 0 ∨ ((∃ T : Nat, qM π ∧ qW y T0 π T) → loF y z T0 x π)
theorem LcF_up {y : qY} {z : qZ} {T0 : Nat} {x x2 : Int32} {π : lLc} (h : iS x x2) (hl : LcF y z T0 x π) : LcF y z T0 x2 π := hl.imp id (fun q g => loF_up h (q g))
section
variable {y : qY} {z : qZ} {T0 T o n v : Nat} {ρ σ : lLc} {os ds : List Nat} {pa ro x x2 : Int32} {lo : Nat → lLc → Prop}
theorem rtF_M : ∀ {ρ : lLc} {T o t : Nat}, qM ρ → qW y T ρ t → (rtU y z T o ρ).1 = [] ∧ (rtU y z T o ρ).2 = o + qA y z (fun _ => 0) T 0 ρ
  | [], T, o, t, _, _ => ⟨rfl, rfl⟩
  | (q, j) :: ρ, T, o, t, h, hw => by
    obtain ⟨h1, h2⟩ := qM_cons.mp h
    obtain rfl : q = 0 := h1
    obtain ⟨g1, g2⟩ := rtF_M (ρ := ρ) (o := o + z.2 T 0 j) h2 hw.2.2
    have e := qA_sh (z := z) (c := fun _ => 0) (c2 := fun _ => 0) (a := 0 + z.2 T 0 j) (b := 0) hw.2.2 (qN_M h2)
    refine ⟨g1, ?_⟩
    show (rtU y z (y.2.2.2.2 T 0 j) (o + z.2 T 0 j) ρ).2 = o + qA y z (fun _ => 0) (y.2.2.2.2 T 0 j) (0 + z.2 T 0 j) ρ
    rw [g2]; omega
theorem rtF_st : ∀ {ρ ρ1 : lLc} {T o t j : Nat}, qM ρ → qW y T ρ t → ∃ l : List Nat, (rtU y z T o (ρ ++ (1, j) :: ρ1)).1 = (o + qA y z (fun _ => 0) T 0 ρ) :: l
  | [], ρ1, T, o, t, j, _, _ => ⟨_, rfl⟩
  | (q, i) :: ρ, ρ1, T, o, t, j, h, hw => by
    obtain ⟨h1, h2⟩ := qM_cons.mp h
    obtain rfl : q = 0 := h1
    obtain ⟨l, g⟩ := rtF_st (ρ := ρ) (ρ1 := ρ1) (o := o + z.2 T 0 i) (j := j) h2 hw.2.2
    have e := qA_sh (z := z) (c := fun _ => 0) (c2 := fun _ => 0) (a := 0 + z.2 T 0 i) (b := 0) hw.2.2 (qN_M h2)
    refine ⟨l, ?_⟩
    show (rtU y z (y.2.2.2.2 T 0 i) (o + z.2 T 0 i) (ρ ++ (1, j) :: ρ1)).1 = (o + qA y z (fun _ => 0) (y.2.2.2.2 T 0 i) (0 + z.2 T 0 i) ρ) :: l
    rw [g]
    congr 1; omega
theorem cut0 {c : Nat} {cl : Int32} (hx : x &&& cl = 0) (hb : ibit x c = true) : ibit cl c = false := by
  have := ibit_and x cl c
  rw [hx, ibit_0, hb, Bool.true_and] at this
  exact this.symm
/-- what a use of a place finds -/
theorem fu_of (hz : qLy y z) (hz4 : ∀ t : Nat, y.1 t = 4 ∨ y.1 t = 5 ∨ y.1 t = 6 → z.1 t = 1) (hT0 : T0 ≠ 0) (hw : plW y z T0 T ρ os o) (hpw : pW ds os o n pa ro) (hn4 : n ≤ 4) (hsz : o + z.1 T ≤ 16) (hx : x &&& pCells ro (nI (z.1 T)) = 0) (hlo : ∀ π : lLc, lo v π → LcF y z T0 x π) : fuL y lo v ρ T := by
  have bt := fun (c : Nat) (hc : c < 32) => pc_bit hpw hn4 hsz (c := c) hc
  refine ⟨fun hm τ t g1 g2 hl => ?_, fun ρ0 j ρ1 e hm hl => ?_⟩
  · rcases hlo _ hl with q | q
    · exact hT0 q
    · rcases hw with ⟨-, -, w1, -, e1, e2⟩ | ⟨-, ρ2, rfl, -⟩
      · obtain ⟨f1, f2⟩ := rtF_M (z := z) (o := 0) hm w1
        have wt := qW_app w1 g2
        have mt : qM (ρ ++ τ) := qM_app.mpr ⟨hm, g1⟩
        obtain ⟨c, c16, ⟨T2, w2, i1, i2⟩, hb⟩ := q ⟨t, mt, wt⟩
        obtain rfl := qW_det wt w2
        have i3 := qA_in (c := fun _ => 0) (a := qA y z (fun _ => 0) T0 0 ρ) hz g2 (qN_M g1)
        rw [qA_app w1] at i1 i2
        have hb2 := cut0 hx hb
        rw [bt c (by omega), if_pos (e1.trans f1)] at hb2
        rw [e2, f2] at hb2
        rw [decide_eq_true (by omega), decide_eq_true (by omega)] at hb2
        exact absurd hb2 (by decide)
      · have := (qM_cons.mp hm).1
        exact absurd this (by show ¬ ((1 : Nat) = 0); decide)
  · rcases hlo _ hl with q | q
    · exact hT0 q
    · rcases hw with ⟨-, -, w1, -, e1, e2⟩ | ⟨h56, ρ2, e0, w1, -, e1, -⟩
      · subst e
        obtain ⟨B, v1, v2⟩ := qW_cut w1
        obtain ⟨l, f1⟩ := rtF_st (z := z) (ρ1 := ρ1) (o := 0) (j := j) hm v1
        obtain ⟨c, c16, ⟨T2, w2, i1, i2⟩, hb⟩ := q ⟨B, hm, v1⟩
        obtain rfl := qW_det v1 w2
        rw [hz4 B (Or.inl v2.2.1)] at i2
        have hb2 := cut0 hx hb
        rw [bt c (by omega), if_neg (by rw [e1, f1]; simp), e1, f1] at hb2
        have hb2 : decide (c = 0 + qA y z (fun _ => 0) T0 0 ρ0) = false := hb2
        rw [decide_eq_true (by omega)] at hb2
        exact absurd hb2 (by decide)
      · rw [e0] at e
        have er : ρ0 = [] := by
          cases ρ0 with
          | nil => rfl
          | cons a ρ0 =>
            have e : (1, 0) :: ρ2 = a :: (ρ0 ++ (1, j) :: ρ1) := e
            injection e with e _
            have := (qM_cons.mp hm).1
            rw [← e] at this
            exact absurd this (by show ¬ ((1 : Nat) = 0); decide)
        subst er
        obtain ⟨c, c16, ⟨T2, w2, i1, i2⟩, hb⟩ := q ⟨T0, qM_nil, rfl⟩
        obtain rfl : T2 = T0 := w2
        rw [hz4 T2 (Or.inr h56)] at i2
        have i2 : c < 0 + 1 := i2
        have hb2 := cut0 hx hb
        rw [bt c (by omega), if_neg (by rw [e1]; simp), e1] at hb2
        have hb2 : decide (c = 0) = false := hb2
        rw [decide_eq_true (by omega)] at hb2
        exact absurd hb2 (by decide)
/-- a whole variable is used -/
theorem fu_ref (hz1 : z.1 T0 = 1) (hT0 : T0 ≠ 0) (hpw : pW ds [] 0 n pa ro) (hn4 : n ≤ 4) (hx : x &&& pCells ro (nI (z.1 T0)) = 0) : ¬ LcF y z T0 x [] := fun q => by
  rcases q with q | q
  · exact hT0 q
  · obtain ⟨c, c16, ⟨T2, w2, i1, i2⟩, hb⟩ := q ⟨T0, qM_nil, rfl⟩
    obtain rfl : T2 = T0 := w2
    have i2 : c < 0 + z.1 T2 := i2
    have hb2 := cut0 hx hb
    rw [pc_bit hpw hn4 (by omega) (by omega), if_pos rfl, decide_eq_true (by omega), decide_eq_true (by omega)] at hb2
    exact absurd hb2 (by decide)
theorem inW_16 (hz : qLy y z) (hz16 : z.1 T0 ≤ 16) {π : lLc} {c : Nat} (hm : qM π) (h : inW y z T0 π c) : c < 16 := by
  obtain ⟨T2, w2, i1, i2⟩ := h
  have := qA_in (c := fun _ => 0) (a := 0) hz w2 (qN_M hm)
  omega
/-- ways that share a cell: one lies on the other's way -/
theorem inW_to (hz : qLy y z) : ∀ {π σ : lLc} {T0 A B c : Nat}, qM π → qM σ → qW y T0 π A → qW y T0 σ B → (∃ a : Nat, a ≤ c ∧ qA y z (fun _ => 0) T0 a π ≤ c ∧ c < qA y z (fun _ => 0) T0 a π + z.1 A ∧ qA y z (fun _ => 0) T0 a σ ≤ c ∧ c < qA y z (fun _ => 0) T0 a σ + z.1 B) → lCmp π σ
  | [], σ, _, _, _, _, _, _, _, _, _ => Or.inl ⟨σ, rfl⟩
  | s :: π, [], _, _, _, _, _, _, _, _, _ => Or.inr ⟨s :: π, rfl⟩
  | (q1, i) :: π, (q2, j) :: σ, T0, A, B, c, h1, h2, w1, w2, h => by
    obtain ⟨a, h0, i1, i2, i3, i4⟩ := h
    obtain ⟨m1, m2⟩ := qM_cons.mp h1
    obtain ⟨m3, m4⟩ := qM_cons.mp h2
    obtain rfl : q1 = 0 := m1
    obtain rfl : q2 = 0 := m3
    have p1 := qA_in (c := fun _ => 0) (a := a + z.2 T0 0 i) hz w1.2.2 (qN_M m2)
    have p2 := qA_in (c := fun _ => 0) (a := a + z.2 T0 0 j) hz w2.2.2 (qN_M m4)
    have i1 : qA y z (fun _ => 0) (y.2.2.2.2 T0 0 i) (a + z.2 T0 0 i) π ≤ c := i1
    have i2 : c < qA y z (fun _ => 0) (y.2.2.2.2 T0 0 i) (a + z.2 T0 0 i) π + z.1 A := i2
    have i3 : qA y z (fun _ => 0) (y.2.2.2.2 T0 0 j) (a + z.2 T0 0 j) σ ≤ c := i3
    have i4 : c < qA y z (fun _ => 0) (y.2.2.2.2 T0 0 j) (a + z.2 T0 0 j) σ + z.1 B := i4
    by_cases e : i = j
    · subst e
      exact (inW_to hz m2 m4 w1.2.2 w2.2.2 ⟨a + z.2 T0 0 i, by omega, i1, i2, i3, i4⟩).imp lP_consI lP_consI
    · exfalso
      rcases Nat.lt_or_gt_of_ne e with q | q
      · have := hz.2.2.1 T0 i j w1.1 q w2.2.1
        omega
      · have := hz.2.2.1 T0 j i w1.1 q w1.2.1
        omega
/-- a place is moved out of -/
theorem mv_lo (hz : qLy y z) (hz16 : z.1 T0 ≤ 16) {B : Nat} (hm : qM σ) (hσ : qW y T0 σ B) (h1 : ∀ c : Nat, c < 16 → ibit x c = true → ibit x2 c = true) (h2 : ∀ c : Nat, c < 16 → inW y z T0 σ c → ibit x2 c = true) {π : lLc} (hn : ¬ LcF y z T0 x2 π) : ¬ LcF y z T0 x π ∧ ¬ lCmp π σ := by
  have hT0 : T0 ≠ 0 := fun q => hn (Or.inl q)
  have hv : ∃ T : Nat, qM π ∧ qW y T0 π T := Classical.byContradiction (fun q => hn (Or.inr (fun g => absurd g q)))
  have hl : ¬ loF y z T0 x2 π := fun q => hn (Or.inr (fun _ => q))
  obtain ⟨T, v1, v2⟩ := hv
  constructor
  · rintro (q | q)
    · exact hT0 q
    · obtain ⟨c, c1, c2, c3⟩ := q ⟨T, v1, v2⟩
      exact hl ⟨c, c1, c2, h1 c c1 c3⟩
  · intro q
    obtain ⟨c, c1, c2⟩ := inW_cmp hz v2 hσ (qN_M v1) (qN_M hm) q
    have c16 := inW_16 hz hz16 v1 c1
    exact hl ⟨c, c16, c1, h2 c c16 c2⟩
/-- a place gets a value -/
theorem as_lo (hz : qLy y z) {B : Nat} (hm : qM ρ) (hρ : qW y T0 ρ B) (h1 : ∀ c : Nat, c < 16 → ibit x c = true → ibit x2 c = true ∨ inW y z T0 ρ c) {π : lLc} (hl : LcF y z T0 x π) : LcF y z T0 x2 π ∨ lCmp π ρ := by
  rcases hl with q | q
  · exact Or.inl (Or.inl q)
  · by_cases hv : ∃ T : Nat, qM π ∧ qW y T0 π T
    · obtain ⟨c, c1, ⟨A, c2, i1, i2⟩, c3⟩ := q hv
      rcases h1 c c1 c3 with g | ⟨B2, g1, g2, g3⟩
      · exact Or.inl (Or.inr (fun _ => ⟨c, c1, ⟨A, c2, i1, i2⟩, g⟩))
      · obtain ⟨T, v1, v2⟩ := hv
        exact Or.inr (inW_to hz v1 hm c2 g1 ⟨0, by omega, i1, i2, g2, g3⟩)
    · exact Or.inl (Or.inr (fun g => absurd g hv))
/-- nothing of it has a value -/
theorem no_lo (hz : qLy y z) (hz16 : z.1 T0 ≤ 16) (h : T0 = 0 ∨ ∀ c : Nat, c < z.1 T0 → ibit x c = true) (π : lLc) : LcF y z T0 x π := by
  rcases h with q | q
  · exact Or.inl q
  · refine Or.inr (fun g => ?_)
    obtain ⟨T, g1, g2⟩ := g
    have i1 := qA_in (c := fun _ => 0) (a := 0) hz g2 (qN_M g1)
    have i2 := hz.1 T
    exact ⟨qA y z (fun _ => 0) T0 0 π, by omega, ⟨T, g2, Nat.le_refl _, by omega⟩, q _ (by omega)⟩
end
end
-- f2.m2.lean.txt
section
theorem zF_le {F X : tF} {yt t : Nat} : (zF F X yt).1 t ≤ 16 := by
  show (if t < yt then max 1 (min 16 (cN (F 22 t))) else 1) ≤ 16
  split <;> omega
theorem yF_k4 {F X : tF} {yp yt t : Nat} (h : (yF F X yp yt).1 t = 4) : 34 ≤ t ∧ t < yt ∧ F 20 t = 4 := by
  have h : (if 10000 ≤ t ∧ t < 30000 then 5 + t % 2 else if 4 ≤ t ∧ t < 4 + yp then (if F 20 t = 3 then 3 else if cN (X 1 ((t - 4) * 12)) = 0 then 0 else 2) else if 34 ≤ t ∧ t < yt ∧ F 20 t = 4 then 4 else 0) = 4 := h
  by_cases c1 : 10000 ≤ t ∧ t < 30000
  · rw [if_pos c1] at h; omega
  · rw [if_neg c1] at h
    by_cases c2 : 4 ≤ t ∧ t < 4 + yp
    · rw [if_pos c2] at h
      by_cases c3 : F 20 t = 3
      · rw [if_pos c3] at h; omega
      · rw [if_neg c3] at h
        by_cases c4 : cN (X 1 ((t - 4) * 12)) = 0
        · rw [if_pos c4] at h; omega
        · rw [if_neg c4] at h; omega
    · rw [if_neg c2] at h
      by_cases c3 : 34 ≤ t ∧ t < yt ∧ F 20 t = 4
      · exact c3
      · rw [if_neg c3] at h; omega
theorem zF_1 {F X : tF} {yp yt t : Nat} (h : tbO F X yp yt) (hk : (yF F X yp yt).1 t = 4 ∨ (yF F X yp yt).1 t = 5 ∨ (yF F X yp yt).1 t = 6) : (zF F X yt).1 t = 1 := by
  have h30 : yt ≤ 3040 := h.1.2.1
  rcases hk with hk | hk
  · obtain ⟨k1, k2, k3⟩ := yF_k4 hk
    have q : F 22 t = 1 := (h.1.2.2.2.2.2.2.2.1 t k1 k2).2.1
    show (if t < yt then max 1 (min 16 (cN (F 22 t))) else 1) = 1
    rw [if_pos k2, q]; rfl
  · have := yF_56.mp hk
    show (if t < yt then max 1 (min 16 (cN (F 22 t))) else 1) = 1
    rw [if_neg (by omega)]
/-- kinds 0: numbers, truths, nothing, tokens -/
theorem yF_p {F X : tF} {yp yt t : Nat} (h : t < 4) : (yF F X yp yt).1 t = 0 := by
  show (if 10000 ≤ t ∧ t < 30000 then 5 + t % 2 else if 4 ≤ t ∧ t < 4 + yp then (if F 20 t = 3 then 3 else if cN (X 1 ((t - 4) * 12)) = 0 then 0 else 2) else if 34 ≤ t ∧ t < yt ∧ F 20 t = 4 then 4 else 0) = 0
  rw [if_neg (by omega), if_neg (by omega), if_neg (by omega)]
theorem nI_cN {x : Int32} (h : 1 ≤ cN x) : x = nI (cN x) := by
  apply Int32.toInt_inj.mp
  have e : (x.toNatClampNeg : Int) = max x.toInt 0 := by
    show ((x.toInt.toNat : Nat) : Int) = _
    exact Int.toNat_eq_max _
  have h1 : 1 ≤ x.toNatClampNeg := h
  have h2 := Int32.toInt_lt x
  have h3 : (cN x : Int) = x.toInt := by show (x.toNatClampNeg : Int) = _; omega
  have h4 : cN x < 2 ^ 31 := by omega
  have e5 := cN_nI h4
  have e6 : ((nI (cN x)).toNatClampNeg : Int) = max (nI (cN x)).toInt 0 := by
    show (((nI (cN x)).toInt.toNat : Nat) : Int) = _
    exact Int.toNat_eq_max _
  have e7 : (nI (cN x)).toNatClampNeg = cN x := e5
  rw [e7] at e6
  omega
theorem stO_ms {ds : List Nat} : qMs (ds.map stO) := fun x hx => by
  obtain ⟨d, -, rfl⟩ := List.mem_map.mp hx
  unfold stO
  by_cases c : d = 13
  · rw [if_pos c]; exact Or.inr rfl
  · rw [if_neg c]; exact Or.inl rfl
/-- a place, as the running looks at it -/
theorem pl_abs {F X : tF} {yp yt p v n T T0 : Nat} {pa ro mu : Int32} (h : tbO F X yp yt) (hv : F 15 v = nI T0) (hT0 : tyV yp yt (F 20) T0) (hp : plI F X p v n T pa ro mu) : ∃ (ds os : List Nat) (o : Nat), pW ds os o n pa ro ∧ wyF F p = ds.map stO ∧ ((plW (yF F X yp yt) (zF F X yt) (ymF F T0) T (ds.map stO) os o ∧ tyN yp (F 20) T ∧ T < yt ∧ o + (zF F X yt).1 T ≤ 16 ∧ F 12 p = pCells ro (nI ((zF F X yt).1 T)) ∧ ((F 20 T0 = 5 ∨ F 20 T0 = 6) → mu ≠ 0 → F 20 T0 = 6)) ∨ (ds = [] ∧ os = [] ∧ o = 0 ∧ T = T0 ∧ (F 20 T0 = 5 ∨ F 20 T0 = 6) ∧ F 12 p = pCells ro (nI ((zF F X yt).1 (ymF F T0))))) := by
  have h30 : yt ≤ 3040 := h.1.2.1
  obtain ⟨ds, os, o, g1, g2, g3⟩ := pG_of h hv hT0 hp
  have e12 : F 12 p = pCells ro (F 22 T) := hp.2.2.2.2.2.2.2.2.2.1
  have sz : ∀ u : Nat, tyV yp yt (F 20) u → F 22 u = nI ((zF F X yt).1 (ymF F u)) := fun u hu => by
    obtain ⟨s1, s2, s3⟩ := ty_sz h hu
    rw [s1]; exact nI_cN s2
  have szN : ∀ u : Nat, tyN yp (F 20) u → u < yt → F 22 u = nI ((zF F X yt).1 u) := fun u hu hy => by
    have := sz u ⟨Or.inl hu, hy⟩
    rw [ymF_n h hu] at this
    exact this
  have rt : ∀ (U : Nat) (d : List Nat) (s : List Nat), pD F X yp yt U (d.map stO) T s o → s = (rtU (yF F X yp yt) (zF F X yt) U 0 (d.map stO)).1 ∧ o = (rtU (yF F X yp yt) (zF F X yt) U 0 (d.map stO)).2 := fun U d s hD => rA_inj (fun c a => (hD.2.1 c a).symm.trans (rtF_A (o := 0)))
  refine ⟨ds, os, o, g2, pG_wy g1, ?_⟩
  rcases g3 with ⟨a1, a2, a3, a4, a5, a6, a7⟩ | ⟨a1, a2⟩ | ⟨a1, a2, a3, a4, U, ds2, os2, a5, a6, a7, a8, a9⟩
  · right
    refine ⟨a1, a2, a3, a4, a7, ?_⟩
    rw [e12, a4]
    rw [sz T0 ⟨Or.inr ⟨a5, a7⟩, a6⟩]
  · left
    have n56 := tyN_nr h a1
    obtain ⟨r1, r2⟩ := rt T0 ds os a2
    refine ⟨Or.inl ?_, a2.2.2.2.2.1, a2.2.2.2.2.2, a2.2.2.2.1, by rw [e12, szN T a2.2.2.2.2.1 a2.2.2.2.2.2], fun q => absurd q (by rintro (z | z); exact n56.1 z; exact n56.2 z)⟩
    rw [ymF_n h a1]
    have k56 : ¬ ((yF F X yp yt).1 T0 = 5 ∨ (yF F X yp yt).1 T0 = 6) := fun q => by
      have := yF_56.mp q
      have := hT0.2
      omega
    exact ⟨fun q => k56 (Or.inl q), fun q => k56 (Or.inr q), a2.1, stO_ms, r1, r2⟩
  · left
    subst a7; subst a8
    obtain ⟨r1, r2⟩ := rt U ds2 os2 a9
    refine ⟨Or.inr ?_, a9.2.2.2.2.1, a9.2.2.2.2.2, a9.2.2.2.1, by rw [e12, szN T a9.2.2.2.2.1 a9.2.2.2.2.2], fun _ hm => a4 hm⟩
    have ey : (ymF F T0 = 10000 + 2 * U ∧ F 20 T0 = 5) ∨ (ymF F T0 = 10001 + 2 * U ∧ F 20 T0 = 6) := by
      unfold ymF
      rcases a3 with z | z
      · rw [if_pos z, a5, cN_nI (by omega)]; exact Or.inl ⟨rfl, z⟩
      · rw [if_neg (by rw [z]; decide), if_pos z, a5, cN_nI (by omega)]; exact Or.inr ⟨rfl, z⟩
    have e2 : (yF F X yp yt).2.1 (ymF F T0) = U := by
      show (if 10000 ≤ ymF F T0 then (ymF F T0 - 10000) / 2 else cN (F 21 (ymF F T0))) = U
      rcases ey with ⟨z, -⟩ | ⟨z, -⟩ <;> (rw [z, if_pos (by omega)]; omega)
    have e1 : (yF F X yp yt).1 (ymF F T0) = 5 ∨ (yF F X yp yt).1 (ymF F T0) = 6 := yF_56.mpr (by rcases ey with ⟨z, -⟩ | ⟨z, -⟩ <;> omega)
    refine ⟨e1, ds2.map stO, rfl, ?_, stO_ms, ?_, ?_⟩
    · rw [e2]; exact a9.1
    · rw [e2, ← r1]
    · rw [e2, ← r2]
end
-- f2.m3.lean.txt
section
def mkp (L : Nat → Nat → lLc → Prop) (n i j : Nat) (E : Nat → Prop) : Prop := ∀ (v : Nat) (π : lLc), v < n → ¬ E v → L i v π → L j v π
def LMt (F : tF) (y : qY) (z : qZ) (vg : Nat → Nat) (h : Nat → mvT) (i v : Nat) (π : lLc) : Prop := LcF y z (vg v) (cS F (fun j => mvp (h j)) i v) π
/-- what Moves promises of an instruction -/
def mRu (F : tF) (y : qY) (z : qZ) (vg : Nat → Nat) (n : Nat) (k : Nat → Option (List tE)) (a b : Nat) (L : Nat → Nat → lLc → Prop) (Rc : Nat → Prop) (i o : Nat) : Prop :=
  ((o ≠ 15 ∧ o ≠ 16 ∧ o ≠ 20 ∧ o ≠ 22) → Rc (i + 1)) ∧
  ((o ≠ 15 ∧ o ≠ 16 ∧ o ≠ 20 ∧ o ≠ 22 ∧ o ≠ 3 ∧ o ≠ 24 ∧ o ≠ 25 ∧ o ≠ 26 ∧ o ≠ 29 ∧ o ≠ 30) → mkp L n i (i + 1) (fun _ => False)) ∧
  ((o = 2 ∨ o = 3 ∨ o = 4) → ∀ p v : Nat, F 1 i = nI p → p < 3001 → F 6 p = nI v → v < 40 → ∃ x : Int32, (∀ π : lLc, L i v π → LcF y z (vg v) x π) ∧ x &&& F 12 p = 0) ∧
  (o = 3 → ∀ p v : Nat, F 1 i = nI p → p < 3001 → F 6 p = nI v → v < n → mkp L n i (i + 1) (fun u => u = v) ∧ ∃ x x2 : Int32, (∀ π : lLc, L i v π → LcF y z (vg v) x π) ∧ (∀ π : lLc, LcF y z (vg v) x2 π → L (i + 1) v π) ∧ (∀ c : Nat, c < 16 → ibit x c = true → ibit x2 c = true) ∧ ∀ c : Nat, c < 16 → ibit (F 12 p) c = true → ibit x2 c = true) ∧
  ((o = 24 ∨ o = 25 ∨ o = 29 ∨ o = 30) → ∀ v : Nat, F 1 i = nI v → v < 40 → mkp L n i (i + 1) (fun u => u = v)) ∧
  (o = 25 → ∀ v : Nat, F 1 i = nI v → v < n → ∀ π : lLc, L (i + 1) v π) ∧
  (o = 26 → ∀ p v : Nat, F 1 i = nI p → p < 3001 → F 6 p = nI v → v < n → ((0 : Int32) < F 9 p &&& 15 → mkp L n i (i + 1) (fun _ => False) ∧ ∃ x : Int32, (∀ π : lLc, L i v π → LcF y z (vg v) x π) ∧ x &&& F 12 p = 0) ∧ (¬ (0 : Int32) < F 9 p &&& 15 → mkp L n i (i + 1) (fun u => u = v) ∧ ∃ x x2 : Int32, (∀ π : lLc, L i v π → LcF y z (vg v) x π) ∧ (∀ π : lLc, LcF y z (vg v) x2 π → L (i + 1) v π) ∧ ∀ c : Nat, c < 16 → ibit x c = true → ibit x2 c = true ∨ ibit (F 12 p) c = true)) ∧
  ((o = 16 ∨ o = 17 ∨ o = 18 ∨ o = 19) → ∀ j : Nat, i < j → j < b → F 0 j = 13 → F 1 j = F 1 i → Rc j ∧ mkp L n i j (fun _ => False)) ∧
  (o = 15 → ∀ j : Nat, a ≤ j → j ≤ i → F 0 j = 14 → F 1 j = F 1 i → Rc j ∧ mkp L n i j (fun _ => False)) ∧
  (o = 20 → ∀ j tc c g : Nat, F 1 i = nI tc → tc ≤ 3002 → F 3 i = nI c → c ≤ 12 → g < c → F 13 (tc + g) = F 1 j → i < j → j < b → F 0 j = 13 → Rc j ∧ mkp L n i j (fun _ => False))
theorem fuI_bit {az : Nat → Int32} {u m c : Nat} (h : az u = nI m) (hm : m ≤ 16) (hc : c < m) : ibit (fuI az u) c = true := by
  unfold fuI
  rw [h, show (1 : Int32) = nI 1 from rfl, nI_shl (by omega), Nat.one_mul]
  have p : 1 ≤ 2 ^ m := Nat.one_le_two_pow
  have e : nI (2 ^ m) - nI 1 = nI (2 ^ m - 1) := by
    obtain ⟨q, hq⟩ : ∃ q : Nat, 2 ^ m = q + 1 := ⟨2 ^ m - 1, by omega⟩
    rw [hq, Nat.add_sub_cancel, ← nI_add q 1]
    exact Int32.add_sub_cancel _ _
  rw [e, ibit_nI (by omega), Nat.testBit_two_pow_sub_one, decide_eq_true hc]
theorem ibit_m {x c1 : Int32} {c : Nat} (hc : c < 16) : ibit ((x ||| c1) &&& ((c1 <<< ((16 : Int32) &&& 31)) ^^^ -1)) c = (ibit x c || ibit c1 c) := by
  rw [ibit_and, ibit_or, ibit_not _ _ (by omega), ibit_shl c1 hc, Bool.not_false, Bool.and_true]
theorem ibit_as {x c1 : Int32} {c : Nat} (hc : c < 16) : ibit (asS x c1) c = (ibit x c && !ibit c1 c) := by
  unfold asS
  rw [ibit_or, ibit_and, ibit_not _ _ (by omega), ibit_shl c1 hc, Bool.or_false]
section
variable {F X : tF} {G : Nat → Nat → Nat} {rs a b n : Nat} {k : Nat → Option (List tE)} {et em az : Nat → Int32} {h : Nat → mvT} {i o : Nat} {s : List tE} {y : qY} {z : qZ} {vg : Nat → Nat}
theorem mR_tr (w : mvW F X G rs a b k n et em az h) (hkb : k b = none) (hz : qLy y z) (hz16 : ∀ t : Nat, z.1 t ≤ 16) (hvg : ∀ v : Nat, v < n → vg v = 0 ∨ (et v ≠ -1 ∧ az (cN (et v)) = nI (z.1 (vg v)))) (hi : a ≤ i) (hb : i < b) (hA : cA F (fun j => mvp (h j)) i) (hs : k i = some s) (ho : F 0 i = nI o) (h33 : o < 33) : mRu F y z vg n k a b (LMt F y z vg h) (fun j => a ≤ j ∧ j < b ∧ cA F (fun j => mvp (h j)) j) i o := by
  have hce := ce_op w.ce hi hb hs ho h33
  have n40 := w.n40
  have nxt : (o ≠ 15 ∧ o ≠ 16 ∧ o ≠ 20 ∧ o ≠ 22) → i + 1 < b ∧ cA F (fun j => mvp (h j)) (i + 1) ∧ ∀ v : Nat, v < n → iS ((h (i + 1)).1 v) (cS F (fun j => mvp (h j)) (i + 1) v) := fun hn => by
    have b1 : i + 1 < b := by
      cases e9 : k (i + 1) with
      | some r =>
        rcases Nat.lt_or_ge (i + 1) b with q | q
        · exact q
        · rw [show i + 1 = b by omega, hkb] at e9; simp at e9
      | none =>
        exfalso
        rcases iOp_nx e9 o hce with q | q | q | q
        · exact hn.1 q
        · exact hn.2.1 q
        · exact hn.2.2.1 q
        · exact hn.2.2.2 q
    obtain ⟨f1, f2⟩ := c_fall (le := iS) (h := fun j => mvp (h j)) iS_rf (mvW_p w) (ce_lb w.ce) hi b1 hA (fun _ => ⟨o, h33, ho, hn⟩)
    exact ⟨b1, f1, f2⟩
  have dat : (o ≠ 13 ∧ o ≠ 14) → mvLk F n et em az i (h i) (h (i + 1)) o ∧ mvO F i (h i).1 o ∧ cS F (fun j => mvp (h j)) i = (h i).1 ∧ ¬ isL (F 0 i) := fun q => by
    have hl := isL_o ho h33 q
    obtain ⟨m1, m2⟩ := mvW_O w hi hb hl hA ho h33
    exact ⟨m1, m2, cS_n (h := fun j => mvp (h j)) hl, hl⟩
  have up : ∀ (v : Nat) (x : Int32) (π : lLc), v < n → (o ≠ 15 ∧ o ≠ 16 ∧ o ≠ 20 ∧ o ≠ 22) → (h (i + 1)).1 v = x → LcF y z (vg v) x π → LMt F y z vg h (i + 1) v π := fun v x π hv hn ex hl => by
    obtain ⟨-, -, f2⟩ := nxt hn
    refine LcF_up (f2 v hv) ?_
    rw [ex]; exact hl
  have kp : (o ≠ 15 ∧ o ≠ 16 ∧ o ≠ 20 ∧ o ≠ 22) → (o ≠ 13 ∧ o ≠ 14) → ∀ E : Nat → Prop, (∀ v : Nat, v < n → ¬ E v → (h (i + 1)).1 v = (h i).1 v) → mkp (LMt F y z vg h) n i (i + 1) E := fun hn h1 E hE v π hv hne hl => by
    obtain ⟨-, -, d3, -⟩ := dat h1
    refine up v _ π hv hn (hE v hv hne) ?_
    unfold LMt at hl
    rw [d3] at hl
    exact hl
  have hus : ∀ p v : Nat, F 1 i = nI p → p < 3001 → F 6 p = nI v → v < 40 → (o = 2 ∨ o = 3 ∨ o = 4 ∨ (o = 26 ∧ (0 : Int32) < F 9 p &&& 15)) → ∃ x : Int32, (∀ π : lLc, LMt F y z vg h i v π → LcF y z (vg v) x π) ∧ x &&& F 12 p = 0 := fun p v h1 hp h6 hv ho9 => by
    obtain ⟨-, d2, d3, -⟩ := dat (by omega)
    refine ⟨(h i).1 v, fun π hl => ?_, d2 p v h1 hp h6 hv ho9⟩
    unfold LMt at hl
    rw [d3] at hl
    exact hl
  refine ⟨fun hn => ?_, fun hn => ?_, fun q p v h1 hp h6 hv => hus p v h1 hp h6 hv (by omega), ?_, fun q v h1 hv => ?_, ?_, ?_, fun q j hij hjb h13 hjL => ?_, ?_, ?_⟩
  · obtain ⟨q1, q2, -⟩ := nxt hn
    exact ⟨by omega, q1, q2⟩
  · by_cases hl : o = 13 ∨ o = 14
    · intro v π hv _ hl9
      have hil : isL (F 0 i) := by
        rw [ho]; rcases hl with rfl | rfl
        · exact Or.inl rfl
        · exact Or.inr rfl
      unfold LMt at hl9
      rw [cS_l (h := fun j => mvp (h j)) hil] at hl9
      exact up v _ π hv (by omega) rfl hl9
    · refine kp (by omega) (by omega) _ (fun v hv _ => ?_)
      obtain ⟨d1, -⟩ := dat (by omega)
      by_cases c2 : o = 2
      · subst c2
        obtain ⟨p, v9, -, -, -, e⟩ := d1
        rw [e]; rfl
      · by_cases c4 : o = 4
        · subst c4
          obtain ⟨p, v9, -, -, -, e⟩ := d1
          rw [e]; rfl
        · by_cases c17 : o = 17 ∨ o = 18 ∨ o = 19
          · rcases c17 with rfl | rfl | rfl
            · obtain ⟨L, rv, -, -, e⟩ := d1
              rw [e.1]
            · obtain ⟨L, rv, -, -, e⟩ := d1
              rw [e.1]
            · obtain ⟨L, rv, -, -, e⟩ := d1
              rw [e.1]
          · have e : h (i + 1) = h i := by
              rcases (show o = 0 ∨ o = 1 ∨ o = 5 ∨ o = 6 ∨ o = 7 ∨ o = 8 ∨ o = 9 ∨ o = 10 ∨ o = 11 ∨ o = 12 ∨ o = 21 ∨ o = 23 ∨ o = 27 ∨ o = 28 ∨ o = 31 ∨ o = 32 by omega) with rfl | rfl | rfl | rfl | rfl | rfl | rfl | rfl | rfl | rfl | rfl | rfl | rfl | rfl | rfl | rfl <;> exact d1
            rw [e]
  · rintro rfl p v h1 hp h6 hv
    obtain ⟨d1, d2, d3, -⟩ := dat (by decide)
    obtain ⟨p9, v9, ⟨g1, g2⟩, g3, g4, e⟩ := d1
    obtain rfl : p = p9 := (nI_eq (by omega) (by omega)).mp (h1.symm.trans g1)
    obtain rfl : v = v9 := (nI_eq (by omega) (by omega)).mp (h6.symm.trans g3)
    refine ⟨kp (by decide) (by decide) _ (fun u hu hne => by rw [e]; exact pk_un hne), (h i).1 v, ((h i).1 v ||| F 12 p) &&& ((F 12 p <<< ((16 : Int32) &&& 31)) ^^^ -1), fun π hl => ?_, fun π hl => ?_, fun c hc hb9 => ?_, fun c hc hb9 => ?_⟩
    · unfold LMt at hl
      rw [d3] at hl
      exact hl
    · refine up v _ π hv (by decide) ?_ hl
      rw [e]; exact pk_us
    · rw [ibit_m hc, hb9]; rfl
    · rw [ibit_m hc, hb9, Bool.or_true]
  · refine kp (by omega) (by omega) _ (fun u hu hne => ?_)
    obtain ⟨d1, -⟩ := dat (by omega)
    rcases q with rfl | rfl | rfl | rfl
    · obtain ⟨v9, g1, g2, e⟩ := d1
      obtain rfl : v = v9 := (nI_eq (by omega) (by omega)).mp (h1.symm.trans g1)
      rw [e]; exact pk_un hne
    · obtain ⟨v9, g1, g2, e⟩ := d1
      obtain rfl : v = v9 := (nI_eq (by omega) (by omega)).mp (h1.symm.trans g1)
      rw [e]; exact pk_un hne
    · obtain ⟨v9, g1, g2, e⟩ := d1
      obtain rfl : v = v9 := (nI_eq (by omega) (by omega)).mp (h1.symm.trans g1)
      rw [e]; exact pk_un hne
    · obtain ⟨v9, g1, g2, e⟩ := d1
      obtain rfl : v = v9 := (nI_eq (by omega) (by omega)).mp (h1.symm.trans g1)
      rw [e]; exact pk_un hne
  · rintro rfl v h1 hv π
    obtain ⟨d1, -⟩ := dat (by decide)
    obtain ⟨v9, g1, g2, e⟩ := d1
    obtain rfl : v = v9 := (nI_eq (by omega) (by omega)).mp (h1.symm.trans g1)
    refine up v (fuV et az v) π hv (by decide) (by rw [e]; exact pk_us) (no_lo hz (hz16 _) ?_ π)
    rcases hvg v hv with q | ⟨q1, q2⟩
    · exact Or.inl q
    · right
      intro c hc
      unfold fuV
      rw [if_neg q1]
      exact fuI_bit q2 (hz16 _) hc
  · rintro rfl p v h1 hp h6 hv
    obtain ⟨d1, d2, d3, -⟩ := dat (by decide)
    obtain ⟨p9, v9, ⟨g1, g2⟩, g3, g4, e⟩ := d1
    obtain rfl : p = p9 := (nI_eq (by omega) (by omega)).mp (h1.symm.trans g1)
    obtain rfl : v = v9 := (nI_eq (by omega) (by omega)).mp (h6.symm.trans g3)
    constructor
    · intro hst
      have e : h (i + 1) = mvSt (h i) (h i).1 (mvUs F p v (h i)) := by
        rcases e with ⟨-, e⟩ | ⟨q, -⟩
        · exact e
        · exact absurd hst q
      exact ⟨kp (by decide) (by decide) _ (fun u hu _ => by rw [e]; rfl), hus p v h1 hp h6 g4 (Or.inr (Or.inr (Or.inr ⟨rfl, hst⟩)))⟩
    · intro hst
      have e : (h (i + 1)).1 = upd (h i).1 v (asS ((h i).1 v) (F 12 p)) := by
        rcases e with ⟨q, -⟩ | ⟨-, e⟩
        · exact absurd q hst
        · rw [e]; rfl
      refine ⟨kp (by decide) (by decide) _ (fun u hu hne => by rw [e]; exact pk_un hne), (h i).1 v, asS ((h i).1 v) (F 12 p), fun π hl => ?_, fun π hl => ?_, fun c hc hb9 => ?_⟩
      · unfold LMt at hl
        rw [d3] at hl
        exact hl
      · refine up v _ π hv (by decide) ?_ hl
        rw [e]; exact pk_us
      · rw [ibit_as hc, hb9, Bool.true_and]
        cases ibit (F 12 p) c with
        | true => exact Or.inr rfl
        | false => exact Or.inl rfl
  · obtain ⟨L, hL1, hL2⟩ := ce_lb w.ce j (by omega) hjb (Or.inl h13)
    have htg : tgt F i L := Or.inl ⟨by rw [ho]; rcases q with rfl | rfl | rfl | rfl; exact Or.inl rfl; exact Or.inr (Or.inl rfl); exact Or.inr (Or.inr (Or.inl rfl)); exact Or.inr (Or.inr (Or.inr rfl)), hjL.symm.trans hL2⟩
    obtain ⟨j1, j2⟩ := c_jump (le := iS) (h := fun j => mvp (h j)) iS_rf iS_tr (mvW_p w) hi hij hjb hA (isL_o ho h33 (by omega)) hL1 htg (Or.inl h13) hL2
    exact ⟨⟨by omega, hjb, j1⟩, fun v π hv _ hl => LcF_up (j2 v hv) hl⟩
  · rintro rfl j haj hji h14 hjL
    obtain ⟨L, hL1, hL2⟩ := ce_lb w.ce j haj (by omega) (Or.inr h14)
    obtain ⟨j1, j2⟩ := c_loop (le := iS) (h := fun j => mvp (h j)) iS_rf iS_tr (mvW_p w) w.ag (ce_lb w.ce) (fun m m1 m2 _ m4 => by
      obtain ⟨sm, hsm⟩ := w.al m m1 m2 m4
      exact ce_ntg w.ce m1 m2 hsm haj (by omega) h14 hL2) haj hji hb hA ho hL1 (hjL.symm.trans hL2) (Or.inr h14) hL2
    exact ⟨⟨haj, by omega, j1⟩, fun v π hv _ hl => LcF_up (j2 v hv) hl⟩
  · rintro rfl j tc c g h1 htc h3 hc hg h13' hij hjb h13
    obtain ⟨L, hL1, hL2⟩ := ce_lb w.ce j (by omega) hjb (Or.inl h13)
    have htg : tgt F i L := Or.inr ⟨ho, tc, c, g, h1, h3, htc, hc, hg, h13'.trans hL2⟩
    obtain ⟨j1, j2⟩ := c_jump (le := iS) (h := fun j => mvp (h j)) iS_rf iS_tr (mvW_p w) hi hij hjb hA (isL_o ho h33 (by decide)) hL1 htg (Or.inl h13) hL2
    exact ⟨⟨by omega, hjb, j1⟩, fun v π hv _ hl => LcF_up (j2 v hv) hl⟩
end
end
-- f3.q1.lean.txt
section
/-- the types of the values on the stack are types of the table -/
def gd (F : tF) (yp yt : Nat) (s : List tE) : Prop := ∀ e : tE, e ∈ s → (e.1 = 0 → e.2.1 = 0 ∨ (tyN yp (F 20) e.2.1 ∧ e.2.1 < yt)) ∧ ((e.1 = 1 ∨ e.1 = 2) → tyN yp (F 20) e.2.1 ∧ e.2.1 < yt ∧ e.2.2 < 64)
/-- a frame that stands at i -/
def Fr (N : lK) (L : Nat → Nat → lLc → Prop) (g i : Nat) (s : List tE) (R : Nat → Option lLc) (An : Nat → lLc → Nat → Prop) : kFm := (g, s, 0, R, N.1 i, (fun u => u < 40 ∧ N.2.1 i u ∧ ¬ L i u []), L i, An)
/-- what is known of a function -/
def sgE (y : qY) (z : qZ) (F X : tF) (G : Nat → Nat → Nat) (rs a b n yp yt : Nat) (k : Nat → Option (List tE)) (N : lK) (L : Nat → Nat → lLc → Prop) (Rm : Nat → Prop) (tb : lTb) (rl : Nat → Int32) (pl : Nat → Nat → Int32) (me : Int32) (vg : Nat → Nat) : Prop :=
  (tbO F X yp yt ∧ y = yF F X yp yt ∧ z = zF F X yt ∧ (∀ sh : Nat, sh < 30 → (F 20 (4 + sh) = 2 ∨ F 20 (4 + sh) = 3) → sh < yp) ∧ (∀ t : Nat, t < 3040 → (F 20 t = 4 ∨ F 20 t = 5 ∨ F 20 t = 6) → 34 ≤ t ∧ t < yt) ∧ (∀ (j : Nat) (s : List tE), Rm j → k j = some s → gd F yp yt s ∧ (F 0 j = nI 25 → vl s = 0)) ∧ ∀ (i o p v : Nat) (s : List tE), Rm i → k i = some s → F 0 i = nI o → (o = 2 ∨ o = 3 ∨ o = 4 ∨ o = 26) → F 1 i = nI p → p < 3001 → F 6 p = nI v → v < 40 → (8, v, 0) ∈ s) ∧ ceI F X G rs a b k ∧ (∀ (i : Nat) (s : List tE), a ≤ i → i < b → k i = some s → vl s ≤ 211) ∧ k b = none ∧ n ≤ 40 ∧
  (∀ w : Nat, w < 40 → F 15 w ≠ -1 → w < n ∧ ∃ T0 : Nat, F 15 w = nI T0 ∧ tyV yp yt (F 20) T0 ∧ vg w = ymF F T0) ∧ (∀ v i : Nat, v < 40 → i < 6000 → F 18 v = nI i → v < n) ∧
  (∀ (i o : Nat) (s : List tE), a ≤ i → i < b → k i = some s → F 0 i = nI o → o < 33 → N.2.2 i → Rm i → lRu F G tb rl pl me k a b N i s o ∧ mRu F y z vg n k a b L Rm i o) ∧
  (∀ (i v : Nat) (π : lLc), n ≤ v → L i v π) ∧ (∀ v : Nat, v < n → (tb.2.2.2.2 v ↔ (F 20 (cN (F 15 v)) = 5 ∨ F 20 (cN (F 15 v)) = 6))) ∧
  (∀ (i p v c : Nat) (s : List tE), a ≤ i → i < b → k i = some s → F 0 i = 4 → F 1 i = nI p → p < 3001 → F 6 p = nI v → v < 40 → F 2 i = nI c → c < 54 → ¬ tb.2.2.2.1 c ∧ tb.1 c = v ∧ tb.2.1 c = wyF F p ∧ (F 3 i = 1 → ¬ tb.2.2.1 c)) ∧
  ((∀ i u l v : Nat, N.1 i u l → ¬ tb.2.2.2.1 l → tb.1 l = v → v < n → F 20 (cN (F 15 v)) = 5 → tb.2.2.1 l) ∧ ∀ j : Nat, Rm j → a ≤ j ∧ j < b) ∧ ∀ i u : Nat, N.2.1 i u → F 20 (cN (F 15 u)) = 5 ∨ F 20 (cN (F 15 u)) = 6
/-- the top frame stands at i -/
def At (y : qY) (z : qZ) (vt vo : Nat → Nat → Nat) (vc : Nat → Nat) (tb : Nat → lTb) (hp : Nat) (a b : Nat) (k : Nat → Option (List tE)) (N : lK) (L : Nat → Nat → lLc → Prop) (Rm : Nat → Prop) (g f : Nat) (x : Nat → kFm) (An : Nat → lLc → Nat → Prop) (fb : Nat → Nat) (i : Nat) (tk : Nat → Prop) (c : Nat → Int) (top : Nat) (fil : Nat → Nat → Nat → Prop) : Prop := ∃ (s : List tE) (R : Nat → Option lLc), k i = some s ∧ a ≤ i ∧ i < b ∧ N.2.2 i ∧ Rm i ∧ kS y z vt vo vc tb hp tk c f (kUx x f (Fr N L g i s R An)) fb top fil
theorem vl_no : ∀ {s : List tE}, vl s ≤ 210 → ∀ e : tE, e ∈ s → ¬ (e.1 = 4 ∨ e.1 = 5 ∨ e.1 = 6)
  | [], _, e, he => by simp at he
  | x :: s, h, e, he => by
    have h : vl s + (if x.1 = 8 then 0 else if x.1 = 4 ∨ x.1 = 5 ∨ x.1 = 6 then 211 else 1) ≤ 210 := h
    rcases List.mem_cons.mp he with q | q
    · subst q
      intro q2
      rw [if_neg (by omega), if_pos q2] at h
      omega
    · exact vl_no (s := s) (by omega) e q
theorem vl_1 {e : tE} {s : List tE} (h : vl (e :: s) ≤ 211) (he : kNm e) : vl s ≤ 210 := by
  have h : vl s + (if e.1 = 8 then 0 else if e.1 = 4 ∨ e.1 = 5 ∨ e.1 = 6 then 211 else 1) ≤ 211 := h
  rw [if_neg (fun q => he (Or.inl q)), if_neg (fun q => he (Or.inr q))] at h
  omega
theorem no56 {s : List tE} (h : ∀ e : tE, e ∈ s → ¬ (e.1 = 4 ∨ e.1 = 5 ∨ e.1 = 6)) : ∀ r m : Nat, (5, r, m) ∉ s ∧ (6, r, m) ∉ s := fun r m => ⟨fun q => h _ q (Or.inr (Or.inl rfl)), fun q => h _ q (Or.inr (Or.inr rfl))⟩
theorem kes_le {z : qZ} (hz : ∀ t : Nat, z.1 t ≤ 16) : ∀ e : tE, kes z e ≤ 16 ∧ (e.1 = 8 → kes z e = 0)
  | (0, t, m) => ⟨by show (if t = 0 then 0 else z.1 t) ≤ 16; split; omega; exact hz t, fun q => absurd q (by show ¬ ((0 : Nat) = 8); decide)⟩
  | (1, t, m) => ⟨by show 1 ≤ 16; decide, fun q => absurd q (by show ¬ ((1 : Nat) = 8); decide)⟩
  | (2, t, m) => ⟨by show 1 ≤ 16; decide, fun q => absurd q (by show ¬ ((2 : Nat) = 8); decide)⟩
  | (3, t, m) => ⟨by show 1 ≤ 16; decide, fun q => absurd q (by show ¬ ((3 : Nat) = 8); decide)⟩
  | (4, t, m) => ⟨hz _, fun q => absurd q (by show ¬ ((4 : Nat) = 8); decide)⟩
  | (5, t, m) => ⟨by show 1 ≤ 16; decide, fun q => absurd q (by show ¬ ((5 : Nat) = 8); decide)⟩
  | (6, t, m) => ⟨by show 1 ≤ 16; decide, fun q => absurd q (by show ¬ ((6 : Nat) = 8); decide)⟩
  | (7, t, m) => ⟨hz t, fun q => absurd q (by show ¬ ((7 : Nat) = 8); decide)⟩
  | (8, t, m) => ⟨by show 0 ≤ 16; decide, fun _ => rfl⟩
  | (w + 9, t, m) => ⟨by show 1 ≤ 16; decide, fun q => absurd q (by show ¬ (w + 9 = 8); omega)⟩
theorem khs_vl {z : qZ} (hz : ∀ t : Nat, z.1 t ≤ 16) : ∀ s : List tE, khs z s ≤ 16 * vl s
  | [] => Nat.le_refl _
  | e :: s => by
    have h1 := khs_vl hz s
    obtain ⟨h2, h3⟩ := kes_le hz e
    show khs z s + kes z e ≤ 16 * (vl s + (if e.1 = 8 then 0 else if e.1 = 4 ∨ e.1 = 5 ∨ e.1 = 6 then 211 else 1))
    by_cases c1 : e.1 = 8
    · rw [if_pos c1, h3 c1]; omega
    · rw [if_neg c1]
      by_cases c2 : e.1 = 4 ∨ e.1 = 5 ∨ e.1 = 6
      · rw [if_pos c2]; omega
      · rw [if_neg c2]; omega
section
variable {y : qY} {z : qZ} {vt vo : Nat → Nat → Nat} {vc : Nat → Nat} {tb : Nat → lTb} {hp : Nat} {tk tk2 : Nat → Prop} {c c2 : Nat → Int} {f g i j : Nat} {x : Nat → kFm} {An : Nat → lLc → Nat → Prop} {fb : Nat → Nat} {top top2 : Nat} {fil fil2 : Nat → Nat → Nat → Prop} {N : lK} {L : Nat → Nat → lLc → Prop} {Rm : Nat → Prop} {F X : tF} {G : Nat → Nat → Nat} {rs a b n yp yt : Nat} {k : Nat → Option (List tE)} {rl : Nat → Int32} {pl : Nat → Nat → Int32} {me : Int32} {s s2 : List tE} {R R2 : Nat → Option lLc}
theorem kpA {E : Nat → Prop} {m : Nat} (hL : ∀ (i v : Nat) (π : lLc), n ≤ v → L i v π) (h1 : lkp N i j m E) (h2 : mkp L n i j E) : ∀ u : Nat, ¬ E u → (u < 40 ∧ N.2.1 j u ∧ ¬ L j u []) → (u < 40 ∧ N.2.1 i u ∧ ¬ L i u []) := fun u hu h => by
  obtain ⟨a1, a2, a3⟩ := h
  refine ⟨a1, h1.2.2 u a1 hu a2, fun q => a3 ?_⟩
  rcases Nat.lt_or_ge u n with g | g
  · exact h2 u [] g hu q
  · exact hL j u [] g
theorem kpL {E : Nat → Prop} (hL : ∀ (i v : Nat) (π : lLc), n ≤ v → L i v π) (h2 : mkp L n i j E) : ∀ (v : Nat) (π : lLc), ¬ E v → L i v π → L j v π := fun v π hv q => by
  rcases Nat.lt_or_ge v n with g | g
  · exact h2 v π g hv q
  · exact hL j v π g
/-- the frame is told by what is known of j -/
theorem fin {H2 : Nat → Nat → Prop} {al2 : Nat → Prop} {lo2 : Nat → lLc → Prop} (h : kS y z vt vo vc tb hp tk c f (kUx x f (g, s, 0, R, H2, al2, lo2, An)) fb top fil) (hH : ∀ (u : Nat) (q : lLc) (l : Nat), ((u < 40 ∧ N.2.1 j u ∧ ¬ L j u []) ∨ (40 ≤ u ∧ u < 40 + wl s) ∨ (u = 300 ∧ ∃ r m : Nat, (5, r, m) ∈ s ∨ (6, r, m) ∈ s)) → R u = some q → H2 u l → N.1 j u l) (hal : ∀ u : Nat, (u < 40 ∧ N.2.1 j u ∧ ¬ L j u []) → al2 u) (hlo : ∀ (v : Nat) (π : lLc), lo2 v π → L j v π) : kS y z vt vo vc tb hp tk c f (kUx x f (Fr N L g j s R An)) fb top fil := by
  have h1 := kS_wk (H2 := N.1 j) (al2 := fun u => u < 40 ∧ N.2.1 j u ∧ ¬ L j u []) (lo2 := L j) h (by rw [kUx_eq]) (by
    rw [kUx_eq]
    intro u q l hu hr hh
    refine hH u q l ?_ hr hh
    rcases hu with ⟨-, hu⟩ | hu | hu
    · exact Or.inl hu
    · exact Or.inr (Or.inl hu)
    · exact Or.inr (Or.inr hu)) (by rw [kUx_eq]; exact hal) (by rw [kUx_eq]; exact fun v π _ _ q => hlo v π q)
  rw [kUx_eq, kUx2] at h1
  exact h1
/-- values go, nothing comes -/
theorem st_pop (h : kS y z vt vo vc tb hp tk c f (kUx x f (Fr N L g i s R An)) fb top fil) {E : List tE} (hs : s = E ++ s2) (hE : ∀ e : tE, e ∈ E → kNm e) (hL : ∀ (i v : Nat) (π : lLc), n ≤ v → L i v π) (h1 : lkp N i j (wl s2) (fun _ => False)) (h2 : mkp L n i j (fun _ => False)) (h3 : ∀ l : Nat, (∃ r m : Nat, (5, r, m) ∈ s2 ∨ (6, r, m) ∈ s2) → N.1 i 300 l → N.1 j 300 l) : kS y z vt vo vc tb hp tk c f (kUx x f (Fr N L g j s2 R An)) fb (fb f + vc g + khs z s2) fil := by
  have q := kS_pop h (E := E) (S := s2) (by rw [kUx_eq]; exact hs) hE (by rw [kUx_eq]; rfl)
  rw [kUx_eq, kUx2] at q
  refine fin q (fun u w l hu _ hh => ?_) (kpA hL h1 h2 · (fun q => q)) (fun v π q => kpL hL h2 v π (fun q => q) q)
  rcases hu with hu | hu | ⟨rfl, hu⟩
  · exact h1.2.1 u l (fun q => q) (Or.inl hu.1) hh
  · exact h1.2.1 u l (fun q => q) (Or.inr hu) hh
  · exact h3 l hu hh
/-- nothing goes or comes -/
theorem st_id (h : kS y z vt vo vc tb hp tk c f (kUx x f (Fr N L g i s R An)) fb top fil) (hL : ∀ (i v : Nat) (π : lLc), n ≤ v → L i v π) (h1 : lkp N i j (wl s) (fun _ => False)) (h2 : mkp L n i j (fun _ => False)) (h3 : ∀ l : Nat, (∃ r m : Nat, (5, r, m) ∈ s ∨ (6, r, m) ∈ s) → N.1 i 300 l → N.1 j 300 l) : kS y z vt vo vc tb hp tk c f (kUx x f (Fr N L g j s R An)) fb top fil := by
  refine fin h (fun u w l hu _ hh => ?_) (kpA hL h1 h2 · (fun q => q)) (fun v π q => kpL hL h2 v π (fun q => q) q)
  rcases hu with hu | hu | ⟨rfl, hu⟩
  · exact h1.2.1 u l (fun q => q) (Or.inl hu.1) hh
  · exact h1.2.1 u l (fun q => q) (Or.inr hu) hh
  · exact h3 l hu hh
/-- a value comes that leads nowhere -/
theorem st_fin0 (h : kS y z vt vo vc tb hp tk c f (kUx x f (g, s, 0, lUp R (40 + wl s2) none, N.1 i, (fun u => u < 40 ∧ N.2.1 i u ∧ ¬ L i u []), L i, An)) fb top fil) {e : tE} (hs : s = e :: s2) (he : kNm e) (hv : vl s ≤ 211) (hL : ∀ (i v : Nat) (π : lLc), n ≤ v → L i v π) (h1 : lkp N i j (wl s2) (fun _ => False)) (h2 : mkp L n i j (fun _ => False)) : kS y z vt vo vc tb hp tk c f (kUx x f (Fr N L g j s (lUp R (40 + wl s2) none) An)) fb top fil := by
  refine fin h (fun u w l hu hr hh => ?_) (kpA hL h1 h2 · (fun q => q)) (fun v π q => kpL hL h2 v π (fun q => q) q)
  rcases hu with hu | hu | ⟨rfl, r, m, hu⟩
  · exact h1.2.1 u l (fun q => q) (Or.inl hu.1) hh
  · rw [hs, wl_n he] at hu
    by_cases e9 : u = 40 + wl s2
    · rw [e9, lUp_eq] at hr; simp at hr
    · exact h1.2.1 u l (fun q => q) (Or.inr ⟨hu.1, by omega⟩) hh
  · exfalso
    rw [hs] at hv hu
    have n5 := no56 (vl_no (vl_1 hv he)) r m
    rcases hu with hu | hu
    · rcases List.mem_cons.mp hu with q | q
      · exact he (Or.inr (Or.inr (Or.inl (by rw [← q]))))
      · exact n5.1 q
    · rcases List.mem_cons.mp hu with q | q
      · exact he (Or.inr (Or.inr (Or.inr (by rw [← q]))))
      · exact n5.2 q
end
end
-- f3.q2.lean.txt
section
section
variable {y : qY} {z : qZ} {vt vo : Nat → Nat → Nat} {vc : Nat → Nat} {tb : Nat → lTb} {hp : Nat} {tk tk2 : Nat → Prop} {c c2 : Nat → Int} {f g i j : Nat} {x : Nat → kFm} {An : Nat → lLc → Nat → Prop} {fb : Nat → Nat} {top top2 : Nat} {fil fil2 : Nat → Nat → Nat → Prop} {N : lK} {L : Nat → Nat → lLc → Prop} {Rm : Nat → Prop} {F X : tF} {G : Nat → Nat → Nat} {rs a b n yp yt : Nat} {k : Nat → Option (List tE)} {rl : Nat → Int32} {pl : Nat → Nat → Int32} {me : Int32} {s s2 : List tE} {R R2 : Nat → Option lLc}
theorem At_mk (E : sgE y z F X G rs a b n yp yt k N L Rm (tb g) rl pl me (vt g)) (hk : k j = some s) (hR : Rm j) (hN : N.2.2 j) (h : kS y z vt vo vc tb hp tk c f (kUx x f (Fr N L g j s R An)) fb top fil) : At y z vt vo vc tb hp a b k N L Rm g f x An fb j tk c top fil := by
  obtain ⟨q1, q2⟩ := E.2.2.2.2.2.2.2.2.2.2.2.1.2 j hR
  exact ⟨s, R, hk, q1, q2, hN, hR, h⟩
theorem At_top (hz16 : ∀ t : Nat, z.1 t ≤ 16) (E : sgE y z F X G rs a b n yp yt k N L Rm (tb g) rl pl me (vt g)) (h : At y z vt vo vc tb hp a b k N L Rm g f x An fb i tk c top fil) : hp ≤ fb f ∧ fb f ≤ top ∧ top ≤ fb f + vc g + 3376 := by
  obtain ⟨s, R, hs, ha, hb, hN, hR, rt, ra, V, hJ, hL⟩ := h
  have ht := kTopF hL
  rw [kUx_eq] at ht
  have hv := E.2.2.1 i s ha hb hs
  have hq := khs_vl hz16 s
  have h3 : top = fb f + vc g + khs z s := ht.2.2
  exact ⟨ht.1, ht.2.1, by omega⟩
theorem At_s (h : kS y z vt vo vc tb hp tk c f (kUx x f (Fr N L g i s R An)) fb top fil) : top = fb f + vc g + khs z s ∧ wl s ≤ 211 := by
  obtain ⟨rt, ra, V, hJ, hL⟩ := h
  have ht := (kTopF hL).2.2
  have h8 := hJ.2.2.2.2.2.2.2.2 f (Nat.le_refl f)
  rw [kUx_eq] at ht h8
  exact ⟨ht, h8⟩
/-- what the tables tell of numbers, truths, tokens -/
theorem sg_p (E : sgE y z F X G rs a b n yp yt k N L Rm (tb g) rl pl me (vt g)) : y.1 0 = 0 ∧ y.1 1 = 0 ∧ y.1 2 = 0 ∧ y.1 3 = 0 ∧ z.1 1 = 1 ∧ z.1 2 = 1 ∧ z.1 3 = 1 := by
  obtain ⟨⟨h1, rfl, rfl, -⟩, -⟩ := E
  have h34 : 34 ≤ yt := h1.1.1
  obtain ⟨z0, z1, z2, z3⟩ := h1.1.2.2.2.2.1
  have z1 : F 22 1 = 1 := z1
  have z2 : F 22 2 = 1 := z2
  have z3 : F 22 3 = 1 := z3
  refine ⟨yF_p (by decide), yF_p (by decide), yF_p (by decide), yF_p (by decide), ?_, ?_, ?_⟩
  · show (if 1 < yt then max 1 (min 16 (cN (F 22 1))) else 1) = 1
    rw [if_pos (by omega), z1]; rfl
  · show (if 2 < yt then max 1 (min 16 (cN (F 22 2))) else 1) = 1
    rw [if_pos (by omega), z2]; rfl
  · show (if 3 < yt then max 1 (min 16 (cN (F 22 3))) else 1) = 1
    rw [if_pos (by omega), z3]; rfl
/-- NUMBER, READ -/
theorem s_num (E : sgE y z F X G rs a b n yp yt k N L Rm (tb g) rl pl me (vt g)) (hy : kYs y z vt vo vc) (h : At y z vt vo vc tb hp a b k N L Rm g f x An fb i tk c top fil) (ho : F 0 i = nI 0 ∨ F 0 i = nI 1) (hc : ∀ k : Nat, k < top → c2 k = c k) : At y z vt vo vc tb hp a b k N L Rm g f x An fb (i + 1) tk c2 (top + 1) fil := by
  obtain ⟨s, R, hs, ha, hb, hN, hR, hk⟩ := h
  obtain ⟨y0, y1, y2, y3, z1, z2, z3⟩ := sg_p E
  have key : ∀ (o T : Nat), (o = 0 ∨ o = 1) → F 0 i = nI o → (T = 1 ∨ T = 2) → k (i + 1) = some ((0, T, 0) :: s) → At y z vt vo vc tb hp a b k N L Rm g f x An fb (i + 1) tk c2 (top + 1) fil := fun o T hoo ho hT h1 => by
    obtain ⟨e1, e2⟩ := E.2.2.2.2.2.2.2.1 i o s ha hb hs ho (by omega) hN hR
    have hlk := e1.1 (by omega)
    have hmk := e2.2.1 (by omega)
    have hRm := e2.1 (by omega)
    have hj := E.2.2.2.2.2.2.2.2.2.2.2.1.2 (i + 1) hRm
    have hv := E.2.2.1 (i + 1) _ hj.1 hj.2 h1
    have hnm : kNm (0, T, 0) := by unfold kNm; simp
    have hw : wl s < 211 := by
      have := wl_vl_le (r := (0, T, 0) :: s)
      rw [wl_n hnm] at this
      omega
    have q := kS_push0 (c2 := c2) hy hk (by rw [kUx_eq]; rfl) (by rw [kUx_eq]; exact hw) (e := (0, T, 0)) (t := T) (Or.inl ⟨0, rfl, by omega⟩) (by rcases hT with rfl | rfl; exact y1; exact y2) hc
    rw [kUx_eq, kUx2] at q
    rw [show kes z (0, T, 0) = 1 by rcases hT with rfl | rfl; exact z1; exact z2] at q
    exact At_mk E h1 hRm hlk.1 (st_fin0 q rfl hnm hv E.2.2.2.2.2.2.2.2.1 hlk hmk)
  rcases ho with ho | ho
  · obtain ⟨T, hT, h1⟩ := ce_op E.2.1 ha hb hs ho (by decide)
    exact key 0 T (Or.inl rfl) ho hT h1
  · have h1 : k (i + 1) = some ((0, 1, 0) :: s) := ce_op E.2.1 ha hb hs ho (by decide)
    exact key 1 1 (Or.inr rfl) ho (Or.inl rfl) h1
/-- TAG -/
theorem s_tag (E : sgE y z F X G rs a b n yp yt k N L Rm (tb g) rl pl me (vt g)) (hy : kYs y z vt vo vc) (h : At y z vt vo vc tb hp a b k N L Rm g f x An fb i tk c top fil) (ho : F 0 i = nI 11) : ∃ gg : Nat, gg < 12 ∧ F 1 i = nI gg ∧ ∀ c2 : Nat → Int, (∀ k : Nat, k < top → c2 k = c k) → c2 top = (gg : Int) → At y z vt vo vc tb hp a b k N L Rm g f x An fb (i + 1) tk c2 (top + 1) fil := by
  obtain ⟨s, R, hs, ha, hb, hN, hR, hk⟩ := h
  obtain ⟨y0, y1, y2, y3, z1, z2, z3⟩ := sg_p E
  obtain ⟨gg, g1, g2, h1⟩ := ce_op E.2.1 ha hb hs ho (by decide)
  refine ⟨gg, g1, g2, fun c2 hc hct => ?_⟩
  obtain ⟨e1, e2⟩ := E.2.2.2.2.2.2.2.1 i 11 s ha hb hs ho (by decide) hN hR
  have hlk := e1.1 (by omega)
  have hmk := e2.2.1 (by omega)
  have hRm := e2.1 (by omega)
  have hj := E.2.2.2.2.2.2.2.2.2.2.2.1.2 (i + 1) hRm
  have hv := E.2.2.1 (i + 1) _ hj.1 hj.2 h1
  have hnm : kNm (3, gg, 0) := by unfold kNm; simp
  have hw : wl s < 211 := by
    have := wl_vl_le (r := (3, gg, 0) :: s)
    rw [wl_n hnm] at this
    omega
  have q := kS_push0 (c2 := c2) hy hk (by rw [kUx_eq]; rfl) (by rw [kUx_eq]; exact hw) (e := (3, gg, 0)) (t := 1) (Or.inr ⟨gg, 0, rfl, rfl, hct⟩) y1 hc
  rw [kUx_eq, kUx2] at q
  exact At_mk E h1 hRm hlk.1 (st_fin0 q rfl hnm hv E.2.2.2.2.2.2.2.2.1 hlk hmk)
/-- FUEL -/
theorem s_fuel (E : sgE y z F X G rs a b n yp yt k N L Rm (tb g) rl pl me (vt g)) (h : At y z vt vo vc tb hp a b k N L Rm g f x An fb i tk c top fil) (ho : F 0 i = nI 23 ∨ F 0 i = nI 13 ∨ F 0 i = nI 14) : At y z vt vo vc tb hp a b k N L Rm g f x An fb (i + 1) tk c top fil := by
  obtain ⟨s, R, hs, ha, hb, hN, hR, hk⟩ := h
  have key : ∀ o : Nat, (o = 23 ∨ o = 13 ∨ o = 14) → F 0 i = nI o → k (i + 1) = some s → At y z vt vo vc tb hp a b k N L Rm g f x An fb (i + 1) tk c top fil := fun o hoo ho h1 => by
    obtain ⟨e1, e2⟩ := E.2.2.2.2.2.2.2.1 i o s ha hb hs ho (by omega) hN hR
    have hmk := e2.2.1 (by omega)
    have hRm := e2.1 (by omega)
    have hl : lkp N i (i + 1) (wl s) (fun _ => False) ∧ ∀ l : Nat, (∃ r m : Nat, (5, r, m) ∈ s ∨ (6, r, m) ∈ s) → N.1 i 300 l → N.1 (i + 1) 300 l := by
      rcases hoo with rfl | hoo
      · exact ⟨e1.1 (by omega), fun l _ => e1.2.2.2.2.2.2.2.2.2.2.2.2.2.2.2.2 rfl l⟩
      · have := e1.2.1 hoo
        exact ⟨this.1, fun l _ => this.2 l⟩
    exact At_mk E h1 hRm hl.1.1 (st_id hk E.2.2.2.2.2.2.2.2.1 hl.1 hmk hl.2)
  rcases ho with ho | ho | ho
  · exact key 23 (Or.inl rfl) ho (ce_op E.2.1 ha hb hs ho (by decide))
  · exact key 13 (Or.inr (Or.inl rfl)) ho (ce_op E.2.1 ha hb hs ho (by decide))
  · exact key 14 (Or.inr (Or.inr rfl)) ho (ce_op E.2.1 ha hb hs ho (by decide))
end
end
-- f3.q3.lean.txt
section
section
variable {y : qY} {z : qZ} {vt vo : Nat → Nat → Nat} {vc : Nat → Nat} {tb : Nat → lTb} {hp : Nat} {tk tk2 : Nat → Prop} {c c2 : Nat → Int} {f g i j : Nat} {x : Nat → kFm} {An : Nat → lLc → Nat → Prop} {fb : Nat → Nat} {top top2 : Nat} {fil fil2 : Nat → Nat → Nat → Prop} {N : lK} {L : Nat → Nat → lLc → Prop} {Rm : Nat → Prop} {F X : tF} {G : Nat → Nat → Nat} {rs a b n yp yt : Nat} {k : Nat → Option (List tE)} {rl : Nat → Int32} {pl : Nat → Nat → Int32} {me : Int32} {s s2 : List tE} {R R2 : Nat → Option lLc}
theorem lkp_le {E : Nat → Prop} {m m2 : Nat} (h : lkp N i j m E) (hm : m2 ≤ m) : lkp N i j m2 E := ⟨h.1, fun u l hu hw => h.2.1 u l hu (by omega), h.2.2⟩
theorem nm0 {t m : Nat} : kNm (0, t, m) := by unfold kNm; simp
theorem khs_p {t m : Nat} {r : List tE} (ht : t ≠ 0) (hz : z.1 t = 1) : khs z ((0, t, m) :: r) = khs z r + 1 := by
  show khs z r + (if t = 0 then 0 else z.1 t) = _
  rw [if_neg ht, hz]
/-- NOT, NEGATE -/
theorem s_un (E : sgE y z F X G rs a b n yp yt k N L Rm (tb g) rl pl me (vt g)) (hy : kYs y z vt vo vc) (h : At y z vt vo vc tb hp a b k N L Rm g f x An fb i tk c top fil) (ho : F 0 i = nI 5 ∨ F 0 i = nI 6) : 1 ≤ top ∧ ∀ c2 : Nat → Int, (∀ k : Nat, k + 1 < top → c2 k = c k) → At y z vt vo vc tb hp a b k N L Rm g f x An fb (i + 1) tk c2 top fil := by
  obtain ⟨s, R, hs, ha, hb, hN, hR, hk⟩ := h
  obtain ⟨y0, y1, y2, y3, z1, z2, z3⟩ := sg_p E
  obtain ⟨et, ew⟩ := At_s hk
  have key : ∀ o : Nat, (o = 5 ∨ o = 6) → F 0 i = nI o → (∃ (T : Nat) (r : List tE), (T = 1 ∨ T = 2) ∧ s = (0, T, 0) :: r) → k (i + 1) = some s → 1 ≤ top ∧ ∀ c2 : Nat → Int, (∀ k : Nat, k + 1 < top → c2 k = c k) → At y z vt vo vc tb hp a b k N L Rm g f x An fb (i + 1) tk c2 top fil := fun o hoo ho hr h1 => by
    obtain ⟨T, r, hT, rfl⟩ := hr
    have zT : z.1 T = 1 := by rcases hT with rfl | rfl; exact z1; exact z2
    have yT : y.1 T = 0 := by rcases hT with rfl | rfl; exact y1; exact y2
    rw [khs_p (by omega) zT] at et
    refine ⟨by omega, fun c2 hc => ?_⟩
    obtain ⟨e1, e2⟩ := E.2.2.2.2.2.2.2.1 i o _ ha hb hs ho (by omega) hN hR
    have hlk := e1.1 (by omega)
    have hmk := e2.2.1 (by omega)
    have hRm := e2.1 (by omega)
    have hj := E.2.2.2.2.2.2.2.2.2.2.2.1.2 (i + 1) hRm
    have hv := E.2.2.1 (i + 1) _ hj.1 hj.2 h1
    rw [wl_n nm0] at ew
    have q := kS_op (c2 := c2) hy hk (E := [(0, T, 0)]) (S := r) (by rw [kUx_eq]; rfl) (fun e he => by rw [List.mem_singleton.mp he]; exact nm0) (by rw [kUx_eq]; rfl) (by omega) (t := T) (by omega) yT (by
      rw [kUx_eq]
      intro k hk9
      have hk9 : k < fb f + vc g + khs z r := hk9
      exact hc k (by omega))
    rw [kUx_eq, kUx2, zT] at q
    rw [show top = fb f + vc g + khs z r + 1 by omega]
    exact At_mk E h1 hRm hlk.1 (st_fin0 q rfl nm0 hv E.2.2.2.2.2.2.2.2.1 (lkp_le hlk (by rw [wl_n nm0]; omega)) hmk)
  rcases ho with ho | ho
  · obtain ⟨⟨r, hr⟩, h1⟩ := ce_op E.2.1 ha hb hs ho (by decide)
    exact key 5 (Or.inl rfl) ho ⟨1, r, Or.inl rfl, hr⟩ h1
  · obtain ⟨⟨r, hr⟩, h1⟩ := ce_op E.2.1 ha hb hs ho (by decide)
    exact key 6 (Or.inr rfl) ho ⟨2, r, Or.inr rfl, hr⟩ h1
/-- OPERATE -/
theorem s_op2 (E : sgE y z F X G rs a b n yp yt k N L Rm (tb g) rl pl me (vt g)) (hy : kYs y z vt vo vc) (h : At y z vt vo vc tb hp a b k N L Rm g f x An fb i tk c top fil) (ho : F 0 i = nI 7) : 2 ≤ top ∧ ∀ c2 : Nat → Int, (∀ k : Nat, k + 2 < top → c2 k = c k) → At y z vt vo vc tb hp a b k N L Rm g f x An fb (i + 1) tk c2 (top - 1) fil := by
  obtain ⟨s, R, hs, ha, hb, hN, hR, hk⟩ := h
  obtain ⟨y0, y1, y2, y3, z1, z2, z3⟩ := sg_p E
  obtain ⟨et, ew⟩ := At_s hk
  obtain ⟨x1, x2, x3, r, q1, q2, q3, rfl, h1⟩ := ce_op E.2.1 ha hb hs ho (by decide)
  have zz : ∀ T : Nat, (T = 1 ∨ T = 2) → z.1 T = 1 := fun T hT => by rcases hT with rfl | rfl; exact z1; exact z2
  rw [khs_p (by omega) (zz x1 q1), khs_p (by omega) (zz x2 q2)] at et
  refine ⟨by omega, fun c2 hc => ?_⟩
  obtain ⟨e1, e2⟩ := E.2.2.2.2.2.2.2.1 i 7 _ ha hb hs ho (by decide) hN hR
  have hlk := e1.2.2.1 (by omega)
  have hmk := e2.2.1 (by omega)
  have hRm := e2.1 (by omega)
  have hj := E.2.2.2.2.2.2.2.2.2.2.2.1.2 (i + 1) hRm
  have hv := E.2.2.1 (i + 1) _ hj.1 hj.2 h1
  rw [wl_n nm0, wl_n nm0] at ew hlk
  have q := kS_op (c2 := c2) hy hk (E := [(0, x1, 0), (0, x2, 0)]) (S := r) (by rw [kUx_eq]; rfl) (fun e he => by
    rcases List.mem_cons.mp he with g9 | g9
    · rw [g9]; exact nm0
    · rw [List.mem_singleton.mp g9]; exact nm0) (by rw [kUx_eq]; rfl) (by omega) (t := x3) (by omega) (by rcases q3 with rfl | rfl; exact y1; exact y2) (by
    rw [kUx_eq]
    intro k hk9
    have hk9 : k < fb f + vc g + khs z r := hk9
    exact hc k (by omega))
  rw [kUx_eq, kUx2, zz x3 q3] at q
  rw [show top - 1 = fb f + vc g + khs z r + 1 by omega]
  exact At_mk E h1 hRm hlk.1 (st_fin0 q rfl nm0 hv E.2.2.2.2.2.2.2.2.1 (lkp_le hlk (by omega)) hmk)
/-- a value of one cell goes: PRINT, UNLESS, AND, OR -/
theorem s_pop1 (E : sgE y z F X G rs a b n yp yt k N L Rm (tb g) rl pl me (vt g)) {T : Nat} {r : List tE} (hT : T = 1 ∨ T = 2) (hs : k i = some ((0, T, 0) :: r)) (hk : kS y z vt vo vc tb hp tk c f (kUx x f (Fr N L g i ((0, T, 0) :: r) R An)) fb top fil) (hj : k j = some r) (hlk : lkp N i j (wl r) (fun _ => False)) (hmk : mkp L n i j (fun _ => False)) (hRm : Rm j) (ha : a ≤ i) (hb : i < b) : 1 ≤ top ∧ At y z vt vo vc tb hp a b k N L Rm g f x An fb j tk c (top - 1) fil := by
  obtain ⟨y0, y1, y2, y3, z1, z2, z3⟩ := sg_p E
  obtain ⟨et, ew⟩ := At_s hk
  have zT : z.1 T = 1 := by rcases hT with rfl | rfl; exact z1; exact z2
  rw [khs_p (by omega) zT] at et
  have hv := E.2.2.1 i _ ha hb hs
  have q := st_pop (E := [(0, T, 0)]) (s2 := r) hk rfl (fun e he => by rw [List.mem_singleton.mp he]; exact nm0) E.2.2.2.2.2.2.2.2.1 hlk hmk (fun l hm => by
    obtain ⟨r9, m9, hm⟩ := hm
    have := no56 (vl_no (vl_1 hv nm0)) r9 m9
    exact absurd hm (by rintro (q | q); exact this.1 q; exact this.2 q))
  refine ⟨by omega, ?_⟩
  rw [show top - 1 = fb f + vc g + khs z r by omega]
  exact At_mk E hj hRm hlk.1 q
theorem s_prt (E : sgE y z F X G rs a b n yp yt k N L Rm (tb g) rl pl me (vt g)) (h : At y z vt vo vc tb hp a b k N L Rm g f x An fb i tk c top fil) (ho : F 0 i = nI 28) : 1 ≤ top ∧ (F 1 i = 1 ∨ F 1 i = 2) ∧ At y z vt vo vc tb hp a b k N L Rm g f x An fb (i + 1) tk c (top - 1) fil := by
  obtain ⟨s, R, hs, ha, hb, hN, hR, hk⟩ := h
  obtain ⟨T, r, hT, h1, rfl, h2⟩ := ce_op E.2.1 ha hb hs ho (by decide)
  obtain ⟨e1, e2⟩ := E.2.2.2.2.2.2.2.1 i 28 _ ha hb hs ho (by decide) hN hR
  have hlk := e1.2.2.1 (by omega)
  rw [wl_n nm0] at hlk
  obtain ⟨q1, q2⟩ := s_pop1 E hT hs hk h2 (lkp_le hlk (by omega)) (e2.2.1 (by omega)) (e2.1 (by omega)) ha hb
  exact ⟨q1, by rcases hT with rfl | rfl; exact Or.inl h1; exact Or.inr h1, q2⟩
/-- where a label stands -/
theorem lab_at (E : sgE y z F X G rs a b n yp yt k N L Rm (tb g) rl pl me (vt g)) (haj : a ≤ j) (hjb : j < b) (hl : F 0 j = 13 ∨ F 0 j = 14) {u : Int32} (hu : F 1 j = u) : ∃ l : Nat, l < 1100 ∧ u = nI l ∧ F 5 l = nI j := by
  obtain ⟨l, l1, l2, l3⟩ := E.2.1.2.2 j haj hjb hl
  exact ⟨l, l1, hu.symm.trans l2, l3⟩
/-- UNLESS -/
theorem s_unl (E : sgE y z F X G rs a b n yp yt k N L Rm (tb g) rl pl me (vt g)) (h : At y z vt vo vc tb hp a b k N L Rm g f x An fb i tk c top fil) (ho : F 0 i = nI 17) : 1 ≤ top ∧ At y z vt vo vc tb hp a b k N L Rm g f x An fb (i + 1) tk c (top - 1) fil ∧ ∃ l j : Nat, l < 1100 ∧ F 1 i = nI l ∧ F 5 l = nI j ∧ At y z vt vo vc tb hp a b k N L Rm g f x An fb j tk c (top - 1) fil := by
  obtain ⟨s, R, hs, ha, hb, hN, hR, hk⟩ := h
  obtain ⟨r, rfl, ⟨h1, h1v⟩, hJ⟩ := ce_op E.2.1 ha hb hs ho (by decide)
  obtain ⟨e1, e2⟩ := E.2.2.2.2.2.2.2.1 i 17 _ ha hb hs ho (by decide) hN hR
  have hlk := e1.2.2.1 (by omega)
  rw [wl_n nm0] at hlk
  obtain ⟨q1, q2⟩ := s_pop1 E (Or.inr rfl) hs hk h1 (lkp_le hlk (by omega)) (e2.2.1 (by omega)) (e2.1 (by omega)) ha hb
  have hJ := hJ.resolve_left id
  have hJ2 := hJ
  obtain ⟨j, ⟨j1, -⟩, j3, j4, j5, j6⟩ := hJ2
  obtain ⟨l, l1, l2, l3⟩ := lab_at E (by omega) j3 (Or.inl j4) j5
  have m := e2.2.2.2.2.2.2.2.1 (by omega) j j1 j3 j4 j5
  have hl2 := e1.2.2.2.2.2.2.2.2.2.2.2.2.2.1 (by omega) j r hJ j6 j1 j3 j4 j5
  rw [wl_n nm0] at hl2
  obtain ⟨-, q3⟩ := s_pop1 E (Or.inr rfl) hs hk j6 (lkp_le hl2 (by omega)) m.2 m.1 ha hb
  exact ⟨q1, q2, l, j, l1, l2, l3, q3⟩
/-- AND, OR -/
theorem s_and (E : sgE y z F X G rs a b n yp yt k N L Rm (tb g) rl pl me (vt g)) (h : At y z vt vo vc tb hp a b k N L Rm g f x An fb i tk c top fil) (ho : F 0 i = nI 18 ∨ F 0 i = nI 19) : 1 ≤ top ∧ At y z vt vo vc tb hp a b k N L Rm g f x An fb (i + 1) tk c (top - 1) fil ∧ ∃ l j : Nat, l < 1100 ∧ F 1 i = nI l ∧ F 5 l = nI j ∧ At y z vt vo vc tb hp a b k N L Rm g f x An fb j tk c top fil := by
  obtain ⟨s, R, hs, ha, hb, hN, hR, hk⟩ := h
  have key : ∀ o : Nat, (o = 18 ∨ o = 19) → F 0 i = nI o → (∃ r : List tE, s = (0, 2, 0) :: r ∧ k (i + 1) = some r ∧ (False ∨ tJm F G k i b (F 1 i) s)) → 1 ≤ top ∧ At y z vt vo vc tb hp a b k N L Rm g f x An fb (i + 1) tk c (top - 1) fil ∧ ∃ l j : Nat, l < 1100 ∧ F 1 i = nI l ∧ F 5 l = nI j ∧ At y z vt vo vc tb hp a b k N L Rm g f x An fb j tk c top fil := fun o hoo ho hr => by
    obtain ⟨r, rfl, h1, hJ⟩ := hr
    obtain ⟨e1, e2⟩ := E.2.2.2.2.2.2.2.1 i o _ ha hb hs ho (by omega) hN hR
    have hlk := e1.2.2.1 (by omega)
    rw [wl_n nm0] at hlk
    obtain ⟨q1, q2⟩ := s_pop1 E (Or.inr rfl) hs hk h1 (lkp_le hlk (by omega)) (e2.2.1 (by omega)) (e2.1 (by omega)) ha hb
    have hJ := hJ.resolve_left id
    have hJ2 := hJ
    obtain ⟨j, ⟨j1, -⟩, j3, j4, j5, j6⟩ := hJ2
    obtain ⟨l, l1, l2, l3⟩ := lab_at E (by omega) j3 (Or.inl j4) j5
    have m := e2.2.2.2.2.2.2.2.1 (by omega) j j1 j3 j4 j5
    have hl2 := e1.2.2.2.2.2.2.2.2.2.2.2.2.2.1 (by omega) j _ hJ j6 j1 j3 j4 j5
    rw [wl_n nm0] at hl2
    have hv := E.2.2.1 i _ ha hb hs
    obtain ⟨et, ew⟩ := At_s hk
    -- the value that stays leads nowhere
    have hR0 : R (40 + wl r) = none := by
      obtain ⟨rt, ra, V, hJ9, hL9⟩ := hk
      have hK := hJ9.2.2.2.2.1 f (Nat.le_refl f)
      rw [kUx_eq] at hK
      exact hK.1.1
    have q3 : kS y z vt vo vc tb hp tk c f (kUx x f (Fr N L g j ((0, 2, 0) :: r) R An)) fb top fil := by
      refine fin hk (fun u w l hu hr hh => ?_) (kpA E.2.2.2.2.2.2.2.2.1 hl2 m.2 · (fun q => q)) (fun v π q => kpL E.2.2.2.2.2.2.2.2.1 m.2 v π (fun q => q) q)
      rcases hu with hu | hu | ⟨rfl, r9, m9, hu⟩
      · exact hl2.2.1 u l (fun q => q) (Or.inl hu.1) hh
      · rw [wl_n nm0] at hu
        by_cases e9 : u = 40 + wl r
        · rw [e9, hR0] at hr; simp at hr
        · exact hl2.2.1 u l (fun q => q) (Or.inr ⟨hu.1, by omega⟩) hh
      · exfalso
        have n5 := no56 (vl_no (vl_1 hv nm0)) r9 m9
        rcases hu with hu | hu
        · rcases List.mem_cons.mp hu with q | q
          · injection q with q; exact absurd q (by decide)
          · exact n5.1 q
        · rcases List.mem_cons.mp hu with q | q
          · injection q with q; exact absurd q (by decide)
          · exact n5.2 q
    exact ⟨q1, q2, l, j, l1, l2, l3, At_mk E j6 m.1 hl2.1 q3⟩
  rcases ho with ho | ho
  · exact key 18 (Or.inl rfl) ho (ce_op E.2.1 ha hb hs ho (by decide))
  · exact key 19 (Or.inr rfl) ho (ce_op E.2.1 ha hb hs ho (by decide))
/-- JUMP, LOOP -/
theorem s_jmp (E : sgE y z F X G rs a b n yp yt k N L Rm (tb g) rl pl me (vt g)) (h : At y z vt vo vc tb hp a b k N L Rm g f x An fb i tk c top fil) (ho : F 0 i = nI 16 ∨ F 0 i = nI 15) : ∃ l j : Nat, l < 1100 ∧ F 1 i = nI l ∧ F 5 l = nI j ∧ At y z vt vo vc tb hp a b k N L Rm g f x An fb j tk c top fil := by
  obtain ⟨s, R, hs, ha, hb, hN, hR, hk⟩ := h
  have no5 : vl s = 0 → ∀ (j l : Nat), (∃ r m : Nat, (5, r, m) ∈ s ∨ (6, r, m) ∈ s) → N.1 i 300 l → N.1 j 300 l := fun v0 j l hm => by
    obtain ⟨r9, m9, hm⟩ := hm
    have := no56 (vl_no (show vl s ≤ 210 by omega)) r9 m9
    exact absurd hm (by rintro (q | q); exact this.1 q; exact this.2 q)
  rcases ho with ho | ho
  · obtain ⟨v0, hJ⟩ := ce_op E.2.1 ha hb hs ho (by decide)
    obtain ⟨e1, e2⟩ := E.2.2.2.2.2.2.2.1 i 16 _ ha hb hs ho (by decide) hN hR
    have hJ := hJ.resolve_left id
    have hJ2 := hJ
    obtain ⟨j, ⟨j1, -⟩, j3, j4, j5, j6⟩ := hJ2
    obtain ⟨l, l1, l2, l3⟩ := lab_at E (by omega) j3 (Or.inl j4) j5
    have m := e2.2.2.2.2.2.2.2.1 (by omega) j j1 j3 j4 j5
    have hl2 := e1.2.2.2.2.2.2.2.2.2.2.2.2.2.1 (by omega) j _ hJ j6 j1 j3 j4 j5
    exact ⟨l, j, l1, l2, l3, At_mk E j6 m.1 hl2.1 (st_id hk E.2.2.2.2.2.2.2.2.1 (lkp_le hl2 (by rw [wl_vl v0]; omega)) m.2 (no5 v0 j))⟩
  · obtain ⟨v0, hK⟩ := ce_op E.2.1 ha hb hs ho (by decide)
    obtain ⟨e1, e2⟩ := E.2.2.2.2.2.2.2.1 i 15 _ ha hb hs ho (by decide) hN hR
    obtain ⟨j, j1, j2, j3, j4, j5⟩ := hK
    obtain ⟨l, l1, l2, l3⟩ := lab_at E j1 (by omega) (Or.inr j3) j4
    have m := e2.2.2.2.2.2.2.2.2.1 rfl j j1 j2 j3 j4
    have hl2 := e1.2.2.2.2.2.2.2.2.2.2.2.2.2.2.1 rfl j j1 j2 j3 j4
    exact ⟨l, j, l1, l2, l3, At_mk E j5 m.1 hl2.1 (st_id hk E.2.2.2.2.2.2.2.2.1 (lkp_le hl2 (by rw [wl_vl v0]; omega)) m.2 (no5 v0 j))⟩
/-- sizes, as the class has them -/
theorem sg_sz (E : sgE y z F X G rs a b n yp yt k N L Rm (tb g) rl pl me (vt g)) {u : Nat} (hu : tyV yp yt (F 20) u) : F 22 u = nI (z.1 (ymF F u)) ∧ 1 ≤ z.1 (ymF F u) ∧ z.1 (ymF F u) ≤ 16 := by
  obtain ⟨⟨h1, rfl, rfl, -⟩, -⟩ := E
  obtain ⟨s1, s2, s3⟩ := ty_sz h1 hu
  rw [s1]
  exact ⟨nI_cN s2, s2, s3⟩
theorem sg_sh (E : sgE y z F X G rs a b n yp yt k N L Rm (tb g) rl pl me (vt g)) {sh : Nat} (h30 : sh < 30) (hk : F 20 (4 + sh) = 2 ∨ F 20 (4 + sh) = 3) : sh < yp ∧ F 22 (4 + sh) = nI (z.1 (4 + sh)) ∧ 1 ≤ z.1 (4 + sh) ∧ z.1 (4 + sh) ≤ 16 ∧ 4 + sh < yt ∧ tyN yp (F 20) (4 + sh) := by
  have hsh := E.1.2.2.2.1 sh h30 hk
  have h34 : 34 ≤ yt := E.1.1.1.1
  have hy30 : yp ≤ 30 := E.1.1.1.2.2.1
  have hN : tyN yp (F 20) (4 + sh) := Or.inr (Or.inl ⟨by omega, by omega⟩)
  have q := sg_sz E (u := 4 + sh) ⟨Or.inl hN, by omega⟩
  rw [ymF_n E.1.1 hN] at q
  exact ⟨hsh, q.1, q.2.1, q.2.2, by omega, hN⟩
/-- POP of what was matched -/
theorem s_popM (E : sgE y z F X G rs a b n yp yt k N L Rm (tb g) rl pl me (vt g)) (h : At y z vt vo vc tb hp a b k N L Rm g f x An fb i tk c top fil) (ho : F 0 i = nI 31) : ∃ a9 : Nat, F 1 i = nI a9 ∧ a9 ≤ 16 ∧ a9 ≤ top ∧ At y z vt vo vc tb hp a b k N L Rm g f x An fb (i + 1) tk c (top - a9) fil := by
  obtain ⟨s, R, hs, ha, hb, hN, hR, hk⟩ := h
  obtain ⟨r0, q, m, r, rfl, hq, h2⟩ := ce_op E.2.1 ha hb hs ho (by decide)
  obtain ⟨e1, e2⟩ := E.2.2.2.2.2.2.2.1 i 31 _ ha hb hs ho (by decide) hN hR
  obtain ⟨et, ew⟩ := At_s hk
  have hq4 : q = 4 ∨ q = 5 ∨ q = 6 := by rcases hq with ⟨z9, -⟩ | ⟨z9, -⟩ <;> omega
  have hv := E.2.2.1 i _ ha hb hs
  have hv0 : vl r ≤ 210 := by
    have hv : vl r + (if q = 8 then 0 else if q = 4 ∨ q = 5 ∨ q = 6 then 211 else 1) ≤ 211 := hv
    rw [if_neg (by omega), if_pos hq4] at hv
    omega
  have hmt := vl_no hv0
  have hlk := e1.1 (by omega)
  rw [wl_0 (show (q, r0, m).1 = 8 ∨ (q, r0, m).1 = 4 ∨ (q, r0, m).1 = 5 ∨ (q, r0, m).1 = 6 from Or.inr hq4)] at hlk
  have p := kS_popM hk (e := (q, r0, m)) (r := r) (by rw [kUx_eq]; rfl) (by rw [kUx_eq]; rfl) hq4 hmt
  rw [kUx_eq, kUx2] at p
  have p2 : kS y z vt vo vc tb hp tk c f (kUx x f (Fr N L g (i + 1) r R An)) fb (fb f + vc g + khs z r) fil := by
    refine fin p (fun u w l hu _ hh => ?_) (kpA E.2.2.2.2.2.2.2.2.1 hlk (e2.2.1 (by omega)) · (fun q => q)) (fun v π q => kpL E.2.2.2.2.2.2.2.2.1 (e2.2.1 (by omega)) v π (fun q => q) q)
    rcases hu with hu | hu | ⟨rfl, r9, m9, hu⟩
    · exact hlk.2.1 u l (fun q => q) (Or.inl hu.1) hh
    · exact hlk.2.1 u l (fun q => q) (Or.inr hu) hh
    · have n5 := no56 hmt r9 m9
      exact absurd hu (by rintro (q | q); exact n5.1 q; exact n5.2 q)
  have fa : ∃ a9 : Nat, F 1 i = nI a9 ∧ a9 ≤ 16 ∧ top = fb f + vc g + khs z r + a9 := by
    rcases hq with ⟨rfl, sh, gg, s1, s2, s3, s4, s5⟩ | ⟨hq, s5⟩
    · have et : top = fb f + vc g + (khs z r + z.1 (4 + r0 / 12)) := et
      have h3 : y.1 (4 + r0 / 12) = 3 := by
        obtain ⟨rt, ra, V, hJ9, hL9⟩ := hk
        have q9 := hL9.2.2.2.2.2.2.2.2.2 f (Nat.le_refl f) r0 m (by rw [kUx_eq]; exact List.mem_cons_self ..)
        exact q9.1
      have hr0 : r0 / 12 = sh := by rw [s3]; omega
      rw [hr0] at et h3
      have hk3 : F 20 (4 + sh) = 3 := by
        rw [E.1.2.1] at h3
        exact (yF_3 h3).2.2
      obtain ⟨-, t2, t3, t4, -⟩ := sg_sh E s1 (Or.inr hk3)
      exact ⟨z.1 (4 + sh), by rw [s5]; exact t2, t4, by omega⟩
    · refine ⟨1, s5, by decide, ?_⟩
      have et : top = fb f + vc g + (khs z r + kes z (q, r0, m)) := et
      rw [show kes z (q, r0, m) = 1 by rcases hq with rfl | rfl <;> rfl] at et
      omega
  obtain ⟨a9, f1, f2, f3⟩ := fa
  refine ⟨a9, f1, f2, by omega, ?_⟩
  rw [show top - a9 = fb f + vc g + khs z r by omega]
  exact At_mk E h2 (e2.1 (by omega)) hlk.1 p2
end
end
-- f3.q4.lean.txt
section
/-- a row's parts lie one behind the other -/
theorem yz_off {F X : tF} {yp yt sh g : Nat} (hh : tbO F X yp yt) (hsh : sh < yp) (hg : g < cN (X 0 sh)) : ∀ j : Nat, j < cN (X 1 (sh * 12 + g)) → cN (X 3 ((sh * 12 + g) * 12 + j)) = (if F 20 (4 + sh) = 3 then 1 else 0) + psum (zF F X yt) (fun i => cN (X 2 ((sh * 12 + g) * 12 + i))) j := by
  obtain ⟨hty, hsq, hsz, hms⟩ := hh
  obtain ⟨z, z1, z2, z3⟩ := hsz sh hsh
  have h34 : 34 ≤ yt := hty.1
  have hyp : yp ≤ 30 := hty.2.2.1
  have hzz : (zF F X yt).1 (4 + sh) = z := by
    show (if 4 + sh < yt then max 1 (min 16 (cN (F 22 (4 + sh)))) else 1) = z
    rw [if_pos (by omega), z1, cN_nI (by omega)]; omega
  obtain ⟨mo, m1, m2, m3⟩ := (hms sh hsh).resolve_left (fun e => by
    rw [z1] at e
    have : z = 0 := (nI_eq (a := z) (b := 0) (by omega) (by decide)).mp e
    omega)
  obtain rfl : mo = z := (nI_eq (a := mo) (b := z) (by omega) (by omega)).mp (m2.symm.trans z1)
  obtain ⟨n, n1, n2, n3, n4, n5⟩ := hsq sh hsh
  have hcn : cN (X 0 sh) = n := by rw [n1, cN_nI (by omega)]
  rw [hcn] at hg
  obtain ⟨pm, p1, p2, p3⟩ := n5 g hg
  have hpm : cN (X 1 (sh * 12 + g)) = pm := by rw [p1, cN_nI (by omega)]
  rw [hpm]
  have hhd : (if F 20 (4 + sh) = 3 then 1 else 0) ≤ 17 := by split <;> omega
  obtain ⟨q1, q2⟩ := m3 g (show g < pcR (X 0) sh from by show g < cN (X 0 sh); rw [hcn]; exact hg)
  rw [show pcR (X 1) (sh * 12 + g) = pm from hpm] at q1 q2
  have key : ∀ j : Nat, j < pm → cN (X 2 ((sh * 12 + g) * 12 + j)) < yt ∧ cN (X 3 ((sh * 12 + g) * 12 + j)) = lyP (if F 20 (4 + sh) = 3 then 1 else 0) (sh * 12 + g) (F 22) (X 2) j ∧ lyP (if F 20 (4 + sh) = 3 then 1 else 0) (sh * 12 + g) (F 22) (X 2) j + (zF F X yt).1 (cN (X 2 ((sh * 12 + g) * 12 + j))) = lyP (if F 20 (4 + sh) = 3 then 1 else 0) (sh * 12 + g) (F 22) (X 2) (j + 1) := fun j hj => by
    obtain ⟨u, u1, u2, u3⟩ := p3 j hj
    obtain ⟨w1, w2⟩ := q2 j hj
    have hu : cN (X 2 ((sh * 12 + g) * 12 + j)) = u := by rw [u1, cN_nI (by have := hty.2.1; omega)]
    have hle : lyP (if F 20 (4 + sh) = 3 then 1 else 0) (sh * 12 + g) (F 22) (X 2) (j + 1) ≤ 16 := by
      have := lyP_m (r := sh * 12 + g) (fs := F 22) (fpt := X 2) hhd (k := j + 1) (pm - (j + 1))
      rw [show j + 1 + (pm - (j + 1)) = pm by omega] at this
      omega
    have hl0 : lyP (if F 20 (4 + sh) = 3 then 1 else 0) (sh * 12 + g) (F 22) (X 2) j ≤ 17 := (lyP_1 hhd j).1
    refine ⟨by omega, by rw [w1, cN_nI (by omega)], ?_⟩
    have hs16 := lyP_S hle
    rw [lyP_S hle]
    have e1 : szP (F 22) (X 2) ((sh * 12 + g) * 12 + j) = cN (F 22 (cN (X 2 ((sh * 12 + g) * 12 + j)))) := rfl
    have e2 : (zF F X yt).1 (cN (X 2 ((sh * 12 + g) * 12 + j))) = szP (F 22) (X 2) ((sh * 12 + g) * 12 + j) := by
      rw [e1]
      rw [e1] at w2 hs16
      show (if cN (X 2 ((sh * 12 + g) * 12 + j)) < yt then max 1 (min 16 (cN (F 22 (cN (X 2 ((sh * 12 + g) * 12 + j)))))) else 1) = _
      rw [if_pos (by omega)]; omega
    rw [e2]
  have ind : ∀ j : Nat, j ≤ pm → lyP (if F 20 (4 + sh) = 3 then 1 else 0) (sh * 12 + g) (F 22) (X 2) j = (if F 20 (4 + sh) = 3 then 1 else 0) + psum (zF F X yt) (fun i => cN (X 2 ((sh * 12 + g) * 12 + i))) j := by
    intro j
    induction j with
    | zero => intro _; rfl
    | succ j ih =>
      intro hj
      obtain ⟨-, -, k3⟩ := key j (by omega)
      rw [← k3, ih (by omega)]
      show _ = (if F 20 (4 + sh) = 3 then 1 else 0) + (psum (zF F X yt) (fun i => cN (X 2 ((sh * 12 + g) * 12 + i))) j + (zF F X yt).1 (cN (X 2 ((sh * 12 + g) * 12 + j))))
      omega
  intro j hj
  obtain ⟨-, k2, -⟩ := key j hj
  rw [k2, ind j (by omega)]
section
variable {y : qY} {z : qZ} {vt vo : Nat → Nat → Nat} {vc : Nat → Nat} {tb : Nat → lTb} {hp : Nat} {tk tk2 : Nat → Prop} {c c2 : Nat → Int} {f g i j : Nat} {x : Nat → kFm} {An : Nat → lLc → Nat → Prop} {fb : Nat → Nat} {top top2 : Nat} {fil fil2 : Nat → Nat → Nat → Prop} {N : lK} {L : Nat → Nat → lLc → Prop} {Rm : Nat → Prop} {F X : tF} {G : Nat → Nat → Nat} {rs a b n yp yt : Nat} {k : Nat → Option (List tE)} {rl : Nat → Int32} {pl : Nat → Nat → Int32} {me : Int32} {s s2 : List tE} {R R2 : Nat → Option lLc}
theorem tNf_3 : tNf F 3 = (0, 1, 0) := if_pos rfl
theorem tNf_u {T : Nat} (h3 : T ≠ 3) (h5 : F 20 T ≠ 5) (h6 : F 20 T ≠ 6) : tNf F T = (0, T, 0) := by
  unfold tNf
  rw [if_neg h3, if_neg h5, if_neg h6]
/-- the value on top is told by its type -/
theorem st_rt (E : sgE y z F X G rs a b n yp yt k N L Rm (tb g) rl pl me (vt g)) {T : Nat} {r : List tE} (h5 : F 20 T ≠ 5) (h6 : F 20 T ≠ 6) (h : kS y z vt vo vc tb hp tk c f (kUx x f (Fr N L g i (tNf F T :: r) R An)) fb top fil) : kS y z vt vo vc tb hp tk c f (kUx x f (Fr N L g i ((0, T, 0) :: r) R An)) fb top fil := by
  by_cases h3 : T = 3
  · subst h3
    obtain ⟨y0, y1, y2, y3, z1, z2, z3⟩ := sg_p E
    have q := kS_rtl (y := y) (z := z) (e := fun _ => (0, 1, 0)) (e2 := fun _ => (0, 3, 0)) y1 y3 (by rw [z1, z3]) 1 (x := kUx x f (Fr N L g i (tNf F 3 :: r) R An)) (P := []) (S := r) (fun _ _ => Or.inr ⟨rfl, rfl⟩) (by rw [kUx_eq, tNf_3]; rfl) h
    rw [kUx_eq, kUx2] at q
    exact q
  · rw [tNf_u h3 h5 h6] at h
    exact h
/-- the type of a value that is no reference -/
theorem gd_0 (E : sgE y z F X G rs a b n yp yt k N L Rm (tb g) rl pl me (vt g)) (hR : Rm i) {T : Nat} {r : List tE} (hs : k i = some (tNf F T :: r)) (h0 : T ≠ 0) (h5 : F 20 T ≠ 5) (h6 : F 20 T ≠ 6) : tyN yp (F 20) T ∧ T < yt := by
  have h34 : 34 ≤ yt := E.1.1.1.1
  by_cases h3 : T = 3
  · subst h3
    exact ⟨Or.inl (Or.inr (Or.inr rfl)), by omega⟩
  · have q := ((E.1.2.2.2.2.2.1 i _ hR hs).1 (tNf F T) (List.mem_cons_self ..)).1
    rw [tNf_u h3 h5 h6] at q
    exact (q rfl).resolve_left h0
/-- BOX -/
theorem s_box (E : sgE y z F X G rs a b n yp yt k N L Rm (tb g) rl pl me (vt g)) (hy : kYs y z vt vo vc) (h : At y z vt vo vc tb hp a b k N L Rm g f x An fb i tk c top fil) (ho : F 0 i = nI 8) : ∃ T m : Nat, F 1 i = nI T ∧ T < 3040 ∧ F 22 T = nI m ∧ 1 ≤ m ∧ m ≤ 16 ∧ (m ≤ top ∧ hp ≤ top - m) ∧ ∀ (tk2 : Nat → Prop) (c2 : Nat → Int) (b9 : Nat), b9 + m ≤ hp → (∀ k : Nat, b9 ≤ k → k < b9 + m → tk2 k ∧ ¬ tk k) → (∀ k : Nat, tk k → tk2 k) → (∀ o : Nat, o < m → c2 (b9 + o) = c (top - m + o)) → c2 (top - m) = (b9 : Int) → (∀ k : Nat, k ≠ top - m → ¬ (b9 ≤ k ∧ k < b9 + m) → c2 k = c k) → At y z vt vo vc tb hp a b k N L Rm g f x An fb (i + 1) tk2 c2 (top - m + 1) fil := by
  obtain ⟨s, R, hs, ha, hb, hN, hR, hk⟩ := h
  obtain ⟨T, U, r, g1, g2, g3, g4, g5, g6, g7, g8, rfl, h1⟩ := ce_op E.2.1 ha hb hs ho (by decide)
  obtain ⟨t1, t2⟩ := gd_0 E hR hs g2 g7 g8
  have hU := E.1.2.2.2.2.1 U g4 (Or.inl g5)
  have hk2 := st_rt E g7 g8 hk
  obtain ⟨et, ew⟩ := At_s hk2
  have sz := sg_sz E (u := T) ⟨Or.inl t1, t2⟩
  rw [ymF_n E.1.1 t1] at sz
  have h30 : yt ≤ 3040 := E.1.1.1.2.1
  have yU : y.1 U = 4 := by rw [E.1.2.1]; exact yF_4 hU.1 E.1.1.1.2.2.1 hU.2 h30 g5
  have yU2 : y.2.1 U = T := by
    rw [E.1.2.1]
    show (if 10000 ≤ U then (U - 10000) / 2 else cN (F 21 U)) = T
    rw [if_neg (by omega), g6, cN_nI (by omega)]
  have zU : z.1 U = 1 := by
    have := E.1.2.1; have e2 := E.1.2.2.1
    rw [e2]
    exact zF_1 (yp := yp) E.1.1 (Or.inl (by rw [← this]; exact yU))
  have et : top = fb f + vc g + (khs z r + kes z (0, T, 0)) := et
  rw [show kes z (0, T, 0) = z.1 T from if_neg g2] at et
  rw [wl_n nm0] at ew
  have hpf : hp ≤ fb f := by
    obtain ⟨rt, ra, V, hJ, hL⟩ := hk2
    exact (kTopF hL).1
  refine ⟨T, z.1 T, g1, g3, sz.1, sz.2.1, sz.2.2, ⟨by omega, by omega⟩, fun tk2 c2 b9 p1 p2 p3 p4 p5 p6 => ?_⟩
  have eA : top - z.1 T = fb f + vc g + khs z r := by omega
  rw [eA] at p4 p5 p6 ⊢
  obtain ⟨e1, e2⟩ := E.2.2.2.2.2.2.2.1 i 8 _ ha hb hs ho (by decide) hN hR
  have hlk := e1.1 (by omega)
  have hmk := e2.2.1 (by omega)
  have hRm := e2.1 (by omega)
  have hj := E.2.2.2.2.2.2.2.2.2.2.2.1.2 (i + 1) hRm
  have hv := E.2.2.1 (i + 1) _ hj.1 hj.2 h1
  have q := kS_box (tk2 := tk2) (c2 := c2) (b := b9) hy hk2 (T := T) (U := U) (m := 0) (S := r) (by rw [kUx_eq]; rfl) (by rw [kUx_eq]; rfl) (by omega) g2 (by omega) yU yU2 zU p1 p2 p3 (by rw [kUx_eq]; exact p4) (by rw [kUx_eq]; exact p5) (by rw [kUx_eq]; exact p6)
  rw [kUx_eq, kUx2] at q
  exact At_mk E h1 hRm hlk.1 (st_fin0 q rfl nm0 hv E.2.2.2.2.2.2.2.2.1 (lkp_le hlk (by rw [wl_t]; omega)) hmk)
/-- NEW -/
theorem s_new (E : sgE y z F X G rs a b n yp yt k N L Rm (tb g) rl pl me (vt g)) (hy : kYs y z vt vo vc) (h : At y z vt vo vc tb hp a b k N L Rm g f x An fb i tk c top fil) (ho : F 0 i = nI 9) : ∃ m : Nat, F 1 i = nI m ∧ m ≤ 16 ∧ At y z vt vo vc tb hp a b k N L Rm g f x An fb (i + 1) tk c (top + m) fil := by
  obtain ⟨s, R, hs, ha, hb, hN, hR, hk⟩ := h
  obtain ⟨sh, n9, g1, g2, g3, g4, g5, h1⟩ := ce_op E.2.1 ha hb hs ho (by decide)
  obtain ⟨t1, t2, t3, t4, t5, t6⟩ := sg_sh E g1 (Or.inl g2)
  obtain ⟨et, ew⟩ := At_s hk
  obtain ⟨e1, e2⟩ := E.2.2.2.2.2.2.2.1 i 9 _ ha hb hs ho (by decide) hN hR
  have hlk := e1.1 (by omega)
  have hmk := e2.2.1 (by omega)
  have hRm := e2.1 (by omega)
  have hj := E.2.2.2.2.2.2.2.2.2.2.2.1.2 (i + 1) hRm
  have hv := E.2.2.1 (i + 1) _ hj.1 hj.2 h1
  refine ⟨z.1 (4 + sh), by rw [g5]; exact t2, t4, ?_⟩
  have yt : y.1 (4 + sh) = if n9 = 0 then 0 else 2 := by
    rw [E.1.2.1]
    show (if 10000 ≤ 4 + sh ∧ 4 + sh < 30000 then 5 + (4 + sh) % 2 else if 4 ≤ 4 + sh ∧ 4 + sh < 4 + yp then (if F 20 (4 + sh) = 3 then 3 else if cN (X 1 ((4 + sh - 4) * 12)) = 0 then 0 else 2) else if 34 ≤ 4 + sh ∧ 4 + sh < yt ∧ F 20 (4 + sh) = 4 then 4 else 0) = _
    rw [if_neg (by omega), if_pos (by omega), if_neg (by rw [g2]; decide), show 4 + sh - 4 = sh by omega, g3, cN_nI (by omega)]
  by_cases c0 : n9 = 0
  · subst c0
    have ep : pE 0 sh 0 = (0, 4 + sh, 0) := rfl
    rw [ep] at h1 hv
    have hw : wl s < 211 := by
      have := wl_vl_le (r := (0, 4 + sh, 0) :: s)
      rw [wl_n nm0] at this
      omega
    have q := kS_push0 (c2 := c) hy hk (by rw [kUx_eq]; rfl) (by rw [kUx_eq]; exact hw) (e := (0, 4 + sh, 0)) (t := 4 + sh) (Or.inl ⟨0, rfl, by omega⟩) (by rw [yt, if_pos rfl]) (fun _ _ => rfl)
    rw [kUx_eq, kUx2, show kes z (0, 4 + sh, 0) = z.1 (4 + sh) from if_neg (by omega)] at q
    exact At_mk E h1 hRm hlk.1 (st_fin0 q rfl nm0 hv E.2.2.2.2.2.2.2.2.1 hlk hmk)
  · have ep : pE n9 sh 0 = (7, 4 + sh, 0) := by
      unfold pE
      rw [if_neg ?_]
      · rfl
      · intro e
        have e1 : ibit (((1 : Int32) <<< (nI n9 &&& 31)) - 1) 0 = true := by
          have := fuI_bit (az := fun _ => nI n9) (u := 0) (m := n9) (c := 0) rfl (by omega) (by omega)
          exact this
        rw [← e, ibit_0] at e1
        exact absurd e1 (by decide)
    rw [ep] at h1 hv
    have hn7 : kNm (7, 4 + sh, 0) := by unfold kNm; simp
    have hw : wl s < 211 := by
      have := wl_vl_le (r := (7, 4 + sh, 0) :: s)
      rw [wl_n hn7] at this
      omega
    have q := kS_push7 hy hk (by rw [kUx_eq]; rfl) (by rw [kUx_eq]; exact hw) (t := 4 + sh) (by rw [yt, if_neg c0])
    rw [kUx_eq, kUx2, show kes z (7, 4 + sh, 0) = z.1 (4 + sh) from rfl] at q
    exact At_mk E h1 hRm hlk.1 (st_fin0 q rfl hn7 hv E.2.2.2.2.2.2.2.2.1 hlk hmk)
end
end
-- f3.q5.lean.txt
section
theorem ibit_1 {c : Nat} (h : c < 32) : ibit 1 c = decide (c = 0) := by
  rw [show (1 : Int32) = nI (2 ^ 0) from rfl, ibit_nI h, Nat.testBit_two_pow]
  by_cases q : c = 0
  · rw [decide_eq_true q, decide_eq_true q.symm]
  · rw [decide_eq_false q, decide_eq_false (fun e => q e.symm)]
theorem ibit_ext {x y : Int32} (h : ∀ c : Nat, c < 32 → ibit x c = ibit y c) : x = y := Int32.toBitVec_inj.mp (BitVec.eq_of_getLsbD_eq (fun c hc => h c hc))
theorem ibit_tst {sn : Int32} {j : Nat} (hj : j < 12) (h : (sn >>> (nI j &&& 31)) &&& 1 ≠ 1) : ibit sn j = false := by
  cases e : ibit sn j with
  | false => rfl
  | true =>
    exfalso
    refine h (ibit_ext (fun c hc => ?_))
    rw [ibit_and, ibit_1 hc]
    by_cases q : c = 0
    · rw [q, ibit_shr sn (by omega), Nat.add_zero, e]; rfl
    · rw [decide_eq_false q, Bool.and_false]
theorem ibit_put {sn : Int32} {j c : Nat} (hj : j < 12) (hc : c < 32) : ibit (sn ||| ((1 : Int32) <<< (nI j &&& 31))) c = (ibit sn c || decide (c = j)) := by
  rw [ibit_or, show (1 : Int32) = nI 1 from rfl, nI_shl (by omega), Nat.one_mul, ibit_nI hc, Nat.testBit_two_pow]
  by_cases q : c = j
  · rw [decide_eq_true q, decide_eq_true q.symm]
  · rw [decide_eq_false q, decide_eq_false (fun e => q e.symm)]
theorem ibit_all {n c : Nat} (hn : n ≤ 12) (hc : c < n) : ibit (((1 : Int32) <<< (nI n &&& 31)) - 1) c = true := fuI_bit (az := fun _ => nI n) (u := 0) (m := n) rfl (by omega) hc
section
variable {y : qY} {z : qZ} {vt vo : Nat → Nat → Nat} {vc : Nat → Nat} {tb : Nat → lTb} {hp : Nat} {tk tk2 : Nat → Prop} {c c2 : Nat → Int} {f g i j : Nat} {x : Nat → kFm} {An : Nat → lLc → Nat → Prop} {fb : Nat → Nat} {top top2 : Nat} {fil fil2 : Nat → Nat → Nat → Prop} {N : lK} {L : Nat → Nat → lLc → Prop} {Rm : Nat → Prop} {F X : tF} {G : Nat → Nat → Nat} {rs a b n yp yt : Nat} {k : Nat → Option (List tE)} {rl : Nat → Int32} {pl : Nat → Nat → Int32} {me : Int32} {s s2 : List tE} {R R2 : Nat → Option lLc}
/-- the tables' words on a shape -/
theorem sg_y (E : sgE y z F X G rs a b n yp yt k N L Rm (tb g) rl pl me (vt g)) {sh : Nat} (hsh : sh < yp) : (∀ gg : Nat, y.2.2.2.1 (4 + sh) gg = cN (X 1 (sh * 12 + gg))) ∧ (∀ gg q : Nat, y.2.2.2.2 (4 + sh) gg q = cN (X 2 ((sh * 12 + gg) * 12 + q)) ∧ z.2 (4 + sh) gg q = cN (X 3 ((sh * 12 + gg) * 12 + q))) ∧ y.2.2.1 (4 + sh) = cN (X 0 sh) ∧ (F 20 (4 + sh) = 3 → y.1 (4 + sh) = 3) ∧ (F 20 (4 + sh) = 2 → cN (X 1 (sh * 12)) ≠ 0 → y.1 (4 + sh) = 2) := by
  have h30 := E.1.1.1.2.2.1
  rw [E.1.2.1, E.1.2.2.1]
  have e : 4 + sh - 4 = sh := by omega
  refine ⟨fun gg => ?_, fun gg q => ⟨?_, ?_⟩, ?_, fun h3 => ?_, fun h2 hn => ?_⟩
  · show cN (X 1 ((4 + sh - 4) * 12 + gg)) = _
    rw [e]
  · show cN (X 2 (((4 + sh - 4) * 12 + gg) * 12 + q)) = _
    rw [e]
  · show cN (X 3 (((4 + sh - 4) * 12 + gg) * 12 + q)) = _
    rw [e]
  · show cN (X 0 (4 + sh - 4)) = _
    rw [e]
  · show (if 10000 ≤ 4 + sh ∧ 4 + sh < 30000 then 5 + (4 + sh) % 2 else if 4 ≤ 4 + sh ∧ 4 + sh < 4 + yp then (if F 20 (4 + sh) = 3 then 3 else if cN (X 1 ((4 + sh - 4) * 12)) = 0 then 0 else 2) else if 34 ≤ 4 + sh ∧ 4 + sh < yt ∧ F 20 (4 + sh) = 4 then 4 else 0) = 3
    have h30 : yp ≤ 30 := h30
    rw [if_neg (by omega), if_pos (by omega), if_pos h3]
  · have h30 : yp ≤ 30 := h30
    exact yF_s (by omega) (by omega) h30 h2 (by rw [e]; exact hn)
/-- FIELD -/
theorem s_fld (E : sgE y z F X G rs a b n yp yt k N L Rm (tb g) rl pl me (vt g)) (hy : kYs y z vt vo vc) (h : At y z vt vo vc tb hp a b k N L Rm g f x An fb i tk c top fil) (ho : F 0 i = nI 10) : ∃ off m sz : Nat, F 1 i = nI off ∧ F 2 i = nI m ∧ F 3 i = nI sz ∧ off + m ≤ sz ∧ 1 ≤ m ∧ sz ≤ 16 ∧ sz + m ≤ top ∧ ∀ c2 : Nat → Int, (∀ o : Nat, o < m → c2 (top - m - sz + off + o) = c (top - m + o)) → (∀ k : Nat, ¬ (top - m - sz + off ≤ k ∧ k < top - m - sz + off + m) → c2 k = c k) → At y z vt vo vc tb hp a b k N L Rm g f x An fb (i + 1) tk c2 (top - m) fil := by
  obtain ⟨s, R, hs, ha, hb, hN, hR, hk⟩ := h
  obtain ⟨sh, j, n9, sn, r, g1, g2, g3, g4, g5, g6, g7, g8, g9, rfl, h1⟩ := ce_op E.2.1 ha hb hs ho (by decide)
  obtain ⟨t1, t2, t3, t4, t5, t6⟩ := sg_sh E g1 (Or.inl g2)
  obtain ⟨w1, w2, w3, w4, w5⟩ := sg_y E t1
  obtain ⟨nn, n1, n2, n3, n4, n5⟩ := E.1.1.2.1 sh t1
  obtain ⟨pm, p1, p2, p3⟩ := n5 0 (by omega)
  have p1 : X 1 (sh * 12) = nI pm := p1
  have epm : pm = n9 := (nI_eq (by omega) (by omega)).mp (p1.symm.trans g3)
  subst epm
  obtain ⟨U, u1, u2, u3⟩ := p3 j g5
  have u1 : X 2 (sh * 12 * 12 + j) = nI U := u1
  have h30 : yt ≤ 3040 := E.1.1.1.2.1
  have eU : cN (X 2 (sh * 12 * 12 + j)) = U := by rw [u1, cN_nI (by omega)]
  rw [eU] at hk hs g8
  have nr := tyN_nr E.1.1 u2
  have hk2 := st_rt E nr.1 nr.2 hk
  have c9 : cN (X 1 (sh * 12)) = pm := by rw [g3, cN_nI (by omega)]
  have y2 : y.1 (4 + sh) = 2 := w5 g2 (by rw [c9]; omega)
  have yn : y.2.2.2.1 (4 + sh) 0 = pm := (w1 0).trans c9
  have yU : y.2.2.2.2 (4 + sh) 0 j = U := (w2 0 j).1.trans eU
  have zo : z.2 (4 + sh) 0 j = cN (X 3 (sh * 12 * 12 + j)) := (w2 0 j).2
  have U0 : U ≠ 0 := by
    rcases u2 with q | q | q <;> omega
  have sz := sg_sz E (u := U) ⟨Or.inl u2, u3⟩
  rw [ymF_n E.1.1 u2] at sz
  have lay := hy.1.2.1 (4 + sh) j y2 (by rw [yn]; exact g5)
  rw [yU] at lay
  have snj := ibit_tst (by omega) g6
  have ep : pE pm sh sn = (7, 4 + sh, sn.toBitVec.toNat) := by
    unfold pE
    rw [if_neg ?_]
    intro e
    have := ibit_all (n := pm) (c := j) g4 g5
    rw [← e, snj] at this
    exact absurd this (by decide)
  rw [ep] at hk2
  have n7 : kNm (7, 4 + sh, sn.toBitVec.toNat) := by unfold kNm; simp
  obtain ⟨et, ew⟩ := At_s hk2
  have et : top = fb f + vc g + (khs z r + z.1 (4 + sh) + kes z (0, U, 0)) := et
  rw [show kes z (0, U, 0) = z.1 U from if_neg U0] at et
  rw [wl_n nm0, wl_n n7] at ew
  have ex3 : F 1 i = nI (z.2 (4 + sh) 0 j) := by
    rw [g7, zo]
    have := x3_nI E.1.1 t6 g2 (by omega) (show nI j < X 1 ((4 + sh - 4) * 12) by
      rw [show 4 + sh - 4 = sh by omega, g3]; exact nI_lt g5 (by omega))
    rw [show 4 + sh - 4 = sh by omega] at this
    exact this
  refine ⟨z.2 (4 + sh) 0 j, z.1 U, z.1 (4 + sh), ex3, g8.trans sz.1, g9.trans t2, lay, sz.2.1, t4, by omega, fun c2 q1 q2 => ?_⟩
  have eA : top - z.1 U - z.1 (4 + sh) = fb f + vc g + khs z r := by omega
  have eB : top - z.1 U = fb f + vc g + khs z r + z.1 (4 + sh) := by omega
  rw [eA] at q1 q2
  rw [eB] at q1 ⊢
  obtain ⟨e1, e2⟩ := E.2.2.2.2.2.2.2.1 i 10 _ ha hb hs ho (by decide) hN hR
  have hlk := e1.2.2.1 (by omega)
  rw [wl_t, wl_p] at hlk
  have hmk := e2.2.1 (by omega)
  have hRm := e2.1 (by omega)
  have hj := E.2.2.2.2.2.2.2.2.2.2.2.1.2 (i + 1) hRm
  have hv := E.2.2.1 (i + 1) _ hj.1 hj.2 h1
  have new : ∀ q : Nat, q < pm → ibit (sn ||| ((1 : Int32) <<< (nI j &&& 31))) q = true → q = j ∨ sn.toBitVec.toNat.testBit q = true := fun q hq hb9 => by
    rw [ibit_put (by omega) (by omega), Bool.or_eq_true] at hb9
    rcases hb9 with z9 | z9
    · exact Or.inr z9
    · exact Or.inl (of_decide_eq_true z9)
  have he2 : (pE pm sh (sn ||| ((1 : Int32) <<< (nI j &&& 31))) = (0, 4 + sh, 0) ∧ 4 + sh ≠ 0 ∧ ∀ q : Nat, q < y.2.2.2.1 (4 + sh) 0 → q = j ∨ sn.toBitVec.toNat.testBit q = true) ∨ (∃ m2 : Nat, pE pm sh (sn ||| ((1 : Int32) <<< (nI j &&& 31))) = (7, 4 + sh, m2) ∧ ∀ q : Nat, q < y.2.2.2.1 (4 + sh) 0 → m2.testBit q = true → q = j ∨ sn.toBitVec.toNat.testBit q = true) := by
    rw [yn]
    unfold pE
    by_cases c0 : sn ||| ((1 : Int32) <<< (nI j &&& 31)) = ((1 : Int32) <<< (nI pm &&& 31)) - 1
    · rw [if_pos c0]
      refine Or.inl ⟨rfl, by omega, fun q hq => new q hq ?_⟩
      rw [c0]; exact ibit_all g4 hq
    · rw [if_neg c0]
      exact Or.inr ⟨_, rfl, fun q hq hb9 => new q hq hb9⟩
  have hne : kNm (pE pm sh (sn ||| ((1 : Int32) <<< (nI j &&& 31)))) := by
    rcases he2 with ⟨e9, -⟩ | ⟨m2, e9, -⟩ <;> (rw [e9]; unfold kNm; simp)
  have q := kS_fld (c2 := c2) hy hk2 (t := 4 + sh) (j := j) (m := sn.toBitVec.toNat) (U := U) (m0 := 0) (S := r) (e2 := pE pm sh (sn ||| ((1 : Int32) <<< (nI j &&& 31)))) (by rw [kUx_eq]; rfl) (by rw [kUx_eq]; rfl) (by omega) U0 y2 (by rw [yn]; exact g5) yU he2 (by rw [kUx_eq]; exact q1) (by rw [kUx_eq]; exact q2)
  rw [kUx_eq, kUx2] at q
  exact At_mk E h1 hRm hlk.1 (st_fin0 q rfl hne hv E.2.2.2.2.2.2.2.2.1 (lkp_le hlk (by omega)) hmk)
theorem tSz_ps (E : sgE y z F X G rs a b n yp yt k N L Rm (tb g) rl pl me (vt g)) {r0 : Nat} : ∀ q : Nat, (∀ w : Nat, w < q → tyN yp (F 20) (cN (X 2 (r0 * 12 + w))) ∧ cN (X 2 (r0 * 12 + w)) < yt) → tSz F X r0 q = psum z (fun w => cN (X 2 (r0 * 12 + w))) q
  | 0, _ => rfl
  | q + 1, h => by
    have h1 := h q (by omega)
    have sz := sg_sz E (u := cN (X 2 (r0 * 12 + q))) ⟨Or.inl h1.1, h1.2⟩
    rw [ymF_n E.1.1 h1.1] at sz
    show tSz F X r0 q + cN (F 22 (cN (X 2 (r0 * 12 + q)))) = psum z (fun w => cN (X 2 (r0 * 12 + w))) q + z.1 (cN (X 2 (r0 * 12 + q)))
    rw [tSz_ps E q (fun w hw => h w (by omega)), sz.1, cN_nI (by omega)]
/-- PAD -/
theorem s_pad (E : sgE y z F X G rs a b n yp yt k N L Rm (tb g) rl pl me (vt g)) (hy : kYs y z vt vo vc) (h : At y z vt vo vc tb hp a b k N L Rm g f x An fb i tk c top fil) (ho : F 0 i = nI 12) : ∃ m : Nat, F 1 i = nI m ∧ m ≤ 16 ∧ At y z vt vo vc tb hp a b k N L Rm g f x An fb (i + 1) tk c (top + m) fil := by
  obtain ⟨s, R, hs, ha, hb, hN, hR, hk⟩ := h
  obtain ⟨sh, gg, n9, r, g1, g2, g3, g4, g5, g6, g7, g8, rfl, h1⟩ := ce_op E.2.1 ha hb hs ho (by decide)
  obtain ⟨y0, y1, y2', y3, z1, z2, z3⟩ := sg_p E
  obtain ⟨t1, t2, t3, t4, t5, t6⟩ := sg_sh E g1 (Or.inr g2)
  obtain ⟨w1, w2, w3, w4, w5⟩ := sg_y E t1
  obtain ⟨nn, n1, n2, n3, n4, n5⟩ := E.1.1.2.1 sh t1
  have hgn : gg < nn := by
    rw [n1] at g4
    exact (nI_ltI (by omega) (by omega)).mp g4
  obtain ⟨pm, p1, p2, p3⟩ := n5 gg hgn
  have epm : pm = n9 := (nI_eq (by omega) (by omega)).mp (p1.symm.trans g5)
  subst epm
  have h30 : yt ≤ 3040 := E.1.1.1.2.1
  have pt : ∀ w : Nat, w < pm → tyN yp (F 20) (cN (X 2 ((sh * 12 + gg) * 12 + w))) ∧ cN (X 2 ((sh * 12 + gg) * 12 + w)) < yt ∧ cN (X 2 ((sh * 12 + gg) * 12 + w)) ≠ 0 := fun w hw => by
    obtain ⟨u, u1, u2, u3⟩ := p3 w hw
    rw [u1, cN_nI (by omega)]
    exact ⟨u2, u3, by rcases u2 with q | q | q <;> omega⟩
  have hx0 : cN (X 0 sh) = nn := by rw [n1, cN_nI (by omega)]
  have c9 : cN (X 1 (sh * 12 + gg)) = pm := by rw [p1, cN_nI (by omega)]
  -- tokens are told as tokens
  have hk1 := hk
  rw [dsl_ps] at hk1
  have hk2 := kS_rtl (y := y) (z := z) (e := fun w => tNf F (cN (X 2 ((sh * 12 + gg) * 12 + w)))) (e2 := fun w => (0, cN (X 2 ((sh * 12 + gg) * 12 + w)), 0)) y1 y3 (by rw [z1, z3]) pm (P := []) (S := (3, gg, 0) :: r) (fun w hw => by
    have nr := tyN_nr E.1.1 (pt w hw).1
    show tNf F (cN (X 2 ((sh * 12 + gg) * 12 + w))) = _ ∨ _
    by_cases c3 : cN (X 2 ((sh * 12 + gg) * 12 + w)) = 3
    · right
      show tNf F (cN (X 2 ((sh * 12 + gg) * 12 + w))) = _ ∧ (0, cN (X 2 ((sh * 12 + gg) * 12 + w)), 0) = _
      rw [c3]; exact ⟨tNf_3, rfl⟩
    · left; exact tNf_u c3 nr.1 nr.2) (by rw [kUx_eq]; rfl) hk1
  rw [kUx_eq, kUx2] at hk2
  have hk2 : kS y z vt vo vc tb hp tk c f (kUx x f (Fr N L g i (dsl (fun w => (0, cN (X 2 ((sh * 12 + gg) * 12 + w)), 0)) pm ++ (3, gg, 0) :: r) R An)) fb top fil := hk2
  obtain ⟨et, ew⟩ := At_s hk2
  rw [psum_hs pm (fun w hw => (pt w hw).2.2)] at et
  have et : top = fb f + vc g + (khs z r + 1 + psum z (fun w => cN (X 2 ((sh * 12 + gg) * 12 + w))) pm) := et
  have n3' : kNm (3, gg, 0) := by unfold kNm; simp
  rw [wl_app, dsl_wl pm (fun w _ => nm0), wl_n n3'] at ew
  have off : ∀ w : Nat, w < pm → z.2 (4 + sh) gg w = 1 + psum z (fun w => cN (X 2 ((sh * 12 + gg) * 12 + w))) w := fun w hw => by
    rw [(w2 gg w).2]
    have := yz_off (yt := yt) E.1.1 t1 (g := gg) (by rw [hx0]; exact hgn) w (by rw [c9]; exact hw)
    rw [if_pos g2] at this
    rw [this, E.1.2.2.1]
  have y3k := w4 g2
  have sizes : 1 + psum z (fun w => cN (X 2 ((sh * 12 + gg) * 12 + w))) pm ≤ z.1 (4 + sh) := by
    cases pm with
    | zero => exact t3
    | succ q =>
      have := (hy.1.2.2.2.1 (4 + sh) gg q y3k (by rw [w3, hx0]; exact hgn) (by rw [w1 gg, c9]; omega)).2
      rw [off q (by omega), (w2 gg q).1] at this
      show 1 + (psum z (fun w => cN (X 2 ((sh * 12 + gg) * 12 + w))) q + z.1 (cN (X 2 ((sh * 12 + gg) * 12 + q)))) ≤ _
      omega
  obtain ⟨e1, e2⟩ := E.2.2.2.2.2.2.2.1 i 12 _ ha hb hs ho (by decide) hN hR
  have hlk := e1.2.2.2.1 rfl pm g7 g6
  rw [wl_app, wl_ps, wl_n n3'] at hlk
  have hmk := e2.2.1 (by omega)
  have hRm := e2.1 (by omega)
  have hj := E.2.2.2.2.2.2.2.2.2.2.2.1.2 (i + 1) hRm
  have hv := E.2.2.1 (i + 1) _ hj.1 hj.2 h1
  refine ⟨z.1 (4 + sh) - (1 + psum z (fun w => cN (X 2 ((sh * 12 + gg) * 12 + w))) pm), ?_, by omega, ?_⟩
  · rw [g8, t2, tSz_ps E pm (fun w hw => ⟨(pt w hw).1, (pt w hw).2.1⟩)]
    obtain ⟨d, hd⟩ : ∃ d : Nat, z.1 (4 + sh) = d + (1 + psum z (fun w => cN (X 2 ((sh * 12 + gg) * 12 + w))) pm) := ⟨z.1 (4 + sh) - (1 + psum z (fun w => cN (X 2 ((sh * 12 + gg) * 12 + w))) pm), by omega⟩
    rw [hd, Nat.add_sub_cancel, ← nI_add]
    exact Int32.add_sub_cancel _ _
  · have q := kS_pad hy hk2 (t := 4 + sh) (g := gg) (n := pm) (m := 0) (p := fun w => cN (X 2 ((sh * 12 + gg) * 12 + w))) (S := r) (by rw [kUx_eq]; rfl) (by rw [kUx_eq]; rfl) (by omega) y3k (by omega) (by rw [w3, hx0]; exact hgn) ((w1 gg).trans c9) (fun w hw => ⟨(w2 gg w).1, (pt w hw).2.2⟩) off g6
    rw [kUx_eq, kUx2] at q
    have q : kS y z vt vo vc tb hp tk c f (kUx x f (g, (0, 4 + sh, 0) :: r, 0, lUp R (40 + wl r) none, N.1 i, (fun u => u < 40 ∧ N.2.1 i u ∧ ¬ L i u []), L i, An)) fb (fb f + vc g + khs z r + z.1 (4 + sh)) fil := q
    rw [show top + (z.1 (4 + sh) - (1 + psum z (fun w => cN (X 2 ((sh * 12 + gg) * 12 + w))) pm)) = fb f + vc g + khs z r + z.1 (4 + sh) by omega]
    exact At_mk E h1 hRm hlk.1 (st_fin0 q rfl nm0 hv E.2.2.2.2.2.2.2.2.1 (lkp_le hlk (by omega)) hmk)
end
end
