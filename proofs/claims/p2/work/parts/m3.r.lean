/-- 1 if the node a was made -/
def ind (t a : Nat) : Nat := if 1 ≤ a ∧ a ≤ t then 1 else 0
/-- a sum over the roots of 60 frames -/
def sm2 (G : Nat × Nat → Nat) : Nat := psN (fun j => psN (fun u => G (j, u)) 300) 60
theorem psN_u1 {w w2 : Nat → Nat} {i : Nat} : ∀ {n : Nat}, i < n → (∀ j : Nat, j ≠ i → w2 j = w j) → psN w2 n + w i = psN w n + w2 i
  | n + 1, h, e => by
    show psN w2 n + w2 n + w i = psN w n + w n + w2 i
    by_cases q : i = n
    · subst q
      rw [psN_cg (w := w2) (w2 := w) (fun j hj => e j (by omega))]; omega
    · have := psN_u1 (w := w) (w2 := w2) (i := i) (n := n) (by omega) e
      rw [e n (fun z => q z.symm)]; omega
theorem sm2_cg {G G2 : Nat × Nat → Nat} (h : ∀ r : Nat × Nat, r.1 < 60 → r.2 < 300 → G r = G2 r) : sm2 G = sm2 G2 := psN_cg (fun j hj => psN_cg (fun u hu => h (j, u) hj hu))
theorem sm2_u1 {G G2 : Nat × Nat → Nat} {r : Nat × Nat} (h1 : r.1 < 60) (h2 : r.2 < 300) (h : ∀ q : Nat × Nat, q ≠ r → G2 q = G q) : sm2 G2 + G r = sm2 G + G2 r := by
  obtain ⟨j, u⟩ := r
  have e1 : ∀ i : Nat, i ≠ j → psN (fun u => G2 (i, u)) 300 = psN (fun u => G (i, u)) 300 := fun i hi => psN_cg (fun v _ => h (i, v) (fun z => hi (Prod.mk.inj z).1))
  have e2 : psN (fun v => G2 (j, v)) 300 + G (j, u) = psN (fun v => G (j, v)) 300 + G2 (j, u) := psN_u1 (w := fun v => G (j, v)) (w2 := fun v => G2 (j, v)) (i := u) h2 (fun v hv => h (j, v) (fun z => hv (Prod.mk.inj z).2))
  have e3 : sm2 G2 + psN (fun u => G (j, u)) 300 = sm2 G + psN (fun u => G2 (j, u)) 300 := psN_u1 (w := fun i => psN (fun u => G (i, u)) 300) (w2 := fun i => psN (fun u => G2 (i, u)) 300) (i := j) h1 e1
  omega
theorem sm2_i1 {G : Nat × Nat → Nat} {r : Nat × Nat} (h1 : r.1 < 60) (h2 : r.2 < 300) : G r ≤ sm2 G := by
  obtain ⟨j, u⟩ := r
  have a := psN_i1 (v := fun v => G (j, v)) (i := u) h2
  have b := psN_i1 (v := fun i => psN (fun u => G (i, u)) 300) (i := j) h1
  exact Nat.le_trans a b
theorem sm2_ij {G : Nat × Nat → Nat} {r q : Nat × Nat} (h1 : r.1 < 60) (h2 : r.2 < 300) (g1 : q.1 < 60) (g2 : q.2 < 300) (hne : r ≠ q) : G r + G q ≤ sm2 G := by
  obtain ⟨j, u⟩ := r
  obtain ⟨i, v⟩ := q
  by_cases e : j = i
  · subst e
    have a := psN_ij (v := fun v => G (j, v)) (i := u) (j := v) (fun z => hne (by rw [z])) h2 g2
    have b := psN_i1 (v := fun i => psN (fun u => G (i, u)) 300) (i := j) h1
    exact Nat.le_trans a b
  · have a := psN_i1 (v := fun v => G (j, v)) (i := u) h2
    have b := psN_i1 (v := fun u => G (i, u)) (i := v) g2
    have c := psN_ij (v := fun i => psN (fun u => G (i, u)) 300) e h1 g1
    exact Nat.le_trans (Nat.add_le_add a b) c
theorem sm2_ad {G G2 : Nat × Nat → Nat} : sm2 (fun r => G r + G2 r) = sm2 G + sm2 G2 := by
  unfold sm2
  rw [← psN_ad]
  exact psN_cg (fun j _ => psN_ad (u := fun u => G (j, u)) (v := fun u => G2 (j, u)))
theorem sm2_le {G G2 : Nat × Nat → Nat} (h : ∀ r : Nat × Nat, r.1 < 60 → r.2 < 300 → G r ≤ G2 r) : sm2 G ≤ sm2 G2 := psN_le (fun j hj => psN_le (fun u hu => h (j, u) hj hu))
theorem psN_z : ∀ {n : Nat}, psN (fun _ => 0) n = 0
  | 0 => rfl
  | n + 1 => by show psN (fun _ => 0) n + 0 = 0; rw [psN_z]
theorem psN_sw {w : Nat → Nat → Nat} {m : Nat} : ∀ {n : Nat}, psN (fun i => psN (fun a => w i a) m) n = psN (fun a => psN (fun i => w i a) n) m
  | 0 => by
    show 0 = psN (fun a => 0) m
    rw [psN_z]
  | n + 1 => by
    show psN (fun i => psN (fun a => w i a) m) n + psN (fun a => w n a) m = psN (fun a => psN (fun i => w i a) n + w n a) m
    rw [psN_sw, psN_ad]
theorem sm2_sw {G : Nat × Nat → Nat → Nat} {m : Nat} : sm2 (fun r => psN (fun a => G r a) m) = psN (fun a => sm2 (fun r => G r a)) m := by
  unfold sm2
  exact (psN_cg (fun j _ => psN_sw (w := fun u a => G (j, u) a) (m := m) (n := 300))).trans (psN_sw (w := fun j a => psN (fun u => G (j, u) a) 300) (m := m) (n := 60))
theorem psN_e1 {x : Nat} : ∀ {m : Nat}, x < m → psN (fun a => if x = a then 1 else 0) m = 1
  | m + 1, h => by
    show psN (fun a => if x = a then 1 else 0) m + (if x = m then 1 else 0) = 1
    by_cases e : x = m
    · rw [if_pos e, psN_cg (w2 := fun _ => 0) (fun a ha => if_neg (by omega)), psN_z]
    · rw [if_neg e, psN_e1 (by omega)]
/-- a list's length, by how often each stands in it -/
theorem cnN_len : ∀ {l : List Nat} {m : Nat}, (∀ a ∈ l, a < m) → psN (fun a => cnN a l) m = l.length
  | [], m, _ => psN_z
  | x :: l, m, h => by
    have e : psN (fun a => cnN a (x :: l)) m = psN (fun a => if x = a then 1 else 0) m + psN (fun a => cnN a l) m := psN_ad (u := fun a => if x = a then 1 else 0) (v := fun a => cnN a l)
    rw [e, psN_e1 (h x (List.mem_cons_self ..)), cnN_len (fun a ha => h a (List.mem_cons_of_mem x ha)), List.length_cons]; omega
theorem ind_len {t : Nat} : psN (fun a => ind t a) (t + 1) = t := by
  have key : ∀ m : Nat, m ≤ t → psN (fun a => ind t a) (m + 1) = m := fun m => by
    induction m with
    | zero => intro _; show 0 + ind t 0 = 0; unfold ind; rw [if_neg (by omega)]
    | succ m ih =>
      intro h
      show psN (fun a => ind t a) (m + 1) + ind t (m + 1) = m + 1
      rw [ih (by omega)]; unfold ind; rw [if_pos (by omega)]
  exact key t (Nat.le_refl _)
/-- nodes that were taken: how often each stands where -/
theorem Frs.eq {l l2 L : List Nat} {t t2 : Nat} (h : Frs l t L l2 t2) (hL : L.Nodup) (hl : l.Nodup) (hl2 : l2.Nodup) (hb : ∀ n ∈ l, 1 ≤ n ∧ n ≤ t) (hb2 : ∀ n ∈ L, 1 ≤ n) (a : Nat) : cnN a L + cnN a l2 + ind t a = cnN a l + ind t2 a := by
  obtain ⟨h1, h2, h3, h4, h5⟩ := h
  have nL := cnN_nd.mp hL a
  have nl := cnN_nd.mp hl a
  have nl2 := cnN_nd.mp hl2 a
  have in1 : ∀ {l : List Nat}, a ∈ l → 1 ≤ cnN a l := fun w => cnN_mem.mp w
  unfold ind
  by_cases c1 : a ∈ L
  · obtain ⟨q1, q2, q3⟩ := h1 a c1
    have z2 := cnN_z q1
    have := in1 c1
    have h0 := hb2 a c1
    rw [if_pos (show 1 ≤ a ∧ a ≤ t2 from ⟨h0, q2⟩)]
    by_cases c2 : a ∈ l
    · have := in1 c2
      rw [if_pos (hb a c2)]; omega
    · have z := cnN_z c2
      have : t < a := q3.resolve_left c2
      rw [if_neg (by omega)]; omega
  · have z1 := cnN_z c1
    by_cases c2 : a ∈ l2
    · have c3 := h3 a c2
      have := in1 c2
      have := in1 c3
      obtain ⟨b1, b2⟩ := hb a c3
      rw [if_pos ⟨b1, b2⟩, if_pos (show 1 ≤ a ∧ a ≤ t2 from ⟨b1, by omega⟩)]; omega
    · have z2 := cnN_z c2
      by_cases c3 : 1 ≤ a ∧ a ≤ t2
      · rcases h4 a c3.2 c2 with w | ⟨w1, w2⟩
        · exact absurd w c1
        · have z3 := cnN_z w2
          rw [if_pos c3, if_pos ⟨c3.1, w1⟩]; omega
      · have c4 : a ∉ l := fun w => c3 ⟨(hb a w).1, by have := (hb a w).2; omega⟩
        have z3 := cnN_z c4
        rw [if_neg c3, if_neg (fun w => c3 ⟨w.1, by omega⟩)]; omega
