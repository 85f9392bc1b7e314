/-- the way of place (pa, ro): its digits ds; os, o its route -/
def pW (ds os : List Nat) (o n : Nat) (pa ro : Int32) : Prop := ds.length = n ∧ (∀ d : Nat, d ∈ ds → 1 ≤ d ∧ d ≤ 13) ∧ pa = nI (dgP ds) ∧ ro = nI (os.length + 16 * dgP (os ++ [o])) ∧ os.length ≤ n ∧ (∀ x : Nat, x ∈ os → x ≤ 15) ∧ o ≤ 15
theorem pow16 (n : Nat) : (16 : Nat) ^ n = 2 ^ (n * 4) := by
  rw [show (16 : Nat) = 2 ^ 4 by decide, ← Nat.pow_mul, Nat.mul_comm]
theorem dg_or {ds : List Nat} {n c : Nat} (hn : ds.length = n) (hd : ∀ d : Nat, d ∈ ds → 1 ≤ d ∧ d ≤ 13) (h4 : n < 8) : nI (dgP ds) ||| (nI c <<< (nI (n * 4) &&& 31)) = nI (dgP (ds ++ [c])) := by
  have h1 := dgP_lt (ds := ds) (fun d hd9 => by have := hd d hd9; omega)
  rw [hn, pow16] at h1
  rw [nI_shl (by omega), nI_or h1, dgP_app, hn, pow16]
theorem pW_0 : pW [] [] 0 0 0 0 := ⟨rfl, fun d hd => by simp at hd, rfl, rfl, Nat.le_refl _, fun d hd => by simp at hd, by omega⟩
theorem dgP_lt6 {os : List Nat} {o : Nat} (h : ∀ x : Nat, x ∈ os → x ≤ 15) (ho : o ≤ 15) : dgP (os ++ [o]) < 16 ^ (os.length + 1) := by
  have := dgP_lt (ds := os ++ [o]) (fun d hd => by
    rcases List.mem_append.mp hd with z | z
    · have := h d z; omega
    · rw [List.mem_singleton.mp z]; omega)
  rw [List.length_append] at this
  exact this
theorem pW_s {ds os : List Nat} {o n : Nat} {pa ro : Int32} (h : pW ds os o n pa ro) (hn : n < 4) : pW (ds ++ [13]) (os ++ [o]) 0 (n + 1) (pa ||| ((13 : Int32) <<< (nI (n * 4) &&& 31))) (ro + 1) := by
  obtain ⟨h1, h2, h3, h4, h5, h6, h7⟩ := h
  refine ⟨by rw [List.length_append, h1]; rfl, fun d hd => ?_, ?_, ?_, by rw [List.length_append]; show os.length + 1 ≤ n + 1; omega, fun x hx => ?_, by omega⟩
  · rcases List.mem_append.mp hd with z | z
    · exact h2 d z
    · rw [List.mem_singleton.mp z]; omega
  · rw [h3]; exact dg_or (c := 13) h1 h2 (by omega)
  · rw [h4, dgP_app (os ++ [o]), Nat.zero_mul, Nat.add_zero, List.length_append]
    show nI (os.length + 16 * dgP (os ++ [o])) + 1 = nI (os.length + 1 + 16 * dgP (os ++ [o]))
    rw [nI_1]; congr 1; omega
  · rcases List.mem_append.mp hx with z | z
    · exact h6 x z
    · rw [List.mem_singleton.mp z]; exact h7
theorem pW_m {ds os : List Nat} {o n j x : Nat} {pa ro : Int32} (h : pW ds os o n pa ro) (hn : n < 4) (hj : j < 12) (hx : o + x ≤ 15) : pW (ds ++ [j + 1]) os (o + x) (n + 1) (pa ||| (nI (j + 1) <<< (nI (n * 4) &&& 31))) (ro + (nI x <<< ((4 + 4 * (ro &&& 15)) &&& 31))) := by
  obtain ⟨h1, h2, h3, h4, h5, h6, h7⟩ := h
  refine ⟨by rw [List.length_append, h1]; rfl, fun d hd => ?_, ?_, ?_, by omega, h6, hx⟩
  · rcases List.mem_append.mp hd with z | z
    · exact h2 d z
    · rw [List.mem_singleton.mp z]; omega
  · rw [h3]; exact dg_or h1 h2 (by omega)
  · have e1 : ro &&& 15 = nI os.length := by
      rw [h4, nI_and15]; congr 1; omega
    have e2 : (4 : Int32) + 4 * (ro &&& 15) = nI (4 + 4 * os.length) := by
      rw [e1]
      have : ∀ v : Fin 5, (4 : Int32) + 4 * nI v.1 = nI (4 + 4 * v.1) := by decide
      exact this ⟨os.length, by omega⟩
    rw [e2, nI_shl (by omega), h4, nI_add]
    congr 1
    rw [dgP_app, dgP_app, Nat.add_mul, pow16]
    have e3 : 2 ^ (4 + 4 * os.length) = 16 * 2 ^ (os.length * 4) := by rw [Nat.pow_add, Nat.mul_comm 4 os.length]
    rw [e3, Nat.mul_add, Nat.mul_add, ← Nat.mul_assoc x 16, Nat.mul_comm x 16, Nat.mul_assoc 16 x]
    omega
/-- a place: the reference itself; or it lies on a variable that is no reference; or behind one -/
def pK (F X : tF) (yp yt T0 T : Nat) (mu : Int32) (ds os : List Nat) (o : Nat) : Prop :=
  (ds = [] ∧ os = [] ∧ o = 0 ∧ T = T0 ∧ 34 ≤ T0 ∧ T0 < yt ∧ (F 20 T0 = 5 ∨ F 20 T0 = 6)) ∨
  (tyN yp (F 20) T0 ∧ pD F X yp yt T0 (ds.map stO) T os o) ∨
  (34 ≤ T0 ∧ T0 < yt ∧ (F 20 T0 = 5 ∨ F 20 T0 = 6) ∧ (mu ≠ 0 → F 20 T0 = 6) ∧ ∃ (U : Nat) (ds' os' : List Nat), F 21 T0 = nI U ∧ U < yt ∧ ds = 13 :: ds' ∧ os = 0 :: os' ∧ pD F X yp yt U (ds'.map stO) T os' o)
theorem x3_nI {F X : tF} {yp yt T j : Nat} (h : tbO F X yp yt) (hT : tyN yp (F 20) T) (hk : F 20 T = 2) (hj : j < 12) (hjn : nI j < X 1 ((T - 4) * 12)) : X 3 ((T - 4) * 12 * 12 + j) = nI (cN (X 3 ((T - 4) * 12 * 12 + j))) := by
  obtain ⟨h4, h4y⟩ := tyN_2 h hT hk
  have hyp : yp ≤ 30 := h.1.2.2.1
  obtain ⟨n, n1, n2, n3, n4, n5⟩ := h.2.1 (T - 4) (by omega)
  obtain ⟨m, m1, m2, m3⟩ := n5 0 (by omega)
  rw [Nat.add_zero] at m1 m3
  have hjm : j < m := by
    rw [m1] at hjn
    exact (nI_ltI (by omega) (by omega)).mp hjn
  obtain ⟨z, z1, z2, z3⟩ := h.2.2.1 (T - 4) (by omega)
  obtain ⟨mo, q1, q2, q3⟩ := (h.2.2.2 (T - 4) (by omega)).resolve_left (fun e => by
    rw [z1] at e
    have : z = 0 := (nI_eq (a := z) (b := 0) (by omega) (by decide)).mp e
    omega)
  have hp : pcR (X 0) (T - 4) = n := by show cN (X 0 (T - 4)) = n; rw [n1, cN_nI (by omega)]
  obtain ⟨w1, w2⟩ := q3 0 (by omega)
  rw [Nat.add_zero] at w1 w2
  have hp2 : pcR (X 1) ((T - 4) * 12) = m := by show cN (X 1 ((T - 4) * 12)) = m; rw [m1, cN_nI (by omega)]
  have e := (w2 j (by omega)).1
  have hle := (lyP_1 (r := (T - 4) * 12) (fs := F 22) (fpt := X 2) (show (if F 20 (4 + (T - 4)) = 3 then 1 else 0) ≤ 17 by split <;> omega) j).1
  rw [e, cN_nI (by omega)]
theorem stO_13 : stO 13 = (1, 0) := rfl
theorem stO_m {j : Nat} (h : j < 12) : stO (j + 1) = (0, j) := by
  unfold stO
  rw [if_neg (by omega)]; rfl
theorem pl_way {F X : tF} {yp yt v T0 : Nat} (h : tbO F X yp yt) (hv : F 15 v = nI T0) (hT0 : tyV yp yt (F 20) T0) : ∀ (n : Nat) (pa ro : Int32) (T : Nat) (mu : Int32), n ≤ 4 → T < 3040 → plS F X 3040 v n pa ro T mu → ∃ (ds os : List Nat) (o : Nat), pW ds os o n pa ro ∧ pK F X yp yt T0 T mu ds os o
  | 0, pa, ro, T, mu, hn, hT, hp => by
    obtain ⟨rfl, rfl, p3, p4⟩ := hp
    have hyt : yt ≤ 3040 := h.1.2.1
    obtain rfl : T = T0 := (nI_eq (a := T) (b := T0) (by omega) (by have := hT0.2; omega)).mp (p3.symm.trans hv)
    refine ⟨[], [], 0, pW_0, ?_⟩
    rcases hT0 with ⟨h1 | h1, h2⟩
    · exact Or.inr (Or.inl ⟨h1, pD_0 h h1 h2⟩)
    · exact Or.inl ⟨rfl, rfl, rfl, rfl, h1.1, h2, h1.2⟩
  | n + 1, pa, ro, T, mu, hn, hT, hp => by
    obtain ⟨pa1, ro1, T1, mu1, q1, q2, q3, q4⟩ := hp
    obtain ⟨ds, os, o, w1, w2⟩ := pl_way h hv hT0 n pa1 ro1 T1 mu1 (by omega) (by omega) q1
    have hyt : yt ≤ 3040 := h.1.2.1
    rcases q4 with ⟨rfl, rfl, s3, s4⟩ | ⟨j, s1, s2, s3, rfl, rfl, s6, rfl⟩
    · have hW := pW_s w1 (by omega)
      refine ⟨ds ++ [13], os ++ [o], 0, hW, ?_⟩
      rcases w2 with ⟨rfl, rfl, rfl, rfl, w5, w6, w7⟩ | ⟨w3, w4⟩ | ⟨w3, w4, w5, w6, U, ds', os', w7, w8, rfl, rfl, w9⟩
      · obtain ⟨-, -, -, u, u1, u2, u3⟩ := h.1.2.2.2.2.2.2.2.1 T1 w5 w6
        obtain rfl : T = u := (nI_eq (a := T) (b := u) (by omega) (by omega)).mp (s3.symm.trans u2)
        refine Or.inr (Or.inr ⟨w5, w6, w7, fun z => ?_, T, [], [], s3, by omega, rfl, rfl, pD_0 h u3 (by omega)⟩)
        rcases s4 with s4 | s4 | s4
        · rcases w7 with w7 | w7 <;> rw [w7] at s4 <;> exact absurd s4.1 (by decide)
        · exact absurd s4.2 z
        · exact s4.1
      · have hnr := tyN_nr h w4.2.2.2.2.1
        have h4 : F 20 T1 = 4 := by
          rcases s4 with s4 | s4 | s4
          · exact s4.1
          · exact absurd s4.1 hnr.1
          · exact absurd s4.1 hnr.2
        refine Or.inr (Or.inl ⟨w3, ?_⟩)
        rw [List.map_append]
        exact pD_s h w4 h4 s3 (by omega)
      · have hnr := tyN_nr h w9.2.2.2.2.1
        have h4 : F 20 T1 = 4 ∧ mu = mu1 := by
          rcases s4 with s4 | s4 | s4
          · exact s4
          · exact absurd s4.1 hnr.1
          · exact absurd s4.1 hnr.2
        refine Or.inr (Or.inr ⟨w3, w4, w5, fun z => w6 (by rw [← h4.2]; exact z), U, ds' ++ [13], os' ++ [o], w7, w8, rfl, rfl, ?_⟩)
        rw [List.map_append]
        exact pD_s h w9 h4.1 s3 (by omega)
    · rcases w2 with ⟨rfl, rfl, rfl, rfl, w5, w6, w7⟩ | ⟨w3, w4⟩ | ⟨w3, w4, w5, w6, U, ds', os', w7, w8, rfl, rfl, w9⟩
      · rcases w7 with w7 | w7 <;> rw [w7] at s1 <;> exact absurd s1 (by decide)
      · have hm := pD_m h w4 s1 s2 s3 s6 (by omega)
        have hx : o + cN (X 3 ((T1 - 4) * 12 * 12 + j)) ≤ 15 := by
          have e1 := hm.2.2.2.1
          have e2 := (zF_16 h hm.2.2.2.2.1 hm.2.2.2.2.2).2
          omega
        have hX3 : X 3 ((T1 - 4) * 12 * 12 + j) = nI (cN (X 3 ((T1 - 4) * 12 * 12 + j))) := x3_nI h w4.2.2.2.2.1 s1 s2 s3
        generalize cN (X 3 ((T1 - 4) * 12 * 12 + j)) = x at hm hx hX3
        refine ⟨ds ++ [j + 1], os, o + x, ?_, Or.inr (Or.inl ⟨w3, ?_⟩)⟩
        · rw [hX3]
          have := pW_m w1 (by omega) s2 hx
          exact this
        · rw [List.map_append]
          show pD F X yp yt T0 (ds.map stO ++ [stO (j + 1)]) T os _
          rw [stO_m s2]; exact hm
      · have hm := pD_m h w9 s1 s2 s3 s6 (by omega)
        have hx : o + cN (X 3 ((T1 - 4) * 12 * 12 + j)) ≤ 15 := by
          have e1 := hm.2.2.2.1
          have e2 := (zF_16 h hm.2.2.2.2.1 hm.2.2.2.2.2).2
          omega
        have hX3 : X 3 ((T1 - 4) * 12 * 12 + j) = nI (cN (X 3 ((T1 - 4) * 12 * 12 + j))) := x3_nI h w9.2.2.2.2.1 s1 s2 s3
        generalize cN (X 3 ((T1 - 4) * 12 * 12 + j)) = x at hm hx hX3
        refine ⟨13 :: ds' ++ [j + 1], 0 :: os', o + x, ?_, Or.inr (Or.inr ⟨w3, w4, w5, w6, U, ds' ++ [j + 1], os', w7, w8, rfl, rfl, ?_⟩)⟩
        · rw [hX3]
          exact pW_m w1 (by omega) s2 hx
        · rw [List.map_append]
          show pD F X yp yt U (ds'.map stO ++ [stO (j + 1)]) T os' _
          rw [stO_m s2]; exact hm
