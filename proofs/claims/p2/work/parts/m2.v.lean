section PS21
variable {R : yR} {S0 : Sg} {nv c : Nat}
/-- weights of tokens: where they begin -/
theorem bw_ (h : TS R c nv S0) : ∃ bw : Nat → Nat, BWt R bw ∧ ∀ j : Nat, j < R.T → bw j ≤ R.zs := by
  have e5 : Zr S0 5 = Zr R.S 5 := h.fk (by decide)
  obtain ⟨G, tm, Y, ad, s1, _⟩ := h
  obtain ⟨⟨⟨k1, k2, ⟨a, b, k3, k9⟩, k4, k5, k6⟩, k7, k8⟩, _⟩ := s1.1
  rw [e5] at k3 k4
  refine ⟨fun j => if j < R.T - 1 then a j else R.zs + (j - (R.T - 1)), fun j hj => ?_, fun j hj => ?_⟩
  · dsimp only
    by_cases q : j < R.T - 1
    · obtain ⟨g1, g2, g3, g4, g5, g6⟩ := k3 j q
      rw [if_pos q]
      by_cases q2 : j + 1 < R.T - 1
      · have := k9 j q2
        rw [if_pos q2]
        exact ⟨by omega, fun w => by have := g6 w; omega⟩
      · rw [if_neg q2]
        exact ⟨by omega, fun w => by have := g6 w; omega⟩
    · have e : j = R.T - 1 := by omega
      rw [if_neg q, if_neg (by omega)]
      refine ⟨by omega, fun w => ?_⟩
      rw [e, k4] at w
      exact absurd w (by decide)
  · dsimp only
    by_cases q : j < R.T - 1
    · rw [if_pos q]; have := k3 j q; omega
    · rw [if_neg q]; omega
theorem LyE.mo {R : yR} {S0 Sa S2 : Sg} {z n z2 n2 : Nat} (h : LyE R S0 Sa z n S2) (hz : z ≤ z2) (hn : n ≤ n2) : LyE R S0 Sa z2 n2 S2 := h.imp (fun ⟨a, b, c, d⟩ => ⟨a, b, by omega, by omega⟩) (fun ⟨S3, wh, x, P, a, b, c, d, e, f⟩ => ⟨S3, wh, x, P, a, b, c, by omega, by omega, f⟩)
/-- the laying of a typed text -/
theorem lyT_ (hK : yRm R) (hD : RDI R) (hT : R.T ≤ 3001) (hpT : R.ps R.im < R.T) (hp : R.ps R.im ≤ 1990) (hzs : R.zs ≤ 1300) (hnv : nv ≤ 10) (h : TYF R nv S0) (h3 : Zi S0 3 = 0) (h51 : ∀ u : Nat, u < 256 → Zq S0 51 u = none ∨ ∃ (a : Nat) (f : Nat → Int32), Zq S0 51 u = some a ∧ a ∈ ZL S0 ∧ ZF S0 a = .inl (R.K.1 0, 1, .inl f) ∧ f 0 = nI u) : Rt (f_layAll R.K S0) (fun S2 _ => LyE R S0 S0 29000 90000 S2) := by
  obtain ⟨hE, ⟨g, hL⟩, hFT, hM, hz, h12⟩ := enb_ hD hT hp h h3
  obtain ⟨c2, nv2, t1, t2, hS, t4⟩ := h
  obtain ⟨bw, hB, hb⟩ := bw_ hS
  have him := hD.1
  have hb2 := hb (R.ps R.im) hpT
  obtain ⟨G, tm, Y, ad, s1, s2, s3, _⟩ := hS
  have htm : tm ≤ 2000 := by have := ptN_ge (Y := Y) (tm := tm); omega
  have hz1 := s1.2.2.2.2.1
  have hz2 := s1.2.2.2.2.2.1
  have hk1 := hK.1
  have hk2 := hK.2.1
  refine (lyA_ hE hL hFT hB (fun i j a b => (hD.2.2.1 i j a b).1) hD.2.2.2.1 (fun i hi hk => ?_) (fun i j hi hj hne => hD.wi hi hj hne) h12 (by omega) ⟨by omega, by omega⟩ (lc0 h51 hz) h3).mo (fun S2 _ q => q.mo (by omega) (by omega))
  obtain ⟨_, k2, _⟩ := hD.2.2.2.2 i hi
  have := k2.2.1
  omega
end PS21
