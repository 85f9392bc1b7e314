section PS4
variable {R : yR} {S0 S S1 S2 Sr : Sg} {ws Ps Pe k n : Nat} {I : Nat → iR} {f g : Nat → Int64} {P : Nat → Prop} {x y : Int64}
theorem lv56 {k32 : Sg → Option Nat → Int32 → Option (Sg × Unit)} {k45 : Sg → Option Nat → Int32 → Int32 → Option (Sg × Unit)} {Q : Sg → Unit → Prop} (h1 : Ps ≤ k) (h2 : k < Pe) (kn : ∀ (S2 : Sg) (y2 : Int32), LvI R S0 Sr S2 ws Ps Pe I y2 k 0 → Rt (k45 S2 (some ws) y2 (nI k - 1)) Q) : ∀ (d n : Nat) (S : Sg) (x2 : Int32), (I k).sc.length < n + d → n ≤ (I k).sc.length → LvI R S0 Sr S ws Ps Pe I x2 (k + 1) n → Rt (f_spreadLives_56 R.K k32 k45 d S (some ws) x2 (nI k) (nI n)) Q
  | 0, n, S, x2, hd, hn, _ => by omega
  | d + 1, n, S, x2, hd, hn, hi => by
    have hi2 := hi
    obtain ⟨e, hC, hs, hx⟩ := hi2
    obtain ⟨s1, s2⟩ := hC.sc (n := n) h1 h2
    unfold f_spreadLives_56
    refine Rt.be (hC.fl h1 h2 hn) (Rt.it (fun w2 => ?_) (fun w2 => ?_))
    · have hnl : n = (I k).sc.length := by
        by_cases q : n < (I k).sc.length
        · obtain ⟨j, _, _, _, _, b⟩ := s2 q; exact absurd w2 b
        · omega
      rw [show nI k + (-1) = nI k - 1 from (Int32.sub_eq_add_neg _ _).symm]
      refine kn S x2 ⟨e, hC, hs, hx.imp (fun ⟨a, b, c, dd⟩ => ⟨a, b, fun k' q1 q2 j hj => ?_, fun m j hm => by omega⟩) id⟩
      by_cases ek : k' = k
      · subst ek
        obtain ⟨m, hm⟩ := List.mem_iff_getElem?.mp hj
        exact dd m j (by have := (List.getElem?_eq_some_iff.mp hm).1; omega) hm
      · exact c k' (by omega) q2 j hj
    · have hlt : n < (I k).sc.length := by
        by_cases q : n < (I k).sc.length
        · exact q
        · exact absurd (s1 (by omega)) w2
      obtain ⟨j, j1, j2, j3, j4, _⟩ := s2 hlt
      refine Rt.be (hC.fl h1 h2 hn) ?_
      rw [j2]
      refine Rt.bn (ahd_ hC j3 j4) (fun S2 _ t2 => ?_)
      obtain ⟨e2, hb2⟩ := t2
      have e58 : Zl S2 58 = Zl S 58 := e2.2.1 58 (by decide)
      have hi3 : LvI R S0 Sr S2 ws Ps Pe I x2 (k + 1) n := ⟨e.tr (e2.mo (fun r h => Or.inr h)), hC.ps e2.1, by rw [e58]; exact hs, by rw [e58]; exact hx⟩
      refine lv80 h1 h2 j1 (fun S3 y3 hi4 => lv56 h1 h2 kn d (n + 1) S3 y3 (by omega) (by omega) hi4) bigN 0 S2 x2 (by unfold bigN; omega) (Nat.zero_le _) hi3 (fun x0 => ⟨fun h hh => ?_, fun v b hv => by omega⟩)
      rw [hb2 h hh]
      rcases hx with ⟨_, b, _⟩ | ⟨b, _⟩
      · rw [b]
      · exact absurd (b.symm.trans x0) (by decide)
theorem lv45 {k32 : Sg → Option Nat → Int32 → Option (Sg × Unit)} {Q : Sg → Unit → Prop} (kn : ∀ (S2 : Sg) (y2 : Int32), LvI R S0 Sr S2 ws Ps Pe I y2 Ps 0 → Rt (k32 S2 (some ws) y2) Q) : ∀ (d kk : Nat) (S : Sg) (x2 : Int32), kk < Ps + d → Ps ≤ kk → kk ≤ Pe → LvI R S0 Sr S ws Ps Pe I x2 kk 0 → Rt (f_spreadLives_45 R.K k32 d S (some ws) x2 (nI kk - 1)) Q
  | 0, kk, S, x2, hd, _, hk, _ => by omega
  | d + 1, kk, S, x2, hd, h1, hk, hi => by
    have hC := hi.2.1
    have h24 := hC.2.1
    unfold f_spreadLives_45
    refine Rt.bd hC.r5 (Rt.it (fun w => ?_) (fun w => ?_))
    · have : kk ≤ Ps := (nI_p2 (by omega) (by omega)).mp w
      obtain rfl : kk = Ps := by omega
      exact kn S x2 hi
    · have hlt : Ps < kk := by
        by_cases q : kk ≤ Ps
        · exact absurd ((nI_p2 (by omega) (by omega)).mpr q) w
        · omega
      obtain ⟨k, rfl⟩ : ∃ k : Nat, kk = k + 1 := ⟨kk - 1, by omega⟩
      rw [nI_pred k]
      exact lv56 (by omega) (by omega) (fun S2 y2 hi2 => lv45 kn d k S2 y2 (by omega) (by omega) (by omega) hi2) bigN 0 S x2 (by unfold bigN; have := (hC.2.2.2 k (by omega) (by omega)).2.2.1; omega) (Nat.zero_le _) hi
/-- who is used behind each point -/
def LvD (I : Nat → iR) (f : Nat → Int64) (Ps Pe : Nat) : Prop := ∀ k : Nat, Ps ≤ k → k < Pe → ∀ j ∈ (I k).sc, LvC I f k j
theorem lv32 {Q : Sg → Unit → Prop} (kf : ∀ S2 : Sg, OXs (fun r => r = 58 ∨ r = 60) S S2 → PCx R S0 S2 ws Ps Pe I → LvD I (Zl S2 58) Ps Pe → Q S2 ()) : ∀ (d : Nat) (S1 : Sg) (x2 : Int32), cw (Zl S1 58) (4 * Ps) (4 * (Pe - Ps)) + 1 < d → OXs (fun r => r = 58 ∨ r = 60) S S1 → PCx R S0 S1 ws Ps Pe I → (x2 = 1 ∨ (x2 = 0 ∧ LvD I (Zl S1 58) Ps Pe)) → Rt (f_spreadLives_32 R.K d S1 (some ws) x2) Q
  | 0, S1, x2, hd, _, _, _ => by omega
  | d + 1, S1, x2, hd, e, hC, hx => by
    unfold f_spreadLives_32
    refine Rt.it (fun w => ?_) (fun w => ?_)
    · refine Rt.rt (kf S1 e hC ?_)
      rcases hx with q | q
      · rw [q] at w; exact absurd w (by decide)
      · exact q.2
    · refine Rt.bd hC.r4 ?_
      refine lv45 (Sr := S1) (fun S2 y2 hi => ?_) bigN Pe S1 0 (by unfold bigN; have := hC.2.1; omega) (Nat.le_of_lt hC.1) (Nat.le_refl _) ⟨OXs.rf, hC, sbL.rf, Or.inl ⟨rfl, rfl, fun k' q1 q2 => by omega, fun m j hm => by omega⟩⟩
      obtain ⟨e2, hC2, hs2, hx2⟩ := hi
      rcases hx2 with ⟨q1, q2, q3, q4⟩ | ⟨q1, q2⟩
      · subst q1
        cases d with
        | zero => omega
        | succ d =>
          unfold f_spreadLives_32
          exact Rt.ip rfl (Rt.rt (kf S2 (e.tr e2) hC2 (fun k a b => q3 k a b)))
      · exact lv32 kf d S2 y2 (by omega) (e.tr e2) hC2 (Or.inl q1)
theorem lv7 {Q : Sg → Unit → Prop} (kf : ∀ S2 : Sg, OXs (fun r => r = 58 ∨ r = 60) S S2 → PCx R S0 S2 ws Ps Pe I → Rt (f_spreadLives_32 R.K bigN S2 (some ws) 1) Q) : ∀ (d k : Nat) (S1 : Sg), 4 * Pe < k + d → k ≤ 4 * Pe → OXs (fun r => r = 58 ∨ r = 60) S S1 → PCx R S0 S1 ws Ps Pe I → Rt (f_spreadLives_7 R.K d S1 (some ws) (nI k)) Q
  | 0, k, S1, hd, _, _, _ => by omega
  | d + 1, k, S1, hd, hk, e, hC => by
    have h24 := hC.2.1
    unfold f_spreadLives_7
    refine Rt.bd hC.r4 ?_
    rw [nI_4]
    refine Rt.it (fun w => kf S1 e hC) (fun w => ?_)
    have hlt : k < 4 * Pe := by
      by_cases q : k < 4 * Pe
      · exact q
      · exact absurd (nI_le (a := 4 * Pe) (b := k) (by omega) (by omega)) w
    refine Rt.bd (wJ_n (show k < rlen 58 from by show k < 96000; omega) (by decide)) ?_
    rw [nI_1]
    have e2 : OXs (fun r => r = 58 ∨ r = 60) S1 (Ul S1 58 (vp_updL (Zl S1 58) k 0)) := OXs.ul (by decide) (Or.inl rfl)
    exact lv7 kf d (k + 1) _ (by omega) (by omega) (e.tr e2) (hC.ps e2.1)
/-- spreadLives -/
theorem lives_ (hC : PCx R S0 S ws Ps Pe I) : Rt (f_spreadLives R.K S (some ws)) (fun S2 _ => OXs (fun r => r = 58 ∨ r = 60) S S2 ∧ PCx R S0 S2 ws Ps Pe I ∧ LvD I (Zl S2 58) Ps Pe) := by
  have h24 := hC.2.1
  have hPP := hC.1
  unfold f_spreadLives
  refine Rt.bd hC.r5 ?_
  rw [nI_4]
  refine lv7 (fun S2 e2 hC2 => ?_) bigN (4 * Ps) S (by unfold bigN; omega) (by omega) OXs.rf hC
  exact lv32 (S := S) (fun S3 a b c => ⟨a, b, c⟩) bigN S2 1 (by unfold bigN; have := cw_b (f := Zl S2 58) (a := 4 * Ps) (m := 4 * (Pe - Ps)); omega) e2 hC2 (Or.inl rfl)
end PS4
