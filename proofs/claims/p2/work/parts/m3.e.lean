section PS30
variable {K : Ky} {S S1 S2 : Sg}
theorem nI_sm {k m : Nat} (h : m ≤ k + 1) : nI k - nI m + 1 = nI (k + 1 - m) := by
  rw [Int32.sub_eq_add_neg, Int32.add_assoc, Int32.add_comm (-nI m) 1, ← Int32.add_assoc, nI_1, ← Int32.sub_eq_add_neg]
  exact (Int32.ofNat_sub (k + 1) m h).symm
theorem fr4 {H m : Nat} (h66 : Zi S 66 = nI H) (hH : H ≤ 4000) (hm : 1 ≤ m) (hm2 : m < 100000) : ∀ (d k u : Nat), H < k + d → k ≤ H → u ≤ k → u < m → (∀ q : Nat, k ≤ q + u → q < k → Zr S 67 q = 0) → Rt (f_findRoom_4 K d S (nI m) (nI u) (nI k)) (fun S2 r => S2 = S ∧ (r = -1 ∨ ∃ p : Nat, r = nI p ∧ p + m ≤ H ∧ ∀ q : Nat, p ≤ q → q < p + m → Zr S 67 q = 0))
  | 0, k, u, hd, hk, _, _, _ => by omega
  | d + 1, k, u, hd, hk, h1, h2, h3 => by
    unfold f_findRoom_4
    rw [h66]
    refine Rt.it (fun w => Rt.rt ⟨rfl, Or.inl rfl⟩) (fun w => ?_)
    have hlt : k < H := by
      by_cases q : k < H
      · exact q
      · exact absurd (nI_le (a := H) (b := k) (by omega) (by omega)) w
    refine Rt.bd (rI_n (show k < rlen 67 from by show k < 4000; omega) (by decide)) (Rt.it (fun w0 => ?_) (fun w0 => ?_))
    · rw [nI_1]
      unfold f_findRoom_28
      refine Rt.it (fun w1 => ?_) (fun w1 => ?_)
      · have em : u + 1 = m := nI_e (by omega) (by omega) w1
        rw [nI_sm (by omega)]
        refine Rt.rt ⟨rfl, Or.inr ⟨k + 1 - m, rfl, by omega, fun q q1 q2 => ?_⟩⟩
        by_cases e : q = k
        · rw [e]; exact w0
        · exact h3 q (by omega) (by omega)
      · rw [nI_1]
        have : u + 1 ≠ m := fun e => w1 (by rw [e])
        refine fr4 h66 hH hm hm2 d (k + 1) (u + 1) (by omega) (by omega) (by omega) (by omega) (fun q q1 q2 => ?_)
        by_cases e : q = k
        · rw [e]; exact w0
        · exact h3 q (by omega) (by omega)
    · unfold f_findRoom_28
      refine Rt.iq (fun w1 => ?_) ?_
      · have := nI_e (a := 0) (b := m) (by omega) (by omega) w1; omega
      · rw [nI_1]
        exact fr4 h66 hH hm hm2 d (k + 1) 0 (by omega) (by omega) (by omega) (by omega) (fun q q1 q2 => by omega)
/-- findRoom -/
theorem fnr_ {H m : Nat} (h66 : Zi S 66 = nI H) (hH : H ≤ 4000) (hm : 1 ≤ m) (hm2 : m < 100000) : Rt (f_findRoom K S (nI m)) (fun S2 r => S2 = S ∧ (r = -1 ∨ ∃ p : Nat, r = nI p ∧ p + m ≤ H ∧ ∀ q : Nat, p ≤ q → q < p + m → Zr S 67 q = 0)) := by
  unfold f_findRoom
  exact fr4 h66 hH hm hm2 bigN 0 0 (by unfold bigN; omega) (Nat.zero_le _) (Nat.le_refl _) (by omega) (fun q q1 q2 => by omega)
theorem nI_m8 (n : Nat) : nI (n + 8) + (-8) = nI n := by
  rw [← nI_add, Int32.add_assoc, show nI 8 + (-8) = 0 by decide, Int32.add_zero]
theorem ww3 {x : Int64} : ∀ (n d : Nat) (S1 : Sg), n ≤ 7 → n + 1 < d → WO S S1 → wq S1 → Rt (f_writeWord_3 K d S1 x (nI (8 * n))) (fun S2 _ => WO S S2 ∧ wq S2)
  | n, 0, S1, _, hd, _, _ => by omega
  | n, d + 1, S1, hn, hd, e, hq => by
    have go : ∀ S2 : Sg, WO S S2 → wq S2 → Rt (f_writeWord_31 K (f_writeWord_3 K d) S2 x (nI (8 * n))) (fun S2 _ => WO S S2 ∧ wq S2) := fun S2 e2 q2 => by
      unfold f_writeWord_31
      cases n with
      | zero =>
        cases d with
        | zero => omega
        | succ d =>
          unfold f_writeWord_3
          exact Rt.ip (by decide) (Rt.rt ⟨e2, q2⟩)
      | succ n =>
        rw [show 8 * (n + 1) = 8 * n + 8 by omega, nI_m8]
        exact ww3 n d S2 (by omega) (by omega) e2 q2
    unfold f_writeWord_3
    refine Rt.iq (nI_nn (by omega)) (Rt.it (fun _ => go S1 e hq) (fun _ => ?_))
    refine Rt.bn (wrt_ hq) (fun S2 _ t2 => go S2 (e.tr t2.1) t2.2)
/-- writeWord -/
theorem wrw_ {x : Int64} (h : wq S) : Rt (f_writeWord K S x) (fun S2 _ => WO S S2 ∧ wq S2) := by
  unfold f_writeWord
  exact ww3 (S := S) 7 bigN S (by omega) (by unfold bigN; omega) WO.rf h
end PS30
