/-- of the heap only the cells of A are written -/
def HO (A : Nat → Prop) (S S2 : Sg) : Prop := ZL S2 = ZL S ∧ ZF S2 = ZF S ∧ (Zz S2 = Zz S ∧ Zn S2 = Zn S) ∧ Zq S2 = Zq S ∧ Zf S2 = Zf S ∧ Zl S2 = Zl S ∧ (∀ r : Nat, r ≠ 67 → Zr S2 r = Zr S r) ∧ (∀ j : Nat, j ≠ 68 → j ≠ 69 → Zi S2 j = Zi S j) ∧ ∀ q : Nat, ¬ A q → Zr S2 67 q = Zr S 67 q
/-- the inputs alone change -/
def InO (S S2 : Sg) : Prop := ZL S2 = ZL S ∧ ZF S2 = ZF S ∧ (Zz S2 = Zz S ∧ Zn S2 = Zn S) ∧ Zq S2 = Zq S ∧ Zf S2 = Zf S ∧ (∀ r : Nat, r ≠ 85 → Zl S2 r = Zl S r) ∧ Zr S2 = Zr S ∧ ∀ j : Nat, j ≠ 86 → Zi S2 j = Zi S j
section PS31
variable {K : Ky} {S S1 S2 : Sg} {A : Nat → Prop}
theorem HO.rf : HO A S S := ⟨rfl, rfl, ⟨rfl, rfl⟩, rfl, rfl, rfl, fun _ _ => rfl, fun _ _ _ => rfl, fun _ _ => rfl⟩
theorem HO.tr (a : HO A S S1) (b : HO A S1 S2) : HO A S S2 := ⟨b.1.trans a.1, b.2.1.trans a.2.1, ⟨b.2.2.1.1.trans a.2.2.1.1, b.2.2.1.2.trans a.2.2.1.2⟩, b.2.2.2.1.trans a.2.2.2.1, b.2.2.2.2.1.trans a.2.2.2.2.1, b.2.2.2.2.2.1.trans a.2.2.2.2.2.1, fun r h => (b.2.2.2.2.2.2.1 r h).trans (a.2.2.2.2.2.2.1 r h), fun r h h2 => (b.2.2.2.2.2.2.2.1 r h h2).trans (a.2.2.2.2.2.2.2.1 r h h2), fun q h => (b.2.2.2.2.2.2.2.2 q h).trans (a.2.2.2.2.2.2.2.2 q h)⟩
theorem HO.w {q : Nat} {v : Int32} (h : A q) : HO A S (Ur S 67 (upd (Zr S 67) q v)) := ⟨rfl, rfl, ⟨rfl, rfl⟩, rfl, rfl, rfl, fun r hr => Zr_u9 hr, fun _ _ _ => rfl, fun p hp => by rw [Zr_us]; exact upd_n (fun e : p = q => hp (by rw [e]; exact h))⟩
/-- cells of the heap are given back -/
theorem fb15 {p m : Nat} (hp : p + m ≤ 4000) : ∀ (d k : Nat) (S1 : Sg), m < k + d → k ≤ m → HO (fun q => p ≤ q ∧ q < p + m) S S1 → Zi S1 68 = Zi S 68 → (∀ q : Nat, p ≤ q → q < p + k → Zr S1 67 q = 0) → Rt (f_freeBlock_15 K d S1 (nI m) (nI p) (nI k)) (fun S2 _ => HO (fun q => p ≤ q ∧ q < p + m) S S2 ∧ Zi S2 68 = Zi S 68 - nI m ∧ Zi S2 69 = Zi S1 69 ∧ ∀ q : Nat, p ≤ q → q < p + m → Zr S2 67 q = 0)
  | 0, k, S1, hd, hk, _, _, _ => by omega
  | d + 1, k, S1, hd, hk, e, h68, hz => by
    unfold f_freeBlock_15
    refine Rt.it (fun w => ?_) (fun w => ?_)
    · have : m ≤ k := (nI_leI (by omega) (by omega)).mp w
      obtain rfl : k = m := by omega
      refine Rt.bd (v := Ui S1 68 (Zi S1 68 - nI k)) rfl (Rt.rt ⟨e.tr ⟨rfl, rfl, ⟨rfl, rfl⟩, rfl, rfl, rfl, fun _ _ => rfl, fun j h1 h2 => Zi_n h1, fun _ _ => rfl⟩, ?_, Zi_n (by decide), hz⟩)
      rw [← h68]; exact Zi_s
    · have hlt : k < m := by
        by_cases q : k < m
        · exact q
        · exact absurd (nI_le (a := m) (b := k) (by omega) (by omega)) w
      rw [nI_add]
      refine Rt.bd (wZ_n (show p + k < rlen 67 from by show _ < 4000; omega) (by decide) (Or.inl rfl)) ?_
      rw [nI_1]
      have e2 : HO (fun q => p ≤ q ∧ q < p + m) S1 (Ur S1 67 (upd (Zr S1 67) (p + k) 0)) := HO.w ⟨by omega, by omega⟩
      refine (fb15 hp d (k + 1) _ (by omega) (by omega) (e.tr e2) h68 (fun q q1 q2 => ?_)).mo (fun S2 _ q => q)
      rw [Zr_us]
      by_cases w2 : q = p + k
      · rw [w2, upd_s]
      · rw [upd_n w2]; exact hz q q1 (by omega)
theorem InO.rf : InO S S := ⟨rfl, rfl, ⟨rfl, rfl⟩, rfl, rfl, fun _ _ => rfl, rfl, fun _ _ => rfl⟩
theorem InO.tr (a : InO S S1) (b : InO S1 S2) : InO S S2 := ⟨b.1.trans a.1, b.2.1.trans a.2.1, ⟨b.2.2.1.1.trans a.2.2.1.1, b.2.2.1.2.trans a.2.2.1.2⟩, b.2.2.2.1.trans a.2.2.2.1, b.2.2.2.2.1.trans a.2.2.2.2.1, fun r h => (b.2.2.2.2.2.1 r h).trans (a.2.2.2.2.2.1 r h), b.2.2.2.2.2.2.1.trans a.2.2.2.2.2.2.1, fun r h => (b.2.2.2.2.2.2.2 r h).trans (a.2.2.2.2.2.2.2 r h)⟩
theorem in28 {c : Nat} {x : Int64} (hc : c < 60) : ∀ (d k : Nat) (S1 : Sg), c < k + d → k ≤ c → InO S S1 → Zi S1 86 = nI c → Rt (f_nextInput_28 K d S1 x (nI k)) (fun S2 _ => InO S S2 ∧ Zi S2 86 = nI c)
  | 0, k, S1, hd, hk, _, _ => by omega
  | d + 1, k, S1, hd, hk, e, h86 => by
    unfold f_nextInput_28
    rw [h86]
    refine Rt.it (fun w => Rt.rt ⟨e, h86⟩) (fun w => ?_)
    have hlt : k < c := by
      by_cases q : k < c
      · exact q
      · exact absurd (nI_le (a := c) (b := k) (by omega) (by omega)) w
    rw [nI_1]
    refine Rt.bd (rJ_n (show k + 1 < rlen 85 from by show _ < 60; omega) (by decide)) (Rt.bd (wJ_n (show k < rlen 85 from by show k < 60; omega) (by decide)) ?_)
    exact in28 hc d (k + 1) _ (by omega) (by omega) (e.tr ⟨rfl, rfl, ⟨rfl, rfl⟩, rfl, rfl, fun r hr => Zl_un hr, rfl, fun _ _ => rfl⟩) h86
/-- nextInput -/
theorem nin_ {c : Nat} (h : Zi S 86 = nI c) (hc : c ≤ 60) : Rt (f_nextInput K S) (fun S2 _ => InO S S2 ∧ ∃ c2 : Nat, c2 ≤ c ∧ Zi S2 86 = nI c2) := by
  unfold f_nextInput
  refine Rt.it (fun w => Rt.rt ⟨InO.rf, c, Nat.le_refl _, h⟩) (fun w => ?_)
  cases c with
  | zero => exact absurd h w
  | succ c =>
    refine Rt.bd (rJ_n (j := 0) (show 0 < rlen 85 from by decide) (by decide)) (Rt.bd (v := Ui S 86 (nI c)) (by show some (Ui S 86 (Zi S 86 - 1)) = _; rw [h, nI_pred c]) ?_)
    exact (in28 (S := S) (by omega) bigN 0 (Ui S 86 (nI c)) (by unfold bigN; omega) (Nat.zero_le _) ⟨rfl, rfl, ⟨rfl, rfl⟩, rfl, rfl, fun _ _ => rfl, rfl, fun j hj => Zi_n hj⟩ Zi_s).mo (fun S2 _ ⟨q1, q2⟩ => ⟨q1, c, by omega, q2⟩)
end PS31
