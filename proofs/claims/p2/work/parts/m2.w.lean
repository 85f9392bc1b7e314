theorem jT_i {k : Nat} (h : k ≤ 18) : (Int64.ofNat (10 ^ k)).toInt = (10 : Int) ^ k := by
  have h2 : 10 ^ k ≤ 10 ^ 18 := Nat.pow_le_pow_right (by decide) h
  rw [Int64.toInt_ofNat_of_lt (Nat.lt_of_le_of_lt h2 (by decide))]
  exact Int.natCast_pow 10 k
theorem jT_p {k : Nat} : (1 : Int) ≤ (10 : Int) ^ k := by
  have : 1 ≤ 10 ^ k := Nat.one_le_pow _ _ (by decide)
  have h := Int.ofNat_le.mpr this
  rw [Int.natCast_pow] at h
  exact h
theorem jT_0 {k : Nat} (h : k ≤ 18) : Int64.ofNat (10 ^ k) ≠ 0 := fun e => by
  have a := jT_i h
  rw [e] at a
  have b := jT_p (k := k)
  have : (0 : Int64).toInt = 0 := rfl
  omega
theorem jT_18 {x : Int64} : ¬ x / Int64.ofNat (10 ^ 18) > 9 ∧ ¬ x / Int64.ofNat (10 ^ 18) < -9 := by
  have e := Int64.toInt_div_of_ne_right x (Int64.ofNat (10 ^ 18)) (by decide)
  rw [show (Int64.ofNat (10 ^ 18)).toInt = 1000000000000000000 from rfl] at e
  have h1 := Int64.toInt_lt x
  have h2 := Int64.le_toInt x
  have h9 : (9 : Int64).toInt = 9 := rfl
  have h8 : (-9 : Int64).toInt = -9 := rfl
  constructor
  · intro w
    have w := Int64.lt_iff_toInt_lt.mp w
    rw [e, h9] at w
    by_cases q : 0 ≤ x.toInt
    · rw [Int.tdiv_eq_ediv_of_nonneg q] at w; omega
    · have t1 := Int.neg_tdiv (a := -x.toInt) (b := 1000000000000000000)
      have t2 := Int.tdiv_eq_ediv_of_nonneg (a := -x.toInt) (b := 1000000000000000000) (by omega)
      rw [Int.neg_neg, t2] at t1
      omega
  · intro w
    have w := Int64.lt_iff_toInt_lt.mp w
    rw [e, h8] at w
    by_cases q : 0 ≤ x.toInt
    · rw [Int.tdiv_eq_ediv_of_nonneg q] at w; omega
    · have t1 := Int.neg_tdiv (a := -x.toInt) (b := 1000000000000000000)
      have t2 := Int.tdiv_eq_ediv_of_nonneg (a := -x.toInt) (b := 1000000000000000000) (by omega)
      rw [Int.neg_neg, t2] at t1
      omega
theorem d10 {x : Int64} (h : 0 ≤ x.toInt) : (x / 10).toInt = x.toInt / 10 := by
  rw [Int64.toInt_div_of_ne_right x 10 (by decide), show (10 : Int64).toInt = 10 from rfl, Int.tdiv_eq_ediv_of_nonneg h]
theorem i4000 {a : Nat} (h : a < 8000) : Int32.ofNat a - Int32.ofNat a / 4000 * 4000 = Int32.ofNat (a % 4000) := by
  have e : Int32.ofNat a / 4000 = Int32.ofNat (a / 4000) := by
    refine Int32.toInt_inj.mp ?_
    rw [Int32.toInt_div_of_ne_right _ _ (by decide), show (4000 : Int32).toInt = 4000 from rfl, Int32.toInt_ofNat_of_lt (by omega), Int32.toInt_ofNat_of_lt (by omega), Int.tdiv_eq_ediv_of_nonneg (by omega)]
    omega
  rw [e, show (4000 : Int32) = Int32.ofNat 4000 from rfl, ← Int32.ofNat_mul, Int32.ofNat_sub _ _ (by omega) |>.symm]
  congr 1
  omega
/-- only what is written for the reader changes -/
def WO (S S2 : Sg) : Prop := ZL S2 = ZL S ∧ ZF S2 = ZF S ∧ (Zz S2 = Zz S ∧ Zn S2 = Zn S) ∧ Zq S2 = Zq S ∧ Zf S2 = Zf S ∧ Zl S2 = Zl S ∧ (∀ r : Nat, r ≠ 82 → Zr S2 r = Zr S r) ∧ ∀ j : Nat, j ≠ 84 → Zi S2 j = Zi S j
/-- the queue of what is written is inside -/
def wq (S : Sg) : Prop := ∃ f l : Nat, Zi S 83 = nI f ∧ f < 4000 ∧ Zi S 84 = nI l ∧ l ≤ 4000
section PS22
variable {K : Ky} {S S1 S2 : Sg}
theorem WO.rf : WO S S := ⟨rfl, rfl, ⟨rfl, rfl⟩, rfl, rfl, rfl, fun _ _ => rfl, fun _ _ => rfl⟩
theorem WO.tr (a : WO S S1) (b : WO S1 S2) : WO S S2 := ⟨b.1.trans a.1, b.2.1.trans a.2.1, ⟨b.2.2.1.1.trans a.2.2.1.1, b.2.2.1.2.trans a.2.2.1.2⟩, b.2.2.2.1.trans a.2.2.2.1, b.2.2.2.2.1.trans a.2.2.2.2.1, b.2.2.2.2.2.1.trans a.2.2.2.2.2.1, fun r h => (b.2.2.2.2.2.2.1 r h).trans (a.2.2.2.2.2.2.1 r h), fun r h => (b.2.2.2.2.2.2.2 r h).trans (a.2.2.2.2.2.2.2 r h)⟩
theorem nI_4000 {a : Nat} (h : a < 8000) : nI a - nI a / 4000 * 4000 = nI (a % 4000) := i4000 h
/-- write -/
theorem wrt_ {b : Int32} (h : wq S) : Rt (f_write K S b) (fun S2 _ => WO S S2 ∧ wq S2) := by
  have h0 := h
  obtain ⟨f, l, h1, h2, h3, h4⟩ := h
  unfold f_write
  refine Rt.it (fun w => Rt.rt ⟨WO.rf, h0⟩) (fun w => Rt.bd (show nzI 4000 = some () from rfl) ?_)
  have hl : l < 4000 := by
    rcases Nat.lt_or_ge l 4000 with q | q
    · exact q
    · exact absurd (by rw [h3, show l = 4000 by omega]; rfl) w
  rw [h1, h3, nI_add, nI_4000 (by omega)]
  refine Rt.bd (wRI_n (show (f + l) % 4000 < rlen 82 from by show _ < 4000; omega) (by decide)) ?_
  refine Rt.bd (v := Ui (Ur S 82 (upd (Zr S 82) ((f + l) % 4000) b)) 84 (nI (l + 1))) (by
    show some (Ui _ 84 (Zi S 84 + 1)) = _
    rw [h3, nI_1]) (Rt.rt ⟨⟨rfl, rfl, ⟨rfl, rfl⟩, rfl, rfl, rfl, fun r hr => va_up_ne _ _ hr, fun j hj => Zi_n hj⟩, f, l + 1, ?_, h2, Zi_s, by omega⟩)
  exact (Zi_n (by decide)).trans h1
theorem wn46 : ∀ (d n : Nat) (S1 : Sg) (x y : Int64), n < d → 0 ≤ y.toInt → y.toInt < (10 : Int) ^ n → WO S S1 → wq S1 → Rt (f_writeNumber_46 K d S1 x y) (fun S2 _ => WO S S2 ∧ wq S2)
  | 0, n, S1, x, y, hd, _, _, _, _ => by omega
  | d + 1, n, S1, x, y, hd, h0, h1, e, hq => by
    unfold f_writeNumber_46
    refine Rt.it (fun w => Rt.rt ⟨e, hq⟩) (fun w => ?_)
    have hy : y ≠ 0 := fun e9 => w (by rw [e9]; decide)
    have hy2 : 1 ≤ y.toInt := by
      rcases Int.lt_or_eq_of_le h0 with q | q
      · exact q
      · exact absurd (Int64.toInt_inj.mp (show y.toInt = (0 : Int64).toInt from q.symm)) hy
    cases n with
    | zero => rw [Int.pow_zero] at h1; omega
    | succ n =>
      rw [Int.pow_succ] at h1
      have go : ∀ a b : Int64, Rt (f_writeNumber_82 K (f_writeNumber_46 K d) S1 x y a b) (fun S2 _ => WO S S2 ∧ wq S2) := fun a b => by
        unfold f_writeNumber_82
        refine Rt.bn (wrt_ hq) (fun S2 _ t2 => Rt.bd (show nzL 10 = some () from rfl) ?_)
        have e10 := d10 h0
        exact wn46 d n S2 x (y / 10) (by omega) (by omega) (by omega) (e.tr t2.1) t2.2
      exact Rt.bd (show nzL y = some () from if_neg hy) (Rt.bd (show nzL 10 = some () from rfl) (Rt.it (fun _ => go _ _) (fun _ => go _ _)))
theorem wn14 : ∀ (d k : Nat) (x : Int64), 19 ≤ k + d → k ≤ 18 → 1 ≤ d → wq S → Rt (f_writeNumber_14 K d S x (Int64.ofNat (10 ^ k))) (fun S2 _ => WO S S2 ∧ wq S2)
  | 0, k, x, hd, hk, h1, hq => by omega
  | d + 1, k, x, hd, hk, h1, hq => by
    have nz : nzL (Int64.ofNat (10 ^ k)) = some () := if_neg (jT_0 hk)
    have go : k < 18 → Rt (f_writeNumber_34 K (f_writeNumber_14 K d) S x (Int64.ofNat (10 ^ k))) (fun S2 _ => WO S S2 ∧ wq S2) := fun h => by
      unfold f_writeNumber_34
      rw [show Int64.ofNat (10 ^ k) * 10 = Int64.ofNat (10 ^ (k + 1)) by rw [Nat.pow_succ, Int64.ofNat_mul]; rfl]
      exact wn14 d (k + 1) x (by omega) (by omega) (by omega) hq
    unfold f_writeNumber_14
    refine Rt.bd nz (Rt.it (fun w => go ?_) (fun w => Rt.bd nz (Rt.it (fun w2 => ?_) (fun w2 => go ?_))))
    · rcases Nat.lt_or_ge k 18 with q | q
      · exact q
      · obtain rfl : k = 18 := by omega
        refine absurd ?_ (jT_18 (x := x)).1
        unfold lg_cmp at w
        by_cases q1 : x / Int64.ofNat (10 ^ 18) > 9
        · exact q1
        · rw [if_neg q1] at w
          by_cases q2 : x / Int64.ofNat (10 ^ 18) = 9
          · rw [if_pos q2] at w; exact absurd w (by decide)
          · rw [if_neg q2] at w; exact absurd w (by decide)
    · refine wn46 bigN (k + 1) S x _ (by unfold bigN; omega) (by rw [jT_i hk]; have := jT_p (k := k); omega) (by rw [jT_i hk, Int.pow_succ]; have := jT_p (k := k); omega) WO.rf hq
    · rcases Nat.lt_or_ge k 18 with q | q
      · exact q
      · obtain rfl : k = 18 := by omega
        refine absurd ?_ (jT_18 (x := x)).2
        unfold lg_cmp at w2
        by_cases q1 : x / Int64.ofNat (10 ^ 18) > -9
        · rw [if_pos q1] at w2; exact absurd (by decide) w2
        · rw [if_neg q1] at w2
          by_cases q2 : x / Int64.ofNat (10 ^ 18) = -9
          · rw [if_pos q2] at w2; exact absurd (by decide) w2
          · exact Int64.lt_of_le_of_ne (Int64.not_lt.mp q1) q2
/-- writeNumber -/
theorem wnm_ {x : Int64} (h : wq S) : Rt (f_writeNumber K S x) (fun S2 _ => WO S S2 ∧ wq S2) := by
  unfold f_writeNumber f_writeNumber_12
  refine Rt.it (fun _ => ?_) (fun _ => ?_)
  · exact wn14 (S := S) bigN 0 x (by unfold bigN; omega) (by omega) (by unfold bigN; omega) h
  · refine Rt.bn (wrt_ h) (fun S2 _ t2 => ?_)
    exact (wn14 (S := S2) bigN 0 x (by unfold bigN; omega) (by omega) (by unfold bigN; omega) t2.2).mo (fun S3 _ q => ⟨t2.1.tr q.1, q.2⟩)
end PS22
