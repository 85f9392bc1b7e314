theorem nI_bv (a : Nat) : (nI a).toBitVec = BitVec.ofNat 32 a := rfl
theorem nI_ofb {x : Int32} {a : Nat} (h : x.toBitVec = BitVec.ofNat 32 a) : x = nI a := Int32.toBitVec_inj.mp (h.trans (nI_bv a).symm)
theorem sh5 (k : Nat) (h : k < 32) : ((nI k &&& 31 : Int32).toBitVec.smod 32).toNat = k := by
  have : ∀ v : Fin 32, ((nI v.1 &&& 31 : Int32).toBitVec.smod 32).toNat = v.1 := by decide
  exact this ⟨k, h⟩
theorem nI_shl {a k : Nat} (h : k < 32) : nI a <<< (nI k &&& 31) = nI (a * 2 ^ k) := by
  refine nI_ofb ?_
  rw [Int32.toBitVec_shiftLeft, BitVec.shiftLeft_eq', sh5 k h, nI_bv]
  apply BitVec.eq_of_toNat_eq
  rw [BitVec.toNat_shiftLeft, BitVec.toNat_ofNat, BitVec.toNat_ofNat, Nat.shiftLeft_eq]
  rw [Nat.mod_mul_mod]
theorem nI_and15 (a : Nat) : nI a &&& 15 = nI (a % 16) := by
  refine nI_ofb ?_
  rw [Int32.toBitVec_and, nI_bv]
  apply BitVec.eq_of_toNat_eq
  rw [BitVec.toNat_and, BitVec.toNat_ofNat, BitVec.toNat_ofNat]
  show (a % 2 ^ 32) &&& 15 = a % 16 % 2 ^ 32
  rw [show (15 : Nat) = 2 ^ 4 - 1 by decide, Nat.and_two_pow_sub_one_eq_mod]
  omega
theorem nI_or {a c k : Nat} (h : a < 2 ^ k) : nI a ||| nI (c * 2 ^ k) = nI (a + c * 2 ^ k) := by
  refine nI_ofb ?_
  rw [Int32.toBitVec_or, nI_bv, nI_bv, ← BitVec.ofNat_or]
  congr 1
  have := Nat.shiftLeft_add_eq_or_of_lt h c
  rw [Nat.shiftLeft_eq] at this
  rw [Nat.or_comm, ← this, Nat.add_comm]
theorem nI_shr {a k : Nat} (ha : a < 2 ^ 31) (h : k < 32) : nI a >>> (nI k &&& 31) = nI (a / 2 ^ k) := by
  refine nI_ofb ?_
  rw [Int32.toBitVec_shiftRight, nI_bv]
  apply BitVec.eq_of_toNat_eq
  rw [BitVec.sshiftRight_eq', sh5 k h]
  rw [BitVec.sshiftRight_eq_of_msb_false (by rw [BitVec.msb_eq_decide]; simp; omega)]
  rw [BitVec.toNat_ushiftRight, BitVec.toNat_ofNat, BitVec.toNat_ofNat, Nat.shiftRight_eq_div_pow, Nat.mod_eq_of_lt (by omega : a < 2 ^ 32)]
  have : a / 2 ^ k ≤ a := Nat.div_le_self _ _
  rw [Nat.mod_eq_of_lt (by omega)]
