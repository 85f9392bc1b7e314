theorem nL_o {a : Nat} (h : a < 2 ^ 31) : nL a = Int64.ofNat a := by
  refine Int64.toInt_inj.mp ?_
  unfold nL
  rw [Int32.toInt_toInt64, Int64.toInt_ofNat_of_lt (by omega)]
  exact Int32.toInt_ofNat_of_lt (by omega)
theorem jo_32 {a : Nat} (h : a < 2 ^ 31) : Int64.toInt32 (Int64.ofNat a) = nI a := by
  rw [← nL_o h]; exact nL_t
theorem jo_bv (a : Nat) : (Int64.ofNat a).toBitVec = BitVec.ofNat 64 a := rfl
theorem jo_s20 {b : Nat} : Int64.ofNat b <<< (Int32.toInt64 20 &&& 63) = Int64.ofNat (b * 2 ^ 20) := by
  refine Int64.toBitVec_inj.mp ?_
  rw [Int64.toBitVec_shiftLeft, BitVec.shiftLeft_eq', show ((Int32.toInt64 20 &&& 63 : Int64).toBitVec.smod 64).toNat = 20 by decide, jo_bv, jo_bv]
  apply BitVec.eq_of_toNat_eq
  rw [BitVec.toNat_shiftLeft, BitVec.toNat_ofNat, BitVec.toNat_ofNat, Nat.shiftLeft_eq]
  rw [Nat.mod_mul_mod]
theorem jo_s40 {b : Nat} : Int64.ofNat b <<< (Int32.toInt64 40 &&& 63) = Int64.ofNat (b * 2 ^ 40) := by
  refine Int64.toBitVec_inj.mp ?_
  rw [Int64.toBitVec_shiftLeft, BitVec.shiftLeft_eq', show ((Int32.toInt64 40 &&& 63 : Int64).toBitVec.smod 64).toNat = 40 by decide, jo_bv, jo_bv]
  apply BitVec.eq_of_toNat_eq
  rw [BitVec.toNat_shiftLeft, BitVec.toNat_ofNat, BitVec.toNat_ofNat, Nat.shiftLeft_eq]
  rw [Nat.mod_mul_mod]
theorem jo_r {n k : Nat} {s : Int64} (hs : (s.toBitVec.smod 64).toNat = k) (h : n < 2 ^ 63) : Int64.ofNat n >>> s = Int64.ofNat (n / 2 ^ k) := by
  refine Int64.toBitVec_inj.mp ?_
  rw [Int64.toBitVec_shiftRight, jo_bv, jo_bv]
  apply BitVec.eq_of_toNat_eq
  rw [BitVec.sshiftRight_eq', hs]
  rw [BitVec.sshiftRight_eq_of_msb_false (by rw [BitVec.msb_eq_decide]; simp; omega)]
  rw [BitVec.toNat_ushiftRight, BitVec.toNat_ofNat, BitVec.toNat_ofNat, Nat.shiftRight_eq_div_pow, Nat.mod_eq_of_lt (by omega : n < 2 ^ 64)]
  have : n / 2 ^ k ≤ n := Nat.div_le_self _ _
  rw [Nat.mod_eq_of_lt (by omega)]
theorem jo_a {n : Nat} : Int64.ofNat n &&& 1048575 = Int64.ofNat (n % 2 ^ 20) := by
  refine Int64.toBitVec_inj.mp ?_
  rw [Int64.toBitVec_and, jo_bv, jo_bv]
  apply BitVec.eq_of_toNat_eq
  rw [BitVec.toNat_and, BitVec.toNat_ofNat, BitVec.toNat_ofNat]
  show (n % 2 ^ 64) &&& 1048575 = n % 2 ^ 20 % 2 ^ 64
  rw [show (1048575 : Nat) = 2 ^ 20 - 1 by decide, Nat.and_two_pow_sub_one_eq_mod]
  omega
theorem jo_w {a b c : Nat} (ha : a < 2 ^ 20) (hb : b < 2 ^ 20) (hc : c < 2 ^ 20) : kdW (Int64.ofNat (a + b * 2 ^ 20 + c * 2 ^ 40)) = nI a ∧ vrW (Int64.ofNat (a + b * 2 ^ 20 + c * 2 ^ 40)) = nI b ∧ blW (Int64.ofNat (a + b * 2 ^ 20 + c * 2 ^ 40)) = nI c := by
  refine ⟨?_, ?_, ?_⟩
  · unfold kdW
    rw [jo_a, show (a + b * 2 ^ 20 + c * 2 ^ 40) % 2 ^ 20 = a by omega, jo_32 (by omega)]
  · unfold vrW
    rw [jo_r (k := 20) (by decide) (by omega), jo_a, show (a + b * 2 ^ 20 + c * 2 ^ 40) / 2 ^ 20 % 2 ^ 20 = b by omega, jo_32 (by omega)]
  · unfold blW
    rw [jo_r (k := 40) (by decide) (by omega), show (a + b * 2 ^ 20 + c * 2 ^ 40) / 2 ^ 40 = c by omega, jo_32 (by omega)]
/-- the worth of a box's node -/
theorem wth_b {a b c : Nat} (ha : a < 2 ^ 20) (hb : b < 2 ^ 20) (hc : c < 2 ^ 20) : kdW (nL a + (nL b <<< (Int32.toInt64 20 &&& 63)) + (nL c <<< (Int32.toInt64 40 &&& 63))) = nI a ∧ vrW (nL a + (nL b <<< (Int32.toInt64 20 &&& 63)) + (nL c <<< (Int32.toInt64 40 &&& 63))) = nI b ∧ blW (nL a + (nL b <<< (Int32.toInt64 20 &&& 63)) + (nL c <<< (Int32.toInt64 40 &&& 63))) = nI c := by
  rw [nL_o (by omega : a < 2 ^ 31), nL_o (by omega : b < 2 ^ 31), nL_o (by omega : c < 2 ^ 31), jo_s20, jo_s40, ← Int64.ofNat_add, ← Int64.ofNat_add]
  exact jo_w ha hb hc
/-- .. of an enum's node -/
theorem wth_e {a b : Nat} (ha : a < 2 ^ 20) (hb : b < 2 ^ 20) : kdW (nL a + (nL b <<< (Int32.toInt64 20 &&& 63))) = nI a ∧ vrW (nL a + (nL b <<< (Int32.toInt64 20 &&& 63))) = nI b := by
  rw [nL_o (by omega : a < 2 ^ 31), nL_o (by omega : b < 2 ^ 31), jo_s20, ← Int64.ofNat_add]
  have h := jo_w (c := 0) ha hb (by decide)
  rw [Nat.zero_mul, Nat.add_zero] at h
  exact ⟨h.1, h.2.1⟩
section PS79
variable {R : yR} {K : Ky} {S0 Sl S S1 S2 S3 : Sg} {g : Nat → Int32} {z T t k : Nat} {W : qV} {xv : Int64} {l h fl : List Nat}
/-- sizeOf, while it runs -/
theorem szr_ (hL : LFS R S0 g) (hx : LX S0 Sl) (e : RNx Sl S) (hr : rTy S0 z) : f_sizeOf R.K (f_sizeOfItem R.K 80) S (some z) = some (S, nI (szN R S0 (abT S0 z))) := by
  obtain ⟨kd, ix, o, q, _⟩ := hr.ty
  obtain ⟨tn, _, _, xl, xf⟩ := e.ty (hx.ty q)
  have o0 : oI S 20 (some z) 0 = some kd := oI_mk xl xf rfl
  have o1 : oI S 20 (some z) 1 = some ix := oI_mk xl xf rfl
  have item : ∀ i : Nat, i < R.im → R.ik i ≠ 12 → ix = nI i → abT S0 z = 4 + i → (yK R S0 (abT S0 z) = 2 ∨ yK R S0 (abT S0 z) = 3) → f_sizeOf_16 R.K (f_sizeOfItem R.K 80) S (some z) = some (S, nI (szN R S0 (abT S0 z))) := fun i hi hne ei et hk => by
    obtain ⟨s, s1, ⟨fs, g1, g2, g3, g4⟩, _⟩ := hL.2.2.2.2.1 i hi hne
    have w1 : R.ws i ∈ ZL S0 := hL.2.1 _ (hL.2.2.1 i hi).1.1
    have hs : szN R S0 (abT S0 z) = s := by
      unfold szN
      rw [if_pos hk, et, show 4 + i - 4 = i by omega, obF_o g1, fN_i g2 (by omega)]
    obtain ⟨c1, f2, c2, c3, c4⟩ := hx.it w1 g1
    have o19 : oI S 16 (some (R.ws i)) 19 = some (nI s) := oI_mk (by rw [e.1]; exact c1) (by rw [e.2.1]; exact c2) (by rw [c4 19 (by decide) (Or.inl (by decide))]; exact g2)
    have hit : f_sizeOfItem R.K 80 S (some (R.ws i)) = some (S, nI s) := by
      rw [show (80 : Nat) = 79 + 1 from rfl, f_sizeOfItem, o19]
      simp only [Option.bind_some]
      rw [if_neg (fun w => by have := nI_le0 (by omega) w; omega)]
    unfold f_sizeOf_16
    rw [o1]
    simp only [Option.bind_some]
    rw [ei, it11r hL hx e hi]
    simp only [Option.bind_some]
    rw [hit, hs]
    rfl
  have oth : kd ≠ 3 → kd ≠ 4 → szN R S0 (abT S0 z) = 1 → f_sizeOf R.K (f_sizeOfItem R.K 80) S (some z) = some (S, nI (szN R S0 (abT S0 z))) := fun h3 h4 hs => by
    unfold f_sizeOf f_sizeOf_33
    rw [o0]
    simp only [Option.bind_some]
    rw [if_neg h3, if_neg h4, hs]
    rfl
  have s1 : yK R S0 (abT S0 z) ≠ 2 → yK R S0 (abT S0 z) ≠ 3 → szN R S0 (abT S0 z) = 1 := fun h2 h3 => by
    unfold szN
    rw [if_neg (fun w => w.elim h2 h3)]
  rcases yK_k hL hr q with ⟨h, h2⟩ | ⟨h, i, hi, hk2, ei, _, et, h2⟩ | ⟨h, i, hi, hk2, ei, _, et, h2⟩ | ⟨h, _, _, h2, _⟩ | ⟨h, h2⟩
  · exact oth (fun w => by rw [w] at h; rcases h with z | z | z | z <;> exact absurd z (by decide)) (fun w => by rw [w] at h; rcases h with z | z | z | z <;> exact absurd z (by decide)) (s1 (by rw [h2]; decide) (by rw [h2]; decide))
  · have := item i hi (by rw [hk2]; decide) ei et (Or.inl h2)
    unfold f_sizeOf
    rw [o0]
    simp only [Option.bind_some]
    rw [if_pos h]
    exact this
  · have := item i hi (by rw [hk2]; decide) ei et (Or.inr h2)
    unfold f_sizeOf
    rw [o0]
    simp only [Option.bind_some]
    rw [if_neg (by rw [h]; decide), if_pos h]
    exact this
  · exact oth (by rw [h]; decide) (by rw [h]; decide) (s1 (by rw [h2]; decide) (by rw [h2]; decide))
  · refine oth (fun w => by rw [w] at h; rcases h with z | z <;> exact absurd z (by decide)) (fun w => by rw [w] at h; rcases h with z | z <;> exact absurd z (by decide)) (s1 ?_ ?_)
    · rcases h2 with z | z <;> rw [z] <;> decide
    · rcases h2 with z | z <;> rw [z] <;> decide
/-- a node was taken: how often each stands where -/
theorem Frs.ct {n : Nat} {l2 : List Nat} {t2 : Nat} (h : Frs fl t [n] l2 t2) (hl : FLs S fl t) (h1 : ∀ n ∈ fl, 1 ≤ n) (hl2 : l2.Nodup) (hn : 1 ≤ n) (a : Nat) : (if n = a then 1 else 0) + cnN a l2 + ind t a = cnN a fl + ind t2 a := by
  have := h.eq (List.nodup_cons.mpr ⟨List.not_mem_nil, List.nodup_nil⟩) hl.2.2.2.1 hl2 (fun m hm => ⟨h1 m hm, hl.2.2.2.2 m hm⟩) (fun m hm => by rw [List.mem_singleton.mp hm]; exact hn) a
  exact this
/-- freshPlace: a value gets a place of its own -/
theorem fpl_ (hL : LFS R S0 g) (hx : LX S0 Sl) (e : RNx Sl S) (hr : rTy S0 z) (eT : abT S0 z = T) (hva : vaR (yT R S0) (szN R S0) (nMS S) T W xv l h) (hf : FLs S fl t) (h1 : ∀ n ∈ fl, 1 ≤ n) (hro : t ≤ fl.length + 429000) (hcv : ∀ a ∈ l, a ∉ fl ∧ a ≤ t) : Rt (f_freshPlace R.K S (some z) xv) (fun S2 r => ∃ (c l1 fl2 : List Nat) (t2 k : Nat), r = nI (hdN c) ∧ pL (yT R S0) (szN R S0) (nMS S2) k T W c l1 h ∧ lkN (Zr S2 63) c ∧ FLs S2 fl2 t2 ∧ NO (fun a => (a ∈ fl ∨ t < a) ∧ a ∈ c) S S2 ∧ (t ≤ t2 ∧ t2 + fl.length ≤ fl2.length + t + 1 ∧ (∀ a ∈ fl2, a ∈ fl) ∧ ((yT R S0).1 T ≠ 2 → ∃ m : Nat, c = [m] ∧ Zl S2 61 m = xv)) ∧ ∀ a : Nat, cnN a c + cnN a l1 + cnN a fl2 + ind t a = cnN a l + cnN a fl + ind t2 a) := by
  have hy := nYk_of hL
  obtain ⟨kd, o1, o2⟩ := kd3_ hL hx hr
  rw [eT] at o2
  unfold f_freshPlace
  refine Rt.bd (o1 S e) (Rt.it (fun w => ?_) (fun w => ?_))
  · rcases hva with ⟨_, k, c, l1, q2, q3, q4, q5⟩ | ⟨q1, _⟩
    · unfold f_freshPlace_18
      rw [q4, nL_t]
      refine Rt.rt ⟨c, l1, fl, t, k, rfl, q2, q3, hf, NO.rf, ⟨Nat.le_refl _, by omega, fun a ha => ha, fun z => absurd (o2.mp w) z⟩, fun a => ?_⟩
      rw [q5, cnN_app]
    · exact absurd (o2.mp w) q1
  · rcases hva with ⟨q1, _⟩ | ⟨q1, k, q2⟩
    · exact absurd (o2.mpr q1) w
    · refine Rt.bn (lea_ hf (fun z => by rw [z] at hro; have hro : t ≤ 0 + 429000 := hro; omega)) (fun S2 r ⟨n, l2, t2, p1, p2, p3, p4, p5, p6, p7, p8⟩ => ?_)
      unfold f_freshPlace_18
      have hn := (p8.1 n (List.mem_singleton_self n)).2.2
      have hnl : n ∉ l := fun w => by
        obtain ⟨w1, w2⟩ := hcv n w
        rcases hn with z | z
        · exact w1 z
        · omega
      refine Rt.rt ⟨[n], l, l2, t2, k + 1, by rw [p1]; rfl, Or.inr ⟨q1, n, rfl, Or.inr ⟨p7, ?_⟩⟩, ⟨fun a ha => by rw [List.mem_singleton.mp ha]; exact ⟨p2, p3⟩, fun i a b h1 h2 => ?_⟩, p4, p5.mo (fun a w => by rw [w]; exact ⟨hn, List.mem_singleton_self n⟩), ⟨p8.2.1, by have e9 := p8.2.2.2.2; have e9 : l2.length + 1 + t = fl.length + t2 := e9; omega, p8.2.2.1, fun _ => ⟨n, rfl, p6⟩⟩, fun a => ?_⟩
      · show vL (yT R S0) (szN R S0) (nMS S2) k T W (Zl S2 61 n) l h
        rw [p6]
        exact q2.st (p5.ag (fun a ha w => hnl (by rw [← w]; exact ha)))
      · have h2 : ([] : List Nat)[i]? = some b := h2
        cases h2
      · have := p8.ct hf h1 p4.2.2.2.1 p2 a
        show (if n = a then 1 else 0) + 0 + cnN a l + cnN a l2 + ind t a = _
        omega
end PS79
