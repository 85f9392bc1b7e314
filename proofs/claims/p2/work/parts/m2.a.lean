/-- the passes write these rows alone -/
def PSx (S S2 : Sg) : Prop := ZL S2 = ZL S ∧ ZF S2 = ZF S ∧ (Zz S2 = Zz S ∧ Zn S2 = Zn S) ∧ Zq S2 = Zq S ∧ Zf S2 = Zf S ∧ (∀ r : Nat, r ≠ 52 → Zr S2 r = Zr S r) ∧ (∀ j : Nat, j ≠ 57 → Zi S2 j = Zi S j) ∧ ∀ r : Nat, ¬ (53 ≤ r ∧ r ≤ 60) → Zl S2 r = Zl S r
/-- what follows at place n -/
def scN (l : List Nat) (n : Nat) : Int32 := match l[n]? with
  | some j => nI j
  | none => -1
section PS0
variable {R : yR} {S0 S S1 S2 : Sg} {k n : Nat} {i : iR}
theorem PSx.rf : PSx S S := ⟨rfl, rfl, ⟨rfl, rfl⟩, rfl, rfl, fun _ _ => rfl, fun _ _ => rfl, fun _ _ => rfl⟩
theorem PSx.tr (a : PSx S S1) (b : PSx S1 S2) : PSx S S2 := ⟨b.1.trans a.1, b.2.1.trans a.2.1, ⟨b.2.2.1.1.trans a.2.2.1.1, b.2.2.1.2.trans a.2.2.1.2⟩, b.2.2.2.1.trans a.2.2.2.1, b.2.2.2.2.1.trans a.2.2.2.2.1, fun r h => (b.2.2.2.2.2.1 r h).trans (a.2.2.2.2.2.1 r h), fun r h => (b.2.2.2.2.2.2.1 r h).trans (a.2.2.2.2.2.2.1 r h), fun r h => (b.2.2.2.2.2.2.2 r h).trans (a.2.2.2.2.2.2.2 r h)⟩
theorem PSx.ur {f : Nat → Int32} : PSx S (Ur S 52 f) := ⟨rfl, rfl, ⟨rfl, rfl⟩, rfl, rfl, fun _ h => va_up_ne _ _ h, fun _ _ => rfl, fun _ _ => rfl⟩
theorem PSx.ul {r : Nat} {f : Nat → Int64} (hr : 53 ≤ r ∧ r ≤ 60) : PSx S (Ul S r f) := ⟨rfl, rfl, ⟨rfl, rfl⟩, rfl, rfl, fun _ _ => rfl, fun _ _ => rfl, fun r2 h => va_up_ne _ _ (fun e => h (by omega))⟩
theorem PSx.ui {v : Int32} : PSx S (Ui S 57 v) := ⟨rfl, rfl, ⟨rfl, rfl⟩, rfl, rfl, fun _ _ => rfl, fun _ h => Zi_n h, fun _ _ => rfl⟩
theorem PSx.lx (h : PSx S S2) : LX S S2 := ⟨fun a ha => ⟨by rw [h.1]; exact ha, Or.inl (by rw [h.2.1])⟩, fun j _ _ _ d => h.2.2.2.2.2.2.1 j d.2, fun r hr => h.2.2.2.2.2.1 r (fun e => hr (Or.inr (Or.inr e))), fun r hr => h.2.2.2.2.2.2.2 r hr.2, fun r _ => by rw [h.2.2.2.1], h.2.2.2.2.1, Nat.le_of_eq h.2.2.1.1.symm, Nat.le_of_eq h.2.2.1.2.symm⟩
theorem PSx.px (h : PSx S S2) {P : Nat} : PX P S S2 := fun k _ => ⟨fun r h1 h2 => by rw [h.2.2.2.2.2.1 r (by omega)], by rw [h.2.2.2.2.2.2.2 31 (by omega)], fun r _ _ => by rw [h.2.2.2.1]⟩
theorem PSx.qx (h : PSx S S2) {L : Nat} : QX L S S2 := fun l _ => ⟨by rw [h.2.2.2.1], fun r h1 h2 => by rw [h.2.2.2.2.2.1 r (by omega)]⟩
theorem rz.ps (h : PSx S S2) (q : rz R S0 S k i) : rz R S0 S2 k i := q.st h.lx (h.px (P := k + 1) k (Nat.lt_succ_self _)) (fun l _ => h.qx (L := l + 1) l (Nat.lt_succ_self _))
theorem LC.ps {P h L : Nat} {Γ : List Nat} (e : PSx S S2) (c : LC R S0 S P h Γ L) : LC R S0 S2 P h Γ L := ⟨c.1.tr e.lx, (e.2.2.2.2.2.2.1 26 (by decide)).trans c.2.1, (e.2.2.2.2.2.2.1 48 (by decide)).trans c.2.2.1, ⟨(e.2.2.2.2.2.2.1 50 (by decide)).trans c.2.2.2.1.1, by rw [e.2.2.2.1]; exact c.2.2.2.1.2⟩, (e.2.2.2.2.2.2.1 47 (by decide)).trans c.2.2.2.2.1, c.2.2.2.2.2.1.st e.lx (by rw [e.2.2.2.1]) (c.2.2.2.2.2.1.2.st e.lx (fun l _ _ => by rw [e.2.2.2.1]) (fun l _ _ => Or.inl (by rw [e.2.2.2.2.2.1 45 (by decide)])) (e.2.2.2.2.2.2.1 47 (by decide))), c.2.2.2.2.2.2.1.st e.lx (fun a _ _ _ => by rw [e.2.1]), by rw [e.1, e.2.2.1.1]; exact c.2.2.2.2.2.2.2⟩
theorem nI_e {a b : Nat} (ha : a < 2 ^ 31) (hb : b < 2 ^ 31) (h : nI a = nI b) : a = b := by
  have := congrArg Int32.toNatClampNeg h
  rwa [nI_clamp (by omega), nI_clamp (by omega)] at this
theorem nI_nn {a : Nat} (ha : a < 2 ^ 31) : ¬ nI a < 0 := Int32.not_lt.mpr (nI_le (a := 0) (b := a) (Nat.zero_le _) ha)
theorem aLn_n {K : Ky} {a n : Nat} {f : Nat → Int32} (ha : a ∈ ZL S) (hF : ZF S a = .inl (K.1 0, n, .inl f)) : aLn K 0 S (some a) = some (nI n) := by
  unfold aLn
  rw [aC_mk ha hF]
  show (if K.1 0 = K.1 0 then some (Int32.ofNat n) else none) = _
  rw [if_pos rfl]; rfl
/-- follows -/
theorem flw_ (q : rz R S0 S k i) (hk : k < 24000) (hn : n ≤ i.sc.length) (hl : i.sc.length ≤ 1000000) : f_follows R.K S (nI k) (nI n) = some (S, scN i.sc n) := by
  obtain ⟨q1, q2, _, _, _, _, _, _, _, _, _, q12, _⟩ := q
  have r27 : rI S 27 (nI k) = some (nI i.kd) := by rw [rI_n (show k < rlen 27 from hk) (by decide), q1]
  have n26 : i.kd ≠ 26 → ¬ nI i.kd = (26 : Int32) := fun h e => h (nI_e (b := 26) (by omega) (by decide) e)
  have n16 : i.kd ≠ 16 → ¬ nI i.kd = (16 : Int32) := fun h e => h (nI_e (b := 16) (by omega) (by decide) e)
  have n20 : i.kd ≠ 20 → ¬ nI i.kd = (20 : Int32) := fun h e => h (nI_e (b := 20) (by omega) (by decide) e)
  have n21 : i.kd ≠ 21 → ¬ nI i.kd = (21 : Int32) := fun h e => h (nI_e (b := 21) (by omega) (by decide) e)
  unfold f_follows
  rw [r27]
  simp only [Option.bind_some]
  rcases q12 with ⟨h1, h2⟩ | ⟨h1, j, h2, h3, h4⟩ | ⟨h1, j, h2, h3, h4⟩ | ⟨h1, h2, h3⟩ | ⟨h1, h2, h3, h4, h5, h6, h7, h8, h9⟩
  · rw [if_pos (show nI i.kd = 26 by rw [h1]; rfl), h2]
    cases n <;> rfl
  · rw [if_neg (n26 (by omega)), if_pos (show nI i.kd = 16 by rw [h1]; rfl)]
    rw [h3] at hn ⊢
    have hn : n ≤ 1 := hn
    rcases (by omega : n = 0 ∨ n = 1) with e | e <;> subst e
    · rw [if_pos (show nI 0 = 0 from rfl), rI_n (show k < rlen 30 from hk) (by decide), h2]; rfl
    · rw [if_neg (show ¬ nI 1 = 0 by decide)]; rfl
  · rw [if_neg (n26 (by omega)), if_neg (n16 (by omega)), if_neg (n20 (by omega)), if_neg (n21 (by omega))]
    rw [h3] at hn ⊢
    have hn : n ≤ 2 := hn
    rcases (by omega : n = 0 ∨ n = 1 ∨ n = 2) with e | e | e <;> subst e
    · rw [if_pos (show nI 0 = 0 from rfl), nI_1]; rfl
    · rw [if_neg (show ¬ nI 1 = 0 by decide), if_pos (show nI 1 = 1 from rfl), rI_n (show k < rlen 30 from hk) (by decide), h2]; rfl
    · rw [if_neg (show ¬ nI 2 = 0 by decide), if_neg (show ¬ nI 2 = 1 by decide)]; rfl
  · have h61 : f_follows_61 R.K S (nI k) (nI n) = some (S, scN i.sc n) := by
      rcases h2 with ⟨_, w⟩ | ⟨a, f, a1, a2, a3, a4, a5⟩
      · exact absurd w h3
      · have r42 : rQ S 42 (nI k) = some (some a) := by rw [rQ_n (show k < rlen 42 from hk) (by decide), a1]
        unfold f_follows_61
        rw [r42]
        simp only [Option.bind_some]
        rw [aLn_n a2 a3]
        simp only [Option.bind_some]
        by_cases e : n = i.sc.length
        · subst e
          rw [if_pos (nI_le (Nat.le_refl _) (by omega))]
          unfold f_follows_84 scN
          rw [List.getElem?_eq_none (Nat.le_refl _)]
        · have hlt : n < i.sc.length := by omega
          rw [if_neg (Int32.not_le.mpr (nI_lt hlt (by omega))), aI_n a2 a3 hlt (by omega)]
          simp only [Option.bind_some]
          unfold f_follows_84 scN
          obtain ⟨b1, b2⟩ := a5 n _ (List.getElem?_eq_getElem hlt)
          rw [List.getElem?_eq_getElem hlt, b1]
    rcases h1 with h1 | h1
    · rw [if_neg (n26 (by omega)), if_neg (n16 (by omega)), if_pos (show nI i.kd = 20 by rw [h1]; rfl)]; exact h61
    · rw [if_neg (n26 (by omega)), if_neg (n16 (by omega)), if_neg (n20 (by omega)), if_pos (show nI i.kd = 21 by rw [h1]; rfl)]; exact h61
  · rw [if_neg (n26 h1), if_neg (n16 h2), if_neg (n20 h6), if_neg (n21 h7)]
    rw [h9] at hn ⊢
    have hn : n ≤ 1 := hn
    rcases (by omega : n = 0 ∨ n = 1) with e | e <;> subst e
    · rw [if_pos (show nI 0 = 0 from rfl), nI_1]; rfl
    · rw [if_neg (show ¬ nI 1 = 0 by decide), if_pos (show nI 1 = 1 from rfl), rI_n (show k < rlen 30 from hk) (by decide), h8]; rfl
end PS0
/-- bit b of the set that begins at word base of a row -/
def rb (f : Nat → Int64) (base b : Nat) : Bool := lbit (f (base + b / 64)) (b % 64)
/-- a bit is set, or taken away -/
def pB (f : Nat → Int64) (base b : Nat) (on : Bool) : Nat → Int64 := vp_updL f (base + b / 64) (if on then f (base + b / 64) ||| bt (b % 64) else f (base + b / 64) &&& (bt (b % 64) ^^^ -1))
section PS0B
variable {K : Ky} {S : Sg} {r base b : Nat}
theorem nI_and63 (a : Nat) : nI a &&& 63 = nI (a % 64) := by
  refine nI_ofb ?_
  rw [Int32.toBitVec_and, nI_bv]
  apply BitVec.eq_of_toNat_eq
  rw [BitVec.toNat_and, BitVec.toNat_ofNat, BitVec.toNat_ofNat]
  show (a % 2 ^ 32) &&& 63 = a % 64 % 2 ^ 32
  rw [show (63 : Nat) = 2 ^ 6 - 1 by decide, Nat.and_two_pow_sub_one_eq_mod]
  omega
theorem nI_sh6 {a : Nat} (ha : a < 2 ^ 31) : nI a >>> (6 &&& 31) = nI (a / 64) := nI_shr (k := 6) ha (by decide)
theorem get_ (hb : b < 1000) (h : base + b / 64 < rlen r) (hr : rlen r < 2 ^ 31) : f_get K S r (nI base) (nI b) = some (S, if rb (Zl S r) base b = true then 1 else 0) := by
  unfold f_get f_get_25 zB
  rw [nI_sh6 (by omega), nI_add, rJ_n h hr, nI_and63]
  simp only [Option.bind_some]
  have e : lg_cmp (lushF (Zl S r (base + b / 64)) (nI (b % 64)) &&& 1) 1 = 0 ↔ rb (Zl S r) base b = true := usB_bit (ub := Zl S r (base + b / 64)) (v := b % 64) (by omega)
  by_cases q : rb (Zl S r) base b = true
  · rw [if_pos (e.mpr q), if_pos q]; rfl
  · rw [if_neg (fun w => q (e.mp w)), if_neg q]; rfl
theorem put_ {on : Bool} (hb : b < 1000) (h : base + b / 64 < rlen r) (hr : rlen r < 2 ^ 31) : f_put K S r (nI base) (nI b) (if on = true then 1 else 0) = some (Ul S r (pB (Zl S r) base b on), ()) := by
  unfold f_put f_put_48 pB
  rw [nI_sh6 (by omega), nI_add, rJ_n h hr, nI_and63]
  simp only [Option.bind_some]
  cases on
  · rw [if_pos (show (if false = true then (1 : Int32) else 0) = 0 from rfl), wJ_n h hr]; rfl
  · rw [if_neg (show ¬ (if true = true then (1 : Int32) else 0) = 0 by decide), wJ_n h hr]; rfl
theorem rb_pB {f : Nat → Int64} {on : Bool} {base2 c : Nat} : rb (pB f base b on) base2 c = if base2 + c / 64 = base + b / 64 ∧ c % 64 = b % 64 then on else rb f base2 c := by
  have hc : c % 64 < 64 := by omega
  have hb : b % 64 < 64 := by omega
  unfold rb pB
  by_cases e : base2 + c / 64 = base + b / 64
  · rw [e, show vp_updL f (base + b / 64) (if on = true then f (base + b / 64) ||| bt (b % 64) else f (base + b / 64) &&& (bt (b % 64) ^^^ -1)) (base + b / 64) = _ from if_pos rfl]
    cases on
    · rw [if_neg (by decide), lbit_and, lbit_not _ _ hc, lbit_bt _ _ hb hc]
      by_cases q : c % 64 = b % 64
      · rw [if_pos ⟨rfl, q⟩, decide_eq_true q]; simp
      · rw [if_neg (fun w => q w.2), decide_eq_false q]; simp
    · rw [if_pos rfl, lbit_or, lbit_bt _ _ hb hc]
      by_cases q : c % 64 = b % 64
      · rw [if_pos ⟨rfl, q⟩, decide_eq_true q]; simp
      · rw [if_neg (fun w => q w.2), decide_eq_false q]; simp
  · rw [show vp_updL f (base + b / 64) (if on = true then f (base + b / 64) ||| bt (b % 64) else f (base + b / 64) &&& (bt (b % 64) ^^^ -1)) (base2 + c / 64) = f (base2 + c / 64) from if_neg e]
    exact (if_neg (fun w => e w.1)).symm
end PS0B
