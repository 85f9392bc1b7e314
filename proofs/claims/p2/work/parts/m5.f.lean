section PS83
variable {R : yR} {S0 Sl S S1 : Sg} {g : Nat → Int32} {n p t cap ta : Nat} {f : Nat → Option Nat} {pt : Nat → Nat} {W : Nat → qV} {l h : Nat → List Nat} {fl : List Nat} {q : Nat → Nat} {o x1 : Option Nat} {i v : Nat}
theorem nI_sub9 {a b : Nat} : nI (a + b) - nI b = nI a := by
  have := Int32.ofNat_sub (a + b) b (by omega)
  rw [Nat.add_sub_cancel] at this
  exact this.symm
/-- gather in one -/
theorem gat_ (hL : LFS R S0 g) (hx : LX S0 Sl) (e : RNx Sl S) (hx1 : n = 0 ∨ x1 = some ta) (ht : n = 0 ∨ (ta ∈ ZL Sl ∧ ZF Sl ta = .inl (R.K.1 4, cap, .inr (.inr (.inr (.inr f)))))) (hc : n ≤ cap ∧ cap < 100) (hn : n ≤ 12) (hf : ∀ i : Nat, i < n → ∃ z : Nat, f i = some z ∧ rTy S0 z ∧ abT S0 z = pt i) (hp : p + n < 20000) (hqn : ∀ i : Nat, i < n → q i < n) (hva : ∀ i : Nat, i < n → vaR (yT R S0) (szN R S0) (nMS S) (pt i) (W i) (Zl S 72 (p + q i)) (l i) (h i)) (ho : ∀ i : Nat, i < n → (o = none ∧ q i = i) ∨ ∃ (a9 : Nat) (F : Nat → Int32), o = some a9 ∧ a9 ∈ ZL Sl ∧ ZF Sl a9 = .inl (R.K.1 0, n, .inl F) ∧ F (q i) = nI i ∧ ∀ j : Nat, j < n → j ≠ q i → F j ≠ nI i) (hF : FLs S fl t) (h1 : ∀ m ∈ fl, 1 ≤ m) (hro : t ≤ fl.length + 425000) (hcv : ∀ a : Nat, psN (fun i => cnN a (l i)) n + cnN a fl ≤ ind t a) (h73 : Zi S 73 = nI (p + n)) : Rt (f_gather R.K S x1 (nI n) o) (fun S2 r => ∃ (S1 : Sg) (cs ls : Nat → List Nat) (fl1 : List Nat) (t1 kk : Nat), S2 = Ui S1 73 (nI p) ∧ r = nI (hdN (ftN cs n)) ∧ NO (fun a => (a ∈ fl ∨ t < a) ∨ ∃ q : Nat, q < n ∧ a ∈ l q) S S1 ∧ FLs S1 fl1 t1 ∧ (t ≤ t1 ∧ t1 + fl.length ≤ fl1.length + t + n ∧ ∀ a ∈ fl1, a ∈ fl ∨ t < a) ∧ lkN (Zr S1 63) (ftN cs n) ∧ (∀ j : Nat, j < n → pL (yT R S0) (szN R S0) (nMS S1) kk (pt j) (W j) (cs j) (ls j) (h j)) ∧ ∀ a : Nat, psN (fun j => cnN a (cs j) + cnN a (ls j)) n + cnN a fl1 + ind t a = psN (fun j => cnN a (l j)) n + cnN a fl + ind t1 a) := by
  have end9 : ∀ (S2 : Sg) (x5 x6 : Int32), gaI R S0 Sl S pt W l h n t fl x5 x6 n S2 → Rt ((pM S2 73 (nI p)).bind fun S1 => some (S1, x5)) (fun S2 r => ∃ (S1 : Sg) (cs ls : Nat → List Nat) (fl1 : List Nat) (t1 kk : Nat), S2 = Ui S1 73 (nI p) ∧ r = nI (hdN (ftN cs n)) ∧ NO (fun a => (a ∈ fl ∨ t < a) ∨ ∃ q : Nat, q < n ∧ a ∈ l q) S S1 ∧ FLs S1 fl1 t1 ∧ (t ≤ t1 ∧ t1 + fl.length ≤ fl1.length + t + n ∧ ∀ a ∈ fl1, a ∈ fl ∨ t < a) ∧ lkN (Zr S1 63) (ftN cs n) ∧ (∀ j : Nat, j < n → pL (yT R S0) (szN R S0) (nMS S1) kk (pt j) (W j) (cs j) (ls j) (h j)) ∧ ∀ a : Nat, psN (fun j => cnN a (cs j) + cnN a (ls j)) n + cnN a fl1 + ind t a = psN (fun j => cnN a (l j)) n + cnN a fl + ind t1 a) := fun S2 x5 x6 ⟨cs, ls, fl1, t1, kk, lst, g1, g2, g3, g6, g7, g8, _, g10⟩ => by
    refine Rt.bd (v := Ui S2 73 (nI p)) rfl (Rt.rt ⟨S2, cs, ls, fl1, t1, kk, rfl, ?_, g1, g2, g3, g7, g8, g10⟩)
    rcases g6 with ⟨w1, w2, _⟩ | ⟨_, w2, _⟩
    · rw [w2, w1]; rfl
    · exact w2
  have beg : gaI R S0 Sl S pt W l h n t fl 0 0 0 S := ⟨fun _ => [], fun _ => [], fl, t, 0, 0, NO.rf, hF, ⟨Nat.le_refl _, by omega, fun a ha => Or.inl ha⟩, Or.inl ⟨rfl, rfl, rfl⟩, ⟨fun a ha => absurd ha (List.not_mem_nil), fun i a b ha _ => by cases ha⟩, fun j hj => absurd hj (Nat.not_lt_zero j), fun j _ _ => fun a _ => ⟨rfl, rfl, rfl⟩, fun a => rfl⟩
  unfold f_gather
  rw [h73, nI_sub9]
  rcases hx1 with h0 | h0
  · subst h0
    rw [show bigN = (bigN - 1) + 1 from rfl]
    unfold f_gather_17
    exact Rt.ip (by decide) (end9 S 0 0 beg)
  · rw [h0]
    exact ga17 hL hx e ht hc hn hf hp hqn hva ho hF h1 hro hcv end9 n 0 bigN 0 0 S (by omega) (by unfold bigN; omega) beg
/-- a struct's item, while it runs -/
theorem vwSi (hL : LFS R S0 g) (hx : LX S0 Sl) (e : RNx Sl S) (hk : yK R S0 (4 + i) = 2) : ∃ (ta : Nat) (f : Nat → Option Nat), rQ S 11 (nI i) = some (some (R.ws i)) ∧ oR S 16 (some (R.ws i)) 10 = some (some ta) ∧ (ta ∈ ZL Sl ∧ ZF Sl ta = .inl (R.K.1 4, 13, .inr (.inr (.inr (.inr f))))) ∧ yP R S0 (4 + i) 0 ≤ 12 ∧ ∀ k : Nat, k < yP R S0 (4 + i) 0 → ∃ z : Nat, f k = some z ∧ vTy S0 z ∧ abT S0 z = yQ R S0 (4 + i) 0 k := by
  obtain ⟨i9, e9, hi, ⟨_, hk2⟩ | ⟨w, _⟩⟩ := yK_n (Or.inl hk)
  · obtain rfl : i = i9 := by omega
    obtain ⟨fs, mn, ta, f, w1, w2, w3, w4, w5, w6, w7, w8, _⟩ := zN_st hL hi hk2
    have ey : yP R S0 (4 + i) 0 = mn := by
      unfold yP
      rw [show 4 + i - 4 = i by omega, if_pos hk2, if_pos rfl, obF_o w2, fN_i w3 (by omega)]
    rw [ey]
    obtain ⟨c1, f2, c2, c3, c4⟩ := hx.it w1 w2
    refine ⟨ta, f, it11r hL hx e hi, ?_, hx.ro w6 w7, w4, fun k hk => ?_⟩
    · exact oR_mk (v := some ta) (by rw [e.1]; exact c1) (by rw [e.2.1]; exact c2) (by rw [c4 10 (by decide) (Or.inl (by decide))]; exact w5)
    · obtain ⟨z, z1, z2, z3, _⟩ := w8 k hk
      exact ⟨z, z1, z2, z3⟩
  · rw [hk] at w; cases w
/-- an enum's item: the variant v -/
theorem vwEi (hL : LFS R S0 g) (hx : LX S0 Sl) (e : RNx Sl S) (hk : yK R S0 (4 + i) = 3) (hv : v < (yT R S0).2.2.1 (4 + i)) : ∃ (vr pa : Nat) (ot : Option Nat) (f : Nat → Option Nat), rQ S 11 (nI i) = some (some (R.ws i)) ∧ oR S 16 (some (R.ws i)) 11 = some (some vr) ∧ aQ R.K 13 S (some vr) (nI v) = some (some pa) ∧ oR S 17 (some pa) 2 = some ot ∧ v ≤ 12 ∧ yP R S0 (4 + i) v ≤ 12 ∧ (yP R S0 (4 + i) v = 0 ∨ ∃ ta : Nat, ot = some ta ∧ ta ∈ ZL Sl ∧ ZF Sl ta = .inl (R.K.1 4, 12, .inr (.inr (.inr (.inr f))))) ∧ ∀ k : Nat, k < yP R S0 (4 + i) v → ∃ z : Nat, f k = some z ∧ vTy S0 z ∧ abT S0 z = yQ R S0 (4 + i) v k := by
  obtain ⟨i9, e9, hi, ⟨w, _⟩ | ⟨_, hk2⟩⟩ := yK_n (Or.inr hk)
  · rw [hk] at w; cases w
  · obtain rfl : i = i9 := by omega
    have hv2 : v < fN (obF S0 (R.ws i)) 3 := by
      have h9 : v < fN (obF S0 (R.ws (4 + i - 4))) 3 := hv
      rw [show 4 + i - 4 = i by omega] at h9; exact h9
    obtain ⟨fs, mn, vr, pa, mk, fv, f, w1, w2, w3, w4, w5, w6, w7, w8, w9, w10, w11, w12, w13, _⟩ := zN_en hL hi hk2 hv2
    have hvm : v < mn := by
      rw [obF_o w2, fN_i w3 (by omega)] at hv2; exact hv2
    rw [← w10]
    obtain ⟨c1, f2, c2, c3, c4⟩ := hx.it w1 w2
    obtain ⟨r1, r2⟩ := hx.ro w6 w7
    have oR11 : oR S 16 (some (R.ws i)) 11 = some (some vr) := oR_mk (v := some vr) (by rw [e.1]; exact c1) (by rw [e.2.1]; exact c2) (by rw [c4 11 (by decide) (Or.inl (by decide))]; exact w5)
    have qp : aQ R.K 13 S (some vr) (nI v) = some (some pa) := by
      rw [← w8]; exact aQ_n (by rw [e.1]; exact r1) (by rw [e.2.1]; exact r2) (show v < 13 by omega) (by omega)
    rcases w12 with ⟨p1, p2⟩ | ⟨wa, ta, p1, p2, p3⟩
    · obtain ⟨b1, b2⟩ := hx.ob w9 p1 (by decide) (by decide)
      exact ⟨vr, pa, none, f, it11r hL hx e hi, oR11, qp, oR_mk (v := none) (by rw [e.1]; exact b1) (by rw [e.2.1]; exact b2) rfl, by omega, by omega, Or.inl p2, w13⟩
    · obtain ⟨b1, b2⟩ := hx.ob w9 p1 (by decide) (by decide)
      exact ⟨vr, pa, some ta, f, it11r hL hx e hi, oR11, qp, oR_mk (v := some ta) (by rw [e.1]; exact b1) (by rw [e.2.1]; exact b2) rfl, by omega, by omega, Or.inr ⟨ta, rfl, hx.ro p2 p3⟩, w13⟩
/-- each of them is 1, if they make n -/
theorem psN_fu {w : Nat → Nat} : ∀ {n : Nat}, (∀ i : Nat, i < n → w i ≤ 1) → psN w n = n → ∀ i : Nat, i < n → w i = 1
  | n + 1, h, e, i, hi => by
    have e : psN w n + w n = n + 1 := e
    have h1 : psN w n ≤ psN (fun _ => 1) n := psN_le (fun k hk => h k (by omega))
    rw [psN_c9] at h1
    have h2 := h n (by omega)
    by_cases c : i = n
    · subst c; omega
    · exact psN_fu (n := n) (fun k hk => h k (by omega)) (by omega) i (by omega)
/-- who meets no other meets all -/
theorem inj_su9 {fo : Nat → Nat} {n : Nat} (h1 : ∀ q : Nat, q < n → fo q < n) (h2 : ∀ a b : Nat, a < n → b < n → fo a = fo b → a = b) : ∀ i : Nat, i < n → ∃ q : Nat, q < n ∧ fo q = i := fun i hi => Classical.byContradiction (fun hne => by
  have e1 : psN (fun i => psN (fun q => if fo q = i then 1 else 0) n) n = n := by
    rw [← psN_sw (w := fun q i => if fo q = i then 1 else 0), psN_cg (w2 := fun _ => 1) (fun q hq => psN_e1 (h1 q hq)), psN_c9]
    omega
  have e2 : ∀ i : Nat, i < n → psN (fun q => if fo q = i then 1 else 0) n ≤ 1 := fun i hi => by
    by_cases c : ∃ q : Nat, q < n ∧ fo q = i
    · obtain ⟨q, q1, q2⟩ := c
      rw [psN_at (i0 := q) q1 (fun j hj hj2 => if_neg (fun z => hj2 (h2 j q hj q1 (z.trans q2.symm)))), if_pos q2]
      exact Nat.le_refl _
    · rw [psN_cg (w2 := fun _ => 0) (fun q hq => if_neg (fun z => c ⟨q, hq, z⟩)), psN_z]
      exact Nat.zero_le _
  have e3 := psN_fu e2 e1 i hi
  rw [psN_cg (w2 := fun _ => 0) (fun q hq => if_neg (fun z => hne ⟨q, hq, z⟩)), psN_z] at e3
  cases e3)
end PS83
