theorem nI_70 : ∀ n : Nat, 70 * nI n = nI (70 * n)
  | 0 => rfl
  | n + 1 => by rw [← nI_add, Int32.mul_add, nI_70 n, show (70 : Int32) * nI 1 = nI 70 from rfl, nI_add, show 70 * n + 70 = 70 * (n + 1) by omega]
theorem nI_ij70 {i j : Nat} : 70 * nI i + nI j = nI (70 * i + j) := by rw [nI_70, nI_add]
section EDL
variable {R : yR} {c nv : Nat} {S : Sg}
theorem Ur_Ur {r : Nat} {f g : Nat → Int32} : Ur (Ur S r f) r g = Ur S r g := by
  have : va_up (va_up (Zr S) r f) r g = va_up (Zr S) r g := by
    funext k
    by_cases e : k = r
    · subst e; rw [va_up_self, va_up_self]
    · rw [va_up_ne _ _ e, va_up_ne _ _ e, va_up_ne _ _ e]
  show (Zi S, va_up (va_up (Zr S) r f) r g, _) = _
  rw [this]
  rfl
theorem TS.u20 (h : TS R c nv S) {f : Nat → Int32} : TS R c nv (Ur S 20 f) := by
  obtain ⟨G, tm, Y, ad, h1, h2, h3, h4⟩ := h
  have hn : ∀ r : Nat, r ≠ 20 → Zr (Ur S 20 f) r = Zr S r := fun r hr => va_up_ne _ _ hr
  refine ⟨G, tm, Y, ad, ⟨?_, h1.2⟩, h2, h3, h4.1, fun r hr => (hn r hr).trans (h4.2.1 r hr), h4.2.2⟩
  rw [hn 5 (by decide), hn 6 (by decide), hn 7 (by decide)]
  exact h1.1
theorem VZ.u20 {X : Nat → Prop} {f : Nat → Int32} : VZ R X S (Ur S 20 f) := ⟨fun _ _ _ => rfl, fun _ q => q, fun _ _ _ _ q => q, fun v ix nm ty mu q => ⟨ty, q, Or.inr rfl⟩, fun q => q⟩
/-- zeros and ones -/
def bz (n : Nat) (g : Nat → Int32) : Prop := ∀ i j : Nat, i < n → j < n → g (70 * i + j) = 0 ∨ g (70 * i + j) = 1
/-- the table says all that lies in an item directly -/
def eD (R : yR) (S : Sg) (g : Nat → Int32) (i j : Nat) : Prop := (g (70 * i + j) = 0 ∨ g (70 * i + j) = 1) ∧ (g (70 * i + j) = 0 → R.ik i = 12 ∨ R.ik j = 12 ∨ ∀ x : Nat, fdO R S i x → nIt S x j)
theorem upd_n {f : Nat → Int32} {k j : Nat} {v : Int32} (h : j ≠ k) : upd f k v j = f j := if_neg h
theorem upd_s {f : Nat → Int32} {k : Nat} {v : Int32} : upd f k v k = v := if_pos rfl
theorem edl12 (hD : RDI R) (h : TS R c nv S) (hA : ITA R S) {P : Sg → Unit → Prop} {k2 : Sg → Int32 → Option (Sg × Unit)} {i : Nat} (hi : i < R.im) (hk : ∀ g : Nat → Int32, (∀ a b : Nat, a < i + 1 → b < R.im → eD R S g a b) → Rt (k2 (Ur S 20 g) (nI (i + 1))) P) : ∀ (m j : Nat) (g : Nat → Int32), R.im < j + m → j ≤ R.im → (∀ a b : Nat, b < R.im → (a < i ∨ (a = i ∧ b < j)) → eD R S g a b) → Rt (f_endless_12 R.K k2 m (Ur S 20 g) (nI i) (nI j)) P
  | 0, j, g, h1, h2, _ => by omega
  | m + 1, j, g, h1, h2, hd => by
    have hD0 := hD.1
    have t1 : TS R c nv (Ur S 20 g) := h.u20
    have hA1 : ITA R (Ur S 20 g) := fun k hk => (hA k hk).vz (p := 0) (q := 0) (S2 := Ur S 20 g) VZ.u20
    unfold f_endless_12
    rw [t1.i12 hD]
    refine Rt.it (fun w9 => ?_) (fun w9 => ?_)
    · have := (nI_leI (a := R.im) (b := j) (by omega) (by omega)).mp w9
      rw [nI_1]
      exact hk g (fun a b ha hb => hd a b hb (by omega))
    have hlt : j < R.im := by
      rcases Nat.lt_or_ge j R.im with z | z
      · exact z
      · exact absurd (nI_le z (by omega)) w9
    obtain ⟨b1, b2, b3, fs9, gs9, b4, b5, b6, b7, b8, b9, b10, b11⟩ := hD.ob t1 hi
    obtain ⟨d1, d2, d3, fs8, gs8, d4, d5, d6, d7, d8, d9, d10, d11⟩ := hD.ob t1 hlt
    have hgo : ∀ v : Int32, (v = 0 ∨ v = 1) → (v = 0 → R.ik i = 12 ∨ R.ik j = 12 ∨ ∀ x : Nat, fdO R S i x → nIt S x j) → Rt (f_endless_72 R.K k2 (f_endless_12 R.K k2 m) (Ur S 20 g) (nI i) (nI j) v (nI (70 * i + j))) P := fun v hv hx => by
      unfold f_endless_72
      refine Rt.bd (wZ_n (show 70 * i + j < rlen 20 by show _ < 4900; omega) (by decide) hv) ?_
      rw [Zr_s, Ur_Ur, nI_1]
      refine edl12 hD h hA hi hk m (j + 1) _ (by omega) (by omega) (fun a b hb hab => ?_)
      by_cases e0 : 70 * a + b = 70 * i + j
      · have ea : a = i := by omega
        have eb : b = j := by omega
        subst ea; subst eb
        unfold eD
        rw [upd_s]
        exact ⟨hv, hx⟩
      · unfold eD
        rw [upd_n e0]
        exact hd a b hb (by omega)
    rw [nI_ij70]
    unfold f_endless_71
    refine Rt.bd (hD.it t1 hi) (Rt.bd (oI_mk b2 b5 b11) (Rt.it (fun ek => hgo 0 (Or.inl rfl) (fun _ => Or.inl ek)) (fun ek => ?_)))
    refine Rt.bd (hD.it t1 hlt) (Rt.bd (oI_mk d2 d5 d11) (Rt.it (fun ek2 => hgo 0 (Or.inl rfl) (fun _ => Or.inr (Or.inl ek2))) (fun ek2 => ?_)))
    refine Rt.bn (lie_ hD t1 hA1 hi ek) (fun S2 r q => ?_)
    obtain ⟨e, q⟩ := q
    rw [e]
    rcases q with q | ⟨q, q2⟩
    · exact Rt.iq (by rw [q]; decide) (hgo 1 (Or.inr rfl) (fun w => absurd w (by decide)))
    · exact Rt.ip q (hgo 0 (Or.inl rfl) (fun _ => Or.inr (Or.inr q2)))
theorem edl2 (hD : RDI R) (h : TS R c nv S) (hA : ITA R S) {P : Sg → Unit → Prop} (hk : ∀ g : Nat → Int32, (∀ a b : Nat, a < R.im → b < R.im → eD R S g a b) → Rt (f_endless_87 R.K bigN (Ur S 20 g) 0) P) : ∀ (m i : Nat) (g : Nat → Int32), R.im < i + m → i ≤ R.im → (∀ a b : Nat, a < i → b < R.im → eD R S g a b) → Rt (f_endless_2 R.K m (Ur S 20 g) (nI i)) P
  | 0, j, g, h1, h2, _ => by omega
  | m + 1, i, g, h1, h2, hd => by
    have hD0 := hD.1
    have t1 : TS R c nv (Ur S 20 g) := h.u20
    unfold f_endless_2
    rw [t1.i12 hD]
    refine Rt.it (fun w9 => ?_) (fun w9 => ?_)
    · have := (nI_leI (a := R.im) (b := i) (by omega) (by omega)).mp w9
      exact hk g (fun a b ha hb => hd a b (by omega) hb)
    have hlt : i < R.im := by
      rcases Nat.lt_or_ge i R.im with z | z
      · exact z
      · exact absurd (nI_le z (by omega)) w9
    exact edl12 hD h hA hlt (fun g2 h2 => edl2 hD h hA hk m (i + 1) g2 (by omega) (by omega) h2) bigN 0 g (by unfold bigN; omega) (Nat.zero_le _) (fun a b hb hab => hd a b (by omega) hb)
end EDL
