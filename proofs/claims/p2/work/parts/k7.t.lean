section EDW
variable {R : yR} {c nv : Nat} {S : Sg}
theorem edl107 (hD : RDI R) (h : TS R c nv S) {P : Sg → Unit → Prop} {k87 : Sg → Int32 → Option (Sg × Unit)} {k97 : Sg → Int32 → Int32 → Option (Sg × Unit)} {k a : Nat} {f0 : Nat → Int32} (hkm : k < R.im) (ha : a < R.im) (hk : ∀ g : Nat → Int32, wI R.im k a R.im f0 g → bz R.im g → Rt (k97 (Ur S 20 g) (nI k) (nI (a + 1))) P) : ∀ (m b : Nat) (g : Nat → Int32), R.im < b + m → b ≤ R.im → wI R.im k a b f0 g → bz R.im g → Rt (f_endless_107 R.K k87 k97 m (Ur S 20 g) (nI k) (nI a) (nI b)) P
  | 0, b, g, h1, h2, _, _ => by omega
  | m + 1, b, g, h1, h2, hw, hz => by
    have hD0 := hD.1
    have t1 : TS R c nv (Ur S 20 g) := h.u20
    unfold f_endless_107
    rw [t1.i12 hD]
    refine Rt.it (fun w9 => ?_) (fun w9 => ?_)
    · have e : b = R.im := by have := (nI_leI (a := R.im) (b := b) (by omega) (by omega)).mp w9; omega
      subst e
      rw [nI_1]
      exact hk g hw hz
    have hlt : b < R.im := by
      rcases Nat.lt_or_ge b R.im with z | z
      · exact z
      · exact absurd (nI_le z (by omega)) w9
    unfold f_endless_155
    rw [nI_ij70, nI_ij70, nI_ij70, nI_1]
    have go : ∀ g2 : Nat → Int32, wI R.im k a (b + 1) f0 g2 → bz R.im g2 → Rt (f_endless_107 R.K k87 k97 m (Ur S 20 g2) (nI k) (nI a) (nI (b + 1))) P := fun g2 w2 z2 => edl107 hD h hkm ha hk m (b + 1) g2 (by omega) (by omega) w2 z2
    refine Rt.bd (rI_n (show 70 * a + k < rlen 20 by show _ < 4900; omega) (by decide)) ?_
    rw [Zr_s]
    refine Rt.it (fun e => go g (wI_no hw hkm ha hlt (Or.inl (fun q => q e))) hz) (fun e => ?_)
    refine Rt.bd (rI_n (show 70 * k + b < rlen 20 by show _ < 4900; omega) (by decide)) ?_
    rw [Zr_s]
    refine Rt.it (fun e2 => go g (wI_no hw hkm ha hlt (Or.inr (fun q => q e2))) hz) (fun e2 => ?_)
    refine Rt.bd (wZ_n (show 70 * a + b < rlen 20 by show _ < 4900; omega) (by decide) (Or.inr rfl)) ?_
    rw [Zr_s, Ur_Ur]
    refine go _ (wI_set hw hD0 hkm ha hlt e e2) (fun i j hi hj => ?_)
    by_cases e0 : 70 * i + j = 70 * a + b
    · rw [e0, upd_s]; exact Or.inr rfl
    · rw [upd_n e0]; exact hz i j hi hj
theorem edl97 (hD : RDI R) (h : TS R c nv S) {P : Sg → Unit → Prop} {k87 : Sg → Int32 → Option (Sg × Unit)} {k : Nat} {f0 : Nat → Int32} (hkm : k < R.im) (hk : ∀ g : Nat → Int32, wI R.im k R.im 0 f0 g → bz R.im g → Rt (k87 (Ur S 20 g) (nI (k + 1))) P) : ∀ (m a : Nat) (g : Nat → Int32), R.im < a + m → a ≤ R.im → wI R.im k a 0 f0 g → bz R.im g → Rt (f_endless_97 R.K k87 m (Ur S 20 g) (nI k) (nI a)) P
  | 0, a, g, h1, h2, _, _ => by omega
  | m + 1, a, g, h1, h2, hw, hz => by
    have hD0 := hD.1
    have t1 : TS R c nv (Ur S 20 g) := h.u20
    unfold f_endless_97
    rw [t1.i12 hD]
    refine Rt.it (fun w9 => ?_) (fun w9 => ?_)
    · have e : a = R.im := by have := (nI_leI (a := R.im) (b := a) (by omega) (by omega)).mp w9; omega
      subst e
      rw [nI_1]
      exact hk g hw hz
    have hlt : a < R.im := by
      rcases Nat.lt_or_ge a R.im with z | z
      · exact z
      · exact absurd (nI_le z (by omega)) w9
    exact edl107 hD h hkm hlt (fun g2 w2 z2 => edl97 hD h hkm hk m (a + 1) g2 (by omega) (by omega) (wI_row w2) z2) bigN 0 g (by unfold bigN; omega) (Nat.zero_le _) hw hz
theorem edl87 (hD : RDI R) (h : TS R c nv S) {P : Sg → Unit → Prop} (hk : ∀ g : Nat → Int32, wC R.im R.im g → (∀ a b : Nat, a < R.im → b < R.im → eD R S g a b) → Rt (f_endless_175 R.K bigN (Ur S 20 g) 0) P) : ∀ (m k : Nat) (g : Nat → Int32), R.im < k + m → k ≤ R.im → wC R.im k g → (∀ a b : Nat, a < R.im → b < R.im → eD R S g a b) → Rt (f_endless_87 R.K m (Ur S 20 g) (nI k)) P
  | 0, k, g, h1, h2, _, _ => by omega
  | m + 1, k, g, h1, h2, hw, hd => by
    have hD0 := hD.1
    have t1 : TS R c nv (Ur S 20 g) := h.u20
    unfold f_endless_87
    rw [t1.i12 hD]
    refine Rt.it (fun w9 => ?_) (fun w9 => ?_)
    · have e : k = R.im := by have := (nI_leI (a := R.im) (b := k) (by omega) (by omega)).mp w9; omega
      subst e
      exact hk g hw hd
    have hlt : k < R.im := by
      rcases Nat.lt_or_ge k R.im with z | z
      · exact z
      · exact absurd (nI_le z (by omega)) w9
    refine edl97 hD h hlt (fun g2 w2 z2 => edl87 hD h hk m (k + 1) g2 (by omega) (by omega) (wC_s hw w2 hlt) (fun a b ha hb => ⟨z2 a b ha hb, fun e => ?_⟩)) bigN 0 g (by unfold bigN; omega) (Nat.zero_le _) wI_0 (fun a b ha hb => (hd a b ha hb).1)
    exact (hd a b ha hb).2 (Classical.byContradiction (fun q => w2.1 a b ha hb q e))
/-- the table is closed: what lies in an item, and in what lies in it -/
theorem edlW (hD : RDI R) (h : TS R c nv S) (hA : ITA R S) {P : Sg → Unit → Prop} (hk : ∀ g : Nat → Int32, wC R.im R.im g → (∀ a b : Nat, a < R.im → b < R.im → eD R S g a b) → Rt (f_endless_175 R.K bigN (Ur S 20 g) 0) P) : Rt (f_endless R.K S) P := by
  have hD0 := hD.1
  unfold f_endless
  have e : S = Ur S 20 (Zr S 20) := by
    have : va_up (Zr S) 20 (Zr S 20) = Zr S := by
      funext k
      by_cases e : k = 20
      · subst e; rw [va_up_self]
      · rw [va_up_ne _ _ e]
    show S = (Zi S, va_up (Zr S) 20 (Zr S 20), _)
    rw [this]
    rfl
  have := edl2 hD h hA (P := P) (fun g hd => edl87 hD h hk bigN 0 g (by unfold bigN; omega) (Nat.zero_le _) (fun i m j _ _ _ hm => absurd hm (by omega)) hd) bigN 0 (Zr S 20) (by unfold bigN; omega) (Nat.zero_le _) (fun a b ha => absurd ha (by omega))
  rw [← e] at this
  exact this
end EDW
