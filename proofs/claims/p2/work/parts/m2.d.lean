section PS3
variable {R : yR} {S0 S S1 S2 Sr : Sg} {ws Ps Pe k n : Nat} {I : Nat → iR} {f g : Nat → Int64} {P : Nat → Prop} {x y : Int64}
theorem nI_4 (n : Nat) : 4 * nI n = nI (4 * n) := (Int32.ofNat_mul 4 n).symm
theorem nI_p2 {j a : Nat} (hj : j < 2 ^ 31) (ha : a < 2 ^ 31) : nI j - 1 < nI a ↔ j ≤ a := by
  cases j with
  | zero =>
    refine ⟨fun _ => Nat.zero_le _, fun _ => ?_⟩
    have h : (nI 0 - 1 : Int32) < 0 := by decide
    exact Int32.lt_of_lt_of_le h (nI_le (a := 0) (b := a) (Nat.zero_le _) ha)
  | succ m =>
    rw [nI_pred m, nI_ltI (by omega) ha]
    omega
theorem upL_id {j : Nat} {v : Int64} (h : v = f j) : vp_updL f j v = f := funext (fun w => by
  by_cases e : w = j
  · subst e; rw [upL_s, h]
  · rw [upL_n e])
theorem ah2 {j : Nat} (hC : PCx R S0 S ws Ps Pe I) (h1 : Ps ≤ j) (h2 : j < Pe) : ∀ (d w : Nat) (S1 : Sg), 4 < w + d → w ≤ 4 → OXs (fun r => r = 60) S S1 → (∀ v : Nat, v < w → Zl S1 60 v = Zl S 58 (4 * j + v)) → Rt (f_ahead_2 R.K d S1 (nI j) (nI w)) (fun S2 _ => OXs (fun r => r = 60) S S2 ∧ ∀ h : Nat, h < 256 → (rb (Zl S2 60) 0 h = true ↔ AHd (I j) (Zl S 58) j h))
  | 0, w, S1, hd, hn, _, _ => by omega
  | d + 1, w, S1, hd, hn, e, hr => by
    obtain ⟨hz, hs, hsl, hb⟩ := hC.2.2.2 j h1 h2
    have h24 := hC.2.1
    unfold f_ahead_2
    refine Rt.it (fun q => ?_) (fun q => ?_)
    · have hw : 4 ≤ w := (nI_leI (a := 4) (b := w) (by decide) (by omega)).mp q
      obtain rfl : w = 4 := by omega
      have hz1 := hz.ps e.1
      obtain ⟨_, _, _, _, q5, _⟩ := hz1
      have r34 : rI S1 34 (nI j) = some (oNm (I j).ho) := by rw [rI_n (show j < rlen 34 from by show j < 24000; omega) (by decide), q5]
      have hrb : ∀ h : Nat, h < 256 → rb (Zl S1 60) 0 h = rb (Zl S 58) (4 * j) h := fun h hh => by
        unfold rb; rw [Nat.zero_add, hr (h / 64) (by omega)]
      have h53 : ∀ (S3 : Sg), OXs (fun r => r = 60) S S3 → (∀ h : Nat, h < 256 → (rb (Zl S3 60) 0 h = true ↔ (rb (Zl S 58) (4 * j) h = true ∧ (I j).ho ≠ some h))) → Rt (f_ahead_53 R.K S3 (nI j)) (fun S2 _ => OXs (fun r => r = 60) S S2 ∧ ∀ h : Nat, h < 256 → (rb (Zl S2 60) 0 h = true ↔ AHd (I j) (Zl S 58) j h)) := fun S3 e3 h3 => by
        unfold f_ahead_53
        refine (ah55 (B := fun h => rb (Zl S 58) (4 * j) h = true ∧ (I j).ho ≠ some h) hC h1 h2 bigN 0 S3 (by unfold bigN; have := hb.2.2.2.1; omega) (Nat.zero_le _) e3 (fun h hh => (h3 h hh).trans ⟨Or.inl, fun w => w.elim id (fun ⟨m, hm, _⟩ => by omega)⟩)).mo (fun S4 _ ⟨a, b⟩ => ⟨a, fun h hh => (b h hh).trans ⟨fun w => w.elim Or.inr Or.inl, fun w => w.elim Or.inr Or.inl⟩⟩)
      refine Rt.bd r34 (Rt.it (fun q2 => ?_) (fun q2 => ?_))
      · refine h53 S1 e (fun h hh => ?_)
        rw [hrb h hh]
        refine ⟨fun w => ⟨w, fun e9 => ?_⟩, fun w => w.1⟩
        rw [e9] at q2
        exact absurd q2 (nI_nn (a := h) (by omega))
      · refine Rt.bd r34 ?_
        cases hho : (I j).ho with
        | none => rw [hho] at q2; exact absurd (show (-1 : Int32) < 0 by decide) q2
        | some u =>
          have hu := hb.1 u hho
          refine Rt.be (put_ (base := 0) (on := false) (b := u) (by omega) (show 0 + u / 64 < rlen 60 from by show _ < 4; omega) (by decide)) ?_
          have e2 : OXs (fun r => r = 60) S1 (Ul S1 60 (pB (Zl S1 60) 0 u false)) := OXs.ul (by decide) rfl
          refine h53 _ (e.tr e2) (fun h hh => ?_)
          rw [Zl_us, rb_pB]
          by_cases c : 0 + h / 64 = 0 + u / 64 ∧ h % 64 = u % 64
          · have : h = u := by omega
            rw [if_pos c, hho]
            exact ⟨fun w => absurd w (by decide), fun w => absurd (by rw [this]) w.2⟩
          · rw [if_neg c, hrb h hh, hho]
            exact ⟨fun w => ⟨w, fun e9 => c (by have := Option.some.inj e9; subst this; exact ⟨rfl, rfl⟩)⟩, fun w => w.1⟩
    · have hw : w < 4 := by
        by_cases q2 : w < 4
        · exact q2
        · exact absurd (nI_le (a := 4) (b := w) (by omega) (by omega)) q
      rw [nI_4, nI_add]
      refine Rt.bd (rJ_n (show 4 * j + w < rlen 58 from by show _ < 96000; omega) (by decide)) (Rt.bd (wJ_n (show w < rlen 60 from hw) (by decide)) ?_)
      rw [nI_1]
      have e2 : OXs (fun r => r = 60) S1 (Ul S1 60 (vp_updL (Zl S1 60) w (Zl S1 58 (4 * j + w)))) := OXs.ul (by decide) rfl
      refine ah2 hC h1 h2 d (w + 1) _ (by omega) (by omega) (e.tr e2) (fun v hv => ?_)
      rw [Zl_us]
      by_cases ev : v = w
      · subst ev; rw [upL_s, e.2.1 58 (by decide)]
      · rw [upL_n ev]; exact hr v (by omega)
theorem ahd_ {j : Nat} (hC : PCx R S0 S ws Ps Pe I) (h1 : Ps ≤ j) (h2 : j < Pe) : Rt (f_ahead R.K S (nI j)) (fun S2 _ => OXs (fun r => r = 60) S S2 ∧ ∀ h : Nat, h < 256 → (rb (Zl S2 60) 0 h = true ↔ AHd (I j) (Zl S 58) j h)) := by
  unfold f_ahead
  exact ah2 hC h1 h2 bigN 0 S (by unfold bigN; omega) (Nat.zero_le _) OXs.rf (fun v hv => by omega)
/-- what is used behind point k is told there -/
def LvC (I : Nat → iR) (f : Nat → Int64) (k : Nat) (j : Nat) : Prop := ∀ h : Nat, h < 256 → AHd (I j) f j h → rb f (4 * k) h = true
/-- a round of lives: points from kk on are done, of the one below n successors -/
def LvI (R : yR) (S0 Sr S : Sg) (ws Ps Pe : Nat) (I : Nat → iR) (x2 : Int32) (kk n : Nat) : Prop := OXs (fun r => r = 58 ∨ r = 60) Sr S ∧ PCx R S0 S ws Ps Pe I ∧ sbL (Zl Sr 58) (Zl S 58) ∧ ((x2 = 0 ∧ Zl S 58 = Zl Sr 58 ∧ (∀ k' : Nat, kk ≤ k' → k' < Pe → ∀ j ∈ (I k').sc, LvC I (Zl S 58) k' j) ∧ (∀ m j : Nat, m < n → (I (kk - 1)).sc[m]? = some j → LvC I (Zl S 58) (kk - 1) j)) ∨ (x2 = 1 ∧ cw (Zl S 58) (4 * Ps) (4 * (Pe - Ps)) < cw (Zl Sr 58) (4 * Ps) (4 * (Pe - Ps))))
theorem lv80 {k32 : Sg → Option Nat → Int32 → Option (Sg × Unit)} {k45 : Sg → Option Nat → Int32 → Int32 → Option (Sg × Unit)} {k56 : Sg → Option Nat → Int32 → Int32 → Int32 → Option (Sg × Unit)} {Q : Sg → Unit → Prop} {j : Nat} (h1 : Ps ≤ k) (h2 : k < Pe) (hj : (I k).sc[n]? = some j) (kn : ∀ (S2 : Sg) (y2 : Int32), LvI R S0 Sr S2 ws Ps Pe I y2 (k + 1) (n + 1) → Rt (k56 S2 (some ws) y2 (nI k) (nI (n + 1))) Q) : ∀ (d w : Nat) (S : Sg) (x2 : Int32), 4 < w + d → w ≤ 4 → LvI R S0 Sr S ws Ps Pe I x2 (k + 1) n → (x2 = 0 → (∀ h : Nat, h < 256 → (rb (Zl S 60) 0 h = true ↔ AHd (I j) (Zl Sr 58) j h)) ∧ ∀ v b : Nat, v < w → lbit (Zl S 60 v) b = true → lbit (Zl S 58 (4 * k + v)) b = true) → Rt (f_spreadLives_80 R.K k32 k45 k56 d S (some ws) x2 (nI k) (nI n) (nI w)) Q
  | 0, w, S, x2, hd, hn, _, _ => by omega
  | d + 1, w, S, x2, hd, hn, hi, hA => by
    have hi2 := hi
    obtain ⟨e, hC, hs, hx⟩ := hi2
    have h24 := hC.2.1
    unfold f_spreadLives_80
    refine Rt.it (fun q => ?_) (fun q => ?_)
    · have hw : 4 ≤ w := (nI_leI (a := 4) (b := w) (by decide) (by omega)).mp q
      obtain rfl : w = 4 := by omega
      rw [nI_1]
      refine kn S x2 ⟨e, hC, hs, hx.imp (fun ⟨a, b, c, dd⟩ => ⟨a, b, c, fun m j' hm hj' => ?_⟩) id⟩
      by_cases em : m = n
      · subst em
        rw [show k + 1 - 1 = k from rfl, hj] at hj'
        cases hj'
        obtain ⟨a1, a2⟩ := hA a
        intro h hh hah
        rw [show k + 1 - 1 = k from rfl]
        rw [b] at hah ⊢
        have := (a1 h hh).mpr hah
        unfold rb at this ⊢
        rw [Nat.zero_add] at this
        rw [← b]
        exact a2 (h / 64) (h % 64) (by omega) this
      · exact dd m j' (by omega) hj'
    · have hw : w < 4 := by
        by_cases q2 : w < 4
        · exact q2
        · exact absurd (nI_le (a := 4) (b := w) (by omega) (by omega)) q
      rw [nI_4, nI_add]
      have r58 : rJ S 58 (nI (4 * k + w)) = some (Zl S 58 (4 * k + w)) := rJ_n (show 4 * k + w < rlen 58 from by show _ < 96000; omega) (by decide)
      have r60 : rJ S 60 (nI w) = some (Zl S 60 w) := rJ_n (show w < rlen 60 from hw) (by decide)
      have h126 : ∀ y2 : Int32, ((y2 = x2 ∧ Zl S 58 (4 * k + w) ||| Zl S 60 w = Zl S 58 (4 * k + w)) ∨ (y2 = 1 ∧ Zl S 58 (4 * k + w) ||| Zl S 60 w ≠ Zl S 58 (4 * k + w))) → Rt (f_spreadLives_126 R.K k32 k45 k56 ((f_spreadLives_80 R.K k32 k45 k56 d)) S (some ws) y2 (nI k) (nI n) (nI w) (Zl S 58 (4 * k + w) ||| Zl S 60 w)) Q := fun y2 hy => by
        unfold f_spreadLives_126
        rw [nI_4, nI_add]
        refine Rt.bd (wJ_n (show 4 * k + w < rlen 58 from by show _ < 96000; omega) (by decide)) ?_
        rw [nI_1]
        have e2 : OXs (fun r => r = 58 ∨ r = 60) S (Ul S 58 (vp_updL (Zl S 58) (4 * k + w) (Zl S 58 (4 * k + w) ||| Zl S 60 w))) := OXs.ul (by decide) (Or.inl rfl)
        have e58 : Zl (Ul S 58 (vp_updL (Zl S 58) (4 * k + w) (Zl S 58 (4 * k + w) ||| Zl S 60 w))) 58 = vp_updL (Zl S 58) (4 * k + w) (Zl S 58 (4 * k + w) ||| Zl S 60 w) := Zl_us
        have e60 : Zl (Ul S 58 (vp_updL (Zl S 58) (4 * k + w) (Zl S 58 (4 * k + w) ||| Zl S 60 w))) 60 = Zl S 60 := Zl_un (by decide)
        have hs2 : sbL (Zl S 58) (vp_updL (Zl S 58) (4 * k + w) (Zl S 58 (4 * k + w) ||| Zl S 60 w)) := sbL.or
        rcases hy with ⟨hy1, hy2⟩ | ⟨hy1, hy2⟩
        · have hid : vp_updL (Zl S 58) (4 * k + w) (Zl S 58 (4 * k + w) ||| Zl S 60 w) = Zl S 58 := upL_id hy2
          refine lv80 h1 h2 hj kn d (w + 1) _ y2 (by omega) (by omega) ⟨e.tr e2, hC.ps e2.1, by rw [e58, hid]; exact hs, by rw [e58, hid, hy1]; exact hx⟩ (fun y0 => ?_)
          rw [e58, e60, hid]
          obtain ⟨a1, a2⟩ := hA (hy1.symm.trans y0)
          refine ⟨a1, fun v b hv hb => ?_⟩
          by_cases ev : v = w
          · subst ev; rw [← hy2, lbit_or, hb]; simp
          · exact a2 v b (by omega) hb
        · refine lv80 h1 h2 hj kn d (w + 1) _ y2 (by omega) (by omega) ⟨e.tr e2, hC.ps e2.1, by rw [e58]; exact hs.tr hs2, Or.inr ⟨hy1, ?_⟩⟩ (fun y0 => absurd (hy1.symm.trans y0) (by decide))
          rw [e58]
          have c1 := cw_lt (a := 4 * Ps) (w := 4 * k + w) (m := 4 * (Pe - Ps)) hs2 (by omega) (by omega) (by rw [upL_s]; exact fun w => hy2 w.symm)
          have c2 := cw_le (a := 4 * Ps) (m := 4 * (Pe - Ps)) hs
          omega
      refine Rt.bd r58 (Rt.bd r60 (Rt.bd r58 (Rt.it (fun q2 => h126 x2 (Or.inl ⟨rfl, lgc0.mp q2⟩)) (fun q2 => h126 1 (Or.inr ⟨rfl, fun w => q2 (lgc0.mpr w)⟩)))))
end PS3
