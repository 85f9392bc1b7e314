/-- what the reading of a block (t = 1), a statement (0), an arm (2) gives -/
def NP (K : Ky) (T : Nat) (S : Sg) (pp ns vv bb t ci n gz gn bz bn : Nat) (S2 : Sg) (r : Option Nat) : Prop := ∃ pp2 vv2 bb2 e : Nat, r = some e ∧ RZ S2 T pp2 ns vv2 bb2 ∧ GR nX S S2 ∧ (pp ≤ pp2 ∧ bb ≤ bb2 ∧ bb2 ≤ bb + (pp2 - pp)) ∧ Zz S2 ≤ Zz S + 8 * (pp2 - pp) + bz ∧ Zn S2 ≤ Zn S + 120 * (pp2 - pp) + bn ∧ (Zz S ≤ e ∧ e < Zz S2 ∧ ∃ vs : List Value, ZF S2 e = .inr (ci, vs)) ∧ (Zi S2 3 = 0 → Zz S2 + gz ≤ Zz S + 8 * (pp2 - pp) ∧ Zn S2 + gn ≤ Zn S + 120 * (pp2 - pp) ∧ bb2 ≤ 54 ∧ vv2 ≤ 40 ∧ isS K (iv (Zz S) (Zz S2)) (ZF S2) (Zr S 5) n t e pp pp2 bb bb2 vv vv2)
def HVb (K : Ky) (T : Nat) (V : Sg → Option (Sg × Option Nat)) (d : Nat) : Prop := ∀ (S : Sg) (pp ns vv bb : Nat), RZ S T pp ns vv bb → (Zi S 3 = 0 → bb ≤ 54 ∧ vv ≤ 40) → 1 ≤ d → (Zi S 3 = 0 → ns ≤ 16 ∧ 18 ≤ ns + d) → Zz S + 8 * (T - pp) + 12 ≤ K.2.1 → Zn S + 120 * (T - pp) + 460 ≤ K.2.2 → Rt (V S) (NP K T S pp ns vv bb 1 14 (2 * (16 - ns) + 1) 8 100 2 10)
theorem isS_im {K : Ky} {L L2 : List Nat} {F F2 : Nat → va_E} {fk : Nat → Int32} (hx : exS L F L2 F2) {n : Nat} (m : Nat) (hm : n ≤ m) {t a p q b c v w : Nat} (h : isS K L F fk n t a p q b c v w) : isS K L2 F2 fk m t a p q b c v w := isN_im hx m hm h
/-- the statements of the block e that were read since S -/
def BW (K : Ky) (fk : Nat → Int32) (N : Nat) (S S1 : Sg) (e : Nat) (pp n cp p1 bb b1 vv v1 : Nat) : Prop := ∃ (f : Nat → Option Nat) (L : List Nat) (la : Nat), e ∈ ZL S1 ∧ ZF S1 e = .inr (14, [.int (nI pp), .int 0, .ref la, .int (nI n)]) ∧ la ∈ ZL S1 ∧ ZF S1 la = .inl (K.1 11, cp, .inr (.inr (.inr (.inr f)))) ∧ Zz S ≤ e ∧ Zz S ≤ la ∧ e ∉ L ∧ la ∉ L ∧ n ≤ cp ∧ 4 ≤ cp ∧ cp ≤ 4 + 2 * n ∧ (∀ a ∈ L, Zz S ≤ a ∧ a < Zz S1) ∧ (∀ i : Nat, i < n → ∃ y : Nat, f i = some y ∧ okO S1 19 (some y) = true) ∧ (Zi S1 3 = 0 → chN (isS K L (ZF S1) fk N 0) f n (pp + 1) p1 bb b1 vv v1)
section BLK
variable {K : Ky} {T : Nat} {V : Sg → Option (Sg × Option Nat)} {fk : Nat → Int32} {N pp ns bb vv : Nat} {S : Sg} {e x : Nat} {P : Sg → Option Nat → Prop}
theorem bl138 {k61 : Sg → Option Nat → Option (Sg × Option Nat)} {S : Sg} {la cp n : Nat} {a b : Value} {f : Nat → Option Nat} (he : e ∈ ZL S) (hF : ZF S e = .inr (14, [a, b, .ref la, .int (nI n)])) (hl : la ∈ ZL S) (hR : ZF S la = .inl (K.1 11, cp, .inr (.inr (.inr (.inr f))))) (hn : n < cp) (hc : cp < 2 ^ 31) (hx : okO S 19 (some x) = true) : f_block_138 K V k61 S (some e) (some x) = k61 (UF (UF S la (.inl (K.1 11, cp, .inr (.inr (.inr (.inr (va_up f n (some x)))))))) e (.inr (14, [a, b, .ref la, .int (nI (n + 1))]))) (some e) := by
  have e1 : e ≠ la := ne_or hF hR
  have hF2 : ZF (UF S la (.inl (K.1 11, cp, .inr (.inr (.inr (.inr (va_up f n (some x)))))))) e = .inr (14, [a, b, .ref la, .int (nI n)]) := (ZF_n e1).trans hF
  unfold f_block_138
  rw [oR_mk (v := some la) he hF rfl]
  show (oI S 14 (some e) 3).bind _ = _
  rw [oI_mk he hF rfl]
  show (bQ K 11 19 S (some la) (nI n) (some x)).bind _ = _
  rw [bQ_n hl hR hn hc hx]
  show (oI (UF S la _) 14 (some e) 3).bind _ = _
  rw [oI_mk (S := UF S la _) he hF2 rfl]
  show (pV (UF S la _) 14 (some e) 3 (.int (nI n + 1))).bind _ = _
  rw [pV_mk (S := UF S la _) he hF2 (Nat.le_of_ble_eq_true rfl), nI_1]; rfl
theorem bl107 {k61 : Sg → Option Nat → Option (Sg × Option Nat)} {S0 : Sg} {la l2 cp n : Nat} {a b : Value} {f : Nat → Option Nat} (hn : n ≤ 3001) (hcp : n = cp) (hl2 : Zz S0 ≤ l2) (he0 : e < Zz S0) (kk : ∀ (S : Sg) (f2 : Nat → Option Nat), e ∈ ZL S → ZF S e = .inr (14, [a, b, .ref l2, .int (nI n)]) → l2 ∈ ZL S → ZF S l2 = .inl (K.1 11, 2 * n, .inr (.inr (.inr (.inr f2)))) → (∀ i : Nat, i < n → f2 i = f i) → GR (fun c => c = e) S0 S → Zi S = Zi S0 → Zz S = l2 + 1 → Zn S = Zn S0 + 2 * n → (∀ y : Nat, okO S0 19 (some y) = true → okO S 19 (some y) = true) → Rt (f_block_138 K V k61 S (some e) (some x)) P) : ∀ (m j : Nat), n < j + m → j ≤ n → ∀ {S : Sg} {f2 : Nat → Option Nat}, e ∈ ZL S → ZF S e = .inr (14, [a, b, .ref la, .int (nI n)]) → la ∈ ZL S → ZF S la = .inl (K.1 11, cp, .inr (.inr (.inr (.inr f)))) → l2 ∈ ZL S → ZF S l2 = .inl (K.1 11, 2 * n, .inr (.inr (.inr (.inr f2)))) → la ≠ l2 → (∀ i : Nat, i < n → ∃ y : Nat, f i = some y ∧ okO S 19 (some y) = true) → (∀ i : Nat, i < j → f2 i = f i) → GR (fun c => c = e) S0 S → Zi S = Zi S0 → Zz S = l2 + 1 → Zn S = Zn S0 + 2 * n → (∀ y : Nat, okO S0 19 (some y) = true → okO S 19 (some y) = true) → Rt (f_block_107 K V k61 m S (some e) (some x) (some l2) (nI j)) P
  | 0, j, w1, w2, _, _, _, _, _, _, _, _, _, _, _, _, _, _, _, _ => absurd w1 (by omega)
  | m + 1, j, w1, w2, S, f2, he, hF, hl, hR, h2, hR2, hne, hy, hfg, hg, hi, hz, hnn, hok => by
    have e1 : e ≠ l2 := ne_or hF hR2
    unfold f_block_107
    refine Rt.bd (oI_mk he hF rfl) (Rt.it (fun q => ?_) (fun q => ?_))
    · have hj : j = n := by
        rcases Nat.lt_or_ge j n with w | w
        · exact absurd q (fun q => by have := (nI_leI (by omega) (by omega)).mp q; omega)
        · omega
      subst hj
      refine Rt.bd (pV_mk (v := va_rf (some l2)) he hF (Nat.le_of_ble_eq_true rfl)) ?_
      refine kk _ f2 he ZF_s h2 ((ZF_n (fun q => e1 q.symm)).trans hR2) hfg (hg.tr GR.uf (fun c _ q => q)) hi hz hnn (fun y hy1 => ?_)
      have hy2 := hok y hy1
      obtain ⟨y1, vs, y2⟩ := okO_of hy2
      exact okO_mk y1 ((ZF_n (fun q => by rw [q, hF] at y2; cases y2)).trans y2)
    · have hj : j < n := by
        rcases Nat.lt_or_ge j n with w | w
        · exact w
        · exact absurd (nI_le w (by omega)) q
      obtain ⟨y, hfy, hoy⟩ := hy j hj
      refine Rt.bd (oR_mk (v := some la) he hF rfl) (Rt.bd (aQ_n hl hR (show j < cp by omega) (by omega)) ?_)
      rw [hfy]
      refine Rt.bd (bQ_n h2 hR2 (show j < 2 * n by omega) (by omega) hoy) ?_
      rw [nI_1]
      have hk : ∀ {y : Nat}, okO S 19 (some y) = true → okO (UF S l2 (.inl (K.1 11, 2 * n, .inr (.inr (.inr (.inr (va_up f2 j (some y)))))))) 19 (some y) = true → True := fun _ _ => trivial
      have hok2 : ∀ {u : Nat} {c : vp_A}, okO S 19 (some u) = true → okO (UF S l2 (.inl (K.1 11, c))) 19 (some u) = true := fun {u c} h => by
        obtain ⟨y1, vs, y2⟩ := okO_of h
        exact okO_mk y1 ((ZF_n (ne_or y2 hR2)).trans y2)
      refine bl107 hn hcp hl2 he0 kk m (j + 1) (by omega) (by omega) he ((ZF_n e1).trans hF) hl ((ZF_n hne).trans hR) h2 ZF_s hne (fun i hi => by obtain ⟨u, h1, h3⟩ := hy i hi; exact ⟨u, h1, hok2 h3⟩) (fun i hi => ?_) (hg.tr GR.uf (fun c hc q => absurd q (by omega))) hi hz hnn (fun u hu => hok2 (hok u hu))
      by_cases ei : i = j
      · subst ei; exact (va_up_self _ _ _).trans hfy.symm
      · exact (va_up_ne _ _ ei).trans (hfg i (by omega))
end BLK
