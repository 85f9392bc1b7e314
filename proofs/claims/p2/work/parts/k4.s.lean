section GRB
variable {K : Ky} {pp s n cp : Nat} {f g : Nat → Option Nat}
/-- two rows of the same length: conditions, blocks -/
def rwB (K : Ky) (S : Sg) (ca ba cp : Nat) (f g : Nat → Option Nat) : Prop := ca ∈ ZL S ∧ ba ∈ ZL S ∧ ca ≠ ba ∧ ZF S ca = .inl (K.1 9, cp, .inr (.inr (.inr (.inr f)))) ∧ ZF S ba = .inl (K.1 10, cp, .inr (.inr (.inr (.inr g))))
theorem gb22 {S0 : Sg} {ca ba c2 b2 : Nat} (hn : n ≤ 3001) (hcp : n = cp) (hc2 : Zz S0 ≤ c2) (hb2 : Zz S0 ≤ b2) : ∀ (m j : Nat), n < j + m → j ≤ n → ∀ {S : Sg} {f2 g2 : Nat → Option Nat}, s ∈ ZL S → ZF S s = .inr (19, sxV 3 pp 0 0 0 .null .null .null .null (.ref ca) (.ref ba) .null n) → rwB K S ca ba cp f g → rwB K S c2 b2 (2 * n) f2 g2 → (ca ≠ c2 ∧ ca ≠ b2 ∧ ba ≠ c2 ∧ ba ≠ b2) → (∀ i : Nat, i < n → ∃ x y : Nat, f i = some x ∧ okO S 15 (some x) = true ∧ g i = some y ∧ okO S 14 (some y) = true) → (∀ i : Nat, i < j → f2 i = f i ∧ g2 i = g i) → (∀ i : Nat, j ≤ i → f2 i = none) → GR (fun c => c = s) S0 S → Rt (f_growBranch_22 K m S (some s) (some c2) (some b2) (nI j)) (fun S2 _ => ∃ f3 g3 : Nat → Option Nat, s ∈ ZL S2 ∧ ZF S2 s = .inr (19, sxV 3 pp 0 0 0 .null .null .null .null (.ref c2) (.ref b2) .null n) ∧ rwB K S2 c2 b2 (2 * n) f3 g3 ∧ (∀ i : Nat, i < n → f3 i = f i ∧ g3 i = g i) ∧ (∀ i : Nat, n ≤ i → f3 i = none) ∧ GR (fun c => c = s) S0 S2 ∧ Zi S2 = Zi S ∧ Zz S2 = Zz S ∧ Zn S2 = Zn S ∧ ∀ a : Nat, a ≠ s → a ≠ c2 → a ≠ b2 → ZF S2 a = ZF S a)
  | 0, j, w1, w2, _, _, _, _, _, _, _, _, _, _, _, _ => absurd w1 (by omega)
  | m + 1, j, w1, w2, S, f2, g2, he, hF, hr, hr2, hne, hy, hfg, hfn, hg => by
    obtain ⟨r1, r2, r0, r3, r4⟩ := hr
    obtain ⟨t1, t2, t0, t3, t4⟩ := hr2
    obtain ⟨n1, n2, n3, n4⟩ := hne
    have e1 : s ≠ c2 := ne_or hF t3
    have e2 : s ≠ b2 := ne_or hF t4
    unfold f_growBranch_22
    refine Rt.bd (oI_mk (v := nI n) he hF rfl) (Rt.it (fun q => ?_) (fun q => ?_))
    · have hj : j = n := by
        rcases Nat.lt_or_ge j n with w | w
        · exact absurd q (fun q => by have := (nI_leI (by omega) (by omega)).mp q; omega)
        · omega
      subst hj
      refine Rt.bd (pV_mk (v := va_rf (some c2)) he hF (Nat.le_of_ble_eq_true rfl)) (Rt.bd (pV_mk (v := va_rf (some b2)) (fs := sxV 3 pp 0 0 0 .null .null .null .null (.ref c2) (.ref ba) .null j) he ZF_s (Nat.le_of_ble_eq_true rfl)) (Rt.rt ⟨f2, g2, he, ZF_s, ⟨t1, t2, t0, ?_, ?_⟩, hfg, hfn, (hg.tr GR.uf (fun c _ q => q)).tr GR.uf (fun c _ q => q), rfl, rfl, rfl, fun a h1 _ _ => (ZF_n h1).trans (ZF_n h1)⟩))
      · exact (ZF_n (fun q => e1 q.symm)).trans ((ZF_n (fun q => e1 q.symm)).trans t3)
      · exact (ZF_n (fun q => e2 q.symm)).trans ((ZF_n (fun q => e2 q.symm)).trans t4)
    · have hj : j < n := by
        rcases Nat.lt_or_ge j n with w | w
        · exact w
        · exact absurd (nI_le w (by omega)) q
      obtain ⟨x, y, hfx, hox, hgy, hoy⟩ := hy j hj
      have hF2 : ZF (UF S c2 (.inl (K.1 9, 2 * n, .inr (.inr (.inr (.inr (va_up f2 j (some x)))))))) s = .inr (19, sxV 3 pp 0 0 0 .null .null .null .null (.ref ca) (.ref ba) .null n) := (ZF_n e1).trans hF
      refine Rt.bd (oR_mk (v := some ca) he hF rfl) (Rt.bd (aQ_n r1 r3 (show j < cp by omega) (by omega)) ?_)
      rw [hfx]
      refine Rt.bd (bQ_n t1 t3 (show j < 2 * n by omega) (by omega) hox) (Rt.bd (oR_mk (v := some ba) he hF2 rfl) (Rt.bd (aQ_n r2 ((ZF_n n3).trans r4) (show j < cp by omega) (by omega)) ?_))
      rw [hgy]
      have hk1 : ∀ {u ci : Nat} {c : vp_A}, okO S ci (some u) = true → okO (UF S c2 (.inl (K.1 9, c))) ci (some u) = true := fun {u ci c} h => by
        obtain ⟨y1, vs, y2⟩ := okO_of h
        exact okO_mk y1 ((ZF_n (ne_or y2 t3)).trans y2)
      have t4' : ∀ {c : vp_A}, ZF (UF S c2 (.inl (K.1 9, c))) b2 = .inl (K.1 10, 2 * n, .inr (.inr (.inr (.inr g2)))) := fun {c} => (ZF_n (fun q => t0 q.symm)).trans t4
      refine Rt.bd (bQ_n t2 t4' (show j < 2 * n by omega) (by omega) (hk1 hoy)) ?_
      rw [nI_1]
      have hk2 : ∀ {u ci : Nat}, okO S ci (some u) = true → okO (UF (UF S c2 (.inl (K.1 9, 2 * n, .inr (.inr (.inr (.inr (va_up f2 j (some x)))))))) b2 (.inl (K.1 10, 2 * n, .inr (.inr (.inr (.inr (va_up g2 j (some y)))))))) ci (some u) = true := fun {u ci} h => by
        obtain ⟨y1, vs, y2⟩ := okO_of (hk1 (c := (2 * n, .inr (.inr (.inr (.inr (va_up f2 j (some x))))))) h)
        exact okO_mk y1 ((ZF_n (ne_or y2 t4')).trans y2)
      refine Rt.mo (gb22 hn hcp hc2 hb2 m (j + 1) (by omega) (by omega) he ((ZF_n e2).trans hF2) ⟨r1, r2, r0, (ZF_n n2).trans ((ZF_n n1).trans r3), (ZF_n n4).trans ((ZF_n n3).trans r4)⟩ ⟨t1, t2, t0, (ZF_n t0).trans ZF_s, ZF_s⟩ ⟨n1, n2, n3, n4⟩ (fun i hi => by obtain ⟨u, v, h1, h2, h3, h4⟩ := hy i hi; exact ⟨u, v, h1, hk2 h2, h3, hk2 h4⟩) (fun i hi => ?_) (fun i hi => (va_up_ne _ _ (by omega)).trans (hfn i (by omega))) ((hg.tr GR.uf (fun c hc q => absurd q (by omega))).tr GR.uf (fun c hc q => absurd q (by omega)))) (fun S2 _ q => ?_)
      · by_cases ei : i = j
        · subst ei; exact ⟨(va_up_self _ _ _).trans hfx.symm, (va_up_self _ _ _).trans hgy.symm⟩
        · exact ⟨(va_up_ne _ _ ei).trans (hfg i (by omega)).1, (va_up_ne _ _ ei).trans (hfg i (by omega)).2⟩
      · obtain ⟨f3, g3, k1, k2, k3, k4, k5, k6, k7, k8, k9, k10⟩ := q
        exact ⟨f3, g3, k1, k2, k3, k4, k5, k6, k7, k8, k9, fun a h1 h2 h3 => by rw [k10 a h1 h2 h3, ZF_n h3, ZF_n h2]⟩
theorem gb_ {S : Sg} {ca ba : Nat} (hz : ∀ a ∈ ZL S, a < Zz S) (hn : n ≤ 3001) (hcp : n = cp) (he : s ∈ ZL S) (hF : ZF S s = .inr (19, sxV 3 pp 0 0 0 .null .null .null .null (.ref ca) (.ref ba) .null n)) (hr : rwB K S ca ba cp f g) (hy : ∀ i : Nat, i < n → ∃ x y : Nat, f i = some x ∧ okO S 15 (some x) = true ∧ g i = some y ∧ okO S 14 (some y) = true) (r1 : Zz S + 2 ≤ K.2.1) (r2 : Zn S + 4 * n ≤ K.2.2) : Rt (f_growBranch K S (some s)) (fun S2 _ => ∃ f3 g3 : Nat → Option Nat, s ∈ ZL S2 ∧ ZF S2 s = .inr (19, sxV 3 pp 0 0 0 .null .null .null .null (.ref (Zz S)) (.ref (Zz S + 1)) .null n) ∧ rwB K S2 (Zz S) (Zz S + 1) (2 * n) f3 g3 ∧ (∀ i : Nat, i < n → f3 i = f i ∧ g3 i = g i) ∧ (∀ i : Nat, n ≤ i → f3 i = none) ∧ GR (fun c => c = s) S S2 ∧ Zi S2 = Zi S ∧ Zz S2 = Zz S + 2 ∧ Zn S2 = Zn S + 4 * n ∧ ∀ a : Nat, a ≠ s → a < Zz S → ZF S2 a = ZF S a) := by
  unfold f_growBranch
  obtain ⟨t1, t2, t0, t3, t4⟩ := hr
  have hza := hz ca t1; have hzb := hz ba t2; have hzs := hz s he
  refine Rt.bd (oI_mk (v := nI n) he hF rfl) ?_
  rw [nI_2]
  refine Rt.be (nQ_ok (n := 2 * n) (by omega) ⟨by omega, by omega⟩) ?_
  refine Rt.bd (oI_mk (v := nI n) (List.mem_cons_of_mem _ he) ((updE_n (by omega)).trans hF) rfl) ?_
  rw [nI_2]
  refine Rt.be (nQ_ok (n := 2 * n) (by omega) ⟨by show Zz S + 1 + 1 ≤ _; omega, by show Zn S + 2 * n + 2 * n ≤ _; omega⟩) ?_
  have hup : ∀ {a : Nat} {c : va_E}, a ∈ ZL S → ZF S a = c → ZF (Un (Un S (.inl (K.1 9, 2 * n, .inr (.inr (.inr (.inr (fun _ => none)))))) (2 * n)) (.inl (K.1 10, 2 * n, .inr (.inr (.inr (.inr (fun _ => none)))))) (2 * n)) a = c := fun {a c} h1 h2 => by
    have := hz a h1
    exact (updE_n (by show a ≠ Zz S + 1; omega)).trans ((updE_n (by omega)).trans h2)
  have hok : ∀ {u ci : Nat}, okO S ci (some u) = true → okO (Un (Un S (.inl (K.1 9, 2 * n, .inr (.inr (.inr (.inr (fun _ => none)))))) (2 * n)) (.inl (K.1 10, 2 * n, .inr (.inr (.inr (.inr (fun _ => none)))))) (2 * n)) ci (some u) = true := fun {u ci} h => by
    obtain ⟨y1, vs, y2⟩ := okO_of h
    exact okO_mk (List.mem_cons_of_mem _ (List.mem_cons_of_mem _ y1)) (hup y1 y2)
  refine Rt.mo (gb22 (S0 := S) (c2 := Zz S) (b2 := Zz S + 1) (f2 := fun _ => none) (g2 := fun _ => none) hn hcp (Nat.le_refl _) (Nat.le_succ _) bigN 0 (by show n < 0 + 1000000000000; omega) (by omega) (List.mem_cons_of_mem _ (List.mem_cons_of_mem _ he)) (hup he hF) ⟨List.mem_cons_of_mem _ (List.mem_cons_of_mem _ t1), List.mem_cons_of_mem _ (List.mem_cons_of_mem _ t2), t0, hup t1 t3, hup t2 t4⟩ ⟨List.mem_cons_of_mem _ List.mem_cons_self, List.mem_cons_self, by omega, (updE_n (by show Zz S ≠ Zz S + 1; omega)).trans updE_s, updE_s⟩ ⟨by omega, by omega, by omega, by omega⟩ (fun i hi => by obtain ⟨u, v, h1, h2, h3, h4⟩ := hy i hi; exact ⟨u, v, h1, hok h2, h3, hok h4⟩) (fun i hi => absurd hi (by omega)) (fun _ _ => rfl) (GR.un.n GR.un)) (fun S2 _ q => ?_)
  obtain ⟨f3, g3, k1, k2, k3, k4, k5, k6, k7, k8, k9, k10⟩ := q
  exact ⟨f3, g3, k1, k2, k3, k4, k5, k6, k7, k8, k9.trans (by show Zn S + 2 * n + 2 * n = _; omega), fun a h1 h2 => (k10 a h1 (by omega) (by omega)).trans ((updE_n (by show a ≠ Zz S + 1; omega)).trans (updE_n (by omega)))⟩
end GRB
