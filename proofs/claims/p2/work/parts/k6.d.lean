section XPM
variable {R : yR} {S S2 : Sg} {Γ : List Nat}
/-- isPart -/
theorem isp_5 {K : Ky} (hL : ∀ a ∈ ZL R.S, a ∈ ZL S) : ∀ {n m : Nat} {e p q v : Nat} {π : List (Nat × Nat)} {x mu mv : Nat}, xPl R S Γ n e p q v π x mu mv → (∃ (kd : Int32) (fs : List Value), ZF S e = .inr (15, fs) ∧ fs[0]? = some (.int kd) ∧ (kd = 2 ∨ kd = 11 ∨ kd = 14)) → n ≤ m → n ≤ 1000 → Rt (f_isPart_5 K m S (some e)) (fun S2 r => S2 = S ∧ r = if mv = 1 then 1 else 0)
  | 0, _, _, _, _, _, _, _, _, _, h, _, _, _ => h.elim
  | n + 1, 0, _, _, _, _, _, _, _, _, _, _, hm, _ => absurd hm (by omega)
  | n + 1, m + 1, e, p, q, v, π, x, mu, mv, h, hk, hm, hn => by
    obtain ⟨⟨h1, h2, h3⟩, h4, h5⟩ := h
    unfold f_isPart_5 f_isPart_38
    rcases h5 with ⟨ix, nm, k1, k2, k3, k4, k5, k6⟩ | ⟨o, p', q', k1, k2, k3, k4⟩ | ⟨o, p', q', y, m2, w2, kd, π2, k1, k2, k3, k4, k5, k6, k7⟩ | ⟨o, nm, q', y, i, k, w2, π2, k1, k2, k3, k4, k5, k6, k7, k8⟩
    · refine Rt.bd (oI_mk (hL e h1) k1 (v := 2) rfl) (Rt.iq (by decide) (Rt.bd (oI_mk (hL e h1) k1 (v := 2) rfl) (Rt.ip rfl (Rt.zr (Or.inr rfl) ⟨rfl, ?_⟩))))
      rw [k6, if_pos rfl]
    · obtain ⟨kd, fs, w1, w2, w3⟩ := hk
      rw [k1] at w1; cases w1; cases w2
      exact absurd w3 (by decide)
    · refine Rt.bd (oI_mk (hL e h1) k1 (v := 11) rfl) (Rt.iq (by decide) (Rt.bd (oI_mk (hL e h1) k1 (v := 11) rfl) (Rt.iq (by decide) (Rt.zr (Or.inl rfl) ⟨rfl, ?_⟩))))
      rw [if_neg]
      rcases k7 with ⟨_, _, w⟩ | ⟨_, _, w⟩ | ⟨_, _, w⟩ <;> rw [w]
      · split <;> omega
      · omega
      · omega
    · obtain ⟨n2, e2, p3, q3, a1, a2, a3, a4, a5, a6⟩ := bare_ (K := K) hL k4 (by omega)
      refine Rt.bd (oI_mk (hL e h1) k1 (v := 14) rfl) (Rt.ip rfl (Rt.bd (oR_mk (hL e h1) k1 (v := some o) rfl) (Rt.be a2 ?_)))
      refine (isp_5 (K := K) hL a3 a6 (m := m) (by omega) (by omega)).mo (fun S2 r q => ⟨q.1, q.2.trans ?_⟩)
      rw [k8]
      by_cases w : w2 = 1
      · rw [if_pos w, if_pos (if_pos w)]
      · rw [if_neg w, if_neg (by rw [if_neg w]; decide)]
theorem ispt_ {K : Ky} (hL : ∀ a ∈ ZL R.S, a ∈ ZL S) {n : Nat} {e p q v : Nat} {π : List (Nat × Nat)} {x mu mv : Nat} (h : xPl R S Γ n e p q v π x mu mv) (hn : n ≤ 1000) : Rt (f_isPart K S (some e)) (fun S2 r => S2 = S ∧ r = if mv = 1 then 1 else 0) := by
  obtain ⟨n2, e2, p3, q3, a1, a2, a3, a4, a5, a6⟩ := bare_ (K := K) hL h hn
  unfold f_isPart
  exact Rt.be a2 (isp_5 hL a3 a6 (by show n2 ≤ 1000000000000; omega) (by omega))
/-- movable -/
theorem mov_ {K : Ky} (hL : ∀ a ∈ ZL R.S, a ∈ ZL S) {n : Nat} {e p q v : Nat} {π : List (Nat × Nat)} {x mu mv : Nat} (h : xPl R S Γ n e p q v π x mu mv) (hn : n ≤ 1000) : Rt (f_movable K S (some e)) (fun S2 r => S2 = S ∧ ((r = 0 ∧ mv = 0) ∨ (r = 1 ∧ mv ≠ 0))) := by
  obtain ⟨n2, e2, p3, q3, a1, a2, a3, a4, a5, a6⟩ := bare_ (K := K) hL h hn
  unfold f_movable f_movable_49 f_movable_45 f_movable_50
  refine Rt.be a2 (Rt.bn (ispt_ hL a3 (by omega)) (fun S3 r3 q3' => ?_))
  obtain ⟨rfl, e3⟩ := q3'
  cases n2 with
  | zero => exact a3.elim
  | succ n2 =>
  obtain ⟨⟨h1, h2, h3⟩, h4, h5⟩ := a3
  by_cases hmv : mv = 1
  · rw [if_pos hmv] at e3; subst e3
    exact Rt.iq (by decide) (Rt.zr (Or.inr rfl) ⟨rfl, Or.inr ⟨rfl, by omega⟩⟩)
  · rw [if_neg hmv] at e3; subst e3
    refine Rt.ip rfl ?_
    rcases h5 with ⟨ix, nm, k1, k2, k3, k4, k5, k6⟩ | ⟨o, p', q', k1, k2, k3, k4⟩ | ⟨o, p', q', y, m2, w2, kd, π2, k1, k2, k3, k4, k5, k6, k7⟩ | ⟨o, nm, q', y, i, k, w2, π2, k1, k2, k3, k4, k5, k6, k7, k8⟩
    · exact absurd k6 hmv
    · obtain ⟨kd, fs, w1, w2, w3⟩ := a6
      rw [k1] at w1; cases w1; cases w2
      exact absurd w3 (by decide)
    · obtain ⟨c1, c2, c3, c4, ck, cf, c5, c6, c7, c8, c9⟩ := xPl_c k4
      obtain ⟨ty, y1, y2, y3, y4⟩ := k5
      refine Rt.bd (oI_mk (hL _ h1) k1 (v := 11) rfl) (Rt.ip rfl (Rt.bd (oR_mk (hL _ h1) k1 (v := some o) rfl) (Rt.bd (oR_mk (hL _ c1) c5 (v := some y) c8) (Rt.bd (oI_mk y3 y4 (v := kd) rfl) ?_))))
      rcases k7 with ⟨w, u1, u2⟩ | ⟨w, u1, u2⟩ | ⟨w, u1, u2⟩
      · refine Rt.ip w (Rt.bd (oR_mk (hL _ h1) k1 (v := some o) rfl) (Rt.bn (ispt_ hL k4 (by omega)) (fun S4 r4 q4 => ?_)))
        obtain ⟨rfl, e4⟩ := q4
        by_cases hw : w2 = 1
        · rw [if_pos hw] at e4 u2; subst e4
          exact Rt.iq (by decide) (Rt.zr (Or.inr rfl) ⟨rfl, Or.inr ⟨rfl, by omega⟩⟩)
        · rw [if_neg hw] at e4 u2; subst e4
          exact Rt.ip rfl (Rt.zr (Or.inl rfl) ⟨rfl, Or.inl ⟨rfl, u2⟩⟩)
      · exact Rt.iq (by rw [w]; decide) (Rt.zr (Or.inl rfl) ⟨rfl, Or.inl ⟨rfl, u2⟩⟩)
      · exact Rt.iq (by rw [w]; decide) (Rt.zr (Or.inl rfl) ⟨rfl, Or.inl ⟨rfl, u2⟩⟩)
    · refine Rt.bd (oI_mk (hL _ h1) k1 (v := 14) rfl) (Rt.iq (by decide) (Rt.zr (Or.inl rfl) ⟨rfl, Or.inl ⟨rfl, ?_⟩⟩))
      by_cases hw : w2 = 1
      · rw [if_pos hw] at k8; exact absurd k8 hmv
      · rw [if_neg hw] at k8; exact k8
/-- mutable -/
theorem mut_ {K : Ky} (hL : ∀ a ∈ ZL R.S, a ∈ ZL S) : ∀ {n d : Nat} {e p q v : Nat} {π : List (Nat × Nat)} {x mu mv : Nat}, xPl R S Γ n e p q v π x mu mv → n ≤ d → n ≤ 1000 → Rt (f_mutable K d S (some e)) (fun S2 r => S2 = S ∧ r = nI mu)
  | 0, _, _, _, _, _, _, _, _, _, h, _, _ => h.elim
  | n + 1, 0, _, _, _, _, _, _, _, _, _, hm, _ => absurd hm (by omega)
  | n + 1, d + 1, e, p, q, v, π, x, mu, mv, h, hm, hn => by
    obtain ⟨n2, e2, p3, q3, a1, a2, a3, a4, a5, a6⟩ := bare_ (K := K) hL h hn
    have hmu := (xPl_c h).2.2.2.1.1
    have hz : nI mu = 0 ∨ nI mu = 1 := by
      rcases Nat.lt_or_ge mu 1 with w | w
      · rw [show mu = 0 by omega]; exact Or.inl rfl
      · rw [show mu = 1 by omega]; exact Or.inr rfl
    unfold f_mutable f_mutable_72 f_mutable_76 f_mutable_77
    refine Rt.be a2 ?_
    cases n2 with
    | zero => exact a3.elim
    | succ n2 =>
    obtain ⟨⟨h1, h2, h3⟩, h4, h5⟩ := a3
    rcases h5 with ⟨ix, nm, k1, k2, k3, k4, k5, k6⟩ | ⟨o, p', q', k1, k2, k3, k4⟩ | ⟨o, p', q', y, m2, w2, kd, π2, k1, k2, k3, k4, k5, k6, k7⟩ | ⟨o, nm, q', y, i, k, w2, π2, k1, k2, k3, k4, k5, k6, k7, k8⟩
    · exact Rt.bd (oI_mk (hL _ h1) k1 (v := 2) rfl) (Rt.ip rfl (Rt.bd (oR_mk (hL _ h1) k1 (v := some v) rfl) (Rt.bd (oI_mk k4.1 k4.2 (v := nI mu) rfl) (Rt.zr hz ⟨rfl, rfl⟩))))
    · obtain ⟨kd, fs, w1, w2, w3⟩ := a6
      rw [k1] at w1; cases w1; cases w2
      exact absurd w3 (by decide)
    · obtain ⟨c1, c2, c3, c4, ck, cf, c5, c6, c7, c8, c9⟩ := xPl_c k4
      obtain ⟨ty, y1, y2, y3, y4⟩ := k5
      refine Rt.bd (oI_mk (hL _ h1) k1 (v := 11) rfl) (Rt.iq (by decide) (Rt.bd (oI_mk (hL _ h1) k1 (v := 11) rfl) (Rt.iq (by decide) (Rt.bd (oR_mk (hL _ h1) k1 (v := some o) rfl) (Rt.bd (oR_mk (hL _ c1) c5 (v := some y) c8) (Rt.bd (oI_mk y3 y4 (v := kd) rfl) ?_))))))
      rcases k7 with ⟨w, u1, u2⟩ | ⟨w, u1, u2⟩ | ⟨w, u1, u2⟩
      · refine Rt.iq (by rw [w]; decide) (Rt.ip w (Rt.bd (oR_mk (hL _ h1) k1 (v := some o) rfl) (Rt.bn (mut_ hL k4 (d := d) (by omega) (by omega)) (fun S4 r4 q4 => ?_))))
        obtain ⟨rfl, e4⟩ := q4
        rw [← u1] at e4
        subst e4
        refine Rt.it (fun z => Rt.zr (Or.inl rfl) ⟨rfl, z.symm⟩) (fun z => Rt.zr (Or.inr rfl) ⟨rfl, ?_⟩)
        exact (hz.elim (fun w => absurd w z) id).symm
      · exact Rt.iq (by rw [w]; decide) (Rt.iq (by rw [w]; decide) (Rt.zr (Or.inl rfl) ⟨rfl, by rw [u1]; rfl⟩))
      · exact Rt.ip w (Rt.zr (Or.inr rfl) ⟨rfl, by rw [u1]; rfl⟩)
    · refine Rt.bd (oI_mk (hL _ h1) k1 (v := 14) rfl) (Rt.iq (by decide) (Rt.bd (oI_mk (hL _ h1) k1 (v := 14) rfl) (Rt.ip rfl (Rt.bd (oR_mk (hL _ h1) k1 (v := some o) rfl) (Rt.bn (mut_ hL k4 (d := d) (by omega) (by omega)) (fun S4 r4 q4 => ?_))))))
      obtain ⟨rfl, e4⟩ := q4
      subst e4
      exact Rt.zr hz ⟨rfl, rfl⟩
end XPM
