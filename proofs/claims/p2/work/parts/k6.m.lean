theorem nmE.sm {R : yR} {a b : Nat} (h : nmE R a b) : nmE R b a := ⟨h.1.symm, fun j hj => (h.2 j (by rw [h.1]; exact hj)).symm⟩
theorem nmE.tr {R : yR} {a b c : Nat} (h : nmE R a b) (g : nmE R b c) : nmE R a c := ⟨h.1.trans g.1, fun j hj => (h.2 j hj).trans (g.2 j (by rw [← h.1]; exact hj))⟩
section SNE
variable {R : yR} {Γ : List Nat} {c nv : Nat} {S : Sg}
theorem sne_36 (h : TS R c nv S) {ta tb a1 a2 ln : Nat} (hta : ta < R.T) (htb : tb < R.T) (e1 : Zr S 6 ta = nI a1) (e2 : Zr S 6 tb = nI a2) (h1 : a1 + ln ≤ 3000) (h2 : a2 + ln ≤ 3000) : ∀ (n j : Nat), ln < j + n → j ≤ ln → (∀ i : Nat, i < j → Zr S 0 (a1 + i) = Zr S 0 (a2 + i)) → Rt (f_sameName_36 R.K n S (nI ta) (nI tb) (nI ln) (nI j)) (fun S2 r => S2 = S ∧ ((r = 1 ∧ ∀ i : Nat, i < ln → Zr S 0 (a1 + i) = Zr S 0 (a2 + i)) ∨ (r = 0 ∧ ∃ i : Nat, i < ln ∧ ¬ Zr S 0 (a1 + i) = Zr S 0 (a2 + i))))
  | 0, j, a, b, _ => absurd a (by omega)
  | n + 1, j, a, b, hj0 => by
    have hT := h.tb
    unfold f_sameName_36
    refine Rt.it (fun hc => Rt.zr (Or.inr rfl) ⟨rfl, Or.inl ⟨rfl, fun i hi => hj0 i ?_⟩⟩) (fun hc => ?_)
    · have := (nI_leI (a := ln) (b := j) (by omega) (by omega)).mp hc; omega
    have hj : j < ln := by
      rcases Nat.lt_or_ge j ln with z | z
      · exact z
      · exact absurd (nI_le z (by omega)) hc
    refine Rt.bd (rI_n (show ta < rlen 6 by show ta < 3002; omega) (by decide)) ?_
    rw [e1, nI_add]
    refine Rt.bd (rI_n (show a1 + j < rlen 0 by show a1 + j < 3000; omega) (by decide)) ?_
    refine Rt.bd (rI_n (show tb < rlen 6 by show tb < 3002; omega) (by decide)) ?_
    rw [e2, nI_add]
    refine Rt.bd (rI_n (show a2 + j < rlen 0 by show a2 + j < 3000; omega) (by decide)) ?_
    refine Rt.it (fun w => ?_) (fun w => Rt.zr (Or.inl rfl) ⟨rfl, Or.inr ⟨rfl, j, hj, w⟩⟩)
    rw [nI_1]
    exact sne_36 h hta htb e1 e2 h1 h2 n (j + 1) (by omega) (by omega) (fun i hi => by
      by_cases e : i = j
      · subst e; exact w
      · exact hj0 i (by omega))
/-- sameName: whether two tokens have the same text -/
theorem sne_ (h : TS R c nv S) {ta tb : Nat} (hta : ta < R.T) (htb : tb < R.T) : Rt (f_sameName R.K S (nI ta) (nI tb)) (fun S2 r => S2 = S ∧ ((r = 1 ∧ nmE R ta tb) ∨ (r = 0 ∧ ¬ nmE R ta tb))) := by
  have hT := h.tb
  have z0 := h.fk (r := 0) (by decide)
  have z6 := h.fk (r := 6) (by decide)
  have z7 := h.fk (r := 7) (by decide)
  have h' := h
  obtain ⟨G, tm, Y, ad, g1, g2, g3, g4⟩ := h
  obtain ⟨a1, b1, ea1, eb1, hab1, hbz1⟩ := tk_pl g1.1.1.1 hta
  obtain ⟨a2, b2, ea2, eb2, hab2, hbz2⟩ := tk_pl g1.1.1.1 htb
  have hz := g1.1.1.2.1
  have ha1 : (Zr R.S 6 ta).toNatClampNeg = a1 := by rw [← z6, ea1, nI_clamp (by omega)]
  have ha2 : (Zr R.S 6 tb).toNatClampNeg = a2 := by rw [← z6, ea2, nI_clamp (by omega)]
  have hb1 : (Zr R.S 7 ta).toNatClampNeg = b1 := by rw [← z7, eb1, nI_clamp (by omega)]
  have hb2 : (Zr R.S 7 tb).toNatClampNeg = b2 := by rw [← z7, eb2, nI_clamp (by omega)]
  unfold nmE
  rw [ha1, ha2, hb1, hb2, ← z0]
  unfold f_sameName
  refine Rt.bd (rI_n (show ta < rlen 7 by show ta < 3002; omega) (by decide)) ?_
  refine Rt.bd (rI_n (show ta < rlen 6 by show ta < 3002; omega) (by decide)) ?_
  refine Rt.bd (rI_n (show tb < rlen 7 by show tb < 3002; omega) (by decide)) ?_
  refine Rt.bd (rI_n (show tb < rlen 6 by show tb < 3002; omega) (by decide)) ?_
  rw [ea1, eb1, ea2, eb2, nI_sb hab1, nI_sb hab2]
  refine Rt.it (fun hc => ?_) (fun hc => Rt.zr (Or.inl rfl) ⟨rfl, Or.inr ⟨rfl, fun w => hc (by rw [w.1])⟩⟩)
  have hln : b2 - a2 = b1 - a1 := (nI_eq (by omega) (by omega)).mp hc
  refine (sne_36 h' hta htb ea1 ea2 (by omega) (by omega) bigN 0 (by show _ < 0 + 1000000000000; omega) (by omega) (fun i hi => absurd hi (by omega))).mo (fun S2 r q => ⟨q.1, ?_⟩)
  rcases q.2 with ⟨w1, w2⟩ | ⟨w1, i, w2, w3⟩
  · exact Or.inl ⟨w1, hln.symm, w2⟩
  · exact Or.inr ⟨w1, fun w => w3 (w.2 i w2)⟩
/-- fieldOf: the first field with this name -/
theorem fof_2 (h : TS R c nv S) {a na mn tj : Nat} {fs : List Value} {g : Nat → Int32} (ha : a ∈ ZL R.S) (hF : ZF S a = .inr (16, fs)) (h3 : fs[3]? = some (.int (nI mn))) (hmn : mn ≤ 12) (h8 : fs[8]? = some (.ref na)) (hna : na ∈ ZL R.S) (hN : ZF S na = .inl (R.K.1 0, 13, .inl g)) (hg : ∀ j : Nat, j < mn → ∃ s : Nat, g j = nI s ∧ s < R.T) (htj : tj < R.T) : ∀ (m k : Nat), mn < k + m → k ≤ mn → (∀ j : Nat, j < k → ∃ s : Nat, g j = nI s ∧ s < R.T ∧ ¬ nmE R s tj) → Rt (f_fieldOf_2 R.K m S (some a) (nI tj) (nI k)) (fun S2 r => S2 = S ∧ (r = -1 ∨ ∃ k2 s : Nat, k2 < mn ∧ r = nI k2 ∧ g k2 = nI s ∧ s < R.T ∧ nmE R s tj ∧ ∀ j : Nat, j < k2 → ∃ s : Nat, g j = nI s ∧ s < R.T ∧ ¬ nmE R s tj))
  | 0, k, a9, b9, _ => absurd a9 (by omega)
  | m + 1, k, a9, b9, hfi => by
    unfold f_fieldOf_2
    refine Rt.bd (oI_mk (h.L ha) hF h3) (Rt.it (fun _ => Rt.rt ⟨rfl, Or.inl rfl⟩) (fun hc => ?_))
    have hlt : k < mn := by
      rcases Nat.lt_or_ge k mn with z | z
      · exact z
      · exact absurd (nI_le z (by omega)) hc
    obtain ⟨s, s1, s2⟩ := hg k hlt
    refine Rt.bd (oR_mk (v := some na) (h.L ha) hF h8) (Rt.bd (aI_n (h.L hna) hN (show k < 13 by omega) (by decide)) ?_)
    rw [s1]
    refine Rt.bn (sne_ h s2 htj) (fun S3 r3 q3 => ?_)
    obtain ⟨e3, q3⟩ := q3
    rw [e3]
    rcases q3 with ⟨w1, w2⟩ | ⟨w1, w2⟩
    · rw [w1]
      exact Rt.iq (by decide) (Rt.rt ⟨rfl, Or.inr ⟨k, s, hlt, rfl, s1, s2, w2, hfi⟩⟩)
    · rw [w1, nI_1]
      exact Rt.ip rfl (fof_2 h ha hF h3 hmn h8 hna hN hg htj m (k + 1) (by omega) (by omega) (fun j hj => by
        by_cases e0 : j = k
        · subst e0; exact ⟨s, s1, s2, w2⟩
        · exact hfi j (by omega)))
theorem fof_ (h : TS R c nv S) {a na mn tj : Nat} {fs : List Value} {g : Nat → Int32} (ha : a ∈ ZL R.S) (hF : ZF S a = .inr (16, fs)) (h3 : fs[3]? = some (.int (nI mn))) (hmn : mn ≤ 12) (h8 : fs[8]? = some (.ref na)) (hna : na ∈ ZL R.S) (hN : ZF S na = .inl (R.K.1 0, 13, .inl g)) (hg : ∀ j : Nat, j < mn → ∃ s : Nat, g j = nI s ∧ s < R.T) (htj : tj < R.T) : Rt (f_fieldOf R.K S (some a) (nI tj)) (fun S2 r => S2 = S ∧ (r = -1 ∨ ∃ k2 s : Nat, k2 < mn ∧ r = nI k2 ∧ g k2 = nI s ∧ s < R.T ∧ nmE R s tj ∧ ∀ j : Nat, j < k2 → ∃ s : Nat, g j = nI s ∧ s < R.T ∧ ¬ nmE R s tj)) :=
  fof_2 h ha hF h3 hmn h8 hna hN hg htj bigN 0 (by show mn < 0 + 1000000000000; omega) (Nat.zero_le _) (fun j hj => absurd hj (by omega))
end SNE
/-- a list of exps as it was read, its parts told by functions -/
def LQ (R : yR) (n kk mn p q b b2 z la sa cap q0 : Nat) (f : Nat → Option Nat) (g : Nat → Int32) (ps bs xs pf sf : Nat → Nat) : Prop := (la ∈ ZL R.S ∧ sa ∈ ZL R.S ∧ ZF R.S la = .inl (R.K.1 9, cap, .inr (.inr (.inr (.inr f)))) ∧ ZF R.S sa = .inl (R.K.1 0, cap, .inl g) ∧ 1 ≤ mn ∧ mn ≤ cap ∧ q0 ≤ q ∧ mn ≤ q0) ∧ (p ≤ ps 0 ∧ ps mn = q0 ∧ bs 0 = b ∧ bs mn = b2) ∧ (∀ i : Nat, i < mn → f i = some (xs i) ∧ ps i < pf i ∧ pf i < ps (i + 1) ∧ isE (ZL R.S) (ZF R.S) (R.K.1 9) (R.K.1 0) n kk (xs i) (pf i) (ps (i + 1)) (bs i) (bs (i + 1)) ∧ g i = nI (sf i) ∧ ((sf i = 0 ∧ z = 0) ∨ (ps i ≤ sf i ∧ sf i < pf i))) ∧ ∀ i j : Nat, i ≤ j → j ≤ mn → ps i ≤ ps j
theorem LQ_of {R : yR} {n kk mn p q b b2 z : Nat} {li si : Value} (h : isQl z (isE (ZL R.S) (ZF R.S) (R.K.1 9) (R.K.1 0) n kk) (ZL R.S) (ZF R.S) (R.K.1 9) (R.K.1 0) li si mn p q b b2) : (mn = 0 ∧ b = b2 ∧ p ≤ q) ∨ ∃ (la sa cap q0 : Nat) (f : Nat → Option Nat) (g : Nat → Int32) (ps bs xs pf sf : Nat → Nat), li = .ref la ∧ si = .ref sa ∧ LQ R n kk mn p q b b2 z la sa cap q0 f g ps bs xs pf sf := by
  rcases h with ⟨w1, _, w3, w4⟩ | ⟨la, sa, cap, q0, f, g, w1, w2, w3, w4, w5, w6, w7, w8, w9⟩
  · exact Or.inl ⟨w1, w3, w4⟩
  · by_cases hm : mn = 0
    · subst hm
      obtain ⟨ps, bs, g1, g2, g3, g4, _⟩ := w9
      exact Or.inl ⟨rfl, by rw [← g3, ← g4], by omega⟩
    · obtain ⟨ps, bs, xs, pf, sf, h1, h2, h3, h4, h5, h6⟩ := chP_fn w9 (fun x p q b c z => (isE_mem z).2)
      have hge : ∀ d : Nat, d ≤ mn → d ≤ ps d := by
        intro d
        induction d with
        | zero => exact fun _ => Nat.zero_le _
        | succ d ih =>
          intro hd
          have := ih (by omega)
          have := (h5 d (by omega)).2.1; have := (h5 d (by omega)).2.2.1
          omega
      exact Or.inr ⟨la, sa, cap, q0, f, g, ps, bs, xs, pf, sf, w1, w2, ⟨w3, w4, w5, w6, by omega, w7, w8, by have := hge mn (Nat.le_refl _); omega⟩, ⟨h1, h2, h3, h4⟩, h5, h6⟩
/-- cells of an exp outside of the tokens that were typed are as they were -/
theorem VZ.fr {R : yR} {S S2 : Sg} {p1 q1 p2 q2 : Nat} (h : VZ R (Xo R p2 q2) S S2) (hd : dj p1 q1 p2 q2) : ∀ a : Nat, a ∈ ZL R.S → (∃ t : Nat, ownT (ZF R.S) a = some t ∧ p1 ≤ t ∧ t < q1) → (∃ vs : List Value, ZF S a = .inr (15, vs)) → ZF S2 a = ZF S a := fun a ha w _ => h.1 a ha (fun x => Xo_dj (Or.inl w) x hd)
theorem VX.fr {R : yR} {S S2 : Sg} {p1 q1 p2 q2 : Nat} (h : VX R (Xo R p2 q2) S S2) (hd : dj p1 q1 p2 q2) : ∀ a : Nat, a ∈ ZL R.S → (∃ t : Nat, ownT (ZF R.S) a = some t ∧ p1 ≤ t ∧ t < q1) → (∃ vs : List Value, ZF S a = .inr (15, vs)) → ZF S2 a = ZF S a := fun a ha w _ => h.2.1 a ha (fun x => Xo_dj (Or.inl w) x hd)
section LST
variable {R : yR} {Γ : List Nat} {c nv : Nat}
theorem LQ.nla {n kk mn p q b b2 z la sa cap q0 : Nat} {f : Nat → Option Nat} {g : Nat → Int32} {ps bs xs pf sf : Nat → Nat} (h : LQ R n kk mn p q b b2 z la sa cap q0 f g ps bs xs pf sf) : nXo R la ∧ nXo R sa := ⟨nXo.ro h.1.1 h.1.2.2.1 (Or.inr (fun w => by cases w; exact absurd (h.2.2.1 0 (by have := h.1.2.2.2.2.1; omega)).1 (by simp))), nXo.ro h.1.2.1 h.1.2.2.2.1 (Or.inr (fun w => by cases w))⟩
/-- one exp of the list is typed -/
theorem LQ.st {n kk mn p q b b2 z la sa cap q0 : Nat} {f : Nat → Option Nat} {g : Nat → Int32} {ps bs xs pf sf : Nat → Nat} (h : LQ R n kk mn p q b b2 z la sa cap q0 f g ps bs xs pf sf) {V : Sg → Option Nat → Option (Sg × Option Nat)} (hV : VH R Γ nv n V) {S S1 : Sg} {k : Nat} (hk : k < mn) (hc : c + (q - p) ≤ 1990) (hq : q ≤ R.T) (hS : SCO R S1 Γ) (hI : ITA R S1) (hU : Unt R S p q) (t1 : TS R (c + (ps k - p)) nv S1) (v1 : VX R (Xo R p (ps k)) S S1) (s1 : VS S S1) {tx : Nat → Nat} (g1 : ∀ i : Nat, i < k → xE R S1 Γ n kk (xs i) (pf i) (ps (i + 1)) (bs i) (bs (i + 1)) (tx i)) {y : Option Nat} : Rt (f_fits R.K V S1 (some (xs k)) y) (fun S2 _ => TS R (c + (ps (k + 1) - p)) nv S2 ∧ VX R (Xo R p (ps (k + 1))) S S2 ∧ VS S S2 ∧ VX R (Xo R (pf k) (ps (k + 1))) S1 S2 ∧ VS S1 S2 ∧ (Zi S2 3 = 0 → ∃ t : Nat, y = some t ∧ ∀ i : Nat, i < k + 1 → xE R S2 Γ n kk (xs i) (pf i) (ps (i + 1)) (bs i) (bs (i + 1)) ((fun j => if j = k then t else tx j) i))) := by
  obtain ⟨⟨w3, w4, w5, w6, w7, w8, w9, w10⟩, ⟨h1, h2, h3, h4⟩, h5, h6⟩ := h
  obtain ⟨d1, d2, d3, d4, d5, d6⟩ := h5 k hk
  have e1 := h6 0 k (Nat.zero_le _) (by omega)
  have e2 := h6 (k + 1) mn (by omega) (Nat.le_refl _)
  have hUk : Unt R S1 (pf k) (ps (k + 1)) := fun a ha w => (v1.2.1 a ha (fun x => Xo_dj x w (Or.inl (by omega)))).trans (hU a ha (Xo_mo w (by omega) (by omega)))
  refine (fts_ hV (c := c + (ps k - p)) (y := y) (by omega) t1 hS hI d4 hUk (by omega)).mo (fun S2 _ q2 => ?_)
  obtain ⟨t2, v2, s2, g2⟩ := q2
  refine ⟨t2.up (by omega), (v1.mo (fun a w => Xo_mo w (Nat.le_refl _) (by omega))).tr v2 (fun a w => Xo_mo w (by omega) (Nat.le_refl _)), s1.tr s2, v2, s2, fun z => ?_⟩
  obtain ⟨t, x1, x2⟩ := g2 z
  refine ⟨t, x1, fun i hi => ?_⟩
  dsimp only
  by_cases e0 : i = k
  · subst e0; rw [if_pos rfl]; exact x2
  · rw [if_neg e0]
    have := h6 (i + 1) k (by omega) (by omega)
    exact xE_vx v2 (g1 i (by omega)) (v2.fr (Or.inl (by omega)))
/-- all are typed -/
theorem LQ.en {n kk mn p q b b2 z la sa cap q0 : Nat} {f : Nat → Option Nat} {g : Nat → Int32} {ps bs xs pf sf : Nat → Nat} (h : LQ R n kk mn p q b b2 z la sa cap q0 f g ps bs xs pf sf) {S1 S2 : Sg} {c1 : Nat} (t1 : TS R c1 nv S1) {p0 q9 : Nat} (v2 : VX R (Xo R p0 q9) S1 S2) {tx : Nat → Nat} (hp : 0 < p) (hq : q ≤ R.T) (g1 : ∀ i : Nat, i < mn → xE R S2 Γ n kk (xs i) (pf i) (ps (i + 1)) (bs i) (bs (i + 1)) (tx i)) : lsX R S2 (xE R S2 Γ n kk) z (.ref la) (.ref sa) mn p q b b2 tx f g := by
  have hT := t1.tb
  obtain ⟨n1, n2⟩ := h.nla
  obtain ⟨⟨w3, w4, w5, w6, w7, w8, w9, w10⟩, ⟨h1, h2, h3, h4⟩, h5, h6⟩ := h
  refine Or.inr ⟨la, sa, cap, q0, rfl, rfl, n1, n2, (v2.nx n1).trans (t1.rq w3 w5 (h5 0 (by omega)).1), fun hz => ?_, w7, w8, w9, ps, bs, h1, h2, h3, h4, fun i hi => ⟨xs i, pf i, sf i, (h5 i hi).1, (h5 i hi).2.1, g1 i hi, (h5 i hi).2.2.2.2.1, (h5 i hi).2.2.2.2.2⟩⟩
  have e0 := (h5 0 (by omega)).2.2.2.2
  have e1 : ps 0 ≤ sf 0 ∧ sf 0 < pf 0 := e0.2.elim (fun w => by omega) id
  have e2 := (h5 0 (by omega)).2.2.1
  have e3 := h6 (0 + 1) mn (by omega) (Nat.le_refl _)
  refine (v2.nx n2).trans (t1.ri w4 w6 (i := 0) ?_)
  rw [e0.1]; exact nI_ne0 (by omega) (by omega)
end LST
