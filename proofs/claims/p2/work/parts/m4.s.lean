section PS70
variable {R : yR} {S0 Sl S S1 S2 S3 : Sg} {D : fD} {i k j f nw : Nat} {vt : Nat → Nat → Nat} {tb : Nat → lTb} {x : Nat → kFm} {bs : Nat → Nat} {g : Nat → Int32} {v T : Nat} {ρ σ : lLc} {rt : Nat × Nat → Nat} {V : Nat × Nat → qV} {C L H : Nat × Nat → List Nat} {fl : List Nat} {t : Nat} {tk : Nat → Int32} {s : List tE}
/-- what is moved lacks its value behind -/
theorem FnD.mo {B : Nat} {π : lLc} (hy : nYk (yT R S0) (zN R S0) (szN R S0) (rkN R S0 g)) (hE : D.E.y = yT R S0) (h : FnD R S0 i D) (e : edg D k j) (hk : (D.I k).kd = 2) (hac : (D.I k).ac = 4 ∨ (D.I k).ac = 5) (hp : (D.I k).pa = some (v, ρ, T)) (hv : v < 40) (hm : qM σ) (hr : ρ = σ ∨ ρ = σ ++ [(1, 0)]) (hw : qW (yT R S0) (D.E.vt v) σ B) (hc : lCmp π σ) : LO R S0 D j v π := fun h1 ⟨U, h2⟩ => by
  have htv := h.2.2.1.1 k v T ρ e.1 e.2.1 (by rw [hk]; decide) hp
  rw [hE] at h2
  have hin : ∀ c : Nat, inR R S0 (D.E.vt v) v σ c → inR R S0 (D.tv k) v ρ c := fun c q => by
    rw [htv]
    rcases hr with z | z
    · rw [z]; exact q
    · unfold inR at q ⊢
      rw [z, pfO_st hm]; exact q
  have key : ∃ c : Nat, inR R S0 (D.E.vt v) v π c ∧ inR R S0 (D.E.vt v) v σ c := by
    rcases hc with ⟨τ, z⟩ | ⟨τ, z⟩
    · refine ⟨_, ?_, inR_ex hy⟩
      rw [z] at hm hw
      exact inR_sub hy h1 (qM_app.mp hm).2 hw (by rw [← z]; exact inR_ex hy)
    · refine ⟨_, inR_ex hy, ?_⟩
      rw [z] at h1 h2
      exact inR_sub hy hm (qM_app.mp h1).2 h2 (by rw [← z]; exact inR_ex hy)
  obtain ⟨c, c1, c2⟩ := key
  have c16 := inR_16 hy h1 h2 c1
  exact ⟨c, c1, h.2.2.1.2.1 k e.1 e.2.1 e.2.2.1 j e.2.2.2 c (by omega) (Or.inl ⟨hk, hac, v, ρ, T, hp, hin c c2⟩)⟩
/-- a step's end, if nobody holds anything new, and more may lack a value -/
theorem finV (hL : LFS R S0 g) (hk : PK R S0 i D k) (e : edg D k j) (hw : wkS s (D.st j)) (hs : ∀ a ∈ s, pnE a) (ho : (D.I k).ho = none)
  (h0 : (x f).2.2.1 = 0) (hi : (x f).1 = i) (hst : wkS (x f).2.1 (trL (AL D j) (D.st j))) (hH : kH (x f) = HA R S0 i D k) (hal : kal (x f) = fun u => u < 40 ∧ AL D k u) (hlo : ∀ (v : Nat) (π : lLc), v < 40 → klo (x f) v π → LO R S0 D j v π) (h : kT (yT R S0) (zN R S0) (szN R S0) vt tb f x bs S2) (h77 : Zi S2 77 = nI j) (h73 : Zi S2 73 = nI (bs f + wl (D.st j))) (h75 : Zr S2 75 = Zr S 75) (h76 : Zi S2 76 = Zi S 76) : NXt R S0 vt tb i D k f x bs S S2 := by
  obtain ⟨hD, hkk, hW, hG, hE⟩ := hk
  have hy := nYk_of hL
  have hj := wkS_pn hw hs
  obtain ⟨j1, j2, j3, j4, j5⟩ := hD.in e
  have hno : ∀ u : Nat, (D.I k).ho ≠ some u := fun u w => by rw [ho] at w; cases w
  have hwl := (hD.pt j1 j2).2
  have a1 : ∀ u κ : Nat, u < 40 → AL D j u → kH (x f) u κ → HK D j u κ := fun u κ hu q w => by
    rw [hH] at w
    rcases w with ⟨_, w⟩ | ⟨w, _⟩
    · exact hD.hk e (by omega) (hno u) w.1
    · omega
  have a2 : ∀ m κ : Nat, m < wl (D.st j) → AL D j (40 + m) ∨ mkS (D.st j) → kH (x f) (40 + m) κ → HK D j (40 + m) κ ∧ (mkS (D.st j) → m = 0 → okl R S0 i D κ) := fun m κ hm2 q w => by
    rw [hH] at w
    refine ⟨?_, fun z => absurd z (pn_mk hj)⟩
    rcases w with ⟨_, w⟩ | ⟨w, _⟩
    · exact hD.hk e (by omega) (hno _) w.1
    · omega
  have a3 : ∀ (κ r m : Nat), (5, r, m) ∈ trL (AL D j) (D.st j) ∨ (6, r, m) ∈ trL (AL D j) (D.st j) → kH (x f) 300 κ → HA R S0 i D j 300 κ := fun κ r m q => by
    rcases q with q | q
    · exact absurd (Or.inr (Or.inl rfl)) (trL_4 (pn_4 hj) _ q)
    · exact absurd (Or.inr (Or.inr rfl)) (trL_4 (pn_4 hj) _ q)
  obtain ⟨X, x1, x2, x3⟩ := kT.fin (D := D) (j := j) (i := i) (R := R) (S0 := S0) hy yB_yT h h0 hi hst (fun u hu q => by rw [hal]; exact ⟨hu, hD.al e (by omega) (hno u) q⟩) a1 a2 a3 (fun v π hv _ w => hlo v π hv w)
  exact ⟨j, X, e, ⟨hD, ⟨j1, j2, j5⟩, j3 hW, gtS.of hj, hE⟩, h77, h73, ⟨h75, h76⟩, x1, x2, x3.t3 hj⟩
/-- the type of a place -/
theorem RQ.ft (hL : LFS R S0 g) (hx : LX S0 Sl) (h : RQ R S0 vt tb i D k f x bs Sl nw S) (hE : hFE R S0 D) (hQ : D.Pe < 24000) (hp : (D.I k).pa = some (v, ρ, T)) (hT : T ≠ 0) (h24 : (D.I k).kd ≠ 24) : ∃ w xt : Nat, rQ S 38 (nI k) = some (some w) ∧ (∀ S2 : Sg, RNx Sl S2 → oBk S2 18 (some w) = some w ∧ f_X18_type R.K S2 w = some (S2, some xt)) ∧ rTy S0 xt ∧ abT S0 xt = T := by
  obtain ⟨w, va, sa, ta, F, G, mu, w1, w2, w3, w4, w5, w6⟩ := h.pw hL hx hE hp h24
  have e := h.2.2.1.1
  obtain ⟨p1, p2, p3, p4, p5, p6⟩ := w2
  have hg : ∃ xt : Nat, G ρ.length = some xt := by
    cases hG : G ρ.length with
    | none =>
      rw [hG] at w6
      exact absurd w6 hT
    | some z => exact ⟨z, rfl⟩
  obtain ⟨xt, hg⟩ := hg
  rw [hg] at w6
  refine ⟨w, xt, ?_, fun S2 e2 => ⟨oB_mk (by rw [e2.1]; exact p1) (by rw [e2.2.1]; exact p2), ?_⟩, w3 _ _ (Nat.le_refl _) hg, w6.symm⟩
  · rw [rQ_n (show k < rlen 38 from h.k24 hQ) (by decide), e.2.2.2.1, w1]
  · unfold f_X18_type
    rw [oR_mk (by rw [e2.1]; exact p1) (by rw [e2.2.1]; exact p2) (v := some ta) rfl, Option.bind_some, oI_mk (by rw [e2.1]; exact p1) (by rw [e2.2.1]; exact p2) (v := nI ρ.length) rfl, Option.bind_some, aQ_n (by rw [e2.1]; exact p4.1) (by rw [e2.2.1]; exact p4.2) (Nat.lt_succ_self _) (by omega), Option.bind_some, hg]
theorem kC.f1 (hc : kC C L H fl t tk) : ∀ n ∈ fl, 1 ≤ n := fun n hn => by
  have h1 := hc.1 n
  have h2 := cnN_mem.mp hn
  unfold ind at h1
  by_cases c : 1 ≤ n ∧ n ≤ t
  · exact c.1
  · rw [if_neg c] at h1; omega
theorem RX.no {A : Nat → Prop} (h : RX Sl S) (e : NO A S S2) : RX Sl S2 := h.mk e.rn (e.wq h.2.1) (e.2.2.2.2.2.2.2.1 86 (by decide) (by decide)) (e.2.2.2.2.2.2.2.1 66 (by decide) (by decide)) ((e.2.2.2.2.2.2.2.1 81 (by decide) (by decide)).trans h.2.2.2.2)
end PS70
