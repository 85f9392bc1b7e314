section PS96
variable {R : yR} {K : Ky} {S0 Sl S S1 S2 S3 : Sg} {D : fD} {i k j f nw n v : Nat} {vt : Nat → Nat → Nat} {tb : Nat → lTb} {x : Nat → kFm} {bs : Nat → Nat} {g : Nat → Int32} {X : kFm}
/-- USE: a reference is given back -/
theorem s_25 (hL : LFS R S0 g) (h : RQ R S0 vt tb i D k f x bs Sl k S) (hQ : D.Pe < 24000) (hk : (D.I k).kd = 25) : Rt (f_step R.K S) (fun S2 _ => RTt R S0 vt tb i D k f x bs Sl S S2) := by
  refine stp_25 h hQ hk (fun S1 h1 e70 e3 er el => ?_)
  have hy := nYk_of hL
  have hp := h1.pt.1
  unfold tPt at hp
  rw [hk] at hp
  obtain ⟨hac, hpa, ho, hln, hus, hfr, hn1, hs, hgv, _, _, hw⟩ := hp
  have hed : edg D k (k + 1) := h1.e1 (kd_s hk (by decide))
  have hEy := h1.1.2.2.2.2
  have hFn := h1.1.1
  have hX1 := h1.2.2.1
  obtain ⟨rt, V, C, L, H, fl, t9, ⟨hJ, hN, hC, hF⟩, _⟩ := h1.2.2.2.2.2.2.1
  obtain ⟨a1, a2, a3, a4, a5, a6⟩ := h1.2.2.2.2.2.1
  obtain ⟨q, U, hq, hqT, hqU⟩ : ∃ q U : Nat, (q = 1 ∨ q = 2) ∧ eT D.E.gv = (q, U, 0) ∧ eU D.E.gv = (q, U, 1) := by
    unfold eT eU
    rw [if_pos hgv.1, if_pos hgv.1]
    by_cases c : D.E.gv % 2 = 0
    · rw [if_pos c, if_pos c]; exact ⟨1, _, Or.inl rfl, rfl, rfl⟩
    · rw [if_neg c, if_neg c]; exact ⟨2, _, Or.inr rfl, rfl, rfl⟩
  rw [hqT] at hs
  rw [hqU] at hw
  have hnm : ∀ m : Nat, kNm (q, U, m) := fun m => pR_nm hq
  have hsj : D.st (k + 1) = [(q, U, 1)] := by
    cases hd : D.st (k + 1) with
    | nil => rw [hd] at hw; exact hw.elim
    | cons a s =>
      rw [hd] at hw
      obtain ⟨w1, w2⟩ := hw
      have hs0 : s = [] := by
        cases s with
        | nil => rfl
        | cons b s => exact w2.elim
      rw [hs0]
      rcases w1 with w1 | ⟨_, _, _, w1⟩
      · rw [w1]
      · rcases w1 with ⟨_, _, w1⟩ | ⟨_, w1 | w1⟩
        · have := (Prod.mk.inj (Prod.mk.inj w1).2).2; omega
        · have := (Prod.mk.inj (Prod.mk.inj w1).2).2; omega
        · have := (Prod.mk.inj (Prod.mk.inj w1).2).2; omega
  have hal40 : AL D k (40 + 0) := Or.inl (by rw [hus]; exact List.mem_singleton_self _)
  have hS : (x f).2.1 = [(q, U, 0)] := by
    rw [a2, hs]
    show trE (AL D k) 0 (q, U, 0) :: [] = _
    rw [trE_r (show q = 1 ∨ q = 2 from hq) (Or.inr hal40)]
  have hSj : trL (AL D (k + 1)) (D.st (k + 1)) = [(q, U, 1)] := by
    rw [hsj]
    show trE (AL D (k + 1)) 0 (q, U, 1) :: [] = _
    rw [trE_r (show q = 1 ∨ q = 2 from hq) (Or.inl (show (1 : Nat) ≠ 0 by decide))]
  have hw1 : ∀ m : Nat, wl [(q, U, m)] = 1 := fun m => wl_n (hnm m)
  have hkK := hJ.2.2.2.2.1 f (Nat.le_refl f)
  rw [hS] at hkK
  have hno : ∀ u : Nat, (D.I k).ho ≠ some u := fun u w => by rw [ho] at w; cases w
  have hJ2 := kJ_eq (s2 := [(q, U, 1)]) hJ (by rw [hS, hw1, hw1]) (fun a ha => by
    rw [hS, List.mem_singleton, List.mem_singleton]
    exact ⟨fun z => absurd (by rw [z] at ha; exact ha) (hnm 1), fun z => absurd (by rw [z] at ha; exact ha) (hnm 0)⟩) (by
    refine ⟨?_, trivial⟩
    rcases hq with rfl | rfl
    · exact hkK.1
    · exact hkK.1)
  have hN2 := hN.cx (x2 := kUx x f ((x f).1, [(q, U, 1)], (x f).2.2.1, kR (x f), kH (x f), kal (x f), klo (x f), kAn (x f))) (cxU (show wl [(q, U, 1)] = wl (x f).2.1 by rw [hS, hw1, hw1]) (fun u => by
      show (8, u, 0) ∈ [(q, U, 1)] ↔ _
      rw [hS, List.mem_singleton, List.mem_singleton]
      exact ⟨fun z => absurd (Or.inl (by rw [← z])) (hnm 1), fun z => absurd (Or.inl (by rw [← z])) (hnm 0)⟩) (fun u a hu ha => ⟨by
      rcases hu with z | ⟨z1, z2⟩
      · exact Or.inl z
      · have z2 : u < 40 + wl [(q, U, 1)] + (x f).2.2.1 := z2
        rw [hw1] at z2
        exact Or.inr ⟨z1, by rw [hS, hw1]; exact z2⟩, ha⟩))
  unfold f_step_590
  have wj : wl (D.st (k + 1)) = 1 := by rw [hsj, hw1]
  have wk : wl (D.st k) = 1 := by rw [hs, hw1]
  refine Rt.rt ⟨hX1, Or.inr ⟨e3, e70, NXt.fr ?_ er (by rw [h1.2.2.2.1.2.2, h.2.2.2.1.2.2])⟩⟩
  refine finG5 (X := ((x f).1, [(q, U, 1)], (x f).2.2.1, kR (x f), kH (x f), kal (x f), klo (x f), kAn (x f))) hL h1.1 hed ⟨_, _, _, _, _, fl, t9, hJ2, hN2, hC, hF⟩ a3 a1 rfl (by rw [hSj]; exact ⟨Or.inl rfl, trivial⟩) (by rw [hsj]; exact gtS.cn (fun a ha => by cases ha)) (fun r m z => ?_) (fun q' r' m' v' ρ' hq' z _ _ => ?_) (fun u hu z => ?_) (fun u κ hu z1 z2 => ?_) (fun m κ hm z1 z2 => ?_) (fun κ r1 m z1 => ?_) (fun u π hu4 _ z => ?_) h1.2.2.2.1.1 (by rw [wj, ← wk]; exact h1.2.2.2.1.2.1) rfl rfl
  · rw [hsj] at z
    have := (Prod.mk.inj (List.mem_singleton.mp z)).1
    omega
  · rw [hsj] at z
    have := (Prod.mk.inj (List.mem_singleton.mp z)).1
    omega
  · have : kal (x f) u := by rw [a5]; exact ⟨hu, hFn.al hed (by omega) (hno u) z⟩
    exact this
  · have z2 : kH (x f) u κ := z2
    rw [a4] at z2
    rcases z2 with ⟨_, z2⟩ | ⟨z2, _⟩
    · exact hFn.hk hed (by omega) (hno u) z2.1
    · omega
  · have z2 : kH (x f) (40 + m) κ := z2
    rw [a4] at z2
    rw [wj] at hm
    obtain rfl : m = 0 := by omega
    rcases z2 with ⟨_, z2⟩ | ⟨z2, _⟩
    · refine ⟨hFn.hk hed (by omega) (hno _) z2.1, fun _ _ h100 hmr hrl => ?_⟩
      rcases z2.1 with ⟨_, y2⟩ | ⟨k2, l, v2, sh, ρ2, y1, _⟩
      · obtain ⟨l, l1, l2, l3⟩ := y2 hmr
        refine Classical.byContradiction (fun hc => ?_)
        have := (hFn.2.2.2.2.2.2.2.1 l l1).2.2.2 k h1.1.2.1.1 h1.1.2.1.2.1 h1.1.2.1.2.2 hk hrl (by rw [l2]; exact hc)
        rw [hn1] at this
        have l3 : rb (D.H l) (4 * k) 40 = true := l3
        rw [l3] at this; cases this
      · rw [y1] at h100
        exact absurd h100 lm_100
    · omega
  · rw [hSj] at z1
    rcases z1 with z1 | z1
    · have := (Prod.mk.inj (List.mem_singleton.mp z1)).1; omega
    · have := (Prod.mk.inj (List.mem_singleton.mp z1)).1; omega
  · have z : klo (x f) u π := z
    rw [a6] at z
    exact hFn.lo hy hEy hed hu4 z (fun c _ _ => (kdM_k hk (by decide)).nk)
end PS96
