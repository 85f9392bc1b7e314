section PS95
variable {R : yR} {K : Ky} {S0 Sl S S1 S2 S3 : Sg} {D : fD} {i k j f nw n v : Nat} {vt : Nat → Nat → Nat} {tb : Nat → lTb} {x : Nat → kFm} {bs : Nat → Nat} {g : Nat → Int32} {X : kFm} {al : Nat → Prop} {y : qY} {zn sz rk : Nat → Nat} {M M2 : nM} {sk : Nat → Int64} {pl : Nat → Int32} {rt : Nat × Nat → Nat} {V : Nat × Nat → qV} {C L H : Nat × Nat → List Nat} {fl fl2 : List Nat} {t : Nat} {tk tk2 : Nat → Int32}
/-- a mark within, as the running sees it -/
theorem trL_8m {r : List tE} : ∀ e : List tE, ∃ e2 : List tE, trL al (e ++ (8, v, 0) :: r) = e2 ++ (8, v, 0) :: trL al r ∧ trL al (e ++ r) = e2 ++ trL al r
  | [] => ⟨[], by
    show trE al (wl r) (8, v, 0) :: trL al r = _
    rw [trE_o (show (8 : Nat) ≠ 1 by decide) (show (8 : Nat) ≠ 2 by decide) (show (8 : Nat) ≠ 3 by decide) (show (8 : Nat) ≠ 5 by decide) (show (8 : Nat) ≠ 6 by decide)]
    rfl, rfl⟩
  | a :: e => by
    obtain ⟨e2, h1, h2⟩ := trL_8m (r := r) e
    refine ⟨trE al (wl (e ++ r)) a :: e2, ?_, ?_⟩
    · show trE al (wl (e ++ (8, v, 0) :: r)) a :: trL al (e ++ (8, v, 0) :: r) = _
      rw [wl_8m, h1]; rfl
    · show trE al (wl (e ++ r)) a :: trL al (e ++ r) = _
      rw [h2]; rfl
/-- no reference leads to a later frame -/
theorem kJ_hd1 {j u : Nat} {d : Nat × Nat} {π : lLc} (hJ : kJ y vt tb f x rt V) (hj : j ≤ f) (ha : kA (x j) u) (hr : kR (x j) u = some (d :: π)) : d.1 ≤ j := by
  have iv : lIv j (tb (x j).1) (kAn (x j)) (kfr y rt j (x j)) := hJ.2.1.1 j hj
  rcases iv.1 u _ ha hr with ⟨l, _, _, _, ⟨s, b4⟩, _⟩ | ⟨o, e3, q3, _, _, _, ⟨s, b4⟩, _, ⟨j2, w, r3, rfl, b6⟩⟩
  · have b4 : d :: π = (j, (tb (x j).1).1 l) :: ((tb (x j).1).2.1 l ++ s) := b4
    rw [(List.cons.inj b4).1]; exact Nat.le_refl j
  · have b4 : d :: π = (j2, w) :: (r3 ++ s) := b4
    rw [(List.cons.inj b4).1]; exact Nat.le_of_lt b6
/-- a variable goes out of scope: its nodes -/
theorem kN.ou (hy : nYk y zn sz rk) (hJ : kJ y vt tb f x rt V) (hN : kN y zn sz M sk pl f x rt V bs C L H) (hC : kC C L H fl t tk) (hf6 : f < 60) (hw1 : ∀ j : Nat, j ≤ f → wl (x j).2.1 ≤ 177) (hv4 : v < 40) (hX8 : ∀ u : Nat, (8, u, 0) ∈ X.2.1 ↔ u ≠ v ∧ (8, u, 0) ∈ (x f).2.1) (hXw : wl X.2.1 = wl (x f).2.1)
  (hr : ∀ (u : Nat) (d : Nat × Nat) (π : lLc), kA X u → kSc X.2.1 u → kR X u = some (d :: π) → kA (x f) u ∧ kR (x f) u = some (d :: π) ∧ u ≠ v ∧ d ≠ (f, v))
  (hM : ∀ a : Nat, ¬ (a ∈ C (f, v) ∨ a ∈ L (f, v)) → M2.w a = M.w a ∧ M2.h a = M.h a ∧ M2.x a = M.x a) (hfl2 : ∀ a : Nat, cnN a fl2 = cnN a (C (f, v)) + cnN a (L (f, v)) + cnN a fl) (hhv : ∀ q : Nat, tk2 q = tk q ∨ 1 ≤ cnN q (H (f, v))) : kN y zn sz M2 sk pl f (kUx x f X) rt (kCv V f v (v + 1)) bs (u2N C (f, v) (f, v) [] []) (u2N L (f, v) (f, v) [] []) (u2N H (f, v) (f, v) [] []) ∧ kC (u2N C (f, v) (f, v) [] []) (u2N L (f, v) (f, v) [] []) (u2N H (f, v) (f, v) [] []) fl2 t tk2 := by
  have hf := Nat.le_refl f
  have nq : ∀ q : Nat × Nat, ¬ (q.1 = f ∧ q.2 = v) → q ≠ (f, v) := fun q hq z => hq (by rw [z]; exact ⟨rfl, rfl⟩)
  have dj : ∀ (q : Nat × Nat) (a : Nat), q ≠ (f, v) → q.1 ≤ f → kSc (x q.1).2.1 q.2 → (a ∈ C q ∨ a ∈ L q) → ¬ (a ∈ C (f, v) ∨ a ∈ L (f, v)) := fun q a h1 h2 h3 h4 z => by
    have hq := hw1 q.1 h2
    have q300 : q.2 < 300 := by rcases h3 with z | z <;> omega
    obtain ⟨_, _, _, _, q5⟩ := hC.one (r := q) (by omega) q300 h4
    exact h1 (q5 (f, v) hf6 (show v < 300 by omega) z).symm
  refine ⟨kN.rq (Q := fun u => u = v) hy hJ hN (fun j hj => kUx_lo hj) (fun u hu => ?_) (fun u hu h4 => by rw [kUx_top, hXw]) (fun q hq => ?_) (fun q hq h1 h3 => ⟨fun a z => hM a (dj q a (nq q hq) h1 h3 (Or.inl z)), fun a z => hM a (dj q a (nq q hq) h1 h3 (Or.inr z))⟩) (fun q hq h1 h4 h8 => rfl) (fun q hq h1 h4 h5 => rfl) (fun u hu => ?_) (fun j u d π hj ha hc hrr => Or.inl ?_), ?_⟩
  · rw [kUx_top, hX8]
    exact ⟨fun z => z.2, fun z => ⟨hu, z⟩⟩
  · have n1 := nq q hq
    refine ⟨rfl, ?_, u2N_o n1 n1, u2N_o n1 n1, u2N_o n1 n1⟩
    obtain ⟨qa, qb⟩ := q
    refine kCv_out ?_
    by_cases c : qa = f
    · have : qb ≠ v := fun z => hq ⟨c, z⟩
      omega
    · exact Or.inl c
  · subst hu
    rw [u2N_1, u2N_1, u2N_1, kUx_top]
    exact ⟨fun _ z => absurd rfl ((hX8 _).mp z).1, fun z => by omega, fun _ => ⟨rfl, rfl, rfl⟩⟩
  · by_cases e : j = f
    · subst e
      rw [kUx_top] at ha hrr hc
      obtain ⟨z1, z2, z3, z4⟩ := hr u d π ha hc hrr
      exact ⟨fun z => z3 z.2, fun z => z4 (by
        obtain ⟨da, db⟩ := d
        obtain ⟨c1, c2⟩ := z
        have c1 : da = j := c1
        have c2 : db = v := c2
        rw [c1, c2]), z1, z2⟩
    · rw [kUx_lo e] at ha hrr hc
      have l1 := kJ_hd1 hJ hj ha hrr
      exact ⟨fun z => e z.1, fun z => by have := z.1; omega, ha, hrr⟩
  · refine hC.fam (r := fun _ => (f, v)) (n := 1) (fun _ _ => ⟨hf6, show v < 300 by omega⟩) (fun i j hi hj _ => by omega) (fun q hq => ?_) (fun a => ?_) (fun q => Or.inl ?_)
    · have n1 := hq 0 (by decide)
      exact ⟨u2N_o n1 n1, u2N_o n1 n1, u2N_o n1 n1⟩
    · rw [psN_1u, psN_1u, u2N_1, u2N_1, hfl2 a]
      show (0 + 0) + _ + _ = _
      omega
    · rw [psN_1u, psN_1u, u2N_1]
      show 0 ≤ cnN q (H (f, v)) ∧ (tk2 q = tk q ∨ ((0 : Nat) = 0 ∧ 1 ≤ cnN q (H (f, v))))
      exact ⟨Nat.zero_le _, (hhv q).imp id (fun z => ⟨rfl, z⟩)⟩
theorem yK_z : yK R S0 0 = 0 := by
  unfold yK
  rw [if_neg (by decide), if_neg (by omega), if_neg (by omega)]
/-- OUT -/
theorem s_24 (hL : LFS R S0 g) (hx : LX S0 Sl) (h : RQ R S0 vt tb i D k f x bs Sl k S) (hQ : D.Pe < 24000) (hk : (D.I k).kd = 24) : Rt (f_step R.K S) (fun S2 _ => RTt R S0 vt tb i D k f x bs Sl S S2) := by
  have h24 := h.k24 hQ
  have hy := nYk_of hL
  have hB := yB_yT (R := R) (S0 := S0)
  refine stp_24 h hQ hk (fun S1 h1 e70 e3 er el => ?_)
  have hp := h1.pt.1
  unfold tPt at hp
  rw [hk] at hp
  obtain ⟨hac, hln, hus, hfr, v, E, r, hvs, ⟨hv4, had⟩, ho, hpa, hn1, hs, hvr, hE0, hwr, _, _, hw⟩ := hp
  have hgt := h1.1.2.2.2.1
  have hEn : ∀ a ∈ E, kNm a ∧ pnE a := fun a ha => by
    rcases hE0 with z | ⟨z, _⟩
    · rw [z] at ha; cases ha
    · rw [z] at ha
      rw [List.mem_singleton.mp ha]
      refine ⟨eT_nm, ?_⟩
      unfold eT
      by_cases c : 10000 ≤ D.E.gv
      · rw [if_pos c]
        by_cases c2 : D.E.gv % 2 = 0
        · rw [if_pos c2]; exact ⟨by show (1 : Nat) ≠ 3; decide, by show (1 : Nat) ≠ 4; decide, by show (1 : Nat) ≠ 5; decide, by show (1 : Nat) ≠ 6; decide, fun _ => rfl⟩
        · rw [if_neg c2]; exact ⟨by show (2 : Nat) ≠ 3; decide, by show (2 : Nat) ≠ 4; decide, by show (2 : Nat) ≠ 5; decide, by show (2 : Nat) ≠ 6; decide, fun _ => rfl⟩
      · rw [if_neg c]; exact ⟨by show (0 : Nat) ≠ 3; decide, by show (0 : Nat) ≠ 4; decide, by show (0 : Nat) ≠ 5; decide, by show (0 : Nat) ≠ 6; decide, fun _ => rfl⟩
  have hrn : ∀ a ∈ r, pnE a := fun a ha => by
    rcases hE0 with z | ⟨z, _⟩
    · rw [hs, z] at hgt
      exact hgt.tl a ha
    · rw [hs, z] at hgt
      exact hgt.tl a (List.mem_cons_of_mem _ ha)
  have hsr : ∀ a ∈ E ++ r, pnE a := fun a ha => by
    rcases List.mem_append.mp ha with z | z
    · exact (hEn a z).2
    · exact hrn a z
  have hsp : ∀ a ∈ D.st k, pnE a := fun a ha => by
    rw [hs] at ha
    rcases List.mem_append.mp ha with z | z
    · exact (hEn a z).2
    · rcases List.mem_cons.mp z with z | z
      · rw [z]; exact pnE_k (Or.inr (Or.inr (Or.inr rfl)))
      · exact hrn a z
  have hed : edg D k (k + 1) := h1.e1 (kd_s hk (by decide))
  have hEy := h1.1.2.2.2.2
  have hFn := h1.1.1
  obtain ⟨va, v9, ty, mu, z1, z2, z3, z4, z5⟩ := h1.2.1.2.2.2.2.2.2.2.2.2.2.1 (Or.inr (Or.inr (Or.inr hk)))
  obtain rfl : v9 = v := by rw [hvs] at z2; exact (List.cons.inj z2).1.symm
  rw [hn1] at z4
  have hX1 := h1.2.2.1
  have e := hX1.1
  obtain ⟨rt, V, C, L, H, fl, t9, ⟨hJ, hN, hC, hF⟩, _⟩ := h1.2.2.2.2.2.2.1
  obtain ⟨a1, a2, a3, a4, a5, a6⟩ := h1.2.2.2.2.2.1
  have hvt : vt (x f).1 = D.E.vt := by rw [a1]; exact h1.2.2.2.2.2.2.2.2.1
  have htb : tb (x f).1 = tbD D := by rw [a1]; exact h1.2.2.2.2.2.2.2.2.2
  have hf6 := h1.2.2.2.2.1
  have hws := h1.2.2.2.2.2.2.2.1
  have h177 := h1.pt.2
  have hst := h1.st.2
  have h76 := h1.2.2.2.1.2.2
  have h73 := h1.2.2.2.1.2.1
  obtain ⟨e2, t1, t2⟩ := trL_8m (al := AL D k) (v := v9) (r := r) E
  have hS : (x f).2.1 = e2 ++ (8, v9, 0) :: trL (AL D k) r := by rw [a2, hs]; exact t1
  have hvS : (8, v9, 0) ∈ (x f).2.1 := by rw [hS]; exact List.mem_append_right _ (List.mem_cons_self ..)
  have h8i : ∀ u : Nat, (8, u, 0) ∈ e2 ++ trL (AL D k) r ↔ (8, u, 0) ∈ r := fun u => by
    rw [← t2, trL_8]
    constructor
    · intro z
      rcases List.mem_append.mp z with z | z
      · exact absurd (Or.inl rfl) (hEn _ z).1
      · exact z
    · exact fun z => List.mem_append_right _ z
  have hX8 : ∀ u : Nat, (8, u, 0) ∈ e2 ++ trL (AL D k) r ↔ u ≠ v9 ∧ (8, u, 0) ∈ (x f).2.1 := fun u => by
    constructor
    · intro z
      refine ⟨fun c => hvr ?_, ?_⟩
      · rw [← c]; exact (h8i u).mp z
      · rw [hS]
        rcases List.mem_append.mp z with z | z
        · exact List.mem_append_left _ z
        · exact List.mem_append_right _ (List.mem_cons_of_mem _ z)
    · rintro ⟨c, z⟩
      rw [hS] at z
      rcases List.mem_append.mp z with z | z
      · exact List.mem_append_left _ z
      · rcases List.mem_cons.mp z with z | z
        · exact absurd (Prod.mk.inj (Prod.mk.inj z).2).1 c
        · exact List.mem_append_right _ z
  have hXw : wl (e2 ++ trL (AL D k) r) = wl (x f).2.1 := by rw [hS, wl_8m]
  have wj0 : wl (E ++ r) = wl (D.st k) := by rw [hs, wl_8m]
  have hno56 : ∀ r m2 : Nat, (5, r, m2) ∉ (x f).2.1 ∧ (6, r, m2) ∉ (x f).2.1 := fun r m2 => by
    rw [a2]
    exact ⟨fun z => absurd (Or.inr (Or.inl rfl)) (trL_4 (pn_4 hsp) _ z), fun z => absurd (Or.inr (Or.inr rfl)) (trL_4 (pn_4 hsp) _ z)⟩
  have hal : ∀ u : Nat, u ≠ v9 → (u < 40 ∧ AL D (k + 1) u) → kal (x f) u := fun u hu q => by
    rw [a5]
    exact ⟨q.1, hFn.al hed (by omega) (fun z => by rw [ho] at z; exact hu (Option.some.inj z).symm) q.2⟩
  -- nobody leads there
  have hkA : ∀ u : Nat, ((u < 40 ∧ (u < 40 ∧ AL D (k + 1) u)) ∨ (40 ≤ u ∧ u < 40 + wl (x f).2.1)) → u ≠ v9 → kA (x f) u := fun u hu ho => by
    rcases hu with ⟨a, b⟩ | ⟨a, b⟩
    · exact Or.inl ⟨a, hal u ho b⟩
    · exact Or.inr ⟨a, by omega⟩
  have hc : ∀ (u : Nat) (b : lLc), ((u < 40 ∧ (u < 40 ∧ AL D (k + 1) u)) ∨ (40 ≤ u ∧ u < 40 + wl (x f).2.1)) → u ≠ v9 → kR (x f) u = some b → ∀ π : lLc, b ≠ (f, v9) :: π := fun u b hu hun hb π q => by
    have iv : lIv f (tb (x f).1) (kAn (x f)) (kfr (yT R S0) rt f (x f)) := hJ.2.1.1 f (Nat.le_refl f)
    by_cases hrf : isRf (D.E.vt v9)
    · rcases iv.1 u b (hkA u hu hun) hb with ⟨l, b1, b2, b3, ⟨s, b4⟩, _⟩ | ⟨o, e3, q3, _, _, _, ⟨s, b4⟩, _, b6⟩
      · rw [q] at b4
        have b4 : (f, v9) :: π = (f, (tb (x f).1).1 l) :: ((tb (x f).1).2.1 l ++ s) := b4
        have b5 := (Prod.mk.inj (List.cons.inj b4).1).2
        rw [htb] at b3 b5
        rw [← b5] at b3
        exact b3 hrf
      · obtain ⟨j, w, r3, rfl, b6⟩ := b6
        rw [q] at b4
        have b4 : (f, v9) :: π = (j, w) :: (r3 ++ s) := b4
        have := (Prod.mk.inj (List.cons.inj b4).1).1
        omega
    · have hck := hFn.ck h1.1.2.1.1 h1.1.2.1.2.1 h1.1.2.1.2.2 hpa (by rw [hac]; decide) (fun z => hrf z.2.2) (Or.inl rfl) (A2 := fun u => u ≠ v9 ∧ ((u < 40 ∧ (u < 40 ∧ AL D (k + 1) u)) ∨ (40 ≤ u ∧ u < 40 + wl (x f).2.1))) (fun u κ z1 z2 => by
        obtain ⟨z0, z1⟩ := z1
        have hou : (D.I k).ho ≠ some u := fun z => by rw [ho] at z; exact z0 (Option.some.inj z).symm
        rcases z1 with ⟨z3, _, z4⟩ | ⟨z3, z4⟩
        · exact ⟨by omega, hFn.ab hed (by omega) z4, hou⟩
        · rw [hst] at z4
          refine ⟨by omega, ?_, hou⟩
          rcases z2 with ⟨_, z2⟩ | ⟨z2, _⟩
          · rcases z2.2.1 z3 with z5 | z5
            · exact (z5.ab (by rw [hus]; exact List.not_mem_nil)).1
            · exact absurd z5 (pn_mk hsp)
          · omega)
      have := (lAc_var (A2 := fun u => u ≠ v9 ∧ ((u < 40 ∧ (u < 40 ∧ AL D (k + 1) u)) ∨ (40 ≤ u ∧ u < 40 + wl (x f).2.1))) (v := v9) (r := []) (rd := (D.I k).ac = 1 ∨ (D.I k).ac = 2) iv (fun u z => hkA u z.2 z.1) (by
        rw [htb]
        show lCk (tbD D) (kH (x f)) _ _ _ _
        rw [a4]; exact hck) ⟨hun, hu⟩ hb (Or.inr ⟨π, by rw [q]; rfl⟩)).1
      rw [hac] at this
      omega
  have hJ1 := kJ_mv8 hJ hS
  have hJ2 := kJ_scp (v0 := v9) (v1 := v9 + 1) (O := [(8, v9, 0)]) (S2 := e2 ++ trL (AL D k) r) (H2 := lUp (kH (x f)) v9 (HK D (k + 1) v9)) (al2 := fun u => u < 40 ∧ AL D (k + 1) u) (lo2 := fun u π => LO R S0 D (k + 1) u π ∨ 40 ≤ u) hJ1 (by rw [kUx_top]; exact a3) (by omega) (fun r1 m1 => by
    rw [kUx_top]
    have key : ∀ q : Nat, q ≠ 8 → (q, r1, m1) ∈ (8, v9, 0) :: (e2 ++ trL (AL D k) r) → (q, r1, m1) ∈ (x f).2.1 := fun q h8 z => by
      rw [hS]
      rcases List.mem_cons.mp z with z | z
      · exact absurd (Prod.mk.inj z).1 h8
      · rcases List.mem_append.mp z with z | z
        · exact List.mem_append_left _ z
        · exact List.mem_append_right _ (List.mem_cons_of_mem _ z)
    exact ⟨fun z => (hno56 r1 m1).1 (key 5 (by decide) z), fun z => (hno56 r1 m1).2 (key 6 (by decide) z)⟩) (by rw [kUx_top]; rfl) (fun a ha => ⟨v9, List.mem_singleton.mp ha, Nat.le_refl _, Nat.lt_succ_self _⟩) (fun u h1 h2 z => by
      obtain rfl : u = v9 := by omega
      exact absurd rfl ((hX8 u).mp z).1) (fun u hu q => by rw [kUx_top]; exact hal u (by omega) q) (fun u κ hu q => by
      rw [kUx_top] at q
      have q : kH (x f) u κ := q
      rw [lUp_ne (by omega)]; exact q) (fun u π hu hn q => by
      rw [kUx_top] at q
      have q : klo (x f) u π := q
      rw [a6] at q
      by_cases c : u < 40
      · exact hn (Or.inl (hFn.lv9 hL hEy hed c q (Or.inr (Or.inr (Or.inr (Or.inr hk)))) (by rw [hvs]; exact fun z => ((hX8 u).mp hu).1 (List.mem_singleton.mp z)) (by rw [hk]; decide)))
      · exact hn (Or.inr (by omega))) (fun u b hu hun hb w π q1 q2 => by
      rw [kUx_top] at hu hb
      obtain rfl : w = v9 := by omega
      refine hc u b (hu.imp id (fun z => ⟨z.1, ?_⟩)) (by omega) hb π
      have z2 : u < 40 + wl ((8, w, 0) :: (e2 ++ trL (AL D k) r)) := z.2
      rw [wl_0 (Or.inl rfl), hXw] at z2
      exact z2)
  rw [kUx_top, kUx2] at hJ2
  -- what lies there goes
  obtain ⟨p1, p2, p3⟩ := hN.hd hy (d := (f, v9)) (Nat.le_refl f) hv4 hvS
  obtain ⟨⟨kk, zz1⟩, zz2, zz3⟩ := p1
  have hkr := (hJ.2.2.2.2.2.2.1 f (Nat.le_refl f) v9 hv4 hvS).1
  rw [hvt] at hkr
  rw [hkr] at zz1
  have hone : ∀ a : Nat, (a ∈ C (f, v9) ∨ a ∈ L (f, v9)) → a ∉ fl ∧ 1 ≤ a ∧ a ≤ t9 ∧ cnN a (C (f, v9)) + cnN a (L (f, v9)) = 1 := fun a ha => by
    obtain ⟨q1, q2, q3, q4, _⟩ := hC.one (r := (f, v9)) hf6 (show v9 < 300 by omega) ha
    exact ⟨q1, q2, q3, q4⟩
  have hlen := zz1.len hy
  obtain ⟨sl1, sl2⟩ := slo_ (R := R) (S := S1) e z3 h76
  have q40 : rQ S1 40 (nI k) = some (some va) := by rw [rQ_n (show k < rlen 40 from h24) (by decide), e.2.2.2.1, z1]
  refine Rt.bd q40 (Rt.bn (Q := fun S6 _ => ∃ fl3 : List Nat, FLs S6 fl3 t9 ∧ GO (fun a => a ∈ C (f, v9) ∨ a ∈ L (f, v9)) (fun q => q ∈ H (f, v9)) (fun _ => False) S1 S6 ∧ (∀ a : Nat, cnN a fl3 = cnN a (C (f, v9)) + cnN a (L (f, v9)) + cnN a fl) ∧ wq S6 ∧ Zi S6 81 = nI 0 ∧ Zl S6 72 = Zl S1 72 ∧ Zi S6 73 = Zi S1 73 ∧ Zr S6 74 = Zr S1 74) ?_ (fun S6 _ ⟨fl3, f6, go, hfl3, hwq, h81, h72, h736, h74⟩ => ?_))
  · unfold f_runOut
    refine Rt.be sl1 (Rt.bd (v := nI (hdN (C (f, v9)))) (by rw [rI_n (show 40 * f + v9 < rlen 74 from by show _ < 2440; omega) (by decide), zz3]) (Rt.bd sl2 ?_))
    cases ty with
    | none =>
      refine Rt.ip rfl ?_
      have hT0 : D.E.vt v9 = 0 := z4.symm
      rw [hT0] at zz1 hlen
      have y0 : (yT R S0).1 0 = 0 := yK_z (R := R) (S0 := S0)
      obtain ⟨n, hn⟩ : ∃ n : Nat, C (f, v9) = [n] ∧ L (f, v9) = [] := by
        cases kk with
        | zero => exact zz1.elim
        | succ kk =>
          rcases zz1 with ⟨z, _⟩ | ⟨_, n, en, z⟩
          · rw [y0] at z; cases z
          · refine ⟨n, en, ?_⟩
            rcases z with ⟨_, _, z, _⟩ | ⟨_, ⟨z, _⟩ | ⟨z, _⟩ | ⟨_, _, _, z, _⟩⟩
            · exact z
            · rw [y0] at z; cases z
            · rw [y0] at z; cases z
            · exact z
      have hm : n ∈ C (f, v9) := by rw [hn.1]; exact List.mem_singleton_self _
      obtain ⟨o1, o2, o3, _⟩ := hone n (Or.inl hm)
      have ehd : hdN (C (f, v9)) = n := by rw [hn.1]; rfl
      rw [ehd]
      refine Rt.bn (frn_ hF o2 o3 o1) (fun S5 _ ⟨f1, f2, f3, f4⟩ => Rt.rt ⟨n :: fl, f1, f2.go.mo (fun a z => Or.inl (by rw [z]; exact hm)) (fun _ z => z) (fun _ z => z), fun a => ?_, f2.wq hX1.2.1, ?_, by rw [f3], f2.2.2.2.2.2.2.2.1 73 (by decide) (by decide), f2.2.2.2.2.2.2.1 74 (by decide) (by decide)⟩)
      · rw [hn.1, hn.2]
        show (if n = a then 1 else 0) + cnN a fl = ((if n = a then 1 else 0) + 0) + 0 + cnN a fl
        omega
      · rw [f2.2.2.2.2.2.2.2.1 81 (by decide) (by decide)]; exact hX1.2.2.2.2
    | some z =>
      have hrz := z5 z rfl
      have z4 : abT S0 z = D.E.vt v9 := z4
      refine Rt.iq (by intro q; cases q) (Rt.bd sl2 ?_)
      have hcnt := zz1.cnt hy
      have hsz := hy.1 (D.E.vt v9)
      have hhl := hC.hl (r := (f, v9)) hf6 (show v9 < 300 by omega)
      have hcv : cvN (C (f, v9)) (L (f, v9)) fl t9 := hC.cv (r := (f, v9)) hf6 (show v9 < 300 by omega) hF.2.2.2.1 (fun a => Nat.le_refl _)
      refine Rt.bn (doP_ (T := D.E.vt v9) (k := kk) (V := V (f, v9)) (c := C (f, v9)) (l := L (f, v9)) (h := H (f, v9)) (fl := fl) (t := t9) hL hx zz1 hrz z4 e hX1.2.1 hF hX1.2.2.2.2 zz2 hcv (by omega)) (fun S4 _ q4 => Rt.bn q4 (fun S5 _ ⟨fl3, d1, d2, d3, d4, d5, d6, d7⟩ => ?_))
      have go5 : GO (fun a => a ∈ C (f, v9) ∨ a ∈ L (f, v9)) (fun q => q ∈ H (f, v9)) (fun _ => False) S1 S5 := d1.go
      have e5 : RNx Sl S5 := e.tr go5.1
      obtain ⟨_, sl3⟩ := slo_ (R := R) (S := S5) e5 z3 ((go5.2.1 76 (by decide)).trans h76)
      refine Rt.bd sl3 ?_
      have hl5 : lkN (Zr S5 63) (C (f, v9)) := zz2.cg (fun a ha => (d5 a ha).2)
      refine Rt.bn (frp_ (L := C (f, v9)) (l := fl3) (t := t9) hL hx e5 (fun y hy => by cases hy; exact hrz) (by rw [show abU S0 (some z) = D.E.vt v9 from z4]; exact hsz.2.1) d3 (by rw [show abU S0 (some z) = D.E.vt v9 from z4]; exact hlen) hl5 (cnN_nd.mpr (fun a => ?_)) (fun a ha => ?_) (hdN_0 p2)) (fun S6 _ ⟨f1, f2, f3, f4⟩ => Rt.rt ⟨(C (f, v9)).reverse ++ fl3, f1, go5.tr (f2.go.mo (fun a z => Or.inl z) (fun _ z => z) (fun _ z => z)), fun a => ?_, f2.wq d7, ?_, ?_, ?_, ?_⟩)
      · by_cases c : a ∈ C (f, v9)
        · have := (hone a (Or.inl c)).2.2.2; omega
        · rw [cnN_z c]; omega
      · obtain ⟨o1, o2, o3, o4⟩ := hone a (Or.inl ha)
        have := cnN_mem.mp ha
        refine ⟨o3, fun w => ?_⟩
        have w1 := cnN_mem.mp w
        have w2 := d4 a
        rw [cnN_z o1] at w2
        omega
      · rw [cnN_app, cnN_rev, d4 a]; omega
      · rw [f2.2.2.2.2.2.2.2.1 81 (by decide) (by decide)]; exact d2
      · rw [f3, d1.2.2.2.2.2.1 72 (by decide)]
      · rw [f2.2.2.2.2.2.2.2.1 73 (by decide) (by decide), d1.2.2.2.2.2.2.2.1 73 (by decide) (by decide) (by decide) (by decide)]
      · rw [f2.2.2.2.2.2.2.1 74 (by decide) (by decide), d1.2.2.2.2.2.2.1 74 (by decide) (by decide) (by decide) (by decide)]
  · unfold f_step_590
    obtain ⟨nv1, nv2⟩ := hN.ou (X := ((x f).1, e2 ++ trL (AL D k) r, 0, (fun u => if v9 ≤ u ∧ u < v9 + 1 then none else kR (x f) u), lUp (kH (x f)) v9 (HK D (k + 1) v9), (fun u => u < 40 ∧ AL D (k + 1) u), (fun u π => LO R S0 D (k + 1) u π ∨ 40 ≤ u), kAn (x f))) (v := v9) (M2 := nMS S6) (fl2 := fl3) (tk2 := Zr S6 67) hy hJ hC hf6 hws hv4 hX8 hXw (fun u d π hA hs8 hR => by
        have hR : (if v9 ≤ u ∧ u < v9 + 1 then none else kR (x f) u) = some (d :: π) := hR
        have hun : u ≠ v9 := fun z => by
          rw [if_pos (by omega)] at hR; cases hR
        rw [if_neg (by omega)] at hR
        have hu : (u < 40 ∧ (u < 40 ∧ AL D (k + 1) u)) ∨ (40 ≤ u ∧ u < 40 + wl (x f).2.1) := by
          rcases hA with ⟨q1, q2⟩ | ⟨q1, q2⟩
          · exact Or.inl ⟨q1, q2⟩
          · have q2 : u < 40 + wl (e2 ++ trL (AL D k) r) + 0 := q2
            rw [hXw] at q2
            exact Or.inr ⟨q1, q2⟩
        exact ⟨hkA u hu hun, hR, hun, fun z => hc u _ hu hun hR π (by rw [z])⟩) (fun a z => go.2.2.2.1 a z) hfl3 (fun q => by
        by_cases c : q ∈ H (f, v9)
        · exact Or.inr (cnN_mem.mp c)
        · exact Or.inl (go.2.2.2.2.1 q c))
    refine Rt.rt ⟨hX1.go go hwq h81, Or.inr ⟨(go.2.1 3 (by decide)).trans e3, (go.2.1 70 (by decide)).trans e70, NXt.fr ?_ er ?_⟩⟩
    · have hjn := wkS_pn hw hsr
      have wj : wl (D.st (k + 1)) = wl (D.st k) := (wkS_wl hw).trans wj0
      refine finG (X := ((x f).1, e2 ++ trL (AL D k) r, 0, (fun u => if v9 ≤ u ∧ u < v9 + 1 then none else kR (x f) u), lUp (kH (x f)) v9 (HK D (k + 1) v9), (fun u => u < 40 ∧ AL D (k + 1) u), (fun u π => LO R S0 D (k + 1) u π ∨ 40 ≤ u), kAn (x f))) hL h1.1 hed ⟨_, _, _, _, _, fl3, t9, hJ2, by rw [h72, h74]; exact nv1, nv2, f6⟩ rfl a1 rfl ?_ (gtS.of hjn) hjn (fun u hu q => ⟨hu, q⟩) (fun u κ hu q z => ?_) (fun m κ hm q z => ⟨?_, fun y => absurd y (pn_mk hjn)⟩) (fun κ r1 m q => ?_) (fun u π hu4 _ q => ?_) ((go.2.1 77 (by decide)).trans h1.2.2.2.1.1) ?_ go.2.2.1 (go.2.1 76 (by decide))
      · show wkS (e2 ++ trL (AL D k) r) _
        rw [← t2]
        refine trL_t hw (fun n hn q => hFn.al hed (by omega) (fun z => ?_) q)
        rw [ho] at z
        have := Option.some.inj z
        omega
      · have z : lUp (kH (x f)) v9 (HK D (k + 1) v9) u κ := z
        by_cases c0 : u = v9
        · subst c0; rw [lUp_eq] at z; exact z
        · rw [lUp_ne c0, a4] at z
          rcases z with ⟨_, z⟩ | ⟨z, _⟩
          · exact hFn.hk hed (by omega) (fun y => by rw [ho] at y; exact c0 (Option.some.inj y).symm) z.1
          · omega
      · have z : lUp (kH (x f)) v9 (HK D (k + 1) v9) (40 + m) κ := z
        rw [lUp_ne (by omega), a4] at z
        rw [wj] at hm
        rcases z with ⟨_, z⟩ | ⟨z, _⟩
        · exact hFn.hk hed (by omega) (fun y => by rw [ho] at y; have := Option.some.inj y; omega) z.1
        · omega
      · rcases q with q | q
        · exact absurd (Or.inr (Or.inl rfl)) (trL_4 (pn_4 hjn) _ q)
        · exact absurd (Or.inr (Or.inr rfl)) (trL_4 (pn_4 hjn) _ q)
      · rcases q with q | q
        · exact q
        · omega
      · rw [wj, h736]; exact h73
    · rw [h1.2.2.2.1.2.2, h.2.2.2.1.2.2]
end PS95
