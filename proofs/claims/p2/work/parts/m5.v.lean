section PS99
variable {R : yR} {K : Ky} {S0 Sl S S1 S2 S3 : Sg} {D : fD} {i k j f nw n v T : Nat} {vt : Nat → Nat → Nat} {tb : Nat → lTb} {x : Nat → kFm} {bs : Nat → Nat} {g : Nat → Int32} {X : kFm} {rt : Nat × Nat → Nat} {V : Nat × Nat → qV} {C L H : Nat × Nat → List Nat} {ρ : lLc} {r : List tE}
/-- what lacks a value behind an assignment -/
theorem FnD.lo14 (hL : LFS R S0 g) (hE : D.E.y = yT R S0) (h : FnD R S0 i D) (e : edg D k j) (hk : (D.I k).kd = 14) (hpa : (D.I k).pa = some (v, ρ, T)) (hms : qMs ρ) (hqw : qM ρ → qW (yT R S0) (D.E.vt v) ρ T) {w : Nat} {π : lLc} (hw : w < 40) (q : LO R S0 D k w π) (hn : ¬ (w = v ∧ qM ρ ∧ lCmp π ρ)) : LO R S0 D j w π := fun h1 h2 => by
  obtain ⟨U, h3⟩ := h2
  have hy := nYk_of hL
  refine h.lo hy hE e hw q (fun c hc _ hm => hn ?_) h1 ⟨U, h3⟩
  rw [hE] at h3
  rcases hm with ⟨z, _⟩ | ⟨_, v2, ρ2, T2, z1, z2, z3⟩
  · omega
  · rw [hpa] at z1
    cases z1
    have hm : qM ρ := fun s hs => by
      rcases hms s hs with y | y
      · exact y
      · exact absurd y (z2 s hs)
    have htv := h.2.2.1.1 k v T ρ e.1 e.2.1 (by rw [hk]; decide) hpa
    rw [htv] at z3
    have c1 := inR_16 hy h1 h3 hc
    have c2 := inR_16 hy hm (hqw hm) z3
    obtain rfl : w = v := by omega
    exact ⟨rfl, hm, inR_cmp hy h1 hm h3 (hqw hm) hc z3⟩
/-- an assignment: its place, the frame behind it -/
theorem RQ.as (hL : LFS R S0 g) (h1 : RQ R S0 vt tb i D k f x bs Sl nw S1) (hk : (D.I k).kd = 14) (hac : (D.I k).ac = 6) (hi : iPa D.E (D.I k) r v ρ T) (hs : D.st k = eT T :: r) (hwr : wl r = 0) (hρr : isRf T → ρ = []) (he0 : ¬ isRf T → eT T = (0, T, 0))
  (hcs : (ρ = [] ∧ (D.I k).ho = some v ∧ (isRf T → (D.I k).us = [40] ∧ (D.I k).fr = [40]) ∧ (¬ isRf T → (D.I k).us = [] ∧ (D.I k).fr = [])) ∨ (ρ ≠ [] ∧ (D.I k).ho = none ∧ (D.I k).fr = [] ∧ (isRf (D.E.vt v) → (D.I k).us = [v] ∧ D.E.vt v % 2 = 1) ∧ (¬ isRf (D.E.vt v) → (D.I k).us = [])))
  (hed : edg D k (k + 1)) (hJ : kJ (yT R S0) vt tb f x rt V) (hN : kN (yT R S0) (zN R S0) (szN R S0) (nMS S1) (Zl S1 72) (Zr S1 74) f x rt V bs C L H) :
  ∃ (d : Nat × Nat) (π : lLc) (X : kFm), (d.1 ≤ f ∧ d.2 < 40 ∧ (8, d.2, 0) ∈ (x d.1).2.1) ∧ qW (yT R S0) (rt d) π T ∧ prS (V d) π ∧ (∀ n : Nat, wRn (yT R S0) (zN R S0) (nMS S1) (rt d) (hdN (C d)) π n → (ρ.length = 0 ∧ n = hdN (C (f, v))) ∨ gWk (yT R S0) (zN R S0) (nMS S1) (D.E.vt v) (hdN (C (f, v))) ρ n) ∧
    (vaR (yT R S0) (szN R S0) (nMS S1) T (V (f, 40)) (Zl S1 72 (bs f)) (L (f, 40)) (H (f, 40)) ∧ ((yT R S0).1 T = 2 → qF (yT R S0) (V (f, 40)) [] T)) ∧
    kJ (yT R S0) vt tb f (kUx x f X) rt (qUp (kCl V f 0) d (qG (V d) π (V (f, 40)))) ∧ (X.1 = i ∧ X.2.1 = trL (AL D k) r ∧ X.2.2.1 = 0 ∧ kAn X = kAn (x f)) ∧ (∀ u : Nat, u < 40 → AL D (k + 1) u → kal X u) ∧ (∀ u κ : Nat, u < 40 → AL D (k + 1) u → kH X u κ → HK D (k + 1) u κ) ∧ (∀ (u : Nat) (π : lLc), u < 40 → klo X u π → LO R S0 D (k + 1) u π) ∧
    ∀ (j u : Nat) (e : Nat × Nat) (π9 : lLc), j ≤ f → kA (kUx x f X j) u → kR (kUx x f X j) u = some (e :: π9) → ((j, u) ≠ d ∧ kA (x j) u ∧ kR (x j) u = some (e :: π9) ∧ (e = d → lP π π9 → π9 = π)) ∨ ((j, u) = d ∧ e ≠ d ∧ (e.1 ≤ f ∧ e.2 < 40 ∧ (8, e.2, 0) ∈ (x e.1).2.1) ∧ π = [] ∧ (yT R S0).1 T ≠ 2 ∧ ∃ n2 : Nat, Zl S1 72 (bs f) = nL n2 ∧ n2 < 430000 ∧ wRn (yT R S0) (zN R S0) (nMS S1) (rt e) (hdN (C e)) π9 n2 ∧ ∃ T9 : Nat, qW (yT R S0) (rt e) π9 T9 ∧ prS (V e) π9) := by
  have hy := nYk_of hL
  have hB := yB_yT (R := R) (S0 := S0)
  have hf := Nat.le_refl f
  obtain ⟨hpa, ⟨hv4, had⟩, hvr, hpt, hms, hT0, hlen, hnr⟩ := hi
  have hEy := h1.1.2.2.2.2
  have hpt' := hpt
  rw [hEy] at hpt
  have hgt := h1.1.2.2.2.1
  rw [hs] at hgt
  have hrn := hgt.tl
  have hFn := h1.1.1
  have hnm : kNm (eT T) := eT_nm
  have wst : wl (D.st k) = 1 := by rw [hs, wl_n hnm, hwr]
  obtain ⟨a1, a2, a3, a4, a5, a6⟩ := h1.2.2.2.2.2.1
  have hvt : vt (x f).1 = D.E.vt := by rw [a1]; exact h1.2.2.2.2.2.2.2.2.1
  have htb : tb (x f).1 = tbD D := by rw [a1]; exact h1.2.2.2.2.2.2.2.2.2
  have hst := h1.st.2
  have k24 : (D.I k).kd ≠ 24 := by rw [hk]; decide
  have wl0 : wl (trL (AL D k) r) = 0 := by rw [trL_wl]; exact hwr
  have hS8 : (8, v, 0) ∈ trL (AL D k) r := trL_8.mpr hvr
  have hvS : (8, v, 0) ∈ (x f).2.1 := by rw [a2, hs]; exact List.mem_cons_of_mem _ hS8
  have hno : ∀ r1 m2 : Nat, (5, r1, m2) ∉ trL (AL D k) r ∧ (6, r1, m2) ∉ trL (AL D k) r := fun r1 m2 => ⟨fun z => absurd (Or.inr (Or.inl rfl)) (trL_4 (pn_4 hrn) _ z), fun z => absurd (Or.inr (Or.inr rfl)) (trL_4 (pn_4 hrn) _ z)⟩
  have hkr := (hJ.2.2.2.2.2.2.1 f hf v hv4 hvS).1
  have hkr' := hkr
  rw [hvt] at hkr
  have hva40 := ((hN.1 f 40 hf).2.1 (Nat.le_refl _) (by rw [hst, wst]; decide)).2
  have hqw : qM ρ → qW (yT R S0) (D.E.vt v) ρ T := fun hm => by
    rcases hpt with ⟨_, w⟩ | ⟨h56, ⟨w1, w2⟩ | ⟨ρ2, w1, _⟩⟩
    · exact w
    · rw [w1, w2]; exact rfl
    · rw [w1] at hm
      exact absurd (hm (1, 0) (List.mem_cons_self ..)) (by show ¬ ((1 : Nat) = 0); decide)
  have hno40 : (x f).2.2.1 = 0 := a3
  by_cases hT : isRf T
  · -- a reference
    have hρ := hρr hT
    subst hρ
    have hvT : D.E.vt v = T := by
      have := hqw qM_nil
      exact this.symm
    obtain ⟨_, ho, hus1, _⟩ | ⟨hne, _⟩ := hcs
    · obtain ⟨hus, hfr⟩ := hus1 hT
      have hal40 : AL D k 40 := Or.inl (by rw [hus]; exact List.mem_singleton_self _)
      obtain ⟨q, U, hU9, hq, eTT⟩ : ∃ q U : Nat, U < 10000 ∧ ((q = 1 ∧ T = 10000 + 2 * U) ∨ (q = 2 ∧ T = 10001 + 2 * U)) ∧ eT T = (q, U, 0) := by
        by_cases c : T % 2 = 0
        · refine ⟨1, (T - 10000) / 2, by have := hT.1; have := hT.2; omega, Or.inl ⟨rfl, by have := hT.1; omega⟩, ?_⟩
          unfold eT
          rw [if_pos hT.1, if_pos c]
        · refine ⟨2, (T - 10000) / 2, by have := hT.1; have := hT.2; omega, Or.inr ⟨rfl, by have := hT.1; omega⟩, ?_⟩
          unfold eT
          rw [if_pos hT.1, if_neg c]
      have hS : (x f).2.1 = (q, U, 0) :: trL (AL D k) r := by
        rw [a2, hs, eTT]
        show trE (AL D k) (wl r) (q, U, 0) :: trL (AL D k) r = _
        rw [trE_r (by show q = 1 ∨ q = 2; omega) (Or.inr (by rw [hwr]; exact hal40))]
      have hTv : vt (x f).1 v = T := by rw [hvt]; exact hvT
      obtain ⟨a, b1, b2, b3, b4⟩ := kJ_asR (v := v) (al2 := fun u => u < 40 ∧ AL D (k + 1) u) (lo2 := fun w π => LO R S0 D (k + 1) w π ∨ 40 ≤ w) (hd := HK D (k + 1) v) hB.2.2.1 hB.2.2.2 hJ hS a3 hno hU9 (by rw [hTv]; exact hq) hv4 hS8 (fun u hu q => by
        rw [a5]
        exact ⟨q.1, hFn.al hed (by omega) (fun z => by rw [ho] at z; exact hu (Option.some.inj z).symm) q.2⟩) (fun w π hw hn q => by
        rw [a6] at q
        by_cases c : w < 40
        · exact hn (Or.inl (hFn.lo14 hL hEy hed hk hpa hms hqw c q (fun z => hw z.1)))
        · exact hn (Or.inr (by omega))) (fun κ q => by
        rw [wl0, a4] at q
        rcases q with ⟨_, q⟩ | ⟨q, _⟩
        · exact hFn.hf hed (by omega) ho k24 (by rw [hfr]; exact List.mem_singleton_self _) q.1
        · omega)
      rw [wl0] at b1 b2 b3 b4
      have b2 : rt (f, 40) = vt (x f).1 v := b2
      rw [qRt_id hkr'] at b4
      rw [b2, hTv] at hva40
      have h56 := (yRf (R := R) (S0 := S0)).mpr hT
      have hT2 : (yT R S0).1 T ≠ 2 := by rcases h56 with z | z <;> rw [z] <;> decide
      have hks : kA (x f) 40 := Or.inr ⟨Nat.le_refl _, by rw [hst, wst]; omega⟩
      refine ⟨(f, v), [], ((x f).1, trL (AL D k) r, 0, lUp (kR (x f)) v (some a), lUp (kH (x f)) v (HK D (k + 1) v), (fun u => u < 40 ∧ AL D (k + 1) u), (fun w π => LO R S0 D (k + 1) w π ∨ 40 ≤ w), kAn (x f)), ⟨hf, hv4, hvS⟩, by rw [hkr, hvT]; exact rfl, trivial, fun n hn => Or.inl ⟨rfl, hn⟩, ⟨hva40, fun z => absurd z hT2⟩, by rw [qG_nil]; exact b4, ⟨a1, rfl, rfl, rfl⟩, fun u hu q => ⟨hu, q⟩, fun u κ hu q z => ?_, fun u π hu q => ?_, fun j u e π9 hj hA hR => ?_⟩
      · have z : lUp (kH (x f)) v (HK D (k + 1) v) u κ := z
        by_cases c0 : u = v
        · rw [c0, lUp_eq] at z; rw [c0]; exact z
        · rw [lUp_ne c0, a4] at z
          rcases z with ⟨_, z⟩ | ⟨z, _⟩
          · exact hFn.hk hed (by omega) (fun y => by rw [ho] at y; exact c0 (Option.some.inj y).symm) z.1
          · omega
      · rcases q with q | q
        · exact q
        · omega
      · by_cases ej : j = f
        · subst ej
          rw [kUx_top] at hA hR
          have hR : lUp (kR (x j)) v (some a) u = some (e :: π9) := hR
          by_cases eu : u = v
          · rw [eu, lUp_eq] at hR
            have hR := Option.some.inj hR
            subst hR
            obtain ⟨g1, e', π', g2, g3, g4, g5⟩ := hJ.2.2.1 j hf 40 _ hks b1
            obtain ⟨rfl, rfl⟩ := List.cons.inj g2
            obtain ⟨l1, l2, l3, T9, l4, _, l6⟩ := hJ.ld hf hks b1
            obtain ⟨n2, m1, m2, _, m4⟩ := hN.2.2.2 j 40 e π9 hf hks (Or.inr ⟨Nat.le_refl _, by rw [hst, wst]; omega⟩) b1
            refine Or.inr ⟨by rw [eu], fun z => ?_, ⟨l1, l2, l3⟩, rfl, hT2, n2, m4 (Nat.le_refl _), m1, m2, T9, l4, l6⟩
            rw [z, hkr'] at g4
            have g56 := g1
            have nr := hB.2.2.2 _ g1
            rw [b2] at g4 nr
            obtain ⟨_, w2⟩ := qW_rf (by rw [hTv]; exact h56) g4
            rw [w2] at nr
            rw [b2] at g1
            exact g1.elim nr.1 nr.2
          · rw [lUp_ne eu] at hR
            have hA' : kA (x j) u := by
              rcases hA with ⟨q1, q2⟩ | ⟨q1, q2⟩
              · refine Or.inl ⟨q1, ?_⟩
                have q2 : u < 40 ∧ AL D (k + 1) u := q2
                rw [a5]
                exact ⟨q1, hFn.al hed (by omega) (fun z => by rw [ho] at z; exact eu (Option.some.inj z).symm) q2.2⟩
              · have q2 : u < 40 + wl (trL (AL D k) r) + 0 := q2
                omega
            refine Or.inl ⟨fun z => eu (Prod.mk.inj z).2, hA', hR, fun z _ => ?_⟩
            obtain ⟨l1, l2, l3, T9, l4, _, l6⟩ := hJ.ld hf hA' hR
            rw [z, hkr'] at l4
            exact (qW_rf (by rw [hTv]; exact h56) l4).1
        · rw [kUx_lo ej] at hA hR
          refine Or.inl ⟨fun z => ej (Prod.mk.inj z).1, hA, hR, fun z _ => ?_⟩
          have := kJ_hd1 hJ hj hA hR
          rw [z] at this
          have this : f ≤ j := this
          omega
    · exact absurd rfl hne
  · have eTT : eT T = (0, T, 0) := he0 hT
    have hS : (x f).2.1 = (0, T, 0) :: trL (AL D k) r := by
      rw [a2, hs, eTT]
      exact trL_0 (E := [(0, T, 0)]) (fun e he => by rw [List.mem_singleton.mp he])
    obtain ⟨s1, s2, s3, s4⟩ := kJ_tv hJ hS hT0
    rw [wl0] at s1 s2
    have s1 : rt (f, 40) = T := s1
    rw [s1] at hva40
    by_cases hm : qM ρ
    · -- members alone
      have hnv : ¬ isRf (D.E.vt v) := fun w => by
        obtain ⟨w1, w2⟩ := qW_rf (yRf.mpr w) (hqw hm)
        rw [← w2] at w; exact hT w
      have hnr5 : (yT R S0).1 (rt (f, v)) ≠ 5 ∧ (yT R S0).1 (rt (f, v)) ≠ 6 := by
        rw [hkr]
        exact ⟨fun z => hnv (yRf.mp (Or.inl z)), fun z => hnv (yRf.mp (Or.inr z))⟩
      have hou : ∀ u : Nat, u ≠ v → (D.I k).ho ≠ some u := fun u hu z => by
        rcases hcs with ⟨_, y, _⟩ | ⟨_, y, _⟩
        · rw [y] at z; exact hu (Option.some.inj z).symm
        · rw [y] at z; cases z
      have J0 := kJ_al (v := v) (hd := HK D (k + 1) v) hJ hv4 a3 (fun z hz => by
        obtain ⟨t, gg⟩ := z
        have := ((hJ.1 (f, v)).1 [] t gg hz).1
        have this : t = rt (f, v) := this
        show (yT R S0).1 t ≠ 5 ∧ (yT R S0).1 t ≠ 6
        rw [this]; exact hnr5)
      generalize hx0 : kUx x f ((x f).1, (x f).2.1, 0, lUp (kR (x f)) v none, lUp (kH (x f)) v (HK D (k + 1) v), (fun u => kal (x f) u ∨ u = v), klo (x f), kAn (x f)) = x0 at J0
      have e0 : x0 f = ((x f).1, (x f).2.1, 0, lUp (kR (x f)) v none, lUp (kH (x f)) v (HK D (k + 1) v), (fun u => kal (x f) u ∨ u = v), klo (x f), kAn (x f)) := by rw [← hx0, kUx_eq]
      have hck := hFn.ck h1.1.2.1.1 h1.1.2.1.2.1 h1.1.2.1.2.2 hpa (by rw [hac]; decide) (fun z => hT z.2.2) (Or.inr ⟨hms, T, hpt'⟩) (A2 := fun u => u ≠ v ∧ u < 40 ∧ AL D (k + 1) u) (fun u κ z1 z2 => ⟨by omega, hFn.ab hed (by omega) z1.2.2, hou u z1.1⟩)
      obtain ⟨J1, hcmp⟩ := kJ_asA (v := v) (ρ := ρ) (T := T) (m := 0) (S := trL (AL D k) r) (al2 := fun u => u < 40 ∧ AL D (k + 1) u) (lo2 := fun w π => LO R S0 D (k + 1) w π ∨ 40 ≤ w) J0 (by rw [e0]; exact hS) (by rw [e0]) hno hT0 hv4 hS8 (by rw [e0]; show qW (yT R S0) (vt (x f).1 v) ρ T; rw [hvt]; exact hqw hm) hm (fun u q => by
        rw [e0]
        show kal (x f) u ∨ u = v
        by_cases c : u = v
        · exact Or.inr c
        · refine Or.inl ?_
          rw [a5]; exact ⟨q.1, hFn.al hed (by omega) (hou u c) q.2⟩) (fun w π hn => by
        by_cases c : w = v ∧ lCmp π ρ
        · exact Or.inr c
        · refine Or.inl (fun q => hn ?_)
          rw [e0] at q
          have q : klo (x f) w π := q
          rw [a6] at q
          by_cases c4 : w < 40
          · exact Or.inl (hFn.lo14 hL hEy hed hk hpa hms hqw c4 q (fun z => c ⟨z.1, z.2.2⟩))
          · exact Or.inr (by omega)) (by
        rw [e0]
        intro u κ z1 z2 z3 z4 z5
        have z1' : ((u < 40 ∧ (u < 40 ∧ AL D (k + 1) u)) ∨ (40 ≤ u ∧ u < 40 + wl (trL (AL D k) r))) ∧ lUp (kR (x f)) v none u ≠ none := z1
        have hun : u ≠ v := fun z => by rw [z, lUp_eq] at z1'; exact z1'.2 rfl
        have z2 : lUp (kH (x f)) v (HK D (k + 1) v) u κ := z2
        rw [lUp_ne hun, a4] at z2
        have z3 : ¬ (tb (x f).1).2.2.2.1 κ := z3
        have z4 : (tb (x f).1).1 κ = v := z4
        have z5 : lCmp ((tb (x f).1).2.1 κ) ρ := z5
        rw [htb] at z3 z4 z5
        have hu4 : u < 40 ∧ AL D (k + 1) u := by
          rcases z1'.1 with ⟨_, y⟩ | ⟨y1, y2⟩
          · exact y
          · omega
        have := (hck u κ ⟨hun, hu4⟩ z2 z3 z4 z5).1
        rw [hac] at this
        omega)
      rw [e0, ← hx0, kUx2, wl0] at J1
      refine ⟨(f, v), ρ, ((x f).1, trL (AL D k) r, 0, lUp (kR (x f)) v none, lUp (kH (x f)) v (HK D (k + 1) v), (fun u => u < 40 ∧ AL D (k + 1) u), (fun w π => LO R S0 D (k + 1) w π ∨ 40 ≤ w), kAn (x f)), ⟨hf, hv4, hvS⟩, by rw [hkr]; exact hqw hm, prS.mem hm, fun n hn => Or.inr (Or.inl ⟨hnv, by rw [hkr] at hn; exact hn⟩), ⟨hva40, fun _ => s2.2⟩, J1, ⟨a1, rfl, rfl, rfl⟩, fun u hu q => ⟨hu, q⟩, fun u κ hu q z => ?_, fun u π hu q => ?_, fun j u e π9 hj hA hR => ?_⟩
      · have z : lUp (kH (x f)) v (HK D (k + 1) v) u κ := z
        by_cases c0 : u = v
        · rw [c0, lUp_eq] at z; rw [c0]; exact z
        · rw [lUp_ne c0, a4] at z
          rcases z with ⟨_, z⟩ | ⟨z, _⟩
          · exact hFn.hk hed (by omega) (hou u c0) z.1
          · omega
      · rcases q with q | q
        · exact q
        · omega
      · by_cases ej : j = f
        · subst ej
          rw [kUx_top] at hA hR
          have hR : lUp (kR (x j)) v none u = some (e :: π9) := hR
          have eu : u ≠ v := fun z => by rw [z, lUp_eq] at hR; cases hR
          have hA2 : u < 40 ∧ AL D (k + 1) u := by
            rcases hA with ⟨q1, q2⟩ | ⟨q1, q2⟩
            · exact q2
            · have q2 : u < 40 + wl (trL (AL D k) r) + 0 := q2
              omega
          have hcm := hcmp u (e :: π9) (Or.inl ⟨hA2.1, hA2⟩) (by rw [e0]; exact hR)
          rw [lUp_ne eu] at hR
          refine Or.inl ⟨fun z => eu (Prod.mk.inj z).2, Or.inl ⟨hA2.1, by rw [a5]; exact ⟨hA2.1, hFn.al hed (by omega) (hou u eu) hA2.2⟩⟩, hR, fun z w => absurd (Or.inr ?_) hcm⟩
          rw [z]; exact lP_consI w
        · rw [kUx_lo ej] at hA hR
          refine Or.inl ⟨fun z => ej (Prod.mk.inj z).1, hA, hR, fun z _ => ?_⟩
          have := kJ_hd1 hJ hj hA hR
          rw [z] at this
          have this : f ≤ j := this
          omega
    · -- behind a star
      have hst1 : ∃ s ∈ ρ, s.1 = 1 := Classical.byContradiction (fun w => hm (fun s hs => by
        rcases hms s hs with y | y
        · exact y
        · exact absurd ⟨s, hs, y⟩ w))
      have hne : ρ ≠ [] := fun z => by
        obtain ⟨s, y, _⟩ := hst1
        rw [z] at y; cases y
      obtain ⟨z, _⟩ | ⟨_, ho, hfr, hus1, hus2⟩ := hcs
      · exact absurd z hne
      · have hou : ∀ u : Nat, (D.I k).ho ≠ some u := fun u z => by rw [ho] at z; cases z
        have hfu := hFn.fu hy hEy h1.1.2.1.1 h1.1.2.1.2.1 h1.1.2.1.2.2 hpa k24 (by rw [hac]; decide) (by rw [hac]; decide) (Or.inr hst1) (pTy_fu hpt').1 (pTy_fu hpt').2
        rw [hEy, ← a6] at hfu
        have hkv : isRf (vt (x f).1 v) → kal (x f) v := fun w => by
          rw [hvt] at w
          rw [a5]
          exact ⟨hv4, Or.inl (by rw [(hus1 w).1]; exact List.mem_singleton_self _)⟩
        obtain ⟨d, π, n, ⟨c1, c2, c3⟩, c4, c5, c6, c7, c8, c9⟩ := plN hy hJ hN hv4 hvS (by rw [hvt]; exact hpt) hms hfu (fun w => ⟨hkv w, hne⟩)
        have hck := hFn.ck h1.1.2.1.1 h1.1.2.1.2.1 h1.1.2.1.2.2 hpa (by rw [hac]; decide) (fun z => hT z.2.2) (Or.inr ⟨hms, T, hpt'⟩) (A2 := fun u => (u < 40 ∧ (u < 40 ∧ AL D (k + 1) u)) ∨ (40 ≤ u ∧ u < 40 + wl (trL (AL D k) r))) (fun u κ z1 z2 => by
          rcases z1 with ⟨_, z1, z3⟩ | ⟨z1, z3⟩
          · exact ⟨by omega, hFn.ab hed (by omega) z3, hou u⟩
          · omega)
        obtain ⟨J1, hpre⟩ := kJ_asB (v := v) (ρ := ρ) (T := T) (m := 0) (d := d) (π := π) (S := trL (AL D k) r) (al2 := fun u => u < 40 ∧ AL D (k + 1) u) (lo2 := fun w π => LO R S0 D (k + 1) w π ∨ 40 ≤ w) hJ hS a3 hno hT0 hv4 hS8 (fun w => ⟨hkv w, by
          rw [hvt] at w ⊢
          exact yRf6 w (hus1 w).2⟩) (fun u q => by rw [a5]; exact ⟨q.1, hFn.al hed (by omega) (hou u) q.2⟩) (fun w π q => by
          rw [a6] at q
          by_cases c4 : w < 40
          · exact Or.inl (hFn.lo14 hL hEy hed hk hpa hms hqw c4 q (fun z => hm z.2.1))
          · exact Or.inr (by omega)) (by
          rw [htb]
          show lCk (tbD D) (kH (x f)) _ _ _ _
          rw [a4]
          intro u κ z1 z2 z3 z4 z5
          have := (hck u κ z1 z2 z3 z4 z5).1
          rw [hac] at this
          omega) c2 c4 c5 c9
        rw [wl0] at J1
        refine ⟨d, π, ((x f).1, trL (AL D k) r, 0, kR (x f), kH (x f), (fun u => u < 40 ∧ AL D (k + 1) u), (fun w π => LO R S0 D (k + 1) w π ∨ 40 ≤ w), kAn (x f)), ⟨c1, c2, c3⟩, c4, prS.of (hJ.1 d) (qF_pl c5), fun n9 hn => Or.inr ?_, ⟨hva40, fun _ => s2.2⟩, J1, ⟨a1, rfl, rfl, rfl⟩, fun u hu q => ⟨hu, q⟩, fun u κ hu q z => ?_, fun u π hu q => ?_, fun j u e π9 hj hA hR => ?_⟩
        · rw [wRn.det hn c6, ← hvt]; exact c8
        · have z : kH (x f) u κ := z
          rw [a4] at z
          rcases z with ⟨_, z⟩ | ⟨z, _⟩
          · exact hFn.hk hed (by omega) (hou u) z.1
          · omega
        · rcases q with q | q
          · exact q
          · omega
        · have hp := hpre j u _ hj hA hR
          have hAR : kA (x j) u ∧ kR (x j) u = some (e :: π9) := by
            by_cases ej : j = f
            · subst ej
              rw [kUx_top] at hA hR
              refine ⟨?_, hR⟩
              rcases hA with ⟨q1, q2⟩ | ⟨q1, q2⟩
              · refine Or.inl ⟨q1, ?_⟩
                have q2 : u < 40 ∧ AL D (k + 1) u := q2
                rw [a5]
                exact ⟨q1, hFn.al hed (by omega) (hou u) q2.2⟩
              · have q2 : u < 40 + wl (trL (AL D k) r) + 0 := q2
                omega
            · rw [kUx_lo ej] at hA hR
              exact ⟨hA, hR⟩
          refine Or.inl ⟨fun z => ?_, hAR.1, hAR.2, fun z w => ?_⟩
          · have g1 := (hJ.2.2.1 j hj u _ hAR.1 hAR.2).1
            rw [z] at g1
            obtain ⟨_, w2⟩ := qW_rf g1 c4
            rw [w2] at s3 s4
            exact g1.elim s3 s4
          · rw [z] at hp
            have := hp (Or.inr (lP_consI w))
            exact (lP_anti w (lP_cons this).2).symm
end PS99
