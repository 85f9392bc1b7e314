section PS72
variable {y : qY} {vt : Nat → Nat → Nat} {tb : Nat → lTb} {zn sz rk : Nat → Nat} {M M2 : nM} {sk : Nat → Int64} {pl : Nat → Int32} {f : Nat} {x : Nat → kFm} {rt : Nat × Nat → Nat} {V : Nat × Nat → qV} {bs : Nat → Nat} {C L H : Nat × Nat → List Nat} {v U : Nat} {d : Nat × Nat} {π : lLc}
/-- more is used, what leads nowhere -/
theorem kJ_alp (h : kJ y vt tb f x rt V) {al2 : Nat → Prop} (hal : ∀ u : Nat, al2 u → kal (x f) u ∨ (kR (x f) u = none ∧ V (f, u) [] = none)) : kJ y vt tb f (kUx x f ((x f).1, (x f).2.1, (x f).2.2.1, kR (x f), kH (x f), al2, klo (x f), kAn (x f))) rt V := by
  have hw0 := h
  obtain ⟨h0, h1, h2, h3, h4, h5, h6, h7, h8⟩ := h
  have hf := Nat.le_refl f
  have hA : ∀ u : Nat, kA ((x f).1, (x f).2.1, (x f).2.2.1, kR (x f), kH (x f), al2, klo (x f), kAn (x f)) u → kA (x f) u ∨ (kR (x f) u = none ∧ V (f, u) [] = none) := fun u hu => by
    rcases hu with ⟨z1, z2⟩ | ⟨z1, z2⟩
    · exact (hal u z2).imp (fun w => Or.inl ⟨z1, w⟩) id
    · exact Or.inl (Or.inr ⟨z1, z2⟩)
  have hB : ∀ (u : Nat) (a : lLc), kA ((x f).1, (x f).2.1, (x f).2.2.1, kR (x f), kH (x f), al2, klo (x f), kAn (x f)) u → kR (x f) u = some a → kA (x f) u := fun u a hu ha => by
    rcases hA u hu with w | ⟨w, _⟩
    · exact w
    · rw [w] at ha; cases ha
  refine kJ_top hw0 _ rfl rfl (fun j u _ => ⟨rfl, rfl⟩) (fun u => h0 (f, u)) (lIv_mono2 (h1.1 f hf) (fun u a hu ha => ⟨hB u a hu ha, ha⟩) (fun u a l _ _ hl => hl) (fun u a _ _ => Iff.rfl)) (fun u a hu ha => h2 f hf u a (hB u a hu ha) ha) (fun u t g hv hk2 hu => ?_) (kK_cg (h4 f hf) (fun u _ => ⟨rfl, rfl, rfl⟩)) (fun u π z hz => ⟨(h5 f u π z hz).2.1, (h5 f u π z hz).2.2⟩) (fun v v4 hvS => h6 f hf v v4 hvS) (fun r m => ⟨fun q => ?_, fun q => ?_⟩) (h8 f hf)
  · rcases hA u hu with w | ⟨_, w⟩
    · exact h3 f hf u t g hv hk2 w
    · rw [w] at hv; cases hv
  · exact kPm_cg ((h7 f hf r m).1 q).2 rfl (fun u b hu hb => ⟨hB u b hu hb, hb⟩) (fun _ _ _ _ => rfl) (fun _ q => q) rfl (fun _ _ _ _ => ⟨rfl, rfl⟩)
  · exact kPm_cg ((h7 f hf r m).2 q).2 rfl (fun u b hu hb => ⟨hB u b hu hb, hb⟩) (fun _ _ _ _ => rfl) (fun _ q => q) rfl (fun _ _ _ _ => ⟨rfl, rfl⟩)
/-- a reference leads to no variable that is a reference -/
theorem kJ.nrf {T : Nat} {q : Nat × Nat} (hT : y.1 T ≠ 5 ∧ y.1 T ≠ 6) (h6 : y.1 (rt q) = 5 ∨ y.1 (rt q) = 6) (a3 : qW y (rt d) π T) : d ≠ q := fun e => by
  subst e
  cases π with
  | nil =>
    have a3 : T = rt d := a3
    rw [a3] at hT
    rcases h6 with z | z
    · exact hT.1 z
    · exact hT.2 z
  | cons s π =>
    obtain ⟨q, i⟩ := s
    match q, a3 with
    | 0, a3 => rcases h6 with z | z <;> exact absurd (z.symm.trans a3.1) (by decide)
    | 1, a3 => rcases h6 with z | z <;> exact absurd (z.symm.trans a3.2.1) (by decide)
    | g + 2, a3 => rcases h6 with z | z <;> exact absurd (z.symm.trans a3.1) (by decide)
/-- a reference is moved out of its variable -/
theorem kJ_mvR {al2 : Nat → Prop} {lo2 : Nat → lLc → Prop} (hJ : kJ y vt tb f x rt V) (hn : (x f).2.2.1 = 0) (hl : wl (x f).2.1 < 211) (hno : ∀ r m2 : Nat, (5, r, m2) ∉ (x f).2.1 ∧ (6, r, m2) ∉ (x f).2.1) (hcr : qCr y) (hrf : qRf y) (hU : U < 10000) (hv4 : v < 40) (hvt : rt (f, v) = 10001 + 2 * U) (hkv : kal (x f) v) (a1 : kR (x f) v = some (d :: π)) (a2 : d.2 < 40) (a3 : qW y (rt d) π U) (a4 : qF y (V d) π U) (hal : ∀ u : Nat, al2 u → kal (x f) u ∧ u ≠ v) (hlo : ∀ (w : Nat) (π : lLc), ¬ lo2 w π → ¬ klo (x f) w π ∧ (w = v → ¬ lCmp π [])) (hk : lCk (tb (x f).1) (kH (x f)) (fun u => (u < 40 ∧ al2 u) ∨ (40 ≤ u ∧ u < 40 + wl (x f).2.1)) v [] False) : d ≠ (f, v) ∧ kJ y vt tb f (kUx x f ((x f).1, (x f).2.1, 0, lUp (kR (x f)) v none, kH (x f), al2, lo2, kAn (x f))) rt (qUp V (f, v) (qC (V (f, v)) [])) ∧ kJ y vt tb f (kUx x f ((x f).1, (2, U, 0) :: (x f).2.1, 0, lUp (lUp (kR (x f)) v none) (40 + wl (x f).2.1) (some (d :: π)), lUp (kH (x f)) (40 + wl (x f).2.1) (kH (x f) v), al2, lo2, kAn (x f))) (qRt rt (f, 40 + wl (x f).2.1) (10001 + 2 * U)) (qUp (qUp V (f, v) (qC (V (f, v)) [])) (f, 40 + wl (x f).2.1) (qL (10001 + 2 * U))) := by
  have hf := Nat.le_refl f
  have hc := hcr U hU
  have h6 : y.1 (rt (f, v)) = 6 := by rw [hvt]; exact hc.2.2.1
  have eU : y.2.1 (rt (f, v)) = U := by rw [hvt]; exact hc.2.2.2
  have hU56 := hrf (rt (f, v)) (Or.inr h6)
  rw [eU] at hU56
  have hdv : d ≠ (f, v) := kJ.nrf hU56 (Or.inr h6) a3
  have iv := hJ.2.1.1 f hf
  have hal1 : ∀ u : Nat, al2 u → kal (x f) u := fun u q => (hal u q).1
  have hA2 : ∀ u : Nat, ((u < 40 ∧ al2 u) ∨ (40 ≤ u ∧ u < 40 + wl (x f).2.1)) → kA (x f) u ∧ u ≠ v := fun u hu => ⟨kA_to hn hal1 u hu, by
    rcases hu with q | q
    · exact (hal u q.2).2
    · omega⟩
  have hcc : ∀ (u : Nat) (b : lLc), ((u < 40 ∧ al2 u) ∨ (40 ≤ u ∧ u < 40 + wl (x f).2.1)) → kR (x f) u = some b → ¬ lCmp b ((f, v) :: []) := fun u b hu hb hcm => (lAc_var iv (kA_to hn hal1) hk hu hb hcm).1
  have hRn : ∀ u : Nat, u ≠ v → lUp (kR (x f)) v none u = kR (x f) u := fun u q => lUp_ne q
  have hcc2 : ∀ (u : Nat) (b : lLc), ((u < 40 ∧ al2 u) ∨ (40 ≤ u ∧ u < 40 + wl (x f).2.1)) → lUp (kR (x f)) v none u = some b → ¬ lCmp b ((f, v) :: []) := fun u b hu hb => hcc u b hu (by rw [← hRn u (hA2 u hu).2]; exact hb)
  obtain ⟨b1, b2⟩ := lBw_move (t := 40 + wl (x f).2.1) (un := y.1 (10001 + 2 * U) = 6) (hd := kH (x f) v) iv hA2 (Or.inl ⟨hv4, hkv⟩) a1 hk (fun _ => h6) (fun l q => q)
  have j1 := kJ_cut hJ (σ := []) (R2 := lUp (kR (x f)) v none) (al2 := al2) (lo2 := lo2) hn hv4 hno qM_nil hRn (Or.inr ⟨lUp_eq, rfl⟩) hal1 hlo hcc2
  refine ⟨hdv, j1, ?_⟩
  generalize hx1 : kUx x f ((x f).1, (x f).2.1, 0, lUp (kR (x f)) v none, kH (x f), al2, lo2, kAn (x f)) = x1 at j1
  have e1 : x1 f = ((x f).1, (x f).2.1, 0, lUp (kR (x f)) v none, kH (x f), al2, lo2, kAn (x f)) := by rw [← hx1, kUx_eq]
  have eS : (x1 f).2.1 = (x f).2.1 := by rw [e1]
  have htg : qTg y rt (qUp V (f, v) (qC (V (f, v)) [])) (d :: π) U := ⟨d, π, rfl, a2, a3, by rw [qUp_ne hdv]; exact a4⟩
  have r := kJ_pushR (m := 0) (k := 2) (t := 10001 + 2 * U) (T := U) (a := d :: π) (hd := kH (x f) v) (al2 := al2) j1 hcr hU (Or.inr ⟨rfl, rfl⟩) (by rw [e1]) (by rw [eS]; exact hl) (by rw [eS]; exact hno) (by rw [e1]; exact fun u q => q) htg (by rw [e1]; exact b1) (by
    rw [e1]
    intro u hu b hb
    have hne := (hA2 u hu).2
    have hb : lUp (kR (x f)) v none u = some b := hb
    have hb2 : kR (x f) u = some b := by rw [← hRn u hne]; exact hb
    exact b2 u hu b hb2)
  rw [e1, ← hx1, kUx2] at r
  exact r
/-- the nodes when a reference leaves its variable -/
theorem kN.cutR {al2 : Nat → Prop} {lo2 : Nat → lLc → Prop} {fl : List Nat} {t : Nat} {tk : Nat → Int32} (hy : nYk y zn sz rk) (hrf : qRf y) (hJ : kJ y vt tb f x rt V) (hN : kN y zn sz M sk pl f x rt V bs C L H) (hC : kC C L H fl t tk) (hf6 : f < 60) (hw1 : ∀ j : Nat, j ≤ f → wl (x j).2.1 ≤ 177) (hn0 : (x f).2.2.1 = 0) (hv4 : v < 40) (hvS : (8, v, 0) ∈ (x f).2.1) (h56 : y.1 (rt (f, v)) = 5 ∨ y.1 (rt (f, v)) = 6) (h2 : y.1 (rt (f, v)) ≠ 2 ∧ y.1 (rt (f, v)) ≠ 3 ∧ y.1 (rt (f, v)) ≠ 4) (hal : ∀ u : Nat, al2 u → kal (x f) u)
  (hM : ∀ a : Nat, a ≠ hdN (C (f, v)) → M2.w a = M.w a ∧ M2.h a = M.h a ∧ M2.x a = M.x a) (hM0 : M2.h (hdN (C (f, v))) = 0) (hM1 : M2.x = M.x) : kN y zn sz M2 sk pl f (kUx x f ((x f).1, (x f).2.1, 0, lUp (kR (x f)) v none, kH (x f), al2, lo2, kAn (x f))) rt (qUp V (f, v) (qC (V (f, v)) [])) bs C L H := by
  have hf := Nat.le_refl f
  obtain ⟨⟨k, q1⟩, q2, q3⟩ := (hN.1 f v hf).1 hv4 hvS
  have hl1 : (C (f, v)).length = 1 := by rw [q1.len hy]; exact hy.2.1 _ h2.1
  obtain ⟨m, em⟩ : ∃ m : Nat, C (f, v) = [m] := by
    match hc : C (f, v), hl1 with
    | [m], _ => exact ⟨m, rfl⟩
  rw [em] at hM hM0
  have hM : ∀ a : Nat, a ≠ m → M2.w a = M.w a ∧ M2.h a = M.h a ∧ M2.x a = M.x a := hM
  have hM0 : M2.h m = 0 := hM0
  have eLH : L (f, v) = [] ∧ H (f, v) = [] := by
    cases k with
    | zero => exact q1.elim
    | succ k =>
      rcases q1 with ⟨z, _⟩ | ⟨_, n, _, ⟨_, _, z1, z2⟩ | ⟨_, z⟩⟩
      · exact absurd z h2.1
      · exact ⟨z1, z2⟩
      · rcases z with ⟨z, _⟩ | ⟨z, _⟩ | ⟨_, _, _, z1, z2⟩
        · exact absurd z h2.2.1
        · exact absurd z h2.2.2
        · exact ⟨z1, z2⟩
  have dj : ∀ (q : Nat × Nat) (a : Nat), q ≠ (f, v) → q.1 ≤ f → kSc (x q.1).2.1 q.2 → (a ∈ C q ∨ a ∈ L q) → a ≠ m := fun q a h1 h2 h3 h4 e => by
    have hq := hw1 q.1 h2
    have q300 : q.2 < 300 := by rcases h3 with z | z <;> omega
    obtain ⟨_, _, _, _, z⟩ := hC.one (r := q) (by omega) q300 h4
    exact h1 (z (f, v) hf6 (show v < 300 by omega) (Or.inl (by rw [em, e]; exact List.mem_singleton_self m))).symm
  refine kN.r1 (u0 := v) hy hJ hN (fun j hj => kUx_lo hj) (fun u _ => by rw [kUx_top]) (fun u _ _ => by rw [kUx_top]) (fun q hq => ⟨rfl, qUp_ne hq, rfl, rfl, rfl⟩) (fun q h1 h3 h4 => ⟨fun a w => hM a (dj q a h1 h3 h4 (Or.inl w)), fun a w => hM a (dj q a h1 h3 h4 (Or.inr w))⟩) (fun _ _ _ _ _ => rfl) (fun _ _ _ _ _ => rfl) ?_ (fun j u d π hj ha hc hr => Or.inl ?_)
  · rw [qUp_eq, kUx_top, eLH.1, eLH.2]
    refine ⟨fun _ _ => ⟨⟨k, ?_⟩, by rw [hM1]; exact q2, q3⟩, fun w => by omega, fun w => absurd (Or.inl ⟨hv4, hvS⟩) w⟩
    rw [← qG_C, qG_z]
    exact q1.none hy (fun a ha => by rw [em] at ha; rw [List.mem_singleton.mp ha]; exact hM0)
  · have old : kA (x j) u ∧ kR (x j) u = some (d :: π) ∧ (j, u) ≠ (f, v) := by
      by_cases e : j = f
      · subst e
        rw [kUx_top] at ha hr
        have hr : lUp (kR (x j)) v none u = some (d :: π) := hr
        have hu : u ≠ v := fun w => by rw [w, lUp_eq] at hr; cases hr
        rw [lUp_ne hu] at hr
        refine ⟨?_, hr, fun w => hu (Prod.mk.inj w).2⟩
        rcases ha with ⟨z1, z2⟩ | ⟨z1, z2⟩
        · exact Or.inl ⟨z1, hal u z2⟩
        · have z2 : u < 40 + wl (x j).2.1 + 0 := z2
          exact Or.inr ⟨z1, by omega⟩
      · rw [kUx_lo e] at ha hr
        exact ⟨ha, hr, fun w => e (Prod.mk.inj w).1⟩
    obtain ⟨oa, or, on⟩ := old
    obtain ⟨z1, r9, π9, e9, _, z2, _⟩ := hJ.2.2.1 j hj u _ oa or
    cases e9
    exact ⟨on, kJ.nrf (hrf _ z1) h56 z2, oa, or⟩
end PS72
