section PS68
variable {y : qY} {vt : Nat → Nat → Nat} {tb : Nat → lTb} {zn sz rk : Nat → Nat} {M M2 : nM} {sk sk2 : Nat → Int64} {pl pl2 : Nat → Int32} {f : Nat} {x x2 : Nat → kFm} {rt rt2 : Nat × Nat → Nat} {V V2 : Nat × Nat → qV} {bs : Nat → Nat} {C L H C2 L2 H2 : Nat × Nat → List Nat} {v T : Nat} {ρ σ : lLc} {fl : List Nat} {t : Nat} {tk : Nat → Int32}
/-- a value is moved out of its place -/
theorem kJ_mv (hJ : kJ y vt tb f x rt V) (hn : (x f).2.2.1 = 0) (hl : wl (x f).2.1 < 211) (hno : ∀ r m2 : Nat, (5, r, m2) ∉ (x f).2.1 ∧ (6, r, m2) ∉ (x f).2.1) {B : Nat} {al2 : Nat → Prop} {lo2 : Nat → lLc → Prop} (hT0 : T ≠ 0) (hT5 : y.1 T ≠ 5) (hT6 : y.1 T ≠ 6) (hv4 : v < 40) (hvS : (8, v, 0) ∈ (x f).2.1) (hw : qW y (vt (x f).1 v) ρ T) (hm : qM σ) (hσ : qW y (vt (x f).1 v) σ B) (hσρ : ρ = σ ∨ ρ = σ ++ [(1, 0)]) (hfu : fuL y (klo (x f)) v ρ T) (hal : ∀ u : Nat, al2 u → kal (x f) u) (hlo : ∀ (w : Nat) (π : lLc), ¬ lo2 w π → ¬ klo (x f) w π ∧ (w = v → ¬ lCmp π σ)) (hk : lCk (tb (x f).1) (kH (x f)) (fun u => (u < 40 ∧ al2 u) ∨ (40 ≤ u ∧ u < 40 + wl (x f).2.1)) v ρ False) : (qF y (V (f, v)) ρ T ∧ rt (f, v) = vt (x f).1 v) ∧ kJ y vt tb f (kUx x f ((x f).1, (0, T, 0) :: (x f).2.1, 0, lUp (kR (x f)) (40 + wl (x f).2.1) none, kH (x f), al2, lo2, kAn (x f))) (qRt rt (f, 40 + wl (x f).2.1) T) (qUp (qUp V (f, v) (qC (V (f, v)) σ)) (f, 40 + wl (x f).2.1) (qS (V (f, v)) ρ)) := by
  have hf := Nat.le_refl f
  have hms : qMs ρ := by
    rcases hσρ with e | e
    · rw [e]; exact qMs_M hm
    · rw [e]
      intro a ha
      rcases List.mem_append.mp ha with q | q
      · exact Or.inl (hm a q)
      · rw [List.mem_singleton.mp q]; exact Or.inr rfl
  obtain ⟨F1, F2⟩ := pl_A hJ hv4 hvS hw hms hfu
  have wρ : qW y (rt (f, v)) ρ T := by rw [F2]; exact hw
  have wσ : qW y (rt (f, v)) σ B := by rw [F2]; exact hσ
  have iv := hJ.2.1.1 f hf
  have hcc : ∀ (u : Nat) (b : lLc), ((u < 40 ∧ al2 u) ∨ (40 ≤ u ∧ u < 40 + wl (x f).2.1)) → kR (x f) u = some b → ¬ lCmp b ((f, v) :: σ) := fun u b hu hb hcm => by
    have hA := kA_to hn hal u hu
    obtain ⟨-, r, π, rfl, -, w1, -⟩ := hJ.2.2.1 f hf u b hA hb
    refine (lAc_var iv (kA_to hn hal) hk hu hb ?_).1
    obtain ⟨rfl, hcm2⟩ := lCmp_cons hcm
    clear hcm
    rcases hσρ with rfl | rfl
    · exact hcm2.imp lP_consI lP_consI
    · rcases hcm2 with q | q
      · exact Or.inl (lP_consI (lP_tr q (lP_app _ _)))
      · obtain ⟨s, rfl⟩ := q
        cases s with
        | nil => rw [List.append_nil]; exact Or.inl (lP_consI (lP_app _ _))
        | cons a s =>
          obtain ⟨T2, v1, v2⟩ := qW_cut w1
          obtain rfl := qW_det wσ v1
          obtain ⟨T3, v3, v4⟩ := qW_cut wρ
          obtain rfl := qW_det wσ v3
          have h4 : y.1 B = 4 := v4.2.1
          obtain ⟨q, i⟩ := a
          refine Or.inr (lP_consI ?_)
          match q, v2 with
          | 0, v2 => exact absurd (h4.symm.trans v2.1) (by decide)
          | 1, v2 =>
            obtain rfl : i = 0 := v2.1
            exact ⟨s, by rw [List.append_assoc]; rfl⟩
          | g + 2, v2 => exact absurd (h4.symm.trans v2.1) (by decide)
  have j1 := kJ_cut hJ (σ := σ) (R2 := kR (x f)) (al2 := al2) (lo2 := lo2) hn hv4 hno hm (fun _ _ => rfl) (Or.inl rfl) hal hlo hcc
  generalize hx1 : kUx x f ((x f).1, (x f).2.1, 0, kR (x f), kH (x f), al2, lo2, kAn (x f)) = x1 at j1
  have e1 : x1 f = ((x f).1, (x f).2.1, 0, kR (x f), kH (x f), al2, lo2, kAn (x f)) := by rw [← hx1, kUx_eq]
  have eS : (x1 f).2.1 = (x f).2.1 := by rw [e1]
  have hu : qFu y T (qS (V (f, v)) ρ) := qFu_S (hJ.1 _) wρ F1
  have hk0 : kNm (0, T, 0) := by unfold kNm; simp
  have j := kJ_push (hd := kH (x1 f) (40 + wl (x1 f).2.1)) j1 hk0 (by rw [e1]) (by rw [eS]; exact hl) hu.1 (fun w hw => by
    obtain ⟨a, b⟩ := w
    have e9 : a = T := (hu.1.1 [] a b hw).1
    show y.1 a ≠ 5 ∧ y.1 a ≠ 6
    rw [e9]
    exact ⟨hT5, hT6⟩) (e := (0, T, 0)) ⟨lUp_eq, hT5, hT6, fun _ => ⟨qRt_eq, by rw [qUp_eq]; exact hu.2⟩, fun q => absurd q hT0⟩
  rw [lUp_self] at j
  rw [e1, ← hx1, kUx2] at j
  exact ⟨⟨F1, F2⟩, j⟩
/-- some roots of the latest frame change -/
theorem kN.rq {Q : Nat → Prop} (hy : nYk y zn sz rk) (hJ : kJ y vt tb f x rt V) (h : kN y zn sz M sk pl f x rt V bs C L H)
  (hx : ∀ j : Nat, j ≠ f → x2 j = x j) (h8 : ∀ u : Nat, ¬ Q u → ((8, u, 0) ∈ (x2 f).2.1 ↔ (8, u, 0) ∈ (x f).2.1)) (hw : ∀ u : Nat, ¬ Q u → 40 ≤ u → (u < 40 + wl (x2 f).2.1 ↔ u < 40 + wl (x f).2.1))
  (hV : ∀ r : Nat × Nat, ¬ (r.1 = f ∧ Q r.2) → rt2 r = rt r ∧ V2 r = V r ∧ C2 r = C r ∧ L2 r = L r ∧ H2 r = H r) (hM : ∀ r : Nat × Nat, ¬ (r.1 = f ∧ Q r.2) → r.1 ≤ f → kSc (x r.1).2.1 r.2 → agN M M2 (C r) ∧ agN M M2 (L r))
  (hp : ∀ r : Nat × Nat, ¬ (r.1 = f ∧ Q r.2) → r.1 ≤ f → r.2 < 40 → (8, r.2, 0) ∈ (x r.1).2.1 → pl2 (40 * r.1 + r.2) = pl (40 * r.1 + r.2)) (hs : ∀ r : Nat × Nat, ¬ (r.1 = f ∧ Q r.2) → r.1 ≤ f → 40 ≤ r.2 → r.2 < 40 + wl (x r.1).2.1 → sk2 (bs r.1 + (r.2 - 40)) = sk (bs r.1 + (r.2 - 40)))
  (hn : ∀ u : Nat, Q u → rPc y sz M2 sk2 pl2 (x2 f).2.1 (bs f) f u (rt2 (f, u)) (V2 (f, u)) (C2 (f, u)) (L2 (f, u)) (H2 (f, u)))
  (hr : ∀ (j u : Nat) (d : Nat × Nat) (π : lLc), j ≤ f → kA (x2 j) u → kSc (x2 j).2.1 u → kR (x2 j) u = some (d :: π) → (¬ (j = f ∧ Q u) ∧ ¬ (d.1 = f ∧ Q d.2) ∧ kA (x j) u ∧ kR (x j) u = some (d :: π)) ∨ rfA y zn M2 sk2 (bs j) u (rt2 d) (C2 d) (C2 (j, u)) π) : kN y zn sz M2 sk2 pl2 f x2 rt2 V2 bs C2 L2 H2 := by
  have hag : ∀ r : Nat × Nat, ¬ (r.1 = f ∧ Q r.2) → r.1 ≤ f → agN M M2 (C r) ∧ agN M M2 (L r) := fun r h1 h2 => by
    by_cases c : kSc (x r.1).2.1 r.2
    · exact hM r h1 h2 c
    · obtain ⟨z1, z2, _⟩ := (h.1 r.1 r.2 h2).2.2 c
      have z1 : C r = [] := z1
      have z2 : L r = [] := z2
      rw [z1, z2]
      exact ⟨fun _ w => (by cases w), fun _ w => (by cases w)⟩
  refine kN.up (bs := bs) (f2 := f) hy hJ h (fun r => ¬ (r.1 = f ∧ Q r.2) ∧ r.1 ≤ f) (fun j u ⟨k1, k2⟩ => ?_) (fun j u hj hk => ?_) (fun j u hj => ?_) ⟨h.2.2.1.1, fun j hj => ?_⟩ (fun j u d π hj ha hc he => ?_)
  · obtain ⟨v1, v2, v3, v4, v5⟩ := hV (j, u) k1
    obtain ⟨a1, a2⟩ := hag (j, u) k1 k2
    refine ⟨⟨k2, rfl⟩, ?_, fun a => ?_, ⟨v1, v2⟩, ⟨v3, v4, v5⟩, a1, a2, fun a b => hp (j, u) k1 k2 a b, fun a b => hs (j, u) k1 k2 a b⟩
    · by_cases e : j = f
      · subst e; exact h8 u (fun w => k1 ⟨rfl, w⟩)
      · rw [hx j e]
    · by_cases e : j = f
      · subst e; exact hw u (fun w => k1 ⟨rfl, w⟩) a
      · rw [hx j e]
  · have e : j = f ∧ Q u := Classical.byContradiction (fun w => hk ⟨w, hj⟩)
    obtain ⟨e1, e2⟩ := e
    subst e1
    exact hn u e2
  · obtain ⟨_, _, v3, v4, v5⟩ := hV (j, u) (fun w => by have : j = f := w.1; omega)
    rw [v3, v4, v5]; exact h.2.1 j u hj
  · rw [hx j (by omega)]; exact h.2.2.1.2 j hj
  · rcases hr j u d π hj ha hc he with ⟨w1, w2, w3, w4⟩ | w
    · exact Or.inl ⟨⟨w1, hj⟩, ⟨w2, (hJ.ld hj w3 w4).1⟩, w3, w4⟩
    · exact Or.inr w
/-- a part of a root's nodes stands apart from the rest -/
theorem kC.cv {r : Nat × Nat} {c0 l0 : List Nat} (hc : kC C L H fl t tk) (h1 : r.1 < 60) (h2 : r.2 < 300) (hfl : fl.Nodup) (hs : ∀ a : Nat, cnN a c0 + cnN a l0 ≤ cnN a (C r) + cnN a (L r)) : cvN c0 l0 fl t := fun a => by
  have := hs a
  by_cases w : a ∈ C r ∨ a ∈ L r
  · obtain ⟨q1, q2, q3, q4, _⟩ := hc.one h1 h2 w
    rw [cnN_z q1]
    exact ⟨by omega, fun _ => ⟨q2, q3⟩⟩
  · have z1 := cnN_z (fun z => w (Or.inl z))
    have z2 := cnN_z (fun z => w (Or.inr z))
    have := cnN_nd.mp hfl a
    exact ⟨by omega, fun z => by omega⟩
theorem qG_C {W : qV} : qG W ρ (fun _ => none) = qC W ρ := funext fun π => by
  unfold qG qC
  cases qD ρ π <;> rfl
/-- two roots are told anew -/
def u2N {α : Type} (F : Nat × Nat → α) (r1 r2 : Nat × Nat) (a b : α) : Nat × Nat → α := fun r => if r = r1 then a else if r = r2 then b else F r
theorem u2N_1 {α : Type} {F : Nat × Nat → α} {r1 r2 : Nat × Nat} {a b : α} : u2N F r1 r2 a b r1 = a := if_pos rfl
theorem u2N_2 {α : Type} {F : Nat × Nat → α} {r1 r2 : Nat × Nat} {a b : α} (h : r2 ≠ r1) : u2N F r1 r2 a b r2 = b := by
  unfold u2N
  rw [if_neg h, if_pos rfl]
theorem u2N_o {α : Type} {F : Nat × Nat → α} {r1 r2 r : Nat × Nat} {a b : α} (h1 : r ≠ r1) (h2 : r ≠ r2) : u2N F r1 r2 a b r = F r := by
  unfold u2N
  rw [if_neg h1, if_neg h2]
end PS68
