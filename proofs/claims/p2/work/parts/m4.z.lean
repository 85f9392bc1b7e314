/-- values from m on are told anew -/
def vsN {α : Type} (F : Nat × Nat → List α) (f m : Nat) (a : List α) : Nat × Nat → List α := fun r => if r.1 = f ∧ 40 + m ≤ r.2 then (if r.2 = 40 + m then a else []) else F r
theorem vsN_o {α : Type} {F : Nat × Nat → List α} {f m : Nat} {a : List α} {r : Nat × Nat} (h : ¬ (r.1 = f ∧ 40 + m ≤ r.2)) : vsN F f m a r = F r := if_neg h
theorem vsN_1 {α : Type} {F : Nat × Nat → List α} {f m : Nat} {a : List α} : vsN F f m a (f, 40 + m) = a := by
  unfold vsN
  rw [if_pos ⟨rfl, Nat.le_refl _⟩, if_pos rfl]
theorem vsN_2 {α : Type} {F : Nat × Nat → List α} {f m u : Nat} {a : List α} (h : 40 + m < u) : vsN F f m a (f, u) = [] := by
  unfold vsN
  rw [if_pos ⟨rfl, Nat.le_of_lt h⟩, if_neg (by show ¬ u = 40 + m; omega)]
theorem psN_h0 {c : Nat} : ∀ {n : Nat}, psN (fun i => if i = 0 then c else 0) (n + 1) = c
  | 0 => by show 0 + (if 0 = 0 then c else 0) = c; rw [if_pos rfl]; omega
  | n + 1 => by
    show psN (fun i => if i = 0 then c else 0) (n + 1) + (if n + 1 = 0 then c else 0) = c
    rw [psN_h0, if_neg (by omega)]; rfl
section PS77
variable {y : qY} {vt : Nat → Nat → Nat} {tb : Nat → lTb} {zn sz rk : Nat → Nat} {M M2 : nM} {sk sk2 : Nat → Int64} {pl pl2 : Nat → Int32} {f : Nat} {x x2 : Nat → kFm} {rt rt2 : Nat × Nat → Nat} {V V2 : Nat × Nat → qV} {bs : Nat → Nat} {C L H : Nat × Nat → List Nat} {T : Nat} {fl fl2 lv hv : List Nat} {t t2 : Nat} {tk tk2 : Nat → Int32} {W : qV} {A : Nat → Prop} {E s P : List tE} {X : kFm} {xv : Int64}
/-- the latest values go, another may come -/
theorem kN.vs (hy : nYk y zn sz rk) (hJ : kJ y vt tb f x rt V) (hN : kN y zn sz M sk pl f x rt V bs C L H) (hC : kC C L H fl t tk) (hf6 : f < 60) (hw1 : ∀ j : Nat, j ≤ f → wl (x j).2.1 ≤ 177) (hS : (x f).2.1 = E ++ s) (hE : ∀ e ∈ E, kNm e) (hP1 : ∀ e ∈ P, kNm e) (hX1 : X.2.1 = P ++ s) (hX2 : X.2.2.1 = 0) (hX3 : ∀ u : Nat, kal X u → kal (x f) u)
  (hR : ∀ (u : Nat) (a : lLc), kR X u = some a → kR (x f) u = some a ∧ (P ≠ [] → u ≠ 40 + wl s))
  (hrt : ∀ r : Nat × Nat, ¬ (r.1 = f ∧ 40 + wl s ≤ r.2) → rt2 r = rt r ∧ V2 r = V r)
  (hP : (P = [] ∧ lv = [] ∧ hv = []) ∨ (wl P = 1 ∧ vaR y sz M2 (rt2 (f, 40 + wl s)) (V2 (f, 40 + wl s)) (sk2 (bs f + wl s)) lv hv))
  (hM : ∀ a : Nat, ¬ A a → M2.w a = M.w a ∧ M2.h a = M.h a ∧ M2.x a = M.x a) (hA : ∀ a : Nat, A a → a ∈ fl ∨ t < a ∨ ∃ i : Nat, i < wl E ∧ a ∈ L (f, 40 + (wl s + i)))
  (hfl2 : ∀ a : Nat, cnN a lv + cnN a fl2 + ind t a = psN (fun i => cnN a (L (f, 40 + (wl s + i)))) (wl E) + cnN a fl + ind t2 a)
  (hhv : ∀ q : Nat, (cnN q hv ≤ psN (fun i => cnN q (H (f, 40 + (wl s + i)))) (wl E) ∧ (tk2 q = tk q ∨ cnN q hv < psN (fun i => cnN q (H (f, 40 + (wl s + i)))) (wl E))) ∨ (tk q = 0 ∧ cnN q hv ≤ 1 ∧ q < 4000 ∧ tk2 q ≠ 0))
  (hsk : ∀ q : Nat, q < bs f + wl s → sk2 q = sk q) : kN y zn sz M2 sk2 pl f (kUx x f X) rt2 V2 bs C (vsN L f (wl s) lv) (vsN H f (wl s) hv) ∧ kC C (vsN L f (wl s) lv) (vsN H f (wl s) hv) fl2 t2 tk2 := by
  have hf := Nat.le_refl f
  have hwE : wl (x f).2.1 = wl E + wl s := by rw [hS, wl_app]
  have h177 := hw1 f hf
  have hwX : wl X.2.1 = wl P + wl s := by rw [hX1, wl_app]
  have m8 : ∀ u : Nat, (8, u, 0) ∈ X.2.1 ↔ (8, u, 0) ∈ (x f).2.1 := fun u => by
    rw [hX1, hS, List.mem_append, List.mem_append]
    constructor
    · rintro (w | w)
      · exact absurd (Or.inl rfl) (hP1 _ w)
      · exact Or.inr w
    · rintro (w | w)
      · exact absurd (Or.inl rfl) (hE _ w)
      · exact Or.inr w
  have hP01 : wl P ≤ 1 ∧ (wl P = 0 → lv = [] ∧ hv = [] ∧ P = []) := by
    rcases hP with ⟨z1, z2, z3⟩ | ⟨z1, _⟩
    · rw [z1]; exact ⟨Nat.zero_le _, fun _ => ⟨z2, z3, rfl⟩⟩
    · exact ⟨by omega, fun z => by omega⟩
  -- the roots above are no others
  have top : ∀ u : Nat, 40 + wl s ≤ u → C (f, u) = [] ∧ (40 + (wl s + wl E) ≤ u → L (f, u) = [] ∧ H (f, u) = []) := fun u hu => by
    obtain ⟨q1, q2, q3⟩ := hN.1 f u hf
    by_cases c : u < 40 + wl (x f).2.1
    · exact ⟨(q2 (by omega) c).1, fun w => by omega⟩
    · obtain ⟨z1, z2, z3⟩ := q3 (fun w => by rcases w with w | w <;> omega)
      exact ⟨z1, fun _ => ⟨z2, z3⟩⟩
  have dj : ∀ (q : Nat × Nat) (a : Nat), ¬ (q.1 = f ∧ 40 + wl s ≤ q.2) → q.1 ≤ f → kSc (x q.1).2.1 q.2 → (a ∈ C q ∨ a ∈ L q) → ¬ A a := fun q a h1 h2 h3 h4 w => by
    have hq := hw1 q.1 h2
    have q300 : q.2 < 300 := by rcases h3 with z | z <;> omega
    obtain ⟨q1, q2, q3, q4, q5⟩ := hC.one (r := q) (by omega) q300 h4
    rcases hA a w with z | z | ⟨i, z1, z2⟩
    · exact q1 z
    · omega
    · have := q5 (f, 40 + (wl s + i)) hf6 (show 40 + (wl s + i) < 300 by omega) (Or.inr z2)
      exact h1 (by rw [← this]; exact ⟨rfl, by show 40 + wl s ≤ 40 + (wl s + i); omega⟩)
  refine ⟨kN.rq (Q := fun u => 40 + wl s ≤ u) hy hJ hN (fun j hj => kUx_lo hj) (fun u _ => by rw [kUx_top]; exact m8 u) (fun u hu h4 => ?_) (fun q hq => ?_) (fun q hq h1 h3 => ⟨fun a w => hM a (dj q a hq h1 h3 (Or.inl w)), fun a w => hM a (dj q a hq h1 h3 (Or.inr w))⟩) (fun _ _ _ _ _ => rfl) (fun q hq h1 h4 h5 => hsk _ ?_) (fun u hu => ?_) (fun j u d π hj ha hc hrr => Or.inl ?_), ?_⟩
  · rw [kUx_top, hwX, hwE]; omega
  · obtain ⟨z1, z2⟩ := hrt q hq
    exact ⟨z1, z2, rfl, vsN_o hq, vsN_o hq⟩
  · by_cases e : q.1 = f
    · have h6 : ¬ 40 + wl s ≤ q.2 := fun w => hq ⟨e, w⟩
      rw [e]; omega
    · have := (hN.bsm (j := q.1) (q := f) h1 hf).2 (by omega)
      omega
  · obtain ⟨c0, c1⟩ := top u hu
    have ez : u = 40 + wl s ∨ 40 + wl s < u := by omega
    refine ⟨fun w => by omega, fun w1 w2 => ?_, fun w => ?_⟩
    · rw [kUx_top, hwX] at w2
      obtain rfl : u = 40 + wl s := by omega
      rcases hP with ⟨z1, _⟩ | ⟨_, z2⟩
      · rw [z1] at w2
        have w2 : 40 + wl s < 40 + (0 + wl s) := w2
        omega
      · rw [c0, vsN_1, vsN_1, show 40 + wl s - 40 = wl s by omega]
        exact ⟨rfl, z2⟩
    · rw [kUx_top] at w
      rcases ez with rfl | ez
      · have h0 : wl P = 0 := by
          rcases Nat.eq_zero_or_pos (wl P) with z | z
          · exact z
          · exact absurd (Or.inr ⟨by omega, by rw [hwX]; omega⟩) w
        obtain ⟨z1, z2, _⟩ := hP01.2 h0
        rw [c0, vsN_1, vsN_1]
        exact ⟨rfl, z1, z2⟩
      · rw [c0, vsN_2 ez, vsN_2 ez]
        exact ⟨rfl, rfl, rfl⟩
  · by_cases e : j = f
    · subst e
      rw [kUx_top] at ha hrr hc
      obtain ⟨r1, r2⟩ := hR u _ hrr
      have hu : u < 40 + wl s := by
        rcases hc with ⟨z1, _⟩ | ⟨z1, z2⟩
        · omega
        · rw [hwX] at z2
          by_cases c : wl P = 0
          · omega
          · have h1 : wl P = 1 := by have := hP01.1; omega
            have := r2 (fun z => c (by rw [z]; rfl))
            omega
      have ha2 : kA (x j) u := by
        rcases ha with ⟨z1, z2⟩ | ⟨z1, z2⟩
        · exact Or.inl ⟨z1, hX3 u z2⟩
        · exact Or.inr ⟨z1, by omega⟩
      exact ⟨fun w => by have := w.2; omega, fun w => by have := (hJ.ld (Nat.le_refl _) ha2 r1).2.1; have := w.2; omega, ha2, r1⟩
    · rw [kUx_lo e] at ha hrr hc
      exact ⟨fun w => e w.1, fun w => by have := (hJ.ld hj ha hrr).2.1; have := w.2; omega, ha, hrr⟩
  · have sv : ∀ (F : Nat × Nat → List Nat) (z : List Nat) (a : Nat), psN (fun i => cnN a (vsN F f (wl s) z (f, 40 + (wl s + i)))) (wl E + 1) = cnN a z := fun F z a => by
      rw [psN_cg (w2 := fun i => if i = 0 then cnN a z else 0) (fun i _ => ?_), psN_h0]
      by_cases c : i = 0
      · rw [if_pos c, c, show 40 + (wl s + 0) = 40 + wl s by omega, vsN_1]
      · rw [if_neg c, vsN_2 (by omega)]; rfl
    have so : ∀ (F : Nat × Nat → List Nat) (a : Nat), F (f, 40 + (wl s + wl E)) = [] → psN (fun i => cnN a (F (f, 40 + (wl s + i)))) (wl E + 1) = psN (fun i => cnN a (F (f, 40 + (wl s + i)))) (wl E) := fun F a z => by
      show psN _ (wl E) + cnN a (F (f, 40 + (wl s + wl E))) = _
      rw [z]; rfl
    obtain ⟨tc, th⟩ := top (40 + (wl s + wl E)) (by omega)
    obtain ⟨tl, th⟩ := th (Nat.le_refl _)
    refine hC.fam (r := fun i => (f, 40 + (wl s + i))) (n := wl E + 1) (fun i hi => ⟨hf6, show 40 + (wl s + i) < 300 by omega⟩) (fun i j hi hj he => by have := (Prod.mk.inj he).2; omega) (fun q hq => ?_) (fun a => ?_) (fun q => ?_)
    · by_cases c : q.1 = f ∧ 40 + wl s ≤ q.2
      · obtain ⟨c1, c2⟩ := c
        obtain ⟨q1, q2⟩ := q
        have c1 : q1 = f := c1
        subst c1
        have c2 : 40 + wl s ≤ q2 := c2
        by_cases c3 : q2 < 40 + (wl s + (wl E + 1))
        · exact absurd (by rw [show 40 + (wl s + (q2 - 40 - wl s)) = q2 by omega]) (hq (q2 - 40 - wl s) (by omega))
        · obtain ⟨d1, d2⟩ := top q2 c2
          obtain ⟨d2, d3⟩ := d2 (by omega)
          rw [vsN_2 (by omega), vsN_2 (by omega), d2, d3]
          exact ⟨rfl, rfl, rfl⟩
      · exact ⟨rfl, vsN_o c, vsN_o c⟩
    · have z : ∀ i : Nat, cnN a (C (f, 40 + (wl s + i))) = 0 := fun i => by rw [(top (40 + (wl s + i)) (by omega)).1]; rfl
      have e1 : psN (fun i => cnN a (C (f, 40 + (wl s + i))) + cnN a (vsN L f (wl s) lv (f, 40 + (wl s + i)))) (wl E + 1) = cnN a lv := by
        rw [← sv L lv a]
        exact psN_cg (fun i _ => by rw [z i]; omega)
      have e2 : psN (fun i => cnN a (C (f, 40 + (wl s + i))) + cnN a (L (f, 40 + (wl s + i)))) (wl E + 1) = psN (fun i => cnN a (L (f, 40 + (wl s + i)))) (wl E) := by
        rw [← so L a tl]
        exact psN_cg (fun i _ => by rw [z i]; omega)
      rw [e1, e2]
      exact hfl2 a
    · rw [sv H hv q, so H q th]
      have w5 : psN (fun i => cnN q (H (f, 40 + (wl s + i)))) (wl E) ≤ 1 := by
        have e := sm2_fam (G2 := fun _ => 0) (r := fun i => (f, 40 + (wl s + i))) (n := wl E) (G := fun r => if ∃ i : Nat, i < wl E ∧ r = (f, 40 + (wl s + i)) then cnN q (H r) else 0) (fun i hi => ⟨hf6, show 40 + (wl s + i) < 300 by omega⟩) (fun i j hi hj he => by have := (Prod.mk.inj he).2; omega) (fun r hr => (if_neg (fun ⟨i, i1, i2⟩ => hr i i1 i2)).symm)
        have e2 : psN (fun i => if ∃ i2 : Nat, i2 < wl E ∧ (f, 40 + (wl s + i)) = (f, 40 + (wl s + i2)) then cnN q (H (f, 40 + (wl s + i))) else 0) (wl E) = psN (fun i => cnN q (H (f, 40 + (wl s + i)))) (wl E) := psN_cg (fun i hi => if_pos ⟨i, hi, rfl⟩)
        rw [e2] at e
        have e3 : sm2 (fun r => if ∃ i : Nat, i < wl E ∧ r = (f, 40 + (wl s + i)) then cnN q (H r) else 0) ≤ sm2 (fun r => cnN q (H r)) := sm2_le (fun r _ _ => by
          by_cases c : ∃ i : Nat, i < wl E ∧ r = (f, 40 + (wl s + i))
          · rw [if_pos c]; exact Nat.le_refl _
          · rw [if_neg c]; exact Nat.zero_le _)
        have e4 := (hC.2 q).1
        have e5 : psN (fun i => (fun _ : Nat × Nat => 0) (f, 40 + (wl s + i))) (wl E) = 0 := psN_z
        rw [e5] at e
        omega
      rcases hhv q with ⟨z1, z2⟩ | ⟨z1, z2, z3, z4⟩
      · exact Or.inl ⟨z1, z2.imp id (fun z => ⟨by omega, by omega⟩)⟩
      · exact Or.inr ⟨z1, z2, z3, z4⟩
end PS77
