section PS86
variable {y : qY} {vt : Nat → Nat → Nat} {tb : Nat → lTb} {f v T : Nat} {x : Nat → kFm} {rt : Nat × Nat → Nat} {V : Nat × Nat → qV} {al2 : Nat → Prop} {lo2 : Nat → lLc → Prop}
/-- LET of a value that is no reference -/
theorem kJ_let (hrf : qRf y) (hJ : kJ y vt tb f x rt V) {hd : Nat → Prop} {m : Nat} {S : List tE} (hS : (x f).2.1 = (0, T, m) :: S) (hn : (x f).2.2.1 = 0) (hno : ∀ r m : Nat, (5, r, m) ∉ S ∧ (6, r, m) ∉ S) (hT : T ≠ 0) (hvt : vt (x f).1 v = T) (hv4 : v < 40) (hvS : (8, v, 0) ∉ S) (hal : ∀ u : Nat, u ≠ v → al2 u → kal (x f) u) (hlo : ∀ (w : Nat) (π : lLc), w ≠ v → ¬ lo2 w π → ¬ klo (x f) w π) : kJ y vt tb f (kUx x f ((x f).1, (8, v, 0) :: S, 0, lUp (kR (x f)) v none, lUp (kH (x f)) v hd, al2, lo2, kAn (x f))) (qRt rt (f, v) (vt (x f).1 v)) (qUp (kCl V f (wl S)) (f, v) (V (f, 40 + wl S))) := by
  have hf := Nat.le_refl f
  have hk0 : kNm (0, T, m) := by unfold kNm; simp
  have hK := hJ.2.2.2.2.1 f hf
  rw [hS] at hK
  obtain ⟨⟨k1, k2, k3, k4, k5⟩, -⟩ := hK
  obtain ⟨r1, r2⟩ := k4 hT
  subst hvt
  have hE1 : ∀ e : tE, e ∈ [(0, vt (x f).1 v, m)] → kNm e := fun e he => by rw [List.mem_singleton.mp he]; exact hk0
  have hWk : qOk y (vt (x f).1 v) (V (f, 40 + wl S)) := by rw [← r1]; exact hJ.1 _
  have j1 := kJ_pop hJ (E := [(0, vt (x f).1 v, m)]) (S := S) hS hE1 hn
  generalize hx1 : kUx x f ((x f).1, S, 0, kR (x f), kH (x f), kal (x f), klo (x f), kAn (x f)) = x1 at j1
  have e1 : x1 f = ((x f).1, S, 0, kR (x f), kH (x f), kal (x f), klo (x f), kAn (x f)) := by rw [← hx1, kUx_eq]
  have r := kJ_set (v := v) (W := V (f, 40 + wl S)) (ro := none) (hd := hd) (al2 := al2) (lo2 := lo2) (S2 := (8, v, 0) :: (x1 f).2.1) hrf j1 (by rw [e1]) hv4 (by rw [e1]; exact hno) (Or.inl ⟨rfl, by rw [e1]; exact hvS⟩) (by rw [e1]; exact hWk) (by rw [e1]; exact hal) (by rw [e1]; exact hlo) (by
    rw [e1]
    intro π t g1 g2 _
    exact r2 π t g1 g2) (Or.inl ⟨rfl, fun w hw => by
    obtain ⟨a, b⟩ := w
    have e9 : a = vt (x f).1 v := (hWk.1 [] a b hw).1
    show y.1 a ≠ 5 ∧ y.1 a ≠ 6
    rw [e9]; exact ⟨k2, k3⟩⟩)
  rw [e1, ← hx1, kUx2] at r
  exact r
/-- LET of a reference -/
theorem kJ_letR (hcr : qCr y) (hrf : qRf y) (hJ : kJ y vt tb f x rt V) {k U m : Nat} {S : List tE} (hS : (x f).2.1 = (k, U, m) :: S) (hn : (x f).2.2.1 = 0) (hno : ∀ r m : Nat, (5, r, m) ∉ S ∧ (6, r, m) ∉ S) (hU : U < 10000) (hkt : (k = 1 ∧ vt (x f).1 v = 10000 + 2 * U) ∨ (k = 2 ∧ vt (x f).1 v = 10001 + 2 * U)) (hv4 : v < 40) (hvS : (8, v, 0) ∉ S) (hal : ∀ u : Nat, u ≠ v → al2 u → kal (x f) u) (hlo : ∀ (w : Nat) (π : lLc), w ≠ v → ¬ lo2 w π → ¬ klo (x f) w π) {hd : Nat → Prop} (hhd : ∀ κ : Nat, kH (x f) (40 + wl S) κ → hd κ) : ∃ a : lLc, kR (x f) (40 + wl S) = some a ∧ rt (f, 40 + wl S) = vt (x f).1 v ∧ (∃ z : Nat × Nat, V (f, 40 + wl S) [] = some z) ∧ kJ y vt tb f (kUx x f ((x f).1, (8, v, 0) :: S, 0, lUp (kR (x f)) v (some a), lUp (kH (x f)) v hd, al2, lo2, kAn (x f))) (qRt rt (f, v) (vt (x f).1 v)) (qUp (kCl V f (wl S)) (f, v) (V (f, 40 + wl S))) := by
  have hf := Nat.le_refl f
  have hcu := hcr U hU
  have hk0 : kNm (k, U, m) := by
    rcases hkt with ⟨rfl, -⟩ | ⟨rfl, -⟩ <;> (unfold kNm; simp)
  have hK := hJ.2.2.2.2.1 f hf
  rw [hS] at hK
  have hK1 : rt (f, 40 + wl S) = vt (x f).1 v ∧ ∃ w : Nat × Nat, V (f, 40 + wl S) [] = some w := by
    rcases hkt with ⟨rfl, e⟩ | ⟨rfl, e⟩
    · rw [e]; exact hK.1
    · rw [e]; exact hK.1
  obtain ⟨r1, ⟨t9, g9⟩, r2⟩ := hK1
  have h56 : (y.1 (vt (x f).1 v) = 5 ∨ y.1 (vt (x f).1 v) = 6) ∧ y.2.1 (vt (x f).1 v) = U := by
    rcases hkt with ⟨-, e⟩ | ⟨-, e⟩
    · rw [e]; exact ⟨Or.inl hcu.1, hcu.2.1⟩
    · rw [e]; exact ⟨Or.inr hcu.2.2.1, hcu.2.2.2⟩
  obtain ⟨h56, eU⟩ := h56
  have wS : wl (x f).2.1 = wl S + 1 := by rw [hS, wl_n hk0]
  have wB := hJ.2.2.2.2.2.2.2.2 f hf
  have hWk : qOk y (vt (x f).1 v) (V (f, 40 + wl S)) := by rw [← r1]; exact hJ.1 _
  have e9 : t9 = vt (x f).1 v := (hWk.1 [] t9 g9 r2).1
  have hks : kA (x f) (40 + wl S) := Or.inr ⟨by omega, by omega⟩
  obtain ⟨a, ea⟩ := hJ.2.2.2.1 f hf (40 + wl S) t9 g9 r2 (by rw [e9]; exact h56) hks
  obtain ⟨-, htg⟩ := hJ.2.2.1 f hf (40 + wl S) a hks ea
  rw [r1, eU] at htg
  have hE1 : ∀ e : tE, e ∈ [(k, U, m)] → kNm e := fun e he => by rw [List.mem_singleton.mp he]; exact hk0
  have j1 := kJ_pop hJ (E := [(k, U, m)]) (S := S) hS hE1 hn
  generalize hx1 : kUx x f ((x f).1, S, 0, kR (x f), kH (x f), kal (x f), klo (x f), kAn (x f)) = x1 at j1
  have e1 : x1 f = ((x f).1, S, 0, kR (x f), kH (x f), kal (x f), klo (x f), kAn (x f)) := by rw [← hx1, kUx_eq]
  obtain ⟨b1, b2⟩ := lBw_pop (A2 := fun u => ((u < 40 ∧ al2 u) ∨ (40 ≤ u ∧ u < 40 + wl S)) ∧ u ≠ v) (t := v) (un := y.1 (vt (x f).1 v) = 6) (hd := hd) (hJ.2.1.1 f hf) (fun u hu => by
    obtain ⟨hu, hne⟩ := hu
    rcases hu with ⟨g1, g2⟩ | ⟨g1, g2⟩
    · exact ⟨Or.inl ⟨g1, hal u hne g2⟩, by omega⟩
    · exact ⟨Or.inr ⟨g1, by omega⟩, by omega⟩) (by omega) hks ea (fun q => by show y.1 (rt (f, 40 + wl S)) = 6; rw [r1]; exact q) (fun l q => hhd l q) (lP_rf a)
  have fullW : ∀ (π : lLc) (t : Nat), qM π → qW y (vt (x f).1 v) π t → π = [] ∧ t = vt (x f).1 v := fun π t g1 g2 => by
    cases π with
    | nil => exact ⟨rfl, g2⟩
    | cons s π =>
      obtain ⟨q, i⟩ := s
      obtain ⟨g3, g4⟩ := qM_cons.mp g1
      obtain rfl : q = 0 := g3
      rcases h56 with h | h
      · exact absurd (h.symm.trans g2.1) (by decide)
      · exact absurd (h.symm.trans g2.1) (by decide)
  have r := kJ_set (v := v) (W := V (f, 40 + wl S)) (ro := some a) (hd := hd) (al2 := al2) (lo2 := lo2) (S2 := (8, v, 0) :: (x1 f).2.1) hrf j1 (by rw [e1]) hv4 (by rw [e1]; exact hno) (Or.inl ⟨rfl, by rw [e1]; exact hvS⟩) (by rw [e1]; exact hWk) (by rw [e1]; exact hal) (by rw [e1]; exact hlo) (by
    rw [e1]
    intro π t g1 g2 _
    obtain ⟨rfl, rfl⟩ := fullW π t g1 g2
    refine ⟨fun _ => ⟨_, r2⟩, fun q => ?_⟩
    rcases h56 with h | h
    · exact absurd (h.symm.trans q) (by decide)
    · exact absurd (h.symm.trans q) (by decide)) (Or.inr ⟨a, rfl, by rw [e1]; exact b1, by
      rw [e1]
      exact fun u hu hne => b2 u ⟨hu, hne⟩, by
      rw [e1]
      show qTg y rt (kCl V f (wl S)) a (y.2.1 (vt (x f).1 v))
      rw [eU]
      refine qTg_eq htg (fun r π _ _ hr => ⟨kCl_ge (fun g => ?_), rfl⟩)
      omega, by rw [e1]; exact h56⟩)
  rw [e1, ← hx1, kUx2] at r
  exact ⟨a, ea, r1, ⟨_, r2⟩, r⟩
/-- LET without a value -/
theorem kJ_let0 (hrf : qRf y) (hJ : kJ y vt tb f x rt V) {hd : Nat → Prop} (hn : (x f).2.2.1 = 0) (hno : ∀ r m : Nat, (5, r, m) ∉ (x f).2.1 ∧ (6, r, m) ∉ (x f).2.1) (hv4 : v < 40) (hvS : (8, v, 0) ∉ (x f).2.1) (hal : ∀ u : Nat, u ≠ v → al2 u → kal (x f) u) (hlo : ∀ (w : Nat) (π : lLc), w ≠ v → ¬ lo2 w π → ¬ klo (x f) w π) (hlv : ∀ (π : lLc) (t : Nat), qM π → qW y (vt (x f).1 v) π t → lo2 v π) : kJ y vt tb f (kUx x f ((x f).1, (8, v, 0) :: (x f).2.1, 0, lUp (kR (x f)) v none, lUp (kH (x f)) v hd, al2, lo2, kAn (x f))) (qRt rt (f, v) (vt (x f).1 v)) (qUp V (f, v) (fun _ => none)) := kJ_set hrf hJ hn hv4 hno (Or.inl ⟨rfl, hvS⟩) qOk_none hal hlo (fun π t g1 g2 g3 => absurd (hlv π t g1 g2) g3) (Or.inl ⟨rfl, fun w hw => by cases hw⟩)
end PS86
/-- variables w 0 .. w (n - 1) come, the stack is empty of values -/
noncomputable def nvN (F : Nat × Nat → List Nat) (f n : Nat) (w : Nat → Nat) (c : Nat → List Nat) : Nat × Nat → List Nat := fun r => if r.1 = f ∧ 40 ≤ r.2 then [] else if Classical.epsilon (fun b : Bool => b = true ↔ (r.1 = f ∧ ∃ i : Nat, i < n ∧ r.2 = w i)) = true then c (Classical.epsilon (fun i : Nat => i < n ∧ r.2 = w i)) else F r
section PS86b
variable {F : Nat × Nat → List Nat} {f n : Nat} {w : Nat → Nat} {c : Nat → List Nat}
theorem nvN_4 {u : Nat} (h : 40 ≤ u) : nvN F f n w c (f, u) = [] := if_pos ⟨rfl, h⟩
theorem nvN_i {i : Nat} (hi : i < n) (h4 : w i < 40) (hw : ∀ a b : Nat, a < n → b < n → w a = w b → a = b) : nvN F f n w c (f, w i) = c i := by
  unfold nvN
  rw [if_neg (fun q => by have q2 : 40 ≤ w i := q.2; omega), if_pos (eps_b.mpr ⟨rfl, i, hi, rfl⟩)]
  have h := Classical.epsilon_spec (p := fun i2 : Nat => i2 < n ∧ w i = w i2) ⟨i, hi, rfl⟩
  rw [← hw i _ hi h.1 h.2]
theorem nvN_o {r : Nat × Nat} (h : ¬ (r.1 = f ∧ ((∃ i : Nat, i < n ∧ r.2 = w i) ∨ 40 ≤ r.2))) : nvN F f n w c r = F r := by
  unfold nvN
  rw [if_neg (fun q => h ⟨q.1, Or.inr q.2⟩), if_neg (fun q => h (by obtain ⟨q1, q2⟩ := eps_b.mp q; exact ⟨q1, Or.inl q2⟩))]
end PS86b
