section PS105
variable {y : qY} {vt : Nat → Nat → Nat} {tb : Nat → lTb} {f T m : Nat} {x : Nat → kFm} {rt : Nat × Nat → Nat} {V : Nat × Nat → qV} {al2 : Nat → Prop} {lo2 : Nat → lLc → Prop}
/-- return of a value -/
theorem kJ_retV (hJ : kJ y vt tb (f + 1) x rt V) (hS : (x (f + 1)).2.1 = [(0, T, m)]) (hT : T ≠ 0) (hl : wl (x f).2.1 < 211) (hal : ∀ u : Nat, al2 u → kal (x f) u) (hlo : ∀ (w : Nat) (π : lLc), ¬ lo2 w π → ¬ klo (x f) w π) : rt (f + 1, 40) = T ∧ kJ y vt tb f (kUx x f ((x f).1, (0, T, 0) :: (x f).2.1, 0, lUp (kR (x f)) (40 + wl (x f).2.1) none, kH (x f), al2, lo2, kAn (x f))) (qRt rt (f, 40 + wl (x f).2.1) T) (kRv V f (40 + wl (x f).2.1) (V (f + 1, 40))) := by
  have hK := hJ.2.2.2.2.1 (f + 1) (Nat.le_refl _)
  rw [hS] at hK
  obtain ⟨⟨k1, k2, k3, k4, k5⟩, -⟩ := hK
  obtain ⟨r1, r2⟩ := k4 hT
  have r1 : rt (f + 1, 40) = T := r1
  have hk1 : kNm (0, T, 0) := nm_0 rfl
  have hWk : qOk y T (V (f + 1, 40)) := by
    have := hJ.1 (f + 1, 40)
    rw [r1] at this; exact this
  have j := kJ_ret (e := (0, T, 0)) (t := T) (W := V (f + 1, 40)) (ro := none) (hd := kH (x f) (40 + wl (x f).2.1)) (al2 := al2) (lo2 := lo2) hJ hk1 hl hal hlo hWk (fun _ w hw => by
    obtain ⟨a, b⟩ := w
    have e9 : a = T := (hWk.1 [] a b hw).1
    show y.1 a ≠ 5 ∧ y.1 a ≠ 6
    rw [e9]; exact ⟨k2, k3⟩) (lIv_ret hJ hk1 hal) (fun a q => by simp at q) ⟨lUp_eq, k2, k3, fun _ => ⟨qRt_eq, by rw [kRv_eq]; exact r2⟩, fun q => absurd q hT⟩
  rw [lUp_self] at j
  exact ⟨r1, j⟩
/-- return of nothing -/
theorem kJ_ret0 (hy0 : y.1 0 = 0) (hJ : kJ y vt tb (f + 1) x rt V) (hl : wl (x f).2.1 < 211) (hal : ∀ u : Nat, al2 u → kal (x f) u) (hlo : ∀ (w : Nat) (π : lLc), ¬ lo2 w π → ¬ klo (x f) w π) : kJ y vt tb f (kUx x f ((x f).1, (x f).2.1, 0, lUp (kR (x f)) (40 + wl (x f).2.1) none, kH (x f), al2, lo2, kAn (x f))) (qRt rt (f, 40 + wl (x f).2.1) 0) (kRv V f (40 + wl (x f).2.1) (fun _ => none)) := by
  have hk1 : kNm (0, 0, 0) := nm_0 rfl
  have j := kJ_ret (e := (0, 0, 0)) (t := 0) (W := fun _ => none) (ro := none) (hd := kH (x f) (40 + wl (x f).2.1)) (al2 := al2) (lo2 := lo2) hJ hk1 hl hal hlo qOk_none (fun _ w hw => by simp at hw) (lIv_ret hJ hk1 hal) (fun a q => by simp at q) ⟨lUp_eq, by rw [hy0]; decide, by rw [hy0]; decide, fun q => absurd rfl q, fun _ π => by rw [kRv_eq]⟩
  rw [lUp_self] at j
  generalize hx1 : kUx x f ((x f).1, (0, 0, 0) :: (x f).2.1, 0, lUp (kR (x f)) (40 + wl (x f).2.1) none, kH (x f), al2, lo2, kAn (x f)) = x1 at j
  have e1 : x1 f = ((x f).1, (0, 0, 0) :: (x f).2.1, 0, lUp (kR (x f)) (40 + wl (x f).2.1) none, kH (x f), al2, lo2, kAn (x f)) := by rw [← hx1, kUx_eq]
  have j2 := kJ_pop j (E := [(0, 0, 0)]) (S := (x f).2.1) (by rw [e1]; rfl) (fun e he => by rw [List.mem_singleton.mp he]; exact hk1) (by rw [e1])
  rw [e1, ← hx1, kUx2] at j2
  have ev : kCl (kRv V f (40 + wl (x f).2.1) (fun _ => none)) f (wl (x f).2.1) = kRv V f (40 + wl (x f).2.1) (fun _ => none) := funext fun r => by
    by_cases c : r.1 = f ∧ 40 + wl (x f).2.1 ≤ r.2 ∧ r.2 < 300
    · rw [kCl_ze c]
      obtain ⟨ra, rb⟩ := r
      obtain ⟨c1, c2, c3⟩ := c
      have c1 : ra = f := c1
      subst c1
      by_cases c4 : rb = 40 + wl (x ra).2.1
      · rw [c4, kRv_eq]
      · rw [kRv_ne (by omega) (fun z => c4 (Prod.mk.inj z).2)]
        refine funext fun π => ?_
        cases hv : V (ra, rb) π with
        | none => rfl
        | some z =>
          exfalso
          have c2 : 40 + wl (x ra).2.1 ≤ rb := c2
          have c3 : rb < 300 := c3
          obtain ⟨_, kr, _⟩ := hJ.2.2.2.2.2.1 ra rb π z hv
          rcases kr with ⟨k1, _⟩ | ⟨k1, k2⟩ | ⟨k1, _⟩ | ⟨_, _, i, _, k1, _⟩ <;> omega
    · rw [kCl_ge c]
  rw [ev] at j2
  exact j2
/-- return of a reference -/
theorem kJ_retR (hcr : qCr y) (hJ : kJ y vt tb (f + 1) x rt V) {k U t n : Nat} {ou : Nat → Nat} (hS : (x (f + 1)).2.1 = [(k, U, m)]) (hl : wl (x f).2.1 < 211) (hU : U < 10000) (hkt : (k = 1 ∧ t = 10000 + 2 * U) ∨ (k = 2 ∧ t = 10001 + 2 * U)) (hxn : (x f).2.2.1 = n) (hAn : kAn (x (f + 1)) = kAo y (vt (x (f + 1)).1) (kR (x f)) (wl (x f).2.1) n ou) (hx1 : (x (f + 1)).2.2.1 = 0) {hd : Nat → Prop} (hal : ∀ u : Nat, al2 u → kal (x f) u) (hlo : ∀ (w : Nat) (π : lLc), ¬ lo2 w π → ¬ klo (x f) w π) (hcl : ∀ i : Nat, i < n → kR (x f) (40 + wl (x f).2.1 + i) ≠ none → kH (x (f + 1)) 40 (ou i) → ∀ l : Nat, kH (x f) (40 + wl (x f).2.1 + i) l → hd l) : ∃ a : lLc, kR (x (f + 1)) 40 = some a ∧ rt (f + 1, 40) = t ∧ (∃ (j v : Nat) (s : lLc), a = (j, v) :: s ∧ j ≤ f) ∧ kJ y vt tb f (kUx x f ((x f).1, (k, U, 0) :: (x f).2.1, 0, lUp (kR (x f)) (40 + wl (x f).2.1) (some a), lUp (kH (x f)) (40 + wl (x f).2.1) hd, al2, lo2, kAn (x f))) (qRt rt (f, 40 + wl (x f).2.1) t) (kRv V f (40 + wl (x f).2.1) (V (f + 1, 40))) := by
  have hf : f + 1 ≤ f + 1 := Nat.le_refl _
  have hcu := hcr U hU
  have hk0 : kNm (k, U, m) := pR_nm (by omega)
  have hk1 : kNm (k, U, 0) := pR_nm (by omega)
  have hK := hJ.2.2.2.2.1 (f + 1) hf
  rw [hS] at hK
  have hK1 : rt (f + 1, 40) = t ∧ ∃ w : Nat × Nat, V (f + 1, 40) [] = some w := by
    rcases hkt with ⟨rfl, e⟩ | ⟨rfl, e⟩
    · rw [e]; exact hK.1
    · rw [e]; exact hK.1
  obtain ⟨r1, ⟨t9, g9⟩, r2⟩ := hK1
  have h56 : y.1 t = 5 ∨ y.1 t = 6 := by
    rcases hkt with ⟨-, e⟩ | ⟨-, e⟩
    · rw [e]; exact Or.inl hcu.1
    · rw [e]; exact Or.inr hcu.2.2.1
  have wS : wl (x (f + 1)).2.1 = 1 := by rw [hS]; exact wl_n hk0
  have hWk : qOk y t (V (f + 1, 40)) := by rw [← r1]; exact hJ.1 _
  have e9 : t9 = t := (hWk.1 [] t9 g9 r2).1
  have hks : kA (x (f + 1)) 40 := Or.inr ⟨by omega, by omega⟩
  obtain ⟨a, ea⟩ := hJ.2.2.2.1 (f + 1) hf 40 t9 g9 r2 (by rw [e9]; exact h56) hks
  obtain ⟨-, htg⟩ := hJ.2.2.1 (f + 1) hf 40 a hks ea
  have htg : qTg y rt V a (y.2.1 (rt (f + 1, 40))) := htg
  rw [r1] at htg
  have ok : lOk (f + 1) (tb (x (f + 1)).1) (kAn (x (f + 1))) (kH (x (f + 1)) 40) (y.1 (rt (f + 1, 40)) = 6) a := (hJ.2.1.1 (f + 1) hf).1 40 a hks ea
  have key : ∃ (i : Nat) (e : lLc) (q : Nat), i < n ∧ kH (x (f + 1)) 40 (ou i) ∧ kR (x f) (40 + wl (x f).2.1 + i) = some e ∧ lP e a ∧ (y.1 t = 6 → y.1 (rt (f, 40 + wl (x f).2.1 + i)) = 6) ∧ lUn (f + 1) e := by
    rcases ok with ⟨l, n1, n2, n3, n4, n5⟩ | ⟨o, e, q, o1, o2, o3, o4, o5, o6⟩
    · exfalso
      obtain ⟨s, n4⟩ := n4
      obtain ⟨d, π, e1, d1, d2, d3⟩ := htg
      rw [n4] at e1
      have e1 : (f + 1, (tb (x (f + 1)).1).1 l) :: ((tb (x (f + 1)).1).2.1 l ++ s) = d :: π := e1
      injection e1 with e1 e2
      obtain ⟨σ, w, hw⟩ := qF_pl d3
      rw [← e1] at hw d1
      obtain ⟨-, kr, -⟩ := hJ.2.2.2.2.2.1 (f + 1) _ _ w hw
      have d1 : (tb (x (f + 1)).1).1 l < 40 := d1
      have hin : (8, (tb (x (f + 1)).1).1 l, 0) ∈ (x (f + 1)).2.1 := by
        rcases kr with ⟨-, kr⟩ | ⟨k1, k2⟩ | ⟨k1, -⟩ | ⟨r, m, i, -, k1, -⟩
        · exact kr
        · omega
        · omega
        · omega
      rw [hS] at hin
      exact hk0 (Or.inl (by rw [← List.mem_singleton.mp hin]))
    · have o3' := o3
      rw [hAn] at o3'
      obtain ⟨i, i1, i2, i3, i4⟩ := o3'
      refine ⟨i, e, q, i1, by rw [← i2]; exact o2, i3, o4, fun h6 => ?_, o6⟩
      have q1 : q = 1 := o5 (by rw [r1]; exact h6)
      obtain ⟨t', t40, tA, tR, tU⟩ := hJ.2.1.2.2 f (by omega) o e q o3
      have tU := tU q1
      by_cases et : t' = 40 + wl (x f).2.1 + i
      · rw [← et]; exact tU
      · exfalso
        have twA : (kfr y rt f (x f)).2.1 (40 + wl (x f).2.1 + i) := Or.inr ⟨by omega, by omega⟩
        rcases (hJ.2.1.1 f (by omega)).2 t' (40 + wl (x f).2.1 + i) e e et tA twA tR i3 (Or.inl tU) (Or.inl (lP_rf e)) with g | g
        · have := g.1; omega
        · have := g.1; omega
  obtain ⟨i, e, q9, i1, i2, i3, i4, i5, i6⟩ := key
  have hbw := lBw_res (A2 := fun u => (u < 40 ∧ al2 u) ∨ (40 ≤ u ∧ u < 40 + wl (x f).2.1)) (t := 40 + wl (x f).2.1) (w := 40 + wl (x f).2.1 + i) (c := a) (un := y.1 t = 6) (hd := hd) (hJ.2.1.1 f (by omega)) (fun u hu => by
    rcases hu with ⟨g1, g2⟩ | ⟨g1, g2⟩
    · exact ⟨Or.inl ⟨g1, hal u g2⟩, by omega⟩
    · exact ⟨Or.inr ⟨g1, by omega⟩, by omega⟩) (by omega) (Or.inr ⟨by omega, by omega⟩) i3 i5 (hcl i i1 (fun z => by rw [z] at i3; cases i3) i2) i4
  obtain ⟨b1, b2⟩ := hbw
  have lnew := lIv_new (A2 := fun u => (u < 40 ∧ al2 u) ∨ (40 ≤ u ∧ u < 40 + wl (x f).2.1)) (t := 40 + wl (x f).2.1) (a := a) (hd := hd) (un := y.1 t = 6) (hJ.2.1.1 f (by omega)) (fun u hu _ => by
    rcases hu with ⟨g1, g2⟩ | ⟨g1, g2⟩
    · exact Or.inl ⟨g1, hal u g2⟩
    · exact Or.inr ⟨g1, by omega⟩) b1 (fun u hu _ => b2 u hu)
  have lv : lIv f (tb (x f).1) (kAn (x f)) (kfr y (qRt rt (f, 40 + wl (x f).2.1) t) f ((x f).1, (k, U, 0) :: (x f).2.1, 0, lUp (kR (x f)) (40 + wl (x f).2.1) (some a), lUp (kH (x f)) (40 + wl (x f).2.1) hd, al2, lo2, kAn (x f))) := by
    refine lIv_mono2 lnew (fun u b hu hb => ⟨?_, hb⟩) (fun u b l hu hb hl => hl) (fun u b hu hb => ?_)
    · rcases hu with ⟨g1, g2⟩ | ⟨g1, g2⟩
      · exact Or.inl (Or.inl ⟨g1, g2⟩)
      · have g2 : u < 40 + wl ((k, U, 0) :: (x f).2.1) + 0 := g2
        rw [wl_n hk1] at g2
        by_cases e8 : u = 40 + wl (x f).2.1
        · exact Or.inr e8
        · exact Or.inl (Or.inr ⟨g1, by omega⟩)
    · show y.1 (qRt rt (f, 40 + wl (x f).2.1) t (f, u)) = 6 ↔ lUp (fun u => y.1 (rt (f, u)) = 6) (40 + wl (x f).2.1) (y.1 t = 6) u
      by_cases e8 : u = 40 + wl (x f).2.1
      · rw [e8, qRt_eq, lUp_eq]
      · rw [qRt_ne (fun q => e8 (by injection q)), lUp_ne e8]
  have hlow : ∃ (j v : Nat) (s : lLc), a = (j, v) :: s ∧ j ≤ f := by
    obtain ⟨j, v, r, e1, e2⟩ := i6
    obtain ⟨s, e3⟩ := i4
    refine ⟨j, v, r ++ s, ?_, by omega⟩
    rw [e3, e1]; rfl
  refine ⟨a, ea, r1, hlow, ?_⟩
  exact kJ_ret (e := (k, U, 0)) (t := t) (W := V (f + 1, 40)) (ro := some a) (hd := hd) (al2 := al2) (lo2 := lo2) hJ hk1 hl hal hlo hWk (fun g => by simp at g) lv (fun b g => by
    injection g with g
    rw [← g]
    exact ⟨h56, htg, hlow⟩) (by
    rcases hkt with ⟨rfl, e8⟩ | ⟨rfl, e8⟩
    · exact ⟨by rw [qRt_eq]; exact e8, by rw [kRv_eq]; exact ⟨_, r2⟩⟩
    · exact ⟨by rw [qRt_eq]; exact e8, by rw [kRv_eq]; exact ⟨_, r2⟩⟩)
end PS105
