/-- some are told anew, one behind the other -/
def lUm {α : Type} (F : Nat → α) (w : Nat → Nat) (a : Nat → α) : Nat → Nat → α
  | 0 => F
  | m + 1 => lUp (lUm F w a m) (w m) (a m)
theorem lUm_o {α : Type} {F : Nat → α} {w : Nat → Nat} {a : Nat → α} {u : Nat} : ∀ {m : Nat}, (∀ i : Nat, i < m → u ≠ w i) → lUm F w a m u = F u
  | 0, _ => rfl
  | m + 1, h => by
    show lUp (lUm F w a m) (w m) (a m) u = _
    rw [lUp_ne (h m (by omega))]
    exact lUm_o (fun i hi => h i (by omega))
theorem lUm_i {α : Type} {F : Nat → α} {w : Nat → Nat} {a : Nat → α} {i : Nat} : ∀ {m : Nat}, i < m → (∀ p q : Nat, p < m → q < m → w p = w q → p = q) → lUm F w a m (w i) = a i
  | m + 1, hi, h => by
    show lUp (lUm F w a m) (w m) (a m) (w i) = _
    by_cases e : i = m
    · subst e; rw [lUp_eq]
    · rw [lUp_ne (fun z => e (h i m hi (by omega) z))]
      exact lUm_i (by omega) (fun p q hp hq => h p q (by omega) (by omega))
/-- marks of variables, the latest first -/
def bL8 (w : Nat → Nat) : Nat → List tE
  | 0 => []
  | m + 1 => (8, w m, 0) :: bL8 w m
theorem bL8_8 {w : Nat → Nat} : ∀ {m : Nat}, ∀ e ∈ bL8 w m, e.1 = 8
  | 0, e, he => by cases he
  | m + 1, e, he => by
    rcases List.mem_cons.mp he with q | q
    · rw [q]
    · exact bL8_8 e q
theorem bL8_m {w : Nat → Nat} {u : Nat} : ∀ {m : Nat}, (8, u, 0) ∈ bL8 w m ↔ ∃ i : Nat, i < m ∧ u = w i
  | 0 => ⟨fun h => (by cases h), fun ⟨_, h, _⟩ => (by omega)⟩
  | m + 1 => by
    show (8, u, 0) ∈ (8, w m, 0) :: bL8 w m ↔ _
    rw [List.mem_cons, bL8_m]
    constructor
    · rintro (q | ⟨i, i1, i2⟩)
      · exact ⟨m, by omega, (Prod.mk.inj (Prod.mk.inj q).2).1⟩
      · exact ⟨i, by omega, i2⟩
    · rintro ⟨i, i1, i2⟩
      by_cases e : i = m
      · subst e; rw [i2]; exact Or.inl rfl
      · exact Or.inr ⟨i, by omega, i2⟩
theorem bL8_wl {w : Nat → Nat} {r : List tE} : ∀ {m : Nat}, wl (bL8 w m ++ r) = wl r
  | 0 => rfl
  | m + 1 => by
    show wl ((8, w m, 0) :: (bL8 w m ++ r)) = _
    rw [wl_0 (Or.inl rfl), bL8_wl]
theorem bL8_l {w : Nat → Nat} : ∀ {m : Nat}, bL8 w m = ((List.range m).map w).reverse.map (fun v => (8, v, 0))
  | 0 => rfl
  | m + 1 => by
    show (8, w m, 0) :: bL8 w m = _
    rw [bL8_l, List.range_succ, List.map_append, List.reverse_append]
    rfl
theorem trL_8s {al : Nat → Prop} {r : List tE} : ∀ {E : List tE}, (∀ e ∈ E, e.1 = 8) → trL al (E ++ r) = E ++ trL al r
  | [], _ => rfl
  | e :: E, h => by
    have h0 := h e (List.mem_cons_self ..)
    show trE al (wl (E ++ r)) e :: trL al (E ++ r) = e :: (E ++ trL al r)
    rw [trL_8s (fun a ha => h a (List.mem_cons_of_mem _ ha)), trE_o (by omega) (by omega) (by omega) (by omega) (by omega)]
section PS91
variable {y : qY} {vt : Nat → Nat → Nat} {tb : Nat → lTb} {f : Nat} {x : Nat → kFm} {rt : Nat × Nat → Nat} {V : Nat × Nat → qV}
/-- a matched value's parts go into variables -/
theorem kJ_bnd {sh gg n : Nat} {w : Nat → Nat} {hd : Nat → Nat → Prop} {r : List tE} (hJ : kJ y vt tb f x rt V) (hn : (x f).2.2.1 = 0) (hS : (x f).2.1 = (0, 4 + sh, 0) :: r) (hmt : ∀ e : tE, e ∈ r → ¬ (e.1 = 4 ∨ e.1 = 5 ∨ e.1 = 6)) (hwr : wl r = 0) (hg : gg < 12) (h3 : y.1 (4 + sh) = 3) (hv : V (f, 40) [] = some (4 + sh, gg)) (hnn : n = y.2.2.2.1 (4 + sh) gg) (hw4 : ∀ i : Nat, i < n → w i < 40 ∧ (8, w i, 0) ∉ r ∧ vt (x f).1 (w i) = y.2.2.2.2 (4 + sh) gg i ∧ y.1 (vt (x f).1 (w i)) ≠ 5 ∧ y.1 (vt (x f).1 (w i)) ≠ 6) (hwi : ∀ a b : Nat, a < n → b < n → w a = w b → a = b) : ∀ m : Nat, m ≤ n → ∃ (rt2 : Nat × Nat → Nat) (V2 : Nat × Nat → qV), kJ y vt tb f (kUx x f ((x f).1, (4, sh * 12 + gg, m) :: (bL8 w m ++ r), 0, lUm (kR (x f)) w (fun _ => none) m, lUm (kH (x f)) w hd m, (fun u => kal (x f) u ∨ ∃ i : Nat, i < m ∧ u = w i), (fun u π => klo (x f) u π ∧ ¬ ∃ i : Nat, i < m ∧ u = w i), kAn (x f))) rt2 V2 ∧ (∀ i : Nat, m ≤ i → i < n → V2 (f, 400 + i) = qS (V (f, 40)) [(gg + 2, i)]) ∧ (∀ i : Nat, i < m → V2 (f, w i) = qS (V (f, 40)) [(gg + 2, i)] ∧ rt2 (f, w i) = vt (x f).1 (w i)) ∧ ∀ q : Nat × Nat, (q.1 ≠ f ∨ (q.2 < 40 ∧ ∀ i : Nat, i < m → q.2 ≠ w i)) → V2 q = V q ∧ rt2 q = rt q
  | 0, _ => by
    have j0 := kJ_sw0 hJ hn hS hmt hg h3 (by rw [hwr]; exact hv)
    rw [hwr] at j0
    refine ⟨kSt rt f (y.2.2.2.2 (4 + sh) gg), kSv V f 0 gg (y.2.2.2.1 (4 + sh) gg), ?_, fun i _ hi => kSv_p (V := V) (f := f) (w := 0) (g := gg) (n := y.2.2.2.1 (4 + sh) gg) (by rw [← hnn]; exact hi), fun i hi => absurd hi (Nat.not_lt_zero i), fun q hq => ?_⟩
    · have e1 : (fun u => kal (x f) u ∨ ∃ i : Nat, i < 0 ∧ u = w i) = kal (x f) := funext fun u => propext ⟨fun z => z.resolve_right (fun ⟨i, h, _⟩ => Nat.not_lt_zero i h), Or.inl⟩
      have e2 : (fun u π => klo (x f) u π ∧ ¬ ∃ i : Nat, i < 0 ∧ u = w i) = klo (x f) := funext fun u => funext fun π => propext ⟨fun z => z.1, fun z => ⟨z, fun ⟨i, h, _⟩ => Nat.not_lt_zero i h⟩⟩
      rw [e1, e2]
      exact j0
    · obtain ⟨q1, q2⟩ := q
      have hq : q1 ≠ f ∨ q2 < 400 := hq.imp id (fun z => by have : q2 < 40 := z.1; omega)
      rw [kSv_l hq, kSt_l hq]
      refine ⟨?_, rfl⟩
      rename_i hq0
      rcases hq0 with z | z
      · exact kCl_f z
      · by_cases c : q1 = f
        · subst c; exact kCl_out (Or.inl (by have : q2 < 40 := z.1; omega))
        · exact kCl_f c
  | m + 1, hm => by
    obtain ⟨rt2, V2, j2, F1, F2, F3⟩ := kJ_bnd (hd := hd) hJ hn hS hmt hwr hg h3 hv hnn hw4 hwi m (by omega)
    generalize hx2 : kUx x f ((x f).1, (4, sh * 12 + gg, m) :: (bL8 w m ++ r), 0, lUm (kR (x f)) w (fun _ => none) m, lUm (kH (x f)) w hd m, (fun u => kal (x f) u ∨ ∃ i : Nat, i < m ∧ u = w i), (fun u π => klo (x f) u π ∧ ¬ ∃ i : Nat, i < m ∧ u = w i), kAn (x f)) = x2 at j2
    have e2 : x2 f = ((x f).1, (4, sh * 12 + gg, m) :: (bL8 w m ++ r), 0, lUm (kR (x f)) w (fun _ => none) m, lUm (kH (x f)) w hd m, (fun u => kal (x f) u ∨ ∃ i : Nat, i < m ∧ u = w i), (fun u π => klo (x f) u π ∧ ¬ ∃ i : Nat, i < m ∧ u = w i), kAn (x f)) := by rw [← hx2, kUx_eq]
    obtain ⟨w1, w2, w3, w5, w6⟩ := hw4 m (by omega)
    obtain ⟨d1, d2⟩ := kR_row (sh := sh) hg
    have j3 := kJ_bind (v := w m) (r0 := sh * 12 + gg) (m := m) (r := bL8 w m ++ r) (hd := hd m) (al2 := fun u => kal (x f) u ∨ ∃ i : Nat, i < m + 1 ∧ u = w i) (lo2 := fun u π => klo (x f) u π ∧ ¬ ∃ i : Nat, i < m + 1 ∧ u = w i) j2 (by rw [e2]) (by rw [e2]) (fun e he => by
      rcases List.mem_append.mp he with z | z
      · rw [bL8_8 e z]; decide
      · exact hmt e z) w1 (fun z => by
      rcases List.mem_append.mp z with z | z
      · obtain ⟨i, i1, i2⟩ := bL8_m.mp z
        have := hwi m i (by omega) (by omega) i2
        omega
      · exact w2 z) (by rw [d1, d2, ← hnn]; omega) (by rw [d1, d2, e2]; exact w3) (by rw [e2]; exact ⟨w5, w6⟩) (by
      rw [e2]
      intro u hu z
      rcases z with z | ⟨i, i1, i2⟩
      · exact Or.inl z
      · by_cases c : i = m
        · subst c; exact absurd i2 hu
        · exact Or.inr ⟨i, by omega, i2⟩) (by
      rw [e2]
      intro u π hu z z2
      refine z ⟨z2.1, fun ⟨i, i1, i2⟩ => ?_⟩
      by_cases c : i = m
      · subst c; exact hu i2
      · exact z2.2 ⟨i, by omega, i2⟩)
    rw [e2, ← hx2, kUx2] at j3
    refine ⟨_, _, j3, fun i hi hin => ?_, fun i hi => ?_, fun q hq => ?_⟩
    · have n1 : ((f, 400 + i) : Nat × Nat) ≠ (f, w m) := fun z => by have := (Prod.mk.inj z).2; omega
      have n2 : ((f, 400 + i) : Nat × Nat) ≠ (f, 400 + m) := fun z => by have := (Prod.mk.inj z).2; omega
      rw [qUp_ne n1, qUp_ne n2]
      exact F1 i (by omega) hin
    · by_cases c : i = m
      · subst c
        rw [qUp_eq, qRt_eq]
        exact ⟨F1 i (Nat.le_refl _) (by omega), rfl⟩
      · have n1 : ((f, w i) : Nat × Nat) ≠ (f, w m) := fun z => c (hwi i m (by omega) (by omega) (Prod.mk.inj z).2)
        have n2 : ((f, w i) : Nat × Nat) ≠ (f, 400 + m) := fun z => by have := (Prod.mk.inj z).2; have := (hw4 i (by omega)).1; omega
        rw [qUp_ne n1, qUp_ne n2, qRt_ne n1]
        exact F2 i (by omega)
    · have n1 : q ≠ (f, w m) := fun z => by
        rw [z] at hq
        rcases hq with z | z
        · exact z rfl
        · exact z.2 m (by omega) rfl
      have n2 : q ≠ (f, 400 + m) := fun z => by
        rw [z] at hq
        rcases hq with z | z
        · exact z rfl
        · have z := z.1; have z : 400 + m < 40 := z; omega
      rw [qUp_ne n1, qUp_ne n2, qRt_ne n1]
      exact F3 q (hq.imp id (fun z => ⟨z.1, fun i hi => z.2 i (by omega)⟩))
end PS91
section PS91b
variable {K : Ky} {S : Sg} {L : List Nat}
/-- along, to behind a node -/
theorem alN {m b : Nat} (h : lkN (Zr S 63) L) (hm : m < 99) (hb : L[m]? = some b) : ∀ (d j c : Nat), m + 2 < j + d → j ≤ m → L[j]? = some c → f_along_5 K d S (nI (m + 1)) (nI c) (nI j) = some (S, Zr S 63 b)
  | 0, j, c, hd, hj, _ => by omega
  | d + 1, j, c, hd, hj, hc => by
    have hc4 := (h.1 c (List.mem_of_getElem? hc)).2
    unfold f_along_5
    rw [if_neg (fun w => by have := (nI_leI (by omega) (by omega)).mp w; omega), rI_n (show c < rlen 63 from hc4) (by decide)]
    simp only [Option.bind_some]
    rw [nI_1]
    by_cases e : j = m
    · subst e
      rw [hb] at hc
      cases hc
      obtain ⟨d2, rfl⟩ : ∃ d2 : Nat, d = d2 + 1 := ⟨d - 1, by omega⟩
      unfold f_along_5
      rw [if_pos (nI_le (Nat.le_refl _) (by omega))]
    · have hlt : j + 1 < L.length := by have := (List.getElem?_eq_some_iff.mp hb).1; omega
      have hn : L[j + 1]? = some L[j + 1] := List.getElem?_eq_getElem hlt
      rw [h.2 j c _ hc hn]
      exact alN h hm hb d (j + 1) _ (by omega) (by omega) hn
theorem alg1 {m a b : Nat} (h : lkN (Zr S 63) L) (hm : m < 99) (ha : L[0]? = some a) (hb : L[m]? = some b) : f_along K S (nI a) (nI (m + 1)) = some (S, Zr S 63 b) := by
  unfold f_along
  exact alN h hm hb bigN 0 a (by unfold bigN; omega) (Nat.zero_le _) ha
end PS91b
