-- f0.s1.lean.txt
section
/-- the route of a way: what is added ahead of each star, and behind the last one -/
def rtU (y : qY) (z : qZ) : Nat → Nat → lLc → List Nat × Nat
  | _, o, [] => ([], o)
  | T, o, (0, j) :: π => rtU y z (y.2.2.2.2 T 0 j) (o + z.2 T 0 j) π
  | T, o, (1, _) :: π => (o :: (rtU y z (y.2.1 T) 0 π).1, (rtU y z (y.2.1 T) 0 π).2)
  | T, o, (g + 2, j) :: π => rtU y z (y.2.2.2.2 T g j) (o + z.2 T g j) π
theorem rtF_A {y : qY} {z : qZ} {c : Nat → Int} : ∀ {π : lLc} {T o a : Nat}, qA y z c T (a + o) π = rA c a (rtU y z T o π).1 (rtU y z T o π).2
  | [], T, o, a => rfl
  | (0, j) :: π, T, o, a => by
    show qA y z c (y.2.2.2.2 T 0 j) (a + o + z.2 T 0 j) π = rA c a (rtU y z (y.2.2.2.2 T 0 j) (o + z.2 T 0 j) π).1 (rtU y z (y.2.2.2.2 T 0 j) (o + z.2 T 0 j) π).2
    rw [Nat.add_assoc]; exact rtF_A
  | (1, j) :: π, T, o, a => by
    show qA y z c (y.2.1 T) (c (a + o)).toNat π = rA c (c (a + o)).toNat (rtU y z (y.2.1 T) 0 π).1 (rtU y z (y.2.1 T) 0 π).2
    exact rtF_A (o := 0)
  | (g + 2, j) :: π, T, o, a => by
    show qA y z c (y.2.2.2.2 T g j) (a + o + z.2 T g j) π = rA c a (rtU y z (y.2.2.2.2 T g j) (o + z.2 T g j) π).1 (rtU y z (y.2.2.2.2 T g j) (o + z.2 T g j) π).2
    rw [Nat.add_assoc]; exact rtF_A
/-- cells that tell where they were read -/
def eC (M : Nat) : Nat → Int := fun k => ((M * (k + 1) : Nat) : Int)
theorem eC_S {M o o2 : Nat} {os : List Nat} : rA (eC M) 0 (os ++ [o]) o2 = M * (rA (eC M) 0 os o + 1) + o2 := by
  rw [rA_app]; show Int.toNat ((M * (rA (eC M) 0 os o + 1) : Nat) : Int) + o2 = _
  rw [Int.toNat_natCast]
theorem eC_inj {M : Nat} : ∀ (n : Nat) (os os2 : List Nat) (o o2 : Nat), os.length = n → (∀ x : Nat, x ∈ os → x < M) → (∀ x : Nat, x ∈ os2 → x < M) → o < M → o2 < M → rA (eC M) 0 os o = rA (eC M) 0 os2 o2 → os = os2 ∧ o = o2
  | 0, os, os2, o, o2, h0, h1, h2, h3, h4, h => by
    obtain rfl := List.eq_nil_of_length_eq_zero h0
    rcases List.eq_nil_or_concat os2 with e | ⟨l, b, e⟩
    · subst e
      have h : 0 + o = 0 + o2 := h
      exact ⟨rfl, by omega⟩
    · subst e
      rw [List.concat_eq_append, eC_S] at h
      have h : 0 + o = M * (rA (eC M) 0 l b + 1) + o2 := h
      rw [Nat.mul_add, Nat.mul_one] at h
      omega
  | n + 1, os, os2, o, o2, h0, h1, h2, h3, h4, h => by
    rcases List.eq_nil_or_concat os with e | ⟨l, b, e⟩
    · subst e; simp at h0
    · subst e
      rw [List.concat_eq_append] at h h0 h1 ⊢
      rw [eC_S] at h
      rcases List.eq_nil_or_concat os2 with e | ⟨l2, b2, e⟩
      · subst e
        have h : M * (rA (eC M) 0 l b + 1) + o = 0 + o2 := h
        rw [Nat.mul_add, Nat.mul_one] at h
        omega
      · subst e
        rw [List.concat_eq_append] at h h2 ⊢
        rw [eC_S] at h
        have hM : 0 < M := by omega
        have d1 : (M * (rA (eC M) 0 l b + 1) + o) / M = rA (eC M) 0 l b + 1 := by
          rw [Nat.mul_add_div hM, Nat.div_eq_of_lt h3, Nat.add_zero]
        have d2 : (M * (rA (eC M) 0 l2 b2 + 1) + o2) / M = rA (eC M) 0 l2 b2 + 1 := by
          rw [Nat.mul_add_div hM, Nat.div_eq_of_lt h4, Nat.add_zero]
        have e1 : rA (eC M) 0 l b = rA (eC M) 0 l2 b2 := by
          rw [h, d2] at d1; omega
        have e2 : o = o2 := by
          rw [e1] at h; omega
        have hl : l.length = n := by
          rw [List.length_append] at h0; simp at h0; exact h0
        obtain ⟨g1, g2⟩ := eC_inj n l l2 b b2 hl (fun x hx => h1 x (List.mem_append_left _ hx)) (fun x hx => h2 x (List.mem_append_left _ hx)) (h1 b (by simp)) (h2 b2 (by simp)) e1
        exact ⟨by rw [g1, g2], e2⟩
theorem ls_bd : ∀ (l : List Nat), ∃ M : Nat, ∀ x : Nat, x ∈ l → x < M
  | [] => ⟨0, fun x h => by simp at h⟩
  | a :: l => by
    obtain ⟨M, h⟩ := ls_bd l
    refine ⟨M + a + 1, fun x hx => ?_⟩
    rcases List.mem_cons.mp hx with e | e
    · omega
    · have := h x e; omega
theorem rA_inj {os os2 : List Nat} {o o2 : Nat} (h : ∀ (c : Nat → Int) (a : Nat), rA c a os o = rA c a os2 o2) : os = os2 ∧ o = o2 := by
  obtain ⟨M1, h1⟩ := ls_bd os
  obtain ⟨M2, h2⟩ := ls_bd os2
  exact eC_inj (M := M1 + M2 + o + o2 + 1) os.length os os2 o o2 rfl (fun x hx => by have := h1 x hx; omega) (fun x hx => by have := h2 x hx; omega) (by omega) (by omega) (h _ 0)
/-- the cells of a route's stars lie below n and hold numbers -/
def rOk (c : Nat → Int) (n : Nat) : Nat → List Nat → Prop
  | _, [] => True
  | a, x :: os => a + x < n ∧ (∃ b : Nat, c (a + x) = (b : Int) ∧ b < 2 ^ 31) ∧ rOk c n (c (a + x)).toNat os
section
variable {y : qY} {z : qZ} {hp n : Nat} {tk : Nat → Prop} {c : Nat → Int} {rt ra : Nat × Nat → Nat} {V : Nat × Nat → qV} {r : Nat × Nat}
theorem rW_ok (hm : qMm y z hp tk c rt ra V) (hlt : ∀ (π : lLc) (w : Nat × Nat), V r π = some w → qA y z c (rt r) (ra r) π < n) (hz : qLy y z) (hpn : hp < 2 ^ 31) : ∀ {π2 π1 : lLc} {T1 t a o : Nat}, qW y (rt r) π1 T1 → qW y T1 π2 t → qPl (V r) (π1 ++ π2) → a + o = qA y z c (rt r) (ra r) π1 → rOk c n a (rtU y z T1 o π2).1
  | [], π1, T1, t, a, o, _, _, _, _ => trivial
  | (0, j) :: π2, π1, T1, t, a, o, h1, h2, h3, h4 => by
    show rOk c n a (rtU y z (y.2.2.2.2 T1 0 j) (o + z.2 T1 0 j) π2).1
    have w : qW y T1 [(0, j)] (y.2.2.2.2 T1 0 j) := ⟨h2.1, h2.2.1, rfl⟩
    refine rW_ok hm hlt hz hpn (π1 := π1 ++ [(0, j)]) (qW_app h1 w) h2.2.2 (by rw [List.append_assoc]; exact h3) ?_
    rw [qA_app h1, ← h4]
    show a + (o + z.2 T1 0 j) = a + o + z.2 T1 0 j
    omega
  | (g + 2, j) :: π2, π1, T1, t, a, o, h1, h2, h3, h4 => by
    show rOk c n a (rtU y z (y.2.2.2.2 T1 g j) (o + z.2 T1 g j) π2).1
    have w : qW y T1 [(g + 2, j)] (y.2.2.2.2 T1 g j) := ⟨h2.1, h2.2.1, h2.2.2.1, rfl⟩
    refine rW_ok hm hlt hz hpn (π1 := π1 ++ [(g + 2, j)]) (qW_app h1 w) h2.2.2.2 (by rw [List.append_assoc]; exact h3) ?_
    rw [qA_app h1, ← h4]
    show a + (o + z.2 T1 g j) = a + o + z.2 T1 g j
    omega
  | (1, j) :: π2, π1, T1, t, a, o, h1, h2, h3, h4 => by
    obtain ⟨⟨t1, g1⟩, e1⟩ := qPl_par (hm.1 r) h3
    obtain rfl : t1 = T1 := qW_det ((hm.1 r).1 π1 t1 g1 e1).1 h1
    obtain ⟨b, b1, b2, -⟩ := (hm.2.1 r π1 t1 g1 e1).2 h2.2.1
    have p1 := hz.1 (y.2.1 t1)
    have e2 := hlt π1 _ e1
    have w : qW y t1 [(1, j)] (y.2.1 t1) := ⟨h2.1, h2.2.1, rfl⟩
    show a + o < n ∧ (∃ b : Nat, c (a + o) = (b : Int) ∧ b < 2 ^ 31) ∧ rOk c n (c (a + o)).toNat (rtU y z (y.2.1 t1) 0 π2).1
    refine ⟨by omega, ⟨b, by rw [h4]; exact b1, by omega⟩, ?_⟩
    refine rW_ok hm hlt hz hpn (π1 := π1 ++ [(1, j)]) (qW_app h1 w) h2.2.2 (by rw [List.append_assoc]; exact h3) ?_
    rw [qA_app h1, ← h4]
    rfl
/-- a place that holds something ends by n -/
theorem qEnd (hz : qLy y z) (hm : qMm y z hp tk c rt ra V) (hr : ∀ (π : lLc) (w : Nat × Nat), V r π = some w → ra r + z.1 (rt r) ≤ n) (hpn : hp ≤ n) {π : lLc} {T : Nat} (hw : qW y (rt r) π T) (hp1 : qPl (V r) π) : qA y z c (rt r) (ra r) π + z.1 T ≤ n := by
  rcases qN_last π with h | ⟨π1, j, π2, rfl, h⟩
  · have h2 := (qA_in (c := c) hz (a := ra r) hw h).2
    obtain ⟨σ, w, e⟩ := hp1
    have h3 := hr _ _ e
    omega
  · obtain ⟨⟨t1, g1⟩, e⟩ := qPl_par (hm.1 r) hp1
    obtain ⟨T1, w1, w2⟩ := qW_cut hw
    obtain rfl : t1 = T1 := qW_det ((hm.1 r).1 π1 t1 g1 e).1 w1
    obtain ⟨j0, k4, w3⟩ := w2
    obtain ⟨b, b1, b2, -⟩ := (hm.2.1 r π1 t1 g1 e).2 k4
    have h2 := (qA_in (c := c) hz (a := b) w3 h).2
    rw [qA_app w1]
    show qA y z c (y.2.1 t1) (c (qA y z c (rt r) (ra r) π1)).toNat π2 + z.1 T ≤ n
    rw [b1, Int.toNat_natCast]
    omega
/-- behind a star lie cells of the heap -/
theorem qEndH (hz : qLy y z) (hm : qMm y z hp tk c rt ra V) {π1 π2 : lLc} {j T : Nat} (hw : qW y (rt r) (π1 ++ (1, j) :: π2) T) (h : qN π2) (hp1 : qPl (V r) (π1 ++ (1, j) :: π2)) : qA y z c (rt r) (ra r) (π1 ++ (1, j) :: π2) + z.1 T ≤ hp := by
  obtain ⟨⟨t1, g1⟩, e⟩ := qPl_par (hm.1 r) hp1
  obtain ⟨T1, w1, w2⟩ := qW_cut hw
  obtain rfl : t1 = T1 := qW_det ((hm.1 r).1 π1 t1 g1 e).1 w1
  obtain ⟨j0, k4, w3⟩ := w2
  obtain ⟨b, b1, b2, -⟩ := (hm.2.1 r π1 t1 g1 e).2 k4
  have h2 := (qA_in (c := c) hz (a := b) w3 h).2
  rw [qA_app w1]
  show qA y z c (y.2.1 t1) (c (qA y z c (rt r) (ra r) π1)).toNat π2 + z.1 T ≤ hp
  rw [b1, Int.toNat_natCast]
  omega
end
end
-- f0.s2.lean.txt
section
/-- what is looked at of a frame: used variables, values, a matched reference -/
def lv2 (S : List tE) (al : Nat → Prop) (u : Nat) : Prop := (u < 40 ∧ al u) ∨ (40 ≤ u ∧ u < 40 + wl S) ∨ (u = 300 ∧ ∃ r m : Nat, (5, r, m) ∈ S ∨ (6, r, m) ∈ S)
theorem kUx2 {x : Nat → kFm} {f : Nat} {A B : kFm} : kUx (kUx x f A) f B = kUx x f B := funext fun j => by
  unfold kUx
  by_cases e : j = f
  · rw [if_pos e, if_pos e]
  · rw [if_neg e, if_neg e, if_neg e]
theorem lUp_self {α : Type} {g : Nat → α} {t : Nat} : lUp g t (g t) = g := funext fun u => by
  by_cases e : u = t
  · rw [e, lUp_eq]
  · rw [lUp_ne e]
def kS (y : qY) (z : qZ) (vt vo : Nat → Nat → Nat) (vc : Nat → Nat) (tb : Nat → lTb) (hp : Nat) (tk : Nat → Prop) (c : Nat → Int) (f : Nat) (x : Nat → kFm) (fb : Nat → Nat) (top : Nat) (fil : Nat → Nat → Nat → Prop) : Prop := ∃ (rt ra : Nat × Nat → Nat) (V : Nat × Nat → qV), kJ y vt tb f x rt V ∧ kL y z vt vo vc hp tk c f x rt ra V fb top fil
section
variable {y : qY} {z : qZ} {vt vo : Nat → Nat → Nat} {vc : Nat → Nat} {tb : Nat → lTb} {hp : Nat} {tk : Nat → Prop} {c c2 : Nat → Int} {f : Nat} {x : Nat → kFm} {rt ra : Nat × Nat → Nat} {V : Nat × Nat → qV} {fb : Nat → Nat} {top : Nat} {fil : Nat → Nat → Nat → Prop}
theorem kJ_wk2 (h : kJ y vt tb f x rt V) {H2 : Nat → Nat → Prop} {al2 : Nat → Prop} {lo2 : Nat → lLc → Prop} (hn : (x f).2.2.1 = 0) (hH : ∀ (u : Nat) (a : lLc) (l : Nat), lv2 (x f).2.1 al2 u → kR (x f) u = some a → kH (x f) u l → H2 u l) (hal : ∀ u : Nat, al2 u → kal (x f) u) (hlo : ∀ (v : Nat) (π : lLc), v < 40 → (8, v, 0) ∈ (x f).2.1 → klo (x f) v π → lo2 v π) : kJ y vt tb f (kUx x f ((x f).1, (x f).2.1, 0, kR (x f), H2, al2, lo2, kAn (x f))) rt V := by
  have hw := h
  obtain ⟨h0, h1, h2, h3, h4, h5, h6, h7, h8⟩ := h
  have hA : ∀ u : Nat, kA ((x f).1, (x f).2.1, 0, kR (x f), H2, al2, lo2, kAn (x f)) u → kA (x f) u := fun u hu => by
    rcases hu with ⟨a, b⟩ | ⟨a, b⟩
    · exact Or.inl ⟨a, hal u b⟩
    · exact Or.inr ⟨a, by rw [hn]; exact b⟩
  have hf := Nat.le_refl f
  refine kJ_top hw _ rfl rfl (fun j u hj => ⟨rfl, rfl⟩) (fun u => h0 (f, u)) (lIv_mono2 (h1.1 f hf) (fun u a hu ha => ⟨hA u hu, ha⟩) (fun u a l hu ha hl => hH u a l (hu.imp id Or.inl) ha hl) (fun u a _ _ => Iff.rfl)) (fun u a hu ha => h2 f hf u a (hA u hu) ha) (fun u t g hv hk hu => h3 f hf u t g hv hk (hA u hu)) (kK_cg (h4 f hf) (fun u _ => ⟨rfl, rfl, rfl⟩)) (fun u π z hz => (h5 f u π z hz).2) (fun v v4 hv => ⟨(h6 f hf v v4 hv).1, fun π T g1 g2 g3 => (h6 f hf v v4 hv).2 π T g1 g2 (fun q => g3 (hlo v π v4 hv q))⟩) (fun r m => ?_) (h8 f hf)
  have go : ∀ q : Nat, (∃ r m : Nat, (5, r, m) ∈ (x f).2.1 ∨ (6, r, m) ∈ (x f).2.1) → kPm y rt V f (tb (x f).1) (x f) q r m → kPm y rt V f (tb (x f).1) ((x f).1, (x f).2.1, 0, kR (x f), H2, al2, lo2, kAn (x f)) q r m := fun q hm hq => by
    have hq2 := hq
    obtain ⟨a0, π, p1, -⟩ := hq2
    exact kPm_cg hq rfl (fun u b a1 a2 => ⟨hA u a1, a2⟩) (fun _ _ _ _ => rfl) (fun l hl => hH 300 _ l (Or.inr (Or.inr ⟨rfl, hm⟩)) p1 hl) rfl (fun _ _ _ _ => ⟨rfl, rfl⟩)
  exact ⟨fun z => go 5 ⟨r, m, Or.inl z⟩ ((h7 f hf r m).1 z).2, fun z => go 6 ⟨r, m, Or.inr z⟩ ((h7 f hf r m).2 z).2⟩
theorem kL_wk (hJ : kJ y vt tb f x rt V) (h : kL y z vt vo vc hp tk c f x rt ra V fb top fil) {H2 : Nat → Nat → Prop} {al2 : Nat → Prop} {lo2 : Nat → lLc → Prop} (hn : (x f).2.2.1 = 0) (hal : ∀ u : Nat, al2 u → kal (x f) u) : kL y z vt vo vc hp tk c f (kUx x f ((x f).1, (x f).2.1, 0, kR (x f), H2, al2, lo2, kAn (x f))) rt ra V fb top fil := by
  have hL := h
  obtain ⟨l0, l1, l2, l3, l4, l5, l6, l7, l8, l9⟩ := h
  have hf := Nat.le_refl f
  refine kL_top hJ hL _ rfl l0 (fun j u hj => ⟨rfl, rfl, rfl⟩) (fun _ _ _ _ _ => rfl) (fun _ _ _ _ _ _ _ => rfl) (fun u a hu ha hw => l1 f hf u a ?_ ha hw) (l2 f hf) (l3 f hf) l6 (fun _ _ => rfl) (l7 f hf) (fun u π w u4 hw => l8 f u π w u4 hw) (l9 f hf)
  rcases hu with hu | hu
  · left
    rcases hu with ⟨a, b⟩ | ⟨a, b⟩
    · exact Or.inl ⟨a, hal u b⟩
    · exact Or.inr ⟨a, by rw [hn]; exact b⟩
  · exact Or.inr hu
theorem kS_wk (h : kS y z vt vo vc tb hp tk c f x fb top fil) {H2 : Nat → Nat → Prop} {al2 : Nat → Prop} {lo2 : Nat → lLc → Prop} (hn : (x f).2.2.1 = 0) (hH : ∀ (u : Nat) (a : lLc) (l : Nat), lv2 (x f).2.1 al2 u → kR (x f) u = some a → kH (x f) u l → H2 u l) (hal : ∀ u : Nat, al2 u → kal (x f) u) (hlo : ∀ (v : Nat) (π : lLc), v < 40 → (8, v, 0) ∈ (x f).2.1 → klo (x f) v π → lo2 v π) : kS y z vt vo vc tb hp tk c f (kUx x f ((x f).1, (x f).2.1, 0, kR (x f), H2, al2, lo2, kAn (x f))) fb top fil := by
  obtain ⟨rt, ra, V, hJ, hL⟩ := h
  exact ⟨rt, ra, V, kJ_wk2 hJ hn hH hal hlo, kL_wk hJ hL hn hal⟩
theorem kTopF (h : kL y z vt vo vc hp tk c f x rt ra V fb top fil) : hp ≤ fb f ∧ fb f ≤ top ∧ top = fb f + vc (x f).1 + khs z (x f).2.1 := by
  obtain ⟨l0, l1, l2, l3, l4, l5, l6, l7, l8, l9⟩ := h
  have := kFb0 l5 (Nat.le_refl f)
  exact ⟨by omega, by omega, l6⟩
/-- a root that no entry stands for is empty -/
theorem kNo (hJ : kJ y vt tb f x rt V) {u : Nat} (h : 40 + wl (x f).2.1 ≤ u) (h3 : u < 300) (π : lLc) : V (f, u) π = none := by
  cases e : V (f, u) π with
  | none => rfl
  | some w =>
    obtain ⟨-, q, -⟩ := hJ.2.2.2.2.2.1 f u π w e
    rcases q with ⟨q, -⟩ | ⟨q1, q2⟩ | ⟨q, -⟩ | ⟨r, m, i, -, q, -⟩ <;> omega
theorem qMm_cl (h : qMm y z hp tk c rt ra V) {n : Nat} : qMm y z hp tk c rt ra (kCl V f n) := by
  refine qMm_sub h (fun r => ?_) (fun r π w hw => ?_)
  · unfold kCl
    by_cases e : r.1 = f ∧ 40 + n ≤ r.2 ∧ r.2 < 300
    · rw [if_pos e]; exact qOk_none
    · rw [if_neg e]; exact h.1 r
  · unfold kCl at hw
    by_cases e : r.1 = f ∧ 40 + n ≤ r.2 ∧ r.2 < 300
    · rw [if_pos e] at hw; simp at hw
    · rw [if_neg e] at hw; exact hw
theorem kS_pop (h : kS y z vt vo vc tb hp tk c f x fb top fil) {E S : List tE} (hS : (x f).2.1 = E ++ S) (hE : ∀ e : tE, e ∈ E → kNm e) (hn : (x f).2.2.1 = 0) : kS y z vt vo vc tb hp tk c f (kUx x f ((x f).1, S, 0, kR (x f), kH (x f), kal (x f), klo (x f), kAn (x f))) fb (fb f + vc (x f).1 + khs z S) fil := by
  obtain ⟨rt, ra, V, hJ, hL⟩ := h
  exact ⟨rt, ra, kCl V f (wl S), kJ_pop hJ hS hE hn, kL_pop hJ hL hS hE hn (qMm_cl hL.1)⟩
/-- cells at the top and above may be written -/
theorem kTopC (hy : kYs y z vt vo vc) (hJ : kJ y vt tb f x rt V) (h : kL y z vt vo vc hp tk c f x rt ra V fb top fil) (hc : ∀ k : Nat, k < top → c2 k = c k) : ∀ (r : Nat × Nat) (π : lLc) (w : Nat × Nat), V r π = some w → c2 (qA y z c (rt r) (ra r) π) = c (qA y z c (rt r) (ra r) π) := fun r π w hw => hc _ (kLt hy hJ h hw)
/-- a root on top that is still empty: its type and address are free -/
theorem qMm_tp (hy : kYs y z vt vo vc) (hJ : kJ y vt tb f x rt V) (h : kL y z vt vo vc hp tk c f x rt ra V fb top fil) (hl : wl (x f).2.1 < 211) (hc : ∀ k : Nat, k < top → c2 k = c k) {t : Nat} : qMm y z hp tk c2 (qRt rt (f, 40 + wl (x f).2.1) t) (qRt ra (f, 40 + wl (x f).2.1) top) V ∧ hp ≤ qRt ra (f, 40 + wl (x f).2.1) top (f, 40 + wl (x f).2.1) ∧ ∀ (r : Nat × Nat) (π : lLc) (w : Nat × Nat), r ≠ (f, 40 + wl (x f).2.1) → V r π = some w → qRt ra (f, 40 + wl (x f).2.1) top r + z.1 (qRt rt (f, 40 + wl (x f).2.1) t r) ≤ top := by
  refine ⟨qMm_em (qMm_c h.1 (kTopC hy hJ h hc)) (fun r => ?_), ?_, fun r π w hr hw => ?_⟩
  · by_cases e : r = (f, 40 + wl (x f).2.1)
    · subst e
      exact Or.inl (fun π => kNo hJ (Nat.le_refl _) (by omega) π)
    · exact Or.inr ⟨qRt_ne e, qRt_ne e⟩
  · rw [qRt_eq]
    have := kTopF h
    omega
  · rw [qRt_ne hr, qRt_ne hr]
    exact (kTop hy.1 hy.2.1 hy.2.2.1 hJ h hw).2.1
/-- a plain value comes on top -/
theorem kS_push0 (hy : kYs y z vt vo vc) (h : kS y z vt vo vc tb hp tk c f x fb top fil) (hn : (x f).2.2.1 = 0) (hl : wl (x f).2.1 < 211) {e : tE} {t : Nat} (he : (∃ m : Nat, e = (0, t, m) ∧ t ≠ 0) ∨ (∃ gg m : Nat, e = (3, gg, m) ∧ t = 1 ∧ c2 top = (gg : Int))) (ht : y.1 t = 0) (hc : ∀ k : Nat, k < top → c2 k = c k) : kS y z vt vo vc tb hp tk c2 f (kUx x f ((x f).1, e :: (x f).2.1, 0, lUp (kR (x f)) (40 + wl (x f).2.1) none, kH (x f), kal (x f), klo (x f), kAn (x f))) fb (top + kes z e) fil := by
  obtain ⟨rt, ra, V, hJ, hL⟩ := h
  have hk : kNm e := by
    rcases he with ⟨m, rfl, -⟩ | ⟨gg, m, rfl, -⟩ <;> (unfold kNm; simp)
  have hu : qFu y t (qL t) := qFu_L (by rw [ht]; decide) (by rw [ht]; decide) (by rw [ht]; decide)
  have hnr : ∀ w : Nat × Nat, qL t [] = some w → y.1 w.1 ≠ 5 ∧ y.1 w.1 ≠ 6 := fun w hw => by
    have hw : some (t, 0) = some w := hw
    injection hw with hw
    subst hw
    rw [ht]; decide
  obtain ⟨q1, q2, q3⟩ := qMm_tp (t := t) hy hJ hL hl hc
  have q := qMm_pl q1 (d := (f, 40 + wl (x f).2.1)) (by rw [qRt_eq, ht]; decide) (by rw [qRt_eq, ht]; decide) (by rw [qRt_eq, ht]; decide) q2 (fun r π w hr hw => Or.inl (by rw [qRt_eq]; exact q3 r π w hr hw))
  rw [qRt_eq] at q
  have j := kJ_push (hd := kH (x f) (40 + wl (x f).2.1)) hJ hk hn hl hu.1 hnr (e := e) (t := t) (by
    rcases he with ⟨m, rfl, t0⟩ | ⟨gg, m, rfl, rfl, -⟩
    · refine ⟨lUp_eq, by rw [ht]; decide, by rw [ht]; decide, fun _ => ⟨qRt_eq, ?_⟩, fun q => absurd q t0⟩
      rw [qUp_eq]; exact hu.2
    · exact ⟨lUp_eq, qRt_eq, (1, 0), by rw [qUp_eq]; rfl⟩)
  have l := kL_push (ro := none) (hd := kH (x f) (40 + wl (x f).2.1)) (al2 := kal (x f)) (e := e) hy hJ hL hk hn (fun u q => q) q (kTopC hy hJ hL hc) (by
    rcases he with ⟨m, rfl, t0⟩ | ⟨gg, m, rfl, rfl, e1⟩
    · exact fun _ => qRt_eq
    · exact ⟨qRt_eq, e1⟩) (fun a q => by simp at q)
  rw [lUp_self] at j l
  exact ⟨_, _, _, j, l⟩
/-- a struct that has no member yet comes on top -/
theorem kS_push7 (hy : kYs y z vt vo vc) (h : kS y z vt vo vc tb hp tk c f x fb top fil) (hn : (x f).2.2.1 = 0) (hl : wl (x f).2.1 < 211) {t : Nat} (ht : y.1 t = 2) : kS y z vt vo vc tb hp tk c f (kUx x f ((x f).1, (7, t, 0) :: (x f).2.1, 0, lUp (kR (x f)) (40 + wl (x f).2.1) none, kH (x f), kal (x f), klo (x f), kAn (x f))) fb (top + kes z (7, t, 0)) fil := by
  obtain ⟨rt, ra, V, hJ, hL⟩ := h
  have hk : kNm (7, t, 0) := by unfold kNm; simp
  obtain ⟨q1, q2, q3⟩ := qMm_tp (c2 := c) (t := t) hy hJ hL hl (fun _ _ => rfl)
  have ev : qUp V (f, 40 + wl (x f).2.1) (fun _ => none) = V := funext fun r => by
    by_cases e : r = (f, 40 + wl (x f).2.1)
    · subst e; rw [qUp_eq]
      exact funext fun π => (kNo hJ (Nat.le_refl _) (by omega) π).symm
    · rw [qUp_ne e]
  have j := kJ_push (hd := kH (x f) (40 + wl (x f).2.1)) hJ hk hn hl (W := fun _ => none) (t := t) qOk_none (fun w hw => by simp at hw) (by
    refine ⟨lUp_eq, ht, qRt_eq, fun i hi hb => ?_⟩
    rw [Nat.zero_testBit] at hb
    exact absurd hb (by decide))
  have l := kL_push (ro := none) (hd := kH (x f) (40 + wl (x f).2.1)) (al2 := kal (x f)) (e := (7, t, 0)) (W := fun _ => none) hy hJ hL hk hn (fun u q => q) (by rw [ev]; exact q1) (fun _ _ _ _ => rfl) qRt_eq (fun a q => by simp at q)
  rw [lUp_self] at j l
  exact ⟨_, _, _, j, l⟩
end
end
-- f0.s3.lean.txt
section
/-- entries, the latest first -/
def dsl (e : Nat → tE) : Nat → List tE
  | 0 => []
  | n + 1 => e n :: dsl e n
theorem dsl_wl {e : Nat → tE} : ∀ n : Nat, (∀ i : Nat, i < n → kNm (e i)) → wl (dsl e n) = n
  | 0, _ => rfl
  | n + 1, h => by
    show wl (e n :: dsl e n) = n + 1
    rw [wl_n (h n (by omega)), dsl_wl n (fun i hi => h i (by omega))]
theorem dsl_nm {e : Nat → tE} : ∀ n : Nat, (∀ i : Nat, i < n → kNm (e i)) → ∀ a : tE, a ∈ dsl e n → kNm a
  | 0, _, a, h => by simp [dsl] at h
  | n + 1, h, a, ha => by
    rcases List.mem_cons.mp (show a ∈ e n :: dsl e n from ha) with q | q
    · rw [q]; exact h n (by omega)
    · exact dsl_nm n (fun i hi => h i (by omega)) a q
theorem dsl_ps {F X : tF} {r : Nat} : ∀ n : Nat, tPs F X r n = dsl (fun i => tNf F (cN (X 2 (r * 12 + i)))) n
  | 0 => rfl
  | n + 1 => congrArg _ (dsl_ps n)
theorem dsl_as {F : tF} {G : Nat → Nat → Nat} {g : Nat} : ∀ n : Nat, tAs F G g n = dsl (fun i => tNf F (G g (i + 2))) n
  | 0 => rfl
  | n + 1 => congrArg _ (dsl_as n)
section
variable {y : qY} {z : qZ} {vt vo : Nat → Nat → Nat} {vc : Nat → Nat} {tb : Nat → lTb} {hp : Nat} {tk tk2 : Nat → Prop} {c c2 : Nat → Int} {f : Nat} {x : Nat → kFm} {rt ra : Nat × Nat → Nat} {V : Nat × Nat → qV} {fb : Nat → Nat} {top : Nat} {fil : Nat → Nat → Nat → Prop}
theorem dsl_K {j : Nat} {xx : kFm} {e : Nat → tE} {S : List tE} : ∀ n : Nat, (∀ i : Nat, i < n → kNm (e i)) → kK y rt V j xx (dsl e n ++ S) → ∀ i : Nat, i < n → kE y rt V j xx (wl S + i) (e i)
  | 0, _, _, i, hi => absurd hi (by omega)
  | n + 1, h, hk, i, hi => by
    have hk : kE y rt V j xx (wl (dsl e n ++ S)) (e n) ∧ kK y rt V j xx (dsl e n ++ S) := hk
    by_cases q : i = n
    · rw [q]
      have h1 := hk.1
      rw [wl_app, dsl_wl n (fun i hi => h i (by omega)), Nat.add_comm] at h1
      exact h1
    · exact dsl_K n (fun i hi => h i (by omega)) hk.2 i (by omega)
theorem dsl_A {j B : Nat} {e : Nat → tE} {S : List tE} : ∀ n : Nat, (∀ i : Nat, i < n → kNm (e i)) → kAk y z c ra j B (dsl e n ++ S) → ∀ i : Nat, i < n → kAe y z c ra j (B + khs z (dsl e i ++ S)) (wl S + i) (e i)
  | 0, _, _, i, hi => absurd hi (by omega)
  | n + 1, h, hk, i, hi => by
    have hk : kAe y z c ra j (B + khs z (dsl e n ++ S)) (wl (dsl e n ++ S)) (e n) ∧ kAk y z c ra j B (dsl e n ++ S) := hk
    by_cases q : i = n
    · rw [q]
      have h1 := hk.1
      rw [wl_app, dsl_wl n (fun i hi => h i (by omega)), Nat.add_comm n] at h1
      exact h1
    · exact dsl_A n (fun i hi => h i (by omega)) hk.2 i (by omega)
/-- tokens stand on the stack as numbers: told as tokens -/
theorem kS_rtl (h1 : y.1 1 = 0) (h3 : y.1 3 = 0) (hz : z.1 1 = z.1 3) {e e2 : Nat → tE} : ∀ (n : Nat) {x : Nat → kFm} {P S : List tE}, (∀ i : Nat, i < n → e i = e2 i ∨ (e i = (0, 1, 0) ∧ e2 i = (0, 3, 0))) → (x f).2.1 = P ++ (dsl e n ++ S) → kS y z vt vo vc tb hp tk c f x fb top fil → kS y z vt vo vc tb hp tk c f (kUx x f ((x f).1, P ++ (dsl e2 n ++ S), (x f).2.2.1, kR (x f), kH (x f), kal (x f), klo (x f), kAn (x f))) fb top fil
  | 0, x, P, S, _, hS, h => by
    have q : kUx x f ((x f).1, P ++ (dsl e2 0 ++ S), (x f).2.2.1, kR (x f), kH (x f), kal (x f), klo (x f), kAn (x f)) = x := funext fun j => by
      by_cases e : j = f
      · subst e
        rw [kUx_eq]
        show ((x j).1, P ++ ([] ++ S), (x j).2.2.1, kR (x j), kH (x j), kal (x j), klo (x j), kAn (x j)) = x j
        rw [show P ++ ([] ++ S) = (x j).2.1 from hS.symm]
        rfl
      · rw [kUx_ne e]
    rw [q]; exact h
  | n + 1, x, P, S, he, hS, h => by
    have hS1 : (x f).2.1 = P ++ e n :: (dsl e n ++ S) := hS
    have go : kS y z vt vo vc tb hp tk c f (kUx x f ((x f).1, P ++ e2 n :: (dsl e n ++ S), (x f).2.2.1, kR (x f), kH (x f), kal (x f), klo (x f), kAn (x f))) fb top fil := by
      rcases he n (by omega) with q | ⟨q1, q2⟩
      · rw [← q, ← hS1]
        have q : kUx x f ((x f).1, (x f).2.1, (x f).2.2.1, kR (x f), kH (x f), kal (x f), klo (x f), kAn (x f)) = x := funext fun j => by
          by_cases e : j = f
          · subst e; rw [kUx_eq]; rfl
          · rw [kUx_ne e]
        rw [q]; exact h
      · rw [q2]
        rw [q1] at hS1
        obtain ⟨rt, ra, V, hJ, hL⟩ := h
        exact ⟨_, _, _, kJ_rty hJ hS1 ⟨by rw [h3]; decide, by rw [h3]; decide, by rw [h3]; decide, by rw [h3]; decide, by rw [h3]; decide⟩ (by decide), kL_rty hJ hL hS1 ⟨by rw [h3]; decide, by rw [h3]; decide, by rw [h3]; decide, by rw [h3]; decide, by rw [h3]; decide⟩ (by decide) (by decide) (by rw [h1]; decide) hz⟩
    have r := kS_rtl h1 h3 hz n (x := kUx x f ((x f).1, P ++ e2 n :: (dsl e n ++ S), (x f).2.2.1, kR (x f), kH (x f), kal (x f), klo (x f), kAn (x f))) (P := P ++ [e2 n]) (S := S) (fun i hi => he i (by omega)) (by rw [kUx_eq, List.append_assoc]; rfl) go
    rw [kUx2, kUx_eq, List.append_assoc] at r
    exact r
/-- a cell of what lies there is no free cell of the heap -/
theorem qTk (hz : qLy y z) (h : qMm y z hp tk c rt ra V) {r : Nat × Nat} {π : lLc} {w : Nat × Nat} (hx : V r π = some w) : hp ≤ qA y z c (rt r) (ra r) π ∨ tk (qA y z c (rt r) (ra r) π) := by
  obtain ⟨t, g⟩ := w
  obtain ⟨m1, m2, m3, m4, m5⟩ := h
  have w1 := ((m1 r).1 π t g hx).1
  have p1 := hz.1 t
  rcases qN_last π with nπ | ⟨π1, i, π2, rfl, nπ⟩
  · have i2 := qA_in (c := c) hz (a := ra r) w1 nπ
    have := m4 r π _ hx
    exact Or.inl (by omega)
  · obtain ⟨t1, g1, k1, k2, k3, k4, k5⟩ := qH (z := z) (c := c) (m1 r) (σ := []) (by rw [List.append_nil]; exact hx) w1
    obtain ⟨b, b1, b2, b3⟩ := (m2 r π1 t1 g1 k1).2 k2
    have k6 := k5 (ra r)
    rw [b1] at k6
    have i2 := qA_in (c := c) hz (a := b) k4 nπ
    have k7 : qA y z c (rt r) (ra r) (π1 ++ (1, i) :: π2) = qA y z c (y.2.1 t1) b π2 := k6
    rw [k7]
    exact Or.inr (b3 _ i2.1 (by omega))
/-- the latest values go, another comes in their place -/
theorem kS_pp (hy : kYs y z vt vo vc) (hJ : kJ y vt tb f x rt V) (hL : kL y z vt vo vc hp tk c f x rt ra V fb top fil) {E S : List tE} (hS : (x f).2.1 = E ++ S) (hE : ∀ e : tE, e ∈ E → kNm e) (hn : (x f).2.2.1 = 0) (hl : wl S < 211) {e : tE} {t : Nat} {W : qV} (hW : qOk y t W) (he : (∃ m : Nat, e = (0, t, m) ∧ t ≠ 0 ∧ y.1 t ≠ 5 ∧ y.1 t ≠ 6 ∧ qF y W [] t) ∨ (∃ m : Nat, e = (7, t, m) ∧ y.1 t = 2 ∧ ∀ i : Nat, i < y.2.2.2.1 t 0 → m.testBit i = true → qF y W [(0, i)] (y.2.2.2.2 t 0 i))) (q : qMm y z hp tk2 c2 (qRt rt (f, 40 + wl S) t) (qRt ra (f, 40 + wl S) (fb f + vc (x f).1 + khs z S)) (qUp (kCl V f (wl S)) (f, 40 + wl S) W)) (hc : ∀ (r : Nat × Nat) (π : lLc) (w : Nat × Nat), kCl V f (wl S) r π = some w → c2 (qA y z c (rt r) (ra r) π) = c (qA y z c (rt r) (ra r) π)) : kS y z vt vo vc tb hp tk2 c2 f (kUx x f ((x f).1, e :: S, 0, lUp (kR (x f)) (40 + wl S) none, kH (x f), kal (x f), klo (x f), kAn (x f))) fb (fb f + vc (x f).1 + khs z S + kes z e) fil := by
  have j1 := kJ_pop hJ hS hE hn
  have l1 := kL_pop hJ hL hS hE hn (qMm_cl hL.1)
  generalize hx1 : kUx x f ((x f).1, S, 0, kR (x f), kH (x f), kal (x f), klo (x f), kAn (x f)) = x1 at j1 l1
  have e1 : x1 f = ((x f).1, S, 0, kR (x f), kH (x f), kal (x f), klo (x f), kAn (x f)) := by rw [← hx1, kUx_eq]
  have hk : kNm e := by
    rcases he with ⟨m, rfl, -⟩ | ⟨m, rfl, -⟩ <;> (unfold kNm; simp)
  have eS : (x1 f).2.1 = S := by rw [e1]
  have hty : ∀ w : Nat × Nat, W [] = some w → w.1 = t := fun w hw => by
    obtain ⟨a, b⟩ := w
    exact (show a = t from (hW.1 [] a b hw).1)
  have j := kJ_push (hd := kH (x1 f) (40 + wl (x1 f).2.1)) j1 hk (by rw [e1]) (by rw [eS]; exact hl) hW (fun w hw => by
    rw [hty w hw]
    rcases he with ⟨m, -, -, h5, h6, -⟩ | ⟨m, -, h2, -⟩
    · exact ⟨h5, h6⟩
    · rw [h2]; decide) (e := e) (by
    rcases he with ⟨m, rfl, t0, h5, h6, hq⟩ | ⟨m, rfl, h2, hq⟩
    · refine ⟨lUp_eq, h5, h6, fun _ => ⟨qRt_eq, ?_⟩, fun q => absurd q t0⟩
      rw [qUp_eq]; exact hq
    · refine ⟨lUp_eq, h2, qRt_eq, fun i hi hb => ?_⟩
      rw [qUp_eq]; exact hq i hi hb)
  have l := kL_push (ro := none) (hd := kH (x1 f) (40 + wl (x1 f).2.1)) (al2 := kal (x1 f)) (e := e) (t := t) (W := W) (tk2 := tk2) (c2 := c2) hy j1 l1 hk (by rw [e1]) (fun u q => q) (by rw [eS]; exact q) hc (by
    rcases he with ⟨m, rfl, -⟩ | ⟨m, rfl, -⟩
    · exact fun _ => qRt_eq
    · exact qRt_eq) (fun a q => by simp at q)
  rw [lUp_self] at j l
  rw [e1, ← hx1, kUx2] at j l
  exact ⟨_, _, _, j, l⟩
/-- plain values go, a plain one comes -/
theorem kS_op (hy : kYs y z vt vo vc) (h : kS y z vt vo vc tb hp tk c f x fb top fil) {E S : List tE} (hS : (x f).2.1 = E ++ S) (hE : ∀ e : tE, e ∈ E → kNm e) (hn : (x f).2.2.1 = 0) (hl : wl S < 211) {t : Nat} (t0 : t ≠ 0) (ht : y.1 t = 0) (hc : ∀ k : Nat, k < fb f + vc (x f).1 + khs z S → c2 k = c k) : kS y z vt vo vc tb hp tk c2 f (kUx x f ((x f).1, (0, t, 0) :: S, 0, lUp (kR (x f)) (40 + wl S) none, kH (x f), kal (x f), klo (x f), kAn (x f))) fb (fb f + vc (x f).1 + khs z S + z.1 t) fil := by
  have h1 := kS_pop h hS hE hn
  generalize hx1 : kUx x f ((x f).1, S, 0, kR (x f), kH (x f), kal (x f), klo (x f), kAn (x f)) = x1 at h1
  have e1 : x1 f = ((x f).1, S, 0, kR (x f), kH (x f), kal (x f), klo (x f), kAn (x f)) := by rw [← hx1, kUx_eq]
  have h2 := kS_push0 (c2 := c2) hy h1 (by rw [e1]) (by rw [e1]; exact hl) (e := (0, t, 0)) (t := t) (Or.inl ⟨0, rfl, t0⟩) ht hc
  rw [e1, ← hx1, kUx2] at h2
  have hk : kes z (0, t, 0) = z.1 t := if_neg t0
  rw [hk] at h2
  exact h2
end
end
-- f0.s4.lean.txt
section
theorem kCl_le {V : Nat × Nat → qV} {f n : Nat} {r : Nat × Nat} {π : lLc} {w : Nat × Nat} (h : kCl V f n r π = some w) : V r π = some w ∧ ¬ (r.1 = f ∧ 40 + n ≤ r.2 ∧ r.2 < 300) := by
  unfold kCl at h
  by_cases e : r.1 = f ∧ 40 + n ≤ r.2 ∧ r.2 < 300
  · rw [if_pos e] at h; simp at h
  · rw [if_neg e] at h; exact ⟨h, e⟩
theorem kCl_ge {V : Nat × Nat → qV} {f n : Nat} {r : Nat × Nat} (h : ¬ (r.1 = f ∧ 40 + n ≤ r.2 ∧ r.2 < 300)) : kCl V f n r = V r := if_neg h
theorem kCl_ze {V : Nat × Nat → qV} {f n : Nat} {r : Nat × Nat} (h : r.1 = f ∧ 40 + n ≤ r.2 ∧ r.2 < 300) : kCl V f n r = fun _ => none := if_pos h
theorem qRt_id {g : Nat × Nat → Nat} {r : Nat × Nat} {a : Nat} (h : g r = a) : qRt g r a = g := funext fun q => by
  by_cases e : q = r
  · rw [e, qRt_eq, h]
  · rw [qRt_ne e]
def psum (z : qZ) (p : Nat → Nat) : Nat → Nat
  | 0 => 0
  | n + 1 => psum z p n + z.1 (p n)
theorem psum_hs {z : qZ} {p : Nat → Nat} {S : List tE} : ∀ n : Nat, (∀ i : Nat, i < n → p i ≠ 0) → khs z (dsl (fun i => (0, p i, 0)) n ++ S) = khs z S + psum z p n
  | 0, _ => rfl
  | n + 1, h => by
    show khs z (dsl (fun i => (0, p i, 0)) n ++ S) + kes z (0, p n, 0) = khs z S + (psum z p n + z.1 (p n))
    rw [psum_hs n (fun i hi => h i (by omega)), show kes z (0, p n, 0) = z.1 (p n) from if_neg (h n (by omega))]
    omega
section
variable {y : qY} {z : qZ} {vt vo : Nat → Nat → Nat} {vc : Nat → Nat} {tb : Nat → lTb} {hp : Nat} {tk tk2 : Nat → Prop} {c c2 : Nat → Int} {f : Nat} {x : Nat → kFm} {rt ra : Nat × Nat → Nat} {V : Nat × Nat → qV} {fb : Nat → Nat} {top : Nat} {fil : Nat → Nat → Nat → Prop}
theorem kAk_ap {j B : Nat} : ∀ {E S : List tE}, kAk y z c ra j B (E ++ S) → kAk y z c ra j B S
  | [], S, h => h
  | e :: E, S, h => kAk_ap (E := E) h.2
theorem kCl_one (hJ : kJ y vt tb f x rt V) {e : tE} {S : List tE} {W : qV} (hS : (x f).2.1 = e :: S) (he : kNm e) : qUp (kCl V f (wl S)) (f, 40 + wl S) W = qUp V (f, 40 + wl S) W := funext fun r => by
  by_cases q : r = (f, 40 + wl S)
  · rw [q, qUp_eq, qUp_eq]
  · rw [qUp_ne q, qUp_ne q]
    by_cases g : r.1 = f ∧ 40 + wl S ≤ r.2 ∧ r.2 < 300
    · rw [kCl_ze g]
      obtain ⟨a, b⟩ := r
      obtain ⟨rfl, g2, g3⟩ := g
      refine funext fun π => (kNo hJ (u := b) ?_ g3 π).symm
      rw [hS, wl_n he]
      have g2 : 40 + wl S ≤ b := g2
      have : b ≠ 40 + wl S := fun e => q (by rw [e])
      omega
    · rw [kCl_ge g]
theorem kS_box (hy : kYs y z vt vo vc) (h : kS y z vt vo vc tb hp tk c f x fb top fil) {T U m b : Nat} {S : List tE} (hS : (x f).2.1 = (0, T, m) :: S) (hn : (x f).2.2.1 = 0) (hl : wl S < 211) (hT : T ≠ 0) (hU0 : U ≠ 0) (h4 : y.1 U = 4) (hof : y.2.1 U = T) (hz1 : z.1 U = 1) (hb1 : b + z.1 T ≤ hp) (hb2 : ∀ k : Nat, b ≤ k → k < b + z.1 T → tk2 k ∧ ¬ tk k) (htk : ∀ k : Nat, tk k → tk2 k) (e1 : ∀ o : Nat, o < z.1 T → c2 (b + o) = c (fb f + vc (x f).1 + khs z S + o)) (e2 : c2 (fb f + vc (x f).1 + khs z S) = (b : Int)) (e3 : ∀ k : Nat, k ≠ fb f + vc (x f).1 + khs z S → ¬ (b ≤ k ∧ k < b + z.1 T) → c2 k = c k) : kS y z vt vo vc tb hp tk2 c2 f (kUx x f ((x f).1, (0, U, 0) :: S, 0, lUp (kR (x f)) (40 + wl S) none, kH (x f), kal (x f), klo (x f), kAn (x f))) fb (fb f + vc (x f).1 + khs z S + 1) fil := by
  obtain ⟨rt, ra, V, hJ, hL⟩ := h
  have hf := Nat.le_refl f
  have hk : kNm (0, T, m) := by unfold kNm; simp
  have hK := hJ.2.2.2.2.1 f hf
  rw [hS] at hK
  obtain ⟨⟨k1, k2, k3, k4, k5⟩, -⟩ := hK
  obtain ⟨r1, r2⟩ := k4 hT
  have hA := hL.2.2.1 f hf
  rw [hS] at hA
  have a1 : ra (f, 40 + wl S) = fb f + vc (x f).1 + khs z S := hA.1 hT
  have hq := qMm_bx (tk2 := tk2) (c2 := c2) hy.1 hL.1 (s := (f, 40 + wl S)) (t := U) (b := b) (by rw [r1]; exact r2) (qF_pl r2) h4 (hof.trans r1.symm) hz1 (by rw [r1]; exact hb1) (by rw [r1]; exact hb2) htk (by rw [r1, a1]; exact e1) (by rw [a1]; exact e2) (by rw [r1, a1]; exact e3)
  have hu : qFu y U (qB U (V (f, 40 + wl S))) := qFu_B h4 (by rw [hof, ← r1]; exact ⟨hL.1.1 _, by rw [r1]; exact r2⟩)
  have hE1 : ∀ e : tE, e ∈ [(0, T, m)] → kNm e := fun e he => by rw [List.mem_singleton.mp he]; exact hk
  have r := kS_pp (tk2 := tk2) (c2 := c2) hy hJ hL (E := [(0, T, m)]) (S := S) hS hE1 hn hl (t := U) (e := (0, U, 0)) hu.1 (Or.inl ⟨0, rfl, hU0, by rw [h4]; decide, by rw [h4]; decide, hu.2⟩) (by rw [qRt_id a1, kCl_one hJ hS hk]; exact hq) (fun r π w hw => by
    have g1 := kLt hy (kJ_pop hJ (E := [(0, T, m)]) (S := S) hS hE1 hn) (kL_pop hJ hL (E := [(0, T, m)]) (S := S) hS hE1 hn (qMm_cl hL.1)) hw
    refine e3 _ (by omega) (fun g2 => ?_)
    rcases qTk hy.1 hL.1 (kCl_le hw).1 with g3 | g3
    · omega
    · exact (hb2 _ g2.1 g2.2).2 g3)
  rw [show kes z (0, U, 0) = 1 from (if_neg hU0).trans hz1] at r
  exact r
/-- a member is put into its struct -/
theorem kS_fld (hy : kYs y z vt vo vc) (h : kS y z vt vo vc tb hp tk c f x fb top fil) {t j m U m0 : Nat} {S : List tE} {e2 : tE} (hS : (x f).2.1 = (0, U, m0) :: (7, t, m) :: S) (hn : (x f).2.2.1 = 0) (hl : wl S < 211) (hU : U ≠ 0) (h2 : y.1 t = 2) (hj : j < y.2.2.2.1 t 0) (hUt : y.2.2.2.2 t 0 j = U) (he2 : (e2 = (0, t, 0) ∧ t ≠ 0 ∧ ∀ i : Nat, i < y.2.2.2.1 t 0 → i = j ∨ m.testBit i = true) ∨ (∃ m2 : Nat, e2 = (7, t, m2) ∧ ∀ i : Nat, i < y.2.2.2.1 t 0 → m2.testBit i = true → i = j ∨ m.testBit i = true)) (e1 : ∀ o : Nat, o < z.1 U → c2 (fb f + vc (x f).1 + khs z S + z.2 t 0 j + o) = c (fb f + vc (x f).1 + khs z S + z.1 t + o)) (e3 : ∀ k : Nat, ¬ (fb f + vc (x f).1 + khs z S + z.2 t 0 j ≤ k ∧ k < fb f + vc (x f).1 + khs z S + z.2 t 0 j + z.1 U) → c2 k = c k) : kS y z vt vo vc tb hp tk c2 f (kUx x f ((x f).1, e2 :: S, 0, lUp (kR (x f)) (40 + wl S) none, kH (x f), kal (x f), klo (x f), kAn (x f))) fb (fb f + vc (x f).1 + khs z S + z.1 t) fil := by
  obtain ⟨rt, ra, V, hJ, hL⟩ := h
  have hf := Nat.le_refl f
  have n1 : kNm (0, U, m0) := by unfold kNm; simp
  have n2 : kNm (7, t, m) := by unfold kNm; simp
  have hK := hJ.2.2.2.2.1 f hf
  rw [hS] at hK
  obtain ⟨⟨k1, k2, k3, k4, k5⟩, ⟨k6, k7, k8, k9⟩, -⟩ := hK
  rw [wl_n n2] at k1 k4 k5
  obtain ⟨r1, r2⟩ := k4 hU
  have hA := hL.2.2.1 f hf
  rw [hS] at hA
  obtain ⟨a1, a2, -⟩ := hA
  have a1 := a1 hU
  rw [wl_n n2] at a1
  have a1 : ra (f, 40 + (wl S + 1)) = fb f + vc (x f).1 + (khs z S + z.1 t) := a1
  have a2 : ra (f, 40 + wl S) = fb f + vc (x f).1 + khs z S := a2
  have hE1 : ∀ e : tE, e ∈ [(0, U, m0), (7, t, m)] → kNm e := fun e he => by
    rcases List.mem_cons.mp he with q | q
    · rw [q]; exact n1
    · rw [List.mem_singleton.mp q]; exact n2
  have j2 := kJ_pop hJ (E := [(0, U, m0), (7, t, m)]) (S := S) hS hE1 hn
  have l2 := kL_pop hJ hL (E := [(0, U, m0), (7, t, m)]) (S := S) hS hE1 hn (qMm_cl hL.1)
  have hb := kTopF hL
  have hsd : ((f, 40 + (wl S + 1)) : Nat × Nat) ≠ (f, 40 + wl S) := fun q => by injection q with _ q; omega
  have wS : wl (x f).2.1 = wl S + 2 := by rw [hS, wl_n n1, wl_n n2]
  have oth : ∀ (r : Nat × Nat) (π : lLc) (w : Nat × Nat), r ≠ (f, 40 + wl S) → r ≠ (f, 40 + (wl S + 1)) → V r π = some w → kCl V f (wl S) r π = some w := fun r π w g1 g2 hw => by
    rw [kCl_ge (fun g => ?_)]; exact hw
    obtain ⟨a, b⟩ := r
    obtain ⟨rfl, g3, g4⟩ := g
    have g3 : 40 + wl S ≤ b := g3
    have g5 : b ≠ 40 + wl S := fun e => g1 (by rw [e])
    have g6 : b ≠ 40 + (wl S + 1) := fun e => g2 (by rw [e])
    rw [kNo hJ (u := b) (by omega) g4 π] at hw
    simp at hw
  have hρ : qW y (rt (f, 40 + wl S)) [(0, j)] U := by rw [k8]; exact ⟨h2, hj, hUt.symm⟩
  have hM1 : qM [(0, j)] := qM_cons.mpr ⟨rfl, qM_nil⟩
  have eA : qA y z c (rt (f, 40 + wl S)) (ra (f, 40 + wl S)) [(0, j)] = fb f + vc (x f).1 + khs z S + z.2 t 0 j := by
    rw [k8, a2]; rfl
  have hly := hy.1.2.1 t j h2 hj
  rw [hUt] at hly
  have hq := qMv (c2 := c2) hy.1 hL.1 (s := (f, 40 + (wl S + 1))) (d := (f, 40 + wl S)) (σ := []) (ρ := [(0, j)]) (T1 := U) (Vs := fun _ => none) hsd r1.symm hρ qOk_none (fun π w hw => by simp at hw) (qOk_Gm (hL.1.1 _) hρ hM1 (by have := hL.1.1 (f, 40 + (wl S + 1)); rw [r1] at this; exact this)) (fun ρ1 i ρ2 e => by
      cases ρ1 with
      | nil => simp at e
      | cons a l => simp at e) (fun r π w hw g1 g2 => by
      rw [eA]
      intro g3
      by_cases c1 : r = (f, 40 + wl S)
      · subst c1
        obtain ⟨t9, g9⟩ := w
        obtain ⟨w1, w2, -⟩ := (hL.1.1 _).1 π t9 g9 hw
        rcases qN_last π with nπ | ⟨π1, i, π2, rfl, nπ⟩
        · refine qA_ap (c := c) (a := ra (f, 40 + wl S)) hy.1 hρ w1 (qN_M hM1) nπ (fun q => g1 ⟨rfl, q⟩) w2 (fun κ ρ1 π1 g1 j1 g2 j2 q => ?_) (by rw [eA]; exact g3)
          cases κ with
          | nil => simp at q
          | cons a l => simp at q
        · have := qEndH hy.1 hL.1 w1 nπ (qPl_of hw)
          have := hy.1.1 t9
          omega
      · by_cases c2 : r = (f, 40 + (wl S + 1))
        · subst c2
          obtain ⟨t9, g9⟩ := w
          obtain ⟨w1, w2, -⟩ := (hL.1.1 _).1 π t9 g9 hw
          rcases qN_last π with nπ | ⟨π1, i, π2, rfl, nπ⟩
          · have := (qA_in (c := c) (a := ra (f, 40 + (wl S + 1))) hy.1 w1 nπ).1
            omega
          · have := qEndH hy.1 hL.1 w1 nπ (qPl_of hw)
            have := hy.1.1 t9
            omega
        · have := kLt hy j2 l2 (oth r π w c1 c2 hw)
          omega) (by rw [eA]; exact e3) (by
      rw [eA]
      intro o ho
      rw [e1 o ho]
      show c _ = c (ra (f, 40 + (wl S + 1)) + o)
      rw [a1]
      congr 1; omega) (by omega) (fun r π w hr hw => Or.inl (by
      by_cases c2 : r = (f, 40 + (wl S + 1))
      · rw [c2, qUp_eq] at hw; simp at hw
      · rw [qUp_ne c2] at hw
        have := (kTop hy.1 hy.2.1 hy.2.2.1 j2 l2 (oth r π w hr c2 hw)).2.1
        rw [a2]; exact this))
  have P1 : ∀ (i : Nat) (ρ : lLc) (t' : Nat), i < y.2.2.2.1 t 0 → (i = j ∨ m.testBit i = true) → qM ρ → qW y (y.2.2.2.2 t 0 i) ρ t' → qQ y (qG (V (f, 40 + wl S)) [(0, j)] (V (f, 40 + (wl S + 1)))) ((0, i) :: ρ) t' := fun i ρ t' hi hb hm hw => by
    refine qQ_G hρ (T := t') (by rw [k8]; exact ⟨h2, hi, hw⟩) (qM_cons.mpr ⟨rfl, hm⟩) r2 ?_
    by_cases q : i = j
    · exact Or.inr ⟨hM1, Or.inr (by rw [q]; exact lP_app [(0, j)] ρ)⟩
    · exact Or.inl (k9 i hi (hb.resolve_left q) ρ t' hm hw)
  have r := kS_pp (tk2 := tk) (c2 := c2) hy hJ hL (E := [(0, U, m0), (7, t, m)]) (S := S) hS hE1 hn hl (t := t) (e := e2) (W := qG (V (f, 40 + wl S)) [(0, j)] (V (f, 40 + (wl S + 1)))) (by
      have := qOk_Gm (hL.1.1 (f, 40 + wl S)) hρ hM1 (W := V (f, 40 + (wl S + 1))) (by have := hL.1.1 (f, 40 + (wl S + 1)); rw [r1] at this; exact this)
      rw [k8] at this; exact this) (by
      rcases he2 with ⟨rfl, t0, ha⟩ | ⟨m2, rfl, ha⟩
      · refine Or.inl ⟨0, rfl, t0, by rw [h2]; decide, by rw [h2]; decide, fun ρ t' g1 g2 => ?_⟩
        show qQ y _ ρ t'
        cases ρ with
        | nil =>
          obtain rfl : t' = t := g2
          refine ⟨fun q => absurd h2 q, fun _ => ?_⟩
          obtain ⟨σ, w, hw⟩ := qF_pl r2
          exact ⟨(0, j) :: σ, w, by rw [List.nil_append] at hw; exact (qG_in (ρ := [(0, j)])).trans hw⟩
        | cons a ρ =>
          obtain ⟨q, i⟩ := a
          obtain ⟨g3, g4⟩ := qM_cons.mp g1
          obtain rfl : q = 0 := g3
          exact P1 i ρ t' g2.2.1 (ha i g2.2.1) g4 g2.2.2
      · exact Or.inr ⟨m2, rfl, h2, fun i hi hb ρ t' g1 g2 => P1 i ρ t' hi (ha i hi hb) g1 g2⟩) (by
      rw [qRt_id a2, qRt_id k8]
      have ev : qUp (kCl V f (wl S)) (f, 40 + wl S) (qG (V (f, 40 + wl S)) [(0, j)] (V (f, 40 + (wl S + 1)))) = qUp (qUp V (f, 40 + (wl S + 1)) (fun _ => none)) (f, 40 + wl S) (qG (V (f, 40 + wl S)) [(0, j)] (qS (V (f, 40 + (wl S + 1))) [])) := funext fun r => by
        by_cases q : r = (f, 40 + wl S)
        · rw [q, qUp_eq, qUp_eq]; rfl
        · rw [qUp_ne q, qUp_ne q]
          by_cases q2 : r = (f, 40 + (wl S + 1))
          · rw [q2, qUp_eq]
            exact kCl_ze ⟨rfl, by show 40 + wl S ≤ 40 + (wl S + 1); omega, by show 40 + (wl S + 1) < 300; omega⟩
          · rw [qUp_ne q2]
            by_cases g : r.1 = f ∧ 40 + wl S ≤ r.2 ∧ r.2 < 300
            · rw [kCl_ze g]
              obtain ⟨a, b⟩ := r
              obtain ⟨rfl, g3, g4⟩ := g
              have g3 : 40 + wl S ≤ b := g3
              have g5 : b ≠ 40 + wl S := fun e => q (by rw [e])
              have g6 : b ≠ 40 + (wl S + 1) := fun e => q2 (by rw [e])
              exact funext fun π => (kNo hJ (u := b) (by omega) g4 π).symm
            · rw [kCl_ge g]
      rw [ev]; exact hq) (fun r π w hw => by
      have g1 := kLt hy j2 l2 hw
      exact e3 _ (by omega))
  have ek : kes z e2 = z.1 t := by
    rcases he2 with ⟨rfl, t0, -⟩ | ⟨m2, rfl, -⟩
    · exact if_neg t0
    · rfl
  rw [ek] at r
  exact r
/-- a variant's value is whole -/
theorem kS_pad (hy : kYs y z vt vo vc) (h : kS y z vt vo vc tb hp tk c f x fb top fil) {t g n m : Nat} {p : Nat → Nat} {S : List tE} (hS : (x f).2.1 = dsl (fun i => (0, p i, 0)) n ++ (3, g, m) :: S) (hn : (x f).2.2.1 = 0) (hl : wl S < 211) (h3 : y.1 t = 3) (t0 : t ≠ 0) (hg : g < y.2.2.1 t) (hnn : y.2.2.2.1 t g = n) (hpp : ∀ i : Nat, i < n → y.2.2.2.2 t g i = p i ∧ p i ≠ 0) (ho : ∀ i : Nat, i < n → z.2 t g i = 1 + psum z p i) (hn12 : n ≤ 12) : kS y z vt vo vc tb hp tk c f (kUx x f ((x f).1, (0, t, 0) :: S, 0, lUp (kR (x f)) (40 + wl S) none, kH (x f), kal (x f), klo (x f), kAn (x f))) fb (fb f + vc (x f).1 + khs z S + z.1 t) fil := by
  obtain ⟨rt, ra, V, hJ, hL⟩ := h
  have hf := Nat.le_refl f
  have n3 : kNm (3, g, m) := by unfold kNm; simp
  have nm : ∀ i : Nat, i < n → kNm ((fun i => (0, p i, 0)) i) := fun i _ => by unfold kNm; simp
  have hK := hJ.2.2.2.2.1 f hf
  rw [hS] at hK
  have kp := dsl_K n nm hK
  rw [wl_n n3] at kp
  obtain ⟨⟨k1, k2, k3⟩, -⟩ := kK_app hK
  have hA := hL.2.2.1 f hf
  rw [hS] at hA
  have ap := dsl_A n nm hA
  rw [wl_n n3] at ap
  obtain ⟨⟨a1, a2⟩, -⟩ := kAk_ap hA
  have wS : wl (x f).2.1 = wl S + 1 + n := by rw [hS, wl_app, dsl_wl n nm, wl_n n3]; omega
  have wB := hJ.2.2.2.2.2.2.2.2 f hf
  have hS2 : (x f).2.1 = (dsl (fun i => (0, p i, 0)) n ++ [(3, g, m)]) ++ S := by rw [List.append_assoc]; exact hS
  have hE1 : ∀ e : tE, e ∈ dsl (fun i => (0, p i, 0)) n ++ [(3, g, m)] → kNm e := fun e he => by
    rcases List.mem_append.mp he with q | q
    · exact dsl_nm n nm e q
    · rw [List.mem_singleton.mp q]; exact n3
  have j2 := kJ_pop hJ hS2 hE1 hn
  have l2 := kL_pop hJ hL hS2 hE1 hn (qMm_cl hL.1)
  have hb := kTopF hL
  have prt : ∀ i : Nat, i < y.2.2.2.1 t g → rt (f, 40 + (wl S + 1 + i)) = y.2.2.2.2 t g i ∧ ra (f, 40 + (wl S + 1 + i)) = ra (f, 40 + wl S) + z.2 t g i ∧ qF y (V (f, 40 + (wl S + 1 + i))) [] (rt (f, 40 + (wl S + 1 + i))) := fun i hi => by
    rw [hnn] at hi
    obtain ⟨-, -, -, q4, -⟩ := kp i hi
    obtain ⟨q5, q6⟩ := q4 (hpp i hi).2
    have q7 := ap i hi (hpp i hi).2
    rw [psum_hs i (fun j hj => (hpp j (by omega)).2)] at q7
    have q7 : ra (f, 40 + (wl S + 1 + i)) = fb f + vc (x f).1 + (khs z S + 1 + psum z p i) := q7
    refine ⟨q5.trans (hpp i hi).1.symm, ?_, by rw [q5]; exact q6⟩
    rw [q7, a1, ho i hi]; omega
  have hq := qMm_pad hL.1 (d := (f, 40 + wl S)) (t := t) (g := g) (V2 := qUp (kCl V f (wl S)) (f, 40 + wl S) (qE t g (y.2.2.2.1 t g) (fun i => V (f, 40 + (wl S + 1 + i))))) (fun i => (f, 40 + (wl S + 1 + i))) (fun i j _ _ q => by injection q with _ q; omega) h3 hg prt (by rw [a1]; exact a2) qUp_eq (fun r hr => by
      rw [qUp_ne hr]
      by_cases gg : r.1 = f ∧ 40 + wl S ≤ r.2 ∧ r.2 < 300
      · exact Or.inl (fun π => by rw [kCl_ze gg])
      · refine Or.inr ⟨kCl_ge gg, fun i hi q => gg ?_⟩
        rw [hnn] at hi
        rw [q]
        exact ⟨rfl, by show 40 + wl S ≤ 40 + (wl S + 1 + i); omega, by show 40 + (wl S + 1 + i) < 300; omega⟩) (by rw [a1]; omega) (fun r π w hr hw => Or.inl (by
      rw [qUp_ne hr] at hw
      have := (kTop hy.1 hy.2.1 hy.2.2.1 j2 l2 hw).2.1
      rw [a1]; exact this))
  have hu : qFu y t (qE t g (y.2.2.2.1 t g) (fun i => V (f, 40 + (wl S + 1 + i)))) := qFu_E h3 hg (fun i hi => by
    obtain ⟨q1, -, q3⟩ := prt i hi
    rw [← q1]
    exact ⟨hL.1.1 _, q3⟩)
  have r := kS_pp (tk2 := tk) (c2 := c) hy hJ hL hS2 hE1 hn hl (t := t) (e := (0, t, 0)) hu.1 (Or.inl ⟨0, rfl, t0, by rw [h3]; decide, by rw [h3]; decide, hu.2⟩) (by rw [qRt_id a1]; exact hq) (fun _ _ _ _ => rfl)
  rw [show kes z (0, t, 0) = z.1 t from if_neg t0] at r
  exact r
end
end
-- f0.s5.lean.txt
section
/-- as qMm_map, and blocks may have been given back -/
theorem qMm_mapT {y : qY} {z : qZ} {hp : Nat} {tk tk2 : Nat → Prop} {c c2 : Nat → Int} {rt ra rt2 ra2 : Nat × Nat → Nat} {V V2 : Nat × Nat → qV} (h : qMm y z hp tk c rt ra V) (M : Nat × Nat → lLc → Nat × Nat → lLc → Prop) (hM : ∀ (r : Nat × Nat) (π : lLc) (r2 : Nat × Nat) (π2 : lLc) (r0 : Nat × Nat) (π0 : lLc), M r π r0 π0 → M r2 π2 r0 π0 → (r, π) = (r2, π2)) (h1 : ∀ r : Nat × Nat, qOk y (rt2 r) (V2 r)) (h2 : ∀ (r : Nat × Nat) (π : lLc) (t g : Nat), V2 r π = some (t, g) → (∃ (r0 : Nat × Nat) (π0 : lLc), M r π r0 π0 ∧ V r0 π0 = some (t, g) ∧ c2 (qA y z c2 (rt2 r) (ra2 r) π) = c (qA y z c (rt r0) (ra r0) π0)) ∨ (y.1 t ≠ 4 ∧ (y.1 t = 3 → c2 (qA y z c2 (rt2 r) (ra2 r) π) = g))) (h4 : ∀ (r : Nat × Nat) (π : lLc) (x : Nat × Nat), V2 r π = some x → hp ≤ ra2 r) (h5 : ∀ (r r2 : Nat × Nat) (π π2 : lLc) (x x2 : Nat × Nat), r ≠ r2 → V2 r π = some x → V2 r2 π2 = some x2 → ra2 r + z.1 (rt2 r) ≤ ra2 r2 ∨ ra2 r2 + z.1 (rt2 r2) ≤ ra2 r) (hT : ∀ (r : Nat × Nat) (π : lLc) (t g : Nat) (r0 : Nat × Nat) (π0 : lLc) (b : Nat), V2 r π = some (t, g) → y.1 t = 4 → M r π r0 π0 → V r0 π0 = some (t, g) → c (qA y z c (rt r0) (ra r0) π0) = b → ∀ k : Nat, b ≤ k → k < b + z.1 (y.2.1 t) → tk2 k) : qMm y z hp tk2 c2 rt2 ra2 V2 := by
  obtain ⟨m1, m2, m3, m4, m5⟩ := h
  refine ⟨h1, fun r π t g hv => ?_, fun r π t g r2 π2 t2 g2 b b2 hv hv2 k1 k2 hne hb hb2 => ?_, h4, h5⟩
  · rcases h2 r π t g hv with ⟨r0, π0, a1, a2, a3⟩ | ⟨a1, a2⟩
    · rw [a3]
      obtain ⟨q1, q2⟩ := m2 r0 π0 t g a2
      refine ⟨q1, fun k4 => ?_⟩
      obtain ⟨b, b1, b2, -⟩ := q2 k4
      exact ⟨b, b1, b2, hT r π t g r0 π0 b hv k4 a1 a2 b1⟩
    · exact ⟨a2, fun q => absurd q a1⟩
  · rcases h2 r π t g hv with ⟨r0, π0, a1, a2, a3⟩ | ⟨a1, a2⟩
    · rcases h2 r2 π2 t2 g2 hv2 with ⟨r3, π3, a4, a5, a6⟩ | ⟨a4, a5⟩
      · rw [a3] at hb
        rw [a6] at hb2
        refine m3 r0 π0 t g r3 π3 t2 g2 b b2 a2 a5 k1 k2 (fun q => hne ?_) hb hb2
        injection q with q1 q2
        subst q1; subst q2
        exact hM _ _ _ _ _ _ a1 a4
      · exact absurd k2 a4
    · exact absurd k1 a1
/-- what lies at (s, σ) goes to (d, ρ) -/
theorem qMvT {y : qY} {z : qZ} {hp : Nat} {tk tk2 : Nat → Prop} {c c2 : Nat → Int} {rt ra : Nat × Nat → Nat} {V : Nat × Nat → qV} (hz : qLy y z) (h : qMm y z hp tk c rt ra V) {s d : Nat × Nat} {σ ρ : lLc} {T1 : Nat} {Vs : qV} (hsd : s ≠ d) (hσ : qW y (rt s) σ T1) (hρ : qW y (rt d) ρ T1) (hVs : qOk y (rt s) Vs) (hVs2 : ∀ (π : lLc) (x : Nat × Nat), Vs π = some x → V s π = some x ∧ ¬ lP σ π) (hVd : qOk y (rt d) (qG (V d) ρ (qS (V s) σ))) (hpar : ∀ (ρ1 : lLc) (j : Nat) (ρ2 : lLc), ρ = ρ1 ++ (1, j) :: ρ2 → ∃ x : Nat × Nat, V d ρ1 = some x) (e1 : ∀ (r : Nat × Nat) (π : lLc) (x : Nat × Nat), V r π = some x → ¬ (r = d ∧ lP ρ π) → (r = s → lP σ π → ¬ qN π) → ¬ (qA y z c (rt d) (ra d) ρ ≤ qA y z c (rt r) (ra r) π ∧ qA y z c (rt r) (ra r) π < qA y z c (rt d) (ra d) ρ + z.1 T1)) (e2 : ∀ k : Nat, ¬ (qA y z c (rt d) (ra d) ρ ≤ k ∧ k < qA y z c (rt d) (ra d) ρ + z.1 T1) → c2 k = c k) (e3 : ∀ o : Nat, o < z.1 T1 → c2 (qA y z c (rt d) (ra d) ρ + o) = c (qA y z c (rt s) (ra s) σ + o)) (e4 : hp ≤ ra d) (e5 : ∀ (r : Nat × Nat) (π : lLc) (x : Nat × Nat), r ≠ d → qUp V s Vs r π = some x → ra r + z.1 (rt r) ≤ ra d ∨ ra d + z.1 (rt d) ≤ ra r) (hT : ∀ (r0 : Nat × Nat) (π0 : lLc) (t g b : Nat), V r0 π0 = some (t, g) → y.1 t = 4 → (r0 = s → lP σ π0 ∨ ∃ w : Nat × Nat, Vs π0 = some w) → (r0 = d → ¬ lP ρ π0) → c (qA y z c (rt r0) (ra r0) π0) = b → ∀ k : Nat, b ≤ k → k < b + z.1 (y.2.1 t) → tk2 k) : qMm y z hp tk2 c2 rt ra (qUp (qUp V s Vs) d (qG (V d) ρ (qS (V s) σ))) := by
  have hw := h
  obtain ⟨m1, m2, m3, m4, m5⟩ := h
  have own : ∀ (r : Nat × Nat) (π : lLc) (x : Nat × Nat), V r π = some x → ¬ (r = d ∧ lP ρ π) → (r = s → lP σ π → ¬ qN π) → c2 (qA y z c (rt r) (ra r) π) = c (qA y z c (rt r) (ra r) π) := fun r π x hx hn h9 => e2 _ (e1 r π x hx hn h9)
  have adr : ∀ (r : Nat × Nat) (π : lLc) (x : Nat × Nat), V r π = some x → ¬ (r = d ∧ lP ρ π) → (r = s → ¬ lP σ π) → qA y z c2 (rt r) (ra r) π = qA y z c (rt r) (ra r) π := fun r π x hx hn h9 => by
    obtain ⟨t, g⟩ := x
    refine qA_fr π.length (Nat.le_refl _) ((m1 r).1 π t g hx).1 (fun π1 j π2 e => ?_)
    subst e
    obtain ⟨u, hu⟩ := (m1 r).2.1 π1 π2 j _ hx
    exact own r π1 u hu (fun q => hn ⟨q.1, lP_tr q.2 (lP_app π1 _)⟩) (fun q1 q2 => absurd (lP_tr q2 (lP_app π1 _)) (h9 q1))
  have adρ : qA y z c2 (rt d) (ra d) ρ = qA y z c (rt d) (ra d) ρ := by
    refine qA_fr ρ.length (Nat.le_refl _) hρ (fun ρ1 j ρ2 e => ?_)
    obtain ⟨u, hu⟩ := hpar ρ1 j ρ2 e
    refine own d ρ1 u hu (fun q => ?_) (fun q => absurd q.symm hsd)
    obtain ⟨s1, e6⟩ := q.2
    have := congrArg List.length e
    have h7 := congrArg List.length e6
    simp only [List.length_append, List.length_cons] at this h7
    omega
  have mov : ∀ (n : Nat) (τ : lLc) (x : Nat × Nat), τ.length ≤ n → V s (σ ++ τ) = some x → c2 (qA y z c2 (rt d) (ra d) (ρ ++ τ)) = c (qA y z c (rt s) (ra s) (σ ++ τ)) := by
    intro n
    induction n with
    | zero =>
      intro τ x hl hx
      have : τ = [] := List.eq_nil_of_length_eq_zero (by omega)
      subst this
      rw [List.append_nil, List.append_nil, adρ]
      have := e3 0 (hz.1 T1)
      exact this
    | succ n ih =>
      intro τ x hl hx
      obtain ⟨t, g⟩ := x
      have w1 := ((m1 s).1 _ t g hx).1
      have w2 : qW y T1 τ t := qW_rest w1 hσ
      rcases qN_last τ with nτ | ⟨τ1, j, τ2, rfl, nτ⟩
      · rw [qA_app hρ, qA_app hσ, adρ]
        have i1 := qA_sh (z := z) (c := c2) (c2 := c) (a := qA y z c (rt d) (ra d) ρ) (b := qA y z c (rt s) (ra s) σ) w2 nτ
        have i2 := qA_in (c := c) hz (a := qA y z c (rt s) (ra s) σ) w2 nτ
        have p1 := hz.1 t
        have i3 := e3 (qA y z c T1 (qA y z c (rt s) (ra s) σ) τ - qA y z c (rt s) (ra s) σ) (by omega)
        rw [show qA y z c2 T1 (qA y z c (rt d) (ra d) ρ) τ = qA y z c (rt d) (ra d) ρ + (qA y z c T1 (qA y z c (rt s) (ra s) σ) τ - qA y z c (rt s) (ra s) σ) by omega, i3]
        congr 1
        omega
      · obtain ⟨⟨t1, g1⟩, hu⟩ := (m1 s).2.1 (σ ++ τ1) τ2 j _ (by rw [List.append_assoc]; exact hx)
        have h1 := ih τ1 _ (by simp only [List.length_append, List.length_cons] at hl; omega) hu
        obtain ⟨T2, v1, v2⟩ := qW_cut w2
        have b1 := qA_app (z := z) (c := c2) (a := ra d) (σ := (1, j) :: τ2) (qW_app hρ v1)
        have b2 := qA_app (z := z) (c := c) (a := ra s) (σ := (1, j) :: τ2) (qW_app hσ v1)
        have k0 : qA y z c2 (rt d) (ra d) (ρ ++ (τ1 ++ (1, j) :: τ2)) = qA y z c (rt s) (ra s) (σ ++ (τ1 ++ (1, j) :: τ2)) := by
          rw [← List.append_assoc, ← List.append_assoc, b1, b2]
          show qA y z c2 (y.2.1 T2) (c2 (qA y z c2 (rt d) (ra d) (ρ ++ τ1))).toNat τ2 = qA y z c (y.2.1 T2) (c (qA y z c (rt s) (ra s) (σ ++ τ1))).toNat τ2
          rw [h1]
          have := qA_sh (z := z) (c := c2) (c2 := c) (a := (c (qA y z c (rt s) (ra s) (σ ++ τ1))).toNat) (b := (c (qA y z c (rt s) (ra s) (σ ++ τ1))).toNat) v2.2.2 nτ
          omega
        rw [k0]
        exact own s _ _ hx (fun q => hsd q.1) (fun _ _ q => absurd rfl (q (1, j) (List.mem_append_right _ (List.mem_append_right _ (List.mem_cons_self ..)))))
  have cls : ∀ (r : Nat × Nat) (π : lLc) (x : Nat × Nat), qUp (qUp V s Vs) d (qG (V d) ρ (qS (V s) σ)) r π = some x → (∃ τ : lLc, r = d ∧ π = ρ ++ τ ∧ V s (σ ++ τ) = some x) ∨ (¬ (r = d ∧ lP ρ π) ∧ V r π = some x ∧ (r = s → ¬ lP σ π)) := fun r π x hx => by
    by_cases er : r = d
    · subst er
      rw [qUp_eq] at hx
      by_cases c1 : lP ρ π
      · obtain ⟨τ, rfl⟩ := c1
        rw [qG_in] at hx
        exact Or.inl ⟨τ, rfl, rfl, hx⟩
      · rw [qG_out c1] at hx
        exact Or.inr ⟨fun q => c1 q.2, hx, fun q => absurd q.symm hsd⟩
    · rw [qUp_ne er] at hx
      by_cases es : r = s
      · subst es
        rw [qUp_eq] at hx
        obtain ⟨f1, f2⟩ := hVs2 π x hx
        exact Or.inr ⟨fun q => er q.1, f1, fun _ => f2⟩
      · rw [qUp_ne es] at hx
        exact Or.inr ⟨fun q => er q.1, hx, fun q => absurd q es⟩
  refine qMm_mapT hw (fun r π r0 π0 => (∃ τ : lLc, r = d ∧ π = ρ ++ τ ∧ r0 = s ∧ π0 = σ ++ τ) ∨ (¬ (r = d ∧ lP ρ π) ∧ r0 = r ∧ π0 = π ∧ (r = s → ¬ lP σ π))) ?_ (fun r => ?_) (fun r π t g hv => ?_) (fun r π x hx => ?_) (fun r r2 π π2 x x2 hne hx hx2 => ?_) (fun r π t g r0 π0 b hv k4 hm a2 hb => ?_)
  · rintro r π r2 π2 r0 π0 (⟨τ, a1, a2, a3, a4⟩ | ⟨a0, a1, a2, a3⟩) (⟨τ2, b1, b2, b3, b4⟩ | ⟨b0, b1, b2, b3⟩)
    · have : τ = τ2 := List.append_cancel_left (a4.symm.trans b4)
      rw [a1, a2, b1, b2, this]
    · exact absurd ⟨τ, b2.symm.trans a4⟩ (b3 (b1.symm.trans a3))
    · exact absurd ⟨τ2, a2.symm.trans b4⟩ (a3 (a1.symm.trans b3))
    · rw [← a1, ← a2, ← b1, ← b2]
  · by_cases er : r = d
    · subst er; rw [qUp_eq]; exact hVd
    · rw [qUp_ne er]
      by_cases es : r = s
      · subst es; rw [qUp_eq]; exact hVs
      · rw [qUp_ne es]; exact m1 r
  · rcases cls r π _ hv with ⟨τ, a1, a2, a3⟩ | ⟨a1, a2, a3⟩
    · refine Or.inl ⟨s, σ ++ τ, Or.inl ⟨τ, a1, a2, rfl, rfl⟩, a3, ?_⟩
      rw [a1, a2]
      exact mov τ.length τ _ (Nat.le_refl _) a3
    · refine Or.inl ⟨r, π, Or.inr ⟨a1, rfl, rfl, a3⟩, a2, ?_⟩
      rw [adr r π _ a2 a1 a3]
      exact own r π _ a2 a1 (fun q1 q2 => absurd q2 (a3 q1))
  · rcases cls r π _ hx with ⟨τ, a1, a2, a3⟩ | ⟨a1, a2, a3⟩
    · rw [a1]; exact e4
    · exact m4 r π x a2
  · rcases cls r π _ hx with ⟨τ, a1, a2, a3⟩ | ⟨a1, a2, a3⟩
    · rcases cls r2 π2 _ hx2 with ⟨τ2, b1, b2, b3⟩ | ⟨b1, b2, b3⟩
      · exact absurd (a1.trans b1.symm) hne
      · subst a1
        exact (e5 r2 π2 x2 (fun q => hne q.symm) (by rw [qUp_ne (fun q => hne q.symm)] at hx2; exact hx2)).symm
    · rcases cls r2 π2 _ hx2 with ⟨τ2, b1, b2, b3⟩ | ⟨b1, b2, b3⟩
      · subst b1
        exact e5 r π x hne (by rw [qUp_ne hne] at hx; exact hx)
      · exact m5 r r2 π π2 x x2 hne a2 b2
  · rcases hm with ⟨τ, b1, b2, b3, b4⟩ | ⟨b0, b1, b2, b3⟩
    · exact hT r0 π0 t g b a2 k4 (fun _ => Or.inl ⟨τ, b4⟩) (fun q => absurd (b3.symm.trans q) hsd) hb
    · refine hT r0 π0 t g b a2 k4 (fun q => Or.inr ?_) (fun q z9 => b0 ⟨b1.symm.trans q, by rw [← b2]; exact z9⟩) hb
      have e1 : r = s := b1.symm.trans q
      have e2 : r ≠ d := fun q => hsd (e1.symm.trans q)
      rw [qUp_ne e2, e1, qUp_eq, ← b2] at hv
      exact ⟨_, hv⟩
end
-- f0.s6.lean.txt
section
theorem lBw_copy2 {f : Nat} {tb : lTb} {An : Nat → lLc → Nat → Prop} {fr : lFr} {A2 : Nat → Prop} {v t : Nat} {b : lLc} {un : Prop} {hd : Nat → Prop} (h : lIv f tb An fr) (hA : ∀ u : Nat, A2 u → fr.2.1 u) (hv : fr.2.1 v) (hb : fr.1 v = some b) (hn : ¬ fr.2.2.2 v) (hun : ¬ un) (hl2 : ∀ l : Nat, fr.2.2.1 v l → hd l) (hst : ∀ u l : Nat, fr.2.2.1 u l → ¬ tb.2.2.2.1 l → tb.1 l = v → tb.2.2.1 l) : lOk f tb An hd un b ∧ ∀ u : Nat, A2 u → lMt tb fr t hd un b u := by
  refine ⟨lOk_mono hl2 (fun z => absurd z hun) (lP_rf b) (h.1 v b hv hb), fun u hu a ha hq hc => ?_⟩
  have hqu : fr.2.2.2 u := hq.resolve_left hun
  have hne : u ≠ v := fun e => hn (e ▸ hqu)
  rcases h.2 u v a b hne (hA u hu) hv ha hb (Or.inl hqu) (lCmp_sym hc) with x | x
  · obtain ⟨x0, l, π, x1, x2, x3, x4, x5, x6⟩ := x
    exact absurd (hst u l x2 x1 x3) (x6 hqu)
  · obtain ⟨x0, l, π, x1, x2, x3, x4, x5, x6⟩ := x
    exact ⟨x0, l, π, x1, hl2 l x2, x3, x4, x5, fun z => absurd z hun⟩
theorem qM_fst : ∀ {ρ : lLc}, qMs ρ → qM ρ ∨ ∃ (ρ0 : lLc) (j : Nat) (ρ1 : lLc), ρ = ρ0 ++ (1, j) :: ρ1 ∧ qM ρ0
  | [], _ => Or.inl qM_nil
  | (q, j) :: ρ, h => by
    obtain ⟨h1, h2⟩ := qMs_cons.mp h
    rcases h1 with e | e
    · rcases qM_fst h2 with g | ⟨ρ0, i, ρ1, rfl, g⟩
      · exact Or.inl (qM_cons.mpr ⟨e, g⟩)
      · exact Or.inr ⟨(q, j) :: ρ0, i, ρ1, rfl, qM_cons.mpr ⟨e, g⟩⟩
    · have e : q = 1 := e
      subst e
      exact Or.inr ⟨[], j, ρ, rfl, qM_nil⟩
/-- what a place's use asks to be there: all of it, or the first box on the way -/
def fuL (y : qY) (lo : Nat → lLc → Prop) (v : Nat) (ρ : lLc) (T : Nat) : Prop := (qM ρ → ∀ (τ : lLc) (t : Nat), qM τ → qW y T τ t → ¬ lo v (ρ ++ τ)) ∧ ∀ (ρ0 : lLc) (j : Nat) (ρ1 : lLc), ρ = ρ0 ++ (1, j) :: ρ1 → qM ρ0 → ¬ lo v ρ0
/-- a place on a variable of type T0: its way, its route -/
def plW (y : qY) (z : qZ) (T0 T : Nat) (ρ : lLc) (os : List Nat) (o : Nat) : Prop := (y.1 T0 ≠ 5 ∧ y.1 T0 ≠ 6 ∧ qW y T0 ρ T ∧ qMs ρ ∧ os = (rtU y z T0 0 ρ).1 ∧ o = (rtU y z T0 0 ρ).2) ∨ ((y.1 T0 = 5 ∨ y.1 T0 = 6) ∧ ∃ ρ2 : lLc, ρ = (1, 0) :: ρ2 ∧ qW y (y.2.1 T0) ρ2 T ∧ qMs ρ2 ∧ os = 0 :: (rtU y z (y.2.1 T0) 0 ρ2).1 ∧ o = (rtU y z (y.2.1 T0) 0 ρ2).2)
section
variable {y : qY} {z : qZ} {vt vo : Nat → Nat → Nat} {vc : Nat → Nat} {tb : Nat → lTb} {hp : Nat} {tk tk2 : Nat → Prop} {c c2 : Nat → Int} {f : Nat} {x : Nat → kFm} {rt ra : Nat × Nat → Nat} {V : Nat × Nat → qV} {fb : Nat → Nat} {top : Nat} {fil : Nat → Nat → Nat → Prop} {v T o : Nat} {ρ : lLc} {os : List Nat}
theorem qF_4 {W : qV} {π : lLc} {B : Nat} (h4 : y.1 B = 4) (h : ∃ w : Nat × Nat, W π = some w) : qF y W π B := fun τ t g1 g2 => by
  cases τ with
  | nil =>
    obtain rfl : t = B := g2
    rw [List.append_nil]
    exact ⟨fun _ => h, fun q => absurd (h4.symm.trans q) (by decide)⟩
  | cons a τ =>
    obtain ⟨q, i⟩ := a
    obtain ⟨g3, g4⟩ := qM_cons.mp g1
    obtain rfl : q = 0 := g3
    exact absurd (h4.symm.trans g2.1) (by decide)
theorem pl_A (hJ : kJ y vt tb f x rt V) (hv4 : v < 40) (hvS : (8, v, 0) ∈ (x f).2.1) (hw : qW y (vt (x f).1 v) ρ T) (hms : qMs ρ) (hfu : fuL y (klo (x f)) v ρ T) : qF y (V (f, v)) ρ T ∧ rt (f, v) = vt (x f).1 v := by
  obtain ⟨h1, h2⟩ := hJ.2.2.2.2.2.2.1 f (Nat.le_refl f) v hv4 hvS
  refine ⟨?_, h1⟩
  rcases qM_fst hms with hm | ⟨ρ0, j, ρ1, rfl, hm⟩
  · exact fun τ t g1 g2 => h2 (ρ ++ τ) t (qM_app.mpr ⟨hm, g1⟩) (qW_app hw g2) (hfu.1 hm τ t g1 g2)
  · obtain ⟨B, w1, w2⟩ := qW_cut hw
    have q := h2 ρ0 B hm w1 (hfu.2 ρ0 j ρ1 rfl hm)
    have h4 : y.1 B = 4 := w2.2.1
    have q2 := q.1 (by rw [h4]; decide)
    refine qF_path (hJ.1 (f, v)) (by rw [h1]; exact w1) (qF_4 h4 q2) w2 (fun a ha => hms a (List.mem_append_right _ ha))
theorem pl_B (hJ : kJ y vt tb f x rt V) (hL : kL y z vt vo vc hp tk c f x rt ra V fb top fil) (hv4 : v < 40) (hvS : (8, v, 0) ∈ (x f).2.1) (hal : kal (x f) v) (h56 : y.1 (vt (x f).1 v) = 5 ∨ y.1 (vt (x f).1 v) = 6) (hlo : ¬ klo (x f) v []) : ∃ (d : Nat × Nat) (π : lLc) (w : Nat × Nat), kR (x f) v = some (d :: π) ∧ d.2 < 40 ∧ qW y (rt d) π (y.2.1 (vt (x f).1 v)) ∧ qF y (V d) π (y.2.1 (vt (x f).1 v)) ∧ V (f, v) [] = some w ∧ c (ra (f, v)) = (qA y z c (rt d) (ra d) π : Int) ∧ rt (f, v) = vt (x f).1 v := by
  have hf := Nat.le_refl f
  obtain ⟨h1, h2⟩ := hJ.2.2.2.2.2.2.1 f hf v hv4 hvS
  have q := h2 [] _ qM_nil rfl hlo
  obtain ⟨⟨t, g⟩, e⟩ := q.1 (by rcases h56 with a | a <;> rw [a] <;> decide)
  have et : t = rt (f, v) := ((hJ.1 (f, v)).1 [] t g e).1
  obtain ⟨a, ea⟩ := hJ.2.2.2.1 f hf v t g e (by rw [et, h1]; exact h56) (Or.inl ⟨hv4, hal⟩)
  obtain ⟨-, d, π, rfl, d1, d2, d3⟩ := hJ.2.2.1 f hf v a (Or.inl ⟨hv4, hal⟩) ea
  rw [h1] at d2 d3
  have l := hL.2.1 f hf v _ (Or.inl (Or.inl ⟨hv4, hal⟩)) ea ⟨_, e⟩
  exact ⟨d, π, (t, g), ea, d1, d2, d3, e, l, h1⟩
theorem pl_loc (hy : kYs y z vt vo vc) (hJ : kJ y vt tb f x rt V) (hL : kL y z vt vo vc hp tk c f x rt ra V fb top fil) (hv4 : v < 40) (hvS : (8, v, 0) ∈ (x f).2.1) (hw : plW y z (vt (x f).1 v) T ρ os o) (hfu : fuL y (klo (x f)) v ρ T) (hal : (y.1 (vt (x f).1 v) = 5 ∨ y.1 (vt (x f).1 v) = 6) → kal (x f) v) (htop : top < 2 ^ 31) : ∃ (d : Nat × Nat) (π : lLc), d.2 < 40 ∧ qW y (rt d) π T ∧ qF y (V d) π T ∧ qA y z c (rt d) (ra d) π = rA c (fb f + vo (x f).1 v) os o ∧ rOk c top (fb f + vo (x f).1 v) os ∧ qA y z c (rt d) (ra d) π + z.1 T ≤ top ∧ ((d = (f, v) ∧ π = ρ ∧ y.1 (vt (x f).1 v) ≠ 5 ∧ y.1 (vt (x f).1 v) ≠ 6) ∨ ∃ π0 ρ2 : lLc, kR (x f) v = some (d :: π0) ∧ π = π0 ++ ρ2 ∧ ρ = (1, 0) :: ρ2 ∧ (y.1 (vt (x f).1 v) = 5 ∨ y.1 (vt (x f).1 v) = 6) ∧ qW y (rt d) π0 (y.2.1 (vt (x f).1 v))) := by
  have hf := Nat.le_refl f
  have hra : ra (f, v) = fb f + vo (x f).1 v := hL.2.2.2.1 f hf v hv4 hvS
  have ht := kTopF hL
  have lt : ∀ (r : Nat × Nat) (π : lLc) (w : Nat × Nat), V r π = some w → qA y z c (rt r) (ra r) π < top := fun r π w h => kLt hy hJ hL h
  have le : ∀ (r : Nat × Nat) (π : lLc) (w : Nat × Nat), V r π = some w → ra r + z.1 (rt r) ≤ top := fun r π w h => (kTop hy.1 hy.2.1 hy.2.2.1 hJ hL h).2.1
  rcases hw with ⟨n5, n6, w1, w2, rfl, rfl⟩ | ⟨h56, ρ2, rfl, w1, w2, rfl, rfl⟩
  · obtain ⟨q1, q2⟩ := pl_A hJ hv4 hvS w1 w2 hfu
    have w3 : qW y (rt (f, v)) ρ T := by rw [q2]; exact w1
    refine ⟨(f, v), ρ, hv4, w3, q1, ?_, ?_, qEnd hy.1 hL.1 (fun π w => le (f, v) π w) (by omega) w3 (qF_pl q1), Or.inl ⟨rfl, rfl, n5, n6⟩⟩
    · rw [q2, ← hra]
      exact rtF_A (o := 0)
    · rw [← hra]
      exact rW_ok hL.1 (fun π w => lt (f, v) π w) hy.1 (by omega) (π1 := []) (T1 := vt (x f).1 v) q2.symm w1 (qF_pl q1) rfl
  · obtain ⟨d, π, w, a1, a2, a3, a4, a5, a6, a7⟩ := pl_B hJ hL hv4 hvS (hal h56) h56 (hfu.2 [] 0 ρ2 rfl qM_nil)
    have b1 : qW y (rt d) (π ++ ρ2) T := qW_app a3 w1
    have b2 : qF y (V d) (π ++ ρ2) T := qF_path (hJ.1 d) a3 a4 w1 w2
    have b3 := qEnd hy.1 hL.1 (r := d) (fun π w => le d π w) (by omega) a3 (qF_pl a4)
    have p1 := hy.1.1 (y.2.1 (vt (x f).1 v))
    have b5 := lt (f, v) [] w a5
    have b5 : ra (f, v) < top := b5
    refine ⟨d, π ++ ρ2, a2, b1, b2, ?_, ?_, qEnd hy.1 hL.1 (fun π w => le d π w) (by omega) b1 (qF_pl b2), Or.inr ⟨π, ρ2, a1, rfl, rfl, h56, a3⟩⟩
    · rw [qA_app a3, ← hra]
      show _ = rA c (c (ra (f, v) + 0)).toNat _ _
      rw [Nat.add_zero, a6, Int.toNat_natCast]
      exact rtF_A (o := 0)
    · rw [← hra]
      show ra (f, v) + 0 < top ∧ (∃ b : Nat, c (ra (f, v) + 0) = (b : Int) ∧ b < 2 ^ 31) ∧ rOk c top (c (ra (f, v) + 0)).toNat _
      rw [Nat.add_zero]
      refine ⟨b5, ⟨_, a6, by omega⟩, ?_⟩
      rw [a6, Int.toNat_natCast]
      exact rW_ok hL.1 (fun π w => lt d π w) hy.1 (by omega) (π1 := π) a3 w1 (qF_pl b2) rfl
/-- what the class's addressOf may rely on -/
theorem pl_adr (hy : kYs y z vt vo vc) (h : kS y z vt vo vc tb hp tk c f x fb top fil) (hv4 : v < 40) (hvS : (8, v, 0) ∈ (x f).2.1) (hw : plW y z (vt (x f).1 v) T ρ os o) (hfu : fuL y (klo (x f)) v ρ T) (hal : (y.1 (vt (x f).1 v) = 5 ∨ y.1 (vt (x f).1 v) = 6) → kal (x f) v) (htop : top < 2 ^ 31) : rOk c top (fb f + vo (x f).1 v) os ∧ rA c (fb f + vo (x f).1 v) os o + z.1 T ≤ top := by
  obtain ⟨rt, ra, V, hJ, hL⟩ := h
  obtain ⟨d, π, -, -, -, e1, e2, e3, -⟩ := pl_loc hy hJ hL hv4 hvS hw hfu hal htop
  exact ⟨e2, by rw [← e1]; exact e3⟩
/-- a reference comes on top -/
theorem kS_pushR (hy : kYs y z vt vo vc) (hJ : kJ y vt tb f x rt V) (hL : kL y z vt vo vc hp tk c f x rt ra V fb top fil) (hn : (x f).2.2.1 = 0) (hl : wl (x f).2.1 < 211) (hno : ∀ r m2 : Nat, (5, r, m2) ∉ (x f).2.1 ∧ (6, r, m2) ∉ (x f).2.1) {k m t U : Nat} {a : lLc} {hd : Nat → Prop} {al2 : Nat → Prop} (hU : U < 10000) (hkt : (k = 1 ∧ t = 10000 + 2 * U) ∨ (k = 2 ∧ t = 10001 + 2 * U)) (hal : ∀ u : Nat, al2 u → kal (x f) u) (hT : qTg y rt V a U) (hok : lOk f (tb (x f).1) (kAn (x f)) hd (y.1 t = 6) a) (hmt : ∀ u : Nat, ((u < 40 ∧ al2 u) ∨ (40 ≤ u ∧ u < 40 + wl (x f).2.1)) → lMt (tb (x f).1) (kfr y rt f (x f)) (40 + wl (x f).2.1) hd (y.1 t = 6) a u) (hc : ∀ k : Nat, k < top → c2 k = c k) (hct : c2 top = (qAd y z c rt ra a : Int)) : kS y z vt vo vc tb hp tk c2 f (kUx x f ((x f).1, (k, U, m) :: (x f).2.1, 0, lUp (kR (x f)) (40 + wl (x f).2.1) (some a), lUp (kH (x f)) (40 + wl (x f).2.1) hd, al2, klo (x f), kAn (x f))) fb (top + 1) fil := by
  have hcr := hy.2.2.2.1 U hU
  have hk56 : (y.1 t = 5 ∨ y.1 t = 6) ∧ y.2.1 t = U := by
    rcases hkt with ⟨-, rfl⟩ | ⟨-, rfl⟩
    · exact ⟨Or.inl hcr.1, hcr.2.1⟩
    · exact ⟨Or.inr hcr.2.2.1, hcr.2.2.2⟩
  have hk : kNm (k, U, m) := by
    rcases hkt with ⟨rfl, -⟩ | ⟨rfl, -⟩ <;> (unfold kNm; simp)
  have j := kJ_pushR (m := m) hJ hy.2.2.2.1 hU hkt hn hl hno hal hT hok hmt
  obtain ⟨q1, q2, q3⟩ := qMm_tp (t := t) hy hJ hL hl hc
  have q := qMm_pl q1 (d := (f, 40 + wl (x f).2.1)) (by rw [qRt_eq]; rcases hk56.1 with a | a <;> rw [a] <;> decide) (by rw [qRt_eq]; rcases hk56.1 with a | a <;> rw [a] <;> decide) (by rw [qRt_eq]; rcases hk56.1 with a | a <;> rw [a] <;> decide) q2 (fun r π w hr hw => Or.inl (by rw [qRt_eq]; exact q3 r π w hr hw))
  rw [qRt_eq] at q
  have l := kL_push (ro := some a) (hd := hd) (al2 := al2) (e := (k, U, m)) hy hJ hL hk hn hal q (kTopC hy hJ hL hc) (by
    rcases hkt with ⟨rfl, -⟩ | ⟨rfl, -⟩
    · exact qRt_eq
    · exact qRt_eq) (fun a2 q => by
    injection q with q
    subst q
    rw [hk56.2]
    exact ⟨hT, hct⟩)
  have ek : kes z (k, U, m) = 1 := by
    rcases hkt with ⟨rfl, -⟩ | ⟨rfl, -⟩ <;> rfl
  rw [ek] at l
  exact ⟨_, _, _, j, l⟩
theorem kA_to {al2 : Nat → Prop} (hn : (x f).2.2.1 = 0) (hal : ∀ u : Nat, al2 u → kal (x f) u) : ∀ u : Nat, ((u < 40 ∧ al2 u) ∨ (40 ≤ u ∧ u < 40 + wl (x f).2.1)) → kA (x f) u := fun u hu => by
  rcases hu with ⟨a, b⟩ | ⟨a, b⟩
  · exact Or.inl ⟨a, hal u b⟩
  · exact Or.inr ⟨a, by rw [hn]; exact b⟩
/-- a shared reference is copied -/
theorem kS_cpR (hy : kYs y z vt vo vc) (h : kS y z vt vo vc tb hp tk c f x fb top fil) (hn : (x f).2.2.1 = 0) (hl : wl (x f).2.1 < 211) (hno : ∀ r m2 : Nat, (5, r, m2) ∉ (x f).2.1 ∧ (6, r, m2) ∉ (x f).2.1) {m U : Nat} {al2 : Nat → Prop} (hU : U < 10000) (hv4 : v < 40) (hvS : (8, v, 0) ∈ (x f).2.1) (hvt : vt (x f).1 v = 10000 + 2 * U) (hkv : kal (x f) v) (hlo : ¬ klo (x f) v []) (hal : ∀ u : Nat, al2 u → kal (x f) u) (hst : ∀ u l : Nat, kH (x f) u l → ¬ (tb (x f).1).2.2.2.1 l → (tb (x f).1).1 l = v → (tb (x f).1).2.2.1 l) (hc : ∀ k : Nat, k < top → c2 k = c k) (hct : c2 top = c (fb f + vo (x f).1 v)) : ∃ a : lLc, kS y z vt vo vc tb hp tk c2 f (kUx x f ((x f).1, (1, U, m) :: (x f).2.1, 0, lUp (kR (x f)) (40 + wl (x f).2.1) (some a), lUp (kH (x f)) (40 + wl (x f).2.1) (kH (x f) v), al2, klo (x f), kAn (x f))) fb (top + 1) fil := by
  obtain ⟨rt, ra, V, hJ, hL⟩ := h
  have hf := Nat.le_refl f
  have hcr := hy.2.2.2.1 U hU
  have h5 : y.1 (vt (x f).1 v) = 5 := by rw [hvt]; exact hcr.1
  obtain ⟨d, π, w, a1, a2, a3, a4, a5, a6, a7⟩ := pl_B hJ hL hv4 hvS hkv (Or.inl h5) hlo
  have hra : ra (f, v) = fb f + vo (x f).1 v := hL.2.2.2.1 f hf v hv4 hvS
  have eU : y.2.1 (vt (x f).1 v) = U := by rw [hvt]; exact hcr.2.1
  rw [eU] at a3 a4
  have hun : ¬ (y.1 (10000 + 2 * U) = 6) := by rw [hcr.1]; decide
  obtain ⟨b1, b2⟩ := lBw_copy2 (t := 40 + wl (x f).2.1) (un := y.1 (10000 + 2 * U) = 6) (hd := kH (x f) v) (hJ.2.1.1 f hf) (kA_to hn hal) (Or.inl ⟨hv4, hkv⟩) a1 (by show ¬ (y.1 (rt (f, v)) = 6); rw [a7, h5]; decide) hun (fun l q => q) hst
  exact ⟨d :: π, kS_pushR hy hJ hL hn hl hno hU (Or.inl ⟨rfl, rfl⟩) hal ⟨d, π, rfl, a2, a3, a4⟩ b1 b2 hc (by rw [hct, ← hra]; exact a6)⟩
/-- a place is lent -/
theorem kS_bor (hy : kYs y z vt vo vc) (h : kS y z vt vo vc tb hp tk c f x fb top fil) (hn : (x f).2.2.1 = 0) (hl : wl (x f).2.1 < 211) (hno : ∀ r m2 : Nat, (5, r, m2) ∉ (x f).2.1 ∧ (6, r, m2) ∉ (x f).2.1) {k m t l0 : Nat} {al2 : Nat → Prop} {hd : Nat → Prop} (hT9 : T < 10000) (hkt : (k = 1 ∧ t = 10000 + 2 * T) ∨ (k = 2 ∧ t = 10001 + 2 * T)) (hv4 : v < 40) (hvS : (8, v, 0) ∈ (x f).2.1) (hw : plW y z (vt (x f).1 v) T ρ os o) (hfu : fuL y (klo (x f)) v ρ T) (hkv : (y.1 (vt (x f).1 v) = 5 ∨ y.1 (vt (x f).1 v) = 6) → kal (x f) v) (htop : top < 2 ^ 31) (hal : ∀ u : Nat, al2 u → kal (x f) u) (hk : lCk (tb (x f).1) (kH (x f)) (fun u => (u < 40 ∧ al2 u) ∨ (40 ≤ u ∧ u < 40 + wl (x f).2.1)) v ρ (k = 1)) (hd0 : hd l0) (h0 : ¬ (tb (x f).1).2.2.2.1 l0) (h1 : (tb (x f).1).1 l0 = v) (h2 : (tb (x f).1).2.1 l0 = ρ) (h3 : k = 2 → ¬ (tb (x f).1).2.2.1 l0) (hrf : (tb (x f).1).2.2.2.2 v ↔ (y.1 (vt (x f).1 v) = 5 ∨ y.1 (vt (x f).1 v) = 6)) (hl2 : (y.1 (vt (x f).1 v) = 5 ∨ y.1 (vt (x f).1 v) = 6) → ∀ l : Nat, kH (x f) v l → hd l) (h6 : k = 2 → (y.1 (vt (x f).1 v) = 5 ∨ y.1 (vt (x f).1 v) = 6) → y.1 (vt (x f).1 v) = 6) (hc : ∀ k : Nat, k < top → c2 k = c k) (hct : c2 top = (rA c (fb f + vo (x f).1 v) os o : Int)) : ∃ a : lLc, kS y z vt vo vc tb hp tk c2 f (kUx x f ((x f).1, (k, T, m) :: (x f).2.1, 0, lUp (kR (x f)) (40 + wl (x f).2.1) (some a), lUp (kH (x f)) (40 + wl (x f).2.1) hd, al2, klo (x f), kAn (x f))) fb (top + 1) fil := by
  obtain ⟨rt, ra, V, hJ, hL⟩ := h
  have hf := Nat.le_refl f
  have hcr := hy.2.2.2.1 T hT9
  have hun : y.1 t = 6 ↔ k = 2 := by
    rcases hkt with ⟨rfl, rfl⟩ | ⟨rfl, rfl⟩
    · rw [hcr.1]; decide
    · rw [hcr.2.2.1]; decide
  have hk1 : k = 1 ↔ ¬ (y.1 t = 6) := by
    rw [hun]
    rcases hkt with ⟨rfl, -⟩ | ⟨rfl, -⟩ <;> decide
  have hk2 : lCk (tb (x f).1) (kH (x f)) (fun u => (u < 40 ∧ al2 u) ∨ (40 ≤ u ∧ u < 40 + wl (x f).2.1)) v ρ (¬ (y.1 t = 6)) := fun u l g1 g2 g3 g4 g5 => (hk u l g1 g2 g3 g4 g5).imp (hk1.mp) id
  obtain ⟨d, π, d1, d2, d3, d4, d5, d6, d7⟩ := pl_loc hy hJ hL hv4 hvS hw hfu hkv htop
  have hct2 : c2 top = (qAd y z c rt ra (d :: π) : Int) := by rw [hct, ← d4]; rfl
  have iv := hJ.2.1.1 f hf
  rcases d7 with ⟨rfl, rfl, n5, n6⟩ | ⟨π0, ρ2, e1, rfl, rfl, h56, e2⟩
  · obtain ⟨b1, b2⟩ := lBw_var (t := 40 + wl (x f).2.1) (un := y.1 t = 6) (hd := hd) iv (kA_to hn hal) hk2 hd0 h0 h1 h2 (fun q => h3 (hun.mp q)) (fun q => (hrf.mp q).elim n5 n6)
    exact ⟨(f, v) :: π, kS_pushR hy hJ hL hn hl hno hT9 hkt hal ⟨(f, v), π, rfl, d1, d2, d3⟩ b1 b2 hc hct2⟩
  · have hkr : rt (f, v) = vt (x f).1 v := (hJ.2.2.2.2.2.2.1 f hf v hv4 hvS).1
    obtain ⟨b1, b2⟩ := lBw_ref (t := 40 + wl (x f).2.1) (un := y.1 t = 6) (hd := hd) (r := ρ2) iv (kA_to hn hal) (Or.inl ⟨hv4, hkv h56⟩) e1 hk2 (fun q => by show y.1 (rt (f, v)) = 6; rw [hkr]; exact h6 (hun.mp q) h56) hd0 (hl2 h56) h0 h1 h2 (fun q => h3 (hun.mp q)) hv4
    exact ⟨(d :: π0) ++ ρ2, kS_pushR hy hJ hL hn hl hno hT9 hkt hal ⟨d, π0 ++ ρ2, rfl, d1, d2, d3⟩ b1 b2 hc hct2⟩
end
end
-- f0.s7.lean.txt
section
theorem qG_nil {V W : qV} : qG V [] W = W := funext fun π => rfl
section
variable {y : qY} {z : qZ} {vt vo : Nat → Nat → Nat} {vc : Nat → Nat} {tb : Nat → lTb} {hp : Nat} {tk tk2 : Nat → Prop} {c c2 : Nat → Int} {f : Nat} {x : Nat → kFm} {rt ra : Nat × Nat → Nat} {V : Nat × Nat → qV} {fb : Nat → Nat} {top : Nat} {fil fil2 : Nat → Nat → Nat → Prop} {v T o : Nat} {ρ σ : lLc} {os : List Nat}
/-- a place is cut out of its variable; its cells stay as they are -/
theorem kL_cut (hJ : kJ y vt tb f x rt V) (hL : kL y z vt vo vc hp tk c f x rt ra V fb top fil) {B : Nat} {R2 : Nat → Option lLc} {al2 : Nat → Prop} {lo2 : Nat → lLc → Prop} (hn : (x f).2.2.1 = 0) (hz : qLy y z) (hv4 : v < 40) (hvS : (8, v, 0) ∈ (x f).2.1) (hmt : ∀ r m : Nat, (5, r, m) ∉ (x f).2.1 ∧ (6, r, m) ∉ (x f).2.1) (hm : qM σ) (hσ : qW y (vt (x f).1 v) σ B) (hR : ∀ u : Nat, u ≠ v → R2 u = kR (x f) u) (hRv : R2 v = kR (x f) v ∨ R2 v = none) (hal : ∀ u : Nat, al2 u → kal (x f) u) (hf1 : ∀ j w : Nat, (j, w) ≠ (f, v) → fil2 j w = fil j w) (hf2 : ∀ k : Nat, fil2 f v k → fil f v k ∧ ¬ (qA y z (fun _ => 0) (vt (x f).1 v) 0 σ ≤ k ∧ k < qA y z (fun _ => 0) (vt (x f).1 v) 0 σ + z.1 B)) : kL y z vt vo vc hp tk c f (kUx x f ((x f).1, (x f).2.1, 0, R2, kH (x f), al2, lo2, kAn (x f))) rt ra (qUp V (f, v) (qC (V (f, v)) σ)) fb top fil2 := by
  have hw := hL
  obtain ⟨l0, l1, l2, l3, l4, l5, l6, l7, l8, l9⟩ := hL
  have hf := Nat.le_refl f
  have ne : ∀ j u : Nat, j ≠ f ∨ 40 ≤ u → ((j, u) : Nat × Nat) ≠ (f, v) := fun j u h q => by
    injection q with q1 q2
    rcases h with h | h
    · exact h q1
    · omega
  have sub : ∀ (r : Nat × Nat) (π : lLc) (w : Nat × Nat), qUp V (f, v) (qC (V (f, v)) σ) r π = some w → V r π = some w := fun r π w hw => by
    by_cases e : r = (f, v)
    · rw [e, qUp_eq] at hw; rw [e]; exact (qC_some hw).2
    · rw [qUp_ne e] at hw; exact hw
  have q : qMm y z hp tk c rt ra (qUp V (f, v) (qC (V (f, v)) σ)) := qMm_sub l0 (fun r => by
    by_cases e : r = (f, v)
    · rw [e, qUp_eq]; exact qOk_C (l0.1 _) hm
    · rw [qUp_ne e]; exact l0.1 r) sub
  refine kL_var hJ hw hn (fun j u h => ⟨rfl, rfl, qUp_ne (ne j u h)⟩) (fun u hu => hR u (by omega)) ⟨[], fun e he => by simp at he, Or.inl rfl⟩ hmt q (fun _ _ _ _ _ => rfl) (fun _ _ _ _ _ _ _ => rfl) (fun u a u4 hu ha hw9 => ?_) (fun w w4 hwS => l3 f hf w w4 hwS) (fun j hj => funext fun w => hf1 j w (fun q => hj (by injection q))) (fun w w4 hwS π t hm1 hq hk hfl => ?_) (fun u π w u4 hw9 => l8 f u π w u4 (sub _ _ _ hw9))
  · obtain ⟨w, hw9⟩ := hw9
    have ha2 : kR (x f) u = some a := by
      by_cases e : u = v
      · rw [e] at ha ⊢
        rcases hRv with z | z
        · rw [← z]; exact ha
        · rw [z] at ha; simp at ha
      · rw [← hR u e]; exact ha
    exact l1 f hf u a (Or.inl (Or.inl ⟨u4, hal u hu⟩)) ha2 ⟨w, sub _ _ _ hw9⟩
  · by_cases e : w = v
    · subst e
      obtain ⟨g1, g2⟩ := hf2 _ hfl
      obtain ⟨w9, hw9⟩ := l7 f hf w w4 hwS π t hm1 hq hk g1
      refine ⟨w9, ?_⟩
      rw [qUp_eq, qC_out]; exact hw9
      intro q
      obtain ⟨τ, rfl⟩ := q
      obtain ⟨B2, v1, v2⟩ := qW_cut hq
      obtain rfl := qW_det hσ v1
      have mτ := (qM_app.mp hm1).2
      refine g2 ?_
      have i1 := qA_in (c := c) hz (a := qA y z c (vt (x f).1 w) 0 σ) v2 (qN_M mτ)
      have i2 := qA_sh (z := z) (c := c) (c2 := fun _ => 0) (a := 0) (b := 0) hσ (qN_M hm)
      have p1 := hz.1 t
      rw [qA_app hσ]
      constructor <;> omega
    · rw [qUp_ne (fun q => e (by injection q))]
      rw [hf1 f w (fun q => e (by injection q))] at hfl
      exact l7 f hf w w4 hwS π t hm1 hq hk hfl
/-- a value is moved out of its place -/
theorem kS_mv (hy : kYs y z vt vo vc) (h : kS y z vt vo vc tb hp tk c f x fb top fil) (hn : (x f).2.2.1 = 0) (hl : wl (x f).2.1 < 211) (hno : ∀ r m2 : Nat, (5, r, m2) ∉ (x f).2.1 ∧ (6, r, m2) ∉ (x f).2.1) {B : Nat} {al2 : Nat → Prop} {lo2 : Nat → lLc → Prop} (hT0 : T ≠ 0) (hT5 : y.1 T ≠ 5) (hT6 : y.1 T ≠ 6) (hv4 : v < 40) (hvS : (8, v, 0) ∈ (x f).2.1) (hw : qW y (vt (x f).1 v) ρ T) (hm : qM σ) (hσ : qW y (vt (x f).1 v) σ B) (hσρ : (ρ = σ ∧ ∀ k : Nat, tk k → tk2 k) ∨ (ρ = σ ++ [(1, 0)] ∧ ∀ k : Nat, tk k → ¬ (rA c (fb f + vo (x f).1 v) os o ≤ k ∧ k < rA c (fb f + vo (x f).1 v) os o + z.1 T) → tk2 k)) (hrt : os = (rtU y z (vt (x f).1 v) 0 ρ).1 ∧ o = (rtU y z (vt (x f).1 v) 0 ρ).2) (hfu : fuL y (klo (x f)) v ρ T) (hal : ∀ u : Nat, al2 u → kal (x f) u) (hlo : ∀ (w : Nat) (π : lLc), ¬ lo2 w π → ¬ klo (x f) w π ∧ (w = v → ¬ lCmp π σ)) (hk : lCk (tb (x f).1) (kH (x f)) (fun u => (u < 40 ∧ al2 u) ∨ (40 ≤ u ∧ u < 40 + wl (x f).2.1)) v ρ False) (hc1 : ∀ i : Nat, i < z.1 T → c2 (top + i) = c (rA c (fb f + vo (x f).1 v) os o + i)) (hc2 : ∀ k : Nat, ¬ (top ≤ k ∧ k < top + z.1 T) → c2 k = c k) (hf1 : ∀ j w : Nat, (j, w) ≠ (f, v) → fil2 j w = fil j w) (hf2 : ∀ k : Nat, fil2 f v k → fil f v k ∧ ¬ (qA y z (fun _ => 0) (vt (x f).1 v) 0 σ ≤ k ∧ k < qA y z (fun _ => 0) (vt (x f).1 v) 0 σ + z.1 B)) : kS y z vt vo vc tb hp tk2 c2 f (kUx x f ((x f).1, (0, T, 0) :: (x f).2.1, 0, lUp (kR (x f)) (40 + wl (x f).2.1) none, kH (x f), al2, lo2, kAn (x f))) fb (top + z.1 T) fil2 := by
  obtain ⟨rt, ra, V, hJ, hL⟩ := h
  have hf := Nat.le_refl f
  have hms : qMs ρ := by
    rcases hσρ with ⟨rfl, -⟩ | ⟨rfl, -⟩
    · exact qMs_M hm
    · intro a ha
      rcases List.mem_append.mp ha with q | q
      · exact Or.inl (hm a q)
      · rw [List.mem_singleton.mp q]; exact Or.inr rfl
  obtain ⟨F1, F2⟩ := pl_A hJ hv4 hvS hw hms hfu
  have hra : ra (f, v) = fb f + vo (x f).1 v := hL.2.2.2.1 f hf v hv4 hvS
  have eA : qA y z c (rt (f, v)) (ra (f, v)) ρ = rA c (fb f + vo (x f).1 v) os o := by
    rw [F2, ← hra, hrt.1, hrt.2]
    exact rtF_A (o := 0)
  have wρ : qW y (rt (f, v)) ρ T := by rw [F2]; exact hw
  have wσ : qW y (rt (f, v)) σ B := by rw [F2]; exact hσ
  have iv := hJ.2.1.1 f hf
  have hcc : ∀ (u : Nat) (b : lLc), ((u < 40 ∧ al2 u) ∨ (40 ≤ u ∧ u < 40 + wl (x f).2.1)) → kR (x f) u = some b → ¬ lCmp b ((f, v) :: σ) := fun u b hu hb hcm => by
    have hA := kA_to hn hal u hu
    obtain ⟨-, r, π, rfl, -, w1, -⟩ := hJ.2.2.1 f hf u b hA hb
    refine (lAc_var iv (kA_to hn hal) hk hu hb ?_).1
    obtain ⟨rfl, hcm2⟩ := lCmp_cons hcm
    clear hcm
    rcases hσρ with ⟨rfl, -⟩ | ⟨rfl, -⟩
    · exact hcm2.imp lP_consI lP_consI
    · rcases hcm2 with q | q
      · exact Or.inl (lP_consI (lP_tr q (lP_app _ _)))
      · obtain ⟨s, rfl⟩ := q
        cases s with
        | nil => rw [List.append_nil]; exact Or.inl (lP_consI (lP_app _ _))
        | cons a s =>
          obtain ⟨T2, v1, v2⟩ := qW_cut w1
          obtain rfl := qW_det wσ v1
          obtain ⟨T3, v3, v4⟩ := qW_cut wρ
          obtain rfl := qW_det wσ v3
          have h4 : y.1 B = 4 := v4.2.1
          obtain ⟨q, i⟩ := a
          refine Or.inr (lP_consI ?_)
          match q, v2 with
          | 0, v2 => exact absurd (h4.symm.trans v2.1) (by decide)
          | 1, v2 =>
            obtain rfl : i = 0 := v2.1
            exact ⟨s, by rw [List.append_assoc]; rfl⟩
          | g + 2, v2 => exact absurd (h4.symm.trans v2.1) (by decide)
  have j1 := kJ_cut hJ (σ := σ) (R2 := kR (x f)) (al2 := al2) (lo2 := lo2) hn hv4 hno hm (fun _ _ => rfl) (Or.inl rfl) hal hlo hcc
  have l1 := kL_cut (lo2 := lo2) (R2 := kR (x f)) hJ hL hn hy.1 hv4 hvS hno hm hσ (fun _ _ => rfl) (Or.inl rfl) hal hf1 hf2
  generalize hx1 : kUx x f ((x f).1, (x f).2.1, 0, kR (x f), kH (x f), al2, lo2, kAn (x f)) = x1 at j1 l1
  have e1 : x1 f = ((x f).1, (x f).2.1, 0, kR (x f), kH (x f), al2, lo2, kAn (x f)) := by rw [← hx1, kUx_eq]
  have eS : (x1 f).2.1 = (x f).2.1 := by rw [e1]
  have hu : qFu y T (qS (V (f, v)) ρ) := qFu_S (hL.1.1 _) wρ F1
  have hk0 : kNm (0, T, 0) := by unfold kNm; simp
  obtain ⟨q1, q2, q3⟩ := qMm_tp (c2 := c) (t := T) hy hJ hL hl (fun _ _ => rfl)
  have hnd : ((f, v) : Nat × Nat) ≠ (f, 40 + wl (x f).2.1) := fun q => by injection q with _ q; omega
  have hd0 : ∀ (r : Nat × Nat) (π : lLc) (w : Nat × Nat), V r π = some w → r ≠ (f, 40 + wl (x f).2.1) := fun r π w hw q => by
    rw [q, kNo hJ (Nat.le_refl _) (by omega) π] at hw; simp at hw
  have q := qMvT (tk2 := tk2) (c2 := c2) hy.1 q1 (s := (f, v)) (d := (f, 40 + wl (x f).2.1)) (σ := ρ) (ρ := []) (T1 := T) (Vs := qC (V (f, v)) σ) hnd (by rw [qRt_ne hnd]; exact wρ) (by rw [qRt_eq]; rfl) (by rw [qRt_ne hnd]; exact qOk_C (hL.1.1 _) hm) (fun π w hw => by
      obtain ⟨g1, g2⟩ := qC_some hw
      refine ⟨g2, fun q => g1 ?_⟩
      rcases hσρ with ⟨rfl, -⟩ | ⟨rfl, -⟩
      · exact q
      · exact lP_tr (lP_app _ _) q) (by rw [qRt_eq, qG_nil]; exact hu.1) (fun ρ1 j ρ2 e => by simp at e) (fun r π w hw _ _ => by
      have hr := hd0 r π w hw
      rw [qRt_eq, qRt_eq, qRt_ne hr, qRt_ne hr]
      have := kLt hy hJ hL hw
      show ¬ (top ≤ _ ∧ _)
      omega) (by rw [qRt_eq, qRt_eq]; exact hc2) (by
      rw [qRt_eq, qRt_eq, qRt_ne hnd, qRt_ne hnd, eA]; exact hc1) q2 (fun r π w hr hw => Or.inl (by
      have hw2 : V r π = some w := by
        by_cases e : r = (f, v)
        · rw [e, qUp_eq] at hw; rw [e]; exact (qC_some hw).2
        · rw [qUp_ne e] at hw; exact hw
      rw [qRt_eq]
      exact q3 r π w hr hw2)) (fun r0 π0 t g b hv0 k4 hs _ hb k g1 g2 => by
      have hr := hd0 r0 π0 _ hv0
      rw [qRt_ne hr, qRt_ne hr] at hb
      obtain ⟨b9, b1, b2, b3⟩ := (hL.1.2.1 r0 π0 t g hv0).2 k4
      rw [hb] at b1
      have b1 : b = b9 := by omega
      subst b1
      have htk := b3 k g1 g2
      rcases hσρ with ⟨rfl, q⟩ | ⟨rfl, q⟩
      · exact q k htk
      · refine q k htk (fun g3 => ?_)
        obtain ⟨T3, v3, v4⟩ := qW_cut wρ
        obtain rfl := qW_det wσ v3
        have h4 : y.1 B = 4 := v4.2.1
        obtain ⟨⟨t1, g5⟩, e5⟩ := qPl_par (hL.1.1 (f, v)) (ρ1 := σ) (j := 0) (ρ2 := []) (qF_pl F1)
        obtain rfl := qW_det ((hL.1.1 (f, v)).1 σ t1 g5 e5).1 wσ
        obtain ⟨bb, c1, c3, -⟩ := (hL.1.2.1 (f, v) σ t1 g5 e5).2 h4
        have e6 : rA c (fb f + vo (x f).1 v) os o = bb := by
          rw [← eA, qA_app wσ]
          show (c _).toNat = bb
          rw [c1, Int.toNat_natCast]
        have e7 : y.2.1 t1 = T := v4.2.2.symm
        have ap := hL.1.2.2.1 r0 π0 t g (f, v) σ t1 g5 b bb hv0 e5 k4 h4 (fun q => by
          injection q with q1 q2
          rcases hs q1 with z9 | ⟨w, z9⟩
          · obtain ⟨s, z9⟩ := z9
            have := congrArg List.length z9
            rw [q2] at this
            simp only [List.length_append, List.length_cons, List.length_nil] at this
            omega
          · exact absurd (by rw [q2]; exact lP_rf σ) (qC_some z9).1) hb c1
        rw [e7] at ap
        omega)
  rw [qG_nil] at q
  have j := kJ_push (hd := kH (x1 f) (40 + wl (x1 f).2.1)) j1 hk0 (by rw [e1]) (by rw [eS]; exact hl) hu.1 (fun w hw => by
    obtain ⟨a, b⟩ := w
    have e9 : a = T := (hu.1.1 [] a b hw).1
    show y.1 a ≠ 5 ∧ y.1 a ≠ 6
    rw [e9]
    exact ⟨hT5, hT6⟩) (e := (0, T, 0)) ⟨lUp_eq, hT5, hT6, fun _ => ⟨qRt_eq, by rw [qUp_eq]; exact hu.2⟩, fun q => absurd q hT0⟩
  have l := kL_push (ro := none) (hd := kH (x1 f) (40 + wl (x1 f).2.1)) (al2 := kal (x1 f)) (e := (0, T, 0)) (t := T) (W := qS (V (f, v)) ρ) (tk2 := tk2) (c2 := c2) hy j1 l1 hk0 (by rw [e1]) (fun u q => q) (by rw [eS]; exact q) (fun r π w hw => by
    have := kLt hy j1 l1 hw
    exact hc2 _ (by omega)) (fun _ => qRt_eq) (fun a q => by simp at q)
  rw [lUp_self] at j l
  rw [e1, ← hx1, kUx2] at j l
  rw [show kes z (0, T, 0) = z.1 T from if_neg hT0] at l
  exact ⟨_, _, _, j, l⟩
/-- a reference is moved out of its variable -/
theorem kS_mvR (hy : kYs y z vt vo vc) (h : kS y z vt vo vc tb hp tk c f x fb top fil) (hn : (x f).2.2.1 = 0) (hl : wl (x f).2.1 < 211) (hno : ∀ r m2 : Nat, (5, r, m2) ∉ (x f).2.1 ∧ (6, r, m2) ∉ (x f).2.1) {m U : Nat} {al2 : Nat → Prop} {lo2 : Nat → lLc → Prop} (hU : U < 10000) (hv4 : v < 40) (hvS : (8, v, 0) ∈ (x f).2.1) (hvt : vt (x f).1 v = 10001 + 2 * U) (hkv : kal (x f) v) (hlv : ¬ klo (x f) v []) (hal : ∀ u : Nat, al2 u → kal (x f) u ∧ u ≠ v) (hlo : ∀ (w : Nat) (π : lLc), ¬ lo2 w π → ¬ klo (x f) w π ∧ (w = v → ¬ lCmp π [])) (hk : lCk (tb (x f).1) (kH (x f)) (fun u => (u < 40 ∧ al2 u) ∨ (40 ≤ u ∧ u < 40 + wl (x f).2.1)) v [] False) (hc : ∀ k : Nat, k < top → c2 k = c k) (hct : c2 top = c (fb f + vo (x f).1 v)) (hf1 : ∀ j w : Nat, (j, w) ≠ (f, v) → fil2 j w = fil j w) (hf2 : ∀ k : Nat, fil2 f v k → fil f v k ∧ k ≠ 0) : ∃ a : lLc, kS y z vt vo vc tb hp tk c2 f (kUx x f ((x f).1, (2, U, m) :: (x f).2.1, 0, lUp (lUp (kR (x f)) v none) (40 + wl (x f).2.1) (some a), lUp (kH (x f)) (40 + wl (x f).2.1) (kH (x f) v), al2, lo2, kAn (x f))) fb (top + 1) fil2 := by
  obtain ⟨rt, ra, V, hJ, hL⟩ := h
  have hf := Nat.le_refl f
  have hcr := hy.2.2.2.1 U hU
  have h6 : y.1 (vt (x f).1 v) = 6 := by rw [hvt]; exact hcr.2.2.1
  obtain ⟨d, π, w, a1, a2, a3, a4, a5, a6, a7⟩ := pl_B hJ hL hv4 hvS hkv (Or.inr h6) hlv
  have hra : ra (f, v) = fb f + vo (x f).1 v := hL.2.2.2.1 f hf v hv4 hvS
  have eU : y.2.1 (vt (x f).1 v) = U := by rw [hvt]; exact hcr.2.2.2
  rw [eU] at a3 a4
  have iv := hJ.2.1.1 f hf
  have hal1 : ∀ u : Nat, al2 u → kal (x f) u := fun u q => (hal u q).1
  have hA2 : ∀ u : Nat, ((u < 40 ∧ al2 u) ∨ (40 ≤ u ∧ u < 40 + wl (x f).2.1)) → kA (x f) u ∧ u ≠ v := fun u hu => ⟨kA_to hn hal1 u hu, by
    rcases hu with q | q
    · exact (hal u q.2).2
    · omega⟩
  have hcc : ∀ (u : Nat) (b : lLc), ((u < 40 ∧ al2 u) ∨ (40 ≤ u ∧ u < 40 + wl (x f).2.1)) → kR (x f) u = some b → ¬ lCmp b ((f, v) :: []) := fun u b hu hb hcm => (lAc_var iv (kA_to hn hal1) hk hu hb hcm).1
  have hRn : ∀ u : Nat, u ≠ v → lUp (kR (x f)) v none u = kR (x f) u := fun u q => lUp_ne q
  have hcc2 : ∀ (u : Nat) (b : lLc), ((u < 40 ∧ al2 u) ∨ (40 ≤ u ∧ u < 40 + wl (x f).2.1)) → lUp (kR (x f)) v none u = some b → ¬ lCmp b ((f, v) :: []) := fun u b hu hb => hcc u b hu (by rw [← hRn u (hA2 u hu).2]; exact hb)
  obtain ⟨b1, b2⟩ := lBw_move (t := 40 + wl (x f).2.1) (un := y.1 (10001 + 2 * U) = 6) (hd := kH (x f) v) iv hA2 (Or.inl ⟨hv4, hkv⟩) a1 hk (fun _ => by show y.1 (rt (f, v)) = 6; rw [a7]; exact h6) (fun l q => q)
  have zz : z.1 (vt (x f).1 v) = 1 := by rw [hvt]; exact (hy.2.1.2 U).2
  have j1 := kJ_cut hJ (σ := []) (R2 := lUp (kR (x f)) v none) (al2 := al2) (lo2 := lo2) hn hv4 hno qM_nil hRn (Or.inr ⟨lUp_eq, rfl⟩) hal1 hlo hcc2
  have l1 := kL_cut (lo2 := lo2) (R2 := lUp (kR (x f)) v none) (σ := []) (B := vt (x f).1 v) hJ hL hn hy.1 hv4 hvS hno qM_nil rfl hRn (Or.inr lUp_eq) hal1 hf1 (fun k q => by
    obtain ⟨g1, g2⟩ := hf2 k q
    refine ⟨g1, fun g3 => g2 ?_⟩
    have g3 : 0 ≤ k ∧ k < 0 + z.1 (vt (x f).1 v) := g3
    omega)
  generalize hx1 : kUx x f ((x f).1, (x f).2.1, 0, lUp (kR (x f)) v none, kH (x f), al2, lo2, kAn (x f)) = x1 at j1 l1
  have e1 : x1 f = ((x f).1, (x f).2.1, 0, lUp (kR (x f)) v none, kH (x f), al2, lo2, kAn (x f)) := by rw [← hx1, kUx_eq]
  have eS : (x1 f).2.1 = (x f).2.1 := by rw [e1]
  have htg : qTg y rt (qUp V (f, v) (qC (V (f, v)) [])) (d :: π) U := by
    refine ⟨d, π, rfl, a2, a3, ?_⟩
    have hdv : d ≠ (f, v) := fun e => by
      subst e
      have q := (hL.1.1 (f, v)).1
      have : rt (f, v) = vt (x f).1 v := a7
      cases π with
      | nil =>
        have a3 : U = rt (f, v) := a3
        have h9 := hy.2.2.2.2 (vt (x f).1 v) (Or.inr h6)
        rw [eU, a3, this] at h9
        exact h9.2 h6
      | cons s π =>
        obtain ⟨q, i⟩ := s
        rw [this] at a3
        match q, a3 with
        | 0, a3 => exact absurd (h6.symm.trans a3.1) (by decide)
        | 1, a3 => exact absurd (h6.symm.trans a3.2.1) (by decide)
        | g + 2, a3 => exact absurd (h6.symm.trans a3.1) (by decide)
    rw [qUp_ne hdv]; exact a4
  have r := kS_pushR (c2 := c2) (m := m) (k := 2) (t := 10001 + 2 * U) (U := U) (a := d :: π) (hd := kH (x f) v) (al2 := al2) hy j1 l1 (by rw [e1]) (by rw [eS]; exact hl) (by rw [eS]; exact hno) hU (Or.inr ⟨rfl, rfl⟩) (by rw [e1]; exact fun u q => q) htg (by rw [e1]; exact b1) (by
    rw [e1]
    intro u hu b hb
    have hne := (hA2 u hu).2
    have hb : lUp (kR (x f)) v none u = some b := hb
    have hb2 : kR (x f) u = some b := by rw [← hRn u hne]; exact hb
    exact b2 u hu b hb2) hc (by
    rw [hct, ← hra, a6]; rfl)
  rw [e1, ← hx1, kUx2] at r
  exact ⟨d :: π, r⟩
end
end
