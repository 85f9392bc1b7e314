/-- an item as its reader makes it -/
def itC (tk nm : Nat) (kd : Int32) (mn : Nat) (lv : Nat) (na : Nat) (wr ty vr lf lo rs bl pm : Value) (va : Nat) : va_E := .inr (16, [.int (nI tk), .int (nI nm), .int kd, .int (nI mn), .int 0, .int 0, .int (nI lv), .int 0, .ref na, wr, ty, vr, lf, lo, rs, .null, bl, pm, .int (nI va), .int 0, .int 0, .int 0])
/-- types as written in a row: their tokens one behind the other -/
def chT (L : List Nat) (F : Nat → va_E) (fk : Nat → Int32) (f : Nat → Option Nat) (n p q : Nat) : Prop :=
  ∃ ps : Nat → Nat, ps 0 = p ∧ ps n = q ∧ ∀ i : Nat, i < n → ∃ t p' q' : Nat, f i = some t ∧ ps i ≤ p' ∧ q' ≤ ps (i + 1) ∧ isT L F fk 17 t p' q'
theorem chT_0 {L : List Nat} {F : Nat → va_E} {fk : Nat → Int32} {f : Nat → Option Nat} {p : Nat} : chT L F fk f 0 p p := ⟨fun _ => p, rfl, rfl, fun i hi => absurd hi (by omega)⟩
theorem chT_im {L L2 : List Nat} {F F2 : Nat → va_E} {fk : Nat → Int32} {f f2 : Nat → Option Nat} {n p q : Nat} (hx : exS L F L2 F2) (hf : ∀ i : Nat, i < n → f2 i = f i) (h : chT L F fk f n p q) : chT L2 F2 fk f2 n p q := by
  obtain ⟨ps, h1, h2, h3⟩ := h
  refine ⟨ps, h1, h2, fun i hi => ?_⟩
  obtain ⟨t, p', q', g1, g2, g3, g4⟩ := h3 i hi
  exact ⟨t, p', q', (hf i hi).trans g1, g2, g3, isT_ex hx g4⟩
theorem chT_add {L : List Nat} {F : Nat → va_E} {fk : Nat → Int32} {f f2 : Nat → Option Nat} {n p q t p' q' q2 : Nat} (h : chT L F fk f n p q) (hs : ∀ i : Nat, i < n → f2 i = f i) (hf : f2 n = some t) (h1 : q ≤ p') (h2 : q' ≤ q2) (ht : isT L F fk 17 t p' q') : chT L F fk f2 (n + 1) p q2 := by
  obtain ⟨ps, g1, g2, g3⟩ := h
  refine ⟨fun j => if j = n + 1 then q2 else ps j, (if_neg (by omega)).trans g1, if_pos rfl, fun i hi => ?_⟩
  dsimp only
  rw [if_neg (show i ≠ n + 1 by omega)]
  by_cases e : i = n
  · subst e
    rw [if_pos rfl, g2]
    exact ⟨t, p', q', hf, h1, h2, ht⟩
  · rw [if_neg (by omega), hs i (by omega)]
    exact g3 i (by omega)
/-- the parts of a variant -/
def isPa (L : List Nat) (F : Nat → va_E) (fk : Nat → Int32) (kW kT : ClassId) (a p q : Nat) : Prop :=
  a ∈ L ∧ p ≤ q ∧ (F a = .inr (17, [.int 0, .null, .null]) ∨ ∃ (wa ta mk q' : Nat) (f : Nat → Option Nat), F a = .inr (17, [.int (nI mk), .ref wa, .ref ta]) ∧ mk ≤ 12 ∧ wa ∈ L ∧ ta ∈ L ∧ F wa = .inl (kW, 12, .inr (.inr (.inr (.inr f)))) ∧ F ta = .inl (kT, 12, .inr (.inr (.inr (.inr (fun _ => none))))) ∧ q' ≤ q ∧ chT L F fk f mk p q')
theorem isPa_ex {L L2 : List Nat} {F F2 : Nat → va_E} {fk : Nat → Int32} {kW kT : ClassId} {a p q : Nat} (hx : exS L F L2 F2) (h : isPa L F fk kW kT a p q) : isPa L2 F2 fk kW kT a p q := by
  obtain ⟨h1, h2⟩ := hx a h.1
  refine ⟨h1, h.2.1, ?_⟩
  rw [h2]
  rcases h.2.2 with h | ⟨wa, ta, mk, q', f, k1, k2, k3, k4, k5, k6, k7, k8⟩
  · exact Or.inl h
  · exact Or.inr ⟨wa, ta, mk, q', f, k1, k2, (hx wa k3).1, (hx ta k4).1, (hx wa k3).2.trans k5, (hx ta k4).2.trans k6, k7, chT_im hx (fun _ _ => rfl) k8⟩
/-- the row of types of a variant's parts -/
def taOf (F : Nat → va_E) (t ta : Nat) : Prop := ∃ x y : Value, F t = .inr (17, [x, y, .ref ta])
theorem isPa_ta {L : List Nat} {F : Nat → va_E} {fk : Nat → Int32} {kW kT : ClassId} {a p q ta : Nat} (h : isPa L F fk kW kT a p q) (g : taOf F a ta) : ta ∈ L := by
  obtain ⟨x, y, g⟩ := g
  rcases h.2.2 with h | ⟨wa, ta2, mk, q', f, k1, k2, k3, k4, k5⟩
  · rw [h] at g; cases g
  · rw [k1] at g; cases g; exact k4
/-- variants in a row, each with rows of its own -/
def chV (L : List Nat) (F : Nat → va_E) (fk : Nat → Int32) (kW kT : ClassId) (f : Nat → Option Nat) (n p q : Nat) : Prop :=
  ∃ ps : Nat → Nat, ps 0 = p ∧ ps n = q ∧ (∀ i : Nat, i < n → ∃ t p' q' : Nat, f i = some t ∧ ps i ≤ p' ∧ q' ≤ ps (i + 1) ∧ isPa L F fk kW kT t p' q') ∧ ∀ i j t u ta : Nat, i < j → j < n → f i = some t → f j = some u → taOf F t ta → taOf F u ta → False
theorem chV_0 {L : List Nat} {F : Nat → va_E} {fk : Nat → Int32} {kW kT : ClassId} {f : Nat → Option Nat} {p : Nat} : chV L F fk kW kT f 0 p p := ⟨fun _ => p, rfl, rfl, fun i hi => absurd hi (by omega), fun i j t u ta h1 h2 => absurd h2 (by omega)⟩
theorem chV_im {L L2 : List Nat} {F F2 : Nat → va_E} {fk : Nat → Int32} {kW kT : ClassId} {f f2 : Nat → Option Nat} {n p q : Nat} (hx : exS L F L2 F2) (hf : ∀ i : Nat, i < n → f2 i = f i) (h : chV L F fk kW kT f n p q) : chV L2 F2 fk kW kT f2 n p q := by
  obtain ⟨ps, h1, h2, h3, h4⟩ := h
  refine ⟨ps, h1, h2, fun i hi => ?_, fun i j t u ta hij hj e1 e2 g1 g2 => ?_⟩
  · obtain ⟨t, p', q', g1, g2, g3, g4⟩ := h3 i hi
    exact ⟨t, p', q', (hf i hi).trans g1, g2, g3, isPa_ex hx g4⟩
  · rw [hf i (by omega)] at e1
    rw [hf j hj] at e2
    obtain ⟨t2, _, _, k1, _, _, k2⟩ := h3 i (by omega)
    obtain ⟨u2, _, _, k3, _, _, k4⟩ := h3 j hj
    rw [k1] at e1; cases e1
    rw [k3] at e2; cases e2
    unfold taOf at g1 g2
    rw [(hx _ k2.1).2] at g1
    rw [(hx _ k4.1).2] at g2
    exact h4 i j _ _ ta hij hj k1 k3 g1 g2
theorem chV_add {L : List Nat} {F : Nat → va_E} {fk : Nat → Int32} {kW kT : ClassId} {f f2 : Nat → Option Nat} {n p q t p' q' q2 : Nat} (h : chV L F fk kW kT f n p q) (hs : ∀ i : Nat, i < n → f2 i = f i) (hf : f2 n = some t) (h1 : q ≤ p') (h2 : q' ≤ q2) (ht : isPa L F fk kW kT t p' q') (hn : ∀ i u ta : Nat, i < n → f i = some u → taOf F u ta → taOf F t ta → False) : chV L F fk kW kT f2 (n + 1) p q2 := by
  obtain ⟨ps, g1, g2, g3, g4⟩ := h
  refine ⟨fun j => if j = n + 1 then q2 else ps j, (if_neg (by omega)).trans g1, if_pos rfl, fun i hi => ?_, fun i j t9 u ta hij hj e1 e2 k1 k2 => ?_⟩
  · dsimp only
    rw [if_neg (show i ≠ n + 1 by omega)]
    by_cases e : i = n
    · subst e
      rw [if_pos rfl, g2]
      exact ⟨t, p', q', hf, h1, h2, ht⟩
    · rw [if_neg (by omega), hs i (by omega)]
      exact g3 i (by omega)
  · rw [hs i (by omega)] at e1
    by_cases e : j = n
    · subst e
      rw [hf] at e2; cases e2
      exact hn i t9 ta hij e1 k1 k2
    · rw [hs j (by omega)] at e2
      exact g4 i j t9 u ta hij (by omega) e1 e2 k1 k2
/-- an item in the store: tokens p to q, its body (of a function) from m on -/
def isI (L : List Nat) (F : Nat → va_E) (fk : Nat → Int32) (kE kI kS kB kA kV kW kT kP : ClassId) (a p m q : Nat) : Prop :=
  a ∈ L ∧ p + 1 < m ∧ m ≤ q ∧ ∃ (mn na : Nat) (g : Nat → Int32), na ∈ L ∧ F na = .inl (kI, 13, .inl g) ∧ mn ≤ 12 ∧ (∀ i : Nat, i < mn → ∃ s : Nat, g i = nI s ∧ p < s ∧ s < m) ∧
   ((∃ (wa ta q' : Nat) (f : Nat → Option Nat), F a = itC p (p + 1) 10 mn 0 na (.ref wa) (.ref ta) .null .null .null .null .null .null 0 ∧ (m = q ∧ 1 ≤ mn) ∧ wa ∈ L ∧ ta ∈ L ∧ F wa = .inl (kW, 13, .inr (.inr (.inr (.inr f)))) ∧ F ta = .inl (kT, 13, .inr (.inr (.inr (.inr (fun _ => none))))) ∧ q' ≤ m ∧ chT L F fk f mn (p + 1) q') ∨
    (∃ (vr q' : Nat) (f : Nat → Option Nat), F a = itC p (p + 1) 11 mn 0 na .null .null (.ref vr) .null .null .null .null .null 0 ∧ (m = q ∧ 1 ≤ mn) ∧ vr ∈ L ∧ F vr = .inl (kP, 13, .inr (.inr (.inr (.inr f)))) ∧ q' ≤ m ∧ chV L F fk kW kT f mn (p + 1) q') ∨
    (∃ (lv wa ta pa lf lo q' va b bl : Nat) (rs : Value) (f : Nat → Option Nat) (gl : Nat → Int32), F a = itC p (p + 1) 12 mn lv na (.ref wa) (.ref ta) .null (.ref lf) (.ref lo) rs (.ref bl) (.ref pa) va ∧ wa ∈ L ∧ ta ∈ L ∧ pa ∈ L ∧ lf ∈ L ∧ lo ∈ L ∧ F wa = .inl (kW, 13, .inr (.inr (.inr (.inr f)))) ∧ F ta = .inl (kT, 13, .inr (.inr (.inr (.inr (fun _ => none))))) ∧ F pa = .inl (kV, 13, .inr (.inr (.inr (.inr (fun _ => none))))) ∧ F lf = .inl (kI, 8, .inl gl) ∧ F lo = .inl (kI, 13, .inl (fun _ => 0)) ∧ lv ≤ 8 ∧ (∀ i : Nat, i < lv → ∃ s : Nat, gl i = nI s ∧ p < s ∧ s < m) ∧ chT L F fk f mn (p + 1) q' ∧ q' ≤ m ∧ (rs = .null ∨ ∃ t p' q2 : Nat, rs = .ref t ∧ q' ≤ p' ∧ q2 ≤ m ∧ isT L F fk 17 t p' q2) ∧ va ≤ 40 ∧ b ≤ 54 ∧ isN L F fk kE kI kS kB kA kV 40 1 bl m q 0 b mn va))
theorem isI_ex {L L2 : List Nat} {F F2 : Nat → va_E} {fk : Nat → Int32} {kE kI kS kB kA kV kW kT kP : ClassId} {a p m q : Nat} (hx : exS L F L2 F2) (h : isI L F fk kE kI kS kB kA kV kW kT kP a p m q) : isI L2 F2 fk kE kI kS kB kA kV kW kT kP a p m q := by
  obtain ⟨h1, h2, h3, mn, na, g, h4, h5, h6, h7, h8⟩ := h
  refine ⟨(hx a h1).1, h2, h3, mn, na, g, (hx na h4).1, (hx na h4).2.trans h5, h6, h7, ?_⟩
  rw [(hx a h1).2]
  rcases h8 with ⟨wa, ta, q', f, k1, k2, k3, k4, k5, k6, k7, k8⟩ | ⟨vr, q', f, k1, k2, k3, k4, k5, k6⟩ | ⟨lv, wa, ta, pa, lf, lo, q', va, b, bl, rs, f, gl, k1, k2, k3, k4, k5, k6, k7, k8, k9, l1, l2, l3, l4, l5, l6, l7, l8, l9, m1⟩
  · exact Or.inl ⟨wa, ta, q', f, k1, k2, (hx wa k3).1, (hx ta k4).1, (hx wa k3).2.trans k5, (hx ta k4).2.trans k6, k7, chT_im hx (fun _ _ => rfl) k8⟩
  · exact Or.inr (Or.inl ⟨vr, q', f, k1, k2, (hx vr k3).1, (hx vr k3).2.trans k4, k5, chV_im hx (fun _ _ => rfl) k6⟩)
  · refine Or.inr (Or.inr ⟨lv, wa, ta, pa, lf, lo, q', va, b, bl, rs, f, gl, k1, (hx wa k2).1, (hx ta k3).1, (hx pa k4).1, (hx lf k5).1, (hx lo k6).1, (hx wa k2).2.trans k7, (hx ta k3).2.trans k8, (hx pa k4).2.trans k9, (hx lf k5).2.trans l1, (hx lo k6).2.trans l2, l3, l4, chT_im hx (fun _ _ => rfl) l5, l6, ?_, l8, l9, isN_im hx _ (Nat.le_refl _) m1⟩)
    rcases l7 with l7 | ⟨t, p', q2, e1, e2, e3, e4⟩
    · exact Or.inl l7
    · exact Or.inr ⟨t, p', q2, e1, e2, e3, isT_ex hx e4⟩
/-- its row of parameters came behind the store L -/
def paN (F : Nat → va_E) (a : Nat) (L : List Nat) : Prop := ∀ (fs : List Value) (pa : Nat), F a = .inr (16, fs) → fs[17]? = some (.ref pa) → pa ∉ L
/-- items in a row; their rows of parameters are not the same -/
def chI (L : List Nat) (F : Nat → va_E) (fk : Nat → Int32) (kE kI kS kB kA kV kW kT kP : ClassId) (f : Nat → Option Nat) (n q : Nat) : Prop :=
  ∃ ps ms xs : Nat → Nat, ps 0 = 0 ∧ ps n = q ∧ (∀ i : Nat, i < n → f i = some (xs i) ∧ isI L F fk kE kI kS kB kA kV kW kT kP (xs i) (ps i) (ms i) (ps (i + 1))) ∧ ∀ i j pa : Nat, i < j → j < n → ∀ fs gs : List Value, F (xs i) = .inr (16, fs) → F (xs j) = .inr (16, gs) → fs[17]? = some (.ref pa) → gs[17]? = some (.ref pa) → False
theorem chI_0 {L : List Nat} {F : Nat → va_E} {fk : Nat → Int32} {kE kI kS kB kA kV kW kT kP : ClassId} {f : Nat → Option Nat} : chI L F fk kE kI kS kB kA kV kW kT kP f 0 0 := ⟨fun _ => 0, fun _ => 0, fun _ => 0, rfl, rfl, fun i hi => absurd hi (by omega), fun i j pa _ hj => absurd hj (by omega)⟩
theorem isI_pa {L : List Nat} {F : Nat → va_E} {fk : Nat → Int32} {kE kI kS kB kA kV kW kT kP : ClassId} {a p m q pa : Nat} {fs : List Value} (h : isI L F fk kE kI kS kB kA kV kW kT kP a p m q) (hF : F a = .inr (16, fs)) (hp : fs[17]? = some (.ref pa)) : pa ∈ L := by
  obtain ⟨h1, h2, h3, mn, na, g, h4, h5, h6, h7, h8⟩ := h
  rcases h8 with ⟨wa, ta, q', f, k1, _⟩ | ⟨vr, q', f, k1, _⟩ | ⟨lv, wa, ta, pa2, lf, lo, q', va, b, bl, rs, f, gl, k1, k2, k3, k4, _⟩
  · rw [k1] at hF; cases hF; cases hp
  · rw [k1] at hF; cases hF; cases hp
  · rw [k1] at hF; cases hF; cases hp; exact k4
theorem chI_add {L L2 : List Nat} {F F2 : Nat → va_E} {fk : Nat → Int32} {kE kI kS kB kA kV kW kT kP : ClassId} {f f2 : Nat → Option Nat} {n q x m q2 : Nat} (hx : exS L F L2 F2) (h : chI L F fk kE kI kS kB kA kV kW kT kP f n q) (hs : ∀ i : Nat, i < n → f2 i = f i) (hf : f2 n = some x) (hi : isI L2 F2 fk kE kI kS kB kA kV kW kT kP x q m q2) (hp : paN F2 x L) : chI L2 F2 fk kE kI kS kB kA kV kW kT kP f2 (n + 1) q2 := by
  obtain ⟨ps, ms, xs, g1, g2, g3, g4⟩ := h
  refine ⟨fun j => if j = n + 1 then q2 else ps j, fun j => if j = n then m else ms j, fun j => if j = n then x else xs j, (if_neg (by omega)).trans g1, if_pos rfl, fun i hi2 => ?_, fun i j pa hij hj fs gs e1 e2 e3 e4 => ?_⟩
  · dsimp only
    rw [if_neg (show i ≠ n + 1 by omega)]
    by_cases e : i = n
    · subst e
      rw [if_pos rfl, if_pos rfl, if_pos rfl, g2]
      exact ⟨hf, hi⟩
    · rw [if_neg e, if_neg e, if_neg (by omega), hs i (by omega)]
      obtain ⟨k1, k2⟩ := g3 i (by omega)
      exact ⟨k1, isI_ex hx k2⟩
  · dsimp only at e1 e2
    rw [if_neg (show i ≠ n by omega)] at e1
    obtain ⟨k1, k2⟩ := g3 i (by omega)
    rw [(hx _ k2.1).2] at e1
    by_cases e : j = n
    · rw [if_pos e] at e2
      exact hp gs pa e2 e4 (isI_pa k2 e1 e3)
    · rw [if_neg e] at e2
      rw [(hx _ (g3 j (by omega)).2.1).2] at e2
      exact g4 i j pa hij (by omega) fs gs e1 e2 e3 e4
