/-- what is looked at of a frame: used variables, values, a matched reference -/
def lv2 (S : List tE) (al : Nat → Prop) (u : Nat) : Prop := (u < 40 ∧ al u) ∨ (40 ≤ u ∧ u < 40 + wl S) ∨ (u = 300 ∧ ∃ r m : Nat, (5, r, m) ∈ S ∨ (6, r, m) ∈ S)
theorem kUx2 {x : Nat → kFm} {f : Nat} {A B : kFm} : kUx (kUx x f A) f B = kUx x f B := funext fun j => by
  unfold kUx
  by_cases e : j = f
  · rw [if_pos e, if_pos e]
  · rw [if_neg e, if_neg e, if_neg e]
theorem lUp_self {α : Type} {g : Nat → α} {t : Nat} : lUp g t (g t) = g := funext fun u => by
  by_cases e : u = t
  · rw [e, lUp_eq]
  · rw [lUp_ne e]
def kS (y : qY) (z : qZ) (vt vo : Nat → Nat → Nat) (vc : Nat → Nat) (tb : Nat → lTb) (hp : Nat) (tk : Nat → Prop) (c : Nat → Int) (f : Nat) (x : Nat → kFm) (fb : Nat → Nat) (top : Nat) (fil : Nat → Nat → Nat → Prop) : Prop := ∃ (rt ra : Nat × Nat → Nat) (V : Nat × Nat → qV), kJ y vt tb f x rt V ∧ kL y z vt vo vc hp tk c f x rt ra V fb top fil
section
variable {y : qY} {z : qZ} {vt vo : Nat → Nat → Nat} {vc : Nat → Nat} {tb : Nat → lTb} {hp : Nat} {tk : Nat → Prop} {c c2 : Nat → Int} {f : Nat} {x : Nat → kFm} {rt ra : Nat × Nat → Nat} {V : Nat × Nat → qV} {fb : Nat → Nat} {top : Nat} {fil : Nat → Nat → Nat → Prop}
theorem kJ_wk2 (h : kJ y vt tb f x rt V) {H2 : Nat → Nat → Prop} {al2 : Nat → Prop} {lo2 : Nat → lLc → Prop} (hn : (x f).2.2.1 = 0) (hH : ∀ (u : Nat) (a : lLc) (l : Nat), lv2 (x f).2.1 al2 u → kR (x f) u = some a → kH (x f) u l → H2 u l) (hal : ∀ u : Nat, al2 u → kal (x f) u) (hlo : ∀ (v : Nat) (π : lLc), v < 40 → (8, v, 0) ∈ (x f).2.1 → klo (x f) v π → lo2 v π) : kJ y vt tb f (kUx x f ((x f).1, (x f).2.1, 0, kR (x f), H2, al2, lo2, kAn (x f))) rt V := by
  have hw := h
  obtain ⟨h0, h1, h2, h3, h4, h5, h6, h7, h8⟩ := h
  have hA : ∀ u : Nat, kA ((x f).1, (x f).2.1, 0, kR (x f), H2, al2, lo2, kAn (x f)) u → kA (x f) u := fun u hu => by
    rcases hu with ⟨a, b⟩ | ⟨a, b⟩
    · exact Or.inl ⟨a, hal u b⟩
    · exact Or.inr ⟨a, by rw [hn]; exact b⟩
  have hf := Nat.le_refl f
  refine kJ_top hw _ rfl rfl (fun j u hj => ⟨rfl, rfl⟩) (fun u => h0 (f, u)) (lIv_mono2 (h1.1 f hf) (fun u a hu ha => ⟨hA u hu, ha⟩) (fun u a l hu ha hl => hH u a l (hu.imp id Or.inl) ha hl) (fun u a _ _ => Iff.rfl)) (fun u a hu ha => h2 f hf u a (hA u hu) ha) (fun u t g hv hk hu => h3 f hf u t g hv hk (hA u hu)) (kK_cg (h4 f hf) (fun u _ => ⟨rfl, rfl, rfl⟩)) (fun u π z hz => (h5 f u π z hz).2) (fun v v4 hv => ⟨(h6 f hf v v4 hv).1, fun π T g1 g2 g3 => (h6 f hf v v4 hv).2 π T g1 g2 (fun q => g3 (hlo v π v4 hv q))⟩) (fun r m => ?_) (h8 f hf)
  have go : ∀ q : Nat, (∃ r m : Nat, (5, r, m) ∈ (x f).2.1 ∨ (6, r, m) ∈ (x f).2.1) → kPm y rt V f (tb (x f).1) (x f) q r m → kPm y rt V f (tb (x f).1) ((x f).1, (x f).2.1, 0, kR (x f), H2, al2, lo2, kAn (x f)) q r m := fun q hm hq => by
    have hq2 := hq
    obtain ⟨a0, π, p1, -⟩ := hq2
    exact kPm_cg hq rfl (fun u b a1 a2 => ⟨hA u a1, a2⟩) (fun _ _ _ _ => rfl) (fun l hl => hH 300 _ l (Or.inr (Or.inr ⟨rfl, hm⟩)) p1 hl) rfl (fun _ _ _ _ => ⟨rfl, rfl⟩)
  exact ⟨fun z => go 5 ⟨r, m, Or.inl z⟩ ((h7 f hf r m).1 z).2, fun z => go 6 ⟨r, m, Or.inr z⟩ ((h7 f hf r m).2 z).2⟩
theorem kL_wk (hJ : kJ y vt tb f x rt V) (h : kL y z vt vo vc hp tk c f x rt ra V fb top fil) {H2 : Nat → Nat → Prop} {al2 : Nat → Prop} {lo2 : Nat → lLc → Prop} (hn : (x f).2.2.1 = 0) (hal : ∀ u : Nat, al2 u → kal (x f) u) : kL y z vt vo vc hp tk c f (kUx x f ((x f).1, (x f).2.1, 0, kR (x f), H2, al2, lo2, kAn (x f))) rt ra V fb top fil := by
  have hL := h
  obtain ⟨l0, l1, l2, l3, l4, l5, l6, l7, l8, l9⟩ := h
  have hf := Nat.le_refl f
  refine kL_top hJ hL _ rfl l0 (fun j u hj => ⟨rfl, rfl, rfl⟩) (fun _ _ _ _ _ => rfl) (fun _ _ _ _ _ _ _ => rfl) (fun u a hu ha hw => l1 f hf u a ?_ ha hw) (l2 f hf) (l3 f hf) l6 (fun _ _ => rfl) (l7 f hf) (fun u π w u4 hw => l8 f u π w u4 hw) (l9 f hf)
  rcases hu with hu | hu
  · left
    rcases hu with ⟨a, b⟩ | ⟨a, b⟩
    · exact Or.inl ⟨a, hal u b⟩
    · exact Or.inr ⟨a, by rw [hn]; exact b⟩
  · exact Or.inr hu
theorem kS_wk (h : kS y z vt vo vc tb hp tk c f x fb top fil) {H2 : Nat → Nat → Prop} {al2 : Nat → Prop} {lo2 : Nat → lLc → Prop} (hn : (x f).2.2.1 = 0) (hH : ∀ (u : Nat) (a : lLc) (l : Nat), lv2 (x f).2.1 al2 u → kR (x f) u = some a → kH (x f) u l → H2 u l) (hal : ∀ u : Nat, al2 u → kal (x f) u) (hlo : ∀ (v : Nat) (π : lLc), v < 40 → (8, v, 0) ∈ (x f).2.1 → klo (x f) v π → lo2 v π) : kS y z vt vo vc tb hp tk c f (kUx x f ((x f).1, (x f).2.1, 0, kR (x f), H2, al2, lo2, kAn (x f))) fb top fil := by
  obtain ⟨rt, ra, V, hJ, hL⟩ := h
  exact ⟨rt, ra, V, kJ_wk2 hJ hn hH hal hlo, kL_wk hJ hL hn hal⟩
theorem kTopF (h : kL y z vt vo vc hp tk c f x rt ra V fb top fil) : hp ≤ fb f ∧ fb f ≤ top ∧ top = fb f + vc (x f).1 + khs z (x f).2.1 := by
  obtain ⟨l0, l1, l2, l3, l4, l5, l6, l7, l8, l9⟩ := h
  have := kFb0 l5 (Nat.le_refl f)
  exact ⟨by omega, by omega, l6⟩
/-- a root that no entry stands for is empty -/
theorem kNo (hJ : kJ y vt tb f x rt V) {u : Nat} (h : 40 + wl (x f).2.1 ≤ u) (h3 : u < 300) (π : lLc) : V (f, u) π = none := by
  cases e : V (f, u) π with
  | none => rfl
  | some w =>
    obtain ⟨-, q, -⟩ := hJ.2.2.2.2.2.1 f u π w e
    rcases q with ⟨q, -⟩ | ⟨q1, q2⟩ | ⟨q, -⟩ | ⟨r, m, i, -, q, -⟩ <;> omega
theorem qMm_cl (h : qMm y z hp tk c rt ra V) {n : Nat} : qMm y z hp tk c rt ra (kCl V f n) := by
  refine qMm_sub h (fun r => ?_) (fun r π w hw => ?_)
  · unfold kCl
    by_cases e : r.1 = f ∧ 40 + n ≤ r.2 ∧ r.2 < 300
    · rw [if_pos e]; exact qOk_none
    · rw [if_neg e]; exact h.1 r
  · unfold kCl at hw
    by_cases e : r.1 = f ∧ 40 + n ≤ r.2 ∧ r.2 < 300
    · rw [if_pos e] at hw; simp at hw
    · rw [if_neg e] at hw; exact hw
theorem kS_pop (h : kS y z vt vo vc tb hp tk c f x fb top fil) {E S : List tE} (hS : (x f).2.1 = E ++ S) (hE : ∀ e : tE, e ∈ E → kNm e) (hn : (x f).2.2.1 = 0) : kS y z vt vo vc tb hp tk c f (kUx x f ((x f).1, S, 0, kR (x f), kH (x f), kal (x f), klo (x f), kAn (x f))) fb (fb f + vc (x f).1 + khs z S) fil := by
  obtain ⟨rt, ra, V, hJ, hL⟩ := h
  exact ⟨rt, ra, kCl V f (wl S), kJ_pop hJ hS hE hn, kL_pop hJ hL hS hE hn (qMm_cl hL.1)⟩
/-- cells at the top and above may be written -/
theorem kTopC (hy : kYs y z vt vo vc) (hJ : kJ y vt tb f x rt V) (h : kL y z vt vo vc hp tk c f x rt ra V fb top fil) (hc : ∀ k : Nat, k < top → c2 k = c k) : ∀ (r : Nat × Nat) (π : lLc) (w : Nat × Nat), V r π = some w → c2 (qA y z c (rt r) (ra r) π) = c (qA y z c (rt r) (ra r) π) := fun r π w hw => hc _ (kLt hy hJ h hw)
/-- a root on top that is still empty: its type and address are free -/
theorem qMm_tp (hy : kYs y z vt vo vc) (hJ : kJ y vt tb f x rt V) (h : kL y z vt vo vc hp tk c f x rt ra V fb top fil) (hl : wl (x f).2.1 < 211) (hc : ∀ k : Nat, k < top → c2 k = c k) {t : Nat} : qMm y z hp tk c2 (qRt rt (f, 40 + wl (x f).2.1) t) (qRt ra (f, 40 + wl (x f).2.1) top) V ∧ hp ≤ qRt ra (f, 40 + wl (x f).2.1) top (f, 40 + wl (x f).2.1) ∧ ∀ (r : Nat × Nat) (π : lLc) (w : Nat × Nat), r ≠ (f, 40 + wl (x f).2.1) → V r π = some w → qRt ra (f, 40 + wl (x f).2.1) top r + z.1 (qRt rt (f, 40 + wl (x f).2.1) t r) ≤ top := by
  refine ⟨qMm_em (qMm_c h.1 (kTopC hy hJ h hc)) (fun r => ?_), ?_, fun r π w hr hw => ?_⟩
  · by_cases e : r = (f, 40 + wl (x f).2.1)
    · subst e
      exact Or.inl (fun π => kNo hJ (Nat.le_refl _) (by omega) π)
    · exact Or.inr ⟨qRt_ne e, qRt_ne e⟩
  · rw [qRt_eq]
    have := kTopF h
    omega
  · rw [qRt_ne hr, qRt_ne hr]
    exact (kTop hy.1 hy.2.1 hy.2.2.1 hJ h hw).2.1
/-- a plain value comes on top -/
theorem kS_push0 (hy : kYs y z vt vo vc) (h : kS y z vt vo vc tb hp tk c f x fb top fil) (hn : (x f).2.2.1 = 0) (hl : wl (x f).2.1 < 211) {e : tE} {t : Nat} (he : (∃ m : Nat, e = (0, t, m) ∧ t ≠ 0) ∨ (∃ gg m : Nat, e = (3, gg, m) ∧ t = 1 ∧ c2 top = (gg : Int))) (ht : y.1 t = 0) (hc : ∀ k : Nat, k < top → c2 k = c k) : kS y z vt vo vc tb hp tk c2 f (kUx x f ((x f).1, e :: (x f).2.1, 0, lUp (kR (x f)) (40 + wl (x f).2.1) none, kH (x f), kal (x f), klo (x f), kAn (x f))) fb (top + kes z e) fil := by
  obtain ⟨rt, ra, V, hJ, hL⟩ := h
  have hk : kNm e := by
    rcases he with ⟨m, rfl, -⟩ | ⟨gg, m, rfl, -⟩ <;> (unfold kNm; simp)
  have hu : qFu y t (qL t) := qFu_L (by rw [ht]; decide) (by rw [ht]; decide) (by rw [ht]; decide)
  have hnr : ∀ w : Nat × Nat, qL t [] = some w → y.1 w.1 ≠ 5 ∧ y.1 w.1 ≠ 6 := fun w hw => by
    have hw : some (t, 0) = some w := hw
    injection hw with hw
    subst hw
    rw [ht]; decide
  obtain ⟨q1, q2, q3⟩ := qMm_tp (t := t) hy hJ hL hl hc
  have q := qMm_pl q1 (d := (f, 40 + wl (x f).2.1)) (by rw [qRt_eq, ht]; decide) (by rw [qRt_eq, ht]; decide) (by rw [qRt_eq, ht]; decide) q2 (fun r π w hr hw => Or.inl (by rw [qRt_eq]; exact q3 r π w hr hw))
  rw [qRt_eq] at q
  have j := kJ_push (hd := kH (x f) (40 + wl (x f).2.1)) hJ hk hn hl hu.1 hnr (e := e) (t := t) (by
    rcases he with ⟨m, rfl, t0⟩ | ⟨gg, m, rfl, rfl, -⟩
    · refine ⟨lUp_eq, by rw [ht]; decide, by rw [ht]; decide, fun _ => ⟨qRt_eq, ?_⟩, fun q => absurd q t0⟩
      rw [qUp_eq]; exact hu.2
    · exact ⟨lUp_eq, qRt_eq, (1, 0), by rw [qUp_eq]; rfl⟩)
  have l := kL_push (ro := none) (hd := kH (x f) (40 + wl (x f).2.1)) (al2 := kal (x f)) (e := e) hy hJ hL hk hn (fun u q => q) q (kTopC hy hJ hL hc) (by
    rcases he with ⟨m, rfl, t0⟩ | ⟨gg, m, rfl, rfl, e1⟩
    · exact fun _ => qRt_eq
    · exact ⟨qRt_eq, e1⟩) (fun a q => by simp at q)
  rw [lUp_self] at j l
  exact ⟨_, _, _, j, l⟩
/-- a struct that has no member yet comes on top -/
theorem kS_push7 (hy : kYs y z vt vo vc) (h : kS y z vt vo vc tb hp tk c f x fb top fil) (hn : (x f).2.2.1 = 0) (hl : wl (x f).2.1 < 211) {t : Nat} (ht : y.1 t = 2) : kS y z vt vo vc tb hp tk c f (kUx x f ((x f).1, (7, t, 0) :: (x f).2.1, 0, lUp (kR (x f)) (40 + wl (x f).2.1) none, kH (x f), kal (x f), klo (x f), kAn (x f))) fb (top + kes z (7, t, 0)) fil := by
  obtain ⟨rt, ra, V, hJ, hL⟩ := h
  have hk : kNm (7, t, 0) := by unfold kNm; simp
  obtain ⟨q1, q2, q3⟩ := qMm_tp (c2 := c) (t := t) hy hJ hL hl (fun _ _ => rfl)
  have ev : qUp V (f, 40 + wl (x f).2.1) (fun _ => none) = V := funext fun r => by
    by_cases e : r = (f, 40 + wl (x f).2.1)
    · subst e; rw [qUp_eq]
      exact funext fun π => (kNo hJ (Nat.le_refl _) (by omega) π).symm
    · rw [qUp_ne e]
  have j := kJ_push (hd := kH (x f) (40 + wl (x f).2.1)) hJ hk hn hl (W := fun _ => none) (t := t) qOk_none (fun w hw => by simp at hw) (by
    refine ⟨lUp_eq, ht, qRt_eq, fun i hi hb => ?_⟩
    rw [Nat.zero_testBit] at hb
    exact absurd hb (by decide))
  have l := kL_push (ro := none) (hd := kH (x f) (40 + wl (x f).2.1)) (al2 := kal (x f)) (e := (7, t, 0)) (W := fun _ => none) hy hJ hL hk hn (fun u q => q) (by rw [ev]; exact q1) (fun _ _ _ _ => rfl) qRt_eq (fun a q => by simp at q)
  rw [lUp_self] at j l
  exact ⟨_, _, _, j, l⟩
end
