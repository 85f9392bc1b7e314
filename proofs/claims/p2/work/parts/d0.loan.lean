-- d0.loan.lean.txt
section
/-- a place's way: first (frame, variable), then (0, j) member j, (1, 0) star, (g + 2, j) part j of variant g -/
abbrev lLc := List (Nat × Nat)
def lP (a b : lLc) : Prop := ∃ s : lLc, b = a ++ s
def lCmp (a b : lLc) : Prop := lP a b ∨ lP b a
theorem lP_rf (a : lLc) : lP a a := ⟨[], (List.append_nil a).symm⟩
theorem lP_app (a s : lLc) : lP a (a ++ s) := ⟨s, rfl⟩
theorem lP_tr {a b c : lLc} (h1 : lP a b) (h2 : lP b c) : lP a c := by
  obtain ⟨s, rfl⟩ := h1
  obtain ⟨t, rfl⟩ := h2
  exact ⟨s ++ t, List.append_assoc a s t⟩
theorem lP_cons {x y : Nat × Nat} {a b : lLc} (h : lP (x :: a) (y :: b)) : x = y ∧ lP a b := by
  obtain ⟨s, h⟩ := h
  rw [List.cons_append] at h
  injection h with h1 h2
  exact ⟨h1.symm, s, h2⟩
theorem lP_consI {x : Nat × Nat} {a b : lLc} (h : lP a b) : lP (x :: a) (x :: b) := by
  obtain ⟨s, rfl⟩ := h
  exact ⟨s, rfl⟩
theorem lP_shift {a s t : lLc} (h : lP (a ++ s) (a ++ t)) : lP s t := by
  induction a with
  | nil => exact h
  | cons x a ih => exact ih (lP_cons h).2
theorem lP_shiftI {a s t : lLc} (h : lP s t) : lP (a ++ s) (a ++ t) := by
  obtain ⟨r, rfl⟩ := h
  exact ⟨r, (List.append_assoc a s r).symm⟩
theorem lP_two : ∀ {a b c : lLc}, lP a c → lP b c → lCmp a b
  | [], b, _, _, _ => Or.inl ⟨b, rfl⟩
  | x :: a, [], _, _, _ => Or.inr ⟨x :: a, rfl⟩
  | x :: a, y :: b, c, h1, h2 => by
    obtain ⟨s, rfl⟩ := h1
    obtain ⟨e, h3⟩ := lP_cons (show lP (y :: b) (x :: (a ++ s)) from h2)
    subst e
    rcases lP_two (lP_app a s) h3 with h | h
    · exact Or.inl (lP_consI h)
    · exact Or.inr (lP_consI h)
theorem lCmp_sym {a b : lLc} (h : lCmp a b) : lCmp b a := h.elim Or.inr Or.inl
theorem lCmp_pre {x a y : lLc} (h : lP x a) (c : lCmp a y) : lCmp x y := by
  rcases c with c | c
  · exact Or.inl (lP_tr h c)
  · exact lP_two h c
theorem lCmp_cons {x y : Nat × Nat} {a b : lLc} (h : lCmp (x :: a) (y :: b)) : x = y ∧ lCmp a b := by
  rcases h with h | h
  · exact ⟨(lP_cons h).1, Or.inl (lP_cons h).2⟩
  · exact ⟨(lP_cons h).1.symm, Or.inr (lP_cons h).2⟩
theorem lCmp_shift {a s t : lLc} (h : lCmp (a ++ s) (a ++ t)) : lCmp s t := h.elim (fun h => Or.inl (lP_shift h)) (fun h => Or.inr (lP_shift h))
theorem lP_head {x : Nat × Nat} {a b : lLc} (h : lP (x :: a) b) : ∃ c : lLc, b = x :: c ∧ lP a c := by
  obtain ⟨s, rfl⟩ := h
  exact ⟨a ++ s, rfl, lP_app a s⟩
theorem lP_anti {a b : lLc} (h1 : lP a b) (h2 : lP b a) : a = b := by
  obtain ⟨s, rfl⟩ := h1
  obtain ⟨t, h⟩ := h2
  have e := congrArg List.length h
  simp only [List.length_append] at e
  have : s = [] := List.eq_nil_of_length_eq_zero (by omega)
  subst this
  exact (List.append_nil a).symm
/-- a function's loans: lv variable, lp way, sh shared, ou outer; rf: the variable is a reference -/
abbrev lTb := (Nat → Nat) × (Nat → lLc) × (Nat → Prop) × (Nat → Prop) × (Nat → Prop)
/-- holders of a frame: R where each reference leads, A those that are still used, H the loans that they hold, U the unique ones -/
abbrev lFr := (Nat → Option lLc) × (Nat → Prop) × (Nat → Nat → Prop) × (Nat → Prop)
/-- u holds a loan of a place on w by which it is where it is -/
def lRt (tb : lTb) (H : Nat → Nat → Prop) (U : Nat → Prop) (u w : Nat) (a b : lLc) : Prop := w < 40 ∧ ∃ (l : Nat) (π : lLc), ¬ tb.2.2.2.1 l ∧ H u l ∧ tb.1 l = w ∧ tb.2.1 l = (1, 0) :: π ∧ lP (b ++ π) a ∧ (U u → ¬ tb.2.2.1 l)
/-- a place of a frame below f -/
def lUn (f : Nat) (a : lLc) : Prop := ∃ (j v : Nat) (r : lLc), a = (j, v) :: r ∧ j < f
/-- of a holder at place a: the loan of its frame's variable, or the outer one (An: loan, place, 1 unique) -/
def lOk (f : Nat) (tb : lTb) (An : Nat → lLc → Nat → Prop) (hd : Nat → Prop) (un : Prop) (a : lLc) : Prop := (∃ l : Nat, ¬ tb.2.2.2.1 l ∧ hd l ∧ ¬ tb.2.2.2.2 (tb.1 l) ∧ lP ((f, tb.1 l) :: tb.2.1 l) a ∧ (un → ¬ tb.2.2.1 l)) ∨ (∃ (o : Nat) (e : lLc) (q : Nat), tb.2.2.2.1 o ∧ hd o ∧ An o e q ∧ lP e a ∧ (un → q = 1) ∧ lUn f e)
def lIv (f : Nat) (tb : lTb) (An : Nat → lLc → Nat → Prop) (fr : lFr) : Prop :=
  (∀ (u : Nat) (a : lLc), fr.2.1 u → fr.1 u = some a → lOk f tb An (fr.2.2.1 u) (fr.2.2.2 u) a) ∧
  (∀ (u w : Nat) (a b : lLc), u ≠ w → fr.2.1 u → fr.2.1 w → fr.1 u = some a → fr.1 w = some b → (fr.2.2.2 u ∨ fr.2.2.2 w) → lCmp a b → lRt tb fr.2.2.1 fr.2.2.2 u w a b ∨ lRt tb fr.2.2.1 fr.2.2.2 w u b a)
theorem lRt_mono {tb : lTb} {H H2 : Nat → Nat → Prop} {U U2 : Nat → Prop} {u w : Nat} {a b : lLc} (hH : ∀ l : Nat, H u l → H2 u l) (hU : U2 u → U u) (h : lRt tb H U u w a b) : lRt tb H2 U2 u w a b := by
  obtain ⟨h0, l, π, h1, h2, h3, h4, h5, h6⟩ := h
  exact ⟨h0, l, π, h1, hH l h2, h3, h4, h5, fun x => h6 (hU x)⟩
theorem lOk_mono {f : Nat} {tb : lTb} {An : Nat → lLc → Nat → Prop} {hd hd2 : Nat → Prop} {un un2 : Prop} {a a2 : lLc} (hH : ∀ l : Nat, hd l → hd2 l) (hU : un2 → un) (ha : lP a a2) (h : lOk f tb An hd un a) : lOk f tb An hd2 un2 a2 := by
  rcases h with ⟨l, h1, h2, h3, h4, h5⟩ | ⟨o, e, q, h1, h2, h3, h4, h5, h6⟩
  · exact Or.inl ⟨l, h1, hH l h2, h3, lP_tr h4 ha, fun x => h5 (hU x)⟩
  · exact Or.inr ⟨o, e, q, h1, hH o h2, h3, lP_tr h4 ha, fun x => h5 (hU x), h6⟩
/-- fewer holders, more loans -/
theorem lIv_mono {f : Nat} {tb : lTb} {An : Nat → lLc → Nat → Prop} {fr fr2 : lFr} (h : lIv f tb An fr) (hA : ∀ u : Nat, fr2.2.1 u → fr.2.1 u) (hR : ∀ u : Nat, fr2.2.1 u → fr2.1 u = fr.1 u) (hH : ∀ u l : Nat, fr2.2.1 u → fr.2.2.1 u l → fr2.2.2.1 u l) (hU : ∀ u : Nat, fr2.2.1 u → (fr2.2.2.2 u ↔ fr.2.2.2 u)) : lIv f tb An fr2 := by
  refine ⟨fun u a hu ha => lOk_mono (hH u · hu) (hU u hu).1 (lP_rf a) (h.1 u a (hA u hu) ((hR u hu).symm.trans ha)), fun u w a b hne hu hw ha hb hq hc => ?_⟩
  rcases h.2 u w a b hne (hA u hu) (hA w hw) ((hR u hu).symm.trans ha) ((hR w hw).symm.trans hb) (hq.imp (hU u hu).1 (hU w hw).1) hc with x | x
  · exact Or.inl (lRt_mono (fun l => hH u l hu) (hU u hu).1 x)
  · exact Or.inr (lRt_mono (fun l => hH w l hw) (hU w hw).1 x)
/-- a new holder t beside those of A2 -/
def lUp {α : Type} (g : Nat → α) (t : Nat) (x : α) : Nat → α := fun u => if u = t then x else g u
theorem lUp_eq {α : Type} {g : Nat → α} {t : Nat} {x : α} : lUp g t x t = x := if_pos rfl
theorem lUp_ne {α : Type} {g : Nat → α} {t u : Nat} {x : α} (h : u ≠ t) : lUp g t x u = g u := if_neg h
/-- what a new holder t at place a with the loans hd meets of a holder u -/
def lMt (tb : lTb) (fr : lFr) (t : Nat) (hd : Nat → Prop) (un : Prop) (a : lLc) (u : Nat) : Prop := ∀ b : lLc, fr.1 u = some b → (un ∨ fr.2.2.2 u) → lCmp a b → u < 40 ∧ ∃ (l : Nat) (π : lLc), ¬ tb.2.2.2.1 l ∧ hd l ∧ tb.1 l = u ∧ tb.2.1 l = (1, 0) :: π ∧ lP (b ++ π) a ∧ (un → ¬ tb.2.2.1 l)
theorem lIv_new {f : Nat} {tb : lTb} {An : Nat → lLc → Nat → Prop} {fr : lFr} {A2 : Nat → Prop} {t : Nat} {a : lLc} {hd : Nat → Prop} {un : Prop} (h : lIv f tb An fr) (hA : ∀ u : Nat, A2 u → u ≠ t → fr.2.1 u) (h2 : lOk f tb An hd un a) (h3 : ∀ u : Nat, A2 u → u ≠ t → lMt tb fr t hd un a u) : lIv f tb An (lUp fr.1 t (some a), (fun u => A2 u ∨ u = t), lUp fr.2.2.1 t hd, lUp fr.2.2.2 t un) := by
  refine ⟨fun u b hu hb => ?_, fun u w b c hne hu hw hb hc hq hcm => ?_⟩
  · by_cases e : u = t
    · subst e
      have e1 : lUp fr.1 u (some a) u = some b := hb
      rw [lUp_eq] at e1
      obtain rfl := Option.some.inj e1
      show lOk f tb An (lUp fr.2.2.1 u hd u) (lUp fr.2.2.2 u un u) a
      rw [lUp_eq, lUp_eq]
      exact h2
    · have e1 : lUp fr.1 t (some a) u = some b := hb
      rw [lUp_ne e] at e1
      show lOk f tb An (lUp fr.2.2.1 t hd u) (lUp fr.2.2.2 t un u) b
      rw [lUp_ne e, lUp_ne e]
      exact h.1 u b (hA u (hu.resolve_right e) e) e1
  · have hb : lUp fr.1 t (some a) u = some b := hb
    have hc : lUp fr.1 t (some a) w = some c := hc
    have hq : lUp fr.2.2.2 t un u ∨ lUp fr.2.2.2 t un w := hq
    show lRt tb (lUp fr.2.2.1 t hd) (lUp fr.2.2.2 t un) u w b c ∨ lRt tb (lUp fr.2.2.1 t hd) (lUp fr.2.2.2 t un) w u c b
    by_cases e : u = t
    · subst e
      have ew : w ≠ u := fun z => hne z.symm
      rw [lUp_eq] at hb
      obtain rfl := Option.some.inj hb
      rw [lUp_ne ew] at hc
      rw [lUp_eq, lUp_ne ew] at hq
      obtain ⟨x0, l, π, x1, x2, x3, x4, x5, x6⟩ := h3 w (hw.resolve_right ew) ew c hc hq hcm
      exact Or.inl ⟨x0, l, π, x1, by rw [lUp_eq]; exact x2, x3, x4, x5, by rw [lUp_eq]; exact x6⟩
    · rw [lUp_ne e] at hb
      by_cases ew : w = t
      · subst ew
        rw [lUp_eq] at hc
        obtain rfl := Option.some.inj hc
        rw [lUp_eq, lUp_ne e] at hq
        obtain ⟨x0, l, π, x1, x2, x3, x4, x5, x6⟩ := h3 u (hu.resolve_right e) e b (by assumption) hq.symm (lCmp_sym hcm)
        exact Or.inr ⟨x0, l, π, x1, by rw [lUp_eq]; exact x2, x3, x4, x5, by rw [lUp_eq]; exact x6⟩
      · rw [lUp_ne ew] at hc
        rw [lUp_ne e, lUp_ne ew] at hq
        rcases h.2 u w b c hne (hA u (hu.resolve_right e) e) (hA w (hw.resolve_right ew) ew) hb hc hq hcm with x | x
        · exact Or.inl (lRt_mono (fun l hl => by rw [lUp_ne e]; exact hl) (fun z => by rw [lUp_ne e] at z; exact z) x)
        · exact Or.inr (lRt_mono (fun l hl => by rw [lUp_ne ew]; exact hl) (fun z => by rw [lUp_ne ew] at z; exact z) x)
/-- an access of the place r on variable v meets nothing: A2: those that are used behind it -/
def lCk (tb : lTb) (H : Nat → Nat → Prop) (A2 : Nat → Prop) (v : Nat) (r : lLc) (rd : Prop) : Prop := ∀ u l : Nat, A2 u → H u l → ¬ tb.2.2.2.1 l → tb.1 l = v → lCmp (tb.2.1 l) r → rd ∧ tb.2.2.1 l
/-- no reference: who is used behind and comparable is shared, and it is read -/
theorem lAc_var {f : Nat} {tb : lTb} {An : Nat → lLc → Nat → Prop} {fr : lFr} {A2 : Nat → Prop} {v : Nat} {r : lLc} {rd : Prop} (h : lIv f tb An fr) (hA : ∀ u : Nat, A2 u → fr.2.1 u) (hk : lCk tb fr.2.2.1 A2 v r rd) {u : Nat} {a : lLc} (hu : A2 u) (ha : fr.1 u = some a) (hc : lCmp a ((f, v) :: r)) : rd ∧ ¬ fr.2.2.2 u := by
  rcases h.1 u a (hA u hu) ha with ⟨l, h1, h2, h3, h4, h5⟩ | ⟨o, e, q, h1, h2, h3, h4, h5, h6⟩
  · obtain ⟨e1, e2⟩ := lCmp_cons (lCmp_pre h4 hc)
    obtain ⟨k1, k2⟩ := hk u l hu h2 h1 (by injection e1) e2
    exact ⟨k1, fun z => h5 z k2⟩
  · obtain ⟨j, w, s, rfl, hj⟩ := h6
    obtain ⟨e1, -⟩ := lCmp_cons (lCmp_pre h4 hc)
    injection e1 with e2 e3
    omega
/-- through the reference v: who is used behind and comparable is shared, and it is read; or v is lent from it -/
theorem lAc_ref {f : Nat} {tb : lTb} {An : Nat → lLc → Nat → Prop} {fr : lFr} {A2 : Nat → Prop} {v : Nat} {r : lLc} {rd : Prop} {b : lLc} (h : lIv f tb An fr) (hA : ∀ u : Nat, A2 u → fr.2.1 u) (hv : fr.2.1 v) (hb : fr.1 v = some b) (hk : lCk tb fr.2.2.1 A2 v ((1, 0) :: r) rd) {u : Nat} {a : lLc} (hu : A2 u) (hne : u ≠ v) (ha : fr.1 u = some a) (hq : fr.2.2.2 u ∨ fr.2.2.2 v) (hc : lCmp a (b ++ r)) : (rd ∧ ¬ fr.2.2.2 u) ∨ lRt tb fr.2.2.1 fr.2.2.2 v u b a := by
  have hab : lCmp a b := lCmp_sym (lCmp_pre (lP_app b r) (lCmp_sym hc))
  rcases h.2 u v a b hne (hA u hu) hv ha hb hq hab with x | x
  · obtain ⟨x0, l, π, x1, x2, x3, x4, x5, x6⟩ := x
    have hcm : lCmp (tb.2.1 l) ((1, 0) :: r) := by
      rw [x4]
      rcases lCmp_shift (lCmp_pre x5 hc) with y | y
      · exact Or.inl (lP_consI y)
      · exact Or.inr (lP_consI y)
    obtain ⟨k1, k2⟩ := hk u l hu x2 x1 x3 hcm
    exact Or.inl ⟨k1, fun z => x6 z k2⟩
  · exact Or.inr x
theorem lRt_up {tb : lTb} {H : Nat → Nat → Prop} {U : Nat → Prop} {u w : Nat} {a b : lLc} (h : lRt tb H U u w a b) : lP b a := by
  obtain ⟨-, l, π, -, -, -, -, h5, -⟩ := h
  exact lP_tr (lP_app b π) h5
/-- a loan of a place that isn't behind a reference -/
theorem lBw_var {f : Nat} {tb : lTb} {An : Nat → lLc → Nat → Prop} {fr : lFr} {A2 : Nat → Prop} {v t l0 : Nat} {r : lLc} {un : Prop} {hd : Nat → Prop} (h : lIv f tb An fr) (hA : ∀ u : Nat, A2 u → fr.2.1 u) (hk : lCk tb fr.2.2.1 A2 v r (¬ un)) (hl : hd l0) (h0 : ¬ tb.2.2.2.1 l0) (h1 : tb.1 l0 = v) (h2 : tb.2.1 l0 = r) (h3 : un → ¬ tb.2.2.1 l0) (hv : ¬ tb.2.2.2.2 v) : lOk f tb An hd un ((f, v) :: r) ∧ ∀ u : Nat, A2 u → lMt tb fr t hd un ((f, v) :: r) u := by
  refine ⟨Or.inl ⟨l0, h0, hl, by rw [h1]; exact hv, by rw [h1, h2]; exact lP_rf _, h3⟩, fun u hu b hb hq hc => ?_⟩
  obtain ⟨k1, k2⟩ := lAc_var h hA hk hu hb (lCmp_sym hc)
  exact absurd hq (by rintro (z | z); exact k1 z; exact k2 z)
/-- a loan of a place behind the reference v -/
theorem lBw_ref {f : Nat} {tb : lTb} {An : Nat → lLc → Nat → Prop} {fr : lFr} {A2 : Nat → Prop} {v t l0 : Nat} {r b : lLc} {un : Prop} {hd : Nat → Prop} (h : lIv f tb An fr) (hA : ∀ u : Nat, A2 u → fr.2.1 u) (hv : fr.2.1 v) (hb : fr.1 v = some b) (hk : lCk tb fr.2.2.1 A2 v ((1, 0) :: r) (¬ un)) (hun : un → fr.2.2.2 v) (hl : hd l0) (hl2 : ∀ l : Nat, fr.2.2.1 v l → hd l) (h0 : ¬ tb.2.2.2.1 l0) (h1 : tb.1 l0 = v) (h2 : tb.2.1 l0 = (1, 0) :: r) (h3 : un → ¬ tb.2.2.1 l0) (h40 : v < 40) : lOk f tb An hd un (b ++ r) ∧ ∀ u : Nat, A2 u → lMt tb fr t hd un (b ++ r) u := by
  refine ⟨lOk_mono hl2 hun (lP_app b r) (h.1 v b hv hb), fun u hu a ha hq hc => ?_⟩
  by_cases e : u = v
  · subst e
    obtain rfl := Option.some.inj (hb.symm.trans ha)
    exact ⟨h40, l0, r, h0, hl, h1, h2, lP_rf _, h3⟩
  · rcases lAc_ref h hA hv hb hk hu e ha (hq.symm.imp id hun) (lCmp_sym hc) with ⟨k1, k2⟩ | ⟨x0, l, π, x1, x2, x3, x4, x5, x6⟩
    · exact absurd hq (by rintro (z | z); exact k1 z; exact k2 z)
    · exact ⟨x0, l, π, x1, hl2 l x2, x3, x4, lP_tr x5 (lP_app b r), fun z => x6 (hun z)⟩
/-- a copy of a shared reference -/
theorem lBw_copy {f : Nat} {tb : lTb} {An : Nat → lLc → Nat → Prop} {fr : lFr} {A2 : Nat → Prop} {v t : Nat} {b : lLc} {un : Prop} {hd : Nat → Prop} (h : lIv f tb An fr) (hA : ∀ u : Nat, A2 u → fr.2.1 u) (hv : fr.2.1 v) (hb : fr.1 v = some b) (hn : ¬ fr.2.2.2 v) (hun : ¬ un) (hl2 : ∀ l : Nat, fr.2.2.1 v l → hd l) (hst : ∀ l : Nat, ¬ tb.2.2.2.1 l → tb.1 l = v → tb.2.2.1 l) : lOk f tb An hd un b ∧ ∀ u : Nat, A2 u → lMt tb fr t hd un b u := by
  refine ⟨lOk_mono hl2 (fun z => absurd z hun) (lP_rf b) (h.1 v b hv hb), fun u hu a ha hq hc => ?_⟩
  have hqu : fr.2.2.2 u := hq.resolve_left hun
  have hne : u ≠ v := fun e => hn (e ▸ hqu)
  rcases h.2 u v a b hne (hA u hu) hv ha hb (Or.inl hqu) (lCmp_sym hc) with x | x
  · obtain ⟨x0, l, π, x1, x2, x3, x4, x5, x6⟩ := x
    exact absurd (hst l x1 x3) (x6 hqu)
  · obtain ⟨x0, l, π, x1, x2, x3, x4, x5, x6⟩ := x
    exact ⟨x0, l, π, x1, hl2 l x2, x3, x4, x5, fun z => absurd z hun⟩
/-- a unique reference is moved -/
theorem lBw_move {f : Nat} {tb : lTb} {An : Nat → lLc → Nat → Prop} {fr : lFr} {A2 : Nat → Prop} {v t : Nat} {b : lLc} {un : Prop} {hd : Nat → Prop} (h : lIv f tb An fr) (hA : ∀ u : Nat, A2 u → fr.2.1 u ∧ u ≠ v) (hv : fr.2.1 v) (hb : fr.1 v = some b) (hk : lCk tb fr.2.2.1 A2 v [] False) (hun : un → fr.2.2.2 v) (hl2 : ∀ l : Nat, fr.2.2.1 v l → hd l) : lOk f tb An hd un b ∧ ∀ u : Nat, A2 u → lMt tb fr t hd un b u := by
  refine ⟨lOk_mono hl2 hun (lP_rf b) (h.1 v b hv hb), fun u hu a ha hq hc => ?_⟩
  rcases h.2 u v a b (hA u hu).2 (hA u hu).1 hv ha hb (hq.symm.imp id hun) (lCmp_sym hc) with x | x
  · obtain ⟨x0, l, π, x1, x2, x3, x4, x5, x6⟩ := x
    exact ((hk u l hu x2 x1 x3 (Or.inr ⟨_, rfl⟩)).1).elim
  · obtain ⟨x0, l, π, x1, x2, x3, x4, x5, x6⟩ := x
    exact ⟨x0, l, π, x1, hl2 l x2, x3, x4, x5, fun z => x6 (hun z)⟩
/-- a value that no place leads to (w, at least 40) goes to another holder -/
theorem lBw_pop {f : Nat} {tb : lTb} {An : Nat → lLc → Nat → Prop} {fr : lFr} {A2 : Nat → Prop} {w t : Nat} {b : lLc} {un : Prop} {hd : Nat → Prop} (h : lIv f tb An fr) (hA : ∀ u : Nat, A2 u → fr.2.1 u ∧ u ≠ w) (h40 : 40 ≤ w) (hv : fr.2.1 w) (hb : fr.1 w = some b) (hun : un → fr.2.2.2 w) (hl2 : ∀ l : Nat, fr.2.2.1 w l → hd l) {c : lLc} (hbc : lP b c) : lOk f tb An hd un c ∧ ∀ u : Nat, A2 u → lMt tb fr t hd un c u := by
  refine ⟨lOk_mono hl2 hun hbc (h.1 w b hv hb), fun u hu a ha hq hc => ?_⟩
  rcases h.2 u w a b (hA u hu).2 (hA u hu).1 hv ha hb (hq.symm.imp id hun) (lCmp_sym (lCmp_pre hbc hc)) with x | x
  · exact absurd x.1 (by omega)
  · obtain ⟨x0, l, π, x1, x2, x3, x4, x5, x6⟩ := x
    exact ⟨x0, l, π, x1, hl2 l x2, x3, x4, lP_tr x5 hbc, fun z => x6 (hun z)⟩
/-- the frames: a frame's loans, its holders, what outer loans lead to; the latest one first -/
abbrev lFm := lTb × lFr × (Nat → lLc → Nat → Prop)
def lLk (up lo : lFm) : Prop := ∀ (o : Nat) (e : lLc) (q : Nat), up.2.2 o e q → ∃ t : Nat, 40 ≤ t ∧ lo.2.1.2.1 t ∧ lo.2.1.1 t = some e ∧ (q = 1 → lo.2.1.2.2.2 t)
def lSk : List lFm → Prop
  | [] => True
  | x :: s => lIv s.length x.1 x.2.2 x.2.1 ∧ lSk s ∧ match s with
    | [] => ∀ (o : Nat) (e : lLc) (q : Nat), ¬ x.2.2 o e q
    | y :: _ => lLk x y
/-- who is at a place of a frame at most its own -/
theorem lIv_fr {f : Nat} {tb : lTb} {An : Nat → lLc → Nat → Prop} {fr : lFr} (h : lIv f tb An fr) {u : Nat} {a : lLc} (hu : fr.2.1 u) (ha : fr.1 u = some a) : ∃ (j v : Nat) (r : lLc), a = (j, v) :: r ∧ j ≤ f := by
  rcases h.1 u a hu ha with ⟨l, h1, h2, h3, h4, h5⟩ | ⟨o, e, q, h1, h2, h3, h4, h5, h6⟩
  · obtain ⟨c, rfl, -⟩ := lP_head h4
    exact ⟨f, _, c, rfl, Nat.le_refl _⟩
  · obtain ⟨j, w, s, rfl, hj⟩ := h6
    obtain ⟨c, rfl, -⟩ := lP_head h4
    exact ⟨j, w, c, rfl, by omega⟩
theorem lSk_at : ∀ {s : List lFm} {k : Nat} {x : lFm}, lSk s → s[k]? = some x → ∃ n : Nat, n + k + 1 = s.length ∧ lIv n x.1 x.2.2 x.2.1
  | y :: s, 0, x, h, e => by
    obtain rfl : y = x := by simpa using e
    exact ⟨s.length, rfl, h.1⟩
  | y :: s, k + 1, x, h, e => by
    obtain ⟨n, h1, h2⟩ := lSk_at (k := k) h.2.1 (by simpa using e)
    exact ⟨n, by simp only [List.length_cons]; omega, h2⟩
/-- what is used in a caller and is comparable with a unique reference of the latest frame lies above it -/
theorem lSk_up : ∀ {s : List lFm} {x : lFm}, lSk (x :: s) → ∀ {r : Nat} {b : lLc}, x.2.1.2.1 r → x.2.1.1 r = some b → x.2.1.2.2.2 r → ∀ {k : Nat} {y : lFm}, s[k]? = some y → ∀ {u : Nat} {a : lLc}, y.2.1.2.1 u → y.2.1.1 u = some a → lCmp a b → lP a b
  | [], x, _, _, _, _, _, _, _, _, e, _, _, _, _, _ => by simp at e
  | z :: s, x, h, r, b, hr, hb, hU, k, y, e, u, a, hu, ha, hc => by
    obtain ⟨h1, h2, h3⟩ := h
    have h3 : lLk x z := h3
    obtain ⟨n, hn, hy⟩ := lSk_at h2 e
    obtain ⟨j, v, w, rfl, hj⟩ := lIv_fr hy hu ha
    rcases h1.1 r b hr hb with ⟨l, g1, g2, g3, g4, g5⟩ | ⟨o, e2, q, g1, g2, g3, g4, g5, g6⟩
    · obtain ⟨e3, -⟩ := lCmp_cons (lCmp_pre g4 (lCmp_sym hc))
      injection e3 with e4 e5
      simp only [List.length_cons] at hn e4
      omega
    · obtain ⟨t, t1, t2, t3, t4⟩ := h3 o e2 q g3
      have hc2 := lCmp_sym (lCmp_pre g4 (lCmp_sym hc))
      have hq : z.2.1.2.2.2 t := t4 (g5 hU)
      cases k with
      | zero =>
        obtain rfl : z = y := by simpa using e
        by_cases eu : u = t
        · subst eu
          obtain e6 := Option.some.inj (t3.symm.trans ha)
          rw [← e6]
          exact g4
        · rcases h2.1.2 t u e2 _ (fun q => eu q.symm) t2 hu t3 ha (Or.inl hq) (lCmp_sym hc2) with x1 | x1
          · exact lP_tr (lRt_up x1) g4
          · exact absurd x1.1 (by omega)
      | succ k =>
        exact lP_tr (lSk_up h2 t2 t3 hq (k := k) (by simpa using e) hu ha hc2) g4
/-- a call's result: its place lies below that of an argument -/
theorem lBw_res {f : Nat} {tb : lTb} {An : Nat → lLc → Nat → Prop} {fr : lFr} {A2 : Nat → Prop} {w t : Nat} {b c : lLc} {un : Prop} {hd : Nat → Prop} (h : lIv f tb An fr) (hA : ∀ u : Nat, A2 u → fr.2.1 u ∧ u ≠ w) (h40 : 40 ≤ w) (hv : fr.2.1 w) (hb : fr.1 w = some b) (hun : un → fr.2.2.2 w) (hl2 : ∀ l : Nat, fr.2.2.1 w l → hd l) (hbc : lP b c) : lOk f tb An hd un c ∧ ∀ u : Nat, A2 u → lMt tb fr t hd un c u := lBw_pop h hA h40 hv hb hun hl2 hbc
end
-- d1.t1.lean.txt
section
/-- a table of types: kind (2 struct, 3 enum, 4 box, 5 and 6 references), what it is of, how many variants, how many parts a variant has (a struct: variant 0), their types -/
abbrev qY := (Nat → Nat) × (Nat → Nat) × (Nat → Nat) × (Nat → Nat → Nat) × (Nat → Nat → Nat → Nat)
/-- from type T the way π leads to type t -/
def qW (y : qY) : Nat → lLc → Nat → Prop
  | T, [], t => t = T
  | T, (0, j) :: π, t => y.1 T = 2 ∧ j < y.2.2.2.1 T 0 ∧ qW y (y.2.2.2.2 T 0 j) π t
  | T, (1, j) :: π, t => j = 0 ∧ y.1 T = 4 ∧ qW y (y.2.1 T) π t
  | T, (g + 2, j) :: π, t => y.1 T = 3 ∧ g < y.2.2.1 T ∧ j < y.2.2.2.1 T g ∧ qW y (y.2.2.2.2 T g j) π t
theorem qW_det {y : qY} : ∀ {π : lLc} {T t u : Nat}, qW y T π t → qW y T π u → t = u
  | [], _, _, _, h1, h2 => (show _ = _ from h1).trans (show _ = _ from h2).symm
  | (0, j) :: π, _, _, _, h1, h2 => qW_det (π := π) h1.2.2 h2.2.2
  | (1, j) :: π, _, _, _, h1, h2 => qW_det (π := π) h1.2.2 h2.2.2
  | (g + 2, j) :: π, _, _, _, h1, h2 => qW_det (π := π) h1.2.2.2 h2.2.2.2
theorem qW_app {y : qY} : ∀ {π σ : lLc} {T t u : Nat}, qW y T π t → qW y t σ u → qW y T (π ++ σ) u
  | [], _, _, _, _, h1, h2 => by
    obtain rfl := (show _ = _ from h1)
    exact h2
  | (0, j) :: π, σ, _, _, _, h1, h2 => ⟨h1.1, h1.2.1, qW_app (π := π) h1.2.2 h2⟩
  | (1, j) :: π, σ, _, _, _, h1, h2 => ⟨h1.1, h1.2.1, qW_app (π := π) h1.2.2 h2⟩
  | (g + 2, j) :: π, σ, _, _, _, h1, h2 => ⟨h1.1, h1.2.1, h1.2.2.1, qW_app (π := π) h1.2.2.2 h2⟩
theorem qW_cut {y : qY} : ∀ {π σ : lLc} {T u : Nat}, qW y T (π ++ σ) u → ∃ t : Nat, qW y T π t ∧ qW y t σ u
  | [], _, T, _, h => ⟨T, rfl, h⟩
  | (0, j) :: π, σ, _, _, h => by
    obtain ⟨t, h1, h2⟩ := qW_cut (π := π) h.2.2
    exact ⟨t, ⟨h.1, h.2.1, h1⟩, h2⟩
  | (1, j) :: π, σ, _, _, h => by
    obtain ⟨t, h1, h2⟩ := qW_cut (π := π) h.2.2
    exact ⟨t, ⟨h.1, h.2.1, h1⟩, h2⟩
  | (g + 2, j) :: π, σ, _, _, h => by
    obtain ⟨t, h1, h2⟩ := qW_cut (π := π) h.2.2.2
    exact ⟨t, ⟨h.1, h.2.1, h.2.2.1, h1⟩, h2⟩
theorem qW_rest {y : qY} {π σ : lLc} {T t u : Nat} (h : qW y T (π ++ σ) u) (h1 : qW y T π t) : qW y t σ u := by
  obtain ⟨t2, g1, g2⟩ := qW_cut h
  rw [qW_det h1 g1]
  exact g2
/-- members alone -/
def qM (π : lLc) : Prop := ∀ x : Nat × Nat, x ∈ π → x.1 = 0
theorem qM_nil : qM [] := fun x h => by simp at h
theorem qM_app {a b : lLc} : qM (a ++ b) ↔ qM a ∧ qM b := by
  constructor
  · intro h
    exact ⟨fun x hx => h x (List.mem_append_left b hx), fun x hx => h x (List.mem_append_right a hx)⟩
  · intro h x hx
    rcases List.mem_append.mp hx with z | z
    · exact h.1 x z
    · exact h.2 x z
theorem qM_cons {x : Nat × Nat} {a : lLc} : qM (x :: a) ↔ x.1 = 0 ∧ qM a := by
  constructor
  · intro h
    exact ⟨h x (List.mem_cons_self ..), fun z hz => h z (List.mem_cons_of_mem x hz)⟩
  · intro h z hz
    rcases List.mem_cons.mp hz with e | e
    · rw [e]; exact h.1
    · exact h.2 z e
/-- a value: at each way of it where something lies: its type and variant -/
abbrev qV := lLc → Option (Nat × Nat)
/-- a place that is there: something lies at it or below -/
def qPl (V : qV) (π : lLc) : Prop := ∃ (σ : lLc) (x : Nat × Nat), V (π ++ σ) = some x
theorem qPl_up {V : qV} {π σ : lLc} (h : qPl V (π ++ σ)) : qPl V π := by
  obtain ⟨τ, x, hx⟩ := h
  exact ⟨σ ++ τ, x, by rw [← List.append_assoc]; exact hx⟩
theorem qPl_of {V : qV} {π : lLc} {x : Nat × Nat} (h : V π = some x) : qPl V π := ⟨[], x, by rw [List.append_nil]; exact h⟩
/-- at π lies what a value of type t has there -/
def qQ (y : qY) (V : qV) (π : lLc) (t : Nat) : Prop := (y.1 t ≠ 2 → ∃ x : Nat × Nat, V π = some x) ∧ (y.1 t = 2 → qPl V π)
theorem qQ_pl {y : qY} {V : qV} {π : lLc} {t : Nat} (h : qQ y V π t) : qPl V π := by
  by_cases e : y.1 t = 2
  · exact h.2 e
  · obtain ⟨x, hx⟩ := h.1 e
    exact qPl_of hx
theorem qQ_cg {y : qY} {V V2 : qV} {π π2 : lLc} {t : Nat} (h : qQ y V π t) (e : ∀ τ : lLc, V2 (π2 ++ τ) = V (π ++ τ)) : qQ y V2 π2 t := by
  refine ⟨fun z => ?_, fun z => ?_⟩
  · obtain ⟨x, hx⟩ := h.1 z
    have := e []
    rw [List.append_nil, List.append_nil] at this
    exact ⟨x, this.trans hx⟩
  · obtain ⟨τ, x, hx⟩ := h.2 z
    exact ⟨τ, x, (e τ).trans hx⟩
/-- at π lies a whole value of type T -/
def qF (y : qY) (V : qV) (π : lLc) (T : Nat) : Prop := ∀ (ρ : lLc) (t : Nat), qM ρ → qW y T ρ t → qQ y V (π ++ ρ) t
theorem qF_pl {y : qY} {V : qV} {π : lLc} {T : Nat} (h : qF y V π T) : qPl V π := by
  have := qQ_pl (h [] T qM_nil rfl)
  rw [List.append_nil] at this
  exact this
/-- and at the places in it -/
theorem qF_in {y : qY} {V : qV} {π ρ : lLc} {T t : Nat} (h : qF y V π T) (hm : qM ρ) (hw : qW y T ρ t) : qF y V (π ++ ρ) t := fun σ u g1 g2 => by
  rw [List.append_assoc]
  exact h (ρ ++ σ) u (qM_app.mpr ⟨hm, g1⟩) (qW_app hw g2)
def qOk (y : qY) (T : Nat) (V : qV) : Prop :=
  (∀ (π : lLc) (t g : Nat), V π = some (t, g) → qW y T π t ∧ y.1 t ≠ 2 ∧ (y.1 t = 3 → g < y.2.2.1 t) ∧ (y.1 t = 4 → qF y V (π ++ [(1, 0)]) (y.2.1 t)) ∧ (y.1 t = 3 → ∀ j : Nat, j < y.2.2.2.1 t g → qF y V (π ++ [(g + 2, j)]) (y.2.2.2.2 t g j))) ∧
  (∀ (π σ : lLc) (j : Nat) (x : Nat × Nat), V (π ++ (1, j) :: σ) = some x → ∃ z : Nat × Nat, V π = some z) ∧
  (∀ (π σ : lLc) (g j : Nat) (x : Nat × Nat), V (π ++ (g + 2, j) :: σ) = some x → ∃ t : Nat, V π = some (t, g))
/-- a whole value of type T -/
def qFu (y : qY) (T : Nat) (V : qV) : Prop := qOk y T V ∧ qF y V [] T
theorem qF_ty {y : qY} {T : Nat} {V : qV} {π ρ : lLc} {t T1 : Nat} (h : qOk y T V) (hπ : qW y T π T1) (hρ : qW y T1 ρ t) {x : Nat × Nat} (hx : V (π ++ ρ) = some x) : x.1 = t := by
  obtain ⟨a, b⟩ := x
  exact qW_det (h.1 _ a b hx).1 (qW_app hπ hρ)
/-- nothing -/
theorem qOk_none {y : qY} {T : Nat} : qOk y T (fun _ => none) := ⟨fun _ _ _ h => by simp at h, fun _ _ _ _ h => by simp at h, fun _ _ _ _ _ h => by simp at h⟩
/-- what lies at ρ -/
def qS (V : qV) (ρ : lLc) : qV := fun π => V (ρ ++ π)
theorem qF_S {y : qY} {V : qV} {ρ π : lLc} {T : Nat} : qF y (qS V ρ) π T ↔ qF y V (ρ ++ π) T := by
  constructor
  · intro h σ t h1 h2
    rw [List.append_assoc]
    exact qQ_cg (h σ t h1 h2) (fun τ => by rw [List.append_assoc]; rfl)
  · intro h σ t h1 h2
    have := h σ t h1 h2
    rw [List.append_assoc] at this
    exact qQ_cg this (fun τ => by show V (ρ ++ (π ++ σ ++ τ)) = _; rw [List.append_assoc ρ])
theorem qOk_S {y : qY} {T T1 : Nat} {V : qV} {ρ : lLc} (h : qOk y T V) (hρ : qW y T ρ T1) : qOk y T1 (qS V ρ) := by
  refine ⟨fun π t g hv => ?_, fun π σ j x hx => ?_, fun π σ g j x hx => ?_⟩
  · obtain ⟨h1, h2, h3, h4, h5⟩ := h.1 _ t g hv
    refine ⟨qW_rest h1 hρ, h2, h3, fun z => ?_, fun z j hj => ?_⟩
    · rw [qF_S, ← List.append_assoc]; exact h4 z
    · rw [qF_S, ← List.append_assoc]; exact h5 z j hj
  · exact h.2.1 (ρ ++ π) σ j x (by rw [List.append_assoc]; exact hx)
  · exact h.2.2 (ρ ++ π) σ g j x (by rw [List.append_assoc]; exact hx)
theorem qFu_S {y : qY} {T T1 : Nat} {V : qV} {ρ : lLc} (h : qOk y T V) (hρ : qW y T ρ T1) (hf : qF y V ρ T1) : qFu y T1 (qS V ρ) := ⟨qOk_S h hρ, by rw [qF_S, List.append_nil]; exact hf⟩
/-- the rest behind a -/
def qD : lLc → lLc → Option lLc
  | [], b => some b
  | _ :: _, [] => none
  | x :: a, z :: b => if x = z then qD a b else none
theorem qD_app : ∀ (a b : lLc), qD a (a ++ b) = some b
  | [], _ => rfl
  | x :: a, b => by
    show (if x = x then qD a (a ++ b) else none) = some b
    rw [if_pos rfl]; exact qD_app a b
theorem qD_eq : ∀ {a b c : lLc}, qD a b = some c → b = a ++ c
  | [], _, _, h => by injection h
  | x :: a, [], _, h => by simp [qD] at h
  | x :: a, z :: b, c, h => by
    by_cases e : x = z
    · have h : (if x = z then qD a b else none) = some c := h
      rw [if_pos e] at h
      rw [e, qD_eq h]; rfl
    · have h : (if x = z then qD a b else none) = some c := h
      rw [if_neg e] at h
      simp at h
theorem qD_none {a b : lLc} (h : qD a b = none) : ¬ lP a b := by
  rintro ⟨s, rfl⟩
  rw [qD_app] at h
  simp at h
theorem qD_no {a b : lLc} (h : ¬ lP a b) : qD a b = none := by
  cases e : qD a b with
  | none => rfl
  | some c => exact absurd ⟨c, qD_eq e⟩ h
/-- without what lies at ρ -/
def qC (V : qV) (ρ : lLc) : qV := fun π => match qD ρ π with | some _ => none | none => V π
theorem qC_in {V : qV} {ρ σ : lLc} : qC V ρ (ρ ++ σ) = none := by
  unfold qC; rw [qD_app]
theorem qC_out {V : qV} {ρ π : lLc} (h : ¬ lP ρ π) : qC V ρ π = V π := by
  unfold qC; rw [qD_no h]
theorem qC_some {V : qV} {ρ π : lLc} {x : Nat × Nat} (h : qC V ρ π = some x) : ¬ lP ρ π ∧ V π = some x := by
  by_cases e : lP ρ π
  · obtain ⟨s, rfl⟩ := e
    rw [qC_in] at h
    simp at h
  · rw [qC_out e] at h
    exact ⟨e, h⟩
/-- a way of members alone that lies ahead of π ++ c :: σ, c no member, lies ahead of π -/
theorem qM_pre : ∀ {ρ π σ : lLc} {c : Nat × Nat}, qM ρ → c.1 ≠ 0 → lP ρ (π ++ c :: σ) → lP ρ π
  | [], π, _, _, _, _, _ => ⟨π, rfl⟩
  | x :: ρ, [], σ, c, h, hc, hp => by
    obtain ⟨e, -⟩ := lP_cons (show lP (x :: ρ) (c :: σ) from hp)
    rw [← e] at hc
    exact absurd (qM_cons.mp h).1 hc
  | x :: ρ, z :: π, σ, c, h, hc, hp => by
    obtain ⟨e, h2⟩ := lP_cons (show lP (x :: ρ) (z :: (π ++ c :: σ)) from hp)
    rw [e]
    exact lP_consI (qM_pre (qM_cons.mp h).2 hc h2)
theorem qOk_C {y : qY} {T : Nat} {V : qV} {ρ : lLc} (h : qOk y T V) (hm : qM ρ) : qOk y T (qC V ρ) := by
  have key : ∀ (π σ : lLc) (c : Nat × Nat), c.1 ≠ 0 → ¬ lP ρ π → qC V ρ (π ++ c :: σ) = V (π ++ c :: σ) := fun π σ c hc hn => qC_out (fun z => hn (qM_pre hm hc z))
  refine ⟨fun π t g hv => ?_, fun π σ j x hx => ?_, fun π σ g j x hx => ?_⟩
  · obtain ⟨hn, hv⟩ := qC_some hv
    obtain ⟨h1, h2, h3, h4, h5⟩ := h.1 _ t g hv
    refine ⟨h1, h2, h3, fun z σ u g1 g2 => ?_, fun z j hj σ u g1 g2 => ?_⟩
    · refine qQ_cg (h4 z σ u g1 g2) (fun τ => ?_)
      rw [List.append_assoc, List.append_assoc]
      exact key π (σ ++ τ) (1, 0) (by decide) hn
    · refine qQ_cg (h5 z j hj σ u g1 g2) (fun τ => ?_)
      rw [List.append_assoc, List.append_assoc]
      exact key π (σ ++ τ) (g + 2, j) (by show g + 2 ≠ 0; omega) hn
  · obtain ⟨hn, hx⟩ := qC_some hx
    obtain ⟨z, hz⟩ := h.2.1 π σ j x hx
    exact ⟨z, by rw [qC_out (fun q => hn (lP_tr q (lP_app π _)))]; exact hz⟩
  · obtain ⟨hn, hx⟩ := qC_some hx
    obtain ⟨t, hz⟩ := h.2.2 π σ g j x hx
    exact ⟨t, by rw [qC_out (fun q => hn (lP_tr q (lP_app π _)))]; exact hz⟩
/-- W in the place of what lies at ρ -/
def qG (V : qV) (ρ : lLc) (W : qV) : qV := fun π => match qD ρ π with | some σ => W σ | none => V π
theorem qG_in {V W : qV} {ρ σ : lLc} : qG V ρ W (ρ ++ σ) = W σ := by
  unfold qG; rw [qD_app]
theorem qG_out {V W : qV} {ρ π : lLc} (h : ¬ lP ρ π) : qG V ρ W π = V π := by
  unfold qG; rw [qD_no h]
theorem qD_two {ρ x : lLc} (h : ¬ lP ρ x) {σ : lLc} (h2 : lP ρ (x ++ σ)) : ∃ ρ1 σ1 : lLc, ρ = x ++ ρ1 ∧ σ = ρ1 ++ σ1 := by
  rcases lP_two h2 (lP_app x σ) with z | z
  · exact absurd z h
  · obtain ⟨ρ1, rfl⟩ := z
    obtain ⟨σ1, e⟩ := lP_shift h2
    exact ⟨ρ1, σ1, rfl, e⟩
/-- where V was whole it is whole still -/
theorem qF_G {y : qY} {T T1 U : Nat} {V W : qV} {ρ π : lLc} (hρ : qW y T ρ T1) (hW : qF y W [] T1) (hπ : qW y T π U) (hf : qF y V π U) (hn : ¬ lP ρ π ∨ ρ = π) : qF y (qG V ρ W) π U := by
  intro σ t g1 g2
  by_cases c : lP ρ (π ++ σ)
  · have hc : ∃ ρ1 σ1 : lLc, ρ = π ++ ρ1 ∧ σ = ρ1 ++ σ1 := by
      rcases hn with hn | hn
      · exact qD_two hn c
      · exact ⟨[], σ, by rw [hn, List.append_nil], rfl⟩
    obtain ⟨ρ1, σ1, rfl, rfl⟩ := hc
    have e1 : qW y U ρ1 T1 := qW_rest hρ hπ
    exact qQ_cg (hW σ1 t (qM_app.mp g1).2 (qW_rest g2 e1)) (fun τ => by rw [← List.append_assoc, List.append_assoc _ σ1 τ, qG_in]; rfl)
  · refine ⟨fun z => ?_, fun z => ?_⟩
    · rw [qG_out c]
      exact (hf σ t g1 g2).1 z
    · by_cases c2 : lP (π ++ σ) ρ
      · obtain ⟨s, e⟩ := c2
        obtain ⟨τ, x, hx⟩ := qF_pl hW
        rw [List.nil_append] at hx
        exact ⟨s ++ τ, x, by rw [← List.append_assoc, ← e, qG_in]; exact hx⟩
      · obtain ⟨τ, x, hx⟩ := (hf σ t g1 g2).2 z
        exact ⟨τ, x, by rw [qG_out (fun q => (lP_two q (lP_app (π ++ σ) τ)).elim c c2)]; exact hx⟩
theorem qOk_G {y : qY} {T T1 : Nat} {V W : qV} {ρ : lLc} (h : qOk y T V) (hρ : qW y T ρ T1) (hV : ∃ (σ : lLc) (x : Nat × Nat), V (ρ ++ σ) = some x) (hW : qFu y T1 W) : qOk y T (qG V ρ W) := by
  obtain ⟨σ0, x0, hx0⟩ := hV
  refine ⟨fun π t g hv => ?_, fun π σ j x hx => ?_, fun π σ g j x hx => ?_⟩
  · by_cases c : lP ρ π
    · obtain ⟨σ, rfl⟩ := c
      rw [qG_in] at hv
      obtain ⟨h1, h2, h3, h4, h5⟩ := hW.1.1 _ t g hv
      refine ⟨qW_app hρ h1, h2, h3, fun z σ2 u g1 g2 => ?_, fun z j hj σ2 u g1 g2 => ?_⟩
      · exact qQ_cg (h4 z σ2 u g1 g2) (fun τ => by rw [List.append_assoc, List.append_assoc, List.append_assoc, qG_in, List.append_assoc, List.append_assoc])
      · exact qQ_cg (h5 z j hj σ2 u g1 g2) (fun τ => by rw [List.append_assoc, List.append_assoc, List.append_assoc, qG_in, List.append_assoc, List.append_assoc])
    · rw [qG_out c] at hv
      obtain ⟨h1, h2, h3, h4, h5⟩ := h.1 _ t g hv
      have key : ∀ x : Nat × Nat, ¬ lP ρ (π ++ [x]) ∨ ρ = π ++ [x] := fun x => by
        by_cases e : lP ρ (π ++ [x])
        · obtain ⟨a, b, e1, e2⟩ := qD_two c e
          cases a with
          | nil => exact absurd ⟨[], by rw [e1]; simp⟩ c
          | cons a1 a2 =>
            injection e2 with e3 e4
            have e5 : a2 = [] := (List.append_eq_nil_iff.mp e4.symm).1
            subst e5; subst e3
            exact Or.inr e1
        · exact Or.inl e
      refine ⟨h1, h2, h3, fun z => ?_, fun z j hj => ?_⟩
      · exact qF_G hρ hW.2 (qW_app h1 (show qW y t [(1, 0)] (y.2.1 t) from ⟨rfl, z, rfl⟩)) (h4 z) (key _)
      · exact qF_G hρ hW.2 (qW_app h1 (show qW y t [(g + 2, j)] (y.2.2.2.2 t g j) from ⟨z, h3 z, hj, rfl⟩)) (h5 z j hj) (key _)
  · by_cases c : lP ρ π
    · obtain ⟨τ, rfl⟩ := c
      rw [List.append_assoc, qG_in] at hx
      obtain ⟨z, hz⟩ := hW.1.2.1 τ σ j x hx
      exact ⟨z, by rw [qG_in]; exact hz⟩
    · have : ∃ (σ : lLc) (x : Nat × Nat), V (π ++ (1, j) :: σ) = some x := by
        by_cases e : lP ρ (π ++ (1, j) :: σ)
        · obtain ⟨a, b, e1, e2⟩ := qD_two c e
          cases a with
          | nil => exact absurd ⟨[], by rw [e1]; simp⟩ c
          | cons a1 a2 =>
            injection e2 with e3 e4
            subst e3
            exact ⟨a2 ++ σ0, x0, by rw [e1, List.append_assoc] at hx0; exact hx0⟩
        · rw [qG_out e] at hx
          exact ⟨σ, x, hx⟩
      obtain ⟨σ1, x1, h1⟩ := this
      obtain ⟨z, hz⟩ := h.2.1 π σ1 j x1 h1
      exact ⟨z, by rw [qG_out c]; exact hz⟩
  · by_cases c : lP ρ π
    · obtain ⟨τ, rfl⟩ := c
      rw [List.append_assoc, qG_in] at hx
      obtain ⟨z, hz⟩ := hW.1.2.2 τ σ g j x hx
      exact ⟨z, by rw [qG_in]; exact hz⟩
    · have : ∃ (σ : lLc) (x : Nat × Nat), V (π ++ (g + 2, j) :: σ) = some x := by
        by_cases e : lP ρ (π ++ (g + 2, j) :: σ)
        · obtain ⟨a, b, e1, e2⟩ := qD_two c e
          cases a with
          | nil => exact absurd ⟨[], by rw [e1]; simp⟩ c
          | cons a1 a2 =>
            injection e2 with e3 e4
            subst e3
            exact ⟨a2 ++ σ0, x0, by rw [e1, List.append_assoc] at hx0; exact hx0⟩
        · rw [qG_out e] at hx
          exact ⟨σ, x, hx⟩
      obtain ⟨σ1, x1, h1⟩ := this
      obtain ⟨z, hz⟩ := h.2.2 π σ1 g j x1 h1
      exact ⟨z, by rw [qG_out c]; exact hz⟩
/-- grown at a way of members (nothing need lie there) -/
theorem qOk_Gm {y : qY} {T T1 : Nat} {V W : qV} {ρ : lLc} (h : qOk y T V) (hρ : qW y T ρ T1) (hm : qM ρ) (hW : qOk y T1 W) : qOk y T (qG V ρ W) := by
  have key : ∀ (π σ : lLc) (c : Nat × Nat), c.1 ≠ 0 → ¬ lP ρ π → qG V ρ W (π ++ c :: σ) = V (π ++ c :: σ) := fun π σ c hc hn => qG_out (fun z => hn (qM_pre hm hc z))
  refine ⟨fun π t g hv => ?_, fun π σ j x hx => ?_, fun π σ g j x hx => ?_⟩
  · by_cases c : lP ρ π
    · obtain ⟨σ, rfl⟩ := c
      rw [qG_in] at hv
      obtain ⟨h1, h2, h3, h4, h5⟩ := hW.1 _ t g hv
      refine ⟨qW_app hρ h1, h2, h3, fun z σ2 u g1 g2 => ?_, fun z j hj σ2 u g1 g2 => ?_⟩
      · exact qQ_cg (h4 z σ2 u g1 g2) (fun τ => by rw [List.append_assoc, List.append_assoc, List.append_assoc, qG_in, List.append_assoc, List.append_assoc])
      · exact qQ_cg (h5 z j hj σ2 u g1 g2) (fun τ => by rw [List.append_assoc, List.append_assoc, List.append_assoc, qG_in, List.append_assoc, List.append_assoc])
    · rw [qG_out c] at hv
      obtain ⟨h1, h2, h3, h4, h5⟩ := h.1 _ t g hv
      refine ⟨h1, h2, h3, fun z σ u g1 g2 => ?_, fun z j hj σ u g1 g2 => ?_⟩
      · refine qQ_cg (h4 z σ u g1 g2) (fun τ => ?_)
        rw [List.append_assoc, List.append_assoc]
        exact key π (σ ++ τ) (1, 0) (by decide) c
      · refine qQ_cg (h5 z j hj σ u g1 g2) (fun τ => ?_)
        rw [List.append_assoc, List.append_assoc]
        exact key π (σ ++ τ) (g + 2, j) (by show g + 2 ≠ 0; omega) c
  · by_cases c : lP ρ π
    · obtain ⟨τ, rfl⟩ := c
      rw [List.append_assoc, qG_in] at hx
      obtain ⟨z, hz⟩ := hW.2.1 τ σ j x hx
      exact ⟨z, by rw [qG_in]; exact hz⟩
    · rw [key π σ (1, j) (by show 1 ≠ 0; decide) c] at hx
      obtain ⟨z, hz⟩ := h.2.1 π σ j x hx
      exact ⟨z, by rw [qG_out c]; exact hz⟩
  · by_cases c : lP ρ π
    · obtain ⟨τ, rfl⟩ := c
      rw [List.append_assoc, qG_in] at hx
      obtain ⟨z, hz⟩ := hW.2.2 τ σ g j x hx
      exact ⟨z, by rw [qG_in]; exact hz⟩
    · rw [key π σ (g + 2, j) (by show g + 2 ≠ 0; omega) c] at hx
      obtain ⟨z, hz⟩ := h.2.2 π σ g j x hx
      exact ⟨z, by rw [qG_out c]; exact hz⟩
/-- a value of one cell -/
def qL (t : Nat) : qV := fun π => match π with | [] => some (t, 0) | _ :: _ => none
theorem qFu_L {y : qY} {t : Nat} (h2 : y.1 t ≠ 2) (h3 : y.1 t ≠ 3) (h4 : y.1 t ≠ 4) : qFu y t (qL t) := by
  refine ⟨⟨fun π u g hv => ?_, fun π σ j x hx => ?_, fun π σ g j x hx => ?_⟩, fun ρ u g1 g2 => ?_⟩
  · cases π with
    | nil =>
      have e : some (t, 0) = some (u, g) := hv
      injection e with e; injection e with e1 e2
      subst e1
      exact ⟨rfl, h2, fun z => absurd z h3, fun z => absurd z h4, fun z => absurd z h3⟩
    | cons a b => exact absurd (show none = some _ from hv) (by simp)
  · cases π <;> exact absurd (show none = some _ from hx) (by simp)
  · cases π <;> exact absurd (show none = some _ from hx) (by simp)
  · cases ρ with
    | nil => exact ⟨fun _ => ⟨(t, 0), rfl⟩, fun _ => qPl_of (x := (t, 0)) rfl⟩
    | cons a b =>
      obtain ⟨a1, a2⟩ := a
      have ha : a1 = 0 := (qM_cons.mp g1).1
      subst ha
      exact absurd g2.1 h2
/-- boxed -/
def qB (t : Nat) (V : qV) : qV := fun π => match π with | [] => some (t, 0) | (q, j) :: σ => if q = 1 ∧ j = 0 then V σ else none
theorem qFu_B {y : qY} {t : Nat} {V : qV} (h4 : y.1 t = 4) (h : qFu y (y.2.1 t) V) : qFu y t (qB t V) := by
  have e1 : ∀ σ : lLc, qB t V ((1, 0) :: σ) = V σ := fun σ => (if_pos ⟨rfl, rfl⟩ : (if (1 : Nat) = 1 ∧ (0 : Nat) = 0 then V σ else none) = V σ)
  have e2 : ∀ (q j : Nat) (σ : lLc) (x : Nat × Nat), qB t V ((q, j) :: σ) = some x → q = 1 ∧ j = 0 ∧ V σ = some x := fun q j σ x hx => by
    have hx : (if q = 1 ∧ j = 0 then V σ else none) = some x := hx
    by_cases c : q = 1 ∧ j = 0
    · rw [if_pos c] at hx; exact ⟨c.1, c.2, hx⟩
    · rw [if_neg c] at hx; exact absurd hx (by simp)
  refine ⟨⟨fun π u g hv => ?_, fun π σ j x hx => ?_, fun π σ g j x hx => ?_⟩, fun ρ u g1 g2 => ?_⟩
  · cases π with
    | nil =>
      have e : some (t, 0) = some (u, g) := hv
      injection e with e; injection e with e3 e4
      subst e3
      exact ⟨rfl, by rw [h4]; decide, fun z => absurd (h4.symm.trans z) (by decide), fun z ρ w g1 g2 => qQ_cg (h.2 ρ w g1 g2) (fun τ => e1 (ρ ++ τ)), fun z => absurd (h4.symm.trans z) (by decide)⟩
    | cons a π =>
      obtain ⟨q, j⟩ := a
      obtain ⟨rfl, rfl, hv⟩ := e2 _ _ _ _ hv
      obtain ⟨h1, h2, h3, h5, h6⟩ := h.1.1 _ u g hv
      refine ⟨⟨rfl, h4, h1⟩, h2, h3, fun z ρ w g1 g2 => ?_, fun z j hj ρ w g1 g2 => ?_⟩
      · exact qQ_cg (h5 z ρ w g1 g2) (fun τ => e1 _)
      · exact qQ_cg (h6 z j hj ρ w g1 g2) (fun τ => e1 _)
  · cases π with
    | nil => exact ⟨(t, 0), rfl⟩
    | cons a π =>
      obtain ⟨q, i⟩ := a
      obtain ⟨rfl, rfl, hx⟩ := e2 _ _ _ _ hx
      obtain ⟨z, hz⟩ := h.1.2.1 π σ j x hx
      exact ⟨z, (e1 π).trans hz⟩
  · cases π with
    | nil =>
      obtain ⟨c, -, -⟩ := e2 _ _ _ _ hx
      omega
    | cons a π =>
      obtain ⟨q, i⟩ := a
      obtain ⟨rfl, rfl, hx⟩ := e2 _ _ _ _ hx
      obtain ⟨z, hz⟩ := h.1.2.2 π σ g j x hx
      exact ⟨z, (e1 π).trans hz⟩
  · cases ρ with
    | nil => exact ⟨fun _ => ⟨(t, 0), rfl⟩, fun _ => qPl_of (x := (t, 0)) rfl⟩
    | cons a b =>
      obtain ⟨a1, a2⟩ := a
      have ha : a1 = 0 := (qM_cons.mp g1).1
      subst ha
      exact absurd (h4.symm.trans g2.1) (by decide)
/-- variant g of parts V -/
def qE (t g n : Nat) (V : Nat → qV) : qV := fun π => match π with | [] => some (t, g) | (q, j) :: σ => if q = g + 2 ∧ j < n then V j σ else none
theorem qFu_E {y : qY} {t g : Nat} {V : Nat → qV} (h4 : y.1 t = 3) (hg : g < y.2.2.1 t) (h : ∀ j : Nat, j < y.2.2.2.1 t g → qFu y (y.2.2.2.2 t g j) (V j)) : qFu y t (qE t g (y.2.2.2.1 t g) V) := by
  have e1 : ∀ (j : Nat) (σ : lLc), j < y.2.2.2.1 t g → qE t g (y.2.2.2.1 t g) V ((g + 2, j) :: σ) = V j σ := fun j σ hj => (if_pos ⟨rfl, hj⟩ : (if g + 2 = g + 2 ∧ j < y.2.2.2.1 t g then V j σ else none) = V j σ)
  have e2 : ∀ (q j : Nat) (σ : lLc) (x : Nat × Nat), qE t g (y.2.2.2.1 t g) V ((q, j) :: σ) = some x → q = g + 2 ∧ j < y.2.2.2.1 t g ∧ V j σ = some x := fun q j σ x hx => by
    have hx : (if q = g + 2 ∧ j < y.2.2.2.1 t g then V j σ else none) = some x := hx
    by_cases c : q = g + 2 ∧ j < y.2.2.2.1 t g
    · rw [if_pos c] at hx; exact ⟨c.1, c.2, hx⟩
    · rw [if_neg c] at hx; exact absurd hx (by simp)
  refine ⟨⟨fun π u g1 hv => ?_, fun π σ j x hx => ?_, fun π σ g1 j x hx => ?_⟩, fun ρ u g1 g2 => ?_⟩
  · cases π with
    | nil =>
      have e : some (t, g) = some (u, g1) := hv
      injection e with e; injection e with e3 e4
      subst e3; subst e4
      exact ⟨rfl, by rw [h4]; decide, fun _ => hg, fun z => absurd (h4.symm.trans z) (by decide), fun z j hj ρ w g1 g2 => qQ_cg ((h j hj).2 ρ w g1 g2) (fun τ => e1 j (ρ ++ τ) hj)⟩
    | cons a π =>
      obtain ⟨q, j⟩ := a
      obtain ⟨rfl, hj, hv⟩ := e2 _ _ _ _ hv
      obtain ⟨h1, h2, h3, h5, h6⟩ := (h j hj).1.1 _ u g1 hv
      refine ⟨⟨h4, hg, hj, h1⟩, h2, h3, fun z ρ w g1 g2 => ?_, fun z j2 hj2 ρ w g1 g2 => ?_⟩
      · exact qQ_cg (h5 z ρ w g1 g2) (fun τ => e1 j _ hj)
      · exact qQ_cg (h6 z j2 hj2 ρ w g1 g2) (fun τ => e1 j _ hj)
  · cases π with
    | nil => exact ⟨(t, g), rfl⟩
    | cons a π =>
      obtain ⟨q, i⟩ := a
      obtain ⟨rfl, hi, hx⟩ := e2 _ _ _ _ hx
      obtain ⟨z, hz⟩ := (h i hi).1.2.1 π σ j x hx
      exact ⟨z, (e1 i π hi).trans hz⟩
  · cases π with
    | nil =>
      obtain ⟨c, -, -⟩ := e2 _ _ _ _ hx
      obtain rfl : g1 = g := by omega
      exact ⟨t, rfl⟩
    | cons a π =>
      obtain ⟨q, i⟩ := a
      obtain ⟨rfl, hi, hx⟩ := e2 _ _ _ _ hx
      obtain ⟨z, hz⟩ := (h i hi).1.2.2 π σ g1 j x hx
      exact ⟨z, (e1 i π hi).trans hz⟩
  · cases ρ with
    | nil => exact ⟨fun _ => ⟨(t, g), rfl⟩, fun _ => qPl_of (x := (t, g)) rfl⟩
    | cons a b =>
      obtain ⟨a1, a2⟩ := a
      have ha : a1 = 0 := (qM_cons.mp g1).1
      subst ha
      exact absurd (h4.symm.trans g2.1) (by decide)
end
-- d1.t2.lean.txt
section
/-- sizes of types, where parts lie -/
abbrev qZ := (Nat → Nat) × (Nat → Nat → Nat → Nat)
/-- parts lie inside and apart; an enum's first cell is its variant's -/
def qLy (y : qY) (z : qZ) : Prop :=
  (∀ t : Nat, 1 ≤ z.1 t) ∧
  (∀ t j : Nat, y.1 t = 2 → j < y.2.2.2.1 t 0 → z.2 t 0 j + z.1 (y.2.2.2.2 t 0 j) ≤ z.1 t) ∧
  (∀ t i j : Nat, y.1 t = 2 → i < j → j < y.2.2.2.1 t 0 → z.2 t 0 i + z.1 (y.2.2.2.2 t 0 i) ≤ z.2 t 0 j) ∧
  (∀ t g j : Nat, y.1 t = 3 → g < y.2.2.1 t → j < y.2.2.2.1 t g → 1 ≤ z.2 t g j ∧ z.2 t g j + z.1 (y.2.2.2.2 t g j) ≤ z.1 t) ∧
  (∀ t g i j : Nat, y.1 t = 3 → g < y.2.2.1 t → i < j → j < y.2.2.2.1 t g → z.2 t g i + z.1 (y.2.2.2.2 t g i) ≤ z.2 t g j)
/-- the address at the end of a way (c: what the cells hold) -/
def qA (y : qY) (z : qZ) (c : Nat → Int) : Nat → Nat → lLc → Nat
  | _, a, [] => a
  | T, a, (0, j) :: π => qA y z c (y.2.2.2.2 T 0 j) (a + z.2 T 0 j) π
  | T, a, (1, _) :: π => qA y z c (y.2.1 T) (c a).toNat π
  | T, a, (g + 2, j) :: π => qA y z c (y.2.2.2.2 T g j) (a + z.2 T g j) π
/-- no star -/
def qN (π : lLc) : Prop := ∀ x : Nat × Nat, x ∈ π → x.1 ≠ 1
theorem qN_nil : qN [] := fun x h => by simp at h
theorem qN_cons {x : Nat × Nat} {a : lLc} : qN (x :: a) ↔ x.1 ≠ 1 ∧ qN a := by
  constructor
  · intro h
    exact ⟨h x (List.mem_cons_self ..), fun z hz => h z (List.mem_cons_of_mem x hz)⟩
  · intro h z hz
    rcases List.mem_cons.mp hz with e | e
    · rw [e]; exact h.1
    · exact h.2 z e
theorem qN_M {π : lLc} (h : qM π) : qN π := fun x hx => by rw [h x hx]; decide
theorem qA_app {y : qY} {z : qZ} {c : Nat → Int} : ∀ {π σ : lLc} {T T1 a : Nat}, qW y T π T1 → qA y z c T a (π ++ σ) = qA y z c T1 (qA y z c T a π) σ
  | [], _, _, _, _, h => by
    obtain rfl := (show _ = _ from h)
    rfl
  | (0, j) :: π, σ, _, _, _, h => qA_app (π := π) h.2.2
  | (1, j) :: π, σ, _, _, _, h => qA_app (π := π) h.2.2
  | (g + 2, j) :: π, σ, _, _, _, h => qA_app (π := π) h.2.2.2
/-- without a star: inside -/
theorem qA_in {y : qY} {z : qZ} {c : Nat → Int} (hz : qLy y z) : ∀ {π : lLc} {T t a : Nat}, qW y T π t → qN π → a ≤ qA y z c T a π ∧ qA y z c T a π + z.1 t ≤ a + z.1 T
  | [], T, t, a, h, _ => by
    obtain rfl := (show _ = _ from h)
    exact ⟨Nat.le_refl _, Nat.le_refl _⟩
  | (0, j) :: π, T, t, a, h, hn => by
    obtain ⟨h1, h2⟩ := qA_in (c := c) hz (π := π) (a := a + z.2 T 0 j) h.2.2 (qN_cons.mp hn).2
    have h3 := hz.2.1 T j h.1 h.2.1
    show a ≤ qA y z c (y.2.2.2.2 T 0 j) (a + z.2 T 0 j) π ∧ qA y z c (y.2.2.2.2 T 0 j) (a + z.2 T 0 j) π + z.1 t ≤ a + z.1 T
    omega
  | (1, j) :: π, T, t, a, h, hn => absurd rfl (qN_cons.mp hn).1
  | (g + 2, j) :: π, T, t, a, h, hn => by
    obtain ⟨h1, h2⟩ := qA_in (c := c) hz (π := π) (a := a + z.2 T g j) h.2.2.2 (qN_cons.mp hn).2
    have h3 := hz.2.2.2.1 T g j h.1 h.2.1 h.2.2.1
    show a ≤ qA y z c (y.2.2.2.2 T g j) (a + z.2 T g j) π ∧ qA y z c (y.2.2.2.2 T g j) (a + z.2 T g j) π + z.1 t ≤ a + z.1 T
    omega
/-- it doesn't ask the cells -/
theorem qA_sh {y : qY} {z : qZ} {c c2 : Nat → Int} : ∀ {π : lLc} {T t a b : Nat}, qW y T π t → qN π → qA y z c T a π + b = qA y z c2 T b π + a
  | [], _, _, _, _, _, _ => Nat.add_comm _ _
  | (0, j) :: π, T, t, a, b, h, hn => by
    have := qA_sh (z := z) (c := c) (c2 := c2) (π := π) (a := a + z.2 T 0 j) (b := b + z.2 T 0 j) h.2.2 (qN_cons.mp hn).2
    show qA y z c (y.2.2.2.2 T 0 j) (a + z.2 T 0 j) π + b = qA y z c2 (y.2.2.2.2 T 0 j) (b + z.2 T 0 j) π + a
    omega
  | (1, j) :: π, T, t, a, b, h, hn => absurd rfl (qN_cons.mp hn).1
  | (g + 2, j) :: π, T, t, a, b, h, hn => by
    have := qA_sh (z := z) (c := c) (c2 := c2) (π := π) (a := a + z.2 T g j) (b := b + z.2 T g j) h.2.2.2 (qN_cons.mp hn).2
    show qA y z c (y.2.2.2.2 T g j) (a + z.2 T g j) π + b = qA y z c2 (y.2.2.2.2 T g j) (b + z.2 T g j) π + a
    omega
/-- the last star of a way -/
theorem qN_last : ∀ (π : lLc), qN π ∨ ∃ (π1 : lLc) (j : Nat) (π2 : lLc), π = π1 ++ (1, j) :: π2 ∧ qN π2
  | [] => Or.inl qN_nil
  | (q, j) :: π => by
    rcases qN_last π with h | ⟨π1, i, π2, e, h⟩
    · by_cases c : q = 1
      · subst c
        exact Or.inr ⟨[], j, π, rfl, h⟩
      · exact Or.inl (qN_cons.mpr ⟨c, h⟩)
    · exact Or.inr ⟨(q, j) :: π1, i, π2, by rw [e]; rfl, h⟩
/-- two ways without a star from one place of type T: the one isn't ahead of the other: apart; g: variants agree -/
theorem qA_ap {y : qY} {z : qZ} {c : Nat → Int} (hz : qLy y z) : ∀ {ρ π : lLc} {T T1 t a : Nat}, qW y T ρ T1 → qW y T π t → qN ρ → qN π → ¬ lP ρ π → y.1 t ≠ 2 → (∀ (κ ρ1 π1 : lLc) (g1 j1 g2 j2 : Nat), ρ = κ ++ (g1 + 2, j1) :: ρ1 → π = κ ++ (g2 + 2, j2) :: π1 → g1 = g2) → ¬ (qA y z c T a ρ ≤ qA y z c T a π ∧ qA y z c T a π < qA y z c T a ρ + z.1 T1)
  | [], π, _, _, _, _, _, _, _, _, hn, _, _ => absurd ⟨π, rfl⟩ hn
  | (0, j) :: ρ, [], T, T1, t, a, hρ, hπ, _, _, _, h2, _ => by
    obtain rfl := (show _ = _ from hπ)
    exact absurd hρ.1 h2
  | (1, j) :: ρ, _, _, _, _, _, _, _, hn, _, _, _, _ => absurd rfl (qN_cons.mp hn).1
  | (g + 2, j) :: ρ, [], T, T1, t, a, hρ, hπ, n1, n2, hn, h2, hg => by
    have h3 := (hz.2.2.2.1 T g j hρ.1 hρ.2.1 hρ.2.2.1).1
    have h4 := (qA_in (c := c) hz (a := a + z.2 T g j) hρ.2.2.2 (qN_cons.mp n1).2).1
    show ¬ (qA y z c (y.2.2.2.2 T g j) (a + z.2 T g j) ρ ≤ a ∧ _)
    omega
  | (0, j) :: ρ, (1, i) :: π, _, _, _, _, _, _, _, hn, _, _, _ => absurd rfl (qN_cons.mp hn).1
  | (g + 2, j) :: ρ, (1, i) :: π, _, _, _, _, _, _, _, hn, _, _, _ => absurd rfl (qN_cons.mp hn).1
  | (0, j) :: ρ, (h + 2, i) :: π, T, _, _, _, hρ, hπ, _, _, _, _, _ => absurd (hρ.1.symm.trans hπ.1) (by decide)
  | (h + 2, i) :: ρ, (0, j) :: π, T, _, _, _, hρ, hπ, _, _, _, _, _ => absurd (hρ.1.symm.trans hπ.1) (by decide)
  | (0, j) :: ρ, (0, i) :: π, T, T1, t, a, hρ, hπ, n1, n2, hn, h2, hg => by
    by_cases e : j = i
    · subst e
      exact qA_ap hz (ρ := ρ) (π := π) hρ.2.2 hπ.2.2 (qN_cons.mp n1).2 (qN_cons.mp n2).2 (fun q => hn (lP_consI q)) h2 (fun κ ρ1 π1 g1 j1 g2 j2 e1 e2 => hg ((0, j) :: κ) ρ1 π1 g1 j1 g2 j2 (by rw [e1]; rfl) (by rw [e2]; rfl))
    · have a1 := qA_in (c := c) hz (a := a + z.2 T 0 j) hρ.2.2 (qN_cons.mp n1).2
      have a2 := qA_in (c := c) hz (a := a + z.2 T 0 i) hπ.2.2 (qN_cons.mp n2).2
      have p1 := hz.1 t
      show ¬ (qA y z c (y.2.2.2.2 T 0 j) (a + z.2 T 0 j) ρ ≤ qA y z c (y.2.2.2.2 T 0 i) (a + z.2 T 0 i) π ∧ qA y z c (y.2.2.2.2 T 0 i) (a + z.2 T 0 i) π < qA y z c (y.2.2.2.2 T 0 j) (a + z.2 T 0 j) ρ + z.1 T1)
      rcases Nat.lt_or_gt_of_ne e with e | e
      · have := hz.2.2.1 T j i hρ.1 e hπ.2.1
        omega
      · have := hz.2.2.1 T i j hρ.1 e hρ.2.1
        omega
  | (g + 2, j) :: ρ, (h + 2, i) :: π, T, T1, t, a, hρ, hπ, n1, n2, hn, h2, hg => by
    obtain rfl : g = h := hg [] ρ π g j h i rfl rfl
    by_cases e : j = i
    · subst e
      exact qA_ap hz (ρ := ρ) (π := π) hρ.2.2.2 hπ.2.2.2 (qN_cons.mp n1).2 (qN_cons.mp n2).2 (fun q => hn (lP_consI q)) h2 (fun κ ρ1 π1 g1 j1 g2 j2 e1 e2 => hg ((g + 2, j) :: κ) ρ1 π1 g1 j1 g2 j2 (by rw [e1]; rfl) (by rw [e2]; rfl))
    · have a1 := qA_in (c := c) hz (a := a + z.2 T g j) hρ.2.2.2 (qN_cons.mp n1).2
      have a2 := qA_in (c := c) hz (a := a + z.2 T g i) hπ.2.2.2 (qN_cons.mp n2).2
      have p1 := hz.1 t
      show ¬ (qA y z c (y.2.2.2.2 T g j) (a + z.2 T g j) ρ ≤ qA y z c (y.2.2.2.2 T g i) (a + z.2 T g i) π ∧ qA y z c (y.2.2.2.2 T g i) (a + z.2 T g i) π < qA y z c (y.2.2.2.2 T g j) (a + z.2 T g j) ρ + z.1 T1)
      rcases Nat.lt_or_gt_of_ne e with e | e
      · have := hz.2.2.2.2 T g j i hρ.1 hρ.2.1 e hπ.2.2.1
        omega
      · have := hz.2.2.2.2 T g i j hρ.1 hρ.2.1 e hρ.2.2.1
        omega
end
-- d1.t3.lean.txt
section
/-- roots (frame, variable or value): their types rt, addresses ra, values V; c the cells, hp the heap's length, tk the cells that are taken -/
def qMm (y : qY) (z : qZ) (hp : Nat) (tk : Nat → Prop) (c : Nat → Int) (rt ra : Nat × Nat → Nat) (V : Nat × Nat → qV) : Prop :=
  (∀ r : Nat × Nat, qOk y (rt r) (V r)) ∧
  (∀ (r : Nat × Nat) (π : lLc) (t g : Nat), V r π = some (t, g) → (y.1 t = 3 → c (qA y z c (rt r) (ra r) π) = g) ∧ (y.1 t = 4 → ∃ b : Nat, c (qA y z c (rt r) (ra r) π) = b ∧ b + z.1 (y.2.1 t) ≤ hp ∧ ∀ k : Nat, b ≤ k → k < b + z.1 (y.2.1 t) → tk k)) ∧
  (∀ (r : Nat × Nat) (π : lLc) (t g : Nat) (r2 : Nat × Nat) (π2 : lLc) (t2 g2 b b2 : Nat), V r π = some (t, g) → V r2 π2 = some (t2, g2) → y.1 t = 4 → y.1 t2 = 4 → (r, π) ≠ (r2, π2) → c (qA y z c (rt r) (ra r) π) = b → c (qA y z c (rt r2) (ra r2) π2) = b2 → b + z.1 (y.2.1 t) ≤ b2 ∨ b2 + z.1 (y.2.1 t2) ≤ b) ∧
  (∀ (r : Nat × Nat) (π : lLc) (x : Nat × Nat), V r π = some x → hp ≤ ra r) ∧
  (∀ (r r2 : Nat × Nat) (π π2 : lLc) (x x2 : Nat × Nat), r ≠ r2 → V r π = some x → V r2 π2 = some x2 → ra r + z.1 (rt r) ≤ ra r2 ∨ ra r2 + z.1 (rt r2) ≤ ra r)
/-- behind a star: the box, and where it lies -/
theorem qH {y : qY} {z : qZ} {c : Nat → Int} {T : Nat} {V : qV} {π1 π2 : lLc} {j : Nat} {x : Nat × Nat} {t : Nat} (h : qOk y T V) {σ : lLc} (hv : V (π1 ++ (1, j) :: π2 ++ σ) = some x) (ht : qW y T (π1 ++ (1, j) :: π2) t) : ∃ t1 g1 : Nat, V π1 = some (t1, g1) ∧ y.1 t1 = 4 ∧ qW y T π1 t1 ∧ qW y (y.2.1 t1) π2 t ∧ ∀ a : Nat, qA y z c T a (π1 ++ (1, j) :: π2) = qA y z c (y.2.1 t1) (c (qA y z c T a π1)).toNat π2 := by
  obtain ⟨⟨t1, g1⟩, h1⟩ := h.2.1 π1 (π2 ++ σ) j x (by rw [List.append_assoc] at hv; exact hv)
  have h2 := (h.1 π1 t1 g1 h1).1
  have h3 : qW y t1 ((1, j) :: π2) t := qW_rest ht h2
  exact ⟨t1, g1, h1, h3.2.1, h2, h3.2.2, fun a => qA_app h2⟩
/-- no other value's cell lies in the cells of a place -/
theorem qOwn {y : qY} {z : qZ} {hp : Nat} {tk : Nat → Prop} {c : Nat → Int} {rt ra : Nat × Nat → Nat} {V : Nat × Nat → qV} (hz : qLy y z) (h : qMm y z hp tk c rt ra V) {r r2 : Nat × Nat} {ρ σ π : lLc} {x0 : Nat × Nat} {T1 t g : Nat} (h0 : V r (ρ ++ σ) = some x0) (hρ : qW y (rt r) ρ T1) (hv : V r2 π = some (t, g)) (hn : ¬ (r = r2 ∧ lP ρ π)) : ¬ (qA y z c (rt r) (ra r) ρ ≤ qA y z c (rt r2) (ra r2) π ∧ qA y z c (rt r2) (ra r2) π < qA y z c (rt r) (ra r) ρ + z.1 T1) := by
  obtain ⟨m1, m2, m3, m4, m5⟩ := h
  obtain ⟨w1, w2, w3, w4, w5⟩ := (m1 r2).1 π t g hv
  have p1 := hz.1 t
  have ag : ∀ (A B : lLc) (T : Nat) (U : qV), qOk y T U → (∃ s u, U (A ++ s) = some u) → (∃ u, U B = some u) → ∀ (κ ρ1 π1 : lLc) (g1 j1 g2 j2 : Nat), A = κ ++ (g1 + 2, j1) :: ρ1 → B = κ ++ (g2 + 2, j2) :: π1 → g1 = g2 := by
    rintro A B T U hU ⟨s, u, hu⟩ ⟨u2, hu2⟩ κ ρ1 π1 g1 j1 g2 j2 rfl rfl
    rw [List.append_assoc] at hu
    obtain ⟨t1, e1⟩ := hU.2.2 κ _ g1 j1 u hu
    obtain ⟨t2, e2⟩ := hU.2.2 κ _ g2 j2 u2 hu2
    rw [e1] at e2
    injection e2 with e2; injection e2
  rcases qN_last ρ with nρ | ⟨ρ1, j, ρ2, rfl, nρ⟩
  · have i1 := qA_in (c := c) hz (a := ra r) hρ nρ
    have q1 := m4 r _ x0 h0
    rcases qN_last π with nπ | ⟨π1, i, π2, rfl, nπ⟩
    · by_cases e : r = r2
      · subst e
        exact qA_ap hz hρ w1 nρ nπ (fun q => hn ⟨rfl, q⟩) w2 (ag ρ π _ _ (m1 r) ⟨σ, x0, h0⟩ ⟨_, hv⟩)
      · have i2 := qA_in (c := c) hz (a := ra r2) w1 nπ
        have := m5 r r2 _ _ _ _ e h0 hv
        omega
    · obtain ⟨t1, g1, k1, k2, k3, k4, k5⟩ := qH (z := z) (c := c) (m1 r2) (σ := []) (by rw [List.append_nil]; exact hv) w1
      obtain ⟨b, b1, b2, b3⟩ := (m2 r2 π1 t1 g1 k1).2 k2
      have k6 := k5 (ra r2)
      rw [b1] at k6
      have i2 := qA_in (c := c) hz (a := b) k4 nπ
      rw [k6]
      show ¬ (_ ≤ qA y z c (y.2.1 t1) b π2 ∧ _)
      omega
  · obtain ⟨s1, f1, l1, l2, l3, l4, l5⟩ := qH (z := z) (c := c) (m1 r) h0 hρ
    obtain ⟨e, e1, e2, e3⟩ := (m2 r ρ1 s1 f1 l1).2 l2
    have l6 := l5 (ra r)
    rw [e1] at l6
    have i1 := qA_in (c := c) hz (a := e) l4 nρ
    rw [l6]
    show ¬ (qA y z c (y.2.1 s1) e ρ2 ≤ _ ∧ _ < qA y z c (y.2.1 s1) e ρ2 + _)
    rcases qN_last π with nπ | ⟨π1, i, π2, rfl, nπ⟩
    · have i2 := qA_in (c := c) hz (a := ra r2) w1 nπ
      have q1 := m4 r2 _ _ hv
      omega
    · obtain ⟨t1, g1, k1, k2, k3, k4, k5⟩ := qH (z := z) (c := c) (m1 r2) (σ := []) (by rw [List.append_nil]; exact hv) w1
      obtain ⟨b, b1, b2, b3⟩ := (m2 r2 π1 t1 g1 k1).2 k2
      have k6 := k5 (ra r2)
      rw [b1] at k6
      have i2 := qA_in (c := c) hz (a := b) k4 nπ
      rw [k6]
      show ¬ (qA y z c (y.2.1 s1) e ρ2 ≤ qA y z c (y.2.1 t1) b π2 ∧ qA y z c (y.2.1 t1) b π2 < qA y z c (y.2.1 s1) e ρ2 + _)
      by_cases q : (r, ρ1) = (r2, π1)
      · injection q with q1 q2
        subst q1; subst q2
        rw [l1] at k1
        injection k1 with k1; injection k1 with k7 k8
        subst k7
        obtain rfl : e = b := by rw [e1] at b1; exact Int.ofNat.inj b1
        have e9 : ∀ i : Nat, (1, i) :: π2 = [((1, i) : Nat × Nat)] ++ π2 := fun _ => rfl
        obtain ⟨o1, -, -, -, o2⟩ := (m1 r).1 ρ1 s1 f1 l1
        have j0 : j = 0 := by
          have := qW_rest hρ l3
          exact this.1
        have i0 : i = 0 := by
          have := qW_rest w1 l3
          exact this.1
        subst j0; subst i0
        refine qA_ap hz l4 k4 nρ nπ (fun q => hn ⟨rfl, ?_⟩) w2 (ag ρ2 π2 (y.2.1 s1) (qS (V r) (ρ1 ++ [(1, 0)])) (qOk_S (m1 r) (qW_app l3 (show qW y s1 [(1, 0)] _ from ⟨rfl, l2, rfl⟩))) ⟨σ, x0, ?_⟩ ⟨(t, g), ?_⟩)
        · exact lP_shiftI (lP_consI q)
        · show V r (ρ1 ++ [(1, 0)] ++ (ρ2 ++ σ)) = some x0
          rw [← h0]; simp
        · show V r (ρ1 ++ [(1, 0)] ++ π2) = some (t, g)
          rw [← hv]; simp
      · have := m3 r ρ1 s1 f1 r2 π1 t1 g1 e b l1 k1 l2 k2 q e1 b1
        omega
/-- the same cells at the stars on the way: the same address -/
theorem qA_fr {y : qY} {z : qZ} {c c2 : Nat → Int} : ∀ (n : Nat) {π : lLc} {T t a : Nat}, π.length ≤ n → qW y T π t → (∀ (π1 : lLc) (j : Nat) (π2 : lLc), π = π1 ++ (1, j) :: π2 → c2 (qA y z c T a π1) = c (qA y z c T a π1)) → qA y z c2 T a π = qA y z c T a π
  | 0, π, T, t, a, hl, hw, _ => by
    have : π = [] := List.eq_nil_of_length_eq_zero (by omega)
    subst this
    rfl
  | n + 1, π, T, t, a, hl, hw, hc => by
    rcases qN_last π with h | ⟨π1, j, π2, rfl, h⟩
    · have := qA_sh (z := z) (c := c2) (c2 := c) (a := a) (b := a) hw h
      omega
    · obtain ⟨t1, w1, w2⟩ := qW_cut hw
      have e1 := qA_fr (c := c) (c2 := c2) (z := z) n (a := a) (by simp only [List.length_append, List.length_cons] at hl; omega) w1 (fun σ1 i σ2 e => hc σ1 i (σ2 ++ (1, j) :: π2) (by rw [e]; simp))
      rw [qA_app w1, qA_app w1, e1]
      show qA y z c2 (y.2.1 t1) (c2 (qA y z c T a π1)).toNat π2 = qA y z c (y.2.1 t1) (c (qA y z c T a π1)).toNat π2
      rw [hc π1 j π2 rfl]
      have := qA_sh (z := z) (c := c2) (c2 := c) (a := (c (qA y z c T a π1)).toNat) (b := (c (qA y z c T a π1)).toNat) w2.2.2 h
      omega
/-- roots where nothing lies may be told anew -/
theorem qMm_em {y : qY} {z : qZ} {hp : Nat} {tk : Nat → Prop} {c : Nat → Int} {rt ra rt2 ra2 : Nat × Nat → Nat} {V : Nat × Nat → qV} (h : qMm y z hp tk c rt ra V) (h2 : ∀ r : Nat × Nat, (∀ π : lLc, V r π = none) ∨ (rt2 r = rt r ∧ ra2 r = ra r)) : qMm y z hp tk c rt2 ra2 V := by
  obtain ⟨m1, m2, m3, m4, m5⟩ := h
  have k : ∀ (r : Nat × Nat) (π : lLc) (x : Nat × Nat), V r π = some x → rt2 r = rt r ∧ ra2 r = ra r := fun r π x hx => by
    rcases h2 r with z | z
    · rw [z π] at hx; simp at hx
    · exact z
  refine ⟨fun r => ?_, fun r π t g hv => ?_, fun r π t g r2 π2 t2 g2 b b2 hv hv2 => ?_, fun r π x hx => ?_, fun r r2 π π2 x x2 hne hx hx2 => ?_⟩
  · rcases h2 r with e | e
    · rw [show V r = fun _ => none from funext e]; exact qOk_none
    · rw [e.1]; exact m1 r
  · rw [(k r π _ hv).1, (k r π _ hv).2]; exact m2 r π t g hv
  · rw [(k r π _ hv).1, (k r π _ hv).2, (k r2 π2 _ hv2).1, (k r2 π2 _ hv2).2]; exact m3 r π t g r2 π2 t2 g2 b b2 hv hv2
  · rw [(k r π _ hx).2]; exact m4 r π x hx
  · rw [(k r π _ hx).1, (k r π _ hx).2, (k r2 π2 _ hx2).1, (k r2 π2 _ hx2).2]; exact m5 r r2 π π2 x x2 hne hx hx2
/-- less lies there -/
theorem qMm_sub {y : qY} {z : qZ} {hp : Nat} {tk : Nat → Prop} {c : Nat → Int} {rt ra : Nat × Nat → Nat} {V V2 : Nat × Nat → qV} (h : qMm y z hp tk c rt ra V) (h1 : ∀ r : Nat × Nat, qOk y (rt r) (V2 r)) (h2 : ∀ (r : Nat × Nat) (π : lLc) (x : Nat × Nat), V2 r π = some x → V r π = some x) : qMm y z hp tk c rt ra V2 := by
  obtain ⟨m1, m2, m3, m4, m5⟩ := h
  exact ⟨h1, fun r π t g hv => m2 r π t g (h2 r π _ hv), fun r π t g r2 π2 t2 g2 b b2 hv hv2 => m3 r π t g r2 π2 t2 g2 b b2 (h2 r π _ hv) (h2 r2 π2 _ hv2), fun r π x hx => m4 r π x (h2 r π x hx), fun r r2 π π2 x x2 hne hx hx2 => m5 r r2 π π2 x x2 hne (h2 r π x hx) (h2 r2 π2 x2 hx2)⟩
end
-- d1.t4.lean.txt
section
/-- what lies there came from elsewhere, with the same in its cell, or is no box -/
theorem qMm_map {y : qY} {z : qZ} {hp : Nat} {tk : Nat → Prop} {c c2 : Nat → Int} {rt ra rt2 ra2 : Nat × Nat → Nat} {V V2 : Nat × Nat → qV} (h : qMm y z hp tk c rt ra V) (M : Nat × Nat → lLc → Nat × Nat → lLc → Prop) (hM : ∀ (r : Nat × Nat) (π : lLc) (r2 : Nat × Nat) (π2 : lLc) (r0 : Nat × Nat) (π0 : lLc), M r π r0 π0 → M r2 π2 r0 π0 → (r, π) = (r2, π2)) (h1 : ∀ r : Nat × Nat, qOk y (rt2 r) (V2 r)) (h2 : ∀ (r : Nat × Nat) (π : lLc) (t g : Nat), V2 r π = some (t, g) → (∃ (r0 : Nat × Nat) (π0 : lLc), M r π r0 π0 ∧ V r0 π0 = some (t, g) ∧ c2 (qA y z c2 (rt2 r) (ra2 r) π) = c (qA y z c (rt r0) (ra r0) π0)) ∨ (y.1 t ≠ 4 ∧ (y.1 t = 3 → c2 (qA y z c2 (rt2 r) (ra2 r) π) = g))) (h4 : ∀ (r : Nat × Nat) (π : lLc) (x : Nat × Nat), V2 r π = some x → hp ≤ ra2 r) (h5 : ∀ (r r2 : Nat × Nat) (π π2 : lLc) (x x2 : Nat × Nat), r ≠ r2 → V2 r π = some x → V2 r2 π2 = some x2 → ra2 r + z.1 (rt2 r) ≤ ra2 r2 ∨ ra2 r2 + z.1 (rt2 r2) ≤ ra2 r) : qMm y z hp tk c2 rt2 ra2 V2 := by
  obtain ⟨m1, m2, m3, m4, m5⟩ := h
  refine ⟨h1, fun r π t g hv => ?_, fun r π t g r2 π2 t2 g2 b b2 hv hv2 k1 k2 hne hb hb2 => ?_, h4, h5⟩
  · rcases h2 r π t g hv with ⟨r0, π0, -, a2, a3⟩ | ⟨a1, a2⟩
    · rw [a3]; exact m2 r0 π0 t g a2
    · exact ⟨a2, fun q => absurd q a1⟩
  · rcases h2 r π t g hv with ⟨r0, π0, a1, a2, a3⟩ | ⟨a1, a2⟩
    · rcases h2 r2 π2 t2 g2 hv2 with ⟨r3, π3, a4, a5, a6⟩ | ⟨a4, a5⟩
      · rw [a3] at hb
        rw [a6] at hb2
        refine m3 r0 π0 t g r3 π3 t2 g2 b b2 a2 a5 k1 k2 (fun q => hne ?_) hb hb2
        injection q with q1 q2
        subst q1; subst q2
        exact hM _ _ _ _ _ _ a1 a4
      · exact absurd k2 a4
    · exact absurd k1 a1
def qUp (V : Nat × Nat → qV) (r : Nat × Nat) (W : qV) : Nat × Nat → qV := fun q => if q = r then W else V q
theorem qUp_eq {V : Nat × Nat → qV} {r : Nat × Nat} {W : qV} : qUp V r W r = W := if_pos rfl
theorem qUp_ne {V : Nat × Nat → qV} {r q : Nat × Nat} {W : qV} (h : q ≠ r) : qUp V r W q = V q := if_neg h
/-- what lies at (s, σ) goes to (d, ρ) -/
theorem qMv {y : qY} {z : qZ} {hp : Nat} {tk : Nat → Prop} {c c2 : Nat → Int} {rt ra : Nat × Nat → Nat} {V : Nat × Nat → qV} (hz : qLy y z) (h : qMm y z hp tk c rt ra V) {s d : Nat × Nat} {σ ρ : lLc} {T1 : Nat} {Vs : qV} (hsd : s ≠ d) (hσ : qW y (rt s) σ T1) (hρ : qW y (rt d) ρ T1) (hVs : qOk y (rt s) Vs) (hVs2 : ∀ (π : lLc) (x : Nat × Nat), Vs π = some x → V s π = some x ∧ ¬ lP σ π) (hVd : qOk y (rt d) (qG (V d) ρ (qS (V s) σ))) (hpar : ∀ (ρ1 : lLc) (j : Nat) (ρ2 : lLc), ρ = ρ1 ++ (1, j) :: ρ2 → ∃ x : Nat × Nat, V d ρ1 = some x) (e1 : ∀ (r : Nat × Nat) (π : lLc) (x : Nat × Nat), V r π = some x → ¬ (r = d ∧ lP ρ π) → (r = s → lP σ π → ¬ qN π) → ¬ (qA y z c (rt d) (ra d) ρ ≤ qA y z c (rt r) (ra r) π ∧ qA y z c (rt r) (ra r) π < qA y z c (rt d) (ra d) ρ + z.1 T1)) (e2 : ∀ k : Nat, ¬ (qA y z c (rt d) (ra d) ρ ≤ k ∧ k < qA y z c (rt d) (ra d) ρ + z.1 T1) → c2 k = c k) (e3 : ∀ o : Nat, o < z.1 T1 → c2 (qA y z c (rt d) (ra d) ρ + o) = c (qA y z c (rt s) (ra s) σ + o)) (e4 : hp ≤ ra d) (e5 : ∀ (r : Nat × Nat) (π : lLc) (x : Nat × Nat), r ≠ d → qUp V s Vs r π = some x → ra r + z.1 (rt r) ≤ ra d ∨ ra d + z.1 (rt d) ≤ ra r) : qMm y z hp tk c2 rt ra (qUp (qUp V s Vs) d (qG (V d) ρ (qS (V s) σ))) := by
  have hw := h
  obtain ⟨m1, m2, m3, m4, m5⟩ := h
  have own : ∀ (r : Nat × Nat) (π : lLc) (x : Nat × Nat), V r π = some x → ¬ (r = d ∧ lP ρ π) → (r = s → lP σ π → ¬ qN π) → c2 (qA y z c (rt r) (ra r) π) = c (qA y z c (rt r) (ra r) π) := fun r π x hx hn h9 => e2 _ (e1 r π x hx hn h9)
  have adr : ∀ (r : Nat × Nat) (π : lLc) (x : Nat × Nat), V r π = some x → ¬ (r = d ∧ lP ρ π) → (r = s → ¬ lP σ π) → qA y z c2 (rt r) (ra r) π = qA y z c (rt r) (ra r) π := fun r π x hx hn h9 => by
    obtain ⟨t, g⟩ := x
    refine qA_fr π.length (Nat.le_refl _) ((m1 r).1 π t g hx).1 (fun π1 j π2 e => ?_)
    subst e
    obtain ⟨u, hu⟩ := (m1 r).2.1 π1 π2 j _ hx
    exact own r π1 u hu (fun q => hn ⟨q.1, lP_tr q.2 (lP_app π1 _)⟩) (fun q1 q2 => absurd (lP_tr q2 (lP_app π1 _)) (h9 q1))
  have adρ : qA y z c2 (rt d) (ra d) ρ = qA y z c (rt d) (ra d) ρ := by
    refine qA_fr ρ.length (Nat.le_refl _) hρ (fun ρ1 j ρ2 e => ?_)
    obtain ⟨u, hu⟩ := hpar ρ1 j ρ2 e
    refine own d ρ1 u hu (fun q => ?_) (fun q => absurd q.symm hsd)
    obtain ⟨s1, e6⟩ := q.2
    have := congrArg List.length e
    have h7 := congrArg List.length e6
    simp only [List.length_append, List.length_cons] at this h7
    omega
  have mov : ∀ (n : Nat) (τ : lLc) (x : Nat × Nat), τ.length ≤ n → V s (σ ++ τ) = some x → c2 (qA y z c2 (rt d) (ra d) (ρ ++ τ)) = c (qA y z c (rt s) (ra s) (σ ++ τ)) := by
    intro n
    induction n with
    | zero =>
      intro τ x hl hx
      have : τ = [] := List.eq_nil_of_length_eq_zero (by omega)
      subst this
      rw [List.append_nil, List.append_nil, adρ]
      have := e3 0 (hz.1 T1)
      exact this
    | succ n ih =>
      intro τ x hl hx
      obtain ⟨t, g⟩ := x
      have w1 := ((m1 s).1 _ t g hx).1
      have w2 : qW y T1 τ t := qW_rest w1 hσ
      rcases qN_last τ with nτ | ⟨τ1, j, τ2, rfl, nτ⟩
      · rw [qA_app hρ, qA_app hσ, adρ]
        have i1 := qA_sh (z := z) (c := c2) (c2 := c) (a := qA y z c (rt d) (ra d) ρ) (b := qA y z c (rt s) (ra s) σ) w2 nτ
        have i2 := qA_in (c := c) hz (a := qA y z c (rt s) (ra s) σ) w2 nτ
        have p1 := hz.1 t
        have i3 := e3 (qA y z c T1 (qA y z c (rt s) (ra s) σ) τ - qA y z c (rt s) (ra s) σ) (by omega)
        rw [show qA y z c2 T1 (qA y z c (rt d) (ra d) ρ) τ = qA y z c (rt d) (ra d) ρ + (qA y z c T1 (qA y z c (rt s) (ra s) σ) τ - qA y z c (rt s) (ra s) σ) by omega, i3]
        congr 1
        omega
      · obtain ⟨⟨t1, g1⟩, hu⟩ := (m1 s).2.1 (σ ++ τ1) τ2 j _ (by rw [List.append_assoc]; exact hx)
        have h1 := ih τ1 _ (by simp only [List.length_append, List.length_cons] at hl; omega) hu
        obtain ⟨T2, v1, v2⟩ := qW_cut w2
        have b1 := qA_app (z := z) (c := c2) (a := ra d) (σ := (1, j) :: τ2) (qW_app hρ v1)
        have b2 := qA_app (z := z) (c := c) (a := ra s) (σ := (1, j) :: τ2) (qW_app hσ v1)
        have k0 : qA y z c2 (rt d) (ra d) (ρ ++ (τ1 ++ (1, j) :: τ2)) = qA y z c (rt s) (ra s) (σ ++ (τ1 ++ (1, j) :: τ2)) := by
          rw [← List.append_assoc, ← List.append_assoc, b1, b2]
          show qA y z c2 (y.2.1 T2) (c2 (qA y z c2 (rt d) (ra d) (ρ ++ τ1))).toNat τ2 = qA y z c (y.2.1 T2) (c (qA y z c (rt s) (ra s) (σ ++ τ1))).toNat τ2
          rw [h1]
          have := qA_sh (z := z) (c := c2) (c2 := c) (a := (c (qA y z c (rt s) (ra s) (σ ++ τ1))).toNat) (b := (c (qA y z c (rt s) (ra s) (σ ++ τ1))).toNat) v2.2.2 nτ
          omega
        rw [k0]
        exact own s _ _ hx (fun q => hsd q.1) (fun _ _ q => absurd rfl (q (1, j) (List.mem_append_right _ (List.mem_append_right _ (List.mem_cons_self ..)))))
  have cls : ∀ (r : Nat × Nat) (π : lLc) (x : Nat × Nat), qUp (qUp V s Vs) d (qG (V d) ρ (qS (V s) σ)) r π = some x → (∃ τ : lLc, r = d ∧ π = ρ ++ τ ∧ V s (σ ++ τ) = some x) ∨ (¬ (r = d ∧ lP ρ π) ∧ V r π = some x ∧ (r = s → ¬ lP σ π)) := fun r π x hx => by
    by_cases er : r = d
    · subst er
      rw [qUp_eq] at hx
      by_cases c1 : lP ρ π
      · obtain ⟨τ, rfl⟩ := c1
        rw [qG_in] at hx
        exact Or.inl ⟨τ, rfl, rfl, hx⟩
      · rw [qG_out c1] at hx
        exact Or.inr ⟨fun q => c1 q.2, hx, fun q => absurd q.symm hsd⟩
    · rw [qUp_ne er] at hx
      by_cases es : r = s
      · subst es
        rw [qUp_eq] at hx
        obtain ⟨f1, f2⟩ := hVs2 π x hx
        exact Or.inr ⟨fun q => er q.1, f1, fun _ => f2⟩
      · rw [qUp_ne es] at hx
        exact Or.inr ⟨fun q => er q.1, hx, fun q => absurd q es⟩
  refine qMm_map hw (fun r π r0 π0 => (∃ τ : lLc, r = d ∧ π = ρ ++ τ ∧ r0 = s ∧ π0 = σ ++ τ) ∨ (¬ (r = d ∧ lP ρ π) ∧ r0 = r ∧ π0 = π ∧ (r = s → ¬ lP σ π))) ?_ (fun r => ?_) (fun r π t g hv => ?_) (fun r π x hx => ?_) (fun r r2 π π2 x x2 hne hx hx2 => ?_)
  · rintro r π r2 π2 r0 π0 (⟨τ, a1, a2, a3, a4⟩ | ⟨a0, a1, a2, a3⟩) (⟨τ2, b1, b2, b3, b4⟩ | ⟨b0, b1, b2, b3⟩)
    · have : τ = τ2 := List.append_cancel_left (a4.symm.trans b4)
      rw [a1, a2, b1, b2, this]
    · exact absurd ⟨τ, b2.symm.trans a4⟩ (b3 (b1.symm.trans a3))
    · exact absurd ⟨τ2, a2.symm.trans b4⟩ (a3 (a1.symm.trans b3))
    · rw [← a1, ← a2, ← b1, ← b2]
  · by_cases er : r = d
    · subst er; rw [qUp_eq]; exact hVd
    · rw [qUp_ne er]
      by_cases es : r = s
      · subst es; rw [qUp_eq]; exact hVs
      · rw [qUp_ne es]; exact m1 r
  · rcases cls r π _ hv with ⟨τ, a1, a2, a3⟩ | ⟨a1, a2, a3⟩
    · refine Or.inl ⟨s, σ ++ τ, Or.inl ⟨τ, a1, a2, rfl, rfl⟩, a3, ?_⟩
      rw [a1, a2]
      exact mov τ.length τ _ (Nat.le_refl _) a3
    · refine Or.inl ⟨r, π, Or.inr ⟨a1, rfl, rfl, a3⟩, a2, ?_⟩
      rw [adr r π _ a2 a1 a3]
      exact own r π _ a2 a1 (fun q1 q2 => absurd q2 (a3 q1))
  · rcases cls r π _ hx with ⟨τ, a1, a2, a3⟩ | ⟨a1, a2, a3⟩
    · rw [a1]; exact e4
    · exact m4 r π x a2
  · rcases cls r π _ hx with ⟨τ, a1, a2, a3⟩ | ⟨a1, a2, a3⟩
    · rcases cls r2 π2 _ hx2 with ⟨τ2, b1, b2, b3⟩ | ⟨b1, b2, b3⟩
      · exact absurd (a1.trans b1.symm) hne
      · subst a1
        exact (e5 r2 π2 x2 (fun q => hne q.symm) (by rw [qUp_ne (fun q => hne q.symm)] at hx2; exact hx2)).symm
    · rcases cls r2 π2 _ hx2 with ⟨τ2, b1, b2, b3⟩ | ⟨b1, b2, b3⟩
      · subst b1
        exact e5 r π x hne (by rw [qUp_ne hne] at hx; exact hx)
      · exact m5 r r2 π π2 x x2 hne a2 b2
end
-- d1.t5.lean.txt
section
theorem qPl_par {y : qY} {T : Nat} {V : qV} (h : qOk y T V) {ρ1 : lLc} {j : Nat} {ρ2 : lLc} (hp : qPl V (ρ1 ++ (1, j) :: ρ2)) : ∃ x : Nat × Nat, V ρ1 = some x := by
  obtain ⟨τ, x, hx⟩ := hp
  exact h.2.1 ρ1 (ρ2 ++ τ) j x (by rw [List.append_assoc] at hx; exact hx)
/-- no cell of a star on the way is written: the same address -/
theorem qA_pl {y : qY} {z : qZ} {c c2 : Nat → Int} {T t a : Nat} {V : qV} {π : lLc} (h : qOk y T V) (hp : qPl V π) (hw : qW y T π t) (hc : ∀ (π1 : lLc) (x : Nat × Nat), V π1 = some x → lP π1 π → π1 ≠ π → c2 (qA y z c T a π1) = c (qA y z c T a π1)) : qA y z c2 T a π = qA y z c T a π := by
  refine qA_fr π.length (Nat.le_refl _) hw (fun π1 j π2 e => ?_)
  subst e
  obtain ⟨x, hx⟩ := qPl_par h hp
  refine hc π1 x hx (lP_app _ _) (fun e => ?_)
  have := congrArg List.length e
  simp only [List.length_append, List.length_cons] at this
  omega
/-- what lies elsewhere keeps its address -/
theorem qMv_ad {y : qY} {z : qZ} {hp : Nat} {tk : Nat → Prop} {c c2 : Nat → Int} {rt ra : Nat × Nat → Nat} {V : Nat × Nat → qV} (h : qMm y z hp tk c rt ra V) {s d : Nat × Nat} {σ ρ : lLc} {T1 : Nat} (e1 : ∀ (r : Nat × Nat) (π : lLc) (x : Nat × Nat), V r π = some x → ¬ (r = d ∧ lP ρ π) → (r = s → lP σ π → ¬ qN π) → ¬ (qA y z c (rt d) (ra d) ρ ≤ qA y z c (rt r) (ra r) π ∧ qA y z c (rt r) (ra r) π < qA y z c (rt d) (ra d) ρ + z.1 T1)) (e2 : ∀ k : Nat, ¬ (qA y z c (rt d) (ra d) ρ ≤ k ∧ k < qA y z c (rt d) (ra d) ρ + z.1 T1) → c2 k = c k) {r : Nat × Nat} {π : lLc} {t : Nat} (hpl : qPl (V r) π) (hw : qW y (rt r) π t) (hn : r = d → lCmp π ρ → lP π ρ) (h9 : r = s → ¬ lP σ π) : qA y z c2 (rt r) (ra r) π = qA y z c (rt r) (ra r) π := by
  refine qA_pl (h.1 r) hpl hw (fun π1 x hx h1 h2 => e2 _ (e1 r π1 x hx (fun q => h2 ?_) (fun q1 q2 => absurd (lP_tr q2 h1) (h9 q1))))
  have h3 := hn q.1 (Or.inr (lP_tr q.2 h1))
  exact lP_anti h1 (lP_tr h3 q.2)
/-- a fresh root that nothing lies near: no cell of others is in it -/
theorem qFresh {y : qY} {z : qZ} {hp : Nat} {tk : Nat → Prop} {c : Nat → Int} {rt ra : Nat × Nat → Nat} {V : Nat × Nat → qV} (hz : qLy y z) (h : qMm y z hp tk c rt ra V) {a n : Nat} (ha : hp ≤ a) {r : Nat × Nat} {π : lLc} {x : Nat × Nat} (hx : V r π = some x) (hd : ra r + z.1 (rt r) ≤ a ∨ a + n ≤ ra r) : ¬ (a ≤ qA y z c (rt r) (ra r) π ∧ qA y z c (rt r) (ra r) π < a + n) := by
  obtain ⟨t, g⟩ := x
  obtain ⟨m1, m2, m3, m4, m5⟩ := h
  have w1 := ((m1 r).1 π t g hx).1
  have p1 := hz.1 t
  rcases qN_last π with nπ | ⟨π1, i, π2, rfl, nπ⟩
  · have i2 := qA_in (c := c) hz (a := ra r) w1 nπ
    omega
  · obtain ⟨t1, g1, k1, k2, k3, k4, k5⟩ := qH (z := z) (c := c) (m1 r) (σ := []) (by rw [List.append_nil]; exact hx) w1
    obtain ⟨b, b1, b2, b3⟩ := (m2 r π1 t1 g1 k1).2 k2
    have k6 := k5 (ra r)
    rw [b1] at k6
    have i2 := qA_in (c := c) hz (a := b) k4 nπ
    rw [k6]
    show ¬ (_ ≤ qA y z c (y.2.1 t1) b π2 ∧ _)
    omega
/-- cells outside of all that lies there may be written -/
theorem qMm_c {y : qY} {z : qZ} {hp : Nat} {tk : Nat → Prop} {c c2 : Nat → Int} {rt ra : Nat × Nat → Nat} {V : Nat × Nat → qV} (h : qMm y z hp tk c rt ra V) (hc : ∀ (r : Nat × Nat) (π : lLc) (x : Nat × Nat), V r π = some x → c2 (qA y z c (rt r) (ra r) π) = c (qA y z c (rt r) (ra r) π)) : qMm y z hp tk c2 rt ra V := by
  have hw := h
  obtain ⟨m1, m2, m3, m4, m5⟩ := h
  have ad : ∀ (r : Nat × Nat) (π : lLc) (x : Nat × Nat), V r π = some x → c2 (qA y z c2 (rt r) (ra r) π) = c (qA y z c (rt r) (ra r) π) := fun r π x hx => by
    obtain ⟨t, g⟩ := x
    rw [qA_pl (c2 := c2) (m1 r) ⟨[], (t, g), by rw [List.append_nil]; exact hx⟩ ((m1 r).1 π t g hx).1 (fun π1 u hu _ _ => hc r π1 u hu)]
    exact hc r π _ hx
  exact qMm_map hw (fun r π r0 π0 => r0 = r ∧ π0 = π) (fun r π r2 π2 r0 π0 a b => by rw [← a.1, ← a.2, ← b.1, ← b.2]) m1 (fun r π t g hv => Or.inl ⟨r, π, ⟨rfl, rfl⟩, hv, ad r π _ hv⟩) m4 m5
/-- a new value of one cell -/
theorem qMm_pl {y : qY} {z : qZ} {hp : Nat} {tk : Nat → Prop} {c : Nat → Int} {rt ra : Nat × Nat → Nat} {V : Nat × Nat → qV} (h : qMm y z hp tk c rt ra V) {d : Nat × Nat} (h2 : y.1 (rt d) ≠ 2) (h3 : y.1 (rt d) ≠ 3) (h4 : y.1 (rt d) ≠ 4) (e4 : hp ≤ ra d) (e5 : ∀ (r : Nat × Nat) (π : lLc) (x : Nat × Nat), r ≠ d → V r π = some x → ra r + z.1 (rt r) ≤ ra d ∨ ra d + z.1 (rt d) ≤ ra r) : qMm y z hp tk c rt ra (qUp V d (qL (rt d))) := by
  have hw := h
  obtain ⟨m1, m2, m3, m4, m5⟩ := h
  have cls : ∀ (r : Nat × Nat) (π : lLc) (x : Nat × Nat), qUp V d (qL (rt d)) r π = some x → (r = d ∧ x = (rt d, 0)) ∨ (r ≠ d ∧ V r π = some x) := fun r π x hx => by
    by_cases e : r = d
    · subst e
      rw [qUp_eq] at hx
      cases π with
      | nil => exact Or.inl ⟨rfl, (Option.some.inj hx).symm⟩
      | cons a b => exact absurd (show none = some x from hx) (by simp)
    · rw [qUp_ne e] at hx
      exact Or.inr ⟨e, hx⟩
  refine qMm_map hw (fun r π r0 π0 => r0 = r ∧ π0 = π) (fun r π r2 π2 r0 π0 a b => by rw [← a.1, ← a.2, ← b.1, ← b.2]) (fun r => ?_) (fun r π t g hv => ?_) (fun r π x hx => ?_) (fun r r2 π π2 x x2 hne hx hx2 => ?_)
  · by_cases e : r = d
    · subst e; rw [qUp_eq]; exact (qFu_L h2 h3 h4).1
    · rw [qUp_ne e]; exact m1 r
  · rcases cls r π _ hv with ⟨a1, a2⟩ | ⟨a1, a2⟩
    · injection a2 with a3 a4
      exact Or.inr ⟨by rw [a3]; exact h4, fun q => absurd (by rw [← a3]; exact q) h3⟩
    · exact Or.inl ⟨r, π, ⟨rfl, rfl⟩, a2, rfl⟩
  · rcases cls r π _ hx with ⟨a1, a2⟩ | ⟨a1, a2⟩
    · rw [a1]; exact e4
    · exact m4 r π x a2
  · rcases cls r π _ hx with ⟨a1, a2⟩ | ⟨a1, a2⟩
    · rcases cls r2 π2 _ hx2 with ⟨b1, b2⟩ | ⟨b1, b2⟩
      · exact absurd (a1.trans b1.symm) hne
      · subst a1; exact (e5 r2 π2 x2 b1 b2).symm
    · rcases cls r2 π2 _ hx2 with ⟨b1, b2⟩ | ⟨b1, b2⟩
      · subst b1; exact e5 r π x a1 a2
      · exact m5 r r2 π π2 x x2 hne a2 b2
end
-- d1.t6.lean.txt
section
/-- the same, with one new box in free cells -/
theorem qMm_mapB {y : qY} {z : qZ} {hp : Nat} {tk tk2 : Nat → Prop} {c c2 : Nat → Int} {rt ra rt2 ra2 : Nat × Nat → Nat} {V V2 : Nat × Nat → qV} (hz : qLy y z) (h : qMm y z hp tk c rt ra V) (M : Nat × Nat → lLc → Nat × Nat → lLc → Prop) (rb : Nat × Nat) (πb : lLc) (b n : Nat) (hn1 : 1 ≤ n) (hb1 : b + n ≤ hp) (hb2 : ∀ k : Nat, b ≤ k → k < b + n → tk2 k ∧ ¬ tk k) (htk : ∀ k : Nat, tk k → tk2 k) (hM : ∀ (r : Nat × Nat) (π : lLc) (r2 : Nat × Nat) (π2 : lLc) (r0 : Nat × Nat) (π0 : lLc), M r π r0 π0 → M r2 π2 r0 π0 → (r, π) = (r2, π2)) (h1 : ∀ r : Nat × Nat, qOk y (rt2 r) (V2 r)) (h2 : ∀ (r : Nat × Nat) (π : lLc) (t g : Nat), V2 r π = some (t, g) → (∃ (r0 : Nat × Nat) (π0 : lLc), M r π r0 π0 ∧ V r0 π0 = some (t, g) ∧ c2 (qA y z c2 (rt2 r) (ra2 r) π) = c (qA y z c (rt r0) (ra r0) π0)) ∨ ((r, π) = (rb, πb) ∧ y.1 t = 4 ∧ z.1 (y.2.1 t) = n ∧ c2 (qA y z c2 (rt2 r) (ra2 r) π) = b)) (h4 : ∀ (r : Nat × Nat) (π : lLc) (x : Nat × Nat), V2 r π = some x → hp ≤ ra2 r) (h5 : ∀ (r r2 : Nat × Nat) (π π2 : lLc) (x x2 : Nat × Nat), r ≠ r2 → V2 r π = some x → V2 r2 π2 = some x2 → ra2 r + z.1 (rt2 r) ≤ ra2 r2 ∨ ra2 r2 + z.1 (rt2 r2) ≤ ra2 r) : qMm y z hp tk2 c2 rt2 ra2 V2 := by
  obtain ⟨m1, m2, m3, m4, m5⟩ := h
  have fr : ∀ (r0 : Nat × Nat) (π0 : lLc) (t g b2 : Nat), V r0 π0 = some (t, g) → y.1 t = 4 → c (qA y z c (rt r0) (ra r0) π0) = b2 → b + n ≤ b2 ∨ b2 + z.1 (y.2.1 t) ≤ b := fun r0 π0 t g b2 hv h4 hb => by
    obtain ⟨b3, g1, g2, g3⟩ := (m2 r0 π0 t g hv).2 h4
    obtain rfl : b2 = b3 := Int.ofNat.inj (hb.symm.trans g1)
    have p1 := hz.1 (y.2.1 t)
    rcases Nat.lt_or_ge b2 (b + n) with q1 | q1
    · rcases Nat.lt_or_ge b (b2 + z.1 (y.2.1 t)) with q2 | q2
      · rcases Nat.lt_or_ge b b2 with q3 | q3
        · exact absurd (g3 b2 (Nat.le_refl _) (by omega)) (hb2 b2 (by omega) q1).2
        · exact absurd (g3 b q3 q2) (hb2 b (Nat.le_refl _) (by omega)).2
      · exact Or.inr q2
    · exact Or.inl q1
  refine ⟨h1, fun r π t g hv => ?_, fun r π t g r2 π2 t2 g2 b1 b2 hv hv2 k1 k2 hne hb hb2' => ?_, h4, h5⟩
  · rcases h2 r π t g hv with ⟨r0, π0, -, a2, a3⟩ | ⟨a1, a2, a3, a4⟩
    · rw [a3]
      refine ⟨(m2 r0 π0 t g a2).1, fun q => ?_⟩
      obtain ⟨b3, g1, g2, g3⟩ := (m2 r0 π0 t g a2).2 q
      exact ⟨b3, g1, g2, fun k k1 k2 => htk k (g3 k k1 k2)⟩
    · exact ⟨fun q => absurd (a2.symm.trans q) (by decide), fun _ => ⟨b, a4, by rw [a3]; exact hb1, fun k k1 k2 => (hb2 k k1 (by rw [a3] at k2; exact k2)).1⟩⟩
  · rcases h2 r π t g hv with ⟨r0, π0, a1, a2, a3⟩ | ⟨a1, a2, a3, a4⟩
    · rcases h2 r2 π2 t2 g2 hv2 with ⟨r3, π3, a4, a5, a6⟩ | ⟨a4, a5, a6, a7⟩
      · rw [a3] at hb
        rw [a6] at hb2'
        refine m3 r0 π0 t g r3 π3 t2 g2 b1 b2 a2 a5 k1 k2 (fun q => hne ?_) hb hb2'
        injection q with q1 q2
        subst q1; subst q2
        exact hM _ _ _ _ _ _ a1 a4
      · rw [a3] at hb
        obtain rfl : b2 = b := Int.ofNat.inj (hb2'.symm.trans a7)
        rw [a6]
        exact (fr r0 π0 t g b1 a2 k1 hb).symm
    · obtain rfl : b1 = b := Int.ofNat.inj (hb.symm.trans a4)
      rcases h2 r2 π2 t2 g2 hv2 with ⟨r3, π3, b4, a5, a6⟩ | ⟨b4, a5, a6, a7⟩
      · rw [a6] at hb2'
        rw [a3]
        exact fr r3 π3 t2 g2 b2 a5 k2 hb2'
      · exact absurd (a1.trans b4.symm) hne
def qRt (rt : Nat × Nat → Nat) (r : Nat × Nat) (t : Nat) : Nat × Nat → Nat := fun q => if q = r then t else rt q
theorem qRt_eq {rt : Nat × Nat → Nat} {r : Nat × Nat} {t : Nat} : qRt rt r t r = t := if_pos rfl
theorem qRt_ne {rt : Nat × Nat → Nat} {r q : Nat × Nat} {t : Nat} (h : q ≠ r) : qRt rt r t q = rt q := if_neg h
/-- a value is boxed -/
theorem qMm_bx {y : qY} {z : qZ} {hp : Nat} {tk tk2 : Nat → Prop} {c c2 : Nat → Int} {rt ra : Nat × Nat → Nat} {V : Nat × Nat → qV} (hz : qLy y z) (h : qMm y z hp tk c rt ra V) {s : Nat × Nat} {t b : Nat} (hf : qF y (V s) [] (rt s)) (hne : qPl (V s) []) (h4 : y.1 t = 4) (ht : y.2.1 t = rt s) (hz1 : z.1 t = 1) (hb1 : b + z.1 (rt s) ≤ hp) (hb2 : ∀ k : Nat, b ≤ k → k < b + z.1 (rt s) → tk2 k ∧ ¬ tk k) (htk : ∀ k : Nat, tk k → tk2 k) (e1 : ∀ o : Nat, o < z.1 (rt s) → c2 (b + o) = c (ra s + o)) (e2 : c2 (ra s) = b) (e3 : ∀ k : Nat, k ≠ ra s → ¬ (b ≤ k ∧ k < b + z.1 (rt s)) → c2 k = c k) : qMm y z hp tk2 c2 (qRt rt s t) ra (qUp V s (qB t (V s))) := by
  have hw := h
  obtain ⟨m1, m2, m3, m4, m5⟩ := h
  obtain ⟨σ0, x0, hx0⟩ := hne
  have hs0 : hp ≤ ra s := m4 s _ x0 hx0
  have hfu : qFu y (rt s) (V s) := ⟨m1 s, hf⟩
  have hfB : qFu y t (qB t (V s)) := qFu_B h4 (by rw [ht]; exact hfu)
  -- cells of what lies there, but the first of s
  have own : ∀ (r : Nat × Nat) (π : lLc) (x : Nat × Nat), V r π = some x → (r = s → ¬ qN π) → c2 (qA y z c (rt r) (ra r) π) = c (qA y z c (rt r) (ra r) π) := fun r π x hx hn => by
    obtain ⟨u, g⟩ := x
    have w1 := ((m1 r).1 π u g hx).1
    have p1 := hz.1 u
    rcases qN_last π with nπ | ⟨π1, i, π2, rfl, nπ⟩
    · have hr : r ≠ s := fun q => hn q nπ
      have i2 := qA_in (c := c) hz (a := ra r) w1 nπ
      have i3 := m5 r s _ _ _ _ hr hx hx0
      have i4 := m4 r _ _ hx
      have p2 := hz.1 (rt s)
      exact e3 _ (by omega) (by omega)
    · obtain ⟨t1, g1, k1, k2, k3, k4, k5⟩ := qH (z := z) (c := c) (m1 r) (σ := []) (by rw [List.append_nil]; exact hx) w1
      obtain ⟨b0, b1, b2, b3⟩ := (m2 r π1 t1 g1 k1).2 k2
      have k6 := k5 (ra r)
      rw [b1] at k6
      have k6 : qA y z c (rt r) (ra r) (π1 ++ (1, i) :: π2) = qA y z c (y.2.1 t1) b0 π2 := k6
      have i2 := qA_in (c := c) hz (a := b0) k4 nπ
      rw [k6]
      refine e3 _ (by omega) (fun q => ?_)
      exact absurd (b3 (qA y z c (y.2.1 t1) b0 π2) i2.1 (by omega)) (hb2 _ q.1 q.2).2
  have adr : ∀ (r : Nat × Nat) (π : lLc) (x : Nat × Nat), r ≠ s → V r π = some x → c2 (qA y z c2 (rt r) (ra r) π) = c (qA y z c (rt r) (ra r) π) := fun r π x hr hx => by
    obtain ⟨u, g⟩ := x
    rw [qA_pl (c2 := c2) (m1 r) ⟨[], (u, g), by rw [List.append_nil]; exact hx⟩ ((m1 r).1 π u g hx).1 (fun π1 v hv _ _ => own r π1 v hv (fun q => absurd q hr))]
    exact own r π _ hx (fun q => absurd q hr)
  have mov : ∀ (n : Nat) (τ : lLc) (x : Nat × Nat), τ.length ≤ n → V s τ = some x → c2 (qA y z c2 (rt s) b τ) = c (qA y z c (rt s) (ra s) τ) := by
    intro n
    induction n with
    | zero =>
      intro τ x hl hx
      have : τ = [] := List.eq_nil_of_length_eq_zero (by omega)
      subst this
      exact e1 0 (hz.1 _)
    | succ n ih =>
      intro τ x hl hx
      obtain ⟨u, g⟩ := x
      have w2 := ((m1 s).1 _ u g hx).1
      rcases qN_last τ with nτ | ⟨τ1, j, τ2, rfl, nτ⟩
      · have i1 := qA_sh (z := z) (c := c2) (c2 := c) (a := b) (b := ra s) w2 nτ
        have i2 := qA_in (c := c) hz (a := ra s) w2 nτ
        have p1 := hz.1 u
        have i3 := e1 (qA y z c (rt s) (ra s) τ - ra s) (by omega)
        rw [show qA y z c2 (rt s) b τ = b + (qA y z c (rt s) (ra s) τ - ra s) by omega, i3]
        congr 1
        omega
      · obtain ⟨⟨t1, g1⟩, hu⟩ := (m1 s).2.1 τ1 τ2 j _ hx
        have h1 := ih τ1 _ (by simp only [List.length_append, List.length_cons] at hl; omega) hu
        obtain ⟨T2, v1, v2⟩ := qW_cut w2
        have b1 := qA_app (z := z) (c := c2) (a := b) (σ := (1, j) :: τ2) v1
        have b2 := qA_app (z := z) (c := c) (a := ra s) (σ := (1, j) :: τ2) v1
        have k0 : qA y z c2 (rt s) b (τ1 ++ (1, j) :: τ2) = qA y z c (rt s) (ra s) (τ1 ++ (1, j) :: τ2) := by
          rw [b1, b2]
          show qA y z c2 (y.2.1 T2) (c2 (qA y z c2 (rt s) b τ1)).toNat τ2 = qA y z c (y.2.1 T2) (c (qA y z c (rt s) (ra s) τ1)).toNat τ2
          rw [h1]
          have := qA_sh (z := z) (c := c2) (c2 := c) (a := (c (qA y z c (rt s) (ra s) τ1)).toNat) (b := (c (qA y z c (rt s) (ra s) τ1)).toNat) v2.2.2 nτ
          omega
        rw [k0]
        refine own s _ _ hx (fun _ q => ?_)
        exact absurd rfl (q (1, j) (List.mem_append_right _ (List.mem_cons_self ..)))
  have cls : ∀ (r : Nat × Nat) (π : lLc) (x : Nat × Nat), qUp V s (qB t (V s)) r π = some x → (r = s ∧ π = [] ∧ x = (t, 0)) ∨ (∃ τ : lLc, r = s ∧ π = (1, 0) :: τ ∧ V s τ = some x) ∨ (r ≠ s ∧ V r π = some x) := fun r π x hx => by
    by_cases e : r = s
    · subst e
      rw [qUp_eq] at hx
      cases π with
      | nil => exact Or.inl ⟨rfl, rfl, (Option.some.inj hx).symm⟩
      | cons a τ =>
        obtain ⟨q, j⟩ := a
        have hx : (if q = 1 ∧ j = 0 then V r τ else none) = some x := hx
        by_cases c : q = 1 ∧ j = 0
        · rw [if_pos c] at hx
          exact Or.inr (Or.inl ⟨τ, rfl, by rw [c.1, c.2], hx⟩)
        · rw [if_neg c] at hx; exact absurd hx (by simp)
    · rw [qUp_ne e] at hx
      exact Or.inr (Or.inr ⟨e, hx⟩)
  refine qMm_mapB hz hw (fun r π r0 π0 => (∃ τ : lLc, r = s ∧ π = (1, 0) :: τ ∧ r0 = s ∧ π0 = τ) ∨ (r ≠ s ∧ r0 = r ∧ π0 = π)) s [] b (z.1 (rt s)) (hz.1 _) hb1 hb2 htk ?_ (fun r => ?_) (fun r π u g hv => ?_) (fun r π x hx => ?_) (fun r r2 π π2 x x2 hne hx hx2 => ?_)
  · rintro r π r2 π2 r0 π0 (⟨τ, a1, a2, a3, a4⟩ | ⟨a0, a1, a2⟩) (⟨τ2, b1, b2, b3, b4⟩ | ⟨b0, b1, b2⟩)
    · rw [a1, a2, b1, b2, ← a4, ← b4]
    · exact absurd (b1.symm.trans a3) b0
    · exact absurd (a1.symm.trans b3) a0
    · rw [← a1, ← a2, ← b1, ← b2]
  · by_cases e : r = s
    · subst e; rw [qUp_eq, qRt_eq]; exact hfB.1
    · rw [qUp_ne e, qRt_ne e]; exact m1 r
  · rcases cls r π _ hv with ⟨a1, a2, a3⟩ | ⟨τ, a1, a2, a3⟩ | ⟨a1, a2⟩
    · injection a3 with a4 a5
      refine Or.inr ⟨by rw [a1, a2], by rw [a4]; exact h4, by rw [a4, ht], ?_⟩
      rw [a1, a2]; exact e2
    · refine Or.inl ⟨s, τ, Or.inl ⟨τ, a1, a2, rfl, rfl⟩, a3, ?_⟩
      rw [a1, a2, qRt_eq]
      show c2 (qA y z c2 (y.2.1 t) (c2 (ra s)).toNat τ) = _
      rw [e2, ht]
      exact mov τ.length τ _ (Nat.le_refl _) a3
    · refine Or.inl ⟨r, π, Or.inr ⟨a1, rfl, rfl⟩, a2, ?_⟩
      rw [qRt_ne a1]
      exact adr r π _ a1 a2
  · rcases cls r π _ hx with ⟨a1, a2, a3⟩ | ⟨τ, a1, a2, a3⟩ | ⟨a1, a2⟩
    · rw [a1]; exact hs0
    · rw [a1]; exact hs0
    · exact m4 r π x a2
  · have p2 := hz.1 (rt s)
    by_cases er : r = s
    · subst er
      have e6 : r2 ≠ r := fun q => hne q.symm
      rw [qUp_ne e6] at hx2
      have := m5 r r2 _ _ _ _ hne hx0 hx2
      rw [qRt_eq, qRt_ne e6]
      omega
    · rw [qUp_ne er] at hx
      by_cases er2 : r2 = s
      · subst er2
        have := m5 r r2 _ _ _ _ hne hx hx0
        rw [qRt_eq, qRt_ne er]
        omega
      · rw [qUp_ne er2] at hx2
        rw [qRt_ne er, qRt_ne er2]
        exact m5 r r2 π π2 x x2 hne hx hx2
end
