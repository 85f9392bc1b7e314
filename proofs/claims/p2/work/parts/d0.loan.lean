/-- a place's way: first (frame, variable), then (0, j) member j, (1, 0) star, (g + 2, j) part j of variant g -/
abbrev lLc := List (Nat × Nat)
def lP (a b : lLc) : Prop := ∃ s : lLc, b = a ++ s
def lCmp (a b : lLc) : Prop := lP a b ∨ lP b a
theorem lP_rf (a : lLc) : lP a a := ⟨[], (List.append_nil a).symm⟩
theorem lP_app (a s : lLc) : lP a (a ++ s) := ⟨s, rfl⟩
theorem lP_tr {a b c : lLc} (h1 : lP a b) (h2 : lP b c) : lP a c := by
  obtain ⟨s, rfl⟩ := h1
  obtain ⟨t, rfl⟩ := h2
  exact ⟨s ++ t, List.append_assoc a s t⟩
theorem lP_cons {x y : Nat × Nat} {a b : lLc} (h : lP (x :: a) (y :: b)) : x = y ∧ lP a b := by
  obtain ⟨s, h⟩ := h
  rw [List.cons_append] at h
  injection h with h1 h2
  exact ⟨h1.symm, s, h2⟩
theorem lP_consI {x : Nat × Nat} {a b : lLc} (h : lP a b) : lP (x :: a) (x :: b) := by
  obtain ⟨s, rfl⟩ := h
  exact ⟨s, rfl⟩
theorem lP_shift {a s t : lLc} (h : lP (a ++ s) (a ++ t)) : lP s t := by
  induction a with
  | nil => exact h
  | cons x a ih => exact ih (lP_cons h).2
theorem lP_shiftI {a s t : lLc} (h : lP s t) : lP (a ++ s) (a ++ t) := by
  obtain ⟨r, rfl⟩ := h
  exact ⟨r, (List.append_assoc a s r).symm⟩
theorem lP_two : ∀ {a b c : lLc}, lP a c → lP b c → lCmp a b
  | [], b, _, _, _ => Or.inl ⟨b, rfl⟩
  | x :: a, [], _, _, _ => Or.inr ⟨x :: a, rfl⟩
  | x :: a, y :: b, c, h1, h2 => by
    obtain ⟨s, rfl⟩ := h1
    obtain ⟨e, h3⟩ := lP_cons (show lP (y :: b) (x :: (a ++ s)) from h2)
    subst e
    rcases lP_two (lP_app a s) h3 with h | h
    · exact Or.inl (lP_consI h)
    · exact Or.inr (lP_consI h)
theorem lCmp_sym {a b : lLc} (h : lCmp a b) : lCmp b a := h.elim Or.inr Or.inl
theorem lCmp_pre {x a y : lLc} (h : lP x a) (c : lCmp a y) : lCmp x y := by
  rcases c with c | c
  · exact Or.inl (lP_tr h c)
  · exact lP_two h c
theorem lCmp_cons {x y : Nat × Nat} {a b : lLc} (h : lCmp (x :: a) (y :: b)) : x = y ∧ lCmp a b := by
  rcases h with h | h
  · exact ⟨(lP_cons h).1, Or.inl (lP_cons h).2⟩
  · exact ⟨(lP_cons h).1.symm, Or.inr (lP_cons h).2⟩
theorem lCmp_shift {a s t : lLc} (h : lCmp (a ++ s) (a ++ t)) : lCmp s t := h.elim (fun h => Or.inl (lP_shift h)) (fun h => Or.inr (lP_shift h))
theorem lP_head {x : Nat × Nat} {a b : lLc} (h : lP (x :: a) b) : ∃ c : lLc, b = x :: c ∧ lP a c := by
  obtain ⟨s, rfl⟩ := h
  exact ⟨a ++ s, rfl, lP_app a s⟩
theorem lP_anti {a b : lLc} (h1 : lP a b) (h2 : lP b a) : a = b := by
  obtain ⟨s, rfl⟩ := h1
  obtain ⟨t, h⟩ := h2
  have e := congrArg List.length h
  simp only [List.length_append] at e
  have : s = [] := List.eq_nil_of_length_eq_zero (by omega)
  subst this
  exact (List.append_nil a).symm
/-- a function's loans: lv variable, lp way, sh shared, ou outer; rf: the variable is a reference -/
abbrev lTb := (Nat → Nat) × (Nat → lLc) × (Nat → Prop) × (Nat → Prop) × (Nat → Prop)
/-- holders of a frame: R where each reference leads, A those that are still used, H the loans that they hold, U the unique ones -/
abbrev lFr := (Nat → Option lLc) × (Nat → Prop) × (Nat → Nat → Prop) × (Nat → Prop)
/-- u holds a loan of a place on w by which it is where it is -/
def lRt (tb : lTb) (H : Nat → Nat → Prop) (U : Nat → Prop) (u w : Nat) (a b : lLc) : Prop := w < 40 ∧ ∃ (l : Nat) (π : lLc), ¬ tb.2.2.2.1 l ∧ H u l ∧ tb.1 l = w ∧ tb.2.1 l = (1, 0) :: π ∧ lP (b ++ π) a ∧ (U u → ¬ tb.2.2.1 l)
/-- a place of a frame below f -/
def lUn (f : Nat) (a : lLc) : Prop := ∃ (j v : Nat) (r : lLc), a = (j, v) :: r ∧ j < f
/-- of a holder at place a: the loan of its frame's variable, or the outer one (An: loan, place, 1 unique) -/
def lOk (f : Nat) (tb : lTb) (An : Nat → lLc → Nat → Prop) (hd : Nat → Prop) (un : Prop) (a : lLc) : Prop := (∃ l : Nat, ¬ tb.2.2.2.1 l ∧ hd l ∧ ¬ tb.2.2.2.2 (tb.1 l) ∧ lP ((f, tb.1 l) :: tb.2.1 l) a ∧ (un → ¬ tb.2.2.1 l)) ∨ (∃ (o : Nat) (e : lLc) (q : Nat), tb.2.2.2.1 o ∧ hd o ∧ An o e q ∧ lP e a ∧ (un → q = 1) ∧ lUn f e)
def lIv (f : Nat) (tb : lTb) (An : Nat → lLc → Nat → Prop) (fr : lFr) : Prop :=
  (∀ (u : Nat) (a : lLc), fr.2.1 u → fr.1 u = some a → lOk f tb An (fr.2.2.1 u) (fr.2.2.2 u) a) ∧
  (∀ (u w : Nat) (a b : lLc), u ≠ w → fr.2.1 u → fr.2.1 w → fr.1 u = some a → fr.1 w = some b → (fr.2.2.2 u ∨ fr.2.2.2 w) → lCmp a b → lRt tb fr.2.2.1 fr.2.2.2 u w a b ∨ lRt tb fr.2.2.1 fr.2.2.2 w u b a)
theorem lRt_mono {tb : lTb} {H H2 : Nat → Nat → Prop} {U U2 : Nat → Prop} {u w : Nat} {a b : lLc} (hH : ∀ l : Nat, H u l → H2 u l) (hU : U2 u → U u) (h : lRt tb H U u w a b) : lRt tb H2 U2 u w a b := by
  obtain ⟨h0, l, π, h1, h2, h3, h4, h5, h6⟩ := h
  exact ⟨h0, l, π, h1, hH l h2, h3, h4, h5, fun x => h6 (hU x)⟩
theorem lOk_mono {f : Nat} {tb : lTb} {An : Nat → lLc → Nat → Prop} {hd hd2 : Nat → Prop} {un un2 : Prop} {a a2 : lLc} (hH : ∀ l : Nat, hd l → hd2 l) (hU : un2 → un) (ha : lP a a2) (h : lOk f tb An hd un a) : lOk f tb An hd2 un2 a2 := by
  rcases h with ⟨l, h1, h2, h3, h4, h5⟩ | ⟨o, e, q, h1, h2, h3, h4, h5, h6⟩
  · exact Or.inl ⟨l, h1, hH l h2, h3, lP_tr h4 ha, fun x => h5 (hU x)⟩
  · exact Or.inr ⟨o, e, q, h1, hH o h2, h3, lP_tr h4 ha, fun x => h5 (hU x), h6⟩
/-- fewer holders, more loans -/
theorem lIv_mono {f : Nat} {tb : lTb} {An : Nat → lLc → Nat → Prop} {fr fr2 : lFr} (h : lIv f tb An fr) (hA : ∀ u : Nat, fr2.2.1 u → fr.2.1 u) (hR : ∀ u : Nat, fr2.2.1 u → fr2.1 u = fr.1 u) (hH : ∀ u l : Nat, fr2.2.1 u → fr.2.2.1 u l → fr2.2.2.1 u l) (hU : ∀ u : Nat, fr2.2.1 u → (fr2.2.2.2 u ↔ fr.2.2.2 u)) : lIv f tb An fr2 := by
  refine ⟨fun u a hu ha => lOk_mono (hH u · hu) (hU u hu).1 (lP_rf a) (h.1 u a (hA u hu) ((hR u hu).symm.trans ha)), fun u w a b hne hu hw ha hb hq hc => ?_⟩
  rcases h.2 u w a b hne (hA u hu) (hA w hw) ((hR u hu).symm.trans ha) ((hR w hw).symm.trans hb) (hq.imp (hU u hu).1 (hU w hw).1) hc with x | x
  · exact Or.inl (lRt_mono (fun l => hH u l hu) (hU u hu).1 x)
  · exact Or.inr (lRt_mono (fun l => hH w l hw) (hU w hw).1 x)
/-- a new holder t beside those of A2 -/
def lUp {α : Type} (g : Nat → α) (t : Nat) (x : α) : Nat → α := fun u => if u = t then x else g u
theorem lUp_eq {α : Type} {g : Nat → α} {t : Nat} {x : α} : lUp g t x t = x := if_pos rfl
theorem lUp_ne {α : Type} {g : Nat → α} {t u : Nat} {x : α} (h : u ≠ t) : lUp g t x u = g u := if_neg h
/-- what a new holder t at place a with the loans hd meets of a holder u -/
def lMt (tb : lTb) (fr : lFr) (t : Nat) (hd : Nat → Prop) (un : Prop) (a : lLc) (u : Nat) : Prop := ∀ b : lLc, fr.1 u = some b → (un ∨ fr.2.2.2 u) → lCmp a b → u < 40 ∧ ∃ (l : Nat) (π : lLc), ¬ tb.2.2.2.1 l ∧ hd l ∧ tb.1 l = u ∧ tb.2.1 l = (1, 0) :: π ∧ lP (b ++ π) a ∧ (un → ¬ tb.2.2.1 l)
theorem lIv_new {f : Nat} {tb : lTb} {An : Nat → lLc → Nat → Prop} {fr : lFr} {A2 : Nat → Prop} {t : Nat} {a : lLc} {hd : Nat → Prop} {un : Prop} (h : lIv f tb An fr) (hA : ∀ u : Nat, A2 u → u ≠ t → fr.2.1 u) (h2 : lOk f tb An hd un a) (h3 : ∀ u : Nat, A2 u → u ≠ t → lMt tb fr t hd un a u) : lIv f tb An (lUp fr.1 t (some a), (fun u => A2 u ∨ u = t), lUp fr.2.2.1 t hd, lUp fr.2.2.2 t un) := by
  refine ⟨fun u b hu hb => ?_, fun u w b c hne hu hw hb hc hq hcm => ?_⟩
  · by_cases e : u = t
    · subst e
      have e1 : lUp fr.1 u (some a) u = some b := hb
      rw [lUp_eq] at e1
      obtain rfl := Option.some.inj e1
      show lOk f tb An (lUp fr.2.2.1 u hd u) (lUp fr.2.2.2 u un u) a
      rw [lUp_eq, lUp_eq]
      exact h2
    · have e1 : lUp fr.1 t (some a) u = some b := hb
      rw [lUp_ne e] at e1
      show lOk f tb An (lUp fr.2.2.1 t hd u) (lUp fr.2.2.2 t un u) b
      rw [lUp_ne e, lUp_ne e]
      exact h.1 u b (hA u (hu.resolve_right e) e) e1
  · have hb : lUp fr.1 t (some a) u = some b := hb
    have hc : lUp fr.1 t (some a) w = some c := hc
    have hq : lUp fr.2.2.2 t un u ∨ lUp fr.2.2.2 t un w := hq
    show lRt tb (lUp fr.2.2.1 t hd) (lUp fr.2.2.2 t un) u w b c ∨ lRt tb (lUp fr.2.2.1 t hd) (lUp fr.2.2.2 t un) w u c b
    by_cases e : u = t
    · subst e
      have ew : w ≠ u := fun z => hne z.symm
      rw [lUp_eq] at hb
      obtain rfl := Option.some.inj hb
      rw [lUp_ne ew] at hc
      rw [lUp_eq, lUp_ne ew] at hq
      obtain ⟨x0, l, π, x1, x2, x3, x4, x5, x6⟩ := h3 w (hw.resolve_right ew) ew c hc hq hcm
      exact Or.inl ⟨x0, l, π, x1, by rw [lUp_eq]; exact x2, x3, x4, x5, by rw [lUp_eq]; exact x6⟩
    · rw [lUp_ne e] at hb
      by_cases ew : w = t
      · subst ew
        rw [lUp_eq] at hc
        obtain rfl := Option.some.inj hc
        rw [lUp_eq, lUp_ne e] at hq
        obtain ⟨x0, l, π, x1, x2, x3, x4, x5, x6⟩ := h3 u (hu.resolve_right e) e b (by assumption) hq.symm (lCmp_sym hcm)
        exact Or.inr ⟨x0, l, π, x1, by rw [lUp_eq]; exact x2, x3, x4, x5, by rw [lUp_eq]; exact x6⟩
      · rw [lUp_ne ew] at hc
        rw [lUp_ne e, lUp_ne ew] at hq
        rcases h.2 u w b c hne (hA u (hu.resolve_right e) e) (hA w (hw.resolve_right ew) ew) hb hc hq hcm with x | x
        · exact Or.inl (lRt_mono (fun l hl => by rw [lUp_ne e]; exact hl) (fun z => by rw [lUp_ne e] at z; exact z) x)
        · exact Or.inr (lRt_mono (fun l hl => by rw [lUp_ne ew]; exact hl) (fun z => by rw [lUp_ne ew] at z; exact z) x)
/-- an access of the place r on variable v meets nothing: A2: those that are used behind it -/
def lCk (tb : lTb) (H : Nat → Nat → Prop) (A2 : Nat → Prop) (v : Nat) (r : lLc) (rd : Prop) : Prop := ∀ u l : Nat, A2 u → H u l → ¬ tb.2.2.2.1 l → tb.1 l = v → lCmp (tb.2.1 l) r → rd ∧ tb.2.2.1 l
/-- no reference: who is used behind and comparable is shared, and it is read -/
theorem lAc_var {f : Nat} {tb : lTb} {An : Nat → lLc → Nat → Prop} {fr : lFr} {A2 : Nat → Prop} {v : Nat} {r : lLc} {rd : Prop} (h : lIv f tb An fr) (hA : ∀ u : Nat, A2 u → fr.2.1 u) (hk : lCk tb fr.2.2.1 A2 v r rd) {u : Nat} {a : lLc} (hu : A2 u) (ha : fr.1 u = some a) (hc : lCmp a ((f, v) :: r)) : rd ∧ ¬ fr.2.2.2 u := by
  rcases h.1 u a (hA u hu) ha with ⟨l, h1, h2, h3, h4, h5⟩ | ⟨o, e, q, h1, h2, h3, h4, h5, h6⟩
  · obtain ⟨e1, e2⟩ := lCmp_cons (lCmp_pre h4 hc)
    obtain ⟨k1, k2⟩ := hk u l hu h2 h1 (by injection e1) e2
    exact ⟨k1, fun z => h5 z k2⟩
  · obtain ⟨j, w, s, rfl, hj⟩ := h6
    obtain ⟨e1, -⟩ := lCmp_cons (lCmp_pre h4 hc)
    injection e1 with e2 e3
    omega
/-- through the reference v: who is used behind and comparable is shared, and it is read; or v is lent from it -/
theorem lAc_ref {f : Nat} {tb : lTb} {An : Nat → lLc → Nat → Prop} {fr : lFr} {A2 : Nat → Prop} {v : Nat} {r : lLc} {rd : Prop} {b : lLc} (h : lIv f tb An fr) (hA : ∀ u : Nat, A2 u → fr.2.1 u) (hv : fr.2.1 v) (hb : fr.1 v = some b) (hk : lCk tb fr.2.2.1 A2 v ((1, 0) :: r) rd) {u : Nat} {a : lLc} (hu : A2 u) (hne : u ≠ v) (ha : fr.1 u = some a) (hq : fr.2.2.2 u ∨ fr.2.2.2 v) (hc : lCmp a (b ++ r)) : (rd ∧ ¬ fr.2.2.2 u) ∨ lRt tb fr.2.2.1 fr.2.2.2 v u b a := by
  have hab : lCmp a b := lCmp_sym (lCmp_pre (lP_app b r) (lCmp_sym hc))
  rcases h.2 u v a b hne (hA u hu) hv ha hb hq hab with x | x
  · obtain ⟨x0, l, π, x1, x2, x3, x4, x5, x6⟩ := x
    have hcm : lCmp (tb.2.1 l) ((1, 0) :: r) := by
      rw [x4]
      rcases lCmp_shift (lCmp_pre x5 hc) with y | y
      · exact Or.inl (lP_consI y)
      · exact Or.inr (lP_consI y)
    obtain ⟨k1, k2⟩ := hk u l hu x2 x1 x3 hcm
    exact Or.inl ⟨k1, fun z => x6 z k2⟩
  · exact Or.inr x
theorem lRt_up {tb : lTb} {H : Nat → Nat → Prop} {U : Nat → Prop} {u w : Nat} {a b : lLc} (h : lRt tb H U u w a b) : lP b a := by
  obtain ⟨-, l, π, -, -, -, -, h5, -⟩ := h
  exact lP_tr (lP_app b π) h5
/-- a loan of a place that isn't behind a reference -/
theorem lBw_var {f : Nat} {tb : lTb} {An : Nat → lLc → Nat → Prop} {fr : lFr} {A2 : Nat → Prop} {v t l0 : Nat} {r : lLc} {un : Prop} {hd : Nat → Prop} (h : lIv f tb An fr) (hA : ∀ u : Nat, A2 u → fr.2.1 u) (hk : lCk tb fr.2.2.1 A2 v r (¬ un)) (hl : hd l0) (h0 : ¬ tb.2.2.2.1 l0) (h1 : tb.1 l0 = v) (h2 : tb.2.1 l0 = r) (h3 : un → ¬ tb.2.2.1 l0) (hv : ¬ tb.2.2.2.2 v) : lOk f tb An hd un ((f, v) :: r) ∧ ∀ u : Nat, A2 u → lMt tb fr t hd un ((f, v) :: r) u := by
  refine ⟨Or.inl ⟨l0, h0, hl, by rw [h1]; exact hv, by rw [h1, h2]; exact lP_rf _, h3⟩, fun u hu b hb hq hc => ?_⟩
  obtain ⟨k1, k2⟩ := lAc_var h hA hk hu hb (lCmp_sym hc)
  exact absurd hq (by rintro (z | z); exact k1 z; exact k2 z)
/-- a loan of a place behind the reference v -/
theorem lBw_ref {f : Nat} {tb : lTb} {An : Nat → lLc → Nat → Prop} {fr : lFr} {A2 : Nat → Prop} {v t l0 : Nat} {r b : lLc} {un : Prop} {hd : Nat → Prop} (h : lIv f tb An fr) (hA : ∀ u : Nat, A2 u → fr.2.1 u) (hv : fr.2.1 v) (hb : fr.1 v = some b) (hk : lCk tb fr.2.2.1 A2 v ((1, 0) :: r) (¬ un)) (hun : un → fr.2.2.2 v) (hl : hd l0) (hl2 : ∀ l : Nat, fr.2.2.1 v l → hd l) (h0 : ¬ tb.2.2.2.1 l0) (h1 : tb.1 l0 = v) (h2 : tb.2.1 l0 = (1, 0) :: r) (h3 : un → ¬ tb.2.2.1 l0) (h40 : v < 40) : lOk f tb An hd un (b ++ r) ∧ ∀ u : Nat, A2 u → lMt tb fr t hd un (b ++ r) u := by
  refine ⟨lOk_mono hl2 hun (lP_app b r) (h.1 v b hv hb), fun u hu a ha hq hc => ?_⟩
  by_cases e : u = v
  · subst e
    obtain rfl := Option.some.inj (hb.symm.trans ha)
    exact ⟨h40, l0, r, h0, hl, h1, h2, lP_rf _, h3⟩
  · rcases lAc_ref h hA hv hb hk hu e ha (hq.symm.imp id hun) (lCmp_sym hc) with ⟨k1, k2⟩ | ⟨x0, l, π, x1, x2, x3, x4, x5, x6⟩
    · exact absurd hq (by rintro (z | z); exact k1 z; exact k2 z)
    · exact ⟨x0, l, π, x1, hl2 l x2, x3, x4, lP_tr x5 (lP_app b r), fun z => x6 (hun z)⟩
/-- a copy of a shared reference -/
theorem lBw_copy {f : Nat} {tb : lTb} {An : Nat → lLc → Nat → Prop} {fr : lFr} {A2 : Nat → Prop} {v t : Nat} {b : lLc} {un : Prop} {hd : Nat → Prop} (h : lIv f tb An fr) (hA : ∀ u : Nat, A2 u → fr.2.1 u) (hv : fr.2.1 v) (hb : fr.1 v = some b) (hn : ¬ fr.2.2.2 v) (hun : ¬ un) (hl2 : ∀ l : Nat, fr.2.2.1 v l → hd l) (hst : ∀ l : Nat, ¬ tb.2.2.2.1 l → tb.1 l = v → tb.2.2.1 l) : lOk f tb An hd un b ∧ ∀ u : Nat, A2 u → lMt tb fr t hd un b u := by
  refine ⟨lOk_mono hl2 (fun z => absurd z hun) (lP_rf b) (h.1 v b hv hb), fun u hu a ha hq hc => ?_⟩
  have hqu : fr.2.2.2 u := hq.resolve_left hun
  have hne : u ≠ v := fun e => hn (e ▸ hqu)
  rcases h.2 u v a b hne (hA u hu) hv ha hb (Or.inl hqu) (lCmp_sym hc) with x | x
  · obtain ⟨x0, l, π, x1, x2, x3, x4, x5, x6⟩ := x
    exact absurd (hst l x1 x3) (x6 hqu)
  · obtain ⟨x0, l, π, x1, x2, x3, x4, x5, x6⟩ := x
    exact ⟨x0, l, π, x1, hl2 l x2, x3, x4, x5, fun z => absurd z hun⟩
/-- a unique reference is moved -/
theorem lBw_move {f : Nat} {tb : lTb} {An : Nat → lLc → Nat → Prop} {fr : lFr} {A2 : Nat → Prop} {v t : Nat} {b : lLc} {un : Prop} {hd : Nat → Prop} (h : lIv f tb An fr) (hA : ∀ u : Nat, A2 u → fr.2.1 u ∧ u ≠ v) (hv : fr.2.1 v) (hb : fr.1 v = some b) (hk : lCk tb fr.2.2.1 A2 v [] False) (hun : un → fr.2.2.2 v) (hl2 : ∀ l : Nat, fr.2.2.1 v l → hd l) : lOk f tb An hd un b ∧ ∀ u : Nat, A2 u → lMt tb fr t hd un b u := by
  refine ⟨lOk_mono hl2 hun (lP_rf b) (h.1 v b hv hb), fun u hu a ha hq hc => ?_⟩
  rcases h.2 u v a b (hA u hu).2 (hA u hu).1 hv ha hb (hq.symm.imp id hun) (lCmp_sym hc) with x | x
  · obtain ⟨x0, l, π, x1, x2, x3, x4, x5, x6⟩ := x
    exact ((hk u l hu x2 x1 x3 (Or.inr ⟨_, rfl⟩)).1).elim
  · obtain ⟨x0, l, π, x1, x2, x3, x4, x5, x6⟩ := x
    exact ⟨x0, l, π, x1, hl2 l x2, x3, x4, x5, fun z => x6 (hun z)⟩
/-- a value that no place leads to (w, at least 40) goes to another holder -/
theorem lBw_pop {f : Nat} {tb : lTb} {An : Nat → lLc → Nat → Prop} {fr : lFr} {A2 : Nat → Prop} {w t : Nat} {b : lLc} {un : Prop} {hd : Nat → Prop} (h : lIv f tb An fr) (hA : ∀ u : Nat, A2 u → fr.2.1 u ∧ u ≠ w) (h40 : 40 ≤ w) (hv : fr.2.1 w) (hb : fr.1 w = some b) (hun : un → fr.2.2.2 w) (hl2 : ∀ l : Nat, fr.2.2.1 w l → hd l) {c : lLc} (hbc : lP b c) : lOk f tb An hd un c ∧ ∀ u : Nat, A2 u → lMt tb fr t hd un c u := by
  refine ⟨lOk_mono hl2 hun hbc (h.1 w b hv hb), fun u hu a ha hq hc => ?_⟩
  rcases h.2 u w a b (hA u hu).2 (hA u hu).1 hv ha hb (hq.symm.imp id hun) (lCmp_sym (lCmp_pre hbc hc)) with x | x
  · exact absurd x.1 (by omega)
  · obtain ⟨x0, l, π, x1, x2, x3, x4, x5, x6⟩ := x
    exact ⟨x0, l, π, x1, hl2 l x2, x3, x4, lP_tr x5 hbc, fun z => x6 (hun z)⟩
/-- the frames: a frame's loans, its holders, what outer loans lead to; the latest one first -/
abbrev lFm := lTb × lFr × (Nat → lLc → Nat → Prop)
def lLk (up lo : lFm) : Prop := ∀ (o : Nat) (e : lLc) (q : Nat), up.2.2 o e q → ∃ t : Nat, 40 ≤ t ∧ lo.2.1.2.1 t ∧ lo.2.1.1 t = some e ∧ (q = 1 → lo.2.1.2.2.2 t)
def lSk : List lFm → Prop
  | [] => True
  | x :: s => lIv s.length x.1 x.2.2 x.2.1 ∧ lSk s ∧ match s with
    | [] => ∀ (o : Nat) (e : lLc) (q : Nat), ¬ x.2.2 o e q
    | y :: _ => lLk x y
/-- who is at a place of a frame at most its own -/
theorem lIv_fr {f : Nat} {tb : lTb} {An : Nat → lLc → Nat → Prop} {fr : lFr} (h : lIv f tb An fr) {u : Nat} {a : lLc} (hu : fr.2.1 u) (ha : fr.1 u = some a) : ∃ (j v : Nat) (r : lLc), a = (j, v) :: r ∧ j ≤ f := by
  rcases h.1 u a hu ha with ⟨l, h1, h2, h3, h4, h5⟩ | ⟨o, e, q, h1, h2, h3, h4, h5, h6⟩
  · obtain ⟨c, rfl, -⟩ := lP_head h4
    exact ⟨f, _, c, rfl, Nat.le_refl _⟩
  · obtain ⟨j, w, s, rfl, hj⟩ := h6
    obtain ⟨c, rfl, -⟩ := lP_head h4
    exact ⟨j, w, c, rfl, by omega⟩
theorem lSk_at : ∀ {s : List lFm} {k : Nat} {x : lFm}, lSk s → s[k]? = some x → ∃ n : Nat, n + k + 1 = s.length ∧ lIv n x.1 x.2.2 x.2.1
  | y :: s, 0, x, h, e => by
    obtain rfl : y = x := by simpa using e
    exact ⟨s.length, rfl, h.1⟩
  | y :: s, k + 1, x, h, e => by
    obtain ⟨n, h1, h2⟩ := lSk_at (k := k) h.2.1 (by simpa using e)
    exact ⟨n, by simp only [List.length_cons]; omega, h2⟩
/-- what is used in a caller and is comparable with a unique reference of the latest frame lies above it -/
theorem lSk_up : ∀ {s : List lFm} {x : lFm}, lSk (x :: s) → ∀ {r : Nat} {b : lLc}, x.2.1.2.1 r → x.2.1.1 r = some b → x.2.1.2.2.2 r → ∀ {k : Nat} {y : lFm}, s[k]? = some y → ∀ {u : Nat} {a : lLc}, y.2.1.2.1 u → y.2.1.1 u = some a → lCmp a b → lP a b
  | [], x, _, _, _, _, _, _, _, _, e, _, _, _, _, _ => by simp at e
  | z :: s, x, h, r, b, hr, hb, hU, k, y, e, u, a, hu, ha, hc => by
    obtain ⟨h1, h2, h3⟩ := h
    have h3 : lLk x z := h3
    obtain ⟨n, hn, hy⟩ := lSk_at h2 e
    obtain ⟨j, v, w, rfl, hj⟩ := lIv_fr hy hu ha
    rcases h1.1 r b hr hb with ⟨l, g1, g2, g3, g4, g5⟩ | ⟨o, e2, q, g1, g2, g3, g4, g5, g6⟩
    · obtain ⟨e3, -⟩ := lCmp_cons (lCmp_pre g4 (lCmp_sym hc))
      injection e3 with e4 e5
      simp only [List.length_cons] at hn e4
      omega
    · obtain ⟨t, t1, t2, t3, t4⟩ := h3 o e2 q g3
      have hc2 := lCmp_sym (lCmp_pre g4 (lCmp_sym hc))
      have hq : z.2.1.2.2.2 t := t4 (g5 hU)
      cases k with
      | zero =>
        obtain rfl : z = y := by simpa using e
        by_cases eu : u = t
        · subst eu
          obtain e6 := Option.some.inj (t3.symm.trans ha)
          rw [← e6]
          exact g4
        · rcases h2.1.2 t u e2 _ (fun q => eu q.symm) t2 hu t3 ha (Or.inl hq) (lCmp_sym hc2) with x1 | x1
          · exact lP_tr (lRt_up x1) g4
          · exact absurd x1.1 (by omega)
      | succ k =>
        exact lP_tr (lSk_up h2 t2 t3 hq (k := k) (by simpa using e) hu ha hc2) g4
/-- a call's result: its place lies below that of an argument -/
theorem lBw_res {f : Nat} {tb : lTb} {An : Nat → lLc → Nat → Prop} {fr : lFr} {A2 : Nat → Prop} {w t : Nat} {b c : lLc} {un : Prop} {hd : Nat → Prop} (h : lIv f tb An fr) (hA : ∀ u : Nat, A2 u → fr.2.1 u ∧ u ≠ w) (h40 : 40 ≤ w) (hv : fr.2.1 w) (hb : fr.1 w = some b) (hun : un → fr.2.2.2 w) (hl2 : ∀ l : Nat, fr.2.2.1 w l → hd l) (hbc : lP b c) : lOk f tb An hd un c ∧ ∀ u : Nat, A2 u → lMt tb fr t hd un c u := lBw_pop h hA h40 hv hb hun hl2 hbc
