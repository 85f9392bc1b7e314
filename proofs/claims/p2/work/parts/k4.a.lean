/-- addresses from z to below w -/
def iv (z w : Nat) : List Nat := List.range' z (w - z)
theorem iv_m {z w a : Nat} : a ∈ iv z w ↔ z ≤ a ∧ a < w := by
  unfold iv
  rw [List.mem_range'_1]
  omega
/-- the reader's state: the token's place, nest, variables, borrows -/
def RZ (S : Sg) (T pp ns vv bb : Nat) : Prop := (Zi S 10 = nI pp ∧ pp < T ∧ T ≤ 3001 ∧ Zr S 5 (T - 1) = 0) ∧ Zi S 15 = nI ns ∧ Zi S 16 = nI vv ∧ Zi S 17 = nI bb ∧ ∀ a ∈ ZL S, a < Zz S
/-- from S to S2: of the old cells only those of X are written, new ones come; of the ints those of the reader alone change -/
def GR (X : Nat → Prop) (S S2 : Sg) : Prop := (∀ j : Nat, j ≠ 3 → j ≠ 4 → j ≠ 10 → j ≠ 15 → j ≠ 16 → j ≠ 17 → Zi S2 j = Zi S j) ∧ (Zr S2 = Zr S ∧ Zl S2 = Zl S ∧ Zq S2 = Zq S ∧ Zf S2 = Zf S) ∧ (∀ a : Nat, a < Zz S → ¬ X a → ZF S2 a = ZF S a) ∧ (∀ a : Nat, a ∈ ZL S2 ↔ a ∈ ZL S ∨ (Zz S ≤ a ∧ a < Zz S2)) ∧ (Zz S ≤ Zz S2 ∧ Zn S ≤ Zn S2) ∧ (Zi S2 3 = 0 → Zi S 3 = 0)
/-- no cell -/
def nX : Nat → Prop := fun _ => False
section GRL
variable {X Y : Nat → Prop} {S S1 S2 : Sg}
theorem GR.rf : GR X S S := ⟨fun _ _ _ _ _ _ _ => rfl, ⟨rfl, rfl, rfl, rfl⟩, fun _ _ _ => rfl, fun a => ⟨Or.inl, fun h => h.elim id (fun h => absurd h (by omega))⟩, ⟨Nat.le_refl _, Nat.le_refl _⟩, id⟩
theorem GR.tr (h : GR X S S1) (g : GR Y S1 S2) (hX : ∀ a : Nat, a < Zz S → Y a → X a) : GR X S S2 := by
  obtain ⟨h1, ⟨h2, h3, h4, h5⟩, h6, h7, h8, h9⟩ := h
  obtain ⟨g1, ⟨g2, g3, g4, g5⟩, g6, g7, g8, g9⟩ := g
  refine ⟨fun j a b c d e f => (g1 j a b c d e f).trans (h1 j a b c d e f), ⟨g2.trans h2, g3.trans h3, g4.trans h4, g5.trans h5⟩, fun a ha hx => (g6 a (by omega) (fun q => hx (hX a ha q))).trans (h6 a ha hx), fun a => ?_, ⟨by omega, by omega⟩, fun q => h9 (g9 q)⟩
  rw [g7, h7]
  constructor
  · rintro ((h | h) | h)
    · exact Or.inl h
    · exact Or.inr ⟨h.1, by omega⟩
    · exact Or.inr ⟨by omega, h.2⟩
  · rintro (h | h)
    · exact Or.inl (Or.inl h)
    · rcases Nat.lt_or_ge a (Zz S1) with z | z
      · exact Or.inl (Or.inr ⟨h.1, z⟩)
      · exact Or.inr ⟨z, h.2⟩
theorem GR.n (h : GR X S S1) (g : GR nX S1 S2) : GR X S S2 := h.tr g (fun _ _ q => q.elim)
theorem GR.mo (h : GR X S S2) (hX : ∀ a : Nat, a < Zz S → X a → Y a) : GR Y S S2 := ⟨h.1, h.2.1, fun a ha q => h.2.2.1 a ha (fun z => q (hX a ha z)), h.2.2.2⟩
theorem GR.ui {k : Nat} {v : Int32} (hk : k = 10 ∨ k = 15 ∨ k = 16 ∨ k = 17) : GR X S (Ui S k v) := by
  refine ⟨fun j a b c d e f => Zi_n (by rintro rfl; rcases hk with h | h | h | h <;> contradiction), ⟨rfl, rfl, rfl, rfl⟩, fun _ _ _ => rfl, fun a => ⟨Or.inl, fun h => h.elim id (fun h => absurd (show a < Zz S from h.2) (by omega))⟩, ⟨Nat.le_refl _, Nat.le_refl _⟩, fun q => ?_⟩
  rwa [Zi_n (by rintro rfl; rcases hk with h | h | h | h <;> exact absurd h (by decide))] at q
theorem GR.uf {a : Nat} {c : va_E} : GR (fun b => b = a) S (UF S a c) := ⟨fun _ _ _ _ _ _ _ => rfl, ⟨rfl, rfl, rfl, rfl⟩, fun b _ q => ZF_n q, fun b => ⟨Or.inl, fun h => h.elim id (fun h => absurd (show b < Zz S from h.2) (by omega))⟩, ⟨Nat.le_refl _, Nat.le_refl _⟩, id⟩
theorem GR.un {c : va_E} {n : Nat} : GR X S (Un S c n) := by
  refine ⟨fun _ _ _ _ _ _ _ => rfl, ⟨rfl, rfl, rfl, rfl⟩, fun b hb _ => updE_n (by omega), fun b => ?_, ⟨Nat.le_succ _, Nat.le_add_right _ _⟩, id⟩
  show b ∈ Zz S :: ZL S ↔ b ∈ ZL S ∨ (Zz S ≤ b ∧ b < Zz S + 1)
  rw [List.mem_cons]
  constructor
  · rintro (h | h)
    · exact Or.inr (by omega)
    · exact Or.inl h
  · rintro (h | h)
    · exact Or.inr h
    · exact Or.inl (by omega)
theorem GR.fl {wh x : Int32} : GR X S (flS S wh x) := by
  unfold flS
  by_cases q : Zi S 3 = 0
  · rw [if_pos q]
    exact ⟨fun j a b _ _ _ _ => (Zi_n b).trans (Zi_n a), ⟨rfl, rfl, rfl, rfl⟩, fun _ _ _ => rfl, fun a => ⟨Or.inl, fun h => h.elim id (fun h => absurd (show a < Zz S from h.2) (by omega))⟩, ⟨Nat.le_refl _, Nat.le_refl _⟩, fun _ => q⟩
  · rw [if_neg q]; exact GR.rf
/-- the cells that were there are there -/
theorem GR.ex (h : GR nX S S2) (hz : ∀ a ∈ ZL S, a < Zz S) : exS (ZL S) (ZF S) (ZL S2) (ZF S2) := fun a ha => ⟨(h.2.2.2.1 a).mpr (Or.inl ha), h.2.2.1 a (hz a ha) (fun q => q)⟩
theorem GR.in (h : GR X S S2) {a : Nat} (ha : a ∈ ZL S) : a ∈ ZL S2 := (h.2.2.2.1 a).mpr (Or.inl ha)
theorem GR.lt (h : GR X S S2) (hz : ∀ a ∈ ZL S, a < Zz S) : ∀ a ∈ ZL S2, a < Zz S2 := fun a ha => ((h.2.2.2.1 a).mp ha).elim (fun q => Nat.lt_of_lt_of_le (hz a q) h.2.2.2.2.1.1) (fun q => q.2)
end GRL
/-- the store is the same -/
def SS (S S2 : Sg) : Prop := GR nX S S2 ∧ ZF S2 = ZF S ∧ ZL S2 = ZL S ∧ Zz S2 = Zz S ∧ Zn S2 = Zn S
theorem SS.rf {S : Sg} : SS S S := ⟨GR.rf, rfl, rfl, rfl, rfl⟩
theorem SS.tr {S S1 S2 : Sg} (h : SS S S1) (g : SS S1 S2) : SS S S2 := ⟨h.1.n g.1, g.2.1.trans h.2.1, g.2.2.1.trans h.2.2.1, g.2.2.2.1.trans h.2.2.2.1, g.2.2.2.2.trans h.2.2.2.2⟩
theorem SS.ui {S : Sg} {k : Nat} {v : Int32} (hk : k = 10 ∨ k = 15 ∨ k = 16 ∨ k = 17) : SS S (Ui S k v) := ⟨GR.ui hk, rfl, rfl, rfl, rfl⟩
theorem SS.fl {S : Sg} {wh x : Int32} : SS S (flS S wh x) := ⟨GR.fl, flS_st.2.1, flS_st.1, flS_st.2.2.1, flS_st.2.2.2.1⟩
section RZL
variable {K : Ky} {S S2 : Sg} {T pp ns vv bb : Nat}
theorem RZ.mk (h : RZ S T pp ns vv bb) {pp2 ns2 vv2 bb2 : Nat} (hs : SS S S2) (h1 : Zi S2 10 = nI pp2) (h2 : pp2 < T) (h3 : Zi S2 15 = nI ns2) (h4 : Zi S2 16 = nI vv2) (h5 : Zi S2 17 = nI bb2) : RZ S2 T pp2 ns2 vv2 bb2 := ⟨⟨h1, h2, h.1.2.2.1, by rw [hs.1.2.1.1]; exact h.1.2.2.2⟩, h3, h4, h5, by rw [hs.2.2.1, hs.2.2.2.1]; exact h.2.2.2.2⟩
theorem RZ.p (h : RZ S T pp ns vv bb) {p2 : Nat} (hp : p2 < T) : RZ (Ui S 10 (nI p2)) T p2 ns vv bb := h.mk (SS.ui (Or.inl rfl)) Zi_s hp ((Zi_n (by decide)).trans h.2.1) ((Zi_n (by decide)).trans h.2.2.1) ((Zi_n (by decide)).trans h.2.2.2.1)
theorem RZ.ne (h : RZ S T pp ns vv bb) {n2 : Nat} : RZ (Ui S 15 (nI n2)) T pp n2 vv bb := h.mk (SS.ui (by decide)) ((Zi_n (by decide)).trans h.1.1) h.1.2.1 Zi_s ((Zi_n (by decide)).trans h.2.2.1) ((Zi_n (by decide)).trans h.2.2.2.1)
theorem RZ.va (h : RZ S T pp ns vv bb) {n2 : Nat} : RZ (Ui S 16 (nI n2)) T pp ns n2 bb := h.mk (SS.ui (by decide)) ((Zi_n (by decide)).trans h.1.1) h.1.2.1 ((Zi_n (by decide)).trans h.2.1) Zi_s ((Zi_n (by decide)).trans h.2.2.2.1)
theorem RZ.bo (h : RZ S T pp ns vv bb) {n2 : Nat} : RZ (Ui S 17 (nI n2)) T pp ns vv n2 := h.mk (SS.ui (by decide)) ((Zi_n (by decide)).trans h.1.1) h.1.2.1 ((Zi_n (by decide)).trans h.2.1) ((Zi_n (by decide)).trans h.2.2.1) Zi_s
theorem flS_i {wh x : Int32} {j : Nat} (h3 : j ≠ 3) (h4 : j ≠ 4) : Zi (flS S wh x) j = Zi S j := by
  unfold flS
  by_cases q : Zi S 3 = 0
  · rw [if_pos q]; exact (Zi_n h4).trans (Zi_n h3)
  · rw [if_neg q]
theorem RZ.fl (h : RZ S T pp ns vv bb) {wh x : Int32} : RZ (flS S wh x) T pp ns vv bb := h.mk SS.fl ((flS_i (by decide) (by decide)).trans h.1.1) h.1.2.1 ((flS_i (by decide) (by decide)).trans h.2.1) ((flS_i (by decide) (by decide)).trans h.2.2.1) ((flS_i (by decide) (by decide)).trans h.2.2.2.1)
theorem RZ.uf (h : RZ S T pp ns vv bb) {a : Nat} {c : va_E} : RZ (UF S a c) T pp ns vv bb := h
theorem RZ.un (h : RZ S T pp ns vv bb) {c : va_E} {n : Nat} : RZ (Un S c n) T pp ns vv bb := ⟨h.1, h.2.1, h.2.2.1, h.2.2.2.1, GR.lt (X := nX) GR.un h.2.2.2.2⟩
/-- a token that is not the last -/
theorem RZ.nx (h : RZ S T pp ns vv bb) {k : Int32} (hk : Zr S 5 pp = k) (h0 : k ≠ 0) : pp + 1 < T := by
  rcases Nat.lt_or_ge (pp + 1) T with z | z
  · exact z
  · exact absurd (hk.symm.trans (by rw [show pp = T - 1 by have := h.1.2.1; omega]; exact h.1.2.2.2)) h0
theorem RZ.kd (h : RZ S T pp ns vv bb) : rI S 5 (Zi S 10) = some (Zr S 5 pp) := by rw [h.1.1]; exact rI_n (show pp < 3002 by have := h.1.2.1; have := h.1.2.2.1; omega) (by decide)
theorem is_1 (h : RZ S T pp ns vv bb) {k : Int32} (hk : Zr S 5 pp = k) : f_is K S k = some (S, 1) := by unfold f_is f_is_18; rw [h.kd]; show (if Zr S 5 pp = k then _ else _) = _; rw [if_pos hk, zb1]
theorem is_0 (h : RZ S T pp ns vv bb) {k : Int32} (hk : ¬ Zr S 5 pp = k) : f_is K S k = some (S, 0) := by unfold f_is f_is_18; rw [h.kd]; show (if Zr S 5 pp = k then _ else _) = _; rw [if_neg hk, zb0]
/-- is: both ways -/
theorem Rt.is {α : Type} {k : Int32} {a b : Sg → Option (Sg × α)} {P : Sg → α → Prop} (h : RZ S T pp ns vv bb) (k1 : Zr S 5 pp = k → Rt (b S) P) (k0 : ¬ Zr S 5 pp = k → Rt (a S) P) : Rt (bnd (f_is K S k) fun S3 v4 => if v4 = 0 then a S3 else b S3) P := by
  by_cases q : Zr S 5 pp = k
  · exact Rt.be (is_1 h q) (Rt.iq (by decide) (k1 q))
  · exact Rt.be (is_0 h q) (Rt.ip rfl (k0 q))
/-- ok: both ways -/
theorem Rt.ok {α : Type} {a b : Sg → Option (Sg × α)} {P : Sg → α → Prop} (k1 : Zi S 3 = 0 → Rt (b S) P) (k0 : ¬ Zi S 3 = 0 → Rt (a S) P) : Rt (bnd (f_ok K S) fun S3 v4 => if v4 = 0 then a S3 else b S3) P := by
  by_cases q : Zi S 3 = 0
  · exact Rt.be (ok_1 q) (Rt.iq (by decide) (k1 q))
  · exact Rt.be (ok_0 q) (Rt.ip rfl (k0 q))
theorem take_ (h : RZ S T pp ns vv bb) {k : Int32} (hk0 : k ≠ 0) : Rt (f_take K S k) (fun S2 _ => ∃ pp2 : Nat, RZ S2 T pp2 ns vv bb ∧ SS S S2 ∧ pp ≤ pp2 ∧ pp2 ≤ pp + 1 ∧ (Zi S2 3 = 0 → Zr S 5 pp = k ∧ pp2 = pp + 1)) := by
  unfold f_take f_take_38
  refine Rt.ok (fun q => Rt.is h (fun hk => ?_) (fun hk => ?_)) (fun q => Rt.rt ⟨pp, h, SS.rf, Nat.le_refl _, Nat.le_succ _, fun z => absurd z q⟩)
  · refine Rt.bd (v := Ui S 10 (nI (pp + 1))) (by rw [h.1.1]; show some (Ui S 10 (nI pp + 1)) = _; rw [nI_1]) (Rt.rt ⟨pp + 1, h.p (h.nx hk hk0), SS.ui (Or.inl rfl), Nat.le_succ _, Nat.le_refl _, fun _ => ⟨hk, rfl⟩⟩)
  · rw [h.1.1]
    exact Rt.be (fail_ (by have := h.1.2.1; have := h.1.2.2.1; omega)) (Rt.rt ⟨pp, h.fl, SS.fl, Nat.le_refl _, Nat.le_succ _, fun z => absurd z (flS_n0 (by decide))⟩)
theorem takes_ (h : RZ S T pp ns vv bb) {k : Int32} (hk0 : k ≠ 0) : Rt (f_takes K S k) (fun S2 r => ∃ pp2 : Nat, RZ S2 T pp2 ns vv bb ∧ SS S S2 ∧ Zi S2 3 = Zi S 3 ∧ ((r = 0 ∧ pp2 = pp ∧ (Zi S 3 = 0 → ¬ Zr S 5 pp = k)) ∨ (r = 1 ∧ pp2 = pp + 1 ∧ Zi S 3 = 0 ∧ Zr S 5 pp = k))) := by
  unfold f_takes f_takes_15
  refine Rt.ok (fun q => Rt.is h (fun hk => ?_) (fun hk => ?_)) (fun q => ?_)
  · refine Rt.bd (v := Ui S 10 (nI (pp + 1))) (by rw [h.1.1]; show some (Ui S 10 (nI pp + 1)) = _; rw [nI_1]) (Rt.zr (Or.inr rfl) ⟨pp + 1, h.p (h.nx hk hk0), SS.ui (Or.inl rfl), Zi_n (by decide), Or.inr ⟨rfl, rfl, q, hk⟩⟩)
  · exact Rt.zr (Or.inl rfl) ⟨pp, h, SS.rf, rfl, Or.inl ⟨rfl, rfl, fun _ => hk⟩⟩
  · exact Rt.zr (Or.inl rfl) ⟨pp, h, SS.rf, rfl, Or.inl ⟨rfl, rfl, fun z => absurd z q⟩⟩
theorem name_ (h : RZ S T pp ns vv bb) : Rt (f_name K S) (fun S2 r => ∃ pp2 : Nat, RZ S2 T pp2 ns vv bb ∧ SS S S2 ∧ pp ≤ pp2 ∧ pp2 ≤ pp + 1 ∧ (Zi S2 3 = 0 → Zr S 5 pp = 2 ∧ pp2 = pp + 1 ∧ r = nI pp)) := by
  unfold f_name
  refine Rt.bn (take_ h (by decide)) (fun S2 _ q => Rt.rt ?_)
  obtain ⟨pp2, q1, q2, q3, q4, q5⟩ := q
  refine ⟨pp2, q1, q2, q3, q4, fun z => ⟨(q5 z).1, (q5 z).2, ?_⟩⟩
  rw [q1.1.1, (q5 z).2, nI_pred]
theorem enter_ (h : RZ S T pp ns vv bb) {tj : Nat} (ht : tj < 3002) : Rt (f_enter K S (nI tj)) (fun S2 _ => RZ S2 T pp (ns + 1) vv bb ∧ SS S S2 ∧ (Zi S2 3 = 0 → ns ≠ 16)) := by
  have hu : ∀ S1 : Sg, RZ S1 T pp ns vv bb → SS S S1 → (Zi S1 3 = 0 → ns ≠ 16) → Rt (f_enter_22 K S1) (fun S2 _ => RZ S2 T pp (ns + 1) vv bb ∧ SS S S2 ∧ (Zi S2 3 = 0 → ns ≠ 16)) := fun S1 g1 g2 g3 => by
    unfold f_enter_22
    refine Rt.bd (v := Ui S1 15 (nI (ns + 1))) (by rw [g1.2.1, ← nI_1]; rfl) (Rt.rt ⟨g1.ne, g2.tr (SS.ui (by decide)), fun q => g3 (by rwa [Zi_n (by decide)] at q)⟩)
  unfold f_enter
  refine Rt.ok (fun q => Rt.it (fun e => ?_) (fun e => ?_)) (fun q => hu S h SS.rf (fun z => absurd z q))
  · exact Rt.be (fail_ ht) (hu _ h.fl SS.fl (fun z => absurd z (flS_n0 (by decide))))
  · exact hu S h SS.rf (fun _ z => e (by rw [h.2.1, z]; rfl))
theorem limit_ (h : RZ S T pp ns vv bb) {mn mx : Nat} : Rt (f_limit K S (nI mn) (nI mx)) (fun S2 _ => RZ S2 T pp ns vv bb ∧ SS S S2 ∧ (Zi S2 3 = 0 → Zr S 5 pp = 2 → mn ≠ mx)) := by
  unfold f_limit f_limit_29
  refine Rt.ok (fun q => Rt.is h (fun hk => Rt.it (fun e => ?_) (fun e => ?_)) (fun hk => ?_)) (fun q => Rt.rt ⟨h, SS.rf, fun z => absurd z q⟩)
  · rw [h.1.1]
    exact Rt.be (fail_ (by have := h.1.2.1; have := h.1.2.2.1; omega)) (Rt.rt ⟨h.fl, SS.fl, fun z => absurd z (flS_n0 (by decide))⟩)
  · exact Rt.rt ⟨h, SS.rf, fun _ _ z => e (by rw [z])⟩
  · exact Rt.rt ⟨h, SS.rf, fun _ z => absurd z hk⟩
theorem oneV_ (h : RZ S T pp ns vv bb) : Rt (f_oneVariable K S) (fun S2 _ => RZ S2 T pp ns (vv + 1) bb ∧ SS S S2 ∧ (Zi S2 3 = 0 → Zr S 5 pp = 2 → vv ≠ 40)) := by
  have hu : ∀ S1 : Sg, RZ S1 T pp ns vv bb → SS S S1 → (Zi S1 3 = 0 → Zr S 5 pp = 2 → vv ≠ 40) → Rt (f_oneVariable_33 K S1) (fun S2 _ => RZ S2 T pp ns (vv + 1) bb ∧ SS S S2 ∧ (Zi S2 3 = 0 → Zr S 5 pp = 2 → vv ≠ 40)) := fun S1 g1 g2 g3 => by
    unfold f_oneVariable_33
    refine Rt.bd (v := Ui S1 16 (nI (vv + 1))) (by rw [g1.2.2.1, ← nI_1]; rfl) (Rt.rt ⟨g1.va, g2.tr (SS.ui (by decide)), fun q => g3 (by rwa [Zi_n (by decide)] at q)⟩)
  unfold f_oneVariable
  refine Rt.ok (fun q => Rt.is h (fun hk => Rt.it (fun e => ?_) (fun e => ?_)) (fun hk => hu S h SS.rf (fun _ z => absurd z hk))) (fun q => hu S h SS.rf (fun z => absurd z q))
  · rw [h.1.1]
    exact Rt.be (fail_ (by have := h.1.2.1; have := h.1.2.2.1; omega)) (hu _ h.fl SS.fl (fun z => absurd z (flS_n0 (by decide))))
  · exact hu S h SS.rf (fun _ _ z => e (by rw [h.2.2.1, z]; rfl))
theorem borrow_ (h : RZ S T pp ns vv bb) : Rt (f_borrow K S) (fun S2 _ => RZ S2 T pp ns vv (bb + 1) ∧ SS S S2 ∧ (Zi S2 3 = 0 → bb ≠ 54)) := by
  have hu : ∀ S1 : Sg, RZ S1 T pp ns vv bb → SS S S1 → (Zi S1 3 = 0 → bb ≠ 54) → Rt (f_borrow_25 K S1) (fun S2 _ => RZ S2 T pp ns vv (bb + 1) ∧ SS S S2 ∧ (Zi S2 3 = 0 → bb ≠ 54)) := fun S1 g1 g2 g3 => by
    unfold f_borrow_25
    refine Rt.bd (v := Ui S1 17 (nI (bb + 1))) (by rw [g1.2.2.2.1, ← nI_1]; rfl) (Rt.rt ⟨g1.bo, g2.tr (SS.ui (by decide)), fun q => g3 (by rwa [Zi_n (by decide)] at q)⟩)
  unfold f_borrow
  refine Rt.ok (fun q => Rt.it (fun e => ?_) (fun e => ?_)) (fun q => hu S h SS.rf (fun z => absurd z q))
  · rw [h.1.1]
    exact Rt.be (fail_ (by have := h.1.2.1; have := h.1.2.2.1; omega)) (hu _ h.fl SS.fl (fun z => absurd z (flS_n0 (by decide))))
  · exact hu S h SS.rf (fun _ z => e (by rw [h.2.2.2.1, z]; rfl))
end RZL
