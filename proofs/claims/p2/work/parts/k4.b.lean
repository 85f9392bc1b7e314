-- k4.b.lean.txt
section
/-- since S, with the cell a held: it holds c; so many cells and slots came -/
def St (X : Nat → Prop) (S S2 : Sg) (a : Nat) (c : va_E) (zz nn : Nat) : Prop := GR X S S2 ∧ (a < Zz S → X a) ∧ a ∈ ZL S2 ∧ ZF S2 a = c ∧ Zz S2 ≤ Zz S + zz ∧ Zn S2 ≤ Zn S + nn
/-- the cell a alone is written -/
def PU (S S2 : Sg) (a : Nat) : Prop := (∀ b : Nat, b ≠ a → ZF S2 b = ZF S b) ∧ ZL S2 = ZL S ∧ Zz S2 = Zz S ∧ Zn S2 = Zn S ∧ Zi S2 = Zi S ∧ Zr S2 = Zr S ∧ Zl S2 = Zl S
theorem PU.mk {S : Sg} {a : Nat} {c : va_E} : PU S (UF S a c) a := ⟨fun _ h => ZF_n h, rfl, rfl, rfl, rfl, rfl, rfl⟩
section STL
variable {α : Type} {K : Ky} {X : Nat → Prop} {S S2 S3 : Sg} {a zz nn T pp ns vv bb : Nat} {c c2 : va_E} {P : Sg → α → Prop}
theorem St.new {n : Nat} : St X S (Un S c n) (Zz S) c 1 n := ⟨GR.un, fun q => absurd q (by omega), List.mem_cons_self, updE_s, Nat.le_refl _, Nat.le_refl _⟩
theorem St.put (h : St X S S2 a c zz nn) : St X S (UF S2 a c2) a c2 zz nn := ⟨h.1.tr GR.uf (fun b hb e => by subst e; exact h.2.1 hb), h.2.1, h.2.2.1, ZF_s, h.2.2.2.2⟩
theorem St.ss (h : St X S S2 a c zz nn) (g : SS S2 S3) : St X S S3 a c zz nn := ⟨h.1.n g.1, h.2.1, by rw [g.2.2.1]; exact h.2.2.1, by rw [g.2.1]; exact h.2.2.2.1, by rw [g.2.2.2.1]; exact h.2.2.2.2.1, by rw [g.2.2.2.2]; exact h.2.2.2.2.2⟩
theorem St.cl (h : St X S S2 a c zz nn) (g : GR nX S2 S3) (ha : a < Zz S2) {z1 n1 : Nat} (h1 : Zz S3 ≤ Zz S2 + z1) (h2 : Zn S3 ≤ Zn S2 + n1) : St X S S3 a c (zz + z1) (nn + n1) := ⟨h.1.n g, h.2.1, g.in h.2.2.1, (g.2.2.1 a ha (fun q => q)).trans h.2.2.2.1, by have := h.2.2.2.2.1; omega, by have := h.2.2.2.2.2; omega⟩
/-- a new object -/
theorem Rt.nw {ci N : Nat} {fs : List Value} {g : Sg → Nat → Option (Sg × α)} (h : RZ S T pp ns vv bb) (r1 : Zz S + 1 ≤ K.2.1) (r2 : Zn S + N ≤ K.2.2) (k : ∀ S2 : Sg, St X S S2 (Zz S) (.inr (ci, fs)) 1 N → RZ S2 T pp ns vv bb → Zi S2 = Zi S → Rt (g S2 (Zz S)) P) : Rt (bnd (nO K S ci N fs) g) P := Rt.be (nO_ok ⟨r1, r2⟩) (k _ St.new h.un rfl)
/-- a field of the held cell is written -/
theorem Rt.pv {ci k9 : Nat} {fs : List Value} {v w : Value} {g : Sg → Option (Sg × α)} (s : St X S S2 a (.inr (ci, fs)) zz nn) (h : RZ S2 T pp ns vv bb) (hk : k9 < fs.length) (hv : v = w) (k : ∀ S3 : Sg, St X S S3 a (.inr (ci, fs.set k9 w)) zz nn → RZ S3 T pp ns vv bb → PU S2 S3 a → Rt (g S3) P) : Rt ((pV S2 ci (some a) k9 v).bind g) P := by
  subst hv
  exact Rt.bd (pV_mk s.2.2.1 s.2.2.2.1 hk) (k _ s.put h.uf PU.mk)
theorem Rt.pz {ci k9 : Nat} {fs : List Value} {v : Int32} {g : Sg → Option (Sg × α)} (s : St X S S2 a (.inr (ci, fs)) zz nn) (h : RZ S2 T pp ns vv bb) (hk : k9 < fs.length) (hv : v = 0 ∨ v = 1) (k : ∀ S3 : Sg, St X S S3 a (.inr (ci, fs.set k9 (.int v))) zz nn → RZ S3 T pp ns vv bb → PU S2 S3 a → Rt (g S3) P) : Rt ((pZ S2 ci (some a) k9 v).bind g) P := by
  unfold pZ
  rw [if_pos hv]
  exact Rt.pv s h hk rfl k
/-- p++, nest++, nest-- -/
theorem Rt.pi {g : Sg → Option (Sg × α)} (h : RZ S T pp ns vv bb) (hp : pp + 1 < T) (k : ∀ S3 : Sg, SS S S3 → RZ S3 T (pp + 1) ns vv bb → Zi S3 3 = Zi S 3 → Rt (g S3) P) : Rt ((pM S 10 (Zi S 10 + 1)).bind g) P := Rt.bd (v := Ui S 10 (nI (pp + 1))) (by rw [h.1.1, ← nI_1]; rfl) (k _ (SS.ui (Or.inl rfl)) (h.p hp) (Zi_n (by decide)))
theorem Rt.ni {g : Sg → Option (Sg × α)} (h : RZ S T pp ns vv bb) (k : ∀ S3 : Sg, SS S S3 → RZ S3 T pp (ns + 1) vv bb → Zi S3 3 = Zi S 3 → Rt (g S3) P) : Rt ((pM S 15 (Zi S 15 + 1)).bind g) P := Rt.bd (v := Ui S 15 (nI (ns + 1))) (by rw [h.2.1, ← nI_1]; rfl) (k _ (SS.ui (by decide)) h.ne (Zi_n (by decide)))
theorem Rt.nd {g : Sg → Option (Sg × α)} (h : RZ S T pp (ns + 1) vv bb) (k : ∀ S3 : Sg, SS S S3 → RZ S3 T pp ns vv bb → Zi S3 3 = Zi S 3 → Rt (g S3) P) : Rt ((pM S 15 (Zi S 15 - 1)).bind g) P := Rt.bd (v := Ui S 15 (nI ns)) (by rw [h.2.1, nI_pred]; rfl) (k _ (SS.ui (by decide)) h.ne (Zi_n (by decide)))
end STL
theorem x22_ {K : Ky} {S : Sg} {a : Nat} {fs : List Value} (ha : a ∈ ZL S) (hF : ZF S a = .inr (22, fs)) (hk : 3 < fs.length) : f_X22_init K S a = some (UF S a (.inr (22, fs.set 3 (.int (-1)))), ()) := by
  unfold f_X22_init
  rw [pV_mk ha hF hk]; rfl
/-- what written gives -/
def WrP (S : Sg) (T pp ns vv bb : Nat) (S2 : Sg) (r : Option Nat) : Prop := ∃ pp2 a : Nat, r = some a ∧ RZ S2 T pp2 ns vv bb ∧ GR nX S S2 ∧ pp ≤ pp2 ∧ Zz S2 ≤ Zz S + (pp2 - pp) + 1 ∧ Zn S2 ≤ Zn S + 5 * (pp2 - pp) + 5 ∧ (Zz S ≤ a ∧ a < Zz S2 ∧ ∃ vs : List Value, ZF S2 a = .inr (22, vs)) ∧ (Zi S2 3 = 0 → isT (iv (Zz S) (Zz S2)) (ZF S2) (Zr S 5) (17 - ns) a pp pp2)
section WRL
variable {K : Ky} {T : Nat}
theorem wri_ : ∀ (d : Nat) {S : Sg} {pp ns vv bb : Nat}, RZ S T pp ns vv bb → 1 ≤ d → (Zi S 3 = 0 → ns ≤ 16 ∧ 18 ≤ ns + d) → Zz S + (T - pp) + 2 ≤ K.2.1 → Zn S + 5 * (T - pp) + 10 ≤ K.2.2 → Rt (f_written K d S) (WrP S T pp ns vv bb)
  | 0, S, pp, ns, vv, bb, h, h1, _, _, _ => absurd h1 (by omega)
  | d + 1, S, pp, ns, vv, bb, h, _, hd, r1, r2 => by
    have hp := h.1.2.1
    have hT := h.1.2.2.1
    unfold f_written
    refine Rt.nw (X := nX) h (by omega) (by omega) (fun S1 s1 z1 i1 => ?_)
    refine Rt.be (x22_ s1.2.2.1 s1.2.2.2.1 (Nat.le_of_ble_eq_true rfl)) ?_
    have s3 : St nX S (UF S1 (Zz S) (.inr (22, [.int 0, .int 0, .int 0, .int (-1), .null]))) (Zz S) (.inr (22, [.int 0, .int 0, .int 0, .int (-1), .null])) 1 5 := s1.put
    have z3 := z1.uf (a := Zz S) (c := .inr (22, [.int 0, .int 0, .int 0, .int (-1), .null]))
    have i3 : Zi (UF S1 (Zz S) (.inr (22, [.int 0, .int 0, .int 0, .int (-1), .null]))) = Zi S := i1
    show Rt (bnd (f_ok K (UF S1 (Zz S) (.inr (22, [.int 0, .int 0, .int 0, .int (-1), .null])))) _) _
    revert s3 z3 i3
    generalize UF S1 (Zz S) (.inr (22, [.int 0, .int 0, .int 0, .int (-1), .null])) = S3
    intro s3 z3 i3
    have hal : ∀ {Q : Sg} {c : va_E} {p2 n2 v2 b2 zz nn : Nat}, St nX S Q (Zz S) c zz nn → RZ Q T p2 n2 v2 b2 → Zz S ≤ Zz S ∧ Zz S < Zz Q := fun s z => ⟨Nat.le_refl _, z.2.2.2.2 _ s.2.2.1⟩
    refine Rt.ok (fun q => ?_) (fun q => Rt.rt ⟨pp, Zz S, rfl, z3, s3.1, Nat.le_refl _, by have := s3.2.2.2.2.1; omega, by have := s3.2.2.2.2.2; omega, ⟨(hal s3 z3).1, (hal s3 z3).2, _, s3.2.2.2.1⟩, fun z => absurd z q⟩)
    have q0 : Zi S 3 = 0 := by rw [← i3]; exact q
    obtain ⟨hn, hd⟩ := hd q0
    obtain ⟨m, em⟩ : ∃ m : Nat, 17 - ns = m + 1 := ⟨16 - ns, by omega⟩
    refine Rt.pv s3 z3 (Nat.le_of_ble_eq_true rfl) (show Value.int (Zi S3 10) = .int (nI pp) by rw [z3.1.1]) (fun S4 s4 z4 u4 => ?_)
    have f4 : Zr S4 5 = Zr S 5 := by rw [s4.1.2.1.1]
    refine Rt.bd z4.kd ?_
    refine Rt.pv s4 z4 (Nat.le_of_ble_eq_true rfl) (show Value.int (Zr S4 5 pp) = .int (Zr S 5 pp) by rw [f4]) (fun S5 s5 z5 u5 => ?_)
    have s5 : St nX S S5 (Zz S) (.inr (22, [.int (Zr S 5 pp), .int (nI pp), .int 0, .int (-1), .null])) 1 5 := s5
    have f5 : Zr S5 5 = Zr S 5 := by rw [s5.1.2.1.1]
    have h192 : (Zr S 5 pp = 26 ∨ Zr S 5 pp = 27 ∨ Zr S 5 pp = 25 ∨ Zr S 5 pp = 2) → Rt (f_written_192 K (f_written K d) S5 (some (Zz S))) (WrP S T pp ns vv bb) := fun hk => by
      unfold f_written_192 f_written_214
      have hn0 : Zr S 5 pp ≠ 0 := by rcases hk with e | e | e | e <;> rw [e] <;> decide
      refine Rt.pi z5 (z5.nx (k := Zr S 5 pp) (by rw [f5]) hn0) (fun S6 g6 z6 i6 => Rt.rt ?_)
      have s6 := s5.ss g6
      refine ⟨pp + 1, Zz S, rfl, z6, s6.1, Nat.le_succ _, by have := s6.2.2.2.2.1; omega, by have := s6.2.2.2.2.2; omega, ⟨(hal s6 z6).1, (hal s6 z6).2, _, s6.2.2.2.1⟩, fun _ => ?_⟩
      rw [em]
      exact ⟨iv_m.mpr (hal s6 z6), Or.inl ⟨s6.2.2.2.1, hk, rfl⟩⟩
    -- the type below
    have h136 : ∀ (S6 : Sg) (p6 : Nat) (mu lf : Int32), St nX S S6 (Zz S) (.inr (22, [.int (Zr S 5 pp), .int (nI pp), .int mu, .int lf, .null])) 1 5 → RZ S6 T p6 (ns + 1) vv bb → pp < p6 → (Zi S6 3 = 0 → ns ≠ 16 ∧ ((Zr S 5 pp = 23 ∧ p6 = pp + 1 ∧ mu = 0 ∧ lf = -1) ∨ (Zr S 5 pp = 55 ∧ (mu = 0 ∨ mu = 1) ∧ (lf = -1 ∨ lf = nI (pp + 1))))) → Rt (f_written_136 K (f_written K d) S6 (some (Zz S))) (WrP S T pp ns vv bb) := fun S6 p6 mu lf s6 z6 hp6 hg => by
      have e1 := s6.2.2.2.2.1; have e2 := s6.2.2.2.2.2; have e3 := z6.1.2.1
      unfold f_written_136 f_written_214
      refine Rt.bn (wri_ d z6 (by omega) (fun z => by have := (hg z).1; omega) (by omega) (by omega)) (fun S7 r7 q7 => ?_)
      obtain ⟨p7, a7, e7, z7, g7, h7, k1, k2, k3, k4⟩ := q7
      subst e7
      have s7 := s6.cl g7 (hal s6 z6).2 (z1 := p7 - p6 + 1) (n1 := 5 * (p7 - p6) + 5) (by omega) (by omega)
      refine Rt.pv s7 z7 (Nat.le_of_ble_eq_true rfl) (show va_rf (some a7) = .ref a7 from rfl) (fun S8 s8 z8 u8 => ?_)
      refine Rt.nd z8 (fun S9 g9 z9 i9 => Rt.rt ?_)
      have s9 := s8.ss g9
      have e4 := s9.2.2.2.2.1; have e5 := s9.2.2.2.2.2
      refine ⟨p7, Zz S, rfl, z9, s9.1, by omega, by omega, by omega, ⟨(hal s9 z9).1, (hal s9 z9).2, _, s9.2.2.2.1⟩, fun q9 => ?_⟩
      have q7 : Zi S7 3 = 0 := by rw [← u8.2.2.2.2.1, ← i9]; exact q9
      have q6 : Zi S6 3 = 0 := g7.2.2.2.2.2 q7
      have hT7 := k4 q7
      rw [s6.1.2.1.1] at hT7
      have hfr : exS (iv (Zz S6) (Zz S7)) (ZF S7) (iv (Zz S) (Zz S9)) (ZF S9) := fun b hb => by
        obtain ⟨b1, b2⟩ := iv_m.mp hb
        have b3 := s6.1.2.2.2.2.1.1
        have b4 := (hal s6 z6).2
        have b5 : Zz S9 = Zz S7 := g9.2.2.2.1.trans u8.2.2.1
        exact ⟨iv_m.mpr ⟨by omega, by omega⟩, by rw [g9.2.1]; exact u8.1 b (by omega)⟩
      have hT9 := isT_ex hfr hT7
      obtain ⟨g1, g2⟩ := hg q6
      rw [show 17 - (ns + 1) = m by omega] at hT9
      rw [em]
      refine ⟨iv_m.mpr (hal s9 z9), ?_⟩
      rcases g2 with ⟨g3, g4, g5, g6⟩ | ⟨g3, g4, g5⟩
      · subst g4 g5 g6
        exact Or.inr (Or.inl ⟨g3, a7, s9.2.2.2.1, hT9⟩)
      · exact Or.inr (Or.inr ⟨g3, a7, p6, mu, lf, s9.2.2.2.1, hp6, g4, g5, hT9⟩)
    have h56 : (Zr S 5 pp = 23 ∨ Zr S 5 pp = 55) → Rt (f_written_56 K (f_written K d) S5 (some (Zz S))) (WrP S T pp ns vv bb) := fun hk => by
      have hn0 : Zr S 5 pp ≠ 0 := by rcases hk with e | e <;> rw [e] <;> decide
      unfold f_written_56
      rw [z5.1.1]
      refine Rt.bn (enter_ z5 (by omega)) (fun S6 _ q6 => ?_)
      obtain ⟨z6, g6, h6⟩ := q6
      have s6 := s5.ss g6
      have f6 : Zr S6 5 = Zr S 5 := by rw [s6.1.2.1.1]
      have hp1 := z6.nx (k := Zr S 5 pp) (by rw [f6]) hn0
      rcases hk with hk | hk
      · refine Rt.be (is_0 z6 (by rw [f6, hk]; decide)) (Rt.pi z6 hp1 (fun S7 g7 z7 i7 => ?_))
        refine Rt.ip rfl ?_
        unfold f_written_118
        refine Rt.ip rfl ?_
        exact h136 S7 (pp + 1) 0 (-1) (s6.ss g7) z7 (by omega) (fun z => ⟨h6 (by rw [← i7]; exact z), Or.inl ⟨hk, rfl, rfl, rfl⟩⟩)
      · refine Rt.be (is_1 z6 (by rw [f6, hk])) (Rt.pi z6 hp1 (fun S7 g7 z7 i7 => ?_))
        have s7 := s6.ss g7
        have f7 : Zr S7 5 = Zr S 5 := by rw [s7.1.2.1.1]
        have h118 : ∀ (S8 : Sg) (p8 : Nat) (lf : Int32), St nX S S8 (Zz S) (.inr (22, [.int (Zr S 5 pp), .int (nI pp), .int 0, .int lf, .null])) 1 5 → RZ S8 T p8 (ns + 1) vv bb → pp < p8 → (Zi S8 3 = 0 → ns ≠ 16) → (lf = -1 ∨ lf = nI (pp + 1)) → Rt (f_written_118 K (f_written K d) S8 (some (Zz S)) 1) (WrP S T pp ns vv bb) := fun S8 p8 lf s8 z8 hp8 hg8 hl8 => by
          unfold f_written_118
          refine Rt.iq (by decide) (Rt.bn (takes_ z8 (by decide)) (fun S9 r9 q9 => ?_))
          obtain ⟨p9, z9, g9, i9, q9⟩ := q9
          have s9 := s8.ss g9
          rcases q9 with ⟨e1, e2, _⟩ | ⟨e1, e2, _⟩
          · subst e1 e2
            exact Rt.ip rfl (h136 S9 _ 0 lf s9 z9 hp8 (fun z => ⟨hg8 (by rw [← i9]; exact z), Or.inr ⟨hk, Or.inl rfl, hl8⟩⟩))
          · subst e1 e2
            refine Rt.iq (by decide) (Rt.pv s9 z9 (Nat.le_of_ble_eq_true rfl) rfl (fun S10 s10 z10 u10 => ?_))
            exact h136 S10 _ 1 lf s10 z10 (by omega) (fun z => ⟨hg8 (by rw [← i9, ← u10.2.2.2.2.1]; exact z), Or.inr ⟨hk, Or.inr rfl, hl8⟩⟩)
        refine Rt.iq (by decide) (Rt.ok (fun q7 => Rt.is z7 (fun h4 => ?_) (fun _ => ?_)) (fun q7 => ?_))
        · refine Rt.pv s7 z7 (Nat.le_of_ble_eq_true rfl) (show Value.int (Zi S7 10) = .int (nI (pp + 1)) by rw [z7.1.1]) (fun S8 s8 z8 u8 => ?_)
          refine Rt.pi z8 (z8.nx (k := 4) (by rw [s8.1.2.1.1, ← s7.1.2.1.1]; exact h4) (by decide)) (fun S9 g9 z9 i9 => ?_)
          exact h118 S9 _ (nI (pp + 1)) (s8.ss g9) z9 (by omega) (fun z => h6 (by rw [← i7, ← u8.2.2.2.2.1, ← i9]; exact z)) (Or.inr rfl)
        · exact h118 S7 _ (-1) s7 z7 (by omega) (fun z => h6 (by rw [← i7]; exact z)) (Or.inl rfl)
        · exact h118 S7 _ (-1) s7 z7 (by omega) (fun z => h6 (by rw [← i7]; exact z)) (Or.inl rfl)
    have c5 : ∀ k : Int32, Zr S5 5 pp = k → Zr S 5 pp = k := fun k e => by rw [← f5]; exact e
    refine Rt.is z5 (fun e => h56 (Or.inl (c5 _ e))) (fun _ => Rt.is z5 (fun e => h56 (Or.inr (c5 _ e))) (fun _ => Rt.is z5 (fun e => h192 (Or.inl (c5 _ e))) (fun _ => Rt.is z5 (fun e => h192 (Or.inr (Or.inl (c5 _ e)))) (fun _ => Rt.is z5 (fun e => h192 (Or.inr (Or.inr (Or.inl (c5 _ e))))) (fun _ => Rt.is z5 (fun e => h192 (Or.inr (Or.inr (Or.inr (c5 _ e))))) (fun _ => ?_))))))
    rw [z5.1.1]
    refine Rt.be (fail_ (by omega)) ?_
    unfold f_written_214
    have s6 := s5.ss (SS.fl (S := S5) (wh := 1) (x := Zr S5 6 pp))
    exact Rt.rt ⟨pp, Zz S, rfl, z5.fl, s6.1, Nat.le_refl _, by have := s6.2.2.2.2.1; omega, by have := s6.2.2.2.2.2; omega, ⟨(hal s6 z5.fl).1, (hal s6 z5.fl).2, _, s6.2.2.2.1⟩, fun z => absurd z (flS_n0 (by decide))⟩
end WRL
end
-- k4.c.lean.txt
section
/-- a row of exps and a row of signs of the same length -/
def rwS (K : Ky) (S : Sg) (la sa cp : Nat) (f : Nat → Option Nat) (g : Nat → Int32) : Prop := la ∈ ZL S ∧ sa ∈ ZL S ∧ ZF S la = .inl (K.1 9, cp, .inr (.inr (.inr (.inr f)))) ∧ ZF S sa = .inl (K.1 0, cp, .inl g)
section ADL
variable {K : Ky} {S : Sg} {e la sa cp n x : Nat} {fs : List Value} {f : Nat → Option Nat} {g : Nat → Int32} {sg : Int32}
theorem ne_or {F : Nat → va_E} {a b : Nat} {u : Nat × List Value} {r : ClassId × vp_A} (h1 : F a = .inr u) (h2 : F b = .inl r) : a ≠ b := fun q => by rw [q, h2] at h1; cases h1
theorem ne_rr {F : Nat → va_E} {a b n m : Nat} {k1 k2 : ClassId} {f : Nat → Option Nat} {g : Nat → Int32} (h1 : F a = .inl (k1, n, .inr (.inr (.inr (.inr f))))) (h2 : F b = .inl (k2, m, .inl g)) : a ≠ b := fun q => by rw [q, h2] at h1; cases h1
theorem okO_fr {S2 : Sg} {ci : Nat} (h : okO S ci (some x) = true) (h1 : x ∈ ZL S2) (h2 : ZF S2 x = ZF S x) : okO S2 ci (some x) = true := by
  obtain ⟨_, vs, q⟩ := okO_of h
  exact okO_mk h1 (h2.trans q)
theorem nI_ofN (n : Nat) : Int32.ofNat n = nI n := rfl
/-- an exp more -/
theorem a106 (hE : e ∈ ZL S) (hFe : ZF S e = .inr (15, fs)) (hl : fs.length = 14) (h9 : fs[9]? = some (.ref la)) (h10 : fs[10]? = some (.ref sa)) (h11 : fs[11]? = some (.int (nI n))) (hr : rwS K S la sa cp f g) (hn : n < cp) (hc : cp < 2 ^ 31) (hx : okO S 15 (some x) = true) : f_add_106 K S (some e) (some x) sg = some (UF (UF (UF S la (.inl (K.1 9, cp, .inr (.inr (.inr (.inr (va_up f n (some x)))))))) sa (.inl (K.1 0, cp, .inl (upd g n sg)))) e (.inr (15, fs.set 11 (.int (nI (n + 1))))), ()) := by
  obtain ⟨r1, r2, r3, r4⟩ := hr
  have e1 : e ≠ la := ne_or hFe r3
  have e2 : e ≠ sa := ne_or hFe r4
  have e3 : la ≠ sa := ne_rr r3 r4
  have hF2 : ZF (UF S la (.inl (K.1 9, cp, .inr (.inr (.inr (.inr (va_up f n (some x)))))))) e = .inr (15, fs) := (ZF_n e1).trans hFe
  have hF3 : ZF (UF (UF S la (.inl (K.1 9, cp, .inr (.inr (.inr (.inr (va_up f n (some x)))))))) sa (.inl (K.1 0, cp, .inl (upd g n sg)))) e = .inr (15, fs) := (ZF_n e2).trans hF2
  unfold f_add_106
  rw [oR_mk (v := some la) hE hFe h9]
  show (oI S 15 (some e) 11).bind _ = _
  rw [oI_mk hE hFe h11]
  show (bQ K 9 15 S (some la) (nI n) (some x)).bind _ = _
  rw [bQ_n r1 r3 hn hc hx]
  show (oR (UF S la _) 15 (some e) 10).bind _ = _
  rw [oR_mk (S := UF S la _) (v := some sa) hE hF2 h10]
  show (oI (UF S la _) 15 (some e) 11).bind _ = _
  rw [oI_mk (S := UF S la _) hE hF2 h11]
  show (bI K (UF S la _) (some sa) (nI n) sg).bind _ = _
  rw [bI_n (S := UF S la _) r2 ((ZF_n (fun q => e3 q.symm)).trans r4) hn hc]
  show (oI (UF (UF S la _) sa _) 15 (some e) 11).bind _ = _
  rw [oI_mk (S := UF (UF S la _) sa _) hE hF3 h11]
  show (pV (UF (UF S la _) sa _) 15 (some e) 11 (.int (nI n + 1))).bind _ = _
  rw [pV_mk (S := UF (UF S la _) sa _) hE hF3 (by rw [hl]; decide), nI_1]; rfl
/-- what add gives -/
def AdP (K : Ky) (S : Sg) (e n cp x : Nat) (fs : List Value) (f : Nat → Option Nat) (g : Nat → Int32) (sg : Int32) (X : Nat → Prop) (S2 : Sg) : Prop := ∃ (la sa cp2 : Nat) (f2 : Nat → Option Nat) (g2 : Nat → Int32), Zi S2 = Zi S ∧ GR X S S2 ∧ ZF S2 e = .inr (15, ((fs.set 9 (.ref la)).set 10 (.ref sa)).set 11 (.int (nI (n + 1)))) ∧ rwS K S2 la sa cp2 f2 g2 ∧ n + 1 ≤ cp2 ∧ cp2 ≤ 4 + 2 * n ∧ cp ≤ cp2 ∧ (∀ i : Nat, i < n → f2 i = f i ∧ g2 i = g i) ∧ f2 n = some x ∧ g2 n = sg ∧ (X la ∨ Zz S ≤ la) ∧ (X sa ∨ Zz S ≤ sa) ∧ Zz S2 ≤ Zz S + 2 ∧ Zn S2 + 4 * cp ≤ Zn S + 4 * cp2
theorem set_self {l : List Value} {k : Nat} {v : Value} (h : l[k]? = some v) : l.set k v = l := by
  obtain ⟨hk, e⟩ := List.getElem?_eq_some_iff.mp h
  rw [← e]; exact List.set_getElem_self hk
theorem a106P {X : Nat → Prop} {S0 : Sg} {fs0 : List Value} {f0 : Nat → Option Nat} {g0 : Nat → Int32} {cp0 : Nat} (hE : e ∈ ZL S) (hFe : ZF S e = .inr (15, fs)) (hl : fs.length = 14) (h9 : fs[9]? = some (.ref la)) (h10 : fs[10]? = some (.ref sa)) (h11 : fs[11]? = some (.int (nI n))) (hr : rwS K S la sa cp f g) (hn : n < cp) (hc : cp < 2 ^ 31) (hx : okO S 15 (some x) = true)
    (hg : GR X S0 S) (hi : Zi S = Zi S0) (hX : X e) (hla : X la ∨ Zz S0 ≤ la) (hsa : X sa ∨ Zz S0 ≤ sa) (hfs : fs = (fs0.set 9 (.ref la)).set 10 (.ref sa)) (hfg : ∀ i : Nat, i < n → f i = f0 i ∧ g i = g0 i) (hcp : cp ≤ 4 + 2 * n) (hcc : cp0 ≤ cp) (hz : Zz S ≤ Zz S0 + 2) (hnn : Zn S + 4 * cp0 ≤ Zn S0 + 4 * cp) : Rt (f_add_106 K S (some e) (some x) sg) (fun S2 _ => AdP K S0 e n cp0 x fs0 f0 g0 sg X S2) := by
  rw [a106 hE hFe hl h9 h10 h11 hr hn hc hx]
  obtain ⟨r1, r2, r3, r4⟩ := hr
  have e1 : e ≠ la := ne_or hFe r3
  have e2 : e ≠ sa := ne_or hFe r4
  have e3 : la ≠ sa := ne_rr r3 r4
  have hXX : ∀ {c : Nat}, (X c ∨ Zz S0 ≤ c) → ∀ b : Nat, b < Zz S0 → b = c → X b := fun h b hb q => by subst q; exact h.resolve_right (by omega)
  refine Rt.rt ⟨la, sa, cp, va_up f n (some x), upd g n sg, hi, ((hg.tr GR.uf (hXX hla)).tr GR.uf (hXX hsa)).tr GR.uf (hXX (Or.inl hX)), ?_, ⟨r1, r2, ?_, ?_⟩, hn, hcp, hcc, fun i hi => ?_, va_up_self _ _ _, if_pos rfl, hla, hsa, hz, hnn⟩
  · rw [ZF_s, hfs]
  · rw [ZF_n (fun q => e1 q.symm), ZF_n e3, ZF_s]
  · rw [ZF_n (fun q => e2 q.symm), ZF_s]
  · exact ⟨(va_up_ne _ _ (by omega)).trans (hfg i hi).1, (if_neg (by omega)).trans (hfg i hi).2⟩
/-- into longer rows -/
theorem a57 {X : Nat → Prop} {S0 : Sg} {l2 s2 : Nat} (hl : fs.length = 14) (h9 : fs[9]? = some (.ref la)) (h10 : fs[10]? = some (.ref sa)) (h11 : fs[11]? = some (.int (nI n))) (hn : 1 ≤ n ∧ n ≤ 3001) (hX : X e) (hl2 : Zz S0 ≤ l2) (hs2 : Zz S0 ≤ s2) (hcp : n = cp) : ∀ (m j : Nat), n < j + m → j ≤ n → ∀ {S : Sg} {f2 : Nat → Option Nat} {g2 : Nat → Int32}, e ∈ ZL S → ZF S e = .inr (15, fs) → rwS K S la sa cp f g → rwS K S l2 s2 (2 * n) f2 g2 → l2 ≠ la → s2 ≠ sa → (∀ i : Nat, i < n → ∃ y : Nat, f i = some y ∧ okO S 15 (some y) = true) → okO S 15 (some x) = true → (∀ i : Nat, i < j → f2 i = f i ∧ g2 i = g i) → GR X S0 S → Zi S = Zi S0 → Zz S ≤ Zz S0 + 2 → Zn S ≤ Zn S0 + 4 * n → Rt (f_add_57 K m S (some e) (some x) sg (some l2) (some s2) (nI j)) (fun S2 _ => AdP K S0 e n cp x fs f g sg X S2)
  | 0, j, a, b, S, f2, g2, _, _, _, _, _, _, _, _, _, _, _, _, _ => absurd a (by omega)
  | m + 1, j, a, b, S, f2, g2, hE, hFe, hr, hr2, d1, d2, hy, hx, hfg, hg, hi, hz, hnn => by
    obtain ⟨r1, r2, r3, r4⟩ := hr
    obtain ⟨t1, t2, t3, t4⟩ := hr2
    have e1 : e ≠ l2 := ne_or hFe t3
    have e2 : e ≠ s2 := ne_or hFe t4
    have e3 : l2 ≠ s2 := ne_rr t3 t4
    have e4 : la ≠ s2 := ne_rr r3 t4
    have e5 : l2 ≠ sa := ne_rr t3 r4
    unfold f_add_57
    refine Rt.bd (oI_mk hE hFe h11) (Rt.it (fun q => ?_) (fun q => ?_))
    · have hj : j = n := by
        rcases Nat.lt_or_ge j n with z | z
        · exact absurd q (fun q => by have := (nI_leI (by omega) (by omega)).mp q; omega)
        · omega
      subst hj
      refine Rt.bd (pV_mk (v := va_rf (some l2)) hE hFe (by rw [hl]; decide)) (Rt.bd (pV_mk (v := va_rf (some s2)) (fs := fs.set 9 (.ref l2)) hE ZF_s (by rw [List.length_set, hl]; decide)) ?_)
      have hXe : ∀ b : Nat, b < Zz S0 → b = e → X b := fun b _ q => by rw [q]; exact hX
      refine a106P (fs := (fs.set 9 (.ref l2)).set 10 (.ref s2)) (la := l2) (sa := s2) (cp := 2 * j) (f := f2) (g := g2) hE ZF_s (by rw [List.length_set, List.length_set]; exact hl) ?_ ?_ ?_ ⟨t1, t2, ?_, ?_⟩ (by omega) (by omega) ?_ ((hg.tr GR.uf hXe).tr GR.uf hXe) hi hX (Or.inr hl2) (Or.inr hs2) rfl hfg (by omega) (by omega) hz (show Zn S + 4 * cp ≤ Zn S0 + 4 * (2 * j) by omega)
      · rw [List.getElem?_set_ne (by decide), List.getElem?_set_self (by rw [hl]; decide)]
      · rw [List.getElem?_set_self (by rw [List.length_set, hl]; decide)]
      · rw [List.getElem?_set_ne (by decide), List.getElem?_set_ne (by decide)]; exact h11
      · rw [ZF_n (fun q => e1 q.symm), ZF_n (fun q => e1 q.symm)]; exact t3
      · rw [ZF_n (fun q => e2 q.symm), ZF_n (fun q => e2 q.symm)]; exact t4
      · obtain ⟨hx1, vs, hx2⟩ := okO_of hx
        by_cases ex : x = e
        · subst ex; exact okO_mk hx1 ZF_s
        · exact okO_mk hx1 ((ZF_n ex).trans ((ZF_n ex).trans hx2))
    · have hj : j < n := by
        rcases Nat.lt_or_ge j n with z | z
        · exact z
        · exact absurd (nI_le z (by omega)) q
      obtain ⟨y, hfy, hoy⟩ := hy j hj
      have hF2 : ZF (UF S l2 (.inl (K.1 9, 2 * n, .inr (.inr (.inr (.inr (va_up f2 j (some y)))))))) e = .inr (15, fs) := (ZF_n e1).trans hFe
      refine Rt.bd (oR_mk (v := some la) hE hFe h9) (Rt.bd (aQ_n r1 r3 (show j < cp by omega) (by omega)) ?_)
      rw [hfy]
      refine Rt.bd (bQ_n t1 t3 (show j < 2 * n by omega) (by omega) hoy) (Rt.bd (oR_mk (v := some sa) hE hF2 h10) (Rt.bd (aI_n r2 ((ZF_n (fun q => e5 q.symm)).trans r4) (show j < cp by omega) (by omega)) (Rt.bd (bI_n t2 ((ZF_n (fun q => e3 q.symm)).trans t4) (show j < 2 * n by omega) (by omega)) ?_)))
      rw [nI_1]
      have hok : ∀ {z : Nat}, okO S 15 (some z) = true → okO (UF (UF S l2 (.inl (K.1 9, 2 * n, .inr (.inr (.inr (.inr (va_up f2 j (some y)))))))) s2 (.inl (K.1 0, 2 * n, .inl (upd g2 j (g j))))) 15 (some z) = true := fun {z} h => by
        obtain ⟨h1, vs, h2⟩ := okO_of h
        exact okO_mk h1 ((ZF_n (ne_or h2 t4)).trans ((ZF_n (ne_or h2 t3)).trans h2))
      refine a57 hl h9 h10 h11 hn hX hl2 hs2 hcp m (j + 1) (by omega) (by omega) hE ((ZF_n e2).trans hF2) ⟨r1, r2, (ZF_n e4).trans ((ZF_n (fun q => d1 q.symm)).trans r3), (ZF_n (fun q => d2 q.symm)).trans ((ZF_n (fun q => e5 q.symm)).trans r4)⟩ ⟨t1, t2, (ZF_n e3).trans ZF_s, ZF_s⟩ d1 d2 (fun i hi => by obtain ⟨y2, h1, h2⟩ := hy i hi; exact ⟨y2, h1, hok h2⟩) (hok hx) (fun i hi => ?_) ((hg.tr GR.uf (fun b hb q => absurd q (by omega))).tr GR.uf (fun b hb q => absurd q (by omega))) hi hz hnn
      by_cases ei : i = j
      · subst ei; exact ⟨(va_up_self _ _ _).trans hfy.symm, if_pos rfl⟩
      · exact ⟨(va_up_ne _ _ ei).trans (hfg i (by omega)).1, (if_neg ei).trans (hfg i (by omega)).2⟩
theorem add_ {X : Nat → Prop} (hz : ∀ a ∈ ZL S, a < Zz S) (hE : e ∈ ZL S) (hFe : ZF S e = .inr (15, fs)) (hl : fs.length = 14) (h11 : fs[11]? = some (.int (nI n))) (hn : n ≤ 3001) (hx : okO S 15 (some x) = true) (hX : X e) (hrow : (n = 0 ∧ cp = 0 ∧ fs[9]? = some .null) ∨ (∃ la sa : Nat, fs[9]? = some (.ref la) ∧ fs[10]? = some (.ref sa) ∧ rwS K S la sa cp f g ∧ n ≤ cp ∧ 1 ≤ n ∧ X la ∧ X sa)) (hy : ∀ i : Nat, i < n → ∃ y : Nat, f i = some y ∧ okO S 15 (some y) = true) (hc : cp ≤ 4 + 2 * n) (r1 : Zz S + 2 ≤ K.2.1) (r2 : Zn S + 8 + 4 * n ≤ K.2.2) : Rt (f_add K S (some e) (some x) sg) (fun S2 _ => AdP K S e n cp x fs f g sg X S2) := by
  unfold f_add
  have hXe : ∀ b : Nat, b < Zz S → b = e → X b := fun b _ q => by rw [q]; exact hX
  have hez := hz e hE
  rcases hrow with ⟨rfl, rfl, h9⟩ | ⟨la, sa, h9, h10, hr, hncp, hn1, hXl, hXs⟩
  · refine Rt.bd (oR_mk (v := none) hE hFe h9) (Rt.ip rfl ?_)
    refine Rt.be (nQ_ok (n := 4) (by decide) ⟨by omega, by omega⟩) ?_
    have e1 : e ≠ Zz S := by omega
    have hF1 : ZF (Un S (.inl (K.1 9, 4, .inr (.inr (.inr (.inr (fun _ => none)))))) 4) e = .inr (15, fs) := (updE_n e1).trans hFe
    refine Rt.bd (pV_mk (v := va_rf (some (Zz S))) (List.mem_cons_of_mem _ hE) hF1 (by rw [hl]; decide)) ?_
    refine Rt.be (nA_ok (n := 4) (by decide) ⟨by show Zz S + 1 + 1 ≤ _; omega, by show Zn S + 4 + 4 ≤ _; omega⟩) ?_
    have e2 : e ≠ Zz S + 1 := by omega
    have hF3 : ZF (Un (UF (Un S (.inl (K.1 9, 4, .inr (.inr (.inr (.inr (fun _ => none)))))) 4) e (.inr (15, fs.set 9 (va_rf (some (Zz S)))))) (.inl (K.1 0, 4, .inl (fun _ => 0))) 4) e = .inr (15, fs.set 9 (.ref (Zz S))) := (updE_n e2).trans ZF_s
    refine Rt.bd (pV_mk (v := va_rf (some (Zz S + 1))) (List.mem_cons_of_mem _ (List.mem_cons_of_mem _ hE)) hF3 (by rw [List.length_set, hl]; decide)) ?_
    have hE4 : e ∈ (Zz S + 1) :: Zz S :: ZL S := List.mem_cons_of_mem _ (List.mem_cons_of_mem _ hE)
    unfold f_add_22
    refine Rt.bd (oI_mk (v := nI 0) hE4 ZF_s (by rw [List.getElem?_set_ne (by decide), List.getElem?_set_ne (by decide)]; exact h11)) (Rt.bd (oR_mk (v := some (Zz S)) hE4 ZF_s (by rw [List.getElem?_set_ne (by decide), List.getElem?_set_self (by rw [hl]; decide)]; rfl)) ?_)
    have hrl : ZF (UF (Un (UF (Un S (.inl (K.1 9, 4, .inr (.inr (.inr (.inr (fun _ => none)))))) 4) e (.inr (15, fs.set 9 (va_rf (some (Zz S)))))) (.inl (K.1 0, 4, .inl (fun _ => 0))) 4) e (.inr (15, (fs.set 9 (.ref (Zz S))).set 10 (va_rf (some (Zz S + 1)))))) (Zz S) = .inl (K.1 9, 4, .inr (.inr (.inr (.inr (fun _ => none))))) := by
      rw [ZF_n (fun q => e1 q.symm)]
      exact (updE_n (by show Zz S ≠ Zz S + 1; omega)).trans ((ZF_n (fun q => e1 q.symm)).trans updE_s)
    have hrs : ZF (UF (Un (UF (Un S (.inl (K.1 9, 4, .inr (.inr (.inr (.inr (fun _ => none)))))) 4) e (.inr (15, fs.set 9 (va_rf (some (Zz S)))))) (.inl (K.1 0, 4, .inl (fun _ => 0))) 4) e (.inr (15, (fs.set 9 (.ref (Zz S))).set 10 (va_rf (some (Zz S + 1)))))) (Zz S + 1) = .inl (K.1 0, 4, .inl (fun _ => 0)) := by
      rw [ZF_n (fun q => e2 q.symm)]; exact updE_s
    have hml : Zz S ∈ (Zz S + 1) :: Zz S :: ZL S := List.mem_cons_of_mem _ List.mem_cons_self
    refine Rt.bd (v := nI 4) ?_ ?_
    · unfold aLn
      rw [aC_mk (S := UF (Un (UF (Un S _ 4) e _) _ 4) e _) hml hrl]
      exact if_pos rfl
    refine Rt.iq (by decide) ?_
    refine a106P (n := 0) (fs := (fs.set 9 (.ref (Zz S))).set 10 (.ref (Zz S + 1))) (la := Zz S) (sa := Zz S + 1) (cp := 4) (f := fun _ => none) (g := fun _ => 0) hE4 ZF_s (by rw [List.length_set, List.length_set]; exact hl) ?_ ?_ ?_ ⟨hml, List.mem_cons_self, hrl, hrs⟩ (by decide) (by decide) ?_ (((GR.un.tr GR.uf hXe).n GR.un).tr GR.uf hXe) rfl hX (Or.inr (Nat.le_refl _)) (Or.inr (Nat.le_succ _)) rfl (fun i hi => absurd hi (by omega)) (by omega) (by omega) (Nat.le_refl _) (show Zn S + 4 + 4 + 4 * 0 ≤ Zn S + 4 * 4 by omega)
    · rw [List.getElem?_set_ne (by decide), List.getElem?_set_self (by rw [hl]; decide)]
    · rw [List.getElem?_set_self (by rw [List.length_set, hl]; decide)]
    · rw [List.getElem?_set_ne (by decide), List.getElem?_set_ne (by decide)]; exact h11
    · obtain ⟨hx1, vs, hx2⟩ := okO_of hx
      have hxz := hz x hx1
      have hx4 : x ∈ (Zz S + 1) :: Zz S :: ZL S := List.mem_cons_of_mem _ (List.mem_cons_of_mem _ hx1)
      by_cases ex : x = e
      · subst ex; exact okO_mk hx4 ZF_s
      · exact okO_mk hx4 ((ZF_n ex).trans ((updE_n (by show x ≠ Zz S + 1; omega)).trans ((ZF_n ex).trans ((updE_n (by omega)).trans hx2))))
  · refine Rt.bd (oR_mk (v := some la) hE hFe h9) (Rt.iq (fun q => by cases q) ?_)
    unfold f_add_22
    have hr' := hr
    obtain ⟨t1, t2, t3, t4⟩ := hr'
    refine Rt.bd (oI_mk hE hFe h11) (Rt.bd (oR_mk (v := some la) hE hFe h9) (Rt.bd (v := nI cp) ?_ ?_))
    · unfold aLn
      rw [aC_mk t1 t3]; exact if_pos rfl
    · refine Rt.it (fun q => ?_) (fun q => ?_)
      · have hcn : n = cp := (nI_eq (by omega) (by omega)).mp q
        refine Rt.bd (oI_mk hE hFe h11) ?_
        rw [nI_2]
        refine Rt.be (nQ_ok (n := 2 * n) (by omega) ⟨by omega, by omega⟩) ?_
        have hza := hz la t1; have hzs := hz sa t2
        have hF1 : ZF (Un S (.inl (K.1 9, 2 * n, .inr (.inr (.inr (.inr (fun _ => none)))))) (2 * n)) e = .inr (15, fs) := (updE_n (by omega)).trans hFe
        refine Rt.bd (oI_mk (List.mem_cons_of_mem _ hE) hF1 h11) ?_
        rw [nI_2]
        refine Rt.be (nA_ok (n := 2 * n) (by omega) ⟨by show Zz S + 1 + 1 ≤ _; omega, by show Zn S + 2 * n + 2 * n ≤ _; omega⟩) ?_
        have hok : ∀ {y : Nat}, okO S 15 (some y) = true → okO (Un (Un S (.inl (K.1 9, 2 * n, .inr (.inr (.inr (.inr (fun _ => none)))))) (2 * n)) (.inl (K.1 0, 2 * n, .inl (fun _ => 0))) (2 * n)) 15 (some y) = true := fun {y} h => by
          obtain ⟨h1, vs, h2⟩ := okO_of h
          have := hz y h1
          exact okO_mk (List.mem_cons_of_mem _ (List.mem_cons_of_mem _ h1)) ((updE_n (by show y ≠ Zz S + 1; omega)).trans ((updE_n (by omega)).trans h2))
        have hup : ∀ {a : Nat} {c : va_E}, a ∈ ZL S → ZF S a = c → ZF (Un (Un S (.inl (K.1 9, 2 * n, .inr (.inr (.inr (.inr (fun _ => none)))))) (2 * n)) (.inl (K.1 0, 2 * n, .inl (fun _ => 0))) (2 * n)) a = c := fun {a c} h1 h2 => by
          have := hz a h1
          exact (updE_n (by show a ≠ Zz S + 1; omega)).trans ((updE_n (by omega)).trans h2)
        refine a57 (S0 := S) (l2 := Zz S) (s2 := Zz S + 1) (cp := cp) (f2 := fun _ => none) (g2 := fun _ => 0) hl h9 h10 h11 ⟨hn1, hn⟩ hX (Nat.le_refl _) (Nat.le_succ _) hcn bigN 0 (by show n < 0 + 1000000000000; omega) (by omega) (List.mem_cons_of_mem _ (List.mem_cons_of_mem _ hE)) (hup hE hFe) ⟨List.mem_cons_of_mem _ (List.mem_cons_of_mem _ t1), List.mem_cons_of_mem _ (List.mem_cons_of_mem _ t2), hup t1 t3, hup t2 t4⟩ ⟨List.mem_cons_of_mem _ List.mem_cons_self, List.mem_cons_self, ?_, ?_⟩ (by omega) (by omega) (fun i hi => by obtain ⟨y, h1, h2⟩ := hy i hi; exact ⟨y, h1, hok h2⟩) (hok hx) (fun i hi => absurd hi (by omega)) (GR.un.n GR.un) rfl (Nat.le_refl _) (show Zn S + 2 * n + 2 * n ≤ _ by omega)
        · exact (updE_n (by show Zz S ≠ Zz S + 1; omega)).trans updE_s
        · exact updE_s
      · have hlt : n < cp := by
          rcases Nat.lt_or_ge n cp with z | z
          · exact z
          · exact absurd (by rw [show n = cp by omega]) q
        refine a106P hE hFe hl h9 h10 h11 hr hlt (by omega) hx GR.rf rfl hX (Or.inl hXl) (Or.inl hXs) ?_ (fun _ _ => ⟨rfl, rfl⟩) hc (Nat.le_refl _) (by omega) (Nat.le_refl _)
        rw [set_self h9, set_self h10]
end ADL
end
-- k4.d.lean.txt
section
theorem iv_ex {F F2 : Nat → va_E} {z w z2 w2 : Nat} (h1 : z2 ≤ z) (h2 : w ≤ w2) (h : ∀ a : Nat, z ≤ a → a < w → F2 a = F a) : exS (iv z w) F (iv z2 w2) F2 := fun a ha => by
  obtain ⟨b1, b2⟩ := iv_m.mp ha
  exact ⟨iv_m.mpr ⟨by omega, by omega⟩, h a b1 b2⟩
theorem St.le {X : Nat → Prop} {S S2 : Sg} {a z n z2 n2 : Nat} {c : va_E} (h : St X S S2 a c z n) (h1 : z ≤ z2) (h2 : n ≤ n2) : St X S S2 a c z2 n2 := ⟨h.1, h.2.1, h.2.2.1, h.2.2.2.1, by have := h.2.2.2.2.1; omega, by have := h.2.2.2.2.2; omega⟩
/-- what the reading of an exp gives -/
def XP (K : Ky) (T : Nat) (S : Sg) (pp ns vv bb n D E : Nat) (S2 : Sg) (r : Option Nat) : Prop := ∃ pp2 bb2 e : Nat, r = some e ∧ RZ S2 T pp2 ns vv bb2 ∧ GR nX S S2 ∧ (pp ≤ pp2 ∧ bb ≤ bb2 ∧ bb2 ≤ bb + (pp2 - pp)) ∧ Zz S2 ≤ Zz S + 8 * (pp2 - pp) + D ∧ Zn S2 ≤ Zn S + 120 * (pp2 - pp) + E ∧ (Zz S ≤ e ∧ e < Zz S2 ∧ ∃ vs : List Value, ZF S2 e = .inr (15, vs)) ∧ (Zi S2 3 = 0 → bb2 ≤ 54 ∧ isE (iv (Zz S) (Zz S2)) (ZF S2) (K.1 9) (K.1 0) n (16 - ns) e pp pp2 bb bb2)
theorem XP.le {K : Ky} {T : Nat} {S : Sg} {pp ns vv bb n D E n2 D2 E2 : Nat} {S2 : Sg} {r : Option Nat} (h : XP K T S pp ns vv bb n D E S2 r) (h1 : n ≤ n2) (h2 : D ≤ D2) (h3 : E ≤ E2) : XP K T S pp ns vv bb n2 D2 E2 S2 r := by
  obtain ⟨pp2, bb2, e, q1, q2, q3, q4, q5, q6, q7, q8⟩ := h
  exact ⟨pp2, bb2, e, q1, q2, q3, q4, by omega, by omega, q7, fun z => ⟨(q8 z).1, isE_im exS.rf _ h1 (q8 z).2⟩⟩
/-- the chains and the unary ones below -/
def HVc (K : Ky) (T : Nat) (V : Sg → Int32 → Option (Sg × Option Nat)) (d : Nat) : Prop := ∀ (S : Sg) (pp ns vv bb l : Nat), 1 ≤ l → l ≤ 6 → RZ S T pp ns vv bb → (Zi S 3 = 0 → bb ≤ 54) → 8 - l ≤ d → (Zi S 3 = 0 → ns ≤ 16 ∧ 7 * (17 - ns) + 8 - l ≤ d) → Zz S + 8 * (T - pp) + 8 ≤ K.2.1 → Zn S + 120 * (T - pp) + 360 ≤ K.2.2 → Rt (V S (nI l)) (XP K T S pp ns vv bb (24 * (16 - ns) + (24 - l)) 3 48)
def HVu (K : Ky) (T : Nat) (V : Sg → Option (Sg × Option Nat)) (d : Nat) : Prop := ∀ (S : Sg) (pp ns vv bb : Nat), RZ S T pp ns vv bb → (Zi S 3 = 0 → bb ≤ 54) → 1 ≤ d → (Zi S 3 = 0 → ns ≤ 16 ∧ 7 * (17 - ns) + 1 ≤ d) → Zz S + 8 * (T - pp) + 7 ≤ K.2.1 → Zn S + 120 * (T - pp) + 340 ≤ K.2.2 → Rt (V S) (XP K T S pp ns vv bb (24 * (16 - ns) + 18) 3 48)
section EXL
variable {K : Ky} {T : Nat} {V : Sg → Int32 → Option (Sg × Option Nat)} {V2 : Sg → Option (Sg × Option Nat)} {d : Nat} {S : Sg} {pp ns vv bb e : Nat} {fs : List Value}
theorem exp_ (hV : HVc K T V d) (z : RZ S T pp ns vv bb) (hb : Zi S 3 = 0 → bb ≤ 54) (hd : 7 ≤ d) (hd2 : Zi S 3 = 0 → ns ≤ 16 ∧ 7 * (17 - ns) + 7 ≤ d) (r1 : Zz S + 8 * (T - pp) + 8 ≤ K.2.1) (r2 : Zn S + 120 * (T - pp) + 360 ≤ K.2.2) : Rt (f_exp K V V2 S) (XP K T S pp ns vv bb (24 * (16 - ns) + 23) 3 48) := by
  unfold f_exp
  exact Rt.bn (hV S pp ns vv bb 1 (by omega) (by omega) z hb (by omega) (fun q => by have := hd2 q; omega) r1 r2) (fun S2 r q => Rt.rt q)
/-- what a member gives that fills the exp e: its values now, and what is known without a fault -/
def EP (K : Ky) (T : Nat) (S : Sg) (pp ns vv bb e : Nat) (Q : Sg → Nat → Nat → List Value → Prop) (S2 : Sg) : Prop := ∃ (pp2 bb2 : Nat) (fs2 : List Value), RZ S2 T pp2 ns vv bb2 ∧ St (fun b => b = e) S S2 e (.inr (15, fs2)) (8 * (pp2 - pp)) (120 * (pp2 - pp)) ∧ (pp ≤ pp2 ∧ bb ≤ bb2 ∧ bb2 ≤ bb + (pp2 - pp)) ∧ fs2.length = 14 ∧ (Zi S2 3 = 0 → bb2 ≤ 54 ∧ pp < pp2 ∧ Q S2 pp2 bb2 fs2)
/-- a bracket -/
theorem brk_ (hV : HVc K T V d) (z : RZ S T pp ns vv bb) (hb : Zi S 3 = 0 → bb ≤ 54) (hd : 7 ≤ d) (hd2 : Zi S 3 = 0 → ns ≤ 16 ∧ 7 * (17 - ns) ≤ d) (hn : ns ≤ 99) (r1 : Zz S + 8 * (T - pp) + 3 ≤ K.2.1) (r2 : Zn S + 120 * (T - pp) + 280 ≤ K.2.2) (he : e ∈ ZL S) (hF : ZF S e = .inr (15, fs)) (hl : fs.length = 14) : Rt (f_enterBracket K V V2 S (some e)) (fun S2 _ => EP K T S pp ns vv bb e (fun S2 pp2 bb2 fs2 => ∃ o p' q' : Nat, fs2 = fs.set 8 (.ref o) ∧ pp < p' ∧ q' ≤ pp2 ∧ isE (iv (Zz S) (Zz S2)) (ZF S2) (K.1 9) (K.1 0) (24 * (16 - ns)) (16 - ns) o p' q' bb bb2) S2) := by
  have hp := z.1.2.1; have hT := z.1.2.2.1
  have hez := z.2.2.2.2 e he
  have s0 : St (fun b => b = e) S S e (.inr (15, fs)) 0 0 := ⟨GR.rf, fun _ => rfl, he, hF, Nat.le_refl _, Nat.le_refl _⟩
  have h58 : ∀ (S4 : Sg) (p4 b4 : Nat) (fs4 : List Value), RZ S4 T p4 (ns + 1) vv b4 → St (fun b => b = e) S S4 e (.inr (15, fs4)) (8 * (p4 - pp)) (120 * (p4 - pp)) → (pp ≤ p4 ∧ bb ≤ b4 ∧ b4 ≤ bb + (p4 - pp)) → fs4.length = 14 → (Zi S4 3 = 0 → b4 ≤ 54 ∧ pp < p4 ∧ ∃ o p' q' : Nat, fs4 = fs.set 8 (.ref o) ∧ pp < p' ∧ q' ≤ p4 ∧ isE (iv (Zz S) (Zz S4)) (ZF S4) (K.1 9) (K.1 0) (24 * (16 - ns)) (16 - ns) o p' q' bb b4) → Rt (f_enterBracket_58 K V V2 S4) (fun S2 _ => EP K T S pp ns vv bb e (fun S2 pp2 bb2 fs2 => ∃ o p' q' : Nat, fs2 = fs.set 8 (.ref o) ∧ pp < p' ∧ q' ≤ pp2 ∧ isE (iv (Zz S) (Zz S2)) (ZF S2) (K.1 9) (K.1 0) (24 * (16 - ns)) (16 - ns) o p' q' bb bb2) S2) := fun S4 p4 b4 fs4 z4 s4 h1 hl4 h2 => by
    unfold f_enterBracket_58
    refine Rt.nd z4 (fun S5 g5 z5 i5 => Rt.bn (take_ z5 (by decide)) (fun S6 _ q6 => Rt.rt ?_))
    obtain ⟨p6, z6, g6, k1, k2, k3⟩ := q6
    have g46 := g5.tr g6
    refine ⟨p6, b4, fs4, z6, (s4.ss g46).le (by omega) (by omega), by omega, hl4, fun q => ?_⟩
    have q4 : Zi S4 3 = 0 := by rw [← i5]; exact g6.1.2.2.2.2.2 q
    obtain ⟨c1, c2, o, p', q', c3, c4, c5, c6⟩ := h2 q4
    refine ⟨c1, by omega, o, p', q', c3, c4, by omega, ?_⟩
    rw [g46.2.1, g46.2.2.2.1]; exact c6
  have h37 : ∀ S1 : Sg, SS S S1 → RZ S1 T pp (ns + 1) vv bb → (Zi S1 3 = 0 → ns ≠ 16) → Rt (f_enterBracket_37 K V V2 S1 (some e)) (fun S2 _ => EP K T S pp ns vv bb e (fun S2 pp2 bb2 fs2 => ∃ o p' q' : Nat, fs2 = fs.set 8 (.ref o) ∧ pp < p' ∧ q' ≤ pp2 ∧ isE (iv (Zz S) (Zz S2)) (ZF S2) (K.1 9) (K.1 0) (24 * (16 - ns)) (16 - ns) o p' q' bb bb2) S2) := fun S1 g1 z1 h1 => by
    unfold f_enterBracket_37
    refine Rt.bn (take_ z1 (by decide)) (fun S2 _ q2 => ?_)
    obtain ⟨p2, z2, g2, k1, k2, k3⟩ := q2
    have g02 := g1.tr g2
    refine Rt.ok (fun q => ?_) (fun q => h58 S2 p2 bb fs z2 ((s0.ss g02).le (by omega) (by omega)) (by omega) hl (fun z => absurd z q))
    have q1 : Zi S1 3 = 0 := g2.1.2.2.2.2.2 q
    have q0 : Zi S 3 = 0 := g1.1.2.2.2.2.2 q1
    have n16 := h1 q1
    obtain ⟨d1, d2⟩ := hd2 q0
    have hp2 := (k3 q).2
    have e1 := g02.2.2.2.1; have e2 := g02.2.2.2.2
    have hT2 := z2.1.2.1
    refine Rt.bn (exp_ hV z2 (fun _ => hb q0) hd (fun _ => ⟨by omega, by omega⟩) (by omega) (by omega)) (fun S3 r3 q3 => ?_)
    obtain ⟨p3, b3, o, e3, z3, g3, k4, k5, k6, k7, k8⟩ := q3
    subst e3
    have s3 := (s0.ss g02).cl g3 (show e < Zz S2 by omega) (z1 := 8 * (p3 - p2) + 3) (n1 := 120 * (p3 - p2) + 48) (by omega) (by omega)
    refine Rt.pv s3 z3 (by rw [hl]; decide) (show va_rf (some o) = .ref o from rfl) (fun S4 s4 z4 u4 => ?_)
    refine h58 S4 p3 b3 (fs.set 8 (.ref o)) z4 (s4.le (by omega) (by omega)) (by omega) (by rw [List.length_set]; exact hl) (fun q4 => ?_)
    have q3 : Zi S3 3 = 0 := by rw [← u4.2.2.2.2.1]; exact q4
    obtain ⟨c1, c2⟩ := k8 q3
    have c3 := isE_mem c2
    refine ⟨c1, by omega, o, p2, p3, rfl, by omega, by omega, isE_im (iv_ex (by omega) (by rw [u4.2.2.1]; omega) (fun a h1 h2 => u4.1 a (by omega))) _ (by omega) c2⟩
  unfold f_enterBracket
  have hno : Rt (f_enterBracket_27 K V V2 S (some e)) (fun S2 _ => EP K T S pp ns vv bb e (fun S2 pp2 bb2 fs2 => ∃ o p' q' : Nat, fs2 = fs.set 8 (.ref o) ∧ pp < p' ∧ q' ≤ pp2 ∧ isE (iv (Zz S) (Zz S2)) (ZF S2) (K.1 9) (K.1 0) (24 * (16 - ns)) (16 - ns) o p' q' bb bb2) S2) ∨ (Zi S 3 = 0 ∧ Zr S 5 pp = 61) := by
    by_cases hk : Zi S 3 = 0 ∧ Zr S 5 pp = 61
    · exact Or.inr hk
    · left
      unfold f_enterBracket_27
      refine Rt.ni z (fun S1 g1 z1 i1 => ?_)
      -- no bracket here: a fault, or there was one
      unfold f_enterBracket_37
      refine Rt.bn (take_ z1 (by decide)) (fun S2 _ q2 => ?_)
      obtain ⟨p2, z2, g2, k1, k2, k3⟩ := q2
      have g02 := g1.tr g2
      refine Rt.ok (fun q => ?_) (fun q => h58 S2 p2 bb fs z2 ((s0.ss g02).le (by omega) (by omega)) (by omega) hl (fun z => absurd z q))
      refine absurd ⟨g02.1.2.2.2.2.2 q, ?_⟩ hk
      rw [← g1.1.2.1.1]; exact (k3 q).1
  refine Rt.ok (fun q => Rt.is z (fun hk => ?_) (fun hk => hno.resolve_right (fun h => hk h.2))) (fun q => hno.resolve_right (fun h => q h.1))
  rw [z.1.1]
  refine Rt.bn (enter_ z (by omega)) (fun S1 _ q1 => ?_)
  exact h37 S1 q1.2.1 q1.1 q1.2.2
end EXL
end
-- k4.e.lean.txt
section
theorem set3 {l : List Value} {a b c a2 b2 c2 : Value} : (((((l.set 9 a).set 10 b).set 11 c).set 9 a2).set 10 b2).set 11 c2 = ((l.set 9 a2).set 10 b2).set 11 c2 := by
  refine List.ext_getElem? (fun i => ?_)
  by_cases h1 : 11 = i
  · subst h1; simp [List.getElem?_set]
  · by_cases h2 : 10 = i
    · subst h2; simp [List.getElem?_set]
    · by_cases h3 : 9 = i
      · subst h3; simp [List.getElem?_set]
      · simp [List.getElem?_set, h1, h2, h3]
/-- the exps of e that were read since S: n of them, closed cells L -/
def RD (K : Ky) (N kq z : Nat) (S S1 : Sg) (e : Nat) (fs : List Value) (n cp p0 q0 bb b1 : Nat) : Prop := ∃ (f : Nat → Option Nat) (g : Nat → Int32) (L : List Nat) (fs1 : List Value), e ∈ ZL S1 ∧ ZF S1 e = .inr (15, fs1) ∧ e ∉ L ∧ ((n = 0 ∧ cp = 0 ∧ fs1 = fs) ∨ ∃ la sa : Nat, fs1 = ((fs.set 9 (.ref la)).set 10 (.ref sa)).set 11 (.int (nI n)) ∧ rwS K S1 la sa cp f g ∧ 1 ≤ n ∧ n ≤ cp ∧ Zz S ≤ la ∧ Zz S ≤ sa ∧ la ∉ L ∧ sa ∉ L) ∧ cp ≤ 4 + 2 * n ∧ (∀ a ∈ L, Zz S ≤ a ∧ a < Zz S1) ∧ (∀ i : Nat, i < n → ∃ y : Nat, f i = some y ∧ okO S1 15 (some y) = true) ∧ (Zi S1 3 = 0 → chP z (isE L (ZF S1) (K.1 9) (K.1 0) N kq) f g n p0 q0 bb b1)
section RDL
variable {K : Ky} {T N kq z n cp p0 q0 bb b1 e x pp1 pp2 ns vv b2 N1 : Nat} {S S1 S2 : Sg} {fs : List Value} {X : Nat → Prop} {sg : Int32}
/-- one exp more -/
theorem rstep (hX : e < Zz S → X e) (hl : fs.length = 14) (h9 : fs[9]? = some .null) (h10 : fs[10]? = some .null) (h11 : fs[11]? = some (.int (nI 0))) (hR : RD K N kq z S S1 e fs n cp p0 q0 bb b1) (hg : GR X S S1) (hz1 : ∀ a ∈ ZL S1, a < Zz S1) (z2 : RZ S2 T pp2 ns vv b2) (g2 : GR nX S1 S2) (hx : Zz S1 ≤ x ∧ x < Zz S2 ∧ ∃ vs : List Value, ZF S2 x = .inr (15, vs)) (hxE : Zi S2 3 = 0 → isE (iv (Zz S1) (Zz S2)) (ZF S2) (K.1 9) (K.1 0) N1 kq x pp1 pp2 b1 b2) (hN : N1 ≤ N) (hs : Zi S2 3 = 0 → q0 < pp1 ∧ ∃ s : Nat, sg = nI s ∧ ((s = 0 ∧ z = 0) ∨ (q0 ≤ s ∧ s < pp1))) (hn : n ≤ 3000) (r1 : Zz S2 + 2 ≤ K.2.1) (r2 : Zn S2 + 8 + 4 * n ≤ K.2.2) : Rt (f_add K S2 (some e) (some x) sg) (fun S3 _ => ∃ cp3 : Nat, RD K N kq z S S3 e fs (n + 1) cp3 p0 pp2 bb b2 ∧ GR X S S3 ∧ RZ S3 T pp2 ns vv b2 ∧ Zi S3 = Zi S2 ∧ Zz S3 ≤ Zz S2 + 2 ∧ Zn S3 + 4 * cp ≤ Zn S2 + 4 * cp3 ∧ cp ≤ cp3) := by
  obtain ⟨f, g, L, fs1, he1, hF1, heL, hrow, hcp, hL, hy, hch⟩ := hR
  have hez := hz1 e he1
  have he2 := g2.in he1
  have hF2 : ZF S2 e = .inr (15, fs1) := (g2.2.2.1 e hez (fun q => q)).trans hF1
  have h12 := g2.2.2.2.2.1.1
  have h01 := hg.2.2.2.2.1.1
  have hl1 : fs1.length = 14 := by
    rcases hrow with ⟨_, _, q⟩ | ⟨la, sa, q, _⟩
    · rw [q]; exact hl
    · rw [q, List.length_set, List.length_set, List.length_set]; exact hl
  have h111 : fs1[11]? = some (.int (nI n)) := by
    rcases hrow with ⟨q0, _, q⟩ | ⟨la, sa, q, _⟩
    · rw [q, q0]; exact h11
    · rw [q, List.getElem?_set_self (by rw [List.length_set, List.length_set, hl]; decide)]
  have hxo : okO S2 15 (some x) = true := by
    obtain ⟨vs, hv⟩ := hx.2.2
    exact okO_mk ((g2.2.2.2.1 x).mpr (Or.inr ⟨hx.1, hx.2.1⟩)) hv
  have hy2 : ∀ i : Nat, i < n → ∃ y : Nat, f i = some y ∧ okO S2 15 (some y) = true := fun i hi => by
    obtain ⟨y, y1, y2⟩ := hy i hi
    obtain ⟨y3, vs, y4⟩ := okO_of y2
    exact ⟨y, y1, okO_mk (g2.in y3) ((g2.2.2.1 y (hz1 y y3) (fun q => q)).trans y4)⟩
  -- cells that add may write
  let Y : Nat → Prop := fun b => b = e ∨ fs1[9]? = some (.ref b) ∨ fs1[10]? = some (.ref b)
  have hrow2 : (n = 0 ∧ cp = 0 ∧ fs1[9]? = some .null) ∨ (∃ la sa : Nat, fs1[9]? = some (.ref la) ∧ fs1[10]? = some (.ref sa) ∧ rwS K S2 la sa cp f g ∧ n ≤ cp ∧ 1 ≤ n ∧ Y la ∧ Y sa) := by
    rcases hrow with ⟨q1, q2, q3⟩ | ⟨la, sa, q1, q2, q3, q4, q5, q6, q7, q8⟩
    · exact Or.inl ⟨q1, q2, by rw [q3]; exact h9⟩
    · have e9 : fs1[9]? = some (.ref la) := by rw [q1, List.getElem?_set_ne (by decide), List.getElem?_set_ne (by decide), List.getElem?_set_self (by rw [hl]; decide)]
      have e10 : fs1[10]? = some (.ref sa) := by rw [q1, List.getElem?_set_ne (by decide), List.getElem?_set_self (by rw [List.length_set, hl]; decide)]
      obtain ⟨t1, t2, t3, t4⟩ := q2
      exact Or.inr ⟨la, sa, e9, e10, ⟨g2.in t1, g2.in t2, (g2.2.2.1 la (hz1 _ t1) (fun q => q)).trans t3, (g2.2.2.1 sa (hz1 _ t2) (fun q => q)).trans t4⟩, q4, q3, Or.inr (Or.inl e9), Or.inr (Or.inr e10)⟩
  -- such a cell is no closed one
  have hYL : ∀ b : Nat, Y b → b ∉ L ∧ b < Zz S1 ∧ (b = e ∨ Zz S ≤ b) := fun b hb => by
    rcases hb with rfl | hb | hb
    · exact ⟨heL, hez, Or.inl rfl⟩
    · rcases hrow with ⟨q1, q2, q3⟩ | ⟨la, sa, q1, q2, q3, q4, q5, q6, q7, q8⟩
      · rw [q3, h9] at hb; cases hb
      · rw [q1, List.getElem?_set_ne (by decide), List.getElem?_set_ne (by decide), List.getElem?_set_self (by rw [hl]; decide)] at hb
        cases hb; exact ⟨q7, hz1 _ q2.1, Or.inr q5⟩
    · rcases hrow with ⟨q1, q2, q3⟩ | ⟨la, sa, q1, q2, q3, q4, q5, q6, q7, q8⟩
      · rw [q3, h10] at hb; cases hb
      · rw [q1, List.getElem?_set_ne (by decide), List.getElem?_set_self (by rw [List.length_set, hl]; decide)] at hb
        cases hb; exact ⟨q8, hz1 _ q2.2.1, Or.inr q6⟩
  refine Rt.mo (add_ (X := Y) z2.2.2.2.2 he2 hF2 hl1 h111 (by omega) hxo (Or.inl rfl) hrow2 hy2 hcp r1 r2) (fun S3 _ q => ?_)
  obtain ⟨la, sa, cp3, f2, g3, a1, a2, a3, a4, a5, a6, a7, a8, a9, a10, a11, a12, a13, a14⟩ := q
  have h23 := a2.2.2.2.2.1.1
  have hne : ∀ {b : Nat} {r : ClassId × vp_A}, ZF S3 b = .inl r → b ≠ e := fun hb q => by rw [q, a3] at hb; cases hb
  have hXX : ∀ b : Nat, b < Zz S → Y b → X b := fun b hb q => by
    rcases (hYL b q).2.2 with rfl | h
    · exact hX hb
    · omega
  have hbase : ∀ {b : Nat}, (Y b ∨ Zz S2 ≤ b) → b ≠ e → Zz S ≤ b ∧ b ∉ L ++ iv (Zz S1) (Zz S2) := fun {b} h hne => by
    rcases h with h | h
    · obtain ⟨c1, c2, c3⟩ := hYL b h
      refine ⟨c3.resolve_left hne, fun q => ?_⟩
      rcases List.mem_append.mp q with q | q
      · exact c1 q
      · have := (iv_m.mp q).1; omega
    · refine ⟨by omega, fun q => ?_⟩
      rcases List.mem_append.mp q with q | q
      · have := (hL b q).2; omega
      · have := (iv_m.mp q).2; omega
  have hcl : ∀ b ∈ L ++ iv (Zz S1) (Zz S2), ZF S3 b = ZF S2 b := fun b hb => by
    refine a2.2.2.1 b ?_ (fun q => ?_)
    · rcases List.mem_append.mp hb with q | q
      · have := (hL b q).2; omega
      · exact (iv_m.mp q).2
    · obtain ⟨c1, c2, _⟩ := hYL b q
      rcases List.mem_append.mp hb with q | q
      · exact c1 q
      · have := (iv_m.mp q).1; omega
  refine ⟨cp3, ⟨f2, g3, L ++ iv (Zz S1) (Zz S2), _, a2.in he2, a3, fun q => ?_, Or.inr ⟨la, sa, ?_, a4, by omega, a5, (hbase a11 (hne a4.2.2.1)).1, (hbase a12 (hne a4.2.2.2)).1, (hbase a11 (hne a4.2.2.1)).2, (hbase a12 (hne a4.2.2.2)).2⟩, by omega, fun a ha => ?_, fun i hi => ?_, fun q3 => ?_⟩, (hg.n g2).tr a2 hXX, ?_, a1, a13, a14, a7⟩
  · rcases List.mem_append.mp q with q | q
    · exact heL q
    · have := (iv_m.mp q).1; omega
  · rcases hrow with ⟨_, _, q⟩ | ⟨la1, sa1, q, _⟩
    · rw [q]
    · rw [q, set3]
  · rcases List.mem_append.mp ha with q | q
    · have := hL a q; exact ⟨this.1, by omega⟩
    · have := iv_m.mp q; exact ⟨by omega, by omega⟩
  · have key : ∀ {y : Nat}, okO S2 15 (some y) = true → okO S3 15 (some y) = true := fun {y} h => by
      obtain ⟨y1, vs, y2⟩ := okO_of h
      by_cases ey : y = e
      · subst ey; exact okO_mk (a2.in y1) a3
      · refine okO_mk (a2.in y1) ((a2.2.2.1 y (z2.2.2.2.2 y y1) (fun q => ?_)).trans y2)
        rcases q with q | q | q
        · exact ey q
        · rcases hrow2 with ⟨_, _, w⟩ | ⟨la1, sa1, w1, w2, w3, _⟩
          · rw [w] at q; cases q
          · rw [w1] at q; cases q; exact ne_or y2 w3.2.2.1 rfl
        · rcases hrow2 with ⟨w0, _, w⟩ | ⟨la1, sa1, w1, w2, w3, _⟩
          · rcases hrow with ⟨_, _, w5⟩ | ⟨_, _, _, _, w5, _⟩
            · rw [w5, h10] at q; cases q
            · omega
          · rw [w2] at q; cases q; exact ne_or y2 w3.2.2.2 rfl
    by_cases ei : i = n
    · subst ei; exact ⟨x, a9, key hxo⟩
    · obtain ⟨y, y1, y2⟩ := hy2 i (by omega)
      exact ⟨y, (a8 i (by omega)).1.trans y1, key y2⟩
  · have q2 : Zi S2 3 = 0 := by rw [← a1]; exact q3
    have q1 : Zi S1 3 = 0 := g2.2.2.2.2.2 q2
    obtain ⟨c1, s, c2, c3⟩ := hs q2
    have hx1 : exS L (ZF S1) (L ++ iv (Zz S1) (Zz S2)) (ZF S3) := fun b hb => ⟨List.mem_append_left _ hb, (hcl b (List.mem_append_left _ hb)).trans (g2.2.2.1 b (hL b hb).2 (fun q => q))⟩
    have hx2 : exS (iv (Zz S1) (Zz S2)) (ZF S2) (L ++ iv (Zz S1) (Zz S2)) (ZF S3) := fun b hb => ⟨List.mem_append_right _ hb, hcl b (List.mem_append_right _ hb)⟩
    exact chP_add (chP_im (fun x p q b c w => isE_im hx1 _ (Nat.le_refl _) w) (hch q1)) a8 a9 (a10.trans c2) c1 (isE_im hx2 _ hN (hxE q2)) c3
  · exact ⟨⟨by rw [a1]; exact z2.1.1, z2.1.2.1, z2.1.2.2.1, by rw [a2.2.1.1]; exact z2.1.2.2.2⟩, by rw [a1]; exact z2.2.1, by rw [a1]; exact z2.2.2.1, by rw [a1]; exact z2.2.2.2.1, a2.lt z2.2.2.2.2⟩
end RDL
end
-- k4.f.lean.txt
section
section RDM
variable {K : Ky} {T N kq z n cp p0 q0 bb b1 e ns vv d pp : Nat} {S S1 : Sg} {fs : List Value} {V : Sg → Int32 → Option (Sg × Option Nat)} {V2 : Sg → Option (Sg × Option Nat)}
theorem RD.len (h : RD K N kq z S S1 e fs n cp p0 q0 bb b1) (hl : fs.length = 14) : e ∈ ZL S1 ∧ cp ≤ 4 + 2 * n ∧ ∃ fs1 : List Value, ZF S1 e = .inr (15, fs1) ∧ fs1.length = 14 := by
  obtain ⟨f, g, L, fs1, h1, h2, h3, h4, h5, _⟩ := h
  refine ⟨h1, h5, fs1, h2, ?_⟩
  rcases h4 with ⟨_, _, q⟩ | ⟨la, sa, q, _⟩
  · rw [q]; exact hl
  · rw [q, List.length_set, List.length_set, List.length_set]; exact hl
theorem RD.z0 (h : RD K N kq z S S1 e fs n cp p0 q0 bb b1) : n = 0 → cp = 0 := by
  obtain ⟨f, g, L, fs1, h1, h2, h3, h4, _⟩ := h
  intro q
  rcases h4 with ⟨_, q, _⟩ | ⟨la, sa, _, _, w, _⟩
  · exact q
  · omega
theorem RD.ss {S2 : Sg} (h : RD K N kq z S S1 e fs n cp p0 q0 bb b1) (g : SS S1 S2) : RD K N kq z S S2 e fs n cp p0 q0 bb b1 := by
  obtain ⟨f, g0, L, fs1, h1, h2, h3, h4, h5, h6, h7, h8⟩ := h
  refine ⟨f, g0, L, fs1, by rw [g.2.2.1]; exact h1, by rw [g.2.1]; exact h2, h3, ?_, h5, by rw [g.2.2.2.1]; exact h6, fun i hi => ?_, fun q => by rw [g.2.1]; exact h8 (g.1.2.2.2.2.2 q)⟩
  · rcases h4 with h4 | ⟨la, sa, q1, q2, q3⟩
    · exact Or.inl h4
    · refine Or.inr ⟨la, sa, q1, ?_, q3⟩
      obtain ⟨t1, t2, t3, t4⟩ := q2
      exact ⟨by rw [g.2.2.1]; exact t1, by rw [g.2.2.1]; exact t2, by rw [g.2.1]; exact t3, by rw [g.2.1]; exact t4⟩
  · obtain ⟨y, y1, y2⟩ := h7 i hi
    obtain ⟨y3, vs, y4⟩ := okO_of y2
    exact ⟨y, y1, okO_mk (by rw [g.2.2.1]; exact y3) (by rw [g.2.1]; exact y4)⟩
/-- nothing was read yet -/
theorem RD.beg (he : e ∈ ZL S1) (hF : ZF S1 e = .inr (15, fs)) (hp : p0 ≤ q0) : RD K N kq z S S1 e fs 0 0 p0 q0 bb bb := ⟨fun _ => none, fun _ => 0, [], fs, he, hF, List.not_mem_nil, Or.inl ⟨rfl, rfl, rfl⟩, by omega, fun a ha => absurd ha List.not_mem_nil, fun i hi => absurd hi (by omega), fun _ => chP_0 hp⟩
/-- without a fault: a row of exps -/
theorem RD.ql (hz1 : ∀ a ∈ ZL S1, a < Zz S1) (h : RD K N kq z S S1 e fs n cp p0 q0 bb b1) (h9 : fs[9]? = some .null) (h10 : fs[10]? = some .null) (h11 : fs[11]? = some (.int (nI 0))) (hz : Zi S1 3 = 0) : ∃ (li si : Value) (fs1 : List Value), ZF S1 e = .inr (15, fs1) ∧ fs1 = ((fs.set 9 li).set 10 si).set 11 (.int (nI n)) ∧ ∀ q : Nat, q0 ≤ q → isQl z (isE (iv (Zz S) (Zz S1)) (ZF S1) (K.1 9) (K.1 0) N kq) (iv (Zz S) (Zz S1)) (ZF S1) (K.1 9) (K.1 0) li si n p0 q bb b1 := by
  obtain ⟨f, g, L, fs1, h1, h2, h3, h4, h5, h6, h7, h8⟩ := h
  have hch := h8 hz
  rcases h4 with ⟨q1, q2, q3⟩ | ⟨la, sa, q1, q2, q3, q4, q5, q6, q7, q8⟩
  · refine ⟨.null, .null, fs1, h2, ?_, fun q hq => Or.inl ⟨q1, rfl, ?_, ?_⟩⟩
    · rw [q3, set_self h9, set_self h10, q1, set_self h11]
    · obtain ⟨ps, bs, c1, c2, c3, c4, _⟩ := hch; rw [q1] at c4; exact c3.symm.trans c4
    · obtain ⟨ps, bs, c1, c2, c3, c4, _⟩ := hch; rw [q1] at c2; omega
  · obtain ⟨t1, t2, t3, t4⟩ := q2
    have hx : exS L (ZF S1) (iv (Zz S) (Zz S1)) (ZF S1) := fun a ha => ⟨iv_m.mpr (h6 a ha), rfl⟩
    refine ⟨.ref la, .ref sa, fs1, h2, q1, fun q hq => Or.inr ⟨la, sa, cp, q0, f, g, rfl, rfl, iv_m.mpr ⟨q5, hz1 _ t1⟩, iv_m.mpr ⟨q6, hz1 _ t2⟩, t3, t4, q4, hq, chP_im (fun x p q b c w => isE_im hx _ (Nat.le_refl _) w) hch⟩⟩
/-- a list of exps: its end -/
theorem lst92 (hl : fs.length = 14) (h9 : fs[9]? = some .null) (h10 : fs[10]? = some .null) (h11 : fs[11]? = some (.int (nI 0))) {cm p1 : Nat} (hz1 : ∀ a ∈ ZL S1, a < Zz S1) (hR : RD K N kq 0 S S1 e fs n cp pp q0 bb b1) (hg : GR (fun b => b = e) S S1) (z1 : RZ S1 T p1 (ns + 1) vv b1) (h1 : pp ≤ p1 ∧ bb ≤ b1 ∧ b1 ≤ bb + (p1 - pp)) (h2 : Zz S1 + 3 * n + 8 * cm ≤ Zz S + 8 * (p1 - pp)) (h3 : Zn S1 + 64 * n + 120 * cm ≤ Zn S + 120 * (p1 - pp) + 4 * cp) (hkq : Zi S1 3 = 0 → 16 - ns = kq + 1) (h4 : Zi S1 3 = 0 → b1 ≤ 54 ∧ pp < p1 ∧ q0 ≤ p1) : Rt (f_list_92 K V V2 S1) (fun S2 _ => EP K T S pp ns vv bb e (fun S2 pp2 bb2 fs2 => ∃ (li si : Value) (mn : Nat), fs2 = ((fs.set 9 li).set 10 si).set 11 (.int (nI mn)) ∧ isQk 0 (16 - ns) (isE (iv (Zz S) (Zz S2)) (ZF S2) (K.1 9) (K.1 0) N) (iv (Zz S) (Zz S2)) (ZF S2) (K.1 9) (K.1 0) li si mn pp pp2 bb bb2) S2) := by
  unfold f_list_92
  refine Rt.nd z1 (fun S5 g5 z5 i5 => Rt.bn (take_ z5 (by decide)) (fun S6 _ q6 => Rt.rt ?_))
  obtain ⟨p6, z6, g6, k1, k2, k3⟩ := q6
  have g16 := g5.tr g6
  obtain ⟨c1, c2, fs1, c3, c4⟩ := hR.len hl
  have c5 := hR.z0
  have s1 : St (fun b => b = e) S S1 e (.inr (15, fs1)) (8 * (p1 - pp)) (120 * (p1 - pp)) := ⟨hg, fun _ => rfl, c1, c3, by omega, by rcases Nat.eq_zero_or_pos n with q | q <;> omega⟩
  refine ⟨p6, b1, fs1, z6, (s1.ss g16).le (by omega) (by omega), by omega, c4, fun q => ?_⟩
  have q1 : Zi S1 3 = 0 := by rw [← i5]; exact g6.1.2.2.2.2.2 q
  obtain ⟨d1, d2, d3⟩ := h4 q1
  obtain ⟨li, si, fs3, e1, e2, e3⟩ := RD.ql hz1 hR h9 h10 h11 q1
  refine ⟨d1, by omega, li, si, n, ?_, ?_⟩
  · rw [c3] at e1; cases e1; exact e2
  · rw [g16.2.1, g16.2.2.2.1]; exact ⟨kq, Or.inl (hkq q1), e3 p6 (by omega)⟩
/-- .. its loop -/
theorem lst62 (hV : HVc K T V d) (hb : bb ≤ 54) (hd : 7 ≤ d) (hn16 : ns + 1 ≤ 16 ∧ 7 * (17 - ns) ≤ d) (r1 : Zz S + 8 * (T - pp) + 3 ≤ K.2.1) (r2 : Zn S + 120 * (T - pp) + 280 ≤ K.2.2) (hez : e < Zz S) (hl : fs.length = 14) (h9 : fs[9]? = some .null) (h10 : fs[10]? = some .null) (h11 : fs[11]? = some (.int (nI 0))) (hN : 24 * (16 - ns) = N) (hq : 15 - ns = kq) : ∀ (m : Nat) {S1 : Sg} {p1 b1 n cp q0 cm : Nat} {mo : Int32}, 1 ≤ m → (Zi S1 3 = 0 → T + 1 ≤ p1 + m) → RD K N kq 0 S S1 e fs n cp pp q0 bb b1 → GR (fun b => b = e) S S1 → RZ S1 T p1 (ns + 1) vv b1 → (pp ≤ p1 ∧ bb ≤ b1 ∧ b1 ≤ bb + (p1 - pp)) → Zz S1 + 3 * n + 8 * cm ≤ Zz S + 8 * (p1 - pp) → Zn S1 + 64 * n + 120 * cm ≤ Zn S + 120 * (p1 - pp) + 4 * cp → pp + n + cm ≤ p1 → (Zi S1 3 = 0 → b1 ≤ 54 ∧ pp < p1 ∧ ((mo = 0 ∧ q0 ≤ p1) ∨ (mo ≠ 0 ∧ cm = 1 ∧ q0 < p1))) → Rt (f_list_62 K V V2 m S1 (some e) mo) (fun S2 _ => EP K T S pp ns vv bb e (fun S2 pp2 bb2 fs2 => ∃ (li si : Value) (mn : Nat), fs2 = ((fs.set 9 li).set 10 si).set 11 (.int (nI mn)) ∧ isQk 0 (16 - ns) (isE (iv (Zz S) (Zz S2)) (ZF S2) (K.1 9) (K.1 0) N) (iv (Zz S) (Zz S2)) (ZF S2) (K.1 9) (K.1 0) li si mn pp pp2 bb bb2) S2)
  | 0, _, _, _, _, _, _, _, _, h, _, _, _, _, _, _, _, _, _ => absurd h (by omega)
  | m + 1, S1, p1, b1, n, cp, q0, cm, mo, _, hm, hR, hg, z1, k1, k2, k3, k4, k5 => by
    unfold f_list_62
    refine Rt.ok (fun q1 => ?_) (fun q1 => lst92 hl h9 h10 h11 (cm := cm) z1.2.2.2.2 hR hg z1 k1 k2 k3 (fun _ => by omega) (fun q => absurd q q1))
    obtain ⟨c1, c2, c3⟩ := k5 q1
    have hT1 := z1.1.2.1; have hT := z1.1.2.2.1
    refine Rt.it (fun hmo => ?_) (fun hmo => ?_)
    · refine lst92 hl h9 h10 h11 (cm := cm) z1.2.2.2.2 hR hg z1 k1 k2 k3 (fun _ => by omega) (fun _ => ⟨c1, c2, ?_⟩)
      rcases c3 with ⟨_, c3⟩ | ⟨c3, _⟩
      · exact c3
      · exact absurd hmo c3
    · obtain ⟨c4, c5⟩ := (c3.resolve_left (fun w => hmo w.1)).2
      subst c4
      obtain ⟨_, hcp, _⟩ := hR.len hl
      have hm1 := hm q1
      refine Rt.bn (exp_ hV z1 (fun _ => c1) hd (fun _ => ⟨by omega, by omega⟩) (by omega) (by omega)) (fun S2 r2 q2 => ?_)
      obtain ⟨p2, b2, x, e2, z2, g2, w1, w2, w3, w4, w5⟩ := q2
      subst e2
      have hT2 := z2.1.2.1
      refine Rt.bn (rstep (X := fun b => b = e) (fun _ => rfl) hl h9 h10 h11 hR hg z1.2.2.2.2 z2 g2 w4 (fun q => isE_im exS.rf _ (Nat.le_refl _) (w5 q).2) (show 24 * (16 - (ns + 1)) + 23 ≤ N by omega) (fun q => ⟨c5, 0, rfl, Or.inl ⟨rfl, rfl⟩⟩) (by omega) (by omega) (by omega)) (fun S3 _ q3 => ?_)
      obtain ⟨cp3, v1, v2, v3, v4, v5, v6, v7⟩ := q3
      refine Rt.bn (takes_ v3 (by decide)) (fun S4 r4 q4 => ?_)
      obtain ⟨p4, z4, g4, i4, q4⟩ := q4
      have hR4 := v1.ss g4
      have hg4 := v2.n g4.1
      have y1 := g4.2.2.2.1; have y2 := g4.2.2.2.2
      have hgood : Zi S4 3 = 0 → b2 ≤ 54 ∧ p1 < p2 := fun q => by
        have q2 : Zi S2 3 = 0 := by rw [← v4, ← i4]; exact q
        exact ⟨(w5 q2).1, (isE_mem (w5 q2).2).2⟩
      rcases q4 with ⟨e4, e5, e6⟩ | ⟨e4, e5, e6, e7⟩
      · subst e4 e5
        refine lst62 hV hb hd hn16 r1 r2 hez hl h9 h10 h11 hN hq m (cm := 0) (by omega) (fun q => ?_) hR4 hg4 z4 (by omega) (by omega) (by omega) (by omega) (fun q => ⟨(hgood q).1, by have := (hgood q).2; omega, Or.inl ⟨rfl, Nat.le_refl _⟩⟩)
        have := (hgood q).2; omega
      · subst e4 e5
        refine lst62 hV hb hd hn16 r1 r2 hez hl h9 h10 h11 hN hq m (cm := 1) (by omega) (fun q => ?_) hR4 hg4 z4 (by omega) (by omega) (by omega) (by omega) (fun q => ⟨(hgood q).1, by have := (hgood q).2; omega, Or.inr ⟨by decide, rfl, by omega⟩⟩)
        have := (hgood q).2; omega
/-- list -/
theorem lst_ (hV : HVc K T V d) (h : RZ S T pp ns vv bb) (hb : Zi S 3 = 0 → bb ≤ 54) (hd : 7 ≤ d) (hd2 : Zi S 3 = 0 → ns ≤ 16 ∧ 7 * (17 - ns) ≤ d) (hn : ns ≤ 99) (r1 : Zz S + 8 * (T - pp) + 3 ≤ K.2.1) (r2 : Zn S + 120 * (T - pp) + 280 ≤ K.2.2) (he : e ∈ ZL S) (hF : ZF S e = .inr (15, fs)) (hl : fs.length = 14) (h9 : fs[9]? = some .null) (h10 : fs[10]? = some .null) (h11 : fs[11]? = some (.int (nI 0))) {kd : Int32} (h0 : fs[0]? = some (.int kd)) : Rt (f_list K V V2 S (some e)) (fun S2 _ => EP K T S pp ns vv bb e (fun S2 pp2 bb2 fs2 => ∃ (li si : Value) (mn : Nat), fs2 = ((fs.set 9 li).set 10 si).set 11 (.int (nI mn)) ∧ isQk 0 (16 - ns) (isE (iv (Zz S) (Zz S2)) (ZF S2) (K.1 9) (K.1 0) (24 * (16 - ns))) (iv (Zz S) (Zz S2)) (ZF S2) (K.1 9) (K.1 0) li si mn pp pp2 bb bb2) S2) := by
  have hp := h.1.2.1; have hT := h.1.2.2.1
  have hez := h.2.2.2.2 e he
  have h37 : ∀ S1 : Sg, SS S S1 → RZ S1 T pp (ns + 1) vv bb → (Zi S1 3 = 0 → ns ≠ 16 ∨ ¬ Zr S 5 pp = 61) → Rt (f_list_37 K V V2 S1 (some e)) (fun S2 _ => EP K T S pp ns vv bb e (fun S2 pp2 bb2 fs2 => ∃ (li si : Value) (mn : Nat), fs2 = ((fs.set 9 li).set 10 si).set 11 (.int (nI mn)) ∧ isQk 0 (16 - ns) (isE (iv (Zz S) (Zz S2)) (ZF S2) (K.1 9) (K.1 0) (24 * (16 - ns))) (iv (Zz S) (Zz S2)) (ZF S2) (K.1 9) (K.1 0) li si mn pp pp2 bb bb2) S2) := fun S1 g1 z1 h1 => by
    unfold f_list_37
    refine Rt.bn (take_ z1 (by decide)) (fun S2 _ q2 => ?_)
    obtain ⟨p2, z2, g2, k1, k2, k3⟩ := q2
    have g02 := g1.tr g2
    have e1 := g02.2.2.2.1; have e2 := g02.2.2.2.2
    have he2 : e ∈ ZL S2 := by rw [g02.2.2.1]; exact he
    have hF2 : ZF S2 e = .inr (15, fs) := by rw [g02.2.1]; exact hF
    have hgd : Zi S2 3 = 0 → bb ≤ 54 ∧ p2 = pp + 1 ∧ ns + 1 ≤ 16 ∧ 7 * (17 - ns) ≤ d := fun q => by
      have q1 : Zi S1 3 = 0 := g2.1.2.2.2.2.2 q
      have q0 : Zi S 3 = 0 := g1.1.2.2.2.2.2 q1
      have := hd2 q0; have hk := k3 q
      have hk1 : Zr S 5 pp = 61 := by rw [← g1.1.2.1.1]; exact hk.1
      have h16 := (h1 q1).resolve_right (fun w => w hk1)
      exact ⟨hb q0, hk.2, by omega, by omega⟩
    refine Rt.bd (oI_mk he2 hF2 h0) ?_
    have h92 : Rt (f_list_92 K V V2 S2) (fun S2 _ => EP K T S pp ns vv bb e (fun S2 pp2 bb2 fs2 => ∃ (li si : Value) (mn : Nat), fs2 = ((fs.set 9 li).set 10 si).set 11 (.int (nI mn)) ∧ isQk 0 (16 - ns) (isE (iv (Zz S) (Zz S2)) (ZF S2) (K.1 9) (K.1 0) (24 * (16 - ns))) (iv (Zz S) (Zz S2)) (ZF S2) (K.1 9) (K.1 0) li si mn pp pp2 bb bb2) S2) := lst92 (N := 24 * (16 - ns)) (kq := 15 - ns) (n := 0) (cp := 0) (q0 := pp) (cm := 0) hl h9 h10 h11 z2.2.2.2.2 (RD.beg he2 hF2 (Nat.le_refl _)) (g02.1.mo (fun _ _ q => q.elim)) z2 (by omega) (by omega) (by omega) (fun q => by have := (hgd q).2.2.1; omega) (fun q => ⟨(hgd q).1, by have := (hgd q).2.1; omega, by omega⟩)
    have h60 : Rt (f_list_60 K V V2 S2 (some e)) (fun S2 _ => EP K T S pp ns vv bb e (fun S2 pp2 bb2 fs2 => ∃ (li si : Value) (mn : Nat), fs2 = ((fs.set 9 li).set 10 si).set 11 (.int (nI mn)) ∧ isQk 0 (16 - ns) (isE (iv (Zz S) (Zz S2)) (ZF S2) (K.1 9) (K.1 0) (24 * (16 - ns))) (iv (Zz S) (Zz S2)) (ZF S2) (K.1 9) (K.1 0) li si mn pp pp2 bb bb2) S2) := by
      unfold f_list_60
      by_cases q : Zi S2 3 = 0
      · obtain ⟨c1, c2, c3, c4⟩ := hgd q
        exact lst62 hV c1 hd ⟨c3, c4⟩ r1 r2 hez hl h9 h10 h11 rfl rfl bigN (n := 0) (cp := 0) (q0 := pp) (cm := 1) (by decide) (fun _ => by show T + 1 ≤ p2 + 1000000000000; omega) (RD.beg he2 hF2 (Nat.le_refl _)) (g02.1.mo (fun _ _ q => q.elim)) z2 (by omega) (by omega) (by omega) (by omega) (fun _ => ⟨c1, by omega, Or.inr ⟨by decide, rfl, by omega⟩⟩)
      · obtain ⟨m, em, _⟩ := bigN_gt (n := 0) (by decide)
        rw [em]
        unfold f_list_62
        exact Rt.be (ok_0 q) (Rt.ip rfl h92)
    exact Rt.it (fun _ => Rt.is z2 (fun _ => h92) (fun _ => h60)) (fun _ => h60)
  unfold f_list
  have h27 : (Zi S 3 = 0 → ¬ Zr S 5 pp = 61) → Rt (f_list_27 K V V2 S (some e)) (fun S2 _ => EP K T S pp ns vv bb e (fun S2 pp2 bb2 fs2 => ∃ (li si : Value) (mn : Nat), fs2 = ((fs.set 9 li).set 10 si).set 11 (.int (nI mn)) ∧ isQk 0 (16 - ns) (isE (iv (Zz S) (Zz S2)) (ZF S2) (K.1 9) (K.1 0) (24 * (16 - ns))) (iv (Zz S) (Zz S2)) (ZF S2) (K.1 9) (K.1 0) li si mn pp pp2 bb bb2) S2) := fun hk => by
    unfold f_list_27
    exact Rt.ni h (fun S1 g1 z1 i1 => h37 S1 g1 z1 (fun q => Or.inr (hk (by rw [← i1]; exact q))))
  refine Rt.ok (fun q => Rt.is h (fun hk => ?_) (fun hk => h27 (fun _ => hk))) (fun q => h27 (fun w => absurd w q))
  rw [h.1.1]
  refine Rt.bn (enter_ h (by omega)) (fun S1 _ q1 => ?_)
  exact h37 S1 q1.2.1 q1.1 (fun q => Or.inl (q1.2.2 q))
end RDM
end
-- k4.g.lean.txt
section
section NFL
variable {K : Ky} {T N kq n cp q0 bb b1 e ns vv d pp : Nat} {S S1 : Sg} {fs : List Value} {vn : Int32} {V : Sg → Int32 → Option (Sg × Option Nat)} {V2 : Sg → Option (Sg × Option Nat)}
theorem nf111 (hl : fs.length = 14) (h9 : fs[9]? = some .null) (h10 : fs[10]? = some .null) (h11 : fs[11]? = some (.int (nI 0))) {cm p1 : Nat} (hR : RD K N kq 1 S S1 e (fs.set 3 (.int vn)) n cp (pp + 1) q0 bb b1) (hg : GR (fun b => b = e) S S1) (z1 : RZ S1 T p1 (ns + 1) vv b1) (h1 : pp + 1 ≤ p1 ∧ bb ≤ b1 ∧ b1 ≤ bb + (p1 - pp)) (h2 : Zz S1 + 3 * n + 8 * cm ≤ Zz S + 8 * (p1 - pp)) (h3 : Zn S1 + 64 * n + 120 * cm ≤ Zn S + 120 * (p1 - pp) + 4 * cp) (hkq : Zi S1 3 = 0 → 16 - ns = kq + 1) (h4 : Zi S1 3 = 0 → b1 ≤ 54 ∧ vn = nI (pp + 1) ∧ pp + 1 < p1 ∧ q0 ≤ p1) : Rt (f_newFields_111 K V V2 S1) (fun S2 _ => EP K T S pp ns vv bb e (fun S2 pp2 bb2 fs2 => ∃ (li si : Value) (mn : Nat), fs2 = (((fs.set 3 (.int (nI (pp + 1)))).set 9 li).set 10 si).set 11 (.int (nI mn)) ∧ pp + 1 < pp2 ∧ isQk 1 (16 - ns) (isE (iv (Zz S) (Zz S2)) (ZF S2) (K.1 9) (K.1 0) N) (iv (Zz S) (Zz S2)) (ZF S2) (K.1 9) (K.1 0) li si mn (pp + 1) pp2 bb bb2) S2) := by
  unfold f_newFields_111
  have hl' : (fs.set 3 (.int vn)).length = 14 := by rw [List.length_set]; exact hl
  refine Rt.nd z1 (fun S5 g5 z5 i5 => Rt.bn (take_ z5 (by decide)) (fun S6 _ q6 => Rt.rt ?_))
  obtain ⟨p6, z6, g6, k1, k2, k3⟩ := q6
  have g16 := g5.tr g6
  obtain ⟨c1, c2, fs1, c3, c4⟩ := hR.len hl'
  have c5 := hR.z0
  have s1 : St (fun b => b = e) S S1 e (.inr (15, fs1)) (8 * (p1 - pp)) (120 * (p1 - pp)) := ⟨hg, fun _ => rfl, c1, c3, by omega, by rcases Nat.eq_zero_or_pos n with q | q <;> omega⟩
  refine ⟨p6, b1, fs1, z6, (s1.ss g16).le (by omega) (by omega), by omega, c4, fun q => ?_⟩
  have q1 : Zi S1 3 = 0 := by rw [← i5]; exact g6.1.2.2.2.2.2 q
  obtain ⟨d1, d0, d2, d3⟩ := h4 q1
  obtain ⟨li, si, fs3, e1, e2, e3⟩ := RD.ql z1.2.2.2.2 hR (by rw [List.getElem?_set_ne (by decide)]; exact h9) (by rw [List.getElem?_set_ne (by decide)]; exact h10) (by rw [List.getElem?_set_ne (by decide)]; exact h11) q1
  refine ⟨d1, by omega, li, si, n, ?_, by omega, ?_⟩
  · rw [c3] at e1; cases e1; rw [← d0]; exact e2
  · rw [g16.2.1, g16.2.2.2.1]; exact ⟨kq, Or.inl (hkq q1), e3 p6 (by omega)⟩
theorem nf63 (hV : HVc K T V d) (hb : bb ≤ 54) (hd : 7 ≤ d) (hn16 : ns + 1 ≤ 16 ∧ 7 * (17 - ns) ≤ d) (r1 : Zz S + 8 * (T - pp) + 3 ≤ K.2.1) (r2 : Zn S + 120 * (T - pp) + 280 ≤ K.2.2) (hl : fs.length = 14) (h9 : fs[9]? = some .null) (h10 : fs[10]? = some .null) (h11 : fs[11]? = some (.int (nI 0))) (hN : 24 * (16 - ns) = N) (hq : 15 - ns = kq) (hvn : vn = nI (pp + 1)) : ∀ (m : Nat) {S1 : Sg} {p1 b1 n cp q0 cm : Nat} {mo : Int32}, 1 ≤ m → (Zi S1 3 = 0 → T + 1 ≤ p1 + m) → RD K N kq 1 S S1 e (fs.set 3 (.int vn)) n cp (pp + 1) q0 bb b1 → GR (fun b => b = e) S S1 → RZ S1 T p1 (ns + 1) vv b1 → (pp + 1 ≤ p1 ∧ bb ≤ b1 ∧ b1 ≤ bb + (p1 - pp)) → Zz S1 + 3 * n + 8 * cm ≤ Zz S + 8 * (p1 - pp) → Zn S1 + 64 * n + 120 * cm ≤ Zn S + 120 * (p1 - pp) + 4 * cp → pp + n + cm ≤ p1 → (Zi S1 3 = 0 → b1 ≤ 54 ∧ pp + 1 < p1 ∧ ((mo = 0 ∧ q0 ≤ p1) ∨ (mo ≠ 0 ∧ cm = 1 ∧ q0 < p1))) → Rt (f_newFields_63 K V V2 m S1 (some e) mo) (fun S2 _ => EP K T S pp ns vv bb e (fun S2 pp2 bb2 fs2 => ∃ (li si : Value) (mn : Nat), fs2 = (((fs.set 3 (.int (nI (pp + 1)))).set 9 li).set 10 si).set 11 (.int (nI mn)) ∧ pp + 1 < pp2 ∧ isQk 1 (16 - ns) (isE (iv (Zz S) (Zz S2)) (ZF S2) (K.1 9) (K.1 0) N) (iv (Zz S) (Zz S2)) (ZF S2) (K.1 9) (K.1 0) li si mn (pp + 1) pp2 bb bb2) S2)
  | 0, _, _, _, _, _, _, _, _, h, _, _, _, _, _, _, _, _, _ => absurd h (by omega)
  | m + 1, S1, p1, b1, n, cp, q0, cm, mo, _, hm, hR, hg, z1, k1, k2, k3, k4, k5 => by
    unfold f_newFields_63
    refine Rt.ok (fun q1 => ?_) (fun q1 => nf111 hl h9 h10 h11 (cm := cm) hR hg z1 k1 k2 k3 (fun _ => by omega) (fun q => absurd q q1))
    obtain ⟨c1, c2, c3⟩ := k5 q1
    have hT1 := z1.1.2.1; have hT := z1.1.2.2.1
    refine Rt.it (fun hmo => ?_) (fun hmo => ?_)
    · refine nf111 hl h9 h10 h11 (cm := cm) hR hg z1 k1 k2 k3 (fun _ => by omega) (fun _ => ⟨c1, hvn, c2, ?_⟩)
      rcases c3 with ⟨_, c3⟩ | ⟨c3, _⟩
      · exact c3
      · exact absurd hmo c3
    · obtain ⟨c4, c5⟩ := (c3.resolve_left (fun w => hmo w.1)).2
      subst c4
      obtain ⟨_, hcp, _⟩ := hR.len (by rw [List.length_set]; exact hl)
      have hm1 := hm q1
      refine Rt.bn (name_ z1) (fun S2 rn q2 => ?_)
      obtain ⟨p2, z2, g2, u1, u2, u3⟩ := q2
      refine Rt.bn (take_ z2 (by decide)) (fun S3 _ q3 => ?_)
      obtain ⟨p3, z3, g3, u4, u5, u6⟩ := q3
      have g13 := g2.tr g3
      have y1 := g13.2.2.2.1; have y2 := g13.2.2.2.2
      have hR3 := hR.ss g13
      have hg3 := hg.n g13.1
      have hT3 := z3.1.2.1
      have h101 : ∀ {S5 : Sg} {p5 b5 n5 cp5 q5 : Nat}, RD K N kq 1 S S5 e (fs.set 3 (.int vn)) n5 cp5 (pp + 1) q5 bb b5 → GR (fun b => b = e) S S5 → RZ S5 T p5 (ns + 1) vv b5 → (pp + 1 ≤ p5 ∧ bb ≤ b5 ∧ b5 ≤ bb + (p5 - pp)) → Zz S5 + 3 * n5 ≤ Zz S + 8 * (p5 - pp) → Zn S5 + 64 * n5 ≤ Zn S + 120 * (p5 - pp) + 4 * cp5 → pp + n5 ≤ p5 → (Zi S5 3 = 0 → b5 ≤ 54 ∧ pp + 1 < p5 ∧ q5 ≤ p5 ∧ p1 < p5) → Rt (f_newFields_101 K V V2 (f_newFields_63 K V V2 m) S5 (some e)) (fun S2 _ => EP K T S pp ns vv bb e (fun S2 pp2 bb2 fs2 => ∃ (li si : Value) (mn : Nat), fs2 = (((fs.set 3 (.int (nI (pp + 1)))).set 9 li).set 10 si).set 11 (.int (nI mn)) ∧ pp + 1 < pp2 ∧ isQk 1 (16 - ns) (isE (iv (Zz S) (Zz S2)) (ZF S2) (K.1 9) (K.1 0) N) (iv (Zz S) (Zz S2)) (ZF S2) (K.1 9) (K.1 0) li si mn (pp + 1) pp2 bb bb2) S2) := fun {S5 p5 b5 n5 cp5 q5} w1 w2 w3 w4 w5 w6 w7 w8 => by
        unfold f_newFields_101
        refine Rt.bn (takes_ w3 (by decide)) (fun S6 r6 q6 => ?_)
        obtain ⟨p6, z6, g6, i6, q6⟩ := q6
        have x1 := g6.2.2.2.1; have x2 := g6.2.2.2.2
        rcases q6 with ⟨e4, e5, e6⟩ | ⟨e4, e5, e6, e7⟩
        · subst e4 e5
          refine nf63 hV hb hd hn16 r1 r2 hl h9 h10 h11 hN hq hvn m (cm := 0) (by omega) (fun q => ?_) (w1.ss g6) (w2.n g6.1) z6 (by omega) (by omega) (by omega) (by omega) (fun q => ?_)
          · have := w8 (by rw [← i6]; exact q); omega
          · have := w8 (by rw [← i6]; exact q); exact ⟨this.1, this.2.1, Or.inl ⟨rfl, this.2.2.1⟩⟩
        · subst e4 e5
          refine nf63 hV hb hd hn16 r1 r2 hl h9 h10 h11 hN hq hvn m (cm := 1) (by omega) (fun q => ?_) (w1.ss g6) (w2.n g6.1) z6 (by omega) (by omega) (by omega) (by omega) (fun q => ?_)
          · have := w8 (by rw [← i6]; exact q); omega
          · have := w8 (by rw [← i6]; exact q); exact ⟨this.1, by omega, Or.inr ⟨by decide, rfl, by omega⟩⟩
      refine Rt.ok (fun q3 => ?_) (fun q3 => h101 hR3 hg3 z3 (by omega) (by omega) (by omega) (by omega) (fun q => absurd q q3))
      have q2 : Zi S2 3 = 0 := g3.1.2.2.2.2.2 q3
      obtain ⟨u7, u8, u9⟩ := u3 q2
      obtain ⟨u10, u11⟩ := u6 q3
      refine Rt.bn (exp_ hV z3 (fun _ => c1) hd (fun _ => ⟨by omega, by omega⟩) (by omega) (by omega)) (fun S4 r4 q4 => ?_)
      obtain ⟨p4, b4, x, e2, z4, g4, w1, w2, w3, w4, w5⟩ := q4
      subst e2
      have hT4 := z4.1.2.1
      refine Rt.bn (rstep (X := fun b => b = e) (fun _ => rfl) (by rw [List.length_set]; exact hl) (by rw [List.getElem?_set_ne (by decide)]; exact h9) (by rw [List.getElem?_set_ne (by decide)]; exact h10) (by rw [List.getElem?_set_ne (by decide)]; exact h11) hR3 hg3 z3.2.2.2.2 z4 g4 w4 (fun q => isE_im exS.rf _ (Nat.le_refl _) (w5 q).2) (show 24 * (16 - (ns + 1)) + 23 ≤ N by omega) (fun q => ⟨by omega, p1, u9, Or.inr ⟨by omega, by omega⟩⟩) (by omega) (by omega) (by omega)) (fun S5 _ q5 => ?_)
      obtain ⟨cp5, v1, v2, v3, v4, v5, v6, v7⟩ := q5
      refine h101 v1 v2 v3 (by omega) (by omega) (by omega) (by omega) (fun q => ?_)
      have q4 : Zi S4 3 = 0 := by rw [← v4]; exact q
      have := isE_mem (w5 q4).2
      exact ⟨(w5 q4).1, by omega, Nat.le_refl _, by omega⟩
theorem nfs_ (hV : HVc K T V d) (h : RZ S T pp ns vv bb) (hk24 : Zr S 5 pp = 24) (hb : Zi S 3 = 0 → bb ≤ 54) (hd : 7 ≤ d) (hd2 : Zi S 3 = 0 → ns ≤ 16 ∧ 7 * (17 - ns) ≤ d) (hn : ns ≤ 99) (r1 : Zz S + 8 * (T - pp) + 3 ≤ K.2.1) (r2 : Zn S + 120 * (T - pp) + 280 ≤ K.2.2) (he : e ∈ ZL S) (hF : ZF S e = .inr (15, fs)) (hl : fs.length = 14) (h9 : fs[9]? = some .null) (h10 : fs[10]? = some .null) (h11 : fs[11]? = some (.int (nI 0))) (hN : 24 * (16 - ns) = N) (hq : 15 - ns = kq) : Rt (f_newFields K V V2 S (some e)) (fun S2 _ => EP K T S pp ns vv bb e (fun S2 pp2 bb2 fs2 => ∃ (li si : Value) (mn : Nat), fs2 = (((fs.set 3 (.int (nI (pp + 1)))).set 9 li).set 10 si).set 11 (.int (nI mn)) ∧ pp + 1 < pp2 ∧ isQk 1 (16 - ns) (isE (iv (Zz S) (Zz S2)) (ZF S2) (K.1 9) (K.1 0) N) (iv (Zz S) (Zz S2)) (ZF S2) (K.1 9) (K.1 0) li si mn (pp + 1) pp2 bb bb2) S2) := by
  have hp := h.1.2.1; have hT := h.1.2.2.1
  have hez := h.2.2.2.2 e he
  have s0 : St (fun b => b = e) S S e (.inr (15, fs)) 0 0 := ⟨GR.rf, fun _ => rfl, he, hF, Nat.le_refl _, Nat.le_refl _⟩
  unfold f_newFields
  refine Rt.pi h (h.nx hk24 (by decide)) (fun S1 g1 z1 i1 => Rt.bn (name_ z1) (fun S2 rn q2 => ?_))
  obtain ⟨p2, z2, g2, u1, u2, u3⟩ := q2
  refine Rt.pv ((s0.ss g1).ss g2) z2 (by rw [hl]; decide) rfl (fun S4 s4 z4 v4 => ?_)
  have y1 : Zz S4 = Zz S := v4.2.2.1.trans (g2.2.2.2.1.trans g1.2.2.2.1)
  have y2 : Zn S4 = Zn S := v4.2.2.2.1.trans (g2.2.2.2.2.trans g1.2.2.2.2)
  have i4 : Zi S4 3 = Zi S2 3 := by rw [v4.2.2.2.2.1]
  have h55 : ∀ S9 : Sg, SS S4 S9 → RZ S9 T p2 (ns + 1) vv bb → (Zi S9 3 = 0 → ns ≠ 16 ∨ ¬ Zr S 5 p2 = 63) → Rt (f_newFields_55 K V V2 S9 (some e)) (fun S2 _ => EP K T S pp ns vv bb e (fun S2 pp2 bb2 fs2 => ∃ (li si : Value) (mn : Nat), fs2 = (((fs.set 3 (.int (nI (pp + 1)))).set 9 li).set 10 si).set 11 (.int (nI mn)) ∧ pp + 1 < pp2 ∧ isQk 1 (16 - ns) (isE (iv (Zz S) (Zz S2)) (ZF S2) (K.1 9) (K.1 0) N) (iv (Zz S) (Zz S2)) (ZF S2) (K.1 9) (K.1 0) li si mn (pp + 1) pp2 bb bb2) S2) := fun S9 g9 z9 hz9 => by
    unfold f_newFields_55
    refine Rt.bn (take_ z9 (by decide)) (fun S10 _ q10 => ?_)
    obtain ⟨p10, z10, g10, k1, k2, k3⟩ := q10
    have g410 := g9.tr g10
    have s10 := s4.ss g410
    have x1 := g410.2.2.2.1; have x2 := g410.2.2.2.2
    have hR : RD K N kq 1 S S10 e (fs.set 3 (.int rn)) 0 0 (pp + 1) (pp + 1) bb bb := RD.beg s10.2.2.1 s10.2.2.2.1 (Nat.le_refl _)
    by_cases q : Zi S10 3 = 0
    · have q9 : Zi S9 3 = 0 := g10.1.2.2.2.2.2 q
      have q4 : Zi S4 3 = 0 := g9.1.2.2.2.2.2 q9
      have q2 : Zi S2 3 = 0 := by rw [← i4]; exact q4
      have q0 : Zi S 3 = 0 := g1.1.2.2.2.2.2 (g2.1.2.2.2.2.2 q2)
      obtain ⟨u4, u5, u6⟩ := u3 q2
      obtain ⟨k4, k5⟩ := k3 q
      have hz := (hz9 q9).resolve_right (fun w => w (by rw [← k4, g9.1.2.1.1, v4.2.2.2.2.2.1, g2.1.2.1.1, g1.1.2.1.1]))
      have := hd2 q0
      exact nf63 hV (hb q0) hd ⟨by omega, by omega⟩ r1 r2 hl h9 h10 h11 hN hq u6 bigN (n := 0) (cp := 0) (q0 := pp + 1) (cm := 1) (by decide) (fun _ => by show T + 1 ≤ p10 + 1000000000000; omega) hR s10.1 z10 (by omega) (by omega) (by omega) (by omega) (fun _ => ⟨hb q0, by omega, Or.inr ⟨by decide, rfl, by omega⟩⟩)
    · obtain ⟨m, em, _⟩ := bigN_gt (n := 0) (by decide)
      rw [em]
      unfold f_newFields_63
      exact Rt.be (ok_0 q) (Rt.ip rfl (nf111 hl h9 h10 h11 (cm := 0) hR s10.1 z10 (by omega) (by omega) (by omega) (fun w => absurd w q) (fun w => absurd w q)))
  have h45 : (Zi S4 3 = 0 → ¬ Zr S 5 p2 = 63) → Rt (f_newFields_45 K V V2 S4 (some e)) (fun S2 _ => EP K T S pp ns vv bb e (fun S2 pp2 bb2 fs2 => ∃ (li si : Value) (mn : Nat), fs2 = (((fs.set 3 (.int (nI (pp + 1)))).set 9 li).set 10 si).set 11 (.int (nI mn)) ∧ pp + 1 < pp2 ∧ isQk 1 (16 - ns) (isE (iv (Zz S) (Zz S2)) (ZF S2) (K.1 9) (K.1 0) N) (iv (Zz S) (Zz S2)) (ZF S2) (K.1 9) (K.1 0) li si mn (pp + 1) pp2 bb bb2) S2) := fun hk => by
    unfold f_newFields_45
    exact Rt.ni z4 (fun S9 g9 z9 i9 => h55 S9 g9 z9 (fun q => Or.inr (hk (by rw [← i9]; exact q))))
  have f4 : Zr S4 5 = Zr S 5 := by rw [s4.1.2.1.1]
  refine Rt.ok (fun q => Rt.is z4 (fun hk => ?_) (fun hk => h45 (fun _ => by rw [← f4]; exact hk))) (fun q => h45 (fun w => absurd w q))
  rw [z4.1.1]
  have hT4 := z4.1.2.1
  refine Rt.bn (enter_ z4 (by omega)) (fun S9 _ q9 => ?_)
  exact h55 S9 q9.2.1 q9.1 (fun q => Or.inl (q9.2.2 q))
end NFL
end
