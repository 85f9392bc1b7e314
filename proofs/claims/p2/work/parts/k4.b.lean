/-- since S, with the cell a held: it holds c; so many cells and slots came -/
def St (X : Nat → Prop) (S S2 : Sg) (a : Nat) (c : va_E) (zz nn : Nat) : Prop := GR X S S2 ∧ (a < Zz S → X a) ∧ a ∈ ZL S2 ∧ ZF S2 a = c ∧ Zz S2 ≤ Zz S + zz ∧ Zn S2 ≤ Zn S + nn
/-- the cell a alone is written -/
def PU (S S2 : Sg) (a : Nat) : Prop := (∀ b : Nat, b ≠ a → ZF S2 b = ZF S b) ∧ ZL S2 = ZL S ∧ Zz S2 = Zz S ∧ Zn S2 = Zn S ∧ Zi S2 = Zi S ∧ Zr S2 = Zr S ∧ Zl S2 = Zl S
theorem PU.mk {S : Sg} {a : Nat} {c : va_E} : PU S (UF S a c) a := ⟨fun _ h => ZF_n h, rfl, rfl, rfl, rfl, rfl, rfl⟩
section STL
variable {α : Type} {K : Ky} {X : Nat → Prop} {S S2 S3 : Sg} {a zz nn T pp ns vv bb : Nat} {c c2 : va_E} {P : Sg → α → Prop}
theorem St.new {n : Nat} : St X S (Un S c n) (Zz S) c 1 n := ⟨GR.un, fun q => absurd q (by omega), List.mem_cons_self, updE_s, Nat.le_refl _, Nat.le_refl _⟩
theorem St.put (h : St X S S2 a c zz nn) : St X S (UF S2 a c2) a c2 zz nn := ⟨h.1.tr GR.uf (fun b hb e => by subst e; exact h.2.1 hb), h.2.1, h.2.2.1, ZF_s, h.2.2.2.2⟩
theorem St.ss (h : St X S S2 a c zz nn) (g : SS S2 S3) : St X S S3 a c zz nn := ⟨h.1.n g.1, h.2.1, by rw [g.2.2.1]; exact h.2.2.1, by rw [g.2.1]; exact h.2.2.2.1, by rw [g.2.2.2.1]; exact h.2.2.2.2.1, by rw [g.2.2.2.2]; exact h.2.2.2.2.2⟩
theorem St.cl (h : St X S S2 a c zz nn) (g : GR nX S2 S3) (ha : a < Zz S2) {z1 n1 : Nat} (h1 : Zz S3 ≤ Zz S2 + z1) (h2 : Zn S3 ≤ Zn S2 + n1) : St X S S3 a c (zz + z1) (nn + n1) := ⟨h.1.n g, h.2.1, g.in h.2.2.1, (g.2.2.1 a ha (fun q => q)).trans h.2.2.2.1, by have := h.2.2.2.2.1; omega, by have := h.2.2.2.2.2; omega⟩
/-- a new object -/
theorem Rt.nw {ci N : Nat} {fs : List Value} {g : Sg → Nat → Option (Sg × α)} (h : RZ S T pp ns vv bb) (r1 : Zz S + 1 ≤ K.2.1) (r2 : Zn S + N ≤ K.2.2) (k : ∀ S2 : Sg, St X S S2 (Zz S) (.inr (ci, fs)) 1 N → RZ S2 T pp ns vv bb → Zi S2 = Zi S → Rt (g S2 (Zz S)) P) : Rt (bnd (nO K S ci N fs) g) P := Rt.be (nO_ok ⟨r1, r2⟩) (k _ St.new h.un rfl)
/-- a field of the held cell is written -/
theorem Rt.pv {ci k9 : Nat} {fs : List Value} {v w : Value} {g : Sg → Option (Sg × α)} (s : St X S S2 a (.inr (ci, fs)) zz nn) (h : RZ S2 T pp ns vv bb) (hk : k9 < fs.length) (hv : v = w) (k : ∀ S3 : Sg, St X S S3 a (.inr (ci, fs.set k9 w)) zz nn → RZ S3 T pp ns vv bb → PU S2 S3 a → Rt (g S3) P) : Rt ((pV S2 ci (some a) k9 v).bind g) P := by
  subst hv
  exact Rt.bd (pV_mk s.2.2.1 s.2.2.2.1 hk) (k _ s.put h.uf PU.mk)
theorem Rt.pz {ci k9 : Nat} {fs : List Value} {v : Int32} {g : Sg → Option (Sg × α)} (s : St X S S2 a (.inr (ci, fs)) zz nn) (h : RZ S2 T pp ns vv bb) (hk : k9 < fs.length) (hv : v = 0 ∨ v = 1) (k : ∀ S3 : Sg, St X S S3 a (.inr (ci, fs.set k9 (.int v))) zz nn → RZ S3 T pp ns vv bb → PU S2 S3 a → Rt (g S3) P) : Rt ((pZ S2 ci (some a) k9 v).bind g) P := by
  unfold pZ
  rw [if_pos hv]
  exact Rt.pv s h hk rfl k
/-- p++, nest++, nest-- -/
theorem Rt.pi {g : Sg → Option (Sg × α)} (h : RZ S T pp ns vv bb) (hp : pp + 1 < T) (k : ∀ S3 : Sg, SS S S3 → RZ S3 T (pp + 1) ns vv bb → Zi S3 3 = Zi S 3 → Rt (g S3) P) : Rt ((pM S 10 (Zi S 10 + 1)).bind g) P := Rt.bd (v := Ui S 10 (nI (pp + 1))) (by rw [h.1.1, ← nI_1]; rfl) (k _ (SS.ui (Or.inl rfl)) (h.p hp) (Zi_n (by decide)))
theorem Rt.ni {g : Sg → Option (Sg × α)} (h : RZ S T pp ns vv bb) (k : ∀ S3 : Sg, SS S S3 → RZ S3 T pp (ns + 1) vv bb → Zi S3 3 = Zi S 3 → Rt (g S3) P) : Rt ((pM S 15 (Zi S 15 + 1)).bind g) P := Rt.bd (v := Ui S 15 (nI (ns + 1))) (by rw [h.2.1, ← nI_1]; rfl) (k _ (SS.ui (by decide)) h.ne (Zi_n (by decide)))
theorem Rt.nd {g : Sg → Option (Sg × α)} (h : RZ S T pp (ns + 1) vv bb) (k : ∀ S3 : Sg, SS S S3 → RZ S3 T pp ns vv bb → Zi S3 3 = Zi S 3 → Rt (g S3) P) : Rt ((pM S 15 (Zi S 15 - 1)).bind g) P := Rt.bd (v := Ui S 15 (nI ns)) (by rw [h.2.1, nI_pred]; rfl) (k _ (SS.ui (by decide)) h.ne (Zi_n (by decide)))
end STL
theorem x22_ {K : Ky} {S : Sg} {a : Nat} {fs : List Value} (ha : a ∈ ZL S) (hF : ZF S a = .inr (22, fs)) (hk : 3 < fs.length) : f_X22_init K S a = some (UF S a (.inr (22, fs.set 3 (.int (-1)))), ()) := by
  unfold f_X22_init
  rw [pV_mk ha hF hk]; rfl
/-- what written gives -/
def WrP (S : Sg) (T pp ns vv bb : Nat) (S2 : Sg) (r : Option Nat) : Prop := ∃ pp2 a : Nat, r = some a ∧ RZ S2 T pp2 ns vv bb ∧ GR nX S S2 ∧ pp ≤ pp2 ∧ Zz S2 ≤ Zz S + (pp2 - pp) + 1 ∧ Zn S2 ≤ Zn S + 5 * (pp2 - pp) + 5 ∧ (Zz S ≤ a ∧ a < Zz S2 ∧ ∃ vs : List Value, ZF S2 a = .inr (22, vs)) ∧ (Zi S2 3 = 0 → isT (iv (Zz S) (Zz S2)) (ZF S2) (Zr S 5) (17 - ns) a pp pp2)
section WRL
variable {K : Ky} {T : Nat}
theorem wri_ : ∀ (d : Nat) {S : Sg} {pp ns vv bb : Nat}, RZ S T pp ns vv bb → 1 ≤ d → (Zi S 3 = 0 → ns ≤ 16 ∧ 18 ≤ ns + d) → Zz S + (T - pp) + 2 ≤ K.2.1 → Zn S + 5 * (T - pp) + 10 ≤ K.2.2 → Rt (f_written K d S) (WrP S T pp ns vv bb)
  | 0, S, pp, ns, vv, bb, h, h1, _, _, _ => absurd h1 (by omega)
  | d + 1, S, pp, ns, vv, bb, h, _, hd, r1, r2 => by
    have hp := h.1.2.1
    have hT := h.1.2.2.1
    unfold f_written
    refine Rt.nw (X := nX) h (by omega) (by omega) (fun S1 s1 z1 i1 => ?_)
    refine Rt.be (x22_ s1.2.2.1 s1.2.2.2.1 (Nat.le_of_ble_eq_true rfl)) ?_
    have s3 : St nX S (UF S1 (Zz S) (.inr (22, [.int 0, .int 0, .int 0, .int (-1), .null]))) (Zz S) (.inr (22, [.int 0, .int 0, .int 0, .int (-1), .null])) 1 5 := s1.put
    have z3 := z1.uf (a := Zz S) (c := .inr (22, [.int 0, .int 0, .int 0, .int (-1), .null]))
    have i3 : Zi (UF S1 (Zz S) (.inr (22, [.int 0, .int 0, .int 0, .int (-1), .null]))) = Zi S := i1
    show Rt (bnd (f_ok K (UF S1 (Zz S) (.inr (22, [.int 0, .int 0, .int 0, .int (-1), .null])))) _) _
    revert s3 z3 i3
    generalize UF S1 (Zz S) (.inr (22, [.int 0, .int 0, .int 0, .int (-1), .null])) = S3
    intro s3 z3 i3
    have hal : ∀ {Q : Sg} {c : va_E} {p2 n2 v2 b2 zz nn : Nat}, St nX S Q (Zz S) c zz nn → RZ Q T p2 n2 v2 b2 → Zz S ≤ Zz S ∧ Zz S < Zz Q := fun s z => ⟨Nat.le_refl _, z.2.2.2.2 _ s.2.2.1⟩
    refine Rt.ok (fun q => ?_) (fun q => Rt.rt ⟨pp, Zz S, rfl, z3, s3.1, Nat.le_refl _, by have := s3.2.2.2.2.1; omega, by have := s3.2.2.2.2.2; omega, ⟨(hal s3 z3).1, (hal s3 z3).2, _, s3.2.2.2.1⟩, fun z => absurd z q⟩)
    have q0 : Zi S 3 = 0 := by rw [← i3]; exact q
    obtain ⟨hn, hd⟩ := hd q0
    obtain ⟨m, em⟩ : ∃ m : Nat, 17 - ns = m + 1 := ⟨16 - ns, by omega⟩
    refine Rt.pv s3 z3 (Nat.le_of_ble_eq_true rfl) (show Value.int (Zi S3 10) = .int (nI pp) by rw [z3.1.1]) (fun S4 s4 z4 u4 => ?_)
    have f4 : Zr S4 5 = Zr S 5 := by rw [s4.1.2.1.1]
    refine Rt.bd z4.kd ?_
    refine Rt.pv s4 z4 (Nat.le_of_ble_eq_true rfl) (show Value.int (Zr S4 5 pp) = .int (Zr S 5 pp) by rw [f4]) (fun S5 s5 z5 u5 => ?_)
    have s5 : St nX S S5 (Zz S) (.inr (22, [.int (Zr S 5 pp), .int (nI pp), .int 0, .int (-1), .null])) 1 5 := s5
    have f5 : Zr S5 5 = Zr S 5 := by rw [s5.1.2.1.1]
    have h192 : (Zr S 5 pp = 26 ∨ Zr S 5 pp = 27 ∨ Zr S 5 pp = 25 ∨ Zr S 5 pp = 2) → Rt (f_written_192 K (f_written K d) S5 (some (Zz S))) (WrP S T pp ns vv bb) := fun hk => by
      unfold f_written_192 f_written_214
      have hn0 : Zr S 5 pp ≠ 0 := by rcases hk with e | e | e | e <;> rw [e] <;> decide
      refine Rt.pi z5 (z5.nx (k := Zr S 5 pp) (by rw [f5]) hn0) (fun S6 g6 z6 i6 => Rt.rt ?_)
      have s6 := s5.ss g6
      refine ⟨pp + 1, Zz S, rfl, z6, s6.1, Nat.le_succ _, by have := s6.2.2.2.2.1; omega, by have := s6.2.2.2.2.2; omega, ⟨(hal s6 z6).1, (hal s6 z6).2, _, s6.2.2.2.1⟩, fun _ => ?_⟩
      rw [em]
      exact ⟨iv_m.mpr (hal s6 z6), Or.inl ⟨s6.2.2.2.1, hk, rfl⟩⟩
    -- the type below
    have h136 : ∀ (S6 : Sg) (p6 : Nat) (mu lf : Int32), St nX S S6 (Zz S) (.inr (22, [.int (Zr S 5 pp), .int (nI pp), .int mu, .int lf, .null])) 1 5 → RZ S6 T p6 (ns + 1) vv bb → pp < p6 → (Zi S6 3 = 0 → ns ≠ 16 ∧ ((Zr S 5 pp = 23 ∧ p6 = pp + 1 ∧ mu = 0 ∧ lf = -1) ∨ (Zr S 5 pp = 55 ∧ (mu = 0 ∨ mu = 1) ∧ (lf = -1 ∨ lf = nI (pp + 1))))) → Rt (f_written_136 K (f_written K d) S6 (some (Zz S))) (WrP S T pp ns vv bb) := fun S6 p6 mu lf s6 z6 hp6 hg => by
      have e1 := s6.2.2.2.2.1; have e2 := s6.2.2.2.2.2; have e3 := z6.1.2.1
      unfold f_written_136 f_written_214
      refine Rt.bn (wri_ d z6 (by omega) (fun z => by have := (hg z).1; omega) (by omega) (by omega)) (fun S7 r7 q7 => ?_)
      obtain ⟨p7, a7, e7, z7, g7, h7, k1, k2, k3, k4⟩ := q7
      subst e7
      have s7 := s6.cl g7 (hal s6 z6).2 (z1 := p7 - p6 + 1) (n1 := 5 * (p7 - p6) + 5) (by omega) (by omega)
      refine Rt.pv s7 z7 (Nat.le_of_ble_eq_true rfl) (show va_rf (some a7) = .ref a7 from rfl) (fun S8 s8 z8 u8 => ?_)
      refine Rt.nd z8 (fun S9 g9 z9 i9 => Rt.rt ?_)
      have s9 := s8.ss g9
      have e4 := s9.2.2.2.2.1; have e5 := s9.2.2.2.2.2
      refine ⟨p7, Zz S, rfl, z9, s9.1, by omega, by omega, by omega, ⟨(hal s9 z9).1, (hal s9 z9).2, _, s9.2.2.2.1⟩, fun q9 => ?_⟩
      have q7 : Zi S7 3 = 0 := by rw [← u8.2.2.2.2.1, ← i9]; exact q9
      have q6 : Zi S6 3 = 0 := g7.2.2.2.2.2 q7
      have hT7 := k4 q7
      rw [s6.1.2.1.1] at hT7
      have hfr : exS (iv (Zz S6) (Zz S7)) (ZF S7) (iv (Zz S) (Zz S9)) (ZF S9) := fun b hb => by
        obtain ⟨b1, b2⟩ := iv_m.mp hb
        have b3 := s6.1.2.2.2.2.1.1
        have b4 := (hal s6 z6).2
        have b5 : Zz S9 = Zz S7 := g9.2.2.2.1.trans u8.2.2.1
        exact ⟨iv_m.mpr ⟨by omega, by omega⟩, by rw [g9.2.1]; exact u8.1 b (by omega)⟩
      have hT9 := isT_ex hfr hT7
      obtain ⟨g1, g2⟩ := hg q6
      rw [show 17 - (ns + 1) = m by omega] at hT9
      rw [em]
      refine ⟨iv_m.mpr (hal s9 z9), ?_⟩
      rcases g2 with ⟨g3, g4, g5, g6⟩ | ⟨g3, g4, g5⟩
      · subst g4 g5 g6
        exact Or.inr (Or.inl ⟨g3, a7, s9.2.2.2.1, hT9⟩)
      · exact Or.inr (Or.inr ⟨g3, a7, p6, mu, lf, s9.2.2.2.1, hp6, g4, g5, hT9⟩)
    have h56 : (Zr S 5 pp = 23 ∨ Zr S 5 pp = 55) → Rt (f_written_56 K (f_written K d) S5 (some (Zz S))) (WrP S T pp ns vv bb) := fun hk => by
      have hn0 : Zr S 5 pp ≠ 0 := by rcases hk with e | e <;> rw [e] <;> decide
      unfold f_written_56
      rw [z5.1.1]
      refine Rt.bn (enter_ z5 (by omega)) (fun S6 _ q6 => ?_)
      obtain ⟨z6, g6, h6⟩ := q6
      have s6 := s5.ss g6
      have f6 : Zr S6 5 = Zr S 5 := by rw [s6.1.2.1.1]
      have hp1 := z6.nx (k := Zr S 5 pp) (by rw [f6]) hn0
      rcases hk with hk | hk
      · refine Rt.be (is_0 z6 (by rw [f6, hk]; decide)) (Rt.pi z6 hp1 (fun S7 g7 z7 i7 => ?_))
        refine Rt.ip rfl ?_
        unfold f_written_118
        refine Rt.ip rfl ?_
        exact h136 S7 (pp + 1) 0 (-1) (s6.ss g7) z7 (by omega) (fun z => ⟨h6 (by rw [← i7]; exact z), Or.inl ⟨hk, rfl, rfl, rfl⟩⟩)
      · refine Rt.be (is_1 z6 (by rw [f6, hk])) (Rt.pi z6 hp1 (fun S7 g7 z7 i7 => ?_))
        have s7 := s6.ss g7
        have f7 : Zr S7 5 = Zr S 5 := by rw [s7.1.2.1.1]
        have h118 : ∀ (S8 : Sg) (p8 : Nat) (lf : Int32), St nX S S8 (Zz S) (.inr (22, [.int (Zr S 5 pp), .int (nI pp), .int 0, .int lf, .null])) 1 5 → RZ S8 T p8 (ns + 1) vv bb → pp < p8 → (Zi S8 3 = 0 → ns ≠ 16) → (lf = -1 ∨ lf = nI (pp + 1)) → Rt (f_written_118 K (f_written K d) S8 (some (Zz S)) 1) (WrP S T pp ns vv bb) := fun S8 p8 lf s8 z8 hp8 hg8 hl8 => by
          unfold f_written_118
          refine Rt.iq (by decide) (Rt.bn (takes_ z8 (by decide)) (fun S9 r9 q9 => ?_))
          obtain ⟨p9, z9, g9, i9, q9⟩ := q9
          have s9 := s8.ss g9
          rcases q9 with ⟨e1, e2, _⟩ | ⟨e1, e2, _⟩
          · subst e1 e2
            exact Rt.ip rfl (h136 S9 _ 0 lf s9 z9 hp8 (fun z => ⟨hg8 (by rw [← i9]; exact z), Or.inr ⟨hk, Or.inl rfl, hl8⟩⟩))
          · subst e1 e2
            refine Rt.iq (by decide) (Rt.pv s9 z9 (Nat.le_of_ble_eq_true rfl) rfl (fun S10 s10 z10 u10 => ?_))
            exact h136 S10 _ 1 lf s10 z10 (by omega) (fun z => ⟨hg8 (by rw [← i9, ← u10.2.2.2.2.1]; exact z), Or.inr ⟨hk, Or.inr rfl, hl8⟩⟩)
        refine Rt.iq (by decide) (Rt.ok (fun q7 => Rt.is z7 (fun h4 => ?_) (fun _ => ?_)) (fun q7 => ?_))
        · refine Rt.pv s7 z7 (Nat.le_of_ble_eq_true rfl) (show Value.int (Zi S7 10) = .int (nI (pp + 1)) by rw [z7.1.1]) (fun S8 s8 z8 u8 => ?_)
          refine Rt.pi z8 (z8.nx (k := 4) (by rw [s8.1.2.1.1, ← s7.1.2.1.1]; exact h4) (by decide)) (fun S9 g9 z9 i9 => ?_)
          exact h118 S9 _ (nI (pp + 1)) (s8.ss g9) z9 (by omega) (fun z => h6 (by rw [← i7, ← u8.2.2.2.2.1, ← i9]; exact z)) (Or.inr rfl)
        · exact h118 S7 _ (-1) s7 z7 (by omega) (fun z => h6 (by rw [← i7]; exact z)) (Or.inl rfl)
        · exact h118 S7 _ (-1) s7 z7 (by omega) (fun z => h6 (by rw [← i7]; exact z)) (Or.inl rfl)
    have c5 : ∀ k : Int32, Zr S5 5 pp = k → Zr S 5 pp = k := fun k e => by rw [← f5]; exact e
    refine Rt.is z5 (fun e => h56 (Or.inl (c5 _ e))) (fun _ => Rt.is z5 (fun e => h56 (Or.inr (c5 _ e))) (fun _ => Rt.is z5 (fun e => h192 (Or.inl (c5 _ e))) (fun _ => Rt.is z5 (fun e => h192 (Or.inr (Or.inl (c5 _ e)))) (fun _ => Rt.is z5 (fun e => h192 (Or.inr (Or.inr (Or.inl (c5 _ e))))) (fun _ => Rt.is z5 (fun e => h192 (Or.inr (Or.inr (Or.inr (c5 _ e))))) (fun _ => ?_))))))
    rw [z5.1.1]
    refine Rt.be (fail_ (by omega)) ?_
    unfold f_written_214
    have s6 := s5.ss (SS.fl (S := S5) (wh := 1) (x := Zr S5 6 pp))
    exact Rt.rt ⟨pp, Zz S, rfl, z5.fl, s6.1, Nat.le_refl _, by have := s6.2.2.2.2.1; omega, by have := s6.2.2.2.2.2; omega, ⟨(hal s6 z5.fl).1, (hal s6 z5.fl).2, _, s6.2.2.2.1⟩, fun z => absurd z (flS_n0 (by decide))⟩
end WRL
