/-- the values of an item -/
def itV (tk : Nat) (nm : Int32) (kd : Int32) (mn : Nat) (lv : Nat) (na : Nat) (wr ty vr lf lo rs bl pm : Value) (va : Nat) : List Value := [.int (nI tk), .int nm, .int kd, .int (nI mn), .int 0, .int 0, .int (nI lv), .int 0, .ref na, wr, ty, vr, lf, lo, rs, .null, bl, pm, .int (nI va), .int 0, .int 0, .int 0]
/-- a new cell, told in the held one -/
def NR (S S2 : Sg) (a : Nat) (c : va_E) : Prop := (∀ b : Nat, b ≠ a → b < Zz S → ZF S2 b = ZF S b) ∧ Zz S ∈ ZL S2 ∧ ZF S2 (Zz S) = c ∧ Zz S2 = Zz S + 1 ∧ Zi S2 = Zi S
section NRL
variable {α : Type} {K : Ky} {X : Nat → Prop} {S S2 : Sg} {a zz nn T pp ns vv bb : Nat} {P : Sg → α → Prop}
theorem Rt.nqp {t n ci k9 : Nat} {fs : List Value} {g : Sg → Option (Sg × α)} (s : St X S S2 a (.inr (ci, fs)) zz nn) (h : RZ S2 T pp ns vv bb) (hk : k9 < fs.length) (hn : n ≤ 100000) (r1 : Zz S2 + 1 ≤ K.2.1) (r2 : Zn S2 + n ≤ K.2.2) (k : ∀ S3 : Sg, St X S S3 a (.inr (ci, fs.set k9 (.ref (Zz S2)))) (zz + 1) (nn + n) → RZ S3 T pp ns vv bb → NR S2 S3 a (.inl (K.1 t, n, .inr (.inr (.inr (.inr (fun _ => none)))))) → Rt (g S3) P) : Rt (bnd (nQ K t S2 (nI n)) fun S5 a6 => (pV S5 ci (some a) k9 (va_rf (some a6))).bind g) P := by
  have ha := h.2.2.2.2 _ s.2.2.1
  refine Rt.be (nQ_ok hn ⟨r1, r2⟩) ?_
  have s2 := s.cl (GR.un (X := nX) (S := S2) (c := .inl (K.1 t, n, .inr (.inr (.inr (.inr (fun _ => none)))))) (n := n)) ha (z1 := 1) (n1 := n) (Nat.le_refl _) (Nat.le_refl _)
  refine Rt.pv s2 h.un hk (show va_rf (some (Zz S2)) = .ref (Zz S2) from rfl) (fun S3 s3 z3 u3 => k S3 s3 z3 ⟨fun b h1 h2 => (u3.1 b h1).trans (updE_n (by omega)), by rw [u3.2.1]; exact List.mem_cons_self, (u3.1 _ (by omega)).trans updE_s, u3.2.2.1, u3.2.2.2.2.1⟩)
theorem Rt.nap {n ci k9 : Nat} {fs : List Value} {g : Sg → Option (Sg × α)} (s : St X S S2 a (.inr (ci, fs)) zz nn) (h : RZ S2 T pp ns vv bb) (hk : k9 < fs.length) (hn : n ≤ 100000) (r1 : Zz S2 + 1 ≤ K.2.1) (r2 : Zn S2 + n ≤ K.2.2) (k : ∀ S3 : Sg, St X S S3 a (.inr (ci, fs.set k9 (.ref (Zz S2)))) (zz + 1) (nn + n) → RZ S3 T pp ns vv bb → NR S2 S3 a (.inl (K.1 0, n, .inl (fun _ => 0))) → Rt (g S3) P) : Rt (bnd (nA K S2 (nI n)) fun S5 a6 => (pV S5 ci (some a) k9 (va_rf (some a6))).bind g) P := by
  have ha := h.2.2.2.2 _ s.2.2.1
  refine Rt.be (nA_ok hn ⟨r1, r2⟩) ?_
  have s2 := s.cl (GR.un (X := nX) (S := S2) (c := .inl (K.1 0, n, .inl (fun _ => 0))) (n := n)) ha (z1 := 1) (n1 := n) (Nat.le_refl _) (Nat.le_refl _)
  refine Rt.pv s2 h.un hk (show va_rf (some (Zz S2)) = .ref (Zz S2) from rfl) (fun S3 s3 z3 u3 => k S3 s3 z3 ⟨fun b h1 h2 => (u3.1 b h1).trans (updE_n (by omega)), by rw [u3.2.1]; exact List.mem_cons_self, (u3.1 _ (by omega)).trans updE_s, u3.2.2.1, u3.2.2.2.2.1⟩)
end NRL
section FNA
variable {K : Ky} {T ns vv bb e pp : Nat} {S : Sg} {P : Sg → Unit → Prop}
/-- a function's rows: written, types, parameters, lives, lives of parameters, at e + 2 .. e + 6 -/
def FnA (K : Ky) (S S3 : Sg) (e pp : Nat) : Prop := St (fun b => b = e) S S3 e (.inr (16, itV pp 0 12 0 0 (e + 1) (.ref (e + 2)) (.ref (e + 3)) .null (.ref (e + 5)) (.ref (e + 6)) .null .null (.ref (e + 4)) 0)) 5 60 ∧ Zz S3 = e + 7 ∧ Zi S3 3 = Zi S 3 ∧ (∀ b : Nat, b ≠ e → b < e + 2 → ZF S3 b = ZF S b) ∧ (e + 2 ∈ ZL S3 ∧ ZF S3 (e + 2) = .inl (K.1 12, 13, .inr (.inr (.inr (.inr (fun _ => none)))))) ∧ (e + 3 ∈ ZL S3 ∧ ZF S3 (e + 3) = .inl (K.1 4, 13, .inr (.inr (.inr (.inr (fun _ => none)))))) ∧ (e + 4 ∈ ZL S3 ∧ ZF S3 (e + 4) = .inl (K.1 5, 13, .inr (.inr (.inr (.inr (fun _ => none)))))) ∧ (e + 5 ∈ ZL S3 ∧ ZF S3 (e + 5) = .inl (K.1 0, 8, .inl (fun _ => 0))) ∧ (e + 6 ∈ ZL S3 ∧ ZF S3 (e + 6) = .inl (K.1 0, 13, .inl (fun _ => 0)))
theorem fnA_ {g : Sg → Option (Sg × Unit)} {S4 : Sg} {p4 : Nat} (hs : Zz S4 = e + 2) (h0 : SS S S4) (s4 : St (fun b => b = e) S S4 e (.inr (16, itV pp 0 12 0 0 (e + 1) .null .null .null .null .null .null .null .null 0)) 0 0) (z4 : RZ S4 T p4 ns vv bb) (i4 : Zi S4 3 = Zi S 3) (r1 : Zz S4 + 5 ≤ K.2.1) (r2 : Zn S4 + 60 ≤ K.2.2) (kk : ∀ S3 : Sg, FnA K S S3 e pp → RZ S3 T p4 ns vv bb → Rt (g S3) P) : Rt (bnd (nQ K 12 S4 13) fun S5 a6 => (pV S5 16 (some e) 9 (va_rf (some a6))).bind fun S7 => bnd (nQ K 4 S7 13) fun S8 a9 => (pV S8 16 (some e) 10 (va_rf (some a9))).bind fun S10 => bnd (nQ K 5 S10 13) fun S11 a12 => (pV S11 16 (some e) 17 (va_rf (some a12))).bind fun S13 => bnd (nA K S13 8) fun S14 a15 => (pV S14 16 (some e) 12 (va_rf (some a15))).bind fun S16 => bnd (nA K S16 13) fun S17 a18 => (pV S17 16 (some e) 13 (va_rf (some a18))).bind g) P := by
  refine Rt.nqp (n := 13) s4 z4 (Nat.le_of_ble_eq_true rfl) (by decide) (by omega) (by omega) (fun S7 s7 z7 n7 => ?_)
  have x7 := s7.2.2.2.2.2; have x4 := s4.2.2.2.2.2
  have y7 := n7.2.2.2.1; have m7 : Zn S7 ≤ Zn S4 + 13 := by have := h0.2.2.2.2; omega
  have h02 := h0.2.2.2.2
  refine Rt.nqp (n := 13) s7 z7 (Nat.le_of_ble_eq_true rfl) (by decide) (by omega) (by omega) (fun S10 s10 z10 n10 => ?_)
  have y10 := n10.2.2.2.1; have x10 := s10.2.2.2.2.2
  refine Rt.nqp (n := 13) s10 z10 (Nat.le_of_ble_eq_true rfl) (by decide) (by omega) (by omega) (fun S13 s13 z13 n13 => ?_)
  have y13 := n13.2.2.2.1; have x13 := s13.2.2.2.2.2
  refine Rt.nap (n := 8) s13 z13 (Nat.le_of_ble_eq_true rfl) (by decide) (by omega) (by omega) (fun S16 s16 z16 n16 => ?_)
  have y16 := n16.2.2.2.1; have x16 := s16.2.2.2.2.2
  refine Rt.nap (n := 13) s16 z16 (Nat.le_of_ble_eq_true rfl) (by decide) (by omega) (by omega) (fun S19 s19 z19 n19 => ?_)
  have y19 := n19.2.2.2.1
  have e1 : Zz S7 = e + 3 := by omega
  have e2 : Zz S10 = e + 4 := by omega
  have e3 : Zz S13 = e + 5 := by omega
  have e4 : Zz S16 = e + 6 := by omega
  rw [hs, e1, e2, e3, e4] at s19
  unfold NR at n7 n10 n13 n16 n19
  rw [hs] at n7; rw [e1] at n10; rw [e2] at n13; rw [e3] at n16; rw [e4] at n19
  have k7 := n7.1; have k10 := n10.1; have k13 := n13.1; have k16 := n16.1; have k19 := n19.1
  have mem : ∀ {A B : Sg} {q : Nat} {c1 c2 : va_E} {z1 z2 u1 u2 : Nat}, St (fun b => b = e) S A e c1 z1 u1 → St (fun b => b = e) S B e c2 z2 u2 → (∀ a : Nat, a ∈ ZL A → a ∈ ZL B) → True := fun _ _ _ => trivial
  have up : ∀ {A B : Sg} {c1 c2 : va_E} {z1 z2 u1 u2 q : Nat}, St (fun b => b = e) S A e c1 z1 u1 → St (fun b => b = e) S B e c2 z2 u2 → Zz A ≤ Zz B → q ∈ ZL A → q ∈ ZL B := fun {A B c1 c2 z1 z2 u1 u2 q} sa sb hab hq => (sb.1.2.2.2.1 q).mpr (((sa.1.2.2.2.1 q).mp hq).imp id (fun w => ⟨w.1, by omega⟩))
  refine kk S19 ⟨s19.le (by omega) (by omega), by omega, ?_, fun b h1 h2 => ?_, ⟨up s7 s19 (by omega) n7.2.1, ?_⟩, ⟨up s10 s19 (by omega) n10.2.1, ?_⟩, ⟨up s13 s19 (by omega) n13.2.1, ?_⟩, ⟨up s16 s19 (by omega) n16.2.1, ?_⟩, ⟨n19.2.1, n19.2.2.1⟩⟩ z19
  · rw [n19.2.2.2.2, n16.2.2.2.2, n13.2.2.2.2, n10.2.2.2.2, n7.2.2.2.2, i4]
  · rw [k19 b h1 (by omega), k16 b h1 (by omega), k13 b h1 (by omega), k10 b h1 (by omega), k7 b h1 (by omega), h0.2.1]
  · rw [k19 _ (by omega) (by omega), k16 _ (by omega) (by omega), k13 _ (by omega) (by omega), k10 _ (by omega) (by omega)]; exact n7.2.2.1
  · rw [k19 _ (by omega) (by omega), k16 _ (by omega) (by omega), k13 _ (by omega) (by omega)]; exact n10.2.2.1
  · rw [k19 _ (by omega) (by omega), k16 _ (by omega) (by omega)]; exact n13.2.2.1
  · rw [k19 _ (by omega) (by omega)]; exact n16.2.2.1
end FNA
