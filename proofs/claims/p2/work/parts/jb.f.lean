/-- a function's item, as it was read -/
theorem it_fn {L : List Nat} {F G : Nat → va_E} {fk fa fe : Nat → Int32} {T zs : Nat} {kE kI kS kB kA kV kW kT kP : ClassId} {fi : Nat → Option Nat} {im : Nat} {xI ps ms : Nat → Nat} {ik : Nat → Int32} {qz : Nat} {fy : Nat → Option Nat} {tm : Nat} {Y : Nat → Int32 × Int32 × Option Nat} {ad : Nat → Nat} (h : tgd L F G fk fa fe T zs kE kI kS kB kA kV kW kT kP fi im xI ps ms ik qz fy tm Y ad) {i : Nat} (hi : i < im) (hk : ik i = 12) : ∃ (mn na wa ta lo q' : Nat) (rs : Value) (g : Nat → Int32) (f : Nat → Option Nat) (fs : List Value), G (xI i) = .inr (16, fs) ∧ fs[2]? = some (.int (ik i)) ∧ fs[3]? = some (.int (nI mn)) ∧ fs[8]? = some (.ref na) ∧ fs[9]? = some (.ref wa) ∧ fs[10]? = some (.ref ta) ∧ fs[13]? = some (.ref lo) ∧ fs[14]? = some rs ∧ mn ≤ 12 ∧ na ∈ L ∧ wa ∈ L ∧ ta ∈ L ∧ lo ∈ L ∧ G na = .inl (kI, 13, .inl g) ∧ (∀ j : Nat, j < mn → ∃ s : Nat, g j = nI s ∧ s < T ∧ g j ≠ 0) ∧ G wa = .inl (kW, 13, .inr (.inr (.inr (.inr f)))) ∧ chT L G fk f mn (ps i + 1) q' ∧ q' ≤ ms i ∧ G ta = .inl (kT, 13, .inr (.inr (.inr (.inr (fun _ => none))))) ∧ G lo = .inl (kI, 13, .inl (fun _ => 0)) ∧ trow G xI im ta ∧ (rs = .null ∨ ∃ t p' q2 : Nat, rs = .ref t ∧ q' ≤ p' ∧ q2 ≤ ms i ∧ isT L G fk 17 t p' q2) := by
  obtain ⟨h1, h2, fs, h3, h4⟩ := h.2.2.1.2.2.2.1 i hi
  obtain ⟨hq1, hq2, hq3⟩ := tgd_q h hi
  have hT := tgd_T h
  obtain ⟨_, _, _, mn, na, g, n1, n2, n3, n4, h8⟩ := h2
  rcases h8 with ⟨wa, ta, q', f, k1, _⟩ | ⟨vr, q', f, k1, _⟩ | ⟨lv, wa, ta, pa, lf, lo, q', va, b, bl, rs, f, gl, k1, k2, k3, k4, k5, k6, k7, k8, k9, l1, l2, l3, l4, l5, l6, l7, _⟩
  · rw [k1] at h3; cases h3; rw [hk] at h4; exact absurd (Value.int.inj (Option.some.inj h4)) (by decide)
  · rw [k1] at h3; cases h3; rw [hk] at h4; exact absurd (Value.int.inj (Option.some.inj h4)) (by decide)
  · have hG := k1
    rw [k1] at h3; cases h3
    refine ⟨mn, na, wa, ta, lo, q', rs, g, f, _, hG, h4, rfl, rfl, rfl, rfl, rfl, rfl, n3, n1, k2, k3, k6, n2, fun j hj => ?_, k7, l5, l6, k8, l2, ⟨i, _, hi, hG, Or.inl rfl⟩, l7⟩
    obtain ⟨s, e1, e2, e3⟩ := n4 j hj
    exact ⟨s, e1, by omega, by rw [e1]; exact nI_ne0 (by omega) (by omega)⟩
/-- a lifetime, or none -/
def lfV (x : Int32) : Prop := x = -1 ∨ ∃ j : Nat, j < 8 ∧ x = nI j
/-- the first n entries of a row of lifetimes are such -/
def lfF (F : Nat → va_E) (kI : ClassId) (a n : Nat) : Prop := ∃ g : Nat → Int32, F a = .inl (kI, 13, .inl g) ∧ n ≤ 13 ∧ ∀ k : Nat, k < n → lfV (g k)
theorem lfF_up {F : Nat → va_E} {kI : ClassId} {a b n j : Nat} {g : Nat → Int32} {x : Int32} (h : lfF F kI a n) (hb : F b = .inl (kI, 13, .inl g)) (hx : lfV x) : lfF (updE F b (.inl (kI, 13, .inl (upd g j x)))) kI a n := by
  obtain ⟨g2, h1, h2, h3⟩ := h
  by_cases e : a = b
  · subst e
    rw [hb] at h1
    cases h1
    refine ⟨upd g j x, updE_s, h2, fun k hk => ?_⟩
    by_cases e : k = j
    · subst e; rw [pk_us]; exact hx
    · rw [pk_un e]; exact h3 k hk
  · exact ⟨g2, (updE_n e).trans h1, h2, h3⟩
theorem lfF_one {F : Nat → va_E} {kI : ClassId} {b n : Nat} {g : Nat → Int32} {x : Int32} (h : lfF F kI b n) (hb : F b = .inl (kI, 13, .inl g)) (hn : n < 13) (hx : lfV x) : lfF (updE F b (.inl (kI, 13, .inl (upd g n x)))) kI b (n + 1) := by
  obtain ⟨g2, h1, h2, h3⟩ := h
  rw [hb] at h1
  cases h1
  refine ⟨upd g n x, updE_s, by omega, fun k hk => ?_⟩
  by_cases e : k = n
  · subst e; rw [pk_us]; exact hx
  · rw [pk_un e]; exact h3 k (by omega)
/-- a row of ints is written: the rows of types stay -/
theorem rwF_ir {F : Nat → va_E} {kT kI : ClassId} {a b n m : Nat} {g g2 : Nat → Int32} (h : rwF F kT a n) (hb : F b = .inl (kI, m, .inl g)) : rwF (updE F b (.inl (kI, m, .inl g2))) kT a n := by
  obtain ⟨c2, f2, h1, h2, h3⟩ := h
  have e : a ≠ b := fun e => by subst e; rw [hb] at h1; cases h1
  exact ⟨c2, f2, (updE_n e).trans h1, h2, h3⟩
theorem rwT_ir {F G : Nat → va_E} {kT kI : ClassId} {xI : Nat → Nat} {im tm : Nat} {ad : Nat → Nat} {b m : Nat} {g2 : Nat → Int32} (h : rwT F G kT xI im tm ad) : rwT (updE F b (.inl (kI, m, .inl g2))) G kT xI im tm ad := fun a ha c2 f2 hF k x hx => by
  by_cases e : a = b
  · subst e; rw [updE_s] at hF; cases hF
  · rw [updE_n e] at hF; exact h a ha c2 f2 hF k x hx
theorem lfF_rr {F : Nat → va_E} {kI kT : ClassId} {a b n m : Nat} {f f2 : Nat → Option Nat} (h : lfF F kI a n) (hb : F b = .inl (kT, m, .inr (.inr (.inr (.inr f))))) : lfF (updE F b (.inl (kT, m, .inr (.inr (.inr (.inr f2)))))) kI a n := by
  obtain ⟨g2, h1, h2, h3⟩ := h
  have e : a ≠ b := fun e => by subst e; rw [hb] at h1; cases h1
  exact ⟨g2, (updE_n e).trans h1, h2, h3⟩
theorem lfF_ob {F : Nat → va_E} {kI : ClassId} {a b n c : Nat} {gs hs : List Value} (h : lfF F kI a n) (hb : F b = .inr (c, gs)) : lfF (updE F b (.inr (c, hs))) kI a n := by
  obtain ⟨g2, h1, h2, h3⟩ := h
  have e : a ≠ b := fun e => by subst e; rw [hb] at h1; cases h1
  exact ⟨g2, (updE_n e).trans h1, h2, h3⟩
