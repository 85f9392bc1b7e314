-- j8.h.lean.txt
section
/-- rows of different classes have different classes -/
theorem kNeO {D : va_G} {cl : List vw_C} {tys : List (ClassId × FieldType)} {U : State} (hK : va_K D cl tys U) (i j : Nat) {C C2 : String} {a b : ClassId} (hi : tys[i]? = some (a, .object C)) (hj : tys[j]? = some (b, .object C2)) (hC : C ≠ C2) : a ≠ b := by
  intro e
  subst e
  obtain ⟨k1, c1, h1, h2, _⟩ := (hK.2 i _ hi).2
  obtain ⟨k2, c2, g1, g2, _⟩ := (hK.2 j _ hj).2
  have e : k1 = k2 := Option.some.inj (h1.symm.trans g1)
  subst e
  rw [h2] at g2
  cases g2
  exact hC rfl
/-- a is a row of types of an item, or of a variant's parts -/
def trow (G : Nat → va_E) (xI : Nat → Nat) (im a : Nat) : Prop := ∃ (i : Nat) (fs : List Value), i < im ∧ G (xI i) = .inr (16, fs) ∧ (fs[10]? = some (.ref a) ∨ ∃ (vr cap k pa mn : Nat) (kP : ClassId) (f : Nat → Option Nat) (gs : List Value), fs[3]? = some (.int (nI mn)) ∧ mn ≤ 12 ∧ k < mn ∧ fs[11]? = some (.ref vr) ∧ G vr = .inl (kP, cap, .inr (.inr (.inr (.inr f)))) ∧ f k = some pa ∧ G pa = .inr (17, gs) ∧ gs[2]? = some (.ref a))
/-- what lies in the rows of types: types -/
def rwT (F G : Nat → va_E) (kT : ClassId) (xI : Nat → Nat) (im tm : Nat) (ad : Nat → Nat) : Prop := ∀ a : Nat, trow G xI im a → ∀ (cap : Nat) (f : Nat → Option Nat), F a = .inl (kT, cap, .inr (.inr (.inr (.inr f)))) → ∀ k x : Nat, f k = some x → ∃ t : Nat, t < tm ∧ x = ad t
/-- the first n entries of the row a are there -/
def rwF (F : Nat → va_E) (kT : ClassId) (a n : Nat) : Prop := ∃ (cap : Nat) (f : Nat → Option Nat), F a = .inl (kT, cap, .inr (.inr (.inr (.inr f)))) ∧ n ≤ cap ∧ ∀ k : Nat, k < n → f k ≠ none
/-- an entry of a row of types is written: what was there stays there -/
theorem rwF_up {F : Nat → va_E} {kT : ClassId} {a b n cap j x : Nat} {f : Nat → Option Nat} (h : rwF F kT a n) (hb : F b = .inl (kT, cap, .inr (.inr (.inr (.inr f))))) : rwF (updE F b (.inl (kT, cap, .inr (.inr (.inr (.inr (va_up f j (some x)))))))) kT a n := by
  obtain ⟨c2, f2, h1, h2, h3⟩ := h
  by_cases e : a = b
  · subst e
    rw [hb] at h1
    cases h1
    refine ⟨cap, va_up f j (some x), updE_s, h2, fun k hk => ?_⟩
    by_cases e : k = j
    · subst e; rw [vu_s]; exact fun q => by cases q
    · rw [vu_n e]; exact h3 k hk
  · exact ⟨c2, f2, (updE_n e).trans h1, h2, h3⟩
theorem rwF_one {F : Nat → va_E} {kT : ClassId} {b n cap x : Nat} {f : Nat → Option Nat} (h : rwF F kT b n) (hb : F b = .inl (kT, cap, .inr (.inr (.inr (.inr f))))) (hn : n < cap) : rwF (updE F b (.inl (kT, cap, .inr (.inr (.inr (.inr (va_up f n (some x)))))))) kT b (n + 1) := by
  obtain ⟨c2, f2, h1, h2, h3⟩ := h
  rw [hb] at h1
  cases h1
  refine ⟨cap, va_up f n (some x), updE_s, by omega, fun k hk => ?_⟩
  by_cases e : k = n
  · subst e; rw [vu_s]; exact fun q => by cases q
  · rw [vu_n e]; exact h3 k (by omega)
theorem rwT_up {F G : Nat → va_E} {kT : ClassId} {xI : Nat → Nat} {im tm : Nat} {ad : Nat → Nat} {b cap j t : Nat} {f : Nat → Option Nat} (h : rwT F G kT xI im tm ad) (hb : F b = .inl (kT, cap, .inr (.inr (.inr (.inr f))))) (hr : trow G xI im b) (ht : t < tm) : rwT (updE F b (.inl (kT, cap, .inr (.inr (.inr (.inr (va_up f j (some (ad t))))))))) G kT xI im tm ad := fun a ha c2 f2 hF k x hx => by
  by_cases e : a = b
  · subst e
    rw [updE_s] at hF
    cases hF
    by_cases e : k = j
    · subst e; rw [vu_s] at hx; cases hx; exact ⟨t, ht, rfl⟩
    · rw [vu_n e] at hx; exact h a hr cap f hb k x hx
  · rw [updE_n e] at hF; exact h a ha c2 f2 hF k x hx
/-- another cell is written, no row: both stay -/
theorem rwF_ob {F : Nat → va_E} {kT : ClassId} {a b n c : Nat} {gs hs : List Value} (h : rwF F kT a n) (hb : F b = .inr (c, gs)) : rwF (updE F b (.inr (c, hs))) kT a n := by
  obtain ⟨c2, f2, h1, h2, h3⟩ := h
  have e : a ≠ b := fun e => by subst e; rw [hb] at h1; cases h1
  exact ⟨c2, f2, (updE_n e).trans h1, h2, h3⟩
theorem rwT_ob {F G : Nat → va_E} {kT : ClassId} {xI : Nat → Nat} {im tm : Nat} {ad : Nat → Nat} {b c : Nat} {hs : List Value} (h : rwT F G kT xI im tm ad) : rwT (updE F b (.inr (c, hs))) G kT xI im tm ad := fun a ha c2 f2 hF k x hx => by
  by_cases e : a = b
  · subst e; rw [updE_s] at hF; cases hF
  · rw [updE_n e] at hF; exact h a ha c2 f2 hF k x hx
theorem rwF_ex {L L2 : List Nat} {F F2 : Nat → va_E} {kT : ClassId} {a n : Nat} (hx : exS L F L2 F2) (ha : a ∈ L) (h : rwF F kT a n) : rwF F2 kT a n := by
  obtain ⟨c2, f2, h1, h2, h3⟩ := h
  exact ⟨c2, f2, (hx a ha).2.trans h1, h2, h3⟩
end
-- j9.a.lean.txt
section
/-- a struct's item, as it was read -/
theorem it_st {L : List Nat} {F G : Nat → va_E} {fk fa fe : Nat → Int32} {T zs : Nat} {kE kI kS kB kA kV kW kT kP : ClassId} {fi : Nat → Option Nat} {im : Nat} {xI ps ms : Nat → Nat} {ik : Nat → Int32} {qz : Nat} {fy : Nat → Option Nat} {tm : Nat} {Y : Nat → Int32 × Int32 × Option Nat} {ad : Nat → Nat} (h : tgd L F G fk fa fe T zs kE kI kS kB kA kV kW kT kP fi im xI ps ms ik qz fy tm Y ad) {i : Nat} (hi : i < im) (hk : ik i = 10) : ∃ (mn na wa ta q' : Nat) (g : Nat → Int32) (f : Nat → Option Nat) (fs : List Value), G (xI i) = .inr (16, fs) ∧ fs[2]? = some (.int (ik i)) ∧ fs[3]? = some (.int (nI mn)) ∧ fs[8]? = some (.ref na) ∧ fs[9]? = some (.ref wa) ∧ fs[10]? = some (.ref ta) ∧ mn ≤ 12 ∧ na ∈ L ∧ wa ∈ L ∧ ta ∈ L ∧ G na = .inl (kI, 13, .inl g) ∧ (∀ j : Nat, j < mn → ∃ s : Nat, g j = nI s ∧ s < T ∧ g j ≠ 0) ∧ G wa = .inl (kW, 13, .inr (.inr (.inr (.inr f)))) ∧ chT L G fk f mn (ps i + 1) q' ∧ q' ≤ ms i ∧ G ta = .inl (kT, 13, .inr (.inr (.inr (.inr (fun _ => none))))) ∧ trow G xI im ta := by
  obtain ⟨h1, h2, fs, h3, h4⟩ := h.2.2.1.2.2.2.1 i hi
  obtain ⟨hq1, hq2, hq3⟩ := tgd_q h hi
  have hT := tgd_T h
  obtain ⟨_, _, _, mn, na, g, n1, n2, n3, n4, h8⟩ := h2
  rcases h8 with ⟨wa, ta, q', f, k1, k2, k3, k4, k5, k6, k7, k8⟩ | ⟨vr, q', f, k1, _⟩ | ⟨lv, wa, ta, pa, lf, lo, q', va, b, bl, rs, f, gl, k1, _⟩
  · have hG := k1
    rw [k1] at h3; cases h3
    refine ⟨mn, na, wa, ta, q', g, f, _, hG, h4, rfl, rfl, rfl, rfl, n3, n1, k3, k4, n2, fun j hj => ?_, k5, k8, k7, k6, i, _, hi, hG, Or.inl rfl⟩
    obtain ⟨s, e1, e2, e3⟩ := n4 j hj
    exact ⟨s, e1, by omega, by rw [e1]; exact nI_ne0 (by omega) (by omega)⟩
  · rw [k1] at h3; cases h3; rw [hk] at h4; exact absurd (Value.int.inj (Option.some.inj h4)) (by decide)
  · rw [k1] at h3; cases h3; rw [hk] at h4; exact absurd (Value.int.inj (Option.some.inj h4)) (by decide)
/-- rows of types only fill -/
def mnF (L : List Nat) (F F2 : Nat → va_E) (kT : ClassId) : Prop := ∀ a ∈ L, ∀ n : Nat, rwF F kT a n → rwF F2 kT a n
theorem mnF.tr {L L1 : List Nat} {F F1 F2 : Nat → va_E} {kT : ClassId} (h : mnF L F F1 kT) (hL : ∀ a ∈ L, a ∈ L1) (g : mnF L1 F1 F2 kT) : mnF L F F2 kT := fun a ha n q => g a (hL a ha) n (h a ha n q)
theorem mnF_ex {L L2 : List Nat} {F F2 : Nat → va_E} {kT : ClassId} (hx : exS L F L2 F2) : mnF L F F2 kT := fun _ ha _ q => rwF_ex hx ha q
theorem rwT_gr {L L2 : List Nat} {F F2 G G2 : Nat → va_E} {kT : ClassId} {xI : Nat → Nat} {im tm tm2 : Nat} {Y Y2 : Nat → Int32 × Int32 × Option Nat} {ad ad2 : Nat → Nat} (h : rwT F G kT xI im tm ad) (hL : ∀ a : Nat, trow G2 xI im a → trow G xI im a ∧ a ∈ L) (hx : exS L F L2 F2) (ht : tX L G tm Y ad L2 G2 tm2 Y2 ad2) : rwT F2 G2 kT xI im tm2 ad2 := fun a ha c2 f2 hF k x hk => by
  obtain ⟨h1, h2⟩ := hL a ha
  rw [(hx a h2).2] at hF
  obtain ⟨t, h3, h4⟩ := h a h1 c2 f2 hF k x hk
  exact ⟨t, Nat.lt_of_lt_of_le h3 ht.2.1, h4.trans (ht.2.2 t h3).2.symm⟩
theorem trow_ex {L L2 : List Nat} {G G2 : Nat → va_E} {fk : Nat → Int32} {kE kI kS kB kA kV kW kT kP : ClassId} {fi : Nat → Option Nat} {im : Nat} {xI ps ms : Nat → Nat} {ik : Nat → Int32} {qz : Nat} (hi : itD L G fk kE kI kS kB kA kV kW kT kP fi im xI ps ms ik qz) (hx : exS L G L2 G2) {a : Nat} (h : trow G xI im a) : trow G2 xI im a := by
  obtain ⟨i, fs, h1, h2, h3⟩ := h
  obtain ⟨_, h5, _⟩ := hi.2.2.2.1 i h1
  refine ⟨i, fs, h1, (hx _ h5.1).2.trans h2, ?_⟩
  have h6 := h5
  obtain ⟨_, _, _, mn, na, g, n1, n2, n3, n4, h8⟩ := h6
  rcases h3 with h3 | ⟨vr2, cap, k, pa, mn2, kQ, f2, gs, m1, m2, m3, h3, h9, h10, h11, h12⟩
  · exact Or.inl h3
  · rcases h8 with ⟨wa, ta, q', f, k1, _⟩ | ⟨vr, q', f, k1, k2, k3, k4, k5, k6⟩ | ⟨lv, wa, ta, pa, lf, lo, q', va, b, bl, rs, f, gl, k1, _⟩
    · rw [k1] at h2; cases h2; cases h3
    · rw [k1] at h2; cases h2
      have e1 : mn = mn2 := (nI_eq (by omega) (by omega)).mp (Value.int.inj (Option.some.inj m1))
      have e2 : vr = vr2 := Value.ref.inj (Option.some.inj h3)
      subst e1; subst e2
      have h9' := h9
      rw [k4] at h9; cases h9
      obtain ⟨ps9, _, _, e3⟩ := k6
      obtain ⟨t, p', q2, e4, _, _, e5⟩ := e3.1 k m3
      rw [h10] at e4; cases e4
      exact Or.inr ⟨vr, _, k, pa, mn, _, _, gs, rfl, n3, m3, rfl, (hx _ k3).2.trans k4, h10, (hx _ e5.1).2.trans h11, h12⟩
    · rw [k1] at h2; cases h2; cases h3
/-- the rows of types stay what they are as the store grows -/
theorem trow_gr {L L2 : List Nat} {G G2 : Nat → va_E} {fk : Nat → Int32} {kE kI kS kB kA kV kW kT kP : ClassId} {fi : Nat → Option Nat} {im : Nat} {xI ps ms : Nat → Nat} {ik : Nat → Int32} {qz : Nat} (hi : itD L G fk kE kI kS kB kA kV kW kT kP fi im xI ps ms ik qz) (hx : exS L G L2 G2) (a : Nat) (h : trow G2 xI im a) : trow G xI im a ∧ a ∈ L := by
  obtain ⟨i, fs, h1, h2, h3⟩ := h
  obtain ⟨_, h5, _⟩ := hi.2.2.2.1 i h1
  rw [(hx _ h5.1).2] at h2
  have h6 := h5
  obtain ⟨_, _, _, mn, na, g, n1, n2, n3, n4, h8⟩ := h6
  rcases h8 with ⟨wa, ta, q', f, k1, k2, k3, k4, _⟩ | ⟨vr, q', f, k1, k2, k3, k4, k5, k6⟩ | ⟨lv, wa, ta, pa, lf, lo, q', va, b, bl, rs, f, gl, k1, k2, k3, _⟩
  · rw [k1] at h2; cases h2
    rcases h3 with h3 | ⟨vr, cap, k, pa, mn2, kQ, f2, gs, _, _, _, h3, _⟩
    · cases h3; exact ⟨⟨i, _, h1, k1, Or.inl rfl⟩, k4⟩
    · cases h3
  · rw [k1] at h2; cases h2
    rcases h3 with h3 | ⟨vr2, cap, k, pa, mn2, kQ, f2, gs, m1, m2, m3, h3, h9, h10, h11, h12⟩
    · cases h3
    · have e1 : mn = mn2 := (nI_eq (by omega) (by omega)).mp (Value.int.inj (Option.some.inj m1))
      have e2 : vr = vr2 := Value.ref.inj (Option.some.inj h3)
      subst e1; subst e2
      rw [(hx _ k3).2, k4] at h9; cases h9
      obtain ⟨ps9, _, _, e3⟩ := k6
      obtain ⟨t, p', q2, e4, _, _, e5⟩ := e3.1 k m3
      rw [h10] at e4; cases e4
      have h13 := h11
      rw [(hx _ e5.1).2] at h11
      rcases e5.2.2 with e6 | ⟨wa, ta, mk, q4, f4, e6, e7, e8, e9, _⟩
      · rw [h11] at e6; cases e6; cases h12
      · have h14 := h11
        rw [h11] at e6; cases e6; cases h12
        exact ⟨⟨i, _, h1, k1, Or.inr ⟨vr, _, k, pa, mn, _, _, _, rfl, n3, m3, rfl, k4, h10, h14, rfl⟩⟩, e9⟩
  · rw [k1] at h2; cases h2
    rcases h3 with h3 | ⟨vr, cap, k, pa, mn2, kQ, f2, gs, _, _, _, h3, _⟩
    · cases h3; exact ⟨⟨i, _, h1, k1, Or.inl rfl⟩, k3⟩
    · cases h3
end
-- j9.d.lean.txt
section
/-- a row of 70 by 70 as a relation -/
def hB (f : Nat → Int32) (i j : Nat) : Prop := f (70 * i + j) ≠ 0
/-- closed over the middles below k -/
def wC (n k : Nat) (f : Nat → Int32) : Prop := ∀ i m j : Nat, i < n → m < n → j < n → m < k → hB f i m → hB f m j → hB f i j
/-- within round k, the pairs before (a, b) are done -/
def wI (n k a b : Nat) (f0 f : Nat → Int32) : Prop := (∀ i j : Nat, i < n → j < n → hB f0 i j → hB f i j) ∧ (∀ i j : Nat, i < n → j < n → hB f i j → hB f0 i j ∨ (hB f0 i k ∧ hB f0 k j)) ∧ ∀ i j : Nat, i < n → j < n → (i < a ∨ (i = a ∧ j < b)) → hB f0 i k → hB f0 k j → hB f i j
theorem wI_0 {n k : Nat} {f : Nat → Int32} : wI n k 0 0 f f := ⟨fun _ _ _ _ h => h, fun _ _ _ _ h => Or.inl h, fun i j _ _ h => absurd h (by omega)⟩
theorem wI_k {n k a b : Nat} {f0 f : Nat → Int32} (h : wI n k a b f0 f) (hk : k < n) {i : Nat} (hi : i < n) : hB f i k → hB f0 i k := fun q => (h.2.1 i k hi hk q).elim id (fun z => z.1)
theorem wI_k2 {n k a b : Nat} {f0 f : Nat → Int32} (h : wI n k a b f0 f) (hk : k < n) {j : Nat} (hj : j < n) : hB f k j → hB f0 k j := fun q => (h.2.1 k j hk hj q).elim id (fun z => z.2)
/-- the pair (a, b) is set -/
theorem wI_set {n k a b : Nat} {f0 f : Nat → Int32} (h : wI n k a b f0 f) (hn : n ≤ 70) (hk : k < n) (ha : a < n) (hb : b < n) (h1 : hB f a k) (h2 : hB f k b) : wI n k a (b + 1) f0 (upd f (70 * a + b) 1) := by
  have g1 := wI_k h hk ha h1
  have g2 := wI_k2 h hk hb h2
  have hu : ∀ i j : Nat, i < n → j < n → (hB (upd f (70 * a + b) 1) i j ↔ ((i = a ∧ j = b) ∨ hB f i j)) := fun i j hi hj => by
    unfold hB
    by_cases e : 70 * i + j = 70 * a + b
    · rw [e, pk_us]
      refine ⟨fun _ => Or.inl ⟨by omega, by omega⟩, fun _ => by decide⟩
    · rw [pk_un e]
      exact ⟨Or.inr, fun q => q.elim (fun z => absurd (by rw [z.1, z.2]) e) id⟩
  refine ⟨fun i j hi hj q => (hu i j hi hj).mpr (Or.inr (h.1 i j hi hj q)), fun i j hi hj q => ?_, fun i j hi hj q q1 q2 => ?_⟩
  · rcases (hu i j hi hj).mp q with ⟨e1, e2⟩ | q
    · rw [e1, e2]; exact Or.inr ⟨g1, g2⟩
    · exact h.2.1 i j hi hj q
  · by_cases e : i = a ∧ j = b
    · exact (hu i j hi hj).mpr (Or.inl e)
    · exact (hu i j hi hj).mpr (Or.inr (h.2.2 i j hi hj (by omega) q1 q2))
/-- the pair (a, b) has nothing to be set -/
theorem wI_no {n k a b : Nat} {f0 f : Nat → Int32} (h : wI n k a b f0 f) (hk : k < n) (ha : a < n) (hb : b < n) (hno : ¬ hB f a k ∨ ¬ hB f k b) : wI n k a (b + 1) f0 f := by
  refine ⟨h.1, h.2.1, fun i j hi hj q q1 q2 => ?_⟩
  by_cases e : i = a ∧ j = b
  · exfalso
    rw [e.1] at q1; rw [e.2] at q2
    exact hno.elim (fun z => z (h.1 a k ha hk q1)) (fun z => z (h.1 k b hk hb q2))
  · exact h.2.2 i j hi hj (by omega) q1 q2
theorem wI_row {n k a : Nat} {f0 f : Nat → Int32} (h : wI n k a n f0 f) : wI n k (a + 1) 0 f0 f := ⟨h.1, h.2.1, fun i j hi hj q q1 q2 => h.2.2 i j hi hj (by omega) q1 q2⟩
/-- a round is done: closed over one middle more -/
theorem wC_s {n k : Nat} {f0 f : Nat → Int32} (h0 : wC n k f0) (h : wI n k n 0 f0 f) (hk : k < n) : wC n (k + 1) f := by
  have hup : ∀ i j : Nat, i < n → j < n → hB f0 i k → hB f0 k j → hB f i j := fun i j hi hj => h.2.2 i j hi hj (Or.inl hi)
  intro i m j hi hm hj hmk q1 q2
  by_cases e : m = k
  · subst e
    exact hup i j hi hj (wI_k h hk hi q1) (wI_k2 h hk hj q2)
  · have hmk : m < k := by omega
    rcases h.2.1 i m hi hm q1 with a1 | ⟨a1, a2⟩
    · rcases h.2.1 m j hm hj q2 with b1 | ⟨b1, b2⟩
      · exact h.1 i j hi hj (h0 i m j hi hm hj hmk a1 b1)
      · exact hup i j hi hj (h0 i m k hi hm hk hmk a1 b1) b2
    · rcases h.2.1 m j hm hj q2 with b1 | ⟨b1, b2⟩
      · exact hup i j hi hj a1 (h0 k m j hk hm hj hmk a2 b1)
      · exact hup i j hi hj a1 b2
/-- how many j below n are held by i -/
def hN (f : Nat → Int32) (i : Nat) : Nat → Nat
  | 0 => 0
  | n + 1 => hN f i n + (if f (70 * i + n) = 0 then 0 else 1)
theorem hN_le {f : Nat → Int32} {i : Nat} : ∀ n : Nat, hN f i n ≤ n
  | 0 => Nat.le_refl _
  | n + 1 => by
    have := hN_le (f := f) (i := i) n
    show hN f i n + _ ≤ n + 1
    split <;> omega
theorem hN_mono {f : Nat → Int32} {i j : Nat} : ∀ n : Nat, (∀ l : Nat, l < n → hB f j l → hB f i l) → hN f j n ≤ hN f i n
  | 0, _ => Nat.le_refl _
  | n + 1, h => by
    have h1 := hN_mono n (fun l hl => h l (by omega))
    show hN f j n + _ ≤ hN f i n + _
    by_cases e : f (70 * j + n) = 0
    · rw [if_pos e]; omega
    · rw [if_neg e, if_neg (h n (by omega) e)]; omega
theorem hN_lt {f : Nat → Int32} {i j : Nat} : ∀ n l0 : Nat, l0 < n → (∀ l : Nat, l < n → hB f j l → hB f i l) → hB f i l0 → ¬ hB f j l0 → hN f j n < hN f i n
  | 0, _, h, _, _, _ => absurd h (by omega)
  | n + 1, l0, hl, h, h1, h2 => by
    show hN f j n + _ < hN f i n + _
    by_cases e : l0 = n
    · subst e
      have h3 := hN_mono (f := f) (i := i) (j := j) l0 (fun l hl => h l (by omega))
      have e1 : f (70 * j + l0) = 0 := Classical.byContradiction h2
      rw [if_pos e1, if_neg h1]; omega
    · have h3 := hN_lt n l0 (by omega) (fun l hl => h l (by omega)) h1 h2
      by_cases e : f (70 * j + n) = 0
      · rw [if_pos e]; omega
      · rw [if_neg e, if_neg (h n (by omega) e)]; omega
/-- i holds no circle -/
def noC (n : Nat) (f : Nat → Int32) (i : Nat) : Prop := ¬ hB f i i ∧ ∀ j : Nat, j < n → hB f i j → ¬ hB f j j
/-- what an item holds that holds no circle has fewer below it -/
theorem noC_dn {n : Nat} {f : Nat → Int32} {i j : Nat} (h : wC n n f) (hi : i < n) (hj : j < n) (hc : noC n f i) (hij : hB f i j) : noC n f j ∧ hN f j n < hN f i n := by
  have hjj := hc.2 j hj hij
  refine ⟨⟨hjj, fun l hl q => hc.2 l hl (h i j l hi hj hl hj hij q)⟩, hN_lt n j hj (fun l hl q => h i j l hi hj hl hj hij q) hij hjj⟩
end
