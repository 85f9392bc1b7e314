/-- an exp's way down over brackets, members and stars: enough to look whether it is a place -/
def pwE (L : List Nat) (F : Nat → va_E) : Nat → Nat → Prop
  | 0, _ => False
  | n + 1, a => a ∈ L ∧ ∃ (kd : Int32) (vo : Value) (fs : List Value), F a = .inr (15, fs) ∧ fs[0]? = some (.int kd) ∧ fs[8]? = some vo ∧ ((kd = 7 ∨ kd = 14 ∨ kd = 11) → ∃ o : Nat, vo = .ref o ∧ pwE L F n o)
/-- it is a place -/
def plE (F : Nat → va_E) : Nat → Nat → Prop
  | 0, _ => False
  | n + 1, a => ∃ (kd : Int32) (vo : Value) (fs : List Value), F a = .inr (15, fs) ∧ fs[0]? = some (.int kd) ∧ fs[8]? = some vo ∧ (kd = 2 ∨ ((kd = 7 ∨ kd = 14 ∨ kd = 11) ∧ ∃ o : Nat, vo = .ref o ∧ plE F n o))
theorem plE_dn {F : Nat → va_E} {n a o : Nat} {kd : Int32} {fs : List Value} (h1 : F a = .inr (15, fs)) (h2 : fs[0]? = some (.int kd)) (h3 : fs[8]? = some (.ref o)) (hk : kd = 7 ∨ kd = 14 ∨ kd = 11) : plE F (n + 1) a ↔ plE F n o := by
  constructor
  · rintro ⟨kd', vo', fs', g1, g2, g3, g4⟩
    obtain rfl : fs' = fs := by rw [h1] at g1; cases g1; rfl
    obtain rfl : kd' = kd := by rw [h2] at g2; cases g2; rfl
    obtain rfl : vo' = .ref o := by rw [h3] at g3; cases g3; rfl
    rcases g4 with g4 | ⟨_, o', e, g4⟩
    · rcases hk with hk | hk | hk <;> rw [hk] at g4 <;> exact absurd g4 (by decide)
    · cases e; exact g4
  · intro h
    exact ⟨kd, .ref o, fs, h1, h2, h3, Or.inr ⟨hk, o, rfl, h⟩⟩
theorem plE_end {F : Nat → va_E} {n a : Nat} {kd : Int32} {vo : Value} {fs : List Value} (h1 : F a = .inr (15, fs)) (h2 : fs[0]? = some (.int kd)) (h3 : fs[8]? = some vo) (hk : ¬ (kd = 7 ∨ kd = 14 ∨ kd = 11)) : plE F (n + 1) a ↔ kd = 2 := by
  constructor
  · rintro ⟨kd', vo', fs', g1, g2, g3, g4⟩
    obtain rfl : fs' = fs := by rw [h1] at g1; cases g1; rfl
    obtain rfl : kd' = kd := by rw [h2] at g2; cases g2; rfl
    rcases g4 with g4 | ⟨g4, _⟩
    · exact g4
    · exact absurd g4 hk
  · intro h
    exact ⟨kd, vo, fs, h1, h2, h3, Or.inl h⟩
theorem isE_pw {L : List Nat} {F : Nat → va_E} {kE kI : ClassId} : ∀ {n k a p q b c : Nat}, isE L F kE kI n k a p q b c → pwE L F n a
  | 0, _, _, _, _, _, _, h => h.elim
  | n + 1, k, a, p, q, b, c, h => by
    refine ⟨h.1, ?_⟩
    rcases h.2.2 with ⟨kd, num, k1, k2, k3⟩ | ⟨k2, k3⟩ | ⟨kd, o, p', q', k1, k2, k3, k4, k5⟩ | ⟨mu, o, p', k1, k2, k3, k5⟩ | ⟨o, nm, q', k2, k3, k4, k5⟩ | ⟨o, q1, b1, mn, li, si, k2, k3, k5, k6⟩ | ⟨kd, sg, nm, mn, p', z9, li, si, k2, k3, k5⟩
    · exact ⟨kd, _, _, k2, rfl, rfl, fun z => by rcases k1 with rfl | rfl | rfl <;> exact absurd z (by decide)⟩
    · exact ⟨2, _, _, k2, rfl, rfl, fun z => absurd z (by decide)⟩
    · exact ⟨kd, _, _, k2, rfl, rfl, fun _ => ⟨o, rfl, isE_pw k5⟩⟩
    · exact ⟨12, _, _, k2, rfl, rfl, fun z => absurd z (by decide)⟩
    · exact ⟨14, _, _, k2, rfl, rfl, fun _ => ⟨o, rfl, isE_pw k5⟩⟩
    · exact ⟨8, _, _, k2, rfl, rfl, fun z => absurd z (by decide)⟩
    · exact ⟨kd, _, _, k2, rfl, rfl, fun z => by rcases k3 with ⟨rfl, _⟩ | ⟨rfl, _⟩ | ⟨rfl, _⟩ <;> exact absurd z (by decide)⟩
