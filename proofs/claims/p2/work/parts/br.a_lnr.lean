/-- Loans' state: what variables hold, rows, reached, is it reached, again, the first fault, temps, how many, what a loan's reference holds -/
abbrev lnT := (Nat → Int64) × (Nat → Int64) × (Nat → Int32) × Int32 × Int32 × Int32 × (Nat → Int64) × Nat × (Nat → Int64)
def lnSt (s : lnT) (hd : Nat → Int64) (fi : Int32) (ft : Nat → Int64) (tn : Nat) (hb : Nat → Int64) : lnT := (hd, s.2.1, s.2.2.1, s.2.2.2.1, s.2.2.2.2.1, fi, ft, tn, hb)
/-- the type is a reference's -/
def rfB (ak : Nat → Int32) (x : Int32) : Prop := ¬ x < 0 ∧ (ak (cN x) = 5 ∨ ak (cN x) = 6)
/-- push -/
def psR (ft : Nat → Int64) (tn : Nat) (x : Int64) (gt : Nat → Int64) (tn2 : Nat) : Prop := (tn < 512 ∧ tn2 = tn + 1 ∧ gt = vp_updL ft tn x) ∨ (tn = 512 ∧ tn2 = tn ∧ gt = ft)
/-- the tables of a function's loans: usedBehind, loansOn, shared, placeOf, how many, variables -/
abbrev lnC := (Nat → Int64) × (Nat → Int64) × Int64 × (Nat → Int32) × Nat × Nat
/-- the first fault behind an access of place p on v at i -/
def lnAc (F : tF) (C : lnC) (i p v : Nat) (ms : Int32) (s : lnT) : Int32 := if lg_cmp (acN ms (C.2.1 v) C.2.2.1) 0 = 0 then s.2.2.2.2.2.1 else acF (acN ms (C.2.1 v) C.2.2.1 &&& orV (C.1 i) s.1 (orT s.2.2.2.2.2.2.1 s.2.2.2.2.2.2.2.1) C.2.2.2.2.2) (F 11 p) (fun k => ovB (F 8 p) (F 8 (C.2.2.2.1 k).toNatClampNeg) (F 7 p) (F 7 (C.2.2.2.1 k).toNatClampNeg)) s.2.2.2.2.2.1 C.2.2.2.2.1
def lnBo (F : tF) (C : lnC) (ak et : Nat → Int32) (i : Nat) (s t : lnT) : Prop := ∃ (p v b : Nat) (x : Int64) (gt : Nat → Int64) (tn2 : Nat), F 1 i = nI p ∧ p < 3001 ∧ F 6 p = nI v ∧ v < 40 ∧ F 2 i = nI b ∧ b < 54 ∧ ((rfB ak (et v) ∧ x = bt b ||| s.1 v) ∨ (¬ rfB ak (et v) ∧ x = bt b ||| 0)) ∧ psR s.2.2.2.2.2.2.1 s.2.2.2.2.2.2.2.1 x gt tn2 ∧ t = lnSt s s.1 (lnAc F C i p v (if F 3 i = 1 then 1 else 0) s) gt tn2 (vp_updL s.2.2.2.2.2.2.2.2 b x)
def lnAs (F : tF) (C : lnC) (ak : Nat → Int32) (i : Nat) (s t : lnT) : Prop := ∃ (p v : Nat) (x : Int64) (tn2 : Nat), F 1 i = nI p ∧ p < 3001 ∧ F 6 p = nI v ∧ v < 40 ∧ (tn2, x) = popF s.2.2.2.2.2.2.1 1 s.2.2.2.2.2.2.2.1 0 ∧ ((rfB ak (F 10 p) ∧ t = lnSt s (vp_updL s.1 v x) s.2.2.2.2.2.1 s.2.2.2.2.2.2.1 tn2 s.2.2.2.2.2.2.2.2) ∨ (¬ rfB ak (F 10 p) ∧ t = lnSt s s.1 (lnAc F C i p v 1 (lnSt s s.1 s.2.2.2.2.2.1 s.2.2.2.2.2.2.1 tn2 s.2.2.2.2.2.2.2.2)) s.2.2.2.2.2.2.1 tn2 s.2.2.2.2.2.2.2.2))
/-- variables from v0 on, d of them, go out of scope, the latest first -/
def lnLv (F : tF) (C : lnC) (ak et : Nat → Int32) (i v0 : Nat) (ft : Nat → Int64) (tn : Nat) : Nat → (Nat → Int64) × Int32 → (Nat → Int64) × Int32 → Prop
  | 0, s, t => t = s
  | d + 1, s, t => ∃ f1 : Int32, ((rfB ak (et (v0 + d)) ∧ f1 = s.2) ∨ (¬ rfB ak (et (v0 + d)) ∧ f1 = (if lg_cmp (C.2.1 (v0 + d) &&& orV (C.1 i) s.1 (orT ft tn) C.2.2.2.2.2) 0 = 0 then s.2 else tlF s.2 (F 4 i)))) ∧ lnLv F C ak et i v0 ft tn d (vp_updL s.1 (v0 + d) 0, f1) t
/-- what a return at i tells of the lowest d variables, from the latest on; x: what it holds -/
def lnGv (F : tF) (C : lnC) (ak et ef ez : Nat → Int32) (i : Nat) (x : Int64) : Nat → Int32 → Int32 → Prop
  | 0, f, g => g = f
  | d + 1, f, g => ∃ f1 : Int32, (((ef d ≤ nI i ∧ nI i < ez d ∧ ¬ rfB ak (et d) ∧ lg_cmp (C.2.1 d &&& x) 0 ≠ 0) ∧ f1 = tlF f (F 4 i)) ∨ (¬ (ef d ≤ nI i ∧ nI i < ez d ∧ ¬ rfB ak (et d) ∧ lg_cmp (C.2.1 d &&& x) 0 ≠ 0) ∧ f1 = f)) ∧ lnGv F C ak et ef ez i x d f1 g
theorem popF_le : ∀ {k tn tn2 : Nat} {x r : Int64} {ft : Nat → Int64}, (tn2, r) = popF ft k tn x → tn ≤ 512 → tn2 ≤ 512
  | 0, tn, tn2, x, r, ft, h, ht => by
    have e : tn2 = tn := congrArg Prod.fst h
    omega
  | _ + 1, 0, tn2, x, r, ft, h, ht => by
    have e : tn2 = 0 := congrArg Prod.fst h
    omega
  | k + 1, tn + 1, tn2, x, r, ft, h, ht => popF_le (k := k) (tn := tn) h (by omega)
theorem rfB_of {ak : Nat → Int32} {x r : Int32} (hx : x < 0 ∨ ∃ k : Nat, k < 3040 ∧ x = nI k) (h : (r = 1 ∧ ∃ k : Nat, k < 3040 ∧ x = nI k ∧ (ak k = 5 ∨ ak k = 6)) ∨ (r = 0 ∧ ∀ k : Nat, k < 3040 → x = nI k → ak k ≠ 5 ∧ ak k ≠ 6)) : (r = 1 ∧ rfB ak x) ∨ (r = 0 ∧ ¬ rfB ak x) := by
  rcases h with ⟨h1, k, h2, h3, h4⟩ | ⟨h1, h2⟩
  · refine Or.inl ⟨h1, ?_⟩
    rw [h3]
    exact ⟨nI_pos (by omega), by rw [cN_nI (by omega)]; exact h4⟩
  · refine Or.inr ⟨h1, fun q => ?_⟩
    rcases hx with z | ⟨k, z1, z2⟩
    · exact q.1 z
    · obtain ⟨y1, y2⟩ := h2 k z1 z2
      have q2 := q.2
      rw [z2, cN_nI (by omega)] at q2
      exact q2.elim y1 y2
