/-- a call takes its values off, the last first: s, t: how many temps stand, what its result may hold -/
def lnCl (rl : Int32) (pl : Nat → Int32) (ft : Nat → Int64) : Nat → Nat × Int64 → Nat × Int64 → Prop
  | 0, s, t => t = s
  | p + 1, s, t => ∃ (tn2 : Nat) (x : Int64), (tn2, x) = popF ft 1 s.1 0 ∧ lnCl rl pl ft p (tn2, if rl < 0 then s.2 ||| x else if pl p = rl then s.2 ||| x else s.2) t
/-- a call of a function with np parameters, result rs, lives rl, pl -/
def lnCa (ak : Nat → Int32) (np rs rl : Int32) (pl : Nat → Int32) (s t : lnT) : Prop := ∃ (n : Nat) (x : Int64) (t1 : Nat) (gt : Nat → Int64) (tn2 : Nat), np = nI n ∧ n ≤ 12 ∧ lnCl rl pl s.2.2.2.2.2.2.1 n (s.2.2.2.2.2.2.2.1, 0) (t1, x) ∧ ((rfB ak rs ∧ psR s.2.2.2.2.2.2.1 t1 x gt tn2) ∨ (¬ rfB ak rs ∧ psR s.2.2.2.2.2.2.1 t1 0 gt tn2)) ∧ t = lnSt s s.1 s.2.2.2.2.2.1 gt tn2 s.2.2.2.2.2.2.2.2
/-- a value is pushed that holds x -/
def lnPu (x : Int64) (s t : lnT) : Prop := ∃ (gt : Nat → Int64) (tn2 : Nat), psR s.2.2.2.2.2.2.1 s.2.2.2.2.2.2.2.1 x gt tn2 ∧ t = lnSt s s.1 s.2.2.2.2.2.1 gt tn2 s.2.2.2.2.2.2.2.2
/-- the function's tables: kinds of types, types of variables, from, to; the lives of the result; the functions: how many, numbers, rows -/
abbrev lnQ := (Nat → Int32) × (Nat → Int32) × (Nat → Int32) × (Nat → Int32) × Int32 × Nat × (Nat → Nat → Int32) × (Nat → Nat → Nat → Int32)
def lnGb (F : tF) (C : lnC) (Q : lnQ) (i : Nat) (s t : lnT) : Prop := ∃ (x : Int64) (f1 g6 : Int32) (g8 : Nat), ((F 2 i = 1 ∧ (g8, x) = popF s.2.2.2.2.2.2.1 1 s.2.2.2.2.2.2.2.1 0) ∨ (F 2 i ≠ 1 ∧ g8 = s.2.2.2.2.2.2.2.1 ∧ x = 0)) ∧ f1 = (if Q.2.2.2.2.1 < 0 then s.2.2.2.2.2.1 else if lg_cmp ((((x.toUInt64 >>> ((54 : Int32).toInt64.toUInt64 &&& Int64.toUInt64 63)).toInt64) <<< ((54 : Int32).toInt64 &&& 63)) &&& (((1 : Int64) <<< ((if Q.2.2.2.2.1 < 0 then (62 : Int32) else 54 + Q.2.2.2.2.1).toInt64 &&& 63)) ^^^ -1)) 0 = 0 then s.2.2.2.2.2.1 else tlF s.2.2.2.2.2.1 (F 3 i)) ∧ lnGv F C Q.1 Q.2.1 Q.2.2.1 Q.2.2.2.1 i x C.2.2.2.2.2 f1 g6 ∧ t = (s.1, s.2.1, s.2.2.1, 0, s.2.2.2.2.1, g6, s.2.2.2.2.2.2.1, g8, s.2.2.2.2.2.2.2.2)
def lnLk (F : tF) (C : lnC) (Q : lnQ) (i : Nat) (s t : lnT) : Nat → Prop
  | 0 => lnPu 0 s t
  | 1 => lnPu 0 s t
  | 9 => lnPu 0 s t
  | 11 => lnPu 0 s t
  | 2 => ∃ (p v : Nat) (u : lnT), F 1 i = nI p ∧ p < 3001 ∧ F 6 p = nI v ∧ v < 40 ∧ u = lnSt s s.1 (lnAc F C i p v 0 s) s.2.2.2.2.2.2.1 s.2.2.2.2.2.2.2.1 s.2.2.2.2.2.2.2.2 ∧ ((rfB Q.1 (F 10 p) ∧ lnPu (s.1 v) u t) ∨ (¬ rfB Q.1 (F 10 p) ∧ lnPu 0 u t))
  | 3 => ∃ (p v : Nat) (u : lnT), F 1 i = nI p ∧ p < 3001 ∧ F 6 p = nI v ∧ v < 40 ∧ u = lnSt s s.1 (lnAc F C i p v 1 s) s.2.2.2.2.2.2.1 s.2.2.2.2.2.2.2.1 s.2.2.2.2.2.2.2.2 ∧ ((rfB Q.1 (F 10 p) ∧ lnPu (s.1 v) u t) ∨ (¬ rfB Q.1 (F 10 p) ∧ lnPu 0 u t))
  | 4 => lnBo F C Q.1 Q.2.1 i s t
  | 7 => lnPo 1 s t
  | 10 => lnPo 1 s t
  | 27 => lnPo 1 s t
  | 28 => lnPo 1 s t
  | 12 => ∃ n : Nat, n ≤ 12 ∧ F 2 i = nI n ∧ lnPo n s t
  | 21 => ∃ g : Nat, F 1 i = nI g ∧ g < Q.2.2.2.2.2.1 ∧ lnCa Q.1 (Q.2.2.2.2.2.2.1 g 3) (Q.2.2.2.2.2.2.1 g 5) (Q.2.2.2.2.2.2.1 g 6) (Q.2.2.2.2.2.2.2 g 1) s t
  | 22 => lnGb F C Q i s t
  | 24 => ∃ (v : Nat) (x : Int64) (tn2 : Nat), F 1 i = nI v ∧ v < 40 ∧ (tn2, x) = popF s.2.2.2.2.2.2.1 1 s.2.2.2.2.2.2.2.1 0 ∧ t = lnSt s (vp_updL s.1 v x) s.2.2.2.2.2.1 s.2.2.2.2.2.2.1 tn2 s.2.2.2.2.2.2.2.2
  | 25 => ∃ v : Nat, F 1 i = nI v ∧ v < 40 ∧ t = lnSt s (vp_updL s.1 v 0) s.2.2.2.2.2.1 s.2.2.2.2.2.2.1 s.2.2.2.2.2.2.2.1 s.2.2.2.2.2.2.2.2
  | 29 => ∃ v : Nat, F 1 i = nI v ∧ v < 40 ∧ t = lnSt s (vp_updL s.1 v 0) s.2.2.2.2.2.1 s.2.2.2.2.2.2.1 s.2.2.2.2.2.2.2.1 s.2.2.2.2.2.2.2.2
  | 26 => lnAs F C Q.1 i s t
  | 30 => ∃ v b : Nat, F 1 i = nI v ∧ v < 40 ∧ F 3 i = nI b ∧ b < 54 ∧ t = lnSt s (vp_updL s.1 v (s.2.2.2.2.2.2.2.2 b)) s.2.2.2.2.2.1 s.2.2.2.2.2.2.1 s.2.2.2.2.2.2.2.1 s.2.2.2.2.2.2.2.2
  | 32 => ∃ (v0 v1 : Nat) (g1 : Nat → Int64) (g6 : Int32), F 1 i = nI v0 ∧ F 2 i = nI v1 ∧ v0 ≤ v1 ∧ v1 ≤ 40 ∧ lnLv F C Q.1 Q.2.1 i v0 s.2.2.2.2.2.2.1 s.2.2.2.2.2.2.2.1 (v1 - v0) (s.1, s.2.2.2.2.2.1) (g1, g6) ∧ t = lnSt s g1 g6 s.2.2.2.2.2.2.1 s.2.2.2.2.2.2.2.1 s.2.2.2.2.2.2.2.2
  | o => lnFl F C.2.2.2.2.2 i s t o
theorem lnLk_d {F : tF} {C : lnC} {Q : lnQ} {i : Nat} {s t : lnT} : ∀ o : Nat, o ≠ 0 → o ≠ 1 → o ≠ 2 → o ≠ 3 → o ≠ 4 → o ≠ 7 → o ≠ 9 → o ≠ 10 → o ≠ 11 → o ≠ 12 → o ≠ 21 → o ≠ 22 → o ≠ 24 → o ≠ 25 → o ≠ 26 → o ≠ 27 → o ≠ 28 → o ≠ 29 → o ≠ 30 → o ≠ 32 → lnFl F C.2.2.2.2.2 i s t o → lnLk F C Q i s t o
  | 0, h, _, _, _, _, _, _, _, _, _, _, _, _, _, _, _, _, _, _, _, q => absurd rfl h
  | 1, _, h, _, _, _, _, _, _, _, _, _, _, _, _, _, _, _, _, _, _, q => absurd rfl h
  | 2, _, _, h, _, _, _, _, _, _, _, _, _, _, _, _, _, _, _, _, _, q => absurd rfl h
  | 3, _, _, _, h, _, _, _, _, _, _, _, _, _, _, _, _, _, _, _, _, q => absurd rfl h
  | 4, _, _, _, _, h, _, _, _, _, _, _, _, _, _, _, _, _, _, _, _, q => absurd rfl h
  | 5, _, _, _, _, _, _, _, _, _, _, _, _, _, _, _, _, _, _, _, _, q => q
  | 6, _, _, _, _, _, _, _, _, _, _, _, _, _, _, _, _, _, _, _, _, q => q
  | 7, _, _, _, _, _, h, _, _, _, _, _, _, _, _, _, _, _, _, _, _, q => absurd rfl h
  | 8, _, _, _, _, _, _, _, _, _, _, _, _, _, _, _, _, _, _, _, _, q => q
  | 9, _, _, _, _, _, _, h, _, _, _, _, _, _, _, _, _, _, _, _, _, q => absurd rfl h
  | 10, _, _, _, _, _, _, _, h, _, _, _, _, _, _, _, _, _, _, _, _, q => absurd rfl h
  | 11, _, _, _, _, _, _, _, _, h, _, _, _, _, _, _, _, _, _, _, _, q => absurd rfl h
  | 12, _, _, _, _, _, _, _, _, _, h, _, _, _, _, _, _, _, _, _, _, q => absurd rfl h
  | 13, _, _, _, _, _, _, _, _, _, _, _, _, _, _, _, _, _, _, _, _, q => q
  | 14, _, _, _, _, _, _, _, _, _, _, _, _, _, _, _, _, _, _, _, _, q => q
  | 15, _, _, _, _, _, _, _, _, _, _, _, _, _, _, _, _, _, _, _, _, q => q
  | 16, _, _, _, _, _, _, _, _, _, _, _, _, _, _, _, _, _, _, _, _, q => q
  | 17, _, _, _, _, _, _, _, _, _, _, _, _, _, _, _, _, _, _, _, _, q => q
  | 18, _, _, _, _, _, _, _, _, _, _, _, _, _, _, _, _, _, _, _, _, q => q
  | 19, _, _, _, _, _, _, _, _, _, _, _, _, _, _, _, _, _, _, _, _, q => q
  | 20, _, _, _, _, _, _, _, _, _, _, _, _, _, _, _, _, _, _, _, _, q => q
  | 21, _, _, _, _, _, _, _, _, _, _, h, _, _, _, _, _, _, _, _, _, q => absurd rfl h
  | 22, _, _, _, _, _, _, _, _, _, _, _, h, _, _, _, _, _, _, _, _, q => absurd rfl h
  | 23, _, _, _, _, _, _, _, _, _, _, _, _, _, _, _, _, _, _, _, _, q => q
  | 24, _, _, _, _, _, _, _, _, _, _, _, _, h, _, _, _, _, _, _, _, q => absurd rfl h
  | 25, _, _, _, _, _, _, _, _, _, _, _, _, _, h, _, _, _, _, _, _, q => absurd rfl h
  | 26, _, _, _, _, _, _, _, _, _, _, _, _, _, _, h, _, _, _, _, _, q => absurd rfl h
  | 27, _, _, _, _, _, _, _, _, _, _, _, _, _, _, _, h, _, _, _, _, q => absurd rfl h
  | 28, _, _, _, _, _, _, _, _, _, _, _, _, _, _, _, _, h, _, _, _, q => absurd rfl h
  | 29, _, _, _, _, _, _, _, _, _, _, _, _, _, _, _, _, _, h, _, _, q => absurd rfl h
  | 30, _, _, _, _, _, _, _, _, _, _, _, _, _, _, _, _, _, _, h, _, q => absurd rfl h
  | 31, _, _, _, _, _, _, _, _, _, _, _, _, _, _, _, _, _, _, _, _, q => q
  | 32, _, _, _, _, _, _, _, _, _, _, _, _, _, _, _, _, _, _, _, h, q => absurd rfl h
  | _ + 33, _, _, _, _, _, _, _, _, _, _, _, _, _, _, _, _, _, _, _, _, q => q
theorem psR_le {ft : Nat → Int64} {tn tn2 : Nat} {x : Int64} {gt : Nat → Int64} (h : psR ft tn x gt tn2) : tn2 ≤ 512 := by
  rcases h with z | z <;> omega
/-- one instruction of the pass -/
def lnR (F : tF) (C : lnC) (Q : lnQ) (i : Nat) (s t : lnT) : Prop := ∃ o : Nat, F 0 i = nI o ∧ o < 33 ∧ (((o = 13 ∨ o = 14) ∧ ∃ L : Nat, F 1 i = nI L ∧ L < 1100 ∧ t.2.1 = s.2.1 ∧ t.2.2.1 = s.2.2.1 ∧ t.2.2.2.2 = s.2.2.2.2 ∧ ((s.2.2.1 L = 0 ∧ t = s) ∨ (s.2.2.1 L ≠ 0 ∧ jnL L C.2.2.2.2.2 s.2.2.2.1 s.2.1 s.1 t.1 ∧ t.2.2.2.1 = 1))) ∨ (o ≠ 13 ∧ o ≠ 14 ∧ ((s.2.2.2.1 = 0 ∧ t = s) ∨ (s.2.2.2.1 ≠ 0 ∧ lnLk F C Q i s t o))))
/-- the pass from a to b -/
def lnP (F : tF) (C : lnC) (Q : lnQ) (a b : Nat) (s t : lnT) : Prop := ∃ h : Nat → lnT, h a = s ∧ h b = t ∧ ∀ i : Nat, a ≤ i → i < b → lnR F C Q i (h i) (h (i + 1))
theorem lnP_0 {F : tF} {C : lnC} {Q : lnQ} {a : Nat} {s : lnT} : lnP F C Q a a s s := ⟨fun _ => s, rfl, rfl, fun i h1 h2 => absurd h1 (by omega)⟩
theorem lnP_S {F : tF} {C : lnC} {Q : lnQ} {a b : Nat} {s t u : lnT} (h : lnP F C Q a b s t) (hab : a ≤ b) (hr : lnR F C Q b t u) : lnP F C Q a (b + 1) s u := by
  obtain ⟨f, f1, f2, f3⟩ := h
  refine ⟨fun i => if i = b + 1 then u else f i, ?_, if_pos rfl, fun i h1 h2 => ?_⟩
  · show (if a = b + 1 then u else f a) = s
    rw [if_neg (by omega)]; exact f1
  · show lnR F C Q i (if i = b + 1 then u else f i) (if i + 1 = b + 1 then u else f (i + 1))
    rw [if_neg (show ¬ i = b + 1 by omega)]
    by_cases e : i = b
    · rw [if_pos (by omega), e, f2]; exact hr
    · rw [if_neg (by omega)]; exact f3 i h1 (by omega)
