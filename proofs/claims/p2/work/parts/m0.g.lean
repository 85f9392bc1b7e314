section LY6
variable {R : yR} {S0 S S1 A : Sg} {P h L : Nat} {Γ Γ2 : List Nat} {α : Type} {K : Ky}
theorem LX.vv (hx : LX S S1) {ci k : Nat} {o : Option Nat} {v : Value} (h1 : ci ≠ 21) (h2 : ci ≠ 16) (e : ov S ci o k = some v) : ov S1 ci o k = some v := by
  obtain ⟨a, fs, rfl, e2, e3, e4⟩ := ov_of e
  obtain ⟨g1, g2⟩ := hx.ob e2 e3 h1 h2
  exact ov_mk g1 g2 e4
theorem LX.vi (hx : LX S S1) {ci k : Nat} {o : Option Nat} {v : Int32} (h1 : ci ≠ 21) (h2 : ci ≠ 16) (e : oI S ci o k = some v) : oI S1 ci o k = some v := by
  unfold oI at e ⊢
  cases h : ov S ci o k with
  | none => rw [h] at e; cases e
  | some w => rw [h] at e; rw [hx.vv h1 h2 h]; exact e
theorem LX.vr (hx : LX S S1) {ci k : Nat} {o v : Option Nat} (h1 : ci ≠ 21) (h2 : ci ≠ 16) (e : oR S ci o k = some v) : oR S1 ci o k = some v := by
  unfold oR at e ⊢
  cases h : ov S ci o k with
  | none => rw [h] at e; cases e
  | some w => rw [h] at e; rw [hx.vv h1 h2 h]; exact e
/-- bare, depth: in the laying as behind the typing -/
theorem LX.bare2 (hx : LX S S1) : ∀ {m : Nat} {o r : Option Nat}, f_bare_2 K m S o = some (S, r) → f_bare_2 K m S1 o = some (S1, r)
  | 0, _, _, e => by cases e
  | m + 1, o, r, e => by
    unfold f_bare_2 at e ⊢
    cases h : oI S 15 o 0 with
    | none => rw [h] at e; cases e
    | some v =>
      rw [h] at e
      rw [hx.vi (by decide) (by decide) h]
      have e : (if v = 7 then ((oR S 15 o 8).bind fun v2 => f_bare_2 K m S v2) else some (S, o)) = some (S, r) := e
      show (if v = 7 then ((oR S1 15 o 8).bind fun v2 => f_bare_2 K m S1 v2) else some (S1, o)) = some (S1, r)
      by_cases w : v = 7
      · rw [if_pos w] at e ⊢
        cases h2 : oR S 15 o 8 with
        | none => rw [h2] at e; cases e
        | some u =>
          rw [h2] at e
          rw [hx.vr (by decide) (by decide) h2]
          exact hx.bare2 (m := m) e
      · rw [if_neg w] at e ⊢
        cases e; rfl
theorem LX.bare (hx : LX S S1) {o r : Option Nat} (e : f_bare K S o = some (S, r)) : f_bare K S1 o = some (S1, r) := hx.bare2 e
theorem LX.dep7 (hx : LX S S1) : ∀ {n m d : Nat} {e p q v : Nat} {π : List (Nat × Nat)} {x mu mv : Nat}, (∀ a ∈ ZL R.S, a ∈ ZL S) → xPl R S Γ n e p q v π x mu mv → (∃ (kd : Int32) (fs : List Value), ZF S e = .inr (15, fs) ∧ fs[0]? = some (.int kd) ∧ (kd = 2 ∨ kd = 11 ∨ kd = 14)) → n ≤ m → n ≤ 1000 → f_depth_7 K m S1 (nI d) (some e) = some (S1, nI (d + π.length))
  | 0, _, _, _, _, _, _, _, _, _, _, _, h, _, _, _ => h.elim
  | n + 1, 0, _, _, _, _, _, _, _, _, _, _, _, _, hm, _ => absurd hm (by omega)
  | n + 1, m + 1, d, e, p, q, v, π, x, mu, mv, hL, h, hk, hm, hn => by
    obtain ⟨⟨h1, h2, h3⟩, h4, h5⟩ := h
    have hgo : ∀ {o p' q' y m2 w2 : Nat} {π2 : List (Nat × Nat)} {s : Nat × Nat} {kd : Int32} {fs : List Value}, ZF S e = .inr (15, fs) → fs[0]? = some (.int kd) → (kd = 14 ∨ kd = 11) → fs[8]? = some (.ref o) → xPl R S Γ n o p' q' v π2 y m2 w2 → π = π2 ++ [s] → f_depth_7 K (m + 1) S1 (nI d) (some e) = some (S1, nI (d + π.length)) := fun {o p' q' y m2 w2 π2 s kd fs} g1 g2 g3 g4 g5 g6 => by
      obtain ⟨n2, e2, p3, q3, a1, a2, a3, a4, a5, a6⟩ := bare_ (K := K) hL g5 (by omega)
      have a7 := hx.dep7 (m := m) (d := d + 1) hL a3 a6 (by omega) (by omega)
      have a2 := hx.bare a2
      have h25 : f_depth_25 K (f_depth_7 K m) S1 (nI d) (some e) = some (S1, nI (d + π.length)) := by
        unfold f_depth_25
        rw [hx.vr (by decide) (by decide) (oR_mk (hL e h1) g1 (v := some o) g4), Option.bind_some, a2]
        show f_depth_7 K m S1 (nI d + 1) (some e2) = _
        rw [nI_1, a7, g6, List.length_append]
        show some (S1, nI (d + 1 + π2.length)) = some (S1, nI (d + (π2.length + 1)))
        rw [show d + 1 + π2.length = d + (π2.length + 1) by omega]
      unfold f_depth_7
      rw [hx.vi (by decide) (by decide) (oI_mk (hL e h1) g1 g2)]
      show (if kd = 14 then _ else if kd = 11 then _ else _) = _
      rcases g3 with w | w
      · rw [if_pos w]; exact h25
      · rw [if_neg (by rw [w]; decide), if_pos w]; exact h25
    rcases h5 with ⟨ix, nm, k1, k2, k3, k4, k5, k6⟩ | ⟨o, p', q', k1, k2, k3, k4⟩ | ⟨o, p', q', y, m2, w2, kd, π2, k1, k2, k3, k4, k5, k6, k7⟩ | ⟨o, nm, q', y, i, k, w2, π2, k1, k2, k3, k4, k5, k6, k7, k8⟩
    · unfold f_depth_7
      rw [hx.vi (by decide) (by decide) (oI_mk (hL e h1) k1 (v := 2) rfl), Option.bind_some, if_neg (by decide), Option.bind_some, if_neg (by decide), k2]
      rfl
    · obtain ⟨kd, fs, w1, w2, w3⟩ := hk
      rw [k1] at w1; cases w1; cases w2
      exact absurd w3 (by decide)
    · exact hgo k1 rfl (Or.inr rfl) rfl k4 k6
    · exact hgo k1 rfl (Or.inl rfl) rfl k4 k7
/-- isPlace reads exps only -/
theorem LX.isp2 (hx : LX S S1) : ∀ {m : Nat} {o : Option Nat} {r : Int32}, f_isPlace_2 K m S o = some (S, r) → f_isPlace_2 K m S1 o = some (S1, r)
  | 0, _, _, e => by cases e
  | m + 1, none, r, e => by
    unfold f_isPlace_2 at e ⊢
    rw [if_pos rfl] at e ⊢
    unfold f_isPlace_41 f_isPlace_57 f_isPlace_58 at e ⊢
    rw [if_pos rfl] at e ⊢
    exact congrArg (fun z : Option (Sg × Int32) => z.map (fun w => (S1, w.2))) e
  | m + 1, some a, r, e => by
    unfold f_isPlace_2 at e ⊢
    rw [if_neg (fun w => by cases w)] at e ⊢
    cases h : oI S 15 (some a) 0 with
    | none => rw [h] at e; cases e
    | some v =>
      have h2 := hx.vi (by decide) (by decide) h
      have h33 : f_isPlace_33 K (f_isPlace_2 K m) S (some a) = some (S, r) → f_isPlace_33 K (f_isPlace_2 K m) S1 (some a) = some (S1, r) := fun e => by
        unfold f_isPlace_33 at e ⊢
        cases h3 : oR S 15 (some a) 8 with
        | none => rw [h3] at e; cases e
        | some u =>
          rw [h3] at e
          rw [hx.vr (by decide) (by decide) h3]
          exact hx.isp2 (m := m) e
      have h41 : f_isPlace_41 K S (some a) = some (S, r) → f_isPlace_41 K S1 (some a) = some (S1, r) := fun e => by
        unfold f_isPlace_41 f_isPlace_57 f_isPlace_58 at e ⊢
        rw [if_neg (fun w => by cases w), h] at e
        rw [if_neg (fun w => by cases w), h2]
        have e : (if v = 2 then (zB 1).bind (fun _ => some (S, 1)) else (zB 0).bind (fun _ => some (S, 0))) = some (S, r) := e
        show (if v = 2 then (zB 1).bind (fun _ => some (S1, 1)) else (zB 0).bind (fun _ => some (S1, 0))) = some (S1, r)
        by_cases w : v = 2
        · rw [if_pos w] at e ⊢
          exact congrArg (fun z : Option (Sg × Int32) => z.map (fun w => (S1, w.2))) e
        · rw [if_neg w] at e ⊢
          exact congrArg (fun z : Option (Sg × Int32) => z.map (fun w => (S1, w.2))) e
      rw [h] at e
      rw [h2]
      simp only [Option.bind_some] at e ⊢
      by_cases w : v = 7
      · rw [if_pos w] at e ⊢; exact h33 e
      · rw [if_neg w] at e ⊢
        by_cases w : v = 14
        · rw [if_pos w] at e ⊢; exact h33 e
        · rw [if_neg w] at e ⊢
          by_cases w : v = 11
          · rw [if_pos w] at e ⊢; exact h33 e
          · rw [if_neg w] at e ⊢; exact h41 e
end LY6
