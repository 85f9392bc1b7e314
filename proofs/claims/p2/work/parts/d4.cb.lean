/-- the n-th value from below -/
def ent : List tE → Nat → Option tE
  | [], _ => none
  | e :: s, n => if e.1 = 8 ∨ e.1 = 4 ∨ e.1 = 5 ∨ e.1 = 6 then ent s n else if n = wl s then some e else ent s n
theorem ent_lt : ∀ {s : List tE} {n : Nat} {x : tE}, ent s n = some x → n < wl s
  | [], n, x, h => by
    have h : (none : Option tE) = some x := h
    simp at h
  | e :: s, n, x, h => by
    have h : (if e.1 = 8 ∨ e.1 = 4 ∨ e.1 = 5 ∨ e.1 = 6 then ent s n else if n = wl s then some e else ent s n) = some x := h
    have hw := wl_le (e := e) (s := s)
    by_cases c : e.1 = 8 ∨ e.1 = 4 ∨ e.1 = 5 ∨ e.1 = 6
    · rw [if_pos c] at h
      have := ent_lt h; omega
    · rw [if_neg c] at h
      rw [wl_n c]
      by_cases c2 : n = wl s
      · omega
      · rw [if_neg c2] at h
        have := ent_lt h; omega
theorem ent_c {e x : tE} {s : List tE} {n : Nat} (h : ent (e :: s) n = some x) : (x = e ∧ n = wl s) ∨ ent s n = some x := by
  have h : (if e.1 = 8 ∨ e.1 = 4 ∨ e.1 = 5 ∨ e.1 = 6 then ent s n else if n = wl s then some e else ent s n) = some x := h
  by_cases c : e.1 = 8 ∨ e.1 = 4 ∨ e.1 = 5 ∨ e.1 = 6
  · rw [if_pos c] at h; exact Or.inr h
  · rw [if_neg c] at h
    by_cases c2 : n = wl s
    · rw [if_pos c2] at h
      injection h with h
      exact Or.inl ⟨h.symm, c2⟩
    · rw [if_neg c2] at h; exact Or.inr h
theorem ent_up {e x : tE} {s : List tE} {n : Nat} (h : ent s n = some x) : ent (e :: s) n = some x := by
  have hl := ent_lt h
  show (if e.1 = 8 ∨ e.1 = 4 ∨ e.1 = 5 ∨ e.1 = 6 then ent s n else if n = wl s then some e else ent s n) = some x
  rw [if_neg (show ¬ n = wl s by omega), ite_self]; exact h
theorem ent_app {x : tE} {s : List tE} {n : Nat} (h : ent s n = some x) : ∀ E : List tE, ent (E ++ s) n = some x
  | [] => h
  | e :: E => ent_up (ent_app h E)
/-- a marked reference: it came by a borrow -/
def mkd (x : tE) : Prop := (x.1 = 1 ∨ x.1 = 2) ∧ x.2.2 ≠ 0
theorem mk_t {F : tF} {t : Nat} : ¬ mkd (tNf F t) := by
  unfold tNf
  by_cases c : t = 3
  · rw [if_pos c]; exact fun q => q.2 rfl
  · rw [if_neg c]
    by_cases c2 : F 20 t = 5
    · rw [if_pos c2]; exact fun q => q.2 rfl
    · rw [if_neg c2]
      by_cases c3 : F 20 t = 6
      · rw [if_pos c3]; exact fun q => q.2 rfl
      · rw [if_neg c3]; exact fun q => q.2 rfl
theorem mk_n {a b c : Nat} (h : a ≠ 1 ∧ a ≠ 2) : ¬ mkd (a, b, c) := fun q => q.1.elim h.1 h.2
theorem mk_p {n sh : Nat} {sn : Int32} : ¬ mkd (pE n sh sn) := by
  unfold pE
  by_cases c : sn = ((1 : Int32) <<< (nI n &&& 31)) - 1
  · rw [if_pos c]; exact mk_n (by decide)
  · rw [if_neg c]; exact mk_n (by decide)
theorem mk_old {E r0 : List tE} {n p : Nat} {x : tE} (h : ent r0 n = some x) (hw : wl r0 + p ≤ wl (E ++ r0)) : ent (E ++ r0) n = some x ∧ n + p < wl (E ++ r0) := ⟨ent_app h E, by have := ent_lt h; omega⟩
/-- behind an instruction a marked reference stands where it stood, or was just borrowed -/
theorem mk_step {F X : tF} {G : Nat → Nat → Nat} {rs i n : Nat} {k : Nat → Option (List tE)} {J K : Int32 → List tE → Prop} {s r : List tE} {x : tE} (hr : k (i + 1) = some r) (hx : ent r n = some x) (hm : mkd x) : ∀ o : Nat, nu o → iOp F X G rs k J K i s o → (ent s n = some x ∧ n + po F G i o < wl s) ∨ (o = 4 ∧ n = wl s ∧ ∃ b : Nat, F 2 i = nI b ∧ b < 54 ∧ x.2.2 = b + 1)
  | 0, _, h => by
    obtain ⟨T, h1, h2⟩ := h
    obtain rfl := some_i (h2.symm.trans hr)
    rcases ent_c hx with q | q
    · rw [q.1] at hm; exact absurd hm (mk_n (by decide))
    · exact Or.inl ⟨q, ent_lt q⟩
  | 1, _, h => by
    have h : k (i + 1) = some ((0, 1, 0) :: s) := h
    obtain rfl := some_i (h.symm.trans hr)
    rcases ent_c hx with q | q
    · rw [q.1] at hm; exact absurd hm (mk_n (by decide))
    · exact Or.inl ⟨q, ent_lt q⟩
  | 2, _, h => by
    obtain ⟨p, T, mu, h1, h2, h3, h4⟩ := h
    obtain rfl := some_i (h4.symm.trans hr)
    rcases ent_c hx with q | q
    · rw [q.1] at hm; exact absurd hm mk_t
    · exact Or.inl ⟨q, ent_lt q⟩
  | 3, _, h => by
    obtain ⟨p, T, h1, h2, h3, h4, h5⟩ := h
    obtain rfl := some_i (h5.symm.trans hr)
    rcases ent_c hx with q | q
    · rw [q.1] at hm; exact absurd hm mk_t
    · exact Or.inl ⟨q, ent_lt q⟩
  | 4, _, h => by
    obtain ⟨p, T, b, m, mu, h1, h2, h3, h4, h5, h6, h7, h8⟩ := h
    have key : ∀ q : Nat, k (i + 1) = some ((q, T, m) :: s) → (ent s n = some x ∧ n + po F G i 4 < wl s) ∨ ((4 : Nat) = 4 ∧ n = wl s ∧ ∃ b : Nat, F 2 i = nI b ∧ b < 54 ∧ x.2.2 = b + 1) := fun q hq => by
      obtain rfl := some_i (hq.symm.trans hr)
      rcases ent_c hx with z | z
      · refine Or.inr ⟨rfl, z.2, b, h5, h6, ?_⟩
        rw [z.1] at hm ⊢
        rcases h7 with h7 | h7
        · exact absurd h7 hm.2
        · exact h7
      · exact Or.inl ⟨z, ent_lt z⟩
    rcases h8 with ⟨-, h8⟩ | ⟨-, -, h8⟩
    · exact key 1 h8
    · exact key 2 h8
  | 5, _, h => by
    obtain rfl := some_i ((h.2).symm.trans hr)
    exact Or.inl ⟨hx, ent_lt hx⟩
  | 6, _, h => by
    obtain rfl := some_i ((h.2).symm.trans hr)
    exact Or.inl ⟨hx, ent_lt hx⟩
  | 7, _, h => by
    obtain ⟨x1, y1, z1, r0, h1, h2, h3, rfl, h5⟩ := h
    obtain rfl := some_i (h5.symm.trans hr)
    rcases ent_c hx with q | q
    · rw [q.1] at hm; exact absurd hm (mk_n (by decide))
    · exact Or.inl (mk_old (E := [(0, x1, 0), (0, y1, 0)]) (p := po F G i 7) q (by show wl r0 + 1 ≤ wl ((0, x1, 0) :: (0, y1, 0) :: r0); rw [wl_0n (by decide), wl_0n (by decide)]; omega))
  | 8, _, h => by
    obtain ⟨T, U, r0, h1, h2, h3, h4, h5, h6, h7, h8, rfl, h9⟩ := h
    obtain rfl := some_i (h9.symm.trans hr)
    rcases ent_c hx with q | q
    · rw [q.1] at hm; exact absurd hm (mk_n (by decide))
    · exact Or.inl (mk_old (E := [tNf F T]) (p := po F G i 8) q (wl_le))
  | 9, _, h => by
    obtain ⟨sh, n1, h1, h2, h3, h4, h5, h6⟩ := h
    obtain rfl := some_i (h6.symm.trans hr)
    rcases ent_c hx with q | q
    · rw [q.1] at hm; exact absurd hm mk_p
    · exact Or.inl ⟨q, ent_lt q⟩
  | 10, _, h => by
    obtain ⟨sh, j, n1, sn, r0, h1, h2, h3, h4, h5, h6, h7, h8, h9, rfl, h10⟩ := h
    obtain rfl := some_i (h10.symm.trans hr)
    rcases ent_c hx with q | q
    · rw [q.1] at hm; exact absurd hm mk_p
    · exact Or.inl (mk_old (E := [tNf F (cN (X 2 (sh * 12 * 12 + j))), pE n1 sh sn]) (p := po F G i 10) q (by show wl r0 + 1 ≤ wl (tNf F (cN (X 2 (sh * 12 * 12 + j))) :: pE n1 sh sn :: r0); rw [wl_t, wl_p]; omega))
  | 11, _, h => by
    obtain ⟨g, h1, h2, h3⟩ := h
    obtain rfl := some_i (h3.symm.trans hr)
    rcases ent_c hx with q | q
    · rw [q.1] at hm; exact absurd hm (mk_n (by decide))
    · exact Or.inl ⟨q, ent_lt q⟩
  | 12, _, h => by
    obtain ⟨sh, g, n1, r0, h1, h2, h3, h4, h5, h6, h7, h8, rfl, h9⟩ := h
    obtain rfl := some_i (h9.symm.trans hr)
    have e : po F G i 12 = n1 := by show cN (F 2 i) = n1; rw [h7, cN_nI (by omega)]
    rcases ent_c hx with q | q
    · rw [q.1] at hm; exact absurd hm (mk_n (by decide))
    · refine Or.inl ⟨ent_app (ent_up q) _, ?_⟩
      have := ent_lt q
      rw [e, wl_app, wl_ps, wl_0n (by decide)]; omega
  | 13, _, h => by
    obtain rfl := some_i (((show k (i + 1) = some s from h)).symm.trans hr)
    exact Or.inl ⟨hx, ent_lt hx⟩
  | 14, _, h => by
    obtain rfl := some_i (((show k (i + 1) = some s from h)).symm.trans hr)
    exact Or.inl ⟨hx, ent_lt hx⟩
  | 15, hu, _ => absurd hu (by unfold nu; decide)
  | 16, hu, _ => absurd hu (by unfold nu; decide)
  | 17, _, h => by
    obtain ⟨r0, rfl, ⟨h2, h3⟩, h4⟩ := h
    obtain rfl := some_i (h2.symm.trans hr)
    exact Or.inl (mk_old (E := [(0, 2, 0)]) (p := po F G i 17) hx (by show wl r0 + 1 ≤ wl ((0, 2, 0) :: r0); rw [wl_0n (by decide)]; omega))
  | 18, _, h => by
    obtain ⟨r0, rfl, h2, h4⟩ := h
    obtain rfl := some_i (h2.symm.trans hr)
    exact Or.inl (mk_old (E := [(0, 2, 0)]) (p := po F G i 18) hx (by show wl r0 + 1 ≤ wl ((0, 2, 0) :: r0); rw [wl_0n (by decide)]; omega))
  | 19, _, h => by
    obtain ⟨r0, rfl, h2, h4⟩ := h
    obtain rfl := some_i (h2.symm.trans hr)
    exact Or.inl (mk_old (E := [(0, 2, 0)]) (p := po F G i 19) hx (by show wl r0 + 1 ≤ wl ((0, 2, 0) :: r0); rw [wl_0n (by decide)]; omega))
  | 20, hu, _ => absurd hu (by unfold nu; decide)
  | 21, _, h => by
    obtain ⟨g, r0, h1, h2, rfl, h3⟩ := h
    obtain rfl := some_i (h3.symm.trans hr)
    have e : po F G i 21 = G g 0 := by show G (cN (F 1 i)) 0 = G g 0; rw [h2, cN_nI (by omega)]
    rcases ent_c hx with q | q
    · rw [q.1] at hm; exact absurd hm mk_t
    · refine Or.inl ⟨ent_app q _, ?_⟩
      have := ent_lt q
      rw [e, wl_app, wl_as]; omega
  | 22, hu, _ => absurd hu (by unfold nu; decide)
  | 23, _, h => by
    obtain rfl := some_i (((show k (i + 1) = some s from h)).symm.trans hr)
    exact Or.inl ⟨hx, ent_lt hx⟩
  | 24, _, h => by
    obtain ⟨v, T, r0, h1, h2, h3, h4, h5, h6, rfl, h7⟩ := h
    obtain rfl := some_i (h7.symm.trans hr)
    rcases ent_c hx with q | q
    · rw [q.1] at hm; exact absurd hm (mk_n (by decide))
    · exact Or.inl (mk_old (E := [tNf F T]) (p := po F G i 24) q (by show wl r0 + 1 ≤ wl (tNf F T :: r0); rw [wl_t]; omega))
  | 25, _, h => by
    obtain ⟨v, h1, h2, h3, h4, h5⟩ := h
    obtain rfl := some_i (h5.symm.trans hr)
    rcases ent_c hx with q | q
    · rw [q.1] at hm; exact absurd hm (mk_n (by decide))
    · exact Or.inl ⟨q, ent_lt q⟩
  | 26, _, h => by
    obtain ⟨p, v, n1, T, pa, ro, mu, r0, h1, h2, h3, rfl, h5⟩ := h
    obtain rfl := some_i (h5.symm.trans hr)
    exact Or.inl (mk_old (E := [tNf F T]) (p := po F G i 26) hx (by show wl r0 + 1 ≤ wl (tNf F T :: r0); rw [wl_t]; omega))
  | 27, _, h => by
    obtain ⟨T, r0, h1, h2, rfl, h5⟩ := h
    obtain rfl := some_i (h5.symm.trans hr)
    exact Or.inl (mk_old (E := [tNf F T]) (p := po F G i 27) hx (by show wl r0 + 1 ≤ wl (tNf F T :: r0); rw [wl_t]; omega))
  | 28, _, h => by
    obtain ⟨T, r0, h1, h2, rfl, h5⟩ := h
    obtain rfl := some_i (h5.symm.trans hr)
    exact Or.inl (mk_old (E := [(0, T, 0)]) (p := po F G i 28) hx (by show wl r0 + 1 ≤ wl ((0, T, 0) :: r0); rw [wl_0n (by decide)]; omega))
  | 29, _, h => by
    obtain ⟨v, sh, g, j, n1, T, r0, h1, h2, h3, h4, h5, h6, h7, h8, h9, h10, h11, h12, h13, h14, rfl, h15⟩ := h
    obtain rfl := some_i (h15.symm.trans hr)
    rcases ent_c hx with q | q
    · rw [q.1] at hm; exact absurd hm (mk_n (by decide))
    · rcases ent_c q with q | q
      · rw [q.1] at hm; exact absurd hm (mk_n (by decide))
      · exact Or.inl (mk_old (E := [(4, sh * 12 + g, j)]) (p := po F G i 29) q wl_le)
  | 30, _, h => by
    obtain ⟨v, sh, g, j, n1, T, b, q9, r0, h1, h2, h3, h4, h5, h6, h7, h8, hq, h10, h11, h12, h13, h14, h15, h16, h17, rfl, h18⟩ := h
    obtain rfl := some_i (h18.symm.trans hr)
    rcases ent_c hx with q | q
    · rw [q.1] at hm; exact absurd hm (mk_n (by omega))
    · rcases ent_c q with q | q
      · rw [q.1] at hm; exact absurd hm (mk_n (by decide))
      · exact Or.inl (mk_old (E := [(q9 + 4, sh * 12 + g, b + 1 + 64 * j)]) (p := po F G i 30) q wl_le)
  | 31, _, h => by
    obtain ⟨r1, q9, m1, r0, rfl, h1, h2⟩ := h
    obtain rfl := some_i (h2.symm.trans hr)
    exact Or.inl (mk_old (E := [(q9, r1, m1)]) (p := po F G i 31) hx (wl_le))
  | 32, _, h => by
    obtain ⟨v0, v1, O, r0, h1, h2, h3, h4, rfl, h5, h6, h7⟩ := h
    obtain rfl := some_i (h7.symm.trans hr)
    exact Or.inl (mk_old (E := O) (p := po F G i 32) hx (by rw [wl_app]; exact Nat.le_add_left _ _))
  | n1 + 33, _, h => h.elim
