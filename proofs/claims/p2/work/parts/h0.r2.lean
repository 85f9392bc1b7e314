/-- j may come behind i -/
def sc1 (F : tF) (a b i j : Nat) : Prop := ∃ o : Nat, F 0 i = nI o ∧ o < 33 ∧ (((o ≠ 15 ∧ o ≠ 16 ∧ o ≠ 20 ∧ o ≠ 22) ∧ j = i + 1) ∨ ((o = 16 ∨ o = 17 ∨ o = 18 ∨ o = 19) ∧ i < j ∧ j < b ∧ F 0 j = 13 ∧ F 1 j = F 1 i) ∨ (o = 15 ∧ a ≤ j ∧ j ≤ i ∧ F 0 j = 14 ∧ F 1 j = F 1 i) ∨ (o = 20 ∧ ∃ tc c g : Nat, F 1 i = nI tc ∧ tc ≤ 3002 ∧ F 3 i = nI c ∧ c ≤ 12 ∧ g < c ∧ F 13 (tc + g) = F 1 j ∧ i < j ∧ j < b ∧ F 0 j = 13))
/-- a way leads from a to i -/
def rch (F : tF) (a b i : Nat) : Prop := ∀ P : Nat → Prop, P a → (∀ m n : Nat, P m → sc1 F a b m n → P n) → P i
theorem rch_0 {F : tF} {a b : Nat} : rch F a b a := fun _ h _ => h
theorem rch_S {F : tF} {a b i j : Nat} (h : rch F a b i) (hs : sc1 F a b i j) : rch F a b j := fun P h0 hS => hS i j (h P h0 hS) hs
def gdE (F : tF) (yp yt : Nat) (e : tE) : Prop := (e.1 = 0 → e.2.1 = 0 ∨ (tyN yp (F 20) e.2.1 ∧ e.2.1 < yt)) ∧ ((e.1 = 1 ∨ e.1 = 2) → tyN yp (F 20) e.2.1 ∧ e.2.1 < yt ∧ e.2.2 < 64)
theorem gd_c {F : tF} {yp yt : Nat} {e : tE} {s : List tE} (h : gd F yp yt s) (he : gdE F yp yt e) : gd F yp yt (e :: s) := fun x hx => by
  rcases List.mem_cons.mp hx with q | q
  · rw [q]; exact he
  · exact h x q
theorem gd_sub {F : tF} {yp yt : Nat} {s s2 : List tE} (h : gd F yp yt s) (hs : ∀ e : tE, e ∈ s2 → e ∈ s) : gd F yp yt s2 := fun x hx => h x (hs x hx)
theorem gd_t {F : tF} {yp yt : Nat} {e : tE} {s : List tE} (h : gd F yp yt (e :: s)) : gd F yp yt s := gd_sub h (fun _ hx => List.mem_cons_of_mem _ hx)
theorem gd_a {F : tF} {yp yt : Nat} {E s : List tE} (h : gd F yp yt (E ++ s)) : gd F yp yt s := gd_sub h (fun _ hx => List.mem_append_right _ hx)
theorem gdE_3 {F : tF} {yp yt : Nat} {e : tE} (h : 3 ≤ e.1) : gdE F yp yt e := ⟨fun q => by omega, fun q => by omega⟩
theorem gdE_0 {F : tF} {yp yt T m : Nat} (h : T = 0 ∨ (tyN yp (F 20) T ∧ T < yt)) : gdE F yp yt (0, T, m) := ⟨fun _ => h, fun q => by
  have q : (0 : Nat) = 1 ∨ (0 : Nat) = 2 := q
  omega⟩
theorem gdE_r {F : tF} {yp yt q T m : Nat} (hq : q = 1 ∨ q = 2) (h : tyN yp (F 20) T ∧ T < yt) (hm : m < 64) : gdE F yp yt (q, T, m) := ⟨fun e => by
  have e : q = 0 := e
  omega, fun _ => ⟨h.1, h.2, hm⟩⟩
section
variable {F X : tF} {G : Nat → Nat → Nat} {rs a b yp yt i j o : Nat} {k : Nat → Option (List tE)} {s : List tE}
theorem gdE_12 (hy : 34 ≤ yt) {T : Nat} (hT : T = 1 ∨ T = 2) : gdE F yp yt (0, T, 0) := gdE_0 (Or.inr ⟨Or.inl (by omega), by omega⟩)
theorem gdE_s (hy : 34 ≤ yt) {sh : Nat} (hp : yp ≤ 30) (hsh : sh < yp) : gdE F yp yt (0, 4 + sh, 0) := gdE_0 (Or.inr ⟨Or.inr (Or.inl ⟨by omega, by omega⟩), by omega⟩)
theorem gdE_p (hy : 34 ≤ yt) {n sh : Nat} {sn : Int32} (hp : yp ≤ 30) (hsh : sh < yp) : gdE F yp yt (pE n sh sn) := by
  unfold pE
  by_cases c : sn = ((1 : Int32) <<< (nI n &&& 31)) - 1
  · rw [if_pos c]; exact gdE_s hy hp hsh
  · rw [if_neg c]; exact gdE_3 (show 3 ≤ 7 by decide)
theorem gdE_t (tb : tbO F X yp yt) (hkd : ∀ t : Nat, t < 3040 → (F 20 t = 4 ∨ F 20 t = 5 ∨ F 20 t = 6) → 34 ≤ t ∧ t < yt) {T : Nat} (hT : T = 0 ∨ tyV yp yt (F 20) T) : gdE F yp yt (tNf F T) := by
  have hy : 34 ≤ yt := tb.1.1
  have h30 : yt ≤ 3040 := tb.1.2.1
  unfold tNf
  by_cases c3 : T = 3
  · rw [if_pos c3]; exact gdE_12 hy (Or.inl rfl)
  · rw [if_neg c3]
    have h0 : F 20 0 = 0 := tb.1.2.2.2.1.1
    have key : (F 20 T = 5 ∨ F 20 T = 6) → tyN yp (F 20) (cN (F 21 T)) ∧ cN (F 21 T) < yt := fun h => by
      rcases hT with rfl | hT
      · rw [h0] at h; rcases h with q | q <;> exact absurd q (by decide)
      · have hT7 := hT.2
        have h34 := hkd T (by omega) (by rcases h with q | q; exact Or.inr (Or.inl q); exact Or.inr (Or.inr q))
        obtain ⟨U, w1, w2, w3⟩ := ty_of tb h34.1 h34.2
        rw [w2, cN_nI (by omega)]
        exact ⟨w3, by omega⟩
    by_cases c5 : F 20 T = 5
    · rw [if_pos c5]; exact gdE_r (Or.inl rfl) (key (Or.inl c5)) (by decide)
    · rw [if_neg c5]
      by_cases c6 : F 20 T = 6
      · rw [if_pos c6]; exact gdE_r (Or.inr rfl) (key (Or.inr c6)) (by decide)
      · rw [if_neg c6]
        refine gdE_0 ?_
        rcases hT with hT | ⟨hT | ⟨-, q | q⟩, hT7⟩
        · exact Or.inl hT
        · exact Or.inr ⟨hT, hT7⟩
        · exact absurd q c5
        · exact absurd q c6
/-- the type of a place is one of the table -/
theorem pl_tyV (tb : tbO F X yp yt) (hv : ∀ w : Nat, w < 40 → F 15 w ≠ -1 → ∃ T0 : Nat, F 15 w = nI T0 ∧ tyV yp yt (F 20) T0) {p v n T : Nat} {pa ro mu : Int32} (hp : plI F X p v n T pa ro mu) : tyV yp yt (F 20) T := by
  have hne : F 15 v ≠ -1 := pl_ne n pa ro T mu hp.2.2.2.1 hp.2.2.2.2.2.2.2.2.2.2
  obtain ⟨T0, f1, f2⟩ := hv v hp.2.1 hne
  obtain ⟨ds, os, o, -, -, q⟩ := pG_of tb f1 f2 hp
  rcases q with ⟨-, -, -, q1, q3, q2, q4⟩ | ⟨-, d⟩ | ⟨-, -, -, -, U, ds', os', -, -, -, -, d⟩
  · rw [q1]; exact ⟨Or.inr ⟨q3, q4⟩, q2⟩
  · exact ⟨Or.inl d.2.2.2.2.1, d.2.2.2.2.2⟩
  · exact ⟨Or.inl d.2.2.2.2.1, d.2.2.2.2.2⟩
theorem gd_f (tb : tbO F X yp yt) (hsh : ∀ sh : Nat, sh < 30 → (F 20 (4 + sh) = 2 ∨ F 20 (4 + sh) = 3) → sh < yp) (hkd : ∀ t : Nat, t < 3040 → (F 20 t = 4 ∨ F 20 t = 5 ∨ F 20 t = 6) → 34 ≤ t ∧ t < yt) (hv : ∀ w : Nat, w < 40 → F 15 w ≠ -1 → ∃ T0 : Nat, F 15 w = nI T0 ∧ tyV yp yt (F 20) T0) (hG : ∀ g : Nat, g < 40 → G g 1 < 3040 → G g 1 = 0 ∨ tyV yp yt (F 20) (G g 1)) {J K : Int32 → List tE → Prop} (hg : gd F yp yt s) : ∀ o : Nat, iOp F X G rs k J K i s o → (o ≠ 15 ∧ o ≠ 16 ∧ o ≠ 20 ∧ o ≠ 22) → ∃ s2 : List tE, k (i + 1) = some s2 ∧ gd F yp yt s2
  | 0, h, _ => by
    obtain ⟨T, hT, e⟩ := h
    exact ⟨_, e, gd_c hg (gdE_12 tb.1.1 hT)⟩
  | 1, h, _ => ⟨_, h, gd_c hg (gdE_12 tb.1.1 (Or.inl rfl))⟩
  | 2, h, _ => by
    obtain ⟨p, T, mu, -, ⟨v, n, pa, ro, h2⟩, -, e⟩ := h
    exact ⟨_, e, gd_c hg (gdE_t tb hkd (Or.inr (pl_tyV tb hv h2)))⟩
  | 3, h, _ => by
    obtain ⟨p, T, -, ⟨v, n, pa, ro, mu, h2, -⟩, -, -, e⟩ := h
    exact ⟨_, e, gd_c hg (gdE_t tb hkd (Or.inr (pl_tyV tb hv h2)))⟩
  | 4, h, _ => by
    obtain ⟨p, T, c, m, mu, -, ⟨v, n, pa, ro, h2⟩, h5, h6, -, hc, hm, e⟩ := h
    have hT := pl_tyV tb hv h2
    have hN : tyN yp (F 20) T ∧ T < yt := ⟨by
      rcases hT.1 with q | ⟨-, q | q⟩
      · exact q
      · exact absurd q h5
      · exact absurd q h6, hT.2⟩
    rcases e with ⟨-, e⟩ | ⟨-, -, e⟩
    · exact ⟨_, e, gd_c hg (gdE_r (Or.inl rfl) hN (by omega))⟩
    · exact ⟨_, e, gd_c hg (gdE_r (Or.inr rfl) hN (by omega))⟩
  | 5, h, _ => ⟨_, h.2, hg⟩
  | 6, h, _ => ⟨_, h.2, hg⟩
  | 7, h, _ => by
    obtain ⟨x, y, z, r, -, -, hz, hs, e⟩ := h
    rw [hs] at hg
    exact ⟨_, e, gd_c (gd_t (gd_t hg)) (gdE_12 tb.1.1 hz)⟩
  | 8, h, _ => by
    obtain ⟨T, U, r, -, -, -, hU, hU4, -, -, -, hs, e⟩ := h
    rw [hs] at hg
    obtain ⟨q1, q2⟩ := hkd U hU (Or.inl hU4)
    exact ⟨_, e, gd_c (gd_t hg) (gdE_0 (Or.inr ⟨Or.inr (Or.inr ⟨q1, hU4⟩), q2⟩))⟩
  | 9, h, _ => by
    obtain ⟨sh, n, h1, h2, -, -, -, e⟩ := h
    exact ⟨_, e, gd_c hg (gdE_p tb.1.1 tb.1.2.2.1 (hsh sh h1 (Or.inl h2)))⟩
  | 10, h, _ => by
    obtain ⟨sh, j, n, sn, r, h1, h2, -, -, -, -, -, -, -, hs, e⟩ := h
    rw [hs] at hg
    exact ⟨_, e, gd_c (gd_t (gd_t hg)) (gdE_p tb.1.1 tb.1.2.2.1 (hsh sh h1 (Or.inl h2)))⟩
  | 11, h, _ => by
    obtain ⟨g, -, -, e⟩ := h
    exact ⟨_, e, gd_c hg (gdE_3 (show 3 ≤ 3 by decide))⟩
  | 12, h, _ => by
    obtain ⟨sh, g, n, r, h1, h2, -, -, -, -, -, -, hs, e⟩ := h
    rw [hs] at hg
    exact ⟨_, e, gd_c (gd_t (gd_a hg)) (gdE_s tb.1.1 tb.1.2.2.1 (hsh sh h1 (Or.inr h2)))⟩
  | 13, h, _ => ⟨_, h, hg⟩
  | 14, h, _ => ⟨_, h, hg⟩
  | 15, _, q => absurd rfl q.1
  | 16, _, q => absurd rfl q.2.1
  | 17, h, _ => by
    obtain ⟨r, hs, e, -⟩ := h
    rw [hs] at hg
    exact ⟨_, e.1, gd_t hg⟩
  | 18, h, _ => by
    obtain ⟨r, hs, e, -⟩ := h
    rw [hs] at hg
    exact ⟨_, e, gd_t hg⟩
  | 19, h, _ => by
    obtain ⟨r, hs, e, -⟩ := h
    rw [hs] at hg
    exact ⟨_, e, gd_t hg⟩
  | 20, _, q => absurd rfl q.2.2.1
  | 21, h, _ => by
    obtain ⟨g, r, h1, -, hs, e⟩ := h
    rw [hs] at hg
    exact ⟨_, e, gd_c (gd_a hg) (gdE_t tb hkd (hG g h1.1 h1.2))⟩
  | 22, _, q => absurd rfl q.2.2.2
  | 23, h, _ => ⟨_, h, hg⟩
  | 24, h, _ => by
    obtain ⟨v, T, r, -, -, -, -, -, -, hs, e⟩ := h
    rw [hs] at hg
    exact ⟨_, e, gd_c (gd_t hg) (gdE_3 (show 3 ≤ 8 by decide))⟩
  | 25, h, _ => by
    obtain ⟨v, -, -, -, -, e⟩ := h
    exact ⟨_, e, gd_c hg (gdE_3 (show 3 ≤ 8 by decide))⟩
  | 26, h, _ => by
    obtain ⟨p, v, n, T, pa, ro, mu, r, -, -, -, hs, e⟩ := h
    rw [hs] at hg
    exact ⟨_, e, gd_t hg⟩
  | 27, h, _ => by
    obtain ⟨T, r, -, -, hs, e⟩ := h
    rw [hs] at hg
    exact ⟨_, e, gd_t hg⟩
  | 28, h, _ => by
    obtain ⟨T, r, -, -, hs, e⟩ := h
    rw [hs] at hg
    exact ⟨_, e, gd_t hg⟩
  | 29, h, _ => by
    obtain ⟨v, sh, g, j, n, T, r, -, -, -, -, -, -, -, -, -, -, -, -, -, -, hs, e⟩ := h
    rw [hs] at hg
    exact ⟨_, e, gd_c (gd_c (gd_t hg) (gdE_3 (show 3 ≤ 8 by decide))) (gdE_3 (show 3 ≤ 4 by decide))⟩
  | 30, h, _ => by
    obtain ⟨v, sh, g, j, n, T, c, q, r, -, -, -, -, -, -, -, -, hq, -, -, -, -, -, -, -, -, hs, e⟩ := h
    rw [hs] at hg
    exact ⟨_, e, gd_c (gd_c (gd_t hg) (gdE_3 (show 3 ≤ 8 by decide))) (gdE_3 (show 3 ≤ q + 4 by omega))⟩
  | 31, h, _ => by
    obtain ⟨r0, q, m, r, hs, -, e⟩ := h
    rw [hs] at hg
    exact ⟨_, e, gd_t hg⟩
  | 32, h, _ => by
    obtain ⟨v0, v1, O, r, -, -, -, -, hs, -, -, e⟩ := h
    rw [hs] at hg
    exact ⟨_, e, gd_a hg⟩
  | n + 33, h, _ => absurd h id
theorem gd_st (hc : ceI F X G rs a b k) (hkb : k b = none) (tb : tbO F X yp yt) (hsh : ∀ sh : Nat, sh < 30 → (F 20 (4 + sh) = 2 ∨ F 20 (4 + sh) = 3) → sh < yp) (hkd : ∀ t : Nat, t < 3040 → (F 20 t = 4 ∨ F 20 t = 5 ∨ F 20 t = 6) → 34 ≤ t ∧ t < yt) (hv : ∀ w : Nat, w < 40 → F 15 w ≠ -1 → ∃ T0 : Nat, F 15 w = nI T0 ∧ tyV yp yt (F 20) T0) (hG : ∀ g : Nat, g < 40 → G g 1 < 3040 → G g 1 = 0 ∨ tyV yp yt (F 20) (G g 1)) (ha : a ≤ i) (hb : i < b) (hs : k i = some s) (hg : gd F yp yt s) (hij : sc1 F a b i j) : a ≤ j ∧ j < b ∧ ∃ s2 : List tE, k j = some s2 ∧ gd F yp yt s2 := by
  obtain ⟨o, ho, h33, hj⟩ := hij
  have hce := ce_op hc ha hb hs ho h33
  have jmp : ∀ (x : Int32) (y : List tE), False ∨ tJm F G k i b x y → i < j → j < b → F 0 j = 13 → F 1 j = x → k j = some y := fun x y h h1 h2 h3 h4 => by
    obtain ⟨m, ⟨m1, -⟩, m2, m3, m4, m5⟩ := h.resolve_left id
    have e := ce_one hc (by omega) h2 (Or.inl h3) (by omega) m2 (Or.inl m3) h4 m4
    rw [e]; exact m5
  rcases hj with ⟨hn, rfl⟩ | ⟨hn, h1, h2, h3, h4⟩ | ⟨rfl, h1, h2, h3, h4⟩ | ⟨rfl, tc, c, g, t1, t2, t3, t4, t5, t6, h1, h2, h3⟩
  · obtain ⟨s2, e1, e2⟩ := gd_f tb hsh hkd hv hG hg o hce hn
    refine ⟨by omega, ?_, s2, e1, e2⟩
    rcases Nat.lt_or_ge (i + 1) b with q | q
    · exact q
    · rw [show i + 1 = b by omega, hkb] at e1; exact absurd e1 (by simp)
  · refine ⟨by omega, h2, ?_⟩
    rcases hn with rfl | rfl | rfl | rfl
    · exact ⟨_, jmp _ _ hce.2 h1 h2 h3 h4, hg⟩
    · obtain ⟨r, e1, -, e3⟩ := hce
      rw [e1] at hg
      exact ⟨_, jmp _ _ e3 h1 h2 h3 h4, gd_t hg⟩
    · obtain ⟨r, e1, -, e3⟩ := hce
      exact ⟨_, jmp _ _ e3 h1 h2 h3 h4, hg⟩
    · obtain ⟨r, e1, -, e3⟩ := hce
      exact ⟨_, jmp _ _ e3 h1 h2 h3 h4, hg⟩
  · obtain ⟨-, m, m1, m2, m3, m4, m5⟩ := hce
    have e := ce_one hc h1 (by omega) (Or.inr h3) m1 (by omega) (Or.inr m3) h4 m4
    exact ⟨h1, by omega, s, by rw [e]; exact m5, hg⟩
  · obtain ⟨sh, n, tb9, r, -, -, -, n12, e1, e2, ⟨e3, -⟩, e4⟩ := hce
    have et : tc = tb9 := (nI_eq (by omega) (by omega)).mp (t1.symm.trans e1)
    have en : c = n := (nI_eq (by omega) (by omega)).mp (t3.symm.trans e3)
    subst et en
    refine ⟨by omega, h2, ?_⟩
    rcases e4 with ⟨f1, -, f3⟩ | ⟨q, m, hq, f1, -, f3⟩
    · rw [f1] at hg
      exact ⟨_, jmp _ _ (f3 g t5) h1 h2 h3 t6.symm, gd_c (gd_t hg) (gdE_3 (show 3 ≤ 4 by decide))⟩
    · rw [f1] at hg
      exact ⟨_, jmp _ _ (f3 g t5) h1 h2 h3 t6.symm, gd_c (gd_t hg) (gdE_3 (show 3 ≤ q + 4 by omega))⟩
/-- along ways from the beginning -/
theorem gd_rch (hc : ceI F X G rs a b k) (hkb : k b = none) (hka : k a = some s) (hab : a < b) (hg : gd F yp yt s) (tb : tbO F X yp yt) (hsh : ∀ sh : Nat, sh < 30 → (F 20 (4 + sh) = 2 ∨ F 20 (4 + sh) = 3) → sh < yp) (hkd : ∀ t : Nat, t < 3040 → (F 20 t = 4 ∨ F 20 t = 5 ∨ F 20 t = 6) → 34 ≤ t ∧ t < yt) (hv : ∀ w : Nat, w < 40 → F 15 w ≠ -1 → ∃ T0 : Nat, F 15 w = nI T0 ∧ tyV yp yt (F 20) T0) (hG : ∀ g : Nat, g < 40 → G g 1 < 3040 → G g 1 = 0 ∨ tyV yp yt (F 20) (G g 1)) (h : rch F a b i) : a ≤ i ∧ i < b ∧ ∃ s2 : List tE, k i = some s2 ∧ gd F yp yt s2 := by
  refine h (fun i => a ≤ i ∧ i < b ∧ ∃ s2 : List tE, k i = some s2 ∧ gd F yp yt s2) ⟨Nat.le_refl _, hab, s, hka, hg⟩ (fun m n hm hs => ?_)
  obtain ⟨m1, m2, s2, m3, m4⟩ := hm
  exact gd_st hc hkb tb hsh hkd hv hG m1 m2 m3 m4 hs
end
