/-- what stands below stays -/
theorem e8_t {e : tE} {s : List tE} {v : Nat} (h : ((8, v, 0) : tE) ∈ e :: s) (he : e.1 ≠ 8) : ((8, v, 0) : tE) ∈ s := by
  rcases List.mem_cons.mp h with q | q
  · exact absurd (by rw [← q]) he
  · exact q
theorem e8_n {F : tF} {T : Nat} : (tNf F T).1 ≠ 8 := fun q => nm_t (Or.inl q)
theorem e8_pE {n sh : Nat} {sn : Int32} : (pE n sh sn).1 ≠ 8 := by
  unfold pE
  split
  · show (0 : Nat) ≠ 8; decide
  · show (7 : Nat) ≠ 8; decide
theorem e8_A {F : tF} {G : Nat → Nat → Nat} {g v : Nat} {r : List tE} : ∀ n : Nat, ((8, v, 0) : tE) ∈ tAs F G g n ++ r → ((8, v, 0) : tE) ∈ r
  | 0, h => h
  | n + 1, h => e8_A n (e8_t (show ((8, v, 0) : tE) ∈ tNf F (G g (n + 2)) :: (tAs F G g n ++ r) from h) e8_n)
theorem e8_P {F X : tF} {q v : Nat} {r : List tE} : ∀ n : Nat, ((8, v, 0) : tE) ∈ tPs F X q n ++ r → ((8, v, 0) : tE) ∈ r
  | 0, h => h
  | n + 1, h => e8_P n (e8_t (show ((8, v, 0) : tE) ∈ tNf F (cN (X 2 (q * 12 + n))) :: (tPs F X q n ++ r) from h) e8_n)
section
variable {F X : tF} {G : Nat → Nat → Nat} {rs a b yp yt i j o : Nat} {k : Nat → Option (List tE)} {s : List tE}
/-- variables that are kept by an instruction -/
def k8 (F : tF) (i o : Nat) (s s2 : List tE) : Prop := (∀ v : Nat, ((8, v, 0) : tE) ∈ s → (o = 32 → ∀ v0 v1 : Nat, v0 ≤ 40 → v1 ≤ 40 → F 1 i = nI v0 → F 2 i = nI v1 → ¬ (v0 ≤ v ∧ v < v1)) → ((8, v, 0) : tE) ∈ s2) ∧ ((o = 24 ∨ o = 25 ∨ o = 29 ∨ o = 30) → ∀ v : Nat, v < 40 → F 1 i = nI v → ((8, v, 0) : tE) ∈ s2)
theorem k8_of {s2 : List tE} (h : ∀ v : Nat, ((8, v, 0) : tE) ∈ s → ((8, v, 0) : tE) ∈ s2) (ho : ¬ (o = 24 ∨ o = 25 ∨ o = 29 ∨ o = 30)) : k8 F i o s s2 := ⟨fun v hv _ => h v hv, fun q => absurd q ho⟩
theorem k8_c {e : tE} (ho : ¬ (o = 24 ∨ o = 25 ∨ o = 29 ∨ o = 30)) : k8 F i o s (e :: s) := k8_of (fun v hv => List.mem_cons_of_mem _ hv) ho
theorem k8_i (ho : ¬ (o = 24 ∨ o = 25 ∨ o = 29 ∨ o = 30)) : k8 F i o s s := k8_of (fun v hv => hv) ho
theorem k8_l {v : Nat} {s2 : List tE} (hv : v < 40) (h1 : F 1 i = nI v) (h : ∀ w : Nat, ((8, w, 0) : tE) ∈ s → ((8, w, 0) : tE) ∈ s2) (h8 : ((8, v, 0) : tE) ∈ s2) : k8 F i o s s2 := ⟨fun w hw _ => h w hw, fun _ w hw h2 => by
  have e : w = v := (nI_eq (by omega) (by omega)).mp (h2.symm.trans h1)
  rw [e]; exact h8⟩
theorem e8_f {J K : Int32 → List tE → Prop} : ∀ o : Nat, iOp F X G rs k J K i s o → (o ≠ 15 ∧ o ≠ 16 ∧ o ≠ 20 ∧ o ≠ 22) → ∃ s2 : List tE, k (i + 1) = some s2 ∧ k8 F i o s s2
  | 0, h, _ => by
    obtain ⟨T, hT, e⟩ := h
    exact ⟨_, e, k8_c (by decide)⟩
  | 1, h, _ => ⟨_, h, k8_c (by decide)⟩
  | 2, h, _ => by
    obtain ⟨p, T, mu, -, -, -, e⟩ := h
    exact ⟨_, e, k8_c (by decide)⟩
  | 3, h, _ => by
    obtain ⟨p, T, -, -, -, -, e⟩ := h
    exact ⟨_, e, k8_c (by decide)⟩
  | 4, h, _ => by
    obtain ⟨p, T, c, m, mu, -, -, -, -, -, -, -, e⟩ := h
    rcases e with ⟨-, e⟩ | ⟨-, -, e⟩
    · exact ⟨_, e, k8_c (by decide)⟩
    · exact ⟨_, e, k8_c (by decide)⟩
  | 5, h, _ => ⟨_, h.2, k8_i (by decide)⟩
  | 6, h, _ => ⟨_, h.2, k8_i (by decide)⟩
  | 7, h, _ => by
    obtain ⟨x, y, z, r, -, -, hz, rfl, e⟩ := h
    exact ⟨_, e, k8_of (fun v hv => List.mem_cons_of_mem _ (e8_t (e8_t hv (show (0 : Nat) ≠ 8 by decide)) (show (0 : Nat) ≠ 8 by decide))) (by decide)⟩
  | 8, h, _ => by
    obtain ⟨T, U, r, -, -, -, -, -, -, -, -, rfl, e⟩ := h
    exact ⟨_, e, k8_of (fun v hv => List.mem_cons_of_mem _ (e8_t hv e8_n)) (by decide)⟩
  | 9, h, _ => by
    obtain ⟨sh, n, h1, h2, -, -, -, e⟩ := h
    exact ⟨_, e, k8_c (by decide)⟩
  | 10, h, _ => by
    obtain ⟨sh, j, n, sn, r, h1, h2, -, -, -, -, -, -, -, rfl, e⟩ := h
    exact ⟨_, e, k8_of (fun v hv => List.mem_cons_of_mem _ (e8_t (e8_t hv e8_n) e8_pE)) (by decide)⟩
  | 11, h, _ => by
    obtain ⟨g, -, -, e⟩ := h
    exact ⟨_, e, k8_c (by decide)⟩
  | 12, h, _ => by
    obtain ⟨sh, g, n, r, h1, h2, -, -, -, -, -, -, rfl, e⟩ := h
    exact ⟨_, e, k8_of (fun v hv => List.mem_cons_of_mem _ (e8_t (e8_P n hv) (show (3 : Nat) ≠ 8 by decide))) (by decide)⟩
  | 13, h, _ => ⟨_, h, k8_i (by decide)⟩
  | 14, h, _ => ⟨_, h, k8_i (by decide)⟩
  | 15, _, q => absurd rfl q.1
  | 16, _, q => absurd rfl q.2.1
  | 17, h, _ => by
    obtain ⟨r, rfl, e, -⟩ := h
    exact ⟨_, e.1, k8_of (fun v hv => e8_t hv (show (0 : Nat) ≠ 8 by decide)) (by decide)⟩
  | 18, h, _ => by
    obtain ⟨r, rfl, e, -⟩ := h
    exact ⟨_, e, k8_of (fun v hv => e8_t hv (show (0 : Nat) ≠ 8 by decide)) (by decide)⟩
  | 19, h, _ => by
    obtain ⟨r, rfl, e, -⟩ := h
    exact ⟨_, e, k8_of (fun v hv => e8_t hv (show (0 : Nat) ≠ 8 by decide)) (by decide)⟩
  | 20, _, q => absurd rfl q.2.2.1
  | 21, h, _ => by
    obtain ⟨g, r, h1, -, rfl, e⟩ := h
    exact ⟨_, e, k8_of (fun v hv => List.mem_cons_of_mem _ (e8_A _ hv)) (by decide)⟩
  | 22, _, q => absurd rfl q.2.2.2
  | 23, h, _ => ⟨_, h, k8_i (by decide)⟩
  | 24, h, _ => by
    obtain ⟨v, T, r, h1, h2, -, -, -, -, rfl, e⟩ := h
    exact ⟨_, e, k8_l h1 h2 (fun w hw => List.mem_cons_of_mem _ (e8_t hw e8_n)) (List.mem_cons_self ..)⟩
  | 25, h, _ => by
    obtain ⟨v, h1, h2, -, -, e⟩ := h
    exact ⟨_, e, k8_l h1 h2 (fun w hw => List.mem_cons_of_mem _ hw) (List.mem_cons_self ..)⟩
  | 26, h, _ => by
    obtain ⟨p, v, n, T, pa, ro, mu, r, -, -, -, rfl, e⟩ := h
    exact ⟨_, e, k8_of (fun v hv => e8_t hv e8_n) (by decide)⟩
  | 27, h, _ => by
    obtain ⟨T, r, -, -, rfl, e⟩ := h
    exact ⟨_, e, k8_of (fun v hv => e8_t hv e8_n) (by decide)⟩
  | 28, h, _ => by
    obtain ⟨T, r, -, -, rfl, e⟩ := h
    exact ⟨_, e, k8_of (fun v hv => e8_t hv (show (0 : Nat) ≠ 8 by decide)) (by decide)⟩
  | 29, h, _ => by
    obtain ⟨v, sh, g, j, n, T, r, h1, h2, -, -, -, -, -, -, -, -, -, -, -, -, rfl, e⟩ := h
    exact ⟨_, e, k8_l h1 h2 (fun w hw => List.mem_cons_of_mem _ (List.mem_cons_of_mem _ (e8_t hw (show (4 : Nat) ≠ 8 by decide)))) (List.mem_cons_of_mem _ (List.mem_cons_self ..))⟩
  | 30, h, _ => by
    obtain ⟨v, sh, g, j, n, T, c, q, r, h1, h2, -, -, -, -, -, -, hq, -, -, -, -, -, -, -, -, rfl, e⟩ := h
    exact ⟨_, e, k8_l h1 h2 (fun w hw => List.mem_cons_of_mem _ (List.mem_cons_of_mem _ (e8_t hw (show q + 4 ≠ 8 by omega)))) (List.mem_cons_of_mem _ (List.mem_cons_self ..))⟩
  | 31, h, _ => by
    obtain ⟨r0, q, m, r, rfl, hq, e⟩ := h
    refine ⟨_, e, k8_of (fun v hv => e8_t hv (show q ≠ 8 from ?_)) (by decide)⟩
    rcases hq with ⟨rfl, -⟩ | ⟨rfl | rfl, -⟩ <;> decide
  | 32, h, _ => by
    obtain ⟨v0, v1, O, r, ⟨h0, -⟩, h40, h1, h2, rfl, hO, -, e⟩ := h
    refine ⟨_, e, fun v hv hn => ?_, fun q => absurd q (by decide)⟩
    rcases List.mem_append.mp hv with q | q
    · obtain ⟨w, w1, w2⟩ := hO _ q
      have e9 : v = w := by
        injection w1 with _ w1
        injection w1
      exact absurd (by rw [e9]; exact w2) (hn rfl v0 v1 (by omega) h40 h1 h2)
    · exact q
  | n + 33, h, _ => absurd h id
/-- where a jump leads to, variables stay -/
theorem e8_j (hc : ceI F X G rs a b k) (ha : a ≤ i) (hb : i < b) (hs : k i = some s) (ho : F 0 i = nI o) (h33 : o < 33) {l : Nat} (hl : l < 1100) (h5 : F 5 l = nI j) (hj6 : j < 6000) {s2 : List tE} (hs2 : k j = some s2) (h : ((o = 15 ∨ o = 16 ∨ o = 17 ∨ o = 18 ∨ o = 19) ∧ F 1 i = nI l) ∨ (o = 20 ∧ ∃ tc gg n9 : Nat, F 1 i = nI tc ∧ tc < 6000 ∧ F 3 i = nI n9 ∧ n9 ≤ 12 ∧ gg < n9 ∧ F 13 (tc + gg) = nI l)) : ∀ v : Nat, ((8, v, 0) : tE) ∈ s → ((8, v, 0) : tE) ∈ s2 := by
  have hce := ce_op hc ha hb hs ho h33
  have h60 : b ≤ 6000 := hc.2.1
  have lab : ∀ (m : Nat) (y : List tE), a ≤ m → m < b → (F 0 m = 13 ∨ F 0 m = 14) → F 1 m = nI l → k m = some y → s2 = y := fun m y m1 m2 m3 m4 m5 => by
    obtain ⟨l9, l1, l2, l3⟩ := hc.2.2 m m1 m2 m3
    have e1 : l9 = l := (nI_eq (by omega) (by omega)).mp (l2.symm.trans m4)
    rw [e1] at l3
    have e2 : m = j := (nI_eq (by omega) (by omega)).mp (l3.symm.trans h5)
    rw [e2, hs2] at m5
    exact Option.some.inj m5
  have jmp : ∀ y : List tE, False ∨ tJm F G k i b (nI l) y → s2 = y := fun y h => by
    obtain ⟨m, ⟨m1, -⟩, m2, m3, m4, m5⟩ := h.resolve_left id
    exact lab m y (by omega) m2 (Or.inl m3) m4 m5
  rcases h with ⟨hn, h1⟩ | ⟨rfl, tc, gg, n9, t1, t2, t3, t4, t5, t6⟩
  · rcases hn with rfl | rfl | rfl | rfl | rfl
    · obtain ⟨-, m, m1, m2, m3, m4, m5⟩ := hce
      have e := lab m s m1 (by omega) (Or.inr m3) (m4.trans h1) m5
      intro v hv; rw [e]; exact hv
    · have e3 := hce.2
      rw [h1] at e3
      have e := jmp _ e3
      intro v hv; rw [e]; exact hv
    · obtain ⟨r, rfl, -, e3⟩ := hce
      rw [h1] at e3
      have e := jmp _ e3
      intro v hv; rw [e]; exact e8_t hv (show (0 : Nat) ≠ 8 by decide)
    · obtain ⟨r, e1, -, e3⟩ := hce
      rw [h1] at e3
      have e := jmp _ e3
      intro v hv; rw [e]; exact hv
    · obtain ⟨r, e1, -, e3⟩ := hce
      rw [h1] at e3
      have e := jmp _ e3
      intro v hv; rw [e]; exact hv
  · obtain ⟨sh, n, tb9, r, -, -, -, n12, e1, e2, ⟨e3, -⟩, e4⟩ := hce
    have et : tc = tb9 := (nI_eq (by omega) (by omega)).mp (t1.symm.trans e1)
    have en : n9 = n := (nI_eq (by omega) (by omega)).mp (t3.symm.trans e3)
    subst et en
    rcases e4 with ⟨f1, -, f3⟩ | ⟨q, m, hq, f1, -, f3⟩
    · have f := f3 gg t5
      rw [t6] at f
      have e := jmp _ f
      intro v hv
      rw [f1] at hv
      rw [e]; exact List.mem_cons_of_mem _ (e8_t hv (show (0 : Nat) ≠ 8 by decide))
    · have f := f3 gg t5
      rw [t6] at f
      have e := jmp _ f
      intro v hv
      rw [f1] at hv
      rw [e]; exact List.mem_cons_of_mem _ (e8_t hv (show q ≠ 8 by omega))
end
