/-- what an instruction of code o puts on the list of loans -/
def psh : Nat → Nat
  | 0 => 1
  | 1 => 1
  | 2 => 1
  | 3 => 1
  | 4 => 1
  | 9 => 1
  | 11 => 1
  | 21 => 1
  | _ => 0
theorem wl_a8 : ∀ {O : List tE}, (∀ x : tE, x ∈ O → ∃ v : Nat, x = (8, v, 0)) → wl O = 0
  | [], _ => rfl
  | x :: O, h => by
    obtain ⟨v, e⟩ := h x List.mem_cons_self
    show wl O + (if x.1 = 8 ∨ x.1 = 4 ∨ x.1 = 5 ∨ x.1 = 6 then 0 else 1) = 0
    rw [wl_a8 (fun y hy => h y (List.mem_cons_of_mem _ hy)), e, if_pos (Or.inl rfl)]
theorem wl_0n {a b c : Nat} {s : List tE} (h : ¬ (a = 8 ∨ a = 4 ∨ a = 5 ∨ a = 6)) : wl ((a, b, c) :: s) = wl s + 1 := wl_n (e := (a, b, c)) h
theorem wl_00 {a b c : Nat} {s : List tE} (h : a = 8 ∨ a = 4 ∨ a = 5 ∨ a = 6) : wl ((a, b, c) :: s) = wl s := by
  show wl s + (if a = 8 ∨ a = 4 ∨ a = 5 ∨ a = 6 then 0 else 1) = wl s
  rw [if_pos h, Nat.add_zero]
theorem some_i {s r : List tE} (h : some s = some r) : s = r := by injection h
/-- how deep the stack is behind instruction i -/
theorem wl_step {F X : tF} {G : Nat → Nat → Nat} {rs i : Nat} {k : Nat → Option (List tE)} {J K : Int32 → List tE → Prop} {s : List tE} : ∀ o : Nat, iOp F X G rs k J K i s o → po F G i o ≤ wl s ∧ (nu o → ∀ r : List tE, k (i + 1) = some r → wl r + po F G i o = wl s + psh o) ∧ (¬ nu o → wl s ≤ po F G i o)
  | 0, h => by
    obtain ⟨T, h1, h2⟩ := h
    refine ⟨Nat.zero_le _, fun _ r hr => ?_, fun q => absurd (by unfold nu; decide) q⟩
    obtain rfl := some_i (h2.symm.trans hr)
    show wl _ + 0 = wl s + 1
    rw [wl_0n (by decide)]
  | 1, h => by
    have h : k (i + 1) = some ((0, 1, 0) :: s) := h
    refine ⟨Nat.zero_le _, fun _ r hr => ?_, fun q => absurd (by unfold nu; decide) q⟩
    obtain rfl := some_i (h.symm.trans hr)
    show wl _ + 0 = wl s + 1
    rw [wl_0n (by decide)]
  | 2, h => by
    obtain ⟨p, T, mu, h1, h2, h3, h4⟩ := h
    refine ⟨Nat.zero_le _, fun _ r hr => ?_, fun q => absurd (by unfold nu; decide) q⟩
    obtain rfl := some_i (h4.symm.trans hr)
    show wl _ + 0 = wl s + 1
    rw [wl_t]
  | 3, h => by
    obtain ⟨p, T, h1, h2, h3, h4, h5⟩ := h
    refine ⟨Nat.zero_le _, fun _ r hr => ?_, fun q => absurd (by unfold nu; decide) q⟩
    obtain rfl := some_i (h5.symm.trans hr)
    show wl _ + 0 = wl s + 1
    rw [wl_t]
  | 4, h => by
    obtain ⟨p, T, b, m, mu, h1, h2, h3, h4, h5, h6, h7, h8⟩ := h
    refine ⟨Nat.zero_le _, fun _ r hr => ?_, fun q => absurd (by unfold nu; decide) q⟩
    rcases h8 with ⟨-, h8⟩ | ⟨-, -, h8⟩
    · obtain rfl := some_i (h8.symm.trans hr)
      show wl _ + 0 = wl s + 1
      rw [wl_0n (by decide)]
    · obtain rfl := some_i (h8.symm.trans hr)
      show wl _ + 0 = wl s + 1
      rw [wl_0n (by decide)]
  | 5, h => by
    refine ⟨Nat.zero_le _, fun _ r hr => ?_, fun q => absurd (by unfold nu; decide) q⟩
    obtain rfl := some_i ((h.2).symm.trans hr)
    rfl
  | 6, h => by
    refine ⟨Nat.zero_le _, fun _ r hr => ?_, fun q => absurd (by unfold nu; decide) q⟩
    obtain rfl := some_i ((h.2).symm.trans hr)
    rfl
  | 7, h => by
    obtain ⟨x, y, z, r0, h1, h2, h3, rfl, h5⟩ := h
    refine ⟨by rw [wl_0n (by decide)]; exact Nat.succ_le_succ (Nat.zero_le _), fun _ r hr => ?_, fun q => absurd (by unfold nu; decide) q⟩
    obtain rfl := some_i (h5.symm.trans hr)
    rw [wl_0n (by decide), wl_0n (by decide), wl_0n (by decide)]; rfl
  | 8, h => by
    obtain ⟨T, U, r0, h1, h2, h3, h4, h5, h6, h7, h8, rfl, h9⟩ := h
    refine ⟨Nat.zero_le _, fun _ r hr => ?_, fun q => absurd (by unfold nu; decide) q⟩
    obtain rfl := some_i (h9.symm.trans hr)
    rw [wl_0n (by decide), wl_t]; rfl
  | 9, h => by
    obtain ⟨sh, n, h1, h2, h3, h4, h5, h6⟩ := h
    refine ⟨Nat.zero_le _, fun _ r hr => ?_, fun q => absurd (by unfold nu; decide) q⟩
    obtain rfl := some_i (h6.symm.trans hr)
    show wl _ + 0 = wl s + 1
    rw [wl_p]
  | 10, h => by
    obtain ⟨sh, j, n, sn, r0, h1, h2, h3, h4, h5, h6, h7, h8, h9, rfl, h10⟩ := h
    refine ⟨by rw [wl_t]; exact Nat.succ_le_succ (Nat.zero_le _), fun _ r hr => ?_, fun q => absurd (by unfold nu; decide) q⟩
    obtain rfl := some_i (h10.symm.trans hr)
    rw [wl_t, wl_p, wl_p]; rfl
  | 11, h => by
    obtain ⟨g, h1, h2, h3⟩ := h
    refine ⟨Nat.zero_le _, fun _ r hr => ?_, fun q => absurd (by unfold nu; decide) q⟩
    obtain rfl := some_i (h3.symm.trans hr)
    show wl _ + 0 = wl s + 1
    rw [wl_0n (by decide)]
  | 12, h => by
    obtain ⟨sh, g, n, r0, h1, h2, h3, h4, h5, h6, h7, h8, rfl, h9⟩ := h
    have e : po F G i 12 = n := by show cN (F 2 i) = n; rw [h7, cN_nI (by omega)]
    rw [e, wl_app, wl_ps]
    refine ⟨Nat.le_add_right _ _, fun _ r hr => ?_, fun q => absurd (by unfold nu; decide) q⟩
    obtain rfl := some_i (h9.symm.trans hr)
    rw [wl_0n (by decide), wl_0n (by decide)]
    show wl r0 + 1 + n = n + (wl r0 + 1) + 0
    omega
  | 13, h => by
    refine ⟨Nat.zero_le _, fun _ r hr => ?_, fun q => absurd (by unfold nu; decide) q⟩
    obtain rfl := some_i (((show k (i + 1) = some s from h)).symm.trans hr)
    rfl
  | 14, h => by
    refine ⟨Nat.zero_le _, fun _ r hr => ?_, fun q => absurd (by unfold nu; decide) q⟩
    obtain rfl := some_i (((show k (i + 1) = some s from h)).symm.trans hr)
    rfl
  | 15, h => ⟨Nat.zero_le _, fun q => absurd q (by unfold nu; decide), fun _ => Nat.le_of_eq (wl_vl h.1)⟩
  | 16, h => ⟨Nat.zero_le _, fun q => absurd q (by unfold nu; decide), fun _ => Nat.le_of_eq (wl_vl h.1)⟩
  | 17, h => by
    obtain ⟨r0, rfl, ⟨h2, h3⟩, h4⟩ := h
    refine ⟨by rw [wl_0n (by decide)]; exact Nat.succ_le_succ (Nat.zero_le _), fun _ r hr => ?_, fun q => absurd (by unfold nu; decide) q⟩
    obtain rfl := some_i (h2.symm.trans hr)
    rw [wl_0n (by decide)]; rfl
  | 18, h => by
    obtain ⟨r0, rfl, h2, h4⟩ := h
    refine ⟨by rw [wl_0n (by decide)]; exact Nat.succ_le_succ (Nat.zero_le _), fun _ r hr => ?_, fun q => absurd (by unfold nu; decide) q⟩
    obtain rfl := some_i (h2.symm.trans hr)
    rw [wl_0n (by decide)]; rfl
  | 19, h => by
    obtain ⟨r0, rfl, h2, h4⟩ := h
    refine ⟨by rw [wl_0n (by decide)]; exact Nat.succ_le_succ (Nat.zero_le _), fun _ r hr => ?_, fun q => absurd (by unfold nu; decide) q⟩
    obtain rfl := some_i (h2.symm.trans hr)
    rw [wl_0n (by decide)]; rfl
  | 20, h => by
    obtain ⟨sh, n, tb, r0, h1, h2, h3, h4, h5, h6, ⟨h7, h0⟩, h8⟩ := h
    have e0 := wl_vl h0
    rcases h8 with ⟨rfl, -⟩ | ⟨q, m, hq, rfl, -⟩
    · rw [wl_0n (by decide), e0]
      exact ⟨Nat.le_refl _, fun q => absurd q (by unfold nu; decide), fun _ => Nat.le_refl _⟩
    · rw [wl_0n (by omega), e0]
      exact ⟨Nat.le_refl _, fun q => absurd q (by unfold nu; decide), fun _ => Nat.le_refl _⟩
  | 21, h => by
    obtain ⟨g, r0, h1, h2, rfl, h3⟩ := h
    have e : po F G i 21 = G g 0 := by show G (cN (F 1 i)) 0 = G g 0; rw [h2, cN_nI (by omega)]
    rw [e, wl_app, wl_as]
    refine ⟨Nat.le_add_right _ _, fun _ r hr => ?_, fun q => absurd (by unfold nu; decide) q⟩
    obtain rfl := some_i (h3.symm.trans hr)
    rw [wl_t]
    show wl r0 + 1 + G g 0 = G g 0 + wl r0 + 1
    omega
  | 22, h => by
    obtain ⟨T, O, h1, h2, h3, h4, h5⟩ := h
    have e0 : wl O = 0 := wl_a8 (fun x hx => by obtain ⟨v, e, -⟩ := h5 x hx; exact ⟨v, e⟩)
    rcases h4 with ⟨q, rfl⟩ | ⟨q, rfl, -⟩
    · have e : po F G i 22 = 1 := by show cN (F 2 i) = 1; rw [q]; rfl
      rw [e, wl_t, e0]
      exact ⟨Nat.le_refl _, fun q => absurd q (by unfold nu; decide), fun _ => Nat.le_refl _⟩
    · have e : po F G i 22 = 0 := by show cN (F 2 i) = 0; rw [q]; rfl
      rw [e, e0]
      exact ⟨Nat.le_refl _, fun q => absurd q (by unfold nu; decide), fun _ => Nat.le_refl _⟩
  | 23, h => by
    refine ⟨Nat.zero_le _, fun _ r hr => ?_, fun q => absurd (by unfold nu; decide) q⟩
    obtain rfl := some_i (((show k (i + 1) = some s from h)).symm.trans hr)
    rfl
  | 24, h => by
    obtain ⟨v, T, r0, h1, h2, h3, h4, h5, h6, rfl, h7⟩ := h
    refine ⟨by rw [wl_t]; exact Nat.succ_le_succ (Nat.zero_le _), fun _ r hr => ?_, fun q => absurd (by unfold nu; decide) q⟩
    obtain rfl := some_i (h7.symm.trans hr)
    rw [wl_00 (by decide), wl_t]; rfl
  | 25, h => by
    obtain ⟨v, h1, h2, h3, h4, h5⟩ := h
    refine ⟨Nat.zero_le _, fun _ r hr => ?_, fun q => absurd (by unfold nu; decide) q⟩
    obtain rfl := some_i (h5.symm.trans hr)
    rw [wl_00 (by decide)]; rfl
  | 26, h => by
    obtain ⟨p, v, n, T, pa, ro, mu, r0, h1, h2, h3, rfl, h5⟩ := h
    refine ⟨by rw [wl_t]; exact Nat.succ_le_succ (Nat.zero_le _), fun _ r hr => ?_, fun q => absurd (by unfold nu; decide) q⟩
    obtain rfl := some_i (h5.symm.trans hr)
    rw [wl_t]; rfl
  | 27, h => by
    obtain ⟨T, r0, h1, h2, rfl, h5⟩ := h
    refine ⟨by rw [wl_t]; exact Nat.succ_le_succ (Nat.zero_le _), fun _ r hr => ?_, fun q => absurd (by unfold nu; decide) q⟩
    obtain rfl := some_i (h5.symm.trans hr)
    rw [wl_t]; rfl
  | 28, h => by
    obtain ⟨T, r0, h1, h2, rfl, h5⟩ := h
    refine ⟨by rw [wl_0n (by decide)]; exact Nat.succ_le_succ (Nat.zero_le _), fun _ r hr => ?_, fun q => absurd (by unfold nu; decide) q⟩
    obtain rfl := some_i (h5.symm.trans hr)
    rw [wl_0n (by decide)]; rfl
  | 29, h => by
    obtain ⟨v, sh, g, j, n, T, r0, h1, h2, h3, h4, h5, h6, h7, h8, h9, h10, h11, h12, h13, h14, rfl, h15⟩ := h
    refine ⟨Nat.zero_le _, fun _ r hr => ?_, fun q => absurd (by unfold nu; decide) q⟩
    obtain rfl := some_i (h15.symm.trans hr)
    rw [wl_00 (by decide), wl_00 (by decide), wl_00 (by decide)]; rfl
  | 30, h => by
    obtain ⟨v, sh, g, j, n, T, b, q, r0, h1, h2, h3, h4, h5, h6, h7, h8, hq, h10, h11, h12, h13, h14, h15, h16, h17, rfl, h18⟩ := h
    refine ⟨Nat.zero_le _, fun _ r hr => ?_, fun q => absurd (by unfold nu; decide) q⟩
    obtain rfl := some_i (h18.symm.trans hr)
    rw [wl_00 (by omega), wl_00 (by decide), wl_00 (by omega)]; rfl
  | 31, h => by
    obtain ⟨r1, q, m, r0, rfl, h1, h2⟩ := h
    refine ⟨Nat.zero_le _, fun _ r hr => ?_, fun q => absurd (by unfold nu; decide) q⟩
    obtain rfl := some_i (h2.symm.trans hr)
    rw [wl_00 (by rcases h1 with ⟨z, -⟩ | ⟨z, -⟩ <;> omega)]; rfl
  | 32, h => by
    obtain ⟨v0, v1, O, r0, h1, h2, h3, h4, rfl, h5, h6, h7⟩ := h
    refine ⟨Nat.zero_le _, fun _ r hr => ?_, fun q => absurd (by unfold nu; decide) q⟩
    obtain rfl := some_i (h7.symm.trans hr)
    rw [wl_app, wl_a8 (O := O) (fun x hx => by obtain ⟨v, e, -⟩ := h5 x hx; exact ⟨v, e⟩)]
    show wl r0 + 0 = 0 + wl r0 + 0
    omega
  | n + 33, h => h.elim
/-- temps, how many -/
def lnF (s : lnT) : Nat → Int64 := s.2.2.2.2.2.2.1
def lnN (s : lnT) : Nat := s.2.2.2.2.2.2.2.1
def lnB (s : lnT) : Nat → Int64 := s.2.2.2.2.2.2.2.2
theorem popF_n {ft : Nat → Int64} : ∀ (k tn : Nat) (x : Int64), (popF ft k tn x).1 = tn - k
  | 0, tn, x => rfl
  | k + 1, 0, x => by show (0 : Nat) = 0 - (k + 1); omega
  | k + 1, tn + 1, x => by show (popF ft k tn (x ||| ft tn)).1 = tn + 1 - (k + 1); rw [popF_n k tn]; omega
theorem popF_e {ft : Nat → Int64} {k tn tn2 : Nat} {x y : Int64} (h : (tn2, y) = popF ft k tn x) : tn2 = tn - k := (congrArg Prod.fst h).trans (popF_n k tn x)
theorem lnCl_n {rl : Int32} {pl : Nat → Int32} {ft : Nat → Int64} : ∀ {n : Nat} {s t : Nat × Int64}, lnCl rl pl ft n s t → t.1 = s.1 - n
  | 0, s, t, h => by
    have h : t = s := h
    rw [h]; omega
  | n + 1, s, t, h => by
    obtain ⟨tn2, x, h1, h2⟩ := h
    have e := lnCl_n h2
    have e1 := popF_e h1
    have e2 : t.1 = tn2 - n := e
    omega
theorem lnPo_n {k : Nat} {s t : lnT} (h : lnPo k s t) : lnN t = lnN s - k ∧ lnF t = lnF s := by
  obtain ⟨x, h1, h2⟩ := h
  exact ⟨popF_e h1, by unfold lnF; rw [h2]; rfl⟩
theorem lnSd_n {n L : Nat} {s t : lnT} {rv : Int32} (h : lnSd n L s t rv) : lnN t = lnN s ∧ lnF t = lnF s := by
  unfold lnN lnF; rw [h.2.2.2.1]; exact ⟨rfl, rfl⟩
theorem lnSw_n {F : tF} {n tb c : Nat} {s t : lnT} (h : lnSw F n tb c s t) : lnN t = lnN s ∧ lnF t = lnF s := by
  unfold lnN lnF; rw [(lnSw_ag h).1]; exact ⟨rfl, rfl⟩
/-- what an instruction does to the temps -/
theorem lnE {F : tF} {G : Nat → Nat → Nat} {C : lnC} {Q : lnQ} {i : Nat} {s t : lnT} (hG : ∀ g : Nat, g < Q.2.2.2.2.2.1 → Q.2.2.2.2.2.2.1 g 3 = nI (G g 0) ∧ G g 0 ≤ 12) (h22 : F 0 i = 22 → F 2 i = 0 ∨ F 2 i = 1) (hgb : ∀ g : Nat, g < Q.2.2.2.2.2.1 → g < 2 ^ 31) : ∀ o : Nat, F 0 i = nI o → o < 33 → lnLk F C Q i s t o → (psh o = 0 ∧ lnN t = lnN s - po F G i o ∧ lnF t = lnF s) ∨ (psh o = 1 ∧ ∃ x : Int64, psR (lnF s) (lnN s - po F G i o) x (lnF t) (lnN t))
  | 0, ho, _, h => by
    obtain ⟨gt, tn2, h1, rfl⟩ := h
    exact Or.inr ⟨rfl, _, h1⟩
  | 1, ho, _, h => by
    obtain ⟨gt, tn2, h1, rfl⟩ := h
    exact Or.inr ⟨rfl, _, h1⟩
  | 2, ho, _, h => by
    obtain ⟨p, v, u, h1, h2, h3, h4, rfl, h5⟩ := h
    rcases h5 with ⟨-, gt, tn2, h6, rfl⟩ | ⟨-, gt, tn2, h6, rfl⟩
    · exact Or.inr ⟨rfl, _, h6⟩
    · exact Or.inr ⟨rfl, _, h6⟩
  | 3, ho, _, h => by
    obtain ⟨p, v, u, h1, h2, h3, h4, rfl, h5⟩ := h
    rcases h5 with ⟨-, gt, tn2, h6, rfl⟩ | ⟨-, gt, tn2, h6, rfl⟩
    · exact Or.inr ⟨rfl, _, h6⟩
    · exact Or.inr ⟨rfl, _, h6⟩
  | 4, ho, _, h => by
    obtain ⟨p, v, b, x, gt, tn2, h1, h2, h3, h4, h5, h6, h7, h8, rfl⟩ := h
    exact Or.inr ⟨rfl, _, h8⟩
  | 5, ho, _, h => by
    have h : t = s := h
    rw [h]; exact Or.inl ⟨rfl, rfl, rfl⟩
  | 6, ho, _, h => by
    have h : t = s := h
    rw [h]; exact Or.inl ⟨rfl, rfl, rfl⟩
  | 7, ho, _, h => Or.inl ⟨rfl, (lnPo_n h).1, (lnPo_n h).2⟩
  | 8, ho, _, h => by
    have h : t = s := h
    rw [h]; exact Or.inl ⟨rfl, rfl, rfl⟩
  | 9, ho, _, h => by
    obtain ⟨gt, tn2, h1, rfl⟩ := h
    exact Or.inr ⟨rfl, _, h1⟩
  | 10, ho, _, h => Or.inl ⟨rfl, (lnPo_n h).1, (lnPo_n h).2⟩
  | 11, ho, _, h => by
    obtain ⟨gt, tn2, h1, rfl⟩ := h
    exact Or.inr ⟨rfl, _, h1⟩
  | 12, ho, _, h => by
    obtain ⟨n, h1, h2, h3⟩ := h
    have e : po F G i 12 = n := by show cN (F 2 i) = n; rw [h2, cN_nI (by omega)]
    rw [e]; exact Or.inl ⟨rfl, (lnPo_n h3).1, (lnPo_n h3).2⟩
  | 13, ho, _, h => by
    have h : t = s := h
    rw [h]; exact Or.inl ⟨rfl, rfl, rfl⟩
  | 14, ho, _, h => by
    have h : t = s := h
    rw [h]; exact Or.inl ⟨rfl, rfl, rfl⟩
  | 15, ho, _, h => by
    obtain ⟨L, u, rv, q1, q2, q3, rfl⟩ := h
    exact Or.inl ⟨rfl, (lnSd_n q3).1, (lnSd_n q3).2⟩
  | 16, ho, _, h => by
    obtain ⟨L, u, rv, q1, q2, q3, rfl⟩ := h
    exact Or.inl ⟨rfl, (lnSd_n q3).1, (lnSd_n q3).2⟩
  | 17, ho, _, h => by
    obtain ⟨L, u, rv, q1, q2, q3, q4⟩ := h
    exact Or.inl ⟨rfl, (lnSd_n q4).1.trans (lnPo_n q3).1, (lnSd_n q4).2.trans (lnPo_n q3).2⟩
  | 18, ho, _, h => by
    obtain ⟨L, u, rv, q1, q2, q3, q4⟩ := h
    exact Or.inl ⟨rfl, (lnSd_n q4).1.trans (lnPo_n q3).1, (lnSd_n q4).2.trans (lnPo_n q3).2⟩
  | 19, ho, _, h => by
    obtain ⟨L, u, rv, q1, q2, q3, q4⟩ := h
    exact Or.inl ⟨rfl, (lnSd_n q4).1.trans (lnPo_n q3).1, (lnSd_n q4).2.trans (lnPo_n q3).2⟩
  | 20, ho, _, h => by
    obtain ⟨tb, c, u, v, q1, q2, q3, q4, q5, q6, rfl⟩ := h
    exact Or.inl ⟨rfl, (lnSw_n q6).1.trans (lnPo_n q5).1, (lnSw_n q6).2.trans (lnPo_n q5).2⟩
  | 21, ho, _, h => by
    obtain ⟨g, h1, h2, n, x, t1, gt, tn2, q1, q2, q3, q4, rfl⟩ := h
    obtain ⟨e1, e2⟩ := hG g h2
    have en : n = G g 0 := (nI_eq (a := n) (b := G g 0) (by omega) (by omega)).mp (q1.symm.trans e1)
    have e3 : t1 = lnN s - n := lnCl_n q3
    have e : po F G i 21 = n := by
      show G (cN (F 1 i)) 0 = n
      rw [h1, cN_nI (hgb g h2), en]
    rw [e, ← e3]
    rcases q4 with ⟨-, q4⟩ | ⟨-, q4⟩
    · exact Or.inr ⟨rfl, _, q4⟩
    · exact Or.inr ⟨rfl, _, q4⟩
  | 22, ho, _, h => by
    obtain ⟨x, f1, g6, g8, h1, h2, h3, rfl⟩ := h
    rcases h1 with ⟨q, h1⟩ | ⟨q, h1, -⟩
    · have e : po F G i 22 = 1 := by show cN (F 2 i) = 1; rw [q]; rfl
      rw [e]; exact Or.inl ⟨rfl, popF_e h1, rfl⟩
    · have e : po F G i 22 = 0 := by show cN (F 2 i) = 0; rw [(h22 ho).resolve_right q]; rfl
      rw [e]; exact Or.inl ⟨rfl, h1, rfl⟩
  | 23, ho, _, h => by
    have h : t = s := h
    rw [h]; exact Or.inl ⟨rfl, rfl, rfl⟩
  | 24, ho, _, h => by
    obtain ⟨v, x, tn2, h1, h2, h3, rfl⟩ := h
    exact Or.inl ⟨rfl, popF_e h3, rfl⟩
  | 25, ho, _, h => by
    obtain ⟨v, h1, h2, rfl⟩ := h
    exact Or.inl ⟨rfl, rfl, rfl⟩
  | 26, ho, _, h => by
    obtain ⟨p, v, x, tn2, h1, h2, h3, h4, h5, h6⟩ := h
    rcases h6 with ⟨-, rfl⟩ | ⟨-, rfl⟩
    · exact Or.inl ⟨rfl, popF_e h5, rfl⟩
    · exact Or.inl ⟨rfl, popF_e h5, rfl⟩
  | 27, ho, _, h => Or.inl ⟨rfl, (lnPo_n h).1, (lnPo_n h).2⟩
  | 28, ho, _, h => Or.inl ⟨rfl, (lnPo_n h).1, (lnPo_n h).2⟩
  | 29, ho, _, h => by
    obtain ⟨v, h1, h2, rfl⟩ := h
    exact Or.inl ⟨rfl, rfl, rfl⟩
  | 30, ho, _, h => by
    obtain ⟨v, b, h1, h2, h3, h4, rfl⟩ := h
    exact Or.inl ⟨rfl, rfl, rfl⟩
  | 31, ho, _, h => by
    have h : t = s := h
    rw [h]; exact Or.inl ⟨rfl, rfl, rfl⟩
  | 32, ho, _, h => by
    obtain ⟨v0, v1, g1, g6, h1, h2, h3, h4, h5, rfl⟩ := h
    exact Or.inl ⟨rfl, rfl, rfl⟩
  | n + 33, _, h, _ => absurd h (by omega)
