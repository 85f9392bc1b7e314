section PS16
variable {R : yR} {S0 S S1 S2 Sr : Sg} {E : eV} {i : iR} {s : List tE} {k L : Nat} {lv : Prop} {J : Nat → List tE → Prop}
theorem arL_b {b : Nat} {P : Nat → Bool} : ∀ {n u : Nat}, u ∈ arL b P n → 40 + b ≤ u ∧ u < 40 + b + n
  | 0, u, h => by cases h
  | n + 1, u, h => by
    rcases List.mem_append.mp (show u ∈ arL b P n ++ (if P n then [40 + (b + n)] else []) from h) with h | h
    · have := arL_b h; omega
    · by_cases q : P n = true
      · rw [if_pos q, List.mem_singleton] at h; omega
      · rw [if_neg q] at h; cases h
theorem arL_l {b : Nat} {P : Nat → Bool} : ∀ {n : Nat}, (arL b P n).length ≤ n
  | 0 => Nat.le_refl _
  | n + 1 => by
    have := arL_l (b := b) (P := P) (n := n)
    show (arL b P n ++ (if P n then [40 + (b + n)] else [])).length ≤ n + 1
    rw [List.length_append]
    by_cases q : P n = true
    · rw [if_pos q]; simp; omega
    · rw [if_neg q]; simp; omega
theorem wl_dE {f : Nat → Nat} : ∀ {n : Nat}, wl (dsl (fun q => eT (f q)) n) = n
  | 0 => rfl
  | n + 1 => by
    show wl (eT (f n) :: dsl (fun q => eT (f q)) n) = n + 1
    rw [wl_eT, wl_dE]
theorem sg1 {l l2 : List Nat} {u : Nat} (h : l = [u]) (h2 : l2 = [u]) (hu : u < 256) : (∀ x ∈ l, x < 256) ∧ (∀ x ∈ l2, x < 256) ∧ l.length ≤ 12 ∧ l2.length ≤ 12 := by
  subst h; subst h2
  exact ⟨fun x hx => by rw [List.mem_singleton] at hx; omega, fun x hx => by rw [List.mem_singleton] at hx; omega, by simp, by simp⟩
theorem sg0 {l l2 : List Nat} (h : l = []) (h2 : l2 = []) : (∀ x ∈ l, x < 256) ∧ (∀ x ∈ l2, x < 256) ∧ l.length ≤ 12 ∧ l2.length ≤ 12 := by
  subst h; subst h2
  exact ⟨fun x hx => (by cases hx), fun x hx => (by cases hx), by simp, by simp⟩
/-- bounds of an instruction -/
theorem tPt.hb (h : tPt E k lv i s J) (hw : wl s ≤ 177) (hln : ∀ l : Nat, i.ln = some l → l < L) (hL : L ≤ 160) : hBd i ∧ mBd i ∧ (i.kd = 25 → i.n1 < 256) ∧ ((i.kd = 20 ∨ i.kd = 21) → i.sc.length ≤ 12) := by
  have uv : ∀ {v : Nat}, iUv E i v → v < 40 → (∀ x ∈ i.us, x < 256) ∧ (∀ x ∈ i.fr, x < 256) ∧ i.us.length ≤ 12 ∧ i.fr.length ≤ 12 := fun {v} hu hv => by
    by_cases q : isRf (E.vt v)
    · exact sg1 (hu.1 q).1 (hu.1 q).2 (by omega)
    · exact sg0 (hu.2 q).1 (hu.2 q).2
  have d0 : iD0 i → i.kd ≠ 14 → i.kd ≠ 25 → ((i.kd = 12 ∨ i.kd = 13 ∨ i.kd = 22 ∨ i.kd = 23 ∨ i.kd = 24) → ∀ v ∈ i.vs, v < 40) → ((i.kd = 20 ∨ i.kd = 21) → i.sc.length ≤ 12) → hBd i ∧ mBd i ∧ (i.kd = 25 → i.n1 < 256) ∧ ((i.kd = 20 ∨ i.kd = 21) → i.sc.length ≤ 12) := fun ⟨h1, h2, h3, h4, h5, h6⟩ k14 k25 hv hs => by
    have hu := sg0 h5 h6
    exact ⟨⟨fun hh e => (by rw [h3] at e; cases e), hu.1, hu.2.1, hu.2.2.1, hu.2.2.2, fun l e => (by rw [h4] at e; cases e), fun w => absurd h1 w⟩, ⟨fun v ρ T e => (by rw [h2] at e; cases e), hv, fun w => absurd w k14, fun w => absurd h1 w⟩, fun w => absurd w k25, hs⟩
  have pa : ∀ {v : Nat} {ρ : lLc} {T : Nat}, iPa E i s v ρ T → iUv E i v → (∀ hh : Nat, i.ho = some hh → hh < 256) → i.kd ≠ 25 → ((i.kd = 12 ∨ i.kd = 13 ∨ i.kd = 22 ∨ i.kd = 23 ∨ i.kd = 24) → ∀ v ∈ i.vs, v < 40) → ((i.kd = 20 ∨ i.kd = 21) → i.sc.length ≤ 12) → hBd i ∧ mBd i ∧ (i.kd = 25 → i.n1 < 256) ∧ ((i.kd = 20 ∨ i.kd = 21) → i.sc.length ≤ 12) := fun {v ρ T} hp hu hho k25 hv hs => by
    obtain ⟨p1, ⟨p2, _⟩, _⟩ := hp
    have hpn : i.pa ≠ none := fun w => by rw [p1] at w; cases w
    have hu2 := uv hu p2
    exact ⟨⟨hho, hu2.1, hu2.2.1, hu2.2.2.1, hu2.2.2.2, fun l e => by have := hln l e; omega, fun _ => hpn⟩, ⟨fun v' ρ' T' e => (by rw [p1] at e; cases e; exact p2), hv, fun _ => hpn, fun _ => hpn⟩, fun w => absurd w k25, hs⟩
  unfold tPt at h
  split at h
  next hk => exact d0 h.1.1 (by omega) (by omega) (fun w => by omega) (fun w => by omega)
  next hk => exact d0 h.1.1 (by omega) (by omega) (fun w => by omega) (fun w => by omega)
  next hk => exact d0 h.1.1 (by omega) (by omega) (fun w => by omega) (fun w => by omega)
  next hk =>
    obtain ⟨h1, v, ρ, T, hp, hu, ho1, ho2, ha, _⟩ := h
    refine pa hp hu (fun hh e => ?_) (by omega) (fun w => by omega) (fun w => by omega)
    by_cases q : isRf T
    · rw [ho1 q] at e; cases e; omega
    · rw [ho2 q] at e; cases e
  next hk =>
    obtain ⟨v, ρ, T, hp, hu, ho1, _⟩ := h
    exact pa hp hu (fun hh e => by rw [ho1] at e; cases e; omega) (by omega) (fun w => by omega) (fun w => by omega)
  next hk => exact d0 h.1 (by omega) (by omega) (fun w => by omega) (fun w => by omega)
  next hk => exact d0 h.1 (by omega) (by omega) (fun w => by omega) (fun w => by omega)
  next hk => exact d0 h.1 (by omega) (by omega) (fun w => by omega) (fun w => by omega)
  next hk => exact d0 h.1 (by omega) (by omega) (fun w => by omega) (fun w => by omega)
  next hk => exact d0 h.1 (by omega) (by omega) (fun w => by omega) (fun w => by omega)
  next hk => exact d0 h.1.1 (by omega) (by omega) (fun w => by omega) (fun w => by omega)
  next hk =>
    obtain ⟨h1, h2, h3, r, h4, h5, h6, h7, h8, h9, h10, h11⟩ := h
    have hwl : wl s = i.n3 + wl r := by rw [h7, wl_app, wl_dE]
    have hho : ∀ hh : Nat, i.ho = some hh → hh < 256 := fun hh e => by
      rcases h11 with ⟨_, q, _⟩ | ⟨_, q1, q2, _⟩
      · rw [q] at e; cases e
      · by_cases q : isRf (E.hd i.n1).2.2
        · rw [q1 q] at e; cases e; omega
        · rw [q2 q] at e; cases e
    refine ⟨⟨hho, fun u hu => ?_, fun u hu => ?_, ?_, ?_, fun l e => (by rw [h3.1] at e; cases e), fun w => absurd h1 w⟩, ⟨fun v ρ T e => (by rw [h2] at e; cases e), fun w => by omega, fun w => by omega, fun w => absurd h1 w⟩, fun w => by omega, fun w => by omega⟩
    · rw [h9] at hu; have := arL_b hu; omega
    · rw [h10] at hu; have := arL_b hu; omega
    · rw [h9]; have := arL_l (b := wl r) (P := fun q => decide (10000 ≤ (E.hd i.n1).2.1 q ∧ (E.hd i.n1).2.1 q < 30000)) (n := i.n3); omega
    · rw [h10]; have := arL_l (b := wl r) (P := fun q => decide (10000 ≤ (E.hd i.n1).2.1 q ∧ (E.hd i.n1).2.1 q < 30000) && (decide (E.rl i.n1 < 0) || decide (E.lf i.n1 q = E.rl i.n1))) (n := i.n3); omega
  next hk => exact d0 h.1 (by omega) (by omega) (fun w => by omega) (fun w => by omega)
  next hk =>
    obtain ⟨h1, h2, h3, v, r, v1, v2, v3, _, _, _, _, u1, u2, _⟩ := h
    have hu : (∀ u ∈ i.us, u < 256) ∧ (∀ u ∈ i.fr, u < 256) ∧ i.us.length ≤ 12 ∧ i.fr.length ≤ 12 := by
      by_cases q : isRf (E.vt v)
      · exact sg1 (u1 q).1 (u1 q).2 (by decide)
      · exact sg0 (u2 q).1 (u2 q).2
    exact ⟨⟨fun hh e => (by rw [v3] at e; cases e; omega), hu.1, hu.2.1, hu.2.2.1, hu.2.2.2, fun l e => (by rw [h3] at e; cases e), fun w => absurd h1 w⟩, ⟨fun v ρ T e => (by rw [h2] at e; cases e), fun _ w hw => by rw [v1, List.mem_singleton] at hw; omega, fun w => by omega, fun w => absurd h1 w⟩, fun w => by omega, fun w => by omega⟩
  next hk =>
    obtain ⟨h1, h2, h3, h4, h5, v, v1, v2, v3, _⟩ := h
    have hu := sg0 h4 h5
    exact ⟨⟨fun hh e => (by rw [v3] at e; cases e; omega), hu.1, hu.2.1, hu.2.2.1, hu.2.2.2, fun l e => (by rw [h3.1] at e; cases e), fun w => absurd h1 w⟩, ⟨fun v ρ T e => (by rw [h2] at e; cases e), fun _ w hw => by rw [v1, List.mem_singleton] at hw; omega, fun w => by omega, fun w => absurd h1 w⟩, fun w => by omega, fun w => by omega⟩
  next hk =>
    obtain ⟨h1, h2, v, ρ, T, r, ⟨p1, ⟨p2, _⟩, _⟩, _, _, h5, _⟩ := h
    have hpn : i.pa ≠ none := fun w => by rw [p1] at w; cases w
    have hho : ∀ hh : Nat, i.ho = some hh → hh < 256 := fun hh e => by
      rcases h5 with ⟨_, q, _⟩ | ⟨_, q, _⟩
      · rw [q] at e; cases e; omega
      · rw [q] at e; cases e
    have hu : (∀ u ∈ i.us, u < 256) ∧ (∀ u ∈ i.fr, u < 256) ∧ i.us.length ≤ 12 ∧ i.fr.length ≤ 12 := by
      rcases h5 with ⟨_, _, u1, u2⟩ | ⟨_, _, u0, u1, u2⟩
      · by_cases q : isRf T
        · exact sg1 (u1 q).1 (u1 q).2 (by decide)
        · exact sg0 (u2 q).1 (u2 q).2
      · by_cases q : isRf (E.vt v)
        · rw [(u1 q).1, u0]
          exact ⟨fun u hu => by rw [List.mem_singleton] at hu; omega, fun u hu => (by cases hu), by simp, by simp⟩
        · exact sg0 (u2 q) u0
    exact ⟨⟨hho, hu.1, hu.2.1, hu.2.2.1, hu.2.2.2, fun l e => (by rw [h2] at e; cases e), fun _ => hpn⟩, ⟨fun v' ρ' T' e => (by rw [p1] at e; cases e; exact p2), fun w => by omega, fun _ => hpn, fun _ => hpn⟩, fun w => by omega, fun w => by omega⟩
  next hk => exact d0 h.1 (by omega) (by omega) (fun w => by omega) (fun w => by omega)
  next hk => exact d0 h.1.1 (by omega) (by omega) (fun w => by omega) (fun w => by omega)
  next hk => exact d0 h.1 (by omega) (by omega) (fun w => by omega) (fun w => by omega)
  next hk => exact d0 h.1 (by omega) (by omega) (fun w => by omega) (fun w => by omega)
  next hk => exact d0 h.1 (by omega) (by omega) (fun w => by omega) (fun w => by omega)
  next hk => exact d0 h.1 (by omega) (by omega) (fun w => by omega) (fun _ => by obtain ⟨_, r, _, _, _, _, _, w, _⟩ := h; exact w)
  next hk =>
    obtain ⟨ho1, _, v, ρ, hp, hu, _, _, _, _, _, hs, _⟩ := h
    exact pa hp hu (fun hh e => by rw [ho1] at e; cases e) (by omega) (fun w => by omega) (fun _ => hs)
  next hk =>
    obtain ⟨h1, r, _, _, _, _, _, _, _, _, _, hv, _⟩ := h
    exact d0 h1 (by omega) (by omega) (fun _ v hm => by obtain ⟨q, hq⟩ := List.mem_iff_getElem?.mp hm; exact (hv q v hq).1) (fun w => by omega)
  next hk =>
    obtain ⟨h1, v, ρ, w, q, g, m, r, v1, v2, v3, _, _, _, _, _, _, _, _, _, p1, ⟨p2, _⟩, _, _, _, _, hu, _⟩ := h
    have hpn : i.pa ≠ none := fun w => by rw [p1] at w; cases w
    have hu2 := uv hu p2
    exact ⟨⟨fun hh e => (by rw [v3] at e; cases e; omega), hu2.1, hu2.2.1, hu2.2.2.1, hu2.2.2.2, fun l e => by have := hln l e; omega, fun _ => hpn⟩, ⟨fun v' ρ' T' e => (by rw [p1] at e; cases e; exact p2), fun _ w' hw => by rw [v1, List.mem_singleton] at hw; omega, fun w => by omega, fun _ => hpn⟩, fun w => by omega, fun w => by omega⟩
  next hk =>
    obtain ⟨h1, h2, h4, h5, v, e9, r, v1, ⟨v2, _⟩, v3, p1, _⟩ := h
    have hpn : i.pa ≠ none := fun w => by rw [p1] at w; cases w
    have hu := sg0 h4 h5
    exact ⟨⟨fun hh e => (by rw [v3] at e; cases e; omega), hu.1, hu.2.1, hu.2.2.1, hu.2.2.2, fun l e => (by rw [h2] at e; cases e), fun _ => hpn⟩, ⟨fun v' ρ' T' e => (by rw [p1] at e; cases e; exact v2), fun _ w hw => by rw [v1, List.mem_singleton] at hw; omega, fun w => by omega, fun _ => hpn⟩, fun w => by omega, fun w => by omega⟩
  next hk =>
    obtain ⟨h1, h2, h3, h4, h5, h6, h7, _⟩ := h
    exact ⟨⟨fun hh e => (by rw [h3] at e; cases e), fun u hu => (by rw [h5, List.mem_singleton] at hu; omega), fun u hu => (by rw [h6] at hu; cases hu), (by rw [h5]; simp), (by rw [h6]; simp), fun l e => (by rw [h4] at e; cases e), fun w => absurd h1 w⟩, ⟨fun v ρ T e => (by rw [h2] at e; cases e), fun w => (by omega), fun w => (by omega), fun w => absurd h1 w⟩, fun _ => (by omega), fun w => (by omega)⟩
  next hk => exact d0 h.1 (by omega) (by omega) (fun w => by omega) (fun w => by omega)
  exact h.elim
end PS16
