/-- what must be there for a way: the boxes and variants on it -/
def prS : qV → lLc → Prop
  | _, [] => True
  | V, (0, j) :: ρ => prS (qS V [(0, j)]) ρ
  | V, (1, j) :: ρ => (∃ z : Nat × Nat, V [] = some z) ∧ prS (qS V [(1, j)]) ρ
  | V, (g + 2, j) :: ρ => (∃ t : Nat, V [] = some (t, g)) ∧ prS (qS V [(g + 2, j)]) ρ
/-- from the node n, a place of type T, the way leads to a node -/
def wRn (y : qY) (zn : Nat → Nat) (M : nM) : Nat → Nat → lLc → Nat → Prop
  | _, n, [], n2 => n2 = n
  | T, n, (0, j) :: π, n2 => ∃ (L : List Nat) (n1 : Nat), lkN M.x L ∧ L[0]? = some n ∧ L[psN (fun i => zn (y.2.2.2.2 T 0 i)) j]? = some n1 ∧ wRn y zn M (y.2.2.2.2 T 0 j) n1 π n2
  | T, n, (1, _) :: π, n2 => ∃ m n1 : Nat, M.w n = nL m ∧ (1 ≤ m ∧ m < 430000) ∧ kdW (M.w m) = nI n1 ∧ n1 < 430000 ∧ wRn y zn M (y.2.1 T) n1 π n2
  | T, n, (g + 2, j) :: π, n2 => ∃ (m n0 : Nat) (L : List Nat) (n1 : Nat), M.w n = nL m ∧ (1 ≤ m ∧ m < 430000) ∧ kdW (M.w m) = nI n0 ∧ n0 < 430000 ∧ lkN M.x L ∧ L[0]? = some n0 ∧ L[psN (fun i => zn (y.2.2.2.2 T g i)) j]? = some n1 ∧ wRn y zn M (y.2.2.2.2 T g j) n1 π n2
section PS33
variable {y : qY} {zn sz rk : Nat → Nat} {M M2 : nM} {k T : Nat} {V : qV} {c l h : List Nat} {x : Int64}
theorem nL_t {m : Nat} : Int64.toInt32 (nL m) = nI m := by
  unfold nL
  exact Int32.toInt32_toInt64 _
theorem nL_e {a b : Nat} (ha : a < 2 ^ 31) (hb : b < 2 ^ 31) (q : nL a = nL b) : a = b := nI_e ha hb (by rw [← nL_t, ← nL_t, q])
theorem hdN_0 (h1 : 1 ≤ c.length) : c[0]? = some (hdN c) := by
  cases c with
  | nil => cases h1
  | cons a c => rfl
theorem hdN_i (h1 : 1 ≤ c.length) : hdN c ∈ c := by
  cases c with
  | nil => cases h1
  | cons a c => exact List.mem_cons_self ..
theorem lkN.det {f : Nat → Int32} {L L2 : List Nat} (h1 : lkN f L) (h2 : lkN f L2) (h0 : L[0]? = L2[0]?) : ∀ {i a b : Nat}, L[i]? = some a → L2[i]? = some b → a = b
  | 0, a, b, ha, hb => by rw [h0, hb] at ha; exact (Option.some.inj ha).symm
  | i + 1, a, b, ha, hb => by
    have la : i < L.length := by
      have := (List.getElem?_eq_some_iff.mp ha).1
      omega
    have lb : i < L2.length := by
      have := (List.getElem?_eq_some_iff.mp hb).1
      omega
    have ea := List.getElem?_eq_getElem la
    have eb := List.getElem?_eq_getElem lb
    have e := lkN.det h1 h2 h0 ea eb
    have e1 := h1.2 i _ a ea ha
    have e2 := h2.2 i _ b eb hb
    rw [e, e2] at e1
    have ba := (h1.1 a (List.mem_of_getElem? ha)).2
    have bb := (h2.1 b (List.mem_of_getElem? hb)).2
    exact (nI_e (by omega) (by omega) e1).symm
theorem lkN.seg {f : Nat → Int32} {cs : Nat → List Nat} {n j : Nat} (q : lkN f (ftN cs n)) (hj : j < n) : lkN f (cs j) := by
  refine ⟨fun a ha => q.1 a (ftN_mem.mpr ⟨j, hj, ha⟩), fun i a b ha hb => ?_⟩
  have la := (List.getElem?_eq_some_iff.mp ha).1
  have lb := (List.getElem?_eq_some_iff.mp hb).1
  exact q.2 (psN (fun j => (cs j).length) j + i) a b (by rw [ftN_get hj la]; exact ha) (by rw [Nat.add_assoc, ftN_get hj lb]; exact hb)
/-- where part j begins -/
theorem ftN_hd {cs : Nat → List Nat} {s : Nat → Nat} {n j : Nat} (hl : ∀ i : Nat, i < n → (cs i).length = s i) (h1 : 1 ≤ s j) (hj : j < n) : (ftN cs n)[psN s j]? = some (hdN (cs j)) := by
  have e : psN s j = psN (fun j => (cs j).length) j + 0 := by
    rw [Nat.add_zero]
    exact psN_cg (fun i hi => (hl i (by omega)).symm)
  rw [e, ftN_get hj (by rw [hl j hj]; omega)]
  exact hdN_0 (by rw [hl j hj]; exact h1)
theorem ftN_0 {cs : Nat → List Nat} {s : Nat → Nat} {n j : Nat} (hl : ∀ i : Nat, i < n → (cs i).length = s i) (h1 : ∀ i : Nat, 1 ≤ s i) (hj : j < n) : 1 ≤ (ftN cs n).length := by
  rw [ftN_len]
  exact psN_1 (by omega) (fun k hk => by rw [hl k hk]; exact h1 k)
theorem wRn.det : ∀ {π : lLc} {T n a b : Nat}, wRn y zn M T n π a → wRn y zn M T n π b → a = b
  | [], _, _, _, _, h1, h2 => (show _ = _ from h1).trans (show _ = _ from h2).symm
  | (0, j) :: π, T, n, a, b, ⟨L, n1, p1, p2, p3, p4⟩, ⟨L2, n2, q1, q2, q3, q4⟩ => by
    have e := p1.det q1 (p2.trans q2.symm) p3 q3
    subst e
    exact wRn.det p4 q4
  | (1, j) :: π, T, n, a, b, ⟨m, n1, p1, p2, p3, p4, p5⟩, ⟨m2, n2, q1, q2, q3, q4, q5⟩ => by
    have e := nL_e (by omega) (by omega) (p1.symm.trans q1)
    subst e
    have e := nI_e (by omega) (by omega) (p3.symm.trans q3)
    subst e
    exact wRn.det p5 q5
  | (g + 2, j) :: π, T, n, a, b, ⟨m, n0, L, n1, p1, p2, p3, p4, p5, p6, p7, p8⟩, ⟨m2, n2, L2, n3, q1, q2, q3, q4, q5, q6, q7, q8⟩ => by
    have e := nL_e (by omega) (by omega) (p1.symm.trans q1)
    subst e
    have e := nI_e (by omega) (by omega) (p3.symm.trans q3)
    subst e
    have e := p5.det q5 (p6.trans q6.symm) p7 q7
    subst e
    exact wRn.det p8 q8
/-- a way in a place; it stays while the place's nodes do -/
theorem pL.wk (hy : nYk y zn sz rk) : ∀ {π : lLc} {k T T1 : Nat} {V : qV} {c l h : List Nat}, pL y sz M k T V c l h → lkN M.x c → qW y T π T1 → prS V π → ∃ n : Nat, ∀ M2 : nM, (∀ a ∈ c, M2.w a = M.w a ∧ M2.x a = M.x a) → agN M M2 l → wRn y zn M2 T (hdN c) π n
  | [], _, _, _, _, c, _, _, _, _, _, _ => ⟨hdN c, fun _ _ _ => rfl⟩
  | _ :: _, 0, _, _, _, _, _, _, q, _, _, _ => q.elim
  | (0, j) :: π, k + 1, T, T1, V, c, l, h, q, hk, hw, hp => by
    rcases q with ⟨q1, cs, ls, hs, e1, e2, e3, q2⟩ | ⟨q1, _⟩
    · have hn : ∀ i : Nat, i < y.2.2.2.1 T 0 → (cs i).length = zn (y.2.2.2.2 T 0 i) := fun i hi => (q2 i hi).len hy
      obtain ⟨n, hq⟩ := (q2 j hw.2.1).wk hy (by rw [e1] at hk; exact hk.seg hw.2.1) hw.2.2 hp
      refine ⟨n, fun M2 a1 a2 => ⟨c, hdN (cs j), hk.cg (fun a w => (a1 a w).2), hdN_0 (by rw [e1]; exact ftN_0 hn (fun i => (hy.1 _).1) hw.2.1), by rw [e1]; exact ftN_hd hn (hy.1 _).1 hw.2.1, hq M2 (fun a w => a1 a (by rw [e1]; exact ftN_mem.mpr ⟨j, hw.2.1, w⟩)) (a2.im (fun a w => by rw [e2]; exact ftN_mem.mpr ⟨j, hw.2.1, w⟩))⟩⟩
    · exact absurd hw.1 q1
  | (1, j) :: π, k + 1, T, T1, V, c, l, h, q, hk, hw, hp => by
    obtain ⟨rfl, h4, hw⟩ := hw
    obtain ⟨⟨z, hz⟩, hp⟩ := hp
    rcases q with ⟨q1, _⟩ | ⟨q1, n, e1, ⟨q2, _⟩ | ⟨q2, ⟨q3, _⟩ | ⟨q3, m, f, C, L, H, a1, a2, a3, a4, a5, a6, a7, a8, a9, a10, a11⟩ | ⟨_, q3, _⟩⟩⟩
    · rw [h4] at q1; cases q1
    · rw [hz] at q2; cases q2
    · rw [h4] at q3; cases q3
    · have hC := a11.len hy
      obtain ⟨n2, hq⟩ := a11.wk hy a8 hw hp
      refine ⟨n2, fun M2 b1 b2 => ?_⟩
      have hn := b1 n (by rw [e1]; exact List.mem_cons_self ..)
      have hm := b2 m (by rw [a9]; exact List.mem_cons_self ..)
      have hc : ∀ a ∈ C, a ∈ l := fun a w => by rw [a9]; exact List.mem_cons_of_mem _ (List.mem_append_left _ w)
      have hl : ∀ a ∈ L, a ∈ l := fun a w => by rw [a9]; exact List.mem_cons_of_mem _ (List.mem_append_right _ w)
      refine ⟨m, hdN C, by rw [e1]; exact hn.1.trans a2, a3, by rw [hm.1]; exact a4, (a8.1 _ (hdN_i (by rw [hC]; exact (hy.1 _).1))).2, hq M2 (fun a w => ⟨(b2 a (hc a w)).1, (b2 a (hc a w)).2.2⟩) (b2.im hl)⟩
    · exact absurd h4 q3
  | (g + 2, j) :: π, k + 1, T, T1, V, c, l, h, q, hk, hw, hp => by
    obtain ⟨h3, hg, hj, hw⟩ := hw
    obtain ⟨⟨t, hz⟩, hp⟩ := hp
    rcases q with ⟨q1, _⟩ | ⟨q1, n, e1, ⟨q2, _⟩ | ⟨q2, ⟨q3, m, g2, cs, ls, hs, a1, a2, a3, a4, a5, a6, a7, a8, a9, a10⟩ | ⟨q3, _⟩ | ⟨q3, _⟩⟩⟩
    · rw [h3] at q1; cases q1
    · rw [hz] at q2; cases q2
    · obtain rfl : g2 = g := by rw [hz] at a1; cases a1; rfl
      have hn : ∀ i : Nat, i < y.2.2.2.1 T g2 → (cs i).length = zn (y.2.2.2.2 T g2 i) := fun i hi => (a10 i hi).len hy
      have h1 := ftN_0 hn (fun i => (hy.1 _).1) hj
      obtain ⟨n2, hq⟩ := (a10 j hj).wk hy (a7.seg hj) hw hp
      refine ⟨n2, fun M2 b1 b2 => ?_⟩
      have hn9 := b1 n (by rw [e1]; exact List.mem_cons_self ..)
      have hm := b2 m (by rw [a8]; exact List.mem_cons_self ..)
      have hc : ∀ a ∈ ftN cs (y.2.2.2.1 T g2), a ∈ l := fun a w => by rw [a8]; exact List.mem_cons_of_mem _ (List.mem_append_left _ w)
      have hl : ∀ a ∈ ftN ls (y.2.2.2.1 T g2), a ∈ l := fun a w => by rw [a8]; exact List.mem_cons_of_mem _ (List.mem_append_right _ w)
      refine ⟨m, hdN (ftN cs (y.2.2.2.1 T g2)), ftN cs (y.2.2.2.1 T g2), hdN (cs j), by rw [e1]; exact hn9.1.trans a3, a4, by rw [hm.1]; exact a5, (a7.1 _ (hdN_i h1)).2, a7.cg (fun a w => (b2 a (hc a w)).2.2), hdN_0 h1, ftN_hd hn (hy.1 _).1 hj, hq M2 (fun a w => ?_) (b2.im (fun a w => hl a (ftN_mem.mpr ⟨j, hj, w⟩)))⟩
      have := b2 a (hc a (ftN_mem.mpr ⟨j, hj, w⟩))
      exact ⟨this.1, this.2.2⟩
    · rw [h3] at q3; cases q3
    · exact absurd h3 q3
theorem prS.mem : ∀ {ρ : lLc} {V : qV}, qM ρ → prS V ρ
  | [], _, _ => trivial
  | (0, j) :: ρ, V, q => prS.mem (ρ := ρ) (qM_cons.mp q).2
  | (1, j) :: ρ, V, q => absurd (qM_cons.mp q).1 (show (1 : Nat) ≠ 0 by decide)
  | (g + 2, j) :: ρ, V, q => absurd (qM_cons.mp q).1 (by show g + 2 ≠ 0; omega)
/-- what lies below something is there -/
theorem prS.pl {T : Nat} (ho : qOk y T V) : ∀ {ρ κ : lLc}, qPl V (κ ++ ρ) → prS (qS V κ) ρ
  | [], _, _ => trivial
  | (0, j) :: ρ, κ, q => by
    have := prS.pl ho (ρ := ρ) (κ := κ ++ [(0, j)]) (by rw [List.append_assoc]; exact q)
    show prS (qS (qS V κ) [(0, j)]) ρ
    rw [show qS (qS V κ) [(0, j)] = qS V (κ ++ [(0, j)]) from funext fun σ => by unfold qS; rw [List.append_assoc]]
    exact this
  | (1, j) :: ρ, κ, q => by
    have := prS.pl ho (ρ := ρ) (κ := κ ++ [(1, j)]) (by rw [List.append_assoc]; exact q)
    obtain ⟨σ, x, hx⟩ := q
    rw [List.append_assoc] at hx
    obtain ⟨z, hz⟩ := ho.2.1 κ (ρ ++ σ) j x hx
    refine ⟨⟨z, by unfold qS; rw [List.append_nil]; exact hz⟩, ?_⟩
    rw [show qS (qS V κ) [(1, j)] = qS V (κ ++ [(1, j)]) from funext fun σ => by unfold qS; rw [List.append_assoc]]
    exact this
  | (g + 2, j) :: ρ, κ, q => by
    have := prS.pl ho (ρ := ρ) (κ := κ ++ [(g + 2, j)]) (by rw [List.append_assoc]; exact q)
    obtain ⟨σ, x, hx⟩ := q
    rw [List.append_assoc] at hx
    obtain ⟨z, hz⟩ := ho.2.2 κ (ρ ++ σ) g j x hx
    refine ⟨⟨z, by unfold qS; rw [List.append_nil]; exact hz⟩, ?_⟩
    rw [show qS (qS V κ) [(g + 2, j)] = qS V (κ ++ [(g + 2, j)]) from funext fun σ => by unfold qS; rw [List.append_assoc]]
    exact this
theorem prS.of {T : Nat} {ρ : lLc} (ho : qOk y T V) (q : qPl V ρ) : prS V ρ := prS.pl ho (κ := []) q
end PS33
