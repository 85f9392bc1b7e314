/-- pieces beside each other, entered at X; all leave to bb, cE: none does -/
def tsgm (R : yR) (S0 S : Sg) (E : eV) (L a c bb : Nat) (X : Nat → List tE → Prop) (yD : List tE) (cE : Prop) : Prop := a ≤ c ∧ ∃ (st : Nat → List tE) (W : Nat → Prop), (∀ (e : Nat) (x : List tE), X e x → a ≤ e ∧ e < c ∧ wkS x (st e) ∧ W e) ∧ ∀ k : Nat, a ≤ k → k < c → ∃ i : iR, rz R S0 S k i ∧ (∀ l : Nat, i.ln = some l → l < L) ∧ (∀ j ∈ i.sc, ((a ≤ j ∧ j < c ∧ (W k → W j)) ∨ (j = bb ∧ (cE → ¬ W k))) ∧ bkO S k j) ∧ wl (st k) ≤ 177 ∧ tPt E k (W k) i (st k) (fun j s => (a ≤ j ∧ j < c ∧ wkS s (st j)) ∨ (j = bb ∧ wkS s yD))
/-- numbers of an arm's variables, the last one first -/
def ksV (v : Nat) : Nat → List Nat
  | 0 => []
  | n + 1 => (v + n) :: ksV v n
/-- i arms are laid: where their code begins, where their jumps stand -/
def ArS (R : yR) (S0 S1 : Sg) (E : eV) (L1 : Nat) (js : List Nat) (p m Pc i : Nat) (A J : Nat → Nat) (xk : Nat → List tE) (bk : Nat → Nat) : Prop := A 0 = m + 1 ∧ A i = Pc ∧ ∀ k : Nat, k < i → A k ≤ J k ∧ A (k + 1) = J k + 1 ∧ tsg R S0 S1 E L1 (A k) (J k) (xk k) (mkV js) (eBx S0 (bk k)) ∧ AT S1 (J k) (ptRc 16 (nI p))
section LY36
variable {R : yR} {S0 Sb S S1 S2 S3 : Sg} {P P1 P2 P3 h h0 h1 h2 hc L L1 L2 Lb z n z2 n2 : Nat} {Γ Γ0 Γ1 Γ2 Λ : List Nat} {E : eV} {s s1 s2 yD : List tE} {cl cl2 cE : Prop} {a c m bb i p : Nat} {f f2 : Nat → Int32} {X : Nat → List tE → Prop} {js : List Nat} {A J bk : Nat → Nat} {xk : Nat → List tE}
theorem ksV_len {v : Nat} : ∀ {n : Nat}, (ksV v n).length = n
  | 0 => rfl
  | n + 1 => by show (ksV v n).length + 1 = _; rw [ksV_len]
theorem ksV_lt {v : Nat} : ∀ {n j : Nat}, j ∈ ksV v n → v ≤ j ∧ j < v + n
  | 0, _, h => by cases h
  | n + 1, j, h => by
    rcases List.mem_cons.mp h with e | e
    · omega
    · have := ksV_lt e; omega
theorem ksV_rev {v : Nat} : ∀ {n : Nat}, ((List.range n).map (fun j => v + j)).reverse = ksV v n
  | 0 => rfl
  | n + 1 => by
    rw [List.range_succ, List.map_append, List.reverse_append]
    show (v + n) :: ((List.range n).map (fun j => v + j)).reverse = _
    rw [ksV_rev]; rfl
theorem tsgm.nil : tsgm R S0 S E L a a bb (fun _ _ => False) yD cE := ⟨Nat.le_refl _, fun _ => [], fun _ => True, fun _ _ w => w.elim, fun k h1 h2 => by omega⟩
theorem tsgm.add {j : Nat} {xs : List tE} (h : tsgm R S0 S E L a c bb X yD cE) (g : tsg R S0 S E L c j xs yD cl) (hz : rz R S0 S j ((16, 0, none, (none, none), ([], []), [bb], (0, 0, 0), []) : iR)) (hw : wl yD ≤ 177) (hbb : j < bb) (hT : nT yD) : tsgm R S0 S E L a (j + 1) bb (fun e s => X e s ∨ (e = c ∧ s = xs)) yD (cE ∧ cl) := by
  obtain ⟨h0, st, W, h1, h2⟩ := h
  obtain ⟨st2, W2, g1, g2, g3, g4, g5, g6⟩ := g
  refine ⟨by omega, pwL c st st2, pwL c W W2, fun e x hx => ?_, fun k hk hb => ?_⟩
  · rcases hx with hx | ⟨rfl, rfl⟩
    · obtain ⟨a1, a2, a3, a4⟩ := h1 e x hx
      rw [pwL_l a2, pwL_l a2]; exact ⟨a1, by omega, a3, a4⟩
    · rw [pwL_r (Nat.lt_irrefl _), pwL_r (Nat.lt_irrefl _)]; exact ⟨h0, by omega, g1, g3⟩
  · by_cases e : k < c
    · obtain ⟨i, q1, q2, q3, q4, q5⟩ := h2 k hk e
      rw [pwL_l e, pwL_l e]
      refine ⟨i, q1, q2, fun j9 hj => ?_, q4, q5.im (fun w => w) (fun j9 s w => ?_)⟩
      · refine ⟨?_, (q3 j9 hj).2⟩
        rcases (q3 j9 hj).1 with ⟨j1, j2, j3⟩ | ⟨j1, j2⟩
        · exact Or.inl ⟨j1, by omega, by rw [pwL_l j2]; exact j3⟩
        · exact Or.inr ⟨j1, fun w => j2 w.1⟩
      · rcases w with ⟨j1, j2, j3⟩ | w
        · exact Or.inl ⟨j1, by omega, by rw [pwL_l j2]; exact j3⟩
        · exact Or.inr w
    · rw [pwL_r e, pwL_r e]
      by_cases e2 : k < j
      · obtain ⟨i, q1, q2, q3, q4, q5⟩ := g6 k (by omega) e2
        refine ⟨i, q1, q2, fun j9 hj => ?_, q4, q5.im (fun w => w) (fun j9 s ⟨j1, j2, j3⟩ => Or.inl ⟨by omega, by omega, by rw [pwL_r (by omega)]; exact j3⟩)⟩
        obtain ⟨j1, j2, j3, j4⟩ := q3 j9 hj
        exact ⟨Or.inl ⟨by omega, by omega, by rw [pwL_r (by omega)]; exact j3⟩, j4⟩
      · obtain rfl : k = j := by omega
        refine ⟨_, hz, (fun l e => by cases e), fun j9 hj => ?_, by rw [g2]; exact hw, tP_16 rfl ⟨⟨iD0_0, by rw [g2]; exact hT⟩, bb, rfl, Or.inr ⟨rfl, by rw [g2]; exact wkS.rf⟩⟩⟩
        rw [List.mem_singleton.mp hj]
        exact ⟨Or.inr ⟨rfl, fun w => g4 w.2⟩, Or.inl hbb⟩
/-- the point of a match ahead of its arms -/
theorem tsgm.fin {i : iR} {x0 : List tE} (h : tsgm R S0 S E L (m + 1) c c X yD cE) (hz : rz R S0 S m i) (hln : i.ln = none) (hsc : ∀ j ∈ i.sc, ∃ t : List tE, X j t) (hw : wl x0 ≤ 177) (ht : tPt E m True i x0 X) : tsg R S0 S E L m c x0 yD cE := by
  obtain ⟨h0, st, W, h1, h2⟩ := h
  have hst : ∀ k : Nat, m < k → k < c → (if k = m then x0 else if k = c then yD else st k) = st k := fun k a b => by rw [if_neg (by omega), if_neg (by omega)]
  refine ⟨fun k => if k = m then x0 else if k = c then yD else st k, fun k => k = m ∨ (k = c ∧ ¬ cE) ∨ (m < k ∧ k < c ∧ W k), ?_, ?_, Or.inl rfl, fun w q => ?_, by omega, fun k hk hb => ?_⟩
  · dsimp only; rw [if_pos rfl]; exact wkS.rf
  · dsimp only; rw [if_neg (by omega), if_pos rfl]
  · rcases q with q | q | q
    · omega
    · exact q.2 w
    · omega
  · by_cases e : k = m
    · subst e
      refine ⟨i, hz, (fun l e => by rw [hln] at e; cases e), fun j hj => ?_, by dsimp only; rw [if_pos rfl]; exact hw, ?_⟩
      · obtain ⟨t, ht⟩ := hsc j hj
        obtain ⟨a1, a2, a3, a4⟩ := h1 j t ht
        exact ⟨by omega, by omega, fun _ => Or.inr (Or.inr ⟨by omega, a2, a4⟩), Or.inl (by omega)⟩
      · dsimp only
        rw [if_pos rfl]
        refine ht.im (fun _ => trivial) (fun j t hx => ?_)
        obtain ⟨a1, a2, a3, a4⟩ := h1 j t hx
        exact ⟨by omega, by omega, by rw [hst j (by omega) a2]; exact a3⟩
    · obtain ⟨i, q1, q2, q3, q4, q5⟩ := h2 k (by omega) hb
      have eW : (k = m ∨ (k = c ∧ ¬ cE) ∨ (m < k ∧ k < c ∧ W k)) → W k := fun w => by
        rcases w with w | w | w
        · omega
        · omega
        · exact w.2.2
      dsimp only
      rw [hst k (by omega) hb]
      refine ⟨i, q1, q2, fun j hj => ?_, q4, q5.im eW (fun j t w => ?_)⟩
      · have j4 := (q3 j hj).2
        rcases (q3 j hj).1 with ⟨j1, j2, j3⟩ | ⟨j1, j2⟩
        · exact ⟨by omega, by omega, fun w => Or.inr (Or.inr ⟨by omega, j2, j3 (eW w)⟩), j4⟩
        · exact ⟨by omega, by omega, fun w => Or.inr (Or.inl ⟨j1, fun z => j2 z (eW w)⟩), j4⟩
      · rcases w with ⟨j1, j2, j3⟩ | ⟨j1, j2⟩
        · exact ⟨by omega, by omega, by rw [hst j (by omega) j2]; exact j3⟩
        · exact ⟨by omega, by omega, by rw [if_neg (by omega), if_pos j1]; exact j2⟩
theorem tsg.uF {cc : va_E} {x y : List tE} (q : tsg R S0 S E L P P2 x y cl) (hF : ZF S a = .inl (R.K.1 0, m, .inl f)) (hu : ∀ k : Nat, P ≤ k → k < P2 → ¬ Up S k a) : tsg R S0 (UF S a cc) E L P P2 x y cl := ((tsgo.of (yD := []) (cD := True) q).uF hF hu).cls (fun _ w => w)
theorem ArS.mo (q : ArS R S0 S1 E L1 js p m P i A J xk bk) {k : Nat} : ∀ {j : Nat}, k ≤ j → j ≤ i → A k ≤ A j
  | 0, h1, _ => by rw [Nat.le_zero.mp h1]; exact Nat.le_refl _
  | j + 1, h1, h2 => by
    by_cases e : k = j + 1
    · rw [e]; exact Nat.le_refl _
    · have := ArS.mo q (k := k) (j := j) (by omega) (by omega)
      have := q.2.2 j (by omega)
      omega
theorem ArS.st {L2 : Nat} (q : ArS R S0 S1 E L1 js p m P i A J xk bk) (hz : LZ P L1 S1 S2) (hl : L1 ≤ L2) : ArS R S0 S2 E L2 js p m P i A J xk bk := by
  refine ⟨q.1, q.2.1, fun k hk => ?_⟩
  obtain ⟨a1, a2, a3, a4⟩ := q.2.2 k hk
  have hm := q.mo (k := k + 1) (j := i) (by omega) (Nat.le_refl _)
  have hJ : J k < P := by have := q.2.1; omega
  have hk2 := hz.2.1 (J k) hJ
  exact ⟨a1, a2, (a3.st (hz.le (by omega) (Nat.le_refl _))).up hl, fun r h1 h2 h3 => (hk2.1 r h1 h2).trans (a4.1 r h1 h2 h3), hk2.2.1.trans a4.2.1, fun r h1 h2 => (hk2.2.2 r h1 h2).trans (a4.2.2 r h1 h2)⟩
theorem ArS.uF {e n9 : Nat} {cc : va_E} (q : ArS R S0 S1 E L1 js p m P i A J xk bk) (v : PVc R S0 S1 (m + 1) P e n9 f) : ArS R S0 (UF S1 e cc) E L1 js p m P i A J xk bk := by
  refine ⟨q.1, q.2.1, fun k hk => ?_⟩
  obtain ⟨a1, a2, a3, a4⟩ := q.2.2 k hk
  have hm := q.mo (k := k + 1) (j := i) (by omega) (Nat.le_refl _)
  have hm0 := q.mo (k := 0) (j := k) (Nat.zero_le _) (by omega)
  exact ⟨a1, a2, a3.uF v.2.1 (fun k2 h1 h2 => (v.2.2.2.2 k2 (by have := q.1; omega) (by have := q.2.1; omega)).1), a4⟩
theorem ArS.add {Jn : Nat} {xn : List tE} {bn : Nat} (q : ArS R S0 S1 E L1 js p m P i A J xk bk) (g : tsg R S0 S1 E L1 P Jn xn (mkV js) (eBx S0 bn)) (hP : P ≤ Jn) (ha : AT S1 Jn (ptRc 16 (nI p))) : ArS R S0 S1 E L1 js p m (Jn + 1) (i + 1) (fun k => if k = i + 1 then Jn + 1 else A k) (fun k => if k = i then Jn else J k) (fun k => if k = i then xn else xk k) (fun k => if k = i then bn else bk k) := by
  refine ⟨by dsimp only; rw [if_neg (by omega)]; exact q.1, by dsimp only; rw [if_pos rfl], fun k hk => ?_⟩
  by_cases e : k = i
  · subst e
    dsimp only
    rw [if_neg (by omega), if_pos rfl, if_pos rfl, if_pos rfl, if_pos rfl]
    rw [q.2.1]
    exact ⟨hP, rfl, g, ha⟩
  · obtain ⟨a1, a2, a3, a4⟩ := q.2.2 k (by omega)
    dsimp only
    simp only [if_neg e, if_neg (show ¬ k = i + 1 by omega), if_neg (show ¬ k + 1 = i + 1 by omega)]
    exact ⟨a1, a2, a3, a4⟩
theorem FRM.uF2 {e n9 Pa Pb : Nat} {P2 h2 : Nat} (F : FRM R S0 S S2 P P2 h2 Γ2 L L2 z n) (v : PVc R S0 S2 Pa Pb e n9 f) (hn : e ∉ ZL S) : FRM R S0 S (UF S2 e (.inl (R.K.1 0, n9, .inl f2))) P P2 h2 Γ2 L L2 z n := ⟨F.1.uF v.2.1 v.2.2.1 v.2.2.2.1, LZ.uF F.2.1 hn, F.2.2.1, F.2.2.2.1, F.2.2.2.2.1, F.2.2.2.2.2.1, F.2.2.2.2.2.2.uF⟩
/-- another row is written -/
theorem PVc.uO {e e2 n9 n8 Pa Pb : Nat} {f3 : Nat → Int32} (v : PVc R S0 S Pa Pb e n9 f) (hne : e2 ≠ e) : PVc R S0 (UF S e2 (.inl (R.K.1 0, n8, .inl f3))) Pa Pb e n9 f := ⟨v.1, (ZF_n (fun w => hne w.symm)).trans v.2.1, v.2.2.1, fun w => v.2.2.2.1 w.uF, fun k h1 h2 => ⟨fun w => (v.2.2.2.2 k h1 h2).1 w.uF, (v.2.2.2.2 k h1 h2).2⟩⟩
end LY36
