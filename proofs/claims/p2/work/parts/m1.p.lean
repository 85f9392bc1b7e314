theorem inj_sur : ∀ (n : Nat) (f : Nat → Nat), (∀ k : Nat, k < n → f k < n) → (∀ j k : Nat, j < n → k < n → f j = f k → j = k) → ∀ g : Nat, g < n → ∃ k : Nat, k < n ∧ f k = g
  | 0, _, _, _, g, hg => by omega
  | n + 1, f, h1, h2, g, hg => by
    have hc := h1 n (Nat.lt_succ_self _)
    have h3 : ∀ k : Nat, k < n → (if f k = n then f n else f k) < n := fun k hk => by
      have a := h1 k (by omega)
      by_cases e : f k = n
      · rw [if_pos e]
        have : f n ≠ n := fun w => by have := h2 k n (by omega) (by omega) (e.trans w.symm); omega
        omega
      · rw [if_neg e]; omega
    have h4 : ∀ j k : Nat, j < n → k < n → (if f j = n then f n else f j) = (if f k = n then f n else f k) → j = k := fun j k hj hk e => by
      by_cases a : f j = n
      · by_cases b : f k = n
        · exact h2 j k (by omega) (by omega) (a.trans b.symm)
        · rw [if_pos a, if_neg b] at e
          have := h2 n k (by omega) (by omega) e; omega
      · by_cases b : f k = n
        · rw [if_neg a, if_pos b] at e
          have := h2 j n (by omega) (by omega) e; omega
        · rw [if_neg a, if_neg b] at e
          exact h2 j k (by omega) (by omega) e
    by_cases e : g = f n
    · exact ⟨n, Nat.lt_succ_self _, e.symm⟩
    · by_cases e2 : g = n
      · obtain ⟨k, k1, k2⟩ := inj_sur n (fun k => if f k = n then f n else f k) h3 h4 (f n) (by omega)
        by_cases a : f k = n
        · exact ⟨k, by omega, a.trans e2.symm⟩
        · rw [if_neg a] at k2
          have := h2 k n (by omega) (by omega) k2; omega
      · obtain ⟨k, k1, k2⟩ := inj_sur n (fun k => if f k = n then f n else f k) h3 h4 g (by omega)
        by_cases a : f k = n
        · rw [if_pos a] at k2; exact absurd k2.symm e
        · rw [if_neg a] at k2; exact ⟨k, by omega, k2⟩
/-- the arms, the jumps of the first i are set -/
def ArT (R : yR) (S0 S1 : Sg) (E : eV) (L1 : Nat) (js : List Nat) (p m Pe mn i : Nat) (A J : Nat → Nat) (xk : Nat → List tE) (bk : Nat → Nat) : Prop := A 0 = m + 1 ∧ A mn = Pe ∧ ∀ k : Nat, k < mn → A k ≤ J k ∧ A (k + 1) = J k + 1 ∧ tsg R S0 S1 E L1 (A k) (J k) (xk k) (mkV js) (eBx S0 (bk k)) ∧ (k < i → rz R S0 S1 (J k) ((16, 0, none, (none, none), ([], []), [Pe], (0, 0, 0), []) : iR)) ∧ (i ≤ k → AT S1 (J k) (ptRc 16 (nI p)))
section LY41
variable {R : yR} {S0 Sb Sx S S1 S2 S3 : Sg} {P P1 P2 P3 Pe h h0 h1 h2 hc L L1 L2 Le Lb z n z2 n2 : Nat} {Γ Γ0 Γ1 Γ2 Λ : List Nat} {E : eV} {s s1 s2 yD : List tE} {gv : Nat} {js ks us : List Nat} {bw : Nat → Nat} {V : Sg → Option Nat → Option (Sg × Unit)} {A J bk : Nat → Nat} {xk : Nat → List tE} {p m mn i : Nat} {X X2 : Nat → List tE → Prop} {cE cE2 : Prop} {x : pRc}
theorem LX.uF {a : Nat} {c : va_E} (h : LX S S1) (ha : a ∉ ZL S) : LX S (UF S1 a c) := ⟨fun b hb => ⟨(h.1 b hb).1, by rw [show ZF (UF S1 a c) b = ZF S1 b from updE_n (fun e => ha (e ▸ hb))]; exact (h.1 b hb).2⟩, h.2⟩
theorem ArS.t (q : ArS R S0 S1 E L1 js p m Pe mn A J xk bk) : ArT R S0 S1 E L1 js p m Pe mn 0 A J xk bk := ⟨q.1, q.2.1, fun k hk => ⟨(q.2.2 k hk).1, (q.2.2 k hk).2.1, (q.2.2 k hk).2.2.1, fun w => by omega, fun _ => (q.2.2 k hk).2.2.2⟩⟩
theorem ArT.mo (q : ArT R S0 S1 E L1 js p m Pe mn i A J xk bk) {k : Nat} : ∀ {j : Nat}, k ≤ j → j ≤ mn → A k ≤ A j
  | 0, h1, _ => by rw [Nat.le_zero.mp h1]; exact Nat.le_refl _
  | j + 1, h1, h2 => by
    by_cases e : k = j + 1
    · rw [e]; exact Nat.le_refl _
    · have := ArT.mo q (k := k) (j := j) (by omega) (by omega)
      have := q.2.2 j (by omega)
      omega
theorem ArT.jb (q : ArT R S0 S1 E L1 js p m Pe mn i A J xk bk) {k : Nat} (hk : k < mn) : m < J k ∧ J k < Pe := by
  have a1 := q.mo (k := 0) (j := k) (Nat.zero_le _) (by omega)
  have a2 := q.mo (k := k + 1) (j := mn) (by omega) (Nat.le_refl _)
  have a3 := q.2.2 k hk
  have := q.1
  have := q.2.1
  omega
theorem AT.jp {k : Nat} {v : Int32} (a : AT S P x) (hk : k ≠ P) : AT (Ur S 30 (upd (Zr S 30) k v)) P x := ⟨fun r h1 h2 h3 => by
  by_cases e : r = 30
  · subst e; rw [Zr_us, upd_n (fun w => hk w.symm)]; exact a.1 _ h1 h2 h3
  · rw [Zr_un e]; exact a.1 _ h1 h2 h3, a.2⟩
/-- a jump is set -/
theorem ArT.sj (q : ArT R S0 S1 E L1 js p m Pe mn i A J xk bk) (hi : i < mn) (hp : p < R.T) (hPe : Pe < 24000) : ArT R S0 (Ur S1 30 (upd (Zr S1 30) (J i) (nI Pe))) E L1 js p m Pe mn (i + 1) A J xk bk := by
  have hx : LX S1 (Ur S1 30 (upd (Zr S1 30) (J i) (nI Pe))) := (LZ.ur (P := 0) (L := 0) (by decide) (Nat.zero_le _)).1
  refine ⟨q.1, q.2.1, fun k hk => ?_⟩
  obtain ⟨a1, a2, a3, a4, a5⟩ := q.2.2 k hk
  have ai := q.2.2 i hi
  have hne : k ≠ i → J k ≠ J i := fun e => by
    by_cases w : k < i
    · have := q.mo (k := k + 1) (j := i) (by omega) (by omega); omega
    · have := q.mo (k := i + 1) (j := k) (by omega) (by omega); omega
  refine ⟨a1, a2, a3.jp ?_, fun w => ?_, fun w => (a5 (by omega)).jp (fun e => hne (by omega) e.symm)⟩
  · by_cases w : i < k
    · have := q.mo (k := i + 1) (j := k) (by omega) (by omega); omega
    · by_cases e : k = i
      · subst e; omega
      · have := q.mo (k := k + 1) (j := i) (by omega) (by omega); omega
  · by_cases e : k = i
    · subst e
      exact rz_j (K := 16) (sc := [Pe]) (Or.inl ⟨rfl, rfl⟩) (a5 (Nat.le_refl _)) pl0_o hp hPe
    · refine (a4 (by omega)).st hx ⟨fun r h1 h2 => ?_, rfl, fun _ _ _ => rfl⟩ (fun l e => by cases e)
      by_cases e2 : r = 30
      · subst e2; rw [Zr_us, upd_n (hne e)]
      · rw [Zr_un e2]
theorem tsgm.mo {a c bb : Nat} (h : tsgm R S0 S E L a c bb X yD cE) (hX : ∀ e s, X2 e s → X e s) (hc : cE2 → cE) : tsgm R S0 S E L a c bb X2 yD cE2 := by
  obtain ⟨h0, st, W, h1, h2⟩ := h
  refine ⟨h0, st, W, fun e x w => h1 e x (hX e x w), fun k hk hb => ?_⟩
  obtain ⟨i, q1, q2, q3, q4⟩ := h2 k hk hb
  exact ⟨i, q1, q2, fun j hj => ⟨(q3 j hj).1.imp id (fun w => ⟨w.1, fun z => w.2 (hc z)⟩), (q3 j hj).2⟩, q4⟩
/-- the arms beside each other -/
theorem ArT.mm (q : ArT R S0 S1 E L1 js p m Pe mn mn A J xk bk) : ∀ k : Nat, k ≤ mn → tsgm R S0 S1 E L1 (m + 1) (A k) Pe (fun e s => ∃ j : Nat, j < k ∧ e = A j ∧ s = xk j) (mkV js) (∀ j : Nat, j < k → eBx S0 (bk j))
  | 0, _ => by
    rw [q.1]
    exact tsgm.nil.mo (fun e s ⟨j, w, _⟩ => by omega) (fun _ => trivial)
  | k + 1, hk => by
    obtain ⟨a1, a2, a3, a4, a5⟩ := q.2.2 k (by omega)
    rw [a2]
    refine ((ArT.mm q k (by omega)).add a3 (a4 (by omega)) (by rw [wl_mk]; omega) (q.jb (show k < mn by omega)).2 nT_mk).mo (fun e s w => ?_) (fun w => ⟨fun j hj => w j (by omega), w k (by omega)⟩)
    obtain ⟨j, j1, j2, j3⟩ := w
    by_cases e1 : j = k
    · subst e1; exact Or.inr ⟨j2, j3⟩
    · exact Or.inl ⟨j, by omega, j2, j3⟩
/-- the jumps of all arms are set -/
theorem lma308 {a xe ar px e ta : Nat} {mu rf : Int32} {fe ft : Nat → Int32} {Q : Sg → Unit → Prop} (hL : RIn R S0) (hM : MtH R S0 a xe ar px p mn mu rf) (hmn : mn ≤ 12) (hPe : Pe < 24000) (hfe : ∀ k : Nat, k < mn → fe k = nI (J k))
  (kf : ∀ S2 : Sg, FRM R S0 Sb S2 m Pe 0 Γ L Le z n → LX Sx S2 → AT S2 m x → ArT R S0 S2 E Le js p m Pe mn mn A J xk bk → (ta ∈ ZL S2 ∧ ZF S2 ta = .inl (R.K.1 0, mn, .inl ft)) → K0 S2 Pe → Q S2 ()) : ∀ (d i : Nat) (S1 : Sg), mn < i + d → i ≤ mn → FRM R S0 Sb S1 m Pe 0 Γ L Le z n → LX Sx S1 → AT S1 m x → ArT R S0 S1 E Le js p m Pe mn i A J xk bk → (e ∈ ZL S1 ∧ ZF S1 e = .inl (R.K.1 0, mn, .inl fe)) → (ta ∈ ZL S1 ∧ ZF S1 ta = .inl (R.K.1 0, mn, .inl ft)) → K0 S1 Pe → Rt (f_layMatch_308 R.K V d S1 (some a) (some e) (nI i)) Q
  | 0, i, S1, h1, h2, _, _, _, _, _, _, _ => by omega
  | d + 1, i, S1, h1, h2, F, hx, ha, q, he, hta, kk => by
    have hM2 := hM
    obtain ⟨ha9, k1, hpT, _⟩ := hM2
    unfold f_layMatch_308
    refine Rt.bd (F.1.1.vi (by decide) (by decide) (oI_mk (hL a ha9) k1 (v := nI mn) rfl)) (Rt.it (fun w => ?_) (fun w => ?_))
    · have : mn ≤ i := (nI_leI (by omega) (by omega)).mp w
      obtain rfl : i = mn := by omega
      exact Rt.rt (kf S1 F hx ha q hta kk)
    · have hlt : i < mn := by
        by_cases q : i < mn
        · exact q
        · exact absurd (nI_le (a := mn) (b := i) (by omega) (by omega)) w
      have hj := q.jb hlt
      refine Rt.bd (by rw [aI_j he.1 he.2 hlt (by omega), hfe i hlt]) ?_
      rw [F.1.2.1]
      refine Rt.bd (wRI_n (show J i < rlen 30 from by show _ < 24000; omega) (by decide)) ?_
      rw [nI_1]
      refine lma308 hL hM hmn hPe hfe kf d (i + 1) _ (by omega) (by omega) (F.ur (by omega)) (hx.tr (LZ.ur (P := 0) (L := 0) (by decide) (Nat.zero_le _)).1) (ha.jp (by omega)) (q.sj hlt hpT hPe) he hta ?_
      unfold K0; rw [Zr_un (by decide)]; exact kk
end LY41
