/-- only the rows of longs in P are written, and partMany -/
def OXm (P : Nat → Prop) (S S2 : Sg) : Prop := PSx S S2 ∧ (∀ r : Nat, ¬ P r → Zl S2 r = Zl S r) ∧ Zr S2 = Zr S
/-- leaf c is among those of a place -/
def inR (R : yR) (S0 : Sg) (T0 v : Nat) (ρ : lLc) (c : Nat) : Prop := 16 * v + (pfO R S0 T0 ρ).1 ≤ c ∧ c < 16 * v + (pfO R S0 T0 ρ).1 + zN R S0 (pfO R S0 T0 ρ).2
/-- what an instruction fills -/
def MvK (R : yR) (S0 : Sg) (T0 : Nat) (i : iR) (c : Nat) : Prop := ((i.kd = 12 ∨ i.kd = 22 ∨ i.kd = 23 ∨ i.kd = 24) ∧ c / 16 ∈ i.vs) ∨ (i.kd = 14 ∧ ∃ (v : Nat) (ρ : lLc) (T : Nat), i.pa = some (v, ρ, T) ∧ (∀ s ∈ ρ, s.1 ≠ 1) ∧ inR R S0 T0 v ρ c)
/-- what lacks a value behind an instruction -/
def MvO (R : yR) (S0 : Sg) (T0 : Nat) (i : iR) (f : Nat → Int64) (k c : Nat) : Prop := (i.kd = 2 ∧ (i.ac = 4 ∨ i.ac = 5) ∧ ∃ (v : Nat) (ρ : lLc) (T : Nat), i.pa = some (v, ρ, T) ∧ inR R S0 T0 v ρ c) ∨ (i.kd = 13 ∧ c / 16 ∈ i.vs) ∨ (rb f (10 * k) c = true ∧ ¬ MvK R S0 T0 i c)
/-- variables are few -/
def mBd (i : iR) : Prop := (∀ (v : Nat) (ρ : lLc) (T : Nat), i.pa = some (v, ρ, T) → v < 40) ∧ ((i.kd = 12 ∨ i.kd = 13 ∨ i.kd = 22 ∨ i.kd = 23 ∨ i.kd = 24) → ∀ v ∈ i.vs, v < 40) ∧ (i.kd = 14 → i.pa ≠ none) ∧ (i.ac ≠ 0 → i.pa ≠ none)
section PS11
variable {R : yR} {S0 S S1 S2 Sr : Sg} {ws Ps Pe k n : Nat} {I : Nat → iR} {g : Nat → Int32} {P : Nat → Prop}
theorem OXm.rf : OXm P S S := ⟨PSx.rf, fun _ _ => rfl, rfl⟩
theorem OXm.tr (a : OXm P S S1) (b : OXm P S1 S2) : OXm P S S2 := ⟨a.1.tr b.1, fun r h => (b.2.1 r h).trans (a.2.1 r h), b.2.2.trans a.2.2⟩
theorem OXm.mo {P2 : Nat → Prop} (a : OXm P S S2) (h : ∀ r : Nat, P r → P2 r) : OXm P2 S S2 := ⟨a.1, fun r q => a.2.1 r (fun w => q (h r w)), a.2.2⟩
theorem OXs.m (a : OXs P S S2) : OXm P S S2 := ⟨a.1, a.2.1, a.2.2.1⟩
theorem OXm.ui {v : Int32} : OXm P S (Ui S 57 v) := ⟨PSx.ui, fun _ _ => rfl, rfl⟩
theorem vTp.ps (e : PSx S S2) {a : Nat} : vTp S0 S2 a = vTp S0 S a := by
  unfold vTp obF; rw [e.2.1]
theorem mk3 {B m : Nat} {h l : Bool} (hB : B + m ≤ 640) : ∀ (d k : Nat) (S1 : Sg), B + m < k + d → B ≤ k → k ≤ B + m → OXs (fun r => r = 55 ∨ r = 56) S S1 → (∀ c : Nat, c < 640 → rb (Zl S1 55) 0 c = if B ≤ c ∧ c < k then l else rb (Zl S 55) 0 c) → Rt (f_mark_3 R.K d S1 (nI B) (nI m) (if h = true then 1 else 0) (if l = true then 1 else 0) (nI k)) (fun S2 _ => OXs (fun r => r = 55 ∨ r = 56) S S2 ∧ ∀ c : Nat, c < 640 → rb (Zl S2 55) 0 c = if B ≤ c ∧ c < B + m then l else rb (Zl S 55) 0 c)
  | 0, k, S1, hd, _, _, _, _ => by omega
  | d + 1, k, S1, hd, h1, h2, e, hr => by
    unfold f_mark_3
    rw [nI_add]
    refine Rt.it (fun w => ?_) (fun w => ?_)
    · have : B + m ≤ k := (nI_leI (by omega) (by omega)).mp w
      obtain rfl : k = B + m := by omega
      exact Rt.rt ⟨e, hr⟩
    · have hlt : k < B + m := by
        by_cases q : k < B + m
        · exact q
        · exact absurd (nI_le (a := B + m) (b := k) (by omega) (by omega)) w
      refine Rt.be (put_ (base := 0) (on := h) (b := k) (by omega) (show 0 + k / 64 < rlen 56 from by show _ < 10; omega) (by decide)) ?_
      have e2 : OXs (fun r => r = 55 ∨ r = 56) S1 (Ul S1 56 (pB (Zl S1 56) 0 k h)) := OXs.ul (by decide) (Or.inr rfl)
      have e55 : Zl (Ul S1 56 (pB (Zl S1 56) 0 k h)) 55 = Zl S1 55 := Zl_un (by decide)
      generalize Ul S1 56 (pB (Zl S1 56) 0 k h) = S2 at e2 e55
      refine Rt.be (put_ (base := 0) (on := l) (b := k) (by omega) (show 0 + k / 64 < rlen 55 from by show _ < 10; omega) (by decide)) ?_
      have e3 : OXs (fun r => r = 55 ∨ r = 56) S2 (Ul S2 55 (pB (Zl S2 55) 0 k l)) := OXs.ul (by decide) (Or.inl rfl)
      rw [nI_1]
      refine mk3 hB d (k + 1) _ (by omega) (by omega) (by omega) ((e.tr e2).tr e3) (fun c hc => ?_)
      rw [Zl_us, rb_pB, e55, hr c hc]
      by_cases q : 0 + c / 64 = 0 + k / 64 ∧ c % 64 = k % 64
      · have : c = k := by omega
        rw [if_pos q, if_pos ⟨by omega, by omega⟩]
      · have : c ≠ k := fun e9 => q (by subst e9; exact ⟨rfl, rfl⟩)
        rw [if_neg q]
        by_cases q2 : B ≤ c ∧ c < k
        · rw [if_pos q2, if_pos ⟨q2.1, by omega⟩]
        · rw [if_neg q2, if_neg (fun w9 => q2 ⟨w9.1, by omega⟩)]
/-- mark -/
theorem mrk_ {B m : Nat} {h l : Bool} (hB : B + m ≤ 640) : Rt (f_mark R.K S (nI B) (nI m) (if h = true then 1 else 0) (if l = true then 1 else 0)) (fun S2 _ => OXs (fun r => r = 55 ∨ r = 56) S S2 ∧ ∀ c : Nat, c < 640 → rb (Zl S2 55) 0 c = if B ≤ c ∧ c < B + m then l else rb (Zl S 55) 0 c) := by
  unfold f_mark
  exact mk3 hB bigN B S (by unfold bigN; omega) (Nat.le_refl _) (by omega) OXs.rf (fun c hc => (if_neg (by omega)).symm)
/-- hasStar, of a path -/
theorem hst_ {w v T : Nat} {ρ : lLc} (q : isPt R S0 S w v ρ T) : Rt (f_hasStar R.K S (some w)) (fun Sx r => Sx = S ∧ (r = 0 ∨ r = 1) ∧ (r = 0 → ∀ s ∈ ρ, s.1 ≠ 1)) := by
  obtain ⟨va, sa, ta, f, G, mu, q1, q2, q3, q4, q5, q6, q7, q8, q9⟩ := q
  unfold f_hasStar
  refine (hs2 q1 q2 q4.1 q4.2 q9 bigN 0 (by unfold bigN; omega) (Nat.zero_le _) (fun m h => by omega)).mo (fun Sx r ⟨a, b⟩ => ⟨a, b.elim (fun q => Or.inr q.1) (fun q => Or.inl q.1), fun r0 s hs e => ?_⟩)
  rcases b with ⟨b1, _⟩ | ⟨_, b2⟩
  · rw [b1] at r0; exact absurd r0 (by decide)
  · obtain ⟨m, hm⟩ := List.mem_iff_getElem?.mp hs
    refine b2 m (List.getElem?_eq_some_iff.mp hm).1 ?_
    rw [(q6 m s hm).1]
    unfold sCo
    rw [if_neg (by omega), if_pos e]
theorem mv276 {Sx : Sg} (hC : PCx R S0 S ws Ps Pe I) (h1 : Ps ≤ k) (h2 : k < Pe) (hk : (I k).kd = 22) (hv : ∀ v ∈ (I k).vs, v < 40) : ∀ (d n : Nat) (S1 : Sg), 12 < n + d → n ≤ (I k).vs.length → OXm (fun r => r = 55 ∨ r = 56) S S1 → (∀ c : Nat, c < 640 → rb (Zl Sx 55) 0 c = true → (∀ m : Nat, m < n → (I k).vs[m]? ≠ some (c / 16)) → rb (Zl S1 55) 0 c = true) → Rt (f_moveBehind_276 R.K d S1 (nI k) (nI n)) (fun S2 _ => OXm (fun r => r = 55 ∨ r = 56) S S2 ∧ ∀ c : Nat, c < 640 → rb (Zl Sx 55) 0 c = true → c / 16 ∉ (I k).vs → rb (Zl S2 55) 0 c = true)
  | 0, n, S1, hd, hn, _, _ => by
    obtain ⟨hz, _⟩ := hC.2.2.2 k h1 h2
    obtain ⟨_, _, _, _, _, _, _, _, _, _, _, _, _, _, _, _, q17, _⟩ := hz
    obtain ⟨_, _, _, _, _, _, _, _, _, _, _, _, a5, _⟩ := q17 hk
    omega
  | d + 1, n, S1, hd, hn, e, hr => by
    have hC1 := hC.ps e.1
    obtain ⟨hz, _⟩ := hC1.2.2.2 k h1 h2
    have h24 := hC.2.1
    obtain ⟨_, _, _, _, _, _, _, _, _, _, _, _, _, _, _, _, q17, _⟩ := hz
    obtain ⟨a, na, aw, bk, tk, vn, fv, a1, a2, a3, a4, a4b, a5, a6⟩ := q17 hk
    have r41 : rQ S1 41 (nI k) = some (some a) := by rw [rQ_n (show k < rlen 41 from by show k < 24000; omega) (by decide), a1]
    unfold f_moveBehind_276
    refine Rt.bd r41 (Rt.bd (oI_mk a2 a3 (v := nI (I k).vs.length) rfl) (Rt.it (fun w => ?_) (fun w => ?_)))
    · have : (I k).vs.length ≤ n := (nI_leI (by omega) (by omega)).mp w
      unfold f_moveBehind_360
      refine Rt.rt ⟨e, fun c hc hb hm => hr c hc hb (fun m hm2 e9 => hm (List.mem_of_getElem? e9))⟩
    · have hlt : n < (I k).vs.length := by
        by_cases q : n < (I k).vs.length
        · exact q
        · exact absurd (nI_le (a := (I k).vs.length) (b := n) (by omega) (by omega)) w
      have hg := List.getElem?_eq_getElem hlt
      obtain ⟨va, x, mu, b1, ⟨b2, nm, wh, b3⟩, _⟩ := a6 n _ hg
      have hv2 := hv _ (List.getElem_mem hlt)
      refine Rt.bd r41 (Rt.bd (oR_mk a2 a3 (v := some aw) rfl) (Rt.bd (aQ_n a4 a4b (show n < 12 by omega) (by decide)) ?_))
      rw [b1]
      refine Rt.bd (oI_mk b2 b3 rfl) ?_
      rw [nI_16]
      refine Rt.bn (mrk_ (R := R) (S := S1) (B := 16 * (I k).vs[n]) (m := 16) (h := true) (l := false) (by omega)) (fun S2 _ t2 => ?_)
      obtain ⟨e2, t3⟩ := t2
      rw [nI_1]
      refine mv276 hC h1 h2 hk hv d (n + 1) S2 (by omega) (by omega) (e.tr e2.m) (fun c hc hb hm => ?_)
      rw [t3 c hc, if_neg (fun w9 => hm n (Nat.lt_succ_self _) (by rw [hg]; congr 1; omega))]
      exact hr c hc hb (fun m hm2 => hm m (by omega))
end PS11
