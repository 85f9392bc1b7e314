/-- bytes: each token has one at least, return six -/
def BWt (R : yR) (bw : Nat → Nat) : Prop := ∀ j : Nat, j < R.T → bw j + 1 ≤ bw (j + 1) ∧ (Zr R.S 5 j = 19 → bw j + 6 ≤ bw (j + 1))
theorem BWt.mo {R : yR} {bw : Nat → Nat} (h : BWt R bw) {p : Nat} : ∀ {q : Nat}, p ≤ q → q ≤ R.T → bw p + (q - p) ≤ bw q
  | 0, h1, _ => by have : p = 0 := Nat.le_zero.mp h1; subst this; omega
  | q + 1, h1, h2 => by
    by_cases e : p = q + 1
    · subst e; omega
    · have := BWt.mo h (p := p) (q := q) (by omega) (by omega)
      have := (h q (by omega)).1
      omega
/-- a statement was laid: js the variables alive, bounds by bytes; d points are to spare -/
def LyQ (R : yR) (S0 S : Sg) (E : eV) (P : Nat) (Γ Γ2 : List Nat) (L : Nat) (js Λ : List Nat) (bw : Nat → Nat) (p q b c v w : Nat) (cl : Prop) (d : Nat) (S2 : Sg) : Prop := ∃ (P2 L2 z n : Nat) (js2 : List Nat), GV R S0 S S2 E P P2 0 0 Γ Γ2 L L2 (mkV js) (mkV js2) cl z n ∧ GJ Λ Γ2 js2 ∧ (∀ i ∈ js2, i < w) ∧ (js2 = js ∨ ∃ i : Nat, js2 = i :: js) ∧ P2 + d + js2.length ≤ P + js.length + 8 * (bw q - bw p) ∧ z + 3 * js2.length ≤ 3 * js.length + 20 * (bw q - bw p) ∧ n + 5 * js2.length ≤ 5 * js.length + 60 * (bw q - bw p) ∧ L2 + b + v ≤ L + c + w ∧ K0 S2 P2
section LY28
variable {R : yR} {S0 Sb S S1 S2 : Sg} {P P1 P2 h h0 h1 hc L L2 Lb z n : Nat} {Γ Γ0 Γ1 Γ2 Λ : List Nat} {E : eV} {s s2 e : List tE} {gv : Nat} {js js1 ks : List Nat} {x : pRc} {bw : Nat → Nat} {cl : Prop}
/-- uses: the value on top is used -/
theorem use_ {xt : Nat} (hP : P < 24000) (hY : YK R S0) (p : LPt R S0 Sb S P (h + 1) Γ L Lb x z n) (hh : h ≤ 177) (ht : rTy S0 xt) (h1 : Zz Sb + z + 2 ≤ R.K.2.1) (h2 : Zn Sb + n + 2 ≤ R.K.2.2) : Rt (f_uses R.K S (nI P) (some xt)) (fun S1 _ => ∃ x2 : pRc, LPt R S0 Sb S1 P h Γ L Lb x2 (z + 2) (n + 2) ∧ LX S S1 ∧ x2.1 = x.1 ∧ x2.2.1 = x.2.1 ∧ (∀ r : Nat, r ≠ 36 → r ≠ 37 → x2.2.2 r = x.2.2 r) ∧ (isRf (abT S0 xt) → rAr R S1 (x2.2.2 37) [40 + h] ∧ rAr R S1 (x2.2.2 36) [40 + h]) ∧ (¬ isRf (abT S0 xt) → x2.2.2 37 = x.2.2 37 ∧ x2.2.2 36 = x.2.2 36)) := by
  obtain ⟨kd, ix, o, ty, _⟩ := ht.ty
  have hrf := ht.rf hY ty
  unfold f_uses f_temporary
  have e48 : Zi S 48 - 1 = nI h := by rw [p.1.2.2.1]; exact nI_pred h
  refine p.hh e48 (fun S1 p1 e1 => ?_)
  refine Rt.be (ref_ (p1.1.1.ty ty)) ?_
  by_cases q : kd = 6 ∨ kd = 7
  · rw [if_pos q]
    refine Rt.iq (by decide) (Rt.be rfl ?_)
    have e49 : ∀ {S' : Sg} {P' L' : Nat} {Γ' : List Nat}, LC R S0 S' P' h Γ' L' → 40 + Zi S' 48 = nI (40 + h) := fun c => by rw [c.2.2.1]; exact nI_add 40 h
    rw [e49 p1.1]
    have z1 := p1.2.2.2.1
    have n1 := p1.2.2.2.2.1
    refine Rt.bn (jst_ p1.1 (by omega) (by omega) (by omega)) (fun S2 r t => ?_)
    obtain ⟨a, f1, rfl, t2, t3, t4, t5, t6, t7, t8, t9, t10⟩ := t
    have p2 := p1.kx t2 t3 t10 (z2 := z + 1) (n2 := n + 1) (by omega) (by omega)
    refine p2.wA hP (by decide) (okA_mk t4 t5) ⟨by decide, fun y e hy => by cases e; exact p2.2.2.2.2.2.2.1 a hy (Or.inl ⟨40 + h, by omega, t9⟩)⟩ (fun S3 p3 e3 => Rt.be rfl ?_)
    rw [e49 p3.1]
    have z3 := p3.2.2.2.1
    have n3 := p3.2.2.2.2.1
    refine Rt.bn (jst_ p3.1 (by omega) (by omega) (by omega)) (fun S4 r t => ?_)
    obtain ⟨a', f2, rfl, u2, u3, u4, u5, u6, u7, u8, u9, u10⟩ := t
    have p4 := p3.kx u2 u3 u10 (z2 := z + 2) (n2 := n + 2) (by omega) (by omega)
    refine p4.wA hP (by decide) (okA_mk u4 u5) ⟨by decide, fun y e hy => by cases e; exact p4.2.2.2.2.2.2.1 a' hy (Or.inl ⟨40 + h, by omega, u9⟩)⟩ (fun S5 p5 e5 => Rt.rt ⟨_, p5, (((e1.1.tr t3.lx).tr e3.1).tr u3.lx).tr e5.1, rfl, rfl, fun r h1 h2 => ?_, fun _ => ⟨?_, ?_⟩, fun w => absurd (hrf.mpr q) w⟩)
    · exact (va_up_ne _ _ h1).trans (va_up_ne _ _ h2)
    · obtain ⟨g1, g2⟩ := ((e3.1.tr u3.lx).tr e5.1).ro t4 t5
      exact rAr_1 (by omega) g1 g2 t6
    · obtain ⟨g1, g2⟩ := e5.1.ro u4 u5
      exact rAr_1 (by omega) g1 g2 u6
  · rw [if_neg q]
    exact Rt.ip rfl (Rt.rt ⟨x, ⟨p1.1, p1.2.1, p1.2.2.1, by have := p1.2.2.2.1; omega, by have := p1.2.2.2.2.1; omega, p1.2.2.2.2.2⟩, e1.1, rfl, rfl, fun _ _ _ => rfl, fun w => absurd (hrf.mp w) q, fun _ => ⟨rfl, rfl⟩⟩)
/-- comesAlive -/
theorem cma_ {y : Nat} {g : Sg → Unit → Option (Sg × Unit)} {Q : Sg → Unit → Prop} (gg : GV R S0 S S2 E P P2 h h1 Γ Γ2 L L2 s s2 cl z n) (hy : okO S2 21 (some y) = true) (hl : Γ2.length < 40) (k : ∀ S3 : Sg, GV R S0 S S3 E P P2 h h1 Γ (Γ2 ++ [y]) L L2 s s2 cl z n → Zr S3 = Zr S2 → Rt (g S3 ()) Q) : Rt (bnd (f_comesAlive R.K S2 (some y)) g) Q := by
  obtain ⟨a1, a2, a3, a4, a5, a6, a7, a8⟩ := gg
  unfold f_comesAlive
  refine Rt.bn (Q := fun S3 _ => GV R S0 S S3 E P P2 h h1 Γ (Γ2 ++ [y]) L L2 s s2 cl z n ∧ Zr S3 = Zr S2) ?_ (fun S3 _ w => k S3 w.1 w.2)
  rw [a1.2.2.2.1.1]
  refine Rt.bd (wQ_n (show Γ2.length < rlen 49 from hl) (by decide) hy) ?_
  have e50 : Zi (Uq S2 49 (va_up (Zq S2 49) Γ2.length (some y))) 50 + 1 = nI (Γ2 ++ [y]).length := by
    show Zi S2 50 + 1 = _
    rw [a1.2.2.2.1.1, List.length_append]; exact nI_1 _
  rw [e50]
  refine Rt.bd (v := Ui (Uq S2 49 (va_up (Zq S2 49) Γ2.length (some y))) 50 (nI (Γ2 ++ [y]).length)) rfl (Rt.rt ?_)
  have z1 : ∀ P L : Nat, LZ P L S2 (Ui (Uq S2 49 (va_up (Zq S2 49) Γ2.length (some y))) 50 (nI (Γ2 ++ [y]).length)) := fun P L => (LZ.uo (Or.inl rfl)).tr (LZ.ui (Or.inr (Or.inr (Or.inr rfl)))) (Nat.le_refl _) (Nat.le_refl _)
  have hq : ∀ r : Nat, r ≠ 49 → Zq (Ui (Uq S2 49 (va_up (Zq S2 49) Γ2.length (some y))) 50 (nI (Γ2 ++ [y]).length)) r = Zq S2 r := fun r hr => Zq_un hr
  refine ⟨⟨⟨a1.1.tr (z1 0 0).1, (Zi_n (by decide)).trans a1.2.1, (Zi_n (by decide)).trans a1.2.2.1, ⟨Zi_s, fun k v hk => ?_⟩, (Zi_n (by decide)).trans a1.2.2.2.2.1, a1.2.2.2.2.2.1.st (z1 0 0).1 (hq 51 (by decide)) (a1.2.2.2.2.2.1.2.st (z1 0 0).1 (fun l _ _ => congrFun (hq 43 (by decide)) l) (fun l _ _ => Or.inl rfl) (Zi_n (by decide))), a1.2.2.2.2.2.2.1, a1.2.2.2.2.2.2.2⟩, a2.tr (z1 _ _) (Nat.le_refl _) (Nat.le_refl _), a3.st (z1 _ _), a4, a5, a6, a7, ⟨fun a ha w => a8.1 a ha ?_, fun k h1 h2 => ⟨fun a ha w => (a8.2 k h1 h2).1 a ha ?_, fun w hw => (a8.2 k h1 h2).2 w (by rw [hq 38 (by decide)] at hw; exact hw)⟩⟩⟩, rfl⟩
  · show Zq (Uq S2 49 (va_up (Zq S2 49) Γ2.length (some y))) 49 k = some v
    rw [Zq_us]
    by_cases e : k < Γ2.length
    · rw [va_up_ne _ _ (by omega)]
      rw [List.getElem?_append_left e] at hk
      exact a1.2.2.2.1.2 k v hk
    · rw [List.getElem?_append_right (by omega)] at hk
      by_cases e2 : k = Γ2.length
      · subst e2
        rw [Nat.sub_self] at hk; cases hk
        exact va_up_self _ _ _
      · obtain ⟨d, hd⟩ : ∃ d : Nat, k - Γ2.length = d + 1 := ⟨k - Γ2.length - 1, by omega⟩
        rw [hd] at hk; cases hk
  · unfold Us at w ⊢; rw [hq 51 (by decide)] at w; exact w
  · unfold Up at w ⊢; rw [hq 36 (by decide), hq 37 (by decide), hq 42 (by decide), hq 38 (by decide)] at w; exact w
theorem GJ.add {i y : Nat} (h : GJ Λ Γ js) (hi : Λ[i]? = some y) (hj : ∀ j ∈ js, j < i) : GJ Λ (Γ ++ [y]) (i :: js) := ⟨Γ, y, rfl, hi, hj, h⟩
theorem GJ.l40 {v : Nat} : ∀ {js Γ : List Nat} {v : Nat}, GJ Λ Γ js → (∀ i ∈ js, i < v) → js.length ≤ v
  | [], _, _, _, _ => Nat.zero_le _
  | i :: js, Γ, v, h, hv => by
    obtain ⟨Γ0, y, _, _, h3, h4⟩ := h
    have := GJ.l40 (v := v) h4 h3
    have := hv i List.mem_cons_self
    show js.length + 1 ≤ v
    omega
end LY28
