section LIE
variable {R : yR} {c nv : Nat} {S : Sg}
/-- x is not item j -/
def nIt (S : Sg) (x j : Nat) : Prop := ∀ (kd : Int32) (o : Option Nat), isTy S x kd (nI j) o → ¬ (kd = 3 ∨ kd = 4)
/-- what lies in item i: types of its fields, of its variants' parts -/
def fdO (R : yR) (S : Sg) (i x : Nat) : Prop := ∃ (fs : List Value) (mn : Nat), ZF S (R.ws i) = .inr (16, fs) ∧ fs[3]? = some (.int (nI mn)) ∧ mn ≤ 12 ∧ ((R.ik i = 10 ∧ ∃ (ta k : Nat) (f : Nat → Option Nat), fs[10]? = some (.ref ta) ∧ ZF S ta = .inl (R.K.1 4, 13, .inr (.inr (.inr (.inr f)))) ∧ k < mn ∧ f k = some x) ∨
  (R.ik i = 11 ∧ ∃ (vr k pa wa ta mk l : Nat) (fv f : Nat → Option Nat), fs[11]? = some (.ref vr) ∧ ZF S vr = .inl (R.K.1 13, 13, .inr (.inr (.inr (.inr fv)))) ∧ k < mn ∧ fv k = some pa ∧ ZF S pa = .inr (17, [.int (nI mk), .ref wa, .ref ta]) ∧ mk ≤ 12 ∧ ZF S ta = .inl (R.K.1 4, 12, .inr (.inr (.inr (.inr f)))) ∧ l < mk ∧ f l = some x))
theorem isi0 {K : Ky} {x j : Nat} {kd ix : Int32} {o : Option Nat} (hx : isTy S x kd ix o) : Rt (f_isItem K S (some x) (nI j)) (fun S2 r => S2 = S ∧ (r = 1 ∨ (r = 0 ∧ nIt S x j))) := (isi_ hx).mo (fun S2 r q => ⟨q.1, q.2.imp (fun z => z.1) (fun z => ⟨z.1, fun kd2 o2 h2 hk => by
  obtain ⟨e1, e2, _⟩ := isTy_fn hx h2
  exact z.2 ⟨by rw [e1]; exact hk, e2⟩⟩)⟩)
/-- lies, in a struct -/
theorem lieS (h : TS R c nv S) {i j mn ta : Nat} {fs : List Value} {f : Nat → Option Nat} (hw : R.ws i ∈ ZL S) (hF : ZF S (R.ws i) = .inr (16, fs)) (h2 : fs[2]? = some (.int 10)) (h3 : fs[3]? = some (.int (nI mn))) (hmn : mn ≤ 12) (h10 : fs[10]? = some (.ref ta)) (hta : rTs R S ta 13 mn f (vTy S)) : ∀ (m k : Nat), mn < k + m → k ≤ mn → (∀ (l x : Nat), l < k → f l = some x → nIt S x j) → Rt (f_lies_10 R.K m S (nI j) (some (R.ws i)) (nI k)) (fun S2 r => S2 = S ∧ (r = 1 ∨ (r = 0 ∧ ∀ (l x : Nat), l < mn → f l = some x → nIt S x j)))
  | 0, k, h1, h2, _ => by omega
  | m + 1, k, hk1, hk2, hd => by
    unfold f_lies_10
    refine Rt.bd (oI_mk hw hF h3) (Rt.it (fun w9 => ?_) (fun w9 => ?_))
    · have := (nI_leI (a := mn) (b := k) (by omega) (by omega)).mp w9
      exact Rt.zr (Or.inl rfl) ⟨rfl, Or.inr ⟨rfl, fun l x hl => hd l x (by omega)⟩⟩
    have hlt : k < mn := by
      rcases Nat.lt_or_ge k mn with z | z
      · exact z
      · exact absurd (nI_le z (by omega)) w9
    obtain ⟨x, x1, x2⟩ := hta.2.2 k hlt
    obtain ⟨kd, ix, o, hx, _⟩ := x2.ty
    refine Rt.bd (oI_mk hw hF h2) (Rt.ip rfl (Rt.bd (oR_mk (v := some ta) hw hF h10) (Rt.bd (aQ_n (h.L hta.1.1) hta.2.1 (show k < 13 by omega) (by decide)) ?_)))
    rw [x1]
    refine Rt.bn (isi0 hx) (fun S2 r q => ?_)
    obtain ⟨e, q⟩ := q
    rw [e]
    rcases q with q | ⟨q, q2⟩
    · exact Rt.iq (by rw [q]; decide) (Rt.zr (Or.inr rfl) ⟨rfl, Or.inl rfl⟩)
    · refine Rt.ip q ?_
      unfold f_lies_44 bigN f_lies_47 f_lies_99
      rw [nI_1]
      refine Rt.bd (oI_mk hw hF h2) (Rt.iq (by decide) (lieS h hw hF h2 h3 hmn h10 hta m (k + 1) (by omega) (by omega) (fun l x9 hl e9 => ?_)))
      by_cases e0 : l = k
      · subst e0; rw [x1] at e9; cases e9; exact q2
      · exact hd l x9 (by omega) e9
/-- lies, in a variant -/
theorem lieV (h : TS R c nv S) {i j mn vr k pa wa ta mk : Nat} {fs : List Value} {fv f : Nat → Option Nat} (hw : R.ws i ∈ ZL S) (hF : ZF S (R.ws i) = .inr (16, fs)) (h2 : fs[2]? = some (.int 11)) (hmn : mn ≤ 12) (h11 : fs[11]? = some (.ref vr)) (hvr : vr ∈ ZL S) (hvF : ZF S vr = .inl (R.K.1 13, 13, .inr (.inr (.inr (.inr fv))))) (hk : k < mn) (hfv : fv k = some pa) (hpa : pa ∈ ZL S) (hpF : ZF S pa = .inr (17, [.int (nI mk), .ref wa, .ref ta])) (hmk : mk ≤ 12) (hta : rTs R S ta 12 mk f (vTy S)) {P : Sg → Int32 → Prop} {k10 : Sg → Int32 → Option Nat → Int32 → Option (Sg × Int32)} (hgo : (∀ (l x : Nat), l < mk → f l = some x → nIt S x j) → Rt (k10 S (nI j) (some (R.ws i)) (nI (k + 1))) P) (h1 : P S 1) : ∀ (m l : Nat), mk < l + m → l ≤ mk → (∀ (l9 x : Nat), l9 < l → f l9 = some x → nIt S x j) → Rt (f_lies_47 R.K k10 m S (nI j) (some (R.ws i)) (nI k) (nI l)) P
  | 0, l, a1, a2, _ => by omega
  | m + 1, l, a1, a2, hd => by
    unfold f_lies_47
    refine Rt.bd (oI_mk hw hF h2) (Rt.ip rfl (Rt.bd (oR_mk (v := some vr) hw hF h11) (Rt.bd (aQ_n hvr hvF (show k < 13 by omega) (by decide)) ?_)))
    rw [hfv]
    refine Rt.bd (oI_mk hpa hpF (v := nI mk) rfl) (Rt.it (fun w9 => ?_) (fun w9 => ?_))
    · have := (nI_leI (a := mk) (b := l) (by omega) (by omega)).mp w9
      unfold f_lies_99
      rw [nI_1]
      exact hgo (fun l9 x hl => hd l9 x (by omega))
    have hlt : l < mk := by
      rcases Nat.lt_or_ge l mk with z | z
      · exact z
      · exact absurd (nI_le z (by omega)) w9
    obtain ⟨x, x1, x2⟩ := hta.2.2 l hlt
    obtain ⟨kd, ix, o, hx, _⟩ := x2.ty
    refine Rt.bd (oR_mk (v := some vr) hw hF h11) (Rt.bd (aQ_n hvr hvF (show k < 13 by omega) (by decide)) ?_)
    rw [hfv]
    refine Rt.bd (oR_mk (v := some ta) hpa hpF rfl) (Rt.bd (aQ_n (h.L hta.1.1) hta.2.1 (show l < 12 by omega) (by decide)) ?_)
    rw [x1]
    refine Rt.bn (isi0 hx) (fun S2 r q => ?_)
    obtain ⟨e, q⟩ := q
    rw [e]
    rcases q with q | ⟨q, q2⟩
    · exact Rt.iq (by rw [q]; decide) (Rt.zr (Or.inr rfl) h1)
    · refine Rt.ip q ?_
      rw [nI_1]
      refine lieV h hw hF h2 hmn h11 hvr hvF hk hfv hpa hpF hmk hta hgo h1 m (l + 1) (by omega) (by omega) (fun l9 x9 hl e9 => ?_)
      by_cases e0 : l9 = l
      · subst e0; rw [x1] at e9; cases e9; exact q2
      · exact hd l9 x9 (by omega) e9
end LIE
