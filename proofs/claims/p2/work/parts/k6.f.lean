theorem UF_UF {S : Sg} {a : Nat} {c1 c2 : va_E} : UF (UF S a c1) a c2 = UF S a c2 := by
  unfold UF
  have : updE (updE (ZF S) a c1) a c2 = updE (ZF S) a c2 := by
    funext b
    by_cases e : b = a
    · subst e; rw [updE_s, updE_s]
    · rw [updE_n e, updE_n e, updE_n e]
  show (_, _, _, _, _, _, updE (updE (ZF S) a c1) a c2, _, _) = _
  rw [this]
  rfl
theorem UF_id {S : Sg} {a : Nat} {c1 : va_E} (h : ZF S a = c1) : UF S a c1 = S := by
  have : updE (ZF S) a c1 = ZF S := by
    funext b
    by_cases e : b = a
    · subst e; rw [updE_s, h]
    · rw [updE_n e]
  show (Zi S, Zr S, Zl S, Zq S, Zf S, ZL S, updE (ZF S) a c1, Zz S, Zn S) = S
  rw [this]
  rfl
/-- the exp's cells are as they were read -/
def Unt (R : yR) (S : Sg) (p q : Nat) : Prop := ∀ a ∈ ZL R.S, Xo R p q a → ZF S a = ZF R.S a
theorem Unt.su {R : yR} {S : Sg} {p q p2 q2 : Nat} (h : Unt R S p q) (hp : p ≤ p2) (hq : q2 ≤ q) : Unt R S p2 q2 := fun a ha w => h a ha (Xo_mo w hp hq)
section PLC
variable {R : yR} {Γ : List Nat} {c nv : Nat}
/-- what place gives -/
def PlP (R : yR) (Γ : List Nat) (c nv : Nat) (S : Sg) (n e p q : Nat) (S2 : Sg) (r : Option Nat) : Prop := ∃ x : Nat, r = some x ∧ yXP R c nv S p q S2 x ∧ (Zi S2 3 = 0 → ∃ (v : Nat) (π : List (Nat × Nat)) (mu mv : Nat), xPl R S2 Γ n e p q v π x mu mv ∧ π.length ≤ 4)
theorem PlP.bad {S S2 : Sg} {n e p q x : Nat} (h : yXP R c nv S p q S2 x) (hz : ¬ Zi S2 3 = 0) : PlP R Γ c nv S n e p q S2 (some x) := ⟨x, rfl, h, fun q => absurd q hz⟩
/-- behind a member or a star: not too deep -/
theorem pl250 (hK : yRm R) (hv : nv ≤ 10000) (hc : c ≤ 1990) {V : Sg → Option Nat → Option (Sg × Option Nat)} {S S1 : Sg} {n e p q t x tj : Nat} {fs : List Value} (he : e ∈ ZL R.S) (hG : ZF R.S e = .inr (15, fs)) (hl : fs.length = 14) (ho : ownT (ZF R.S) e = some t) (h1 : p ≤ t) (h2 : t < q) (htj : tj < R.T) (hn : n ≤ 1000) (hX : yXP R c nv S p q S1 x) (hg : Zi S1 3 = 0 → ∃ (v : Nat) (π : List (Nat × Nat)) (mu mv : Nat), xPl R S1 Γ n e p q v π x mu mv ∧ π.length ≤ 100) : Rt (f_place_250 R.K V S1 (some e) (nI tj) (some x)) (PlP R Γ c nv S n e p q) := by
  unfold f_place_250 f_place_277 f_place_279
  refine Rt.ok (fun z => ?_) (fun z => Rt.rt (PlP.bad hX z))
  obtain ⟨v, π, mu, mv, g1, g2⟩ := hg z
  refine Rt.be (dep_ (fun a ha => hX.1.L ha) g1 hn) (Rt.it (fun w => ?_) (fun w => ?_))
  · have hle : π.length ≤ 4 := (nI_leI (a := π.length) (b := 4) (by omega) (by decide)).mp w
    exact Rt.rt ⟨x, rfl, hX, fun _ => ⟨v, π, mu, mv, g1, hle⟩⟩
  · refine Rt.bn (wrg_ hK hv hc hX.1 he hG hl ho h1 h2 htj (by decide)) (fun S3 r3 q3 => ?_)
    obtain ⟨x3, rfl, k1, k2⟩ := q3
    exact Rt.rt (PlP.bad ⟨k1.1, hX.2.1.tr k1.2.1 (fun _ w => w), hX.2.2.1.tr k1.2.2.1, k1.2.2.2⟩ k2)
/-- a name: the scope is looked through -/
theorem pl56 (hK : yRm R) (hv : nv ≤ 10000) (hc : c ≤ 1990) {V : Sg → Option Nat → Option (Sg × Option Nat)} {S : Sg} {n e p q : Nat} (h : TS R c nv S) (hS : SCO R S Γ) (he : e ∈ ZL R.S) (hG : ZF R.S e = xpC 2 p 0 (nI p) 0 0 .null .null .null 0) (hF : ZF S e = ZF R.S e) (hpq : p < q) (hq : q ≤ R.T) : ∀ (m k : Nat) (w : Option Nat), Γ.length < k + m → k ≤ Γ.length → (w = none ∨ ∃ v : Nat, v ∈ Γ ∧ w = some v) → Rt (f_place_56 R.K V m (UF S e (xtC 2 p 0 (nI p) 0 0 0 0 .null .null .null 0 .null (va_rf w))) (some e) (nI k)) (PlP R Γ c nv S (n + 1) e p q)
  | 0, k, w, a, b, _ => absurd a (by omega)
  | m + 1, k, w, a, b, hw => by
    have hT := h.tb
    have ho : ownT (ZF R.S) e = some p := own_a hG (by decide) (by decide) (by omega)
    have hc1 : cs (ZF R.S e) (xtC 2 p 0 (nI p) 0 0 0 0 .null .null .null 0 .null (va_rf w)) := by
      rw [hG]
      exact cs_put (k := 13) (c := 15) (gs := [.int 2, .int (nI p), .int 0, .int (nI p), .int 0, .int 0, .long 0, .int 0, .null, .null, .null, .int (nI 0), .null, .null]) (cs_rf _) rfl
    have t1 : TS R c nv (UF S e (xtC 2 p 0 (nI p) 0 0 0 0 .null .null .null 0 .null (va_rf w))) := h.uf he hc1
    have hne : ∀ (k : Nat) (vs : List Value), k ≠ 15 → ¬ ZF S e = .inr (k, vs) := fun k vs hk w => by rw [hF, hG] at w; cases w; exact hk rfl
    have v1 : VX R (Xo R p q) S (UF S e (xtC 2 p 0 (nI p) 0 0 0 0 .null .null .null 0 .null (va_rf w))) := VX.uf (Or.inl ⟨p, ho, Nat.le_refl _, hpq⟩) (fun vs => hne _ _ (by decide)) (fun vs => hne _ _ (by decide))
    have s1 : VS S (UF S e (xtC 2 p 0 (nI p) 0 0 0 0 .null .null .null 0 .null (va_rf w))) := VS.uf hne
    have c1 : ZF (UF S e (xtC 2 p 0 (nI p) 0 0 0 0 .null .null .null 0 .null (va_rf w))) e = xtC 2 p 0 (nI p) 0 0 0 0 .null .null .null 0 .null (va_rf w) := ZF_s
    have S1o := SCO.vx v1 s1 hS
    have hUF : ∀ c2 : va_E, UF (UF S e (xtC 2 p 0 (nI p) 0 0 0 0 .null .null .null 0 .null (va_rf w))) e c2 = UF S e c2 := fun _ => UF_UF
    revert t1 v1 s1 c1 S1o hUF
    generalize UF S e (xtC 2 p 0 (nI p) 0 0 0 0 .null .null .null 0 .null (va_rf w)) = S1
    intro t1 v1 s1 c1 S1o hUF
    have he1 := t1.L he
    unfold f_place_56 f_place_94 f_place_153
    rw [S1o.1]
    refine Rt.it (fun hk => ?_) (fun hk => ?_)
    · refine Rt.bd (oR_mk he1 c1 rfl) ?_
      rcases hw with hw | ⟨v, hw1, hw2⟩
      · refine Rt.ip hw (Rt.bd (oI_mk he1 c1 rfl) (Rt.bn (wrg_ hK hv hc t1 he hG rfl ho (Nat.le_refl _) hpq (by omega) (by decide)) (fun S3 r3 q3 => ?_)))
        obtain ⟨x3, rfl, k1, k2⟩ := q3
        exact Rt.rt (PlP.bad ⟨k1.1, v1.tr k1.2.1 (fun _ w => w), s1.tr k1.2.2.1, k1.2.2.2⟩ k2)
      · subst hw2
        obtain ⟨j, hj⟩ := List.mem_iff_getElem?.mp hw1
        obtain ⟨k1, ix, nm, mu, ty, k2, k3, k4, k5⟩ := S1o.2.2 j v hj
        refine Rt.iq (by simp) (Rt.bd (oR_mk he1 c1 rfl) (Rt.bd (oR_mk k2.1 k2.2 rfl) ?_))
        cases ty with
        | none =>
          refine Rt.ip rfl (Rt.bd (oI_mk he1 c1 rfl) (Rt.bn (wrg_ hK hv hc t1 he hG rfl ho (Nat.le_refl _) hpq (by omega) (by decide)) (fun S3 r3 q3 => ?_)))
          obtain ⟨x3, rfl, k1, k2⟩ := q3
          exact Rt.rt (PlP.bad ⟨k1.1, v1.tr k1.2.1 (fun _ w => w), s1.tr k1.2.2.1, k1.2.2.2⟩ k2)
        | some x =>
          have hx := k5 x rfl
          obtain ⟨gs, g1, g2, g3⟩ := tol_ (K := R.K) (x := x) t1 he hG rfl ho (Nat.le_refl p) hpq (xTy.ty (Or.inl hx))
          rw [c1] at g1
          cases g1
          refine Rt.iq (by simp) (Rt.bd (oR_mk he1 c1 rfl) (Rt.bd (oR_mk k2.1 k2.2 rfl) (Rt.be g2 (Rt.rt ⟨x, rfl, ⟨g3.1, v1.tr g3.2.1 (fun _ w => w), s1.tr g3.2.2.1, g3.2.2.2⟩, fun _ => ⟨v, [], mu, 1, ?_, by decide⟩⟩))))
          exact ⟨⟨he, ⟨p, ho, Nat.le_refl _, hpq⟩, hpq⟩, hx.im g3.2.1.2.2.2.1, Or.inl ⟨ix, nI nm, ZF_s, rfl, hw1, g3.2.2.1.2.2.2 _ _ _ _ _ k2, k4, rfl⟩⟩
    · have hlt : k < Γ.length := by
        rcases Nat.lt_or_ge k Γ.length with z | z
        · exact z
        · exact absurd (nI_le z (by have := S1o.2.1; omega)) hk
      have hg : Γ[k]? = some Γ[k] := List.getElem?_eq_getElem hlt
      obtain ⟨k1, ix, nm, mu, ty, k2, k3, k4, k5⟩ := S1o.2.2 k _ hg
      have hrq : rQ S1 22 (nI k) = some (some Γ[k]) := by rw [rQ_n (show k < rlen 22 by show k < 40; have := S1o.2.1; omega) (by decide), k1]
      refine Rt.bd hrq (Rt.bd (oI_mk k2.1 k2.2 rfl) (Rt.bd (oI_mk he1 c1 rfl) (Rt.bn (snm_ t1 k3 (by omega)) (fun S3 r3 q3 => ?_))))
      obtain ⟨rfl, _⟩ := q3
      rw [nI_1]
      refine Rt.it (fun _ => ?_) (fun _ => ?_)
      · have := pl56 (V := V) hK hv hc h hS he hG hF hpq hq (n := n) m (k + 1) w (by omega) (by omega) hw
        rw [← hUF, UF_id c1] at this
        exact this
      · refine Rt.bd hrq (Rt.bd (pV_mk he1 c1 (Nat.le_of_ble_eq_true rfl)) ?_)
        rw [hUF]
        exact pl56 (V := V) hK hv hc h hS he hG hF hpq hq (n := n) m (k + 1) (some Γ[k]) (by omega) (by omega) (Or.inr ⟨_, List.getElem_mem hlt, rfl⟩)
end PLC
