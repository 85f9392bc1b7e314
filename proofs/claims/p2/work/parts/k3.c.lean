theorem ZF_s {S : Sg} {a : Nat} {c : va_E} : ZF (UF S a c) a = c := updE_s
theorem ZF_n {S : Sg} {a b : Nat} {c : va_E} (h : b ≠ a) : ZF (UF S a c) b = ZF S b := updE_n h
theorem zb0 {S : Sg} : ((zB 0).bind fun _ => some (S, (0 : Int32))) = some (S, 0) := by unfold zB; rw [if_pos (Or.inl rfl)]; rfl
theorem zb1 {S : Sg} : ((zB 1).bind fun _ => some (S, (1 : Int32))) = some (S, 1) := by unfold zB; rw [if_pos (Or.inr rfl)]; rfl
theorem Zq_s {S : Sg} {r : Nat} {f : Nat → Option Nat} : Zq (Uq S r f) r = f := va_up_self _ _ _
theorem Zq_n {S : Sg} {r j : Nat} {f : Nat → Option Nat} (h : j ≠ r) : Zq (Uq S r f) j = Zq S j := va_up_ne _ _ h
theorem Zq_iu {S : Sg} {r k : Nat} {f : Nat → Option Nat} {v : Int32} : Zq (Ui (Uq S r f) k v) r = f := va_up_self _ _ _
theorem Zr_s {S : Sg} {r : Nat} {f : Nat → Int32} : Zr (Ur S r f) r = f := va_up_self _ _ _
theorem Zr_n {S : Sg} {r j : Nat} {f : Nat → Int32} (h : j ≠ r) : Zr (Ur S r f) j = Zr S j := va_up_ne _ _ h
theorem nO_ok {K : Ky} {S : Sg} {ci N : Nat} {fs : List Value} (h : Zz S + 1 ≤ K.2.1 ∧ Zn S + N ≤ K.2.2) : nO K S ci N fs = some (Un S (.inr (ci, fs)) N, Zz S) := if_pos h
theorem nA_ok {K : Ky} {S : Sg} {n : Nat} (h0 : n ≤ 100000) (h : Zz S + 1 ≤ K.2.1 ∧ Zn S + n ≤ K.2.2) : nA K S (nI n) = some (Un S (.inl (K.1 0, n, .inl (fun _ => 0))) n, Zz S) := by
  unfold nA; rw [if_neg (nI_pos (by omega)), nI_clamp (by omega), if_pos ⟨h0, h⟩]
theorem nQ_ok {K : Ky} {t : Nat} {S : Sg} {n : Nat} (h0 : n ≤ 100000) (h : Zz S + 1 ≤ K.2.1 ∧ Zn S + n ≤ K.2.2) : nQ K t S (nI n) = some (Un S (.inl (K.1 t, n, .inr (.inr (.inr (.inr (fun _ => none)))))) n, Zz S) := by
  unfold nQ; rw [if_neg (nI_pos (by omega)), nI_clamp (by omega), if_pos ⟨h0, h⟩]
section TQM
variable {K : Ky} {S : Sg} {G : Nat → va_E} {T zs im : Nat} {xI ps ms : Nat → Nat} {ik : Nat → Int32} {qz tm : Nat} {Y : Nat → Int32 × Int32 × Option Nat} {ad : Nat → Nat} {z0 n0 vt : Nat}
/-- a type of the table, as it lies there -/
theorem TQ.ty (h : TQ K S G T zs im xI ps ms ik qz tm Y ad z0 n0 vt) {t : Nat} (ht : t < tm) : Zq S 18 t = some (ad t) ∧ ad t ∈ ZL S ∧ ZF S (ad t) = .inr (20, [.int (Y t).1, .int (Y t).2.1, .int (nI t), va_rf (Y t).2.2]) := by
  obtain ⟨h1, h2, h3, _⟩ := (tyW_rl h.1.2.1 h.1.2.2.2.1).1 t ht
  exact ⟨h1, h2, h3⟩
/-- what type() gives: the type there is, or a new one -/
def TyP (K : Ky) (S : Sg) (G : Nat → va_E) (T zs im : Nat) (xI ps ms : Nat → Nat) (ik : Nat → Int32) (qz tm : Nat) (Y : Nat → Int32 × Int32 × Option Nat) (ad : Nat → Nat) (z0 n0 vt : Nat) (dp : Nat) (S2 : Sg) (G2 : Nat → va_E) (tm2 : Nat) (Y2 : Nat → Int32 × Int32 × Option Nat) (ad2 : Nat → Nat) : Prop :=
  TQ K S2 G2 T zs im xI ps ms ik qz tm2 Y2 ad2 z0 n0 vt ∧ tX (ZL S) G tm Y ad (ZL S2) G2 tm2 Y2 ad2 ∧ exS (ZL S) (ZF S) (ZL S2) (ZF S2) ∧ FrT S S2 ∧ Zi S2 3 = Zi S 3 ∧ ptN Y2 tm2 ≤ ptN Y tm + dp
theorem type_3 (hK : z0 + 40000 ≤ K.2.1 ∧ n0 + 400000 ≤ K.2.2) (hv : vt ≤ 10000) (h : TQ K S G T zs im xI ps ms ik qz tm Y ad z0 n0 vt) {kd ix : Int32} {o : Option Nat} (hy : yOK im ik (kd, ix, o)) (ho : o = none ∨ ∃ u : Nat, u < tm ∧ o = some (ad u)) (htm : tm < 2000) : ∀ (n j : Nat), tm < j + n → j ≤ tm → (∀ t : Nat, t < j → ¬ Y t = (kd, ix, o)) → Rt (f_type_3 K n S kd ix o (nI j)) (fun S2 r => ∃ (G2 : Nat → va_E) (tm2 : Nat) (Y2 : Nat → Int32 × Int32 × Option Nat) (ad2 : Nat → Nat) (t2 : Nat), TyP K S G T zs im xI ps ms ik qz tm Y ad z0 n0 vt 1 S2 G2 tm2 Y2 ad2 ∧ t2 < tm2 ∧ r = some (ad2 t2) ∧ Y2 t2 = (kd, ix, o) ∧ tm2 ≤ tm + 1 ∧ (ix = 0 → o = none → kd = 0 ∨ kd = 1 ∨ kd = 2 ∨ kd = 8 → ptN Y2 tm2 ≤ ptN Y tm))
  | 0, j, a, b, _ => absurd a (by omega)
  | n + 1, j, a, b, hn => by
    unfold f_type_3
    rw [h.2.2.2.1]
    refine Rt.it (fun hc => ?_) (fun hc => ?_)
    · -- a new one
      have hj : tm = j := by have := (nI_leI (a := tm) (b := j) (by omega) (by omega)).mp hc; omega
      subst hj
      have hz := h.2.2.2.2.1; have hzn := h.2.2.2.2.2.1; have hlt := h.2.2.2.2.2.2
      refine Rt.be (nO_ok ⟨by omega, by omega⟩) ?_
      generalize hS1 : Un S (.inr (20, [.int 0, .int 0, .int 0, .null])) 4 = S1
      have hq : Zz S ∈ ZL S1 := by rw [← hS1]; exact List.mem_cons_self
      have hF1 : ZF S1 (Zz S) = .inr (20, [.int 0, .int 0, .int 0, .null]) := by rw [← hS1]; exact updE_s
      refine Rt.bd (pV_mk hq hF1 (by decide)) ?_
      refine Rt.bd (pV_mk hq ZF_s (Nat.le_of_ble_eq_true rfl)) ?_
      refine Rt.bd (pV_mk hq ZF_s (Nat.le_of_ble_eq_true rfl)) ?_
      refine Rt.bd (pV_mk hq ZF_s (Nat.le_of_ble_eq_true rfl)) ?_
      have e19 : ∀ c1 c2 c3 c4 : va_E, Zi (UF (UF (UF (UF S1 (Zz S) c1) (Zz S) c2) (Zz S) c3) (Zz S) c4) 19 = nI tm := fun _ _ _ _ => by rw [← hS1]; exact h.2.2.2.1
      have e19b : ∀ c1 c2 c3 : va_E, Zi (UF (UF (UF S1 (Zz S) c1) (Zz S) c2) (Zz S) c3) 19 = nI tm := fun _ _ _ => by rw [← hS1]; exact h.2.2.2.1
      rw [e19, e19b]
      refine Rt.bd (wQ_n (show tm < rlen 18 from htm) (by decide) (okO_mk (vs := _) hq ZF_s)) ?_
      refine Rt.bd (v := _) rfl (Rt.rt ?_)
      generalize hS9 : Ui _ 19 _ = S9
      have hFn : ∀ b : Nat, b ≠ Zz S → ZF S9 b = ZF S b := fun b hb => by rw [← hS9, ← hS1]; exact (updE_n hb).trans ((updE_n hb).trans ((updE_n hb).trans ((updE_n hb).trans (updE_n hb))))
      have hFz : ZF S9 (Zz S) = .inr (20, [.int kd, .int ix, .int (nI tm), va_rf o]) := by rw [← hS9]; exact updE_s
      have hL9 : ZL S9 = Zz S :: ZL S := by rw [← hS9, ← hS1]; rfl
      have hx : exS (ZL S) (ZF S) (ZL S9) (ZF S9) := fun b hb => ⟨by rw [hL9]; exact List.mem_cons_of_mem _ hb, hFn b (by have := hlt b hb; omega)⟩
      have hfr : FrT S S9 := by
        rw [← hS9, ← hS1]
        exact ⟨fun k a b c => Zi_n c, rfl, rfl, fun r hr => va_up_ne _ _ hr, rfl⟩
      have hq9 : Zq S9 18 = va_up (Zq S 18) tm (some (Zz S)) := by rw [← hS9, ← hS1]; exact Zq_iu
      have hi9 : Zi S9 19 = nI (tm + 1) := by rw [← hS9]; exact Zi_s.trans (by show Zi S1 19 + 1 = _; rw [← hS1]; show Zi S 19 + 1 = _; rw [h.2.2.2.1, nI_1])
      have hw := tyW_new hx (tyW_rl h.1.2.1 h.1.2.2.2.1) (q := Zz S) (by rw [hL9]; exact List.mem_cons_self) hFz ho hn
      have hg := tgd_ty h.1 hx (tm2 := tm + 1) (t2 := tm) (Or.inr ⟨rfl, rfl⟩) (fun t ht => ⟨if_neg (by omega), if_neg (by omega)⟩) hw ⟨by omega, if_pos rfl⟩ hy
      refine ⟨grG (ZL S) G (ZF S9), tm + 1, _, _, tm, ⟨⟨?_, (hfr.1 9 (by decide) (by decide) (by decide)).trans h.2.1, (hfr.1 12 (by decide) (by decide) (by decide)).trans h.2.2.1, hi9, by rw [← hS9, ← hS1]; show Zz S + 1 = _; omega, by rw [← hS9, ← hS1]; show Zn S + 4 = _; omega, ?_⟩, hg.2, hx, hfr, by rw [← hS9, ← hS1]; exact Zi_n (by decide), (ptN_new hn).1⟩, by omega, congrArg some (if_pos rfl).symm, if_pos rfl, Nat.le_refl _, fun a b c => (ptN_new hn).2 a b c⟩
      · rw [hfr.2.1, hq9, hfr.2.2.2.1 11 (by decide)]; exact hg.1
      · intro b hb
        have hz9 : Zz S9 = Zz S + 1 := by rw [← hS9, ← hS1]; rfl
        rw [hL9] at hb
        rcases List.mem_cons.mp hb with e | e
        · omega
        · have := hlt b e; omega
    · have hj : j < tm := by
        rcases Nat.lt_or_ge j tm with z | z
        · exact z
        · exact absurd (nI_le z (by omega)) hc
      obtain ⟨h1, h2, h3⟩ := h.ty hj
      have hld : rQ S 18 (nI j) = some (some (ad j)) := by rw [rQ_n (show j < rlen 18 by show j < 2000; omega) (by decide), h1]
      have hnx : ¬ Y j = (kd, ix, o) → Rt (f_type_62 K (f_type_3 K n) S kd ix o (nI j)) _ := fun hne => by
        unfold f_type_62; rw [nI_1]
        exact type_3 hK hv h hy ho htm n (j + 1) (by omega) (by omega) (fun t ht => by
          by_cases e : t = j
          · subst e; exact hne
          · exact hn t (by omega))
      refine Rt.bd hld (Rt.bd (oI_mk h2 h3 rfl) ?_)
      refine Rt.it (fun e1 => ?_) (fun e1 => hnx (fun q => e1 (by rw [q])))
      refine Rt.bd hld (Rt.bd (oI_mk h2 h3 rfl) ?_)
      refine Rt.it (fun e2 => ?_) (fun e2 => hnx (fun q => e2 (by rw [q])))
      refine Rt.bd hld (Rt.bd (oR_mk h2 h3 rfl) ?_)
      refine Rt.it (fun e3 => ?_) (fun e3 => hnx (fun q => e3 (by rw [q])))
      refine Rt.bd hld (Rt.rt ?_)
      exact ⟨G, tm, Y, ad, j, ⟨h, tX.rf, exS.rf, FrT.rf, rfl, by omega⟩, hj, rfl, Prod.ext e1 (Prod.ext e2 e3), by omega, fun _ _ _ => Nat.le_refl _⟩
theorem type_ (hK : z0 + 40000 ≤ K.2.1 ∧ n0 + 400000 ≤ K.2.2) (hv : vt ≤ 10000) (h : TQ K S G T zs im xI ps ms ik qz tm Y ad z0 n0 vt) {kd ix : Int32} {o : Option Nat} (hy : yOK im ik (kd, ix, o)) (ho : o = none ∨ ∃ u : Nat, u < tm ∧ o = some (ad u)) (htm : tm < 2000) : Rt (f_type K S kd ix o) (fun S2 r => ∃ (G2 : Nat → va_E) (tm2 : Nat) (Y2 : Nat → Int32 × Int32 × Option Nat) (ad2 : Nat → Nat) (t2 : Nat), TyP K S G T zs im xI ps ms ik qz tm Y ad z0 n0 vt 1 S2 G2 tm2 Y2 ad2 ∧ t2 < tm2 ∧ r = some (ad2 t2) ∧ Y2 t2 = (kd, ix, o) ∧ tm2 ≤ tm + 1 ∧ (ix = 0 → o = none → kd = 0 ∨ kd = 1 ∨ kd = 2 ∨ kd = 8 → ptN Y2 tm2 ≤ ptN Y tm)) :=
  type_3 hK hv h hy ho htm bigN 0 (by show tm < 0 + 1000000000000; omega) (by omega) (fun t ht => absurd ht (by omega))
/-- plainType -/
theorem plain_ (hK : z0 + 40000 ≤ K.2.1 ∧ n0 + 400000 ≤ K.2.2) (hv : vt ≤ 10000) (h : TQ K S G T zs im xI ps ms ik qz tm Y ad z0 n0 vt) {kd : Int32} (hk : kd = 0 ∨ kd = 1 ∨ kd = 2 ∨ kd = 8) (hp : ptN Y tm ≤ 1999) : Rt (f_plainType K S kd) (fun S2 r => ∃ (G2 : Nat → va_E) (tm2 : Nat) (Y2 : Nat → Int32 × Int32 × Option Nat) (ad2 : Nat → Nat) (t2 : Nat), TyP K S G T zs im xI ps ms ik qz tm Y ad z0 n0 vt 0 S2 G2 tm2 Y2 ad2 ∧ t2 < tm2 ∧ r = some (ad2 t2) ∧ Y2 t2 = (kd, 0, none) ∧ tm2 ≤ tm + 1) := by
  unfold f_plainType
  have := ptN_ge (Y := Y) (tm := tm)
  refine Rt.bn (type_ hK hv h (kd := kd) (ix := 0) (o := none) (Or.inl ⟨hk, rfl, rfl⟩) (Or.inl rfl) (by omega)) (fun S2 r q => Rt.rt ?_)
  obtain ⟨G2, tm2, Y2, ad2, t2, q1, q2, q3, q4, q5, q6⟩ := q
  exact ⟨G2, tm2, Y2, ad2, t2, ⟨q1.1, q1.2.1, q1.2.2.1, q1.2.2.2.1, q1.2.2.2.2.1, q6 rfl rfl hk⟩, q2, q3, q4, q5⟩
/-- refers, copied -/
theorem refers_ (h : TQ K S G T zs im xI ps ms ik qz tm Y ad z0 n0 vt) {t : Nat} (ht : t < tm) : f_refers K S (some (ad t)) = some (S, if (Y t).1 = 6 ∨ (Y t).1 = 7 then 1 else 0) := by
  obtain ⟨h1, h2, h3⟩ := h.ty ht
  unfold f_refers f_refers_18 f_refers_23
  rw [zb0, zb1]
  rw [oI_mk h2 h3 (v := (Y t).1) rfl]
  show (if (Y t).1 = 6 then _ else if (Y t).1 = 7 then _ else _) = _
  by_cases e : (Y t).1 = 6
  · rw [if_pos e, if_pos (Or.inl e)]
  · by_cases e2 : (Y t).1 = 7
    · rw [if_neg e, if_pos e2, if_pos (Or.inr e2)]
    · rw [if_neg e, if_neg e2, if_neg (fun q => q.elim e e2)]
theorem copied_ (h : TQ K S G T zs im xI ps ms ik qz tm Y ad z0 n0 vt) {t : Nat} (ht : t < tm) : f_copied K S (some (ad t)) = some (S, if (Y t).1 = 0 ∨ (Y t).1 = 1 ∨ (Y t).1 = 6 then 1 else 0) := by
  obtain ⟨h1, h2, h3⟩ := h.ty ht
  unfold f_copied f_copied_24 f_copied_29
  rw [zb0, zb1]
  rw [oI_mk h2 h3 (v := (Y t).1) rfl]
  show (if (Y t).1 = 0 then _ else if (Y t).1 = 1 then _ else if (Y t).1 = 6 then _ else _) = _
  by_cases e : (Y t).1 = 0
  · rw [if_pos e, if_pos (Or.inl e)]
  · by_cases e2 : (Y t).1 = 1
    · rw [if_neg e, if_pos e2, if_pos (Or.inr (Or.inl e2))]
    · by_cases e3 : (Y t).1 = 6
      · rw [if_neg e, if_neg e2, if_pos e3, if_pos (Or.inr (Or.inr e3))]
      · rw [if_neg e, if_neg e2, if_neg e3, if_neg (fun q => q.elim e (fun q => q.elim e2 e3))]
/-- itemNamed -/
theorem itN_2 (h : TQ K S G T zs im xI ps ms ik qz tm Y ad z0 n0 vt) {tj : Nat} (htj : tj < T) : ∀ (n j : Nat), im < j + n → j ≤ im → Rt (f_itemNamed_2 K n S (nI tj) (nI j)) (fun S2 r => S2 = S ∧ (r = -1 ∨ ∃ i : Nat, i < im ∧ r = nI i))
  | 0, j, a, b => absurd a (by omega)
  | n + 1, j, a, b => by
    have him : im ≤ 70 := h.1.2.2.1.1
    unfold f_itemNamed_2
    rw [h.2.2.1]
    refine Rt.it (fun _ => Rt.rt ⟨rfl, Or.inl rfl⟩) (fun hc => ?_)
    have hj : j < im := by
      rcases Nat.lt_or_ge j im with z | z
      · exact z
      · exact absurd (nI_le z (by omega)) hc
    obtain ⟨hx1, hx2, hx3, hx4, gs, hg1, hg2, hg3⟩ := it_nm h.1 hj
    refine Rt.bd (v := some (xI j)) (by rw [rQ_n (show j < rlen 11 by show j < 70; omega) (by decide), hx3]) ?_
    refine Rt.bd (oI_mk hx1 hg1 hg2) ?_
    refine Rt.bn (sam_ h hx2 htj) (fun S2 r q => ?_)
    obtain ⟨e, q⟩ := q
    rw [e]
    refine Rt.it (fun _ => ?_) (fun _ => Rt.rt ⟨rfl, Or.inr ⟨j, hj, rfl⟩⟩)
    rw [nI_1]
    exact itN_2 h htj n (j + 1) (by omega) (by omega)
theorem itN_ (h : TQ K S G T zs im xI ps ms ik qz tm Y ad z0 n0 vt) {tj : Nat} (htj : tj < T) : Rt (f_itemNamed K S (nI tj)) (fun S2 r => S2 = S ∧ (r = -1 ∨ ∃ i : Nat, i < im ∧ r = nI i)) :=
  itN_2 h htj bigN 0 (by have : im ≤ 70 := h.1.2.2.1.1; show im < 0 + 1000000000000; omega) (by omega)
end TQM
