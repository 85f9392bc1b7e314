section PS42
variable {R : yR} {S0 Sl S S2 : Sg} {g : Nat → Int32} {k t T x N : Nat} {V : qV} {fl l h c : List Nat} {v : Int64} {P : Sg → List Nat → Prop}
theorem drN.all (q : drN R.K N P S) (hN : N < bigN) (hp : ∀ (S3 : Sg) (fl3 : List Nat), P S3 fl3 → Zi S3 81 = nI 0) : Rt (f_doAll R.K S) (fun S3 _ => ∃ fl3 : List Nat, P S3 fl3) := by
  unfold f_doAll
  refine q bigN _ (Nat.le_of_lt hN) (fun S3 fl3 e2 h1 h2 => ?_)
  obtain ⟨e2, rfl⟩ : ∃ m : Nat, e2 = m + 1 := ⟨e2 - 1, by omega⟩
  unfold f_doAll_0
  exact Rt.ip (by rw [hp S3 fl3 h1]; decide) (Rt.rt ⟨fl3, h1⟩)
/-- a place is dropped, and all work done -/
theorem doP_ (hL : LFS R S0 g) (hx : LX S0 Sl) (hp : pL (yT R S0) (szN R S0) (nMS S) k T V c l h) (hr : rTy S0 x) (eT : abT S0 x = T) (e : RNx Sl S) (hq : wq S) (hf : FLs S fl t) (hd : Zi S 81 = nI 0) (hk : lkN (Zr S 63) c) (hc : cvN c l fl t) (h9 : c.length + 2 * l.length ≤ 90000) : Rt (f_dropPlace R.K S (some x) (nI (hdN c))) (fun S2 _ => Rt (f_doAll R.K S2) (fun S3 _ => ∃ fl3 : List Nat, DPo c l h fl t 0 S S3 fl3)) := by
  have hy := nYk_of hL
  have hl := hp.len hy
  have h1 := hy.1 T
  have hm : (rkN R S0 g T + 1) * c.length ≤ 101 * 16 := Nat.mul_le_mul (by omega) (by omega)
  exact (drP hL hx k T V c l h x S 0 fl t (101 * 16 + 103 * l.length) hp hr eT e hq hf hd hk hc (by omega) (by omega)).mo (fun S2 _ q => q.all (by unfold bigN; omega) (fun S3 fl3 w => w.2.1))
/-- a value is dropped -/
theorem doV_ (hL : LFS R S0 g) (hx : LX S0 Sl) (hv : vL (yT R S0) (szN R S0) (nMS S) k T V v l h) (hr : rTy S0 x) (eT : abT S0 x = T) (h2 : (yT R S0).1 T ≠ 2) (e : RNx Sl S) (hq : wq S) (hf : FLs S fl t) (hd : Zi S 81 = nI 0) (hc : cvN [] l fl t) (h9 : 2 * l.length ≤ 90000) : Rt (f_dropValue R.K S (some x) v) (fun S2 _ => Rt (f_doAll R.K S2) (fun S3 _ => ∃ fl3 : List Nat, DPo [] l h fl t 0 S S3 fl3)) := (drV hL hx (drP hL hx k) hv hr eT h2 e hq hf hd hc (by omega)).mo (fun S2 _ q => q.all (by unfold bigN; omega) (fun S3 fl3 w => w.2.1))
/-- .. a struct -/
theorem doS_ (hL : LFS R S0 g) (hx : LX S0 Sl) (hp : pL (yT R S0) (szN R S0) (nMS S) k T V c l h) (hr : rTy S0 x) (eT : abT S0 x = T) (h2 : (yT R S0).1 T = 2) (e : RNx Sl S) (hq : wq S) (hf : FLs S fl t) (hd : Zi S 81 = nI 0) (hk : lkN (Zr S 63) c) (hc : cvN c l fl t) (h9 : 2 * c.length + 2 * l.length ≤ 90000) : Rt (f_dropValue R.K S (some x) (nL (hdN c))) (fun S2 _ => Rt (f_doAll R.K S2) (fun S3 _ => ∃ fl3 : List Nat, DPo [] (c ++ l) h fl t 0 S S3 fl3)) := by
  have hy := nYk_of hL
  have hl := hp.len hy
  have h1 := hy.1 T
  subst eT
  cases k with
  | zero => exact hp.elim
  | succ k =>
    rcases hp with ⟨y2, cs, ls, hs, rfl, rfl, rfl, hp⟩ | ⟨y2, _⟩
    · obtain ⟨i, ta, f, a1, a2, a3, a4, a5, a6, a7, a8⟩ := vwS hL hx e hr y2
      have hrk := (hy.2.2.1 (abT S0 x) y2).2.2.2.2
      unfold f_dropValue
      rw [a1, nL_t]
      refine Rt.bd rfl (Rt.iq (by decide) (Rt.bd rfl (Rt.ip rfl (Rt.bd a2 (Rt.bd a3 (Rt.bd a4 (Rt.bd a2 (Rt.bd a3 (Rt.bd a5 ?_)))))))))
      have hm : rkN R S0 g (abT S0 x) * (ftN cs ((yT R S0).2.2.2.1 (abT S0 x) 0)).length ≤ 100 * 16 := Nat.mul_le_mul (by omega) (by omega)
      have a7' : (yT R S0).2.2.2.1 (abT S0 x) 0 ≤ 12 := a7
      refine Rt.bn (drG (fr := 1) (b := 0) (f := f) (cs := cs) (ls := ls) (hs := hs) (ρ := rkN R S0 g (abT S0 x)) (cap := 13) (N := 100 * 16 + 103 * (ftN ls ((yT R S0).2.2.2.1 (abT S0 x) 0)).length + 12) (mn := (yT R S0).2.2.2.1 (abT S0 x) 0) hL hx (drP hL hx k) e hd (Or.inr ⟨ta, rfl, a6⟩) ⟨Nat.le_trans a7 (by decide), by decide⟩ hq hf hp a8 hk hc (Or.inr rfl) (by omega) (by omega) (fun j hj => hrk j hj) (by omega)) (fun S2 _ q => Rt.rt ((q.mo (P2 := DPo [] (ftN cs ((yT R S0).2.2.2.1 (abT S0 x) 0) ++ ftN ls ((yT R S0).2.2.2.1 (abT S0 x) 0)) (ftN hs ((yT R S0).2.2.2.1 (abT S0 x) 0)) fl t 0 S) (Nat.le_refl _) (fun S3 fl3 ⟨p1, p2, p3, p4, p5, p6, p7⟩ => ⟨p1.mo (fun a w => Or.inr (List.mem_append.mpr w)) (fun _ w => w) (Nat.le_refl _), p2, p4, fun a => by rw [p5 a, cnN_app]; omega, fun a ha => (List.not_mem_nil ha).elim, p7, p3⟩)).all (by unfold bigN; omega) (fun S3 fl3 w => w.2.1)))
    · exact absurd h2 y2
end PS42
