theorem rI_n {S : Sg} {r j : Nat} (h : j < rlen r) (hr : rlen r < 2 ^ 31) : rI S r (nI j) = some (Zr S r j) := by
  unfold rI; rw [if_neg (vp_in_nI h hr), nI_clamp (by omega)]
theorem rJ_n {S : Sg} {r j : Nat} (h : j < rlen r) (hr : rlen r < 2 ^ 31) : rJ S r (nI j) = some (Zl S r j) := by
  unfold rJ; rw [if_neg (vp_in_nI h hr), nI_clamp (by omega)]
theorem rQ_n {S : Sg} {r j : Nat} (h : j < rlen r) (hr : rlen r < 2 ^ 31) : rQ S r (nI j) = some (Zq S r j) := by
  unfold rQ; rw [if_neg (vp_in_nI h hr), nI_clamp (by omega)]
theorem wRI_n {S : Sg} {r j : Nat} {v : Int32} (h : j < rlen r) (hr : rlen r < 2 ^ 31) : wRI S r (nI j) v = some (Ur S r (upd (Zr S r) j v)) := by
  unfold wRI; rw [if_neg (vp_in_nI h hr), nI_clamp (by omega)]
theorem wJ_n {S : Sg} {r j : Nat} {v : Int64} (h : j < rlen r) (hr : rlen r < 2 ^ 31) : wJ S r (nI j) v = some (Ul S r (vp_updL (Zl S r) j v)) := by
  unfold wJ; rw [if_neg (vp_in_nI h hr), nI_clamp (by omega)]
theorem wZ_n {S : Sg} {r j : Nat} {v : Int32} (h : j < rlen r) (hr : rlen r < 2 ^ 31) (hv : v = 0 ∨ v = 1) : wZ S r (nI j) v = some (Ur S r (upd (Zr S r) j v)) := by
  unfold wZ; rw [if_neg (vp_in_nI h hr), if_pos hv, nI_clamp (by omega)]
theorem wQ_n {S : Sg} {ci r j : Nat} {v : Option Nat} (h : j < rlen r) (hr : rlen r < 2 ^ 31) (hv : okO S ci v = true) : wQ S ci r (nI j) v = some (Uq S r (va_up (Zq S r) j v)) := by
  unfold wQ; rw [if_neg (vp_in_nI h hr), if_pos hv, nI_clamp (by omega)]
theorem wA_n {K : Ky} {S : Sg} {r j : Nat} {v : Option Nat} (h : j < rlen r) (hr : rlen r < 2 ^ 31) (hv : okA K S v = true) : wA K S r (nI j) v = some (Uq S r (va_up (Zq S r) j v)) := by
  unfold wA; rw [if_neg (vp_in_nI h hr), if_pos hv, nI_clamp (by omega)]
theorem aI_n {K : Ky} {S : Sg} {a n j : Nat} {f : Nat → Int32} (ha : a ∈ ZL S) (hF : ZF S a = .inl (K.1 0, n, .inl f)) (h : j < n) (hn : n < 2 ^ 31) : aI K S (some a) (nI j) = some (f j) := by
  rw [aI_mk ha hF (vp_in_nI h hn), nI_clamp (by omega)]
theorem aQ_n {K : Ky} {t : Nat} {S : Sg} {a n j : Nat} {f : Nat → Option Nat} (ha : a ∈ ZL S) (hF : ZF S a = .inl (K.1 t, n, .inr (.inr (.inr (.inr f))))) (h : j < n) (hn : n < 2 ^ 31) : aQ K t S (some a) (nI j) = some (f j) := by
  rw [aQ_mk ha hF (vp_in_nI h hn), nI_clamp (by omega)]
theorem bI_n {K : Ky} {S : Sg} {a n j : Nat} {f : Nat → Int32} {v : Int32} (ha : a ∈ ZL S) (hF : ZF S a = .inl (K.1 0, n, .inl f)) (h : j < n) (hn : n < 2 ^ 31) : bI K S (some a) (nI j) v = some (UF S a (.inl (K.1 0, n, .inl (upd f j v)))) := by
  rw [bI_mk ha hF (vp_in_nI h hn), nI_clamp (by omega)]
theorem bQ_n {K : Ky} {t ci : Nat} {S : Sg} {a n j : Nat} {f : Nat → Option Nat} {v : Option Nat} (ha : a ∈ ZL S) (hF : ZF S a = .inl (K.1 t, n, .inr (.inr (.inr (.inr f))))) (h : j < n) (hn : n < 2 ^ 31) (hv : okO S ci v = true) : bQ K t ci S (some a) (nI j) v = some (UF S a (.inl (K.1 t, n, .inr (.inr (.inr (.inr (va_up f j v))))))) := by
  rw [bQ_mk ha hF (vp_in_nI h hn) hv, nI_clamp (by omega)]
theorem Zi_n {S : Sg} {k j : Nat} {v : Int32} (h : j ≠ k) : Zi (Ui S k v) j = Zi S j := if_neg h
theorem Zi_s {S : Sg} {k : Nat} {v : Int32} : Zi (Ui S k v) k = v := if_pos rfl
/-- what the typing's small members leave as it was -/
def FrT (S S2 : Sg) : Prop := (∀ k : Nat, k ≠ 3 → k ≠ 4 → k ≠ 19 → Zi S2 k = Zi S k) ∧ Zr S2 = Zr S ∧ Zl S2 = Zl S ∧ (∀ r : Nat, r ≠ 18 → Zq S2 r = Zq S r) ∧ Zf S2 = Zf S
theorem FrT.rf {S : Sg} : FrT S S := ⟨fun _ _ _ _ => rfl, rfl, rfl, fun _ _ => rfl, rfl⟩
theorem FrT.tr {S S1 S2 : Sg} (h : FrT S S1) (g : FrT S1 S2) : FrT S S2 := ⟨fun k a b c => (g.1 k a b c).trans (h.1 k a b c), g.2.1.trans h.2.1, g.2.2.1.trans h.2.2.1, fun r a => (g.2.2.2.1 r a).trans (h.2.2.2.1 r a), g.2.2.2.2.trans h.2.2.2.2⟩
/-- the state of the typing: what was read (G), the items, the table of types; so many cells since -/
def TQ (K : Ky) (S : Sg) (G : Nat → va_E) (T zs im : Nat) (xI ps ms : Nat → Nat) (ik : Nat → Int32) (qz tm : Nat) (Y : Nat → Int32 × Int32 × Option Nat) (ad : Nat → Nat) (z0 n0 vt : Nat) : Prop :=
  tgd (ZL S) (ZF S) G (Zr S 5) (Zr S 6) (Zr S 7) T zs (K.1 9) (K.1 0) (K.1 11) (K.1 10) (K.1 7) (K.1 5) (K.1 12) (K.1 4) (K.1 13) (Zq S 11) im xI ps ms ik qz (Zq S 18) tm Y ad ∧ Zi S 9 = nI T ∧ Zi S 12 = nI im ∧ Zi S 19 = nI tm ∧ Zz S = z0 + tm + vt ∧ Zn S = n0 + 4 * tm + 5 * vt ∧ (∀ a ∈ ZL S, a < Zz S)
theorem ok_1 {K : Ky} {S : Sg} (h : Zi S 3 = 0) : f_ok K S = some (S, 1) := by unfold f_ok f_ok_12 zB; rw [if_pos h, if_pos (Or.inr rfl)]; rfl
theorem ok_0 {K : Ky} {S : Sg} (h : ¬ Zi S 3 = 0) : f_ok K S = some (S, 0) := by unfold f_ok f_ok_12 zB; rw [if_neg h, if_pos (Or.inl rfl)]; rfl
/-- a fault is told, if there was none -/
def flS (S : Sg) (wh x : Int32) : Sg := if Zi S 3 = 0 then Ui (Ui S 3 wh) 4 x else S
theorem fail_ {K : Ky} {S : Sg} {wh : Int32} {tj : Nat} (h : tj < 3002) : f_fail K S wh (nI tj) = some (flS S wh (Zr S 6 tj), ()) := by
  unfold f_fail flS
  by_cases q : Zi S 3 = 0
  · rw [if_pos q, if_pos q]
    show (rI (Ui S 3 wh) 6 (nI tj)).bind _ = _
    rw [rI_n (show tj < rlen 6 from h) (by decide)]; rfl
  · rw [if_neg q, if_neg q]
theorem flS_fr {S : Sg} {wh x : Int32} : FrT S (flS S wh x) := by
  unfold flS
  by_cases q : Zi S 3 = 0
  · rw [if_pos q]; exact ⟨fun k a b c => (Zi_n b).trans (Zi_n a), rfl, rfl, fun _ _ => rfl, rfl⟩
  · rw [if_neg q]; exact FrT.rf
theorem flS_n0 {S : Sg} {wh x : Int32} (h : wh ≠ 0) : ¬ Zi (flS S wh x) 3 = 0 := by
  unfold flS
  by_cases q : Zi S 3 = 0
  · rw [if_pos q]; rw [Zi_n (by decide), Zi_s]; exact h
  · rw [if_neg q]; exact q
theorem flS_st {S : Sg} {wh x : Int32} : ZL (flS S wh x) = ZL S ∧ ZF (flS S wh x) = ZF S ∧ Zz (flS S wh x) = Zz S ∧ Zn (flS S wh x) = Zn S ∧ Zq (flS S wh x) = Zq S ∧ Zi (flS S wh x) 19 = Zi S 19 := by
  unfold flS
  by_cases q : Zi S 3 = 0
  · rw [if_pos q]; exact ⟨rfl, rfl, rfl, rfl, rfl, (Zi_n (by decide)).trans (Zi_n (by decide))⟩
  · rw [if_neg q]; exact ⟨rfl, rfl, rfl, rfl, rfl, rfl⟩
section TQL
variable {K : Ky} {S : Sg} {G : Nat → va_E} {T zs im : Nat} {xI ps ms : Nat → Nat} {ik : Nat → Int32} {qz tm : Nat} {Y : Nat → Int32 × Int32 × Option Nat} {ad : Nat → Nat} {z0 n0 vt : Nat}
/-- nothing of what TQ speaks of has changed -/
theorem TQ.same {S2 : Sg} (h : TQ K S G T zs im xI ps ms ik qz tm Y ad z0 n0 vt) (hf : FrT S S2) (h1 : ZL S2 = ZL S) (h2 : ZF S2 = ZF S) (h3 : Zz S2 = Zz S) (h4 : Zn S2 = Zn S) (h5 : Zq S2 18 = Zq S 18) (h6 : Zi S2 19 = Zi S 19) : TQ K S2 G T zs im xI ps ms ik qz tm Y ad z0 n0 vt := by
  refine ⟨?_, (hf.1 9 (by decide) (by decide) (by decide)).trans h.2.1, (hf.1 12 (by decide) (by decide) (by decide)).trans h.2.2.1, h6.trans h.2.2.2.1, h3.trans h.2.2.2.2.1, h4.trans h.2.2.2.2.2.1, by rw [h1, h3]; exact h.2.2.2.2.2.2⟩
  rw [h1, h2, hf.2.1, h5, hf.2.2.2.1 11 (by decide)]; exact h.1
theorem TQ.fl (h : TQ K S G T zs im xI ps ms ik qz tm Y ad z0 n0 vt) {wh x : Int32} : TQ K (flS S wh x) G T zs im xI ps ms ik qz tm Y ad z0 n0 vt := by
  obtain ⟨g1, g2, g3, g4, g5, g6⟩ := flS_st (S := S) (wh := wh) (x := x)
  exact h.same flS_fr g1 g2 g3 g4 (by rw [g5]) g6
theorem TQ.tb (h : TQ K S G T zs im xI ps ms ik qz tm Y ad z0 n0 vt) : T ≤ 3001 := tgd_T h.1
/-- sameName -/
theorem same_36 (h : TQ K S G T zs im xI ps ms ik qz tm Y ad z0 n0 vt) {ta tb a1 a2 ln : Nat} (hta : ta < T) (htb : tb < T) (e1 : Zr S 6 ta = nI a1) (e2 : Zr S 6 tb = nI a2) (h1 : a1 + ln ≤ 3000) (h2 : a2 + ln ≤ 3000) : ∀ (n j : Nat), ln < j + n → j ≤ ln → Rt (f_sameName_36 K n S (nI ta) (nI tb) (nI ln) (nI j)) (fun S2 r => S2 = S ∧ (r = 0 ∨ r = 1))
  | 0, j, a, b => absurd a (by omega)
  | n + 1, j, a, b => by
    have hT := h.tb
    unfold f_sameName_36
    refine Rt.it (fun hc => Rt.zr (Or.inr rfl) ⟨rfl, Or.inr rfl⟩) (fun hc => ?_)
    have hj : j < ln := by
      rcases Nat.lt_or_ge j ln with z | z
      · exact z
      · exact absurd (nI_le z (by omega)) hc
    refine Rt.bd (rI_n (show ta < rlen 6 by show ta < 3002; omega) (by decide)) ?_
    rw [e1, nI_add]
    refine Rt.bd (rI_n (show a1 + j < rlen 0 by show a1 + j < 3000; omega) (by decide)) ?_
    refine Rt.bd (rI_n (show tb < rlen 6 by show tb < 3002; omega) (by decide)) ?_
    rw [e2, nI_add]
    refine Rt.bd (rI_n (show a2 + j < rlen 0 by show a2 + j < 3000; omega) (by decide)) ?_
    refine Rt.it (fun _ => ?_) (fun _ => Rt.zr (Or.inl rfl) ⟨rfl, Or.inl rfl⟩)
    rw [nI_1]
    exact same_36 h hta htb e1 e2 h1 h2 n (j + 1) (by omega) (by omega)
theorem sam_ (h : TQ K S G T zs im xI ps ms ik qz tm Y ad z0 n0 vt) {ta tb : Nat} (hta : ta < T) (htb : tb < T) : Rt (f_sameName K S (nI ta) (nI tb)) (fun S2 r => S2 = S ∧ (r = 0 ∨ r = 1)) := by
  have hT := h.tb
  obtain ⟨a1, b1, ea1, eb1, hab1, hbz1⟩ := tk_pl h.1.1.1 hta
  obtain ⟨a2, b2, ea2, eb2, hab2, hbz2⟩ := tk_pl h.1.1.1 htb
  have hz := h.1.1.2.1
  unfold f_sameName
  refine Rt.bd (rI_n (show ta < rlen 7 by show ta < 3002; omega) (by decide)) ?_
  refine Rt.bd (rI_n (show ta < rlen 6 by show ta < 3002; omega) (by decide)) ?_
  refine Rt.bd (rI_n (show tb < rlen 7 by show tb < 3002; omega) (by decide)) ?_
  refine Rt.bd (rI_n (show tb < rlen 6 by show tb < 3002; omega) (by decide)) ?_
  rw [ea1, eb1, ea2, eb2, nI_sb hab1, nI_sb hab2]
  refine Rt.it (fun hc => ?_) (fun _ => Rt.zr (Or.inl rfl) ⟨rfl, Or.inl rfl⟩)
  have hln : b2 - a2 = b1 - a1 := (nI_eq (by omega) (by omega)).mp hc
  exact same_36 h hta htb ea1 ea2 (by omega) (by omega) bigN 0 (by show _ < 0 + 1000000000000; omega) (by omega)
/-- isMain -/
theorem isMain_ (h : TQ K S G T zs im xI ps ms ik qz tm Y ad z0 n0 vt) {ta : Nat} (hta : ta < T) : Rt (f_isMain K S (nI ta)) (fun S2 r => S2 = S ∧ (r = 0 ∨ r = 1)) := by
  have hT := h.tb
  obtain ⟨a1, b1, ea1, eb1, hab1, hbz1⟩ := tk_pl h.1.1.1 hta
  have hz := h.1.1.2.1
  have h0 : Rt (f_isMain_73 K S) (fun S2 r => S2 = S ∧ (r = 0 ∨ r = 1)) := Rt.zr (Or.inl rfl) ⟨rfl, Or.inl rfl⟩
  unfold f_isMain
  refine Rt.bd (rI_n (show ta < rlen 6 by show ta < 3002; omega) (by decide)) ?_
  refine Rt.bd (rI_n (show ta < rlen 7 by show ta < 3002; omega) (by decide)) ?_
  rw [ea1, eb1, nI_sb hab1]
  refine Rt.it (fun hc => ?_) (fun _ => h0)
  have hln : b1 - a1 = 4 := (nI_eq (b := 4) (by omega) (by decide)).mp hc
  refine Rt.bd (rI_n (show a1 < rlen 0 by show a1 < 3000; omega) (by decide)) ?_
  refine Rt.it (fun _ => ?_) (fun _ => h0)
  refine Rt.bd (x := rI S 0 (nI a1 + 1)) (by rw [show nI a1 + 1 = nI (a1 + 1) from nI_add a1 1]; exact rI_n (show a1 + 1 < rlen 0 by show a1 + 1 < 3000; omega) (by decide)) ?_
  refine Rt.it (fun _ => ?_) (fun _ => h0)
  refine Rt.bd (x := rI S 0 (nI a1 + 2)) (by rw [show nI a1 + 2 = nI (a1 + 2) from nI_add a1 2]; exact rI_n (show a1 + 2 < rlen 0 by show a1 + 2 < 3000; omega) (by decide)) ?_
  refine Rt.it (fun _ => ?_) (fun _ => h0)
  refine Rt.bd (x := rI S 0 (nI a1 + 3)) (by rw [show nI a1 + 3 = nI (a1 + 3) from nI_add a1 3]; exact rI_n (show a1 + 3 < rlen 0 by show a1 + 3 < 3000; omega) (by decide)) ?_
  exact Rt.it (fun _ => Rt.zr (Or.inr rfl) ⟨rfl, Or.inr rfl⟩) (fun _ => h0)
end TQL
