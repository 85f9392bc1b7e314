section PS108
variable {R : yR} {S0 Sl S S1 S2 S3 : Sg} {mI fu hh : Nat} {vt : Nat → Nat → Nat} {tb : Nat → lTb} {g : Nat → Int32} {DD : Nat → fD} {G : Nat → Prop} {y : qY} {x : Nat → kFm} {Q : Sg → Unit → Prop}
/-- main begins -/
theorem kJ_ini {g : Nat} {H : Nat → Nat → Prop} {al : Nat → Prop} {lo : Nat → lLc → Prop} (hx : x 0 = (g, [], 0, (fun _ => none), H, al, lo, fun _ _ _ => False)) : kJ y vt tb 0 x (fun _ => 0) (fun _ _ => none) := by
  refine ⟨fun _ => qOk_none, ⟨fun j hj => ?_, fun o e q => ?_, fun j hj => absurd hj (by omega)⟩, fun j hj u a _ ha => ?_, fun j hj u t g hv => by simp at hv, fun j hj => ?_, fun j u π w hw => by simp at hw, fun j hj v v4 hv => ?_, fun j hj r m => ?_, fun j hj => ?_⟩
  · obtain rfl : j = 0 := by omega
    refine ⟨fun u a _ ha => ?_, fun u w a b _ _ _ ha => ?_⟩
    · have ha : kR (x 0) u = some a := ha
      rw [hx] at ha
      exact absurd ha (by show ¬ ((none : Option lLc) = some a); simp)
    · have ha : kR (x 0) u = some a := ha
      rw [hx] at ha
      exact absurd ha (by show ¬ ((none : Option lLc) = some a); simp)
  · show ¬ kAn (x 0) o e q
    rw [hx]; exact id
  · obtain rfl : j = 0 := by omega
    rw [hx] at ha
    exact absurd ha (by show ¬ ((none : Option lLc) = some a); simp)
  · obtain rfl : j = 0 := by omega
    rw [hx]; exact trivial
  · obtain rfl : j = 0 := by omega
    rw [hx] at hv
    exact absurd hv (by show ¬ (_ ∈ ([] : List tE)); simp)
  · obtain rfl : j = 0 := by omega
    rw [hx]
    exact ⟨fun q => absurd q (by show ¬ (_ ∈ ([] : List tE)); simp), fun q => absurd q (by show ¬ (_ ∈ ([] : List tE)); simp)⟩
  · obtain rfl : j = 0 := by omega
    rw [hx]; show wl [] ≤ 211; decide
/-- the rows of memory are made empty -/
def mI9 (Sl S1 S : Sg) : Prop := RNx Sl S ∧ (∀ j : Nat, j ≠ 64 → j ≠ 65 → j ≠ 73 → j ≠ 81 → j ≠ 76 → Zi S j = Zi S1 j) ∧ (Zi S 64 = nI 0 ∧ Zi S 65 = nI 0 ∧ Zi S 73 = nI 0 ∧ Zi S 81 = nI 0)
theorem mI9.rx (h : mI9 Sl S1 S) (hq : wq S1) (h86 : ∃ c : Nat, c ≤ 60 ∧ Zi S1 86 = nI c) (h66 : ∃ h : Nat, h ≤ 4000 ∧ Zi S1 66 = nI h) : RX Sl S := by
  obtain ⟨h1, h2, _, _, _, h5⟩ := h
  obtain ⟨c, c1, c2⟩ := h86
  obtain ⟨d, d1, d2⟩ := h66
  exact ⟨h1, hq.eq (h2 83 (by decide) (by decide) (by decide) (by decide) (by decide)) (h2 84 (by decide) (by decide) (by decide) (by decide) (by decide)), ⟨c, c1, (h2 86 (by decide) (by decide) (by decide) (by decide) (by decide)).trans c2⟩, ⟨d, d1, (h2 66 (by decide) (by decide) (by decide) (by decide) (by decide)).trans d2⟩, h5⟩
theorem rm27 (hh4 : hh ≤ 4000) (h66 : Zi S1 66 = nI hh) (kf : ∀ S : Sg, mI9 Sl S1 S → Rt (bnd (f_burn R.K S) fun S6 v7 =>
    bnd (f_ok R.K S6) fun S8 v9 =>
    if v9 = 0 then (some (S8, ())) else ((pM S8 76 1).bind fun S10 =>
    (rQ S10 11 (Zi S10 21)).bind fun v11 =>
    (oI S10 16 v11 5).bind fun v12 =>
    (pM S10 77 v12).bind fun S13 =>
    f_runMain_81 R.K bigN S13)) Q) : ∀ (r i d : Nat) (S : Sg), i + r = hh → r < d → mI9 Sl S1 S → Rt (f_runMain_27 R.K d S (nI i)) Q
  | r, i, 0, _, _, hd, _ => by omega
  | 0, i, d + 1, S, hi, hd, h => by
    obtain rfl : i = hh := by omega
    have e66 : Zi S 66 = nI i := (h.2.1 66 (by decide) (by decide) (by decide) (by decide) (by decide)).trans h66
    unfold f_runMain_27
    refine Rt.ip ?_ (kf S h)
    rw [e66]; exact nI_le (Nat.le_refl _) (by omega)
  | r + 1, i, d + 1, S, hi, hd, h => by
    have e66 : Zi S 66 = nI hh := (h.2.1 66 (by decide) (by decide) (by decide) (by decide) (by decide)).trans h66
    unfold f_runMain_27
    refine Rt.iq (fun w => ?_) ?_
    · rw [e66] at w
      have := (nI_leI (by omega) (by omega)).mp w
      omega
    · refine Rt.bd (wZ_n (show i < rlen 67 from Nat.lt_of_lt_of_le (by omega : i < 4000) (by decide)) (by decide) (Or.inl rfl)) ?_
      rw [nI_1]
      refine rm27 hh4 h66 kf r (i + 1) d _ (by omega) (by omega) ⟨⟨h.1.1, h.1.2.1, h.1.2.2.1, h.1.2.2.2.1, h.1.2.2.2.2.1, fun q hq => (Zr_u9 (by omega)).trans (h.1.2.2.2.2.2.1 q hq), h.1.2.2.2.2.2.2.1, h.1.2.2.2.2.2.2.2⟩, h.2.1, h.2.2⟩
theorem sm2_0 : sm2 (fun _ => 0) = 0 := by
  unfold sm2
  rw [psN_cg (w2 := fun _ => 0) (fun j _ => psN_z), psN_z]
/-- runMain -/
theorem rmn_ (hL : LFS R S0 g) (hx : LX S0 Sl) (hP : PRG R S0 Sl vt tb DD G) (hG : G mI) (hmn : (DD mI).mn = 0) (hr0 : RNx Sl S1) (h21 : Zi S1 21 = nI mI) (hm70 : mI < 70) (hfu : Zi S1 70 = nI fu) (hfu2 : fu ≤ 20000) (hq : wq S1) (h86 : ∃ c : Nat, c ≤ 60 ∧ Zi S1 86 = nI c) (h66 : ∃ h : Nat, h ≤ 4000 ∧ Zi S1 66 = nI h) : Rt (f_runMain R.K S1) (fun S2 _ => RX Sl S2) := by
  obtain ⟨hh, hh4, h669⟩ := h66
  have hy := nYk_of hL
  obtain ⟨⟨d1, d2, d3⟩, ⟨d4, d5⟩, d6, d7, d8, _, _⟩ := hP mI hG
  obtain ⟨gs, aw, cap, fv, hq11, hws, _⟩ := d8
  unfold f_runMain
  refine Rt.bd (v := Ui S1 64 0) rfl (Rt.bd (v := Ui (Ui S1 64 0) 65 0) rfl (Rt.bd (v := Ui (Ui (Ui S1 64 0) 65 0) 73 0) rfl (Rt.bd (v := Ui (Ui (Ui (Ui S1 64 0) 65 0) 73 0) 81 0) rfl (Rt.bd (v := Ui (Ui (Ui (Ui (Ui S1 64 0) 65 0) 73 0) 81 0) 76 0) rfl ?_))))
  refine rm27 hh4 h669 (fun S h => ?_) hh 0 bigN _ (by omega) (by unfold bigN; omega) ⟨hr0.tr ⟨rfl, rfl, ⟨rfl, rfl⟩, rfl, rfl, fun _ _ => rfl, fun _ _ => rfl, fun j hj _ => (Zi_n (by omega)).trans ((Zi_n (by omega)).trans ((Zi_n (by omega)).trans ((Zi_n (by omega)).trans (Zi_n (by omega)))))⟩, fun j q1 q2 q3 q4 q5 => (Zi_n q5).trans ((Zi_n q4).trans ((Zi_n q3).trans ((Zi_n q2).trans (Zi_n q1)))), ⟨(Zi_n (by decide)).trans ((Zi_n (by decide)).trans ((Zi_n (by decide)).trans ((Zi_n (by decide)).trans Zi_s))), (Zi_n (by decide)).trans ((Zi_n (by decide)).trans ((Zi_n (by decide)).trans Zi_s)), (Zi_n (by decide)).trans ((Zi_n (by decide)).trans Zi_s), (Zi_n (by decide)).trans Zi_s⟩⟩
  have hX := h.rx hq h86 ⟨hh, hh4, h669⟩
  have e70 : Zi S 70 = nI fu := (h.2.1 70 (by decide) (by decide) (by decide) (by decide) (by decide)).trans hfu
  have e21 : Zi S 21 = nI mI := (h.2.1 21 (by decide) (by decide) (by decide) (by decide) (by decide)).trans h21
  have hb : Rt (f_burn R.K S) (fun S2 _ => RX Sl S2 ∧ (Zi S2 3 ≠ 0 ∨ ∃ m : Nat, fu = m + 1 ∧ S2 = Ui S 70 (nI m))) := by
    unfold f_burn f_burn_26
    refine Rt.it (fun _ => Rt.bd (v := Ui S 3 8) rfl (Rt.rt ⟨hX.f3, Or.inl ?_⟩)) (fun w => ?_)
    · rw [show Zi (Ui S 3 8) 3 = 8 from Zi_s]; decide
    · cases fu with
      | zero => exact absurd e70 w
      | succ m =>
        exact Rt.bd (v := Ui S 70 (nI m)) (by rw [e70, nI_pred]; rfl) (Rt.rt ⟨hX.u70, Or.inr ⟨m, rfl, rfl⟩⟩)
  refine Rt.bn hb (fun S6 _ ⟨q1, q2⟩ => ?_)
  refine Rt.ok (fun h3 => ?_) (fun _ => Rt.rt q1)
  rcases q2 with q2 | ⟨m, q2, q3⟩
  · exact absurd h3 q2
  · subst q3
    have zi9 : ∀ j : Nat, j ≠ 70 → j ≠ 76 → Zi (Ui (Ui S 70 (nI m)) 76 (nI 1)) j = Zi S j := fun j a b => (Zi_n b).trans (Zi_n a)
    refine Rt.bd (v := Ui (Ui S 70 (nI m)) 76 (nI 1)) rfl ?_
    rw [show Zi (Ui (Ui S 70 (nI m)) 76 (nI 1)) 21 = nI mI from (zi9 21 (by decide) (by decide)).trans e21]
    refine Rt.bd (v := some (R.ws mI)) (by rw [rQ_n (show mI < rlen 11 from by show _ < 70; exact hm70) (by decide)]; show some (Zq S 11 mI) = _; rw [h.1.2.2.2.1, hq11]) ?_
    refine Rt.bd (v := nI (DD mI).Ps) (oI_mk (by show _ ∈ ZL S; rw [h.1.1]; exact hws.1) (by show ZF S _ = _; rw [h.1.2.1]; exact hws.2.1) hws.2.2.2.1) ?_
    refine Rt.bd (v := Ui (Ui (Ui S 70 (nI m)) 76 (nI 1)) 77 (nI (DD mI).Ps)) rfl ?_
    have hX7 : RX Sl (Ui (Ui (Ui S 70 (nI m)) 76 (nI 1)) 77 (nI (DD mI).Ps)) := (q1.mk (S2 := Ui (Ui S 70 (nI m)) 76 (nI 1)) ⟨rfl, rfl, ⟨rfl, rfl⟩, rfl, rfl, fun _ _ => rfl, fun _ _ => rfl, fun j hj _ => Zi_n (by omega)⟩ (q1.2.1.eq (Zi_n (by decide)) (Zi_n (by decide))) (Zi_n (by decide)) (Zi_n (by decide)) ((Zi_n (by decide)).trans q1.2.2.2.2)).u77
    have hst : (DD mI).st (DD mI).Ps = [] := by
      have := d1.1.1
      rw [hmn] at this
      exact wkS_8 (fun e he => by cases he) this
    refine run81 hL hx hP bigN (m * 50000 + wK (DD mI) (DD mI).Ps + 0) _ ?_ hX7 (Or.inr (Or.inr ⟨0, (DD mI).Ps, m, (fun _ => (mI, [], 0, (fun _ => none), HA R S0 mI (DD mI) (DD mI).Ps, (fun u => u < 40 ∧ AL (DD mI) (DD mI).Ps u), LO R S0 (DD mI) (DD mI).Ps, fun _ _ _ => False)), (fun _ => 0), (fun _ => 0), hG, ⟨⟨d1, ⟨Nat.le_refl _, d4, d1.2.1.1⟩, d1.1.2.1, by rw [hst]; exact fun e r z => (by cases z), d2⟩, d6 _ (Nat.le_refl _) d4, hX7, ⟨Zi_s, ?_, ?_⟩, by decide, ⟨rfl, by rw [hst]; rfl, rfl, rfl, rfl, rfl⟩, ⟨(fun _ => 0), (fun _ _ => none), (fun _ => []), (fun _ => []), (fun _ => []), [], 0, ⟨kJ_ini rfl, ⟨fun j u hj => ⟨fun _ z => (by cases z), fun a z => ?_, fun _ => ⟨rfl, rfl, rfl⟩⟩, fun _ _ _ => ⟨rfl, rfl, rfl⟩, ⟨rfl, fun j hj => absurd hj (Nat.not_lt_zero j)⟩, fun j u d π _ _ _ z => (by cases z)⟩, ⟨fun a => ?_, fun q => ?_⟩, ?_⟩, fun r1 m1 z => (by rw [hst] at z; cases z), fun q1 r1 m1 v1 ρ1 _ z => (by rw [hst] at z; cases z)⟩, fun j _ => (by show wl [] ≤ 177; decide), d7⟩, fun j hj => absurd hj (Nat.not_lt_zero j), ⟨?_, by omega⟩, rfl⟩))
    · have := wK_m (k := (DD mI).Ps) d5
      unfold bigN
      omega
    · rw [hst]
      exact (Zi_n (by decide)).trans ((zi9 73 (by decide) (by decide)).trans h.2.2.2.2.1)
    · exact (Zi_n (by decide)).trans Zi_s
    · have z : u < 40 + 0 := z
      omega
    · have e0 : sm2 (fun r : Nat × Nat => cnN a ((fun _ => ([] : List Nat)) r) + cnN a ((fun _ => ([] : List Nat)) r)) = 0 := sm2_0
      rw [e0]
      unfold ind
      rw [if_neg (by omega)]; rfl
    · have e0 : sm2 (fun r : Nat × Nat => cnN q ((fun _ => ([] : List Nat)) r)) = 0 := sm2_0
      rw [e0]
      exact ⟨by omega, fun w => by omega⟩
    · exact ⟨(Zi_n (by decide)).trans ((zi9 64 (by decide) (by decide)).trans h.2.2.1), by decide, ⟨0, (Zi_n (by decide)).trans ((zi9 65 (by decide) (by decide)).trans h.2.2.2.1), rfl⟩, List.nodup_nil, fun n hn => by cases hn⟩
    · exact (Zi_n (by decide)).trans ((Zi_n (by decide)).trans Zi_s)
end PS108
