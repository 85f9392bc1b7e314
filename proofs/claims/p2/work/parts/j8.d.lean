def wf_c_nol : List Cond := [.code yX23_noLife cX23_noLife 2 none, .code yX23_ok cX23_ok 1 (some .boolean), .fieldLink RX23 80 "OwnedPlacesModel" "fault" "I", .methodLink RX23 89 yX23_ok, .instanceMethod yX23_ok, .selects RX23 yX23_ok yX23_ok, .initialized RX23, .fieldLink RX23 116 "OwnedPlacesModel$Written" "kind" "I", .fieldLink RX23 122 "OwnedPlacesModel$Written" "life" "I", .code yX23_fail cX23_fail 3 none, .fieldLink RX23 31 "OwnedPlacesModel" "tokenAt" "[I", .fieldLink RX23 83 "OwnedPlacesModel" "faultAt" "I", .methodLink RX23 96 yX23_fail, .instanceMethod yX23_fail, .selects RX23 yX23_fail yX23_fail]
def wp_c_nol : List Cond := wf_c_nol ++ (wsX230 ++ (wsX220 ++ []))
theorem in_c_nol_X23 : ∀ w ∈ wsX230, w ∈ wp_c_nol := fun w h => List.mem_append_right _ (List.mem_append_left _ h)
theorem in_c_nol_X22 : ∀ w ∈ wsX220, w ∈ wp_c_nol := fun w h => List.mem_append_right _ (List.mem_append_right _ (List.mem_append_left _ h))
theorem wg_c_nol : wf_c_nol.all goodWord = true := by decide +kernel
theorem wm_c_nol (k : Nat) {w : Cond} (h : wp_c_nol[k]? = some w) : w ∈ wp_c_nol := List.mem_of_getElem? h
set_option maxRecDepth 20000 in
theorem g_c_nol_c_tok0_1 : GoodIn wp_c_nol (wsV RX23 89 RX23 yX23_ok wp_c_tok0) := goodIn_app (goodIn_f [.methodLink RX23 89 yX23_ok, .instanceMethod yX23_ok, .selects RX23 yX23_ok yX23_ok, .initialized RX23] [3, 4, 5, 6] rfl (by decide +kernel)) (goodIn_app (goodIn_f (wf_c_tok0) [1, 2] rfl wg_c_tok0) (goodIn_app (goodIn_sub in_c_nol_X23 gd_X23) (goodIn_n)))
set_option maxRecDepth 20000 in
theorem g_c_nol_c_tfa0_29 : GoodIn wp_c_nol (wsV RX23 96 RX23 yX23_fail wp_c_tfa0) := goodIn_app (goodIn_f [.methodLink RX23 96 yX23_fail, .instanceMethod yX23_fail, .selects RX23 yX23_fail yX23_fail, .initialized RX23] [12, 13, 14, 6] rfl (by decide +kernel)) (goodIn_app (goodIn_f (wf_c_tfa0) [9, 2, 10, 11] rfl wg_c_tfa0) (goodIn_app (goodIn_sub in_c_nol_X23 gd_X23) (goodIn_n)))
set_option maxHeartbeats 4000000 in
set_option maxRecDepth 100000 in
theorem c_nol (l : Launch) (dC : Nat → ClassId) (dI : Nat → Nat → Nat) (m9 : Nat) (mr : Nat → Nat) (mv : Nat → Int32) (vf : Value) (ff xa xm : Int32) (T im tm sc vm : Nat) (kI : ClassId) (fk fa fe ft : Nat → Int32) (zs : Nat) (L : List Nat) (F : Nat → va_E) (G : Nat → va_E) (kT : ClassId) (fy : Nat → Option Nat) (Y : Nat → Int32 × Int32 × Option Nat) (ad : Nat → Nat) (kE kS kB kA kV kW kP kM : ClassId) (fi : Nat → Option Nat) (xI ps ms : Nat → Nat) (ik : Nat → Int32) (qz : Nat) (wr pp qq n : Nat) (sz : Nat) (htg : tgd L F G fk fa fe T zs kE kI kS kB kA kV kW kT kP fi im xI ps ms ik qz fy tm Y ad) (hw_ : isT L G fk (n + 1) wr pp qq) (hqq : qq ≤ T) : Met l yX23_noLife wp_c_nol ({ frames := 1, cells := 0, slots := 0, locals := 22 }) (va_Pc [.ref m9, .ref wr] (fun U => U.heap.size = sz ∧ va_P (dC, dI) vwCl (([(m9, .inr (23, mT mr mv vf 0 xa (nI T) (nI im) (nI tm) xm (nI sc) (nI vm))), (mr 6, .inl (kI, 3002, .inl fa))] : va_W) ++ (sT L F)) U.heap ∧ va_K (dC, dI) vwCl [(kI, .int)] U ∧ va_D (fun _ => True) (([(m9, .inr (23, mT mr mv vf 0 xa (nI T) (nI im) (nI tm) xm (nI sc) (nI vm))), (mr 6, .inl (kI, 3002, .inl fa))] : va_W) ++ (sT L F)))) (va_Qv (fun _ : Unit => True) (fun (_ : Unit) (tS : State) => ∃ (ff2 : Int32) (xa2 : Int32), va_P (dC, dI) vwCl (([(m9, .inr (23, mT mr mv vf ff2 xa2 (nI T) (nI im) (nI tm) xm (nI sc) (nI vm))), (mr 6, .inl (kI, 3002, .inl fa))] : va_W) ++ (sT L F)) tS.heap ∧ va_K (dC, dI) vwCl [(kI, .int)] tS ∧ va_D (va_A (([(m9, .inr (23, mT mr mv vf 0 xa (nI T) (nI im) (nI tm) xm (nI sc) (nI vm))), (mr 6, .inl (kI, 3002, .inl fa))] : va_W) ++ (sT L F)) sz) (([(m9, .inr (23, mT mr mv vf ff2 xa2 (nI T) (nI im) (nI tm) xm (nI sc) (nI vm))), (mr 6, .inl (kI, 3002, .inl fa))] : va_W) ++ (sT L F))) (va_A (([(m9, .inr (23, mT mr mv vf 0 xa (nI T) (nI im) (nI tm) xm (nI sc) (nI vm))), (mr 6, .inl (kI, 3002, .inl fa))] : va_W) ++ (sT L F)) sz)) 0 0 (va_A (([(m9, .inr (23, mT mr mv vf 0 xa (nI T) (nI im) (nI tm) xm (nI sc) (nI vm))), (mr 6, .inl (kI, 3002, .inl fa))] : va_W) ++ (sT L F)) sz) := by
  refine Met.ofW (cc := cX23_noLife) (maxL := 2) (ret := none) (by decide) rfl ?_
  intro p e s m args below meth c s₁ B hml hv
  obtain ⟨rfl, hsz, hP, hK, hD0⟩ := hv
  have hx := B.exec
  have hb := B.bytes
  have hr := B.returns
  have hts := atoms_spec (ws := wp_c_nol) B.pre
  have hown : s.vm.findClass RX23 = some m.cls := findClass_of_methodNamed B.named
  have hlocks := B.notSynchronized
  subst hsz
  have hD := hD0.self (sz := s.heap.size)
  generalize hAe : va_A (([(m9, .inr (23, mT mr mv vf 0 xa (nI T) (nI im) (nI tm) xm (nI sc) (nI vm))), (mr 6, .inl (kI, 3002, .inl fa))] : va_W) ++ (sT L F)) s.heap.size = A at hD ⊢
  have hA : ∀ q : Nat, s.heap.size ≤ q → A q := fun q h => by rw [← hAe]; exact Or.inr h
  have hS : va_S A s.heap s.heap [] := va_S.rf
  have hP : va_P (dC, dI) vwCl (([(m9, .inr (23, mT mr mv vf 0 xa (nI T) (nI im) (nI tm) xm (nI sc) (nI vm))), (mr 6, .inl (kI, 3002, .inl fa))] : va_W) ++ (sT L F)) s.heap := hP
  have hl := lv_entry ([.ref m9, .ref wr]) (n := 2) (Nat.le_of_ble_eq_true rfl)
  rw [lg_entry_eq]
  generalize (lg_sl ([.ref m9, .ref wr]) ++ List.replicate (2 - (lg_sl ([.ref m9, .ref wr])).length) Slot.unset).toArray = ls at hl ⊢
  have hl : lv_has ls 2 [(0, .ref m9), (1, .ref wr)] := hl
  obtain ⟨hwm, vs9, hF9, hv0, hv1⟩ := isT_c hw_
  have hF8 := rl_st htg.2.1 hwm hF9 mtF_22
  have hT9 := tgd_T htg
  have hwl := isT_lt hw_
  refine lv_aload_n hx hb dX23_noLife_0 rfl (lv_at hl 0 rfl) ?_
  have hPc := hP.subF (f' := [(m9, .inr (23, mT mr mv vf 0 xa (nI T) (nI im) (nI tm) xm (nI sc) (nI vm)))]) [0] rfl
  have hDc := hD.subF (f' := [(m9, .inr (23, mT mr mv vf 0 xa (nI T) (nI im) (nI tm) xm (nI sc) (nI vm)))]) [0] (by decide) rfl
  have hKc := hK.sub (tys' := []) [] rfl
  have hFc := va_freeT (wc := [(m9, .inr (23, mT mr mv vf 0 xa (nI T) (nI im) (nI tm) xm (nI sc) (nI vm)))]) hD hS hA [0] rfl
  refine va_calli (va_runV (As := []) (rest := []) ⟨hx, hb, hml, hown, hts⟩ (c_tok0 l dC dI m9 mr mv vf xa xm T im tm sc vm kI s.heap.size) (cwV 0 hts g_c_nol_c_tok0_1 rfl rfl rfl (by decide +kernel) ⟨Nat.le_of_ble_eq_true rfl, Nat.le_of_ble_eq_true rfl⟩) ⟨fun a U g mk q => by obtain ⟨q0, q1, qP, qK, qD⟩ := q; exact ⟨q0, q1, qP, va_K.moved (u := U) (U := U.calling g mk a) (Vm.Alike.refl U.vm) qK, qD⟩, va_recv hKc hPc (ci := 23) (q0 := 0) rfl rfl, fun U hU hW => ⟨rfl, by rw [hU], by rw [hU]; exact hPc, va_K.moved hW.alike hKc, hDc.weaken (fun _ _ _ _ => trivial)⟩⟩ rfl rfl hl.1 rfl (lv_room (Nat.le_of_ble_eq_true rfl)) dX23_noLife_1 ⟨(show 0 + 0 ≤ 0 by omega), (show 0 + 0 ≤ 0 by omega)⟩) hS (fun q _ h => hFc q h) hFc (fun r_1 u tS H1 locs ht hvm hw hB hz1 hk1 hS => ?_)
  obtain ⟨hP1, hK1, hD1⟩ := hB
  rw [ht] at hP1
  have hK1 := va_K.moved hvm.symm hK1
  obtain ⟨hP, hD⟩ := va_joinT (wr := [(mr 6, .inl (kI, 3002, .inl fa))]) (w1 := [(m9, .inr (23, mT mr mv vf 0 xa (nI T) (nI im) (nI tm) xm (nI sc) (nI vm)))]) hP hD [0] [1] rfl rfl (by decide) (by decide) hk1 hFc hP1 hD1
  generalize H1 = H at hP hS ⊢
  have hP : va_P (dC, dI) vwCl (([(mr 6, .inl (kI, 3002, .inl fa)), (m9, .inr (23, mT mr mv vf 0 xa (nI T) (nI im) (nI tm) xm (nI sc) (nI vm)))] : va_W) ++ (sT L F)) H := hP
  have hD : va_D A (([(mr 6, .inl (kI, 3002, .inl fa)), (m9, .inr (23, mT mr mv vf 0 xa (nI T) (nI im) (nI tm) xm (nI sc) (nI vm)))] : va_W) ++ (sT L F)) := hD
  have hK : va_K (dC, dI) vwCl [(kI, .int)] s := hK
  clear hz1 hk1 hPc hDc hKc hFc hP1 hD1 hK1
  obtain rfl : r_1 = 1 := hw
  refine lv_if_eq (tgt := 32) hx hb dX23_noLife_4 (by decide) (fun c_2 => absurd c_2 (by decide)) (fun _ => ?_)
  refine lv_aload_n hx hb dX23_noLife_7 rfl (lv_at hl 1 rfl) ?_
  refine va_get (D := (dC, dI)) (ci := 22) (v := .int (fk pp)) (C := RX22) (T := TX22) (N := 5) hx hb hts in_c_nol_X22 hown hK (va_P.st hP hwm hF8) 0 rfl rfl 0 (by decide) (hts (.fieldLink RX23 116 "OwnedPlacesModel$Written" "kind" "I") (wm_c_nol 7 rfl)) (fun _ h9 => h9) hv0 dX23_noLife_8 ?_
  refine lv_bipush (v := 55) hx hb dX23_noLife_11 (by decide) ?_
  by_cases hk_3 : fk pp = 55
  · refine lv_icmp_ne (tgt := 32) hx hb dX23_noLife_13 (by decide) (fun c_4 => absurd c_4 (fun q9 => q9 hk_3)) (fun _ => ?_)
    refine lv_aload_n hx hb dX23_noLife_16 rfl (lv_at hl 1 rfl) ?_
    obtain ⟨o9, p9, mu9, lf9, vs8, hO1, hO2, hO3, hO4, hO6, hmu9, hlf9, hO5⟩ := isT_55 hw_ hk_3
    have hO7 := rl_st htg.2.1 hwm hO1 mtF_22
    have hlt9 := isT_lt hO5
    refine va_get (D := (dC, dI)) (ci := 22) (v := .int lf9) (C := RX22) (T := TX22) (N := 5) hx hb hts in_c_nol_X22 hown hK (va_P.st hP hwm hO7) 0 rfl rfl 3 (by decide) (hts (.fieldLink RX23 122 "OwnedPlacesModel$Written" "life" "I") (wm_c_nol 8 rfl)) (fun _ h9 => h9) hO3 dX23_noLife_17 ?_
    by_cases hq_5 : lf9 < 0
    · refine lv_if_lt (tgt := 32) hx hb dX23_noLife_20 (by decide) (fun _ => ?_) (fun c_6 => absurd hq_5 c_6)
      have hP9 := hP.subT (f' := [(m9, .inr (23, mT mr mv vf 0 xa (nI T) (nI im) (nI tm) xm (nI sc) (nI vm))), (mr 6, .inl (kI, 3002, .inl fa))]) [1, 0] rfl
      have hD9 := hD.subT (f' := [(m9, .inr (23, mT mr mv vf 0 xa (nI T) (nI im) (nI tm) xm (nI sc) (nI vm))), (mr 6, .inl (kI, 3002, .inl fa))]) [1, 0] (by decide) rfl
      have hK9 := hK.sub (tys' := [(kI, .int)]) [0] rfl
      exact W.vret hx hb hr (fun tS ht hW => ⟨⟨(), rfl, trivial, 0, xa, by rw [ht]; exact hP9, va_K.moved hW.alike hK9, hD9⟩, hS.F ht⟩) hS.2.2 dX23_noLife_32
    · have elf : lf9 = nI (pp + 1) := hlf9.resolve_left (fun q9 => hq_5 (by rw [q9]; decide))
      refine lv_if_lt (tgt := 32) hx hb dX23_noLife_20 (by decide) (fun c_6 => absurd c_6 hq_5) (fun _ => ?_)
      rw [elf] at hO3
      refine lv_aload_n hx hb dX23_noLife_23 rfl (lv_at hl 0 rfl) ?_
      refine lv_iconst (v := 4) hx hb dX23_noLife_24 (by decide) ?_
      refine lv_aload_n hx hb dX23_noLife_25 rfl (lv_at hl 1 rfl) ?_
      refine va_get (D := (dC, dI)) (ci := 22) (v := .int (nI (pp + 1))) (C := RX22) (T := TX22) (N := 5) hx hb hts in_c_nol_X22 hown hK (va_P.st hP hwm hO7) 0 rfl rfl 3 (by decide) (hts (.fieldLink RX23 122 "OwnedPlacesModel$Written" "life" "I") (wm_c_nol 8 rfl)) (fun _ h9 => h9) hO3 dX23_noLife_26 ?_
      have hPc := hP.subF (f' := [(m9, .inr (23, mT mr mv vf 0 xa (nI T) (nI im) (nI tm) xm (nI sc) (nI vm))), (mr 6, .inl (kI, 3002, .inl fa))]) [1, 0] rfl
      have hDc := hD.subF (f' := [(m9, .inr (23, mT mr mv vf 0 xa (nI T) (nI im) (nI tm) xm (nI sc) (nI vm))), (mr 6, .inl (kI, 3002, .inl fa))]) [1, 0] (by decide) rfl
      have hKc := hK.sub (tys' := [(kI, .int)]) [0] rfl
      have hFc := va_freeT (wc := [(m9, .inr (23, mT mr mv vf 0 xa (nI T) (nI im) (nI tm) xm (nI sc) (nI vm))), (mr 6, .inl (kI, 3002, .inl fa))]) hD hS hA [1, 0] rfl
      refine va_callv (va_runV (As := [.int 4, .int (nI (pp + 1))]) (rest := []) ⟨hx, hb, hml, hown, hts⟩ (c_tfa0 l dC dI m9 mr mv vf xa xm T im tm sc vm kI fa 4 (pp + 1) H.size (by omega)) (cwV 2 hts g_c_nol_c_tfa0_29 rfl rfl rfl (by decide +kernel) ⟨Nat.le_of_ble_eq_true rfl, Nat.le_of_ble_eq_true rfl⟩) ⟨fun a U g mk q => by obtain ⟨q0, q1, qP, qK, qD⟩ := q; exact ⟨q0, q1, qP, va_K.moved (u := U) (U := U.calling g mk a) (Vm.Alike.refl U.vm) qK, qD⟩, va_recv hKc hPc (ci := 23) (q0 := 0) rfl rfl, fun U hU hW => ⟨rfl, by rw [hU], by rw [hU]; exact hPc, va_K.moved hW.alike hKc, hDc.weaken (fun _ _ _ _ => trivial)⟩⟩ rfl rfl hl.1 rfl (lv_room (Nat.le_of_ble_eq_true rfl)) dX23_noLife_29 ⟨(show 0 + 0 ≤ 0 by omega), (show 0 + 0 ≤ 0 by omega)⟩) hS (fun q _ h => hFc q h) hFc (fun u tS H1 locs ht hvm hw hB hz1 hk1 hS => ?_)
      obtain ⟨hP1, hK1, hD1⟩ := hB
      rw [ht] at hP1
      have hK1 := va_K.moved hvm.symm hK1
      obtain ⟨hP, hD⟩ := va_joinT (wr := []) (w1 := [(m9, .inr (23, mT mr mv vf 4 (fa (pp + 1)) (nI T) (nI im) (nI tm) xm (nI sc) (nI vm))), (mr 6, .inl (kI, 3002, .inl fa))]) hP hD [1, 0] [] rfl rfl (by decide) (by decide) hk1 hFc hP1 hD1
      have hK := hK.app hK1
      generalize H1 = H at hP hS ⊢
      have hP : va_P (dC, dI) vwCl (([(m9, .inr (23, mT mr mv vf 4 (fa (pp + 1)) (nI T) (nI im) (nI tm) xm (nI sc) (nI vm))), (mr 6, .inl (kI, 3002, .inl fa))] : va_W) ++ (sT L F)) H := hP
      have hD : va_D A (([(m9, .inr (23, mT mr mv vf 4 (fa (pp + 1)) (nI T) (nI im) (nI tm) xm (nI sc) (nI vm))), (mr 6, .inl (kI, 3002, .inl fa))] : va_W) ++ (sT L F)) := hD
      have hK : va_K (dC, dI) vwCl [(kI, .int), (kI, .int)] s := hK
      have hK := hK.sub (tys' := [(kI, .int)]) [0] rfl
      clear hz1 hk1 hPc hDc hKc hFc hP1 hD1 hK1
      obtain ⟨fq7, efq7⟩ : ∃ zZ : Int32, zZ = 4 := ⟨_, rfl⟩
      obtain ⟨fx7, efx7⟩ : ∃ zZ : Int32, zZ = fa (pp + 1) := ⟨_, rfl⟩
      rw [← efx7] at hP hD
      have hhfq7 : fq7 ≠ 0 := by rw [efq7]; decide
      have hP : va_P (dC, dI) vwCl (([(m9, .inr (23, mT mr mv vf fq7 fx7 (nI T) (nI im) (nI tm) xm (nI sc) (nI vm))), (mr 6, .inl (kI, 3002, .inl fa))] : va_W) ++ (sT L F)) H := by rw [efq7]; exact hP
      have hD : va_D A (([(m9, .inr (23, mT mr mv vf fq7 fx7 (nI T) (nI im) (nI tm) xm (nI sc) (nI vm))), (mr 6, .inl (kI, 3002, .inl fa))] : va_W) ++ (sT L F)) := by rw [efq7]; exact hD
      clear efq7 efx7
      have hP9 := hP.subT (f' := [(m9, .inr (23, mT mr mv vf fq7 fx7 (nI T) (nI im) (nI tm) xm (nI sc) (nI vm))), (mr 6, .inl (kI, 3002, .inl fa))]) [0, 1] rfl
      have hD9 := hD.subT (f' := [(m9, .inr (23, mT mr mv vf fq7 fx7 (nI T) (nI im) (nI tm) xm (nI sc) (nI vm))), (mr 6, .inl (kI, 3002, .inl fa))]) [0, 1] (by decide) rfl
      have hK9 := hK.sub (tys' := [(kI, .int)]) [0] rfl
      exact W.vret hx hb hr (fun tS ht hW => ⟨⟨(), rfl, trivial, fq7, fx7, by rw [ht]; exact hP9, va_K.moved hW.alike hK9, hD9⟩, hS.F ht⟩) hS.2.2 dX23_noLife_32
  · refine lv_icmp_ne (tgt := 32) hx hb dX23_noLife_13 (by decide) (fun _ => ?_) (fun c_4 => absurd c_4 hk_3)
    have hP9 := hP.subT (f' := [(m9, .inr (23, mT mr mv vf 0 xa (nI T) (nI im) (nI tm) xm (nI sc) (nI vm))), (mr 6, .inl (kI, 3002, .inl fa))]) [1, 0] rfl
    have hD9 := hD.subT (f' := [(m9, .inr (23, mT mr mv vf 0 xa (nI T) (nI im) (nI tm) xm (nI sc) (nI vm))), (mr 6, .inl (kI, 3002, .inl fa))]) [1, 0] (by decide) rfl
    have hK9 := hK.sub (tys' := [(kI, .int)]) [0] rfl
    exact W.vret hx hb hr (fun tS ht hW => ⟨⟨(), rfl, trivial, 0, xa, by rw [ht]; exact hP9, va_K.moved hW.alike hK9, hD9⟩, hS.F ht⟩) hS.2.2 dX23_noLife_32
set_option maxRecDepth 20000 in
theorem g_c_nolB_c_tokB_1 : GoodIn wp_c_nol (wsV RX23 89 RX23 yX23_ok wp_c_tok0) := goodIn_app (goodIn_f [.methodLink RX23 89 yX23_ok, .instanceMethod yX23_ok, .selects RX23 yX23_ok yX23_ok, .initialized RX23] [3, 4, 5, 6] rfl (by decide +kernel)) (goodIn_app (goodIn_f (wf_c_tok0) [1, 2] rfl wg_c_tok0) (goodIn_app (goodIn_sub in_c_nol_X23 gd_X23) (goodIn_n)))
set_option maxHeartbeats 4000000 in
set_option maxRecDepth 100000 in
theorem c_nolB (l : Launch) (dC : Nat → ClassId) (dI : Nat → Nat → Nat) (m9 : Nat) (mr : Nat → Nat) (mv : Nat → Int32) (vf : Value) (ff xa xm : Int32) (T im tm sc vm : Nat) (kI : ClassId) (L : List Nat) (F : Nat → va_E) (wr : Nat) (fa : Nat → Int32) (sz : Nat) (hff : ff ≠ 0) : Met l yX23_noLife wp_c_nol ({ frames := 1, cells := 0, slots := 0, locals := 20 }) (va_Pc [.ref m9, .ref wr] (fun U => U.heap.size = sz ∧ va_P (dC, dI) vwCl (([(m9, .inr (23, mT mr mv vf ff xa (nI T) (nI im) (nI tm) xm (nI sc) (nI vm))), (mr 6, .inl (kI, 3002, .inl fa))] : va_W) ++ (sT L F)) U.heap ∧ va_K (dC, dI) vwCl [(kI, .int)] U ∧ va_D (fun _ => True) (([(m9, .inr (23, mT mr mv vf ff xa (nI T) (nI im) (nI tm) xm (nI sc) (nI vm))), (mr 6, .inl (kI, 3002, .inl fa))] : va_W) ++ (sT L F)))) (va_Qv (fun _ : Unit => True) (fun (_ : Unit) (tS : State) => va_P (dC, dI) vwCl (([(m9, .inr (23, mT mr mv vf ff xa (nI T) (nI im) (nI tm) xm (nI sc) (nI vm))), (mr 6, .inl (kI, 3002, .inl fa))] : va_W) ++ (sT L F)) tS.heap ∧ va_K (dC, dI) vwCl [(kI, .int)] tS ∧ va_D (va_A (([(m9, .inr (23, mT mr mv vf ff xa (nI T) (nI im) (nI tm) xm (nI sc) (nI vm))), (mr 6, .inl (kI, 3002, .inl fa))] : va_W) ++ (sT L F)) sz) (([(m9, .inr (23, mT mr mv vf ff xa (nI T) (nI im) (nI tm) xm (nI sc) (nI vm))), (mr 6, .inl (kI, 3002, .inl fa))] : va_W) ++ (sT L F))) (va_A (([(m9, .inr (23, mT mr mv vf ff xa (nI T) (nI im) (nI tm) xm (nI sc) (nI vm))), (mr 6, .inl (kI, 3002, .inl fa))] : va_W) ++ (sT L F)) sz)) 0 0 (va_A (([(m9, .inr (23, mT mr mv vf ff xa (nI T) (nI im) (nI tm) xm (nI sc) (nI vm))), (mr 6, .inl (kI, 3002, .inl fa))] : va_W) ++ (sT L F)) sz) := by
  refine Met.ofW (cc := cX23_noLife) (maxL := 2) (ret := none) (by decide) rfl ?_
  intro p e s m args below meth c s₁ B hml hv
  obtain ⟨rfl, hsz, hP, hK, hD0⟩ := hv
  have hx := B.exec
  have hb := B.bytes
  have hr := B.returns
  have hts := atoms_spec (ws := wp_c_nol) B.pre
  have hown : s.vm.findClass RX23 = some m.cls := findClass_of_methodNamed B.named
  have hlocks := B.notSynchronized
  subst hsz
  have hD := hD0.self (sz := s.heap.size)
  generalize hAe : va_A (([(m9, .inr (23, mT mr mv vf ff xa (nI T) (nI im) (nI tm) xm (nI sc) (nI vm))), (mr 6, .inl (kI, 3002, .inl fa))] : va_W) ++ (sT L F)) s.heap.size = A at hD ⊢
  have hA : ∀ q : Nat, s.heap.size ≤ q → A q := fun q h => by rw [← hAe]; exact Or.inr h
  have hS : va_S A s.heap s.heap [] := va_S.rf
  have hP : va_P (dC, dI) vwCl (([(m9, .inr (23, mT mr mv vf ff xa (nI T) (nI im) (nI tm) xm (nI sc) (nI vm))), (mr 6, .inl (kI, 3002, .inl fa))] : va_W) ++ (sT L F)) s.heap := hP
  have hl := lv_entry ([.ref m9, .ref wr]) (n := 2) (Nat.le_of_ble_eq_true rfl)
  rw [lg_entry_eq]
  generalize (lg_sl ([.ref m9, .ref wr]) ++ List.replicate (2 - (lg_sl ([.ref m9, .ref wr])).length) Slot.unset).toArray = ls at hl ⊢
  have hl : lv_has ls 2 [(0, .ref m9), (1, .ref wr)] := hl
  refine lv_aload_n hx hb dX23_noLife_0 rfl (lv_at hl 0 rfl) ?_
  have hPc := hP.subF (f' := [(m9, .inr (23, mT mr mv vf ff xa (nI T) (nI im) (nI tm) xm (nI sc) (nI vm)))]) [0] rfl
  have hDc := hD.subF (f' := [(m9, .inr (23, mT mr mv vf ff xa (nI T) (nI im) (nI tm) xm (nI sc) (nI vm)))]) [0] (by decide) rfl
  have hKc := hK.sub (tys' := []) [] rfl
  have hFc := va_freeT (wc := [(m9, .inr (23, mT mr mv vf ff xa (nI T) (nI im) (nI tm) xm (nI sc) (nI vm)))]) hD hS hA [0] rfl
  refine va_calli (va_runV (As := []) (rest := []) ⟨hx, hb, hml, hown, hts⟩ (c_tokB l dC dI m9 mr mv vf ff xa xm T im tm sc vm kI s.heap.size hff) (cwV 0 hts g_c_nolB_c_tokB_1 rfl rfl rfl (by decide +kernel) ⟨Nat.le_of_ble_eq_true rfl, Nat.le_of_ble_eq_true rfl⟩) ⟨fun a U g mk q => by obtain ⟨q0, q1, qP, qK, qD⟩ := q; exact ⟨q0, q1, qP, va_K.moved (u := U) (U := U.calling g mk a) (Vm.Alike.refl U.vm) qK, qD⟩, va_recv hKc hPc (ci := 23) (q0 := 0) rfl rfl, fun U hU hW => ⟨rfl, by rw [hU], by rw [hU]; exact hPc, va_K.moved hW.alike hKc, hDc.weaken (fun _ _ _ _ => trivial)⟩⟩ rfl rfl hl.1 rfl (lv_room (Nat.le_of_ble_eq_true rfl)) dX23_noLife_1 ⟨(show 0 + 0 ≤ 0 by omega), (show 0 + 0 ≤ 0 by omega)⟩) hS (fun q _ h => hFc q h) hFc (fun r_1 u tS H1 locs ht hvm hw hB hz1 hk1 hS => ?_)
  obtain ⟨hP1, hK1, hD1⟩ := hB
  rw [ht] at hP1
  have hK1 := va_K.moved hvm.symm hK1
  obtain ⟨hP, hD⟩ := va_joinT (wr := [(mr 6, .inl (kI, 3002, .inl fa))]) (w1 := [(m9, .inr (23, mT mr mv vf ff xa (nI T) (nI im) (nI tm) xm (nI sc) (nI vm)))]) hP hD [0] [1] rfl rfl (by decide) (by decide) hk1 hFc hP1 hD1
  generalize H1 = H at hP hS ⊢
  have hP : va_P (dC, dI) vwCl (([(mr 6, .inl (kI, 3002, .inl fa)), (m9, .inr (23, mT mr mv vf ff xa (nI T) (nI im) (nI tm) xm (nI sc) (nI vm)))] : va_W) ++ (sT L F)) H := hP
  have hD : va_D A (([(mr 6, .inl (kI, 3002, .inl fa)), (m9, .inr (23, mT mr mv vf ff xa (nI T) (nI im) (nI tm) xm (nI sc) (nI vm)))] : va_W) ++ (sT L F)) := hD
  have hK : va_K (dC, dI) vwCl [(kI, .int)] s := hK
  clear hz1 hk1 hPc hDc hKc hFc hP1 hD1 hK1
  obtain rfl : r_1 = 0 := hw
  refine lv_if_eq (tgt := 32) hx hb dX23_noLife_4 (by decide) (fun _ => ?_) (fun c_2 => absurd (by decide) c_2)
  have hP9 := hP.subT (f' := [(m9, .inr (23, mT mr mv vf ff xa (nI T) (nI im) (nI tm) xm (nI sc) (nI vm))), (mr 6, .inl (kI, 3002, .inl fa))]) [1, 0] rfl
  have hD9 := hD.subT (f' := [(m9, .inr (23, mT mr mv vf ff xa (nI T) (nI im) (nI tm) xm (nI sc) (nI vm))), (mr 6, .inl (kI, 3002, .inl fa))]) [1, 0] (by decide) rfl
  have hK9 := hK.sub (tys' := [(kI, .int)]) [0] rfl
  exact W.vret hx hb hr (fun tS ht hW => ⟨⟨(), rfl, trivial, by rw [ht]; exact hP9, va_K.moved hW.alike hK9, hD9⟩, hS.F ht⟩) hS.2.2 dX23_noLife_32
