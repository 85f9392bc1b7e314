def wf_c_lif : List Cond := [.code yX23_lifeIn cX23_lifeIn 4 (some .int), .code yX23_ok cX23_ok 1 (some .boolean), .fieldLink RX23 80 "OwnedPlacesModel" "fault" "I", .methodLink RX23 89 yX23_ok, .instanceMethod yX23_ok, .selects RX23 yX23_ok yX23_ok, .initialized RX23, .fieldLink RX23 116 "OwnedPlacesModel$Written" "kind" "I", .fieldLink RX23 122 "OwnedPlacesModel$Written" "life" "I", .fieldLink RX23 184 "OwnedPlacesModel$Item" "lives" "I", .code yX23_fail cX23_fail 3 none, .fieldLink RX23 31 "OwnedPlacesModel" "tokenAt" "[I", .fieldLink RX23 83 "OwnedPlacesModel" "faultAt" "I", .methodLink RX23 96 yX23_fail, .instanceMethod yX23_fail, .selects RX23 yX23_fail yX23_fail, .fieldLink RX23 187 "OwnedPlacesModel$Item" "life" "[I", .code yX23_sameName cX23_sameName 5 (some .boolean), .fieldLink RX23 34 "OwnedPlacesModel" "tokenEnd" "[I", .fieldLink RX23 7 "OwnedPlacesModel" "text" "[I", .methodLink RX23 401 yX23_sameName, .instanceMethod yX23_sameName, .selects RX23 yX23_sameName yX23_sameName]
def wp_c_lif : List Cond := wf_c_lif ++ (wsX230 ++ (wsX220 ++ (wsX160 ++ [])))
theorem in_c_lif_X23 : ∀ w ∈ wsX230, w ∈ wp_c_lif := fun w h => List.mem_append_right _ (List.mem_append_left _ h)
theorem in_c_lif_X22 : ∀ w ∈ wsX220, w ∈ wp_c_lif := fun w h => List.mem_append_right _ (List.mem_append_right _ (List.mem_append_left _ h))
theorem in_c_lif_X16 : ∀ w ∈ wsX160, w ∈ wp_c_lif := fun w h => List.mem_append_right _ (List.mem_append_right _ (List.mem_append_right _ (List.mem_append_left _ h)))
theorem wg_c_lif : wf_c_lif.all goodWord = true := by decide +kernel
theorem wm_c_lif (k : Nat) {w : Cond} (h : wp_c_lif[k]? = some w) : w ∈ wp_c_lif := List.mem_of_getElem? h
set_option maxRecDepth 20000 in
theorem g_c_lif_c_tok0_1 : GoodIn wp_c_lif (wsV RX23 89 RX23 yX23_ok wp_c_tok0) := goodIn_app (goodIn_f [.methodLink RX23 89 yX23_ok, .instanceMethod yX23_ok, .selects RX23 yX23_ok yX23_ok, .initialized RX23] [3, 4, 5, 6] rfl (by decide +kernel)) (goodIn_app (goodIn_f (wf_c_tok0) [1, 2] rfl wg_c_tok0) (goodIn_app (goodIn_sub in_c_lif_X23 gd_X23) (goodIn_n)))
set_option maxRecDepth 20000 in
theorem g_c_lif_c_tfa0_66 : GoodIn wp_c_lif (wsV RX23 96 RX23 yX23_fail wp_c_tfa0) := goodIn_app (goodIn_f [.methodLink RX23 96 yX23_fail, .instanceMethod yX23_fail, .selects RX23 yX23_fail yX23_fail, .initialized RX23] [13, 14, 15, 6] rfl (by decide +kernel)) (goodIn_app (goodIn_f (wf_c_tfa0) [10, 2, 11, 12] rfl wg_c_tfa0) (goodIn_app (goodIn_sub in_c_lif_X23 gd_X23) (goodIn_n)))
set_option maxRecDepth 20000 in
theorem g_c_lif_c_sam_46 : GoodIn wp_c_lif (wsV RX23 401 RX23 yX23_sameName wp_c_sam) := goodIn_app (goodIn_f [.methodLink RX23 401 yX23_sameName, .instanceMethod yX23_sameName, .selects RX23 yX23_sameName yX23_sameName, .initialized RX23] [20, 21, 22, 6] rfl (by decide +kernel)) (goodIn_app (goodIn_f (wf_c_sam) [17, 18, 11, 19] rfl wg_c_sam) (goodIn_app (goodIn_sub in_c_lif_X23 gd_X23) (goodIn_n)))
set_option maxHeartbeats 4000000 in
set_option maxRecDepth 100000 in
theorem c_lif (l : Launch) (dC : Nat → ClassId) (dI : Nat → Nat → Nat) (m9 : Nat) (mr : Nat → Nat) (mv : Nat → Int32) (vf : Value) (ff xa xm : Int32) (T im tm sc vm : Nat) (kI : ClassId) (fk fa fe ft : Nat → Int32) (zs : Nat) (L : List Nat) (F : Nat → va_E) (G : Nat → va_E) (kT : ClassId) (fy : Nat → Option Nat) (Y : Nat → Int32 × Int32 × Option Nat) (ad : Nat → Nat) (kE kS kB kA kV kW kP kM : ClassId) (fi : Nat → Option Nat) (xI ps ms : Nat → Nat) (ik : Nat → Int32) (qz : Nat) (ii wr pp qq n : Nat) (sz : Nat) (htg : tgd L F G fk fa fe T zs kE kI kS kB kA kV kW kT kP fi im xI ps ms ik qz fy tm Y ad) (hw_ : isT L G fk (n + 1) wr pp qq) (hqq : qq ≤ T) (hii : ii < im) (hk12 : ik ii = 12) : Met l yX23_lifeIn wp_c_lif ({ frames := 1, cells := 0, slots := 0, locals := 24 }) (va_Pc [.ref m9, .ref (xI ii), .ref wr] (fun U => U.heap.size = sz ∧ va_P (dC, dI) vwCl (([(m9, .inr (23, mT mr mv vf 0 xa (nI T) (nI im) (nI tm) xm (nI sc) (nI vm))), (mr 6, .inl (kI, 3002, .inl fa)), (mr 7, .inl (kI, 3002, .inl fe)), (mr 0, .inl (kI, 3000, .inl ft))] : va_W) ++ (sT L F)) U.heap ∧ va_K (dC, dI) vwCl [(kI, .int)] U ∧ va_D (fun _ => True) (([(m9, .inr (23, mT mr mv vf 0 xa (nI T) (nI im) (nI tm) xm (nI sc) (nI vm))), (mr 6, .inl (kI, 3002, .inl fa)), (mr 7, .inl (kI, 3002, .inl fe)), (mr 0, .inl (kI, 3000, .inl ft))] : va_W) ++ (sT L F)))) (va_Qi (fun (r : Int32) (_ : Unit) => r = -1 ∨ ∃ j : Nat, j < 8 ∧ r = nI j) (fun (_ : Unit) (tS : State) => ∃ (ff2 : Int32) (xa2 : Int32), va_P (dC, dI) vwCl (([(m9, .inr (23, mT mr mv vf ff2 xa2 (nI T) (nI im) (nI tm) xm (nI sc) (nI vm))), (mr 6, .inl (kI, 3002, .inl fa)), (mr 7, .inl (kI, 3002, .inl fe)), (mr 0, .inl (kI, 3000, .inl ft))] : va_W) ++ (sT L F)) tS.heap ∧ va_K (dC, dI) vwCl [(kI, .int)] tS ∧ va_D (va_A (([(m9, .inr (23, mT mr mv vf 0 xa (nI T) (nI im) (nI tm) xm (nI sc) (nI vm))), (mr 6, .inl (kI, 3002, .inl fa)), (mr 7, .inl (kI, 3002, .inl fe)), (mr 0, .inl (kI, 3000, .inl ft))] : va_W) ++ (sT L F)) sz) (([(m9, .inr (23, mT mr mv vf ff2 xa2 (nI T) (nI im) (nI tm) xm (nI sc) (nI vm))), (mr 6, .inl (kI, 3002, .inl fa)), (mr 7, .inl (kI, 3002, .inl fe)), (mr 0, .inl (kI, 3000, .inl ft))] : va_W) ++ (sT L F))) (va_A (([(m9, .inr (23, mT mr mv vf 0 xa (nI T) (nI im) (nI tm) xm (nI sc) (nI vm))), (mr 6, .inl (kI, 3002, .inl fa)), (mr 7, .inl (kI, 3002, .inl fe)), (mr 0, .inl (kI, 3000, .inl ft))] : va_W) ++ (sT L F)) sz)) 0 0 (va_A (([(m9, .inr (23, mT mr mv vf 0 xa (nI T) (nI im) (nI tm) xm (nI sc) (nI vm))), (mr 6, .inl (kI, 3002, .inl fa)), (mr 7, .inl (kI, 3002, .inl fe)), (mr 0, .inl (kI, 3000, .inl ft))] : va_W) ++ (sT L F)) sz) := by
  refine Met.ofW (cc := cX23_lifeIn) (maxL := 4) (ret := (some .int)) (by decide) rfl ?_
  intro p e s m args below meth c s₁ B hml hv
  obtain ⟨rfl, hsz, hP, hK, hD0⟩ := hv
  have hx := B.exec
  have hb := B.bytes
  have hr := B.returns
  have hts := atoms_spec (ws := wp_c_lif) B.pre
  have hown : s.vm.findClass RX23 = some m.cls := findClass_of_methodNamed B.named
  have hlocks := B.notSynchronized
  subst hsz
  have hD := hD0.self (sz := s.heap.size)
  generalize hAe : va_A (([(m9, .inr (23, mT mr mv vf 0 xa (nI T) (nI im) (nI tm) xm (nI sc) (nI vm))), (mr 6, .inl (kI, 3002, .inl fa)), (mr 7, .inl (kI, 3002, .inl fe)), (mr 0, .inl (kI, 3000, .inl ft))] : va_W) ++ (sT L F)) s.heap.size = A at hD ⊢
  have hA : ∀ q : Nat, s.heap.size ≤ q → A q := fun q h => by rw [← hAe]; exact Or.inr h
  have hS : va_S A s.heap s.heap [] := va_S.rf
  have hP : va_P (dC, dI) vwCl (([(m9, .inr (23, mT mr mv vf 0 xa (nI T) (nI im) (nI tm) xm (nI sc) (nI vm))), (mr 6, .inl (kI, 3002, .inl fa)), (mr 7, .inl (kI, 3002, .inl fe)), (mr 0, .inl (kI, 3000, .inl ft))] : va_W) ++ (sT L F)) s.heap := hP
  have hl := lv_entry ([.ref m9, .ref (xI ii), .ref wr]) (n := 4) (Nat.le_of_ble_eq_true rfl)
  rw [lg_entry_eq]
  generalize (lg_sl ([.ref m9, .ref (xI ii), .ref wr]) ++ List.replicate (4 - (lg_sl ([.ref m9, .ref (xI ii), .ref wr])).length) Slot.unset).toArray = ls at hl ⊢
  have hl : lv_has ls 4 [(0, .ref m9), (1, .ref (xI ii)), (2, .ref wr)] := hl
  obtain ⟨hwm, vs9, hF9, hv0, hv1⟩ := isT_c hw_
  have hF8 := rl_st htg.2.1 hwm hF9 mtF_22
  have hT9 := tgd_T htg
  have hwl := isT_lt hw_
  obtain ⟨lv, lf, gl, gs, hg1, hg2, hg3, hg4, hg5, hg6, hg7⟩ := it_lv htg hii hk12
  have hxm : xI ii ∈ L := (it_nm htg hii).1
  refine lv_aload_n hx hb dX23_lifeIn_0 rfl (lv_at hl 0 rfl) ?_
  have hPc := hP.subF (f' := [(m9, .inr (23, mT mr mv vf 0 xa (nI T) (nI im) (nI tm) xm (nI sc) (nI vm)))]) [0] rfl
  have hDc := hD.subF (f' := [(m9, .inr (23, mT mr mv vf 0 xa (nI T) (nI im) (nI tm) xm (nI sc) (nI vm)))]) [0] (by decide) rfl
  have hKc := hK.sub (tys' := []) [] rfl
  have hFc := va_freeT (wc := [(m9, .inr (23, mT mr mv vf 0 xa (nI T) (nI im) (nI tm) xm (nI sc) (nI vm)))]) hD hS hA [0] rfl
  refine va_calli (va_runV (As := []) (rest := []) ⟨hx, hb, hml, hown, hts⟩ (c_tok0 l dC dI m9 mr mv vf xa xm T im tm sc vm kI s.heap.size) (cwV 0 hts g_c_lif_c_tok0_1 rfl rfl rfl (by decide +kernel) ⟨Nat.le_of_ble_eq_true rfl, Nat.le_of_ble_eq_true rfl⟩) ⟨fun a U g mk q => by obtain ⟨q0, q1, qP, qK, qD⟩ := q; exact ⟨q0, q1, qP, va_K.moved (u := U) (U := U.calling g mk a) (Vm.Alike.refl U.vm) qK, qD⟩, va_recv hKc hPc (ci := 23) (q0 := 0) rfl rfl, fun U hU hW => ⟨rfl, by rw [hU], by rw [hU]; exact hPc, va_K.moved hW.alike hKc, hDc.weaken (fun _ _ _ _ => trivial)⟩⟩ rfl rfl hl.1 rfl (lv_room (Nat.le_of_ble_eq_true rfl)) dX23_lifeIn_1 ⟨(show 0 + 0 ≤ 0 by omega), (show 0 + 0 ≤ 0 by omega)⟩) hS (fun q _ h => hFc q h) hFc (fun r_1 u tS H1 locs ht hvm hw hB hz1 hk1 hS => ?_)
  obtain ⟨hP1, hK1, hD1⟩ := hB
  rw [ht] at hP1
  have hK1 := va_K.moved hvm.symm hK1
  obtain ⟨hP, hD⟩ := va_joinT (wr := [(mr 6, .inl (kI, 3002, .inl fa)), (mr 7, .inl (kI, 3002, .inl fe)), (mr 0, .inl (kI, 3000, .inl ft))]) (w1 := [(m9, .inr (23, mT mr mv vf 0 xa (nI T) (nI im) (nI tm) xm (nI sc) (nI vm)))]) hP hD [0] [1, 2, 3] rfl rfl (by decide) (by decide) hk1 hFc hP1 hD1
  generalize H1 = H at hP hS ⊢
  have hP : va_P (dC, dI) vwCl (([(mr 6, .inl (kI, 3002, .inl fa)), (mr 7, .inl (kI, 3002, .inl fe)), (mr 0, .inl (kI, 3000, .inl ft)), (m9, .inr (23, mT mr mv vf 0 xa (nI T) (nI im) (nI tm) xm (nI sc) (nI vm)))] : va_W) ++ (sT L F)) H := hP
  have hD : va_D A (([(mr 6, .inl (kI, 3002, .inl fa)), (mr 7, .inl (kI, 3002, .inl fe)), (mr 0, .inl (kI, 3000, .inl ft)), (m9, .inr (23, mT mr mv vf 0 xa (nI T) (nI im) (nI tm) xm (nI sc) (nI vm)))] : va_W) ++ (sT L F)) := hD
  have hK : va_K (dC, dI) vwCl [(kI, .int)] s := hK
  clear hz1 hk1 hPc hDc hKc hFc hP1 hD1 hK1
  obtain rfl : r_1 = 1 := hw
  refine lv_if_eq (tgt := 23) hx hb dX23_lifeIn_4 (by decide) (fun c_2 => absurd c_2 (by decide)) (fun _ => ?_)
  refine lv_aload_n hx hb dX23_lifeIn_7 rfl (lv_at hl 2 rfl) ?_
  refine va_get (D := (dC, dI)) (ci := 22) (v := .int (fk pp)) (C := RX22) (T := TX22) (N := 5) hx hb hts in_c_lif_X22 hown hK (va_P.st hP hwm hF8) 0 rfl rfl 0 (by decide) (hts (.fieldLink RX23 116 "OwnedPlacesModel$Written" "kind" "I") (wm_c_lif 7 rfl)) (fun _ h9 => h9) hv0 dX23_lifeIn_8 ?_
  refine lv_bipush (v := 55) hx hb dX23_lifeIn_11 (by decide) ?_
  by_cases hk_3 : fk pp = 55
  · refine lv_icmp_ne (tgt := 23) hx hb dX23_lifeIn_13 (by decide) (fun c_4 => absurd c_4 (fun q9 => q9 hk_3)) (fun _ => ?_)
    refine lv_aload_n hx hb dX23_lifeIn_16 rfl (lv_at hl 2 rfl) ?_
    obtain ⟨o9, p9, mu9, lf9, vs8, hO1, hO2, hO3, hO4, hO6, hmu9, hlf9, hO5⟩ := isT_55 hw_ hk_3
    have hO7 := rl_st htg.2.1 hwm hO1 mtF_22
    have hlt9 := isT_lt hO5
    refine va_get (D := (dC, dI)) (ci := 22) (v := .int lf9) (C := RX22) (T := TX22) (N := 5) hx hb hts in_c_lif_X22 hown hK (va_P.st hP hwm hO7) 0 rfl rfl 3 (by decide) (hts (.fieldLink RX23 122 "OwnedPlacesModel$Written" "life" "I") (wm_c_lif 8 rfl)) (fun _ h9 => h9) hO3 dX23_lifeIn_17 ?_
    by_cases hq_5 : lf9 < 0
    · refine lv_if_ge (tgt := 25) hx hb dX23_lifeIn_20 (by decide) (fun c_6 => absurd c_6 (Int32.not_le.mpr hq_5)) (fun _ => ?_)
      refine lv_iconst (v := (-1)) hx hb dX23_lifeIn_23 (by decide) ?_
      have hP9 := hP.subT (f' := [(m9, .inr (23, mT mr mv vf 0 xa (nI T) (nI im) (nI tm) xm (nI sc) (nI vm))), (mr 6, .inl (kI, 3002, .inl fa)), (mr 7, .inl (kI, 3002, .inl fe)), (mr 0, .inl (kI, 3000, .inl ft))]) [3, 0, 1, 2] rfl
      have hD9 := hD.subT (f' := [(m9, .inr (23, mT mr mv vf 0 xa (nI T) (nI im) (nI tm) xm (nI sc) (nI vm))), (mr 6, .inl (kI, 3002, .inl fa)), (mr 7, .inl (kI, 3002, .inl fe)), (mr 0, .inl (kI, 3000, .inl ft))]) [3, 0, 1, 2] (by decide) rfl
      have hK9 := hK.sub (tys' := [(kI, .int)]) [0] rfl
      exact W.iret (v := (-1)) hx hb hr (fun tS ht hW => ⟨⟨(-1), (), rfl, Or.inl rfl, 0, xa, by rw [ht]; exact hP9, va_K.moved hW.alike hK9, hD9⟩, hS.F ht⟩) hS.2.2 dX23_lifeIn_24
    · have elf : lf9 = nI (pp + 1) := hlf9.resolve_left (fun q9 => hq_5 (by rw [q9]; decide))
      refine lv_if_ge (tgt := 25) hx hb dX23_lifeIn_20 (by decide) (fun _ => ?_) (fun c_6 => absurd (Int32.not_lt.mp hq_5) c_6)
      rw [elf] at hO3
      refine lv_iconst (v := 0) hx hb dX23_lifeIn_25 (by decide) ?_
      refine lv_istore_n (lv' := [(3, .int 0), (0, .ref m9), (1, .ref (xI ii)), (2, .ref wr)]) hx hb dX23_lifeIn_26 rfl hl (by decide) rfl (fun ls hl => ?_)
      refine W_q (fun Q1 hQ1 => ?_)
      have key1 : ∀ (n1 : Nat) (i : Nat) (H : Heap) (locs : List Loc) (ls : Array Slot), (i + n1 = lv + 1 ∧ i ≤ lv) → va_P (dC, dI) vwCl (([(mr 6, .inl (kI, 3002, .inl fa)), (mr 7, .inl (kI, 3002, .inl fe)), (mr 0, .inl (kI, 3000, .inl ft)), (m9, .inr (23, mT mr mv vf 0 xa (nI T) (nI im) (nI tm) xm (nI sc) (nI vm)))] : va_W) ++ (sT L F)) H → va_D A (([(mr 6, .inl (kI, 3002, .inl fa)), (mr 7, .inl (kI, 3002, .inl fe)), (mr 0, .inl (kI, 3000, .inl ft)), (m9, .inr (23, mT mr mv vf 0 xa (nI T) (nI im) (nI tm) xm (nI sc) (nI vm)))] : va_W) ++ (sT L F)) → va_S A s.heap H locs → lv_has ls 4 [(3, .int (nI i)), (0, .ref m9), (1, .ref (xI ii)), (2, .ref wr)] → W p l e (headSpec wp_c_lif ({ frames := 1, cells := 0, slots := 0, locals := 24 })).room s m ([.ref m9, .ref (xI ii), .ref wr] : List Value).toArray below meth c H locs 0 0 Q1 (F0 m 27 ls []) := by
        intro n1
        induction n1 with
        | zero => intro i H locs ls hr0; exact absurd hr0 (by omega)
        | succ n1 ih1 =>
          intro i H locs ls hr0 hP hD hS hl
          refine lv_iload_n hx hb dX23_lifeIn_27 rfl (lv_at hl 0 rfl) ?_
          refine lv_aload_n hx hb dX23_lifeIn_28 rfl (lv_at hl 2 rfl) ?_
          refine va_get (D := (dC, dI)) (ci := 16) (v := .int (nI lv)) (C := RX16) (T := TX16) (N := 22) hx hb hts in_c_lif_X16 hown hK (va_P.st hP hxm hg1) 0 rfl rfl 6 (by decide) (hts (.fieldLink RX23 184 "OwnedPlacesModel$Item" "lives" "I") (wm_c_lif 9 rfl)) (fun _ h9 => h9) hg2 dX23_lifeIn_29 ?_
          refine lv_icmp_ge (tgt := 60) hx hb dX23_lifeIn_32 (by decide) (fun hk => ?_) (fun hk => ?_)
          · refine lv_aload_n hx hb dX23_lifeIn_60 rfl (lv_at hl 1 rfl) ?_
            refine lv_iconst (v := 3) hx hb dX23_lifeIn_61 (by decide) ?_
            refine lv_aload_n hx hb dX23_lifeIn_62 rfl (lv_at hl 3 rfl) ?_
            refine va_get (D := (dC, dI)) (ci := 22) (v := .int (nI (pp + 1))) (C := RX22) (T := TX22) (N := 5) hx hb hts in_c_lif_X22 hown hK (va_P.st hP hwm hO7) 0 rfl rfl 3 (by decide) (hts (.fieldLink RX23 122 "OwnedPlacesModel$Written" "life" "I") (wm_c_lif 8 rfl)) (fun _ h9 => h9) hO3 dX23_lifeIn_63 ?_
            have hPc := hP.subF (f' := [(m9, .inr (23, mT mr mv vf 0 xa (nI T) (nI im) (nI tm) xm (nI sc) (nI vm))), (mr 6, .inl (kI, 3002, .inl fa))]) [3, 0] rfl
            have hDc := hD.subF (f' := [(m9, .inr (23, mT mr mv vf 0 xa (nI T) (nI im) (nI tm) xm (nI sc) (nI vm))), (mr 6, .inl (kI, 3002, .inl fa))]) [3, 0] (by decide) rfl
            have hKc := hK.sub (tys' := [(kI, .int)]) [0] rfl
            have hFc := va_freeT (wc := [(m9, .inr (23, mT mr mv vf 0 xa (nI T) (nI im) (nI tm) xm (nI sc) (nI vm))), (mr 6, .inl (kI, 3002, .inl fa))]) hD hS hA [3, 0] rfl
            refine va_callv (va_runV (As := [.int 3, .int (nI (pp + 1))]) (rest := []) ⟨hx, hb, hml, hown, hts⟩ (c_tfa0 l dC dI m9 mr mv vf xa xm T im tm sc vm kI fa 3 (pp + 1) H.size (by omega)) (cwV 2 hts g_c_lif_c_tfa0_66 rfl rfl rfl (by decide +kernel) ⟨Nat.le_of_ble_eq_true rfl, Nat.le_of_ble_eq_true rfl⟩) ⟨fun a U g mk q => by obtain ⟨q0, q1, qP, qK, qD⟩ := q; exact ⟨q0, q1, qP, va_K.moved (u := U) (U := U.calling g mk a) (Vm.Alike.refl U.vm) qK, qD⟩, va_recv hKc hPc (ci := 23) (q0 := 0) rfl rfl, fun U hU hW => ⟨rfl, by rw [hU], by rw [hU]; exact hPc, va_K.moved hW.alike hKc, hDc.weaken (fun _ _ _ _ => trivial)⟩⟩ rfl rfl hl.1 rfl (lv_room (Nat.le_of_ble_eq_true rfl)) dX23_lifeIn_66 ⟨(show 0 + 0 ≤ 0 by omega), (show 0 + 0 ≤ 0 by omega)⟩) hS (fun q _ h => hFc q h) hFc (fun u tS H1 locs ht hvm hw hB hz1 hk1 hS => ?_)
            obtain ⟨hP1, hK1, hD1⟩ := hB
            rw [ht] at hP1
            have hK1 := va_K.moved hvm.symm hK1
            obtain ⟨hP, hD⟩ := va_joinT (wr := [(mr 7, .inl (kI, 3002, .inl fe)), (mr 0, .inl (kI, 3000, .inl ft))]) (w1 := [(m9, .inr (23, mT mr mv vf 3 (fa (pp + 1)) (nI T) (nI im) (nI tm) xm (nI sc) (nI vm))), (mr 6, .inl (kI, 3002, .inl fa))]) hP hD [3, 0] [1, 2] rfl rfl (by decide) (by decide) hk1 hFc hP1 hD1
            have hK := hK.app hK1
            generalize H1 = H at hP hS ⊢
            have hP : va_P (dC, dI) vwCl (([(mr 7, .inl (kI, 3002, .inl fe)), (mr 0, .inl (kI, 3000, .inl ft)), (m9, .inr (23, mT mr mv vf 3 (fa (pp + 1)) (nI T) (nI im) (nI tm) xm (nI sc) (nI vm))), (mr 6, .inl (kI, 3002, .inl fa))] : va_W) ++ (sT L F)) H := hP
            have hD : va_D A (([(mr 7, .inl (kI, 3002, .inl fe)), (mr 0, .inl (kI, 3000, .inl ft)), (m9, .inr (23, mT mr mv vf 3 (fa (pp + 1)) (nI T) (nI im) (nI tm) xm (nI sc) (nI vm))), (mr 6, .inl (kI, 3002, .inl fa))] : va_W) ++ (sT L F)) := hD
            have hK : va_K (dC, dI) vwCl [(kI, .int), (kI, .int)] s := hK
            have hK := hK.sub (tys' := [(kI, .int)]) [0] rfl
            clear hz1 hk1 hPc hDc hKc hFc hP1 hD1 hK1
            obtain ⟨fq7, efq7⟩ : ∃ zZ : Int32, zZ = 3 := ⟨_, rfl⟩
            obtain ⟨fx7, efx7⟩ : ∃ zZ : Int32, zZ = fa (pp + 1) := ⟨_, rfl⟩
            rw [← efx7] at hP hD
            have hhfq7 : fq7 ≠ 0 := by rw [efq7]; decide
            have hP : va_P (dC, dI) vwCl (([(mr 7, .inl (kI, 3002, .inl fe)), (mr 0, .inl (kI, 3000, .inl ft)), (m9, .inr (23, mT mr mv vf fq7 fx7 (nI T) (nI im) (nI tm) xm (nI sc) (nI vm))), (mr 6, .inl (kI, 3002, .inl fa))] : va_W) ++ (sT L F)) H := by rw [efq7]; exact hP
            have hD : va_D A (([(mr 7, .inl (kI, 3002, .inl fe)), (mr 0, .inl (kI, 3000, .inl ft)), (m9, .inr (23, mT mr mv vf fq7 fx7 (nI T) (nI im) (nI tm) xm (nI sc) (nI vm))), (mr 6, .inl (kI, 3002, .inl fa))] : va_W) ++ (sT L F)) := by rw [efq7]; exact hD
            clear efq7 efx7
            refine lv_iconst (v := (-1)) hx hb dX23_lifeIn_69 (by decide) ?_
            have hP9 := hP.subT (f' := [(m9, .inr (23, mT mr mv vf fq7 fx7 (nI T) (nI im) (nI tm) xm (nI sc) (nI vm))), (mr 6, .inl (kI, 3002, .inl fa)), (mr 7, .inl (kI, 3002, .inl fe)), (mr 0, .inl (kI, 3000, .inl ft))]) [2, 3, 0, 1] rfl
            have hD9 := hD.subT (f' := [(m9, .inr (23, mT mr mv vf fq7 fx7 (nI T) (nI im) (nI tm) xm (nI sc) (nI vm))), (mr 6, .inl (kI, 3002, .inl fa)), (mr 7, .inl (kI, 3002, .inl fe)), (mr 0, .inl (kI, 3000, .inl ft))]) [2, 3, 0, 1] (by decide) rfl
            have hK9 := hK.sub (tys' := [(kI, .int)]) [0] rfl
            subst hQ1
            exact W.iret (v := (-1)) hx hb hr (fun tS ht hW => ⟨⟨(-1), (), rfl, Or.inl rfl, fq7, fx7, by rw [ht]; exact hP9, va_K.moved hW.alike hK9, hD9⟩, hS.F ht⟩) hS.2.2 dX23_lifeIn_70
          · have hin : i < lv := by rcases Nat.lt_or_ge i lv with z9 | z9; exact z9; exact absurd (nI_le z9 (by omega)) hk
            obtain ⟨s9, hs1, hs2⟩ := hg7 i hin
            have hgl := hg6 (by omega)
            refine lv_aload_n hx hb dX23_lifeIn_35 rfl (lv_at hl 1 rfl) ?_
            refine lv_aload_n hx hb dX23_lifeIn_36 rfl (lv_at hl 2 rfl) ?_
            refine va_get (D := (dC, dI)) (ci := 16) (v := .ref lf) (C := RX16) (T := TX16) (N := 22) hx hb hts in_c_lif_X16 hown hK (va_P.st hP hxm hg1) 0 rfl rfl 12 (by decide) (hts (.fieldLink RX23 187 "OwnedPlacesModel$Item" "life" "[I") (wm_c_lif 16 rfl)) (fun _ h9 => h9) hg3 dX23_lifeIn_37 ?_
            refine lv_iload_n hx hb dX23_lifeIn_40 rfl (lv_at hl 0 rfl) ?_
            refine va_iald hx hb hK (va_P.st hP hg4 hgl) 0 0 rfl rfl (vp_in_nI (show i < 8 by omega) (by decide)) dX23_lifeIn_41 ?_
            refine lv_topi (fun v_7 ev_7 => ?_)
            obtain rfl : v_7 = nI s9 := ev_7.trans (by rw [nI_clamp (by omega)]; exact hs1)
            refine lv_aload_n hx hb dX23_lifeIn_42 rfl (lv_at hl 3 rfl) ?_
            refine va_get (D := (dC, dI)) (ci := 22) (v := .int (nI (pp + 1))) (C := RX22) (T := TX22) (N := 5) hx hb hts in_c_lif_X22 hown hK (va_P.st hP hwm hO7) 0 rfl rfl 3 (by decide) (hts (.fieldLink RX23 122 "OwnedPlacesModel$Written" "life" "I") (wm_c_lif 8 rfl)) (fun _ h9 => h9) hO3 dX23_lifeIn_43 ?_
            have hPc := hP.subF (f' := [(m9, .inr (23, mT mr mv vf 0 xa (nI T) (nI im) (nI tm) xm (nI sc) (nI vm))), (mr 6, .inl (kI, 3002, .inl fa)), (mr 7, .inl (kI, 3002, .inl fe)), (mr 0, .inl (kI, 3000, .inl ft))]) [3, 0, 1, 2] rfl
            have hDc := hD.subF (f' := [(m9, .inr (23, mT mr mv vf 0 xa (nI T) (nI im) (nI tm) xm (nI sc) (nI vm))), (mr 6, .inl (kI, 3002, .inl fa)), (mr 7, .inl (kI, 3002, .inl fe)), (mr 0, .inl (kI, 3000, .inl ft))]) [3, 0, 1, 2] (by decide) rfl
            have hKc := hK.sub (tys' := [(kI, .int)]) [0] rfl
            have hFc := va_freeT (wc := [(m9, .inr (23, mT mr mv vf 0 xa (nI T) (nI im) (nI tm) xm (nI sc) (nI vm))), (mr 6, .inl (kI, 3002, .inl fa)), (mr 7, .inl (kI, 3002, .inl fe)), (mr 0, .inl (kI, 3000, .inl ft))]) hD hS hA [3, 0, 1, 2] rfl
            refine va_calli (va_runV (As := [.int (nI s9), .int (nI (pp + 1))]) (rest := []) ⟨hx, hb, hml, hown, hts⟩ (c_sam l dC dI m9 mr mv vf 0 xa xm T im tm sc vm kI fk fa fe ft zs s9 (pp + 1) H.size htg.1.1 htg.1.2.1 hs2 (by omega)) (cwV 2 hts g_c_lif_c_sam_46 rfl rfl rfl (by decide +kernel) ⟨Nat.le_of_ble_eq_true rfl, Nat.le_of_ble_eq_true rfl⟩) ⟨fun a U g mk q => by obtain ⟨q0, q1, qP, qK, qD⟩ := q; exact ⟨q0, q1, qP, va_K.moved (u := U) (U := U.calling g mk a) (Vm.Alike.refl U.vm) qK, qD⟩, va_recv hKc hPc (ci := 23) (q0 := 0) rfl rfl, fun U hU hW => ⟨rfl, by rw [hU], by rw [hU]; exact hPc, va_K.moved hW.alike hKc, hDc.weaken (fun _ _ _ _ => trivial)⟩⟩ rfl rfl hl.1 rfl (lv_room (Nat.le_of_ble_eq_true rfl)) dX23_lifeIn_46 ⟨(show 0 + 0 ≤ 0 by omega), (show 0 + 0 ≤ 0 by omega)⟩) hS (fun q _ h => hFc q h) hFc (fun r_8 u tS H1 locs ht hvm hw hB hz1 hk1 hS => ?_)
            obtain ⟨hP1, hK1, hD1⟩ := hB
            rw [ht] at hP1
            have hK1 := va_K.moved hvm.symm hK1
            obtain ⟨hP, hD⟩ := va_joinT (wr := []) (w1 := [(m9, .inr (23, mT mr mv vf 0 xa (nI T) (nI im) (nI tm) xm (nI sc) (nI vm))), (mr 6, .inl (kI, 3002, .inl fa)), (mr 7, .inl (kI, 3002, .inl fe)), (mr 0, .inl (kI, 3000, .inl ft))]) hP hD [3, 0, 1, 2] [] rfl rfl (by decide) (by decide) hk1 hFc hP1 hD1
            have hK := hK.app hK1
            generalize H1 = H at hP hS ⊢
            have hP : va_P (dC, dI) vwCl (([(m9, .inr (23, mT mr mv vf 0 xa (nI T) (nI im) (nI tm) xm (nI sc) (nI vm))), (mr 6, .inl (kI, 3002, .inl fa)), (mr 7, .inl (kI, 3002, .inl fe)), (mr 0, .inl (kI, 3000, .inl ft))] : va_W) ++ (sT L F)) H := hP
            have hD : va_D A (([(m9, .inr (23, mT mr mv vf 0 xa (nI T) (nI im) (nI tm) xm (nI sc) (nI vm))), (mr 6, .inl (kI, 3002, .inl fa)), (mr 7, .inl (kI, 3002, .inl fe)), (mr 0, .inl (kI, 3000, .inl ft))] : va_W) ++ (sT L F)) := hD
            have hK : va_K (dC, dI) vwCl [(kI, .int), (kI, .int)] s := hK
            have hK := hK.sub (tys' := [(kI, .int)]) [0] rfl
            clear hz1 hk1 hPc hDc hKc hFc hP1 hD1 hK1
            refine lv_if_eq (tgt := 54) hx hb dX23_lifeIn_49 (by decide) (fun hb_9 => ?_) (fun hb_9 => ?_)
            · obtain ⟨x_10, ex_10⟩ : ∃ yY : Int32, yY = (nI i) + 1 := ⟨_, rfl⟩
              refine lv_iinc (v := x_10) (lv' := [(3, .int x_10), (0, .ref m9), (1, .ref (xI ii)), (2, .ref wr)]) hx hb dX23_lifeIn_54 hl (k := 0) rfl (by rw [ex_10]; rfl) (by decide) rfl (fun ls hl => ?_)
              obtain rfl : x_10 = nI (i + 1) := by rw [ex_10]; exact nI_1 i
              have hl : lv_has ls 4 [(3, .int (nI (i + 1))), (0, .ref m9), (1, .ref (xI ii)), (2, .ref wr)] := hl
              refine lv_goto (tgt := 27) hx hb dX23_lifeIn_57 (by decide) ?_
              exact ih1 (i + 1) _ _ _ (by omega) (hP.subT [1, 2, 3, 0] rfl) (hD.subT [1, 2, 3, 0] (by decide) rfl) hS (lv_sub hl [0, 1, 2, 3] rfl)
            · refine lv_iload_n hx hb dX23_lifeIn_52 rfl (lv_at hl 0 rfl) ?_
              have hP9 := hP.subT (f' := [(m9, .inr (23, mT mr mv vf 0 xa (nI T) (nI im) (nI tm) xm (nI sc) (nI vm))), (mr 6, .inl (kI, 3002, .inl fa)), (mr 7, .inl (kI, 3002, .inl fe)), (mr 0, .inl (kI, 3000, .inl ft))]) [0, 1, 2, 3] rfl
              have hD9 := hD.subT (f' := [(m9, .inr (23, mT mr mv vf 0 xa (nI T) (nI im) (nI tm) xm (nI sc) (nI vm))), (mr 6, .inl (kI, 3002, .inl fa)), (mr 7, .inl (kI, 3002, .inl fe)), (mr 0, .inl (kI, 3000, .inl ft))]) [0, 1, 2, 3] (by decide) rfl
              have hK9 := hK.sub (tys' := [(kI, .int)]) [0] rfl
              subst hQ1
              exact W.iret (v := nI i) hx hb hr (fun tS ht hW => ⟨⟨(nI i), (), rfl, Or.inr ⟨i, by omega, rfl⟩, 0, xa, by rw [ht]; exact hP9, va_K.moved hW.alike hK9, hD9⟩, hS.F ht⟩) hS.2.2 dX23_lifeIn_53
      exact key1 (lv + 1) 0 _ _ _ (by omega) (hP.subT [0, 1, 2, 3] rfl) (hD.subT [0, 1, 2, 3] (by decide) rfl) hS (lv_sub hl [0, 1, 2, 3] rfl)
  · refine lv_icmp_ne (tgt := 23) hx hb dX23_lifeIn_13 (by decide) (fun _ => ?_) (fun c_4 => absurd c_4 hk_3)
    refine lv_iconst (v := (-1)) hx hb dX23_lifeIn_23 (by decide) ?_
    have hP9 := hP.subT (f' := [(m9, .inr (23, mT mr mv vf 0 xa (nI T) (nI im) (nI tm) xm (nI sc) (nI vm))), (mr 6, .inl (kI, 3002, .inl fa)), (mr 7, .inl (kI, 3002, .inl fe)), (mr 0, .inl (kI, 3000, .inl ft))]) [3, 0, 1, 2] rfl
    have hD9 := hD.subT (f' := [(m9, .inr (23, mT mr mv vf 0 xa (nI T) (nI im) (nI tm) xm (nI sc) (nI vm))), (mr 6, .inl (kI, 3002, .inl fa)), (mr 7, .inl (kI, 3002, .inl fe)), (mr 0, .inl (kI, 3000, .inl ft))]) [3, 0, 1, 2] (by decide) rfl
    have hK9 := hK.sub (tys' := [(kI, .int)]) [0] rfl
    exact W.iret (v := (-1)) hx hb hr (fun tS ht hW => ⟨⟨(-1), (), rfl, Or.inl rfl, 0, xa, by rw [ht]; exact hP9, va_K.moved hW.alike hK9, hD9⟩, hS.F ht⟩) hS.2.2 dX23_lifeIn_24
set_option maxRecDepth 20000 in
theorem g_c_lifB_c_tokB_1 : GoodIn wp_c_lif (wsV RX23 89 RX23 yX23_ok wp_c_tok0) := goodIn_app (goodIn_f [.methodLink RX23 89 yX23_ok, .instanceMethod yX23_ok, .selects RX23 yX23_ok yX23_ok, .initialized RX23] [3, 4, 5, 6] rfl (by decide +kernel)) (goodIn_app (goodIn_f (wf_c_tok0) [1, 2] rfl wg_c_tok0) (goodIn_app (goodIn_sub in_c_lif_X23 gd_X23) (goodIn_n)))
set_option maxHeartbeats 4000000 in
set_option maxRecDepth 100000 in
theorem c_lifB (l : Launch) (dC : Nat → ClassId) (dI : Nat → Nat → Nat) (m9 : Nat) (mr : Nat → Nat) (mv : Nat → Int32) (vf : Value) (ff xa xm : Int32) (T im tm sc vm : Nat) (kI : ClassId) (L : List Nat) (F : Nat → va_E) (it wr : Nat) (sz : Nat) (hff : ff ≠ 0) : Met l yX23_lifeIn wp_c_lif ({ frames := 1, cells := 0, slots := 0, locals := 20 }) (va_Pc [.ref m9, .ref it, .ref wr] (fun U => U.heap.size = sz ∧ va_P (dC, dI) vwCl (([(m9, .inr (23, mT mr mv vf ff xa (nI T) (nI im) (nI tm) xm (nI sc) (nI vm)))] : va_W) ++ (sT L F)) U.heap ∧ va_K (dC, dI) vwCl [] U ∧ va_D (fun _ => True) (([(m9, .inr (23, mT mr mv vf ff xa (nI T) (nI im) (nI tm) xm (nI sc) (nI vm)))] : va_W) ++ (sT L F)))) (va_Qi (fun (r : Int32) (_ : Unit) => r = -1) (fun (_ : Unit) (tS : State) => va_P (dC, dI) vwCl (([(m9, .inr (23, mT mr mv vf ff xa (nI T) (nI im) (nI tm) xm (nI sc) (nI vm)))] : va_W) ++ (sT L F)) tS.heap ∧ va_K (dC, dI) vwCl [] tS ∧ va_D (va_A (([(m9, .inr (23, mT mr mv vf ff xa (nI T) (nI im) (nI tm) xm (nI sc) (nI vm)))] : va_W) ++ (sT L F)) sz) (([(m9, .inr (23, mT mr mv vf ff xa (nI T) (nI im) (nI tm) xm (nI sc) (nI vm)))] : va_W) ++ (sT L F))) (va_A (([(m9, .inr (23, mT mr mv vf ff xa (nI T) (nI im) (nI tm) xm (nI sc) (nI vm)))] : va_W) ++ (sT L F)) sz)) 0 0 (va_A (([(m9, .inr (23, mT mr mv vf ff xa (nI T) (nI im) (nI tm) xm (nI sc) (nI vm)))] : va_W) ++ (sT L F)) sz) := by
  refine Met.ofW (cc := cX23_lifeIn) (maxL := 4) (ret := (some .int)) (by decide) rfl ?_
  intro p e s m args below meth c s₁ B hml hv
  obtain ⟨rfl, hsz, hP, hK, hD0⟩ := hv
  have hx := B.exec
  have hb := B.bytes
  have hr := B.returns
  have hts := atoms_spec (ws := wp_c_lif) B.pre
  have hown : s.vm.findClass RX23 = some m.cls := findClass_of_methodNamed B.named
  have hlocks := B.notSynchronized
  subst hsz
  have hD := hD0.self (sz := s.heap.size)
  generalize hAe : va_A (([(m9, .inr (23, mT mr mv vf ff xa (nI T) (nI im) (nI tm) xm (nI sc) (nI vm)))] : va_W) ++ (sT L F)) s.heap.size = A at hD ⊢
  have hA : ∀ q : Nat, s.heap.size ≤ q → A q := fun q h => by rw [← hAe]; exact Or.inr h
  have hS : va_S A s.heap s.heap [] := va_S.rf
  have hP : va_P (dC, dI) vwCl (([(m9, .inr (23, mT mr mv vf ff xa (nI T) (nI im) (nI tm) xm (nI sc) (nI vm)))] : va_W) ++ (sT L F)) s.heap := hP
  have hl := lv_entry ([.ref m9, .ref it, .ref wr]) (n := 4) (Nat.le_of_ble_eq_true rfl)
  rw [lg_entry_eq]
  generalize (lg_sl ([.ref m9, .ref it, .ref wr]) ++ List.replicate (4 - (lg_sl ([.ref m9, .ref it, .ref wr])).length) Slot.unset).toArray = ls at hl ⊢
  have hl : lv_has ls 4 [(0, .ref m9), (1, .ref it), (2, .ref wr)] := hl
  refine lv_aload_n hx hb dX23_lifeIn_0 rfl (lv_at hl 0 rfl) ?_
  have hPc := hP.subF (f' := [(m9, .inr (23, mT mr mv vf ff xa (nI T) (nI im) (nI tm) xm (nI sc) (nI vm)))]) [0] rfl
  have hDc := hD.subF (f' := [(m9, .inr (23, mT mr mv vf ff xa (nI T) (nI im) (nI tm) xm (nI sc) (nI vm)))]) [0] (by decide) rfl
  have hKc := hK.sub (tys' := []) [] rfl
  have hFc := va_freeT (wc := [(m9, .inr (23, mT mr mv vf ff xa (nI T) (nI im) (nI tm) xm (nI sc) (nI vm)))]) hD hS hA [0] rfl
  refine va_calli (va_runV (As := []) (rest := []) ⟨hx, hb, hml, hown, hts⟩ (c_tokB l dC dI m9 mr mv vf ff xa xm T im tm sc vm kI s.heap.size hff) (cwV 0 hts g_c_lifB_c_tokB_1 rfl rfl rfl (by decide +kernel) ⟨Nat.le_of_ble_eq_true rfl, Nat.le_of_ble_eq_true rfl⟩) ⟨fun a U g mk q => by obtain ⟨q0, q1, qP, qK, qD⟩ := q; exact ⟨q0, q1, qP, va_K.moved (u := U) (U := U.calling g mk a) (Vm.Alike.refl U.vm) qK, qD⟩, va_recv hKc hPc (ci := 23) (q0 := 0) rfl rfl, fun U hU hW => ⟨rfl, by rw [hU], by rw [hU]; exact hPc, va_K.moved hW.alike hKc, hDc.weaken (fun _ _ _ _ => trivial)⟩⟩ rfl rfl hl.1 rfl (lv_room (Nat.le_of_ble_eq_true rfl)) dX23_lifeIn_1 ⟨(show 0 + 0 ≤ 0 by omega), (show 0 + 0 ≤ 0 by omega)⟩) hS (fun q _ h => hFc q h) hFc (fun r_1 u tS H1 locs ht hvm hw hB hz1 hk1 hS => ?_)
  obtain ⟨hP1, hK1, hD1⟩ := hB
  rw [ht] at hP1
  have hK1 := va_K.moved hvm.symm hK1
  obtain ⟨hP, hD⟩ := va_joinT (wr := []) (w1 := [(m9, .inr (23, mT mr mv vf ff xa (nI T) (nI im) (nI tm) xm (nI sc) (nI vm)))]) hP hD [0] [] rfl rfl (by decide) (by decide) hk1 hFc hP1 hD1
  generalize H1 = H at hP hS ⊢
  have hP : va_P (dC, dI) vwCl (([(m9, .inr (23, mT mr mv vf ff xa (nI T) (nI im) (nI tm) xm (nI sc) (nI vm)))] : va_W) ++ (sT L F)) H := hP
  have hD : va_D A (([(m9, .inr (23, mT mr mv vf ff xa (nI T) (nI im) (nI tm) xm (nI sc) (nI vm)))] : va_W) ++ (sT L F)) := hD
  have hK : va_K (dC, dI) vwCl [] s := hK
  clear hz1 hk1 hPc hDc hKc hFc hP1 hD1 hK1
  obtain rfl : r_1 = 0 := hw
  refine lv_if_eq (tgt := 23) hx hb dX23_lifeIn_4 (by decide) (fun _ => ?_) (fun c_2 => absurd (by decide) c_2)
  refine lv_iconst (v := (-1)) hx hb dX23_lifeIn_23 (by decide) ?_
  have hP9 := hP.subT (f' := [(m9, .inr (23, mT mr mv vf ff xa (nI T) (nI im) (nI tm) xm (nI sc) (nI vm)))]) [0] rfl
  have hD9 := hD.subT (f' := [(m9, .inr (23, mT mr mv vf ff xa (nI T) (nI im) (nI tm) xm (nI sc) (nI vm)))]) [0] (by decide) rfl
  have hK9 := hK.sub (tys' := []) [] rfl
  exact W.iret (v := (-1)) hx hb hr (fun tS ht hW => ⟨⟨(-1), (), rfl, rfl, by rw [ht]; exact hP9, va_K.moved hW.alike hK9, hD9⟩, hS.F ht⟩) hS.2.2 dX23_lifeIn_24
