def wf_c_sam : List Cond := [.code yX23_sameName cX23_sameName 5 (some .boolean), .fieldLink RX23 34 "OwnedPlacesModel" "tokenEnd" "[I", .fieldLink RX23 31 "OwnedPlacesModel" "tokenAt" "[I", .fieldLink RX23 7 "OwnedPlacesModel" "text" "[I"]
def wp_c_sam : List Cond := wf_c_sam ++ (wsX230 ++ [])
theorem in_c_sam_X23 : ∀ w ∈ wsX230, w ∈ wp_c_sam := fun w h => List.mem_append_right _ (List.mem_append_left _ h)
theorem wg_c_sam : wf_c_sam.all goodWord = true := by decide +kernel
theorem wm_c_sam (k : Nat) {w : Cond} (h : wp_c_sam[k]? = some w) : w ∈ wp_c_sam := List.mem_of_getElem? h
set_option maxHeartbeats 4000000 in
set_option maxRecDepth 100000 in
theorem c_sam (l : Launch) (dC : Nat → ClassId) (dI : Nat → Nat → Nat) (m9 : Nat) (mr : Nat → Nat) (mv : Nat → Int32) (vf : Value) (ff xa xm : Int32) (T im tm sc vm : Nat) (kI : ClassId) (fk fa fe ft : Nat → Int32) (zs : Nat) (ta tb : Nat) (sz : Nat) (htk : tkF fk fa fe T zs) (hzs : zs ≤ 3000) (hta : ta < T) (htb : tb < T) : Met l yX23_sameName wp_c_sam ({ frames := 0, cells := 0, slots := 0, locals := 0 }) (va_Pc [.ref m9, .int (nI ta), .int (nI tb)] (fun U => U.heap.size = sz ∧ va_P (dC, dI) vwCl [(m9, .inr (23, mT mr mv vf ff xa (nI T) (nI im) (nI tm) xm (nI sc) (nI vm))), (mr 6, .inl (kI, 3002, .inl fa)), (mr 7, .inl (kI, 3002, .inl fe)), (mr 0, .inl (kI, 3000, .inl ft))] U.heap ∧ va_K (dC, dI) vwCl [(kI, .int)] U ∧ va_D (fun _ => True) [(m9, .inr (23, mT mr mv vf ff xa (nI T) (nI im) (nI tm) xm (nI sc) (nI vm))), (mr 6, .inl (kI, 3002, .inl fa)), (mr 7, .inl (kI, 3002, .inl fe)), (mr 0, .inl (kI, 3000, .inl ft))])) (va_Qi (fun (r : Int32) (_ : Unit) => r = 0 ∨ r = 1) (fun (_ : Unit) (tS : State) => va_P (dC, dI) vwCl [(m9, .inr (23, mT mr mv vf ff xa (nI T) (nI im) (nI tm) xm (nI sc) (nI vm))), (mr 6, .inl (kI, 3002, .inl fa)), (mr 7, .inl (kI, 3002, .inl fe)), (mr 0, .inl (kI, 3000, .inl ft))] tS.heap ∧ va_K (dC, dI) vwCl [(kI, .int)] tS ∧ va_D (va_A [(m9, .inr (23, mT mr mv vf ff xa (nI T) (nI im) (nI tm) xm (nI sc) (nI vm))), (mr 6, .inl (kI, 3002, .inl fa)), (mr 7, .inl (kI, 3002, .inl fe)), (mr 0, .inl (kI, 3000, .inl ft))] sz) [(m9, .inr (23, mT mr mv vf ff xa (nI T) (nI im) (nI tm) xm (nI sc) (nI vm))), (mr 6, .inl (kI, 3002, .inl fa)), (mr 7, .inl (kI, 3002, .inl fe)), (mr 0, .inl (kI, 3000, .inl ft))]) (va_A [(m9, .inr (23, mT mr mv vf ff xa (nI T) (nI im) (nI tm) xm (nI sc) (nI vm))), (mr 6, .inl (kI, 3002, .inl fa)), (mr 7, .inl (kI, 3002, .inl fe)), (mr 0, .inl (kI, 3000, .inl ft))] sz)) 0 0 (va_A [(m9, .inr (23, mT mr mv vf ff xa (nI T) (nI im) (nI tm) xm (nI sc) (nI vm))), (mr 6, .inl (kI, 3002, .inl fa)), (mr 7, .inl (kI, 3002, .inl fe)), (mr 0, .inl (kI, 3000, .inl ft))] sz) := by
  refine Met.ofW (cc := cX23_sameName) (maxL := 5) (ret := (some .boolean)) (by decide) rfl ?_
  intro p e s m args below meth c s₁ B hml hv
  obtain ⟨rfl, hsz, hP, hK, hD0⟩ := hv
  have hx := B.exec
  have hb := B.bytes
  have hr := B.returns
  have hts := atoms_spec (ws := wp_c_sam) B.pre
  have hown : s.vm.findClass RX23 = some m.cls := findClass_of_methodNamed B.named
  have hlocks := B.notSynchronized
  subst hsz
  have hD := hD0.self (sz := s.heap.size)
  generalize hAe : va_A [(m9, .inr (23, mT mr mv vf ff xa (nI T) (nI im) (nI tm) xm (nI sc) (nI vm))), (mr 6, .inl (kI, 3002, .inl fa)), (mr 7, .inl (kI, 3002, .inl fe)), (mr 0, .inl (kI, 3000, .inl ft))] s.heap.size = A at hD ⊢
  have hA : ∀ q : Nat, s.heap.size ≤ q → A q := fun q h => by rw [← hAe]; exact Or.inr h
  have hS : va_S A s.heap s.heap [] := va_S.rf
  have hP : va_P (dC, dI) vwCl [(m9, .inr (23, mT mr mv vf ff xa (nI T) (nI im) (nI tm) xm (nI sc) (nI vm))), (mr 6, .inl (kI, 3002, .inl fa)), (mr 7, .inl (kI, 3002, .inl fe)), (mr 0, .inl (kI, 3000, .inl ft))] s.heap := hP
  have hl := lv_entry ([.ref m9, .int (nI ta), .int (nI tb)]) (n := 5) (Nat.le_of_ble_eq_true rfl)
  rw [lg_entry_eq]
  generalize (lg_sl ([.ref m9, .int (nI ta), .int (nI tb)]) ++ List.replicate (5 - (lg_sl ([.ref m9, .int (nI ta), .int (nI tb)])).length) Slot.unset).toArray = ls at hl ⊢
  have hl : lv_has ls 5 [(0, .ref m9), (1, .int (nI ta)), (2, .int (nI tb))] := hl
  obtain ⟨a1, b1, ea1, eb1, hab1, hbz1⟩ := tk_pl htk hta
  obtain ⟨a2, b2, ea2, eb2, hab2, hbz2⟩ := tk_pl htk htb
  have hT9 : T ≤ 3001 := by have := htk.2.1; omega
  refine lv_aload_n hx hb dX23_sameName_0 rfl (lv_at hl 0 rfl) ?_
  refine va_get (D := (dC, dI)) (ci := 23) (v := .ref (mr 7)) (C := RX23) (T := TX23) (N := 89) hx hb hts in_c_sam_X23 hown hK hP 0 rfl rfl 7 (by decide) (hts (.fieldLink RX23 34 "OwnedPlacesModel" "tokenEnd" "[I") (wm_c_sam 1 rfl)) (fun _ h9 => h9) rfl dX23_sameName_1 ?_
  refine lv_iload_n hx hb dX23_sameName_4 rfl (lv_at hl 1 rfl) ?_
  refine va_iald hx hb hK hP 2 0 rfl rfl (vp_in_nI (show ta < 3002 by omega) (by decide)) dX23_sameName_5 ?_
  refine lv_topi (fun v_1 ev_1 => ?_)
  obtain rfl : v_1 = nI b1 := ev_1.trans (by rw [nI_clamp (by omega)]; exact eb1)
  refine lv_aload_n hx hb dX23_sameName_6 rfl (lv_at hl 0 rfl) ?_
  refine va_get (D := (dC, dI)) (ci := 23) (v := .ref (mr 6)) (C := RX23) (T := TX23) (N := 89) hx hb hts in_c_sam_X23 hown hK hP 0 rfl rfl 6 (by decide) (hts (.fieldLink RX23 31 "OwnedPlacesModel" "tokenAt" "[I") (wm_c_sam 2 rfl)) (fun _ h9 => h9) rfl dX23_sameName_7 ?_
  refine lv_iload_n hx hb dX23_sameName_10 rfl (lv_at hl 1 rfl) ?_
  refine va_iald hx hb hK hP 1 0 rfl rfl (vp_in_nI (show ta < 3002 by omega) (by decide)) dX23_sameName_11 ?_
  refine lv_topi (fun v_2 ev_2 => ?_)
  obtain rfl : v_2 = nI a1 := ev_2.trans (by rw [nI_clamp (by omega)]; exact ea1)
  refine lv_isub hx hb dX23_sameName_12 ?_
  refine lv_topi (fun f_3 ef_3 => ?_)
  obtain rfl : f_3 = nI (b1 - a1) := ef_3.trans (nI_sb (by omega))
  refine lv_istore_n (lv' := [(3, .int (nI (b1 - a1))), (0, .ref m9), (1, .int (nI ta)), (2, .int (nI tb))]) hx hb dX23_sameName_13 rfl hl (by decide) rfl (fun ls hl => ?_)
  refine lv_aload_n hx hb dX23_sameName_14 rfl (lv_at hl 1 rfl) ?_
  refine va_get (D := (dC, dI)) (ci := 23) (v := .ref (mr 7)) (C := RX23) (T := TX23) (N := 89) hx hb hts in_c_sam_X23 hown hK hP 0 rfl rfl 7 (by decide) (hts (.fieldLink RX23 34 "OwnedPlacesModel" "tokenEnd" "[I") (wm_c_sam 1 rfl)) (fun _ h9 => h9) rfl dX23_sameName_15 ?_
  refine lv_iload_n hx hb dX23_sameName_18 rfl (lv_at hl 3 rfl) ?_
  refine va_iald hx hb hK hP 2 0 rfl rfl (vp_in_nI (show tb < 3002 by omega) (by decide)) dX23_sameName_19 ?_
  refine lv_topi (fun v_4 ev_4 => ?_)
  obtain rfl : v_4 = nI b2 := ev_4.trans (by rw [nI_clamp (by omega)]; exact eb2)
  refine lv_aload_n hx hb dX23_sameName_20 rfl (lv_at hl 1 rfl) ?_
  refine va_get (D := (dC, dI)) (ci := 23) (v := .ref (mr 6)) (C := RX23) (T := TX23) (N := 89) hx hb hts in_c_sam_X23 hown hK hP 0 rfl rfl 6 (by decide) (hts (.fieldLink RX23 31 "OwnedPlacesModel" "tokenAt" "[I") (wm_c_sam 2 rfl)) (fun _ h9 => h9) rfl dX23_sameName_21 ?_
  refine lv_iload_n hx hb dX23_sameName_24 rfl (lv_at hl 3 rfl) ?_
  refine va_iald hx hb hK hP 1 0 rfl rfl (vp_in_nI (show tb < 3002 by omega) (by decide)) dX23_sameName_25 ?_
  refine lv_topi (fun v_5 ev_5 => ?_)
  obtain rfl : v_5 = nI a2 := ev_5.trans (by rw [nI_clamp (by omega)]; exact ea2)
  refine lv_isub hx hb dX23_sameName_26 ?_
  refine lv_topi (fun f_6 ef_6 => ?_)
  obtain rfl : f_6 = nI (b2 - a2) := ef_6.trans (nI_sb (by omega))
  refine lv_iload_n hx hb dX23_sameName_27 rfl (lv_at hl 0 rfl) ?_
  refine lv_icmp_eq (tgt := 33) hx hb dX23_sameName_28 (by decide) (fun hc => ?_) (fun hc => ?_)
  · have hln : b2 - a2 = b1 - a1 := (nI_eq (by omega) (by omega)).mp hc
    refine lv_iconst (v := 0) hx hb dX23_sameName_33 (by decide) ?_
    refine lv_istore (lv' := [(4, .int 0), (3, .int (nI (b1 - a1))), (0, .ref m9), (1, .int (nI ta)), (2, .int (nI tb))]) hx hb dX23_sameName_34 hl (by decide) rfl (fun ls hl => ?_)
    refine W_q (fun Q1 hQ1 => ?_)
    have key1 : ∀ (n1 : Nat) (i : Nat) (H : Heap) (locs : List Loc) (ls : Array Slot), (i + n1 = b1 - a1 + 1 ∧ i ≤ b1 - a1) → va_P (dC, dI) vwCl [(m9, .inr (23, mT mr mv vf ff xa (nI T) (nI im) (nI tm) xm (nI sc) (nI vm))), (mr 6, .inl (kI, 3002, .inl fa)), (mr 7, .inl (kI, 3002, .inl fe)), (mr 0, .inl (kI, 3000, .inl ft))] H → va_D A [(m9, .inr (23, mT mr mv vf ff xa (nI T) (nI im) (nI tm) xm (nI sc) (nI vm))), (mr 6, .inl (kI, 3002, .inl fa)), (mr 7, .inl (kI, 3002, .inl fe)), (mr 0, .inl (kI, 3000, .inl ft))] → va_S A s.heap H locs → lv_has ls 5 [(4, .int (nI i)), (3, .int (nI (b1 - a1))), (0, .ref m9), (1, .int (nI ta)), (2, .int (nI tb))] → W p l e (headSpec wp_c_sam ({ frames := 0, cells := 0, slots := 0, locals := 0 })).room s m ([.ref m9, .int (nI ta), .int (nI tb)] : List Value).toArray below meth c H locs 0 0 Q1 (F0 m 36 ls []) := by
      intro n1
      induction n1 with
      | zero => intro i H locs ls hi0; exact absurd hi0 (by omega)
      | succ n1 ih1 =>
        intro i H locs ls hi0 hP hD hS hl
        refine lv_iload hx hb dX23_sameName_36 (lv_at hl 0 rfl) ?_
        refine lv_iload_n hx hb dX23_sameName_38 rfl (lv_at hl 1 rfl) ?_
        refine lv_icmp_ge (tgt := 81) hx hb dX23_sameName_39 (by decide) (fun hk => ?_) (fun hk => ?_)
        · refine lv_iconst (v := 1) hx hb dX23_sameName_81 (by decide) ?_
          have hP9 := hP.sub (ws' := [(m9, .inr (23, mT mr mv vf ff xa (nI T) (nI im) (nI tm) xm (nI sc) (nI vm))), (mr 6, .inl (kI, 3002, .inl fa)), (mr 7, .inl (kI, 3002, .inl fe)), (mr 0, .inl (kI, 3000, .inl ft))]) [0, 1, 2, 3] rfl
          have hD9 := hD.sub (ws' := [(m9, .inr (23, mT mr mv vf ff xa (nI T) (nI im) (nI tm) xm (nI sc) (nI vm))), (mr 6, .inl (kI, 3002, .inl fa)), (mr 7, .inl (kI, 3002, .inl fe)), (mr 0, .inl (kI, 3000, .inl ft))]) [0, 1, 2, 3] (by decide) rfl
          have hK9 := hK.sub (tys' := [(kI, .int)]) [0] rfl
          subst hQ1
          exact W.zret (v := 1) hx hb hr (by decide) (fun tS ht hW => ⟨⟨1, (), rfl, Or.inr rfl, by rw [ht]; exact hP9, va_K.moved hW.alike hK9, hD9⟩, hS.F ht⟩) hS.2.2 dX23_sameName_82
        · have hin : i < b1 - a1 := by rcases Nat.lt_or_ge i (b1 - a1) with z9 | z9; exact z9; exact absurd (nI_le z9 (by omega)) hk
          refine lv_aload_n hx hb dX23_sameName_42 rfl (lv_at hl 2 rfl) ?_
          refine va_get (D := (dC, dI)) (ci := 23) (v := .ref (mr 0)) (C := RX23) (T := TX23) (N := 89) hx hb hts in_c_sam_X23 hown hK hP 0 rfl rfl 0 (by decide) (hts (.fieldLink RX23 7 "OwnedPlacesModel" "text" "[I") (wm_c_sam 3 rfl)) (fun _ h9 => h9) rfl dX23_sameName_43 ?_
          refine lv_aload_n hx hb dX23_sameName_46 rfl (lv_at hl 2 rfl) ?_
          refine va_get (D := (dC, dI)) (ci := 23) (v := .ref (mr 6)) (C := RX23) (T := TX23) (N := 89) hx hb hts in_c_sam_X23 hown hK hP 0 rfl rfl 6 (by decide) (hts (.fieldLink RX23 31 "OwnedPlacesModel" "tokenAt" "[I") (wm_c_sam 2 rfl)) (fun _ h9 => h9) rfl dX23_sameName_47 ?_
          refine lv_iload_n hx hb dX23_sameName_50 rfl (lv_at hl 3 rfl) ?_
          refine va_iald hx hb hK hP 1 0 rfl rfl (vp_in_nI (show ta < 3002 by omega) (by decide)) dX23_sameName_51 ?_
          refine lv_topi (fun v_7 ev_7 => ?_)
          obtain rfl : v_7 = nI a1 := ev_7.trans (by rw [nI_clamp (by omega)]; exact ea1)
          refine lv_iload hx hb dX23_sameName_52 (lv_at hl 0 rfl) ?_
          refine lv_iadd hx hb dX23_sameName_54 ?_
          refine lv_topi (fun f_8 ef_8 => ?_)
          obtain rfl : f_8 = nI (a1 + i) := ef_8.trans (nI_add _ _)
          refine va_iald hx hb hK hP 3 0 rfl rfl (vp_in_nI (show a1 + i < 3000 by omega) (by decide)) dX23_sameName_55 ?_
          refine lv_topi (fun v_9 ev_9 => ?_)
          refine lv_aload_n hx hb dX23_sameName_56 rfl (lv_at hl 2 rfl) ?_
          refine va_get (D := (dC, dI)) (ci := 23) (v := .ref (mr 0)) (C := RX23) (T := TX23) (N := 89) hx hb hts in_c_sam_X23 hown hK hP 0 rfl rfl 0 (by decide) (hts (.fieldLink RX23 7 "OwnedPlacesModel" "text" "[I") (wm_c_sam 3 rfl)) (fun _ h9 => h9) rfl dX23_sameName_57 ?_
          refine lv_aload_n hx hb dX23_sameName_60 rfl (lv_at hl 2 rfl) ?_
          refine va_get (D := (dC, dI)) (ci := 23) (v := .ref (mr 6)) (C := RX23) (T := TX23) (N := 89) hx hb hts in_c_sam_X23 hown hK hP 0 rfl rfl 6 (by decide) (hts (.fieldLink RX23 31 "OwnedPlacesModel" "tokenAt" "[I") (wm_c_sam 2 rfl)) (fun _ h9 => h9) rfl dX23_sameName_61 ?_
          refine lv_iload_n hx hb dX23_sameName_64 rfl (lv_at hl 4 rfl) ?_
          refine va_iald hx hb hK hP 1 0 rfl rfl (vp_in_nI (show tb < 3002 by omega) (by decide)) dX23_sameName_65 ?_
          refine lv_topi (fun v_10 ev_10 => ?_)
          obtain rfl : v_10 = nI a2 := ev_10.trans (by rw [nI_clamp (by omega)]; exact ea2)
          refine lv_iload hx hb dX23_sameName_66 (lv_at hl 0 rfl) ?_
          refine lv_iadd hx hb dX23_sameName_68 ?_
          refine lv_topi (fun f_11 ef_11 => ?_)
          obtain rfl : f_11 = nI (a2 + i) := ef_11.trans (nI_add _ _)
          refine va_iald hx hb hK hP 3 0 rfl rfl (vp_in_nI (show a2 + i < 3000 by omega) (by decide)) dX23_sameName_69 ?_
          refine lv_topi (fun v_12 ev_12 => ?_)
          refine lv_icmp_eq (tgt := 75) hx hb dX23_sameName_70 (by decide) (fun hd => ?_) (fun hd => ?_)
          · obtain ⟨x_13, ex_13⟩ : ∃ yY : Int32, yY = (nI i) + 1 := ⟨_, rfl⟩
            refine lv_iinc (v := x_13) (lv' := [(4, .int x_13), (3, .int (nI (b1 - a1))), (0, .ref m9), (1, .int (nI ta)), (2, .int (nI tb))]) hx hb dX23_sameName_75 hl (k := 0) rfl (by rw [ex_13]; rfl) (by decide) rfl (fun ls hl => ?_)
            obtain rfl : x_13 = nI (i + 1) := by rw [ex_13]; exact nI_1 i
            have hl : lv_has ls 5 [(4, .int (nI (i + 1))), (3, .int (nI (b1 - a1))), (0, .ref m9), (1, .int (nI ta)), (2, .int (nI tb))] := hl
            refine lv_goto (tgt := 36) hx hb dX23_sameName_78 (by decide) ?_
            exact ih1 (i + 1) _ _ _ (by omega) (hP.sub [0, 1, 2, 3] rfl) (hD.sub [0, 1, 2, 3] (by decide) rfl) hS (lv_sub hl [0, 1, 2, 3, 4] rfl)
          · refine lv_iconst (v := 0) hx hb dX23_sameName_73 (by decide) ?_
            have hP9 := hP.sub (ws' := [(m9, .inr (23, mT mr mv vf ff xa (nI T) (nI im) (nI tm) xm (nI sc) (nI vm))), (mr 6, .inl (kI, 3002, .inl fa)), (mr 7, .inl (kI, 3002, .inl fe)), (mr 0, .inl (kI, 3000, .inl ft))]) [0, 1, 2, 3] rfl
            have hD9 := hD.sub (ws' := [(m9, .inr (23, mT mr mv vf ff xa (nI T) (nI im) (nI tm) xm (nI sc) (nI vm))), (mr 6, .inl (kI, 3002, .inl fa)), (mr 7, .inl (kI, 3002, .inl fe)), (mr 0, .inl (kI, 3000, .inl ft))]) [0, 1, 2, 3] (by decide) rfl
            have hK9 := hK.sub (tys' := [(kI, .int)]) [0] rfl
            subst hQ1
            exact W.zret (v := 0) hx hb hr (by decide) (fun tS ht hW => ⟨⟨0, (), rfl, Or.inl rfl, by rw [ht]; exact hP9, va_K.moved hW.alike hK9, hD9⟩, hS.F ht⟩) hS.2.2 dX23_sameName_74
    exact key1 (b1 - a1 + 1) 0 _ _ _ (by omega) (hP.sub [0, 1, 2, 3] rfl) (hD.sub [0, 1, 2, 3] (by decide) rfl) hS (lv_sub hl [0, 1, 2, 3, 4] rfl)
  · refine lv_iconst (v := 0) hx hb dX23_sameName_31 (by decide) ?_
    have hP9 := hP.sub (ws' := [(m9, .inr (23, mT mr mv vf ff xa (nI T) (nI im) (nI tm) xm (nI sc) (nI vm))), (mr 6, .inl (kI, 3002, .inl fa)), (mr 7, .inl (kI, 3002, .inl fe)), (mr 0, .inl (kI, 3000, .inl ft))]) [0, 1, 2, 3] rfl
    have hD9 := hD.sub (ws' := [(m9, .inr (23, mT mr mv vf ff xa (nI T) (nI im) (nI tm) xm (nI sc) (nI vm))), (mr 6, .inl (kI, 3002, .inl fa)), (mr 7, .inl (kI, 3002, .inl fe)), (mr 0, .inl (kI, 3000, .inl ft))]) [0, 1, 2, 3] (by decide) rfl
    have hK9 := hK.sub (tys' := [(kI, .int)]) [0] rfl
    exact W.zret (v := 0) hx hb hr (by decide) (fun tS ht hW => ⟨⟨0, (), rfl, Or.inl rfl, by rw [ht]; exact hP9, va_K.moved hW.alike hK9, hD9⟩, hS.F ht⟩) hS.2.2 dX23_sameName_32
