set_option maxRecDepth 20000 in
set_option maxHeartbeats 4000000 in
theorem k_X23_doAll (l : Launch) (D : va_G) (K : Ky) (m9 : Nat) (mr : Nat → Nat) (S0 Sf : Sg) (rf : Unit) (h : f_doAll K S0 = some (Sf, rf)) : CT l D K m9 mr yX23_doAll (Cond.code yX23_doAll cX23_doAll 3 none) (6) (142) S0 Sf [.ref m9] none := by
  refine x_start (cc := cX23_doAll) (lv := [(0, .ref m9)]) rfl rfl (by decide) (by simp [lv_args, cat_rf, cat_i, cat_l, cat_a]) (by simp [lg_sl, cat_rf, cat_i, cat_l, cat_a]) (fun p e R s m args below meth c Q A C => ?_)
  have j_0 : ∀ (n_0 : Nat) (S : Sg), f_doAll_0 K n_0 S = some (Sf, rf) → WX p l e R s m args below meth c Q D A K m9 mr 3 S0 S 0 [(0, .ref m9)] [] := by
    intro n_0
    induction n_0 with
    | zero => intro S h; unfold f_doAll_0 at h; cases h
    | succ n_0 ih_0 =>
      intro S h
      have j_112 : ∀ (S : Sg), f_doAll_112 K (f_doAll_0 K n_0) S = some (Sf, rf) → WX p l e R s m args below meth c Q D A K m9 mr 3 S0 S 112 [(0, .ref m9)] [] := by
        intro S h
        unfold f_doAll_112 at h
        refine x_goto (tgt := 0) C eX23_doAll_112 (by decide) ?_
        refine x_sub [0] rfl ?_
        exact ih_0 S h
      unfold f_doAll_0 at h
      refine x_tload_n C eX23_doAll_0 rfl 0 rfl ?_
      refine x_mV (k9 := 81) C (by decide) ww_802 eX23_doAll_1 rfl ?_
      refine x_if_le (tgt := 115) C eX23_doAll_4 (by decide) h (fun h => ?_) (fun h => ?_)
      · exact x_vret C rfl rfl eX23_doAll_115 h
      · refine x_tload_n C eX23_doAll_7 rfl 0 rfl ?_
        refine x_dup C eX23_doAll_8 rfl ?_
        refine x_mV (k9 := 81) C (by decide) ww_802 eX23_doAll_9 rfl ?_
        refine x_iconst (v := 1) C eX23_doAll_12 (by decide) ?_
        refine x_isub C eX23_doAll_13 ?_
        refine x_pM (k9 := 81) C (by decide) rfl (by decide) ww_802 rfl (by decide +kernel) eX23_doAll_14 h (fun S1 h => ?_)
        refine x_tload_n C eX23_doAll_17 rfl 0 rfl ?_
        refine x_mV (k9 := 18) C (by decide) ww_246 eX23_doAll_18 rfl ?_
        refine x_tload_n C eX23_doAll_21 rfl 0 rfl ?_
        refine x_mV (k9 := 79) C (by decide) ww_803 eX23_doAll_22 rfl ?_
        refine x_tload_n C eX23_doAll_25 rfl 0 rfl ?_
        refine x_mV (k9 := 81) C (by decide) ww_802 eX23_doAll_26 rfl ?_
        refine x_rI (r := 79) C (by decide) rfl eX23_doAll_29 h (fun v2 h => ?_)
        refine x_rQ (r := 18) (t9 := 4) C (by decide) rfl (by decide) rfl eX23_doAll_30 h (fun v3 h => ?_)
        refine x_astore_n (lv2 := [(0, .ref m9)]) C eX23_doAll_31 rfl (by decide) rfl (oky rfl ok0) ?_
        refine x_tload_n C eX23_doAll_32 rfl 1 rfl ?_
        refine x_mV (k9 := 80) C (by decide) ww_804 eX23_doAll_33 rfl ?_
        refine x_tload_n C eX23_doAll_36 rfl 1 rfl ?_
        refine x_mV (k9 := 81) C (by decide) ww_802 eX23_doAll_37 rfl ?_
        refine x_rI (r := 80) C (by decide) rfl eX23_doAll_40 h (fun v4 h => ?_)
        refine x_istore_n (lv2 := [(1, va_rf v3), (0, .ref m9)]) C eX23_doAll_41 rfl (by decide) rfl (oky (cat_rf v3) (oky rfl ok0)) ?_
        refine x_tload_n C eX23_doAll_42 rfl 2 rfl ?_
        refine x_mV (k9 := 78) C (by decide) ww_801 eX23_doAll_43 rfl ?_
        refine x_tload_n C eX23_doAll_46 rfl 2 rfl ?_
        refine x_mV (k9 := 81) C (by decide) ww_802 eX23_doAll_47 rfl ?_
        refine x_rI (r := 78) C (by decide) rfl eX23_doAll_50 h (fun v5 h => ?_)
        refine x_tabIn (v := 0) (tgt := 76) C eX23_doAll_51 (by decide) (by decide) rfl (by decide) h (fun h => ?_) (fun hq0 h => ?_)
        · refine x_tload_n C eX23_doAll_76 rfl 2 rfl ?_
          refine x_aload_n C eX23_doAll_77 rfl 1 rfl ?_
          refine x_iload_n C eX23_doAll_78 rfl 0 rfl ?_
          refine x_cVv (As := [va_rf v3, .int v4]) (st := []) (n := 2) (frc := 5) (loc := 120) C h (fun S9 r9 e9 => k_X23_dropPlace l D K m9 mr _ S9 v3 v4 r9 e9) ww_825 ww_830 ww_831 ww_832 ww_16 (by decide +kernel) rfl ⟨by omega, by omega⟩ (Nat.le_of_ble_eq_true rfl) eX23_doAll_79 (fun S6 v7 h => ?_)
          refine x_goto (tgt := 112) C eX23_doAll_82 (by decide) ?_
          refine x_sub [2] rfl ?_
          exact j_112 S6 h
        · refine x_tabIn (v := 1) (tgt := 85) C eX23_doAll_51 (by decide) (by decide) rfl (by decide) h (fun h => ?_) (fun hq1 h => ?_)
          · refine x_tload_n C eX23_doAll_85 rfl 2 rfl ?_
            refine x_aload_n C eX23_doAll_86 rfl 1 rfl ?_
            refine x_iload_n C eX23_doAll_87 rfl 0 rfl ?_
            refine x_cVv (As := [va_rf v3, .int v4]) (st := []) (n := 2) (frc := 2) (loc := 41) C h (fun S9 r9 e9 => k_X23_freePlace l D K m9 mr _ S9 v3 v4 r9 e9) ww_757 ww_833 ww_834 ww_835 ww_16 (by decide +kernel) rfl ⟨by omega, by omega⟩ (Nat.le_of_ble_eq_true rfl) eX23_doAll_88 (fun S8 v9 h => ?_)
            refine x_goto (tgt := 112) C eX23_doAll_91 (by decide) ?_
            refine x_sub [2] rfl ?_
            exact j_112 S8 h
          · refine x_tabIn (v := 2) (tgt := 94) C eX23_doAll_51 (by decide) (by decide) rfl (by decide) h (fun h => ?_) (fun hq2 h => ?_)
            · refine x_tload_n C eX23_doAll_94 rfl 2 rfl ?_
              refine x_iload_n C eX23_doAll_95 rfl 0 rfl ?_
              refine x_cVv (As := [.int v4]) (st := []) (n := 1) (frc := 2) (loc := 41) C h (fun S9 r9 e9 => k_X23_freeBlock l D K m9 mr _ S9 v4 r9 e9) ww_778 ww_836 ww_837 ww_838 ww_16 (by decide +kernel) rfl ⟨by omega, by omega⟩ (Nat.le_of_ble_eq_true rfl) eX23_doAll_96 (fun S10 v11 h => ?_)
              refine x_tload_n C eX23_doAll_99 rfl 2 rfl ?_
              refine x_iload_n C eX23_doAll_100 rfl 0 rfl ?_
              refine x_cVv (As := [.int v4]) (st := []) (n := 1) (frc := 1) (loc := 20) C h (fun S9 r9 e9 => k_X23_freeNode l D K m9 mr _ S9 v4 r9 e9) ww_743 ww_758 ww_759 ww_760 ww_16 (by decide +kernel) rfl ⟨by omega, by omega⟩ (Nat.le_of_ble_eq_true rfl) eX23_doAll_101 (fun S12 v13 h => ?_)
              refine x_goto (tgt := 112) C eX23_doAll_104 (by decide) ?_
              refine x_sub [2] rfl ?_
              exact j_112 S12 h
            · have hq0i : (v5 : Int32).toInt ≠ 0 := fun q9 => hq0 (Int32.toInt_inj.mp q9)
              have hq1i : (v5 : Int32).toInt ≠ 1 := fun q9 => hq1 (Int32.toInt_inj.mp q9)
              have hq2i : (v5 : Int32).toInt ≠ 2 := fun q9 => hq2 (Int32.toInt_inj.mp q9)
              refine x_tabOut (tgt := 107) C eX23_doAll_51 (by omega) (by decide) ?_
              refine x_tload_n C eX23_doAll_107 rfl 2 rfl ?_
              refine x_iload_n C eX23_doAll_108 rfl 0 rfl ?_
              refine x_cVv (As := [.int v4]) (st := []) (n := 1) (frc := 1) (loc := 20) C h (fun S9 r9 e9 => k_X23_freeNode l D K m9 mr _ S9 v4 r9 e9) ww_743 ww_758 ww_759 ww_760 ww_16 (by decide +kernel) rfl ⟨by omega, by omega⟩ (Nat.le_of_ble_eq_true rfl) eX23_doAll_109 (fun S14 v15 h => ?_)
              refine x_sub [2] rfl ?_
              exact j_112 S14 h
  unfold f_doAll at h
  refine x_sub [0] rfl ?_
  exact j_0 bigN S0 h
set_option maxRecDepth 20000 in
set_option maxHeartbeats 4000000 in
theorem k_X23_writeWord (l : Launch) (D : va_G) (K : Ky) (m9 : Nat) (mr : Nat → Nat) (S0 Sf : Sg) (x1 : Int64) (rf : Unit) (h : f_writeWord K S0 x1 = some (Sf, rf)) : CT l D K m9 mr yX23_writeWord (Cond.code yX23_writeWord cX23_writeWord 4 none) (2) (41) S0 Sf [.ref m9, .long x1] none := by
  refine x_start (cc := cX23_writeWord) (lv := [(0, .ref m9), (1, .long x1)]) rfl rfl (by decide) (by simp [lv_args, cat_rf, cat_i, cat_l, cat_a]) (by simp [lg_sl, cat_rf, cat_i, cat_l, cat_a]) (fun p e R s m args below meth c Q A C => ?_)
  have j_3 : ∀ (n_3 : Nat) (S : Sg) (x1 : Int64) (x3 : Int32), f_writeWord_3 K n_3 S x1 x3 = some (Sf, rf) → WX p l e R s m args below meth c Q D A K m9 mr 4 S0 S 3 [(0, .ref m9), (1, .long x1), (3, .int x3)] [] := by
    intro n_3
    induction n_3 with
    | zero => intro S x1 x3 h; unfold f_writeWord_3 at h; cases h
    | succ n_3 ih_3 =>
      intro S x1 x3 h
      have j_31 : ∀ (S : Sg) (x1 : Int64) (x3 : Int32), f_writeWord_31 K (f_writeWord_3 K n_3) S x1 x3 = some (Sf, rf) → WX p l e R s m args below meth c Q D A K m9 mr 4 S0 S 31 [(0, .ref m9), (1, .long x1), (3, .int x3)] [] := by
        intro S x1 x3 h
        unfold f_writeWord_31 at h
        refine x_iinc (j := 2) (v := (-8)) (lv2 := [(0, .ref m9), (1, .long x1)]) C eX23_writeWord_31 rfl (by decide) (by decide) rfl (oky rfl (okn (Nat.ne_of_beq_eq_false rfl) ok0)) ?_
        refine x_goto (tgt := 3) C eX23_writeWord_34 (by decide) ?_
        refine x_sub [1, 2, 0] rfl ?_
        exact ih_3 S x1 (x3 + (-8)) h
      unfold f_writeWord_3 at h
      refine x_iload_n C eX23_writeWord_3 rfl 2 rfl ?_
      refine x_if_lt (tgt := 37) C eX23_writeWord_4 (by decide) h (fun h => ?_) (fun h => ?_)
      · exact x_vret C rfl rfl eX23_writeWord_37 h
      · refine x_lload_n C eX23_writeWord_7 rfl 1 rfl ?_
        refine x_iload_n C eX23_writeWord_8 rfl 2 rfl ?_
        refine x_lushr C eX23_writeWord_9 ?_
        refine x_ldc2 C eX23_writeWord_10 ww_849 ?_
        refine x_land C eX23_writeWord_13 ?_
        refine x_lconst (v := 0) C eX23_writeWord_14 (by decide) ?_
        refine x_lcmp C eX23_writeWord_15 ?_
        refine x_if_eq (tgt := 31) C eX23_writeWord_16 (by decide) h (fun h => ?_) (fun h => ?_)
        · refine x_sub [0, 1, 2] rfl ?_
          exact j_31 S x1 x3 h
        · refine x_tload_n C eX23_writeWord_19 rfl 0 rfl ?_
          refine x_lload_n C eX23_writeWord_20 rfl 1 rfl ?_
          refine x_iload_n C eX23_writeWord_21 rfl 2 rfl ?_
          refine x_lushr C eX23_writeWord_22 ?_
          refine x_ldc2 C eX23_writeWord_23 ww_849 ?_
          refine x_land C eX23_writeWord_26 ?_
          refine x_l2i C eX23_writeWord_27 ?_
          refine x_cVv (As := [.int (Int64.toInt32 ((lushF x1 x3) &&& 255))]) (st := []) (n := 1) (frc := 1) (loc := 20) C h (fun S9 r9 e9 => k_X23_write l D K m9 mr _ S9 (Int64.toInt32 ((lushF x1 x3) &&& 255)) r9 e9) ww_839 ww_813 ww_814 ww_815 ww_16 (by decide +kernel) rfl ⟨by omega, by omega⟩ (Nat.le_of_ble_eq_true rfl) eX23_writeWord_28 (fun S1 v2 h => ?_)
          refine x_sub [0, 1, 2] rfl ?_
          exact j_31 S1 x1 x3 h
  unfold f_writeWord at h
  refine x_bipush (v := 56) C eX23_writeWord_0 (by decide) ?_
  refine x_istore_n (lv2 := [(0, .ref m9), (1, .long x1)]) C eX23_writeWord_2 rfl (by decide) rfl (oky rfl (okn (Nat.ne_of_beq_eq_false rfl) ok0)) ?_
  refine x_sub [1, 2, 0] rfl ?_
  exact j_3 bigN S0 x1 56 h
set_option maxRecDepth 20000 in
set_option maxHeartbeats 4000000 in
theorem k_X23_slot (l : Launch) (D : va_G) (K : Ky) (m9 : Nat) (mr : Nat → Nat) (S0 Sf : Sg) (x1 : Option Nat) (rf : Int32) (h : f_slot K S0 x1 = some (Sf, rf)) : CT l D K m9 mr yX23_slot (Cond.code yX23_slot cX23_slot 2 (some .int)) (1) (20) S0 Sf [.ref m9, va_rf x1] (some (.int rf)) := by
  refine x_start (cc := cX23_slot) (lv := [(0, .ref m9), (1, va_rf x1)]) rfl rfl (by decide) (by simp [lv_args, cat_rf, cat_i, cat_l, cat_a]) (by simp [lg_sl, cat_rf, cat_i, cat_l, cat_a]) (fun p e R s m args below meth c Q A C => ?_)
  unfold f_slot at h
  refine x_bipush (v := 40) C eX23_slot_0 (by decide) ?_
  refine x_tload_n C eX23_slot_2 rfl 0 rfl ?_
  refine x_mV (k9 := 76) C (by decide) ww_855 eX23_slot_3 rfl ?_
  refine x_iconst (v := 1) C eX23_slot_6 (by decide) ?_
  refine x_isub C eX23_slot_7 ?_
  refine x_imul C eX23_slot_8 ?_
  refine x_aload_n C eX23_slot_9 rfl 1 rfl ?_
  refine x_gI (o9 := x1) (ci := 21) (k9 := 0) (Cn := RX21) (T := TX21) (N := 5) C rfl wt_X21 (by decide) ww_327 eX23_slot_10 h (fun v1 h => ?_)
  refine x_iadd C eX23_slot_13 ?_
  exact x_iret C rfl rfl eX23_slot_14 h
set_option maxRecDepth 20000 in
set_option maxHeartbeats 4000000 in
theorem k_X23_find (l : Launch) (D : va_G) (K : Ky) (m9 : Nat) (mr : Nat → Nat) (S0 Sf : Sg) (x1 : Option Nat) (x2 : Int32) (rf : Int32) (h : f_find K S0 x1 x2 = some (Sf, rf)) : CT l D K m9 mr yX23_find (Cond.code yX23_find cX23_find 7 (some .int)) (3) (69) S0 Sf [.ref m9, va_rf x1, .int x2] (some (.int rf)) := by
  refine x_start (cc := cX23_find) (lv := [(0, .ref m9), (1, va_rf x1), (2, .int x2)]) rfl rfl (by decide) (by simp [lv_args, cat_rf, cat_i, cat_l, cat_a]) (by simp [lg_sl, cat_rf, cat_i, cat_l, cat_a]) (fun p e R s m args below meth c Q A C => ?_)
  have j_17 : ∀ (n_17 : Nat) (S : Sg) (x1 : Option Nat) (x2 : Int32) (x3 : Int32) (x4 : Int32), f_find_17 K n_17 S x1 x2 x3 x4 = some (Sf, rf) → WX p l e R s m args below meth c Q D A K m9 mr 7 S0 S 17 [(0, .ref m9), (1, va_rf x1), (2, .int x2), (3, .int x3), (4, .int x4)] [] := by
    intro n_17
    induction n_17 with
    | zero => intro S x1 x2 x3 x4 h; unfold f_find_17 at h; cases h
    | succ n_17 ih_17 =>
      intro S x1 x2 x3 x4 h
      have j_162 : ∀ (S : Sg) (x1 : Option Nat) (x2 : Int32) (x3 : Int32) (x4 : Int32), f_find_162 K (f_find_17 K n_17) S x1 x2 x3 x4 = some (Sf, rf) → WX p l e R s m args below meth c Q D A K m9 mr 7 S0 S 162 [(0, .ref m9), (1, va_rf x1), (2, .int x2), (3, .int x3), (4, .int x4)] [] := by
        intro S x1 x2 x3 x4 h
        unfold f_find_162 at h
        refine x_iinc (j := 4) (v := 1) (lv2 := [(0, .ref m9), (1, va_rf x1), (2, .int x2), (3, .int x3)]) C eX23_find_162 rfl (by decide) (by decide) rfl (oky rfl (oky (cat_rf x1) (oky rfl (oky rfl ok0)))) ?_
        refine x_goto (tgt := 17) C eX23_find_165 (by decide) ?_
        refine x_sub [1, 2, 3, 4, 0] rfl ?_
        exact ih_17 S x1 x2 x3 (x4 + 1) h
      have j_161 : ∀ (S : Sg) (x1 : Option Nat) (x2 : Int32) (x4 : Int32) (y0 : Int32), f_find_161 K (f_find_17 K n_17) S x1 x2 x4 y0 = some (Sf, rf) → WX p l e R s m args below meth c Q D A K m9 mr 7 S0 S 161 [(0, .ref m9), (1, va_rf x1), (2, .int x2), (4, .int x4)] [.int y0] := by
        intro S x1 x2 x4 y0 h
        unfold f_find_161 at h
        refine x_istore_n (lv2 := [(0, .ref m9), (1, va_rf x1), (2, .int x2), (4, .int x4)]) C eX23_find_161 rfl (by decide) rfl (oky rfl (oky (cat_rf x1) (oky rfl (oky rfl ok0)))) ?_
        refine x_sub [1, 2, 3, 0, 4] rfl ?_
        exact j_162 S x1 x2 y0 x4 h
      unfold f_find_17 at h
      refine x_iload C eX23_find_17 4 rfl ?_
      refine x_iload_n C eX23_find_19 rfl 2 rfl ?_
      refine x_ic_ge (tgt := 168) C eX23_find_20 (by decide) h (fun h => ?_) (fun h => ?_)
      · refine x_iload_n C eX23_find_168 rfl 3 rfl ?_
        exact x_iret C rfl rfl eX23_find_169 h
      · refine x_aload_n C eX23_find_23 rfl 1 rfl ?_
        refine x_gR (o9 := x1) (ci := 18) (k9 := 2) (Cn := RX18) (T := TX18) (N := 4) C rfl wt_X18 (by decide) ww_516 eX23_find_24 h (fun v5 h => ?_)
        refine x_iload C eX23_find_27 4 rfl ?_
        refine x_aI C eX23_find_29 h (fun v6 h => ?_)
        refine x_istore (lv2 := [(0, .ref m9), (1, va_rf x1), (2, .int x2), (3, .int x3), (4, .int x4)]) C eX23_find_30 (by decide) rfl (oky rfl (oky (cat_rf x1) (oky rfl (oky rfl (oky rfl ok0))))) ?_
        refine x_aload_n C eX23_find_32 rfl 2 rfl ?_
        refine x_gR (o9 := x1) (ci := 18) (k9 := 3) (Cn := RX18) (T := TX18) (N := 4) C rfl wt_X18 (by decide) ww_511 eX23_find_33 h (fun v7 h => ?_)
        refine x_iload C eX23_find_36 5 rfl ?_
        refine x_aQ (t9 := 4) C rfl eX23_find_38 h (fun v8 h => ?_)
        refine x_astore (lv2 := [(5, .int v6), (0, .ref m9), (1, va_rf x1), (2, .int x2), (3, .int x3), (4, .int x4)]) C eX23_find_39 (by decide) rfl (oky rfl (oky rfl (oky (cat_rf x1) (oky rfl (oky rfl (oky rfl ok0)))))) ?_
        refine x_iload C eX23_find_41 1 rfl ?_
        refine x_sipush (v := 1000) C eX23_find_43 (by decide) ?_
        refine x_ic_lt (tgt := 102) C eX23_find_46 (by decide) h (fun h => ?_) (fun h => ?_)
        · refine x_iload C eX23_find_102 1 rfl ?_
          refine x_if_lt (tgt := 131) C eX23_find_104 (by decide) h (fun h => ?_) (fun h => ?_)
          · refine x_aload C eX23_find_131 0 rfl ?_
            refine x_gI (o9 := v8) (ci := 20) (k9 := 0) (Cn := RX20) (T := TX20) (N := 4) C rfl wt_X20 (by decide) ww_247 eX23_find_133 h (fun v9 h => ?_)
            refine x_iconst (v := 5) C eX23_find_136 (by decide) ?_
            refine x_ic_ne (tgt := 154) C eX23_find_137 (by decide) h (fun h => ?_) (fun h => ?_)
            · refine x_tload_n C eX23_find_154 rfl 2 rfl ?_
              refine x_mV (k9 := 61) C (by decide) ww_741 eX23_find_155 rfl ?_
              refine x_iload_n C eX23_find_158 rfl 5 rfl ?_
              refine x_rJ (r := 61) C (by decide) rfl eX23_find_159 h (fun v10 h => ?_)
              refine x_l2i C eX23_find_160 ?_
              refine x_sub [2, 3, 4, 6] rfl ?_
              exact j_161 S x1 x2 x4 (Int64.toInt32 v10) h
            · refine x_tload_n C eX23_find_140 rfl 2 rfl ?_
              refine x_tload_n C eX23_find_141 rfl 2 rfl ?_
              refine x_mV (k9 := 61) C (by decide) ww_741 eX23_find_142 rfl ?_
              refine x_iload_n C eX23_find_145 rfl 5 rfl ?_
              refine x_rJ (r := 61) C (by decide) rfl eX23_find_146 h (fun v11 h => ?_)
              refine x_l2i C eX23_find_147 ?_
              refine x_cVi (As := [.int (Int64.toInt32 v11)]) (st := []) (n := 1) (frc := 1) (loc := 20) C h (fun S9 r9 e9 => k_X23_kidOf l D K m9 mr _ S9 (Int64.toInt32 v11) r9 e9) ww_771 ww_822 ww_823 ww_824 ww_16 (by decide +kernel) rfl ⟨by omega, by omega⟩ (Nat.le_of_ble_eq_true rfl) eX23_find_148 (fun S12 v13 h => ?_)
              refine x_goto (tgt := 161) C eX23_find_151 (by decide) ?_
              refine x_sub [2, 3, 4, 6] rfl ?_
              exact j_161 S12 x1 x2 x4 v13 h
          · refine x_tload_n C eX23_find_107 rfl 2 rfl ?_
            refine x_tload_n C eX23_find_108 rfl 2 rfl ?_
            refine x_mV (k9 := 11) C (by decide) ww_114 eX23_find_109 rfl ?_
            refine x_aload C eX23_find_112 0 rfl ?_
            refine x_gI (o9 := v8) (ci := 20) (k9 := 1) (Cn := RX20) (T := TX20) (N := 4) C rfl wt_X20 (by decide) ww_248 eX23_find_114 h (fun v14 h => ?_)
            refine x_rQ (r := 11) (t9 := 3) C (by decide) rfl (by decide) rfl eX23_find_117 h (fun v15 h => ?_)
            refine x_gR (o9 := v15) (ci := 16) (k9 := 10) (Cn := RX16) (T := TX16) (N := 22) C rfl wt_X16 (by decide) ww_73 eX23_find_118 h (fun v16 h => ?_)
            refine x_iload_n C eX23_find_121 rfl 5 rfl ?_
            refine x_iload C eX23_find_122 1 rfl ?_
            refine x_cVi (As := [va_rf v16, .int x3, .int v6]) (st := []) (n := 3) (frc := 2) (loc := 44) C h (fun S9 r9 e9 => k_X23_partOf l D K m9 mr _ S9 v16 x3 v6 r9 e9) ww_753 ww_806 ww_807 ww_808 ww_16 (by decide +kernel) rfl ⟨by omega, by omega⟩ (Nat.le_of_ble_eq_true rfl) eX23_find_124 (fun S17 v18 h => ?_)
            refine x_istore_n (lv2 := [(6, va_rf v8), (5, .int v6), (0, .ref m9), (1, va_rf x1), (2, .int x2), (4, .int x4)]) C eX23_find_127 rfl (by decide) rfl (oky (cat_rf v8) (oky rfl (oky rfl (oky (cat_rf x1) (oky rfl (oky rfl ok0)))))) ?_
            refine x_goto (tgt := 162) C eX23_find_128 (by decide) ?_
            refine x_sub [3, 4, 5, 0, 6] rfl ?_
            exact j_162 S17 x1 x2 v18 x4 h
        · refine x_tload_n C eX23_find_49 rfl 2 rfl ?_
          refine x_tload_n C eX23_find_50 rfl 2 rfl ?_
          refine x_mV (k9 := 11) C (by decide) ww_114 eX23_find_51 rfl ?_
          refine x_aload C eX23_find_54 0 rfl ?_
          refine x_gI (o9 := v8) (ci := 20) (k9 := 1) (Cn := RX20) (T := TX20) (N := 4) C rfl wt_X20 (by decide) ww_248 eX23_find_56 h (fun v19 h => ?_)
          refine x_rQ (r := 11) (t9 := 3) C (by decide) rfl (by decide) rfl eX23_find_59 h (fun v20 h => ?_)
          refine x_gR (o9 := v20) (ci := 16) (k9 := 11) (Cn := RX16) (T := TX16) (N := 22) C rfl wt_X16 (by decide) ww_65 eX23_find_60 h (fun v21 h => ?_)
          refine x_iload C eX23_find_63 1 rfl ?_
          refine x_sipush (v := 1000) C eX23_find_65 (by decide) ?_
          refine x_isub C eX23_find_68 ?_
          refine x_iconst (v := 4) C eX23_find_69 (by decide) ?_
          refine x_ishr C eX23_find_70 ?_
          refine x_aQ (t9 := 13) C rfl eX23_find_71 h (fun v22 h => ?_)
          refine x_gR (o9 := v22) (ci := 17) (k9 := 2) (Cn := RX17) (T := TX17) (N := 3) C rfl wt_X17 (by decide) ww_68 eX23_find_72 h (fun v23 h => ?_)
          refine x_tload_n C eX23_find_75 rfl 2 rfl ?_
          refine x_tload_n C eX23_find_76 rfl 2 rfl ?_
          refine x_mV (k9 := 61) C (by decide) ww_741 eX23_find_77 rfl ?_
          refine x_iload_n C eX23_find_80 rfl 5 rfl ?_
          refine x_rJ (r := 61) C (by decide) rfl eX23_find_81 h (fun v24 h => ?_)
          refine x_l2i C eX23_find_82 ?_
          refine x_cVi (As := [.int (Int64.toInt32 v24)]) (st := [va_rf v23, .ref m9]) (n := 1) (frc := 1) (loc := 20) C h (fun S9 r9 e9 => k_X23_kidOf l D K m9 mr _ S9 (Int64.toInt32 v24) r9 e9) ww_771 ww_822 ww_823 ww_824 ww_16 (by decide +kernel) rfl ⟨by omega, by omega⟩ (Nat.le_of_ble_eq_true rfl) eX23_find_83 (fun S25 v26 h => ?_)
          refine x_iload C eX23_find_86 1 rfl ?_
          refine x_sipush (v := 1000) C eX23_find_88 (by decide) ?_
          refine x_isub C eX23_find_91 ?_
          refine x_bipush (v := 15) C eX23_find_92 (by decide) ?_
          refine x_iand C eX23_find_94 ?_
          refine x_cVi (As := [va_rf v23, .int v26, .int ((v6 - 1000) &&& 15)]) (st := []) (n := 3) (frc := 2) (loc := 44) C h (fun S9 r9 e9 => k_X23_partOf l D K m9 mr _ S9 v23 v26 ((v6 - 1000) &&& 15) r9 e9) ww_753 ww_806 ww_807 ww_808 ww_16 (by decide +kernel) rfl ⟨by omega, by omega⟩ (Nat.le_of_ble_eq_true rfl) eX23_find_95 (fun S27 v28 h => ?_)
          refine x_istore_n (lv2 := [(6, va_rf v8), (5, .int v6), (0, .ref m9), (1, va_rf x1), (2, .int x2), (4, .int x4)]) C eX23_find_98 rfl (by decide) rfl (oky (cat_rf v8) (oky rfl (oky rfl (oky (cat_rf x1) (oky rfl (oky rfl ok0)))))) ?_
          refine x_goto (tgt := 162) C eX23_find_99 (by decide) ?_
          refine x_sub [3, 4, 5, 0, 6] rfl ?_
          exact j_162 S27 x1 x2 v28 x4 h
  unfold f_find at h
  refine x_tload_n C eX23_find_0 rfl 0 rfl ?_
  refine x_mV (k9 := 74) C (by decide) ww_857 eX23_find_1 rfl ?_
  refine x_tload_n C eX23_find_4 rfl 0 rfl ?_
  refine x_aload_n C eX23_find_5 rfl 1 rfl ?_
  refine x_gR (o9 := x1) (ci := 18) (k9 := 0) (Cn := RX18) (T := TX18) (N := 4) C rfl wt_X18 (by decide) ww_510 eX23_find_6 h (fun v1 h => ?_)
  refine x_cVi (As := [va_rf v1]) (st := [.ref (mr 74)]) (n := 1) (frc := 1) (loc := 20) C h (fun S9 r9 e9 => k_X23_slot l D K m9 mr _ S9 v1 r9 e9) ww_854 ww_858 ww_859 ww_860 ww_16 (by decide +kernel) rfl ⟨by omega, by omega⟩ (Nat.le_of_ble_eq_true rfl) eX23_find_9 (fun S2 v3 h => ?_)
  refine x_rI (r := 74) C (by decide) rfl eX23_find_12 h (fun v4 h => ?_)
  refine x_istore_n (lv2 := [(0, .ref m9), (1, va_rf x1), (2, .int x2)]) C eX23_find_13 rfl (by decide) rfl (oky rfl (oky (cat_rf x1) (oky rfl ok0))) ?_
  refine x_iconst (v := 0) C eX23_find_14 (by decide) ?_
  refine x_istore (lv2 := [(3, .int v4), (0, .ref m9), (1, va_rf x1), (2, .int x2)]) C eX23_find_15 (by decide) rfl (oky rfl (oky rfl (oky (cat_rf x1) (oky rfl ok0)))) ?_
  refine x_sub [2, 3, 4, 1, 0] rfl ?_
  exact j_17 bigN S2 x1 x2 v4 0 h
set_option maxRecDepth 20000 in
set_option maxHeartbeats 4000000 in
theorem k_X23_runRead (l : Launch) (D : va_G) (K : Ky) (m9 : Nat) (mr : Nat → Nat) (S0 Sf : Sg) (x1 : Int32) (rf : Unit) (h : f_runRead K S0 x1 = some (Sf, rf)) : CT l D K m9 mr yX23_runRead (Cond.code yX23_runRead cX23_runRead 6 none) (4) (95) S0 Sf [.ref m9, .int x1] none := by
  refine x_start (cc := cX23_runRead) (lv := [(0, .ref m9), (1, .int x1)]) rfl rfl (by decide) (by simp [lv_args, cat_rf, cat_i, cat_l, cat_a]) (by simp [lg_sl, cat_rf, cat_i, cat_l, cat_a]) (fun p e R s m args below meth c Q A C => ?_)
  have j_165 : ∀ (S : Sg), f_runRead_165 K S = some (Sf, rf) → WX p l e R s m args below meth c Q D A K m9 mr 6 S0 S 165 [] [] := by
    intro S h
    unfold f_runRead_165 at h
    exact x_vret C rfl rfl eX23_runRead_165 h
  have j_153 : ∀ (S : Sg) (x4 : Int32), f_runRead_153 K S x4 = some (Sf, rf) → WX p l e R s m args below meth c Q D A K m9 mr 6 S0 S 153 [(0, .ref m9), (4, .int x4)] [] := by
    intro S x4 h
    unfold f_runRead_153 at h
    refine x_tload_n C eX23_runRead_153 rfl 0 rfl ?_
    refine x_iload C eX23_runRead_154 1 rfl ?_
    refine x_cVv (As := [.int x4]) (st := []) (n := 1) (frc := 2) (loc := 41) C h (fun S9 r9 e9 => k_X23_freeBlock l D K m9 mr _ S9 x4 r9 e9) ww_778 ww_836 ww_837 ww_838 ww_16 (by decide +kernel) rfl ⟨by omega, by omega⟩ (Nat.le_of_ble_eq_true rfl) eX23_runRead_156 (fun S40 v41 h => ?_)
    refine x_tload_n C eX23_runRead_159 rfl 0 rfl ?_
    refine x_iload C eX23_runRead_160 1 rfl ?_
    refine x_cVv (As := [.int x4]) (st := []) (n := 1) (frc := 1) (loc := 20) C h (fun S9 r9 e9 => k_X23_freeNode l D K m9 mr _ S9 x4 r9 e9) ww_743 ww_758 ww_759 ww_760 ww_16 (by decide +kernel) rfl ⟨by omega, by omega⟩ (Nat.le_of_ble_eq_true rfl) eX23_runRead_162 (fun S42 v43 h => ?_)
    refine x_sub [] rfl ?_
    exact j_165 S42 h
  have j_133 : ∀ (S : Sg) (x2 : Option Nat) (x4 : Int32) (x5 : Int32) (y0 : Int64), f_runRead_133 K S x2 x4 x5 y0 = some (Sf, rf) → WX p l e R s m args below meth c Q D A K m9 mr 6 S0 S 133 [(0, .ref m9), (2, va_rf x2), (4, .int x4), (5, .int x5)] [.long y0, .ref m9] := by
    intro S x2 x4 x5 y0 h
    unfold f_runRead_133 at h
    refine x_cVv (As := [.long y0]) (st := []) (n := 1) (frc := 1) (loc := 20) C h (fun S9 r9 e9 => k_X23_push l D K m9 mr _ S9 y0 r9 e9) ww_850 ww_797 ww_798 ww_799 ww_16 (by decide +kernel) rfl ⟨by omega, by omega⟩ (Nat.le_of_ble_eq_true rfl) eX23_runRead_133 (fun S32 v33 h => ?_)
    refine x_aload_n C eX23_runRead_136 rfl 1 rfl ?_
    refine x_cOr (As := []) (st := []) (ci := 18) (T := TX18) (n := 0) (frc := 1) (loc := 20) C rfl h (fun b9 S9 r9 e9 => k_X18_type l D K m9 mr _ S9 b9 r9 e9) ww_964 ww_518 ww_519 ww_520 ww_507 (by decide +kernel) rfl ⟨by omega, by omega⟩ (Nat.le_of_ble_eq_true rfl) eX23_runRead_137 (fun S34 v35 h => ?_)
    refine x_gI (o9 := v35) (ci := 20) (k9 := 0) (Cn := RX20) (T := TX20) (N := 4) C rfl wt_X20 (by decide) ww_247 eX23_runRead_140 h (fun v37 h => ?_)
    refine x_iconst (v := 3) C eX23_runRead_143 (by decide) ?_
    refine x_ic_eq (tgt := 153) C eX23_runRead_144 (by decide) h (fun h => ?_) (fun h => ?_)
    · refine x_sub [0, 2] rfl ?_
      exact j_153 S34 x4 h
    · refine x_tload_n C eX23_runRead_147 rfl 0 rfl ?_
      refine x_iload C eX23_runRead_148 3 rfl ?_
      refine x_cVv (As := [.int x5]) (st := []) (n := 1) (frc := 1) (loc := 20) C h (fun S9 r9 e9 => k_X23_freeNode l D K m9 mr _ S9 x5 r9 e9) ww_743 ww_758 ww_759 ww_760 ww_16 (by decide +kernel) rfl ⟨by omega, by omega⟩ (Nat.le_of_ble_eq_true rfl) eX23_runRead_150 (fun S38 v39 h => ?_)
      refine x_sub [0, 2] rfl ?_
      exact j_153 S38 x4 h
  unfold f_runRead at h
  refine x_tload_n C eX23_runRead_0 rfl 0 rfl ?_
  refine x_mV (k9 := 38) C (by decide) ww_496 eX23_runRead_1 rfl ?_
  refine x_iload_n C eX23_runRead_4 rfl 1 rfl ?_
  refine x_rQ (r := 38) (t9 := 6) C (by decide) rfl (by decide) rfl eX23_runRead_5 h (fun v1 h => ?_)
  refine x_astore_n (lv2 := [(0, .ref m9), (1, .int x1)]) C eX23_runRead_6 rfl (by decide) rfl (oky rfl (oky rfl ok0)) ?_
  refine x_tload_n C eX23_runRead_7 rfl 1 rfl ?_
  refine x_mV (k9 := 33) C (by decide) ww_491 eX23_runRead_8 rfl ?_
  refine x_iload_n C eX23_runRead_11 rfl 2 rfl ?_
  refine x_rI (r := 33) C (by decide) rfl eX23_runRead_12 h (fun v2 h => ?_)
  refine x_iconst (v := 1) C eX23_runRead_13 (by decide) ?_
  refine x_ic_ne (tgt := 38) C eX23_runRead_14 (by decide) h (fun h => ?_) (fun h => ?_)
  · refine x_tload_n C eX23_runRead_38 rfl 1 rfl ?_
    refine x_mV (k9 := 33) C (by decide) ww_491 eX23_runRead_39 rfl ?_
    refine x_iload_n C eX23_runRead_42 rfl 2 rfl ?_
    refine x_rI (r := 33) C (by decide) rfl eX23_runRead_43 h (fun v3 h => ?_)
    refine x_iconst (v := 4) C eX23_runRead_44 (by decide) ?_
    refine x_ic_ne (tgt := 72) C eX23_runRead_45 (by decide) h (fun h => ?_) (fun h => ?_)
    · refine x_tload_n C eX23_runRead_72 rfl 1 rfl ?_
      refine x_aload_n C eX23_runRead_73 rfl 0 rfl ?_
      refine x_aload_n C eX23_runRead_74 rfl 0 rfl ?_
      refine x_gI (o9 := v1) (ci := 18) (k9 := 1) (Cn := RX18) (T := TX18) (N := 4) C rfl wt_X18 (by decide) ww_535 eX23_runRead_75 h (fun v4 h => ?_)
      refine x_iconst (v := 1) C eX23_runRead_78 (by decide) ?_
      refine x_isub C eX23_runRead_79 ?_
      refine x_cVi (As := [va_rf v1, .int (v4 - 1)]) (st := []) (n := 2) (frc := 3) (loc := 69) C h (fun S9 r9 e9 => k_X23_find l D K m9 mr _ S9 v1 (v4 - 1) r9 e9) ww_856 ww_862 ww_863 ww_864 ww_16 (by decide +kernel) rfl ⟨by omega, by omega⟩ (Nat.le_of_ble_eq_true rfl) eX23_runRead_80 (fun S5 v6 h => ?_)
      refine x_istore_n (lv2 := [(2, va_rf v1), (0, .ref m9), (1, .int x1)]) C eX23_runRead_83 rfl (by decide) rfl (oky (cat_rf v1) (oky rfl (oky rfl ok0))) ?_
      refine x_tload_n C eX23_runRead_84 rfl 2 rfl ?_
      refine x_mV (k9 := 61) C (by decide) ww_741 eX23_runRead_85 rfl ?_
      refine x_iload_n C eX23_runRead_88 rfl 0 rfl ?_
      refine x_rJ (r := 61) C (by decide) rfl eX23_runRead_89 h (fun v7 h => ?_)
      refine x_l2i C eX23_runRead_90 ?_
      refine x_istore (lv2 := [(3, .int v6), (2, va_rf v1), (0, .ref m9), (1, .int x1)]) C eX23_runRead_91 (by decide) rfl (oky rfl (oky (cat_rf v1) (oky rfl (oky rfl ok0)))) ?_
      refine x_tload_n C eX23_runRead_93 rfl 3 rfl ?_
      refine x_mV (k9 := 62) C (by decide) ww_742 eX23_runRead_94 rfl ?_
      refine x_iload_n C eX23_runRead_97 rfl 1 rfl ?_
      refine x_iconst (v := 0) C eX23_runRead_98 (by decide) ?_
      refine x_wZ (r := 62) C (by decide) rfl eX23_runRead_99 h (fun S8 h => ?_)
      refine x_tload_n C eX23_runRead_100 rfl 3 rfl ?_
      refine x_iload C eX23_runRead_101 0 rfl ?_
      refine x_cVi (As := [.int (Int64.toInt32 v7)]) (st := []) (n := 1) (frc := 1) (loc := 20) C h (fun S9 r9 e9 => k_X23_kidOf l D K m9 mr _ S9 (Int64.toInt32 v7) r9 e9) ww_771 ww_822 ww_823 ww_824 ww_16 (by decide +kernel) rfl ⟨by omega, by omega⟩ (Nat.le_of_ble_eq_true rfl) eX23_runRead_103 (fun S9 v10 h => ?_)
      refine x_istore (lv2 := [(4, .int (Int64.toInt32 v7)), (3, .int v6), (2, va_rf v1), (0, .ref m9), (1, .int x1)]) C eX23_runRead_106 (by decide) rfl (oky rfl (oky rfl (oky (cat_rf v1) (oky rfl (oky rfl ok0))))) ?_
      refine x_tload_n C eX23_runRead_108 rfl 4 rfl ?_
      refine x_aload_n C eX23_runRead_109 rfl 3 rfl ?_
      refine x_cOr (As := []) (st := [.ref m9]) (ci := 18) (T := TX18) (n := 0) (frc := 1) (loc := 20) C rfl h (fun b9 S9 r9 e9 => k_X18_type l D K m9 mr _ S9 b9 r9 e9) ww_964 ww_518 ww_519 ww_520 ww_507 (by decide +kernel) rfl ⟨by omega, by omega⟩ (Nat.le_of_ble_eq_true rfl) eX23_runRead_110 (fun S11 v12 h => ?_)
      refine x_gI (o9 := v12) (ci := 20) (k9 := 0) (Cn := RX20) (T := TX20) (N := 4) C rfl wt_X20 (by decide) ww_247 eX23_runRead_113 h (fun v14 h => ?_)
      refine x_iconst (v := 3) C eX23_runRead_116 (by decide) ?_
      refine x_ic_ne (tgt := 126) C eX23_runRead_117 (by decide) h (fun h => ?_) (fun h => ?_)
      · refine x_tload_n C eX23_runRead_126 rfl 4 rfl ?_
        refine x_mV (k9 := 61) C (by decide) ww_741 eX23_runRead_127 rfl ?_
        refine x_iload C eX23_runRead_130 0 rfl ?_
        refine x_rJ (r := 61) C (by decide) rfl eX23_runRead_132 h (fun v15 h => ?_)
        refine x_sub [4, 3, 1, 0] rfl ?_
        exact j_133 S11 v1 (Int64.toInt32 v7) v10 v15 h
      · refine x_iload C eX23_runRead_120 0 rfl ?_
        refine x_i2l C eX23_runRead_122 ?_
        refine x_goto (tgt := 133) C eX23_runRead_123 (by decide) ?_
        refine x_sub [4, 3, 1, 0] rfl ?_
        exact j_133 S11 v1 (Int64.toInt32 v7) v10 (Int32.toInt64 v10) h
    · refine x_tload_n C eX23_runRead_48 rfl 1 rfl ?_
      refine x_tload_n C eX23_runRead_49 rfl 1 rfl ?_
      refine x_aload_n C eX23_runRead_50 rfl 0 rfl ?_
      refine x_cOr (As := []) (st := [.ref m9, .ref m9]) (ci := 18) (T := TX18) (n := 0) (frc := 1) (loc := 20) C rfl h (fun b9 S9 r9 e9 => k_X18_type l D K m9 mr _ S9 b9 r9 e9) ww_964 ww_518 ww_519 ww_520 ww_507 (by decide +kernel) rfl ⟨by omega, by omega⟩ (Nat.le_of_ble_eq_true rfl) eX23_runRead_51 (fun S16 v17 h => ?_)
      refine x_tload_n C eX23_runRead_54 rfl 1 rfl ?_
      refine x_aload_n C eX23_runRead_55 rfl 0 rfl ?_
      refine x_aload_n C eX23_runRead_56 rfl 0 rfl ?_
      refine x_gI (o9 := v1) (ci := 18) (k9 := 1) (Cn := RX18) (T := TX18) (N := 4) C rfl wt_X18 (by decide) ww_535 eX23_runRead_57 h (fun v19 h => ?_)
      refine x_cVi (As := [va_rf v1, .int v19]) (st := [va_rf v17, .ref m9, .ref m9]) (n := 2) (frc := 3) (loc := 69) C h (fun S9 r9 e9 => k_X23_find l D K m9 mr _ S9 v1 v19 r9 e9) ww_856 ww_862 ww_863 ww_864 ww_16 (by decide +kernel) rfl ⟨by omega, by omega⟩ (Nat.le_of_ble_eq_true rfl) eX23_runRead_60 (fun S20 v21 h => ?_)
      refine x_cVl (As := [va_rf v17, .int v21]) (st := [.ref m9]) (n := 2) (frc := 3) (loc := 66) C h (fun S9 r9 e9 => k_X23_takePlace l D K m9 mr _ S9 v17 v21 r9 e9) ww_762 ww_865 ww_866 ww_867 ww_16 (by decide +kernel) rfl ⟨by omega, by omega⟩ (Nat.le_of_ble_eq_true rfl) eX23_runRead_63 (fun S22 v23 h => ?_)
      refine x_cVv (As := [.long v23]) (st := []) (n := 1) (frc := 1) (loc := 20) C h (fun S9 r9 e9 => k_X23_push l D K m9 mr _ S9 v23 r9 e9) ww_850 ww_797 ww_798 ww_799 ww_16 (by decide +kernel) rfl ⟨by omega, by omega⟩ (Nat.le_of_ble_eq_true rfl) eX23_runRead_66 (fun S24 v25 h => ?_)
      refine x_goto (tgt := 165) C eX23_runRead_69 (by decide) ?_
      refine x_sub [] rfl ?_
      exact j_165 S24 h
  · refine x_tload_n C eX23_runRead_17 rfl 1 rfl ?_
    refine x_tload_n C eX23_runRead_18 rfl 1 rfl ?_
    refine x_mV (k9 := 61) C (by decide) ww_741 eX23_runRead_19 rfl ?_
    refine x_tload_n C eX23_runRead_22 rfl 1 rfl ?_
    refine x_aload_n C eX23_runRead_23 rfl 0 rfl ?_
    refine x_aload_n C eX23_runRead_24 rfl 0 rfl ?_
    refine x_gI (o9 := v1) (ci := 18) (k9 := 1) (Cn := RX18) (T := TX18) (N := 4) C rfl wt_X18 (by decide) ww_535 eX23_runRead_25 h (fun v26 h => ?_)
    refine x_cVi (As := [va_rf v1, .int v26]) (st := [.ref (mr 61), .ref m9]) (n := 2) (frc := 3) (loc := 69) C h (fun S9 r9 e9 => k_X23_find l D K m9 mr _ S9 v1 v26 r9 e9) ww_856 ww_862 ww_863 ww_864 ww_16 (by decide +kernel) rfl ⟨by omega, by omega⟩ (Nat.le_of_ble_eq_true rfl) eX23_runRead_28 (fun S27 v28 h => ?_)
    refine x_rJ (r := 61) C (by decide) rfl eX23_runRead_31 h (fun v29 h => ?_)
    refine x_cVv (As := [.long v29]) (st := []) (n := 1) (frc := 1) (loc := 20) C h (fun S9 r9 e9 => k_X23_push l D K m9 mr _ S9 v29 r9 e9) ww_850 ww_797 ww_798 ww_799 ww_16 (by decide +kernel) rfl ⟨by omega, by omega⟩ (Nat.le_of_ble_eq_true rfl) eX23_runRead_32 (fun S30 v31 h => ?_)
    refine x_goto (tgt := 165) C eX23_runRead_35 (by decide) ?_
    refine x_sub [] rfl ?_
    exact j_165 S30 h
set_option maxRecDepth 20000 in
set_option maxHeartbeats 4000000 in
theorem k_X23_runSign (l : Launch) (D : va_G) (K : Ky) (m9 : Nat) (mr : Nat → Nat) (S0 Sf : Sg) (x1 : Int32) (rf : Unit) (h : f_runSign K S0 x1 = some (Sf, rf)) : CT l D K m9 mr yX23_runSign (Cond.code yX23_runSign cX23_runSign 9 none) (2) (42) S0 Sf [.ref m9, .int x1] none := by
  refine x_start (cc := cX23_runSign) (lv := [(0, .ref m9), (1, .int x1)]) rfl rfl (by decide) (by simp [lv_args, cat_rf, cat_i, cat_l, cat_a]) (by simp [lg_sl, cat_rf, cat_i, cat_l, cat_a]) (fun p e R s m args below meth c Q A C => ?_)
  have j_351 : ∀ (S : Sg) (x6 : Int64), f_runSign_351 K S x6 = some (Sf, rf) → WX p l e R s m args below meth c Q D A K m9 mr 9 S0 S 351 [(0, .ref m9), (6, .long x6)] [] := by
    intro S x6 h
    unfold f_runSign_351 at h
    refine x_tload_n C eX23_runSign_351 rfl 0 rfl ?_
    refine x_lload C eX23_runSign_352 1 rfl ?_
    refine x_cVv (As := [.long x6]) (st := []) (n := 1) (frc := 1) (loc := 20) C h (fun S9 r9 e9 => k_X23_push l D K m9 mr _ S9 x6 r9 e9) ww_850 ww_797 ww_798 ww_799 ww_16 (by decide +kernel) rfl ⟨by omega, by omega⟩ (Nat.le_of_ble_eq_true rfl) eX23_runSign_354 (fun S6 v7 h => ?_)
    exact x_vret C rfl rfl eX23_runSign_357 h
  have j_340 : ∀ (S : Sg) (x6 : Int64) (x8 : Int32), f_runSign_340 K S x6 x8 = some (Sf, rf) → WX p l e R s m args below meth c Q D A K m9 mr 9 S0 S 340 [(0, .ref m9), (6, .long x6), (8, .int x8)] [] := by
    intro S x6 x8 h
    unfold f_runSign_340 at h
    refine x_iload C eX23_runSign_340 2 rfl ?_
    refine x_if_eq (tgt := 351) C eX23_runSign_342 (by decide) h (fun h => ?_) (fun h => ?_)
    · refine x_sub [0, 1] rfl ?_
      exact j_351 S x6 h
    · refine x_tload_n C eX23_runSign_345 rfl 0 rfl ?_
      refine x_bipush (v := 7) C eX23_runSign_346 (by decide) ?_
      refine x_pM (k9 := 3) C (by decide) rfl (by decide) ww_1 rfl (by decide +kernel) eX23_runSign_348 h (fun S5 h => ?_)
      refine x_sub [0, 1] rfl ?_
      exact j_351 S5 x6 h
  have j_98 : ∀ (S : Sg) (x6 : Int64) (y0 : Int32), f_runSign_98 K S x6 y0 = some (Sf, rf) → WX p l e R s m args below meth c Q D A K m9 mr 9 S0 S 98 [(0, .ref m9), (6, .long x6)] [.int y0] := by
    intro S x6 y0 h
    unfold f_runSign_98 at h
    refine x_istore (lv2 := [(0, .ref m9), (6, .long x6)]) C eX23_runSign_98 (by decide) rfl (oky rfl (okn (Nat.ne_of_beq_eq_false rfl) ok0)) ?_
    refine x_goto (tgt := 340) C eX23_runSign_100 (by decide) ?_
    refine x_sub [1, 2, 0] rfl ?_
    exact j_340 S x6 y0 h
  have j_129 : ∀ (S : Sg) (x6 : Int64) (y0 : Int32), f_runSign_129 K S x6 y0 = some (Sf, rf) → WX p l e R s m args below meth c Q D A K m9 mr 9 S0 S 129 [(0, .ref m9), (6, .long x6)] [.int y0] := by
    intro S x6 y0 h
    unfold f_runSign_129 at h
    refine x_istore (lv2 := [(0, .ref m9), (6, .long x6)]) C eX23_runSign_129 (by decide) rfl (oky rfl (okn (Nat.ne_of_beq_eq_false rfl) ok0)) ?_
    refine x_goto (tgt := 340) C eX23_runSign_131 (by decide) ?_
    refine x_sub [1, 2, 0] rfl ?_
    exact j_340 S x6 y0 h
  have j_179 : ∀ (S : Sg) (x6 : Int64) (y0 : Int32), f_runSign_179 K S x6 y0 = some (Sf, rf) → WX p l e R s m args below meth c Q D A K m9 mr 9 S0 S 179 [(0, .ref m9), (6, .long x6)] [.int y0] := by
    intro S x6 y0 h
    unfold f_runSign_179 at h
    refine x_istore (lv2 := [(0, .ref m9), (6, .long x6)]) C eX23_runSign_179 (by decide) rfl (oky rfl (okn (Nat.ne_of_beq_eq_false rfl) ok0)) ?_
    refine x_goto (tgt := 340) C eX23_runSign_181 (by decide) ?_
    refine x_sub [1, 2, 0] rfl ?_
    exact j_340 S x6 y0 h
  have j_174 : ∀ (S : Sg) (x6 : Int64), f_runSign_174 K S x6 = some (Sf, rf) → WX p l e R s m args below meth c Q D A K m9 mr 9 S0 S 174 [(0, .ref m9), (6, .long x6)] [] := by
    intro S x6 h
    unfold f_runSign_174 at h
    refine x_iconst (v := 1) C eX23_runSign_174 (by decide) ?_
    refine x_goto (tgt := 179) C eX23_runSign_175 (by decide) ?_
    refine x_sub [0, 1] rfl ?_
    exact j_179 S x6 1 h
  have j_178 : ∀ (S : Sg) (x6 : Int64), f_runSign_178 K S x6 = some (Sf, rf) → WX p l e R s m args below meth c Q D A K m9 mr 9 S0 S 178 [(0, .ref m9), (6, .long x6)] [] := by
    intro S x6 h
    unfold f_runSign_178 at h
    refine x_iconst (v := 0) C eX23_runSign_178 (by decide) ?_
    refine x_sub [0, 1] rfl ?_
    exact j_179 S x6 0 h
  have j_236 : ∀ (S : Sg) (x8 : Int32) (y0 : Int64), f_runSign_236 K S x8 y0 = some (Sf, rf) → WX p l e R s m args below meth c Q D A K m9 mr 9 S0 S 236 [(0, .ref m9), (8, .int x8)] [.long y0] := by
    intro S x8 y0 h
    unfold f_runSign_236 at h
    refine x_lstore (lv2 := [(0, .ref m9), (8, .int x8)]) C eX23_runSign_236 (by decide) rfl (oky rfl (oky rfl ok0)) ?_
    refine x_goto (tgt := 340) C eX23_runSign_238 (by decide) ?_
    refine x_sub [1, 0, 2] rfl ?_
    exact j_340 S y0 x8 h
  have j_212 : ∀ (S : Sg) (x1 : Int32) (x2 : Int64) (x4 : Int64) (x6 : Int64) (y0 : Int32), f_runSign_212 K S x1 x2 x4 x6 y0 = some (Sf, rf) → WX p l e R s m args below meth c Q D A K m9 mr 9 S0 S 212 [(0, .ref m9), (1, .int x1), (2, .long x2), (4, .long x4), (6, .long x6)] [.int y0] := by
    intro S x1 x2 x4 x6 y0 h
    unfold f_runSign_212 at h
    refine x_istore (lv2 := [(0, .ref m9), (1, .int x1), (2, .long x2), (4, .long x4), (6, .long x6)]) C eX23_runSign_212 (by decide) rfl (oky rfl (oky rfl (okn (Nat.ne_of_beq_eq_false rfl) (okn (Nat.ne_of_beq_eq_false rfl) (okn (Nat.ne_of_beq_eq_false rfl) ok0))))) ?_
    refine x_iload C eX23_runSign_214 0 rfl ?_
    refine x_if_ne (tgt := 340) C eX23_runSign_216 (by decide) h (fun h => ?_) (fun h => ?_)
    · refine x_sub [1, 5, 0] rfl ?_
      exact j_340 S x6 y0 h
    · refine x_iload_n C eX23_runSign_219 rfl 2 rfl ?_
      refine x_bipush (v := 43) C eX23_runSign_220 (by decide) ?_
      refine x_ic_ne (tgt := 232) C eX23_runSign_222 (by decide) h (fun h => ?_) (fun h => ?_)
      · refine x_lload C eX23_runSign_232 4 rfl ?_
        refine x_lload_n C eX23_runSign_234 rfl 3 rfl ?_
        refine x_lrem C eX23_runSign_235 h (fun h => ?_)
        refine x_sub [1, 0] rfl ?_
        exact j_236 S y0 (x4 - x4 / x2 * x2) h
      · refine x_lload C eX23_runSign_225 4 rfl ?_
        refine x_lload_n C eX23_runSign_227 rfl 3 rfl ?_
        refine x_ldiv C eX23_runSign_228 h (fun h => ?_)
        refine x_goto (tgt := 236) C eX23_runSign_229 (by decide) ?_
        refine x_sub [1, 0] rfl ?_
        exact j_236 S y0 (x4 / x2) h
  have j_207 : ∀ (S : Sg) (x1 : Int32) (x2 : Int64) (x4 : Int64) (x6 : Int64), f_runSign_207 K S x1 x2 x4 x6 = some (Sf, rf) → WX p l e R s m args below meth c Q D A K m9 mr 9 S0 S 207 [(0, .ref m9), (1, .int x1), (2, .long x2), (4, .long x4), (6, .long x6)] [] := by
    intro S x1 x2 x4 x6 h
    unfold f_runSign_207 at h
    refine x_iconst (v := 1) C eX23_runSign_207 (by decide) ?_
    refine x_goto (tgt := 212) C eX23_runSign_208 (by decide) ?_
    refine x_sub [0, 1, 2, 3, 4] rfl ?_
    exact j_212 S x1 x2 x4 x6 1 h
  have j_211 : ∀ (S : Sg) (x1 : Int32) (x2 : Int64) (x4 : Int64) (x6 : Int64), f_runSign_211 K S x1 x2 x4 x6 = some (Sf, rf) → WX p l e R s m args below meth c Q D A K m9 mr 9 S0 S 211 [(0, .ref m9), (1, .int x1), (2, .long x2), (4, .long x4), (6, .long x6)] [] := by
    intro S x1 x2 x4 x6 h
    unfold f_runSign_211 at h
    refine x_iconst (v := 0) C eX23_runSign_211 (by decide) ?_
    refine x_sub [0, 1, 2, 3, 4] rfl ?_
    exact j_212 S x1 x2 x4 x6 0 h
  have j_184 : ∀ (S : Sg) (x1 : Int32) (x2 : Int64) (x4 : Int64) (x6 : Int64), f_runSign_184 K S x1 x2 x4 x6 = some (Sf, rf) → WX p l e R s m args below meth c Q D A K m9 mr 9 S0 S 184 [(0, .ref m9), (1, .int x1), (2, .long x2), (4, .long x4), (6, .long x6)] [] := by
    intro S x1 x2 x4 x6 h
    unfold f_runSign_184 at h
    refine x_lload_n C eX23_runSign_184 rfl 2 rfl ?_
    refine x_lconst (v := 0) C eX23_runSign_185 (by decide) ?_
    refine x_lcmp C eX23_runSign_186 ?_
    refine x_if_eq (tgt := 207) C eX23_runSign_187 (by decide) h (fun h => ?_) (fun h => ?_)
    · refine x_sub [0, 1, 2, 3, 4] rfl ?_
      exact j_207 S x1 x2 x4 x6 h
    · refine x_lload C eX23_runSign_190 3 rfl ?_
      refine x_ldc2 C eX23_runSign_192 ww_869 ?_
      refine x_lcmp C eX23_runSign_195 ?_
      refine x_if_ne (tgt := 211) C eX23_runSign_196 (by decide) h (fun h => ?_) (fun h => ?_)
      · refine x_sub [0, 1, 2, 3, 4] rfl ?_
        exact j_211 S x1 x2 x4 x6 h
      · refine x_lload_n C eX23_runSign_199 rfl 2 rfl ?_
        refine x_ldc2 C eX23_runSign_200 ww_647 ?_
        refine x_lcmp C eX23_runSign_203 ?_
        refine x_if_ne (tgt := 211) C eX23_runSign_204 (by decide) h (fun h => ?_) (fun h => ?_)
        · refine x_sub [0, 1, 2, 3, 4] rfl ?_
          exact j_211 S x1 x2 x4 x6 h
        · refine x_sub [0, 1, 2, 3, 4] rfl ?_
          exact j_207 S x1 x2 x4 x6 h
  have j_253 : ∀ (S : Sg) (x8 : Int32) (y0 : Int64), f_runSign_253 K S x8 y0 = some (Sf, rf) → WX p l e R s m args below meth c Q D A K m9 mr 9 S0 S 253 [(0, .ref m9), (8, .int x8)] [.long y0] := by
    intro S x8 y0 h
    unfold f_runSign_253 at h
    refine x_lstore (lv2 := [(0, .ref m9), (8, .int x8)]) C eX23_runSign_253 (by decide) rfl (oky rfl (oky rfl ok0)) ?_
    refine x_goto (tgt := 340) C eX23_runSign_255 (by decide) ?_
    refine x_sub [1, 0, 2] rfl ?_
    exact j_340 S y0 x8 h
  have j_270 : ∀ (S : Sg) (x8 : Int32) (y0 : Int64), f_runSign_270 K S x8 y0 = some (Sf, rf) → WX p l e R s m args below meth c Q D A K m9 mr 9 S0 S 270 [(0, .ref m9), (8, .int x8)] [.long y0] := by
    intro S x8 y0 h
    unfold f_runSign_270 at h
    refine x_lstore (lv2 := [(0, .ref m9), (8, .int x8)]) C eX23_runSign_270 (by decide) rfl (oky rfl (oky rfl ok0)) ?_
    refine x_goto (tgt := 340) C eX23_runSign_272 (by decide) ?_
    refine x_sub [1, 0, 2] rfl ?_
    exact j_340 S y0 x8 h
  have j_287 : ∀ (S : Sg) (x8 : Int32) (y0 : Int64), f_runSign_287 K S x8 y0 = some (Sf, rf) → WX p l e R s m args below meth c Q D A K m9 mr 9 S0 S 287 [(0, .ref m9), (8, .int x8)] [.long y0] := by
    intro S x8 y0 h
    unfold f_runSign_287 at h
    refine x_lstore (lv2 := [(0, .ref m9), (8, .int x8)]) C eX23_runSign_287 (by decide) rfl (oky rfl (oky rfl ok0)) ?_
    refine x_goto (tgt := 340) C eX23_runSign_289 (by decide) ?_
    refine x_sub [1, 0, 2] rfl ?_
    exact j_340 S y0 x8 h
  have j_304 : ∀ (S : Sg) (x8 : Int32) (y0 : Int64), f_runSign_304 K S x8 y0 = some (Sf, rf) → WX p l e R s m args below meth c Q D A K m9 mr 9 S0 S 304 [(0, .ref m9), (8, .int x8)] [.long y0] := by
    intro S x8 y0 h
    unfold f_runSign_304 at h
    refine x_lstore (lv2 := [(0, .ref m9), (8, .int x8)]) C eX23_runSign_304 (by decide) rfl (oky rfl (oky rfl ok0)) ?_
    refine x_goto (tgt := 340) C eX23_runSign_306 (by decide) ?_
    refine x_sub [1, 0, 2] rfl ?_
    exact j_340 S y0 x8 h
  have j_321 : ∀ (S : Sg) (x8 : Int32) (y0 : Int64), f_runSign_321 K S x8 y0 = some (Sf, rf) → WX p l e R s m args below meth c Q D A K m9 mr 9 S0 S 321 [(0, .ref m9), (8, .int x8)] [.long y0] := by
    intro S x8 y0 h
    unfold f_runSign_321 at h
    refine x_lstore (lv2 := [(0, .ref m9), (8, .int x8)]) C eX23_runSign_321 (by decide) rfl (oky rfl (oky rfl ok0)) ?_
    refine x_goto (tgt := 340) C eX23_runSign_323 (by decide) ?_
    refine x_sub [1, 0, 2] rfl ?_
    exact j_340 S y0 x8 h
  have j_338 : ∀ (S : Sg) (x8 : Int32) (y0 : Int64), f_runSign_338 K S x8 y0 = some (Sf, rf) → WX p l e R s m args below meth c Q D A K m9 mr 9 S0 S 338 [(0, .ref m9), (8, .int x8)] [.long y0] := by
    intro S x8 y0 h
    unfold f_runSign_338 at h
    refine x_lstore (lv2 := [(0, .ref m9), (8, .int x8)]) C eX23_runSign_338 (by decide) rfl (oky rfl (oky rfl ok0)) ?_
    refine x_sub [1, 0, 2] rfl ?_
    exact j_340 S y0 x8 h
  unfold f_runSign at h
  refine x_tload_n C eX23_runSign_0 rfl 0 rfl ?_
  refine x_cVl (As := []) (st := []) (n := 0) (frc := 1) (loc := 20) C h (fun S9 r9 e9 => k_X23_pop l D K m9 mr _ S9 r9 e9) ww_853 ww_791 ww_792 ww_793 ww_16 (by decide +kernel) rfl ⟨by omega, by omega⟩ (Nat.le_of_ble_eq_true rfl) eX23_runSign_1 (fun S1 v2 h => ?_)
  refine x_lstore_n (lv2 := [(0, .ref m9), (1, .int x1)]) C eX23_runSign_4 rfl (by decide) rfl (oky rfl (oky rfl ok0)) ?_
  refine x_tload_n C eX23_runSign_5 rfl 1 rfl ?_
  refine x_cVl (As := []) (st := []) (n := 0) (frc := 1) (loc := 20) C h (fun S9 r9 e9 => k_X23_pop l D K m9 mr _ S9 r9 e9) ww_853 ww_791 ww_792 ww_793 ww_16 (by decide +kernel) rfl ⟨by omega, by omega⟩ (Nat.le_of_ble_eq_true rfl) eX23_runSign_6 (fun S3 v4 h => ?_)
  refine x_lstore (lv2 := [(2, .long v2), (0, .ref m9), (1, .int x1)]) C eX23_runSign_9 (by decide) rfl (okn (Nat.ne_of_beq_eq_false rfl) (oky rfl (oky rfl ok0))) ?_
  refine x_lconst (v := 0) C eX23_runSign_11 (by decide) ?_
  refine x_lstore (lv2 := [(4, .long v4), (2, .long v2), (0, .ref m9), (1, .int x1)]) C eX23_runSign_12 (by decide) rfl (okn (Nat.ne_of_beq_eq_false rfl) (okn (Nat.ne_of_beq_eq_false rfl) (oky rfl (oky rfl ok0)))) ?_
  refine x_iconst (v := 0) C eX23_runSign_14 (by decide) ?_
  refine x_istore (lv2 := [(6, .long 0), (4, .long v4), (2, .long v2), (0, .ref m9), (1, .int x1)]) C eX23_runSign_15 (by decide) rfl (okn (Nat.ne_of_beq_eq_false rfl) (okn (Nat.ne_of_beq_eq_false rfl) (okn (Nat.ne_of_beq_eq_false rfl) (oky rfl (oky rfl ok0))))) ?_
  refine x_iload_n C eX23_runSign_17 rfl 5 rfl ?_
  refine x_tabIn (v := 40) (tgt := 72) C eX23_runSign_18 (by decide) (by decide) rfl (by decide) h (fun h => ?_) (fun hq0 h => ?_)
  · refine x_lload C eX23_runSign_72 2 rfl ?_
    refine x_lload_n C eX23_runSign_74 rfl 3 rfl ?_
    refine x_ladd C eX23_runSign_75 ?_
    refine x_lstore (lv2 := [(8, .int 0), (4, .long v4), (2, .long v2), (0, .ref m9), (1, .int x1)]) C eX23_runSign_76 (by decide) rfl (oky rfl (okn (Nat.ne_of_beq_eq_false rfl) (okn (Nat.ne_of_beq_eq_false rfl) (oky rfl (oky rfl ok0))))) ?_
    refine x_lload C eX23_runSign_78 2 rfl ?_
    refine x_lload C eX23_runSign_80 0 rfl ?_
    refine x_lxor C eX23_runSign_82 ?_
    refine x_lload_n C eX23_runSign_83 rfl 3 rfl ?_
    refine x_lload C eX23_runSign_84 0 rfl ?_
    refine x_lxor C eX23_runSign_86 ?_
    refine x_land C eX23_runSign_87 ?_
    refine x_lconst (v := 0) C eX23_runSign_88 (by decide) ?_
    refine x_lcmp C eX23_runSign_89 ?_
    refine x_if_ge (tgt := 97) C eX23_runSign_90 (by decide) h (fun h => ?_) (fun h => ?_)
    · refine x_iconst (v := 0) C eX23_runSign_97 (by decide) ?_
      refine x_sub [4, 0] rfl ?_
      exact j_98 S3 (v4 + v2) 0 h
    · refine x_iconst (v := 1) C eX23_runSign_93 (by decide) ?_
      refine x_goto (tgt := 98) C eX23_runSign_94 (by decide) ?_
      refine x_sub [4, 0] rfl ?_
      exact j_98 S3 (v4 + v2) 1 h
  · refine x_tabIn (v := 41) (tgt := 103) C eX23_runSign_18 (by decide) (by decide) rfl (by decide) h (fun h => ?_) (fun hq1 h => ?_)
    · refine x_lload C eX23_runSign_103 2 rfl ?_
      refine x_lload_n C eX23_runSign_105 rfl 3 rfl ?_
      refine x_lsub C eX23_runSign_106 ?_
      refine x_lstore (lv2 := [(8, .int 0), (4, .long v4), (2, .long v2), (0, .ref m9), (1, .int x1)]) C eX23_runSign_107 (by decide) rfl (oky rfl (okn (Nat.ne_of_beq_eq_false rfl) (okn (Nat.ne_of_beq_eq_false rfl) (oky rfl (oky rfl ok0))))) ?_
      refine x_lload C eX23_runSign_109 2 rfl ?_
      refine x_lload_n C eX23_runSign_111 rfl 3 rfl ?_
      refine x_lxor C eX23_runSign_112 ?_
      refine x_lload C eX23_runSign_113 2 rfl ?_
      refine x_lload C eX23_runSign_115 0 rfl ?_
      refine x_lxor C eX23_runSign_117 ?_
      refine x_land C eX23_runSign_118 ?_
      refine x_lconst (v := 0) C eX23_runSign_119 (by decide) ?_
      refine x_lcmp C eX23_runSign_120 ?_
      refine x_if_ge (tgt := 128) C eX23_runSign_121 (by decide) h (fun h => ?_) (fun h => ?_)
      · refine x_iconst (v := 0) C eX23_runSign_128 (by decide) ?_
        refine x_sub [4, 0] rfl ?_
        exact j_129 S3 (v4 - v2) 0 h
      · refine x_iconst (v := 1) C eX23_runSign_124 (by decide) ?_
        refine x_goto (tgt := 129) C eX23_runSign_125 (by decide) ?_
        refine x_sub [4, 0] rfl ?_
        exact j_129 S3 (v4 - v2) 1 h
    · refine x_tabIn (v := 42) (tgt := 134) C eX23_runSign_18 (by decide) (by decide) rfl (by decide) h (fun h => ?_) (fun hq2 h => ?_)
      · refine x_lload C eX23_runSign_134 2 rfl ?_
        refine x_lload_n C eX23_runSign_136 rfl 3 rfl ?_
        refine x_lmul C eX23_runSign_137 ?_
        refine x_lstore (lv2 := [(8, .int 0), (4, .long v4), (2, .long v2), (0, .ref m9), (1, .int x1)]) C eX23_runSign_138 (by decide) rfl (oky rfl (okn (Nat.ne_of_beq_eq_false rfl) (okn (Nat.ne_of_beq_eq_false rfl) (oky rfl (oky rfl ok0))))) ?_
        refine x_lload C eX23_runSign_140 2 rfl ?_
        refine x_lconst (v := 0) C eX23_runSign_142 (by decide) ?_
        refine x_lcmp C eX23_runSign_143 ?_
        refine x_if_eq (tgt := 178) C eX23_runSign_144 (by decide) h (fun h => ?_) (fun h => ?_)
        · refine x_sub [4, 0] rfl ?_
          exact j_178 S3 (v4 * v2) h
        · refine x_lload C eX23_runSign_147 0 rfl ?_
          refine x_lload C eX23_runSign_149 2 rfl ?_
          refine x_ldiv C eX23_runSign_151 h (fun h => ?_)
          refine x_lload_n C eX23_runSign_152 rfl 3 rfl ?_
          refine x_lcmp C eX23_runSign_153 ?_
          refine x_if_ne (tgt := 174) C eX23_runSign_154 (by decide) h (fun h => ?_) (fun h => ?_)
          · refine x_sub [4, 0] rfl ?_
            exact j_174 S3 (v4 * v2) h
          · refine x_lload C eX23_runSign_157 2 rfl ?_
            refine x_ldc2 C eX23_runSign_159 ww_647 ?_
            refine x_lcmp C eX23_runSign_162 ?_
            refine x_if_ne (tgt := 178) C eX23_runSign_163 (by decide) h (fun h => ?_) (fun h => ?_)
            · refine x_sub [4, 0] rfl ?_
              exact j_178 S3 (v4 * v2) h
            · refine x_lload_n C eX23_runSign_166 rfl 3 rfl ?_
              refine x_ldc2 C eX23_runSign_167 ww_869 ?_
              refine x_lcmp C eX23_runSign_170 ?_
              refine x_if_ne (tgt := 178) C eX23_runSign_171 (by decide) h (fun h => ?_) (fun h => ?_)
              · refine x_sub [4, 0] rfl ?_
                exact j_178 S3 (v4 * v2) h
              · refine x_sub [4, 0] rfl ?_
                exact j_174 S3 (v4 * v2) h
      · refine x_tabIn (v := 43) (tgt := 184) C eX23_runSign_18 (by decide) (by decide) rfl (by decide) h (fun h => ?_) (fun hq3 h => ?_)
        · refine x_sub [4, 5, 3, 2, 1] rfl ?_
          exact j_184 S3 x1 v2 v4 0 h
        · refine x_tabIn (v := 44) (tgt := 184) C eX23_runSign_18 (by decide) (by decide) rfl (by decide) h (fun h => ?_) (fun hq4 h => ?_)
          · refine x_sub [4, 5, 3, 2, 1] rfl ?_
            exact j_184 S3 x1 v2 v4 0 h
          · refine x_tabIn (v := 45) (tgt := 241) C eX23_runSign_18 (by decide) (by decide) rfl (by decide) h (fun h => ?_) (fun hq5 h => ?_)
            · refine x_lload C eX23_runSign_241 2 rfl ?_
              refine x_lload_n C eX23_runSign_243 rfl 3 rfl ?_
              refine x_lcmp C eX23_runSign_244 ?_
              refine x_if_ne (tgt := 252) C eX23_runSign_245 (by decide) h (fun h => ?_) (fun h => ?_)
              · refine x_lconst (v := 0) C eX23_runSign_252 (by decide) ?_
                refine x_sub [4, 0] rfl ?_
                exact j_253 S3 0 0 h
              · refine x_lconst (v := 1) C eX23_runSign_248 (by decide) ?_
                refine x_goto (tgt := 253) C eX23_runSign_249 (by decide) ?_
                refine x_sub [4, 0] rfl ?_
                exact j_253 S3 0 1 h
            · refine x_tabIn (v := 46) (tgt := 258) C eX23_runSign_18 (by decide) (by decide) rfl (by decide) h (fun h => ?_) (fun hq6 h => ?_)
              · refine x_lload C eX23_runSign_258 2 rfl ?_
                refine x_lload_n C eX23_runSign_260 rfl 3 rfl ?_
                refine x_lcmp C eX23_runSign_261 ?_
                refine x_if_eq (tgt := 269) C eX23_runSign_262 (by decide) h (fun h => ?_) (fun h => ?_)
                · refine x_lconst (v := 0) C eX23_runSign_269 (by decide) ?_
                  refine x_sub [4, 0] rfl ?_
                  exact j_270 S3 0 0 h
                · refine x_lconst (v := 1) C eX23_runSign_265 (by decide) ?_
                  refine x_goto (tgt := 270) C eX23_runSign_266 (by decide) ?_
                  refine x_sub [4, 0] rfl ?_
                  exact j_270 S3 0 1 h
              · refine x_tabIn (v := 47) (tgt := 275) C eX23_runSign_18 (by decide) (by decide) rfl (by decide) h (fun h => ?_) (fun hq7 h => ?_)
                · refine x_lload C eX23_runSign_275 2 rfl ?_
                  refine x_lload_n C eX23_runSign_277 rfl 3 rfl ?_
                  refine x_lcmp C eX23_runSign_278 ?_
                  refine x_if_ge (tgt := 286) C eX23_runSign_279 (by decide) h (fun h => ?_) (fun h => ?_)
                  · refine x_lconst (v := 0) C eX23_runSign_286 (by decide) ?_
                    refine x_sub [4, 0] rfl ?_
                    exact j_287 S3 0 0 h
                  · refine x_lconst (v := 1) C eX23_runSign_282 (by decide) ?_
                    refine x_goto (tgt := 287) C eX23_runSign_283 (by decide) ?_
                    refine x_sub [4, 0] rfl ?_
                    exact j_287 S3 0 1 h
                · refine x_tabIn (v := 48) (tgt := 292) C eX23_runSign_18 (by decide) (by decide) rfl (by decide) h (fun h => ?_) (fun hq8 h => ?_)
                  · refine x_lload C eX23_runSign_292 2 rfl ?_
                    refine x_lload_n C eX23_runSign_294 rfl 3 rfl ?_
                    refine x_lcmp C eX23_runSign_295 ?_
                    refine x_if_gt (tgt := 303) C eX23_runSign_296 (by decide) h (fun h => ?_) (fun h => ?_)
                    · refine x_lconst (v := 0) C eX23_runSign_303 (by decide) ?_
                      refine x_sub [4, 0] rfl ?_
                      exact j_304 S3 0 0 h
                    · refine x_lconst (v := 1) C eX23_runSign_299 (by decide) ?_
                      refine x_goto (tgt := 304) C eX23_runSign_300 (by decide) ?_
                      refine x_sub [4, 0] rfl ?_
                      exact j_304 S3 0 1 h
                  · refine x_tabIn (v := 49) (tgt := 309) C eX23_runSign_18 (by decide) (by decide) rfl (by decide) h (fun h => ?_) (fun hq9 h => ?_)
                    · refine x_lload C eX23_runSign_309 2 rfl ?_
                      refine x_lload_n C eX23_runSign_311 rfl 3 rfl ?_
                      refine x_lcmp C eX23_runSign_312 ?_
                      refine x_if_le (tgt := 320) C eX23_runSign_313 (by decide) h (fun h => ?_) (fun h => ?_)
                      · refine x_lconst (v := 0) C eX23_runSign_320 (by decide) ?_
                        refine x_sub [4, 0] rfl ?_
                        exact j_321 S3 0 0 h
                      · refine x_lconst (v := 1) C eX23_runSign_316 (by decide) ?_
                        refine x_goto (tgt := 321) C eX23_runSign_317 (by decide) ?_
                        refine x_sub [4, 0] rfl ?_
                        exact j_321 S3 0 1 h
                    · have hq0i : (x1 : Int32).toInt ≠ 40 := fun q9 => hq0 (Int32.toInt_inj.mp q9)
                      have hq1i : (x1 : Int32).toInt ≠ 41 := fun q9 => hq1 (Int32.toInt_inj.mp q9)
                      have hq2i : (x1 : Int32).toInt ≠ 42 := fun q9 => hq2 (Int32.toInt_inj.mp q9)
                      have hq3i : (x1 : Int32).toInt ≠ 43 := fun q9 => hq3 (Int32.toInt_inj.mp q9)
                      have hq4i : (x1 : Int32).toInt ≠ 44 := fun q9 => hq4 (Int32.toInt_inj.mp q9)
                      have hq5i : (x1 : Int32).toInt ≠ 45 := fun q9 => hq5 (Int32.toInt_inj.mp q9)
                      have hq6i : (x1 : Int32).toInt ≠ 46 := fun q9 => hq6 (Int32.toInt_inj.mp q9)
                      have hq7i : (x1 : Int32).toInt ≠ 47 := fun q9 => hq7 (Int32.toInt_inj.mp q9)
                      have hq8i : (x1 : Int32).toInt ≠ 48 := fun q9 => hq8 (Int32.toInt_inj.mp q9)
                      have hq9i : (x1 : Int32).toInt ≠ 49 := fun q9 => hq9 (Int32.toInt_inj.mp q9)
                      refine x_tabOut (tgt := 326) C eX23_runSign_18 (by omega) (by decide) ?_
                      refine x_lload C eX23_runSign_326 2 rfl ?_
                      refine x_lload_n C eX23_runSign_328 rfl 3 rfl ?_
                      refine x_lcmp C eX23_runSign_329 ?_
                      refine x_if_lt (tgt := 337) C eX23_runSign_330 (by decide) h (fun h => ?_) (fun h => ?_)
                      · refine x_lconst (v := 0) C eX23_runSign_337 (by decide) ?_
                        refine x_sub [4, 0] rfl ?_
                        exact j_338 S3 0 0 h
                      · refine x_lconst (v := 1) C eX23_runSign_333 (by decide) ?_
                        refine x_goto (tgt := 338) C eX23_runSign_334 (by decide) ?_
                        refine x_sub [4, 0] rfl ?_
                        exact j_338 S3 0 1 h
set_option maxRecDepth 20000 in
set_option maxHeartbeats 4000000 in
theorem k_X23_gather (l : Launch) (D : va_G) (K : Ky) (m9 : Nat) (mr : Nat → Nat) (S0 Sf : Sg) (x1 : Option Nat) (x2 : Int32) (x3 : Option Nat) (rf : Int32) (h : f_gather K S0 x1 x2 x3 = some (Sf, rf)) : CT l D K m9 mr yX23_gather (Cond.code yX23_gather cX23_gather 10 (some .int)) (4) (87) S0 Sf [.ref m9, va_rf x1, .int x2, va_rf x3] (some (.int rf)) := by
  refine x_start (cc := cX23_gather) (lv := [(0, .ref m9), (1, va_rf x1), (2, .int x2), (3, va_rf x3)]) rfl rfl (by decide) (by simp [lv_args, cat_rf, cat_i, cat_l, cat_a]) (by simp [lg_sl, cat_rf, cat_i, cat_l, cat_a]) (fun p e R s m args below meth c Q A C => ?_)
  have j_17 : ∀ (n_17 : Nat) (S : Sg) (x1 : Option Nat) (x2 : Int32) (x3 : Option Nat) (x4 : Int32) (x5 : Int32) (x6 : Int32) (x7 : Int32), f_gather_17 K n_17 S x1 x2 x3 x4 x5 x6 x7 = some (Sf, rf) → WX p l e R s m args below meth c Q D A K m9 mr 10 S0 S 17 [(0, .ref m9), (1, va_rf x1), (2, .int x2), (3, va_rf x3), (4, .int x4), (5, .int x5), (6, .int x6), (7, .int x7)] [] := by
    intro n_17
    induction n_17 with
    | zero => intro S x1 x2 x3 x4 x5 x6 x7 h; unfold f_gather_17 at h; cases h
    | succ n_17 ih_17 =>
      intro S x1 x2 x3 x4 x5 x6 x7 h
      have j_100 : ∀ (S : Sg) (x1 : Option Nat) (x2 : Int32) (x3 : Option Nat) (x4 : Int32) (x5 : Int32) (x7 : Int32) (x9 : Int32), f_gather_100 K (f_gather_17 K n_17) S x1 x2 x3 x4 x5 x7 x9 = some (Sf, rf) → WX p l e R s m args below meth c Q D A K m9 mr 10 S0 S 100 [(0, .ref m9), (1, va_rf x1), (2, .int x2), (3, va_rf x3), (4, .int x4), (5, .int x5), (7, .int x7), (9, .int x9)] [] := by
        intro S x1 x2 x3 x4 x5 x7 x9 h
        unfold f_gather_100 at h
        refine x_tload_n C eX23_gather_100 rfl 0 rfl ?_
        refine x_iload C eX23_gather_101 7 rfl ?_
        refine x_tload_n C eX23_gather_103 rfl 0 rfl ?_
        refine x_aload_n C eX23_gather_104 rfl 1 rfl ?_
        refine x_iload C eX23_gather_105 6 rfl ?_
        refine x_aQ (t9 := 4) C rfl eX23_gather_107 h (fun v8 h => ?_)
        refine x_cVi (As := [va_rf v8]) (st := [.int x9, .ref m9]) (n := 1) (frc := 1) (loc := 20) C h (fun S9 r9 e9 => k_X23_leavesOf l D K m9 mr _ S9 v8 r9 e9) ww_744 ww_749 ww_750 ww_751 ww_16 (by decide +kernel) rfl ⟨by omega, by omega⟩ (Nat.le_of_ble_eq_true rfl) eX23_gather_108 (fun S9 v10 h => ?_)
        refine x_iconst (v := 1) C eX23_gather_111 (by decide) ?_
        refine x_isub C eX23_gather_112 ?_
        refine x_cVi (As := [.int x9, .int (v10 - 1)]) (st := []) (n := 2) (frc := 1) (loc := 20) C h (fun S9 r9 e9 => k_X23_along l D K m9 mr _ S9 x9 (v10 - 1) r9 e9) ww_752 ww_754 ww_755 ww_756 ww_16 (by decide +kernel) rfl ⟨by omega, by omega⟩ (Nat.le_of_ble_eq_true rfl) eX23_gather_113 (fun S11 v12 h => ?_)
        refine x_istore (lv2 := [(0, .ref m9), (1, va_rf x1), (2, .int x2), (3, va_rf x3), (4, .int x4), (5, .int x5), (7, .int x7), (9, .int x9)]) C eX23_gather_116 (by decide) rfl (oky rfl (oky (cat_rf x1) (oky rfl (oky (cat_rf x3) (oky rfl (oky rfl (oky rfl (oky rfl ok0)))))))) ?_
        refine x_iinc (j := 7) (v := 1) (lv2 := [(6, .int v12), (0, .ref m9), (1, va_rf x1), (2, .int x2), (3, va_rf x3), (4, .int x4), (5, .int x5), (9, .int x9)]) C eX23_gather_118 rfl (by decide) (by decide) rfl (oky rfl (oky rfl (oky (cat_rf x1) (oky rfl (oky (cat_rf x3) (oky rfl (oky rfl (oky rfl ok0)))))))) ?_
        refine x_goto (tgt := 17) C eX23_gather_121 (by decide) ?_
        refine x_sub [2, 3, 4, 5, 6, 7, 1, 0] rfl ?_
        exact ih_17 S11 x1 x2 x3 x4 x5 v12 (x7 + 1) h
      have j_59 : ∀ (S : Sg) (x1 : Option Nat) (x2 : Int32) (x3 : Option Nat) (x4 : Int32) (x5 : Int32) (x6 : Int32) (x7 : Int32) (x8 : Int32), f_gather_59 K (f_gather_17 K n_17) S x1 x2 x3 x4 x5 x6 x7 x8 = some (Sf, rf) → WX p l e R s m args below meth c Q D A K m9 mr 10 S0 S 59 [(0, .ref m9), (1, va_rf x1), (2, .int x2), (3, va_rf x3), (4, .int x4), (5, .int x5), (6, .int x6), (7, .int x7), (8, .int x8)] [] := by
        intro S x1 x2 x3 x4 x5 x6 x7 x8 h
        unfold f_gather_59 at h
        refine x_tload_n C eX23_gather_59 rfl 0 rfl ?_
        refine x_aload_n C eX23_gather_60 rfl 1 rfl ?_
        refine x_iload C eX23_gather_61 7 rfl ?_
        refine x_aQ (t9 := 4) C rfl eX23_gather_63 h (fun v3 h => ?_)
        refine x_tload_n C eX23_gather_64 rfl 0 rfl ?_
        refine x_mV (k9 := 72) C (by decide) ww_851 eX23_gather_65 rfl ?_
        refine x_iload C eX23_gather_68 4 rfl ?_
        refine x_iload C eX23_gather_70 8 rfl ?_
        refine x_iadd C eX23_gather_72 ?_
        refine x_rJ (r := 72) C (by decide) rfl eX23_gather_73 h (fun v4 h => ?_)
        refine x_cVi (As := [va_rf v3, .long v4]) (st := []) (n := 2) (frc := 3) (loc := 64) C h (fun S9 r9 e9 => k_X23_freshPlace l D K m9 mr _ S9 v3 v4 r9 e9) ww_767 ww_794 ww_795 ww_796 ww_16 (by decide +kernel) rfl ⟨by omega, by omega⟩ (Nat.le_of_ble_eq_true rfl) eX23_gather_74 (fun S5 v6 h => ?_)
        refine x_istore (lv2 := [(0, .ref m9), (1, va_rf x1), (2, .int x2), (3, va_rf x3), (4, .int x4), (5, .int x5), (6, .int x6), (7, .int x7), (8, .int x8)]) C eX23_gather_77 (by decide) rfl (oky rfl (oky (cat_rf x1) (oky rfl (oky (cat_rf x3) (oky rfl (oky rfl (oky rfl (oky rfl (oky rfl ok0))))))))) ?_
        refine x_iload C eX23_gather_79 7 rfl ?_
        refine x_if_ne (tgt := 91) C eX23_gather_81 (by decide) h (fun h => ?_) (fun h => ?_)
        · refine x_tload_n C eX23_gather_91 rfl 1 rfl ?_
          refine x_mV (k9 := 63) C (by decide) ww_739 eX23_gather_92 rfl ?_
          refine x_iload C eX23_gather_95 7 rfl ?_
          refine x_iload C eX23_gather_97 0 rfl ?_
          refine x_wI (r := 63) C (by decide) rfl eX23_gather_99 h (fun S7 h => ?_)
          refine x_sub [1, 2, 3, 4, 5, 6, 8, 0] rfl ?_
          exact j_100 S7 x1 x2 x3 x4 x5 x7 v6 h
        · refine x_iload C eX23_gather_84 0 rfl ?_
          refine x_istore (lv2 := [(9, .int v6), (0, .ref m9), (1, va_rf x1), (2, .int x2), (3, va_rf x3), (4, .int x4), (6, .int x6), (7, .int x7), (8, .int x8)]) C eX23_gather_86 (by decide) rfl (oky rfl (oky rfl (oky (cat_rf x1) (oky rfl (oky (cat_rf x3) (oky rfl (oky rfl (oky rfl (oky rfl ok0))))))))) ?_
          refine x_goto (tgt := 100) C eX23_gather_88 (by decide) ?_
          refine x_sub [2, 3, 4, 5, 6, 0, 8, 1] rfl ?_
          exact j_100 S5 x1 x2 x3 x4 v6 x7 v6 h
      have j_30 : ∀ (n_30 : Nat) (S : Sg) (x1 : Option Nat) (x2 : Int32) (x3 : Option Nat) (x4 : Int32) (x5 : Int32) (x6 : Int32) (x7 : Int32) (x8 : Int32) (x9 : Int32), f_gather_30 K (f_gather_17 K n_17) n_30 S x1 x2 x3 x4 x5 x6 x7 x8 x9 = some (Sf, rf) → WX p l e R s m args below meth c Q D A K m9 mr 10 S0 S 30 [(0, .ref m9), (1, va_rf x1), (2, .int x2), (3, va_rf x3), (4, .int x4), (5, .int x5), (6, .int x6), (7, .int x7), (8, .int x8), (9, .int x9)] [] := by
        intro n_30
        induction n_30 with
        | zero => intro S x1 x2 x3 x4 x5 x6 x7 x8 x9 h; unfold f_gather_30 at h; cases h
        | succ n_30 ih_30 =>
          intro S x1 x2 x3 x4 x5 x6 x7 x8 x9 h
          have j_53 : ∀ (S : Sg) (x1 : Option Nat) (x2 : Int32) (x3 : Option Nat) (x4 : Int32) (x5 : Int32) (x6 : Int32) (x7 : Int32) (x8 : Int32) (x9 : Int32), f_gather_53 K (f_gather_17 K n_17) (f_gather_30 K (f_gather_17 K n_17) n_30) S x1 x2 x3 x4 x5 x6 x7 x8 x9 = some (Sf, rf) → WX p l e R s m args below meth c Q D A K m9 mr 10 S0 S 53 [(0, .ref m9), (1, va_rf x1), (2, .int x2), (3, va_rf x3), (4, .int x4), (5, .int x5), (6, .int x6), (7, .int x7), (8, .int x8), (9, .int x9)] [] := by
            intro S x1 x2 x3 x4 x5 x6 x7 x8 x9 h
            unfold f_gather_53 at h
            refine x_iinc (j := 9) (v := 1) (lv2 := [(0, .ref m9), (1, va_rf x1), (2, .int x2), (3, va_rf x3), (4, .int x4), (5, .int x5), (6, .int x6), (7, .int x7), (8, .int x8)]) C eX23_gather_53 rfl (by decide) (by decide) rfl (oky rfl (oky (cat_rf x1) (oky rfl (oky (cat_rf x3) (oky rfl (oky rfl (oky rfl (oky rfl (oky rfl ok0))))))))) ?_
            refine x_goto (tgt := 30) C eX23_gather_56 (by decide) ?_
            refine x_sub [1, 2, 3, 4, 5, 6, 7, 8, 9, 0] rfl ?_
            exact ih_30 S x1 x2 x3 x4 x5 x6 x7 x8 (x9 + 1) h
          unfold f_gather_30 at h
          refine x_aload_n C eX23_gather_30 rfl 3 rfl ?_
          refine x_ifnull (tgt := 59) C eX23_gather_31 (by decide) h (fun h => ?_) (fun h => ?_)
          · refine x_sub [0, 1, 2, 3, 4, 5, 6, 7, 8] rfl ?_
            exact j_59 S x1 x2 x3 x4 x5 x6 x7 x8 h
          · refine x_iload C eX23_gather_34 9 rfl ?_
            refine x_iload_n C eX23_gather_36 rfl 2 rfl ?_
            refine x_ic_ge (tgt := 59) C eX23_gather_37 (by decide) h (fun h => ?_) (fun h => ?_)
            · refine x_sub [0, 1, 2, 3, 4, 5, 6, 7, 8] rfl ?_
              exact j_59 S x1 x2 x3 x4 x5 x6 x7 x8 h
            · refine x_aload_n C eX23_gather_40 rfl 3 rfl ?_
              refine x_iload C eX23_gather_41 9 rfl ?_
              refine x_aI C eX23_gather_43 h (fun v2 h => ?_)
              refine x_iload C eX23_gather_44 7 rfl ?_
              refine x_ic_ne (tgt := 53) C eX23_gather_46 (by decide) h (fun h => ?_) (fun h => ?_)
              · refine x_sub [0, 1, 2, 3, 4, 5, 6, 7, 8, 9] rfl ?_
                exact j_53 S x1 x2 x3 x4 x5 x6 x7 x8 x9 h
              · refine x_iload C eX23_gather_49 9 rfl ?_
                refine x_istore (lv2 := [(0, .ref m9), (1, va_rf x1), (2, .int x2), (3, va_rf x3), (4, .int x4), (5, .int x5), (6, .int x6), (7, .int x7), (9, .int x9)]) C eX23_gather_51 (by decide) rfl (oky rfl (oky (cat_rf x1) (oky rfl (oky (cat_rf x3) (oky rfl (oky rfl (oky rfl (oky rfl (oky rfl ok0))))))))) ?_
                refine x_sub [1, 2, 3, 4, 5, 6, 7, 8, 0, 9] rfl ?_
                exact j_53 S x1 x2 x3 x4 x5 x6 x7 x9 x9 h
      unfold f_gather_17 at h
      refine x_iload C eX23_gather_17 7 rfl ?_
      refine x_iload_n C eX23_gather_19 rfl 2 rfl ?_
      refine x_ic_ge (tgt := 124) C eX23_gather_20 (by decide) h (fun h => ?_) (fun h => ?_)
      · refine x_tload_n C eX23_gather_124 rfl 0 rfl ?_
        refine x_iload C eX23_gather_125 4 rfl ?_
        refine x_pM (k9 := 73) C (by decide) rfl (by decide) ww_852 rfl (by decide +kernel) eX23_gather_127 h (fun S1 h => ?_)
        refine x_iload C eX23_gather_130 5 rfl ?_
        exact x_iret C rfl rfl eX23_gather_132 h
      · refine x_iload C eX23_gather_23 7 rfl ?_
        refine x_istore (lv2 := [(0, .ref m9), (1, va_rf x1), (2, .int x2), (3, va_rf x3), (4, .int x4), (5, .int x5), (6, .int x6), (7, .int x7)]) C eX23_gather_25 (by decide) rfl (oky rfl (oky (cat_rf x1) (oky rfl (oky (cat_rf x3) (oky rfl (oky rfl (oky rfl (oky rfl ok0)))))))) ?_
        refine x_iconst (v := 0) C eX23_gather_27 (by decide) ?_
        refine x_istore (lv2 := [(8, .int x7), (0, .ref m9), (1, va_rf x1), (2, .int x2), (3, va_rf x3), (4, .int x4), (5, .int x5), (6, .int x6), (7, .int x7)]) C eX23_gather_28 (by decide) rfl (oky rfl (oky rfl (oky (cat_rf x1) (oky rfl (oky (cat_rf x3) (oky rfl (oky rfl (oky rfl (oky rfl ok0))))))))) ?_
        refine x_sub [2, 3, 4, 5, 6, 7, 8, 9, 1, 0] rfl ?_
        exact j_30 bigN S x1 x2 x3 x4 x5 x6 x7 x7 0 h
  unfold f_gather at h
  refine x_tload_n C eX23_gather_0 rfl 0 rfl ?_
  refine x_mV (k9 := 73) C (by decide) ww_852 eX23_gather_1 rfl ?_
  refine x_iload_n C eX23_gather_4 rfl 2 rfl ?_
  refine x_isub C eX23_gather_5 ?_
  refine x_istore (lv2 := [(0, .ref m9), (1, va_rf x1), (2, .int x2), (3, va_rf x3)]) C eX23_gather_6 (by decide) rfl (oky rfl (oky (cat_rf x1) (oky rfl (oky (cat_rf x3) ok0)))) ?_
  refine x_iconst (v := 0) C eX23_gather_8 (by decide) ?_
  refine x_istore (lv2 := [(4, .int ((Zi S0 73) - x2)), (0, .ref m9), (1, va_rf x1), (2, .int x2), (3, va_rf x3)]) C eX23_gather_9 (by decide) rfl (oky rfl (oky rfl (oky (cat_rf x1) (oky rfl (oky (cat_rf x3) ok0))))) ?_
  refine x_iconst (v := 0) C eX23_gather_11 (by decide) ?_
  refine x_istore (lv2 := [(5, .int 0), (4, .int ((Zi S0 73) - x2)), (0, .ref m9), (1, va_rf x1), (2, .int x2), (3, va_rf x3)]) C eX23_gather_12 (by decide) rfl (oky rfl (oky rfl (oky rfl (oky (cat_rf x1) (oky rfl (oky (cat_rf x3) ok0)))))) ?_
  refine x_iconst (v := 0) C eX23_gather_14 (by decide) ?_
  refine x_istore (lv2 := [(6, .int 0), (5, .int 0), (4, .int ((Zi S0 73) - x2)), (0, .ref m9), (1, va_rf x1), (2, .int x2), (3, va_rf x3)]) C eX23_gather_15 (by decide) rfl (oky rfl (oky rfl (oky rfl (oky rfl (oky (cat_rf x1) (oky rfl (oky (cat_rf x3) ok0))))))) ?_
  refine x_sub [4, 5, 6, 7, 3, 2, 1, 0] rfl ?_
  exact j_17 bigN S0 x1 x2 x3 ((Zi S0 73) - x2) 0 0 0 h
set_option maxRecDepth 20000 in
set_option maxHeartbeats 4000000 in
theorem k_X23_runCall (l : Launch) (D : va_G) (K : Ky) (m9 : Nat) (mr : Nat → Nat) (S0 Sf : Sg) (x1 : Int32) (rf : Unit) (h : f_runCall K S0 x1 = some (Sf, rf)) : CT l D K m9 mr yX23_runCall (Cond.code yX23_runCall cX23_runCall 5 none) (4) (87) S0 Sf [.ref m9, .int x1] none := by
  refine x_start (cc := cX23_runCall) (lv := [(0, .ref m9), (1, .int x1)]) rfl rfl (by decide) (by simp [lv_args, cat_rf, cat_i, cat_l, cat_a]) (by simp [lg_sl, cat_rf, cat_i, cat_l, cat_a]) (fun p e R s m args below meth c Q A C => ?_)
  have j_88 : ∀ (n_88 : Nat) (S : Sg) (x2 : Option Nat) (x3 : Int32) (x4 : Int32), f_runCall_88 K n_88 S x2 x3 x4 = some (Sf, rf) → WX p l e R s m args below meth c Q D A K m9 mr 5 S0 S 88 [(0, .ref m9), (2, va_rf x2), (3, .int x3), (4, .int x4)] [] := by
    intro n_88
    induction n_88 with
    | zero => intro S x2 x3 x4 h; unfold f_runCall_88 at h; cases h
    | succ n_88 ih_88 =>
      intro S x2 x3 x4 h
      unfold f_runCall_88 at h
      refine x_iload C eX23_runCall_88 3 rfl ?_
      refine x_aload_n C eX23_runCall_90 rfl 1 rfl ?_
      refine x_gI (o9 := x2) (ci := 16) (k9 := 3) (Cn := RX16) (T := TX16) (N := 22) C rfl wt_X16 (by decide) ww_51 eX23_runCall_91 h (fun v9 h => ?_)
      refine x_ic_ge (tgt := 142) C eX23_runCall_94 (by decide) h (fun h => ?_) (fun h => ?_)
      · refine x_tload_n C eX23_runCall_142 rfl 0 rfl ?_
        refine x_iload_n C eX23_runCall_143 rfl 2 rfl ?_
        refine x_pM (k9 := 73) C (by decide) rfl (by decide) ww_852 rfl (by decide +kernel) eX23_runCall_144 h (fun S10 h => ?_)
        refine x_tload_n C eX23_runCall_147 rfl 0 rfl ?_
        refine x_aload_n C eX23_runCall_148 rfl 1 rfl ?_
        refine x_gI (o9 := x2) (ci := 16) (k9 := 5) (Cn := RX16) (T := TX16) (N := 22) C rfl wt_X16 (by decide) ww_632 eX23_runCall_149 h (fun v11 h => ?_)
        refine x_pM (k9 := 77) C (by decide) rfl (by decide) ww_874 rfl (by decide +kernel) eX23_runCall_152 h (fun S12 h => ?_)
        exact x_vret C rfl rfl eX23_runCall_155 h
      · refine x_tload_n C eX23_runCall_97 rfl 0 rfl ?_
        refine x_mV (k9 := 74) C (by decide) ww_857 eX23_runCall_98 rfl ?_
        refine x_tload_n C eX23_runCall_101 rfl 0 rfl ?_
        refine x_aload_n C eX23_runCall_102 rfl 1 rfl ?_
        refine x_gR (o9 := x2) (ci := 16) (k9 := 17) (Cn := RX16) (T := TX16) (N := 22) C rfl wt_X16 (by decide) ww_87 eX23_runCall_103 h (fun v13 h => ?_)
        refine x_iload C eX23_runCall_106 3 rfl ?_
        refine x_aQ (t9 := 5) C rfl eX23_runCall_108 h (fun v14 h => ?_)
        refine x_cVi (As := [va_rf v14]) (st := [.ref (mr 74)]) (n := 1) (frc := 1) (loc := 20) C h (fun S9 r9 e9 => k_X23_slot l D K m9 mr _ S9 v14 r9 e9) ww_854 ww_858 ww_859 ww_860 ww_16 (by decide +kernel) rfl ⟨by omega, by omega⟩ (Nat.le_of_ble_eq_true rfl) eX23_runCall_109 (fun S15 v16 h => ?_)
        refine x_tload_n C eX23_runCall_112 rfl 0 rfl ?_
        refine x_aload_n C eX23_runCall_113 rfl 1 rfl ?_
        refine x_gR (o9 := x2) (ci := 16) (k9 := 17) (Cn := RX16) (T := TX16) (N := 22) C rfl wt_X16 (by decide) ww_87 eX23_runCall_114 h (fun v17 h => ?_)
        refine x_iload C eX23_runCall_117 3 rfl ?_
        refine x_aQ (t9 := 5) C rfl eX23_runCall_119 h (fun v18 h => ?_)
        refine x_gR (o9 := v18) (ci := 21) (k9 := 2) (Cn := RX21) (T := TX21) (N := 5) C rfl wt_X21 (by decide) ww_329 eX23_runCall_120 h (fun v19 h => ?_)
        refine x_tload_n C eX23_runCall_123 rfl 0 rfl ?_
        refine x_mV (k9 := 72) C (by decide) ww_851 eX23_runCall_124 rfl ?_
        refine x_iload_n C eX23_runCall_127 rfl 2 rfl ?_
        refine x_iload C eX23_runCall_128 3 rfl ?_
        refine x_iadd C eX23_runCall_130 ?_
        refine x_rJ (r := 72) C (by decide) rfl eX23_runCall_131 h (fun v20 h => ?_)
        refine x_cVi (As := [va_rf v19, .long v20]) (st := [.int v16, .ref (mr 74)]) (n := 2) (frc := 3) (loc := 64) C h (fun S9 r9 e9 => k_X23_freshPlace l D K m9 mr _ S9 v19 v20 r9 e9) ww_767 ww_794 ww_795 ww_796 ww_16 (by decide +kernel) rfl ⟨by omega, by omega⟩ (Nat.le_of_ble_eq_true rfl) eX23_runCall_132 (fun S21 v22 h => ?_)
        refine x_wI (r := 74) C (by decide) rfl eX23_runCall_135 h (fun S23 h => ?_)
        refine x_iinc (j := 3) (v := 1) (lv2 := [(0, .ref m9), (2, va_rf x2), (3, .int x3)]) C eX23_runCall_136 rfl (by decide) (by decide) rfl (oky rfl (oky (cat_rf x2) (oky rfl ok0))) ?_
        refine x_goto (tgt := 88) C eX23_runCall_139 (by decide) ?_
        refine x_sub [1, 2, 3, 0] rfl ?_
        exact ih_88 S23 x2 x3 (x4 + 1) h
  unfold f_runCall at h
  refine x_tload_n C eX23_runCall_0 rfl 0 rfl ?_
  refine x_mV (k9 := 70) C (by decide) ww_872 eX23_runCall_1 rfl ?_
  refine x_if_ne (tgt := 14) C eX23_runCall_4 (by decide) h (fun h => ?_) (fun h => ?_)
  · refine x_tload_n C eX23_runCall_14 rfl 0 rfl ?_
    refine x_dup C eX23_runCall_15 rfl ?_
    refine x_mV (k9 := 70) C (by decide) ww_872 eX23_runCall_16 rfl ?_
    refine x_iconst (v := 1) C eX23_runCall_19 (by decide) ?_
    refine x_isub C eX23_runCall_20 ?_
    refine x_pM (k9 := 70) C (by decide) rfl (by decide) ww_872 rfl (by decide +kernel) eX23_runCall_21 h (fun S1 h => ?_)
    refine x_tload_n C eX23_runCall_24 rfl 0 rfl ?_
    refine x_mV (k9 := 76) C (by decide) ww_855 eX23_runCall_25 rfl ?_
    refine x_bipush (v := 60) C eX23_runCall_28 (by decide) ?_
    refine x_ic_ne (tgt := 40) C eX23_runCall_30 (by decide) h (fun h => ?_) (fun h => ?_)
    · refine x_tload_n C eX23_runCall_40 rfl 0 rfl ?_
      refine x_mV (k9 := 11) C (by decide) ww_114 eX23_runCall_41 rfl ?_
      refine x_tload_n C eX23_runCall_44 rfl 0 rfl ?_
      refine x_mV (k9 := 28) C (by decide) ww_487 eX23_runCall_45 rfl ?_
      refine x_iload_n C eX23_runCall_48 rfl 1 rfl ?_
      refine x_rI (r := 28) C (by decide) rfl eX23_runCall_49 h (fun v2 h => ?_)
      refine x_rQ (r := 11) (t9 := 3) C (by decide) rfl (by decide) rfl eX23_runCall_50 h (fun v3 h => ?_)
      refine x_astore_n (lv2 := [(0, .ref m9), (1, .int x1)]) C eX23_runCall_51 rfl (by decide) rfl (oky rfl (oky rfl ok0)) ?_
      refine x_tload_n C eX23_runCall_52 rfl 1 rfl ?_
      refine x_mV (k9 := 75) C (by decide) ww_873 eX23_runCall_53 rfl ?_
      refine x_tload_n C eX23_runCall_56 rfl 1 rfl ?_
      refine x_mV (k9 := 76) C (by decide) ww_855 eX23_runCall_57 rfl ?_
      refine x_tload_n C eX23_runCall_60 rfl 1 rfl ?_
      refine x_mV (k9 := 77) C (by decide) ww_874 eX23_runCall_61 rfl ?_
      refine x_wI (r := 75) C (by decide) rfl eX23_runCall_64 h (fun S4 h => ?_)
      refine x_tload_n C eX23_runCall_65 rfl 1 rfl ?_
      refine x_dup C eX23_runCall_66 rfl ?_
      refine x_mV (k9 := 76) C (by decide) ww_855 eX23_runCall_67 rfl ?_
      refine x_iconst (v := 1) C eX23_runCall_70 (by decide) ?_
      refine x_iadd C eX23_runCall_71 ?_
      refine x_pM (k9 := 76) C (by decide) rfl (by decide) ww_855 rfl (by decide +kernel) eX23_runCall_72 h (fun S5 h => ?_)
      refine x_tload_n C eX23_runCall_75 rfl 1 rfl ?_
      refine x_mV (k9 := 73) C (by decide) ww_852 eX23_runCall_76 rfl ?_
      refine x_aload_n C eX23_runCall_79 rfl 0 rfl ?_
      refine x_gI (o9 := v3) (ci := 16) (k9 := 3) (Cn := RX16) (T := TX16) (N := 22) C rfl wt_X16 (by decide) ww_51 eX23_runCall_80 h (fun v6 h => ?_)
      refine x_isub C eX23_runCall_83 ?_
      refine x_istore_n (lv2 := [(2, va_rf v3), (0, .ref m9), (1, .int x1)]) C eX23_runCall_84 rfl (by decide) rfl (oky (cat_rf v3) (oky rfl (oky rfl ok0))) ?_
      refine x_iconst (v := 0) C eX23_runCall_85 (by decide) ?_
      refine x_istore (lv2 := [(3, .int ((Zi S5 73) - v6)), (2, va_rf v3), (0, .ref m9), (1, .int x1)]) C eX23_runCall_86 (by decide) rfl (oky rfl (oky (cat_rf v3) (oky rfl (oky rfl ok0)))) ?_
      refine x_sub [3, 2, 1, 0] rfl ?_
      exact j_88 bigN S5 v3 ((Zi S5 73) - v6) 0 h
    · refine x_tload_n C eX23_runCall_33 rfl 0 rfl ?_
      refine x_bipush (v := 10) C eX23_runCall_34 (by decide) ?_
      refine x_pM (k9 := 3) C (by decide) rfl (by decide) ww_1 rfl (by decide +kernel) eX23_runCall_36 h (fun S7 h => ?_)
      exact x_vret C rfl rfl eX23_runCall_39 h
  · refine x_tload_n C eX23_runCall_7 rfl 0 rfl ?_
    refine x_bipush (v := 8) C eX23_runCall_8 (by decide) ?_
    refine x_pM (k9 := 3) C (by decide) rfl (by decide) ww_1 rfl (by decide +kernel) eX23_runCall_10 h (fun S8 h => ?_)
    exact x_vret C rfl rfl eX23_runCall_13 h
set_option maxRecDepth 20000 in
set_option maxHeartbeats 4000000 in
theorem k_X23_runAssign (l : Launch) (D : va_G) (K : Ky) (m9 : Nat) (mr : Nat → Nat) (S0 Sf : Sg) (x1 : Int32) (rf : Unit) (h : f_runAssign K S0 x1 = some (Sf, rf)) : CT l D K m9 mr yX23_runAssign (Cond.code yX23_runAssign cX23_runAssign 7 none) (7) (164) S0 Sf [.ref m9, .int x1] none := by
  refine x_start (cc := cX23_runAssign) (lv := [(0, .ref m9), (1, .int x1)]) rfl rfl (by decide) (by simp [lv_args, cat_rf, cat_i, cat_l, cat_a]) (by simp [lg_sl, cat_rf, cat_i, cat_l, cat_a]) (fun p e R s m args below meth c Q A C => ?_)
  unfold f_runAssign at h
  refine x_tload_n C eX23_runAssign_0 rfl 0 rfl ?_
  refine x_mV (k9 := 38) C (by decide) ww_496 eX23_runAssign_1 rfl ?_
  refine x_iload_n C eX23_runAssign_4 rfl 1 rfl ?_
  refine x_rQ (r := 38) (t9 := 6) C (by decide) rfl (by decide) rfl eX23_runAssign_5 h (fun v1 h => ?_)
  refine x_astore_n (lv2 := [(0, .ref m9), (1, .int x1)]) C eX23_runAssign_6 rfl (by decide) rfl (oky rfl (oky rfl ok0)) ?_
  refine x_aload_n C eX23_runAssign_7 rfl 0 rfl ?_
  refine x_cOr (As := []) (st := []) (ci := 18) (T := TX18) (n := 0) (frc := 1) (loc := 20) C rfl h (fun b9 S9 r9 e9 => k_X18_type l D K m9 mr _ S9 b9 r9 e9) ww_964 ww_518 ww_519 ww_520 ww_507 (by decide +kernel) rfl ⟨by omega, by omega⟩ (Nat.le_of_ble_eq_true rfl) eX23_runAssign_8 (fun S2 v3 h => ?_)
  refine x_astore_n (lv2 := [(2, va_rf v1), (0, .ref m9), (1, .int x1)]) C eX23_runAssign_11 rfl (by decide) rfl (oky (cat_rf v1) (oky rfl (oky rfl ok0))) ?_
  refine x_tload_n C eX23_runAssign_12 rfl 2 rfl ?_
  refine x_cVl (As := []) (st := []) (n := 0) (frc := 1) (loc := 20) C h (fun S9 r9 e9 => k_X23_pop l D K m9 mr _ S9 r9 e9) ww_853 ww_791 ww_792 ww_793 ww_16 (by decide +kernel) rfl ⟨by omega, by omega⟩ (Nat.le_of_ble_eq_true rfl) eX23_runAssign_13 (fun S5 v6 h => ?_)
  refine x_lstore (lv2 := [(3, va_rf v3), (2, va_rf v1), (0, .ref m9), (1, .int x1)]) C eX23_runAssign_16 (by decide) rfl (oky (cat_rf v3) (oky (cat_rf v1) (oky rfl (oky rfl ok0)))) ?_
  refine x_tload_n C eX23_runAssign_18 rfl 3 rfl ?_
  refine x_aload_n C eX23_runAssign_19 rfl 2 rfl ?_
  refine x_aload_n C eX23_runAssign_20 rfl 2 rfl ?_
  refine x_gI (o9 := v1) (ci := 18) (k9 := 1) (Cn := RX18) (T := TX18) (N := 4) C rfl wt_X18 (by decide) ww_535 eX23_runAssign_21 h (fun v7 h => ?_)
  refine x_cVi (As := [va_rf v1, .int v7]) (st := []) (n := 2) (frc := 3) (loc := 69) C h (fun S9 r9 e9 => k_X23_find l D K m9 mr _ S9 v1 v7 r9 e9) ww_856 ww_862 ww_863 ww_864 ww_16 (by decide +kernel) rfl ⟨by omega, by omega⟩ (Nat.le_of_ble_eq_true rfl) eX23_runAssign_24 (fun S8 v9 h => ?_)
  refine x_istore (lv2 := [(4, .long v6), (3, va_rf v3), (2, va_rf v1), (0, .ref m9), (1, .int x1)]) C eX23_runAssign_27 (by decide) rfl (okn (Nat.ne_of_beq_eq_false rfl) (oky (cat_rf v3) (oky (cat_rf v1) (oky rfl (oky rfl ok0))))) ?_
  refine x_tload_n C eX23_runAssign_29 rfl 4 rfl ?_
  refine x_aload_n C eX23_runAssign_30 rfl 2 rfl ?_
  refine x_iload C eX23_runAssign_31 0 rfl ?_
  refine x_cVv (As := [va_rf v3, .int v9]) (st := []) (n := 2) (frc := 5) (loc := 120) C h (fun S9 r9 e9 => k_X23_dropPlace l D K m9 mr _ S9 v3 v9 r9 e9) ww_825 ww_830 ww_831 ww_832 ww_16 (by decide +kernel) rfl ⟨by omega, by omega⟩ (Nat.le_of_ble_eq_true rfl) eX23_runAssign_33 (fun S10 v11 h => ?_)
  refine x_tload_n C eX23_runAssign_36 rfl 4 rfl ?_
  refine x_cVv (As := []) (st := []) (n := 0) (frc := 6) (loc := 142) C h (fun S9 r9 e9 => k_X23_doAll l D K m9 mr _ S9 r9 e9) ww_829 ww_876 ww_877 ww_878 ww_16 (by decide +kernel) rfl ⟨by omega, by omega⟩ (Nat.le_of_ble_eq_true rfl) eX23_runAssign_37 (fun S12 v13 h => ?_)
  refine x_tload_n C eX23_runAssign_40 rfl 4 rfl ?_
  refine x_aload_n C eX23_runAssign_41 rfl 2 rfl ?_
  refine x_iload C eX23_runAssign_42 0 rfl ?_
  refine x_lload C eX23_runAssign_44 1 rfl ?_
  refine x_cVv (As := [va_rf v3, .int v9, .long v6]) (st := []) (n := 3) (frc := 2) (loc := 41) C h (fun S9 r9 e9 => k_X23_setPlace l D K m9 mr _ S9 v3 v9 v6 r9 e9) ww_761 ww_879 ww_880 ww_881 ww_16 (by decide +kernel) rfl ⟨by omega, by omega⟩ (Nat.le_of_ble_eq_true rfl) eX23_runAssign_46 (fun S14 v15 h => ?_)
  exact x_vret C rfl rfl eX23_runAssign_49 h
set_option maxRecDepth 20000 in
set_option maxHeartbeats 4000000 in
theorem k_X23_runBind (l : Launch) (D : va_G) (K : Ky) (m9 : Nat) (mr : Nat → Nat) (S0 Sf : Sg) (x1 : Option Nat) (rf : Unit) (h : f_runBind K S0 x1 = some (Sf, rf)) : CT l D K m9 mr yX23_runBind (Cond.code yX23_runBind cX23_runBind 5 none) (2) (44) S0 Sf [.ref m9, va_rf x1] none := by
  refine x_start (cc := cX23_runBind) (lv := [(0, .ref m9), (1, va_rf x1)]) rfl rfl (by decide) (by simp [lv_args, cat_rf, cat_i, cat_l, cat_a]) (by simp [lg_sl, cat_rf, cat_i, cat_l, cat_a]) (fun p e R s m args below meth c Q A C => ?_)
  have j_15 : ∀ (n_15 : Nat) (S : Sg) (x1 : Option Nat) (x2 : Int32) (x3 : Int32) (x4 : Int32), f_runBind_15 K n_15 S x1 x2 x3 x4 = some (Sf, rf) → WX p l e R s m args below meth c Q D A K m9 mr 5 S0 S 15 [(0, .ref m9), (1, va_rf x1), (2, .int x2), (3, .int x3), (4, .int x4)] [] := by
    intro n_15
    induction n_15 with
    | zero => intro S x1 x2 x3 x4 h; unfold f_runBind_15 at h; cases h
    | succ n_15 ih_15 =>
      intro S x1 x2 x3 x4 h
      unfold f_runBind_15 at h
      refine x_iload C eX23_runBind_15 4 rfl ?_
      refine x_aload_n C eX23_runBind_17 rfl 1 rfl ?_
      refine x_gI (o9 := x1) (ci := 13) (k9 := 3) (Cn := RX13) (T := TX13) (N := 6) C rfl wt_X13 (by decide) ww_187 eX23_runBind_18 h (fun v5 h => ?_)
      refine x_ic_ge (tgt := 67) C eX23_runBind_21 (by decide) h (fun h => ?_) (fun h => ?_)
      · refine x_tload_n C eX23_runBind_67 rfl 0 rfl ?_
        refine x_iload_n C eX23_runBind_68 rfl 2 rfl ?_
        refine x_cVv (As := [.int x2]) (st := []) (n := 1) (frc := 1) (loc := 20) C h (fun S9 r9 e9 => k_X23_freeNode l D K m9 mr _ S9 x2 r9 e9) ww_743 ww_758 ww_759 ww_760 ww_16 (by decide +kernel) rfl ⟨by omega, by omega⟩ (Nat.le_of_ble_eq_true rfl) eX23_runBind_69 (fun S6 v7 h => ?_)
        exact x_vret C rfl rfl eX23_runBind_72 h
      · refine x_tload_n C eX23_runBind_24 rfl 0 rfl ?_
        refine x_mV (k9 := 74) C (by decide) ww_857 eX23_runBind_25 rfl ?_
        refine x_tload_n C eX23_runBind_28 rfl 0 rfl ?_
        refine x_aload_n C eX23_runBind_29 rfl 1 rfl ?_
        refine x_gR (o9 := x1) (ci := 13) (k9 := 4) (Cn := RX13) (T := TX13) (N := 6) C rfl wt_X13 (by decide) ww_454 eX23_runBind_30 h (fun v8 h => ?_)
        refine x_iload C eX23_runBind_33 4 rfl ?_
        refine x_aQ (t9 := 5) C rfl eX23_runBind_35 h (fun v9 h => ?_)
        refine x_cVi (As := [va_rf v9]) (st := [.ref (mr 74)]) (n := 1) (frc := 1) (loc := 20) C h (fun S9 r9 e9 => k_X23_slot l D K m9 mr _ S9 v9 r9 e9) ww_854 ww_858 ww_859 ww_860 ww_16 (by decide +kernel) rfl ⟨by omega, by omega⟩ (Nat.le_of_ble_eq_true rfl) eX23_runBind_36 (fun S10 v11 h => ?_)
        refine x_iload_n C eX23_runBind_39 rfl 3 rfl ?_
        refine x_wI (r := 74) C (by decide) rfl eX23_runBind_40 h (fun S12 h => ?_)
        refine x_tload_n C eX23_runBind_41 rfl 0 rfl ?_
        refine x_iload_n C eX23_runBind_42 rfl 3 rfl ?_
        refine x_tload_n C eX23_runBind_43 rfl 0 rfl ?_
        refine x_aload_n C eX23_runBind_44 rfl 1 rfl ?_
        refine x_gR (o9 := x1) (ci := 13) (k9 := 4) (Cn := RX13) (T := TX13) (N := 6) C rfl wt_X13 (by decide) ww_454 eX23_runBind_45 h (fun v13 h => ?_)
        refine x_iload C eX23_runBind_48 4 rfl ?_
        refine x_aQ (t9 := 5) C rfl eX23_runBind_50 h (fun v14 h => ?_)
        refine x_gR (o9 := v14) (ci := 21) (k9 := 2) (Cn := RX21) (T := TX21) (N := 5) C rfl wt_X21 (by decide) ww_329 eX23_runBind_51 h (fun v15 h => ?_)
        refine x_cVi (As := [va_rf v15]) (st := [.int x3, .ref m9]) (n := 1) (frc := 1) (loc := 20) C h (fun S9 r9 e9 => k_X23_leavesOf l D K m9 mr _ S9 v15 r9 e9) ww_744 ww_749 ww_750 ww_751 ww_16 (by decide +kernel) rfl ⟨by omega, by omega⟩ (Nat.le_of_ble_eq_true rfl) eX23_runBind_54 (fun S16 v17 h => ?_)
        refine x_cVi (As := [.int x3, .int v17]) (st := []) (n := 2) (frc := 1) (loc := 20) C h (fun S9 r9 e9 => k_X23_along l D K m9 mr _ S9 x3 v17 r9 e9) ww_752 ww_754 ww_755 ww_756 ww_16 (by decide +kernel) rfl ⟨by omega, by omega⟩ (Nat.le_of_ble_eq_true rfl) eX23_runBind_57 (fun S18 v19 h => ?_)
        refine x_istore_n (lv2 := [(0, .ref m9), (1, va_rf x1), (2, .int x2), (4, .int x4)]) C eX23_runBind_60 rfl (by decide) rfl (oky rfl (oky (cat_rf x1) (oky rfl (oky rfl ok0)))) ?_
        refine x_iinc (j := 4) (v := 1) (lv2 := [(3, .int v19), (0, .ref m9), (1, va_rf x1), (2, .int x2)]) C eX23_runBind_61 rfl (by decide) (by decide) rfl (oky rfl (oky rfl (oky (cat_rf x1) (oky rfl ok0)))) ?_
        refine x_goto (tgt := 15) C eX23_runBind_64 (by decide) ?_
        refine x_sub [2, 3, 4, 1, 0] rfl ?_
        exact ih_15 S18 x1 x2 v19 (x4 + 1) h
  unfold f_runBind at h
  refine x_tload_n C eX23_runBind_0 rfl 0 rfl ?_
  refine x_cVl (As := []) (st := []) (n := 0) (frc := 1) (loc := 20) C h (fun S9 r9 e9 => k_X23_pop l D K m9 mr _ S9 r9 e9) ww_853 ww_791 ww_792 ww_793 ww_16 (by decide +kernel) rfl ⟨by omega, by omega⟩ (Nat.le_of_ble_eq_true rfl) eX23_runBind_1 (fun S1 v2 h => ?_)
  refine x_l2i C eX23_runBind_4 ?_
  refine x_istore_n (lv2 := [(0, .ref m9), (1, va_rf x1)]) C eX23_runBind_5 rfl (by decide) rfl (oky rfl (oky (cat_rf x1) ok0)) ?_
  refine x_tload_n C eX23_runBind_6 rfl 1 rfl ?_
  refine x_iload_n C eX23_runBind_7 rfl 0 rfl ?_
  refine x_cVi (As := [.int (Int64.toInt32 v2)]) (st := []) (n := 1) (frc := 1) (loc := 20) C h (fun S9 r9 e9 => k_X23_kidOf l D K m9 mr _ S9 (Int64.toInt32 v2) r9 e9) ww_771 ww_822 ww_823 ww_824 ww_16 (by decide +kernel) rfl ⟨by omega, by omega⟩ (Nat.le_of_ble_eq_true rfl) eX23_runBind_8 (fun S3 v4 h => ?_)
  refine x_istore_n (lv2 := [(2, .int (Int64.toInt32 v2)), (0, .ref m9), (1, va_rf x1)]) C eX23_runBind_11 rfl (by decide) rfl (oky rfl (oky rfl (oky (cat_rf x1) ok0))) ?_
  refine x_iconst (v := 0) C eX23_runBind_12 (by decide) ?_
  refine x_istore (lv2 := [(3, .int v4), (2, .int (Int64.toInt32 v2)), (0, .ref m9), (1, va_rf x1)]) C eX23_runBind_13 (by decide) rfl (oky rfl (oky rfl (oky rfl (oky (cat_rf x1) ok0)))) ?_
  refine x_sub [3, 4, 2, 1, 0] rfl ?_
  exact j_15 bigN S3 x1 (Int64.toInt32 v2) v4 0 h
set_option maxRecDepth 20000 in
set_option maxHeartbeats 4000000 in
theorem k_X23_runOut (l : Launch) (D : va_G) (K : Ky) (m9 : Nat) (mr : Nat → Nat) (S0 Sf : Sg) (x1 : Option Nat) (rf : Unit) (h : f_runOut K S0 x1 = some (Sf, rf)) : CT l D K m9 mr yX23_runOut (Cond.code yX23_runOut cX23_runOut 3 none) (7) (164) S0 Sf [.ref m9, va_rf x1] none := by
  refine x_start (cc := cX23_runOut) (lv := [(0, .ref m9), (1, va_rf x1)]) rfl rfl (by decide) (by simp [lv_args, cat_rf, cat_i, cat_l, cat_a]) (by simp [lg_sl, cat_rf, cat_i, cat_l, cat_a]) (fun p e R s m args below meth c Q A C => ?_)
  unfold f_runOut at h
  refine x_tload_n C eX23_runOut_0 rfl 0 rfl ?_
  refine x_mV (k9 := 74) C (by decide) ww_857 eX23_runOut_1 rfl ?_
  refine x_tload_n C eX23_runOut_4 rfl 0 rfl ?_
  refine x_aload_n C eX23_runOut_5 rfl 1 rfl ?_
  refine x_cVi (As := [va_rf x1]) (st := [.ref (mr 74)]) (n := 1) (frc := 1) (loc := 20) C h (fun S9 r9 e9 => k_X23_slot l D K m9 mr _ S9 x1 r9 e9) ww_854 ww_858 ww_859 ww_860 ww_16 (by decide +kernel) rfl ⟨by omega, by omega⟩ (Nat.le_of_ble_eq_true rfl) eX23_runOut_6 (fun S1 v2 h => ?_)
  refine x_rI (r := 74) C (by decide) rfl eX23_runOut_9 h (fun v3 h => ?_)
  refine x_istore_n (lv2 := [(0, .ref m9), (1, va_rf x1)]) C eX23_runOut_10 rfl (by decide) rfl (oky rfl (oky (cat_rf x1) ok0)) ?_
  refine x_aload_n C eX23_runOut_11 rfl 2 rfl ?_
  refine x_gR (o9 := x1) (ci := 21) (k9 := 2) (Cn := RX21) (T := TX21) (N := 5) C rfl wt_X21 (by decide) ww_329 eX23_runOut_12 h (fun v4 h => ?_)
  refine x_ifnonnull (tgt := 24) C eX23_runOut_15 (by decide) h (fun h => ?_) (fun h => ?_)
  · refine x_tload_n C eX23_runOut_24 rfl 1 rfl ?_
    refine x_aload_n C eX23_runOut_25 rfl 2 rfl ?_
    refine x_gR (o9 := x1) (ci := 21) (k9 := 2) (Cn := RX21) (T := TX21) (N := 5) C rfl wt_X21 (by decide) ww_329 eX23_runOut_26 h (fun v5 h => ?_)
    refine x_iload_n C eX23_runOut_29 rfl 0 rfl ?_
    refine x_cVv (As := [va_rf v5, .int v3]) (st := []) (n := 2) (frc := 5) (loc := 120) C h (fun S9 r9 e9 => k_X23_dropPlace l D K m9 mr _ S9 v5 v3 r9 e9) ww_825 ww_830 ww_831 ww_832 ww_16 (by decide +kernel) rfl ⟨by omega, by omega⟩ (Nat.le_of_ble_eq_true rfl) eX23_runOut_30 (fun S6 v7 h => ?_)
    refine x_tload_n C eX23_runOut_33 rfl 1 rfl ?_
    refine x_cVv (As := []) (st := []) (n := 0) (frc := 6) (loc := 142) C h (fun S9 r9 e9 => k_X23_doAll l D K m9 mr _ S9 r9 e9) ww_829 ww_876 ww_877 ww_878 ww_16 (by decide +kernel) rfl ⟨by omega, by omega⟩ (Nat.le_of_ble_eq_true rfl) eX23_runOut_34 (fun S8 v9 h => ?_)
    refine x_tload_n C eX23_runOut_37 rfl 1 rfl ?_
    refine x_aload_n C eX23_runOut_38 rfl 2 rfl ?_
    refine x_gR (o9 := x1) (ci := 21) (k9 := 2) (Cn := RX21) (T := TX21) (N := 5) C rfl wt_X21 (by decide) ww_329 eX23_runOut_39 h (fun v10 h => ?_)
    refine x_iload_n C eX23_runOut_42 rfl 0 rfl ?_
    refine x_cVv (As := [va_rf v10, .int v3]) (st := []) (n := 2) (frc := 2) (loc := 41) C h (fun S9 r9 e9 => k_X23_freePlace l D K m9 mr _ S9 v10 v3 r9 e9) ww_757 ww_833 ww_834 ww_835 ww_16 (by decide +kernel) rfl ⟨by omega, by omega⟩ (Nat.le_of_ble_eq_true rfl) eX23_runOut_43 (fun S11 v12 h => ?_)
    exact x_vret C rfl rfl eX23_runOut_46 h
  · refine x_tload_n C eX23_runOut_18 rfl 1 rfl ?_
    refine x_iload_n C eX23_runOut_19 rfl 0 rfl ?_
    refine x_cVv (As := [.int v3]) (st := []) (n := 1) (frc := 1) (loc := 20) C h (fun S9 r9 e9 => k_X23_freeNode l D K m9 mr _ S9 v3 r9 e9) ww_743 ww_758 ww_759 ww_760 ww_16 (by decide +kernel) rfl ⟨by omega, by omega⟩ (Nat.le_of_ble_eq_true rfl) eX23_runOut_20 (fun S13 v14 h => ?_)
    exact x_vret C rfl rfl eX23_runOut_23 h
set_option maxRecDepth 20000 in
set_option maxHeartbeats 4000000 in
theorem k_X23_runPrint (l : Launch) (D : va_G) (K : Ky) (m9 : Nat) (mr : Nat → Nat) (S0 Sf : Sg) (x1 : Option Nat) (rf : Unit) (h : f_runPrint K S0 x1 = some (Sf, rf)) : CT l D K m9 mr yX23_runPrint (Cond.code yX23_runPrint cX23_runPrint 4 none) (3) (69) S0 Sf [.ref m9, va_rf x1] none := by
  refine x_start (cc := cX23_runPrint) (lv := [(0, .ref m9), (1, va_rf x1)]) rfl rfl (by decide) (by simp [lv_args, cat_rf, cat_i, cat_l, cat_a]) (by simp [lg_sl, cat_rf, cat_i, cat_l, cat_a]) (fun p e R s m args below meth c Q A C => ?_)
  have j_39 : ∀ (S : Sg), f_runPrint_39 K S = some (Sf, rf) → WX p l e R s m args below meth c Q D A K m9 mr 4 S0 S 39 [(0, .ref m9)] [] := by
    intro S h
    unfold f_runPrint_39 at h
    refine x_tload_n C eX23_runPrint_39 rfl 0 rfl ?_
    refine x_bipush (v := 10) C eX23_runPrint_40 (by decide) ?_
    refine x_cVv (As := [.int 10]) (st := []) (n := 1) (frc := 1) (loc := 20) C h (fun S9 r9 e9 => k_X23_write l D K m9 mr _ S9 10 r9 e9) ww_839 ww_813 ww_814 ww_815 ww_16 (by decide +kernel) rfl ⟨by omega, by omega⟩ (Nat.le_of_ble_eq_true rfl) eX23_runPrint_42 (fun S6 v7 h => ?_)
    exact x_vret C rfl rfl eX23_runPrint_45 h
  have j_36 : ∀ (S : Sg) (y0 : Int64), f_runPrint_36 K S y0 = some (Sf, rf) → WX p l e R s m args below meth c Q D A K m9 mr 4 S0 S 36 [(0, .ref m9)] [.long y0, .ref m9] := by
    intro S y0 h
    unfold f_runPrint_36 at h
    refine x_cVv (As := [.long y0]) (st := []) (n := 1) (frc := 2) (loc := 41) C h (fun S9 r9 e9 => k_X23_writeWord l D K m9 mr _ S9 y0 r9 e9) ww_848 ww_887 ww_888 ww_889 ww_16 (by decide +kernel) rfl ⟨by omega, by omega⟩ (Nat.le_of_ble_eq_true rfl) eX23_runPrint_36 (fun S8 v9 h => ?_)
    refine x_sub [0] rfl ?_
    exact j_39 S8 h
  unfold f_runPrint at h
  refine x_tload_n C eX23_runPrint_0 rfl 0 rfl ?_
  refine x_cVl (As := []) (st := []) (n := 0) (frc := 1) (loc := 20) C h (fun S9 r9 e9 => k_X23_pop l D K m9 mr _ S9 r9 e9) ww_853 ww_791 ww_792 ww_793 ww_16 (by decide +kernel) rfl ⟨by omega, by omega⟩ (Nat.le_of_ble_eq_true rfl) eX23_runPrint_1 (fun S1 v2 h => ?_)
  refine x_lstore_n (lv2 := [(0, .ref m9), (1, va_rf x1)]) C eX23_runPrint_4 rfl (by decide) rfl (oky rfl (oky (cat_rf x1) ok0)) ?_
  refine x_aload_n C eX23_runPrint_5 rfl 2 rfl ?_
  refine x_gI (o9 := x1) (ci := 20) (k9 := 0) (Cn := RX20) (T := TX20) (N := 4) C rfl wt_X20 (by decide) ww_247 eX23_runPrint_6 h (fun v3 h => ?_)
  refine x_if_ne (tgt := 20) C eX23_runPrint_9 (by decide) h (fun h => ?_) (fun h => ?_)
  · refine x_tload_n C eX23_runPrint_20 rfl 1 rfl ?_
    refine x_lload_n C eX23_runPrint_21 rfl 0 rfl ?_
    refine x_lconst (v := 0) C eX23_runPrint_22 (by decide) ?_
    refine x_lcmp C eX23_runPrint_23 ?_
    refine x_if_ne (tgt := 33) C eX23_runPrint_24 (by decide) h (fun h => ?_) (fun h => ?_)
    · refine x_ldc2 C eX23_runPrint_33 ww_886 ?_
      refine x_sub [1] rfl ?_
      exact j_36 S1 1953658213 h
    · refine x_ldc2 C eX23_runPrint_27 ww_885 ?_
      refine x_goto (tgt := 36) C eX23_runPrint_30 (by decide) ?_
      refine x_sub [1] rfl ?_
      exact j_36 S1 439721161573 h
  · refine x_tload_n C eX23_runPrint_12 rfl 1 rfl ?_
    refine x_lload_n C eX23_runPrint_13 rfl 0 rfl ?_
    refine x_cVv (As := [.long v2]) (st := []) (n := 1) (frc := 2) (loc := 41) C h (fun S9 r9 e9 => k_X23_writeNumber l D K m9 mr _ S9 v2 r9 e9) ww_843 ww_816 ww_817 ww_818 ww_16 (by decide +kernel) rfl ⟨by omega, by omega⟩ (Nat.le_of_ble_eq_true rfl) eX23_runPrint_14 (fun S4 v5 h => ?_)
    refine x_goto (tgt := 39) C eX23_runPrint_17 (by decide) ?_
    refine x_sub [1] rfl ?_
    exact j_39 S4 h
