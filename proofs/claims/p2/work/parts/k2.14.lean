set_option maxRecDepth 20000 in
set_option maxHeartbeats 4000000 in
theorem k_X23_blockLong (l : Launch) (D : va_G) (K : Ky) (m9 : Nat) (mr : Nat → Nat) (S0 Sf : Sg) (x1 : Int32) (rf : Int32) (h : f_blockLong K S0 x1 = some (Sf, rf)) : CT l D K m9 mr yX23_blockLong (Cond.code yX23_blockLong cX23_blockLong 2 (some .int)) (1) (20) S0 Sf [.ref m9, .int x1] (some (.int rf)) := by
  refine x_start (cc := cX23_blockLong) (lv := [(0, .ref m9), (1, .int x1)]) rfl rfl (by decide) (by simp [lv_args, cat_rf, cat_i, cat_l, cat_a]) (by simp [lg_sl, cat_rf, cat_i, cat_l, cat_a]) (fun p e R s m args below meth c Q A C => ?_)
  unfold f_blockLong at h
  refine x_tload_n C eX23_blockLong_0 rfl 0 rfl ?_
  refine x_mV (k9 := 61) C (by decide) ww_741 eX23_blockLong_1 rfl ?_
  refine x_iload_n C eX23_blockLong_4 rfl 1 rfl ?_
  refine x_rJ (r := 61) C (by decide) rfl eX23_blockLong_5 h (fun v1 h => ?_)
  refine x_bipush (v := 40) C eX23_blockLong_6 (by decide) ?_
  refine x_lshr C eX23_blockLong_8 ?_
  refine x_l2i C eX23_blockLong_9 ?_
  exact x_iret C rfl rfl eX23_blockLong_10 h
set_option maxRecDepth 20000 in
set_option maxHeartbeats 4000000 in
theorem k_X23_findRoom (l : Launch) (D : va_G) (K : Ky) (m9 : Nat) (mr : Nat → Nat) (S0 Sf : Sg) (x1 : Int32) (rf : Int32) (h : f_findRoom K S0 x1 = some (Sf, rf)) : CT l D K m9 mr yX23_findRoom (Cond.code yX23_findRoom cX23_findRoom 4 (some .int)) (1) (20) S0 Sf [.ref m9, .int x1] (some (.int rf)) := by
  refine x_start (cc := cX23_findRoom) (lv := [(0, .ref m9), (1, .int x1)]) rfl rfl (by decide) (by simp [lv_args, cat_rf, cat_i, cat_l, cat_a]) (by simp [lg_sl, cat_rf, cat_i, cat_l, cat_a]) (fun p e R s m args below meth c Q A C => ?_)
  have j_4 : ∀ (n_4 : Nat) (S : Sg) (x1 : Int32) (x2 : Int32) (x3 : Int32), f_findRoom_4 K n_4 S x1 x2 x3 = some (Sf, rf) → WX p l e R s m args below meth c Q D A K m9 mr 4 S0 S 4 [(0, .ref m9), (1, .int x1), (2, .int x2), (3, .int x3)] [] := by
    intro n_4
    induction n_4 with
    | zero => intro S x1 x2 x3 h; unfold f_findRoom_4 at h; cases h
    | succ n_4 ih_4 =>
      intro S x1 x2 x3 h
      have j_28 : ∀ (S : Sg) (x1 : Int32) (x3 : Int32) (y0 : Int32), f_findRoom_28 K (f_findRoom_4 K n_4) S x1 x3 y0 = some (Sf, rf) → WX p l e R s m args below meth c Q D A K m9 mr 4 S0 S 28 [(0, .ref m9), (1, .int x1), (3, .int x3)] [.int y0] := by
        intro S x1 x3 y0 h
        unfold f_findRoom_28 at h
        refine x_istore_n (lv2 := [(0, .ref m9), (1, .int x1), (3, .int x3)]) C eX23_findRoom_28 rfl (by decide) rfl (oky rfl (oky rfl (oky rfl ok0))) ?_
        refine x_iload_n C eX23_findRoom_29 rfl 0 rfl ?_
        refine x_iload_n C eX23_findRoom_30 rfl 2 rfl ?_
        refine x_ic_ne (tgt := 40) C eX23_findRoom_31 (by decide) h (fun h => ?_) (fun h => ?_)
        · refine x_iinc (j := 3) (v := 1) (lv2 := [(2, .int y0), (0, .ref m9), (1, .int x1)]) C eX23_findRoom_40 rfl (by decide) (by decide) rfl (oky rfl (oky rfl (oky rfl ok0))) ?_
          refine x_goto (tgt := 4) C eX23_findRoom_43 (by decide) ?_
          refine x_sub [2, 3, 1, 0] rfl ?_
          exact ih_4 S x1 y0 (x3 + 1) h
        · refine x_iload_n C eX23_findRoom_34 rfl 3 rfl ?_
          refine x_iload_n C eX23_findRoom_35 rfl 2 rfl ?_
          refine x_isub C eX23_findRoom_36 ?_
          refine x_iconst (v := 1) C eX23_findRoom_37 (by decide) ?_
          refine x_iadd C eX23_findRoom_38 ?_
          exact x_iret C rfl rfl eX23_findRoom_39 h
      unfold f_findRoom_4 at h
      refine x_iload_n C eX23_findRoom_4 rfl 3 rfl ?_
      refine x_tload_n C eX23_findRoom_5 rfl 0 rfl ?_
      refine x_mV (k9 := 66) C (by decide) ww_776 eX23_findRoom_6 rfl ?_
      refine x_ic_ge (tgt := 46) C eX23_findRoom_9 (by decide) h (fun h => ?_) (fun h => ?_)
      · refine x_iconst (v := (-1)) C eX23_findRoom_46 (by decide) ?_
        exact x_iret C rfl rfl eX23_findRoom_47 h
      · refine x_tload_n C eX23_findRoom_12 rfl 0 rfl ?_
        refine x_mV (k9 := 67) C (by decide) ww_777 eX23_findRoom_13 rfl ?_
        refine x_iload_n C eX23_findRoom_16 rfl 3 rfl ?_
        refine x_rZ (r := 67) C (by decide) rfl eX23_findRoom_17 h (fun v1 h => ?_)
        refine x_if_eq (tgt := 25) C eX23_findRoom_18 (by decide) h (fun h => ?_) (fun h => ?_)
        · refine x_iload_n C eX23_findRoom_25 rfl 2 rfl ?_
          refine x_iconst (v := 1) C eX23_findRoom_26 (by decide) ?_
          refine x_iadd C eX23_findRoom_27 ?_
          refine x_sub [0, 1, 3] rfl ?_
          exact j_28 S x1 x3 (x2 + 1) h
        · refine x_iconst (v := 0) C eX23_findRoom_21 (by decide) ?_
          refine x_goto (tgt := 28) C eX23_findRoom_22 (by decide) ?_
          refine x_sub [0, 1, 3] rfl ?_
          exact j_28 S x1 x3 0 h
  unfold f_findRoom at h
  refine x_iconst (v := 0) C eX23_findRoom_0 (by decide) ?_
  refine x_istore_n (lv2 := [(0, .ref m9), (1, .int x1)]) C eX23_findRoom_1 rfl (by decide) rfl (oky rfl (oky rfl ok0)) ?_
  refine x_iconst (v := 0) C eX23_findRoom_2 (by decide) ?_
  refine x_istore_n (lv2 := [(2, .int 0), (0, .ref m9), (1, .int x1)]) C eX23_findRoom_3 rfl (by decide) rfl (oky rfl (oky rfl (oky rfl ok0))) ?_
  refine x_sub [2, 3, 1, 0] rfl ?_
  exact j_4 bigN S0 x1 0 0 h
set_option maxRecDepth 20000 in
set_option maxHeartbeats 4000000 in
theorem k_X23_freeBlock (l : Launch) (D : va_G) (K : Ky) (m9 : Nat) (mr : Nat → Nat) (S0 Sf : Sg) (x1 : Int32) (rf : Unit) (h : f_freeBlock K S0 x1 = some (Sf, rf)) : CT l D K m9 mr yX23_freeBlock (Cond.code yX23_freeBlock cX23_freeBlock 5 none) (2) (41) S0 Sf [.ref m9, .int x1] none := by
  refine x_start (cc := cX23_freeBlock) (lv := [(0, .ref m9), (1, .int x1)]) rfl rfl (by decide) (by simp [lv_args, cat_rf, cat_i, cat_l, cat_a]) (by simp [lg_sl, cat_rf, cat_i, cat_l, cat_a]) (fun p e R s m args below meth c Q A C => ?_)
  have j_15 : ∀ (n_15 : Nat) (S : Sg) (x2 : Int32) (x3 : Int32) (x4 : Int32), f_freeBlock_15 K n_15 S x2 x3 x4 = some (Sf, rf) → WX p l e R s m args below meth c Q D A K m9 mr 5 S0 S 15 [(0, .ref m9), (2, .int x2), (3, .int x3), (4, .int x4)] [] := by
    intro n_15
    induction n_15 with
    | zero => intro S x2 x3 x4 h; unfold f_freeBlock_15 at h; cases h
    | succ n_15 ih_15 =>
      intro S x2 x3 x4 h
      unfold f_freeBlock_15 at h
      refine x_iload C eX23_freeBlock_15 3 rfl ?_
      refine x_iload_n C eX23_freeBlock_17 rfl 1 rfl ?_
      refine x_ic_ge (tgt := 37) C eX23_freeBlock_18 (by decide) h (fun h => ?_) (fun h => ?_)
      · refine x_tload_n C eX23_freeBlock_37 rfl 0 rfl ?_
        refine x_dup C eX23_freeBlock_38 rfl ?_
        refine x_mV (k9 := 68) C (by decide) ww_785 eX23_freeBlock_39 rfl ?_
        refine x_iload_n C eX23_freeBlock_42 rfl 1 rfl ?_
        refine x_isub C eX23_freeBlock_43 ?_
        refine x_pM (k9 := 68) C (by decide) rfl (by decide) ww_785 rfl (by decide +kernel) eX23_freeBlock_44 h (fun S5 h => ?_)
        exact x_vret C rfl rfl eX23_freeBlock_47 h
      · refine x_tload_n C eX23_freeBlock_21 rfl 0 rfl ?_
        refine x_mV (k9 := 67) C (by decide) ww_777 eX23_freeBlock_22 rfl ?_
        refine x_iload_n C eX23_freeBlock_25 rfl 2 rfl ?_
        refine x_iload C eX23_freeBlock_26 3 rfl ?_
        refine x_iadd C eX23_freeBlock_28 ?_
        refine x_iconst (v := 0) C eX23_freeBlock_29 (by decide) ?_
        refine x_wZ (r := 67) C (by decide) rfl eX23_freeBlock_30 h (fun S6 h => ?_)
        refine x_iinc (j := 3) (v := 1) (lv2 := [(0, .ref m9), (2, .int x2), (3, .int x3)]) C eX23_freeBlock_31 rfl (by decide) (by decide) rfl (oky rfl (oky rfl (oky rfl ok0))) ?_
        refine x_goto (tgt := 15) C eX23_freeBlock_34 (by decide) ?_
        refine x_sub [1, 2, 3, 0] rfl ?_
        exact ih_15 S6 x2 x3 (x4 + 1) h
  unfold f_freeBlock at h
  refine x_tload_n C eX23_freeBlock_0 rfl 0 rfl ?_
  refine x_iload_n C eX23_freeBlock_1 rfl 1 rfl ?_
  refine x_cVi (As := [.int x1]) (st := []) (n := 1) (frc := 1) (loc := 20) C h (fun S9 r9 e9 => k_X23_blockLong l D K m9 mr _ S9 x1 r9 e9) ww_774 ww_779 ww_780 ww_781 ww_16 (by decide +kernel) rfl ⟨by omega, by omega⟩ (Nat.le_of_ble_eq_true rfl) eX23_freeBlock_2 (fun S1 v2 h => ?_)
  refine x_istore_n (lv2 := [(0, .ref m9), (1, .int x1)]) C eX23_freeBlock_5 rfl (by decide) rfl (oky rfl (oky rfl ok0)) ?_
  refine x_tload_n C eX23_freeBlock_6 rfl 1 rfl ?_
  refine x_iload_n C eX23_freeBlock_7 rfl 2 rfl ?_
  refine x_cVi (As := [.int x1]) (st := []) (n := 1) (frc := 1) (loc := 20) C h (fun S9 r9 e9 => k_X23_variantOf_ l D K m9 mr _ S9 x1 r9 e9) ww_773 ww_782 ww_783 ww_784 ww_16 (by decide +kernel) rfl ⟨by omega, by omega⟩ (Nat.le_of_ble_eq_true rfl) eX23_freeBlock_8 (fun S3 v4 h => ?_)
  refine x_istore_n (lv2 := [(2, .int v2), (0, .ref m9), (1, .int x1)]) C eX23_freeBlock_11 rfl (by decide) rfl (oky rfl (oky rfl (oky rfl ok0))) ?_
  refine x_iconst (v := 0) C eX23_freeBlock_12 (by decide) ?_
  refine x_istore (lv2 := [(3, .int v4), (2, .int v2), (0, .ref m9), (1, .int x1)]) C eX23_freeBlock_13 (by decide) rfl (oky rfl (oky rfl (oky rfl (oky rfl ok0)))) ?_
  refine x_sub [3, 2, 1, 0] rfl ?_
  exact j_15 bigN S3 v2 v4 0 h
set_option maxRecDepth 20000 in
set_option maxHeartbeats 4000000 in
theorem k_X23_pop (l : Launch) (D : va_G) (K : Ky) (m9 : Nat) (mr : Nat → Nat) (S0 Sf : Sg) (rf : Int64) (h : f_pop K S0 = some (Sf, rf)) : CT l D K m9 mr yX23_pop (Cond.code yX23_pop cX23_pop 1 (some .long)) (1) (20) S0 Sf [.ref m9] (some (.long rf)) := by
  refine x_start (cc := cX23_pop) (lv := [(0, .ref m9)]) rfl rfl (by decide) (by simp [lv_args, cat_rf, cat_i, cat_l, cat_a]) (by simp [lg_sl, cat_rf, cat_i, cat_l, cat_a]) (fun p e R s m args below meth c Q A C => ?_)
  unfold f_pop at h
  refine x_tload_n C eX23_pop_0 rfl 0 rfl ?_
  refine x_dup C eX23_pop_1 rfl ?_
  refine x_mV (k9 := 73) C (by decide) ww_852 eX23_pop_2 rfl ?_
  refine x_iconst (v := 1) C eX23_pop_5 (by decide) ?_
  refine x_isub C eX23_pop_6 ?_
  refine x_pM (k9 := 73) C (by decide) rfl (by decide) ww_852 rfl (by decide +kernel) eX23_pop_7 h (fun S1 h => ?_)
  refine x_tload_n C eX23_pop_10 rfl 0 rfl ?_
  refine x_mV (k9 := 72) C (by decide) ww_851 eX23_pop_11 rfl ?_
  refine x_tload_n C eX23_pop_14 rfl 0 rfl ?_
  refine x_mV (k9 := 73) C (by decide) ww_852 eX23_pop_15 rfl ?_
  refine x_rJ (r := 72) C (by decide) rfl eX23_pop_18 h (fun v2 h => ?_)
  exact x_lret C rfl rfl eX23_pop_19 h
set_option maxRecDepth 20000 in
set_option maxHeartbeats 4000000 in
theorem k_X23_push (l : Launch) (D : va_G) (K : Ky) (m9 : Nat) (mr : Nat → Nat) (S0 Sf : Sg) (x1 : Int64) (rf : Unit) (h : f_push K S0 x1 = some (Sf, rf)) : CT l D K m9 mr yX23_push (Cond.code yX23_push cX23_push 3 none) (1) (20) S0 Sf [.ref m9, .long x1] none := by
  refine x_start (cc := cX23_push) (lv := [(0, .ref m9), (1, .long x1)]) rfl rfl (by decide) (by simp [lv_args, cat_rf, cat_i, cat_l, cat_a]) (by simp [lg_sl, cat_rf, cat_i, cat_l, cat_a]) (fun p e R s m args below meth c Q A C => ?_)
  unfold f_push at h
  refine x_tload_n C eX23_push_0 rfl 0 rfl ?_
  refine x_mV (k9 := 72) C (by decide) ww_851 eX23_push_1 rfl ?_
  refine x_tload_n C eX23_push_4 rfl 0 rfl ?_
  refine x_mV (k9 := 73) C (by decide) ww_852 eX23_push_5 rfl ?_
  refine x_lload_n C eX23_push_8 rfl 1 rfl ?_
  refine x_wJ (r := 72) C (by decide) rfl eX23_push_9 h (fun S1 h => ?_)
  refine x_tload_n C eX23_push_10 rfl 0 rfl ?_
  refine x_dup C eX23_push_11 rfl ?_
  refine x_mV (k9 := 73) C (by decide) ww_852 eX23_push_12 rfl ?_
  refine x_iconst (v := 1) C eX23_push_15 (by decide) ?_
  refine x_iadd C eX23_push_16 ?_
  refine x_pM (k9 := 73) C (by decide) rfl (by decide) ww_852 rfl (by decide +kernel) eX23_push_17 h (fun S2 h => ?_)
  exact x_vret C rfl rfl eX23_push_20 h
set_option maxRecDepth 20000 in
set_option maxHeartbeats 4000000 in
theorem k_X23_boxUp (l : Launch) (D : va_G) (K : Ky) (m9 : Nat) (mr : Nat → Nat) (S0 Sf : Sg) (x1 : Option Nat) (rf : Unit) (h : f_boxUp K S0 x1 = some (Sf, rf)) : CT l D K m9 mr yX23_boxUp (Cond.code yX23_boxUp cX23_boxUp 5 none) (163) (3746) S0 Sf [.ref m9, va_rf x1] none := by
  refine x_start (cc := cX23_boxUp) (lv := [(0, .ref m9), (1, va_rf x1)]) rfl rfl (by decide) (by simp [lv_args, cat_rf, cat_i, cat_l, cat_a]) (by simp [lg_sl, cat_rf, cat_i, cat_l, cat_a]) (fun p e R s m args below meth c Q A C => ?_)
  have j_77 : ∀ (S : Sg) (x1 : Option Nat) (x2 : Int32) (x3 : Int32), f_boxUp_77 K S x1 x2 x3 = some (Sf, rf) → WX p l e R s m args below meth c Q D A K m9 mr 5 S0 S 77 [(0, .ref m9), (1, va_rf x1), (2, .int x2), (3, .int x3)] [] := by
    intro S x1 x2 x3 h
    unfold f_boxUp_77 at h
    refine x_tload_n C eX23_boxUp_77 rfl 0 rfl ?_
    refine x_cVi (As := []) (st := []) (n := 0) (frc := 1) (loc := 20) C h (fun S9 r9 e9 => k_X23_node l D K m9 mr _ S9 r9 e9) ww_737 ww_746 ww_747 ww_748 ww_16 (by decide +kernel) rfl ⟨by omega, by omega⟩ (Nat.le_of_ble_eq_true rfl) eX23_boxUp_78 (fun S9 v10 h => ?_)
    refine x_istore (lv2 := [(0, .ref m9), (1, va_rf x1), (2, .int x2), (3, .int x3)]) C eX23_boxUp_81 (by decide) rfl (oky rfl (oky (cat_rf x1) (oky rfl (oky rfl ok0)))) ?_
    refine x_tload_n C eX23_boxUp_83 rfl 1 rfl ?_
    refine x_mV (k9 := 61) C (by decide) ww_741 eX23_boxUp_84 rfl ?_
    refine x_iload C eX23_boxUp_87 0 rfl ?_
    refine x_tload_n C eX23_boxUp_89 rfl 1 rfl ?_
    refine x_aload_n C eX23_boxUp_90 rfl 2 rfl ?_
    refine x_tload_n C eX23_boxUp_91 rfl 1 rfl ?_
    refine x_cVl (As := []) (st := [va_rf x1, .ref m9, .int v10, .ref (mr 61)]) (n := 0) (frc := 1) (loc := 20) C h (fun S9 r9 e9 => k_X23_pop l D K m9 mr _ S9 r9 e9) ww_853 ww_791 ww_792 ww_793 ww_16 (by decide +kernel) rfl ⟨by omega, by omega⟩ (Nat.le_of_ble_eq_true rfl) eX23_boxUp_92 (fun S11 v12 h => ?_)
    refine x_cVi (As := [va_rf x1, .long v12]) (st := [.int v10, .ref (mr 61)]) (n := 2) (frc := 3) (loc := 64) C h (fun S9 r9 e9 => k_X23_freshPlace l D K m9 mr _ S9 x1 v12 r9 e9) ww_767 ww_794 ww_795 ww_796 ww_16 (by decide +kernel) rfl ⟨by omega, by omega⟩ (Nat.le_of_ble_eq_true rfl) eX23_boxUp_95 (fun S13 v14 h => ?_)
    refine x_i2l C eX23_boxUp_98 ?_
    refine x_iload_n C eX23_boxUp_99 rfl 4 rfl ?_
    refine x_i2l C eX23_boxUp_100 ?_
    refine x_bipush (v := 20) C eX23_boxUp_101 (by decide) ?_
    refine x_lshl C eX23_boxUp_103 ?_
    refine x_ladd C eX23_boxUp_104 ?_
    refine x_iload_n C eX23_boxUp_105 rfl 3 rfl ?_
    refine x_i2l C eX23_boxUp_106 ?_
    refine x_bipush (v := 40) C eX23_boxUp_107 (by decide) ?_
    refine x_lshl C eX23_boxUp_109 ?_
    refine x_ladd C eX23_boxUp_110 ?_
    refine x_wJ (r := 61) C (by decide) rfl eX23_boxUp_111 h (fun S15 h => ?_)
    refine x_tload_n C eX23_boxUp_112 rfl 1 rfl ?_
    refine x_iload C eX23_boxUp_113 0 rfl ?_
    refine x_i2l C eX23_boxUp_115 ?_
    refine x_cVv (As := [.long (Int32.toInt64 v10)]) (st := []) (n := 1) (frc := 1) (loc := 20) C h (fun S9 r9 e9 => k_X23_push l D K m9 mr _ S9 (Int32.toInt64 v10) r9 e9) ww_850 ww_797 ww_798 ww_799 ww_16 (by decide +kernel) rfl ⟨by omega, by omega⟩ (Nat.le_of_ble_eq_true rfl) eX23_boxUp_116 (fun S16 v17 h => ?_)
    exact x_vret C rfl rfl eX23_boxUp_119 h
  have j_26 : ∀ (n_26 : Nat) (S : Sg) (x1 : Option Nat) (x2 : Int32) (x3 : Int32) (x4 : Int32), f_boxUp_26 K n_26 S x1 x2 x3 x4 = some (Sf, rf) → WX p l e R s m args below meth c Q D A K m9 mr 5 S0 S 26 [(0, .ref m9), (1, va_rf x1), (2, .int x2), (3, .int x3), (4, .int x4)] [] := by
    intro n_26
    induction n_26 with
    | zero => intro S x1 x2 x3 x4 h; unfold f_boxUp_26 at h; cases h
    | succ n_26 ih_26 =>
      intro S x1 x2 x3 x4 h
      unfold f_boxUp_26 at h
      refine x_iload C eX23_boxUp_26 4 rfl ?_
      refine x_iload_n C eX23_boxUp_28 rfl 2 rfl ?_
      refine x_ic_ge (tgt := 48) C eX23_boxUp_29 (by decide) h (fun h => ?_) (fun h => ?_)
      · refine x_tload_n C eX23_boxUp_48 rfl 0 rfl ?_
        refine x_dup C eX23_boxUp_49 rfl ?_
        refine x_mV (k9 := 68) C (by decide) ww_785 eX23_boxUp_50 rfl ?_
        refine x_iload_n C eX23_boxUp_53 rfl 2 rfl ?_
        refine x_iadd C eX23_boxUp_54 ?_
        refine x_pM (k9 := 68) C (by decide) rfl (by decide) ww_785 rfl (by decide +kernel) eX23_boxUp_55 h (fun S6 h => ?_)
        refine x_tload_n C eX23_boxUp_58 rfl 0 rfl ?_
        refine x_mV (k9 := 68) C (by decide) ww_785 eX23_boxUp_59 rfl ?_
        refine x_tload_n C eX23_boxUp_62 rfl 0 rfl ?_
        refine x_mV (k9 := 69) C (by decide) ww_790 eX23_boxUp_63 rfl ?_
        refine x_ic_le (tgt := 77) C eX23_boxUp_66 (by decide) h (fun h => ?_) (fun h => ?_)
        · refine x_sub [0, 1, 2, 3] rfl ?_
          exact j_77 S6 x1 x2 x3 h
        · refine x_tload_n C eX23_boxUp_69 rfl 0 rfl ?_
          refine x_tload_n C eX23_boxUp_70 rfl 0 rfl ?_
          refine x_mV (k9 := 68) C (by decide) ww_785 eX23_boxUp_71 rfl ?_
          refine x_pM (k9 := 69) C (by decide) rfl (by decide) ww_790 rfl (by decide +kernel) eX23_boxUp_74 h (fun S7 h => ?_)
          refine x_sub [0, 1, 2, 3] rfl ?_
          exact j_77 S7 x1 x2 x3 h
      · refine x_tload_n C eX23_boxUp_32 rfl 0 rfl ?_
        refine x_mV (k9 := 67) C (by decide) ww_777 eX23_boxUp_33 rfl ?_
        refine x_iload_n C eX23_boxUp_36 rfl 3 rfl ?_
        refine x_iload C eX23_boxUp_37 4 rfl ?_
        refine x_iadd C eX23_boxUp_39 ?_
        refine x_iconst (v := 1) C eX23_boxUp_40 (by decide) ?_
        refine x_wZ (r := 67) C (by decide) rfl eX23_boxUp_41 h (fun S8 h => ?_)
        refine x_iinc (j := 4) (v := 1) (lv2 := [(0, .ref m9), (1, va_rf x1), (2, .int x2), (3, .int x3)]) C eX23_boxUp_42 rfl (by decide) (by decide) rfl (oky rfl (oky (cat_rf x1) (oky rfl (oky rfl ok0)))) ?_
        refine x_goto (tgt := 26) C eX23_boxUp_45 (by decide) ?_
        refine x_sub [1, 2, 3, 4, 0] rfl ?_
        exact ih_26 S8 x1 x2 x3 (x4 + 1) h
  unfold f_boxUp at h
  refine x_tload_n C eX23_boxUp_0 rfl 0 rfl ?_
  refine x_aload_n C eX23_boxUp_1 rfl 1 rfl ?_
  refine x_cVi (As := [va_rf x1]) (st := []) (n := 1) (frc := 2 + 2 * 80) (loc := 45 + 46 * 80) C h (fun S9 r9 e9 => k_X23_sizeOf l D K m9 mr (f_sizeOfItem K 80) 80 (k_X23_sizeOfItem l D K m9 mr 80) _ S9 x1 r9 e9) ww_298 ww_303 ww_304 ww_305 ww_16 (by decide +kernel) rfl ⟨by omega, by omega⟩ (Nat.le_of_ble_eq_true rfl) eX23_boxUp_2 (fun S1 v2 h => ?_)
  refine x_istore_n (lv2 := [(0, .ref m9), (1, va_rf x1)]) C eX23_boxUp_5 rfl (by decide) rfl (oky rfl (oky (cat_rf x1) ok0)) ?_
  refine x_tload_n C eX23_boxUp_6 rfl 1 rfl ?_
  refine x_iload_n C eX23_boxUp_7 rfl 0 rfl ?_
  refine x_cVi (As := [.int v2]) (st := []) (n := 1) (frc := 1) (loc := 20) C h (fun S9 r9 e9 => k_X23_findRoom l D K m9 mr _ S9 v2 r9 e9) ww_775 ww_787 ww_788 ww_789 ww_16 (by decide +kernel) rfl ⟨by omega, by omega⟩ (Nat.le_of_ble_eq_true rfl) eX23_boxUp_8 (fun S3 v4 h => ?_)
  refine x_istore_n (lv2 := [(2, .int v2), (0, .ref m9), (1, va_rf x1)]) C eX23_boxUp_11 rfl (by decide) rfl (oky rfl (oky rfl (oky (cat_rf x1) ok0))) ?_
  refine x_iload_n C eX23_boxUp_12 rfl 0 rfl ?_
  refine x_if_ge (tgt := 23) C eX23_boxUp_13 (by decide) h (fun h => ?_) (fun h => ?_)
  · refine x_iconst (v := 0) C eX23_boxUp_23 (by decide) ?_
    refine x_istore (lv2 := [(3, .int v4), (2, .int v2), (0, .ref m9), (1, va_rf x1)]) C eX23_boxUp_24 (by decide) rfl (oky rfl (oky rfl (oky rfl (oky (cat_rf x1) ok0)))) ?_
    refine x_sub [3, 4, 2, 1, 0] rfl ?_
    exact j_26 bigN S3 x1 v2 v4 0 h
  · refine x_tload_n C eX23_boxUp_16 rfl 2 rfl ?_
    refine x_bipush (v := 9) C eX23_boxUp_17 (by decide) ?_
    refine x_pM (k9 := 3) C (by decide) rfl (by decide) ww_1 rfl (by decide +kernel) eX23_boxUp_19 h (fun S5 h => ?_)
    exact x_vret C rfl rfl eX23_boxUp_22 h
set_option maxRecDepth 20000 in
set_option maxHeartbeats 4000000 in
theorem k_X23_later (l : Launch) (D : va_G) (K : Ky) (m9 : Nat) (mr : Nat → Nat) (S0 Sf : Sg) (x1 : Int32) (x2 : Option Nat) (x3 : Int32) (rf : Unit) (h : f_later K S0 x1 x2 x3 = some (Sf, rf)) : CT l D K m9 mr yX23_later (Cond.code yX23_later cX23_later 4 none) (1) (20) S0 Sf [.ref m9, .int x1, va_rf x2, .int x3] none := by
  refine x_start (cc := cX23_later) (lv := [(0, .ref m9), (1, .int x1), (2, va_rf x2), (3, .int x3)]) rfl rfl (by decide) (by simp [lv_args, cat_rf, cat_i, cat_l, cat_a]) (by simp [lg_sl, cat_rf, cat_i, cat_l, cat_a]) (fun p e R s m args below meth c Q A C => ?_)
  have j_30 : ∀ (S : Sg) (x3 : Int32) (y0 : Int32) (y1 : Int32), f_later_30 K S x3 y0 y1 = some (Sf, rf) → WX p l e R s m args below meth c Q D A K m9 mr 4 S0 S 30 [(0, .ref m9), (3, .int x3)] [.int y0, .int y1, .ref (mr 79)] := by
    intro S x3 y0 y1 h
    unfold f_later_30 at h
    refine x_wI (r := 79) C (by decide) rfl eX23_later_30 h (fun S3 h => ?_)
    refine x_tload_n C eX23_later_31 rfl 0 rfl ?_
    refine x_mV (k9 := 80) C (by decide) ww_804 eX23_later_32 rfl ?_
    refine x_tload_n C eX23_later_35 rfl 0 rfl ?_
    refine x_mV (k9 := 81) C (by decide) ww_802 eX23_later_36 rfl ?_
    refine x_iload_n C eX23_later_39 rfl 1 rfl ?_
    refine x_wI (r := 80) C (by decide) rfl eX23_later_40 h (fun S4 h => ?_)
    refine x_tload_n C eX23_later_41 rfl 0 rfl ?_
    refine x_dup C eX23_later_42 rfl ?_
    refine x_mV (k9 := 81) C (by decide) ww_802 eX23_later_43 rfl ?_
    refine x_iconst (v := 1) C eX23_later_46 (by decide) ?_
    refine x_iadd C eX23_later_47 ?_
    refine x_pM (k9 := 81) C (by decide) rfl (by decide) ww_802 rfl (by decide +kernel) eX23_later_48 h (fun S5 h => ?_)
    exact x_vret C rfl rfl eX23_later_51 h
  unfold f_later at h
  refine x_tload_n C eX23_later_0 rfl 0 rfl ?_
  refine x_mV (k9 := 78) C (by decide) ww_801 eX23_later_1 rfl ?_
  refine x_tload_n C eX23_later_4 rfl 0 rfl ?_
  refine x_mV (k9 := 81) C (by decide) ww_802 eX23_later_5 rfl ?_
  refine x_iload_n C eX23_later_8 rfl 1 rfl ?_
  refine x_wI (r := 78) C (by decide) rfl eX23_later_9 h (fun S1 h => ?_)
  refine x_tload_n C eX23_later_10 rfl 0 rfl ?_
  refine x_mV (k9 := 79) C (by decide) ww_803 eX23_later_11 rfl ?_
  refine x_tload_n C eX23_later_14 rfl 0 rfl ?_
  refine x_mV (k9 := 81) C (by decide) ww_802 eX23_later_15 rfl ?_
  refine x_aload_n C eX23_later_18 rfl 2 rfl ?_
  refine x_ifnonnull (tgt := 26) C eX23_later_19 (by decide) h (fun h => ?_) (fun h => ?_)
  · refine x_aload_n C eX23_later_26 rfl 2 rfl ?_
    refine x_gI (o9 := x2) (ci := 20) (k9 := 2) (Cn := RX20) (T := TX20) (N := 4) C rfl wt_X20 (by decide) ww_253 eX23_later_27 h (fun v2 h => ?_)
    refine x_sub [0, 3] rfl ?_
    exact j_30 S1 x3 v2 (Zi S1 81) h
  · refine x_iconst (v := 0) C eX23_later_22 (by decide) ?_
    refine x_goto (tgt := 30) C eX23_later_23 (by decide) ?_
    refine x_sub [0, 3] rfl ?_
    exact j_30 S1 x3 0 (Zi S1 81) h
set_option maxRecDepth 20000 in
set_option maxHeartbeats 4000000 in
theorem k_X23_laterParts (l : Launch) (D : va_G) (K : Ky) (m9 : Nat) (mr : Nat → Nat) (S0 Sf : Sg) (x1 : Option Nat) (x2 : Int32) (x3 : Int32) (x4 : Int32) (rf : Unit) (h : f_laterParts K S0 x1 x2 x3 x4 = some (Sf, rf)) : CT l D K m9 mr yX23_laterParts (Cond.code yX23_laterParts cX23_laterParts 7 none) (3) (69) S0 Sf [.ref m9, va_rf x1, .int x2, .int x3, .int x4] none := by
  refine x_start (cc := cX23_laterParts) (lv := [(0, .ref m9), (1, va_rf x1), (2, .int x2), (3, .int x3), (4, .int x4)]) rfl rfl (by decide) (by simp [lv_args, cat_rf, cat_i, cat_l, cat_a]) (by simp [lg_sl, cat_rf, cat_i, cat_l, cat_a]) (fun p e R s m args below meth c Q A C => ?_)
  have j_5 : ∀ (n_5 : Nat) (S : Sg) (x1 : Option Nat) (x3 : Int32) (x4 : Int32) (x5 : Int32), f_laterParts_5 K n_5 S x1 x3 x4 x5 = some (Sf, rf) → WX p l e R s m args below meth c Q D A K m9 mr 7 S0 S 5 [(0, .ref m9), (1, va_rf x1), (3, .int x3), (4, .int x4), (5, .int x5)] [] := by
    intro n_5
    induction n_5 with
    | zero => intro S x1 x3 x4 x5 h; unfold f_laterParts_5 at h; cases h
    | succ n_5 ih_5 =>
      intro S x1 x3 x4 x5 h
      have j_36 : ∀ (S : Sg) (x1 : Option Nat) (x3 : Int32) (x4 : Int32) (x5 : Int32) (x6 : Int32), f_laterParts_36 K (f_laterParts_5 K n_5) S x1 x3 x4 x5 x6 = some (Sf, rf) → WX p l e R s m args below meth c Q D A K m9 mr 7 S0 S 36 [(0, .ref m9), (1, va_rf x1), (3, .int x3), (4, .int x4), (5, .int x5), (6, .int x6)] [] := by
        intro S x1 x3 x4 x5 x6 h
        unfold f_laterParts_36 at h
        refine x_tload_n C eX23_laterParts_36 rfl 0 rfl ?_
        refine x_iconst (v := 0) C eX23_laterParts_37 (by decide) ?_
        refine x_aload_n C eX23_laterParts_38 rfl 1 rfl ?_
        refine x_iload C eX23_laterParts_39 4 rfl ?_
        refine x_aQ (t9 := 4) C rfl eX23_laterParts_41 h (fun v6 h => ?_)
        refine x_iload C eX23_laterParts_42 5 rfl ?_
        refine x_cVv (As := [.int 0, va_rf v6, .int x6]) (st := []) (n := 3) (frc := 1) (loc := 20) C h (fun S9 r9 e9 => k_X23_later l D K m9 mr _ S9 0 v6 x6 r9 e9) ww_800 ww_809 ww_810 ww_811 ww_16 (by decide +kernel) rfl ⟨by omega, by omega⟩ (Nat.le_of_ble_eq_true rfl) eX23_laterParts_44 (fun S7 v8 h => ?_)
        refine x_iinc (j := 4) (v := (-1)) (lv2 := [(0, .ref m9), (1, va_rf x1), (3, .int x3), (4, .int x4), (6, .int x6)]) C eX23_laterParts_47 rfl (by decide) (by decide) rfl (oky rfl (oky (cat_rf x1) (oky rfl (oky rfl (oky rfl ok0))))) ?_
        refine x_goto (tgt := 5) C eX23_laterParts_50 (by decide) ?_
        refine x_sub [1, 2, 3, 4, 0] rfl ?_
        exact ih_5 S7 x1 x3 x4 (x5 + (-1)) h
      unfold f_laterParts_5 at h
      refine x_iload C eX23_laterParts_5 4 rfl ?_
      refine x_if_lt (tgt := 53) C eX23_laterParts_7 (by decide) h (fun h => ?_) (fun h => ?_)
      · exact x_vret C rfl rfl eX23_laterParts_53 h
      · refine x_tload_n C eX23_laterParts_10 rfl 0 rfl ?_
        refine x_aload_n C eX23_laterParts_11 rfl 1 rfl ?_
        refine x_iload_n C eX23_laterParts_12 rfl 2 rfl ?_
        refine x_iload C eX23_laterParts_13 4 rfl ?_
        refine x_cVi (As := [va_rf x1, .int x3, .int x5]) (st := []) (n := 3) (frc := 2) (loc := 44) C h (fun S9 r9 e9 => k_X23_partOf l D K m9 mr _ S9 x1 x3 x5 r9 e9) ww_753 ww_806 ww_807 ww_808 ww_16 (by decide +kernel) rfl ⟨by omega, by omega⟩ (Nat.le_of_ble_eq_true rfl) eX23_laterParts_15 (fun S1 v2 h => ?_)
        refine x_istore (lv2 := [(0, .ref m9), (1, va_rf x1), (3, .int x3), (4, .int x4), (5, .int x5)]) C eX23_laterParts_18 (by decide) rfl (oky rfl (oky (cat_rf x1) (oky rfl (oky rfl (oky rfl ok0))))) ?_
        refine x_iload C eX23_laterParts_20 4 rfl ?_
        refine x_if_eq (tgt := 36) C eX23_laterParts_22 (by decide) h (fun h => ?_) (fun h => ?_)
        · refine x_sub [1, 2, 3, 4, 5, 0] rfl ?_
          exact j_36 S1 x1 x3 x4 x5 v2 h
        · refine x_tload_n C eX23_laterParts_25 rfl 1 rfl ?_
          refine x_iconst (v := 1) C eX23_laterParts_26 (by decide) ?_
          refine x_aload_n C eX23_laterParts_27 rfl 2 rfl ?_
          refine x_iload C eX23_laterParts_28 5 rfl ?_
          refine x_aQ (t9 := 4) C rfl eX23_laterParts_30 h (fun v3 h => ?_)
          refine x_iload C eX23_laterParts_31 0 rfl ?_
          refine x_cVv (As := [.int 1, va_rf v3, .int v2]) (st := []) (n := 3) (frc := 1) (loc := 20) C h (fun S9 r9 e9 => k_X23_later l D K m9 mr _ S9 1 v3 v2 r9 e9) ww_800 ww_809 ww_810 ww_811 ww_16 (by decide +kernel) rfl ⟨by omega, by omega⟩ (Nat.le_of_ble_eq_true rfl) eX23_laterParts_33 (fun S4 v5 h => ?_)
          refine x_sub [1, 2, 3, 4, 5, 0] rfl ?_
          exact j_36 S4 x1 x3 x4 x5 v2 h
  unfold f_laterParts at h
  refine x_iload_n C eX23_laterParts_0 rfl 2 rfl ?_
  refine x_iconst (v := 1) C eX23_laterParts_1 (by decide) ?_
  refine x_isub C eX23_laterParts_2 ?_
  refine x_istore (lv2 := [(0, .ref m9), (1, va_rf x1), (2, .int x2), (3, .int x3), (4, .int x4)]) C eX23_laterParts_3 (by decide) rfl (oky rfl (oky (cat_rf x1) (oky rfl (oky rfl (oky rfl ok0))))) ?_
  refine x_sub [1, 2, 4, 5, 0] rfl ?_
  exact j_5 bigN S0 x1 x3 x4 (x2 - 1) h
set_option maxRecDepth 20000 in
set_option maxHeartbeats 4000000 in
theorem k_X23_write (l : Launch) (D : va_G) (K : Ky) (m9 : Nat) (mr : Nat → Nat) (S0 Sf : Sg) (x1 : Int32) (rf : Unit) (h : f_write K S0 x1 = some (Sf, rf)) : CT l D K m9 mr yX23_write (Cond.code yX23_write cX23_write 2 none) (1) (20) S0 Sf [.ref m9, .int x1] none := by
  refine x_start (cc := cX23_write) (lv := [(0, .ref m9), (1, .int x1)]) rfl rfl (by decide) (by simp [lv_args, cat_rf, cat_i, cat_l, cat_a]) (by simp [lg_sl, cat_rf, cat_i, cat_l, cat_a]) (fun p e R s m args below meth c Q A C => ?_)
  unfold f_write at h
  refine x_tload_n C eX23_write_0 rfl 0 rfl ?_
  refine x_mV (k9 := 84) C (by decide) ww_840 eX23_write_1 rfl ?_
  refine x_sipush (v := 4000) C eX23_write_4 (by decide) ?_
  refine x_ic_ne (tgt := 11) C eX23_write_7 (by decide) h (fun h => ?_) (fun h => ?_)
  · refine x_tload_n C eX23_write_11 rfl 0 rfl ?_
    refine x_mV (k9 := 82) C (by decide) ww_841 eX23_write_12 rfl ?_
    refine x_tload_n C eX23_write_15 rfl 0 rfl ?_
    refine x_mV (k9 := 83) C (by decide) ww_842 eX23_write_16 rfl ?_
    refine x_tload_n C eX23_write_19 rfl 0 rfl ?_
    refine x_mV (k9 := 84) C (by decide) ww_840 eX23_write_20 rfl ?_
    refine x_iadd C eX23_write_23 ?_
    refine x_sipush (v := 4000) C eX23_write_24 (by decide) ?_
    refine x_irem C eX23_write_27 h (fun h => ?_)
    refine x_iload_n C eX23_write_28 rfl 1 rfl ?_
    refine x_wI (r := 82) C (by decide) rfl eX23_write_29 h (fun S1 h => ?_)
    refine x_tload_n C eX23_write_30 rfl 0 rfl ?_
    refine x_dup C eX23_write_31 rfl ?_
    refine x_mV (k9 := 84) C (by decide) ww_840 eX23_write_32 rfl ?_
    refine x_iconst (v := 1) C eX23_write_35 (by decide) ?_
    refine x_iadd C eX23_write_36 ?_
    refine x_pM (k9 := 84) C (by decide) rfl (by decide) ww_840 rfl (by decide +kernel) eX23_write_37 h (fun S2 h => ?_)
    exact x_vret C rfl rfl eX23_write_40 h
  · exact x_vret C rfl rfl eX23_write_10 h
set_option maxRecDepth 20000 in
set_option maxHeartbeats 4000000 in
theorem k_X23_writeNumber (l : Launch) (D : va_G) (K : Ky) (m9 : Nat) (mr : Nat → Nat) (S0 Sf : Sg) (x1 : Int64) (rf : Unit) (h : f_writeNumber K S0 x1 = some (Sf, rf)) : CT l D K m9 mr yX23_writeNumber (Cond.code yX23_writeNumber cX23_writeNumber 9 none) (2) (41) S0 Sf [.ref m9, .long x1] none := by
  refine x_start (cc := cX23_writeNumber) (lv := [(0, .ref m9), (1, .long x1)]) rfl rfl (by decide) (by simp [lv_args, cat_rf, cat_i, cat_l, cat_a]) (by simp [lg_sl, cat_rf, cat_i, cat_l, cat_a]) (fun p e R s m args below meth c Q A C => ?_)
  have j_46 : ∀ (n_46 : Nat) (S : Sg) (x1 : Int64) (x5 : Int64), f_writeNumber_46 K n_46 S x1 x5 = some (Sf, rf) → WX p l e R s m args below meth c Q D A K m9 mr 9 S0 S 46 [(0, .ref m9), (1, .long x1), (5, .long x5)] [] := by
    intro n_46
    induction n_46 with
    | zero => intro S x1 x5 h; unfold f_writeNumber_46 at h; cases h
    | succ n_46 ih_46 =>
      intro S x1 x5 h
      have j_82 : ∀ (S : Sg) (x1 : Int64) (x5 : Int64) (y0 : Int64) (y1 : Int64), f_writeNumber_82 K (f_writeNumber_46 K n_46) S x1 x5 y0 y1 = some (Sf, rf) → WX p l e R s m args below meth c Q D A K m9 mr 9 S0 S 82 [(0, .ref m9), (1, .long x1), (5, .long x5)] [.long y0, .long y1, .ref m9] := by
        intro S x1 x5 y0 y1 h
        unfold f_writeNumber_82 at h
        refine x_ladd C eX23_writeNumber_82 ?_
        refine x_l2i C eX23_writeNumber_83 ?_
        refine x_cVv (As := [.int (Int64.toInt32 (y1 + y0))]) (st := []) (n := 1) (frc := 1) (loc := 20) C h (fun S9 r9 e9 => k_X23_write l D K m9 mr _ S9 (Int64.toInt32 (y1 + y0)) r9 e9) ww_839 ww_813 ww_814 ww_815 ww_16 (by decide +kernel) rfl ⟨by omega, by omega⟩ (Nat.le_of_ble_eq_true rfl) eX23_writeNumber_84 (fun S3 v4 h => ?_)
        refine x_lload C eX23_writeNumber_87 2 rfl ?_
        refine x_ldc2 C eX23_writeNumber_89 ww_846 ?_
        refine x_ldiv C eX23_writeNumber_92 h (fun h => ?_)
        refine x_lstore (lv2 := [(0, .ref m9), (1, .long x1)]) C eX23_writeNumber_93 (by decide) rfl (oky rfl (okn (Nat.ne_of_beq_eq_false rfl) ok0)) ?_
        refine x_goto (tgt := 46) C eX23_writeNumber_95 (by decide) ?_
        refine x_sub [1, 2, 0] rfl ?_
        exact ih_46 S3 x1 (x5 / 10) h
      unfold f_writeNumber_46 at h
      refine x_lload C eX23_writeNumber_46 2 rfl ?_
      refine x_lconst (v := 0) C eX23_writeNumber_48 (by decide) ?_
      refine x_lcmp C eX23_writeNumber_49 ?_
      refine x_if_le (tgt := 98) C eX23_writeNumber_50 (by decide) h (fun h => ?_) (fun h => ?_)
      · exact x_vret C rfl rfl eX23_writeNumber_98 h
      · refine x_lload_n C eX23_writeNumber_53 rfl 1 rfl ?_
        refine x_lload C eX23_writeNumber_54 2 rfl ?_
        refine x_ldiv C eX23_writeNumber_56 h (fun h => ?_)
        refine x_ldc2 C eX23_writeNumber_57 ww_846 ?_
        refine x_lrem C eX23_writeNumber_60 h (fun h => ?_)
        refine x_lstore (lv2 := [(0, .ref m9), (1, .long x1), (5, .long x5)]) C eX23_writeNumber_61 (by decide) rfl (oky rfl (okn (Nat.ne_of_beq_eq_false rfl) (okn (Nat.ne_of_beq_eq_false rfl) ok0))) ?_
        refine x_tload_n C eX23_writeNumber_63 rfl 1 rfl ?_
        refine x_ldc2 C eX23_writeNumber_64 ww_847 ?_
        refine x_lload C eX23_writeNumber_67 0 rfl ?_
        refine x_lconst (v := 0) C eX23_writeNumber_69 (by decide) ?_
        refine x_lcmp C eX23_writeNumber_70 ?_
        refine x_if_ge (tgt := 80) C eX23_writeNumber_71 (by decide) h (fun h => ?_) (fun h => ?_)
        · refine x_lload C eX23_writeNumber_80 0 rfl ?_
          refine x_sub [1, 2, 3] rfl ?_
          exact j_82 S x1 x5 ((x1 / x5) - (x1 / x5) / 10 * 10) 48 h
        · refine x_lload C eX23_writeNumber_74 0 rfl ?_
          refine x_lneg C eX23_writeNumber_76 ?_
          refine x_goto (tgt := 82) C eX23_writeNumber_77 (by decide) ?_
          refine x_sub [1, 2, 3] rfl ?_
          exact j_82 S x1 x5 (-((x1 / x5) - (x1 / x5) / 10 * 10)) 48 h
  have j_14 : ∀ (n_14 : Nat) (S : Sg) (x1 : Int64) (x3 : Int64), f_writeNumber_14 K n_14 S x1 x3 = some (Sf, rf) → WX p l e R s m args below meth c Q D A K m9 mr 9 S0 S 14 [(0, .ref m9), (1, .long x1), (3, .long x3)] [] := by
    intro n_14
    induction n_14 with
    | zero => intro S x1 x3 h; unfold f_writeNumber_14 at h; cases h
    | succ n_14 ih_14 =>
      intro S x1 x3 h
      have j_34 : ∀ (S : Sg) (x1 : Int64) (x3 : Int64), f_writeNumber_34 K (f_writeNumber_14 K n_14) S x1 x3 = some (Sf, rf) → WX p l e R s m args below meth c Q D A K m9 mr 9 S0 S 34 [(0, .ref m9), (1, .long x1), (3, .long x3)] [] := by
        intro S x1 x3 h
        unfold f_writeNumber_34 at h
        refine x_lload_n C eX23_writeNumber_34 rfl 2 rfl ?_
        refine x_ldc2 C eX23_writeNumber_35 ww_846 ?_
        refine x_lmul C eX23_writeNumber_38 ?_
        refine x_lstore_n (lv2 := [(0, .ref m9), (1, .long x1)]) C eX23_writeNumber_39 rfl (by decide) rfl (oky rfl (okn (Nat.ne_of_beq_eq_false rfl) ok0)) ?_
        refine x_goto (tgt := 14) C eX23_writeNumber_40 (by decide) ?_
        refine x_sub [1, 2, 0] rfl ?_
        exact ih_14 S x1 (x3 * 10) h
      unfold f_writeNumber_14 at h
      refine x_lload_n C eX23_writeNumber_14 rfl 1 rfl ?_
      refine x_lload_n C eX23_writeNumber_15 rfl 2 rfl ?_
      refine x_ldiv C eX23_writeNumber_16 h (fun h => ?_)
      refine x_ldc2 C eX23_writeNumber_17 ww_844 ?_
      refine x_lcmp C eX23_writeNumber_20 ?_
      refine x_if_gt (tgt := 34) C eX23_writeNumber_21 (by decide) h (fun h => ?_) (fun h => ?_)
      · refine x_sub [0, 1, 2] rfl ?_
        exact j_34 S x1 x3 h
      · refine x_lload_n C eX23_writeNumber_24 rfl 1 rfl ?_
        refine x_lload_n C eX23_writeNumber_25 rfl 2 rfl ?_
        refine x_ldiv C eX23_writeNumber_26 h (fun h => ?_)
        refine x_ldc2 C eX23_writeNumber_27 ww_845 ?_
        refine x_lcmp C eX23_writeNumber_30 ?_
        refine x_if_ge (tgt := 43) C eX23_writeNumber_31 (by decide) h (fun h => ?_) (fun h => ?_)
        · refine x_lload_n C eX23_writeNumber_43 rfl 2 rfl ?_
          refine x_lstore (lv2 := [(0, .ref m9), (1, .long x1), (3, .long x3)]) C eX23_writeNumber_44 (by decide) rfl (oky rfl (okn (Nat.ne_of_beq_eq_false rfl) (okn (Nat.ne_of_beq_eq_false rfl) ok0))) ?_
          refine x_sub [1, 2, 0] rfl ?_
          exact j_46 bigN S x1 x3 h
        · refine x_sub [0, 1, 2] rfl ?_
          exact j_34 S x1 x3 h
  have j_12 : ∀ (S : Sg) (x1 : Int64), f_writeNumber_12 K S x1 = some (Sf, rf) → WX p l e R s m args below meth c Q D A K m9 mr 9 S0 S 12 [(0, .ref m9), (1, .long x1)] [] := by
    intro S x1 h
    unfold f_writeNumber_12 at h
    refine x_lconst (v := 1) C eX23_writeNumber_12 (by decide) ?_
    refine x_lstore_n (lv2 := [(0, .ref m9), (1, .long x1)]) C eX23_writeNumber_13 rfl (by decide) rfl (oky rfl (okn (Nat.ne_of_beq_eq_false rfl) ok0)) ?_
    refine x_sub [1, 2, 0] rfl ?_
    exact j_14 bigN S x1 1 h
  unfold f_writeNumber at h
  refine x_lload_n C eX23_writeNumber_0 rfl 1 rfl ?_
  refine x_lconst (v := 0) C eX23_writeNumber_1 (by decide) ?_
  refine x_lcmp C eX23_writeNumber_2 ?_
  refine x_if_ge (tgt := 12) C eX23_writeNumber_3 (by decide) h (fun h => ?_) (fun h => ?_)
  · refine x_sub [0, 1] rfl ?_
    exact j_12 S0 x1 h
  · refine x_tload_n C eX23_writeNumber_6 rfl 0 rfl ?_
    refine x_bipush (v := 45) C eX23_writeNumber_7 (by decide) ?_
    refine x_cVv (As := [.int 45]) (st := []) (n := 1) (frc := 1) (loc := 20) C h (fun S9 r9 e9 => k_X23_write l D K m9 mr _ S9 45 r9 e9) ww_839 ww_813 ww_814 ww_815 ww_16 (by decide +kernel) rfl ⟨by omega, by omega⟩ (Nat.le_of_ble_eq_true rfl) eX23_writeNumber_9 (fun S1 v2 h => ?_)
    refine x_sub [0, 1] rfl ?_
    exact j_12 S1 x1 h
set_option maxRecDepth 20000 in
set_option maxHeartbeats 4000000 in
theorem k_X23_dropValue (l : Launch) (D : va_G) (K : Ky) (m9 : Nat) (mr : Nat → Nat) (S0 Sf : Sg) (x1 : Option Nat) (x2 : Int64) (rf : Unit) (h : f_dropValue K S0 x1 x2 = some (Sf, rf)) : CT l D K m9 mr yX23_dropValue (Cond.code yX23_dropValue cX23_dropValue 6 none) (4) (95) S0 Sf [.ref m9, va_rf x1, .long x2] none := by
  refine x_start (cc := cX23_dropValue) (lv := [(0, .ref m9), (1, va_rf x1), (2, .long x2)]) rfl rfl (by decide) (by simp [lv_args, cat_rf, cat_i, cat_l, cat_a]) (by simp [lg_sl, cat_rf, cat_i, cat_l, cat_a]) (fun p e R s m args below meth c Q A C => ?_)
  have j_181 : ∀ (S : Sg), f_dropValue_181 K S = some (Sf, rf) → WX p l e R s m args below meth c Q D A K m9 mr 6 S0 S 181 [] [] := by
    intro S h
    unfold f_dropValue_181 at h
    exact x_vret C rfl rfl eX23_dropValue_181 h
  unfold f_dropValue at h
  refine x_lload_n C eX23_dropValue_0 rfl 2 rfl ?_
  refine x_l2i C eX23_dropValue_1 ?_
  refine x_istore (lv2 := [(0, .ref m9), (1, va_rf x1), (2, .long x2)]) C eX23_dropValue_2 (by decide) rfl (oky rfl (oky (cat_rf x1) (okn (Nat.ne_of_beq_eq_false rfl) ok0))) ?_
  refine x_aload_n C eX23_dropValue_4 rfl 2 rfl ?_
  refine x_gI (o9 := x1) (ci := 20) (k9 := 0) (Cn := RX20) (T := TX20) (N := 4) C rfl wt_X20 (by decide) ww_247 eX23_dropValue_5 h (fun v1 h => ?_)
  refine x_iconst (v := 2) C eX23_dropValue_8 (by decide) ?_
  refine x_ic_ne (tgt := 32) C eX23_dropValue_9 (by decide) h (fun h => ?_) (fun h => ?_)
  · refine x_aload_n C eX23_dropValue_32 rfl 2 rfl ?_
    refine x_gI (o9 := x1) (ci := 20) (k9 := 0) (Cn := RX20) (T := TX20) (N := 4) C rfl wt_X20 (by decide) ww_247 eX23_dropValue_33 h (fun v2 h => ?_)
    refine x_iconst (v := 3) C eX23_dropValue_36 (by decide) ?_
    refine x_ic_ne (tgt := 74) C eX23_dropValue_37 (by decide) h (fun h => ?_) (fun h => ?_)
    · refine x_aload_n C eX23_dropValue_74 rfl 2 rfl ?_
      refine x_gI (o9 := x1) (ci := 20) (k9 := 0) (Cn := RX20) (T := TX20) (N := 4) C rfl wt_X20 (by decide) ww_247 eX23_dropValue_75 h (fun v3 h => ?_)
      refine x_iconst (v := 4) C eX23_dropValue_78 (by decide) ?_
      refine x_ic_ne (tgt := 135) C eX23_dropValue_79 (by decide) h (fun h => ?_) (fun h => ?_)
      · refine x_aload_n C eX23_dropValue_135 rfl 2 rfl ?_
        refine x_gI (o9 := x1) (ci := 20) (k9 := 0) (Cn := RX20) (T := TX20) (N := 4) C rfl wt_X20 (by decide) ww_247 eX23_dropValue_136 h (fun v4 h => ?_)
        refine x_iconst (v := 5) C eX23_dropValue_139 (by decide) ?_
        refine x_ic_ne (tgt := 181) C eX23_dropValue_140 (by decide) h (fun h => ?_) (fun h => ?_)
        · refine x_sub [] rfl ?_
          exact j_181 S0 h
        · refine x_tload_n C eX23_dropValue_143 rfl 1 rfl ?_
          refine x_iconst (v := 2) C eX23_dropValue_144 (by decide) ?_
          refine x_null C eX23_dropValue_145 ?_
          refine x_iload C eX23_dropValue_146 0 rfl ?_
          refine x_cVv (As := [.int 2, va_rf none, .int (Int64.toInt32 x2)]) (st := []) (n := 3) (frc := 1) (loc := 20) C h (fun S9 r9 e9 => k_X23_later l D K m9 mr _ S9 2 none (Int64.toInt32 x2) r9 e9) ww_800 ww_809 ww_810 ww_811 ww_16 (by decide +kernel) rfl ⟨by omega, by omega⟩ (Nat.le_of_ble_eq_true rfl) eX23_dropValue_148 (fun S5 v6 h => ?_)
          refine x_tload_n C eX23_dropValue_151 rfl 1 rfl ?_
          refine x_iconst (v := 1) C eX23_dropValue_152 (by decide) ?_
          refine x_aload_n C eX23_dropValue_153 rfl 2 rfl ?_
          refine x_gR (o9 := x1) (ci := 20) (k9 := 3) (Cn := RX20) (T := TX20) (N := 4) C rfl wt_X20 (by decide) ww_249 eX23_dropValue_154 h (fun v7 h => ?_)
          refine x_tload_n C eX23_dropValue_157 rfl 1 rfl ?_
          refine x_iload C eX23_dropValue_158 0 rfl ?_
          refine x_cVi (As := [.int (Int64.toInt32 x2)]) (st := [va_rf v7, .int 1, .ref m9]) (n := 1) (frc := 1) (loc := 20) C h (fun S9 r9 e9 => k_X23_kidOf l D K m9 mr _ S9 (Int64.toInt32 x2) r9 e9) ww_771 ww_822 ww_823 ww_824 ww_16 (by decide +kernel) rfl ⟨by omega, by omega⟩ (Nat.le_of_ble_eq_true rfl) eX23_dropValue_160 (fun S8 v9 h => ?_)
          refine x_cVv (As := [.int 1, va_rf v7, .int v9]) (st := []) (n := 3) (frc := 1) (loc := 20) C h (fun S9 r9 e9 => k_X23_later l D K m9 mr _ S9 1 v7 v9 r9 e9) ww_800 ww_809 ww_810 ww_811 ww_16 (by decide +kernel) rfl ⟨by omega, by omega⟩ (Nat.le_of_ble_eq_true rfl) eX23_dropValue_163 (fun S10 v11 h => ?_)
          refine x_tload_n C eX23_dropValue_166 rfl 1 rfl ?_
          refine x_iconst (v := 0) C eX23_dropValue_167 (by decide) ?_
          refine x_aload_n C eX23_dropValue_168 rfl 2 rfl ?_
          refine x_gR (o9 := x1) (ci := 20) (k9 := 3) (Cn := RX20) (T := TX20) (N := 4) C rfl wt_X20 (by decide) ww_249 eX23_dropValue_169 h (fun v12 h => ?_)
          refine x_tload_n C eX23_dropValue_172 rfl 1 rfl ?_
          refine x_iload C eX23_dropValue_173 0 rfl ?_
          refine x_cVi (As := [.int (Int64.toInt32 x2)]) (st := [va_rf v12, .int 0, .ref m9]) (n := 1) (frc := 1) (loc := 20) C h (fun S9 r9 e9 => k_X23_kidOf l D K m9 mr _ S9 (Int64.toInt32 x2) r9 e9) ww_771 ww_822 ww_823 ww_824 ww_16 (by decide +kernel) rfl ⟨by omega, by omega⟩ (Nat.le_of_ble_eq_true rfl) eX23_dropValue_175 (fun S13 v14 h => ?_)
          refine x_cVv (As := [.int 0, va_rf v12, .int v14]) (st := []) (n := 3) (frc := 1) (loc := 20) C h (fun S9 r9 e9 => k_X23_later l D K m9 mr _ S9 0 v12 v14 r9 e9) ww_800 ww_809 ww_810 ww_811 ww_16 (by decide +kernel) rfl ⟨by omega, by omega⟩ (Nat.le_of_ble_eq_true rfl) eX23_dropValue_178 (fun S15 v16 h => ?_)
          refine x_sub [] rfl ?_
          exact j_181 S15 h
      · refine x_tload_n C eX23_dropValue_82 rfl 1 rfl ?_
        refine x_mV (k9 := 11) C (by decide) ww_114 eX23_dropValue_83 rfl ?_
        refine x_aload_n C eX23_dropValue_86 rfl 2 rfl ?_
        refine x_gI (o9 := x1) (ci := 20) (k9 := 1) (Cn := RX20) (T := TX20) (N := 4) C rfl wt_X20 (by decide) ww_248 eX23_dropValue_87 h (fun v17 h => ?_)
        refine x_rQ (r := 11) (t9 := 3) C (by decide) rfl (by decide) rfl eX23_dropValue_90 h (fun v18 h => ?_)
        refine x_gR (o9 := v18) (ci := 16) (k9 := 11) (Cn := RX16) (T := TX16) (N := 22) C rfl wt_X16 (by decide) ww_65 eX23_dropValue_91 h (fun v19 h => ?_)
        refine x_tload_n C eX23_dropValue_94 rfl 1 rfl ?_
        refine x_iload C eX23_dropValue_95 0 rfl ?_
        refine x_cVi (As := [.int (Int64.toInt32 x2)]) (st := [va_rf v19]) (n := 1) (frc := 1) (loc := 20) C h (fun S9 r9 e9 => k_X23_variantOf_ l D K m9 mr _ S9 (Int64.toInt32 x2) r9 e9) ww_773 ww_782 ww_783 ww_784 ww_16 (by decide +kernel) rfl ⟨by omega, by omega⟩ (Nat.le_of_ble_eq_true rfl) eX23_dropValue_97 (fun S20 v21 h => ?_)
        refine x_aQ (t9 := 13) C rfl eX23_dropValue_100 h (fun v22 h => ?_)
        refine x_astore (lv2 := [(4, .int (Int64.toInt32 x2)), (0, .ref m9), (1, va_rf x1), (2, .long x2)]) C eX23_dropValue_101 (by decide) rfl (oky rfl (oky rfl (oky (cat_rf x1) (okn (Nat.ne_of_beq_eq_false rfl) ok0)))) ?_
        refine x_tload_n C eX23_dropValue_103 rfl 2 rfl ?_
        refine x_iconst (v := 3) C eX23_dropValue_104 (by decide) ?_
        refine x_null C eX23_dropValue_105 ?_
        refine x_iload C eX23_dropValue_106 1 rfl ?_
        refine x_cVv (As := [.int 3, va_rf none, .int (Int64.toInt32 x2)]) (st := []) (n := 3) (frc := 1) (loc := 20) C h (fun S9 r9 e9 => k_X23_later l D K m9 mr _ S9 3 none (Int64.toInt32 x2) r9 e9) ww_800 ww_809 ww_810 ww_811 ww_16 (by decide +kernel) rfl ⟨by omega, by omega⟩ (Nat.le_of_ble_eq_true rfl) eX23_dropValue_108 (fun S23 v24 h => ?_)
        refine x_tload_n C eX23_dropValue_111 rfl 2 rfl ?_
        refine x_aload C eX23_dropValue_112 0 rfl ?_
        refine x_gR (o9 := v22) (ci := 17) (k9 := 2) (Cn := RX17) (T := TX17) (N := 3) C rfl wt_X17 (by decide) ww_68 eX23_dropValue_114 h (fun v25 h => ?_)
        refine x_aload C eX23_dropValue_117 0 rfl ?_
        refine x_gI (o9 := v22) (ci := 17) (k9 := 0) (Cn := RX17) (T := TX17) (N := 3) C rfl wt_X17 (by decide) ww_69 eX23_dropValue_119 h (fun v26 h => ?_)
        refine x_tload_n C eX23_dropValue_122 rfl 2 rfl ?_
        refine x_iload C eX23_dropValue_123 1 rfl ?_
        refine x_cVi (As := [.int (Int64.toInt32 x2)]) (st := [.int v26, va_rf v25, .ref m9]) (n := 1) (frc := 1) (loc := 20) C h (fun S9 r9 e9 => k_X23_kidOf l D K m9 mr _ S9 (Int64.toInt32 x2) r9 e9) ww_771 ww_822 ww_823 ww_824 ww_16 (by decide +kernel) rfl ⟨by omega, by omega⟩ (Nat.le_of_ble_eq_true rfl) eX23_dropValue_125 (fun S27 v28 h => ?_)
        refine x_iconst (v := 1) C eX23_dropValue_128 (by decide) ?_
        refine x_cVv (As := [va_rf v25, .int v26, .int v28, .int 1]) (st := []) (n := 4) (frc := 3) (loc := 69) C h (fun S9 r9 e9 => k_X23_laterParts l D K m9 mr _ S9 v25 v26 v28 1 r9 e9) ww_805 ww_819 ww_820 ww_821 ww_16 (by decide +kernel) rfl ⟨by omega, by omega⟩ (Nat.le_of_ble_eq_true rfl) eX23_dropValue_129 (fun S29 v30 h => ?_)
        refine x_goto (tgt := 181) C eX23_dropValue_132 (by decide) ?_
        refine x_sub [] rfl ?_
        exact j_181 S29 h
    · refine x_tload_n C eX23_dropValue_40 rfl 1 rfl ?_
      refine x_tload_n C eX23_dropValue_41 rfl 1 rfl ?_
      refine x_mV (k9 := 11) C (by decide) ww_114 eX23_dropValue_42 rfl ?_
      refine x_aload_n C eX23_dropValue_45 rfl 2 rfl ?_
      refine x_gI (o9 := x1) (ci := 20) (k9 := 1) (Cn := RX20) (T := TX20) (N := 4) C rfl wt_X20 (by decide) ww_248 eX23_dropValue_46 h (fun v31 h => ?_)
      refine x_rQ (r := 11) (t9 := 3) C (by decide) rfl (by decide) rfl eX23_dropValue_49 h (fun v32 h => ?_)
      refine x_gR (o9 := v32) (ci := 16) (k9 := 10) (Cn := RX16) (T := TX16) (N := 22) C rfl wt_X16 (by decide) ww_73 eX23_dropValue_50 h (fun v33 h => ?_)
      refine x_tload_n C eX23_dropValue_53 rfl 1 rfl ?_
      refine x_mV (k9 := 11) C (by decide) ww_114 eX23_dropValue_54 rfl ?_
      refine x_aload_n C eX23_dropValue_57 rfl 2 rfl ?_
      refine x_gI (o9 := x1) (ci := 20) (k9 := 1) (Cn := RX20) (T := TX20) (N := 4) C rfl wt_X20 (by decide) ww_248 eX23_dropValue_58 h (fun v34 h => ?_)
      refine x_rQ (r := 11) (t9 := 3) C (by decide) rfl (by decide) rfl eX23_dropValue_61 h (fun v35 h => ?_)
      refine x_gI (o9 := v35) (ci := 16) (k9 := 3) (Cn := RX16) (T := TX16) (N := 22) C rfl wt_X16 (by decide) ww_51 eX23_dropValue_62 h (fun v36 h => ?_)
      refine x_iload C eX23_dropValue_65 0 rfl ?_
      refine x_iconst (v := 1) C eX23_dropValue_67 (by decide) ?_
      refine x_cVv (As := [va_rf v33, .int v36, .int (Int64.toInt32 x2), .int 1]) (st := []) (n := 4) (frc := 3) (loc := 69) C h (fun S9 r9 e9 => k_X23_laterParts l D K m9 mr _ S9 v33 v36 (Int64.toInt32 x2) 1 r9 e9) ww_805 ww_819 ww_820 ww_821 ww_16 (by decide +kernel) rfl ⟨by omega, by omega⟩ (Nat.le_of_ble_eq_true rfl) eX23_dropValue_68 (fun S37 v38 h => ?_)
      refine x_goto (tgt := 181) C eX23_dropValue_71 (by decide) ?_
      refine x_sub [] rfl ?_
      exact j_181 S37 h
  · refine x_tload_n C eX23_dropValue_12 rfl 1 rfl ?_
    refine x_bipush (v := 100) C eX23_dropValue_13 (by decide) ?_
    refine x_cVv (As := [.int 100]) (st := []) (n := 1) (frc := 1) (loc := 20) C h (fun S9 r9 e9 => k_X23_write l D K m9 mr _ S9 100 r9 e9) ww_839 ww_813 ww_814 ww_815 ww_16 (by decide +kernel) rfl ⟨by omega, by omega⟩ (Nat.le_of_ble_eq_true rfl) eX23_dropValue_15 (fun S39 v40 h => ?_)
    refine x_tload_n C eX23_dropValue_18 rfl 1 rfl ?_
    refine x_lload_n C eX23_dropValue_19 rfl 3 rfl ?_
    refine x_cVv (As := [.long x2]) (st := []) (n := 1) (frc := 2) (loc := 41) C h (fun S9 r9 e9 => k_X23_writeNumber l D K m9 mr _ S9 x2 r9 e9) ww_843 ww_816 ww_817 ww_818 ww_16 (by decide +kernel) rfl ⟨by omega, by omega⟩ (Nat.le_of_ble_eq_true rfl) eX23_dropValue_20 (fun S41 v42 h => ?_)
    refine x_tload_n C eX23_dropValue_23 rfl 1 rfl ?_
    refine x_bipush (v := 10) C eX23_dropValue_24 (by decide) ?_
    refine x_cVv (As := [.int 10]) (st := []) (n := 1) (frc := 1) (loc := 20) C h (fun S9 r9 e9 => k_X23_write l D K m9 mr _ S9 10 r9 e9) ww_839 ww_813 ww_814 ww_815 ww_16 (by decide +kernel) rfl ⟨by omega, by omega⟩ (Nat.le_of_ble_eq_true rfl) eX23_dropValue_26 (fun S43 v44 h => ?_)
    refine x_goto (tgt := 181) C eX23_dropValue_29 (by decide) ?_
    refine x_sub [] rfl ?_
    exact j_181 S43 h
set_option maxRecDepth 20000 in
set_option maxHeartbeats 4000000 in
theorem k_X23_dropPlace (l : Launch) (D : va_G) (K : Ky) (m9 : Nat) (mr : Nat → Nat) (S0 Sf : Sg) (x1 : Option Nat) (x2 : Int32) (rf : Unit) (h : f_dropPlace K S0 x1 x2 = some (Sf, rf)) : CT l D K m9 mr yX23_dropPlace (Cond.code yX23_dropPlace cX23_dropPlace 3 none) (5) (120) S0 Sf [.ref m9, va_rf x1, .int x2] none := by
  refine x_start (cc := cX23_dropPlace) (lv := [(0, .ref m9), (1, va_rf x1), (2, .int x2)]) rfl rfl (by decide) (by simp [lv_args, cat_rf, cat_i, cat_l, cat_a]) (by simp [lg_sl, cat_rf, cat_i, cat_l, cat_a]) (fun p e R s m args below meth c Q A C => ?_)
  have j_68 : ∀ (S : Sg), f_dropPlace_68 K S = some (Sf, rf) → WX p l e R s m args below meth c Q D A K m9 mr 3 S0 S 68 [] [] := by
    intro S h
    unfold f_dropPlace_68 at h
    exact x_vret C rfl rfl eX23_dropPlace_68 h
  unfold f_dropPlace at h
  refine x_aload_n C eX23_dropPlace_0 rfl 1 rfl ?_
  refine x_gI (o9 := x1) (ci := 20) (k9 := 0) (Cn := RX20) (T := TX20) (N := 4) C rfl wt_X20 (by decide) ww_247 eX23_dropPlace_1 h (fun v1 h => ?_)
  refine x_iconst (v := 3) C eX23_dropPlace_4 (by decide) ?_
  refine x_ic_ne (tgt := 41) C eX23_dropPlace_5 (by decide) h (fun h => ?_) (fun h => ?_)
  · refine x_tload_n C eX23_dropPlace_41 rfl 0 rfl ?_
    refine x_mV (k9 := 62) C (by decide) ww_742 eX23_dropPlace_42 rfl ?_
    refine x_iload_n C eX23_dropPlace_45 rfl 2 rfl ?_
    refine x_rZ (r := 62) C (by decide) rfl eX23_dropPlace_46 h (fun v2 h => ?_)
    refine x_if_eq (tgt := 68) C eX23_dropPlace_47 (by decide) h (fun h => ?_) (fun h => ?_)
    · refine x_sub [] rfl ?_
      exact j_68 S0 h
    · refine x_tload_n C eX23_dropPlace_50 rfl 0 rfl ?_
      refine x_mV (k9 := 62) C (by decide) ww_742 eX23_dropPlace_51 rfl ?_
      refine x_iload_n C eX23_dropPlace_54 rfl 2 rfl ?_
      refine x_iconst (v := 0) C eX23_dropPlace_55 (by decide) ?_
      refine x_wZ (r := 62) C (by decide) rfl eX23_dropPlace_56 h (fun S3 h => ?_)
      refine x_tload_n C eX23_dropPlace_57 rfl 0 rfl ?_
      refine x_aload_n C eX23_dropPlace_58 rfl 1 rfl ?_
      refine x_tload_n C eX23_dropPlace_59 rfl 0 rfl ?_
      refine x_mV (k9 := 61) C (by decide) ww_741 eX23_dropPlace_60 rfl ?_
      refine x_iload_n C eX23_dropPlace_63 rfl 2 rfl ?_
      refine x_rJ (r := 61) C (by decide) rfl eX23_dropPlace_64 h (fun v4 h => ?_)
      refine x_cVv (As := [va_rf x1, .long v4]) (st := []) (n := 2) (frc := 4) (loc := 95) C h (fun S9 r9 e9 => k_X23_dropValue l D K m9 mr _ S9 x1 v4 r9 e9) ww_812 ww_826 ww_827 ww_828 ww_16 (by decide +kernel) rfl ⟨by omega, by omega⟩ (Nat.le_of_ble_eq_true rfl) eX23_dropPlace_65 (fun S5 v6 h => ?_)
      refine x_sub [] rfl ?_
      exact j_68 S5 h
  · refine x_tload_n C eX23_dropPlace_8 rfl 0 rfl ?_
    refine x_tload_n C eX23_dropPlace_9 rfl 0 rfl ?_
    refine x_mV (k9 := 11) C (by decide) ww_114 eX23_dropPlace_10 rfl ?_
    refine x_aload_n C eX23_dropPlace_13 rfl 1 rfl ?_
    refine x_gI (o9 := x1) (ci := 20) (k9 := 1) (Cn := RX20) (T := TX20) (N := 4) C rfl wt_X20 (by decide) ww_248 eX23_dropPlace_14 h (fun v7 h => ?_)
    refine x_rQ (r := 11) (t9 := 3) C (by decide) rfl (by decide) rfl eX23_dropPlace_17 h (fun v8 h => ?_)
    refine x_gR (o9 := v8) (ci := 16) (k9 := 10) (Cn := RX16) (T := TX16) (N := 22) C rfl wt_X16 (by decide) ww_73 eX23_dropPlace_18 h (fun v9 h => ?_)
    refine x_tload_n C eX23_dropPlace_21 rfl 0 rfl ?_
    refine x_mV (k9 := 11) C (by decide) ww_114 eX23_dropPlace_22 rfl ?_
    refine x_aload_n C eX23_dropPlace_25 rfl 1 rfl ?_
    refine x_gI (o9 := x1) (ci := 20) (k9 := 1) (Cn := RX20) (T := TX20) (N := 4) C rfl wt_X20 (by decide) ww_248 eX23_dropPlace_26 h (fun v10 h => ?_)
    refine x_rQ (r := 11) (t9 := 3) C (by decide) rfl (by decide) rfl eX23_dropPlace_29 h (fun v11 h => ?_)
    refine x_gI (o9 := v11) (ci := 16) (k9 := 3) (Cn := RX16) (T := TX16) (N := 22) C rfl wt_X16 (by decide) ww_51 eX23_dropPlace_30 h (fun v12 h => ?_)
    refine x_iload_n C eX23_dropPlace_33 rfl 2 rfl ?_
    refine x_iconst (v := 0) C eX23_dropPlace_34 (by decide) ?_
    refine x_cVv (As := [va_rf v9, .int v12, .int x2, .int 0]) (st := []) (n := 4) (frc := 3) (loc := 69) C h (fun S9 r9 e9 => k_X23_laterParts l D K m9 mr _ S9 v9 v12 x2 0 r9 e9) ww_805 ww_819 ww_820 ww_821 ww_16 (by decide +kernel) rfl ⟨by omega, by omega⟩ (Nat.le_of_ble_eq_true rfl) eX23_dropPlace_35 (fun S13 v14 h => ?_)
    refine x_goto (tgt := 68) C eX23_dropPlace_38 (by decide) ?_
    refine x_sub [] rfl ?_
    exact j_68 S13 h
