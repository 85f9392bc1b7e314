set_option maxRecDepth 20000 in
set_option maxHeartbeats 4000000 in
theorem k_X23_runMatch (l : Launch) (D : va_G) (K : Ky) (m9 : Nat) (mr : Nat → Nat) (S0 Sf : Sg) (x1 : Int32) (rf : Unit) (h : f_runMatch K S0 x1 = some (Sf, rf)) : CT l D K m9 mr yX23_runMatch (Cond.code yX23_runMatch cX23_runMatch 3 none) (4) (95) S0 Sf [.ref m9, .int x1] none := by
  refine x_start (cc := cX23_runMatch) (lv := [(0, .ref m9), (1, .int x1)]) rfl rfl (by decide) (by simp [lv_args, cat_rf, cat_i, cat_l, cat_a]) (by simp [lg_sl, cat_rf, cat_i, cat_l, cat_a]) (fun p e R s m args below meth c Q A C => ?_)
  have j_51 : ∀ (S : Sg) (x1 : Int32) (y0 : Int32), f_runMatch_51 K S x1 y0 = some (Sf, rf) → WX p l e R s m args below meth c Q D A K m9 mr 3 S0 S 51 [(0, .ref m9), (1, .int x1)] [.int y0] := by
    intro S x1 y0 h
    unfold f_runMatch_51 at h
    refine x_istore_n (lv2 := [(0, .ref m9), (1, .int x1)]) C eX23_runMatch_51 rfl (by decide) rfl (oky rfl (oky rfl ok0)) ?_
    refine x_tload_n C eX23_runMatch_52 rfl 1 rfl ?_
    refine x_tload_n C eX23_runMatch_53 rfl 1 rfl ?_
    refine x_mV (k9 := 42) C (by decide) ww_500 eX23_runMatch_54 rfl ?_
    refine x_iload_n C eX23_runMatch_57 rfl 2 rfl ?_
    refine x_rA (r := 42) C (by decide) rfl eX23_runMatch_58 h (fun v9 h => ?_)
    refine x_tload_n C eX23_runMatch_59 rfl 1 rfl ?_
    refine x_iload_n C eX23_runMatch_60 rfl 0 rfl ?_
    refine x_cVi (As := [.int y0]) (st := [va_rf v9, .ref m9]) (n := 1) (frc := 1) (loc := 20) C h (fun S9 r9 e9 => k_X23_variantOf_ l D K m9 mr _ S9 y0 r9 e9) ww_773 ww_782 ww_783 ww_784 ww_16 (by decide +kernel) rfl ⟨by omega, by omega⟩ (Nat.le_of_ble_eq_true rfl) eX23_runMatch_61 (fun S10 v11 h => ?_)
    refine x_aI C eX23_runMatch_64 h (fun v12 h => ?_)
    refine x_pM (k9 := 77) C (by decide) rfl (by decide) ww_874 rfl (by decide +kernel) eX23_runMatch_65 h (fun S13 h => ?_)
    exact x_vret C rfl rfl eX23_runMatch_68 h
  unfold f_runMatch at h
  refine x_tload_n C eX23_runMatch_0 rfl 0 rfl ?_
  refine x_mV (k9 := 27) C (by decide) ww_485 eX23_runMatch_1 rfl ?_
  refine x_iload_n C eX23_runMatch_4 rfl 1 rfl ?_
  refine x_rI (r := 27) C (by decide) rfl eX23_runMatch_5 h (fun v1 h => ?_)
  refine x_bipush (v := 20) C eX23_runMatch_6 (by decide) ?_
  refine x_ic_ne (tgt := 26) C eX23_runMatch_8 (by decide) h (fun h => ?_) (fun h => ?_)
  · refine x_tload_n C eX23_runMatch_26 rfl 0 rfl ?_
    refine x_mV (k9 := 61) C (by decide) ww_741 eX23_runMatch_27 rfl ?_
    refine x_tload_n C eX23_runMatch_30 rfl 0 rfl ?_
    refine x_tload_n C eX23_runMatch_31 rfl 0 rfl ?_
    refine x_mV (k9 := 38) C (by decide) ww_496 eX23_runMatch_32 rfl ?_
    refine x_iload_n C eX23_runMatch_35 rfl 1 rfl ?_
    refine x_rQ (r := 38) (t9 := 6) C (by decide) rfl (by decide) rfl eX23_runMatch_36 h (fun v2 h => ?_)
    refine x_tload_n C eX23_runMatch_37 rfl 0 rfl ?_
    refine x_mV (k9 := 38) C (by decide) ww_496 eX23_runMatch_38 rfl ?_
    refine x_iload_n C eX23_runMatch_41 rfl 1 rfl ?_
    refine x_rQ (r := 38) (t9 := 6) C (by decide) rfl (by decide) rfl eX23_runMatch_42 h (fun v3 h => ?_)
    refine x_gI (o9 := v3) (ci := 18) (k9 := 1) (Cn := RX18) (T := TX18) (N := 4) C rfl wt_X18 (by decide) ww_535 eX23_runMatch_43 h (fun v4 h => ?_)
    refine x_cVi (As := [va_rf v2, .int v4]) (st := [.ref (mr 61)]) (n := 2) (frc := 3) (loc := 69) C h (fun S9 r9 e9 => k_X23_find l D K m9 mr _ S9 v2 v4 r9 e9) ww_856 ww_862 ww_863 ww_864 ww_16 (by decide +kernel) rfl ⟨by omega, by omega⟩ (Nat.le_of_ble_eq_true rfl) eX23_runMatch_46 (fun S5 v6 h => ?_)
    refine x_rJ (r := 61) C (by decide) rfl eX23_runMatch_49 h (fun v7 h => ?_)
    refine x_l2i C eX23_runMatch_50 ?_
    refine x_sub [0, 1] rfl ?_
    exact j_51 S5 x1 (Int64.toInt32 v7) h
  · refine x_tload_n C eX23_runMatch_11 rfl 0 rfl ?_
    refine x_mV (k9 := 72) C (by decide) ww_851 eX23_runMatch_12 rfl ?_
    refine x_tload_n C eX23_runMatch_15 rfl 0 rfl ?_
    refine x_mV (k9 := 73) C (by decide) ww_852 eX23_runMatch_16 rfl ?_
    refine x_iconst (v := 1) C eX23_runMatch_19 (by decide) ?_
    refine x_isub C eX23_runMatch_20 ?_
    refine x_rJ (r := 72) C (by decide) rfl eX23_runMatch_21 h (fun v8 h => ?_)
    refine x_l2i C eX23_runMatch_22 ?_
    refine x_goto (tgt := 51) C eX23_runMatch_23 (by decide) ?_
    refine x_sub [0, 1] rfl ?_
    exact j_51 S0 x1 (Int64.toInt32 v8) h
set_option maxRecDepth 20000 in
set_option maxHeartbeats 4000000 in
theorem k_X23_nextInput (l : Launch) (D : va_G) (K : Ky) (m9 : Nat) (mr : Nat → Nat) (S0 Sf : Sg) (rf : Int64) (h : f_nextInput K S0 = some (Sf, rf)) : CT l D K m9 mr yX23_nextInput (Cond.code yX23_nextInput cX23_nextInput 4 (some .long)) (1) (20) S0 Sf [.ref m9] (some (.long rf)) := by
  refine x_start (cc := cX23_nextInput) (lv := [(0, .ref m9)]) rfl rfl (by decide) (by simp [lv_args, cat_rf, cat_i, cat_l, cat_a]) (by simp [lg_sl, cat_rf, cat_i, cat_l, cat_a]) (fun p e R s m args below meth c Q A C => ?_)
  have j_28 : ∀ (n_28 : Nat) (S : Sg) (x1 : Int64) (x3 : Int32), f_nextInput_28 K n_28 S x1 x3 = some (Sf, rf) → WX p l e R s m args below meth c Q D A K m9 mr 4 S0 S 28 [(0, .ref m9), (1, .long x1), (3, .int x3)] [] := by
    intro n_28
    induction n_28 with
    | zero => intro S x1 x3 h; unfold f_nextInput_28 at h; cases h
    | succ n_28 ih_28 =>
      intro S x1 x3 h
      unfold f_nextInput_28 at h
      refine x_iload_n C eX23_nextInput_28 rfl 2 rfl ?_
      refine x_tload_n C eX23_nextInput_29 rfl 0 rfl ?_
      refine x_mV (k9 := 86) C (by decide) ww_892 eX23_nextInput_30 rfl ?_
      refine x_ic_ge (tgt := 56) C eX23_nextInput_33 (by decide) h (fun h => ?_) (fun h => ?_)
      · refine x_lload_n C eX23_nextInput_56 rfl 1 rfl ?_
        exact x_lret C rfl rfl eX23_nextInput_57 h
      · refine x_tload_n C eX23_nextInput_36 rfl 0 rfl ?_
        refine x_mV (k9 := 85) C (by decide) ww_893 eX23_nextInput_37 rfl ?_
        refine x_iload_n C eX23_nextInput_40 rfl 2 rfl ?_
        refine x_tload_n C eX23_nextInput_41 rfl 0 rfl ?_
        refine x_mV (k9 := 85) C (by decide) ww_893 eX23_nextInput_42 rfl ?_
        refine x_iload_n C eX23_nextInput_45 rfl 2 rfl ?_
        refine x_iconst (v := 1) C eX23_nextInput_46 (by decide) ?_
        refine x_iadd C eX23_nextInput_47 ?_
        refine x_rJ (r := 85) C (by decide) rfl eX23_nextInput_48 h (fun v3 h => ?_)
        refine x_wJ (r := 85) C (by decide) rfl eX23_nextInput_49 h (fun S4 h => ?_)
        refine x_iinc (j := 2) (v := 1) (lv2 := [(0, .ref m9), (1, .long x1)]) C eX23_nextInput_50 rfl (by decide) (by decide) rfl (oky rfl (okn (Nat.ne_of_beq_eq_false rfl) ok0)) ?_
        refine x_goto (tgt := 28) C eX23_nextInput_53 (by decide) ?_
        refine x_sub [1, 2, 0] rfl ?_
        exact ih_28 S4 x1 (x3 + 1) h
  unfold f_nextInput at h
  refine x_tload_n C eX23_nextInput_0 rfl 0 rfl ?_
  refine x_mV (k9 := 86) C (by decide) ww_892 eX23_nextInput_1 rfl ?_
  refine x_if_ne (tgt := 9) C eX23_nextInput_4 (by decide) h (fun h => ?_) (fun h => ?_)
  · refine x_tload_n C eX23_nextInput_9 rfl 0 rfl ?_
    refine x_mV (k9 := 85) C (by decide) ww_893 eX23_nextInput_10 rfl ?_
    refine x_iconst (v := 0) C eX23_nextInput_13 (by decide) ?_
    refine x_rJ (r := 85) C (by decide) rfl eX23_nextInput_14 h (fun v1 h => ?_)
    refine x_lstore_n (lv2 := [(0, .ref m9)]) C eX23_nextInput_15 rfl (by decide) rfl (oky rfl ok0) ?_
    refine x_tload_n C eX23_nextInput_16 rfl 1 rfl ?_
    refine x_dup C eX23_nextInput_17 rfl ?_
    refine x_mV (k9 := 86) C (by decide) ww_892 eX23_nextInput_18 rfl ?_
    refine x_iconst (v := 1) C eX23_nextInput_21 (by decide) ?_
    refine x_isub C eX23_nextInput_22 ?_
    refine x_pM (k9 := 86) C (by decide) rfl (by decide) ww_892 rfl (by decide +kernel) eX23_nextInput_23 h (fun S2 h => ?_)
    refine x_iconst (v := 0) C eX23_nextInput_26 (by decide) ?_
    refine x_istore_n (lv2 := [(1, .long v1), (0, .ref m9)]) C eX23_nextInput_27 rfl (by decide) rfl (okn (Nat.ne_of_beq_eq_false rfl) (oky rfl ok0)) ?_
    refine x_sub [2, 1, 0] rfl ?_
    exact j_28 bigN S2 v1 0 h
  · refine x_lconst (v := 0) C eX23_nextInput_7 (by decide) ?_
    exact x_lret C rfl rfl eX23_nextInput_8 h
set_option maxRecDepth 20000 in
set_option maxHeartbeats 4000000 in
theorem k_X23_runMinus (l : Launch) (D : va_G) (K : Ky) (m9 : Nat) (mr : Nat → Nat) (S0 Sf : Sg) (rf : Unit) (h : f_runMinus K S0 = some (Sf, rf)) : CT l D K m9 mr yX23_runMinus (Cond.code yX23_runMinus cX23_runMinus 3 none) (2) (42) S0 Sf [.ref m9] none := by
  refine x_start (cc := cX23_runMinus) (lv := [(0, .ref m9)]) rfl rfl (by decide) (by simp [lv_args, cat_rf, cat_i, cat_l, cat_a]) (by simp [lg_sl, cat_rf, cat_i, cat_l, cat_a]) (fun p e R s m args below meth c Q A C => ?_)
  have j_19 : ∀ (S : Sg) (x1 : Int64), f_runMinus_19 K S x1 = some (Sf, rf) → WX p l e R s m args below meth c Q D A K m9 mr 3 S0 S 19 [(0, .ref m9), (1, .long x1)] [] := by
    intro S x1 h
    unfold f_runMinus_19 at h
    refine x_tload_n C eX23_runMinus_19 rfl 0 rfl ?_
    refine x_lload_n C eX23_runMinus_20 rfl 1 rfl ?_
    refine x_lneg C eX23_runMinus_21 ?_
    refine x_cVv (As := [.long (-x1)]) (st := []) (n := 1) (frc := 1) (loc := 20) C h (fun S9 r9 e9 => k_X23_push l D K m9 mr _ S9 (-x1) r9 e9) ww_850 ww_797 ww_798 ww_799 ww_16 (by decide +kernel) rfl ⟨by omega, by omega⟩ (Nat.le_of_ble_eq_true rfl) eX23_runMinus_22 (fun S4 v5 h => ?_)
    exact x_vret C rfl rfl eX23_runMinus_25 h
  unfold f_runMinus at h
  refine x_tload_n C eX23_runMinus_0 rfl 0 rfl ?_
  refine x_cVl (As := []) (st := []) (n := 0) (frc := 1) (loc := 20) C h (fun S9 r9 e9 => k_X23_pop l D K m9 mr _ S9 r9 e9) ww_853 ww_791 ww_792 ww_793 ww_16 (by decide +kernel) rfl ⟨by omega, by omega⟩ (Nat.le_of_ble_eq_true rfl) eX23_runMinus_1 (fun S1 v2 h => ?_)
  refine x_lstore_n (lv2 := [(0, .ref m9)]) C eX23_runMinus_4 rfl (by decide) rfl (oky rfl ok0) ?_
  refine x_lload_n C eX23_runMinus_5 rfl 0 rfl ?_
  refine x_ldc2 C eX23_runMinus_6 ww_869 ?_
  refine x_lcmp C eX23_runMinus_9 ?_
  refine x_if_ne (tgt := 19) C eX23_runMinus_10 (by decide) h (fun h => ?_) (fun h => ?_)
  · refine x_sub [1, 0] rfl ?_
    exact j_19 S1 v2 h
  · refine x_tload_n C eX23_runMinus_13 rfl 1 rfl ?_
    refine x_bipush (v := 7) C eX23_runMinus_14 (by decide) ?_
    refine x_pM (k9 := 3) C (by decide) rfl (by decide) ww_1 rfl (by decide +kernel) eX23_runMinus_16 h (fun S3 h => ?_)
    refine x_sub [1, 0] rfl ?_
    exact j_19 S3 v2 h
set_option maxRecDepth 20000 in
set_option maxHeartbeats 4000000 in
theorem k_X23_runMade (l : Launch) (D : va_G) (K : Ky) (m9 : Nat) (mr : Nat → Nat) (S0 Sf : Sg) (x1 : Int32) (rf : Unit) (h : f_runMade K S0 x1 = some (Sf, rf)) : CT l D K m9 mr yX23_runMade (Cond.code yX23_runMade cX23_runMade 5 none) (5) (116) S0 Sf [.ref m9, .int x1] none := by
  refine x_start (cc := cX23_runMade) (lv := [(0, .ref m9), (1, .int x1)]) rfl rfl (by decide) (by simp [lv_args, cat_rf, cat_i, cat_l, cat_a]) (by simp [lg_sl, cat_rf, cat_i, cat_l, cat_a]) (fun p e R s m args below meth c Q A C => ?_)
  have j_112 : ∀ (S : Sg), f_runMade_112 K S = some (Sf, rf) → WX p l e R s m args below meth c Q D A K m9 mr 5 S0 S 112 [] [] := by
    intro S h
    unfold f_runMade_112 at h
    exact x_vret C rfl rfl eX23_runMade_112 h
  unfold f_runMade at h
  refine x_tload_n C eX23_runMade_0 rfl 0 rfl ?_
  refine x_mV (k9 := 11) C (by decide) ww_114 eX23_runMade_1 rfl ?_
  refine x_tload_n C eX23_runMade_4 rfl 0 rfl ?_
  refine x_mV (k9 := 28) C (by decide) ww_487 eX23_runMade_5 rfl ?_
  refine x_iload_n C eX23_runMade_8 rfl 1 rfl ?_
  refine x_rI (r := 28) C (by decide) rfl eX23_runMade_9 h (fun v1 h => ?_)
  refine x_rQ (r := 11) (t9 := 3) C (by decide) rfl (by decide) rfl eX23_runMade_10 h (fun v2 h => ?_)
  refine x_astore_n (lv2 := [(0, .ref m9), (1, .int x1)]) C eX23_runMade_11 rfl (by decide) rfl (oky rfl (oky rfl ok0)) ?_
  refine x_tload_n C eX23_runMade_12 rfl 1 rfl ?_
  refine x_mV (k9 := 27) C (by decide) ww_485 eX23_runMade_13 rfl ?_
  refine x_iload_n C eX23_runMade_16 rfl 2 rfl ?_
  refine x_rI (r := 27) C (by decide) rfl eX23_runMade_17 h (fun v3 h => ?_)
  refine x_bipush (v := 8) C eX23_runMade_18 (by decide) ?_
  refine x_ic_ne (tgt := 52) C eX23_runMade_20 (by decide) h (fun h => ?_) (fun h => ?_)
  · refine x_tload_n C eX23_runMade_52 rfl 1 rfl ?_
    refine x_aload_n C eX23_runMade_53 rfl 0 rfl ?_
    refine x_gR (o9 := v2) (ci := 16) (k9 := 11) (Cn := RX16) (T := TX16) (N := 22) C rfl wt_X16 (by decide) ww_65 eX23_runMade_54 h (fun v4 h => ?_)
    refine x_tload_n C eX23_runMade_57 rfl 1 rfl ?_
    refine x_mV (k9 := 29) C (by decide) ww_488 eX23_runMade_58 rfl ?_
    refine x_iload_n C eX23_runMade_61 rfl 2 rfl ?_
    refine x_rI (r := 29) C (by decide) rfl eX23_runMade_62 h (fun v5 h => ?_)
    refine x_aQ (t9 := 13) C rfl eX23_runMade_63 h (fun v6 h => ?_)
    refine x_gR (o9 := v6) (ci := 17) (k9 := 2) (Cn := RX17) (T := TX17) (N := 3) C rfl wt_X17 (by decide) ww_68 eX23_runMade_64 h (fun v7 h => ?_)
    refine x_tload_n C eX23_runMade_67 rfl 1 rfl ?_
    refine x_mV (k9 := 31) C (by decide) ww_490 eX23_runMade_68 rfl ?_
    refine x_iload_n C eX23_runMade_71 rfl 2 rfl ?_
    refine x_rJ (r := 31) C (by decide) rfl eX23_runMade_72 h (fun v8 h => ?_)
    refine x_l2i C eX23_runMade_73 ?_
    refine x_null C eX23_runMade_74 ?_
    refine x_cVi (As := [va_rf v7, .int (Int64.toInt32 v8), va_rf none]) (st := []) (n := 3) (frc := 4) (loc := 87) C h (fun S9 r9 e9 => k_X23_gather l D K m9 mr _ S9 v7 (Int64.toInt32 v8) none r9 e9) ww_870 ww_896 ww_897 ww_898 ww_16 (by decide +kernel) rfl ⟨by omega, by omega⟩ (Nat.le_of_ble_eq_true rfl) eX23_runMade_75 (fun S9 v10 h => ?_)
    refine x_istore_n (lv2 := [(2, va_rf v2), (0, .ref m9), (1, .int x1)]) C eX23_runMade_78 rfl (by decide) rfl (oky (cat_rf v2) (oky rfl (oky rfl ok0))) ?_
    refine x_tload_n C eX23_runMade_79 rfl 2 rfl ?_
    refine x_cVi (As := []) (st := []) (n := 0) (frc := 1) (loc := 20) C h (fun S9 r9 e9 => k_X23_node l D K m9 mr _ S9 r9 e9) ww_737 ww_746 ww_747 ww_748 ww_16 (by decide +kernel) rfl ⟨by omega, by omega⟩ (Nat.le_of_ble_eq_true rfl) eX23_runMade_80 (fun S11 v12 h => ?_)
    refine x_istore (lv2 := [(3, .int v10), (2, va_rf v2), (0, .ref m9), (1, .int x1)]) C eX23_runMade_83 (by decide) rfl (oky rfl (oky (cat_rf v2) (oky rfl (oky rfl ok0)))) ?_
    refine x_tload_n C eX23_runMade_85 rfl 3 rfl ?_
    refine x_mV (k9 := 61) C (by decide) ww_741 eX23_runMade_86 rfl ?_
    refine x_iload C eX23_runMade_89 0 rfl ?_
    refine x_iload_n C eX23_runMade_91 rfl 1 rfl ?_
    refine x_i2l C eX23_runMade_92 ?_
    refine x_tload_n C eX23_runMade_93 rfl 3 rfl ?_
    refine x_mV (k9 := 29) C (by decide) ww_488 eX23_runMade_94 rfl ?_
    refine x_iload_n C eX23_runMade_97 rfl 4 rfl ?_
    refine x_rI (r := 29) C (by decide) rfl eX23_runMade_98 h (fun v13 h => ?_)
    refine x_i2l C eX23_runMade_99 ?_
    refine x_bipush (v := 20) C eX23_runMade_100 (by decide) ?_
    refine x_lshl C eX23_runMade_102 ?_
    refine x_ladd C eX23_runMade_103 ?_
    refine x_wJ (r := 61) C (by decide) rfl eX23_runMade_104 h (fun S14 h => ?_)
    refine x_tload_n C eX23_runMade_105 rfl 3 rfl ?_
    refine x_iload C eX23_runMade_106 0 rfl ?_
    refine x_i2l C eX23_runMade_108 ?_
    refine x_cVv (As := [.long (Int32.toInt64 v12)]) (st := []) (n := 1) (frc := 1) (loc := 20) C h (fun S9 r9 e9 => k_X23_push l D K m9 mr _ S9 (Int32.toInt64 v12) r9 e9) ww_850 ww_797 ww_798 ww_799 ww_16 (by decide +kernel) rfl ⟨by omega, by omega⟩ (Nat.le_of_ble_eq_true rfl) eX23_runMade_109 (fun S15 v16 h => ?_)
    refine x_sub [] rfl ?_
    exact j_112 S15 h
  · refine x_tload_n C eX23_runMade_23 rfl 1 rfl ?_
    refine x_tload_n C eX23_runMade_24 rfl 1 rfl ?_
    refine x_aload_n C eX23_runMade_25 rfl 0 rfl ?_
    refine x_gR (o9 := v2) (ci := 16) (k9 := 10) (Cn := RX16) (T := TX16) (N := 22) C rfl wt_X16 (by decide) ww_73 eX23_runMade_26 h (fun v17 h => ?_)
    refine x_tload_n C eX23_runMade_29 rfl 1 rfl ?_
    refine x_mV (k9 := 31) C (by decide) ww_490 eX23_runMade_30 rfl ?_
    refine x_iload_n C eX23_runMade_33 rfl 2 rfl ?_
    refine x_rJ (r := 31) C (by decide) rfl eX23_runMade_34 h (fun v18 h => ?_)
    refine x_l2i C eX23_runMade_35 ?_
    refine x_tload_n C eX23_runMade_36 rfl 1 rfl ?_
    refine x_mV (k9 := 42) C (by decide) ww_500 eX23_runMade_37 rfl ?_
    refine x_iload_n C eX23_runMade_40 rfl 2 rfl ?_
    refine x_rA (r := 42) C (by decide) rfl eX23_runMade_41 h (fun v19 h => ?_)
    refine x_cVi (As := [va_rf v17, .int (Int64.toInt32 v18), va_rf v19]) (st := [.ref m9]) (n := 3) (frc := 4) (loc := 87) C h (fun S9 r9 e9 => k_X23_gather l D K m9 mr _ S9 v17 (Int64.toInt32 v18) v19 r9 e9) ww_870 ww_896 ww_897 ww_898 ww_16 (by decide +kernel) rfl ⟨by omega, by omega⟩ (Nat.le_of_ble_eq_true rfl) eX23_runMade_42 (fun S20 v21 h => ?_)
    refine x_i2l C eX23_runMade_45 ?_
    refine x_cVv (As := [.long (Int32.toInt64 v21)]) (st := []) (n := 1) (frc := 1) (loc := 20) C h (fun S9 r9 e9 => k_X23_push l D K m9 mr _ S9 (Int32.toInt64 v21) r9 e9) ww_850 ww_797 ww_798 ww_799 ww_16 (by decide +kernel) rfl ⟨by omega, by omega⟩ (Nat.le_of_ble_eq_true rfl) eX23_runMade_46 (fun S22 v23 h => ?_)
    refine x_goto (tgt := 112) C eX23_runMade_49 (by decide) ?_
    refine x_sub [] rfl ?_
    exact j_112 S22 h
set_option maxRecDepth 20000 in
set_option maxHeartbeats 4000000 in
theorem k_X23_burn (l : Launch) (D : va_G) (K : Ky) (m9 : Nat) (mr : Nat → Nat) (S0 Sf : Sg) (rf : Unit) (h : f_burn K S0 = some (Sf, rf)) : CT l D K m9 mr yX23_burn (Cond.code yX23_burn cX23_burn 1 none) (1) (20) S0 Sf [.ref m9] none := by
  refine x_start (cc := cX23_burn) (lv := [(0, .ref m9)]) rfl rfl (by decide) (by simp [lv_args, cat_rf, cat_i, cat_l, cat_a]) (by simp [lg_sl, cat_rf, cat_i, cat_l, cat_a]) (fun p e R s m args below meth c Q A C => ?_)
  have j_26 : ∀ (S : Sg), f_burn_26 K S = some (Sf, rf) → WX p l e R s m args below meth c Q D A K m9 mr 1 S0 S 26 [] [] := by
    intro S h
    unfold f_burn_26 at h
    exact x_vret C rfl rfl eX23_burn_26 h
  unfold f_burn at h
  refine x_tload_n C eX23_burn_0 rfl 0 rfl ?_
  refine x_mV (k9 := 70) C (by decide) ww_872 eX23_burn_1 rfl ?_
  refine x_if_ne (tgt := 16) C eX23_burn_4 (by decide) h (fun h => ?_) (fun h => ?_)
  · refine x_tload_n C eX23_burn_16 rfl 0 rfl ?_
    refine x_dup C eX23_burn_17 rfl ?_
    refine x_mV (k9 := 70) C (by decide) ww_872 eX23_burn_18 rfl ?_
    refine x_iconst (v := 1) C eX23_burn_21 (by decide) ?_
    refine x_isub C eX23_burn_22 ?_
    refine x_pM (k9 := 70) C (by decide) rfl (by decide) ww_872 rfl (by decide +kernel) eX23_burn_23 h (fun S1 h => ?_)
    refine x_sub [] rfl ?_
    exact j_26 S1 h
  · refine x_tload_n C eX23_burn_7 rfl 0 rfl ?_
    refine x_bipush (v := 8) C eX23_burn_8 (by decide) ?_
    refine x_pM (k9 := 3) C (by decide) rfl (by decide) ww_1 rfl (by decide +kernel) eX23_burn_10 h (fun S2 h => ?_)
    refine x_goto (tgt := 26) C eX23_burn_13 (by decide) ?_
    refine x_sub [] rfl ?_
    exact j_26 S2 h
set_option maxRecDepth 20000 in
set_option maxHeartbeats 4000000 in
theorem k_X23_step (l : Launch) (D : va_G) (K : Ky) (m9 : Nat) (mr : Nat → Nat) (S0 Sf : Sg) (rf : Unit) (h : f_step K S0 = some (Sf, rf)) : CT l D K m9 mr yX23_step (Cond.code yX23_step cX23_step 2 none) (164) (3770) S0 Sf [.ref m9] none := by
  refine x_start (cc := cX23_step) (lv := [(0, .ref m9)]) rfl rfl (by decide) (by simp [lv_args, cat_rf, cat_i, cat_l, cat_a]) (by simp [lg_sl, cat_rf, cat_i, cat_l, cat_a]) (fun p e R s m args below meth c Q A C => ?_)
  have j_590 : ∀ (S : Sg), f_step_590 K S = some (Sf, rf) → WX p l e R s m args below meth c Q D A K m9 mr 2 S0 S 590 [] [] := by
    intro S h
    unfold f_step_590 at h
    exact x_vret C rfl rfl eX23_step_590 h
  have j_260 : ∀ (S : Sg) (x1 : Int32), f_step_260 K S x1 = some (Sf, rf) → WX p l e R s m args below meth c Q D A K m9 mr 2 S0 S 260 [(0, .ref m9), (1, .int x1)] [] := by
    intro S x1 h
    unfold f_step_260 at h
    refine x_tload_n C eX23_step_260 rfl 0 rfl ?_
    refine x_iload_n C eX23_step_261 rfl 1 rfl ?_
    refine x_cVv (As := [.int x1]) (st := []) (n := 1) (frc := 5) (loc := 116) C h (fun S9 r9 e9 => k_X23_runMade l D K m9 mr _ S9 x1 r9 e9) ww_895 ww_919 ww_920 ww_921 ww_16 (by decide +kernel) rfl ⟨by omega, by omega⟩ (Nat.le_of_ble_eq_true rfl) eX23_step_262 (fun S98 v99 h => ?_)
    refine x_goto (tgt := 590) C eX23_step_265 (by decide) ?_
    refine x_sub [] rfl ?_
    exact j_590 S98 h
  have j_446 : ∀ (S : Sg) (x1 : Int32) (y0 : Int32) (y1 : Int64), f_step_446 K S x1 y0 y1 = some (Sf, rf) → WX p l e R s m args below meth c Q D A K m9 mr 2 S0 S 446 [(0, .ref m9), (1, .int x1)] [.int y0, .long y1] := by
    intro S x1 y0 y1 h
    unfold f_step_446 at h
    refine x_i2l C eX23_step_446 ?_
    refine x_lcmp C eX23_step_447 ?_
    refine x_if_ne (tgt := 464) C eX23_step_448 (by decide) h (fun h => ?_) (fun h => ?_)
    · refine x_tload_n C eX23_step_464 rfl 0 rfl ?_
      refine x_dup C eX23_step_465 rfl ?_
      refine x_mV (k9 := 73) C (by decide) ww_852 eX23_step_466 rfl ?_
      refine x_iconst (v := 1) C eX23_step_469 (by decide) ?_
      refine x_isub C eX23_step_470 ?_
      refine x_pM (k9 := 73) C (by decide) rfl (by decide) ww_852 rfl (by decide +kernel) eX23_step_471 h (fun S95 h => ?_)
      refine x_goto (tgt := 590) C eX23_step_474 (by decide) ?_
      refine x_sub [] rfl ?_
      exact j_590 S95 h
    · refine x_tload_n C eX23_step_451 rfl 0 rfl ?_
      refine x_tload_n C eX23_step_452 rfl 0 rfl ?_
      refine x_mV (k9 := 30) C (by decide) ww_489 eX23_step_453 rfl ?_
      refine x_iload_n C eX23_step_456 rfl 1 rfl ?_
      refine x_rI (r := 30) C (by decide) rfl eX23_step_457 h (fun v96 h => ?_)
      refine x_pM (k9 := 77) C (by decide) rfl (by decide) ww_874 rfl (by decide +kernel) eX23_step_458 h (fun S97 h => ?_)
      refine x_goto (tgt := 590) C eX23_step_461 (by decide) ?_
      refine x_sub [] rfl ?_
      exact j_590 S97 h
  have j_419 : ∀ (S : Sg) (x1 : Int32), f_step_419 K S x1 = some (Sf, rf) → WX p l e R s m args below meth c Q D A K m9 mr 2 S0 S 419 [(0, .ref m9), (1, .int x1)] [] := by
    intro S x1 h
    unfold f_step_419 at h
    refine x_tload_n C eX23_step_419 rfl 0 rfl ?_
    refine x_mV (k9 := 72) C (by decide) ww_851 eX23_step_420 rfl ?_
    refine x_tload_n C eX23_step_423 rfl 0 rfl ?_
    refine x_mV (k9 := 73) C (by decide) ww_852 eX23_step_424 rfl ?_
    refine x_iconst (v := 1) C eX23_step_427 (by decide) ?_
    refine x_isub C eX23_step_428 ?_
    refine x_rJ (r := 72) C (by decide) rfl eX23_step_429 h (fun v93 h => ?_)
    refine x_tload_n C eX23_step_430 rfl 0 rfl ?_
    refine x_mV (k9 := 27) C (by decide) ww_485 eX23_step_431 rfl ?_
    refine x_iload_n C eX23_step_434 rfl 1 rfl ?_
    refine x_rI (r := 27) C (by decide) rfl eX23_step_435 h (fun v94 h => ?_)
    refine x_bipush (v := 19) C eX23_step_436 (by decide) ?_
    refine x_ic_ne (tgt := 445) C eX23_step_438 (by decide) h (fun h => ?_) (fun h => ?_)
    · refine x_iconst (v := 0) C eX23_step_445 (by decide) ?_
      refine x_sub [0, 1] rfl ?_
      exact j_446 S x1 0 v93 h
    · refine x_iconst (v := 1) C eX23_step_441 (by decide) ?_
      refine x_goto (tgt := 446) C eX23_step_442 (by decide) ?_
      refine x_sub [0, 1] rfl ?_
      exact j_446 S x1 1 v93 h
  have j_477 : ∀ (S : Sg) (x1 : Int32), f_step_477 K S x1 = some (Sf, rf) → WX p l e R s m args below meth c Q D A K m9 mr 2 S0 S 477 [(0, .ref m9), (1, .int x1)] [] := by
    intro S x1 h
    unfold f_step_477 at h
    refine x_tload_n C eX23_step_477 rfl 0 rfl ?_
    refine x_iload_n C eX23_step_478 rfl 1 rfl ?_
    refine x_cVv (As := [.int x1]) (st := []) (n := 1) (frc := 4) (loc := 95) C h (fun S9 r9 e9 => k_X23_runMatch l D K m9 mr _ S9 x1 r9 e9) ww_890 ww_931 ww_932 ww_933 ww_16 (by decide +kernel) rfl ⟨by omega, by omega⟩ (Nat.le_of_ble_eq_true rfl) eX23_step_479 (fun S91 v92 h => ?_)
    refine x_goto (tgt := 590) C eX23_step_482 (by decide) ?_
    refine x_sub [] rfl ?_
    exact j_590 S91 h
  have j_584 : ∀ (S : Sg) (y0 : Int32), f_step_584 K S y0 = some (Sf, rf) → WX p l e R s m args below meth c Q D A K m9 mr 2 S0 S 584 [] [.int y0, .ref m9] := by
    intro S y0 h
    unfold f_step_584 at h
    refine x_pM (k9 := 77) C (by decide) rfl (by decide) ww_874 rfl (by decide +kernel) eX23_step_584 h (fun S90 h => ?_)
    refine x_goto (tgt := 590) C eX23_step_587 (by decide) ?_
    refine x_sub [] rfl ?_
    exact j_590 S90 h
  unfold f_step at h
  refine x_tload_n C eX23_step_0 rfl 0 rfl ?_
  refine x_mV (k9 := 77) C (by decide) ww_874 eX23_step_1 rfl ?_
  refine x_istore_n (lv2 := [(0, .ref m9)]) C eX23_step_4 rfl (by decide) rfl (oky rfl ok0) ?_
  refine x_tload_n C eX23_step_5 rfl 1 rfl ?_
  refine x_dup C eX23_step_6 rfl ?_
  refine x_mV (k9 := 77) C (by decide) ww_874 eX23_step_7 rfl ?_
  refine x_iconst (v := 1) C eX23_step_10 (by decide) ?_
  refine x_iadd C eX23_step_11 ?_
  refine x_pM (k9 := 77) C (by decide) rfl (by decide) ww_874 rfl (by decide +kernel) eX23_step_12 h (fun S1 h => ?_)
  refine x_tload_n C eX23_step_15 rfl 1 rfl ?_
  refine x_mV (k9 := 27) C (by decide) ww_485 eX23_step_16 rfl ?_
  refine x_iload_n C eX23_step_19 rfl 0 rfl ?_
  refine x_rI (r := 27) C (by decide) rfl eX23_step_20 h (fun v2 h => ?_)
  refine x_tabIn (v := 0) (tgt := 148) C eX23_step_21 (by decide) (by decide) rfl (by decide) h (fun h => ?_) (fun hq0 h => ?_)
  · refine x_tload_n C eX23_step_148 rfl 1 rfl ?_
    refine x_cVv (As := []) (st := []) (n := 0) (frc := 1) (loc := 20) C h (fun S9 r9 e9 => k_X23_burn l D K m9 mr _ S9 r9 e9) ww_899 ww_901 ww_902 ww_903 ww_16 (by decide +kernel) rfl ⟨by omega, by omega⟩ (Nat.le_of_ble_eq_true rfl) eX23_step_149 (fun S3 v4 h => ?_)
    refine x_goto (tgt := 590) C eX23_step_152 (by decide) ?_
    refine x_sub [] rfl ?_
    exact j_590 S3 h
  · refine x_tabIn (v := 1) (tgt := 155) C eX23_step_21 (by decide) (by decide) rfl (by decide) h (fun h => ?_) (fun hq1 h => ?_)
    · refine x_tload_n C eX23_step_155 rfl 1 rfl ?_
      refine x_tload_n C eX23_step_156 rfl 1 rfl ?_
      refine x_mV (k9 := 31) C (by decide) ww_490 eX23_step_157 rfl ?_
      refine x_iload_n C eX23_step_160 rfl 0 rfl ?_
      refine x_rJ (r := 31) C (by decide) rfl eX23_step_161 h (fun v5 h => ?_)
      refine x_cVv (As := [.long v5]) (st := []) (n := 1) (frc := 1) (loc := 20) C h (fun S9 r9 e9 => k_X23_push l D K m9 mr _ S9 v5 r9 e9) ww_850 ww_797 ww_798 ww_799 ww_16 (by decide +kernel) rfl ⟨by omega, by omega⟩ (Nat.le_of_ble_eq_true rfl) eX23_step_162 (fun S6 v7 h => ?_)
      refine x_goto (tgt := 590) C eX23_step_165 (by decide) ?_
      refine x_sub [] rfl ?_
      exact j_590 S6 h
    · refine x_tabIn (v := 2) (tgt := 179) C eX23_step_21 (by decide) (by decide) rfl (by decide) h (fun h => ?_) (fun hq2 h => ?_)
      · refine x_tload_n C eX23_step_179 rfl 1 rfl ?_
        refine x_iload_n C eX23_step_180 rfl 0 rfl ?_
        refine x_cVv (As := [.int (Zi S0 77)]) (st := []) (n := 1) (frc := 4) (loc := 95) C h (fun S9 r9 e9 => k_X23_runRead l D K m9 mr _ S9 (Zi S0 77) r9 e9) ww_861 ww_907 ww_908 ww_909 ww_16 (by decide +kernel) rfl ⟨by omega, by omega⟩ (Nat.le_of_ble_eq_true rfl) eX23_step_181 (fun S8 v9 h => ?_)
        refine x_goto (tgt := 590) C eX23_step_184 (by decide) ?_
        refine x_sub [] rfl ?_
        exact j_590 S8 h
      · refine x_tabIn (v := 3) (tgt := 187) C eX23_step_21 (by decide) (by decide) rfl (by decide) h (fun h => ?_) (fun hq3 h => ?_)
        · refine x_tload_n C eX23_step_187 rfl 1 rfl ?_
          refine x_tload_n C eX23_step_188 rfl 1 rfl ?_
          refine x_tload_n C eX23_step_189 rfl 1 rfl ?_
          refine x_mV (k9 := 38) C (by decide) ww_496 eX23_step_190 rfl ?_
          refine x_iload_n C eX23_step_193 rfl 0 rfl ?_
          refine x_rQ (r := 38) (t9 := 6) C (by decide) rfl (by decide) rfl eX23_step_194 h (fun v10 h => ?_)
          refine x_tload_n C eX23_step_195 rfl 1 rfl ?_
          refine x_mV (k9 := 38) C (by decide) ww_496 eX23_step_196 rfl ?_
          refine x_iload_n C eX23_step_199 rfl 0 rfl ?_
          refine x_rQ (r := 38) (t9 := 6) C (by decide) rfl (by decide) rfl eX23_step_200 h (fun v11 h => ?_)
          refine x_gI (o9 := v11) (ci := 18) (k9 := 1) (Cn := RX18) (T := TX18) (N := 4) C rfl wt_X18 (by decide) ww_535 eX23_step_201 h (fun v12 h => ?_)
          refine x_cVi (As := [va_rf v10, .int v12]) (st := [.ref m9]) (n := 2) (frc := 3) (loc := 69) C h (fun S9 r9 e9 => k_X23_find l D K m9 mr _ S9 v10 v12 r9 e9) ww_856 ww_862 ww_863 ww_864 ww_16 (by decide +kernel) rfl ⟨by omega, by omega⟩ (Nat.le_of_ble_eq_true rfl) eX23_step_204 (fun S13 v14 h => ?_)
          refine x_i2l C eX23_step_207 ?_
          refine x_cVv (As := [.long (Int32.toInt64 v14)]) (st := []) (n := 1) (frc := 1) (loc := 20) C h (fun S9 r9 e9 => k_X23_push l D K m9 mr _ S9 (Int32.toInt64 v14) r9 e9) ww_850 ww_797 ww_798 ww_799 ww_16 (by decide +kernel) rfl ⟨by omega, by omega⟩ (Nat.le_of_ble_eq_true rfl) eX23_step_208 (fun S15 v16 h => ?_)
          refine x_goto (tgt := 590) C eX23_step_211 (by decide) ?_
          refine x_sub [] rfl ?_
          exact j_590 S15 h
        · refine x_tabIn (v := 4) (tgt := 214) C eX23_step_21 (by decide) (by decide) rfl (by decide) h (fun h => ?_) (fun hq4 h => ?_)
          · refine x_tload_n C eX23_step_214 rfl 1 rfl ?_
            refine x_tload_n C eX23_step_215 rfl 1 rfl ?_
            refine x_mV (k9 := 28) C (by decide) ww_487 eX23_step_216 rfl ?_
            refine x_iload_n C eX23_step_219 rfl 0 rfl ?_
            refine x_rI (r := 28) C (by decide) rfl eX23_step_220 h (fun v17 h => ?_)
            refine x_cVv (As := [.int v17]) (st := []) (n := 1) (frc := 2) (loc := 42) C h (fun S9 r9 e9 => k_X23_runSign l D K m9 mr _ S9 v17 r9 e9) ww_868 ww_910 ww_911 ww_912 ww_16 (by decide +kernel) rfl ⟨by omega, by omega⟩ (Nat.le_of_ble_eq_true rfl) eX23_step_221 (fun S18 v19 h => ?_)
            refine x_goto (tgt := 590) C eX23_step_224 (by decide) ?_
            refine x_sub [] rfl ?_
            exact j_590 S18 h
          · refine x_tabIn (v := 5) (tgt := 227) C eX23_step_21 (by decide) (by decide) rfl (by decide) h (fun h => ?_) (fun hq5 h => ?_)
            · refine x_tload_n C eX23_step_227 rfl 1 rfl ?_
              refine x_lconst (v := 1) C eX23_step_228 (by decide) ?_
              refine x_tload_n C eX23_step_229 rfl 1 rfl ?_
              refine x_cVl (As := []) (st := [.long 1, .ref m9]) (n := 0) (frc := 1) (loc := 20) C h (fun S9 r9 e9 => k_X23_pop l D K m9 mr _ S9 r9 e9) ww_853 ww_791 ww_792 ww_793 ww_16 (by decide +kernel) rfl ⟨by omega, by omega⟩ (Nat.le_of_ble_eq_true rfl) eX23_step_230 (fun S20 v21 h => ?_)
              refine x_lsub C eX23_step_233 ?_
              refine x_cVv (As := [.long (1 - v21)]) (st := []) (n := 1) (frc := 1) (loc := 20) C h (fun S9 r9 e9 => k_X23_push l D K m9 mr _ S9 (1 - v21) r9 e9) ww_850 ww_797 ww_798 ww_799 ww_16 (by decide +kernel) rfl ⟨by omega, by omega⟩ (Nat.le_of_ble_eq_true rfl) eX23_step_234 (fun S22 v23 h => ?_)
              refine x_goto (tgt := 590) C eX23_step_237 (by decide) ?_
              refine x_sub [] rfl ?_
              exact j_590 S22 h
            · refine x_tabIn (v := 6) (tgt := 240) C eX23_step_21 (by decide) (by decide) rfl (by decide) h (fun h => ?_) (fun hq6 h => ?_)
              · refine x_tload_n C eX23_step_240 rfl 1 rfl ?_
                refine x_cVv (As := []) (st := []) (n := 0) (frc := 2) (loc := 42) C h (fun S9 r9 e9 => k_X23_runMinus l D K m9 mr _ S9 r9 e9) ww_894 ww_913 ww_914 ww_915 ww_16 (by decide +kernel) rfl ⟨by omega, by omega⟩ (Nat.le_of_ble_eq_true rfl) eX23_step_241 (fun S24 v25 h => ?_)
                refine x_goto (tgt := 590) C eX23_step_244 (by decide) ?_
                refine x_sub [] rfl ?_
                exact j_590 S24 h
              · refine x_tabIn (v := 7) (tgt := 247) C eX23_step_21 (by decide) (by decide) rfl (by decide) h (fun h => ?_) (fun hq7 h => ?_)
                · refine x_tload_n C eX23_step_247 rfl 1 rfl ?_
                  refine x_tload_n C eX23_step_248 rfl 1 rfl ?_
                  refine x_mV (k9 := 39) C (by decide) ww_497 eX23_step_249 rfl ?_
                  refine x_iload_n C eX23_step_252 rfl 0 rfl ?_
                  refine x_rQ (r := 39) (t9 := 4) C (by decide) rfl (by decide) rfl eX23_step_253 h (fun v26 h => ?_)
                  refine x_cVv (As := [va_rf v26]) (st := []) (n := 1) (frc := 163) (loc := 3746) C h (fun S9 r9 e9 => k_X23_boxUp l D K m9 mr _ S9 v26 r9 e9) ww_786 ww_916 ww_917 ww_918 ww_16 (by decide +kernel) rfl ⟨by omega, by omega⟩ (Nat.le_of_ble_eq_true rfl) eX23_step_254 (fun S27 v28 h => ?_)
                  refine x_goto (tgt := 590) C eX23_step_257 (by decide) ?_
                  refine x_sub [] rfl ?_
                  exact j_590 S27 h
                · refine x_tabIn (v := 8) (tgt := 260) C eX23_step_21 (by decide) (by decide) rfl (by decide) h (fun h => ?_) (fun hq8 h => ?_)
                  · refine x_sub [1, 0] rfl ?_
                    exact j_260 S1 (Zi S0 77) h
                  · refine x_tabIn (v := 9) (tgt := 260) C eX23_step_21 (by decide) (by decide) rfl (by decide) h (fun h => ?_) (fun hq9 h => ?_)
                    · refine x_sub [1, 0] rfl ?_
                      exact j_260 S1 (Zi S0 77) h
                    · refine x_tabIn (v := 10) (tgt := 268) C eX23_step_21 (by decide) (by decide) rfl (by decide) h (fun h => ?_) (fun hq10 h => ?_)
                      · refine x_tload_n C eX23_step_268 rfl 1 rfl ?_
                        refine x_iload_n C eX23_step_269 rfl 0 rfl ?_
                        refine x_cVv (As := [.int (Zi S0 77)]) (st := []) (n := 1) (frc := 4) (loc := 87) C h (fun S9 r9 e9 => k_X23_runCall l D K m9 mr _ S9 (Zi S0 77) r9 e9) ww_871 ww_922 ww_923 ww_924 ww_16 (by decide +kernel) rfl ⟨by omega, by omega⟩ (Nat.le_of_ble_eq_true rfl) eX23_step_270 (fun S29 v30 h => ?_)
                        refine x_goto (tgt := 590) C eX23_step_273 (by decide) ?_
                        refine x_sub [] rfl ?_
                        exact j_590 S29 h
                      · refine x_tabIn (v := 11) (tgt := 276) C eX23_step_21 (by decide) (by decide) rfl (by decide) h (fun h => ?_) (fun hq11 h => ?_)
                        · refine x_tload_n C eX23_step_276 rfl 1 rfl ?_
                          refine x_tload_n C eX23_step_277 rfl 1 rfl ?_
                          refine x_mV (k9 := 39) C (by decide) ww_497 eX23_step_278 rfl ?_
                          refine x_iload_n C eX23_step_281 rfl 0 rfl ?_
                          refine x_rQ (r := 39) (t9 := 4) C (by decide) rfl (by decide) rfl eX23_step_282 h (fun v31 h => ?_)
                          refine x_tload_n C eX23_step_283 rfl 1 rfl ?_
                          refine x_cVl (As := []) (st := [va_rf v31, .ref m9]) (n := 0) (frc := 1) (loc := 20) C h (fun S9 r9 e9 => k_X23_pop l D K m9 mr _ S9 r9 e9) ww_853 ww_791 ww_792 ww_793 ww_16 (by decide +kernel) rfl ⟨by omega, by omega⟩ (Nat.le_of_ble_eq_true rfl) eX23_step_284 (fun S32 v33 h => ?_)
                          refine x_cVv (As := [va_rf v31, .long v33]) (st := []) (n := 2) (frc := 4) (loc := 95) C h (fun S9 r9 e9 => k_X23_dropValue l D K m9 mr _ S9 v31 v33 r9 e9) ww_812 ww_826 ww_827 ww_828 ww_16 (by decide +kernel) rfl ⟨by omega, by omega⟩ (Nat.le_of_ble_eq_true rfl) eX23_step_287 (fun S34 v35 h => ?_)
                          refine x_tload_n C eX23_step_290 rfl 1 rfl ?_
                          refine x_cVv (As := []) (st := []) (n := 0) (frc := 6) (loc := 142) C h (fun S9 r9 e9 => k_X23_doAll l D K m9 mr _ S9 r9 e9) ww_829 ww_876 ww_877 ww_878 ww_16 (by decide +kernel) rfl ⟨by omega, by omega⟩ (Nat.le_of_ble_eq_true rfl) eX23_step_291 (fun S36 v37 h => ?_)
                          refine x_goto (tgt := 590) C eX23_step_294 (by decide) ?_
                          refine x_sub [] rfl ?_
                          exact j_590 S36 h
                        · refine x_tabIn (v := 12) (tgt := 297) C eX23_step_21 (by decide) (by decide) rfl (by decide) h (fun h => ?_) (fun hq12 h => ?_)
                          · refine x_tload_n C eX23_step_297 rfl 1 rfl ?_
                            refine x_mV (k9 := 74) C (by decide) ww_857 eX23_step_298 rfl ?_
                            refine x_tload_n C eX23_step_301 rfl 1 rfl ?_
                            refine x_tload_n C eX23_step_302 rfl 1 rfl ?_
                            refine x_mV (k9 := 40) C (by decide) ww_498 eX23_step_303 rfl ?_
                            refine x_iload_n C eX23_step_306 rfl 0 rfl ?_
                            refine x_rQ (r := 40) (t9 := 5) C (by decide) rfl (by decide) rfl eX23_step_307 h (fun v38 h => ?_)
                            refine x_cVi (As := [va_rf v38]) (st := [.ref (mr 74)]) (n := 1) (frc := 1) (loc := 20) C h (fun S9 r9 e9 => k_X23_slot l D K m9 mr _ S9 v38 r9 e9) ww_854 ww_858 ww_859 ww_860 ww_16 (by decide +kernel) rfl ⟨by omega, by omega⟩ (Nat.le_of_ble_eq_true rfl) eX23_step_308 (fun S39 v40 h => ?_)
                            refine x_tload_n C eX23_step_311 rfl 1 rfl ?_
                            refine x_tload_n C eX23_step_312 rfl 1 rfl ?_
                            refine x_mV (k9 := 40) C (by decide) ww_498 eX23_step_313 rfl ?_
                            refine x_iload_n C eX23_step_316 rfl 0 rfl ?_
                            refine x_rQ (r := 40) (t9 := 5) C (by decide) rfl (by decide) rfl eX23_step_317 h (fun v41 h => ?_)
                            refine x_gR (o9 := v41) (ci := 21) (k9 := 2) (Cn := RX21) (T := TX21) (N := 5) C rfl wt_X21 (by decide) ww_329 eX23_step_318 h (fun v42 h => ?_)
                            refine x_tload_n C eX23_step_321 rfl 1 rfl ?_
                            refine x_cVl (As := []) (st := [va_rf v42, .ref m9, .int v40, .ref (mr 74)]) (n := 0) (frc := 1) (loc := 20) C h (fun S9 r9 e9 => k_X23_pop l D K m9 mr _ S9 r9 e9) ww_853 ww_791 ww_792 ww_793 ww_16 (by decide +kernel) rfl ⟨by omega, by omega⟩ (Nat.le_of_ble_eq_true rfl) eX23_step_322 (fun S43 v44 h => ?_)
                            refine x_cVi (As := [va_rf v42, .long v44]) (st := [.int v40, .ref (mr 74)]) (n := 2) (frc := 3) (loc := 64) C h (fun S9 r9 e9 => k_X23_freshPlace l D K m9 mr _ S9 v42 v44 r9 e9) ww_767 ww_794 ww_795 ww_796 ww_16 (by decide +kernel) rfl ⟨by omega, by omega⟩ (Nat.le_of_ble_eq_true rfl) eX23_step_325 (fun S45 v46 h => ?_)
                            refine x_wI (r := 74) C (by decide) rfl eX23_step_328 h (fun S47 h => ?_)
                            refine x_goto (tgt := 590) C eX23_step_329 (by decide) ?_
                            refine x_sub [] rfl ?_
                            exact j_590 S47 h
                          · refine x_tabIn (v := 13) (tgt := 332) C eX23_step_21 (by decide) (by decide) rfl (by decide) h (fun h => ?_) (fun hq13 h => ?_)
                            · refine x_tload_n C eX23_step_332 rfl 1 rfl ?_
                              refine x_mV (k9 := 74) C (by decide) ww_857 eX23_step_333 rfl ?_
                              refine x_tload_n C eX23_step_336 rfl 1 rfl ?_
                              refine x_tload_n C eX23_step_337 rfl 1 rfl ?_
                              refine x_mV (k9 := 40) C (by decide) ww_498 eX23_step_338 rfl ?_
                              refine x_iload_n C eX23_step_341 rfl 0 rfl ?_
                              refine x_rQ (r := 40) (t9 := 5) C (by decide) rfl (by decide) rfl eX23_step_342 h (fun v48 h => ?_)
                              refine x_cVi (As := [va_rf v48]) (st := [.ref (mr 74)]) (n := 1) (frc := 1) (loc := 20) C h (fun S9 r9 e9 => k_X23_slot l D K m9 mr _ S9 v48 r9 e9) ww_854 ww_858 ww_859 ww_860 ww_16 (by decide +kernel) rfl ⟨by omega, by omega⟩ (Nat.le_of_ble_eq_true rfl) eX23_step_343 (fun S49 v50 h => ?_)
                              refine x_tload_n C eX23_step_346 rfl 1 rfl ?_
                              refine x_tload_n C eX23_step_347 rfl 1 rfl ?_
                              refine x_mV (k9 := 40) C (by decide) ww_498 eX23_step_348 rfl ?_
                              refine x_iload_n C eX23_step_351 rfl 0 rfl ?_
                              refine x_rQ (r := 40) (t9 := 5) C (by decide) rfl (by decide) rfl eX23_step_352 h (fun v51 h => ?_)
                              refine x_gR (o9 := v51) (ci := 21) (k9 := 2) (Cn := RX21) (T := TX21) (N := 5) C rfl wt_X21 (by decide) ww_329 eX23_step_353 h (fun v52 h => ?_)
                              refine x_cVi (As := [va_rf v52]) (st := [.int v50, .ref (mr 74)]) (n := 1) (frc := 2) (loc := 41) C h (fun S9 r9 e9 => k_X23_newPlace l D K m9 mr _ S9 v52 r9 e9) ww_745 ww_763 ww_764 ww_765 ww_16 (by decide +kernel) rfl ⟨by omega, by omega⟩ (Nat.le_of_ble_eq_true rfl) eX23_step_356 (fun S53 v54 h => ?_)
                              refine x_wI (r := 74) C (by decide) rfl eX23_step_359 h (fun S55 h => ?_)
                              refine x_goto (tgt := 590) C eX23_step_360 (by decide) ?_
                              refine x_sub [] rfl ?_
                              exact j_590 S55 h
                            · refine x_tabIn (v := 14) (tgt := 363) C eX23_step_21 (by decide) (by decide) rfl (by decide) h (fun h => ?_) (fun hq14 h => ?_)
                              · refine x_tload_n C eX23_step_363 rfl 1 rfl ?_
                                refine x_iload_n C eX23_step_364 rfl 0 rfl ?_
                                refine x_cVv (As := [.int (Zi S0 77)]) (st := []) (n := 1) (frc := 7) (loc := 164) C h (fun S9 r9 e9 => k_X23_runAssign l D K m9 mr _ S9 (Zi S0 77) r9 e9) ww_875 ww_925 ww_926 ww_927 ww_16 (by decide +kernel) rfl ⟨by omega, by omega⟩ (Nat.le_of_ble_eq_true rfl) eX23_step_365 (fun S56 v57 h => ?_)
                                refine x_goto (tgt := 590) C eX23_step_368 (by decide) ?_
                                refine x_sub [] rfl ?_
                                exact j_590 S56 h
                              · refine x_tabIn (v := 15) (tgt := 371) C eX23_step_21 (by decide) (by decide) rfl (by decide) h (fun h => ?_) (fun hq15 h => ?_)
                                · refine x_tload_n C eX23_step_371 rfl 1 rfl ?_
                                  refine x_tload_n C eX23_step_372 rfl 1 rfl ?_
                                  refine x_mV (k9 := 39) C (by decide) ww_497 eX23_step_373 rfl ?_
                                  refine x_iload_n C eX23_step_376 rfl 0 rfl ?_
                                  refine x_rQ (r := 39) (t9 := 4) C (by decide) rfl (by decide) rfl eX23_step_377 h (fun v58 h => ?_)
                                  refine x_cVv (As := [va_rf v58]) (st := []) (n := 1) (frc := 3) (loc := 69) C h (fun S9 r9 e9 => k_X23_runPrint l D K m9 mr _ S9 v58 r9 e9) ww_884 ww_928 ww_929 ww_930 ww_16 (by decide +kernel) rfl ⟨by omega, by omega⟩ (Nat.le_of_ble_eq_true rfl) eX23_step_378 (fun S59 v60 h => ?_)
                                  refine x_goto (tgt := 590) C eX23_step_381 (by decide) ?_
                                  refine x_sub [] rfl ?_
                                  exact j_590 S59 h
                                · refine x_tabIn (v := 16) (tgt := 384) C eX23_step_21 (by decide) (by decide) rfl (by decide) h (fun h => ?_) (fun hq16 h => ?_)
                                  · refine x_tload_n C eX23_step_384 rfl 1 rfl ?_
                                    refine x_tload_n C eX23_step_385 rfl 1 rfl ?_
                                    refine x_mV (k9 := 30) C (by decide) ww_489 eX23_step_386 rfl ?_
                                    refine x_iload_n C eX23_step_389 rfl 0 rfl ?_
                                    refine x_rI (r := 30) C (by decide) rfl eX23_step_390 h (fun v61 h => ?_)
                                    refine x_pM (k9 := 77) C (by decide) rfl (by decide) ww_874 rfl (by decide +kernel) eX23_step_391 h (fun S62 h => ?_)
                                    refine x_goto (tgt := 590) C eX23_step_394 (by decide) ?_
                                    refine x_sub [] rfl ?_
                                    exact j_590 S62 h
                                  · refine x_tabIn (v := 17) (tgt := 397) C eX23_step_21 (by decide) (by decide) rfl (by decide) h (fun h => ?_) (fun hq17 h => ?_)
                                    · refine x_tload_n C eX23_step_397 rfl 1 rfl ?_
                                      refine x_cVl (As := []) (st := []) (n := 0) (frc := 1) (loc := 20) C h (fun S9 r9 e9 => k_X23_pop l D K m9 mr _ S9 r9 e9) ww_853 ww_791 ww_792 ww_793 ww_16 (by decide +kernel) rfl ⟨by omega, by omega⟩ (Nat.le_of_ble_eq_true rfl) eX23_step_398 (fun S63 v64 h => ?_)
                                      refine x_lconst (v := 0) C eX23_step_401 (by decide) ?_
                                      refine x_lcmp C eX23_step_402 ?_
                                      refine x_if_ne (tgt := 590) C eX23_step_403 (by decide) h (fun h => ?_) (fun h => ?_)
                                      · refine x_sub [] rfl ?_
                                        exact j_590 S63 h
                                      · refine x_tload_n C eX23_step_406 rfl 1 rfl ?_
                                        refine x_tload_n C eX23_step_407 rfl 1 rfl ?_
                                        refine x_mV (k9 := 30) C (by decide) ww_489 eX23_step_408 rfl ?_
                                        refine x_iload_n C eX23_step_411 rfl 0 rfl ?_
                                        refine x_rI (r := 30) C (by decide) rfl eX23_step_412 h (fun v65 h => ?_)
                                        refine x_pM (k9 := 77) C (by decide) rfl (by decide) ww_874 rfl (by decide +kernel) eX23_step_413 h (fun S66 h => ?_)
                                        refine x_goto (tgt := 590) C eX23_step_416 (by decide) ?_
                                        refine x_sub [] rfl ?_
                                        exact j_590 S66 h
                                    · refine x_tabIn (v := 18) (tgt := 419) C eX23_step_21 (by decide) (by decide) rfl (by decide) h (fun h => ?_) (fun hq18 h => ?_)
                                      · refine x_sub [1, 0] rfl ?_
                                        exact j_419 S1 (Zi S0 77) h
                                      · refine x_tabIn (v := 19) (tgt := 419) C eX23_step_21 (by decide) (by decide) rfl (by decide) h (fun h => ?_) (fun hq19 h => ?_)
                                        · refine x_sub [1, 0] rfl ?_
                                          exact j_419 S1 (Zi S0 77) h
                                        · refine x_tabIn (v := 20) (tgt := 477) C eX23_step_21 (by decide) (by decide) rfl (by decide) h (fun h => ?_) (fun hq20 h => ?_)
                                          · refine x_sub [1, 0] rfl ?_
                                            exact j_477 S1 (Zi S0 77) h
                                          · refine x_tabIn (v := 21) (tgt := 477) C eX23_step_21 (by decide) (by decide) rfl (by decide) h (fun h => ?_) (fun hq21 h => ?_)
                                            · refine x_sub [1, 0] rfl ?_
                                              exact j_477 S1 (Zi S0 77) h
                                            · refine x_tabIn (v := 22) (tgt := 485) C eX23_step_21 (by decide) (by decide) rfl (by decide) h (fun h => ?_) (fun hq22 h => ?_)
                                              · refine x_tload_n C eX23_step_485 rfl 1 rfl ?_
                                                refine x_tload_n C eX23_step_486 rfl 1 rfl ?_
                                                refine x_mV (k9 := 41) C (by decide) ww_499 eX23_step_487 rfl ?_
                                                refine x_iload_n C eX23_step_490 rfl 0 rfl ?_
                                                refine x_rQ (r := 41) (t9 := 7) C (by decide) rfl (by decide) rfl eX23_step_491 h (fun v67 h => ?_)
                                                refine x_cVv (As := [va_rf v67]) (st := []) (n := 1) (frc := 2) (loc := 44) C h (fun S9 r9 e9 => k_X23_runBind l D K m9 mr _ S9 v67 r9 e9) ww_882 ww_934 ww_935 ww_936 ww_16 (by decide +kernel) rfl ⟨by omega, by omega⟩ (Nat.le_of_ble_eq_true rfl) eX23_step_492 (fun S68 v69 h => ?_)
                                                refine x_goto (tgt := 590) C eX23_step_495 (by decide) ?_
                                                refine x_sub [] rfl ?_
                                                exact j_590 S68 h
                                              · refine x_tabIn (v := 23) (tgt := 498) C eX23_step_21 (by decide) (by decide) rfl (by decide) h (fun h => ?_) (fun hq23 h => ?_)
                                                · refine x_tload_n C eX23_step_498 rfl 1 rfl ?_
                                                  refine x_mV (k9 := 74) C (by decide) ww_857 eX23_step_499 rfl ?_
                                                  refine x_tload_n C eX23_step_502 rfl 1 rfl ?_
                                                  refine x_tload_n C eX23_step_503 rfl 1 rfl ?_
                                                  refine x_mV (k9 := 40) C (by decide) ww_498 eX23_step_504 rfl ?_
                                                  refine x_iload_n C eX23_step_507 rfl 0 rfl ?_
                                                  refine x_rQ (r := 40) (t9 := 5) C (by decide) rfl (by decide) rfl eX23_step_508 h (fun v70 h => ?_)
                                                  refine x_cVi (As := [va_rf v70]) (st := [.ref (mr 74)]) (n := 1) (frc := 1) (loc := 20) C h (fun S9 r9 e9 => k_X23_slot l D K m9 mr _ S9 v70 r9 e9) ww_854 ww_858 ww_859 ww_860 ww_16 (by decide +kernel) rfl ⟨by omega, by omega⟩ (Nat.le_of_ble_eq_true rfl) eX23_step_509 (fun S71 v72 h => ?_)
                                                  refine x_tload_n C eX23_step_512 rfl 1 rfl ?_
                                                  refine x_tload_n C eX23_step_513 rfl 1 rfl ?_
                                                  refine x_tload_n C eX23_step_514 rfl 1 rfl ?_
                                                  refine x_mV (k9 := 38) C (by decide) ww_496 eX23_step_515 rfl ?_
                                                  refine x_iload_n C eX23_step_518 rfl 0 rfl ?_
                                                  refine x_rQ (r := 38) (t9 := 6) C (by decide) rfl (by decide) rfl eX23_step_519 h (fun v73 h => ?_)
                                                  refine x_tload_n C eX23_step_520 rfl 1 rfl ?_
                                                  refine x_mV (k9 := 38) C (by decide) ww_496 eX23_step_521 rfl ?_
                                                  refine x_iload_n C eX23_step_524 rfl 0 rfl ?_
                                                  refine x_rQ (r := 38) (t9 := 6) C (by decide) rfl (by decide) rfl eX23_step_525 h (fun v74 h => ?_)
                                                  refine x_gI (o9 := v74) (ci := 18) (k9 := 1) (Cn := RX18) (T := TX18) (N := 4) C rfl wt_X18 (by decide) ww_535 eX23_step_526 h (fun v75 h => ?_)
                                                  refine x_cVi (As := [va_rf v73, .int v75]) (st := [.ref m9, .int v72, .ref (mr 74)]) (n := 2) (frc := 3) (loc := 69) C h (fun S9 r9 e9 => k_X23_find l D K m9 mr _ S9 v73 v75 r9 e9) ww_856 ww_862 ww_863 ww_864 ww_16 (by decide +kernel) rfl ⟨by omega, by omega⟩ (Nat.le_of_ble_eq_true rfl) eX23_step_529 (fun S76 v77 h => ?_)
                                                  refine x_i2l C eX23_step_532 ?_
                                                  refine x_cVi (As := [.long (Int32.toInt64 v77)]) (st := [.int v72, .ref (mr 74)]) (n := 1) (frc := 2) (loc := 41) C h (fun S9 r9 e9 => k_X23_leaf l D K m9 mr _ S9 (Int32.toInt64 v77) r9 e9) ww_766 ww_768 ww_769 ww_770 ww_16 (by decide +kernel) rfl ⟨by omega, by omega⟩ (Nat.le_of_ble_eq_true rfl) eX23_step_533 (fun S78 v79 h => ?_)
                                                  refine x_wI (r := 74) C (by decide) rfl eX23_step_536 h (fun S80 h => ?_)
                                                  refine x_goto (tgt := 590) C eX23_step_537 (by decide) ?_
                                                  refine x_sub [] rfl ?_
                                                  exact j_590 S80 h
                                                · refine x_tabIn (v := 24) (tgt := 540) C eX23_step_21 (by decide) (by decide) rfl (by decide) h (fun h => ?_) (fun hq24 h => ?_)
                                                  · refine x_tload_n C eX23_step_540 rfl 1 rfl ?_
                                                    refine x_tload_n C eX23_step_541 rfl 1 rfl ?_
                                                    refine x_mV (k9 := 40) C (by decide) ww_498 eX23_step_542 rfl ?_
                                                    refine x_iload_n C eX23_step_545 rfl 0 rfl ?_
                                                    refine x_rQ (r := 40) (t9 := 5) C (by decide) rfl (by decide) rfl eX23_step_546 h (fun v81 h => ?_)
                                                    refine x_cVv (As := [va_rf v81]) (st := []) (n := 1) (frc := 7) (loc := 164) C h (fun S9 r9 e9 => k_X23_runOut l D K m9 mr _ S9 v81 r9 e9) ww_883 ww_937 ww_938 ww_939 ww_16 (by decide +kernel) rfl ⟨by omega, by omega⟩ (Nat.le_of_ble_eq_true rfl) eX23_step_547 (fun S82 v83 h => ?_)
                                                    refine x_goto (tgt := 590) C eX23_step_550 (by decide) ?_
                                                    refine x_sub [] rfl ?_
                                                    exact j_590 S82 h
                                                  · refine x_tabIn (v := 25) (tgt := 590) C eX23_step_21 (by decide) (by decide) rfl (by decide) h (fun h => ?_) (fun hq25 h => ?_)
                                                    · refine x_sub [] rfl ?_
                                                      exact j_590 S1 h
                                                    · refine x_tabIn (v := 26) (tgt := 553) C eX23_step_21 (by decide) (by decide) rfl (by decide) h (fun h => ?_) (fun hq26 h => ?_)
                                                      · refine x_tload_n C eX23_step_553 rfl 1 rfl ?_
                                                        refine x_dup C eX23_step_554 rfl ?_
                                                        refine x_mV (k9 := 76) C (by decide) ww_855 eX23_step_555 rfl ?_
                                                        refine x_iconst (v := 1) C eX23_step_558 (by decide) ?_
                                                        refine x_isub C eX23_step_559 ?_
                                                        refine x_pM (k9 := 76) C (by decide) rfl (by decide) ww_855 rfl (by decide +kernel) eX23_step_560 h (fun S84 h => ?_)
                                                        refine x_tload_n C eX23_step_563 rfl 1 rfl ?_
                                                        refine x_tload_n C eX23_step_564 rfl 1 rfl ?_
                                                        refine x_mV (k9 := 76) C (by decide) ww_855 eX23_step_565 rfl ?_
                                                        refine x_if_le (tgt := 583) C eX23_step_568 (by decide) h (fun h => ?_) (fun h => ?_)
                                                        · refine x_iconst (v := (-1)) C eX23_step_583 (by decide) ?_
                                                          refine x_sub [] rfl ?_
                                                          exact j_584 S84 (-1) h
                                                        · refine x_tload_n C eX23_step_571 rfl 1 rfl ?_
                                                          refine x_mV (k9 := 75) C (by decide) ww_873 eX23_step_572 rfl ?_
                                                          refine x_tload_n C eX23_step_575 rfl 1 rfl ?_
                                                          refine x_mV (k9 := 76) C (by decide) ww_855 eX23_step_576 rfl ?_
                                                          refine x_rI (r := 75) C (by decide) rfl eX23_step_579 h (fun v85 h => ?_)
                                                          refine x_goto (tgt := 584) C eX23_step_580 (by decide) ?_
                                                          refine x_sub [] rfl ?_
                                                          exact j_584 S84 v85 h
                                                      · refine x_tabIn (v := 27) (tgt := 168) C eX23_step_21 (by decide) (by decide) rfl (by decide) h (fun h => ?_) (fun hq27 h => ?_)
                                                        · refine x_tload_n C eX23_step_168 rfl 1 rfl ?_
                                                          refine x_tload_n C eX23_step_169 rfl 1 rfl ?_
                                                          refine x_cVl (As := []) (st := [.ref m9]) (n := 0) (frc := 1) (loc := 20) C h (fun S9 r9 e9 => k_X23_nextInput l D K m9 mr _ S9 r9 e9) ww_891 ww_904 ww_905 ww_906 ww_16 (by decide +kernel) rfl ⟨by omega, by omega⟩ (Nat.le_of_ble_eq_true rfl) eX23_step_170 (fun S86 v87 h => ?_)
                                                          refine x_cVv (As := [.long v87]) (st := []) (n := 1) (frc := 1) (loc := 20) C h (fun S9 r9 e9 => k_X23_push l D K m9 mr _ S9 v87 r9 e9) ww_850 ww_797 ww_798 ww_799 ww_16 (by decide +kernel) rfl ⟨by omega, by omega⟩ (Nat.le_of_ble_eq_true rfl) eX23_step_173 (fun S88 v89 h => ?_)
                                                          refine x_goto (tgt := 590) C eX23_step_176 (by decide) ?_
                                                          refine x_sub [] rfl ?_
                                                          exact j_590 S88 h
                                                        · have hq0i : (v2 : Int32).toInt ≠ 0 := fun q9 => hq0 (Int32.toInt_inj.mp q9)
                                                          have hq1i : (v2 : Int32).toInt ≠ 1 := fun q9 => hq1 (Int32.toInt_inj.mp q9)
                                                          have hq2i : (v2 : Int32).toInt ≠ 2 := fun q9 => hq2 (Int32.toInt_inj.mp q9)
                                                          have hq3i : (v2 : Int32).toInt ≠ 3 := fun q9 => hq3 (Int32.toInt_inj.mp q9)
                                                          have hq4i : (v2 : Int32).toInt ≠ 4 := fun q9 => hq4 (Int32.toInt_inj.mp q9)
                                                          have hq5i : (v2 : Int32).toInt ≠ 5 := fun q9 => hq5 (Int32.toInt_inj.mp q9)
                                                          have hq6i : (v2 : Int32).toInt ≠ 6 := fun q9 => hq6 (Int32.toInt_inj.mp q9)
                                                          have hq7i : (v2 : Int32).toInt ≠ 7 := fun q9 => hq7 (Int32.toInt_inj.mp q9)
                                                          have hq8i : (v2 : Int32).toInt ≠ 8 := fun q9 => hq8 (Int32.toInt_inj.mp q9)
                                                          have hq9i : (v2 : Int32).toInt ≠ 9 := fun q9 => hq9 (Int32.toInt_inj.mp q9)
                                                          have hq10i : (v2 : Int32).toInt ≠ 10 := fun q9 => hq10 (Int32.toInt_inj.mp q9)
                                                          have hq11i : (v2 : Int32).toInt ≠ 11 := fun q9 => hq11 (Int32.toInt_inj.mp q9)
                                                          have hq12i : (v2 : Int32).toInt ≠ 12 := fun q9 => hq12 (Int32.toInt_inj.mp q9)
                                                          have hq13i : (v2 : Int32).toInt ≠ 13 := fun q9 => hq13 (Int32.toInt_inj.mp q9)
                                                          have hq14i : (v2 : Int32).toInt ≠ 14 := fun q9 => hq14 (Int32.toInt_inj.mp q9)
                                                          have hq15i : (v2 : Int32).toInt ≠ 15 := fun q9 => hq15 (Int32.toInt_inj.mp q9)
                                                          have hq16i : (v2 : Int32).toInt ≠ 16 := fun q9 => hq16 (Int32.toInt_inj.mp q9)
                                                          have hq17i : (v2 : Int32).toInt ≠ 17 := fun q9 => hq17 (Int32.toInt_inj.mp q9)
                                                          have hq18i : (v2 : Int32).toInt ≠ 18 := fun q9 => hq18 (Int32.toInt_inj.mp q9)
                                                          have hq19i : (v2 : Int32).toInt ≠ 19 := fun q9 => hq19 (Int32.toInt_inj.mp q9)
                                                          have hq20i : (v2 : Int32).toInt ≠ 20 := fun q9 => hq20 (Int32.toInt_inj.mp q9)
                                                          have hq21i : (v2 : Int32).toInt ≠ 21 := fun q9 => hq21 (Int32.toInt_inj.mp q9)
                                                          have hq22i : (v2 : Int32).toInt ≠ 22 := fun q9 => hq22 (Int32.toInt_inj.mp q9)
                                                          have hq23i : (v2 : Int32).toInt ≠ 23 := fun q9 => hq23 (Int32.toInt_inj.mp q9)
                                                          have hq24i : (v2 : Int32).toInt ≠ 24 := fun q9 => hq24 (Int32.toInt_inj.mp q9)
                                                          have hq25i : (v2 : Int32).toInt ≠ 25 := fun q9 => hq25 (Int32.toInt_inj.mp q9)
                                                          have hq26i : (v2 : Int32).toInt ≠ 26 := fun q9 => hq26 (Int32.toInt_inj.mp q9)
                                                          have hq27i : (v2 : Int32).toInt ≠ 27 := fun q9 => hq27 (Int32.toInt_inj.mp q9)
                                                          refine x_tabOut (tgt := 590) C eX23_step_21 (by omega) (by decide) ?_
                                                          refine x_sub [] rfl ?_
                                                          exact j_590 S1 h
set_option maxRecDepth 20000 in
set_option maxHeartbeats 4000000 in
theorem k_X23_runMain (l : Launch) (D : va_G) (K : Ky) (m9 : Nat) (mr : Nat → Nat) (S0 Sf : Sg) (rf : Unit) (h : f_runMain K S0 = some (Sf, rf)) : CT l D K m9 mr yX23_runMain (Cond.code yX23_runMain cX23_runMain 2 none) (165) (3791) S0 Sf [.ref m9] none := by
  refine x_start (cc := cX23_runMain) (lv := [(0, .ref m9)]) rfl rfl (by decide) (by simp [lv_args, cat_rf, cat_i, cat_l, cat_a]) (by simp [lg_sl, cat_rf, cat_i, cat_l, cat_a]) (fun p e R s m args below meth c Q A C => ?_)
  have j_102 : ∀ (S : Sg), f_runMain_102 K S = some (Sf, rf) → WX p l e R s m args below meth c Q D A K m9 mr 2 S0 S 102 [] [] := by
    intro S h
    unfold f_runMain_102 at h
    exact x_vret C rfl rfl eX23_runMain_102 h
  have j_81 : ∀ (n_81 : Nat) (S : Sg), f_runMain_81 K n_81 S = some (Sf, rf) → WX p l e R s m args below meth c Q D A K m9 mr 2 S0 S 81 [(0, .ref m9)] [] := by
    intro n_81
    induction n_81 with
    | zero => intro S h; unfold f_runMain_81 at h; cases h
    | succ n_81 ih_81 =>
      intro S h
      unfold f_runMain_81 at h
      refine x_tload_n C eX23_runMain_81 rfl 0 rfl ?_
      refine x_mV (k9 := 77) C (by decide) ww_874 eX23_runMain_82 rfl ?_
      refine x_if_lt (tgt := 102) C eX23_runMain_85 (by decide) h (fun h => ?_) (fun h => ?_)
      · refine x_sub [] rfl ?_
        exact j_102 S h
      · refine x_tload_n C eX23_runMain_88 rfl 0 rfl ?_
        refine x_cVi (As := []) (st := []) (n := 0) (frc := 1) (loc := 20) C h (fun S9 r9 e9 => k_X23_ok l D K m9 mr _ S9 r9 e9) ww_0 ww_13 ww_14 ww_15 ww_16 (by decide +kernel) rfl ⟨by omega, by omega⟩ (Nat.le_of_ble_eq_true rfl) eX23_runMain_89 (fun S15 v16 h => ?_)
        refine x_if_eq (tgt := 102) C eX23_runMain_92 (by decide) h (fun h => ?_) (fun h => ?_)
        · refine x_sub [] rfl ?_
          exact j_102 S15 h
        · refine x_tload_n C eX23_runMain_95 rfl 0 rfl ?_
          refine x_cVv (As := []) (st := []) (n := 0) (frc := 164) (loc := 3770) C h (fun S9 r9 e9 => k_X23_step l D K m9 mr _ S9 r9 e9) ww_900 ww_941 ww_942 ww_943 ww_16 (by decide +kernel) rfl ⟨by omega, by omega⟩ (Nat.le_of_ble_eq_true rfl) eX23_runMain_96 (fun S17 v18 h => ?_)
          refine x_goto (tgt := 81) C eX23_runMain_99 (by decide) ?_
          refine x_sub [0] rfl ?_
          exact ih_81 S17 h
  have j_27 : ∀ (n_27 : Nat) (S : Sg) (x1 : Int32), f_runMain_27 K n_27 S x1 = some (Sf, rf) → WX p l e R s m args below meth c Q D A K m9 mr 2 S0 S 27 [(0, .ref m9), (1, .int x1)] [] := by
    intro n_27
    induction n_27 with
    | zero => intro S x1 h; unfold f_runMain_27 at h; cases h
    | succ n_27 ih_27 =>
      intro S x1 h
      unfold f_runMain_27 at h
      refine x_iload_n C eX23_runMain_27 rfl 1 rfl ?_
      refine x_tload_n C eX23_runMain_28 rfl 0 rfl ?_
      refine x_mV (k9 := 66) C (by decide) ww_776 eX23_runMain_29 rfl ?_
      refine x_ic_ge (tgt := 48) C eX23_runMain_32 (by decide) h (fun h => ?_) (fun h => ?_)
      · refine x_tload_n C eX23_runMain_48 rfl 0 rfl ?_
        refine x_cVv (As := []) (st := []) (n := 0) (frc := 1) (loc := 20) C h (fun S9 r9 e9 => k_X23_burn l D K m9 mr _ S9 r9 e9) ww_899 ww_901 ww_902 ww_903 ww_16 (by decide +kernel) rfl ⟨by omega, by omega⟩ (Nat.le_of_ble_eq_true rfl) eX23_runMain_49 (fun S6 v7 h => ?_)
        refine x_tload_n C eX23_runMain_52 rfl 0 rfl ?_
        refine x_cVi (As := []) (st := []) (n := 0) (frc := 1) (loc := 20) C h (fun S9 r9 e9 => k_X23_ok l D K m9 mr _ S9 r9 e9) ww_0 ww_13 ww_14 ww_15 ww_16 (by decide +kernel) rfl ⟨by omega, by omega⟩ (Nat.le_of_ble_eq_true rfl) eX23_runMain_53 (fun S8 v9 h => ?_)
        refine x_if_ne (tgt := 60) C eX23_runMain_56 (by decide) h (fun h => ?_) (fun h => ?_)
        · refine x_tload_n C eX23_runMain_60 rfl 0 rfl ?_
          refine x_iconst (v := 1) C eX23_runMain_61 (by decide) ?_
          refine x_pM (k9 := 76) C (by decide) rfl (by decide) ww_855 rfl (by decide +kernel) eX23_runMain_62 h (fun S10 h => ?_)
          refine x_tload_n C eX23_runMain_65 rfl 0 rfl ?_
          refine x_tload_n C eX23_runMain_66 rfl 0 rfl ?_
          refine x_mV (k9 := 11) C (by decide) ww_114 eX23_runMain_67 rfl ?_
          refine x_tload_n C eX23_runMain_70 rfl 0 rfl ?_
          refine x_mV (k9 := 21) C (by decide) ww_317 eX23_runMain_71 rfl ?_
          refine x_rQ (r := 11) (t9 := 3) C (by decide) rfl (by decide) rfl eX23_runMain_74 h (fun v11 h => ?_)
          refine x_gI (o9 := v11) (ci := 16) (k9 := 5) (Cn := RX16) (T := TX16) (N := 22) C rfl wt_X16 (by decide) ww_632 eX23_runMain_75 h (fun v12 h => ?_)
          refine x_pM (k9 := 77) C (by decide) rfl (by decide) ww_874 rfl (by decide +kernel) eX23_runMain_78 h (fun S13 h => ?_)
          refine x_sub [0] rfl ?_
          exact j_81 bigN S13 h
        · exact x_vret C rfl rfl eX23_runMain_59 h
      · refine x_tload_n C eX23_runMain_35 rfl 0 rfl ?_
        refine x_mV (k9 := 67) C (by decide) ww_777 eX23_runMain_36 rfl ?_
        refine x_iload_n C eX23_runMain_39 rfl 1 rfl ?_
        refine x_iconst (v := 0) C eX23_runMain_40 (by decide) ?_
        refine x_wZ (r := 67) C (by decide) rfl eX23_runMain_41 h (fun S14 h => ?_)
        refine x_iinc (j := 1) (v := 1) (lv2 := [(0, .ref m9)]) C eX23_runMain_42 rfl (by decide) (by decide) rfl (oky rfl ok0) ?_
        refine x_goto (tgt := 27) C eX23_runMain_45 (by decide) ?_
        refine x_sub [1, 0] rfl ?_
        exact ih_27 S14 (x1 + 1) h
  unfold f_runMain at h
  refine x_tload_n C eX23_runMain_0 rfl 0 rfl ?_
  refine x_iconst (v := 0) C eX23_runMain_1 (by decide) ?_
  refine x_pM (k9 := 64) C (by decide) rfl (by decide) ww_740 rfl (by decide +kernel) eX23_runMain_2 h (fun S1 h => ?_)
  refine x_tload_n C eX23_runMain_5 rfl 0 rfl ?_
  refine x_iconst (v := 0) C eX23_runMain_6 (by decide) ?_
  refine x_pM (k9 := 65) C (by decide) rfl (by decide) ww_738 rfl (by decide +kernel) eX23_runMain_7 h (fun S2 h => ?_)
  refine x_tload_n C eX23_runMain_10 rfl 0 rfl ?_
  refine x_iconst (v := 0) C eX23_runMain_11 (by decide) ?_
  refine x_pM (k9 := 73) C (by decide) rfl (by decide) ww_852 rfl (by decide +kernel) eX23_runMain_12 h (fun S3 h => ?_)
  refine x_tload_n C eX23_runMain_15 rfl 0 rfl ?_
  refine x_iconst (v := 0) C eX23_runMain_16 (by decide) ?_
  refine x_pM (k9 := 81) C (by decide) rfl (by decide) ww_802 rfl (by decide +kernel) eX23_runMain_17 h (fun S4 h => ?_)
  refine x_tload_n C eX23_runMain_20 rfl 0 rfl ?_
  refine x_iconst (v := 0) C eX23_runMain_21 (by decide) ?_
  refine x_pM (k9 := 76) C (by decide) rfl (by decide) ww_855 rfl (by decide +kernel) eX23_runMain_22 h (fun S5 h => ?_)
  refine x_iconst (v := 0) C eX23_runMain_25 (by decide) ?_
  refine x_istore_n (lv2 := [(0, .ref m9)]) C eX23_runMain_26 rfl (by decide) rfl (oky rfl ok0) ?_
  refine x_sub [1, 0] rfl ?_
  exact j_27 bigN S5 0 h
set_option maxRecDepth 20000 in
set_option maxHeartbeats 4000000 in
theorem k_X23_feedWord (l : Launch) (D : va_G) (K : Ky) (m9 : Nat) (mr : Nat → Nat) (S0 Sf : Sg) (x1 : Int32) (rf : Unit) (h : f_feedWord K S0 x1 = some (Sf, rf)) : CT l D K m9 mr yX23_feedWord (Cond.code yX23_feedWord cX23_feedWord 3 none) (1) (20) S0 Sf [.ref m9, .int x1] none := by
  refine x_start (cc := cX23_feedWord) (lv := [(0, .ref m9), (1, .int x1)]) rfl rfl (by decide) (by simp [lv_args, cat_rf, cat_i, cat_l, cat_a]) (by simp [lg_sl, cat_rf, cat_i, cat_l, cat_a]) (fun p e R s m args below meth c Q A C => ?_)
  have j_3 : ∀ (n_3 : Nat) (S : Sg) (x1 : Int32) (x2 : Int32), f_feedWord_3 K n_3 S x1 x2 = some (Sf, rf) → WX p l e R s m args below meth c Q D A K m9 mr 3 S0 S 3 [(0, .ref m9), (1, .int x1), (2, .int x2)] [] := by
    intro n_3
    induction n_3 with
    | zero => intro S x1 x2 h; unfold f_feedWord_3 at h; cases h
    | succ n_3 ih_3 =>
      intro S x1 x2 h
      unfold f_feedWord_3 at h
      refine x_iload_n C eX23_feedWord_3 rfl 2 rfl ?_
      refine x_if_lt (tgt := 39) C eX23_feedWord_4 (by decide) h (fun h => ?_) (fun h => ?_)
      · exact x_vret C rfl rfl eX23_feedWord_39 h
      · refine x_tload_n C eX23_feedWord_7 rfl 0 rfl ?_
        refine x_mV (k9 := 0) C (by decide) ww_7 eX23_feedWord_8 rfl ?_
        refine x_tload_n C eX23_feedWord_11 rfl 0 rfl ?_
        refine x_mV (k9 := 1) C (by decide) ww_945 eX23_feedWord_12 rfl ?_
        refine x_iload_n C eX23_feedWord_15 rfl 1 rfl ?_
        refine x_iload_n C eX23_feedWord_16 rfl 2 rfl ?_
        refine x_ishr C eX23_feedWord_17 ?_
        refine x_sipush (v := 255) C eX23_feedWord_18 (by decide) ?_
        refine x_iand C eX23_feedWord_21 ?_
        refine x_wI (r := 0) C (by decide) rfl eX23_feedWord_22 h (fun S1 h => ?_)
        refine x_tload_n C eX23_feedWord_23 rfl 0 rfl ?_
        refine x_dup C eX23_feedWord_24 rfl ?_
        refine x_mV (k9 := 1) C (by decide) ww_945 eX23_feedWord_25 rfl ?_
        refine x_iconst (v := 1) C eX23_feedWord_28 (by decide) ?_
        refine x_iadd C eX23_feedWord_29 ?_
        refine x_pM (k9 := 1) C (by decide) rfl (by decide) ww_945 rfl (by decide +kernel) eX23_feedWord_30 h (fun S2 h => ?_)
        refine x_iinc (j := 2) (v := (-8)) (lv2 := [(0, .ref m9), (1, .int x1)]) C eX23_feedWord_33 rfl (by decide) (by decide) rfl (oky rfl (oky rfl ok0)) ?_
        refine x_goto (tgt := 3) C eX23_feedWord_36 (by decide) ?_
        refine x_sub [1, 2, 0] rfl ?_
        exact ih_3 S2 x1 (x2 + (-8)) h
  unfold f_feedWord at h
  refine x_bipush (v := 24) C eX23_feedWord_0 (by decide) ?_
  refine x_istore_n (lv2 := [(0, .ref m9), (1, .int x1)]) C eX23_feedWord_2 rfl (by decide) rfl (oky rfl (oky rfl ok0)) ?_
  refine x_sub [1, 2, 0] rfl ?_
  exact j_3 bigN S0 x1 24 h
set_option maxRecDepth 20000 in
set_option maxHeartbeats 4000000 in
theorem k_X23_feed (l : Launch) (D : va_G) (K : Ky) (m9 : Nat) (mr : Nat → Nat) (S0 Sf : Sg) (x1 : Int32) (x2 : Int32) (x3 : Int32) (x4 : Int32) (x5 : Int32) (rf : Int32) (h : f_feed K S0 x1 x2 x3 x4 x5 = some (Sf, rf)) : CT l D K m9 mr yX23_feed (Cond.code yX23_feed cX23_feed 6 (some .boolean)) (2) (42) S0 Sf [.ref m9, .int x1, .int x2, .int x3, .int x4, .int x5] (some (.int rf)) := by
  refine x_start (cc := cX23_feed) (lv := [(0, .ref m9), (1, .int x1), (2, .int x2), (3, .int x3), (4, .int x4), (5, .int x5)]) rfl rfl (by decide) (by simp [lv_args, cat_rf, cat_i, cat_l, cat_a]) (by simp [lg_sl, cat_rf, cat_i, cat_l, cat_a]) (fun p e R s m args below meth c Q A C => ?_)
  unfold f_feed at h
  refine x_tload_n C eX23_feed_0 rfl 0 rfl ?_
  refine x_mV (k9 := 1) C (by decide) ww_945 eX23_feed_1 rfl ?_
  refine x_bipush (v := 20) C eX23_feed_4 (by decide) ?_
  refine x_iadd C eX23_feed_6 ?_
  refine x_sipush (v := 3000) C eX23_feed_7 (by decide) ?_
  refine x_ic_le (tgt := 15) C eX23_feed_10 (by decide) h (fun h => ?_) (fun h => ?_)
  · refine x_tload_n C eX23_feed_15 rfl 0 rfl ?_
    refine x_iload_n C eX23_feed_16 rfl 1 rfl ?_
    refine x_cVv (As := [.int x1]) (st := []) (n := 1) (frc := 1) (loc := 20) C h (fun S9 r9 e9 => k_X23_feedWord l D K m9 mr _ S9 x1 r9 e9) ww_944 ww_947 ww_948 ww_949 ww_16 (by decide +kernel) rfl ⟨by omega, by omega⟩ (Nat.le_of_ble_eq_true rfl) eX23_feed_17 (fun S1 v2 h => ?_)
    refine x_tload_n C eX23_feed_20 rfl 0 rfl ?_
    refine x_iload_n C eX23_feed_21 rfl 2 rfl ?_
    refine x_cVv (As := [.int x2]) (st := []) (n := 1) (frc := 1) (loc := 20) C h (fun S9 r9 e9 => k_X23_feedWord l D K m9 mr _ S9 x2 r9 e9) ww_944 ww_947 ww_948 ww_949 ww_16 (by decide +kernel) rfl ⟨by omega, by omega⟩ (Nat.le_of_ble_eq_true rfl) eX23_feed_22 (fun S3 v4 h => ?_)
    refine x_tload_n C eX23_feed_25 rfl 0 rfl ?_
    refine x_iload_n C eX23_feed_26 rfl 3 rfl ?_
    refine x_cVv (As := [.int x3]) (st := []) (n := 1) (frc := 1) (loc := 20) C h (fun S9 r9 e9 => k_X23_feedWord l D K m9 mr _ S9 x3 r9 e9) ww_944 ww_947 ww_948 ww_949 ww_16 (by decide +kernel) rfl ⟨by omega, by omega⟩ (Nat.le_of_ble_eq_true rfl) eX23_feed_27 (fun S5 v6 h => ?_)
    refine x_tload_n C eX23_feed_30 rfl 0 rfl ?_
    refine x_iload C eX23_feed_31 4 rfl ?_
    refine x_cVv (As := [.int x4]) (st := []) (n := 1) (frc := 1) (loc := 20) C h (fun S9 r9 e9 => k_X23_feedWord l D K m9 mr _ S9 x4 r9 e9) ww_944 ww_947 ww_948 ww_949 ww_16 (by decide +kernel) rfl ⟨by omega, by omega⟩ (Nat.le_of_ble_eq_true rfl) eX23_feed_33 (fun S7 v8 h => ?_)
    refine x_tload_n C eX23_feed_36 rfl 0 rfl ?_
    refine x_iload C eX23_feed_37 5 rfl ?_
    refine x_cVv (As := [.int x5]) (st := []) (n := 1) (frc := 1) (loc := 20) C h (fun S9 r9 e9 => k_X23_feedWord l D K m9 mr _ S9 x5 r9 e9) ww_944 ww_947 ww_948 ww_949 ww_16 (by decide +kernel) rfl ⟨by omega, by omega⟩ (Nat.le_of_ble_eq_true rfl) eX23_feed_39 (fun S9 v10 h => ?_)
    refine x_iconst (v := 1) C eX23_feed_42 (by decide) ?_
    exact x_zret C rfl rfl eX23_feed_43 h
  · refine x_iconst (v := 0) C eX23_feed_13 (by decide) ?_
    exact x_zret C rfl rfl eX23_feed_14 h
set_option maxRecDepth 20000 in
set_option maxHeartbeats 4000000 in
theorem k_X23_input (l : Launch) (D : va_G) (K : Ky) (m9 : Nat) (mr : Nat → Nat) (S0 Sf : Sg) (x1 : Int64) (rf : Int32) (h : f_input K S0 x1 = some (Sf, rf)) : CT l D K m9 mr yX23_input (Cond.code yX23_input cX23_input 3 (some .boolean)) (1) (20) S0 Sf [.ref m9, .long x1] (some (.int rf)) := by
  refine x_start (cc := cX23_input) (lv := [(0, .ref m9), (1, .long x1)]) rfl rfl (by decide) (by simp [lv_args, cat_rf, cat_i, cat_l, cat_a]) (by simp [lg_sl, cat_rf, cat_i, cat_l, cat_a]) (fun p e R s m args below meth c Q A C => ?_)
  unfold f_input at h
  refine x_tload_n C eX23_input_0 rfl 0 rfl ?_
  refine x_mV (k9 := 86) C (by decide) ww_892 eX23_input_1 rfl ?_
  refine x_bipush (v := 60) C eX23_input_4 (by decide) ?_
  refine x_ic_ne (tgt := 11) C eX23_input_6 (by decide) h (fun h => ?_) (fun h => ?_)
  · refine x_tload_n C eX23_input_11 rfl 0 rfl ?_
    refine x_mV (k9 := 85) C (by decide) ww_893 eX23_input_12 rfl ?_
    refine x_tload_n C eX23_input_15 rfl 0 rfl ?_
    refine x_mV (k9 := 86) C (by decide) ww_892 eX23_input_16 rfl ?_
    refine x_lload_n C eX23_input_19 rfl 1 rfl ?_
    refine x_wJ (r := 85) C (by decide) rfl eX23_input_20 h (fun S1 h => ?_)
    refine x_tload_n C eX23_input_21 rfl 0 rfl ?_
    refine x_dup C eX23_input_22 rfl ?_
    refine x_mV (k9 := 86) C (by decide) ww_892 eX23_input_23 rfl ?_
    refine x_iconst (v := 1) C eX23_input_26 (by decide) ?_
    refine x_iadd C eX23_input_27 ?_
    refine x_pM (k9 := 86) C (by decide) rfl (by decide) ww_892 rfl (by decide +kernel) eX23_input_28 h (fun S2 h => ?_)
    refine x_iconst (v := 1) C eX23_input_31 (by decide) ?_
    exact x_zret C rfl rfl eX23_input_32 h
  · refine x_iconst (v := 0) C eX23_input_9 (by decide) ?_
    exact x_zret C rfl rfl eX23_input_10 h
set_option maxRecDepth 20000 in
set_option maxHeartbeats 4000000 in
theorem k_X23_place_ (l : Launch) (D : va_G) (K : Ky) (m9 : Nat) (mr : Nat → Nat) (S0 Sf : Sg) (rf : Int32) (h : f_place_ K S0 = some (Sf, rf)) : CT l D K m9 mr yX23_place_ (Cond.code yX23_place_ cX23_place_ 1 (some .int)) (1) (20) S0 Sf [.ref m9] (some (.int rf)) := by
  refine x_start (cc := cX23_place_) (lv := [(0, .ref m9)]) rfl rfl (by decide) (by simp [lv_args, cat_rf, cat_i, cat_l, cat_a]) (by simp [lg_sl, cat_rf, cat_i, cat_l, cat_a]) (fun p e R s m args below meth c Q A C => ?_)
  unfold f_place_ at h
  refine x_tload_n C eX23_place__0 rfl 0 rfl ?_
  refine x_mV (k9 := 88) C (by decide) ww_952 eX23_place__1 rfl ?_
  exact x_iret C rfl rfl eX23_place__4 h
set_option maxRecDepth 20000 in
set_option maxHeartbeats 4000000 in
theorem k_X23_fetch (l : Launch) (D : va_G) (K : Ky) (m9 : Nat) (mr : Nat → Nat) (S0 Sf : Sg) (rf : Int64) (h : f_fetch K S0 = some (Sf, rf)) : CT l D K m9 mr yX23_fetch (Cond.code yX23_fetch cX23_fetch 5 (some .long)) (1) (20) S0 Sf [.ref m9] (some (.long rf)) := by
  refine x_start (cc := cX23_fetch) (lv := [(0, .ref m9)]) rfl rfl (by decide) (by simp [lv_args, cat_rf, cat_i, cat_l, cat_a]) (by simp [lg_sl, cat_rf, cat_i, cat_l, cat_a]) (fun p e R s m args below meth c Q A C => ?_)
  have j_25 : ∀ (n_25 : Nat) (S : Sg) (x1 : Int32) (x2 : Int64) (x4 : Int32), f_fetch_25 K n_25 S x1 x2 x4 = some (Sf, rf) → WX p l e R s m args below meth c Q D A K m9 mr 5 S0 S 25 [(0, .ref m9), (1, .int x1), (2, .long x2), (4, .int x4)] [] := by
    intro n_25
    induction n_25 with
    | zero => intro S x1 x2 x4 h; unfold f_fetch_25 at h; cases h
    | succ n_25 ih_25 =>
      intro S x1 x2 x4 h
      have j_78 : ∀ (S : Sg) (x1 : Int32) (x2 : Int64) (x4 : Int32), f_fetch_78 K (f_fetch_25 K n_25) S x1 x2 x4 = some (Sf, rf) → WX p l e R s m args below meth c Q D A K m9 mr 5 S0 S 78 [(0, .ref m9), (1, .int x1), (2, .long x2), (4, .int x4)] [] := by
        intro S x1 x2 x4 h
        unfold f_fetch_78 at h
        refine x_iinc (j := 3) (v := 1) (lv2 := [(0, .ref m9), (1, .int x1), (2, .long x2)]) C eX23_fetch_78 rfl (by decide) (by decide) rfl (oky rfl (oky rfl (okn (Nat.ne_of_beq_eq_false rfl) ok0))) ?_
        refine x_goto (tgt := 25) C eX23_fetch_81 (by decide) ?_
        refine x_sub [1, 2, 3, 0] rfl ?_
        exact ih_25 S x1 x2 (x4 + 1) h
      have j_55 : ∀ (S : Sg) (x1 : Int32) (x4 : Int32) (y0 : Int32) (y1 : Int64), f_fetch_55 K (f_fetch_25 K n_25) S x1 x4 y0 y1 = some (Sf, rf) → WX p l e R s m args below meth c Q D A K m9 mr 5 S0 S 55 [(0, .ref m9), (1, .int x1), (4, .int x4)] [.int y0, .long y1] := by
        intro S x1 x4 y0 y1 h
        unfold f_fetch_55 at h
        refine x_i2l C eX23_fetch_55 ?_
        refine x_lor C eX23_fetch_56 ?_
        refine x_lstore_n (lv2 := [(0, .ref m9), (1, .int x1), (4, .int x4)]) C eX23_fetch_57 rfl (by decide) rfl (oky rfl (oky rfl (oky rfl ok0))) ?_
        refine x_iload C eX23_fetch_58 3 rfl ?_
        refine x_iload_n C eX23_fetch_60 rfl 2 rfl ?_
        refine x_ic_ge (tgt := 78) C eX23_fetch_61 (by decide) h (fun h => ?_) (fun h => ?_)
        · refine x_sub [1, 2, 0, 3] rfl ?_
          exact j_78 S x1 (y1 ||| (Int32.toInt64 y0)) x4 h
        · refine x_tload_n C eX23_fetch_64 rfl 1 rfl ?_
          refine x_tload_n C eX23_fetch_65 rfl 1 rfl ?_
          refine x_mV (k9 := 83) C (by decide) ww_842 eX23_fetch_66 rfl ?_
          refine x_iconst (v := 1) C eX23_fetch_69 (by decide) ?_
          refine x_iadd C eX23_fetch_70 ?_
          refine x_sipush (v := 4000) C eX23_fetch_71 (by decide) ?_
          refine x_irem C eX23_fetch_74 h (fun h => ?_)
          refine x_pM (k9 := 83) C (by decide) rfl (by decide) ww_842 rfl (by decide +kernel) eX23_fetch_75 h (fun S3 h => ?_)
          refine x_sub [1, 2, 0, 3] rfl ?_
          exact j_78 S3 x1 (y1 ||| (Int32.toInt64 y0)) x4 h
      unfold f_fetch_25 at h
      refine x_iload C eX23_fetch_25 3 rfl ?_
      refine x_bipush (v := 7) C eX23_fetch_27 (by decide) ?_
      refine x_ic_ge (tgt := 84) C eX23_fetch_29 (by decide) h (fun h => ?_) (fun h => ?_)
      · refine x_tload_n C eX23_fetch_84 rfl 0 rfl ?_
        refine x_dup C eX23_fetch_85 rfl ?_
        refine x_mV (k9 := 84) C (by decide) ww_840 eX23_fetch_86 rfl ?_
        refine x_iload_n C eX23_fetch_89 rfl 1 rfl ?_
        refine x_isub C eX23_fetch_90 ?_
        refine x_pM (k9 := 84) C (by decide) rfl (by decide) ww_840 rfl (by decide +kernel) eX23_fetch_91 h (fun S1 h => ?_)
        refine x_lload_n C eX23_fetch_94 rfl 2 rfl ?_
        exact x_lret C rfl rfl eX23_fetch_95 h
      · refine x_lload_n C eX23_fetch_32 rfl 2 rfl ?_
        refine x_bipush (v := 8) C eX23_fetch_33 (by decide) ?_
        refine x_lshl C eX23_fetch_35 ?_
        refine x_iload C eX23_fetch_36 3 rfl ?_
        refine x_iload_n C eX23_fetch_38 rfl 1 rfl ?_
        refine x_ic_ge (tgt := 54) C eX23_fetch_39 (by decide) h (fun h => ?_) (fun h => ?_)
        · refine x_iconst (v := 0) C eX23_fetch_54 (by decide) ?_
          refine x_sub [0, 1, 3] rfl ?_
          exact j_55 S x1 x4 0 (x2 <<< (Int32.toInt64 8 &&& 63)) h
        · refine x_tload_n C eX23_fetch_42 rfl 0 rfl ?_
          refine x_mV (k9 := 82) C (by decide) ww_841 eX23_fetch_43 rfl ?_
          refine x_tload_n C eX23_fetch_46 rfl 0 rfl ?_
          refine x_mV (k9 := 83) C (by decide) ww_842 eX23_fetch_47 rfl ?_
          refine x_rI (r := 82) C (by decide) rfl eX23_fetch_50 h (fun v2 h => ?_)
          refine x_goto (tgt := 55) C eX23_fetch_51 (by decide) ?_
          refine x_sub [0, 1, 3] rfl ?_
          exact j_55 S x1 x4 v2 (x2 <<< (Int32.toInt64 8 &&& 63)) h
  have j_18 : ∀ (S : Sg) (y0 : Int32), f_fetch_18 K S y0 = some (Sf, rf) → WX p l e R s m args below meth c Q D A K m9 mr 5 S0 S 18 [(0, .ref m9)] [.int y0] := by
    intro S y0 h
    unfold f_fetch_18 at h
    refine x_istore_n (lv2 := [(0, .ref m9)]) C eX23_fetch_18 rfl (by decide) rfl (oky rfl ok0) ?_
    refine x_iload_n C eX23_fetch_19 rfl 0 rfl ?_
    refine x_i2l C eX23_fetch_20 ?_
    refine x_lstore_n (lv2 := [(1, .int y0), (0, .ref m9)]) C eX23_fetch_21 rfl (by decide) rfl (oky rfl (oky rfl ok0)) ?_
    refine x_iconst (v := 0) C eX23_fetch_22 (by decide) ?_
    refine x_istore (lv2 := [(2, .long (Int32.toInt64 y0)), (1, .int y0), (0, .ref m9)]) C eX23_fetch_23 (by decide) rfl (okn (Nat.ne_of_beq_eq_false rfl) (oky rfl (oky rfl ok0))) ?_
    refine x_sub [3, 2, 1, 0] rfl ?_
    exact j_25 bigN S y0 (Int32.toInt64 y0) 0 h
  unfold f_fetch at h
  refine x_tload_n C eX23_fetch_0 rfl 0 rfl ?_
  refine x_mV (k9 := 84) C (by decide) ww_840 eX23_fetch_1 rfl ?_
  refine x_bipush (v := 7) C eX23_fetch_4 (by decide) ?_
  refine x_ic_ge (tgt := 16) C eX23_fetch_6 (by decide) h (fun h => ?_) (fun h => ?_)
  · refine x_bipush (v := 7) C eX23_fetch_16 (by decide) ?_
    refine x_sub [0] rfl ?_
    exact j_18 S0 7 h
  · refine x_tload_n C eX23_fetch_9 rfl 0 rfl ?_
    refine x_mV (k9 := 84) C (by decide) ww_840 eX23_fetch_10 rfl ?_
    refine x_goto (tgt := 18) C eX23_fetch_13 (by decide) ?_
    refine x_sub [0] rfl ?_
    exact j_18 S0 (Zi S0 84) h
