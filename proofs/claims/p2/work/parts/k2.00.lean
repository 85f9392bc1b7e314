set_option maxRecDepth 20000 in
set_option maxHeartbeats 4000000 in
theorem k_X23_ok (l : Launch) (D : va_G) (K : Ky) (m9 : Nat) (mr : Nat → Nat) (S0 Sf : Sg) (rf : Int32) (h : f_ok K S0 = some (Sf, rf)) : CT l D K m9 mr yX23_ok (Cond.code yX23_ok cX23_ok 1 (some .boolean)) (1) (20) S0 Sf [.ref m9] (some (.int rf)) := by
  refine x_start (cc := cX23_ok) (lv := [(0, .ref m9)]) rfl rfl (by decide) (by simp [lv_args, cat_rf, cat_i, cat_l, cat_a]) (by simp [lg_sl, cat_rf, cat_i, cat_l, cat_a]) (fun p e R s m args below meth c Q A C => ?_)
  have j_12 : ∀ (S : Sg) (y0 : Int32), f_ok_12 K S y0 = some (Sf, rf) → WX p l e R s m args below meth c Q D A K m9 mr 1 S0 S 12 [] [.int y0] := by
    intro S y0 h
    unfold f_ok_12 at h
    exact x_zret C rfl rfl eX23_ok_12 h
  unfold f_ok at h
  refine x_tload_n C eX23_ok_0 rfl 0 rfl ?_
  refine x_mV (k9 := 3) C (by decide) ww_1 eX23_ok_1 rfl ?_
  refine x_if_ne (tgt := 11) C eX23_ok_4 (by decide) h (fun h => ?_) (fun h => ?_)
  · refine x_iconst (v := 0) C eX23_ok_11 (by decide) ?_
    refine x_sub [] rfl ?_
    exact j_12 S0 0 h
  · refine x_iconst (v := 1) C eX23_ok_7 (by decide) ?_
    refine x_goto (tgt := 12) C eX23_ok_8 (by decide) ?_
    refine x_sub [] rfl ?_
    exact j_12 S0 1 h
set_option maxRecDepth 20000 in
set_option maxHeartbeats 4000000 in
theorem k_X23_fail (l : Launch) (D : va_G) (K : Ky) (m9 : Nat) (mr : Nat → Nat) (S0 Sf : Sg) (x1 : Int32) (x2 : Int32) (rf : Unit) (h : f_fail K S0 x1 x2 = some (Sf, rf)) : CT l D K m9 mr yX23_fail (Cond.code yX23_fail cX23_fail 3 none) (1) (20) S0 Sf [.ref m9, .int x1, .int x2] none := by
  refine x_start (cc := cX23_fail) (lv := [(0, .ref m9), (1, .int x1), (2, .int x2)]) rfl rfl (by decide) (by simp [lv_args, cat_rf, cat_i, cat_l, cat_a]) (by simp [lg_sl, cat_rf, cat_i, cat_l, cat_a]) (fun p e R s m args below meth c Q A C => ?_)
  unfold f_fail at h
  refine x_tload_n C eX23_fail_0 rfl 0 rfl ?_
  refine x_mV (k9 := 3) C (by decide) ww_1 eX23_fail_1 rfl ?_
  refine x_if_eq (tgt := 8) C eX23_fail_4 (by decide) h (fun h => ?_) (fun h => ?_)
  · refine x_tload_n C eX23_fail_8 rfl 0 rfl ?_
    refine x_iload_n C eX23_fail_9 rfl 1 rfl ?_
    refine x_pM (k9 := 3) C (by decide) rfl (by decide) ww_1 rfl (by decide +kernel) eX23_fail_10 h (fun S1 h => ?_)
    refine x_tload_n C eX23_fail_13 rfl 0 rfl ?_
    refine x_tload_n C eX23_fail_14 rfl 0 rfl ?_
    refine x_mV (k9 := 6) C (by decide) ww_3 eX23_fail_15 rfl ?_
    refine x_iload_n C eX23_fail_18 rfl 2 rfl ?_
    refine x_rI (r := 6) C (by decide) rfl eX23_fail_19 h (fun v2 h => ?_)
    refine x_pM (k9 := 4) C (by decide) rfl (by decide) ww_4 rfl (by decide +kernel) eX23_fail_20 h (fun S3 h => ?_)
    exact x_vret C rfl rfl eX23_fail_23 h
  · exact x_vret C rfl rfl eX23_fail_7 h
set_option maxRecDepth 20000 in
set_option maxHeartbeats 4000000 in
theorem k_X23_sameName (l : Launch) (D : va_G) (K : Ky) (m9 : Nat) (mr : Nat → Nat) (S0 Sf : Sg) (x1 : Int32) (x2 : Int32) (rf : Int32) (h : f_sameName K S0 x1 x2 = some (Sf, rf)) : CT l D K m9 mr yX23_sameName (Cond.code yX23_sameName cX23_sameName 5 (some .boolean)) (1) (20) S0 Sf [.ref m9, .int x1, .int x2] (some (.int rf)) := by
  refine x_start (cc := cX23_sameName) (lv := [(0, .ref m9), (1, .int x1), (2, .int x2)]) rfl rfl (by decide) (by simp [lv_args, cat_rf, cat_i, cat_l, cat_a]) (by simp [lg_sl, cat_rf, cat_i, cat_l, cat_a]) (fun p e R s m args below meth c Q A C => ?_)
  have j_36 : ∀ (n_36 : Nat) (S : Sg) (x1 : Int32) (x2 : Int32) (x3 : Int32) (x4 : Int32), f_sameName_36 K n_36 S x1 x2 x3 x4 = some (Sf, rf) → WX p l e R s m args below meth c Q D A K m9 mr 5 S0 S 36 [(0, .ref m9), (1, .int x1), (2, .int x2), (3, .int x3), (4, .int x4)] [] := by
    intro n_36
    induction n_36 with
    | zero => intro S x1 x2 x3 x4 h; unfold f_sameName_36 at h; cases h
    | succ n_36 ih_36 =>
      intro S x1 x2 x3 x4 h
      unfold f_sameName_36 at h
      refine x_iload C eX23_sameName_36 4 rfl ?_
      refine x_iload_n C eX23_sameName_38 rfl 3 rfl ?_
      refine x_ic_ge (tgt := 81) C eX23_sameName_39 (by decide) h (fun h => ?_) (fun h => ?_)
      · refine x_iconst (v := 1) C eX23_sameName_81 (by decide) ?_
        exact x_zret C rfl rfl eX23_sameName_82 h
      · refine x_tload_n C eX23_sameName_42 rfl 0 rfl ?_
        refine x_mV (k9 := 0) C (by decide) ww_7 eX23_sameName_43 rfl ?_
        refine x_tload_n C eX23_sameName_46 rfl 0 rfl ?_
        refine x_mV (k9 := 6) C (by decide) ww_3 eX23_sameName_47 rfl ?_
        refine x_iload_n C eX23_sameName_50 rfl 1 rfl ?_
        refine x_rI (r := 6) C (by decide) rfl eX23_sameName_51 h (fun v5 h => ?_)
        refine x_iload C eX23_sameName_52 4 rfl ?_
        refine x_iadd C eX23_sameName_54 ?_
        refine x_rI (r := 0) C (by decide) rfl eX23_sameName_55 h (fun v6 h => ?_)
        refine x_tload_n C eX23_sameName_56 rfl 0 rfl ?_
        refine x_mV (k9 := 0) C (by decide) ww_7 eX23_sameName_57 rfl ?_
        refine x_tload_n C eX23_sameName_60 rfl 0 rfl ?_
        refine x_mV (k9 := 6) C (by decide) ww_3 eX23_sameName_61 rfl ?_
        refine x_iload_n C eX23_sameName_64 rfl 2 rfl ?_
        refine x_rI (r := 6) C (by decide) rfl eX23_sameName_65 h (fun v7 h => ?_)
        refine x_iload C eX23_sameName_66 4 rfl ?_
        refine x_iadd C eX23_sameName_68 ?_
        refine x_rI (r := 0) C (by decide) rfl eX23_sameName_69 h (fun v8 h => ?_)
        refine x_ic_eq (tgt := 75) C eX23_sameName_70 (by decide) h (fun h => ?_) (fun h => ?_)
        · refine x_iinc (j := 4) (v := 1) (lv2 := [(0, .ref m9), (1, .int x1), (2, .int x2), (3, .int x3)]) C eX23_sameName_75 rfl (by decide) (by decide) rfl (oky rfl (oky rfl (oky rfl (oky rfl ok0)))) ?_
          refine x_goto (tgt := 36) C eX23_sameName_78 (by decide) ?_
          refine x_sub [1, 2, 3, 4, 0] rfl ?_
          exact ih_36 S x1 x2 x3 (x4 + 1) h
        · refine x_iconst (v := 0) C eX23_sameName_73 (by decide) ?_
          exact x_zret C rfl rfl eX23_sameName_74 h
  unfold f_sameName at h
  refine x_tload_n C eX23_sameName_0 rfl 0 rfl ?_
  refine x_mV (k9 := 7) C (by decide) ww_6 eX23_sameName_1 rfl ?_
  refine x_iload_n C eX23_sameName_4 rfl 1 rfl ?_
  refine x_rI (r := 7) C (by decide) rfl eX23_sameName_5 h (fun v1 h => ?_)
  refine x_tload_n C eX23_sameName_6 rfl 0 rfl ?_
  refine x_mV (k9 := 6) C (by decide) ww_3 eX23_sameName_7 rfl ?_
  refine x_iload_n C eX23_sameName_10 rfl 1 rfl ?_
  refine x_rI (r := 6) C (by decide) rfl eX23_sameName_11 h (fun v2 h => ?_)
  refine x_isub C eX23_sameName_12 ?_
  refine x_istore_n (lv2 := [(0, .ref m9), (1, .int x1), (2, .int x2)]) C eX23_sameName_13 rfl (by decide) rfl (oky rfl (oky rfl (oky rfl ok0))) ?_
  refine x_tload_n C eX23_sameName_14 rfl 1 rfl ?_
  refine x_mV (k9 := 7) C (by decide) ww_6 eX23_sameName_15 rfl ?_
  refine x_iload_n C eX23_sameName_18 rfl 3 rfl ?_
  refine x_rI (r := 7) C (by decide) rfl eX23_sameName_19 h (fun v3 h => ?_)
  refine x_tload_n C eX23_sameName_20 rfl 1 rfl ?_
  refine x_mV (k9 := 6) C (by decide) ww_3 eX23_sameName_21 rfl ?_
  refine x_iload_n C eX23_sameName_24 rfl 3 rfl ?_
  refine x_rI (r := 6) C (by decide) rfl eX23_sameName_25 h (fun v4 h => ?_)
  refine x_isub C eX23_sameName_26 ?_
  refine x_iload_n C eX23_sameName_27 rfl 0 rfl ?_
  refine x_ic_eq (tgt := 33) C eX23_sameName_28 (by decide) h (fun h => ?_) (fun h => ?_)
  · refine x_iconst (v := 0) C eX23_sameName_33 (by decide) ?_
    refine x_istore (lv2 := [(3, .int (v1 - v2)), (0, .ref m9), (1, .int x1), (2, .int x2)]) C eX23_sameName_34 (by decide) rfl (oky rfl (oky rfl (oky rfl (oky rfl ok0)))) ?_
    refine x_sub [2, 3, 4, 1, 0] rfl ?_
    exact j_36 bigN S0 x1 x2 (v1 - v2) 0 h
  · refine x_iconst (v := 0) C eX23_sameName_31 (by decide) ?_
    exact x_zret C rfl rfl eX23_sameName_32 h
set_option maxRecDepth 20000 in
set_option maxHeartbeats 4000000 in
theorem k_X23_isMain (l : Launch) (D : va_G) (K : Ky) (m9 : Nat) (mr : Nat → Nat) (S0 Sf : Sg) (x1 : Int32) (rf : Int32) (h : f_isMain K S0 x1 = some (Sf, rf)) : CT l D K m9 mr yX23_isMain (Cond.code yX23_isMain cX23_isMain 3 (some .boolean)) (1) (20) S0 Sf [.ref m9, .int x1] (some (.int rf)) := by
  refine x_start (cc := cX23_isMain) (lv := [(0, .ref m9), (1, .int x1)]) rfl rfl (by decide) (by simp [lv_args, cat_rf, cat_i, cat_l, cat_a]) (by simp [lg_sl, cat_rf, cat_i, cat_l, cat_a]) (fun p e R s m args below meth c Q A C => ?_)
  have j_74 : ∀ (S : Sg) (y0 : Int32), f_isMain_74 K S y0 = some (Sf, rf) → WX p l e R s m args below meth c Q D A K m9 mr 3 S0 S 74 [] [.int y0] := by
    intro S y0 h
    unfold f_isMain_74 at h
    exact x_zret C rfl rfl eX23_isMain_74 h
  have j_73 : ∀ (S : Sg), f_isMain_73 K S = some (Sf, rf) → WX p l e R s m args below meth c Q D A K m9 mr 3 S0 S 73 [] [] := by
    intro S h
    unfold f_isMain_73 at h
    refine x_iconst (v := 0) C eX23_isMain_73 (by decide) ?_
    refine x_sub [] rfl ?_
    exact j_74 S 0 h
  unfold f_isMain at h
  refine x_tload_n C eX23_isMain_0 rfl 0 rfl ?_
  refine x_mV (k9 := 6) C (by decide) ww_3 eX23_isMain_1 rfl ?_
  refine x_iload_n C eX23_isMain_4 rfl 1 rfl ?_
  refine x_rI (r := 6) C (by decide) rfl eX23_isMain_5 h (fun v1 h => ?_)
  refine x_istore_n (lv2 := [(0, .ref m9), (1, .int x1)]) C eX23_isMain_6 rfl (by decide) rfl (oky rfl (oky rfl ok0)) ?_
  refine x_tload_n C eX23_isMain_7 rfl 1 rfl ?_
  refine x_mV (k9 := 7) C (by decide) ww_6 eX23_isMain_8 rfl ?_
  refine x_iload_n C eX23_isMain_11 rfl 2 rfl ?_
  refine x_rI (r := 7) C (by decide) rfl eX23_isMain_12 h (fun v2 h => ?_)
  refine x_iload_n C eX23_isMain_13 rfl 0 rfl ?_
  refine x_isub C eX23_isMain_14 ?_
  refine x_iconst (v := 4) C eX23_isMain_15 (by decide) ?_
  refine x_ic_ne (tgt := 73) C eX23_isMain_16 (by decide) h (fun h => ?_) (fun h => ?_)
  · refine x_sub [] rfl ?_
    exact j_73 S0 h
  · refine x_tload_n C eX23_isMain_19 rfl 1 rfl ?_
    refine x_mV (k9 := 0) C (by decide) ww_7 eX23_isMain_20 rfl ?_
    refine x_iload_n C eX23_isMain_23 rfl 0 rfl ?_
    refine x_rI (r := 0) C (by decide) rfl eX23_isMain_24 h (fun v3 h => ?_)
    refine x_bipush (v := 109) C eX23_isMain_25 (by decide) ?_
    refine x_ic_ne (tgt := 73) C eX23_isMain_27 (by decide) h (fun h => ?_) (fun h => ?_)
    · refine x_sub [] rfl ?_
      exact j_73 S0 h
    · refine x_tload_n C eX23_isMain_30 rfl 1 rfl ?_
      refine x_mV (k9 := 0) C (by decide) ww_7 eX23_isMain_31 rfl ?_
      refine x_iload_n C eX23_isMain_34 rfl 0 rfl ?_
      refine x_iconst (v := 1) C eX23_isMain_35 (by decide) ?_
      refine x_iadd C eX23_isMain_36 ?_
      refine x_rI (r := 0) C (by decide) rfl eX23_isMain_37 h (fun v4 h => ?_)
      refine x_bipush (v := 97) C eX23_isMain_38 (by decide) ?_
      refine x_ic_ne (tgt := 73) C eX23_isMain_40 (by decide) h (fun h => ?_) (fun h => ?_)
      · refine x_sub [] rfl ?_
        exact j_73 S0 h
      · refine x_tload_n C eX23_isMain_43 rfl 1 rfl ?_
        refine x_mV (k9 := 0) C (by decide) ww_7 eX23_isMain_44 rfl ?_
        refine x_iload_n C eX23_isMain_47 rfl 0 rfl ?_
        refine x_iconst (v := 2) C eX23_isMain_48 (by decide) ?_
        refine x_iadd C eX23_isMain_49 ?_
        refine x_rI (r := 0) C (by decide) rfl eX23_isMain_50 h (fun v5 h => ?_)
        refine x_bipush (v := 105) C eX23_isMain_51 (by decide) ?_
        refine x_ic_ne (tgt := 73) C eX23_isMain_53 (by decide) h (fun h => ?_) (fun h => ?_)
        · refine x_sub [] rfl ?_
          exact j_73 S0 h
        · refine x_tload_n C eX23_isMain_56 rfl 1 rfl ?_
          refine x_mV (k9 := 0) C (by decide) ww_7 eX23_isMain_57 rfl ?_
          refine x_iload_n C eX23_isMain_60 rfl 0 rfl ?_
          refine x_iconst (v := 3) C eX23_isMain_61 (by decide) ?_
          refine x_iadd C eX23_isMain_62 ?_
          refine x_rI (r := 0) C (by decide) rfl eX23_isMain_63 h (fun v6 h => ?_)
          refine x_bipush (v := 110) C eX23_isMain_64 (by decide) ?_
          refine x_ic_ne (tgt := 73) C eX23_isMain_66 (by decide) h (fun h => ?_) (fun h => ?_)
          · refine x_sub [] rfl ?_
            exact j_73 S0 h
          · refine x_iconst (v := 1) C eX23_isMain_69 (by decide) ?_
            refine x_goto (tgt := 74) C eX23_isMain_70 (by decide) ?_
            refine x_sub [] rfl ?_
            exact j_74 S0 1 h
set_option maxRecDepth 20000 in
set_option maxHeartbeats 4000000 in
theorem k_X23_is (l : Launch) (D : va_G) (K : Ky) (m9 : Nat) (mr : Nat → Nat) (S0 Sf : Sg) (x1 : Int32) (rf : Int32) (h : f_is K S0 x1 = some (Sf, rf)) : CT l D K m9 mr yX23_is (Cond.code yX23_is cX23_is 2 (some .boolean)) (1) (20) S0 Sf [.ref m9, .int x1] (some (.int rf)) := by
  refine x_start (cc := cX23_is) (lv := [(0, .ref m9), (1, .int x1)]) rfl rfl (by decide) (by simp [lv_args, cat_rf, cat_i, cat_l, cat_a]) (by simp [lg_sl, cat_rf, cat_i, cat_l, cat_a]) (fun p e R s m args below meth c Q A C => ?_)
  have j_18 : ∀ (S : Sg) (y0 : Int32), f_is_18 K S y0 = some (Sf, rf) → WX p l e R s m args below meth c Q D A K m9 mr 2 S0 S 18 [] [.int y0] := by
    intro S y0 h
    unfold f_is_18 at h
    exact x_zret C rfl rfl eX23_is_18 h
  unfold f_is at h
  refine x_tload_n C eX23_is_0 rfl 0 rfl ?_
  refine x_mV (k9 := 5) C (by decide) ww_10 eX23_is_1 rfl ?_
  refine x_tload_n C eX23_is_4 rfl 0 rfl ?_
  refine x_mV (k9 := 10) C (by decide) ww_11 eX23_is_5 rfl ?_
  refine x_rI (r := 5) C (by decide) rfl eX23_is_8 h (fun v1 h => ?_)
  refine x_iload_n C eX23_is_9 rfl 1 rfl ?_
  refine x_ic_ne (tgt := 17) C eX23_is_10 (by decide) h (fun h => ?_) (fun h => ?_)
  · refine x_iconst (v := 0) C eX23_is_17 (by decide) ?_
    refine x_sub [] rfl ?_
    exact j_18 S0 0 h
  · refine x_iconst (v := 1) C eX23_is_13 (by decide) ?_
    refine x_goto (tgt := 18) C eX23_is_14 (by decide) ?_
    refine x_sub [] rfl ?_
    exact j_18 S0 1 h
set_option maxRecDepth 20000 in
set_option maxHeartbeats 4000000 in
theorem k_X23_take (l : Launch) (D : va_G) (K : Ky) (m9 : Nat) (mr : Nat → Nat) (S0 Sf : Sg) (x1 : Int32) (rf : Unit) (h : f_take K S0 x1 = some (Sf, rf)) : CT l D K m9 mr yX23_take (Cond.code yX23_take cX23_take 2 none) (2) (42) S0 Sf [.ref m9, .int x1] none := by
  refine x_start (cc := cX23_take) (lv := [(0, .ref m9), (1, .int x1)]) rfl rfl (by decide) (by simp [lv_args, cat_rf, cat_i, cat_l, cat_a]) (by simp [lg_sl, cat_rf, cat_i, cat_l, cat_a]) (fun p e R s m args below meth c Q A C => ?_)
  have j_38 : ∀ (S : Sg), f_take_38 K S = some (Sf, rf) → WX p l e R s m args below meth c Q D A K m9 mr 2 S0 S 38 [] [] := by
    intro S h
    unfold f_take_38 at h
    exact x_vret C rfl rfl eX23_take_38 h
  unfold f_take at h
  refine x_tload_n C eX23_take_0 rfl 0 rfl ?_
  refine x_cVi (As := []) (st := []) (n := 0) (frc := 1) (loc := 20) C h (fun S9 r9 e9 => k_X23_ok l D K m9 mr _ S9 r9 e9) ww_0 ww_13 ww_14 ww_15 ww_16 (by decide +kernel) rfl ⟨by omega, by omega⟩ (Nat.le_of_ble_eq_true rfl) eX23_take_1 (fun S1 v2 h => ?_)
  refine x_if_ne (tgt := 8) C eX23_take_4 (by decide) h (fun h => ?_) (fun h => ?_)
  · refine x_tload_n C eX23_take_8 rfl 0 rfl ?_
    refine x_iload_n C eX23_take_9 rfl 1 rfl ?_
    refine x_cVi (As := [.int x1]) (st := []) (n := 1) (frc := 1) (loc := 20) C h (fun S9 r9 e9 => k_X23_is l D K m9 mr _ S9 x1 r9 e9) ww_9 ww_17 ww_18 ww_19 ww_16 (by decide +kernel) rfl ⟨by omega, by omega⟩ (Nat.le_of_ble_eq_true rfl) eX23_take_10 (fun S3 v4 h => ?_)
    refine x_if_eq (tgt := 29) C eX23_take_13 (by decide) h (fun h => ?_) (fun h => ?_)
    · refine x_tload_n C eX23_take_29 rfl 0 rfl ?_
      refine x_iconst (v := 1) C eX23_take_30 (by decide) ?_
      refine x_tload_n C eX23_take_31 rfl 0 rfl ?_
      refine x_mV (k9 := 10) C (by decide) ww_11 eX23_take_32 rfl ?_
      refine x_cVv (As := [.int 1, .int (Zi S3 10)]) (st := []) (n := 2) (frc := 1) (loc := 20) C h (fun S9 r9 e9 => k_X23_fail l D K m9 mr _ S9 1 (Zi S3 10) r9 e9) ww_2 ww_20 ww_21 ww_22 ww_16 (by decide +kernel) rfl ⟨by omega, by omega⟩ (Nat.le_of_ble_eq_true rfl) eX23_take_35 (fun S5 v6 h => ?_)
      refine x_sub [] rfl ?_
      exact j_38 S5 h
    · refine x_tload_n C eX23_take_16 rfl 0 rfl ?_
      refine x_dup C eX23_take_17 rfl ?_
      refine x_mV (k9 := 10) C (by decide) ww_11 eX23_take_18 rfl ?_
      refine x_iconst (v := 1) C eX23_take_21 (by decide) ?_
      refine x_iadd C eX23_take_22 ?_
      refine x_pM (k9 := 10) C (by decide) rfl (by decide) ww_11 rfl (by decide +kernel) eX23_take_23 h (fun S7 h => ?_)
      refine x_goto (tgt := 38) C eX23_take_26 (by decide) ?_
      refine x_sub [] rfl ?_
      exact j_38 S7 h
  · exact x_vret C rfl rfl eX23_take_7 h
set_option maxRecDepth 20000 in
set_option maxHeartbeats 4000000 in
theorem k_X23_takes (l : Launch) (D : va_G) (K : Ky) (m9 : Nat) (mr : Nat → Nat) (S0 Sf : Sg) (x1 : Int32) (rf : Int32) (h : f_takes K S0 x1 = some (Sf, rf)) : CT l D K m9 mr yX23_takes (Cond.code yX23_takes cX23_takes 2 (some .boolean)) (2) (41) S0 Sf [.ref m9, .int x1] (some (.int rf)) := by
  refine x_start (cc := cX23_takes) (lv := [(0, .ref m9), (1, .int x1)]) rfl rfl (by decide) (by simp [lv_args, cat_rf, cat_i, cat_l, cat_a]) (by simp [lg_sl, cat_rf, cat_i, cat_l, cat_a]) (fun p e R s m args below meth c Q A C => ?_)
  have j_15 : ∀ (S : Sg), f_takes_15 K S = some (Sf, rf) → WX p l e R s m args below meth c Q D A K m9 mr 2 S0 S 15 [] [] := by
    intro S h
    unfold f_takes_15 at h
    refine x_iconst (v := 0) C eX23_takes_15 (by decide) ?_
    exact x_zret C rfl rfl eX23_takes_16 h
  unfold f_takes at h
  refine x_tload_n C eX23_takes_0 rfl 0 rfl ?_
  refine x_cVi (As := []) (st := []) (n := 0) (frc := 1) (loc := 20) C h (fun S9 r9 e9 => k_X23_ok l D K m9 mr _ S9 r9 e9) ww_0 ww_13 ww_14 ww_15 ww_16 (by decide +kernel) rfl ⟨by omega, by omega⟩ (Nat.le_of_ble_eq_true rfl) eX23_takes_1 (fun S1 v2 h => ?_)
  refine x_if_eq (tgt := 15) C eX23_takes_4 (by decide) h (fun h => ?_) (fun h => ?_)
  · refine x_sub [] rfl ?_
    exact j_15 S1 h
  · refine x_tload_n C eX23_takes_7 rfl 0 rfl ?_
    refine x_iload_n C eX23_takes_8 rfl 1 rfl ?_
    refine x_cVi (As := [.int x1]) (st := []) (n := 1) (frc := 1) (loc := 20) C h (fun S9 r9 e9 => k_X23_is l D K m9 mr _ S9 x1 r9 e9) ww_9 ww_17 ww_18 ww_19 ww_16 (by decide +kernel) rfl ⟨by omega, by omega⟩ (Nat.le_of_ble_eq_true rfl) eX23_takes_9 (fun S3 v4 h => ?_)
    refine x_if_ne (tgt := 17) C eX23_takes_12 (by decide) h (fun h => ?_) (fun h => ?_)
    · refine x_tload_n C eX23_takes_17 rfl 0 rfl ?_
      refine x_dup C eX23_takes_18 rfl ?_
      refine x_mV (k9 := 10) C (by decide) ww_11 eX23_takes_19 rfl ?_
      refine x_iconst (v := 1) C eX23_takes_22 (by decide) ?_
      refine x_iadd C eX23_takes_23 ?_
      refine x_pM (k9 := 10) C (by decide) rfl (by decide) ww_11 rfl (by decide +kernel) eX23_takes_24 h (fun S5 h => ?_)
      refine x_iconst (v := 1) C eX23_takes_27 (by decide) ?_
      exact x_zret C rfl rfl eX23_takes_28 h
    · refine x_sub [] rfl ?_
      exact j_15 S3 h
set_option maxRecDepth 20000 in
set_option maxHeartbeats 4000000 in
theorem k_X23_name (l : Launch) (D : va_G) (K : Ky) (m9 : Nat) (mr : Nat → Nat) (S0 Sf : Sg) (rf : Int32) (h : f_name K S0 = some (Sf, rf)) : CT l D K m9 mr yX23_name (Cond.code yX23_name cX23_name 1 (some .int)) (3) (63) S0 Sf [.ref m9] (some (.int rf)) := by
  refine x_start (cc := cX23_name) (lv := [(0, .ref m9)]) rfl rfl (by decide) (by simp [lv_args, cat_rf, cat_i, cat_l, cat_a]) (by simp [lg_sl, cat_rf, cat_i, cat_l, cat_a]) (fun p e R s m args below meth c Q A C => ?_)
  unfold f_name at h
  refine x_tload_n C eX23_name_0 rfl 0 rfl ?_
  refine x_iconst (v := 2) C eX23_name_1 (by decide) ?_
  refine x_cVv (As := [.int 2]) (st := []) (n := 1) (frc := 2) (loc := 42) C h (fun S9 r9 e9 => k_X23_take l D K m9 mr _ S9 2 r9 e9) ww_12 ww_25 ww_26 ww_27 ww_16 (by decide +kernel) rfl ⟨by omega, by omega⟩ (Nat.le_of_ble_eq_true rfl) eX23_name_2 (fun S1 v2 h => ?_)
  refine x_tload_n C eX23_name_5 rfl 0 rfl ?_
  refine x_mV (k9 := 10) C (by decide) ww_11 eX23_name_6 rfl ?_
  refine x_iconst (v := 1) C eX23_name_9 (by decide) ?_
  refine x_isub C eX23_name_10 ?_
  exact x_iret C rfl rfl eX23_name_11 h
set_option maxRecDepth 20000 in
set_option maxHeartbeats 4000000 in
theorem k_X23_enter (l : Launch) (D : va_G) (K : Ky) (m9 : Nat) (mr : Nat → Nat) (S0 Sf : Sg) (x1 : Int32) (rf : Unit) (h : f_enter K S0 x1 = some (Sf, rf)) : CT l D K m9 mr yX23_enter (Cond.code yX23_enter cX23_enter 2 none) (2) (42) S0 Sf [.ref m9, .int x1] none := by
  refine x_start (cc := cX23_enter) (lv := [(0, .ref m9), (1, .int x1)]) rfl rfl (by decide) (by simp [lv_args, cat_rf, cat_i, cat_l, cat_a]) (by simp [lg_sl, cat_rf, cat_i, cat_l, cat_a]) (fun p e R s m args below meth c Q A C => ?_)
  have j_22 : ∀ (S : Sg), f_enter_22 K S = some (Sf, rf) → WX p l e R s m args below meth c Q D A K m9 mr 2 S0 S 22 [(0, .ref m9)] [] := by
    intro S h
    unfold f_enter_22 at h
    refine x_tload_n C eX23_enter_22 rfl 0 rfl ?_
    refine x_dup C eX23_enter_23 rfl ?_
    refine x_mV (k9 := 15) C (by decide) ww_29 eX23_enter_24 rfl ?_
    refine x_iconst (v := 1) C eX23_enter_27 (by decide) ?_
    refine x_iadd C eX23_enter_28 ?_
    refine x_pM (k9 := 15) C (by decide) rfl (by decide) ww_29 rfl (by decide +kernel) eX23_enter_29 h (fun S5 h => ?_)
    exact x_vret C rfl rfl eX23_enter_32 h
  unfold f_enter at h
  refine x_tload_n C eX23_enter_0 rfl 0 rfl ?_
  refine x_cVi (As := []) (st := []) (n := 0) (frc := 1) (loc := 20) C h (fun S9 r9 e9 => k_X23_ok l D K m9 mr _ S9 r9 e9) ww_0 ww_13 ww_14 ww_15 ww_16 (by decide +kernel) rfl ⟨by omega, by omega⟩ (Nat.le_of_ble_eq_true rfl) eX23_enter_1 (fun S1 v2 h => ?_)
  refine x_if_eq (tgt := 22) C eX23_enter_4 (by decide) h (fun h => ?_) (fun h => ?_)
  · refine x_sub [0] rfl ?_
    exact j_22 S1 h
  · refine x_tload_n C eX23_enter_7 rfl 0 rfl ?_
    refine x_mV (k9 := 15) C (by decide) ww_29 eX23_enter_8 rfl ?_
    refine x_bipush (v := 16) C eX23_enter_11 (by decide) ?_
    refine x_ic_ne (tgt := 22) C eX23_enter_13 (by decide) h (fun h => ?_) (fun h => ?_)
    · refine x_sub [0] rfl ?_
      exact j_22 S1 h
    · refine x_tload_n C eX23_enter_16 rfl 0 rfl ?_
      refine x_iconst (v := 2) C eX23_enter_17 (by decide) ?_
      refine x_iload_n C eX23_enter_18 rfl 1 rfl ?_
      refine x_cVv (As := [.int 2, .int x1]) (st := []) (n := 2) (frc := 1) (loc := 20) C h (fun S9 r9 e9 => k_X23_fail l D K m9 mr _ S9 2 x1 r9 e9) ww_2 ww_20 ww_21 ww_22 ww_16 (by decide +kernel) rfl ⟨by omega, by omega⟩ (Nat.le_of_ble_eq_true rfl) eX23_enter_19 (fun S3 v4 h => ?_)
      refine x_sub [0] rfl ?_
      exact j_22 S3 h
set_option maxRecDepth 20000 in
set_option maxHeartbeats 4000000 in
theorem k_X23_limit (l : Launch) (D : va_G) (K : Ky) (m9 : Nat) (mr : Nat → Nat) (S0 Sf : Sg) (x1 : Int32) (x2 : Int32) (rf : Unit) (h : f_limit K S0 x1 x2 = some (Sf, rf)) : CT l D K m9 mr yX23_limit (Cond.code yX23_limit cX23_limit 3 none) (2) (42) S0 Sf [.ref m9, .int x1, .int x2] none := by
  refine x_start (cc := cX23_limit) (lv := [(0, .ref m9), (1, .int x1), (2, .int x2)]) rfl rfl (by decide) (by simp [lv_args, cat_rf, cat_i, cat_l, cat_a]) (by simp [lg_sl, cat_rf, cat_i, cat_l, cat_a]) (fun p e R s m args below meth c Q A C => ?_)
  have j_29 : ∀ (S : Sg), f_limit_29 K S = some (Sf, rf) → WX p l e R s m args below meth c Q D A K m9 mr 3 S0 S 29 [] [] := by
    intro S h
    unfold f_limit_29 at h
    exact x_vret C rfl rfl eX23_limit_29 h
  unfold f_limit at h
  refine x_tload_n C eX23_limit_0 rfl 0 rfl ?_
  refine x_cVi (As := []) (st := []) (n := 0) (frc := 1) (loc := 20) C h (fun S9 r9 e9 => k_X23_ok l D K m9 mr _ S9 r9 e9) ww_0 ww_13 ww_14 ww_15 ww_16 (by decide +kernel) rfl ⟨by omega, by omega⟩ (Nat.le_of_ble_eq_true rfl) eX23_limit_1 (fun S1 v2 h => ?_)
  refine x_if_eq (tgt := 29) C eX23_limit_4 (by decide) h (fun h => ?_) (fun h => ?_)
  · refine x_sub [] rfl ?_
    exact j_29 S1 h
  · refine x_tload_n C eX23_limit_7 rfl 0 rfl ?_
    refine x_iconst (v := 2) C eX23_limit_8 (by decide) ?_
    refine x_cVi (As := [.int 2]) (st := []) (n := 1) (frc := 1) (loc := 20) C h (fun S9 r9 e9 => k_X23_is l D K m9 mr _ S9 2 r9 e9) ww_9 ww_17 ww_18 ww_19 ww_16 (by decide +kernel) rfl ⟨by omega, by omega⟩ (Nat.le_of_ble_eq_true rfl) eX23_limit_9 (fun S3 v4 h => ?_)
    refine x_if_eq (tgt := 29) C eX23_limit_12 (by decide) h (fun h => ?_) (fun h => ?_)
    · refine x_sub [] rfl ?_
      exact j_29 S3 h
    · refine x_iload_n C eX23_limit_15 rfl 1 rfl ?_
      refine x_iload_n C eX23_limit_16 rfl 2 rfl ?_
      refine x_ic_ne (tgt := 29) C eX23_limit_17 (by decide) h (fun h => ?_) (fun h => ?_)
      · refine x_sub [] rfl ?_
        exact j_29 S3 h
      · refine x_tload_n C eX23_limit_20 rfl 0 rfl ?_
        refine x_iconst (v := 2) C eX23_limit_21 (by decide) ?_
        refine x_tload_n C eX23_limit_22 rfl 0 rfl ?_
        refine x_mV (k9 := 10) C (by decide) ww_11 eX23_limit_23 rfl ?_
        refine x_cVv (As := [.int 2, .int (Zi S3 10)]) (st := []) (n := 2) (frc := 1) (loc := 20) C h (fun S9 r9 e9 => k_X23_fail l D K m9 mr _ S9 2 (Zi S3 10) r9 e9) ww_2 ww_20 ww_21 ww_22 ww_16 (by decide +kernel) rfl ⟨by omega, by omega⟩ (Nat.le_of_ble_eq_true rfl) eX23_limit_26 (fun S5 v6 h => ?_)
        refine x_sub [] rfl ?_
        exact j_29 S5 h
set_option maxRecDepth 20000 in
set_option maxHeartbeats 4000000 in
theorem k_X22_init (l : Launch) (D : va_G) (K : Ky) (m9 : Nat) (mr : Nat → Nat) (S0 Sf : Sg) (x0 : Nat) (rf : Unit) (h : f_X22_init K S0 x0 = some (Sf, rf)) : CT l D K m9 mr yX22_init (Cond.code yX22_init cX22_init 1 none) (1) (20) S0 Sf [.ref x0] none := by
  refine x_start (cc := cX22_init) (lv := [(0, .ref x0)]) rfl rfl (by decide) (by simp [lv_args, cat_rf, cat_i, cat_l, cat_a]) (by simp [lg_sl, cat_rf, cat_i, cat_l, cat_a]) (fun p e R s m args below meth c Q A C => ?_)
  unfold f_X22_init at h
  refine x_tload_n C eX22_init_0 rfl 0 rfl ?_
  refine x_objInit C ww_988 ww_958 ww_959 eX22_init_1 (by omega) (by omega) (Nat.le_of_ble_eq_true rfl) ?_
  refine x_tload_n C eX22_init_4 rfl 0 rfl ?_
  refine x_iconst (v := (-1)) C eX22_init_5 (by decide) ?_
  refine x_pI (o9 := (some x0)) (ci := 22) (k9 := 3) (Cn := RX22) (T := TX22) (N := 5) C rfl wt_X22 tyX22_ok nmX22 (by decide) ww_989 rfl (by decide +kernel) eX22_init_6 h (fun S1 h => ?_)
  exact x_vret C rfl rfl eX22_init_9 h
set_option maxRecDepth 20000 in
set_option maxHeartbeats 4000000 in
theorem k_X23_written (l : Launch) (D : va_G) (K : Ky) (m9 : Nat) (mr : Nat → Nat) : ∀ (d : Nat) (S0 Sf : Sg) (rf : Option Nat), f_written K d S0 = some (Sf, rf) → CT l D K m9 mr yX23_written (Cond.code yX23_written cX23_written 3 (some (.object "OwnedPlacesModel$Written"))) (3 + 1 * d) (63 + 22 * d) S0 Sf [.ref m9] (some (va_rf rf)) := by
  intro d
  induction d with
  | zero => intro S0 Sf rf h; unfold f_written at h; cases h
  | succ d ih =>
    intro S0 Sf rf h
    refine x_start (cc := cX23_written) (lv := [(0, .ref m9)]) rfl rfl (by decide) (by simp [lv_args, cat_rf, cat_i, cat_l, cat_a]) (by simp [lg_sl, cat_rf, cat_i, cat_l, cat_a]) (fun p e R s m args below meth c Q A C => ?_)
    have j_214 : ∀ (S : Sg) (x1 : Option Nat), f_written_214 K (f_written K d) S x1 = some (Sf, rf) → WX p l e R s m args below meth c Q D A K m9 mr 3 S0 S 214 [(1, va_rf x1)] [] := by
      intro S x1 h
      unfold f_written_214 at h
      refine x_aload_n C eX23_written_214 rfl 0 rfl ?_
      exact x_aret C rfl (Or.inl ⟨_, rfl⟩) rfl eX23_written_215 h
    have j_136 : ∀ (S : Sg) (x1 : Option Nat), f_written_136 K (f_written K d) S x1 = some (Sf, rf) → WX p l e R s m args below meth c Q D A K m9 mr 3 S0 S 136 [(0, .ref m9), (1, va_rf x1)] [] := by
      intro S x1 h
      unfold f_written_136 at h
      refine x_aload_n C eX23_written_136 rfl 1 rfl ?_
      refine x_tload_n C eX23_written_137 rfl 0 rfl ?_
      refine x_cVr (As := []) (st := [va_rf x1]) (n := 0) (frc := 3 + 1 * d) (loc := 63 + 22 * d) C h (fun S9 r9 e9 => ih _ S9 r9 e9) ww_31 ww_46 ww_47 ww_48 ww_16 (by decide +kernel) rfl ⟨by omega, by omega⟩ (Nat.le_of_ble_eq_true rfl) eX23_written_138 (fun S39 v40 h => ?_)
      refine x_pR (o9 := x1) (Cv := "OwnedPlacesModel$Written") (ci := 22) (k9 := 4) (Cn := RX22) (T := TX22) (N := 5) C rfl wt_X22 tyX22_ok nmX22 (by decide) ww_49 rfl (by decide +kernel) eX23_written_141 h (fun S41 h => ?_)
      refine x_tload_n C eX23_written_144 rfl 0 rfl ?_
      refine x_dup C eX23_written_145 rfl ?_
      refine x_mV (k9 := 15) C (by decide) ww_29 eX23_written_146 rfl ?_
      refine x_iconst (v := 1) C eX23_written_149 (by decide) ?_
      refine x_isub C eX23_written_150 ?_
      refine x_pM (k9 := 15) C (by decide) rfl (by decide) ww_29 rfl (by decide +kernel) eX23_written_151 h (fun S42 h => ?_)
      refine x_goto (tgt := 214) C eX23_written_154 (by decide) ?_
      refine x_sub [1] rfl ?_
      exact j_214 S42 x1 h
    have j_118 : ∀ (S : Sg) (x1 : Option Nat) (x2 : Int32), f_written_118 K (f_written K d) S x1 x2 = some (Sf, rf) → WX p l e R s m args below meth c Q D A K m9 mr 3 S0 S 118 [(0, .ref m9), (1, va_rf x1), (2, .int x2)] [] := by
      intro S x1 x2 h
      unfold f_written_118 at h
      refine x_iload_n C eX23_written_118 rfl 2 rfl ?_
      refine x_if_eq (tgt := 136) C eX23_written_119 (by decide) h (fun h => ?_) (fun h => ?_)
      · refine x_sub [0, 1] rfl ?_
        exact j_136 S x1 h
      · refine x_tload_n C eX23_written_122 rfl 0 rfl ?_
        refine x_bipush (v := 14) C eX23_written_123 (by decide) ?_
        refine x_cVi (As := [.int 14]) (st := []) (n := 1) (frc := 2) (loc := 41) C h (fun S9 r9 e9 => k_X23_takes l D K m9 mr _ S9 14 r9 e9) ww_23 ww_42 ww_43 ww_44 ww_16 (by decide +kernel) rfl ⟨by omega, by omega⟩ (Nat.le_of_ble_eq_true rfl) eX23_written_125 (fun S36 v37 h => ?_)
        refine x_if_eq (tgt := 136) C eX23_written_128 (by decide) h (fun h => ?_) (fun h => ?_)
        · refine x_sub [0, 1] rfl ?_
          exact j_136 S36 x1 h
        · refine x_aload_n C eX23_written_131 rfl 1 rfl ?_
          refine x_iconst (v := 1) C eX23_written_132 (by decide) ?_
          refine x_pI (o9 := x1) (ci := 22) (k9 := 2) (Cn := RX22) (T := TX22) (N := 5) C rfl wt_X22 tyX22_ok nmX22 (by decide) ww_45 rfl (by decide +kernel) eX23_written_133 h (fun S38 h => ?_)
          refine x_sub [0, 1] rfl ?_
          exact j_136 S38 x1 h
    have j_56 : ∀ (S : Sg) (x1 : Option Nat), f_written_56 K (f_written K d) S x1 = some (Sf, rf) → WX p l e R s m args below meth c Q D A K m9 mr 3 S0 S 56 [(0, .ref m9), (1, va_rf x1)] [] := by
      intro S x1 h
      unfold f_written_56 at h
      refine x_tload_n C eX23_written_56 rfl 0 rfl ?_
      refine x_tload_n C eX23_written_57 rfl 0 rfl ?_
      refine x_mV (k9 := 10) C (by decide) ww_11 eX23_written_58 rfl ?_
      refine x_cVv (As := [.int (Zi S 10)]) (st := []) (n := 1) (frc := 2) (loc := 42) C h (fun S9 r9 e9 => k_X23_enter l D K m9 mr _ S9 (Zi S 10) r9 e9) ww_28 ww_38 ww_39 ww_40 ww_16 (by decide +kernel) rfl ⟨by omega, by omega⟩ (Nat.le_of_ble_eq_true rfl) eX23_written_61 (fun S25 v26 h => ?_)
      refine x_tload_n C eX23_written_64 rfl 0 rfl ?_
      refine x_bipush (v := 55) C eX23_written_65 (by decide) ?_
      refine x_cVi (As := [.int 55]) (st := []) (n := 1) (frc := 1) (loc := 20) C h (fun S9 r9 e9 => k_X23_is l D K m9 mr _ S9 55 r9 e9) ww_9 ww_17 ww_18 ww_19 ww_16 (by decide +kernel) rfl ⟨by omega, by omega⟩ (Nat.le_of_ble_eq_true rfl) eX23_written_67 (fun S27 v28 h => ?_)
      refine x_istore_n (lv2 := [(0, .ref m9), (1, va_rf x1)]) C eX23_written_70 rfl (by decide) rfl (oky rfl (oky (cat_rf x1) ok0)) ?_
      refine x_tload_n C eX23_written_71 rfl 1 rfl ?_
      refine x_dup C eX23_written_72 rfl ?_
      refine x_mV (k9 := 10) C (by decide) ww_11 eX23_written_73 rfl ?_
      refine x_iconst (v := 1) C eX23_written_76 (by decide) ?_
      refine x_iadd C eX23_written_77 ?_
      refine x_pM (k9 := 10) C (by decide) rfl (by decide) ww_11 rfl (by decide +kernel) eX23_written_78 h (fun S29 h => ?_)
      refine x_iload_n C eX23_written_81 rfl 0 rfl ?_
      refine x_if_eq (tgt := 118) C eX23_written_82 (by decide) h (fun h => ?_) (fun h => ?_)
      · refine x_sub [1, 2, 0] rfl ?_
        exact j_118 S29 x1 v28 h
      · refine x_tload_n C eX23_written_85 rfl 1 rfl ?_
        refine x_cVi (As := []) (st := []) (n := 0) (frc := 1) (loc := 20) C h (fun S9 r9 e9 => k_X23_ok l D K m9 mr _ S9 r9 e9) ww_0 ww_13 ww_14 ww_15 ww_16 (by decide +kernel) rfl ⟨by omega, by omega⟩ (Nat.le_of_ble_eq_true rfl) eX23_written_86 (fun S30 v31 h => ?_)
        refine x_if_eq (tgt := 118) C eX23_written_89 (by decide) h (fun h => ?_) (fun h => ?_)
        · refine x_sub [1, 2, 0] rfl ?_
          exact j_118 S30 x1 v28 h
        · refine x_tload_n C eX23_written_92 rfl 1 rfl ?_
          refine x_iconst (v := 4) C eX23_written_93 (by decide) ?_
          refine x_cVi (As := [.int 4]) (st := []) (n := 1) (frc := 1) (loc := 20) C h (fun S9 r9 e9 => k_X23_is l D K m9 mr _ S9 4 r9 e9) ww_9 ww_17 ww_18 ww_19 ww_16 (by decide +kernel) rfl ⟨by omega, by omega⟩ (Nat.le_of_ble_eq_true rfl) eX23_written_94 (fun S32 v33 h => ?_)
          refine x_if_eq (tgt := 118) C eX23_written_97 (by decide) h (fun h => ?_) (fun h => ?_)
          · refine x_sub [1, 2, 0] rfl ?_
            exact j_118 S32 x1 v28 h
          · refine x_aload_n C eX23_written_100 rfl 2 rfl ?_
            refine x_tload_n C eX23_written_101 rfl 1 rfl ?_
            refine x_mV (k9 := 10) C (by decide) ww_11 eX23_written_102 rfl ?_
            refine x_pI (o9 := x1) (ci := 22) (k9 := 3) (Cn := RX22) (T := TX22) (N := 5) C rfl wt_X22 tyX22_ok nmX22 (by decide) ww_41 rfl (by decide +kernel) eX23_written_105 h (fun S34 h => ?_)
            refine x_tload_n C eX23_written_108 rfl 1 rfl ?_
            refine x_dup C eX23_written_109 rfl ?_
            refine x_mV (k9 := 10) C (by decide) ww_11 eX23_written_110 rfl ?_
            refine x_iconst (v := 1) C eX23_written_113 (by decide) ?_
            refine x_iadd C eX23_written_114 ?_
            refine x_pM (k9 := 10) C (by decide) rfl (by decide) ww_11 rfl (by decide +kernel) eX23_written_115 h (fun S35 h => ?_)
            refine x_sub [1, 2, 0] rfl ?_
            exact j_118 S35 x1 v28 h
    have j_192 : ∀ (S : Sg) (x1 : Option Nat), f_written_192 K (f_written K d) S x1 = some (Sf, rf) → WX p l e R s m args below meth c Q D A K m9 mr 3 S0 S 192 [(0, .ref m9), (1, va_rf x1)] [] := by
      intro S x1 h
      unfold f_written_192 at h
      refine x_tload_n C eX23_written_192 rfl 0 rfl ?_
      refine x_dup C eX23_written_193 rfl ?_
      refine x_mV (k9 := 10) C (by decide) ww_11 eX23_written_194 rfl ?_
      refine x_iconst (v := 1) C eX23_written_197 (by decide) ?_
      refine x_iadd C eX23_written_198 ?_
      refine x_pM (k9 := 10) C (by decide) rfl (by decide) ww_11 rfl (by decide +kernel) eX23_written_199 h (fun S24 h => ?_)
      refine x_goto (tgt := 214) C eX23_written_202 (by decide) ?_
      refine x_sub [1] rfl ?_
      exact j_214 S24 x1 h
    unfold f_written at h
    refine x_nO (ci := 22) (Cn := RX22) (T := TX22) (ty0 := tyX22) C rfl wt_X22 tyX22_ok ww_32 ww_33 ww_34 dv_X22 eX23_written_0 h (fun S1 a2 h => ?_)
    refine x_dup C eX23_written_3 (cat_rf (some a2)) ?_
    refine x_callIM (b := a2) (st := [va_rf (some a2)]) (frc := 1) (loc := 20) C h (fun S9 e9 => k_X22_init l D K m9 mr S1 S9 a2 () e9) ww_987 C.2.2.2.1.1.1 ww_34 ww_35 rfl (by decide +kernel) ⟨by omega, by omega⟩ (Nat.le_of_ble_eq_true rfl) eX23_written_4 (fun S3 h => ?_)
    refine x_astore_n (lv2 := [(0, .ref m9)]) C eX23_written_7 rfl (by decide) rfl (oky rfl ok0) ?_
    refine x_tload_n C eX23_written_8 rfl 1 rfl ?_
    refine x_cVi (As := []) (st := []) (n := 0) (frc := 1) (loc := 20) C h (fun S9 r9 e9 => k_X23_ok l D K m9 mr _ S9 r9 e9) ww_0 ww_13 ww_14 ww_15 ww_16 (by decide +kernel) rfl ⟨by omega, by omega⟩ (Nat.le_of_ble_eq_true rfl) eX23_written_9 (fun S5 v6 h => ?_)
    refine x_if_ne (tgt := 17) C eX23_written_12 (by decide) h (fun h => ?_) (fun h => ?_)
    · refine x_aload_n C eX23_written_17 rfl 0 rfl ?_
      refine x_tload_n C eX23_written_18 rfl 1 rfl ?_
      refine x_mV (k9 := 10) C (by decide) ww_11 eX23_written_19 rfl ?_
      refine x_pI (o9 := (some a2)) (ci := 22) (k9 := 1) (Cn := RX22) (T := TX22) (N := 5) C rfl wt_X22 tyX22_ok nmX22 (by decide) ww_36 rfl (by decide +kernel) eX23_written_22 h (fun S7 h => ?_)
      refine x_aload_n C eX23_written_25 rfl 0 rfl ?_
      refine x_tload_n C eX23_written_26 rfl 1 rfl ?_
      refine x_mV (k9 := 5) C (by decide) ww_10 eX23_written_27 rfl ?_
      refine x_tload_n C eX23_written_30 rfl 1 rfl ?_
      refine x_mV (k9 := 10) C (by decide) ww_11 eX23_written_31 rfl ?_
      refine x_rI (r := 5) C (by decide) rfl eX23_written_34 h (fun v8 h => ?_)
      refine x_pI (o9 := (some a2)) (ci := 22) (k9 := 0) (Cn := RX22) (T := TX22) (N := 5) C rfl wt_X22 tyX22_ok nmX22 (by decide) ww_37 rfl (by decide +kernel) eX23_written_35 h (fun S9 h => ?_)
      refine x_tload_n C eX23_written_38 rfl 1 rfl ?_
      refine x_bipush (v := 23) C eX23_written_39 (by decide) ?_
      refine x_cVi (As := [.int 23]) (st := []) (n := 1) (frc := 1) (loc := 20) C h (fun S9 r9 e9 => k_X23_is l D K m9 mr _ S9 23 r9 e9) ww_9 ww_17 ww_18 ww_19 ww_16 (by decide +kernel) rfl ⟨by omega, by omega⟩ (Nat.le_of_ble_eq_true rfl) eX23_written_41 (fun S10 v11 h => ?_)
      refine x_if_ne (tgt := 56) C eX23_written_44 (by decide) h (fun h => ?_) (fun h => ?_)
      · refine x_sub [1, 0] rfl ?_
        exact j_56 S10 (some a2) h
      · refine x_tload_n C eX23_written_47 rfl 1 rfl ?_
        refine x_bipush (v := 55) C eX23_written_48 (by decide) ?_
        refine x_cVi (As := [.int 55]) (st := []) (n := 1) (frc := 1) (loc := 20) C h (fun S9 r9 e9 => k_X23_is l D K m9 mr _ S9 55 r9 e9) ww_9 ww_17 ww_18 ww_19 ww_16 (by decide +kernel) rfl ⟨by omega, by omega⟩ (Nat.le_of_ble_eq_true rfl) eX23_written_50 (fun S12 v13 h => ?_)
        refine x_if_eq (tgt := 157) C eX23_written_53 (by decide) h (fun h => ?_) (fun h => ?_)
        · refine x_tload_n C eX23_written_157 rfl 1 rfl ?_
          refine x_bipush (v := 26) C eX23_written_158 (by decide) ?_
          refine x_cVi (As := [.int 26]) (st := []) (n := 1) (frc := 1) (loc := 20) C h (fun S9 r9 e9 => k_X23_is l D K m9 mr _ S9 26 r9 e9) ww_9 ww_17 ww_18 ww_19 ww_16 (by decide +kernel) rfl ⟨by omega, by omega⟩ (Nat.le_of_ble_eq_true rfl) eX23_written_160 (fun S14 v15 h => ?_)
          refine x_if_ne (tgt := 192) C eX23_written_163 (by decide) h (fun h => ?_) (fun h => ?_)
          · refine x_sub [1, 0] rfl ?_
            exact j_192 S14 (some a2) h
          · refine x_tload_n C eX23_written_166 rfl 1 rfl ?_
            refine x_bipush (v := 27) C eX23_written_167 (by decide) ?_
            refine x_cVi (As := [.int 27]) (st := []) (n := 1) (frc := 1) (loc := 20) C h (fun S9 r9 e9 => k_X23_is l D K m9 mr _ S9 27 r9 e9) ww_9 ww_17 ww_18 ww_19 ww_16 (by decide +kernel) rfl ⟨by omega, by omega⟩ (Nat.le_of_ble_eq_true rfl) eX23_written_169 (fun S16 v17 h => ?_)
            refine x_if_ne (tgt := 192) C eX23_written_172 (by decide) h (fun h => ?_) (fun h => ?_)
            · refine x_sub [1, 0] rfl ?_
              exact j_192 S16 (some a2) h
            · refine x_tload_n C eX23_written_175 rfl 1 rfl ?_
              refine x_bipush (v := 25) C eX23_written_176 (by decide) ?_
              refine x_cVi (As := [.int 25]) (st := []) (n := 1) (frc := 1) (loc := 20) C h (fun S9 r9 e9 => k_X23_is l D K m9 mr _ S9 25 r9 e9) ww_9 ww_17 ww_18 ww_19 ww_16 (by decide +kernel) rfl ⟨by omega, by omega⟩ (Nat.le_of_ble_eq_true rfl) eX23_written_178 (fun S18 v19 h => ?_)
              refine x_if_ne (tgt := 192) C eX23_written_181 (by decide) h (fun h => ?_) (fun h => ?_)
              · refine x_sub [1, 0] rfl ?_
                exact j_192 S18 (some a2) h
              · refine x_tload_n C eX23_written_184 rfl 1 rfl ?_
                refine x_iconst (v := 2) C eX23_written_185 (by decide) ?_
                refine x_cVi (As := [.int 2]) (st := []) (n := 1) (frc := 1) (loc := 20) C h (fun S9 r9 e9 => k_X23_is l D K m9 mr _ S9 2 r9 e9) ww_9 ww_17 ww_18 ww_19 ww_16 (by decide +kernel) rfl ⟨by omega, by omega⟩ (Nat.le_of_ble_eq_true rfl) eX23_written_186 (fun S20 v21 h => ?_)
                refine x_if_eq (tgt := 205) C eX23_written_189 (by decide) h (fun h => ?_) (fun h => ?_)
                · refine x_tload_n C eX23_written_205 rfl 1 rfl ?_
                  refine x_iconst (v := 1) C eX23_written_206 (by decide) ?_
                  refine x_tload_n C eX23_written_207 rfl 1 rfl ?_
                  refine x_mV (k9 := 10) C (by decide) ww_11 eX23_written_208 rfl ?_
                  refine x_cVv (As := [.int 1, .int (Zi S20 10)]) (st := []) (n := 2) (frc := 1) (loc := 20) C h (fun S9 r9 e9 => k_X23_fail l D K m9 mr _ S9 1 (Zi S20 10) r9 e9) ww_2 ww_20 ww_21 ww_22 ww_16 (by decide +kernel) rfl ⟨by omega, by omega⟩ (Nat.le_of_ble_eq_true rfl) eX23_written_211 (fun S22 v23 h => ?_)
                  refine x_sub [0] rfl ?_
                  exact j_214 S22 (some a2) h
                · refine x_sub [1, 0] rfl ?_
                  exact j_192 S20 (some a2) h
        · refine x_sub [1, 0] rfl ?_
          exact j_56 S12 (some a2) h
    · refine x_aload_n C eX23_written_15 rfl 0 rfl ?_
      exact x_aret C rfl (Or.inl ⟨_, rfl⟩) rfl eX23_written_16 h
