set_option maxRecDepth 20000 in
set_option maxHeartbeats 4000000 in
theorem k_X23_givesHolder (l : Launch) (D : va_G) (K : Ky) (m9 : Nat) (mr : Nat → Nat) (S0 Sf : Sg) (x1 : Int32) (x2 : Option Nat) (rf : Unit) (h : f_givesHolder K S0 x1 x2 = some (Sf, rf)) : CT l D K m9 mr yX23_givesHolder (Cond.code yX23_givesHolder cX23_givesHolder 3 none) (2) (40) S0 Sf [.ref m9, .int x1, va_rf x2] none := by
  refine x_start (cc := cX23_givesHolder) (lv := [(0, .ref m9), (1, .int x1), (2, va_rf x2)]) rfl rfl (by decide) (by simp [lv_args, cat_rf, cat_i, cat_l, cat_a]) (by simp [lg_sl, cat_rf, cat_i, cat_l, cat_a]) (fun p e R s m args below meth c Q A C => ?_)
  have j_20 : ∀ (S : Sg), f_givesHolder_20 K S = some (Sf, rf) → WX p l e R s m args below meth c Q D A K m9 mr 3 S0 S 20 [] [] := by
    intro S h
    unfold f_givesHolder_20 at h
    exact x_vret C rfl rfl eX23_givesHolder_20 h
  unfold f_givesHolder at h
  refine x_aload_n C eX23_givesHolder_0 rfl 2 rfl ?_
  refine x_cSi (As := [va_rf x2]) (st := []) (n := 1) (frc := 1) (loc := 20) C h (fun S9 r9 e9 => k_X23_refers l D K m9 mr _ S9 x2 r9 e9) ww_258 ww_354 ww_355 ww_16 (by decide +kernel) rfl ⟨by omega, by omega⟩ (Nat.le_of_ble_eq_true rfl) eX23_givesHolder_1 (fun S1 v2 h => ?_)
  refine x_if_eq (tgt := 20) C eX23_givesHolder_4 (by decide) h (fun h => ?_) (fun h => ?_)
  · refine x_sub [] rfl ?_
    exact j_20 S1 h
  · refine x_tload_n C eX23_givesHolder_7 rfl 0 rfl ?_
    refine x_mV (k9 := 34) C (by decide) ww_492 eX23_givesHolder_8 rfl ?_
    refine x_iload_n C eX23_givesHolder_11 rfl 1 rfl ?_
    refine x_tload_n C eX23_givesHolder_12 rfl 0 rfl ?_
    refine x_mV (k9 := 48) C (by decide) ww_525 eX23_givesHolder_13 rfl ?_
    refine x_cSi (As := [.int (Zi S1 48)]) (st := [.int x1, .ref (mr 34)]) (n := 1) (frc := 1) (loc := 20) C h (fun S9 r9 e9 => k_X23_temporary l D K m9 mr _ S9 (Zi S1 48) r9 e9) ww_512 ww_526 ww_527 ww_16 (by decide +kernel) rfl ⟨by omega, by omega⟩ (Nat.le_of_ble_eq_true rfl) eX23_givesHolder_16 (fun S3 v4 h => ?_)
    refine x_wI (r := 34) C (by decide) rfl eX23_givesHolder_19 h (fun S5 h => ?_)
    refine x_sub [] rfl ?_
    exact j_20 S5 h
set_option maxRecDepth 20000 in
set_option maxHeartbeats 4000000 in
theorem k_X23_read (l : Launch) (D : va_G) (K : Ky) (m9 : Nat) (mr : Nat → Nat) (S0 Sf : Sg) (x1 : Option Nat) (rf : Unit) (h : f_read K S0 x1 = some (Sf, rf)) : CT l D K m9 mr yX23_read (Cond.code yX23_read cX23_read 6 none) (4) (88) S0 Sf [.ref m9, va_rf x1] none := by
  refine x_start (cc := cX23_read) (lv := [(0, .ref m9), (1, va_rf x1)]) rfl rfl (by decide) (by simp [lv_args, cat_rf, cat_i, cat_l, cat_a]) (by simp [lg_sl, cat_rf, cat_i, cat_l, cat_a]) (fun p e R s m args below meth c Q A C => ?_)
  have j_78 : ∀ (S : Sg) (x2 : Option Nat) (x3 : Int32) (x4 : Option Nat) (y0 : Int32) (y1 : Int32), f_read_78 K S x2 x3 x4 y0 y1 = some (Sf, rf) → WX p l e R s m args below meth c Q D A K m9 mr 6 S0 S 78 [(0, .ref m9), (2, va_rf x2), (3, .int x3), (4, va_rf x4)] [.int y0, .int y1, .ref (mr 33)] := by
    intro S x2 x3 x4 y0 y1 h
    unfold f_read_78 at h
    refine x_wI (r := 33) C (by decide) rfl eX23_read_78 h (fun S15 h => ?_)
    refine x_tload_n C eX23_read_79 rfl 0 rfl ?_
    refine x_iload_n C eX23_read_80 rfl 2 rfl ?_
    refine x_aload_n C eX23_read_81 rfl 1 rfl ?_
    refine x_cVv (As := [.int x3, va_rf x2]) (st := []) (n := 2) (frc := 2) (loc := 41) C h (fun S9 r9 e9 => k_X23_through l D K m9 mr _ S9 x3 x2 r9 e9) ww_517 ww_536 ww_537 ww_538 ww_16 (by decide +kernel) rfl ⟨by omega, by omega⟩ (Nat.le_of_ble_eq_true rfl) eX23_read_82 (fun S16 v17 h => ?_)
    refine x_tload_n C eX23_read_85 rfl 0 rfl ?_
    refine x_iload_n C eX23_read_86 rfl 2 rfl ?_
    refine x_aload C eX23_read_87 3 rfl ?_
    refine x_cVv (As := [.int x3, va_rf x4]) (st := []) (n := 2) (frc := 2) (loc := 40) C h (fun S9 r9 e9 => k_X23_givesHolder l D K m9 mr _ S9 x3 x4 r9 e9) ww_524 ww_539 ww_540 ww_541 ww_16 (by decide +kernel) rfl ⟨by omega, by omega⟩ (Nat.le_of_ble_eq_true rfl) eX23_read_89 (fun S18 v19 h => ?_)
    refine x_tload_n C eX23_read_92 rfl 0 rfl ?_
    refine x_dup C eX23_read_93 rfl ?_
    refine x_mV (k9 := 48) C (by decide) ww_525 eX23_read_94 rfl ?_
    refine x_iconst (v := 1) C eX23_read_97 (by decide) ?_
    refine x_iadd C eX23_read_98 ?_
    refine x_pM (k9 := 48) C (by decide) rfl (by decide) ww_525 rfl (by decide +kernel) eX23_read_99 h (fun S20 h => ?_)
    exact x_vret C rfl rfl eX23_read_102 h
  have j_49 : ∀ (S : Sg) (x2 : Option Nat) (x3 : Int32) (x4 : Option Nat) (y0 : Int32), f_read_49 K S x2 x3 x4 y0 = some (Sf, rf) → WX p l e R s m args below meth c Q D A K m9 mr 6 S0 S 49 [(0, .ref m9), (2, va_rf x2), (3, .int x3), (4, va_rf x4)] [.int y0] := by
    intro S x2 x3 x4 y0 h
    unfold f_read_49 at h
    refine x_istore (lv2 := [(0, .ref m9), (2, va_rf x2), (3, .int x3), (4, va_rf x4)]) C eX23_read_49 (by decide) rfl (oky rfl (oky (cat_rf x2) (oky rfl (oky (cat_rf x4) ok0)))) ?_
    refine x_tload_n C eX23_read_51 rfl 1 rfl ?_
    refine x_mV (k9 := 33) C (by decide) ww_491 eX23_read_52 rfl ?_
    refine x_iload_n C eX23_read_55 rfl 3 rfl ?_
    refine x_aload C eX23_read_56 4 rfl ?_
    refine x_cSi (As := [va_rf x4]) (st := [.int x3, .ref (mr 33)]) (n := 1) (frc := 1) (loc := 20) C h (fun S9 r9 e9 => k_X23_copied l D K m9 mr _ S9 x4 r9 e9) ww_259 ww_369 ww_370 ww_16 (by decide +kernel) rfl ⟨by omega, by omega⟩ (Nat.le_of_ble_eq_true rfl) eX23_read_58 (fun S13 v14 h => ?_)
    refine x_if_eq (tgt := 68) C eX23_read_61 (by decide) h (fun h => ?_) (fun h => ?_)
    · refine x_iload C eX23_read_68 0 rfl ?_
      refine x_if_eq (tgt := 77) C eX23_read_70 (by decide) h (fun h => ?_) (fun h => ?_)
      · refine x_iconst (v := 4) C eX23_read_77 (by decide) ?_
        refine x_sub [1, 2, 3, 4] rfl ?_
        exact j_78 S13 x2 x3 x4 4 x3 h
      · refine x_iconst (v := 5) C eX23_read_73 (by decide) ?_
        refine x_goto (tgt := 78) C eX23_read_74 (by decide) ?_
        refine x_sub [1, 2, 3, 4] rfl ?_
        exact j_78 S13 x2 x3 x4 5 x3 h
    · refine x_iconst (v := 1) C eX23_read_64 (by decide) ?_
      refine x_goto (tgt := 78) C eX23_read_65 (by decide) ?_
      refine x_sub [1, 2, 3, 4] rfl ?_
      exact j_78 S13 x2 x3 x4 1 x3 h
  have j_48 : ∀ (S : Sg) (x2 : Option Nat) (x3 : Int32) (x4 : Option Nat), f_read_48 K S x2 x3 x4 = some (Sf, rf) → WX p l e R s m args below meth c Q D A K m9 mr 6 S0 S 48 [(0, .ref m9), (2, va_rf x2), (3, .int x3), (4, va_rf x4)] [] := by
    intro S x2 x3 x4 h
    unfold f_read_48 at h
    refine x_iconst (v := 0) C eX23_read_48 (by decide) ?_
    refine x_sub [0, 1, 2, 3] rfl ?_
    exact j_49 S x2 x3 x4 0 h
  unfold f_read at h
  refine x_tload_n C eX23_read_0 rfl 0 rfl ?_
  refine x_aload_n C eX23_read_1 rfl 1 rfl ?_
  refine x_cVr (As := [va_rf x1]) (st := []) (n := 1) (frc := 3) (loc := 63) C h (fun S9 r9 e9 => k_X23_pathOf l D K m9 mr _ S9 x1 r9 e9) ww_513 ww_529 ww_530 ww_531 ww_16 (by decide +kernel) rfl ⟨by omega, by omega⟩ (Nat.le_of_ble_eq_true rfl) eX23_read_2 (fun S1 v2 h => ?_)
  refine x_astore_n (lv2 := [(0, .ref m9), (1, va_rf x1)]) C eX23_read_5 rfl (by decide) rfl (oky rfl (oky (cat_rf x1) ok0)) ?_
  refine x_tload_n C eX23_read_6 rfl 1 rfl ?_
  refine x_iconst (v := 2) C eX23_read_7 (by decide) ?_
  refine x_aload_n C eX23_read_8 rfl 2 rfl ?_
  refine x_gI (o9 := x1) (ci := 15) (k9 := 1) (Cn := RX15) (T := TX15) (N := 14) C rfl wt_X15 (by decide) ww_211 eX23_read_9 h (fun v3 h => ?_)
  refine x_cVi (As := [.int 2, .int v3]) (st := []) (n := 2) (frc := 1) (loc := 20) C h (fun S9 r9 e9 => k_X23_point l D K m9 mr _ S9 2 v3 r9 e9) ww_483 ww_532 ww_533 ww_534 ww_16 (by decide +kernel) rfl ⟨by omega, by omega⟩ (Nat.le_of_ble_eq_true rfl) eX23_read_12 (fun S4 v5 h => ?_)
  refine x_istore_n (lv2 := [(2, va_rf v2), (0, .ref m9), (1, va_rf x1)]) C eX23_read_15 rfl (by decide) rfl (oky (cat_rf v2) (oky rfl (oky (cat_rf x1) ok0))) ?_
  refine x_aload_n C eX23_read_16 rfl 1 rfl ?_
  refine x_cOr (As := []) (st := []) (ci := 18) (T := TX18) (n := 0) (frc := 1) (loc := 20) C rfl h (fun b9 S9 r9 e9 => k_X18_type l D K m9 mr _ S9 b9 r9 e9) ww_964 ww_518 ww_519 ww_520 ww_507 (by decide +kernel) rfl ⟨by omega, by omega⟩ (Nat.le_of_ble_eq_true rfl) eX23_read_17 (fun S6 v7 h => ?_)
  refine x_astore (lv2 := [(3, .int v5), (2, va_rf v2), (0, .ref m9), (1, va_rf x1)]) C eX23_read_20 (by decide) rfl (oky rfl (oky (cat_rf v2) (oky rfl (oky (cat_rf x1) ok0)))) ?_
  refine x_aload_n C eX23_read_22 rfl 2 rfl ?_
  refine x_gI (o9 := v2) (ci := 18) (k9 := 1) (Cn := RX18) (T := TX18) (N := 4) C rfl wt_X18 (by decide) ww_535 eX23_read_23 h (fun v9 h => ?_)
  refine x_if_le (tgt := 48) C eX23_read_26 (by decide) h (fun h => ?_) (fun h => ?_)
  · refine x_sub [3, 2, 1, 0] rfl ?_
    exact j_48 S6 v2 v5 v7 h
  · refine x_aload_n C eX23_read_29 rfl 2 rfl ?_
    refine x_gR (o9 := v2) (ci := 18) (k9 := 2) (Cn := RX18) (T := TX18) (N := 4) C rfl wt_X18 (by decide) ww_516 eX23_read_30 h (fun v10 h => ?_)
    refine x_aload_n C eX23_read_33 rfl 2 rfl ?_
    refine x_gI (o9 := v2) (ci := 18) (k9 := 1) (Cn := RX18) (T := TX18) (N := 4) C rfl wt_X18 (by decide) ww_535 eX23_read_34 h (fun v11 h => ?_)
    refine x_iconst (v := 1) C eX23_read_37 (by decide) ?_
    refine x_isub C eX23_read_38 ?_
    refine x_aI C eX23_read_39 h (fun v12 h => ?_)
    refine x_iconst (v := (-1)) C eX23_read_40 (by decide) ?_
    refine x_ic_ne (tgt := 48) C eX23_read_41 (by decide) h (fun h => ?_) (fun h => ?_)
    · refine x_sub [3, 2, 1, 0] rfl ?_
      exact j_48 S6 v2 v5 v7 h
    · refine x_iconst (v := 1) C eX23_read_44 (by decide) ?_
      refine x_goto (tgt := 49) C eX23_read_45 (by decide) ?_
      refine x_sub [3, 2, 1, 0] rfl ?_
      exact j_49 S6 v2 v5 v7 1 h
set_option maxRecDepth 20000 in
set_option maxHeartbeats 4000000 in
theorem k_X23_newLoan (l : Launch) (D : va_G) (K : Ky) (m9 : Nat) (mr : Nat → Nat) (S0 Sf : Sg) (x1 : Option Nat) (x2 : Int32) (rf : Int32) (h : f_newLoan K S0 x1 x2 = some (Sf, rf)) : CT l D K m9 mr yX23_newLoan (Cond.code yX23_newLoan cX23_newLoan 3 (some .int)) (1) (20) S0 Sf [.ref m9, va_rf x1, .int x2] (some (.int rf)) := by
  refine x_start (cc := cX23_newLoan) (lv := [(0, .ref m9), (1, va_rf x1), (2, .int x2)]) rfl rfl (by decide) (by simp [lv_args, cat_rf, cat_i, cat_l, cat_a]) (by simp [lg_sl, cat_rf, cat_i, cat_l, cat_a]) (fun p e R s m args below meth c Q A C => ?_)
  unfold f_newLoan at h
  refine x_tload_n C eX23_newLoan_0 rfl 0 rfl ?_
  refine x_mV (k9 := 43) C (by decide) ww_543 eX23_newLoan_1 rfl ?_
  refine x_tload_n C eX23_newLoan_4 rfl 0 rfl ?_
  refine x_mV (k9 := 47) C (by decide) ww_544 eX23_newLoan_5 rfl ?_
  refine x_aload_n C eX23_newLoan_8 rfl 1 rfl ?_
  refine x_wQ (r := 43) (t9 := 6) (ci := 18) C (by decide) rfl (by decide) rfl rfl eX23_newLoan_9 h (fun S1 h => ?_)
  refine x_tload_n C eX23_newLoan_10 rfl 0 rfl ?_
  refine x_mV (k9 := 44) C (by decide) ww_545 eX23_newLoan_11 rfl ?_
  refine x_tload_n C eX23_newLoan_14 rfl 0 rfl ?_
  refine x_mV (k9 := 47) C (by decide) ww_544 eX23_newLoan_15 rfl ?_
  refine x_iload_n C eX23_newLoan_18 rfl 2 rfl ?_
  refine x_wZ (r := 44) C (by decide) rfl eX23_newLoan_19 h (fun S2 h => ?_)
  refine x_tload_n C eX23_newLoan_20 rfl 0 rfl ?_
  refine x_mV (k9 := 45) C (by decide) ww_546 eX23_newLoan_21 rfl ?_
  refine x_tload_n C eX23_newLoan_24 rfl 0 rfl ?_
  refine x_mV (k9 := 47) C (by decide) ww_544 eX23_newLoan_25 rfl ?_
  refine x_iconst (v := (-1)) C eX23_newLoan_28 (by decide) ?_
  refine x_wI (r := 45) C (by decide) rfl eX23_newLoan_29 h (fun S3 h => ?_)
  refine x_tload_n C eX23_newLoan_30 rfl 0 rfl ?_
  refine x_dup C eX23_newLoan_31 rfl ?_
  refine x_mV (k9 := 47) C (by decide) ww_544 eX23_newLoan_32 rfl ?_
  refine x_iconst (v := 1) C eX23_newLoan_35 (by decide) ?_
  refine x_iadd C eX23_newLoan_36 ?_
  refine x_pM (k9 := 47) C (by decide) rfl (by decide) ww_544 rfl (by decide +kernel) eX23_newLoan_37 h (fun S4 h => ?_)
  refine x_tload_n C eX23_newLoan_40 rfl 0 rfl ?_
  refine x_mV (k9 := 47) C (by decide) ww_544 eX23_newLoan_41 rfl ?_
  refine x_iconst (v := 1) C eX23_newLoan_44 (by decide) ?_
  refine x_isub C eX23_newLoan_45 ?_
  exact x_iret C rfl rfl eX23_newLoan_46 h
set_option maxRecDepth 20000 in
set_option maxHeartbeats 4000000 in
theorem k_X23_lend (l : Launch) (D : va_G) (K : Ky) (m9 : Nat) (mr : Nat → Nat) (S0 Sf : Sg) (x1 : Option Nat) (rf : Unit) (h : f_lend K S0 x1 = some (Sf, rf)) : CT l D K m9 mr yX23_lend (Cond.code yX23_lend cX23_lend 4 none) (4) (88) S0 Sf [.ref m9, va_rf x1] none := by
  refine x_start (cc := cX23_lend) (lv := [(0, .ref m9), (1, va_rf x1)]) rfl rfl (by decide) (by simp [lv_args, cat_rf, cat_i, cat_l, cat_a]) (by simp [lg_sl, cat_rf, cat_i, cat_l, cat_a]) (fun p e R s m args below meth c Q A C => ?_)
  have j_65 : ∀ (S : Sg) (x3 : Int32) (y0 : Int32) (y1 : Option Nat) (y3 : Int32), f_lend_65 K S x3 y0 y1 y3 = some (Sf, rf) → WX p l e R s m args below meth c Q D A K m9 mr 4 S0 S 65 [(0, .ref m9), (3, .int x3)] [.int y0, va_rf y1, .ref m9, .int y3, .ref (mr 35)] := by
    intro S x3 y0 y1 y3 h
    unfold f_lend_65 at h
    refine x_cVi (As := [va_rf y1, .int y0]) (st := [.int y3, .ref (mr 35)]) (n := 2) (frc := 1) (loc := 20) C h (fun S9 r9 e9 => k_X23_newLoan l D K m9 mr _ S9 y1 y0 r9 e9) ww_542 ww_548 ww_549 ww_550 ww_16 (by decide +kernel) rfl ⟨by omega, by omega⟩ (Nat.le_of_ble_eq_true rfl) eX23_lend_65 (fun S13 v14 h => ?_)
    refine x_wI (r := 35) C (by decide) rfl eX23_lend_68 h (fun S15 h => ?_)
    refine x_tload_n C eX23_lend_69 rfl 0 rfl ?_
    refine x_mV (k9 := 34) C (by decide) ww_492 eX23_lend_70 rfl ?_
    refine x_iload_n C eX23_lend_73 rfl 1 rfl ?_
    refine x_tload_n C eX23_lend_74 rfl 0 rfl ?_
    refine x_mV (k9 := 48) C (by decide) ww_525 eX23_lend_75 rfl ?_
    refine x_cSi (As := [.int (Zi S15 48)]) (st := [.int x3, .ref (mr 34)]) (n := 1) (frc := 1) (loc := 20) C h (fun S9 r9 e9 => k_X23_temporary l D K m9 mr _ S9 (Zi S15 48) r9 e9) ww_512 ww_526 ww_527 ww_16 (by decide +kernel) rfl ⟨by omega, by omega⟩ (Nat.le_of_ble_eq_true rfl) eX23_lend_78 (fun S16 v17 h => ?_)
    refine x_wI (r := 34) C (by decide) rfl eX23_lend_81 h (fun S18 h => ?_)
    refine x_tload_n C eX23_lend_82 rfl 0 rfl ?_
    refine x_dup C eX23_lend_83 rfl ?_
    refine x_mV (k9 := 48) C (by decide) ww_525 eX23_lend_84 rfl ?_
    refine x_iconst (v := 1) C eX23_lend_87 (by decide) ?_
    refine x_iadd C eX23_lend_88 ?_
    refine x_pM (k9 := 48) C (by decide) rfl (by decide) ww_525 rfl (by decide +kernel) eX23_lend_89 h (fun S19 h => ?_)
    exact x_vret C rfl rfl eX23_lend_92 h
  have j_39 : ∀ (S : Sg) (x1 : Option Nat) (x2 : Option Nat) (x3 : Int32) (y0 : Int32) (y1 : Int32), f_lend_39 K S x1 x2 x3 y0 y1 = some (Sf, rf) → WX p l e R s m args below meth c Q D A K m9 mr 4 S0 S 39 [(0, .ref m9), (1, va_rf x1), (2, va_rf x2), (3, .int x3)] [.int y0, .int y1, .ref (mr 33)] := by
    intro S x1 x2 x3 y0 y1 h
    unfold f_lend_39 at h
    refine x_wI (r := 33) C (by decide) rfl eX23_lend_39 h (fun S9 h => ?_)
    refine x_tload_n C eX23_lend_40 rfl 0 rfl ?_
    refine x_iload_n C eX23_lend_41 rfl 3 rfl ?_
    refine x_aload_n C eX23_lend_42 rfl 2 rfl ?_
    refine x_cVv (As := [.int x3, va_rf x2]) (st := []) (n := 2) (frc := 2) (loc := 41) C h (fun S9 r9 e9 => k_X23_through l D K m9 mr _ S9 x3 x2 r9 e9) ww_517 ww_536 ww_537 ww_538 ww_16 (by decide +kernel) rfl ⟨by omega, by omega⟩ (Nat.le_of_ble_eq_true rfl) eX23_lend_43 (fun S10 v11 h => ?_)
    refine x_tload_n C eX23_lend_46 rfl 0 rfl ?_
    refine x_mV (k9 := 35) C (by decide) ww_493 eX23_lend_47 rfl ?_
    refine x_iload_n C eX23_lend_50 rfl 3 rfl ?_
    refine x_tload_n C eX23_lend_51 rfl 0 rfl ?_
    refine x_aload_n C eX23_lend_52 rfl 2 rfl ?_
    refine x_aload_n C eX23_lend_53 rfl 1 rfl ?_
    refine x_gI (o9 := x1) (ci := 15) (k9 := 7) (Cn := RX15) (T := TX15) (N := 14) C rfl wt_X15 (by decide) ww_218 eX23_lend_54 h (fun v12 h => ?_)
    refine x_if_ne (tgt := 64) C eX23_lend_57 (by decide) h (fun h => ?_) (fun h => ?_)
    · refine x_iconst (v := 0) C eX23_lend_64 (by decide) ?_
      refine x_sub [0, 3] rfl ?_
      exact j_65 S10 x3 0 x2 x3 h
    · refine x_iconst (v := 1) C eX23_lend_60 (by decide) ?_
      refine x_goto (tgt := 65) C eX23_lend_61 (by decide) ?_
      refine x_sub [0, 3] rfl ?_
      exact j_65 S10 x3 1 x2 x3 h
  unfold f_lend at h
  refine x_tload_n C eX23_lend_0 rfl 0 rfl ?_
  refine x_aload_n C eX23_lend_1 rfl 1 rfl ?_
  refine x_gR (o9 := x1) (ci := 15) (k9 := 8) (Cn := RX15) (T := TX15) (N := 14) C rfl wt_X15 (by decide) ww_192 eX23_lend_2 h (fun v1 h => ?_)
  refine x_cVr (As := [va_rf v1]) (st := []) (n := 1) (frc := 3) (loc := 63) C h (fun S9 r9 e9 => k_X23_pathOf l D K m9 mr _ S9 v1 r9 e9) ww_513 ww_529 ww_530 ww_531 ww_16 (by decide +kernel) rfl ⟨by omega, by omega⟩ (Nat.le_of_ble_eq_true rfl) eX23_lend_5 (fun S2 v3 h => ?_)
  refine x_astore_n (lv2 := [(0, .ref m9), (1, va_rf x1)]) C eX23_lend_8 rfl (by decide) rfl (oky rfl (oky (cat_rf x1) ok0)) ?_
  refine x_tload_n C eX23_lend_9 rfl 1 rfl ?_
  refine x_iconst (v := 3) C eX23_lend_10 (by decide) ?_
  refine x_aload_n C eX23_lend_11 rfl 2 rfl ?_
  refine x_gR (o9 := x1) (ci := 15) (k9 := 8) (Cn := RX15) (T := TX15) (N := 14) C rfl wt_X15 (by decide) ww_192 eX23_lend_12 h (fun v4 h => ?_)
  refine x_gI (o9 := v4) (ci := 15) (k9 := 1) (Cn := RX15) (T := TX15) (N := 14) C rfl wt_X15 (by decide) ww_211 eX23_lend_15 h (fun v5 h => ?_)
  refine x_cVi (As := [.int 3, .int v5]) (st := []) (n := 2) (frc := 1) (loc := 20) C h (fun S9 r9 e9 => k_X23_point l D K m9 mr _ S9 3 v5 r9 e9) ww_483 ww_532 ww_533 ww_534 ww_16 (by decide +kernel) rfl ⟨by omega, by omega⟩ (Nat.le_of_ble_eq_true rfl) eX23_lend_18 (fun S6 v7 h => ?_)
  refine x_istore_n (lv2 := [(2, va_rf v3), (0, .ref m9), (1, va_rf x1)]) C eX23_lend_21 rfl (by decide) rfl (oky (cat_rf v3) (oky rfl (oky (cat_rf x1) ok0))) ?_
  refine x_tload_n C eX23_lend_22 rfl 2 rfl ?_
  refine x_mV (k9 := 33) C (by decide) ww_491 eX23_lend_23 rfl ?_
  refine x_iload_n C eX23_lend_26 rfl 0 rfl ?_
  refine x_aload_n C eX23_lend_27 rfl 3 rfl ?_
  refine x_gI (o9 := x1) (ci := 15) (k9 := 7) (Cn := RX15) (T := TX15) (N := 14) C rfl wt_X15 (by decide) ww_218 eX23_lend_28 h (fun v8 h => ?_)
  refine x_if_eq (tgt := 38) C eX23_lend_31 (by decide) h (fun h => ?_) (fun h => ?_)
  · refine x_iconst (v := 2) C eX23_lend_38 (by decide) ?_
    refine x_sub [2, 3, 1, 0] rfl ?_
    exact j_39 S6 x1 v3 v7 2 v7 h
  · refine x_iconst (v := 3) C eX23_lend_34 (by decide) ?_
    refine x_goto (tgt := 39) C eX23_lend_35 (by decide) ?_
    refine x_sub [2, 3, 1, 0] rfl ?_
    exact j_39 S6 x1 v3 v7 3 v7 h
set_option maxRecDepth 20000 in
set_option maxHeartbeats 4000000 in
theorem k_X23_isHeld (l : Launch) (D : va_G) (K : Ky) (m9 : Nat) (mr : Nat → Nat) (S0 Sf : Sg) (x1 : Option Nat) (x2 : Int32) (x3 : Int32) (rf : Int32) (h : f_isHeld K S0 x1 x2 x3 = some (Sf, rf)) : CT l D K m9 mr yX23_isHeld (Cond.code yX23_isHeld cX23_isHeld 4 (some .boolean)) (2) (40) S0 Sf [.ref m9, va_rf x1, .int x2, .int x3] (some (.int rf)) := by
  refine x_start (cc := cX23_isHeld) (lv := [(0, .ref m9), (1, va_rf x1), (2, .int x2), (3, .int x3)]) rfl rfl (by decide) (by simp [lv_args, cat_rf, cat_i, cat_l, cat_a]) (by simp [lg_sl, cat_rf, cat_i, cat_l, cat_a]) (fun p e R s m args below meth c Q A C => ?_)
  have j_42 : ∀ (S : Sg) (y0 : Int32), f_isHeld_42 K S y0 = some (Sf, rf) → WX p l e R s m args below meth c Q D A K m9 mr 4 S0 S 42 [] [.int y0] := by
    intro S y0 h
    unfold f_isHeld_42 at h
    exact x_zret C rfl rfl eX23_isHeld_42 h
  have j_37 : ∀ (S : Sg), f_isHeld_37 K S = some (Sf, rf) → WX p l e R s m args below meth c Q D A K m9 mr 4 S0 S 37 [] [] := by
    intro S h
    unfold f_isHeld_37 at h
    refine x_iconst (v := 1) C eX23_isHeld_37 (by decide) ?_
    refine x_goto (tgt := 42) C eX23_isHeld_38 (by decide) ?_
    refine x_sub [] rfl ?_
    exact j_42 S 1 h
  have j_41 : ∀ (S : Sg), f_isHeld_41 K S = some (Sf, rf) → WX p l e R s m args below meth c Q D A K m9 mr 4 S0 S 41 [] [] := by
    intro S h
    unfold f_isHeld_41 at h
    refine x_iconst (v := 0) C eX23_isHeld_41 (by decide) ?_
    refine x_sub [] rfl ?_
    exact j_42 S 0 h
  unfold f_isHeld at h
  refine x_aload_n C eX23_isHeld_0 rfl 1 rfl ?_
  refine x_gR (o9 := x1) (ci := 15) (k9 := 9) (Cn := RX15) (T := TX15) (N := 14) C rfl wt_X15 (by decide) ww_199 eX23_isHeld_1 h (fun v1 h => ?_)
  refine x_iload_n C eX23_isHeld_4 rfl 2 rfl ?_
  refine x_aQ (t9 := 9) C rfl eX23_isHeld_5 h (fun v2 h => ?_)
  refine x_gR (o9 := v2) (ci := 15) (k9 := 12) (Cn := RX15) (T := TX15) (N := 14) C rfl wt_X15 (by decide) ww_338 eX23_isHeld_6 h (fun v3 h => ?_)
  refine x_cSi (As := [va_rf v3]) (st := []) (n := 1) (frc := 1) (loc := 20) C h (fun S9 r9 e9 => k_X23_refers l D K m9 mr _ S9 v3 r9 e9) ww_258 ww_354 ww_355 ww_16 (by decide +kernel) rfl ⟨by omega, by omega⟩ (Nat.le_of_ble_eq_true rfl) eX23_isHeld_9 (fun S4 v5 h => ?_)
  refine x_if_eq (tgt := 41) C eX23_isHeld_12 (by decide) h (fun h => ?_) (fun h => ?_)
  · refine x_sub [] rfl ?_
    exact j_41 S4 h
  · refine x_iload_n C eX23_isHeld_15 rfl 3 rfl ?_
    refine x_if_lt (tgt := 37) C eX23_isHeld_16 (by decide) h (fun h => ?_) (fun h => ?_)
    · refine x_sub [] rfl ?_
      exact j_37 S4 h
    · refine x_tload_n C eX23_isHeld_19 rfl 0 rfl ?_
      refine x_mV (k9 := 11) C (by decide) ww_114 eX23_isHeld_20 rfl ?_
      refine x_aload_n C eX23_isHeld_23 rfl 1 rfl ?_
      refine x_gI (o9 := x1) (ci := 15) (k9 := 4) (Cn := RX15) (T := TX15) (N := 14) C rfl wt_X15 (by decide) ww_359 eX23_isHeld_24 h (fun v6 h => ?_)
      refine x_rQ (r := 11) (t9 := 3) C (by decide) rfl (by decide) rfl eX23_isHeld_27 h (fun v7 h => ?_)
      refine x_gR (o9 := v7) (ci := 16) (k9 := 13) (Cn := RX16) (T := TX16) (N := 22) C rfl wt_X16 (by decide) ww_89 eX23_isHeld_28 h (fun v8 h => ?_)
      refine x_iload_n C eX23_isHeld_31 rfl 2 rfl ?_
      refine x_aI C eX23_isHeld_32 h (fun v9 h => ?_)
      refine x_iload_n C eX23_isHeld_33 rfl 3 rfl ?_
      refine x_ic_ne (tgt := 41) C eX23_isHeld_34 (by decide) h (fun h => ?_) (fun h => ?_)
      · refine x_sub [] rfl ?_
        exact j_41 S4 h
      · refine x_sub [] rfl ?_
        exact j_37 S4 h
set_option maxRecDepth 20000 in
set_option maxHeartbeats 4000000 in
theorem k_X23_held (l : Launch) (D : va_G) (K : Ky) (m9 : Nat) (mr : Nat → Nat) (S0 Sf : Sg) (x1 : Option Nat) (x2 : Int32) (x3 : Int32) (rf : Option Nat) (h : f_held K S0 x1 x2 x3 = some (Sf, rf)) : CT l D K m9 mr yX23_held (Cond.code yX23_held cX23_held 7 (some (.array .int))) (3) (63) S0 Sf [.ref m9, va_rf x1, .int x2, .int x3] (some (va_rf rf)) := by
  refine x_start (cc := cX23_held) (lv := [(0, .ref m9), (1, va_rf x1), (2, .int x2), (3, .int x3)]) rfl rfl (by decide) (by simp [lv_args, cat_rf, cat_i, cat_l, cat_a]) (by simp [lg_sl, cat_rf, cat_i, cat_l, cat_a]) (fun p e R s m args below meth c Q A C => ?_)
  have j_54 : ∀ (n_54 : Nat) (S : Sg) (x1 : Option Nat) (x2 : Int32) (x3 : Int32) (x4 : Int32) (x5 : Option Nat) (x6 : Int32), f_held_54 K n_54 S x1 x2 x3 x4 x5 x6 = some (Sf, rf) → WX p l e R s m args below meth c Q D A K m9 mr 7 S0 S 54 [(0, .ref m9), (1, va_rf x1), (2, .int x2), (3, .int x3), (4, .int x4), (5, va_rf x5), (6, .int x6)] [] := by
    intro n_54
    induction n_54 with
    | zero => intro S x1 x2 x3 x4 x5 x6 h; unfold f_held_54 at h; cases h
    | succ n_54 ih_54 =>
      intro S x1 x2 x3 x4 x5 x6 h
      have j_89 : ∀ (S : Sg) (x1 : Option Nat) (x2 : Int32) (x3 : Int32) (x4 : Int32) (x5 : Option Nat) (x6 : Int32), f_held_89 K (f_held_54 K n_54) S x1 x2 x3 x4 x5 x6 = some (Sf, rf) → WX p l e R s m args below meth c Q D A K m9 mr 7 S0 S 89 [(0, .ref m9), (1, va_rf x1), (2, .int x2), (3, .int x3), (4, .int x4), (5, va_rf x5), (6, .int x6)] [] := by
        intro S x1 x2 x3 x4 x5 x6 h
        unfold f_held_89 at h
        refine x_iinc (j := 6) (v := 1) (lv2 := [(0, .ref m9), (1, va_rf x1), (2, .int x2), (3, .int x3), (4, .int x4), (5, va_rf x5)]) C eX23_held_89 rfl (by decide) (by decide) rfl (oky rfl (oky (cat_rf x1) (oky rfl (oky rfl (oky rfl (oky (cat_rf x5) ok0)))))) ?_
        refine x_goto (tgt := 54) C eX23_held_92 (by decide) ?_
        refine x_sub [1, 2, 3, 4, 5, 6, 0] rfl ?_
        exact ih_54 S x1 x2 x3 x4 x5 (x6 + 1) h
      unfold f_held_54 at h
      refine x_iload C eX23_held_54 6 rfl ?_
      refine x_aload_n C eX23_held_56 rfl 1 rfl ?_
      refine x_gI (o9 := x1) (ci := 15) (k9 := 11) (Cn := RX15) (T := TX15) (N := 14) C rfl wt_X15 (by decide) ww_201 eX23_held_57 h (fun v6 h => ?_)
      refine x_ic_ge (tgt := 95) C eX23_held_60 (by decide) h (fun h => ?_) (fun h => ?_)
      · refine x_aload C eX23_held_95 5 rfl ?_
        exact x_aret C rfl (Or.inr ⟨_, rfl⟩) rfl eX23_held_97 h
      · refine x_tload_n C eX23_held_63 rfl 0 rfl ?_
        refine x_aload_n C eX23_held_64 rfl 1 rfl ?_
        refine x_iload C eX23_held_65 6 rfl ?_
        refine x_iload_n C eX23_held_67 rfl 3 rfl ?_
        refine x_cVi (As := [va_rf x1, .int x6, .int x3]) (st := []) (n := 3) (frc := 2) (loc := 40) C h (fun S9 r9 e9 => k_X23_isHeld l D K m9 mr _ S9 x1 x6 x3 r9 e9) ww_579 ww_576 ww_577 ww_578 ww_16 (by decide +kernel) rfl ⟨by omega, by omega⟩ (Nat.le_of_ble_eq_true rfl) eX23_held_68 (fun S7 v8 h => ?_)
        refine x_if_eq (tgt := 89) C eX23_held_71 (by decide) h (fun h => ?_) (fun h => ?_)
        · refine x_sub [0, 1, 2, 3, 4, 5, 6] rfl ?_
          exact j_89 S7 x1 x2 x3 x4 x5 x6 h
        · refine x_aload C eX23_held_74 5 rfl ?_
          refine x_iload C eX23_held_76 4 rfl ?_
          refine x_iload_n C eX23_held_78 rfl 2 rfl ?_
          refine x_iload C eX23_held_79 6 rfl ?_
          refine x_iadd C eX23_held_81 ?_
          refine x_cSi (As := [.int (x2 + x6)]) (st := [.int x4, va_rf x5]) (n := 1) (frc := 1) (loc := 20) C h (fun S9 r9 e9 => k_X23_temporary l D K m9 mr _ S9 (x2 + x6) r9 e9) ww_512 ww_526 ww_527 ww_16 (by decide +kernel) rfl ⟨by omega, by omega⟩ (Nat.le_of_ble_eq_true rfl) eX23_held_82 (fun S9 v10 h => ?_)
          refine x_bI C eX23_held_85 h (fun S11 h => ?_)
          refine x_iinc (j := 4) (v := 1) (lv2 := [(0, .ref m9), (1, va_rf x1), (2, .int x2), (3, .int x3), (5, va_rf x5), (6, .int x6)]) C eX23_held_86 rfl (by decide) (by decide) rfl (oky rfl (oky (cat_rf x1) (oky rfl (oky rfl (oky (cat_rf x5) (oky rfl ok0)))))) ?_
          refine x_sub [1, 2, 3, 4, 0, 5, 6] rfl ?_
          exact j_89 S11 x1 x2 x3 (x4 + 1) x5 x6 h
  have j_6 : ∀ (n_6 : Nat) (S : Sg) (x1 : Option Nat) (x2 : Int32) (x3 : Int32) (x4 : Int32) (x5 : Int32), f_held_6 K n_6 S x1 x2 x3 x4 x5 = some (Sf, rf) → WX p l e R s m args below meth c Q D A K m9 mr 7 S0 S 6 [(0, .ref m9), (1, va_rf x1), (2, .int x2), (3, .int x3), (4, .int x4), (5, .int x5)] [] := by
    intro n_6
    induction n_6 with
    | zero => intro S x1 x2 x3 x4 x5 h; unfold f_held_6 at h; cases h
    | succ n_6 ih_6 =>
      intro S x1 x2 x3 x4 x5 h
      have j_29 : ∀ (S : Sg) (x1 : Option Nat) (x2 : Int32) (x3 : Int32) (x4 : Int32) (x5 : Int32), f_held_29 K (f_held_6 K n_6) S x1 x2 x3 x4 x5 = some (Sf, rf) → WX p l e R s m args below meth c Q D A K m9 mr 7 S0 S 29 [(0, .ref m9), (1, va_rf x1), (2, .int x2), (3, .int x3), (4, .int x4), (5, .int x5)] [] := by
        intro S x1 x2 x3 x4 x5 h
        unfold f_held_29 at h
        refine x_iinc (j := 5) (v := 1) (lv2 := [(0, .ref m9), (1, va_rf x1), (2, .int x2), (3, .int x3), (4, .int x4)]) C eX23_held_29 rfl (by decide) (by decide) rfl (oky rfl (oky (cat_rf x1) (oky rfl (oky rfl (oky rfl ok0))))) ?_
        refine x_goto (tgt := 6) C eX23_held_32 (by decide) ?_
        refine x_sub [1, 2, 3, 4, 5, 0] rfl ?_
        exact ih_6 S x1 x2 x3 x4 (x5 + 1) h
      unfold f_held_6 at h
      refine x_iload C eX23_held_6 5 rfl ?_
      refine x_aload_n C eX23_held_8 rfl 1 rfl ?_
      refine x_gI (o9 := x1) (ci := 15) (k9 := 11) (Cn := RX15) (T := TX15) (N := 14) C rfl wt_X15 (by decide) ww_201 eX23_held_9 h (fun v1 h => ?_)
      refine x_ic_ge (tgt := 35) C eX23_held_12 (by decide) h (fun h => ?_) (fun h => ?_)
      · refine x_iload C eX23_held_35 4 rfl ?_
        refine x_if_ne (tgt := 42) C eX23_held_37 (by decide) h (fun h => ?_) (fun h => ?_)
        · refine x_iload C eX23_held_42 4 rfl ?_
          refine x_nA C ww_88 eX23_held_44 h (fun S2 a3 h => ?_)
          refine x_astore (lv2 := [(0, .ref m9), (1, va_rf x1), (2, .int x2), (3, .int x3), (4, .int x4)]) C eX23_held_46 (by decide) rfl (oky rfl (oky (cat_rf x1) (oky rfl (oky rfl (oky rfl ok0))))) ?_
          refine x_iconst (v := 0) C eX23_held_48 (by decide) ?_
          refine x_istore (lv2 := [(5, va_rf (some a3)), (0, .ref m9), (1, va_rf x1), (2, .int x2), (3, .int x3)]) C eX23_held_49 (by decide) rfl (oky (cat_rf (some a3)) (oky rfl (oky (cat_rf x1) (oky rfl (oky rfl ok0))))) ?_
          refine x_iconst (v := 0) C eX23_held_51 (by decide) ?_
          refine x_istore (lv2 := [(4, .int 0), (5, va_rf (some a3)), (0, .ref m9), (1, va_rf x1), (2, .int x2), (3, .int x3)]) C eX23_held_52 (by decide) rfl (oky rfl (oky (cat_rf (some a3)) (oky rfl (oky (cat_rf x1) (oky rfl (oky rfl ok0)))))) ?_
          refine x_sub [3, 4, 5, 6, 1, 2, 0] rfl ?_
          exact j_54 bigN S2 x1 x2 x3 0 (some a3) 0 h
        · refine x_null C eX23_held_40 ?_
          exact x_aret C rfl (Or.inr ⟨_, rfl⟩) rfl eX23_held_41 h
      · refine x_tload_n C eX23_held_15 rfl 0 rfl ?_
        refine x_aload_n C eX23_held_16 rfl 1 rfl ?_
        refine x_iload C eX23_held_17 5 rfl ?_
        refine x_iload_n C eX23_held_19 rfl 3 rfl ?_
        refine x_cVi (As := [va_rf x1, .int x5, .int x3]) (st := []) (n := 3) (frc := 2) (loc := 40) C h (fun S9 r9 e9 => k_X23_isHeld l D K m9 mr _ S9 x1 x5 x3 r9 e9) ww_579 ww_576 ww_577 ww_578 ww_16 (by decide +kernel) rfl ⟨by omega, by omega⟩ (Nat.le_of_ble_eq_true rfl) eX23_held_20 (fun S4 v5 h => ?_)
        refine x_if_eq (tgt := 29) C eX23_held_23 (by decide) h (fun h => ?_) (fun h => ?_)
        · refine x_sub [0, 1, 2, 3, 4, 5] rfl ?_
          exact j_29 S4 x1 x2 x3 x4 x5 h
        · refine x_iinc (j := 4) (v := 1) (lv2 := [(0, .ref m9), (1, va_rf x1), (2, .int x2), (3, .int x3), (5, .int x5)]) C eX23_held_26 rfl (by decide) (by decide) rfl (oky rfl (oky (cat_rf x1) (oky rfl (oky rfl (oky rfl ok0))))) ?_
          refine x_sub [1, 2, 3, 4, 0, 5] rfl ?_
          exact j_29 S4 x1 x2 x3 (x4 + 1) x5 h
  unfold f_held at h
  refine x_iconst (v := 0) C eX23_held_0 (by decide) ?_
  refine x_istore (lv2 := [(0, .ref m9), (1, va_rf x1), (2, .int x2), (3, .int x3)]) C eX23_held_1 (by decide) rfl (oky rfl (oky (cat_rf x1) (oky rfl (oky rfl ok0)))) ?_
  refine x_iconst (v := 0) C eX23_held_3 (by decide) ?_
  refine x_istore (lv2 := [(4, .int 0), (0, .ref m9), (1, va_rf x1), (2, .int x2), (3, .int x3)]) C eX23_held_4 (by decide) rfl (oky rfl (oky rfl (oky (cat_rf x1) (oky rfl (oky rfl ok0))))) ?_
  refine x_sub [2, 3, 4, 5, 1, 0] rfl ?_
  exact j_6 bigN S0 x1 x2 x3 0 0 h
set_option maxRecDepth 20000 in
set_option maxHeartbeats 4000000 in
theorem k_X23_order (l : Launch) (D : va_G) (K : Ky) (m9 : Nat) (mr : Nat → Nat) (S0 Sf : Sg) (x1 : Option Nat) (rf : Option Nat) (h : f_order K S0 x1 = some (Sf, rf)) : CT l D K m9 mr yX23_order (Cond.code yX23_order cX23_order 4 (some (.array .int))) (3) (67) S0 Sf [.ref m9, va_rf x1] (some (va_rf rf)) := by
  refine x_start (cc := cX23_order) (lv := [(0, .ref m9), (1, va_rf x1)]) rfl rfl (by decide) (by simp [lv_args, cat_rf, cat_i, cat_l, cat_a]) (by simp [lg_sl, cat_rf, cat_i, cat_l, cat_a]) (fun p e R s m args below meth c Q A C => ?_)
  have j_9 : ∀ (n_9 : Nat) (S : Sg) (x1 : Option Nat) (x2 : Option Nat) (x3 : Int32), f_order_9 K n_9 S x1 x2 x3 = some (Sf, rf) → WX p l e R s m args below meth c Q D A K m9 mr 4 S0 S 9 [(0, .ref m9), (1, va_rf x1), (2, va_rf x2), (3, .int x3)] [] := by
    intro n_9
    induction n_9 with
    | zero => intro S x1 x2 x3 h; unfold f_order_9 at h; cases h
    | succ n_9 ih_9 =>
      intro S x1 x2 x3 h
      unfold f_order_9 at h
      refine x_iload_n C eX23_order_9 rfl 3 rfl ?_
      refine x_aload_n C eX23_order_10 rfl 1 rfl ?_
      refine x_gI (o9 := x1) (ci := 15) (k9 := 11) (Cn := RX15) (T := TX15) (N := 14) C rfl wt_X15 (by decide) ww_201 eX23_order_11 h (fun v4 h => ?_)
      refine x_ic_ge (tgt := 45) C eX23_order_14 (by decide) h (fun h => ?_) (fun h => ?_)
      · refine x_aload_n C eX23_order_45 rfl 2 rfl ?_
        exact x_aret C rfl (Or.inr ⟨_, rfl⟩) rfl eX23_order_46 h
      · refine x_aload_n C eX23_order_17 rfl 2 rfl ?_
        refine x_iload_n C eX23_order_18 rfl 3 rfl ?_
        refine x_tload_n C eX23_order_19 rfl 0 rfl ?_
        refine x_tload_n C eX23_order_20 rfl 0 rfl ?_
        refine x_mV (k9 := 11) C (by decide) ww_114 eX23_order_21 rfl ?_
        refine x_aload_n C eX23_order_24 rfl 1 rfl ?_
        refine x_gI (o9 := x1) (ci := 15) (k9 := 4) (Cn := RX15) (T := TX15) (N := 14) C rfl wt_X15 (by decide) ww_359 eX23_order_25 h (fun v5 h => ?_)
        refine x_rQ (r := 11) (t9 := 3) C (by decide) rfl (by decide) rfl eX23_order_28 h (fun v6 h => ?_)
        refine x_aload_n C eX23_order_29 rfl 1 rfl ?_
        refine x_gR (o9 := x1) (ci := 15) (k9 := 10) (Cn := RX15) (T := TX15) (N := 14) C rfl wt_X15 (by decide) ww_200 eX23_order_30 h (fun v7 h => ?_)
        refine x_iload_n C eX23_order_33 rfl 3 rfl ?_
        refine x_aI C eX23_order_34 h (fun v8 h => ?_)
        refine x_cVi (As := [va_rf v6, .int v8]) (st := [.int x3, va_rf x2]) (n := 2) (frc := 2) (loc := 44) C h (fun S9 r9 e9 => k_X23_fieldOf l D K m9 mr _ S9 v6 v8 r9 e9) ww_406 ww_408 ww_409 ww_410 ww_16 (by decide +kernel) rfl ⟨by omega, by omega⟩ (Nat.le_of_ble_eq_true rfl) eX23_order_35 (fun S9 v10 h => ?_)
        refine x_bI C eX23_order_38 h (fun S11 h => ?_)
        refine x_iinc (j := 3) (v := 1) (lv2 := [(0, .ref m9), (1, va_rf x1), (2, va_rf x2)]) C eX23_order_39 rfl (by decide) (by decide) rfl (oky rfl (oky (cat_rf x1) (oky (cat_rf x2) ok0))) ?_
        refine x_goto (tgt := 9) C eX23_order_42 (by decide) ?_
        refine x_sub [1, 2, 3, 0] rfl ?_
        exact ih_9 S11 x1 x2 (x3 + 1) h
  unfold f_order at h
  refine x_aload_n C eX23_order_0 rfl 1 rfl ?_
  refine x_gI (o9 := x1) (ci := 15) (k9 := 11) (Cn := RX15) (T := TX15) (N := 14) C rfl wt_X15 (by decide) ww_201 eX23_order_1 h (fun v1 h => ?_)
  refine x_nA C ww_88 eX23_order_4 h (fun S2 a3 h => ?_)
  refine x_astore_n (lv2 := [(0, .ref m9), (1, va_rf x1)]) C eX23_order_6 rfl (by decide) rfl (oky rfl (oky (cat_rf x1) ok0)) ?_
  refine x_iconst (v := 0) C eX23_order_7 (by decide) ?_
  refine x_istore_n (lv2 := [(2, va_rf (some a3)), (0, .ref m9), (1, va_rf x1)]) C eX23_order_8 rfl (by decide) rfl (oky (cat_rf (some a3)) (oky rfl (oky (cat_rf x1) ok0))) ?_
  refine x_sub [2, 3, 1, 0] rfl ?_
  exact j_9 bigN S2 x1 (some a3) 0 h
set_option maxRecDepth 20000 in
set_option maxHeartbeats 4000000 in
theorem k_X23_giveList (l : Launch) (D : va_G) (K : Ky) (m9 : Nat) (mr : Nat → Nat) (V : Sg → Option Nat → Option (Sg × Unit)) (d : Nat) (hV : ∀ (S0 Sf : Sg) (x1 : Option Nat) (rf : Unit), V S0 x1 = some (Sf, rf) → CT l D K m9 mr yX23_give (Cond.code yX23_give cX23_give 2 none) (5 + 2 * d) (113 + 45 * d) S0 Sf [.ref m9, va_rf x1] none) (S0 Sf : Sg) (x1 : Option Nat) (rf : Unit) (h : f_giveList K V S0 x1 = some (Sf, rf)) : CT l D K m9 mr yX23_giveList (Cond.code yX23_giveList cX23_giveList 4 none) (6 + 2 * d) (134 + 45 * d) S0 Sf [.ref m9, va_rf x1] none := by
  refine x_start (cc := cX23_giveList) (lv := [(0, .ref m9), (1, va_rf x1)]) rfl rfl (by decide) (by simp [lv_args, cat_rf, cat_i, cat_l, cat_a]) (by simp [lg_sl, cat_rf, cat_i, cat_l, cat_a]) (fun p e R s m args below meth c Q A C => ?_)
  have j_220 : ∀ (S : Sg), f_giveList_220 K V S = some (Sf, rf) → WX p l e R s m args below meth c Q D A K m9 mr 4 S0 S 220 [] [] := by
    intro S h
    unfold f_giveList_220 at h
    exact x_vret C rfl rfl eX23_giveList_220 h
  have j_168 : ∀ (S : Sg) (x1 : Option Nat) (x3 : Int32), f_giveList_168 K V S x1 x3 = some (Sf, rf) → WX p l e R s m args below meth c Q D A K m9 mr 4 S0 S 168 [(0, .ref m9), (1, va_rf x1), (3, .int x3)] [] := by
    intro S x1 x3 h
    unfold f_giveList_168 at h
    refine x_aload_n C eX23_giveList_168 rfl 1 rfl ?_
    refine x_gI (o9 := x1) (ci := 15) (k9 := 0) (Cn := RX15) (T := TX15) (N := 14) C rfl wt_X15 (by decide) ww_191 eX23_giveList_169 h (fun v32 h => ?_)
    refine x_iconst (v := 3) C eX23_giveList_172 (by decide) ?_
    refine x_ic_ne (tgt := 210) C eX23_giveList_173 (by decide) h (fun h => ?_) (fun h => ?_)
    · refine x_tload_n C eX23_giveList_210 rfl 0 rfl ?_
      refine x_dup C eX23_giveList_211 rfl ?_
      refine x_mV (k9 := 48) C (by decide) ww_525 eX23_giveList_212 rfl ?_
      refine x_iconst (v := 1) C eX23_giveList_215 (by decide) ?_
      refine x_iadd C eX23_giveList_216 ?_
      refine x_pM (k9 := 48) C (by decide) rfl (by decide) ww_525 rfl (by decide +kernel) eX23_giveList_217 h (fun S33 h => ?_)
      refine x_sub [] rfl ?_
      exact j_220 S33 h
    · refine x_tload_n C eX23_giveList_176 rfl 0 rfl ?_
      refine x_iload_n C eX23_giveList_177 rfl 2 rfl ?_
      refine x_aload_n C eX23_giveList_178 rfl 1 rfl ?_
      refine x_gR (o9 := x1) (ci := 15) (k9 := 12) (Cn := RX15) (T := TX15) (N := 14) C rfl wt_X15 (by decide) ww_338 eX23_giveList_179 h (fun v34 h => ?_)
      refine x_cVv (As := [.int x3, va_rf v34]) (st := []) (n := 2) (frc := 2) (loc := 40) C h (fun S9 r9 e9 => k_X23_givesHolder l D K m9 mr _ S9 x3 v34 r9 e9) ww_524 ww_539 ww_540 ww_541 ww_16 (by decide +kernel) rfl ⟨by omega, by omega⟩ (Nat.le_of_ble_eq_true rfl) eX23_giveList_182 (fun S35 v36 h => ?_)
      refine x_aload_n C eX23_giveList_185 rfl 1 rfl ?_
      refine x_gR (o9 := x1) (ci := 15) (k9 := 12) (Cn := RX15) (T := TX15) (N := 14) C rfl wt_X15 (by decide) ww_338 eX23_giveList_186 h (fun v37 h => ?_)
      refine x_gI (o9 := v37) (ci := 20) (k9 := 0) (Cn := RX20) (T := TX20) (N := 4) C rfl wt_X20 (by decide) ww_247 eX23_giveList_189 h (fun v38 h => ?_)
      refine x_bipush (v := 8) C eX23_giveList_192 (by decide) ?_
      refine x_ic_eq (tgt := 220) C eX23_giveList_194 (by decide) h (fun h => ?_) (fun h => ?_)
      · refine x_sub [] rfl ?_
        exact j_220 S35 h
      · refine x_tload_n C eX23_giveList_197 rfl 0 rfl ?_
        refine x_dup C eX23_giveList_198 rfl ?_
        refine x_mV (k9 := 48) C (by decide) ww_525 eX23_giveList_199 rfl ?_
        refine x_iconst (v := 1) C eX23_giveList_202 (by decide) ?_
        refine x_iadd C eX23_giveList_203 ?_
        refine x_pM (k9 := 48) C (by decide) rfl (by decide) ww_525 rfl (by decide +kernel) eX23_giveList_204 h (fun S39 h => ?_)
        refine x_goto (tgt := 220) C eX23_giveList_207 (by decide) ?_
        refine x_sub [] rfl ?_
        exact j_220 S39 h
  have j_149 : ∀ (S : Sg) (x1 : Option Nat) (x3 : Int32), f_giveList_149 K V S x1 x3 = some (Sf, rf) → WX p l e R s m args below meth c Q D A K m9 mr 4 S0 S 149 [(0, .ref m9), (1, va_rf x1), (3, .int x3)] [] := by
    intro S x1 x3 h
    unfold f_giveList_149 at h
    refine x_aload_n C eX23_giveList_149 rfl 1 rfl ?_
    refine x_gI (o9 := x1) (ci := 15) (k9 := 0) (Cn := RX15) (T := TX15) (N := 14) C rfl wt_X15 (by decide) ww_191 eX23_giveList_150 h (fun v28 h => ?_)
    refine x_iconst (v := 5) C eX23_giveList_153 (by decide) ?_
    refine x_ic_ne (tgt := 168) C eX23_giveList_154 (by decide) h (fun h => ?_) (fun h => ?_)
    · refine x_sub [0, 1, 2] rfl ?_
      exact j_168 S x1 x3 h
    · refine x_tload_n C eX23_giveList_157 rfl 0 rfl ?_
      refine x_mV (k9 := 42) C (by decide) ww_500 eX23_giveList_158 rfl ?_
      refine x_iload_n C eX23_giveList_161 rfl 2 rfl ?_
      refine x_tload_n C eX23_giveList_162 rfl 0 rfl ?_
      refine x_aload_n C eX23_giveList_163 rfl 1 rfl ?_
      refine x_cVr (As := [va_rf x1]) (st := [.int x3, .ref (mr 42)]) (n := 1) (frc := 3) (loc := 67) C h (fun S9 r9 e9 => k_X23_order l D K m9 mr _ S9 x1 r9 e9) ww_580 ww_572 ww_573 ww_574 ww_16 (by decide +kernel) rfl ⟨by omega, by omega⟩ (Nat.le_of_ble_eq_true rfl) eX23_giveList_164 (fun S29 v30 h => ?_)
      refine x_wA (r := 42) C (by decide) rfl eX23_giveList_167 h (fun S31 h => ?_)
      refine x_sub [0, 1, 2] rfl ?_
      exact j_168 S31 x1 x3 h
  have j_60 : ∀ (S : Sg) (x1 : Option Nat) (x2 : Int32) (y0 : Int32), f_giveList_60 K V S x1 x2 y0 = some (Sf, rf) → WX p l e R s m args below meth c Q D A K m9 mr 4 S0 S 60 [(0, .ref m9), (1, va_rf x1), (2, .int x2)] [.int y0, .ref m9] := by
    intro S x1 x2 y0 h
    unfold f_giveList_60 at h
    refine x_aload_n C eX23_giveList_60 rfl 1 rfl ?_
    refine x_gI (o9 := x1) (ci := 15) (k9 := 1) (Cn := RX15) (T := TX15) (N := 14) C rfl wt_X15 (by decide) ww_211 eX23_giveList_61 h (fun v8 h => ?_)
    refine x_cVi (As := [.int y0, .int v8]) (st := []) (n := 2) (frc := 1) (loc := 20) C h (fun S9 r9 e9 => k_X23_point l D K m9 mr _ S9 y0 v8 r9 e9) ww_483 ww_532 ww_533 ww_534 ww_16 (by decide +kernel) rfl ⟨by omega, by omega⟩ (Nat.le_of_ble_eq_true rfl) eX23_giveList_64 (fun S9 v10 h => ?_)
    refine x_istore_n (lv2 := [(0, .ref m9), (1, va_rf x1), (2, .int x2)]) C eX23_giveList_67 rfl (by decide) rfl (oky rfl (oky (cat_rf x1) (oky rfl ok0))) ?_
    refine x_tload_n C eX23_giveList_68 rfl 1 rfl ?_
    refine x_mV (k9 := 28) C (by decide) ww_487 eX23_giveList_69 rfl ?_
    refine x_iload_n C eX23_giveList_72 rfl 0 rfl ?_
    refine x_aload_n C eX23_giveList_73 rfl 2 rfl ?_
    refine x_gI (o9 := x1) (ci := 15) (k9 := 4) (Cn := RX15) (T := TX15) (N := 14) C rfl wt_X15 (by decide) ww_359 eX23_giveList_74 h (fun v11 h => ?_)
    refine x_wI (r := 28) C (by decide) rfl eX23_giveList_77 h (fun S12 h => ?_)
    refine x_tload_n C eX23_giveList_78 rfl 1 rfl ?_
    refine x_mV (k9 := 29) C (by decide) ww_488 eX23_giveList_79 rfl ?_
    refine x_iload_n C eX23_giveList_82 rfl 0 rfl ?_
    refine x_aload_n C eX23_giveList_83 rfl 2 rfl ?_
    refine x_gI (o9 := x1) (ci := 15) (k9 := 5) (Cn := RX15) (T := TX15) (N := 14) C rfl wt_X15 (by decide) ww_412 eX23_giveList_84 h (fun v13 h => ?_)
    refine x_wI (r := 29) C (by decide) rfl eX23_giveList_87 h (fun S14 h => ?_)
    refine x_tload_n C eX23_giveList_88 rfl 1 rfl ?_
    refine x_mV (k9 := 31) C (by decide) ww_490 eX23_giveList_89 rfl ?_
    refine x_iload_n C eX23_giveList_92 rfl 0 rfl ?_
    refine x_aload_n C eX23_giveList_93 rfl 2 rfl ?_
    refine x_gI (o9 := x1) (ci := 15) (k9 := 11) (Cn := RX15) (T := TX15) (N := 14) C rfl wt_X15 (by decide) ww_201 eX23_giveList_94 h (fun v15 h => ?_)
    refine x_i2l C eX23_giveList_97 ?_
    refine x_wJ (r := 31) C (by decide) rfl eX23_giveList_98 h (fun S16 h => ?_)
    refine x_tload_n C eX23_giveList_99 rfl 1 rfl ?_
    refine x_iload_n C eX23_giveList_100 rfl 3 rfl ?_
    refine x_pM (k9 := 48) C (by decide) rfl (by decide) ww_525 rfl (by decide +kernel) eX23_giveList_101 h (fun S17 h => ?_)
    refine x_aload_n C eX23_giveList_104 rfl 2 rfl ?_
    refine x_gI (o9 := x1) (ci := 15) (k9 := 0) (Cn := RX15) (T := TX15) (N := 14) C rfl wt_X15 (by decide) ww_191 eX23_giveList_105 h (fun v18 h => ?_)
    refine x_iconst (v := 3) C eX23_giveList_108 (by decide) ?_
    refine x_ic_ne (tgt := 149) C eX23_giveList_109 (by decide) h (fun h => ?_) (fun h => ?_)
    · refine x_sub [1, 2, 0] rfl ?_
      exact j_149 S17 x1 v10 h
    · refine x_tload_n C eX23_giveList_112 rfl 1 rfl ?_
      refine x_mV (k9 := 37) C (by decide) ww_495 eX23_giveList_113 rfl ?_
      refine x_iload_n C eX23_giveList_116 rfl 0 rfl ?_
      refine x_tload_n C eX23_giveList_117 rfl 1 rfl ?_
      refine x_aload_n C eX23_giveList_118 rfl 2 rfl ?_
      refine x_iload_n C eX23_giveList_119 rfl 3 rfl ?_
      refine x_iconst (v := (-1)) C eX23_giveList_120 (by decide) ?_
      refine x_cVr (As := [va_rf x1, .int x2, .int (-1)]) (st := [.int v10, .ref (mr 37)]) (n := 3) (frc := 3) (loc := 63) C h (fun S9 r9 e9 => k_X23_held l D K m9 mr _ S9 x1 x2 (-1) r9 e9) ww_575 ww_569 ww_570 ww_571 ww_16 (by decide +kernel) rfl ⟨by omega, by omega⟩ (Nat.le_of_ble_eq_true rfl) eX23_giveList_121 (fun S19 v20 h => ?_)
      refine x_wA (r := 37) C (by decide) rfl eX23_giveList_124 h (fun S21 h => ?_)
      refine x_tload_n C eX23_giveList_125 rfl 1 rfl ?_
      refine x_mV (k9 := 36) C (by decide) ww_494 eX23_giveList_126 rfl ?_
      refine x_iload_n C eX23_giveList_129 rfl 0 rfl ?_
      refine x_tload_n C eX23_giveList_130 rfl 1 rfl ?_
      refine x_aload_n C eX23_giveList_131 rfl 2 rfl ?_
      refine x_iload_n C eX23_giveList_132 rfl 3 rfl ?_
      refine x_tload_n C eX23_giveList_133 rfl 1 rfl ?_
      refine x_mV (k9 := 11) C (by decide) ww_114 eX23_giveList_134 rfl ?_
      refine x_aload_n C eX23_giveList_137 rfl 2 rfl ?_
      refine x_gI (o9 := x1) (ci := 15) (k9 := 4) (Cn := RX15) (T := TX15) (N := 14) C rfl wt_X15 (by decide) ww_359 eX23_giveList_138 h (fun v22 h => ?_)
      refine x_rQ (r := 11) (t9 := 3) C (by decide) rfl (by decide) rfl eX23_giveList_141 h (fun v23 h => ?_)
      refine x_gI (o9 := v23) (ci := 16) (k9 := 7) (Cn := RX16) (T := TX16) (N := 22) C rfl wt_X16 (by decide) ww_286 eX23_giveList_142 h (fun v24 h => ?_)
      refine x_cVr (As := [va_rf x1, .int x2, .int v24]) (st := [.int v10, .ref (mr 36)]) (n := 3) (frc := 3) (loc := 63) C h (fun S9 r9 e9 => k_X23_held l D K m9 mr _ S9 x1 x2 v24 r9 e9) ww_575 ww_569 ww_570 ww_571 ww_16 (by decide +kernel) rfl ⟨by omega, by omega⟩ (Nat.le_of_ble_eq_true rfl) eX23_giveList_145 (fun S25 v26 h => ?_)
      refine x_wA (r := 36) C (by decide) rfl eX23_giveList_148 h (fun S27 h => ?_)
      refine x_sub [1, 2, 0] rfl ?_
      exact j_149 S27 x1 v10 h
  have j_7 : ∀ (n_7 : Nat) (S : Sg) (x1 : Option Nat) (x2 : Int32) (x3 : Int32), f_giveList_7 K V n_7 S x1 x2 x3 = some (Sf, rf) → WX p l e R s m args below meth c Q D A K m9 mr 4 S0 S 7 [(0, .ref m9), (1, va_rf x1), (2, .int x2), (3, .int x3)] [] := by
    intro n_7
    induction n_7 with
    | zero => intro S x1 x2 x3 h; unfold f_giveList_7 at h; cases h
    | succ n_7 ih_7 =>
      intro S x1 x2 x3 h
      unfold f_giveList_7 at h
      refine x_iload_n C eX23_giveList_7 rfl 3 rfl ?_
      refine x_aload_n C eX23_giveList_8 rfl 1 rfl ?_
      refine x_gI (o9 := x1) (ci := 15) (k9 := 11) (Cn := RX15) (T := TX15) (N := 14) C rfl wt_X15 (by decide) ww_201 eX23_giveList_9 h (fun v1 h => ?_)
      refine x_ic_ge (tgt := 31) C eX23_giveList_12 (by decide) h (fun h => ?_) (fun h => ?_)
      · refine x_tload_n C eX23_giveList_31 rfl 0 rfl ?_
        refine x_aload_n C eX23_giveList_32 rfl 1 rfl ?_
        refine x_gI (o9 := x1) (ci := 15) (k9 := 0) (Cn := RX15) (T := TX15) (N := 14) C rfl wt_X15 (by decide) ww_191 eX23_giveList_33 h (fun v2 h => ?_)
        refine x_iconst (v := 3) C eX23_giveList_36 (by decide) ?_
        refine x_ic_ne (tgt := 45) C eX23_giveList_37 (by decide) h (fun h => ?_) (fun h => ?_)
        · refine x_aload_n C eX23_giveList_45 rfl 1 rfl ?_
          refine x_gI (o9 := x1) (ci := 15) (k9 := 0) (Cn := RX15) (T := TX15) (N := 14) C rfl wt_X15 (by decide) ww_191 eX23_giveList_46 h (fun v3 h => ?_)
          refine x_iconst (v := 5) C eX23_giveList_49 (by decide) ?_
          refine x_ic_ne (tgt := 58) C eX23_giveList_50 (by decide) h (fun h => ?_) (fun h => ?_)
          · refine x_bipush (v := 9) C eX23_giveList_58 (by decide) ?_
            refine x_sub [0, 1, 2] rfl ?_
            exact j_60 S x1 x2 9 h
          · refine x_bipush (v := 8) C eX23_giveList_53 (by decide) ?_
            refine x_goto (tgt := 60) C eX23_giveList_55 (by decide) ?_
            refine x_sub [0, 1, 2] rfl ?_
            exact j_60 S x1 x2 8 h
        · refine x_bipush (v := 10) C eX23_giveList_40 (by decide) ?_
          refine x_goto (tgt := 60) C eX23_giveList_42 (by decide) ?_
          refine x_sub [0, 1, 2] rfl ?_
          exact j_60 S x1 x2 10 h
      · refine x_tload_n C eX23_giveList_15 rfl 0 rfl ?_
        refine x_aload_n C eX23_giveList_16 rfl 1 rfl ?_
        refine x_gR (o9 := x1) (ci := 15) (k9 := 9) (Cn := RX15) (T := TX15) (N := 14) C rfl wt_X15 (by decide) ww_199 eX23_giveList_17 h (fun v4 h => ?_)
        refine x_iload_n C eX23_giveList_20 rfl 3 rfl ?_
        refine x_aQ (t9 := 9) C rfl eX23_giveList_21 h (fun v5 h => ?_)
        refine x_cVv (As := [va_rf v5]) (st := []) (n := 1) (frc := 5 + 2 * d) (loc := 113 + 45 * d) C h (fun S9 r9 e9 => hV _ S9 v5 r9 e9) ww_551 ww_555 ww_556 ww_557 ww_16 (by decide +kernel) rfl ⟨by omega, by omega⟩ (Nat.le_of_ble_eq_true rfl) eX23_giveList_22 (fun S6 v7 h => ?_)
        refine x_iinc (j := 3) (v := 1) (lv2 := [(0, .ref m9), (1, va_rf x1), (2, .int x2)]) C eX23_giveList_25 rfl (by decide) (by decide) rfl (oky rfl (oky (cat_rf x1) (oky rfl ok0))) ?_
        refine x_goto (tgt := 7) C eX23_giveList_28 (by decide) ?_
        refine x_sub [1, 2, 3, 0] rfl ?_
        exact ih_7 S6 x1 x2 (x3 + 1) h
  unfold f_giveList at h
  refine x_tload_n C eX23_giveList_0 rfl 0 rfl ?_
  refine x_mV (k9 := 48) C (by decide) ww_525 eX23_giveList_1 rfl ?_
  refine x_istore_n (lv2 := [(0, .ref m9), (1, va_rf x1)]) C eX23_giveList_4 rfl (by decide) rfl (oky rfl (oky (cat_rf x1) ok0)) ?_
  refine x_iconst (v := 0) C eX23_giveList_5 (by decide) ?_
  refine x_istore_n (lv2 := [(2, .int (Zi S0 48)), (0, .ref m9), (1, va_rf x1)]) C eX23_giveList_6 rfl (by decide) rfl (oky rfl (oky rfl (oky (cat_rf x1) ok0))) ?_
  refine x_sub [2, 3, 1, 0] rfl ?_
  exact j_7 bigN S0 x1 (Zi S0 48) 0 h
set_option maxRecDepth 20000 in
set_option maxHeartbeats 4000000 in
theorem k_X23_giveChain (l : Launch) (D : va_G) (K : Ky) (m9 : Nat) (mr : Nat → Nat) (V : Sg → Option Nat → Option (Sg × Unit)) (d : Nat) (hV : ∀ (S0 Sf : Sg) (x1 : Option Nat) (rf : Unit), V S0 x1 = some (Sf, rf) → CT l D K m9 mr yX23_give (Cond.code yX23_give cX23_give 2 none) (5 + 2 * d) (113 + 45 * d) S0 Sf [.ref m9, va_rf x1] none) (S0 Sf : Sg) (x1 : Option Nat) (rf : Unit) (h : f_giveChain K V S0 x1 = some (Sf, rf)) : CT l D K m9 mr yX23_giveChain (Cond.code yX23_giveChain cX23_giveChain 5 none) (6 + 2 * d) (134 + 45 * d) S0 Sf [.ref m9, va_rf x1] none := by
  refine x_start (cc := cX23_giveChain) (lv := [(0, .ref m9), (1, va_rf x1)]) rfl rfl (by decide) (by simp [lv_args, cat_rf, cat_i, cat_l, cat_a]) (by simp [lg_sl, cat_rf, cat_i, cat_l, cat_a]) (fun p e R s m args below meth c Q A C => ?_)
  have j_148 : ∀ (n_148 : Nat) (S : Sg) (x1 : Option Nat) (x2 : Option Nat) (x3 : Int32), f_giveChain_148 K V n_148 S x1 x2 x3 = some (Sf, rf) → WX p l e R s m args below meth c Q D A K m9 mr 5 S0 S 148 [(0, .ref m9), (1, va_rf x1), (2, va_rf x2), (3, .int x3)] [] := by
    intro n_148
    induction n_148 with
    | zero => intro S x1 x2 x3 h; unfold f_giveChain_148 at h; cases h
    | succ n_148 ih_148 =>
      intro S x1 x2 x3 h
      have j_216 : ∀ (S : Sg) (x1 : Option Nat) (x2 : Option Nat) (x3 : Int32), f_giveChain_216 K V (f_giveChain_148 K V n_148) S x1 x2 x3 = some (Sf, rf) → WX p l e R s m args below meth c Q D A K m9 mr 5 S0 S 216 [(0, .ref m9), (1, va_rf x1), (2, va_rf x2), (3, .int x3)] [] := by
        intro S x1 x2 x3 h
        unfold f_giveChain_216 at h
        refine x_iinc (j := 3) (v := 1) (lv2 := [(0, .ref m9), (1, va_rf x1), (2, va_rf x2)]) C eX23_giveChain_216 rfl (by decide) (by decide) rfl (oky rfl (oky (cat_rf x1) (oky (cat_rf x2) ok0))) ?_
        refine x_goto (tgt := 148) C eX23_giveChain_219 (by decide) ?_
        refine x_sub [1, 2, 3, 0] rfl ?_
        exact ih_148 S x1 x2 (x3 + 1) h
      have j_215 : ∀ (S : Sg) (x1 : Option Nat) (x2 : Option Nat) (x3 : Int32) (y0 : Int32) (y1 : Int32), f_giveChain_215 K V (f_giveChain_148 K V n_148) S x1 x2 x3 y0 y1 = some (Sf, rf) → WX p l e R s m args below meth c Q D A K m9 mr 5 S0 S 215 [(0, .ref m9), (1, va_rf x1), (2, va_rf x2), (3, .int x3)] [.int y0, .int y1, .ref (mr 30)] := by
        intro S x1 x2 x3 y0 y1 h
        unfold f_giveChain_215 at h
        refine x_wI (r := 30) C (by decide) rfl eX23_giveChain_215 h (fun S41 h => ?_)
        refine x_sub [0, 1, 2, 3] rfl ?_
        exact j_216 S41 x1 x2 x3 h
      have j_182 : ∀ (S : Sg) (x1 : Option Nat) (x2 : Option Nat) (x3 : Int32), f_giveChain_182 K V (f_giveChain_148 K V n_148) S x1 x2 x3 = some (Sf, rf) → WX p l e R s m args below meth c Q D A K m9 mr 5 S0 S 182 [(0, .ref m9), (1, va_rf x1), (2, va_rf x2), (3, .int x3)] [] := by
        intro S x1 x2 x3 h
        unfold f_giveChain_182 at h
        refine x_tload_n C eX23_giveChain_182 rfl 0 rfl ?_
        refine x_mV (k9 := 30) C (by decide) ww_489 eX23_giveChain_183 rfl ?_
        refine x_aload_n C eX23_giveChain_186 rfl 2 rfl ?_
        refine x_iload_n C eX23_giveChain_187 rfl 3 rfl ?_
        refine x_aI C eX23_giveChain_188 h (fun v36 h => ?_)
        refine x_tload_n C eX23_giveChain_189 rfl 0 rfl ?_
        refine x_mV (k9 := 30) C (by decide) ww_489 eX23_giveChain_190 rfl ?_
        refine x_aload_n C eX23_giveChain_193 rfl 2 rfl ?_
        refine x_iload_n C eX23_giveChain_194 rfl 3 rfl ?_
        refine x_aI C eX23_giveChain_195 h (fun v37 h => ?_)
        refine x_rI (r := 30) C (by decide) rfl eX23_giveChain_196 h (fun v38 h => ?_)
        refine x_if_ge (tgt := 207) C eX23_giveChain_197 (by decide) h (fun h => ?_) (fun h => ?_)
        · refine x_tload_n C eX23_giveChain_207 rfl 0 rfl ?_
          refine x_mV (k9 := 30) C (by decide) ww_489 eX23_giveChain_208 rfl ?_
          refine x_aload_n C eX23_giveChain_211 rfl 2 rfl ?_
          refine x_iload_n C eX23_giveChain_212 rfl 3 rfl ?_
          refine x_aI C eX23_giveChain_213 h (fun v39 h => ?_)
          refine x_rI (r := 30) C (by decide) rfl eX23_giveChain_214 h (fun v40 h => ?_)
          refine x_sub [0, 1, 2, 3] rfl ?_
          exact j_215 S x1 x2 x3 v40 v36 h
        · refine x_tload_n C eX23_giveChain_200 rfl 0 rfl ?_
          refine x_mV (k9 := 26) C (by decide) ww_484 eX23_giveChain_201 rfl ?_
          refine x_goto (tgt := 215) C eX23_giveChain_204 (by decide) ?_
          refine x_sub [0, 1, 2, 3] rfl ?_
          exact j_215 S x1 x2 x3 (Zi S 26) v36 h
      unfold f_giveChain_148 at h
      refine x_iload_n C eX23_giveChain_148 rfl 3 rfl ?_
      refine x_aload_n C eX23_giveChain_149 rfl 1 rfl ?_
      refine x_gI (o9 := x1) (ci := 15) (k9 := 11) (Cn := RX15) (T := TX15) (N := 14) C rfl wt_X15 (by decide) ww_201 eX23_giveChain_150 h (fun v31 h => ?_)
      refine x_ic_ge (tgt := 222) C eX23_giveChain_153 (by decide) h (fun h => ?_) (fun h => ?_)
      · exact x_vret C rfl rfl eX23_giveChain_222 h
      · refine x_tload_n C eX23_giveChain_156 rfl 0 rfl ?_
        refine x_mV (k9 := 27) C (by decide) ww_485 eX23_giveChain_157 rfl ?_
        refine x_aload_n C eX23_giveChain_160 rfl 2 rfl ?_
        refine x_iload_n C eX23_giveChain_161 rfl 3 rfl ?_
        refine x_aI C eX23_giveChain_162 h (fun v32 h => ?_)
        refine x_rI (r := 27) C (by decide) rfl eX23_giveChain_163 h (fun v33 h => ?_)
        refine x_bipush (v := 18) C eX23_giveChain_164 (by decide) ?_
        refine x_ic_eq (tgt := 182) C eX23_giveChain_166 (by decide) h (fun h => ?_) (fun h => ?_)
        · refine x_sub [0, 1, 2, 3] rfl ?_
          exact j_182 S x1 x2 x3 h
        · refine x_tload_n C eX23_giveChain_169 rfl 0 rfl ?_
          refine x_mV (k9 := 27) C (by decide) ww_485 eX23_giveChain_170 rfl ?_
          refine x_aload_n C eX23_giveChain_173 rfl 2 rfl ?_
          refine x_iload_n C eX23_giveChain_174 rfl 3 rfl ?_
          refine x_aI C eX23_giveChain_175 h (fun v34 h => ?_)
          refine x_rI (r := 27) C (by decide) rfl eX23_giveChain_176 h (fun v35 h => ?_)
          refine x_bipush (v := 19) C eX23_giveChain_177 (by decide) ?_
          refine x_ic_ne (tgt := 216) C eX23_giveChain_179 (by decide) h (fun h => ?_) (fun h => ?_)
          · refine x_sub [0, 1, 2, 3] rfl ?_
            exact j_216 S x1 x2 x3 h
          · refine x_sub [0, 1, 2, 3] rfl ?_
            exact j_182 S x1 x2 x3 h
  have j_17 : ∀ (n_17 : Nat) (S : Sg) (x1 : Option Nat) (x2 : Option Nat) (x3 : Int32), f_giveChain_17 K V n_17 S x1 x2 x3 = some (Sf, rf) → WX p l e R s m args below meth c Q D A K m9 mr 5 S0 S 17 [(0, .ref m9), (1, va_rf x1), (2, va_rf x2), (3, .int x3)] [] := by
    intro n_17
    induction n_17 with
    | zero => intro S x1 x2 x3 h; unfold f_giveChain_17 at h; cases h
    | succ n_17 ih_17 =>
      intro S x1 x2 x3 h
      have j_140 : ∀ (S : Sg) (x1 : Option Nat) (x2 : Option Nat) (x3 : Int32), f_giveChain_140 K V (f_giveChain_17 K V n_17) S x1 x2 x3 = some (Sf, rf) → WX p l e R s m args below meth c Q D A K m9 mr 5 S0 S 140 [(0, .ref m9), (1, va_rf x1), (2, va_rf x2), (3, .int x3)] [] := by
        intro S x1 x2 x3 h
        unfold f_giveChain_140 at h
        refine x_iinc (j := 3) (v := 1) (lv2 := [(0, .ref m9), (1, va_rf x1), (2, va_rf x2)]) C eX23_giveChain_140 rfl (by decide) (by decide) rfl (oky rfl (oky (cat_rf x1) (oky (cat_rf x2) ok0))) ?_
        refine x_goto (tgt := 17) C eX23_giveChain_143 (by decide) ?_
        refine x_sub [1, 2, 3, 0] rfl ?_
        exact ih_17 S x1 x2 (x3 + 1) h
      have j_69 : ∀ (S : Sg) (x1 : Option Nat) (x2 : Option Nat) (x3 : Int32) (y0 : Int32) (y2 : Int32) (y3 : Option Nat), f_giveChain_69 K V (f_giveChain_17 K V n_17) S x1 x2 x3 y0 y2 y3 = some (Sf, rf) → WX p l e R s m args below meth c Q D A K m9 mr 5 S0 S 69 [(0, .ref m9), (1, va_rf x1), (2, va_rf x2), (3, .int x3)] [.int y0, .ref m9, .int y2, va_rf y3] := by
        intro S x1 x2 x3 y0 y2 y3 h
        unfold f_giveChain_69 at h
        refine x_aload_n C eX23_giveChain_69 rfl 1 rfl ?_
        refine x_gR (o9 := x1) (ci := 15) (k9 := 10) (Cn := RX15) (T := TX15) (N := 14) C rfl wt_X15 (by decide) ww_200 eX23_giveChain_70 h (fun v21 h => ?_)
        refine x_iload_n C eX23_giveChain_73 rfl 3 rfl ?_
        refine x_aI C eX23_giveChain_74 h (fun v22 h => ?_)
        refine x_cVi (As := [.int y0, .int v22]) (st := [.int y2, va_rf y3]) (n := 2) (frc := 1) (loc := 20) C h (fun S9 r9 e9 => k_X23_point l D K m9 mr _ S9 y0 v22 r9 e9) ww_483 ww_532 ww_533 ww_534 ww_16 (by decide +kernel) rfl ⟨by omega, by omega⟩ (Nat.le_of_ble_eq_true rfl) eX23_giveChain_75 (fun S23 v24 h => ?_)
        refine x_bI C eX23_giveChain_78 h (fun S25 h => ?_)
        refine x_tload_n C eX23_giveChain_79 rfl 0 rfl ?_
        refine x_dup C eX23_giveChain_80 rfl ?_
        refine x_mV (k9 := 48) C (by decide) ww_525 eX23_giveChain_81 rfl ?_
        refine x_iconst (v := 1) C eX23_giveChain_84 (by decide) ?_
        refine x_isub C eX23_giveChain_85 ?_
        refine x_pM (k9 := 48) C (by decide) rfl (by decide) ww_525 rfl (by decide +kernel) eX23_giveChain_86 h (fun S26 h => ?_)
        refine x_tload_n C eX23_giveChain_89 rfl 0 rfl ?_
        refine x_aload_n C eX23_giveChain_90 rfl 1 rfl ?_
        refine x_gR (o9 := x1) (ci := 15) (k9 := 9) (Cn := RX15) (T := TX15) (N := 14) C rfl wt_X15 (by decide) ww_199 eX23_giveChain_91 h (fun v27 h => ?_)
        refine x_iload_n C eX23_giveChain_94 rfl 3 rfl ?_
        refine x_aQ (t9 := 9) C rfl eX23_giveChain_95 h (fun v28 h => ?_)
        refine x_cVv (As := [va_rf v28]) (st := []) (n := 1) (frc := 5 + 2 * d) (loc := 113 + 45 * d) C h (fun S9 r9 e9 => hV _ S9 v28 r9 e9) ww_551 ww_555 ww_556 ww_557 ww_16 (by decide +kernel) rfl ⟨by omega, by omega⟩ (Nat.le_of_ble_eq_true rfl) eX23_giveChain_96 (fun S29 v30 h => ?_)
        refine x_goto (tgt := 140) C eX23_giveChain_99 (by decide) ?_
        refine x_sub [0, 1, 2, 3] rfl ?_
        exact j_140 S29 x1 x2 x3 h
      have j_52 : ∀ (S : Sg) (x1 : Option Nat) (x2 : Option Nat) (x3 : Int32) (x4 : Int32), f_giveChain_52 K V (f_giveChain_17 K V n_17) S x1 x2 x3 x4 = some (Sf, rf) → WX p l e R s m args below meth c Q D A K m9 mr 5 S0 S 52 [(0, .ref m9), (1, va_rf x1), (2, va_rf x2), (3, .int x3), (4, .int x4)] [] := by
        intro S x1 x2 x3 x4 h
        unfold f_giveChain_52 at h
        refine x_aload_n C eX23_giveChain_52 rfl 2 rfl ?_
        refine x_iload_n C eX23_giveChain_53 rfl 3 rfl ?_
        refine x_tload_n C eX23_giveChain_54 rfl 0 rfl ?_
        refine x_iload C eX23_giveChain_55 4 rfl ?_
        refine x_bipush (v := 51) C eX23_giveChain_57 (by decide) ?_
        refine x_ic_ne (tgt := 67) C eX23_giveChain_59 (by decide) h (fun h => ?_) (fun h => ?_)
        · refine x_bipush (v := 19) C eX23_giveChain_67 (by decide) ?_
          refine x_sub [0, 1, 2, 3] rfl ?_
          exact j_69 S x1 x2 x3 19 x3 x2 h
        · refine x_bipush (v := 18) C eX23_giveChain_62 (by decide) ?_
          refine x_goto (tgt := 69) C eX23_giveChain_64 (by decide) ?_
          refine x_sub [0, 1, 2, 3] rfl ?_
          exact j_69 S x1 x2 x3 18 x3 x2 h
      unfold f_giveChain_17 at h
      refine x_iload_n C eX23_giveChain_17 rfl 3 rfl ?_
      refine x_aload_n C eX23_giveChain_18 rfl 1 rfl ?_
      refine x_gI (o9 := x1) (ci := 15) (k9 := 11) (Cn := RX15) (T := TX15) (N := 14) C rfl wt_X15 (by decide) ww_201 eX23_giveChain_19 h (fun v7 h => ?_)
      refine x_ic_ge (tgt := 146) C eX23_giveChain_22 (by decide) h (fun h => ?_) (fun h => ?_)
      · refine x_iconst (v := 0) C eX23_giveChain_146 (by decide) ?_
        refine x_istore_n (lv2 := [(0, .ref m9), (1, va_rf x1), (2, va_rf x2)]) C eX23_giveChain_147 rfl (by decide) rfl (oky rfl (oky (cat_rf x1) (oky (cat_rf x2) ok0))) ?_
        refine x_sub [1, 2, 3, 0] rfl ?_
        exact j_148 bigN S x1 x2 0 h
      · refine x_tload_n C eX23_giveChain_25 rfl 0 rfl ?_
        refine x_mV (k9 := 5) C (by decide) ww_10 eX23_giveChain_26 rfl ?_
        refine x_aload_n C eX23_giveChain_29 rfl 1 rfl ?_
        refine x_gR (o9 := x1) (ci := 15) (k9 := 10) (Cn := RX15) (T := TX15) (N := 14) C rfl wt_X15 (by decide) ww_200 eX23_giveChain_30 h (fun v8 h => ?_)
        refine x_iload_n C eX23_giveChain_33 rfl 3 rfl ?_
        refine x_aI C eX23_giveChain_34 h (fun v9 h => ?_)
        refine x_rI (r := 5) C (by decide) rfl eX23_giveChain_35 h (fun v10 h => ?_)
        refine x_istore (lv2 := [(0, .ref m9), (1, va_rf x1), (2, va_rf x2), (3, .int x3)]) C eX23_giveChain_36 (by decide) rfl (oky rfl (oky (cat_rf x1) (oky (cat_rf x2) (oky rfl ok0)))) ?_
        refine x_iload C eX23_giveChain_38 0 rfl ?_
        refine x_bipush (v := 51) C eX23_giveChain_40 (by decide) ?_
        refine x_ic_eq (tgt := 52) C eX23_giveChain_42 (by decide) h (fun h => ?_) (fun h => ?_)
        · refine x_sub [1, 2, 3, 4, 0] rfl ?_
          exact j_52 S x1 x2 x3 v10 h
        · refine x_iload C eX23_giveChain_45 0 rfl ?_
          refine x_bipush (v := 52) C eX23_giveChain_47 (by decide) ?_
          refine x_ic_ne (tgt := 102) C eX23_giveChain_49 (by decide) h (fun h => ?_) (fun h => ?_)
          · refine x_tload_n C eX23_giveChain_102 rfl 1 rfl ?_
            refine x_aload_n C eX23_giveChain_103 rfl 2 rfl ?_
            refine x_gR (o9 := x1) (ci := 15) (k9 := 9) (Cn := RX15) (T := TX15) (N := 14) C rfl wt_X15 (by decide) ww_199 eX23_giveChain_104 h (fun v11 h => ?_)
            refine x_iload_n C eX23_giveChain_107 rfl 4 rfl ?_
            refine x_aQ (t9 := 9) C rfl eX23_giveChain_108 h (fun v12 h => ?_)
            refine x_cVv (As := [va_rf v12]) (st := []) (n := 1) (frc := 5 + 2 * d) (loc := 113 + 45 * d) C h (fun S9 r9 e9 => hV _ S9 v12 r9 e9) ww_551 ww_555 ww_556 ww_557 ww_16 (by decide +kernel) rfl ⟨by omega, by omega⟩ (Nat.le_of_ble_eq_true rfl) eX23_giveChain_109 (fun S13 v14 h => ?_)
            refine x_tload_n C eX23_giveChain_112 rfl 1 rfl ?_
            refine x_mV (k9 := 28) C (by decide) ww_487 eX23_giveChain_113 rfl ?_
            refine x_tload_n C eX23_giveChain_116 rfl 1 rfl ?_
            refine x_iconst (v := 4) C eX23_giveChain_117 (by decide) ?_
            refine x_aload_n C eX23_giveChain_118 rfl 2 rfl ?_
            refine x_gR (o9 := x1) (ci := 15) (k9 := 10) (Cn := RX15) (T := TX15) (N := 14) C rfl wt_X15 (by decide) ww_200 eX23_giveChain_119 h (fun v15 h => ?_)
            refine x_iload_n C eX23_giveChain_122 rfl 4 rfl ?_
            refine x_aI C eX23_giveChain_123 h (fun v16 h => ?_)
            refine x_cVi (As := [.int 4, .int v16]) (st := [.ref (mr 28)]) (n := 2) (frc := 1) (loc := 20) C h (fun S9 r9 e9 => k_X23_point l D K m9 mr _ S9 4 v16 r9 e9) ww_483 ww_532 ww_533 ww_534 ww_16 (by decide +kernel) rfl ⟨by omega, by omega⟩ (Nat.le_of_ble_eq_true rfl) eX23_giveChain_124 (fun S17 v18 h => ?_)
            refine x_iload C eX23_giveChain_127 0 rfl ?_
            refine x_wI (r := 28) C (by decide) rfl eX23_giveChain_129 h (fun S19 h => ?_)
            refine x_tload_n C eX23_giveChain_130 rfl 1 rfl ?_
            refine x_dup C eX23_giveChain_131 rfl ?_
            refine x_mV (k9 := 48) C (by decide) ww_525 eX23_giveChain_132 rfl ?_
            refine x_iconst (v := 1) C eX23_giveChain_135 (by decide) ?_
            refine x_isub C eX23_giveChain_136 ?_
            refine x_pM (k9 := 48) C (by decide) rfl (by decide) ww_525 rfl (by decide +kernel) eX23_giveChain_137 h (fun S20 h => ?_)
            refine x_sub [1, 2, 3, 4] rfl ?_
            exact j_140 S20 x1 x2 x3 h
          · refine x_sub [1, 2, 3, 4, 0] rfl ?_
            exact j_52 S x1 x2 x3 v10 h
  unfold f_giveChain at h
  refine x_tload_n C eX23_giveChain_0 rfl 0 rfl ?_
  refine x_aload_n C eX23_giveChain_1 rfl 1 rfl ?_
  refine x_gR (o9 := x1) (ci := 15) (k9 := 8) (Cn := RX15) (T := TX15) (N := 14) C rfl wt_X15 (by decide) ww_192 eX23_giveChain_2 h (fun v1 h => ?_)
  refine x_cVv (As := [va_rf v1]) (st := []) (n := 1) (frc := 5 + 2 * d) (loc := 113 + 45 * d) C h (fun S9 r9 e9 => hV _ S9 v1 r9 e9) ww_551 ww_555 ww_556 ww_557 ww_16 (by decide +kernel) rfl ⟨by omega, by omega⟩ (Nat.le_of_ble_eq_true rfl) eX23_giveChain_5 (fun S2 v3 h => ?_)
  refine x_aload_n C eX23_giveChain_8 rfl 1 rfl ?_
  refine x_gI (o9 := x1) (ci := 15) (k9 := 11) (Cn := RX15) (T := TX15) (N := 14) C rfl wt_X15 (by decide) ww_201 eX23_giveChain_9 h (fun v4 h => ?_)
  refine x_nA C ww_88 eX23_giveChain_12 h (fun S5 a6 h => ?_)
  refine x_astore_n (lv2 := [(0, .ref m9), (1, va_rf x1)]) C eX23_giveChain_14 rfl (by decide) rfl (oky rfl (oky (cat_rf x1) ok0)) ?_
  refine x_iconst (v := 0) C eX23_giveChain_15 (by decide) ?_
  refine x_istore_n (lv2 := [(2, va_rf (some a6)), (0, .ref m9), (1, va_rf x1)]) C eX23_giveChain_16 rfl (by decide) rfl (oky (cat_rf (some a6)) (oky rfl (oky (cat_rf x1) ok0))) ?_
  refine x_sub [2, 3, 1, 0] rfl ?_
  exact j_17 bigN S5 x1 (some a6) 0 h
set_option maxRecDepth 20000 in
set_option maxHeartbeats 4000000 in
theorem k_X23_give (l : Launch) (D : va_G) (K : Ky) (m9 : Nat) (mr : Nat → Nat) : ∀ (d : Nat) (S0 Sf : Sg) (x1 : Option Nat) (rf : Unit), f_give K d S0 x1 = some (Sf, rf) → CT l D K m9 mr yX23_give (Cond.code yX23_give cX23_give 2 none) (5 + 2 * d) (113 + 45 * d) S0 Sf [.ref m9, va_rf x1] none := by
  intro d
  induction d with
  | zero => intro S0 Sf x1 rf h; unfold f_give at h; cases h
  | succ d ih =>
    intro S0 Sf x1 rf h
    refine x_start (cc := cX23_give) (lv := [(0, .ref m9), (1, va_rf x1)]) rfl rfl (by decide) (by simp [lv_args, cat_rf, cat_i, cat_l, cat_a]) (by simp [lg_sl, cat_rf, cat_i, cat_l, cat_a]) (fun p e R s m args below meth c Q A C => ?_)
    have j_251 : ∀ (S : Sg), f_give_251 K (f_give K d) S = some (Sf, rf) → WX p l e R s m args below meth c Q D A K m9 mr 2 S0 S 251 [] [] := by
      intro S h
      unfold f_give_251 at h
      exact x_vret C rfl rfl eX23_give_251 h
    have j_96 : ∀ (S : Sg) (x1 : Option Nat), f_give_96 K (f_give K d) S x1 = some (Sf, rf) → WX p l e R s m args below meth c Q D A K m9 mr 2 S0 S 96 [(0, .ref m9), (1, va_rf x1)] [] := by
      intro S x1 h
      unfold f_give_96 at h
      refine x_tload_n C eX23_give_96 rfl 0 rfl ?_
      refine x_mV (k9 := 31) C (by decide) ww_490 eX23_give_97 rfl ?_
      refine x_tload_n C eX23_give_100 rfl 0 rfl ?_
      refine x_iconst (v := 1) C eX23_give_101 (by decide) ?_
      refine x_aload_n C eX23_give_102 rfl 1 rfl ?_
      refine x_gI (o9 := x1) (ci := 15) (k9 := 1) (Cn := RX15) (T := TX15) (N := 14) C rfl wt_X15 (by decide) ww_211 eX23_give_103 h (fun v35 h => ?_)
      refine x_cVi (As := [.int 1, .int v35]) (st := [.ref (mr 31)]) (n := 2) (frc := 1) (loc := 20) C h (fun S9 r9 e9 => k_X23_point l D K m9 mr _ S9 1 v35 r9 e9) ww_483 ww_532 ww_533 ww_534 ww_16 (by decide +kernel) rfl ⟨by omega, by omega⟩ (Nat.le_of_ble_eq_true rfl) eX23_give_106 (fun S36 v37 h => ?_)
      refine x_aload_n C eX23_give_109 rfl 1 rfl ?_
      refine x_gJ (o9 := x1) (ci := 15) (k9 := 6) (Cn := RX15) (T := TX15) (N := 14) C rfl wt_X15 (by decide) ww_228 eX23_give_110 h (fun v38 h => ?_)
      refine x_wJ (r := 31) C (by decide) rfl eX23_give_113 h (fun S39 h => ?_)
      refine x_tload_n C eX23_give_114 rfl 0 rfl ?_
      refine x_dup C eX23_give_115 rfl ?_
      refine x_mV (k9 := 48) C (by decide) ww_525 eX23_give_116 rfl ?_
      refine x_iconst (v := 1) C eX23_give_119 (by decide) ?_
      refine x_iadd C eX23_give_120 ?_
      refine x_pM (k9 := 48) C (by decide) rfl (by decide) ww_525 rfl (by decide +kernel) eX23_give_121 h (fun S40 h => ?_)
      refine x_goto (tgt := 251) C eX23_give_124 (by decide) ?_
      refine x_sub [] rfl ?_
      exact j_251 S40 h
    have j_151 : ∀ (S : Sg) (x1 : Option Nat), f_give_151 K (f_give K d) S x1 = some (Sf, rf) → WX p l e R s m args below meth c Q D A K m9 mr 2 S0 S 151 [(0, .ref m9), (1, va_rf x1)] [] := by
      intro S x1 h
      unfold f_give_151 at h
      refine x_tload_n C eX23_give_151 rfl 0 rfl ?_
      refine x_aload_n C eX23_give_152 rfl 1 rfl ?_
      refine x_gR (o9 := x1) (ci := 15) (k9 := 8) (Cn := RX15) (T := TX15) (N := 14) C rfl wt_X15 (by decide) ww_192 eX23_give_153 h (fun v30 h => ?_)
      refine x_cVv (As := [va_rf v30]) (st := []) (n := 1) (frc := 5 + 2 * d) (loc := 113 + 45 * d) C h (fun S9 r9 e9 => ih _ S9 v30 r9 e9) ww_551 ww_555 ww_556 ww_557 ww_16 (by decide +kernel) rfl ⟨by omega, by omega⟩ (Nat.le_of_ble_eq_true rfl) eX23_give_156 (fun S31 v32 h => ?_)
      refine x_goto (tgt := 251) C eX23_give_159 (by decide) ?_
      refine x_sub [] rfl ?_
      exact j_251 S31 h
    have j_186 : ∀ (S : Sg) (x1 : Option Nat) (y0 : Int32), f_give_186 K (f_give K d) S x1 y0 = some (Sf, rf) → WX p l e R s m args below meth c Q D A K m9 mr 2 S0 S 186 [(1, va_rf x1)] [.int y0, .ref m9] := by
      intro S x1 y0 h
      unfold f_give_186 at h
      refine x_aload_n C eX23_give_186 rfl 0 rfl ?_
      refine x_gI (o9 := x1) (ci := 15) (k9 := 1) (Cn := RX15) (T := TX15) (N := 14) C rfl wt_X15 (by decide) ww_211 eX23_give_187 h (fun v27 h => ?_)
      refine x_cVi (As := [.int y0, .int v27]) (st := []) (n := 2) (frc := 1) (loc := 20) C h (fun S9 r9 e9 => k_X23_point l D K m9 mr _ S9 y0 v27 r9 e9) ww_483 ww_532 ww_533 ww_534 ww_16 (by decide +kernel) rfl ⟨by omega, by omega⟩ (Nat.le_of_ble_eq_true rfl) eX23_give_190 (fun S28 v29 h => ?_)
      refine x_pop C eX23_give_193 rfl ?_
      refine x_goto (tgt := 251) C eX23_give_194 (by decide) ?_
      refine x_sub [] rfl ?_
      exact j_251 S28 h
    have j_162 : ∀ (S : Sg) (x1 : Option Nat), f_give_162 K (f_give K d) S x1 = some (Sf, rf) → WX p l e R s m args below meth c Q D A K m9 mr 2 S0 S 162 [(0, .ref m9), (1, va_rf x1)] [] := by
      intro S x1 h
      unfold f_give_162 at h
      refine x_tload_n C eX23_give_162 rfl 0 rfl ?_
      refine x_aload_n C eX23_give_163 rfl 1 rfl ?_
      refine x_gR (o9 := x1) (ci := 15) (k9 := 8) (Cn := RX15) (T := TX15) (N := 14) C rfl wt_X15 (by decide) ww_192 eX23_give_164 h (fun v23 h => ?_)
      refine x_cVv (As := [va_rf v23]) (st := []) (n := 1) (frc := 5 + 2 * d) (loc := 113 + 45 * d) C h (fun S9 r9 e9 => ih _ S9 v23 r9 e9) ww_551 ww_555 ww_556 ww_557 ww_16 (by decide +kernel) rfl ⟨by omega, by omega⟩ (Nat.le_of_ble_eq_true rfl) eX23_give_167 (fun S24 v25 h => ?_)
      refine x_tload_n C eX23_give_170 rfl 0 rfl ?_
      refine x_aload_n C eX23_give_171 rfl 1 rfl ?_
      refine x_gI (o9 := x1) (ci := 15) (k9 := 0) (Cn := RX15) (T := TX15) (N := 14) C rfl wt_X15 (by decide) ww_191 eX23_give_172 h (fun v26 h => ?_)
      refine x_bipush (v := 9) C eX23_give_175 (by decide) ?_
      refine x_ic_ne (tgt := 184) C eX23_give_177 (by decide) h (fun h => ?_) (fun h => ?_)
      · refine x_bipush (v := 6) C eX23_give_184 (by decide) ?_
        refine x_sub [1] rfl ?_
        exact j_186 S24 x1 6 h
      · refine x_iconst (v := 5) C eX23_give_180 (by decide) ?_
        refine x_goto (tgt := 186) C eX23_give_181 (by decide) ?_
        refine x_sub [1] rfl ?_
        exact j_186 S24 x1 5 h
    have j_246 : ∀ (S : Sg) (x1 : Option Nat), f_give_246 K (f_give K d) S x1 = some (Sf, rf) → WX p l e R s m args below meth c Q D A K m9 mr 2 S0 S 246 [(0, .ref m9), (1, va_rf x1)] [] := by
      intro S x1 h
      unfold f_give_246 at h
      refine x_tload_n C eX23_give_246 rfl 0 rfl ?_
      refine x_aload_n C eX23_give_247 rfl 1 rfl ?_
      refine x_cVv (As := [va_rf x1]) (st := []) (n := 1) (frc := 6 + 2 * d) (loc := 134 + 45 * d) C h (fun S9 r9 e9 => k_X23_giveList l D K m9 mr (f_give K d) d ih _ S9 x1 r9 e9) ww_568 ww_564 ww_565 ww_566 ww_16 (by decide +kernel) rfl ⟨by omega, by omega⟩ (Nat.le_of_ble_eq_true rfl) eX23_give_248 (fun S33 v34 h => ?_)
      refine x_sub [] rfl ?_
      exact j_251 S33 h
    unfold f_give at h
    refine x_aload_n C eX23_give_0 rfl 1 rfl ?_
    refine x_cSi (As := [va_rf x1]) (st := []) (n := 1) (frc := 1) (loc := 20) C h (fun S9 r9 e9 => k_X23_isPlace l D K m9 mr _ S9 x1 r9 e9) ww_190 ww_160 ww_161 ww_16 (by decide +kernel) rfl ⟨by omega, by omega⟩ (Nat.le_of_ble_eq_true rfl) eX23_give_1 (fun S1 v2 h => ?_)
    refine x_if_eq (tgt := 13) C eX23_give_4 (by decide) h (fun h => ?_) (fun h => ?_)
    · refine x_aload_n C eX23_give_13 rfl 1 rfl ?_
      refine x_gI (o9 := x1) (ci := 15) (k9 := 0) (Cn := RX15) (T := TX15) (N := 14) C rfl wt_X15 (by decide) ww_191 eX23_give_14 h (fun v3 h => ?_)
      refine x_tabIn (v := 0) (tgt := 96) C eX23_give_17 (by decide) (by decide) rfl (by decide) h (fun h => ?_) (fun hq0 h => ?_)
      · refine x_sub [0, 1] rfl ?_
        exact j_96 S1 x1 h
      · refine x_tabIn (v := 1) (tgt := 96) C eX23_give_17 (by decide) (by decide) rfl (by decide) h (fun h => ?_) (fun hq1 h => ?_)
        · refine x_sub [0, 1] rfl ?_
          exact j_96 S1 x1 h
        · refine x_tabIn (v := 2) (tgt := 246) C eX23_give_17 (by decide) (by decide) rfl (by decide) h (fun h => ?_) (fun hq2 h => ?_)
          · refine x_sub [0, 1] rfl ?_
            exact j_246 S1 x1 h
          · refine x_tabIn (v := 3) (tgt := 246) C eX23_give_17 (by decide) (by decide) rfl (by decide) h (fun h => ?_) (fun hq3 h => ?_)
            · refine x_sub [0, 1] rfl ?_
              exact j_246 S1 x1 h
            · refine x_tabIn (v := 4) (tgt := 151) C eX23_give_17 (by decide) (by decide) rfl (by decide) h (fun h => ?_) (fun hq4 h => ?_)
              · refine x_sub [0, 1] rfl ?_
                exact j_151 S1 x1 h
              · refine x_tabIn (v := 5) (tgt := 246) C eX23_give_17 (by decide) (by decide) rfl (by decide) h (fun h => ?_) (fun hq5 h => ?_)
                · refine x_sub [0, 1] rfl ?_
                  exact j_246 S1 x1 h
                · refine x_tabIn (v := 6) (tgt := 246) C eX23_give_17 (by decide) (by decide) rfl (by decide) h (fun h => ?_) (fun hq6 h => ?_)
                  · refine x_sub [0, 1] rfl ?_
                    exact j_246 S1 x1 h
                  · refine x_tabIn (v := 7) (tgt := 151) C eX23_give_17 (by decide) (by decide) rfl (by decide) h (fun h => ?_) (fun hq7 h => ?_)
                    · refine x_sub [0, 1] rfl ?_
                      exact j_151 S1 x1 h
                    · refine x_tabIn (v := 8) (tgt := 238) C eX23_give_17 (by decide) (by decide) rfl (by decide) h (fun h => ?_) (fun hq8 h => ?_)
                      · refine x_tload_n C eX23_give_238 rfl 0 rfl ?_
                        refine x_aload_n C eX23_give_239 rfl 1 rfl ?_
                        refine x_cVv (As := [va_rf x1]) (st := []) (n := 1) (frc := 6 + 2 * d) (loc := 134 + 45 * d) C h (fun S9 r9 e9 => k_X23_giveChain l D K m9 mr (f_give K d) d ih _ S9 x1 r9 e9) ww_567 ww_561 ww_562 ww_563 ww_16 (by decide +kernel) rfl ⟨by omega, by omega⟩ (Nat.le_of_ble_eq_true rfl) eX23_give_240 (fun S4 v5 h => ?_)
                        refine x_goto (tgt := 251) C eX23_give_243 (by decide) ?_
                        refine x_sub [] rfl ?_
                        exact j_251 S4 h
                      · refine x_tabIn (v := 9) (tgt := 162) C eX23_give_17 (by decide) (by decide) rfl (by decide) h (fun h => ?_) (fun hq9 h => ?_)
                        · refine x_sub [0, 1] rfl ?_
                          exact j_162 S1 x1 h
                        · refine x_tabIn (v := 10) (tgt := 162) C eX23_give_17 (by decide) (by decide) rfl (by decide) h (fun h => ?_) (fun hq10 h => ?_)
                          · refine x_sub [0, 1] rfl ?_
                            exact j_162 S1 x1 h
                          · refine x_tabIn (v := 11) (tgt := 246) C eX23_give_17 (by decide) (by decide) rfl (by decide) h (fun h => ?_) (fun hq11 h => ?_)
                            · refine x_sub [0, 1] rfl ?_
                              exact j_246 S1 x1 h
                            · refine x_tabIn (v := 12) (tgt := 197) C eX23_give_17 (by decide) (by decide) rfl (by decide) h (fun h => ?_) (fun hq12 h => ?_)
                              · refine x_tload_n C eX23_give_197 rfl 0 rfl ?_
                                refine x_aload_n C eX23_give_198 rfl 1 rfl ?_
                                refine x_cVv (As := [va_rf x1]) (st := []) (n := 1) (frc := 4) (loc := 88) C h (fun S9 r9 e9 => k_X23_lend l D K m9 mr _ S9 x1 r9 e9) ww_547 ww_558 ww_559 ww_560 ww_16 (by decide +kernel) rfl ⟨by omega, by omega⟩ (Nat.le_of_ble_eq_true rfl) eX23_give_199 (fun S6 v7 h => ?_)
                                refine x_goto (tgt := 251) C eX23_give_202 (by decide) ?_
                                refine x_sub [] rfl ?_
                                exact j_251 S6 h
                              · refine x_tabIn (v := 13) (tgt := 205) C eX23_give_17 (by decide) (by decide) rfl (by decide) h (fun h => ?_) (fun hq13 h => ?_)
                                · refine x_tload_n C eX23_give_205 rfl 0 rfl ?_
                                  refine x_aload_n C eX23_give_206 rfl 1 rfl ?_
                                  refine x_gR (o9 := x1) (ci := 15) (k9 := 8) (Cn := RX15) (T := TX15) (N := 14) C rfl wt_X15 (by decide) ww_192 eX23_give_207 h (fun v8 h => ?_)
                                  refine x_cVv (As := [va_rf v8]) (st := []) (n := 1) (frc := 5 + 2 * d) (loc := 113 + 45 * d) C h (fun S9 r9 e9 => ih _ S9 v8 r9 e9) ww_551 ww_555 ww_556 ww_557 ww_16 (by decide +kernel) rfl ⟨by omega, by omega⟩ (Nat.le_of_ble_eq_true rfl) eX23_give_210 (fun S9 v10 h => ?_)
                                  refine x_tload_n C eX23_give_213 rfl 0 rfl ?_
                                  refine x_mV (k9 := 39) C (by decide) ww_497 eX23_give_214 rfl ?_
                                  refine x_tload_n C eX23_give_217 rfl 0 rfl ?_
                                  refine x_bipush (v := 7) C eX23_give_218 (by decide) ?_
                                  refine x_aload_n C eX23_give_220 rfl 1 rfl ?_
                                  refine x_gI (o9 := x1) (ci := 15) (k9 := 1) (Cn := RX15) (T := TX15) (N := 14) C rfl wt_X15 (by decide) ww_211 eX23_give_221 h (fun v11 h => ?_)
                                  refine x_cVi (As := [.int 7, .int v11]) (st := [.ref (mr 39)]) (n := 2) (frc := 1) (loc := 20) C h (fun S9 r9 e9 => k_X23_point l D K m9 mr _ S9 7 v11 r9 e9) ww_483 ww_532 ww_533 ww_534 ww_16 (by decide +kernel) rfl ⟨by omega, by omega⟩ (Nat.le_of_ble_eq_true rfl) eX23_give_224 (fun S12 v13 h => ?_)
                                  refine x_aload_n C eX23_give_227 rfl 1 rfl ?_
                                  refine x_gR (o9 := x1) (ci := 15) (k9 := 8) (Cn := RX15) (T := TX15) (N := 14) C rfl wt_X15 (by decide) ww_192 eX23_give_228 h (fun v14 h => ?_)
                                  refine x_gR (o9 := v14) (ci := 15) (k9 := 12) (Cn := RX15) (T := TX15) (N := 14) C rfl wt_X15 (by decide) ww_338 eX23_give_231 h (fun v15 h => ?_)
                                  refine x_wQ (r := 39) (t9 := 4) (ci := 20) C (by decide) rfl (by decide) rfl rfl eX23_give_234 h (fun S16 h => ?_)
                                  refine x_goto (tgt := 251) C eX23_give_235 (by decide) ?_
                                  refine x_sub [] rfl ?_
                                  exact j_251 S16 h
                                · refine x_tabIn (v := 14) (tgt := 246) C eX23_give_17 (by decide) (by decide) rfl (by decide) h (fun h => ?_) (fun hq14 h => ?_)
                                  · refine x_sub [0, 1] rfl ?_
                                    exact j_246 S1 x1 h
                                  · refine x_tabIn (v := 15) (tgt := 127) C eX23_give_17 (by decide) (by decide) rfl (by decide) h (fun h => ?_) (fun hq15 h => ?_)
                                    · refine x_tload_n C eX23_give_127 rfl 0 rfl ?_
                                      refine x_bipush (v := 27) C eX23_give_128 (by decide) ?_
                                      refine x_aload_n C eX23_give_130 rfl 1 rfl ?_
                                      refine x_gI (o9 := x1) (ci := 15) (k9 := 1) (Cn := RX15) (T := TX15) (N := 14) C rfl wt_X15 (by decide) ww_211 eX23_give_131 h (fun v17 h => ?_)
                                      refine x_cVi (As := [.int 27, .int v17]) (st := []) (n := 2) (frc := 1) (loc := 20) C h (fun S9 r9 e9 => k_X23_point l D K m9 mr _ S9 27 v17 r9 e9) ww_483 ww_532 ww_533 ww_534 ww_16 (by decide +kernel) rfl ⟨by omega, by omega⟩ (Nat.le_of_ble_eq_true rfl) eX23_give_134 (fun S18 v19 h => ?_)
                                      refine x_pop C eX23_give_137 rfl ?_
                                      refine x_tload_n C eX23_give_138 rfl 0 rfl ?_
                                      refine x_dup C eX23_give_139 rfl ?_
                                      refine x_mV (k9 := 48) C (by decide) ww_525 eX23_give_140 rfl ?_
                                      refine x_iconst (v := 1) C eX23_give_143 (by decide) ?_
                                      refine x_iadd C eX23_give_144 ?_
                                      refine x_pM (k9 := 48) C (by decide) rfl (by decide) ww_525 rfl (by decide +kernel) eX23_give_145 h (fun S20 h => ?_)
                                      refine x_goto (tgt := 251) C eX23_give_148 (by decide) ?_
                                      refine x_sub [] rfl ?_
                                      exact j_251 S20 h
                                    · have hq0i : (v3 : Int32).toInt ≠ 0 := fun q9 => hq0 (Int32.toInt_inj.mp q9)
                                      have hq1i : (v3 : Int32).toInt ≠ 1 := fun q9 => hq1 (Int32.toInt_inj.mp q9)
                                      have hq2i : (v3 : Int32).toInt ≠ 2 := fun q9 => hq2 (Int32.toInt_inj.mp q9)
                                      have hq3i : (v3 : Int32).toInt ≠ 3 := fun q9 => hq3 (Int32.toInt_inj.mp q9)
                                      have hq4i : (v3 : Int32).toInt ≠ 4 := fun q9 => hq4 (Int32.toInt_inj.mp q9)
                                      have hq5i : (v3 : Int32).toInt ≠ 5 := fun q9 => hq5 (Int32.toInt_inj.mp q9)
                                      have hq6i : (v3 : Int32).toInt ≠ 6 := fun q9 => hq6 (Int32.toInt_inj.mp q9)
                                      have hq7i : (v3 : Int32).toInt ≠ 7 := fun q9 => hq7 (Int32.toInt_inj.mp q9)
                                      have hq8i : (v3 : Int32).toInt ≠ 8 := fun q9 => hq8 (Int32.toInt_inj.mp q9)
                                      have hq9i : (v3 : Int32).toInt ≠ 9 := fun q9 => hq9 (Int32.toInt_inj.mp q9)
                                      have hq10i : (v3 : Int32).toInt ≠ 10 := fun q9 => hq10 (Int32.toInt_inj.mp q9)
                                      have hq11i : (v3 : Int32).toInt ≠ 11 := fun q9 => hq11 (Int32.toInt_inj.mp q9)
                                      have hq12i : (v3 : Int32).toInt ≠ 12 := fun q9 => hq12 (Int32.toInt_inj.mp q9)
                                      have hq13i : (v3 : Int32).toInt ≠ 13 := fun q9 => hq13 (Int32.toInt_inj.mp q9)
                                      have hq14i : (v3 : Int32).toInt ≠ 14 := fun q9 => hq14 (Int32.toInt_inj.mp q9)
                                      have hq15i : (v3 : Int32).toInt ≠ 15 := fun q9 => hq15 (Int32.toInt_inj.mp q9)
                                      refine x_tabOut (tgt := 246) C eX23_give_17 (by omega) (by decide) ?_
                                      refine x_sub [0, 1] rfl ?_
                                      exact j_246 S1 x1 h
    · refine x_tload_n C eX23_give_7 rfl 0 rfl ?_
      refine x_aload_n C eX23_give_8 rfl 1 rfl ?_
      refine x_cVv (As := [va_rf x1]) (st := []) (n := 1) (frc := 4) (loc := 88) C h (fun S9 r9 e9 => k_X23_read l D K m9 mr _ S9 x1 r9 e9) ww_528 ww_552 ww_553 ww_554 ww_16 (by decide +kernel) rfl ⟨by omega, by omega⟩ (Nat.le_of_ble_eq_true rfl) eX23_give_9 (fun S21 v22 h => ?_)
      exact x_vret C rfl rfl eX23_give_12 h
set_option maxRecDepth 20000 in
set_option maxHeartbeats 4000000 in
theorem k_X23_comesAlive (l : Launch) (D : va_G) (K : Ky) (m9 : Nat) (mr : Nat → Nat) (S0 Sf : Sg) (x1 : Option Nat) (rf : Unit) (h : f_comesAlive K S0 x1 = some (Sf, rf)) : CT l D K m9 mr yX23_comesAlive (Cond.code yX23_comesAlive cX23_comesAlive 2 none) (1) (20) S0 Sf [.ref m9, va_rf x1] none := by
  refine x_start (cc := cX23_comesAlive) (lv := [(0, .ref m9), (1, va_rf x1)]) rfl rfl (by decide) (by simp [lv_args, cat_rf, cat_i, cat_l, cat_a]) (by simp [lg_sl, cat_rf, cat_i, cat_l, cat_a]) (fun p e R s m args below meth c Q A C => ?_)
  unfold f_comesAlive at h
  refine x_tload_n C eX23_comesAlive_0 rfl 0 rfl ?_
  refine x_mV (k9 := 49) C (by decide) ww_582 eX23_comesAlive_1 rfl ?_
  refine x_tload_n C eX23_comesAlive_4 rfl 0 rfl ?_
  refine x_mV (k9 := 50) C (by decide) ww_583 eX23_comesAlive_5 rfl ?_
  refine x_aload_n C eX23_comesAlive_8 rfl 1 rfl ?_
  refine x_wQ (r := 49) (t9 := 5) (ci := 21) C (by decide) rfl (by decide) rfl rfl eX23_comesAlive_9 h (fun S1 h => ?_)
  refine x_tload_n C eX23_comesAlive_10 rfl 0 rfl ?_
  refine x_dup C eX23_comesAlive_11 rfl ?_
  refine x_mV (k9 := 50) C (by decide) ww_583 eX23_comesAlive_12 rfl ?_
  refine x_iconst (v := 1) C eX23_comesAlive_15 (by decide) ?_
  refine x_iadd C eX23_comesAlive_16 ?_
  refine x_pM (k9 := 50) C (by decide) rfl (by decide) ww_583 rfl (by decide +kernel) eX23_comesAlive_17 h (fun S2 h => ?_)
  exact x_vret C rfl rfl eX23_comesAlive_20 h
set_option maxRecDepth 20000 in
set_option maxHeartbeats 4000000 in
theorem k_X23_goOut (l : Launch) (D : va_G) (K : Ky) (m9 : Nat) (mr : Nat → Nat) (S0 Sf : Sg) (x1 : Int32) (x2 : Int32) (rf : Unit) (h : f_goOut K S0 x1 x2 = some (Sf, rf)) : CT l D K m9 mr yX23_goOut (Cond.code yX23_goOut cX23_goOut 5 none) (3) (61) S0 Sf [.ref m9, .int x1, .int x2] none := by
  refine x_start (cc := cX23_goOut) (lv := [(0, .ref m9), (1, .int x1), (2, .int x2)]) rfl rfl (by decide) (by simp [lv_args, cat_rf, cat_i, cat_l, cat_a]) (by simp [lg_sl, cat_rf, cat_i, cat_l, cat_a]) (fun p e R s m args below meth c Q A C => ?_)
  have j_7 : ∀ (n_7 : Nat) (S : Sg) (x1 : Int32) (x2 : Int32) (x3 : Int32), f_goOut_7 K n_7 S x1 x2 x3 = some (Sf, rf) → WX p l e R s m args below meth c Q D A K m9 mr 5 S0 S 7 [(0, .ref m9), (1, .int x1), (2, .int x2), (3, .int x3)] [] := by
    intro n_7
    induction n_7 with
    | zero => intro S x1 x2 x3 h; unfold f_goOut_7 at h; cases h
    | succ n_7 ih_7 =>
      intro S x1 x2 x3 h
      unfold f_goOut_7 at h
      refine x_iload_n C eX23_goOut_7 rfl 3 rfl ?_
      refine x_iload_n C eX23_goOut_8 rfl 1 rfl ?_
      refine x_ic_lt (tgt := 81) C eX23_goOut_9 (by decide) h (fun h => ?_) (fun h => ?_)
      · exact x_vret C rfl rfl eX23_goOut_81 h
      · refine x_tload_n C eX23_goOut_12 rfl 0 rfl ?_
        refine x_bipush (v := 24) C eX23_goOut_13 (by decide) ?_
        refine x_iload_n C eX23_goOut_15 rfl 2 rfl ?_
        refine x_cVi (As := [.int 24, .int x2]) (st := []) (n := 2) (frc := 1) (loc := 20) C h (fun S9 r9 e9 => k_X23_point l D K m9 mr _ S9 24 x2 r9 e9) ww_483 ww_532 ww_533 ww_534 ww_16 (by decide +kernel) rfl ⟨by omega, by omega⟩ (Nat.le_of_ble_eq_true rfl) eX23_goOut_16 (fun S1 v2 h => ?_)
        refine x_istore (lv2 := [(0, .ref m9), (1, .int x1), (2, .int x2), (3, .int x3)]) C eX23_goOut_19 (by decide) rfl (oky rfl (oky rfl (oky rfl (oky rfl ok0)))) ?_
        refine x_tload_n C eX23_goOut_21 rfl 1 rfl ?_
        refine x_mV (k9 := 40) C (by decide) ww_498 eX23_goOut_22 rfl ?_
        refine x_iload C eX23_goOut_25 0 rfl ?_
        refine x_tload_n C eX23_goOut_27 rfl 1 rfl ?_
        refine x_mV (k9 := 49) C (by decide) ww_582 eX23_goOut_28 rfl ?_
        refine x_iload_n C eX23_goOut_31 rfl 4 rfl ?_
        refine x_rQ (r := 49) (t9 := 5) C (by decide) rfl (by decide) rfl eX23_goOut_32 h (fun v3 h => ?_)
        refine x_wQ (r := 40) (t9 := 5) (ci := 21) C (by decide) rfl (by decide) rfl rfl eX23_goOut_33 h (fun S4 h => ?_)
        refine x_tload_n C eX23_goOut_34 rfl 1 rfl ?_
        refine x_mV (k9 := 33) C (by decide) ww_491 eX23_goOut_35 rfl ?_
        refine x_iload C eX23_goOut_38 0 rfl ?_
        refine x_bipush (v := 7) C eX23_goOut_40 (by decide) ?_
        refine x_wI (r := 33) C (by decide) rfl eX23_goOut_42 h (fun S5 h => ?_)
        refine x_tload_n C eX23_goOut_43 rfl 1 rfl ?_
        refine x_mV (k9 := 34) C (by decide) ww_492 eX23_goOut_44 rfl ?_
        refine x_iload C eX23_goOut_47 0 rfl ?_
        refine x_tload_n C eX23_goOut_49 rfl 1 rfl ?_
        refine x_mV (k9 := 49) C (by decide) ww_582 eX23_goOut_50 rfl ?_
        refine x_iload_n C eX23_goOut_53 rfl 4 rfl ?_
        refine x_rQ (r := 49) (t9 := 5) C (by decide) rfl (by decide) rfl eX23_goOut_54 h (fun v6 h => ?_)
        refine x_gI (o9 := v6) (ci := 21) (k9 := 0) (Cn := RX21) (T := TX21) (N := 5) C rfl wt_X21 (by decide) ww_327 eX23_goOut_55 h (fun v7 h => ?_)
        refine x_wI (r := 34) C (by decide) rfl eX23_goOut_58 h (fun S8 h => ?_)
        refine x_tload_n C eX23_goOut_59 rfl 1 rfl ?_
        refine x_mV (k9 := 38) C (by decide) ww_496 eX23_goOut_60 rfl ?_
        refine x_iload C eX23_goOut_63 0 rfl ?_
        refine x_tload_n C eX23_goOut_65 rfl 1 rfl ?_
        refine x_mV (k9 := 49) C (by decide) ww_582 eX23_goOut_66 rfl ?_
        refine x_iload_n C eX23_goOut_69 rfl 4 rfl ?_
        refine x_rQ (r := 49) (t9 := 5) C (by decide) rfl (by decide) rfl eX23_goOut_70 h (fun v9 h => ?_)
        refine x_cSr (As := [va_rf v9]) (st := [.int v2, .ref (mr 38)]) (n := 1) (frc := 2) (loc := 41) C h (fun S9 r9 e9 => k_X23_wholeOf l D K m9 mr _ S9 v9 r9 e9) ww_503 ww_514 ww_515 ww_16 (by decide +kernel) rfl ⟨by omega, by omega⟩ (Nat.le_of_ble_eq_true rfl) eX23_goOut_71 (fun S10 v11 h => ?_)
        refine x_wQ (r := 38) (t9 := 6) (ci := 18) C (by decide) rfl (by decide) rfl rfl eX23_goOut_74 h (fun S12 h => ?_)
        refine x_iinc (j := 4) (v := (-1)) (lv2 := [(4, .int v2), (0, .ref m9), (1, .int x1), (2, .int x2)]) C eX23_goOut_75 rfl (by decide) (by decide) rfl (oky rfl (oky rfl (oky rfl (oky rfl ok0)))) ?_
        refine x_goto (tgt := 7) C eX23_goOut_78 (by decide) ?_
        refine x_sub [2, 3, 4, 0] rfl ?_
        exact ih_7 S12 x1 x2 (x3 + (-1)) h
  unfold f_goOut at h
  refine x_tload_n C eX23_goOut_0 rfl 0 rfl ?_
  refine x_mV (k9 := 50) C (by decide) ww_583 eX23_goOut_1 rfl ?_
  refine x_iconst (v := 1) C eX23_goOut_4 (by decide) ?_
  refine x_isub C eX23_goOut_5 ?_
  refine x_istore_n (lv2 := [(0, .ref m9), (1, .int x1), (2, .int x2)]) C eX23_goOut_6 rfl (by decide) rfl (oky rfl (oky rfl (oky rfl ok0))) ?_
  refine x_sub [1, 2, 3, 0] rfl ?_
  exact j_7 bigN S0 x1 x2 ((Zi S0 50) - 1) h
