set_option maxRecDepth 20000 in
set_option maxHeartbeats 4000000 in
theorem k_X23_newFields (l : Launch) (D : va_G) (K : Ky) (m9 : Nat) (mr : Nat → Nat) (V : Sg → Int32 → Option (Sg × Option Nat)) (V2 : Sg → Option (Sg × Option Nat)) (d : Nat) (hV : ∀ (S0 Sf : Sg) (x1 : Int32) (rf : Option Nat), V S0 x1 = some (Sf, rf) → CT l D K m9 mr yX23_chain (Cond.code yX23_chain cX23_chain 6 (some (.object "OwnedPlacesModel$Exp"))) (4 + 6 * d) (83 + 132 * d) S0 Sf [.ref m9, .int x1] (some (va_rf rf))) (hV2 : ∀ (S0 Sf : Sg) (rf : Option Nat), V2 S0 = some (Sf, rf) → CT l D K m9 mr yX23_unary (Cond.code yX23_unary cX23_unary 3 (some (.object "OwnedPlacesModel$Exp"))) (4 + 6 * d) (83 + 132 * d) S0 Sf [.ref m9] (some (va_rf rf))) (S0 Sf : Sg) (x1 : Option Nat) (rf : Unit) (h : f_newFields K V V2 S0 x1 = some (Sf, rf)) : CT l D K m9 mr yX23_newFields (Cond.code yX23_newFields cX23_newFields 4 none) (6 + 6 * d) (128 + 132 * d) S0 Sf [.ref m9, va_rf x1] none := by
  refine x_start (cc := cX23_newFields) (lv := [(0, .ref m9), (1, va_rf x1)]) rfl rfl (by decide) (by simp [lv_args, cat_rf, cat_i, cat_l, cat_a]) (by simp [lg_sl, cat_rf, cat_i, cat_l, cat_a]) (fun p e R s m args below meth c Q A C => ?_)
  have j_111 : ∀ (S : Sg), f_newFields_111 K V V2 S = some (Sf, rf) → WX p l e R s m args below meth c Q D A K m9 mr 4 S0 S 111 [(0, .ref m9)] [] := by
    intro S h
    unfold f_newFields_111 at h
    refine x_tload_n C eX23_newFields_111 rfl 0 rfl ?_
    refine x_dup C eX23_newFields_112 rfl ?_
    refine x_mV (k9 := 15) C (by decide) ww_29 eX23_newFields_113 rfl ?_
    refine x_iconst (v := 1) C eX23_newFields_116 (by decide) ?_
    refine x_isub C eX23_newFields_117 ?_
    refine x_pM (k9 := 15) C (by decide) rfl (by decide) ww_29 rfl (by decide +kernel) eX23_newFields_118 h (fun S27 h => ?_)
    refine x_tload_n C eX23_newFields_121 rfl 0 rfl ?_
    refine x_bipush (v := 64) C eX23_newFields_122 (by decide) ?_
    refine x_cVv (As := [.int 64]) (st := []) (n := 1) (frc := 2) (loc := 42) C h (fun S9 r9 e9 => k_X23_take l D K m9 mr _ S9 64 r9 e9) ww_12 ww_25 ww_26 ww_27 ww_16 (by decide +kernel) rfl ⟨by omega, by omega⟩ (Nat.le_of_ble_eq_true rfl) eX23_newFields_124 (fun S28 v29 h => ?_)
    exact x_vret C rfl rfl eX23_newFields_127 h
  have j_63 : ∀ (n_63 : Nat) (S : Sg) (x1 : Option Nat) (x2 : Int32), f_newFields_63 K V V2 n_63 S x1 x2 = some (Sf, rf) → WX p l e R s m args below meth c Q D A K m9 mr 4 S0 S 63 [(0, .ref m9), (1, va_rf x1), (2, .int x2)] [] := by
    intro n_63
    induction n_63 with
    | zero => intro S x1 x2 h; unfold f_newFields_63 at h; cases h
    | succ n_63 ih_63 =>
      intro S x1 x2 h
      have j_101 : ∀ (S : Sg) (x1 : Option Nat), f_newFields_101 K V V2 (f_newFields_63 K V V2 n_63) S x1 = some (Sf, rf) → WX p l e R s m args below meth c Q D A K m9 mr 4 S0 S 101 [(0, .ref m9), (1, va_rf x1)] [] := by
        intro S x1 h
        unfold f_newFields_101 at h
        refine x_tload_n C eX23_newFields_101 rfl 0 rfl ?_
        refine x_bipush (v := 57) C eX23_newFields_102 (by decide) ?_
        refine x_cVi (As := [.int 57]) (st := []) (n := 1) (frc := 2) (loc := 41) C h (fun S9 r9 e9 => k_X23_takes l D K m9 mr _ S9 57 r9 e9) ww_23 ww_42 ww_43 ww_44 ww_16 (by decide +kernel) rfl ⟨by omega, by omega⟩ (Nat.le_of_ble_eq_true rfl) eX23_newFields_104 (fun S25 v26 h => ?_)
        refine x_istore_n (lv2 := [(0, .ref m9), (1, va_rf x1)]) C eX23_newFields_107 rfl (by decide) rfl (oky rfl (oky (cat_rf x1) ok0)) ?_
        refine x_goto (tgt := 63) C eX23_newFields_108 (by decide) ?_
        refine x_sub [1, 2, 0] rfl ?_
        exact ih_63 S25 x1 v26 h
      unfold f_newFields_63 at h
      refine x_tload_n C eX23_newFields_63 rfl 0 rfl ?_
      refine x_cVi (As := []) (st := []) (n := 0) (frc := 1) (loc := 20) C h (fun S9 r9 e9 => k_X23_ok l D K m9 mr _ S9 r9 e9) ww_0 ww_13 ww_14 ww_15 ww_16 (by decide +kernel) rfl ⟨by omega, by omega⟩ (Nat.le_of_ble_eq_true rfl) eX23_newFields_64 (fun S13 v14 h => ?_)
      refine x_if_eq (tgt := 111) C eX23_newFields_67 (by decide) h (fun h => ?_) (fun h => ?_)
      · refine x_sub [0] rfl ?_
        exact j_111 S13 h
      · refine x_iload_n C eX23_newFields_70 rfl 2 rfl ?_
        refine x_if_eq (tgt := 111) C eX23_newFields_71 (by decide) h (fun h => ?_) (fun h => ?_)
        · refine x_sub [0] rfl ?_
          exact j_111 S13 h
        · refine x_tload_n C eX23_newFields_74 rfl 0 rfl ?_
          refine x_cVi (As := []) (st := []) (n := 0) (frc := 3) (loc := 63) C h (fun S9 r9 e9 => k_X23_name l D K m9 mr _ S9 r9 e9) ww_24 ww_56 ww_57 ww_58 ww_16 (by decide +kernel) rfl ⟨by omega, by omega⟩ (Nat.le_of_ble_eq_true rfl) eX23_newFields_75 (fun S15 v16 h => ?_)
          refine x_istore_n (lv2 := [(0, .ref m9), (1, va_rf x1), (2, .int x2)]) C eX23_newFields_78 rfl (by decide) rfl (oky rfl (oky (cat_rf x1) (oky rfl ok0))) ?_
          refine x_tload_n C eX23_newFields_79 rfl 1 rfl ?_
          refine x_bipush (v := 58) C eX23_newFields_80 (by decide) ?_
          refine x_cVv (As := [.int 58]) (st := []) (n := 1) (frc := 2) (loc := 42) C h (fun S9 r9 e9 => k_X23_take l D K m9 mr _ S9 58 r9 e9) ww_12 ww_25 ww_26 ww_27 ww_16 (by decide +kernel) rfl ⟨by omega, by omega⟩ (Nat.le_of_ble_eq_true rfl) eX23_newFields_82 (fun S17 v18 h => ?_)
          refine x_tload_n C eX23_newFields_85 rfl 1 rfl ?_
          refine x_cVi (As := []) (st := []) (n := 0) (frc := 1) (loc := 20) C h (fun S9 r9 e9 => k_X23_ok l D K m9 mr _ S9 r9 e9) ww_0 ww_13 ww_14 ww_15 ww_16 (by decide +kernel) rfl ⟨by omega, by omega⟩ (Nat.le_of_ble_eq_true rfl) eX23_newFields_86 (fun S19 v20 h => ?_)
          refine x_if_eq (tgt := 101) C eX23_newFields_89 (by decide) h (fun h => ?_) (fun h => ?_)
          · refine x_sub [1, 2] rfl ?_
            exact j_101 S19 x1 h
          · refine x_aload_n C eX23_newFields_92 rfl 2 rfl ?_
            refine x_tload_n C eX23_newFields_93 rfl 1 rfl ?_
            refine x_cVr (As := []) (st := [va_rf x1]) (n := 0) (frc := 5 + 6 * d) (loc := 108 + 132 * d) C h (fun S9 r9 e9 => k_X23_exp l D K m9 mr V V2 d hV hV2 _ S9 r9 e9) ww_193 ww_141 ww_142 ww_143 ww_16 (by decide +kernel) rfl ⟨by omega, by omega⟩ (Nat.le_of_ble_eq_true rfl) eX23_newFields_94 (fun S21 v22 h => ?_)
            refine x_iload_n C eX23_newFields_97 rfl 0 rfl ?_
            refine x_cSv (As := [va_rf x1, va_rf v22, .int v16]) (st := []) (n := 3) (frc := 1) (loc := 20) C h (fun S9 r9 e9 => k_X23_add l D K m9 mr _ S9 x1 v22 v16 r9 e9) ww_198 ww_212 ww_213 ww_16 (by decide +kernel) rfl ⟨by omega, by omega⟩ (Nat.le_of_ble_eq_true rfl) eX23_newFields_98 (fun S23 v24 h => ?_)
            refine x_sub [1, 2] rfl ?_
            exact j_101 S23 x1 h
  have j_55 : ∀ (S : Sg) (x1 : Option Nat), f_newFields_55 K V V2 S x1 = some (Sf, rf) → WX p l e R s m args below meth c Q D A K m9 mr 4 S0 S 55 [(0, .ref m9), (1, va_rf x1)] [] := by
    intro S x1 h
    unfold f_newFields_55 at h
    refine x_tload_n C eX23_newFields_55 rfl 0 rfl ?_
    refine x_bipush (v := 63) C eX23_newFields_56 (by decide) ?_
    refine x_cVv (As := [.int 63]) (st := []) (n := 1) (frc := 2) (loc := 42) C h (fun S9 r9 e9 => k_X23_take l D K m9 mr _ S9 63 r9 e9) ww_12 ww_25 ww_26 ww_27 ww_16 (by decide +kernel) rfl ⟨by omega, by omega⟩ (Nat.le_of_ble_eq_true rfl) eX23_newFields_58 (fun S11 v12 h => ?_)
    refine x_iconst (v := 1) C eX23_newFields_61 (by decide) ?_
    refine x_istore_n (lv2 := [(0, .ref m9), (1, va_rf x1)]) C eX23_newFields_62 rfl (by decide) rfl (oky rfl (oky (cat_rf x1) ok0)) ?_
    refine x_sub [1, 2, 0] rfl ?_
    exact j_63 bigN S11 x1 1 h
  have j_45 : ∀ (S : Sg) (x1 : Option Nat), f_newFields_45 K V V2 S x1 = some (Sf, rf) → WX p l e R s m args below meth c Q D A K m9 mr 4 S0 S 45 [(0, .ref m9), (1, va_rf x1)] [] := by
    intro S x1 h
    unfold f_newFields_45 at h
    refine x_tload_n C eX23_newFields_45 rfl 0 rfl ?_
    refine x_dup C eX23_newFields_46 rfl ?_
    refine x_mV (k9 := 15) C (by decide) ww_29 eX23_newFields_47 rfl ?_
    refine x_iconst (v := 1) C eX23_newFields_50 (by decide) ?_
    refine x_iadd C eX23_newFields_51 ?_
    refine x_pM (k9 := 15) C (by decide) rfl (by decide) ww_29 rfl (by decide +kernel) eX23_newFields_52 h (fun S30 h => ?_)
    refine x_sub [0, 1] rfl ?_
    exact j_55 S30 x1 h
  unfold f_newFields at h
  refine x_tload_n C eX23_newFields_0 rfl 0 rfl ?_
  refine x_dup C eX23_newFields_1 rfl ?_
  refine x_mV (k9 := 10) C (by decide) ww_11 eX23_newFields_2 rfl ?_
  refine x_iconst (v := 1) C eX23_newFields_5 (by decide) ?_
  refine x_iadd C eX23_newFields_6 ?_
  refine x_pM (k9 := 10) C (by decide) rfl (by decide) ww_11 rfl (by decide +kernel) eX23_newFields_7 h (fun S1 h => ?_)
  refine x_aload_n C eX23_newFields_10 rfl 1 rfl ?_
  refine x_tload_n C eX23_newFields_11 rfl 0 rfl ?_
  refine x_cVi (As := []) (st := [va_rf x1]) (n := 0) (frc := 3) (loc := 63) C h (fun S9 r9 e9 => k_X23_name l D K m9 mr _ S9 r9 e9) ww_24 ww_56 ww_57 ww_58 ww_16 (by decide +kernel) rfl ⟨by omega, by omega⟩ (Nat.le_of_ble_eq_true rfl) eX23_newFields_12 (fun S2 v3 h => ?_)
  refine x_pI (o9 := x1) (ci := 15) (k9 := 3) (Cn := RX15) (T := TX15) (N := 14) C rfl wt_X15 tyX15_ok nmX15 (by decide) ww_223 rfl (by decide +kernel) eX23_newFields_15 h (fun S4 h => ?_)
  refine x_tload_n C eX23_newFields_18 rfl 0 rfl ?_
  refine x_cVi (As := []) (st := []) (n := 0) (frc := 1) (loc := 20) C h (fun S9 r9 e9 => k_X23_ok l D K m9 mr _ S9 r9 e9) ww_0 ww_13 ww_14 ww_15 ww_16 (by decide +kernel) rfl ⟨by omega, by omega⟩ (Nat.le_of_ble_eq_true rfl) eX23_newFields_19 (fun S5 v6 h => ?_)
  refine x_if_eq (tgt := 45) C eX23_newFields_22 (by decide) h (fun h => ?_) (fun h => ?_)
  · refine x_sub [0, 1] rfl ?_
    exact j_45 S5 x1 h
  · refine x_tload_n C eX23_newFields_25 rfl 0 rfl ?_
    refine x_bipush (v := 63) C eX23_newFields_26 (by decide) ?_
    refine x_cVi (As := [.int 63]) (st := []) (n := 1) (frc := 1) (loc := 20) C h (fun S9 r9 e9 => k_X23_is l D K m9 mr _ S9 63 r9 e9) ww_9 ww_17 ww_18 ww_19 ww_16 (by decide +kernel) rfl ⟨by omega, by omega⟩ (Nat.le_of_ble_eq_true rfl) eX23_newFields_28 (fun S7 v8 h => ?_)
    refine x_if_eq (tgt := 45) C eX23_newFields_31 (by decide) h (fun h => ?_) (fun h => ?_)
    · refine x_sub [0, 1] rfl ?_
      exact j_45 S7 x1 h
    · refine x_tload_n C eX23_newFields_34 rfl 0 rfl ?_
      refine x_tload_n C eX23_newFields_35 rfl 0 rfl ?_
      refine x_mV (k9 := 10) C (by decide) ww_11 eX23_newFields_36 rfl ?_
      refine x_cVv (As := [.int (Zi S7 10)]) (st := []) (n := 1) (frc := 2) (loc := 42) C h (fun S9 r9 e9 => k_X23_enter l D K m9 mr _ S9 (Zi S7 10) r9 e9) ww_28 ww_38 ww_39 ww_40 ww_16 (by decide +kernel) rfl ⟨by omega, by omega⟩ (Nat.le_of_ble_eq_true rfl) eX23_newFields_39 (fun S9 v10 h => ?_)
      refine x_goto (tgt := 55) C eX23_newFields_42 (by decide) ?_
      refine x_sub [0, 1] rfl ?_
      exact j_55 S9 x1 h
set_option maxRecDepth 20000 in
set_option maxHeartbeats 4000000 in
theorem k_X23_list (l : Launch) (D : va_G) (K : Ky) (m9 : Nat) (mr : Nat → Nat) (V : Sg → Int32 → Option (Sg × Option Nat)) (V2 : Sg → Option (Sg × Option Nat)) (d : Nat) (hV : ∀ (S0 Sf : Sg) (x1 : Int32) (rf : Option Nat), V S0 x1 = some (Sf, rf) → CT l D K m9 mr yX23_chain (Cond.code yX23_chain cX23_chain 6 (some (.object "OwnedPlacesModel$Exp"))) (4 + 6 * d) (83 + 132 * d) S0 Sf [.ref m9, .int x1] (some (va_rf rf))) (hV2 : ∀ (S0 Sf : Sg) (rf : Option Nat), V2 S0 = some (Sf, rf) → CT l D K m9 mr yX23_unary (Cond.code yX23_unary cX23_unary 3 (some (.object "OwnedPlacesModel$Exp"))) (4 + 6 * d) (83 + 132 * d) S0 Sf [.ref m9] (some (va_rf rf))) (S0 Sf : Sg) (x1 : Option Nat) (rf : Unit) (h : f_list K V V2 S0 x1 = some (Sf, rf)) : CT l D K m9 mr yX23_list (Cond.code yX23_list cX23_list 3 none) (6 + 6 * d) (128 + 132 * d) S0 Sf [.ref m9, va_rf x1] none := by
  refine x_start (cc := cX23_list) (lv := [(0, .ref m9), (1, va_rf x1)]) rfl rfl (by decide) (by simp [lv_args, cat_rf, cat_i, cat_l, cat_a]) (by simp [lg_sl, cat_rf, cat_i, cat_l, cat_a]) (fun p e R s m args below meth c Q A C => ?_)
  have j_92 : ∀ (S : Sg), f_list_92 K V V2 S = some (Sf, rf) → WX p l e R s m args below meth c Q D A K m9 mr 3 S0 S 92 [(0, .ref m9)] [] := by
    intro S h
    unfold f_list_92 at h
    refine x_tload_n C eX23_list_92 rfl 0 rfl ?_
    refine x_dup C eX23_list_93 rfl ?_
    refine x_mV (k9 := 15) C (by decide) ww_29 eX23_list_94 rfl ?_
    refine x_iconst (v := 1) C eX23_list_97 (by decide) ?_
    refine x_isub C eX23_list_98 ?_
    refine x_pM (k9 := 15) C (by decide) rfl (by decide) ww_29 rfl (by decide +kernel) eX23_list_99 h (fun S12 h => ?_)
    refine x_tload_n C eX23_list_102 rfl 0 rfl ?_
    refine x_bipush (v := 62) C eX23_list_103 (by decide) ?_
    refine x_cVv (As := [.int 62]) (st := []) (n := 1) (frc := 2) (loc := 42) C h (fun S9 r9 e9 => k_X23_take l D K m9 mr _ S9 62 r9 e9) ww_12 ww_25 ww_26 ww_27 ww_16 (by decide +kernel) rfl ⟨by omega, by omega⟩ (Nat.le_of_ble_eq_true rfl) eX23_list_105 (fun S13 v14 h => ?_)
    exact x_vret C rfl rfl eX23_list_108 h
  have j_62 : ∀ (n_62 : Nat) (S : Sg) (x1 : Option Nat) (x2 : Int32), f_list_62 K V V2 n_62 S x1 x2 = some (Sf, rf) → WX p l e R s m args below meth c Q D A K m9 mr 3 S0 S 62 [(0, .ref m9), (1, va_rf x1), (2, .int x2)] [] := by
    intro n_62
    induction n_62 with
    | zero => intro S x1 x2 h; unfold f_list_62 at h; cases h
    | succ n_62 ih_62 =>
      intro S x1 x2 h
      unfold f_list_62 at h
      refine x_tload_n C eX23_list_62 rfl 0 rfl ?_
      refine x_cVi (As := []) (st := []) (n := 0) (frc := 1) (loc := 20) C h (fun S9 r9 e9 => k_X23_ok l D K m9 mr _ S9 r9 e9) ww_0 ww_13 ww_14 ww_15 ww_16 (by decide +kernel) rfl ⟨by omega, by omega⟩ (Nat.le_of_ble_eq_true rfl) eX23_list_63 (fun S15 v16 h => ?_)
      refine x_if_eq (tgt := 92) C eX23_list_66 (by decide) h (fun h => ?_) (fun h => ?_)
      · refine x_sub [0] rfl ?_
        exact j_92 S15 h
      · refine x_iload_n C eX23_list_69 rfl 2 rfl ?_
        refine x_if_eq (tgt := 92) C eX23_list_70 (by decide) h (fun h => ?_) (fun h => ?_)
        · refine x_sub [0] rfl ?_
          exact j_92 S15 h
        · refine x_aload_n C eX23_list_73 rfl 1 rfl ?_
          refine x_tload_n C eX23_list_74 rfl 0 rfl ?_
          refine x_cVr (As := []) (st := [va_rf x1]) (n := 0) (frc := 5 + 6 * d) (loc := 108 + 132 * d) C h (fun S9 r9 e9 => k_X23_exp l D K m9 mr V V2 d hV hV2 _ S9 r9 e9) ww_193 ww_141 ww_142 ww_143 ww_16 (by decide +kernel) rfl ⟨by omega, by omega⟩ (Nat.le_of_ble_eq_true rfl) eX23_list_75 (fun S17 v18 h => ?_)
          refine x_iconst (v := 0) C eX23_list_78 (by decide) ?_
          refine x_cSv (As := [va_rf x1, va_rf v18, .int 0]) (st := []) (n := 3) (frc := 1) (loc := 20) C h (fun S9 r9 e9 => k_X23_add l D K m9 mr _ S9 x1 v18 0 r9 e9) ww_198 ww_212 ww_213 ww_16 (by decide +kernel) rfl ⟨by omega, by omega⟩ (Nat.le_of_ble_eq_true rfl) eX23_list_79 (fun S19 v20 h => ?_)
          refine x_tload_n C eX23_list_82 rfl 0 rfl ?_
          refine x_bipush (v := 57) C eX23_list_83 (by decide) ?_
          refine x_cVi (As := [.int 57]) (st := []) (n := 1) (frc := 2) (loc := 41) C h (fun S9 r9 e9 => k_X23_takes l D K m9 mr _ S9 57 r9 e9) ww_23 ww_42 ww_43 ww_44 ww_16 (by decide +kernel) rfl ⟨by omega, by omega⟩ (Nat.le_of_ble_eq_true rfl) eX23_list_85 (fun S21 v22 h => ?_)
          refine x_istore_n (lv2 := [(0, .ref m9), (1, va_rf x1)]) C eX23_list_88 rfl (by decide) rfl (oky rfl (oky (cat_rf x1) ok0)) ?_
          refine x_goto (tgt := 62) C eX23_list_89 (by decide) ?_
          refine x_sub [1, 2, 0] rfl ?_
          exact ih_62 S21 x1 v22 h
  have j_60 : ∀ (S : Sg) (x1 : Option Nat), f_list_60 K V V2 S x1 = some (Sf, rf) → WX p l e R s m args below meth c Q D A K m9 mr 3 S0 S 60 [(0, .ref m9), (1, va_rf x1)] [] := by
    intro S x1 h
    unfold f_list_60 at h
    refine x_iconst (v := 1) C eX23_list_60 (by decide) ?_
    refine x_istore_n (lv2 := [(0, .ref m9), (1, va_rf x1)]) C eX23_list_61 rfl (by decide) rfl (oky rfl (oky (cat_rf x1) ok0)) ?_
    refine x_sub [1, 2, 0] rfl ?_
    exact j_62 bigN S x1 1 h
  have j_37 : ∀ (S : Sg) (x1 : Option Nat), f_list_37 K V V2 S x1 = some (Sf, rf) → WX p l e R s m args below meth c Q D A K m9 mr 3 S0 S 37 [(0, .ref m9), (1, va_rf x1)] [] := by
    intro S x1 h
    unfold f_list_37 at h
    refine x_tload_n C eX23_list_37 rfl 0 rfl ?_
    refine x_bipush (v := 61) C eX23_list_38 (by decide) ?_
    refine x_cVv (As := [.int 61]) (st := []) (n := 1) (frc := 2) (loc := 42) C h (fun S9 r9 e9 => k_X23_take l D K m9 mr _ S9 61 r9 e9) ww_12 ww_25 ww_26 ww_27 ww_16 (by decide +kernel) rfl ⟨by omega, by omega⟩ (Nat.le_of_ble_eq_true rfl) eX23_list_40 (fun S7 v8 h => ?_)
    refine x_aload_n C eX23_list_43 rfl 1 rfl ?_
    refine x_gI (o9 := x1) (ci := 15) (k9 := 0) (Cn := RX15) (T := TX15) (N := 14) C rfl wt_X15 (by decide) ww_191 eX23_list_44 h (fun v9 h => ?_)
    refine x_iconst (v := 3) C eX23_list_47 (by decide) ?_
    refine x_ic_ne (tgt := 60) C eX23_list_48 (by decide) h (fun h => ?_) (fun h => ?_)
    · refine x_sub [0, 1] rfl ?_
      exact j_60 S7 x1 h
    · refine x_tload_n C eX23_list_51 rfl 0 rfl ?_
      refine x_bipush (v := 62) C eX23_list_52 (by decide) ?_
      refine x_cVi (As := [.int 62]) (st := []) (n := 1) (frc := 1) (loc := 20) C h (fun S9 r9 e9 => k_X23_is l D K m9 mr _ S9 62 r9 e9) ww_9 ww_17 ww_18 ww_19 ww_16 (by decide +kernel) rfl ⟨by omega, by omega⟩ (Nat.le_of_ble_eq_true rfl) eX23_list_54 (fun S10 v11 h => ?_)
      refine x_if_ne (tgt := 92) C eX23_list_57 (by decide) h (fun h => ?_) (fun h => ?_)
      · refine x_sub [0] rfl ?_
        exact j_92 S10 h
      · refine x_sub [0, 1] rfl ?_
        exact j_60 S10 x1 h
  have j_27 : ∀ (S : Sg) (x1 : Option Nat), f_list_27 K V V2 S x1 = some (Sf, rf) → WX p l e R s m args below meth c Q D A K m9 mr 3 S0 S 27 [(0, .ref m9), (1, va_rf x1)] [] := by
    intro S x1 h
    unfold f_list_27 at h
    refine x_tload_n C eX23_list_27 rfl 0 rfl ?_
    refine x_dup C eX23_list_28 rfl ?_
    refine x_mV (k9 := 15) C (by decide) ww_29 eX23_list_29 rfl ?_
    refine x_iconst (v := 1) C eX23_list_32 (by decide) ?_
    refine x_iadd C eX23_list_33 ?_
    refine x_pM (k9 := 15) C (by decide) rfl (by decide) ww_29 rfl (by decide +kernel) eX23_list_34 h (fun S23 h => ?_)
    refine x_sub [0, 1] rfl ?_
    exact j_37 S23 x1 h
  unfold f_list at h
  refine x_tload_n C eX23_list_0 rfl 0 rfl ?_
  refine x_cVi (As := []) (st := []) (n := 0) (frc := 1) (loc := 20) C h (fun S9 r9 e9 => k_X23_ok l D K m9 mr _ S9 r9 e9) ww_0 ww_13 ww_14 ww_15 ww_16 (by decide +kernel) rfl ⟨by omega, by omega⟩ (Nat.le_of_ble_eq_true rfl) eX23_list_1 (fun S1 v2 h => ?_)
  refine x_if_eq (tgt := 27) C eX23_list_4 (by decide) h (fun h => ?_) (fun h => ?_)
  · refine x_sub [0, 1] rfl ?_
    exact j_27 S1 x1 h
  · refine x_tload_n C eX23_list_7 rfl 0 rfl ?_
    refine x_bipush (v := 61) C eX23_list_8 (by decide) ?_
    refine x_cVi (As := [.int 61]) (st := []) (n := 1) (frc := 1) (loc := 20) C h (fun S9 r9 e9 => k_X23_is l D K m9 mr _ S9 61 r9 e9) ww_9 ww_17 ww_18 ww_19 ww_16 (by decide +kernel) rfl ⟨by omega, by omega⟩ (Nat.le_of_ble_eq_true rfl) eX23_list_10 (fun S3 v4 h => ?_)
    refine x_if_eq (tgt := 27) C eX23_list_13 (by decide) h (fun h => ?_) (fun h => ?_)
    · refine x_sub [0, 1] rfl ?_
      exact j_27 S3 x1 h
    · refine x_tload_n C eX23_list_16 rfl 0 rfl ?_
      refine x_tload_n C eX23_list_17 rfl 0 rfl ?_
      refine x_mV (k9 := 10) C (by decide) ww_11 eX23_list_18 rfl ?_
      refine x_cVv (As := [.int (Zi S3 10)]) (st := []) (n := 1) (frc := 2) (loc := 42) C h (fun S9 r9 e9 => k_X23_enter l D K m9 mr _ S9 (Zi S3 10) r9 e9) ww_28 ww_38 ww_39 ww_40 ww_16 (by decide +kernel) rfl ⟨by omega, by omega⟩ (Nat.le_of_ble_eq_true rfl) eX23_list_21 (fun S5 v6 h => ?_)
      refine x_goto (tgt := 37) C eX23_list_24 (by decide) ?_
      refine x_sub [0, 1] rfl ?_
      exact j_37 S5 x1 h
set_option maxRecDepth 20000 in
set_option maxHeartbeats 4000000 in
theorem k_X23_named (l : Launch) (D : va_G) (K : Ky) (m9 : Nat) (mr : Nat → Nat) (V : Sg → Int32 → Option (Sg × Option Nat)) (V2 : Sg → Option (Sg × Option Nat)) (d : Nat) (hV : ∀ (S0 Sf : Sg) (x1 : Int32) (rf : Option Nat), V S0 x1 = some (Sf, rf) → CT l D K m9 mr yX23_chain (Cond.code yX23_chain cX23_chain 6 (some (.object "OwnedPlacesModel$Exp"))) (4 + 6 * d) (83 + 132 * d) S0 Sf [.ref m9, .int x1] (some (va_rf rf))) (hV2 : ∀ (S0 Sf : Sg) (rf : Option Nat), V2 S0 = some (Sf, rf) → CT l D K m9 mr yX23_unary (Cond.code yX23_unary cX23_unary 3 (some (.object "OwnedPlacesModel$Exp"))) (4 + 6 * d) (83 + 132 * d) S0 Sf [.ref m9] (some (va_rf rf))) (S0 Sf : Sg) (x1 : Option Nat) (rf : Unit) (h : f_named K V V2 S0 x1 = some (Sf, rf)) : CT l D K m9 mr yX23_named (Cond.code yX23_named cX23_named 2 none) (7 + 6 * d) (150 + 132 * d) S0 Sf [.ref m9, va_rf x1] none := by
  refine x_start (cc := cX23_named) (lv := [(0, .ref m9), (1, va_rf x1)]) rfl rfl (by decide) (by simp [lv_args, cat_rf, cat_i, cat_l, cat_a]) (by simp [lg_sl, cat_rf, cat_i, cat_l, cat_a]) (fun p e R s m args below meth c Q A C => ?_)
  have j_92 : ∀ (S : Sg), f_named_92 K V V2 S = some (Sf, rf) → WX p l e R s m args below meth c Q D A K m9 mr 2 S0 S 92 [] [] := by
    intro S h
    unfold f_named_92 at h
    exact x_vret C rfl rfl eX23_named_92 h
  unfold f_named at h
  refine x_aload_n C eX23_named_0 rfl 1 rfl ?_
  refine x_tload_n C eX23_named_1 rfl 0 rfl ?_
  refine x_mV (k9 := 10) C (by decide) ww_11 eX23_named_2 rfl ?_
  refine x_pI (o9 := x1) (ci := 15) (k9 := 3) (Cn := RX15) (T := TX15) (N := 14) C rfl wt_X15 tyX15_ok nmX15 (by decide) ww_223 rfl (by decide +kernel) eX23_named_5 h (fun S1 h => ?_)
  refine x_tload_n C eX23_named_8 rfl 0 rfl ?_
  refine x_dup C eX23_named_9 rfl ?_
  refine x_mV (k9 := 10) C (by decide) ww_11 eX23_named_10 rfl ?_
  refine x_iconst (v := 1) C eX23_named_13 (by decide) ?_
  refine x_iadd C eX23_named_14 ?_
  refine x_pM (k9 := 10) C (by decide) rfl (by decide) ww_11 rfl (by decide +kernel) eX23_named_15 h (fun S2 h => ?_)
  refine x_tload_n C eX23_named_18 rfl 0 rfl ?_
  refine x_bipush (v := 61) C eX23_named_19 (by decide) ?_
  refine x_cVi (As := [.int 61]) (st := []) (n := 1) (frc := 1) (loc := 20) C h (fun S9 r9 e9 => k_X23_is l D K m9 mr _ S9 61 r9 e9) ww_9 ww_17 ww_18 ww_19 ww_16 (by decide +kernel) rfl ⟨by omega, by omega⟩ (Nat.le_of_ble_eq_true rfl) eX23_named_21 (fun S3 v4 h => ?_)
  refine x_if_eq (tgt := 40) C eX23_named_24 (by decide) h (fun h => ?_) (fun h => ?_)
  · refine x_tload_n C eX23_named_40 rfl 0 rfl ?_
    refine x_bipush (v := 59) C eX23_named_41 (by decide) ?_
    refine x_cVi (As := [.int 59]) (st := []) (n := 1) (frc := 2) (loc := 41) C h (fun S9 r9 e9 => k_X23_takes l D K m9 mr _ S9 59 r9 e9) ww_23 ww_42 ww_43 ww_44 ww_16 (by decide +kernel) rfl ⟨by omega, by omega⟩ (Nat.le_of_ble_eq_true rfl) eX23_named_43 (fun S5 v6 h => ?_)
    refine x_if_eq (tgt := 87) C eX23_named_46 (by decide) h (fun h => ?_) (fun h => ?_)
    · refine x_aload_n C eX23_named_87 rfl 1 rfl ?_
      refine x_iconst (v := 2) C eX23_named_88 (by decide) ?_
      refine x_pI (o9 := x1) (ci := 15) (k9 := 0) (Cn := RX15) (T := TX15) (N := 14) C rfl wt_X15 tyX15_ok nmX15 (by decide) ww_191 rfl (by decide +kernel) eX23_named_89 h (fun S7 h => ?_)
      refine x_sub [] rfl ?_
      exact j_92 S7 h
    · refine x_aload_n C eX23_named_49 rfl 1 rfl ?_
      refine x_bipush (v := 6) C eX23_named_50 (by decide) ?_
      refine x_pI (o9 := x1) (ci := 15) (k9 := 0) (Cn := RX15) (T := TX15) (N := 14) C rfl wt_X15 tyX15_ok nmX15 (by decide) ww_191 rfl (by decide +kernel) eX23_named_52 h (fun S8 h => ?_)
      refine x_aload_n C eX23_named_55 rfl 1 rfl ?_
      refine x_tload_n C eX23_named_56 rfl 0 rfl ?_
      refine x_cVi (As := []) (st := [va_rf x1]) (n := 0) (frc := 3) (loc := 63) C h (fun S9 r9 e9 => k_X23_name l D K m9 mr _ S9 r9 e9) ww_24 ww_56 ww_57 ww_58 ww_16 (by decide +kernel) rfl ⟨by omega, by omega⟩ (Nat.le_of_ble_eq_true rfl) eX23_named_57 (fun S9 v10 h => ?_)
      refine x_pI (o9 := x1) (ci := 15) (k9 := 2) (Cn := RX15) (T := TX15) (N := 14) C rfl wt_X15 tyX15_ok nmX15 (by decide) ww_243 rfl (by decide +kernel) eX23_named_60 h (fun S11 h => ?_)
      refine x_tload_n C eX23_named_63 rfl 0 rfl ?_
      refine x_cVi (As := []) (st := []) (n := 0) (frc := 1) (loc := 20) C h (fun S9 r9 e9 => k_X23_ok l D K m9 mr _ S9 r9 e9) ww_0 ww_13 ww_14 ww_15 ww_16 (by decide +kernel) rfl ⟨by omega, by omega⟩ (Nat.le_of_ble_eq_true rfl) eX23_named_64 (fun S12 v13 h => ?_)
      refine x_if_eq (tgt := 92) C eX23_named_67 (by decide) h (fun h => ?_) (fun h => ?_)
      · refine x_sub [] rfl ?_
        exact j_92 S12 h
      · refine x_tload_n C eX23_named_70 rfl 0 rfl ?_
        refine x_bipush (v := 61) C eX23_named_71 (by decide) ?_
        refine x_cVi (As := [.int 61]) (st := []) (n := 1) (frc := 1) (loc := 20) C h (fun S9 r9 e9 => k_X23_is l D K m9 mr _ S9 61 r9 e9) ww_9 ww_17 ww_18 ww_19 ww_16 (by decide +kernel) rfl ⟨by omega, by omega⟩ (Nat.le_of_ble_eq_true rfl) eX23_named_73 (fun S14 v15 h => ?_)
        refine x_if_eq (tgt := 92) C eX23_named_76 (by decide) h (fun h => ?_) (fun h => ?_)
        · refine x_sub [] rfl ?_
          exact j_92 S14 h
        · refine x_tload_n C eX23_named_79 rfl 0 rfl ?_
          refine x_aload_n C eX23_named_80 rfl 1 rfl ?_
          refine x_cVv (As := [va_rf x1]) (st := []) (n := 1) (frc := 6 + 6 * d) (loc := 128 + 132 * d) C h (fun S9 r9 e9 => k_X23_list l D K m9 mr V V2 d hV hV2 _ S9 x1 r9 e9) ww_224 ww_240 ww_241 ww_242 ww_16 (by decide +kernel) rfl ⟨by omega, by omega⟩ (Nat.le_of_ble_eq_true rfl) eX23_named_81 (fun S16 v17 h => ?_)
          refine x_goto (tgt := 92) C eX23_named_84 (by decide) ?_
          refine x_sub [] rfl ?_
          exact j_92 S16 h
  · refine x_aload_n C eX23_named_27 rfl 1 rfl ?_
    refine x_iconst (v := 3) C eX23_named_28 (by decide) ?_
    refine x_pI (o9 := x1) (ci := 15) (k9 := 0) (Cn := RX15) (T := TX15) (N := 14) C rfl wt_X15 tyX15_ok nmX15 (by decide) ww_191 rfl (by decide +kernel) eX23_named_29 h (fun S18 h => ?_)
    refine x_tload_n C eX23_named_32 rfl 0 rfl ?_
    refine x_aload_n C eX23_named_33 rfl 1 rfl ?_
    refine x_cVv (As := [va_rf x1]) (st := []) (n := 1) (frc := 6 + 6 * d) (loc := 128 + 132 * d) C h (fun S9 r9 e9 => k_X23_list l D K m9 mr V V2 d hV hV2 _ S9 x1 r9 e9) ww_224 ww_240 ww_241 ww_242 ww_16 (by decide +kernel) rfl ⟨by omega, by omega⟩ (Nat.le_of_ble_eq_true rfl) eX23_named_34 (fun S19 v20 h => ?_)
    refine x_goto (tgt := 92) C eX23_named_37 (by decide) ?_
    refine x_sub [] rfl ?_
    exact j_92 S19 h
set_option maxRecDepth 20000 in
set_option maxHeartbeats 4000000 in
theorem k_X23_enterBracket (l : Launch) (D : va_G) (K : Ky) (m9 : Nat) (mr : Nat → Nat) (V : Sg → Int32 → Option (Sg × Option Nat)) (V2 : Sg → Option (Sg × Option Nat)) (d : Nat) (hV : ∀ (S0 Sf : Sg) (x1 : Int32) (rf : Option Nat), V S0 x1 = some (Sf, rf) → CT l D K m9 mr yX23_chain (Cond.code yX23_chain cX23_chain 6 (some (.object "OwnedPlacesModel$Exp"))) (4 + 6 * d) (83 + 132 * d) S0 Sf [.ref m9, .int x1] (some (va_rf rf))) (hV2 : ∀ (S0 Sf : Sg) (rf : Option Nat), V2 S0 = some (Sf, rf) → CT l D K m9 mr yX23_unary (Cond.code yX23_unary cX23_unary 3 (some (.object "OwnedPlacesModel$Exp"))) (4 + 6 * d) (83 + 132 * d) S0 Sf [.ref m9] (some (va_rf rf))) (S0 Sf : Sg) (x1 : Option Nat) (rf : Unit) (h : f_enterBracket K V V2 S0 x1 = some (Sf, rf)) : CT l D K m9 mr yX23_enterBracket (Cond.code yX23_enterBracket cX23_enterBracket 2 none) (6 + 6 * d) (128 + 132 * d) S0 Sf [.ref m9, va_rf x1] none := by
  refine x_start (cc := cX23_enterBracket) (lv := [(0, .ref m9), (1, va_rf x1)]) rfl rfl (by decide) (by simp [lv_args, cat_rf, cat_i, cat_l, cat_a]) (by simp [lg_sl, cat_rf, cat_i, cat_l, cat_a]) (fun p e R s m args below meth c Q A C => ?_)
  have j_58 : ∀ (S : Sg), f_enterBracket_58 K V V2 S = some (Sf, rf) → WX p l e R s m args below meth c Q D A K m9 mr 2 S0 S 58 [(0, .ref m9)] [] := by
    intro S h
    unfold f_enterBracket_58 at h
    refine x_tload_n C eX23_enterBracket_58 rfl 0 rfl ?_
    refine x_dup C eX23_enterBracket_59 rfl ?_
    refine x_mV (k9 := 15) C (by decide) ww_29 eX23_enterBracket_60 rfl ?_
    refine x_iconst (v := 1) C eX23_enterBracket_63 (by decide) ?_
    refine x_isub C eX23_enterBracket_64 ?_
    refine x_pM (k9 := 15) C (by decide) rfl (by decide) ww_29 rfl (by decide +kernel) eX23_enterBracket_65 h (fun S14 h => ?_)
    refine x_tload_n C eX23_enterBracket_68 rfl 0 rfl ?_
    refine x_bipush (v := 62) C eX23_enterBracket_69 (by decide) ?_
    refine x_cVv (As := [.int 62]) (st := []) (n := 1) (frc := 2) (loc := 42) C h (fun S9 r9 e9 => k_X23_take l D K m9 mr _ S9 62 r9 e9) ww_12 ww_25 ww_26 ww_27 ww_16 (by decide +kernel) rfl ⟨by omega, by omega⟩ (Nat.le_of_ble_eq_true rfl) eX23_enterBracket_71 (fun S15 v16 h => ?_)
    exact x_vret C rfl rfl eX23_enterBracket_74 h
  have j_37 : ∀ (S : Sg) (x1 : Option Nat), f_enterBracket_37 K V V2 S x1 = some (Sf, rf) → WX p l e R s m args below meth c Q D A K m9 mr 2 S0 S 37 [(0, .ref m9), (1, va_rf x1)] [] := by
    intro S x1 h
    unfold f_enterBracket_37 at h
    refine x_tload_n C eX23_enterBracket_37 rfl 0 rfl ?_
    refine x_bipush (v := 61) C eX23_enterBracket_38 (by decide) ?_
    refine x_cVv (As := [.int 61]) (st := []) (n := 1) (frc := 2) (loc := 42) C h (fun S9 r9 e9 => k_X23_take l D K m9 mr _ S9 61 r9 e9) ww_12 ww_25 ww_26 ww_27 ww_16 (by decide +kernel) rfl ⟨by omega, by omega⟩ (Nat.le_of_ble_eq_true rfl) eX23_enterBracket_40 (fun S7 v8 h => ?_)
    refine x_tload_n C eX23_enterBracket_43 rfl 0 rfl ?_
    refine x_cVi (As := []) (st := []) (n := 0) (frc := 1) (loc := 20) C h (fun S9 r9 e9 => k_X23_ok l D K m9 mr _ S9 r9 e9) ww_0 ww_13 ww_14 ww_15 ww_16 (by decide +kernel) rfl ⟨by omega, by omega⟩ (Nat.le_of_ble_eq_true rfl) eX23_enterBracket_44 (fun S9 v10 h => ?_)
    refine x_if_eq (tgt := 58) C eX23_enterBracket_47 (by decide) h (fun h => ?_) (fun h => ?_)
    · refine x_sub [0] rfl ?_
      exact j_58 S9 h
    · refine x_aload_n C eX23_enterBracket_50 rfl 1 rfl ?_
      refine x_tload_n C eX23_enterBracket_51 rfl 0 rfl ?_
      refine x_cVr (As := []) (st := [va_rf x1]) (n := 0) (frc := 5 + 6 * d) (loc := 108 + 132 * d) C h (fun S9 r9 e9 => k_X23_exp l D K m9 mr V V2 d hV hV2 _ S9 r9 e9) ww_193 ww_141 ww_142 ww_143 ww_16 (by decide +kernel) rfl ⟨by omega, by omega⟩ (Nat.le_of_ble_eq_true rfl) eX23_enterBracket_52 (fun S11 v12 h => ?_)
      refine x_pR (o9 := x1) (Cv := "OwnedPlacesModel$Exp") (ci := 15) (k9 := 8) (Cn := RX15) (T := TX15) (N := 14) C rfl wt_X15 tyX15_ok nmX15 (by decide) ww_192 rfl (by decide +kernel) eX23_enterBracket_55 h (fun S13 h => ?_)
      refine x_sub [0] rfl ?_
      exact j_58 S13 h
  have j_27 : ∀ (S : Sg) (x1 : Option Nat), f_enterBracket_27 K V V2 S x1 = some (Sf, rf) → WX p l e R s m args below meth c Q D A K m9 mr 2 S0 S 27 [(0, .ref m9), (1, va_rf x1)] [] := by
    intro S x1 h
    unfold f_enterBracket_27 at h
    refine x_tload_n C eX23_enterBracket_27 rfl 0 rfl ?_
    refine x_dup C eX23_enterBracket_28 rfl ?_
    refine x_mV (k9 := 15) C (by decide) ww_29 eX23_enterBracket_29 rfl ?_
    refine x_iconst (v := 1) C eX23_enterBracket_32 (by decide) ?_
    refine x_iadd C eX23_enterBracket_33 ?_
    refine x_pM (k9 := 15) C (by decide) rfl (by decide) ww_29 rfl (by decide +kernel) eX23_enterBracket_34 h (fun S17 h => ?_)
    refine x_sub [0, 1] rfl ?_
    exact j_37 S17 x1 h
  unfold f_enterBracket at h
  refine x_tload_n C eX23_enterBracket_0 rfl 0 rfl ?_
  refine x_cVi (As := []) (st := []) (n := 0) (frc := 1) (loc := 20) C h (fun S9 r9 e9 => k_X23_ok l D K m9 mr _ S9 r9 e9) ww_0 ww_13 ww_14 ww_15 ww_16 (by decide +kernel) rfl ⟨by omega, by omega⟩ (Nat.le_of_ble_eq_true rfl) eX23_enterBracket_1 (fun S1 v2 h => ?_)
  refine x_if_eq (tgt := 27) C eX23_enterBracket_4 (by decide) h (fun h => ?_) (fun h => ?_)
  · refine x_sub [0, 1] rfl ?_
    exact j_27 S1 x1 h
  · refine x_tload_n C eX23_enterBracket_7 rfl 0 rfl ?_
    refine x_bipush (v := 61) C eX23_enterBracket_8 (by decide) ?_
    refine x_cVi (As := [.int 61]) (st := []) (n := 1) (frc := 1) (loc := 20) C h (fun S9 r9 e9 => k_X23_is l D K m9 mr _ S9 61 r9 e9) ww_9 ww_17 ww_18 ww_19 ww_16 (by decide +kernel) rfl ⟨by omega, by omega⟩ (Nat.le_of_ble_eq_true rfl) eX23_enterBracket_10 (fun S3 v4 h => ?_)
    refine x_if_eq (tgt := 27) C eX23_enterBracket_13 (by decide) h (fun h => ?_) (fun h => ?_)
    · refine x_sub [0, 1] rfl ?_
      exact j_27 S3 x1 h
    · refine x_tload_n C eX23_enterBracket_16 rfl 0 rfl ?_
      refine x_tload_n C eX23_enterBracket_17 rfl 0 rfl ?_
      refine x_mV (k9 := 10) C (by decide) ww_11 eX23_enterBracket_18 rfl ?_
      refine x_cVv (As := [.int (Zi S3 10)]) (st := []) (n := 1) (frc := 2) (loc := 42) C h (fun S9 r9 e9 => k_X23_enter l D K m9 mr _ S9 (Zi S3 10) r9 e9) ww_28 ww_38 ww_39 ww_40 ww_16 (by decide +kernel) rfl ⟨by omega, by omega⟩ (Nat.le_of_ble_eq_true rfl) eX23_enterBracket_21 (fun S5 v6 h => ?_)
      refine x_goto (tgt := 37) C eX23_enterBracket_24 (by decide) ?_
      refine x_sub [0, 1] rfl ?_
      exact j_37 S5 x1 h
set_option maxRecDepth 20000 in
set_option maxHeartbeats 4000000 in
theorem k_X23_primary (l : Launch) (D : va_G) (K : Ky) (m9 : Nat) (mr : Nat → Nat) (V : Sg → Int32 → Option (Sg × Option Nat)) (V2 : Sg → Option (Sg × Option Nat)) (d : Nat) (hV : ∀ (S0 Sf : Sg) (x1 : Int32) (rf : Option Nat), V S0 x1 = some (Sf, rf) → CT l D K m9 mr yX23_chain (Cond.code yX23_chain cX23_chain 6 (some (.object "OwnedPlacesModel$Exp"))) (4 + 6 * d) (83 + 132 * d) S0 Sf [.ref m9, .int x1] (some (va_rf rf))) (hV2 : ∀ (S0 Sf : Sg) (rf : Option Nat), V2 S0 = some (Sf, rf) → CT l D K m9 mr yX23_unary (Cond.code yX23_unary cX23_unary 3 (some (.object "OwnedPlacesModel$Exp"))) (4 + 6 * d) (83 + 132 * d) S0 Sf [.ref m9] (some (va_rf rf))) (S0 Sf : Sg) (rf : Option Nat) (h : f_primary K V V2 S0 = some (Sf, rf)) : CT l D K m9 mr yX23_primary (Cond.code yX23_primary cX23_primary 2 (some (.object "OwnedPlacesModel$Exp"))) (8 + 6 * d) (171 + 132 * d) S0 Sf [.ref m9] (some (va_rf rf)) := by
  refine x_start (cc := cX23_primary) (lv := [(0, .ref m9)]) rfl rfl (by decide) (by simp [lv_args, cat_rf, cat_i, cat_l, cat_a]) (by simp [lg_sl, cat_rf, cat_i, cat_l, cat_a]) (fun p e R s m args below meth c Q A C => ?_)
  have j_253 : ∀ (S : Sg) (x1 : Option Nat), f_primary_253 K V V2 S x1 = some (Sf, rf) → WX p l e R s m args below meth c Q D A K m9 mr 2 S0 S 253 [(1, va_rf x1)] [] := by
    intro S x1 h
    unfold f_primary_253 at h
    refine x_aload_n C eX23_primary_253 rfl 0 rfl ?_
    exact x_aret C rfl (Or.inl ⟨_, rfl⟩) rfl eX23_primary_254 h
  have j_151 : ∀ (S : Sg) (x1 : Option Nat) (y0 : Int64) (y1 : Option Nat), f_primary_151 K V V2 S x1 y0 y1 = some (Sf, rf) → WX p l e R s m args below meth c Q D A K m9 mr 2 S0 S 151 [(0, .ref m9), (1, va_rf x1)] [.long y0, va_rf y1] := by
    intro S x1 y0 y1 h
    unfold f_primary_151 at h
    refine x_pJ (o9 := y1) (ci := 15) (k9 := 6) (Cn := RX15) (T := TX15) (N := 14) C rfl wt_X15 tyX15_ok nmX15 (by decide) ww_228 rfl (by decide +kernel) eX23_primary_151 h (fun S30 h => ?_)
    refine x_tload_n C eX23_primary_154 rfl 0 rfl ?_
    refine x_dup C eX23_primary_155 rfl ?_
    refine x_mV (k9 := 10) C (by decide) ww_11 eX23_primary_156 rfl ?_
    refine x_iconst (v := 1) C eX23_primary_159 (by decide) ?_
    refine x_iadd C eX23_primary_160 ?_
    refine x_pM (k9 := 10) C (by decide) rfl (by decide) ww_11 rfl (by decide +kernel) eX23_primary_161 h (fun S31 h => ?_)
    refine x_goto (tgt := 253) C eX23_primary_164 (by decide) ?_
    refine x_sub [1] rfl ?_
    exact j_253 S31 x1 h
  have j_131 : ∀ (S : Sg) (x1 : Option Nat), f_primary_131 K V V2 S x1 = some (Sf, rf) → WX p l e R s m args below meth c Q D A K m9 mr 2 S0 S 131 [(0, .ref m9), (1, va_rf x1)] [] := by
    intro S x1 h
    unfold f_primary_131 at h
    refine x_aload_n C eX23_primary_131 rfl 1 rfl ?_
    refine x_iconst (v := 1) C eX23_primary_132 (by decide) ?_
    refine x_pI (o9 := x1) (ci := 15) (k9 := 0) (Cn := RX15) (T := TX15) (N := 14) C rfl wt_X15 tyX15_ok nmX15 (by decide) ww_191 rfl (by decide +kernel) eX23_primary_133 h (fun S27 h => ?_)
    refine x_aload_n C eX23_primary_136 rfl 1 rfl ?_
    refine x_tload_n C eX23_primary_137 rfl 0 rfl ?_
    refine x_bipush (v := 21) C eX23_primary_138 (by decide) ?_
    refine x_cVi (As := [.int 21]) (st := [va_rf x1]) (n := 1) (frc := 1) (loc := 20) C h (fun S9 r9 e9 => k_X23_is l D K m9 mr _ S9 21 r9 e9) ww_9 ww_17 ww_18 ww_19 ww_16 (by decide +kernel) rfl ⟨by omega, by omega⟩ (Nat.le_of_ble_eq_true rfl) eX23_primary_140 (fun S28 v29 h => ?_)
    refine x_if_eq (tgt := 150) C eX23_primary_143 (by decide) h (fun h => ?_) (fun h => ?_)
    · refine x_lconst (v := 0) C eX23_primary_150 (by decide) ?_
      refine x_sub [0, 1] rfl ?_
      exact j_151 S28 x1 0 x1 h
    · refine x_lconst (v := 1) C eX23_primary_146 (by decide) ?_
      refine x_goto (tgt := 151) C eX23_primary_147 (by decide) ?_
      refine x_sub [0, 1] rfl ?_
      exact j_151 S28 x1 1 x1 h
  unfold f_primary at h
  refine x_nO (ci := 15) (Cn := RX15) (T := TX15) (ty0 := tyX15) C rfl wt_X15 tyX15_ok ww_164 ww_208 ww_209 dv_X15 eX23_primary_0 h (fun S1 a2 h => ?_)
  refine x_dup C eX23_primary_3 (cat_rf (some a2)) ?_
  refine x_callIN (b := a2) (frc := 1) (loc := 20) C (k_X15_init l D K m9 mr S1 a2) ww_978 C.2.2.2.1.1.2.2.2.2.2.2.1 ww_209 ww_210 rfl (by decide +kernel) ⟨by omega, by omega⟩ (Nat.le_of_ble_eq_true rfl) eX23_primary_4 ?_
  refine x_astore_n (lv2 := [(0, .ref m9)]) C eX23_primary_7 rfl (by decide) rfl (oky rfl ok0) ?_
  refine x_aload_n C eX23_primary_8 rfl 0 rfl ?_
  refine x_tload_n C eX23_primary_9 rfl 1 rfl ?_
  refine x_mV (k9 := 10) C (by decide) ww_11 eX23_primary_10 rfl ?_
  refine x_pI (o9 := (some a2)) (ci := 15) (k9 := 1) (Cn := RX15) (T := TX15) (N := 14) C rfl wt_X15 tyX15_ok nmX15 (by decide) ww_211 rfl (by decide +kernel) eX23_primary_13 h (fun S5 h => ?_)
  refine x_tload_n C eX23_primary_16 rfl 1 rfl ?_
  refine x_mV (k9 := 5) C (by decide) ww_10 eX23_primary_17 rfl ?_
  refine x_tload_n C eX23_primary_20 rfl 1 rfl ?_
  refine x_mV (k9 := 10) C (by decide) ww_11 eX23_primary_21 rfl ?_
  refine x_rI (r := 5) C (by decide) rfl eX23_primary_24 h (fun v6 h => ?_)
  refine x_lookIn (v := 2) (off := 211) (tgt := 236) C eX23_primary_25 (by decide) (by decide) (by decide) h (fun h => ?_) (fun hq0 h => ?_)
  · refine x_tload_n C eX23_primary_236 rfl 1 rfl ?_
    refine x_aload_n C eX23_primary_237 rfl 0 rfl ?_
    refine x_cVv (As := [va_rf (some a2)]) (st := []) (n := 1) (frc := 7 + 6 * d) (loc := 150 + 132 * d) C h (fun S9 r9 e9 => k_X23_named l D K m9 mr V V2 d hV hV2 _ S9 (some a2) r9 e9) ww_239 ww_235 ww_236 ww_237 ww_16 (by decide +kernel) rfl ⟨by omega, by omega⟩ (Nat.le_of_ble_eq_true rfl) eX23_primary_238 (fun S7 v8 h => ?_)
    refine x_goto (tgt := 253) C eX23_primary_241 (by decide) ?_
    refine x_sub [0] rfl ?_
    exact j_253 S7 (some a2) h
  · refine x_lookIn (v := 3) (off := 75) (tgt := 100) C eX23_primary_25 (by decide) (by decide) (by decide) h (fun h => ?_) (fun hq1 h => ?_)
    · refine x_aload_n C eX23_primary_100 rfl 0 rfl ?_
      refine x_iconst (v := 0) C eX23_primary_101 (by decide) ?_
      refine x_pI (o9 := (some a2)) (ci := 15) (k9 := 0) (Cn := RX15) (T := TX15) (N := 14) C rfl wt_X15 tyX15_ok nmX15 (by decide) ww_191 rfl (by decide +kernel) eX23_primary_102 h (fun S9 h => ?_)
      refine x_aload_n C eX23_primary_105 rfl 0 rfl ?_
      refine x_tload_n C eX23_primary_106 rfl 1 rfl ?_
      refine x_mV (k9 := 8) C (by decide) ww_227 eX23_primary_107 rfl ?_
      refine x_tload_n C eX23_primary_110 rfl 1 rfl ?_
      refine x_mV (k9 := 10) C (by decide) ww_11 eX23_primary_111 rfl ?_
      refine x_rJ (r := 8) C (by decide) rfl eX23_primary_114 h (fun v10 h => ?_)
      refine x_pJ (o9 := (some a2)) (ci := 15) (k9 := 6) (Cn := RX15) (T := TX15) (N := 14) C rfl wt_X15 tyX15_ok nmX15 (by decide) ww_228 rfl (by decide +kernel) eX23_primary_115 h (fun S11 h => ?_)
      refine x_tload_n C eX23_primary_118 rfl 1 rfl ?_
      refine x_dup C eX23_primary_119 rfl ?_
      refine x_mV (k9 := 10) C (by decide) ww_11 eX23_primary_120 rfl ?_
      refine x_iconst (v := 1) C eX23_primary_123 (by decide) ?_
      refine x_iadd C eX23_primary_124 ?_
      refine x_pM (k9 := 10) C (by decide) rfl (by decide) ww_11 rfl (by decide +kernel) eX23_primary_125 h (fun S12 h => ?_)
      refine x_goto (tgt := 253) C eX23_primary_128 (by decide) ?_
      refine x_sub [0] rfl ?_
      exact j_253 S12 (some a2) h
    · refine x_lookIn (v := 21) (off := 106) (tgt := 131) C eX23_primary_25 (by decide) (by decide) (by decide) h (fun h => ?_) (fun hq2 h => ?_)
      · refine x_sub [1, 0] rfl ?_
        exact j_131 S5 (some a2) h
      · refine x_lookIn (v := 22) (off := 106) (tgt := 131) C eX23_primary_25 (by decide) (by decide) (by decide) h (fun h => ?_) (fun hq3 h => ?_)
        · refine x_sub [1, 0] rfl ?_
          exact j_131 S5 (some a2) h
        · refine x_lookIn (v := 24) (off := 184) (tgt := 209) C eX23_primary_25 (by decide) (by decide) (by decide) h (fun h => ?_) (fun hq4 h => ?_)
          · refine x_aload_n C eX23_primary_209 rfl 0 rfl ?_
            refine x_iconst (v := 5) C eX23_primary_210 (by decide) ?_
            refine x_pI (o9 := (some a2)) (ci := 15) (k9 := 0) (Cn := RX15) (T := TX15) (N := 14) C rfl wt_X15 tyX15_ok nmX15 (by decide) ww_191 rfl (by decide +kernel) eX23_primary_211 h (fun S13 h => ?_)
            refine x_tload_n C eX23_primary_214 rfl 1 rfl ?_
            refine x_aload_n C eX23_primary_215 rfl 0 rfl ?_
            refine x_cVv (As := [va_rf (some a2)]) (st := []) (n := 1) (frc := 6 + 6 * d) (loc := 128 + 132 * d) C h (fun S9 r9 e9 => k_X23_newFields l D K m9 mr V V2 d hV hV2 _ S9 (some a2) r9 e9) ww_225 ww_232 ww_233 ww_234 ww_16 (by decide +kernel) rfl ⟨by omega, by omega⟩ (Nat.le_of_ble_eq_true rfl) eX23_primary_216 (fun S14 v15 h => ?_)
            refine x_goto (tgt := 253) C eX23_primary_219 (by decide) ?_
            refine x_sub [0] rfl ?_
            exact j_253 S14 (some a2) h
          · refine x_lookIn (v := 25) (off := 161) (tgt := 186) C eX23_primary_25 (by decide) (by decide) (by decide) h (fun h => ?_) (fun hq5 h => ?_)
            · refine x_aload_n C eX23_primary_186 rfl 0 rfl ?_
              refine x_iconst (v := 4) C eX23_primary_187 (by decide) ?_
              refine x_pI (o9 := (some a2)) (ci := 15) (k9 := 0) (Cn := RX15) (T := TX15) (N := 14) C rfl wt_X15 tyX15_ok nmX15 (by decide) ww_191 rfl (by decide +kernel) eX23_primary_188 h (fun S16 h => ?_)
              refine x_tload_n C eX23_primary_191 rfl 1 rfl ?_
              refine x_dup C eX23_primary_192 rfl ?_
              refine x_mV (k9 := 10) C (by decide) ww_11 eX23_primary_193 rfl ?_
              refine x_iconst (v := 1) C eX23_primary_196 (by decide) ?_
              refine x_iadd C eX23_primary_197 ?_
              refine x_pM (k9 := 10) C (by decide) rfl (by decide) ww_11 rfl (by decide +kernel) eX23_primary_198 h (fun S17 h => ?_)
              refine x_tload_n C eX23_primary_201 rfl 1 rfl ?_
              refine x_aload_n C eX23_primary_202 rfl 0 rfl ?_
              refine x_cVv (As := [va_rf (some a2)]) (st := []) (n := 1) (frc := 6 + 6 * d) (loc := 128 + 132 * d) C h (fun S9 r9 e9 => k_X23_enterBracket l D K m9 mr V V2 d hV hV2 _ S9 (some a2) r9 e9) ww_238 ww_229 ww_230 ww_231 ww_16 (by decide +kernel) rfl ⟨by omega, by omega⟩ (Nat.le_of_ble_eq_true rfl) eX23_primary_203 (fun S18 v19 h => ?_)
              refine x_goto (tgt := 253) C eX23_primary_206 (by decide) ?_
              refine x_sub [0] rfl ?_
              exact j_253 S18 (some a2) h
            · refine x_lookIn (v := 28) (off := 142) (tgt := 167) C eX23_primary_25 (by decide) (by decide) (by decide) h (fun h => ?_) (fun hq6 h => ?_)
              · refine x_aload_n C eX23_primary_167 rfl 0 rfl ?_
                refine x_bipush (v := 15) C eX23_primary_168 (by decide) ?_
                refine x_pI (o9 := (some a2)) (ci := 15) (k9 := 0) (Cn := RX15) (T := TX15) (N := 14) C rfl wt_X15 tyX15_ok nmX15 (by decide) ww_191 rfl (by decide +kernel) eX23_primary_170 h (fun S20 h => ?_)
                refine x_tload_n C eX23_primary_173 rfl 1 rfl ?_
                refine x_dup C eX23_primary_174 rfl ?_
                refine x_mV (k9 := 10) C (by decide) ww_11 eX23_primary_175 rfl ?_
                refine x_iconst (v := 1) C eX23_primary_178 (by decide) ?_
                refine x_iadd C eX23_primary_179 ?_
                refine x_pM (k9 := 10) C (by decide) rfl (by decide) ww_11 rfl (by decide +kernel) eX23_primary_180 h (fun S21 h => ?_)
                refine x_goto (tgt := 253) C eX23_primary_183 (by decide) ?_
                refine x_sub [0] rfl ?_
                exact j_253 S21 (some a2) h
              · refine x_lookIn (v := 61) (off := 197) (tgt := 222) C eX23_primary_25 (by decide) (by decide) (by decide) h (fun h => ?_) (fun hq7 h => ?_)
                · refine x_aload_n C eX23_primary_222 rfl 0 rfl ?_
                  refine x_bipush (v := 7) C eX23_primary_223 (by decide) ?_
                  refine x_pI (o9 := (some a2)) (ci := 15) (k9 := 0) (Cn := RX15) (T := TX15) (N := 14) C rfl wt_X15 tyX15_ok nmX15 (by decide) ww_191 rfl (by decide +kernel) eX23_primary_225 h (fun S22 h => ?_)
                  refine x_tload_n C eX23_primary_228 rfl 1 rfl ?_
                  refine x_aload_n C eX23_primary_229 rfl 0 rfl ?_
                  refine x_cVv (As := [va_rf (some a2)]) (st := []) (n := 1) (frc := 6 + 6 * d) (loc := 128 + 132 * d) C h (fun S9 r9 e9 => k_X23_enterBracket l D K m9 mr V V2 d hV hV2 _ S9 (some a2) r9 e9) ww_238 ww_229 ww_230 ww_231 ww_16 (by decide +kernel) rfl ⟨by omega, by omega⟩ (Nat.le_of_ble_eq_true rfl) eX23_primary_230 (fun S23 v24 h => ?_)
                  refine x_goto (tgt := 253) C eX23_primary_233 (by decide) ?_
                  refine x_sub [0] rfl ?_
                  exact j_253 S23 (some a2) h
                · have hq0i : (v6 : Int32).toInt ≠ 2 := fun q9 => hq0 (Int32.toInt_inj.mp q9)
                  have hq1i : (v6 : Int32).toInt ≠ 3 := fun q9 => hq1 (Int32.toInt_inj.mp q9)
                  have hq2i : (v6 : Int32).toInt ≠ 21 := fun q9 => hq2 (Int32.toInt_inj.mp q9)
                  have hq3i : (v6 : Int32).toInt ≠ 22 := fun q9 => hq3 (Int32.toInt_inj.mp q9)
                  have hq4i : (v6 : Int32).toInt ≠ 24 := fun q9 => hq4 (Int32.toInt_inj.mp q9)
                  have hq5i : (v6 : Int32).toInt ≠ 25 := fun q9 => hq5 (Int32.toInt_inj.mp q9)
                  have hq6i : (v6 : Int32).toInt ≠ 28 := fun q9 => hq6 (Int32.toInt_inj.mp q9)
                  have hq7i : (v6 : Int32).toInt ≠ 61 := fun q9 => hq7 (Int32.toInt_inj.mp q9)
                  refine x_lookOut (tgt := 244) C eX23_primary_25 (by decide) (by simp [Op.lookupswitch.offset, hq0i, hq1i, hq2i, hq3i, hq4i, hq5i, hq6i, hq7i, Ne.symm hq0i, Ne.symm hq1i, Ne.symm hq2i, Ne.symm hq3i, Ne.symm hq4i, Ne.symm hq5i, Ne.symm hq6i, Ne.symm hq7i]) (by decide) ?_
                  refine x_tload_n C eX23_primary_244 rfl 1 rfl ?_
                  refine x_iconst (v := 1) C eX23_primary_245 (by decide) ?_
                  refine x_tload_n C eX23_primary_246 rfl 1 rfl ?_
                  refine x_mV (k9 := 10) C (by decide) ww_11 eX23_primary_247 rfl ?_
                  refine x_cVv (As := [.int 1, .int (Zi S5 10)]) (st := []) (n := 2) (frc := 1) (loc := 20) C h (fun S9 r9 e9 => k_X23_fail l D K m9 mr _ S9 1 (Zi S5 10) r9 e9) ww_2 ww_20 ww_21 ww_22 ww_16 (by decide +kernel) rfl ⟨by omega, by omega⟩ (Nat.le_of_ble_eq_true rfl) eX23_primary_250 (fun S25 v26 h => ?_)
                  refine x_sub [0] rfl ?_
                  exact j_253 S25 (some a2) h
set_option maxRecDepth 20000 in
set_option maxHeartbeats 4000000 in
theorem k_X23_suffixed (l : Launch) (D : va_G) (K : Ky) (m9 : Nat) (mr : Nat → Nat) (V : Sg → Int32 → Option (Sg × Option Nat)) (V2 : Sg → Option (Sg × Option Nat)) (d : Nat) (hV : ∀ (S0 Sf : Sg) (x1 : Int32) (rf : Option Nat), V S0 x1 = some (Sf, rf) → CT l D K m9 mr yX23_chain (Cond.code yX23_chain cX23_chain 6 (some (.object "OwnedPlacesModel$Exp"))) (4 + 6 * d) (83 + 132 * d) S0 Sf [.ref m9, .int x1] (some (va_rf rf))) (hV2 : ∀ (S0 Sf : Sg) (rf : Option Nat), V2 S0 = some (Sf, rf) → CT l D K m9 mr yX23_unary (Cond.code yX23_unary cX23_unary 3 (some (.object "OwnedPlacesModel$Exp"))) (4 + 6 * d) (83 + 132 * d) S0 Sf [.ref m9] (some (va_rf rf))) (S0 Sf : Sg) (rf : Option Nat) (h : f_suffixed K V V2 S0 = some (Sf, rf)) : CT l D K m9 mr yX23_suffixed (Cond.code yX23_suffixed cX23_suffixed 4 (some (.object "OwnedPlacesModel$Exp"))) (9 + 6 * d) (192 + 132 * d) S0 Sf [.ref m9] (some (va_rf rf)) := by
  refine x_start (cc := cX23_suffixed) (lv := [(0, .ref m9)]) rfl rfl (by decide) (by simp [lv_args, cat_rf, cat_i, cat_l, cat_a]) (by simp [lg_sl, cat_rf, cat_i, cat_l, cat_a]) (fun p e R s m args below meth c Q A C => ?_)
  have j_91 : ∀ (S : Sg) (x1 : Option Nat), f_suffixed_91 K V V2 S x1 = some (Sf, rf) → WX p l e R s m args below meth c Q D A K m9 mr 4 S0 S 91 [(1, va_rf x1)] [] := by
    intro S x1 h
    unfold f_suffixed_91 at h
    refine x_aload_n C eX23_suffixed_91 rfl 0 rfl ?_
    exact x_aret C rfl (Or.inl ⟨_, rfl⟩) rfl eX23_suffixed_92 h
  have j_7 : ∀ (n_7 : Nat) (S : Sg) (x1 : Option Nat) (x2 : Int32), f_suffixed_7 K V V2 n_7 S x1 x2 = some (Sf, rf) → WX p l e R s m args below meth c Q D A K m9 mr 4 S0 S 7 [(0, .ref m9), (1, va_rf x1), (2, .int x2)] [] := by
    intro n_7
    induction n_7 with
    | zero => intro S x1 x2 h; unfold f_suffixed_7 at h; cases h
    | succ n_7 ih_7 =>
      intro S x1 x2 h
      have j_38 : ∀ (S : Sg) (x1 : Option Nat) (x2 : Int32), f_suffixed_38 K V V2 (f_suffixed_7 K V V2 n_7) S x1 x2 = some (Sf, rf) → WX p l e R s m args below meth c Q D A K m9 mr 4 S0 S 38 [(0, .ref m9), (1, va_rf x1), (2, .int x2)] [] := by
        intro S x1 x2 h
        unfold f_suffixed_38 at h
        refine x_iinc (j := 2) (v := 1) (lv2 := [(0, .ref m9), (1, va_rf x1)]) C eX23_suffixed_38 rfl (by decide) (by decide) rfl (oky rfl (oky (cat_rf x1) ok0)) ?_
        refine x_tload_n C eX23_suffixed_41 rfl 1 rfl ?_
        refine x_dup C eX23_suffixed_42 rfl ?_
        refine x_mV (k9 := 10) C (by decide) ww_11 eX23_suffixed_43 rfl ?_
        refine x_iconst (v := 1) C eX23_suffixed_46 (by decide) ?_
        refine x_iadd C eX23_suffixed_47 ?_
        refine x_pM (k9 := 10) C (by decide) rfl (by decide) ww_11 rfl (by decide +kernel) eX23_suffixed_48 h (fun S9 h => ?_)
        refine x_nO (ci := 15) (Cn := RX15) (T := TX15) (ty0 := tyX15) C rfl wt_X15 tyX15_ok ww_164 ww_208 ww_209 dv_X15 eX23_suffixed_51 h (fun S10 a11 h => ?_)
        refine x_dup C eX23_suffixed_54 (cat_rf (some a11)) ?_
        refine x_callIN (b := a11) (frc := 1) (loc := 20) C (k_X15_init l D K m9 mr S10 a11) ww_978 C.2.2.2.1.1.2.2.2.2.2.2.1 ww_209 ww_210 rfl (by decide +kernel) ⟨by omega, by omega⟩ (Nat.le_of_ble_eq_true rfl) eX23_suffixed_55 ?_
        refine x_astore_n (lv2 := [(2, .int (x2 + 1)), (0, .ref m9), (1, va_rf x1)]) C eX23_suffixed_58 rfl (by decide) rfl (oky rfl (oky rfl (oky (cat_rf x1) ok0))) ?_
        refine x_aload_n C eX23_suffixed_59 rfl 0 rfl ?_
        refine x_bipush (v := 14) C eX23_suffixed_60 (by decide) ?_
        refine x_pI (o9 := (some a11)) (ci := 15) (k9 := 0) (Cn := RX15) (T := TX15) (N := 14) C rfl wt_X15 tyX15_ok nmX15 (by decide) ww_191 rfl (by decide +kernel) eX23_suffixed_62 h (fun S14 h => ?_)
        refine x_aload_n C eX23_suffixed_65 rfl 0 rfl ?_
        refine x_aload_n C eX23_suffixed_66 rfl 3 rfl ?_
        refine x_gI (o9 := x1) (ci := 15) (k9 := 1) (Cn := RX15) (T := TX15) (N := 14) C rfl wt_X15 (by decide) ww_211 eX23_suffixed_67 h (fun v15 h => ?_)
        refine x_pI (o9 := (some a11)) (ci := 15) (k9 := 1) (Cn := RX15) (T := TX15) (N := 14) C rfl wt_X15 tyX15_ok nmX15 (by decide) ww_211 rfl (by decide +kernel) eX23_suffixed_70 h (fun S16 h => ?_)
        refine x_aload_n C eX23_suffixed_73 rfl 0 rfl ?_
        refine x_aload_n C eX23_suffixed_74 rfl 3 rfl ?_
        refine x_pR (o9 := (some a11)) (Cv := "OwnedPlacesModel$Exp") (ci := 15) (k9 := 8) (Cn := RX15) (T := TX15) (N := 14) C rfl wt_X15 tyX15_ok nmX15 (by decide) ww_192 rfl (by decide +kernel) eX23_suffixed_75 h (fun S17 h => ?_)
        refine x_aload_n C eX23_suffixed_78 rfl 0 rfl ?_
        refine x_tload_n C eX23_suffixed_79 rfl 2 rfl ?_
        refine x_cVi (As := []) (st := [va_rf (some a11)]) (n := 0) (frc := 3) (loc := 63) C h (fun S9 r9 e9 => k_X23_name l D K m9 mr _ S9 r9 e9) ww_24 ww_56 ww_57 ww_58 ww_16 (by decide +kernel) rfl ⟨by omega, by omega⟩ (Nat.le_of_ble_eq_true rfl) eX23_suffixed_80 (fun S18 v19 h => ?_)
        refine x_pI (o9 := (some a11)) (ci := 15) (k9 := 3) (Cn := RX15) (T := TX15) (N := 14) C rfl wt_X15 tyX15_ok nmX15 (by decide) ww_223 rfl (by decide +kernel) eX23_suffixed_83 h (fun S20 h => ?_)
        refine x_aload_n C eX23_suffixed_86 rfl 0 rfl ?_
        refine x_astore_n (lv2 := [(3, va_rf (some a11)), (2, .int (x2 + 1)), (0, .ref m9)]) C eX23_suffixed_87 rfl (by decide) rfl (oky (cat_rf (some a11)) (oky rfl (oky rfl ok0))) ?_
        refine x_goto (tgt := 7) C eX23_suffixed_88 (by decide) ?_
        refine x_sub [3, 0, 2] rfl ?_
        exact ih_7 S20 (some a11) (x2 + 1) h
      unfold f_suffixed_7 at h
      refine x_tload_n C eX23_suffixed_7 rfl 0 rfl ?_
      refine x_cVi (As := []) (st := []) (n := 0) (frc := 1) (loc := 20) C h (fun S9 r9 e9 => k_X23_ok l D K m9 mr _ S9 r9 e9) ww_0 ww_13 ww_14 ww_15 ww_16 (by decide +kernel) rfl ⟨by omega, by omega⟩ (Nat.le_of_ble_eq_true rfl) eX23_suffixed_8 (fun S3 v4 h => ?_)
      refine x_if_eq (tgt := 91) C eX23_suffixed_11 (by decide) h (fun h => ?_) (fun h => ?_)
      · refine x_sub [1] rfl ?_
        exact j_91 S3 x1 h
      · refine x_tload_n C eX23_suffixed_14 rfl 0 rfl ?_
        refine x_bipush (v := 56) C eX23_suffixed_15 (by decide) ?_
        refine x_cVi (As := [.int 56]) (st := []) (n := 1) (frc := 1) (loc := 20) C h (fun S9 r9 e9 => k_X23_is l D K m9 mr _ S9 56 r9 e9) ww_9 ww_17 ww_18 ww_19 ww_16 (by decide +kernel) rfl ⟨by omega, by omega⟩ (Nat.le_of_ble_eq_true rfl) eX23_suffixed_17 (fun S5 v6 h => ?_)
        refine x_if_eq (tgt := 91) C eX23_suffixed_20 (by decide) h (fun h => ?_) (fun h => ?_)
        · refine x_sub [1] rfl ?_
          exact j_91 S5 x1 h
        · refine x_iload_n C eX23_suffixed_23 rfl 2 rfl ?_
          refine x_bipush (v := 16) C eX23_suffixed_24 (by decide) ?_
          refine x_ic_ne (tgt := 38) C eX23_suffixed_26 (by decide) h (fun h => ?_) (fun h => ?_)
          · refine x_sub [0, 1, 2] rfl ?_
            exact j_38 S5 x1 x2 h
          · refine x_tload_n C eX23_suffixed_29 rfl 0 rfl ?_
            refine x_iconst (v := 2) C eX23_suffixed_30 (by decide) ?_
            refine x_tload_n C eX23_suffixed_31 rfl 0 rfl ?_
            refine x_mV (k9 := 10) C (by decide) ww_11 eX23_suffixed_32 rfl ?_
            refine x_cVv (As := [.int 2, .int (Zi S5 10)]) (st := []) (n := 2) (frc := 1) (loc := 20) C h (fun S9 r9 e9 => k_X23_fail l D K m9 mr _ S9 2 (Zi S5 10) r9 e9) ww_2 ww_20 ww_21 ww_22 ww_16 (by decide +kernel) rfl ⟨by omega, by omega⟩ (Nat.le_of_ble_eq_true rfl) eX23_suffixed_35 (fun S7 v8 h => ?_)
            refine x_sub [0, 1, 2] rfl ?_
            exact j_38 S7 x1 x2 h
  unfold f_suffixed at h
  refine x_tload_n C eX23_suffixed_0 rfl 0 rfl ?_
  refine x_cVr (As := []) (st := []) (n := 0) (frc := 8 + 6 * d) (loc := 171 + 132 * d) C h (fun S9 r9 e9 => k_X23_primary l D K m9 mr V V2 d hV hV2 _ S9 r9 e9) ww_226 ww_220 ww_221 ww_222 ww_16 (by decide +kernel) rfl ⟨by omega, by omega⟩ (Nat.le_of_ble_eq_true rfl) eX23_suffixed_1 (fun S1 v2 h => ?_)
  refine x_astore_n (lv2 := [(0, .ref m9)]) C eX23_suffixed_4 rfl (by decide) rfl (oky rfl ok0) ?_
  refine x_iconst (v := 0) C eX23_suffixed_5 (by decide) ?_
  refine x_istore_n (lv2 := [(1, va_rf v2), (0, .ref m9)]) C eX23_suffixed_6 rfl (by decide) rfl (oky (cat_rf v2) (oky rfl ok0)) ?_
  refine x_sub [2, 1, 0] rfl ?_
  exact j_7 bigN S1 v2 0 h
set_option maxRecDepth 20000 in
set_option maxHeartbeats 4000000 in
theorem k_X23_chain (l : Launch) (D : va_G) (K : Ky) (m9 : Nat) (mr : Nat → Nat) (V : Sg → Int32 → Option (Sg × Option Nat)) (V2 : Sg → Option (Sg × Option Nat)) (d : Nat) (hV : ∀ (S0 Sf : Sg) (x1 : Int32) (rf : Option Nat), V S0 x1 = some (Sf, rf) → CT l D K m9 mr yX23_chain (Cond.code yX23_chain cX23_chain 6 (some (.object "OwnedPlacesModel$Exp"))) (4 + 6 * d) (83 + 132 * d) S0 Sf [.ref m9, .int x1] (some (va_rf rf))) (hV2 : ∀ (S0 Sf : Sg) (rf : Option Nat), V2 S0 = some (Sf, rf) → CT l D K m9 mr yX23_unary (Cond.code yX23_unary cX23_unary 3 (some (.object "OwnedPlacesModel$Exp"))) (4 + 6 * d) (83 + 132 * d) S0 Sf [.ref m9] (some (va_rf rf))) (S0 Sf : Sg) (x1 : Int32) (rf : Option Nat) (h : f_chain K V V2 S0 x1 = some (Sf, rf)) : CT l D K m9 mr yX23_chain (Cond.code yX23_chain cX23_chain 6 (some (.object "OwnedPlacesModel$Exp"))) (4 + 6 * (d + 1)) (83 + 132 * (d + 1)) S0 Sf [.ref m9, .int x1] (some (va_rf rf)) := by
  refine x_start (cc := cX23_chain) (lv := [(0, .ref m9), (1, .int x1)]) rfl rfl (by decide) (by simp [lv_args, cat_rf, cat_i, cat_l, cat_a]) (by simp [lg_sl, cat_rf, cat_i, cat_l, cat_a]) (fun p e R s m args below meth c Q A C => ?_)
  have j_144 : ∀ (S : Sg) (y0 : Option Nat), f_chain_144 K V V2 S y0 = some (Sf, rf) → WX p l e R s m args below meth c Q D A K m9 mr 6 S0 S 144 [] [va_rf y0] := by
    intro S y0 h
    unfold f_chain_144 at h
    exact x_aret C rfl (Or.inl ⟨_, rfl⟩) rfl eX23_chain_144 h
  have j_135 : ∀ (S : Sg) (x2 : Option Nat) (x3 : Option Nat), f_chain_135 K V V2 S x2 x3 = some (Sf, rf) → WX p l e R s m args below meth c Q D A K m9 mr 6 S0 S 135 [(2, va_rf x2), (3, va_rf x3)] [] := by
    intro S x2 x3 h
    unfold f_chain_135 at h
    refine x_aload_n C eX23_chain_135 rfl 1 rfl ?_
    refine x_ifnonnull (tgt := 143) C eX23_chain_136 (by decide) h (fun h => ?_) (fun h => ?_)
    · refine x_aload_n C eX23_chain_143 rfl 1 rfl ?_
      refine x_sub [] rfl ?_
      exact j_144 S x3 h
    · refine x_aload_n C eX23_chain_139 rfl 0 rfl ?_
      refine x_goto (tgt := 144) C eX23_chain_140 (by decide) ?_
      refine x_sub [] rfl ?_
      exact j_144 S x2 h
  have j_29 : ∀ (n_29 : Nat) (S : Sg) (x1 : Int32) (x2 : Option Nat) (x3 : Option Nat), f_chain_29 K V V2 n_29 S x1 x2 x3 = some (Sf, rf) → WX p l e R s m args below meth c Q D A K m9 mr 6 S0 S 29 [(0, .ref m9), (1, .int x1), (2, va_rf x2), (3, va_rf x3)] [] := by
    intro n_29
    induction n_29 with
    | zero => intro S x1 x2 x3 h; unfold f_chain_29 at h; cases h
    | succ n_29 ih_29 =>
      intro S x1 x2 x3 h
      have j_124 : ∀ (S : Sg) (x1 : Int32) (x2 : Option Nat) (x3 : Option Nat) (x4 : Int32) (x5 : Option Nat), f_chain_124 K V V2 (f_chain_29 K V V2 n_29) S x1 x2 x3 x4 x5 = some (Sf, rf) → WX p l e R s m args below meth c Q D A K m9 mr 6 S0 S 124 [(0, .ref m9), (1, .int x1), (2, va_rf x2), (3, va_rf x3), (4, .int x4), (5, va_rf x5)] [] := by
        intro S x1 x2 x3 x4 x5 h
        unfold f_chain_124 at h
        refine x_aload_n C eX23_chain_124 rfl 3 rfl ?_
        refine x_aload C eX23_chain_125 5 rfl ?_
        refine x_iload C eX23_chain_127 4 rfl ?_
        refine x_cSv (As := [va_rf x3, va_rf x5, .int x4]) (st := []) (n := 3) (frc := 1) (loc := 20) C h (fun S9 r9 e9 => k_X23_add l D K m9 mr _ S9 x3 x5 x4 r9 e9) ww_198 ww_212 ww_213 ww_16 (by decide +kernel) rfl ⟨by omega, by omega⟩ (Nat.le_of_ble_eq_true rfl) eX23_chain_129 (fun S24 v25 h => ?_)
        refine x_goto (tgt := 29) C eX23_chain_132 (by decide) ?_
        refine x_sub [0, 1, 2, 3] rfl ?_
        exact ih_29 S24 x1 x2 x3 h
      unfold f_chain_29 at h
      refine x_tload_n C eX23_chain_29 rfl 0 rfl ?_
      refine x_cVi (As := []) (st := []) (n := 0) (frc := 1) (loc := 20) C h (fun S9 r9 e9 => k_X23_ok l D K m9 mr _ S9 r9 e9) ww_0 ww_13 ww_14 ww_15 ww_16 (by decide +kernel) rfl ⟨by omega, by omega⟩ (Nat.le_of_ble_eq_true rfl) eX23_chain_30 (fun S5 v6 h => ?_)
      refine x_if_eq (tgt := 135) C eX23_chain_33 (by decide) h (fun h => ?_) (fun h => ?_)
      · refine x_sub [2, 3] rfl ?_
        exact j_135 S5 x2 x3 h
      · refine x_tload_n C eX23_chain_36 rfl 0 rfl ?_
        refine x_mV (k9 := 5) C (by decide) ww_10 eX23_chain_37 rfl ?_
        refine x_tload_n C eX23_chain_40 rfl 0 rfl ?_
        refine x_mV (k9 := 10) C (by decide) ww_11 eX23_chain_41 rfl ?_
        refine x_rI (r := 5) C (by decide) rfl eX23_chain_44 h (fun v7 h => ?_)
        refine x_cSi (As := [.int v7]) (st := []) (n := 1) (frc := 1) (loc := 20) C h (fun S9 r9 e9 => k_X23_levelOf l D K m9 mr _ S9 v7 r9 e9) ww_197 ww_206 ww_207 ww_16 (by decide +kernel) rfl ⟨by omega, by omega⟩ (Nat.le_of_ble_eq_true rfl) eX23_chain_45 (fun S8 v9 h => ?_)
        refine x_iload_n C eX23_chain_48 rfl 1 rfl ?_
        refine x_ic_ne (tgt := 135) C eX23_chain_49 (by decide) h (fun h => ?_) (fun h => ?_)
        · refine x_sub [2, 3] rfl ?_
          exact j_135 S8 x2 x3 h
        · refine x_tload_n C eX23_chain_52 rfl 0 rfl ?_
          refine x_mV (k9 := 10) C (by decide) ww_11 eX23_chain_53 rfl ?_
          refine x_istore (lv2 := [(0, .ref m9), (1, .int x1), (2, va_rf x2), (3, va_rf x3)]) C eX23_chain_56 (by decide) rfl (oky rfl (oky rfl (oky (cat_rf x2) (oky (cat_rf x3) ok0)))) ?_
          refine x_tload_n C eX23_chain_58 rfl 1 rfl ?_
          refine x_dup C eX23_chain_59 rfl ?_
          refine x_mV (k9 := 10) C (by decide) ww_11 eX23_chain_60 rfl ?_
          refine x_iconst (v := 1) C eX23_chain_63 (by decide) ?_
          refine x_iadd C eX23_chain_64 ?_
          refine x_pM (k9 := 10) C (by decide) rfl (by decide) ww_11 rfl (by decide +kernel) eX23_chain_65 h (fun S10 h => ?_)
          refine x_tload_n C eX23_chain_68 rfl 1 rfl ?_
          refine x_iload C eX23_chain_69 0 rfl ?_
          refine x_cVv (As := [.int (Zi S8 10)]) (st := []) (n := 1) (frc := 2) (loc := 42) C h (fun S9 r9 e9 => k_X23_enter l D K m9 mr _ S9 (Zi S8 10) r9 e9) ww_28 ww_38 ww_39 ww_40 ww_16 (by decide +kernel) rfl ⟨by omega, by omega⟩ (Nat.le_of_ble_eq_true rfl) eX23_chain_71 (fun S11 v12 h => ?_)
          refine x_tload_n C eX23_chain_74 rfl 1 rfl ?_
          refine x_iload_n C eX23_chain_75 rfl 2 rfl ?_
          refine x_iconst (v := 1) C eX23_chain_76 (by decide) ?_
          refine x_iadd C eX23_chain_77 ?_
          refine x_cVr (As := [.int (x1 + 1)]) (st := []) (n := 1) (frc := 4 + 6 * d) (loc := 83 + 132 * d) C h (fun S9 r9 e9 => hV _ S9 (x1 + 1) r9 e9) ww_202 ww_194 ww_195 ww_196 ww_16 (by decide +kernel) rfl ⟨by omega, by omega⟩ (Nat.le_of_ble_eq_true rfl) eX23_chain_78 (fun S13 v14 h => ?_)
          refine x_astore (lv2 := [(4, .int (Zi S8 10)), (0, .ref m9), (1, .int x1), (2, va_rf x2), (3, va_rf x3)]) C eX23_chain_81 (by decide) rfl (oky rfl (oky rfl (oky rfl (oky (cat_rf x2) (oky (cat_rf x3) ok0))))) ?_
          refine x_tload_n C eX23_chain_83 rfl 2 rfl ?_
          refine x_dup C eX23_chain_84 rfl ?_
          refine x_mV (k9 := 15) C (by decide) ww_29 eX23_chain_85 rfl ?_
          refine x_iconst (v := 1) C eX23_chain_88 (by decide) ?_
          refine x_isub C eX23_chain_89 ?_
          refine x_pM (k9 := 15) C (by decide) rfl (by decide) ww_29 rfl (by decide +kernel) eX23_chain_90 h (fun S15 h => ?_)
          refine x_aload_n C eX23_chain_93 rfl 5 rfl ?_
          refine x_ifnonnull (tgt := 124) C eX23_chain_94 (by decide) h (fun h => ?_) (fun h => ?_)
          · refine x_sub [2, 3, 4, 5, 1, 0] rfl ?_
            exact j_124 S15 x1 x2 x3 (Zi S8 10) v14 h
          · refine x_nO (ci := 15) (Cn := RX15) (T := TX15) (ty0 := tyX15) C rfl wt_X15 tyX15_ok ww_164 ww_208 ww_209 dv_X15 eX23_chain_97 h (fun S16 a17 h => ?_)
            refine x_dup C eX23_chain_100 (cat_rf (some a17)) ?_
            refine x_callIN (b := a17) (frc := 1) (loc := 20) C (k_X15_init l D K m9 mr S16 a17) ww_978 C.2.2.2.1.1.2.2.2.2.2.2.1 ww_209 ww_210 rfl (by decide +kernel) ⟨by omega, by omega⟩ (Nat.le_of_ble_eq_true rfl) eX23_chain_101 ?_
            refine x_astore_n (lv2 := [(5, va_rf v14), (4, .int (Zi S8 10)), (0, .ref m9), (1, .int x1), (2, va_rf x2)]) C eX23_chain_104 rfl (by decide) rfl (oky (cat_rf v14) (oky rfl (oky rfl (oky rfl (oky (cat_rf x2) ok0))))) ?_
            refine x_aload_n C eX23_chain_105 rfl 0 rfl ?_
            refine x_bipush (v := 8) C eX23_chain_106 (by decide) ?_
            refine x_pI (o9 := (some a17)) (ci := 15) (k9 := 0) (Cn := RX15) (T := TX15) (N := 14) C rfl wt_X15 tyX15_ok nmX15 (by decide) ww_191 rfl (by decide +kernel) eX23_chain_108 h (fun S20 h => ?_)
            refine x_aload_n C eX23_chain_111 rfl 0 rfl ?_
            refine x_aload_n C eX23_chain_112 rfl 5 rfl ?_
            refine x_gI (o9 := x2) (ci := 15) (k9 := 1) (Cn := RX15) (T := TX15) (N := 14) C rfl wt_X15 (by decide) ww_211 eX23_chain_113 h (fun v21 h => ?_)
            refine x_pI (o9 := (some a17)) (ci := 15) (k9 := 1) (Cn := RX15) (T := TX15) (N := 14) C rfl wt_X15 tyX15_ok nmX15 (by decide) ww_211 rfl (by decide +kernel) eX23_chain_116 h (fun S22 h => ?_)
            refine x_aload_n C eX23_chain_119 rfl 0 rfl ?_
            refine x_aload_n C eX23_chain_120 rfl 5 rfl ?_
            refine x_pR (o9 := (some a17)) (Cv := "OwnedPlacesModel$Exp") (ci := 15) (k9 := 8) (Cn := RX15) (T := TX15) (N := 14) C rfl wt_X15 tyX15_ok nmX15 (by decide) ww_192 rfl (by decide +kernel) eX23_chain_121 h (fun S23 h => ?_)
            refine x_sub [3, 4, 5, 0, 2, 1] rfl ?_
            exact j_124 S23 x1 x2 (some a17) (Zi S8 10) v14 h
  have j_19 : ∀ (S : Sg) (x1 : Int32) (y0 : Option Nat), f_chain_19 K V V2 S x1 y0 = some (Sf, rf) → WX p l e R s m args below meth c Q D A K m9 mr 6 S0 S 19 [(0, .ref m9), (1, .int x1)] [va_rf y0] := by
    intro S x1 y0 h
    unfold f_chain_19 at h
    refine x_astore_n (lv2 := [(0, .ref m9), (1, .int x1)]) C eX23_chain_19 rfl (by decide) rfl (oky rfl (oky rfl ok0)) ?_
    refine x_iload_n C eX23_chain_20 rfl 2 rfl ?_
    refine x_iconst (v := 5) C eX23_chain_21 (by decide) ?_
    refine x_ic_le (tgt := 27) C eX23_chain_22 (by decide) h (fun h => ?_) (fun h => ?_)
    · refine x_null C eX23_chain_27 ?_
      refine x_astore_n (lv2 := [(2, va_rf y0), (0, .ref m9), (1, .int x1)]) C eX23_chain_28 rfl (by decide) rfl (oky (cat_rf y0) (oky rfl (oky rfl ok0))) ?_
      refine x_sub [2, 3, 1, 0] rfl ?_
      exact j_29 bigN S x1 y0 none h
    · refine x_aload_n C eX23_chain_25 rfl 0 rfl ?_
      exact x_aret C rfl (Or.inl ⟨_, rfl⟩) rfl eX23_chain_26 h
  unfold f_chain at h
  refine x_iload_n C eX23_chain_0 rfl 1 rfl ?_
  refine x_iconst (v := 5) C eX23_chain_1 (by decide) ?_
  refine x_ic_le (tgt := 12) C eX23_chain_2 (by decide) h (fun h => ?_) (fun h => ?_)
  · refine x_tload_n C eX23_chain_12 rfl 0 rfl ?_
    refine x_iload_n C eX23_chain_13 rfl 1 rfl ?_
    refine x_iconst (v := 1) C eX23_chain_14 (by decide) ?_
    refine x_iadd C eX23_chain_15 ?_
    refine x_cVr (As := [.int (x1 + 1)]) (st := []) (n := 1) (frc := 4 + 6 * d) (loc := 83 + 132 * d) C h (fun S9 r9 e9 => hV _ S9 (x1 + 1) r9 e9) ww_202 ww_194 ww_195 ww_196 ww_16 (by decide +kernel) rfl ⟨by omega, by omega⟩ (Nat.le_of_ble_eq_true rfl) eX23_chain_16 (fun S1 v2 h => ?_)
    refine x_sub [0, 1] rfl ?_
    exact j_19 S1 x1 v2 h
  · refine x_tload_n C eX23_chain_5 rfl 0 rfl ?_
    refine x_cVr (As := []) (st := []) (n := 0) (frc := 4 + 6 * d) (loc := 83 + 132 * d) C h (fun S9 r9 e9 => hV2 _ S9 r9 e9) ww_214 ww_203 ww_204 ww_205 ww_16 (by decide +kernel) rfl ⟨by omega, by omega⟩ (Nat.le_of_ble_eq_true rfl) eX23_chain_6 (fun S3 v4 h => ?_)
    refine x_goto (tgt := 19) C eX23_chain_9 (by decide) ?_
    refine x_sub [0, 1] rfl ?_
    exact j_19 S3 x1 v4 h
set_option maxRecDepth 20000 in
set_option maxHeartbeats 4000000 in
theorem k_X23_unary (l : Launch) (D : va_G) (K : Ky) (m9 : Nat) (mr : Nat → Nat) (V : Sg → Int32 → Option (Sg × Option Nat)) (V2 : Sg → Option (Sg × Option Nat)) (d : Nat) (hV : ∀ (S0 Sf : Sg) (x1 : Int32) (rf : Option Nat), V S0 x1 = some (Sf, rf) → CT l D K m9 mr yX23_chain (Cond.code yX23_chain cX23_chain 6 (some (.object "OwnedPlacesModel$Exp"))) (4 + 6 * d) (83 + 132 * d) S0 Sf [.ref m9, .int x1] (some (va_rf rf))) (hV2 : ∀ (S0 Sf : Sg) (rf : Option Nat), V2 S0 = some (Sf, rf) → CT l D K m9 mr yX23_unary (Cond.code yX23_unary cX23_unary 3 (some (.object "OwnedPlacesModel$Exp"))) (4 + 6 * d) (83 + 132 * d) S0 Sf [.ref m9] (some (va_rf rf))) (S0 Sf : Sg) (rf : Option Nat) (h : f_unary K V V2 S0 = some (Sf, rf)) : CT l D K m9 mr yX23_unary (Cond.code yX23_unary cX23_unary 3 (some (.object "OwnedPlacesModel$Exp"))) (4 + 6 * (d + 1)) (83 + 132 * (d + 1)) S0 Sf [.ref m9] (some (va_rf rf)) := by
  refine x_start (cc := cX23_unary) (lv := [(0, .ref m9)]) rfl rfl (by decide) (by simp [lv_args, cat_rf, cat_i, cat_l, cat_a]) (by simp [lg_sl, cat_rf, cat_i, cat_l, cat_a]) (fun p e R s m args below meth c Q A C => ?_)
  have j_164 : ∀ (S : Sg) (x1 : Option Nat), f_unary_164 K V V2 S x1 = some (Sf, rf) → WX p l e R s m args below meth c Q D A K m9 mr 3 S0 S 164 [(0, .ref m9), (1, va_rf x1)] [] := by
    intro S x1 h
    unfold f_unary_164 at h
    refine x_aload_n C eX23_unary_164 rfl 1 rfl ?_
    refine x_tload_n C eX23_unary_165 rfl 0 rfl ?_
    refine x_cVr (As := []) (st := [va_rf x1]) (n := 0) (frc := 4 + 6 * d) (loc := 83 + 132 * d) C h (fun S9 r9 e9 => hV2 _ S9 r9 e9) ww_214 ww_203 ww_204 ww_205 ww_16 (by decide +kernel) rfl ⟨by omega, by omega⟩ (Nat.le_of_ble_eq_true rfl) eX23_unary_166 (fun S20 v21 h => ?_)
    refine x_pR (o9 := x1) (Cv := "OwnedPlacesModel$Exp") (ci := 15) (k9 := 8) (Cn := RX15) (T := TX15) (N := 14) C rfl wt_X15 tyX15_ok nmX15 (by decide) ww_192 rfl (by decide +kernel) eX23_unary_169 h (fun S22 h => ?_)
    refine x_tload_n C eX23_unary_172 rfl 0 rfl ?_
    refine x_dup C eX23_unary_173 rfl ?_
    refine x_mV (k9 := 15) C (by decide) ww_29 eX23_unary_174 rfl ?_
    refine x_iconst (v := 1) C eX23_unary_177 (by decide) ?_
    refine x_isub C eX23_unary_178 ?_
    refine x_pM (k9 := 15) C (by decide) rfl (by decide) ww_29 rfl (by decide +kernel) eX23_unary_179 h (fun S23 h => ?_)
    refine x_aload_n C eX23_unary_182 rfl 1 rfl ?_
    exact x_aret C rfl (Or.inl ⟨_, rfl⟩) rfl eX23_unary_183 h
  have j_138 : ∀ (S : Sg) (x1 : Option Nat) (x2 : Int32), f_unary_138 K V V2 S x1 x2 = some (Sf, rf) → WX p l e R s m args below meth c Q D A K m9 mr 3 S0 S 138 [(0, .ref m9), (1, va_rf x1), (2, .int x2)] [] := by
    intro S x1 x2 h
    unfold f_unary_138 at h
    refine x_tload_n C eX23_unary_138 rfl 0 rfl ?_
    refine x_dup C eX23_unary_139 rfl ?_
    refine x_mV (k9 := 10) C (by decide) ww_11 eX23_unary_140 rfl ?_
    refine x_iconst (v := 1) C eX23_unary_143 (by decide) ?_
    refine x_iadd C eX23_unary_144 ?_
    refine x_pM (k9 := 10) C (by decide) rfl (by decide) ww_11 rfl (by decide +kernel) eX23_unary_145 h (fun S16 h => ?_)
    refine x_iload_n C eX23_unary_148 rfl 2 rfl ?_
    refine x_bipush (v := 55) C eX23_unary_149 (by decide) ?_
    refine x_ic_ne (tgt := 164) C eX23_unary_151 (by decide) h (fun h => ?_) (fun h => ?_)
    · refine x_sub [0, 1] rfl ?_
      exact j_164 S16 x1 h
    · refine x_aload_n C eX23_unary_154 rfl 1 rfl ?_
      refine x_tload_n C eX23_unary_155 rfl 0 rfl ?_
      refine x_bipush (v := 14) C eX23_unary_156 (by decide) ?_
      refine x_cVi (As := [.int 14]) (st := [va_rf x1]) (n := 1) (frc := 2) (loc := 41) C h (fun S9 r9 e9 => k_X23_takes l D K m9 mr _ S9 14 r9 e9) ww_23 ww_42 ww_43 ww_44 ww_16 (by decide +kernel) rfl ⟨by omega, by omega⟩ (Nat.le_of_ble_eq_true rfl) eX23_unary_158 (fun S17 v18 h => ?_)
      refine x_pZ (o9 := x1) (ci := 15) (k9 := 7) (Cn := RX15) (T := TX15) (N := 14) C rfl wt_X15 tyX15_ok nmX15 (by decide) ww_218 rfl (by decide +kernel) eX23_unary_161 h (fun S19 h => ?_)
      refine x_sub [0, 1] rfl ?_
      exact j_164 S19 x1 h
  have j_117 : ∀ (S : Sg) (x1 : Option Nat) (x2 : Int32) (y0 : Int32) (y1 : Option Nat), f_unary_117 K V V2 S x1 x2 y0 y1 = some (Sf, rf) → WX p l e R s m args below meth c Q D A K m9 mr 3 S0 S 117 [(0, .ref m9), (1, va_rf x1), (2, .int x2)] [.int y0, va_rf y1] := by
    intro S x1 x2 y0 y1 h
    unfold f_unary_117 at h
    refine x_pI (o9 := y1) (ci := 15) (k9 := 0) (Cn := RX15) (T := TX15) (N := 14) C rfl wt_X15 tyX15_ok nmX15 (by decide) ww_191 rfl (by decide +kernel) eX23_unary_117 h (fun S11 h => ?_)
    refine x_tload_n C eX23_unary_120 rfl 0 rfl ?_
    refine x_tload_n C eX23_unary_121 rfl 0 rfl ?_
    refine x_mV (k9 := 10) C (by decide) ww_11 eX23_unary_122 rfl ?_
    refine x_cVv (As := [.int (Zi S11 10)]) (st := []) (n := 1) (frc := 2) (loc := 42) C h (fun S9 r9 e9 => k_X23_enter l D K m9 mr _ S9 (Zi S11 10) r9 e9) ww_28 ww_38 ww_39 ww_40 ww_16 (by decide +kernel) rfl ⟨by omega, by omega⟩ (Nat.le_of_ble_eq_true rfl) eX23_unary_125 (fun S12 v13 h => ?_)
    refine x_iload_n C eX23_unary_128 rfl 2 rfl ?_
    refine x_bipush (v := 55) C eX23_unary_129 (by decide) ?_
    refine x_ic_ne (tgt := 138) C eX23_unary_131 (by decide) h (fun h => ?_) (fun h => ?_)
    · refine x_sub [0, 1, 2] rfl ?_
      exact j_138 S12 x1 x2 h
    · refine x_tload_n C eX23_unary_134 rfl 0 rfl ?_
      refine x_cVv (As := []) (st := []) (n := 0) (frc := 2) (loc := 42) C h (fun S9 r9 e9 => k_X23_borrow l D K m9 mr _ S9 r9 e9) ww_171 ww_173 ww_174 ww_175 ww_16 (by decide +kernel) rfl ⟨by omega, by omega⟩ (Nat.le_of_ble_eq_true rfl) eX23_unary_135 (fun S14 v15 h => ?_)
      refine x_sub [0, 1, 2] rfl ?_
      exact j_138 S14 x1 x2 h
  have j_62 : ∀ (S : Sg) (x1 : Option Nat) (x2 : Int32), f_unary_62 K V V2 S x1 x2 = some (Sf, rf) → WX p l e R s m args below meth c Q D A K m9 mr 3 S0 S 62 [(0, .ref m9), (1, va_rf x1), (2, .int x2)] [] := by
    intro S x1 x2 h
    unfold f_unary_62 at h
    refine x_aload_n C eX23_unary_62 rfl 1 rfl ?_
    refine x_tload_n C eX23_unary_63 rfl 0 rfl ?_
    refine x_mV (k9 := 10) C (by decide) ww_11 eX23_unary_64 rfl ?_
    refine x_pI (o9 := x1) (ci := 15) (k9 := 1) (Cn := RX15) (T := TX15) (N := 14) C rfl wt_X15 tyX15_ok nmX15 (by decide) ww_211 rfl (by decide +kernel) eX23_unary_67 h (fun S10 h => ?_)
    refine x_aload_n C eX23_unary_70 rfl 1 rfl ?_
    refine x_iload_n C eX23_unary_71 rfl 2 rfl ?_
    refine x_bipush (v := 53) C eX23_unary_72 (by decide) ?_
    refine x_ic_ne (tgt := 82) C eX23_unary_74 (by decide) h (fun h => ?_) (fun h => ?_)
    · refine x_iload_n C eX23_unary_82 rfl 2 rfl ?_
      refine x_bipush (v := 41) C eX23_unary_83 (by decide) ?_
      refine x_ic_ne (tgt := 93) C eX23_unary_85 (by decide) h (fun h => ?_) (fun h => ?_)
      · refine x_iload_n C eX23_unary_93 rfl 2 rfl ?_
        refine x_bipush (v := 42) C eX23_unary_94 (by decide) ?_
        refine x_ic_ne (tgt := 104) C eX23_unary_96 (by decide) h (fun h => ?_) (fun h => ?_)
        · refine x_iload_n C eX23_unary_104 rfl 2 rfl ?_
          refine x_bipush (v := 55) C eX23_unary_105 (by decide) ?_
          refine x_ic_ne (tgt := 115) C eX23_unary_107 (by decide) h (fun h => ?_) (fun h => ?_)
          · refine x_bipush (v := 13) C eX23_unary_115 (by decide) ?_
            refine x_sub [0, 1, 2] rfl ?_
            exact j_117 S10 x1 x2 13 x1 h
          · refine x_bipush (v := 12) C eX23_unary_110 (by decide) ?_
            refine x_goto (tgt := 117) C eX23_unary_112 (by decide) ?_
            refine x_sub [0, 1, 2] rfl ?_
            exact j_117 S10 x1 x2 12 x1 h
        · refine x_bipush (v := 11) C eX23_unary_99 (by decide) ?_
          refine x_goto (tgt := 117) C eX23_unary_101 (by decide) ?_
          refine x_sub [0, 1, 2] rfl ?_
          exact j_117 S10 x1 x2 11 x1 h
      · refine x_bipush (v := 10) C eX23_unary_88 (by decide) ?_
        refine x_goto (tgt := 117) C eX23_unary_90 (by decide) ?_
        refine x_sub [0, 1, 2] rfl ?_
        exact j_117 S10 x1 x2 10 x1 h
    · refine x_bipush (v := 9) C eX23_unary_77 (by decide) ?_
      refine x_goto (tgt := 117) C eX23_unary_79 (by decide) ?_
      refine x_sub [0, 1, 2] rfl ?_
      exact j_117 S10 x1 x2 9 x1 h
  unfold f_unary at h
  refine x_nO (ci := 15) (Cn := RX15) (T := TX15) (ty0 := tyX15) C rfl wt_X15 tyX15_ok ww_164 ww_208 ww_209 dv_X15 eX23_unary_0 h (fun S1 a2 h => ?_)
  refine x_dup C eX23_unary_3 (cat_rf (some a2)) ?_
  refine x_callIN (b := a2) (frc := 1) (loc := 20) C (k_X15_init l D K m9 mr S1 a2) ww_978 C.2.2.2.1.1.2.2.2.2.2.2.1 ww_209 ww_210 rfl (by decide +kernel) ⟨by omega, by omega⟩ (Nat.le_of_ble_eq_true rfl) eX23_unary_4 ?_
  refine x_astore_n (lv2 := [(0, .ref m9)]) C eX23_unary_7 rfl (by decide) rfl (oky rfl ok0) ?_
  refine x_tload_n C eX23_unary_8 rfl 1 rfl ?_
  refine x_cVi (As := []) (st := []) (n := 0) (frc := 1) (loc := 20) C h (fun S9 r9 e9 => k_X23_ok l D K m9 mr _ S9 r9 e9) ww_0 ww_13 ww_14 ww_15 ww_16 (by decide +kernel) rfl ⟨by omega, by omega⟩ (Nat.le_of_ble_eq_true rfl) eX23_unary_9 (fun S5 v6 h => ?_)
  refine x_if_ne (tgt := 17) C eX23_unary_12 (by decide) h (fun h => ?_) (fun h => ?_)
  · refine x_tload_n C eX23_unary_17 rfl 1 rfl ?_
    refine x_mV (k9 := 5) C (by decide) ww_10 eX23_unary_18 rfl ?_
    refine x_tload_n C eX23_unary_21 rfl 1 rfl ?_
    refine x_mV (k9 := 10) C (by decide) ww_11 eX23_unary_22 rfl ?_
    refine x_rI (r := 5) C (by decide) rfl eX23_unary_25 h (fun v7 h => ?_)
    refine x_istore_n (lv2 := [(1, va_rf (some a2)), (0, .ref m9)]) C eX23_unary_26 rfl (by decide) rfl (oky (cat_rf (some a2)) (oky rfl ok0)) ?_
    refine x_iload_n C eX23_unary_27 rfl 0 rfl ?_
    refine x_bipush (v := 53) C eX23_unary_28 (by decide) ?_
    refine x_ic_eq (tgt := 62) C eX23_unary_30 (by decide) h (fun h => ?_) (fun h => ?_)
    · refine x_sub [2, 1, 0] rfl ?_
      exact j_62 S5 (some a2) v7 h
    · refine x_iload_n C eX23_unary_33 rfl 0 rfl ?_
      refine x_bipush (v := 41) C eX23_unary_34 (by decide) ?_
      refine x_ic_eq (tgt := 62) C eX23_unary_36 (by decide) h (fun h => ?_) (fun h => ?_)
      · refine x_sub [2, 1, 0] rfl ?_
        exact j_62 S5 (some a2) v7 h
      · refine x_iload_n C eX23_unary_39 rfl 0 rfl ?_
        refine x_bipush (v := 42) C eX23_unary_40 (by decide) ?_
        refine x_ic_eq (tgt := 62) C eX23_unary_42 (by decide) h (fun h => ?_) (fun h => ?_)
        · refine x_sub [2, 1, 0] rfl ?_
          exact j_62 S5 (some a2) v7 h
        · refine x_iload_n C eX23_unary_45 rfl 0 rfl ?_
          refine x_bipush (v := 55) C eX23_unary_46 (by decide) ?_
          refine x_ic_eq (tgt := 62) C eX23_unary_48 (by decide) h (fun h => ?_) (fun h => ?_)
          · refine x_sub [2, 1, 0] rfl ?_
            exact j_62 S5 (some a2) v7 h
          · refine x_iload_n C eX23_unary_51 rfl 0 rfl ?_
            refine x_bipush (v := 23) C eX23_unary_52 (by decide) ?_
            refine x_ic_eq (tgt := 62) C eX23_unary_54 (by decide) h (fun h => ?_) (fun h => ?_)
            · refine x_sub [2, 1, 0] rfl ?_
              exact j_62 S5 (some a2) v7 h
            · refine x_tload_n C eX23_unary_57 rfl 2 rfl ?_
              refine x_cVr (As := []) (st := []) (n := 0) (frc := 9 + 6 * d) (loc := 192 + 132 * d) C h (fun S9 r9 e9 => k_X23_suffixed l D K m9 mr V V2 d hV hV2 _ S9 r9 e9) ww_219 ww_215 ww_216 ww_217 ww_16 (by decide +kernel) rfl ⟨by omega, by omega⟩ (Nat.le_of_ble_eq_true rfl) eX23_unary_58 (fun S8 v9 h => ?_)
              exact x_aret C rfl (Or.inl ⟨_, rfl⟩) rfl eX23_unary_61 h
  · refine x_aload_n C eX23_unary_15 rfl 0 rfl ?_
    exact x_aret C rfl (Or.inl ⟨_, rfl⟩) rfl eX23_unary_16 h
theorem k_X23_chain9 (l : Launch) (D : va_G) (K : Ky) (m9 : Nat) (mr : Nat → Nat) : ∀ d : Nat, (∀ (S0 Sf : Sg) (x1 : Int32) (rf : Option Nat), f_chain9 K d S0 x1 = some (Sf, rf) → CT l D K m9 mr yX23_chain (Cond.code yX23_chain cX23_chain 6 (some (.object "OwnedPlacesModel$Exp"))) (4 + 6 * d) (83 + 132 * d) S0 Sf [.ref m9, .int x1] (some (va_rf rf))) ∧ (∀ (S0 Sf : Sg) (rf : Option Nat), f_unary9 K d S0 = some (Sf, rf) → CT l D K m9 mr yX23_unary (Cond.code yX23_unary cX23_unary 3 (some (.object "OwnedPlacesModel$Exp"))) (4 + 6 * d) (83 + 132 * d) S0 Sf [.ref m9] (some (va_rf rf)))
  | 0 => ⟨fun S0 Sf x1 rf h => (by unfold f_chain9 g_X23_chain at h; exact nomatch h), fun S0 Sf rf h => (by unfold f_unary9 g_X23_chain at h; exact nomatch h)⟩
  | d + 1 => ⟨fun S0 Sf x1 rf h => k_X23_chain l D K m9 mr (f_chain9 K d) (f_unary9 K d) d (k_X23_chain9 l D K m9 mr d).1 (k_X23_chain9 l D K m9 mr d).2 S0 Sf x1 rf h, fun S0 Sf rf h => k_X23_unary l D K m9 mr (f_chain9 K d) (f_unary9 K d) d (k_X23_chain9 l D K m9 mr d).1 (k_X23_chain9 l D K m9 mr d).2 S0 Sf rf h⟩
set_option maxRecDepth 20000 in
set_option maxHeartbeats 4000000 in
theorem k_X23_growBranch (l : Launch) (D : va_G) (K : Ky) (m9 : Nat) (mr : Nat → Nat) (S0 Sf : Sg) (x0 : Option Nat) (rf : Unit) (h : f_growBranch K S0 x0 = some (Sf, rf)) : CT l D K m9 mr yX23_growBranch (Cond.code yX23_growBranch cX23_growBranch 4 none) (1) (20) S0 Sf [va_rf x0] none := by
  refine x_start (cc := cX23_growBranch) (lv := [(0, va_rf x0)]) rfl rfl (by decide) (by simp [lv_args, cat_rf, cat_i, cat_l, cat_a]) (by simp [lg_sl, cat_rf, cat_i, cat_l, cat_a]) (fun p e R s m args below meth c Q A C => ?_)
  have j_22 : ∀ (n_22 : Nat) (S : Sg) (x0 : Option Nat) (x1 : Option Nat) (x2 : Option Nat) (x3 : Int32), f_growBranch_22 K n_22 S x0 x1 x2 x3 = some (Sf, rf) → WX p l e R s m args below meth c Q D A K m9 mr 4 S0 S 22 [(0, va_rf x0), (1, va_rf x1), (2, va_rf x2), (3, .int x3)] [] := by
    intro n_22
    induction n_22 with
    | zero => intro S x0 x1 x2 x3 h; unfold f_growBranch_22 at h; cases h
    | succ n_22 ih_22 =>
      intro S x0 x1 x2 x3 h
      unfold f_growBranch_22 at h
      refine x_iload_n C eX23_growBranch_22 rfl 3 rfl ?_
      refine x_aload_n C eX23_growBranch_23 rfl 0 rfl ?_
      refine x_gI (o9 := x0) (ci := 19) (k9 := 13) (Cn := RX19) (T := TX19) (N := 14) C rfl wt_X19 (by decide) ww_167 eX23_growBranch_24 h (fun v7 h => ?_)
      refine x_ic_ge (tgt := 54) C eX23_growBranch_27 (by decide) h (fun h => ?_) (fun h => ?_)
      · refine x_aload_n C eX23_growBranch_54 rfl 0 rfl ?_
        refine x_aload_n C eX23_growBranch_55 rfl 1 rfl ?_
        refine x_pA (o9 := x0) (tA := (.object "OwnedPlacesModel$Exp")) (ci := 19) (k9 := 10) (Cn := RX19) (T := TX19) (N := 14) C rfl wt_X19 tyX19_ok nmX19 (by decide) ww_165 rfl (by decide +kernel) eX23_growBranch_56 h (fun S8 h => ?_)
        refine x_aload_n C eX23_growBranch_59 rfl 0 rfl ?_
        refine x_aload_n C eX23_growBranch_60 rfl 2 rfl ?_
        refine x_pA (o9 := x0) (tA := (.object "OwnedPlacesModel$Block")) (ci := 19) (k9 := 11) (Cn := RX19) (T := TX19) (N := 14) C rfl wt_X19 tyX19_ok nmX19 (by decide) ww_166 rfl (by decide +kernel) eX23_growBranch_61 h (fun S9 h => ?_)
        exact x_vret C rfl rfl eX23_growBranch_64 h
      · refine x_aload_n C eX23_growBranch_30 rfl 1 rfl ?_
        refine x_iload_n C eX23_growBranch_31 rfl 3 rfl ?_
        refine x_aload_n C eX23_growBranch_32 rfl 0 rfl ?_
        refine x_gR (o9 := x0) (ci := 19) (k9 := 10) (Cn := RX19) (T := TX19) (N := 14) C rfl wt_X19 (by decide) ww_165 eX23_growBranch_33 h (fun v10 h => ?_)
        refine x_iload_n C eX23_growBranch_36 rfl 3 rfl ?_
        refine x_aQ (t9 := 9) C rfl eX23_growBranch_37 h (fun v11 h => ?_)
        refine x_bQ (t9 := 9) (ci := 15) C rfl rfl eX23_growBranch_38 h (fun S12 h => ?_)
        refine x_aload_n C eX23_growBranch_39 rfl 2 rfl ?_
        refine x_iload_n C eX23_growBranch_40 rfl 3 rfl ?_
        refine x_aload_n C eX23_growBranch_41 rfl 0 rfl ?_
        refine x_gR (o9 := x0) (ci := 19) (k9 := 11) (Cn := RX19) (T := TX19) (N := 14) C rfl wt_X19 (by decide) ww_166 eX23_growBranch_42 h (fun v13 h => ?_)
        refine x_iload_n C eX23_growBranch_45 rfl 3 rfl ?_
        refine x_aQ (t9 := 10) C rfl eX23_growBranch_46 h (fun v14 h => ?_)
        refine x_bQ (t9 := 10) (ci := 14) C rfl rfl eX23_growBranch_47 h (fun S15 h => ?_)
        refine x_iinc (j := 3) (v := 1) (lv2 := [(0, va_rf x0), (1, va_rf x1), (2, va_rf x2)]) C eX23_growBranch_48 rfl (by decide) (by decide) rfl (oky (cat_rf x0) (oky (cat_rf x1) (oky (cat_rf x2) ok0))) ?_
        refine x_goto (tgt := 22) C eX23_growBranch_51 (by decide) ?_
        refine x_sub [1, 2, 3, 0] rfl ?_
        exact ih_22 S15 x0 x1 x2 (x3 + 1) h
  unfold f_growBranch at h
  refine x_iconst (v := 2) C eX23_growBranch_0 (by decide) ?_
  refine x_aload_n C eX23_growBranch_1 rfl 0 rfl ?_
  refine x_gI (o9 := x0) (ci := 19) (k9 := 13) (Cn := RX19) (T := TX19) (N := 14) C rfl wt_X19 (by decide) ww_167 eX23_growBranch_2 h (fun v1 h => ?_)
  refine x_imul C eX23_growBranch_5 ?_
  refine x_nQ (t9 := 9) C rfl C.2.2.2.1.2.1 ww_164 eX23_growBranch_6 h (fun S2 a3 h => ?_)
  refine x_astore_n (lv2 := [(0, va_rf x0)]) C eX23_growBranch_9 rfl (by decide) rfl (oky (cat_rf x0) ok0) ?_
  refine x_iconst (v := 2) C eX23_growBranch_10 (by decide) ?_
  refine x_aload_n C eX23_growBranch_11 rfl 1 rfl ?_
  refine x_gI (o9 := x0) (ci := 19) (k9 := 13) (Cn := RX19) (T := TX19) (N := 14) C rfl wt_X19 (by decide) ww_167 eX23_growBranch_12 h (fun v4 h => ?_)
  refine x_imul C eX23_growBranch_15 ?_
  refine x_nQ (t9 := 10) C rfl C.2.2.2.1.2.2.2.1 ww_116 eX23_growBranch_16 h (fun S5 a6 h => ?_)
  refine x_astore_n (lv2 := [(1, va_rf (some a3)), (0, va_rf x0)]) C eX23_growBranch_19 rfl (by decide) rfl (oky (cat_rf (some a3)) (oky (cat_rf x0) ok0)) ?_
  refine x_iconst (v := 0) C eX23_growBranch_20 (by decide) ?_
  refine x_istore_n (lv2 := [(2, va_rf (some a6)), (1, va_rf (some a3)), (0, va_rf x0)]) C eX23_growBranch_21 rfl (by decide) rfl (oky (cat_rf (some a6)) (oky (cat_rf (some a3)) (oky (cat_rf x0) ok0))) ?_
  refine x_sub [3, 2, 1, 0] rfl ?_
  exact j_22 bigN S5 x0 (some a3) (some a6) 0 h
set_option maxRecDepth 20000 in
set_option maxHeartbeats 4000000 in
theorem k_X23_oneVariable (l : Launch) (D : va_G) (K : Ky) (m9 : Nat) (mr : Nat → Nat) (S0 Sf : Sg) (rf : Unit) (h : f_oneVariable K S0 = some (Sf, rf)) : CT l D K m9 mr yX23_oneVariable (Cond.code yX23_oneVariable cX23_oneVariable 1 none) (2) (42) S0 Sf [.ref m9] none := by
  refine x_start (cc := cX23_oneVariable) (lv := [(0, .ref m9)]) rfl rfl (by decide) (by simp [lv_args, cat_rf, cat_i, cat_l, cat_a]) (by simp [lg_sl, cat_rf, cat_i, cat_l, cat_a]) (fun p e R s m args below meth c Q A C => ?_)
  have j_33 : ∀ (S : Sg), f_oneVariable_33 K S = some (Sf, rf) → WX p l e R s m args below meth c Q D A K m9 mr 1 S0 S 33 [(0, .ref m9)] [] := by
    intro S h
    unfold f_oneVariable_33 at h
    refine x_tload_n C eX23_oneVariable_33 rfl 0 rfl ?_
    refine x_dup C eX23_oneVariable_34 rfl ?_
    refine x_mV (k9 := 16) C (by decide) ww_93 eX23_oneVariable_35 rfl ?_
    refine x_iconst (v := 1) C eX23_oneVariable_38 (by decide) ?_
    refine x_iadd C eX23_oneVariable_39 ?_
    refine x_pM (k9 := 16) C (by decide) rfl (by decide) ww_93 rfl (by decide +kernel) eX23_oneVariable_40 h (fun S7 h => ?_)
    exact x_vret C rfl rfl eX23_oneVariable_43 h
  unfold f_oneVariable at h
  refine x_tload_n C eX23_oneVariable_0 rfl 0 rfl ?_
  refine x_cVi (As := []) (st := []) (n := 0) (frc := 1) (loc := 20) C h (fun S9 r9 e9 => k_X23_ok l D K m9 mr _ S9 r9 e9) ww_0 ww_13 ww_14 ww_15 ww_16 (by decide +kernel) rfl ⟨by omega, by omega⟩ (Nat.le_of_ble_eq_true rfl) eX23_oneVariable_1 (fun S1 v2 h => ?_)
  refine x_if_eq (tgt := 33) C eX23_oneVariable_4 (by decide) h (fun h => ?_) (fun h => ?_)
  · refine x_sub [0] rfl ?_
    exact j_33 S1 h
  · refine x_tload_n C eX23_oneVariable_7 rfl 0 rfl ?_
    refine x_iconst (v := 2) C eX23_oneVariable_8 (by decide) ?_
    refine x_cVi (As := [.int 2]) (st := []) (n := 1) (frc := 1) (loc := 20) C h (fun S9 r9 e9 => k_X23_is l D K m9 mr _ S9 2 r9 e9) ww_9 ww_17 ww_18 ww_19 ww_16 (by decide +kernel) rfl ⟨by omega, by omega⟩ (Nat.le_of_ble_eq_true rfl) eX23_oneVariable_9 (fun S3 v4 h => ?_)
    refine x_if_eq (tgt := 33) C eX23_oneVariable_12 (by decide) h (fun h => ?_) (fun h => ?_)
    · refine x_sub [0] rfl ?_
      exact j_33 S3 h
    · refine x_tload_n C eX23_oneVariable_15 rfl 0 rfl ?_
      refine x_mV (k9 := 16) C (by decide) ww_93 eX23_oneVariable_16 rfl ?_
      refine x_bipush (v := 40) C eX23_oneVariable_19 (by decide) ?_
      refine x_ic_ne (tgt := 33) C eX23_oneVariable_21 (by decide) h (fun h => ?_) (fun h => ?_)
      · refine x_sub [0] rfl ?_
        exact j_33 S3 h
      · refine x_tload_n C eX23_oneVariable_24 rfl 0 rfl ?_
        refine x_iconst (v := 2) C eX23_oneVariable_25 (by decide) ?_
        refine x_tload_n C eX23_oneVariable_26 rfl 0 rfl ?_
        refine x_mV (k9 := 10) C (by decide) ww_11 eX23_oneVariable_27 rfl ?_
        refine x_cVv (As := [.int 2, .int (Zi S3 10)]) (st := []) (n := 2) (frc := 1) (loc := 20) C h (fun S9 r9 e9 => k_X23_fail l D K m9 mr _ S9 2 (Zi S3 10) r9 e9) ww_2 ww_20 ww_21 ww_22 ww_16 (by decide +kernel) rfl ⟨by omega, by omega⟩ (Nat.le_of_ble_eq_true rfl) eX23_oneVariable_30 (fun S5 v6 h => ?_)
        refine x_sub [0] rfl ?_
        exact j_33 S5 h
set_option maxRecDepth 20000 in
set_option maxHeartbeats 4000000 in
theorem k_X23_let (l : Launch) (D : va_G) (K : Ky) (m9 : Nat) (mr : Nat → Nat) (S0 Sf : Sg) (x1 : Option Nat) (rf : Unit) (h : f_let K S0 x1 = some (Sf, rf)) : CT l D K m9 mr yX23_let (Cond.code yX23_let cX23_let 2 none) (846) (18608) S0 Sf [.ref m9, va_rf x1] none := by
  refine x_start (cc := cX23_let) (lv := [(0, .ref m9), (1, va_rf x1)]) rfl rfl (by decide) (by simp [lv_args, cat_rf, cat_i, cat_l, cat_a]) (by simp [lg_sl, cat_rf, cat_i, cat_l, cat_a]) (fun p e R s m args below meth c Q A C => ?_)
  have j_71 : ∀ (S : Sg), f_let_71 K S = some (Sf, rf) → WX p l e R s m args below meth c Q D A K m9 mr 2 S0 S 71 [(0, .ref m9)] [] := by
    intro S h
    unfold f_let_71 at h
    refine x_tload_n C eX23_let_71 rfl 0 rfl ?_
    refine x_bipush (v := 60) C eX23_let_72 (by decide) ?_
    refine x_cVv (As := [.int 60]) (st := []) (n := 1) (frc := 2) (loc := 42) C h (fun S9 r9 e9 => k_X23_take l D K m9 mr _ S9 60 r9 e9) ww_12 ww_25 ww_26 ww_27 ww_16 (by decide +kernel) rfl ⟨by omega, by omega⟩ (Nat.le_of_ble_eq_true rfl) eX23_let_74 (fun S21 v22 h => ?_)
    exact x_vret C rfl rfl eX23_let_77 h
  have j_54 : ∀ (S : Sg) (x1 : Option Nat), f_let_54 K S x1 = some (Sf, rf) → WX p l e R s m args below meth c Q D A K m9 mr 2 S0 S 54 [(0, .ref m9), (1, va_rf x1)] [] := by
    intro S x1 h
    unfold f_let_54 at h
    refine x_tload_n C eX23_let_54 rfl 0 rfl ?_
    refine x_bipush (v := 54) C eX23_let_55 (by decide) ?_
    refine x_cVi (As := [.int 54]) (st := []) (n := 1) (frc := 2) (loc := 41) C h (fun S9 r9 e9 => k_X23_takes l D K m9 mr _ S9 54 r9 e9) ww_23 ww_42 ww_43 ww_44 ww_16 (by decide +kernel) rfl ⟨by omega, by omega⟩ (Nat.le_of_ble_eq_true rfl) eX23_let_57 (fun S16 v17 h => ?_)
    refine x_if_eq (tgt := 71) C eX23_let_60 (by decide) h (fun h => ?_) (fun h => ?_)
    · refine x_sub [0] rfl ?_
      exact j_71 S16 h
    · refine x_aload_n C eX23_let_63 rfl 1 rfl ?_
      refine x_tload_n C eX23_let_64 rfl 0 rfl ?_
      refine x_cVr (As := []) (st := [va_rf x1]) (n := 0) (frc := 5 + 6 * 140) (loc := 108 + 132 * 140) C h (fun S9 r9 e9 => k_X23_exp l D K m9 mr (f_chain9 K 140) (f_unary9 K 140) 140 (k_X23_chain9 l D K m9 mr 140).1 (k_X23_chain9 l D K m9 mr 140).2 _ S9 r9 e9) ww_193 ww_141 ww_142 ww_143 ww_16 (by decide +kernel) rfl ⟨by omega, by omega⟩ (Nat.le_of_ble_eq_true rfl) eX23_let_65 (fun S18 v19 h => ?_)
      refine x_pR (o9 := x1) (Cv := "OwnedPlacesModel$Exp") (ci := 19) (k9 := 6) (Cn := RX19) (T := TX19) (N := 14) C rfl wt_X19 tyX19_ok nmX19 (by decide) ww_144 rfl (by decide +kernel) eX23_let_68 h (fun S20 h => ?_)
      refine x_sub [0] rfl ?_
      exact j_71 S20 h
  unfold f_let at h
  refine x_aload_n C eX23_let_0 rfl 1 rfl ?_
  refine x_iconst (v := 0) C eX23_let_1 (by decide) ?_
  refine x_pI (o9 := x1) (ci := 19) (k9 := 0) (Cn := RX19) (T := TX19) (N := 14) C rfl wt_X19 tyX19_ok nmX19 (by decide) ww_140 rfl (by decide +kernel) eX23_let_2 h (fun S1 h => ?_)
  refine x_tload_n C eX23_let_5 rfl 0 rfl ?_
  refine x_dup C eX23_let_6 rfl ?_
  refine x_mV (k9 := 10) C (by decide) ww_11 eX23_let_7 rfl ?_
  refine x_iconst (v := 1) C eX23_let_10 (by decide) ?_
  refine x_iadd C eX23_let_11 ?_
  refine x_pM (k9 := 10) C (by decide) rfl (by decide) ww_11 rfl (by decide +kernel) eX23_let_12 h (fun S2 h => ?_)
  refine x_aload_n C eX23_let_15 rfl 1 rfl ?_
  refine x_tload_n C eX23_let_16 rfl 0 rfl ?_
  refine x_bipush (v := 14) C eX23_let_17 (by decide) ?_
  refine x_cVi (As := [.int 14]) (st := [va_rf x1]) (n := 1) (frc := 2) (loc := 41) C h (fun S9 r9 e9 => k_X23_takes l D K m9 mr _ S9 14 r9 e9) ww_23 ww_42 ww_43 ww_44 ww_16 (by decide +kernel) rfl ⟨by omega, by omega⟩ (Nat.le_of_ble_eq_true rfl) eX23_let_19 (fun S3 v4 h => ?_)
  refine x_pZ (o9 := x1) (ci := 19) (k9 := 3) (Cn := RX19) (T := TX19) (N := 14) C rfl wt_X19 tyX19_ok nmX19 (by decide) ww_153 rfl (by decide +kernel) eX23_let_22 h (fun S5 h => ?_)
  refine x_tload_n C eX23_let_25 rfl 0 rfl ?_
  refine x_cVv (As := []) (st := []) (n := 0) (frc := 2) (loc := 42) C h (fun S9 r9 e9 => k_X23_oneVariable l D K m9 mr _ S9 r9 e9) ww_128 ww_154 ww_155 ww_156 ww_16 (by decide +kernel) rfl ⟨by omega, by omega⟩ (Nat.le_of_ble_eq_true rfl) eX23_let_26 (fun S6 v7 h => ?_)
  refine x_aload_n C eX23_let_29 rfl 1 rfl ?_
  refine x_tload_n C eX23_let_30 rfl 0 rfl ?_
  refine x_cVi (As := []) (st := [va_rf x1]) (n := 0) (frc := 3) (loc := 63) C h (fun S9 r9 e9 => k_X23_name l D K m9 mr _ S9 r9 e9) ww_24 ww_56 ww_57 ww_58 ww_16 (by decide +kernel) rfl ⟨by omega, by omega⟩ (Nat.le_of_ble_eq_true rfl) eX23_let_31 (fun S8 v9 h => ?_)
  refine x_pI (o9 := x1) (ci := 19) (k9 := 2) (Cn := RX19) (T := TX19) (N := 14) C rfl wt_X19 tyX19_ok nmX19 (by decide) ww_157 rfl (by decide +kernel) eX23_let_34 h (fun S10 h => ?_)
  refine x_tload_n C eX23_let_37 rfl 0 rfl ?_
  refine x_bipush (v := 58) C eX23_let_38 (by decide) ?_
  refine x_cVi (As := [.int 58]) (st := []) (n := 1) (frc := 2) (loc := 41) C h (fun S9 r9 e9 => k_X23_takes l D K m9 mr _ S9 58 r9 e9) ww_23 ww_42 ww_43 ww_44 ww_16 (by decide +kernel) rfl ⟨by omega, by omega⟩ (Nat.le_of_ble_eq_true rfl) eX23_let_40 (fun S11 v12 h => ?_)
  refine x_if_eq (tgt := 54) C eX23_let_43 (by decide) h (fun h => ?_) (fun h => ?_)
  · refine x_sub [0, 1] rfl ?_
    exact j_54 S11 x1 h
  · refine x_aload_n C eX23_let_46 rfl 1 rfl ?_
    refine x_tload_n C eX23_let_47 rfl 0 rfl ?_
    refine x_cVr (As := []) (st := [va_rf x1]) (n := 0) (frc := 3 + 1 * 20) (loc := 63 + 22 * 20) C h (fun S9 r9 e9 => k_X23_written l D K m9 mr 20 _ S9 r9 e9) ww_31 ww_46 ww_47 ww_48 ww_16 (by decide +kernel) rfl ⟨by omega, by omega⟩ (Nat.le_of_ble_eq_true rfl) eX23_let_48 (fun S13 v14 h => ?_)
    refine x_pR (o9 := x1) (Cv := "OwnedPlacesModel$Written") (ci := 19) (k9 := 5) (Cn := RX19) (T := TX19) (N := 14) C rfl wt_X19 tyX19_ok nmX19 (by decide) ww_158 rfl (by decide +kernel) eX23_let_51 h (fun S15 h => ?_)
    refine x_sub [0, 1] rfl ?_
    exact j_54 S15 x1 h
set_option maxRecDepth 20000 in
set_option maxHeartbeats 4000000 in
theorem k_X13_init (l : Launch) (D : va_G) (K : Ky) (m9 : Nat) (mr : Nat → Nat) (S0 Sf : Sg) (x0 : Nat) (rf : Unit) (h : f_X13_init K S0 x0 = some (Sf, rf)) : CT l D K m9 mr yX13_init (Cond.code yX13_init cX13_init 1 none) (1) (20) S0 Sf [.ref x0] none := by
  refine x_start (cc := cX13_init) (lv := [(0, .ref x0)]) rfl rfl (by decide) (by simp [lv_args, cat_rf, cat_i, cat_l, cat_a]) (by simp [lg_sl, cat_rf, cat_i, cat_l, cat_a]) (fun p e R s m args below meth c Q A C => ?_)
  unfold f_X13_init at h
  refine x_tload_n C eX13_init_0 rfl 0 rfl ?_
  refine x_objInit C ww_970 ww_958 ww_959 eX13_init_1 (by omega) (by omega) (Nat.le_of_ble_eq_true rfl) ?_
  refine x_tload_n C eX13_init_4 rfl 0 rfl ?_
  refine x_bipush (v := 12) C eX13_init_5 (by decide) ?_
  refine x_nA C ww_88 eX13_init_7 h (fun S1 a2 h => ?_)
  refine x_pA (o9 := (some x0)) (tA := .int) (ci := 13) (k9 := 2) (Cn := RX13) (T := TX13) (N := 6) C rfl wt_X13 tyX13_ok nmX13 (by decide) ww_971 rfl (by decide +kernel) eX13_init_9 h (fun S3 h => ?_)
  refine x_tload_n C eX13_init_12 rfl 0 rfl ?_
  refine x_bipush (v := 12) C eX13_init_13 (by decide) ?_
  refine x_nQ (t9 := 5) C rfl C.2.2.2.1.2.2.2.2.2.2.2.2 ww_972 eX13_init_15 h (fun S4 a5 h => ?_)
  refine x_pA (o9 := (some x0)) (tA := (.object "OwnedPlacesModel$Variable")) (ci := 13) (k9 := 4) (Cn := RX13) (T := TX13) (N := 6) C rfl wt_X13 tyX13_ok nmX13 (by decide) ww_973 rfl (by decide +kernel) eX13_init_18 h (fun S6 h => ?_)
  exact x_vret C rfl rfl eX13_init_21 h
