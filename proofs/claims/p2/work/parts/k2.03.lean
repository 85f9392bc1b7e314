set_option maxRecDepth 20000 in
set_option maxHeartbeats 4000000 in
theorem k_X23_isPlace (l : Launch) (D : va_G) (K : Ky) (m9 : Nat) (mr : Nat → Nat) (S0 Sf : Sg) (x0 : Option Nat) (rf : Int32) (h : f_isPlace K S0 x0 = some (Sf, rf)) : CT l D K m9 mr yX23_isPlace (Cond.code yX23_isPlace cX23_isPlace 2 (some .boolean)) (1) (20) S0 Sf [va_rf x0] (some (.int rf)) := by
  refine x_start (cc := cX23_isPlace) (lv := [(0, va_rf x0)]) rfl rfl (by decide) (by simp [lv_args, cat_rf, cat_i, cat_l, cat_a]) (by simp [lg_sl, cat_rf, cat_i, cat_l, cat_a]) (fun p e R s m args below meth c Q A C => ?_)
  have j_58 : ∀ (S : Sg) (y0 : Int32), f_isPlace_58 K S y0 = some (Sf, rf) → WX p l e R s m args below meth c Q D A K m9 mr 2 S0 S 58 [] [.int y0] := by
    intro S y0 h
    unfold f_isPlace_58 at h
    exact x_zret C rfl rfl eX23_isPlace_58 h
  have j_57 : ∀ (S : Sg), f_isPlace_57 K S = some (Sf, rf) → WX p l e R s m args below meth c Q D A K m9 mr 2 S0 S 57 [] [] := by
    intro S h
    unfold f_isPlace_57 at h
    refine x_iconst (v := 0) C eX23_isPlace_57 (by decide) ?_
    refine x_sub [] rfl ?_
    exact j_58 S 0 h
  have j_41 : ∀ (S : Sg) (x1 : Option Nat), f_isPlace_41 K S x1 = some (Sf, rf) → WX p l e R s m args below meth c Q D A K m9 mr 2 S0 S 41 [(1, va_rf x1)] [] := by
    intro S x1 h
    unfold f_isPlace_41 at h
    refine x_aload_n C eX23_isPlace_41 rfl 0 rfl ?_
    refine x_ifnull (tgt := 57) C eX23_isPlace_42 (by decide) h (fun h => ?_) (fun h => ?_)
    · refine x_sub [] rfl ?_
      exact j_57 S h
    · refine x_aload_n C eX23_isPlace_45 rfl 0 rfl ?_
      refine x_gI (o9 := x1) (ci := 15) (k9 := 0) (Cn := RX15) (T := TX15) (N := 14) C rfl wt_X15 (by decide) ww_191 eX23_isPlace_46 h (fun v5 h => ?_)
      refine x_iconst (v := 2) C eX23_isPlace_49 (by decide) ?_
      refine x_ic_ne (tgt := 57) C eX23_isPlace_50 (by decide) h (fun h => ?_) (fun h => ?_)
      · refine x_sub [] rfl ?_
        exact j_57 S h
      · refine x_iconst (v := 1) C eX23_isPlace_53 (by decide) ?_
        refine x_goto (tgt := 58) C eX23_isPlace_54 (by decide) ?_
        refine x_sub [] rfl ?_
        exact j_58 S 1 h
  have j_2 : ∀ (n_2 : Nat) (S : Sg) (x1 : Option Nat), f_isPlace_2 K n_2 S x1 = some (Sf, rf) → WX p l e R s m args below meth c Q D A K m9 mr 2 S0 S 2 [(1, va_rf x1)] [] := by
    intro n_2
    induction n_2 with
    | zero => intro S x1 h; unfold f_isPlace_2 at h; cases h
    | succ n_2 ih_2 =>
      intro S x1 h
      have j_33 : ∀ (S : Sg) (x1 : Option Nat), f_isPlace_33 K (f_isPlace_2 K n_2) S x1 = some (Sf, rf) → WX p l e R s m args below meth c Q D A K m9 mr 2 S0 S 33 [(1, va_rf x1)] [] := by
        intro S x1 h
        unfold f_isPlace_33 at h
        refine x_aload_n C eX23_isPlace_33 rfl 0 rfl ?_
        refine x_gR (o9 := x1) (ci := 15) (k9 := 8) (Cn := RX15) (T := TX15) (N := 14) C rfl wt_X15 (by decide) ww_192 eX23_isPlace_34 h (fun v4 h => ?_)
        refine x_astore_n (lv2 := []) C eX23_isPlace_37 rfl (by decide) rfl ok0 ?_
        refine x_goto (tgt := 2) C eX23_isPlace_38 (by decide) ?_
        refine x_sub [0] rfl ?_
        exact ih_2 S v4 h
      unfold f_isPlace_2 at h
      refine x_aload_n C eX23_isPlace_2 rfl 0 rfl ?_
      refine x_ifnull (tgt := 41) C eX23_isPlace_3 (by decide) h (fun h => ?_) (fun h => ?_)
      · refine x_sub [0] rfl ?_
        exact j_41 S x1 h
      · refine x_aload_n C eX23_isPlace_6 rfl 0 rfl ?_
        refine x_gI (o9 := x1) (ci := 15) (k9 := 0) (Cn := RX15) (T := TX15) (N := 14) C rfl wt_X15 (by decide) ww_191 eX23_isPlace_7 h (fun v1 h => ?_)
        refine x_bipush (v := 7) C eX23_isPlace_10 (by decide) ?_
        refine x_ic_eq (tgt := 33) C eX23_isPlace_12 (by decide) h (fun h => ?_) (fun h => ?_)
        · refine x_sub [0] rfl ?_
          exact j_33 S x1 h
        · refine x_aload_n C eX23_isPlace_15 rfl 0 rfl ?_
          refine x_gI (o9 := x1) (ci := 15) (k9 := 0) (Cn := RX15) (T := TX15) (N := 14) C rfl wt_X15 (by decide) ww_191 eX23_isPlace_16 h (fun v2 h => ?_)
          refine x_bipush (v := 14) C eX23_isPlace_19 (by decide) ?_
          refine x_ic_eq (tgt := 33) C eX23_isPlace_21 (by decide) h (fun h => ?_) (fun h => ?_)
          · refine x_sub [0] rfl ?_
            exact j_33 S x1 h
          · refine x_aload_n C eX23_isPlace_24 rfl 0 rfl ?_
            refine x_gI (o9 := x1) (ci := 15) (k9 := 0) (Cn := RX15) (T := TX15) (N := 14) C rfl wt_X15 (by decide) ww_191 eX23_isPlace_25 h (fun v3 h => ?_)
            refine x_bipush (v := 11) C eX23_isPlace_28 (by decide) ?_
            refine x_ic_ne (tgt := 41) C eX23_isPlace_30 (by decide) h (fun h => ?_) (fun h => ?_)
            · refine x_sub [0] rfl ?_
              exact j_41 S x1 h
            · refine x_sub [0] rfl ?_
              exact j_33 S x1 h
  unfold f_isPlace at h
  refine x_aload_n C eX23_isPlace_0 rfl 0 rfl ?_
  refine x_astore_n (lv2 := [(0, va_rf x0)]) C eX23_isPlace_1 rfl (by decide) rfl (oky (cat_rf x0) ok0) ?_
  refine x_sub [0] rfl ?_
  exact j_2 bigN S0 x0 h
set_option maxRecDepth 20000 in
set_option maxHeartbeats 4000000 in
theorem k_X23_plain (l : Launch) (D : va_G) (K : Ky) (m9 : Nat) (mr : Nat → Nat) (S0 Sf : Sg) (x1 : Option Nat) (rf : Unit) (h : f_plain K S0 x1 = some (Sf, rf)) : CT l D K m9 mr yX23_plain (Cond.code yX23_plain cX23_plain 2 none) (846) (18608) S0 Sf [.ref m9, va_rf x1] none := by
  refine x_start (cc := cX23_plain) (lv := [(0, .ref m9), (1, va_rf x1)]) rfl rfl (by decide) (by simp [lv_args, cat_rf, cat_i, cat_l, cat_a]) (by simp [lg_sl, cat_rf, cat_i, cat_l, cat_a]) (fun p e R s m args below meth c Q A C => ?_)
  have j_80 : ∀ (S : Sg), f_plain_80 K S = some (Sf, rf) → WX p l e R s m args below meth c Q D A K m9 mr 2 S0 S 80 [(0, .ref m9)] [] := by
    intro S h
    unfold f_plain_80 at h
    refine x_tload_n C eX23_plain_80 rfl 0 rfl ?_
    refine x_bipush (v := 60) C eX23_plain_81 (by decide) ?_
    refine x_cVv (As := [.int 60]) (st := []) (n := 1) (frc := 2) (loc := 42) C h (fun S9 r9 e9 => k_X23_take l D K m9 mr _ S9 60 r9 e9) ww_12 ww_25 ww_26 ww_27 ww_16 (by decide +kernel) rfl ⟨by omega, by omega⟩ (Nat.le_of_ble_eq_true rfl) eX23_plain_83 (fun S21 v22 h => ?_)
    exact x_vret C rfl rfl eX23_plain_86 h
  unfold f_plain at h
  refine x_aload_n C eX23_plain_0 rfl 1 rfl ?_
  refine x_iconst (v := 1) C eX23_plain_1 (by decide) ?_
  refine x_pI (o9 := x1) (ci := 19) (k9 := 0) (Cn := RX19) (T := TX19) (N := 14) C rfl wt_X19 tyX19_ok nmX19 (by decide) ww_140 rfl (by decide +kernel) eX23_plain_2 h (fun S1 h => ?_)
  refine x_aload_n C eX23_plain_5 rfl 1 rfl ?_
  refine x_tload_n C eX23_plain_6 rfl 0 rfl ?_
  refine x_cVr (As := []) (st := [va_rf x1]) (n := 0) (frc := 5 + 6 * 140) (loc := 108 + 132 * 140) C h (fun S9 r9 e9 => k_X23_exp l D K m9 mr (f_chain9 K 140) (f_unary9 K 140) 140 (k_X23_chain9 l D K m9 mr 140).1 (k_X23_chain9 l D K m9 mr 140).2 _ S9 r9 e9) ww_193 ww_141 ww_142 ww_143 ww_16 (by decide +kernel) rfl ⟨by omega, by omega⟩ (Nat.le_of_ble_eq_true rfl) eX23_plain_7 (fun S2 v3 h => ?_)
  refine x_pR (o9 := x1) (Cv := "OwnedPlacesModel$Exp") (ci := 19) (k9 := 6) (Cn := RX19) (T := TX19) (N := 14) C rfl wt_X19 tyX19_ok nmX19 (by decide) ww_144 rfl (by decide +kernel) eX23_plain_10 h (fun S4 h => ?_)
  refine x_tload_n C eX23_plain_13 rfl 0 rfl ?_
  refine x_cVi (As := []) (st := []) (n := 0) (frc := 1) (loc := 20) C h (fun S9 r9 e9 => k_X23_ok l D K m9 mr _ S9 r9 e9) ww_0 ww_13 ww_14 ww_15 ww_16 (by decide +kernel) rfl ⟨by omega, by omega⟩ (Nat.le_of_ble_eq_true rfl) eX23_plain_14 (fun S5 v6 h => ?_)
  refine x_if_eq (tgt := 80) C eX23_plain_17 (by decide) h (fun h => ?_) (fun h => ?_)
  · refine x_sub [0] rfl ?_
    exact j_80 S5 h
  · refine x_tload_n C eX23_plain_20 rfl 0 rfl ?_
    refine x_bipush (v := 54) C eX23_plain_21 (by decide) ?_
    refine x_cVi (As := [.int 54]) (st := []) (n := 1) (frc := 1) (loc := 20) C h (fun S9 r9 e9 => k_X23_is l D K m9 mr _ S9 54 r9 e9) ww_9 ww_17 ww_18 ww_19 ww_16 (by decide +kernel) rfl ⟨by omega, by omega⟩ (Nat.le_of_ble_eq_true rfl) eX23_plain_23 (fun S7 v8 h => ?_)
    refine x_if_eq (tgt := 80) C eX23_plain_26 (by decide) h (fun h => ?_) (fun h => ?_)
    · refine x_sub [0] rfl ?_
      exact j_80 S7 h
    · refine x_aload_n C eX23_plain_29 rfl 1 rfl ?_
      refine x_gR (o9 := x1) (ci := 19) (k9 := 6) (Cn := RX19) (T := TX19) (N := 14) C rfl wt_X19 (by decide) ww_144 eX23_plain_30 h (fun v9 h => ?_)
      refine x_cSi (As := [va_rf v9]) (st := []) (n := 1) (frc := 1) (loc := 20) C h (fun S9 r9 e9 => k_X23_isPlace l D K m9 mr _ S9 v9 r9 e9) ww_190 ww_160 ww_161 ww_16 (by decide +kernel) rfl ⟨by omega, by omega⟩ (Nat.le_of_ble_eq_true rfl) eX23_plain_33 (fun S10 v11 h => ?_)
      refine x_if_ne (tgt := 49) C eX23_plain_36 (by decide) h (fun h => ?_) (fun h => ?_)
      · refine x_tload_n C eX23_plain_49 rfl 0 rfl ?_
        refine x_dup C eX23_plain_50 rfl ?_
        refine x_mV (k9 := 10) C (by decide) ww_11 eX23_plain_51 rfl ?_
        refine x_iconst (v := 1) C eX23_plain_54 (by decide) ?_
        refine x_iadd C eX23_plain_55 ?_
        refine x_pM (k9 := 10) C (by decide) rfl (by decide) ww_11 rfl (by decide +kernel) eX23_plain_56 h (fun S12 h => ?_)
        refine x_aload_n C eX23_plain_59 rfl 1 rfl ?_
        refine x_iconst (v := 2) C eX23_plain_60 (by decide) ?_
        refine x_pI (o9 := x1) (ci := 19) (k9 := 0) (Cn := RX19) (T := TX19) (N := 14) C rfl wt_X19 tyX19_ok nmX19 (by decide) ww_140 rfl (by decide +kernel) eX23_plain_61 h (fun S13 h => ?_)
        refine x_aload_n C eX23_plain_64 rfl 1 rfl ?_
        refine x_aload_n C eX23_plain_65 rfl 1 rfl ?_
        refine x_gR (o9 := x1) (ci := 19) (k9 := 6) (Cn := RX19) (T := TX19) (N := 14) C rfl wt_X19 (by decide) ww_144 eX23_plain_66 h (fun v14 h => ?_)
        refine x_pR (o9 := x1) (Cv := "OwnedPlacesModel$Exp") (ci := 19) (k9 := 7) (Cn := RX19) (T := TX19) (N := 14) C rfl wt_X19 tyX19_ok nmX19 (by decide) ww_162 rfl (by decide +kernel) eX23_plain_69 h (fun S15 h => ?_)
        refine x_aload_n C eX23_plain_72 rfl 1 rfl ?_
        refine x_tload_n C eX23_plain_73 rfl 0 rfl ?_
        refine x_cVr (As := []) (st := [va_rf x1]) (n := 0) (frc := 5 + 6 * 140) (loc := 108 + 132 * 140) C h (fun S9 r9 e9 => k_X23_exp l D K m9 mr (f_chain9 K 140) (f_unary9 K 140) 140 (k_X23_chain9 l D K m9 mr 140).1 (k_X23_chain9 l D K m9 mr 140).2 _ S9 r9 e9) ww_193 ww_141 ww_142 ww_143 ww_16 (by decide +kernel) rfl ⟨by omega, by omega⟩ (Nat.le_of_ble_eq_true rfl) eX23_plain_74 (fun S16 v17 h => ?_)
        refine x_pR (o9 := x1) (Cv := "OwnedPlacesModel$Exp") (ci := 19) (k9 := 6) (Cn := RX19) (T := TX19) (N := 14) C rfl wt_X19 tyX19_ok nmX19 (by decide) ww_144 rfl (by decide +kernel) eX23_plain_77 h (fun S18 h => ?_)
        refine x_sub [0] rfl ?_
        exact j_80 S18 h
      · refine x_tload_n C eX23_plain_39 rfl 0 rfl ?_
        refine x_iconst (v := 1) C eX23_plain_40 (by decide) ?_
        refine x_tload_n C eX23_plain_41 rfl 0 rfl ?_
        refine x_mV (k9 := 10) C (by decide) ww_11 eX23_plain_42 rfl ?_
        refine x_cVv (As := [.int 1, .int (Zi S10 10)]) (st := []) (n := 2) (frc := 1) (loc := 20) C h (fun S9 r9 e9 => k_X23_fail l D K m9 mr _ S9 1 (Zi S10 10) r9 e9) ww_2 ww_20 ww_21 ww_22 ww_16 (by decide +kernel) rfl ⟨by omega, by omega⟩ (Nat.le_of_ble_eq_true rfl) eX23_plain_45 (fun S19 v20 h => ?_)
        exact x_vret C rfl rfl eX23_plain_48 h
set_option maxRecDepth 20000 in
set_option maxHeartbeats 4000000 in
theorem k_X23_arm (l : Launch) (D : va_G) (K : Ky) (m9 : Nat) (mr : Nat → Nat) (V : Sg → Option (Sg × Option Nat)) (d : Nat) (hV : ∀ (S0 Sf : Sg) (rf : Option Nat), V S0 = some (Sf, rf) → CT l D K m9 mr yX23_block (Cond.code yX23_block cX23_block 5 (some (.object "OwnedPlacesModel$Block"))) (847 + 4 * d) (18629 + 91 * d) S0 Sf [.ref m9] (some (va_rf rf))) (S0 Sf : Sg) (rf : Option Nat) (h : f_arm K V S0 = some (Sf, rf)) : CT l D K m9 mr yX23_arm (Cond.code yX23_arm cX23_arm 4 (some (.object "OwnedPlacesModel$Arm"))) (848 + 4 * d) (18653 + 91 * d) S0 Sf [.ref m9] (some (va_rf rf)) := by
  refine x_start (cc := cX23_arm) (lv := [(0, .ref m9)]) rfl rfl (by decide) (by simp [lv_args, cat_rf, cat_i, cat_l, cat_a]) (by simp [lg_sl, cat_rf, cat_i, cat_l, cat_a]) (fun p e R s m args below meth c Q A C => ?_)
  have j_100 : ∀ (S : Sg) (x1 : Option Nat), f_arm_100 K V S x1 = some (Sf, rf) → WX p l e R s m args below meth c Q D A K m9 mr 4 S0 S 100 [(0, .ref m9), (1, va_rf x1)] [] := by
    intro S x1 h
    unfold f_arm_100 at h
    refine x_tload_n C eX23_arm_100 rfl 0 rfl ?_
    refine x_bipush (v := 66) C eX23_arm_101 (by decide) ?_
    refine x_cVv (As := [.int 66]) (st := []) (n := 1) (frc := 2) (loc := 42) C h (fun S9 r9 e9 => k_X23_take l D K m9 mr _ S9 66 r9 e9) ww_12 ww_25 ww_26 ww_27 ww_16 (by decide +kernel) rfl ⟨by omega, by omega⟩ (Nat.le_of_ble_eq_true rfl) eX23_arm_103 (fun S30 v31 h => ?_)
    refine x_aload_n C eX23_arm_106 rfl 1 rfl ?_
    refine x_tload_n C eX23_arm_107 rfl 0 rfl ?_
    refine x_cVr (As := []) (st := [va_rf x1]) (n := 0) (frc := 847 + 4 * d) (loc := 18629 + 91 * d) C h (fun S9 r9 e9 => hV _ S9 r9 e9) ww_115 ww_96 ww_97 ww_98 ww_16 (by decide +kernel) rfl ⟨by omega, by omega⟩ (Nat.le_of_ble_eq_true rfl) eX23_arm_108 (fun S32 v33 h => ?_)
    refine x_pR (o9 := x1) (Cv := "OwnedPlacesModel$Block") (ci := 13) (k9 := 5) (Cn := RX13) (T := TX13) (N := 6) C rfl wt_X13 tyX13_ok nmX13 (by decide) ww_189 rfl (by decide +kernel) eX23_arm_111 h (fun S34 h => ?_)
    refine x_aload_n C eX23_arm_114 rfl 1 rfl ?_
    exact x_aret C rfl (Or.inl ⟨_, rfl⟩) rfl eX23_arm_115 h
  have j_94 : ∀ (S : Sg) (x1 : Option Nat), f_arm_94 K V S x1 = some (Sf, rf) → WX p l e R s m args below meth c Q D A K m9 mr 4 S0 S 94 [(0, .ref m9), (1, va_rf x1)] [] := by
    intro S x1 h
    unfold f_arm_94 at h
    refine x_tload_n C eX23_arm_94 rfl 0 rfl ?_
    refine x_bipush (v := 62) C eX23_arm_95 (by decide) ?_
    refine x_cVv (As := [.int 62]) (st := []) (n := 1) (frc := 2) (loc := 42) C h (fun S9 r9 e9 => k_X23_take l D K m9 mr _ S9 62 r9 e9) ww_12 ww_25 ww_26 ww_27 ww_16 (by decide +kernel) rfl ⟨by omega, by omega⟩ (Nat.le_of_ble_eq_true rfl) eX23_arm_97 (fun S28 v29 h => ?_)
    refine x_sub [0, 1] rfl ?_
    exact j_100 S28 x1 h
  have j_27 : ∀ (n_27 : Nat) (S : Sg) (x1 : Option Nat) (x2 : Int32), f_arm_27 K V n_27 S x1 x2 = some (Sf, rf) → WX p l e R s m args below meth c Q D A K m9 mr 4 S0 S 27 [(0, .ref m9), (1, va_rf x1), (2, .int x2)] [] := by
    intro n_27
    induction n_27 with
    | zero => intro S x1 x2 h; unfold f_arm_27 at h; cases h
    | succ n_27 ih_27 =>
      intro S x1 x2 h
      have j_74 : ∀ (S : Sg) (x1 : Option Nat), f_arm_74 K V (f_arm_27 K V n_27) S x1 = some (Sf, rf) → WX p l e R s m args below meth c Q D A K m9 mr 4 S0 S 74 [(0, .ref m9), (1, va_rf x1)] [] := by
        intro S x1 h
        unfold f_arm_74 at h
        refine x_aload_n C eX23_arm_74 rfl 1 rfl ?_
        refine x_dup C eX23_arm_75 (cat_rf x1) ?_
        refine x_gI (o9 := x1) (ci := 13) (k9 := 3) (Cn := RX13) (T := TX13) (N := 6) C rfl wt_X13 (by decide) ww_187 eX23_arm_76 h (fun v24 h => ?_)
        refine x_iconst (v := 1) C eX23_arm_79 (by decide) ?_
        refine x_iadd C eX23_arm_80 ?_
        refine x_pI (o9 := x1) (ci := 13) (k9 := 3) (Cn := RX13) (T := TX13) (N := 6) C rfl wt_X13 tyX13_ok nmX13 (by decide) ww_187 rfl (by decide +kernel) eX23_arm_81 h (fun S25 h => ?_)
        refine x_tload_n C eX23_arm_84 rfl 0 rfl ?_
        refine x_bipush (v := 57) C eX23_arm_85 (by decide) ?_
        refine x_cVi (As := [.int 57]) (st := []) (n := 1) (frc := 2) (loc := 41) C h (fun S9 r9 e9 => k_X23_takes l D K m9 mr _ S9 57 r9 e9) ww_23 ww_42 ww_43 ww_44 ww_16 (by decide +kernel) rfl ⟨by omega, by omega⟩ (Nat.le_of_ble_eq_true rfl) eX23_arm_87 (fun S26 v27 h => ?_)
        refine x_istore_n (lv2 := [(0, .ref m9), (1, va_rf x1)]) C eX23_arm_90 rfl (by decide) rfl (oky rfl (oky (cat_rf x1) ok0)) ?_
        refine x_goto (tgt := 27) C eX23_arm_91 (by decide) ?_
        refine x_sub [1, 2, 0] rfl ?_
        exact ih_27 S26 x1 v27 h
      unfold f_arm_27 at h
      refine x_tload_n C eX23_arm_27 rfl 0 rfl ?_
      refine x_cVi (As := []) (st := []) (n := 0) (frc := 1) (loc := 20) C h (fun S9 r9 e9 => k_X23_ok l D K m9 mr _ S9 r9 e9) ww_0 ww_13 ww_14 ww_15 ww_16 (by decide +kernel) rfl ⟨by omega, by omega⟩ (Nat.le_of_ble_eq_true rfl) eX23_arm_28 (fun S10 v11 h => ?_)
      refine x_if_eq (tgt := 94) C eX23_arm_31 (by decide) h (fun h => ?_) (fun h => ?_)
      · refine x_sub [0, 1] rfl ?_
        exact j_94 S10 x1 h
      · refine x_iload_n C eX23_arm_34 rfl 2 rfl ?_
        refine x_if_eq (tgt := 94) C eX23_arm_35 (by decide) h (fun h => ?_) (fun h => ?_)
        · refine x_sub [0, 1] rfl ?_
          exact j_94 S10 x1 h
        · refine x_tload_n C eX23_arm_38 rfl 0 rfl ?_
          refine x_aload_n C eX23_arm_39 rfl 1 rfl ?_
          refine x_gI (o9 := x1) (ci := 13) (k9 := 3) (Cn := RX13) (T := TX13) (N := 6) C rfl wt_X13 (by decide) ww_187 eX23_arm_40 h (fun v12 h => ?_)
          refine x_bipush (v := 12) C eX23_arm_43 (by decide) ?_
          refine x_cVv (As := [.int v12, .int 12]) (st := []) (n := 2) (frc := 2) (loc := 42) C h (fun S9 r9 e9 => k_X23_limit l D K m9 mr _ S9 v12 12 r9 e9) ww_30 ww_52 ww_53 ww_54 ww_16 (by decide +kernel) rfl ⟨by omega, by omega⟩ (Nat.le_of_ble_eq_true rfl) eX23_arm_45 (fun S13 v14 h => ?_)
          refine x_tload_n C eX23_arm_48 rfl 0 rfl ?_
          refine x_cVv (As := []) (st := []) (n := 0) (frc := 2) (loc := 42) C h (fun S9 r9 e9 => k_X23_oneVariable l D K m9 mr _ S9 r9 e9) ww_128 ww_154 ww_155 ww_156 ww_16 (by decide +kernel) rfl ⟨by omega, by omega⟩ (Nat.le_of_ble_eq_true rfl) eX23_arm_49 (fun S15 v16 h => ?_)
          refine x_tload_n C eX23_arm_52 rfl 0 rfl ?_
          refine x_cVi (As := []) (st := []) (n := 0) (frc := 3) (loc := 63) C h (fun S9 r9 e9 => k_X23_name l D K m9 mr _ S9 r9 e9) ww_24 ww_56 ww_57 ww_58 ww_16 (by decide +kernel) rfl ⟨by omega, by omega⟩ (Nat.le_of_ble_eq_true rfl) eX23_arm_53 (fun S17 v18 h => ?_)
          refine x_istore_n (lv2 := [(0, .ref m9), (1, va_rf x1), (2, .int x2)]) C eX23_arm_56 rfl (by decide) rfl (oky rfl (oky (cat_rf x1) (oky rfl ok0))) ?_
          refine x_tload_n C eX23_arm_57 rfl 1 rfl ?_
          refine x_cVi (As := []) (st := []) (n := 0) (frc := 1) (loc := 20) C h (fun S9 r9 e9 => k_X23_ok l D K m9 mr _ S9 r9 e9) ww_0 ww_13 ww_14 ww_15 ww_16 (by decide +kernel) rfl ⟨by omega, by omega⟩ (Nat.le_of_ble_eq_true rfl) eX23_arm_58 (fun S19 v20 h => ?_)
          refine x_if_eq (tgt := 74) C eX23_arm_61 (by decide) h (fun h => ?_) (fun h => ?_)
          · refine x_sub [1, 2] rfl ?_
            exact j_74 S19 x1 h
          · refine x_aload_n C eX23_arm_64 rfl 2 rfl ?_
            refine x_gR (o9 := x1) (ci := 13) (k9 := 2) (Cn := RX13) (T := TX13) (N := 6) C rfl wt_X13 (by decide) ww_188 eX23_arm_65 h (fun v21 h => ?_)
            refine x_aload_n C eX23_arm_68 rfl 2 rfl ?_
            refine x_gI (o9 := x1) (ci := 13) (k9 := 3) (Cn := RX13) (T := TX13) (N := 6) C rfl wt_X13 (by decide) ww_187 eX23_arm_69 h (fun v22 h => ?_)
            refine x_iload_n C eX23_arm_72 rfl 0 rfl ?_
            refine x_bI C eX23_arm_73 h (fun S23 h => ?_)
            refine x_sub [1, 2] rfl ?_
            exact j_74 S23 x1 h
  unfold f_arm at h
  refine x_nO (ci := 13) (Cn := RX13) (T := TX13) (ty0 := tyX13) C rfl wt_X13 tyX13_ok ww_177 ww_183 ww_184 dv_X13 eX23_arm_0 h (fun S1 a2 h => ?_)
  refine x_dup C eX23_arm_3 (cat_rf (some a2)) ?_
  refine x_callIM (b := a2) (st := [va_rf (some a2)]) (frc := 1) (loc := 20) C h (fun S9 e9 => k_X13_init l D K m9 mr S1 S9 a2 () e9) ww_969 C.2.2.2.1.1.2.2.2.2.2.1 ww_184 ww_185 rfl (by decide +kernel) ⟨by omega, by omega⟩ (Nat.le_of_ble_eq_true rfl) eX23_arm_4 (fun S3 h => ?_)
  refine x_astore_n (lv2 := [(0, .ref m9)]) C eX23_arm_7 rfl (by decide) rfl (oky rfl ok0) ?_
  refine x_aload_n C eX23_arm_8 rfl 0 rfl ?_
  refine x_tload_n C eX23_arm_9 rfl 1 rfl ?_
  refine x_cVi (As := []) (st := [va_rf (some a2)]) (n := 0) (frc := 3) (loc := 63) C h (fun S9 r9 e9 => k_X23_name l D K m9 mr _ S9 r9 e9) ww_24 ww_56 ww_57 ww_58 ww_16 (by decide +kernel) rfl ⟨by omega, by omega⟩ (Nat.le_of_ble_eq_true rfl) eX23_arm_10 (fun S5 v6 h => ?_)
  refine x_pI (o9 := (some a2)) (ci := 13) (k9 := 0) (Cn := RX13) (T := TX13) (N := 6) C rfl wt_X13 tyX13_ok nmX13 (by decide) ww_186 rfl (by decide +kernel) eX23_arm_13 h (fun S7 h => ?_)
  refine x_tload_n C eX23_arm_16 rfl 1 rfl ?_
  refine x_bipush (v := 61) C eX23_arm_17 (by decide) ?_
  refine x_cVi (As := [.int 61]) (st := []) (n := 1) (frc := 2) (loc := 41) C h (fun S9 r9 e9 => k_X23_takes l D K m9 mr _ S9 61 r9 e9) ww_23 ww_42 ww_43 ww_44 ww_16 (by decide +kernel) rfl ⟨by omega, by omega⟩ (Nat.le_of_ble_eq_true rfl) eX23_arm_19 (fun S8 v9 h => ?_)
  refine x_if_eq (tgt := 100) C eX23_arm_22 (by decide) h (fun h => ?_) (fun h => ?_)
  · refine x_sub [1, 0] rfl ?_
    exact j_100 S8 (some a2) h
  · refine x_iconst (v := 1) C eX23_arm_25 (by decide) ?_
    refine x_istore_n (lv2 := [(1, va_rf (some a2)), (0, .ref m9)]) C eX23_arm_26 rfl (by decide) rfl (oky (cat_rf (some a2)) (oky rfl ok0)) ?_
    refine x_sub [2, 1, 0] rfl ?_
    exact j_27 bigN S8 (some a2) 1 h
set_option maxRecDepth 20000 in
set_option maxHeartbeats 4000000 in
theorem k_X23_match (l : Launch) (D : va_G) (K : Ky) (m9 : Nat) (mr : Nat → Nat) (V : Sg → Option (Sg × Option Nat)) (d : Nat) (hV : ∀ (S0 Sf : Sg) (rf : Option Nat), V S0 = some (Sf, rf) → CT l D K m9 mr yX23_block (Cond.code yX23_block cX23_block 5 (some (.object "OwnedPlacesModel$Block"))) (847 + 4 * d) (18629 + 91 * d) S0 Sf [.ref m9] (some (va_rf rf))) (S0 Sf : Sg) (x1 : Option Nat) (rf : Unit) (h : f_match K V S0 x1 = some (Sf, rf)) : CT l D K m9 mr yX23_match (Cond.code yX23_match cX23_match 4 none) (849 + 4 * d) (18676 + 91 * d) S0 Sf [.ref m9, va_rf x1] none := by
  refine x_start (cc := cX23_match) (lv := [(0, .ref m9), (1, va_rf x1)]) rfl rfl (by decide) (by simp [lv_args, cat_rf, cat_i, cat_l, cat_a]) (by simp [lg_sl, cat_rf, cat_i, cat_l, cat_a]) (fun p e R s m args below meth c Q A C => ?_)
  have j_240 : ∀ (S : Sg), f_match_240 K V S = some (Sf, rf) → WX p l e R s m args below meth c Q D A K m9 mr 4 S0 S 240 [(0, .ref m9)] [] := by
    intro S h
    unfold f_match_240 at h
    refine x_tload_n C eX23_match_240 rfl 0 rfl ?_
    refine x_dup C eX23_match_241 rfl ?_
    refine x_mV (k9 := 15) C (by decide) ww_29 eX23_match_242 rfl ?_
    refine x_iconst (v := 1) C eX23_match_245 (by decide) ?_
    refine x_isub C eX23_match_246 ?_
    refine x_pM (k9 := 15) C (by decide) rfl (by decide) ww_29 rfl (by decide +kernel) eX23_match_247 h (fun S57 h => ?_)
    refine x_tload_n C eX23_match_250 rfl 0 rfl ?_
    refine x_bipush (v := 64) C eX23_match_251 (by decide) ?_
    refine x_cVv (As := [.int 64]) (st := []) (n := 1) (frc := 2) (loc := 42) C h (fun S9 r9 e9 => k_X23_take l D K m9 mr _ S9 64 r9 e9) ww_12 ww_25 ww_26 ww_27 ww_16 (by decide +kernel) rfl ⟨by omega, by omega⟩ (Nat.le_of_ble_eq_true rfl) eX23_match_253 (fun S58 v59 h => ?_)
    exact x_vret C rfl rfl eX23_match_256 h
  have j_146 : ∀ (n_146 : Nat) (S : Sg) (x1 : Option Nat), f_match_146 K V n_146 S x1 = some (Sf, rf) → WX p l e R s m args below meth c Q D A K m9 mr 4 S0 S 146 [(0, .ref m9), (1, va_rf x1)] [] := by
    intro n_146
    induction n_146 with
    | zero => intro S x1 h; unfold f_match_146 at h; cases h
    | succ n_146 ih_146 =>
      intro S x1 h
      have j_214 : ∀ (S : Sg) (x1 : Option Nat), f_match_214 K V (f_match_146 K V n_146) S x1 = some (Sf, rf) → WX p l e R s m args below meth c Q D A K m9 mr 4 S0 S 214 [(0, .ref m9), (1, va_rf x1)] [] := by
        intro S x1 h
        unfold f_match_214 at h
        refine x_aload_n C eX23_match_214 rfl 1 rfl ?_
        refine x_gR (o9 := x1) (ci := 19) (k9 := 12) (Cn := RX19) (T := TX19) (N := 14) C rfl wt_X19 (by decide) ww_178 eX23_match_215 h (fun v50 h => ?_)
        refine x_aload_n C eX23_match_218 rfl 1 rfl ?_
        refine x_gI (o9 := x1) (ci := 19) (k9 := 13) (Cn := RX19) (T := TX19) (N := 14) C rfl wt_X19 (by decide) ww_167 eX23_match_219 h (fun v51 h => ?_)
        refine x_tload_n C eX23_match_222 rfl 0 rfl ?_
        refine x_cVr (As := []) (st := [.int v51, va_rf v50]) (n := 0) (frc := 848 + 4 * d) (loc := 18653 + 91 * d) C h (fun S9 r9 e9 => k_X23_arm l D K m9 mr V d hV _ S9 r9 e9) ww_182 ww_179 ww_180 ww_181 ww_16 (by decide +kernel) rfl ⟨by omega, by omega⟩ (Nat.le_of_ble_eq_true rfl) eX23_match_223 (fun S52 v53 h => ?_)
        refine x_bQ (t9 := 7) (ci := 13) C rfl rfl eX23_match_226 h (fun S54 h => ?_)
        refine x_aload_n C eX23_match_227 rfl 1 rfl ?_
        refine x_dup C eX23_match_228 (cat_rf x1) ?_
        refine x_gI (o9 := x1) (ci := 19) (k9 := 13) (Cn := RX19) (T := TX19) (N := 14) C rfl wt_X19 (by decide) ww_167 eX23_match_229 h (fun v55 h => ?_)
        refine x_iconst (v := 1) C eX23_match_232 (by decide) ?_
        refine x_iadd C eX23_match_233 ?_
        refine x_pI (o9 := x1) (ci := 19) (k9 := 13) (Cn := RX19) (T := TX19) (N := 14) C rfl wt_X19 tyX19_ok nmX19 (by decide) ww_167 rfl (by decide +kernel) eX23_match_234 h (fun S56 h => ?_)
        refine x_goto (tgt := 146) C eX23_match_237 (by decide) ?_
        refine x_sub [0, 1] rfl ?_
        exact ih_146 S56 x1 h
      have j_186 : ∀ (n_186 : Nat) (S : Sg) (x1 : Option Nat) (x2 : Option Nat) (x3 : Int32), f_match_186 K V (f_match_146 K V n_146) n_186 S x1 x2 x3 = some (Sf, rf) → WX p l e R s m args below meth c Q D A K m9 mr 4 S0 S 186 [(0, .ref m9), (1, va_rf x1), (2, va_rf x2), (3, .int x3)] [] := by
        intro n_186
        induction n_186 with
        | zero => intro S x1 x2 x3 h; unfold f_match_186 at h; cases h
        | succ n_186 ih_186 =>
          intro S x1 x2 x3 h
          unfold f_match_186 at h
          refine x_iload_n C eX23_match_186 rfl 3 rfl ?_
          refine x_aload_n C eX23_match_187 rfl 1 rfl ?_
          refine x_gI (o9 := x1) (ci := 19) (k9 := 13) (Cn := RX19) (T := TX19) (N := 14) C rfl wt_X19 (by decide) ww_167 eX23_match_188 h (fun v45 h => ?_)
          refine x_ic_ge (tgt := 209) C eX23_match_191 (by decide) h (fun h => ?_) (fun h => ?_)
          · refine x_aload_n C eX23_match_209 rfl 1 rfl ?_
            refine x_aload_n C eX23_match_210 rfl 2 rfl ?_
            refine x_pA (o9 := x1) (tA := (.object "OwnedPlacesModel$Arm")) (ci := 19) (k9 := 12) (Cn := RX19) (T := TX19) (N := 14) C rfl wt_X19 tyX19_ok nmX19 (by decide) ww_178 rfl (by decide +kernel) eX23_match_211 h (fun S46 h => ?_)
            refine x_sub [0, 1] rfl ?_
            exact j_214 S46 x1 h
          · refine x_aload_n C eX23_match_194 rfl 2 rfl ?_
            refine x_iload_n C eX23_match_195 rfl 3 rfl ?_
            refine x_aload_n C eX23_match_196 rfl 1 rfl ?_
            refine x_gR (o9 := x1) (ci := 19) (k9 := 12) (Cn := RX19) (T := TX19) (N := 14) C rfl wt_X19 (by decide) ww_178 eX23_match_197 h (fun v47 h => ?_)
            refine x_iload_n C eX23_match_200 rfl 3 rfl ?_
            refine x_aQ (t9 := 7) C rfl eX23_match_201 h (fun v48 h => ?_)
            refine x_bQ (t9 := 7) (ci := 13) C rfl rfl eX23_match_202 h (fun S49 h => ?_)
            refine x_iinc (j := 3) (v := 1) (lv2 := [(0, .ref m9), (1, va_rf x1), (2, va_rf x2)]) C eX23_match_203 rfl (by decide) (by decide) rfl (oky rfl (oky (cat_rf x1) (oky (cat_rf x2) ok0))) ?_
            refine x_goto (tgt := 186) C eX23_match_206 (by decide) ?_
            refine x_sub [1, 2, 3, 0] rfl ?_
            exact ih_186 S49 x1 x2 (x3 + 1) h
      unfold f_match_146 at h
      refine x_tload_n C eX23_match_146 rfl 0 rfl ?_
      refine x_cVi (As := []) (st := []) (n := 0) (frc := 1) (loc := 20) C h (fun S9 r9 e9 => k_X23_ok l D K m9 mr _ S9 r9 e9) ww_0 ww_13 ww_14 ww_15 ww_16 (by decide +kernel) rfl ⟨by omega, by omega⟩ (Nat.le_of_ble_eq_true rfl) eX23_match_147 (fun S35 v36 h => ?_)
      refine x_if_eq (tgt := 240) C eX23_match_150 (by decide) h (fun h => ?_) (fun h => ?_)
      · refine x_sub [0] rfl ?_
        exact j_240 S35 h
      · refine x_tload_n C eX23_match_153 rfl 0 rfl ?_
        refine x_bipush (v := 64) C eX23_match_154 (by decide) ?_
        refine x_cVi (As := [.int 64]) (st := []) (n := 1) (frc := 1) (loc := 20) C h (fun S9 r9 e9 => k_X23_is l D K m9 mr _ S9 64 r9 e9) ww_9 ww_17 ww_18 ww_19 ww_16 (by decide +kernel) rfl ⟨by omega, by omega⟩ (Nat.le_of_ble_eq_true rfl) eX23_match_156 (fun S37 v38 h => ?_)
        refine x_if_ne (tgt := 240) C eX23_match_159 (by decide) h (fun h => ?_) (fun h => ?_)
        · refine x_sub [0] rfl ?_
          exact j_240 S37 h
        · refine x_aload_n C eX23_match_162 rfl 1 rfl ?_
          refine x_gI (o9 := x1) (ci := 19) (k9 := 13) (Cn := RX19) (T := TX19) (N := 14) C rfl wt_X19 (by decide) ww_167 eX23_match_163 h (fun v39 h => ?_)
          refine x_aload_n C eX23_match_166 rfl 1 rfl ?_
          refine x_gR (o9 := x1) (ci := 19) (k9 := 12) (Cn := RX19) (T := TX19) (N := 14) C rfl wt_X19 (by decide) ww_178 eX23_match_167 h (fun v40 h => ?_)
          refine x_aLn (t9 := 7) C rfl eX23_match_170 h (fun v41 h => ?_)
          refine x_ic_ne (tgt := 214) C eX23_match_171 (by decide) h (fun h => ?_) (fun h => ?_)
          · refine x_sub [0, 1] rfl ?_
            exact j_214 S37 x1 h
          · refine x_iconst (v := 2) C eX23_match_174 (by decide) ?_
            refine x_aload_n C eX23_match_175 rfl 1 rfl ?_
            refine x_gI (o9 := x1) (ci := 19) (k9 := 13) (Cn := RX19) (T := TX19) (N := 14) C rfl wt_X19 (by decide) ww_167 eX23_match_176 h (fun v42 h => ?_)
            refine x_imul C eX23_match_179 ?_
            refine x_nQ (t9 := 7) C rfl C.2.2.2.1.2.2.2.2.1 ww_177 eX23_match_180 h (fun S43 a44 h => ?_)
            refine x_astore_n (lv2 := [(0, .ref m9), (1, va_rf x1)]) C eX23_match_183 rfl (by decide) rfl (oky rfl (oky (cat_rf x1) ok0)) ?_
            refine x_iconst (v := 0) C eX23_match_184 (by decide) ?_
            refine x_istore_n (lv2 := [(2, va_rf (some a44)), (0, .ref m9), (1, va_rf x1)]) C eX23_match_185 rfl (by decide) rfl (oky (cat_rf (some a44)) (oky rfl (oky (cat_rf x1) ok0))) ?_
            refine x_sub [2, 3, 1, 0] rfl ?_
            exact j_186 bigN S43 x1 (some a44) 0 h
  have j_132 : ∀ (S : Sg) (x1 : Option Nat), f_match_132 K V S x1 = some (Sf, rf) → WX p l e R s m args below meth c Q D A K m9 mr 4 S0 S 132 [(0, .ref m9), (1, va_rf x1)] [] := by
    intro S x1 h
    unfold f_match_132 at h
    refine x_tload_n C eX23_match_132 rfl 0 rfl ?_
    refine x_bipush (v := 63) C eX23_match_133 (by decide) ?_
    refine x_cVv (As := [.int 63]) (st := []) (n := 1) (frc := 2) (loc := 42) C h (fun S9 r9 e9 => k_X23_take l D K m9 mr _ S9 63 r9 e9) ww_12 ww_25 ww_26 ww_27 ww_16 (by decide +kernel) rfl ⟨by omega, by omega⟩ (Nat.le_of_ble_eq_true rfl) eX23_match_135 (fun S30 v31 h => ?_)
    refine x_aload_n C eX23_match_138 rfl 1 rfl ?_
    refine x_iconst (v := 4) C eX23_match_139 (by decide) ?_
    refine x_nQ (t9 := 7) C rfl C.2.2.2.1.2.2.2.2.1 ww_177 eX23_match_140 h (fun S32 a33 h => ?_)
    refine x_pA (o9 := x1) (tA := (.object "OwnedPlacesModel$Arm")) (ci := 19) (k9 := 12) (Cn := RX19) (T := TX19) (N := 14) C rfl wt_X19 tyX19_ok nmX19 (by decide) ww_178 rfl (by decide +kernel) eX23_match_143 h (fun S34 h => ?_)
    refine x_sub [0, 1] rfl ?_
    exact j_146 bigN S34 x1 h
  have j_94 : ∀ (S : Sg) (x1 : Option Nat), f_match_94 K V S x1 = some (Sf, rf) → WX p l e R s m args below meth c Q D A K m9 mr 4 S0 S 94 [(0, .ref m9), (1, va_rf x1)] [] := by
    intro S x1 h
    unfold f_match_94 at h
    refine x_tload_n C eX23_match_94 rfl 0 rfl ?_
    refine x_cVi (As := []) (st := []) (n := 0) (frc := 1) (loc := 20) C h (fun S9 r9 e9 => k_X23_ok l D K m9 mr _ S9 r9 e9) ww_0 ww_13 ww_14 ww_15 ww_16 (by decide +kernel) rfl ⟨by omega, by omega⟩ (Nat.le_of_ble_eq_true rfl) eX23_match_95 (fun S23 v24 h => ?_)
    refine x_if_ne (tgt := 102) C eX23_match_98 (by decide) h (fun h => ?_) (fun h => ?_)
    · refine x_tload_n C eX23_match_102 rfl 0 rfl ?_
      refine x_bipush (v := 63) C eX23_match_103 (by decide) ?_
      refine x_cVi (As := [.int 63]) (st := []) (n := 1) (frc := 1) (loc := 20) C h (fun S9 r9 e9 => k_X23_is l D K m9 mr _ S9 63 r9 e9) ww_9 ww_17 ww_18 ww_19 ww_16 (by decide +kernel) rfl ⟨by omega, by omega⟩ (Nat.le_of_ble_eq_true rfl) eX23_match_105 (fun S25 v26 h => ?_)
      refine x_if_eq (tgt := 122) C eX23_match_108 (by decide) h (fun h => ?_) (fun h => ?_)
      · refine x_tload_n C eX23_match_122 rfl 0 rfl ?_
        refine x_dup C eX23_match_123 rfl ?_
        refine x_mV (k9 := 15) C (by decide) ww_29 eX23_match_124 rfl ?_
        refine x_iconst (v := 1) C eX23_match_127 (by decide) ?_
        refine x_iadd C eX23_match_128 ?_
        refine x_pM (k9 := 15) C (by decide) rfl (by decide) ww_29 rfl (by decide +kernel) eX23_match_129 h (fun S27 h => ?_)
        refine x_sub [0, 1] rfl ?_
        exact j_132 S27 x1 h
      · refine x_tload_n C eX23_match_111 rfl 0 rfl ?_
        refine x_tload_n C eX23_match_112 rfl 0 rfl ?_
        refine x_mV (k9 := 10) C (by decide) ww_11 eX23_match_113 rfl ?_
        refine x_cVv (As := [.int (Zi S25 10)]) (st := []) (n := 1) (frc := 2) (loc := 42) C h (fun S9 r9 e9 => k_X23_enter l D K m9 mr _ S9 (Zi S25 10) r9 e9) ww_28 ww_38 ww_39 ww_40 ww_16 (by decide +kernel) rfl ⟨by omega, by omega⟩ (Nat.le_of_ble_eq_true rfl) eX23_match_116 (fun S28 v29 h => ?_)
        refine x_goto (tgt := 132) C eX23_match_119 (by decide) ?_
        refine x_sub [0, 1] rfl ?_
        exact j_132 S28 x1 h
    · exact x_vret C rfl rfl eX23_match_101 h
  have j_53 : ∀ (S : Sg) (x1 : Option Nat), f_match_53 K V S x1 = some (Sf, rf) → WX p l e R s m args below meth c Q D A K m9 mr 4 S0 S 53 [(0, .ref m9), (1, va_rf x1)] [] := by
    intro S x1 h
    unfold f_match_53 at h
    refine x_aload_n C eX23_match_53 rfl 1 rfl ?_
    refine x_tload_n C eX23_match_54 rfl 0 rfl ?_
    refine x_cVr (As := []) (st := [va_rf x1]) (n := 0) (frc := 5 + 6 * 140) (loc := 108 + 132 * 140) C h (fun S9 r9 e9 => k_X23_exp l D K m9 mr (f_chain9 K 140) (f_unary9 K 140) 140 (k_X23_chain9 l D K m9 mr 140).1 (k_X23_chain9 l D K m9 mr 140).2 _ S9 r9 e9) ww_193 ww_141 ww_142 ww_143 ww_16 (by decide +kernel) rfl ⟨by omega, by omega⟩ (Nat.le_of_ble_eq_true rfl) eX23_match_55 (fun S12 v13 h => ?_)
    refine x_pR (o9 := x1) (Cv := "OwnedPlacesModel$Exp") (ci := 19) (k9 := 6) (Cn := RX19) (T := TX19) (N := 14) C rfl wt_X19 tyX19_ok nmX19 (by decide) ww_144 rfl (by decide +kernel) eX23_match_58 h (fun S14 h => ?_)
    refine x_tload_n C eX23_match_61 rfl 0 rfl ?_
    refine x_cVi (As := []) (st := []) (n := 0) (frc := 1) (loc := 20) C h (fun S9 r9 e9 => k_X23_ok l D K m9 mr _ S9 r9 e9) ww_0 ww_13 ww_14 ww_15 ww_16 (by decide +kernel) rfl ⟨by omega, by omega⟩ (Nat.le_of_ble_eq_true rfl) eX23_match_62 (fun S15 v16 h => ?_)
    refine x_if_eq (tgt := 94) C eX23_match_65 (by decide) h (fun h => ?_) (fun h => ?_)
    · refine x_sub [0, 1] rfl ?_
      exact j_94 S15 x1 h
    · refine x_aload_n C eX23_match_68 rfl 1 rfl ?_
      refine x_gI (o9 := x1) (ci := 19) (k9 := 4) (Cn := RX19) (T := TX19) (N := 14) C rfl wt_X19 (by decide) ww_176 eX23_match_69 h (fun v17 h => ?_)
      refine x_if_eq (tgt := 94) C eX23_match_72 (by decide) h (fun h => ?_) (fun h => ?_)
      · refine x_sub [0, 1] rfl ?_
        exact j_94 S15 x1 h
      · refine x_aload_n C eX23_match_75 rfl 1 rfl ?_
        refine x_gR (o9 := x1) (ci := 19) (k9 := 6) (Cn := RX19) (T := TX19) (N := 14) C rfl wt_X19 (by decide) ww_144 eX23_match_76 h (fun v18 h => ?_)
        refine x_cSi (As := [va_rf v18]) (st := []) (n := 1) (frc := 1) (loc := 20) C h (fun S9 r9 e9 => k_X23_isPlace l D K m9 mr _ S9 v18 r9 e9) ww_190 ww_160 ww_161 ww_16 (by decide +kernel) rfl ⟨by omega, by omega⟩ (Nat.le_of_ble_eq_true rfl) eX23_match_79 (fun S19 v20 h => ?_)
        refine x_if_ne (tgt := 94) C eX23_match_82 (by decide) h (fun h => ?_) (fun h => ?_)
        · refine x_sub [0, 1] rfl ?_
          exact j_94 S19 x1 h
        · refine x_tload_n C eX23_match_85 rfl 0 rfl ?_
          refine x_iconst (v := 1) C eX23_match_86 (by decide) ?_
          refine x_tload_n C eX23_match_87 rfl 0 rfl ?_
          refine x_mV (k9 := 10) C (by decide) ww_11 eX23_match_88 rfl ?_
          refine x_cVv (As := [.int 1, .int (Zi S19 10)]) (st := []) (n := 2) (frc := 1) (loc := 20) C h (fun S9 r9 e9 => k_X23_fail l D K m9 mr _ S9 1 (Zi S19 10) r9 e9) ww_2 ww_20 ww_21 ww_22 ww_16 (by decide +kernel) rfl ⟨by omega, by omega⟩ (Nat.le_of_ble_eq_true rfl) eX23_match_91 (fun S21 v22 h => ?_)
          refine x_sub [0, 1] rfl ?_
          exact j_94 S21 x1 h
  unfold f_match at h
  refine x_aload_n C eX23_match_0 rfl 1 rfl ?_
  refine x_iconst (v := 5) C eX23_match_1 (by decide) ?_
  refine x_pI (o9 := x1) (ci := 19) (k9 := 0) (Cn := RX19) (T := TX19) (N := 14) C rfl wt_X19 tyX19_ok nmX19 (by decide) ww_140 rfl (by decide +kernel) eX23_match_2 h (fun S1 h => ?_)
  refine x_tload_n C eX23_match_5 rfl 0 rfl ?_
  refine x_dup C eX23_match_6 rfl ?_
  refine x_mV (k9 := 10) C (by decide) ww_11 eX23_match_7 rfl ?_
  refine x_iconst (v := 1) C eX23_match_10 (by decide) ?_
  refine x_iadd C eX23_match_11 ?_
  refine x_pM (k9 := 10) C (by decide) rfl (by decide) ww_11 rfl (by decide +kernel) eX23_match_12 h (fun S2 h => ?_)
  refine x_tload_n C eX23_match_15 rfl 0 rfl ?_
  refine x_bipush (v := 55) C eX23_match_16 (by decide) ?_
  refine x_cVi (As := [.int 55]) (st := []) (n := 1) (frc := 1) (loc := 20) C h (fun S9 r9 e9 => k_X23_is l D K m9 mr _ S9 55 r9 e9) ww_9 ww_17 ww_18 ww_19 ww_16 (by decide +kernel) rfl ⟨by omega, by omega⟩ (Nat.le_of_ble_eq_true rfl) eX23_match_18 (fun S3 v4 h => ?_)
  refine x_if_eq (tgt := 53) C eX23_match_21 (by decide) h (fun h => ?_) (fun h => ?_)
  · refine x_sub [0, 1] rfl ?_
    exact j_53 S3 x1 h
  · refine x_tload_n C eX23_match_24 rfl 0 rfl ?_
    refine x_cVv (As := []) (st := []) (n := 0) (frc := 2) (loc := 42) C h (fun S9 r9 e9 => k_X23_borrow l D K m9 mr _ S9 r9 e9) ww_171 ww_173 ww_174 ww_175 ww_16 (by decide +kernel) rfl ⟨by omega, by omega⟩ (Nat.le_of_ble_eq_true rfl) eX23_match_25 (fun S5 v6 h => ?_)
    refine x_tload_n C eX23_match_28 rfl 0 rfl ?_
    refine x_dup C eX23_match_29 rfl ?_
    refine x_mV (k9 := 10) C (by decide) ww_11 eX23_match_30 rfl ?_
    refine x_iconst (v := 1) C eX23_match_33 (by decide) ?_
    refine x_iadd C eX23_match_34 ?_
    refine x_pM (k9 := 10) C (by decide) rfl (by decide) ww_11 rfl (by decide +kernel) eX23_match_35 h (fun S7 h => ?_)
    refine x_aload_n C eX23_match_38 rfl 1 rfl ?_
    refine x_iconst (v := 1) C eX23_match_39 (by decide) ?_
    refine x_pZ (o9 := x1) (ci := 19) (k9 := 4) (Cn := RX19) (T := TX19) (N := 14) C rfl wt_X19 tyX19_ok nmX19 (by decide) ww_176 rfl (by decide +kernel) eX23_match_40 h (fun S8 h => ?_)
    refine x_aload_n C eX23_match_43 rfl 1 rfl ?_
    refine x_tload_n C eX23_match_44 rfl 0 rfl ?_
    refine x_bipush (v := 14) C eX23_match_45 (by decide) ?_
    refine x_cVi (As := [.int 14]) (st := [va_rf x1]) (n := 1) (frc := 2) (loc := 41) C h (fun S9 r9 e9 => k_X23_takes l D K m9 mr _ S9 14 r9 e9) ww_23 ww_42 ww_43 ww_44 ww_16 (by decide +kernel) rfl ⟨by omega, by omega⟩ (Nat.le_of_ble_eq_true rfl) eX23_match_47 (fun S9 v10 h => ?_)
    refine x_pZ (o9 := x1) (ci := 19) (k9 := 3) (Cn := RX19) (T := TX19) (N := 14) C rfl wt_X19 tyX19_ok nmX19 (by decide) ww_153 rfl (by decide +kernel) eX23_match_50 h (fun S11 h => ?_)
    refine x_sub [0, 1] rfl ?_
    exact j_53 S11 x1 h
set_option maxRecDepth 20000 in
set_option maxHeartbeats 4000000 in
theorem k_X23_branch (l : Launch) (D : va_G) (K : Ky) (m9 : Nat) (mr : Nat → Nat) (V : Sg → Option (Sg × Option Nat)) (d : Nat) (hV : ∀ (S0 Sf : Sg) (rf : Option Nat), V S0 = some (Sf, rf) → CT l D K m9 mr yX23_block (Cond.code yX23_block cX23_block 5 (some (.object "OwnedPlacesModel$Block"))) (847 + 4 * d) (18629 + 91 * d) S0 Sf [.ref m9] (some (va_rf rf))) (S0 Sf : Sg) (x1 : Option Nat) (rf : Unit) (h : f_branch K V S0 x1 = some (Sf, rf)) : CT l D K m9 mr yX23_branch (Cond.code yX23_branch cX23_branch 4 none) (848 + 4 * d) (18653 + 91 * d) S0 Sf [.ref m9, va_rf x1] none := by
  refine x_start (cc := cX23_branch) (lv := [(0, .ref m9), (1, va_rf x1)]) rfl rfl (by decide) (by simp [lv_args, cat_rf, cat_i, cat_l, cat_a]) (by simp [lg_sl, cat_rf, cat_i, cat_l, cat_a]) (fun p e R s m args below meth c Q A C => ?_)
  have j_119 : ∀ (S : Sg), f_branch_119 K V S = some (Sf, rf) → WX p l e R s m args below meth c Q D A K m9 mr 4 S0 S 119 [] [] := by
    intro S h
    unfold f_branch_119 at h
    exact x_vret C rfl rfl eX23_branch_119 h
  have j_23 : ∀ (n_23 : Nat) (S : Sg) (x1 : Option Nat) (x2 : Int32), f_branch_23 K V n_23 S x1 x2 = some (Sf, rf) → WX p l e R s m args below meth c Q D A K m9 mr 4 S0 S 23 [(0, .ref m9), (1, va_rf x1), (2, .int x2)] [] := by
    intro n_23
    induction n_23 with
    | zero => intro S x1 x2 h; unfold f_branch_23 at h; cases h
    | succ n_23 ih_23 =>
      intro S x1 x2 h
      have j_115 : ∀ (S : Sg) (x1 : Option Nat) (y0 : Int32), f_branch_115 K V (f_branch_23 K V n_23) S x1 y0 = some (Sf, rf) → WX p l e R s m args below meth c Q D A K m9 mr 4 S0 S 115 [(0, .ref m9), (1, va_rf x1)] [.int y0] := by
        intro S x1 y0 h
        unfold f_branch_115 at h
        refine x_istore_n (lv2 := [(0, .ref m9), (1, va_rf x1)]) C eX23_branch_115 rfl (by decide) rfl (oky rfl (oky (cat_rf x1) ok0)) ?_
        refine x_goto (tgt := 23) C eX23_branch_116 (by decide) ?_
        refine x_sub [1, 2, 0] rfl ?_
        exact ih_23 S x1 y0 h
      have j_114 : ∀ (S : Sg) (x1 : Option Nat), f_branch_114 K V (f_branch_23 K V n_23) S x1 = some (Sf, rf) → WX p l e R s m args below meth c Q D A K m9 mr 4 S0 S 114 [(0, .ref m9), (1, va_rf x1)] [] := by
        intro S x1 h
        unfold f_branch_114 at h
        refine x_iconst (v := 0) C eX23_branch_114 (by decide) ?_
        refine x_sub [0, 1] rfl ?_
        exact j_115 S x1 0 h
      have j_74 : ∀ (S : Sg) (x1 : Option Nat) (x3 : Int32), f_branch_74 K V (f_branch_23 K V n_23) S x1 x3 = some (Sf, rf) → WX p l e R s m args below meth c Q D A K m9 mr 4 S0 S 74 [(0, .ref m9), (1, va_rf x1), (3, .int x3)] [] := by
        intro S x1 x3 h
        unfold f_branch_74 at h
        refine x_aload_n C eX23_branch_74 rfl 1 rfl ?_
        refine x_gR (o9 := x1) (ci := 19) (k9 := 11) (Cn := RX19) (T := TX19) (N := 14) C rfl wt_X19 (by decide) ww_166 eX23_branch_75 h (fun v22 h => ?_)
        refine x_aload_n C eX23_branch_78 rfl 1 rfl ?_
        refine x_gI (o9 := x1) (ci := 19) (k9 := 13) (Cn := RX19) (T := TX19) (N := 14) C rfl wt_X19 (by decide) ww_167 eX23_branch_79 h (fun v23 h => ?_)
        refine x_tload_n C eX23_branch_82 rfl 0 rfl ?_
        refine x_cVr (As := []) (st := [.int v23, va_rf v22]) (n := 0) (frc := 847 + 4 * d) (loc := 18629 + 91 * d) C h (fun S9 r9 e9 => hV _ S9 r9 e9) ww_115 ww_96 ww_97 ww_98 ww_16 (by decide +kernel) rfl ⟨by omega, by omega⟩ (Nat.le_of_ble_eq_true rfl) eX23_branch_83 (fun S24 v25 h => ?_)
        refine x_bQ (t9 := 10) (ci := 14) C rfl rfl eX23_branch_86 h (fun S26 h => ?_)
        refine x_aload_n C eX23_branch_87 rfl 1 rfl ?_
        refine x_dup C eX23_branch_88 (cat_rf x1) ?_
        refine x_gI (o9 := x1) (ci := 19) (k9 := 13) (Cn := RX19) (T := TX19) (N := 14) C rfl wt_X19 (by decide) ww_167 eX23_branch_89 h (fun v27 h => ?_)
        refine x_iconst (v := 1) C eX23_branch_92 (by decide) ?_
        refine x_iadd C eX23_branch_93 ?_
        refine x_pI (o9 := x1) (ci := 19) (k9 := 13) (Cn := RX19) (T := TX19) (N := 14) C rfl wt_X19 tyX19_ok nmX19 (by decide) ww_167 rfl (by decide +kernel) eX23_branch_94 h (fun S28 h => ?_)
        refine x_iload_n C eX23_branch_97 rfl 2 rfl ?_
        refine x_if_eq (tgt := 114) C eX23_branch_98 (by decide) h (fun h => ?_) (fun h => ?_)
        · refine x_sub [0, 1] rfl ?_
          exact j_114 S28 x1 h
        · refine x_tload_n C eX23_branch_101 rfl 0 rfl ?_
          refine x_bipush (v := 16) C eX23_branch_102 (by decide) ?_
          refine x_cVi (As := [.int 16]) (st := []) (n := 1) (frc := 2) (loc := 41) C h (fun S9 r9 e9 => k_X23_takes l D K m9 mr _ S9 16 r9 e9) ww_23 ww_42 ww_43 ww_44 ww_16 (by decide +kernel) rfl ⟨by omega, by omega⟩ (Nat.le_of_ble_eq_true rfl) eX23_branch_104 (fun S29 v30 h => ?_)
          refine x_if_eq (tgt := 114) C eX23_branch_107 (by decide) h (fun h => ?_) (fun h => ?_)
          · refine x_sub [0, 1] rfl ?_
            exact j_114 S29 x1 h
          · refine x_iconst (v := 1) C eX23_branch_110 (by decide) ?_
            refine x_goto (tgt := 115) C eX23_branch_111 (by decide) ?_
            refine x_sub [0, 1] rfl ?_
            exact j_115 S29 x1 1 h
      have j_50 : ∀ (S : Sg) (x1 : Option Nat), f_branch_50 K V (f_branch_23 K V n_23) S x1 = some (Sf, rf) → WX p l e R s m args below meth c Q D A K m9 mr 4 S0 S 50 [(0, .ref m9), (1, va_rf x1)] [] := by
        intro S x1 h
        unfold f_branch_50 at h
        refine x_tload_n C eX23_branch_50 rfl 0 rfl ?_
        refine x_bipush (v := 15) C eX23_branch_51 (by decide) ?_
        refine x_cVi (As := [.int 15]) (st := []) (n := 1) (frc := 2) (loc := 41) C h (fun S9 r9 e9 => k_X23_takes l D K m9 mr _ S9 15 r9 e9) ww_23 ww_42 ww_43 ww_44 ww_16 (by decide +kernel) rfl ⟨by omega, by omega⟩ (Nat.le_of_ble_eq_true rfl) eX23_branch_53 (fun S15 v16 h => ?_)
        refine x_istore_n (lv2 := [(0, .ref m9), (1, va_rf x1)]) C eX23_branch_56 rfl (by decide) rfl (oky rfl (oky (cat_rf x1) ok0)) ?_
        refine x_iload_n C eX23_branch_57 rfl 0 rfl ?_
        refine x_if_eq (tgt := 74) C eX23_branch_58 (by decide) h (fun h => ?_) (fun h => ?_)
        · refine x_sub [1, 2, 0] rfl ?_
          exact j_74 S15 x1 v16 h
        · refine x_aload_n C eX23_branch_61 rfl 2 rfl ?_
          refine x_gR (o9 := x1) (ci := 19) (k9 := 10) (Cn := RX19) (T := TX19) (N := 14) C rfl wt_X19 (by decide) ww_165 eX23_branch_62 h (fun v17 h => ?_)
          refine x_aload_n C eX23_branch_65 rfl 2 rfl ?_
          refine x_gI (o9 := x1) (ci := 19) (k9 := 13) (Cn := RX19) (T := TX19) (N := 14) C rfl wt_X19 (by decide) ww_167 eX23_branch_66 h (fun v18 h => ?_)
          refine x_tload_n C eX23_branch_69 rfl 1 rfl ?_
          refine x_cVr (As := []) (st := [.int v18, va_rf v17]) (n := 0) (frc := 5 + 6 * 140) (loc := 108 + 132 * 140) C h (fun S9 r9 e9 => k_X23_exp l D K m9 mr (f_chain9 K 140) (f_unary9 K 140) 140 (k_X23_chain9 l D K m9 mr 140).1 (k_X23_chain9 l D K m9 mr 140).2 _ S9 r9 e9) ww_193 ww_141 ww_142 ww_143 ww_16 (by decide +kernel) rfl ⟨by omega, by omega⟩ (Nat.le_of_ble_eq_true rfl) eX23_branch_70 (fun S19 v20 h => ?_)
          refine x_bQ (t9 := 9) (ci := 15) C rfl rfl eX23_branch_73 h (fun S21 h => ?_)
          refine x_sub [1, 2, 0] rfl ?_
          exact j_74 S21 x1 v16 h
      unfold f_branch_23 at h
      refine x_tload_n C eX23_branch_23 rfl 0 rfl ?_
      refine x_cVi (As := []) (st := []) (n := 0) (frc := 1) (loc := 20) C h (fun S9 r9 e9 => k_X23_ok l D K m9 mr _ S9 r9 e9) ww_0 ww_13 ww_14 ww_15 ww_16 (by decide +kernel) rfl ⟨by omega, by omega⟩ (Nat.le_of_ble_eq_true rfl) eX23_branch_24 (fun S8 v9 h => ?_)
      refine x_if_eq (tgt := 119) C eX23_branch_27 (by decide) h (fun h => ?_) (fun h => ?_)
      · refine x_sub [] rfl ?_
        exact j_119 S8 h
      · refine x_iload_n C eX23_branch_30 rfl 2 rfl ?_
        refine x_if_eq (tgt := 119) C eX23_branch_31 (by decide) h (fun h => ?_) (fun h => ?_)
        · refine x_sub [] rfl ?_
          exact j_119 S8 h
        · refine x_aload_n C eX23_branch_34 rfl 1 rfl ?_
          refine x_gI (o9 := x1) (ci := 19) (k9 := 13) (Cn := RX19) (T := TX19) (N := 14) C rfl wt_X19 (by decide) ww_167 eX23_branch_35 h (fun v10 h => ?_)
          refine x_aload_n C eX23_branch_38 rfl 1 rfl ?_
          refine x_gR (o9 := x1) (ci := 19) (k9 := 11) (Cn := RX19) (T := TX19) (N := 14) C rfl wt_X19 (by decide) ww_166 eX23_branch_39 h (fun v11 h => ?_)
          refine x_aLn (t9 := 10) C rfl eX23_branch_42 h (fun v12 h => ?_)
          refine x_ic_ne (tgt := 50) C eX23_branch_43 (by decide) h (fun h => ?_) (fun h => ?_)
          · refine x_sub [0, 1] rfl ?_
            exact j_50 S8 x1 h
          · refine x_aload_n C eX23_branch_46 rfl 1 rfl ?_
            refine x_cSv (As := [va_rf x1]) (st := []) (n := 1) (frc := 1) (loc := 20) C h (fun S9 r9 e9 => k_X23_growBranch l D K m9 mr _ S9 x1 r9 e9) ww_170 ww_168 ww_169 ww_16 (by decide +kernel) rfl ⟨by omega, by omega⟩ (Nat.le_of_ble_eq_true rfl) eX23_branch_47 (fun S13 v14 h => ?_)
            refine x_sub [0, 1] rfl ?_
            exact j_50 S13 x1 h
  unfold f_branch at h
  refine x_aload_n C eX23_branch_0 rfl 1 rfl ?_
  refine x_iconst (v := 3) C eX23_branch_1 (by decide) ?_
  refine x_pI (o9 := x1) (ci := 19) (k9 := 0) (Cn := RX19) (T := TX19) (N := 14) C rfl wt_X19 tyX19_ok nmX19 (by decide) ww_140 rfl (by decide +kernel) eX23_branch_2 h (fun S1 h => ?_)
  refine x_aload_n C eX23_branch_5 rfl 1 rfl ?_
  refine x_iconst (v := 4) C eX23_branch_6 (by decide) ?_
  refine x_nQ (t9 := 9) C rfl C.2.2.2.1.2.1 ww_164 eX23_branch_7 h (fun S2 a3 h => ?_)
  refine x_pA (o9 := x1) (tA := (.object "OwnedPlacesModel$Exp")) (ci := 19) (k9 := 10) (Cn := RX19) (T := TX19) (N := 14) C rfl wt_X19 tyX19_ok nmX19 (by decide) ww_165 rfl (by decide +kernel) eX23_branch_10 h (fun S4 h => ?_)
  refine x_aload_n C eX23_branch_13 rfl 1 rfl ?_
  refine x_iconst (v := 4) C eX23_branch_14 (by decide) ?_
  refine x_nQ (t9 := 10) C rfl C.2.2.2.1.2.2.2.1 ww_116 eX23_branch_15 h (fun S5 a6 h => ?_)
  refine x_pA (o9 := x1) (tA := (.object "OwnedPlacesModel$Block")) (ci := 19) (k9 := 11) (Cn := RX19) (T := TX19) (N := 14) C rfl wt_X19 tyX19_ok nmX19 (by decide) ww_166 rfl (by decide +kernel) eX23_branch_18 h (fun S7 h => ?_)
  refine x_iconst (v := 1) C eX23_branch_21 (by decide) ?_
  refine x_istore_n (lv2 := [(0, .ref m9), (1, va_rf x1)]) C eX23_branch_22 rfl (by decide) rfl (oky rfl (oky (cat_rf x1) ok0)) ?_
  refine x_sub [1, 2, 0] rfl ?_
  exact j_23 bigN S7 x1 1 h
set_option maxRecDepth 20000 in
set_option maxHeartbeats 4000000 in
theorem k_X23_statement (l : Launch) (D : va_G) (K : Ky) (m9 : Nat) (mr : Nat → Nat) (V : Sg → Option (Sg × Option Nat)) (d : Nat) (hV : ∀ (S0 Sf : Sg) (rf : Option Nat), V S0 = some (Sf, rf) → CT l D K m9 mr yX23_block (Cond.code yX23_block cX23_block 5 (some (.object "OwnedPlacesModel$Block"))) (847 + 4 * d) (18629 + 91 * d) S0 Sf [.ref m9] (some (va_rf rf))) (S0 Sf : Sg) (rf : Option Nat) (h : f_statement K V S0 = some (Sf, rf)) : CT l D K m9 mr yX23_statement (Cond.code yX23_statement cX23_statement 2 (some (.object "OwnedPlacesModel$Statement"))) (850 + 4 * d) (18699 + 91 * d) S0 Sf [.ref m9] (some (va_rf rf)) := by
  refine x_start (cc := cX23_statement) (lv := [(0, .ref m9)]) rfl rfl (by decide) (by simp [lv_args, cat_rf, cat_i, cat_l, cat_a]) (by simp [lg_sl, cat_rf, cat_i, cat_l, cat_a]) (fun p e R s m args below meth c Q A C => ?_)
  have j_247 : ∀ (S : Sg) (x1 : Option Nat), f_statement_247 K V S x1 = some (Sf, rf) → WX p l e R s m args below meth c Q D A K m9 mr 2 S0 S 247 [(1, va_rf x1)] [] := by
    intro S x1 h
    unfold f_statement_247 at h
    refine x_aload_n C eX23_statement_247 rfl 0 rfl ?_
    exact x_aret C rfl (Or.inl ⟨_, rfl⟩) rfl eX23_statement_248 h
  have j_183 : ∀ (S : Sg) (x1 : Option Nat), f_statement_183 K V S x1 = some (Sf, rf) → WX p l e R s m args below meth c Q D A K m9 mr 2 S0 S 183 [(0, .ref m9), (1, va_rf x1)] [] := by
    intro S x1 h
    unfold f_statement_183 at h
    refine x_tload_n C eX23_statement_183 rfl 0 rfl ?_
    refine x_bipush (v := 60) C eX23_statement_184 (by decide) ?_
    refine x_cVv (As := [.int 60]) (st := []) (n := 1) (frc := 2) (loc := 42) C h (fun S9 r9 e9 => k_X23_take l D K m9 mr _ S9 60 r9 e9) ww_12 ww_25 ww_26 ww_27 ww_16 (by decide +kernel) rfl ⟨by omega, by omega⟩ (Nat.le_of_ble_eq_true rfl) eX23_statement_186 (fun S41 v42 h => ?_)
    refine x_goto (tgt := 247) C eX23_statement_189 (by decide) ?_
    refine x_sub [1] rfl ?_
    exact j_247 S41 x1 h
  unfold f_statement at h
  refine x_nO (ci := 19) (Cn := RX19) (T := TX19) (ty0 := tyX19) C rfl wt_X19 tyX19_ok ww_126 ww_130 ww_131 dv_X19 eX23_statement_0 h (fun S1 a2 h => ?_)
  refine x_dup C eX23_statement_3 (cat_rf (some a2)) ?_
  refine x_callIN (b := a2) (frc := 1) (loc := 20) C (k_X19_init l D K m9 mr S1 a2) ww_985 C.2.2.2.1.1.2.2.2.2.1 ww_131 ww_132 rfl (by decide +kernel) ⟨by omega, by omega⟩ (Nat.le_of_ble_eq_true rfl) eX23_statement_4 ?_
  refine x_astore_n (lv2 := [(0, .ref m9)]) C eX23_statement_7 rfl (by decide) rfl (oky rfl ok0) ?_
  refine x_aload_n C eX23_statement_8 rfl 0 rfl ?_
  refine x_tload_n C eX23_statement_9 rfl 1 rfl ?_
  refine x_mV (k9 := 10) C (by decide) ww_11 eX23_statement_10 rfl ?_
  refine x_pI (o9 := (some a2)) (ci := 19) (k9 := 1) (Cn := RX19) (T := TX19) (N := 14) C rfl wt_X19 tyX19_ok nmX19 (by decide) ww_133 rfl (by decide +kernel) eX23_statement_13 h (fun S5 h => ?_)
  refine x_tload_n C eX23_statement_16 rfl 1 rfl ?_
  refine x_mV (k9 := 5) C (by decide) ww_10 eX23_statement_17 rfl ?_
  refine x_tload_n C eX23_statement_20 rfl 1 rfl ?_
  refine x_mV (k9 := 10) C (by decide) ww_11 eX23_statement_21 rfl ?_
  refine x_rI (r := 5) C (by decide) rfl eX23_statement_24 h (fun v6 h => ?_)
  refine x_lookIn (v := 13) (off := 67) (tgt := 92) C eX23_statement_25 (by decide) (by decide) (by decide) h (fun h => ?_) (fun hq0 h => ?_)
  · refine x_tload_n C eX23_statement_92 rfl 1 rfl ?_
    refine x_aload_n C eX23_statement_93 rfl 0 rfl ?_
    refine x_cVv (As := [va_rf (some a2)]) (st := []) (n := 1) (frc := 846) (loc := 18608) C h (fun S9 r9 e9 => k_X23_let l D K m9 mr _ S9 (some a2) r9 e9) ww_152 ww_134 ww_135 ww_136 ww_16 (by decide +kernel) rfl ⟨by omega, by omega⟩ (Nat.le_of_ble_eq_true rfl) eX23_statement_94 (fun S7 v8 h => ?_)
    refine x_goto (tgt := 247) C eX23_statement_97 (by decide) ?_
    refine x_sub [0] rfl ?_
    exact j_247 S7 (some a2) h
  · refine x_lookIn (v := 15) (off := 75) (tgt := 100) C eX23_statement_25 (by decide) (by decide) (by decide) h (fun h => ?_) (fun hq1 h => ?_)
    · refine x_tload_n C eX23_statement_100 rfl 1 rfl ?_
      refine x_aload_n C eX23_statement_101 rfl 0 rfl ?_
      refine x_cVv (As := [va_rf (some a2)]) (st := []) (n := 1) (frc := 848 + 4 * d) (loc := 18653 + 91 * d) C h (fun S9 r9 e9 => k_X23_branch l D K m9 mr V d hV _ S9 (some a2) r9 e9) ww_163 ww_137 ww_138 ww_139 ww_16 (by decide +kernel) rfl ⟨by omega, by omega⟩ (Nat.le_of_ble_eq_true rfl) eX23_statement_102 (fun S9 v10 h => ?_)
      refine x_goto (tgt := 247) C eX23_statement_105 (by decide) ?_
      refine x_sub [0] rfl ?_
      exact j_247 S9 (some a2) h
    · refine x_lookIn (v := 17) (off := 83) (tgt := 108) C eX23_statement_25 (by decide) (by decide) (by decide) h (fun h => ?_) (fun hq2 h => ?_)
      · refine x_aload_n C eX23_statement_108 rfl 0 rfl ?_
        refine x_iconst (v := 4) C eX23_statement_109 (by decide) ?_
        refine x_pI (o9 := (some a2)) (ci := 19) (k9 := 0) (Cn := RX19) (T := TX19) (N := 14) C rfl wt_X19 tyX19_ok nmX19 (by decide) ww_140 rfl (by decide +kernel) eX23_statement_110 h (fun S11 h => ?_)
        refine x_tload_n C eX23_statement_113 rfl 1 rfl ?_
        refine x_dup C eX23_statement_114 rfl ?_
        refine x_mV (k9 := 10) C (by decide) ww_11 eX23_statement_115 rfl ?_
        refine x_iconst (v := 1) C eX23_statement_118 (by decide) ?_
        refine x_iadd C eX23_statement_119 ?_
        refine x_pM (k9 := 10) C (by decide) rfl (by decide) ww_11 rfl (by decide +kernel) eX23_statement_120 h (fun S12 h => ?_)
        refine x_aload_n C eX23_statement_123 rfl 0 rfl ?_
        refine x_tload_n C eX23_statement_124 rfl 1 rfl ?_
        refine x_cVr (As := []) (st := [va_rf (some a2)]) (n := 0) (frc := 5 + 6 * 140) (loc := 108 + 132 * 140) C h (fun S9 r9 e9 => k_X23_exp l D K m9 mr (f_chain9 K 140) (f_unary9 K 140) 140 (k_X23_chain9 l D K m9 mr 140).1 (k_X23_chain9 l D K m9 mr 140).2 _ S9 r9 e9) ww_193 ww_141 ww_142 ww_143 ww_16 (by decide +kernel) rfl ⟨by omega, by omega⟩ (Nat.le_of_ble_eq_true rfl) eX23_statement_125 (fun S13 v14 h => ?_)
        refine x_pR (o9 := (some a2)) (Cv := "OwnedPlacesModel$Exp") (ci := 19) (k9 := 6) (Cn := RX19) (T := TX19) (N := 14) C rfl wt_X19 tyX19_ok nmX19 (by decide) ww_144 rfl (by decide +kernel) eX23_statement_128 h (fun S15 h => ?_)
        refine x_aload_n C eX23_statement_131 rfl 0 rfl ?_
        refine x_tload_n C eX23_statement_132 rfl 1 rfl ?_
        refine x_cVr (As := []) (st := [va_rf (some a2)]) (n := 0) (frc := 847 + 4 * d) (loc := 18629 + 91 * d) C h (fun S9 r9 e9 => hV _ S9 r9 e9) ww_115 ww_96 ww_97 ww_98 ww_16 (by decide +kernel) rfl ⟨by omega, by omega⟩ (Nat.le_of_ble_eq_true rfl) eX23_statement_133 (fun S16 v17 h => ?_)
        refine x_pR (o9 := (some a2)) (Cv := "OwnedPlacesModel$Block") (ci := 19) (k9 := 9) (Cn := RX19) (T := TX19) (N := 14) C rfl wt_X19 tyX19_ok nmX19 (by decide) ww_145 rfl (by decide +kernel) eX23_statement_136 h (fun S18 h => ?_)
        refine x_goto (tgt := 247) C eX23_statement_139 (by decide) ?_
        refine x_sub [0] rfl ?_
        exact j_247 S18 (some a2) h
      · refine x_lookIn (v := 18) (off := 117) (tgt := 142) C eX23_statement_25 (by decide) (by decide) (by decide) h (fun h => ?_) (fun hq3 h => ?_)
        · refine x_tload_n C eX23_statement_142 rfl 1 rfl ?_
          refine x_aload_n C eX23_statement_143 rfl 0 rfl ?_
          refine x_cVv (As := [va_rf (some a2)]) (st := []) (n := 1) (frc := 849 + 4 * d) (loc := 18676 + 91 * d) C h (fun S9 r9 e9 => k_X23_match l D K m9 mr V d hV _ S9 (some a2) r9 e9) ww_172 ww_146 ww_147 ww_148 ww_16 (by decide +kernel) rfl ⟨by omega, by omega⟩ (Nat.le_of_ble_eq_true rfl) eX23_statement_144 (fun S19 v20 h => ?_)
          refine x_goto (tgt := 247) C eX23_statement_147 (by decide) ?_
          refine x_sub [0] rfl ?_
          exact j_247 S19 (some a2) h
        · refine x_lookIn (v := 19) (off := 125) (tgt := 150) C eX23_statement_25 (by decide) (by decide) (by decide) h (fun h => ?_) (fun hq4 h => ?_)
          · refine x_aload_n C eX23_statement_150 rfl 0 rfl ?_
            refine x_bipush (v := 6) C eX23_statement_151 (by decide) ?_
            refine x_pI (o9 := (some a2)) (ci := 19) (k9 := 0) (Cn := RX19) (T := TX19) (N := 14) C rfl wt_X19 tyX19_ok nmX19 (by decide) ww_140 rfl (by decide +kernel) eX23_statement_153 h (fun S21 h => ?_)
            refine x_tload_n C eX23_statement_156 rfl 1 rfl ?_
            refine x_dup C eX23_statement_157 rfl ?_
            refine x_mV (k9 := 10) C (by decide) ww_11 eX23_statement_158 rfl ?_
            refine x_iconst (v := 1) C eX23_statement_161 (by decide) ?_
            refine x_iadd C eX23_statement_162 ?_
            refine x_pM (k9 := 10) C (by decide) rfl (by decide) ww_11 rfl (by decide +kernel) eX23_statement_163 h (fun S22 h => ?_)
            refine x_tload_n C eX23_statement_166 rfl 1 rfl ?_
            refine x_bipush (v := 60) C eX23_statement_167 (by decide) ?_
            refine x_cVi (As := [.int 60]) (st := []) (n := 1) (frc := 1) (loc := 20) C h (fun S9 r9 e9 => k_X23_is l D K m9 mr _ S9 60 r9 e9) ww_9 ww_17 ww_18 ww_19 ww_16 (by decide +kernel) rfl ⟨by omega, by omega⟩ (Nat.le_of_ble_eq_true rfl) eX23_statement_169 (fun S23 v24 h => ?_)
            refine x_if_ne (tgt := 183) C eX23_statement_172 (by decide) h (fun h => ?_) (fun h => ?_)
            · refine x_sub [1, 0] rfl ?_
              exact j_183 S23 (some a2) h
            · refine x_aload_n C eX23_statement_175 rfl 0 rfl ?_
              refine x_tload_n C eX23_statement_176 rfl 1 rfl ?_
              refine x_cVr (As := []) (st := [va_rf (some a2)]) (n := 0) (frc := 5 + 6 * 140) (loc := 108 + 132 * 140) C h (fun S9 r9 e9 => k_X23_exp l D K m9 mr (f_chain9 K 140) (f_unary9 K 140) 140 (k_X23_chain9 l D K m9 mr 140).1 (k_X23_chain9 l D K m9 mr 140).2 _ S9 r9 e9) ww_193 ww_141 ww_142 ww_143 ww_16 (by decide +kernel) rfl ⟨by omega, by omega⟩ (Nat.le_of_ble_eq_true rfl) eX23_statement_177 (fun S25 v26 h => ?_)
              refine x_pR (o9 := (some a2)) (Cv := "OwnedPlacesModel$Exp") (ci := 19) (k9 := 6) (Cn := RX19) (T := TX19) (N := 14) C rfl wt_X19 tyX19_ok nmX19 (by decide) ww_144 rfl (by decide +kernel) eX23_statement_180 h (fun S27 h => ?_)
              refine x_sub [1, 0] rfl ?_
              exact j_183 S27 (some a2) h
          · refine x_lookIn (v := 20) (off := 167) (tgt := 192) C eX23_statement_25 (by decide) (by decide) (by decide) h (fun h => ?_) (fun hq5 h => ?_)
            · refine x_aload_n C eX23_statement_192 rfl 0 rfl ?_
              refine x_bipush (v := 7) C eX23_statement_193 (by decide) ?_
              refine x_pI (o9 := (some a2)) (ci := 19) (k9 := 0) (Cn := RX19) (T := TX19) (N := 14) C rfl wt_X19 tyX19_ok nmX19 (by decide) ww_140 rfl (by decide +kernel) eX23_statement_195 h (fun S28 h => ?_)
              refine x_tload_n C eX23_statement_198 rfl 1 rfl ?_
              refine x_dup C eX23_statement_199 rfl ?_
              refine x_mV (k9 := 10) C (by decide) ww_11 eX23_statement_200 rfl ?_
              refine x_iconst (v := 1) C eX23_statement_203 (by decide) ?_
              refine x_iadd C eX23_statement_204 ?_
              refine x_pM (k9 := 10) C (by decide) rfl (by decide) ww_11 rfl (by decide +kernel) eX23_statement_205 h (fun S29 h => ?_)
              refine x_aload_n C eX23_statement_208 rfl 0 rfl ?_
              refine x_tload_n C eX23_statement_209 rfl 1 rfl ?_
              refine x_cVr (As := []) (st := [va_rf (some a2)]) (n := 0) (frc := 5 + 6 * 140) (loc := 108 + 132 * 140) C h (fun S9 r9 e9 => k_X23_exp l D K m9 mr (f_chain9 K 140) (f_unary9 K 140) 140 (k_X23_chain9 l D K m9 mr 140).1 (k_X23_chain9 l D K m9 mr 140).2 _ S9 r9 e9) ww_193 ww_141 ww_142 ww_143 ww_16 (by decide +kernel) rfl ⟨by omega, by omega⟩ (Nat.le_of_ble_eq_true rfl) eX23_statement_210 (fun S30 v31 h => ?_)
              refine x_pR (o9 := (some a2)) (Cv := "OwnedPlacesModel$Exp") (ci := 19) (k9 := 6) (Cn := RX19) (T := TX19) (N := 14) C rfl wt_X19 tyX19_ok nmX19 (by decide) ww_144 rfl (by decide +kernel) eX23_statement_213 h (fun S32 h => ?_)
              refine x_tload_n C eX23_statement_216 rfl 1 rfl ?_
              refine x_bipush (v := 60) C eX23_statement_217 (by decide) ?_
              refine x_cVv (As := [.int 60]) (st := []) (n := 1) (frc := 2) (loc := 42) C h (fun S9 r9 e9 => k_X23_take l D K m9 mr _ S9 60 r9 e9) ww_12 ww_25 ww_26 ww_27 ww_16 (by decide +kernel) rfl ⟨by omega, by omega⟩ (Nat.le_of_ble_eq_true rfl) eX23_statement_219 (fun S33 v34 h => ?_)
              refine x_goto (tgt := 247) C eX23_statement_222 (by decide) ?_
              refine x_sub [0] rfl ?_
              exact j_247 S33 (some a2) h
            · refine x_lookIn (v := 63) (off := 200) (tgt := 225) C eX23_statement_25 (by decide) (by decide) (by decide) h (fun h => ?_) (fun hq6 h => ?_)
              · refine x_aload_n C eX23_statement_225 rfl 0 rfl ?_
                refine x_bipush (v := 8) C eX23_statement_226 (by decide) ?_
                refine x_pI (o9 := (some a2)) (ci := 19) (k9 := 0) (Cn := RX19) (T := TX19) (N := 14) C rfl wt_X19 tyX19_ok nmX19 (by decide) ww_140 rfl (by decide +kernel) eX23_statement_228 h (fun S35 h => ?_)
                refine x_aload_n C eX23_statement_231 rfl 0 rfl ?_
                refine x_tload_n C eX23_statement_232 rfl 1 rfl ?_
                refine x_cVr (As := []) (st := [va_rf (some a2)]) (n := 0) (frc := 847 + 4 * d) (loc := 18629 + 91 * d) C h (fun S9 r9 e9 => hV _ S9 r9 e9) ww_115 ww_96 ww_97 ww_98 ww_16 (by decide +kernel) rfl ⟨by omega, by omega⟩ (Nat.le_of_ble_eq_true rfl) eX23_statement_233 (fun S36 v37 h => ?_)
                refine x_pR (o9 := (some a2)) (Cv := "OwnedPlacesModel$Block") (ci := 19) (k9 := 9) (Cn := RX19) (T := TX19) (N := 14) C rfl wt_X19 tyX19_ok nmX19 (by decide) ww_145 rfl (by decide +kernel) eX23_statement_236 h (fun S38 h => ?_)
                refine x_goto (tgt := 247) C eX23_statement_239 (by decide) ?_
                refine x_sub [0] rfl ?_
                exact j_247 S38 (some a2) h
              · have hq0i : (v6 : Int32).toInt ≠ 13 := fun q9 => hq0 (Int32.toInt_inj.mp q9)
                have hq1i : (v6 : Int32).toInt ≠ 15 := fun q9 => hq1 (Int32.toInt_inj.mp q9)
                have hq2i : (v6 : Int32).toInt ≠ 17 := fun q9 => hq2 (Int32.toInt_inj.mp q9)
                have hq3i : (v6 : Int32).toInt ≠ 18 := fun q9 => hq3 (Int32.toInt_inj.mp q9)
                have hq4i : (v6 : Int32).toInt ≠ 19 := fun q9 => hq4 (Int32.toInt_inj.mp q9)
                have hq5i : (v6 : Int32).toInt ≠ 20 := fun q9 => hq5 (Int32.toInt_inj.mp q9)
                have hq6i : (v6 : Int32).toInt ≠ 63 := fun q9 => hq6 (Int32.toInt_inj.mp q9)
                refine x_lookOut (tgt := 242) C eX23_statement_25 (by decide) (by simp [Op.lookupswitch.offset, hq0i, hq1i, hq2i, hq3i, hq4i, hq5i, hq6i, Ne.symm hq0i, Ne.symm hq1i, Ne.symm hq2i, Ne.symm hq3i, Ne.symm hq4i, Ne.symm hq5i, Ne.symm hq6i]) (by decide) ?_
                refine x_tload_n C eX23_statement_242 rfl 1 rfl ?_
                refine x_aload_n C eX23_statement_243 rfl 0 rfl ?_
                refine x_cVv (As := [va_rf (some a2)]) (st := []) (n := 1) (frc := 846) (loc := 18608) C h (fun S9 r9 e9 => k_X23_plain l D K m9 mr _ S9 (some a2) r9 e9) ww_159 ww_149 ww_150 ww_151 ww_16 (by decide +kernel) rfl ⟨by omega, by omega⟩ (Nat.le_of_ble_eq_true rfl) eX23_statement_244 (fun S39 v40 h => ?_)
                refine x_sub [0] rfl ?_
                exact j_247 S39 (some a2) h
set_option maxRecDepth 20000 in
set_option maxHeartbeats 4000000 in
theorem k_X23_block (l : Launch) (D : va_G) (K : Ky) (m9 : Nat) (mr : Nat → Nat) : ∀ (d : Nat) (S0 Sf : Sg) (rf : Option Nat), f_block K d S0 = some (Sf, rf) → CT l D K m9 mr yX23_block (Cond.code yX23_block cX23_block 5 (some (.object "OwnedPlacesModel$Block"))) (847 + 4 * d) (18629 + 91 * d) S0 Sf [.ref m9] (some (va_rf rf)) := by
  intro d
  induction d with
  | zero => intro S0 Sf rf h; unfold f_block at h; cases h
  | succ d ih =>
    intro S0 Sf rf h
    refine x_start (cc := cX23_block) (lv := [(0, .ref m9)]) rfl rfl (by decide) (by simp [lv_args, cat_rf, cat_i, cat_l, cat_a]) (by simp [lg_sl, cat_rf, cat_i, cat_l, cat_a]) (fun p e R s m args below meth c Q A C => ?_)
    have j_161 : ∀ (S : Sg) (x1 : Option Nat), f_block_161 K (f_block K d) S x1 = some (Sf, rf) → WX p l e R s m args below meth c Q D A K m9 mr 5 S0 S 161 [(0, .ref m9), (1, va_rf x1)] [] := by
      intro S x1 h
      unfold f_block_161 at h
      refine x_tload_n C eX23_block_161 rfl 0 rfl ?_
      refine x_dup C eX23_block_162 rfl ?_
      refine x_mV (k9 := 15) C (by decide) ww_29 eX23_block_163 rfl ?_
      refine x_iconst (v := 1) C eX23_block_166 (by decide) ?_
      refine x_isub C eX23_block_167 ?_
      refine x_pM (k9 := 15) C (by decide) rfl (by decide) ww_29 rfl (by decide +kernel) eX23_block_168 h (fun S37 h => ?_)
      refine x_aload_n C eX23_block_171 rfl 1 rfl ?_
      refine x_tload_n C eX23_block_172 rfl 0 rfl ?_
      refine x_mV (k9 := 10) C (by decide) ww_11 eX23_block_173 rfl ?_
      refine x_pI (o9 := x1) (ci := 14) (k9 := 1) (Cn := RX14) (T := TX14) (N := 4) C rfl wt_X14 tyX14_ok nmX14 (by decide) ww_127 rfl (by decide +kernel) eX23_block_176 h (fun S38 h => ?_)
      refine x_tload_n C eX23_block_179 rfl 0 rfl ?_
      refine x_bipush (v := 64) C eX23_block_180 (by decide) ?_
      refine x_cVv (As := [.int 64]) (st := []) (n := 1) (frc := 2) (loc := 42) C h (fun S9 r9 e9 => k_X23_take l D K m9 mr _ S9 64 r9 e9) ww_12 ww_25 ww_26 ww_27 ww_16 (by decide +kernel) rfl ⟨by omega, by omega⟩ (Nat.le_of_ble_eq_true rfl) eX23_block_182 (fun S39 v40 h => ?_)
      refine x_aload_n C eX23_block_185 rfl 1 rfl ?_
      exact x_aret C rfl (Or.inl ⟨_, rfl⟩) rfl eX23_block_186 h
    have j_61 : ∀ (n_61 : Nat) (S : Sg) (x1 : Option Nat), f_block_61 K (f_block K d) n_61 S x1 = some (Sf, rf) → WX p l e R s m args below meth c Q D A K m9 mr 5 S0 S 61 [(0, .ref m9), (1, va_rf x1)] [] := by
      intro n_61
      induction n_61 with
      | zero => intro S x1 h; unfold f_block_61 at h; cases h
      | succ n_61 ih_61 =>
        intro S x1 h
        have j_138 : ∀ (S : Sg) (x1 : Option Nat) (x2 : Option Nat), f_block_138 K (f_block K d) (f_block_61 K (f_block K d) n_61) S x1 x2 = some (Sf, rf) → WX p l e R s m args below meth c Q D A K m9 mr 5 S0 S 138 [(0, .ref m9), (1, va_rf x1), (2, va_rf x2)] [] := by
          intro S x1 x2 h
          unfold f_block_138 at h
          refine x_aload_n C eX23_block_138 rfl 1 rfl ?_
          refine x_gR (o9 := x1) (ci := 14) (k9 := 2) (Cn := RX14) (T := TX14) (N := 4) C rfl wt_X14 (by decide) ww_125 eX23_block_139 h (fun v32 h => ?_)
          refine x_aload_n C eX23_block_142 rfl 1 rfl ?_
          refine x_gI (o9 := x1) (ci := 14) (k9 := 3) (Cn := RX14) (T := TX14) (N := 4) C rfl wt_X14 (by decide) ww_124 eX23_block_143 h (fun v33 h => ?_)
          refine x_aload_n C eX23_block_146 rfl 2 rfl ?_
          refine x_bQ (t9 := 11) (ci := 19) C rfl rfl eX23_block_147 h (fun S34 h => ?_)
          refine x_aload_n C eX23_block_148 rfl 1 rfl ?_
          refine x_dup C eX23_block_149 (cat_rf x1) ?_
          refine x_gI (o9 := x1) (ci := 14) (k9 := 3) (Cn := RX14) (T := TX14) (N := 4) C rfl wt_X14 (by decide) ww_124 eX23_block_150 h (fun v35 h => ?_)
          refine x_iconst (v := 1) C eX23_block_153 (by decide) ?_
          refine x_iadd C eX23_block_154 ?_
          refine x_pI (o9 := x1) (ci := 14) (k9 := 3) (Cn := RX14) (T := TX14) (N := 4) C rfl wt_X14 tyX14_ok nmX14 (by decide) ww_124 rfl (by decide +kernel) eX23_block_155 h (fun S36 h => ?_)
          refine x_goto (tgt := 61) C eX23_block_158 (by decide) ?_
          refine x_sub [0, 1] rfl ?_
          exact ih_61 S36 x1 h
        have j_107 : ∀ (n_107 : Nat) (S : Sg) (x1 : Option Nat) (x2 : Option Nat) (x3 : Option Nat) (x4 : Int32), f_block_107 K (f_block K d) (f_block_61 K (f_block K d) n_61) n_107 S x1 x2 x3 x4 = some (Sf, rf) → WX p l e R s m args below meth c Q D A K m9 mr 5 S0 S 107 [(0, .ref m9), (1, va_rf x1), (2, va_rf x2), (3, va_rf x3), (4, .int x4)] [] := by
          intro n_107
          induction n_107 with
          | zero => intro S x1 x2 x3 x4 h; unfold f_block_107 at h; cases h
          | succ n_107 ih_107 =>
            intro S x1 x2 x3 x4 h
            unfold f_block_107 at h
            refine x_iload C eX23_block_107 4 rfl ?_
            refine x_aload_n C eX23_block_109 rfl 1 rfl ?_
            refine x_gI (o9 := x1) (ci := 14) (k9 := 3) (Cn := RX14) (T := TX14) (N := 4) C rfl wt_X14 (by decide) ww_124 eX23_block_110 h (fun v27 h => ?_)
            refine x_ic_ge (tgt := 133) C eX23_block_113 (by decide) h (fun h => ?_) (fun h => ?_)
            · refine x_aload_n C eX23_block_133 rfl 1 rfl ?_
              refine x_aload_n C eX23_block_134 rfl 3 rfl ?_
              refine x_pA (o9 := x1) (tA := (.object "OwnedPlacesModel$Statement")) (ci := 14) (k9 := 2) (Cn := RX14) (T := TX14) (N := 4) C rfl wt_X14 tyX14_ok nmX14 (by decide) ww_125 rfl (by decide +kernel) eX23_block_135 h (fun S28 h => ?_)
              refine x_sub [0, 1, 2] rfl ?_
              exact j_138 S28 x1 x2 h
            · refine x_aload_n C eX23_block_116 rfl 3 rfl ?_
              refine x_iload C eX23_block_117 4 rfl ?_
              refine x_aload_n C eX23_block_119 rfl 1 rfl ?_
              refine x_gR (o9 := x1) (ci := 14) (k9 := 2) (Cn := RX14) (T := TX14) (N := 4) C rfl wt_X14 (by decide) ww_125 eX23_block_120 h (fun v29 h => ?_)
              refine x_iload C eX23_block_123 4 rfl ?_
              refine x_aQ (t9 := 11) C rfl eX23_block_125 h (fun v30 h => ?_)
              refine x_bQ (t9 := 11) (ci := 19) C rfl rfl eX23_block_126 h (fun S31 h => ?_)
              refine x_iinc (j := 4) (v := 1) (lv2 := [(0, .ref m9), (1, va_rf x1), (2, va_rf x2), (3, va_rf x3)]) C eX23_block_127 rfl (by decide) (by decide) rfl (oky rfl (oky (cat_rf x1) (oky (cat_rf x2) (oky (cat_rf x3) ok0)))) ?_
              refine x_goto (tgt := 107) C eX23_block_130 (by decide) ?_
              refine x_sub [1, 2, 3, 4, 0] rfl ?_
              exact ih_107 S31 x1 x2 x3 (x4 + 1) h
        unfold f_block_61 at h
        refine x_tload_n C eX23_block_61 rfl 0 rfl ?_
        refine x_cVi (As := []) (st := []) (n := 0) (frc := 1) (loc := 20) C h (fun S9 r9 e9 => k_X23_ok l D K m9 mr _ S9 r9 e9) ww_0 ww_13 ww_14 ww_15 ww_16 (by decide +kernel) rfl ⟨by omega, by omega⟩ (Nat.le_of_ble_eq_true rfl) eX23_block_62 (fun S15 v16 h => ?_)
        refine x_if_eq (tgt := 161) C eX23_block_65 (by decide) h (fun h => ?_) (fun h => ?_)
        · refine x_sub [0, 1] rfl ?_
          exact j_161 S15 x1 h
        · refine x_tload_n C eX23_block_68 rfl 0 rfl ?_
          refine x_bipush (v := 64) C eX23_block_69 (by decide) ?_
          refine x_cVi (As := [.int 64]) (st := []) (n := 1) (frc := 1) (loc := 20) C h (fun S9 r9 e9 => k_X23_is l D K m9 mr _ S9 64 r9 e9) ww_9 ww_17 ww_18 ww_19 ww_16 (by decide +kernel) rfl ⟨by omega, by omega⟩ (Nat.le_of_ble_eq_true rfl) eX23_block_71 (fun S17 v18 h => ?_)
          refine x_if_ne (tgt := 161) C eX23_block_74 (by decide) h (fun h => ?_) (fun h => ?_)
          · refine x_sub [0, 1] rfl ?_
            exact j_161 S17 x1 h
          · refine x_tload_n C eX23_block_77 rfl 0 rfl ?_
            refine x_cVr (As := []) (st := []) (n := 0) (frc := 850 + 4 * d) (loc := 18699 + 91 * d) C h (fun S9 r9 e9 => k_X23_statement l D K m9 mr (f_block K d) d ih _ S9 r9 e9) ww_129 ww_121 ww_122 ww_123 ww_16 (by decide +kernel) rfl ⟨by omega, by omega⟩ (Nat.le_of_ble_eq_true rfl) eX23_block_78 (fun S19 v20 h => ?_)
            refine x_astore_n (lv2 := [(0, .ref m9), (1, va_rf x1)]) C eX23_block_81 rfl (by decide) rfl (oky rfl (oky (cat_rf x1) ok0)) ?_
            refine x_aload_n C eX23_block_82 rfl 2 rfl ?_
            refine x_gI (o9 := x1) (ci := 14) (k9 := 3) (Cn := RX14) (T := TX14) (N := 4) C rfl wt_X14 (by decide) ww_124 eX23_block_83 h (fun v21 h => ?_)
            refine x_aload_n C eX23_block_86 rfl 2 rfl ?_
            refine x_gR (o9 := x1) (ci := 14) (k9 := 2) (Cn := RX14) (T := TX14) (N := 4) C rfl wt_X14 (by decide) ww_125 eX23_block_87 h (fun v22 h => ?_)
            refine x_aLn (t9 := 11) C rfl eX23_block_90 h (fun v23 h => ?_)
            refine x_ic_ne (tgt := 138) C eX23_block_91 (by decide) h (fun h => ?_) (fun h => ?_)
            · refine x_sub [1, 2, 0] rfl ?_
              exact j_138 S19 x1 v20 h
            · refine x_iconst (v := 2) C eX23_block_94 (by decide) ?_
              refine x_aload_n C eX23_block_95 rfl 2 rfl ?_
              refine x_gI (o9 := x1) (ci := 14) (k9 := 3) (Cn := RX14) (T := TX14) (N := 4) C rfl wt_X14 (by decide) ww_124 eX23_block_96 h (fun v24 h => ?_)
              refine x_imul C eX23_block_99 ?_
              refine x_nQ (t9 := 11) C rfl C.2.2.2.1.2.2.1 ww_126 eX23_block_100 h (fun S25 a26 h => ?_)
              refine x_astore_n (lv2 := [(2, va_rf v20), (0, .ref m9), (1, va_rf x1)]) C eX23_block_103 rfl (by decide) rfl (oky (cat_rf v20) (oky rfl (oky (cat_rf x1) ok0))) ?_
              refine x_iconst (v := 0) C eX23_block_104 (by decide) ?_
              refine x_istore (lv2 := [(3, va_rf (some a26)), (2, va_rf v20), (0, .ref m9), (1, va_rf x1)]) C eX23_block_105 (by decide) rfl (oky (cat_rf (some a26)) (oky (cat_rf v20) (oky rfl (oky (cat_rf x1) ok0)))) ?_
              refine x_sub [3, 4, 2, 1, 0] rfl ?_
              exact j_107 bigN S25 x1 v20 (some a26) 0 h
    have j_55 : ∀ (S : Sg) (x1 : Option Nat), f_block_55 K (f_block K d) S x1 = some (Sf, rf) → WX p l e R s m args below meth c Q D A K m9 mr 5 S0 S 55 [(0, .ref m9), (1, va_rf x1)] [] := by
      intro S x1 h
      unfold f_block_55 at h
      refine x_tload_n C eX23_block_55 rfl 0 rfl ?_
      refine x_bipush (v := 63) C eX23_block_56 (by decide) ?_
      refine x_cVv (As := [.int 63]) (st := []) (n := 1) (frc := 2) (loc := 42) C h (fun S9 r9 e9 => k_X23_take l D K m9 mr _ S9 63 r9 e9) ww_12 ww_25 ww_26 ww_27 ww_16 (by decide +kernel) rfl ⟨by omega, by omega⟩ (Nat.le_of_ble_eq_true rfl) eX23_block_58 (fun S13 v14 h => ?_)
      refine x_sub [0, 1] rfl ?_
      exact j_61 bigN S13 x1 h
    unfold f_block at h
    refine x_nO (ci := 14) (Cn := RX14) (T := TX14) (ty0 := tyX14) C rfl wt_X14 tyX14_ok ww_116 ww_117 ww_118 dv_X14 eX23_block_0 h (fun S1 a2 h => ?_)
    refine x_dup C eX23_block_3 (cat_rf (some a2)) ?_
    refine x_callIM (b := a2) (st := [va_rf (some a2)]) (frc := 1) (loc := 20) C h (fun S9 e9 => k_X14_init l D K m9 mr S1 S9 a2 () e9) ww_974 C.2.2.2.1.1.2.2.2.1 ww_118 ww_119 rfl (by decide +kernel) ⟨by omega, by omega⟩ (Nat.le_of_ble_eq_true rfl) eX23_block_4 (fun S3 h => ?_)
    refine x_astore_n (lv2 := [(0, .ref m9)]) C eX23_block_7 rfl (by decide) rfl (oky rfl ok0) ?_
    refine x_tload_n C eX23_block_8 rfl 1 rfl ?_
    refine x_cVi (As := []) (st := []) (n := 0) (frc := 1) (loc := 20) C h (fun S9 r9 e9 => k_X23_ok l D K m9 mr _ S9 r9 e9) ww_0 ww_13 ww_14 ww_15 ww_16 (by decide +kernel) rfl ⟨by omega, by omega⟩ (Nat.le_of_ble_eq_true rfl) eX23_block_9 (fun S5 v6 h => ?_)
    refine x_if_ne (tgt := 17) C eX23_block_12 (by decide) h (fun h => ?_) (fun h => ?_)
    · refine x_aload_n C eX23_block_17 rfl 0 rfl ?_
      refine x_tload_n C eX23_block_18 rfl 1 rfl ?_
      refine x_mV (k9 := 10) C (by decide) ww_11 eX23_block_19 rfl ?_
      refine x_pI (o9 := (some a2)) (ci := 14) (k9 := 0) (Cn := RX14) (T := TX14) (N := 4) C rfl wt_X14 tyX14_ok nmX14 (by decide) ww_120 rfl (by decide +kernel) eX23_block_22 h (fun S7 h => ?_)
      refine x_tload_n C eX23_block_25 rfl 1 rfl ?_
      refine x_bipush (v := 63) C eX23_block_26 (by decide) ?_
      refine x_cVi (As := [.int 63]) (st := []) (n := 1) (frc := 1) (loc := 20) C h (fun S9 r9 e9 => k_X23_is l D K m9 mr _ S9 63 r9 e9) ww_9 ww_17 ww_18 ww_19 ww_16 (by decide +kernel) rfl ⟨by omega, by omega⟩ (Nat.le_of_ble_eq_true rfl) eX23_block_28 (fun S8 v9 h => ?_)
      refine x_if_eq (tgt := 45) C eX23_block_31 (by decide) h (fun h => ?_) (fun h => ?_)
      · refine x_tload_n C eX23_block_45 rfl 1 rfl ?_
        refine x_dup C eX23_block_46 rfl ?_
        refine x_mV (k9 := 15) C (by decide) ww_29 eX23_block_47 rfl ?_
        refine x_iconst (v := 1) C eX23_block_50 (by decide) ?_
        refine x_iadd C eX23_block_51 ?_
        refine x_pM (k9 := 15) C (by decide) rfl (by decide) ww_29 rfl (by decide +kernel) eX23_block_52 h (fun S10 h => ?_)
        refine x_sub [1, 0] rfl ?_
        exact j_55 S10 (some a2) h
      · refine x_tload_n C eX23_block_34 rfl 1 rfl ?_
        refine x_tload_n C eX23_block_35 rfl 1 rfl ?_
        refine x_mV (k9 := 10) C (by decide) ww_11 eX23_block_36 rfl ?_
        refine x_cVv (As := [.int (Zi S8 10)]) (st := []) (n := 1) (frc := 2) (loc := 42) C h (fun S9 r9 e9 => k_X23_enter l D K m9 mr _ S9 (Zi S8 10) r9 e9) ww_28 ww_38 ww_39 ww_40 ww_16 (by decide +kernel) rfl ⟨by omega, by omega⟩ (Nat.le_of_ble_eq_true rfl) eX23_block_39 (fun S11 v12 h => ?_)
        refine x_goto (tgt := 55) C eX23_block_42 (by decide) ?_
        refine x_sub [1, 0] rfl ?_
        exact j_55 S11 (some a2) h
    · refine x_aload_n C eX23_block_15 rfl 0 rfl ?_
      exact x_aret C rfl (Or.inl ⟨_, rfl⟩) rfl eX23_block_16 h
set_option maxRecDepth 20000 in
set_option maxHeartbeats 4000000 in
theorem k_X23_function (l : Launch) (D : va_G) (K : Ky) (m9 : Nat) (mr : Nat → Nat) (S0 Sf : Sg) (x1 : Option Nat) (rf : Unit) (h : f_function K S0 x1 = some (Sf, rf)) : CT l D K m9 mr yX23_function (Cond.code yX23_function cX23_function 3 none) (928) (20473) S0 Sf [.ref m9, va_rf x1] none := by
  refine x_start (cc := cX23_function) (lv := [(0, .ref m9), (1, va_rf x1)]) rfl rfl (by decide) (by simp [lv_args, cat_rf, cat_i, cat_l, cat_a]) (by simp [lg_sl, cat_rf, cat_i, cat_l, cat_a]) (fun p e R s m args below meth c Q A C => ?_)
  have j_194 : ∀ (S : Sg) (x1 : Option Nat), f_function_194 K S x1 = some (Sf, rf) → WX p l e R s m args below meth c Q D A K m9 mr 3 S0 S 194 [(0, .ref m9), (1, va_rf x1)] [] := by
    intro S x1 h
    unfold f_function_194 at h
    refine x_aload_n C eX23_function_194 rfl 1 rfl ?_
    refine x_tload_n C eX23_function_195 rfl 0 rfl ?_
    refine x_cVr (As := []) (st := [va_rf x1]) (n := 0) (frc := 847 + 4 * 20) (loc := 18629 + 91 * 20) C h (fun S9 r9 e9 => k_X23_block l D K m9 mr 20 _ S9 r9 e9) ww_115 ww_96 ww_97 ww_98 ww_16 (by decide +kernel) rfl ⟨by omega, by omega⟩ (Nat.le_of_ble_eq_true rfl) eX23_function_196 (fun S48 v49 h => ?_)
    refine x_pR (o9 := x1) (Cv := "OwnedPlacesModel$Block") (ci := 16) (k9 := 16) (Cn := RX16) (T := TX16) (N := 22) C rfl wt_X16 tyX16_ok nmX16 (by decide) ww_99 rfl (by decide +kernel) eX23_function_199 h (fun S50 h => ?_)
    refine x_aload_n C eX23_function_202 rfl 1 rfl ?_
    refine x_tload_n C eX23_function_203 rfl 0 rfl ?_
    refine x_mV (k9 := 16) C (by decide) ww_93 eX23_function_204 rfl ?_
    refine x_pI (o9 := x1) (ci := 16) (k9 := 18) (Cn := RX16) (T := TX16) (N := 22) C rfl wt_X16 tyX16_ok nmX16 (by decide) ww_100 rfl (by decide +kernel) eX23_function_207 h (fun S51 h => ?_)
    exact x_vret C rfl rfl eX23_function_210 h
  have j_177 : ∀ (S : Sg) (x1 : Option Nat), f_function_177 K S x1 = some (Sf, rf) → WX p l e R s m args below meth c Q D A K m9 mr 3 S0 S 177 [(0, .ref m9), (1, va_rf x1)] [] := by
    intro S x1 h
    unfold f_function_177 at h
    refine x_tload_n C eX23_function_177 rfl 0 rfl ?_
    refine x_bipush (v := 65) C eX23_function_178 (by decide) ?_
    refine x_cVi (As := [.int 65]) (st := []) (n := 1) (frc := 2) (loc := 41) C h (fun S9 r9 e9 => k_X23_takes l D K m9 mr _ S9 65 r9 e9) ww_23 ww_42 ww_43 ww_44 ww_16 (by decide +kernel) rfl ⟨by omega, by omega⟩ (Nat.le_of_ble_eq_true rfl) eX23_function_180 (fun S43 v44 h => ?_)
    refine x_if_eq (tgt := 194) C eX23_function_183 (by decide) h (fun h => ?_) (fun h => ?_)
    · refine x_sub [0, 1] rfl ?_
      exact j_194 S43 x1 h
    · refine x_aload_n C eX23_function_186 rfl 1 rfl ?_
      refine x_tload_n C eX23_function_187 rfl 0 rfl ?_
      refine x_cVr (As := []) (st := [va_rf x1]) (n := 0) (frc := 3 + 1 * 20) (loc := 63 + 22 * 20) C h (fun S9 r9 e9 => k_X23_written l D K m9 mr 20 _ S9 r9 e9) ww_31 ww_46 ww_47 ww_48 ww_16 (by decide +kernel) rfl ⟨by omega, by omega⟩ (Nat.le_of_ble_eq_true rfl) eX23_function_188 (fun S45 v46 h => ?_)
      refine x_pR (o9 := x1) (Cv := "OwnedPlacesModel$Written") (ci := 16) (k9 := 14) (Cn := RX16) (T := TX16) (N := 22) C rfl wt_X16 tyX16_ok nmX16 (by decide) ww_95 rfl (by decide +kernel) eX23_function_191 h (fun S47 h => ?_)
      refine x_sub [0, 1] rfl ?_
      exact j_194 S47 x1 h
  have j_171 : ∀ (S : Sg) (x1 : Option Nat), f_function_171 K S x1 = some (Sf, rf) → WX p l e R s m args below meth c Q D A K m9 mr 3 S0 S 171 [(0, .ref m9), (1, va_rf x1)] [] := by
    intro S x1 h
    unfold f_function_171 at h
    refine x_tload_n C eX23_function_171 rfl 0 rfl ?_
    refine x_bipush (v := 62) C eX23_function_172 (by decide) ?_
    refine x_cVv (As := [.int 62]) (st := []) (n := 1) (frc := 2) (loc := 42) C h (fun S9 r9 e9 => k_X23_take l D K m9 mr _ S9 62 r9 e9) ww_12 ww_25 ww_26 ww_27 ww_16 (by decide +kernel) rfl ⟨by omega, by omega⟩ (Nat.le_of_ble_eq_true rfl) eX23_function_174 (fun S41 v42 h => ?_)
    refine x_sub [0, 1] rfl ?_
    exact j_177 S41 x1 h
  have j_135 : ∀ (n_135 : Nat) (S : Sg) (x1 : Option Nat) (x2 : Int32), f_function_135 K n_135 S x1 x2 = some (Sf, rf) → WX p l e R s m args below meth c Q D A K m9 mr 3 S0 S 135 [(0, .ref m9), (1, va_rf x1), (2, .int x2)] [] := by
    intro n_135
    induction n_135 with
    | zero => intro S x1 x2 h; unfold f_function_135 at h; cases h
    | succ n_135 ih_135 =>
      intro S x1 x2 h
      unfold f_function_135 at h
      refine x_tload_n C eX23_function_135 rfl 0 rfl ?_
      refine x_cVi (As := []) (st := []) (n := 0) (frc := 1) (loc := 20) C h (fun S9 r9 e9 => k_X23_ok l D K m9 mr _ S9 r9 e9) ww_0 ww_13 ww_14 ww_15 ww_16 (by decide +kernel) rfl ⟨by omega, by omega⟩ (Nat.le_of_ble_eq_true rfl) eX23_function_136 (fun S34 v35 h => ?_)
      refine x_if_eq (tgt := 171) C eX23_function_139 (by decide) h (fun h => ?_) (fun h => ?_)
      · refine x_sub [0, 1] rfl ?_
        exact j_171 S34 x1 h
      · refine x_iload_n C eX23_function_142 rfl 2 rfl ?_
        refine x_if_eq (tgt := 171) C eX23_function_143 (by decide) h (fun h => ?_) (fun h => ?_)
        · refine x_sub [0, 1] rfl ?_
          exact j_171 S34 x1 h
        · refine x_tload_n C eX23_function_146 rfl 0 rfl ?_
          refine x_aload_n C eX23_function_147 rfl 1 rfl ?_
          refine x_cVv (As := [va_rf x1]) (st := []) (n := 1) (frc := 24) (loc := 525) C h (fun S9 r9 e9 => k_X23_fields l D K m9 mr _ S9 x1 r9 e9) ww_50 ww_75 ww_76 ww_77 ww_16 (by decide +kernel) rfl ⟨by omega, by omega⟩ (Nat.le_of_ble_eq_true rfl) eX23_function_148 (fun S36 v37 h => ?_)
          refine x_tload_n C eX23_function_151 rfl 0 rfl ?_
          refine x_dup C eX23_function_152 rfl ?_
          refine x_mV (k9 := 16) C (by decide) ww_93 eX23_function_153 rfl ?_
          refine x_iconst (v := 1) C eX23_function_156 (by decide) ?_
          refine x_iadd C eX23_function_157 ?_
          refine x_pM (k9 := 16) C (by decide) rfl (by decide) ww_93 rfl (by decide +kernel) eX23_function_158 h (fun S38 h => ?_)
          refine x_tload_n C eX23_function_161 rfl 0 rfl ?_
          refine x_bipush (v := 57) C eX23_function_162 (by decide) ?_
          refine x_cVi (As := [.int 57]) (st := []) (n := 1) (frc := 2) (loc := 41) C h (fun S9 r9 e9 => k_X23_takes l D K m9 mr _ S9 57 r9 e9) ww_23 ww_42 ww_43 ww_44 ww_16 (by decide +kernel) rfl ⟨by omega, by omega⟩ (Nat.le_of_ble_eq_true rfl) eX23_function_164 (fun S39 v40 h => ?_)
          refine x_istore_n (lv2 := [(0, .ref m9), (1, va_rf x1)]) C eX23_function_167 rfl (by decide) rfl (oky rfl (oky (cat_rf x1) ok0)) ?_
          refine x_goto (tgt := 135) C eX23_function_168 (by decide) ?_
          refine x_sub [1, 2, 0] rfl ?_
          exact ih_135 S39 x1 v40 h
  have j_103 : ∀ (S : Sg) (x1 : Option Nat), f_function_103 K S x1 = some (Sf, rf) → WX p l e R s m args below meth c Q D A K m9 mr 3 S0 S 103 [(0, .ref m9), (1, va_rf x1)] [] := by
    intro S x1 h
    unfold f_function_103 at h
    refine x_tload_n C eX23_function_103 rfl 0 rfl ?_
    refine x_iconst (v := 0) C eX23_function_104 (by decide) ?_
    refine x_pM (k9 := 15) C (by decide) rfl (by decide) ww_29 rfl (by decide +kernel) eX23_function_105 h (fun S27 h => ?_)
    refine x_tload_n C eX23_function_108 rfl 0 rfl ?_
    refine x_iconst (v := 0) C eX23_function_109 (by decide) ?_
    refine x_pM (k9 := 16) C (by decide) rfl (by decide) ww_93 rfl (by decide +kernel) eX23_function_110 h (fun S28 h => ?_)
    refine x_tload_n C eX23_function_113 rfl 0 rfl ?_
    refine x_iconst (v := 0) C eX23_function_114 (by decide) ?_
    refine x_pM (k9 := 17) C (by decide) rfl (by decide) ww_94 rfl (by decide +kernel) eX23_function_115 h (fun S29 h => ?_)
    refine x_tload_n C eX23_function_118 rfl 0 rfl ?_
    refine x_bipush (v := 61) C eX23_function_119 (by decide) ?_
    refine x_cVv (As := [.int 61]) (st := []) (n := 1) (frc := 2) (loc := 42) C h (fun S9 r9 e9 => k_X23_take l D K m9 mr _ S9 61 r9 e9) ww_12 ww_25 ww_26 ww_27 ww_16 (by decide +kernel) rfl ⟨by omega, by omega⟩ (Nat.le_of_ble_eq_true rfl) eX23_function_121 (fun S30 v31 h => ?_)
    refine x_tload_n C eX23_function_124 rfl 0 rfl ?_
    refine x_bipush (v := 62) C eX23_function_125 (by decide) ?_
    refine x_cVi (As := [.int 62]) (st := []) (n := 1) (frc := 2) (loc := 41) C h (fun S9 r9 e9 => k_X23_takes l D K m9 mr _ S9 62 r9 e9) ww_23 ww_42 ww_43 ww_44 ww_16 (by decide +kernel) rfl ⟨by omega, by omega⟩ (Nat.le_of_ble_eq_true rfl) eX23_function_127 (fun S32 v33 h => ?_)
    refine x_if_ne (tgt := 177) C eX23_function_130 (by decide) h (fun h => ?_) (fun h => ?_)
    · refine x_sub [0, 1] rfl ?_
      exact j_177 S32 x1 h
    · refine x_iconst (v := 1) C eX23_function_133 (by decide) ?_
      refine x_istore_n (lv2 := [(0, .ref m9), (1, va_rf x1)]) C eX23_function_134 rfl (by decide) rfl (oky rfl (oky (cat_rf x1) ok0)) ?_
      refine x_sub [1, 2, 0] rfl ?_
      exact j_135 bigN S32 x1 1 h
  have j_18 : ∀ (S : Sg) (x1 : Option Nat), f_function_18 K S x1 = some (Sf, rf) → WX p l e R s m args below meth c Q D A K m9 mr 3 S0 S 18 [(0, .ref m9), (1, va_rf x1)] [] := by
    intro S x1 h
    unfold f_function_18 at h
    refine x_tload_n C eX23_function_18 rfl 0 rfl ?_
    refine x_dup C eX23_function_19 rfl ?_
    refine x_mV (k9 := 14) C (by decide) ww_85 eX23_function_20 rfl ?_
    refine x_iconst (v := 1) C eX23_function_23 (by decide) ?_
    refine x_iadd C eX23_function_24 ?_
    refine x_pM (k9 := 14) C (by decide) rfl (by decide) ww_85 rfl (by decide +kernel) eX23_function_25 h (fun S3 h => ?_)
    refine x_tload_n C eX23_function_28 rfl 0 rfl ?_
    refine x_dup C eX23_function_29 rfl ?_
    refine x_mV (k9 := 10) C (by decide) ww_11 eX23_function_30 rfl ?_
    refine x_iconst (v := 1) C eX23_function_33 (by decide) ?_
    refine x_iadd C eX23_function_34 ?_
    refine x_pM (k9 := 10) C (by decide) rfl (by decide) ww_11 rfl (by decide +kernel) eX23_function_35 h (fun S4 h => ?_)
    refine x_aload_n C eX23_function_38 rfl 1 rfl ?_
    refine x_bipush (v := 13) C eX23_function_39 (by decide) ?_
    refine x_nQ (t9 := 12) C rfl C.2.2.2.1.2.2.2.2.2.1 ww_32 eX23_function_41 h (fun S5 a6 h => ?_)
    refine x_pA (o9 := x1) (tA := (.object "OwnedPlacesModel$Written")) (ci := 16) (k9 := 9) (Cn := RX16) (T := TX16) (N := 22) C rfl wt_X16 tyX16_ok nmX16 (by decide) ww_59 rfl (by decide +kernel) eX23_function_44 h (fun S7 h => ?_)
    refine x_aload_n C eX23_function_47 rfl 1 rfl ?_
    refine x_bipush (v := 13) C eX23_function_48 (by decide) ?_
    refine x_nQ (t9 := 4) C rfl C.2.2.2.1.2.2.2.2.2.2.1 ww_67 eX23_function_50 h (fun S8 a9 h => ?_)
    refine x_pA (o9 := x1) (tA := (.object "OwnedPlacesModel$Type")) (ci := 16) (k9 := 10) (Cn := RX16) (T := TX16) (N := 22) C rfl wt_X16 tyX16_ok nmX16 (by decide) ww_73 rfl (by decide +kernel) eX23_function_53 h (fun S10 h => ?_)
    refine x_aload_n C eX23_function_56 rfl 1 rfl ?_
    refine x_bipush (v := 13) C eX23_function_57 (by decide) ?_
    refine x_nQ (t9 := 5) C rfl C.2.2.2.1.2.2.2.2.2.2.2.2 ww_86 eX23_function_59 h (fun S11 a12 h => ?_)
    refine x_pA (o9 := x1) (tA := (.object "OwnedPlacesModel$Variable")) (ci := 16) (k9 := 17) (Cn := RX16) (T := TX16) (N := 22) C rfl wt_X16 tyX16_ok nmX16 (by decide) ww_87 rfl (by decide +kernel) eX23_function_62 h (fun S13 h => ?_)
    refine x_aload_n C eX23_function_65 rfl 1 rfl ?_
    refine x_bipush (v := 8) C eX23_function_66 (by decide) ?_
    refine x_nA C ww_88 eX23_function_68 h (fun S14 a15 h => ?_)
    refine x_pA (o9 := x1) (tA := .int) (ci := 16) (k9 := 12) (Cn := RX16) (T := TX16) (N := 22) C rfl wt_X16 tyX16_ok nmX16 (by decide) ww_83 rfl (by decide +kernel) eX23_function_70 h (fun S16 h => ?_)
    refine x_aload_n C eX23_function_73 rfl 1 rfl ?_
    refine x_bipush (v := 13) C eX23_function_74 (by decide) ?_
    refine x_nA C ww_88 eX23_function_76 h (fun S17 a18 h => ?_)
    refine x_pA (o9 := x1) (tA := .int) (ci := 16) (k9 := 13) (Cn := RX16) (T := TX16) (N := 22) C rfl wt_X16 tyX16_ok nmX16 (by decide) ww_89 rfl (by decide +kernel) eX23_function_78 h (fun S19 h => ?_)
    refine x_aload_n C eX23_function_81 rfl 1 rfl ?_
    refine x_tload_n C eX23_function_82 rfl 0 rfl ?_
    refine x_cVi (As := []) (st := [va_rf x1]) (n := 0) (frc := 3) (loc := 63) C h (fun S9 r9 e9 => k_X23_name l D K m9 mr _ S9 r9 e9) ww_24 ww_56 ww_57 ww_58 ww_16 (by decide +kernel) rfl ⟨by omega, by omega⟩ (Nat.le_of_ble_eq_true rfl) eX23_function_83 (fun S20 v21 h => ?_)
    refine x_pI (o9 := x1) (ci := 16) (k9 := 1) (Cn := RX16) (T := TX16) (N := 22) C rfl wt_X16 tyX16_ok nmX16 (by decide) ww_74 rfl (by decide +kernel) eX23_function_86 h (fun S22 h => ?_)
    refine x_tload_n C eX23_function_89 rfl 0 rfl ?_
    refine x_bipush (v := 47) C eX23_function_90 (by decide) ?_
    refine x_cVi (As := [.int 47]) (st := []) (n := 1) (frc := 2) (loc := 41) C h (fun S9 r9 e9 => k_X23_takes l D K m9 mr _ S9 47 r9 e9) ww_23 ww_42 ww_43 ww_44 ww_16 (by decide +kernel) rfl ⟨by omega, by omega⟩ (Nat.le_of_ble_eq_true rfl) eX23_function_92 (fun S23 v24 h => ?_)
    refine x_if_eq (tgt := 103) C eX23_function_95 (by decide) h (fun h => ?_) (fun h => ?_)
    · refine x_sub [0, 1] rfl ?_
      exact j_103 S23 x1 h
    · refine x_tload_n C eX23_function_98 rfl 0 rfl ?_
      refine x_aload_n C eX23_function_99 rfl 1 rfl ?_
      refine x_cVv (As := [va_rf x1]) (st := []) (n := 1) (frc := 3) (loc := 63) C h (fun S9 r9 e9 => k_X23_takeLives l D K m9 mr _ S9 x1 r9 e9) ww_81 ww_90 ww_91 ww_92 ww_16 (by decide +kernel) rfl ⟨by omega, by omega⟩ (Nat.le_of_ble_eq_true rfl) eX23_function_100 (fun S25 v26 h => ?_)
      refine x_sub [0, 1] rfl ?_
      exact j_103 S25 x1 h
  unfold f_function at h
  refine x_tload_n C eX23_function_0 rfl 0 rfl ?_
  refine x_mV (k9 := 14) C (by decide) ww_85 eX23_function_1 rfl ?_
  refine x_bipush (v := 40) C eX23_function_4 (by decide) ?_
  refine x_ic_ne (tgt := 18) C eX23_function_6 (by decide) h (fun h => ?_) (fun h => ?_)
  · refine x_sub [0, 1] rfl ?_
    exact j_18 S0 x1 h
  · refine x_tload_n C eX23_function_9 rfl 0 rfl ?_
    refine x_iconst (v := 2) C eX23_function_10 (by decide) ?_
    refine x_tload_n C eX23_function_11 rfl 0 rfl ?_
    refine x_mV (k9 := 10) C (by decide) ww_11 eX23_function_12 rfl ?_
    refine x_cVv (As := [.int 2, .int (Zi S0 10)]) (st := []) (n := 2) (frc := 1) (loc := 20) C h (fun S9 r9 e9 => k_X23_fail l D K m9 mr _ S9 2 (Zi S0 10) r9 e9) ww_2 ww_20 ww_21 ww_22 ww_16 (by decide +kernel) rfl ⟨by omega, by omega⟩ (Nat.le_of_ble_eq_true rfl) eX23_function_15 (fun S1 v2 h => ?_)
    refine x_sub [0, 1] rfl ?_
    exact j_18 S1 x1 h
set_option maxRecDepth 20000 in
set_option maxHeartbeats 4000000 in
theorem k_X16_init (l : Launch) (D : va_G) (K : Ky) (m9 : Nat) (mr : Nat → Nat) (S0 Sf : Sg) (x0 : Nat) (rf : Unit) (h : f_X16_init K S0 x0 = some (Sf, rf)) : CT l D K m9 mr yX16_init (Cond.code yX16_init cX16_init 1 none) (1) (20) S0 Sf [.ref x0] none := by
  refine x_start (cc := cX16_init) (lv := [(0, .ref x0)]) rfl rfl (by decide) (by simp [lv_args, cat_rf, cat_i, cat_l, cat_a]) (by simp [lg_sl, cat_rf, cat_i, cat_l, cat_a]) (fun p e R s m args below meth c Q A C => ?_)
  unfold f_X16_init at h
  refine x_tload_n C eX16_init_0 rfl 0 rfl ?_
  refine x_objInit C ww_981 ww_958 ww_959 eX16_init_1 (by omega) (by omega) (Nat.le_of_ble_eq_true rfl) ?_
  refine x_tload_n C eX16_init_4 rfl 0 rfl ?_
  refine x_bipush (v := 13) C eX16_init_5 (by decide) ?_
  refine x_nA C ww_88 eX16_init_7 h (fun S1 a2 h => ?_)
  refine x_pA (o9 := (some x0)) (tA := .int) (ci := 16) (k9 := 8) (Cn := RX16) (T := TX16) (N := 22) C rfl wt_X16 tyX16_ok nmX16 (by decide) ww_982 rfl (by decide +kernel) eX16_init_9 h (fun S3 h => ?_)
  exact x_vret C rfl rfl eX16_init_12 h
set_option maxRecDepth 20000 in
set_option maxHeartbeats 4000000 in
theorem k_X23_program (l : Launch) (D : va_G) (K : Ky) (m9 : Nat) (mr : Nat → Nat) (S0 Sf : Sg) (rf : Unit) (h : f_program K S0 = some (Sf, rf)) : CT l D K m9 mr yX23_program (Cond.code yX23_program cX23_program 2 none) (929) (20495) S0 Sf [.ref m9] none := by
  refine x_start (cc := cX23_program) (lv := [(0, .ref m9)]) rfl rfl (by decide) (by simp [lv_args, cat_rf, cat_i, cat_l, cat_a]) (by simp [lg_sl, cat_rf, cat_i, cat_l, cat_a]) (fun p e R s m args below meth c Q A C => ?_)
  have j_159 : ∀ (S : Sg), f_program_159 K S = some (Sf, rf) → WX p l e R s m args below meth c Q D A K m9 mr 2 S0 S 159 [] [] := by
    intro S h
    unfold f_program_159 at h
    exact x_vret C rfl rfl eX23_program_159 h
  have j_25 : ∀ (n_25 : Nat) (S : Sg), f_program_25 K n_25 S = some (Sf, rf) → WX p l e R s m args below meth c Q D A K m9 mr 2 S0 S 25 [(0, .ref m9)] [] := by
    intro n_25
    induction n_25 with
    | zero => intro S h; unfold f_program_25 at h; cases h
    | succ n_25 ih_25 =>
      intro S h
      have j_128 : ∀ (S : Sg) (x1 : Option Nat), f_program_128 K (f_program_25 K n_25) S x1 = some (Sf, rf) → WX p l e R s m args below meth c Q D A K m9 mr 2 S0 S 128 [(0, .ref m9), (1, va_rf x1)] [] := by
        intro S x1 h
        unfold f_program_128 at h
        refine x_tload_n C eX23_program_128 rfl 0 rfl ?_
        refine x_cVi (As := []) (st := []) (n := 0) (frc := 1) (loc := 20) C h (fun S9 r9 e9 => k_X23_ok l D K m9 mr _ S9 r9 e9) ww_0 ww_13 ww_14 ww_15 ww_16 (by decide +kernel) rfl ⟨by omega, by omega⟩ (Nat.le_of_ble_eq_true rfl) eX23_program_129 (fun S30 v31 h => ?_)
        refine x_if_ne (tgt := 136) C eX23_program_132 (by decide) h (fun h => ?_) (fun h => ?_)
        · refine x_tload_n C eX23_program_136 rfl 0 rfl ?_
          refine x_mV (k9 := 11) C (by decide) ww_114 eX23_program_137 rfl ?_
          refine x_tload_n C eX23_program_140 rfl 0 rfl ?_
          refine x_mV (k9 := 12) C (by decide) ww_102 eX23_program_141 rfl ?_
          refine x_aload_n C eX23_program_144 rfl 1 rfl ?_
          refine x_wQ (r := 11) (t9 := 3) (ci := 16) C (by decide) rfl (by decide) rfl rfl eX23_program_145 h (fun S32 h => ?_)
          refine x_tload_n C eX23_program_146 rfl 0 rfl ?_
          refine x_dup C eX23_program_147 rfl ?_
          refine x_mV (k9 := 12) C (by decide) ww_102 eX23_program_148 rfl ?_
          refine x_iconst (v := 1) C eX23_program_151 (by decide) ?_
          refine x_iadd C eX23_program_152 ?_
          refine x_pM (k9 := 12) C (by decide) rfl (by decide) ww_102 rfl (by decide +kernel) eX23_program_153 h (fun S33 h => ?_)
          refine x_goto (tgt := 25) C eX23_program_156 (by decide) ?_
          refine x_sub [0] rfl ?_
          exact ih_25 S33 h
        · exact x_vret C rfl rfl eX23_program_135 h
      have j_77 : ∀ (S : Sg), f_program_77 K (f_program_25 K n_25) S = some (Sf, rf) → WX p l e R s m args below meth c Q D A K m9 mr 2 S0 S 77 [(0, .ref m9)] [] := by
        intro S h
        unfold f_program_77 at h
        refine x_nO (ci := 16) (Cn := RX16) (T := TX16) (ty0 := tyX16) C rfl wt_X16 tyX16_ok ww_103 ww_104 ww_105 dv_X16 eX23_program_77 h (fun S18 a19 h => ?_)
        refine x_dup C eX23_program_80 (cat_rf (some a19)) ?_
        refine x_callIM (b := a19) (st := [va_rf (some a19)]) (frc := 1) (loc := 20) C h (fun S9 e9 => k_X16_init l D K m9 mr S18 S9 a19 () e9) ww_980 C.2.2.2.1.1.2.2.1 ww_105 ww_106 rfl (by decide +kernel) ⟨by omega, by omega⟩ (Nat.le_of_ble_eq_true rfl) eX23_program_81 (fun S20 h => ?_)
        refine x_astore_n (lv2 := [(0, .ref m9)]) C eX23_program_84 rfl (by decide) rfl (oky rfl ok0) ?_
        refine x_aload_n C eX23_program_85 rfl 0 rfl ?_
        refine x_tload_n C eX23_program_86 rfl 1 rfl ?_
        refine x_mV (k9 := 10) C (by decide) ww_11 eX23_program_87 rfl ?_
        refine x_pI (o9 := (some a19)) (ci := 16) (k9 := 0) (Cn := RX16) (T := TX16) (N := 22) C rfl wt_X16 tyX16_ok nmX16 (by decide) ww_107 rfl (by decide +kernel) eX23_program_90 h (fun S22 h => ?_)
        refine x_aload_n C eX23_program_93 rfl 0 rfl ?_
        refine x_tload_n C eX23_program_94 rfl 1 rfl ?_
        refine x_mV (k9 := 5) C (by decide) ww_10 eX23_program_95 rfl ?_
        refine x_tload_n C eX23_program_98 rfl 1 rfl ?_
        refine x_mV (k9 := 10) C (by decide) ww_11 eX23_program_99 rfl ?_
        refine x_rI (r := 5) C (by decide) rfl eX23_program_102 h (fun v23 h => ?_)
        refine x_pI (o9 := (some a19)) (ci := 16) (k9 := 2) (Cn := RX16) (T := TX16) (N := 22) C rfl wt_X16 tyX16_ok nmX16 (by decide) ww_72 rfl (by decide +kernel) eX23_program_103 h (fun S24 h => ?_)
        refine x_aload_n C eX23_program_106 rfl 0 rfl ?_
        refine x_gI (o9 := (some a19)) (ci := 16) (k9 := 2) (Cn := RX16) (T := TX16) (N := 22) C rfl wt_X16 (by decide) ww_72 eX23_program_107 h (fun v25 h => ?_)
        refine x_bipush (v := 12) C eX23_program_110 (by decide) ?_
        refine x_ic_ne (tgt := 123) C eX23_program_112 (by decide) h (fun h => ?_) (fun h => ?_)
        · refine x_tload_n C eX23_program_123 rfl 1 rfl ?_
          refine x_aload_n C eX23_program_124 rfl 0 rfl ?_
          refine x_cVv (As := [va_rf (some a19)]) (st := []) (n := 1) (frc := 25) (loc := 550) C h (fun S9 r9 e9 => k_X23_typeItem l D K m9 mr _ S9 (some a19) r9 e9) ww_70 ww_111 ww_112 ww_113 ww_16 (by decide +kernel) rfl ⟨by omega, by omega⟩ (Nat.le_of_ble_eq_true rfl) eX23_program_125 (fun S26 v27 h => ?_)
          refine x_sub [1, 0] rfl ?_
          exact j_128 S26 (some a19) h
        · refine x_tload_n C eX23_program_115 rfl 1 rfl ?_
          refine x_aload_n C eX23_program_116 rfl 0 rfl ?_
          refine x_cVv (As := [va_rf (some a19)]) (st := []) (n := 1) (frc := 928) (loc := 20473) C h (fun S9 r9 e9 => k_X23_function l D K m9 mr _ S9 (some a19) r9 e9) ww_84 ww_108 ww_109 ww_110 ww_16 (by decide +kernel) rfl ⟨by omega, by omega⟩ (Nat.le_of_ble_eq_true rfl) eX23_program_117 (fun S28 v29 h => ?_)
          refine x_goto (tgt := 128) C eX23_program_120 (by decide) ?_
          refine x_sub [1, 0] rfl ?_
          exact j_128 S28 (some a19) h
      unfold f_program_25 at h
      refine x_tload_n C eX23_program_25 rfl 0 rfl ?_
      refine x_cVi (As := []) (st := []) (n := 0) (frc := 1) (loc := 20) C h (fun S9 r9 e9 => k_X23_ok l D K m9 mr _ S9 r9 e9) ww_0 ww_13 ww_14 ww_15 ww_16 (by decide +kernel) rfl ⟨by omega, by omega⟩ (Nat.le_of_ble_eq_true rfl) eX23_program_26 (fun S6 v7 h => ?_)
      refine x_if_eq (tgt := 159) C eX23_program_29 (by decide) h (fun h => ?_) (fun h => ?_)
      · refine x_sub [] rfl ?_
        exact j_159 S6 h
      · refine x_tload_n C eX23_program_32 rfl 0 rfl ?_
        refine x_iconst (v := 0) C eX23_program_33 (by decide) ?_
        refine x_cVi (As := [.int 0]) (st := []) (n := 1) (frc := 1) (loc := 20) C h (fun S9 r9 e9 => k_X23_is l D K m9 mr _ S9 0 r9 e9) ww_9 ww_17 ww_18 ww_19 ww_16 (by decide +kernel) rfl ⟨by omega, by omega⟩ (Nat.le_of_ble_eq_true rfl) eX23_program_34 (fun S8 v9 h => ?_)
        refine x_if_ne (tgt := 159) C eX23_program_37 (by decide) h (fun h => ?_) (fun h => ?_)
        · refine x_sub [] rfl ?_
          exact j_159 S8 h
        · refine x_tload_n C eX23_program_40 rfl 0 rfl ?_
          refine x_bipush (v := 10) C eX23_program_41 (by decide) ?_
          refine x_cVi (As := [.int 10]) (st := []) (n := 1) (frc := 1) (loc := 20) C h (fun S9 r9 e9 => k_X23_is l D K m9 mr _ S9 10 r9 e9) ww_9 ww_17 ww_18 ww_19 ww_16 (by decide +kernel) rfl ⟨by omega, by omega⟩ (Nat.le_of_ble_eq_true rfl) eX23_program_43 (fun S10 v11 h => ?_)
          refine x_if_ne (tgt := 77) C eX23_program_46 (by decide) h (fun h => ?_) (fun h => ?_)
          · refine x_sub [0] rfl ?_
            exact j_77 S10 h
          · refine x_tload_n C eX23_program_49 rfl 0 rfl ?_
            refine x_bipush (v := 11) C eX23_program_50 (by decide) ?_
            refine x_cVi (As := [.int 11]) (st := []) (n := 1) (frc := 1) (loc := 20) C h (fun S9 r9 e9 => k_X23_is l D K m9 mr _ S9 11 r9 e9) ww_9 ww_17 ww_18 ww_19 ww_16 (by decide +kernel) rfl ⟨by omega, by omega⟩ (Nat.le_of_ble_eq_true rfl) eX23_program_52 (fun S12 v13 h => ?_)
            refine x_if_ne (tgt := 77) C eX23_program_55 (by decide) h (fun h => ?_) (fun h => ?_)
            · refine x_sub [0] rfl ?_
              exact j_77 S12 h
            · refine x_tload_n C eX23_program_58 rfl 0 rfl ?_
              refine x_bipush (v := 12) C eX23_program_59 (by decide) ?_
              refine x_cVi (As := [.int 12]) (st := []) (n := 1) (frc := 1) (loc := 20) C h (fun S9 r9 e9 => k_X23_is l D K m9 mr _ S9 12 r9 e9) ww_9 ww_17 ww_18 ww_19 ww_16 (by decide +kernel) rfl ⟨by omega, by omega⟩ (Nat.le_of_ble_eq_true rfl) eX23_program_61 (fun S14 v15 h => ?_)
              refine x_if_ne (tgt := 77) C eX23_program_64 (by decide) h (fun h => ?_) (fun h => ?_)
              · refine x_sub [0] rfl ?_
                exact j_77 S14 h
              · refine x_tload_n C eX23_program_67 rfl 0 rfl ?_
                refine x_iconst (v := 1) C eX23_program_68 (by decide) ?_
                refine x_tload_n C eX23_program_69 rfl 0 rfl ?_
                refine x_mV (k9 := 10) C (by decide) ww_11 eX23_program_70 rfl ?_
                refine x_cVv (As := [.int 1, .int (Zi S14 10)]) (st := []) (n := 2) (frc := 1) (loc := 20) C h (fun S9 r9 e9 => k_X23_fail l D K m9 mr _ S9 1 (Zi S14 10) r9 e9) ww_2 ww_20 ww_21 ww_22 ww_16 (by decide +kernel) rfl ⟨by omega, by omega⟩ (Nat.le_of_ble_eq_true rfl) eX23_program_73 (fun S16 v17 h => ?_)
                exact x_vret C rfl rfl eX23_program_76 h
  unfold f_program at h
  refine x_tload_n C eX23_program_0 rfl 0 rfl ?_
  refine x_iconst (v := 0) C eX23_program_1 (by decide) ?_
  refine x_pM (k9 := 12) C (by decide) rfl (by decide) ww_102 rfl (by decide +kernel) eX23_program_2 h (fun S1 h => ?_)
  refine x_tload_n C eX23_program_5 rfl 0 rfl ?_
  refine x_iconst (v := 0) C eX23_program_6 (by decide) ?_
  refine x_pM (k9 := 13) C (by decide) rfl (by decide) ww_71 rfl (by decide +kernel) eX23_program_7 h (fun S2 h => ?_)
  refine x_tload_n C eX23_program_10 rfl 0 rfl ?_
  refine x_iconst (v := 0) C eX23_program_11 (by decide) ?_
  refine x_pM (k9 := 14) C (by decide) rfl (by decide) ww_85 rfl (by decide +kernel) eX23_program_12 h (fun S3 h => ?_)
  refine x_tload_n C eX23_program_15 rfl 0 rfl ?_
  refine x_iconst (v := 0) C eX23_program_16 (by decide) ?_
  refine x_pM (k9 := 10) C (by decide) rfl (by decide) ww_11 rfl (by decide +kernel) eX23_program_17 h (fun S4 h => ?_)
  refine x_tload_n C eX23_program_20 rfl 0 rfl ?_
  refine x_iconst (v := 0) C eX23_program_21 (by decide) ?_
  refine x_pM (k9 := 15) C (by decide) rfl (by decide) ww_29 rfl (by decide +kernel) eX23_program_22 h (fun S5 h => ?_)
  refine x_sub [0] rfl ?_
  exact j_25 bigN S5 h
set_option maxRecDepth 20000 in
set_option maxHeartbeats 4000000 in
theorem k_X20_init (l : Launch) (D : va_G) (K : Ky) (m9 : Nat) (mr : Nat → Nat) (S0 : Sg) (x0 : Nat) : CT l D K m9 mr yX20_init (Cond.code yX20_init cX20_init 1 none) (1) (20) S0 S0 [.ref x0] none := by
  have h : some (S0, ()) = some (S0, ()) := rfl
  refine x_start (cc := cX20_init) (lv := [(0, .ref x0)]) rfl rfl (by decide) (by simp [lv_args, cat_rf, cat_i, cat_l, cat_a]) (by simp [lg_sl, cat_rf, cat_i, cat_l, cat_a]) (fun p e R s m args below meth c Q A C => ?_)
  refine x_tload_n C eX20_init_0 rfl 0 rfl ?_
  refine x_objInit C ww_966 ww_958 ww_959 eX20_init_1 (by omega) (by omega) (Nat.le_of_ble_eq_true rfl) ?_
  exact x_vret C rfl rfl eX20_init_4 h
set_option maxRecDepth 20000 in
set_option maxHeartbeats 4000000 in
theorem k_X23_type (l : Launch) (D : va_G) (K : Ky) (m9 : Nat) (mr : Nat → Nat) (S0 Sf : Sg) (x1 : Int32) (x2 : Int32) (x3 : Option Nat) (rf : Option Nat) (h : f_type K S0 x1 x2 x3 = some (Sf, rf)) : CT l D K m9 mr yX23_type (Cond.code yX23_type cX23_type 5 (some (.object "OwnedPlacesModel$Type"))) (2) (40) S0 Sf [.ref m9, .int x1, .int x2, va_rf x3] (some (va_rf rf)) := by
  refine x_start (cc := cX23_type) (lv := [(0, .ref m9), (1, .int x1), (2, .int x2), (3, va_rf x3)]) rfl rfl (by decide) (by simp [lv_args, cat_rf, cat_i, cat_l, cat_a]) (by simp [lg_sl, cat_rf, cat_i, cat_l, cat_a]) (fun p e R s m args below meth c Q A C => ?_)
  have j_3 : ∀ (n_3 : Nat) (S : Sg) (x1 : Int32) (x2 : Int32) (x3 : Option Nat) (x4 : Int32), f_type_3 K n_3 S x1 x2 x3 x4 = some (Sf, rf) → WX p l e R s m args below meth c Q D A K m9 mr 5 S0 S 3 [(0, .ref m9), (1, .int x1), (2, .int x2), (3, va_rf x3), (4, .int x4)] [] := by
    intro n_3
    induction n_3 with
    | zero => intro S x1 x2 x3 x4 h; unfold f_type_3 at h; cases h
    | succ n_3 ih_3 =>
      intro S x1 x2 x3 x4 h
      have j_62 : ∀ (S : Sg) (x1 : Int32) (x2 : Int32) (x3 : Option Nat) (x4 : Int32), f_type_62 K (f_type_3 K n_3) S x1 x2 x3 x4 = some (Sf, rf) → WX p l e R s m args below meth c Q D A K m9 mr 5 S0 S 62 [(0, .ref m9), (1, .int x1), (2, .int x2), (3, va_rf x3), (4, .int x4)] [] := by
        intro S x1 x2 x3 x4 h
        unfold f_type_62 at h
        refine x_iinc (j := 4) (v := 1) (lv2 := [(0, .ref m9), (1, .int x1), (2, .int x2), (3, va_rf x3)]) C eX23_type_62 rfl (by decide) (by decide) rfl (oky rfl (oky rfl (oky rfl (oky (cat_rf x3) ok0)))) ?_
        refine x_goto (tgt := 3) C eX23_type_65 (by decide) ?_
        refine x_sub [1, 2, 3, 4, 0] rfl ?_
        exact ih_3 S x1 x2 x3 (x4 + 1) h
      unfold f_type_3 at h
      refine x_iload C eX23_type_3 4 rfl ?_
      refine x_tload_n C eX23_type_5 rfl 0 rfl ?_
      refine x_mV (k9 := 19) C (by decide) ww_245 eX23_type_6 rfl ?_
      refine x_ic_ge (tgt := 68) C eX23_type_9 (by decide) h (fun h => ?_) (fun h => ?_)
      · refine x_nO (ci := 20) (Cn := RX20) (T := TX20) (ty0 := tyX20) C rfl wt_X20 tyX20_ok ww_67 ww_250 ww_251 dv_X20 eX23_type_68 h (fun S1 a2 h => ?_)
        refine x_dup C eX23_type_71 (cat_rf (some a2)) ?_
        refine x_callIN (b := a2) (frc := 1) (loc := 20) C (k_X20_init l D K m9 mr S1 a2) ww_965 C.2.2.2.1.1.2.2.2.2.2.2.2.1 ww_251 ww_252 rfl (by decide +kernel) ⟨by omega, by omega⟩ (Nat.le_of_ble_eq_true rfl) eX23_type_72 ?_
        refine x_astore (lv2 := [(0, .ref m9), (1, .int x1), (2, .int x2), (3, va_rf x3)]) C eX23_type_75 (by decide) rfl (oky rfl (oky rfl (oky rfl (oky (cat_rf x3) ok0)))) ?_
        refine x_aload C eX23_type_77 0 rfl ?_
        refine x_iload_n C eX23_type_79 rfl 2 rfl ?_
        refine x_pI (o9 := (some a2)) (ci := 20) (k9 := 0) (Cn := RX20) (T := TX20) (N := 4) C rfl wt_X20 tyX20_ok nmX20 (by decide) ww_247 rfl (by decide +kernel) eX23_type_80 h (fun S5 h => ?_)
        refine x_aload C eX23_type_83 0 rfl ?_
        refine x_iload_n C eX23_type_85 rfl 3 rfl ?_
        refine x_pI (o9 := (some a2)) (ci := 20) (k9 := 1) (Cn := RX20) (T := TX20) (N := 4) C rfl wt_X20 tyX20_ok nmX20 (by decide) ww_248 rfl (by decide +kernel) eX23_type_86 h (fun S6 h => ?_)
        refine x_aload C eX23_type_89 0 rfl ?_
        refine x_aload_n C eX23_type_91 rfl 4 rfl ?_
        refine x_pR (o9 := (some a2)) (Cv := "OwnedPlacesModel$Type") (ci := 20) (k9 := 3) (Cn := RX20) (T := TX20) (N := 4) C rfl wt_X20 tyX20_ok nmX20 (by decide) ww_249 rfl (by decide +kernel) eX23_type_92 h (fun S7 h => ?_)
        refine x_aload C eX23_type_95 0 rfl ?_
        refine x_tload_n C eX23_type_97 rfl 1 rfl ?_
        refine x_mV (k9 := 19) C (by decide) ww_245 eX23_type_98 rfl ?_
        refine x_pI (o9 := (some a2)) (ci := 20) (k9 := 2) (Cn := RX20) (T := TX20) (N := 4) C rfl wt_X20 tyX20_ok nmX20 (by decide) ww_253 rfl (by decide +kernel) eX23_type_101 h (fun S8 h => ?_)
        refine x_tload_n C eX23_type_104 rfl 1 rfl ?_
        refine x_mV (k9 := 18) C (by decide) ww_246 eX23_type_105 rfl ?_
        refine x_tload_n C eX23_type_108 rfl 1 rfl ?_
        refine x_mV (k9 := 19) C (by decide) ww_245 eX23_type_109 rfl ?_
        refine x_aload C eX23_type_112 0 rfl ?_
        refine x_wQ (r := 18) (t9 := 4) (ci := 20) C (by decide) rfl (by decide) rfl rfl eX23_type_114 h (fun S9 h => ?_)
        refine x_tload_n C eX23_type_115 rfl 1 rfl ?_
        refine x_dup C eX23_type_116 rfl ?_
        refine x_mV (k9 := 19) C (by decide) ww_245 eX23_type_117 rfl ?_
        refine x_iconst (v := 1) C eX23_type_120 (by decide) ?_
        refine x_iadd C eX23_type_121 ?_
        refine x_pM (k9 := 19) C (by decide) rfl (by decide) ww_245 rfl (by decide +kernel) eX23_type_122 h (fun S10 h => ?_)
        refine x_aload C eX23_type_125 0 rfl ?_
        exact x_aret C rfl (Or.inl ⟨_, rfl⟩) rfl eX23_type_127 h
      · refine x_tload_n C eX23_type_12 rfl 0 rfl ?_
        refine x_mV (k9 := 18) C (by decide) ww_246 eX23_type_13 rfl ?_
        refine x_iload C eX23_type_16 4 rfl ?_
        refine x_rQ (r := 18) (t9 := 4) C (by decide) rfl (by decide) rfl eX23_type_18 h (fun v11 h => ?_)
        refine x_gI (o9 := v11) (ci := 20) (k9 := 0) (Cn := RX20) (T := TX20) (N := 4) C rfl wt_X20 (by decide) ww_247 eX23_type_19 h (fun v12 h => ?_)
        refine x_iload_n C eX23_type_22 rfl 1 rfl ?_
        refine x_ic_ne (tgt := 62) C eX23_type_23 (by decide) h (fun h => ?_) (fun h => ?_)
        · refine x_sub [0, 1, 2, 3, 4] rfl ?_
          exact j_62 S x1 x2 x3 x4 h
        · refine x_tload_n C eX23_type_26 rfl 0 rfl ?_
          refine x_mV (k9 := 18) C (by decide) ww_246 eX23_type_27 rfl ?_
          refine x_iload C eX23_type_30 4 rfl ?_
          refine x_rQ (r := 18) (t9 := 4) C (by decide) rfl (by decide) rfl eX23_type_32 h (fun v13 h => ?_)
          refine x_gI (o9 := v13) (ci := 20) (k9 := 1) (Cn := RX20) (T := TX20) (N := 4) C rfl wt_X20 (by decide) ww_248 eX23_type_33 h (fun v14 h => ?_)
          refine x_iload_n C eX23_type_36 rfl 2 rfl ?_
          refine x_ic_ne (tgt := 62) C eX23_type_37 (by decide) h (fun h => ?_) (fun h => ?_)
          · refine x_sub [0, 1, 2, 3, 4] rfl ?_
            exact j_62 S x1 x2 x3 x4 h
          · refine x_tload_n C eX23_type_40 rfl 0 rfl ?_
            refine x_mV (k9 := 18) C (by decide) ww_246 eX23_type_41 rfl ?_
            refine x_iload C eX23_type_44 4 rfl ?_
            refine x_rQ (r := 18) (t9 := 4) C (by decide) rfl (by decide) rfl eX23_type_46 h (fun v15 h => ?_)
            refine x_gR (o9 := v15) (ci := 20) (k9 := 3) (Cn := RX20) (T := TX20) (N := 4) C rfl wt_X20 (by decide) ww_249 eX23_type_47 h (fun v16 h => ?_)
            refine x_aload_n C eX23_type_50 rfl 3 rfl ?_
            refine x_ac_ne (tgt := 62) C eX23_type_51 (by decide) h (fun h => ?_) (fun h => ?_)
            · refine x_sub [0, 1, 2, 3, 4] rfl ?_
              exact j_62 S x1 x2 x3 x4 h
            · refine x_tload_n C eX23_type_54 rfl 0 rfl ?_
              refine x_mV (k9 := 18) C (by decide) ww_246 eX23_type_55 rfl ?_
              refine x_iload C eX23_type_58 4 rfl ?_
              refine x_rQ (r := 18) (t9 := 4) C (by decide) rfl (by decide) rfl eX23_type_60 h (fun v17 h => ?_)
              exact x_aret C rfl (Or.inl ⟨_, rfl⟩) rfl eX23_type_61 h
  unfold f_type at h
  refine x_iconst (v := 0) C eX23_type_0 (by decide) ?_
  refine x_istore (lv2 := [(0, .ref m9), (1, .int x1), (2, .int x2), (3, va_rf x3)]) C eX23_type_1 (by decide) rfl (oky rfl (oky rfl (oky rfl (oky (cat_rf x3) ok0)))) ?_
  refine x_sub [1, 2, 3, 4, 0] rfl ?_
  exact j_3 bigN S0 x1 x2 x3 0 h
