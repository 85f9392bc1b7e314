set_option maxRecDepth 20000 in
set_option maxHeartbeats 4000000 in
theorem k_X23_fields (l : Launch) (D : va_G) (K : Ky) (m9 : Nat) (mr : Nat → Nat) (S0 Sf : Sg) (x1 : Option Nat) (rf : Unit) (h : f_fields K S0 x1 = some (Sf, rf)) : CT l D K m9 mr yX23_fields (Cond.code yX23_fields cX23_fields 2 none) (24) (525) S0 Sf [.ref m9, va_rf x1] none := by
  refine x_start (cc := cX23_fields) (lv := [(0, .ref m9), (1, va_rf x1)]) rfl rfl (by decide) (by simp [lv_args, cat_rf, cat_i, cat_l, cat_a]) (by simp [lg_sl, cat_rf, cat_i, cat_l, cat_a]) (fun p e R s m args below meth c Q A C => ?_)
  have j_65 : ∀ (S : Sg) (x1 : Option Nat) (y0 : Int32) (y1 : Option Nat), f_fields_65 K S x1 y0 y1 = some (Sf, rf) → WX p l e R s m args below meth c Q D A K m9 mr 2 S0 S 65 [(0, .ref m9), (1, va_rf x1)] [.int y0, va_rf y1] := by
    intro S x1 y0 y1 h
    unfold f_fields_65 at h
    refine x_tload_n C eX23_fields_65 rfl 0 rfl ?_
    refine x_cVr (As := []) (st := [.int y0, va_rf y1]) (n := 0) (frc := 3 + 1 * 20) (loc := 63 + 22 * 20) C h (fun S9 r9 e9 => k_X23_written l D K m9 mr 20 _ S9 r9 e9) ww_31 ww_46 ww_47 ww_48 ww_16 (by decide +kernel) rfl ⟨by omega, by omega⟩ (Nat.le_of_ble_eq_true rfl) eX23_fields_66 (fun S15 v16 h => ?_)
    refine x_bQ (t9 := 12) (ci := 22) C rfl rfl eX23_fields_69 h (fun S17 h => ?_)
    refine x_aload_n C eX23_fields_70 rfl 1 rfl ?_
    refine x_dup C eX23_fields_71 (cat_rf x1) ?_
    refine x_gI (o9 := x1) (ci := 16) (k9 := 3) (Cn := RX16) (T := TX16) (N := 22) C rfl wt_X16 (by decide) ww_51 eX23_fields_72 h (fun v18 h => ?_)
    refine x_iconst (v := 1) C eX23_fields_75 (by decide) ?_
    refine x_iadd C eX23_fields_76 ?_
    refine x_pI (o9 := x1) (ci := 16) (k9 := 3) (Cn := RX16) (T := TX16) (N := 22) C rfl wt_X16 tyX16_ok nmX16 (by decide) ww_51 rfl (by decide +kernel) eX23_fields_77 h (fun S19 h => ?_)
    exact x_vret C rfl rfl eX23_fields_80 h
  have j_32 : ∀ (S : Sg) (x1 : Option Nat) (y0 : Int32) (y1 : Option Nat), f_fields_32 K S x1 y0 y1 = some (Sf, rf) → WX p l e R s m args below meth c Q D A K m9 mr 2 S0 S 32 [(0, .ref m9), (1, va_rf x1)] [.int y0, va_rf y1] := by
    intro S x1 y0 y1 h
    unfold f_fields_32 at h
    refine x_tload_n C eX23_fields_32 rfl 0 rfl ?_
    refine x_cVi (As := []) (st := [.int y0, va_rf y1]) (n := 0) (frc := 3) (loc := 63) C h (fun S9 r9 e9 => k_X23_name l D K m9 mr _ S9 r9 e9) ww_24 ww_56 ww_57 ww_58 ww_16 (by decide +kernel) rfl ⟨by omega, by omega⟩ (Nat.le_of_ble_eq_true rfl) eX23_fields_33 (fun S7 v8 h => ?_)
    refine x_bI C eX23_fields_36 h (fun S9 h => ?_)
    refine x_tload_n C eX23_fields_37 rfl 0 rfl ?_
    refine x_bipush (v := 58) C eX23_fields_38 (by decide) ?_
    refine x_cVv (As := [.int 58]) (st := []) (n := 1) (frc := 2) (loc := 42) C h (fun S9 r9 e9 => k_X23_take l D K m9 mr _ S9 58 r9 e9) ww_12 ww_25 ww_26 ww_27 ww_16 (by decide +kernel) rfl ⟨by omega, by omega⟩ (Nat.le_of_ble_eq_true rfl) eX23_fields_40 (fun S10 v11 h => ?_)
    refine x_aload_n C eX23_fields_43 rfl 1 rfl ?_
    refine x_gR (o9 := x1) (ci := 16) (k9 := 9) (Cn := RX16) (T := TX16) (N := 22) C rfl wt_X16 (by decide) ww_59 eX23_fields_44 h (fun v12 h => ?_)
    refine x_aload_n C eX23_fields_47 rfl 1 rfl ?_
    refine x_gI (o9 := x1) (ci := 16) (k9 := 3) (Cn := RX16) (T := TX16) (N := 22) C rfl wt_X16 (by decide) ww_51 eX23_fields_48 h (fun v13 h => ?_)
    refine x_bipush (v := 13) C eX23_fields_51 (by decide) ?_
    refine x_ic_ge (tgt := 63) C eX23_fields_53 (by decide) h (fun h => ?_) (fun h => ?_)
    · refine x_bipush (v := 12) C eX23_fields_63 (by decide) ?_
      refine x_sub [0, 1] rfl ?_
      exact j_65 S10 x1 12 v12 h
    · refine x_aload_n C eX23_fields_56 rfl 1 rfl ?_
      refine x_gI (o9 := x1) (ci := 16) (k9 := 3) (Cn := RX16) (T := TX16) (N := 22) C rfl wt_X16 (by decide) ww_51 eX23_fields_57 h (fun v14 h => ?_)
      refine x_goto (tgt := 65) C eX23_fields_60 (by decide) ?_
      refine x_sub [0, 1] rfl ?_
      exact j_65 S10 x1 v14 v12 h
  unfold f_fields at h
  refine x_tload_n C eX23_fields_0 rfl 0 rfl ?_
  refine x_aload_n C eX23_fields_1 rfl 1 rfl ?_
  refine x_gI (o9 := x1) (ci := 16) (k9 := 3) (Cn := RX16) (T := TX16) (N := 22) C rfl wt_X16 (by decide) ww_51 eX23_fields_2 h (fun v1 h => ?_)
  refine x_bipush (v := 12) C eX23_fields_5 (by decide) ?_
  refine x_cVv (As := [.int v1, .int 12]) (st := []) (n := 2) (frc := 2) (loc := 42) C h (fun S9 r9 e9 => k_X23_limit l D K m9 mr _ S9 v1 12 r9 e9) ww_30 ww_52 ww_53 ww_54 ww_16 (by decide +kernel) rfl ⟨by omega, by omega⟩ (Nat.le_of_ble_eq_true rfl) eX23_fields_7 (fun S2 v3 h => ?_)
  refine x_aload_n C eX23_fields_10 rfl 1 rfl ?_
  refine x_gR (o9 := x1) (ci := 16) (k9 := 8) (Cn := RX16) (T := TX16) (N := 22) C rfl wt_X16 (by decide) ww_55 eX23_fields_11 h (fun v4 h => ?_)
  refine x_aload_n C eX23_fields_14 rfl 1 rfl ?_
  refine x_gI (o9 := x1) (ci := 16) (k9 := 3) (Cn := RX16) (T := TX16) (N := 22) C rfl wt_X16 (by decide) ww_51 eX23_fields_15 h (fun v5 h => ?_)
  refine x_bipush (v := 13) C eX23_fields_18 (by decide) ?_
  refine x_ic_ge (tgt := 30) C eX23_fields_20 (by decide) h (fun h => ?_) (fun h => ?_)
  · refine x_bipush (v := 12) C eX23_fields_30 (by decide) ?_
    refine x_sub [0, 1] rfl ?_
    exact j_32 S2 x1 12 v4 h
  · refine x_aload_n C eX23_fields_23 rfl 1 rfl ?_
    refine x_gI (o9 := x1) (ci := 16) (k9 := 3) (Cn := RX16) (T := TX16) (N := 22) C rfl wt_X16 (by decide) ww_51 eX23_fields_24 h (fun v6 h => ?_)
    refine x_goto (tgt := 32) C eX23_fields_27 (by decide) ?_
    refine x_sub [0, 1] rfl ?_
    exact j_32 S2 x1 v6 v4 h
set_option maxRecDepth 20000 in
set_option maxHeartbeats 4000000 in
theorem k_X17_init (l : Launch) (D : va_G) (K : Ky) (m9 : Nat) (mr : Nat → Nat) (S0 : Sg) (x0 : Nat) : CT l D K m9 mr yX17_init (Cond.code yX17_init cX17_init 1 none) (1) (20) S0 S0 [.ref x0] none := by
  have h : some (S0, ()) = some (S0, ()) := rfl
  refine x_start (cc := cX17_init) (lv := [(0, .ref x0)]) rfl rfl (by decide) (by simp [lv_args, cat_rf, cat_i, cat_l, cat_a]) (by simp [lg_sl, cat_rf, cat_i, cat_l, cat_a]) (fun p e R s m args below meth c Q A C => ?_)
  refine x_tload_n C eX17_init_0 rfl 0 rfl ?_
  refine x_objInit C ww_984 ww_958 ww_959 eX17_init_1 (by omega) (by omega) (Nat.le_of_ble_eq_true rfl) ?_
  exact x_vret C rfl rfl eX17_init_4 h
set_option maxRecDepth 20000 in
set_option maxHeartbeats 4000000 in
theorem k_X23_variant (l : Launch) (D : va_G) (K : Ky) (m9 : Nat) (mr : Nat → Nat) (S0 Sf : Sg) (x1 : Option Nat) (rf : Unit) (h : f_variant K S0 x1 = some (Sf, rf)) : CT l D K m9 mr yX23_variant (Cond.code yX23_variant cX23_variant 6 none) (24) (525) S0 Sf [.ref m9, va_rf x1] none := by
  refine x_start (cc := cX23_variant) (lv := [(0, .ref m9), (1, va_rf x1)]) rfl rfl (by decide) (by simp [lv_args, cat_rf, cat_i, cat_l, cat_a]) (by simp [lg_sl, cat_rf, cat_i, cat_l, cat_a]) (fun p e R s m args below meth c Q A C => ?_)
  have j_247 : ∀ (S : Sg), f_variant_247 K S = some (Sf, rf) → WX p l e R s m args below meth c Q D A K m9 mr 6 S0 S 247 [(0, .ref m9)] [] := by
    intro S h
    unfold f_variant_247 at h
    refine x_tload_n C eX23_variant_247 rfl 0 rfl ?_
    refine x_bipush (v := 62) C eX23_variant_248 (by decide) ?_
    refine x_cVv (As := [.int 62]) (st := []) (n := 1) (frc := 2) (loc := 42) C h (fun S9 r9 e9 => k_X23_take l D K m9 mr _ S9 62 r9 e9) ww_12 ww_25 ww_26 ww_27 ww_16 (by decide +kernel) rfl ⟨by omega, by omega⟩ (Nat.le_of_ble_eq_true rfl) eX23_variant_250 (fun S56 v57 h => ?_)
    exact x_vret C rfl rfl eX23_variant_253 h
  have j_109 : ∀ (n_109 : Nat) (S : Sg) (x2 : Option Nat) (x3 : Int32), f_variant_109 K n_109 S x2 x3 = some (Sf, rf) → WX p l e R s m args below meth c Q D A K m9 mr 6 S0 S 109 [(0, .ref m9), (2, va_rf x2), (3, .int x3)] [] := by
    intro n_109
    induction n_109 with
    | zero => intro S x2 x3 h; unfold f_variant_109 at h; cases h
    | succ n_109 ih_109 =>
      intro S x2 x3 h
      have j_227 : ∀ (S : Sg) (x2 : Option Nat), f_variant_227 K (f_variant_109 K n_109) S x2 = some (Sf, rf) → WX p l e R s m args below meth c Q D A K m9 mr 6 S0 S 227 [(0, .ref m9), (2, va_rf x2)] [] := by
        intro S x2 h
        unfold f_variant_227 at h
        refine x_aload_n C eX23_variant_227 rfl 1 rfl ?_
        refine x_dup C eX23_variant_228 (cat_rf x2) ?_
        refine x_gI (o9 := x2) (ci := 17) (k9 := 0) (Cn := RX17) (T := TX17) (N := 3) C rfl wt_X17 (by decide) ww_69 eX23_variant_229 h (fun v52 h => ?_)
        refine x_iconst (v := 1) C eX23_variant_232 (by decide) ?_
        refine x_iadd C eX23_variant_233 ?_
        refine x_pI (o9 := x2) (ci := 17) (k9 := 0) (Cn := RX17) (T := TX17) (N := 3) C rfl wt_X17 tyX17_ok nmX17 (by decide) ww_69 rfl (by decide +kernel) eX23_variant_234 h (fun S53 h => ?_)
        refine x_tload_n C eX23_variant_237 rfl 0 rfl ?_
        refine x_bipush (v := 57) C eX23_variant_238 (by decide) ?_
        refine x_cVi (As := [.int 57]) (st := []) (n := 1) (frc := 2) (loc := 41) C h (fun S9 r9 e9 => k_X23_takes l D K m9 mr _ S9 57 r9 e9) ww_23 ww_42 ww_43 ww_44 ww_16 (by decide +kernel) rfl ⟨by omega, by omega⟩ (Nat.le_of_ble_eq_true rfl) eX23_variant_240 (fun S54 v55 h => ?_)
        refine x_istore_n (lv2 := [(0, .ref m9), (2, va_rf x2)]) C eX23_variant_243 rfl (by decide) rfl (oky rfl (oky (cat_rf x2) ok0)) ?_
        refine x_goto (tgt := 109) C eX23_variant_244 (by decide) ?_
        refine x_sub [1, 2, 0] rfl ?_
        exact ih_109 S54 x2 v55 h
      have j_203 : ∀ (S : Sg) (x2 : Option Nat), f_variant_203 K (f_variant_109 K n_109) S x2 = some (Sf, rf) → WX p l e R s m args below meth c Q D A K m9 mr 6 S0 S 203 [(0, .ref m9), (2, va_rf x2)] [] := by
        intro S x2 h
        unfold f_variant_203 at h
        refine x_tload_n C eX23_variant_203 rfl 0 rfl ?_
        refine x_cVr (As := []) (st := []) (n := 0) (frc := 3 + 1 * 20) (loc := 63 + 22 * 20) C h (fun S9 r9 e9 => k_X23_written l D K m9 mr 20 _ S9 r9 e9) ww_31 ww_46 ww_47 ww_48 ww_16 (by decide +kernel) rfl ⟨by omega, by omega⟩ (Nat.le_of_ble_eq_true rfl) eX23_variant_204 (fun S45 v46 h => ?_)
        refine x_astore (lv2 := [(0, .ref m9), (2, va_rf x2)]) C eX23_variant_207 (by decide) rfl (oky rfl (oky (cat_rf x2) ok0)) ?_
        refine x_tload_n C eX23_variant_209 rfl 1 rfl ?_
        refine x_cVi (As := []) (st := []) (n := 0) (frc := 1) (loc := 20) C h (fun S9 r9 e9 => k_X23_ok l D K m9 mr _ S9 r9 e9) ww_0 ww_13 ww_14 ww_15 ww_16 (by decide +kernel) rfl ⟨by omega, by omega⟩ (Nat.le_of_ble_eq_true rfl) eX23_variant_210 (fun S47 v48 h => ?_)
        refine x_if_eq (tgt := 227) C eX23_variant_213 (by decide) h (fun h => ?_) (fun h => ?_)
        · refine x_sub [1, 2] rfl ?_
          exact j_227 S47 x2 h
        · refine x_aload_n C eX23_variant_216 rfl 2 rfl ?_
          refine x_gR (o9 := x2) (ci := 17) (k9 := 1) (Cn := RX17) (T := TX17) (N := 3) C rfl wt_X17 (by decide) ww_66 eX23_variant_217 h (fun v49 h => ?_)
          refine x_aload_n C eX23_variant_220 rfl 2 rfl ?_
          refine x_gI (o9 := x2) (ci := 17) (k9 := 0) (Cn := RX17) (T := TX17) (N := 3) C rfl wt_X17 (by decide) ww_69 eX23_variant_221 h (fun v50 h => ?_)
          refine x_aload C eX23_variant_224 0 rfl ?_
          refine x_bQ (t9 := 12) (ci := 22) C rfl rfl eX23_variant_226 h (fun S51 h => ?_)
          refine x_sub [1, 2] rfl ?_
          exact j_227 S51 x2 h
      have j_178 : ∀ (S : Sg) (x2 : Option Nat) (y0 : Int32), f_variant_178 K (f_variant_109 K n_109) S x2 y0 = some (Sf, rf) → WX p l e R s m args below meth c Q D A K m9 mr 6 S0 S 178 [(0, .ref m9), (2, va_rf x2)] [.int y0] := by
        intro S x2 y0 h
        unfold f_variant_178 at h
        refine x_istore (lv2 := [(0, .ref m9), (2, va_rf x2)]) C eX23_variant_178 (by decide) rfl (oky rfl (oky (cat_rf x2) ok0)) ?_
        refine x_iload C eX23_variant_180 0 rfl ?_
        refine x_if_eq (tgt := 203) C eX23_variant_182 (by decide) h (fun h => ?_) (fun h => ?_)
        · refine x_sub [1, 2] rfl ?_
          exact j_203 S x2 h
        · refine x_aload_n C eX23_variant_185 rfl 2 rfl ?_
          refine x_gI (o9 := x2) (ci := 17) (k9 := 0) (Cn := RX17) (T := TX17) (N := 3) C rfl wt_X17 (by decide) ww_69 eX23_variant_186 h (fun v42 h => ?_)
          refine x_bipush (v := 12) C eX23_variant_189 (by decide) ?_
          refine x_ic_ne (tgt := 203) C eX23_variant_191 (by decide) h (fun h => ?_) (fun h => ?_)
          · refine x_sub [1, 2] rfl ?_
            exact j_203 S x2 h
          · refine x_tload_n C eX23_variant_194 rfl 1 rfl ?_
            refine x_iconst (v := 2) C eX23_variant_195 (by decide) ?_
            refine x_tload_n C eX23_variant_196 rfl 1 rfl ?_
            refine x_mV (k9 := 10) C (by decide) ww_11 eX23_variant_197 rfl ?_
            refine x_cVv (As := [.int 2, .int (Zi S 10)]) (st := []) (n := 2) (frc := 1) (loc := 20) C h (fun S9 r9 e9 => k_X23_fail l D K m9 mr _ S9 2 (Zi S 10) r9 e9) ww_2 ww_20 ww_21 ww_22 ww_16 (by decide +kernel) rfl ⟨by omega, by omega⟩ (Nat.le_of_ble_eq_true rfl) eX23_variant_200 (fun S43 v44 h => ?_)
            refine x_sub [1, 2] rfl ?_
            exact j_203 S43 x2 h
      have j_173 : ∀ (S : Sg) (x2 : Option Nat), f_variant_173 K (f_variant_109 K n_109) S x2 = some (Sf, rf) → WX p l e R s m args below meth c Q D A K m9 mr 6 S0 S 173 [(0, .ref m9), (2, va_rf x2)] [] := by
        intro S x2 h
        unfold f_variant_173 at h
        refine x_iconst (v := 1) C eX23_variant_173 (by decide) ?_
        refine x_goto (tgt := 178) C eX23_variant_174 (by decide) ?_
        refine x_sub [0, 1] rfl ?_
        exact j_178 S x2 1 h
      unfold f_variant_109 at h
      refine x_tload_n C eX23_variant_109 rfl 0 rfl ?_
      refine x_cVi (As := []) (st := []) (n := 0) (frc := 1) (loc := 20) C h (fun S9 r9 e9 => k_X23_ok l D K m9 mr _ S9 r9 e9) ww_0 ww_13 ww_14 ww_15 ww_16 (by decide +kernel) rfl ⟨by omega, by omega⟩ (Nat.le_of_ble_eq_true rfl) eX23_variant_110 (fun S28 v29 h => ?_)
      refine x_if_eq (tgt := 247) C eX23_variant_113 (by decide) h (fun h => ?_) (fun h => ?_)
      · refine x_sub [0] rfl ?_
        exact j_247 S28 h
      · refine x_iload_n C eX23_variant_116 rfl 2 rfl ?_
        refine x_if_eq (tgt := 247) C eX23_variant_117 (by decide) h (fun h => ?_) (fun h => ?_)
        · refine x_sub [0] rfl ?_
          exact j_247 S28 h
        · refine x_tload_n C eX23_variant_120 rfl 0 rfl ?_
          refine x_bipush (v := 26) C eX23_variant_121 (by decide) ?_
          refine x_cVi (As := [.int 26]) (st := []) (n := 1) (frc := 1) (loc := 20) C h (fun S9 r9 e9 => k_X23_is l D K m9 mr _ S9 26 r9 e9) ww_9 ww_17 ww_18 ww_19 ww_16 (by decide +kernel) rfl ⟨by omega, by omega⟩ (Nat.le_of_ble_eq_true rfl) eX23_variant_123 (fun S30 v31 h => ?_)
          refine x_if_ne (tgt := 173) C eX23_variant_126 (by decide) h (fun h => ?_) (fun h => ?_)
          · refine x_sub [0, 1] rfl ?_
            exact j_173 S30 x2 h
          · refine x_tload_n C eX23_variant_129 rfl 0 rfl ?_
            refine x_bipush (v := 27) C eX23_variant_130 (by decide) ?_
            refine x_cVi (As := [.int 27]) (st := []) (n := 1) (frc := 1) (loc := 20) C h (fun S9 r9 e9 => k_X23_is l D K m9 mr _ S9 27 r9 e9) ww_9 ww_17 ww_18 ww_19 ww_16 (by decide +kernel) rfl ⟨by omega, by omega⟩ (Nat.le_of_ble_eq_true rfl) eX23_variant_132 (fun S32 v33 h => ?_)
            refine x_if_ne (tgt := 173) C eX23_variant_135 (by decide) h (fun h => ?_) (fun h => ?_)
            · refine x_sub [0, 1] rfl ?_
              exact j_173 S32 x2 h
            · refine x_tload_n C eX23_variant_138 rfl 0 rfl ?_
              refine x_bipush (v := 25) C eX23_variant_139 (by decide) ?_
              refine x_cVi (As := [.int 25]) (st := []) (n := 1) (frc := 1) (loc := 20) C h (fun S9 r9 e9 => k_X23_is l D K m9 mr _ S9 25 r9 e9) ww_9 ww_17 ww_18 ww_19 ww_16 (by decide +kernel) rfl ⟨by omega, by omega⟩ (Nat.le_of_ble_eq_true rfl) eX23_variant_141 (fun S34 v35 h => ?_)
              refine x_if_ne (tgt := 173) C eX23_variant_144 (by decide) h (fun h => ?_) (fun h => ?_)
              · refine x_sub [0, 1] rfl ?_
                exact j_173 S34 x2 h
              · refine x_tload_n C eX23_variant_147 rfl 0 rfl ?_
                refine x_iconst (v := 2) C eX23_variant_148 (by decide) ?_
                refine x_cVi (As := [.int 2]) (st := []) (n := 1) (frc := 1) (loc := 20) C h (fun S9 r9 e9 => k_X23_is l D K m9 mr _ S9 2 r9 e9) ww_9 ww_17 ww_18 ww_19 ww_16 (by decide +kernel) rfl ⟨by omega, by omega⟩ (Nat.le_of_ble_eq_true rfl) eX23_variant_149 (fun S36 v37 h => ?_)
                refine x_if_ne (tgt := 173) C eX23_variant_152 (by decide) h (fun h => ?_) (fun h => ?_)
                · refine x_sub [0, 1] rfl ?_
                  exact j_173 S36 x2 h
                · refine x_tload_n C eX23_variant_155 rfl 0 rfl ?_
                  refine x_bipush (v := 23) C eX23_variant_156 (by decide) ?_
                  refine x_cVi (As := [.int 23]) (st := []) (n := 1) (frc := 1) (loc := 20) C h (fun S9 r9 e9 => k_X23_is l D K m9 mr _ S9 23 r9 e9) ww_9 ww_17 ww_18 ww_19 ww_16 (by decide +kernel) rfl ⟨by omega, by omega⟩ (Nat.le_of_ble_eq_true rfl) eX23_variant_158 (fun S38 v39 h => ?_)
                  refine x_if_ne (tgt := 173) C eX23_variant_161 (by decide) h (fun h => ?_) (fun h => ?_)
                  · refine x_sub [0, 1] rfl ?_
                    exact j_173 S38 x2 h
                  · refine x_tload_n C eX23_variant_164 rfl 0 rfl ?_
                    refine x_bipush (v := 55) C eX23_variant_165 (by decide) ?_
                    refine x_cVi (As := [.int 55]) (st := []) (n := 1) (frc := 1) (loc := 20) C h (fun S9 r9 e9 => k_X23_is l D K m9 mr _ S9 55 r9 e9) ww_9 ww_17 ww_18 ww_19 ww_16 (by decide +kernel) rfl ⟨by omega, by omega⟩ (Nat.le_of_ble_eq_true rfl) eX23_variant_167 (fun S40 v41 h => ?_)
                    refine x_if_eq (tgt := 177) C eX23_variant_170 (by decide) h (fun h => ?_) (fun h => ?_)
                    · refine x_iconst (v := 0) C eX23_variant_177 (by decide) ?_
                      refine x_sub [0, 1] rfl ?_
                      exact j_178 S40 x2 0 h
                    · refine x_sub [0, 1] rfl ?_
                      exact j_173 S40 x2 h
  have j_67 : ∀ (S : Sg) (x1 : Option Nat) (x2 : Option Nat) (y0 : Int32) (y1 : Option Nat), f_variant_67 K S x1 x2 y0 y1 = some (Sf, rf) → WX p l e R s m args below meth c Q D A K m9 mr 6 S0 S 67 [(0, .ref m9), (1, va_rf x1), (2, va_rf x2)] [.int y0, va_rf y1] := by
    intro S x1 x2 y0 y1 h
    unfold f_variant_67 at h
    refine x_aload_n C eX23_variant_67 rfl 2 rfl ?_
    refine x_bQ (t9 := 13) (ci := 17) C rfl rfl eX23_variant_68 h (fun S17 h => ?_)
    refine x_aload_n C eX23_variant_69 rfl 1 rfl ?_
    refine x_dup C eX23_variant_70 (cat_rf x1) ?_
    refine x_gI (o9 := x1) (ci := 16) (k9 := 3) (Cn := RX16) (T := TX16) (N := 22) C rfl wt_X16 (by decide) ww_51 eX23_variant_71 h (fun v18 h => ?_)
    refine x_iconst (v := 1) C eX23_variant_74 (by decide) ?_
    refine x_iadd C eX23_variant_75 ?_
    refine x_pI (o9 := x1) (ci := 16) (k9 := 3) (Cn := RX16) (T := TX16) (N := 22) C rfl wt_X16 tyX16_ok nmX16 (by decide) ww_51 rfl (by decide +kernel) eX23_variant_76 h (fun S19 h => ?_)
    refine x_tload_n C eX23_variant_79 rfl 0 rfl ?_
    refine x_bipush (v := 61) C eX23_variant_80 (by decide) ?_
    refine x_cVi (As := [.int 61]) (st := []) (n := 1) (frc := 2) (loc := 41) C h (fun S9 r9 e9 => k_X23_takes l D K m9 mr _ S9 61 r9 e9) ww_23 ww_42 ww_43 ww_44 ww_16 (by decide +kernel) rfl ⟨by omega, by omega⟩ (Nat.le_of_ble_eq_true rfl) eX23_variant_82 (fun S20 v21 h => ?_)
    refine x_if_ne (tgt := 89) C eX23_variant_85 (by decide) h (fun h => ?_) (fun h => ?_)
    · refine x_aload_n C eX23_variant_89 rfl 2 rfl ?_
      refine x_bipush (v := 12) C eX23_variant_90 (by decide) ?_
      refine x_nQ (t9 := 12) C rfl C.2.2.2.1.2.2.2.2.2.1 ww_32 eX23_variant_92 h (fun S22 a23 h => ?_)
      refine x_pA (o9 := x2) (tA := (.object "OwnedPlacesModel$Written")) (ci := 17) (k9 := 1) (Cn := RX17) (T := TX17) (N := 3) C rfl wt_X17 tyX17_ok nmX17 (by decide) ww_66 rfl (by decide +kernel) eX23_variant_95 h (fun S24 h => ?_)
      refine x_aload_n C eX23_variant_98 rfl 2 rfl ?_
      refine x_bipush (v := 12) C eX23_variant_99 (by decide) ?_
      refine x_nQ (t9 := 4) C rfl C.2.2.2.1.2.2.2.2.2.2.1 ww_67 eX23_variant_101 h (fun S25 a26 h => ?_)
      refine x_pA (o9 := x2) (tA := (.object "OwnedPlacesModel$Type")) (ci := 17) (k9 := 2) (Cn := RX17) (T := TX17) (N := 3) C rfl wt_X17 tyX17_ok nmX17 (by decide) ww_68 rfl (by decide +kernel) eX23_variant_104 h (fun S27 h => ?_)
      refine x_iconst (v := 1) C eX23_variant_107 (by decide) ?_
      refine x_istore_n (lv2 := [(0, .ref m9), (1, va_rf x1), (2, va_rf x2)]) C eX23_variant_108 rfl (by decide) rfl (oky rfl (oky (cat_rf x1) (oky (cat_rf x2) ok0))) ?_
      refine x_sub [1, 3, 0] rfl ?_
      exact j_109 bigN S27 x2 1 h
    · exact x_vret C rfl rfl eX23_variant_88 h
  have j_40 : ∀ (S : Sg) (x1 : Option Nat) (x2 : Option Nat) (y0 : Int32) (y1 : Option Nat), f_variant_40 K S x1 x2 y0 y1 = some (Sf, rf) → WX p l e R s m args below meth c Q D A K m9 mr 6 S0 S 40 [(0, .ref m9), (1, va_rf x1), (2, va_rf x2)] [.int y0, va_rf y1] := by
    intro S x1 x2 y0 y1 h
    unfold f_variant_40 at h
    refine x_tload_n C eX23_variant_40 rfl 0 rfl ?_
    refine x_cVi (As := []) (st := [.int y0, va_rf y1]) (n := 0) (frc := 3) (loc := 63) C h (fun S9 r9 e9 => k_X23_name l D K m9 mr _ S9 r9 e9) ww_24 ww_56 ww_57 ww_58 ww_16 (by decide +kernel) rfl ⟨by omega, by omega⟩ (Nat.le_of_ble_eq_true rfl) eX23_variant_41 (fun S11 v12 h => ?_)
    refine x_bI C eX23_variant_44 h (fun S13 h => ?_)
    refine x_aload_n C eX23_variant_45 rfl 1 rfl ?_
    refine x_gR (o9 := x1) (ci := 16) (k9 := 11) (Cn := RX16) (T := TX16) (N := 22) C rfl wt_X16 (by decide) ww_65 eX23_variant_46 h (fun v14 h => ?_)
    refine x_aload_n C eX23_variant_49 rfl 1 rfl ?_
    refine x_gI (o9 := x1) (ci := 16) (k9 := 3) (Cn := RX16) (T := TX16) (N := 22) C rfl wt_X16 (by decide) ww_51 eX23_variant_50 h (fun v15 h => ?_)
    refine x_bipush (v := 13) C eX23_variant_53 (by decide) ?_
    refine x_ic_ge (tgt := 65) C eX23_variant_55 (by decide) h (fun h => ?_) (fun h => ?_)
    · refine x_bipush (v := 12) C eX23_variant_65 (by decide) ?_
      refine x_sub [0, 1, 2] rfl ?_
      exact j_67 S13 x1 x2 12 v14 h
    · refine x_aload_n C eX23_variant_58 rfl 1 rfl ?_
      refine x_gI (o9 := x1) (ci := 16) (k9 := 3) (Cn := RX16) (T := TX16) (N := 22) C rfl wt_X16 (by decide) ww_51 eX23_variant_59 h (fun v16 h => ?_)
      refine x_goto (tgt := 67) C eX23_variant_62 (by decide) ?_
      refine x_sub [0, 1, 2] rfl ?_
      exact j_67 S13 x1 x2 v16 v14 h
  unfold f_variant at h
  refine x_tload_n C eX23_variant_0 rfl 0 rfl ?_
  refine x_aload_n C eX23_variant_1 rfl 1 rfl ?_
  refine x_gI (o9 := x1) (ci := 16) (k9 := 3) (Cn := RX16) (T := TX16) (N := 22) C rfl wt_X16 (by decide) ww_51 eX23_variant_2 h (fun v1 h => ?_)
  refine x_bipush (v := 12) C eX23_variant_5 (by decide) ?_
  refine x_cVv (As := [.int v1, .int 12]) (st := []) (n := 2) (frc := 2) (loc := 42) C h (fun S9 r9 e9 => k_X23_limit l D K m9 mr _ S9 v1 12 r9 e9) ww_30 ww_52 ww_53 ww_54 ww_16 (by decide +kernel) rfl ⟨by omega, by omega⟩ (Nat.le_of_ble_eq_true rfl) eX23_variant_7 (fun S2 v3 h => ?_)
  refine x_nO (ci := 17) (Cn := RX17) (T := TX17) (ty0 := tyX17) C rfl wt_X17 tyX17_ok ww_61 ww_62 ww_63 dv_X17 eX23_variant_10 h (fun S4 a5 h => ?_)
  refine x_dup C eX23_variant_13 (cat_rf (some a5)) ?_
  refine x_callIN (b := a5) (frc := 1) (loc := 20) C (k_X17_init l D K m9 mr S4 a5) ww_983 C.2.2.2.1.1.2.1 ww_63 ww_64 rfl (by decide +kernel) ⟨by omega, by omega⟩ (Nat.le_of_ble_eq_true rfl) eX23_variant_14 ?_
  refine x_astore_n (lv2 := [(0, .ref m9), (1, va_rf x1)]) C eX23_variant_17 rfl (by decide) rfl (oky rfl (oky (cat_rf x1) ok0)) ?_
  refine x_aload_n C eX23_variant_18 rfl 2 rfl ?_
  refine x_gR (o9 := x1) (ci := 16) (k9 := 8) (Cn := RX16) (T := TX16) (N := 22) C rfl wt_X16 (by decide) ww_55 eX23_variant_19 h (fun v8 h => ?_)
  refine x_aload_n C eX23_variant_22 rfl 2 rfl ?_
  refine x_gI (o9 := x1) (ci := 16) (k9 := 3) (Cn := RX16) (T := TX16) (N := 22) C rfl wt_X16 (by decide) ww_51 eX23_variant_23 h (fun v9 h => ?_)
  refine x_bipush (v := 13) C eX23_variant_26 (by decide) ?_
  refine x_ic_ge (tgt := 38) C eX23_variant_28 (by decide) h (fun h => ?_) (fun h => ?_)
  · refine x_bipush (v := 12) C eX23_variant_38 (by decide) ?_
    refine x_sub [1, 2, 0] rfl ?_
    exact j_40 S4 x1 (some a5) 12 v8 h
  · refine x_aload_n C eX23_variant_31 rfl 2 rfl ?_
    refine x_gI (o9 := x1) (ci := 16) (k9 := 3) (Cn := RX16) (T := TX16) (N := 22) C rfl wt_X16 (by decide) ww_51 eX23_variant_32 h (fun v10 h => ?_)
    refine x_goto (tgt := 40) C eX23_variant_35 (by decide) ?_
    refine x_sub [1, 2, 0] rfl ?_
    exact j_40 S4 x1 (some a5) v10 v8 h
set_option maxRecDepth 20000 in
set_option maxHeartbeats 4000000 in
theorem k_X23_typeItem (l : Launch) (D : va_G) (K : Ky) (m9 : Nat) (mr : Nat → Nat) (S0 Sf : Sg) (x1 : Option Nat) (rf : Unit) (h : f_typeItem K S0 x1 = some (Sf, rf)) : CT l D K m9 mr yX23_typeItem (Cond.code yX23_typeItem cX23_typeItem 3 none) (25) (550) S0 Sf [.ref m9, va_rf x1] none := by
  refine x_start (cc := cX23_typeItem) (lv := [(0, .ref m9), (1, va_rf x1)]) rfl rfl (by decide) (by simp [lv_args, cat_rf, cat_i, cat_l, cat_a]) (by simp [lg_sl, cat_rf, cat_i, cat_l, cat_a]) (fun p e R s m args below meth c Q A C => ?_)
  have j_163 : ∀ (S : Sg), f_typeItem_163 K S = some (Sf, rf) → WX p l e R s m args below meth c Q D A K m9 mr 3 S0 S 163 [(0, .ref m9)] [] := by
    intro S h
    unfold f_typeItem_163 at h
    refine x_tload_n C eX23_typeItem_163 rfl 0 rfl ?_
    refine x_bipush (v := 64) C eX23_typeItem_164 (by decide) ?_
    refine x_cVv (As := [.int 64]) (st := []) (n := 1) (frc := 2) (loc := 42) C h (fun S9 r9 e9 => k_X23_take l D K m9 mr _ S9 64 r9 e9) ww_12 ww_25 ww_26 ww_27 ww_16 (by decide +kernel) rfl ⟨by omega, by omega⟩ (Nat.le_of_ble_eq_true rfl) eX23_typeItem_166 (fun S31 v32 h => ?_)
    exact x_vret C rfl rfl eX23_typeItem_169 h
  have j_120 : ∀ (n_120 : Nat) (S : Sg) (x1 : Option Nat) (x2 : Int32), f_typeItem_120 K n_120 S x1 x2 = some (Sf, rf) → WX p l e R s m args below meth c Q D A K m9 mr 3 S0 S 120 [(0, .ref m9), (1, va_rf x1), (2, .int x2)] [] := by
    intro n_120
    induction n_120 with
    | zero => intro S x1 x2 h; unfold f_typeItem_120 at h; cases h
    | succ n_120 ih_120 =>
      intro S x1 x2 h
      have j_153 : ∀ (S : Sg) (x1 : Option Nat), f_typeItem_153 K (f_typeItem_120 K n_120) S x1 = some (Sf, rf) → WX p l e R s m args below meth c Q D A K m9 mr 3 S0 S 153 [(0, .ref m9), (1, va_rf x1)] [] := by
        intro S x1 h
        unfold f_typeItem_153 at h
        refine x_tload_n C eX23_typeItem_153 rfl 0 rfl ?_
        refine x_bipush (v := 57) C eX23_typeItem_154 (by decide) ?_
        refine x_cVi (As := [.int 57]) (st := []) (n := 1) (frc := 2) (loc := 41) C h (fun S9 r9 e9 => k_X23_takes l D K m9 mr _ S9 57 r9 e9) ww_23 ww_42 ww_43 ww_44 ww_16 (by decide +kernel) rfl ⟨by omega, by omega⟩ (Nat.le_of_ble_eq_true rfl) eX23_typeItem_156 (fun S29 v30 h => ?_)
        refine x_istore_n (lv2 := [(0, .ref m9), (1, va_rf x1)]) C eX23_typeItem_159 rfl (by decide) rfl (oky rfl (oky (cat_rf x1) ok0)) ?_
        refine x_goto (tgt := 120) C eX23_typeItem_160 (by decide) ?_
        refine x_sub [1, 2, 0] rfl ?_
        exact ih_120 S29 x1 v30 h
      unfold f_typeItem_120 at h
      refine x_tload_n C eX23_typeItem_120 rfl 0 rfl ?_
      refine x_cVi (As := []) (st := []) (n := 0) (frc := 1) (loc := 20) C h (fun S9 r9 e9 => k_X23_ok l D K m9 mr _ S9 r9 e9) ww_0 ww_13 ww_14 ww_15 ww_16 (by decide +kernel) rfl ⟨by omega, by omega⟩ (Nat.le_of_ble_eq_true rfl) eX23_typeItem_121 (fun S22 v23 h => ?_)
      refine x_if_eq (tgt := 163) C eX23_typeItem_124 (by decide) h (fun h => ?_) (fun h => ?_)
      · refine x_sub [0] rfl ?_
        exact j_163 S22 h
      · refine x_iload_n C eX23_typeItem_127 rfl 2 rfl ?_
        refine x_if_eq (tgt := 163) C eX23_typeItem_128 (by decide) h (fun h => ?_) (fun h => ?_)
        · refine x_sub [0] rfl ?_
          exact j_163 S22 h
        · refine x_aload_n C eX23_typeItem_131 rfl 1 rfl ?_
          refine x_gI (o9 := x1) (ci := 16) (k9 := 2) (Cn := RX16) (T := TX16) (N := 22) C rfl wt_X16 (by decide) ww_72 eX23_typeItem_132 h (fun v24 h => ?_)
          refine x_bipush (v := 10) C eX23_typeItem_135 (by decide) ?_
          refine x_ic_ne (tgt := 148) C eX23_typeItem_137 (by decide) h (fun h => ?_) (fun h => ?_)
          · refine x_tload_n C eX23_typeItem_148 rfl 0 rfl ?_
            refine x_aload_n C eX23_typeItem_149 rfl 1 rfl ?_
            refine x_cVv (As := [va_rf x1]) (st := []) (n := 1) (frc := 24) (loc := 525) C h (fun S9 r9 e9 => k_X23_variant l D K m9 mr _ S9 x1 r9 e9) ww_60 ww_78 ww_79 ww_80 ww_16 (by decide +kernel) rfl ⟨by omega, by omega⟩ (Nat.le_of_ble_eq_true rfl) eX23_typeItem_150 (fun S25 v26 h => ?_)
            refine x_sub [0, 1] rfl ?_
            exact j_153 S25 x1 h
          · refine x_tload_n C eX23_typeItem_140 rfl 0 rfl ?_
            refine x_aload_n C eX23_typeItem_141 rfl 1 rfl ?_
            refine x_cVv (As := [va_rf x1]) (st := []) (n := 1) (frc := 24) (loc := 525) C h (fun S9 r9 e9 => k_X23_fields l D K m9 mr _ S9 x1 r9 e9) ww_50 ww_75 ww_76 ww_77 ww_16 (by decide +kernel) rfl ⟨by omega, by omega⟩ (Nat.le_of_ble_eq_true rfl) eX23_typeItem_142 (fun S27 v28 h => ?_)
            refine x_goto (tgt := 153) C eX23_typeItem_145 (by decide) ?_
            refine x_sub [0, 1] rfl ?_
            exact j_153 S27 x1 h
  have j_101 : ∀ (S : Sg) (x1 : Option Nat) (y0 : Option Nat) (y1 : Option Nat), f_typeItem_101 K S x1 y0 y1 = some (Sf, rf) → WX p l e R s m args below meth c Q D A K m9 mr 3 S0 S 101 [(0, .ref m9), (1, va_rf x1)] [va_rf y0, va_rf y1] := by
    intro S x1 y0 y1 h
    unfold f_typeItem_101 at h
    refine x_pA (o9 := y1) (tA := (.object "OwnedPlacesModel$Parts")) (ci := 16) (k9 := 11) (Cn := RX16) (T := TX16) (N := 22) C rfl wt_X16 tyX16_ok nmX16 (by decide) ww_65 rfl (by decide +kernel) eX23_typeItem_101 h (fun S16 h => ?_)
    refine x_aload_n C eX23_typeItem_104 rfl 1 rfl ?_
    refine x_tload_n C eX23_typeItem_105 rfl 0 rfl ?_
    refine x_cVi (As := []) (st := [va_rf x1]) (n := 0) (frc := 3) (loc := 63) C h (fun S9 r9 e9 => k_X23_name l D K m9 mr _ S9 r9 e9) ww_24 ww_56 ww_57 ww_58 ww_16 (by decide +kernel) rfl ⟨by omega, by omega⟩ (Nat.le_of_ble_eq_true rfl) eX23_typeItem_106 (fun S17 v18 h => ?_)
    refine x_pI (o9 := x1) (ci := 16) (k9 := 1) (Cn := RX16) (T := TX16) (N := 22) C rfl wt_X16 tyX16_ok nmX16 (by decide) ww_74 rfl (by decide +kernel) eX23_typeItem_109 h (fun S19 h => ?_)
    refine x_tload_n C eX23_typeItem_112 rfl 0 rfl ?_
    refine x_bipush (v := 63) C eX23_typeItem_113 (by decide) ?_
    refine x_cVv (As := [.int 63]) (st := []) (n := 1) (frc := 2) (loc := 42) C h (fun S9 r9 e9 => k_X23_take l D K m9 mr _ S9 63 r9 e9) ww_12 ww_25 ww_26 ww_27 ww_16 (by decide +kernel) rfl ⟨by omega, by omega⟩ (Nat.le_of_ble_eq_true rfl) eX23_typeItem_115 (fun S20 v21 h => ?_)
    refine x_iconst (v := 1) C eX23_typeItem_118 (by decide) ?_
    refine x_istore_n (lv2 := [(0, .ref m9), (1, va_rf x1)]) C eX23_typeItem_119 rfl (by decide) rfl (oky rfl (oky (cat_rf x1) ok0)) ?_
    refine x_sub [1, 2, 0] rfl ?_
    exact j_120 bigN S20 x1 1 h
  have j_79 : ∀ (S : Sg) (x1 : Option Nat) (y0 : Option Nat) (y1 : Option Nat), f_typeItem_79 K S x1 y0 y1 = some (Sf, rf) → WX p l e R s m args below meth c Q D A K m9 mr 3 S0 S 79 [(0, .ref m9), (1, va_rf x1)] [va_rf y0, va_rf y1] := by
    intro S x1 y0 y1 h
    unfold f_typeItem_79 at h
    refine x_pA (o9 := y1) (tA := (.object "OwnedPlacesModel$Type")) (ci := 16) (k9 := 10) (Cn := RX16) (T := TX16) (N := 22) C rfl wt_X16 tyX16_ok nmX16 (by decide) ww_73 rfl (by decide +kernel) eX23_typeItem_79 h (fun S12 h => ?_)
    refine x_aload_n C eX23_typeItem_82 rfl 1 rfl ?_
    refine x_aload_n C eX23_typeItem_83 rfl 1 rfl ?_
    refine x_gI (o9 := x1) (ci := 16) (k9 := 2) (Cn := RX16) (T := TX16) (N := 22) C rfl wt_X16 (by decide) ww_72 eX23_typeItem_84 h (fun v13 h => ?_)
    refine x_bipush (v := 11) C eX23_typeItem_87 (by decide) ?_
    refine x_ic_ne (tgt := 100) C eX23_typeItem_89 (by decide) h (fun h => ?_) (fun h => ?_)
    · refine x_null C eX23_typeItem_100 ?_
      refine x_sub [0, 1] rfl ?_
      exact j_101 S12 x1 none x1 h
    · refine x_bipush (v := 13) C eX23_typeItem_92 (by decide) ?_
      refine x_nQ (t9 := 13) C rfl C.2.2.2.1.2.2.2.2.2.2.2.1 ww_61 eX23_typeItem_94 h (fun S14 a15 h => ?_)
      refine x_goto (tgt := 101) C eX23_typeItem_97 (by decide) ?_
      refine x_sub [0, 1] rfl ?_
      exact j_101 S14 x1 (some a15) x1 h
  have j_57 : ∀ (S : Sg) (x1 : Option Nat) (y0 : Option Nat) (y1 : Option Nat), f_typeItem_57 K S x1 y0 y1 = some (Sf, rf) → WX p l e R s m args below meth c Q D A K m9 mr 3 S0 S 57 [(0, .ref m9), (1, va_rf x1)] [va_rf y0, va_rf y1] := by
    intro S x1 y0 y1 h
    unfold f_typeItem_57 at h
    refine x_pA (o9 := y1) (tA := (.object "OwnedPlacesModel$Written")) (ci := 16) (k9 := 9) (Cn := RX16) (T := TX16) (N := 22) C rfl wt_X16 tyX16_ok nmX16 (by decide) ww_59 rfl (by decide +kernel) eX23_typeItem_57 h (fun S8 h => ?_)
    refine x_aload_n C eX23_typeItem_60 rfl 1 rfl ?_
    refine x_aload_n C eX23_typeItem_61 rfl 1 rfl ?_
    refine x_gI (o9 := x1) (ci := 16) (k9 := 2) (Cn := RX16) (T := TX16) (N := 22) C rfl wt_X16 (by decide) ww_72 eX23_typeItem_62 h (fun v9 h => ?_)
    refine x_bipush (v := 10) C eX23_typeItem_65 (by decide) ?_
    refine x_ic_ne (tgt := 78) C eX23_typeItem_67 (by decide) h (fun h => ?_) (fun h => ?_)
    · refine x_null C eX23_typeItem_78 ?_
      refine x_sub [0, 1] rfl ?_
      exact j_79 S8 x1 none x1 h
    · refine x_bipush (v := 13) C eX23_typeItem_70 (by decide) ?_
      refine x_nQ (t9 := 4) C rfl C.2.2.2.1.2.2.2.2.2.2.1 ww_67 eX23_typeItem_72 h (fun S10 a11 h => ?_)
      refine x_goto (tgt := 79) C eX23_typeItem_75 (by decide) ?_
      refine x_sub [0, 1] rfl ?_
      exact j_79 S10 x1 (some a11) x1 h
  have j_18 : ∀ (S : Sg) (x1 : Option Nat), f_typeItem_18 K S x1 = some (Sf, rf) → WX p l e R s m args below meth c Q D A K m9 mr 3 S0 S 18 [(0, .ref m9), (1, va_rf x1)] [] := by
    intro S x1 h
    unfold f_typeItem_18 at h
    refine x_tload_n C eX23_typeItem_18 rfl 0 rfl ?_
    refine x_dup C eX23_typeItem_19 rfl ?_
    refine x_mV (k9 := 13) C (by decide) ww_71 eX23_typeItem_20 rfl ?_
    refine x_iconst (v := 1) C eX23_typeItem_23 (by decide) ?_
    refine x_iadd C eX23_typeItem_24 ?_
    refine x_pM (k9 := 13) C (by decide) rfl (by decide) ww_71 rfl (by decide +kernel) eX23_typeItem_25 h (fun S3 h => ?_)
    refine x_tload_n C eX23_typeItem_28 rfl 0 rfl ?_
    refine x_dup C eX23_typeItem_29 rfl ?_
    refine x_mV (k9 := 10) C (by decide) ww_11 eX23_typeItem_30 rfl ?_
    refine x_iconst (v := 1) C eX23_typeItem_33 (by decide) ?_
    refine x_iadd C eX23_typeItem_34 ?_
    refine x_pM (k9 := 10) C (by decide) rfl (by decide) ww_11 rfl (by decide +kernel) eX23_typeItem_35 h (fun S4 h => ?_)
    refine x_aload_n C eX23_typeItem_38 rfl 1 rfl ?_
    refine x_aload_n C eX23_typeItem_39 rfl 1 rfl ?_
    refine x_gI (o9 := x1) (ci := 16) (k9 := 2) (Cn := RX16) (T := TX16) (N := 22) C rfl wt_X16 (by decide) ww_72 eX23_typeItem_40 h (fun v5 h => ?_)
    refine x_bipush (v := 10) C eX23_typeItem_43 (by decide) ?_
    refine x_ic_ne (tgt := 56) C eX23_typeItem_45 (by decide) h (fun h => ?_) (fun h => ?_)
    · refine x_null C eX23_typeItem_56 ?_
      refine x_sub [0, 1] rfl ?_
      exact j_57 S4 x1 none x1 h
    · refine x_bipush (v := 13) C eX23_typeItem_48 (by decide) ?_
      refine x_nQ (t9 := 12) C rfl C.2.2.2.1.2.2.2.2.2.1 ww_32 eX23_typeItem_50 h (fun S6 a7 h => ?_)
      refine x_goto (tgt := 57) C eX23_typeItem_53 (by decide) ?_
      refine x_sub [0, 1] rfl ?_
      exact j_57 S6 x1 (some a7) x1 h
  unfold f_typeItem at h
  refine x_tload_n C eX23_typeItem_0 rfl 0 rfl ?_
  refine x_mV (k9 := 13) C (by decide) ww_71 eX23_typeItem_1 rfl ?_
  refine x_bipush (v := 30) C eX23_typeItem_4 (by decide) ?_
  refine x_ic_ne (tgt := 18) C eX23_typeItem_6 (by decide) h (fun h => ?_) (fun h => ?_)
  · refine x_sub [0, 1] rfl ?_
    exact j_18 S0 x1 h
  · refine x_tload_n C eX23_typeItem_9 rfl 0 rfl ?_
    refine x_iconst (v := 2) C eX23_typeItem_10 (by decide) ?_
    refine x_tload_n C eX23_typeItem_11 rfl 0 rfl ?_
    refine x_mV (k9 := 10) C (by decide) ww_11 eX23_typeItem_12 rfl ?_
    refine x_cVv (As := [.int 2, .int (Zi S0 10)]) (st := []) (n := 2) (frc := 1) (loc := 20) C h (fun S9 r9 e9 => k_X23_fail l D K m9 mr _ S9 2 (Zi S0 10) r9 e9) ww_2 ww_20 ww_21 ww_22 ww_16 (by decide +kernel) rfl ⟨by omega, by omega⟩ (Nat.le_of_ble_eq_true rfl) eX23_typeItem_15 (fun S1 v2 h => ?_)
    refine x_sub [0, 1] rfl ?_
    exact j_18 S1 x1 h
set_option maxRecDepth 20000 in
set_option maxHeartbeats 4000000 in
theorem k_X23_takeLives (l : Launch) (D : va_G) (K : Ky) (m9 : Nat) (mr : Nat → Nat) (S0 Sf : Sg) (x1 : Option Nat) (rf : Unit) (h : f_takeLives K S0 x1 = some (Sf, rf)) : CT l D K m9 mr yX23_takeLives (Cond.code yX23_takeLives cX23_takeLives 3 none) (3) (63) S0 Sf [.ref m9, va_rf x1] none := by
  refine x_start (cc := cX23_takeLives) (lv := [(0, .ref m9), (1, va_rf x1)]) rfl rfl (by decide) (by simp [lv_args, cat_rf, cat_i, cat_l, cat_a]) (by simp [lg_sl, cat_rf, cat_i, cat_l, cat_a]) (fun p e R s m args below meth c Q A C => ?_)
  have j_86 : ∀ (S : Sg), f_takeLives_86 K S = some (Sf, rf) → WX p l e R s m args below meth c Q D A K m9 mr 3 S0 S 86 [(0, .ref m9)] [] := by
    intro S h
    unfold f_takeLives_86 at h
    refine x_tload_n C eX23_takeLives_86 rfl 0 rfl ?_
    refine x_bipush (v := 49) C eX23_takeLives_87 (by decide) ?_
    refine x_cVv (As := [.int 49]) (st := []) (n := 1) (frc := 2) (loc := 42) C h (fun S9 r9 e9 => k_X23_take l D K m9 mr _ S9 49 r9 e9) ww_12 ww_25 ww_26 ww_27 ww_16 (by decide +kernel) rfl ⟨by omega, by omega⟩ (Nat.le_of_ble_eq_true rfl) eX23_takeLives_89 (fun S19 v20 h => ?_)
    exact x_vret C rfl rfl eX23_takeLives_92 h
  have j_2 : ∀ (n_2 : Nat) (S : Sg) (x1 : Option Nat) (x2 : Int32), f_takeLives_2 K n_2 S x1 x2 = some (Sf, rf) → WX p l e R s m args below meth c Q D A K m9 mr 3 S0 S 2 [(0, .ref m9), (1, va_rf x1), (2, .int x2)] [] := by
    intro n_2
    induction n_2 with
    | zero => intro S x1 x2 h; unfold f_takeLives_2 at h; cases h
    | succ n_2 ih_2 =>
      intro S x1 x2 h
      have j_66 : ∀ (S : Sg) (x1 : Option Nat), f_takeLives_66 K (f_takeLives_2 K n_2) S x1 = some (Sf, rf) → WX p l e R s m args below meth c Q D A K m9 mr 3 S0 S 66 [(0, .ref m9), (1, va_rf x1)] [] := by
        intro S x1 h
        unfold f_takeLives_66 at h
        refine x_aload_n C eX23_takeLives_66 rfl 1 rfl ?_
        refine x_dup C eX23_takeLives_67 (cat_rf x1) ?_
        refine x_gI (o9 := x1) (ci := 16) (k9 := 6) (Cn := RX16) (T := TX16) (N := 22) C rfl wt_X16 (by decide) ww_82 eX23_takeLives_68 h (fun v15 h => ?_)
        refine x_iconst (v := 1) C eX23_takeLives_71 (by decide) ?_
        refine x_iadd C eX23_takeLives_72 ?_
        refine x_pI (o9 := x1) (ci := 16) (k9 := 6) (Cn := RX16) (T := TX16) (N := 22) C rfl wt_X16 tyX16_ok nmX16 (by decide) ww_82 rfl (by decide +kernel) eX23_takeLives_73 h (fun S16 h => ?_)
        refine x_tload_n C eX23_takeLives_76 rfl 0 rfl ?_
        refine x_bipush (v := 57) C eX23_takeLives_77 (by decide) ?_
        refine x_cVi (As := [.int 57]) (st := []) (n := 1) (frc := 2) (loc := 41) C h (fun S9 r9 e9 => k_X23_takes l D K m9 mr _ S9 57 r9 e9) ww_23 ww_42 ww_43 ww_44 ww_16 (by decide +kernel) rfl ⟨by omega, by omega⟩ (Nat.le_of_ble_eq_true rfl) eX23_takeLives_79 (fun S17 v18 h => ?_)
        refine x_istore_n (lv2 := [(0, .ref m9), (1, va_rf x1)]) C eX23_takeLives_82 rfl (by decide) rfl (oky rfl (oky (cat_rf x1) ok0)) ?_
        refine x_goto (tgt := 2) C eX23_takeLives_83 (by decide) ?_
        refine x_sub [1, 2, 0] rfl ?_
        exact ih_2 S17 x1 v18 h
      have j_39 : ∀ (S : Sg) (x1 : Option Nat), f_takeLives_39 K (f_takeLives_2 K n_2) S x1 = some (Sf, rf) → WX p l e R s m args below meth c Q D A K m9 mr 3 S0 S 39 [(0, .ref m9), (1, va_rf x1)] [] := by
        intro S x1 h
        unfold f_takeLives_39 at h
        refine x_tload_n C eX23_takeLives_39 rfl 0 rfl ?_
        refine x_iconst (v := 4) C eX23_takeLives_40 (by decide) ?_
        refine x_cVv (As := [.int 4]) (st := []) (n := 1) (frc := 2) (loc := 42) C h (fun S9 r9 e9 => k_X23_take l D K m9 mr _ S9 4 r9 e9) ww_12 ww_25 ww_26 ww_27 ww_16 (by decide +kernel) rfl ⟨by omega, by omega⟩ (Nat.le_of_ble_eq_true rfl) eX23_takeLives_41 (fun S8 v9 h => ?_)
        refine x_tload_n C eX23_takeLives_44 rfl 0 rfl ?_
        refine x_cVi (As := []) (st := []) (n := 0) (frc := 1) (loc := 20) C h (fun S9 r9 e9 => k_X23_ok l D K m9 mr _ S9 r9 e9) ww_0 ww_13 ww_14 ww_15 ww_16 (by decide +kernel) rfl ⟨by omega, by omega⟩ (Nat.le_of_ble_eq_true rfl) eX23_takeLives_45 (fun S10 v11 h => ?_)
        refine x_if_eq (tgt := 66) C eX23_takeLives_48 (by decide) h (fun h => ?_) (fun h => ?_)
        · refine x_sub [0, 1] rfl ?_
          exact j_66 S10 x1 h
        · refine x_aload_n C eX23_takeLives_51 rfl 1 rfl ?_
          refine x_gR (o9 := x1) (ci := 16) (k9 := 12) (Cn := RX16) (T := TX16) (N := 22) C rfl wt_X16 (by decide) ww_83 eX23_takeLives_52 h (fun v12 h => ?_)
          refine x_aload_n C eX23_takeLives_55 rfl 1 rfl ?_
          refine x_gI (o9 := x1) (ci := 16) (k9 := 6) (Cn := RX16) (T := TX16) (N := 22) C rfl wt_X16 (by decide) ww_82 eX23_takeLives_56 h (fun v13 h => ?_)
          refine x_tload_n C eX23_takeLives_59 rfl 0 rfl ?_
          refine x_mV (k9 := 10) C (by decide) ww_11 eX23_takeLives_60 rfl ?_
          refine x_iconst (v := 1) C eX23_takeLives_63 (by decide) ?_
          refine x_isub C eX23_takeLives_64 ?_
          refine x_bI C eX23_takeLives_65 h (fun S14 h => ?_)
          refine x_sub [0, 1] rfl ?_
          exact j_66 S14 x1 h
      unfold f_takeLives_2 at h
      refine x_tload_n C eX23_takeLives_2 rfl 0 rfl ?_
      refine x_cVi (As := []) (st := []) (n := 0) (frc := 1) (loc := 20) C h (fun S9 r9 e9 => k_X23_ok l D K m9 mr _ S9 r9 e9) ww_0 ww_13 ww_14 ww_15 ww_16 (by decide +kernel) rfl ⟨by omega, by omega⟩ (Nat.le_of_ble_eq_true rfl) eX23_takeLives_3 (fun S1 v2 h => ?_)
      refine x_if_eq (tgt := 86) C eX23_takeLives_6 (by decide) h (fun h => ?_) (fun h => ?_)
      · refine x_sub [0] rfl ?_
        exact j_86 S1 h
      · refine x_iload_n C eX23_takeLives_9 rfl 2 rfl ?_
        refine x_if_eq (tgt := 86) C eX23_takeLives_10 (by decide) h (fun h => ?_) (fun h => ?_)
        · refine x_sub [0] rfl ?_
          exact j_86 S1 h
        · refine x_tload_n C eX23_takeLives_13 rfl 0 rfl ?_
          refine x_iconst (v := 4) C eX23_takeLives_14 (by decide) ?_
          refine x_cVi (As := [.int 4]) (st := []) (n := 1) (frc := 1) (loc := 20) C h (fun S9 r9 e9 => k_X23_is l D K m9 mr _ S9 4 r9 e9) ww_9 ww_17 ww_18 ww_19 ww_16 (by decide +kernel) rfl ⟨by omega, by omega⟩ (Nat.le_of_ble_eq_true rfl) eX23_takeLives_15 (fun S3 v4 h => ?_)
          refine x_if_eq (tgt := 39) C eX23_takeLives_18 (by decide) h (fun h => ?_) (fun h => ?_)
          · refine x_sub [0, 1] rfl ?_
            exact j_39 S3 x1 h
          · refine x_aload_n C eX23_takeLives_21 rfl 1 rfl ?_
            refine x_gI (o9 := x1) (ci := 16) (k9 := 6) (Cn := RX16) (T := TX16) (N := 22) C rfl wt_X16 (by decide) ww_82 eX23_takeLives_22 h (fun v5 h => ?_)
            refine x_bipush (v := 8) C eX23_takeLives_25 (by decide) ?_
            refine x_ic_ne (tgt := 39) C eX23_takeLives_27 (by decide) h (fun h => ?_) (fun h => ?_)
            · refine x_sub [0, 1] rfl ?_
              exact j_39 S3 x1 h
            · refine x_tload_n C eX23_takeLives_30 rfl 0 rfl ?_
              refine x_iconst (v := 2) C eX23_takeLives_31 (by decide) ?_
              refine x_tload_n C eX23_takeLives_32 rfl 0 rfl ?_
              refine x_mV (k9 := 10) C (by decide) ww_11 eX23_takeLives_33 rfl ?_
              refine x_cVv (As := [.int 2, .int (Zi S3 10)]) (st := []) (n := 2) (frc := 1) (loc := 20) C h (fun S9 r9 e9 => k_X23_fail l D K m9 mr _ S9 2 (Zi S3 10) r9 e9) ww_2 ww_20 ww_21 ww_22 ww_16 (by decide +kernel) rfl ⟨by omega, by omega⟩ (Nat.le_of_ble_eq_true rfl) eX23_takeLives_36 (fun S6 v7 h => ?_)
              refine x_sub [0, 1] rfl ?_
              exact j_39 S6 x1 h
  unfold f_takeLives at h
  refine x_iconst (v := 1) C eX23_takeLives_0 (by decide) ?_
  refine x_istore_n (lv2 := [(0, .ref m9), (1, va_rf x1)]) C eX23_takeLives_1 rfl (by decide) rfl (oky rfl (oky (cat_rf x1) ok0)) ?_
  refine x_sub [1, 2, 0] rfl ?_
  exact j_2 bigN S0 x1 1 h
set_option maxRecDepth 20000 in
set_option maxHeartbeats 4000000 in
theorem k_X14_init (l : Launch) (D : va_G) (K : Ky) (m9 : Nat) (mr : Nat → Nat) (S0 Sf : Sg) (x0 : Nat) (rf : Unit) (h : f_X14_init K S0 x0 = some (Sf, rf)) : CT l D K m9 mr yX14_init (Cond.code yX14_init cX14_init 1 none) (1) (20) S0 Sf [.ref x0] none := by
  refine x_start (cc := cX14_init) (lv := [(0, .ref x0)]) rfl rfl (by decide) (by simp [lv_args, cat_rf, cat_i, cat_l, cat_a]) (by simp [lg_sl, cat_rf, cat_i, cat_l, cat_a]) (fun p e R s m args below meth c Q A C => ?_)
  unfold f_X14_init at h
  refine x_tload_n C eX14_init_0 rfl 0 rfl ?_
  refine x_objInit C ww_975 ww_958 ww_959 eX14_init_1 (by omega) (by omega) (Nat.le_of_ble_eq_true rfl) ?_
  refine x_tload_n C eX14_init_4 rfl 0 rfl ?_
  refine x_iconst (v := 4) C eX14_init_5 (by decide) ?_
  refine x_nQ (t9 := 11) C rfl C.2.2.2.1.2.2.1 ww_976 eX14_init_6 h (fun S1 a2 h => ?_)
  refine x_pA (o9 := (some x0)) (tA := (.object "OwnedPlacesModel$Statement")) (ci := 14) (k9 := 2) (Cn := RX14) (T := TX14) (N := 4) C rfl wt_X14 tyX14_ok nmX14 (by decide) ww_977 rfl (by decide +kernel) eX14_init_9 h (fun S3 h => ?_)
  exact x_vret C rfl rfl eX14_init_12 h
set_option maxRecDepth 20000 in
set_option maxHeartbeats 4000000 in
theorem k_X19_init (l : Launch) (D : va_G) (K : Ky) (m9 : Nat) (mr : Nat → Nat) (S0 : Sg) (x0 : Nat) : CT l D K m9 mr yX19_init (Cond.code yX19_init cX19_init 1 none) (1) (20) S0 S0 [.ref x0] none := by
  have h : some (S0, ()) = some (S0, ()) := rfl
  refine x_start (cc := cX19_init) (lv := [(0, .ref x0)]) rfl rfl (by decide) (by simp [lv_args, cat_rf, cat_i, cat_l, cat_a]) (by simp [lg_sl, cat_rf, cat_i, cat_l, cat_a]) (fun p e R s m args below meth c Q A C => ?_)
  refine x_tload_n C eX19_init_0 rfl 0 rfl ?_
  refine x_objInit C ww_986 ww_958 ww_959 eX19_init_1 (by omega) (by omega) (Nat.le_of_ble_eq_true rfl) ?_
  exact x_vret C rfl rfl eX19_init_4 h
set_option maxRecDepth 20000 in
set_option maxHeartbeats 4000000 in
theorem k_X15_init (l : Launch) (D : va_G) (K : Ky) (m9 : Nat) (mr : Nat → Nat) (S0 : Sg) (x0 : Nat) : CT l D K m9 mr yX15_init (Cond.code yX15_init cX15_init 1 none) (1) (20) S0 S0 [.ref x0] none := by
  have h : some (S0, ()) = some (S0, ()) := rfl
  refine x_start (cc := cX15_init) (lv := [(0, .ref x0)]) rfl rfl (by decide) (by simp [lv_args, cat_rf, cat_i, cat_l, cat_a]) (by simp [lg_sl, cat_rf, cat_i, cat_l, cat_a]) (fun p e R s m args below meth c Q A C => ?_)
  refine x_tload_n C eX15_init_0 rfl 0 rfl ?_
  refine x_objInit C ww_979 ww_958 ww_959 eX15_init_1 (by omega) (by omega) (Nat.le_of_ble_eq_true rfl) ?_
  exact x_vret C rfl rfl eX15_init_4 h
set_option maxRecDepth 20000 in
set_option maxHeartbeats 4000000 in
theorem k_X23_add (l : Launch) (D : va_G) (K : Ky) (m9 : Nat) (mr : Nat → Nat) (S0 Sf : Sg) (x0 : Option Nat) (x1 : Option Nat) (x2 : Int32) (rf : Unit) (h : f_add K S0 x0 x1 x2 = some (Sf, rf)) : CT l D K m9 mr yX23_add (Cond.code yX23_add cX23_add 6 none) (1) (20) S0 Sf [va_rf x0, va_rf x1, .int x2] none := by
  refine x_start (cc := cX23_add) (lv := [(0, va_rf x0), (1, va_rf x1), (2, .int x2)]) rfl rfl (by decide) (by simp [lv_args, cat_rf, cat_i, cat_l, cat_a]) (by simp [lg_sl, cat_rf, cat_i, cat_l, cat_a]) (fun p e R s m args below meth c Q A C => ?_)
  have j_106 : ∀ (S : Sg) (x0 : Option Nat) (x1 : Option Nat) (x2 : Int32), f_add_106 K S x0 x1 x2 = some (Sf, rf) → WX p l e R s m args below meth c Q D A K m9 mr 6 S0 S 106 [(0, va_rf x0), (1, va_rf x1), (2, .int x2)] [] := by
    intro S x0 x1 x2 h
    unfold f_add_106 at h
    refine x_aload_n C eX23_add_106 rfl 0 rfl ?_
    refine x_gR (o9 := x0) (ci := 15) (k9 := 9) (Cn := RX15) (T := TX15) (N := 14) C rfl wt_X15 (by decide) ww_199 eX23_add_107 h (fun v26 h => ?_)
    refine x_aload_n C eX23_add_110 rfl 0 rfl ?_
    refine x_gI (o9 := x0) (ci := 15) (k9 := 11) (Cn := RX15) (T := TX15) (N := 14) C rfl wt_X15 (by decide) ww_201 eX23_add_111 h (fun v27 h => ?_)
    refine x_aload_n C eX23_add_114 rfl 1 rfl ?_
    refine x_bQ (t9 := 9) (ci := 15) C rfl rfl eX23_add_115 h (fun S28 h => ?_)
    refine x_aload_n C eX23_add_116 rfl 0 rfl ?_
    refine x_gR (o9 := x0) (ci := 15) (k9 := 10) (Cn := RX15) (T := TX15) (N := 14) C rfl wt_X15 (by decide) ww_200 eX23_add_117 h (fun v29 h => ?_)
    refine x_aload_n C eX23_add_120 rfl 0 rfl ?_
    refine x_gI (o9 := x0) (ci := 15) (k9 := 11) (Cn := RX15) (T := TX15) (N := 14) C rfl wt_X15 (by decide) ww_201 eX23_add_121 h (fun v30 h => ?_)
    refine x_iload_n C eX23_add_124 rfl 2 rfl ?_
    refine x_bI C eX23_add_125 h (fun S31 h => ?_)
    refine x_aload_n C eX23_add_126 rfl 0 rfl ?_
    refine x_dup C eX23_add_127 (cat_rf x0) ?_
    refine x_gI (o9 := x0) (ci := 15) (k9 := 11) (Cn := RX15) (T := TX15) (N := 14) C rfl wt_X15 (by decide) ww_201 eX23_add_128 h (fun v32 h => ?_)
    refine x_iconst (v := 1) C eX23_add_131 (by decide) ?_
    refine x_iadd C eX23_add_132 ?_
    refine x_pI (o9 := x0) (ci := 15) (k9 := 11) (Cn := RX15) (T := TX15) (N := 14) C rfl wt_X15 tyX15_ok nmX15 (by decide) ww_201 rfl (by decide +kernel) eX23_add_133 h (fun S33 h => ?_)
    exact x_vret C rfl rfl eX23_add_136 h
  have j_57 : ∀ (n_57 : Nat) (S : Sg) (x0 : Option Nat) (x1 : Option Nat) (x2 : Int32) (x3 : Option Nat) (x4 : Option Nat) (x5 : Int32), f_add_57 K n_57 S x0 x1 x2 x3 x4 x5 = some (Sf, rf) → WX p l e R s m args below meth c Q D A K m9 mr 6 S0 S 57 [(0, va_rf x0), (1, va_rf x1), (2, .int x2), (3, va_rf x3), (4, va_rf x4), (5, .int x5)] [] := by
    intro n_57
    induction n_57 with
    | zero => intro S x0 x1 x2 x3 x4 x5 h; unfold f_add_57 at h; cases h
    | succ n_57 ih_57 =>
      intro S x0 x1 x2 x3 x4 x5 h
      unfold f_add_57 at h
      refine x_iload C eX23_add_57 5 rfl ?_
      refine x_aload_n C eX23_add_59 rfl 0 rfl ?_
      refine x_gI (o9 := x0) (ci := 15) (k9 := 11) (Cn := RX15) (T := TX15) (N := 14) C rfl wt_X15 (by decide) ww_201 eX23_add_60 h (fun v17 h => ?_)
      refine x_ic_ge (tgt := 95) C eX23_add_63 (by decide) h (fun h => ?_) (fun h => ?_)
      · refine x_aload_n C eX23_add_95 rfl 0 rfl ?_
        refine x_aload_n C eX23_add_96 rfl 3 rfl ?_
        refine x_pA (o9 := x0) (tA := (.object "OwnedPlacesModel$Exp")) (ci := 15) (k9 := 9) (Cn := RX15) (T := TX15) (N := 14) C rfl wt_X15 tyX15_ok nmX15 (by decide) ww_199 rfl (by decide +kernel) eX23_add_97 h (fun S18 h => ?_)
        refine x_aload_n C eX23_add_100 rfl 0 rfl ?_
        refine x_aload C eX23_add_101 4 rfl ?_
        refine x_pA (o9 := x0) (tA := .int) (ci := 15) (k9 := 10) (Cn := RX15) (T := TX15) (N := 14) C rfl wt_X15 tyX15_ok nmX15 (by decide) ww_200 rfl (by decide +kernel) eX23_add_103 h (fun S19 h => ?_)
        refine x_sub [0, 1, 2] rfl ?_
        exact j_106 S19 x0 x1 x2 h
      · refine x_aload_n C eX23_add_66 rfl 3 rfl ?_
        refine x_iload C eX23_add_67 5 rfl ?_
        refine x_aload_n C eX23_add_69 rfl 0 rfl ?_
        refine x_gR (o9 := x0) (ci := 15) (k9 := 9) (Cn := RX15) (T := TX15) (N := 14) C rfl wt_X15 (by decide) ww_199 eX23_add_70 h (fun v20 h => ?_)
        refine x_iload C eX23_add_73 5 rfl ?_
        refine x_aQ (t9 := 9) C rfl eX23_add_75 h (fun v21 h => ?_)
        refine x_bQ (t9 := 9) (ci := 15) C rfl rfl eX23_add_76 h (fun S22 h => ?_)
        refine x_aload C eX23_add_77 4 rfl ?_
        refine x_iload C eX23_add_79 5 rfl ?_
        refine x_aload_n C eX23_add_81 rfl 0 rfl ?_
        refine x_gR (o9 := x0) (ci := 15) (k9 := 10) (Cn := RX15) (T := TX15) (N := 14) C rfl wt_X15 (by decide) ww_200 eX23_add_82 h (fun v23 h => ?_)
        refine x_iload C eX23_add_85 5 rfl ?_
        refine x_aI C eX23_add_87 h (fun v24 h => ?_)
        refine x_bI C eX23_add_88 h (fun S25 h => ?_)
        refine x_iinc (j := 5) (v := 1) (lv2 := [(0, va_rf x0), (1, va_rf x1), (2, .int x2), (3, va_rf x3), (4, va_rf x4)]) C eX23_add_89 rfl (by decide) (by decide) rfl (oky (cat_rf x0) (oky (cat_rf x1) (oky rfl (oky (cat_rf x3) (oky (cat_rf x4) ok0))))) ?_
        refine x_goto (tgt := 57) C eX23_add_92 (by decide) ?_
        refine x_sub [1, 2, 3, 4, 5, 0] rfl ?_
        exact ih_57 S25 x0 x1 x2 x3 x4 (x5 + 1) h
  have j_22 : ∀ (S : Sg) (x0 : Option Nat) (x1 : Option Nat) (x2 : Int32), f_add_22 K S x0 x1 x2 = some (Sf, rf) → WX p l e R s m args below meth c Q D A K m9 mr 6 S0 S 22 [(0, va_rf x0), (1, va_rf x1), (2, .int x2)] [] := by
    intro S x0 x1 x2 h
    unfold f_add_22 at h
    refine x_aload_n C eX23_add_22 rfl 0 rfl ?_
    refine x_gI (o9 := x0) (ci := 15) (k9 := 11) (Cn := RX15) (T := TX15) (N := 14) C rfl wt_X15 (by decide) ww_201 eX23_add_23 h (fun v8 h => ?_)
    refine x_aload_n C eX23_add_26 rfl 0 rfl ?_
    refine x_gR (o9 := x0) (ci := 15) (k9 := 9) (Cn := RX15) (T := TX15) (N := 14) C rfl wt_X15 (by decide) ww_199 eX23_add_27 h (fun v9 h => ?_)
    refine x_aLn (t9 := 9) C rfl eX23_add_30 h (fun v10 h => ?_)
    refine x_ic_ne (tgt := 106) C eX23_add_31 (by decide) h (fun h => ?_) (fun h => ?_)
    · refine x_sub [0, 1, 2] rfl ?_
      exact j_106 S x0 x1 x2 h
    · refine x_iconst (v := 2) C eX23_add_34 (by decide) ?_
      refine x_aload_n C eX23_add_35 rfl 0 rfl ?_
      refine x_gI (o9 := x0) (ci := 15) (k9 := 11) (Cn := RX15) (T := TX15) (N := 14) C rfl wt_X15 (by decide) ww_201 eX23_add_36 h (fun v11 h => ?_)
      refine x_imul C eX23_add_39 ?_
      refine x_nQ (t9 := 9) C rfl C.2.2.2.1.2.1 ww_164 eX23_add_40 h (fun S12 a13 h => ?_)
      refine x_astore_n (lv2 := [(0, va_rf x0), (1, va_rf x1), (2, .int x2)]) C eX23_add_43 rfl (by decide) rfl (oky (cat_rf x0) (oky (cat_rf x1) (oky rfl ok0))) ?_
      refine x_iconst (v := 2) C eX23_add_44 (by decide) ?_
      refine x_aload_n C eX23_add_45 rfl 1 rfl ?_
      refine x_gI (o9 := x0) (ci := 15) (k9 := 11) (Cn := RX15) (T := TX15) (N := 14) C rfl wt_X15 (by decide) ww_201 eX23_add_46 h (fun v14 h => ?_)
      refine x_imul C eX23_add_49 ?_
      refine x_nA C ww_88 eX23_add_50 h (fun S15 a16 h => ?_)
      refine x_astore (lv2 := [(3, va_rf (some a13)), (0, va_rf x0), (1, va_rf x1), (2, .int x2)]) C eX23_add_52 (by decide) rfl (oky (cat_rf (some a13)) (oky (cat_rf x0) (oky (cat_rf x1) (oky rfl ok0)))) ?_
      refine x_iconst (v := 0) C eX23_add_54 (by decide) ?_
      refine x_istore (lv2 := [(4, va_rf (some a16)), (3, va_rf (some a13)), (0, va_rf x0), (1, va_rf x1), (2, .int x2)]) C eX23_add_55 (by decide) rfl (oky (cat_rf (some a16)) (oky (cat_rf (some a13)) (oky (cat_rf x0) (oky (cat_rf x1) (oky rfl ok0))))) ?_
      refine x_sub [3, 4, 5, 2, 1, 0] rfl ?_
      exact j_57 bigN S15 x0 x1 x2 (some a13) (some a16) 0 h
  unfold f_add at h
  refine x_aload_n C eX23_add_0 rfl 0 rfl ?_
  refine x_gR (o9 := x0) (ci := 15) (k9 := 9) (Cn := RX15) (T := TX15) (N := 14) C rfl wt_X15 (by decide) ww_199 eX23_add_1 h (fun v1 h => ?_)
  refine x_ifnonnull (tgt := 22) C eX23_add_4 (by decide) h (fun h => ?_) (fun h => ?_)
  · refine x_sub [0, 1, 2] rfl ?_
    exact j_22 S0 x0 x1 x2 h
  · refine x_aload_n C eX23_add_7 rfl 0 rfl ?_
    refine x_iconst (v := 4) C eX23_add_8 (by decide) ?_
    refine x_nQ (t9 := 9) C rfl C.2.2.2.1.2.1 ww_164 eX23_add_9 h (fun S2 a3 h => ?_)
    refine x_pA (o9 := x0) (tA := (.object "OwnedPlacesModel$Exp")) (ci := 15) (k9 := 9) (Cn := RX15) (T := TX15) (N := 14) C rfl wt_X15 tyX15_ok nmX15 (by decide) ww_199 rfl (by decide +kernel) eX23_add_12 h (fun S4 h => ?_)
    refine x_aload_n C eX23_add_15 rfl 0 rfl ?_
    refine x_iconst (v := 4) C eX23_add_16 (by decide) ?_
    refine x_nA C ww_88 eX23_add_17 h (fun S5 a6 h => ?_)
    refine x_pA (o9 := x0) (tA := .int) (ci := 15) (k9 := 10) (Cn := RX15) (T := TX15) (N := 14) C rfl wt_X15 tyX15_ok nmX15 (by decide) ww_200 rfl (by decide +kernel) eX23_add_19 h (fun S7 h => ?_)
    refine x_sub [0, 1, 2] rfl ?_
    exact j_22 S7 x0 x1 x2 h
set_option maxRecDepth 20000 in
set_option maxHeartbeats 4000000 in
theorem k_X23_levelOf (l : Launch) (D : va_G) (K : Ky) (m9 : Nat) (mr : Nat → Nat) (S0 Sf : Sg) (x0 : Int32) (rf : Int32) (h : f_levelOf K S0 x0 = some (Sf, rf)) : CT l D K m9 mr yX23_levelOf (Cond.code yX23_levelOf cX23_levelOf 1 (some .int)) (1) (20) S0 Sf [.int x0] (some (.int rf)) := by
  refine x_start (cc := cX23_levelOf) (lv := [(0, .int x0)]) rfl rfl (by decide) (by simp [lv_args, cat_rf, cat_i, cat_l, cat_a]) (by simp [lg_sl, cat_rf, cat_i, cat_l, cat_a]) (fun p e R s m args below meth c Q A C => ?_)
  have j_69 : ∀ (S : Sg) (y0 : Int32), f_levelOf_69 K S y0 = some (Sf, rf) → WX p l e R s m args below meth c Q D A K m9 mr 1 S0 S 69 [] [.int y0] := by
    intro S y0 h
    unfold f_levelOf_69 at h
    exact x_iret C rfl rfl eX23_levelOf_69 h
  have j_42 : ∀ (S : Sg), f_levelOf_42 K S = some (Sf, rf) → WX p l e R s m args below meth c Q D A K m9 mr 1 S0 S 42 [] [] := by
    intro S h
    unfold f_levelOf_42 at h
    refine x_iconst (v := 4) C eX23_levelOf_42 (by decide) ?_
    refine x_goto (tgt := 69) C eX23_levelOf_43 (by decide) ?_
    refine x_sub [] rfl ?_
    exact j_69 S 4 h
  have j_64 : ∀ (S : Sg), f_levelOf_64 K S = some (Sf, rf) → WX p l e R s m args below meth c Q D A K m9 mr 1 S0 S 64 [] [] := by
    intro S h
    unfold f_levelOf_64 at h
    refine x_iconst (v := 5) C eX23_levelOf_64 (by decide) ?_
    refine x_goto (tgt := 69) C eX23_levelOf_65 (by decide) ?_
    refine x_sub [] rfl ?_
    exact j_69 S 5 h
  have j_30 : ∀ (S : Sg) (x0 : Int32), f_levelOf_30 K S x0 = some (Sf, rf) → WX p l e R s m args below meth c Q D A K m9 mr 1 S0 S 30 [(0, .int x0)] [] := by
    intro S x0 h
    unfold f_levelOf_30 at h
    refine x_iload_n C eX23_levelOf_30 rfl 0 rfl ?_
    refine x_bipush (v := 40) C eX23_levelOf_31 (by decide) ?_
    refine x_ic_eq (tgt := 42) C eX23_levelOf_33 (by decide) h (fun h => ?_) (fun h => ?_)
    · refine x_sub [] rfl ?_
      exact j_42 S h
    · refine x_iload_n C eX23_levelOf_36 rfl 0 rfl ?_
      refine x_bipush (v := 41) C eX23_levelOf_37 (by decide) ?_
      refine x_ic_ne (tgt := 46) C eX23_levelOf_39 (by decide) h (fun h => ?_) (fun h => ?_)
      · refine x_iload_n C eX23_levelOf_46 rfl 0 rfl ?_
        refine x_bipush (v := 42) C eX23_levelOf_47 (by decide) ?_
        refine x_ic_eq (tgt := 64) C eX23_levelOf_49 (by decide) h (fun h => ?_) (fun h => ?_)
        · refine x_sub [] rfl ?_
          exact j_64 S h
        · refine x_iload_n C eX23_levelOf_52 rfl 0 rfl ?_
          refine x_bipush (v := 43) C eX23_levelOf_53 (by decide) ?_
          refine x_ic_eq (tgt := 64) C eX23_levelOf_55 (by decide) h (fun h => ?_) (fun h => ?_)
          · refine x_sub [] rfl ?_
            exact j_64 S h
          · refine x_iload_n C eX23_levelOf_58 rfl 0 rfl ?_
            refine x_bipush (v := 44) C eX23_levelOf_59 (by decide) ?_
            refine x_ic_ne (tgt := 68) C eX23_levelOf_61 (by decide) h (fun h => ?_) (fun h => ?_)
            · refine x_iconst (v := 0) C eX23_levelOf_68 (by decide) ?_
              refine x_sub [] rfl ?_
              exact j_69 S 0 h
            · refine x_sub [] rfl ?_
              exact j_64 S h
      · refine x_sub [] rfl ?_
        exact j_42 S h
  unfold f_levelOf at h
  refine x_iload_n C eX23_levelOf_0 rfl 0 rfl ?_
  refine x_bipush (v := 52) C eX23_levelOf_1 (by decide) ?_
  refine x_ic_ne (tgt := 8) C eX23_levelOf_3 (by decide) h (fun h => ?_) (fun h => ?_)
  · refine x_iload_n C eX23_levelOf_8 rfl 0 rfl ?_
    refine x_bipush (v := 51) C eX23_levelOf_9 (by decide) ?_
    refine x_ic_ne (tgt := 16) C eX23_levelOf_11 (by decide) h (fun h => ?_) (fun h => ?_)
    · refine x_iload_n C eX23_levelOf_16 rfl 0 rfl ?_
      refine x_bipush (v := 45) C eX23_levelOf_17 (by decide) ?_
      refine x_ic_lt (tgt := 30) C eX23_levelOf_19 (by decide) h (fun h => ?_) (fun h => ?_)
      · refine x_sub [0] rfl ?_
        exact j_30 S0 x0 h
      · refine x_iload_n C eX23_levelOf_22 rfl 0 rfl ?_
        refine x_bipush (v := 50) C eX23_levelOf_23 (by decide) ?_
        refine x_ic_gt (tgt := 30) C eX23_levelOf_25 (by decide) h (fun h => ?_) (fun h => ?_)
        · refine x_sub [0] rfl ?_
          exact j_30 S0 x0 h
        · refine x_iconst (v := 3) C eX23_levelOf_28 (by decide) ?_
          exact x_iret C rfl rfl eX23_levelOf_29 h
    · refine x_iconst (v := 2) C eX23_levelOf_14 (by decide) ?_
      exact x_iret C rfl rfl eX23_levelOf_15 h
  · refine x_iconst (v := 1) C eX23_levelOf_6 (by decide) ?_
    exact x_iret C rfl rfl eX23_levelOf_7 h
set_option maxRecDepth 20000 in
set_option maxHeartbeats 4000000 in
theorem k_X23_borrow (l : Launch) (D : va_G) (K : Ky) (m9 : Nat) (mr : Nat → Nat) (S0 Sf : Sg) (rf : Unit) (h : f_borrow K S0 = some (Sf, rf)) : CT l D K m9 mr yX23_borrow (Cond.code yX23_borrow cX23_borrow 1 none) (2) (42) S0 Sf [.ref m9] none := by
  refine x_start (cc := cX23_borrow) (lv := [(0, .ref m9)]) rfl rfl (by decide) (by simp [lv_args, cat_rf, cat_i, cat_l, cat_a]) (by simp [lg_sl, cat_rf, cat_i, cat_l, cat_a]) (fun p e R s m args below meth c Q A C => ?_)
  have j_25 : ∀ (S : Sg), f_borrow_25 K S = some (Sf, rf) → WX p l e R s m args below meth c Q D A K m9 mr 1 S0 S 25 [(0, .ref m9)] [] := by
    intro S h
    unfold f_borrow_25 at h
    refine x_tload_n C eX23_borrow_25 rfl 0 rfl ?_
    refine x_dup C eX23_borrow_26 rfl ?_
    refine x_mV (k9 := 17) C (by decide) ww_94 eX23_borrow_27 rfl ?_
    refine x_iconst (v := 1) C eX23_borrow_30 (by decide) ?_
    refine x_iadd C eX23_borrow_31 ?_
    refine x_pM (k9 := 17) C (by decide) rfl (by decide) ww_94 rfl (by decide +kernel) eX23_borrow_32 h (fun S5 h => ?_)
    exact x_vret C rfl rfl eX23_borrow_35 h
  unfold f_borrow at h
  refine x_tload_n C eX23_borrow_0 rfl 0 rfl ?_
  refine x_cVi (As := []) (st := []) (n := 0) (frc := 1) (loc := 20) C h (fun S9 r9 e9 => k_X23_ok l D K m9 mr _ S9 r9 e9) ww_0 ww_13 ww_14 ww_15 ww_16 (by decide +kernel) rfl ⟨by omega, by omega⟩ (Nat.le_of_ble_eq_true rfl) eX23_borrow_1 (fun S1 v2 h => ?_)
  refine x_if_eq (tgt := 25) C eX23_borrow_4 (by decide) h (fun h => ?_) (fun h => ?_)
  · refine x_sub [0] rfl ?_
    exact j_25 S1 h
  · refine x_tload_n C eX23_borrow_7 rfl 0 rfl ?_
    refine x_mV (k9 := 17) C (by decide) ww_94 eX23_borrow_8 rfl ?_
    refine x_bipush (v := 54) C eX23_borrow_11 (by decide) ?_
    refine x_ic_ne (tgt := 25) C eX23_borrow_13 (by decide) h (fun h => ?_) (fun h => ?_)
    · refine x_sub [0] rfl ?_
      exact j_25 S1 h
    · refine x_tload_n C eX23_borrow_16 rfl 0 rfl ?_
      refine x_iconst (v := 2) C eX23_borrow_17 (by decide) ?_
      refine x_tload_n C eX23_borrow_18 rfl 0 rfl ?_
      refine x_mV (k9 := 10) C (by decide) ww_11 eX23_borrow_19 rfl ?_
      refine x_cVv (As := [.int 2, .int (Zi S1 10)]) (st := []) (n := 2) (frc := 1) (loc := 20) C h (fun S9 r9 e9 => k_X23_fail l D K m9 mr _ S9 2 (Zi S1 10) r9 e9) ww_2 ww_20 ww_21 ww_22 ww_16 (by decide +kernel) rfl ⟨by omega, by omega⟩ (Nat.le_of_ble_eq_true rfl) eX23_borrow_22 (fun S3 v4 h => ?_)
      refine x_sub [0] rfl ?_
      exact j_25 S3 h
set_option maxRecDepth 20000 in
set_option maxHeartbeats 4000000 in
theorem k_X23_exp (l : Launch) (D : va_G) (K : Ky) (m9 : Nat) (mr : Nat → Nat) (V : Sg → Int32 → Option (Sg × Option Nat)) (V2 : Sg → Option (Sg × Option Nat)) (d : Nat) (hV : ∀ (S0 Sf : Sg) (x1 : Int32) (rf : Option Nat), V S0 x1 = some (Sf, rf) → CT l D K m9 mr yX23_chain (Cond.code yX23_chain cX23_chain 6 (some (.object "OwnedPlacesModel$Exp"))) (4 + 6 * d) (83 + 132 * d) S0 Sf [.ref m9, .int x1] (some (va_rf rf))) (hV2 : ∀ (S0 Sf : Sg) (rf : Option Nat), V2 S0 = some (Sf, rf) → CT l D K m9 mr yX23_unary (Cond.code yX23_unary cX23_unary 3 (some (.object "OwnedPlacesModel$Exp"))) (4 + 6 * d) (83 + 132 * d) S0 Sf [.ref m9] (some (va_rf rf))) (S0 Sf : Sg) (rf : Option Nat) (h : f_exp K V V2 S0 = some (Sf, rf)) : CT l D K m9 mr yX23_exp (Cond.code yX23_exp cX23_exp 1 (some (.object "OwnedPlacesModel$Exp"))) (5 + 6 * d) (108 + 132 * d) S0 Sf [.ref m9] (some (va_rf rf)) := by
  refine x_start (cc := cX23_exp) (lv := [(0, .ref m9)]) rfl rfl (by decide) (by simp [lv_args, cat_rf, cat_i, cat_l, cat_a]) (by simp [lg_sl, cat_rf, cat_i, cat_l, cat_a]) (fun p e R s m args below meth c Q A C => ?_)
  unfold f_exp at h
  refine x_tload_n C eX23_exp_0 rfl 0 rfl ?_
  refine x_iconst (v := 1) C eX23_exp_1 (by decide) ?_
  refine x_cVr (As := [.int 1]) (st := []) (n := 1) (frc := 4 + 6 * d) (loc := 83 + 132 * d) C h (fun S9 r9 e9 => hV _ S9 1 r9 e9) ww_202 ww_194 ww_195 ww_196 ww_16 (by decide +kernel) rfl ⟨by omega, by omega⟩ (Nat.le_of_ble_eq_true rfl) eX23_exp_2 (fun S1 v2 h => ?_)
  exact x_aret C rfl (Or.inl ⟨_, rfl⟩) rfl eX23_exp_5 h
