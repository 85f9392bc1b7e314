set_option maxRecDepth 20000 in
set_option maxHeartbeats 4000000 in
theorem k_X23_plainType (l : Launch) (D : va_G) (K : Ky) (m9 : Nat) (mr : Nat → Nat) (S0 Sf : Sg) (x1 : Int32) (rf : Option Nat) (h : f_plainType K S0 x1 = some (Sf, rf)) : CT l D K m9 mr yX23_plainType (Cond.code yX23_plainType cX23_plainType 2 (some (.object "OwnedPlacesModel$Type"))) (3) (64) S0 Sf [.ref m9, .int x1] (some (va_rf rf)) := by
  refine x_start (cc := cX23_plainType) (lv := [(0, .ref m9), (1, .int x1)]) rfl rfl (by decide) (by simp [lv_args, cat_rf, cat_i, cat_l, cat_a]) (by simp [lg_sl, cat_rf, cat_i, cat_l, cat_a]) (fun p e R s m args below meth c Q A C => ?_)
  unfold f_plainType at h
  refine x_tload_n C eX23_plainType_0 rfl 0 rfl ?_
  refine x_iload_n C eX23_plainType_1 rfl 1 rfl ?_
  refine x_iconst (v := 0) C eX23_plainType_2 (by decide) ?_
  refine x_null C eX23_plainType_3 ?_
  refine x_cVr (As := [.int x1, .int 0, va_rf none]) (st := []) (n := 3) (frc := 2) (loc := 40) C h (fun S9 r9 e9 => k_X23_type l D K m9 mr _ S9 x1 0 none r9 e9) ww_244 ww_255 ww_256 ww_257 ww_16 (by decide +kernel) rfl ⟨by omega, by omega⟩ (Nat.le_of_ble_eq_true rfl) eX23_plainType_4 (fun S1 v2 h => ?_)
  exact x_aret C rfl (Or.inl ⟨_, rfl⟩) rfl eX23_plainType_7 h
set_option maxRecDepth 20000 in
set_option maxHeartbeats 4000000 in
theorem k_X23_refers (l : Launch) (D : va_G) (K : Ky) (m9 : Nat) (mr : Nat → Nat) (S0 Sf : Sg) (x0 : Option Nat) (rf : Int32) (h : f_refers K S0 x0 = some (Sf, rf)) : CT l D K m9 mr yX23_refers (Cond.code yX23_refers cX23_refers 1 (some .boolean)) (1) (20) S0 Sf [va_rf x0] (some (.int rf)) := by
  refine x_start (cc := cX23_refers) (lv := [(0, va_rf x0)]) rfl rfl (by decide) (by simp [lv_args, cat_rf, cat_i, cat_l, cat_a]) (by simp [lg_sl, cat_rf, cat_i, cat_l, cat_a]) (fun p e R s m args below meth c Q A C => ?_)
  have j_23 : ∀ (S : Sg) (y0 : Int32), f_refers_23 K S y0 = some (Sf, rf) → WX p l e R s m args below meth c Q D A K m9 mr 1 S0 S 23 [] [.int y0] := by
    intro S y0 h
    unfold f_refers_23 at h
    exact x_zret C rfl rfl eX23_refers_23 h
  have j_18 : ∀ (S : Sg), f_refers_18 K S = some (Sf, rf) → WX p l e R s m args below meth c Q D A K m9 mr 1 S0 S 18 [] [] := by
    intro S h
    unfold f_refers_18 at h
    refine x_iconst (v := 1) C eX23_refers_18 (by decide) ?_
    refine x_goto (tgt := 23) C eX23_refers_19 (by decide) ?_
    refine x_sub [] rfl ?_
    exact j_23 S 1 h
  unfold f_refers at h
  refine x_aload_n C eX23_refers_0 rfl 0 rfl ?_
  refine x_gI (o9 := x0) (ci := 20) (k9 := 0) (Cn := RX20) (T := TX20) (N := 4) C rfl wt_X20 (by decide) ww_247 eX23_refers_1 h (fun v1 h => ?_)
  refine x_bipush (v := 6) C eX23_refers_4 (by decide) ?_
  refine x_ic_eq (tgt := 18) C eX23_refers_6 (by decide) h (fun h => ?_) (fun h => ?_)
  · refine x_sub [] rfl ?_
    exact j_18 S0 h
  · refine x_aload_n C eX23_refers_9 rfl 0 rfl ?_
    refine x_gI (o9 := x0) (ci := 20) (k9 := 0) (Cn := RX20) (T := TX20) (N := 4) C rfl wt_X20 (by decide) ww_247 eX23_refers_10 h (fun v2 h => ?_)
    refine x_bipush (v := 7) C eX23_refers_13 (by decide) ?_
    refine x_ic_ne (tgt := 22) C eX23_refers_15 (by decide) h (fun h => ?_) (fun h => ?_)
    · refine x_iconst (v := 0) C eX23_refers_22 (by decide) ?_
      refine x_sub [] rfl ?_
      exact j_23 S0 0 h
    · refine x_sub [] rfl ?_
      exact j_18 S0 h
set_option maxRecDepth 20000 in
set_option maxHeartbeats 4000000 in
theorem k_X23_copied (l : Launch) (D : va_G) (K : Ky) (m9 : Nat) (mr : Nat → Nat) (S0 Sf : Sg) (x0 : Option Nat) (rf : Int32) (h : f_copied K S0 x0 = some (Sf, rf)) : CT l D K m9 mr yX23_copied (Cond.code yX23_copied cX23_copied 1 (some .boolean)) (1) (20) S0 Sf [va_rf x0] (some (.int rf)) := by
  refine x_start (cc := cX23_copied) (lv := [(0, va_rf x0)]) rfl rfl (by decide) (by simp [lv_args, cat_rf, cat_i, cat_l, cat_a]) (by simp [lg_sl, cat_rf, cat_i, cat_l, cat_a]) (fun p e R s m args below meth c Q A C => ?_)
  have j_29 : ∀ (S : Sg) (y0 : Int32), f_copied_29 K S y0 = some (Sf, rf) → WX p l e R s m args below meth c Q D A K m9 mr 1 S0 S 29 [] [.int y0] := by
    intro S y0 h
    unfold f_copied_29 at h
    exact x_zret C rfl rfl eX23_copied_29 h
  have j_24 : ∀ (S : Sg), f_copied_24 K S = some (Sf, rf) → WX p l e R s m args below meth c Q D A K m9 mr 1 S0 S 24 [] [] := by
    intro S h
    unfold f_copied_24 at h
    refine x_iconst (v := 1) C eX23_copied_24 (by decide) ?_
    refine x_goto (tgt := 29) C eX23_copied_25 (by decide) ?_
    refine x_sub [] rfl ?_
    exact j_29 S 1 h
  unfold f_copied at h
  refine x_aload_n C eX23_copied_0 rfl 0 rfl ?_
  refine x_gI (o9 := x0) (ci := 20) (k9 := 0) (Cn := RX20) (T := TX20) (N := 4) C rfl wt_X20 (by decide) ww_247 eX23_copied_1 h (fun v1 h => ?_)
  refine x_if_eq (tgt := 24) C eX23_copied_4 (by decide) h (fun h => ?_) (fun h => ?_)
  · refine x_sub [] rfl ?_
    exact j_24 S0 h
  · refine x_aload_n C eX23_copied_7 rfl 0 rfl ?_
    refine x_gI (o9 := x0) (ci := 20) (k9 := 0) (Cn := RX20) (T := TX20) (N := 4) C rfl wt_X20 (by decide) ww_247 eX23_copied_8 h (fun v2 h => ?_)
    refine x_iconst (v := 1) C eX23_copied_11 (by decide) ?_
    refine x_ic_eq (tgt := 24) C eX23_copied_12 (by decide) h (fun h => ?_) (fun h => ?_)
    · refine x_sub [] rfl ?_
      exact j_24 S0 h
    · refine x_aload_n C eX23_copied_15 rfl 0 rfl ?_
      refine x_gI (o9 := x0) (ci := 20) (k9 := 0) (Cn := RX20) (T := TX20) (N := 4) C rfl wt_X20 (by decide) ww_247 eX23_copied_16 h (fun v3 h => ?_)
      refine x_bipush (v := 6) C eX23_copied_19 (by decide) ?_
      refine x_ic_ne (tgt := 28) C eX23_copied_21 (by decide) h (fun h => ?_) (fun h => ?_)
      · refine x_iconst (v := 0) C eX23_copied_28 (by decide) ?_
        refine x_sub [] rfl ?_
        exact j_29 S0 0 h
      · refine x_sub [] rfl ?_
        exact j_24 S0 h
set_option maxRecDepth 20000 in
set_option maxHeartbeats 4000000 in
theorem k_X23_itemNamed (l : Launch) (D : va_G) (K : Ky) (m9 : Nat) (mr : Nat → Nat) (S0 Sf : Sg) (x1 : Int32) (rf : Int32) (h : f_itemNamed K S0 x1 = some (Sf, rf)) : CT l D K m9 mr yX23_itemNamed (Cond.code yX23_itemNamed cX23_itemNamed 3 (some .int)) (2) (44) S0 Sf [.ref m9, .int x1] (some (.int rf)) := by
  refine x_start (cc := cX23_itemNamed) (lv := [(0, .ref m9), (1, .int x1)]) rfl rfl (by decide) (by simp [lv_args, cat_rf, cat_i, cat_l, cat_a]) (by simp [lg_sl, cat_rf, cat_i, cat_l, cat_a]) (fun p e R s m args below meth c Q A C => ?_)
  have j_2 : ∀ (n_2 : Nat) (S : Sg) (x1 : Int32) (x2 : Int32), f_itemNamed_2 K n_2 S x1 x2 = some (Sf, rf) → WX p l e R s m args below meth c Q D A K m9 mr 3 S0 S 2 [(0, .ref m9), (1, .int x1), (2, .int x2)] [] := by
    intro n_2
    induction n_2 with
    | zero => intro S x1 x2 h; unfold f_itemNamed_2 at h; cases h
    | succ n_2 ih_2 =>
      intro S x1 x2 h
      unfold f_itemNamed_2 at h
      refine x_iload_n C eX23_itemNamed_2 rfl 2 rfl ?_
      refine x_tload_n C eX23_itemNamed_3 rfl 0 rfl ?_
      refine x_mV (k9 := 12) C (by decide) ww_102 eX23_itemNamed_4 rfl ?_
      refine x_ic_ge (tgt := 35) C eX23_itemNamed_7 (by decide) h (fun h => ?_) (fun h => ?_)
      · refine x_iconst (v := (-1)) C eX23_itemNamed_35 (by decide) ?_
        exact x_iret C rfl rfl eX23_itemNamed_36 h
      · refine x_tload_n C eX23_itemNamed_10 rfl 0 rfl ?_
        refine x_tload_n C eX23_itemNamed_11 rfl 0 rfl ?_
        refine x_mV (k9 := 11) C (by decide) ww_114 eX23_itemNamed_12 rfl ?_
        refine x_iload_n C eX23_itemNamed_15 rfl 2 rfl ?_
        refine x_rQ (r := 11) (t9 := 3) C (by decide) rfl (by decide) rfl eX23_itemNamed_16 h (fun v1 h => ?_)
        refine x_gI (o9 := v1) (ci := 16) (k9 := 1) (Cn := RX16) (T := TX16) (N := 22) C rfl wt_X16 (by decide) ww_74 eX23_itemNamed_17 h (fun v2 h => ?_)
        refine x_iload_n C eX23_itemNamed_20 rfl 1 rfl ?_
        refine x_cVi (As := [.int v2, .int x1]) (st := []) (n := 2) (frc := 1) (loc := 20) C h (fun S9 r9 e9 => k_X23_sameName l D K m9 mr _ S9 v2 x1 r9 e9) ww_5 ww_261 ww_262 ww_263 ww_16 (by decide +kernel) rfl ⟨by omega, by omega⟩ (Nat.le_of_ble_eq_true rfl) eX23_itemNamed_21 (fun S3 v4 h => ?_)
        refine x_if_eq (tgt := 29) C eX23_itemNamed_24 (by decide) h (fun h => ?_) (fun h => ?_)
        · refine x_iinc (j := 2) (v := 1) (lv2 := [(0, .ref m9), (1, .int x1)]) C eX23_itemNamed_29 rfl (by decide) (by decide) rfl (oky rfl (oky rfl ok0)) ?_
          refine x_goto (tgt := 2) C eX23_itemNamed_32 (by decide) ?_
          refine x_sub [1, 2, 0] rfl ?_
          exact ih_2 S3 x1 (x2 + 1) h
        · refine x_iload_n C eX23_itemNamed_27 rfl 2 rfl ?_
          exact x_iret C rfl rfl eX23_itemNamed_28 h
  unfold f_itemNamed at h
  refine x_iconst (v := 0) C eX23_itemNamed_0 (by decide) ?_
  refine x_istore_n (lv2 := [(0, .ref m9), (1, .int x1)]) C eX23_itemNamed_1 rfl (by decide) rfl (oky rfl (oky rfl ok0)) ?_
  refine x_sub [1, 2, 0] rfl ?_
  exact j_2 bigN S0 x1 0 h
set_option maxRecDepth 20000 in
set_option maxHeartbeats 4000000 in
theorem k_X23_resolve (l : Launch) (D : va_G) (K : Ky) (m9 : Nat) (mr : Nat → Nat) : ∀ (d : Nat) (S0 Sf : Sg) (x1 : Option Nat) (x2 : Int32) (rf : Option Nat), f_resolve K d S0 x1 x2 = some (Sf, rf) → CT l D K m9 mr yX23_resolve (Cond.code yX23_resolve cX23_resolve 5 (some (.object "OwnedPlacesModel$Type"))) (4 + 1 * d) (85 + 24 * d) S0 Sf [.ref m9, va_rf x1, .int x2] (some (va_rf rf)) := by
  intro d
  induction d with
  | zero => intro S0 Sf x1 x2 rf h; unfold f_resolve at h; cases h
  | succ d ih =>
    intro S0 Sf x1 x2 rf h
    refine x_start (cc := cX23_resolve) (lv := [(0, .ref m9), (1, va_rf x1), (2, .int x2)]) rfl rfl (by decide) (by simp [lv_args, cat_rf, cat_i, cat_l, cat_a]) (by simp [lg_sl, cat_rf, cat_i, cat_l, cat_a]) (fun p e R s m args below meth c Q A C => ?_)
    have j_70 : ∀ (S : Sg) (y0 : Int32), f_resolve_70 K (f_resolve K d) S y0 = some (Sf, rf) → WX p l e R s m args below meth c Q D A K m9 mr 5 S0 S 70 [] [.int y0, .ref m9] := by
      intro S y0 h
      unfold f_resolve_70 at h
      refine x_cVr (As := [.int y0]) (st := []) (n := 1) (frc := 3) (loc := 64) C h (fun S9 r9 e9 => k_X23_plainType l D K m9 mr _ S9 y0 r9 e9) ww_254 ww_265 ww_266 ww_267 ww_16 (by decide +kernel) rfl ⟨by omega, by omega⟩ (Nat.le_of_ble_eq_true rfl) eX23_resolve_70 (fun S38 v39 h => ?_)
      exact x_aret C rfl (Or.inl ⟨_, rfl⟩) rfl eX23_resolve_73 h
    have j_42 : ∀ (S : Sg) (x1 : Option Nat), f_resolve_42 K (f_resolve K d) S x1 = some (Sf, rf) → WX p l e R s m args below meth c Q D A K m9 mr 5 S0 S 42 [(0, .ref m9), (1, va_rf x1)] [] := by
      intro S x1 h
      unfold f_resolve_42 at h
      refine x_tload_n C eX23_resolve_42 rfl 0 rfl ?_
      refine x_aload_n C eX23_resolve_43 rfl 1 rfl ?_
      refine x_gI (o9 := x1) (ci := 22) (k9 := 0) (Cn := RX22) (T := TX22) (N := 5) C rfl wt_X22 (by decide) ww_37 eX23_resolve_44 h (fun v36 h => ?_)
      refine x_bipush (v := 26) C eX23_resolve_47 (by decide) ?_
      refine x_ic_ne (tgt := 56) C eX23_resolve_49 (by decide) h (fun h => ?_) (fun h => ?_)
      · refine x_aload_n C eX23_resolve_56 rfl 1 rfl ?_
        refine x_gI (o9 := x1) (ci := 22) (k9 := 0) (Cn := RX22) (T := TX22) (N := 5) C rfl wt_X22 (by decide) ww_37 eX23_resolve_57 h (fun v37 h => ?_)
        refine x_bipush (v := 27) C eX23_resolve_60 (by decide) ?_
        refine x_ic_ne (tgt := 69) C eX23_resolve_62 (by decide) h (fun h => ?_) (fun h => ?_)
        · refine x_iconst (v := 2) C eX23_resolve_69 (by decide) ?_
          refine x_sub [] rfl ?_
          exact j_70 S 2 h
        · refine x_iconst (v := 1) C eX23_resolve_65 (by decide) ?_
          refine x_goto (tgt := 70) C eX23_resolve_66 (by decide) ?_
          refine x_sub [] rfl ?_
          exact j_70 S 1 h
      · refine x_iconst (v := 0) C eX23_resolve_52 (by decide) ?_
        refine x_goto (tgt := 70) C eX23_resolve_53 (by decide) ?_
        refine x_sub [] rfl ?_
        exact j_70 S 0 h
    have j_139 : ∀ (S : Sg) (x1 : Option Nat) (y0 : Int32), f_resolve_139 K (f_resolve K d) S x1 y0 = some (Sf, rf) → WX p l e R s m args below meth c Q D A K m9 mr 5 S0 S 139 [(0, .ref m9), (1, va_rf x1)] [.int y0, .ref m9] := by
      intro S x1 y0 h
      unfold f_resolve_139 at h
      refine x_iconst (v := 0) C eX23_resolve_139 (by decide) ?_
      refine x_tload_n C eX23_resolve_140 rfl 0 rfl ?_
      refine x_aload_n C eX23_resolve_141 rfl 1 rfl ?_
      refine x_gR (o9 := x1) (ci := 22) (k9 := 4) (Cn := RX22) (T := TX22) (N := 5) C rfl wt_X22 (by decide) ww_49 eX23_resolve_142 h (fun v26 h => ?_)
      refine x_iconst (v := 0) C eX23_resolve_145 (by decide) ?_
      refine x_cVr (As := [va_rf v26, .int 0]) (st := [.int 0, .int y0, .ref m9]) (n := 2) (frc := 4 + 1 * d) (loc := 85 + 24 * d) C h (fun S9 r9 e9 => ih _ S9 v26 0 r9 e9) ww_264 ww_268 ww_269 ww_270 ww_16 (by decide +kernel) rfl ⟨by omega, by omega⟩ (Nat.le_of_ble_eq_true rfl) eX23_resolve_146 (fun S27 v28 h => ?_)
      refine x_cVr (As := [.int y0, .int 0, va_rf v28]) (st := []) (n := 3) (frc := 2) (loc := 40) C h (fun S9 r9 e9 => k_X23_type l D K m9 mr _ S9 y0 0 v28 r9 e9) ww_244 ww_255 ww_256 ww_257 ww_16 (by decide +kernel) rfl ⟨by omega, by omega⟩ (Nat.le_of_ble_eq_true rfl) eX23_resolve_149 (fun S29 v30 h => ?_)
      exact x_aret C rfl (Or.inl ⟨_, rfl⟩) rfl eX23_resolve_152 h
    have j_183 : ∀ (S : Sg) (x1 : Option Nat) (x3 : Option Nat), f_resolve_183 K (f_resolve K d) S x1 x3 = some (Sf, rf) → WX p l e R s m args below meth c Q D A K m9 mr 5 S0 S 183 [(0, .ref m9), (1, va_rf x1), (3, va_rf x3)] [] := by
      intro S x1 x3 h
      unfold f_resolve_183 at h
      refine x_tload_n C eX23_resolve_183 rfl 0 rfl ?_
      refine x_iconst (v := 3) C eX23_resolve_184 (by decide) ?_
      refine x_aload_n C eX23_resolve_185 rfl 1 rfl ?_
      refine x_gI (o9 := x1) (ci := 22) (k9 := 1) (Cn := RX22) (T := TX22) (N := 5) C rfl wt_X22 (by decide) ww_36 eX23_resolve_186 h (fun v33 h => ?_)
      refine x_cVv (As := [.int 3, .int v33]) (st := []) (n := 2) (frc := 1) (loc := 20) C h (fun S9 r9 e9 => k_X23_fail l D K m9 mr _ S9 3 v33 r9 e9) ww_2 ww_20 ww_21 ww_22 ww_16 (by decide +kernel) rfl ⟨by omega, by omega⟩ (Nat.le_of_ble_eq_true rfl) eX23_resolve_189 (fun S34 v35 h => ?_)
      refine x_aload_n C eX23_resolve_192 rfl 2 rfl ?_
      exact x_aret C rfl (Or.inl ⟨_, rfl⟩) rfl eX23_resolve_193 h
    have j_215 : ∀ (S : Sg) (x4 : Int32) (y0 : Int32), f_resolve_215 K (f_resolve K d) S x4 y0 = some (Sf, rf) → WX p l e R s m args below meth c Q D A K m9 mr 5 S0 S 215 [(4, .int x4)] [.int y0, .ref m9] := by
      intro S x4 y0 h
      unfold f_resolve_215 at h
      refine x_iload C eX23_resolve_215 0 rfl ?_
      refine x_null C eX23_resolve_217 ?_
      refine x_cVr (As := [.int y0, .int x4, va_rf none]) (st := []) (n := 3) (frc := 2) (loc := 40) C h (fun S9 r9 e9 => k_X23_type l D K m9 mr _ S9 y0 x4 none r9 e9) ww_244 ww_255 ww_256 ww_257 ww_16 (by decide +kernel) rfl ⟨by omega, by omega⟩ (Nat.le_of_ble_eq_true rfl) eX23_resolve_218 (fun S31 v32 h => ?_)
      exact x_aret C rfl (Or.inl ⟨_, rfl⟩) rfl eX23_resolve_221 h
    unfold f_resolve at h
    refine x_tload_n C eX23_resolve_0 rfl 0 rfl ?_
    refine x_iconst (v := 0) C eX23_resolve_1 (by decide) ?_
    refine x_cVr (As := [.int 0]) (st := []) (n := 1) (frc := 3) (loc := 64) C h (fun S9 r9 e9 => k_X23_plainType l D K m9 mr _ S9 0 r9 e9) ww_254 ww_265 ww_266 ww_267 ww_16 (by decide +kernel) rfl ⟨by omega, by omega⟩ (Nat.le_of_ble_eq_true rfl) eX23_resolve_2 (fun S1 v2 h => ?_)
    refine x_astore_n (lv2 := [(0, .ref m9), (1, va_rf x1), (2, .int x2)]) C eX23_resolve_5 rfl (by decide) rfl (oky rfl (oky (cat_rf x1) (oky rfl ok0))) ?_
    refine x_tload_n C eX23_resolve_6 rfl 1 rfl ?_
    refine x_cVi (As := []) (st := []) (n := 0) (frc := 1) (loc := 20) C h (fun S9 r9 e9 => k_X23_ok l D K m9 mr _ S9 r9 e9) ww_0 ww_13 ww_14 ww_15 ww_16 (by decide +kernel) rfl ⟨by omega, by omega⟩ (Nat.le_of_ble_eq_true rfl) eX23_resolve_7 (fun S3 v4 h => ?_)
    refine x_if_ne (tgt := 15) C eX23_resolve_10 (by decide) h (fun h => ?_) (fun h => ?_)
    · refine x_aload_n C eX23_resolve_15 rfl 2 rfl ?_
      refine x_gI (o9 := x1) (ci := 22) (k9 := 0) (Cn := RX22) (T := TX22) (N := 5) C rfl wt_X22 (by decide) ww_37 eX23_resolve_16 h (fun v5 h => ?_)
      refine x_bipush (v := 26) C eX23_resolve_19 (by decide) ?_
      refine x_ic_eq (tgt := 42) C eX23_resolve_21 (by decide) h (fun h => ?_) (fun h => ?_)
      · refine x_sub [1, 2] rfl ?_
        exact j_42 S3 x1 h
      · refine x_aload_n C eX23_resolve_24 rfl 2 rfl ?_
        refine x_gI (o9 := x1) (ci := 22) (k9 := 0) (Cn := RX22) (T := TX22) (N := 5) C rfl wt_X22 (by decide) ww_37 eX23_resolve_25 h (fun v6 h => ?_)
        refine x_bipush (v := 27) C eX23_resolve_28 (by decide) ?_
        refine x_ic_eq (tgt := 42) C eX23_resolve_30 (by decide) h (fun h => ?_) (fun h => ?_)
        · refine x_sub [1, 2] rfl ?_
          exact j_42 S3 x1 h
        · refine x_aload_n C eX23_resolve_33 rfl 2 rfl ?_
          refine x_gI (o9 := x1) (ci := 22) (k9 := 0) (Cn := RX22) (T := TX22) (N := 5) C rfl wt_X22 (by decide) ww_37 eX23_resolve_34 h (fun v7 h => ?_)
          refine x_bipush (v := 25) C eX23_resolve_37 (by decide) ?_
          refine x_ic_ne (tgt := 74) C eX23_resolve_39 (by decide) h (fun h => ?_) (fun h => ?_)
          · refine x_aload_n C eX23_resolve_74 rfl 2 rfl ?_
            refine x_gI (o9 := x1) (ci := 22) (k9 := 0) (Cn := RX22) (T := TX22) (N := 5) C rfl wt_X22 (by decide) ww_37 eX23_resolve_75 h (fun v8 h => ?_)
            refine x_bipush (v := 23) C eX23_resolve_78 (by decide) ?_
            refine x_ic_ne (tgt := 99) C eX23_resolve_80 (by decide) h (fun h => ?_) (fun h => ?_)
            · refine x_aload_n C eX23_resolve_99 rfl 2 rfl ?_
              refine x_gI (o9 := x1) (ci := 22) (k9 := 0) (Cn := RX22) (T := TX22) (N := 5) C rfl wt_X22 (by decide) ww_37 eX23_resolve_100 h (fun v9 h => ?_)
              refine x_bipush (v := 55) C eX23_resolve_103 (by decide) ?_
              refine x_ic_ne (tgt := 153) C eX23_resolve_105 (by decide) h (fun h => ?_) (fun h => ?_)
              · refine x_tload_n C eX23_resolve_153 rfl 1 rfl ?_
                refine x_aload_n C eX23_resolve_154 rfl 2 rfl ?_
                refine x_gI (o9 := x1) (ci := 22) (k9 := 1) (Cn := RX22) (T := TX22) (N := 5) C rfl wt_X22 (by decide) ww_36 eX23_resolve_155 h (fun v10 h => ?_)
                refine x_cVi (As := [.int v10]) (st := []) (n := 1) (frc := 2) (loc := 44) C h (fun S9 r9 e9 => k_X23_itemNamed l D K m9 mr _ S9 v10 r9 e9) ww_260 ww_271 ww_272 ww_273 ww_16 (by decide +kernel) rfl ⟨by omega, by omega⟩ (Nat.le_of_ble_eq_true rfl) eX23_resolve_158 (fun S11 v12 h => ?_)
                refine x_istore (lv2 := [(3, va_rf v2), (0, .ref m9), (1, va_rf x1), (2, .int x2)]) C eX23_resolve_161 (by decide) rfl (oky (cat_rf v2) (oky rfl (oky (cat_rf x1) (oky rfl ok0)))) ?_
                refine x_iload C eX23_resolve_163 0 rfl ?_
                refine x_if_lt (tgt := 183) C eX23_resolve_165 (by decide) h (fun h => ?_) (fun h => ?_)
                · refine x_sub [2, 3, 1] rfl ?_
                  exact j_183 S11 x1 v2 h
                · refine x_tload_n C eX23_resolve_168 rfl 2 rfl ?_
                  refine x_mV (k9 := 11) C (by decide) ww_114 eX23_resolve_169 rfl ?_
                  refine x_iload C eX23_resolve_172 0 rfl ?_
                  refine x_rQ (r := 11) (t9 := 3) C (by decide) rfl (by decide) rfl eX23_resolve_174 h (fun v13 h => ?_)
                  refine x_gI (o9 := v13) (ci := 16) (k9 := 2) (Cn := RX16) (T := TX16) (N := 22) C rfl wt_X16 (by decide) ww_72 eX23_resolve_175 h (fun v14 h => ?_)
                  refine x_bipush (v := 12) C eX23_resolve_178 (by decide) ?_
                  refine x_ic_ne (tgt := 194) C eX23_resolve_180 (by decide) h (fun h => ?_) (fun h => ?_)
                  · refine x_tload_n C eX23_resolve_194 rfl 2 rfl ?_
                    refine x_tload_n C eX23_resolve_195 rfl 2 rfl ?_
                    refine x_mV (k9 := 11) C (by decide) ww_114 eX23_resolve_196 rfl ?_
                    refine x_iload C eX23_resolve_199 0 rfl ?_
                    refine x_rQ (r := 11) (t9 := 3) C (by decide) rfl (by decide) rfl eX23_resolve_201 h (fun v15 h => ?_)
                    refine x_gI (o9 := v15) (ci := 16) (k9 := 2) (Cn := RX16) (T := TX16) (N := 22) C rfl wt_X16 (by decide) ww_72 eX23_resolve_202 h (fun v16 h => ?_)
                    refine x_bipush (v := 10) C eX23_resolve_205 (by decide) ?_
                    refine x_ic_ne (tgt := 214) C eX23_resolve_207 (by decide) h (fun h => ?_) (fun h => ?_)
                    · refine x_iconst (v := 4) C eX23_resolve_214 (by decide) ?_
                      refine x_sub [0] rfl ?_
                      exact j_215 S11 v12 4 h
                    · refine x_iconst (v := 3) C eX23_resolve_210 (by decide) ?_
                      refine x_goto (tgt := 215) C eX23_resolve_211 (by decide) ?_
                      refine x_sub [0] rfl ?_
                      exact j_215 S11 v12 3 h
                  · refine x_sub [2, 3, 1] rfl ?_
                    exact j_183 S11 x1 v2 h
              · refine x_iload_n C eX23_resolve_108 rfl 3 rfl ?_
                refine x_if_ne (tgt := 123) C eX23_resolve_109 (by decide) h (fun h => ?_) (fun h => ?_)
                · refine x_tload_n C eX23_resolve_123 rfl 1 rfl ?_
                  refine x_aload_n C eX23_resolve_124 rfl 2 rfl ?_
                  refine x_gI (o9 := x1) (ci := 22) (k9 := 2) (Cn := RX22) (T := TX22) (N := 5) C rfl wt_X22 (by decide) ww_45 eX23_resolve_125 h (fun v17 h => ?_)
                  refine x_iconst (v := 1) C eX23_resolve_128 (by decide) ?_
                  refine x_ic_ne (tgt := 137) C eX23_resolve_129 (by decide) h (fun h => ?_) (fun h => ?_)
                  · refine x_bipush (v := 6) C eX23_resolve_137 (by decide) ?_
                    refine x_sub [1, 2] rfl ?_
                    exact j_139 S3 x1 6 h
                  · refine x_bipush (v := 7) C eX23_resolve_132 (by decide) ?_
                    refine x_goto (tgt := 139) C eX23_resolve_134 (by decide) ?_
                    refine x_sub [1, 2] rfl ?_
                    exact j_139 S3 x1 7 h
                · refine x_tload_n C eX23_resolve_112 rfl 1 rfl ?_
                  refine x_iconst (v := 4) C eX23_resolve_113 (by decide) ?_
                  refine x_aload_n C eX23_resolve_114 rfl 2 rfl ?_
                  refine x_gI (o9 := x1) (ci := 22) (k9 := 1) (Cn := RX22) (T := TX22) (N := 5) C rfl wt_X22 (by decide) ww_36 eX23_resolve_115 h (fun v18 h => ?_)
                  refine x_cVv (As := [.int 4, .int v18]) (st := []) (n := 2) (frc := 1) (loc := 20) C h (fun S9 r9 e9 => k_X23_fail l D K m9 mr _ S9 4 v18 r9 e9) ww_2 ww_20 ww_21 ww_22 ww_16 (by decide +kernel) rfl ⟨by omega, by omega⟩ (Nat.le_of_ble_eq_true rfl) eX23_resolve_118 (fun S19 v20 h => ?_)
                  refine x_aload_n C eX23_resolve_121 rfl 0 rfl ?_
                  exact x_aret C rfl (Or.inl ⟨_, rfl⟩) rfl eX23_resolve_122 h
            · refine x_tload_n C eX23_resolve_83 rfl 1 rfl ?_
              refine x_iconst (v := 5) C eX23_resolve_84 (by decide) ?_
              refine x_iconst (v := 0) C eX23_resolve_85 (by decide) ?_
              refine x_tload_n C eX23_resolve_86 rfl 1 rfl ?_
              refine x_aload_n C eX23_resolve_87 rfl 2 rfl ?_
              refine x_gR (o9 := x1) (ci := 22) (k9 := 4) (Cn := RX22) (T := TX22) (N := 5) C rfl wt_X22 (by decide) ww_49 eX23_resolve_88 h (fun v21 h => ?_)
              refine x_iconst (v := 0) C eX23_resolve_91 (by decide) ?_
              refine x_cVr (As := [va_rf v21, .int 0]) (st := [.int 0, .int 5, .ref m9]) (n := 2) (frc := 4 + 1 * d) (loc := 85 + 24 * d) C h (fun S9 r9 e9 => ih _ S9 v21 0 r9 e9) ww_264 ww_268 ww_269 ww_270 ww_16 (by decide +kernel) rfl ⟨by omega, by omega⟩ (Nat.le_of_ble_eq_true rfl) eX23_resolve_92 (fun S22 v23 h => ?_)
              refine x_cVr (As := [.int 5, .int 0, va_rf v23]) (st := []) (n := 3) (frc := 2) (loc := 40) C h (fun S9 r9 e9 => k_X23_type l D K m9 mr _ S9 5 0 v23 r9 e9) ww_244 ww_255 ww_256 ww_257 ww_16 (by decide +kernel) rfl ⟨by omega, by omega⟩ (Nat.le_of_ble_eq_true rfl) eX23_resolve_95 (fun S24 v25 h => ?_)
              exact x_aret C rfl (Or.inl ⟨_, rfl⟩) rfl eX23_resolve_98 h
          · refine x_sub [1, 2] rfl ?_
            exact j_42 S3 x1 h
    · refine x_aload_n C eX23_resolve_13 rfl 0 rfl ?_
      exact x_aret C rfl (Or.inl ⟨_, rfl⟩) rfl eX23_resolve_14 h
set_option maxRecDepth 20000 in
set_option maxHeartbeats 4000000 in
theorem k_X23_noLife (l : Launch) (D : va_G) (K : Ky) (m9 : Nat) (mr : Nat → Nat) (S0 Sf : Sg) (x1 : Option Nat) (rf : Unit) (h : f_noLife K S0 x1 = some (Sf, rf)) : CT l D K m9 mr yX23_noLife (Cond.code yX23_noLife cX23_noLife 2 none) (2) (42) S0 Sf [.ref m9, va_rf x1] none := by
  refine x_start (cc := cX23_noLife) (lv := [(0, .ref m9), (1, va_rf x1)]) rfl rfl (by decide) (by simp [lv_args, cat_rf, cat_i, cat_l, cat_a]) (by simp [lg_sl, cat_rf, cat_i, cat_l, cat_a]) (fun p e R s m args below meth c Q A C => ?_)
  have j_32 : ∀ (S : Sg), f_noLife_32 K S = some (Sf, rf) → WX p l e R s m args below meth c Q D A K m9 mr 2 S0 S 32 [] [] := by
    intro S h
    unfold f_noLife_32 at h
    exact x_vret C rfl rfl eX23_noLife_32 h
  unfold f_noLife at h
  refine x_tload_n C eX23_noLife_0 rfl 0 rfl ?_
  refine x_cVi (As := []) (st := []) (n := 0) (frc := 1) (loc := 20) C h (fun S9 r9 e9 => k_X23_ok l D K m9 mr _ S9 r9 e9) ww_0 ww_13 ww_14 ww_15 ww_16 (by decide +kernel) rfl ⟨by omega, by omega⟩ (Nat.le_of_ble_eq_true rfl) eX23_noLife_1 (fun S1 v2 h => ?_)
  refine x_if_eq (tgt := 32) C eX23_noLife_4 (by decide) h (fun h => ?_) (fun h => ?_)
  · refine x_sub [] rfl ?_
    exact j_32 S1 h
  · refine x_aload_n C eX23_noLife_7 rfl 1 rfl ?_
    refine x_gI (o9 := x1) (ci := 22) (k9 := 0) (Cn := RX22) (T := TX22) (N := 5) C rfl wt_X22 (by decide) ww_37 eX23_noLife_8 h (fun v3 h => ?_)
    refine x_bipush (v := 55) C eX23_noLife_11 (by decide) ?_
    refine x_ic_ne (tgt := 32) C eX23_noLife_13 (by decide) h (fun h => ?_) (fun h => ?_)
    · refine x_sub [] rfl ?_
      exact j_32 S1 h
    · refine x_aload_n C eX23_noLife_16 rfl 1 rfl ?_
      refine x_gI (o9 := x1) (ci := 22) (k9 := 3) (Cn := RX22) (T := TX22) (N := 5) C rfl wt_X22 (by decide) ww_41 eX23_noLife_17 h (fun v4 h => ?_)
      refine x_if_lt (tgt := 32) C eX23_noLife_20 (by decide) h (fun h => ?_) (fun h => ?_)
      · refine x_sub [] rfl ?_
        exact j_32 S1 h
      · refine x_tload_n C eX23_noLife_23 rfl 0 rfl ?_
        refine x_iconst (v := 4) C eX23_noLife_24 (by decide) ?_
        refine x_aload_n C eX23_noLife_25 rfl 1 rfl ?_
        refine x_gI (o9 := x1) (ci := 22) (k9 := 3) (Cn := RX22) (T := TX22) (N := 5) C rfl wt_X22 (by decide) ww_41 eX23_noLife_26 h (fun v5 h => ?_)
        refine x_cVv (As := [.int 4, .int v5]) (st := []) (n := 2) (frc := 1) (loc := 20) C h (fun S9 r9 e9 => k_X23_fail l D K m9 mr _ S9 4 v5 r9 e9) ww_2 ww_20 ww_21 ww_22 ww_16 (by decide +kernel) rfl ⟨by omega, by omega⟩ (Nat.le_of_ble_eq_true rfl) eX23_noLife_29 (fun S6 v7 h => ?_)
        refine x_sub [] rfl ?_
        exact j_32 S6 h
set_option maxRecDepth 20000 in
set_option maxHeartbeats 4000000 in
theorem k_X23_lifeIn (l : Launch) (D : va_G) (K : Ky) (m9 : Nat) (mr : Nat → Nat) (S0 Sf : Sg) (x1 : Option Nat) (x2 : Option Nat) (rf : Int32) (h : f_lifeIn K S0 x1 x2 = some (Sf, rf)) : CT l D K m9 mr yX23_lifeIn (Cond.code yX23_lifeIn cX23_lifeIn 4 (some .int)) (2) (44) S0 Sf [.ref m9, va_rf x1, va_rf x2] (some (.int rf)) := by
  refine x_start (cc := cX23_lifeIn) (lv := [(0, .ref m9), (1, va_rf x1), (2, va_rf x2)]) rfl rfl (by decide) (by simp [lv_args, cat_rf, cat_i, cat_l, cat_a]) (by simp [lg_sl, cat_rf, cat_i, cat_l, cat_a]) (fun p e R s m args below meth c Q A C => ?_)
  have j_23 : ∀ (S : Sg), f_lifeIn_23 K S = some (Sf, rf) → WX p l e R s m args below meth c Q D A K m9 mr 4 S0 S 23 [] [] := by
    intro S h
    unfold f_lifeIn_23 at h
    refine x_iconst (v := (-1)) C eX23_lifeIn_23 (by decide) ?_
    exact x_iret C rfl rfl eX23_lifeIn_24 h
  have j_27 : ∀ (n_27 : Nat) (S : Sg) (x1 : Option Nat) (x2 : Option Nat) (x3 : Int32), f_lifeIn_27 K n_27 S x1 x2 x3 = some (Sf, rf) → WX p l e R s m args below meth c Q D A K m9 mr 4 S0 S 27 [(0, .ref m9), (1, va_rf x1), (2, va_rf x2), (3, .int x3)] [] := by
    intro n_27
    induction n_27 with
    | zero => intro S x1 x2 x3 h; unfold f_lifeIn_27 at h; cases h
    | succ n_27 ih_27 =>
      intro S x1 x2 x3 h
      unfold f_lifeIn_27 at h
      refine x_iload_n C eX23_lifeIn_27 rfl 3 rfl ?_
      refine x_aload_n C eX23_lifeIn_28 rfl 1 rfl ?_
      refine x_gI (o9 := x1) (ci := 16) (k9 := 6) (Cn := RX16) (T := TX16) (N := 22) C rfl wt_X16 (by decide) ww_82 eX23_lifeIn_29 h (fun v5 h => ?_)
      refine x_ic_ge (tgt := 60) C eX23_lifeIn_32 (by decide) h (fun h => ?_) (fun h => ?_)
      · refine x_tload_n C eX23_lifeIn_60 rfl 0 rfl ?_
        refine x_iconst (v := 3) C eX23_lifeIn_61 (by decide) ?_
        refine x_aload_n C eX23_lifeIn_62 rfl 2 rfl ?_
        refine x_gI (o9 := x2) (ci := 22) (k9 := 3) (Cn := RX22) (T := TX22) (N := 5) C rfl wt_X22 (by decide) ww_41 eX23_lifeIn_63 h (fun v6 h => ?_)
        refine x_cVv (As := [.int 3, .int v6]) (st := []) (n := 2) (frc := 1) (loc := 20) C h (fun S9 r9 e9 => k_X23_fail l D K m9 mr _ S9 3 v6 r9 e9) ww_2 ww_20 ww_21 ww_22 ww_16 (by decide +kernel) rfl ⟨by omega, by omega⟩ (Nat.le_of_ble_eq_true rfl) eX23_lifeIn_66 (fun S7 v8 h => ?_)
        refine x_iconst (v := (-1)) C eX23_lifeIn_69 (by decide) ?_
        exact x_iret C rfl rfl eX23_lifeIn_70 h
      · refine x_tload_n C eX23_lifeIn_35 rfl 0 rfl ?_
        refine x_aload_n C eX23_lifeIn_36 rfl 1 rfl ?_
        refine x_gR (o9 := x1) (ci := 16) (k9 := 12) (Cn := RX16) (T := TX16) (N := 22) C rfl wt_X16 (by decide) ww_83 eX23_lifeIn_37 h (fun v9 h => ?_)
        refine x_iload_n C eX23_lifeIn_40 rfl 3 rfl ?_
        refine x_aI C eX23_lifeIn_41 h (fun v10 h => ?_)
        refine x_aload_n C eX23_lifeIn_42 rfl 2 rfl ?_
        refine x_gI (o9 := x2) (ci := 22) (k9 := 3) (Cn := RX22) (T := TX22) (N := 5) C rfl wt_X22 (by decide) ww_41 eX23_lifeIn_43 h (fun v11 h => ?_)
        refine x_cVi (As := [.int v10, .int v11]) (st := []) (n := 2) (frc := 1) (loc := 20) C h (fun S9 r9 e9 => k_X23_sameName l D K m9 mr _ S9 v10 v11 r9 e9) ww_5 ww_261 ww_262 ww_263 ww_16 (by decide +kernel) rfl ⟨by omega, by omega⟩ (Nat.le_of_ble_eq_true rfl) eX23_lifeIn_46 (fun S12 v13 h => ?_)
        refine x_if_eq (tgt := 54) C eX23_lifeIn_49 (by decide) h (fun h => ?_) (fun h => ?_)
        · refine x_iinc (j := 3) (v := 1) (lv2 := [(0, .ref m9), (1, va_rf x1), (2, va_rf x2)]) C eX23_lifeIn_54 rfl (by decide) (by decide) rfl (oky rfl (oky (cat_rf x1) (oky (cat_rf x2) ok0))) ?_
          refine x_goto (tgt := 27) C eX23_lifeIn_57 (by decide) ?_
          refine x_sub [1, 2, 3, 0] rfl ?_
          exact ih_27 S12 x1 x2 (x3 + 1) h
        · refine x_iload_n C eX23_lifeIn_52 rfl 3 rfl ?_
          exact x_iret C rfl rfl eX23_lifeIn_53 h
  unfold f_lifeIn at h
  refine x_tload_n C eX23_lifeIn_0 rfl 0 rfl ?_
  refine x_cVi (As := []) (st := []) (n := 0) (frc := 1) (loc := 20) C h (fun S9 r9 e9 => k_X23_ok l D K m9 mr _ S9 r9 e9) ww_0 ww_13 ww_14 ww_15 ww_16 (by decide +kernel) rfl ⟨by omega, by omega⟩ (Nat.le_of_ble_eq_true rfl) eX23_lifeIn_1 (fun S1 v2 h => ?_)
  refine x_if_eq (tgt := 23) C eX23_lifeIn_4 (by decide) h (fun h => ?_) (fun h => ?_)
  · refine x_sub [] rfl ?_
    exact j_23 S1 h
  · refine x_aload_n C eX23_lifeIn_7 rfl 2 rfl ?_
    refine x_gI (o9 := x2) (ci := 22) (k9 := 0) (Cn := RX22) (T := TX22) (N := 5) C rfl wt_X22 (by decide) ww_37 eX23_lifeIn_8 h (fun v3 h => ?_)
    refine x_bipush (v := 55) C eX23_lifeIn_11 (by decide) ?_
    refine x_ic_ne (tgt := 23) C eX23_lifeIn_13 (by decide) h (fun h => ?_) (fun h => ?_)
    · refine x_sub [] rfl ?_
      exact j_23 S1 h
    · refine x_aload_n C eX23_lifeIn_16 rfl 2 rfl ?_
      refine x_gI (o9 := x2) (ci := 22) (k9 := 3) (Cn := RX22) (T := TX22) (N := 5) C rfl wt_X22 (by decide) ww_41 eX23_lifeIn_17 h (fun v4 h => ?_)
      refine x_if_ge (tgt := 25) C eX23_lifeIn_20 (by decide) h (fun h => ?_) (fun h => ?_)
      · refine x_iconst (v := 0) C eX23_lifeIn_25 (by decide) ?_
        refine x_istore_n (lv2 := [(0, .ref m9), (1, va_rf x1), (2, va_rf x2)]) C eX23_lifeIn_26 rfl (by decide) rfl (oky rfl (oky (cat_rf x1) (oky (cat_rf x2) ok0))) ?_
        refine x_sub [1, 2, 3, 0] rfl ?_
        exact j_27 bigN S1 x1 x2 0 h
      · refine x_sub [] rfl ?_
        exact j_23 S1 h
set_option maxRecDepth 20000 in
set_option maxHeartbeats 4000000 in
theorem k_X23_lives (l : Launch) (D : va_G) (K : Ky) (m9 : Nat) (mr : Nat → Nat) (S0 Sf : Sg) (x1 : Option Nat) (rf : Unit) (h : f_lives K S0 x1 = some (Sf, rf)) : CT l D K m9 mr yX23_lives (Cond.code yX23_lives cX23_lives 4 none) (2) (44) S0 Sf [.ref m9, va_rf x1] none := by
  refine x_start (cc := cX23_lives) (lv := [(0, .ref m9), (1, va_rf x1)]) rfl rfl (by decide) (by simp [lv_args, cat_rf, cat_i, cat_l, cat_a]) (by simp [lg_sl, cat_rf, cat_i, cat_l, cat_a]) (fun p e R s m args below meth c Q A C => ?_)
  have j_66 : ∀ (S : Sg), f_lives_66 K S = some (Sf, rf) → WX p l e R s m args below meth c Q D A K m9 mr 4 S0 S 66 [] [] := by
    intro S h
    unfold f_lives_66 at h
    exact x_vret C rfl rfl eX23_lives_66 h
  have j_2 : ∀ (n_2 : Nat) (S : Sg) (x1 : Option Nat) (x2 : Int32), f_lives_2 K n_2 S x1 x2 = some (Sf, rf) → WX p l e R s m args below meth c Q D A K m9 mr 4 S0 S 2 [(0, .ref m9), (1, va_rf x1), (2, .int x2)] [] := by
    intro n_2
    induction n_2 with
    | zero => intro S x1 x2 h; unfold f_lives_2 at h; cases h
    | succ n_2 ih_2 =>
      intro S x1 x2 h
      have j_19 : ∀ (n_19 : Nat) (S : Sg) (x1 : Option Nat) (x2 : Int32) (x3 : Int32), f_lives_19 K (f_lives_2 K n_2) n_19 S x1 x2 x3 = some (Sf, rf) → WX p l e R s m args below meth c Q D A K m9 mr 4 S0 S 19 [(0, .ref m9), (1, va_rf x1), (2, .int x2), (3, .int x3)] [] := by
        intro n_19
        induction n_19 with
        | zero => intro S x1 x2 x3 h; unfold f_lives_19 at h; cases h
        | succ n_19 ih_19 =>
          intro S x1 x2 x3 h
          have j_54 : ∀ (S : Sg) (x1 : Option Nat) (x2 : Int32) (x3 : Int32), f_lives_54 K (f_lives_2 K n_2) (f_lives_19 K (f_lives_2 K n_2) n_19) S x1 x2 x3 = some (Sf, rf) → WX p l e R s m args below meth c Q D A K m9 mr 4 S0 S 54 [(0, .ref m9), (1, va_rf x1), (2, .int x2), (3, .int x3)] [] := by
            intro S x1 x2 x3 h
            unfold f_lives_54 at h
            refine x_iinc (j := 3) (v := 1) (lv2 := [(0, .ref m9), (1, va_rf x1), (2, .int x2)]) C eX23_lives_54 rfl (by decide) (by decide) rfl (oky rfl (oky (cat_rf x1) (oky rfl ok0))) ?_
            refine x_goto (tgt := 19) C eX23_lives_57 (by decide) ?_
            refine x_sub [1, 2, 3, 0] rfl ?_
            exact ih_19 S x1 x2 (x3 + 1) h
          unfold f_lives_19 at h
          refine x_iload_n C eX23_lives_19 rfl 3 rfl ?_
          refine x_iload_n C eX23_lives_20 rfl 2 rfl ?_
          refine x_ic_ge (tgt := 60) C eX23_lives_21 (by decide) h (fun h => ?_) (fun h => ?_)
          · refine x_iinc (j := 2) (v := 1) (lv2 := [(0, .ref m9), (1, va_rf x1), (3, .int x3)]) C eX23_lives_60 rfl (by decide) (by decide) rfl (oky rfl (oky (cat_rf x1) (oky rfl ok0))) ?_
            refine x_goto (tgt := 2) C eX23_lives_63 (by decide) ?_
            refine x_sub [1, 2, 0] rfl ?_
            exact ih_2 S x1 (x2 + 1) h
          · refine x_tload_n C eX23_lives_24 rfl 0 rfl ?_
            refine x_aload_n C eX23_lives_25 rfl 1 rfl ?_
            refine x_gR (o9 := x1) (ci := 16) (k9 := 12) (Cn := RX16) (T := TX16) (N := 22) C rfl wt_X16 (by decide) ww_83 eX23_lives_26 h (fun v4 h => ?_)
            refine x_iload_n C eX23_lives_29 rfl 3 rfl ?_
            refine x_aI C eX23_lives_30 h (fun v5 h => ?_)
            refine x_aload_n C eX23_lives_31 rfl 1 rfl ?_
            refine x_gR (o9 := x1) (ci := 16) (k9 := 12) (Cn := RX16) (T := TX16) (N := 22) C rfl wt_X16 (by decide) ww_83 eX23_lives_32 h (fun v6 h => ?_)
            refine x_iload_n C eX23_lives_35 rfl 2 rfl ?_
            refine x_aI C eX23_lives_36 h (fun v7 h => ?_)
            refine x_cVi (As := [.int v5, .int v7]) (st := []) (n := 2) (frc := 1) (loc := 20) C h (fun S9 r9 e9 => k_X23_sameName l D K m9 mr _ S9 v5 v7 r9 e9) ww_5 ww_261 ww_262 ww_263 ww_16 (by decide +kernel) rfl ⟨by omega, by omega⟩ (Nat.le_of_ble_eq_true rfl) eX23_lives_37 (fun S8 v9 h => ?_)
            refine x_if_eq (tgt := 54) C eX23_lives_40 (by decide) h (fun h => ?_) (fun h => ?_)
            · refine x_sub [0, 1, 2, 3] rfl ?_
              exact j_54 S8 x1 x2 x3 h
            · refine x_tload_n C eX23_lives_43 rfl 0 rfl ?_
              refine x_iconst (v := 3) C eX23_lives_44 (by decide) ?_
              refine x_aload_n C eX23_lives_45 rfl 1 rfl ?_
              refine x_gR (o9 := x1) (ci := 16) (k9 := 12) (Cn := RX16) (T := TX16) (N := 22) C rfl wt_X16 (by decide) ww_83 eX23_lives_46 h (fun v10 h => ?_)
              refine x_iload_n C eX23_lives_49 rfl 2 rfl ?_
              refine x_aI C eX23_lives_50 h (fun v11 h => ?_)
              refine x_cVv (As := [.int 3, .int v11]) (st := []) (n := 2) (frc := 1) (loc := 20) C h (fun S9 r9 e9 => k_X23_fail l D K m9 mr _ S9 3 v11 r9 e9) ww_2 ww_20 ww_21 ww_22 ww_16 (by decide +kernel) rfl ⟨by omega, by omega⟩ (Nat.le_of_ble_eq_true rfl) eX23_lives_51 (fun S12 v13 h => ?_)
              refine x_sub [0, 1, 2, 3] rfl ?_
              exact j_54 S12 x1 x2 x3 h
      unfold f_lives_2 at h
      refine x_iload_n C eX23_lives_2 rfl 2 rfl ?_
      refine x_aload_n C eX23_lives_3 rfl 1 rfl ?_
      refine x_gI (o9 := x1) (ci := 16) (k9 := 6) (Cn := RX16) (T := TX16) (N := 22) C rfl wt_X16 (by decide) ww_82 eX23_lives_4 h (fun v1 h => ?_)
      refine x_ic_ge (tgt := 66) C eX23_lives_7 (by decide) h (fun h => ?_) (fun h => ?_)
      · refine x_sub [] rfl ?_
        exact j_66 S h
      · refine x_tload_n C eX23_lives_10 rfl 0 rfl ?_
        refine x_cVi (As := []) (st := []) (n := 0) (frc := 1) (loc := 20) C h (fun S9 r9 e9 => k_X23_ok l D K m9 mr _ S9 r9 e9) ww_0 ww_13 ww_14 ww_15 ww_16 (by decide +kernel) rfl ⟨by omega, by omega⟩ (Nat.le_of_ble_eq_true rfl) eX23_lives_11 (fun S2 v3 h => ?_)
        refine x_if_eq (tgt := 66) C eX23_lives_14 (by decide) h (fun h => ?_) (fun h => ?_)
        · refine x_sub [] rfl ?_
          exact j_66 S2 h
        · refine x_iconst (v := 0) C eX23_lives_17 (by decide) ?_
          refine x_istore_n (lv2 := [(0, .ref m9), (1, va_rf x1), (2, .int x2)]) C eX23_lives_18 rfl (by decide) rfl (oky rfl (oky (cat_rf x1) (oky rfl ok0))) ?_
          refine x_sub [1, 2, 3, 0] rfl ?_
          exact j_19 bigN S2 x1 x2 0 h
  unfold f_lives at h
  refine x_iconst (v := 0) C eX23_lives_0 (by decide) ?_
  refine x_istore_n (lv2 := [(0, .ref m9), (1, va_rf x1)]) C eX23_lives_1 rfl (by decide) rfl (oky rfl (oky (cat_rf x1) ok0)) ?_
  refine x_sub [1, 2, 0] rfl ?_
  exact j_2 bigN S0 x1 0 h
set_option maxRecDepth 20000 in
set_option maxHeartbeats 4000000 in
theorem k_X23_itemNames (l : Launch) (D : va_G) (K : Ky) (m9 : Nat) (mr : Nat → Nat) (S0 Sf : Sg) (rf : Unit) (h : f_itemNames K S0 = some (Sf, rf)) : CT l D K m9 mr yX23_itemNames (Cond.code yX23_itemNames cX23_itemNames 3 none) (2) (44) S0 Sf [.ref m9] none := by
  refine x_start (cc := cX23_itemNames) (lv := [(0, .ref m9)]) rfl rfl (by decide) (by simp [lv_args, cat_rf, cat_i, cat_l, cat_a]) (by simp [lg_sl, cat_rf, cat_i, cat_l, cat_a]) (fun p e R s m args below meth c Q A C => ?_)
  have j_2 : ∀ (n_2 : Nat) (S : Sg) (x1 : Int32), f_itemNames_2 K n_2 S x1 = some (Sf, rf) → WX p l e R s m args below meth c Q D A K m9 mr 3 S0 S 2 [(0, .ref m9), (1, .int x1)] [] := by
    intro n_2
    induction n_2 with
    | zero => intro S x1 h; unfold f_itemNames_2 at h; cases h
    | succ n_2 ih_2 =>
      intro S x1 h
      have j_12 : ∀ (n_12 : Nat) (S : Sg) (x1 : Int32) (x2 : Int32), f_itemNames_12 K (f_itemNames_2 K n_2) n_12 S x1 x2 = some (Sf, rf) → WX p l e R s m args below meth c Q D A K m9 mr 3 S0 S 12 [(0, .ref m9), (1, .int x1), (2, .int x2)] [] := by
        intro n_12
        induction n_12 with
        | zero => intro S x1 x2 h; unfold f_itemNames_12 at h; cases h
        | succ n_12 ih_12 =>
          intro S x1 x2 h
          have j_56 : ∀ (S : Sg) (x1 : Int32) (x2 : Int32), f_itemNames_56 K (f_itemNames_2 K n_2) (f_itemNames_12 K (f_itemNames_2 K n_2) n_12) S x1 x2 = some (Sf, rf) → WX p l e R s m args below meth c Q D A K m9 mr 3 S0 S 56 [(0, .ref m9), (1, .int x1), (2, .int x2)] [] := by
            intro S x1 x2 h
            unfold f_itemNames_56 at h
            refine x_iinc (j := 2) (v := 1) (lv2 := [(0, .ref m9), (1, .int x1)]) C eX23_itemNames_56 rfl (by decide) (by decide) rfl (oky rfl (oky rfl ok0)) ?_
            refine x_goto (tgt := 12) C eX23_itemNames_59 (by decide) ?_
            refine x_sub [1, 2, 0] rfl ?_
            exact ih_12 S x1 (x2 + 1) h
          unfold f_itemNames_12 at h
          refine x_iload_n C eX23_itemNames_12 rfl 2 rfl ?_
          refine x_iload_n C eX23_itemNames_13 rfl 1 rfl ?_
          refine x_ic_ge (tgt := 62) C eX23_itemNames_14 (by decide) h (fun h => ?_) (fun h => ?_)
          · refine x_iinc (j := 1) (v := 1) (lv2 := [(0, .ref m9), (2, .int x2)]) C eX23_itemNames_62 rfl (by decide) (by decide) rfl (oky rfl (oky rfl ok0)) ?_
            refine x_goto (tgt := 2) C eX23_itemNames_65 (by decide) ?_
            refine x_sub [1, 0] rfl ?_
            exact ih_2 S (x1 + 1) h
          · refine x_tload_n C eX23_itemNames_17 rfl 0 rfl ?_
            refine x_tload_n C eX23_itemNames_18 rfl 0 rfl ?_
            refine x_mV (k9 := 11) C (by decide) ww_114 eX23_itemNames_19 rfl ?_
            refine x_iload_n C eX23_itemNames_22 rfl 1 rfl ?_
            refine x_rQ (r := 11) (t9 := 3) C (by decide) rfl (by decide) rfl eX23_itemNames_23 h (fun v1 h => ?_)
            refine x_gI (o9 := v1) (ci := 16) (k9 := 1) (Cn := RX16) (T := TX16) (N := 22) C rfl wt_X16 (by decide) ww_74 eX23_itemNames_24 h (fun v2 h => ?_)
            refine x_tload_n C eX23_itemNames_27 rfl 0 rfl ?_
            refine x_mV (k9 := 11) C (by decide) ww_114 eX23_itemNames_28 rfl ?_
            refine x_iload_n C eX23_itemNames_31 rfl 2 rfl ?_
            refine x_rQ (r := 11) (t9 := 3) C (by decide) rfl (by decide) rfl eX23_itemNames_32 h (fun v3 h => ?_)
            refine x_gI (o9 := v3) (ci := 16) (k9 := 1) (Cn := RX16) (T := TX16) (N := 22) C rfl wt_X16 (by decide) ww_74 eX23_itemNames_33 h (fun v4 h => ?_)
            refine x_cVi (As := [.int v2, .int v4]) (st := []) (n := 2) (frc := 1) (loc := 20) C h (fun S9 r9 e9 => k_X23_sameName l D K m9 mr _ S9 v2 v4 r9 e9) ww_5 ww_261 ww_262 ww_263 ww_16 (by decide +kernel) rfl ⟨by omega, by omega⟩ (Nat.le_of_ble_eq_true rfl) eX23_itemNames_36 (fun S5 v6 h => ?_)
            refine x_if_eq (tgt := 56) C eX23_itemNames_39 (by decide) h (fun h => ?_) (fun h => ?_)
            · refine x_sub [0, 1, 2] rfl ?_
              exact j_56 S5 x1 x2 h
            · refine x_tload_n C eX23_itemNames_42 rfl 0 rfl ?_
              refine x_iconst (v := 3) C eX23_itemNames_43 (by decide) ?_
              refine x_tload_n C eX23_itemNames_44 rfl 0 rfl ?_
              refine x_mV (k9 := 11) C (by decide) ww_114 eX23_itemNames_45 rfl ?_
              refine x_iload_n C eX23_itemNames_48 rfl 1 rfl ?_
              refine x_rQ (r := 11) (t9 := 3) C (by decide) rfl (by decide) rfl eX23_itemNames_49 h (fun v7 h => ?_)
              refine x_gI (o9 := v7) (ci := 16) (k9 := 1) (Cn := RX16) (T := TX16) (N := 22) C rfl wt_X16 (by decide) ww_74 eX23_itemNames_50 h (fun v8 h => ?_)
              refine x_cVv (As := [.int 3, .int v8]) (st := []) (n := 2) (frc := 1) (loc := 20) C h (fun S9 r9 e9 => k_X23_fail l D K m9 mr _ S9 3 v8 r9 e9) ww_2 ww_20 ww_21 ww_22 ww_16 (by decide +kernel) rfl ⟨by omega, by omega⟩ (Nat.le_of_ble_eq_true rfl) eX23_itemNames_53 (fun S9 v10 h => ?_)
              refine x_sub [0, 1, 2] rfl ?_
              exact j_56 S9 x1 x2 h
      unfold f_itemNames_2 at h
      refine x_iload_n C eX23_itemNames_2 rfl 1 rfl ?_
      refine x_tload_n C eX23_itemNames_3 rfl 0 rfl ?_
      refine x_mV (k9 := 12) C (by decide) ww_102 eX23_itemNames_4 rfl ?_
      refine x_ic_ge (tgt := 68) C eX23_itemNames_7 (by decide) h (fun h => ?_) (fun h => ?_)
      · exact x_vret C rfl rfl eX23_itemNames_68 h
      · refine x_iconst (v := 0) C eX23_itemNames_10 (by decide) ?_
        refine x_istore_n (lv2 := [(0, .ref m9), (1, .int x1)]) C eX23_itemNames_11 rfl (by decide) rfl (oky rfl (oky rfl ok0)) ?_
        refine x_sub [1, 2, 0] rfl ?_
        exact j_12 bigN S x1 0 h
  unfold f_itemNames at h
  refine x_iconst (v := 0) C eX23_itemNames_0 (by decide) ?_
  refine x_istore_n (lv2 := [(0, .ref m9)]) C eX23_itemNames_1 rfl (by decide) rfl (oky rfl ok0) ?_
  refine x_sub [1, 0] rfl ?_
  exact j_2 bigN S0 0 h
set_option maxRecDepth 20000 in
set_option maxHeartbeats 4000000 in
theorem k_X23_itemTypes (l : Launch) (D : va_G) (K : Ky) (m9 : Nat) (mr : Nat → Nat) (S0 Sf : Sg) (x1 : Option Nat) (rf : Unit) (h : f_itemTypes K S0 x1 = some (Sf, rf)) : CT l D K m9 mr yX23_itemTypes (Cond.code yX23_itemTypes cX23_itemTypes 4 none) (25) (589) S0 Sf [.ref m9, va_rf x1] none := by
  refine x_start (cc := cX23_itemTypes) (lv := [(0, .ref m9), (1, va_rf x1)]) rfl rfl (by decide) (by simp [lv_args, cat_rf, cat_i, cat_l, cat_a]) (by simp [lg_sl, cat_rf, cat_i, cat_l, cat_a]) (fun p e R s m args below meth c Q A C => ?_)
  have j_219 : ∀ (S : Sg), f_itemTypes_219 K S = some (Sf, rf) → WX p l e R s m args below meth c Q D A K m9 mr 4 S0 S 219 [] [] := by
    intro S h
    unfold f_itemTypes_219 at h
    exact x_vret C rfl rfl eX23_itemTypes_219 h
  have j_270 : ∀ (S : Sg) (y0 : Int32) (y1 : Option Nat), f_itemTypes_270 K S y0 y1 = some (Sf, rf) → WX p l e R s m args below meth c Q D A K m9 mr 4 S0 S 270 [] [.int y0, va_rf y1] := by
    intro S y0 y1 h
    unfold f_itemTypes_270 at h
    refine x_pI (o9 := y1) (ci := 16) (k9 := 7) (Cn := RX16) (T := TX16) (N := 22) C rfl wt_X16 tyX16_ok nmX16 (by decide) ww_286 rfl (by decide +kernel) eX23_itemTypes_270 h (fun S61 h => ?_)
    exact x_vret C rfl rfl eX23_itemTypes_273 h
  have j_246 : ∀ (S : Sg) (x1 : Option Nat) (y0 : Option Nat) (y1 : Option Nat), f_itemTypes_246 K S x1 y0 y1 = some (Sf, rf) → WX p l e R s m args below meth c Q D A K m9 mr 4 S0 S 246 [(0, .ref m9), (1, va_rf x1)] [va_rf y0, va_rf y1] := by
    intro S x1 y0 y1 h
    unfold f_itemTypes_246 at h
    refine x_pR (o9 := y1) (Cv := "OwnedPlacesModel$Type") (ci := 16) (k9 := 15) (Cn := RX16) (T := TX16) (N := 22) C rfl wt_X16 tyX16_ok nmX16 (by decide) ww_285 rfl (by decide +kernel) eX23_itemTypes_246 h (fun S56 h => ?_)
    refine x_aload_n C eX23_itemTypes_249 rfl 1 rfl ?_
    refine x_aload_n C eX23_itemTypes_250 rfl 1 rfl ?_
    refine x_gR (o9 := x1) (ci := 16) (k9 := 14) (Cn := RX16) (T := TX16) (N := 22) C rfl wt_X16 (by decide) ww_95 eX23_itemTypes_251 h (fun v57 h => ?_)
    refine x_ifnonnull (tgt := 261) C eX23_itemTypes_254 (by decide) h (fun h => ?_) (fun h => ?_)
    · refine x_tload_n C eX23_itemTypes_261 rfl 0 rfl ?_
      refine x_aload_n C eX23_itemTypes_262 rfl 1 rfl ?_
      refine x_aload_n C eX23_itemTypes_263 rfl 1 rfl ?_
      refine x_gR (o9 := x1) (ci := 16) (k9 := 14) (Cn := RX16) (T := TX16) (N := 22) C rfl wt_X16 (by decide) ww_95 eX23_itemTypes_264 h (fun v58 h => ?_)
      refine x_cVi (As := [va_rf x1, va_rf v58]) (st := [va_rf x1]) (n := 2) (frc := 2) (loc := 44) C h (fun S9 r9 e9 => k_X23_lifeIn l D K m9 mr _ S9 x1 v58 r9 e9) ww_275 ww_282 ww_283 ww_284 ww_16 (by decide +kernel) rfl ⟨by omega, by omega⟩ (Nat.le_of_ble_eq_true rfl) eX23_itemTypes_267 (fun S59 v60 h => ?_)
      refine x_sub [] rfl ?_
      exact j_270 S59 v60 x1 h
    · refine x_iconst (v := (-1)) C eX23_itemTypes_257 (by decide) ?_
      refine x_goto (tgt := 270) C eX23_itemTypes_258 (by decide) ?_
      refine x_sub [] rfl ?_
      exact j_270 S56 (-1) x1 h
  have j_203 : ∀ (S : Sg) (x1 : Option Nat), f_itemTypes_203 K S x1 = some (Sf, rf) → WX p l e R s m args below meth c Q D A K m9 mr 4 S0 S 203 [(0, .ref m9), (1, va_rf x1)] [] := by
    intro S x1 h
    unfold f_itemTypes_203 at h
    refine x_aload_n C eX23_itemTypes_203 rfl 1 rfl ?_
    refine x_gI (o9 := x1) (ci := 16) (k9 := 2) (Cn := RX16) (T := TX16) (N := 22) C rfl wt_X16 (by decide) ww_72 eX23_itemTypes_204 h (fun v47 h => ?_)
    refine x_bipush (v := 12) C eX23_itemTypes_207 (by decide) ?_
    refine x_ic_ne (tgt := 219) C eX23_itemTypes_209 (by decide) h (fun h => ?_) (fun h => ?_)
    · refine x_sub [] rfl ?_
      exact j_219 S h
    · refine x_tload_n C eX23_itemTypes_212 rfl 0 rfl ?_
      refine x_cVi (As := []) (st := []) (n := 0) (frc := 1) (loc := 20) C h (fun S9 r9 e9 => k_X23_ok l D K m9 mr _ S9 r9 e9) ww_0 ww_13 ww_14 ww_15 ww_16 (by decide +kernel) rfl ⟨by omega, by omega⟩ (Nat.le_of_ble_eq_true rfl) eX23_itemTypes_213 (fun S48 v49 h => ?_)
      refine x_if_ne (tgt := 220) C eX23_itemTypes_216 (by decide) h (fun h => ?_) (fun h => ?_)
      · refine x_aload_n C eX23_itemTypes_220 rfl 1 rfl ?_
        refine x_aload_n C eX23_itemTypes_221 rfl 1 rfl ?_
        refine x_gR (o9 := x1) (ci := 16) (k9 := 14) (Cn := RX16) (T := TX16) (N := 22) C rfl wt_X16 (by decide) ww_95 eX23_itemTypes_222 h (fun v50 h => ?_)
        refine x_ifnonnull (tgt := 237) C eX23_itemTypes_225 (by decide) h (fun h => ?_) (fun h => ?_)
        · refine x_tload_n C eX23_itemTypes_237 rfl 0 rfl ?_
          refine x_aload_n C eX23_itemTypes_238 rfl 1 rfl ?_
          refine x_gR (o9 := x1) (ci := 16) (k9 := 14) (Cn := RX16) (T := TX16) (N := 22) C rfl wt_X16 (by decide) ww_95 eX23_itemTypes_239 h (fun v51 h => ?_)
          refine x_iconst (v := 1) C eX23_itemTypes_242 (by decide) ?_
          refine x_cVr (As := [va_rf v51, .int 1]) (st := [va_rf x1]) (n := 2) (frc := 4 + 1 * 20) (loc := 85 + 24 * 20) C h (fun S9 r9 e9 => k_X23_resolve l D K m9 mr 20 _ S9 v51 1 r9 e9) ww_264 ww_268 ww_269 ww_270 ww_16 (by decide +kernel) rfl ⟨by omega, by omega⟩ (Nat.le_of_ble_eq_true rfl) eX23_itemTypes_243 (fun S52 v53 h => ?_)
          refine x_sub [0, 1] rfl ?_
          exact j_246 S52 x1 v53 x1 h
        · refine x_tload_n C eX23_itemTypes_228 rfl 0 rfl ?_
          refine x_bipush (v := 8) C eX23_itemTypes_229 (by decide) ?_
          refine x_cVr (As := [.int 8]) (st := [va_rf x1]) (n := 1) (frc := 3) (loc := 64) C h (fun S9 r9 e9 => k_X23_plainType l D K m9 mr _ S9 8 r9 e9) ww_254 ww_265 ww_266 ww_267 ww_16 (by decide +kernel) rfl ⟨by omega, by omega⟩ (Nat.le_of_ble_eq_true rfl) eX23_itemTypes_231 (fun S54 v55 h => ?_)
          refine x_goto (tgt := 246) C eX23_itemTypes_234 (by decide) ?_
          refine x_sub [0, 1] rfl ?_
          exact j_246 S54 x1 v55 x1 h
      · refine x_sub [] rfl ?_
        exact j_219 S48 h
  have j_16 : ∀ (n_16 : Nat) (S : Sg) (x1 : Option Nat) (x2 : Int32), f_itemTypes_16 K n_16 S x1 x2 = some (Sf, rf) → WX p l e R s m args below meth c Q D A K m9 mr 4 S0 S 16 [(0, .ref m9), (1, va_rf x1), (2, .int x2)] [] := by
    intro n_16
    induction n_16 with
    | zero => intro S x1 x2 h; unfold f_itemTypes_16 at h; cases h
    | succ n_16 ih_16 =>
      intro S x1 x2 h
      have j_197 : ∀ (S : Sg) (x1 : Option Nat) (x2 : Int32), f_itemTypes_197 K (f_itemTypes_16 K n_16) S x1 x2 = some (Sf, rf) → WX p l e R s m args below meth c Q D A K m9 mr 4 S0 S 197 [(0, .ref m9), (1, va_rf x1), (2, .int x2)] [] := by
        intro S x1 x2 h
        unfold f_itemTypes_197 at h
        refine x_iinc (j := 2) (v := 1) (lv2 := [(0, .ref m9), (1, va_rf x1)]) C eX23_itemTypes_197 rfl (by decide) (by decide) rfl (oky rfl (oky (cat_rf x1) ok0)) ?_
        refine x_goto (tgt := 16) C eX23_itemTypes_200 (by decide) ?_
        refine x_sub [1, 2, 0] rfl ?_
        exact ih_16 S x1 (x2 + 1) h
      have j_109 : ∀ (S : Sg) (x1 : Option Nat) (x2 : Int32) (y0 : Int32) (y1 : Option Nat) (y3 : Int32) (y4 : Option Nat), f_itemTypes_109 K (f_itemTypes_16 K n_16) S x1 x2 y0 y1 y3 y4 = some (Sf, rf) → WX p l e R s m args below meth c Q D A K m9 mr 4 S0 S 109 [(0, .ref m9), (1, va_rf x1), (2, .int x2)] [.int y0, va_rf y1, .ref m9, .int y3, va_rf y4] := by
        intro S x1 x2 y0 y1 y3 y4 h
        unfold f_itemTypes_109 at h
        refine x_cVr (As := [va_rf y1, .int y0]) (st := [.int y3, va_rf y4]) (n := 2) (frc := 4 + 1 * 20) (loc := 85 + 24 * 20) C h (fun S9 r9 e9 => k_X23_resolve l D K m9 mr 20 _ S9 y1 y0 r9 e9) ww_264 ww_268 ww_269 ww_270 ww_16 (by decide +kernel) rfl ⟨by omega, by omega⟩ (Nat.le_of_ble_eq_true rfl) eX23_itemTypes_109 (fun S22 v23 h => ?_)
        refine x_bQ (t9 := 4) (ci := 20) C rfl rfl eX23_itemTypes_112 h (fun S24 h => ?_)
        refine x_aload_n C eX23_itemTypes_113 rfl 1 rfl ?_
        refine x_gI (o9 := x1) (ci := 16) (k9 := 2) (Cn := RX16) (T := TX16) (N := 22) C rfl wt_X16 (by decide) ww_72 eX23_itemTypes_114 h (fun v25 h => ?_)
        refine x_bipush (v := 12) C eX23_itemTypes_117 (by decide) ?_
        refine x_ic_ne (tgt := 197) C eX23_itemTypes_119 (by decide) h (fun h => ?_) (fun h => ?_)
        · refine x_sub [0, 1, 2] rfl ?_
          exact j_197 S24 x1 x2 h
        · refine x_aload_n C eX23_itemTypes_122 rfl 1 rfl ?_
          refine x_gR (o9 := x1) (ci := 16) (k9 := 13) (Cn := RX16) (T := TX16) (N := 22) C rfl wt_X16 (by decide) ww_89 eX23_itemTypes_123 h (fun v26 h => ?_)
          refine x_iload_n C eX23_itemTypes_126 rfl 2 rfl ?_
          refine x_tload_n C eX23_itemTypes_127 rfl 0 rfl ?_
          refine x_aload_n C eX23_itemTypes_128 rfl 1 rfl ?_
          refine x_aload_n C eX23_itemTypes_129 rfl 1 rfl ?_
          refine x_gR (o9 := x1) (ci := 16) (k9 := 9) (Cn := RX16) (T := TX16) (N := 22) C rfl wt_X16 (by decide) ww_59 eX23_itemTypes_130 h (fun v27 h => ?_)
          refine x_iload_n C eX23_itemTypes_133 rfl 2 rfl ?_
          refine x_aQ (t9 := 12) C rfl eX23_itemTypes_134 h (fun v28 h => ?_)
          refine x_cVi (As := [va_rf x1, va_rf v28]) (st := [.int x2, va_rf v26]) (n := 2) (frc := 2) (loc := 44) C h (fun S9 r9 e9 => k_X23_lifeIn l D K m9 mr _ S9 x1 v28 r9 e9) ww_275 ww_282 ww_283 ww_284 ww_16 (by decide +kernel) rfl ⟨by omega, by omega⟩ (Nat.le_of_ble_eq_true rfl) eX23_itemTypes_135 (fun S29 v30 h => ?_)
          refine x_bI C eX23_itemTypes_138 h (fun S31 h => ?_)
          refine x_goto (tgt := 197) C eX23_itemTypes_139 (by decide) ?_
          refine x_sub [0, 1, 2] rfl ?_
          exact j_197 S31 x1 x2 h
      have j_144 : ∀ (n_144 : Nat) (S : Sg) (x1 : Option Nat) (x2 : Int32) (x3 : Int32), f_itemTypes_144 K (f_itemTypes_16 K n_16) n_144 S x1 x2 x3 = some (Sf, rf) → WX p l e R s m args below meth c Q D A K m9 mr 4 S0 S 144 [(0, .ref m9), (1, va_rf x1), (2, .int x2), (3, .int x3)] [] := by
        intro n_144
        induction n_144 with
        | zero => intro S x1 x2 x3 h; unfold f_itemTypes_144 at h; cases h
        | succ n_144 ih_144 =>
          intro S x1 x2 x3 h
          unfold f_itemTypes_144 at h
          refine x_iload_n C eX23_itemTypes_144 rfl 3 rfl ?_
          refine x_aload_n C eX23_itemTypes_145 rfl 1 rfl ?_
          refine x_gR (o9 := x1) (ci := 16) (k9 := 11) (Cn := RX16) (T := TX16) (N := 22) C rfl wt_X16 (by decide) ww_65 eX23_itemTypes_146 h (fun v32 h => ?_)
          refine x_iload_n C eX23_itemTypes_149 rfl 2 rfl ?_
          refine x_aQ (t9 := 13) C rfl eX23_itemTypes_150 h (fun v33 h => ?_)
          refine x_gI (o9 := v33) (ci := 17) (k9 := 0) (Cn := RX17) (T := TX17) (N := 3) C rfl wt_X17 (by decide) ww_69 eX23_itemTypes_151 h (fun v34 h => ?_)
          refine x_ic_ge (tgt := 197) C eX23_itemTypes_154 (by decide) h (fun h => ?_) (fun h => ?_)
          · refine x_sub [0, 1, 2] rfl ?_
            exact j_197 S x1 x2 h
          · refine x_tload_n C eX23_itemTypes_157 rfl 0 rfl ?_
            refine x_cVi (As := []) (st := []) (n := 0) (frc := 1) (loc := 20) C h (fun S9 r9 e9 => k_X23_ok l D K m9 mr _ S9 r9 e9) ww_0 ww_13 ww_14 ww_15 ww_16 (by decide +kernel) rfl ⟨by omega, by omega⟩ (Nat.le_of_ble_eq_true rfl) eX23_itemTypes_158 (fun S35 v36 h => ?_)
            refine x_if_eq (tgt := 197) C eX23_itemTypes_161 (by decide) h (fun h => ?_) (fun h => ?_)
            · refine x_sub [0, 1, 2] rfl ?_
              exact j_197 S35 x1 x2 h
            · refine x_aload_n C eX23_itemTypes_164 rfl 1 rfl ?_
              refine x_gR (o9 := x1) (ci := 16) (k9 := 11) (Cn := RX16) (T := TX16) (N := 22) C rfl wt_X16 (by decide) ww_65 eX23_itemTypes_165 h (fun v37 h => ?_)
              refine x_iload_n C eX23_itemTypes_168 rfl 2 rfl ?_
              refine x_aQ (t9 := 13) C rfl eX23_itemTypes_169 h (fun v38 h => ?_)
              refine x_gR (o9 := v38) (ci := 17) (k9 := 2) (Cn := RX17) (T := TX17) (N := 3) C rfl wt_X17 (by decide) ww_68 eX23_itemTypes_170 h (fun v39 h => ?_)
              refine x_iload_n C eX23_itemTypes_173 rfl 3 rfl ?_
              refine x_tload_n C eX23_itemTypes_174 rfl 0 rfl ?_
              refine x_aload_n C eX23_itemTypes_175 rfl 1 rfl ?_
              refine x_gR (o9 := x1) (ci := 16) (k9 := 11) (Cn := RX16) (T := TX16) (N := 22) C rfl wt_X16 (by decide) ww_65 eX23_itemTypes_176 h (fun v40 h => ?_)
              refine x_iload_n C eX23_itemTypes_179 rfl 2 rfl ?_
              refine x_aQ (t9 := 13) C rfl eX23_itemTypes_180 h (fun v41 h => ?_)
              refine x_gR (o9 := v41) (ci := 17) (k9 := 1) (Cn := RX17) (T := TX17) (N := 3) C rfl wt_X17 (by decide) ww_66 eX23_itemTypes_181 h (fun v42 h => ?_)
              refine x_iload_n C eX23_itemTypes_184 rfl 3 rfl ?_
              refine x_aQ (t9 := 12) C rfl eX23_itemTypes_185 h (fun v43 h => ?_)
              refine x_iconst (v := 0) C eX23_itemTypes_186 (by decide) ?_
              refine x_cVr (As := [va_rf v43, .int 0]) (st := [.int x3, va_rf v39]) (n := 2) (frc := 4 + 1 * 20) (loc := 85 + 24 * 20) C h (fun S9 r9 e9 => k_X23_resolve l D K m9 mr 20 _ S9 v43 0 r9 e9) ww_264 ww_268 ww_269 ww_270 ww_16 (by decide +kernel) rfl ⟨by omega, by omega⟩ (Nat.le_of_ble_eq_true rfl) eX23_itemTypes_187 (fun S44 v45 h => ?_)
              refine x_bQ (t9 := 4) (ci := 20) C rfl rfl eX23_itemTypes_190 h (fun S46 h => ?_)
              refine x_iinc (j := 3) (v := 1) (lv2 := [(0, .ref m9), (1, va_rf x1), (2, .int x2)]) C eX23_itemTypes_191 rfl (by decide) (by decide) rfl (oky rfl (oky (cat_rf x1) (oky rfl ok0))) ?_
              refine x_goto (tgt := 144) C eX23_itemTypes_194 (by decide) ?_
              refine x_sub [1, 2, 3, 0] rfl ?_
              exact ih_144 S46 x1 x2 (x3 + 1) h
      have j_33 : ∀ (n_33 : Nat) (S : Sg) (x1 : Option Nat) (x2 : Int32) (x3 : Int32), f_itemTypes_33 K (f_itemTypes_16 K n_16) n_33 S x1 x2 x3 = some (Sf, rf) → WX p l e R s m args below meth c Q D A K m9 mr 4 S0 S 33 [(0, .ref m9), (1, va_rf x1), (2, .int x2), (3, .int x3)] [] := by
        intro n_33
        induction n_33 with
        | zero => intro S x1 x2 x3 h; unfold f_itemTypes_33 at h; cases h
        | succ n_33 ih_33 =>
          intro S x1 x2 x3 h
          have j_68 : ∀ (S : Sg) (x1 : Option Nat) (x2 : Int32) (x3 : Int32), f_itemTypes_68 K (f_itemTypes_16 K n_16) (f_itemTypes_33 K (f_itemTypes_16 K n_16) n_33) S x1 x2 x3 = some (Sf, rf) → WX p l e R s m args below meth c Q D A K m9 mr 4 S0 S 68 [(0, .ref m9), (1, va_rf x1), (2, .int x2), (3, .int x3)] [] := by
            intro S x1 x2 x3 h
            unfold f_itemTypes_68 at h
            refine x_iinc (j := 3) (v := 1) (lv2 := [(0, .ref m9), (1, va_rf x1), (2, .int x2)]) C eX23_itemTypes_68 rfl (by decide) (by decide) rfl (oky rfl (oky (cat_rf x1) (oky rfl ok0))) ?_
            refine x_goto (tgt := 33) C eX23_itemTypes_71 (by decide) ?_
            refine x_sub [1, 2, 3, 0] rfl ?_
            exact ih_33 S x1 x2 (x3 + 1) h
          unfold f_itemTypes_33 at h
          refine x_iload_n C eX23_itemTypes_33 rfl 3 rfl ?_
          refine x_iload_n C eX23_itemTypes_34 rfl 2 rfl ?_
          refine x_ic_ge (tgt := 74) C eX23_itemTypes_35 (by decide) h (fun h => ?_) (fun h => ?_)
          · refine x_aload_n C eX23_itemTypes_74 rfl 1 rfl ?_
            refine x_gI (o9 := x1) (ci := 16) (k9 := 2) (Cn := RX16) (T := TX16) (N := 22) C rfl wt_X16 (by decide) ww_72 eX23_itemTypes_75 h (fun v7 h => ?_)
            refine x_bipush (v := 11) C eX23_itemTypes_78 (by decide) ?_
            refine x_ic_eq (tgt := 142) C eX23_itemTypes_80 (by decide) h (fun h => ?_) (fun h => ?_)
            · refine x_iconst (v := 0) C eX23_itemTypes_142 (by decide) ?_
              refine x_istore_n (lv2 := [(0, .ref m9), (1, va_rf x1), (2, .int x2)]) C eX23_itemTypes_143 rfl (by decide) rfl (oky rfl (oky (cat_rf x1) (oky rfl ok0))) ?_
              refine x_sub [1, 2, 3, 0] rfl ?_
              exact j_144 bigN S x1 x2 0 h
            · refine x_aload_n C eX23_itemTypes_83 rfl 1 rfl ?_
              refine x_gR (o9 := x1) (ci := 16) (k9 := 10) (Cn := RX16) (T := TX16) (N := 22) C rfl wt_X16 (by decide) ww_73 eX23_itemTypes_84 h (fun v8 h => ?_)
              refine x_iload_n C eX23_itemTypes_87 rfl 2 rfl ?_
              refine x_tload_n C eX23_itemTypes_88 rfl 0 rfl ?_
              refine x_aload_n C eX23_itemTypes_89 rfl 1 rfl ?_
              refine x_gR (o9 := x1) (ci := 16) (k9 := 9) (Cn := RX16) (T := TX16) (N := 22) C rfl wt_X16 (by decide) ww_59 eX23_itemTypes_90 h (fun v9 h => ?_)
              refine x_iload_n C eX23_itemTypes_93 rfl 2 rfl ?_
              refine x_aQ (t9 := 12) C rfl eX23_itemTypes_94 h (fun v10 h => ?_)
              refine x_aload_n C eX23_itemTypes_95 rfl 1 rfl ?_
              refine x_gI (o9 := x1) (ci := 16) (k9 := 2) (Cn := RX16) (T := TX16) (N := 22) C rfl wt_X16 (by decide) ww_72 eX23_itemTypes_96 h (fun v11 h => ?_)
              refine x_bipush (v := 12) C eX23_itemTypes_99 (by decide) ?_
              refine x_ic_ne (tgt := 108) C eX23_itemTypes_101 (by decide) h (fun h => ?_) (fun h => ?_)
              · refine x_iconst (v := 0) C eX23_itemTypes_108 (by decide) ?_
                refine x_sub [0, 1, 2] rfl ?_
                exact j_109 S x1 x2 0 v10 x2 v8 h
              · refine x_iconst (v := 1) C eX23_itemTypes_104 (by decide) ?_
                refine x_goto (tgt := 109) C eX23_itemTypes_105 (by decide) ?_
                refine x_sub [0, 1, 2] rfl ?_
                exact j_109 S x1 x2 1 v10 x2 v8 h
          · refine x_tload_n C eX23_itemTypes_38 rfl 0 rfl ?_
            refine x_aload_n C eX23_itemTypes_39 rfl 1 rfl ?_
            refine x_gR (o9 := x1) (ci := 16) (k9 := 8) (Cn := RX16) (T := TX16) (N := 22) C rfl wt_X16 (by decide) ww_55 eX23_itemTypes_40 h (fun v12 h => ?_)
            refine x_iload_n C eX23_itemTypes_43 rfl 3 rfl ?_
            refine x_aI C eX23_itemTypes_44 h (fun v13 h => ?_)
            refine x_aload_n C eX23_itemTypes_45 rfl 1 rfl ?_
            refine x_gR (o9 := x1) (ci := 16) (k9 := 8) (Cn := RX16) (T := TX16) (N := 22) C rfl wt_X16 (by decide) ww_55 eX23_itemTypes_46 h (fun v14 h => ?_)
            refine x_iload_n C eX23_itemTypes_49 rfl 2 rfl ?_
            refine x_aI C eX23_itemTypes_50 h (fun v15 h => ?_)
            refine x_cVi (As := [.int v13, .int v15]) (st := []) (n := 2) (frc := 1) (loc := 20) C h (fun S9 r9 e9 => k_X23_sameName l D K m9 mr _ S9 v13 v15 r9 e9) ww_5 ww_261 ww_262 ww_263 ww_16 (by decide +kernel) rfl ⟨by omega, by omega⟩ (Nat.le_of_ble_eq_true rfl) eX23_itemTypes_51 (fun S16 v17 h => ?_)
            refine x_if_eq (tgt := 68) C eX23_itemTypes_54 (by decide) h (fun h => ?_) (fun h => ?_)
            · refine x_sub [0, 1, 2, 3] rfl ?_
              exact j_68 S16 x1 x2 x3 h
            · refine x_tload_n C eX23_itemTypes_57 rfl 0 rfl ?_
              refine x_iconst (v := 3) C eX23_itemTypes_58 (by decide) ?_
              refine x_aload_n C eX23_itemTypes_59 rfl 1 rfl ?_
              refine x_gR (o9 := x1) (ci := 16) (k9 := 8) (Cn := RX16) (T := TX16) (N := 22) C rfl wt_X16 (by decide) ww_55 eX23_itemTypes_60 h (fun v18 h => ?_)
              refine x_iload_n C eX23_itemTypes_63 rfl 2 rfl ?_
              refine x_aI C eX23_itemTypes_64 h (fun v19 h => ?_)
              refine x_cVv (As := [.int 3, .int v19]) (st := []) (n := 2) (frc := 1) (loc := 20) C h (fun S9 r9 e9 => k_X23_fail l D K m9 mr _ S9 3 v19 r9 e9) ww_2 ww_20 ww_21 ww_22 ww_16 (by decide +kernel) rfl ⟨by omega, by omega⟩ (Nat.le_of_ble_eq_true rfl) eX23_itemTypes_65 (fun S20 v21 h => ?_)
              refine x_sub [0, 1, 2, 3] rfl ?_
              exact j_68 S20 x1 x2 x3 h
      unfold f_itemTypes_16 at h
      refine x_iload_n C eX23_itemTypes_16 rfl 2 rfl ?_
      refine x_aload_n C eX23_itemTypes_17 rfl 1 rfl ?_
      refine x_gI (o9 := x1) (ci := 16) (k9 := 3) (Cn := RX16) (T := TX16) (N := 22) C rfl wt_X16 (by decide) ww_51 eX23_itemTypes_18 h (fun v4 h => ?_)
      refine x_ic_ge (tgt := 203) C eX23_itemTypes_21 (by decide) h (fun h => ?_) (fun h => ?_)
      · refine x_sub [0, 1] rfl ?_
        exact j_203 S x1 h
      · refine x_tload_n C eX23_itemTypes_24 rfl 0 rfl ?_
        refine x_cVi (As := []) (st := []) (n := 0) (frc := 1) (loc := 20) C h (fun S9 r9 e9 => k_X23_ok l D K m9 mr _ S9 r9 e9) ww_0 ww_13 ww_14 ww_15 ww_16 (by decide +kernel) rfl ⟨by omega, by omega⟩ (Nat.le_of_ble_eq_true rfl) eX23_itemTypes_25 (fun S5 v6 h => ?_)
        refine x_if_eq (tgt := 203) C eX23_itemTypes_28 (by decide) h (fun h => ?_) (fun h => ?_)
        · refine x_sub [0, 1] rfl ?_
          exact j_203 S5 x1 h
        · refine x_iconst (v := 0) C eX23_itemTypes_31 (by decide) ?_
          refine x_istore_n (lv2 := [(0, .ref m9), (1, va_rf x1), (2, .int x2)]) C eX23_itemTypes_32 rfl (by decide) rfl (oky rfl (oky (cat_rf x1) (oky rfl ok0))) ?_
          refine x_sub [1, 2, 3, 0] rfl ?_
          exact j_33 bigN S5 x1 x2 0 h
  have j_14 : ∀ (S : Sg) (x1 : Option Nat), f_itemTypes_14 K S x1 = some (Sf, rf) → WX p l e R s m args below meth c Q D A K m9 mr 4 S0 S 14 [(0, .ref m9), (1, va_rf x1)] [] := by
    intro S x1 h
    unfold f_itemTypes_14 at h
    refine x_iconst (v := 0) C eX23_itemTypes_14 (by decide) ?_
    refine x_istore_n (lv2 := [(0, .ref m9), (1, va_rf x1)]) C eX23_itemTypes_15 rfl (by decide) rfl (oky rfl (oky (cat_rf x1) ok0)) ?_
    refine x_sub [1, 2, 0] rfl ?_
    exact j_16 bigN S x1 0 h
  unfold f_itemTypes at h
  refine x_aload_n C eX23_itemTypes_0 rfl 1 rfl ?_
  refine x_gI (o9 := x1) (ci := 16) (k9 := 2) (Cn := RX16) (T := TX16) (N := 22) C rfl wt_X16 (by decide) ww_72 eX23_itemTypes_1 h (fun v1 h => ?_)
  refine x_bipush (v := 12) C eX23_itemTypes_4 (by decide) ?_
  refine x_ic_ne (tgt := 14) C eX23_itemTypes_6 (by decide) h (fun h => ?_) (fun h => ?_)
  · refine x_sub [0, 1] rfl ?_
    exact j_14 S0 x1 h
  · refine x_tload_n C eX23_itemTypes_9 rfl 0 rfl ?_
    refine x_aload_n C eX23_itemTypes_10 rfl 1 rfl ?_
    refine x_cVv (As := [va_rf x1]) (st := []) (n := 1) (frc := 2) (loc := 44) C h (fun S9 r9 e9 => k_X23_lives l D K m9 mr _ S9 x1 r9 e9) ww_276 ww_279 ww_280 ww_281 ww_16 (by decide +kernel) rfl ⟨by omega, by omega⟩ (Nat.le_of_ble_eq_true rfl) eX23_itemTypes_11 (fun S2 v3 h => ?_)
    refine x_sub [0, 1] rfl ?_
    exact j_14 S2 x1 h
set_option maxRecDepth 20000 in
set_option maxHeartbeats 4000000 in
theorem k_X23_isItem (l : Launch) (D : va_G) (K : Ky) (m9 : Nat) (mr : Nat → Nat) (S0 Sf : Sg) (x0 : Option Nat) (x1 : Int32) (rf : Int32) (h : f_isItem K S0 x0 x1 = some (Sf, rf)) : CT l D K m9 mr yX23_isItem (Cond.code yX23_isItem cX23_isItem 2 (some .boolean)) (1) (20) S0 Sf [va_rf x0, .int x1] (some (.int rf)) := by
  refine x_start (cc := cX23_isItem) (lv := [(0, va_rf x0), (1, .int x1)]) rfl rfl (by decide) (by simp [lv_args, cat_rf, cat_i, cat_l, cat_a]) (by simp [lg_sl, cat_rf, cat_i, cat_l, cat_a]) (fun p e R s m args below meth c Q A C => ?_)
  have j_29 : ∀ (S : Sg) (y0 : Int32), f_isItem_29 K S y0 = some (Sf, rf) → WX p l e R s m args below meth c Q D A K m9 mr 2 S0 S 29 [] [.int y0] := by
    intro S y0 h
    unfold f_isItem_29 at h
    exact x_zret C rfl rfl eX23_isItem_29 h
  have j_28 : ∀ (S : Sg), f_isItem_28 K S = some (Sf, rf) → WX p l e R s m args below meth c Q D A K m9 mr 2 S0 S 28 [] [] := by
    intro S h
    unfold f_isItem_28 at h
    refine x_iconst (v := 0) C eX23_isItem_28 (by decide) ?_
    refine x_sub [] rfl ?_
    exact j_29 S 0 h
  have j_16 : ∀ (S : Sg) (x0 : Option Nat) (x1 : Int32), f_isItem_16 K S x0 x1 = some (Sf, rf) → WX p l e R s m args below meth c Q D A K m9 mr 2 S0 S 16 [(0, va_rf x0), (1, .int x1)] [] := by
    intro S x0 x1 h
    unfold f_isItem_16 at h
    refine x_aload_n C eX23_isItem_16 rfl 0 rfl ?_
    refine x_gI (o9 := x0) (ci := 20) (k9 := 1) (Cn := RX20) (T := TX20) (N := 4) C rfl wt_X20 (by decide) ww_248 eX23_isItem_17 h (fun v3 h => ?_)
    refine x_iload_n C eX23_isItem_20 rfl 1 rfl ?_
    refine x_ic_ne (tgt := 28) C eX23_isItem_21 (by decide) h (fun h => ?_) (fun h => ?_)
    · refine x_sub [] rfl ?_
      exact j_28 S h
    · refine x_iconst (v := 1) C eX23_isItem_24 (by decide) ?_
      refine x_goto (tgt := 29) C eX23_isItem_25 (by decide) ?_
      refine x_sub [] rfl ?_
      exact j_29 S 1 h
  unfold f_isItem at h
  refine x_aload_n C eX23_isItem_0 rfl 0 rfl ?_
  refine x_gI (o9 := x0) (ci := 20) (k9 := 0) (Cn := RX20) (T := TX20) (N := 4) C rfl wt_X20 (by decide) ww_247 eX23_isItem_1 h (fun v1 h => ?_)
  refine x_iconst (v := 3) C eX23_isItem_4 (by decide) ?_
  refine x_ic_eq (tgt := 16) C eX23_isItem_5 (by decide) h (fun h => ?_) (fun h => ?_)
  · refine x_sub [0, 1] rfl ?_
    exact j_16 S0 x0 x1 h
  · refine x_aload_n C eX23_isItem_8 rfl 0 rfl ?_
    refine x_gI (o9 := x0) (ci := 20) (k9 := 0) (Cn := RX20) (T := TX20) (N := 4) C rfl wt_X20 (by decide) ww_247 eX23_isItem_9 h (fun v2 h => ?_)
    refine x_iconst (v := 4) C eX23_isItem_12 (by decide) ?_
    refine x_ic_ne (tgt := 28) C eX23_isItem_13 (by decide) h (fun h => ?_) (fun h => ?_)
    · refine x_sub [] rfl ?_
      exact j_28 S0 h
    · refine x_sub [0, 1] rfl ?_
      exact j_16 S0 x0 x1 h
set_option maxRecDepth 20000 in
set_option maxHeartbeats 4000000 in
theorem k_X23_lies (l : Launch) (D : va_G) (K : Ky) (m9 : Nat) (mr : Nat → Nat) (S0 Sf : Sg) (x1 : Int32) (x2 : Int32) (rf : Int32) (h : f_lies K S0 x1 x2 = some (Sf, rf)) : CT l D K m9 mr yX23_lies (Cond.code yX23_lies cX23_lies 6 (some .boolean)) (2) (41) S0 Sf [.ref m9, .int x1, .int x2] (some (.int rf)) := by
  refine x_start (cc := cX23_lies) (lv := [(0, .ref m9), (1, .int x1), (2, .int x2)]) rfl rfl (by decide) (by simp [lv_args, cat_rf, cat_i, cat_l, cat_a]) (by simp [lg_sl, cat_rf, cat_i, cat_l, cat_a]) (fun p e R s m args below meth c Q A C => ?_)
  have j_10 : ∀ (n_10 : Nat) (S : Sg) (x2 : Int32) (x3 : Option Nat) (x4 : Int32), f_lies_10 K n_10 S x2 x3 x4 = some (Sf, rf) → WX p l e R s m args below meth c Q D A K m9 mr 6 S0 S 10 [(2, .int x2), (3, va_rf x3), (4, .int x4)] [] := by
    intro n_10
    induction n_10 with
    | zero => intro S x2 x3 x4 h; unfold f_lies_10 at h; cases h
    | succ n_10 ih_10 =>
      intro S x2 x3 x4 h
      have j_99 : ∀ (S : Sg) (x2 : Int32) (x3 : Option Nat) (x4 : Int32), f_lies_99 K (f_lies_10 K n_10) S x2 x3 x4 = some (Sf, rf) → WX p l e R s m args below meth c Q D A K m9 mr 6 S0 S 99 [(2, .int x2), (3, va_rf x3), (4, .int x4)] [] := by
        intro S x2 x3 x4 h
        unfold f_lies_99 at h
        refine x_iinc (j := 2) (v := 1) (lv2 := [(2, .int x2), (3, va_rf x3)]) C eX23_lies_99 rfl (by decide) (by decide) rfl (oky rfl (oky (cat_rf x3) ok0)) ?_
        refine x_goto (tgt := 10) C eX23_lies_102 (by decide) ?_
        refine x_sub [1, 2, 0] rfl ?_
        exact ih_10 S x2 x3 (x4 + 1) h
      have j_47 : ∀ (n_47 : Nat) (S : Sg) (x2 : Int32) (x3 : Option Nat) (x4 : Int32) (x5 : Int32), f_lies_47 K (f_lies_10 K n_10) n_47 S x2 x3 x4 x5 = some (Sf, rf) → WX p l e R s m args below meth c Q D A K m9 mr 6 S0 S 47 [(2, .int x2), (3, va_rf x3), (4, .int x4), (5, .int x5)] [] := by
        intro n_47
        induction n_47 with
        | zero => intro S x2 x3 x4 x5 h; unfold f_lies_47 at h; cases h
        | succ n_47 ih_47 =>
          intro S x2 x3 x4 x5 h
          unfold f_lies_47 at h
          refine x_aload_n C eX23_lies_47 rfl 1 rfl ?_
          refine x_gI (o9 := x3) (ci := 16) (k9 := 2) (Cn := RX16) (T := TX16) (N := 22) C rfl wt_X16 (by decide) ww_72 eX23_lies_48 h (fun v8 h => ?_)
          refine x_bipush (v := 11) C eX23_lies_51 (by decide) ?_
          refine x_ic_ne (tgt := 99) C eX23_lies_53 (by decide) h (fun h => ?_) (fun h => ?_)
          · refine x_sub [0, 1, 2] rfl ?_
            exact j_99 S x2 x3 x4 h
          · refine x_iload C eX23_lies_56 3 rfl ?_
            refine x_aload_n C eX23_lies_58 rfl 1 rfl ?_
            refine x_gR (o9 := x3) (ci := 16) (k9 := 11) (Cn := RX16) (T := TX16) (N := 22) C rfl wt_X16 (by decide) ww_65 eX23_lies_59 h (fun v9 h => ?_)
            refine x_iload C eX23_lies_62 2 rfl ?_
            refine x_aQ (t9 := 13) C rfl eX23_lies_64 h (fun v10 h => ?_)
            refine x_gI (o9 := v10) (ci := 17) (k9 := 0) (Cn := RX17) (T := TX17) (N := 3) C rfl wt_X17 (by decide) ww_69 eX23_lies_65 h (fun v11 h => ?_)
            refine x_ic_ge (tgt := 99) C eX23_lies_68 (by decide) h (fun h => ?_) (fun h => ?_)
            · refine x_sub [0, 1, 2] rfl ?_
              exact j_99 S x2 x3 x4 h
            · refine x_aload_n C eX23_lies_71 rfl 1 rfl ?_
              refine x_gR (o9 := x3) (ci := 16) (k9 := 11) (Cn := RX16) (T := TX16) (N := 22) C rfl wt_X16 (by decide) ww_65 eX23_lies_72 h (fun v12 h => ?_)
              refine x_iload C eX23_lies_75 2 rfl ?_
              refine x_aQ (t9 := 13) C rfl eX23_lies_77 h (fun v13 h => ?_)
              refine x_gR (o9 := v13) (ci := 17) (k9 := 2) (Cn := RX17) (T := TX17) (N := 3) C rfl wt_X17 (by decide) ww_68 eX23_lies_78 h (fun v14 h => ?_)
              refine x_iload C eX23_lies_81 3 rfl ?_
              refine x_aQ (t9 := 4) C rfl eX23_lies_83 h (fun v15 h => ?_)
              refine x_iload_n C eX23_lies_84 rfl 0 rfl ?_
              refine x_cSi (As := [va_rf v15, .int x2]) (st := []) (n := 2) (frc := 1) (loc := 20) C h (fun S9 r9 e9 => k_X23_isItem l D K m9 mr _ S9 v15 x2 r9 e9) ww_290 ww_288 ww_289 ww_16 (by decide +kernel) rfl ⟨by omega, by omega⟩ (Nat.le_of_ble_eq_true rfl) eX23_lies_85 (fun S16 v17 h => ?_)
              refine x_if_eq (tgt := 93) C eX23_lies_88 (by decide) h (fun h => ?_) (fun h => ?_)
              · refine x_iinc (j := 3) (v := 1) (lv2 := [(2, .int x2), (3, va_rf x3), (4, .int x4)]) C eX23_lies_93 rfl (by decide) (by decide) rfl (oky rfl (oky (cat_rf x3) (oky rfl ok0))) ?_
                refine x_goto (tgt := 47) C eX23_lies_96 (by decide) ?_
                refine x_sub [1, 2, 3, 0] rfl ?_
                exact ih_47 S16 x2 x3 x4 (x5 + 1) h
              · refine x_iconst (v := 1) C eX23_lies_91 (by decide) ?_
                exact x_zret C rfl rfl eX23_lies_92 h
      have j_44 : ∀ (S : Sg) (x2 : Int32) (x3 : Option Nat) (x4 : Int32), f_lies_44 K (f_lies_10 K n_10) S x2 x3 x4 = some (Sf, rf) → WX p l e R s m args below meth c Q D A K m9 mr 6 S0 S 44 [(2, .int x2), (3, va_rf x3), (4, .int x4)] [] := by
        intro S x2 x3 x4 h
        unfold f_lies_44 at h
        refine x_iconst (v := 0) C eX23_lies_44 (by decide) ?_
        refine x_istore (lv2 := [(2, .int x2), (3, va_rf x3), (4, .int x4)]) C eX23_lies_45 (by decide) rfl (oky rfl (oky (cat_rf x3) (oky rfl ok0))) ?_
        refine x_sub [1, 2, 3, 0] rfl ?_
        exact j_47 bigN S x2 x3 x4 0 h
      unfold f_lies_10 at h
      refine x_iload C eX23_lies_10 2 rfl ?_
      refine x_aload_n C eX23_lies_12 rfl 1 rfl ?_
      refine x_gI (o9 := x3) (ci := 16) (k9 := 3) (Cn := RX16) (T := TX16) (N := 22) C rfl wt_X16 (by decide) ww_51 eX23_lies_13 h (fun v2 h => ?_)
      refine x_ic_ge (tgt := 105) C eX23_lies_16 (by decide) h (fun h => ?_) (fun h => ?_)
      · refine x_iconst (v := 0) C eX23_lies_105 (by decide) ?_
        exact x_zret C rfl rfl eX23_lies_106 h
      · refine x_aload_n C eX23_lies_19 rfl 1 rfl ?_
        refine x_gI (o9 := x3) (ci := 16) (k9 := 2) (Cn := RX16) (T := TX16) (N := 22) C rfl wt_X16 (by decide) ww_72 eX23_lies_20 h (fun v3 h => ?_)
        refine x_bipush (v := 10) C eX23_lies_23 (by decide) ?_
        refine x_ic_ne (tgt := 44) C eX23_lies_25 (by decide) h (fun h => ?_) (fun h => ?_)
        · refine x_sub [0, 1, 2] rfl ?_
          exact j_44 S x2 x3 x4 h
        · refine x_aload_n C eX23_lies_28 rfl 1 rfl ?_
          refine x_gR (o9 := x3) (ci := 16) (k9 := 10) (Cn := RX16) (T := TX16) (N := 22) C rfl wt_X16 (by decide) ww_73 eX23_lies_29 h (fun v4 h => ?_)
          refine x_iload C eX23_lies_32 2 rfl ?_
          refine x_aQ (t9 := 4) C rfl eX23_lies_34 h (fun v5 h => ?_)
          refine x_iload_n C eX23_lies_35 rfl 0 rfl ?_
          refine x_cSi (As := [va_rf v5, .int x2]) (st := []) (n := 2) (frc := 1) (loc := 20) C h (fun S9 r9 e9 => k_X23_isItem l D K m9 mr _ S9 v5 x2 r9 e9) ww_290 ww_288 ww_289 ww_16 (by decide +kernel) rfl ⟨by omega, by omega⟩ (Nat.le_of_ble_eq_true rfl) eX23_lies_36 (fun S6 v7 h => ?_)
          refine x_if_eq (tgt := 44) C eX23_lies_39 (by decide) h (fun h => ?_) (fun h => ?_)
          · refine x_sub [0, 1, 2] rfl ?_
            exact j_44 S6 x2 x3 x4 h
          · refine x_iconst (v := 1) C eX23_lies_42 (by decide) ?_
            exact x_zret C rfl rfl eX23_lies_43 h
  unfold f_lies at h
  refine x_tload_n C eX23_lies_0 rfl 0 rfl ?_
  refine x_mV (k9 := 11) C (by decide) ww_114 eX23_lies_1 rfl ?_
  refine x_iload_n C eX23_lies_4 rfl 1 rfl ?_
  refine x_rQ (r := 11) (t9 := 3) C (by decide) rfl (by decide) rfl eX23_lies_5 h (fun v1 h => ?_)
  refine x_astore_n (lv2 := [(0, .ref m9), (1, .int x1), (2, .int x2)]) C eX23_lies_6 rfl (by decide) rfl (oky rfl (oky rfl (oky rfl ok0))) ?_
  refine x_iconst (v := 0) C eX23_lies_7 (by decide) ?_
  refine x_istore (lv2 := [(3, va_rf v1), (0, .ref m9), (1, .int x1), (2, .int x2)]) C eX23_lies_8 (by decide) rfl (oky (cat_rf v1) (oky rfl (oky rfl (oky rfl ok0)))) ?_
  refine x_sub [4, 1, 0] rfl ?_
  exact j_10 bigN S0 x2 v1 0 h
