set_option maxRecDepth 20000 in
set_option maxHeartbeats 4000000 in
theorem k_X23_wrong (l : Launch) (D : va_G) (K : Ky) (m9 : Nat) (mr : Nat → Nat) (S0 Sf : Sg) (x1 : Option Nat) (x2 : Int32) (x3 : Int32) (rf : Option Nat) (h : f_wrong K S0 x1 x2 x3 = some (Sf, rf)) : CT l D K m9 mr yX23_wrong (Cond.code yX23_wrong cX23_wrong 4 (some (.object "OwnedPlacesModel$Type"))) (4) (85) S0 Sf [.ref m9, va_rf x1, .int x2, .int x3] (some (va_rf rf)) := by
  refine x_start (cc := cX23_wrong) (lv := [(0, .ref m9), (1, va_rf x1), (2, .int x2), (3, .int x3)]) rfl rfl (by decide) (by simp [lv_args, cat_rf, cat_i, cat_l, cat_a]) (by simp [lg_sl, cat_rf, cat_i, cat_l, cat_a]) (fun p e R s m args below meth c Q A C => ?_)
  unfold f_wrong at h
  refine x_tload_n C eX23_wrong_0 rfl 0 rfl ?_
  refine x_iload_n C eX23_wrong_1 rfl 2 rfl ?_
  refine x_iload_n C eX23_wrong_2 rfl 3 rfl ?_
  refine x_cVv (As := [.int x2, .int x3]) (st := []) (n := 2) (frc := 1) (loc := 20) C h (fun S9 r9 e9 => k_X23_fail l D K m9 mr _ S9 x2 x3 r9 e9) ww_2 ww_20 ww_21 ww_22 ww_16 (by decide +kernel) rfl ⟨by omega, by omega⟩ (Nat.le_of_ble_eq_true rfl) eX23_wrong_3 (fun S1 v2 h => ?_)
  refine x_tload_n C eX23_wrong_6 rfl 0 rfl ?_
  refine x_aload_n C eX23_wrong_7 rfl 1 rfl ?_
  refine x_tload_n C eX23_wrong_8 rfl 0 rfl ?_
  refine x_iconst (v := 0) C eX23_wrong_9 (by decide) ?_
  refine x_cVr (As := [.int 0]) (st := [va_rf x1, .ref m9]) (n := 1) (frc := 3) (loc := 64) C h (fun S9 r9 e9 => k_X23_plainType l D K m9 mr _ S9 0 r9 e9) ww_254 ww_265 ww_266 ww_267 ww_16 (by decide +kernel) rfl ⟨by omega, by omega⟩ (Nat.le_of_ble_eq_true rfl) eX23_wrong_10 (fun S3 v4 h => ?_)
  refine x_cVr (As := [va_rf x1, va_rf v4]) (st := []) (n := 2) (frc := 1) (loc := 20) C h (fun S9 r9 e9 => k_X23_told l D K m9 mr _ S9 x1 v4 r9 e9) ww_337 ww_340 ww_341 ww_342 ww_16 (by decide +kernel) rfl ⟨by omega, by omega⟩ (Nat.le_of_ble_eq_true rfl) eX23_wrong_13 (fun S5 v6 h => ?_)
  exact x_aret C rfl (Or.inl ⟨_, rfl⟩) rfl eX23_wrong_16 h
set_option maxRecDepth 20000 in
set_option maxHeartbeats 4000000 in
theorem k_X23_member (l : Launch) (D : va_G) (K : Ky) (m9 : Nat) (mr : Nat → Nat) (S0 Sf : Sg) (x1 : Option Nat) (x2 : Option Nat) (rf : Option Nat) (h : f_member K S0 x1 x2 = some (Sf, rf)) : CT l D K m9 mr yX23_member (Cond.code yX23_member cX23_member 5 (some (.object "OwnedPlacesModel$Type"))) (5) (108) S0 Sf [.ref m9, va_rf x1, va_rf x2] (some (va_rf rf)) := by
  refine x_start (cc := cX23_member) (lv := [(0, .ref m9), (1, va_rf x1), (2, va_rf x2)]) rfl rfl (by decide) (by simp [lv_args, cat_rf, cat_i, cat_l, cat_a]) (by simp [lg_sl, cat_rf, cat_i, cat_l, cat_a]) (fun p e R s m args below meth c Q A C => ?_)
  have j_32 : ∀ (n_32 : Nat) (S : Sg) (x1 : Option Nat) (x3 : Option Nat) (x4 : Int32), f_member_32 K n_32 S x1 x3 x4 = some (Sf, rf) → WX p l e R s m args below meth c Q D A K m9 mr 5 S0 S 32 [(0, .ref m9), (1, va_rf x1), (3, va_rf x3), (4, .int x4)] [] := by
    intro n_32
    induction n_32 with
    | zero => intro S x1 x3 x4 h; unfold f_member_32 at h; cases h
    | succ n_32 ih_32 =>
      intro S x1 x3 x4 h
      unfold f_member_32 at h
      refine x_iload C eX23_member_32 3 rfl ?_
      refine x_aload_n C eX23_member_34 rfl 2 rfl ?_
      refine x_gI (o9 := x3) (ci := 16) (k9 := 3) (Cn := RX16) (T := TX16) (N := 22) C rfl wt_X16 (by decide) ww_51 eX23_member_35 h (fun v7 h => ?_)
      refine x_ic_ge (tgt := 84) C eX23_member_38 (by decide) h (fun h => ?_) (fun h => ?_)
      · refine x_tload_n C eX23_member_84 rfl 0 rfl ?_
        refine x_aload_n C eX23_member_85 rfl 1 rfl ?_
        refine x_iconst (v := 3) C eX23_member_86 (by decide) ?_
        refine x_aload_n C eX23_member_87 rfl 1 rfl ?_
        refine x_gI (o9 := x1) (ci := 15) (k9 := 3) (Cn := RX15) (T := TX15) (N := 14) C rfl wt_X15 (by decide) ww_223 eX23_member_88 h (fun v8 h => ?_)
        refine x_cVr (As := [va_rf x1, .int 3, .int v8]) (st := []) (n := 3) (frc := 4) (loc := 85) C h (fun S9 r9 e9 => k_X23_wrong l D K m9 mr _ S9 x1 3 v8 r9 e9) ww_339 ww_348 ww_349 ww_350 ww_16 (by decide +kernel) rfl ⟨by omega, by omega⟩ (Nat.le_of_ble_eq_true rfl) eX23_member_91 (fun S9 v10 h => ?_)
        exact x_aret C rfl (Or.inl ⟨_, rfl⟩) rfl eX23_member_94 h
      · refine x_tload_n C eX23_member_41 rfl 0 rfl ?_
        refine x_aload_n C eX23_member_42 rfl 2 rfl ?_
        refine x_gR (o9 := x3) (ci := 16) (k9 := 8) (Cn := RX16) (T := TX16) (N := 22) C rfl wt_X16 (by decide) ww_55 eX23_member_43 h (fun v11 h => ?_)
        refine x_iload C eX23_member_46 3 rfl ?_
        refine x_aI C eX23_member_48 h (fun v12 h => ?_)
        refine x_aload_n C eX23_member_49 rfl 1 rfl ?_
        refine x_gI (o9 := x1) (ci := 15) (k9 := 3) (Cn := RX15) (T := TX15) (N := 14) C rfl wt_X15 (by decide) ww_223 eX23_member_50 h (fun v13 h => ?_)
        refine x_cVi (As := [.int v12, .int v13]) (st := []) (n := 2) (frc := 1) (loc := 20) C h (fun S9 r9 e9 => k_X23_sameName l D K m9 mr _ S9 v12 v13 r9 e9) ww_5 ww_261 ww_262 ww_263 ww_16 (by decide +kernel) rfl ⟨by omega, by omega⟩ (Nat.le_of_ble_eq_true rfl) eX23_member_53 (fun S14 v15 h => ?_)
        refine x_if_eq (tgt := 78) C eX23_member_56 (by decide) h (fun h => ?_) (fun h => ?_)
        · refine x_iinc (j := 3) (v := 1) (lv2 := [(0, .ref m9), (1, va_rf x1), (3, va_rf x3)]) C eX23_member_78 rfl (by decide) (by decide) rfl (oky rfl (oky (cat_rf x1) (oky (cat_rf x3) ok0))) ?_
          refine x_goto (tgt := 32) C eX23_member_81 (by decide) ?_
          refine x_sub [1, 2, 3, 0] rfl ?_
          exact ih_32 S14 x1 x3 (x4 + 1) h
        · refine x_aload_n C eX23_member_59 rfl 1 rfl ?_
          refine x_iload C eX23_member_60 3 rfl ?_
          refine x_pI (o9 := x1) (ci := 15) (k9 := 4) (Cn := RX15) (T := TX15) (N := 14) C rfl wt_X15 tyX15_ok nmX15 (by decide) ww_359 rfl (by decide +kernel) eX23_member_62 h (fun S16 h => ?_)
          refine x_tload_n C eX23_member_65 rfl 0 rfl ?_
          refine x_aload_n C eX23_member_66 rfl 1 rfl ?_
          refine x_aload_n C eX23_member_67 rfl 2 rfl ?_
          refine x_gR (o9 := x3) (ci := 16) (k9 := 10) (Cn := RX16) (T := TX16) (N := 22) C rfl wt_X16 (by decide) ww_73 eX23_member_68 h (fun v17 h => ?_)
          refine x_iload C eX23_member_71 3 rfl ?_
          refine x_aQ (t9 := 4) C rfl eX23_member_73 h (fun v18 h => ?_)
          refine x_cVr (As := [va_rf x1, va_rf v18]) (st := []) (n := 2) (frc := 1) (loc := 20) C h (fun S9 r9 e9 => k_X23_told l D K m9 mr _ S9 x1 v18 r9 e9) ww_337 ww_340 ww_341 ww_342 ww_16 (by decide +kernel) rfl ⟨by omega, by omega⟩ (Nat.le_of_ble_eq_true rfl) eX23_member_74 (fun S19 v20 h => ?_)
          exact x_aret C rfl (Or.inl ⟨_, rfl⟩) rfl eX23_member_77 h
  unfold f_member at h
  refine x_aload_n C eX23_member_0 rfl 2 rfl ?_
  refine x_gI (o9 := x2) (ci := 20) (k9 := 0) (Cn := RX20) (T := TX20) (N := 4) C rfl wt_X20 (by decide) ww_247 eX23_member_1 h (fun v1 h => ?_)
  refine x_iconst (v := 3) C eX23_member_4 (by decide) ?_
  refine x_ic_eq (tgt := 19) C eX23_member_5 (by decide) h (fun h => ?_) (fun h => ?_)
  · refine x_tload_n C eX23_member_19 rfl 0 rfl ?_
    refine x_mV (k9 := 11) C (by decide) ww_114 eX23_member_20 rfl ?_
    refine x_aload_n C eX23_member_23 rfl 2 rfl ?_
    refine x_gI (o9 := x2) (ci := 20) (k9 := 1) (Cn := RX20) (T := TX20) (N := 4) C rfl wt_X20 (by decide) ww_248 eX23_member_24 h (fun v2 h => ?_)
    refine x_rQ (r := 11) (t9 := 3) C (by decide) rfl (by decide) rfl eX23_member_27 h (fun v3 h => ?_)
    refine x_astore_n (lv2 := [(0, .ref m9), (1, va_rf x1), (2, va_rf x2)]) C eX23_member_28 rfl (by decide) rfl (oky rfl (oky (cat_rf x1) (oky (cat_rf x2) ok0))) ?_
    refine x_iconst (v := 0) C eX23_member_29 (by decide) ?_
    refine x_istore (lv2 := [(3, va_rf v3), (0, .ref m9), (1, va_rf x1), (2, va_rf x2)]) C eX23_member_30 (by decide) rfl (oky (cat_rf v3) (oky rfl (oky (cat_rf x1) (oky (cat_rf x2) ok0)))) ?_
    refine x_sub [2, 3, 1, 0] rfl ?_
    exact j_32 bigN S0 x1 v3 0 h
  · refine x_tload_n C eX23_member_8 rfl 0 rfl ?_
    refine x_aload_n C eX23_member_9 rfl 1 rfl ?_
    refine x_iconst (v := 4) C eX23_member_10 (by decide) ?_
    refine x_aload_n C eX23_member_11 rfl 1 rfl ?_
    refine x_gI (o9 := x1) (ci := 15) (k9 := 3) (Cn := RX15) (T := TX15) (N := 14) C rfl wt_X15 (by decide) ww_223 eX23_member_12 h (fun v4 h => ?_)
    refine x_cVr (As := [va_rf x1, .int 4, .int v4]) (st := []) (n := 3) (frc := 4) (loc := 85) C h (fun S9 r9 e9 => k_X23_wrong l D K m9 mr _ S9 x1 4 v4 r9 e9) ww_339 ww_348 ww_349 ww_350 ww_16 (by decide +kernel) rfl ⟨by omega, by omega⟩ (Nat.le_of_ble_eq_true rfl) eX23_member_15 (fun S5 v6 h => ?_)
    exact x_aret C rfl (Or.inl ⟨_, rfl⟩) rfl eX23_member_18 h
set_option maxRecDepth 20000 in
set_option maxHeartbeats 4000000 in
theorem k_X23_place (l : Launch) (D : va_G) (K : Ky) (m9 : Nat) (mr : Nat → Nat) : ∀ (d : Nat) (S0 Sf : Sg) (x1 : Option Nat) (rf : Option Nat), f_place K d S0 x1 = some (Sf, rf) → CT l D K m9 mr yX23_place (Cond.code yX23_place cX23_place 5 (some (.object "OwnedPlacesModel$Type"))) (6 + 1 * d) (132 + 24 * d) S0 Sf [.ref m9, va_rf x1] (some (va_rf rf)) := by
  intro d
  induction d with
  | zero => intro S0 Sf x1 rf h; unfold f_place at h; cases h
  | succ d ih =>
    intro S0 Sf x1 rf h
    refine x_start (cc := cX23_place) (lv := [(0, .ref m9), (1, va_rf x1)]) rfl rfl (by decide) (by simp [lv_args, cat_rf, cat_i, cat_l, cat_a]) (by simp [lg_sl, cat_rf, cat_i, cat_l, cat_a]) (fun p e R s m args below meth c Q A C => ?_)
    have j_153 : ∀ (S : Sg) (y0 : Option Nat), f_place_153 K (f_place K d) S y0 = some (Sf, rf) → WX p l e R s m args below meth c Q D A K m9 mr 5 S0 S 153 [] [va_rf y0] := by
      intro S y0 h
      unfold f_place_153 at h
      exact x_aret C rfl (Or.inl ⟨_, rfl⟩) rfl eX23_place_153 h
    have j_56 : ∀ (n_56 : Nat) (S : Sg) (x1 : Option Nat) (x2 : Int32), f_place_56 K (f_place K d) n_56 S x1 x2 = some (Sf, rf) → WX p l e R s m args below meth c Q D A K m9 mr 5 S0 S 56 [(0, .ref m9), (1, va_rf x1), (2, .int x2)] [] := by
      intro n_56
      induction n_56 with
      | zero => intro S x1 x2 h; unfold f_place_56 at h; cases h
      | succ n_56 ih_56 =>
        intro S x1 x2 h
        have j_94 : ∀ (S : Sg) (x1 : Option Nat) (x2 : Int32), f_place_94 K (f_place K d) (f_place_56 K (f_place K d) n_56) S x1 x2 = some (Sf, rf) → WX p l e R s m args below meth c Q D A K m9 mr 5 S0 S 94 [(0, .ref m9), (1, va_rf x1), (2, .int x2)] [] := by
          intro S x1 x2 h
          unfold f_place_94 at h
          refine x_iinc (j := 2) (v := 1) (lv2 := [(0, .ref m9), (1, va_rf x1)]) C eX23_place_94 rfl (by decide) (by decide) rfl (oky rfl (oky (cat_rf x1) ok0)) ?_
          refine x_goto (tgt := 56) C eX23_place_97 (by decide) ?_
          refine x_sub [1, 2, 0] rfl ?_
          exact ih_56 S x1 (x2 + 1) h
        unfold f_place_56 at h
        refine x_iload_n C eX23_place_56 rfl 2 rfl ?_
        refine x_tload_n C eX23_place_57 rfl 0 rfl ?_
        refine x_mV (k9 := 23) C (by decide) ww_332 eX23_place_58 rfl ?_
        refine x_ic_ge (tgt := 100) C eX23_place_61 (by decide) h (fun h => ?_) (fun h => ?_)
        · refine x_aload_n C eX23_place_100 rfl 1 rfl ?_
          refine x_gR (o9 := x1) (ci := 15) (k9 := 13) (Cn := RX15) (T := TX15) (N := 14) C rfl wt_X15 (by decide) ww_347 eX23_place_101 h (fun v25 h => ?_)
          refine x_ifnonnull (tgt := 118) C eX23_place_104 (by decide) h (fun h => ?_) (fun h => ?_)
          · refine x_aload_n C eX23_place_118 rfl 1 rfl ?_
            refine x_gR (o9 := x1) (ci := 15) (k9 := 13) (Cn := RX15) (T := TX15) (N := 14) C rfl wt_X15 (by decide) ww_347 eX23_place_119 h (fun v26 h => ?_)
            refine x_gR (o9 := v26) (ci := 21) (k9 := 2) (Cn := RX21) (T := TX21) (N := 5) C rfl wt_X21 (by decide) ww_329 eX23_place_122 h (fun v27 h => ?_)
            refine x_ifnonnull (tgt := 141) C eX23_place_125 (by decide) h (fun h => ?_) (fun h => ?_)
            · refine x_tload_n C eX23_place_141 rfl 0 rfl ?_
              refine x_aload_n C eX23_place_142 rfl 1 rfl ?_
              refine x_aload_n C eX23_place_143 rfl 1 rfl ?_
              refine x_gR (o9 := x1) (ci := 15) (k9 := 13) (Cn := RX15) (T := TX15) (N := 14) C rfl wt_X15 (by decide) ww_347 eX23_place_144 h (fun v28 h => ?_)
              refine x_gR (o9 := v28) (ci := 21) (k9 := 2) (Cn := RX21) (T := TX21) (N := 5) C rfl wt_X21 (by decide) ww_329 eX23_place_147 h (fun v29 h => ?_)
              refine x_cVr (As := [va_rf x1, va_rf v29]) (st := []) (n := 2) (frc := 1) (loc := 20) C h (fun S9 r9 e9 => k_X23_told l D K m9 mr _ S9 x1 v29 r9 e9) ww_337 ww_340 ww_341 ww_342 ww_16 (by decide +kernel) rfl ⟨by omega, by omega⟩ (Nat.le_of_ble_eq_true rfl) eX23_place_150 (fun S30 v31 h => ?_)
              refine x_sub [] rfl ?_
              exact j_153 S30 v31 h
            · refine x_tload_n C eX23_place_128 rfl 0 rfl ?_
              refine x_aload_n C eX23_place_129 rfl 1 rfl ?_
              refine x_iconst (v := 4) C eX23_place_130 (by decide) ?_
              refine x_aload_n C eX23_place_131 rfl 1 rfl ?_
              refine x_gI (o9 := x1) (ci := 15) (k9 := 1) (Cn := RX15) (T := TX15) (N := 14) C rfl wt_X15 (by decide) ww_211 eX23_place_132 h (fun v32 h => ?_)
              refine x_cVr (As := [va_rf x1, .int 4, .int v32]) (st := []) (n := 3) (frc := 4) (loc := 85) C h (fun S9 r9 e9 => k_X23_wrong l D K m9 mr _ S9 x1 4 v32 r9 e9) ww_339 ww_348 ww_349 ww_350 ww_16 (by decide +kernel) rfl ⟨by omega, by omega⟩ (Nat.le_of_ble_eq_true rfl) eX23_place_135 (fun S33 v34 h => ?_)
              refine x_goto (tgt := 153) C eX23_place_138 (by decide) ?_
              refine x_sub [] rfl ?_
              exact j_153 S33 v34 h
          · refine x_tload_n C eX23_place_107 rfl 0 rfl ?_
            refine x_aload_n C eX23_place_108 rfl 1 rfl ?_
            refine x_iconst (v := 3) C eX23_place_109 (by decide) ?_
            refine x_aload_n C eX23_place_110 rfl 1 rfl ?_
            refine x_gI (o9 := x1) (ci := 15) (k9 := 1) (Cn := RX15) (T := TX15) (N := 14) C rfl wt_X15 (by decide) ww_211 eX23_place_111 h (fun v35 h => ?_)
            refine x_cVr (As := [va_rf x1, .int 3, .int v35]) (st := []) (n := 3) (frc := 4) (loc := 85) C h (fun S9 r9 e9 => k_X23_wrong l D K m9 mr _ S9 x1 3 v35 r9 e9) ww_339 ww_348 ww_349 ww_350 ww_16 (by decide +kernel) rfl ⟨by omega, by omega⟩ (Nat.le_of_ble_eq_true rfl) eX23_place_114 (fun S36 v37 h => ?_)
            exact x_aret C rfl (Or.inl ⟨_, rfl⟩) rfl eX23_place_117 h
        · refine x_tload_n C eX23_place_64 rfl 0 rfl ?_
          refine x_tload_n C eX23_place_65 rfl 0 rfl ?_
          refine x_mV (k9 := 22) C (by decide) ww_331 eX23_place_66 rfl ?_
          refine x_iload_n C eX23_place_69 rfl 2 rfl ?_
          refine x_rQ (r := 22) (t9 := 5) C (by decide) rfl (by decide) rfl eX23_place_70 h (fun v38 h => ?_)
          refine x_gI (o9 := v38) (ci := 21) (k9 := 1) (Cn := RX21) (T := TX21) (N := 5) C rfl wt_X21 (by decide) ww_328 eX23_place_71 h (fun v39 h => ?_)
          refine x_aload_n C eX23_place_74 rfl 1 rfl ?_
          refine x_gI (o9 := x1) (ci := 15) (k9 := 3) (Cn := RX15) (T := TX15) (N := 14) C rfl wt_X15 (by decide) ww_223 eX23_place_75 h (fun v40 h => ?_)
          refine x_cVi (As := [.int v39, .int v40]) (st := []) (n := 2) (frc := 1) (loc := 20) C h (fun S9 r9 e9 => k_X23_sameName l D K m9 mr _ S9 v39 v40 r9 e9) ww_5 ww_261 ww_262 ww_263 ww_16 (by decide +kernel) rfl ⟨by omega, by omega⟩ (Nat.le_of_ble_eq_true rfl) eX23_place_78 (fun S41 v42 h => ?_)
          refine x_if_eq (tgt := 94) C eX23_place_81 (by decide) h (fun h => ?_) (fun h => ?_)
          · refine x_sub [0, 1, 2] rfl ?_
            exact j_94 S41 x1 x2 h
          · refine x_aload_n C eX23_place_84 rfl 1 rfl ?_
            refine x_tload_n C eX23_place_85 rfl 0 rfl ?_
            refine x_mV (k9 := 22) C (by decide) ww_331 eX23_place_86 rfl ?_
            refine x_iload_n C eX23_place_89 rfl 2 rfl ?_
            refine x_rQ (r := 22) (t9 := 5) C (by decide) rfl (by decide) rfl eX23_place_90 h (fun v43 h => ?_)
            refine x_pR (o9 := x1) (Cv := "OwnedPlacesModel$Variable") (ci := 15) (k9 := 13) (Cn := RX15) (T := TX15) (N := 14) C rfl wt_X15 tyX15_ok nmX15 (by decide) ww_347 rfl (by decide +kernel) eX23_place_91 h (fun S44 h => ?_)
            refine x_sub [0, 1, 2] rfl ?_
            exact j_94 S44 x1 x2 h
    have j_279 : ∀ (S : Sg) (y0 : Option Nat), f_place_279 K (f_place K d) S y0 = some (Sf, rf) → WX p l e R s m args below meth c Q D A K m9 mr 5 S0 S 279 [] [va_rf y0] := by
      intro S y0 h
      unfold f_place_279 at h
      exact x_aret C rfl (Or.inl ⟨_, rfl⟩) rfl eX23_place_279 h
    have j_277 : ∀ (S : Sg) (x4 : Option Nat), f_place_277 K (f_place K d) S x4 = some (Sf, rf) → WX p l e R s m args below meth c Q D A K m9 mr 5 S0 S 277 [(4, va_rf x4)] [] := by
      intro S x4 h
      unfold f_place_277 at h
      refine x_aload C eX23_place_277 0 rfl ?_
      refine x_sub [] rfl ?_
      exact j_279 S x4 h
    have j_250 : ∀ (S : Sg) (x1 : Option Nat) (x3 : Int32) (y0 : Option Nat), f_place_250 K (f_place K d) S x1 x3 y0 = some (Sf, rf) → WX p l e R s m args below meth c Q D A K m9 mr 5 S0 S 250 [(0, .ref m9), (1, va_rf x1), (3, .int x3)] [va_rf y0] := by
      intro S x1 x3 y0 h
      unfold f_place_250 at h
      refine x_astore (lv2 := [(0, .ref m9), (1, va_rf x1), (3, .int x3)]) C eX23_place_250 (by decide) rfl (oky rfl (oky (cat_rf x1) (oky rfl ok0))) ?_
      refine x_tload_n C eX23_place_252 rfl 1 rfl ?_
      refine x_cVi (As := []) (st := []) (n := 0) (frc := 1) (loc := 20) C h (fun S9 r9 e9 => k_X23_ok l D K m9 mr _ S9 r9 e9) ww_0 ww_13 ww_14 ww_15 ww_16 (by decide +kernel) rfl ⟨by omega, by omega⟩ (Nat.le_of_ble_eq_true rfl) eX23_place_253 (fun S53 v54 h => ?_)
      refine x_if_eq (tgt := 277) C eX23_place_256 (by decide) h (fun h => ?_) (fun h => ?_)
      · refine x_sub [0] rfl ?_
        exact j_277 S53 y0 h
      · refine x_aload_n C eX23_place_259 rfl 2 rfl ?_
        refine x_cSi (As := [va_rf x1]) (st := []) (n := 1) (frc := 2) (loc := 41) C h (fun S9 r9 e9 => k_X23_depth l D K m9 mr _ S9 x1 r9 e9) ww_334 ww_356 ww_357 ww_16 (by decide +kernel) rfl ⟨by omega, by omega⟩ (Nat.le_of_ble_eq_true rfl) eX23_place_260 (fun S55 v56 h => ?_)
        refine x_iconst (v := 4) C eX23_place_263 (by decide) ?_
        refine x_ic_le (tgt := 277) C eX23_place_264 (by decide) h (fun h => ?_) (fun h => ?_)
        · refine x_sub [0] rfl ?_
          exact j_277 S55 y0 h
        · refine x_tload_n C eX23_place_267 rfl 1 rfl ?_
          refine x_aload_n C eX23_place_268 rfl 2 rfl ?_
          refine x_iconst (v := 4) C eX23_place_269 (by decide) ?_
          refine x_iload_n C eX23_place_270 rfl 3 rfl ?_
          refine x_cVr (As := [va_rf x1, .int 4, .int x3]) (st := []) (n := 3) (frc := 4) (loc := 85) C h (fun S9 r9 e9 => k_X23_wrong l D K m9 mr _ S9 x1 4 x3 r9 e9) ww_339 ww_348 ww_349 ww_350 ww_16 (by decide +kernel) rfl ⟨by omega, by omega⟩ (Nat.le_of_ble_eq_true rfl) eX23_place_271 (fun S57 v58 h => ?_)
          refine x_goto (tgt := 279) C eX23_place_274 (by decide) ?_
          refine x_sub [] rfl ?_
          exact j_279 S57 v58 h
    have j_231 : ∀ (S : Sg) (x1 : Option Nat) (x2 : Option Nat) (x3 : Int32), f_place_231 K (f_place K d) S x1 x2 x3 = some (Sf, rf) → WX p l e R s m args below meth c Q D A K m9 mr 5 S0 S 231 [(0, .ref m9), (1, va_rf x1), (2, va_rf x2), (3, .int x3)] [] := by
      intro S x1 x2 x3 h
      unfold f_place_231 at h
      refine x_tload_n C eX23_place_231 rfl 0 rfl ?_
      refine x_aload_n C eX23_place_232 rfl 1 rfl ?_
      refine x_aload_n C eX23_place_233 rfl 2 rfl ?_
      refine x_gR (o9 := x2) (ci := 20) (k9 := 3) (Cn := RX20) (T := TX20) (N := 4) C rfl wt_X20 (by decide) ww_249 eX23_place_234 h (fun v59 h => ?_)
      refine x_cVr (As := [va_rf x1, va_rf v59]) (st := []) (n := 2) (frc := 1) (loc := 20) C h (fun S9 r9 e9 => k_X23_told l D K m9 mr _ S9 x1 v59 r9 e9) ww_337 ww_340 ww_341 ww_342 ww_16 (by decide +kernel) rfl ⟨by omega, by omega⟩ (Nat.le_of_ble_eq_true rfl) eX23_place_237 (fun S60 v61 h => ?_)
      refine x_goto (tgt := 250) C eX23_place_240 (by decide) ?_
      refine x_sub [0, 1, 3] rfl ?_
      exact j_250 S60 x1 x3 v61 h
    have j_197 : ∀ (S : Sg) (x1 : Option Nat) (x2 : Option Nat) (y0 : Int32), f_place_197 K (f_place K d) S x1 x2 y0 = some (Sf, rf) → WX p l e R s m args below meth c Q D A K m9 mr 5 S0 S 197 [(0, .ref m9), (1, va_rf x1), (2, va_rf x2)] [.int y0] := by
      intro S x1 x2 y0 h
      unfold f_place_197 at h
      refine x_istore_n (lv2 := [(0, .ref m9), (1, va_rf x1), (2, va_rf x2)]) C eX23_place_197 rfl (by decide) rfl (oky rfl (oky (cat_rf x1) (oky (cat_rf x2) ok0))) ?_
      refine x_aload_n C eX23_place_198 rfl 2 rfl ?_
      refine x_gI (o9 := x1) (ci := 15) (k9 := 0) (Cn := RX15) (T := TX15) (N := 14) C rfl wt_X15 (by decide) ww_191 eX23_place_199 h (fun v45 h => ?_)
      refine x_bipush (v := 11) C eX23_place_202 (by decide) ?_
      refine x_ic_eq (tgt := 216) C eX23_place_204 (by decide) h (fun h => ?_) (fun h => ?_)
      · refine x_aload_n C eX23_place_216 rfl 3 rfl ?_
        refine x_gI (o9 := x2) (ci := 20) (k9 := 0) (Cn := RX20) (T := TX20) (N := 4) C rfl wt_X20 (by decide) ww_247 eX23_place_217 h (fun v46 h => ?_)
        refine x_iconst (v := 5) C eX23_place_220 (by decide) ?_
        refine x_ic_eq (tgt := 231) C eX23_place_221 (by decide) h (fun h => ?_) (fun h => ?_)
        · refine x_sub [1, 2, 3, 0] rfl ?_
          exact j_231 S x1 x2 y0 h
        · refine x_aload_n C eX23_place_224 rfl 3 rfl ?_
          refine x_cSi (As := [va_rf x2]) (st := []) (n := 1) (frc := 1) (loc := 20) C h (fun S9 r9 e9 => k_X23_refers l D K m9 mr _ S9 x2 r9 e9) ww_258 ww_354 ww_355 ww_16 (by decide +kernel) rfl ⟨by omega, by omega⟩ (Nat.le_of_ble_eq_true rfl) eX23_place_225 (fun S47 v48 h => ?_)
          refine x_if_eq (tgt := 243) C eX23_place_228 (by decide) h (fun h => ?_) (fun h => ?_)
          · refine x_tload_n C eX23_place_243 rfl 1 rfl ?_
            refine x_aload_n C eX23_place_244 rfl 2 rfl ?_
            refine x_iconst (v := 4) C eX23_place_245 (by decide) ?_
            refine x_iload_n C eX23_place_246 rfl 0 rfl ?_
            refine x_cVr (As := [va_rf x1, .int 4, .int y0]) (st := []) (n := 3) (frc := 4) (loc := 85) C h (fun S9 r9 e9 => k_X23_wrong l D K m9 mr _ S9 x1 4 y0 r9 e9) ww_339 ww_348 ww_349 ww_350 ww_16 (by decide +kernel) rfl ⟨by omega, by omega⟩ (Nat.le_of_ble_eq_true rfl) eX23_place_247 (fun S49 v50 h => ?_)
            refine x_sub [1, 2, 0] rfl ?_
            exact j_250 S49 x1 y0 v50 h
          · refine x_sub [1, 2, 3, 0] rfl ?_
            exact j_231 S47 x1 x2 y0 h
      · refine x_tload_n C eX23_place_207 rfl 1 rfl ?_
        refine x_aload_n C eX23_place_208 rfl 2 rfl ?_
        refine x_aload_n C eX23_place_209 rfl 3 rfl ?_
        refine x_cVr (As := [va_rf x1, va_rf x2]) (st := []) (n := 2) (frc := 5) (loc := 108) C h (fun S9 r9 e9 => k_X23_member l D K m9 mr _ S9 x1 x2 r9 e9) ww_358 ww_351 ww_352 ww_353 ww_16 (by decide +kernel) rfl ⟨by omega, by omega⟩ (Nat.le_of_ble_eq_true rfl) eX23_place_210 (fun S51 v52 h => ?_)
        refine x_goto (tgt := 250) C eX23_place_213 (by decide) ?_
        refine x_sub [1, 2, 0] rfl ?_
        exact j_250 S51 x1 y0 v52 h
    unfold f_place at h
    refine x_tload_n C eX23_place_0 rfl 0 rfl ?_
    refine x_cVi (As := []) (st := []) (n := 0) (frc := 1) (loc := 20) C h (fun S9 r9 e9 => k_X23_ok l D K m9 mr _ S9 r9 e9) ww_0 ww_13 ww_14 ww_15 ww_16 (by decide +kernel) rfl ⟨by omega, by omega⟩ (Nat.le_of_ble_eq_true rfl) eX23_place_1 (fun S1 v2 h => ?_)
    refine x_if_ne (tgt := 18) C eX23_place_4 (by decide) h (fun h => ?_) (fun h => ?_)
    · refine x_aload_n C eX23_place_18 rfl 1 rfl ?_
      refine x_gI (o9 := x1) (ci := 15) (k9 := 0) (Cn := RX15) (T := TX15) (N := 14) C rfl wt_X15 (by decide) ww_191 eX23_place_19 h (fun v3 h => ?_)
      refine x_bipush (v := 7) C eX23_place_22 (by decide) ?_
      refine x_ic_ne (tgt := 41) C eX23_place_24 (by decide) h (fun h => ?_) (fun h => ?_)
      · refine x_aload_n C eX23_place_41 rfl 1 rfl ?_
        refine x_gI (o9 := x1) (ci := 15) (k9 := 0) (Cn := RX15) (T := TX15) (N := 14) C rfl wt_X15 (by decide) ww_191 eX23_place_42 h (fun v4 h => ?_)
        refine x_iconst (v := 2) C eX23_place_45 (by decide) ?_
        refine x_ic_ne (tgt := 154) C eX23_place_46 (by decide) h (fun h => ?_) (fun h => ?_)
        · refine x_tload_n C eX23_place_154 rfl 0 rfl ?_
          refine x_aload_n C eX23_place_155 rfl 1 rfl ?_
          refine x_gR (o9 := x1) (ci := 15) (k9 := 8) (Cn := RX15) (T := TX15) (N := 14) C rfl wt_X15 (by decide) ww_192 eX23_place_156 h (fun v5 h => ?_)
          refine x_cVr (As := [va_rf v5]) (st := []) (n := 1) (frc := 6 + 1 * d) (loc := 132 + 24 * d) C h (fun S9 r9 e9 => ih _ S9 v5 r9 e9) ww_343 ww_344 ww_345 ww_346 ww_16 (by decide +kernel) rfl ⟨by omega, by omega⟩ (Nat.le_of_ble_eq_true rfl) eX23_place_159 (fun S6 v7 h => ?_)
          refine x_astore_n (lv2 := [(0, .ref m9), (1, va_rf x1)]) C eX23_place_162 rfl (by decide) rfl (oky rfl (oky (cat_rf x1) ok0)) ?_
          refine x_tload_n C eX23_place_163 rfl 1 rfl ?_
          refine x_cVi (As := []) (st := []) (n := 0) (frc := 1) (loc := 20) C h (fun S9 r9 e9 => k_X23_ok l D K m9 mr _ S9 r9 e9) ww_0 ww_13 ww_14 ww_15 ww_16 (by decide +kernel) rfl ⟨by omega, by omega⟩ (Nat.le_of_ble_eq_true rfl) eX23_place_164 (fun S8 v9 h => ?_)
          refine x_if_ne (tgt := 177) C eX23_place_167 (by decide) h (fun h => ?_) (fun h => ?_)
          · refine x_aload_n C eX23_place_177 rfl 2 rfl ?_
            refine x_gI (o9 := x1) (ci := 15) (k9 := 0) (Cn := RX15) (T := TX15) (N := 14) C rfl wt_X15 (by decide) ww_191 eX23_place_178 h (fun v10 h => ?_)
            refine x_bipush (v := 11) C eX23_place_181 (by decide) ?_
            refine x_ic_ne (tgt := 193) C eX23_place_183 (by decide) h (fun h => ?_) (fun h => ?_)
            · refine x_aload_n C eX23_place_193 rfl 2 rfl ?_
              refine x_gI (o9 := x1) (ci := 15) (k9 := 3) (Cn := RX15) (T := TX15) (N := 14) C rfl wt_X15 (by decide) ww_223 eX23_place_194 h (fun v11 h => ?_)
              refine x_sub [1, 2, 0] rfl ?_
              exact j_197 S8 x1 v7 v11 h
            · refine x_aload_n C eX23_place_186 rfl 2 rfl ?_
              refine x_gI (o9 := x1) (ci := 15) (k9 := 1) (Cn := RX15) (T := TX15) (N := 14) C rfl wt_X15 (by decide) ww_211 eX23_place_187 h (fun v12 h => ?_)
              refine x_goto (tgt := 197) C eX23_place_190 (by decide) ?_
              refine x_sub [1, 2, 0] rfl ?_
              exact j_197 S8 x1 v7 v12 h
          · refine x_tload_n C eX23_place_170 rfl 1 rfl ?_
            refine x_aload_n C eX23_place_171 rfl 2 rfl ?_
            refine x_aload_n C eX23_place_172 rfl 0 rfl ?_
            refine x_cVr (As := [va_rf x1, va_rf v7]) (st := []) (n := 2) (frc := 1) (loc := 20) C h (fun S9 r9 e9 => k_X23_told l D K m9 mr _ S9 x1 v7 r9 e9) ww_337 ww_340 ww_341 ww_342 ww_16 (by decide +kernel) rfl ⟨by omega, by omega⟩ (Nat.le_of_ble_eq_true rfl) eX23_place_173 (fun S13 v14 h => ?_)
            exact x_aret C rfl (Or.inl ⟨_, rfl⟩) rfl eX23_place_176 h
        · refine x_aload_n C eX23_place_49 rfl 1 rfl ?_
          refine x_null C eX23_place_50 ?_
          refine x_pR (o9 := x1) (Cv := "OwnedPlacesModel$Variable") (ci := 15) (k9 := 13) (Cn := RX15) (T := TX15) (N := 14) C rfl wt_X15 tyX15_ok nmX15 (by decide) ww_347 rfl (by decide +kernel) eX23_place_51 h (fun S15 h => ?_)
          refine x_iconst (v := 0) C eX23_place_54 (by decide) ?_
          refine x_istore_n (lv2 := [(0, .ref m9), (1, va_rf x1)]) C eX23_place_55 rfl (by decide) rfl (oky rfl (oky (cat_rf x1) ok0)) ?_
          refine x_sub [1, 2, 0] rfl ?_
          exact j_56 bigN S15 x1 0 h
      · refine x_tload_n C eX23_place_27 rfl 0 rfl ?_
        refine x_aload_n C eX23_place_28 rfl 1 rfl ?_
        refine x_tload_n C eX23_place_29 rfl 0 rfl ?_
        refine x_aload_n C eX23_place_30 rfl 1 rfl ?_
        refine x_gR (o9 := x1) (ci := 15) (k9 := 8) (Cn := RX15) (T := TX15) (N := 14) C rfl wt_X15 (by decide) ww_192 eX23_place_31 h (fun v16 h => ?_)
        refine x_cVr (As := [va_rf v16]) (st := [va_rf x1, .ref m9]) (n := 1) (frc := 6 + 1 * d) (loc := 132 + 24 * d) C h (fun S9 r9 e9 => ih _ S9 v16 r9 e9) ww_343 ww_344 ww_345 ww_346 ww_16 (by decide +kernel) rfl ⟨by omega, by omega⟩ (Nat.le_of_ble_eq_true rfl) eX23_place_34 (fun S17 v18 h => ?_)
        refine x_cVr (As := [va_rf x1, va_rf v18]) (st := []) (n := 2) (frc := 1) (loc := 20) C h (fun S9 r9 e9 => k_X23_told l D K m9 mr _ S9 x1 v18 r9 e9) ww_337 ww_340 ww_341 ww_342 ww_16 (by decide +kernel) rfl ⟨by omega, by omega⟩ (Nat.le_of_ble_eq_true rfl) eX23_place_37 (fun S19 v20 h => ?_)
        exact x_aret C rfl (Or.inl ⟨_, rfl⟩) rfl eX23_place_40 h
    · refine x_tload_n C eX23_place_7 rfl 0 rfl ?_
      refine x_aload_n C eX23_place_8 rfl 1 rfl ?_
      refine x_tload_n C eX23_place_9 rfl 0 rfl ?_
      refine x_iconst (v := 0) C eX23_place_10 (by decide) ?_
      refine x_cVr (As := [.int 0]) (st := [va_rf x1, .ref m9]) (n := 1) (frc := 3) (loc := 64) C h (fun S9 r9 e9 => k_X23_plainType l D K m9 mr _ S9 0 r9 e9) ww_254 ww_265 ww_266 ww_267 ww_16 (by decide +kernel) rfl ⟨by omega, by omega⟩ (Nat.le_of_ble_eq_true rfl) eX23_place_11 (fun S21 v22 h => ?_)
      refine x_cVr (As := [va_rf x1, va_rf v22]) (st := []) (n := 2) (frc := 1) (loc := 20) C h (fun S9 r9 e9 => k_X23_told l D K m9 mr _ S9 x1 v22 r9 e9) ww_337 ww_340 ww_341 ww_342 ww_16 (by decide +kernel) rfl ⟨by omega, by omega⟩ (Nat.le_of_ble_eq_true rfl) eX23_place_14 (fun S23 v24 h => ?_)
      exact x_aret C rfl (Or.inl ⟨_, rfl⟩) rfl eX23_place_17 h
set_option maxRecDepth 20000 in
set_option maxHeartbeats 4000000 in
theorem k_X23_isPart (l : Launch) (D : va_G) (K : Ky) (m9 : Nat) (mr : Nat → Nat) (S0 Sf : Sg) (x0 : Option Nat) (rf : Int32) (h : f_isPart K S0 x0 = some (Sf, rf)) : CT l D K m9 mr yX23_isPart (Cond.code yX23_isPart cX23_isPart 2 (some .boolean)) (2) (41) S0 Sf [va_rf x0] (some (.int rf)) := by
  refine x_start (cc := cX23_isPart) (lv := [(0, va_rf x0)]) rfl rfl (by decide) (by simp [lv_args, cat_rf, cat_i, cat_l, cat_a]) (by simp [lg_sl, cat_rf, cat_i, cat_l, cat_a]) (fun p e R s m args below meth c Q A C => ?_)
  have j_38 : ∀ (S : Sg) (y0 : Int32), f_isPart_38 K S y0 = some (Sf, rf) → WX p l e R s m args below meth c Q D A K m9 mr 2 S0 S 38 [] [.int y0] := by
    intro S y0 h
    unfold f_isPart_38 at h
    exact x_zret C rfl rfl eX23_isPart_38 h
  have j_5 : ∀ (n_5 : Nat) (S : Sg) (x1 : Option Nat), f_isPart_5 K n_5 S x1 = some (Sf, rf) → WX p l e R s m args below meth c Q D A K m9 mr 2 S0 S 5 [(1, va_rf x1)] [] := by
    intro n_5
    induction n_5 with
    | zero => intro S x1 h; unfold f_isPart_5 at h; cases h
    | succ n_5 ih_5 =>
      intro S x1 h
      unfold f_isPart_5 at h
      refine x_aload_n C eX23_isPart_5 rfl 0 rfl ?_
      refine x_gI (o9 := x1) (ci := 15) (k9 := 0) (Cn := RX15) (T := TX15) (N := 14) C rfl wt_X15 (by decide) ww_191 eX23_isPart_6 h (fun v3 h => ?_)
      refine x_bipush (v := 14) C eX23_isPart_9 (by decide) ?_
      refine x_ic_ne (tgt := 25) C eX23_isPart_11 (by decide) h (fun h => ?_) (fun h => ?_)
      · refine x_aload_n C eX23_isPart_25 rfl 0 rfl ?_
        refine x_gI (o9 := x1) (ci := 15) (k9 := 0) (Cn := RX15) (T := TX15) (N := 14) C rfl wt_X15 (by decide) ww_191 eX23_isPart_26 h (fun v4 h => ?_)
        refine x_iconst (v := 2) C eX23_isPart_29 (by decide) ?_
        refine x_ic_ne (tgt := 37) C eX23_isPart_30 (by decide) h (fun h => ?_) (fun h => ?_)
        · refine x_iconst (v := 0) C eX23_isPart_37 (by decide) ?_
          refine x_sub [] rfl ?_
          exact j_38 S 0 h
        · refine x_iconst (v := 1) C eX23_isPart_33 (by decide) ?_
          refine x_goto (tgt := 38) C eX23_isPart_34 (by decide) ?_
          refine x_sub [] rfl ?_
          exact j_38 S 1 h
      · refine x_aload_n C eX23_isPart_14 rfl 0 rfl ?_
        refine x_gR (o9 := x1) (ci := 15) (k9 := 8) (Cn := RX15) (T := TX15) (N := 14) C rfl wt_X15 (by decide) ww_192 eX23_isPart_15 h (fun v5 h => ?_)
        refine x_cSr (As := [va_rf v5]) (st := []) (n := 1) (frc := 1) (loc := 20) C h (fun S9 r9 e9 => k_X23_bare l D K m9 mr _ S9 v5 r9 e9) ww_333 ww_335 ww_336 ww_16 (by decide +kernel) rfl ⟨by omega, by omega⟩ (Nat.le_of_ble_eq_true rfl) eX23_isPart_18 (fun S6 v7 h => ?_)
        refine x_astore_n (lv2 := []) C eX23_isPart_21 rfl (by decide) rfl ok0 ?_
        refine x_goto (tgt := 5) C eX23_isPart_22 (by decide) ?_
        refine x_sub [0] rfl ?_
        exact ih_5 S6 v7 h
  unfold f_isPart at h
  refine x_aload_n C eX23_isPart_0 rfl 0 rfl ?_
  refine x_cSr (As := [va_rf x0]) (st := []) (n := 1) (frc := 1) (loc := 20) C h (fun S9 r9 e9 => k_X23_bare l D K m9 mr _ S9 x0 r9 e9) ww_333 ww_335 ww_336 ww_16 (by decide +kernel) rfl ⟨by omega, by omega⟩ (Nat.le_of_ble_eq_true rfl) eX23_isPart_1 (fun S1 v2 h => ?_)
  refine x_astore_n (lv2 := [(0, va_rf x0)]) C eX23_isPart_4 rfl (by decide) rfl (oky (cat_rf x0) ok0) ?_
  refine x_sub [0] rfl ?_
  exact j_5 bigN S1 v2 h
set_option maxRecDepth 20000 in
set_option maxHeartbeats 4000000 in
theorem k_X23_movable (l : Launch) (D : va_G) (K : Ky) (m9 : Nat) (mr : Nat → Nat) (S0 Sf : Sg) (x0 : Option Nat) (rf : Int32) (h : f_movable K S0 x0 = some (Sf, rf)) : CT l D K m9 mr yX23_movable (Cond.code yX23_movable cX23_movable 2 (some .boolean)) (3) (62) S0 Sf [va_rf x0] (some (.int rf)) := by
  refine x_start (cc := cX23_movable) (lv := [(0, va_rf x0)]) rfl rfl (by decide) (by simp [lv_args, cat_rf, cat_i, cat_l, cat_a]) (by simp [lg_sl, cat_rf, cat_i, cat_l, cat_a]) (fun p e R s m args below meth c Q A C => ?_)
  have j_50 : ∀ (S : Sg) (y0 : Int32), f_movable_50 K S y0 = some (Sf, rf) → WX p l e R s m args below meth c Q D A K m9 mr 2 S0 S 50 [] [.int y0] := by
    intro S y0 h
    unfold f_movable_50 at h
    exact x_zret C rfl rfl eX23_movable_50 h
  have j_45 : ∀ (S : Sg), f_movable_45 K S = some (Sf, rf) → WX p l e R s m args below meth c Q D A K m9 mr 2 S0 S 45 [] [] := by
    intro S h
    unfold f_movable_45 at h
    refine x_iconst (v := 1) C eX23_movable_45 (by decide) ?_
    refine x_goto (tgt := 50) C eX23_movable_46 (by decide) ?_
    refine x_sub [] rfl ?_
    exact j_50 S 1 h
  have j_49 : ∀ (S : Sg), f_movable_49 K S = some (Sf, rf) → WX p l e R s m args below meth c Q D A K m9 mr 2 S0 S 49 [] [] := by
    intro S h
    unfold f_movable_49 at h
    refine x_iconst (v := 0) C eX23_movable_49 (by decide) ?_
    refine x_sub [] rfl ?_
    exact j_50 S 0 h
  unfold f_movable at h
  refine x_aload_n C eX23_movable_0 rfl 0 rfl ?_
  refine x_cSr (As := [va_rf x0]) (st := []) (n := 1) (frc := 1) (loc := 20) C h (fun S9 r9 e9 => k_X23_bare l D K m9 mr _ S9 x0 r9 e9) ww_333 ww_335 ww_336 ww_16 (by decide +kernel) rfl ⟨by omega, by omega⟩ (Nat.le_of_ble_eq_true rfl) eX23_movable_1 (fun S1 v2 h => ?_)
  refine x_astore_n (lv2 := [(0, va_rf x0)]) C eX23_movable_4 rfl (by decide) rfl (oky (cat_rf x0) ok0) ?_
  refine x_aload_n C eX23_movable_5 rfl 0 rfl ?_
  refine x_cSi (As := [va_rf v2]) (st := []) (n := 1) (frc := 2) (loc := 41) C h (fun S9 r9 e9 => k_X23_isPart l D K m9 mr _ S9 v2 r9 e9) ww_360 ww_362 ww_363 ww_16 (by decide +kernel) rfl ⟨by omega, by omega⟩ (Nat.le_of_ble_eq_true rfl) eX23_movable_6 (fun S3 v4 h => ?_)
  refine x_if_ne (tgt := 45) C eX23_movable_9 (by decide) h (fun h => ?_) (fun h => ?_)
  · refine x_sub [] rfl ?_
    exact j_45 S3 h
  · refine x_aload_n C eX23_movable_12 rfl 0 rfl ?_
    refine x_gI (o9 := v2) (ci := 15) (k9 := 0) (Cn := RX15) (T := TX15) (N := 14) C rfl wt_X15 (by decide) ww_191 eX23_movable_13 h (fun v5 h => ?_)
    refine x_bipush (v := 11) C eX23_movable_16 (by decide) ?_
    refine x_ic_ne (tgt := 49) C eX23_movable_18 (by decide) h (fun h => ?_) (fun h => ?_)
    · refine x_sub [] rfl ?_
      exact j_49 S3 h
    · refine x_aload_n C eX23_movable_21 rfl 0 rfl ?_
      refine x_gR (o9 := v2) (ci := 15) (k9 := 8) (Cn := RX15) (T := TX15) (N := 14) C rfl wt_X15 (by decide) ww_192 eX23_movable_22 h (fun v6 h => ?_)
      refine x_gR (o9 := v6) (ci := 15) (k9 := 12) (Cn := RX15) (T := TX15) (N := 14) C rfl wt_X15 (by decide) ww_338 eX23_movable_25 h (fun v7 h => ?_)
      refine x_gI (o9 := v7) (ci := 20) (k9 := 0) (Cn := RX20) (T := TX20) (N := 4) C rfl wt_X20 (by decide) ww_247 eX23_movable_28 h (fun v8 h => ?_)
      refine x_iconst (v := 5) C eX23_movable_31 (by decide) ?_
      refine x_ic_ne (tgt := 49) C eX23_movable_32 (by decide) h (fun h => ?_) (fun h => ?_)
      · refine x_sub [] rfl ?_
        exact j_49 S3 h
      · refine x_aload_n C eX23_movable_35 rfl 0 rfl ?_
        refine x_gR (o9 := v2) (ci := 15) (k9 := 8) (Cn := RX15) (T := TX15) (N := 14) C rfl wt_X15 (by decide) ww_192 eX23_movable_36 h (fun v9 h => ?_)
        refine x_cSi (As := [va_rf v9]) (st := []) (n := 1) (frc := 2) (loc := 41) C h (fun S9 r9 e9 => k_X23_isPart l D K m9 mr _ S9 v9 r9 e9) ww_360 ww_362 ww_363 ww_16 (by decide +kernel) rfl ⟨by omega, by omega⟩ (Nat.le_of_ble_eq_true rfl) eX23_movable_39 (fun S10 v11 h => ?_)
        refine x_if_eq (tgt := 49) C eX23_movable_42 (by decide) h (fun h => ?_) (fun h => ?_)
        · refine x_sub [] rfl ?_
          exact j_49 S10 h
        · refine x_sub [] rfl ?_
          exact j_45 S10 h
set_option maxRecDepth 20000 in
set_option maxHeartbeats 4000000 in
theorem k_X23_mutable (l : Launch) (D : va_G) (K : Ky) (m9 : Nat) (mr : Nat → Nat) : ∀ (d : Nat) (S0 Sf : Sg) (x1 : Option Nat) (rf : Int32), f_mutable K d S0 x1 = some (Sf, rf) → CT l D K m9 mr yX23_mutable (Cond.code yX23_mutable cX23_mutable 4 (some .boolean)) (2 + 1 * d) (41 + 23 * d) S0 Sf [.ref m9, va_rf x1] (some (.int rf)) := by
  intro d
  induction d with
  | zero => intro S0 Sf x1 rf h; unfold f_mutable at h; cases h
  | succ d ih =>
    intro S0 Sf x1 rf h
    refine x_start (cc := cX23_mutable) (lv := [(0, .ref m9), (1, va_rf x1)]) rfl rfl (by decide) (by simp [lv_args, cat_rf, cat_i, cat_l, cat_a]) (by simp [lg_sl, cat_rf, cat_i, cat_l, cat_a]) (fun p e R s m args below meth c Q A C => ?_)
    have j_77 : ∀ (S : Sg) (y0 : Int32), f_mutable_77 K (f_mutable K d) S y0 = some (Sf, rf) → WX p l e R s m args below meth c Q D A K m9 mr 4 S0 S 77 [] [.int y0] := by
      intro S y0 h
      unfold f_mutable_77 at h
      exact x_zret C rfl rfl eX23_mutable_77 h
    have j_72 : ∀ (S : Sg), f_mutable_72 K (f_mutable K d) S = some (Sf, rf) → WX p l e R s m args below meth c Q D A K m9 mr 4 S0 S 72 [] [] := by
      intro S h
      unfold f_mutable_72 at h
      refine x_iconst (v := 1) C eX23_mutable_72 (by decide) ?_
      refine x_goto (tgt := 77) C eX23_mutable_73 (by decide) ?_
      refine x_sub [] rfl ?_
      exact j_77 S 1 h
    have j_76 : ∀ (S : Sg), f_mutable_76 K (f_mutable K d) S = some (Sf, rf) → WX p l e R s m args below meth c Q D A K m9 mr 4 S0 S 76 [] [] := by
      intro S h
      unfold f_mutable_76 at h
      refine x_iconst (v := 0) C eX23_mutable_76 (by decide) ?_
      refine x_sub [] rfl ?_
      exact j_77 S 0 h
    unfold f_mutable at h
    refine x_aload_n C eX23_mutable_0 rfl 1 rfl ?_
    refine x_cSr (As := [va_rf x1]) (st := []) (n := 1) (frc := 1) (loc := 20) C h (fun S9 r9 e9 => k_X23_bare l D K m9 mr _ S9 x1 r9 e9) ww_333 ww_335 ww_336 ww_16 (by decide +kernel) rfl ⟨by omega, by omega⟩ (Nat.le_of_ble_eq_true rfl) eX23_mutable_1 (fun S1 v2 h => ?_)
    refine x_astore_n (lv2 := [(0, .ref m9), (1, va_rf x1)]) C eX23_mutable_4 rfl (by decide) rfl (oky rfl (oky (cat_rf x1) ok0)) ?_
    refine x_aload_n C eX23_mutable_5 rfl 0 rfl ?_
    refine x_gI (o9 := v2) (ci := 15) (k9 := 0) (Cn := RX15) (T := TX15) (N := 14) C rfl wt_X15 (by decide) ww_191 eX23_mutable_6 h (fun v3 h => ?_)
    refine x_iconst (v := 2) C eX23_mutable_9 (by decide) ?_
    refine x_ic_ne (tgt := 21) C eX23_mutable_10 (by decide) h (fun h => ?_) (fun h => ?_)
    · refine x_aload_n C eX23_mutable_21 rfl 0 rfl ?_
      refine x_gI (o9 := v2) (ci := 15) (k9 := 0) (Cn := RX15) (T := TX15) (N := 14) C rfl wt_X15 (by decide) ww_191 eX23_mutable_22 h (fun v4 h => ?_)
      refine x_bipush (v := 14) C eX23_mutable_25 (by decide) ?_
      refine x_ic_ne (tgt := 39) C eX23_mutable_27 (by decide) h (fun h => ?_) (fun h => ?_)
      · refine x_aload_n C eX23_mutable_39 rfl 0 rfl ?_
        refine x_gR (o9 := v2) (ci := 15) (k9 := 8) (Cn := RX15) (T := TX15) (N := 14) C rfl wt_X15 (by decide) ww_192 eX23_mutable_40 h (fun v5 h => ?_)
        refine x_gR (o9 := v5) (ci := 15) (k9 := 12) (Cn := RX15) (T := TX15) (N := 14) C rfl wt_X15 (by decide) ww_338 eX23_mutable_43 h (fun v6 h => ?_)
        refine x_gI (o9 := v6) (ci := 20) (k9 := 0) (Cn := RX20) (T := TX20) (N := 4) C rfl wt_X20 (by decide) ww_247 eX23_mutable_46 h (fun v7 h => ?_)
        refine x_istore_n (lv2 := [(2, va_rf v2), (0, .ref m9), (1, va_rf x1)]) C eX23_mutable_49 rfl (by decide) rfl (oky (cat_rf v2) (oky rfl (oky (cat_rf x1) ok0))) ?_
        refine x_iload_n C eX23_mutable_50 rfl 0 rfl ?_
        refine x_bipush (v := 7) C eX23_mutable_51 (by decide) ?_
        refine x_ic_eq (tgt := 72) C eX23_mutable_53 (by decide) h (fun h => ?_) (fun h => ?_)
        · refine x_sub [] rfl ?_
          exact j_72 S1 h
        · refine x_iload_n C eX23_mutable_56 rfl 0 rfl ?_
          refine x_iconst (v := 5) C eX23_mutable_57 (by decide) ?_
          refine x_ic_ne (tgt := 76) C eX23_mutable_58 (by decide) h (fun h => ?_) (fun h => ?_)
          · refine x_sub [] rfl ?_
            exact j_76 S1 h
          · refine x_tload_n C eX23_mutable_61 rfl 2 rfl ?_
            refine x_aload_n C eX23_mutable_62 rfl 1 rfl ?_
            refine x_gR (o9 := v2) (ci := 15) (k9 := 8) (Cn := RX15) (T := TX15) (N := 14) C rfl wt_X15 (by decide) ww_192 eX23_mutable_63 h (fun v8 h => ?_)
            refine x_cVi (As := [va_rf v8]) (st := []) (n := 1) (frc := 2 + 1 * d) (loc := 41 + 23 * d) C h (fun S9 r9 e9 => ih _ S9 v8 r9 e9) ww_364 ww_365 ww_366 ww_367 ww_16 (by decide +kernel) rfl ⟨by omega, by omega⟩ (Nat.le_of_ble_eq_true rfl) eX23_mutable_66 (fun S9 v10 h => ?_)
            refine x_if_eq (tgt := 76) C eX23_mutable_69 (by decide) h (fun h => ?_) (fun h => ?_)
            · refine x_sub [] rfl ?_
              exact j_76 S9 h
            · refine x_sub [] rfl ?_
              exact j_72 S9 h
      · refine x_tload_n C eX23_mutable_30 rfl 1 rfl ?_
        refine x_aload_n C eX23_mutable_31 rfl 0 rfl ?_
        refine x_gR (o9 := v2) (ci := 15) (k9 := 8) (Cn := RX15) (T := TX15) (N := 14) C rfl wt_X15 (by decide) ww_192 eX23_mutable_32 h (fun v11 h => ?_)
        refine x_cVi (As := [va_rf v11]) (st := []) (n := 1) (frc := 2 + 1 * d) (loc := 41 + 23 * d) C h (fun S9 r9 e9 => ih _ S9 v11 r9 e9) ww_364 ww_365 ww_366 ww_367 ww_16 (by decide +kernel) rfl ⟨by omega, by omega⟩ (Nat.le_of_ble_eq_true rfl) eX23_mutable_35 (fun S12 v13 h => ?_)
        exact x_zret C rfl rfl eX23_mutable_38 h
    · refine x_aload_n C eX23_mutable_13 rfl 0 rfl ?_
      refine x_gR (o9 := v2) (ci := 15) (k9 := 13) (Cn := RX15) (T := TX15) (N := 14) C rfl wt_X15 (by decide) ww_347 eX23_mutable_14 h (fun v14 h => ?_)
      refine x_gI (o9 := v14) (ci := 21) (k9 := 3) (Cn := RX21) (T := TX21) (N := 5) C rfl wt_X21 (by decide) ww_330 eX23_mutable_17 h (fun v15 h => ?_)
      exact x_zret C rfl rfl eX23_mutable_20 h
set_option maxRecDepth 20000 in
set_option maxHeartbeats 4000000 in
theorem k_X23_fieldOf (l : Launch) (D : va_G) (K : Ky) (m9 : Nat) (mr : Nat → Nat) (S0 Sf : Sg) (x1 : Option Nat) (x2 : Int32) (rf : Int32) (h : f_fieldOf K S0 x1 x2 = some (Sf, rf)) : CT l D K m9 mr yX23_fieldOf (Cond.code yX23_fieldOf cX23_fieldOf 4 (some .int)) (2) (44) S0 Sf [.ref m9, va_rf x1, .int x2] (some (.int rf)) := by
  refine x_start (cc := cX23_fieldOf) (lv := [(0, .ref m9), (1, va_rf x1), (2, .int x2)]) rfl rfl (by decide) (by simp [lv_args, cat_rf, cat_i, cat_l, cat_a]) (by simp [lg_sl, cat_rf, cat_i, cat_l, cat_a]) (fun p e R s m args below meth c Q A C => ?_)
  have j_2 : ∀ (n_2 : Nat) (S : Sg) (x1 : Option Nat) (x2 : Int32) (x3 : Int32), f_fieldOf_2 K n_2 S x1 x2 x3 = some (Sf, rf) → WX p l e R s m args below meth c Q D A K m9 mr 4 S0 S 2 [(0, .ref m9), (1, va_rf x1), (2, .int x2), (3, .int x3)] [] := by
    intro n_2
    induction n_2 with
    | zero => intro S x1 x2 x3 h; unfold f_fieldOf_2 at h; cases h
    | succ n_2 ih_2 =>
      intro S x1 x2 x3 h
      unfold f_fieldOf_2 at h
      refine x_iload_n C eX23_fieldOf_2 rfl 3 rfl ?_
      refine x_aload_n C eX23_fieldOf_3 rfl 1 rfl ?_
      refine x_gI (o9 := x1) (ci := 16) (k9 := 3) (Cn := RX16) (T := TX16) (N := 22) C rfl wt_X16 (by decide) ww_51 eX23_fieldOf_4 h (fun v1 h => ?_)
      refine x_ic_ge (tgt := 32) C eX23_fieldOf_7 (by decide) h (fun h => ?_) (fun h => ?_)
      · refine x_iconst (v := (-1)) C eX23_fieldOf_32 (by decide) ?_
        exact x_iret C rfl rfl eX23_fieldOf_33 h
      · refine x_tload_n C eX23_fieldOf_10 rfl 0 rfl ?_
        refine x_aload_n C eX23_fieldOf_11 rfl 1 rfl ?_
        refine x_gR (o9 := x1) (ci := 16) (k9 := 8) (Cn := RX16) (T := TX16) (N := 22) C rfl wt_X16 (by decide) ww_55 eX23_fieldOf_12 h (fun v2 h => ?_)
        refine x_iload_n C eX23_fieldOf_15 rfl 3 rfl ?_
        refine x_aI C eX23_fieldOf_16 h (fun v3 h => ?_)
        refine x_iload_n C eX23_fieldOf_17 rfl 2 rfl ?_
        refine x_cVi (As := [.int v3, .int x2]) (st := []) (n := 2) (frc := 1) (loc := 20) C h (fun S9 r9 e9 => k_X23_sameName l D K m9 mr _ S9 v3 x2 r9 e9) ww_5 ww_261 ww_262 ww_263 ww_16 (by decide +kernel) rfl ⟨by omega, by omega⟩ (Nat.le_of_ble_eq_true rfl) eX23_fieldOf_18 (fun S4 v5 h => ?_)
        refine x_if_eq (tgt := 26) C eX23_fieldOf_21 (by decide) h (fun h => ?_) (fun h => ?_)
        · refine x_iinc (j := 3) (v := 1) (lv2 := [(0, .ref m9), (1, va_rf x1), (2, .int x2)]) C eX23_fieldOf_26 rfl (by decide) (by decide) rfl (oky rfl (oky (cat_rf x1) (oky rfl ok0))) ?_
          refine x_goto (tgt := 2) C eX23_fieldOf_29 (by decide) ?_
          refine x_sub [1, 2, 3, 0] rfl ?_
          exact ih_2 S4 x1 x2 (x3 + 1) h
        · refine x_iload_n C eX23_fieldOf_24 rfl 3 rfl ?_
          exact x_iret C rfl rfl eX23_fieldOf_25 h
  unfold f_fieldOf at h
  refine x_iconst (v := 0) C eX23_fieldOf_0 (by decide) ?_
  refine x_istore_n (lv2 := [(0, .ref m9), (1, va_rf x1), (2, .int x2)]) C eX23_fieldOf_1 rfl (by decide) rfl (oky rfl (oky (cat_rf x1) (oky rfl ok0))) ?_
  refine x_sub [1, 2, 3, 0] rfl ?_
  exact j_2 bigN S0 x1 x2 0 h
set_option maxRecDepth 20000 in
set_option maxHeartbeats 4000000 in
theorem k_X23_refer (l : Launch) (D : va_G) (K : Ky) (m9 : Nat) (mr : Nat → Nat) (V : Sg → Option Nat → Option (Sg × Option Nat)) (d : Nat) (hV : ∀ (S0 Sf : Sg) (x1 : Option Nat) (rf : Option Nat), V S0 x1 = some (Sf, rf) → CT l D K m9 mr yX23_value (Cond.code yX23_value cX23_value 3 (some (.object "OwnedPlacesModel$Type"))) (417 + 3 * d) (9996 + 72 * d) S0 Sf [.ref m9, va_rf x1] (some (va_rf rf))) (S0 Sf : Sg) (x1 : Option Nat) (rf : Option Nat) (h : f_refer K V S0 x1 = some (Sf, rf)) : CT l D K m9 mr yX23_refer (Cond.code yX23_refer cX23_refer 3 (some (.object "OwnedPlacesModel$Type"))) (418 + 3 * d) (10018 + 72 * d) S0 Sf [.ref m9, va_rf x1] (some (va_rf rf)) := by
  refine x_start (cc := cX23_refer) (lv := [(0, .ref m9), (1, va_rf x1)]) rfl rfl (by decide) (by simp [lv_args, cat_rf, cat_i, cat_l, cat_a]) (by simp [lg_sl, cat_rf, cat_i, cat_l, cat_a]) (fun p e R s m args below meth c Q A C => ?_)
  have j_116 : ∀ (S : Sg) (x2 : Option Nat) (y0 : Int32) (y2 : Option Nat), f_refer_116 K V S x2 y0 y2 = some (Sf, rf) → WX p l e R s m args below meth c Q D A K m9 mr 3 S0 S 116 [(2, va_rf x2)] [.int y0, .ref m9, va_rf y2, .ref m9] := by
    intro S x2 y0 y2 h
    unfold f_refer_116 at h
    refine x_iconst (v := 0) C eX23_refer_116 (by decide) ?_
    refine x_aload_n C eX23_refer_117 rfl 0 rfl ?_
    refine x_cVr (As := [.int y0, .int 0, va_rf x2]) (st := [va_rf y2, .ref m9]) (n := 3) (frc := 2) (loc := 40) C h (fun S9 r9 e9 => k_X23_type l D K m9 mr _ S9 y0 0 x2 r9 e9) ww_244 ww_255 ww_256 ww_257 ww_16 (by decide +kernel) rfl ⟨by omega, by omega⟩ (Nat.le_of_ble_eq_true rfl) eX23_refer_118 (fun S31 v32 h => ?_)
    refine x_cVr (As := [va_rf y2, va_rf v32]) (st := []) (n := 2) (frc := 1) (loc := 20) C h (fun S9 r9 e9 => k_X23_told l D K m9 mr _ S9 y2 v32 r9 e9) ww_337 ww_340 ww_341 ww_342 ww_16 (by decide +kernel) rfl ⟨by omega, by omega⟩ (Nat.le_of_ble_eq_true rfl) eX23_refer_121 (fun S33 v34 h => ?_)
    exact x_aret C rfl (Or.inl ⟨_, rfl⟩) rfl eX23_refer_124 h
  have j_99 : ∀ (S : Sg) (x1 : Option Nat) (x2 : Option Nat), f_refer_99 K V S x1 x2 = some (Sf, rf) → WX p l e R s m args below meth c Q D A K m9 mr 3 S0 S 99 [(0, .ref m9), (1, va_rf x1), (2, va_rf x2)] [] := by
    intro S x1 x2 h
    unfold f_refer_99 at h
    refine x_tload_n C eX23_refer_99 rfl 0 rfl ?_
    refine x_aload_n C eX23_refer_100 rfl 1 rfl ?_
    refine x_tload_n C eX23_refer_101 rfl 0 rfl ?_
    refine x_aload_n C eX23_refer_102 rfl 1 rfl ?_
    refine x_gI (o9 := x1) (ci := 15) (k9 := 7) (Cn := RX15) (T := TX15) (N := 14) C rfl wt_X15 (by decide) ww_218 eX23_refer_103 h (fun v30 h => ?_)
    refine x_if_eq (tgt := 114) C eX23_refer_106 (by decide) h (fun h => ?_) (fun h => ?_)
    · refine x_bipush (v := 6) C eX23_refer_114 (by decide) ?_
      refine x_sub [2] rfl ?_
      exact j_116 S x2 6 x1 h
    · refine x_bipush (v := 7) C eX23_refer_109 (by decide) ?_
      refine x_goto (tgt := 116) C eX23_refer_111 (by decide) ?_
      refine x_sub [2] rfl ?_
      exact j_116 S x2 7 x1 h
  have j_62 : ∀ (S : Sg) (x1 : Option Nat) (x2 : Option Nat), f_refer_62 K V S x1 x2 = some (Sf, rf) → WX p l e R s m args below meth c Q D A K m9 mr 3 S0 S 62 [(0, .ref m9), (1, va_rf x1), (2, va_rf x2)] [] := by
    intro S x1 x2 h
    unfold f_refer_62 at h
    refine x_tload_n C eX23_refer_62 rfl 0 rfl ?_
    refine x_cVi (As := []) (st := []) (n := 0) (frc := 1) (loc := 20) C h (fun S9 r9 e9 => k_X23_ok l D K m9 mr _ S9 r9 e9) ww_0 ww_13 ww_14 ww_15 ww_16 (by decide +kernel) rfl ⟨by omega, by omega⟩ (Nat.le_of_ble_eq_true rfl) eX23_refer_63 (fun S20 v21 h => ?_)
    refine x_if_eq (tgt := 99) C eX23_refer_66 (by decide) h (fun h => ?_) (fun h => ?_)
    · refine x_sub [0, 1, 2] rfl ?_
      exact j_99 S20 x1 x2 h
    · refine x_aload_n C eX23_refer_69 rfl 1 rfl ?_
      refine x_gI (o9 := x1) (ci := 15) (k9 := 7) (Cn := RX15) (T := TX15) (N := 14) C rfl wt_X15 (by decide) ww_218 eX23_refer_70 h (fun v22 h => ?_)
      refine x_if_eq (tgt := 99) C eX23_refer_73 (by decide) h (fun h => ?_) (fun h => ?_)
      · refine x_sub [0, 1, 2] rfl ?_
        exact j_99 S20 x1 x2 h
      · refine x_tload_n C eX23_refer_76 rfl 0 rfl ?_
        refine x_aload_n C eX23_refer_77 rfl 1 rfl ?_
        refine x_gR (o9 := x1) (ci := 15) (k9 := 8) (Cn := RX15) (T := TX15) (N := 14) C rfl wt_X15 (by decide) ww_192 eX23_refer_78 h (fun v23 h => ?_)
        refine x_cVi (As := [va_rf v23]) (st := []) (n := 1) (frc := 2 + 1 * 410) (loc := 41 + 23 * 410) C h (fun S9 r9 e9 => k_X23_mutable l D K m9 mr 410 _ S9 v23 r9 e9) ww_364 ww_365 ww_366 ww_367 ww_16 (by decide +kernel) rfl ⟨by omega, by omega⟩ (Nat.le_of_ble_eq_true rfl) eX23_refer_81 (fun S24 v25 h => ?_)
        refine x_if_ne (tgt := 99) C eX23_refer_84 (by decide) h (fun h => ?_) (fun h => ?_)
        · refine x_sub [0, 1, 2] rfl ?_
          exact j_99 S24 x1 x2 h
        · refine x_tload_n C eX23_refer_87 rfl 0 rfl ?_
          refine x_iconst (v := 4) C eX23_refer_88 (by decide) ?_
          refine x_aload_n C eX23_refer_89 rfl 1 rfl ?_
          refine x_gR (o9 := x1) (ci := 15) (k9 := 8) (Cn := RX15) (T := TX15) (N := 14) C rfl wt_X15 (by decide) ww_192 eX23_refer_90 h (fun v26 h => ?_)
          refine x_gI (o9 := v26) (ci := 15) (k9 := 1) (Cn := RX15) (T := TX15) (N := 14) C rfl wt_X15 (by decide) ww_211 eX23_refer_93 h (fun v27 h => ?_)
          refine x_cVv (As := [.int 4, .int v27]) (st := []) (n := 2) (frc := 1) (loc := 20) C h (fun S9 r9 e9 => k_X23_fail l D K m9 mr _ S9 4 v27 r9 e9) ww_2 ww_20 ww_21 ww_22 ww_16 (by decide +kernel) rfl ⟨by omega, by omega⟩ (Nat.le_of_ble_eq_true rfl) eX23_refer_96 (fun S28 v29 h => ?_)
          refine x_sub [0, 1, 2] rfl ?_
          exact j_99 S28 x1 x2 h
  unfold f_refer at h
  refine x_aload_n C eX23_refer_0 rfl 1 rfl ?_
  refine x_gR (o9 := x1) (ci := 15) (k9 := 8) (Cn := RX15) (T := TX15) (N := 14) C rfl wt_X15 (by decide) ww_192 eX23_refer_1 h (fun v1 h => ?_)
  refine x_cSi (As := [va_rf v1]) (st := []) (n := 1) (frc := 1) (loc := 20) C h (fun S9 r9 e9 => k_X23_isPlace l D K m9 mr _ S9 v1 r9 e9) ww_190 ww_160 ww_161 ww_16 (by decide +kernel) rfl ⟨by omega, by omega⟩ (Nat.le_of_ble_eq_true rfl) eX23_refer_4 (fun S2 v3 h => ?_)
  refine x_if_ne (tgt := 30) C eX23_refer_7 (by decide) h (fun h => ?_) (fun h => ?_)
  · refine x_tload_n C eX23_refer_30 rfl 0 rfl ?_
    refine x_aload_n C eX23_refer_31 rfl 1 rfl ?_
    refine x_gR (o9 := x1) (ci := 15) (k9 := 8) (Cn := RX15) (T := TX15) (N := 14) C rfl wt_X15 (by decide) ww_192 eX23_refer_32 h (fun v4 h => ?_)
    refine x_cVr (As := [va_rf v4]) (st := []) (n := 1) (frc := 6 + 1 * 410) (loc := 132 + 24 * 410) C h (fun S9 r9 e9 => k_X23_place l D K m9 mr 410 _ S9 v4 r9 e9) ww_343 ww_344 ww_345 ww_346 ww_16 (by decide +kernel) rfl ⟨by omega, by omega⟩ (Nat.le_of_ble_eq_true rfl) eX23_refer_35 (fun S5 v6 h => ?_)
    refine x_astore_n (lv2 := [(0, .ref m9), (1, va_rf x1)]) C eX23_refer_38 rfl (by decide) rfl (oky rfl (oky (cat_rf x1) ok0)) ?_
    refine x_tload_n C eX23_refer_39 rfl 1 rfl ?_
    refine x_cVi (As := []) (st := []) (n := 0) (frc := 1) (loc := 20) C h (fun S9 r9 e9 => k_X23_ok l D K m9 mr _ S9 r9 e9) ww_0 ww_13 ww_14 ww_15 ww_16 (by decide +kernel) rfl ⟨by omega, by omega⟩ (Nat.le_of_ble_eq_true rfl) eX23_refer_40 (fun S7 v8 h => ?_)
    refine x_if_eq (tgt := 62) C eX23_refer_43 (by decide) h (fun h => ?_) (fun h => ?_)
    · refine x_sub [1, 2, 0] rfl ?_
      exact j_62 S7 x1 v6 h
    · refine x_aload_n C eX23_refer_46 rfl 0 rfl ?_
      refine x_cSi (As := [va_rf v6]) (st := []) (n := 1) (frc := 1) (loc := 20) C h (fun S9 r9 e9 => k_X23_refers l D K m9 mr _ S9 v6 r9 e9) ww_258 ww_354 ww_355 ww_16 (by decide +kernel) rfl ⟨by omega, by omega⟩ (Nat.le_of_ble_eq_true rfl) eX23_refer_47 (fun S9 v10 h => ?_)
      refine x_if_eq (tgt := 62) C eX23_refer_50 (by decide) h (fun h => ?_) (fun h => ?_)
      · refine x_sub [1, 2, 0] rfl ?_
        exact j_62 S9 x1 v6 h
      · refine x_tload_n C eX23_refer_53 rfl 1 rfl ?_
        refine x_iconst (v := 4) C eX23_refer_54 (by decide) ?_
        refine x_aload_n C eX23_refer_55 rfl 2 rfl ?_
        refine x_gI (o9 := x1) (ci := 15) (k9 := 1) (Cn := RX15) (T := TX15) (N := 14) C rfl wt_X15 (by decide) ww_211 eX23_refer_56 h (fun v11 h => ?_)
        refine x_cVv (As := [.int 4, .int v11]) (st := []) (n := 2) (frc := 1) (loc := 20) C h (fun S9 r9 e9 => k_X23_fail l D K m9 mr _ S9 4 v11 r9 e9) ww_2 ww_20 ww_21 ww_22 ww_16 (by decide +kernel) rfl ⟨by omega, by omega⟩ (Nat.le_of_ble_eq_true rfl) eX23_refer_59 (fun S12 v13 h => ?_)
        refine x_sub [1, 2, 0] rfl ?_
        exact j_62 S12 x1 v6 h
  · refine x_tload_n C eX23_refer_10 rfl 0 rfl ?_
    refine x_aload_n C eX23_refer_11 rfl 1 rfl ?_
    refine x_gR (o9 := x1) (ci := 15) (k9 := 8) (Cn := RX15) (T := TX15) (N := 14) C rfl wt_X15 (by decide) ww_192 eX23_refer_12 h (fun v14 h => ?_)
    refine x_cVr (As := [va_rf v14]) (st := []) (n := 1) (frc := 417 + 3 * d) (loc := 9996 + 72 * d) C h (fun S9 r9 e9 => hV _ S9 v14 r9 e9) ww_368 ww_373 ww_374 ww_375 ww_16 (by decide +kernel) rfl ⟨by omega, by omega⟩ (Nat.le_of_ble_eq_true rfl) eX23_refer_15 (fun S15 v16 h => ?_)
    refine x_pop C eX23_refer_18 (cat_rf v16) ?_
    refine x_tload_n C eX23_refer_19 rfl 0 rfl ?_
    refine x_aload_n C eX23_refer_20 rfl 1 rfl ?_
    refine x_iconst (v := 4) C eX23_refer_21 (by decide) ?_
    refine x_aload_n C eX23_refer_22 rfl 1 rfl ?_
    refine x_gI (o9 := x1) (ci := 15) (k9 := 1) (Cn := RX15) (T := TX15) (N := 14) C rfl wt_X15 (by decide) ww_211 eX23_refer_23 h (fun v17 h => ?_)
    refine x_cVr (As := [va_rf x1, .int 4, .int v17]) (st := []) (n := 3) (frc := 4) (loc := 85) C h (fun S9 r9 e9 => k_X23_wrong l D K m9 mr _ S9 x1 4 v17 r9 e9) ww_339 ww_348 ww_349 ww_350 ww_16 (by decide +kernel) rfl ⟨by omega, by omega⟩ (Nat.le_of_ble_eq_true rfl) eX23_refer_26 (fun S18 v19 h => ?_)
    exact x_aret C rfl (Or.inl ⟨_, rfl⟩) rfl eX23_refer_29 h
set_option maxRecDepth 20000 in
set_option maxHeartbeats 4000000 in
theorem k_X23_operand (l : Launch) (D : va_G) (K : Ky) (m9 : Nat) (mr : Nat → Nat) (V : Sg → Option Nat → Option (Sg × Option Nat)) (d : Nat) (hV : ∀ (S0 Sf : Sg) (x1 : Option Nat) (rf : Option Nat), V S0 x1 = some (Sf, rf) → CT l D K m9 mr yX23_value (Cond.code yX23_value cX23_value 3 (some (.object "OwnedPlacesModel$Type"))) (417 + 3 * d) (9996 + 72 * d) S0 Sf [.ref m9, va_rf x1] (some (va_rf rf))) (S0 Sf : Sg) (x1 : Option Nat) (x2 : Int32) (x3 : Int32) (rf : Option Nat) (h : f_operand K V S0 x1 x2 x3 = some (Sf, rf)) : CT l D K m9 mr yX23_operand (Cond.code yX23_operand cX23_operand 5 (some (.object "OwnedPlacesModel$Type"))) (418 + 3 * d) (10018 + 72 * d) S0 Sf [.ref m9, va_rf x1, .int x2, .int x3] (some (va_rf rf)) := by
  refine x_start (cc := cX23_operand) (lv := [(0, .ref m9), (1, va_rf x1), (2, .int x2), (3, .int x3)]) rfl rfl (by decide) (by simp [lv_args, cat_rf, cat_i, cat_l, cat_a]) (by simp [lg_sl, cat_rf, cat_i, cat_l, cat_a]) (fun p e R s m args below meth c Q A C => ?_)
  have j_35 : ∀ (S : Sg) (x1 : Option Nat) (x3 : Int32), f_operand_35 K V S x1 x3 = some (Sf, rf) → WX p l e R s m args below meth c Q D A K m9 mr 5 S0 S 35 [(0, .ref m9), (1, va_rf x1), (3, .int x3)] [] := by
    intro S x1 x3 h
    unfold f_operand_35 at h
    refine x_tload_n C eX23_operand_35 rfl 0 rfl ?_
    refine x_aload_n C eX23_operand_36 rfl 1 rfl ?_
    refine x_tload_n C eX23_operand_37 rfl 0 rfl ?_
    refine x_iload_n C eX23_operand_38 rfl 2 rfl ?_
    refine x_cVr (As := [.int x3]) (st := [va_rf x1, .ref m9]) (n := 1) (frc := 3) (loc := 64) C h (fun S9 r9 e9 => k_X23_plainType l D K m9 mr _ S9 x3 r9 e9) ww_254 ww_265 ww_266 ww_267 ww_16 (by decide +kernel) rfl ⟨by omega, by omega⟩ (Nat.le_of_ble_eq_true rfl) eX23_operand_39 (fun S10 v11 h => ?_)
    refine x_cVr (As := [va_rf x1, va_rf v11]) (st := []) (n := 2) (frc := 1) (loc := 20) C h (fun S9 r9 e9 => k_X23_told l D K m9 mr _ S9 x1 v11 r9 e9) ww_337 ww_340 ww_341 ww_342 ww_16 (by decide +kernel) rfl ⟨by omega, by omega⟩ (Nat.le_of_ble_eq_true rfl) eX23_operand_42 (fun S12 v13 h => ?_)
    exact x_aret C rfl (Or.inl ⟨_, rfl⟩) rfl eX23_operand_45 h
  unfold f_operand at h
  refine x_tload_n C eX23_operand_0 rfl 0 rfl ?_
  refine x_aload_n C eX23_operand_1 rfl 1 rfl ?_
  refine x_gR (o9 := x1) (ci := 15) (k9 := 8) (Cn := RX15) (T := TX15) (N := 14) C rfl wt_X15 (by decide) ww_192 eX23_operand_2 h (fun v1 h => ?_)
  refine x_cVr (As := [va_rf v1]) (st := []) (n := 1) (frc := 417 + 3 * d) (loc := 9996 + 72 * d) C h (fun S9 r9 e9 => hV _ S9 v1 r9 e9) ww_368 ww_373 ww_374 ww_375 ww_16 (by decide +kernel) rfl ⟨by omega, by omega⟩ (Nat.le_of_ble_eq_true rfl) eX23_operand_5 (fun S2 v3 h => ?_)
  refine x_astore (lv2 := [(0, .ref m9), (1, va_rf x1), (2, .int x2), (3, .int x3)]) C eX23_operand_8 (by decide) rfl (oky rfl (oky (cat_rf x1) (oky rfl (oky rfl ok0)))) ?_
  refine x_tload_n C eX23_operand_10 rfl 1 rfl ?_
  refine x_cVi (As := []) (st := []) (n := 0) (frc := 1) (loc := 20) C h (fun S9 r9 e9 => k_X23_ok l D K m9 mr _ S9 r9 e9) ww_0 ww_13 ww_14 ww_15 ww_16 (by decide +kernel) rfl ⟨by omega, by omega⟩ (Nat.le_of_ble_eq_true rfl) eX23_operand_11 (fun S4 v5 h => ?_)
  refine x_if_eq (tgt := 35) C eX23_operand_14 (by decide) h (fun h => ?_) (fun h => ?_)
  · refine x_sub [1, 2, 4] rfl ?_
    exact j_35 S4 x1 x3 h
  · refine x_aload C eX23_operand_17 0 rfl ?_
    refine x_gI (o9 := v3) (ci := 20) (k9 := 0) (Cn := RX20) (T := TX20) (N := 4) C rfl wt_X20 (by decide) ww_247 eX23_operand_19 h (fun v6 h => ?_)
    refine x_iload_n C eX23_operand_22 rfl 3 rfl ?_
    refine x_ic_eq (tgt := 35) C eX23_operand_23 (by decide) h (fun h => ?_) (fun h => ?_)
    · refine x_sub [1, 2, 4] rfl ?_
      exact j_35 S4 x1 x3 h
    · refine x_tload_n C eX23_operand_26 rfl 1 rfl ?_
      refine x_iconst (v := 4) C eX23_operand_27 (by decide) ?_
      refine x_aload_n C eX23_operand_28 rfl 2 rfl ?_
      refine x_gI (o9 := x1) (ci := 15) (k9 := 1) (Cn := RX15) (T := TX15) (N := 14) C rfl wt_X15 (by decide) ww_211 eX23_operand_29 h (fun v7 h => ?_)
      refine x_cVv (As := [.int 4, .int v7]) (st := []) (n := 2) (frc := 1) (loc := 20) C h (fun S9 r9 e9 => k_X23_fail l D K m9 mr _ S9 4 v7 r9 e9) ww_2 ww_20 ww_21 ww_22 ww_16 (by decide +kernel) rfl ⟨by omega, by omega⟩ (Nat.le_of_ble_eq_true rfl) eX23_operand_32 (fun S8 v9 h => ?_)
      refine x_sub [1, 2, 4] rfl ?_
      exact j_35 S8 x1 x3 h
set_option maxRecDepth 20000 in
set_option maxHeartbeats 4000000 in
theorem k_X23_chained (l : Launch) (D : va_G) (K : Ky) (m9 : Nat) (mr : Nat → Nat) (V : Sg → Option Nat → Option (Sg × Option Nat)) (d : Nat) (hV : ∀ (S0 Sf : Sg) (x1 : Option Nat) (rf : Option Nat), V S0 x1 = some (Sf, rf) → CT l D K m9 mr yX23_value (Cond.code yX23_value cX23_value 3 (some (.object "OwnedPlacesModel$Type"))) (417 + 3 * d) (9996 + 72 * d) S0 Sf [.ref m9, va_rf x1] (some (va_rf rf))) (S0 Sf : Sg) (x1 : Option Nat) (rf : Option Nat) (h : f_chained K V S0 x1 = some (Sf, rf)) : CT l D K m9 mr yX23_chained (Cond.code yX23_chained cX23_chained 10 (some (.object "OwnedPlacesModel$Type"))) (418 + 3 * d) (10018 + 72 * d) S0 Sf [.ref m9, va_rf x1] (some (va_rf rf)) := by
  refine x_start (cc := cX23_chained) (lv := [(0, .ref m9), (1, va_rf x1)]) rfl rfl (by decide) (by simp [lv_args, cat_rf, cat_i, cat_l, cat_a]) (by simp [lg_sl, cat_rf, cat_i, cat_l, cat_a]) (fun p e R s m args below meth c Q A C => ?_)
  have j_196 : ∀ (S : Sg) (x1 : Option Nat) (x2 : Option Nat), f_chained_196 K V S x1 x2 = some (Sf, rf) → WX p l e R s m args below meth c Q D A K m9 mr 10 S0 S 196 [(0, .ref m9), (1, va_rf x1), (2, va_rf x2)] [] := by
    intro S x1 x2 h
    unfold f_chained_196 at h
    refine x_tload_n C eX23_chained_196 rfl 0 rfl ?_
    refine x_aload_n C eX23_chained_197 rfl 1 rfl ?_
    refine x_aload_n C eX23_chained_198 rfl 2 rfl ?_
    refine x_cVr (As := [va_rf x1, va_rf x2]) (st := []) (n := 2) (frc := 1) (loc := 20) C h (fun S9 r9 e9 => k_X23_told l D K m9 mr _ S9 x1 x2 r9 e9) ww_337 ww_340 ww_341 ww_342 ww_16 (by decide +kernel) rfl ⟨by omega, by omega⟩ (Nat.le_of_ble_eq_true rfl) eX23_chained_199 (fun S28 v29 h => ?_)
    exact x_aret C rfl (Or.inl ⟨_, rfl⟩) rfl eX23_chained_202 h
  have j_11 : ∀ (n_11 : Nat) (S : Sg) (x1 : Option Nat) (x2 : Option Nat) (x3 : Int32), f_chained_11 K V n_11 S x1 x2 x3 = some (Sf, rf) → WX p l e R s m args below meth c Q D A K m9 mr 10 S0 S 11 [(0, .ref m9), (1, va_rf x1), (2, va_rf x2), (3, .int x3)] [] := by
    intro n_11
    induction n_11 with
    | zero => intro S x1 x2 x3 h; unfold f_chained_11 at h; cases h
    | succ n_11 ih_11 =>
      intro S x1 x2 x3 h
      have j_186 : ∀ (S : Sg) (x1 : Option Nat) (x3 : Int32) (y0 : Int32), f_chained_186 K V (f_chained_11 K V n_11) S x1 x3 y0 = some (Sf, rf) → WX p l e R s m args below meth c Q D A K m9 mr 10 S0 S 186 [(0, .ref m9), (1, va_rf x1), (3, .int x3)] [.int y0, .ref m9] := by
        intro S x1 x3 y0 h
        unfold f_chained_186 at h
        refine x_cVr (As := [.int y0]) (st := []) (n := 1) (frc := 3) (loc := 64) C h (fun S9 r9 e9 => k_X23_plainType l D K m9 mr _ S9 y0 r9 e9) ww_254 ww_265 ww_266 ww_267 ww_16 (by decide +kernel) rfl ⟨by omega, by omega⟩ (Nat.le_of_ble_eq_true rfl) eX23_chained_186 (fun S26 v27 h => ?_)
        refine x_astore_n (lv2 := [(0, .ref m9), (1, va_rf x1), (3, .int x3)]) C eX23_chained_189 rfl (by decide) rfl (oky rfl (oky (cat_rf x1) (oky rfl ok0))) ?_
        refine x_iinc (j := 3) (v := 1) (lv2 := [(2, va_rf v27), (0, .ref m9), (1, va_rf x1)]) C eX23_chained_190 rfl (by decide) (by decide) rfl (oky (cat_rf v27) (oky rfl (oky (cat_rf x1) ok0))) ?_
        refine x_goto (tgt := 11) C eX23_chained_193 (by decide) ?_
        refine x_sub [2, 3, 1, 0] rfl ?_
        exact ih_11 S26 x1 v27 (x3 + 1) h
      have j_174 : ∀ (S : Sg) (x1 : Option Nat) (x3 : Int32) (x6 : Int32), f_chained_174 K V (f_chained_11 K V n_11) S x1 x3 x6 = some (Sf, rf) → WX p l e R s m args below meth c Q D A K m9 mr 10 S0 S 174 [(0, .ref m9), (1, va_rf x1), (3, .int x3), (6, .int x6)] [] := by
        intro S x1 x3 x6 h
        unfold f_chained_174 at h
        refine x_tload_n C eX23_chained_174 rfl 0 rfl ?_
        refine x_iload C eX23_chained_175 3 rfl ?_
        refine x_iconst (v := 3) C eX23_chained_177 (by decide) ?_
        refine x_ic_le (tgt := 185) C eX23_chained_178 (by decide) h (fun h => ?_) (fun h => ?_)
        · refine x_iconst (v := 1) C eX23_chained_185 (by decide) ?_
          refine x_sub [0, 1, 2] rfl ?_
          exact j_186 S x1 x3 1 h
        · refine x_iconst (v := 0) C eX23_chained_181 (by decide) ?_
          refine x_goto (tgt := 186) C eX23_chained_182 (by decide) ?_
          refine x_sub [0, 1, 2] rfl ?_
          exact j_186 S x1 x3 0 h
      have j_149 : ∀ (S : Sg) (x1 : Option Nat) (x3 : Int32) (x6 : Int32) (y0 : Int32), f_chained_149 K V (f_chained_11 K V n_11) S x1 x3 x6 y0 = some (Sf, rf) → WX p l e R s m args below meth c Q D A K m9 mr 10 S0 S 149 [(0, .ref m9), (1, va_rf x1), (3, .int x3), (6, .int x6)] [.int y0] := by
        intro S x1 x3 x6 y0 h
        unfold f_chained_149 at h
        refine x_istore (lv2 := [(0, .ref m9), (1, va_rf x1), (3, .int x3), (6, .int x6)]) C eX23_chained_149 (by decide) rfl (oky rfl (oky (cat_rf x1) (oky rfl (oky rfl ok0)))) ?_
        refine x_tload_n C eX23_chained_151 rfl 1 rfl ?_
        refine x_cVi (As := []) (st := []) (n := 0) (frc := 1) (loc := 20) C h (fun S9 r9 e9 => k_X23_ok l D K m9 mr _ S9 r9 e9) ww_0 ww_13 ww_14 ww_15 ww_16 (by decide +kernel) rfl ⟨by omega, by omega⟩ (Nat.le_of_ble_eq_true rfl) eX23_chained_152 (fun S20 v21 h => ?_)
        refine x_if_eq (tgt := 174) C eX23_chained_155 (by decide) h (fun h => ?_) (fun h => ?_)
        · refine x_sub [1, 2, 3, 4] rfl ?_
          exact j_174 S20 x1 x3 x6 h
        · refine x_iload C eX23_chained_158 0 rfl ?_
          refine x_if_ne (tgt := 174) C eX23_chained_160 (by decide) h (fun h => ?_) (fun h => ?_)
          · refine x_sub [1, 2, 3, 4] rfl ?_
            exact j_174 S20 x1 x3 x6 h
          · refine x_tload_n C eX23_chained_163 rfl 1 rfl ?_
            refine x_iconst (v := 4) C eX23_chained_164 (by decide) ?_
            refine x_aload_n C eX23_chained_165 rfl 2 rfl ?_
            refine x_gR (o9 := x1) (ci := 15) (k9 := 10) (Cn := RX15) (T := TX15) (N := 14) C rfl wt_X15 (by decide) ww_200 eX23_chained_166 h (fun v22 h => ?_)
            refine x_iload_n C eX23_chained_169 rfl 3 rfl ?_
            refine x_aI C eX23_chained_170 h (fun v23 h => ?_)
            refine x_cVv (As := [.int 4, .int v23]) (st := []) (n := 2) (frc := 1) (loc := 20) C h (fun S9 r9 e9 => k_X23_fail l D K m9 mr _ S9 4 v23 r9 e9) ww_2 ww_20 ww_21 ww_22 ww_16 (by decide +kernel) rfl ⟨by omega, by omega⟩ (Nat.le_of_ble_eq_true rfl) eX23_chained_171 (fun S24 v25 h => ?_)
            refine x_sub [1, 2, 3, 4] rfl ?_
            exact j_174 S24 x1 x3 x6 h
      have j_139 : ∀ (S : Sg) (x1 : Option Nat) (x3 : Int32) (x6 : Int32), f_chained_139 K V (f_chained_11 K V n_11) S x1 x3 x6 = some (Sf, rf) → WX p l e R s m args below meth c Q D A K m9 mr 10 S0 S 139 [(0, .ref m9), (1, va_rf x1), (3, .int x3), (6, .int x6)] [] := by
        intro S x1 x3 x6 h
        unfold f_chained_139 at h
        refine x_iconst (v := 1) C eX23_chained_139 (by decide) ?_
        refine x_goto (tgt := 149) C eX23_chained_140 (by decide) ?_
        refine x_sub [0, 1, 2, 3] rfl ?_
        exact j_149 S x1 x3 x6 1 h
      have j_129 : ∀ (S : Sg) (x1 : Option Nat) (x3 : Int32) (x6 : Int32) (x7 : Int32) (x8 : Int32), f_chained_129 K V (f_chained_11 K V n_11) S x1 x3 x6 x7 x8 = some (Sf, rf) → WX p l e R s m args below meth c Q D A K m9 mr 10 S0 S 129 [(0, .ref m9), (1, va_rf x1), (3, .int x3), (6, .int x6), (7, .int x7), (8, .int x8)] [] := by
        intro S x1 x3 x6 x7 x8 h
        unfold f_chained_129 at h
        refine x_iload C eX23_chained_129 4 rfl ?_
        refine x_if_ne (tgt := 139) C eX23_chained_131 (by decide) h (fun h => ?_) (fun h => ?_)
        · refine x_sub [0, 1, 2, 3] rfl ?_
          exact j_139 S x1 x3 x6 h
        · refine x_iload C eX23_chained_134 5 rfl ?_
          refine x_if_eq (tgt := 143) C eX23_chained_136 (by decide) h (fun h => ?_) (fun h => ?_)
          · refine x_iconst (v := 0) C eX23_chained_143 (by decide) ?_
            refine x_goto (tgt := 149) C eX23_chained_144 (by decide) ?_
            refine x_sub [0, 1, 2, 3] rfl ?_
            exact j_149 S x1 x3 x6 0 h
          · refine x_sub [0, 1, 2, 3] rfl ?_
            exact j_139 S x1 x3 x6 h
      have j_102 : ∀ (S : Sg) (x1 : Option Nat) (x3 : Int32) (x5 : Int32) (x6 : Int32) (x7 : Int32) (y0 : Int32), f_chained_102 K V (f_chained_11 K V n_11) S x1 x3 x5 x6 x7 y0 = some (Sf, rf) → WX p l e R s m args below meth c Q D A K m9 mr 10 S0 S 102 [(0, .ref m9), (1, va_rf x1), (3, .int x3), (5, .int x5), (6, .int x6), (7, .int x7)] [.int y0] := by
        intro S x1 x3 x5 x6 x7 y0 h
        unfold f_chained_102 at h
        refine x_istore (lv2 := [(0, .ref m9), (1, va_rf x1), (3, .int x3), (5, .int x5), (6, .int x6), (7, .int x7)]) C eX23_chained_102 (by decide) rfl (oky rfl (oky (cat_rf x1) (oky rfl (oky rfl (oky rfl (oky rfl ok0)))))) ?_
        refine x_iload C eX23_chained_104 5 rfl ?_
        refine x_iconst (v := 3) C eX23_chained_106 (by decide) ?_
        refine x_ic_ge (tgt := 115) C eX23_chained_107 (by decide) h (fun h => ?_) (fun h => ?_)
        · refine x_iload C eX23_chained_115 4 rfl ?_
          refine x_bipush (v := 45) C eX23_chained_117 (by decide) ?_
          refine x_ic_eq (tgt := 129) C eX23_chained_119 (by decide) h (fun h => ?_) (fun h => ?_)
          · refine x_sub [1, 2, 3, 5, 6, 0] rfl ?_
            exact j_129 S x1 x3 x6 x7 y0 h
          · refine x_iload C eX23_chained_122 4 rfl ?_
            refine x_bipush (v := 46) C eX23_chained_124 (by decide) ?_
            refine x_ic_ne (tgt := 147) C eX23_chained_126 (by decide) h (fun h => ?_) (fun h => ?_)
            · refine x_iload C eX23_chained_147 6 rfl ?_
              refine x_sub [1, 2, 3, 5] rfl ?_
              exact j_149 S x1 x3 x6 x7 h
            · refine x_sub [1, 2, 3, 5, 6, 0] rfl ?_
              exact j_129 S x1 x3 x6 x7 y0 h
        · refine x_iload C eX23_chained_110 0 rfl ?_
          refine x_goto (tgt := 149) C eX23_chained_112 (by decide) ?_
          refine x_sub [1, 2, 3, 5] rfl ?_
          exact j_149 S x1 x3 x6 y0 h
      have j_101 : ∀ (S : Sg) (x1 : Option Nat) (x3 : Int32) (x5 : Int32) (x6 : Int32) (x7 : Int32), f_chained_101 K V (f_chained_11 K V n_11) S x1 x3 x5 x6 x7 = some (Sf, rf) → WX p l e R s m args below meth c Q D A K m9 mr 10 S0 S 101 [(0, .ref m9), (1, va_rf x1), (3, .int x3), (5, .int x5), (6, .int x6), (7, .int x7)] [] := by
        intro S x1 x3 x5 x6 x7 h
        unfold f_chained_101 at h
        refine x_iconst (v := 0) C eX23_chained_101 (by decide) ?_
        refine x_sub [0, 1, 2, 3, 4, 5] rfl ?_
        exact j_102 S x1 x3 x5 x6 x7 0 h
      have j_78 : ∀ (S : Sg) (x1 : Option Nat) (x2 : Option Nat) (x3 : Int32) (x4 : Option Nat) (x5 : Int32) (x6 : Int32) (y0 : Int32), f_chained_78 K V (f_chained_11 K V n_11) S x1 x2 x3 x4 x5 x6 y0 = some (Sf, rf) → WX p l e R s m args below meth c Q D A K m9 mr 10 S0 S 78 [(0, .ref m9), (1, va_rf x1), (2, va_rf x2), (3, .int x3), (4, va_rf x4), (5, .int x5), (6, .int x6)] [.int y0] := by
        intro S x1 x2 x3 x4 x5 x6 y0 h
        unfold f_chained_78 at h
        refine x_istore (lv2 := [(0, .ref m9), (1, va_rf x1), (2, va_rf x2), (3, .int x3), (4, va_rf x4), (5, .int x5), (6, .int x6)]) C eX23_chained_78 (by decide) rfl (oky rfl (oky (cat_rf x1) (oky (cat_rf x2) (oky rfl (oky (cat_rf x4) (oky rfl (oky rfl ok0))))))) ?_
        refine x_aload_n C eX23_chained_80 rfl 3 rfl ?_
        refine x_gI (o9 := x2) (ci := 20) (k9 := 0) (Cn := RX20) (T := TX20) (N := 4) C rfl wt_X20 (by decide) ww_247 eX23_chained_81 h (fun v18 h => ?_)
        refine x_iconst (v := 1) C eX23_chained_84 (by decide) ?_
        refine x_ic_ne (tgt := 101) C eX23_chained_85 (by decide) h (fun h => ?_) (fun h => ?_)
        · refine x_sub [1, 2, 4, 6, 7, 0] rfl ?_
          exact j_101 S x1 x3 x5 x6 y0 h
        · refine x_aload C eX23_chained_88 5 rfl ?_
          refine x_gI (o9 := x4) (ci := 20) (k9 := 0) (Cn := RX20) (T := TX20) (N := 4) C rfl wt_X20 (by decide) ww_247 eX23_chained_90 h (fun v19 h => ?_)
          refine x_iconst (v := 1) C eX23_chained_93 (by decide) ?_
          refine x_ic_ne (tgt := 101) C eX23_chained_94 (by decide) h (fun h => ?_) (fun h => ?_)
          · refine x_sub [1, 2, 4, 6, 7, 0] rfl ?_
            exact j_101 S x1 x3 x5 x6 y0 h
          · refine x_iconst (v := 1) C eX23_chained_97 (by decide) ?_
            refine x_goto (tgt := 102) C eX23_chained_98 (by decide) ?_
            refine x_sub [1, 2, 4, 6, 7, 0] rfl ?_
            exact j_102 S x1 x3 x5 x6 y0 1 h
      have j_77 : ∀ (S : Sg) (x1 : Option Nat) (x2 : Option Nat) (x3 : Int32) (x4 : Option Nat) (x5 : Int32) (x6 : Int32), f_chained_77 K V (f_chained_11 K V n_11) S x1 x2 x3 x4 x5 x6 = some (Sf, rf) → WX p l e R s m args below meth c Q D A K m9 mr 10 S0 S 77 [(0, .ref m9), (1, va_rf x1), (2, va_rf x2), (3, .int x3), (4, va_rf x4), (5, .int x5), (6, .int x6)] [] := by
        intro S x1 x2 x3 x4 x5 x6 h
        unfold f_chained_77 at h
        refine x_iconst (v := 0) C eX23_chained_77 (by decide) ?_
        refine x_sub [0, 1, 2, 3, 4, 5, 6] rfl ?_
        exact j_78 S x1 x2 x3 x4 x5 x6 0 h
      unfold f_chained_11 at h
      refine x_iload_n C eX23_chained_11 rfl 3 rfl ?_
      refine x_aload_n C eX23_chained_12 rfl 1 rfl ?_
      refine x_gI (o9 := x1) (ci := 15) (k9 := 11) (Cn := RX15) (T := TX15) (N := 14) C rfl wt_X15 (by decide) ww_201 eX23_chained_13 h (fun v4 h => ?_)
      refine x_ic_ge (tgt := 196) C eX23_chained_16 (by decide) h (fun h => ?_) (fun h => ?_)
      · refine x_sub [0, 1, 2] rfl ?_
        exact j_196 S x1 x2 h
      · refine x_tload_n C eX23_chained_19 rfl 0 rfl ?_
        refine x_cVi (As := []) (st := []) (n := 0) (frc := 1) (loc := 20) C h (fun S9 r9 e9 => k_X23_ok l D K m9 mr _ S9 r9 e9) ww_0 ww_13 ww_14 ww_15 ww_16 (by decide +kernel) rfl ⟨by omega, by omega⟩ (Nat.le_of_ble_eq_true rfl) eX23_chained_20 (fun S5 v6 h => ?_)
        refine x_if_eq (tgt := 196) C eX23_chained_23 (by decide) h (fun h => ?_) (fun h => ?_)
        · refine x_sub [0, 1, 2] rfl ?_
          exact j_196 S5 x1 x2 h
        · refine x_tload_n C eX23_chained_26 rfl 0 rfl ?_
          refine x_aload_n C eX23_chained_27 rfl 1 rfl ?_
          refine x_gR (o9 := x1) (ci := 15) (k9 := 9) (Cn := RX15) (T := TX15) (N := 14) C rfl wt_X15 (by decide) ww_199 eX23_chained_28 h (fun v7 h => ?_)
          refine x_iload_n C eX23_chained_31 rfl 3 rfl ?_
          refine x_aQ (t9 := 9) C rfl eX23_chained_32 h (fun v8 h => ?_)
          refine x_cVr (As := [va_rf v8]) (st := []) (n := 1) (frc := 417 + 3 * d) (loc := 9996 + 72 * d) C h (fun S9 r9 e9 => hV _ S9 v8 r9 e9) ww_368 ww_373 ww_374 ww_375 ww_16 (by decide +kernel) rfl ⟨by omega, by omega⟩ (Nat.le_of_ble_eq_true rfl) eX23_chained_33 (fun S9 v10 h => ?_)
          refine x_astore (lv2 := [(0, .ref m9), (1, va_rf x1), (2, va_rf x2), (3, .int x3)]) C eX23_chained_36 (by decide) rfl (oky rfl (oky (cat_rf x1) (oky (cat_rf x2) (oky rfl ok0)))) ?_
          refine x_tload_n C eX23_chained_38 rfl 1 rfl ?_
          refine x_mV (k9 := 5) C (by decide) ww_10 eX23_chained_39 rfl ?_
          refine x_aload_n C eX23_chained_42 rfl 2 rfl ?_
          refine x_gR (o9 := x1) (ci := 15) (k9 := 10) (Cn := RX15) (T := TX15) (N := 14) C rfl wt_X15 (by decide) ww_200 eX23_chained_43 h (fun v11 h => ?_)
          refine x_iload_n C eX23_chained_46 rfl 4 rfl ?_
          refine x_aI C eX23_chained_47 h (fun v12 h => ?_)
          refine x_rI (r := 5) C (by decide) rfl eX23_chained_48 h (fun v13 h => ?_)
          refine x_istore (lv2 := [(4, va_rf v10), (0, .ref m9), (1, va_rf x1), (2, va_rf x2), (3, .int x3)]) C eX23_chained_49 (by decide) rfl (oky (cat_rf v10) (oky rfl (oky (cat_rf x1) (oky (cat_rf x2) (oky rfl ok0))))) ?_
          refine x_iload C eX23_chained_51 0 rfl ?_
          refine x_cSi (As := [.int v13]) (st := []) (n := 1) (frc := 1) (loc := 20) C h (fun S9 r9 e9 => k_X23_levelOf l D K m9 mr _ S9 v13 r9 e9) ww_197 ww_206 ww_207 ww_16 (by decide +kernel) rfl ⟨by omega, by omega⟩ (Nat.le_of_ble_eq_true rfl) eX23_chained_53 (fun S14 v15 h => ?_)
          refine x_istore (lv2 := [(5, .int v13), (4, va_rf v10), (0, .ref m9), (1, va_rf x1), (2, va_rf x2), (3, .int x3)]) C eX23_chained_56 (by decide) rfl (oky rfl (oky (cat_rf v10) (oky rfl (oky (cat_rf x1) (oky (cat_rf x2) (oky rfl ok0)))))) ?_
          refine x_aload_n C eX23_chained_58 rfl 5 rfl ?_
          refine x_gI (o9 := x2) (ci := 20) (k9 := 0) (Cn := RX20) (T := TX20) (N := 4) C rfl wt_X20 (by decide) ww_247 eX23_chained_59 h (fun v16 h => ?_)
          refine x_if_ne (tgt := 77) C eX23_chained_62 (by decide) h (fun h => ?_) (fun h => ?_)
          · refine x_sub [3, 4, 5, 6, 2, 1, 0] rfl ?_
            exact j_77 S14 x1 x2 x3 v10 v13 v15 h
          · refine x_aload C eX23_chained_65 2 rfl ?_
            refine x_gI (o9 := v10) (ci := 20) (k9 := 0) (Cn := RX20) (T := TX20) (N := 4) C rfl wt_X20 (by decide) ww_247 eX23_chained_67 h (fun v17 h => ?_)
            refine x_if_ne (tgt := 77) C eX23_chained_70 (by decide) h (fun h => ?_) (fun h => ?_)
            · refine x_sub [3, 4, 5, 6, 2, 1, 0] rfl ?_
              exact j_77 S14 x1 x2 x3 v10 v13 v15 h
            · refine x_iconst (v := 1) C eX23_chained_73 (by decide) ?_
              refine x_goto (tgt := 78) C eX23_chained_74 (by decide) ?_
              refine x_sub [3, 4, 5, 6, 2, 1, 0] rfl ?_
              exact j_78 S14 x1 x2 x3 v10 v13 v15 1 h
  unfold f_chained at h
  refine x_tload_n C eX23_chained_0 rfl 0 rfl ?_
  refine x_aload_n C eX23_chained_1 rfl 1 rfl ?_
  refine x_gR (o9 := x1) (ci := 15) (k9 := 8) (Cn := RX15) (T := TX15) (N := 14) C rfl wt_X15 (by decide) ww_192 eX23_chained_2 h (fun v1 h => ?_)
  refine x_cVr (As := [va_rf v1]) (st := []) (n := 1) (frc := 417 + 3 * d) (loc := 9996 + 72 * d) C h (fun S9 r9 e9 => hV _ S9 v1 r9 e9) ww_368 ww_373 ww_374 ww_375 ww_16 (by decide +kernel) rfl ⟨by omega, by omega⟩ (Nat.le_of_ble_eq_true rfl) eX23_chained_5 (fun S2 v3 h => ?_)
  refine x_astore_n (lv2 := [(0, .ref m9), (1, va_rf x1)]) C eX23_chained_8 rfl (by decide) rfl (oky rfl (oky (cat_rf x1) ok0)) ?_
  refine x_iconst (v := 0) C eX23_chained_9 (by decide) ?_
  refine x_istore_n (lv2 := [(2, va_rf v3), (0, .ref m9), (1, va_rf x1)]) C eX23_chained_10 rfl (by decide) rfl (oky (cat_rf v3) (oky rfl (oky (cat_rf x1) ok0))) ?_
  refine x_sub [2, 3, 1, 0] rfl ?_
  exact j_11 bigN S2 x1 v3 0 h
set_option maxRecDepth 20000 in
set_option maxHeartbeats 4000000 in
theorem k_X23_fits (l : Launch) (D : va_G) (K : Ky) (m9 : Nat) (mr : Nat → Nat) (V : Sg → Option Nat → Option (Sg × Option Nat)) (d : Nat) (hV : ∀ (S0 Sf : Sg) (x1 : Option Nat) (rf : Option Nat), V S0 x1 = some (Sf, rf) → CT l D K m9 mr yX23_value (Cond.code yX23_value cX23_value 3 (some (.object "OwnedPlacesModel$Type"))) (417 + 3 * d) (9996 + 72 * d) S0 Sf [.ref m9, va_rf x1] (some (va_rf rf))) (S0 Sf : Sg) (x1 : Option Nat) (x2 : Option Nat) (rf : Unit) (h : f_fits K V S0 x1 x2 = some (Sf, rf)) : CT l D K m9 mr yX23_fits (Cond.code yX23_fits cX23_fits 4 none) (418 + 3 * d) (10018 + 72 * d) S0 Sf [.ref m9, va_rf x1, va_rf x2] none := by
  refine x_start (cc := cX23_fits) (lv := [(0, .ref m9), (1, va_rf x1), (2, va_rf x2)]) rfl rfl (by decide) (by simp [lv_args, cat_rf, cat_i, cat_l, cat_a]) (by simp [lg_sl, cat_rf, cat_i, cat_l, cat_a]) (fun p e R s m args below meth c Q A C => ?_)
  have j_27 : ∀ (S : Sg), f_fits_27 K V S = some (Sf, rf) → WX p l e R s m args below meth c Q D A K m9 mr 4 S0 S 27 [] [] := by
    intro S h
    unfold f_fits_27 at h
    exact x_vret C rfl rfl eX23_fits_27 h
  unfold f_fits at h
  refine x_tload_n C eX23_fits_0 rfl 0 rfl ?_
  refine x_aload_n C eX23_fits_1 rfl 1 rfl ?_
  refine x_cVr (As := [va_rf x1]) (st := []) (n := 1) (frc := 417 + 3 * d) (loc := 9996 + 72 * d) C h (fun S9 r9 e9 => hV _ S9 x1 r9 e9) ww_368 ww_373 ww_374 ww_375 ww_16 (by decide +kernel) rfl ⟨by omega, by omega⟩ (Nat.le_of_ble_eq_true rfl) eX23_fits_2 (fun S1 v2 h => ?_)
  refine x_astore_n (lv2 := [(0, .ref m9), (1, va_rf x1), (2, va_rf x2)]) C eX23_fits_5 rfl (by decide) rfl (oky rfl (oky (cat_rf x1) (oky (cat_rf x2) ok0))) ?_
  refine x_tload_n C eX23_fits_6 rfl 1 rfl ?_
  refine x_cVi (As := []) (st := []) (n := 0) (frc := 1) (loc := 20) C h (fun S9 r9 e9 => k_X23_ok l D K m9 mr _ S9 r9 e9) ww_0 ww_13 ww_14 ww_15 ww_16 (by decide +kernel) rfl ⟨by omega, by omega⟩ (Nat.le_of_ble_eq_true rfl) eX23_fits_7 (fun S3 v4 h => ?_)
  refine x_if_eq (tgt := 27) C eX23_fits_10 (by decide) h (fun h => ?_) (fun h => ?_)
  · refine x_sub [] rfl ?_
    exact j_27 S3 h
  · refine x_aload_n C eX23_fits_13 rfl 0 rfl ?_
    refine x_aload_n C eX23_fits_14 rfl 3 rfl ?_
    refine x_ac_eq (tgt := 27) C eX23_fits_15 (by decide) h (fun h => ?_) (fun h => ?_)
    · refine x_sub [] rfl ?_
      exact j_27 S3 h
    · refine x_tload_n C eX23_fits_18 rfl 1 rfl ?_
      refine x_iconst (v := 4) C eX23_fits_19 (by decide) ?_
      refine x_aload_n C eX23_fits_20 rfl 2 rfl ?_
      refine x_gI (o9 := x1) (ci := 15) (k9 := 1) (Cn := RX15) (T := TX15) (N := 14) C rfl wt_X15 (by decide) ww_211 eX23_fits_21 h (fun v5 h => ?_)
      refine x_cVv (As := [.int 4, .int v5]) (st := []) (n := 2) (frc := 1) (loc := 20) C h (fun S9 r9 e9 => k_X23_fail l D K m9 mr _ S9 4 v5 r9 e9) ww_2 ww_20 ww_21 ww_22 ww_16 (by decide +kernel) rfl ⟨by omega, by omega⟩ (Nat.le_of_ble_eq_true rfl) eX23_fits_24 (fun S6 v7 h => ?_)
      refine x_sub [] rfl ?_
      exact j_27 S6 h
set_option maxRecDepth 20000 in
set_option maxHeartbeats 4000000 in
theorem k_X23_variantOf (l : Launch) (D : va_G) (K : Ky) (m9 : Nat) (mr : Nat → Nat) (V : Sg → Option Nat → Option (Sg × Option Nat)) (d : Nat) (hV : ∀ (S0 Sf : Sg) (x1 : Option Nat) (rf : Option Nat), V S0 x1 = some (Sf, rf) → CT l D K m9 mr yX23_value (Cond.code yX23_value cX23_value 3 (some (.object "OwnedPlacesModel$Type"))) (417 + 3 * d) (9996 + 72 * d) S0 Sf [.ref m9, va_rf x1] (some (va_rf rf))) (S0 Sf : Sg) (x1 : Option Nat) (rf : Option Nat) (h : f_variantOf K V S0 x1 = some (Sf, rf)) : CT l D K m9 mr yX23_variantOf (Cond.code yX23_variantOf cX23_variantOf 6 (some (.object "OwnedPlacesModel$Type"))) (419 + 3 * d) (10041 + 72 * d) S0 Sf [.ref m9, va_rf x1] (some (va_rf rf)) := by
  refine x_start (cc := cX23_variantOf) (lv := [(0, .ref m9), (1, va_rf x1)]) rfl rfl (by decide) (by simp [lv_args, cat_rf, cat_i, cat_l, cat_a]) (by simp [lg_sl, cat_rf, cat_i, cat_l, cat_a]) (fun p e R s m args below meth c Q A C => ?_)
  have j_27 : ∀ (S : Sg) (x1 : Option Nat), f_variantOf_27 K V S x1 = some (Sf, rf) → WX p l e R s m args below meth c Q D A K m9 mr 6 S0 S 27 [(0, .ref m9), (1, va_rf x1)] [] := by
    intro S x1 h
    unfold f_variantOf_27 at h
    refine x_tload_n C eX23_variantOf_27 rfl 0 rfl ?_
    refine x_aload_n C eX23_variantOf_28 rfl 1 rfl ?_
    refine x_iconst (v := 3) C eX23_variantOf_29 (by decide) ?_
    refine x_aload_n C eX23_variantOf_30 rfl 1 rfl ?_
    refine x_gI (o9 := x1) (ci := 15) (k9 := 3) (Cn := RX15) (T := TX15) (N := 14) C rfl wt_X15 (by decide) ww_223 eX23_variantOf_31 h (fun v36 h => ?_)
    refine x_cVr (As := [va_rf x1, .int 3, .int v36]) (st := []) (n := 3) (frc := 4) (loc := 85) C h (fun S9 r9 e9 => k_X23_wrong l D K m9 mr _ S9 x1 3 v36 r9 e9) ww_339 ww_348 ww_349 ww_350 ww_16 (by decide +kernel) rfl ⟨by omega, by omega⟩ (Nat.le_of_ble_eq_true rfl) eX23_variantOf_34 (fun S37 v38 h => ?_)
    exact x_aret C rfl (Or.inl ⟨_, rfl⟩) rfl eX23_variantOf_37 h
  have j_158 : ∀ (S : Sg) (x1 : Option Nat) (x2 : Int32), f_variantOf_158 K V S x1 x2 = some (Sf, rf) → WX p l e R s m args below meth c Q D A K m9 mr 6 S0 S 158 [(0, .ref m9), (1, va_rf x1), (2, .int x2)] [] := by
    intro S x1 x2 h
    unfold f_variantOf_158 at h
    refine x_tload_n C eX23_variantOf_158 rfl 0 rfl ?_
    refine x_aload_n C eX23_variantOf_159 rfl 1 rfl ?_
    refine x_tload_n C eX23_variantOf_160 rfl 0 rfl ?_
    refine x_iconst (v := 4) C eX23_variantOf_161 (by decide) ?_
    refine x_iload_n C eX23_variantOf_162 rfl 2 rfl ?_
    refine x_null C eX23_variantOf_163 ?_
    refine x_cVr (As := [.int 4, .int x2, va_rf none]) (st := [va_rf x1, .ref m9]) (n := 3) (frc := 2) (loc := 40) C h (fun S9 r9 e9 => k_X23_type l D K m9 mr _ S9 4 x2 none r9 e9) ww_244 ww_255 ww_256 ww_257 ww_16 (by decide +kernel) rfl ⟨by omega, by omega⟩ (Nat.le_of_ble_eq_true rfl) eX23_variantOf_164 (fun S32 v33 h => ?_)
    refine x_cVr (As := [va_rf x1, va_rf v33]) (st := []) (n := 2) (frc := 1) (loc := 20) C h (fun S9 r9 e9 => k_X23_told l D K m9 mr _ S9 x1 v33 r9 e9) ww_337 ww_340 ww_341 ww_342 ww_16 (by decide +kernel) rfl ⟨by omega, by omega⟩ (Nat.le_of_ble_eq_true rfl) eX23_variantOf_167 (fun S34 v35 h => ?_)
    exact x_aret C rfl (Or.inl ⟨_, rfl⟩) rfl eX23_variantOf_170 h
  have j_117 : ∀ (n_117 : Nat) (S : Sg) (x1 : Option Nat) (x2 : Int32) (x4 : Option Nat) (x5 : Int32), f_variantOf_117 K V n_117 S x1 x2 x4 x5 = some (Sf, rf) → WX p l e R s m args below meth c Q D A K m9 mr 6 S0 S 117 [(0, .ref m9), (1, va_rf x1), (2, .int x2), (4, va_rf x4), (5, .int x5)] [] := by
    intro n_117
    induction n_117 with
    | zero => intro S x1 x2 x4 x5 h; unfold f_variantOf_117 at h; cases h
    | succ n_117 ih_117 =>
      intro S x1 x2 x4 x5 h
      unfold f_variantOf_117 at h
      refine x_iload C eX23_variantOf_117 4 rfl ?_
      refine x_aload_n C eX23_variantOf_119 rfl 1 rfl ?_
      refine x_gI (o9 := x1) (ci := 15) (k9 := 11) (Cn := RX15) (T := TX15) (N := 14) C rfl wt_X15 (by decide) ww_201 eX23_variantOf_120 h (fun v23 h => ?_)
      refine x_ic_ge (tgt := 158) C eX23_variantOf_123 (by decide) h (fun h => ?_) (fun h => ?_)
      · refine x_sub [0, 1, 2] rfl ?_
        exact j_158 S x1 x2 h
      · refine x_tload_n C eX23_variantOf_126 rfl 0 rfl ?_
        refine x_cVi (As := []) (st := []) (n := 0) (frc := 1) (loc := 20) C h (fun S9 r9 e9 => k_X23_ok l D K m9 mr _ S9 r9 e9) ww_0 ww_13 ww_14 ww_15 ww_16 (by decide +kernel) rfl ⟨by omega, by omega⟩ (Nat.le_of_ble_eq_true rfl) eX23_variantOf_127 (fun S24 v25 h => ?_)
        refine x_if_eq (tgt := 158) C eX23_variantOf_130 (by decide) h (fun h => ?_) (fun h => ?_)
        · refine x_sub [0, 1, 2] rfl ?_
          exact j_158 S24 x1 x2 h
        · refine x_tload_n C eX23_variantOf_133 rfl 0 rfl ?_
          refine x_aload_n C eX23_variantOf_134 rfl 1 rfl ?_
          refine x_gR (o9 := x1) (ci := 15) (k9 := 9) (Cn := RX15) (T := TX15) (N := 14) C rfl wt_X15 (by decide) ww_199 eX23_variantOf_135 h (fun v26 h => ?_)
          refine x_iload C eX23_variantOf_138 4 rfl ?_
          refine x_aQ (t9 := 9) C rfl eX23_variantOf_140 h (fun v27 h => ?_)
          refine x_aload C eX23_variantOf_141 3 rfl ?_
          refine x_gR (o9 := x4) (ci := 17) (k9 := 2) (Cn := RX17) (T := TX17) (N := 3) C rfl wt_X17 (by decide) ww_68 eX23_variantOf_143 h (fun v28 h => ?_)
          refine x_iload C eX23_variantOf_146 4 rfl ?_
          refine x_aQ (t9 := 4) C rfl eX23_variantOf_148 h (fun v29 h => ?_)
          refine x_cVv (As := [va_rf v27, va_rf v29]) (st := []) (n := 2) (frc := 418 + 3 * d) (loc := 10018 + 72 * d) C h (fun S9 r9 e9 => k_X23_fits l D K m9 mr V d hV _ S9 v27 v29 r9 e9) ww_401 ww_403 ww_404 ww_405 ww_16 (by decide +kernel) rfl ⟨by omega, by omega⟩ (Nat.le_of_ble_eq_true rfl) eX23_variantOf_149 (fun S30 v31 h => ?_)
          refine x_iinc (j := 4) (v := 1) (lv2 := [(0, .ref m9), (1, va_rf x1), (2, .int x2), (4, va_rf x4)]) C eX23_variantOf_152 rfl (by decide) (by decide) rfl (oky rfl (oky (cat_rf x1) (oky rfl (oky (cat_rf x4) ok0)))) ?_
          refine x_goto (tgt := 117) C eX23_variantOf_155 (by decide) ?_
          refine x_sub [1, 2, 3, 4, 0] rfl ?_
          exact ih_117 S30 x1 x2 x4 (x5 + 1) h
  unfold f_variantOf at h
  refine x_tload_n C eX23_variantOf_0 rfl 0 rfl ?_
  refine x_aload_n C eX23_variantOf_1 rfl 1 rfl ?_
  refine x_gI (o9 := x1) (ci := 15) (k9 := 3) (Cn := RX15) (T := TX15) (N := 14) C rfl wt_X15 (by decide) ww_223 eX23_variantOf_2 h (fun v1 h => ?_)
  refine x_cVi (As := [.int v1]) (st := []) (n := 1) (frc := 2) (loc := 44) C h (fun S9 r9 e9 => k_X23_itemNamed l D K m9 mr _ S9 v1 r9 e9) ww_260 ww_271 ww_272 ww_273 ww_16 (by decide +kernel) rfl ⟨by omega, by omega⟩ (Nat.le_of_ble_eq_true rfl) eX23_variantOf_5 (fun S2 v3 h => ?_)
  refine x_istore_n (lv2 := [(0, .ref m9), (1, va_rf x1)]) C eX23_variantOf_8 rfl (by decide) rfl (oky rfl (oky (cat_rf x1) ok0)) ?_
  refine x_iload_n C eX23_variantOf_9 rfl 0 rfl ?_
  refine x_if_lt (tgt := 27) C eX23_variantOf_10 (by decide) h (fun h => ?_) (fun h => ?_)
  · refine x_sub [1, 2] rfl ?_
    exact j_27 S2 x1 h
  · refine x_tload_n C eX23_variantOf_13 rfl 1 rfl ?_
    refine x_mV (k9 := 11) C (by decide) ww_114 eX23_variantOf_14 rfl ?_
    refine x_iload_n C eX23_variantOf_17 rfl 0 rfl ?_
    refine x_rQ (r := 11) (t9 := 3) C (by decide) rfl (by decide) rfl eX23_variantOf_18 h (fun v4 h => ?_)
    refine x_gI (o9 := v4) (ci := 16) (k9 := 2) (Cn := RX16) (T := TX16) (N := 22) C rfl wt_X16 (by decide) ww_72 eX23_variantOf_19 h (fun v5 h => ?_)
    refine x_bipush (v := 11) C eX23_variantOf_22 (by decide) ?_
    refine x_ic_eq (tgt := 38) C eX23_variantOf_24 (by decide) h (fun h => ?_) (fun h => ?_)
    · refine x_tload_n C eX23_variantOf_38 rfl 1 rfl ?_
      refine x_tload_n C eX23_variantOf_39 rfl 1 rfl ?_
      refine x_mV (k9 := 11) C (by decide) ww_114 eX23_variantOf_40 rfl ?_
      refine x_iload_n C eX23_variantOf_43 rfl 0 rfl ?_
      refine x_rQ (r := 11) (t9 := 3) C (by decide) rfl (by decide) rfl eX23_variantOf_44 h (fun v6 h => ?_)
      refine x_aload_n C eX23_variantOf_45 rfl 2 rfl ?_
      refine x_gI (o9 := x1) (ci := 15) (k9 := 2) (Cn := RX15) (T := TX15) (N := 14) C rfl wt_X15 (by decide) ww_243 eX23_variantOf_46 h (fun v7 h => ?_)
      refine x_cVi (As := [va_rf v6, .int v7]) (st := []) (n := 2) (frc := 2) (loc := 44) C h (fun S9 r9 e9 => k_X23_fieldOf l D K m9 mr _ S9 v6 v7 r9 e9) ww_406 ww_408 ww_409 ww_410 ww_16 (by decide +kernel) rfl ⟨by omega, by omega⟩ (Nat.le_of_ble_eq_true rfl) eX23_variantOf_49 (fun S8 v9 h => ?_)
      refine x_istore_n (lv2 := [(2, .int v3), (0, .ref m9), (1, va_rf x1)]) C eX23_variantOf_52 rfl (by decide) rfl (oky rfl (oky rfl (oky (cat_rf x1) ok0))) ?_
      refine x_iload_n C eX23_variantOf_53 rfl 0 rfl ?_
      refine x_if_ge (tgt := 68) C eX23_variantOf_54 (by decide) h (fun h => ?_) (fun h => ?_)
      · refine x_tload_n C eX23_variantOf_68 rfl 2 rfl ?_
        refine x_mV (k9 := 11) C (by decide) ww_114 eX23_variantOf_69 rfl ?_
        refine x_iload_n C eX23_variantOf_72 rfl 1 rfl ?_
        refine x_rQ (r := 11) (t9 := 3) C (by decide) rfl (by decide) rfl eX23_variantOf_73 h (fun v10 h => ?_)
        refine x_gR (o9 := v10) (ci := 16) (k9 := 11) (Cn := RX16) (T := TX16) (N := 22) C rfl wt_X16 (by decide) ww_65 eX23_variantOf_74 h (fun v11 h => ?_)
        refine x_iload_n C eX23_variantOf_77 rfl 0 rfl ?_
        refine x_aQ (t9 := 13) C rfl eX23_variantOf_78 h (fun v12 h => ?_)
        refine x_astore (lv2 := [(3, .int v9), (2, .int v3), (0, .ref m9), (1, va_rf x1)]) C eX23_variantOf_79 (by decide) rfl (oky rfl (oky rfl (oky rfl (oky (cat_rf x1) ok0)))) ?_
        refine x_aload C eX23_variantOf_81 0 rfl ?_
        refine x_gI (o9 := v12) (ci := 17) (k9 := 0) (Cn := RX17) (T := TX17) (N := 3) C rfl wt_X17 (by decide) ww_69 eX23_variantOf_83 h (fun v13 h => ?_)
        refine x_aload_n C eX23_variantOf_86 rfl 4 rfl ?_
        refine x_gI (o9 := x1) (ci := 15) (k9 := 11) (Cn := RX15) (T := TX15) (N := 14) C rfl wt_X15 (by decide) ww_201 eX23_variantOf_87 h (fun v14 h => ?_)
        refine x_ic_eq (tgt := 104) C eX23_variantOf_90 (by decide) h (fun h => ?_) (fun h => ?_)
        · refine x_aload_n C eX23_variantOf_104 rfl 4 rfl ?_
          refine x_iload_n C eX23_variantOf_105 rfl 2 rfl ?_
          refine x_pI (o9 := x1) (ci := 15) (k9 := 4) (Cn := RX15) (T := TX15) (N := 14) C rfl wt_X15 tyX15_ok nmX15 (by decide) ww_359 rfl (by decide +kernel) eX23_variantOf_106 h (fun S15 h => ?_)
          refine x_aload_n C eX23_variantOf_109 rfl 4 rfl ?_
          refine x_iload_n C eX23_variantOf_110 rfl 1 rfl ?_
          refine x_pI (o9 := x1) (ci := 15) (k9 := 5) (Cn := RX15) (T := TX15) (N := 14) C rfl wt_X15 tyX15_ok nmX15 (by decide) ww_412 rfl (by decide +kernel) eX23_variantOf_111 h (fun S16 h => ?_)
          refine x_iconst (v := 0) C eX23_variantOf_114 (by decide) ?_
          refine x_istore (lv2 := [(4, va_rf v12), (3, .int v9), (2, .int v3), (0, .ref m9), (1, va_rf x1)]) C eX23_variantOf_115 (by decide) rfl (oky (cat_rf v12) (oky rfl (oky rfl (oky rfl (oky (cat_rf x1) ok0))))) ?_
          refine x_sub [4, 5, 3, 1, 0] rfl ?_
          exact j_117 bigN S16 x1 v3 v12 0 h
        · refine x_tload_n C eX23_variantOf_93 rfl 3 rfl ?_
          refine x_aload_n C eX23_variantOf_94 rfl 4 rfl ?_
          refine x_iconst (v := 4) C eX23_variantOf_95 (by decide) ?_
          refine x_aload_n C eX23_variantOf_96 rfl 4 rfl ?_
          refine x_gI (o9 := x1) (ci := 15) (k9 := 1) (Cn := RX15) (T := TX15) (N := 14) C rfl wt_X15 (by decide) ww_211 eX23_variantOf_97 h (fun v17 h => ?_)
          refine x_cVr (As := [va_rf x1, .int 4, .int v17]) (st := []) (n := 3) (frc := 4) (loc := 85) C h (fun S9 r9 e9 => k_X23_wrong l D K m9 mr _ S9 x1 4 v17 r9 e9) ww_339 ww_348 ww_349 ww_350 ww_16 (by decide +kernel) rfl ⟨by omega, by omega⟩ (Nat.le_of_ble_eq_true rfl) eX23_variantOf_100 (fun S18 v19 h => ?_)
          exact x_aret C rfl (Or.inl ⟨_, rfl⟩) rfl eX23_variantOf_103 h
      · refine x_tload_n C eX23_variantOf_57 rfl 2 rfl ?_
        refine x_aload_n C eX23_variantOf_58 rfl 3 rfl ?_
        refine x_iconst (v := 3) C eX23_variantOf_59 (by decide) ?_
        refine x_aload_n C eX23_variantOf_60 rfl 3 rfl ?_
        refine x_gI (o9 := x1) (ci := 15) (k9 := 2) (Cn := RX15) (T := TX15) (N := 14) C rfl wt_X15 (by decide) ww_243 eX23_variantOf_61 h (fun v20 h => ?_)
        refine x_cVr (As := [va_rf x1, .int 3, .int v20]) (st := []) (n := 3) (frc := 4) (loc := 85) C h (fun S9 r9 e9 => k_X23_wrong l D K m9 mr _ S9 x1 3 v20 r9 e9) ww_339 ww_348 ww_349 ww_350 ww_16 (by decide +kernel) rfl ⟨by omega, by omega⟩ (Nat.le_of_ble_eq_true rfl) eX23_variantOf_64 (fun S21 v22 h => ?_)
        exact x_aret C rfl (Or.inl ⟨_, rfl⟩) rfl eX23_variantOf_67 h
    · refine x_sub [1, 2] rfl ?_
      exact j_27 S2 x1 h
