set_option maxRecDepth 20000 in
set_option maxHeartbeats 4000000 in
theorem k_X23_made (l : Launch) (D : va_G) (K : Ky) (m9 : Nat) (mr : Nat → Nat) (V : Sg → Option Nat → Option (Sg × Option Nat)) (d : Nat) (hV : ∀ (S0 Sf : Sg) (x1 : Option Nat) (rf : Option Nat), V S0 x1 = some (Sf, rf) → CT l D K m9 mr yX23_value (Cond.code yX23_value cX23_value 3 (some (.object "OwnedPlacesModel$Type"))) (417 + 3 * d) (9996 + 72 * d) S0 Sf [.ref m9, va_rf x1] (some (va_rf rf))) (S0 Sf : Sg) (x1 : Option Nat) (rf : Option Nat) (h : f_made K V S0 x1 = some (Sf, rf)) : CT l D K m9 mr yX23_made (Cond.code yX23_made cX23_made 8 (some (.object "OwnedPlacesModel$Type"))) (419 + 3 * d) (10041 + 72 * d) S0 Sf [.ref m9, va_rf x1] (some (va_rf rf)) := by
  refine x_start (cc := cX23_made) (lv := [(0, .ref m9), (1, va_rf x1)]) rfl rfl (by decide) (by simp [lv_args, cat_rf, cat_i, cat_l, cat_a]) (by simp [lg_sl, cat_rf, cat_i, cat_l, cat_a]) (fun p e R s m args below meth c Q A C => ?_)
  have j_27 : ∀ (S : Sg) (x1 : Option Nat), f_made_27 K V S x1 = some (Sf, rf) → WX p l e R s m args below meth c Q D A K m9 mr 8 S0 S 27 [(0, .ref m9), (1, va_rf x1)] [] := by
    intro S x1 h
    unfold f_made_27 at h
    refine x_tload_n C eX23_made_27 rfl 0 rfl ?_
    refine x_aload_n C eX23_made_28 rfl 1 rfl ?_
    refine x_iconst (v := 3) C eX23_made_29 (by decide) ?_
    refine x_aload_n C eX23_made_30 rfl 1 rfl ?_
    refine x_gI (o9 := x1) (ci := 15) (k9 := 3) (Cn := RX15) (T := TX15) (N := 14) C rfl wt_X15 (by decide) ww_223 eX23_made_31 h (fun v42 h => ?_)
    refine x_cVr (As := [va_rf x1, .int 3, .int v42]) (st := []) (n := 3) (frc := 4) (loc := 85) C h (fun S9 r9 e9 => k_X23_wrong l D K m9 mr _ S9 x1 3 v42 r9 e9) ww_339 ww_348 ww_349 ww_350 ww_16 (by decide +kernel) rfl ⟨by omega, by omega⟩ (Nat.le_of_ble_eq_true rfl) eX23_made_34 (fun S43 v44 h => ?_)
    exact x_aret C rfl (Or.inl ⟨_, rfl⟩) rfl eX23_made_37 h
  have j_202 : ∀ (S : Sg) (x1 : Option Nat) (x2 : Int32), f_made_202 K V S x1 x2 = some (Sf, rf) → WX p l e R s m args below meth c Q D A K m9 mr 8 S0 S 202 [(0, .ref m9), (1, va_rf x1), (2, .int x2)] [] := by
    intro S x1 x2 h
    unfold f_made_202 at h
    refine x_tload_n C eX23_made_202 rfl 0 rfl ?_
    refine x_aload_n C eX23_made_203 rfl 1 rfl ?_
    refine x_tload_n C eX23_made_204 rfl 0 rfl ?_
    refine x_iconst (v := 3) C eX23_made_205 (by decide) ?_
    refine x_iload_n C eX23_made_206 rfl 2 rfl ?_
    refine x_null C eX23_made_207 ?_
    refine x_cVr (As := [.int 3, .int x2, va_rf none]) (st := [va_rf x1, .ref m9]) (n := 3) (frc := 2) (loc := 40) C h (fun S9 r9 e9 => k_X23_type l D K m9 mr _ S9 3 x2 none r9 e9) ww_244 ww_255 ww_256 ww_257 ww_16 (by decide +kernel) rfl ⟨by omega, by omega⟩ (Nat.le_of_ble_eq_true rfl) eX23_made_208 (fun S38 v39 h => ?_)
    refine x_cVr (As := [va_rf x1, va_rf v39]) (st := []) (n := 2) (frc := 1) (loc := 20) C h (fun S9 r9 e9 => k_X23_told l D K m9 mr _ S9 x1 v39 r9 e9) ww_337 ww_340 ww_341 ww_342 ww_16 (by decide +kernel) rfl ⟨by omega, by omega⟩ (Nat.le_of_ble_eq_true rfl) eX23_made_211 (fun S40 v41 h => ?_)
    exact x_aret C rfl (Or.inl ⟨_, rfl⟩) rfl eX23_made_214 h
  have j_175 : ∀ (S : Sg) (x1 : Option Nat) (x2 : Int32) (x3 : Option Nat), f_made_175 K V S x1 x2 x3 = some (Sf, rf) → WX p l e R s m args below meth c Q D A K m9 mr 8 S0 S 175 [(0, .ref m9), (1, va_rf x1), (2, .int x2), (3, va_rf x3)] [] := by
    intro S x1 x2 x3 h
    unfold f_made_175 at h
    refine x_tload_n C eX23_made_175 rfl 0 rfl ?_
    refine x_cVi (As := []) (st := []) (n := 0) (frc := 1) (loc := 20) C h (fun S9 r9 e9 => k_X23_ok l D K m9 mr _ S9 r9 e9) ww_0 ww_13 ww_14 ww_15 ww_16 (by decide +kernel) rfl ⟨by omega, by omega⟩ (Nat.le_of_ble_eq_true rfl) eX23_made_176 (fun S31 v32 h => ?_)
    refine x_if_eq (tgt := 202) C eX23_made_179 (by decide) h (fun h => ?_) (fun h => ?_)
    · refine x_sub [0, 1, 2] rfl ?_
      exact j_202 S31 x1 x2 h
    · refine x_aload_n C eX23_made_182 rfl 1 rfl ?_
      refine x_gI (o9 := x1) (ci := 15) (k9 := 11) (Cn := RX15) (T := TX15) (N := 14) C rfl wt_X15 (by decide) ww_201 eX23_made_183 h (fun v33 h => ?_)
      refine x_aload_n C eX23_made_186 rfl 3 rfl ?_
      refine x_gI (o9 := x3) (ci := 16) (k9 := 3) (Cn := RX16) (T := TX16) (N := 22) C rfl wt_X16 (by decide) ww_51 eX23_made_187 h (fun v34 h => ?_)
      refine x_ic_ge (tgt := 202) C eX23_made_190 (by decide) h (fun h => ?_) (fun h => ?_)
      · refine x_sub [0, 1, 2] rfl ?_
        exact j_202 S31 x1 x2 h
      · refine x_tload_n C eX23_made_193 rfl 0 rfl ?_
        refine x_iconst (v := 4) C eX23_made_194 (by decide) ?_
        refine x_aload_n C eX23_made_195 rfl 1 rfl ?_
        refine x_gI (o9 := x1) (ci := 15) (k9 := 1) (Cn := RX15) (T := TX15) (N := 14) C rfl wt_X15 (by decide) ww_211 eX23_made_196 h (fun v35 h => ?_)
        refine x_cVv (As := [.int 4, .int v35]) (st := []) (n := 2) (frc := 1) (loc := 20) C h (fun S9 r9 e9 => k_X23_fail l D K m9 mr _ S9 4 v35 r9 e9) ww_2 ww_20 ww_21 ww_22 ww_16 (by decide +kernel) rfl ⟨by omega, by omega⟩ (Nat.le_of_ble_eq_true rfl) eX23_made_199 (fun S36 v37 h => ?_)
        refine x_sub [0, 1, 2] rfl ?_
        exact j_202 S36 x1 x2 h
  have j_53 : ∀ (n_53 : Nat) (S : Sg) (x1 : Option Nat) (x2 : Int32) (x3 : Option Nat) (x4 : Int32), f_made_53 K V n_53 S x1 x2 x3 x4 = some (Sf, rf) → WX p l e R s m args below meth c Q D A K m9 mr 8 S0 S 53 [(0, .ref m9), (1, va_rf x1), (2, .int x2), (3, va_rf x3), (4, .int x4)] [] := by
    intro n_53
    induction n_53 with
    | zero => intro S x1 x2 x3 x4 h; unfold f_made_53 at h; cases h
    | succ n_53 ih_53 =>
      intro S x1 x2 x3 x4 h
      have j_169 : ∀ (S : Sg) (x1 : Option Nat) (x2 : Int32) (x3 : Option Nat) (x4 : Int32), f_made_169 K V (f_made_53 K V n_53) S x1 x2 x3 x4 = some (Sf, rf) → WX p l e R s m args below meth c Q D A K m9 mr 8 S0 S 169 [(0, .ref m9), (1, va_rf x1), (2, .int x2), (3, va_rf x3), (4, .int x4)] [] := by
        intro S x1 x2 x3 x4 h
        unfold f_made_169 at h
        refine x_iinc (j := 4) (v := 1) (lv2 := [(0, .ref m9), (1, va_rf x1), (2, .int x2), (3, va_rf x3)]) C eX23_made_169 rfl (by decide) (by decide) rfl (oky rfl (oky (cat_rf x1) (oky rfl (oky (cat_rf x3) ok0)))) ?_
        refine x_goto (tgt := 53) C eX23_made_172 (by decide) ?_
        refine x_sub [1, 2, 3, 4, 0] rfl ?_
        exact ih_53 S x1 x2 x3 (x4 + 1) h
      have j_136 : ∀ (S : Sg) (x1 : Option Nat) (x2 : Int32) (x3 : Option Nat) (x4 : Int32), f_made_136 K V (f_made_53 K V n_53) S x1 x2 x3 x4 = some (Sf, rf) → WX p l e R s m args below meth c Q D A K m9 mr 8 S0 S 136 [(0, .ref m9), (1, va_rf x1), (2, .int x2), (3, va_rf x3), (4, .int x4)] [] := by
        intro S x1 x2 x3 x4 h
        unfold f_made_136 at h
        refine x_tload_n C eX23_made_136 rfl 0 rfl ?_
        refine x_iconst (v := 3) C eX23_made_137 (by decide) ?_
        refine x_aload_n C eX23_made_138 rfl 1 rfl ?_
        refine x_gR (o9 := x1) (ci := 15) (k9 := 10) (Cn := RX15) (T := TX15) (N := 14) C rfl wt_X15 (by decide) ww_200 eX23_made_139 h (fun v27 h => ?_)
        refine x_iload C eX23_made_142 4 rfl ?_
        refine x_aI C eX23_made_144 h (fun v28 h => ?_)
        refine x_cVv (As := [.int 3, .int v28]) (st := []) (n := 2) (frc := 1) (loc := 20) C h (fun S9 r9 e9 => k_X23_fail l D K m9 mr _ S9 3 v28 r9 e9) ww_2 ww_20 ww_21 ww_22 ww_16 (by decide +kernel) rfl ⟨by omega, by omega⟩ (Nat.le_of_ble_eq_true rfl) eX23_made_145 (fun S29 v30 h => ?_)
        refine x_goto (tgt := 169) C eX23_made_148 (by decide) ?_
        refine x_sub [0, 1, 2, 3, 4] rfl ?_
        exact j_169 S29 x1 x2 x3 x4 h
      have j_89 : ∀ (n_89 : Nat) (S : Sg) (x1 : Option Nat) (x2 : Int32) (x3 : Option Nat) (x4 : Int32) (x5 : Int32) (x6 : Int32) (x7 : Int32), f_made_89 K V (f_made_53 K V n_53) n_89 S x1 x2 x3 x4 x5 x6 x7 = some (Sf, rf) → WX p l e R s m args below meth c Q D A K m9 mr 8 S0 S 89 [(0, .ref m9), (1, va_rf x1), (2, .int x2), (3, va_rf x3), (4, .int x4), (5, .int x5), (6, .int x6), (7, .int x7)] [] := by
        intro n_89
        induction n_89 with
        | zero => intro S x1 x2 x3 x4 x5 x6 x7 h; unfold f_made_89 at h; cases h
        | succ n_89 ih_89 =>
          intro S x1 x2 x3 x4 x5 x6 x7 h
          have j_120 : ∀ (S : Sg) (x1 : Option Nat) (x2 : Int32) (x3 : Option Nat) (x4 : Int32) (x5 : Int32) (x6 : Int32) (x7 : Int32), f_made_120 K V (f_made_53 K V n_53) (f_made_89 K V (f_made_53 K V n_53) n_89) S x1 x2 x3 x4 x5 x6 x7 = some (Sf, rf) → WX p l e R s m args below meth c Q D A K m9 mr 8 S0 S 120 [(0, .ref m9), (1, va_rf x1), (2, .int x2), (3, va_rf x3), (4, .int x4), (5, .int x5), (6, .int x6), (7, .int x7)] [] := by
            intro S x1 x2 x3 x4 x5 x6 x7 h
            unfold f_made_120 at h
            refine x_iinc (j := 7) (v := 1) (lv2 := [(0, .ref m9), (1, va_rf x1), (2, .int x2), (3, va_rf x3), (4, .int x4), (5, .int x5), (6, .int x6)]) C eX23_made_120 rfl (by decide) (by decide) rfl (oky rfl (oky (cat_rf x1) (oky rfl (oky (cat_rf x3) (oky rfl (oky rfl (oky rfl ok0))))))) ?_
            refine x_goto (tgt := 89) C eX23_made_123 (by decide) ?_
            refine x_sub [1, 2, 3, 4, 5, 6, 7, 0] rfl ?_
            exact ih_89 S x1 x2 x3 x4 x5 x6 (x7 + 1) h
          unfold f_made_89 at h
          refine x_iload C eX23_made_89 7 rfl ?_
          refine x_iload C eX23_made_91 4 rfl ?_
          refine x_ic_ge (tgt := 126) C eX23_made_93 (by decide) h (fun h => ?_) (fun h => ?_)
          · refine x_iload C eX23_made_126 5 rfl ?_
            refine x_if_lt (tgt := 136) C eX23_made_128 (by decide) h (fun h => ?_) (fun h => ?_)
            · refine x_sub [0, 1, 2, 3, 4] rfl ?_
              exact j_136 S x1 x2 x3 x4 h
            · refine x_iload C eX23_made_131 6 rfl ?_
              refine x_if_eq (tgt := 151) C eX23_made_133 (by decide) h (fun h => ?_) (fun h => ?_)
              · refine x_tload_n C eX23_made_151 rfl 0 rfl ?_
                refine x_aload_n C eX23_made_152 rfl 1 rfl ?_
                refine x_gR (o9 := x1) (ci := 15) (k9 := 9) (Cn := RX15) (T := TX15) (N := 14) C rfl wt_X15 (by decide) ww_199 eX23_made_153 h (fun v15 h => ?_)
                refine x_iload C eX23_made_156 4 rfl ?_
                refine x_aQ (t9 := 9) C rfl eX23_made_158 h (fun v16 h => ?_)
                refine x_aload_n C eX23_made_159 rfl 3 rfl ?_
                refine x_gR (o9 := x3) (ci := 16) (k9 := 10) (Cn := RX16) (T := TX16) (N := 22) C rfl wt_X16 (by decide) ww_73 eX23_made_160 h (fun v17 h => ?_)
                refine x_iload C eX23_made_163 5 rfl ?_
                refine x_aQ (t9 := 4) C rfl eX23_made_165 h (fun v18 h => ?_)
                refine x_cVv (As := [va_rf v16, va_rf v18]) (st := []) (n := 2) (frc := 418 + 3 * d) (loc := 10018 + 72 * d) C h (fun S9 r9 e9 => k_X23_fits l D K m9 mr V d hV _ S9 v16 v18 r9 e9) ww_401 ww_403 ww_404 ww_405 ww_16 (by decide +kernel) rfl ⟨by omega, by omega⟩ (Nat.le_of_ble_eq_true rfl) eX23_made_166 (fun S19 v20 h => ?_)
                refine x_sub [0, 1, 2, 3, 4] rfl ?_
                exact j_169 S19 x1 x2 x3 x4 h
              · refine x_sub [0, 1, 2, 3, 4] rfl ?_
                exact j_136 S x1 x2 x3 x4 h
          · refine x_tload_n C eX23_made_96 rfl 0 rfl ?_
            refine x_aload_n C eX23_made_97 rfl 1 rfl ?_
            refine x_gR (o9 := x1) (ci := 15) (k9 := 10) (Cn := RX15) (T := TX15) (N := 14) C rfl wt_X15 (by decide) ww_200 eX23_made_98 h (fun v21 h => ?_)
            refine x_iload C eX23_made_101 7 rfl ?_
            refine x_aI C eX23_made_103 h (fun v22 h => ?_)
            refine x_aload_n C eX23_made_104 rfl 1 rfl ?_
            refine x_gR (o9 := x1) (ci := 15) (k9 := 10) (Cn := RX15) (T := TX15) (N := 14) C rfl wt_X15 (by decide) ww_200 eX23_made_105 h (fun v23 h => ?_)
            refine x_iload C eX23_made_108 4 rfl ?_
            refine x_aI C eX23_made_110 h (fun v24 h => ?_)
            refine x_cVi (As := [.int v22, .int v24]) (st := []) (n := 2) (frc := 1) (loc := 20) C h (fun S9 r9 e9 => k_X23_sameName l D K m9 mr _ S9 v22 v24 r9 e9) ww_5 ww_261 ww_262 ww_263 ww_16 (by decide +kernel) rfl ⟨by omega, by omega⟩ (Nat.le_of_ble_eq_true rfl) eX23_made_111 (fun S25 v26 h => ?_)
            refine x_if_eq (tgt := 120) C eX23_made_114 (by decide) h (fun h => ?_) (fun h => ?_)
            · refine x_sub [0, 1, 2, 3, 4, 5, 6, 7] rfl ?_
              exact j_120 S25 x1 x2 x3 x4 x5 x6 x7 h
            · refine x_iconst (v := 1) C eX23_made_117 (by decide) ?_
              refine x_istore (lv2 := [(0, .ref m9), (1, va_rf x1), (2, .int x2), (3, va_rf x3), (4, .int x4), (5, .int x5), (7, .int x7)]) C eX23_made_118 (by decide) rfl (oky rfl (oky (cat_rf x1) (oky rfl (oky (cat_rf x3) (oky rfl (oky rfl (oky rfl ok0))))))) ?_
              refine x_sub [1, 2, 3, 4, 5, 6, 0, 7] rfl ?_
              exact j_120 S25 x1 x2 x3 x4 x5 1 x7 h
      unfold f_made_53 at h
      refine x_iload C eX23_made_53 4 rfl ?_
      refine x_aload_n C eX23_made_55 rfl 1 rfl ?_
      refine x_gI (o9 := x1) (ci := 15) (k9 := 11) (Cn := RX15) (T := TX15) (N := 14) C rfl wt_X15 (by decide) ww_201 eX23_made_56 h (fun v8 h => ?_)
      refine x_ic_ge (tgt := 175) C eX23_made_59 (by decide) h (fun h => ?_) (fun h => ?_)
      · refine x_sub [0, 1, 2, 3] rfl ?_
        exact j_175 S x1 x2 x3 h
      · refine x_tload_n C eX23_made_62 rfl 0 rfl ?_
        refine x_cVi (As := []) (st := []) (n := 0) (frc := 1) (loc := 20) C h (fun S9 r9 e9 => k_X23_ok l D K m9 mr _ S9 r9 e9) ww_0 ww_13 ww_14 ww_15 ww_16 (by decide +kernel) rfl ⟨by omega, by omega⟩ (Nat.le_of_ble_eq_true rfl) eX23_made_63 (fun S9 v10 h => ?_)
        refine x_if_eq (tgt := 175) C eX23_made_66 (by decide) h (fun h => ?_) (fun h => ?_)
        · refine x_sub [0, 1, 2, 3] rfl ?_
          exact j_175 S9 x1 x2 x3 h
        · refine x_tload_n C eX23_made_69 rfl 0 rfl ?_
          refine x_aload_n C eX23_made_70 rfl 3 rfl ?_
          refine x_aload_n C eX23_made_71 rfl 1 rfl ?_
          refine x_gR (o9 := x1) (ci := 15) (k9 := 10) (Cn := RX15) (T := TX15) (N := 14) C rfl wt_X15 (by decide) ww_200 eX23_made_72 h (fun v11 h => ?_)
          refine x_iload C eX23_made_75 4 rfl ?_
          refine x_aI C eX23_made_77 h (fun v12 h => ?_)
          refine x_cVi (As := [va_rf x3, .int v12]) (st := []) (n := 2) (frc := 2) (loc := 44) C h (fun S9 r9 e9 => k_X23_fieldOf l D K m9 mr _ S9 x3 v12 r9 e9) ww_406 ww_408 ww_409 ww_410 ww_16 (by decide +kernel) rfl ⟨by omega, by omega⟩ (Nat.le_of_ble_eq_true rfl) eX23_made_78 (fun S13 v14 h => ?_)
          refine x_istore (lv2 := [(0, .ref m9), (1, va_rf x1), (2, .int x2), (3, va_rf x3), (4, .int x4)]) C eX23_made_81 (by decide) rfl (oky rfl (oky (cat_rf x1) (oky rfl (oky (cat_rf x3) (oky rfl ok0))))) ?_
          refine x_iconst (v := 0) C eX23_made_83 (by decide) ?_
          refine x_istore (lv2 := [(5, .int v14), (0, .ref m9), (1, va_rf x1), (2, .int x2), (3, va_rf x3), (4, .int x4)]) C eX23_made_84 (by decide) rfl (oky rfl (oky rfl (oky (cat_rf x1) (oky rfl (oky (cat_rf x3) (oky rfl ok0)))))) ?_
          refine x_iconst (v := 0) C eX23_made_86 (by decide) ?_
          refine x_istore (lv2 := [(6, .int 0), (5, .int v14), (0, .ref m9), (1, va_rf x1), (2, .int x2), (3, va_rf x3), (4, .int x4)]) C eX23_made_87 (by decide) rfl (oky rfl (oky rfl (oky rfl (oky (cat_rf x1) (oky rfl (oky (cat_rf x3) (oky rfl ok0))))))) ?_
          refine x_sub [3, 4, 5, 6, 7, 2, 1, 0] rfl ?_
          exact j_89 bigN S13 x1 x2 x3 x4 v14 0 0 h
  unfold f_made at h
  refine x_tload_n C eX23_made_0 rfl 0 rfl ?_
  refine x_aload_n C eX23_made_1 rfl 1 rfl ?_
  refine x_gI (o9 := x1) (ci := 15) (k9 := 3) (Cn := RX15) (T := TX15) (N := 14) C rfl wt_X15 (by decide) ww_223 eX23_made_2 h (fun v1 h => ?_)
  refine x_cVi (As := [.int v1]) (st := []) (n := 1) (frc := 2) (loc := 44) C h (fun S9 r9 e9 => k_X23_itemNamed l D K m9 mr _ S9 v1 r9 e9) ww_260 ww_271 ww_272 ww_273 ww_16 (by decide +kernel) rfl ⟨by omega, by omega⟩ (Nat.le_of_ble_eq_true rfl) eX23_made_5 (fun S2 v3 h => ?_)
  refine x_istore_n (lv2 := [(0, .ref m9), (1, va_rf x1)]) C eX23_made_8 rfl (by decide) rfl (oky rfl (oky (cat_rf x1) ok0)) ?_
  refine x_iload_n C eX23_made_9 rfl 0 rfl ?_
  refine x_if_lt (tgt := 27) C eX23_made_10 (by decide) h (fun h => ?_) (fun h => ?_)
  · refine x_sub [1, 2] rfl ?_
    exact j_27 S2 x1 h
  · refine x_tload_n C eX23_made_13 rfl 1 rfl ?_
    refine x_mV (k9 := 11) C (by decide) ww_114 eX23_made_14 rfl ?_
    refine x_iload_n C eX23_made_17 rfl 0 rfl ?_
    refine x_rQ (r := 11) (t9 := 3) C (by decide) rfl (by decide) rfl eX23_made_18 h (fun v4 h => ?_)
    refine x_gI (o9 := v4) (ci := 16) (k9 := 2) (Cn := RX16) (T := TX16) (N := 22) C rfl wt_X16 (by decide) ww_72 eX23_made_19 h (fun v5 h => ?_)
    refine x_bipush (v := 10) C eX23_made_22 (by decide) ?_
    refine x_ic_eq (tgt := 38) C eX23_made_24 (by decide) h (fun h => ?_) (fun h => ?_)
    · refine x_tload_n C eX23_made_38 rfl 1 rfl ?_
      refine x_mV (k9 := 11) C (by decide) ww_114 eX23_made_39 rfl ?_
      refine x_iload_n C eX23_made_42 rfl 0 rfl ?_
      refine x_rQ (r := 11) (t9 := 3) C (by decide) rfl (by decide) rfl eX23_made_43 h (fun v6 h => ?_)
      refine x_astore_n (lv2 := [(2, .int v3), (0, .ref m9), (1, va_rf x1)]) C eX23_made_44 rfl (by decide) rfl (oky rfl (oky rfl (oky (cat_rf x1) ok0))) ?_
      refine x_aload_n C eX23_made_45 rfl 3 rfl ?_
      refine x_iload_n C eX23_made_46 rfl 1 rfl ?_
      refine x_pI (o9 := x1) (ci := 15) (k9 := 4) (Cn := RX15) (T := TX15) (N := 14) C rfl wt_X15 tyX15_ok nmX15 (by decide) ww_359 rfl (by decide +kernel) eX23_made_47 h (fun S7 h => ?_)
      refine x_iconst (v := 0) C eX23_made_50 (by decide) ?_
      refine x_istore (lv2 := [(3, va_rf v6), (2, .int v3), (0, .ref m9), (1, va_rf x1)]) C eX23_made_51 (by decide) rfl (oky (cat_rf v6) (oky rfl (oky rfl (oky (cat_rf x1) ok0)))) ?_
      refine x_sub [3, 4, 2, 1, 0] rfl ?_
      exact j_53 bigN S7 x1 v3 v6 0 h
    · refine x_sub [1, 2] rfl ?_
      exact j_27 S2 x1 h
set_option maxRecDepth 20000 in
set_option maxHeartbeats 4000000 in
theorem k_X23_call (l : Launch) (D : va_G) (K : Ky) (m9 : Nat) (mr : Nat → Nat) (V : Sg → Option Nat → Option (Sg × Option Nat)) (d : Nat) (hV : ∀ (S0 Sf : Sg) (x1 : Option Nat) (rf : Option Nat), V S0 x1 = some (Sf, rf) → CT l D K m9 mr yX23_value (Cond.code yX23_value cX23_value 3 (some (.object "OwnedPlacesModel$Type"))) (417 + 3 * d) (9996 + 72 * d) S0 Sf [.ref m9, va_rf x1] (some (va_rf rf))) (S0 Sf : Sg) (x1 : Option Nat) (rf : Option Nat) (h : f_call K V S0 x1 = some (Sf, rf)) : CT l D K m9 mr yX23_call (Cond.code yX23_call cX23_call 4 (some (.object "OwnedPlacesModel$Type"))) (419 + 3 * d) (10041 + 72 * d) S0 Sf [.ref m9, va_rf x1] (some (va_rf rf)) := by
  refine x_start (cc := cX23_call) (lv := [(0, .ref m9), (1, va_rf x1)]) rfl rfl (by decide) (by simp [lv_args, cat_rf, cat_i, cat_l, cat_a]) (by simp [lg_sl, cat_rf, cat_i, cat_l, cat_a]) (fun p e R s m args below meth c Q A C => ?_)
  have j_27 : ∀ (S : Sg) (x1 : Option Nat), f_call_27 K V S x1 = some (Sf, rf) → WX p l e R s m args below meth c Q D A K m9 mr 4 S0 S 27 [(0, .ref m9), (1, va_rf x1)] [] := by
    intro S x1 h
    unfold f_call_27 at h
    refine x_tload_n C eX23_call_27 rfl 0 rfl ?_
    refine x_aload_n C eX23_call_28 rfl 1 rfl ?_
    refine x_iconst (v := 3) C eX23_call_29 (by decide) ?_
    refine x_aload_n C eX23_call_30 rfl 1 rfl ?_
    refine x_gI (o9 := x1) (ci := 15) (k9 := 1) (Cn := RX15) (T := TX15) (N := 14) C rfl wt_X15 (by decide) ww_211 eX23_call_31 h (fun v27 h => ?_)
    refine x_cVr (As := [va_rf x1, .int 3, .int v27]) (st := []) (n := 3) (frc := 4) (loc := 85) C h (fun S9 r9 e9 => k_X23_wrong l D K m9 mr _ S9 x1 3 v27 r9 e9) ww_339 ww_348 ww_349 ww_350 ww_16 (by decide +kernel) rfl ⟨by omega, by omega⟩ (Nat.le_of_ble_eq_true rfl) eX23_call_34 (fun S28 v29 h => ?_)
    exact x_aret C rfl (Or.inl ⟨_, rfl⟩) rfl eX23_call_37 h
  have j_114 : ∀ (S : Sg) (x1 : Option Nat) (x2 : Int32), f_call_114 K V S x1 x2 = some (Sf, rf) → WX p l e R s m args below meth c Q D A K m9 mr 4 S0 S 114 [(0, .ref m9), (1, va_rf x1), (2, .int x2)] [] := by
    intro S x1 x2 h
    unfold f_call_114 at h
    refine x_tload_n C eX23_call_114 rfl 0 rfl ?_
    refine x_aload_n C eX23_call_115 rfl 1 rfl ?_
    refine x_tload_n C eX23_call_116 rfl 0 rfl ?_
    refine x_mV (k9 := 11) C (by decide) ww_114 eX23_call_117 rfl ?_
    refine x_iload_n C eX23_call_120 rfl 2 rfl ?_
    refine x_rQ (r := 11) (t9 := 3) C (by decide) rfl (by decide) rfl eX23_call_121 h (fun v23 h => ?_)
    refine x_gR (o9 := v23) (ci := 16) (k9 := 15) (Cn := RX16) (T := TX16) (N := 22) C rfl wt_X16 (by decide) ww_285 eX23_call_122 h (fun v24 h => ?_)
    refine x_cVr (As := [va_rf x1, va_rf v24]) (st := []) (n := 2) (frc := 1) (loc := 20) C h (fun S9 r9 e9 => k_X23_told l D K m9 mr _ S9 x1 v24 r9 e9) ww_337 ww_340 ww_341 ww_342 ww_16 (by decide +kernel) rfl ⟨by omega, by omega⟩ (Nat.le_of_ble_eq_true rfl) eX23_call_125 (fun S25 v26 h => ?_)
    exact x_aret C rfl (Or.inl ⟨_, rfl⟩) rfl eX23_call_128 h
  have j_72 : ∀ (n_72 : Nat) (S : Sg) (x1 : Option Nat) (x2 : Int32) (x3 : Int32), f_call_72 K V n_72 S x1 x2 x3 = some (Sf, rf) → WX p l e R s m args below meth c Q D A K m9 mr 4 S0 S 72 [(0, .ref m9), (1, va_rf x1), (2, .int x2), (3, .int x3)] [] := by
    intro n_72
    induction n_72 with
    | zero => intro S x1 x2 x3 h; unfold f_call_72 at h; cases h
    | succ n_72 ih_72 =>
      intro S x1 x2 x3 h
      unfold f_call_72 at h
      refine x_iload_n C eX23_call_72 rfl 3 rfl ?_
      refine x_aload_n C eX23_call_73 rfl 1 rfl ?_
      refine x_gI (o9 := x1) (ci := 15) (k9 := 11) (Cn := RX15) (T := TX15) (N := 14) C rfl wt_X15 (by decide) ww_201 eX23_call_74 h (fun v13 h => ?_)
      refine x_ic_ge (tgt := 114) C eX23_call_77 (by decide) h (fun h => ?_) (fun h => ?_)
      · refine x_sub [0, 1, 2] rfl ?_
        exact j_114 S x1 x2 h
      · refine x_tload_n C eX23_call_80 rfl 0 rfl ?_
        refine x_cVi (As := []) (st := []) (n := 0) (frc := 1) (loc := 20) C h (fun S9 r9 e9 => k_X23_ok l D K m9 mr _ S9 r9 e9) ww_0 ww_13 ww_14 ww_15 ww_16 (by decide +kernel) rfl ⟨by omega, by omega⟩ (Nat.le_of_ble_eq_true rfl) eX23_call_81 (fun S14 v15 h => ?_)
        refine x_if_eq (tgt := 114) C eX23_call_84 (by decide) h (fun h => ?_) (fun h => ?_)
        · refine x_sub [0, 1, 2] rfl ?_
          exact j_114 S14 x1 x2 h
        · refine x_tload_n C eX23_call_87 rfl 0 rfl ?_
          refine x_aload_n C eX23_call_88 rfl 1 rfl ?_
          refine x_gR (o9 := x1) (ci := 15) (k9 := 9) (Cn := RX15) (T := TX15) (N := 14) C rfl wt_X15 (by decide) ww_199 eX23_call_89 h (fun v16 h => ?_)
          refine x_iload_n C eX23_call_92 rfl 3 rfl ?_
          refine x_aQ (t9 := 9) C rfl eX23_call_93 h (fun v17 h => ?_)
          refine x_tload_n C eX23_call_94 rfl 0 rfl ?_
          refine x_mV (k9 := 11) C (by decide) ww_114 eX23_call_95 rfl ?_
          refine x_iload_n C eX23_call_98 rfl 2 rfl ?_
          refine x_rQ (r := 11) (t9 := 3) C (by decide) rfl (by decide) rfl eX23_call_99 h (fun v18 h => ?_)
          refine x_gR (o9 := v18) (ci := 16) (k9 := 10) (Cn := RX16) (T := TX16) (N := 22) C rfl wt_X16 (by decide) ww_73 eX23_call_100 h (fun v19 h => ?_)
          refine x_iload_n C eX23_call_103 rfl 3 rfl ?_
          refine x_aQ (t9 := 4) C rfl eX23_call_104 h (fun v20 h => ?_)
          refine x_cVv (As := [va_rf v17, va_rf v20]) (st := []) (n := 2) (frc := 418 + 3 * d) (loc := 10018 + 72 * d) C h (fun S9 r9 e9 => k_X23_fits l D K m9 mr V d hV _ S9 v17 v20 r9 e9) ww_401 ww_403 ww_404 ww_405 ww_16 (by decide +kernel) rfl ⟨by omega, by omega⟩ (Nat.le_of_ble_eq_true rfl) eX23_call_105 (fun S21 v22 h => ?_)
          refine x_iinc (j := 3) (v := 1) (lv2 := [(0, .ref m9), (1, va_rf x1), (2, .int x2)]) C eX23_call_108 rfl (by decide) (by decide) rfl (oky rfl (oky (cat_rf x1) (oky rfl ok0))) ?_
          refine x_goto (tgt := 72) C eX23_call_111 (by decide) ?_
          refine x_sub [1, 2, 3, 0] rfl ?_
          exact ih_72 S21 x1 x2 (x3 + 1) h
  unfold f_call at h
  refine x_tload_n C eX23_call_0 rfl 0 rfl ?_
  refine x_aload_n C eX23_call_1 rfl 1 rfl ?_
  refine x_gI (o9 := x1) (ci := 15) (k9 := 1) (Cn := RX15) (T := TX15) (N := 14) C rfl wt_X15 (by decide) ww_211 eX23_call_2 h (fun v1 h => ?_)
  refine x_cVi (As := [.int v1]) (st := []) (n := 1) (frc := 2) (loc := 44) C h (fun S9 r9 e9 => k_X23_itemNamed l D K m9 mr _ S9 v1 r9 e9) ww_260 ww_271 ww_272 ww_273 ww_16 (by decide +kernel) rfl ⟨by omega, by omega⟩ (Nat.le_of_ble_eq_true rfl) eX23_call_5 (fun S2 v3 h => ?_)
  refine x_istore_n (lv2 := [(0, .ref m9), (1, va_rf x1)]) C eX23_call_8 rfl (by decide) rfl (oky rfl (oky (cat_rf x1) ok0)) ?_
  refine x_iload_n C eX23_call_9 rfl 0 rfl ?_
  refine x_if_lt (tgt := 27) C eX23_call_10 (by decide) h (fun h => ?_) (fun h => ?_)
  · refine x_sub [1, 2] rfl ?_
    exact j_27 S2 x1 h
  · refine x_tload_n C eX23_call_13 rfl 1 rfl ?_
    refine x_mV (k9 := 11) C (by decide) ww_114 eX23_call_14 rfl ?_
    refine x_iload_n C eX23_call_17 rfl 0 rfl ?_
    refine x_rQ (r := 11) (t9 := 3) C (by decide) rfl (by decide) rfl eX23_call_18 h (fun v4 h => ?_)
    refine x_gI (o9 := v4) (ci := 16) (k9 := 2) (Cn := RX16) (T := TX16) (N := 22) C rfl wt_X16 (by decide) ww_72 eX23_call_19 h (fun v5 h => ?_)
    refine x_bipush (v := 12) C eX23_call_22 (by decide) ?_
    refine x_ic_eq (tgt := 38) C eX23_call_24 (by decide) h (fun h => ?_) (fun h => ?_)
    · refine x_tload_n C eX23_call_38 rfl 1 rfl ?_
      refine x_mV (k9 := 11) C (by decide) ww_114 eX23_call_39 rfl ?_
      refine x_iload_n C eX23_call_42 rfl 0 rfl ?_
      refine x_rQ (r := 11) (t9 := 3) C (by decide) rfl (by decide) rfl eX23_call_43 h (fun v6 h => ?_)
      refine x_gI (o9 := v6) (ci := 16) (k9 := 3) (Cn := RX16) (T := TX16) (N := 22) C rfl wt_X16 (by decide) ww_51 eX23_call_44 h (fun v7 h => ?_)
      refine x_aload_n C eX23_call_47 rfl 2 rfl ?_
      refine x_gI (o9 := x1) (ci := 15) (k9 := 11) (Cn := RX15) (T := TX15) (N := 14) C rfl wt_X15 (by decide) ww_201 eX23_call_48 h (fun v8 h => ?_)
      refine x_ic_eq (tgt := 65) C eX23_call_51 (by decide) h (fun h => ?_) (fun h => ?_)
      · refine x_aload_n C eX23_call_65 rfl 2 rfl ?_
        refine x_iload_n C eX23_call_66 rfl 0 rfl ?_
        refine x_pI (o9 := x1) (ci := 15) (k9 := 4) (Cn := RX15) (T := TX15) (N := 14) C rfl wt_X15 tyX15_ok nmX15 (by decide) ww_359 rfl (by decide +kernel) eX23_call_67 h (fun S9 h => ?_)
        refine x_iconst (v := 0) C eX23_call_70 (by decide) ?_
        refine x_istore_n (lv2 := [(2, .int v3), (0, .ref m9), (1, va_rf x1)]) C eX23_call_71 rfl (by decide) rfl (oky rfl (oky rfl (oky (cat_rf x1) ok0))) ?_
        refine x_sub [2, 3, 1, 0] rfl ?_
        exact j_72 bigN S9 x1 v3 0 h
      · refine x_tload_n C eX23_call_54 rfl 1 rfl ?_
        refine x_aload_n C eX23_call_55 rfl 2 rfl ?_
        refine x_iconst (v := 4) C eX23_call_56 (by decide) ?_
        refine x_aload_n C eX23_call_57 rfl 2 rfl ?_
        refine x_gI (o9 := x1) (ci := 15) (k9 := 1) (Cn := RX15) (T := TX15) (N := 14) C rfl wt_X15 (by decide) ww_211 eX23_call_58 h (fun v10 h => ?_)
        refine x_cVr (As := [va_rf x1, .int 4, .int v10]) (st := []) (n := 3) (frc := 4) (loc := 85) C h (fun S9 r9 e9 => k_X23_wrong l D K m9 mr _ S9 x1 4 v10 r9 e9) ww_339 ww_348 ww_349 ww_350 ww_16 (by decide +kernel) rfl ⟨by omega, by omega⟩ (Nat.le_of_ble_eq_true rfl) eX23_call_61 (fun S11 v12 h => ?_)
        exact x_aret C rfl (Or.inl ⟨_, rfl⟩) rfl eX23_call_64 h
    · refine x_sub [1, 2] rfl ?_
      exact j_27 S2 x1 h
set_option maxRecDepth 20000 in
set_option maxHeartbeats 4000000 in
theorem k_X23_box (l : Launch) (D : va_G) (K : Ky) (m9 : Nat) (mr : Nat → Nat) (V : Sg → Option Nat → Option (Sg × Option Nat)) (d : Nat) (hV : ∀ (S0 Sf : Sg) (x1 : Option Nat) (rf : Option Nat), V S0 x1 = some (Sf, rf) → CT l D K m9 mr yX23_value (Cond.code yX23_value cX23_value 3 (some (.object "OwnedPlacesModel$Type"))) (417 + 3 * d) (9996 + 72 * d) S0 Sf [.ref m9, va_rf x1] (some (va_rf rf))) (S0 Sf : Sg) (x1 : Option Nat) (rf : Option Nat) (h : f_box K V S0 x1 = some (Sf, rf)) : CT l D K m9 mr yX23_box (Cond.code yX23_box cX23_box 3 (some (.object "OwnedPlacesModel$Type"))) (418 + 3 * d) (10018 + 72 * d) S0 Sf [.ref m9, va_rf x1] (some (va_rf rf)) := by
  refine x_start (cc := cX23_box) (lv := [(0, .ref m9), (1, va_rf x1)]) rfl rfl (by decide) (by simp [lv_args, cat_rf, cat_i, cat_l, cat_a]) (by simp [lg_sl, cat_rf, cat_i, cat_l, cat_a]) (fun p e R s m args below meth c Q A C => ?_)
  have j_41 : ∀ (S : Sg) (x1 : Option Nat) (x2 : Option Nat), f_box_41 K V S x1 x2 = some (Sf, rf) → WX p l e R s m args below meth c Q D A K m9 mr 3 S0 S 41 [(0, .ref m9), (1, va_rf x1), (2, va_rf x2)] [] := by
    intro S x1 x2 h
    unfold f_box_41 at h
    refine x_tload_n C eX23_box_41 rfl 0 rfl ?_
    refine x_aload_n C eX23_box_42 rfl 1 rfl ?_
    refine x_tload_n C eX23_box_43 rfl 0 rfl ?_
    refine x_iconst (v := 5) C eX23_box_44 (by decide) ?_
    refine x_iconst (v := 0) C eX23_box_45 (by decide) ?_
    refine x_aload_n C eX23_box_46 rfl 2 rfl ?_
    refine x_cVr (As := [.int 5, .int 0, va_rf x2]) (st := [va_rf x1, .ref m9]) (n := 3) (frc := 2) (loc := 40) C h (fun S9 r9 e9 => k_X23_type l D K m9 mr _ S9 5 0 x2 r9 e9) ww_244 ww_255 ww_256 ww_257 ww_16 (by decide +kernel) rfl ⟨by omega, by omega⟩ (Nat.le_of_ble_eq_true rfl) eX23_box_47 (fun S12 v13 h => ?_)
    refine x_cVr (As := [va_rf x1, va_rf v13]) (st := []) (n := 2) (frc := 1) (loc := 20) C h (fun S9 r9 e9 => k_X23_told l D K m9 mr _ S9 x1 v13 r9 e9) ww_337 ww_340 ww_341 ww_342 ww_16 (by decide +kernel) rfl ⟨by omega, by omega⟩ (Nat.le_of_ble_eq_true rfl) eX23_box_50 (fun S14 v15 h => ?_)
    exact x_aret C rfl (Or.inl ⟨_, rfl⟩) rfl eX23_box_53 h
  have j_32 : ∀ (S : Sg) (x1 : Option Nat) (x2 : Option Nat), f_box_32 K V S x1 x2 = some (Sf, rf) → WX p l e R s m args below meth c Q D A K m9 mr 3 S0 S 32 [(0, .ref m9), (1, va_rf x1), (2, va_rf x2)] [] := by
    intro S x1 x2 h
    unfold f_box_32 at h
    refine x_tload_n C eX23_box_32 rfl 0 rfl ?_
    refine x_iconst (v := 4) C eX23_box_33 (by decide) ?_
    refine x_aload_n C eX23_box_34 rfl 1 rfl ?_
    refine x_gI (o9 := x1) (ci := 15) (k9 := 1) (Cn := RX15) (T := TX15) (N := 14) C rfl wt_X15 (by decide) ww_211 eX23_box_35 h (fun v9 h => ?_)
    refine x_cVv (As := [.int 4, .int v9]) (st := []) (n := 2) (frc := 1) (loc := 20) C h (fun S9 r9 e9 => k_X23_fail l D K m9 mr _ S9 4 v9 r9 e9) ww_2 ww_20 ww_21 ww_22 ww_16 (by decide +kernel) rfl ⟨by omega, by omega⟩ (Nat.le_of_ble_eq_true rfl) eX23_box_38 (fun S10 v11 h => ?_)
    refine x_sub [0, 1, 2] rfl ?_
    exact j_41 S10 x1 x2 h
  unfold f_box at h
  refine x_tload_n C eX23_box_0 rfl 0 rfl ?_
  refine x_aload_n C eX23_box_1 rfl 1 rfl ?_
  refine x_gR (o9 := x1) (ci := 15) (k9 := 8) (Cn := RX15) (T := TX15) (N := 14) C rfl wt_X15 (by decide) ww_192 eX23_box_2 h (fun v1 h => ?_)
  refine x_cVr (As := [va_rf v1]) (st := []) (n := 1) (frc := 417 + 3 * d) (loc := 9996 + 72 * d) C h (fun S9 r9 e9 => hV _ S9 v1 r9 e9) ww_368 ww_373 ww_374 ww_375 ww_16 (by decide +kernel) rfl ⟨by omega, by omega⟩ (Nat.le_of_ble_eq_true rfl) eX23_box_5 (fun S2 v3 h => ?_)
  refine x_astore_n (lv2 := [(0, .ref m9), (1, va_rf x1)]) C eX23_box_8 rfl (by decide) rfl (oky rfl (oky (cat_rf x1) ok0)) ?_
  refine x_tload_n C eX23_box_9 rfl 1 rfl ?_
  refine x_cVi (As := []) (st := []) (n := 0) (frc := 1) (loc := 20) C h (fun S9 r9 e9 => k_X23_ok l D K m9 mr _ S9 r9 e9) ww_0 ww_13 ww_14 ww_15 ww_16 (by decide +kernel) rfl ⟨by omega, by omega⟩ (Nat.le_of_ble_eq_true rfl) eX23_box_10 (fun S4 v5 h => ?_)
  refine x_if_eq (tgt := 41) C eX23_box_13 (by decide) h (fun h => ?_) (fun h => ?_)
  · refine x_sub [1, 2, 0] rfl ?_
    exact j_41 S4 x1 v3 h
  · refine x_aload_n C eX23_box_16 rfl 0 rfl ?_
    refine x_gI (o9 := v3) (ci := 20) (k9 := 0) (Cn := RX20) (T := TX20) (N := 4) C rfl wt_X20 (by decide) ww_247 eX23_box_17 h (fun v6 h => ?_)
    refine x_bipush (v := 8) C eX23_box_20 (by decide) ?_
    refine x_ic_eq (tgt := 32) C eX23_box_22 (by decide) h (fun h => ?_) (fun h => ?_)
    · refine x_sub [1, 2, 0] rfl ?_
      exact j_32 S4 x1 v3 h
    · refine x_aload_n C eX23_box_25 rfl 0 rfl ?_
      refine x_cSi (As := [va_rf v3]) (st := []) (n := 1) (frc := 1) (loc := 20) C h (fun S9 r9 e9 => k_X23_refers l D K m9 mr _ S9 v3 r9 e9) ww_258 ww_354 ww_355 ww_16 (by decide +kernel) rfl ⟨by omega, by omega⟩ (Nat.le_of_ble_eq_true rfl) eX23_box_26 (fun S7 v8 h => ?_)
      refine x_if_eq (tgt := 41) C eX23_box_29 (by decide) h (fun h => ?_) (fun h => ?_)
      · refine x_sub [1, 2, 0] rfl ?_
        exact j_41 S7 x1 v3 h
      · refine x_sub [1, 2, 0] rfl ?_
        exact j_32 S7 x1 v3 h
set_option maxRecDepth 20000 in
set_option maxHeartbeats 4000000 in
theorem k_X23_value (l : Launch) (D : va_G) (K : Ky) (m9 : Nat) (mr : Nat → Nat) : ∀ (d : Nat) (S0 Sf : Sg) (x1 : Option Nat) (rf : Option Nat), f_value K d S0 x1 = some (Sf, rf) → CT l D K m9 mr yX23_value (Cond.code yX23_value cX23_value 3 (some (.object "OwnedPlacesModel$Type"))) (417 + 3 * d) (9996 + 72 * d) S0 Sf [.ref m9, va_rf x1] (some (va_rf rf)) := by
  intro d
  induction d with
  | zero => intro S0 Sf x1 rf h; unfold f_value at h; cases h
  | succ d ih =>
    intro S0 Sf x1 rf h
    refine x_start (cc := cX23_value) (lv := [(0, .ref m9), (1, va_rf x1)]) rfl rfl (by decide) (by simp [lv_args, cat_rf, cat_i, cat_l, cat_a]) (by simp [lg_sl, cat_rf, cat_i, cat_l, cat_a]) (fun p e R s m args below meth c Q A C => ?_)
    have j_61 : ∀ (S : Sg) (x2 : Option Nat), f_value_61 K (f_value K d) S x2 = some (Sf, rf) → WX p l e R s m args below meth c Q D A K m9 mr 3 S0 S 61 [(2, va_rf x2)] [] := by
      intro S x2 h
      unfold f_value_61 at h
      refine x_aload_n C eX23_value_61 rfl 0 rfl ?_
      exact x_aret C rfl (Or.inl ⟨_, rfl⟩) rfl eX23_value_62 h
    have j_144 : ∀ (S : Sg) (x1 : Option Nat), f_value_144 K (f_value K d) S x1 = some (Sf, rf) → WX p l e R s m args below meth c Q D A K m9 mr 3 S0 S 144 [(0, .ref m9), (1, va_rf x1)] [] := by
      intro S x1 h
      unfold f_value_144 at h
      refine x_tload_n C eX23_value_144 rfl 0 rfl ?_
      refine x_aload_n C eX23_value_145 rfl 1 rfl ?_
      refine x_tload_n C eX23_value_146 rfl 0 rfl ?_
      refine x_iconst (v := 0) C eX23_value_147 (by decide) ?_
      refine x_cVr (As := [.int 0]) (st := [va_rf x1, .ref m9]) (n := 1) (frc := 3) (loc := 64) C h (fun S9 r9 e9 => k_X23_plainType l D K m9 mr _ S9 0 r9 e9) ww_254 ww_265 ww_266 ww_267 ww_16 (by decide +kernel) rfl ⟨by omega, by omega⟩ (Nat.le_of_ble_eq_true rfl) eX23_value_148 (fun S60 v61 h => ?_)
      refine x_cVr (As := [va_rf x1, va_rf v61]) (st := []) (n := 2) (frc := 1) (loc := 20) C h (fun S9 r9 e9 => k_X23_told l D K m9 mr _ S9 x1 v61 r9 e9) ww_337 ww_340 ww_341 ww_342 ww_16 (by decide +kernel) rfl ⟨by omega, by omega⟩ (Nat.le_of_ble_eq_true rfl) eX23_value_151 (fun S62 v63 h => ?_)
      exact x_aret C rfl (Or.inl ⟨_, rfl⟩) rfl eX23_value_154 h
    have j_274 : ∀ (S : Sg) (x1 : Option Nat), f_value_274 K (f_value K d) S x1 = some (Sf, rf) → WX p l e R s m args below meth c Q D A K m9 mr 3 S0 S 274 [(0, .ref m9), (1, va_rf x1)] [] := by
      intro S x1 h
      unfold f_value_274 at h
      refine x_tload_n C eX23_value_274 rfl 0 rfl ?_
      refine x_aload_n C eX23_value_275 rfl 1 rfl ?_
      refine x_cVr (As := [va_rf x1]) (st := []) (n := 1) (frc := 419 + 3 * d) (loc := 10041 + 72 * d) C h (fun S9 r9 e9 => k_X23_variantOf l D K m9 mr (f_value K d) d ih _ S9 x1 r9 e9) ww_411 ww_394 ww_395 ww_396 ww_16 (by decide +kernel) rfl ⟨by omega, by omega⟩ (Nat.le_of_ble_eq_true rfl) eX23_value_276 (fun S58 v59 h => ?_)
      exact x_aret C rfl (Or.inl ⟨_, rfl⟩) rfl eX23_value_279 h
    unfold f_value at h
    refine x_tload_n C eX23_value_0 rfl 0 rfl ?_
    refine x_cVi (As := []) (st := []) (n := 0) (frc := 1) (loc := 20) C h (fun S9 r9 e9 => k_X23_ok l D K m9 mr _ S9 r9 e9) ww_0 ww_13 ww_14 ww_15 ww_16 (by decide +kernel) rfl ⟨by omega, by omega⟩ (Nat.le_of_ble_eq_true rfl) eX23_value_1 (fun S1 v2 h => ?_)
    refine x_if_ne (tgt := 18) C eX23_value_4 (by decide) h (fun h => ?_) (fun h => ?_)
    · refine x_aload_n C eX23_value_18 rfl 1 rfl ?_
      refine x_cSi (As := [va_rf x1]) (st := []) (n := 1) (frc := 1) (loc := 20) C h (fun S9 r9 e9 => k_X23_isPlace l D K m9 mr _ S9 x1 r9 e9) ww_190 ww_160 ww_161 ww_16 (by decide +kernel) rfl ⟨by omega, by omega⟩ (Nat.le_of_ble_eq_true rfl) eX23_value_19 (fun S3 v4 h => ?_)
      refine x_if_eq (tgt := 63) C eX23_value_22 (by decide) h (fun h => ?_) (fun h => ?_)
      · refine x_aload_n C eX23_value_63 rfl 1 rfl ?_
        refine x_gI (o9 := x1) (ci := 15) (k9 := 0) (Cn := RX15) (T := TX15) (N := 14) C rfl wt_X15 (by decide) ww_191 eX23_value_64 h (fun v5 h => ?_)
        refine x_tabIn (v := 0) (tgt := 144) C eX23_value_67 (by decide) (by decide) rfl (by decide) h (fun h => ?_) (fun hq0 h => ?_)
        · refine x_sub [0, 1] rfl ?_
          exact j_144 S3 x1 h
        · refine x_tabIn (v := 1) (tgt := 155) C eX23_value_67 (by decide) (by decide) rfl (by decide) h (fun h => ?_) (fun hq1 h => ?_)
          · refine x_tload_n C eX23_value_155 rfl 0 rfl ?_
            refine x_aload_n C eX23_value_156 rfl 1 rfl ?_
            refine x_tload_n C eX23_value_157 rfl 0 rfl ?_
            refine x_iconst (v := 1) C eX23_value_158 (by decide) ?_
            refine x_cVr (As := [.int 1]) (st := [va_rf x1, .ref m9]) (n := 1) (frc := 3) (loc := 64) C h (fun S9 r9 e9 => k_X23_plainType l D K m9 mr _ S9 1 r9 e9) ww_254 ww_265 ww_266 ww_267 ww_16 (by decide +kernel) rfl ⟨by omega, by omega⟩ (Nat.le_of_ble_eq_true rfl) eX23_value_159 (fun S6 v7 h => ?_)
            refine x_cVr (As := [va_rf x1, va_rf v7]) (st := []) (n := 2) (frc := 1) (loc := 20) C h (fun S9 r9 e9 => k_X23_told l D K m9 mr _ S9 x1 v7 r9 e9) ww_337 ww_340 ww_341 ww_342 ww_16 (by decide +kernel) rfl ⟨by omega, by omega⟩ (Nat.le_of_ble_eq_true rfl) eX23_value_162 (fun S8 v9 h => ?_)
            exact x_aret C rfl (Or.inl ⟨_, rfl⟩) rfl eX23_value_165 h
          · refine x_tabIn (v := 2) (tgt := 274) C eX23_value_67 (by decide) (by decide) rfl (by decide) h (fun h => ?_) (fun hq2 h => ?_)
            · refine x_sub [0, 1] rfl ?_
              exact j_274 S3 x1 h
            · refine x_tabIn (v := 3) (tgt := 262) C eX23_value_67 (by decide) (by decide) rfl (by decide) h (fun h => ?_) (fun hq3 h => ?_)
              · refine x_tload_n C eX23_value_262 rfl 0 rfl ?_
                refine x_aload_n C eX23_value_263 rfl 1 rfl ?_
                refine x_cVr (As := [va_rf x1]) (st := []) (n := 1) (frc := 419 + 3 * d) (loc := 10041 + 72 * d) C h (fun S9 r9 e9 => k_X23_call l D K m9 mr (f_value K d) d ih _ S9 x1 r9 e9) ww_402 ww_388 ww_389 ww_390 ww_16 (by decide +kernel) rfl ⟨by omega, by omega⟩ (Nat.le_of_ble_eq_true rfl) eX23_value_264 (fun S10 v11 h => ?_)
                exact x_aret C rfl (Or.inl ⟨_, rfl⟩) rfl eX23_value_267 h
              · refine x_tabIn (v := 4) (tgt := 242) C eX23_value_67 (by decide) (by decide) rfl (by decide) h (fun h => ?_) (fun hq4 h => ?_)
                · refine x_tload_n C eX23_value_242 rfl 0 rfl ?_
                  refine x_aload_n C eX23_value_243 rfl 1 rfl ?_
                  refine x_iconst (v := 0) C eX23_value_244 (by decide) ?_
                  refine x_iconst (v := 2) C eX23_value_245 (by decide) ?_
                  refine x_cVr (As := [va_rf x1, .int 0, .int 2]) (st := []) (n := 3) (frc := 418 + 3 * d) (loc := 10018 + 72 * d) C h (fun S9 r9 e9 => k_X23_operand l D K m9 mr (f_value K d) d ih _ S9 x1 0 2 r9 e9) ww_397 ww_379 ww_380 ww_381 ww_16 (by decide +kernel) rfl ⟨by omega, by omega⟩ (Nat.le_of_ble_eq_true rfl) eX23_value_246 (fun S12 v13 h => ?_)
                  exact x_aret C rfl (Or.inl ⟨_, rfl⟩) rfl eX23_value_249 h
                · refine x_tabIn (v := 5) (tgt := 268) C eX23_value_67 (by decide) (by decide) rfl (by decide) h (fun h => ?_) (fun hq5 h => ?_)
                  · refine x_tload_n C eX23_value_268 rfl 0 rfl ?_
                    refine x_aload_n C eX23_value_269 rfl 1 rfl ?_
                    refine x_cVr (As := [va_rf x1]) (st := []) (n := 1) (frc := 419 + 3 * d) (loc := 10041 + 72 * d) C h (fun S9 r9 e9 => k_X23_made l D K m9 mr (f_value K d) d ih _ S9 x1 r9 e9) ww_407 ww_391 ww_392 ww_393 ww_16 (by decide +kernel) rfl ⟨by omega, by omega⟩ (Nat.le_of_ble_eq_true rfl) eX23_value_270 (fun S14 v15 h => ?_)
                    exact x_aret C rfl (Or.inl ⟨_, rfl⟩) rfl eX23_value_273 h
                  · refine x_tabIn (v := 6) (tgt := 274) C eX23_value_67 (by decide) (by decide) rfl (by decide) h (fun h => ?_) (fun hq6 h => ?_)
                    · refine x_sub [0, 1] rfl ?_
                      exact j_274 S3 x1 h
                    · refine x_tabIn (v := 7) (tgt := 166) C eX23_value_67 (by decide) (by decide) rfl (by decide) h (fun h => ?_) (fun hq7 h => ?_)
                      · refine x_tload_n C eX23_value_166 rfl 0 rfl ?_
                        refine x_aload_n C eX23_value_167 rfl 1 rfl ?_
                        refine x_tload_n C eX23_value_168 rfl 0 rfl ?_
                        refine x_aload_n C eX23_value_169 rfl 1 rfl ?_
                        refine x_gR (o9 := x1) (ci := 15) (k9 := 8) (Cn := RX15) (T := TX15) (N := 14) C rfl wt_X15 (by decide) ww_192 eX23_value_170 h (fun v16 h => ?_)
                        refine x_cVr (As := [va_rf v16]) (st := [va_rf x1, .ref m9]) (n := 1) (frc := 417 + 3 * d) (loc := 9996 + 72 * d) C h (fun S9 r9 e9 => ih _ S9 v16 r9 e9) ww_368 ww_373 ww_374 ww_375 ww_16 (by decide +kernel) rfl ⟨by omega, by omega⟩ (Nat.le_of_ble_eq_true rfl) eX23_value_173 (fun S17 v18 h => ?_)
                        refine x_cVr (As := [va_rf x1, va_rf v18]) (st := []) (n := 2) (frc := 1) (loc := 20) C h (fun S9 r9 e9 => k_X23_told l D K m9 mr _ S9 x1 v18 r9 e9) ww_337 ww_340 ww_341 ww_342 ww_16 (by decide +kernel) rfl ⟨by omega, by omega⟩ (Nat.le_of_ble_eq_true rfl) eX23_value_176 (fun S19 v20 h => ?_)
                        exact x_aret C rfl (Or.inl ⟨_, rfl⟩) rfl eX23_value_179 h
                      · refine x_tabIn (v := 8) (tgt := 256) C eX23_value_67 (by decide) (by decide) rfl (by decide) h (fun h => ?_) (fun hq8 h => ?_)
                        · refine x_tload_n C eX23_value_256 rfl 0 rfl ?_
                          refine x_aload_n C eX23_value_257 rfl 1 rfl ?_
                          refine x_cVr (As := [va_rf x1]) (st := []) (n := 1) (frc := 418 + 3 * d) (loc := 10018 + 72 * d) C h (fun S9 r9 e9 => k_X23_chained l D K m9 mr (f_value K d) d ih _ S9 x1 r9 e9) ww_400 ww_385 ww_386 ww_387 ww_16 (by decide +kernel) rfl ⟨by omega, by omega⟩ (Nat.le_of_ble_eq_true rfl) eX23_value_258 (fun S21 v22 h => ?_)
                          exact x_aret C rfl (Or.inl ⟨_, rfl⟩) rfl eX23_value_261 h
                        · refine x_tabIn (v := 9) (tgt := 226) C eX23_value_67 (by decide) (by decide) rfl (by decide) h (fun h => ?_) (fun hq9 h => ?_)
                          · refine x_tload_n C eX23_value_226 rfl 0 rfl ?_
                            refine x_aload_n C eX23_value_227 rfl 1 rfl ?_
                            refine x_iconst (v := 1) C eX23_value_228 (by decide) ?_
                            refine x_iconst (v := 1) C eX23_value_229 (by decide) ?_
                            refine x_cVr (As := [va_rf x1, .int 1, .int 1]) (st := []) (n := 3) (frc := 418 + 3 * d) (loc := 10018 + 72 * d) C h (fun S9 r9 e9 => k_X23_operand l D K m9 mr (f_value K d) d ih _ S9 x1 1 1 r9 e9) ww_397 ww_379 ww_380 ww_381 ww_16 (by decide +kernel) rfl ⟨by omega, by omega⟩ (Nat.le_of_ble_eq_true rfl) eX23_value_230 (fun S23 v24 h => ?_)
                            exact x_aret C rfl (Or.inl ⟨_, rfl⟩) rfl eX23_value_233 h
                          · refine x_tabIn (v := 10) (tgt := 234) C eX23_value_67 (by decide) (by decide) rfl (by decide) h (fun h => ?_) (fun hq10 h => ?_)
                            · refine x_tload_n C eX23_value_234 rfl 0 rfl ?_
                              refine x_aload_n C eX23_value_235 rfl 1 rfl ?_
                              refine x_iconst (v := 0) C eX23_value_236 (by decide) ?_
                              refine x_iconst (v := 0) C eX23_value_237 (by decide) ?_
                              refine x_cVr (As := [va_rf x1, .int 0, .int 0]) (st := []) (n := 3) (frc := 418 + 3 * d) (loc := 10018 + 72 * d) C h (fun S9 r9 e9 => k_X23_operand l D K m9 mr (f_value K d) d ih _ S9 x1 0 0 r9 e9) ww_397 ww_379 ww_380 ww_381 ww_16 (by decide +kernel) rfl ⟨by omega, by omega⟩ (Nat.le_of_ble_eq_true rfl) eX23_value_238 (fun S25 v26 h => ?_)
                              exact x_aret C rfl (Or.inl ⟨_, rfl⟩) rfl eX23_value_241 h
                            · refine x_tabIn (v := 11) (tgt := 200) C eX23_value_67 (by decide) (by decide) rfl (by decide) h (fun h => ?_) (fun hq11 h => ?_)
                              · refine x_tload_n C eX23_value_200 rfl 0 rfl ?_
                                refine x_aload_n C eX23_value_201 rfl 1 rfl ?_
                                refine x_gR (o9 := x1) (ci := 15) (k9 := 8) (Cn := RX15) (T := TX15) (N := 14) C rfl wt_X15 (by decide) ww_192 eX23_value_202 h (fun v27 h => ?_)
                                refine x_cVr (As := [va_rf v27]) (st := []) (n := 1) (frc := 417 + 3 * d) (loc := 9996 + 72 * d) C h (fun S9 r9 e9 => ih _ S9 v27 r9 e9) ww_368 ww_373 ww_374 ww_375 ww_16 (by decide +kernel) rfl ⟨by omega, by omega⟩ (Nat.le_of_ble_eq_true rfl) eX23_value_205 (fun S28 v29 h => ?_)
                                refine x_pop C eX23_value_208 (cat_rf v29) ?_
                                refine x_tload_n C eX23_value_209 rfl 0 rfl ?_
                                refine x_aload_n C eX23_value_210 rfl 1 rfl ?_
                                refine x_iconst (v := 4) C eX23_value_211 (by decide) ?_
                                refine x_aload_n C eX23_value_212 rfl 1 rfl ?_
                                refine x_gI (o9 := x1) (ci := 15) (k9 := 1) (Cn := RX15) (T := TX15) (N := 14) C rfl wt_X15 (by decide) ww_211 eX23_value_213 h (fun v30 h => ?_)
                                refine x_cVr (As := [va_rf x1, .int 4, .int v30]) (st := []) (n := 3) (frc := 4) (loc := 85) C h (fun S9 r9 e9 => k_X23_wrong l D K m9 mr _ S9 x1 4 v30 r9 e9) ww_339 ww_348 ww_349 ww_350 ww_16 (by decide +kernel) rfl ⟨by omega, by omega⟩ (Nat.le_of_ble_eq_true rfl) eX23_value_216 (fun S31 v32 h => ?_)
                                exact x_aret C rfl (Or.inl ⟨_, rfl⟩) rfl eX23_value_219 h
                              · refine x_tabIn (v := 12) (tgt := 220) C eX23_value_67 (by decide) (by decide) rfl (by decide) h (fun h => ?_) (fun hq12 h => ?_)
                                · refine x_tload_n C eX23_value_220 rfl 0 rfl ?_
                                  refine x_aload_n C eX23_value_221 rfl 1 rfl ?_
                                  refine x_cVr (As := [va_rf x1]) (st := []) (n := 1) (frc := 418 + 3 * d) (loc := 10018 + 72 * d) C h (fun S9 r9 e9 => k_X23_refer l D K m9 mr (f_value K d) d ih _ S9 x1 r9 e9) ww_399 ww_376 ww_377 ww_378 ww_16 (by decide +kernel) rfl ⟨by omega, by omega⟩ (Nat.le_of_ble_eq_true rfl) eX23_value_222 (fun S33 v34 h => ?_)
                                  exact x_aret C rfl (Or.inl ⟨_, rfl⟩) rfl eX23_value_225 h
                                · refine x_tabIn (v := 13) (tgt := 250) C eX23_value_67 (by decide) (by decide) rfl (by decide) h (fun h => ?_) (fun hq13 h => ?_)
                                  · refine x_tload_n C eX23_value_250 rfl 0 rfl ?_
                                    refine x_aload_n C eX23_value_251 rfl 1 rfl ?_
                                    refine x_cVr (As := [va_rf x1]) (st := []) (n := 1) (frc := 418 + 3 * d) (loc := 10018 + 72 * d) C h (fun S9 r9 e9 => k_X23_box l D K m9 mr (f_value K d) d ih _ S9 x1 r9 e9) ww_398 ww_382 ww_383 ww_384 ww_16 (by decide +kernel) rfl ⟨by omega, by omega⟩ (Nat.le_of_ble_eq_true rfl) eX23_value_252 (fun S35 v36 h => ?_)
                                    exact x_aret C rfl (Or.inl ⟨_, rfl⟩) rfl eX23_value_255 h
                                  · refine x_tabIn (v := 14) (tgt := 180) C eX23_value_67 (by decide) (by decide) rfl (by decide) h (fun h => ?_) (fun hq14 h => ?_)
                                    · refine x_tload_n C eX23_value_180 rfl 0 rfl ?_
                                      refine x_aload_n C eX23_value_181 rfl 1 rfl ?_
                                      refine x_gR (o9 := x1) (ci := 15) (k9 := 8) (Cn := RX15) (T := TX15) (N := 14) C rfl wt_X15 (by decide) ww_192 eX23_value_182 h (fun v37 h => ?_)
                                      refine x_cVr (As := [va_rf v37]) (st := []) (n := 1) (frc := 417 + 3 * d) (loc := 9996 + 72 * d) C h (fun S9 r9 e9 => ih _ S9 v37 r9 e9) ww_368 ww_373 ww_374 ww_375 ww_16 (by decide +kernel) rfl ⟨by omega, by omega⟩ (Nat.le_of_ble_eq_true rfl) eX23_value_185 (fun S38 v39 h => ?_)
                                      refine x_pop C eX23_value_188 (cat_rf v39) ?_
                                      refine x_tload_n C eX23_value_189 rfl 0 rfl ?_
                                      refine x_aload_n C eX23_value_190 rfl 1 rfl ?_
                                      refine x_iconst (v := 4) C eX23_value_191 (by decide) ?_
                                      refine x_aload_n C eX23_value_192 rfl 1 rfl ?_
                                      refine x_gI (o9 := x1) (ci := 15) (k9 := 3) (Cn := RX15) (T := TX15) (N := 14) C rfl wt_X15 (by decide) ww_223 eX23_value_193 h (fun v40 h => ?_)
                                      refine x_cVr (As := [va_rf x1, .int 4, .int v40]) (st := []) (n := 3) (frc := 4) (loc := 85) C h (fun S9 r9 e9 => k_X23_wrong l D K m9 mr _ S9 x1 4 v40 r9 e9) ww_339 ww_348 ww_349 ww_350 ww_16 (by decide +kernel) rfl ⟨by omega, by omega⟩ (Nat.le_of_ble_eq_true rfl) eX23_value_196 (fun S41 v42 h => ?_)
                                      exact x_aret C rfl (Or.inl ⟨_, rfl⟩) rfl eX23_value_199 h
                                    · refine x_tabIn (v := 15) (tgt := 144) C eX23_value_67 (by decide) (by decide) rfl (by decide) h (fun h => ?_) (fun hq15 h => ?_)
                                      · refine x_sub [0, 1] rfl ?_
                                        exact j_144 S3 x1 h
                                      · have hq0i : (v5 : Int32).toInt ≠ 0 := fun q9 => hq0 (Int32.toInt_inj.mp q9)
                                        have hq1i : (v5 : Int32).toInt ≠ 1 := fun q9 => hq1 (Int32.toInt_inj.mp q9)
                                        have hq2i : (v5 : Int32).toInt ≠ 2 := fun q9 => hq2 (Int32.toInt_inj.mp q9)
                                        have hq3i : (v5 : Int32).toInt ≠ 3 := fun q9 => hq3 (Int32.toInt_inj.mp q9)
                                        have hq4i : (v5 : Int32).toInt ≠ 4 := fun q9 => hq4 (Int32.toInt_inj.mp q9)
                                        have hq5i : (v5 : Int32).toInt ≠ 5 := fun q9 => hq5 (Int32.toInt_inj.mp q9)
                                        have hq6i : (v5 : Int32).toInt ≠ 6 := fun q9 => hq6 (Int32.toInt_inj.mp q9)
                                        have hq7i : (v5 : Int32).toInt ≠ 7 := fun q9 => hq7 (Int32.toInt_inj.mp q9)
                                        have hq8i : (v5 : Int32).toInt ≠ 8 := fun q9 => hq8 (Int32.toInt_inj.mp q9)
                                        have hq9i : (v5 : Int32).toInt ≠ 9 := fun q9 => hq9 (Int32.toInt_inj.mp q9)
                                        have hq10i : (v5 : Int32).toInt ≠ 10 := fun q9 => hq10 (Int32.toInt_inj.mp q9)
                                        have hq11i : (v5 : Int32).toInt ≠ 11 := fun q9 => hq11 (Int32.toInt_inj.mp q9)
                                        have hq12i : (v5 : Int32).toInt ≠ 12 := fun q9 => hq12 (Int32.toInt_inj.mp q9)
                                        have hq13i : (v5 : Int32).toInt ≠ 13 := fun q9 => hq13 (Int32.toInt_inj.mp q9)
                                        have hq14i : (v5 : Int32).toInt ≠ 14 := fun q9 => hq14 (Int32.toInt_inj.mp q9)
                                        have hq15i : (v5 : Int32).toInt ≠ 15 := fun q9 => hq15 (Int32.toInt_inj.mp q9)
                                        refine x_tabOut (tgt := 274) C eX23_value_67 (by omega) (by decide) ?_
                                        refine x_sub [0, 1] rfl ?_
                                        exact j_274 S3 x1 h
      · refine x_tload_n C eX23_value_25 rfl 0 rfl ?_
        refine x_aload_n C eX23_value_26 rfl 1 rfl ?_
        refine x_cVr (As := [va_rf x1]) (st := []) (n := 1) (frc := 6 + 1 * 410) (loc := 132 + 24 * 410) C h (fun S9 r9 e9 => k_X23_place l D K m9 mr 410 _ S9 x1 r9 e9) ww_343 ww_344 ww_345 ww_346 ww_16 (by decide +kernel) rfl ⟨by omega, by omega⟩ (Nat.le_of_ble_eq_true rfl) eX23_value_27 (fun S43 v44 h => ?_)
        refine x_astore_n (lv2 := [(0, .ref m9), (1, va_rf x1)]) C eX23_value_30 rfl (by decide) rfl (oky rfl (oky (cat_rf x1) ok0)) ?_
        refine x_tload_n C eX23_value_31 rfl 1 rfl ?_
        refine x_cVi (As := []) (st := []) (n := 0) (frc := 1) (loc := 20) C h (fun S9 r9 e9 => k_X23_ok l D K m9 mr _ S9 r9 e9) ww_0 ww_13 ww_14 ww_15 ww_16 (by decide +kernel) rfl ⟨by omega, by omega⟩ (Nat.le_of_ble_eq_true rfl) eX23_value_32 (fun S45 v46 h => ?_)
        refine x_if_eq (tgt := 61) C eX23_value_35 (by decide) h (fun h => ?_) (fun h => ?_)
        · refine x_sub [0] rfl ?_
          exact j_61 S45 v44 h
        · refine x_aload_n C eX23_value_38 rfl 0 rfl ?_
          refine x_cSi (As := [va_rf v44]) (st := []) (n := 1) (frc := 1) (loc := 20) C h (fun S9 r9 e9 => k_X23_copied l D K m9 mr _ S9 v44 r9 e9) ww_259 ww_369 ww_370 ww_16 (by decide +kernel) rfl ⟨by omega, by omega⟩ (Nat.le_of_ble_eq_true rfl) eX23_value_39 (fun S47 v48 h => ?_)
          refine x_if_ne (tgt := 61) C eX23_value_42 (by decide) h (fun h => ?_) (fun h => ?_)
          · refine x_sub [0] rfl ?_
            exact j_61 S47 v44 h
          · refine x_aload_n C eX23_value_45 rfl 2 rfl ?_
            refine x_cSi (As := [va_rf x1]) (st := []) (n := 1) (frc := 3) (loc := 62) C h (fun S9 r9 e9 => k_X23_movable l D K m9 mr _ S9 x1 r9 e9) ww_361 ww_371 ww_372 ww_16 (by decide +kernel) rfl ⟨by omega, by omega⟩ (Nat.le_of_ble_eq_true rfl) eX23_value_46 (fun S49 v50 h => ?_)
            refine x_if_ne (tgt := 61) C eX23_value_49 (by decide) h (fun h => ?_) (fun h => ?_)
            · refine x_sub [0] rfl ?_
              exact j_61 S49 v44 h
            · refine x_tload_n C eX23_value_52 rfl 1 rfl ?_
              refine x_iconst (v := 4) C eX23_value_53 (by decide) ?_
              refine x_aload_n C eX23_value_54 rfl 2 rfl ?_
              refine x_gI (o9 := x1) (ci := 15) (k9 := 1) (Cn := RX15) (T := TX15) (N := 14) C rfl wt_X15 (by decide) ww_211 eX23_value_55 h (fun v51 h => ?_)
              refine x_cVv (As := [.int 4, .int v51]) (st := []) (n := 2) (frc := 1) (loc := 20) C h (fun S9 r9 e9 => k_X23_fail l D K m9 mr _ S9 4 v51 r9 e9) ww_2 ww_20 ww_21 ww_22 ww_16 (by decide +kernel) rfl ⟨by omega, by omega⟩ (Nat.le_of_ble_eq_true rfl) eX23_value_58 (fun S52 v53 h => ?_)
              refine x_sub [0] rfl ?_
              exact j_61 S52 v44 h
    · refine x_tload_n C eX23_value_7 rfl 0 rfl ?_
      refine x_aload_n C eX23_value_8 rfl 1 rfl ?_
      refine x_tload_n C eX23_value_9 rfl 0 rfl ?_
      refine x_iconst (v := 0) C eX23_value_10 (by decide) ?_
      refine x_cVr (As := [.int 0]) (st := [va_rf x1, .ref m9]) (n := 1) (frc := 3) (loc := 64) C h (fun S9 r9 e9 => k_X23_plainType l D K m9 mr _ S9 0 r9 e9) ww_254 ww_265 ww_266 ww_267 ww_16 (by decide +kernel) rfl ⟨by omega, by omega⟩ (Nat.le_of_ble_eq_true rfl) eX23_value_11 (fun S54 v55 h => ?_)
      refine x_cVr (As := [va_rf x1, va_rf v55]) (st := []) (n := 2) (frc := 1) (loc := 20) C h (fun S9 r9 e9 => k_X23_told l D K m9 mr _ S9 x1 v55 r9 e9) ww_337 ww_340 ww_341 ww_342 ww_16 (by decide +kernel) rfl ⟨by omega, by omega⟩ (Nat.le_of_ble_eq_true rfl) eX23_value_14 (fun S56 v57 h => ?_)
      exact x_aret C rfl (Or.inl ⟨_, rfl⟩) rfl eX23_value_17 h
set_option maxRecDepth 20000 in
set_option maxHeartbeats 4000000 in
theorem k_X23_condition (l : Launch) (D : va_G) (K : Ky) (m9 : Nat) (mr : Nat → Nat) (S0 Sf : Sg) (x1 : Option Nat) (rf : Unit) (h : f_condition K S0 x1 = some (Sf, rf)) : CT l D K m9 mr yX23_condition (Cond.code yX23_condition cX23_condition 3 none) (1648) (39538) S0 Sf [.ref m9, va_rf x1] none := by
  refine x_start (cc := cX23_condition) (lv := [(0, .ref m9), (1, va_rf x1)]) rfl rfl (by decide) (by simp [lv_args, cat_rf, cat_i, cat_l, cat_a]) (by simp [lg_sl, cat_rf, cat_i, cat_l, cat_a]) (fun p e R s m args below meth c Q A C => ?_)
  have j_30 : ∀ (S : Sg), f_condition_30 K S = some (Sf, rf) → WX p l e R s m args below meth c Q D A K m9 mr 3 S0 S 30 [] [] := by
    intro S h
    unfold f_condition_30 at h
    exact x_vret C rfl rfl eX23_condition_30 h
  unfold f_condition at h
  refine x_tload_n C eX23_condition_0 rfl 0 rfl ?_
  refine x_aload_n C eX23_condition_1 rfl 1 rfl ?_
  refine x_cVr (As := [va_rf x1]) (st := []) (n := 1) (frc := 417 + 3 * 410) (loc := 9996 + 72 * 410) C h (fun S9 r9 e9 => k_X23_value l D K m9 mr 410 _ S9 x1 r9 e9) ww_368 ww_373 ww_374 ww_375 ww_16 (by decide +kernel) rfl ⟨by omega, by omega⟩ (Nat.le_of_ble_eq_true rfl) eX23_condition_2 (fun S1 v2 h => ?_)
  refine x_astore_n (lv2 := [(0, .ref m9), (1, va_rf x1)]) C eX23_condition_5 rfl (by decide) rfl (oky rfl (oky (cat_rf x1) ok0)) ?_
  refine x_tload_n C eX23_condition_6 rfl 1 rfl ?_
  refine x_cVi (As := []) (st := []) (n := 0) (frc := 1) (loc := 20) C h (fun S9 r9 e9 => k_X23_ok l D K m9 mr _ S9 r9 e9) ww_0 ww_13 ww_14 ww_15 ww_16 (by decide +kernel) rfl ⟨by omega, by omega⟩ (Nat.le_of_ble_eq_true rfl) eX23_condition_7 (fun S3 v4 h => ?_)
  refine x_if_eq (tgt := 30) C eX23_condition_10 (by decide) h (fun h => ?_) (fun h => ?_)
  · refine x_sub [] rfl ?_
    exact j_30 S3 h
  · refine x_aload_n C eX23_condition_13 rfl 0 rfl ?_
    refine x_gI (o9 := v2) (ci := 20) (k9 := 0) (Cn := RX20) (T := TX20) (N := 4) C rfl wt_X20 (by decide) ww_247 eX23_condition_14 h (fun v5 h => ?_)
    refine x_iconst (v := 1) C eX23_condition_17 (by decide) ?_
    refine x_ic_eq (tgt := 30) C eX23_condition_18 (by decide) h (fun h => ?_) (fun h => ?_)
    · refine x_sub [] rfl ?_
      exact j_30 S3 h
    · refine x_tload_n C eX23_condition_21 rfl 1 rfl ?_
      refine x_iconst (v := 4) C eX23_condition_22 (by decide) ?_
      refine x_aload_n C eX23_condition_23 rfl 2 rfl ?_
      refine x_gI (o9 := x1) (ci := 15) (k9 := 1) (Cn := RX15) (T := TX15) (N := 14) C rfl wt_X15 (by decide) ww_211 eX23_condition_24 h (fun v6 h => ?_)
      refine x_cVv (As := [.int 4, .int v6]) (st := []) (n := 2) (frc := 1) (loc := 20) C h (fun S9 r9 e9 => k_X23_fail l D K m9 mr _ S9 4 v6 r9 e9) ww_2 ww_20 ww_21 ww_22 ww_16 (by decide +kernel) rfl ⟨by omega, by omega⟩ (Nat.le_of_ble_eq_true rfl) eX23_condition_27 (fun S7 v8 h => ?_)
      refine x_sub [] rfl ?_
      exact j_30 S7 h
set_option maxRecDepth 20000 in
set_option maxHeartbeats 4000000 in
theorem k_X23_typeAssign (l : Launch) (D : va_G) (K : Ky) (m9 : Nat) (mr : Nat → Nat) (S0 Sf : Sg) (x1 : Option Nat) (rf : Unit) (h : f_typeAssign K S0 x1 = some (Sf, rf)) : CT l D K m9 mr yX23_typeAssign (Cond.code yX23_typeAssign cX23_typeAssign 5 none) (1648) (39538) S0 Sf [.ref m9, va_rf x1] none := by
  refine x_start (cc := cX23_typeAssign) (lv := [(0, .ref m9), (1, va_rf x1)]) rfl rfl (by decide) (by simp [lv_args, cat_rf, cat_i, cat_l, cat_a]) (by simp [lg_sl, cat_rf, cat_i, cat_l, cat_a]) (fun p e R s m args below meth c Q A C => ?_)
  have j_220 : ∀ (S : Sg), f_typeAssign_220 K S = some (Sf, rf) → WX p l e R s m args below meth c Q D A K m9 mr 5 S0 S 220 [] [] := by
    intro S h
    unfold f_typeAssign_220 at h
    exact x_vret C rfl rfl eX23_typeAssign_220 h
  have j_185 : ∀ (S : Sg) (x1 : Option Nat) (x3 : Option Nat), f_typeAssign_185 K S x1 x3 = some (Sf, rf) → WX p l e R s m args below meth c Q D A K m9 mr 5 S0 S 185 [(0, .ref m9), (1, va_rf x1), (3, va_rf x3)] [] := by
    intro S x1 x3 h
    unfold f_typeAssign_185 at h
    refine x_tload_n C eX23_typeAssign_185 rfl 0 rfl ?_
    refine x_cVi (As := []) (st := []) (n := 0) (frc := 1) (loc := 20) C h (fun S9 r9 e9 => k_X23_ok l D K m9 mr _ S9 r9 e9) ww_0 ww_13 ww_14 ww_15 ww_16 (by decide +kernel) rfl ⟨by omega, by omega⟩ (Nat.le_of_ble_eq_true rfl) eX23_typeAssign_186 (fun S39 v40 h => ?_)
    refine x_if_eq (tgt := 220) C eX23_typeAssign_189 (by decide) h (fun h => ?_) (fun h => ?_)
    · refine x_sub [] rfl ?_
      exact j_220 S39 h
    · refine x_aload_n C eX23_typeAssign_192 rfl 2 rfl ?_
      refine x_gI (o9 := x3) (ci := 15) (k9 := 0) (Cn := RX15) (T := TX15) (N := 14) C rfl wt_X15 (by decide) ww_191 eX23_typeAssign_193 h (fun v41 h => ?_)
      refine x_iconst (v := 2) C eX23_typeAssign_196 (by decide) ?_
      refine x_ic_eq (tgt := 220) C eX23_typeAssign_197 (by decide) h (fun h => ?_) (fun h => ?_)
      · refine x_sub [] rfl ?_
        exact j_220 S39 h
      · refine x_tload_n C eX23_typeAssign_200 rfl 0 rfl ?_
        refine x_aload_n C eX23_typeAssign_201 rfl 2 rfl ?_
        refine x_cVi (As := [va_rf x3]) (st := []) (n := 1) (frc := 2 + 1 * 410) (loc := 41 + 23 * 410) C h (fun S9 r9 e9 => k_X23_mutable l D K m9 mr 410 _ S9 x3 r9 e9) ww_364 ww_365 ww_366 ww_367 ww_16 (by decide +kernel) rfl ⟨by omega, by omega⟩ (Nat.le_of_ble_eq_true rfl) eX23_typeAssign_202 (fun S42 v43 h => ?_)
        refine x_if_ne (tgt := 220) C eX23_typeAssign_205 (by decide) h (fun h => ?_) (fun h => ?_)
        · refine x_sub [] rfl ?_
          exact j_220 S42 h
        · refine x_tload_n C eX23_typeAssign_208 rfl 0 rfl ?_
          refine x_iconst (v := 4) C eX23_typeAssign_209 (by decide) ?_
          refine x_aload_n C eX23_typeAssign_210 rfl 1 rfl ?_
          refine x_gR (o9 := x1) (ci := 19) (k9 := 7) (Cn := RX19) (T := TX19) (N := 14) C rfl wt_X19 (by decide) ww_162 eX23_typeAssign_211 h (fun v44 h => ?_)
          refine x_gI (o9 := v44) (ci := 15) (k9 := 1) (Cn := RX15) (T := TX15) (N := 14) C rfl wt_X15 (by decide) ww_211 eX23_typeAssign_214 h (fun v45 h => ?_)
          refine x_cVv (As := [.int 4, .int v45]) (st := []) (n := 2) (frc := 1) (loc := 20) C h (fun S9 r9 e9 => k_X23_fail l D K m9 mr _ S9 4 v45 r9 e9) ww_2 ww_20 ww_21 ww_22 ww_16 (by decide +kernel) rfl ⟨by omega, by omega⟩ (Nat.le_of_ble_eq_true rfl) eX23_typeAssign_217 (fun S46 v47 h => ?_)
          refine x_sub [] rfl ?_
          exact j_220 S46 h
  have j_150 : ∀ (S : Sg) (x1 : Option Nat) (x2 : Option Nat) (x3 : Option Nat), f_typeAssign_150 K S x1 x2 x3 = some (Sf, rf) → WX p l e R s m args below meth c Q D A K m9 mr 5 S0 S 150 [(0, .ref m9), (1, va_rf x1), (2, va_rf x2), (3, va_rf x3)] [] := by
    intro S x1 x2 x3 h
    unfold f_typeAssign_150 at h
    refine x_tload_n C eX23_typeAssign_150 rfl 0 rfl ?_
    refine x_aload_n C eX23_typeAssign_151 rfl 1 rfl ?_
    refine x_gR (o9 := x1) (ci := 19) (k9 := 7) (Cn := RX19) (T := TX19) (N := 14) C rfl wt_X19 (by decide) ww_162 eX23_typeAssign_152 h (fun v30 h => ?_)
    refine x_cVr (As := [va_rf v30]) (st := []) (n := 1) (frc := 6 + 1 * 410) (loc := 132 + 24 * 410) C h (fun S9 r9 e9 => k_X23_place l D K m9 mr 410 _ S9 v30 r9 e9) ww_343 ww_344 ww_345 ww_346 ww_16 (by decide +kernel) rfl ⟨by omega, by omega⟩ (Nat.le_of_ble_eq_true rfl) eX23_typeAssign_155 (fun S31 v32 h => ?_)
    refine x_astore (lv2 := [(0, .ref m9), (1, va_rf x1), (2, va_rf x2), (3, va_rf x3)]) C eX23_typeAssign_158 (by decide) rfl (oky rfl (oky (cat_rf x1) (oky (cat_rf x2) (oky (cat_rf x3) ok0)))) ?_
    refine x_tload_n C eX23_typeAssign_160 rfl 1 rfl ?_
    refine x_cVi (As := []) (st := []) (n := 0) (frc := 1) (loc := 20) C h (fun S9 r9 e9 => k_X23_ok l D K m9 mr _ S9 r9 e9) ww_0 ww_13 ww_14 ww_15 ww_16 (by decide +kernel) rfl ⟨by omega, by omega⟩ (Nat.le_of_ble_eq_true rfl) eX23_typeAssign_161 (fun S33 v34 h => ?_)
    refine x_if_eq (tgt := 185) C eX23_typeAssign_164 (by decide) h (fun h => ?_) (fun h => ?_)
    · refine x_sub [1, 2, 4] rfl ?_
      exact j_185 S33 x1 x3 h
    · refine x_aload C eX23_typeAssign_167 0 rfl ?_
      refine x_aload_n C eX23_typeAssign_169 rfl 3 rfl ?_
      refine x_ac_eq (tgt := 185) C eX23_typeAssign_170 (by decide) h (fun h => ?_) (fun h => ?_)
      · refine x_sub [1, 2, 4] rfl ?_
        exact j_185 S33 x1 x3 h
      · refine x_tload_n C eX23_typeAssign_173 rfl 1 rfl ?_
        refine x_iconst (v := 4) C eX23_typeAssign_174 (by decide) ?_
        refine x_aload_n C eX23_typeAssign_175 rfl 2 rfl ?_
        refine x_gR (o9 := x1) (ci := 19) (k9 := 6) (Cn := RX19) (T := TX19) (N := 14) C rfl wt_X19 (by decide) ww_144 eX23_typeAssign_176 h (fun v35 h => ?_)
        refine x_gI (o9 := v35) (ci := 15) (k9 := 1) (Cn := RX15) (T := TX15) (N := 14) C rfl wt_X15 (by decide) ww_211 eX23_typeAssign_179 h (fun v36 h => ?_)
        refine x_cVv (As := [.int 4, .int v36]) (st := []) (n := 2) (frc := 1) (loc := 20) C h (fun S9 r9 e9 => k_X23_fail l D K m9 mr _ S9 4 v36 r9 e9) ww_2 ww_20 ww_21 ww_22 ww_16 (by decide +kernel) rfl ⟨by omega, by omega⟩ (Nat.le_of_ble_eq_true rfl) eX23_typeAssign_182 (fun S37 v38 h => ?_)
        refine x_sub [1, 2, 4] rfl ?_
        exact j_185 S37 x1 x3 h
  have j_120 : ∀ (S : Sg) (x1 : Option Nat) (x2 : Option Nat) (x3 : Option Nat), f_typeAssign_120 K S x1 x2 x3 = some (Sf, rf) → WX p l e R s m args below meth c Q D A K m9 mr 5 S0 S 120 [(0, .ref m9), (1, va_rf x1), (2, va_rf x2), (3, va_rf x3)] [] := by
    intro S x1 x2 x3 h
    unfold f_typeAssign_120 at h
    refine x_aload_n C eX23_typeAssign_120 rfl 3 rfl ?_
    refine x_gR (o9 := x3) (ci := 15) (k9 := 13) (Cn := RX15) (T := TX15) (N := 14) C rfl wt_X15 (by decide) ww_347 eX23_typeAssign_121 h (fun v23 h => ?_)
    refine x_ifnull (tgt := 150) C eX23_typeAssign_124 (by decide) h (fun h => ?_) (fun h => ?_)
    · refine x_sub [0, 1, 2, 3] rfl ?_
      exact j_150 S x1 x2 x3 h
    · refine x_aload_n C eX23_typeAssign_127 rfl 3 rfl ?_
      refine x_gR (o9 := x3) (ci := 15) (k9 := 13) (Cn := RX15) (T := TX15) (N := 14) C rfl wt_X15 (by decide) ww_347 eX23_typeAssign_128 h (fun v24 h => ?_)
      refine x_gR (o9 := v24) (ci := 21) (k9 := 2) (Cn := RX21) (T := TX21) (N := 5) C rfl wt_X21 (by decide) ww_329 eX23_typeAssign_131 h (fun v25 h => ?_)
      refine x_ifnonnull (tgt := 150) C eX23_typeAssign_134 (by decide) h (fun h => ?_) (fun h => ?_)
      · refine x_sub [0, 1, 2, 3] rfl ?_
        exact j_150 S x1 x2 x3 h
      · refine x_tload_n C eX23_typeAssign_137 rfl 0 rfl ?_
        refine x_iconst (v := 4) C eX23_typeAssign_138 (by decide) ?_
        refine x_aload_n C eX23_typeAssign_139 rfl 1 rfl ?_
        refine x_gR (o9 := x1) (ci := 19) (k9 := 6) (Cn := RX19) (T := TX19) (N := 14) C rfl wt_X19 (by decide) ww_144 eX23_typeAssign_140 h (fun v26 h => ?_)
        refine x_gI (o9 := v26) (ci := 15) (k9 := 1) (Cn := RX15) (T := TX15) (N := 14) C rfl wt_X15 (by decide) ww_211 eX23_typeAssign_143 h (fun v27 h => ?_)
        refine x_cVv (As := [.int 4, .int v27]) (st := []) (n := 2) (frc := 1) (loc := 20) C h (fun S9 r9 e9 => k_X23_fail l D K m9 mr _ S9 4 v27 r9 e9) ww_2 ww_20 ww_21 ww_22 ww_16 (by decide +kernel) rfl ⟨by omega, by omega⟩ (Nat.le_of_ble_eq_true rfl) eX23_typeAssign_146 (fun S28 v29 h => ?_)
        exact x_vret C rfl rfl eX23_typeAssign_149 h
  have j_36 : ∀ (n_36 : Nat) (S : Sg) (x1 : Option Nat) (x2 : Option Nat) (x3 : Option Nat) (x4 : Int32), f_typeAssign_36 K n_36 S x1 x2 x3 x4 = some (Sf, rf) → WX p l e R s m args below meth c Q D A K m9 mr 5 S0 S 36 [(0, .ref m9), (1, va_rf x1), (2, va_rf x2), (3, va_rf x3), (4, .int x4)] [] := by
    intro n_36
    induction n_36 with
    | zero => intro S x1 x2 x3 x4 h; unfold f_typeAssign_36 at h; cases h
    | succ n_36 ih_36 =>
      intro S x1 x2 x3 x4 h
      have j_77 : ∀ (S : Sg) (x1 : Option Nat) (x2 : Option Nat) (x3 : Option Nat) (x4 : Int32), f_typeAssign_77 K (f_typeAssign_36 K n_36) S x1 x2 x3 x4 = some (Sf, rf) → WX p l e R s m args below meth c Q D A K m9 mr 5 S0 S 77 [(0, .ref m9), (1, va_rf x1), (2, va_rf x2), (3, va_rf x3), (4, .int x4)] [] := by
        intro S x1 x2 x3 x4 h
        unfold f_typeAssign_77 at h
        refine x_iinc (j := 4) (v := 1) (lv2 := [(0, .ref m9), (1, va_rf x1), (2, va_rf x2), (3, va_rf x3)]) C eX23_typeAssign_77 rfl (by decide) (by decide) rfl (oky rfl (oky (cat_rf x1) (oky (cat_rf x2) (oky (cat_rf x3) ok0)))) ?_
        refine x_goto (tgt := 36) C eX23_typeAssign_80 (by decide) ?_
        refine x_sub [1, 2, 3, 4, 0] rfl ?_
        exact ih_36 S x1 x2 x3 (x4 + 1) h
      unfold f_typeAssign_36 at h
      refine x_iload C eX23_typeAssign_36 4 rfl ?_
      refine x_tload_n C eX23_typeAssign_38 rfl 0 rfl ?_
      refine x_mV (k9 := 23) C (by decide) ww_332 eX23_typeAssign_39 rfl ?_
      refine x_ic_ge (tgt := 83) C eX23_typeAssign_42 (by decide) h (fun h => ?_) (fun h => ?_)
      · refine x_aload_n C eX23_typeAssign_83 rfl 3 rfl ?_
        refine x_gR (o9 := x3) (ci := 15) (k9 := 13) (Cn := RX15) (T := TX15) (N := 14) C rfl wt_X15 (by decide) ww_347 eX23_typeAssign_84 h (fun v10 h => ?_)
        refine x_ifnull (tgt := 120) C eX23_typeAssign_87 (by decide) h (fun h => ?_) (fun h => ?_)
        · refine x_sub [0, 1, 2, 3] rfl ?_
          exact j_120 S x1 x2 x3 h
        · refine x_aload_n C eX23_typeAssign_90 rfl 3 rfl ?_
          refine x_gR (o9 := x3) (ci := 15) (k9 := 13) (Cn := RX15) (T := TX15) (N := 14) C rfl wt_X15 (by decide) ww_347 eX23_typeAssign_91 h (fun v11 h => ?_)
          refine x_gR (o9 := v11) (ci := 21) (k9 := 2) (Cn := RX21) (T := TX21) (N := 5) C rfl wt_X21 (by decide) ww_329 eX23_typeAssign_94 h (fun v12 h => ?_)
          refine x_ifnonnull (tgt := 120) C eX23_typeAssign_97 (by decide) h (fun h => ?_) (fun h => ?_)
          · refine x_sub [0, 1, 2, 3] rfl ?_
            exact j_120 S x1 x2 x3 h
          · refine x_aload_n C eX23_typeAssign_100 rfl 2 rfl ?_
            refine x_gI (o9 := x2) (ci := 20) (k9 := 0) (Cn := RX20) (T := TX20) (N := 4) C rfl wt_X20 (by decide) ww_247 eX23_typeAssign_101 h (fun v13 h => ?_)
            refine x_bipush (v := 8) C eX23_typeAssign_104 (by decide) ?_
            refine x_ic_eq (tgt := 120) C eX23_typeAssign_106 (by decide) h (fun h => ?_) (fun h => ?_)
            · refine x_sub [0, 1, 2, 3] rfl ?_
              exact j_120 S x1 x2 x3 h
            · refine x_aload_n C eX23_typeAssign_109 rfl 3 rfl ?_
              refine x_gR (o9 := x3) (ci := 15) (k9 := 13) (Cn := RX15) (T := TX15) (N := 14) C rfl wt_X15 (by decide) ww_347 eX23_typeAssign_110 h (fun v14 h => ?_)
              refine x_aload_n C eX23_typeAssign_113 rfl 2 rfl ?_
              refine x_pR (o9 := v14) (Cv := "OwnedPlacesModel$Type") (ci := 21) (k9 := 2) (Cn := RX21) (T := TX21) (N := 5) C rfl wt_X21 tyX21_ok nmX21 (by decide) ww_329 rfl (by decide +kernel) eX23_typeAssign_114 h (fun S15 h => ?_)
              refine x_goto (tgt := 150) C eX23_typeAssign_117 (by decide) ?_
              refine x_sub [0, 1, 2, 3] rfl ?_
              exact j_150 S15 x1 x2 x3 h
      · refine x_tload_n C eX23_typeAssign_45 rfl 0 rfl ?_
        refine x_tload_n C eX23_typeAssign_46 rfl 0 rfl ?_
        refine x_mV (k9 := 22) C (by decide) ww_331 eX23_typeAssign_47 rfl ?_
        refine x_iload C eX23_typeAssign_50 4 rfl ?_
        refine x_rQ (r := 22) (t9 := 5) C (by decide) rfl (by decide) rfl eX23_typeAssign_52 h (fun v16 h => ?_)
        refine x_gI (o9 := v16) (ci := 21) (k9 := 1) (Cn := RX21) (T := TX21) (N := 5) C rfl wt_X21 (by decide) ww_328 eX23_typeAssign_53 h (fun v17 h => ?_)
        refine x_aload_n C eX23_typeAssign_56 rfl 3 rfl ?_
        refine x_gI (o9 := x3) (ci := 15) (k9 := 3) (Cn := RX15) (T := TX15) (N := 14) C rfl wt_X15 (by decide) ww_223 eX23_typeAssign_57 h (fun v18 h => ?_)
        refine x_cVi (As := [.int v17, .int v18]) (st := []) (n := 2) (frc := 1) (loc := 20) C h (fun S9 r9 e9 => k_X23_sameName l D K m9 mr _ S9 v17 v18 r9 e9) ww_5 ww_261 ww_262 ww_263 ww_16 (by decide +kernel) rfl ⟨by omega, by omega⟩ (Nat.le_of_ble_eq_true rfl) eX23_typeAssign_60 (fun S19 v20 h => ?_)
        refine x_if_eq (tgt := 77) C eX23_typeAssign_63 (by decide) h (fun h => ?_) (fun h => ?_)
        · refine x_sub [0, 1, 2, 3, 4] rfl ?_
          exact j_77 S19 x1 x2 x3 x4 h
        · refine x_aload_n C eX23_typeAssign_66 rfl 3 rfl ?_
          refine x_tload_n C eX23_typeAssign_67 rfl 0 rfl ?_
          refine x_mV (k9 := 22) C (by decide) ww_331 eX23_typeAssign_68 rfl ?_
          refine x_iload C eX23_typeAssign_71 4 rfl ?_
          refine x_rQ (r := 22) (t9 := 5) C (by decide) rfl (by decide) rfl eX23_typeAssign_73 h (fun v21 h => ?_)
          refine x_pR (o9 := x3) (Cv := "OwnedPlacesModel$Variable") (ci := 15) (k9 := 13) (Cn := RX15) (T := TX15) (N := 14) C rfl wt_X15 tyX15_ok nmX15 (by decide) ww_347 rfl (by decide +kernel) eX23_typeAssign_74 h (fun S22 h => ?_)
          refine x_sub [0, 1, 2, 3, 4] rfl ?_
          exact j_77 S22 x1 x2 x3 x4 h
  unfold f_typeAssign at h
  refine x_tload_n C eX23_typeAssign_0 rfl 0 rfl ?_
  refine x_aload_n C eX23_typeAssign_1 rfl 1 rfl ?_
  refine x_gR (o9 := x1) (ci := 19) (k9 := 6) (Cn := RX19) (T := TX19) (N := 14) C rfl wt_X19 (by decide) ww_144 eX23_typeAssign_2 h (fun v1 h => ?_)
  refine x_cVr (As := [va_rf v1]) (st := []) (n := 1) (frc := 417 + 3 * 410) (loc := 9996 + 72 * 410) C h (fun S9 r9 e9 => k_X23_value l D K m9 mr 410 _ S9 v1 r9 e9) ww_368 ww_373 ww_374 ww_375 ww_16 (by decide +kernel) rfl ⟨by omega, by omega⟩ (Nat.le_of_ble_eq_true rfl) eX23_typeAssign_5 (fun S2 v3 h => ?_)
  refine x_astore_n (lv2 := [(0, .ref m9), (1, va_rf x1)]) C eX23_typeAssign_8 rfl (by decide) rfl (oky rfl (oky (cat_rf x1) ok0)) ?_
  refine x_tload_n C eX23_typeAssign_9 rfl 1 rfl ?_
  refine x_cVi (As := []) (st := []) (n := 0) (frc := 1) (loc := 20) C h (fun S9 r9 e9 => k_X23_ok l D K m9 mr _ S9 r9 e9) ww_0 ww_13 ww_14 ww_15 ww_16 (by decide +kernel) rfl ⟨by omega, by omega⟩ (Nat.le_of_ble_eq_true rfl) eX23_typeAssign_10 (fun S4 v5 h => ?_)
  refine x_if_ne (tgt := 17) C eX23_typeAssign_13 (by decide) h (fun h => ?_) (fun h => ?_)
  · refine x_aload_n C eX23_typeAssign_17 rfl 2 rfl ?_
    refine x_gR (o9 := x1) (ci := 19) (k9 := 7) (Cn := RX19) (T := TX19) (N := 14) C rfl wt_X19 (by decide) ww_162 eX23_typeAssign_18 h (fun v6 h => ?_)
    refine x_cSr (As := [va_rf v6]) (st := []) (n := 1) (frc := 1) (loc := 20) C h (fun S9 r9 e9 => k_X23_bare l D K m9 mr _ S9 v6 r9 e9) ww_333 ww_335 ww_336 ww_16 (by decide +kernel) rfl ⟨by omega, by omega⟩ (Nat.le_of_ble_eq_true rfl) eX23_typeAssign_21 (fun S7 v8 h => ?_)
    refine x_astore_n (lv2 := [(2, va_rf v3), (0, .ref m9), (1, va_rf x1)]) C eX23_typeAssign_24 rfl (by decide) rfl (oky (cat_rf v3) (oky rfl (oky (cat_rf x1) ok0))) ?_
    refine x_aload_n C eX23_typeAssign_25 rfl 0 rfl ?_
    refine x_gI (o9 := v8) (ci := 15) (k9 := 0) (Cn := RX15) (T := TX15) (N := 14) C rfl wt_X15 (by decide) ww_191 eX23_typeAssign_26 h (fun v9 h => ?_)
    refine x_iconst (v := 2) C eX23_typeAssign_29 (by decide) ?_
    refine x_ic_ne (tgt := 150) C eX23_typeAssign_30 (by decide) h (fun h => ?_) (fun h => ?_)
    · refine x_sub [2, 3, 1, 0] rfl ?_
      exact j_150 S7 x1 v3 v8 h
    · refine x_iconst (v := 0) C eX23_typeAssign_33 (by decide) ?_
      refine x_istore (lv2 := [(3, va_rf v8), (2, va_rf v3), (0, .ref m9), (1, va_rf x1)]) C eX23_typeAssign_34 (by decide) rfl (oky (cat_rf v8) (oky (cat_rf v3) (oky rfl (oky (cat_rf x1) ok0)))) ?_
      refine x_sub [3, 4, 2, 1, 0] rfl ?_
      exact j_36 bigN S7 x1 v3 v8 0 h
  · exact x_vret C rfl rfl eX23_typeAssign_16 h
set_option maxRecDepth 20000 in
set_option maxHeartbeats 4000000 in
theorem k_X23_typeLet (l : Launch) (D : va_G) (K : Ky) (m9 : Nat) (mr : Nat → Nat) (S0 Sf : Sg) (x1 : Option Nat) (rf : Unit) (h : f_typeLet K S0 x1 = some (Sf, rf)) : CT l D K m9 mr yX23_typeLet (Cond.code yX23_typeLet cX23_typeLet 4 none) (1648) (39538) S0 Sf [.ref m9, va_rf x1] none := by
  refine x_start (cc := cX23_typeLet) (lv := [(0, .ref m9), (1, va_rf x1)]) rfl rfl (by decide) (by simp [lv_args, cat_rf, cat_i, cat_l, cat_a]) (by simp [lg_sl, cat_rf, cat_i, cat_l, cat_a]) (fun p e R s m args below meth c Q A C => ?_)
  have j_125 : ∀ (S : Sg), f_typeLet_125 K S = some (Sf, rf) → WX p l e R s m args below meth c Q D A K m9 mr 4 S0 S 125 [] [] := by
    intro S h
    unfold f_typeLet_125 at h
    exact x_vret C rfl rfl eX23_typeLet_125 h
  have j_101 : ∀ (S : Sg) (x1 : Option Nat) (x2 : Option Nat), f_typeLet_101 K S x1 x2 = some (Sf, rf) → WX p l e R s m args below meth c Q D A K m9 mr 4 S0 S 101 [(0, .ref m9), (1, va_rf x1), (2, va_rf x2)] [] := by
    intro S x1 x2 h
    unfold f_typeLet_101 at h
    refine x_tload_n C eX23_typeLet_101 rfl 0 rfl ?_
    refine x_cVi (As := []) (st := []) (n := 0) (frc := 1) (loc := 20) C h (fun S9 r9 e9 => k_X23_ok l D K m9 mr _ S9 r9 e9) ww_0 ww_13 ww_14 ww_15 ww_16 (by decide +kernel) rfl ⟨by omega, by omega⟩ (Nat.le_of_ble_eq_true rfl) eX23_typeLet_102 (fun S22 v23 h => ?_)
    refine x_if_eq (tgt := 125) C eX23_typeLet_105 (by decide) h (fun h => ?_) (fun h => ?_)
    · refine x_sub [] rfl ?_
      exact j_125 S22 h
    · refine x_aload_n C eX23_typeLet_108 rfl 1 rfl ?_
      refine x_tload_n C eX23_typeLet_109 rfl 0 rfl ?_
      refine x_aload_n C eX23_typeLet_110 rfl 1 rfl ?_
      refine x_gI (o9 := x1) (ci := 19) (k9 := 2) (Cn := RX19) (T := TX19) (N := 14) C rfl wt_X19 (by decide) ww_157 eX23_typeLet_111 h (fun v24 h => ?_)
      refine x_aload_n C eX23_typeLet_114 rfl 2 rfl ?_
      refine x_aload_n C eX23_typeLet_115 rfl 1 rfl ?_
      refine x_gI (o9 := x1) (ci := 19) (k9 := 3) (Cn := RX19) (T := TX19) (N := 14) C rfl wt_X19 (by decide) ww_153 eX23_typeLet_116 h (fun v25 h => ?_)
      refine x_cVr (As := [.int v24, va_rf x2, .int v25]) (st := [va_rf x1]) (n := 3) (frc := 2) (loc := 40) C h (fun S9 r9 e9 => k_X23_declare l D K m9 mr _ S9 v24 x2 v25 r9 e9) ww_322 ww_441 ww_442 ww_443 ww_16 (by decide +kernel) rfl ⟨by omega, by omega⟩ (Nat.le_of_ble_eq_true rfl) eX23_typeLet_119 (fun S26 v27 h => ?_)
      refine x_pR (o9 := x1) (Cv := "OwnedPlacesModel$Variable") (ci := 19) (k9 := 8) (Cn := RX19) (T := TX19) (N := 14) C rfl wt_X19 tyX19_ok nmX19 (by decide) ww_444 rfl (by decide +kernel) eX23_typeLet_122 h (fun S28 h => ?_)
      refine x_sub [] rfl ?_
      exact j_125 S28 h
  have j_99 : ∀ (S : Sg) (x1 : Option Nat) (x3 : Option Nat), f_typeLet_99 K S x1 x3 = some (Sf, rf) → WX p l e R s m args below meth c Q D A K m9 mr 4 S0 S 99 [(0, .ref m9), (1, va_rf x1), (3, va_rf x3)] [] := by
    intro S x1 x3 h
    unfold f_typeLet_99 at h
    refine x_aload_n C eX23_typeLet_99 rfl 2 rfl ?_
    refine x_astore_n (lv2 := [(0, .ref m9), (1, va_rf x1), (3, va_rf x3)]) C eX23_typeLet_100 rfl (by decide) rfl (oky rfl (oky (cat_rf x1) (oky (cat_rf x3) ok0))) ?_
    refine x_sub [1, 2, 0] rfl ?_
    exact j_101 S x1 x3 h
  have j_87 : ∀ (S : Sg) (x1 : Option Nat) (x3 : Option Nat), f_typeLet_87 K S x1 x3 = some (Sf, rf) → WX p l e R s m args below meth c Q D A K m9 mr 4 S0 S 87 [(0, .ref m9), (1, va_rf x1), (3, va_rf x3)] [] := by
    intro S x1 x3 h
    unfold f_typeLet_87 at h
    refine x_tload_n C eX23_typeLet_87 rfl 0 rfl ?_
    refine x_iconst (v := 4) C eX23_typeLet_88 (by decide) ?_
    refine x_aload_n C eX23_typeLet_89 rfl 1 rfl ?_
    refine x_gR (o9 := x1) (ci := 19) (k9 := 6) (Cn := RX19) (T := TX19) (N := 14) C rfl wt_X19 (by decide) ww_144 eX23_typeLet_90 h (fun v18 h => ?_)
    refine x_gI (o9 := v18) (ci := 15) (k9 := 1) (Cn := RX15) (T := TX15) (N := 14) C rfl wt_X15 (by decide) ww_211 eX23_typeLet_93 h (fun v19 h => ?_)
    refine x_cVv (As := [.int 4, .int v19]) (st := []) (n := 2) (frc := 1) (loc := 20) C h (fun S9 r9 e9 => k_X23_fail l D K m9 mr _ S9 4 v19 r9 e9) ww_2 ww_20 ww_21 ww_22 ww_16 (by decide +kernel) rfl ⟨by omega, by omega⟩ (Nat.le_of_ble_eq_true rfl) eX23_typeLet_96 (fun S20 v21 h => ?_)
    refine x_sub [0, 1, 2] rfl ?_
    exact j_99 S20 x1 x3 h
  have j_36 : ∀ (S : Sg) (x1 : Option Nat) (x2 : Option Nat), f_typeLet_36 K S x1 x2 = some (Sf, rf) → WX p l e R s m args below meth c Q D A K m9 mr 4 S0 S 36 [(0, .ref m9), (1, va_rf x1), (2, va_rf x2)] [] := by
    intro S x1 x2 h
    unfold f_typeLet_36 at h
    refine x_tload_n C eX23_typeLet_36 rfl 0 rfl ?_
    refine x_cVi (As := []) (st := []) (n := 0) (frc := 1) (loc := 20) C h (fun S9 r9 e9 => k_X23_ok l D K m9 mr _ S9 r9 e9) ww_0 ww_13 ww_14 ww_15 ww_16 (by decide +kernel) rfl ⟨by omega, by omega⟩ (Nat.le_of_ble_eq_true rfl) eX23_typeLet_37 (fun S9 v10 h => ?_)
    refine x_if_eq (tgt := 101) C eX23_typeLet_40 (by decide) h (fun h => ?_) (fun h => ?_)
    · refine x_sub [0, 1, 2] rfl ?_
      exact j_101 S9 x1 x2 h
    · refine x_aload_n C eX23_typeLet_43 rfl 1 rfl ?_
      refine x_gR (o9 := x1) (ci := 19) (k9 := 6) (Cn := RX19) (T := TX19) (N := 14) C rfl wt_X19 (by decide) ww_144 eX23_typeLet_44 h (fun v11 h => ?_)
      refine x_ifnull (tgt := 101) C eX23_typeLet_47 (by decide) h (fun h => ?_) (fun h => ?_)
      · refine x_sub [0, 1, 2] rfl ?_
        exact j_101 S9 x1 x2 h
      · refine x_tload_n C eX23_typeLet_50 rfl 0 rfl ?_
        refine x_aload_n C eX23_typeLet_51 rfl 1 rfl ?_
        refine x_gR (o9 := x1) (ci := 19) (k9 := 6) (Cn := RX19) (T := TX19) (N := 14) C rfl wt_X19 (by decide) ww_144 eX23_typeLet_52 h (fun v12 h => ?_)
        refine x_cVr (As := [va_rf v12]) (st := []) (n := 1) (frc := 417 + 3 * 410) (loc := 9996 + 72 * 410) C h (fun S9 r9 e9 => k_X23_value l D K m9 mr 410 _ S9 v12 r9 e9) ww_368 ww_373 ww_374 ww_375 ww_16 (by decide +kernel) rfl ⟨by omega, by omega⟩ (Nat.le_of_ble_eq_true rfl) eX23_typeLet_55 (fun S13 v14 h => ?_)
        refine x_astore_n (lv2 := [(0, .ref m9), (1, va_rf x1), (2, va_rf x2)]) C eX23_typeLet_58 rfl (by decide) rfl (oky rfl (oky (cat_rf x1) (oky (cat_rf x2) ok0))) ?_
        refine x_tload_n C eX23_typeLet_59 rfl 1 rfl ?_
        refine x_cVi (As := []) (st := []) (n := 0) (frc := 1) (loc := 20) C h (fun S9 r9 e9 => k_X23_ok l D K m9 mr _ S9 r9 e9) ww_0 ww_13 ww_14 ww_15 ww_16 (by decide +kernel) rfl ⟨by omega, by omega⟩ (Nat.le_of_ble_eq_true rfl) eX23_typeLet_60 (fun S15 v16 h => ?_)
        refine x_if_eq (tgt := 99) C eX23_typeLet_63 (by decide) h (fun h => ?_) (fun h => ?_)
        · refine x_sub [1, 2, 0] rfl ?_
          exact j_99 S15 x1 v14 h
        · refine x_aload_n C eX23_typeLet_66 rfl 3 rfl ?_
          refine x_ifnonnull (tgt := 82) C eX23_typeLet_67 (by decide) h (fun h => ?_) (fun h => ?_)
          · refine x_aload_n C eX23_typeLet_82 rfl 0 rfl ?_
            refine x_aload_n C eX23_typeLet_83 rfl 3 rfl ?_
            refine x_ac_eq (tgt := 99) C eX23_typeLet_84 (by decide) h (fun h => ?_) (fun h => ?_)
            · refine x_sub [1, 2, 0] rfl ?_
              exact j_99 S15 x1 v14 h
            · refine x_sub [1, 2, 0] rfl ?_
              exact j_87 S15 x1 v14 h
          · refine x_aload_n C eX23_typeLet_70 rfl 0 rfl ?_
            refine x_gI (o9 := v14) (ci := 20) (k9 := 0) (Cn := RX20) (T := TX20) (N := 4) C rfl wt_X20 (by decide) ww_247 eX23_typeLet_71 h (fun v17 h => ?_)
            refine x_bipush (v := 8) C eX23_typeLet_74 (by decide) ?_
            refine x_ic_ne (tgt := 99) C eX23_typeLet_76 (by decide) h (fun h => ?_) (fun h => ?_)
            · refine x_sub [1, 2, 0] rfl ?_
              exact j_99 S15 x1 v14 h
            · refine x_goto (tgt := 87) C eX23_typeLet_79 (by decide) ?_
              refine x_sub [1, 2, 0] rfl ?_
              exact j_87 S15 x1 v14 h
  have j_20 : ∀ (S : Sg) (x1 : Option Nat) (y0 : Option Nat), f_typeLet_20 K S x1 y0 = some (Sf, rf) → WX p l e R s m args below meth c Q D A K m9 mr 4 S0 S 20 [(0, .ref m9), (1, va_rf x1)] [va_rf y0] := by
    intro S x1 y0 h
    unfold f_typeLet_20 at h
    refine x_astore_n (lv2 := [(0, .ref m9), (1, va_rf x1)]) C eX23_typeLet_20 rfl (by decide) rfl (oky rfl (oky (cat_rf x1) ok0)) ?_
    refine x_aload_n C eX23_typeLet_21 rfl 2 rfl ?_
    refine x_gR (o9 := x1) (ci := 19) (k9 := 5) (Cn := RX19) (T := TX19) (N := 14) C rfl wt_X19 (by decide) ww_158 eX23_typeLet_22 h (fun v5 h => ?_)
    refine x_ifnull (tgt := 36) C eX23_typeLet_25 (by decide) h (fun h => ?_) (fun h => ?_)
    · refine x_sub [1, 2, 0] rfl ?_
      exact j_36 S x1 y0 h
    · refine x_tload_n C eX23_typeLet_28 rfl 1 rfl ?_
      refine x_aload_n C eX23_typeLet_29 rfl 2 rfl ?_
      refine x_gR (o9 := x1) (ci := 19) (k9 := 5) (Cn := RX19) (T := TX19) (N := 14) C rfl wt_X19 (by decide) ww_158 eX23_typeLet_30 h (fun v6 h => ?_)
      refine x_cVv (As := [va_rf v6]) (st := []) (n := 1) (frc := 2) (loc := 42) C h (fun S9 r9 e9 => k_X23_noLife l D K m9 mr _ S9 v6 r9 e9) ww_274 ww_438 ww_439 ww_440 ww_16 (by decide +kernel) rfl ⟨by omega, by omega⟩ (Nat.le_of_ble_eq_true rfl) eX23_typeLet_33 (fun S7 v8 h => ?_)
      refine x_sub [1, 2, 0] rfl ?_
      exact j_36 S7 x1 y0 h
  unfold f_typeLet at h
  refine x_aload_n C eX23_typeLet_0 rfl 1 rfl ?_
  refine x_gR (o9 := x1) (ci := 19) (k9 := 5) (Cn := RX19) (T := TX19) (N := 14) C rfl wt_X19 (by decide) ww_158 eX23_typeLet_1 h (fun v1 h => ?_)
  refine x_ifnonnull (tgt := 11) C eX23_typeLet_4 (by decide) h (fun h => ?_) (fun h => ?_)
  · refine x_tload_n C eX23_typeLet_11 rfl 0 rfl ?_
    refine x_aload_n C eX23_typeLet_12 rfl 1 rfl ?_
    refine x_gR (o9 := x1) (ci := 19) (k9 := 5) (Cn := RX19) (T := TX19) (N := 14) C rfl wt_X19 (by decide) ww_158 eX23_typeLet_13 h (fun v2 h => ?_)
    refine x_iconst (v := 1) C eX23_typeLet_16 (by decide) ?_
    refine x_cVr (As := [va_rf v2, .int 1]) (st := []) (n := 2) (frc := 4 + 1 * 20) (loc := 85 + 24 * 20) C h (fun S9 r9 e9 => k_X23_resolve l D K m9 mr 20 _ S9 v2 1 r9 e9) ww_264 ww_268 ww_269 ww_270 ww_16 (by decide +kernel) rfl ⟨by omega, by omega⟩ (Nat.le_of_ble_eq_true rfl) eX23_typeLet_17 (fun S3 v4 h => ?_)
    refine x_sub [0, 1] rfl ?_
    exact j_20 S3 x1 v4 h
  · refine x_null C eX23_typeLet_7 ?_
    refine x_goto (tgt := 20) C eX23_typeLet_8 (by decide) ?_
    refine x_sub [0, 1] rfl ?_
    exact j_20 S0 x1 none h
set_option maxRecDepth 20000 in
set_option maxHeartbeats 4000000 in
theorem k_X23_typeReturn (l : Launch) (D : va_G) (K : Ky) (m9 : Nat) (mr : Nat → Nat) (S0 Sf : Sg) (x1 : Option Nat) (rf : Unit) (h : f_typeReturn K S0 x1 = some (Sf, rf)) : CT l D K m9 mr yX23_typeReturn (Cond.code yX23_typeReturn cX23_typeReturn 3 none) (1648) (39538) S0 Sf [.ref m9, va_rf x1] none := by
  refine x_start (cc := cX23_typeReturn) (lv := [(0, .ref m9), (1, va_rf x1)]) rfl rfl (by decide) (by simp [lv_args, cat_rf, cat_i, cat_l, cat_a]) (by simp [lg_sl, cat_rf, cat_i, cat_l, cat_a]) (fun p e R s m args below meth c Q A C => ?_)
  have j_31 : ∀ (S : Sg), f_typeReturn_31 K S = some (Sf, rf) → WX p l e R s m args below meth c Q D A K m9 mr 3 S0 S 31 [] [] := by
    intro S h
    unfold f_typeReturn_31 at h
    exact x_vret C rfl rfl eX23_typeReturn_31 h
  have j_80 : ∀ (S : Sg), f_typeReturn_80 K S = some (Sf, rf) → WX p l e R s m args below meth c Q D A K m9 mr 3 S0 S 80 [] [] := by
    intro S h
    unfold f_typeReturn_80 at h
    exact x_vret C rfl rfl eX23_typeReturn_80 h
  have j_68 : ∀ (S : Sg) (x1 : Option Nat), f_typeReturn_68 K S x1 = some (Sf, rf) → WX p l e R s m args below meth c Q D A K m9 mr 3 S0 S 68 [(0, .ref m9), (1, va_rf x1)] [] := by
    intro S x1 h
    unfold f_typeReturn_68 at h
    refine x_tload_n C eX23_typeReturn_68 rfl 0 rfl ?_
    refine x_iconst (v := 4) C eX23_typeReturn_69 (by decide) ?_
    refine x_aload_n C eX23_typeReturn_70 rfl 1 rfl ?_
    refine x_gR (o9 := x1) (ci := 19) (k9 := 6) (Cn := RX19) (T := TX19) (N := 14) C rfl wt_X19 (by decide) ww_144 eX23_typeReturn_71 h (fun v14 h => ?_)
    refine x_gI (o9 := v14) (ci := 15) (k9 := 1) (Cn := RX15) (T := TX15) (N := 14) C rfl wt_X15 (by decide) ww_211 eX23_typeReturn_74 h (fun v15 h => ?_)
    refine x_cVv (As := [.int 4, .int v15]) (st := []) (n := 2) (frc := 1) (loc := 20) C h (fun S9 r9 e9 => k_X23_fail l D K m9 mr _ S9 4 v15 r9 e9) ww_2 ww_20 ww_21 ww_22 ww_16 (by decide +kernel) rfl ⟨by omega, by omega⟩ (Nat.le_of_ble_eq_true rfl) eX23_typeReturn_77 (fun S16 v17 h => ?_)
    refine x_sub [] rfl ?_
    exact j_80 S16 h
  unfold f_typeReturn at h
  refine x_aload_n C eX23_typeReturn_0 rfl 1 rfl ?_
  refine x_gR (o9 := x1) (ci := 19) (k9 := 6) (Cn := RX19) (T := TX19) (N := 14) C rfl wt_X19 (by decide) ww_144 eX23_typeReturn_1 h (fun v1 h => ?_)
  refine x_ifnonnull (tgt := 32) C eX23_typeReturn_4 (by decide) h (fun h => ?_) (fun h => ?_)
  · refine x_tload_n C eX23_typeReturn_32 rfl 0 rfl ?_
    refine x_aload_n C eX23_typeReturn_33 rfl 1 rfl ?_
    refine x_gR (o9 := x1) (ci := 19) (k9 := 6) (Cn := RX19) (T := TX19) (N := 14) C rfl wt_X19 (by decide) ww_144 eX23_typeReturn_34 h (fun v2 h => ?_)
    refine x_cVr (As := [va_rf v2]) (st := []) (n := 1) (frc := 417 + 3 * 410) (loc := 9996 + 72 * 410) C h (fun S9 r9 e9 => k_X23_value l D K m9 mr 410 _ S9 v2 r9 e9) ww_368 ww_373 ww_374 ww_375 ww_16 (by decide +kernel) rfl ⟨by omega, by omega⟩ (Nat.le_of_ble_eq_true rfl) eX23_typeReturn_37 (fun S3 v4 h => ?_)
    refine x_astore_n (lv2 := [(0, .ref m9), (1, va_rf x1)]) C eX23_typeReturn_40 rfl (by decide) rfl (oky rfl (oky (cat_rf x1) ok0)) ?_
    refine x_tload_n C eX23_typeReturn_41 rfl 1 rfl ?_
    refine x_cVi (As := []) (st := []) (n := 0) (frc := 1) (loc := 20) C h (fun S9 r9 e9 => k_X23_ok l D K m9 mr _ S9 r9 e9) ww_0 ww_13 ww_14 ww_15 ww_16 (by decide +kernel) rfl ⟨by omega, by omega⟩ (Nat.le_of_ble_eq_true rfl) eX23_typeReturn_42 (fun S5 v6 h => ?_)
    refine x_if_eq (tgt := 80) C eX23_typeReturn_45 (by decide) h (fun h => ?_) (fun h => ?_)
    · refine x_sub [] rfl ?_
      exact j_80 S5 h
    · refine x_aload_n C eX23_typeReturn_48 rfl 0 rfl ?_
      refine x_tload_n C eX23_typeReturn_49 rfl 1 rfl ?_
      refine x_mV (k9 := 25) C (by decide) ww_447 eX23_typeReturn_50 rfl ?_
      refine x_gR (o9 := (Zf S5)) (ci := 16) (k9 := 15) (Cn := RX16) (T := TX16) (N := 22) C rfl wt_X16 (by decide) ww_285 eX23_typeReturn_53 h (fun v7 h => ?_)
      refine x_ac_ne (tgt := 68) C eX23_typeReturn_56 (by decide) h (fun h => ?_) (fun h => ?_)
      · refine x_sub [1, 2] rfl ?_
        exact j_68 S5 x1 h
      · refine x_aload_n C eX23_typeReturn_59 rfl 0 rfl ?_
        refine x_gI (o9 := v4) (ci := 20) (k9 := 0) (Cn := RX20) (T := TX20) (N := 4) C rfl wt_X20 (by decide) ww_247 eX23_typeReturn_60 h (fun v8 h => ?_)
        refine x_bipush (v := 8) C eX23_typeReturn_63 (by decide) ?_
        refine x_ic_ne (tgt := 80) C eX23_typeReturn_65 (by decide) h (fun h => ?_) (fun h => ?_)
        · refine x_sub [] rfl ?_
          exact j_80 S5 h
        · refine x_sub [1, 2] rfl ?_
          exact j_68 S5 x1 h
  · refine x_tload_n C eX23_typeReturn_7 rfl 0 rfl ?_
    refine x_mV (k9 := 25) C (by decide) ww_447 eX23_typeReturn_8 rfl ?_
    refine x_gR (o9 := (Zf S0)) (ci := 16) (k9 := 15) (Cn := RX16) (T := TX16) (N := 22) C rfl wt_X16 (by decide) ww_285 eX23_typeReturn_11 h (fun v9 h => ?_)
    refine x_gI (o9 := v9) (ci := 20) (k9 := 0) (Cn := RX20) (T := TX20) (N := 4) C rfl wt_X20 (by decide) ww_247 eX23_typeReturn_14 h (fun v10 h => ?_)
    refine x_bipush (v := 8) C eX23_typeReturn_17 (by decide) ?_
    refine x_ic_eq (tgt := 31) C eX23_typeReturn_19 (by decide) h (fun h => ?_) (fun h => ?_)
    · refine x_sub [] rfl ?_
      exact j_31 S0 h
    · refine x_tload_n C eX23_typeReturn_22 rfl 0 rfl ?_
      refine x_iconst (v := 4) C eX23_typeReturn_23 (by decide) ?_
      refine x_aload_n C eX23_typeReturn_24 rfl 1 rfl ?_
      refine x_gI (o9 := x1) (ci := 19) (k9 := 1) (Cn := RX19) (T := TX19) (N := 14) C rfl wt_X19 (by decide) ww_133 eX23_typeReturn_25 h (fun v11 h => ?_)
      refine x_cVv (As := [.int 4, .int v11]) (st := []) (n := 2) (frc := 1) (loc := 20) C h (fun S9 r9 e9 => k_X23_fail l D K m9 mr _ S9 4 v11 r9 e9) ww_2 ww_20 ww_21 ww_22 ww_16 (by decide +kernel) rfl ⟨by omega, by omega⟩ (Nat.le_of_ble_eq_true rfl) eX23_typeReturn_28 (fun S12 v13 h => ?_)
      refine x_sub [] rfl ?_
      exact j_31 S12 h
set_option maxRecDepth 20000 in
set_option maxHeartbeats 4000000 in
theorem k_X23_typeArm (l : Launch) (D : va_G) (K : Ky) (m9 : Nat) (mr : Nat → Nat) (V : Sg → Option Nat → Option (Sg × Unit)) (d : Nat) (hV : ∀ (S0 Sf : Sg) (x1 : Option Nat) (rf : Unit), V S0 x1 = some (Sf, rf) → CT l D K m9 mr yX23_typeBlock (Cond.code yX23_typeBlock cX23_typeBlock 4 none) (1649 + 4 * d) (39562 + 97 * d) S0 Sf [.ref m9, va_rf x1] none) (S0 Sf : Sg) (x1 : Option Nat) (x2 : Option Nat) (x3 : Option Nat) (rf : Unit) (h : f_typeArm K V S0 x1 x2 x3 = some (Sf, rf)) : CT l D K m9 mr yX23_typeArm (Cond.code yX23_typeArm cX23_typeArm 6 none) (1650 + 4 * d) (39585 + 97 * d) S0 Sf [.ref m9, va_rf x1, va_rf x2, va_rf x3] none := by
  refine x_start (cc := cX23_typeArm) (lv := [(0, .ref m9), (1, va_rf x1), (2, va_rf x2), (3, va_rf x3)]) rfl rfl (by decide) (by simp [lv_args, cat_rf, cat_i, cat_l, cat_a]) (by simp [lg_sl, cat_rf, cat_i, cat_l, cat_a]) (fun p e R s m args below meth c Q A C => ?_)
  have j_9 : ∀ (n_9 : Nat) (S : Sg) (x1 : Option Nat) (x2 : Option Nat) (x3 : Option Nat) (x4 : Int32) (x5 : Int32), f_typeArm_9 K V n_9 S x1 x2 x3 x4 x5 = some (Sf, rf) → WX p l e R s m args below meth c Q D A K m9 mr 6 S0 S 9 [(0, .ref m9), (1, va_rf x1), (2, va_rf x2), (3, va_rf x3), (4, .int x4), (5, .int x5)] [] := by
    intro n_9
    induction n_9 with
    | zero => intro S x1 x2 x3 x4 x5 h; unfold f_typeArm_9 at h; cases h
    | succ n_9 ih_9 =>
      intro S x1 x2 x3 x4 x5 h
      have j_75 : ∀ (S : Sg) (x1 : Option Nat) (x2 : Option Nat) (x3 : Option Nat) (x4 : Int32) (x5 : Int32) (y0 : Option Nat) (y1 : Int32) (y3 : Int32) (y4 : Option Nat), f_typeArm_75 K V (f_typeArm_9 K V n_9) S x1 x2 x3 x4 x5 y0 y1 y3 y4 = some (Sf, rf) → WX p l e R s m args below meth c Q D A K m9 mr 6 S0 S 75 [(0, .ref m9), (1, va_rf x1), (2, va_rf x2), (3, va_rf x3), (4, .int x4), (5, .int x5)] [va_rf y0, .int y1, .ref m9, .int y3, va_rf y4] := by
        intro S x1 x2 x3 x4 x5 y0 y1 y3 y4 h
        unfold f_typeArm_75 at h
        refine x_iconst (v := 0) C eX23_typeArm_75 (by decide) ?_
        refine x_cVr (As := [.int y1, va_rf y0, .int 0]) (st := [.int y3, va_rf y4]) (n := 3) (frc := 2) (loc := 40) C h (fun S9 r9 e9 => k_X23_declare l D K m9 mr _ S9 y1 y0 0 r9 e9) ww_322 ww_441 ww_442 ww_443 ww_16 (by decide +kernel) rfl ⟨by omega, by omega⟩ (Nat.le_of_ble_eq_true rfl) eX23_typeArm_76 (fun S17 v18 h => ?_)
        refine x_bQ (t9 := 5) (ci := 21) C rfl rfl eX23_typeArm_79 h (fun S19 h => ?_)
        refine x_iinc (j := 5) (v := 1) (lv2 := [(0, .ref m9), (1, va_rf x1), (2, va_rf x2), (3, va_rf x3), (4, .int x4)]) C eX23_typeArm_80 rfl (by decide) (by decide) rfl (oky rfl (oky (cat_rf x1) (oky (cat_rf x2) (oky (cat_rf x3) (oky rfl ok0))))) ?_
        refine x_goto (tgt := 9) C eX23_typeArm_83 (by decide) ?_
        refine x_sub [1, 2, 3, 4, 5, 0] rfl ?_
        exact ih_9 S19 x1 x2 x3 x4 (x5 + 1) h
      have j_54 : ∀ (S : Sg) (x1 : Option Nat) (x2 : Option Nat) (x3 : Option Nat) (x4 : Int32) (x5 : Int32) (y0 : Int32) (y2 : Int32) (y4 : Int32) (y5 : Option Nat), f_typeArm_54 K V (f_typeArm_9 K V n_9) S x1 x2 x3 x4 x5 y0 y2 y4 y5 = some (Sf, rf) → WX p l e R s m args below meth c Q D A K m9 mr 6 S0 S 54 [(0, .ref m9), (1, va_rf x1), (2, va_rf x2), (3, va_rf x3), (4, .int x4), (5, .int x5)] [.int y0, .ref m9, .int y2, .ref m9, .int y4, va_rf y5] := by
        intro S x1 x2 x3 x4 x5 y0 y2 y4 y5 h
        unfold f_typeArm_54 at h
        refine x_iconst (v := 0) C eX23_typeArm_54 (by decide) ?_
        refine x_aload_n C eX23_typeArm_55 rfl 3 rfl ?_
        refine x_gR (o9 := x3) (ci := 17) (k9 := 2) (Cn := RX17) (T := TX17) (N := 3) C rfl wt_X17 (by decide) ww_68 eX23_typeArm_56 h (fun v13 h => ?_)
        refine x_iload C eX23_typeArm_59 5 rfl ?_
        refine x_aQ (t9 := 4) C rfl eX23_typeArm_61 h (fun v14 h => ?_)
        refine x_cVr (As := [.int y0, .int 0, va_rf v14]) (st := [.int y2, .ref m9, .int y4, va_rf y5]) (n := 3) (frc := 2) (loc := 40) C h (fun S9 r9 e9 => k_X23_type l D K m9 mr _ S9 y0 0 v14 r9 e9) ww_244 ww_255 ww_256 ww_257 ww_16 (by decide +kernel) rfl ⟨by omega, by omega⟩ (Nat.le_of_ble_eq_true rfl) eX23_typeArm_62 (fun S15 v16 h => ?_)
        refine x_goto (tgt := 75) C eX23_typeArm_65 (by decide) ?_
        refine x_sub [0, 1, 2, 3, 4, 5] rfl ?_
        exact j_75 S15 x1 x2 x3 x4 x5 v16 y2 y4 y5 h
      unfold f_typeArm_9 at h
      refine x_iload C eX23_typeArm_9 5 rfl ?_
      refine x_aload_n C eX23_typeArm_11 rfl 2 rfl ?_
      refine x_gI (o9 := x2) (ci := 13) (k9 := 3) (Cn := RX13) (T := TX13) (N := 6) C rfl wt_X13 (by decide) ww_187 eX23_typeArm_12 h (fun v1 h => ?_)
      refine x_ic_ge (tgt := 86) C eX23_typeArm_15 (by decide) h (fun h => ?_) (fun h => ?_)
      · refine x_tload_n C eX23_typeArm_86 rfl 0 rfl ?_
        refine x_aload_n C eX23_typeArm_87 rfl 2 rfl ?_
        refine x_gR (o9 := x2) (ci := 13) (k9 := 5) (Cn := RX13) (T := TX13) (N := 6) C rfl wt_X13 (by decide) ww_189 eX23_typeArm_88 h (fun v2 h => ?_)
        refine x_cVv (As := [va_rf v2]) (st := []) (n := 1) (frc := 1649 + 4 * d) (loc := 39562 + 97 * d) C h (fun S9 r9 e9 => hV _ S9 v2 r9 e9) ww_413 ww_428 ww_429 ww_430 ww_16 (by decide +kernel) rfl ⟨by omega, by omega⟩ (Nat.le_of_ble_eq_true rfl) eX23_typeArm_91 (fun S3 v4 h => ?_)
        refine x_tload_n C eX23_typeArm_94 rfl 0 rfl ?_
        refine x_iload C eX23_typeArm_95 4 rfl ?_
        refine x_pM (k9 := 23) C (by decide) rfl (by decide) ww_332 rfl (by decide +kernel) eX23_typeArm_97 h (fun S5 h => ?_)
        exact x_vret C rfl rfl eX23_typeArm_100 h
      · refine x_aload_n C eX23_typeArm_18 rfl 2 rfl ?_
        refine x_gR (o9 := x2) (ci := 13) (k9 := 4) (Cn := RX13) (T := TX13) (N := 6) C rfl wt_X13 (by decide) ww_454 eX23_typeArm_19 h (fun v6 h => ?_)
        refine x_iload C eX23_typeArm_22 5 rfl ?_
        refine x_tload_n C eX23_typeArm_24 rfl 0 rfl ?_
        refine x_aload_n C eX23_typeArm_25 rfl 2 rfl ?_
        refine x_gR (o9 := x2) (ci := 13) (k9 := 2) (Cn := RX13) (T := TX13) (N := 6) C rfl wt_X13 (by decide) ww_188 eX23_typeArm_26 h (fun v7 h => ?_)
        refine x_iload C eX23_typeArm_29 5 rfl ?_
        refine x_aI C eX23_typeArm_31 h (fun v8 h => ?_)
        refine x_aload_n C eX23_typeArm_32 rfl 1 rfl ?_
        refine x_gI (o9 := x1) (ci := 19) (k9 := 4) (Cn := RX19) (T := TX19) (N := 14) C rfl wt_X19 (by decide) ww_176 eX23_typeArm_33 h (fun v9 h => ?_)
        refine x_if_eq (tgt := 68) C eX23_typeArm_36 (by decide) h (fun h => ?_) (fun h => ?_)
        · refine x_aload_n C eX23_typeArm_68 rfl 3 rfl ?_
          refine x_gR (o9 := x3) (ci := 17) (k9 := 2) (Cn := RX17) (T := TX17) (N := 3) C rfl wt_X17 (by decide) ww_68 eX23_typeArm_69 h (fun v10 h => ?_)
          refine x_iload C eX23_typeArm_72 5 rfl ?_
          refine x_aQ (t9 := 4) C rfl eX23_typeArm_74 h (fun v11 h => ?_)
          refine x_sub [0, 1, 2, 3, 4, 5] rfl ?_
          exact j_75 S x1 x2 x3 x4 x5 v11 v8 x5 v6 h
        · refine x_tload_n C eX23_typeArm_39 rfl 0 rfl ?_
          refine x_aload_n C eX23_typeArm_40 rfl 1 rfl ?_
          refine x_gI (o9 := x1) (ci := 19) (k9 := 3) (Cn := RX19) (T := TX19) (N := 14) C rfl wt_X19 (by decide) ww_153 eX23_typeArm_41 h (fun v12 h => ?_)
          refine x_if_eq (tgt := 52) C eX23_typeArm_44 (by decide) h (fun h => ?_) (fun h => ?_)
          · refine x_bipush (v := 6) C eX23_typeArm_52 (by decide) ?_
            refine x_sub [0, 1, 2, 3, 4, 5] rfl ?_
            exact j_54 S x1 x2 x3 x4 x5 6 v8 x5 v6 h
          · refine x_bipush (v := 7) C eX23_typeArm_47 (by decide) ?_
            refine x_goto (tgt := 54) C eX23_typeArm_49 (by decide) ?_
            refine x_sub [0, 1, 2, 3, 4, 5] rfl ?_
            exact j_54 S x1 x2 x3 x4 x5 7 v8 x5 v6 h
  unfold f_typeArm at h
  refine x_tload_n C eX23_typeArm_0 rfl 0 rfl ?_
  refine x_mV (k9 := 23) C (by decide) ww_332 eX23_typeArm_1 rfl ?_
  refine x_istore (lv2 := [(0, .ref m9), (1, va_rf x1), (2, va_rf x2), (3, va_rf x3)]) C eX23_typeArm_4 (by decide) rfl (oky rfl (oky (cat_rf x1) (oky (cat_rf x2) (oky (cat_rf x3) ok0)))) ?_
  refine x_iconst (v := 0) C eX23_typeArm_6 (by decide) ?_
  refine x_istore (lv2 := [(4, .int (Zi S0 23)), (0, .ref m9), (1, va_rf x1), (2, va_rf x2), (3, va_rf x3)]) C eX23_typeArm_7 (by decide) rfl (oky rfl (oky rfl (oky (cat_rf x1) (oky (cat_rf x2) (oky (cat_rf x3) ok0))))) ?_
  refine x_sub [2, 3, 4, 5, 1, 0] rfl ?_
  exact j_9 bigN S0 x1 x2 x3 (Zi S0 23) 0 h
set_option maxRecDepth 20000 in
set_option maxHeartbeats 4000000 in
theorem k_X23_typeMatch (l : Launch) (D : va_G) (K : Ky) (m9 : Nat) (mr : Nat → Nat) (V : Sg → Option Nat → Option (Sg × Unit)) (d : Nat) (hV : ∀ (S0 Sf : Sg) (x1 : Option Nat) (rf : Unit), V S0 x1 = some (Sf, rf) → CT l D K m9 mr yX23_typeBlock (Cond.code yX23_typeBlock cX23_typeBlock 4 none) (1649 + 4 * d) (39562 + 97 * d) S0 Sf [.ref m9, va_rf x1] none) (S0 Sf : Sg) (x1 : Option Nat) (rf : Unit) (h : f_typeMatch K V S0 x1 = some (Sf, rf)) : CT l D K m9 mr yX23_typeMatch (Cond.code yX23_typeMatch cX23_typeMatch 8 none) (1651 + 4 * d) (39610 + 97 * d) S0 Sf [.ref m9, va_rf x1] none := by
  refine x_start (cc := cX23_typeMatch) (lv := [(0, .ref m9), (1, va_rf x1)]) rfl rfl (by decide) (by simp [lv_args, cat_rf, cat_i, cat_l, cat_a]) (by simp [lg_sl, cat_rf, cat_i, cat_l, cat_a]) (fun p e R s m args below meth c Q A C => ?_)
  have j_313 : ∀ (S : Sg), f_typeMatch_313 K V S = some (Sf, rf) → WX p l e R s m args below meth c Q D A K m9 mr 8 S0 S 313 [] [] := by
    intro S h
    unfold f_typeMatch_313 at h
    exact x_vret C rfl rfl eX23_typeMatch_313 h
  have j_286 : ∀ (S : Sg) (x1 : Option Nat) (x3 : Option Nat), f_typeMatch_286 K V S x1 x3 = some (Sf, rf) → WX p l e R s m args below meth c Q D A K m9 mr 8 S0 S 286 [(0, .ref m9), (1, va_rf x1), (3, va_rf x3)] [] := by
    intro S x1 x3 h
    unfold f_typeMatch_286 at h
    refine x_tload_n C eX23_typeMatch_286 rfl 0 rfl ?_
    refine x_cVi (As := []) (st := []) (n := 0) (frc := 1) (loc := 20) C h (fun S9 r9 e9 => k_X23_ok l D K m9 mr _ S9 r9 e9) ww_0 ww_13 ww_14 ww_15 ww_16 (by decide +kernel) rfl ⟨by omega, by omega⟩ (Nat.le_of_ble_eq_true rfl) eX23_typeMatch_287 (fun S62 v63 h => ?_)
    refine x_if_eq (tgt := 313) C eX23_typeMatch_290 (by decide) h (fun h => ?_) (fun h => ?_)
    · refine x_sub [] rfl ?_
      exact j_313 S62 h
    · refine x_aload_n C eX23_typeMatch_293 rfl 1 rfl ?_
      refine x_gI (o9 := x1) (ci := 19) (k9 := 13) (Cn := RX19) (T := TX19) (N := 14) C rfl wt_X19 (by decide) ww_167 eX23_typeMatch_294 h (fun v64 h => ?_)
      refine x_aload_n C eX23_typeMatch_297 rfl 2 rfl ?_
      refine x_gI (o9 := x3) (ci := 16) (k9 := 3) (Cn := RX16) (T := TX16) (N := 22) C rfl wt_X16 (by decide) ww_51 eX23_typeMatch_298 h (fun v65 h => ?_)
      refine x_ic_ge (tgt := 313) C eX23_typeMatch_301 (by decide) h (fun h => ?_) (fun h => ?_)
      · refine x_sub [] rfl ?_
        exact j_313 S62 h
      · refine x_tload_n C eX23_typeMatch_304 rfl 0 rfl ?_
        refine x_iconst (v := 4) C eX23_typeMatch_305 (by decide) ?_
        refine x_aload_n C eX23_typeMatch_306 rfl 1 rfl ?_
        refine x_gI (o9 := x1) (ci := 19) (k9 := 1) (Cn := RX19) (T := TX19) (N := 14) C rfl wt_X19 (by decide) ww_133 eX23_typeMatch_307 h (fun v66 h => ?_)
        refine x_cVv (As := [.int 4, .int v66]) (st := []) (n := 2) (frc := 1) (loc := 20) C h (fun S9 r9 e9 => k_X23_fail l D K m9 mr _ S9 4 v66 r9 e9) ww_2 ww_20 ww_21 ww_22 ww_16 (by decide +kernel) rfl ⟨by omega, by omega⟩ (Nat.le_of_ble_eq_true rfl) eX23_typeMatch_310 (fun S67 v68 h => ?_)
        refine x_sub [] rfl ?_
        exact j_313 S67 h
  have j_119 : ∀ (n_119 : Nat) (S : Sg) (x1 : Option Nat) (x3 : Option Nat) (x4 : Int32), f_typeMatch_119 K V n_119 S x1 x3 x4 = some (Sf, rf) → WX p l e R s m args below meth c Q D A K m9 mr 8 S0 S 119 [(0, .ref m9), (1, va_rf x1), (3, va_rf x3), (4, .int x4)] [] := by
    intro n_119
    induction n_119 with
    | zero => intro S x1 x3 x4 h; unfold f_typeMatch_119 at h; cases h
    | succ n_119 ih_119 =>
      intro S x1 x3 x4 h
      have j_280 : ∀ (S : Sg) (x1 : Option Nat) (x3 : Option Nat) (x4 : Int32), f_typeMatch_280 K V (f_typeMatch_119 K V n_119) S x1 x3 x4 = some (Sf, rf) → WX p l e R s m args below meth c Q D A K m9 mr 8 S0 S 280 [(0, .ref m9), (1, va_rf x1), (3, va_rf x3), (4, .int x4)] [] := by
        intro S x1 x3 x4 h
        unfold f_typeMatch_280 at h
        refine x_iinc (j := 3) (v := 1) (lv2 := [(0, .ref m9), (1, va_rf x1), (3, va_rf x3)]) C eX23_typeMatch_280 rfl (by decide) (by decide) rfl (oky rfl (oky (cat_rf x1) (oky (cat_rf x3) ok0))) ?_
        refine x_goto (tgt := 119) C eX23_typeMatch_283 (by decide) ?_
        refine x_sub [1, 2, 3, 0] rfl ?_
        exact ih_119 S x1 x3 (x4 + 1) h
      have j_256 : ∀ (S : Sg) (x1 : Option Nat) (x3 : Option Nat) (x4 : Int32) (x5 : Option Nat), f_typeMatch_256 K V (f_typeMatch_119 K V n_119) S x1 x3 x4 x5 = some (Sf, rf) → WX p l e R s m args below meth c Q D A K m9 mr 8 S0 S 256 [(0, .ref m9), (1, va_rf x1), (3, va_rf x3), (4, .int x4), (5, va_rf x5)] [] := by
        intro S x1 x3 x4 x5 h
        unfold f_typeMatch_256 at h
        refine x_tload_n C eX23_typeMatch_256 rfl 0 rfl ?_
        refine x_cVi (As := []) (st := []) (n := 0) (frc := 1) (loc := 20) C h (fun S9 r9 e9 => k_X23_ok l D K m9 mr _ S9 r9 e9) ww_0 ww_13 ww_14 ww_15 ww_16 (by decide +kernel) rfl ⟨by omega, by omega⟩ (Nat.le_of_ble_eq_true rfl) eX23_typeMatch_257 (fun S52 v53 h => ?_)
        refine x_if_eq (tgt := 280) C eX23_typeMatch_260 (by decide) h (fun h => ?_) (fun h => ?_)
        · refine x_sub [0, 1, 2, 3] rfl ?_
          exact j_280 S52 x1 x3 x4 h
        · refine x_tload_n C eX23_typeMatch_263 rfl 0 rfl ?_
          refine x_aload_n C eX23_typeMatch_264 rfl 1 rfl ?_
          refine x_aload C eX23_typeMatch_265 4 rfl ?_
          refine x_aload_n C eX23_typeMatch_267 rfl 2 rfl ?_
          refine x_gR (o9 := x3) (ci := 16) (k9 := 11) (Cn := RX16) (T := TX16) (N := 22) C rfl wt_X16 (by decide) ww_65 eX23_typeMatch_268 h (fun v54 h => ?_)
          refine x_aload C eX23_typeMatch_271 4 rfl ?_
          refine x_gI (o9 := x5) (ci := 13) (k9 := 1) (Cn := RX13) (T := TX13) (N := 6) C rfl wt_X13 (by decide) ww_449 eX23_typeMatch_273 h (fun v55 h => ?_)
          refine x_aQ (t9 := 13) C rfl eX23_typeMatch_276 h (fun v56 h => ?_)
          refine x_cVv (As := [va_rf x1, va_rf x5, va_rf v56]) (st := []) (n := 3) (frc := 1650 + 4 * d) (loc := 39585 + 97 * d) C h (fun S9 r9 e9 => k_X23_typeArm l D K m9 mr V d hV _ S9 x1 x5 v56 r9 e9) ww_453 ww_450 ww_451 ww_452 ww_16 (by decide +kernel) rfl ⟨by omega, by omega⟩ (Nat.le_of_ble_eq_true rfl) eX23_typeMatch_277 (fun S57 v58 h => ?_)
          refine x_sub [0, 1, 2, 3] rfl ?_
          exact j_280 S57 x1 x3 x4 h
      have j_212 : ∀ (S : Sg) (x1 : Option Nat) (x3 : Option Nat) (x4 : Int32) (x5 : Option Nat), f_typeMatch_212 K V (f_typeMatch_119 K V n_119) S x1 x3 x4 x5 = some (Sf, rf) → WX p l e R s m args below meth c Q D A K m9 mr 8 S0 S 212 [(0, .ref m9), (1, va_rf x1), (3, va_rf x3), (4, .int x4), (5, va_rf x5)] [] := by
        intro S x1 x3 x4 x5 h
        unfold f_typeMatch_212 at h
        refine x_tload_n C eX23_typeMatch_212 rfl 0 rfl ?_
        refine x_iconst (v := 3) C eX23_typeMatch_213 (by decide) ?_
        refine x_aload C eX23_typeMatch_214 4 rfl ?_
        refine x_gI (o9 := x5) (ci := 13) (k9 := 0) (Cn := RX13) (T := TX13) (N := 6) C rfl wt_X13 (by decide) ww_186 eX23_typeMatch_216 h (fun v59 h => ?_)
        refine x_cVv (As := [.int 3, .int v59]) (st := []) (n := 2) (frc := 1) (loc := 20) C h (fun S9 r9 e9 => k_X23_fail l D K m9 mr _ S9 3 v59 r9 e9) ww_2 ww_20 ww_21 ww_22 ww_16 (by decide +kernel) rfl ⟨by omega, by omega⟩ (Nat.le_of_ble_eq_true rfl) eX23_typeMatch_219 (fun S60 v61 h => ?_)
        refine x_goto (tgt := 256) C eX23_typeMatch_222 (by decide) ?_
        refine x_sub [0, 1, 2, 3, 4] rfl ?_
        exact j_256 S60 x1 x3 x4 x5 h
      have j_165 : ∀ (n_165 : Nat) (S : Sg) (x1 : Option Nat) (x3 : Option Nat) (x4 : Int32) (x5 : Option Nat) (x6 : Int32) (x7 : Int32), f_typeMatch_165 K V (f_typeMatch_119 K V n_119) n_165 S x1 x3 x4 x5 x6 x7 = some (Sf, rf) → WX p l e R s m args below meth c Q D A K m9 mr 8 S0 S 165 [(0, .ref m9), (1, va_rf x1), (3, va_rf x3), (4, .int x4), (5, va_rf x5), (6, .int x6), (7, .int x7)] [] := by
        intro n_165
        induction n_165 with
        | zero => intro S x1 x3 x4 x5 x6 x7 h; unfold f_typeMatch_165 at h; cases h
        | succ n_165 ih_165 =>
          intro S x1 x3 x4 x5 x6 x7 h
          have j_193 : ∀ (S : Sg) (x1 : Option Nat) (x3 : Option Nat) (x4 : Int32) (x5 : Option Nat) (x6 : Int32) (x7 : Int32), f_typeMatch_193 K V (f_typeMatch_119 K V n_119) (f_typeMatch_165 K V (f_typeMatch_119 K V n_119) n_165) S x1 x3 x4 x5 x6 x7 = some (Sf, rf) → WX p l e R s m args below meth c Q D A K m9 mr 8 S0 S 193 [(0, .ref m9), (1, va_rf x1), (3, va_rf x3), (4, .int x4), (5, va_rf x5), (6, .int x6), (7, .int x7)] [] := by
            intro S x1 x3 x4 x5 x6 x7 h
            unfold f_typeMatch_193 at h
            refine x_iinc (j := 6) (v := 1) (lv2 := [(0, .ref m9), (1, va_rf x1), (3, va_rf x3), (4, .int x4), (5, va_rf x5), (6, .int x6)]) C eX23_typeMatch_193 rfl (by decide) (by decide) rfl (oky rfl (oky (cat_rf x1) (oky (cat_rf x3) (oky rfl (oky (cat_rf x5) (oky rfl ok0)))))) ?_
            refine x_goto (tgt := 165) C eX23_typeMatch_196 (by decide) ?_
            refine x_sub [1, 2, 3, 4, 5, 6, 0] rfl ?_
            exact ih_165 S x1 x3 x4 x5 x6 (x7 + 1) h
          unfold f_typeMatch_165 at h
          refine x_iload C eX23_typeMatch_165 6 rfl ?_
          refine x_iload C eX23_typeMatch_167 3 rfl ?_
          refine x_ic_ge (tgt := 199) C eX23_typeMatch_169 (by decide) h (fun h => ?_) (fun h => ?_)
          · refine x_aload C eX23_typeMatch_199 4 rfl ?_
            refine x_gI (o9 := x5) (ci := 13) (k9 := 1) (Cn := RX13) (T := TX13) (N := 6) C rfl wt_X13 (by decide) ww_449 eX23_typeMatch_201 h (fun v39 h => ?_)
            refine x_if_lt (tgt := 212) C eX23_typeMatch_204 (by decide) h (fun h => ?_) (fun h => ?_)
            · refine x_sub [0, 1, 2, 3, 4] rfl ?_
              exact j_212 S x1 x3 x4 x5 h
            · refine x_iload C eX23_typeMatch_207 5 rfl ?_
              refine x_if_eq (tgt := 225) C eX23_typeMatch_209 (by decide) h (fun h => ?_) (fun h => ?_)
              · refine x_aload_n C eX23_typeMatch_225 rfl 2 rfl ?_
                refine x_gR (o9 := x3) (ci := 16) (k9 := 11) (Cn := RX16) (T := TX16) (N := 22) C rfl wt_X16 (by decide) ww_65 eX23_typeMatch_226 h (fun v40 h => ?_)
                refine x_aload C eX23_typeMatch_229 4 rfl ?_
                refine x_gI (o9 := x5) (ci := 13) (k9 := 1) (Cn := RX13) (T := TX13) (N := 6) C rfl wt_X13 (by decide) ww_449 eX23_typeMatch_231 h (fun v41 h => ?_)
                refine x_aQ (t9 := 13) C rfl eX23_typeMatch_234 h (fun v42 h => ?_)
                refine x_gI (o9 := v42) (ci := 17) (k9 := 0) (Cn := RX17) (T := TX17) (N := 3) C rfl wt_X17 (by decide) ww_69 eX23_typeMatch_235 h (fun v43 h => ?_)
                refine x_aload C eX23_typeMatch_238 4 rfl ?_
                refine x_gI (o9 := x5) (ci := 13) (k9 := 3) (Cn := RX13) (T := TX13) (N := 6) C rfl wt_X13 (by decide) ww_187 eX23_typeMatch_240 h (fun v44 h => ?_)
                refine x_ic_eq (tgt := 256) C eX23_typeMatch_243 (by decide) h (fun h => ?_) (fun h => ?_)
                · refine x_sub [0, 1, 2, 3, 4] rfl ?_
                  exact j_256 S x1 x3 x4 x5 h
                · refine x_tload_n C eX23_typeMatch_246 rfl 0 rfl ?_
                  refine x_iconst (v := 4) C eX23_typeMatch_247 (by decide) ?_
                  refine x_aload C eX23_typeMatch_248 4 rfl ?_
                  refine x_gI (o9 := x5) (ci := 13) (k9 := 0) (Cn := RX13) (T := TX13) (N := 6) C rfl wt_X13 (by decide) ww_186 eX23_typeMatch_250 h (fun v45 h => ?_)
                  refine x_cVv (As := [.int 4, .int v45]) (st := []) (n := 2) (frc := 1) (loc := 20) C h (fun S9 r9 e9 => k_X23_fail l D K m9 mr _ S9 4 v45 r9 e9) ww_2 ww_20 ww_21 ww_22 ww_16 (by decide +kernel) rfl ⟨by omega, by omega⟩ (Nat.le_of_ble_eq_true rfl) eX23_typeMatch_253 (fun S46 v47 h => ?_)
                  refine x_sub [0, 1, 2, 3, 4] rfl ?_
                  exact j_256 S46 x1 x3 x4 x5 h
              · refine x_sub [0, 1, 2, 3, 4] rfl ?_
                exact j_212 S x1 x3 x4 x5 h
          · refine x_aload_n C eX23_typeMatch_172 rfl 1 rfl ?_
            refine x_gR (o9 := x1) (ci := 19) (k9 := 12) (Cn := RX19) (T := TX19) (N := 14) C rfl wt_X19 (by decide) ww_178 eX23_typeMatch_173 h (fun v48 h => ?_)
            refine x_iload C eX23_typeMatch_176 6 rfl ?_
            refine x_aQ (t9 := 7) C rfl eX23_typeMatch_178 h (fun v49 h => ?_)
            refine x_gI (o9 := v49) (ci := 13) (k9 := 1) (Cn := RX13) (T := TX13) (N := 6) C rfl wt_X13 (by decide) ww_449 eX23_typeMatch_179 h (fun v50 h => ?_)
            refine x_aload C eX23_typeMatch_182 4 rfl ?_
            refine x_gI (o9 := x5) (ci := 13) (k9 := 1) (Cn := RX13) (T := TX13) (N := 6) C rfl wt_X13 (by decide) ww_449 eX23_typeMatch_184 h (fun v51 h => ?_)
            refine x_ic_ne (tgt := 193) C eX23_typeMatch_187 (by decide) h (fun h => ?_) (fun h => ?_)
            · refine x_sub [0, 1, 2, 3, 4, 5, 6] rfl ?_
              exact j_193 S x1 x3 x4 x5 x6 x7 h
            · refine x_iconst (v := 1) C eX23_typeMatch_190 (by decide) ?_
              refine x_istore (lv2 := [(0, .ref m9), (1, va_rf x1), (3, va_rf x3), (4, .int x4), (5, va_rf x5), (7, .int x7)]) C eX23_typeMatch_191 (by decide) rfl (oky rfl (oky (cat_rf x1) (oky (cat_rf x3) (oky rfl (oky (cat_rf x5) (oky rfl ok0)))))) ?_
              refine x_sub [1, 2, 3, 4, 5, 0, 6] rfl ?_
              exact j_193 S x1 x3 x4 x5 1 x7 h
      unfold f_typeMatch_119 at h
      refine x_iload C eX23_typeMatch_119 3 rfl ?_
      refine x_aload_n C eX23_typeMatch_121 rfl 1 rfl ?_
      refine x_gI (o9 := x1) (ci := 19) (k9 := 13) (Cn := RX19) (T := TX19) (N := 14) C rfl wt_X19 (by decide) ww_167 eX23_typeMatch_122 h (fun v30 h => ?_)
      refine x_ic_ge (tgt := 286) C eX23_typeMatch_125 (by decide) h (fun h => ?_) (fun h => ?_)
      · refine x_sub [0, 1, 2] rfl ?_
        exact j_286 S x1 x3 h
      · refine x_tload_n C eX23_typeMatch_128 rfl 0 rfl ?_
        refine x_cVi (As := []) (st := []) (n := 0) (frc := 1) (loc := 20) C h (fun S9 r9 e9 => k_X23_ok l D K m9 mr _ S9 r9 e9) ww_0 ww_13 ww_14 ww_15 ww_16 (by decide +kernel) rfl ⟨by omega, by omega⟩ (Nat.le_of_ble_eq_true rfl) eX23_typeMatch_129 (fun S31 v32 h => ?_)
        refine x_if_eq (tgt := 286) C eX23_typeMatch_132 (by decide) h (fun h => ?_) (fun h => ?_)
        · refine x_sub [0, 1, 2] rfl ?_
          exact j_286 S31 x1 x3 h
        · refine x_aload_n C eX23_typeMatch_135 rfl 1 rfl ?_
          refine x_gR (o9 := x1) (ci := 19) (k9 := 12) (Cn := RX19) (T := TX19) (N := 14) C rfl wt_X19 (by decide) ww_178 eX23_typeMatch_136 h (fun v33 h => ?_)
          refine x_iload C eX23_typeMatch_139 3 rfl ?_
          refine x_aQ (t9 := 7) C rfl eX23_typeMatch_141 h (fun v34 h => ?_)
          refine x_astore (lv2 := [(0, .ref m9), (1, va_rf x1), (3, va_rf x3), (4, .int x4)]) C eX23_typeMatch_142 (by decide) rfl (oky rfl (oky (cat_rf x1) (oky (cat_rf x3) (oky rfl ok0)))) ?_
          refine x_aload C eX23_typeMatch_144 0 rfl ?_
          refine x_tload_n C eX23_typeMatch_146 rfl 1 rfl ?_
          refine x_aload_n C eX23_typeMatch_147 rfl 3 rfl ?_
          refine x_aload C eX23_typeMatch_148 0 rfl ?_
          refine x_gI (o9 := v34) (ci := 13) (k9 := 0) (Cn := RX13) (T := TX13) (N := 6) C rfl wt_X13 (by decide) ww_186 eX23_typeMatch_150 h (fun v35 h => ?_)
          refine x_cVi (As := [va_rf x3, .int v35]) (st := [va_rf v34]) (n := 2) (frc := 2) (loc := 44) C h (fun S9 r9 e9 => k_X23_fieldOf l D K m9 mr _ S9 x3 v35 r9 e9) ww_406 ww_408 ww_409 ww_410 ww_16 (by decide +kernel) rfl ⟨by omega, by omega⟩ (Nat.le_of_ble_eq_true rfl) eX23_typeMatch_153 (fun S36 v37 h => ?_)
          refine x_pI (o9 := v34) (ci := 13) (k9 := 1) (Cn := RX13) (T := TX13) (N := 6) C rfl wt_X13 tyX13_ok nmX13 (by decide) ww_449 rfl (by decide +kernel) eX23_typeMatch_156 h (fun S38 h => ?_)
          refine x_iconst (v := 0) C eX23_typeMatch_159 (by decide) ?_
          refine x_istore (lv2 := [(5, va_rf v34), (0, .ref m9), (1, va_rf x1), (3, va_rf x3), (4, .int x4)]) C eX23_typeMatch_160 (by decide) rfl (oky (cat_rf v34) (oky rfl (oky (cat_rf x1) (oky (cat_rf x3) (oky rfl ok0))))) ?_
          refine x_iconst (v := 0) C eX23_typeMatch_162 (by decide) ?_
          refine x_istore (lv2 := [(6, .int 0), (5, va_rf v34), (0, .ref m9), (1, va_rf x1), (3, va_rf x3), (4, .int x4)]) C eX23_typeMatch_163 (by decide) rfl (oky rfl (oky (cat_rf v34) (oky rfl (oky (cat_rf x1) (oky (cat_rf x3) (oky rfl ok0)))))) ?_
          refine x_sub [3, 4, 5, 6, 2, 1, 0] rfl ?_
          exact j_165 bigN S38 x1 x3 x4 v34 0 0 h
  have j_98 : ∀ (S : Sg) (x1 : Option Nat) (x2 : Option Nat), f_typeMatch_98 K V S x1 x2 = some (Sf, rf) → WX p l e R s m args below meth c Q D A K m9 mr 8 S0 S 98 [(0, .ref m9), (1, va_rf x1), (2, va_rf x2)] [] := by
    intro S x1 x2 h
    unfold f_typeMatch_98 at h
    refine x_tload_n C eX23_typeMatch_98 rfl 0 rfl ?_
    refine x_cVi (As := []) (st := []) (n := 0) (frc := 1) (loc := 20) C h (fun S9 r9 e9 => k_X23_ok l D K m9 mr _ S9 r9 e9) ww_0 ww_13 ww_14 ww_15 ww_16 (by decide +kernel) rfl ⟨by omega, by omega⟩ (Nat.le_of_ble_eq_true rfl) eX23_typeMatch_99 (fun S26 v27 h => ?_)
    refine x_if_ne (tgt := 106) C eX23_typeMatch_102 (by decide) h (fun h => ?_) (fun h => ?_)
    · refine x_tload_n C eX23_typeMatch_106 rfl 0 rfl ?_
      refine x_mV (k9 := 11) C (by decide) ww_114 eX23_typeMatch_107 rfl ?_
      refine x_aload_n C eX23_typeMatch_110 rfl 2 rfl ?_
      refine x_gI (o9 := x2) (ci := 20) (k9 := 1) (Cn := RX20) (T := TX20) (N := 4) C rfl wt_X20 (by decide) ww_248 eX23_typeMatch_111 h (fun v28 h => ?_)
      refine x_rQ (r := 11) (t9 := 3) C (by decide) rfl (by decide) rfl eX23_typeMatch_114 h (fun v29 h => ?_)
      refine x_astore_n (lv2 := [(0, .ref m9), (1, va_rf x1), (2, va_rf x2)]) C eX23_typeMatch_115 rfl (by decide) rfl (oky rfl (oky (cat_rf x1) (oky (cat_rf x2) ok0))) ?_
      refine x_iconst (v := 0) C eX23_typeMatch_116 (by decide) ?_
      refine x_istore (lv2 := [(3, va_rf v29), (0, .ref m9), (1, va_rf x1), (2, va_rf x2)]) C eX23_typeMatch_117 (by decide) rfl (oky (cat_rf v29) (oky rfl (oky (cat_rf x1) (oky (cat_rf x2) ok0)))) ?_
      refine x_sub [2, 3, 1, 0] rfl ?_
      exact j_119 bigN S26 x1 v29 0 h
    · exact x_vret C rfl rfl eX23_typeMatch_105 h
  have j_54 : ∀ (S : Sg) (x1 : Option Nat) (x2 : Option Nat), f_typeMatch_54 K V S x1 x2 = some (Sf, rf) → WX p l e R s m args below meth c Q D A K m9 mr 8 S0 S 54 [(0, .ref m9), (1, va_rf x1), (2, va_rf x2)] [] := by
    intro S x1 x2 h
    unfold f_typeMatch_54 at h
    refine x_tload_n C eX23_typeMatch_54 rfl 0 rfl ?_
    refine x_cVi (As := []) (st := []) (n := 0) (frc := 1) (loc := 20) C h (fun S9 r9 e9 => k_X23_ok l D K m9 mr _ S9 r9 e9) ww_0 ww_13 ww_14 ww_15 ww_16 (by decide +kernel) rfl ⟨by omega, by omega⟩ (Nat.le_of_ble_eq_true rfl) eX23_typeMatch_55 (fun S15 v16 h => ?_)
    refine x_if_eq (tgt := 98) C eX23_typeMatch_58 (by decide) h (fun h => ?_) (fun h => ?_)
    · refine x_sub [0, 1, 2] rfl ?_
      exact j_98 S15 x1 x2 h
    · refine x_aload_n C eX23_typeMatch_61 rfl 1 rfl ?_
      refine x_gI (o9 := x1) (ci := 19) (k9 := 4) (Cn := RX19) (T := TX19) (N := 14) C rfl wt_X19 (by decide) ww_176 eX23_typeMatch_62 h (fun v17 h => ?_)
      refine x_if_eq (tgt := 98) C eX23_typeMatch_65 (by decide) h (fun h => ?_) (fun h => ?_)
      · refine x_sub [0, 1, 2] rfl ?_
        exact j_98 S15 x1 x2 h
      · refine x_aload_n C eX23_typeMatch_68 rfl 1 rfl ?_
        refine x_gI (o9 := x1) (ci := 19) (k9 := 3) (Cn := RX19) (T := TX19) (N := 14) C rfl wt_X19 (by decide) ww_153 eX23_typeMatch_69 h (fun v18 h => ?_)
        refine x_if_eq (tgt := 98) C eX23_typeMatch_72 (by decide) h (fun h => ?_) (fun h => ?_)
        · refine x_sub [0, 1, 2] rfl ?_
          exact j_98 S15 x1 x2 h
        · refine x_tload_n C eX23_typeMatch_75 rfl 0 rfl ?_
          refine x_aload_n C eX23_typeMatch_76 rfl 1 rfl ?_
          refine x_gR (o9 := x1) (ci := 19) (k9 := 6) (Cn := RX19) (T := TX19) (N := 14) C rfl wt_X19 (by decide) ww_144 eX23_typeMatch_77 h (fun v19 h => ?_)
          refine x_cVi (As := [va_rf v19]) (st := []) (n := 1) (frc := 2 + 1 * 410) (loc := 41 + 23 * 410) C h (fun S9 r9 e9 => k_X23_mutable l D K m9 mr 410 _ S9 v19 r9 e9) ww_364 ww_365 ww_366 ww_367 ww_16 (by decide +kernel) rfl ⟨by omega, by omega⟩ (Nat.le_of_ble_eq_true rfl) eX23_typeMatch_80 (fun S20 v21 h => ?_)
          refine x_if_ne (tgt := 98) C eX23_typeMatch_83 (by decide) h (fun h => ?_) (fun h => ?_)
          · refine x_sub [0, 1, 2] rfl ?_
            exact j_98 S20 x1 x2 h
          · refine x_tload_n C eX23_typeMatch_86 rfl 0 rfl ?_
            refine x_iconst (v := 4) C eX23_typeMatch_87 (by decide) ?_
            refine x_aload_n C eX23_typeMatch_88 rfl 1 rfl ?_
            refine x_gR (o9 := x1) (ci := 19) (k9 := 6) (Cn := RX19) (T := TX19) (N := 14) C rfl wt_X19 (by decide) ww_144 eX23_typeMatch_89 h (fun v22 h => ?_)
            refine x_gI (o9 := v22) (ci := 15) (k9 := 1) (Cn := RX15) (T := TX15) (N := 14) C rfl wt_X15 (by decide) ww_211 eX23_typeMatch_92 h (fun v23 h => ?_)
            refine x_cVv (As := [.int 4, .int v23]) (st := []) (n := 2) (frc := 1) (loc := 20) C h (fun S9 r9 e9 => k_X23_fail l D K m9 mr _ S9 4 v23 r9 e9) ww_2 ww_20 ww_21 ww_22 ww_16 (by decide +kernel) rfl ⟨by omega, by omega⟩ (Nat.le_of_ble_eq_true rfl) eX23_typeMatch_95 (fun S24 v25 h => ?_)
            refine x_sub [0, 1, 2] rfl ?_
            exact j_98 S24 x1 x2 h
  have j_26 : ∀ (S : Sg) (x1 : Option Nat) (y0 : Option Nat), f_typeMatch_26 K V S x1 y0 = some (Sf, rf) → WX p l e R s m args below meth c Q D A K m9 mr 8 S0 S 26 [(0, .ref m9), (1, va_rf x1)] [va_rf y0] := by
    intro S x1 y0 h
    unfold f_typeMatch_26 at h
    refine x_astore_n (lv2 := [(0, .ref m9), (1, va_rf x1)]) C eX23_typeMatch_26 rfl (by decide) rfl (oky rfl (oky (cat_rf x1) ok0)) ?_
    refine x_tload_n C eX23_typeMatch_27 rfl 1 rfl ?_
    refine x_cVi (As := []) (st := []) (n := 0) (frc := 1) (loc := 20) C h (fun S9 r9 e9 => k_X23_ok l D K m9 mr _ S9 r9 e9) ww_0 ww_13 ww_14 ww_15 ww_16 (by decide +kernel) rfl ⟨by omega, by omega⟩ (Nat.le_of_ble_eq_true rfl) eX23_typeMatch_28 (fun S8 v9 h => ?_)
    refine x_if_eq (tgt := 54) C eX23_typeMatch_31 (by decide) h (fun h => ?_) (fun h => ?_)
    · refine x_sub [1, 2, 0] rfl ?_
      exact j_54 S8 x1 y0 h
    · refine x_aload_n C eX23_typeMatch_34 rfl 0 rfl ?_
      refine x_gI (o9 := y0) (ci := 20) (k9 := 0) (Cn := RX20) (T := TX20) (N := 4) C rfl wt_X20 (by decide) ww_247 eX23_typeMatch_35 h (fun v10 h => ?_)
      refine x_iconst (v := 4) C eX23_typeMatch_38 (by decide) ?_
      refine x_ic_eq (tgt := 54) C eX23_typeMatch_39 (by decide) h (fun h => ?_) (fun h => ?_)
      · refine x_sub [1, 2, 0] rfl ?_
        exact j_54 S8 x1 y0 h
      · refine x_tload_n C eX23_typeMatch_42 rfl 1 rfl ?_
        refine x_iconst (v := 4) C eX23_typeMatch_43 (by decide) ?_
        refine x_aload_n C eX23_typeMatch_44 rfl 2 rfl ?_
        refine x_gR (o9 := x1) (ci := 19) (k9 := 6) (Cn := RX19) (T := TX19) (N := 14) C rfl wt_X19 (by decide) ww_144 eX23_typeMatch_45 h (fun v11 h => ?_)
        refine x_gI (o9 := v11) (ci := 15) (k9 := 1) (Cn := RX15) (T := TX15) (N := 14) C rfl wt_X15 (by decide) ww_211 eX23_typeMatch_48 h (fun v12 h => ?_)
        refine x_cVv (As := [.int 4, .int v12]) (st := []) (n := 2) (frc := 1) (loc := 20) C h (fun S9 r9 e9 => k_X23_fail l D K m9 mr _ S9 4 v12 r9 e9) ww_2 ww_20 ww_21 ww_22 ww_16 (by decide +kernel) rfl ⟨by omega, by omega⟩ (Nat.le_of_ble_eq_true rfl) eX23_typeMatch_51 (fun S13 v14 h => ?_)
        refine x_sub [1, 2, 0] rfl ?_
        exact j_54 S13 x1 y0 h
  unfold f_typeMatch at h
  refine x_aload_n C eX23_typeMatch_0 rfl 1 rfl ?_
  refine x_gI (o9 := x1) (ci := 19) (k9 := 4) (Cn := RX19) (T := TX19) (N := 14) C rfl wt_X19 (by decide) ww_176 eX23_typeMatch_1 h (fun v1 h => ?_)
  refine x_if_eq (tgt := 18) C eX23_typeMatch_4 (by decide) h (fun h => ?_) (fun h => ?_)
  · refine x_tload_n C eX23_typeMatch_18 rfl 0 rfl ?_
    refine x_aload_n C eX23_typeMatch_19 rfl 1 rfl ?_
    refine x_gR (o9 := x1) (ci := 19) (k9 := 6) (Cn := RX19) (T := TX19) (N := 14) C rfl wt_X19 (by decide) ww_144 eX23_typeMatch_20 h (fun v2 h => ?_)
    refine x_cVr (As := [va_rf v2]) (st := []) (n := 1) (frc := 417 + 3 * 410) (loc := 9996 + 72 * 410) C h (fun S9 r9 e9 => k_X23_value l D K m9 mr 410 _ S9 v2 r9 e9) ww_368 ww_373 ww_374 ww_375 ww_16 (by decide +kernel) rfl ⟨by omega, by omega⟩ (Nat.le_of_ble_eq_true rfl) eX23_typeMatch_23 (fun S3 v4 h => ?_)
    refine x_sub [0, 1] rfl ?_
    exact j_26 S3 x1 v4 h
  · refine x_tload_n C eX23_typeMatch_7 rfl 0 rfl ?_
    refine x_aload_n C eX23_typeMatch_8 rfl 1 rfl ?_
    refine x_gR (o9 := x1) (ci := 19) (k9 := 6) (Cn := RX19) (T := TX19) (N := 14) C rfl wt_X19 (by decide) ww_144 eX23_typeMatch_9 h (fun v5 h => ?_)
    refine x_cVr (As := [va_rf v5]) (st := []) (n := 1) (frc := 6 + 1 * 410) (loc := 132 + 24 * 410) C h (fun S9 r9 e9 => k_X23_place l D K m9 mr 410 _ S9 v5 r9 e9) ww_343 ww_344 ww_345 ww_346 ww_16 (by decide +kernel) rfl ⟨by omega, by omega⟩ (Nat.le_of_ble_eq_true rfl) eX23_typeMatch_12 (fun S6 v7 h => ?_)
    refine x_goto (tgt := 26) C eX23_typeMatch_15 (by decide) ?_
    refine x_sub [0, 1] rfl ?_
    exact j_26 S6 x1 v7 h
set_option maxRecDepth 20000 in
set_option maxHeartbeats 4000000 in
theorem k_X23_typeStatement (l : Launch) (D : va_G) (K : Ky) (m9 : Nat) (mr : Nat → Nat) (V : Sg → Option Nat → Option (Sg × Unit)) (d : Nat) (hV : ∀ (S0 Sf : Sg) (x1 : Option Nat) (rf : Unit), V S0 x1 = some (Sf, rf) → CT l D K m9 mr yX23_typeBlock (Cond.code yX23_typeBlock cX23_typeBlock 4 none) (1649 + 4 * d) (39562 + 97 * d) S0 Sf [.ref m9, va_rf x1] none) (S0 Sf : Sg) (x1 : Option Nat) (rf : Unit) (h : f_typeStatement K V S0 x1 = some (Sf, rf)) : CT l D K m9 mr yX23_typeStatement (Cond.code yX23_typeStatement cX23_typeStatement 3 none) (1652 + 4 * d) (39637 + 97 * d) S0 Sf [.ref m9, va_rf x1] none := by
  refine x_start (cc := cX23_typeStatement) (lv := [(0, .ref m9), (1, va_rf x1)]) rfl rfl (by decide) (by simp [lv_args, cat_rf, cat_i, cat_l, cat_a]) (by simp [lg_sl, cat_rf, cat_i, cat_l, cat_a]) (fun p e R s m args below meth c Q A C => ?_)
  have j_238 : ∀ (S : Sg), f_typeStatement_238 K V S = some (Sf, rf) → WX p l e R s m args below meth c Q D A K m9 mr 3 S0 S 238 [] [] := by
    intro S h
    unfold f_typeStatement_238 at h
    exact x_vret C rfl rfl eX23_typeStatement_238 h
  have j_139 : ∀ (S : Sg), f_typeStatement_139 K V S = some (Sf, rf) → WX p l e R s m args below meth c Q D A K m9 mr 3 S0 S 139 [] [] := by
    intro S h
    unfold f_typeStatement_139 at h
    refine x_goto (tgt := 238) C eX23_typeStatement_139 (by decide) ?_
    refine x_sub [] rfl ?_
    exact j_238 S h
  have j_82 : ∀ (n_82 : Nat) (S : Sg) (x1 : Option Nat) (x2 : Int32), f_typeStatement_82 K V n_82 S x1 x2 = some (Sf, rf) → WX p l e R s m args below meth c Q D A K m9 mr 3 S0 S 82 [(0, .ref m9), (1, va_rf x1), (2, .int x2)] [] := by
    intro n_82
    induction n_82 with
    | zero => intro S x1 x2 h; unfold f_typeStatement_82 at h; cases h
    | succ n_82 ih_82 =>
      intro S x1 x2 h
      have j_133 : ∀ (S : Sg) (x1 : Option Nat) (x2 : Int32), f_typeStatement_133 K V (f_typeStatement_82 K V n_82) S x1 x2 = some (Sf, rf) → WX p l e R s m args below meth c Q D A K m9 mr 3 S0 S 133 [(0, .ref m9), (1, va_rf x1), (2, .int x2)] [] := by
        intro S x1 x2 h
        unfold f_typeStatement_133 at h
        refine x_iinc (j := 2) (v := 1) (lv2 := [(0, .ref m9), (1, va_rf x1)]) C eX23_typeStatement_133 rfl (by decide) (by decide) rfl (oky rfl (oky (cat_rf x1) ok0)) ?_
        refine x_goto (tgt := 82) C eX23_typeStatement_136 (by decide) ?_
        refine x_sub [1, 2, 0] rfl ?_
        exact ih_82 S x1 (x2 + 1) h
      have j_116 : ∀ (S : Sg) (x1 : Option Nat) (x2 : Int32), f_typeStatement_116 K V (f_typeStatement_82 K V n_82) S x1 x2 = some (Sf, rf) → WX p l e R s m args below meth c Q D A K m9 mr 3 S0 S 116 [(0, .ref m9), (1, va_rf x1), (2, .int x2)] [] := by
        intro S x1 x2 h
        unfold f_typeStatement_116 at h
        refine x_tload_n C eX23_typeStatement_116 rfl 0 rfl ?_
        refine x_cVi (As := []) (st := []) (n := 0) (frc := 1) (loc := 20) C h (fun S9 r9 e9 => k_X23_ok l D K m9 mr _ S9 r9 e9) ww_0 ww_13 ww_14 ww_15 ww_16 (by decide +kernel) rfl ⟨by omega, by omega⟩ (Nat.le_of_ble_eq_true rfl) eX23_typeStatement_117 (fun S44 v45 h => ?_)
        refine x_if_eq (tgt := 133) C eX23_typeStatement_120 (by decide) h (fun h => ?_) (fun h => ?_)
        · refine x_sub [0, 1, 2] rfl ?_
          exact j_133 S44 x1 x2 h
        · refine x_tload_n C eX23_typeStatement_123 rfl 0 rfl ?_
          refine x_aload_n C eX23_typeStatement_124 rfl 1 rfl ?_
          refine x_gR (o9 := x1) (ci := 19) (k9 := 11) (Cn := RX19) (T := TX19) (N := 14) C rfl wt_X19 (by decide) ww_166 eX23_typeStatement_125 h (fun v46 h => ?_)
          refine x_iload_n C eX23_typeStatement_128 rfl 2 rfl ?_
          refine x_aQ (t9 := 10) C rfl eX23_typeStatement_129 h (fun v47 h => ?_)
          refine x_cVv (As := [va_rf v47]) (st := []) (n := 1) (frc := 1649 + 4 * d) (loc := 39562 + 97 * d) C h (fun S9 r9 e9 => hV _ S9 v47 r9 e9) ww_413 ww_428 ww_429 ww_430 ww_16 (by decide +kernel) rfl ⟨by omega, by omega⟩ (Nat.le_of_ble_eq_true rfl) eX23_typeStatement_130 (fun S48 v49 h => ?_)
          refine x_sub [0, 1, 2] rfl ?_
          exact j_133 S48 x1 x2 h
      unfold f_typeStatement_82 at h
      refine x_iload_n C eX23_typeStatement_82 rfl 2 rfl ?_
      refine x_aload_n C eX23_typeStatement_83 rfl 1 rfl ?_
      refine x_gI (o9 := x1) (ci := 19) (k9 := 13) (Cn := RX19) (T := TX19) (N := 14) C rfl wt_X19 (by decide) ww_167 eX23_typeStatement_84 h (fun v35 h => ?_)
      refine x_ic_ge (tgt := 139) C eX23_typeStatement_87 (by decide) h (fun h => ?_) (fun h => ?_)
      · refine x_sub [] rfl ?_
        exact j_139 S h
      · refine x_tload_n C eX23_typeStatement_90 rfl 0 rfl ?_
        refine x_cVi (As := []) (st := []) (n := 0) (frc := 1) (loc := 20) C h (fun S9 r9 e9 => k_X23_ok l D K m9 mr _ S9 r9 e9) ww_0 ww_13 ww_14 ww_15 ww_16 (by decide +kernel) rfl ⟨by omega, by omega⟩ (Nat.le_of_ble_eq_true rfl) eX23_typeStatement_91 (fun S36 v37 h => ?_)
        refine x_if_eq (tgt := 139) C eX23_typeStatement_94 (by decide) h (fun h => ?_) (fun h => ?_)
        · refine x_sub [] rfl ?_
          exact j_139 S36 h
        · refine x_aload_n C eX23_typeStatement_97 rfl 1 rfl ?_
          refine x_gR (o9 := x1) (ci := 19) (k9 := 10) (Cn := RX19) (T := TX19) (N := 14) C rfl wt_X19 (by decide) ww_165 eX23_typeStatement_98 h (fun v38 h => ?_)
          refine x_iload_n C eX23_typeStatement_101 rfl 2 rfl ?_
          refine x_aQ (t9 := 9) C rfl eX23_typeStatement_102 h (fun v39 h => ?_)
          refine x_ifnull (tgt := 116) C eX23_typeStatement_103 (by decide) h (fun h => ?_) (fun h => ?_)
          · refine x_sub [0, 1, 2] rfl ?_
            exact j_116 S36 x1 x2 h
          · refine x_tload_n C eX23_typeStatement_106 rfl 0 rfl ?_
            refine x_aload_n C eX23_typeStatement_107 rfl 1 rfl ?_
            refine x_gR (o9 := x1) (ci := 19) (k9 := 10) (Cn := RX19) (T := TX19) (N := 14) C rfl wt_X19 (by decide) ww_165 eX23_typeStatement_108 h (fun v40 h => ?_)
            refine x_iload_n C eX23_typeStatement_111 rfl 2 rfl ?_
            refine x_aQ (t9 := 9) C rfl eX23_typeStatement_112 h (fun v41 h => ?_)
            refine x_cVv (As := [va_rf v41]) (st := []) (n := 1) (frc := 1648) (loc := 39538) C h (fun S9 r9 e9 => k_X23_condition l D K m9 mr _ S9 v41 r9 e9) ww_417 ww_425 ww_426 ww_427 ww_16 (by decide +kernel) rfl ⟨by omega, by omega⟩ (Nat.le_of_ble_eq_true rfl) eX23_typeStatement_113 (fun S42 v43 h => ?_)
            refine x_sub [0, 1, 2] rfl ?_
            exact j_116 S42 x1 x2 h
  unfold f_typeStatement at h
  refine x_aload_n C eX23_typeStatement_0 rfl 1 rfl ?_
  refine x_gI (o9 := x1) (ci := 19) (k9 := 0) (Cn := RX19) (T := TX19) (N := 14) C rfl wt_X19 (by decide) ww_140 eX23_typeStatement_1 h (fun v1 h => ?_)
  refine x_tabIn (v := 0) (tgt := 52) C eX23_typeStatement_4 (by decide) (by decide) rfl (by decide) h (fun h => ?_) (fun hq0 h => ?_)
  · refine x_tload_n C eX23_typeStatement_52 rfl 0 rfl ?_
    refine x_aload_n C eX23_typeStatement_53 rfl 1 rfl ?_
    refine x_cVv (As := [va_rf x1]) (st := []) (n := 1) (frc := 1648) (loc := 39538) C h (fun S9 r9 e9 => k_X23_typeLet l D K m9 mr _ S9 x1 r9 e9) ww_437 ww_419 ww_420 ww_421 ww_16 (by decide +kernel) rfl ⟨by omega, by omega⟩ (Nat.le_of_ble_eq_true rfl) eX23_typeStatement_54 (fun S2 v3 h => ?_)
    refine x_goto (tgt := 238) C eX23_typeStatement_57 (by decide) ?_
    refine x_sub [] rfl ?_
    exact j_238 S2 h
  · refine x_tabIn (v := 1) (tgt := 60) C eX23_typeStatement_4 (by decide) (by decide) rfl (by decide) h (fun h => ?_) (fun hq1 h => ?_)
    · refine x_tload_n C eX23_typeStatement_60 rfl 0 rfl ?_
      refine x_aload_n C eX23_typeStatement_61 rfl 1 rfl ?_
      refine x_gR (o9 := x1) (ci := 19) (k9 := 6) (Cn := RX19) (T := TX19) (N := 14) C rfl wt_X19 (by decide) ww_144 eX23_typeStatement_62 h (fun v4 h => ?_)
      refine x_cVr (As := [va_rf v4]) (st := []) (n := 1) (frc := 417 + 3 * 410) (loc := 9996 + 72 * 410) C h (fun S9 r9 e9 => k_X23_value l D K m9 mr 410 _ S9 v4 r9 e9) ww_368 ww_373 ww_374 ww_375 ww_16 (by decide +kernel) rfl ⟨by omega, by omega⟩ (Nat.le_of_ble_eq_true rfl) eX23_typeStatement_65 (fun S5 v6 h => ?_)
      refine x_pop C eX23_typeStatement_68 (cat_rf v6) ?_
      refine x_goto (tgt := 238) C eX23_typeStatement_69 (by decide) ?_
      refine x_sub [] rfl ?_
      exact j_238 S5 h
    · refine x_tabIn (v := 2) (tgt := 72) C eX23_typeStatement_4 (by decide) (by decide) rfl (by decide) h (fun h => ?_) (fun hq2 h => ?_)
      · refine x_tload_n C eX23_typeStatement_72 rfl 0 rfl ?_
        refine x_aload_n C eX23_typeStatement_73 rfl 1 rfl ?_
        refine x_cVv (As := [va_rf x1]) (st := []) (n := 1) (frc := 1648) (loc := 39538) C h (fun S9 r9 e9 => k_X23_typeAssign l D K m9 mr _ S9 x1 r9 e9) ww_445 ww_422 ww_423 ww_424 ww_16 (by decide +kernel) rfl ⟨by omega, by omega⟩ (Nat.le_of_ble_eq_true rfl) eX23_typeStatement_74 (fun S7 v8 h => ?_)
        refine x_goto (tgt := 238) C eX23_typeStatement_77 (by decide) ?_
        refine x_sub [] rfl ?_
        exact j_238 S7 h
      · refine x_tabIn (v := 3) (tgt := 80) C eX23_typeStatement_4 (by decide) (by decide) rfl (by decide) h (fun h => ?_) (fun hq3 h => ?_)
        · refine x_iconst (v := 0) C eX23_typeStatement_80 (by decide) ?_
          refine x_istore_n (lv2 := [(0, .ref m9), (1, va_rf x1)]) C eX23_typeStatement_81 rfl (by decide) rfl (oky rfl (oky (cat_rf x1) ok0)) ?_
          refine x_sub [1, 2, 0] rfl ?_
          exact j_82 bigN S0 x1 0 h
        · refine x_tabIn (v := 4) (tgt := 142) C eX23_typeStatement_4 (by decide) (by decide) rfl (by decide) h (fun h => ?_) (fun hq4 h => ?_)
          · refine x_tload_n C eX23_typeStatement_142 rfl 0 rfl ?_
            refine x_aload_n C eX23_typeStatement_143 rfl 1 rfl ?_
            refine x_gR (o9 := x1) (ci := 19) (k9 := 6) (Cn := RX19) (T := TX19) (N := 14) C rfl wt_X19 (by decide) ww_144 eX23_typeStatement_144 h (fun v9 h => ?_)
            refine x_cVv (As := [va_rf v9]) (st := []) (n := 1) (frc := 1648) (loc := 39538) C h (fun S9 r9 e9 => k_X23_condition l D K m9 mr _ S9 v9 r9 e9) ww_417 ww_425 ww_426 ww_427 ww_16 (by decide +kernel) rfl ⟨by omega, by omega⟩ (Nat.le_of_ble_eq_true rfl) eX23_typeStatement_147 (fun S10 v11 h => ?_)
            refine x_tload_n C eX23_typeStatement_150 rfl 0 rfl ?_
            refine x_cVi (As := []) (st := []) (n := 0) (frc := 1) (loc := 20) C h (fun S9 r9 e9 => k_X23_ok l D K m9 mr _ S9 r9 e9) ww_0 ww_13 ww_14 ww_15 ww_16 (by decide +kernel) rfl ⟨by omega, by omega⟩ (Nat.le_of_ble_eq_true rfl) eX23_typeStatement_151 (fun S12 v13 h => ?_)
            refine x_if_eq (tgt := 238) C eX23_typeStatement_154 (by decide) h (fun h => ?_) (fun h => ?_)
            · refine x_sub [] rfl ?_
              exact j_238 S12 h
            · refine x_tload_n C eX23_typeStatement_157 rfl 0 rfl ?_
              refine x_aload_n C eX23_typeStatement_158 rfl 1 rfl ?_
              refine x_gR (o9 := x1) (ci := 19) (k9 := 9) (Cn := RX19) (T := TX19) (N := 14) C rfl wt_X19 (by decide) ww_145 eX23_typeStatement_159 h (fun v14 h => ?_)
              refine x_cVv (As := [va_rf v14]) (st := []) (n := 1) (frc := 1649 + 4 * d) (loc := 39562 + 97 * d) C h (fun S9 r9 e9 => hV _ S9 v14 r9 e9) ww_413 ww_428 ww_429 ww_430 ww_16 (by decide +kernel) rfl ⟨by omega, by omega⟩ (Nat.le_of_ble_eq_true rfl) eX23_typeStatement_162 (fun S15 v16 h => ?_)
              refine x_goto (tgt := 238) C eX23_typeStatement_165 (by decide) ?_
              refine x_sub [] rfl ?_
              exact j_238 S15 h
          · refine x_tabIn (v := 5) (tgt := 168) C eX23_typeStatement_4 (by decide) (by decide) rfl (by decide) h (fun h => ?_) (fun hq5 h => ?_)
            · refine x_tload_n C eX23_typeStatement_168 rfl 0 rfl ?_
              refine x_aload_n C eX23_typeStatement_169 rfl 1 rfl ?_
              refine x_cVv (As := [va_rf x1]) (st := []) (n := 1) (frc := 1651 + 4 * d) (loc := 39610 + 97 * d) C h (fun S9 r9 e9 => k_X23_typeMatch l D K m9 mr V d hV _ S9 x1 r9 e9) ww_448 ww_431 ww_432 ww_433 ww_16 (by decide +kernel) rfl ⟨by omega, by omega⟩ (Nat.le_of_ble_eq_true rfl) eX23_typeStatement_170 (fun S17 v18 h => ?_)
              refine x_goto (tgt := 238) C eX23_typeStatement_173 (by decide) ?_
              refine x_sub [] rfl ?_
              exact j_238 S17 h
            · refine x_tabIn (v := 6) (tgt := 176) C eX23_typeStatement_4 (by decide) (by decide) rfl (by decide) h (fun h => ?_) (fun hq6 h => ?_)
              · refine x_tload_n C eX23_typeStatement_176 rfl 0 rfl ?_
                refine x_aload_n C eX23_typeStatement_177 rfl 1 rfl ?_
                refine x_cVv (As := [va_rf x1]) (st := []) (n := 1) (frc := 1648) (loc := 39538) C h (fun S9 r9 e9 => k_X23_typeReturn l D K m9 mr _ S9 x1 r9 e9) ww_446 ww_434 ww_435 ww_436 ww_16 (by decide +kernel) rfl ⟨by omega, by omega⟩ (Nat.le_of_ble_eq_true rfl) eX23_typeStatement_178 (fun S19 v20 h => ?_)
                refine x_goto (tgt := 238) C eX23_typeStatement_181 (by decide) ?_
                refine x_sub [] rfl ?_
                exact j_238 S19 h
              · refine x_tabIn (v := 7) (tgt := 184) C eX23_typeStatement_4 (by decide) (by decide) rfl (by decide) h (fun h => ?_) (fun hq7 h => ?_)
                · refine x_tload_n C eX23_typeStatement_184 rfl 0 rfl ?_
                  refine x_aload_n C eX23_typeStatement_185 rfl 1 rfl ?_
                  refine x_gR (o9 := x1) (ci := 19) (k9 := 6) (Cn := RX19) (T := TX19) (N := 14) C rfl wt_X19 (by decide) ww_144 eX23_typeStatement_186 h (fun v21 h => ?_)
                  refine x_cVr (As := [va_rf v21]) (st := []) (n := 1) (frc := 417 + 3 * 410) (loc := 9996 + 72 * 410) C h (fun S9 r9 e9 => k_X23_value l D K m9 mr 410 _ S9 v21 r9 e9) ww_368 ww_373 ww_374 ww_375 ww_16 (by decide +kernel) rfl ⟨by omega, by omega⟩ (Nat.le_of_ble_eq_true rfl) eX23_typeStatement_189 (fun S22 v23 h => ?_)
                  refine x_astore_n (lv2 := [(0, .ref m9), (1, va_rf x1)]) C eX23_typeStatement_192 rfl (by decide) rfl (oky rfl (oky (cat_rf x1) ok0)) ?_
                  refine x_tload_n C eX23_typeStatement_193 rfl 1 rfl ?_
                  refine x_cVi (As := []) (st := []) (n := 0) (frc := 1) (loc := 20) C h (fun S9 r9 e9 => k_X23_ok l D K m9 mr _ S9 r9 e9) ww_0 ww_13 ww_14 ww_15 ww_16 (by decide +kernel) rfl ⟨by omega, by omega⟩ (Nat.le_of_ble_eq_true rfl) eX23_typeStatement_194 (fun S24 v25 h => ?_)
                  refine x_if_eq (tgt := 238) C eX23_typeStatement_197 (by decide) h (fun h => ?_) (fun h => ?_)
                  · refine x_sub [] rfl ?_
                    exact j_238 S24 h
                  · refine x_aload_n C eX23_typeStatement_200 rfl 0 rfl ?_
                    refine x_gI (o9 := v23) (ci := 20) (k9 := 0) (Cn := RX20) (T := TX20) (N := 4) C rfl wt_X20 (by decide) ww_247 eX23_typeStatement_201 h (fun v26 h => ?_)
                    refine x_if_eq (tgt := 238) C eX23_typeStatement_204 (by decide) h (fun h => ?_) (fun h => ?_)
                    · refine x_sub [] rfl ?_
                      exact j_238 S24 h
                    · refine x_aload_n C eX23_typeStatement_207 rfl 0 rfl ?_
                      refine x_gI (o9 := v23) (ci := 20) (k9 := 0) (Cn := RX20) (T := TX20) (N := 4) C rfl wt_X20 (by decide) ww_247 eX23_typeStatement_208 h (fun v27 h => ?_)
                      refine x_iconst (v := 1) C eX23_typeStatement_211 (by decide) ?_
                      refine x_ic_eq (tgt := 238) C eX23_typeStatement_212 (by decide) h (fun h => ?_) (fun h => ?_)
                      · refine x_sub [] rfl ?_
                        exact j_238 S24 h
                      · refine x_tload_n C eX23_typeStatement_215 rfl 1 rfl ?_
                        refine x_iconst (v := 4) C eX23_typeStatement_216 (by decide) ?_
                        refine x_aload_n C eX23_typeStatement_217 rfl 2 rfl ?_
                        refine x_gR (o9 := x1) (ci := 19) (k9 := 6) (Cn := RX19) (T := TX19) (N := 14) C rfl wt_X19 (by decide) ww_144 eX23_typeStatement_218 h (fun v28 h => ?_)
                        refine x_gI (o9 := v28) (ci := 15) (k9 := 1) (Cn := RX15) (T := TX15) (N := 14) C rfl wt_X15 (by decide) ww_211 eX23_typeStatement_221 h (fun v29 h => ?_)
                        refine x_cVv (As := [.int 4, .int v29]) (st := []) (n := 2) (frc := 1) (loc := 20) C h (fun S9 r9 e9 => k_X23_fail l D K m9 mr _ S9 4 v29 r9 e9) ww_2 ww_20 ww_21 ww_22 ww_16 (by decide +kernel) rfl ⟨by omega, by omega⟩ (Nat.le_of_ble_eq_true rfl) eX23_typeStatement_224 (fun S30 v31 h => ?_)
                        refine x_goto (tgt := 238) C eX23_typeStatement_227 (by decide) ?_
                        refine x_sub [] rfl ?_
                        exact j_238 S30 h
                · have hq0i : (v1 : Int32).toInt ≠ 0 := fun q9 => hq0 (Int32.toInt_inj.mp q9)
                  have hq1i : (v1 : Int32).toInt ≠ 1 := fun q9 => hq1 (Int32.toInt_inj.mp q9)
                  have hq2i : (v1 : Int32).toInt ≠ 2 := fun q9 => hq2 (Int32.toInt_inj.mp q9)
                  have hq3i : (v1 : Int32).toInt ≠ 3 := fun q9 => hq3 (Int32.toInt_inj.mp q9)
                  have hq4i : (v1 : Int32).toInt ≠ 4 := fun q9 => hq4 (Int32.toInt_inj.mp q9)
                  have hq5i : (v1 : Int32).toInt ≠ 5 := fun q9 => hq5 (Int32.toInt_inj.mp q9)
                  have hq6i : (v1 : Int32).toInt ≠ 6 := fun q9 => hq6 (Int32.toInt_inj.mp q9)
                  have hq7i : (v1 : Int32).toInt ≠ 7 := fun q9 => hq7 (Int32.toInt_inj.mp q9)
                  refine x_tabOut (tgt := 230) C eX23_typeStatement_4 (by omega) (by decide) ?_
                  refine x_tload_n C eX23_typeStatement_230 rfl 0 rfl ?_
                  refine x_aload_n C eX23_typeStatement_231 rfl 1 rfl ?_
                  refine x_gR (o9 := x1) (ci := 19) (k9 := 9) (Cn := RX19) (T := TX19) (N := 14) C rfl wt_X19 (by decide) ww_145 eX23_typeStatement_232 h (fun v32 h => ?_)
                  refine x_cVv (As := [va_rf v32]) (st := []) (n := 1) (frc := 1649 + 4 * d) (loc := 39562 + 97 * d) C h (fun S9 r9 e9 => hV _ S9 v32 r9 e9) ww_413 ww_428 ww_429 ww_430 ww_16 (by decide +kernel) rfl ⟨by omega, by omega⟩ (Nat.le_of_ble_eq_true rfl) eX23_typeStatement_235 (fun S33 v34 h => ?_)
                  refine x_sub [] rfl ?_
                  exact j_238 S33 h
set_option maxRecDepth 20000 in
set_option maxHeartbeats 4000000 in
theorem k_X23_typeBlock (l : Launch) (D : va_G) (K : Ky) (m9 : Nat) (mr : Nat → Nat) : ∀ (d : Nat) (S0 Sf : Sg) (x1 : Option Nat) (rf : Unit), f_typeBlock K d S0 x1 = some (Sf, rf) → CT l D K m9 mr yX23_typeBlock (Cond.code yX23_typeBlock cX23_typeBlock 4 none) (1649 + 4 * d) (39562 + 97 * d) S0 Sf [.ref m9, va_rf x1] none := by
  intro d
  induction d with
  | zero => intro S0 Sf x1 rf h; unfold f_typeBlock at h; cases h
  | succ d ih =>
    intro S0 Sf x1 rf h
    refine x_start (cc := cX23_typeBlock) (lv := [(0, .ref m9), (1, va_rf x1)]) rfl rfl (by decide) (by simp [lv_args, cat_rf, cat_i, cat_l, cat_a]) (by simp [lg_sl, cat_rf, cat_i, cat_l, cat_a]) (fun p e R s m args below meth c Q A C => ?_)
    have j_38 : ∀ (S : Sg) (x2 : Int32), f_typeBlock_38 K (f_typeBlock K d) S x2 = some (Sf, rf) → WX p l e R s m args below meth c Q D A K m9 mr 4 S0 S 38 [(0, .ref m9), (2, .int x2)] [] := by
      intro S x2 h
      unfold f_typeBlock_38 at h
      refine x_tload_n C eX23_typeBlock_38 rfl 0 rfl ?_
      refine x_iload_n C eX23_typeBlock_39 rfl 1 rfl ?_
      refine x_pM (k9 := 23) C (by decide) rfl (by decide) ww_332 rfl (by decide +kernel) eX23_typeBlock_40 h (fun S8 h => ?_)
      exact x_vret C rfl rfl eX23_typeBlock_43 h
    have j_7 : ∀ (n_7 : Nat) (S : Sg) (x1 : Option Nat) (x2 : Int32) (x3 : Int32), f_typeBlock_7 K (f_typeBlock K d) n_7 S x1 x2 x3 = some (Sf, rf) → WX p l e R s m args below meth c Q D A K m9 mr 4 S0 S 7 [(0, .ref m9), (1, va_rf x1), (2, .int x2), (3, .int x3)] [] := by
      intro n_7
      induction n_7 with
      | zero => intro S x1 x2 x3 h; unfold f_typeBlock_7 at h; cases h
      | succ n_7 ih_7 =>
        intro S x1 x2 x3 h
        unfold f_typeBlock_7 at h
        refine x_iload_n C eX23_typeBlock_7 rfl 3 rfl ?_
        refine x_aload_n C eX23_typeBlock_8 rfl 1 rfl ?_
        refine x_gI (o9 := x1) (ci := 14) (k9 := 3) (Cn := RX14) (T := TX14) (N := 4) C rfl wt_X14 (by decide) ww_124 eX23_typeBlock_9 h (fun v1 h => ?_)
        refine x_ic_ge (tgt := 38) C eX23_typeBlock_12 (by decide) h (fun h => ?_) (fun h => ?_)
        · refine x_sub [0, 2] rfl ?_
          exact j_38 S x2 h
        · refine x_tload_n C eX23_typeBlock_15 rfl 0 rfl ?_
          refine x_cVi (As := []) (st := []) (n := 0) (frc := 1) (loc := 20) C h (fun S9 r9 e9 => k_X23_ok l D K m9 mr _ S9 r9 e9) ww_0 ww_13 ww_14 ww_15 ww_16 (by decide +kernel) rfl ⟨by omega, by omega⟩ (Nat.le_of_ble_eq_true rfl) eX23_typeBlock_16 (fun S2 v3 h => ?_)
          refine x_if_eq (tgt := 38) C eX23_typeBlock_19 (by decide) h (fun h => ?_) (fun h => ?_)
          · refine x_sub [0, 2] rfl ?_
            exact j_38 S2 x2 h
          · refine x_tload_n C eX23_typeBlock_22 rfl 0 rfl ?_
            refine x_aload_n C eX23_typeBlock_23 rfl 1 rfl ?_
            refine x_gR (o9 := x1) (ci := 14) (k9 := 2) (Cn := RX14) (T := TX14) (N := 4) C rfl wt_X14 (by decide) ww_125 eX23_typeBlock_24 h (fun v4 h => ?_)
            refine x_iload_n C eX23_typeBlock_27 rfl 3 rfl ?_
            refine x_aQ (t9 := 11) C rfl eX23_typeBlock_28 h (fun v5 h => ?_)
            refine x_cVv (As := [va_rf v5]) (st := []) (n := 1) (frc := 1652 + 4 * d) (loc := 39637 + 97 * d) C h (fun S9 r9 e9 => k_X23_typeStatement l D K m9 mr (f_typeBlock K d) d ih _ S9 v5 r9 e9) ww_418 ww_414 ww_415 ww_416 ww_16 (by decide +kernel) rfl ⟨by omega, by omega⟩ (Nat.le_of_ble_eq_true rfl) eX23_typeBlock_29 (fun S6 v7 h => ?_)
            refine x_iinc (j := 3) (v := 1) (lv2 := [(0, .ref m9), (1, va_rf x1), (2, .int x2)]) C eX23_typeBlock_32 rfl (by decide) (by decide) rfl (oky rfl (oky (cat_rf x1) (oky rfl ok0))) ?_
            refine x_goto (tgt := 7) C eX23_typeBlock_35 (by decide) ?_
            refine x_sub [1, 2, 3, 0] rfl ?_
            exact ih_7 S6 x1 x2 (x3 + 1) h
    unfold f_typeBlock at h
    refine x_tload_n C eX23_typeBlock_0 rfl 0 rfl ?_
    refine x_mV (k9 := 23) C (by decide) ww_332 eX23_typeBlock_1 rfl ?_
    refine x_istore_n (lv2 := [(0, .ref m9), (1, va_rf x1)]) C eX23_typeBlock_4 rfl (by decide) rfl (oky rfl (oky (cat_rf x1) ok0)) ?_
    refine x_iconst (v := 0) C eX23_typeBlock_5 (by decide) ?_
    refine x_istore_n (lv2 := [(2, .int (Zi S0 23)), (0, .ref m9), (1, va_rf x1)]) C eX23_typeBlock_6 rfl (by decide) rfl (oky rfl (oky rfl (oky (cat_rf x1) ok0))) ?_
    refine x_sub [2, 3, 1, 0] rfl ?_
    exact j_7 bigN S0 x1 (Zi S0 23) 0 h
