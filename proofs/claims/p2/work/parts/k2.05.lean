set_option maxRecDepth 20000 in
set_option maxHeartbeats 4000000 in
theorem k_X23_endless (l : Launch) (D : va_G) (K : Ky) (m9 : Nat) (mr : Nat → Nat) (S0 Sf : Sg) (rf : Unit) (h : f_endless K S0 = some (Sf, rf)) : CT l D K m9 mr yX23_endless (Cond.code yX23_endless cX23_endless 4 none) (3) (66) S0 Sf [.ref m9] none := by
  refine x_start (cc := cX23_endless) (lv := [(0, .ref m9)]) rfl rfl (by decide) (by simp [lv_args, cat_rf, cat_i, cat_l, cat_a]) (by simp [lg_sl, cat_rf, cat_i, cat_l, cat_a]) (fun p e R s m args below meth c Q A C => ?_)
  have j_175 : ∀ (n_175 : Nat) (S : Sg) (x1 : Int32), f_endless_175 K n_175 S x1 = some (Sf, rf) → WX p l e R s m args below meth c Q D A K m9 mr 4 S0 S 175 [(0, .ref m9), (1, .int x1)] [] := by
    intro n_175
    induction n_175 with
    | zero => intro S x1 h; unfold f_endless_175 at h; cases h
    | succ n_175 ih_175 =>
      intro S x1 h
      have j_205 : ∀ (n_205 : Nat) (S : Sg) (x1 : Int32) (x2 : Int32), f_endless_205 K (f_endless_175 K n_175) n_205 S x1 x2 = some (Sf, rf) → WX p l e R s m args below meth c Q D A K m9 mr 4 S0 S 205 [(0, .ref m9), (1, .int x1), (2, .int x2)] [] := by
        intro n_205
        induction n_205 with
        | zero => intro S x1 x2 h; unfold f_endless_205 at h; cases h
        | succ n_205 ih_205 =>
          intro S x1 x2 h
          have j_251 : ∀ (S : Sg) (x1 : Int32) (x2 : Int32), f_endless_251 K (f_endless_175 K n_175) (f_endless_205 K (f_endless_175 K n_175) n_205) S x1 x2 = some (Sf, rf) → WX p l e R s m args below meth c Q D A K m9 mr 4 S0 S 251 [(0, .ref m9), (1, .int x1), (2, .int x2)] [] := by
            intro S x1 x2 h
            unfold f_endless_251 at h
            refine x_iinc (j := 2) (v := 1) (lv2 := [(0, .ref m9), (1, .int x1)]) C eX23_endless_251 rfl (by decide) (by decide) rfl (oky rfl (oky rfl ok0)) ?_
            refine x_goto (tgt := 205) C eX23_endless_254 (by decide) ?_
            refine x_sub [1, 2, 0] rfl ?_
            exact ih_205 S x1 (x2 + 1) h
          unfold f_endless_205 at h
          refine x_iload_n C eX23_endless_205 rfl 2 rfl ?_
          refine x_tload_n C eX23_endless_206 rfl 0 rfl ?_
          refine x_mV (k9 := 12) C (by decide) ww_102 eX23_endless_207 rfl ?_
          refine x_ic_ge (tgt := 257) C eX23_endless_210 (by decide) h (fun h => ?_) (fun h => ?_)
          · refine x_tload_n C eX23_endless_257 rfl 0 rfl ?_
            refine x_mV (k9 := 11) C (by decide) ww_114 eX23_endless_258 rfl ?_
            refine x_iload_n C eX23_endless_261 rfl 1 rfl ?_
            refine x_rQ (r := 11) (t9 := 3) C (by decide) rfl (by decide) rfl eX23_endless_262 h (fun v14 h => ?_)
            refine x_iconst (v := 0) C eX23_endless_263 (by decide) ?_
            refine x_pI (o9 := v14) (ci := 16) (k9 := 19) (Cn := RX16) (T := TX16) (N := 22) C rfl wt_X16 tyX16_ok nmX16 (by decide) ww_297 rfl (by decide +kernel) eX23_endless_264 h (fun S15 h => ?_)
            refine x_iinc (j := 1) (v := 1) (lv2 := [(0, .ref m9), (2, .int x2)]) C eX23_endless_267 rfl (by decide) (by decide) rfl (oky rfl (oky rfl ok0)) ?_
            refine x_goto (tgt := 175) C eX23_endless_270 (by decide) ?_
            refine x_sub [1, 0] rfl ?_
            exact ih_175 S15 (x1 + 1) h
          · refine x_tload_n C eX23_endless_213 rfl 0 rfl ?_
            refine x_mV (k9 := 20) C (by decide) ww_292 eX23_endless_214 rfl ?_
            refine x_bipush (v := 70) C eX23_endless_217 (by decide) ?_
            refine x_iload_n C eX23_endless_219 rfl 1 rfl ?_
            refine x_imul C eX23_endless_220 ?_
            refine x_iload_n C eX23_endless_221 rfl 2 rfl ?_
            refine x_iadd C eX23_endless_222 ?_
            refine x_rZ (r := 20) C (by decide) rfl eX23_endless_223 h (fun v16 h => ?_)
            refine x_if_eq (tgt := 251) C eX23_endless_224 (by decide) h (fun h => ?_) (fun h => ?_)
            · refine x_sub [0, 1, 2] rfl ?_
              exact j_251 S x1 x2 h
            · refine x_tload_n C eX23_endless_227 rfl 0 rfl ?_
              refine x_mV (k9 := 20) C (by decide) ww_292 eX23_endless_228 rfl ?_
              refine x_bipush (v := 70) C eX23_endless_231 (by decide) ?_
              refine x_iload_n C eX23_endless_233 rfl 2 rfl ?_
              refine x_imul C eX23_endless_234 ?_
              refine x_iload_n C eX23_endless_235 rfl 2 rfl ?_
              refine x_iadd C eX23_endless_236 ?_
              refine x_rZ (r := 20) C (by decide) rfl eX23_endless_237 h (fun v17 h => ?_)
              refine x_if_eq (tgt := 251) C eX23_endless_238 (by decide) h (fun h => ?_) (fun h => ?_)
              · refine x_sub [0, 1, 2] rfl ?_
                exact j_251 S x1 x2 h
              · refine x_tload_n C eX23_endless_241 rfl 0 rfl ?_
                refine x_mV (k9 := 11) C (by decide) ww_114 eX23_endless_242 rfl ?_
                refine x_iload_n C eX23_endless_245 rfl 1 rfl ?_
                refine x_rQ (r := 11) (t9 := 3) C (by decide) rfl (by decide) rfl eX23_endless_246 h (fun v18 h => ?_)
                refine x_iconst (v := 1) C eX23_endless_247 (by decide) ?_
                refine x_pZ (o9 := v18) (ci := 16) (k9 := 21) (Cn := RX16) (T := TX16) (N := 22) C rfl wt_X16 tyX16_ok nmX16 (by decide) ww_296 rfl (by decide +kernel) eX23_endless_248 h (fun S19 h => ?_)
                refine x_sub [0, 1, 2] rfl ?_
                exact j_251 S19 x1 x2 h
      unfold f_endless_175 at h
      refine x_iload_n C eX23_endless_175 rfl 1 rfl ?_
      refine x_tload_n C eX23_endless_176 rfl 0 rfl ?_
      refine x_mV (k9 := 12) C (by decide) ww_102 eX23_endless_177 rfl ?_
      refine x_ic_ge (tgt := 273) C eX23_endless_180 (by decide) h (fun h => ?_) (fun h => ?_)
      · exact x_vret C rfl rfl eX23_endless_273 h
      · refine x_tload_n C eX23_endless_183 rfl 0 rfl ?_
        refine x_mV (k9 := 11) C (by decide) ww_114 eX23_endless_184 rfl ?_
        refine x_iload_n C eX23_endless_187 rfl 1 rfl ?_
        refine x_rQ (r := 11) (t9 := 3) C (by decide) rfl (by decide) rfl eX23_endless_188 h (fun v11 h => ?_)
        refine x_tload_n C eX23_endless_189 rfl 0 rfl ?_
        refine x_mV (k9 := 20) C (by decide) ww_292 eX23_endless_190 rfl ?_
        refine x_bipush (v := 70) C eX23_endless_193 (by decide) ?_
        refine x_iload_n C eX23_endless_195 rfl 1 rfl ?_
        refine x_imul C eX23_endless_196 ?_
        refine x_iload_n C eX23_endless_197 rfl 1 rfl ?_
        refine x_iadd C eX23_endless_198 ?_
        refine x_rZ (r := 20) C (by decide) rfl eX23_endless_199 h (fun v12 h => ?_)
        refine x_pZ (o9 := v11) (ci := 16) (k9 := 21) (Cn := RX16) (T := TX16) (N := 22) C rfl wt_X16 tyX16_ok nmX16 (by decide) ww_296 rfl (by decide +kernel) eX23_endless_200 h (fun S13 h => ?_)
        refine x_iconst (v := 0) C eX23_endless_203 (by decide) ?_
        refine x_istore_n (lv2 := [(0, .ref m9), (1, .int x1)]) C eX23_endless_204 rfl (by decide) rfl (oky rfl (oky rfl ok0)) ?_
        refine x_sub [1, 2, 0] rfl ?_
        exact j_205 bigN S13 x1 0 h
  have j_87 : ∀ (n_87 : Nat) (S : Sg) (x1 : Int32), f_endless_87 K n_87 S x1 = some (Sf, rf) → WX p l e R s m args below meth c Q D A K m9 mr 4 S0 S 87 [(0, .ref m9), (1, .int x1)] [] := by
    intro n_87
    induction n_87 with
    | zero => intro S x1 h; unfold f_endless_87 at h; cases h
    | succ n_87 ih_87 =>
      intro S x1 h
      have j_97 : ∀ (n_97 : Nat) (S : Sg) (x1 : Int32) (x2 : Int32), f_endless_97 K (f_endless_87 K n_87) n_97 S x1 x2 = some (Sf, rf) → WX p l e R s m args below meth c Q D A K m9 mr 4 S0 S 97 [(0, .ref m9), (1, .int x1), (2, .int x2)] [] := by
        intro n_97
        induction n_97 with
        | zero => intro S x1 x2 h; unfold f_endless_97 at h; cases h
        | succ n_97 ih_97 =>
          intro S x1 x2 h
          have j_107 : ∀ (n_107 : Nat) (S : Sg) (x1 : Int32) (x2 : Int32) (x3 : Int32), f_endless_107 K (f_endless_87 K n_87) (f_endless_97 K (f_endless_87 K n_87) n_97) n_107 S x1 x2 x3 = some (Sf, rf) → WX p l e R s m args below meth c Q D A K m9 mr 4 S0 S 107 [(0, .ref m9), (1, .int x1), (2, .int x2), (3, .int x3)] [] := by
            intro n_107
            induction n_107 with
            | zero => intro S x1 x2 x3 h; unfold f_endless_107 at h; cases h
            | succ n_107 ih_107 =>
              intro S x1 x2 x3 h
              have j_155 : ∀ (S : Sg) (x1 : Int32) (x2 : Int32) (x3 : Int32), f_endless_155 K (f_endless_87 K n_87) (f_endless_97 K (f_endless_87 K n_87) n_97) (f_endless_107 K (f_endless_87 K n_87) (f_endless_97 K (f_endless_87 K n_87) n_97) n_107) S x1 x2 x3 = some (Sf, rf) → WX p l e R s m args below meth c Q D A K m9 mr 4 S0 S 155 [(0, .ref m9), (1, .int x1), (2, .int x2), (3, .int x3)] [] := by
                intro S x1 x2 x3 h
                unfold f_endless_155 at h
                refine x_iinc (j := 3) (v := 1) (lv2 := [(0, .ref m9), (1, .int x1), (2, .int x2)]) C eX23_endless_155 rfl (by decide) (by decide) rfl (oky rfl (oky rfl (oky rfl ok0))) ?_
                refine x_goto (tgt := 107) C eX23_endless_158 (by decide) ?_
                refine x_sub [1, 2, 3, 0] rfl ?_
                exact ih_107 S x1 x2 (x3 + 1) h
              unfold f_endless_107 at h
              refine x_iload_n C eX23_endless_107 rfl 3 rfl ?_
              refine x_tload_n C eX23_endless_108 rfl 0 rfl ?_
              refine x_mV (k9 := 12) C (by decide) ww_102 eX23_endless_109 rfl ?_
              refine x_ic_ge (tgt := 161) C eX23_endless_112 (by decide) h (fun h => ?_) (fun h => ?_)
              · refine x_iinc (j := 2) (v := 1) (lv2 := [(0, .ref m9), (1, .int x1), (3, .int x3)]) C eX23_endless_161 rfl (by decide) (by decide) rfl (oky rfl (oky rfl (oky rfl ok0))) ?_
                refine x_goto (tgt := 97) C eX23_endless_164 (by decide) ?_
                refine x_sub [1, 2, 0] rfl ?_
                exact ih_97 S x1 (x2 + 1) h
              · refine x_tload_n C eX23_endless_115 rfl 0 rfl ?_
                refine x_mV (k9 := 20) C (by decide) ww_292 eX23_endless_116 rfl ?_
                refine x_bipush (v := 70) C eX23_endless_119 (by decide) ?_
                refine x_iload_n C eX23_endless_121 rfl 2 rfl ?_
                refine x_imul C eX23_endless_122 ?_
                refine x_iload_n C eX23_endless_123 rfl 1 rfl ?_
                refine x_iadd C eX23_endless_124 ?_
                refine x_rZ (r := 20) C (by decide) rfl eX23_endless_125 h (fun v8 h => ?_)
                refine x_if_eq (tgt := 155) C eX23_endless_126 (by decide) h (fun h => ?_) (fun h => ?_)
                · refine x_sub [0, 1, 2, 3] rfl ?_
                  exact j_155 S x1 x2 x3 h
                · refine x_tload_n C eX23_endless_129 rfl 0 rfl ?_
                  refine x_mV (k9 := 20) C (by decide) ww_292 eX23_endless_130 rfl ?_
                  refine x_bipush (v := 70) C eX23_endless_133 (by decide) ?_
                  refine x_iload_n C eX23_endless_135 rfl 1 rfl ?_
                  refine x_imul C eX23_endless_136 ?_
                  refine x_iload_n C eX23_endless_137 rfl 3 rfl ?_
                  refine x_iadd C eX23_endless_138 ?_
                  refine x_rZ (r := 20) C (by decide) rfl eX23_endless_139 h (fun v9 h => ?_)
                  refine x_if_eq (tgt := 155) C eX23_endless_140 (by decide) h (fun h => ?_) (fun h => ?_)
                  · refine x_sub [0, 1, 2, 3] rfl ?_
                    exact j_155 S x1 x2 x3 h
                  · refine x_tload_n C eX23_endless_143 rfl 0 rfl ?_
                    refine x_mV (k9 := 20) C (by decide) ww_292 eX23_endless_144 rfl ?_
                    refine x_bipush (v := 70) C eX23_endless_147 (by decide) ?_
                    refine x_iload_n C eX23_endless_149 rfl 2 rfl ?_
                    refine x_imul C eX23_endless_150 ?_
                    refine x_iload_n C eX23_endless_151 rfl 3 rfl ?_
                    refine x_iadd C eX23_endless_152 ?_
                    refine x_iconst (v := 1) C eX23_endless_153 (by decide) ?_
                    refine x_wZ (r := 20) C (by decide) rfl eX23_endless_154 h (fun S10 h => ?_)
                    refine x_sub [0, 1, 2, 3] rfl ?_
                    exact j_155 S10 x1 x2 x3 h
          unfold f_endless_97 at h
          refine x_iload_n C eX23_endless_97 rfl 2 rfl ?_
          refine x_tload_n C eX23_endless_98 rfl 0 rfl ?_
          refine x_mV (k9 := 12) C (by decide) ww_102 eX23_endless_99 rfl ?_
          refine x_ic_ge (tgt := 167) C eX23_endless_102 (by decide) h (fun h => ?_) (fun h => ?_)
          · refine x_iinc (j := 1) (v := 1) (lv2 := [(0, .ref m9), (2, .int x2)]) C eX23_endless_167 rfl (by decide) (by decide) rfl (oky rfl (oky rfl ok0)) ?_
            refine x_goto (tgt := 87) C eX23_endless_170 (by decide) ?_
            refine x_sub [1, 0] rfl ?_
            exact ih_87 S (x1 + 1) h
          · refine x_iconst (v := 0) C eX23_endless_105 (by decide) ?_
            refine x_istore_n (lv2 := [(0, .ref m9), (1, .int x1), (2, .int x2)]) C eX23_endless_106 rfl (by decide) rfl (oky rfl (oky rfl (oky rfl ok0))) ?_
            refine x_sub [1, 2, 3, 0] rfl ?_
            exact j_107 bigN S x1 x2 0 h
      unfold f_endless_87 at h
      refine x_iload_n C eX23_endless_87 rfl 1 rfl ?_
      refine x_tload_n C eX23_endless_88 rfl 0 rfl ?_
      refine x_mV (k9 := 12) C (by decide) ww_102 eX23_endless_89 rfl ?_
      refine x_ic_ge (tgt := 173) C eX23_endless_92 (by decide) h (fun h => ?_) (fun h => ?_)
      · refine x_iconst (v := 0) C eX23_endless_173 (by decide) ?_
        refine x_istore_n (lv2 := [(0, .ref m9)]) C eX23_endless_174 rfl (by decide) rfl (oky rfl ok0) ?_
        refine x_sub [1, 0] rfl ?_
        exact j_175 bigN S 0 h
      · refine x_iconst (v := 0) C eX23_endless_95 (by decide) ?_
        refine x_istore_n (lv2 := [(0, .ref m9), (1, .int x1)]) C eX23_endless_96 rfl (by decide) rfl (oky rfl (oky rfl ok0)) ?_
        refine x_sub [1, 2, 0] rfl ?_
        exact j_97 bigN S x1 0 h
  have j_2 : ∀ (n_2 : Nat) (S : Sg) (x1 : Int32), f_endless_2 K n_2 S x1 = some (Sf, rf) → WX p l e R s m args below meth c Q D A K m9 mr 4 S0 S 2 [(0, .ref m9), (1, .int x1)] [] := by
    intro n_2
    induction n_2 with
    | zero => intro S x1 h; unfold f_endless_2 at h; cases h
    | succ n_2 ih_2 =>
      intro S x1 h
      have j_12 : ∀ (n_12 : Nat) (S : Sg) (x1 : Int32) (x2 : Int32), f_endless_12 K (f_endless_2 K n_2) n_12 S x1 x2 = some (Sf, rf) → WX p l e R s m args below meth c Q D A K m9 mr 4 S0 S 12 [(0, .ref m9), (1, .int x1), (2, .int x2)] [] := by
        intro n_12
        induction n_12 with
        | zero => intro S x1 x2 h; unfold f_endless_12 at h; cases h
        | succ n_12 ih_12 =>
          intro S x1 x2 h
          have j_72 : ∀ (S : Sg) (x1 : Int32) (x2 : Int32) (y0 : Int32) (y1 : Int32), f_endless_72 K (f_endless_2 K n_2) (f_endless_12 K (f_endless_2 K n_2) n_12) S x1 x2 y0 y1 = some (Sf, rf) → WX p l e R s m args below meth c Q D A K m9 mr 4 S0 S 72 [(0, .ref m9), (1, .int x1), (2, .int x2)] [.int y0, .int y1, .ref (mr 20)] := by
            intro S x1 x2 y0 y1 h
            unfold f_endless_72 at h
            refine x_wZ (r := 20) C (by decide) rfl eX23_endless_72 h (fun S7 h => ?_)
            refine x_iinc (j := 2) (v := 1) (lv2 := [(0, .ref m9), (1, .int x1)]) C eX23_endless_73 rfl (by decide) (by decide) rfl (oky rfl (oky rfl ok0)) ?_
            refine x_goto (tgt := 12) C eX23_endless_76 (by decide) ?_
            refine x_sub [1, 2, 0] rfl ?_
            exact ih_12 S7 x1 (x2 + 1) h
          have j_71 : ∀ (S : Sg) (x1 : Int32) (x2 : Int32) (y0 : Int32), f_endless_71 K (f_endless_2 K n_2) (f_endless_12 K (f_endless_2 K n_2) n_12) S x1 x2 y0 = some (Sf, rf) → WX p l e R s m args below meth c Q D A K m9 mr 4 S0 S 71 [(0, .ref m9), (1, .int x1), (2, .int x2)] [.int y0, .ref (mr 20)] := by
            intro S x1 x2 y0 h
            unfold f_endless_71 at h
            refine x_iconst (v := 0) C eX23_endless_71 (by decide) ?_
            refine x_sub [0, 1, 2] rfl ?_
            exact j_72 S x1 x2 0 y0 h
          unfold f_endless_12 at h
          refine x_iload_n C eX23_endless_12 rfl 2 rfl ?_
          refine x_tload_n C eX23_endless_13 rfl 0 rfl ?_
          refine x_mV (k9 := 12) C (by decide) ww_102 eX23_endless_14 rfl ?_
          refine x_ic_ge (tgt := 79) C eX23_endless_17 (by decide) h (fun h => ?_) (fun h => ?_)
          · refine x_iinc (j := 1) (v := 1) (lv2 := [(0, .ref m9), (2, .int x2)]) C eX23_endless_79 rfl (by decide) (by decide) rfl (oky rfl (oky rfl ok0)) ?_
            refine x_goto (tgt := 2) C eX23_endless_82 (by decide) ?_
            refine x_sub [1, 0] rfl ?_
            exact ih_2 S (x1 + 1) h
          · refine x_tload_n C eX23_endless_20 rfl 0 rfl ?_
            refine x_mV (k9 := 20) C (by decide) ww_292 eX23_endless_21 rfl ?_
            refine x_bipush (v := 70) C eX23_endless_24 (by decide) ?_
            refine x_iload_n C eX23_endless_26 rfl 1 rfl ?_
            refine x_imul C eX23_endless_27 ?_
            refine x_iload_n C eX23_endless_28 rfl 2 rfl ?_
            refine x_iadd C eX23_endless_29 ?_
            refine x_tload_n C eX23_endless_30 rfl 0 rfl ?_
            refine x_mV (k9 := 11) C (by decide) ww_114 eX23_endless_31 rfl ?_
            refine x_iload_n C eX23_endless_34 rfl 1 rfl ?_
            refine x_rQ (r := 11) (t9 := 3) C (by decide) rfl (by decide) rfl eX23_endless_35 h (fun v1 h => ?_)
            refine x_gI (o9 := v1) (ci := 16) (k9 := 2) (Cn := RX16) (T := TX16) (N := 22) C rfl wt_X16 (by decide) ww_72 eX23_endless_36 h (fun v2 h => ?_)
            refine x_bipush (v := 12) C eX23_endless_39 (by decide) ?_
            refine x_ic_eq (tgt := 71) C eX23_endless_41 (by decide) h (fun h => ?_) (fun h => ?_)
            · refine x_sub [0, 1, 2] rfl ?_
              exact j_71 S x1 x2 ((70 * x1) + x2) h
            · refine x_tload_n C eX23_endless_44 rfl 0 rfl ?_
              refine x_mV (k9 := 11) C (by decide) ww_114 eX23_endless_45 rfl ?_
              refine x_iload_n C eX23_endless_48 rfl 2 rfl ?_
              refine x_rQ (r := 11) (t9 := 3) C (by decide) rfl (by decide) rfl eX23_endless_49 h (fun v3 h => ?_)
              refine x_gI (o9 := v3) (ci := 16) (k9 := 2) (Cn := RX16) (T := TX16) (N := 22) C rfl wt_X16 (by decide) ww_72 eX23_endless_50 h (fun v4 h => ?_)
              refine x_bipush (v := 12) C eX23_endless_53 (by decide) ?_
              refine x_ic_eq (tgt := 71) C eX23_endless_55 (by decide) h (fun h => ?_) (fun h => ?_)
              · refine x_sub [0, 1, 2] rfl ?_
                exact j_71 S x1 x2 ((70 * x1) + x2) h
              · refine x_tload_n C eX23_endless_58 rfl 0 rfl ?_
                refine x_iload_n C eX23_endless_59 rfl 1 rfl ?_
                refine x_iload_n C eX23_endless_60 rfl 2 rfl ?_
                refine x_cVi (As := [.int x1, .int x2]) (st := [.int ((70 * x1) + x2), .ref (mr 20)]) (n := 2) (frc := 2) (loc := 41) C h (fun S9 r9 e9 => k_X23_lies l D K m9 mr _ S9 x1 x2 r9 e9) ww_287 ww_293 ww_294 ww_295 ww_16 (by decide +kernel) rfl ⟨by omega, by omega⟩ (Nat.le_of_ble_eq_true rfl) eX23_endless_61 (fun S5 v6 h => ?_)
                refine x_if_eq (tgt := 71) C eX23_endless_64 (by decide) h (fun h => ?_) (fun h => ?_)
                · refine x_sub [0, 1, 2] rfl ?_
                  exact j_71 S5 x1 x2 ((70 * x1) + x2) h
                · refine x_iconst (v := 1) C eX23_endless_67 (by decide) ?_
                  refine x_goto (tgt := 72) C eX23_endless_68 (by decide) ?_
                  refine x_sub [0, 1, 2] rfl ?_
                  exact j_72 S5 x1 x2 1 ((70 * x1) + x2) h
      unfold f_endless_2 at h
      refine x_iload_n C eX23_endless_2 rfl 1 rfl ?_
      refine x_tload_n C eX23_endless_3 rfl 0 rfl ?_
      refine x_mV (k9 := 12) C (by decide) ww_102 eX23_endless_4 rfl ?_
      refine x_ic_ge (tgt := 85) C eX23_endless_7 (by decide) h (fun h => ?_) (fun h => ?_)
      · refine x_iconst (v := 0) C eX23_endless_85 (by decide) ?_
        refine x_istore_n (lv2 := [(0, .ref m9)]) C eX23_endless_86 rfl (by decide) rfl (oky rfl ok0) ?_
        refine x_sub [1, 0] rfl ?_
        exact j_87 bigN S 0 h
      · refine x_iconst (v := 0) C eX23_endless_10 (by decide) ?_
        refine x_istore_n (lv2 := [(0, .ref m9), (1, .int x1)]) C eX23_endless_11 rfl (by decide) rfl (oky rfl (oky rfl ok0)) ?_
        refine x_sub [1, 2, 0] rfl ?_
        exact j_12 bigN S x1 0 h
  unfold f_endless at h
  refine x_iconst (v := 0) C eX23_endless_0 (by decide) ?_
  refine x_istore_n (lv2 := [(0, .ref m9)]) C eX23_endless_1 rfl (by decide) rfl (oky rfl ok0) ?_
  refine x_sub [1, 0] rfl ?_
  exact j_2 bigN S0 0 h
set_option maxRecDepth 20000 in
set_option maxHeartbeats 4000000 in
theorem k_X23_sizeOf (l : Launch) (D : va_G) (K : Ky) (m9 : Nat) (mr : Nat → Nat) (V : Sg → Option Nat → Option (Sg × Int32)) (d : Nat) (hV : ∀ (S0 Sf : Sg) (x1 : Option Nat) (rf : Int32), V S0 x1 = some (Sf, rf) → CT l D K m9 mr yX23_sizeOfItem (Cond.code yX23_sizeOfItem cX23_sizeOfItem 6 (some .int)) (1 + 2 * d) (20 + 46 * d) S0 Sf [.ref m9, va_rf x1] (some (.int rf))) (S0 Sf : Sg) (x1 : Option Nat) (rf : Int32) (h : f_sizeOf K V S0 x1 = some (Sf, rf)) : CT l D K m9 mr yX23_sizeOf (Cond.code yX23_sizeOf cX23_sizeOf 2 (some .int)) (2 + 2 * d) (45 + 46 * d) S0 Sf [.ref m9, va_rf x1] (some (.int rf)) := by
  refine x_start (cc := cX23_sizeOf) (lv := [(0, .ref m9), (1, va_rf x1)]) rfl rfl (by decide) (by simp [lv_args, cat_rf, cat_i, cat_l, cat_a]) (by simp [lg_sl, cat_rf, cat_i, cat_l, cat_a]) (fun p e R s m args below meth c Q A C => ?_)
  have j_33 : ∀ (S : Sg) (y0 : Int32), f_sizeOf_33 K V S y0 = some (Sf, rf) → WX p l e R s m args below meth c Q D A K m9 mr 2 S0 S 33 [] [.int y0] := by
    intro S y0 h
    unfold f_sizeOf_33 at h
    exact x_iret C rfl rfl eX23_sizeOf_33 h
  have j_16 : ∀ (S : Sg) (x1 : Option Nat), f_sizeOf_16 K V S x1 = some (Sf, rf) → WX p l e R s m args below meth c Q D A K m9 mr 2 S0 S 16 [(0, .ref m9), (1, va_rf x1)] [] := by
    intro S x1 h
    unfold f_sizeOf_16 at h
    refine x_tload_n C eX23_sizeOf_16 rfl 0 rfl ?_
    refine x_tload_n C eX23_sizeOf_17 rfl 0 rfl ?_
    refine x_mV (k9 := 11) C (by decide) ww_114 eX23_sizeOf_18 rfl ?_
    refine x_aload_n C eX23_sizeOf_21 rfl 1 rfl ?_
    refine x_gI (o9 := x1) (ci := 20) (k9 := 1) (Cn := RX20) (T := TX20) (N := 4) C rfl wt_X20 (by decide) ww_248 eX23_sizeOf_22 h (fun v3 h => ?_)
    refine x_rQ (r := 11) (t9 := 3) C (by decide) rfl (by decide) rfl eX23_sizeOf_25 h (fun v4 h => ?_)
    refine x_cVi (As := [va_rf v4]) (st := []) (n := 1) (frc := 1 + 2 * d) (loc := 20 + 46 * d) C h (fun S9 r9 e9 => hV _ S9 v4 r9 e9) ww_302 ww_299 ww_300 ww_301 ww_16 (by decide +kernel) rfl ⟨by omega, by omega⟩ (Nat.le_of_ble_eq_true rfl) eX23_sizeOf_26 (fun S5 v6 h => ?_)
    refine x_goto (tgt := 33) C eX23_sizeOf_29 (by decide) ?_
    refine x_sub [] rfl ?_
    exact j_33 S5 v6 h
  unfold f_sizeOf at h
  refine x_aload_n C eX23_sizeOf_0 rfl 1 rfl ?_
  refine x_gI (o9 := x1) (ci := 20) (k9 := 0) (Cn := RX20) (T := TX20) (N := 4) C rfl wt_X20 (by decide) ww_247 eX23_sizeOf_1 h (fun v1 h => ?_)
  refine x_iconst (v := 3) C eX23_sizeOf_4 (by decide) ?_
  refine x_ic_eq (tgt := 16) C eX23_sizeOf_5 (by decide) h (fun h => ?_) (fun h => ?_)
  · refine x_sub [0, 1] rfl ?_
    exact j_16 S0 x1 h
  · refine x_aload_n C eX23_sizeOf_8 rfl 1 rfl ?_
    refine x_gI (o9 := x1) (ci := 20) (k9 := 0) (Cn := RX20) (T := TX20) (N := 4) C rfl wt_X20 (by decide) ww_247 eX23_sizeOf_9 h (fun v2 h => ?_)
    refine x_iconst (v := 4) C eX23_sizeOf_12 (by decide) ?_
    refine x_ic_ne (tgt := 32) C eX23_sizeOf_13 (by decide) h (fun h => ?_) (fun h => ?_)
    · refine x_iconst (v := 1) C eX23_sizeOf_32 (by decide) ?_
      refine x_sub [] rfl ?_
      exact j_33 S0 1 h
    · refine x_sub [0, 1] rfl ?_
      exact j_16 S0 x1 h
set_option maxRecDepth 20000 in
set_option maxHeartbeats 4000000 in
theorem k_X23_sizeOfItem (l : Launch) (D : va_G) (K : Ky) (m9 : Nat) (mr : Nat → Nat) : ∀ (d : Nat) (S0 Sf : Sg) (x1 : Option Nat) (rf : Int32), f_sizeOfItem K d S0 x1 = some (Sf, rf) → CT l D K m9 mr yX23_sizeOfItem (Cond.code yX23_sizeOfItem cX23_sizeOfItem 6 (some .int)) (1 + 2 * d) (20 + 46 * d) S0 Sf [.ref m9, va_rf x1] (some (.int rf)) := by
  intro d
  induction d with
  | zero => intro S0 Sf x1 rf h; unfold f_sizeOfItem at h; cases h
  | succ d ih =>
    intro S0 Sf x1 rf h
    refine x_start (cc := cX23_sizeOfItem) (lv := [(0, .ref m9), (1, va_rf x1)]) rfl rfl (by decide) (by simp [lv_args, cat_rf, cat_i, cat_l, cat_a]) (by simp [lg_sl, cat_rf, cat_i, cat_l, cat_a]) (fun p e R s m args below meth c Q A C => ?_)
    have j_126 : ∀ (S : Sg) (x1 : Option Nat) (y0 : Int32) (y1 : Option Nat), f_sizeOfItem_126 K (f_sizeOfItem K d) S x1 y0 y1 = some (Sf, rf) → WX p l e R s m args below meth c Q D A K m9 mr 6 S0 S 126 [(1, va_rf x1)] [.int y0, va_rf y1] := by
      intro S x1 y0 y1 h
      unfold f_sizeOfItem_126 at h
      refine x_pI (o9 := y1) (ci := 16) (k9 := 19) (Cn := RX16) (T := TX16) (N := 22) C rfl wt_X16 tyX16_ok nmX16 (by decide) ww_297 rfl (by decide +kernel) eX23_sizeOfItem_126 h (fun S18 h => ?_)
      refine x_aload_n C eX23_sizeOfItem_129 rfl 0 rfl ?_
      refine x_gI (o9 := x1) (ci := 16) (k9 := 19) (Cn := RX16) (T := TX16) (N := 22) C rfl wt_X16 (by decide) ww_297 eX23_sizeOfItem_130 h (fun v19 h => ?_)
      exact x_iret C rfl rfl eX23_sizeOfItem_133 h
    have j_16 : ∀ (n_16 : Nat) (S : Sg) (x1 : Option Nat) (x2 : Int32) (x3 : Int32), f_sizeOfItem_16 K (f_sizeOfItem K d) n_16 S x1 x2 x3 = some (Sf, rf) → WX p l e R s m args below meth c Q D A K m9 mr 6 S0 S 16 [(0, .ref m9), (1, va_rf x1), (2, .int x2), (3, .int x3)] [] := by
      intro n_16
      induction n_16 with
      | zero => intro S x1 x2 x3 h; unfold f_sizeOfItem_16 at h; cases h
      | succ n_16 ih_16 =>
        intro S x1 x2 x3 h
        have j_105 : ∀ (S : Sg) (x1 : Option Nat) (x2 : Int32) (x3 : Int32), f_sizeOfItem_105 K (f_sizeOfItem K d) (f_sizeOfItem_16 K (f_sizeOfItem K d) n_16) S x1 x2 x3 = some (Sf, rf) → WX p l e R s m args below meth c Q D A K m9 mr 6 S0 S 105 [(0, .ref m9), (1, va_rf x1), (2, .int x2), (3, .int x3)] [] := by
          intro S x1 x2 x3 h
          unfold f_sizeOfItem_105 at h
          refine x_iinc (j := 3) (v := 1) (lv2 := [(0, .ref m9), (1, va_rf x1), (2, .int x2)]) C eX23_sizeOfItem_105 rfl (by decide) (by decide) rfl (oky rfl (oky (cat_rf x1) (oky rfl ok0))) ?_
          refine x_goto (tgt := 16) C eX23_sizeOfItem_108 (by decide) ?_
          refine x_sub [1, 2, 3, 0] rfl ?_
          exact ih_16 S x1 x2 (x3 + 1) h
        have j_55 : ∀ (n_55 : Nat) (S : Sg) (x1 : Option Nat) (x2 : Int32) (x3 : Int32) (x4 : Int32) (x5 : Int32), f_sizeOfItem_55 K (f_sizeOfItem K d) (f_sizeOfItem_16 K (f_sizeOfItem K d) n_16) n_55 S x1 x2 x3 x4 x5 = some (Sf, rf) → WX p l e R s m args below meth c Q D A K m9 mr 6 S0 S 55 [(0, .ref m9), (1, va_rf x1), (2, .int x2), (3, .int x3), (4, .int x4), (5, .int x5)] [] := by
          intro n_55
          induction n_55 with
          | zero => intro S x1 x2 x3 x4 x5 h; unfold f_sizeOfItem_55 at h; cases h
          | succ n_55 ih_55 =>
            intro S x1 x2 x3 x4 x5 h
            unfold f_sizeOfItem_55 at h
            refine x_iload C eX23_sizeOfItem_55 5 rfl ?_
            refine x_aload_n C eX23_sizeOfItem_57 rfl 1 rfl ?_
            refine x_gR (o9 := x1) (ci := 16) (k9 := 11) (Cn := RX16) (T := TX16) (N := 22) C rfl wt_X16 (by decide) ww_65 eX23_sizeOfItem_58 h (fun v9 h => ?_)
            refine x_iload_n C eX23_sizeOfItem_61 rfl 3 rfl ?_
            refine x_aQ (t9 := 13) C rfl eX23_sizeOfItem_62 h (fun v10 h => ?_)
            refine x_gI (o9 := v10) (ci := 17) (k9 := 0) (Cn := RX17) (T := TX17) (N := 3) C rfl wt_X17 (by decide) ww_69 eX23_sizeOfItem_63 h (fun v11 h => ?_)
            refine x_ic_ge (tgt := 96) C eX23_sizeOfItem_66 (by decide) h (fun h => ?_) (fun h => ?_)
            · refine x_iload C eX23_sizeOfItem_96 4 rfl ?_
              refine x_iload_n C eX23_sizeOfItem_98 rfl 2 rfl ?_
              refine x_ic_le (tgt := 105) C eX23_sizeOfItem_99 (by decide) h (fun h => ?_) (fun h => ?_)
              · refine x_sub [0, 1, 2, 3] rfl ?_
                exact j_105 S x1 x2 x3 h
              · refine x_iload C eX23_sizeOfItem_102 4 rfl ?_
                refine x_istore_n (lv2 := [(0, .ref m9), (1, va_rf x1), (3, .int x3), (4, .int x4), (5, .int x5)]) C eX23_sizeOfItem_104 rfl (by decide) rfl (oky rfl (oky (cat_rf x1) (oky rfl (oky rfl (oky rfl ok0))))) ?_
                refine x_sub [1, 2, 0, 3] rfl ?_
                exact j_105 S x1 x4 x3 h
            · refine x_iload C eX23_sizeOfItem_69 4 rfl ?_
              refine x_tload_n C eX23_sizeOfItem_71 rfl 0 rfl ?_
              refine x_aload_n C eX23_sizeOfItem_72 rfl 1 rfl ?_
              refine x_gR (o9 := x1) (ci := 16) (k9 := 11) (Cn := RX16) (T := TX16) (N := 22) C rfl wt_X16 (by decide) ww_65 eX23_sizeOfItem_73 h (fun v12 h => ?_)
              refine x_iload_n C eX23_sizeOfItem_76 rfl 3 rfl ?_
              refine x_aQ (t9 := 13) C rfl eX23_sizeOfItem_77 h (fun v13 h => ?_)
              refine x_gR (o9 := v13) (ci := 17) (k9 := 2) (Cn := RX17) (T := TX17) (N := 3) C rfl wt_X17 (by decide) ww_68 eX23_sizeOfItem_78 h (fun v14 h => ?_)
              refine x_iload C eX23_sizeOfItem_81 5 rfl ?_
              refine x_aQ (t9 := 4) C rfl eX23_sizeOfItem_83 h (fun v15 h => ?_)
              refine x_cVi (As := [va_rf v15]) (st := [.int x4]) (n := 1) (frc := 2 + 2 * d) (loc := 45 + 46 * d) C h (fun S9 r9 e9 => k_X23_sizeOf l D K m9 mr (f_sizeOfItem K d) d ih _ S9 v15 r9 e9) ww_298 ww_303 ww_304 ww_305 ww_16 (by decide +kernel) rfl ⟨by omega, by omega⟩ (Nat.le_of_ble_eq_true rfl) eX23_sizeOfItem_84 (fun S16 v17 h => ?_)
              refine x_iadd C eX23_sizeOfItem_87 ?_
              refine x_istore (lv2 := [(0, .ref m9), (1, va_rf x1), (2, .int x2), (3, .int x3), (5, .int x5)]) C eX23_sizeOfItem_88 (by decide) rfl (oky rfl (oky (cat_rf x1) (oky rfl (oky rfl (oky rfl ok0))))) ?_
              refine x_iinc (j := 5) (v := 1) (lv2 := [(4, .int (x4 + v17)), (0, .ref m9), (1, va_rf x1), (2, .int x2), (3, .int x3)]) C eX23_sizeOfItem_90 rfl (by decide) (by decide) rfl (oky rfl (oky rfl (oky (cat_rf x1) (oky rfl (oky rfl ok0))))) ?_
              refine x_goto (tgt := 55) C eX23_sizeOfItem_93 (by decide) ?_
              refine x_sub [2, 3, 4, 5, 1, 0] rfl ?_
              exact ih_55 S16 x1 x2 x3 (x4 + v17) (x5 + 1) h
        unfold f_sizeOfItem_16 at h
        refine x_iload_n C eX23_sizeOfItem_16 rfl 3 rfl ?_
        refine x_aload_n C eX23_sizeOfItem_17 rfl 1 rfl ?_
        refine x_gI (o9 := x1) (ci := 16) (k9 := 3) (Cn := RX16) (T := TX16) (N := 22) C rfl wt_X16 (by decide) ww_51 eX23_sizeOfItem_18 h (fun v3 h => ?_)
        refine x_ic_ge (tgt := 111) C eX23_sizeOfItem_21 (by decide) h (fun h => ?_) (fun h => ?_)
        · refine x_aload_n C eX23_sizeOfItem_111 rfl 1 rfl ?_
          refine x_iload_n C eX23_sizeOfItem_112 rfl 2 rfl ?_
          refine x_sipush (v := 1000) C eX23_sizeOfItem_113 (by decide) ?_
          refine x_ic_le (tgt := 125) C eX23_sizeOfItem_116 (by decide) h (fun h => ?_) (fun h => ?_)
          · refine x_iload_n C eX23_sizeOfItem_125 rfl 2 rfl ?_
            refine x_sub [1] rfl ?_
            exact j_126 S x1 x2 x1 h
          · refine x_sipush (v := 1000) C eX23_sizeOfItem_119 (by decide) ?_
            refine x_goto (tgt := 126) C eX23_sizeOfItem_122 (by decide) ?_
            refine x_sub [1] rfl ?_
            exact j_126 S x1 1000 x1 h
        · refine x_aload_n C eX23_sizeOfItem_24 rfl 1 rfl ?_
          refine x_gI (o9 := x1) (ci := 16) (k9 := 2) (Cn := RX16) (T := TX16) (N := 22) C rfl wt_X16 (by decide) ww_72 eX23_sizeOfItem_25 h (fun v4 h => ?_)
          refine x_bipush (v := 10) C eX23_sizeOfItem_28 (by decide) ?_
          refine x_ic_ne (tgt := 49) C eX23_sizeOfItem_30 (by decide) h (fun h => ?_) (fun h => ?_)
          · refine x_iconst (v := 1) C eX23_sizeOfItem_49 (by decide) ?_
            refine x_istore (lv2 := [(0, .ref m9), (1, va_rf x1), (2, .int x2), (3, .int x3)]) C eX23_sizeOfItem_50 (by decide) rfl (oky rfl (oky (cat_rf x1) (oky rfl (oky rfl ok0)))) ?_
            refine x_iconst (v := 0) C eX23_sizeOfItem_52 (by decide) ?_
            refine x_istore (lv2 := [(4, .int 1), (0, .ref m9), (1, va_rf x1), (2, .int x2), (3, .int x3)]) C eX23_sizeOfItem_53 (by decide) rfl (oky rfl (oky rfl (oky (cat_rf x1) (oky rfl (oky rfl ok0))))) ?_
            refine x_sub [2, 3, 4, 5, 1, 0] rfl ?_
            exact j_55 bigN S x1 x2 x3 1 0 h
          · refine x_iload_n C eX23_sizeOfItem_33 rfl 2 rfl ?_
            refine x_tload_n C eX23_sizeOfItem_34 rfl 0 rfl ?_
            refine x_aload_n C eX23_sizeOfItem_35 rfl 1 rfl ?_
            refine x_gR (o9 := x1) (ci := 16) (k9 := 10) (Cn := RX16) (T := TX16) (N := 22) C rfl wt_X16 (by decide) ww_73 eX23_sizeOfItem_36 h (fun v5 h => ?_)
            refine x_iload_n C eX23_sizeOfItem_39 rfl 3 rfl ?_
            refine x_aQ (t9 := 4) C rfl eX23_sizeOfItem_40 h (fun v6 h => ?_)
            refine x_cVi (As := [va_rf v6]) (st := [.int x2]) (n := 1) (frc := 2 + 2 * d) (loc := 45 + 46 * d) C h (fun S9 r9 e9 => k_X23_sizeOf l D K m9 mr (f_sizeOfItem K d) d ih _ S9 v6 r9 e9) ww_298 ww_303 ww_304 ww_305 ww_16 (by decide +kernel) rfl ⟨by omega, by omega⟩ (Nat.le_of_ble_eq_true rfl) eX23_sizeOfItem_41 (fun S7 v8 h => ?_)
            refine x_iadd C eX23_sizeOfItem_44 ?_
            refine x_istore_n (lv2 := [(0, .ref m9), (1, va_rf x1), (3, .int x3)]) C eX23_sizeOfItem_45 rfl (by decide) rfl (oky rfl (oky (cat_rf x1) (oky rfl ok0))) ?_
            refine x_goto (tgt := 105) C eX23_sizeOfItem_46 (by decide) ?_
            refine x_sub [1, 2, 0, 3] rfl ?_
            exact j_105 S7 x1 (x2 + v8) x3 h
    unfold f_sizeOfItem at h
    refine x_aload_n C eX23_sizeOfItem_0 rfl 1 rfl ?_
    refine x_gI (o9 := x1) (ci := 16) (k9 := 19) (Cn := RX16) (T := TX16) (N := 22) C rfl wt_X16 (by decide) ww_297 eX23_sizeOfItem_1 h (fun v1 h => ?_)
    refine x_if_le (tgt := 12) C eX23_sizeOfItem_4 (by decide) h (fun h => ?_) (fun h => ?_)
    · refine x_iconst (v := 0) C eX23_sizeOfItem_12 (by decide) ?_
      refine x_istore_n (lv2 := [(0, .ref m9), (1, va_rf x1)]) C eX23_sizeOfItem_13 rfl (by decide) rfl (oky rfl (oky (cat_rf x1) ok0)) ?_
      refine x_iconst (v := 0) C eX23_sizeOfItem_14 (by decide) ?_
      refine x_istore_n (lv2 := [(2, .int 0), (0, .ref m9), (1, va_rf x1)]) C eX23_sizeOfItem_15 rfl (by decide) rfl (oky rfl (oky rfl (oky (cat_rf x1) ok0))) ?_
      refine x_sub [2, 3, 1, 0] rfl ?_
      exact j_16 bigN S0 x1 0 0 h
    · refine x_aload_n C eX23_sizeOfItem_7 rfl 1 rfl ?_
      refine x_gI (o9 := x1) (ci := 16) (k9 := 19) (Cn := RX16) (T := TX16) (N := 22) C rfl wt_X16 (by decide) ww_297 eX23_sizeOfItem_8 h (fun v2 h => ?_)
      exact x_iret C rfl rfl eX23_sizeOfItem_11 h
set_option maxRecDepth 20000 in
set_option maxHeartbeats 4000000 in
theorem k_X23_sizes (l : Launch) (D : va_G) (K : Ky) (m9 : Nat) (mr : Nat → Nat) (S0 Sf : Sg) (rf : Unit) (h : f_sizes K S0 = some (Sf, rf)) : CT l D K m9 mr yX23_sizes (Cond.code yX23_sizes cX23_sizes 2 none) (162) (3725) S0 Sf [.ref m9] none := by
  refine x_start (cc := cX23_sizes) (lv := [(0, .ref m9)]) rfl rfl (by decide) (by simp [lv_args, cat_rf, cat_i, cat_l, cat_a]) (by simp [lg_sl, cat_rf, cat_i, cat_l, cat_a]) (fun p e R s m args below meth c Q A C => ?_)
  have j_82 : ∀ (S : Sg), f_sizes_82 K S = some (Sf, rf) → WX p l e R s m args below meth c Q D A K m9 mr 2 S0 S 82 [] [] := by
    intro S h
    unfold f_sizes_82 at h
    exact x_vret C rfl rfl eX23_sizes_82 h
  have j_6 : ∀ (n_6 : Nat) (S : Sg) (x1 : Int32), f_sizes_6 K n_6 S x1 = some (Sf, rf) → WX p l e R s m args below meth c Q D A K m9 mr 2 S0 S 6 [(0, .ref m9), (1, .int x1)] [] := by
    intro n_6
    induction n_6 with
    | zero => intro S x1 h; unfold f_sizes_6 at h; cases h
    | succ n_6 ih_6 =>
      intro S x1 h
      have j_76 : ∀ (S : Sg) (x1 : Int32), f_sizes_76 K (f_sizes_6 K n_6) S x1 = some (Sf, rf) → WX p l e R s m args below meth c Q D A K m9 mr 2 S0 S 76 [(0, .ref m9), (1, .int x1)] [] := by
        intro S x1 h
        unfold f_sizes_76 at h
        refine x_iinc (j := 1) (v := 1) (lv2 := [(0, .ref m9)]) C eX23_sizes_76 rfl (by decide) (by decide) rfl (oky rfl ok0) ?_
        refine x_goto (tgt := 6) C eX23_sizes_79 (by decide) ?_
        refine x_sub [1, 0] rfl ?_
        exact ih_6 S (x1 + 1) h
      have j_62 : ∀ (S : Sg) (x1 : Int32), f_sizes_62 K (f_sizes_6 K n_6) S x1 = some (Sf, rf) → WX p l e R s m args below meth c Q D A K m9 mr 2 S0 S 62 [(0, .ref m9), (1, .int x1)] [] := by
        intro S x1 h
        unfold f_sizes_62 at h
        refine x_tload_n C eX23_sizes_62 rfl 0 rfl ?_
        refine x_iconst (v := 4) C eX23_sizes_63 (by decide) ?_
        refine x_tload_n C eX23_sizes_64 rfl 0 rfl ?_
        refine x_mV (k9 := 11) C (by decide) ww_114 eX23_sizes_65 rfl ?_
        refine x_iload_n C eX23_sizes_68 rfl 1 rfl ?_
        refine x_rQ (r := 11) (t9 := 3) C (by decide) rfl (by decide) rfl eX23_sizes_69 h (fun v12 h => ?_)
        refine x_gI (o9 := v12) (ci := 16) (k9 := 1) (Cn := RX16) (T := TX16) (N := 22) C rfl wt_X16 (by decide) ww_74 eX23_sizes_70 h (fun v13 h => ?_)
        refine x_cVv (As := [.int 4, .int v13]) (st := []) (n := 2) (frc := 1) (loc := 20) C h (fun S9 r9 e9 => k_X23_fail l D K m9 mr _ S9 4 v13 r9 e9) ww_2 ww_20 ww_21 ww_22 ww_16 (by decide +kernel) rfl ⟨by omega, by omega⟩ (Nat.le_of_ble_eq_true rfl) eX23_sizes_73 (fun S14 v15 h => ?_)
        refine x_sub [0, 1] rfl ?_
        exact j_76 S14 x1 h
      unfold f_sizes_6 at h
      refine x_iload_n C eX23_sizes_6 rfl 1 rfl ?_
      refine x_tload_n C eX23_sizes_7 rfl 0 rfl ?_
      refine x_mV (k9 := 12) C (by decide) ww_102 eX23_sizes_8 rfl ?_
      refine x_ic_ge (tgt := 82) C eX23_sizes_11 (by decide) h (fun h => ?_) (fun h => ?_)
      · refine x_sub [] rfl ?_
        exact j_82 S h
      · refine x_tload_n C eX23_sizes_14 rfl 0 rfl ?_
        refine x_cVi (As := []) (st := []) (n := 0) (frc := 1) (loc := 20) C h (fun S9 r9 e9 => k_X23_ok l D K m9 mr _ S9 r9 e9) ww_0 ww_13 ww_14 ww_15 ww_16 (by decide +kernel) rfl ⟨by omega, by omega⟩ (Nat.le_of_ble_eq_true rfl) eX23_sizes_15 (fun S3 v4 h => ?_)
        refine x_if_eq (tgt := 82) C eX23_sizes_18 (by decide) h (fun h => ?_) (fun h => ?_)
        · refine x_sub [] rfl ?_
          exact j_82 S3 h
        · refine x_tload_n C eX23_sizes_21 rfl 0 rfl ?_
          refine x_mV (k9 := 11) C (by decide) ww_114 eX23_sizes_22 rfl ?_
          refine x_iload_n C eX23_sizes_25 rfl 1 rfl ?_
          refine x_rQ (r := 11) (t9 := 3) C (by decide) rfl (by decide) rfl eX23_sizes_26 h (fun v5 h => ?_)
          refine x_gI (o9 := v5) (ci := 16) (k9 := 2) (Cn := RX16) (T := TX16) (N := 22) C rfl wt_X16 (by decide) ww_72 eX23_sizes_27 h (fun v6 h => ?_)
          refine x_bipush (v := 12) C eX23_sizes_30 (by decide) ?_
          refine x_ic_eq (tgt := 76) C eX23_sizes_32 (by decide) h (fun h => ?_) (fun h => ?_)
          · refine x_sub [0, 1] rfl ?_
            exact j_76 S3 x1 h
          · refine x_tload_n C eX23_sizes_35 rfl 0 rfl ?_
            refine x_mV (k9 := 11) C (by decide) ww_114 eX23_sizes_36 rfl ?_
            refine x_iload_n C eX23_sizes_39 rfl 1 rfl ?_
            refine x_rQ (r := 11) (t9 := 3) C (by decide) rfl (by decide) rfl eX23_sizes_40 h (fun v7 h => ?_)
            refine x_gI (o9 := v7) (ci := 16) (k9 := 21) (Cn := RX16) (T := TX16) (N := 22) C rfl wt_X16 (by decide) ww_296 eX23_sizes_41 h (fun v8 h => ?_)
            refine x_if_ne (tgt := 62) C eX23_sizes_44 (by decide) h (fun h => ?_) (fun h => ?_)
            · refine x_sub [0, 1] rfl ?_
              exact j_62 S3 x1 h
            · refine x_tload_n C eX23_sizes_47 rfl 0 rfl ?_
              refine x_tload_n C eX23_sizes_48 rfl 0 rfl ?_
              refine x_mV (k9 := 11) C (by decide) ww_114 eX23_sizes_49 rfl ?_
              refine x_iload_n C eX23_sizes_52 rfl 1 rfl ?_
              refine x_rQ (r := 11) (t9 := 3) C (by decide) rfl (by decide) rfl eX23_sizes_53 h (fun v9 h => ?_)
              refine x_cVi (As := [va_rf v9]) (st := []) (n := 1) (frc := 1 + 2 * 80) (loc := 20 + 46 * 80) C h (fun S9 r9 e9 => k_X23_sizeOfItem l D K m9 mr 80 _ S9 v9 r9 e9) ww_302 ww_299 ww_300 ww_301 ww_16 (by decide +kernel) rfl ⟨by omega, by omega⟩ (Nat.le_of_ble_eq_true rfl) eX23_sizes_54 (fun S10 v11 h => ?_)
              refine x_bipush (v := 16) C eX23_sizes_57 (by decide) ?_
              refine x_ic_le (tgt := 76) C eX23_sizes_59 (by decide) h (fun h => ?_) (fun h => ?_)
              · refine x_sub [0, 1] rfl ?_
                exact j_76 S10 x1 h
              · refine x_sub [0, 1] rfl ?_
                exact j_62 S10 x1 h
  unfold f_sizes at h
  refine x_tload_n C eX23_sizes_0 rfl 0 rfl ?_
  refine x_cVv (As := []) (st := []) (n := 0) (frc := 3) (loc := 66) C h (fun S9 r9 e9 => k_X23_endless l D K m9 mr _ S9 r9 e9) ww_291 ww_307 ww_308 ww_309 ww_16 (by decide +kernel) rfl ⟨by omega, by omega⟩ (Nat.le_of_ble_eq_true rfl) eX23_sizes_1 (fun S1 v2 h => ?_)
  refine x_iconst (v := 0) C eX23_sizes_4 (by decide) ?_
  refine x_istore_n (lv2 := [(0, .ref m9)]) C eX23_sizes_5 rfl (by decide) rfl (oky rfl ok0) ?_
  refine x_sub [1, 0] rfl ?_
  exact j_6 bigN S1 0 h
set_option maxRecDepth 20000 in
set_option maxHeartbeats 4000000 in
theorem k_X23_leavesOfItem (l : Launch) (D : va_G) (K : Ky) (m9 : Nat) (mr : Nat → Nat) : ∀ (d : Nat) (S0 Sf : Sg) (x1 : Option Nat) (rf : Int32), f_leavesOfItem K d S0 x1 = some (Sf, rf) → CT l D K m9 mr yX23_leavesOfItem (Cond.code yX23_leavesOfItem cX23_leavesOfItem 3 (some .int)) (1 + 1 * d) (20 + 22 * d) S0 Sf [.ref m9, va_rf x1] (some (.int rf)) := by
  intro d
  induction d with
  | zero => intro S0 Sf x1 rf h; unfold f_leavesOfItem at h; cases h
  | succ d ih =>
    intro S0 Sf x1 rf h
    refine x_start (cc := cX23_leavesOfItem) (lv := [(0, .ref m9), (1, va_rf x1)]) rfl rfl (by decide) (by simp [lv_args, cat_rf, cat_i, cat_l, cat_a]) (by simp [lg_sl, cat_rf, cat_i, cat_l, cat_a]) (fun p e R s m args below meth c Q A C => ?_)
    have j_67 : ∀ (S : Sg) (x1 : Option Nat), f_leavesOfItem_67 K (f_leavesOfItem K d) S x1 = some (Sf, rf) → WX p l e R s m args below meth c Q D A K m9 mr 3 S0 S 67 [(1, va_rf x1)] [] := by
      intro S x1 h
      unfold f_leavesOfItem_67 at h
      refine x_aload_n C eX23_leavesOfItem_67 rfl 0 rfl ?_
      refine x_gI (o9 := x1) (ci := 16) (k9 := 20) (Cn := RX16) (T := TX16) (N := 22) C rfl wt_X16 (by decide) ww_311 eX23_leavesOfItem_68 h (fun v14 h => ?_)
      exact x_iret C rfl rfl eX23_leavesOfItem_71 h
    have j_9 : ∀ (n_9 : Nat) (S : Sg) (x1 : Option Nat) (x2 : Int32), f_leavesOfItem_9 K (f_leavesOfItem K d) n_9 S x1 x2 = some (Sf, rf) → WX p l e R s m args below meth c Q D A K m9 mr 3 S0 S 9 [(0, .ref m9), (1, va_rf x1), (2, .int x2)] [] := by
      intro n_9
      induction n_9 with
      | zero => intro S x1 x2 h; unfold f_leavesOfItem_9 at h; cases h
      | succ n_9 ih_9 =>
        intro S x1 x2 h
        have j_57 : ∀ (S : Sg) (x1 : Option Nat) (x2 : Int32) (y0 : Int32) (y1 : Int32) (y2 : Option Nat), f_leavesOfItem_57 K (f_leavesOfItem K d) (f_leavesOfItem_9 K (f_leavesOfItem K d) n_9) S x1 x2 y0 y1 y2 = some (Sf, rf) → WX p l e R s m args below meth c Q D A K m9 mr 3 S0 S 57 [(0, .ref m9), (1, va_rf x1), (2, .int x2)] [.int y0, .int y1, va_rf y2] := by
          intro S x1 x2 y0 y1 y2 h
          unfold f_leavesOfItem_57 at h
          refine x_iadd C eX23_leavesOfItem_57 ?_
          refine x_pI (o9 := y2) (ci := 16) (k9 := 20) (Cn := RX16) (T := TX16) (N := 22) C rfl wt_X16 tyX16_ok nmX16 (by decide) ww_311 rfl (by decide +kernel) eX23_leavesOfItem_58 h (fun S13 h => ?_)
          refine x_iinc (j := 2) (v := 1) (lv2 := [(0, .ref m9), (1, va_rf x1)]) C eX23_leavesOfItem_61 rfl (by decide) (by decide) rfl (oky rfl (oky (cat_rf x1) ok0)) ?_
          refine x_goto (tgt := 9) C eX23_leavesOfItem_64 (by decide) ?_
          refine x_sub [1, 2, 0] rfl ?_
          exact ih_9 S13 x1 (x2 + 1) h
        unfold f_leavesOfItem_9 at h
        refine x_iload_n C eX23_leavesOfItem_9 rfl 2 rfl ?_
        refine x_aload_n C eX23_leavesOfItem_10 rfl 1 rfl ?_
        refine x_gI (o9 := x1) (ci := 16) (k9 := 3) (Cn := RX16) (T := TX16) (N := 22) C rfl wt_X16 (by decide) ww_51 eX23_leavesOfItem_11 h (fun v2 h => ?_)
        refine x_ic_ge (tgt := 67) C eX23_leavesOfItem_14 (by decide) h (fun h => ?_) (fun h => ?_)
        · refine x_sub [1] rfl ?_
          exact j_67 S x1 h
        · refine x_aload_n C eX23_leavesOfItem_17 rfl 1 rfl ?_
          refine x_dup C eX23_leavesOfItem_18 (cat_rf x1) ?_
          refine x_gI (o9 := x1) (ci := 16) (k9 := 20) (Cn := RX16) (T := TX16) (N := 22) C rfl wt_X16 (by decide) ww_311 eX23_leavesOfItem_19 h (fun v3 h => ?_)
          refine x_aload_n C eX23_leavesOfItem_22 rfl 1 rfl ?_
          refine x_gR (o9 := x1) (ci := 16) (k9 := 10) (Cn := RX16) (T := TX16) (N := 22) C rfl wt_X16 (by decide) ww_73 eX23_leavesOfItem_23 h (fun v4 h => ?_)
          refine x_iload_n C eX23_leavesOfItem_26 rfl 2 rfl ?_
          refine x_aQ (t9 := 4) C rfl eX23_leavesOfItem_27 h (fun v5 h => ?_)
          refine x_gI (o9 := v5) (ci := 20) (k9 := 0) (Cn := RX20) (T := TX20) (N := 4) C rfl wt_X20 (by decide) ww_247 eX23_leavesOfItem_28 h (fun v6 h => ?_)
          refine x_iconst (v := 3) C eX23_leavesOfItem_31 (by decide) ?_
          refine x_ic_ne (tgt := 56) C eX23_leavesOfItem_32 (by decide) h (fun h => ?_) (fun h => ?_)
          · refine x_iconst (v := 1) C eX23_leavesOfItem_56 (by decide) ?_
            refine x_sub [0, 1, 2] rfl ?_
            exact j_57 S x1 x2 1 v3 x1 h
          · refine x_tload_n C eX23_leavesOfItem_35 rfl 0 rfl ?_
            refine x_tload_n C eX23_leavesOfItem_36 rfl 0 rfl ?_
            refine x_mV (k9 := 11) C (by decide) ww_114 eX23_leavesOfItem_37 rfl ?_
            refine x_aload_n C eX23_leavesOfItem_40 rfl 1 rfl ?_
            refine x_gR (o9 := x1) (ci := 16) (k9 := 10) (Cn := RX16) (T := TX16) (N := 22) C rfl wt_X16 (by decide) ww_73 eX23_leavesOfItem_41 h (fun v7 h => ?_)
            refine x_iload_n C eX23_leavesOfItem_44 rfl 2 rfl ?_
            refine x_aQ (t9 := 4) C rfl eX23_leavesOfItem_45 h (fun v8 h => ?_)
            refine x_gI (o9 := v8) (ci := 20) (k9 := 1) (Cn := RX20) (T := TX20) (N := 4) C rfl wt_X20 (by decide) ww_248 eX23_leavesOfItem_46 h (fun v9 h => ?_)
            refine x_rQ (r := 11) (t9 := 3) C (by decide) rfl (by decide) rfl eX23_leavesOfItem_49 h (fun v10 h => ?_)
            refine x_cVi (As := [va_rf v10]) (st := [.int v3, va_rf x1]) (n := 1) (frc := 1 + 1 * d) (loc := 20 + 22 * d) C h (fun S9 r9 e9 => ih _ S9 v10 r9 e9) ww_310 ww_312 ww_313 ww_314 ww_16 (by decide +kernel) rfl ⟨by omega, by omega⟩ (Nat.le_of_ble_eq_true rfl) eX23_leavesOfItem_50 (fun S11 v12 h => ?_)
            refine x_goto (tgt := 57) C eX23_leavesOfItem_53 (by decide) ?_
            refine x_sub [0, 1, 2] rfl ?_
            exact j_57 S11 x1 x2 v12 v3 x1 h
    unfold f_leavesOfItem at h
    refine x_aload_n C eX23_leavesOfItem_0 rfl 1 rfl ?_
    refine x_gI (o9 := x1) (ci := 16) (k9 := 20) (Cn := RX16) (T := TX16) (N := 22) C rfl wt_X16 (by decide) ww_311 eX23_leavesOfItem_1 h (fun v1 h => ?_)
    refine x_if_ne (tgt := 67) C eX23_leavesOfItem_4 (by decide) h (fun h => ?_) (fun h => ?_)
    · refine x_sub [1] rfl ?_
      exact j_67 S0 x1 h
    · refine x_iconst (v := 0) C eX23_leavesOfItem_7 (by decide) ?_
      refine x_istore_n (lv2 := [(0, .ref m9), (1, va_rf x1)]) C eX23_leavesOfItem_8 rfl (by decide) rfl (oky rfl (oky (cat_rf x1) ok0)) ?_
      refine x_sub [1, 2, 0] rfl ?_
      exact j_9 bigN S0 x1 0 h
set_option maxRecDepth 20000 in
set_option maxHeartbeats 4000000 in
theorem k_X23_leaves (l : Launch) (D : va_G) (K : Ky) (m9 : Nat) (mr : Nat → Nat) (S0 Sf : Sg) (rf : Unit) (h : f_leaves K S0 = some (Sf, rf)) : CT l D K m9 mr yX23_leaves (Cond.code yX23_leaves cX23_leaves 2 none) (82) (1802) S0 Sf [.ref m9] none := by
  refine x_start (cc := cX23_leaves) (lv := [(0, .ref m9)]) rfl rfl (by decide) (by simp [lv_args, cat_rf, cat_i, cat_l, cat_a]) (by simp [lg_sl, cat_rf, cat_i, cat_l, cat_a]) (fun p e R s m args below meth c Q A C => ?_)
  have j_2 : ∀ (n_2 : Nat) (S : Sg) (x1 : Int32), f_leaves_2 K n_2 S x1 = some (Sf, rf) → WX p l e R s m args below meth c Q D A K m9 mr 2 S0 S 2 [(0, .ref m9), (1, .int x1)] [] := by
    intro n_2
    induction n_2 with
    | zero => intro S x1 h; unfold f_leaves_2 at h; cases h
    | succ n_2 ih_2 =>
      intro S x1 h
      have j_35 : ∀ (S : Sg) (x1 : Int32), f_leaves_35 K (f_leaves_2 K n_2) S x1 = some (Sf, rf) → WX p l e R s m args below meth c Q D A K m9 mr 2 S0 S 35 [(0, .ref m9), (1, .int x1)] [] := by
        intro S x1 h
        unfold f_leaves_35 at h
        refine x_iinc (j := 1) (v := 1) (lv2 := [(0, .ref m9)]) C eX23_leaves_35 rfl (by decide) (by decide) rfl (oky rfl ok0) ?_
        refine x_goto (tgt := 2) C eX23_leaves_38 (by decide) ?_
        refine x_sub [1, 0] rfl ?_
        exact ih_2 S (x1 + 1) h
      unfold f_leaves_2 at h
      refine x_iload_n C eX23_leaves_2 rfl 1 rfl ?_
      refine x_tload_n C eX23_leaves_3 rfl 0 rfl ?_
      refine x_mV (k9 := 12) C (by decide) ww_102 eX23_leaves_4 rfl ?_
      refine x_ic_ge (tgt := 41) C eX23_leaves_7 (by decide) h (fun h => ?_) (fun h => ?_)
      · exact x_vret C rfl rfl eX23_leaves_41 h
      · refine x_tload_n C eX23_leaves_10 rfl 0 rfl ?_
        refine x_mV (k9 := 11) C (by decide) ww_114 eX23_leaves_11 rfl ?_
        refine x_iload_n C eX23_leaves_14 rfl 1 rfl ?_
        refine x_rQ (r := 11) (t9 := 3) C (by decide) rfl (by decide) rfl eX23_leaves_15 h (fun v1 h => ?_)
        refine x_gI (o9 := v1) (ci := 16) (k9 := 2) (Cn := RX16) (T := TX16) (N := 22) C rfl wt_X16 (by decide) ww_72 eX23_leaves_16 h (fun v2 h => ?_)
        refine x_bipush (v := 10) C eX23_leaves_19 (by decide) ?_
        refine x_ic_ne (tgt := 35) C eX23_leaves_21 (by decide) h (fun h => ?_) (fun h => ?_)
        · refine x_sub [0, 1] rfl ?_
          exact j_35 S x1 h
        · refine x_tload_n C eX23_leaves_24 rfl 0 rfl ?_
          refine x_tload_n C eX23_leaves_25 rfl 0 rfl ?_
          refine x_mV (k9 := 11) C (by decide) ww_114 eX23_leaves_26 rfl ?_
          refine x_iload_n C eX23_leaves_29 rfl 1 rfl ?_
          refine x_rQ (r := 11) (t9 := 3) C (by decide) rfl (by decide) rfl eX23_leaves_30 h (fun v3 h => ?_)
          refine x_cVi (As := [va_rf v3]) (st := []) (n := 1) (frc := 1 + 1 * 80) (loc := 20 + 22 * 80) C h (fun S9 r9 e9 => k_X23_leavesOfItem l D K m9 mr 80 _ S9 v3 r9 e9) ww_310 ww_312 ww_313 ww_314 ww_16 (by decide +kernel) rfl ⟨by omega, by omega⟩ (Nat.le_of_ble_eq_true rfl) eX23_leaves_31 (fun S4 v5 h => ?_)
          refine x_pop C eX23_leaves_34 rfl ?_
          refine x_sub [0, 1] rfl ?_
          exact j_35 S4 x1 h
  unfold f_leaves at h
  refine x_iconst (v := 0) C eX23_leaves_0 (by decide) ?_
  refine x_istore_n (lv2 := [(0, .ref m9)]) C eX23_leaves_1 rfl (by decide) rfl (oky rfl ok0) ?_
  refine x_sub [1, 0] rfl ?_
  exact j_2 bigN S0 0 h
set_option maxRecDepth 20000 in
set_option maxHeartbeats 4000000 in
theorem k_X23_findMain (l : Launch) (D : va_G) (K : Ky) (m9 : Nat) (mr : Nat → Nat) (S0 Sf : Sg) (rf : Unit) (h : f_findMain K S0 = some (Sf, rf)) : CT l D K m9 mr yX23_findMain (Cond.code yX23_findMain cX23_findMain 2 none) (2) (42) S0 Sf [.ref m9] none := by
  refine x_start (cc := cX23_findMain) (lv := [(0, .ref m9)]) rfl rfl (by decide) (by simp [lv_args, cat_rf, cat_i, cat_l, cat_a]) (by simp [lg_sl, cat_rf, cat_i, cat_l, cat_a]) (fun p e R s m args below meth c Q A C => ?_)
  have j_144 : ∀ (S : Sg), f_findMain_144 K S = some (Sf, rf) → WX p l e R s m args below meth c Q D A K m9 mr 2 S0 S 144 [] [] := by
    intro S h
    unfold f_findMain_144 at h
    exact x_vret C rfl rfl eX23_findMain_144 h
  have j_127 : ∀ (S : Sg), f_findMain_127 K S = some (Sf, rf) → WX p l e R s m args below meth c Q D A K m9 mr 2 S0 S 127 [(0, .ref m9)] [] := by
    intro S h
    unfold f_findMain_127 at h
    refine x_tload_n C eX23_findMain_127 rfl 0 rfl ?_
    refine x_iconst (v := 4) C eX23_findMain_128 (by decide) ?_
    refine x_tload_n C eX23_findMain_129 rfl 0 rfl ?_
    refine x_mV (k9 := 11) C (by decide) ww_114 eX23_findMain_130 rfl ?_
    refine x_tload_n C eX23_findMain_133 rfl 0 rfl ?_
    refine x_mV (k9 := 21) C (by decide) ww_317 eX23_findMain_134 rfl ?_
    refine x_rQ (r := 11) (t9 := 3) C (by decide) rfl (by decide) rfl eX23_findMain_137 h (fun v18 h => ?_)
    refine x_gI (o9 := v18) (ci := 16) (k9 := 1) (Cn := RX16) (T := TX16) (N := 22) C rfl wt_X16 (by decide) ww_74 eX23_findMain_138 h (fun v19 h => ?_)
    refine x_cVv (As := [.int 4, .int v19]) (st := []) (n := 2) (frc := 1) (loc := 20) C h (fun S9 r9 e9 => k_X23_fail l D K m9 mr _ S9 4 v19 r9 e9) ww_2 ww_20 ww_21 ww_22 ww_16 (by decide +kernel) rfl ⟨by omega, by omega⟩ (Nat.le_of_ble_eq_true rfl) eX23_findMain_141 (fun S20 v21 h => ?_)
    refine x_sub [] rfl ?_
    exact j_144 S20 h
  have j_7 : ∀ (n_7 : Nat) (S : Sg) (x1 : Int32), f_findMain_7 K n_7 S x1 = some (Sf, rf) → WX p l e R s m args below meth c Q D A K m9 mr 2 S0 S 7 [(0, .ref m9), (1, .int x1)] [] := by
    intro n_7
    induction n_7 with
    | zero => intro S x1 h; unfold f_findMain_7 at h; cases h
    | succ n_7 ih_7 =>
      intro S x1 h
      have j_50 : ∀ (S : Sg) (x1 : Int32), f_findMain_50 K (f_findMain_7 K n_7) S x1 = some (Sf, rf) → WX p l e R s m args below meth c Q D A K m9 mr 2 S0 S 50 [(0, .ref m9), (1, .int x1)] [] := by
        intro S x1 h
        unfold f_findMain_50 at h
        refine x_iinc (j := 1) (v := 1) (lv2 := [(0, .ref m9)]) C eX23_findMain_50 rfl (by decide) (by decide) rfl (oky rfl ok0) ?_
        refine x_goto (tgt := 7) C eX23_findMain_53 (by decide) ?_
        refine x_sub [1, 0] rfl ?_
        exact ih_7 S (x1 + 1) h
      unfold f_findMain_7 at h
      refine x_iload_n C eX23_findMain_7 rfl 1 rfl ?_
      refine x_tload_n C eX23_findMain_8 rfl 0 rfl ?_
      refine x_mV (k9 := 12) C (by decide) ww_102 eX23_findMain_9 rfl ?_
      refine x_ic_ge (tgt := 56) C eX23_findMain_12 (by decide) h (fun h => ?_) (fun h => ?_)
      · refine x_tload_n C eX23_findMain_56 rfl 0 rfl ?_
        refine x_mV (k9 := 21) C (by decide) ww_317 eX23_findMain_57 rfl ?_
        refine x_if_ge (tgt := 77) C eX23_findMain_60 (by decide) h (fun h => ?_) (fun h => ?_)
        · refine x_tload_n C eX23_findMain_77 rfl 0 rfl ?_
          refine x_mV (k9 := 11) C (by decide) ww_114 eX23_findMain_78 rfl ?_
          refine x_tload_n C eX23_findMain_81 rfl 0 rfl ?_
          refine x_mV (k9 := 21) C (by decide) ww_317 eX23_findMain_82 rfl ?_
          refine x_rQ (r := 11) (t9 := 3) C (by decide) rfl (by decide) rfl eX23_findMain_85 h (fun v2 h => ?_)
          refine x_gI (o9 := v2) (ci := 16) (k9 := 3) (Cn := RX16) (T := TX16) (N := 22) C rfl wt_X16 (by decide) ww_51 eX23_findMain_86 h (fun v3 h => ?_)
          refine x_if_gt (tgt := 127) C eX23_findMain_89 (by decide) h (fun h => ?_) (fun h => ?_)
          · refine x_sub [0] rfl ?_
            exact j_127 S h
          · refine x_tload_n C eX23_findMain_92 rfl 0 rfl ?_
            refine x_mV (k9 := 11) C (by decide) ww_114 eX23_findMain_93 rfl ?_
            refine x_tload_n C eX23_findMain_96 rfl 0 rfl ?_
            refine x_mV (k9 := 21) C (by decide) ww_317 eX23_findMain_97 rfl ?_
            refine x_rQ (r := 11) (t9 := 3) C (by decide) rfl (by decide) rfl eX23_findMain_100 h (fun v4 h => ?_)
            refine x_gI (o9 := v4) (ci := 16) (k9 := 6) (Cn := RX16) (T := TX16) (N := 22) C rfl wt_X16 (by decide) ww_82 eX23_findMain_101 h (fun v5 h => ?_)
            refine x_if_gt (tgt := 127) C eX23_findMain_104 (by decide) h (fun h => ?_) (fun h => ?_)
            · refine x_sub [0] rfl ?_
              exact j_127 S h
            · refine x_tload_n C eX23_findMain_107 rfl 0 rfl ?_
              refine x_mV (k9 := 11) C (by decide) ww_114 eX23_findMain_108 rfl ?_
              refine x_tload_n C eX23_findMain_111 rfl 0 rfl ?_
              refine x_mV (k9 := 21) C (by decide) ww_317 eX23_findMain_112 rfl ?_
              refine x_rQ (r := 11) (t9 := 3) C (by decide) rfl (by decide) rfl eX23_findMain_115 h (fun v6 h => ?_)
              refine x_gR (o9 := v6) (ci := 16) (k9 := 15) (Cn := RX16) (T := TX16) (N := 22) C rfl wt_X16 (by decide) ww_285 eX23_findMain_116 h (fun v7 h => ?_)
              refine x_gI (o9 := v7) (ci := 20) (k9 := 0) (Cn := RX20) (T := TX20) (N := 4) C rfl wt_X20 (by decide) ww_247 eX23_findMain_119 h (fun v8 h => ?_)
              refine x_bipush (v := 8) C eX23_findMain_122 (by decide) ?_
              refine x_ic_eq (tgt := 144) C eX23_findMain_124 (by decide) h (fun h => ?_) (fun h => ?_)
              · refine x_sub [] rfl ?_
                exact j_144 S h
              · refine x_sub [0] rfl ?_
                exact j_127 S h
        · refine x_tload_n C eX23_findMain_63 rfl 0 rfl ?_
          refine x_iconst (v := 3) C eX23_findMain_64 (by decide) ?_
          refine x_tload_n C eX23_findMain_65 rfl 0 rfl ?_
          refine x_mV (k9 := 9) C (by decide) ww_321 eX23_findMain_66 rfl ?_
          refine x_iconst (v := 1) C eX23_findMain_69 (by decide) ?_
          refine x_isub C eX23_findMain_70 ?_
          refine x_cVv (As := [.int 3, .int ((Zi S 9) - 1)]) (st := []) (n := 2) (frc := 1) (loc := 20) C h (fun S9 r9 e9 => k_X23_fail l D K m9 mr _ S9 3 ((Zi S 9) - 1) r9 e9) ww_2 ww_20 ww_21 ww_22 ww_16 (by decide +kernel) rfl ⟨by omega, by omega⟩ (Nat.le_of_ble_eq_true rfl) eX23_findMain_71 (fun S9 v10 h => ?_)
          refine x_goto (tgt := 144) C eX23_findMain_74 (by decide) ?_
          refine x_sub [] rfl ?_
          exact j_144 S9 h
      · refine x_tload_n C eX23_findMain_15 rfl 0 rfl ?_
        refine x_mV (k9 := 11) C (by decide) ww_114 eX23_findMain_16 rfl ?_
        refine x_iload_n C eX23_findMain_19 rfl 1 rfl ?_
        refine x_rQ (r := 11) (t9 := 3) C (by decide) rfl (by decide) rfl eX23_findMain_20 h (fun v11 h => ?_)
        refine x_gI (o9 := v11) (ci := 16) (k9 := 2) (Cn := RX16) (T := TX16) (N := 22) C rfl wt_X16 (by decide) ww_72 eX23_findMain_21 h (fun v12 h => ?_)
        refine x_bipush (v := 12) C eX23_findMain_24 (by decide) ?_
        refine x_ic_ne (tgt := 50) C eX23_findMain_26 (by decide) h (fun h => ?_) (fun h => ?_)
        · refine x_sub [0, 1] rfl ?_
          exact j_50 S x1 h
        · refine x_tload_n C eX23_findMain_29 rfl 0 rfl ?_
          refine x_tload_n C eX23_findMain_30 rfl 0 rfl ?_
          refine x_mV (k9 := 11) C (by decide) ww_114 eX23_findMain_31 rfl ?_
          refine x_iload_n C eX23_findMain_34 rfl 1 rfl ?_
          refine x_rQ (r := 11) (t9 := 3) C (by decide) rfl (by decide) rfl eX23_findMain_35 h (fun v13 h => ?_)
          refine x_gI (o9 := v13) (ci := 16) (k9 := 1) (Cn := RX16) (T := TX16) (N := 22) C rfl wt_X16 (by decide) ww_74 eX23_findMain_36 h (fun v14 h => ?_)
          refine x_cVi (As := [.int v14]) (st := []) (n := 1) (frc := 1) (loc := 20) C h (fun S9 r9 e9 => k_X23_isMain l D K m9 mr _ S9 v14 r9 e9) ww_8 ww_318 ww_319 ww_320 ww_16 (by decide +kernel) rfl ⟨by omega, by omega⟩ (Nat.le_of_ble_eq_true rfl) eX23_findMain_39 (fun S15 v16 h => ?_)
          refine x_if_eq (tgt := 50) C eX23_findMain_42 (by decide) h (fun h => ?_) (fun h => ?_)
          · refine x_sub [0, 1] rfl ?_
            exact j_50 S15 x1 h
          · refine x_tload_n C eX23_findMain_45 rfl 0 rfl ?_
            refine x_iload_n C eX23_findMain_46 rfl 1 rfl ?_
            refine x_pM (k9 := 21) C (by decide) rfl (by decide) ww_317 rfl (by decide +kernel) eX23_findMain_47 h (fun S17 h => ?_)
            refine x_sub [0, 1] rfl ?_
            exact j_50 S17 x1 h
  unfold f_findMain at h
  refine x_tload_n C eX23_findMain_0 rfl 0 rfl ?_
  refine x_iconst (v := (-1)) C eX23_findMain_1 (by decide) ?_
  refine x_pM (k9 := 21) C (by decide) rfl (by decide) ww_317 rfl (by decide +kernel) eX23_findMain_2 h (fun S1 h => ?_)
  refine x_iconst (v := 0) C eX23_findMain_5 (by decide) ?_
  refine x_istore_n (lv2 := [(0, .ref m9)]) C eX23_findMain_6 rfl (by decide) rfl (oky rfl ok0) ?_
  refine x_sub [1, 0] rfl ?_
  exact j_7 bigN S1 0 h
set_option maxRecDepth 20000 in
set_option maxHeartbeats 4000000 in
theorem k_X21_init (l : Launch) (D : va_G) (K : Ky) (m9 : Nat) (mr : Nat → Nat) (S0 : Sg) (x0 : Nat) : CT l D K m9 mr yX21_init (Cond.code yX21_init cX21_init 1 none) (1) (20) S0 S0 [.ref x0] none := by
  have h : some (S0, ()) = some (S0, ()) := rfl
  refine x_start (cc := cX21_init) (lv := [(0, .ref x0)]) rfl rfl (by decide) (by simp [lv_args, cat_rf, cat_i, cat_l, cat_a]) (by simp [lg_sl, cat_rf, cat_i, cat_l, cat_a]) (fun p e R s m args below meth c Q A C => ?_)
  refine x_tload_n C eX21_init_0 rfl 0 rfl ?_
  refine x_objInit C ww_968 ww_958 ww_959 eX21_init_1 (by omega) (by omega) (Nat.le_of_ble_eq_true rfl) ?_
  exact x_vret C rfl rfl eX21_init_4 h
set_option maxRecDepth 20000 in
set_option maxHeartbeats 4000000 in
theorem k_X23_declare (l : Launch) (D : va_G) (K : Ky) (m9 : Nat) (mr : Nat → Nat) (S0 Sf : Sg) (x1 : Int32) (x2 : Option Nat) (x3 : Int32) (rf : Option Nat) (h : f_declare K S0 x1 x2 x3 = some (Sf, rf)) : CT l D K m9 mr yX23_declare (Cond.code yX23_declare cX23_declare 5 (some (.object "OwnedPlacesModel$Variable"))) (2) (40) S0 Sf [.ref m9, .int x1, va_rf x2, .int x3] (some (va_rf rf)) := by
  refine x_start (cc := cX23_declare) (lv := [(0, .ref m9), (1, .int x1), (2, va_rf x2), (3, .int x3)]) rfl rfl (by decide) (by simp [lv_args, cat_rf, cat_i, cat_l, cat_a]) (by simp [lg_sl, cat_rf, cat_i, cat_l, cat_a]) (fun p e R s m args below meth c Q A C => ?_)
  unfold f_declare at h
  refine x_nO (ci := 21) (Cn := RX21) (T := TX21) (ty0 := tyX21) C rfl wt_X21 tyX21_ok ww_86 ww_323 ww_324 dv_X21 eX23_declare_0 h (fun S1 a2 h => ?_)
  refine x_dup C eX23_declare_3 (cat_rf (some a2)) ?_
  refine x_callIN (b := a2) (frc := 1) (loc := 20) C (k_X21_init l D K m9 mr S1 a2) ww_967 C.2.2.2.1.1.2.2.2.2.2.2.2.2 ww_324 ww_325 rfl (by decide +kernel) ⟨by omega, by omega⟩ (Nat.le_of_ble_eq_true rfl) eX23_declare_4 ?_
  refine x_astore (lv2 := [(0, .ref m9), (1, .int x1), (2, va_rf x2), (3, .int x3)]) C eX23_declare_7 (by decide) rfl (oky rfl (oky rfl (oky (cat_rf x2) (oky rfl ok0)))) ?_
  refine x_aload C eX23_declare_9 0 rfl ?_
  refine x_tload_n C eX23_declare_11 rfl 1 rfl ?_
  refine x_mV (k9 := 24) C (by decide) ww_326 eX23_declare_12 rfl ?_
  refine x_pI (o9 := (some a2)) (ci := 21) (k9 := 0) (Cn := RX21) (T := TX21) (N := 5) C rfl wt_X21 tyX21_ok nmX21 (by decide) ww_327 rfl (by decide +kernel) eX23_declare_15 h (fun S5 h => ?_)
  refine x_aload C eX23_declare_18 0 rfl ?_
  refine x_iload_n C eX23_declare_20 rfl 2 rfl ?_
  refine x_pI (o9 := (some a2)) (ci := 21) (k9 := 1) (Cn := RX21) (T := TX21) (N := 5) C rfl wt_X21 tyX21_ok nmX21 (by decide) ww_328 rfl (by decide +kernel) eX23_declare_21 h (fun S6 h => ?_)
  refine x_aload C eX23_declare_24 0 rfl ?_
  refine x_aload_n C eX23_declare_26 rfl 3 rfl ?_
  refine x_pR (o9 := (some a2)) (Cv := "OwnedPlacesModel$Type") (ci := 21) (k9 := 2) (Cn := RX21) (T := TX21) (N := 5) C rfl wt_X21 tyX21_ok nmX21 (by decide) ww_329 rfl (by decide +kernel) eX23_declare_27 h (fun S7 h => ?_)
  refine x_aload C eX23_declare_30 0 rfl ?_
  refine x_iload_n C eX23_declare_32 rfl 4 rfl ?_
  refine x_pZ (o9 := (some a2)) (ci := 21) (k9 := 3) (Cn := RX21) (T := TX21) (N := 5) C rfl wt_X21 tyX21_ok nmX21 (by decide) ww_330 rfl (by decide +kernel) eX23_declare_33 h (fun S8 h => ?_)
  refine x_tload_n C eX23_declare_36 rfl 1 rfl ?_
  refine x_dup C eX23_declare_37 rfl ?_
  refine x_mV (k9 := 24) C (by decide) ww_326 eX23_declare_38 rfl ?_
  refine x_iconst (v := 1) C eX23_declare_41 (by decide) ?_
  refine x_iadd C eX23_declare_42 ?_
  refine x_pM (k9 := 24) C (by decide) rfl (by decide) ww_326 rfl (by decide +kernel) eX23_declare_43 h (fun S9 h => ?_)
  refine x_tload_n C eX23_declare_46 rfl 1 rfl ?_
  refine x_mV (k9 := 22) C (by decide) ww_331 eX23_declare_47 rfl ?_
  refine x_tload_n C eX23_declare_50 rfl 1 rfl ?_
  refine x_mV (k9 := 23) C (by decide) ww_332 eX23_declare_51 rfl ?_
  refine x_aload C eX23_declare_54 0 rfl ?_
  refine x_wQ (r := 22) (t9 := 5) (ci := 21) C (by decide) rfl (by decide) rfl rfl eX23_declare_56 h (fun S10 h => ?_)
  refine x_tload_n C eX23_declare_57 rfl 1 rfl ?_
  refine x_dup C eX23_declare_58 rfl ?_
  refine x_mV (k9 := 23) C (by decide) ww_332 eX23_declare_59 rfl ?_
  refine x_iconst (v := 1) C eX23_declare_62 (by decide) ?_
  refine x_iadd C eX23_declare_63 ?_
  refine x_pM (k9 := 23) C (by decide) rfl (by decide) ww_332 rfl (by decide +kernel) eX23_declare_64 h (fun S11 h => ?_)
  refine x_aload C eX23_declare_67 0 rfl ?_
  exact x_aret C rfl (Or.inl ⟨_, rfl⟩) rfl eX23_declare_69 h
set_option maxRecDepth 20000 in
set_option maxHeartbeats 4000000 in
theorem k_X23_bare (l : Launch) (D : va_G) (K : Ky) (m9 : Nat) (mr : Nat → Nat) (S0 Sf : Sg) (x0 : Option Nat) (rf : Option Nat) (h : f_bare K S0 x0 = some (Sf, rf)) : CT l D K m9 mr yX23_bare (Cond.code yX23_bare cX23_bare 2 (some (.object "OwnedPlacesModel$Exp"))) (1) (20) S0 Sf [va_rf x0] (some (va_rf rf)) := by
  refine x_start (cc := cX23_bare) (lv := [(0, va_rf x0)]) rfl rfl (by decide) (by simp [lv_args, cat_rf, cat_i, cat_l, cat_a]) (by simp [lg_sl, cat_rf, cat_i, cat_l, cat_a]) (fun p e R s m args below meth c Q A C => ?_)
  have j_2 : ∀ (n_2 : Nat) (S : Sg) (x1 : Option Nat), f_bare_2 K n_2 S x1 = some (Sf, rf) → WX p l e R s m args below meth c Q D A K m9 mr 2 S0 S 2 [(1, va_rf x1)] [] := by
    intro n_2
    induction n_2 with
    | zero => intro S x1 h; unfold f_bare_2 at h; cases h
    | succ n_2 ih_2 =>
      intro S x1 h
      unfold f_bare_2 at h
      refine x_aload_n C eX23_bare_2 rfl 0 rfl ?_
      refine x_gI (o9 := x1) (ci := 15) (k9 := 0) (Cn := RX15) (T := TX15) (N := 14) C rfl wt_X15 (by decide) ww_191 eX23_bare_3 h (fun v1 h => ?_)
      refine x_bipush (v := 7) C eX23_bare_6 (by decide) ?_
      refine x_ic_ne (tgt := 19) C eX23_bare_8 (by decide) h (fun h => ?_) (fun h => ?_)
      · refine x_aload_n C eX23_bare_19 rfl 0 rfl ?_
        exact x_aret C rfl (Or.inl ⟨_, rfl⟩) rfl eX23_bare_20 h
      · refine x_aload_n C eX23_bare_11 rfl 0 rfl ?_
        refine x_gR (o9 := x1) (ci := 15) (k9 := 8) (Cn := RX15) (T := TX15) (N := 14) C rfl wt_X15 (by decide) ww_192 eX23_bare_12 h (fun v2 h => ?_)
        refine x_astore_n (lv2 := []) C eX23_bare_15 rfl (by decide) rfl ok0 ?_
        refine x_goto (tgt := 2) C eX23_bare_16 (by decide) ?_
        refine x_sub [0] rfl ?_
        exact ih_2 S v2 h
  unfold f_bare at h
  refine x_aload_n C eX23_bare_0 rfl 0 rfl ?_
  refine x_astore_n (lv2 := [(0, va_rf x0)]) C eX23_bare_1 rfl (by decide) rfl (oky (cat_rf x0) ok0) ?_
  refine x_sub [0] rfl ?_
  exact j_2 bigN S0 x0 h
set_option maxRecDepth 20000 in
set_option maxHeartbeats 4000000 in
theorem k_X23_depth (l : Launch) (D : va_G) (K : Ky) (m9 : Nat) (mr : Nat → Nat) (S0 Sf : Sg) (x0 : Option Nat) (rf : Int32) (h : f_depth K S0 x0 = some (Sf, rf)) : CT l D K m9 mr yX23_depth (Cond.code yX23_depth cX23_depth 3 (some .int)) (2) (41) S0 Sf [va_rf x0] (some (.int rf)) := by
  refine x_start (cc := cX23_depth) (lv := [(0, va_rf x0)]) rfl rfl (by decide) (by simp [lv_args, cat_rf, cat_i, cat_l, cat_a]) (by simp [lg_sl, cat_rf, cat_i, cat_l, cat_a]) (fun p e R s m args below meth c Q A C => ?_)
  have j_7 : ∀ (n_7 : Nat) (S : Sg) (x1 : Int32) (x2 : Option Nat), f_depth_7 K n_7 S x1 x2 = some (Sf, rf) → WX p l e R s m args below meth c Q D A K m9 mr 3 S0 S 7 [(1, .int x1), (2, va_rf x2)] [] := by
    intro n_7
    induction n_7 with
    | zero => intro S x1 x2 h; unfold f_depth_7 at h; cases h
    | succ n_7 ih_7 =>
      intro S x1 x2 h
      have j_25 : ∀ (S : Sg) (x1 : Int32) (x2 : Option Nat), f_depth_25 K (f_depth_7 K n_7) S x1 x2 = some (Sf, rf) → WX p l e R s m args below meth c Q D A K m9 mr 3 S0 S 25 [(1, .int x1), (2, va_rf x2)] [] := by
        intro S x1 x2 h
        unfold f_depth_25 at h
        refine x_iinc (j := 0) (v := 1) (lv2 := [(2, va_rf x2)]) C eX23_depth_25 rfl (by decide) (by decide) rfl (oky (cat_rf x2) ok0) ?_
        refine x_aload_n C eX23_depth_28 rfl 1 rfl ?_
        refine x_gR (o9 := x2) (ci := 15) (k9 := 8) (Cn := RX15) (T := TX15) (N := 14) C rfl wt_X15 (by decide) ww_192 eX23_depth_29 h (fun v5 h => ?_)
        refine x_cSr (As := [va_rf v5]) (st := []) (n := 1) (frc := 1) (loc := 20) C h (fun S9 r9 e9 => k_X23_bare l D K m9 mr _ S9 v5 r9 e9) ww_333 ww_335 ww_336 ww_16 (by decide +kernel) rfl ⟨by omega, by omega⟩ (Nat.le_of_ble_eq_true rfl) eX23_depth_32 (fun S6 v7 h => ?_)
        refine x_astore_n (lv2 := [(1, .int (x1 + 1))]) C eX23_depth_35 rfl (by decide) rfl (oky rfl ok0) ?_
        refine x_goto (tgt := 7) C eX23_depth_36 (by decide) ?_
        refine x_sub [1, 0] rfl ?_
        exact ih_7 S6 (x1 + 1) v7 h
      unfold f_depth_7 at h
      refine x_aload_n C eX23_depth_7 rfl 1 rfl ?_
      refine x_gI (o9 := x2) (ci := 15) (k9 := 0) (Cn := RX15) (T := TX15) (N := 14) C rfl wt_X15 (by decide) ww_191 eX23_depth_8 h (fun v3 h => ?_)
      refine x_bipush (v := 14) C eX23_depth_11 (by decide) ?_
      refine x_ic_eq (tgt := 25) C eX23_depth_13 (by decide) h (fun h => ?_) (fun h => ?_)
      · refine x_sub [0, 1] rfl ?_
        exact j_25 S x1 x2 h
      · refine x_aload_n C eX23_depth_16 rfl 1 rfl ?_
        refine x_gI (o9 := x2) (ci := 15) (k9 := 0) (Cn := RX15) (T := TX15) (N := 14) C rfl wt_X15 (by decide) ww_191 eX23_depth_17 h (fun v4 h => ?_)
        refine x_bipush (v := 11) C eX23_depth_20 (by decide) ?_
        refine x_ic_ne (tgt := 39) C eX23_depth_22 (by decide) h (fun h => ?_) (fun h => ?_)
        · refine x_iload_n C eX23_depth_39 rfl 0 rfl ?_
          exact x_iret C rfl rfl eX23_depth_40 h
        · refine x_sub [0, 1] rfl ?_
          exact j_25 S x1 x2 h
  unfold f_depth at h
  refine x_iconst (v := 0) C eX23_depth_0 (by decide) ?_
  refine x_istore_n (lv2 := [(0, va_rf x0)]) C eX23_depth_1 rfl (by decide) rfl (oky (cat_rf x0) ok0) ?_
  refine x_aload_n C eX23_depth_2 rfl 1 rfl ?_
  refine x_cSr (As := [va_rf x0]) (st := []) (n := 1) (frc := 1) (loc := 20) C h (fun S9 r9 e9 => k_X23_bare l D K m9 mr _ S9 x0 r9 e9) ww_333 ww_335 ww_336 ww_16 (by decide +kernel) rfl ⟨by omega, by omega⟩ (Nat.le_of_ble_eq_true rfl) eX23_depth_3 (fun S1 v2 h => ?_)
  refine x_astore_n (lv2 := [(1, .int 0), (0, va_rf x0)]) C eX23_depth_6 rfl (by decide) rfl (oky rfl (oky (cat_rf x0) ok0)) ?_
  refine x_sub [1, 0] rfl ?_
  exact j_7 bigN S1 0 v2 h
set_option maxRecDepth 20000 in
set_option maxHeartbeats 4000000 in
theorem k_X23_told (l : Launch) (D : va_G) (K : Ky) (m9 : Nat) (mr : Nat → Nat) (S0 Sf : Sg) (x1 : Option Nat) (x2 : Option Nat) (rf : Option Nat) (h : f_told K S0 x1 x2 = some (Sf, rf)) : CT l D K m9 mr yX23_told (Cond.code yX23_told cX23_told 3 (some (.object "OwnedPlacesModel$Type"))) (1) (20) S0 Sf [.ref m9, va_rf x1, va_rf x2] (some (va_rf rf)) := by
  refine x_start (cc := cX23_told) (lv := [(0, .ref m9), (1, va_rf x1), (2, va_rf x2)]) rfl rfl (by decide) (by simp [lv_args, cat_rf, cat_i, cat_l, cat_a]) (by simp [lg_sl, cat_rf, cat_i, cat_l, cat_a]) (fun p e R s m args below meth c Q A C => ?_)
  unfold f_told at h
  refine x_aload_n C eX23_told_0 rfl 1 rfl ?_
  refine x_aload_n C eX23_told_1 rfl 2 rfl ?_
  refine x_pR (o9 := x1) (Cv := "OwnedPlacesModel$Type") (ci := 15) (k9 := 12) (Cn := RX15) (T := TX15) (N := 14) C rfl wt_X15 tyX15_ok nmX15 (by decide) ww_338 rfl (by decide +kernel) eX23_told_2 h (fun S1 h => ?_)
  refine x_aload_n C eX23_told_5 rfl 2 rfl ?_
  exact x_aret C rfl (Or.inl ⟨_, rfl⟩) rfl eX23_told_6 h
