set_option maxHeartbeats 4000000 in
set_option maxRecDepth 100000 in
theorem lw_loop {p : Program} {e : Env} {s : State} {m : MethodId} {below : List Frame} {meth : Method} {c : Code} (l : Launch) {b L op0 m9 : Nat} {xs : Nat → Int32} {dC : Nat → ClassId} {dI : Nat → Nat → Nat} {A : Nat → Prop} {kI kZ kB kL kM : ClassId} {kc : Nat → ClassId} {mr : Nat → Nat} {t0 t1_ t2 t3 : Nat} {t1 v1 t2s v2 s1 w1_ s2 w2_ : Nat} {b1 b2 b3 b4 : Nat → Int32}
    (hL : L ≤ 385) (hx : p.tables.exec = Jvm.exec) (hb : c.code = cL_law) (hr : meth.sig.returnType = ret) (hlocks : meth.locks = false) (hml : c.maxLocals = 4) (hown : s.vm.findClass RL = some m.cls) (hts : ∀ w ∈ lw_tbl, w.before #[Value.ref b] s = true) (hA : ∀ q : Nat, s.heap.size ≤ q → A q) (hAd : ∀ q : Nat, A q → s.heap.size ≤ q) (hX : va_X b L xs s s.heap) (hbl : b < s.heap.size) (hbA : ¬ A b) (hK : va_K (dC, dI) vwCl [(kI, .int), (kZ, .boolean), (kB, .byte), (kL, .long), (kM, .object RX2)] s) (hKt : va_K (dC, dI) vwCl (TY kc) s) (hns : nsM s) (hnw : nwA s) (hst : stA t0 t1_ t2 t3 A s s.heap) (hk : ∀ i j : Nat, i < 14 → j < 14 → i ≠ j → kc i ≠ kc j) (hpre0 : sgA t1 v1 18 b1 A s s.heap) (hpre1 : sgA t2s v2 18 b2 A s s.heap) (hpre2 : sgF A s s.heap) (hpre3 : vk_R RX9 150 "==!=<=>=&&||::->=>" t1 s) (hpre4 : vk_R RX9 152 "+-*/%<>!=&.,:;(){}" t2s s) (hpre5 : va_Nw (.methodLinkNest RX3 139 yX12_levelOf "OwnedPlaces") s) (hpre6 : va_Nw (.methodLinkNest RX11 305 yX12_levelOf "OwnedPlaces") s) (hpre7 : sgA s1 w1_ 4 b3 A s s.heap) (hpre8 : sgA s2 w2_ 5 b4 A s s.heap) (hpre9 : sgF A s s.heap) (hpre10 : vk_R RX5 274 "true" s1 s) (hpre11 : vk_R RX5 276 "false" s2 s) (hpre12 : va_Nw (.methodLinkNest RX5 191 yX12_levelOf "OwnedPlaces") s) :
    ∀ (f j lc lr mln k n g gs : Nat) (S : Sg) (W9 : va_W) (H : Heap) (locs : List Loc) (ls : Array Slot), j + f = 65 → j ≤ 64 → lwK op0 kI kZ kB kL kM lc mln W9 → rfK kc m9 mr lr S H → va_P (dC, dI) vwCl (W9 ++ rfW kc m9 mr S) H → va_D A (W9 ++ rfW kc m9 mr S) → va_S A s.heap H locs → lv_has ls 4 [(0, .ref b), (1, .ref op0), (2, .ref m9), (3, .int (nI (1 + 6 * j)))] → lc ≤ 20 * j → lr ≤ 20 * j → mln ≤ 600000 → 3000 * g ≤ mln → gs ≤ 2 * mln → k + 110 * lr ≤ 1000 + 2230 * j + g → n + 490 * lr ≤ 2962300 + 10020 * j + gs → W p l e room_1 s m #[Value.ref b] below meth c H locs k n (lw_Z below #[Value.ref b] s) (F0 m 28 ls []) := by
  intro f
  induction f with
  | zero => intro j lc lr mln k n g gs S W9 H locs ls hj hj2; omega
  | succ f ih =>
    intro j lc lr mln k n g gs S W9 H locs ls hj hj2 hC hR hP hD hS hl h1 h2 h3 h4 h5 h6 h7
    refine W.grow (fun hg1 hg2 => ?_)
    refine lv_iload_n hx hb dL_law_28 rfl (lv_at hl 3 rfl) ?_
    refine lv_aload_n hx hb dL_law_29 rfl (lv_at hl 0 rfl) ?_
    refine va_slen hx hb hX hbl hbA hS dL_law_30 ?_
    refine W.eq (g2 := F0 m 31 ls [.int (nI L), .int (nI (1 + 6 * j))]) rfl ?_
    refine lv_bipush (v := 6) hx hb dL_law_31 (by decide) ?_
    refine lv_isub hx hb dL_law_33 ?_
    refine lv_topi (fun f_1 ef_1 => ?_)
    refine lv_icmp_gt (tgt := 284) hx hb dL_law_34 (by decide) (fun hc => ?_) (fun hc => ?_)
    · refine lv_iconst (v := 1) hx hb dL_law_284 (by decide) ?_
      refine va_forget (fun q hq => hAd _ (hS.2.2 q hq)) ?_
      refine W.widen (k := 600000) (n := 7302250) (by omega) (by omega) ?_
      exact lw_ret hx hb hr hlocks dL_law_285
    · have hi : 1 + 6 * j + 6 ≤ L := lw_gt hL (by omega) (by rw [← ef_1]; exact hc)
      refine lv_aload_n hx hb dL_law_37 rfl (lv_at hl 0 rfl) ?_
      refine lv_iload_n hx hb dL_law_38 rfl (lv_at hl 3 rfl) ?_
      refine va_sld hx hb hX hbl hbA hS (show vp_in (nI (1 + 6 * j)) L from vp_in_nI (by omega) (by omega)) dL_law_39 ?_
      refine lv_topi (fun v_2 ev_2 => ?_)
      refine lv_bipush (v := 7) hx hb dL_law_40 (by decide) ?_
      refine lv_iand hx hb dL_law_42 ?_
      refine lv_topi (fun f_3 ef_3 => ?_)
      obtain ⟨q8, hq8, eq8⟩ : ∃ q8 : Nat, q8 < 2 ^ 3 ∧ f_3 = nI q8 := by rw [ef_3]; exact pk_andE _ 3 (by decide)
      obtain rfl : f_3 = nI q8 := eq8
      have hq8 : q8 < 8 := hq8
      rcases (show q8 = 0 ∨ q8 = 1 ∨ q8 = 2 ∨ q8 = 3 ∨ q8 = 4 ∨ q8 = 5 ∨ q8 = 6 ∨ q8 = 7 by omega) with h | h | h | h | h | h | h | h <;> subst h
      · refine lv_tableIn (off := 37) (tgt := 80) hx hb dL_law_43 (by decide) (by decide) (by decide) (by decide) ?_
        refine lv_aload_n hx hb dL_law_80 rfl (lv_at hl 1 rfl) ?_
        refine lv_aload_n hx hb dL_law_81 rfl (lv_at hl 0 rfl) ?_
        refine lv_iload_n hx hb dL_law_82 rfl (lv_at hl 3 rfl) ?_
        refine lv_iconst (v := 1) hx hb dL_law_83 (by decide) ?_
        refine lv_iadd hx hb dL_law_84 ?_
        refine lv_topi (fun f_4 ef_4 => ?_)
        obtain rfl : f_4 = nI (1 + 6 * j + 1) := ef_4.trans (nI_add _ 1)
        refine va_sld hx hb hX hbl hbA hS (show vp_in (nI (1 + 6 * j + 1)) L from vp_in_nI (by omega) (by omega)) dL_law_85 ?_
        refine lv_topi (fun v_5 ev_5 => ?_)
        refine lv_aload_n hx hb dL_law_86 rfl (lv_at hl 0 rfl) ?_
        refine lv_iload_n hx hb dL_law_87 rfl (lv_at hl 3 rfl) ?_
        refine lv_iconst (v := 2) hx hb dL_law_88 (by decide) ?_
        refine lv_iadd hx hb dL_law_89 ?_
        refine lv_topi (fun f_6 ef_6 => ?_)
        obtain rfl : f_6 = nI (1 + 6 * j + 2) := ef_6.trans (nI_add _ 2)
        refine va_sld hx hb hX hbl hbA hS (show vp_in (nI (1 + 6 * j + 2)) L from vp_in_nI (by omega) (by omega)) dL_law_90 ?_
        refine lv_topi (fun v_7 ev_7 => ?_)
        refine lv_aload_n hx hb dL_law_91 rfl (lv_at hl 0 rfl) ?_
        refine lv_iload_n hx hb dL_law_92 rfl (lv_at hl 3 rfl) ?_
        refine lv_iconst (v := 3) hx hb dL_law_93 (by decide) ?_
        refine lv_iadd hx hb dL_law_94 ?_
        refine lv_topi (fun f_8 ef_8 => ?_)
        obtain rfl : f_8 = nI (1 + 6 * j + 3) := ef_8.trans (nI_add _ 3)
        refine va_sld hx hb hX hbl hbA hS (show vp_in (nI (1 + 6 * j + 3)) L from vp_in_nI (by omega) (by omega)) dL_law_95 ?_
        refine lv_topi (fun v_9 ev_9 => ?_)
        refine lv_aload_n hx hb dL_law_96 rfl (lv_at hl 0 rfl) ?_
        refine lv_iload_n hx hb dL_law_97 rfl (lv_at hl 3 rfl) ?_
        refine lv_iconst (v := 4) hx hb dL_law_98 (by decide) ?_
        refine lv_iadd hx hb dL_law_99 ?_
        refine lv_topi (fun f_10 ef_10 => ?_)
        obtain rfl : f_10 = nI (1 + 6 * j + 4) := ef_10.trans (nI_add _ 4)
        refine va_sld hx hb hX hbl hbA hS (show vp_in (nI (1 + 6 * j + 4)) L from vp_in_nI (by omega) (by omega)) dL_law_100 ?_
        refine lv_topi (fun v_11 ev_11 => ?_)
        refine lv_aload_n hx hb dL_law_101 rfl (lv_at hl 0 rfl) ?_
        refine lv_iload_n hx hb dL_law_102 rfl (lv_at hl 3 rfl) ?_
        refine lv_iconst (v := 5) hx hb dL_law_103 (by decide) ?_
        refine lv_iadd hx hb dL_law_104 ?_
        refine lv_topi (fun f_12 ef_12 => ?_)
        obtain rfl : f_12 = nI (1 + 6 * j + 5) := ef_12.trans (nI_add _ 5)
        refine va_sld hx hb hX hbl hbA hS (show vp_in (nI (1 + 6 * j + 5)) L from vp_in_nI (by omega) (by omega)) dL_law_105 ?_
        refine lv_topi (fun v_13 ev_13 => ?_)
        refine lw_feed l v_5 v_7 v_9 v_11 v_13 hx hb hml hown hts hA hK hl hC hP hD hS (by omega) (by omega) (by omega) (fun W1 H1 locs1 hC1 hz1 hP1 hD1 hS1 => ?_)
        obtain ⟨S1, hR1, hP1, hD1⟩ := rfK_rp hR hz1 hP1 hD1
        refine W.grow (fun hg3 hg4 => ?_)
        refine lv_aload_n hx hb dL_law_109 rfl (lv_at hl 2 rfl) ?_
        refine lv_aload_n hx hb dL_law_110 rfl (lv_at hl 0 rfl) ?_
        refine lv_iload_n hx hb dL_law_111 rfl (lv_at hl 3 rfl) ?_
        refine lv_iconst (v := 1) hx hb dL_law_112 (by decide) ?_
        refine lv_iadd hx hb dL_law_113 ?_
        refine lv_topi (fun f_14 ef_14 => ?_)
        obtain rfl : f_14 = nI (1 + 6 * j + 1) := ef_14.trans (nI_add _ 1)
        refine va_sld hx hb hX hbl hbA hS1 (show vp_in (nI (1 + 6 * j + 1)) L from vp_in_nI (by omega) (by omega)) dL_law_114 ?_
        refine lv_topi (fun v_15 ev_15 => ?_)
        refine lv_aload_n hx hb dL_law_115 rfl (lv_at hl 0 rfl) ?_
        refine lv_iload_n hx hb dL_law_116 rfl (lv_at hl 3 rfl) ?_
        refine lv_iconst (v := 2) hx hb dL_law_117 (by decide) ?_
        refine lv_iadd hx hb dL_law_118 ?_
        refine lv_topi (fun f_16 ef_16 => ?_)
        obtain rfl : f_16 = nI (1 + 6 * j + 2) := ef_16.trans (nI_add _ 2)
        refine va_sld hx hb hX hbl hbA hS1 (show vp_in (nI (1 + 6 * j + 2)) L from vp_in_nI (by omega) (by omega)) dL_law_119 ?_
        refine lv_topi (fun v_17 ev_17 => ?_)
        refine lv_aload_n hx hb dL_law_120 rfl (lv_at hl 0 rfl) ?_
        refine lv_iload_n hx hb dL_law_121 rfl (lv_at hl 3 rfl) ?_
        refine lv_iconst (v := 3) hx hb dL_law_122 (by decide) ?_
        refine lv_iadd hx hb dL_law_123 ?_
        refine lv_topi (fun f_18 ef_18 => ?_)
        obtain rfl : f_18 = nI (1 + 6 * j + 3) := ef_18.trans (nI_add _ 3)
        refine va_sld hx hb hX hbl hbA hS1 (show vp_in (nI (1 + 6 * j + 3)) L from vp_in_nI (by omega) (by omega)) dL_law_124 ?_
        refine lv_topi (fun v_19 ev_19 => ?_)
        refine lv_aload_n hx hb dL_law_125 rfl (lv_at hl 0 rfl) ?_
        refine lv_iload_n hx hb dL_law_126 rfl (lv_at hl 3 rfl) ?_
        refine lv_iconst (v := 4) hx hb dL_law_127 (by decide) ?_
        refine lv_iadd hx hb dL_law_128 ?_
        refine lv_topi (fun f_20 ef_20 => ?_)
        obtain rfl : f_20 = nI (1 + 6 * j + 4) := ef_20.trans (nI_add _ 4)
        refine va_sld hx hb hX hbl hbA hS1 (show vp_in (nI (1 + 6 * j + 4)) L from vp_in_nI (by omega) (by omega)) dL_law_129 ?_
        refine lv_topi (fun v_21 ev_21 => ?_)
        refine lv_aload_n hx hb dL_law_130 rfl (lv_at hl 0 rfl) ?_
        refine lv_iload_n hx hb dL_law_131 rfl (lv_at hl 3 rfl) ?_
        refine lv_iconst (v := 5) hx hb dL_law_132 (by decide) ?_
        refine lv_iadd hx hb dL_law_133 ?_
        refine lv_topi (fun f_22 ef_22 => ?_)
        obtain rfl : f_22 = nI (1 + 6 * j + 5) := ef_22.trans (nI_add _ 5)
        refine va_sld hx hb hX hbl hbA hS1 (show vp_in (nI (1 + 6 * j + 5)) L from vp_in_nI (by omega) (by omega)) dL_law_134 ?_
        refine lv_topi (fun v_23 ev_23 => ?_)
        refine lw_mfeed v_15 v_17 v_19 v_21 v_23 ⟨hx, hb, hml, hown, hts⟩ hKt hns hnw hR1 hP1 hD1 hS1 hA hl (Nat.le_of_ble_eq_true rfl) (by omega) (by omega) (by omega) (fun S2 H2 locs2 hR2 hz2 hn2 hP2 hD2 hS2 => ?_)
        refine lv_icmp_eq (tgt := 278) hx hb dL_law_138 (by decide) (fun _ => ?_) (fun c_24 => absurd rfl c_24)
        obtain ⟨x_25, ex_25⟩ : ∃ yY : Int32, yY = (nI (1 + 6 * j)) + 6 := ⟨_, rfl⟩
        refine lv_iinc (v := x_25) (lv' := [(3, .int x_25), (0, .ref b), (1, .ref op0), (2, .ref m9)]) hx hb dL_law_278 hl (k := 3) rfl (by rw [ex_25]; rfl) (by decide) rfl (fun ls hl => ?_)
        obtain rfl : x_25 = nI (1 + 6 * (j + 1)) := ex_25.trans ((nI_add _ 6).trans (by rw [show 1 + 6 * j + 6 = 1 + 6 * (j + 1) by omega]))
        refine lv_goto (tgt := 28) hx hb dL_law_281 (by decide) ?_
        exact ih (j + 1) (lc + 20) (lr + 20) mln k n g gs S2 W1 H2 locs2  ls (by omega) (by omega) hC1 hR2 hP2 hD2 hS2 (lv_sub hl [1, 2, 3, 0] rfl) (by omega) (by omega) (by omega) (by omega) (by omega) (by omega) (by omega)
      · refine lv_tableIn (off := 100) (tgt := 143) hx hb dL_law_43 (by decide) (by decide) (by decide) (by decide) ?_
        refine lv_aload_n hx hb dL_law_143 rfl (lv_at hl 1 rfl) ?_
        refine lv_aload_n hx hb dL_law_144 rfl (lv_at hl 0 rfl) ?_
        refine lv_iload_n hx hb dL_law_145 rfl (lv_at hl 3 rfl) ?_
        refine lv_iconst (v := 1) hx hb dL_law_146 (by decide) ?_
        refine lv_iadd hx hb dL_law_147 ?_
        refine lv_topi (fun f_4 ef_4 => ?_)
        obtain rfl : f_4 = nI (1 + 6 * j + 1) := ef_4.trans (nI_add _ 1)
        refine va_sld hx hb hX hbl hbA hS (show vp_in (nI (1 + 6 * j + 1)) L from vp_in_nI (by omega) (by omega)) dL_law_148 ?_
        refine lv_topi (fun v_5 ev_5 => ?_)
        obtain ⟨f_6, ef_6⟩ : ∃ yY : Int64, yY = (v_5 : Int32).toInt64 := ⟨_, rfl⟩
        refine lv_i2l (v := f_6) hx hb dL_law_149 ef_6.symm ?_
        refine lv_bipush (v := 32) hx hb dL_law_150 (by decide) ?_
        obtain ⟨f_7, ef_7⟩ : ∃ yY : Int64, yY = (f_6 : Int64) <<< ((32 : Int32).toInt64 &&& 63) := ⟨_, rfl⟩
        refine lv_lshl (v := f_7) hx hb dL_law_152 ef_7.symm ?_
        refine lv_aload_n hx hb dL_law_153 rfl (lv_at hl 0 rfl) ?_
        refine lv_iload_n hx hb dL_law_154 rfl (lv_at hl 3 rfl) ?_
        refine lv_iconst (v := 2) hx hb dL_law_155 (by decide) ?_
        refine lv_iadd hx hb dL_law_156 ?_
        refine lv_topi (fun f_8 ef_8 => ?_)
        obtain rfl : f_8 = nI (1 + 6 * j + 2) := ef_8.trans (nI_add _ 2)
        refine va_sld hx hb hX hbl hbA hS (show vp_in (nI (1 + 6 * j + 2)) L from vp_in_nI (by omega) (by omega)) dL_law_157 ?_
        refine lv_topi (fun v_9 ev_9 => ?_)
        obtain ⟨f_10, ef_10⟩ : ∃ yY : Int64, yY = (v_9 : Int32).toInt64 := ⟨_, rfl⟩
        refine lv_i2l (v := f_10) hx hb dL_law_158 ef_10.symm ?_
        refine lv_ldc2 (v := 4294967295) hx hb hown (hts (.constantLong RL 26 4294967295) lwm_94) dL_law_159 ?_
        refine lv_land hx hb dL_law_162 ?_
        refine lv_topl (fun f_11 ef_11 => ?_)
        refine lv_lor hx hb dL_law_163 ?_
        refine lv_topl (fun f_12 ef_12 => ?_)
        refine lw_input l f_12 hx hb hml hown hts hA hK hl hC hP hD hS (by omega) (by omega) (fun W1 H1 locs1 r1 hC1 hz1 hP1 hD1 hS1 => ?_)
        obtain ⟨S1, hR1, hP1, hD1⟩ := rfK_rp hR hz1 hP1 hD1
        refine W.grow (fun hg3 hg4 => ?_)
        refine lv_pop hx hb dL_law_167 rfl ?_
        refine lv_aload_n hx hb dL_law_168 rfl (lv_at hl 2 rfl) ?_
        refine lv_aload_n hx hb dL_law_169 rfl (lv_at hl 0 rfl) ?_
        refine lv_iload_n hx hb dL_law_170 rfl (lv_at hl 3 rfl) ?_
        refine lv_iconst (v := 1) hx hb dL_law_171 (by decide) ?_
        refine lv_iadd hx hb dL_law_172 ?_
        refine lv_topi (fun f_13 ef_13 => ?_)
        obtain rfl : f_13 = nI (1 + 6 * j + 1) := ef_13.trans (nI_add _ 1)
        refine va_sld hx hb hX hbl hbA hS1 (show vp_in (nI (1 + 6 * j + 1)) L from vp_in_nI (by omega) (by omega)) dL_law_173 ?_
        refine lv_topi (fun v_14 ev_14 => ?_)
        obtain ⟨f_15, ef_15⟩ : ∃ yY : Int64, yY = (v_14 : Int32).toInt64 := ⟨_, rfl⟩
        refine lv_i2l (v := f_15) hx hb dL_law_174 ef_15.symm ?_
        refine lv_bipush (v := 32) hx hb dL_law_175 (by decide) ?_
        obtain ⟨f_16, ef_16⟩ : ∃ yY : Int64, yY = (f_15 : Int64) <<< ((32 : Int32).toInt64 &&& 63) := ⟨_, rfl⟩
        refine lv_lshl (v := f_16) hx hb dL_law_177 ef_16.symm ?_
        refine lv_aload_n hx hb dL_law_178 rfl (lv_at hl 0 rfl) ?_
        refine lv_iload_n hx hb dL_law_179 rfl (lv_at hl 3 rfl) ?_
        refine lv_iconst (v := 2) hx hb dL_law_180 (by decide) ?_
        refine lv_iadd hx hb dL_law_181 ?_
        refine lv_topi (fun f_17 ef_17 => ?_)
        obtain rfl : f_17 = nI (1 + 6 * j + 2) := ef_17.trans (nI_add _ 2)
        refine va_sld hx hb hX hbl hbA hS1 (show vp_in (nI (1 + 6 * j + 2)) L from vp_in_nI (by omega) (by omega)) dL_law_182 ?_
        refine lv_topi (fun v_18 ev_18 => ?_)
        obtain ⟨f_19, ef_19⟩ : ∃ yY : Int64, yY = (v_18 : Int32).toInt64 := ⟨_, rfl⟩
        refine lv_i2l (v := f_19) hx hb dL_law_183 ef_19.symm ?_
        refine lv_ldc2 (v := 4294967295) hx hb hown (hts (.constantLong RL 26 4294967295) lwm_94) dL_law_184 ?_
        refine lv_land hx hb dL_law_187 ?_
        refine lv_topl (fun f_20 ef_20 => ?_)
        refine lv_lor hx hb dL_law_188 ?_
        refine lv_topl (fun f_21 ef_21 => ?_)
        refine lw_minput f_21 ⟨hx, hb, hml, hown, hts⟩ hKt hns hnw hR1 hP1 hD1 hS1 hA hl (Nat.le_of_ble_eq_true rfl) (by omega) (by omega) (fun S2 H2 locs2 r2 hR2 hz2 hn2 hP2 hD2 hS2 => ?_)
        refine lv_pop hx hb dL_law_192 rfl ?_
        refine lv_goto (tgt := 278) hx hb dL_law_193 (by decide) ?_
        obtain ⟨x_22, ex_22⟩ : ∃ yY : Int32, yY = (nI (1 + 6 * j)) + 6 := ⟨_, rfl⟩
        refine lv_iinc (v := x_22) (lv' := [(3, .int x_22), (0, .ref b), (1, .ref op0), (2, .ref m9)]) hx hb dL_law_278 hl (k := 3) rfl (by rw [ex_22]; rfl) (by decide) rfl (fun ls hl => ?_)
        obtain rfl : x_22 = nI (1 + 6 * (j + 1)) := ex_22.trans ((nI_add _ 6).trans (by rw [show 1 + 6 * j + 6 = 1 + 6 * (j + 1) by omega]))
        refine lv_goto (tgt := 28) hx hb dL_law_281 (by decide) ?_
        exact ih (j + 1) lc lr mln k n g gs S2 W1 H2 locs2  ls (by omega) (by omega) hC1 hR2 hP2 hD2 hS2 (lv_sub hl [1, 2, 3, 0] rfl) (by omega) (by omega) (by omega) (by omega) (by omega) (by omega) (by omega)
      · refine lv_tableIn (off := 153) (tgt := 196) hx hb dL_law_43 (by decide) (by decide) (by decide) (by decide) ?_
        refine lv_aload_n hx hb dL_law_196 rfl (lv_at hl 1 rfl) ?_
        refine lv_aload_n hx hb dL_law_197 rfl (lv_at hl 0 rfl) ?_
        refine lv_iload_n hx hb dL_law_198 rfl (lv_at hl 3 rfl) ?_
        refine lv_iconst (v := 1) hx hb dL_law_199 (by decide) ?_
        refine lv_iadd hx hb dL_law_200 ?_
        refine lv_topi (fun f_4 ef_4 => ?_)
        obtain rfl : f_4 = nI (1 + 6 * j + 1) := ef_4.trans (nI_add _ 1)
        refine va_sld hx hb hX hbl hbA hS (show vp_in (nI (1 + 6 * j + 1)) L from vp_in_nI (by omega) (by omega)) dL_law_201 ?_
        refine lv_topi (fun v_5 ev_5 => ?_)
        refine lv_aload_n hx hb dL_law_202 rfl (lv_at hl 0 rfl) ?_
        refine lv_iload_n hx hb dL_law_203 rfl (lv_at hl 3 rfl) ?_
        refine lv_iconst (v := 2) hx hb dL_law_204 (by decide) ?_
        refine lv_iadd hx hb dL_law_205 ?_
        refine lv_topi (fun f_6 ef_6 => ?_)
        obtain rfl : f_6 = nI (1 + 6 * j + 2) := ef_6.trans (nI_add _ 2)
        refine va_sld hx hb hX hbl hbA hS (show vp_in (nI (1 + 6 * j + 2)) L from vp_in_nI (by omega) (by omega)) dL_law_206 ?_
        refine lv_topi (fun v_7 ev_7 => ?_)
        refine lw_kRun l v_5 v_7 hx hb hml hown hts hA hK hl hC hP hD hS (by omega) hpre0 hpre1 hpre2 hpre3 hpre4 hpre5 hpre6 hpre7 hpre8 hpre9 hpre10 hpre11 hpre12 (by omega) (by omega) (fun W1 H1 locs1 r1 len1 mln1 dn ds hC1 q1 q2 q3 hz1 q4 hP1 hD1 hS1 => ?_)
        refine W.tight (k := k + dn) (n := n + ds) (by omega) (by omega) ?_
        obtain ⟨S1, hR1, hP1, hD1⟩ := rfK_rp hR hz1 hP1 hD1
        refine W.grow (fun hg3 hg4 => ?_)
        refine lv_pop hx hb dL_law_210 rfl ?_
        refine lv_aload_n hx hb dL_law_211 rfl (lv_at hl 2 rfl) ?_
        refine lv_aload_n hx hb dL_law_212 rfl (lv_at hl 0 rfl) ?_
        refine lv_iload_n hx hb dL_law_213 rfl (lv_at hl 3 rfl) ?_
        refine lv_iconst (v := 1) hx hb dL_law_214 (by decide) ?_
        refine lv_iadd hx hb dL_law_215 ?_
        refine lv_topi (fun f_8 ef_8 => ?_)
        obtain rfl : f_8 = nI (1 + 6 * j + 1) := ef_8.trans (nI_add _ 1)
        refine va_sld hx hb hX hbl hbA hS1 (show vp_in (nI (1 + 6 * j + 1)) L from vp_in_nI (by omega) (by omega)) dL_law_216 ?_
        refine lv_topi (fun v_9 ev_9 => ?_)
        refine lv_aload_n hx hb dL_law_217 rfl (lv_at hl 0 rfl) ?_
        refine lv_iload_n hx hb dL_law_218 rfl (lv_at hl 3 rfl) ?_
        refine lv_iconst (v := 2) hx hb dL_law_219 (by decide) ?_
        refine lv_iadd hx hb dL_law_220 ?_
        refine lv_topi (fun f_10 ef_10 => ?_)
        obtain rfl : f_10 = nI (1 + 6 * j + 2) := ef_10.trans (nI_add _ 2)
        refine va_sld hx hb hX hbl hbA hS1 (show vp_in (nI (1 + 6 * j + 2)) L from vp_in_nI (by omega) (by omega)) dL_law_221 ?_
        refine lv_topi (fun v_11 ev_11 => ?_)
        refine lw_mrun v_9 v_11 ⟨hx, hb, hml, hown, hts⟩ hKt hns hnw hR1 hP1 hD1 hS1 hA hl (Nat.le_of_ble_eq_true rfl) (by omega) (by omega) hst hk (by omega) (by omega) (by omega) (fun S2 H2 locs2 r2 l2 dn2 ds2 hR2 q5 q6 q7 q8 q9 hP2 hD2 hS2 => ?_)
        refine W.tight (k := k + dn + dn2) (n := n + ds + ds2) (by omega) (by omega) ?_
        refine lv_pop hx hb dL_law_225 rfl ?_
        refine lv_goto (tgt := 278) hx hb dL_law_226 (by decide) ?_
        obtain ⟨x_12, ex_12⟩ : ∃ yY : Int32, yY = (nI (1 + 6 * j)) + 6 := ⟨_, rfl⟩
        refine lv_iinc (v := x_12) (lv' := [(3, .int x_12), (0, .ref b), (1, .ref op0), (2, .ref m9)]) hx hb dL_law_278 hl (k := 3) rfl (by rw [ex_12]; rfl) (by decide) rfl (fun ls hl => ?_)
        obtain rfl : x_12 = nI (1 + 6 * (j + 1)) := ex_12.trans ((nI_add _ 6).trans (by rw [show 1 + 6 * j + 6 = 1 + 6 * (j + 1) by omega]))
        refine lv_goto (tgt := 28) hx hb dL_law_281 (by decide) ?_
        exact ih (j + 1) len1 l2 mln1 (k + dn + dn2) (n + ds + ds2) (g + dn) (gs + ds) S2 W1 H2 locs2  ls (by omega) (by omega) hC1 hR2 hP2 hD2 hS2 (lv_sub hl [1, 2, 3, 0] rfl) (by omega) (by omega) (by omega) (by omega) (by omega) (by omega) (by omega)
      · refine lv_tableIn (off := 186) (tgt := 229) hx hb dL_law_43 (by decide) (by decide) (by decide) (by decide) ?_
        refine lv_aload_n hx hb dL_law_229 rfl (lv_at hl 1 rfl) ?_
        refine lw_place l hx hb hml hown hts hA hK hl hC hP hD hS (by omega) (by omega) (fun W1 H1 locs1 r1 hC1 hz1 hP1 hD1 hS1 => ?_)
        obtain ⟨S1, hR1, hP1, hD1⟩ := rfK_rp hR hz1 hP1 hD1
        refine W.grow (fun hg3 hg4 => ?_)
        refine lv_pop hx hb dL_law_233 rfl ?_
        refine lv_aload_n hx hb dL_law_234 rfl (lv_at hl 2 rfl) ?_
        refine lw_mplace_ ⟨hx, hb, hml, hown, hts⟩ hKt hns hnw hR1 hP1 hD1 hS1 hA hl (Nat.le_of_ble_eq_true rfl) (by omega) (by omega) (fun S2 H2 locs2 r2 hR2 hz2 hn2 hP2 hD2 hS2 => ?_)
        refine lv_pop hx hb dL_law_238 rfl ?_
        refine lv_goto (tgt := 278) hx hb dL_law_239 (by decide) ?_
        obtain ⟨x_4, ex_4⟩ : ∃ yY : Int32, yY = (nI (1 + 6 * j)) + 6 := ⟨_, rfl⟩
        refine lv_iinc (v := x_4) (lv' := [(3, .int x_4), (0, .ref b), (1, .ref op0), (2, .ref m9)]) hx hb dL_law_278 hl (k := 3) rfl (by rw [ex_4]; rfl) (by decide) rfl (fun ls hl => ?_)
        obtain rfl : x_4 = nI (1 + 6 * (j + 1)) := ex_4.trans ((nI_add _ 6).trans (by rw [show 1 + 6 * j + 6 = 1 + 6 * (j + 1) by omega]))
        refine lv_goto (tgt := 28) hx hb dL_law_281 (by decide) ?_
        exact ih (j + 1) lc lr mln k n g gs S2 W1 H2 locs2  ls (by omega) (by omega) hC1 hR2 hP2 hD2 hS2 (lv_sub hl [1, 2, 3, 0] rfl) (by omega) (by omega) (by omega) (by omega) (by omega) (by omega) (by omega)
      · refine lv_tableIn (off := 199) (tgt := 242) hx hb dL_law_43 (by decide) (by decide) (by decide) (by decide) ?_
        refine lv_aload_n hx hb dL_law_242 rfl (lv_at hl 1 rfl) ?_
        refine lw_fetch l hx hb hml hown hts hA hK hl hC hP hD hS (by omega) (by omega) (fun W1 H1 locs1 r1 hC1 hz1 hP1 hD1 hS1 => ?_)
        obtain ⟨S1, hR1, hP1, hD1⟩ := rfK_rp hR hz1 hP1 hD1
        refine W.grow (fun hg3 hg4 => ?_)
        refine lv_pop2_2 hx hb dL_law_246 rfl ?_
        refine lv_aload_n hx hb dL_law_247 rfl (lv_at hl 2 rfl) ?_
        refine lw_mfetch ⟨hx, hb, hml, hown, hts⟩ hKt hns hnw hR1 hP1 hD1 hS1 hA hl (Nat.le_of_ble_eq_true rfl) (by omega) (by omega) (fun S2 H2 locs2 r2 hR2 hz2 hn2 hP2 hD2 hS2 => ?_)
        refine lv_pop2_2 hx hb dL_law_251 rfl ?_
        refine lv_goto (tgt := 278) hx hb dL_law_252 (by decide) ?_
        obtain ⟨x_4, ex_4⟩ : ∃ yY : Int32, yY = (nI (1 + 6 * j)) + 6 := ⟨_, rfl⟩
        refine lv_iinc (v := x_4) (lv' := [(3, .int x_4), (0, .ref b), (1, .ref op0), (2, .ref m9)]) hx hb dL_law_278 hl (k := 3) rfl (by rw [ex_4]; rfl) (by decide) rfl (fun ls hl => ?_)
        obtain rfl : x_4 = nI (1 + 6 * (j + 1)) := ex_4.trans ((nI_add _ 6).trans (by rw [show 1 + 6 * j + 6 = 1 + 6 * (j + 1) by omega]))
        refine lv_goto (tgt := 28) hx hb dL_law_281 (by decide) ?_
        exact ih (j + 1) lc lr mln k n g gs S2 W1 H2 locs2  ls (by omega) (by omega) hC1 hR2 hP2 hD2 hS2 (lv_sub hl [1, 2, 3, 0] rfl) (by omega) (by omega) (by omega) (by omega) (by omega) (by omega) (by omega)
      · refine lv_tableIn (off := 212) (tgt := 255) hx hb dL_law_43 (by decide) (by decide) (by decide) (by decide) ?_
        refine lv_aload_n hx hb dL_law_255 rfl (lv_at hl 1 rfl) ?_
        refine lv_aload_n hx hb dL_law_256 rfl (lv_at hl 0 rfl) ?_
        refine lv_iload_n hx hb dL_law_257 rfl (lv_at hl 3 rfl) ?_
        refine lv_iconst (v := 1) hx hb dL_law_258 (by decide) ?_
        refine lv_iadd hx hb dL_law_259 ?_
        refine lv_topi (fun f_4 ef_4 => ?_)
        obtain rfl : f_4 = nI (1 + 6 * j + 1) := ef_4.trans (nI_add _ 1)
        refine va_sld hx hb hX hbl hbA hS (show vp_in (nI (1 + 6 * j + 1)) L from vp_in_nI (by omega) (by omega)) dL_law_260 ?_
        refine lv_topi (fun v_5 ev_5 => ?_)
        refine lw_count l v_5 hx hb hml hown hts hA hK hl hC hP hD hS (by omega) (by omega) (fun W1 H1 locs1 r1 hC1 hz1 hP1 hD1 hS1 => ?_)
        obtain ⟨S1, hR1, hP1, hD1⟩ := rfK_rp hR hz1 hP1 hD1
        refine W.grow (fun hg3 hg4 => ?_)
        refine lv_pop hx hb dL_law_264 rfl ?_
        refine lv_aload_n hx hb dL_law_265 rfl (lv_at hl 2 rfl) ?_
        refine lv_aload_n hx hb dL_law_266 rfl (lv_at hl 0 rfl) ?_
        refine lv_iload_n hx hb dL_law_267 rfl (lv_at hl 3 rfl) ?_
        refine lv_iconst (v := 1) hx hb dL_law_268 (by decide) ?_
        refine lv_iadd hx hb dL_law_269 ?_
        refine lv_topi (fun f_6 ef_6 => ?_)
        obtain rfl : f_6 = nI (1 + 6 * j + 1) := ef_6.trans (nI_add _ 1)
        refine va_sld hx hb hX hbl hbA hS1 (show vp_in (nI (1 + 6 * j + 1)) L from vp_in_nI (by omega) (by omega)) dL_law_270 ?_
        refine lv_topi (fun v_7 ev_7 => ?_)
        refine lw_mcount v_7 ⟨hx, hb, hml, hown, hts⟩ hKt hns hnw hR1 hP1 hD1 hS1 hA hl (Nat.le_of_ble_eq_true rfl) (by omega) (by omega) (fun S2 H2 locs2 r2 hR2 hz2 hn2 hP2 hD2 hS2 => ?_)
        refine lv_pop hx hb dL_law_274 rfl ?_
        refine lv_goto (tgt := 278) hx hb dL_law_275 (by decide) ?_
        obtain ⟨x_8, ex_8⟩ : ∃ yY : Int32, yY = (nI (1 + 6 * j)) + 6 := ⟨_, rfl⟩
        refine lv_iinc (v := x_8) (lv' := [(3, .int x_8), (0, .ref b), (1, .ref op0), (2, .ref m9)]) hx hb dL_law_278 hl (k := 3) rfl (by rw [ex_8]; rfl) (by decide) rfl (fun ls hl => ?_)
        obtain rfl : x_8 = nI (1 + 6 * (j + 1)) := ex_8.trans ((nI_add _ 6).trans (by rw [show 1 + 6 * j + 6 = 1 + 6 * (j + 1) by omega]))
        refine lv_goto (tgt := 28) hx hb dL_law_281 (by decide) ?_
        exact ih (j + 1) lc lr mln k n g gs S2 W1 H2 locs2  ls (by omega) (by omega) hC1 hR2 hP2 hD2 hS2 (lv_sub hl [1, 2, 3, 0] rfl) (by omega) (by omega) (by omega) (by omega) (by omega) (by omega) (by omega)
      · refine lv_tableOut (tgt := 278) hx hb dL_law_43 (by decide) (by decide) ?_
        obtain ⟨x_4, ex_4⟩ : ∃ yY : Int32, yY = (nI (1 + 6 * j)) + 6 := ⟨_, rfl⟩
        refine lv_iinc (v := x_4) (lv' := [(3, .int x_4), (0, .ref b), (1, .ref op0), (2, .ref m9)]) hx hb dL_law_278 hl (k := 3) rfl (by rw [ex_4]; rfl) (by decide) rfl (fun ls hl => ?_)
        obtain rfl : x_4 = nI (1 + 6 * (j + 1)) := ex_4.trans ((nI_add _ 6).trans (by rw [show 1 + 6 * j + 6 = 1 + 6 * (j + 1) by omega]))
        refine lv_goto (tgt := 28) hx hb dL_law_281 (by decide) ?_
        exact ih (j + 1) lc lr mln k n g gs S W9 H locs  ls (by omega) (by omega) hC hR hP hD hS (lv_sub hl [1, 2, 3, 0] rfl) (by omega) (by omega) (by omega) (by omega) (by omega) (by omega) (by omega)
      · refine lv_tableOut (tgt := 278) hx hb dL_law_43 (by decide) (by decide) ?_
        obtain ⟨x_4, ex_4⟩ : ∃ yY : Int32, yY = (nI (1 + 6 * j)) + 6 := ⟨_, rfl⟩
        refine lv_iinc (v := x_4) (lv' := [(3, .int x_4), (0, .ref b), (1, .ref op0), (2, .ref m9)]) hx hb dL_law_278 hl (k := 3) rfl (by rw [ex_4]; rfl) (by decide) rfl (fun ls hl => ?_)
        obtain rfl : x_4 = nI (1 + 6 * (j + 1)) := ex_4.trans ((nI_add _ 6).trans (by rw [show 1 + 6 * j + 6 = 1 + 6 * (j + 1) by omega]))
        refine lv_goto (tgt := 28) hx hb dL_law_281 (by decide) ?_
        exact ih (j + 1) lc lr mln k n g gs S W9 H locs  ls (by omega) (by omega) hC hR hP hD hS (lv_sub hl [1, 2, 3, 0] rfl) (by omega) (by omega) (by omega) (by omega) (by omega) (by omega) (by omega)
