set_option maxHeartbeats 8000000 in
set_option maxRecDepth 100000 in
theorem whole_start {p : Program} {e : Env} {s : State} {m : MethodId} {below : List Frame} {meth : Method} {c : Code} (l : Launch) {b L : Nat} {xs : Nat → Int32} (hL : L ≤ 385) (C0 : lw_At p s m meth c b L xs) : W p l e room_1 s m #[Value.ref b] below meth c s.heap [] 0 0 (lw_Z below #[Value.ref b] s) (entryFrame m ([Value.ref b] : List Value).toArray 4) := by
  obtain ⟨hx, hb, hr, hml, hown0, hts, hX, hbl, hlocks, hgv⟩ := id C0
  have hown : s.vm.findClass RL = some m.cls := hown0
  obtain ⟨A, hAe⟩ : ∃ A : Nat → Prop, A = fun q : Nat => s.heap.size ≤ q := ⟨_, rfl⟩
  have hA : ∀ q : Nat, s.heap.size ≤ q → A q := fun q h => by rw [hAe]; exact h
  have hAd : ∀ q : Nat, A q → s.heap.size ≤ q := fun q h => by rw [hAe] at h; exact h
  have hAn : ∀ q : Nat, q < s.heap.size → ¬ A q := fun q h => by rw [hAe]; exact Nat.not_le.mpr h
  have hscr : lxS b L xs A s s.heap := ⟨hX, hbl, hAn b hbl⟩
  obtain ⟨cK0, iK0, hKn0⟩ := u_known (C := RX0) (T := TX0) (N := 18) (n := 18) hts (fun w h => (lin_X0 w h).1) (hts (.instantiable RX0 18) lwm_95)
  obtain ⟨cK1, iK1, hKn1⟩ := u_known (C := RX1) (T := TX1) (N := 8) (n := 8) hts (fun w h => (lin_X1 w h).1) (hts (.instantiable RX1 8) lwm_96)
  obtain ⟨cK2, iK2, hKn2⟩ := u_known (C := RX2) (T := TX2) (N := 22) (n := 22) hts (fun w h => (lin_X2 w h).1) (hts (.instantiable RX2 22) lwm_97)
  obtain ⟨cK3, iK3, hKn3⟩ := u_known (C := RX3) (T := TX3) (N := 7) (n := 7) hts (fun w h => (lin_X3 w h).1) (hts (.instantiable RX3 7) lwm_98)
  obtain ⟨cK4, iK4, hKn4⟩ := u_known (C := RX4) (T := TX4) (N := 18) (n := 18) hts (fun w h => (lin_X4 w h).1) (hts (.instantiable RX4 18) lwm_99)
  obtain ⟨cK5, iK5, hKn5⟩ := u_known (C := RX5) (T := TX5) (N := 19) (n := 19) hts (fun w h => (lin_X5 w h).1) (hts (.instantiable RX5 19) lwm_100)
  obtain ⟨cK6, iK6, hKn6⟩ := u_known (C := RX6) (T := TX6) (N := 12) (n := 12) hts (fun w h => (lin_X6 w h).1) (hts (.instantiable RX6 12) lwm_101)
  obtain ⟨cK7, iK7, hKn7⟩ := u_known (C := RX7) (T := TX7) (N := 9) (n := 9) hts (fun w h => (lin_X7 w h).1) (hts (.instantiable RX7 9) lwm_102)
  obtain ⟨cK8, iK8, hKn8⟩ := u_known (C := RX8) (T := TX8) (N := 4) (n := 4) hts (fun w h => (lin_X8 w h).1) (hts (.instantiable RX8 4) lwm_103)
  obtain ⟨cK9, iK9, hKn9⟩ := u_known (C := RX9) (T := TX9) (N := 18) (n := 18) hts (fun w h => (lin_X9 w h).1) (hts (.instantiable RX9 18) lwm_104)
  obtain ⟨cK10, iK10, hKn10⟩ := u_known (C := RX10) (T := TX10) (N := 16) (n := 16) hts (fun w h => (lin_X10 w h).1) (hts (.instantiable RX10 16) lwm_105)
  obtain ⟨cK11, iK11, hKn11⟩ := u_known (C := RX11) (T := TX11) (N := 13) (n := 13) hts (fun w h => (lin_X11 w h).1) (hts (.instantiable RX11 13) lwm_106)
  obtain ⟨cK12, iK12, hKn12⟩ := u_known (C := RX12) (T := TX12) (N := 14) (n := 14) hts (fun w h => (lin_X12 w h).1) (hts (.instantiable RX12 14) lwm_107)
  obtain ⟨cK13, iK13, hKn13⟩ := u_known (C := RX13) (T := TX13) (N := 6) (n := 6) hts (fun w h => (lin_X13 w h).1) (hts (.instantiable RX13 6) lwm_108)
  obtain ⟨cK14, iK14, hKn14⟩ := u_known (C := RX14) (T := TX14) (N := 4) (n := 4) hts (fun w h => (lin_X14 w h).1) (hts (.instantiable RX14 4) lwm_109)
  obtain ⟨cK15, iK15, hKn15⟩ := u_known (C := RX15) (T := TX15) (N := 14) (n := 14) hts (fun w h => (lin_X15 w h).1) (hts (.instantiable RX15 14) lwm_110)
  obtain ⟨cK16, iK16, hKn16⟩ := u_known (C := RX16) (T := TX16) (N := 22) (n := 22) hts (fun w h => (lin_X16 w h).1) (hts (.instantiable RX16 22) lwm_111)
  obtain ⟨cK17, iK17, hKn17⟩ := u_known (C := RX17) (T := TX17) (N := 3) (n := 3) hts (fun w h => (lin_X17 w h).1) (hts (.instantiable RX17 3) lwm_112)
  obtain ⟨cK18, iK18, hKn18⟩ := u_known (C := RX18) (T := TX18) (N := 4) (n := 4) hts (fun w h => (lin_X18 w h).1) (hts (.instantiable RX18 4) lwm_113)
  obtain ⟨cK19, iK19, hKn19⟩ := u_known (C := RX19) (T := TX19) (N := 14) (n := 14) hts (fun w h => (lin_X19 w h).1) (hts (.instantiable RX19 14) lwm_114)
  obtain ⟨cK20, iK20, hKn20⟩ := u_known (C := RX20) (T := TX20) (N := 4) (n := 4) hts (fun w h => (lin_X20 w h).1) (hts (.instantiable RX20 4) lwm_115)
  obtain ⟨cK21, iK21, hKn21⟩ := u_known (C := RX21) (T := TX21) (N := 5) (n := 5) hts (fun w h => (lin_X21 w h).1) (hts (.instantiable RX21 5) lwm_116)
  obtain ⟨cK22, iK22, hKn22⟩ := u_known (C := RX22) (T := TX22) (N := 5) (n := 5) hts (fun w h => (lin_X22 w h).1) (hts (.instantiable RX22 5) lwm_117)
  obtain ⟨cK23, iK23, hKn23⟩ := u_known (C := RX23) (T := TX23) (N := 89) (n := 89) hts (fun w h => (lin_X23 w h).1) (hts (.instantiable RX23 89) lwm_118)
  obtain ⟨dC, dI, hKc0⟩ : ∃ (dC : Nat → ClassId) (dI : Nat → Nat → Nat), ∀ (k : Nat) (q : vw_C), vwCl[k]? = some q → u_Kn s q.1 q.2.1 q.2.2 (dC k) (dI k) := by
    refine ⟨fun k => if k = 0 then cK0 else if k = 1 then cK1 else if k = 2 then cK2 else if k = 3 then cK3 else if k = 4 then cK4 else if k = 5 then cK5 else if k = 6 then cK6 else if k = 7 then cK7 else if k = 8 then cK8 else if k = 9 then cK9 else if k = 10 then cK10 else if k = 11 then cK11 else if k = 12 then cK12 else if k = 13 then cK13 else if k = 14 then cK14 else if k = 15 then cK15 else if k = 16 then cK16 else if k = 17 then cK17 else if k = 18 then cK18 else if k = 19 then cK19 else if k = 20 then cK20 else if k = 21 then cK21 else if k = 22 then cK22 else cK23, fun k => if k = 0 then iK0 else if k = 1 then iK1 else if k = 2 then iK2 else if k = 3 then iK3 else if k = 4 then iK4 else if k = 5 then iK5 else if k = 6 then iK6 else if k = 7 then iK7 else if k = 8 then iK8 else if k = 9 then iK9 else if k = 10 then iK10 else if k = 11 then iK11 else if k = 12 then iK12 else if k = 13 then iK13 else if k = 14 then iK14 else if k = 15 then iK15 else if k = 16 then iK16 else if k = 17 then iK17 else if k = 18 then iK18 else if k = 19 then iK19 else if k = 20 then iK20 else if k = 21 then iK21 else if k = 22 then iK22 else iK23, ?_⟩
    intro k q hq
    match k, hq with
    | 0, hq => cases hq; exact hKn0
    | 1, hq => cases hq; exact hKn1
    | 2, hq => cases hq; exact hKn2
    | 3, hq => cases hq; exact hKn3
    | 4, hq => cases hq; exact hKn4
    | 5, hq => cases hq; exact hKn5
    | 6, hq => cases hq; exact hKn6
    | 7, hq => cases hq; exact hKn7
    | 8, hq => cases hq; exact hKn8
    | 9, hq => cases hq; exact hKn9
    | 10, hq => cases hq; exact hKn10
    | 11, hq => cases hq; exact hKn11
    | 12, hq => cases hq; exact hKn12
    | 13, hq => cases hq; exact hKn13
    | 14, hq => cases hq; exact hKn14
    | 15, hq => cases hq; exact hKn15
    | 16, hq => cases hq; exact hKn16
    | 17, hq => cases hq; exact hKn17
    | 18, hq => cases hq; exact hKn18
    | 19, hq => cases hq; exact hKn19
    | 20, hq => cases hq; exact hKn20
    | 21, hq => cases hq; exact hKn21
    | 22, hq => cases hq; exact hKn22
    | 23, hq => cases hq; exact hKn23
    | k + 24, hq => simp [vwCl] at hq
  have hS : va_S A s.heap s.heap [] := va_S.rf
  have hK : va_K (dC, dI) vwCl [] s := ⟨hKc0, fun k q h => by simp at h⟩
  have hP : va_P (dC, dI) vwCl [] s.heap := fun k q h => by simp at h
  have hD : va_D A [] := ⟨fun i j p q h => by simp at h, fun k q h => by simp at h⟩
  have hl := lv_entry ([.ref b]) (n := 4) (Nat.le_of_ble_eq_true rfl)
  rw [lg_entry_eq]
  generalize (lg_sl ([.ref b]) ++ List.replicate (4 - (lg_sl ([.ref b])).length) Slot.unset).toArray = ls at hl ⊢
  have hl : lv_has ls 4 [(0, .ref b)] := hl
  have hfl := flat_of_before _ hgv
  have hcs := va_Zof (hts (.laysStatic "java/lang/String" "COMPACT_STRINGS" "Z") lwm_119) (hts (.initialized RJ0) lwm_120) (va_eqi (hfl _ fl_cs)) hAn
  obtain ⟨ta, va, hsa, hea⟩ := lw_str (byt := txB_a) (by decide) (hfl _ fl_ex_a) (hfl _ fl_co_a) (hfl _ fl_ar_a) (hfl _ fl_le_a) (fun j hj => hfl _ (txi_a j hj)) hcs hAn
  have hva : vk_R RX9 57 "struct enum fn let mut if else while match return print read true false box new token int bool main " ta s := vk_R.of (hts (.stringRef RX9 57 "struct enum fn let mut if else while match return print read true false box new token int bool main ") lwm_121) hea
  obtain ⟨tb, vb, hsb, heb⟩ := lw_str (byt := txB_b) (by decide) (hfl _ fl_ex_b) (hfl _ fl_co_b) (hfl _ fl_ar_b) (hfl _ fl_le_b) (fun j hj => hfl _ (txi_b j hj)) hcs hAn
  have hvb : vk_R RX9 150 "==!=<=>=&&||::->=>" tb s := vk_R.of (hts (.stringRef RX9 150 "==!=<=>=&&||::->=>") lwm_122) heb
  obtain ⟨tc, vc, hsc, hec⟩ := lw_str (byt := txB_c) (by decide) (hfl _ fl_ex_c) (hfl _ fl_co_c) (hfl _ fl_ar_c) (hfl _ fl_le_c) (fun j hj => hfl _ (txi_c j hj)) hcs hAn
  have hvc : vk_R RX9 152 "+-*/%<>!=&.,:;(){}" tc s := vk_R.of (hts (.stringRef RX9 152 "+-*/%<>!=&.,:;(){}") lwm_123) hec
  obtain ⟨td, vd, hsd, hed⟩ := lw_str (byt := txB_d) (by decide) (hfl _ fl_ex_d) (hfl _ fl_co_d) (hfl _ fl_ar_d) (hfl _ fl_le_d) (fun j hj => hfl _ (txi_d j hj)) hcs hAn
  have hvd : vk_R RX5 274 "true" td s := vk_R.of (hts (.stringRef RX5 274 "true") lwm_124) hed
  obtain ⟨te, ve, hse, hee⟩ := lw_str (byt := txB_e) (by decide) (hfl _ fl_ex_e) (hfl _ fl_co_e) (hfl _ fl_ar_e) (hfl _ fl_le_e) (fun j hj => hfl _ (txi_e j hj)) hcs hAn
  have hve : vk_R RX5 276 "false" te s := vk_R.of (hts (.stringRef RX5 276 "false") lwm_125) hee
  have hsf : sgF A s s.heap := va_Zqof (hts (.laysStatic "jdk/internal/util/Preconditions" "SIOOBE_FORMATTER" "Ljava/util/function/BiFunction;") lwm_126) (hts (.initialized "jdk/internal/util/Preconditions") lwm_127) (hfl _ fl_si) hAn
  obtain ⟨ttw, hzw, htw⟩ := lw_sar (f := fun j => .long (wdL.getD j 0)) (hts (.laysStatic "OwnedPlacesModel" "WORDS" "[J") lwm_128) (hts (.initialized RX23) lwm_22) (by decide) (hfl _ fl_ar_w) (hfl _ fl_le_w) (fun j hj => lw_eql (hfl _ (txi_w j hj))) hAn
  obtain ⟨ttf, hzf, htf⟩ := lw_sar (f := fun j => .int (sfL.getD j 0)) (hts (.laysStatic "OwnedPlacesModel" "SIGN_FIRST" "[I") lwm_129) (hts (.initialized RX23) lwm_22) (by decide) (hfl _ fl_ar_f) (hfl _ fl_le_f) (fun j hj => lw_eqi (hfl _ (txi_f j hj))) hAn
  obtain ⟨tts, hzs, hts_⟩ := lw_sar (f := fun j => .int (ssL.getD j 0)) (hts (.laysStatic "OwnedPlacesModel" "SIGN_SECOND" "[I") lwm_130) (hts (.initialized RX23) lwm_22) (by decide) (hfl _ fl_ar_s) (hfl _ fl_le_s) (fun j hj => lw_eqi (hfl _ (txi_s j hj))) hAn
  obtain ⟨ttk, hzk, htk⟩ := lw_sar (f := fun j => .int (skL.getD j 0)) (hts (.laysStatic "OwnedPlacesModel" "SIGN_KIND" "[I") lwm_131) (hts (.initialized RX23) lwm_22) (by decide) (hfl _ fl_ar_k) (hfl _ fl_le_k) (fun j hj => lw_eqi (hfl _ (txi_k j hj))) hAn
  have hst : stA ttw ttf tts ttk A s s.heap := ⟨⟨hzw, htw⟩, ⟨hzf, htf⟩, ⟨hzs, hts_⟩, ⟨hzk, htk⟩⟩
  have hcl : va_Nw (.castable "[I" "java/lang/Cloneable") s := va_Nw.of rfl (hts (.castable "[I" "java/lang/Cloneable") lwm_132)
  have hn0 : va_Nw (.methodLinkNest RX12 27 yX10_init "OwnedPlaces") s := va_Nw.of rfl (hts (.methodLinkNest RX12 27 yX10_init "OwnedPlaces") lwm_133)
  have hn1 : va_Nw (.methodLinkNest RX12 43 yX0_init "OwnedPlaces") s := va_Nw.of rfl (hts (.methodLinkNest RX12 43 yX0_init "OwnedPlaces") lwm_134)
  have hn2 : va_Nw (.methodLinkNest RX1 29 yX2_init "OwnedPlaces") s := va_Nw.of rfl (hts (.methodLinkNest RX1 29 yX2_init "OwnedPlaces") lwm_135)
  have hn3 : va_Nw (.methodLinkNest RX3 139 yX12_levelOf "OwnedPlaces") s := va_Nw.of rfl (hts (.methodLinkNest RX3 139 yX12_levelOf "OwnedPlaces") lwm_136)
  have hn4 : va_Nw (.methodLinkNest RX11 305 yX12_levelOf "OwnedPlaces") s := va_Nw.of rfl (hts (.methodLinkNest RX11 305 yX12_levelOf "OwnedPlaces") lwm_137)
  have hn5 : va_Nw (.methodLinkNest RX5 191 yX12_levelOf "OwnedPlaces") s := va_Nw.of rfl (hts (.methodLinkNest RX5 191 yX12_levelOf "OwnedPlaces") lwm_138)
  have hm0 : va_Nw (.methodLinkNest RX23 109 yX22_init "OwnedPlacesModel") s := va_Nw.of rfl (hts (.methodLinkNest RX23 109 yX22_init "OwnedPlacesModel") lwm_139)
  have hm1 : va_Nw (.methodLinkNest RX23 158 yX17_init "OwnedPlacesModel") s := va_Nw.of rfl (hts (.methodLinkNest RX23 158 yX17_init "OwnedPlacesModel") lwm_140)
  have hm2 : va_Nw (.methodLinkNest RX23 224 yX16_init "OwnedPlacesModel") s := va_Nw.of rfl (hts (.methodLinkNest RX23 224 yX16_init "OwnedPlacesModel") lwm_141)
  have hm3 : va_Nw (.methodLinkNest RX23 238 yX14_init "OwnedPlacesModel") s := va_Nw.of rfl (hts (.methodLinkNest RX23 238 yX14_init "OwnedPlacesModel") lwm_142)
  have hm4 : va_Nw (.methodLinkNest RX23 254 yX19_init "OwnedPlacesModel") s := va_Nw.of rfl (hts (.methodLinkNest RX23 254 yX19_init "OwnedPlacesModel") lwm_143)
  have hm5 : va_Nw (.methodLinkNest RX23 325 yX13_init "OwnedPlacesModel") s := va_Nw.of rfl (hts (.methodLinkNest RX23 325 yX13_init "OwnedPlacesModel") lwm_144)
  have hm6 : va_Nw (.methodLinkNest RX23 349 yX15_init "OwnedPlacesModel") s := va_Nw.of rfl (hts (.methodLinkNest RX23 349 yX15_init "OwnedPlacesModel") lwm_145)
  have hm7 : va_Nw (.methodLinkNest RX23 393 yX20_init "OwnedPlacesModel") s := va_Nw.of rfl (hts (.methodLinkNest RX23 393 yX20_init "OwnedPlacesModel") lwm_146)
  have hm8 : va_Nw (.methodLinkNest RX23 465 yX21_init "OwnedPlacesModel") s := va_Nw.of rfl (hts (.methodLinkNest RX23 465 yX21_init "OwnedPlacesModel") lwm_147)
  have hao_RX13 : va_AO RX13 s := va_AO.of (hts (.arrayOver (.object RX13)) lwm_148)
  have hao_RX14 : va_AO RX14 s := va_AO.of (hts (.arrayOver (.object RX14)) lwm_149)
  have hao_RX15 : va_AO RX15 s := va_AO.of (hts (.arrayOver (.object RX15)) lwm_150)
  have hao_RX16 : va_AO RX16 s := va_AO.of (hts (.arrayOver (.object RX16)) lwm_151)
  have hao_RX17 : va_AO RX17 s := va_AO.of (hts (.arrayOver (.object RX17)) lwm_152)
  have hao_RX18 : va_AO RX18 s := va_AO.of (hts (.arrayOver (.object RX18)) lwm_153)
  have hao_RX19 : va_AO RX19 s := va_AO.of (hts (.arrayOver (.object RX19)) lwm_154)
  have hao_RX2 : va_AO RX2 s := va_AO.of (hts (.arrayOver (.object RX2)) lwm_155)
  have hao_RX20 : va_AO RX20 s := va_AO.of (hts (.arrayOver (.object RX20)) lwm_156)
  have hao_RX21 : va_AO RX21 s := va_AO.of (hts (.arrayOver (.object RX21)) lwm_157)
  have hao_RX22 : va_AO RX22 s := va_AO.of (hts (.arrayOver (.object RX22)) lwm_158)
  have hns : nsM s := ⟨⟨hm0, hm1, hm2, hm3, hm4, hm5, hm6, hm7, hm8⟩, ⟨hao_RX15, hao_RX19, hao_RX14, hao_RX13, hao_RX22, hao_RX20, hao_RX17, hao_RX21⟩⟩
  have hnw : nwA s := (hts (.arrayOver (.array .int)) lwm_159)
  exact lw_sA l hL hx hb hml hown hts hA hscr hK hsa hsf hva hcl hn0 hn1 hn2 hao_RX2 hl (fun op0 mh kI kZ kB kL kM Wc H locs ls hC hmh hP hD hS hK hl => lw_sB l hL hx hb hml hown hts hA hscr hKc0 hK hao_RX13 hao_RX14 hao_RX15 hao_RX16 hao_RX17 hao_RX18 hao_RX19 hao_RX20 hao_RX21 hao_RX22 hnw hP hD hS hl (fun m9 kc mr S H locs ls hR hP hD hS hKt hl => lw_loop l hL hx hb hr hlocks hml hown hts hA hAd hX hbl (hAn b hbl) hK hKt hns hnw hst (lw_dis hKt) hsb hsc hsf hvb hvc hn3 hn4 hsd hse hsf hvd hve hn5 65 0 0 0 (mh + 8192) 494 2962240 0 0 S Wc _ _ ls (by omega) (by omega) hC hR hP hD hS hl (by omega) (by omega) (by omega) (by omega) (by omega) (by omega) (by omega)))
