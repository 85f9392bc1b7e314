def wf_c_rscan : List Cond := [.code yX23_scan cX23_scan 4 none, .fieldLink RX23 28 "OwnedPlacesModel" "tokens" "I", .code yX23_behindBlanks cX23_behindBlanks 4 (some .int), .code yX23_at cX23_at 2 (some .int), .fieldLink RX23 1 "OwnedPlacesModel" "size" "I", .fieldLink RX23 7 "OwnedPlacesModel" "text" "[I", .methodLink RX23 11 yX23_at, .instanceMethod yX23_at, .selects RX23 yX23_at yX23_at, .initialized RX23, .methodLink RX23 68 yX23_behindBlanks, .instanceMethod yX23_behindBlanks, .selects RX23 yX23_behindBlanks yX23_behindBlanks, .code yX23_addToken cX23_addToken 6 none, .fieldLink RX23 25 "OwnedPlacesModel" "tokenKind" "[I", .fieldLink RX23 31 "OwnedPlacesModel" "tokenAt" "[I", .fieldLink RX23 34 "OwnedPlacesModel" "tokenEnd" "[I", .fieldLink RX23 37 "OwnedPlacesModel" "tokenNumber" "[J", .methodLink RX23 51 yX23_addToken, .instanceMethod yX23_addToken, .selects RX23 yX23_addToken yX23_addToken, .code yX23_takeLife cX23_takeLife 4 (some .int), .code yX23_isLetter cX23_isLetter 1 (some .boolean), .methodLink RX23 48 yX23_isLetter, .static yX23_isLetter, .code yX23_wordOf cX23_wordOf 7 (some .int), .fieldLink RX23 15 "OwnedPlacesModel" "WORDS" "[J", .code yX23_wordLength cX23_wordLength 3 (some .int), .methodLink RX23 19 yX23_wordLength, .static yX23_wordLength, .constantLong RX23 23 255, .methodLink RX23 64 yX23_wordOf, .instanceMethod yX23_wordOf, .selects RX23 yX23_wordOf yX23_wordOf, .code yX23_isDigit cX23_isDigit 1 (some .boolean), .methodLink RX23 40 yX23_isDigit, .static yX23_isDigit, .methodLink RX23 71 yX23_takeLife, .instanceMethod yX23_takeLife, .selects RX23 yX23_takeLife yX23_takeLife, .code yX23_takeSign cX23_takeSign 4 (some .int), .fieldLink RX23 55 "OwnedPlacesModel" "SIGN_KIND" "[I", .fieldLink RX23 58 "OwnedPlacesModel" "SIGN_SECOND" "[I", .fieldLink RX23 61 "OwnedPlacesModel" "SIGN_FIRST" "[I", .methodLink RX23 77 yX23_takeSign, .instanceMethod yX23_takeSign, .selects RX23 yX23_takeSign yX23_takeSign, .code yX23_takeNumber cX23_takeNumber 7 (some .int), .constantLong RX23 44 922337203685477580, .constantLong RX23 46 10, .methodLink RX23 74 yX23_takeNumber, .instanceMethod yX23_takeNumber, .selects RX23 yX23_takeNumber yX23_takeNumber]
def wp_c_rscan : List Cond := wf_c_rscan ++ (wsX230 ++ [])
theorem in_c_rscan_X23 : ∀ w ∈ wsX230, w ∈ wp_c_rscan := fun w h => List.mem_append_right _ (List.mem_append_left _ h)
theorem wg_c_rscan : wf_c_rscan.all goodWord = true := by decide +kernel
theorem wm_c_rscan (k : Nat) {w : Cond} (h : wp_c_rscan[k]? = some w) : w ∈ wp_c_rscan := List.mem_of_getElem? h
set_option maxRecDepth 20000 in
theorem g_c_rscan_c_rblk_7 : GoodIn wp_c_rscan (wsV RX23 68 RX23 yX23_behindBlanks wp_c_rblk) := goodIn_app (goodIn_f [.methodLink RX23 68 yX23_behindBlanks, .instanceMethod yX23_behindBlanks, .selects RX23 yX23_behindBlanks yX23_behindBlanks, .initialized RX23] [10, 11, 12, 9] rfl (by decide +kernel)) (goodIn_app (goodIn_f (wf_c_rblk) [2, 3, 4, 5, 6, 7, 8, 9] rfl wg_c_rblk) (goodIn_app (goodIn_sub in_c_rscan_X23 gd_X23) (goodIn_n)))
set_option maxRecDepth 20000 in
theorem g_c_rscan_c_radd_168 : GoodIn wp_c_rscan (wsV RX23 51 RX23 yX23_addToken wp_c_radd) := goodIn_app (goodIn_f [.methodLink RX23 51 yX23_addToken, .instanceMethod yX23_addToken, .selects RX23 yX23_addToken yX23_addToken, .initialized RX23] [18, 19, 20, 9] rfl (by decide +kernel)) (goodIn_app (goodIn_f (wf_c_radd) [13, 14, 1, 15, 16, 17] rfl wg_c_radd) (goodIn_app (goodIn_sub in_c_rscan_X23 gd_X23) (goodIn_n)))
set_option maxRecDepth 20000 in
theorem g_c_rscan_c_rat_43 : GoodIn wp_c_rscan (wsV RX23 11 RX23 yX23_at wp_c_rat) := goodIn_app (goodIn_f [.methodLink RX23 11 yX23_at, .instanceMethod yX23_at, .selects RX23 yX23_at yX23_at, .initialized RX23] [6, 7, 8, 9] rfl (by decide +kernel)) (goodIn_app (goodIn_f (wf_c_rat) [3, 4, 5] rfl wg_c_rat) (goodIn_app (goodIn_sub in_c_rscan_X23 gd_X23) (goodIn_n)))
set_option maxRecDepth 20000 in
theorem g_c_rscan_c_rlif_55 : GoodIn wp_c_rscan (wsV RX23 71 RX23 yX23_takeLife wp_c_rlif) := goodIn_app (goodIn_f [.methodLink RX23 71 yX23_takeLife, .instanceMethod yX23_takeLife, .selects RX23 yX23_takeLife yX23_takeLife, .initialized RX23] [37, 38, 39, 9] rfl (by decide +kernel)) (goodIn_app (goodIn_f (wf_c_rlif) [21, 3, 4, 5, 6, 7, 8, 9, 22, 23, 24, 13, 14, 1, 15, 16, 17, 18, 19, 20, 25, 26, 27, 28, 29, 30, 31, 32, 33, 34, 35, 36] rfl wg_c_rlif) (goodIn_app (goodIn_sub in_c_rscan_X23 gd_X23) (goodIn_n)))
set_option maxRecDepth 20000 in
theorem g_c_rscan_c_rblk_150 : GoodIn wp_c_rscan (wsV RX23 68 RX23 yX23_behindBlanks wp_c_rblk) := goodIn_app (goodIn_f [.methodLink RX23 68 yX23_behindBlanks, .instanceMethod yX23_behindBlanks, .selects RX23 yX23_behindBlanks yX23_behindBlanks, .initialized RX23] [10, 11, 12, 9] rfl (by decide +kernel)) (goodIn_app (goodIn_f (wf_c_rblk) [2, 3, 4, 5, 6, 7, 8, 9] rfl wg_c_rblk) (goodIn_app (goodIn_sub in_c_rscan_X23 gd_X23) (goodIn_n)))
set_option maxRecDepth 20000 in
theorem g_c_rscan_c_rlet_63 : GoodIn wp_c_rscan (va_wsS RX23 48 yX23_isLetter wp_c_rlet) := goodIn_app (goodIn_f [.methodLink RX23 48 yX23_isLetter, .static yX23_isLetter, .initialized RX23] [23, 24, 9] rfl (by decide +kernel)) (goodIn_app (goodIn_f (wf_c_rlet) [22] rfl wg_c_rlet) (goodIn_n))
set_option maxRecDepth 20000 in
theorem g_c_rscan_c_rdig_128 : GoodIn wp_c_rscan (va_wsS RX23 40 yX23_isDigit wp_c_rdig) := goodIn_app (goodIn_f [.methodLink RX23 40 yX23_isDigit, .static yX23_isDigit, .initialized RX23] [35, 36, 9] rfl (by decide +kernel)) (goodIn_app (goodIn_f (wf_c_rdig) [34] rfl wg_c_rdig) (goodIn_n))
set_option maxRecDepth 20000 in
theorem g_c_rscan_c_rsgn_144 : GoodIn wp_c_rscan (wsV RX23 77 RX23 yX23_takeSign wp_c_rsgn) := goodIn_app (goodIn_f [.methodLink RX23 77 yX23_takeSign, .instanceMethod yX23_takeSign, .selects RX23 yX23_takeSign yX23_takeSign, .initialized RX23] [44, 45, 46, 9] rfl (by decide +kernel)) (goodIn_app (goodIn_f (wf_c_rsgn) [40, 41, 13, 14, 1, 15, 16, 17, 18, 19, 20, 9, 42, 3, 4, 5, 6, 7, 8, 43] rfl wg_c_rsgn) (goodIn_app (goodIn_sub in_c_rscan_X23 gd_X23) (goodIn_n)))
set_option maxRecDepth 20000 in
theorem g_c_rscan_c_rnum_136 : GoodIn wp_c_rscan (wsV RX23 74 RX23 yX23_takeNumber wp_c_rnum) := goodIn_app (goodIn_f [.methodLink RX23 74 yX23_takeNumber, .instanceMethod yX23_takeNumber, .selects RX23 yX23_takeNumber yX23_takeNumber, .initialized RX23] [50, 51, 52, 9] rfl (by decide +kernel)) (goodIn_app (goodIn_f (wf_c_rnum) [47, 3, 4, 5, 6, 7, 8, 9, 34, 35, 36, 22, 23, 24, 13, 14, 1, 15, 16, 17, 18, 19, 20, 48, 49] rfl wg_c_rnum) (goodIn_app (goodIn_sub in_c_rscan_X23 gd_X23) (goodIn_n)))
set_option maxRecDepth 20000 in
theorem g_c_rscan_c_rat_73 : GoodIn wp_c_rscan (wsV RX23 11 RX23 yX23_at wp_c_rat) := goodIn_app (goodIn_f [.methodLink RX23 11 yX23_at, .instanceMethod yX23_at, .selects RX23 yX23_at yX23_at, .initialized RX23] [6, 7, 8, 9] rfl (by decide +kernel)) (goodIn_app (goodIn_f (wf_c_rat) [3, 4, 5] rfl wg_c_rat) (goodIn_app (goodIn_sub in_c_rscan_X23 gd_X23) (goodIn_n)))
set_option maxRecDepth 20000 in
theorem g_c_rscan_c_rlet_76 : GoodIn wp_c_rscan (va_wsS RX23 48 yX23_isLetter wp_c_rlet) := goodIn_app (goodIn_f [.methodLink RX23 48 yX23_isLetter, .static yX23_isLetter, .initialized RX23] [23, 24, 9] rfl (by decide +kernel)) (goodIn_app (goodIn_f (wf_c_rlet) [22] rfl wg_c_rlet) (goodIn_n))
set_option maxRecDepth 20000 in
theorem g_c_rscan_c_rat_84 : GoodIn wp_c_rscan (wsV RX23 11 RX23 yX23_at wp_c_rat) := goodIn_app (goodIn_f [.methodLink RX23 11 yX23_at, .instanceMethod yX23_at, .selects RX23 yX23_at yX23_at, .initialized RX23] [6, 7, 8, 9] rfl (by decide +kernel)) (goodIn_app (goodIn_f (wf_c_rat) [3, 4, 5] rfl wg_c_rat) (goodIn_app (goodIn_sub in_c_rscan_X23 gd_X23) (goodIn_n)))
set_option maxRecDepth 20000 in
theorem g_c_rscan_c_rdig_87 : GoodIn wp_c_rscan (va_wsS RX23 40 yX23_isDigit wp_c_rdig) := goodIn_app (goodIn_f [.methodLink RX23 40 yX23_isDigit, .static yX23_isDigit, .initialized RX23] [35, 36, 9] rfl (by decide +kernel)) (goodIn_app (goodIn_f (wf_c_rdig) [34] rfl wg_c_rdig) (goodIn_n))
set_option maxRecDepth 20000 in
theorem g_c_rscan_c_rwo_115 : GoodIn wp_c_rscan (wsV RX23 64 RX23 yX23_wordOf wp_c_rwo) := goodIn_app (goodIn_f [.methodLink RX23 64 yX23_wordOf, .instanceMethod yX23_wordOf, .selects RX23 yX23_wordOf yX23_wordOf, .initialized RX23] [31, 32, 33, 9] rfl (by decide +kernel)) (goodIn_app (goodIn_f (wf_c_rwo) [25, 26, 27, 28, 29, 9, 5, 30] rfl wg_c_rwo) (goodIn_app (goodIn_sub in_c_rscan_X23 gd_X23) (goodIn_n)))
set_option maxRecDepth 20000 in
theorem g_c_rscan_c_radd_121 : GoodIn wp_c_rscan (wsV RX23 51 RX23 yX23_addToken wp_c_radd) := goodIn_app (goodIn_f [.methodLink RX23 51 yX23_addToken, .instanceMethod yX23_addToken, .selects RX23 yX23_addToken yX23_addToken, .initialized RX23] [18, 19, 20, 9] rfl (by decide +kernel)) (goodIn_app (goodIn_f (wf_c_radd) [13, 14, 1, 15, 16, 17] rfl wg_c_radd) (goodIn_app (goodIn_sub in_c_rscan_X23 gd_X23) (goodIn_n)))
set_option maxHeartbeats 4000000 in
set_option maxRecDepth 100000 in
theorem c_rscan (l : Launch) (dC : Nat → ClassId) (dI : Nat → Nat → Nat) (m9 : Nat) (mr : Nat → Nat) (mv : Nat → Int32) (vf : Value) (xl xf xa xp xi xt xn xe xv xb : Int32) (zs : Nat) (kI kL : ClassId) (ft fk fa fe : Nat → Int32) (fn : Nat → Int64) (xk : Int32) (t0 t1 t2 t3 : Nat) (sz : Nat) (hzs : zs ≤ 3000) : Met l yX23_scan wp_c_rscan ({ frames := 3, cells := 0, slots := 0, locals := 71 }) (va_Pc [.ref m9] (fun U => U.heap.size = sz ∧ va_P (dC, dI) vwCl [(m9, .inr (23, mA mr mv vf xl (nI zs) xf xa xk xp xi xt xn xe xv xb)), (mr 0, .inl (kI, 3000, .inl ft)), (mr 5, .inl (kI, 3002, .inl fk)), (mr 6, .inl (kI, 3002, .inl fa)), (mr 7, .inl (kI, 3002, .inl fe)), (mr 8, .inl (kL, 3002, .inr (.inl fn)))] U.heap ∧ va_K (dC, dI) vwCl [(kI, .int), (kL, .long)] U ∧ va_D (fun _ => True) [(m9, .inr (23, mA mr mv vf xl (nI zs) xf xa xk xp xi xt xn xe xv xb)), (mr 0, .inl (kI, 3000, .inl ft)), (mr 5, .inl (kI, 3002, .inl fk)), (mr 6, .inl (kI, 3002, .inl fa)), (mr 7, .inl (kI, 3002, .inl fe)), (mr 8, .inl (kL, 3002, .inr (.inl fn)))] ∧ stA t0 t1 t2 t3 (va_A [(m9, .inr (23, mA mr mv vf xl (nI zs) xf xa xk xp xi xt xn xe xv xb)), (mr 0, .inl (kI, 3000, .inl ft)), (mr 5, .inl (kI, 3002, .inl fk)), (mr 6, .inl (kI, 3002, .inl fa)), (mr 7, .inl (kI, 3002, .inl fe)), (mr 8, .inl (kL, 3002, .inr (.inl fn)))] sz) U U.heap)) (va_Qv (fun _ : Unit => True) (fun (_ : Unit) (tS : State) => ∃ (T : Nat) (gk : Nat → Int32) (ga : Nat → Int32) (ge : Nat → Int32) (gn : Nat → Int64), (tkF gk ga ge T zs) ∧ va_P (dC, dI) vwCl [(m9, .inr (23, mA mr mv vf xl (nI zs) xf xa (nI T) xp xi xt xn xe xv xb)), (mr 0, .inl (kI, 3000, .inl ft)), (mr 5, .inl (kI, 3002, .inl gk)), (mr 6, .inl (kI, 3002, .inl ga)), (mr 7, .inl (kI, 3002, .inl ge)), (mr 8, .inl (kL, 3002, .inr (.inl gn)))] tS.heap ∧ va_K (dC, dI) vwCl [(kI, .int), (kL, .long)] tS ∧ va_D (va_A [(m9, .inr (23, mA mr mv vf xl (nI zs) xf xa xk xp xi xt xn xe xv xb)), (mr 0, .inl (kI, 3000, .inl ft)), (mr 5, .inl (kI, 3002, .inl fk)), (mr 6, .inl (kI, 3002, .inl fa)), (mr 7, .inl (kI, 3002, .inl fe)), (mr 8, .inl (kL, 3002, .inr (.inl fn)))] sz) [(m9, .inr (23, mA mr mv vf xl (nI zs) xf xa (nI T) xp xi xt xn xe xv xb)), (mr 0, .inl (kI, 3000, .inl ft)), (mr 5, .inl (kI, 3002, .inl gk)), (mr 6, .inl (kI, 3002, .inl ga)), (mr 7, .inl (kI, 3002, .inl ge)), (mr 8, .inl (kL, 3002, .inr (.inl gn)))]) (va_A [(m9, .inr (23, mA mr mv vf xl (nI zs) xf xa xk xp xi xt xn xe xv xb)), (mr 0, .inl (kI, 3000, .inl ft)), (mr 5, .inl (kI, 3002, .inl fk)), (mr 6, .inl (kI, 3002, .inl fa)), (mr 7, .inl (kI, 3002, .inl fe)), (mr 8, .inl (kL, 3002, .inr (.inl fn)))] sz)) 0 0 (va_A [(m9, .inr (23, mA mr mv vf xl (nI zs) xf xa xk xp xi xt xn xe xv xb)), (mr 0, .inl (kI, 3000, .inl ft)), (mr 5, .inl (kI, 3002, .inl fk)), (mr 6, .inl (kI, 3002, .inl fa)), (mr 7, .inl (kI, 3002, .inl fe)), (mr 8, .inl (kL, 3002, .inr (.inl fn)))] sz) := by
  refine Met.ofW (cc := cX23_scan) (maxL := 4) (ret := none) (by decide) rfl ?_
  intro p e s m args below meth c s₁ B hml hv
  obtain ⟨rfl, hsz, hP, hK, hD0, hpre0⟩ := hv
  have hx := B.exec
  have hb := B.bytes
  have hr := B.returns
  have hts := atoms_spec (ws := wp_c_rscan) B.pre
  have hown : s.vm.findClass RX23 = some m.cls := findClass_of_methodNamed B.named
  have hlocks := B.notSynchronized
  subst hsz
  have hD := hD0.self (sz := s.heap.size)
  generalize hAe : va_A [(m9, .inr (23, mA mr mv vf xl (nI zs) xf xa xk xp xi xt xn xe xv xb)), (mr 0, .inl (kI, 3000, .inl ft)), (mr 5, .inl (kI, 3002, .inl fk)), (mr 6, .inl (kI, 3002, .inl fa)), (mr 7, .inl (kI, 3002, .inl fe)), (mr 8, .inl (kL, 3002, .inr (.inl fn)))] s.heap.size = A at hD hpre0 ⊢
  have hA : ∀ q : Nat, s.heap.size ≤ q → A q := fun q h => by rw [← hAe]; exact Or.inr h
  have hS : va_S A s.heap s.heap [] := va_S.rf
  have hP : va_P (dC, dI) vwCl [(m9, .inr (23, mA mr mv vf xl (nI zs) xf xa xk xp xi xt xn xe xv xb)), (mr 0, .inl (kI, 3000, .inl ft)), (mr 5, .inl (kI, 3002, .inl fk)), (mr 6, .inl (kI, 3002, .inl fa)), (mr 7, .inl (kI, 3002, .inl fe)), (mr 8, .inl (kL, 3002, .inr (.inl fn)))] s.heap := hP
  have hl := lv_entry ([.ref m9]) (n := 4) (Nat.le_of_ble_eq_true rfl)
  rw [lg_entry_eq]
  generalize (lg_sl ([.ref m9]) ++ List.replicate (4 - (lg_sl ([.ref m9])).length) Slot.unset).toArray = ls at hl ⊢
  have hl : lv_has ls 4 [(0, .ref m9)] := hl
  refine lv_aload_n hx hb dX23_scan_0 rfl (lv_at hl 0 rfl) ?_
  refine lv_iconst (v := 0) hx hb dX23_scan_1 (by decide) ?_
  refine va_put (D := (dC, dI)) (ci := 23) (v := .int 0) (ty := .int) (C := RX23) (T := TX23) (N := 89) hx hb hts in_c_rscan_X23 tyX23 tyX23_ok nmX23 hown hK hP hD hS 0 rfl rfl 9 (by decide) (hts (.fieldLink RX23 28 "OwnedPlacesModel" "tokens" "I") (wm_c_rscan 1 rfl)) (fun _ h9 => h9) rfl (by decide +kernel) rfl rfl (Nat.le_of_ble_eq_true rfl) dX23_scan_2 (fun H locs hP hD hS => ?_)
  have hP : va_P (dC, dI) vwCl [(m9, .inr (23, mA mr mv vf xl (nI zs) xf xa 0 xp xi xt xn xe xv xb)), (mr 0, .inl (kI, 3000, .inl ft)), (mr 5, .inl (kI, 3002, .inl fk)), (mr 6, .inl (kI, 3002, .inl fa)), (mr 7, .inl (kI, 3002, .inl fe)), (mr 8, .inl (kL, 3002, .inr (.inl fn)))] H := hP
  have hD : va_D A [(m9, .inr (23, mA mr mv vf xl (nI zs) xf xa 0 xp xi xt xn xe xv xb)), (mr 0, .inl (kI, 3000, .inl ft)), (mr 5, .inl (kI, 3002, .inl fk)), (mr 6, .inl (kI, 3002, .inl fa)), (mr 7, .inl (kI, 3002, .inl fe)), (mr 8, .inl (kL, 3002, .inr (.inl fn)))] := hD
  refine lv_aload_n hx hb dX23_scan_5 rfl (lv_at hl 0 rfl) ?_
  refine lv_iconst (v := 0) hx hb dX23_scan_6 (by decide) ?_
  have hPc := hP.sub (ws' := [(m9, .inr (23, mA mr mv vf xl (nI zs) xf xa (nI 0) xp xi xt xn xe xv xb)), (mr 0, .inl (kI, 3000, .inl ft))]) [0, 1] rfl
  have hDc := hD.sub (ws' := [(m9, .inr (23, mA mr mv vf xl (nI zs) xf xa (nI 0) xp xi xt xn xe xv xb)), (mr 0, .inl (kI, 3000, .inl ft))]) [0, 1] (by decide) rfl
  have hKc := hK.sub (tys' := [(kI, .int)]) [0] rfl
  have hFc := va_free (wc := [(m9, .inr (23, mA mr mv vf xl (nI zs) xf xa (nI 0) xp xi xt xn xe xv xb)), (mr 0, .inl (kI, 3000, .inl ft))]) hD hS hA [0, 1] rfl
  refine va_calli (va_runV (As := [.int (nI 0)]) (rest := []) ⟨hx, hb, hml, hown, hts⟩ (c_rblk l dC dI m9 mr mv vf xl xf xa xp xi xt xn xe xv xb zs 0 0 kI ft H.size hzs (by omega)) (cwV 1 hts g_c_rscan_c_rblk_7 rfl rfl rfl (by decide +kernel) ⟨Nat.le_of_ble_eq_true rfl, Nat.le_of_ble_eq_true rfl⟩) ⟨fun a U g mk q => by obtain ⟨q0, q1, qP, qK, qD⟩ := q; exact ⟨q0, q1, qP, va_K.moved (u := U) (U := U.calling g mk a) (Vm.Alike.refl U.vm) qK, qD⟩, va_recv hKc hPc (ci := 23) (q0 := 0) rfl rfl, fun U hU hW => ⟨rfl, by rw [hU], by rw [hU]; exact hPc, va_K.moved hW.alike hKc, hDc.weaken (fun _ _ _ _ => trivial)⟩⟩ rfl rfl hl.1 rfl (lv_room (Nat.le_of_ble_eq_true rfl)) dX23_scan_7 ⟨(show 0 + 0 ≤ 0 by omega), (show 0 + 0 ≤ 0 by omega)⟩) hS (fun q _ h => hFc q h) hFc (fun r_1 u tS H1 locs ht hvm hw hB hz1 hk1 hS => ?_)
  obtain ⟨hP1, hK1, hD1⟩ := hB
  rw [ht] at hP1
  have hK1 := va_K.moved hvm.symm hK1
  obtain ⟨hP, hD⟩ := va_join (wr := [(mr 5, .inl (kI, 3002, .inl fk)), (mr 6, .inl (kI, 3002, .inl fa)), (mr 7, .inl (kI, 3002, .inl fe)), (mr 8, .inl (kL, 3002, .inr (.inl fn)))]) (w1 := [(m9, .inr (23, mA mr mv vf xl (nI zs) xf xa (nI 0) xp xi xt xn xe xv xb)), (mr 0, .inl (kI, 3000, .inl ft))]) hP hD [0, 1] [2, 3, 4, 5] rfl rfl (by decide) (by decide) hk1 hFc hP1 hD1
  have hK := hK.app hK1
  generalize H1 = H at hP hS ⊢
  have hP : va_P (dC, dI) vwCl [(mr 5, .inl (kI, 3002, .inl fk)), (mr 6, .inl (kI, 3002, .inl fa)), (mr 7, .inl (kI, 3002, .inl fe)), (mr 8, .inl (kL, 3002, .inr (.inl fn))), (m9, .inr (23, mA mr mv vf xl (nI zs) xf xa (nI 0) xp xi xt xn xe xv xb)), (mr 0, .inl (kI, 3000, .inl ft))] H := hP
  have hD : va_D A [(mr 5, .inl (kI, 3002, .inl fk)), (mr 6, .inl (kI, 3002, .inl fa)), (mr 7, .inl (kI, 3002, .inl fe)), (mr 8, .inl (kL, 3002, .inr (.inl fn))), (m9, .inr (23, mA mr mv vf xl (nI zs) xf xa (nI 0) xp xi xt xn xe xv xb)), (mr 0, .inl (kI, 3000, .inl ft))] := hD
  have hK : va_K (dC, dI) vwCl [(kI, .int), (kL, .long), (kI, .int)] s := hK
  have hK := hK.sub (tys' := [(kI, .int), (kL, .long)]) [0, 1] rfl
  have hP : va_P (dC, dI) vwCl [(mr 5, .inl (kI, 3002, .inl fk)), (mr 6, .inl (kI, 3002, .inl fa)), (mr 7, .inl (kI, 3002, .inl fe)), (mr 8, .inl (kL, 3002, .inr (.inl fn))), (m9, .inr (23, mA mr mv vf xl (nI zs) xf xa (nI 0) xp xi xt xn xe xv xb)), (mr 0, .inl (kI, 3000, .inl ft))] H := hP
  have hD : va_D A [(mr 5, .inl (kI, 3002, .inl fk)), (mr 6, .inl (kI, 3002, .inl fa)), (mr 7, .inl (kI, 3002, .inl fe)), (mr 8, .inl (kL, 3002, .inr (.inl fn))), (m9, .inr (23, mA mr mv vf xl (nI zs) xf xa (nI 0) xp xi xt xn xe xv xb)), (mr 0, .inl (kI, 3000, .inl ft))] := hD
  obtain ⟨i1, hi1, hi2, hi3⟩ := hw
  subst hi1
  refine lv_istore_n (lv' := [(1, .int (nI i1)), (0, .ref m9)]) hx hb dX23_scan_10 rfl hl (by decide) rfl (fun ls hl => ?_)
  refine W_q (fun Q1 hQ1 => ?_)
  have key1 : ∀ (n1 : Nat) (i tk : Nat) (fk1 fa1 fe1 : Nat → Int32) (fn1 : Nat → Int64) (H : Heap) (locs : List Loc) (ls : Array Slot), (zs + 1 ≤ i + n1 ∧ i ≤ zs ∧ tk ≤ i) → (tkR fk1 fa1 fe1 tk i) → va_P (dC, dI) vwCl [(m9, .inr (23, mA mr mv vf xl (nI zs) xf xa (nI tk) xp xi xt xn xe xv xb)), (mr 0, .inl (kI, 3000, .inl ft)), (mr 5, .inl (kI, 3002, .inl fk1)), (mr 6, .inl (kI, 3002, .inl fa1)), (mr 7, .inl (kI, 3002, .inl fe1)), (mr 8, .inl (kL, 3002, .inr (.inl fn1)))] H → va_D A [(m9, .inr (23, mA mr mv vf xl (nI zs) xf xa (nI tk) xp xi xt xn xe xv xb)), (mr 0, .inl (kI, 3000, .inl ft)), (mr 5, .inl (kI, 3002, .inl fk1)), (mr 6, .inl (kI, 3002, .inl fa1)), (mr 7, .inl (kI, 3002, .inl fe1)), (mr 8, .inl (kL, 3002, .inr (.inl fn1)))] → va_S A s.heap H locs → lv_has ls 4 [(1, .int (nI i)), (0, .ref m9)] → W p l e (headSpec wp_c_rscan ({ frames := 3, cells := 0, slots := 0, locals := 71 })).room s m ([.ref m9] : List Value).toArray below meth c H locs 0 0 Q1 (F0 m 11 ls []) := by
    intro n1
    induction n1 with
    | zero => intro i tk fk1 fa1 fe1 fn1 H locs ls ha0 ha1; exact absurd ha0 (by omega)
    | succ n1 ih1 =>
      intro i tk fk1 fa1 fe1 fn1 H locs ls ha0 ha1 hP hD hS hl
      refine lv_iload_n hx hb dX23_scan_11 rfl (lv_at hl 0 rfl) ?_
      refine lv_aload_n hx hb dX23_scan_12 rfl (lv_at hl 1 rfl) ?_
      refine va_get (D := (dC, dI)) (ci := 23) (v := .int (nI zs)) (C := RX23) (T := TX23) (N := 89) hx hb hts in_c_rscan_X23 hown hK hP 0 rfl rfl 2 (by decide) (hts (.fieldLink RX23 1 "OwnedPlacesModel" "size" "I") (wm_c_rscan 4 rfl)) (fun _ h9 => h9) rfl dX23_scan_13 ?_
      refine lv_icmp_ge (tgt := 157) hx hb dX23_scan_16 (by decide) (fun hc => ?_) (fun hc => ?_)
      · refine lv_aload_n hx hb dX23_scan_157 rfl (lv_at hl 1 rfl) ?_
        refine lv_iconst (v := 0) hx hb dX23_scan_158 (by decide) ?_
        refine lv_aload_n hx hb dX23_scan_159 rfl (lv_at hl 1 rfl) ?_
        refine va_get (D := (dC, dI)) (ci := 23) (v := .int (nI zs)) (C := RX23) (T := TX23) (N := 89) hx hb hts in_c_rscan_X23 hown hK hP 0 rfl rfl 2 (by decide) (hts (.fieldLink RX23 1 "OwnedPlacesModel" "size" "I") (wm_c_rscan 4 rfl)) (fun _ h9 => h9) rfl dX23_scan_160 ?_
        refine lv_aload_n hx hb dX23_scan_163 rfl (lv_at hl 1 rfl) ?_
        refine va_get (D := (dC, dI)) (ci := 23) (v := .int (nI zs)) (C := RX23) (T := TX23) (N := 89) hx hb hts in_c_rscan_X23 hown hK hP 0 rfl rfl 2 (by decide) (hts (.fieldLink RX23 1 "OwnedPlacesModel" "size" "I") (wm_c_rscan 4 rfl)) (fun _ h9 => h9) rfl dX23_scan_164 ?_
        refine lv_lconst (v := 0) hx hb dX23_scan_167 (by decide) ?_
        have hPc := hP.sub (ws' := [(m9, .inr (23, mA mr mv vf xl (nI zs) xf xa (nI tk) xp xi xt xn xe xv xb)), (mr 5, .inl (kI, 3002, .inl fk1)), (mr 6, .inl (kI, 3002, .inl fa1)), (mr 7, .inl (kI, 3002, .inl fe1)), (mr 8, .inl (kL, 3002, .inr (.inl fn1)))]) [0, 2, 3, 4, 5] rfl
        have hDc := hD.sub (ws' := [(m9, .inr (23, mA mr mv vf xl (nI zs) xf xa (nI tk) xp xi xt xn xe xv xb)), (mr 5, .inl (kI, 3002, .inl fk1)), (mr 6, .inl (kI, 3002, .inl fa1)), (mr 7, .inl (kI, 3002, .inl fe1)), (mr 8, .inl (kL, 3002, .inr (.inl fn1)))]) [0, 2, 3, 4, 5] (by decide) rfl
        have hKc := hK.sub (tys' := [(kI, .int), (kL, .long)]) [0, 1] rfl
        have hFc := va_free (wc := [(m9, .inr (23, mA mr mv vf xl (nI zs) xf xa (nI tk) xp xi xt xn xe xv xb)), (mr 5, .inl (kI, 3002, .inl fk1)), (mr 6, .inl (kI, 3002, .inl fa1)), (mr 7, .inl (kI, 3002, .inl fe1)), (mr 8, .inl (kL, 3002, .inr (.inl fn1)))]) hD hS hA [0, 2, 3, 4, 5] rfl
        refine va_callv (va_runV (As := [.int 0, .int (nI zs), .int (nI zs), .long 0]) (rest := []) ⟨hx, hb, hml, hown, hts⟩ (c_radd l dC dI m9 mr mv vf xl xf xa xp xi xt xn xe xv xb zs tk kI kL ft fk1 fa1 fe1 fn1 0 (nI zs) (nI zs) 0 H.size (by omega)) (cwV 4 hts g_c_rscan_c_radd_168 rfl rfl rfl (by decide +kernel) ⟨Nat.le_of_ble_eq_true rfl, Nat.le_of_ble_eq_true rfl⟩) ⟨fun a U g mk q => by obtain ⟨q0, q1, qP, qK, qD⟩ := q; exact ⟨q0, q1, qP, va_K.moved (u := U) (U := U.calling g mk a) (Vm.Alike.refl U.vm) qK, qD⟩, va_recv hKc hPc (ci := 23) (q0 := 0) rfl rfl, fun U hU hW => ⟨rfl, by rw [hU], by rw [hU]; exact hPc, va_K.moved hW.alike hKc, hDc.weaken (fun _ _ _ _ => trivial)⟩⟩ rfl rfl hl.1 rfl (lv_room (Nat.le_of_ble_eq_true rfl)) dX23_scan_168 ⟨(show 0 + 0 ≤ 0 by omega), (show 0 + 0 ≤ 0 by omega)⟩) hS (fun q _ h => hFc q h) hFc (fun u tS H1 locs ht hvm hw hB hz1 hk1 hS => ?_)
        obtain ⟨gn9, hP1, hK1, hD1⟩ := hB
        rw [ht] at hP1
        have hK1 := va_K.moved hvm.symm hK1
        obtain ⟨hP, hD⟩ := va_join (wr := [(mr 0, .inl (kI, 3000, .inl ft))]) (w1 := [(m9, .inr (23, mA mr mv vf xl (nI zs) xf xa (nI (tk + 1)) xp xi xt xn xe xv xb)), (mr 5, .inl (kI, 3002, .inl (upd fk1 tk 0))), (mr 6, .inl (kI, 3002, .inl (upd fa1 tk (nI zs)))), (mr 7, .inl (kI, 3002, .inl (upd fe1 tk (nI zs)))), (mr 8, .inl (kL, 3002, .inr (.inl gn9)))]) hP hD [0, 2, 3, 4, 5] [1] rfl rfl (by decide) (by decide) hk1 hFc hP1 hD1
        have hK := hK.app hK1
        generalize H1 = H at hP hS ⊢
        have hP : va_P (dC, dI) vwCl [(mr 0, .inl (kI, 3000, .inl ft)), (m9, .inr (23, mA mr mv vf xl (nI zs) xf xa (nI (tk + 1)) xp xi xt xn xe xv xb)), (mr 5, .inl (kI, 3002, .inl (upd fk1 tk 0))), (mr 6, .inl (kI, 3002, .inl (upd fa1 tk (nI zs)))), (mr 7, .inl (kI, 3002, .inl (upd fe1 tk (nI zs)))), (mr 8, .inl (kL, 3002, .inr (.inl gn9)))] H := hP
        have hD : va_D A [(mr 0, .inl (kI, 3000, .inl ft)), (m9, .inr (23, mA mr mv vf xl (nI zs) xf xa (nI (tk + 1)) xp xi xt xn xe xv xb)), (mr 5, .inl (kI, 3002, .inl (upd fk1 tk 0))), (mr 6, .inl (kI, 3002, .inl (upd fa1 tk (nI zs)))), (mr 7, .inl (kI, 3002, .inl (upd fe1 tk (nI zs)))), (mr 8, .inl (kL, 3002, .inr (.inl gn9)))] := hD
        have hK : va_K (dC, dI) vwCl [(kI, .int), (kL, .long), (kI, .int), (kL, .long)] s := hK
        have hK := hK.sub (tys' := [(kI, .int), (kL, .long)]) [0, 1] rfl
        have hP : va_P (dC, dI) vwCl [(mr 0, .inl (kI, 3000, .inl ft)), (m9, .inr (23, mA mr mv vf xl (nI zs) xf xa (nI (tk + 1)) xp xi xt xn xe xv xb)), (mr 5, .inl (kI, 3002, .inl (upd fk1 tk 0))), (mr 6, .inl (kI, 3002, .inl (upd fa1 tk (nI zs)))), (mr 7, .inl (kI, 3002, .inl (upd fe1 tk (nI zs)))), (mr 8, .inl (kL, 3002, .inr (.inl gn9)))] H := hP
        have hD : va_D A [(mr 0, .inl (kI, 3000, .inl ft)), (m9, .inr (23, mA mr mv vf xl (nI zs) xf xa (nI (tk + 1)) xp xi xt xn xe xv xb)), (mr 5, .inl (kI, 3002, .inl (upd fk1 tk 0))), (mr 6, .inl (kI, 3002, .inl (upd fa1 tk (nI zs)))), (mr 7, .inl (kI, 3002, .inl (upd fe1 tk (nI zs)))), (mr 8, .inl (kL, 3002, .inr (.inl gn9)))] := hD
        have hP9 := hP.sub (ws' := [(m9, .inr (23, mA mr mv vf xl (nI zs) xf xa (nI (tk + 1)) xp xi xt xn xe xv xb)), (mr 0, .inl (kI, 3000, .inl ft)), (mr 5, .inl (kI, 3002, .inl (upd fk1 tk 0))), (mr 6, .inl (kI, 3002, .inl (upd fa1 tk (nI zs)))), (mr 7, .inl (kI, 3002, .inl (upd fe1 tk (nI zs)))), (mr 8, .inl (kL, 3002, .inr (.inl gn9)))]) [1, 0, 2, 3, 4, 5] rfl
        have hD9 := hD.sub (ws' := [(m9, .inr (23, mA mr mv vf xl (nI zs) xf xa (nI (tk + 1)) xp xi xt xn xe xv xb)), (mr 0, .inl (kI, 3000, .inl ft)), (mr 5, .inl (kI, 3002, .inl (upd fk1 tk 0))), (mr 6, .inl (kI, 3002, .inl (upd fa1 tk (nI zs)))), (mr 7, .inl (kI, 3002, .inl (upd fe1 tk (nI zs)))), (mr 8, .inl (kL, 3002, .inr (.inl gn9)))]) [1, 0, 2, 3, 4, 5] (by decide) rfl
        have hK9 := hK.sub (tys' := [(kI, .int), (kL, .long)]) [0, 1] rfl
        subst hQ1
        exact W.vret hx hb hr (fun tS ht hW => ⟨⟨(), rfl, trivial, tk + 1, (upd fk1 tk 0), (upd fa1 tk (nI zs)), (upd fe1 tk (nI zs)), gn9, tkF_of ha1 (by omega) (by omega), by rw [ht]; exact hP9, va_K.moved hW.alike hK9, hD9⟩, hS.F ht⟩) hS.2.2 dX23_scan_171
      · have hisz : i < zs := by rcases Nat.lt_or_ge i zs with z9 | z9; exact z9; exact absurd (nI_le z9 (by omega)) hc
        refine lv_aload_n hx hb dX23_scan_19 rfl (lv_at hl 1 rfl) ?_
        refine va_get (D := (dC, dI)) (ci := 23) (v := .int (nI tk)) (C := RX23) (T := TX23) (N := 89) hx hb hts in_c_rscan_X23 hown hK hP 0 rfl rfl 9 (by decide) (hts (.fieldLink RX23 28 "OwnedPlacesModel" "tokens" "I") (wm_c_rscan 1 rfl)) (fun _ h9 => h9) rfl dX23_scan_20 ?_
        refine lv_if_eq (tgt := 41) hx hb dX23_scan_23 (by decide) (fun hz0 => ?_) (fun hz0 => ?_)
        · refine lv_aload_n hx hb dX23_scan_41 rfl (lv_at hl 1 rfl) ?_
          refine lv_iload_n hx hb dX23_scan_42 rfl (lv_at hl 0 rfl) ?_
          have hPc := hP.sub (ws' := [(m9, .inr (23, mA mr mv vf xl (nI zs) xf xa (nI tk) xp xi xt xn xe xv xb)), (mr 0, .inl (kI, 3000, .inl ft))]) [0, 1] rfl
          have hDc := hD.sub (ws' := [(m9, .inr (23, mA mr mv vf xl (nI zs) xf xa (nI tk) xp xi xt xn xe xv xb)), (mr 0, .inl (kI, 3000, .inl ft))]) [0, 1] (by decide) rfl
          have hKc := hK.sub (tys' := [(kI, .int)]) [0] rfl
          have hFc := va_free (wc := [(m9, .inr (23, mA mr mv vf xl (nI zs) xf xa (nI tk) xp xi xt xn xe xv xb)), (mr 0, .inl (kI, 3000, .inl ft))]) hD hS hA [0, 1] rfl
          refine va_calli (va_runV (As := [.int (nI i)]) (rest := []) ⟨hx, hb, hml, hown, hts⟩ (c_rat l dC dI m9 mr mv vf xl xf xa xp xi xt xn xe xv xb zs tk i kI ft H.size hzs (by omega)) (cwV 1 hts g_c_rscan_c_rat_43 rfl rfl rfl (by decide +kernel) ⟨Nat.le_of_ble_eq_true rfl, Nat.le_of_ble_eq_true rfl⟩) ⟨fun a U g mk q => by obtain ⟨q0, q1, qP, qK, qD⟩ := q; exact ⟨q0, q1, qP, va_K.moved (u := U) (U := U.calling g mk a) (Vm.Alike.refl U.vm) qK, qD⟩, va_recv hKc hPc (ci := 23) (q0 := 0) rfl rfl, fun U hU hW => ⟨rfl, by rw [hU], by rw [hU]; exact hPc, va_K.moved hW.alike hKc, hDc.weaken (fun _ _ _ _ => trivial)⟩⟩ rfl rfl hl.1 rfl (lv_room (Nat.le_of_ble_eq_true rfl)) dX23_scan_43 ⟨(show 0 + 0 ≤ 0 by omega), (show 0 + 0 ≤ 0 by omega)⟩) hS (fun q _ h => hFc q h) hFc (fun r_2 u tS H1 locs ht hvm hw hB hz1 hk1 hS => ?_)
          obtain ⟨hP1, hK1, hD1⟩ := hB
          rw [ht] at hP1
          have hK1 := va_K.moved hvm.symm hK1
          obtain ⟨hP, hD⟩ := va_join (wr := [(mr 5, .inl (kI, 3002, .inl fk1)), (mr 6, .inl (kI, 3002, .inl fa1)), (mr 7, .inl (kI, 3002, .inl fe1)), (mr 8, .inl (kL, 3002, .inr (.inl fn1)))]) (w1 := [(m9, .inr (23, mA mr mv vf xl (nI zs) xf xa (nI tk) xp xi xt xn xe xv xb)), (mr 0, .inl (kI, 3000, .inl ft))]) hP hD [0, 1] [2, 3, 4, 5] rfl rfl (by decide) (by decide) hk1 hFc hP1 hD1
          have hK := hK.app hK1
          generalize H1 = H at hP hS ⊢
          have hP : va_P (dC, dI) vwCl [(mr 5, .inl (kI, 3002, .inl fk1)), (mr 6, .inl (kI, 3002, .inl fa1)), (mr 7, .inl (kI, 3002, .inl fe1)), (mr 8, .inl (kL, 3002, .inr (.inl fn1))), (m9, .inr (23, mA mr mv vf xl (nI zs) xf xa (nI tk) xp xi xt xn xe xv xb)), (mr 0, .inl (kI, 3000, .inl ft))] H := hP
          have hD : va_D A [(mr 5, .inl (kI, 3002, .inl fk1)), (mr 6, .inl (kI, 3002, .inl fa1)), (mr 7, .inl (kI, 3002, .inl fe1)), (mr 8, .inl (kL, 3002, .inr (.inl fn1))), (m9, .inr (23, mA mr mv vf xl (nI zs) xf xa (nI tk) xp xi xt xn xe xv xb)), (mr 0, .inl (kI, 3000, .inl ft))] := hD
          have hK : va_K (dC, dI) vwCl [(kI, .int), (kL, .long), (kI, .int)] s := hK
          have hK := hK.sub (tys' := [(kI, .int), (kL, .long)]) [0, 1] rfl
          have hP : va_P (dC, dI) vwCl [(mr 5, .inl (kI, 3002, .inl fk1)), (mr 6, .inl (kI, 3002, .inl fa1)), (mr 7, .inl (kI, 3002, .inl fe1)), (mr 8, .inl (kL, 3002, .inr (.inl fn1))), (m9, .inr (23, mA mr mv vf xl (nI zs) xf xa (nI tk) xp xi xt xn xe xv xb)), (mr 0, .inl (kI, 3000, .inl ft))] H := hP
          have hD : va_D A [(mr 5, .inl (kI, 3002, .inl fk1)), (mr 6, .inl (kI, 3002, .inl fa1)), (mr 7, .inl (kI, 3002, .inl fe1)), (mr 8, .inl (kL, 3002, .inr (.inl fn1))), (m9, .inr (23, mA mr mv vf xl (nI zs) xf xa (nI tk) xp xi xt xn xe xv xb)), (mr 0, .inl (kI, 3000, .inl ft))] := hD
          have hr_2 : r_2 = atF ft zs (i) := hw
          refine lv_istore_n (lv' := [(2, .int r_2), (1, .int (nI i)), (0, .ref m9)]) hx hb dX23_scan_46 rfl hl (by decide) rfl (fun ls hl => ?_)
          refine lv_iload_n hx hb dX23_scan_47 rfl (lv_at hl 0 rfl) ?_
          refine lv_bipush (v := 39) hx hb dX23_scan_48 (by decide) ?_
          refine lv_icmp_ne (tgt := 62) hx hb dX23_scan_50 (by decide) (fun h39 => ?_) (fun h39 => ?_)
          · refine lv_iload_n hx hb dX23_scan_62 rfl (lv_at hl 0 rfl) ?_
            have hPc := hP.sub (ws' := []) [] rfl
            have hDc := hD.sub (ws' := []) [] (by decide) rfl
            have hKc := hK.sub (tys' := []) [] rfl
            have hFc := va_free (wc := []) hD hS hA [] rfl
            refine va_calli (va_runS (As := [.int r_2]) (rest := []) ⟨hx, hb, hml, hown, hts⟩ (c_rlet l dC dI r_2 H.size) (va_cwS 1 hts g_c_rscan_c_rlet_63 rfl rfl rfl (by decide +kernel) ⟨Nat.le_of_ble_eq_true rfl, Nat.le_of_ble_eq_true rfl⟩) ⟨fun a U g mk q => by obtain ⟨q0, q1, qP, qK, qD⟩ := q; exact ⟨q0, q1, qP, va_K.moved (u := U) (U := U.calling g mk a) (Vm.Alike.refl U.vm) qK, qD⟩, fun U hU hW => ⟨rfl, by rw [hU], by rw [hU]; exact hPc, va_K.moved hW.alike hKc, hDc.weaken (fun _ _ _ _ => trivial)⟩⟩ rfl rfl hl.1 rfl (lv_room (Nat.le_of_ble_eq_true rfl)) dX23_scan_63 ⟨(show 0 + 0 ≤ 0 by omega), (show 0 + 0 ≤ 0 by omega)⟩) hS (fun q _ h => hFc q h) hFc (fun r_3 u tS H1 locs ht hvm hw hB hz1 hk1 hS => ?_)
            obtain ⟨hP1, hK1, hD1⟩ := hB
            rw [ht] at hP1
            have hK1 := va_K.moved hvm.symm hK1
            obtain ⟨hP, hD⟩ := va_join (wr := [(mr 5, .inl (kI, 3002, .inl fk1)), (mr 6, .inl (kI, 3002, .inl fa1)), (mr 7, .inl (kI, 3002, .inl fe1)), (mr 8, .inl (kL, 3002, .inr (.inl fn1))), (m9, .inr (23, mA mr mv vf xl (nI zs) xf xa (nI tk) xp xi xt xn xe xv xb)), (mr 0, .inl (kI, 3000, .inl ft))]) (w1 := []) hP hD [] [0, 1, 2, 3, 4, 5] rfl rfl (by decide) (by decide) hk1 hFc hP1 hD1
            generalize H1 = H at hP hS ⊢
            have hP : va_P (dC, dI) vwCl [(mr 5, .inl (kI, 3002, .inl fk1)), (mr 6, .inl (kI, 3002, .inl fa1)), (mr 7, .inl (kI, 3002, .inl fe1)), (mr 8, .inl (kL, 3002, .inr (.inl fn1))), (m9, .inr (23, mA mr mv vf xl (nI zs) xf xa (nI tk) xp xi xt xn xe xv xb)), (mr 0, .inl (kI, 3000, .inl ft))] H := hP
            have hD : va_D A [(mr 5, .inl (kI, 3002, .inl fk1)), (mr 6, .inl (kI, 3002, .inl fa1)), (mr 7, .inl (kI, 3002, .inl fe1)), (mr 8, .inl (kL, 3002, .inr (.inl fn1))), (m9, .inr (23, mA mr mv vf xl (nI zs) xf xa (nI tk) xp xi xt xn xe xv xb)), (mr 0, .inl (kI, 3000, .inl ft))] := hD
            have hK : va_K (dC, dI) vwCl [(kI, .int), (kL, .long)] s := hK
            have hr_3 : r_3 = letF r_2 := hw.2
            refine lv_if_eq (tgt := 127) hx hb dX23_scan_66 (by decide) (fun hlt0 => ?_) (fun hlt0 => ?_)
            · refine lv_iload_n hx hb dX23_scan_127 rfl (lv_at hl 0 rfl) ?_
              have hPc := hP.sub (ws' := []) [] rfl
              have hDc := hD.sub (ws' := []) [] (by decide) rfl
              have hKc := hK.sub (tys' := []) [] rfl
              have hFc := va_free (wc := []) hD hS hA [] rfl
              refine va_calli (va_runS (As := [.int r_2]) (rest := []) ⟨hx, hb, hml, hown, hts⟩ (c_rdig l dC dI r_2 H.size) (va_cwS 1 hts g_c_rscan_c_rdig_128 rfl rfl rfl (by decide +kernel) ⟨Nat.le_of_ble_eq_true rfl, Nat.le_of_ble_eq_true rfl⟩) ⟨fun a U g mk q => by obtain ⟨q0, q1, qP, qK, qD⟩ := q; exact ⟨q0, q1, qP, va_K.moved (u := U) (U := U.calling g mk a) (Vm.Alike.refl U.vm) qK, qD⟩, fun U hU hW => ⟨rfl, by rw [hU], by rw [hU]; exact hPc, va_K.moved hW.alike hKc, hDc.weaken (fun _ _ _ _ => trivial)⟩⟩ rfl rfl hl.1 rfl (lv_room (Nat.le_of_ble_eq_true rfl)) dX23_scan_128 ⟨(show 0 + 0 ≤ 0 by omega), (show 0 + 0 ≤ 0 by omega)⟩) hS (fun q _ h => hFc q h) hFc (fun r_4 u tS H1 locs ht hvm hw hB hz1 hk1 hS => ?_)
              obtain ⟨hP1, hK1, hD1⟩ := hB
              rw [ht] at hP1
              have hK1 := va_K.moved hvm.symm hK1
              obtain ⟨hP, hD⟩ := va_join (wr := [(mr 5, .inl (kI, 3002, .inl fk1)), (mr 6, .inl (kI, 3002, .inl fa1)), (mr 7, .inl (kI, 3002, .inl fe1)), (mr 8, .inl (kL, 3002, .inr (.inl fn1))), (m9, .inr (23, mA mr mv vf xl (nI zs) xf xa (nI tk) xp xi xt xn xe xv xb)), (mr 0, .inl (kI, 3000, .inl ft))]) (w1 := []) hP hD [] [0, 1, 2, 3, 4, 5] rfl rfl (by decide) (by decide) hk1 hFc hP1 hD1
              generalize H1 = H at hP hS ⊢
              have hP : va_P (dC, dI) vwCl [(mr 5, .inl (kI, 3002, .inl fk1)), (mr 6, .inl (kI, 3002, .inl fa1)), (mr 7, .inl (kI, 3002, .inl fe1)), (mr 8, .inl (kL, 3002, .inr (.inl fn1))), (m9, .inr (23, mA mr mv vf xl (nI zs) xf xa (nI tk) xp xi xt xn xe xv xb)), (mr 0, .inl (kI, 3000, .inl ft))] H := hP
              have hD : va_D A [(mr 5, .inl (kI, 3002, .inl fk1)), (mr 6, .inl (kI, 3002, .inl fa1)), (mr 7, .inl (kI, 3002, .inl fe1)), (mr 8, .inl (kL, 3002, .inr (.inl fn1))), (m9, .inr (23, mA mr mv vf xl (nI zs) xf xa (nI tk) xp xi xt xn xe xv xb)), (mr 0, .inl (kI, 3000, .inl ft))] := hD
              have hK : va_K (dC, dI) vwCl [(kI, .int), (kL, .long)] s := hK
              have hr_4 : r_4 = digF r_2 := hw.2
              refine lv_if_eq (tgt := 142) hx hb dX23_scan_131 (by decide) (fun hdg0 => ?_) (fun hdg0 => ?_)
              · refine lv_aload_n hx hb dX23_scan_142 rfl (lv_at hl 2 rfl) ?_
                refine lv_iload_n hx hb dX23_scan_143 rfl (lv_at hl 1 rfl) ?_
                have hPc := hP.sub (ws' := [(m9, .inr (23, mA mr mv vf xl (nI zs) xf xa (nI tk) xp xi xt xn xe xv xb)), (mr 0, .inl (kI, 3000, .inl ft)), (mr 5, .inl (kI, 3002, .inl fk1)), (mr 6, .inl (kI, 3002, .inl fa1)), (mr 7, .inl (kI, 3002, .inl fe1)), (mr 8, .inl (kL, 3002, .inr (.inl fn1)))]) [4, 5, 0, 1, 2, 3] rfl
                have hDc := hD.sub (ws' := [(m9, .inr (23, mA mr mv vf xl (nI zs) xf xa (nI tk) xp xi xt xn xe xv xb)), (mr 0, .inl (kI, 3000, .inl ft)), (mr 5, .inl (kI, 3002, .inl fk1)), (mr 6, .inl (kI, 3002, .inl fa1)), (mr 7, .inl (kI, 3002, .inl fe1)), (mr 8, .inl (kL, 3002, .inr (.inl fn1)))]) [4, 5, 0, 1, 2, 3] (by decide) rfl
                have hKc := hK.sub (tys' := [(kI, .int), (kL, .long)]) [0, 1] rfl
                have hFc := va_free (wc := [(m9, .inr (23, mA mr mv vf xl (nI zs) xf xa (nI tk) xp xi xt xn xe xv xb)), (mr 0, .inl (kI, 3000, .inl ft)), (mr 5, .inl (kI, 3002, .inl fk1)), (mr 6, .inl (kI, 3002, .inl fa1)), (mr 7, .inl (kI, 3002, .inl fe1)), (mr 8, .inl (kL, 3002, .inr (.inl fn1)))]) hD hS hA [4, 5, 0, 1, 2, 3] rfl
                refine va_calli (va_runV (As := [.int (nI i)]) (rest := []) ⟨hx, hb, hml, hown, hts⟩ (c_rsgn l dC dI m9 mr mv vf xl xf xa xp xi xt xn xe xv xb zs tk kI kL ft fk1 fa1 fe1 fn1 i t0 t1 t2 t3 H.size hzs (by omega) hisz) (cwV 1 hts g_c_rscan_c_rsgn_144 rfl rfl rfl (by decide +kernel) ⟨Nat.le_of_ble_eq_true rfl, Nat.le_of_ble_eq_true rfl⟩) ⟨fun a U g mk q => by obtain ⟨q0, q1, qP, qK, qD, qx0⟩ := q; exact ⟨q0, q1, qP, va_K.moved (u := U) (U := U.calling g mk a) (Vm.Alike.refl U.vm) qK, qD, stA.moved (u := U) (U := U.calling g mk a) (Vm.Alike.refl U.vm) qx0⟩, va_recv hKc hPc (ci := 23) (q0 := 0) rfl rfl, fun U hU hW => ⟨rfl, by rw [hU], by rw [hU]; exact hPc, va_K.moved hW.alike hKc, hDc.weaken (fun _ _ _ _ => trivial), by rw [hU]; exact ((hpre0.kept hS.2.1).moved hW.alike).narrow hFc⟩⟩ rfl rfl hl.1 rfl (lv_room (Nat.le_of_ble_eq_true rfl)) dX23_scan_144 ⟨(show 0 + 0 ≤ 0 by omega), (show 0 + 0 ≤ 0 by omega)⟩) hS (fun q _ h => hFc q h) hFc (fun r_5 u_6 tS H1 locs ht hvm hw hB hz1 hk1 hS => ?_)
                obtain ⟨kd9, gn9, hf6_0, hP1, hK1, hD1⟩ := hB
                rw [ht] at hP1
                have hK1 := va_K.moved hvm.symm hK1
                obtain ⟨hP, hD⟩ := va_join (wr := []) (w1 := [(m9, .inr (23, mA mr mv vf xl (nI zs) xf xa (nI (tk + 1)) xp xi xt xn xe xv xb)), (mr 0, .inl (kI, 3000, .inl ft)), (mr 5, .inl (kI, 3002, .inl (upd fk1 tk kd9))), (mr 6, .inl (kI, 3002, .inl (upd fa1 tk (nI i)))), (mr 7, .inl (kI, 3002, .inl (upd fe1 tk (nI u_6)))), (mr 8, .inl (kL, 3002, .inr (.inl gn9)))]) hP hD [4, 5, 0, 1, 2, 3] [] rfl rfl (by decide) (by decide) hk1 hFc hP1 hD1
                have hK := hK.app hK1
                generalize H1 = H at hP hS ⊢
                have hP : va_P (dC, dI) vwCl [(m9, .inr (23, mA mr mv vf xl (nI zs) xf xa (nI (tk + 1)) xp xi xt xn xe xv xb)), (mr 0, .inl (kI, 3000, .inl ft)), (mr 5, .inl (kI, 3002, .inl (upd fk1 tk kd9))), (mr 6, .inl (kI, 3002, .inl (upd fa1 tk (nI i)))), (mr 7, .inl (kI, 3002, .inl (upd fe1 tk (nI u_6)))), (mr 8, .inl (kL, 3002, .inr (.inl gn9)))] H := hP
                have hD : va_D A [(m9, .inr (23, mA mr mv vf xl (nI zs) xf xa (nI (tk + 1)) xp xi xt xn xe xv xb)), (mr 0, .inl (kI, 3000, .inl ft)), (mr 5, .inl (kI, 3002, .inl (upd fk1 tk kd9))), (mr 6, .inl (kI, 3002, .inl (upd fa1 tk (nI i)))), (mr 7, .inl (kI, 3002, .inl (upd fe1 tk (nI u_6)))), (mr 8, .inl (kL, 3002, .inr (.inl gn9)))] := hD
                have hK : va_K (dC, dI) vwCl [(kI, .int), (kL, .long), (kI, .int), (kL, .long)] s := hK
                have hK := hK.sub (tys' := [(kI, .int), (kL, .long)]) [0, 1] rfl
                have hP : va_P (dC, dI) vwCl [(m9, .inr (23, mA mr mv vf xl (nI zs) xf xa (nI (tk + 1)) xp xi xt xn xe xv xb)), (mr 0, .inl (kI, 3000, .inl ft)), (mr 5, .inl (kI, 3002, .inl (upd fk1 tk kd9))), (mr 6, .inl (kI, 3002, .inl (upd fa1 tk (nI i)))), (mr 7, .inl (kI, 3002, .inl (upd fe1 tk (nI u_6)))), (mr 8, .inl (kL, 3002, .inr (.inl gn9)))] H := hP
                have hD : va_D A [(m9, .inr (23, mA mr mv vf xl (nI zs) xf xa (nI (tk + 1)) xp xi xt xn xe xv xb)), (mr 0, .inl (kI, 3000, .inl ft)), (mr 5, .inl (kI, 3002, .inl (upd fk1 tk kd9))), (mr 6, .inl (kI, 3002, .inl (upd fa1 tk (nI i)))), (mr 7, .inl (kI, 3002, .inl (upd fe1 tk (nI u_6)))), (mr 8, .inl (kL, 3002, .inr (.inl gn9)))] := hD
                obtain rfl : r_5 = nI u_6 := hw
                obtain ⟨hu1, hu2, hu3, hu4⟩ := hf6_0
                refine lv_istore_n (lv' := [(1, .int (nI u_6)), (2, .int r_2), (0, .ref m9)]) hx hb dX23_scan_147 rfl hl (by decide) rfl (fun ls hl => ?_)
                refine lv_aload_n hx hb dX23_scan_148 rfl (lv_at hl 2 rfl) ?_
                refine lv_iload_n hx hb dX23_scan_149 rfl (lv_at hl 0 rfl) ?_
                have hPc := hP.sub (ws' := [(m9, .inr (23, mA mr mv vf xl (nI zs) xf xa (nI (tk + 1)) xp xi xt xn xe xv xb)), (mr 0, .inl (kI, 3000, .inl ft))]) [0, 1] rfl
                have hDc := hD.sub (ws' := [(m9, .inr (23, mA mr mv vf xl (nI zs) xf xa (nI (tk + 1)) xp xi xt xn xe xv xb)), (mr 0, .inl (kI, 3000, .inl ft))]) [0, 1] (by decide) rfl
                have hKc := hK.sub (tys' := [(kI, .int)]) [0] rfl
                have hFc := va_free (wc := [(m9, .inr (23, mA mr mv vf xl (nI zs) xf xa (nI (tk + 1)) xp xi xt xn xe xv xb)), (mr 0, .inl (kI, 3000, .inl ft))]) hD hS hA [0, 1] rfl
                refine va_calli (va_runV (As := [.int (nI u_6)]) (rest := []) ⟨hx, hb, hml, hown, hts⟩ (c_rblk l dC dI m9 mr mv vf xl xf xa xp xi xt xn xe xv xb zs (tk + 1) u_6 kI ft H.size hzs (by omega)) (cwV 1 hts g_c_rscan_c_rblk_150 rfl rfl rfl (by decide +kernel) ⟨Nat.le_of_ble_eq_true rfl, Nat.le_of_ble_eq_true rfl⟩) ⟨fun a U g mk q => by obtain ⟨q0, q1, qP, qK, qD⟩ := q; exact ⟨q0, q1, qP, va_K.moved (u := U) (U := U.calling g mk a) (Vm.Alike.refl U.vm) qK, qD⟩, va_recv hKc hPc (ci := 23) (q0 := 0) rfl rfl, fun U hU hW => ⟨rfl, by rw [hU], by rw [hU]; exact hPc, va_K.moved hW.alike hKc, hDc.weaken (fun _ _ _ _ => trivial)⟩⟩ rfl rfl hl.1 rfl (lv_room (Nat.le_of_ble_eq_true rfl)) dX23_scan_150 ⟨(show 0 + 0 ≤ 0 by omega), (show 0 + 0 ≤ 0 by omega)⟩) hS (fun q _ h => hFc q h) hFc (fun r_7 u tS H1 locs ht hvm hw hB hz1 hk1 hS => ?_)
                obtain ⟨hP1, hK1, hD1⟩ := hB
                rw [ht] at hP1
                have hK1 := va_K.moved hvm.symm hK1
                obtain ⟨hP, hD⟩ := va_join (wr := [(mr 5, .inl (kI, 3002, .inl (upd fk1 tk kd9))), (mr 6, .inl (kI, 3002, .inl (upd fa1 tk (nI i)))), (mr 7, .inl (kI, 3002, .inl (upd fe1 tk (nI u_6)))), (mr 8, .inl (kL, 3002, .inr (.inl gn9)))]) (w1 := [(m9, .inr (23, mA mr mv vf xl (nI zs) xf xa (nI (tk + 1)) xp xi xt xn xe xv xb)), (mr 0, .inl (kI, 3000, .inl ft))]) hP hD [0, 1] [2, 3, 4, 5] rfl rfl (by decide) (by decide) hk1 hFc hP1 hD1
                have hK := hK.app hK1
                generalize H1 = H at hP hS ⊢
                have hP : va_P (dC, dI) vwCl [(mr 5, .inl (kI, 3002, .inl (upd fk1 tk kd9))), (mr 6, .inl (kI, 3002, .inl (upd fa1 tk (nI i)))), (mr 7, .inl (kI, 3002, .inl (upd fe1 tk (nI u_6)))), (mr 8, .inl (kL, 3002, .inr (.inl gn9))), (m9, .inr (23, mA mr mv vf xl (nI zs) xf xa (nI (tk + 1)) xp xi xt xn xe xv xb)), (mr 0, .inl (kI, 3000, .inl ft))] H := hP
                have hD : va_D A [(mr 5, .inl (kI, 3002, .inl (upd fk1 tk kd9))), (mr 6, .inl (kI, 3002, .inl (upd fa1 tk (nI i)))), (mr 7, .inl (kI, 3002, .inl (upd fe1 tk (nI u_6)))), (mr 8, .inl (kL, 3002, .inr (.inl gn9))), (m9, .inr (23, mA mr mv vf xl (nI zs) xf xa (nI (tk + 1)) xp xi xt xn xe xv xb)), (mr 0, .inl (kI, 3000, .inl ft))] := hD
                have hK : va_K (dC, dI) vwCl [(kI, .int), (kL, .long), (kI, .int)] s := hK
                have hK := hK.sub (tys' := [(kI, .int), (kL, .long)]) [0, 1] rfl
                have hP : va_P (dC, dI) vwCl [(mr 5, .inl (kI, 3002, .inl (upd fk1 tk kd9))), (mr 6, .inl (kI, 3002, .inl (upd fa1 tk (nI i)))), (mr 7, .inl (kI, 3002, .inl (upd fe1 tk (nI u_6)))), (mr 8, .inl (kL, 3002, .inr (.inl gn9))), (m9, .inr (23, mA mr mv vf xl (nI zs) xf xa (nI (tk + 1)) xp xi xt xn xe xv xb)), (mr 0, .inl (kI, 3000, .inl ft))] H := hP
                have hD : va_D A [(mr 5, .inl (kI, 3002, .inl (upd fk1 tk kd9))), (mr 6, .inl (kI, 3002, .inl (upd fa1 tk (nI i)))), (mr 7, .inl (kI, 3002, .inl (upd fe1 tk (nI u_6)))), (mr 8, .inl (kL, 3002, .inr (.inl gn9))), (m9, .inr (23, mA mr mv vf xl (nI zs) xf xa (nI (tk + 1)) xp xi xt xn xe xv xb)), (mr 0, .inl (kI, 3000, .inl ft))] := hD
                obtain ⟨i9, hi9, hi8, hi7⟩ := hw
                subst hi9
                refine lv_istore_n (lv' := [(1, .int (nI i9)), (2, .int r_2), (0, .ref m9)]) hx hb dX23_scan_153 rfl hl (by decide) rfl (fun ls hl => ?_)
                refine lv_goto (tgt := 11) hx hb dX23_scan_154 (by decide) ?_
                exact ih1 i9 (tk + 1) (upd fk1 tk kd9) (upd fa1 tk (nI i)) (upd fe1 tk (nI u_6)) gn9 _ _ _ (by omega) (tkR_up (tkR_add ha1 (Nat.le_refl _) (by omega) hu3 (fun q => absurd q hu4)) (by omega)) (hP.sub [4, 5, 0, 1, 2, 3] rfl) (hD.sub [4, 5, 0, 1, 2, 3] (by decide) rfl) hS (lv_sub hl [0, 2] rfl)
              · refine lv_aload_n hx hb dX23_scan_134 rfl (lv_at hl 2 rfl) ?_
                refine lv_iload_n hx hb dX23_scan_135 rfl (lv_at hl 1 rfl) ?_
                have hPc := hP.sub (ws' := [(m9, .inr (23, mA mr mv vf xl (nI zs) xf xa (nI tk) xp xi xt xn xe xv xb)), (mr 0, .inl (kI, 3000, .inl ft)), (mr 5, .inl (kI, 3002, .inl fk1)), (mr 6, .inl (kI, 3002, .inl fa1)), (mr 7, .inl (kI, 3002, .inl fe1)), (mr 8, .inl (kL, 3002, .inr (.inl fn1)))]) [4, 5, 0, 1, 2, 3] rfl
                have hDc := hD.sub (ws' := [(m9, .inr (23, mA mr mv vf xl (nI zs) xf xa (nI tk) xp xi xt xn xe xv xb)), (mr 0, .inl (kI, 3000, .inl ft)), (mr 5, .inl (kI, 3002, .inl fk1)), (mr 6, .inl (kI, 3002, .inl fa1)), (mr 7, .inl (kI, 3002, .inl fe1)), (mr 8, .inl (kL, 3002, .inr (.inl fn1)))]) [4, 5, 0, 1, 2, 3] (by decide) rfl
                have hKc := hK.sub (tys' := [(kI, .int), (kL, .long)]) [0, 1] rfl
                have hFc := va_free (wc := [(m9, .inr (23, mA mr mv vf xl (nI zs) xf xa (nI tk) xp xi xt xn xe xv xb)), (mr 0, .inl (kI, 3000, .inl ft)), (mr 5, .inl (kI, 3002, .inl fk1)), (mr 6, .inl (kI, 3002, .inl fa1)), (mr 7, .inl (kI, 3002, .inl fe1)), (mr 8, .inl (kL, 3002, .inr (.inl fn1)))]) hD hS hA [4, 5, 0, 1, 2, 3] rfl
                refine va_calli (va_runV (As := [.int (nI i)]) (rest := []) ⟨hx, hb, hml, hown, hts⟩ (c_rnum l dC dI m9 mr mv vf xl xf xa xp xi xt xn xe xv xb zs tk kI kL ft fk1 fa1 fe1 fn1 i H.size hzs (by omega) hisz (by rw [← hr_2, ← hr_4]; exact hdg0)) (cwV 1 hts g_c_rscan_c_rnum_136 rfl rfl rfl (by decide +kernel) ⟨Nat.le_of_ble_eq_true rfl, Nat.le_of_ble_eq_true rfl⟩) ⟨fun a U g mk q => by obtain ⟨q0, q1, qP, qK, qD⟩ := q; exact ⟨q0, q1, qP, va_K.moved (u := U) (U := U.calling g mk a) (Vm.Alike.refl U.vm) qK, qD⟩, va_recv hKc hPc (ci := 23) (q0 := 0) rfl rfl, fun U hU hW => ⟨rfl, by rw [hU], by rw [hU]; exact hPc, va_K.moved hW.alike hKc, hDc.weaken (fun _ _ _ _ => trivial)⟩⟩ rfl rfl hl.1 rfl (lv_room (Nat.le_of_ble_eq_true rfl)) dX23_scan_136 ⟨(show 0 + 0 ≤ 0 by omega), (show 0 + 0 ≤ 0 by omega)⟩) hS (fun q _ h => hFc q h) hFc (fun r_5 u_6 tS H1 locs ht hvm hw hB hz1 hk1 hS => ?_)
                obtain ⟨kd9, gn9, hf6_0, hP1, hK1, hD1⟩ := hB
                rw [ht] at hP1
                have hK1 := va_K.moved hvm.symm hK1
                obtain ⟨hP, hD⟩ := va_join (wr := []) (w1 := [(m9, .inr (23, mA mr mv vf xl (nI zs) xf xa (nI (tk + 1)) xp xi xt xn xe xv xb)), (mr 0, .inl (kI, 3000, .inl ft)), (mr 5, .inl (kI, 3002, .inl (upd fk1 tk kd9))), (mr 6, .inl (kI, 3002, .inl (upd fa1 tk (nI i)))), (mr 7, .inl (kI, 3002, .inl (upd fe1 tk (nI u_6)))), (mr 8, .inl (kL, 3002, .inr (.inl gn9)))]) hP hD [4, 5, 0, 1, 2, 3] [] rfl rfl (by decide) (by decide) hk1 hFc hP1 hD1
                have hK := hK.app hK1
                generalize H1 = H at hP hS ⊢
                have hP : va_P (dC, dI) vwCl [(m9, .inr (23, mA mr mv vf xl (nI zs) xf xa (nI (tk + 1)) xp xi xt xn xe xv xb)), (mr 0, .inl (kI, 3000, .inl ft)), (mr 5, .inl (kI, 3002, .inl (upd fk1 tk kd9))), (mr 6, .inl (kI, 3002, .inl (upd fa1 tk (nI i)))), (mr 7, .inl (kI, 3002, .inl (upd fe1 tk (nI u_6)))), (mr 8, .inl (kL, 3002, .inr (.inl gn9)))] H := hP
                have hD : va_D A [(m9, .inr (23, mA mr mv vf xl (nI zs) xf xa (nI (tk + 1)) xp xi xt xn xe xv xb)), (mr 0, .inl (kI, 3000, .inl ft)), (mr 5, .inl (kI, 3002, .inl (upd fk1 tk kd9))), (mr 6, .inl (kI, 3002, .inl (upd fa1 tk (nI i)))), (mr 7, .inl (kI, 3002, .inl (upd fe1 tk (nI u_6)))), (mr 8, .inl (kL, 3002, .inr (.inl gn9)))] := hD
                have hK : va_K (dC, dI) vwCl [(kI, .int), (kL, .long), (kI, .int), (kL, .long)] s := hK
                have hK := hK.sub (tys' := [(kI, .int), (kL, .long)]) [0, 1] rfl
                have hP : va_P (dC, dI) vwCl [(m9, .inr (23, mA mr mv vf xl (nI zs) xf xa (nI (tk + 1)) xp xi xt xn xe xv xb)), (mr 0, .inl (kI, 3000, .inl ft)), (mr 5, .inl (kI, 3002, .inl (upd fk1 tk kd9))), (mr 6, .inl (kI, 3002, .inl (upd fa1 tk (nI i)))), (mr 7, .inl (kI, 3002, .inl (upd fe1 tk (nI u_6)))), (mr 8, .inl (kL, 3002, .inr (.inl gn9)))] H := hP
                have hD : va_D A [(m9, .inr (23, mA mr mv vf xl (nI zs) xf xa (nI (tk + 1)) xp xi xt xn xe xv xb)), (mr 0, .inl (kI, 3000, .inl ft)), (mr 5, .inl (kI, 3002, .inl (upd fk1 tk kd9))), (mr 6, .inl (kI, 3002, .inl (upd fa1 tk (nI i)))), (mr 7, .inl (kI, 3002, .inl (upd fe1 tk (nI u_6)))), (mr 8, .inl (kL, 3002, .inr (.inl gn9)))] := hD
                obtain rfl : r_5 = nI u_6 := hw
                obtain ⟨hu1, hu2, hu3, hu4⟩ := hf6_0
                refine lv_goto (tgt := 147) hx hb dX23_scan_139 (by decide) ?_
                refine lv_istore_n (lv' := [(1, .int (nI u_6)), (2, .int r_2), (0, .ref m9)]) hx hb dX23_scan_147 rfl hl (by decide) rfl (fun ls hl => ?_)
                refine lv_aload_n hx hb dX23_scan_148 rfl (lv_at hl 2 rfl) ?_
                refine lv_iload_n hx hb dX23_scan_149 rfl (lv_at hl 0 rfl) ?_
                have hPc := hP.sub (ws' := [(m9, .inr (23, mA mr mv vf xl (nI zs) xf xa (nI (tk + 1)) xp xi xt xn xe xv xb)), (mr 0, .inl (kI, 3000, .inl ft))]) [0, 1] rfl
                have hDc := hD.sub (ws' := [(m9, .inr (23, mA mr mv vf xl (nI zs) xf xa (nI (tk + 1)) xp xi xt xn xe xv xb)), (mr 0, .inl (kI, 3000, .inl ft))]) [0, 1] (by decide) rfl
                have hKc := hK.sub (tys' := [(kI, .int)]) [0] rfl
                have hFc := va_free (wc := [(m9, .inr (23, mA mr mv vf xl (nI zs) xf xa (nI (tk + 1)) xp xi xt xn xe xv xb)), (mr 0, .inl (kI, 3000, .inl ft))]) hD hS hA [0, 1] rfl
                refine va_calli (va_runV (As := [.int (nI u_6)]) (rest := []) ⟨hx, hb, hml, hown, hts⟩ (c_rblk l dC dI m9 mr mv vf xl xf xa xp xi xt xn xe xv xb zs (tk + 1) u_6 kI ft H.size hzs (by omega)) (cwV 1 hts g_c_rscan_c_rblk_150 rfl rfl rfl (by decide +kernel) ⟨Nat.le_of_ble_eq_true rfl, Nat.le_of_ble_eq_true rfl⟩) ⟨fun a U g mk q => by obtain ⟨q0, q1, qP, qK, qD⟩ := q; exact ⟨q0, q1, qP, va_K.moved (u := U) (U := U.calling g mk a) (Vm.Alike.refl U.vm) qK, qD⟩, va_recv hKc hPc (ci := 23) (q0 := 0) rfl rfl, fun U hU hW => ⟨rfl, by rw [hU], by rw [hU]; exact hPc, va_K.moved hW.alike hKc, hDc.weaken (fun _ _ _ _ => trivial)⟩⟩ rfl rfl hl.1 rfl (lv_room (Nat.le_of_ble_eq_true rfl)) dX23_scan_150 ⟨(show 0 + 0 ≤ 0 by omega), (show 0 + 0 ≤ 0 by omega)⟩) hS (fun q _ h => hFc q h) hFc (fun r_7 u tS H1 locs ht hvm hw hB hz1 hk1 hS => ?_)
                obtain ⟨hP1, hK1, hD1⟩ := hB
                rw [ht] at hP1
                have hK1 := va_K.moved hvm.symm hK1
                obtain ⟨hP, hD⟩ := va_join (wr := [(mr 5, .inl (kI, 3002, .inl (upd fk1 tk kd9))), (mr 6, .inl (kI, 3002, .inl (upd fa1 tk (nI i)))), (mr 7, .inl (kI, 3002, .inl (upd fe1 tk (nI u_6)))), (mr 8, .inl (kL, 3002, .inr (.inl gn9)))]) (w1 := [(m9, .inr (23, mA mr mv vf xl (nI zs) xf xa (nI (tk + 1)) xp xi xt xn xe xv xb)), (mr 0, .inl (kI, 3000, .inl ft))]) hP hD [0, 1] [2, 3, 4, 5] rfl rfl (by decide) (by decide) hk1 hFc hP1 hD1
                have hK := hK.app hK1
                generalize H1 = H at hP hS ⊢
                have hP : va_P (dC, dI) vwCl [(mr 5, .inl (kI, 3002, .inl (upd fk1 tk kd9))), (mr 6, .inl (kI, 3002, .inl (upd fa1 tk (nI i)))), (mr 7, .inl (kI, 3002, .inl (upd fe1 tk (nI u_6)))), (mr 8, .inl (kL, 3002, .inr (.inl gn9))), (m9, .inr (23, mA mr mv vf xl (nI zs) xf xa (nI (tk + 1)) xp xi xt xn xe xv xb)), (mr 0, .inl (kI, 3000, .inl ft))] H := hP
                have hD : va_D A [(mr 5, .inl (kI, 3002, .inl (upd fk1 tk kd9))), (mr 6, .inl (kI, 3002, .inl (upd fa1 tk (nI i)))), (mr 7, .inl (kI, 3002, .inl (upd fe1 tk (nI u_6)))), (mr 8, .inl (kL, 3002, .inr (.inl gn9))), (m9, .inr (23, mA mr mv vf xl (nI zs) xf xa (nI (tk + 1)) xp xi xt xn xe xv xb)), (mr 0, .inl (kI, 3000, .inl ft))] := hD
                have hK : va_K (dC, dI) vwCl [(kI, .int), (kL, .long), (kI, .int)] s := hK
                have hK := hK.sub (tys' := [(kI, .int), (kL, .long)]) [0, 1] rfl
                have hP : va_P (dC, dI) vwCl [(mr 5, .inl (kI, 3002, .inl (upd fk1 tk kd9))), (mr 6, .inl (kI, 3002, .inl (upd fa1 tk (nI i)))), (mr 7, .inl (kI, 3002, .inl (upd fe1 tk (nI u_6)))), (mr 8, .inl (kL, 3002, .inr (.inl gn9))), (m9, .inr (23, mA mr mv vf xl (nI zs) xf xa (nI (tk + 1)) xp xi xt xn xe xv xb)), (mr 0, .inl (kI, 3000, .inl ft))] H := hP
                have hD : va_D A [(mr 5, .inl (kI, 3002, .inl (upd fk1 tk kd9))), (mr 6, .inl (kI, 3002, .inl (upd fa1 tk (nI i)))), (mr 7, .inl (kI, 3002, .inl (upd fe1 tk (nI u_6)))), (mr 8, .inl (kL, 3002, .inr (.inl gn9))), (m9, .inr (23, mA mr mv vf xl (nI zs) xf xa (nI (tk + 1)) xp xi xt xn xe xv xb)), (mr 0, .inl (kI, 3000, .inl ft))] := hD
                obtain ⟨i9, hi9, hi8, hi7⟩ := hw
                subst hi9
                refine lv_istore_n (lv' := [(1, .int (nI i9)), (2, .int r_2), (0, .ref m9)]) hx hb dX23_scan_153 rfl hl (by decide) rfl (fun ls hl => ?_)
                refine lv_goto (tgt := 11) hx hb dX23_scan_154 (by decide) ?_
                exact ih1 i9 (tk + 1) (upd fk1 tk kd9) (upd fa1 tk (nI i)) (upd fe1 tk (nI u_6)) gn9 _ _ _ (by omega) (tkR_up (tkR_add ha1 (Nat.le_refl _) (by omega) hu3 (fun q => absurd q hu4)) (by omega)) (hP.sub [4, 5, 0, 1, 2, 3] rfl) (hD.sub [4, 5, 0, 1, 2, 3] (by decide) rfl) hS (lv_sub hl [0, 2] rfl)
            · refine lv_iload_n hx hb dX23_scan_69 rfl (lv_at hl 1 rfl) ?_
              refine lv_istore_n (lv' := [(3, .int (nI i)), (2, .int r_2), (1, .int (nI i)), (0, .ref m9)]) hx hb dX23_scan_70 rfl hl (by decide) rfl (fun ls hl => ?_)
              refine W_q (fun Q2 hQ2 => ?_)
              have key2 : ∀ (n2 : Nat) (j : Nat) (H : Heap) (locs : List Loc) (ls : Array Slot), (j + n2 = zs + 1 ∧ j ≤ zs) → (i ≤ j) → va_P (dC, dI) vwCl [(m9, .inr (23, mA mr mv vf xl (nI zs) xf xa (nI tk) xp xi xt xn xe xv xb)), (mr 0, .inl (kI, 3000, .inl ft)), (mr 5, .inl (kI, 3002, .inl fk1)), (mr 6, .inl (kI, 3002, .inl fa1)), (mr 7, .inl (kI, 3002, .inl fe1)), (mr 8, .inl (kL, 3002, .inr (.inl fn1)))] H → va_D A [(m9, .inr (23, mA mr mv vf xl (nI zs) xf xa (nI tk) xp xi xt xn xe xv xb)), (mr 0, .inl (kI, 3000, .inl ft)), (mr 5, .inl (kI, 3002, .inl fk1)), (mr 6, .inl (kI, 3002, .inl fa1)), (mr 7, .inl (kI, 3002, .inl fe1)), (mr 8, .inl (kL, 3002, .inr (.inl fn1)))] → va_S A s.heap H locs → lv_has ls 4 [(1, .int (nI j)), (3, .int (nI i)), (2, .int r_2), (0, .ref m9)] → W p l e (headSpec wp_c_rscan ({ frames := 3, cells := 0, slots := 0, locals := 71 })).room s m ([.ref m9] : List Value).toArray below meth c H locs 0 0 Q2 (F0 m 71 ls []) := by
                intro n2
                induction n2 with
                | zero => intro j H locs ls hb0 hb1; exact absurd hb0 (by omega)
                | succ n2 ih2 =>
                  intro j H locs ls hb0 hb1 hP hD hS hl
                  refine lv_aload_n hx hb dX23_scan_71 rfl (lv_at hl 3 rfl) ?_
                  refine lv_iload_n hx hb dX23_scan_72 rfl (lv_at hl 0 rfl) ?_
                  have hPc := hP.sub (ws' := [(m9, .inr (23, mA mr mv vf xl (nI zs) xf xa (nI tk) xp xi xt xn xe xv xb)), (mr 0, .inl (kI, 3000, .inl ft))]) [0, 1] rfl
                  have hDc := hD.sub (ws' := [(m9, .inr (23, mA mr mv vf xl (nI zs) xf xa (nI tk) xp xi xt xn xe xv xb)), (mr 0, .inl (kI, 3000, .inl ft))]) [0, 1] (by decide) rfl
                  have hKc := hK.sub (tys' := [(kI, .int)]) [0] rfl
                  have hFc := va_free (wc := [(m9, .inr (23, mA mr mv vf xl (nI zs) xf xa (nI tk) xp xi xt xn xe xv xb)), (mr 0, .inl (kI, 3000, .inl ft))]) hD hS hA [0, 1] rfl
                  refine va_calli (va_runV (As := [.int (nI j)]) (rest := []) ⟨hx, hb, hml, hown, hts⟩ (c_rat l dC dI m9 mr mv vf xl xf xa xp xi xt xn xe xv xb zs tk j kI ft H.size hzs (by omega)) (cwV 1 hts g_c_rscan_c_rat_73 rfl rfl rfl (by decide +kernel) ⟨Nat.le_of_ble_eq_true rfl, Nat.le_of_ble_eq_true rfl⟩) ⟨fun a U g mk q => by obtain ⟨q0, q1, qP, qK, qD⟩ := q; exact ⟨q0, q1, qP, va_K.moved (u := U) (U := U.calling g mk a) (Vm.Alike.refl U.vm) qK, qD⟩, va_recv hKc hPc (ci := 23) (q0 := 0) rfl rfl, fun U hU hW => ⟨rfl, by rw [hU], by rw [hU]; exact hPc, va_K.moved hW.alike hKc, hDc.weaken (fun _ _ _ _ => trivial)⟩⟩ rfl rfl hl.1 rfl (lv_room (Nat.le_of_ble_eq_true rfl)) dX23_scan_73 ⟨(show 0 + 0 ≤ 0 by omega), (show 0 + 0 ≤ 0 by omega)⟩) hS (fun q _ h => hFc q h) hFc (fun r_4 u tS H1 locs ht hvm hw hB hz1 hk1 hS => ?_)
                  obtain ⟨hP1, hK1, hD1⟩ := hB
                  rw [ht] at hP1
                  have hK1 := va_K.moved hvm.symm hK1
                  obtain ⟨hP, hD⟩ := va_join (wr := [(mr 5, .inl (kI, 3002, .inl fk1)), (mr 6, .inl (kI, 3002, .inl fa1)), (mr 7, .inl (kI, 3002, .inl fe1)), (mr 8, .inl (kL, 3002, .inr (.inl fn1)))]) (w1 := [(m9, .inr (23, mA mr mv vf xl (nI zs) xf xa (nI tk) xp xi xt xn xe xv xb)), (mr 0, .inl (kI, 3000, .inl ft))]) hP hD [0, 1] [2, 3, 4, 5] rfl rfl (by decide) (by decide) hk1 hFc hP1 hD1
                  have hK := hK.app hK1
                  generalize H1 = H at hP hS ⊢
                  have hP : va_P (dC, dI) vwCl [(mr 5, .inl (kI, 3002, .inl fk1)), (mr 6, .inl (kI, 3002, .inl fa1)), (mr 7, .inl (kI, 3002, .inl fe1)), (mr 8, .inl (kL, 3002, .inr (.inl fn1))), (m9, .inr (23, mA mr mv vf xl (nI zs) xf xa (nI tk) xp xi xt xn xe xv xb)), (mr 0, .inl (kI, 3000, .inl ft))] H := hP
                  have hD : va_D A [(mr 5, .inl (kI, 3002, .inl fk1)), (mr 6, .inl (kI, 3002, .inl fa1)), (mr 7, .inl (kI, 3002, .inl fe1)), (mr 8, .inl (kL, 3002, .inr (.inl fn1))), (m9, .inr (23, mA mr mv vf xl (nI zs) xf xa (nI tk) xp xi xt xn xe xv xb)), (mr 0, .inl (kI, 3000, .inl ft))] := hD
                  have hK : va_K (dC, dI) vwCl [(kI, .int), (kL, .long), (kI, .int)] s := hK
                  have hK := hK.sub (tys' := [(kI, .int), (kL, .long)]) [0, 1] rfl
                  have hP : va_P (dC, dI) vwCl [(mr 5, .inl (kI, 3002, .inl fk1)), (mr 6, .inl (kI, 3002, .inl fa1)), (mr 7, .inl (kI, 3002, .inl fe1)), (mr 8, .inl (kL, 3002, .inr (.inl fn1))), (m9, .inr (23, mA mr mv vf xl (nI zs) xf xa (nI tk) xp xi xt xn xe xv xb)), (mr 0, .inl (kI, 3000, .inl ft))] H := hP
                  have hD : va_D A [(mr 5, .inl (kI, 3002, .inl fk1)), (mr 6, .inl (kI, 3002, .inl fa1)), (mr 7, .inl (kI, 3002, .inl fe1)), (mr 8, .inl (kL, 3002, .inr (.inl fn1))), (m9, .inr (23, mA mr mv vf xl (nI zs) xf xa (nI tk) xp xi xt xn xe xv xb)), (mr 0, .inl (kI, 3000, .inl ft))] := hD
                  have hr_4 : r_4 = atF ft zs (j) := hw
                  have hPc := hP.sub (ws' := []) [] rfl
                  have hDc := hD.sub (ws' := []) [] (by decide) rfl
                  have hKc := hK.sub (tys' := []) [] rfl
                  have hFc := va_free (wc := []) hD hS hA [] rfl
                  refine va_calli (va_runS (As := [.int r_4]) (rest := []) ⟨hx, hb, hml, hown, hts⟩ (c_rlet l dC dI r_4 H.size) (va_cwS 1 hts g_c_rscan_c_rlet_76 rfl rfl rfl (by decide +kernel) ⟨Nat.le_of_ble_eq_true rfl, Nat.le_of_ble_eq_true rfl⟩) ⟨fun a U g mk q => by obtain ⟨q0, q1, qP, qK, qD⟩ := q; exact ⟨q0, q1, qP, va_K.moved (u := U) (U := U.calling g mk a) (Vm.Alike.refl U.vm) qK, qD⟩, fun U hU hW => ⟨rfl, by rw [hU], by rw [hU]; exact hPc, va_K.moved hW.alike hKc, hDc.weaken (fun _ _ _ _ => trivial)⟩⟩ rfl rfl hl.1 rfl (lv_room (Nat.le_of_ble_eq_true rfl)) dX23_scan_76 ⟨(show 0 + 0 ≤ 0 by omega), (show 0 + 0 ≤ 0 by omega)⟩) hS (fun q _ h => hFc q h) hFc (fun r_5 u tS H1 locs ht hvm hw hB hz1 hk1 hS => ?_)
                  obtain ⟨hP1, hK1, hD1⟩ := hB
                  rw [ht] at hP1
                  have hK1 := va_K.moved hvm.symm hK1
                  obtain ⟨hP, hD⟩ := va_join (wr := [(mr 5, .inl (kI, 3002, .inl fk1)), (mr 6, .inl (kI, 3002, .inl fa1)), (mr 7, .inl (kI, 3002, .inl fe1)), (mr 8, .inl (kL, 3002, .inr (.inl fn1))), (m9, .inr (23, mA mr mv vf xl (nI zs) xf xa (nI tk) xp xi xt xn xe xv xb)), (mr 0, .inl (kI, 3000, .inl ft))]) (w1 := []) hP hD [] [0, 1, 2, 3, 4, 5] rfl rfl (by decide) (by decide) hk1 hFc hP1 hD1
                  generalize H1 = H at hP hS ⊢
                  have hP : va_P (dC, dI) vwCl [(mr 5, .inl (kI, 3002, .inl fk1)), (mr 6, .inl (kI, 3002, .inl fa1)), (mr 7, .inl (kI, 3002, .inl fe1)), (mr 8, .inl (kL, 3002, .inr (.inl fn1))), (m9, .inr (23, mA mr mv vf xl (nI zs) xf xa (nI tk) xp xi xt xn xe xv xb)), (mr 0, .inl (kI, 3000, .inl ft))] H := hP
                  have hD : va_D A [(mr 5, .inl (kI, 3002, .inl fk1)), (mr 6, .inl (kI, 3002, .inl fa1)), (mr 7, .inl (kI, 3002, .inl fe1)), (mr 8, .inl (kL, 3002, .inr (.inl fn1))), (m9, .inr (23, mA mr mv vf xl (nI zs) xf xa (nI tk) xp xi xt xn xe xv xb)), (mr 0, .inl (kI, 3000, .inl ft))] := hD
                  have hK : va_K (dC, dI) vwCl [(kI, .int), (kL, .long)] s := hK
                  have hr_5 : r_5 = letF r_4 := hw.2
                  refine lv_if_ne (tgt := 93) hx hb dX23_scan_79 (by decide) (fun hm1 => ?_) (fun hm1 => ?_)
                  · have hlt : j < zs := letF_lt (fun q => hm1 (by rw [hr_5, hr_4]; exact q))
                    obtain ⟨x_6, ex_6⟩ : ∃ yY : Int32, yY = (nI j) + 1 := ⟨_, rfl⟩
                    refine lv_iinc (v := x_6) (lv' := [(1, .int x_6), (3, .int (nI i)), (2, .int r_2), (0, .ref m9)]) hx hb dX23_scan_93 hl (k := 0) rfl (by rw [ex_6]; rfl) (by decide) rfl (fun ls hl => ?_)
                    obtain rfl : x_6 = nI (j + 1) := by rw [ex_6]; exact nI_1 j
                    have hl : lv_has ls 4 [(1, .int (nI (j + 1))), (3, .int (nI i)), (2, .int r_2), (0, .ref m9)] := hl
                    refine lv_goto (tgt := 71) hx hb dX23_scan_96 (by decide) ?_
                    exact ih2 (j + 1) _ _ _ (by omega) (by omega) (hP.sub [4, 5, 0, 1, 2, 3] rfl) (hD.sub [4, 5, 0, 1, 2, 3] (by decide) rfl) hS (lv_sub hl [0, 1, 2, 3] rfl)
                  · refine lv_aload_n hx hb dX23_scan_82 rfl (lv_at hl 3 rfl) ?_
                    refine lv_iload_n hx hb dX23_scan_83 rfl (lv_at hl 0 rfl) ?_
                    have hPc := hP.sub (ws' := [(m9, .inr (23, mA mr mv vf xl (nI zs) xf xa (nI tk) xp xi xt xn xe xv xb)), (mr 0, .inl (kI, 3000, .inl ft))]) [4, 5] rfl
                    have hDc := hD.sub (ws' := [(m9, .inr (23, mA mr mv vf xl (nI zs) xf xa (nI tk) xp xi xt xn xe xv xb)), (mr 0, .inl (kI, 3000, .inl ft))]) [4, 5] (by decide) rfl
                    have hKc := hK.sub (tys' := [(kI, .int)]) [0] rfl
                    have hFc := va_free (wc := [(m9, .inr (23, mA mr mv vf xl (nI zs) xf xa (nI tk) xp xi xt xn xe xv xb)), (mr 0, .inl (kI, 3000, .inl ft))]) hD hS hA [4, 5] rfl
                    refine va_calli (va_runV (As := [.int (nI j)]) (rest := []) ⟨hx, hb, hml, hown, hts⟩ (c_rat l dC dI m9 mr mv vf xl xf xa xp xi xt xn xe xv xb zs tk j kI ft H.size hzs (by omega)) (cwV 1 hts g_c_rscan_c_rat_84 rfl rfl rfl (by decide +kernel) ⟨Nat.le_of_ble_eq_true rfl, Nat.le_of_ble_eq_true rfl⟩) ⟨fun a U g mk q => by obtain ⟨q0, q1, qP, qK, qD⟩ := q; exact ⟨q0, q1, qP, va_K.moved (u := U) (U := U.calling g mk a) (Vm.Alike.refl U.vm) qK, qD⟩, va_recv hKc hPc (ci := 23) (q0 := 0) rfl rfl, fun U hU hW => ⟨rfl, by rw [hU], by rw [hU]; exact hPc, va_K.moved hW.alike hKc, hDc.weaken (fun _ _ _ _ => trivial)⟩⟩ rfl rfl hl.1 rfl (lv_room (Nat.le_of_ble_eq_true rfl)) dX23_scan_84 ⟨(show 0 + 0 ≤ 0 by omega), (show 0 + 0 ≤ 0 by omega)⟩) hS (fun q _ h => hFc q h) hFc (fun r_6 u tS H1 locs ht hvm hw hB hz1 hk1 hS => ?_)
                    obtain ⟨hP1, hK1, hD1⟩ := hB
                    rw [ht] at hP1
                    have hK1 := va_K.moved hvm.symm hK1
                    obtain ⟨hP, hD⟩ := va_join (wr := [(mr 5, .inl (kI, 3002, .inl fk1)), (mr 6, .inl (kI, 3002, .inl fa1)), (mr 7, .inl (kI, 3002, .inl fe1)), (mr 8, .inl (kL, 3002, .inr (.inl fn1)))]) (w1 := [(m9, .inr (23, mA mr mv vf xl (nI zs) xf xa (nI tk) xp xi xt xn xe xv xb)), (mr 0, .inl (kI, 3000, .inl ft))]) hP hD [4, 5] [0, 1, 2, 3] rfl rfl (by decide) (by decide) hk1 hFc hP1 hD1
                    have hK := hK.app hK1
                    generalize H1 = H at hP hS ⊢
                    have hP : va_P (dC, dI) vwCl [(mr 5, .inl (kI, 3002, .inl fk1)), (mr 6, .inl (kI, 3002, .inl fa1)), (mr 7, .inl (kI, 3002, .inl fe1)), (mr 8, .inl (kL, 3002, .inr (.inl fn1))), (m9, .inr (23, mA mr mv vf xl (nI zs) xf xa (nI tk) xp xi xt xn xe xv xb)), (mr 0, .inl (kI, 3000, .inl ft))] H := hP
                    have hD : va_D A [(mr 5, .inl (kI, 3002, .inl fk1)), (mr 6, .inl (kI, 3002, .inl fa1)), (mr 7, .inl (kI, 3002, .inl fe1)), (mr 8, .inl (kL, 3002, .inr (.inl fn1))), (m9, .inr (23, mA mr mv vf xl (nI zs) xf xa (nI tk) xp xi xt xn xe xv xb)), (mr 0, .inl (kI, 3000, .inl ft))] := hD
                    have hK : va_K (dC, dI) vwCl [(kI, .int), (kL, .long), (kI, .int)] s := hK
                    have hK := hK.sub (tys' := [(kI, .int), (kL, .long)]) [0, 1] rfl
                    have hP : va_P (dC, dI) vwCl [(mr 5, .inl (kI, 3002, .inl fk1)), (mr 6, .inl (kI, 3002, .inl fa1)), (mr 7, .inl (kI, 3002, .inl fe1)), (mr 8, .inl (kL, 3002, .inr (.inl fn1))), (m9, .inr (23, mA mr mv vf xl (nI zs) xf xa (nI tk) xp xi xt xn xe xv xb)), (mr 0, .inl (kI, 3000, .inl ft))] H := hP
                    have hD : va_D A [(mr 5, .inl (kI, 3002, .inl fk1)), (mr 6, .inl (kI, 3002, .inl fa1)), (mr 7, .inl (kI, 3002, .inl fe1)), (mr 8, .inl (kL, 3002, .inr (.inl fn1))), (m9, .inr (23, mA mr mv vf xl (nI zs) xf xa (nI tk) xp xi xt xn xe xv xb)), (mr 0, .inl (kI, 3000, .inl ft))] := hD
                    have hr_6 : r_6 = atF ft zs (j) := hw
                    have hPc := hP.sub (ws' := []) [] rfl
                    have hDc := hD.sub (ws' := []) [] (by decide) rfl
                    have hKc := hK.sub (tys' := []) [] rfl
                    have hFc := va_free (wc := []) hD hS hA [] rfl
                    refine va_calli (va_runS (As := [.int r_6]) (rest := []) ⟨hx, hb, hml, hown, hts⟩ (c_rdig l dC dI r_6 H.size) (va_cwS 1 hts g_c_rscan_c_rdig_87 rfl rfl rfl (by decide +kernel) ⟨Nat.le_of_ble_eq_true rfl, Nat.le_of_ble_eq_true rfl⟩) ⟨fun a U g mk q => by obtain ⟨q0, q1, qP, qK, qD⟩ := q; exact ⟨q0, q1, qP, va_K.moved (u := U) (U := U.calling g mk a) (Vm.Alike.refl U.vm) qK, qD⟩, fun U hU hW => ⟨rfl, by rw [hU], by rw [hU]; exact hPc, va_K.moved hW.alike hKc, hDc.weaken (fun _ _ _ _ => trivial)⟩⟩ rfl rfl hl.1 rfl (lv_room (Nat.le_of_ble_eq_true rfl)) dX23_scan_87 ⟨(show 0 + 0 ≤ 0 by omega), (show 0 + 0 ≤ 0 by omega)⟩) hS (fun q _ h => hFc q h) hFc (fun r_7 u tS H1 locs ht hvm hw hB hz1 hk1 hS => ?_)
                    obtain ⟨hP1, hK1, hD1⟩ := hB
                    rw [ht] at hP1
                    have hK1 := va_K.moved hvm.symm hK1
                    obtain ⟨hP, hD⟩ := va_join (wr := [(mr 5, .inl (kI, 3002, .inl fk1)), (mr 6, .inl (kI, 3002, .inl fa1)), (mr 7, .inl (kI, 3002, .inl fe1)), (mr 8, .inl (kL, 3002, .inr (.inl fn1))), (m9, .inr (23, mA mr mv vf xl (nI zs) xf xa (nI tk) xp xi xt xn xe xv xb)), (mr 0, .inl (kI, 3000, .inl ft))]) (w1 := []) hP hD [] [0, 1, 2, 3, 4, 5] rfl rfl (by decide) (by decide) hk1 hFc hP1 hD1
                    generalize H1 = H at hP hS ⊢
                    have hP : va_P (dC, dI) vwCl [(mr 5, .inl (kI, 3002, .inl fk1)), (mr 6, .inl (kI, 3002, .inl fa1)), (mr 7, .inl (kI, 3002, .inl fe1)), (mr 8, .inl (kL, 3002, .inr (.inl fn1))), (m9, .inr (23, mA mr mv vf xl (nI zs) xf xa (nI tk) xp xi xt xn xe xv xb)), (mr 0, .inl (kI, 3000, .inl ft))] H := hP
                    have hD : va_D A [(mr 5, .inl (kI, 3002, .inl fk1)), (mr 6, .inl (kI, 3002, .inl fa1)), (mr 7, .inl (kI, 3002, .inl fe1)), (mr 8, .inl (kL, 3002, .inr (.inl fn1))), (m9, .inr (23, mA mr mv vf xl (nI zs) xf xa (nI tk) xp xi xt xn xe xv xb)), (mr 0, .inl (kI, 3000, .inl ft))] := hD
                    have hK : va_K (dC, dI) vwCl [(kI, .int), (kL, .long)] s := hK
                    have hr_7 : r_7 = digF r_6 := hw.2
                    refine lv_if_eq (tgt := 99) hx hb dX23_scan_90 (by decide) (fun hm2 => ?_) (fun hm2 => ?_)
                    · have hij : i < j := by
                        rcases Nat.lt_or_ge i j with z9 | z9
                        · exact z9
                        · exact absurd (by rw [hr_3, hr_2, show i = j by omega, ← hr_4, ← hr_5]; exact hm1) hlt0
                      refine lv_aload_n hx hb dX23_scan_99 rfl (lv_at hl 3 rfl) ?_
                      refine lv_iload_n hx hb dX23_scan_100 rfl (lv_at hl 0 rfl) ?_
                      refine lv_iload_n hx hb dX23_scan_101 rfl (lv_at hl 1 rfl) ?_
                      refine lv_isub hx hb dX23_scan_102 ?_
                      refine lv_topi (fun f_8 ef_8 => ?_)
                      obtain rfl : f_8 = nI (j - i) := ef_8.trans (pk_sub (a := j) (b := i) (by omega))
                      refine lv_bipush (v := 20) hx hb dX23_scan_103 (by decide) ?_
                      refine lv_icmp_le (tgt := 112) hx hb dX23_scan_105 (by decide) (fun h20 => ?_) (fun h20 => ?_)
                      · refine lv_aload_n hx hb dX23_scan_112 rfl (lv_at hl 3 rfl) ?_
                        refine lv_iload_n hx hb dX23_scan_113 rfl (lv_at hl 1 rfl) ?_
                        refine lv_iload_n hx hb dX23_scan_114 rfl (lv_at hl 0 rfl) ?_
                        have hPc := hP.sub (ws' := [(m9, .inr (23, mA mr mv vf xl (nI zs) xf xa (nI tk) xp xi xt xn xe xv xb)), (mr 0, .inl (kI, 3000, .inl ft))]) [4, 5] rfl
                        have hDc := hD.sub (ws' := [(m9, .inr (23, mA mr mv vf xl (nI zs) xf xa (nI tk) xp xi xt xn xe xv xb)), (mr 0, .inl (kI, 3000, .inl ft))]) [4, 5] (by decide) rfl
                        have hKc := hK.sub (tys' := [(kI, .int)]) [0] rfl
                        have hFc := va_free (wc := [(m9, .inr (23, mA mr mv vf xl (nI zs) xf xa (nI tk) xp xi xt xn xe xv xb)), (mr 0, .inl (kI, 3000, .inl ft))]) hD hS hA [4, 5] rfl
                        refine va_calli (va_runV (As := [.int (nI i), .int (nI j)]) (rest := [.ref m9]) ⟨hx, hb, hml, hown, hts⟩ (c_rwo l dC dI m9 mr mv vf xl xf xa xp xi xt xn xe xv xb zs tk i j kI ft t0 t1 t2 t3 H.size (by omega)) (cwV 2 hts g_c_rscan_c_rwo_115 rfl rfl rfl (by decide +kernel) ⟨Nat.le_of_ble_eq_true rfl, Nat.le_of_ble_eq_true rfl⟩) ⟨fun a U g mk q => by obtain ⟨q0, q1, qP, qK, qD, qx0⟩ := q; exact ⟨q0, q1, qP, va_K.moved (u := U) (U := U.calling g mk a) (Vm.Alike.refl U.vm) qK, qD, stA.moved (u := U) (U := U.calling g mk a) (Vm.Alike.refl U.vm) qx0⟩, va_recv hKc hPc (ci := 23) (q0 := 0) rfl rfl, fun U hU hW => ⟨rfl, by rw [hU], by rw [hU]; exact hPc, va_K.moved hW.alike hKc, hDc.weaken (fun _ _ _ _ => trivial), by rw [hU]; exact ((hpre0.kept hS.2.1).moved hW.alike).narrow hFc⟩⟩ rfl rfl hl.1 rfl (lv_room (Nat.le_of_ble_eq_true rfl)) dX23_scan_115 ⟨(show 0 + 0 ≤ 0 by omega), (show 0 + 0 ≤ 0 by omega)⟩) hS (fun q _ h => hFc q h) hFc (fun r_9 u tS H1 locs ht hvm hw hB hz1 hk1 hS => ?_)
                        obtain ⟨hP1, hK1, hD1⟩ := hB
                        rw [ht] at hP1
                        have hK1 := va_K.moved hvm.symm hK1
                        obtain ⟨hP, hD⟩ := va_join (wr := [(mr 5, .inl (kI, 3002, .inl fk1)), (mr 6, .inl (kI, 3002, .inl fa1)), (mr 7, .inl (kI, 3002, .inl fe1)), (mr 8, .inl (kL, 3002, .inr (.inl fn1)))]) (w1 := [(m9, .inr (23, mA mr mv vf xl (nI zs) xf xa (nI tk) xp xi xt xn xe xv xb)), (mr 0, .inl (kI, 3000, .inl ft))]) hP hD [4, 5] [0, 1, 2, 3] rfl rfl (by decide) (by decide) hk1 hFc hP1 hD1
                        have hK := hK.app hK1
                        generalize H1 = H at hP hS ⊢
                        have hP : va_P (dC, dI) vwCl [(mr 5, .inl (kI, 3002, .inl fk1)), (mr 6, .inl (kI, 3002, .inl fa1)), (mr 7, .inl (kI, 3002, .inl fe1)), (mr 8, .inl (kL, 3002, .inr (.inl fn1))), (m9, .inr (23, mA mr mv vf xl (nI zs) xf xa (nI tk) xp xi xt xn xe xv xb)), (mr 0, .inl (kI, 3000, .inl ft))] H := hP
                        have hD : va_D A [(mr 5, .inl (kI, 3002, .inl fk1)), (mr 6, .inl (kI, 3002, .inl fa1)), (mr 7, .inl (kI, 3002, .inl fe1)), (mr 8, .inl (kL, 3002, .inr (.inl fn1))), (m9, .inr (23, mA mr mv vf xl (nI zs) xf xa (nI tk) xp xi xt xn xe xv xb)), (mr 0, .inl (kI, 3000, .inl ft))] := hD
                        have hK : va_K (dC, dI) vwCl [(kI, .int), (kL, .long), (kI, .int)] s := hK
                        have hK := hK.sub (tys' := [(kI, .int), (kL, .long)]) [0, 1] rfl
                        have hP : va_P (dC, dI) vwCl [(mr 5, .inl (kI, 3002, .inl fk1)), (mr 6, .inl (kI, 3002, .inl fa1)), (mr 7, .inl (kI, 3002, .inl fe1)), (mr 8, .inl (kL, 3002, .inr (.inl fn1))), (m9, .inr (23, mA mr mv vf xl (nI zs) xf xa (nI tk) xp xi xt xn xe xv xb)), (mr 0, .inl (kI, 3000, .inl ft))] H := hP
                        have hD : va_D A [(mr 5, .inl (kI, 3002, .inl fk1)), (mr 6, .inl (kI, 3002, .inl fa1)), (mr 7, .inl (kI, 3002, .inl fe1)), (mr 8, .inl (kL, 3002, .inr (.inl fn1))), (m9, .inr (23, mA mr mv vf xl (nI zs) xf xa (nI tk) xp xi xt xn xe xv xb)), (mr 0, .inl (kI, 3000, .inl ft))] := hD
                        have hwo := wo_ok hw
                        refine lv_iload_n hx hb dX23_scan_118 rfl (lv_at hl 1 rfl) ?_
                        refine lv_iload_n hx hb dX23_scan_119 rfl (lv_at hl 0 rfl) ?_
                        refine lv_lconst (v := 0) hx hb dX23_scan_120 (by decide) ?_
                        have hPc := hP.sub (ws' := [(m9, .inr (23, mA mr mv vf xl (nI zs) xf xa (nI tk) xp xi xt xn xe xv xb)), (mr 5, .inl (kI, 3002, .inl fk1)), (mr 6, .inl (kI, 3002, .inl fa1)), (mr 7, .inl (kI, 3002, .inl fe1)), (mr 8, .inl (kL, 3002, .inr (.inl fn1)))]) [4, 0, 1, 2, 3] rfl
                        have hDc := hD.sub (ws' := [(m9, .inr (23, mA mr mv vf xl (nI zs) xf xa (nI tk) xp xi xt xn xe xv xb)), (mr 5, .inl (kI, 3002, .inl fk1)), (mr 6, .inl (kI, 3002, .inl fa1)), (mr 7, .inl (kI, 3002, .inl fe1)), (mr 8, .inl (kL, 3002, .inr (.inl fn1)))]) [4, 0, 1, 2, 3] (by decide) rfl
                        have hKc := hK.sub (tys' := [(kI, .int), (kL, .long)]) [0, 1] rfl
                        have hFc := va_free (wc := [(m9, .inr (23, mA mr mv vf xl (nI zs) xf xa (nI tk) xp xi xt xn xe xv xb)), (mr 5, .inl (kI, 3002, .inl fk1)), (mr 6, .inl (kI, 3002, .inl fa1)), (mr 7, .inl (kI, 3002, .inl fe1)), (mr 8, .inl (kL, 3002, .inr (.inl fn1)))]) hD hS hA [4, 0, 1, 2, 3] rfl
                        refine va_callv (va_runV (As := [.int r_9, .int (nI i), .int (nI j), .long 0]) (rest := []) ⟨hx, hb, hml, hown, hts⟩ (c_radd l dC dI m9 mr mv vf xl xf xa xp xi xt xn xe xv xb zs tk kI kL ft fk1 fa1 fe1 fn1 r_9 (nI i) (nI j) 0 H.size (by omega)) (cwV 4 hts g_c_rscan_c_radd_121 rfl rfl rfl (by decide +kernel) ⟨Nat.le_of_ble_eq_true rfl, Nat.le_of_ble_eq_true rfl⟩) ⟨fun a U g mk q => by obtain ⟨q0, q1, qP, qK, qD⟩ := q; exact ⟨q0, q1, qP, va_K.moved (u := U) (U := U.calling g mk a) (Vm.Alike.refl U.vm) qK, qD⟩, va_recv hKc hPc (ci := 23) (q0 := 0) rfl rfl, fun U hU hW => ⟨rfl, by rw [hU], by rw [hU]; exact hPc, va_K.moved hW.alike hKc, hDc.weaken (fun _ _ _ _ => trivial)⟩⟩ rfl rfl hl.1 rfl (lv_room (Nat.le_of_ble_eq_true rfl)) dX23_scan_121 ⟨(show 0 + 0 ≤ 0 by omega), (show 0 + 0 ≤ 0 by omega)⟩) hS (fun q _ h => hFc q h) hFc (fun u tS H1 locs ht hvm hw hB hz1 hk1 hS => ?_)
                        obtain ⟨gn9, hP1, hK1, hD1⟩ := hB
                        rw [ht] at hP1
                        have hK1 := va_K.moved hvm.symm hK1
                        obtain ⟨hP, hD⟩ := va_join (wr := [(mr 0, .inl (kI, 3000, .inl ft))]) (w1 := [(m9, .inr (23, mA mr mv vf xl (nI zs) xf xa (nI (tk + 1)) xp xi xt xn xe xv xb)), (mr 5, .inl (kI, 3002, .inl (upd fk1 tk r_9))), (mr 6, .inl (kI, 3002, .inl (upd fa1 tk (nI i)))), (mr 7, .inl (kI, 3002, .inl (upd fe1 tk (nI j)))), (mr 8, .inl (kL, 3002, .inr (.inl gn9)))]) hP hD [4, 0, 1, 2, 3] [5] rfl rfl (by decide) (by decide) hk1 hFc hP1 hD1
                        have hK := hK.app hK1
                        generalize H1 = H at hP hS ⊢
                        have hP : va_P (dC, dI) vwCl [(mr 0, .inl (kI, 3000, .inl ft)), (m9, .inr (23, mA mr mv vf xl (nI zs) xf xa (nI (tk + 1)) xp xi xt xn xe xv xb)), (mr 5, .inl (kI, 3002, .inl (upd fk1 tk r_9))), (mr 6, .inl (kI, 3002, .inl (upd fa1 tk (nI i)))), (mr 7, .inl (kI, 3002, .inl (upd fe1 tk (nI j)))), (mr 8, .inl (kL, 3002, .inr (.inl gn9)))] H := hP
                        have hD : va_D A [(mr 0, .inl (kI, 3000, .inl ft)), (m9, .inr (23, mA mr mv vf xl (nI zs) xf xa (nI (tk + 1)) xp xi xt xn xe xv xb)), (mr 5, .inl (kI, 3002, .inl (upd fk1 tk r_9))), (mr 6, .inl (kI, 3002, .inl (upd fa1 tk (nI i)))), (mr 7, .inl (kI, 3002, .inl (upd fe1 tk (nI j)))), (mr 8, .inl (kL, 3002, .inr (.inl gn9)))] := hD
                        have hK : va_K (dC, dI) vwCl [(kI, .int), (kL, .long), (kI, .int), (kL, .long)] s := hK
                        have hK := hK.sub (tys' := [(kI, .int), (kL, .long)]) [0, 1] rfl
                        have hP : va_P (dC, dI) vwCl [(mr 0, .inl (kI, 3000, .inl ft)), (m9, .inr (23, mA mr mv vf xl (nI zs) xf xa (nI (tk + 1)) xp xi xt xn xe xv xb)), (mr 5, .inl (kI, 3002, .inl (upd fk1 tk r_9))), (mr 6, .inl (kI, 3002, .inl (upd fa1 tk (nI i)))), (mr 7, .inl (kI, 3002, .inl (upd fe1 tk (nI j)))), (mr 8, .inl (kL, 3002, .inr (.inl gn9)))] H := hP
                        have hD : va_D A [(mr 0, .inl (kI, 3000, .inl ft)), (m9, .inr (23, mA mr mv vf xl (nI zs) xf xa (nI (tk + 1)) xp xi xt xn xe xv xb)), (mr 5, .inl (kI, 3002, .inl (upd fk1 tk r_9))), (mr 6, .inl (kI, 3002, .inl (upd fa1 tk (nI i)))), (mr 7, .inl (kI, 3002, .inl (upd fe1 tk (nI j)))), (mr 8, .inl (kL, 3002, .inr (.inl gn9)))] := hD
                        refine lv_goto (tgt := 148) hx hb dX23_scan_124 (by decide) ?_
                        refine lv_aload_n hx hb dX23_scan_148 rfl (lv_at hl 3 rfl) ?_
                        refine lv_iload_n hx hb dX23_scan_149 rfl (lv_at hl 0 rfl) ?_
                        have hPc := hP.sub (ws' := [(m9, .inr (23, mA mr mv vf xl (nI zs) xf xa (nI (tk + 1)) xp xi xt xn xe xv xb)), (mr 0, .inl (kI, 3000, .inl ft))]) [1, 0] rfl
                        have hDc := hD.sub (ws' := [(m9, .inr (23, mA mr mv vf xl (nI zs) xf xa (nI (tk + 1)) xp xi xt xn xe xv xb)), (mr 0, .inl (kI, 3000, .inl ft))]) [1, 0] (by decide) rfl
                        have hKc := hK.sub (tys' := [(kI, .int)]) [0] rfl
                        have hFc := va_free (wc := [(m9, .inr (23, mA mr mv vf xl (nI zs) xf xa (nI (tk + 1)) xp xi xt xn xe xv xb)), (mr 0, .inl (kI, 3000, .inl ft))]) hD hS hA [1, 0] rfl
                        refine va_calli (va_runV (As := [.int (nI j)]) (rest := []) ⟨hx, hb, hml, hown, hts⟩ (c_rblk l dC dI m9 mr mv vf xl xf xa xp xi xt xn xe xv xb zs (tk + 1) j kI ft H.size hzs (by omega)) (cwV 1 hts g_c_rscan_c_rblk_150 rfl rfl rfl (by decide +kernel) ⟨Nat.le_of_ble_eq_true rfl, Nat.le_of_ble_eq_true rfl⟩) ⟨fun a U g mk q => by obtain ⟨q0, q1, qP, qK, qD⟩ := q; exact ⟨q0, q1, qP, va_K.moved (u := U) (U := U.calling g mk a) (Vm.Alike.refl U.vm) qK, qD⟩, va_recv hKc hPc (ci := 23) (q0 := 0) rfl rfl, fun U hU hW => ⟨rfl, by rw [hU], by rw [hU]; exact hPc, va_K.moved hW.alike hKc, hDc.weaken (fun _ _ _ _ => trivial)⟩⟩ rfl rfl hl.1 rfl (lv_room (Nat.le_of_ble_eq_true rfl)) dX23_scan_150 ⟨(show 0 + 0 ≤ 0 by omega), (show 0 + 0 ≤ 0 by omega)⟩) hS (fun q _ h => hFc q h) hFc (fun r_11 u tS H1 locs ht hvm hw hB hz1 hk1 hS => ?_)
                        obtain ⟨hP1, hK1, hD1⟩ := hB
                        rw [ht] at hP1
                        have hK1 := va_K.moved hvm.symm hK1
                        obtain ⟨hP, hD⟩ := va_join (wr := [(mr 5, .inl (kI, 3002, .inl (upd fk1 tk r_9))), (mr 6, .inl (kI, 3002, .inl (upd fa1 tk (nI i)))), (mr 7, .inl (kI, 3002, .inl (upd fe1 tk (nI j)))), (mr 8, .inl (kL, 3002, .inr (.inl gn9)))]) (w1 := [(m9, .inr (23, mA mr mv vf xl (nI zs) xf xa (nI (tk + 1)) xp xi xt xn xe xv xb)), (mr 0, .inl (kI, 3000, .inl ft))]) hP hD [1, 0] [2, 3, 4, 5] rfl rfl (by decide) (by decide) hk1 hFc hP1 hD1
                        have hK := hK.app hK1
                        generalize H1 = H at hP hS ⊢
                        have hP : va_P (dC, dI) vwCl [(mr 5, .inl (kI, 3002, .inl (upd fk1 tk r_9))), (mr 6, .inl (kI, 3002, .inl (upd fa1 tk (nI i)))), (mr 7, .inl (kI, 3002, .inl (upd fe1 tk (nI j)))), (mr 8, .inl (kL, 3002, .inr (.inl gn9))), (m9, .inr (23, mA mr mv vf xl (nI zs) xf xa (nI (tk + 1)) xp xi xt xn xe xv xb)), (mr 0, .inl (kI, 3000, .inl ft))] H := hP
                        have hD : va_D A [(mr 5, .inl (kI, 3002, .inl (upd fk1 tk r_9))), (mr 6, .inl (kI, 3002, .inl (upd fa1 tk (nI i)))), (mr 7, .inl (kI, 3002, .inl (upd fe1 tk (nI j)))), (mr 8, .inl (kL, 3002, .inr (.inl gn9))), (m9, .inr (23, mA mr mv vf xl (nI zs) xf xa (nI (tk + 1)) xp xi xt xn xe xv xb)), (mr 0, .inl (kI, 3000, .inl ft))] := hD
                        have hK : va_K (dC, dI) vwCl [(kI, .int), (kL, .long), (kI, .int)] s := hK
                        have hK := hK.sub (tys' := [(kI, .int), (kL, .long)]) [0, 1] rfl
                        have hP : va_P (dC, dI) vwCl [(mr 5, .inl (kI, 3002, .inl (upd fk1 tk r_9))), (mr 6, .inl (kI, 3002, .inl (upd fa1 tk (nI i)))), (mr 7, .inl (kI, 3002, .inl (upd fe1 tk (nI j)))), (mr 8, .inl (kL, 3002, .inr (.inl gn9))), (m9, .inr (23, mA mr mv vf xl (nI zs) xf xa (nI (tk + 1)) xp xi xt xn xe xv xb)), (mr 0, .inl (kI, 3000, .inl ft))] H := hP
                        have hD : va_D A [(mr 5, .inl (kI, 3002, .inl (upd fk1 tk r_9))), (mr 6, .inl (kI, 3002, .inl (upd fa1 tk (nI i)))), (mr 7, .inl (kI, 3002, .inl (upd fe1 tk (nI j)))), (mr 8, .inl (kL, 3002, .inr (.inl gn9))), (m9, .inr (23, mA mr mv vf xl (nI zs) xf xa (nI (tk + 1)) xp xi xt xn xe xv xb)), (mr 0, .inl (kI, 3000, .inl ft))] := hD
                        obtain ⟨i9, hi9, hi8, hi7⟩ := hw
                        subst hi9
                        refine lv_istore_n (lv' := [(1, .int (nI i9)), (3, .int (nI i)), (2, .int r_2), (0, .ref m9)]) hx hb dX23_scan_153 rfl hl (by decide) rfl (fun ls hl => ?_)
                        refine lv_goto (tgt := 11) hx hb dX23_scan_154 (by decide) ?_
                        subst hQ2
                        exact ih1 i9 (tk + 1) (upd fk1 tk r_9) (upd fa1 tk (nI i)) (upd fe1 tk (nI j)) gn9 _ _ _ (by omega) (tkR_up (tkR_add ha1 (Nat.le_refl _) (by omega) hwo.1 hwo.2) (by omega)) (hP.sub [4, 5, 0, 1, 2, 3] rfl) (hD.sub [4, 5, 0, 1, 2, 3] (by decide) rfl) hS (lv_sub hl [0, 3] rfl)
                      · refine lv_iconst (v := 1) hx hb dX23_scan_108 (by decide) ?_
                        refine lv_goto (tgt := 118) hx hb dX23_scan_109 (by decide) ?_
                        refine lv_iload_n hx hb dX23_scan_118 rfl (lv_at hl 1 rfl) ?_
                        refine lv_iload_n hx hb dX23_scan_119 rfl (lv_at hl 0 rfl) ?_
                        refine lv_lconst (v := 0) hx hb dX23_scan_120 (by decide) ?_
                        have hPc := hP.sub (ws' := [(m9, .inr (23, mA mr mv vf xl (nI zs) xf xa (nI tk) xp xi xt xn xe xv xb)), (mr 5, .inl (kI, 3002, .inl fk1)), (mr 6, .inl (kI, 3002, .inl fa1)), (mr 7, .inl (kI, 3002, .inl fe1)), (mr 8, .inl (kL, 3002, .inr (.inl fn1)))]) [4, 0, 1, 2, 3] rfl
                        have hDc := hD.sub (ws' := [(m9, .inr (23, mA mr mv vf xl (nI zs) xf xa (nI tk) xp xi xt xn xe xv xb)), (mr 5, .inl (kI, 3002, .inl fk1)), (mr 6, .inl (kI, 3002, .inl fa1)), (mr 7, .inl (kI, 3002, .inl fe1)), (mr 8, .inl (kL, 3002, .inr (.inl fn1)))]) [4, 0, 1, 2, 3] (by decide) rfl
                        have hKc := hK.sub (tys' := [(kI, .int), (kL, .long)]) [0, 1] rfl
                        have hFc := va_free (wc := [(m9, .inr (23, mA mr mv vf xl (nI zs) xf xa (nI tk) xp xi xt xn xe xv xb)), (mr 5, .inl (kI, 3002, .inl fk1)), (mr 6, .inl (kI, 3002, .inl fa1)), (mr 7, .inl (kI, 3002, .inl fe1)), (mr 8, .inl (kL, 3002, .inr (.inl fn1)))]) hD hS hA [4, 0, 1, 2, 3] rfl
                        refine va_callv (va_runV (As := [.int 1, .int (nI i), .int (nI j), .long 0]) (rest := []) ⟨hx, hb, hml, hown, hts⟩ (c_radd l dC dI m9 mr mv vf xl xf xa xp xi xt xn xe xv xb zs tk kI kL ft fk1 fa1 fe1 fn1 1 (nI i) (nI j) 0 H.size (by omega)) (cwV 4 hts g_c_rscan_c_radd_121 rfl rfl rfl (by decide +kernel) ⟨Nat.le_of_ble_eq_true rfl, Nat.le_of_ble_eq_true rfl⟩) ⟨fun a U g mk q => by obtain ⟨q0, q1, qP, qK, qD⟩ := q; exact ⟨q0, q1, qP, va_K.moved (u := U) (U := U.calling g mk a) (Vm.Alike.refl U.vm) qK, qD⟩, va_recv hKc hPc (ci := 23) (q0 := 0) rfl rfl, fun U hU hW => ⟨rfl, by rw [hU], by rw [hU]; exact hPc, va_K.moved hW.alike hKc, hDc.weaken (fun _ _ _ _ => trivial)⟩⟩ rfl rfl hl.1 rfl (lv_room (Nat.le_of_ble_eq_true rfl)) dX23_scan_121 ⟨(show 0 + 0 ≤ 0 by omega), (show 0 + 0 ≤ 0 by omega)⟩) hS (fun q _ h => hFc q h) hFc (fun u tS H1 locs ht hvm hw hB hz1 hk1 hS => ?_)
                        obtain ⟨gn9, hP1, hK1, hD1⟩ := hB
                        rw [ht] at hP1
                        have hK1 := va_K.moved hvm.symm hK1
                        obtain ⟨hP, hD⟩ := va_join (wr := [(mr 0, .inl (kI, 3000, .inl ft))]) (w1 := [(m9, .inr (23, mA mr mv vf xl (nI zs) xf xa (nI (tk + 1)) xp xi xt xn xe xv xb)), (mr 5, .inl (kI, 3002, .inl (upd fk1 tk 1))), (mr 6, .inl (kI, 3002, .inl (upd fa1 tk (nI i)))), (mr 7, .inl (kI, 3002, .inl (upd fe1 tk (nI j)))), (mr 8, .inl (kL, 3002, .inr (.inl gn9)))]) hP hD [4, 0, 1, 2, 3] [5] rfl rfl (by decide) (by decide) hk1 hFc hP1 hD1
                        have hK := hK.app hK1
                        generalize H1 = H at hP hS ⊢
                        have hP : va_P (dC, dI) vwCl [(mr 0, .inl (kI, 3000, .inl ft)), (m9, .inr (23, mA mr mv vf xl (nI zs) xf xa (nI (tk + 1)) xp xi xt xn xe xv xb)), (mr 5, .inl (kI, 3002, .inl (upd fk1 tk 1))), (mr 6, .inl (kI, 3002, .inl (upd fa1 tk (nI i)))), (mr 7, .inl (kI, 3002, .inl (upd fe1 tk (nI j)))), (mr 8, .inl (kL, 3002, .inr (.inl gn9)))] H := hP
                        have hD : va_D A [(mr 0, .inl (kI, 3000, .inl ft)), (m9, .inr (23, mA mr mv vf xl (nI zs) xf xa (nI (tk + 1)) xp xi xt xn xe xv xb)), (mr 5, .inl (kI, 3002, .inl (upd fk1 tk 1))), (mr 6, .inl (kI, 3002, .inl (upd fa1 tk (nI i)))), (mr 7, .inl (kI, 3002, .inl (upd fe1 tk (nI j)))), (mr 8, .inl (kL, 3002, .inr (.inl gn9)))] := hD
                        have hK : va_K (dC, dI) vwCl [(kI, .int), (kL, .long), (kI, .int), (kL, .long)] s := hK
                        have hK := hK.sub (tys' := [(kI, .int), (kL, .long)]) [0, 1] rfl
                        have hP : va_P (dC, dI) vwCl [(mr 0, .inl (kI, 3000, .inl ft)), (m9, .inr (23, mA mr mv vf xl (nI zs) xf xa (nI (tk + 1)) xp xi xt xn xe xv xb)), (mr 5, .inl (kI, 3002, .inl (upd fk1 tk 1))), (mr 6, .inl (kI, 3002, .inl (upd fa1 tk (nI i)))), (mr 7, .inl (kI, 3002, .inl (upd fe1 tk (nI j)))), (mr 8, .inl (kL, 3002, .inr (.inl gn9)))] H := hP
                        have hD : va_D A [(mr 0, .inl (kI, 3000, .inl ft)), (m9, .inr (23, mA mr mv vf xl (nI zs) xf xa (nI (tk + 1)) xp xi xt xn xe xv xb)), (mr 5, .inl (kI, 3002, .inl (upd fk1 tk 1))), (mr 6, .inl (kI, 3002, .inl (upd fa1 tk (nI i)))), (mr 7, .inl (kI, 3002, .inl (upd fe1 tk (nI j)))), (mr 8, .inl (kL, 3002, .inr (.inl gn9)))] := hD
                        refine lv_goto (tgt := 148) hx hb dX23_scan_124 (by decide) ?_
                        refine lv_aload_n hx hb dX23_scan_148 rfl (lv_at hl 3 rfl) ?_
                        refine lv_iload_n hx hb dX23_scan_149 rfl (lv_at hl 0 rfl) ?_
                        have hPc := hP.sub (ws' := [(m9, .inr (23, mA mr mv vf xl (nI zs) xf xa (nI (tk + 1)) xp xi xt xn xe xv xb)), (mr 0, .inl (kI, 3000, .inl ft))]) [1, 0] rfl
                        have hDc := hD.sub (ws' := [(m9, .inr (23, mA mr mv vf xl (nI zs) xf xa (nI (tk + 1)) xp xi xt xn xe xv xb)), (mr 0, .inl (kI, 3000, .inl ft))]) [1, 0] (by decide) rfl
                        have hKc := hK.sub (tys' := [(kI, .int)]) [0] rfl
                        have hFc := va_free (wc := [(m9, .inr (23, mA mr mv vf xl (nI zs) xf xa (nI (tk + 1)) xp xi xt xn xe xv xb)), (mr 0, .inl (kI, 3000, .inl ft))]) hD hS hA [1, 0] rfl
                        refine va_calli (va_runV (As := [.int (nI j)]) (rest := []) ⟨hx, hb, hml, hown, hts⟩ (c_rblk l dC dI m9 mr mv vf xl xf xa xp xi xt xn xe xv xb zs (tk + 1) j kI ft H.size hzs (by omega)) (cwV 1 hts g_c_rscan_c_rblk_150 rfl rfl rfl (by decide +kernel) ⟨Nat.le_of_ble_eq_true rfl, Nat.le_of_ble_eq_true rfl⟩) ⟨fun a U g mk q => by obtain ⟨q0, q1, qP, qK, qD⟩ := q; exact ⟨q0, q1, qP, va_K.moved (u := U) (U := U.calling g mk a) (Vm.Alike.refl U.vm) qK, qD⟩, va_recv hKc hPc (ci := 23) (q0 := 0) rfl rfl, fun U hU hW => ⟨rfl, by rw [hU], by rw [hU]; exact hPc, va_K.moved hW.alike hKc, hDc.weaken (fun _ _ _ _ => trivial)⟩⟩ rfl rfl hl.1 rfl (lv_room (Nat.le_of_ble_eq_true rfl)) dX23_scan_150 ⟨(show 0 + 0 ≤ 0 by omega), (show 0 + 0 ≤ 0 by omega)⟩) hS (fun q _ h => hFc q h) hFc (fun r_10 u tS H1 locs ht hvm hw hB hz1 hk1 hS => ?_)
                        obtain ⟨hP1, hK1, hD1⟩ := hB
                        rw [ht] at hP1
                        have hK1 := va_K.moved hvm.symm hK1
                        obtain ⟨hP, hD⟩ := va_join (wr := [(mr 5, .inl (kI, 3002, .inl (upd fk1 tk 1))), (mr 6, .inl (kI, 3002, .inl (upd fa1 tk (nI i)))), (mr 7, .inl (kI, 3002, .inl (upd fe1 tk (nI j)))), (mr 8, .inl (kL, 3002, .inr (.inl gn9)))]) (w1 := [(m9, .inr (23, mA mr mv vf xl (nI zs) xf xa (nI (tk + 1)) xp xi xt xn xe xv xb)), (mr 0, .inl (kI, 3000, .inl ft))]) hP hD [1, 0] [2, 3, 4, 5] rfl rfl (by decide) (by decide) hk1 hFc hP1 hD1
                        have hK := hK.app hK1
                        generalize H1 = H at hP hS ⊢
                        have hP : va_P (dC, dI) vwCl [(mr 5, .inl (kI, 3002, .inl (upd fk1 tk 1))), (mr 6, .inl (kI, 3002, .inl (upd fa1 tk (nI i)))), (mr 7, .inl (kI, 3002, .inl (upd fe1 tk (nI j)))), (mr 8, .inl (kL, 3002, .inr (.inl gn9))), (m9, .inr (23, mA mr mv vf xl (nI zs) xf xa (nI (tk + 1)) xp xi xt xn xe xv xb)), (mr 0, .inl (kI, 3000, .inl ft))] H := hP
                        have hD : va_D A [(mr 5, .inl (kI, 3002, .inl (upd fk1 tk 1))), (mr 6, .inl (kI, 3002, .inl (upd fa1 tk (nI i)))), (mr 7, .inl (kI, 3002, .inl (upd fe1 tk (nI j)))), (mr 8, .inl (kL, 3002, .inr (.inl gn9))), (m9, .inr (23, mA mr mv vf xl (nI zs) xf xa (nI (tk + 1)) xp xi xt xn xe xv xb)), (mr 0, .inl (kI, 3000, .inl ft))] := hD
                        have hK : va_K (dC, dI) vwCl [(kI, .int), (kL, .long), (kI, .int)] s := hK
                        have hK := hK.sub (tys' := [(kI, .int), (kL, .long)]) [0, 1] rfl
                        have hP : va_P (dC, dI) vwCl [(mr 5, .inl (kI, 3002, .inl (upd fk1 tk 1))), (mr 6, .inl (kI, 3002, .inl (upd fa1 tk (nI i)))), (mr 7, .inl (kI, 3002, .inl (upd fe1 tk (nI j)))), (mr 8, .inl (kL, 3002, .inr (.inl gn9))), (m9, .inr (23, mA mr mv vf xl (nI zs) xf xa (nI (tk + 1)) xp xi xt xn xe xv xb)), (mr 0, .inl (kI, 3000, .inl ft))] H := hP
                        have hD : va_D A [(mr 5, .inl (kI, 3002, .inl (upd fk1 tk 1))), (mr 6, .inl (kI, 3002, .inl (upd fa1 tk (nI i)))), (mr 7, .inl (kI, 3002, .inl (upd fe1 tk (nI j)))), (mr 8, .inl (kL, 3002, .inr (.inl gn9))), (m9, .inr (23, mA mr mv vf xl (nI zs) xf xa (nI (tk + 1)) xp xi xt xn xe xv xb)), (mr 0, .inl (kI, 3000, .inl ft))] := hD
                        obtain ⟨i9, hi9, hi8, hi7⟩ := hw
                        subst hi9
                        refine lv_istore_n (lv' := [(1, .int (nI i9)), (3, .int (nI i)), (2, .int r_2), (0, .ref m9)]) hx hb dX23_scan_153 rfl hl (by decide) rfl (fun ls hl => ?_)
                        refine lv_goto (tgt := 11) hx hb dX23_scan_154 (by decide) ?_
                        subst hQ2
                        exact ih1 i9 (tk + 1) (upd fk1 tk 1) (upd fa1 tk (nI i)) (upd fe1 tk (nI j)) gn9 _ _ _ (by omega) (tkR_up (tkR_add ha1 (Nat.le_refl _) (by omega) (by decide) (fun q => absurd q (by decide))) (by omega)) (hP.sub [4, 5, 0, 1, 2, 3] rfl) (hD.sub [4, 5, 0, 1, 2, 3] (by decide) rfl) hS (lv_sub hl [0, 3] rfl)
                    · have hlt : j < zs := digF_lt (fun q => hm2 (by rw [hr_7, hr_6]; exact q))
                      obtain ⟨x_8, ex_8⟩ : ∃ yY : Int32, yY = (nI j) + 1 := ⟨_, rfl⟩
                      refine lv_iinc (v := x_8) (lv' := [(1, .int x_8), (3, .int (nI i)), (2, .int r_2), (0, .ref m9)]) hx hb dX23_scan_93 hl (k := 0) rfl (by rw [ex_8]; rfl) (by decide) rfl (fun ls hl => ?_)
                      obtain rfl : x_8 = nI (j + 1) := by rw [ex_8]; exact nI_1 j
                      have hl : lv_has ls 4 [(1, .int (nI (j + 1))), (3, .int (nI i)), (2, .int r_2), (0, .ref m9)] := hl
                      refine lv_goto (tgt := 71) hx hb dX23_scan_96 (by decide) ?_
                      exact ih2 (j + 1) _ _ _ (by omega) (by omega) (hP.sub [4, 5, 0, 1, 2, 3] rfl) (hD.sub [4, 5, 0, 1, 2, 3] (by decide) rfl) hS (lv_sub hl [0, 1, 2, 3] rfl)
              exact key2 (zs + 1 - i) i _ _ _ (by omega) (Nat.le_refl _) (hP.sub [4, 5, 0, 1, 2, 3] rfl) (hD.sub [4, 5, 0, 1, 2, 3] (by decide) rfl) hS (lv_sub hl [2, 0, 1, 3] rfl)
          · refine lv_aload_n hx hb dX23_scan_53 rfl (lv_at hl 2 rfl) ?_
            refine lv_iload_n hx hb dX23_scan_54 rfl (lv_at hl 1 rfl) ?_
            have hPc := hP.sub (ws' := [(m9, .inr (23, mA mr mv vf xl (nI zs) xf xa (nI tk) xp xi xt xn xe xv xb)), (mr 0, .inl (kI, 3000, .inl ft)), (mr 5, .inl (kI, 3002, .inl fk1)), (mr 6, .inl (kI, 3002, .inl fa1)), (mr 7, .inl (kI, 3002, .inl fe1)), (mr 8, .inl (kL, 3002, .inr (.inl fn1)))]) [4, 5, 0, 1, 2, 3] rfl
            have hDc := hD.sub (ws' := [(m9, .inr (23, mA mr mv vf xl (nI zs) xf xa (nI tk) xp xi xt xn xe xv xb)), (mr 0, .inl (kI, 3000, .inl ft)), (mr 5, .inl (kI, 3002, .inl fk1)), (mr 6, .inl (kI, 3002, .inl fa1)), (mr 7, .inl (kI, 3002, .inl fe1)), (mr 8, .inl (kL, 3002, .inr (.inl fn1)))]) [4, 5, 0, 1, 2, 3] (by decide) rfl
            have hKc := hK.sub (tys' := [(kI, .int), (kL, .long)]) [0, 1] rfl
            have hFc := va_free (wc := [(m9, .inr (23, mA mr mv vf xl (nI zs) xf xa (nI tk) xp xi xt xn xe xv xb)), (mr 0, .inl (kI, 3000, .inl ft)), (mr 5, .inl (kI, 3002, .inl fk1)), (mr 6, .inl (kI, 3002, .inl fa1)), (mr 7, .inl (kI, 3002, .inl fe1)), (mr 8, .inl (kL, 3002, .inr (.inl fn1)))]) hD hS hA [4, 5, 0, 1, 2, 3] rfl
            refine va_calli (va_runV (As := [.int (nI i)]) (rest := []) ⟨hx, hb, hml, hown, hts⟩ (c_rlif l dC dI m9 mr mv vf xl xf xa xp xi xt xn xe xv xb zs tk kI kL ft fk1 fa1 fe1 fn1 i t0 t1 t2 t3 H.size hzs (by omega) hisz) (cwV 1 hts g_c_rscan_c_rlif_55 rfl rfl rfl (by decide +kernel) ⟨Nat.le_of_ble_eq_true rfl, Nat.le_of_ble_eq_true rfl⟩) ⟨fun a U g mk q => by obtain ⟨q0, q1, qP, qK, qD, qx0⟩ := q; exact ⟨q0, q1, qP, va_K.moved (u := U) (U := U.calling g mk a) (Vm.Alike.refl U.vm) qK, qD, stA.moved (u := U) (U := U.calling g mk a) (Vm.Alike.refl U.vm) qx0⟩, va_recv hKc hPc (ci := 23) (q0 := 0) rfl rfl, fun U hU hW => ⟨rfl, by rw [hU], by rw [hU]; exact hPc, va_K.moved hW.alike hKc, hDc.weaken (fun _ _ _ _ => trivial), by rw [hU]; exact ((hpre0.kept hS.2.1).moved hW.alike).narrow hFc⟩⟩ rfl rfl hl.1 rfl (lv_room (Nat.le_of_ble_eq_true rfl)) dX23_scan_55 ⟨(show 0 + 0 ≤ 0 by omega), (show 0 + 0 ≤ 0 by omega)⟩) hS (fun q _ h => hFc q h) hFc (fun r_3 u_4 tS H1 locs ht hvm hw hB hz1 hk1 hS => ?_)
            obtain ⟨kd9, gn9, hf4_0, hP1, hK1, hD1⟩ := hB
            rw [ht] at hP1
            have hK1 := va_K.moved hvm.symm hK1
            obtain ⟨hP, hD⟩ := va_join (wr := []) (w1 := [(m9, .inr (23, mA mr mv vf xl (nI zs) xf xa (nI (tk + 1)) xp xi xt xn xe xv xb)), (mr 0, .inl (kI, 3000, .inl ft)), (mr 5, .inl (kI, 3002, .inl (upd fk1 tk kd9))), (mr 6, .inl (kI, 3002, .inl (upd fa1 tk (nI i)))), (mr 7, .inl (kI, 3002, .inl (upd fe1 tk (nI u_4)))), (mr 8, .inl (kL, 3002, .inr (.inl gn9)))]) hP hD [4, 5, 0, 1, 2, 3] [] rfl rfl (by decide) (by decide) hk1 hFc hP1 hD1
            have hK := hK.app hK1
            generalize H1 = H at hP hS ⊢
            have hP : va_P (dC, dI) vwCl [(m9, .inr (23, mA mr mv vf xl (nI zs) xf xa (nI (tk + 1)) xp xi xt xn xe xv xb)), (mr 0, .inl (kI, 3000, .inl ft)), (mr 5, .inl (kI, 3002, .inl (upd fk1 tk kd9))), (mr 6, .inl (kI, 3002, .inl (upd fa1 tk (nI i)))), (mr 7, .inl (kI, 3002, .inl (upd fe1 tk (nI u_4)))), (mr 8, .inl (kL, 3002, .inr (.inl gn9)))] H := hP
            have hD : va_D A [(m9, .inr (23, mA mr mv vf xl (nI zs) xf xa (nI (tk + 1)) xp xi xt xn xe xv xb)), (mr 0, .inl (kI, 3000, .inl ft)), (mr 5, .inl (kI, 3002, .inl (upd fk1 tk kd9))), (mr 6, .inl (kI, 3002, .inl (upd fa1 tk (nI i)))), (mr 7, .inl (kI, 3002, .inl (upd fe1 tk (nI u_4)))), (mr 8, .inl (kL, 3002, .inr (.inl gn9)))] := hD
            have hK : va_K (dC, dI) vwCl [(kI, .int), (kL, .long), (kI, .int), (kL, .long)] s := hK
            have hK := hK.sub (tys' := [(kI, .int), (kL, .long)]) [0, 1] rfl
            have hP : va_P (dC, dI) vwCl [(m9, .inr (23, mA mr mv vf xl (nI zs) xf xa (nI (tk + 1)) xp xi xt xn xe xv xb)), (mr 0, .inl (kI, 3000, .inl ft)), (mr 5, .inl (kI, 3002, .inl (upd fk1 tk kd9))), (mr 6, .inl (kI, 3002, .inl (upd fa1 tk (nI i)))), (mr 7, .inl (kI, 3002, .inl (upd fe1 tk (nI u_4)))), (mr 8, .inl (kL, 3002, .inr (.inl gn9)))] H := hP
            have hD : va_D A [(m9, .inr (23, mA mr mv vf xl (nI zs) xf xa (nI (tk + 1)) xp xi xt xn xe xv xb)), (mr 0, .inl (kI, 3000, .inl ft)), (mr 5, .inl (kI, 3002, .inl (upd fk1 tk kd9))), (mr 6, .inl (kI, 3002, .inl (upd fa1 tk (nI i)))), (mr 7, .inl (kI, 3002, .inl (upd fe1 tk (nI u_4)))), (mr 8, .inl (kL, 3002, .inr (.inl gn9)))] := hD
            obtain rfl : r_3 = nI u_4 := hw
            obtain ⟨hu1, hu2, hu3, hu4⟩ := hf4_0
            refine lv_istore_n (lv' := [(1, .int (nI u_4)), (2, .int r_2), (0, .ref m9)]) hx hb dX23_scan_58 rfl hl (by decide) rfl (fun ls hl => ?_)
            refine lv_goto (tgt := 148) hx hb dX23_scan_59 (by decide) ?_
            refine lv_aload_n hx hb dX23_scan_148 rfl (lv_at hl 2 rfl) ?_
            refine lv_iload_n hx hb dX23_scan_149 rfl (lv_at hl 0 rfl) ?_
            have hPc := hP.sub (ws' := [(m9, .inr (23, mA mr mv vf xl (nI zs) xf xa (nI (tk + 1)) xp xi xt xn xe xv xb)), (mr 0, .inl (kI, 3000, .inl ft))]) [0, 1] rfl
            have hDc := hD.sub (ws' := [(m9, .inr (23, mA mr mv vf xl (nI zs) xf xa (nI (tk + 1)) xp xi xt xn xe xv xb)), (mr 0, .inl (kI, 3000, .inl ft))]) [0, 1] (by decide) rfl
            have hKc := hK.sub (tys' := [(kI, .int)]) [0] rfl
            have hFc := va_free (wc := [(m9, .inr (23, mA mr mv vf xl (nI zs) xf xa (nI (tk + 1)) xp xi xt xn xe xv xb)), (mr 0, .inl (kI, 3000, .inl ft))]) hD hS hA [0, 1] rfl
            refine va_calli (va_runV (As := [.int (nI u_4)]) (rest := []) ⟨hx, hb, hml, hown, hts⟩ (c_rblk l dC dI m9 mr mv vf xl xf xa xp xi xt xn xe xv xb zs (tk + 1) u_4 kI ft H.size hzs (by omega)) (cwV 1 hts g_c_rscan_c_rblk_150 rfl rfl rfl (by decide +kernel) ⟨Nat.le_of_ble_eq_true rfl, Nat.le_of_ble_eq_true rfl⟩) ⟨fun a U g mk q => by obtain ⟨q0, q1, qP, qK, qD⟩ := q; exact ⟨q0, q1, qP, va_K.moved (u := U) (U := U.calling g mk a) (Vm.Alike.refl U.vm) qK, qD⟩, va_recv hKc hPc (ci := 23) (q0 := 0) rfl rfl, fun U hU hW => ⟨rfl, by rw [hU], by rw [hU]; exact hPc, va_K.moved hW.alike hKc, hDc.weaken (fun _ _ _ _ => trivial)⟩⟩ rfl rfl hl.1 rfl (lv_room (Nat.le_of_ble_eq_true rfl)) dX23_scan_150 ⟨(show 0 + 0 ≤ 0 by omega), (show 0 + 0 ≤ 0 by omega)⟩) hS (fun q _ h => hFc q h) hFc (fun r_5 u tS H1 locs ht hvm hw hB hz1 hk1 hS => ?_)
            obtain ⟨hP1, hK1, hD1⟩ := hB
            rw [ht] at hP1
            have hK1 := va_K.moved hvm.symm hK1
            obtain ⟨hP, hD⟩ := va_join (wr := [(mr 5, .inl (kI, 3002, .inl (upd fk1 tk kd9))), (mr 6, .inl (kI, 3002, .inl (upd fa1 tk (nI i)))), (mr 7, .inl (kI, 3002, .inl (upd fe1 tk (nI u_4)))), (mr 8, .inl (kL, 3002, .inr (.inl gn9)))]) (w1 := [(m9, .inr (23, mA mr mv vf xl (nI zs) xf xa (nI (tk + 1)) xp xi xt xn xe xv xb)), (mr 0, .inl (kI, 3000, .inl ft))]) hP hD [0, 1] [2, 3, 4, 5] rfl rfl (by decide) (by decide) hk1 hFc hP1 hD1
            have hK := hK.app hK1
            generalize H1 = H at hP hS ⊢
            have hP : va_P (dC, dI) vwCl [(mr 5, .inl (kI, 3002, .inl (upd fk1 tk kd9))), (mr 6, .inl (kI, 3002, .inl (upd fa1 tk (nI i)))), (mr 7, .inl (kI, 3002, .inl (upd fe1 tk (nI u_4)))), (mr 8, .inl (kL, 3002, .inr (.inl gn9))), (m9, .inr (23, mA mr mv vf xl (nI zs) xf xa (nI (tk + 1)) xp xi xt xn xe xv xb)), (mr 0, .inl (kI, 3000, .inl ft))] H := hP
            have hD : va_D A [(mr 5, .inl (kI, 3002, .inl (upd fk1 tk kd9))), (mr 6, .inl (kI, 3002, .inl (upd fa1 tk (nI i)))), (mr 7, .inl (kI, 3002, .inl (upd fe1 tk (nI u_4)))), (mr 8, .inl (kL, 3002, .inr (.inl gn9))), (m9, .inr (23, mA mr mv vf xl (nI zs) xf xa (nI (tk + 1)) xp xi xt xn xe xv xb)), (mr 0, .inl (kI, 3000, .inl ft))] := hD
            have hK : va_K (dC, dI) vwCl [(kI, .int), (kL, .long), (kI, .int)] s := hK
            have hK := hK.sub (tys' := [(kI, .int), (kL, .long)]) [0, 1] rfl
            have hP : va_P (dC, dI) vwCl [(mr 5, .inl (kI, 3002, .inl (upd fk1 tk kd9))), (mr 6, .inl (kI, 3002, .inl (upd fa1 tk (nI i)))), (mr 7, .inl (kI, 3002, .inl (upd fe1 tk (nI u_4)))), (mr 8, .inl (kL, 3002, .inr (.inl gn9))), (m9, .inr (23, mA mr mv vf xl (nI zs) xf xa (nI (tk + 1)) xp xi xt xn xe xv xb)), (mr 0, .inl (kI, 3000, .inl ft))] H := hP
            have hD : va_D A [(mr 5, .inl (kI, 3002, .inl (upd fk1 tk kd9))), (mr 6, .inl (kI, 3002, .inl (upd fa1 tk (nI i)))), (mr 7, .inl (kI, 3002, .inl (upd fe1 tk (nI u_4)))), (mr 8, .inl (kL, 3002, .inr (.inl gn9))), (m9, .inr (23, mA mr mv vf xl (nI zs) xf xa (nI (tk + 1)) xp xi xt xn xe xv xb)), (mr 0, .inl (kI, 3000, .inl ft))] := hD
            obtain ⟨i9, hi9, hi8, hi7⟩ := hw
            subst hi9
            refine lv_istore_n (lv' := [(1, .int (nI i9)), (2, .int r_2), (0, .ref m9)]) hx hb dX23_scan_153 rfl hl (by decide) rfl (fun ls hl => ?_)
            refine lv_goto (tgt := 11) hx hb dX23_scan_154 (by decide) ?_
            exact ih1 i9 (tk + 1) (upd fk1 tk kd9) (upd fa1 tk (nI i)) (upd fe1 tk (nI u_4)) gn9 _ _ _ (by omega) (tkR_up (tkR_add ha1 (Nat.le_refl _) (by omega) hu3 (fun q => absurd q hu4)) (by omega)) (hP.sub [4, 5, 0, 1, 2, 3] rfl) (hD.sub [4, 5, 0, 1, 2, 3] (by decide) rfl) hS (lv_sub hl [0, 2] rfl)
        · have htk0 : 0 < tk := by rcases Nat.eq_zero_or_pos tk with z9 | z9; exact absurd (by rw [z9]; rfl) hz0; exact z9
          refine lv_aload_n hx hb dX23_scan_26 rfl (lv_at hl 1 rfl) ?_
          refine va_get (D := (dC, dI)) (ci := 23) (v := .ref (mr 5)) (C := RX23) (T := TX23) (N := 89) hx hb hts in_c_rscan_X23 hown hK hP 0 rfl rfl 5 (by decide) (hts (.fieldLink RX23 25 "OwnedPlacesModel" "tokenKind" "[I") (wm_c_rscan 14 rfl)) (fun _ h9 => h9) rfl dX23_scan_27 ?_
          refine lv_aload_n hx hb dX23_scan_30 rfl (lv_at hl 1 rfl) ?_
          refine va_get (D := (dC, dI)) (ci := 23) (v := .int (nI tk)) (C := RX23) (T := TX23) (N := 89) hx hb hts in_c_rscan_X23 hown hK hP 0 rfl rfl 9 (by decide) (hts (.fieldLink RX23 28 "OwnedPlacesModel" "tokens" "I") (wm_c_rscan 1 rfl)) (fun _ h9 => h9) rfl dX23_scan_31 ?_
          refine lv_iconst (v := 1) hx hb dX23_scan_34 (by decide) ?_
          refine lv_isub hx hb dX23_scan_35 ?_
          refine lv_topi (fun f_2 ef_2 => ?_)
          obtain rfl : f_2 = nI (tk - 1) := ef_2.trans (pk_sub (a := tk) (b := 1) (by omega))
          refine va_iald hx hb hK hP 2 0 rfl rfl (vp_in_nI (show tk - 1 < 3002 by omega) (by decide)) dX23_scan_36 ?_
          refine lv_topi (fun v_3 ev_3 => ?_)
          refine lv_iconst (v := 1) hx hb dX23_scan_37 (by decide) ?_
          refine lv_icmp_eq (tgt := 157) hx hb dX23_scan_38 (by decide) (fun hb1 => ?_) (fun hb1 => ?_)
          · refine lv_aload_n hx hb dX23_scan_157 rfl (lv_at hl 1 rfl) ?_
            refine lv_iconst (v := 0) hx hb dX23_scan_158 (by decide) ?_
            refine lv_aload_n hx hb dX23_scan_159 rfl (lv_at hl 1 rfl) ?_
            refine va_get (D := (dC, dI)) (ci := 23) (v := .int (nI zs)) (C := RX23) (T := TX23) (N := 89) hx hb hts in_c_rscan_X23 hown hK hP 0 rfl rfl 2 (by decide) (hts (.fieldLink RX23 1 "OwnedPlacesModel" "size" "I") (wm_c_rscan 4 rfl)) (fun _ h9 => h9) rfl dX23_scan_160 ?_
            refine lv_aload_n hx hb dX23_scan_163 rfl (lv_at hl 1 rfl) ?_
            refine va_get (D := (dC, dI)) (ci := 23) (v := .int (nI zs)) (C := RX23) (T := TX23) (N := 89) hx hb hts in_c_rscan_X23 hown hK hP 0 rfl rfl 2 (by decide) (hts (.fieldLink RX23 1 "OwnedPlacesModel" "size" "I") (wm_c_rscan 4 rfl)) (fun _ h9 => h9) rfl dX23_scan_164 ?_
            refine lv_lconst (v := 0) hx hb dX23_scan_167 (by decide) ?_
            have hPc := hP.sub (ws' := [(m9, .inr (23, mA mr mv vf xl (nI zs) xf xa (nI tk) xp xi xt xn xe xv xb)), (mr 5, .inl (kI, 3002, .inl fk1)), (mr 6, .inl (kI, 3002, .inl fa1)), (mr 7, .inl (kI, 3002, .inl fe1)), (mr 8, .inl (kL, 3002, .inr (.inl fn1)))]) [0, 2, 3, 4, 5] rfl
            have hDc := hD.sub (ws' := [(m9, .inr (23, mA mr mv vf xl (nI zs) xf xa (nI tk) xp xi xt xn xe xv xb)), (mr 5, .inl (kI, 3002, .inl fk1)), (mr 6, .inl (kI, 3002, .inl fa1)), (mr 7, .inl (kI, 3002, .inl fe1)), (mr 8, .inl (kL, 3002, .inr (.inl fn1)))]) [0, 2, 3, 4, 5] (by decide) rfl
            have hKc := hK.sub (tys' := [(kI, .int), (kL, .long)]) [0, 1] rfl
            have hFc := va_free (wc := [(m9, .inr (23, mA mr mv vf xl (nI zs) xf xa (nI tk) xp xi xt xn xe xv xb)), (mr 5, .inl (kI, 3002, .inl fk1)), (mr 6, .inl (kI, 3002, .inl fa1)), (mr 7, .inl (kI, 3002, .inl fe1)), (mr 8, .inl (kL, 3002, .inr (.inl fn1)))]) hD hS hA [0, 2, 3, 4, 5] rfl
            refine va_callv (va_runV (As := [.int 0, .int (nI zs), .int (nI zs), .long 0]) (rest := []) ⟨hx, hb, hml, hown, hts⟩ (c_radd l dC dI m9 mr mv vf xl xf xa xp xi xt xn xe xv xb zs tk kI kL ft fk1 fa1 fe1 fn1 0 (nI zs) (nI zs) 0 H.size (by omega)) (cwV 4 hts g_c_rscan_c_radd_168 rfl rfl rfl (by decide +kernel) ⟨Nat.le_of_ble_eq_true rfl, Nat.le_of_ble_eq_true rfl⟩) ⟨fun a U g mk q => by obtain ⟨q0, q1, qP, qK, qD⟩ := q; exact ⟨q0, q1, qP, va_K.moved (u := U) (U := U.calling g mk a) (Vm.Alike.refl U.vm) qK, qD⟩, va_recv hKc hPc (ci := 23) (q0 := 0) rfl rfl, fun U hU hW => ⟨rfl, by rw [hU], by rw [hU]; exact hPc, va_K.moved hW.alike hKc, hDc.weaken (fun _ _ _ _ => trivial)⟩⟩ rfl rfl hl.1 rfl (lv_room (Nat.le_of_ble_eq_true rfl)) dX23_scan_168 ⟨(show 0 + 0 ≤ 0 by omega), (show 0 + 0 ≤ 0 by omega)⟩) hS (fun q _ h => hFc q h) hFc (fun u tS H1 locs ht hvm hw hB hz1 hk1 hS => ?_)
            obtain ⟨gn9, hP1, hK1, hD1⟩ := hB
            rw [ht] at hP1
            have hK1 := va_K.moved hvm.symm hK1
            obtain ⟨hP, hD⟩ := va_join (wr := [(mr 0, .inl (kI, 3000, .inl ft))]) (w1 := [(m9, .inr (23, mA mr mv vf xl (nI zs) xf xa (nI (tk + 1)) xp xi xt xn xe xv xb)), (mr 5, .inl (kI, 3002, .inl (upd fk1 tk 0))), (mr 6, .inl (kI, 3002, .inl (upd fa1 tk (nI zs)))), (mr 7, .inl (kI, 3002, .inl (upd fe1 tk (nI zs)))), (mr 8, .inl (kL, 3002, .inr (.inl gn9)))]) hP hD [0, 2, 3, 4, 5] [1] rfl rfl (by decide) (by decide) hk1 hFc hP1 hD1
            have hK := hK.app hK1
            generalize H1 = H at hP hS ⊢
            have hP : va_P (dC, dI) vwCl [(mr 0, .inl (kI, 3000, .inl ft)), (m9, .inr (23, mA mr mv vf xl (nI zs) xf xa (nI (tk + 1)) xp xi xt xn xe xv xb)), (mr 5, .inl (kI, 3002, .inl (upd fk1 tk 0))), (mr 6, .inl (kI, 3002, .inl (upd fa1 tk (nI zs)))), (mr 7, .inl (kI, 3002, .inl (upd fe1 tk (nI zs)))), (mr 8, .inl (kL, 3002, .inr (.inl gn9)))] H := hP
            have hD : va_D A [(mr 0, .inl (kI, 3000, .inl ft)), (m9, .inr (23, mA mr mv vf xl (nI zs) xf xa (nI (tk + 1)) xp xi xt xn xe xv xb)), (mr 5, .inl (kI, 3002, .inl (upd fk1 tk 0))), (mr 6, .inl (kI, 3002, .inl (upd fa1 tk (nI zs)))), (mr 7, .inl (kI, 3002, .inl (upd fe1 tk (nI zs)))), (mr 8, .inl (kL, 3002, .inr (.inl gn9)))] := hD
            have hK : va_K (dC, dI) vwCl [(kI, .int), (kL, .long), (kI, .int), (kL, .long)] s := hK
            have hK := hK.sub (tys' := [(kI, .int), (kL, .long)]) [0, 1] rfl
            have hP : va_P (dC, dI) vwCl [(mr 0, .inl (kI, 3000, .inl ft)), (m9, .inr (23, mA mr mv vf xl (nI zs) xf xa (nI (tk + 1)) xp xi xt xn xe xv xb)), (mr 5, .inl (kI, 3002, .inl (upd fk1 tk 0))), (mr 6, .inl (kI, 3002, .inl (upd fa1 tk (nI zs)))), (mr 7, .inl (kI, 3002, .inl (upd fe1 tk (nI zs)))), (mr 8, .inl (kL, 3002, .inr (.inl gn9)))] H := hP
            have hD : va_D A [(mr 0, .inl (kI, 3000, .inl ft)), (m9, .inr (23, mA mr mv vf xl (nI zs) xf xa (nI (tk + 1)) xp xi xt xn xe xv xb)), (mr 5, .inl (kI, 3002, .inl (upd fk1 tk 0))), (mr 6, .inl (kI, 3002, .inl (upd fa1 tk (nI zs)))), (mr 7, .inl (kI, 3002, .inl (upd fe1 tk (nI zs)))), (mr 8, .inl (kL, 3002, .inr (.inl gn9)))] := hD
            have hP9 := hP.sub (ws' := [(m9, .inr (23, mA mr mv vf xl (nI zs) xf xa (nI (tk + 1)) xp xi xt xn xe xv xb)), (mr 0, .inl (kI, 3000, .inl ft)), (mr 5, .inl (kI, 3002, .inl (upd fk1 tk 0))), (mr 6, .inl (kI, 3002, .inl (upd fa1 tk (nI zs)))), (mr 7, .inl (kI, 3002, .inl (upd fe1 tk (nI zs)))), (mr 8, .inl (kL, 3002, .inr (.inl gn9)))]) [1, 0, 2, 3, 4, 5] rfl
            have hD9 := hD.sub (ws' := [(m9, .inr (23, mA mr mv vf xl (nI zs) xf xa (nI (tk + 1)) xp xi xt xn xe xv xb)), (mr 0, .inl (kI, 3000, .inl ft)), (mr 5, .inl (kI, 3002, .inl (upd fk1 tk 0))), (mr 6, .inl (kI, 3002, .inl (upd fa1 tk (nI zs)))), (mr 7, .inl (kI, 3002, .inl (upd fe1 tk (nI zs)))), (mr 8, .inl (kL, 3002, .inr (.inl gn9)))]) [1, 0, 2, 3, 4, 5] (by decide) rfl
            have hK9 := hK.sub (tys' := [(kI, .int), (kL, .long)]) [0, 1] rfl
            subst hQ1
            exact W.vret hx hb hr (fun tS ht hW => ⟨⟨(), rfl, trivial, tk + 1, (upd fk1 tk 0), (upd fa1 tk (nI zs)), (upd fe1 tk (nI zs)), gn9, tkF_of ha1 (by omega) (by omega), by rw [ht]; exact hP9, va_K.moved hW.alike hK9, hD9⟩, hS.F ht⟩) hS.2.2 dX23_scan_171
          · refine lv_aload_n hx hb dX23_scan_41 rfl (lv_at hl 1 rfl) ?_
            refine lv_iload_n hx hb dX23_scan_42 rfl (lv_at hl 0 rfl) ?_
            have hPc := hP.sub (ws' := [(m9, .inr (23, mA mr mv vf xl (nI zs) xf xa (nI tk) xp xi xt xn xe xv xb)), (mr 0, .inl (kI, 3000, .inl ft))]) [0, 1] rfl
            have hDc := hD.sub (ws' := [(m9, .inr (23, mA mr mv vf xl (nI zs) xf xa (nI tk) xp xi xt xn xe xv xb)), (mr 0, .inl (kI, 3000, .inl ft))]) [0, 1] (by decide) rfl
            have hKc := hK.sub (tys' := [(kI, .int)]) [0] rfl
            have hFc := va_free (wc := [(m9, .inr (23, mA mr mv vf xl (nI zs) xf xa (nI tk) xp xi xt xn xe xv xb)), (mr 0, .inl (kI, 3000, .inl ft))]) hD hS hA [0, 1] rfl
            refine va_calli (va_runV (As := [.int (nI i)]) (rest := []) ⟨hx, hb, hml, hown, hts⟩ (c_rat l dC dI m9 mr mv vf xl xf xa xp xi xt xn xe xv xb zs tk i kI ft H.size hzs (by omega)) (cwV 1 hts g_c_rscan_c_rat_43 rfl rfl rfl (by decide +kernel) ⟨Nat.le_of_ble_eq_true rfl, Nat.le_of_ble_eq_true rfl⟩) ⟨fun a U g mk q => by obtain ⟨q0, q1, qP, qK, qD⟩ := q; exact ⟨q0, q1, qP, va_K.moved (u := U) (U := U.calling g mk a) (Vm.Alike.refl U.vm) qK, qD⟩, va_recv hKc hPc (ci := 23) (q0 := 0) rfl rfl, fun U hU hW => ⟨rfl, by rw [hU], by rw [hU]; exact hPc, va_K.moved hW.alike hKc, hDc.weaken (fun _ _ _ _ => trivial)⟩⟩ rfl rfl hl.1 rfl (lv_room (Nat.le_of_ble_eq_true rfl)) dX23_scan_43 ⟨(show 0 + 0 ≤ 0 by omega), (show 0 + 0 ≤ 0 by omega)⟩) hS (fun q _ h => hFc q h) hFc (fun r_4 u tS H1 locs ht hvm hw hB hz1 hk1 hS => ?_)
            obtain ⟨hP1, hK1, hD1⟩ := hB
            rw [ht] at hP1
            have hK1 := va_K.moved hvm.symm hK1
            obtain ⟨hP, hD⟩ := va_join (wr := [(mr 5, .inl (kI, 3002, .inl fk1)), (mr 6, .inl (kI, 3002, .inl fa1)), (mr 7, .inl (kI, 3002, .inl fe1)), (mr 8, .inl (kL, 3002, .inr (.inl fn1)))]) (w1 := [(m9, .inr (23, mA mr mv vf xl (nI zs) xf xa (nI tk) xp xi xt xn xe xv xb)), (mr 0, .inl (kI, 3000, .inl ft))]) hP hD [0, 1] [2, 3, 4, 5] rfl rfl (by decide) (by decide) hk1 hFc hP1 hD1
            have hK := hK.app hK1
            generalize H1 = H at hP hS ⊢
            have hP : va_P (dC, dI) vwCl [(mr 5, .inl (kI, 3002, .inl fk1)), (mr 6, .inl (kI, 3002, .inl fa1)), (mr 7, .inl (kI, 3002, .inl fe1)), (mr 8, .inl (kL, 3002, .inr (.inl fn1))), (m9, .inr (23, mA mr mv vf xl (nI zs) xf xa (nI tk) xp xi xt xn xe xv xb)), (mr 0, .inl (kI, 3000, .inl ft))] H := hP
            have hD : va_D A [(mr 5, .inl (kI, 3002, .inl fk1)), (mr 6, .inl (kI, 3002, .inl fa1)), (mr 7, .inl (kI, 3002, .inl fe1)), (mr 8, .inl (kL, 3002, .inr (.inl fn1))), (m9, .inr (23, mA mr mv vf xl (nI zs) xf xa (nI tk) xp xi xt xn xe xv xb)), (mr 0, .inl (kI, 3000, .inl ft))] := hD
            have hK : va_K (dC, dI) vwCl [(kI, .int), (kL, .long), (kI, .int)] s := hK
            have hK := hK.sub (tys' := [(kI, .int), (kL, .long)]) [0, 1] rfl
            have hP : va_P (dC, dI) vwCl [(mr 5, .inl (kI, 3002, .inl fk1)), (mr 6, .inl (kI, 3002, .inl fa1)), (mr 7, .inl (kI, 3002, .inl fe1)), (mr 8, .inl (kL, 3002, .inr (.inl fn1))), (m9, .inr (23, mA mr mv vf xl (nI zs) xf xa (nI tk) xp xi xt xn xe xv xb)), (mr 0, .inl (kI, 3000, .inl ft))] H := hP
            have hD : va_D A [(mr 5, .inl (kI, 3002, .inl fk1)), (mr 6, .inl (kI, 3002, .inl fa1)), (mr 7, .inl (kI, 3002, .inl fe1)), (mr 8, .inl (kL, 3002, .inr (.inl fn1))), (m9, .inr (23, mA mr mv vf xl (nI zs) xf xa (nI tk) xp xi xt xn xe xv xb)), (mr 0, .inl (kI, 3000, .inl ft))] := hD
            have hr_4 : r_4 = atF ft zs (i) := hw
            refine lv_istore_n (lv' := [(2, .int r_4), (1, .int (nI i)), (0, .ref m9)]) hx hb dX23_scan_46 rfl hl (by decide) rfl (fun ls hl => ?_)
            refine lv_iload_n hx hb dX23_scan_47 rfl (lv_at hl 0 rfl) ?_
            refine lv_bipush (v := 39) hx hb dX23_scan_48 (by decide) ?_
            refine lv_icmp_ne (tgt := 62) hx hb dX23_scan_50 (by decide) (fun h39 => ?_) (fun h39 => ?_)
            · refine lv_iload_n hx hb dX23_scan_62 rfl (lv_at hl 0 rfl) ?_
              have hPc := hP.sub (ws' := []) [] rfl
              have hDc := hD.sub (ws' := []) [] (by decide) rfl
              have hKc := hK.sub (tys' := []) [] rfl
              have hFc := va_free (wc := []) hD hS hA [] rfl
              refine va_calli (va_runS (As := [.int r_4]) (rest := []) ⟨hx, hb, hml, hown, hts⟩ (c_rlet l dC dI r_4 H.size) (va_cwS 1 hts g_c_rscan_c_rlet_63 rfl rfl rfl (by decide +kernel) ⟨Nat.le_of_ble_eq_true rfl, Nat.le_of_ble_eq_true rfl⟩) ⟨fun a U g mk q => by obtain ⟨q0, q1, qP, qK, qD⟩ := q; exact ⟨q0, q1, qP, va_K.moved (u := U) (U := U.calling g mk a) (Vm.Alike.refl U.vm) qK, qD⟩, fun U hU hW => ⟨rfl, by rw [hU], by rw [hU]; exact hPc, va_K.moved hW.alike hKc, hDc.weaken (fun _ _ _ _ => trivial)⟩⟩ rfl rfl hl.1 rfl (lv_room (Nat.le_of_ble_eq_true rfl)) dX23_scan_63 ⟨(show 0 + 0 ≤ 0 by omega), (show 0 + 0 ≤ 0 by omega)⟩) hS (fun q _ h => hFc q h) hFc (fun r_5 u tS H1 locs ht hvm hw hB hz1 hk1 hS => ?_)
              obtain ⟨hP1, hK1, hD1⟩ := hB
              rw [ht] at hP1
              have hK1 := va_K.moved hvm.symm hK1
              obtain ⟨hP, hD⟩ := va_join (wr := [(mr 5, .inl (kI, 3002, .inl fk1)), (mr 6, .inl (kI, 3002, .inl fa1)), (mr 7, .inl (kI, 3002, .inl fe1)), (mr 8, .inl (kL, 3002, .inr (.inl fn1))), (m9, .inr (23, mA mr mv vf xl (nI zs) xf xa (nI tk) xp xi xt xn xe xv xb)), (mr 0, .inl (kI, 3000, .inl ft))]) (w1 := []) hP hD [] [0, 1, 2, 3, 4, 5] rfl rfl (by decide) (by decide) hk1 hFc hP1 hD1
              generalize H1 = H at hP hS ⊢
              have hP : va_P (dC, dI) vwCl [(mr 5, .inl (kI, 3002, .inl fk1)), (mr 6, .inl (kI, 3002, .inl fa1)), (mr 7, .inl (kI, 3002, .inl fe1)), (mr 8, .inl (kL, 3002, .inr (.inl fn1))), (m9, .inr (23, mA mr mv vf xl (nI zs) xf xa (nI tk) xp xi xt xn xe xv xb)), (mr 0, .inl (kI, 3000, .inl ft))] H := hP
              have hD : va_D A [(mr 5, .inl (kI, 3002, .inl fk1)), (mr 6, .inl (kI, 3002, .inl fa1)), (mr 7, .inl (kI, 3002, .inl fe1)), (mr 8, .inl (kL, 3002, .inr (.inl fn1))), (m9, .inr (23, mA mr mv vf xl (nI zs) xf xa (nI tk) xp xi xt xn xe xv xb)), (mr 0, .inl (kI, 3000, .inl ft))] := hD
              have hK : va_K (dC, dI) vwCl [(kI, .int), (kL, .long)] s := hK
              have hr_5 : r_5 = letF r_4 := hw.2
              refine lv_if_eq (tgt := 127) hx hb dX23_scan_66 (by decide) (fun hlt0 => ?_) (fun hlt0 => ?_)
              · refine lv_iload_n hx hb dX23_scan_127 rfl (lv_at hl 0 rfl) ?_
                have hPc := hP.sub (ws' := []) [] rfl
                have hDc := hD.sub (ws' := []) [] (by decide) rfl
                have hKc := hK.sub (tys' := []) [] rfl
                have hFc := va_free (wc := []) hD hS hA [] rfl
                refine va_calli (va_runS (As := [.int r_4]) (rest := []) ⟨hx, hb, hml, hown, hts⟩ (c_rdig l dC dI r_4 H.size) (va_cwS 1 hts g_c_rscan_c_rdig_128 rfl rfl rfl (by decide +kernel) ⟨Nat.le_of_ble_eq_true rfl, Nat.le_of_ble_eq_true rfl⟩) ⟨fun a U g mk q => by obtain ⟨q0, q1, qP, qK, qD⟩ := q; exact ⟨q0, q1, qP, va_K.moved (u := U) (U := U.calling g mk a) (Vm.Alike.refl U.vm) qK, qD⟩, fun U hU hW => ⟨rfl, by rw [hU], by rw [hU]; exact hPc, va_K.moved hW.alike hKc, hDc.weaken (fun _ _ _ _ => trivial)⟩⟩ rfl rfl hl.1 rfl (lv_room (Nat.le_of_ble_eq_true rfl)) dX23_scan_128 ⟨(show 0 + 0 ≤ 0 by omega), (show 0 + 0 ≤ 0 by omega)⟩) hS (fun q _ h => hFc q h) hFc (fun r_6 u tS H1 locs ht hvm hw hB hz1 hk1 hS => ?_)
                obtain ⟨hP1, hK1, hD1⟩ := hB
                rw [ht] at hP1
                have hK1 := va_K.moved hvm.symm hK1
                obtain ⟨hP, hD⟩ := va_join (wr := [(mr 5, .inl (kI, 3002, .inl fk1)), (mr 6, .inl (kI, 3002, .inl fa1)), (mr 7, .inl (kI, 3002, .inl fe1)), (mr 8, .inl (kL, 3002, .inr (.inl fn1))), (m9, .inr (23, mA mr mv vf xl (nI zs) xf xa (nI tk) xp xi xt xn xe xv xb)), (mr 0, .inl (kI, 3000, .inl ft))]) (w1 := []) hP hD [] [0, 1, 2, 3, 4, 5] rfl rfl (by decide) (by decide) hk1 hFc hP1 hD1
                generalize H1 = H at hP hS ⊢
                have hP : va_P (dC, dI) vwCl [(mr 5, .inl (kI, 3002, .inl fk1)), (mr 6, .inl (kI, 3002, .inl fa1)), (mr 7, .inl (kI, 3002, .inl fe1)), (mr 8, .inl (kL, 3002, .inr (.inl fn1))), (m9, .inr (23, mA mr mv vf xl (nI zs) xf xa (nI tk) xp xi xt xn xe xv xb)), (mr 0, .inl (kI, 3000, .inl ft))] H := hP
                have hD : va_D A [(mr 5, .inl (kI, 3002, .inl fk1)), (mr 6, .inl (kI, 3002, .inl fa1)), (mr 7, .inl (kI, 3002, .inl fe1)), (mr 8, .inl (kL, 3002, .inr (.inl fn1))), (m9, .inr (23, mA mr mv vf xl (nI zs) xf xa (nI tk) xp xi xt xn xe xv xb)), (mr 0, .inl (kI, 3000, .inl ft))] := hD
                have hK : va_K (dC, dI) vwCl [(kI, .int), (kL, .long)] s := hK
                have hr_6 : r_6 = digF r_4 := hw.2
                refine lv_if_eq (tgt := 142) hx hb dX23_scan_131 (by decide) (fun hdg0 => ?_) (fun hdg0 => ?_)
                · refine lv_aload_n hx hb dX23_scan_142 rfl (lv_at hl 2 rfl) ?_
                  refine lv_iload_n hx hb dX23_scan_143 rfl (lv_at hl 1 rfl) ?_
                  have hPc := hP.sub (ws' := [(m9, .inr (23, mA mr mv vf xl (nI zs) xf xa (nI tk) xp xi xt xn xe xv xb)), (mr 0, .inl (kI, 3000, .inl ft)), (mr 5, .inl (kI, 3002, .inl fk1)), (mr 6, .inl (kI, 3002, .inl fa1)), (mr 7, .inl (kI, 3002, .inl fe1)), (mr 8, .inl (kL, 3002, .inr (.inl fn1)))]) [4, 5, 0, 1, 2, 3] rfl
                  have hDc := hD.sub (ws' := [(m9, .inr (23, mA mr mv vf xl (nI zs) xf xa (nI tk) xp xi xt xn xe xv xb)), (mr 0, .inl (kI, 3000, .inl ft)), (mr 5, .inl (kI, 3002, .inl fk1)), (mr 6, .inl (kI, 3002, .inl fa1)), (mr 7, .inl (kI, 3002, .inl fe1)), (mr 8, .inl (kL, 3002, .inr (.inl fn1)))]) [4, 5, 0, 1, 2, 3] (by decide) rfl
                  have hKc := hK.sub (tys' := [(kI, .int), (kL, .long)]) [0, 1] rfl
                  have hFc := va_free (wc := [(m9, .inr (23, mA mr mv vf xl (nI zs) xf xa (nI tk) xp xi xt xn xe xv xb)), (mr 0, .inl (kI, 3000, .inl ft)), (mr 5, .inl (kI, 3002, .inl fk1)), (mr 6, .inl (kI, 3002, .inl fa1)), (mr 7, .inl (kI, 3002, .inl fe1)), (mr 8, .inl (kL, 3002, .inr (.inl fn1)))]) hD hS hA [4, 5, 0, 1, 2, 3] rfl
                  refine va_calli (va_runV (As := [.int (nI i)]) (rest := []) ⟨hx, hb, hml, hown, hts⟩ (c_rsgn l dC dI m9 mr mv vf xl xf xa xp xi xt xn xe xv xb zs tk kI kL ft fk1 fa1 fe1 fn1 i t0 t1 t2 t3 H.size hzs (by omega) hisz) (cwV 1 hts g_c_rscan_c_rsgn_144 rfl rfl rfl (by decide +kernel) ⟨Nat.le_of_ble_eq_true rfl, Nat.le_of_ble_eq_true rfl⟩) ⟨fun a U g mk q => by obtain ⟨q0, q1, qP, qK, qD, qx0⟩ := q; exact ⟨q0, q1, qP, va_K.moved (u := U) (U := U.calling g mk a) (Vm.Alike.refl U.vm) qK, qD, stA.moved (u := U) (U := U.calling g mk a) (Vm.Alike.refl U.vm) qx0⟩, va_recv hKc hPc (ci := 23) (q0 := 0) rfl rfl, fun U hU hW => ⟨rfl, by rw [hU], by rw [hU]; exact hPc, va_K.moved hW.alike hKc, hDc.weaken (fun _ _ _ _ => trivial), by rw [hU]; exact ((hpre0.kept hS.2.1).moved hW.alike).narrow hFc⟩⟩ rfl rfl hl.1 rfl (lv_room (Nat.le_of_ble_eq_true rfl)) dX23_scan_144 ⟨(show 0 + 0 ≤ 0 by omega), (show 0 + 0 ≤ 0 by omega)⟩) hS (fun q _ h => hFc q h) hFc (fun r_7 u_8 tS H1 locs ht hvm hw hB hz1 hk1 hS => ?_)
                  obtain ⟨kd9, gn9, hf8_0, hP1, hK1, hD1⟩ := hB
                  rw [ht] at hP1
                  have hK1 := va_K.moved hvm.symm hK1
                  obtain ⟨hP, hD⟩ := va_join (wr := []) (w1 := [(m9, .inr (23, mA mr mv vf xl (nI zs) xf xa (nI (tk + 1)) xp xi xt xn xe xv xb)), (mr 0, .inl (kI, 3000, .inl ft)), (mr 5, .inl (kI, 3002, .inl (upd fk1 tk kd9))), (mr 6, .inl (kI, 3002, .inl (upd fa1 tk (nI i)))), (mr 7, .inl (kI, 3002, .inl (upd fe1 tk (nI u_8)))), (mr 8, .inl (kL, 3002, .inr (.inl gn9)))]) hP hD [4, 5, 0, 1, 2, 3] [] rfl rfl (by decide) (by decide) hk1 hFc hP1 hD1
                  have hK := hK.app hK1
                  generalize H1 = H at hP hS ⊢
                  have hP : va_P (dC, dI) vwCl [(m9, .inr (23, mA mr mv vf xl (nI zs) xf xa (nI (tk + 1)) xp xi xt xn xe xv xb)), (mr 0, .inl (kI, 3000, .inl ft)), (mr 5, .inl (kI, 3002, .inl (upd fk1 tk kd9))), (mr 6, .inl (kI, 3002, .inl (upd fa1 tk (nI i)))), (mr 7, .inl (kI, 3002, .inl (upd fe1 tk (nI u_8)))), (mr 8, .inl (kL, 3002, .inr (.inl gn9)))] H := hP
                  have hD : va_D A [(m9, .inr (23, mA mr mv vf xl (nI zs) xf xa (nI (tk + 1)) xp xi xt xn xe xv xb)), (mr 0, .inl (kI, 3000, .inl ft)), (mr 5, .inl (kI, 3002, .inl (upd fk1 tk kd9))), (mr 6, .inl (kI, 3002, .inl (upd fa1 tk (nI i)))), (mr 7, .inl (kI, 3002, .inl (upd fe1 tk (nI u_8)))), (mr 8, .inl (kL, 3002, .inr (.inl gn9)))] := hD
                  have hK : va_K (dC, dI) vwCl [(kI, .int), (kL, .long), (kI, .int), (kL, .long)] s := hK
                  have hK := hK.sub (tys' := [(kI, .int), (kL, .long)]) [0, 1] rfl
                  have hP : va_P (dC, dI) vwCl [(m9, .inr (23, mA mr mv vf xl (nI zs) xf xa (nI (tk + 1)) xp xi xt xn xe xv xb)), (mr 0, .inl (kI, 3000, .inl ft)), (mr 5, .inl (kI, 3002, .inl (upd fk1 tk kd9))), (mr 6, .inl (kI, 3002, .inl (upd fa1 tk (nI i)))), (mr 7, .inl (kI, 3002, .inl (upd fe1 tk (nI u_8)))), (mr 8, .inl (kL, 3002, .inr (.inl gn9)))] H := hP
                  have hD : va_D A [(m9, .inr (23, mA mr mv vf xl (nI zs) xf xa (nI (tk + 1)) xp xi xt xn xe xv xb)), (mr 0, .inl (kI, 3000, .inl ft)), (mr 5, .inl (kI, 3002, .inl (upd fk1 tk kd9))), (mr 6, .inl (kI, 3002, .inl (upd fa1 tk (nI i)))), (mr 7, .inl (kI, 3002, .inl (upd fe1 tk (nI u_8)))), (mr 8, .inl (kL, 3002, .inr (.inl gn9)))] := hD
                  obtain rfl : r_7 = nI u_8 := hw
                  obtain ⟨hu1, hu2, hu3, hu4⟩ := hf8_0
                  refine lv_istore_n (lv' := [(1, .int (nI u_8)), (2, .int r_4), (0, .ref m9)]) hx hb dX23_scan_147 rfl hl (by decide) rfl (fun ls hl => ?_)
                  refine lv_aload_n hx hb dX23_scan_148 rfl (lv_at hl 2 rfl) ?_
                  refine lv_iload_n hx hb dX23_scan_149 rfl (lv_at hl 0 rfl) ?_
                  have hPc := hP.sub (ws' := [(m9, .inr (23, mA mr mv vf xl (nI zs) xf xa (nI (tk + 1)) xp xi xt xn xe xv xb)), (mr 0, .inl (kI, 3000, .inl ft))]) [0, 1] rfl
                  have hDc := hD.sub (ws' := [(m9, .inr (23, mA mr mv vf xl (nI zs) xf xa (nI (tk + 1)) xp xi xt xn xe xv xb)), (mr 0, .inl (kI, 3000, .inl ft))]) [0, 1] (by decide) rfl
                  have hKc := hK.sub (tys' := [(kI, .int)]) [0] rfl
                  have hFc := va_free (wc := [(m9, .inr (23, mA mr mv vf xl (nI zs) xf xa (nI (tk + 1)) xp xi xt xn xe xv xb)), (mr 0, .inl (kI, 3000, .inl ft))]) hD hS hA [0, 1] rfl
                  refine va_calli (va_runV (As := [.int (nI u_8)]) (rest := []) ⟨hx, hb, hml, hown, hts⟩ (c_rblk l dC dI m9 mr mv vf xl xf xa xp xi xt xn xe xv xb zs (tk + 1) u_8 kI ft H.size hzs (by omega)) (cwV 1 hts g_c_rscan_c_rblk_150 rfl rfl rfl (by decide +kernel) ⟨Nat.le_of_ble_eq_true rfl, Nat.le_of_ble_eq_true rfl⟩) ⟨fun a U g mk q => by obtain ⟨q0, q1, qP, qK, qD⟩ := q; exact ⟨q0, q1, qP, va_K.moved (u := U) (U := U.calling g mk a) (Vm.Alike.refl U.vm) qK, qD⟩, va_recv hKc hPc (ci := 23) (q0 := 0) rfl rfl, fun U hU hW => ⟨rfl, by rw [hU], by rw [hU]; exact hPc, va_K.moved hW.alike hKc, hDc.weaken (fun _ _ _ _ => trivial)⟩⟩ rfl rfl hl.1 rfl (lv_room (Nat.le_of_ble_eq_true rfl)) dX23_scan_150 ⟨(show 0 + 0 ≤ 0 by omega), (show 0 + 0 ≤ 0 by omega)⟩) hS (fun q _ h => hFc q h) hFc (fun r_9 u tS H1 locs ht hvm hw hB hz1 hk1 hS => ?_)
                  obtain ⟨hP1, hK1, hD1⟩ := hB
                  rw [ht] at hP1
                  have hK1 := va_K.moved hvm.symm hK1
                  obtain ⟨hP, hD⟩ := va_join (wr := [(mr 5, .inl (kI, 3002, .inl (upd fk1 tk kd9))), (mr 6, .inl (kI, 3002, .inl (upd fa1 tk (nI i)))), (mr 7, .inl (kI, 3002, .inl (upd fe1 tk (nI u_8)))), (mr 8, .inl (kL, 3002, .inr (.inl gn9)))]) (w1 := [(m9, .inr (23, mA mr mv vf xl (nI zs) xf xa (nI (tk + 1)) xp xi xt xn xe xv xb)), (mr 0, .inl (kI, 3000, .inl ft))]) hP hD [0, 1] [2, 3, 4, 5] rfl rfl (by decide) (by decide) hk1 hFc hP1 hD1
                  have hK := hK.app hK1
                  generalize H1 = H at hP hS ⊢
                  have hP : va_P (dC, dI) vwCl [(mr 5, .inl (kI, 3002, .inl (upd fk1 tk kd9))), (mr 6, .inl (kI, 3002, .inl (upd fa1 tk (nI i)))), (mr 7, .inl (kI, 3002, .inl (upd fe1 tk (nI u_8)))), (mr 8, .inl (kL, 3002, .inr (.inl gn9))), (m9, .inr (23, mA mr mv vf xl (nI zs) xf xa (nI (tk + 1)) xp xi xt xn xe xv xb)), (mr 0, .inl (kI, 3000, .inl ft))] H := hP
                  have hD : va_D A [(mr 5, .inl (kI, 3002, .inl (upd fk1 tk kd9))), (mr 6, .inl (kI, 3002, .inl (upd fa1 tk (nI i)))), (mr 7, .inl (kI, 3002, .inl (upd fe1 tk (nI u_8)))), (mr 8, .inl (kL, 3002, .inr (.inl gn9))), (m9, .inr (23, mA mr mv vf xl (nI zs) xf xa (nI (tk + 1)) xp xi xt xn xe xv xb)), (mr 0, .inl (kI, 3000, .inl ft))] := hD
                  have hK : va_K (dC, dI) vwCl [(kI, .int), (kL, .long), (kI, .int)] s := hK
                  have hK := hK.sub (tys' := [(kI, .int), (kL, .long)]) [0, 1] rfl
                  have hP : va_P (dC, dI) vwCl [(mr 5, .inl (kI, 3002, .inl (upd fk1 tk kd9))), (mr 6, .inl (kI, 3002, .inl (upd fa1 tk (nI i)))), (mr 7, .inl (kI, 3002, .inl (upd fe1 tk (nI u_8)))), (mr 8, .inl (kL, 3002, .inr (.inl gn9))), (m9, .inr (23, mA mr mv vf xl (nI zs) xf xa (nI (tk + 1)) xp xi xt xn xe xv xb)), (mr 0, .inl (kI, 3000, .inl ft))] H := hP
                  have hD : va_D A [(mr 5, .inl (kI, 3002, .inl (upd fk1 tk kd9))), (mr 6, .inl (kI, 3002, .inl (upd fa1 tk (nI i)))), (mr 7, .inl (kI, 3002, .inl (upd fe1 tk (nI u_8)))), (mr 8, .inl (kL, 3002, .inr (.inl gn9))), (m9, .inr (23, mA mr mv vf xl (nI zs) xf xa (nI (tk + 1)) xp xi xt xn xe xv xb)), (mr 0, .inl (kI, 3000, .inl ft))] := hD
                  obtain ⟨i9, hi9, hi8, hi7⟩ := hw
                  subst hi9
                  refine lv_istore_n (lv' := [(1, .int (nI i9)), (2, .int r_4), (0, .ref m9)]) hx hb dX23_scan_153 rfl hl (by decide) rfl (fun ls hl => ?_)
                  refine lv_goto (tgt := 11) hx hb dX23_scan_154 (by decide) ?_
                  exact ih1 i9 (tk + 1) (upd fk1 tk kd9) (upd fa1 tk (nI i)) (upd fe1 tk (nI u_8)) gn9 _ _ _ (by omega) (tkR_up (tkR_add ha1 (Nat.le_refl _) (by omega) hu3 (fun q => absurd q hu4)) (by omega)) (hP.sub [4, 5, 0, 1, 2, 3] rfl) (hD.sub [4, 5, 0, 1, 2, 3] (by decide) rfl) hS (lv_sub hl [0, 2] rfl)
                · refine lv_aload_n hx hb dX23_scan_134 rfl (lv_at hl 2 rfl) ?_
                  refine lv_iload_n hx hb dX23_scan_135 rfl (lv_at hl 1 rfl) ?_
                  have hPc := hP.sub (ws' := [(m9, .inr (23, mA mr mv vf xl (nI zs) xf xa (nI tk) xp xi xt xn xe xv xb)), (mr 0, .inl (kI, 3000, .inl ft)), (mr 5, .inl (kI, 3002, .inl fk1)), (mr 6, .inl (kI, 3002, .inl fa1)), (mr 7, .inl (kI, 3002, .inl fe1)), (mr 8, .inl (kL, 3002, .inr (.inl fn1)))]) [4, 5, 0, 1, 2, 3] rfl
                  have hDc := hD.sub (ws' := [(m9, .inr (23, mA mr mv vf xl (nI zs) xf xa (nI tk) xp xi xt xn xe xv xb)), (mr 0, .inl (kI, 3000, .inl ft)), (mr 5, .inl (kI, 3002, .inl fk1)), (mr 6, .inl (kI, 3002, .inl fa1)), (mr 7, .inl (kI, 3002, .inl fe1)), (mr 8, .inl (kL, 3002, .inr (.inl fn1)))]) [4, 5, 0, 1, 2, 3] (by decide) rfl
                  have hKc := hK.sub (tys' := [(kI, .int), (kL, .long)]) [0, 1] rfl
                  have hFc := va_free (wc := [(m9, .inr (23, mA mr mv vf xl (nI zs) xf xa (nI tk) xp xi xt xn xe xv xb)), (mr 0, .inl (kI, 3000, .inl ft)), (mr 5, .inl (kI, 3002, .inl fk1)), (mr 6, .inl (kI, 3002, .inl fa1)), (mr 7, .inl (kI, 3002, .inl fe1)), (mr 8, .inl (kL, 3002, .inr (.inl fn1)))]) hD hS hA [4, 5, 0, 1, 2, 3] rfl
                  refine va_calli (va_runV (As := [.int (nI i)]) (rest := []) ⟨hx, hb, hml, hown, hts⟩ (c_rnum l dC dI m9 mr mv vf xl xf xa xp xi xt xn xe xv xb zs tk kI kL ft fk1 fa1 fe1 fn1 i H.size hzs (by omega) hisz (by rw [← hr_4, ← hr_6]; exact hdg0)) (cwV 1 hts g_c_rscan_c_rnum_136 rfl rfl rfl (by decide +kernel) ⟨Nat.le_of_ble_eq_true rfl, Nat.le_of_ble_eq_true rfl⟩) ⟨fun a U g mk q => by obtain ⟨q0, q1, qP, qK, qD⟩ := q; exact ⟨q0, q1, qP, va_K.moved (u := U) (U := U.calling g mk a) (Vm.Alike.refl U.vm) qK, qD⟩, va_recv hKc hPc (ci := 23) (q0 := 0) rfl rfl, fun U hU hW => ⟨rfl, by rw [hU], by rw [hU]; exact hPc, va_K.moved hW.alike hKc, hDc.weaken (fun _ _ _ _ => trivial)⟩⟩ rfl rfl hl.1 rfl (lv_room (Nat.le_of_ble_eq_true rfl)) dX23_scan_136 ⟨(show 0 + 0 ≤ 0 by omega), (show 0 + 0 ≤ 0 by omega)⟩) hS (fun q _ h => hFc q h) hFc (fun r_7 u_8 tS H1 locs ht hvm hw hB hz1 hk1 hS => ?_)
                  obtain ⟨kd9, gn9, hf8_0, hP1, hK1, hD1⟩ := hB
                  rw [ht] at hP1
                  have hK1 := va_K.moved hvm.symm hK1
                  obtain ⟨hP, hD⟩ := va_join (wr := []) (w1 := [(m9, .inr (23, mA mr mv vf xl (nI zs) xf xa (nI (tk + 1)) xp xi xt xn xe xv xb)), (mr 0, .inl (kI, 3000, .inl ft)), (mr 5, .inl (kI, 3002, .inl (upd fk1 tk kd9))), (mr 6, .inl (kI, 3002, .inl (upd fa1 tk (nI i)))), (mr 7, .inl (kI, 3002, .inl (upd fe1 tk (nI u_8)))), (mr 8, .inl (kL, 3002, .inr (.inl gn9)))]) hP hD [4, 5, 0, 1, 2, 3] [] rfl rfl (by decide) (by decide) hk1 hFc hP1 hD1
                  have hK := hK.app hK1
                  generalize H1 = H at hP hS ⊢
                  have hP : va_P (dC, dI) vwCl [(m9, .inr (23, mA mr mv vf xl (nI zs) xf xa (nI (tk + 1)) xp xi xt xn xe xv xb)), (mr 0, .inl (kI, 3000, .inl ft)), (mr 5, .inl (kI, 3002, .inl (upd fk1 tk kd9))), (mr 6, .inl (kI, 3002, .inl (upd fa1 tk (nI i)))), (mr 7, .inl (kI, 3002, .inl (upd fe1 tk (nI u_8)))), (mr 8, .inl (kL, 3002, .inr (.inl gn9)))] H := hP
                  have hD : va_D A [(m9, .inr (23, mA mr mv vf xl (nI zs) xf xa (nI (tk + 1)) xp xi xt xn xe xv xb)), (mr 0, .inl (kI, 3000, .inl ft)), (mr 5, .inl (kI, 3002, .inl (upd fk1 tk kd9))), (mr 6, .inl (kI, 3002, .inl (upd fa1 tk (nI i)))), (mr 7, .inl (kI, 3002, .inl (upd fe1 tk (nI u_8)))), (mr 8, .inl (kL, 3002, .inr (.inl gn9)))] := hD
                  have hK : va_K (dC, dI) vwCl [(kI, .int), (kL, .long), (kI, .int), (kL, .long)] s := hK
                  have hK := hK.sub (tys' := [(kI, .int), (kL, .long)]) [0, 1] rfl
                  have hP : va_P (dC, dI) vwCl [(m9, .inr (23, mA mr mv vf xl (nI zs) xf xa (nI (tk + 1)) xp xi xt xn xe xv xb)), (mr 0, .inl (kI, 3000, .inl ft)), (mr 5, .inl (kI, 3002, .inl (upd fk1 tk kd9))), (mr 6, .inl (kI, 3002, .inl (upd fa1 tk (nI i)))), (mr 7, .inl (kI, 3002, .inl (upd fe1 tk (nI u_8)))), (mr 8, .inl (kL, 3002, .inr (.inl gn9)))] H := hP
                  have hD : va_D A [(m9, .inr (23, mA mr mv vf xl (nI zs) xf xa (nI (tk + 1)) xp xi xt xn xe xv xb)), (mr 0, .inl (kI, 3000, .inl ft)), (mr 5, .inl (kI, 3002, .inl (upd fk1 tk kd9))), (mr 6, .inl (kI, 3002, .inl (upd fa1 tk (nI i)))), (mr 7, .inl (kI, 3002, .inl (upd fe1 tk (nI u_8)))), (mr 8, .inl (kL, 3002, .inr (.inl gn9)))] := hD
                  obtain rfl : r_7 = nI u_8 := hw
                  obtain ⟨hu1, hu2, hu3, hu4⟩ := hf8_0
                  refine lv_goto (tgt := 147) hx hb dX23_scan_139 (by decide) ?_
                  refine lv_istore_n (lv' := [(1, .int (nI u_8)), (2, .int r_4), (0, .ref m9)]) hx hb dX23_scan_147 rfl hl (by decide) rfl (fun ls hl => ?_)
                  refine lv_aload_n hx hb dX23_scan_148 rfl (lv_at hl 2 rfl) ?_
                  refine lv_iload_n hx hb dX23_scan_149 rfl (lv_at hl 0 rfl) ?_
                  have hPc := hP.sub (ws' := [(m9, .inr (23, mA mr mv vf xl (nI zs) xf xa (nI (tk + 1)) xp xi xt xn xe xv xb)), (mr 0, .inl (kI, 3000, .inl ft))]) [0, 1] rfl
                  have hDc := hD.sub (ws' := [(m9, .inr (23, mA mr mv vf xl (nI zs) xf xa (nI (tk + 1)) xp xi xt xn xe xv xb)), (mr 0, .inl (kI, 3000, .inl ft))]) [0, 1] (by decide) rfl
                  have hKc := hK.sub (tys' := [(kI, .int)]) [0] rfl
                  have hFc := va_free (wc := [(m9, .inr (23, mA mr mv vf xl (nI zs) xf xa (nI (tk + 1)) xp xi xt xn xe xv xb)), (mr 0, .inl (kI, 3000, .inl ft))]) hD hS hA [0, 1] rfl
                  refine va_calli (va_runV (As := [.int (nI u_8)]) (rest := []) ⟨hx, hb, hml, hown, hts⟩ (c_rblk l dC dI m9 mr mv vf xl xf xa xp xi xt xn xe xv xb zs (tk + 1) u_8 kI ft H.size hzs (by omega)) (cwV 1 hts g_c_rscan_c_rblk_150 rfl rfl rfl (by decide +kernel) ⟨Nat.le_of_ble_eq_true rfl, Nat.le_of_ble_eq_true rfl⟩) ⟨fun a U g mk q => by obtain ⟨q0, q1, qP, qK, qD⟩ := q; exact ⟨q0, q1, qP, va_K.moved (u := U) (U := U.calling g mk a) (Vm.Alike.refl U.vm) qK, qD⟩, va_recv hKc hPc (ci := 23) (q0 := 0) rfl rfl, fun U hU hW => ⟨rfl, by rw [hU], by rw [hU]; exact hPc, va_K.moved hW.alike hKc, hDc.weaken (fun _ _ _ _ => trivial)⟩⟩ rfl rfl hl.1 rfl (lv_room (Nat.le_of_ble_eq_true rfl)) dX23_scan_150 ⟨(show 0 + 0 ≤ 0 by omega), (show 0 + 0 ≤ 0 by omega)⟩) hS (fun q _ h => hFc q h) hFc (fun r_9 u tS H1 locs ht hvm hw hB hz1 hk1 hS => ?_)
                  obtain ⟨hP1, hK1, hD1⟩ := hB
                  rw [ht] at hP1
                  have hK1 := va_K.moved hvm.symm hK1
                  obtain ⟨hP, hD⟩ := va_join (wr := [(mr 5, .inl (kI, 3002, .inl (upd fk1 tk kd9))), (mr 6, .inl (kI, 3002, .inl (upd fa1 tk (nI i)))), (mr 7, .inl (kI, 3002, .inl (upd fe1 tk (nI u_8)))), (mr 8, .inl (kL, 3002, .inr (.inl gn9)))]) (w1 := [(m9, .inr (23, mA mr mv vf xl (nI zs) xf xa (nI (tk + 1)) xp xi xt xn xe xv xb)), (mr 0, .inl (kI, 3000, .inl ft))]) hP hD [0, 1] [2, 3, 4, 5] rfl rfl (by decide) (by decide) hk1 hFc hP1 hD1
                  have hK := hK.app hK1
                  generalize H1 = H at hP hS ⊢
                  have hP : va_P (dC, dI) vwCl [(mr 5, .inl (kI, 3002, .inl (upd fk1 tk kd9))), (mr 6, .inl (kI, 3002, .inl (upd fa1 tk (nI i)))), (mr 7, .inl (kI, 3002, .inl (upd fe1 tk (nI u_8)))), (mr 8, .inl (kL, 3002, .inr (.inl gn9))), (m9, .inr (23, mA mr mv vf xl (nI zs) xf xa (nI (tk + 1)) xp xi xt xn xe xv xb)), (mr 0, .inl (kI, 3000, .inl ft))] H := hP
                  have hD : va_D A [(mr 5, .inl (kI, 3002, .inl (upd fk1 tk kd9))), (mr 6, .inl (kI, 3002, .inl (upd fa1 tk (nI i)))), (mr 7, .inl (kI, 3002, .inl (upd fe1 tk (nI u_8)))), (mr 8, .inl (kL, 3002, .inr (.inl gn9))), (m9, .inr (23, mA mr mv vf xl (nI zs) xf xa (nI (tk + 1)) xp xi xt xn xe xv xb)), (mr 0, .inl (kI, 3000, .inl ft))] := hD
                  have hK : va_K (dC, dI) vwCl [(kI, .int), (kL, .long), (kI, .int)] s := hK
                  have hK := hK.sub (tys' := [(kI, .int), (kL, .long)]) [0, 1] rfl
                  have hP : va_P (dC, dI) vwCl [(mr 5, .inl (kI, 3002, .inl (upd fk1 tk kd9))), (mr 6, .inl (kI, 3002, .inl (upd fa1 tk (nI i)))), (mr 7, .inl (kI, 3002, .inl (upd fe1 tk (nI u_8)))), (mr 8, .inl (kL, 3002, .inr (.inl gn9))), (m9, .inr (23, mA mr mv vf xl (nI zs) xf xa (nI (tk + 1)) xp xi xt xn xe xv xb)), (mr 0, .inl (kI, 3000, .inl ft))] H := hP
                  have hD : va_D A [(mr 5, .inl (kI, 3002, .inl (upd fk1 tk kd9))), (mr 6, .inl (kI, 3002, .inl (upd fa1 tk (nI i)))), (mr 7, .inl (kI, 3002, .inl (upd fe1 tk (nI u_8)))), (mr 8, .inl (kL, 3002, .inr (.inl gn9))), (m9, .inr (23, mA mr mv vf xl (nI zs) xf xa (nI (tk + 1)) xp xi xt xn xe xv xb)), (mr 0, .inl (kI, 3000, .inl ft))] := hD
                  obtain ⟨i9, hi9, hi8, hi7⟩ := hw
                  subst hi9
                  refine lv_istore_n (lv' := [(1, .int (nI i9)), (2, .int r_4), (0, .ref m9)]) hx hb dX23_scan_153 rfl hl (by decide) rfl (fun ls hl => ?_)
                  refine lv_goto (tgt := 11) hx hb dX23_scan_154 (by decide) ?_
                  exact ih1 i9 (tk + 1) (upd fk1 tk kd9) (upd fa1 tk (nI i)) (upd fe1 tk (nI u_8)) gn9 _ _ _ (by omega) (tkR_up (tkR_add ha1 (Nat.le_refl _) (by omega) hu3 (fun q => absurd q hu4)) (by omega)) (hP.sub [4, 5, 0, 1, 2, 3] rfl) (hD.sub [4, 5, 0, 1, 2, 3] (by decide) rfl) hS (lv_sub hl [0, 2] rfl)
              · refine lv_iload_n hx hb dX23_scan_69 rfl (lv_at hl 1 rfl) ?_
                refine lv_istore_n (lv' := [(3, .int (nI i)), (2, .int r_4), (1, .int (nI i)), (0, .ref m9)]) hx hb dX23_scan_70 rfl hl (by decide) rfl (fun ls hl => ?_)
                refine W_q (fun Q2 hQ2 => ?_)
                have key2 : ∀ (n2 : Nat) (j : Nat) (H : Heap) (locs : List Loc) (ls : Array Slot), (j + n2 = zs + 1 ∧ j ≤ zs) → (i ≤ j) → va_P (dC, dI) vwCl [(m9, .inr (23, mA mr mv vf xl (nI zs) xf xa (nI tk) xp xi xt xn xe xv xb)), (mr 0, .inl (kI, 3000, .inl ft)), (mr 5, .inl (kI, 3002, .inl fk1)), (mr 6, .inl (kI, 3002, .inl fa1)), (mr 7, .inl (kI, 3002, .inl fe1)), (mr 8, .inl (kL, 3002, .inr (.inl fn1)))] H → va_D A [(m9, .inr (23, mA mr mv vf xl (nI zs) xf xa (nI tk) xp xi xt xn xe xv xb)), (mr 0, .inl (kI, 3000, .inl ft)), (mr 5, .inl (kI, 3002, .inl fk1)), (mr 6, .inl (kI, 3002, .inl fa1)), (mr 7, .inl (kI, 3002, .inl fe1)), (mr 8, .inl (kL, 3002, .inr (.inl fn1)))] → va_S A s.heap H locs → lv_has ls 4 [(1, .int (nI j)), (3, .int (nI i)), (2, .int r_4), (0, .ref m9)] → W p l e (headSpec wp_c_rscan ({ frames := 3, cells := 0, slots := 0, locals := 71 })).room s m ([.ref m9] : List Value).toArray below meth c H locs 0 0 Q2 (F0 m 71 ls []) := by
                  intro n2
                  induction n2 with
                  | zero => intro j H locs ls hb0 hb1; exact absurd hb0 (by omega)
                  | succ n2 ih2 =>
                    intro j H locs ls hb0 hb1 hP hD hS hl
                    refine lv_aload_n hx hb dX23_scan_71 rfl (lv_at hl 3 rfl) ?_
                    refine lv_iload_n hx hb dX23_scan_72 rfl (lv_at hl 0 rfl) ?_
                    have hPc := hP.sub (ws' := [(m9, .inr (23, mA mr mv vf xl (nI zs) xf xa (nI tk) xp xi xt xn xe xv xb)), (mr 0, .inl (kI, 3000, .inl ft))]) [0, 1] rfl
                    have hDc := hD.sub (ws' := [(m9, .inr (23, mA mr mv vf xl (nI zs) xf xa (nI tk) xp xi xt xn xe xv xb)), (mr 0, .inl (kI, 3000, .inl ft))]) [0, 1] (by decide) rfl
                    have hKc := hK.sub (tys' := [(kI, .int)]) [0] rfl
                    have hFc := va_free (wc := [(m9, .inr (23, mA mr mv vf xl (nI zs) xf xa (nI tk) xp xi xt xn xe xv xb)), (mr 0, .inl (kI, 3000, .inl ft))]) hD hS hA [0, 1] rfl
                    refine va_calli (va_runV (As := [.int (nI j)]) (rest := []) ⟨hx, hb, hml, hown, hts⟩ (c_rat l dC dI m9 mr mv vf xl xf xa xp xi xt xn xe xv xb zs tk j kI ft H.size hzs (by omega)) (cwV 1 hts g_c_rscan_c_rat_73 rfl rfl rfl (by decide +kernel) ⟨Nat.le_of_ble_eq_true rfl, Nat.le_of_ble_eq_true rfl⟩) ⟨fun a U g mk q => by obtain ⟨q0, q1, qP, qK, qD⟩ := q; exact ⟨q0, q1, qP, va_K.moved (u := U) (U := U.calling g mk a) (Vm.Alike.refl U.vm) qK, qD⟩, va_recv hKc hPc (ci := 23) (q0 := 0) rfl rfl, fun U hU hW => ⟨rfl, by rw [hU], by rw [hU]; exact hPc, va_K.moved hW.alike hKc, hDc.weaken (fun _ _ _ _ => trivial)⟩⟩ rfl rfl hl.1 rfl (lv_room (Nat.le_of_ble_eq_true rfl)) dX23_scan_73 ⟨(show 0 + 0 ≤ 0 by omega), (show 0 + 0 ≤ 0 by omega)⟩) hS (fun q _ h => hFc q h) hFc (fun r_6 u tS H1 locs ht hvm hw hB hz1 hk1 hS => ?_)
                    obtain ⟨hP1, hK1, hD1⟩ := hB
                    rw [ht] at hP1
                    have hK1 := va_K.moved hvm.symm hK1
                    obtain ⟨hP, hD⟩ := va_join (wr := [(mr 5, .inl (kI, 3002, .inl fk1)), (mr 6, .inl (kI, 3002, .inl fa1)), (mr 7, .inl (kI, 3002, .inl fe1)), (mr 8, .inl (kL, 3002, .inr (.inl fn1)))]) (w1 := [(m9, .inr (23, mA mr mv vf xl (nI zs) xf xa (nI tk) xp xi xt xn xe xv xb)), (mr 0, .inl (kI, 3000, .inl ft))]) hP hD [0, 1] [2, 3, 4, 5] rfl rfl (by decide) (by decide) hk1 hFc hP1 hD1
                    have hK := hK.app hK1
                    generalize H1 = H at hP hS ⊢
                    have hP : va_P (dC, dI) vwCl [(mr 5, .inl (kI, 3002, .inl fk1)), (mr 6, .inl (kI, 3002, .inl fa1)), (mr 7, .inl (kI, 3002, .inl fe1)), (mr 8, .inl (kL, 3002, .inr (.inl fn1))), (m9, .inr (23, mA mr mv vf xl (nI zs) xf xa (nI tk) xp xi xt xn xe xv xb)), (mr 0, .inl (kI, 3000, .inl ft))] H := hP
                    have hD : va_D A [(mr 5, .inl (kI, 3002, .inl fk1)), (mr 6, .inl (kI, 3002, .inl fa1)), (mr 7, .inl (kI, 3002, .inl fe1)), (mr 8, .inl (kL, 3002, .inr (.inl fn1))), (m9, .inr (23, mA mr mv vf xl (nI zs) xf xa (nI tk) xp xi xt xn xe xv xb)), (mr 0, .inl (kI, 3000, .inl ft))] := hD
                    have hK : va_K (dC, dI) vwCl [(kI, .int), (kL, .long), (kI, .int)] s := hK
                    have hK := hK.sub (tys' := [(kI, .int), (kL, .long)]) [0, 1] rfl
                    have hP : va_P (dC, dI) vwCl [(mr 5, .inl (kI, 3002, .inl fk1)), (mr 6, .inl (kI, 3002, .inl fa1)), (mr 7, .inl (kI, 3002, .inl fe1)), (mr 8, .inl (kL, 3002, .inr (.inl fn1))), (m9, .inr (23, mA mr mv vf xl (nI zs) xf xa (nI tk) xp xi xt xn xe xv xb)), (mr 0, .inl (kI, 3000, .inl ft))] H := hP
                    have hD : va_D A [(mr 5, .inl (kI, 3002, .inl fk1)), (mr 6, .inl (kI, 3002, .inl fa1)), (mr 7, .inl (kI, 3002, .inl fe1)), (mr 8, .inl (kL, 3002, .inr (.inl fn1))), (m9, .inr (23, mA mr mv vf xl (nI zs) xf xa (nI tk) xp xi xt xn xe xv xb)), (mr 0, .inl (kI, 3000, .inl ft))] := hD
                    have hr_6 : r_6 = atF ft zs (j) := hw
                    have hPc := hP.sub (ws' := []) [] rfl
                    have hDc := hD.sub (ws' := []) [] (by decide) rfl
                    have hKc := hK.sub (tys' := []) [] rfl
                    have hFc := va_free (wc := []) hD hS hA [] rfl
                    refine va_calli (va_runS (As := [.int r_6]) (rest := []) ⟨hx, hb, hml, hown, hts⟩ (c_rlet l dC dI r_6 H.size) (va_cwS 1 hts g_c_rscan_c_rlet_76 rfl rfl rfl (by decide +kernel) ⟨Nat.le_of_ble_eq_true rfl, Nat.le_of_ble_eq_true rfl⟩) ⟨fun a U g mk q => by obtain ⟨q0, q1, qP, qK, qD⟩ := q; exact ⟨q0, q1, qP, va_K.moved (u := U) (U := U.calling g mk a) (Vm.Alike.refl U.vm) qK, qD⟩, fun U hU hW => ⟨rfl, by rw [hU], by rw [hU]; exact hPc, va_K.moved hW.alike hKc, hDc.weaken (fun _ _ _ _ => trivial)⟩⟩ rfl rfl hl.1 rfl (lv_room (Nat.le_of_ble_eq_true rfl)) dX23_scan_76 ⟨(show 0 + 0 ≤ 0 by omega), (show 0 + 0 ≤ 0 by omega)⟩) hS (fun q _ h => hFc q h) hFc (fun r_7 u tS H1 locs ht hvm hw hB hz1 hk1 hS => ?_)
                    obtain ⟨hP1, hK1, hD1⟩ := hB
                    rw [ht] at hP1
                    have hK1 := va_K.moved hvm.symm hK1
                    obtain ⟨hP, hD⟩ := va_join (wr := [(mr 5, .inl (kI, 3002, .inl fk1)), (mr 6, .inl (kI, 3002, .inl fa1)), (mr 7, .inl (kI, 3002, .inl fe1)), (mr 8, .inl (kL, 3002, .inr (.inl fn1))), (m9, .inr (23, mA mr mv vf xl (nI zs) xf xa (nI tk) xp xi xt xn xe xv xb)), (mr 0, .inl (kI, 3000, .inl ft))]) (w1 := []) hP hD [] [0, 1, 2, 3, 4, 5] rfl rfl (by decide) (by decide) hk1 hFc hP1 hD1
                    generalize H1 = H at hP hS ⊢
                    have hP : va_P (dC, dI) vwCl [(mr 5, .inl (kI, 3002, .inl fk1)), (mr 6, .inl (kI, 3002, .inl fa1)), (mr 7, .inl (kI, 3002, .inl fe1)), (mr 8, .inl (kL, 3002, .inr (.inl fn1))), (m9, .inr (23, mA mr mv vf xl (nI zs) xf xa (nI tk) xp xi xt xn xe xv xb)), (mr 0, .inl (kI, 3000, .inl ft))] H := hP
                    have hD : va_D A [(mr 5, .inl (kI, 3002, .inl fk1)), (mr 6, .inl (kI, 3002, .inl fa1)), (mr 7, .inl (kI, 3002, .inl fe1)), (mr 8, .inl (kL, 3002, .inr (.inl fn1))), (m9, .inr (23, mA mr mv vf xl (nI zs) xf xa (nI tk) xp xi xt xn xe xv xb)), (mr 0, .inl (kI, 3000, .inl ft))] := hD
                    have hK : va_K (dC, dI) vwCl [(kI, .int), (kL, .long)] s := hK
                    have hr_7 : r_7 = letF r_6 := hw.2
                    refine lv_if_ne (tgt := 93) hx hb dX23_scan_79 (by decide) (fun hm1 => ?_) (fun hm1 => ?_)
                    · have hlt : j < zs := letF_lt (fun q => hm1 (by rw [hr_7, hr_6]; exact q))
                      obtain ⟨x_8, ex_8⟩ : ∃ yY : Int32, yY = (nI j) + 1 := ⟨_, rfl⟩
                      refine lv_iinc (v := x_8) (lv' := [(1, .int x_8), (3, .int (nI i)), (2, .int r_4), (0, .ref m9)]) hx hb dX23_scan_93 hl (k := 0) rfl (by rw [ex_8]; rfl) (by decide) rfl (fun ls hl => ?_)
                      obtain rfl : x_8 = nI (j + 1) := by rw [ex_8]; exact nI_1 j
                      have hl : lv_has ls 4 [(1, .int (nI (j + 1))), (3, .int (nI i)), (2, .int r_4), (0, .ref m9)] := hl
                      refine lv_goto (tgt := 71) hx hb dX23_scan_96 (by decide) ?_
                      exact ih2 (j + 1) _ _ _ (by omega) (by omega) (hP.sub [4, 5, 0, 1, 2, 3] rfl) (hD.sub [4, 5, 0, 1, 2, 3] (by decide) rfl) hS (lv_sub hl [0, 1, 2, 3] rfl)
                    · refine lv_aload_n hx hb dX23_scan_82 rfl (lv_at hl 3 rfl) ?_
                      refine lv_iload_n hx hb dX23_scan_83 rfl (lv_at hl 0 rfl) ?_
                      have hPc := hP.sub (ws' := [(m9, .inr (23, mA mr mv vf xl (nI zs) xf xa (nI tk) xp xi xt xn xe xv xb)), (mr 0, .inl (kI, 3000, .inl ft))]) [4, 5] rfl
                      have hDc := hD.sub (ws' := [(m9, .inr (23, mA mr mv vf xl (nI zs) xf xa (nI tk) xp xi xt xn xe xv xb)), (mr 0, .inl (kI, 3000, .inl ft))]) [4, 5] (by decide) rfl
                      have hKc := hK.sub (tys' := [(kI, .int)]) [0] rfl
                      have hFc := va_free (wc := [(m9, .inr (23, mA mr mv vf xl (nI zs) xf xa (nI tk) xp xi xt xn xe xv xb)), (mr 0, .inl (kI, 3000, .inl ft))]) hD hS hA [4, 5] rfl
                      refine va_calli (va_runV (As := [.int (nI j)]) (rest := []) ⟨hx, hb, hml, hown, hts⟩ (c_rat l dC dI m9 mr mv vf xl xf xa xp xi xt xn xe xv xb zs tk j kI ft H.size hzs (by omega)) (cwV 1 hts g_c_rscan_c_rat_84 rfl rfl rfl (by decide +kernel) ⟨Nat.le_of_ble_eq_true rfl, Nat.le_of_ble_eq_true rfl⟩) ⟨fun a U g mk q => by obtain ⟨q0, q1, qP, qK, qD⟩ := q; exact ⟨q0, q1, qP, va_K.moved (u := U) (U := U.calling g mk a) (Vm.Alike.refl U.vm) qK, qD⟩, va_recv hKc hPc (ci := 23) (q0 := 0) rfl rfl, fun U hU hW => ⟨rfl, by rw [hU], by rw [hU]; exact hPc, va_K.moved hW.alike hKc, hDc.weaken (fun _ _ _ _ => trivial)⟩⟩ rfl rfl hl.1 rfl (lv_room (Nat.le_of_ble_eq_true rfl)) dX23_scan_84 ⟨(show 0 + 0 ≤ 0 by omega), (show 0 + 0 ≤ 0 by omega)⟩) hS (fun q _ h => hFc q h) hFc (fun r_8 u tS H1 locs ht hvm hw hB hz1 hk1 hS => ?_)
                      obtain ⟨hP1, hK1, hD1⟩ := hB
                      rw [ht] at hP1
                      have hK1 := va_K.moved hvm.symm hK1
                      obtain ⟨hP, hD⟩ := va_join (wr := [(mr 5, .inl (kI, 3002, .inl fk1)), (mr 6, .inl (kI, 3002, .inl fa1)), (mr 7, .inl (kI, 3002, .inl fe1)), (mr 8, .inl (kL, 3002, .inr (.inl fn1)))]) (w1 := [(m9, .inr (23, mA mr mv vf xl (nI zs) xf xa (nI tk) xp xi xt xn xe xv xb)), (mr 0, .inl (kI, 3000, .inl ft))]) hP hD [4, 5] [0, 1, 2, 3] rfl rfl (by decide) (by decide) hk1 hFc hP1 hD1
                      have hK := hK.app hK1
                      generalize H1 = H at hP hS ⊢
                      have hP : va_P (dC, dI) vwCl [(mr 5, .inl (kI, 3002, .inl fk1)), (mr 6, .inl (kI, 3002, .inl fa1)), (mr 7, .inl (kI, 3002, .inl fe1)), (mr 8, .inl (kL, 3002, .inr (.inl fn1))), (m9, .inr (23, mA mr mv vf xl (nI zs) xf xa (nI tk) xp xi xt xn xe xv xb)), (mr 0, .inl (kI, 3000, .inl ft))] H := hP
                      have hD : va_D A [(mr 5, .inl (kI, 3002, .inl fk1)), (mr 6, .inl (kI, 3002, .inl fa1)), (mr 7, .inl (kI, 3002, .inl fe1)), (mr 8, .inl (kL, 3002, .inr (.inl fn1))), (m9, .inr (23, mA mr mv vf xl (nI zs) xf xa (nI tk) xp xi xt xn xe xv xb)), (mr 0, .inl (kI, 3000, .inl ft))] := hD
                      have hK : va_K (dC, dI) vwCl [(kI, .int), (kL, .long), (kI, .int)] s := hK
                      have hK := hK.sub (tys' := [(kI, .int), (kL, .long)]) [0, 1] rfl
                      have hP : va_P (dC, dI) vwCl [(mr 5, .inl (kI, 3002, .inl fk1)), (mr 6, .inl (kI, 3002, .inl fa1)), (mr 7, .inl (kI, 3002, .inl fe1)), (mr 8, .inl (kL, 3002, .inr (.inl fn1))), (m9, .inr (23, mA mr mv vf xl (nI zs) xf xa (nI tk) xp xi xt xn xe xv xb)), (mr 0, .inl (kI, 3000, .inl ft))] H := hP
                      have hD : va_D A [(mr 5, .inl (kI, 3002, .inl fk1)), (mr 6, .inl (kI, 3002, .inl fa1)), (mr 7, .inl (kI, 3002, .inl fe1)), (mr 8, .inl (kL, 3002, .inr (.inl fn1))), (m9, .inr (23, mA mr mv vf xl (nI zs) xf xa (nI tk) xp xi xt xn xe xv xb)), (mr 0, .inl (kI, 3000, .inl ft))] := hD
                      have hr_8 : r_8 = atF ft zs (j) := hw
                      have hPc := hP.sub (ws' := []) [] rfl
                      have hDc := hD.sub (ws' := []) [] (by decide) rfl
                      have hKc := hK.sub (tys' := []) [] rfl
                      have hFc := va_free (wc := []) hD hS hA [] rfl
                      refine va_calli (va_runS (As := [.int r_8]) (rest := []) ⟨hx, hb, hml, hown, hts⟩ (c_rdig l dC dI r_8 H.size) (va_cwS 1 hts g_c_rscan_c_rdig_87 rfl rfl rfl (by decide +kernel) ⟨Nat.le_of_ble_eq_true rfl, Nat.le_of_ble_eq_true rfl⟩) ⟨fun a U g mk q => by obtain ⟨q0, q1, qP, qK, qD⟩ := q; exact ⟨q0, q1, qP, va_K.moved (u := U) (U := U.calling g mk a) (Vm.Alike.refl U.vm) qK, qD⟩, fun U hU hW => ⟨rfl, by rw [hU], by rw [hU]; exact hPc, va_K.moved hW.alike hKc, hDc.weaken (fun _ _ _ _ => trivial)⟩⟩ rfl rfl hl.1 rfl (lv_room (Nat.le_of_ble_eq_true rfl)) dX23_scan_87 ⟨(show 0 + 0 ≤ 0 by omega), (show 0 + 0 ≤ 0 by omega)⟩) hS (fun q _ h => hFc q h) hFc (fun r_9 u tS H1 locs ht hvm hw hB hz1 hk1 hS => ?_)
                      obtain ⟨hP1, hK1, hD1⟩ := hB
                      rw [ht] at hP1
                      have hK1 := va_K.moved hvm.symm hK1
                      obtain ⟨hP, hD⟩ := va_join (wr := [(mr 5, .inl (kI, 3002, .inl fk1)), (mr 6, .inl (kI, 3002, .inl fa1)), (mr 7, .inl (kI, 3002, .inl fe1)), (mr 8, .inl (kL, 3002, .inr (.inl fn1))), (m9, .inr (23, mA mr mv vf xl (nI zs) xf xa (nI tk) xp xi xt xn xe xv xb)), (mr 0, .inl (kI, 3000, .inl ft))]) (w1 := []) hP hD [] [0, 1, 2, 3, 4, 5] rfl rfl (by decide) (by decide) hk1 hFc hP1 hD1
                      generalize H1 = H at hP hS ⊢
                      have hP : va_P (dC, dI) vwCl [(mr 5, .inl (kI, 3002, .inl fk1)), (mr 6, .inl (kI, 3002, .inl fa1)), (mr 7, .inl (kI, 3002, .inl fe1)), (mr 8, .inl (kL, 3002, .inr (.inl fn1))), (m9, .inr (23, mA mr mv vf xl (nI zs) xf xa (nI tk) xp xi xt xn xe xv xb)), (mr 0, .inl (kI, 3000, .inl ft))] H := hP
                      have hD : va_D A [(mr 5, .inl (kI, 3002, .inl fk1)), (mr 6, .inl (kI, 3002, .inl fa1)), (mr 7, .inl (kI, 3002, .inl fe1)), (mr 8, .inl (kL, 3002, .inr (.inl fn1))), (m9, .inr (23, mA mr mv vf xl (nI zs) xf xa (nI tk) xp xi xt xn xe xv xb)), (mr 0, .inl (kI, 3000, .inl ft))] := hD
                      have hK : va_K (dC, dI) vwCl [(kI, .int), (kL, .long)] s := hK
                      have hr_9 : r_9 = digF r_8 := hw.2
                      refine lv_if_eq (tgt := 99) hx hb dX23_scan_90 (by decide) (fun hm2 => ?_) (fun hm2 => ?_)
                      · have hij : i < j := by
                          rcases Nat.lt_or_ge i j with z9 | z9
                          · exact z9
                          · exact absurd (by rw [hr_5, hr_4, show i = j by omega, ← hr_6, ← hr_7]; exact hm1) hlt0
                        refine lv_aload_n hx hb dX23_scan_99 rfl (lv_at hl 3 rfl) ?_
                        refine lv_iload_n hx hb dX23_scan_100 rfl (lv_at hl 0 rfl) ?_
                        refine lv_iload_n hx hb dX23_scan_101 rfl (lv_at hl 1 rfl) ?_
                        refine lv_isub hx hb dX23_scan_102 ?_
                        refine lv_topi (fun f_10 ef_10 => ?_)
                        obtain rfl : f_10 = nI (j - i) := ef_10.trans (pk_sub (a := j) (b := i) (by omega))
                        refine lv_bipush (v := 20) hx hb dX23_scan_103 (by decide) ?_
                        refine lv_icmp_le (tgt := 112) hx hb dX23_scan_105 (by decide) (fun h20 => ?_) (fun h20 => ?_)
                        · refine lv_aload_n hx hb dX23_scan_112 rfl (lv_at hl 3 rfl) ?_
                          refine lv_iload_n hx hb dX23_scan_113 rfl (lv_at hl 1 rfl) ?_
                          refine lv_iload_n hx hb dX23_scan_114 rfl (lv_at hl 0 rfl) ?_
                          have hPc := hP.sub (ws' := [(m9, .inr (23, mA mr mv vf xl (nI zs) xf xa (nI tk) xp xi xt xn xe xv xb)), (mr 0, .inl (kI, 3000, .inl ft))]) [4, 5] rfl
                          have hDc := hD.sub (ws' := [(m9, .inr (23, mA mr mv vf xl (nI zs) xf xa (nI tk) xp xi xt xn xe xv xb)), (mr 0, .inl (kI, 3000, .inl ft))]) [4, 5] (by decide) rfl
                          have hKc := hK.sub (tys' := [(kI, .int)]) [0] rfl
                          have hFc := va_free (wc := [(m9, .inr (23, mA mr mv vf xl (nI zs) xf xa (nI tk) xp xi xt xn xe xv xb)), (mr 0, .inl (kI, 3000, .inl ft))]) hD hS hA [4, 5] rfl
                          refine va_calli (va_runV (As := [.int (nI i), .int (nI j)]) (rest := [.ref m9]) ⟨hx, hb, hml, hown, hts⟩ (c_rwo l dC dI m9 mr mv vf xl xf xa xp xi xt xn xe xv xb zs tk i j kI ft t0 t1 t2 t3 H.size (by omega)) (cwV 2 hts g_c_rscan_c_rwo_115 rfl rfl rfl (by decide +kernel) ⟨Nat.le_of_ble_eq_true rfl, Nat.le_of_ble_eq_true rfl⟩) ⟨fun a U g mk q => by obtain ⟨q0, q1, qP, qK, qD, qx0⟩ := q; exact ⟨q0, q1, qP, va_K.moved (u := U) (U := U.calling g mk a) (Vm.Alike.refl U.vm) qK, qD, stA.moved (u := U) (U := U.calling g mk a) (Vm.Alike.refl U.vm) qx0⟩, va_recv hKc hPc (ci := 23) (q0 := 0) rfl rfl, fun U hU hW => ⟨rfl, by rw [hU], by rw [hU]; exact hPc, va_K.moved hW.alike hKc, hDc.weaken (fun _ _ _ _ => trivial), by rw [hU]; exact ((hpre0.kept hS.2.1).moved hW.alike).narrow hFc⟩⟩ rfl rfl hl.1 rfl (lv_room (Nat.le_of_ble_eq_true rfl)) dX23_scan_115 ⟨(show 0 + 0 ≤ 0 by omega), (show 0 + 0 ≤ 0 by omega)⟩) hS (fun q _ h => hFc q h) hFc (fun r_11 u tS H1 locs ht hvm hw hB hz1 hk1 hS => ?_)
                          obtain ⟨hP1, hK1, hD1⟩ := hB
                          rw [ht] at hP1
                          have hK1 := va_K.moved hvm.symm hK1
                          obtain ⟨hP, hD⟩ := va_join (wr := [(mr 5, .inl (kI, 3002, .inl fk1)), (mr 6, .inl (kI, 3002, .inl fa1)), (mr 7, .inl (kI, 3002, .inl fe1)), (mr 8, .inl (kL, 3002, .inr (.inl fn1)))]) (w1 := [(m9, .inr (23, mA mr mv vf xl (nI zs) xf xa (nI tk) xp xi xt xn xe xv xb)), (mr 0, .inl (kI, 3000, .inl ft))]) hP hD [4, 5] [0, 1, 2, 3] rfl rfl (by decide) (by decide) hk1 hFc hP1 hD1
                          have hK := hK.app hK1
                          generalize H1 = H at hP hS ⊢
                          have hP : va_P (dC, dI) vwCl [(mr 5, .inl (kI, 3002, .inl fk1)), (mr 6, .inl (kI, 3002, .inl fa1)), (mr 7, .inl (kI, 3002, .inl fe1)), (mr 8, .inl (kL, 3002, .inr (.inl fn1))), (m9, .inr (23, mA mr mv vf xl (nI zs) xf xa (nI tk) xp xi xt xn xe xv xb)), (mr 0, .inl (kI, 3000, .inl ft))] H := hP
                          have hD : va_D A [(mr 5, .inl (kI, 3002, .inl fk1)), (mr 6, .inl (kI, 3002, .inl fa1)), (mr 7, .inl (kI, 3002, .inl fe1)), (mr 8, .inl (kL, 3002, .inr (.inl fn1))), (m9, .inr (23, mA mr mv vf xl (nI zs) xf xa (nI tk) xp xi xt xn xe xv xb)), (mr 0, .inl (kI, 3000, .inl ft))] := hD
                          have hK : va_K (dC, dI) vwCl [(kI, .int), (kL, .long), (kI, .int)] s := hK
                          have hK := hK.sub (tys' := [(kI, .int), (kL, .long)]) [0, 1] rfl
                          have hP : va_P (dC, dI) vwCl [(mr 5, .inl (kI, 3002, .inl fk1)), (mr 6, .inl (kI, 3002, .inl fa1)), (mr 7, .inl (kI, 3002, .inl fe1)), (mr 8, .inl (kL, 3002, .inr (.inl fn1))), (m9, .inr (23, mA mr mv vf xl (nI zs) xf xa (nI tk) xp xi xt xn xe xv xb)), (mr 0, .inl (kI, 3000, .inl ft))] H := hP
                          have hD : va_D A [(mr 5, .inl (kI, 3002, .inl fk1)), (mr 6, .inl (kI, 3002, .inl fa1)), (mr 7, .inl (kI, 3002, .inl fe1)), (mr 8, .inl (kL, 3002, .inr (.inl fn1))), (m9, .inr (23, mA mr mv vf xl (nI zs) xf xa (nI tk) xp xi xt xn xe xv xb)), (mr 0, .inl (kI, 3000, .inl ft))] := hD
                          have hwo := wo_ok hw
                          refine lv_iload_n hx hb dX23_scan_118 rfl (lv_at hl 1 rfl) ?_
                          refine lv_iload_n hx hb dX23_scan_119 rfl (lv_at hl 0 rfl) ?_
                          refine lv_lconst (v := 0) hx hb dX23_scan_120 (by decide) ?_
                          have hPc := hP.sub (ws' := [(m9, .inr (23, mA mr mv vf xl (nI zs) xf xa (nI tk) xp xi xt xn xe xv xb)), (mr 5, .inl (kI, 3002, .inl fk1)), (mr 6, .inl (kI, 3002, .inl fa1)), (mr 7, .inl (kI, 3002, .inl fe1)), (mr 8, .inl (kL, 3002, .inr (.inl fn1)))]) [4, 0, 1, 2, 3] rfl
                          have hDc := hD.sub (ws' := [(m9, .inr (23, mA mr mv vf xl (nI zs) xf xa (nI tk) xp xi xt xn xe xv xb)), (mr 5, .inl (kI, 3002, .inl fk1)), (mr 6, .inl (kI, 3002, .inl fa1)), (mr 7, .inl (kI, 3002, .inl fe1)), (mr 8, .inl (kL, 3002, .inr (.inl fn1)))]) [4, 0, 1, 2, 3] (by decide) rfl
                          have hKc := hK.sub (tys' := [(kI, .int), (kL, .long)]) [0, 1] rfl
                          have hFc := va_free (wc := [(m9, .inr (23, mA mr mv vf xl (nI zs) xf xa (nI tk) xp xi xt xn xe xv xb)), (mr 5, .inl (kI, 3002, .inl fk1)), (mr 6, .inl (kI, 3002, .inl fa1)), (mr 7, .inl (kI, 3002, .inl fe1)), (mr 8, .inl (kL, 3002, .inr (.inl fn1)))]) hD hS hA [4, 0, 1, 2, 3] rfl
                          refine va_callv (va_runV (As := [.int r_11, .int (nI i), .int (nI j), .long 0]) (rest := []) ⟨hx, hb, hml, hown, hts⟩ (c_radd l dC dI m9 mr mv vf xl xf xa xp xi xt xn xe xv xb zs tk kI kL ft fk1 fa1 fe1 fn1 r_11 (nI i) (nI j) 0 H.size (by omega)) (cwV 4 hts g_c_rscan_c_radd_121 rfl rfl rfl (by decide +kernel) ⟨Nat.le_of_ble_eq_true rfl, Nat.le_of_ble_eq_true rfl⟩) ⟨fun a U g mk q => by obtain ⟨q0, q1, qP, qK, qD⟩ := q; exact ⟨q0, q1, qP, va_K.moved (u := U) (U := U.calling g mk a) (Vm.Alike.refl U.vm) qK, qD⟩, va_recv hKc hPc (ci := 23) (q0 := 0) rfl rfl, fun U hU hW => ⟨rfl, by rw [hU], by rw [hU]; exact hPc, va_K.moved hW.alike hKc, hDc.weaken (fun _ _ _ _ => trivial)⟩⟩ rfl rfl hl.1 rfl (lv_room (Nat.le_of_ble_eq_true rfl)) dX23_scan_121 ⟨(show 0 + 0 ≤ 0 by omega), (show 0 + 0 ≤ 0 by omega)⟩) hS (fun q _ h => hFc q h) hFc (fun u tS H1 locs ht hvm hw hB hz1 hk1 hS => ?_)
                          obtain ⟨gn9, hP1, hK1, hD1⟩ := hB
                          rw [ht] at hP1
                          have hK1 := va_K.moved hvm.symm hK1
                          obtain ⟨hP, hD⟩ := va_join (wr := [(mr 0, .inl (kI, 3000, .inl ft))]) (w1 := [(m9, .inr (23, mA mr mv vf xl (nI zs) xf xa (nI (tk + 1)) xp xi xt xn xe xv xb)), (mr 5, .inl (kI, 3002, .inl (upd fk1 tk r_11))), (mr 6, .inl (kI, 3002, .inl (upd fa1 tk (nI i)))), (mr 7, .inl (kI, 3002, .inl (upd fe1 tk (nI j)))), (mr 8, .inl (kL, 3002, .inr (.inl gn9)))]) hP hD [4, 0, 1, 2, 3] [5] rfl rfl (by decide) (by decide) hk1 hFc hP1 hD1
                          have hK := hK.app hK1
                          generalize H1 = H at hP hS ⊢
                          have hP : va_P (dC, dI) vwCl [(mr 0, .inl (kI, 3000, .inl ft)), (m9, .inr (23, mA mr mv vf xl (nI zs) xf xa (nI (tk + 1)) xp xi xt xn xe xv xb)), (mr 5, .inl (kI, 3002, .inl (upd fk1 tk r_11))), (mr 6, .inl (kI, 3002, .inl (upd fa1 tk (nI i)))), (mr 7, .inl (kI, 3002, .inl (upd fe1 tk (nI j)))), (mr 8, .inl (kL, 3002, .inr (.inl gn9)))] H := hP
                          have hD : va_D A [(mr 0, .inl (kI, 3000, .inl ft)), (m9, .inr (23, mA mr mv vf xl (nI zs) xf xa (nI (tk + 1)) xp xi xt xn xe xv xb)), (mr 5, .inl (kI, 3002, .inl (upd fk1 tk r_11))), (mr 6, .inl (kI, 3002, .inl (upd fa1 tk (nI i)))), (mr 7, .inl (kI, 3002, .inl (upd fe1 tk (nI j)))), (mr 8, .inl (kL, 3002, .inr (.inl gn9)))] := hD
                          have hK : va_K (dC, dI) vwCl [(kI, .int), (kL, .long), (kI, .int), (kL, .long)] s := hK
                          have hK := hK.sub (tys' := [(kI, .int), (kL, .long)]) [0, 1] rfl
                          have hP : va_P (dC, dI) vwCl [(mr 0, .inl (kI, 3000, .inl ft)), (m9, .inr (23, mA mr mv vf xl (nI zs) xf xa (nI (tk + 1)) xp xi xt xn xe xv xb)), (mr 5, .inl (kI, 3002, .inl (upd fk1 tk r_11))), (mr 6, .inl (kI, 3002, .inl (upd fa1 tk (nI i)))), (mr 7, .inl (kI, 3002, .inl (upd fe1 tk (nI j)))), (mr 8, .inl (kL, 3002, .inr (.inl gn9)))] H := hP
                          have hD : va_D A [(mr 0, .inl (kI, 3000, .inl ft)), (m9, .inr (23, mA mr mv vf xl (nI zs) xf xa (nI (tk + 1)) xp xi xt xn xe xv xb)), (mr 5, .inl (kI, 3002, .inl (upd fk1 tk r_11))), (mr 6, .inl (kI, 3002, .inl (upd fa1 tk (nI i)))), (mr 7, .inl (kI, 3002, .inl (upd fe1 tk (nI j)))), (mr 8, .inl (kL, 3002, .inr (.inl gn9)))] := hD
                          refine lv_goto (tgt := 148) hx hb dX23_scan_124 (by decide) ?_
                          refine lv_aload_n hx hb dX23_scan_148 rfl (lv_at hl 3 rfl) ?_
                          refine lv_iload_n hx hb dX23_scan_149 rfl (lv_at hl 0 rfl) ?_
                          have hPc := hP.sub (ws' := [(m9, .inr (23, mA mr mv vf xl (nI zs) xf xa (nI (tk + 1)) xp xi xt xn xe xv xb)), (mr 0, .inl (kI, 3000, .inl ft))]) [1, 0] rfl
                          have hDc := hD.sub (ws' := [(m9, .inr (23, mA mr mv vf xl (nI zs) xf xa (nI (tk + 1)) xp xi xt xn xe xv xb)), (mr 0, .inl (kI, 3000, .inl ft))]) [1, 0] (by decide) rfl
                          have hKc := hK.sub (tys' := [(kI, .int)]) [0] rfl
                          have hFc := va_free (wc := [(m9, .inr (23, mA mr mv vf xl (nI zs) xf xa (nI (tk + 1)) xp xi xt xn xe xv xb)), (mr 0, .inl (kI, 3000, .inl ft))]) hD hS hA [1, 0] rfl
                          refine va_calli (va_runV (As := [.int (nI j)]) (rest := []) ⟨hx, hb, hml, hown, hts⟩ (c_rblk l dC dI m9 mr mv vf xl xf xa xp xi xt xn xe xv xb zs (tk + 1) j kI ft H.size hzs (by omega)) (cwV 1 hts g_c_rscan_c_rblk_150 rfl rfl rfl (by decide +kernel) ⟨Nat.le_of_ble_eq_true rfl, Nat.le_of_ble_eq_true rfl⟩) ⟨fun a U g mk q => by obtain ⟨q0, q1, qP, qK, qD⟩ := q; exact ⟨q0, q1, qP, va_K.moved (u := U) (U := U.calling g mk a) (Vm.Alike.refl U.vm) qK, qD⟩, va_recv hKc hPc (ci := 23) (q0 := 0) rfl rfl, fun U hU hW => ⟨rfl, by rw [hU], by rw [hU]; exact hPc, va_K.moved hW.alike hKc, hDc.weaken (fun _ _ _ _ => trivial)⟩⟩ rfl rfl hl.1 rfl (lv_room (Nat.le_of_ble_eq_true rfl)) dX23_scan_150 ⟨(show 0 + 0 ≤ 0 by omega), (show 0 + 0 ≤ 0 by omega)⟩) hS (fun q _ h => hFc q h) hFc (fun r_13 u tS H1 locs ht hvm hw hB hz1 hk1 hS => ?_)
                          obtain ⟨hP1, hK1, hD1⟩ := hB
                          rw [ht] at hP1
                          have hK1 := va_K.moved hvm.symm hK1
                          obtain ⟨hP, hD⟩ := va_join (wr := [(mr 5, .inl (kI, 3002, .inl (upd fk1 tk r_11))), (mr 6, .inl (kI, 3002, .inl (upd fa1 tk (nI i)))), (mr 7, .inl (kI, 3002, .inl (upd fe1 tk (nI j)))), (mr 8, .inl (kL, 3002, .inr (.inl gn9)))]) (w1 := [(m9, .inr (23, mA mr mv vf xl (nI zs) xf xa (nI (tk + 1)) xp xi xt xn xe xv xb)), (mr 0, .inl (kI, 3000, .inl ft))]) hP hD [1, 0] [2, 3, 4, 5] rfl rfl (by decide) (by decide) hk1 hFc hP1 hD1
                          have hK := hK.app hK1
                          generalize H1 = H at hP hS ⊢
                          have hP : va_P (dC, dI) vwCl [(mr 5, .inl (kI, 3002, .inl (upd fk1 tk r_11))), (mr 6, .inl (kI, 3002, .inl (upd fa1 tk (nI i)))), (mr 7, .inl (kI, 3002, .inl (upd fe1 tk (nI j)))), (mr 8, .inl (kL, 3002, .inr (.inl gn9))), (m9, .inr (23, mA mr mv vf xl (nI zs) xf xa (nI (tk + 1)) xp xi xt xn xe xv xb)), (mr 0, .inl (kI, 3000, .inl ft))] H := hP
                          have hD : va_D A [(mr 5, .inl (kI, 3002, .inl (upd fk1 tk r_11))), (mr 6, .inl (kI, 3002, .inl (upd fa1 tk (nI i)))), (mr 7, .inl (kI, 3002, .inl (upd fe1 tk (nI j)))), (mr 8, .inl (kL, 3002, .inr (.inl gn9))), (m9, .inr (23, mA mr mv vf xl (nI zs) xf xa (nI (tk + 1)) xp xi xt xn xe xv xb)), (mr 0, .inl (kI, 3000, .inl ft))] := hD
                          have hK : va_K (dC, dI) vwCl [(kI, .int), (kL, .long), (kI, .int)] s := hK
                          have hK := hK.sub (tys' := [(kI, .int), (kL, .long)]) [0, 1] rfl
                          have hP : va_P (dC, dI) vwCl [(mr 5, .inl (kI, 3002, .inl (upd fk1 tk r_11))), (mr 6, .inl (kI, 3002, .inl (upd fa1 tk (nI i)))), (mr 7, .inl (kI, 3002, .inl (upd fe1 tk (nI j)))), (mr 8, .inl (kL, 3002, .inr (.inl gn9))), (m9, .inr (23, mA mr mv vf xl (nI zs) xf xa (nI (tk + 1)) xp xi xt xn xe xv xb)), (mr 0, .inl (kI, 3000, .inl ft))] H := hP
                          have hD : va_D A [(mr 5, .inl (kI, 3002, .inl (upd fk1 tk r_11))), (mr 6, .inl (kI, 3002, .inl (upd fa1 tk (nI i)))), (mr 7, .inl (kI, 3002, .inl (upd fe1 tk (nI j)))), (mr 8, .inl (kL, 3002, .inr (.inl gn9))), (m9, .inr (23, mA mr mv vf xl (nI zs) xf xa (nI (tk + 1)) xp xi xt xn xe xv xb)), (mr 0, .inl (kI, 3000, .inl ft))] := hD
                          obtain ⟨i9, hi9, hi8, hi7⟩ := hw
                          subst hi9
                          refine lv_istore_n (lv' := [(1, .int (nI i9)), (3, .int (nI i)), (2, .int r_4), (0, .ref m9)]) hx hb dX23_scan_153 rfl hl (by decide) rfl (fun ls hl => ?_)
                          refine lv_goto (tgt := 11) hx hb dX23_scan_154 (by decide) ?_
                          subst hQ2
                          exact ih1 i9 (tk + 1) (upd fk1 tk r_11) (upd fa1 tk (nI i)) (upd fe1 tk (nI j)) gn9 _ _ _ (by omega) (tkR_up (tkR_add ha1 (Nat.le_refl _) (by omega) hwo.1 hwo.2) (by omega)) (hP.sub [4, 5, 0, 1, 2, 3] rfl) (hD.sub [4, 5, 0, 1, 2, 3] (by decide) rfl) hS (lv_sub hl [0, 3] rfl)
                        · refine lv_iconst (v := 1) hx hb dX23_scan_108 (by decide) ?_
                          refine lv_goto (tgt := 118) hx hb dX23_scan_109 (by decide) ?_
                          refine lv_iload_n hx hb dX23_scan_118 rfl (lv_at hl 1 rfl) ?_
                          refine lv_iload_n hx hb dX23_scan_119 rfl (lv_at hl 0 rfl) ?_
                          refine lv_lconst (v := 0) hx hb dX23_scan_120 (by decide) ?_
                          have hPc := hP.sub (ws' := [(m9, .inr (23, mA mr mv vf xl (nI zs) xf xa (nI tk) xp xi xt xn xe xv xb)), (mr 5, .inl (kI, 3002, .inl fk1)), (mr 6, .inl (kI, 3002, .inl fa1)), (mr 7, .inl (kI, 3002, .inl fe1)), (mr 8, .inl (kL, 3002, .inr (.inl fn1)))]) [4, 0, 1, 2, 3] rfl
                          have hDc := hD.sub (ws' := [(m9, .inr (23, mA mr mv vf xl (nI zs) xf xa (nI tk) xp xi xt xn xe xv xb)), (mr 5, .inl (kI, 3002, .inl fk1)), (mr 6, .inl (kI, 3002, .inl fa1)), (mr 7, .inl (kI, 3002, .inl fe1)), (mr 8, .inl (kL, 3002, .inr (.inl fn1)))]) [4, 0, 1, 2, 3] (by decide) rfl
                          have hKc := hK.sub (tys' := [(kI, .int), (kL, .long)]) [0, 1] rfl
                          have hFc := va_free (wc := [(m9, .inr (23, mA mr mv vf xl (nI zs) xf xa (nI tk) xp xi xt xn xe xv xb)), (mr 5, .inl (kI, 3002, .inl fk1)), (mr 6, .inl (kI, 3002, .inl fa1)), (mr 7, .inl (kI, 3002, .inl fe1)), (mr 8, .inl (kL, 3002, .inr (.inl fn1)))]) hD hS hA [4, 0, 1, 2, 3] rfl
                          refine va_callv (va_runV (As := [.int 1, .int (nI i), .int (nI j), .long 0]) (rest := []) ⟨hx, hb, hml, hown, hts⟩ (c_radd l dC dI m9 mr mv vf xl xf xa xp xi xt xn xe xv xb zs tk kI kL ft fk1 fa1 fe1 fn1 1 (nI i) (nI j) 0 H.size (by omega)) (cwV 4 hts g_c_rscan_c_radd_121 rfl rfl rfl (by decide +kernel) ⟨Nat.le_of_ble_eq_true rfl, Nat.le_of_ble_eq_true rfl⟩) ⟨fun a U g mk q => by obtain ⟨q0, q1, qP, qK, qD⟩ := q; exact ⟨q0, q1, qP, va_K.moved (u := U) (U := U.calling g mk a) (Vm.Alike.refl U.vm) qK, qD⟩, va_recv hKc hPc (ci := 23) (q0 := 0) rfl rfl, fun U hU hW => ⟨rfl, by rw [hU], by rw [hU]; exact hPc, va_K.moved hW.alike hKc, hDc.weaken (fun _ _ _ _ => trivial)⟩⟩ rfl rfl hl.1 rfl (lv_room (Nat.le_of_ble_eq_true rfl)) dX23_scan_121 ⟨(show 0 + 0 ≤ 0 by omega), (show 0 + 0 ≤ 0 by omega)⟩) hS (fun q _ h => hFc q h) hFc (fun u tS H1 locs ht hvm hw hB hz1 hk1 hS => ?_)
                          obtain ⟨gn9, hP1, hK1, hD1⟩ := hB
                          rw [ht] at hP1
                          have hK1 := va_K.moved hvm.symm hK1
                          obtain ⟨hP, hD⟩ := va_join (wr := [(mr 0, .inl (kI, 3000, .inl ft))]) (w1 := [(m9, .inr (23, mA mr mv vf xl (nI zs) xf xa (nI (tk + 1)) xp xi xt xn xe xv xb)), (mr 5, .inl (kI, 3002, .inl (upd fk1 tk 1))), (mr 6, .inl (kI, 3002, .inl (upd fa1 tk (nI i)))), (mr 7, .inl (kI, 3002, .inl (upd fe1 tk (nI j)))), (mr 8, .inl (kL, 3002, .inr (.inl gn9)))]) hP hD [4, 0, 1, 2, 3] [5] rfl rfl (by decide) (by decide) hk1 hFc hP1 hD1
                          have hK := hK.app hK1
                          generalize H1 = H at hP hS ⊢
                          have hP : va_P (dC, dI) vwCl [(mr 0, .inl (kI, 3000, .inl ft)), (m9, .inr (23, mA mr mv vf xl (nI zs) xf xa (nI (tk + 1)) xp xi xt xn xe xv xb)), (mr 5, .inl (kI, 3002, .inl (upd fk1 tk 1))), (mr 6, .inl (kI, 3002, .inl (upd fa1 tk (nI i)))), (mr 7, .inl (kI, 3002, .inl (upd fe1 tk (nI j)))), (mr 8, .inl (kL, 3002, .inr (.inl gn9)))] H := hP
                          have hD : va_D A [(mr 0, .inl (kI, 3000, .inl ft)), (m9, .inr (23, mA mr mv vf xl (nI zs) xf xa (nI (tk + 1)) xp xi xt xn xe xv xb)), (mr 5, .inl (kI, 3002, .inl (upd fk1 tk 1))), (mr 6, .inl (kI, 3002, .inl (upd fa1 tk (nI i)))), (mr 7, .inl (kI, 3002, .inl (upd fe1 tk (nI j)))), (mr 8, .inl (kL, 3002, .inr (.inl gn9)))] := hD
                          have hK : va_K (dC, dI) vwCl [(kI, .int), (kL, .long), (kI, .int), (kL, .long)] s := hK
                          have hK := hK.sub (tys' := [(kI, .int), (kL, .long)]) [0, 1] rfl
                          have hP : va_P (dC, dI) vwCl [(mr 0, .inl (kI, 3000, .inl ft)), (m9, .inr (23, mA mr mv vf xl (nI zs) xf xa (nI (tk + 1)) xp xi xt xn xe xv xb)), (mr 5, .inl (kI, 3002, .inl (upd fk1 tk 1))), (mr 6, .inl (kI, 3002, .inl (upd fa1 tk (nI i)))), (mr 7, .inl (kI, 3002, .inl (upd fe1 tk (nI j)))), (mr 8, .inl (kL, 3002, .inr (.inl gn9)))] H := hP
                          have hD : va_D A [(mr 0, .inl (kI, 3000, .inl ft)), (m9, .inr (23, mA mr mv vf xl (nI zs) xf xa (nI (tk + 1)) xp xi xt xn xe xv xb)), (mr 5, .inl (kI, 3002, .inl (upd fk1 tk 1))), (mr 6, .inl (kI, 3002, .inl (upd fa1 tk (nI i)))), (mr 7, .inl (kI, 3002, .inl (upd fe1 tk (nI j)))), (mr 8, .inl (kL, 3002, .inr (.inl gn9)))] := hD
                          refine lv_goto (tgt := 148) hx hb dX23_scan_124 (by decide) ?_
                          refine lv_aload_n hx hb dX23_scan_148 rfl (lv_at hl 3 rfl) ?_
                          refine lv_iload_n hx hb dX23_scan_149 rfl (lv_at hl 0 rfl) ?_
                          have hPc := hP.sub (ws' := [(m9, .inr (23, mA mr mv vf xl (nI zs) xf xa (nI (tk + 1)) xp xi xt xn xe xv xb)), (mr 0, .inl (kI, 3000, .inl ft))]) [1, 0] rfl
                          have hDc := hD.sub (ws' := [(m9, .inr (23, mA mr mv vf xl (nI zs) xf xa (nI (tk + 1)) xp xi xt xn xe xv xb)), (mr 0, .inl (kI, 3000, .inl ft))]) [1, 0] (by decide) rfl
                          have hKc := hK.sub (tys' := [(kI, .int)]) [0] rfl
                          have hFc := va_free (wc := [(m9, .inr (23, mA mr mv vf xl (nI zs) xf xa (nI (tk + 1)) xp xi xt xn xe xv xb)), (mr 0, .inl (kI, 3000, .inl ft))]) hD hS hA [1, 0] rfl
                          refine va_calli (va_runV (As := [.int (nI j)]) (rest := []) ⟨hx, hb, hml, hown, hts⟩ (c_rblk l dC dI m9 mr mv vf xl xf xa xp xi xt xn xe xv xb zs (tk + 1) j kI ft H.size hzs (by omega)) (cwV 1 hts g_c_rscan_c_rblk_150 rfl rfl rfl (by decide +kernel) ⟨Nat.le_of_ble_eq_true rfl, Nat.le_of_ble_eq_true rfl⟩) ⟨fun a U g mk q => by obtain ⟨q0, q1, qP, qK, qD⟩ := q; exact ⟨q0, q1, qP, va_K.moved (u := U) (U := U.calling g mk a) (Vm.Alike.refl U.vm) qK, qD⟩, va_recv hKc hPc (ci := 23) (q0 := 0) rfl rfl, fun U hU hW => ⟨rfl, by rw [hU], by rw [hU]; exact hPc, va_K.moved hW.alike hKc, hDc.weaken (fun _ _ _ _ => trivial)⟩⟩ rfl rfl hl.1 rfl (lv_room (Nat.le_of_ble_eq_true rfl)) dX23_scan_150 ⟨(show 0 + 0 ≤ 0 by omega), (show 0 + 0 ≤ 0 by omega)⟩) hS (fun q _ h => hFc q h) hFc (fun r_12 u tS H1 locs ht hvm hw hB hz1 hk1 hS => ?_)
                          obtain ⟨hP1, hK1, hD1⟩ := hB
                          rw [ht] at hP1
                          have hK1 := va_K.moved hvm.symm hK1
                          obtain ⟨hP, hD⟩ := va_join (wr := [(mr 5, .inl (kI, 3002, .inl (upd fk1 tk 1))), (mr 6, .inl (kI, 3002, .inl (upd fa1 tk (nI i)))), (mr 7, .inl (kI, 3002, .inl (upd fe1 tk (nI j)))), (mr 8, .inl (kL, 3002, .inr (.inl gn9)))]) (w1 := [(m9, .inr (23, mA mr mv vf xl (nI zs) xf xa (nI (tk + 1)) xp xi xt xn xe xv xb)), (mr 0, .inl (kI, 3000, .inl ft))]) hP hD [1, 0] [2, 3, 4, 5] rfl rfl (by decide) (by decide) hk1 hFc hP1 hD1
                          have hK := hK.app hK1
                          generalize H1 = H at hP hS ⊢
                          have hP : va_P (dC, dI) vwCl [(mr 5, .inl (kI, 3002, .inl (upd fk1 tk 1))), (mr 6, .inl (kI, 3002, .inl (upd fa1 tk (nI i)))), (mr 7, .inl (kI, 3002, .inl (upd fe1 tk (nI j)))), (mr 8, .inl (kL, 3002, .inr (.inl gn9))), (m9, .inr (23, mA mr mv vf xl (nI zs) xf xa (nI (tk + 1)) xp xi xt xn xe xv xb)), (mr 0, .inl (kI, 3000, .inl ft))] H := hP
                          have hD : va_D A [(mr 5, .inl (kI, 3002, .inl (upd fk1 tk 1))), (mr 6, .inl (kI, 3002, .inl (upd fa1 tk (nI i)))), (mr 7, .inl (kI, 3002, .inl (upd fe1 tk (nI j)))), (mr 8, .inl (kL, 3002, .inr (.inl gn9))), (m9, .inr (23, mA mr mv vf xl (nI zs) xf xa (nI (tk + 1)) xp xi xt xn xe xv xb)), (mr 0, .inl (kI, 3000, .inl ft))] := hD
                          have hK : va_K (dC, dI) vwCl [(kI, .int), (kL, .long), (kI, .int)] s := hK
                          have hK := hK.sub (tys' := [(kI, .int), (kL, .long)]) [0, 1] rfl
                          have hP : va_P (dC, dI) vwCl [(mr 5, .inl (kI, 3002, .inl (upd fk1 tk 1))), (mr 6, .inl (kI, 3002, .inl (upd fa1 tk (nI i)))), (mr 7, .inl (kI, 3002, .inl (upd fe1 tk (nI j)))), (mr 8, .inl (kL, 3002, .inr (.inl gn9))), (m9, .inr (23, mA mr mv vf xl (nI zs) xf xa (nI (tk + 1)) xp xi xt xn xe xv xb)), (mr 0, .inl (kI, 3000, .inl ft))] H := hP
                          have hD : va_D A [(mr 5, .inl (kI, 3002, .inl (upd fk1 tk 1))), (mr 6, .inl (kI, 3002, .inl (upd fa1 tk (nI i)))), (mr 7, .inl (kI, 3002, .inl (upd fe1 tk (nI j)))), (mr 8, .inl (kL, 3002, .inr (.inl gn9))), (m9, .inr (23, mA mr mv vf xl (nI zs) xf xa (nI (tk + 1)) xp xi xt xn xe xv xb)), (mr 0, .inl (kI, 3000, .inl ft))] := hD
                          obtain ⟨i9, hi9, hi8, hi7⟩ := hw
                          subst hi9
                          refine lv_istore_n (lv' := [(1, .int (nI i9)), (3, .int (nI i)), (2, .int r_4), (0, .ref m9)]) hx hb dX23_scan_153 rfl hl (by decide) rfl (fun ls hl => ?_)
                          refine lv_goto (tgt := 11) hx hb dX23_scan_154 (by decide) ?_
                          subst hQ2
                          exact ih1 i9 (tk + 1) (upd fk1 tk 1) (upd fa1 tk (nI i)) (upd fe1 tk (nI j)) gn9 _ _ _ (by omega) (tkR_up (tkR_add ha1 (Nat.le_refl _) (by omega) (by decide) (fun q => absurd q (by decide))) (by omega)) (hP.sub [4, 5, 0, 1, 2, 3] rfl) (hD.sub [4, 5, 0, 1, 2, 3] (by decide) rfl) hS (lv_sub hl [0, 3] rfl)
                      · have hlt : j < zs := digF_lt (fun q => hm2 (by rw [hr_9, hr_8]; exact q))
                        obtain ⟨x_10, ex_10⟩ : ∃ yY : Int32, yY = (nI j) + 1 := ⟨_, rfl⟩
                        refine lv_iinc (v := x_10) (lv' := [(1, .int x_10), (3, .int (nI i)), (2, .int r_4), (0, .ref m9)]) hx hb dX23_scan_93 hl (k := 0) rfl (by rw [ex_10]; rfl) (by decide) rfl (fun ls hl => ?_)
                        obtain rfl : x_10 = nI (j + 1) := by rw [ex_10]; exact nI_1 j
                        have hl : lv_has ls 4 [(1, .int (nI (j + 1))), (3, .int (nI i)), (2, .int r_4), (0, .ref m9)] := hl
                        refine lv_goto (tgt := 71) hx hb dX23_scan_96 (by decide) ?_
                        exact ih2 (j + 1) _ _ _ (by omega) (by omega) (hP.sub [4, 5, 0, 1, 2, 3] rfl) (hD.sub [4, 5, 0, 1, 2, 3] (by decide) rfl) hS (lv_sub hl [0, 1, 2, 3] rfl)
                exact key2 (zs + 1 - i) i _ _ _ (by omega) (Nat.le_refl _) (hP.sub [4, 5, 0, 1, 2, 3] rfl) (hD.sub [4, 5, 0, 1, 2, 3] (by decide) rfl) hS (lv_sub hl [2, 0, 1, 3] rfl)
            · refine lv_aload_n hx hb dX23_scan_53 rfl (lv_at hl 2 rfl) ?_
              refine lv_iload_n hx hb dX23_scan_54 rfl (lv_at hl 1 rfl) ?_
              have hPc := hP.sub (ws' := [(m9, .inr (23, mA mr mv vf xl (nI zs) xf xa (nI tk) xp xi xt xn xe xv xb)), (mr 0, .inl (kI, 3000, .inl ft)), (mr 5, .inl (kI, 3002, .inl fk1)), (mr 6, .inl (kI, 3002, .inl fa1)), (mr 7, .inl (kI, 3002, .inl fe1)), (mr 8, .inl (kL, 3002, .inr (.inl fn1)))]) [4, 5, 0, 1, 2, 3] rfl
              have hDc := hD.sub (ws' := [(m9, .inr (23, mA mr mv vf xl (nI zs) xf xa (nI tk) xp xi xt xn xe xv xb)), (mr 0, .inl (kI, 3000, .inl ft)), (mr 5, .inl (kI, 3002, .inl fk1)), (mr 6, .inl (kI, 3002, .inl fa1)), (mr 7, .inl (kI, 3002, .inl fe1)), (mr 8, .inl (kL, 3002, .inr (.inl fn1)))]) [4, 5, 0, 1, 2, 3] (by decide) rfl
              have hKc := hK.sub (tys' := [(kI, .int), (kL, .long)]) [0, 1] rfl
              have hFc := va_free (wc := [(m9, .inr (23, mA mr mv vf xl (nI zs) xf xa (nI tk) xp xi xt xn xe xv xb)), (mr 0, .inl (kI, 3000, .inl ft)), (mr 5, .inl (kI, 3002, .inl fk1)), (mr 6, .inl (kI, 3002, .inl fa1)), (mr 7, .inl (kI, 3002, .inl fe1)), (mr 8, .inl (kL, 3002, .inr (.inl fn1)))]) hD hS hA [4, 5, 0, 1, 2, 3] rfl
              refine va_calli (va_runV (As := [.int (nI i)]) (rest := []) ⟨hx, hb, hml, hown, hts⟩ (c_rlif l dC dI m9 mr mv vf xl xf xa xp xi xt xn xe xv xb zs tk kI kL ft fk1 fa1 fe1 fn1 i t0 t1 t2 t3 H.size hzs (by omega) hisz) (cwV 1 hts g_c_rscan_c_rlif_55 rfl rfl rfl (by decide +kernel) ⟨Nat.le_of_ble_eq_true rfl, Nat.le_of_ble_eq_true rfl⟩) ⟨fun a U g mk q => by obtain ⟨q0, q1, qP, qK, qD, qx0⟩ := q; exact ⟨q0, q1, qP, va_K.moved (u := U) (U := U.calling g mk a) (Vm.Alike.refl U.vm) qK, qD, stA.moved (u := U) (U := U.calling g mk a) (Vm.Alike.refl U.vm) qx0⟩, va_recv hKc hPc (ci := 23) (q0 := 0) rfl rfl, fun U hU hW => ⟨rfl, by rw [hU], by rw [hU]; exact hPc, va_K.moved hW.alike hKc, hDc.weaken (fun _ _ _ _ => trivial), by rw [hU]; exact ((hpre0.kept hS.2.1).moved hW.alike).narrow hFc⟩⟩ rfl rfl hl.1 rfl (lv_room (Nat.le_of_ble_eq_true rfl)) dX23_scan_55 ⟨(show 0 + 0 ≤ 0 by omega), (show 0 + 0 ≤ 0 by omega)⟩) hS (fun q _ h => hFc q h) hFc (fun r_5 u_6 tS H1 locs ht hvm hw hB hz1 hk1 hS => ?_)
              obtain ⟨kd9, gn9, hf6_0, hP1, hK1, hD1⟩ := hB
              rw [ht] at hP1
              have hK1 := va_K.moved hvm.symm hK1
              obtain ⟨hP, hD⟩ := va_join (wr := []) (w1 := [(m9, .inr (23, mA mr mv vf xl (nI zs) xf xa (nI (tk + 1)) xp xi xt xn xe xv xb)), (mr 0, .inl (kI, 3000, .inl ft)), (mr 5, .inl (kI, 3002, .inl (upd fk1 tk kd9))), (mr 6, .inl (kI, 3002, .inl (upd fa1 tk (nI i)))), (mr 7, .inl (kI, 3002, .inl (upd fe1 tk (nI u_6)))), (mr 8, .inl (kL, 3002, .inr (.inl gn9)))]) hP hD [4, 5, 0, 1, 2, 3] [] rfl rfl (by decide) (by decide) hk1 hFc hP1 hD1
              have hK := hK.app hK1
              generalize H1 = H at hP hS ⊢
              have hP : va_P (dC, dI) vwCl [(m9, .inr (23, mA mr mv vf xl (nI zs) xf xa (nI (tk + 1)) xp xi xt xn xe xv xb)), (mr 0, .inl (kI, 3000, .inl ft)), (mr 5, .inl (kI, 3002, .inl (upd fk1 tk kd9))), (mr 6, .inl (kI, 3002, .inl (upd fa1 tk (nI i)))), (mr 7, .inl (kI, 3002, .inl (upd fe1 tk (nI u_6)))), (mr 8, .inl (kL, 3002, .inr (.inl gn9)))] H := hP
              have hD : va_D A [(m9, .inr (23, mA mr mv vf xl (nI zs) xf xa (nI (tk + 1)) xp xi xt xn xe xv xb)), (mr 0, .inl (kI, 3000, .inl ft)), (mr 5, .inl (kI, 3002, .inl (upd fk1 tk kd9))), (mr 6, .inl (kI, 3002, .inl (upd fa1 tk (nI i)))), (mr 7, .inl (kI, 3002, .inl (upd fe1 tk (nI u_6)))), (mr 8, .inl (kL, 3002, .inr (.inl gn9)))] := hD
              have hK : va_K (dC, dI) vwCl [(kI, .int), (kL, .long), (kI, .int), (kL, .long)] s := hK
              have hK := hK.sub (tys' := [(kI, .int), (kL, .long)]) [0, 1] rfl
              have hP : va_P (dC, dI) vwCl [(m9, .inr (23, mA mr mv vf xl (nI zs) xf xa (nI (tk + 1)) xp xi xt xn xe xv xb)), (mr 0, .inl (kI, 3000, .inl ft)), (mr 5, .inl (kI, 3002, .inl (upd fk1 tk kd9))), (mr 6, .inl (kI, 3002, .inl (upd fa1 tk (nI i)))), (mr 7, .inl (kI, 3002, .inl (upd fe1 tk (nI u_6)))), (mr 8, .inl (kL, 3002, .inr (.inl gn9)))] H := hP
              have hD : va_D A [(m9, .inr (23, mA mr mv vf xl (nI zs) xf xa (nI (tk + 1)) xp xi xt xn xe xv xb)), (mr 0, .inl (kI, 3000, .inl ft)), (mr 5, .inl (kI, 3002, .inl (upd fk1 tk kd9))), (mr 6, .inl (kI, 3002, .inl (upd fa1 tk (nI i)))), (mr 7, .inl (kI, 3002, .inl (upd fe1 tk (nI u_6)))), (mr 8, .inl (kL, 3002, .inr (.inl gn9)))] := hD
              obtain rfl : r_5 = nI u_6 := hw
              obtain ⟨hu1, hu2, hu3, hu4⟩ := hf6_0
              refine lv_istore_n (lv' := [(1, .int (nI u_6)), (2, .int r_4), (0, .ref m9)]) hx hb dX23_scan_58 rfl hl (by decide) rfl (fun ls hl => ?_)
              refine lv_goto (tgt := 148) hx hb dX23_scan_59 (by decide) ?_
              refine lv_aload_n hx hb dX23_scan_148 rfl (lv_at hl 2 rfl) ?_
              refine lv_iload_n hx hb dX23_scan_149 rfl (lv_at hl 0 rfl) ?_
              have hPc := hP.sub (ws' := [(m9, .inr (23, mA mr mv vf xl (nI zs) xf xa (nI (tk + 1)) xp xi xt xn xe xv xb)), (mr 0, .inl (kI, 3000, .inl ft))]) [0, 1] rfl
              have hDc := hD.sub (ws' := [(m9, .inr (23, mA mr mv vf xl (nI zs) xf xa (nI (tk + 1)) xp xi xt xn xe xv xb)), (mr 0, .inl (kI, 3000, .inl ft))]) [0, 1] (by decide) rfl
              have hKc := hK.sub (tys' := [(kI, .int)]) [0] rfl
              have hFc := va_free (wc := [(m9, .inr (23, mA mr mv vf xl (nI zs) xf xa (nI (tk + 1)) xp xi xt xn xe xv xb)), (mr 0, .inl (kI, 3000, .inl ft))]) hD hS hA [0, 1] rfl
              refine va_calli (va_runV (As := [.int (nI u_6)]) (rest := []) ⟨hx, hb, hml, hown, hts⟩ (c_rblk l dC dI m9 mr mv vf xl xf xa xp xi xt xn xe xv xb zs (tk + 1) u_6 kI ft H.size hzs (by omega)) (cwV 1 hts g_c_rscan_c_rblk_150 rfl rfl rfl (by decide +kernel) ⟨Nat.le_of_ble_eq_true rfl, Nat.le_of_ble_eq_true rfl⟩) ⟨fun a U g mk q => by obtain ⟨q0, q1, qP, qK, qD⟩ := q; exact ⟨q0, q1, qP, va_K.moved (u := U) (U := U.calling g mk a) (Vm.Alike.refl U.vm) qK, qD⟩, va_recv hKc hPc (ci := 23) (q0 := 0) rfl rfl, fun U hU hW => ⟨rfl, by rw [hU], by rw [hU]; exact hPc, va_K.moved hW.alike hKc, hDc.weaken (fun _ _ _ _ => trivial)⟩⟩ rfl rfl hl.1 rfl (lv_room (Nat.le_of_ble_eq_true rfl)) dX23_scan_150 ⟨(show 0 + 0 ≤ 0 by omega), (show 0 + 0 ≤ 0 by omega)⟩) hS (fun q _ h => hFc q h) hFc (fun r_7 u tS H1 locs ht hvm hw hB hz1 hk1 hS => ?_)
              obtain ⟨hP1, hK1, hD1⟩ := hB
              rw [ht] at hP1
              have hK1 := va_K.moved hvm.symm hK1
              obtain ⟨hP, hD⟩ := va_join (wr := [(mr 5, .inl (kI, 3002, .inl (upd fk1 tk kd9))), (mr 6, .inl (kI, 3002, .inl (upd fa1 tk (nI i)))), (mr 7, .inl (kI, 3002, .inl (upd fe1 tk (nI u_6)))), (mr 8, .inl (kL, 3002, .inr (.inl gn9)))]) (w1 := [(m9, .inr (23, mA mr mv vf xl (nI zs) xf xa (nI (tk + 1)) xp xi xt xn xe xv xb)), (mr 0, .inl (kI, 3000, .inl ft))]) hP hD [0, 1] [2, 3, 4, 5] rfl rfl (by decide) (by decide) hk1 hFc hP1 hD1
              have hK := hK.app hK1
              generalize H1 = H at hP hS ⊢
              have hP : va_P (dC, dI) vwCl [(mr 5, .inl (kI, 3002, .inl (upd fk1 tk kd9))), (mr 6, .inl (kI, 3002, .inl (upd fa1 tk (nI i)))), (mr 7, .inl (kI, 3002, .inl (upd fe1 tk (nI u_6)))), (mr 8, .inl (kL, 3002, .inr (.inl gn9))), (m9, .inr (23, mA mr mv vf xl (nI zs) xf xa (nI (tk + 1)) xp xi xt xn xe xv xb)), (mr 0, .inl (kI, 3000, .inl ft))] H := hP
              have hD : va_D A [(mr 5, .inl (kI, 3002, .inl (upd fk1 tk kd9))), (mr 6, .inl (kI, 3002, .inl (upd fa1 tk (nI i)))), (mr 7, .inl (kI, 3002, .inl (upd fe1 tk (nI u_6)))), (mr 8, .inl (kL, 3002, .inr (.inl gn9))), (m9, .inr (23, mA mr mv vf xl (nI zs) xf xa (nI (tk + 1)) xp xi xt xn xe xv xb)), (mr 0, .inl (kI, 3000, .inl ft))] := hD
              have hK : va_K (dC, dI) vwCl [(kI, .int), (kL, .long), (kI, .int)] s := hK
              have hK := hK.sub (tys' := [(kI, .int), (kL, .long)]) [0, 1] rfl
              have hP : va_P (dC, dI) vwCl [(mr 5, .inl (kI, 3002, .inl (upd fk1 tk kd9))), (mr 6, .inl (kI, 3002, .inl (upd fa1 tk (nI i)))), (mr 7, .inl (kI, 3002, .inl (upd fe1 tk (nI u_6)))), (mr 8, .inl (kL, 3002, .inr (.inl gn9))), (m9, .inr (23, mA mr mv vf xl (nI zs) xf xa (nI (tk + 1)) xp xi xt xn xe xv xb)), (mr 0, .inl (kI, 3000, .inl ft))] H := hP
              have hD : va_D A [(mr 5, .inl (kI, 3002, .inl (upd fk1 tk kd9))), (mr 6, .inl (kI, 3002, .inl (upd fa1 tk (nI i)))), (mr 7, .inl (kI, 3002, .inl (upd fe1 tk (nI u_6)))), (mr 8, .inl (kL, 3002, .inr (.inl gn9))), (m9, .inr (23, mA mr mv vf xl (nI zs) xf xa (nI (tk + 1)) xp xi xt xn xe xv xb)), (mr 0, .inl (kI, 3000, .inl ft))] := hD
              obtain ⟨i9, hi9, hi8, hi7⟩ := hw
              subst hi9
              refine lv_istore_n (lv' := [(1, .int (nI i9)), (2, .int r_4), (0, .ref m9)]) hx hb dX23_scan_153 rfl hl (by decide) rfl (fun ls hl => ?_)
              refine lv_goto (tgt := 11) hx hb dX23_scan_154 (by decide) ?_
              exact ih1 i9 (tk + 1) (upd fk1 tk kd9) (upd fa1 tk (nI i)) (upd fe1 tk (nI u_6)) gn9 _ _ _ (by omega) (tkR_up (tkR_add ha1 (Nat.le_refl _) (by omega) hu3 (fun q => absurd q hu4)) (by omega)) (hP.sub [4, 5, 0, 1, 2, 3] rfl) (hD.sub [4, 5, 0, 1, 2, 3] (by decide) rfl) hS (lv_sub hl [0, 2] rfl)
  exact key1 (zs + 1 - i1) i1 0 fk fa fe fn _ _ _ (by omega) tkR_0 (hP.sub [4, 5, 0, 1, 2, 3] rfl) (hD.sub [4, 5, 0, 1, 2, 3] (by decide) rfl) hS (lv_sub hl [0, 1] rfl)
