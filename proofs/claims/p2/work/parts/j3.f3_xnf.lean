set_option maxRecDepth 20000 in
theorem g_c_xnf_c_rnmY_12 : GoodIn wp_c_xnf (wsV RX23 150 RX23 yX23_name wp_c_rnmY) := goodIn_app (goodIn_f [.methodLink RX23 150 yX23_name, .instanceMethod yX23_name, .selects RX23 yX23_name yX23_name, .initialized RX23] [24, 25, 26, 9] rfl (by decide +kernel)) (goodIn_app (goodIn_f (wf_c_rnmY) [2, 3, 4, 5, 6, 7, 8, 9, 10, 11, 1, 12, 13, 14, 15, 16, 17, 18, 19, 20, 21, 22, 23] rfl wg_c_rnmY) (goodIn_app (goodIn_sub in_c_xnf_X23 gd_X23) (goodIn_n)))
set_option maxRecDepth 20000 in
theorem g_c_xnf_c_rnmN_12 : GoodIn wp_c_xnf (wsV RX23 150 RX23 yX23_name wp_c_rnmY) := goodIn_app (goodIn_f [.methodLink RX23 150 yX23_name, .instanceMethod yX23_name, .selects RX23 yX23_name yX23_name, .initialized RX23] [24, 25, 26, 9] rfl (by decide +kernel)) (goodIn_app (goodIn_f (wf_c_rnmY) [2, 3, 4, 5, 6, 7, 8, 9, 10, 11, 1, 12, 13, 14, 15, 16, 17, 18, 19, 20, 21, 22, 23] rfl wg_c_rnmY) (goodIn_app (goodIn_sub in_c_xnf_X23 gd_X23) (goodIn_n)))
set_option maxRecDepth 20000 in
theorem g_c_xnf_c_rok0_19 : GoodIn wp_c_xnf (wsV RX23 89 RX23 yX23_ok wp_c_rok0) := goodIn_app (goodIn_f [.methodLink RX23 89 yX23_ok, .instanceMethod yX23_ok, .selects RX23 yX23_ok yX23_ok, .initialized RX23] [6, 7, 8, 9] rfl (by decide +kernel)) (goodIn_app (goodIn_f (wf_c_rok0) [4, 5] rfl wg_c_rok0) (goodIn_app (goodIn_sub in_c_xnf_X23 gd_X23) (goodIn_n)))
set_option maxRecDepth 20000 in
theorem g_c_xnf_c_risY_28 : GoodIn wp_c_xnf (wsV RX23 93 RX23 yX23_is wp_c_risY) := goodIn_app (goodIn_f [.methodLink RX23 93 yX23_is, .instanceMethod yX23_is, .selects RX23 yX23_is yX23_is, .initialized RX23] [12, 13, 14, 9] rfl (by decide +kernel)) (goodIn_app (goodIn_f (wf_c_risY) [10, 11, 1] rfl wg_c_risY) (goodIn_app (goodIn_sub in_c_xnf_X23 gd_X23) (goodIn_n)))
set_option maxRecDepth 20000 in
theorem g_c_xnf_c_risN_28 : GoodIn wp_c_xnf (wsV RX23 93 RX23 yX23_is wp_c_risY) := goodIn_app (goodIn_f [.methodLink RX23 93 yX23_is, .instanceMethod yX23_is, .selects RX23 yX23_is yX23_is, .initialized RX23] [12, 13, 14, 9] rfl (by decide +kernel)) (goodIn_app (goodIn_f (wf_c_risY) [10, 11, 1] rfl wg_c_risY) (goodIn_app (goodIn_sub in_c_xnf_X23 gd_X23) (goodIn_n)))
set_option maxRecDepth 20000 in
theorem g_c_xnf_c_renN_39 : GoodIn wp_c_xnf (wsV RX23 119 RX23 yX23_enter wp_c_renY) := goodIn_app (goodIn_f [.methodLink RX23 119 yX23_enter, .instanceMethod yX23_enter, .selects RX23 yX23_enter yX23_enter, .initialized RX23] [30, 31, 32, 9] rfl (by decide +kernel)) (goodIn_app (goodIn_f (wf_c_renY) [28, 4, 5, 6, 7, 8, 9, 29, 15, 16, 17, 18, 19, 20] rfl wg_c_renY) (goodIn_app (goodIn_sub in_c_xnf_X23 gd_X23) (goodIn_n)))
set_option maxRecDepth 20000 in
theorem g_c_xnf_c_renY_39 : GoodIn wp_c_xnf (wsV RX23 119 RX23 yX23_enter wp_c_renY) := goodIn_app (goodIn_f [.methodLink RX23 119 yX23_enter, .instanceMethod yX23_enter, .selects RX23 yX23_enter yX23_enter, .initialized RX23] [30, 31, 32, 9] rfl (by decide +kernel)) (goodIn_app (goodIn_f (wf_c_renY) [28, 4, 5, 6, 7, 8, 9, 29, 15, 16, 17, 18, 19, 20] rfl wg_c_renY) (goodIn_app (goodIn_sub in_c_xnf_X23 gd_X23) (goodIn_n)))
set_option maxRecDepth 20000 in
theorem g_c_xnf_c_rtkB_58 : GoodIn wp_c_xnf (wsV RX23 100 RX23 yX23_take wp_c_rtkY) := goodIn_app (goodIn_f [.methodLink RX23 100 yX23_take, .instanceMethod yX23_take, .selects RX23 yX23_take yX23_take, .initialized RX23] [21, 22, 23, 9] rfl (by decide +kernel)) (goodIn_app (goodIn_f (wf_c_rtkY) [3, 4, 5, 6, 7, 8, 9, 10, 11, 1, 12, 13, 14, 15, 16, 17, 18, 19, 20] rfl wg_c_rtkY) (goodIn_app (goodIn_sub in_c_xnf_X23 gd_X23) (goodIn_n)))
set_option maxRecDepth 20000 in
theorem g_c_xnf_c_rokB_64 : GoodIn wp_c_xnf (wsV RX23 89 RX23 yX23_ok wp_c_rok0) := goodIn_app (goodIn_f [.methodLink RX23 89 yX23_ok, .instanceMethod yX23_ok, .selects RX23 yX23_ok yX23_ok, .initialized RX23] [6, 7, 8, 9] rfl (by decide +kernel)) (goodIn_app (goodIn_f (wf_c_rok0) [4, 5] rfl wg_c_rok0) (goodIn_app (goodIn_sub in_c_xnf_X23 gd_X23) (goodIn_n)))
set_option maxRecDepth 20000 in
theorem g_c_xnf_c_rtkB_124 : GoodIn wp_c_xnf (wsV RX23 100 RX23 yX23_take wp_c_rtkY) := goodIn_app (goodIn_f [.methodLink RX23 100 yX23_take, .instanceMethod yX23_take, .selects RX23 yX23_take yX23_take, .initialized RX23] [21, 22, 23, 9] rfl (by decide +kernel)) (goodIn_app (goodIn_f (wf_c_rtkY) [3, 4, 5, 6, 7, 8, 9, 10, 11, 1, 12, 13, 14, 15, 16, 17, 18, 19, 20] rfl wg_c_rtkY) (goodIn_app (goodIn_sub in_c_xnf_X23 gd_X23) (goodIn_n)))
set_option maxRecDepth 20000 in
theorem g_c_xnf_c_rtkY_58 : GoodIn wp_c_xnf (wsV RX23 100 RX23 yX23_take wp_c_rtkY) := goodIn_app (goodIn_f [.methodLink RX23 100 yX23_take, .instanceMethod yX23_take, .selects RX23 yX23_take yX23_take, .initialized RX23] [21, 22, 23, 9] rfl (by decide +kernel)) (goodIn_app (goodIn_f (wf_c_rtkY) [3, 4, 5, 6, 7, 8, 9, 10, 11, 1, 12, 13, 14, 15, 16, 17, 18, 19, 20] rfl wg_c_rtkY) (goodIn_app (goodIn_sub in_c_xnf_X23 gd_X23) (goodIn_n)))
set_option maxRecDepth 20000 in
theorem g_c_xnf_c_rok0_64 : GoodIn wp_c_xnf (wsV RX23 89 RX23 yX23_ok wp_c_rok0) := goodIn_app (goodIn_f [.methodLink RX23 89 yX23_ok, .instanceMethod yX23_ok, .selects RX23 yX23_ok yX23_ok, .initialized RX23] [6, 7, 8, 9] rfl (by decide +kernel)) (goodIn_app (goodIn_f (wf_c_rok0) [4, 5] rfl wg_c_rok0) (goodIn_app (goodIn_sub in_c_xnf_X23 gd_X23) (goodIn_n)))
set_option maxRecDepth 20000 in
theorem g_c_xnf_c_rnmY_75 : GoodIn wp_c_xnf (wsV RX23 150 RX23 yX23_name wp_c_rnmY) := goodIn_app (goodIn_f [.methodLink RX23 150 yX23_name, .instanceMethod yX23_name, .selects RX23 yX23_name yX23_name, .initialized RX23] [24, 25, 26, 9] rfl (by decide +kernel)) (goodIn_app (goodIn_f (wf_c_rnmY) [2, 3, 4, 5, 6, 7, 8, 9, 10, 11, 1, 12, 13, 14, 15, 16, 17, 18, 19, 20, 21, 22, 23] rfl wg_c_rnmY) (goodIn_app (goodIn_sub in_c_xnf_X23 gd_X23) (goodIn_n)))
set_option maxRecDepth 20000 in
theorem g_c_xnf_c_rnmN_75 : GoodIn wp_c_xnf (wsV RX23 150 RX23 yX23_name wp_c_rnmY) := goodIn_app (goodIn_f [.methodLink RX23 150 yX23_name, .instanceMethod yX23_name, .selects RX23 yX23_name yX23_name, .initialized RX23] [24, 25, 26, 9] rfl (by decide +kernel)) (goodIn_app (goodIn_f (wf_c_rnmY) [2, 3, 4, 5, 6, 7, 8, 9, 10, 11, 1, 12, 13, 14, 15, 16, 17, 18, 19, 20, 21, 22, 23] rfl wg_c_rnmY) (goodIn_app (goodIn_sub in_c_xnf_X23 gd_X23) (goodIn_n)))
set_option maxRecDepth 20000 in
theorem g_c_xnf_c_rtkY_82 : GoodIn wp_c_xnf (wsV RX23 100 RX23 yX23_take wp_c_rtkY) := goodIn_app (goodIn_f [.methodLink RX23 100 yX23_take, .instanceMethod yX23_take, .selects RX23 yX23_take yX23_take, .initialized RX23] [21, 22, 23, 9] rfl (by decide +kernel)) (goodIn_app (goodIn_f (wf_c_rtkY) [3, 4, 5, 6, 7, 8, 9, 10, 11, 1, 12, 13, 14, 15, 16, 17, 18, 19, 20] rfl wg_c_rtkY) (goodIn_app (goodIn_sub in_c_xnf_X23 gd_X23) (goodIn_n)))
set_option maxRecDepth 20000 in
theorem g_c_xnf_c_rtkN_82 : GoodIn wp_c_xnf (wsV RX23 100 RX23 yX23_take wp_c_rtkY) := goodIn_app (goodIn_f [.methodLink RX23 100 yX23_take, .instanceMethod yX23_take, .selects RX23 yX23_take yX23_take, .initialized RX23] [21, 22, 23, 9] rfl (by decide +kernel)) (goodIn_app (goodIn_f (wf_c_rtkY) [3, 4, 5, 6, 7, 8, 9, 10, 11, 1, 12, 13, 14, 15, 16, 17, 18, 19, 20] rfl wg_c_rtkY) (goodIn_app (goodIn_sub in_c_xnf_X23 gd_X23) (goodIn_n)))
set_option maxRecDepth 20000 in
theorem g_c_xnf_c_rok0_86 : GoodIn wp_c_xnf (wsV RX23 89 RX23 yX23_ok wp_c_rok0) := goodIn_app (goodIn_f [.methodLink RX23 89 yX23_ok, .instanceMethod yX23_ok, .selects RX23 yX23_ok yX23_ok, .initialized RX23] [6, 7, 8, 9] rfl (by decide +kernel)) (goodIn_app (goodIn_f (wf_c_rok0) [4, 5] rfl wg_c_rok0) (goodIn_app (goodIn_sub in_c_xnf_X23 gd_X23) (goodIn_n)))
set_option maxRecDepth 20000 in
theorem g_c_xnf_c_xex_94 : GoodIn wp_c_xnf (wsV RX23 264 RX23 yX23_exp wp_c_xex) := goodIn_app (goodIn_f [.methodLink RX23 264 yX23_exp, .instanceMethod yX23_exp, .selects RX23 yX23_exp yX23_exp, .initialized RX23] [37, 38, 39, 9] rfl (by decide +kernel)) (goodIn_app (goodIn_f (wf_c_xex) [33, 34, 35, 36, 9, 52, 42, 53, 54, 55, 56, 57, 58, 59, 1, 60, 11, 61, 27, 10, 12, 13, 14, 62, 63, 4, 5, 6, 7, 8, 28, 29, 15, 16, 17, 18, 19, 20, 30, 31, 32, 3, 21, 22, 23, 37, 38, 39, 40, 41, 43, 44, 45, 46, 47, 48, 49, 50, 51, 64, 65, 66, 2, 24, 25, 26, 67, 68, 69, 70, 71, 72, 0, 73, 74, 75, 76, 77, 78, 79, 80, 81, 82, 83, 84, 85, 86, 87, 88, 89, 90, 91, 92, 93, 94, 95, 96, 97, 98, 99, 100, 101] rfl wg_c_xex) (goodIn_app (goodIn_sub in_c_xnf_X15 gd_X15) (goodIn_app (goodIn_sub in_c_xnf_X23 gd_X23) (goodIn_n))))
set_option maxRecDepth 20000 in
theorem g_c_xnf_c_xaN_98 : GoodIn wp_c_xnf (va_wsS RX23 351 yX23_add wp_c_xaN) := goodIn_app (goodIn_f [.methodLink RX23 351 yX23_add, .static yX23_add, .initialized RX23] [46, 47, 9] rfl (by decide +kernel)) (goodIn_app (goodIn_f (wf_c_xaN) [40, 41, 42, 43, 44, 45] rfl wg_c_xaN) (goodIn_app (goodIn_sub in_c_xnf_X15 gd_X15) (goodIn_n)))
set_option maxRecDepth 20000 in
theorem g_c_xnf_c_rtsY_104 : GoodIn wp_c_xnf (wsV RX23 125 RX23 yX23_takes wp_c_rtsY) := goodIn_app (goodIn_f [.methodLink RX23 125 yX23_takes, .instanceMethod yX23_takes, .selects RX23 yX23_takes yX23_takes, .initialized RX23] [49, 50, 51, 9] rfl (by decide +kernel)) (goodIn_app (goodIn_f (wf_c_rtsY) [48, 4, 5, 6, 7, 8, 9, 10, 11, 1, 12, 13, 14] rfl wg_c_rtsY) (goodIn_app (goodIn_sub in_c_xnf_X23 gd_X23) (goodIn_n)))
set_option maxRecDepth 20000 in
theorem g_c_xnf_c_rtsN_104 : GoodIn wp_c_xnf (wsV RX23 125 RX23 yX23_takes wp_c_rtsY) := goodIn_app (goodIn_f [.methodLink RX23 125 yX23_takes, .instanceMethod yX23_takes, .selects RX23 yX23_takes yX23_takes, .initialized RX23] [49, 50, 51, 9] rfl (by decide +kernel)) (goodIn_app (goodIn_f (wf_c_rtsY) [48, 4, 5, 6, 7, 8, 9, 10, 11, 1, 12, 13, 14] rfl wg_c_rtsY) (goodIn_app (goodIn_sub in_c_xnf_X23 gd_X23) (goodIn_n)))
set_option maxRecDepth 20000 in
theorem g_c_xnf_c_rtkY_124 : GoodIn wp_c_xnf (wsV RX23 100 RX23 yX23_take wp_c_rtkY) := goodIn_app (goodIn_f [.methodLink RX23 100 yX23_take, .instanceMethod yX23_take, .selects RX23 yX23_take yX23_take, .initialized RX23] [21, 22, 23, 9] rfl (by decide +kernel)) (goodIn_app (goodIn_f (wf_c_rtkY) [3, 4, 5, 6, 7, 8, 9, 10, 11, 1, 12, 13, 14, 15, 16, 17, 18, 19, 20] rfl wg_c_rtkY) (goodIn_app (goodIn_sub in_c_xnf_X23 gd_X23) (goodIn_n)))
set_option maxRecDepth 20000 in
theorem g_c_xnf_c_rtkN_124 : GoodIn wp_c_xnf (wsV RX23 100 RX23 yX23_take wp_c_rtkY) := goodIn_app (goodIn_f [.methodLink RX23 100 yX23_take, .instanceMethod yX23_take, .selects RX23 yX23_take yX23_take, .initialized RX23] [21, 22, 23, 9] rfl (by decide +kernel)) (goodIn_app (goodIn_f (wf_c_rtkY) [3, 4, 5, 6, 7, 8, 9, 10, 11, 1, 12, 13, 14, 15, 16, 17, 18, 19, 20] rfl wg_c_rtkY) (goodIn_app (goodIn_sub in_c_xnf_X23 gd_X23) (goodIn_n)))
set_option maxRecDepth 20000 in
theorem g_c_xnf_c_xaA_98 : GoodIn wp_c_xnf (va_wsS RX23 351 yX23_add wp_c_xaN) := goodIn_app (goodIn_f [.methodLink RX23 351 yX23_add, .static yX23_add, .initialized RX23] [46, 47, 9] rfl (by decide +kernel)) (goodIn_app (goodIn_f (wf_c_xaN) [40, 41, 42, 43, 44, 45] rfl wg_c_xaN) (goodIn_app (goodIn_sub in_c_xnf_X15 gd_X15) (goodIn_n)))
set_option maxRecDepth 20000 in
theorem g_c_xnf_c_rtsB_104 : GoodIn wp_c_xnf (wsV RX23 125 RX23 yX23_takes wp_c_rtsY) := goodIn_app (goodIn_f [.methodLink RX23 125 yX23_takes, .instanceMethod yX23_takes, .selects RX23 yX23_takes yX23_takes, .initialized RX23] [49, 50, 51, 9] rfl (by decide +kernel)) (goodIn_app (goodIn_f (wf_c_rtsY) [48, 4, 5, 6, 7, 8, 9, 10, 11, 1, 12, 13, 14] rfl wg_c_rtsY) (goodIn_app (goodIn_sub in_c_xnf_X23 gd_X23) (goodIn_n)))
set_option maxRecDepth 20000 in
theorem g_c_xnf_c_rokB_86 : GoodIn wp_c_xnf (wsV RX23 89 RX23 yX23_ok wp_c_rok0) := goodIn_app (goodIn_f [.methodLink RX23 89 yX23_ok, .instanceMethod yX23_ok, .selects RX23 yX23_ok yX23_ok, .initialized RX23] [6, 7, 8, 9] rfl (by decide +kernel)) (goodIn_app (goodIn_f (wf_c_rok0) [4, 5] rfl wg_c_rok0) (goodIn_app (goodIn_sub in_c_xnf_X23 gd_X23) (goodIn_n)))
set_option maxRecDepth 20000 in
theorem g_c_xnf_c_rtkB_82 : GoodIn wp_c_xnf (wsV RX23 100 RX23 yX23_take wp_c_rtkY) := goodIn_app (goodIn_f [.methodLink RX23 100 yX23_take, .instanceMethod yX23_take, .selects RX23 yX23_take yX23_take, .initialized RX23] [21, 22, 23, 9] rfl (by decide +kernel)) (goodIn_app (goodIn_f (wf_c_rtkY) [3, 4, 5, 6, 7, 8, 9, 10, 11, 1, 12, 13, 14, 15, 16, 17, 18, 19, 20] rfl wg_c_rtkY) (goodIn_app (goodIn_sub in_c_xnf_X23 gd_X23) (goodIn_n)))
set_option maxRecDepth 20000 in
theorem g_c_xnf_c_rtkN_58 : GoodIn wp_c_xnf (wsV RX23 100 RX23 yX23_take wp_c_rtkY) := goodIn_app (goodIn_f [.methodLink RX23 100 yX23_take, .instanceMethod yX23_take, .selects RX23 yX23_take yX23_take, .initialized RX23] [21, 22, 23, 9] rfl (by decide +kernel)) (goodIn_app (goodIn_f (wf_c_rtkY) [3, 4, 5, 6, 7, 8, 9, 10, 11, 1, 12, 13, 14, 15, 16, 17, 18, 19, 20] rfl wg_c_rtkY) (goodIn_app (goodIn_sub in_c_xnf_X23 gd_X23) (goodIn_n)))
set_option maxRecDepth 20000 in
theorem g_c_xnf_c_rokB_19 : GoodIn wp_c_xnf (wsV RX23 89 RX23 yX23_ok wp_c_rok0) := goodIn_app (goodIn_f [.methodLink RX23 89 yX23_ok, .instanceMethod yX23_ok, .selects RX23 yX23_ok yX23_ok, .initialized RX23] [6, 7, 8, 9] rfl (by decide +kernel)) (goodIn_app (goodIn_f (wf_c_rok0) [4, 5] rfl wg_c_rok0) (goodIn_app (goodIn_sub in_c_xnf_X23 gd_X23) (goodIn_n)))
set_option maxHeartbeats 4000000 in
set_option maxRecDepth 100000 in
theorem c_xnf (l : Launch) (dC : Nat → ClassId) (dI : Nat → Nat → Nat) (k : Nat) (ih : ∀ k1 : Nat, k = k1 + 1 → IH_gx l dC dI k1) : st_c_xnf l dC dI k := by
  intro m9 mr mv vf xl xa xi xt xn zs T pp ns vv bb kI fk fa kL kE fn L F ee tx sl sz hT hp hk0 hbb hnk hk24
  refine Met.ofW (cc := cX23_newFields) (maxL := 4) (ret := none) (by decide) rfl ?_
  intro p e s m args below meth c s₁ B hml hv
  obtain ⟨rfl, hsz, hP, hK, hD0, hpre0, hpre1⟩ := hv
  have hx := B.exec
  have hb := B.bytes
  have hr := B.returns
  have hts := atoms_spec (ws := wp_c_xnf) B.pre
  have hown : s.vm.findClass RX23 = some m.cls := findClass_of_methodNamed B.named
  have hlocks := B.notSynchronized
  subst hsz
  replace hD := hD0.self (sz := s.heap.size)
  generalize hAe : va_A (([(ee, .inr (15, [.int 5, .int tx, .int 0, .int 0, .int 0, .int 0, .long 0, .int 0, .null, .null, .null, .int 0, .null, .null])), (m9, .inr (23, mA mr mv vf xl (nI zs) 0 xa (nI T) (nI pp) xi xt xn (nI ns) (nI vv) (nI bb))), (mr 5, .inl (kI, 3002, .inl fk)), (mr 6, .inl (kI, 3002, .inl fa)), (mr 8, .inl (kL, 3002, .inr (.inl fn)))] : va_W) ++ (sT L F)) s.heap.size = A at hD ⊢
  have hA : ∀ q : Nat, s.heap.size ≤ q → A q := fun q h => by rw [← hAe]; exact Or.inr h
  have hS : va_S A s.heap s.heap [] := va_S.rf
  replace hP : va_P (dC, dI) vwCl (([(ee, .inr (15, [.int 5, .int tx, .int 0, .int 0, .int 0, .int 0, .long 0, .int 0, .null, .null, .null, .int 0, .null, .null])), (m9, .inr (23, mA mr mv vf xl (nI zs) 0 xa (nI T) (nI pp) xi xt xn (nI ns) (nI vv) (nI bb))), (mr 5, .inl (kI, 3002, .inl fk)), (mr 6, .inl (kI, 3002, .inl fa)), (mr 8, .inl (kL, 3002, .inr (.inl fn)))] : va_W) ++ (sT L F)) s.heap := hP
  replace hl := lv_entry ([.ref m9, .ref ee]) (n := 4) (Nat.le_of_ble_eq_true rfl)
  rw [lg_entry_eq]
  generalize (lg_sl ([.ref m9, .ref ee]) ++ List.replicate (4 - (lg_sl ([.ref m9, .ref ee])).length) Slot.unset).toArray = ls at hl ⊢
  replace hl : lv_has ls 4 [(0, .ref m9), (1, .ref ee)] := hl
  have hns := hpre0
  subst hpre1
  refine lv_aload_n hx hb dX23_newFields_0 rfl (lv_at hl 0 rfl) ?_
  refine lv_dup hx hb dX23_newFields_1 rfl ?_
  refine va_get (D := (dC, dI)) (ci := 23) (v := .int (nI pp)) (C := RX23) (T := TX23) (N := 89) hx hb hts in_c_xnf_X23 hown hK hP 1 rfl rfl 10 (by decide) (hts (.fieldLink RX23 86 "OwnedPlacesModel" "p" "I") (wm_c_xnf 1 rfl)) (fun _ h9 => h9) rfl dX23_newFields_2 ?_
  refine lv_iconst (v := 1) hx hb dX23_newFields_5 (by decide) ?_
  refine lv_iadd hx hb dX23_newFields_6 ?_
  refine lv_topi (fun f_1 ef_1 => ?_)
  obtain rfl : f_1 = nI (pp + 1) := ef_1.trans (nI_1 _)
  refine va_put (D := (dC, dI)) (ci := 23) (v := .int (nI (pp + 1))) (ty := .int) (C := RX23) (T := TX23) (N := 89) hx hb hts in_c_xnf_X23 tyX23 tyX23_ok nmX23 hown hK hP hD hS 1 rfl rfl 10 (by decide) (hts (.fieldLink RX23 86 "OwnedPlacesModel" "p" "I") (wm_c_xnf 1 rfl)) (fun _ h9 => h9) rfl (by decide +kernel) rfl rfl (Nat.le_of_ble_eq_true rfl) dX23_newFields_7 (fun H locs hP hD hS => ?_)
  replace hP : va_P (dC, dI) vwCl (([(ee, .inr (15, [.int 5, .int tx, .int 0, .int 0, .int 0, .int 0, .long 0, .int 0, .null, .null, .null, .int 0, .null, .null])), (m9, .inr (23, mA mr mv vf xl (nI zs) 0 xa (nI T) (nI (pp + 1)) xi xt xn (nI ns) (nI vv) (nI bb))), (mr 5, .inl (kI, 3002, .inl fk)), (mr 6, .inl (kI, 3002, .inl fa)), (mr 8, .inl (kL, 3002, .inr (.inl fn)))] : va_W) ++ (sT L F)) H := hP
  replace hD : va_D A (([(ee, .inr (15, [.int 5, .int tx, .int 0, .int 0, .int 0, .int 0, .long 0, .int 0, .null, .null, .null, .int 0, .null, .null])), (m9, .inr (23, mA mr mv vf xl (nI zs) 0 xa (nI T) (nI (pp + 1)) xi xt xn (nI ns) (nI vv) (nI bb))), (mr 5, .inl (kI, 3002, .inl fk)), (mr 6, .inl (kI, 3002, .inl fa)), (mr 8, .inl (kL, 3002, .inr (.inl fn)))] : va_W) ++ (sT L F)) := hD
  have hp_2 : pp + 1 < T := kne3 hk0 hp hk24 (by decide)
  refine lv_aload_n hx hb dX23_newFields_10 rfl (lv_at hl 1 rfl) ?_
  refine lv_aload_n hx hb dX23_newFields_11 rfl (lv_at hl 0 rfl) ?_
  by_cases hk_3 : fk (pp + 1) = 2
  · replace hPc := hP.subF (f' := [(m9, .inr (23, mA mr mv vf xl (nI zs) 0 xa (nI T) (nI (pp + 1)) xi xt xn (nI ns) (nI vv) (nI bb))), (mr 5, .inl (kI, 3002, .inl fk)), (mr 6, .inl (kI, 3002, .inl fa))]) [1, 2, 3] rfl
    replace hDc := hD.subF (f' := [(m9, .inr (23, mA mr mv vf xl (nI zs) 0 xa (nI T) (nI (pp + 1)) xi xt xn (nI ns) (nI vv) (nI bb))), (mr 5, .inl (kI, 3002, .inl fk)), (mr 6, .inl (kI, 3002, .inl fa))]) [1, 2, 3] (by decide) rfl
    replace hKc := hK.sub (tys' := [(kI, .int)]) [0] rfl
    replace hFc := va_freeT (wc := [(m9, .inr (23, mA mr mv vf xl (nI zs) 0 xa (nI T) (nI (pp + 1)) xi xt xn (nI ns) (nI vv) (nI bb))), (mr 5, .inl (kI, 3002, .inl fk)), (mr 6, .inl (kI, 3002, .inl fa))]) hD hS hA [1, 2, 3] rfl
    refine va_calli (va_runV (As := []) (rest := [.ref ee]) ⟨hx, hb, hml, hown, hts⟩ (c_rnmY l dC dI m9 mr mv vf xl xa xi xt xn zs T (pp + 1) ns vv bb kI fk fa H.size hT hp_2 hk0 hk_3) (cwV 0 hts g_c_xnf_c_rnmY_12 rfl rfl rfl (by decide +kernel) ⟨by show 2 + 1 ≤ 3 + 12 * k; omega, by show 8 + (1 + 11) + (42) ≤ 63 + 279 * k; omega⟩) ⟨fun a U g mk q => by obtain ⟨q0, q1, qP, qK, qD⟩ := q; exact ⟨q0, q1, qP, va_K.moved (u := U) (U := U.calling g mk a) (Vm.Alike.refl U.vm) qK, qD⟩, va_recv hKc hPc (ci := 23) (q0 := 0) rfl rfl, fun U hU hW => ⟨rfl, by rw [hU], by rw [hU]; exact hPc, va_K.moved hW.alike hKc, hDc.weaken (fun _ _ _ _ => trivial)⟩⟩ rfl rfl hl.1 rfl (lv_room (Nat.le_of_ble_eq_true rfl)) dX23_newFields_12 ⟨(show 0 + 0 ≤ (8 * (T - pp) + 3) by omega), (show 0 + 0 ≤ (120 * (T - pp) + 280) by omega)⟩) hS (fun q _ h => hFc q h) hFc (fun r_4 u tS H1 locs ht hvm hw hB hz1 hk1 hS => ?_)
    obtain ⟨hP1, hK1, hD1⟩ := hB
    rw [ht] at hP1
    replace hK1 := va_K.moved hvm.symm hK1
    obtain ⟨hPj, hDj⟩ := va_joinT (wr := [(ee, .inr (15, [.int 5, .int tx, .int 0, .int 0, .int 0, .int 0, .long 0, .int 0, .null, .null, .null, .int 0, .null, .null])), (mr 8, .inl (kL, 3002, .inr (.inl fn)))]) (w1 := [(m9, .inr (23, mA mr mv vf xl (nI zs) 0 xa (nI T) (nI ((pp + 1) + 1)) xi xt xn (nI ns) (nI vv) (nI bb))), (mr 5, .inl (kI, 3002, .inl fk)), (mr 6, .inl (kI, 3002, .inl fa))]) hP hD [1, 2, 3] [0, 4] rfl rfl (by decide) (by decide) hk1 hFc hP1 hD1
    replace hP := hPj
    replace hD := hDj
    clear hPj hDj
    replace hK := hK.app hK1
    generalize H1 = H at hP hS ⊢
    replace hP : va_P (dC, dI) vwCl (([(ee, .inr (15, [.int 5, .int tx, .int 0, .int 0, .int 0, .int 0, .long 0, .int 0, .null, .null, .null, .int 0, .null, .null])), (mr 8, .inl (kL, 3002, .inr (.inl fn))), (m9, .inr (23, mA mr mv vf xl (nI zs) 0 xa (nI T) (nI ((pp + 1) + 1)) xi xt xn (nI ns) (nI vv) (nI bb))), (mr 5, .inl (kI, 3002, .inl fk)), (mr 6, .inl (kI, 3002, .inl fa))] : va_W) ++ (sT L F)) H := hP
    replace hD : va_D A (([(ee, .inr (15, [.int 5, .int tx, .int 0, .int 0, .int 0, .int 0, .long 0, .int 0, .null, .null, .null, .int 0, .null, .null])), (mr 8, .inl (kL, 3002, .inr (.inl fn))), (m9, .inr (23, mA mr mv vf xl (nI zs) 0 xa (nI T) (nI ((pp + 1) + 1)) xi xt xn (nI ns) (nI vv) (nI bb))), (mr 5, .inl (kI, 3002, .inl fk)), (mr 6, .inl (kI, 3002, .inl fa))] : va_W) ++ (sT L F)) := hD
    replace hK : va_K (dC, dI) vwCl [(kI, .int), (kL, .long), (kE, .object RX15), (kI, .int)] s := hK
    replace hK := hK.sub (tys' := [(kI, .int), (kL, .long), (kE, .object RX15)]) [0, 1, 2] rfl
    clear hz1 hk1 hPc hDc hKc hFc hP1 hD1 hK1
    obtain rfl : r_4 = nI (pp + 1) := hw
    have hp_5 : pp + 1 + 1 < T := kne3 hk0 hp_2 hk_3 (by decide)
    refine va_put (D := (dC, dI)) (ci := 15) (v := .int (nI (pp + 1))) (ty := .int) (C := RX15) (T := TX15) (N := 14) hx hb hts in_c_xnf_X15 tyX15 tyX15_ok nmX15 hown hK hP hD hS 0 rfl rfl 3 (by decide) (hts (.fieldLink RX23 362 "OwnedPlacesModel$Exp" "name" "I") (wm_c_xnf 27 rfl)) (fun _ h9 => h9) rfl (by decide +kernel) rfl rfl (Nat.le_of_ble_eq_true rfl) dX23_newFields_15 (fun H locs hP hD hS => ?_)
    replace hP : va_P (dC, dI) vwCl (([(ee, .inr (15, [.int 5, .int tx, .int 0, .int (nI (pp + 1)), .int 0, .int 0, .long 0, .int 0, .null, .null, .null, .int 0, .null, .null])), (mr 8, .inl (kL, 3002, .inr (.inl fn))), (m9, .inr (23, mA mr mv vf xl (nI zs) 0 xa (nI T) (nI (pp + 1 + 1)) xi xt xn (nI ns) (nI vv) (nI bb))), (mr 5, .inl (kI, 3002, .inl fk)), (mr 6, .inl (kI, 3002, .inl fa))] : va_W) ++ (sT L F)) H := hP
    replace hD : va_D A (([(ee, .inr (15, [.int 5, .int tx, .int 0, .int (nI (pp + 1)), .int 0, .int 0, .long 0, .int 0, .null, .null, .null, .int 0, .null, .null])), (mr 8, .inl (kL, 3002, .inr (.inl fn))), (m9, .inr (23, mA mr mv vf xl (nI zs) 0 xa (nI T) (nI (pp + 1 + 1)) xi xt xn (nI ns) (nI vv) (nI bb))), (mr 5, .inl (kI, 3002, .inl fk)), (mr 6, .inl (kI, 3002, .inl fa))] : va_W) ++ (sT L F)) := hD
    refine lv_aload_n hx hb dX23_newFields_18 rfl (lv_at hl 0 rfl) ?_
    replace hPc := hP.subF (f' := [(m9, .inr (23, mA mr mv vf xl (nI zs) 0 xa (nI T) (nI (pp + 1 + 1)) xi xt xn (nI ns) (nI vv) (nI bb)))]) [2] rfl
    replace hDc := hD.subF (f' := [(m9, .inr (23, mA mr mv vf xl (nI zs) 0 xa (nI T) (nI (pp + 1 + 1)) xi xt xn (nI ns) (nI vv) (nI bb)))]) [2] (by decide) rfl
    replace hKc := hK.sub (tys' := []) [] rfl
    replace hFc := va_freeT (wc := [(m9, .inr (23, mA mr mv vf xl (nI zs) 0 xa (nI T) (nI (pp + 1 + 1)) xi xt xn (nI ns) (nI vv) (nI bb)))]) hD hS hA [2] rfl
    refine va_calli (va_runV (As := []) (rest := []) ⟨hx, hb, hml, hown, hts⟩ (c_rok0 l dC dI m9 mr mv vf xl xa xi xt xn zs T (pp + 1 + 1) ns vv bb kI fk fa H.size) (cwV 0 hts g_c_xnf_c_rok0_19 rfl rfl rfl (by decide +kernel) ⟨by show 0 + 1 ≤ 3 + 12 * k; omega, by show 8 + (1 + 11) + (0) ≤ 63 + 279 * k; omega⟩) ⟨fun a U g mk q => by obtain ⟨q0, q1, qP, qK, qD⟩ := q; exact ⟨q0, q1, qP, va_K.moved (u := U) (U := U.calling g mk a) (Vm.Alike.refl U.vm) qK, qD⟩, va_recv hKc hPc (ci := 23) (q0 := 0) rfl rfl, fun U hU hW => ⟨rfl, by rw [hU], by rw [hU]; exact hPc, va_K.moved hW.alike hKc, hDc.weaken (fun _ _ _ _ => trivial)⟩⟩ rfl rfl hl.1 rfl (lv_room (Nat.le_of_ble_eq_true rfl)) dX23_newFields_19 ⟨(show 0 + 0 ≤ (8 * (T - pp) + 3) by omega), (show 0 + 0 ≤ (120 * (T - pp) + 280) by omega)⟩) hS (fun q _ h => hFc q h) hFc (fun r_6 u tS H1 locs ht hvm hw hB hz1 hk1 hS => ?_)
    obtain ⟨hP1, hK1, hD1⟩ := hB
    rw [ht] at hP1
    replace hK1 := va_K.moved hvm.symm hK1
    obtain ⟨hPj, hDj⟩ := va_joinT (wr := [(ee, .inr (15, [.int 5, .int tx, .int 0, .int (nI (pp + 1)), .int 0, .int 0, .long 0, .int 0, .null, .null, .null, .int 0, .null, .null])), (mr 8, .inl (kL, 3002, .inr (.inl fn))), (mr 5, .inl (kI, 3002, .inl fk)), (mr 6, .inl (kI, 3002, .inl fa))]) (w1 := [(m9, .inr (23, mA mr mv vf xl (nI zs) 0 xa (nI T) (nI (pp + 1 + 1)) xi xt xn (nI ns) (nI vv) (nI bb)))]) hP hD [2] [0, 1, 3, 4] rfl rfl (by decide) (by decide) hk1 hFc hP1 hD1
    replace hP := hPj
    replace hD := hDj
    clear hPj hDj
    generalize H1 = H at hP hS ⊢
    replace hP : va_P (dC, dI) vwCl (([(ee, .inr (15, [.int 5, .int tx, .int 0, .int (nI (pp + 1)), .int 0, .int 0, .long 0, .int 0, .null, .null, .null, .int 0, .null, .null])), (mr 8, .inl (kL, 3002, .inr (.inl fn))), (mr 5, .inl (kI, 3002, .inl fk)), (mr 6, .inl (kI, 3002, .inl fa)), (m9, .inr (23, mA mr mv vf xl (nI zs) 0 xa (nI T) (nI (pp + 1 + 1)) xi xt xn (nI ns) (nI vv) (nI bb)))] : va_W) ++ (sT L F)) H := hP
    replace hD : va_D A (([(ee, .inr (15, [.int 5, .int tx, .int 0, .int (nI (pp + 1)), .int 0, .int 0, .long 0, .int 0, .null, .null, .null, .int 0, .null, .null])), (mr 8, .inl (kL, 3002, .inr (.inl fn))), (mr 5, .inl (kI, 3002, .inl fk)), (mr 6, .inl (kI, 3002, .inl fa)), (m9, .inr (23, mA mr mv vf xl (nI zs) 0 xa (nI T) (nI (pp + 1 + 1)) xi xt xn (nI ns) (nI vv) (nI bb)))] : va_W) ++ (sT L F)) := hD
    replace hK : va_K (dC, dI) vwCl [(kI, .int), (kL, .long), (kE, .object RX15)] s := hK
    clear hz1 hk1 hPc hDc hKc hFc hP1 hD1 hK1
    obtain rfl : r_6 = 1 := hw
    refine lv_if_eq (tgt := 45) hx hb dX23_newFields_22 (by decide) (fun c_7 => absurd c_7 (by decide)) (fun _ => ?_)
    refine lv_aload_n hx hb dX23_newFields_25 rfl (lv_at hl 0 rfl) ?_
    refine lv_bipush (v := 63) hx hb dX23_newFields_26 (by decide) ?_
    by_cases hk_8 : fk (pp + 1 + 1) = 63
    · replace hPc := hP.subF (f' := [(m9, .inr (23, mA mr mv vf xl (nI zs) 0 xa (nI T) (nI (pp + 1 + 1)) xi xt xn (nI ns) (nI vv) (nI bb))), (mr 5, .inl (kI, 3002, .inl fk))]) [4, 2] rfl
      replace hDc := hD.subF (f' := [(m9, .inr (23, mA mr mv vf xl (nI zs) 0 xa (nI T) (nI (pp + 1 + 1)) xi xt xn (nI ns) (nI vv) (nI bb))), (mr 5, .inl (kI, 3002, .inl fk))]) [4, 2] (by decide) rfl
      replace hKc := hK.sub (tys' := [(kI, .int)]) [0] rfl
      replace hFc := va_freeT (wc := [(m9, .inr (23, mA mr mv vf xl (nI zs) 0 xa (nI T) (nI (pp + 1 + 1)) xi xt xn (nI ns) (nI vv) (nI bb))), (mr 5, .inl (kI, 3002, .inl fk))]) hD hS hA [4, 2] rfl
      refine va_calli (va_runV (As := [.int 63]) (rest := []) ⟨hx, hb, hml, hown, hts⟩ (c_risY l dC dI m9 mr mv vf xl xa xi xt xn zs T (pp + 1 + 1) ns vv bb kI fk fa 0 63 H.size hT hp_5 hk_8) (cwV 1 hts g_c_xnf_c_risY_28 rfl rfl rfl (by decide +kernel) ⟨by show 0 + 1 ≤ 3 + 12 * k; omega, by show 8 + (2 + 11) + (0) ≤ 63 + 279 * k; omega⟩) ⟨fun a U g mk q => by obtain ⟨q0, q1, qP, qK, qD⟩ := q; exact ⟨q0, q1, qP, va_K.moved (u := U) (U := U.calling g mk a) (Vm.Alike.refl U.vm) qK, qD⟩, va_recv hKc hPc (ci := 23) (q0 := 0) rfl rfl, fun U hU hW => ⟨rfl, by rw [hU], by rw [hU]; exact hPc, va_K.moved hW.alike hKc, hDc.weaken (fun _ _ _ _ => trivial)⟩⟩ rfl rfl hl.1 rfl (lv_room (Nat.le_of_ble_eq_true rfl)) dX23_newFields_28 ⟨(show 0 + 0 ≤ (8 * (T - pp) + 3) by omega), (show 0 + 0 ≤ (120 * (T - pp) + 280) by omega)⟩) hS (fun q _ h => hFc q h) hFc (fun r_9 u tS H1 locs ht hvm hw hB hz1 hk1 hS => ?_)
      obtain ⟨hP1, hK1, hD1⟩ := hB
      rw [ht] at hP1
      replace hK1 := va_K.moved hvm.symm hK1
      obtain ⟨hPj, hDj⟩ := va_joinT (wr := [(ee, .inr (15, [.int 5, .int tx, .int 0, .int (nI (pp + 1)), .int 0, .int 0, .long 0, .int 0, .null, .null, .null, .int 0, .null, .null])), (mr 8, .inl (kL, 3002, .inr (.inl fn))), (mr 6, .inl (kI, 3002, .inl fa))]) (w1 := [(m9, .inr (23, mA mr mv vf xl (nI zs) 0 xa (nI T) (nI (pp + 1 + 1)) xi xt xn (nI ns) (nI vv) (nI bb))), (mr 5, .inl (kI, 3002, .inl fk))]) hP hD [4, 2] [0, 1, 3] rfl rfl (by decide) (by decide) hk1 hFc hP1 hD1
      replace hP := hPj
      replace hD := hDj
      clear hPj hDj
      replace hK := hK.app hK1
      generalize H1 = H at hP hS ⊢
      replace hP : va_P (dC, dI) vwCl (([(ee, .inr (15, [.int 5, .int tx, .int 0, .int (nI (pp + 1)), .int 0, .int 0, .long 0, .int 0, .null, .null, .null, .int 0, .null, .null])), (mr 8, .inl (kL, 3002, .inr (.inl fn))), (mr 6, .inl (kI, 3002, .inl fa)), (m9, .inr (23, mA mr mv vf xl (nI zs) 0 xa (nI T) (nI (pp + 1 + 1)) xi xt xn (nI ns) (nI vv) (nI bb))), (mr 5, .inl (kI, 3002, .inl fk))] : va_W) ++ (sT L F)) H := hP
      replace hD : va_D A (([(ee, .inr (15, [.int 5, .int tx, .int 0, .int (nI (pp + 1)), .int 0, .int 0, .long 0, .int 0, .null, .null, .null, .int 0, .null, .null])), (mr 8, .inl (kL, 3002, .inr (.inl fn))), (mr 6, .inl (kI, 3002, .inl fa)), (m9, .inr (23, mA mr mv vf xl (nI zs) 0 xa (nI T) (nI (pp + 1 + 1)) xi xt xn (nI ns) (nI vv) (nI bb))), (mr 5, .inl (kI, 3002, .inl fk))] : va_W) ++ (sT L F)) := hD
      replace hK : va_K (dC, dI) vwCl [(kI, .int), (kL, .long), (kE, .object RX15), (kI, .int)] s := hK
      replace hK := hK.sub (tys' := [(kI, .int), (kL, .long), (kE, .object RX15)]) [0, 1, 2] rfl
      clear hz1 hk1 hPc hDc hKc hFc hP1 hD1 hK1
      obtain rfl : r_9 = 1 := hw
      refine lv_if_eq (tgt := 45) hx hb dX23_newFields_31 (by decide) (fun c_10 => absurd c_10 (by decide)) (fun _ => ?_)
      refine lv_aload_n hx hb dX23_newFields_34 rfl (lv_at hl 0 rfl) ?_
      refine lv_aload_n hx hb dX23_newFields_35 rfl (lv_at hl 0 rfl) ?_
      refine va_get (D := (dC, dI)) (ci := 23) (v := .int (nI (pp + 1 + 1))) (C := RX23) (T := TX23) (N := 89) hx hb hts in_c_xnf_X23 hown hK hP 3 rfl rfl 10 (by decide) (hts (.fieldLink RX23 86 "OwnedPlacesModel" "p" "I") (wm_c_xnf 1 rfl)) (fun _ h9 => h9) rfl dX23_newFields_36 ?_
      by_cases hn_11 : ns = 16
      · replace hPc := hP.subF (f' := [(m9, .inr (23, mA mr mv vf xl (nI zs) 0 xa (nI T) (nI (pp + 1 + 1)) xi xt xn (nI ns) (nI vv) (nI bb))), (mr 6, .inl (kI, 3002, .inl fa))]) [3, 2] rfl
        replace hDc := hD.subF (f' := [(m9, .inr (23, mA mr mv vf xl (nI zs) 0 xa (nI T) (nI (pp + 1 + 1)) xi xt xn (nI ns) (nI vv) (nI bb))), (mr 6, .inl (kI, 3002, .inl fa))]) [3, 2] (by decide) rfl
        replace hKc := hK.sub (tys' := [(kI, .int)]) [0] rfl
        replace hFc := va_freeT (wc := [(m9, .inr (23, mA mr mv vf xl (nI zs) 0 xa (nI T) (nI (pp + 1 + 1)) xi xt xn (nI ns) (nI vv) (nI bb))), (mr 6, .inl (kI, 3002, .inl fa))]) hD hS hA [3, 2] rfl
        refine va_callv (va_runV (As := [.int (nI (pp + 1 + 1))]) (rest := []) ⟨hx, hb, hml, hown, hts⟩ (c_renN l dC dI m9 mr mv vf xl xa xi xt xn zs T (pp + 1 + 1) ns vv bb kI fk fa (pp + 1 + 1) H.size (by omega) hn_11) (cwV 1 hts g_c_xnf_c_renN_39 rfl rfl rfl (by decide +kernel) ⟨by show 1 + 1 ≤ 3 + 12 * k; omega, by show 8 + (2 + 11) + (22) ≤ 63 + 279 * k; omega⟩) ⟨fun a U g mk q => by obtain ⟨q0, q1, qP, qK, qD⟩ := q; exact ⟨q0, q1, qP, va_K.moved (u := U) (U := U.calling g mk a) (Vm.Alike.refl U.vm) qK, qD⟩, va_recv hKc hPc (ci := 23) (q0 := 0) rfl rfl, fun U hU hW => ⟨rfl, by rw [hU], by rw [hU]; exact hPc, va_K.moved hW.alike hKc, hDc.weaken (fun _ _ _ _ => trivial)⟩⟩ rfl rfl hl.1 rfl (lv_room (Nat.le_of_ble_eq_true rfl)) dX23_newFields_39 ⟨(show 0 + 0 ≤ (8 * (T - pp) + 3) by omega), (show 0 + 0 ≤ (120 * (T - pp) + 280) by omega)⟩) hS (fun q _ h => hFc q h) hFc (fun u tS H1 locs ht hvm hw hB hz1 hk1 hS => ?_)
        obtain ⟨ff_12, xa_13, hf14_0, hP1, hK1, hD1⟩ := hB
        rw [ht] at hP1
        replace hK1 := va_K.moved hvm.symm hK1
        obtain ⟨hPj, hDj⟩ := va_joinT (wr := [(ee, .inr (15, [.int 5, .int tx, .int 0, .int (nI (pp + 1)), .int 0, .int 0, .long 0, .int 0, .null, .null, .null, .int 0, .null, .null])), (mr 8, .inl (kL, 3002, .inr (.inl fn))), (mr 5, .inl (kI, 3002, .inl fk))]) (w1 := [(m9, .inr (23, mA mr mv vf xl (nI zs) ff_12 xa_13 (nI T) (nI (pp + 1 + 1)) xi xt xn (nI (ns + 1)) (nI vv) (nI bb))), (mr 6, .inl (kI, 3002, .inl fa))]) hP hD [3, 2] [0, 1, 4] rfl rfl (by decide) (by decide) hk1 hFc hP1 hD1
        replace hP := hPj
        replace hD := hDj
        clear hPj hDj
        replace hK := hK.app hK1
        generalize H1 = H at hP hS ⊢
        replace hP : va_P (dC, dI) vwCl (([(ee, .inr (15, [.int 5, .int tx, .int 0, .int (nI (pp + 1)), .int 0, .int 0, .long 0, .int 0, .null, .null, .null, .int 0, .null, .null])), (mr 8, .inl (kL, 3002, .inr (.inl fn))), (mr 5, .inl (kI, 3002, .inl fk)), (m9, .inr (23, mA mr mv vf xl (nI zs) ff_12 xa_13 (nI T) (nI (pp + 1 + 1)) xi xt xn (nI (ns + 1)) (nI vv) (nI bb))), (mr 6, .inl (kI, 3002, .inl fa))] : va_W) ++ (sT L F)) H := hP
        replace hD : va_D A (([(ee, .inr (15, [.int 5, .int tx, .int 0, .int (nI (pp + 1)), .int 0, .int 0, .long 0, .int 0, .null, .null, .null, .int 0, .null, .null])), (mr 8, .inl (kL, 3002, .inr (.inl fn))), (mr 5, .inl (kI, 3002, .inl fk)), (m9, .inr (23, mA mr mv vf xl (nI zs) ff_12 xa_13 (nI T) (nI (pp + 1 + 1)) xi xt xn (nI (ns + 1)) (nI vv) (nI bb))), (mr 6, .inl (kI, 3002, .inl fa))] : va_W) ++ (sT L F)) := hD
        replace hK : va_K (dC, dI) vwCl [(kI, .int), (kL, .long), (kE, .object RX15), (kI, .int)] s := hK
        replace hK := hK.sub (tys' := [(kI, .int), (kL, .long), (kE, .object RX15)]) [0, 1, 2] rfl
        clear hz1 hk1 hPc hDc hKc hFc hP1 hD1 hK1
        refine lv_goto (tgt := 55) hx hb dX23_newFields_42 (by decide) ?_
        refine lv_aload_n hx hb dX23_newFields_55 rfl (lv_at hl 0 rfl) ?_
        refine lv_bipush (v := 63) hx hb dX23_newFields_56 (by decide) ?_
        replace hPc := hP.subF (f' := [(m9, .inr (23, mA mr mv vf xl (nI zs) ff_12 xa_13 (nI T) (nI (pp + 1 + 1)) xi xt xn (nI (ns + 1)) (nI vv) (nI bb))), (mr 5, .inl (kI, 3002, .inl fk)), (mr 6, .inl (kI, 3002, .inl fa))]) [3, 2, 4] rfl
        replace hDc := hD.subF (f' := [(m9, .inr (23, mA mr mv vf xl (nI zs) ff_12 xa_13 (nI T) (nI (pp + 1 + 1)) xi xt xn (nI (ns + 1)) (nI vv) (nI bb))), (mr 5, .inl (kI, 3002, .inl fk)), (mr 6, .inl (kI, 3002, .inl fa))]) [3, 2, 4] (by decide) rfl
        replace hKc := hK.sub (tys' := [(kI, .int)]) [0] rfl
        replace hFc := va_freeT (wc := [(m9, .inr (23, mA mr mv vf xl (nI zs) ff_12 xa_13 (nI T) (nI (pp + 1 + 1)) xi xt xn (nI (ns + 1)) (nI vv) (nI bb))), (mr 5, .inl (kI, 3002, .inl fk)), (mr 6, .inl (kI, 3002, .inl fa))]) hD hS hA [3, 2, 4] rfl
        refine va_callv (va_runV (As := [.int 63]) (rest := []) ⟨hx, hb, hml, hown, hts⟩ (c_rtkB l dC dI m9 mr mv vf xl xa_13 xi xt xn zs T (pp + 1 + 1) (ns + 1) vv bb kI fk fa ff_12 63 H.size hf14_0) (cwV 1 hts g_c_xnf_c_rtkB_58 rfl rfl rfl (by decide +kernel) ⟨by show 1 + 1 ≤ 3 + 12 * k; omega, by show 8 + (2 + 11) + (20) ≤ 63 + 279 * k; omega⟩) ⟨fun a U g mk q => by obtain ⟨q0, q1, qP, qK, qD⟩ := q; exact ⟨q0, q1, qP, va_K.moved (u := U) (U := U.calling g mk a) (Vm.Alike.refl U.vm) qK, qD⟩, va_recv hKc hPc (ci := 23) (q0 := 0) rfl rfl, fun U hU hW => ⟨rfl, by rw [hU], by rw [hU]; exact hPc, va_K.moved hW.alike hKc, hDc.weaken (fun _ _ _ _ => trivial)⟩⟩ rfl rfl hl.1 rfl (lv_room (Nat.le_of_ble_eq_true rfl)) dX23_newFields_58 ⟨(show 0 + 0 ≤ (8 * (T - pp) + 3) by omega), (show 0 + 0 ≤ (120 * (T - pp) + 280) by omega)⟩) hS (fun q _ h => hFc q h) hFc (fun u tS H1 locs ht hvm hw hB hz1 hk1 hS => ?_)
        obtain ⟨hP1, hK1, hD1⟩ := hB
        rw [ht] at hP1
        replace hK1 := va_K.moved hvm.symm hK1
        obtain ⟨hPj, hDj⟩ := va_joinT (wr := [(ee, .inr (15, [.int 5, .int tx, .int 0, .int (nI (pp + 1)), .int 0, .int 0, .long 0, .int 0, .null, .null, .null, .int 0, .null, .null])), (mr 8, .inl (kL, 3002, .inr (.inl fn)))]) (w1 := [(m9, .inr (23, mA mr mv vf xl (nI zs) ff_12 xa_13 (nI T) (nI (pp + 1 + 1)) xi xt xn (nI (ns + 1)) (nI vv) (nI bb))), (mr 5, .inl (kI, 3002, .inl fk)), (mr 6, .inl (kI, 3002, .inl fa))]) hP hD [3, 2, 4] [0, 1] rfl rfl (by decide) (by decide) hk1 hFc hP1 hD1
        replace hP := hPj
        replace hD := hDj
        clear hPj hDj
        replace hK := hK.app hK1
        generalize H1 = H at hP hS ⊢
        replace hP : va_P (dC, dI) vwCl (([(ee, .inr (15, [.int 5, .int tx, .int 0, .int (nI (pp + 1)), .int 0, .int 0, .long 0, .int 0, .null, .null, .null, .int 0, .null, .null])), (mr 8, .inl (kL, 3002, .inr (.inl fn))), (m9, .inr (23, mA mr mv vf xl (nI zs) ff_12 xa_13 (nI T) (nI (pp + 1 + 1)) xi xt xn (nI (ns + 1)) (nI vv) (nI bb))), (mr 5, .inl (kI, 3002, .inl fk)), (mr 6, .inl (kI, 3002, .inl fa))] : va_W) ++ (sT L F)) H := hP
        replace hD : va_D A (([(ee, .inr (15, [.int 5, .int tx, .int 0, .int (nI (pp + 1)), .int 0, .int 0, .long 0, .int 0, .null, .null, .null, .int 0, .null, .null])), (mr 8, .inl (kL, 3002, .inr (.inl fn))), (m9, .inr (23, mA mr mv vf xl (nI zs) ff_12 xa_13 (nI T) (nI (pp + 1 + 1)) xi xt xn (nI (ns + 1)) (nI vv) (nI bb))), (mr 5, .inl (kI, 3002, .inl fk)), (mr 6, .inl (kI, 3002, .inl fa))] : va_W) ++ (sT L F)) := hD
        replace hK : va_K (dC, dI) vwCl [(kI, .int), (kL, .long), (kE, .object RX15), (kI, .int)] s := hK
        replace hK := hK.sub (tys' := [(kI, .int), (kL, .long), (kE, .object RX15)]) [0, 1, 2] rfl
        clear hz1 hk1 hPc hDc hKc hFc hP1 hD1 hK1
        refine lv_iconst (v := 1) hx hb dX23_newFields_61 (by decide) ?_
        refine lv_istore_n (lv' := [(2, .int 1), (0, .ref m9), (1, .ref ee)]) hx hb dX23_newFields_62 rfl hl (by decide) rfl (fun ls hl => ?_)
        refine lv_aload_n hx hb dX23_newFields_63 rfl (lv_at hl 1 rfl) ?_
        replace hPc := hP.subF (f' := [(m9, .inr (23, mA mr mv vf xl (nI zs) ff_12 xa_13 (nI T) (nI (pp + 1 + 1)) xi xt xn (nI (ns + 1)) (nI vv) (nI bb)))]) [2] rfl
        replace hDc := hD.subF (f' := [(m9, .inr (23, mA mr mv vf xl (nI zs) ff_12 xa_13 (nI T) (nI (pp + 1 + 1)) xi xt xn (nI (ns + 1)) (nI vv) (nI bb)))]) [2] (by decide) rfl
        replace hKc := hK.sub (tys' := []) [] rfl
        replace hFc := va_freeT (wc := [(m9, .inr (23, mA mr mv vf xl (nI zs) ff_12 xa_13 (nI T) (nI (pp + 1 + 1)) xi xt xn (nI (ns + 1)) (nI vv) (nI bb)))]) hD hS hA [2] rfl
        refine va_calli (va_runV (As := []) (rest := []) ⟨hx, hb, hml, hown, hts⟩ (c_rokB l dC dI m9 mr mv vf xl xa_13 xi xt xn zs T (pp + 1 + 1) (ns + 1) vv bb kI fk fa ff_12 H.size hf14_0) (cwV 0 hts g_c_xnf_c_rokB_64 rfl rfl rfl (by decide +kernel) ⟨by show 0 + 1 ≤ 3 + 12 * k; omega, by show 8 + (1 + 11) + (0) ≤ 63 + 279 * k; omega⟩) ⟨fun a U g mk q => by obtain ⟨q0, q1, qP, qK, qD⟩ := q; exact ⟨q0, q1, qP, va_K.moved (u := U) (U := U.calling g mk a) (Vm.Alike.refl U.vm) qK, qD⟩, va_recv hKc hPc (ci := 23) (q0 := 0) rfl rfl, fun U hU hW => ⟨rfl, by rw [hU], by rw [hU]; exact hPc, va_K.moved hW.alike hKc, hDc.weaken (fun _ _ _ _ => trivial)⟩⟩ rfl rfl hl.1 rfl (lv_room (Nat.le_of_ble_eq_true rfl)) dX23_newFields_64 ⟨(show 0 + 0 ≤ (8 * (T - pp) + 3) by omega), (show 0 + 0 ≤ (120 * (T - pp) + 280) by omega)⟩) hS (fun q _ h => hFc q h) hFc (fun r_16 u tS H1 locs ht hvm hw hB hz1 hk1 hS => ?_)
        obtain ⟨hP1, hK1, hD1⟩ := hB
        rw [ht] at hP1
        replace hK1 := va_K.moved hvm.symm hK1
        obtain ⟨hPj, hDj⟩ := va_joinT (wr := [(ee, .inr (15, [.int 5, .int tx, .int 0, .int (nI (pp + 1)), .int 0, .int 0, .long 0, .int 0, .null, .null, .null, .int 0, .null, .null])), (mr 8, .inl (kL, 3002, .inr (.inl fn))), (mr 5, .inl (kI, 3002, .inl fk)), (mr 6, .inl (kI, 3002, .inl fa))]) (w1 := [(m9, .inr (23, mA mr mv vf xl (nI zs) ff_12 xa_13 (nI T) (nI (pp + 1 + 1)) xi xt xn (nI (ns + 1)) (nI vv) (nI bb)))]) hP hD [2] [0, 1, 3, 4] rfl rfl (by decide) (by decide) hk1 hFc hP1 hD1
        replace hP := hPj
        replace hD := hDj
        clear hPj hDj
        generalize H1 = H at hP hS ⊢
        replace hP : va_P (dC, dI) vwCl (([(ee, .inr (15, [.int 5, .int tx, .int 0, .int (nI (pp + 1)), .int 0, .int 0, .long 0, .int 0, .null, .null, .null, .int 0, .null, .null])), (mr 8, .inl (kL, 3002, .inr (.inl fn))), (mr 5, .inl (kI, 3002, .inl fk)), (mr 6, .inl (kI, 3002, .inl fa)), (m9, .inr (23, mA mr mv vf xl (nI zs) ff_12 xa_13 (nI T) (nI (pp + 1 + 1)) xi xt xn (nI (ns + 1)) (nI vv) (nI bb)))] : va_W) ++ (sT L F)) H := hP
        replace hD : va_D A (([(ee, .inr (15, [.int 5, .int tx, .int 0, .int (nI (pp + 1)), .int 0, .int 0, .long 0, .int 0, .null, .null, .null, .int 0, .null, .null])), (mr 8, .inl (kL, 3002, .inr (.inl fn))), (mr 5, .inl (kI, 3002, .inl fk)), (mr 6, .inl (kI, 3002, .inl fa)), (m9, .inr (23, mA mr mv vf xl (nI zs) ff_12 xa_13 (nI T) (nI (pp + 1 + 1)) xi xt xn (nI (ns + 1)) (nI vv) (nI bb)))] : va_W) ++ (sT L F)) := hD
        replace hK : va_K (dC, dI) vwCl [(kI, .int), (kL, .long), (kE, .object RX15)] s := hK
        clear hz1 hk1 hPc hDc hKc hFc hP1 hD1 hK1
        obtain rfl : r_16 = 0 := hw
        refine lv_if_eq (tgt := 111) hx hb dX23_newFields_67 (by decide) (fun _ => ?_) (fun c_17 => absurd (by decide) c_17)
        refine lv_aload_n hx hb dX23_newFields_111 rfl (lv_at hl 1 rfl) ?_
        refine lv_dup hx hb dX23_newFields_112 rfl ?_
        refine va_get (D := (dC, dI)) (ci := 23) (v := .int (nI (ns + 1))) (C := RX23) (T := TX23) (N := 89) hx hb hts in_c_xnf_X23 hown hK hP 4 rfl rfl 15 (by decide) (hts (.fieldLink RX23 104 "OwnedPlacesModel" "nest" "I") (wm_c_xnf 29 rfl)) (fun _ h9 => h9) rfl dX23_newFields_113 ?_
        refine lv_iconst (v := 1) hx hb dX23_newFields_116 (by decide) ?_
        refine lv_isub hx hb dX23_newFields_117 ?_
        refine lv_topi (fun f_18 ef_18 => ?_)
        obtain rfl : f_18 = nI ns := ef_18.trans (nI_pred _)
        refine va_put (D := (dC, dI)) (ci := 23) (v := .int (nI ns)) (ty := .int) (C := RX23) (T := TX23) (N := 89) hx hb hts in_c_xnf_X23 tyX23 tyX23_ok nmX23 hown hK hP hD hS 4 rfl rfl 15 (by decide) (hts (.fieldLink RX23 104 "OwnedPlacesModel" "nest" "I") (wm_c_xnf 29 rfl)) (fun _ h9 => h9) rfl (by decide +kernel) rfl rfl (Nat.le_of_ble_eq_true rfl) dX23_newFields_118 (fun H locs hP hD hS => ?_)
        replace hP : va_P (dC, dI) vwCl (([(ee, .inr (15, [.int 5, .int tx, .int 0, .int (nI (pp + 1)), .int 0, .int 0, .long 0, .int 0, .null, .null, .null, .int 0, .null, .null])), (mr 8, .inl (kL, 3002, .inr (.inl fn))), (mr 5, .inl (kI, 3002, .inl fk)), (mr 6, .inl (kI, 3002, .inl fa)), (m9, .inr (23, mA mr mv vf xl (nI zs) ff_12 xa_13 (nI T) (nI (pp + 1 + 1)) xi xt xn (nI ns) (nI vv) (nI bb)))] : va_W) ++ (sT L F)) H := hP
        replace hD : va_D A (([(ee, .inr (15, [.int 5, .int tx, .int 0, .int (nI (pp + 1)), .int 0, .int 0, .long 0, .int 0, .null, .null, .null, .int 0, .null, .null])), (mr 8, .inl (kL, 3002, .inr (.inl fn))), (mr 5, .inl (kI, 3002, .inl fk)), (mr 6, .inl (kI, 3002, .inl fa)), (m9, .inr (23, mA mr mv vf xl (nI zs) ff_12 xa_13 (nI T) (nI (pp + 1 + 1)) xi xt xn (nI ns) (nI vv) (nI bb)))] : va_W) ++ (sT L F)) := hD
        refine lv_aload_n hx hb dX23_newFields_121 rfl (lv_at hl 1 rfl) ?_
        refine lv_bipush (v := 64) hx hb dX23_newFields_122 (by decide) ?_
        replace hPc := hP.subF (f' := [(m9, .inr (23, mA mr mv vf xl (nI zs) ff_12 xa_13 (nI T) (nI (pp + 1 + 1)) xi xt xn (nI ns) (nI vv) (nI bb))), (mr 5, .inl (kI, 3002, .inl fk)), (mr 6, .inl (kI, 3002, .inl fa))]) [4, 2, 3] rfl
        replace hDc := hD.subF (f' := [(m9, .inr (23, mA mr mv vf xl (nI zs) ff_12 xa_13 (nI T) (nI (pp + 1 + 1)) xi xt xn (nI ns) (nI vv) (nI bb))), (mr 5, .inl (kI, 3002, .inl fk)), (mr 6, .inl (kI, 3002, .inl fa))]) [4, 2, 3] (by decide) rfl
        replace hKc := hK.sub (tys' := [(kI, .int)]) [0] rfl
        replace hFc := va_freeT (wc := [(m9, .inr (23, mA mr mv vf xl (nI zs) ff_12 xa_13 (nI T) (nI (pp + 1 + 1)) xi xt xn (nI ns) (nI vv) (nI bb))), (mr 5, .inl (kI, 3002, .inl fk)), (mr 6, .inl (kI, 3002, .inl fa))]) hD hS hA [4, 2, 3] rfl
        refine va_callv (va_runV (As := [.int 64]) (rest := []) ⟨hx, hb, hml, hown, hts⟩ (c_rtkB l dC dI m9 mr mv vf xl xa_13 xi xt xn zs T (pp + 1 + 1) ns vv bb kI fk fa ff_12 64 H.size hf14_0) (cwV 1 hts g_c_xnf_c_rtkB_124 rfl rfl rfl (by decide +kernel) ⟨by show 1 + 1 ≤ 3 + 12 * k; omega, by show 8 + (2 + 11) + (20) ≤ 63 + 279 * k; omega⟩) ⟨fun a U g mk q => by obtain ⟨q0, q1, qP, qK, qD⟩ := q; exact ⟨q0, q1, qP, va_K.moved (u := U) (U := U.calling g mk a) (Vm.Alike.refl U.vm) qK, qD⟩, va_recv hKc hPc (ci := 23) (q0 := 0) rfl rfl, fun U hU hW => ⟨rfl, by rw [hU], by rw [hU]; exact hPc, va_K.moved hW.alike hKc, hDc.weaken (fun _ _ _ _ => trivial)⟩⟩ rfl rfl hl.1 rfl (lv_room (Nat.le_of_ble_eq_true rfl)) dX23_newFields_124 ⟨(show 0 + 0 ≤ (8 * (T - pp) + 3) by omega), (show 0 + 0 ≤ (120 * (T - pp) + 280) by omega)⟩) hS (fun q _ h => hFc q h) hFc (fun u tS H1 locs ht hvm hw hB hz1 hk1 hS => ?_)
        obtain ⟨hP1, hK1, hD1⟩ := hB
        rw [ht] at hP1
        replace hK1 := va_K.moved hvm.symm hK1
        obtain ⟨hPj, hDj⟩ := va_joinT (wr := [(ee, .inr (15, [.int 5, .int tx, .int 0, .int (nI (pp + 1)), .int 0, .int 0, .long 0, .int 0, .null, .null, .null, .int 0, .null, .null])), (mr 8, .inl (kL, 3002, .inr (.inl fn)))]) (w1 := [(m9, .inr (23, mA mr mv vf xl (nI zs) ff_12 xa_13 (nI T) (nI (pp + 1 + 1)) xi xt xn (nI ns) (nI vv) (nI bb))), (mr 5, .inl (kI, 3002, .inl fk)), (mr 6, .inl (kI, 3002, .inl fa))]) hP hD [4, 2, 3] [0, 1] rfl rfl (by decide) (by decide) hk1 hFc hP1 hD1
        replace hP := hPj
        replace hD := hDj
        clear hPj hDj
        replace hK := hK.app hK1
        generalize H1 = H at hP hS ⊢
        replace hP : va_P (dC, dI) vwCl (([(ee, .inr (15, [.int 5, .int tx, .int 0, .int (nI (pp + 1)), .int 0, .int 0, .long 0, .int 0, .null, .null, .null, .int 0, .null, .null])), (mr 8, .inl (kL, 3002, .inr (.inl fn))), (m9, .inr (23, mA mr mv vf xl (nI zs) ff_12 xa_13 (nI T) (nI (pp + 1 + 1)) xi xt xn (nI ns) (nI vv) (nI bb))), (mr 5, .inl (kI, 3002, .inl fk)), (mr 6, .inl (kI, 3002, .inl fa))] : va_W) ++ (sT L F)) H := hP
        replace hD : va_D A (([(ee, .inr (15, [.int 5, .int tx, .int 0, .int (nI (pp + 1)), .int 0, .int 0, .long 0, .int 0, .null, .null, .null, .int 0, .null, .null])), (mr 8, .inl (kL, 3002, .inr (.inl fn))), (m9, .inr (23, mA mr mv vf xl (nI zs) ff_12 xa_13 (nI T) (nI (pp + 1 + 1)) xi xt xn (nI ns) (nI vv) (nI bb))), (mr 5, .inl (kI, 3002, .inl fk)), (mr 6, .inl (kI, 3002, .inl fa))] : va_W) ++ (sT L F)) := hD
        replace hK : va_K (dC, dI) vwCl [(kI, .int), (kL, .long), (kE, .object RX15), (kI, .int)] s := hK
        replace hK := hK.sub (tys' := [(kI, .int), (kL, .long), (kE, .object RX15)]) [0, 1, 2] rfl
        clear hz1 hk1 hPc hDc hKc hFc hP1 hD1 hK1
        refine W.grow (fun hgs0 hgs1 => ?_)
        have hP9 := hP.subT (f' := [(ee, .inr (15, [.int 5, .int tx, .int 0, .int (nI (pp + 1)), .int 0, .int 0, .long 0, .int 0, .null, .null, .null, .int (nI 0), .null, .null])), (m9, .inr (23, mA mr mv vf xl (nI zs) ff_12 xa_13 (nI T) (nI (pp + 1 + 1)) xi xt xn (nI ns) (nI vv) (nI bb))), (mr 5, .inl (kI, 3002, .inl fk)), (mr 6, .inl (kI, 3002, .inl fa)), (mr 8, .inl (kL, 3002, .inr (.inl fn)))]) [0, 2, 3, 4, 1] rfl
        have hD9 := hD.subT (f' := [(ee, .inr (15, [.int 5, .int tx, .int 0, .int (nI (pp + 1)), .int 0, .int 0, .long 0, .int 0, .null, .null, .null, .int (nI 0), .null, .null])), (m9, .inr (23, mA mr mv vf xl (nI zs) ff_12 xa_13 (nI T) (nI (pp + 1 + 1)) xi xt xn (nI ns) (nI vv) (nI bb))), (mr 5, .inl (kI, 3002, .inl fk)), (mr 6, .inl (kI, 3002, .inl fa)), (mr 8, .inl (kL, 3002, .inr (.inl fn)))]) [0, 2, 3, 4, 1] (by decide) rfl
        have hK9 := hK.sub (tys' := [(kI, .int), (kL, .long), (kE, .object RX15)]) [0, 1, 2] rfl
        refine W.widen (k := (8 * (T - pp) + 3)) (n := (120 * (T - pp) + 280)) (by omega) (by omega) ?_
        exact W.vret hx hb hr (fun tS ht hW => ⟨⟨(), rfl, trivial, L, F, ff_12, xa_13, pp + 1 + 1, bb, nI (pp + 1), .null, .null, 0, exS.rf, ⟨by omega, by omega, by omega, by omega⟩, (fun q9 => absurd q9 hf14_0), by rw [ht]; exact ⟨by omega, by omega⟩, by rw [ht]; exact hP9, va_K.moved hW.alike hK9, hD9⟩, hS.F ht⟩) hS.2.2 dX23_newFields_127
      · replace hPc := hP.subF (f' := [(m9, .inr (23, mA mr mv vf xl (nI zs) 0 xa (nI T) (nI (pp + 1 + 1)) xi xt xn (nI ns) (nI vv) (nI bb))), (mr 6, .inl (kI, 3002, .inl fa))]) [3, 2] rfl
        replace hDc := hD.subF (f' := [(m9, .inr (23, mA mr mv vf xl (nI zs) 0 xa (nI T) (nI (pp + 1 + 1)) xi xt xn (nI ns) (nI vv) (nI bb))), (mr 6, .inl (kI, 3002, .inl fa))]) [3, 2] (by decide) rfl
        replace hKc := hK.sub (tys' := [(kI, .int)]) [0] rfl
        replace hFc := va_freeT (wc := [(m9, .inr (23, mA mr mv vf xl (nI zs) 0 xa (nI T) (nI (pp + 1 + 1)) xi xt xn (nI ns) (nI vv) (nI bb))), (mr 6, .inl (kI, 3002, .inl fa))]) hD hS hA [3, 2] rfl
        refine va_callv (va_runV (As := [.int (nI (pp + 1 + 1))]) (rest := []) ⟨hx, hb, hml, hown, hts⟩ (c_renY l dC dI m9 mr mv vf xl xa xi xt xn zs T (pp + 1 + 1) ns vv bb kI fk fa (pp + 1 + 1) H.size (by omega) (⟨hn_11, by omega⟩)) (cwV 1 hts g_c_xnf_c_renY_39 rfl rfl rfl (by decide +kernel) ⟨by show 1 + 1 ≤ 3 + 12 * k; omega, by show 8 + (2 + 11) + (20) ≤ 63 + 279 * k; omega⟩) ⟨fun a U g mk q => by obtain ⟨q0, q1, qP, qK, qD⟩ := q; exact ⟨q0, q1, qP, va_K.moved (u := U) (U := U.calling g mk a) (Vm.Alike.refl U.vm) qK, qD⟩, va_recv hKc hPc (ci := 23) (q0 := 0) rfl rfl, fun U hU hW => ⟨rfl, by rw [hU], by rw [hU]; exact hPc, va_K.moved hW.alike hKc, hDc.weaken (fun _ _ _ _ => trivial)⟩⟩ rfl rfl hl.1 rfl (lv_room (Nat.le_of_ble_eq_true rfl)) dX23_newFields_39 ⟨(show 0 + 0 ≤ (8 * (T - pp) + 3) by omega), (show 0 + 0 ≤ (120 * (T - pp) + 280) by omega)⟩) hS (fun q _ h => hFc q h) hFc (fun u tS H1 locs ht hvm hw hB hz1 hk1 hS => ?_)
        obtain ⟨hP1, hK1, hD1⟩ := hB
        rw [ht] at hP1
        replace hK1 := va_K.moved hvm.symm hK1
        obtain ⟨hPj, hDj⟩ := va_joinT (wr := [(ee, .inr (15, [.int 5, .int tx, .int 0, .int (nI (pp + 1)), .int 0, .int 0, .long 0, .int 0, .null, .null, .null, .int 0, .null, .null])), (mr 8, .inl (kL, 3002, .inr (.inl fn))), (mr 5, .inl (kI, 3002, .inl fk))]) (w1 := [(m9, .inr (23, mA mr mv vf xl (nI zs) 0 xa (nI T) (nI (pp + 1 + 1)) xi xt xn (nI (ns + 1)) (nI vv) (nI bb))), (mr 6, .inl (kI, 3002, .inl fa))]) hP hD [3, 2] [0, 1, 4] rfl rfl (by decide) (by decide) hk1 hFc hP1 hD1
        replace hP := hPj
        replace hD := hDj
        clear hPj hDj
        replace hK := hK.app hK1
        generalize H1 = H at hP hS ⊢
        replace hP : va_P (dC, dI) vwCl (([(ee, .inr (15, [.int 5, .int tx, .int 0, .int (nI (pp + 1)), .int 0, .int 0, .long 0, .int 0, .null, .null, .null, .int 0, .null, .null])), (mr 8, .inl (kL, 3002, .inr (.inl fn))), (mr 5, .inl (kI, 3002, .inl fk)), (m9, .inr (23, mA mr mv vf xl (nI zs) 0 xa (nI T) (nI (pp + 1 + 1)) xi xt xn (nI (ns + 1)) (nI vv) (nI bb))), (mr 6, .inl (kI, 3002, .inl fa))] : va_W) ++ (sT L F)) H := hP
        replace hD : va_D A (([(ee, .inr (15, [.int 5, .int tx, .int 0, .int (nI (pp + 1)), .int 0, .int 0, .long 0, .int 0, .null, .null, .null, .int 0, .null, .null])), (mr 8, .inl (kL, 3002, .inr (.inl fn))), (mr 5, .inl (kI, 3002, .inl fk)), (m9, .inr (23, mA mr mv vf xl (nI zs) 0 xa (nI T) (nI (pp + 1 + 1)) xi xt xn (nI (ns + 1)) (nI vv) (nI bb))), (mr 6, .inl (kI, 3002, .inl fa))] : va_W) ++ (sT L F)) := hD
        replace hK : va_K (dC, dI) vwCl [(kI, .int), (kL, .long), (kE, .object RX15), (kI, .int)] s := hK
        replace hK := hK.sub (tys' := [(kI, .int), (kL, .long), (kE, .object RX15)]) [0, 1, 2] rfl
        clear hz1 hk1 hPc hDc hKc hFc hP1 hD1 hK1
        refine lv_goto (tgt := 55) hx hb dX23_newFields_42 (by decide) ?_
        refine lv_aload_n hx hb dX23_newFields_55 rfl (lv_at hl 0 rfl) ?_
        refine lv_bipush (v := 63) hx hb dX23_newFields_56 (by decide) ?_
        replace hPc := hP.subF (f' := [(m9, .inr (23, mA mr mv vf xl (nI zs) 0 xa (nI T) (nI (pp + 1 + 1)) xi xt xn (nI (ns + 1)) (nI vv) (nI bb))), (mr 5, .inl (kI, 3002, .inl fk)), (mr 6, .inl (kI, 3002, .inl fa))]) [3, 2, 4] rfl
        replace hDc := hD.subF (f' := [(m9, .inr (23, mA mr mv vf xl (nI zs) 0 xa (nI T) (nI (pp + 1 + 1)) xi xt xn (nI (ns + 1)) (nI vv) (nI bb))), (mr 5, .inl (kI, 3002, .inl fk)), (mr 6, .inl (kI, 3002, .inl fa))]) [3, 2, 4] (by decide) rfl
        replace hKc := hK.sub (tys' := [(kI, .int)]) [0] rfl
        replace hFc := va_freeT (wc := [(m9, .inr (23, mA mr mv vf xl (nI zs) 0 xa (nI T) (nI (pp + 1 + 1)) xi xt xn (nI (ns + 1)) (nI vv) (nI bb))), (mr 5, .inl (kI, 3002, .inl fk)), (mr 6, .inl (kI, 3002, .inl fa))]) hD hS hA [3, 2, 4] rfl
        refine va_callv (va_runV (As := [.int 63]) (rest := []) ⟨hx, hb, hml, hown, hts⟩ (c_rtkY l dC dI m9 mr mv vf xl xa xi xt xn zs T (pp + 1 + 1) (ns + 1) vv bb kI fk fa 63 H.size hT hp_5 hk0 (by decide) hk_8) (cwV 1 hts g_c_xnf_c_rtkY_58 rfl rfl rfl (by decide +kernel) ⟨by show 1 + 1 ≤ 3 + 12 * k; omega, by show 8 + (2 + 11) + (21) ≤ 63 + 279 * k; omega⟩) ⟨fun a U g mk q => by obtain ⟨q0, q1, qP, qK, qD⟩ := q; exact ⟨q0, q1, qP, va_K.moved (u := U) (U := U.calling g mk a) (Vm.Alike.refl U.vm) qK, qD⟩, va_recv hKc hPc (ci := 23) (q0 := 0) rfl rfl, fun U hU hW => ⟨rfl, by rw [hU], by rw [hU]; exact hPc, va_K.moved hW.alike hKc, hDc.weaken (fun _ _ _ _ => trivial)⟩⟩ rfl rfl hl.1 rfl (lv_room (Nat.le_of_ble_eq_true rfl)) dX23_newFields_58 ⟨(show 0 + 0 ≤ (8 * (T - pp) + 3) by omega), (show 0 + 0 ≤ (120 * (T - pp) + 280) by omega)⟩) hS (fun q _ h => hFc q h) hFc (fun u tS H1 locs ht hvm hw hB hz1 hk1 hS => ?_)
        obtain ⟨hP1, hK1, hD1⟩ := hB
        rw [ht] at hP1
        replace hK1 := va_K.moved hvm.symm hK1
        obtain ⟨hPj, hDj⟩ := va_joinT (wr := [(ee, .inr (15, [.int 5, .int tx, .int 0, .int (nI (pp + 1)), .int 0, .int 0, .long 0, .int 0, .null, .null, .null, .int 0, .null, .null])), (mr 8, .inl (kL, 3002, .inr (.inl fn)))]) (w1 := [(m9, .inr (23, mA mr mv vf xl (nI zs) 0 xa (nI T) (nI ((pp + 1 + 1) + 1)) xi xt xn (nI (ns + 1)) (nI vv) (nI bb))), (mr 5, .inl (kI, 3002, .inl fk)), (mr 6, .inl (kI, 3002, .inl fa))]) hP hD [3, 2, 4] [0, 1] rfl rfl (by decide) (by decide) hk1 hFc hP1 hD1
        replace hP := hPj
        replace hD := hDj
        clear hPj hDj
        replace hK := hK.app hK1
        generalize H1 = H at hP hS ⊢
        replace hP : va_P (dC, dI) vwCl (([(ee, .inr (15, [.int 5, .int tx, .int 0, .int (nI (pp + 1)), .int 0, .int 0, .long 0, .int 0, .null, .null, .null, .int 0, .null, .null])), (mr 8, .inl (kL, 3002, .inr (.inl fn))), (m9, .inr (23, mA mr mv vf xl (nI zs) 0 xa (nI T) (nI ((pp + 1 + 1) + 1)) xi xt xn (nI (ns + 1)) (nI vv) (nI bb))), (mr 5, .inl (kI, 3002, .inl fk)), (mr 6, .inl (kI, 3002, .inl fa))] : va_W) ++ (sT L F)) H := hP
        replace hD : va_D A (([(ee, .inr (15, [.int 5, .int tx, .int 0, .int (nI (pp + 1)), .int 0, .int 0, .long 0, .int 0, .null, .null, .null, .int 0, .null, .null])), (mr 8, .inl (kL, 3002, .inr (.inl fn))), (m9, .inr (23, mA mr mv vf xl (nI zs) 0 xa (nI T) (nI ((pp + 1 + 1) + 1)) xi xt xn (nI (ns + 1)) (nI vv) (nI bb))), (mr 5, .inl (kI, 3002, .inl fk)), (mr 6, .inl (kI, 3002, .inl fa))] : va_W) ++ (sT L F)) := hD
        replace hK : va_K (dC, dI) vwCl [(kI, .int), (kL, .long), (kE, .object RX15), (kI, .int)] s := hK
        replace hK := hK.sub (tys' := [(kI, .int), (kL, .long), (kE, .object RX15)]) [0, 1, 2] rfl
        clear hz1 hk1 hPc hDc hKc hFc hP1 hD1 hK1
        have hp_14 : pp + 1 + 1 + 1 < T := kne3 hk0 hp_5 hk_8 (by decide)
        refine lv_iconst (v := 1) hx hb dX23_newFields_61 (by decide) ?_
        refine lv_istore_n (lv' := [(2, .int 1), (0, .ref m9), (1, .ref ee)]) hx hb dX23_newFields_62 rfl hl (by decide) rfl (fun ls hl => ?_)
        refine lv_aload_n hx hb dX23_newFields_63 rfl (lv_at hl 1 rfl) ?_
        replace hPc := hP.subF (f' := [(m9, .inr (23, mA mr mv vf xl (nI zs) 0 xa (nI T) (nI (pp + 1 + 1 + 1)) xi xt xn (nI (ns + 1)) (nI vv) (nI bb)))]) [2] rfl
        replace hDc := hD.subF (f' := [(m9, .inr (23, mA mr mv vf xl (nI zs) 0 xa (nI T) (nI (pp + 1 + 1 + 1)) xi xt xn (nI (ns + 1)) (nI vv) (nI bb)))]) [2] (by decide) rfl
        replace hKc := hK.sub (tys' := []) [] rfl
        replace hFc := va_freeT (wc := [(m9, .inr (23, mA mr mv vf xl (nI zs) 0 xa (nI T) (nI (pp + 1 + 1 + 1)) xi xt xn (nI (ns + 1)) (nI vv) (nI bb)))]) hD hS hA [2] rfl
        refine va_calli (va_runV (As := []) (rest := []) ⟨hx, hb, hml, hown, hts⟩ (c_rok0 l dC dI m9 mr mv vf xl xa xi xt xn zs T (pp + 1 + 1 + 1) (ns + 1) vv bb kI fk fa H.size) (cwV 0 hts g_c_xnf_c_rok0_64 rfl rfl rfl (by decide +kernel) ⟨by show 0 + 1 ≤ 3 + 12 * k; omega, by show 8 + (1 + 11) + (0) ≤ 63 + 279 * k; omega⟩) ⟨fun a U g mk q => by obtain ⟨q0, q1, qP, qK, qD⟩ := q; exact ⟨q0, q1, qP, va_K.moved (u := U) (U := U.calling g mk a) (Vm.Alike.refl U.vm) qK, qD⟩, va_recv hKc hPc (ci := 23) (q0 := 0) rfl rfl, fun U hU hW => ⟨rfl, by rw [hU], by rw [hU]; exact hPc, va_K.moved hW.alike hKc, hDc.weaken (fun _ _ _ _ => trivial)⟩⟩ rfl rfl hl.1 rfl (lv_room (Nat.le_of_ble_eq_true rfl)) dX23_newFields_64 ⟨(show 0 + 0 ≤ (8 * (T - pp) + 3) by omega), (show 0 + 0 ≤ (120 * (T - pp) + 280) by omega)⟩) hS (fun q _ h => hFc q h) hFc (fun r_15 u tS H1 locs ht hvm hw hB hz1 hk1 hS => ?_)
        obtain ⟨hP1, hK1, hD1⟩ := hB
        rw [ht] at hP1
        replace hK1 := va_K.moved hvm.symm hK1
        obtain ⟨hPj, hDj⟩ := va_joinT (wr := [(ee, .inr (15, [.int 5, .int tx, .int 0, .int (nI (pp + 1)), .int 0, .int 0, .long 0, .int 0, .null, .null, .null, .int 0, .null, .null])), (mr 8, .inl (kL, 3002, .inr (.inl fn))), (mr 5, .inl (kI, 3002, .inl fk)), (mr 6, .inl (kI, 3002, .inl fa))]) (w1 := [(m9, .inr (23, mA mr mv vf xl (nI zs) 0 xa (nI T) (nI (pp + 1 + 1 + 1)) xi xt xn (nI (ns + 1)) (nI vv) (nI bb)))]) hP hD [2] [0, 1, 3, 4] rfl rfl (by decide) (by decide) hk1 hFc hP1 hD1
        replace hP := hPj
        replace hD := hDj
        clear hPj hDj
        generalize H1 = H at hP hS ⊢
        replace hP : va_P (dC, dI) vwCl (([(ee, .inr (15, [.int 5, .int tx, .int 0, .int (nI (pp + 1)), .int 0, .int 0, .long 0, .int 0, .null, .null, .null, .int 0, .null, .null])), (mr 8, .inl (kL, 3002, .inr (.inl fn))), (mr 5, .inl (kI, 3002, .inl fk)), (mr 6, .inl (kI, 3002, .inl fa)), (m9, .inr (23, mA mr mv vf xl (nI zs) 0 xa (nI T) (nI (pp + 1 + 1 + 1)) xi xt xn (nI (ns + 1)) (nI vv) (nI bb)))] : va_W) ++ (sT L F)) H := hP
        replace hD : va_D A (([(ee, .inr (15, [.int 5, .int tx, .int 0, .int (nI (pp + 1)), .int 0, .int 0, .long 0, .int 0, .null, .null, .null, .int 0, .null, .null])), (mr 8, .inl (kL, 3002, .inr (.inl fn))), (mr 5, .inl (kI, 3002, .inl fk)), (mr 6, .inl (kI, 3002, .inl fa)), (m9, .inr (23, mA mr mv vf xl (nI zs) 0 xa (nI T) (nI (pp + 1 + 1 + 1)) xi xt xn (nI (ns + 1)) (nI vv) (nI bb)))] : va_W) ++ (sT L F)) := hD
        replace hK : va_K (dC, dI) vwCl [(kI, .int), (kL, .long), (kE, .object RX15)] s := hK
        clear hz1 hk1 hPc hDc hKc hFc hP1 hD1 hK1
        obtain rfl : r_15 = 1 := hw
        refine lv_if_eq (tgt := 111) hx hb dX23_newFields_67 (by decide) (fun c_16 => absurd c_16 (by decide)) (fun _ => ?_)
        refine lv_iload_n hx hb dX23_newFields_70 rfl (lv_at hl 0 rfl) ?_
        refine lv_if_eq (tgt := 111) hx hb dX23_newFields_71 (by decide) (fun c_17 => absurd c_17 (by decide)) (fun _ => ?_)
        refine lv_aload_n hx hb dX23_newFields_74 rfl (lv_at hl 1 rfl) ?_
        by_cases hk_18 : fk (pp + 1 + 1 + 1) = 2
        · replace hPc := hP.subF (f' := [(m9, .inr (23, mA mr mv vf xl (nI zs) 0 xa (nI T) (nI (pp + 1 + 1 + 1)) xi xt xn (nI (ns + 1)) (nI vv) (nI bb))), (mr 5, .inl (kI, 3002, .inl fk)), (mr 6, .inl (kI, 3002, .inl fa))]) [4, 2, 3] rfl
          replace hDc := hD.subF (f' := [(m9, .inr (23, mA mr mv vf xl (nI zs) 0 xa (nI T) (nI (pp + 1 + 1 + 1)) xi xt xn (nI (ns + 1)) (nI vv) (nI bb))), (mr 5, .inl (kI, 3002, .inl fk)), (mr 6, .inl (kI, 3002, .inl fa))]) [4, 2, 3] (by decide) rfl
          replace hKc := hK.sub (tys' := [(kI, .int)]) [0] rfl
          replace hFc := va_freeT (wc := [(m9, .inr (23, mA mr mv vf xl (nI zs) 0 xa (nI T) (nI (pp + 1 + 1 + 1)) xi xt xn (nI (ns + 1)) (nI vv) (nI bb))), (mr 5, .inl (kI, 3002, .inl fk)), (mr 6, .inl (kI, 3002, .inl fa))]) hD hS hA [4, 2, 3] rfl
          refine va_calli (va_runV (As := []) (rest := []) ⟨hx, hb, hml, hown, hts⟩ (c_rnmY l dC dI m9 mr mv vf xl xa xi xt xn zs T (pp + 1 + 1 + 1) (ns + 1) vv bb kI fk fa H.size hT hp_14 hk0 hk_18) (cwV 0 hts g_c_xnf_c_rnmY_75 rfl rfl rfl (by decide +kernel) ⟨by show 2 + 1 ≤ 3 + 12 * k; omega, by show 8 + (1 + 11) + (42) ≤ 63 + 279 * k; omega⟩) ⟨fun a U g mk q => by obtain ⟨q0, q1, qP, qK, qD⟩ := q; exact ⟨q0, q1, qP, va_K.moved (u := U) (U := U.calling g mk a) (Vm.Alike.refl U.vm) qK, qD⟩, va_recv hKc hPc (ci := 23) (q0 := 0) rfl rfl, fun U hU hW => ⟨rfl, by rw [hU], by rw [hU]; exact hPc, va_K.moved hW.alike hKc, hDc.weaken (fun _ _ _ _ => trivial)⟩⟩ rfl rfl hl.1 rfl (lv_room (Nat.le_of_ble_eq_true rfl)) dX23_newFields_75 ⟨(show 0 + 0 ≤ (8 * (T - pp) + 3) by omega), (show 0 + 0 ≤ (120 * (T - pp) + 280) by omega)⟩) hS (fun q _ h => hFc q h) hFc (fun r_19 u tS H1 locs ht hvm hw hB hz1 hk1 hS => ?_)
          obtain ⟨hP1, hK1, hD1⟩ := hB
          rw [ht] at hP1
          replace hK1 := va_K.moved hvm.symm hK1
          obtain ⟨hPj, hDj⟩ := va_joinT (wr := [(ee, .inr (15, [.int 5, .int tx, .int 0, .int (nI (pp + 1)), .int 0, .int 0, .long 0, .int 0, .null, .null, .null, .int 0, .null, .null])), (mr 8, .inl (kL, 3002, .inr (.inl fn)))]) (w1 := [(m9, .inr (23, mA mr mv vf xl (nI zs) 0 xa (nI T) (nI ((pp + 1 + 1 + 1) + 1)) xi xt xn (nI (ns + 1)) (nI vv) (nI bb))), (mr 5, .inl (kI, 3002, .inl fk)), (mr 6, .inl (kI, 3002, .inl fa))]) hP hD [4, 2, 3] [0, 1] rfl rfl (by decide) (by decide) hk1 hFc hP1 hD1
          replace hP := hPj
          replace hD := hDj
          clear hPj hDj
          replace hK := hK.app hK1
          generalize H1 = H at hP hS ⊢
          replace hP : va_P (dC, dI) vwCl (([(ee, .inr (15, [.int 5, .int tx, .int 0, .int (nI (pp + 1)), .int 0, .int 0, .long 0, .int 0, .null, .null, .null, .int 0, .null, .null])), (mr 8, .inl (kL, 3002, .inr (.inl fn))), (m9, .inr (23, mA mr mv vf xl (nI zs) 0 xa (nI T) (nI ((pp + 1 + 1 + 1) + 1)) xi xt xn (nI (ns + 1)) (nI vv) (nI bb))), (mr 5, .inl (kI, 3002, .inl fk)), (mr 6, .inl (kI, 3002, .inl fa))] : va_W) ++ (sT L F)) H := hP
          replace hD : va_D A (([(ee, .inr (15, [.int 5, .int tx, .int 0, .int (nI (pp + 1)), .int 0, .int 0, .long 0, .int 0, .null, .null, .null, .int 0, .null, .null])), (mr 8, .inl (kL, 3002, .inr (.inl fn))), (m9, .inr (23, mA mr mv vf xl (nI zs) 0 xa (nI T) (nI ((pp + 1 + 1 + 1) + 1)) xi xt xn (nI (ns + 1)) (nI vv) (nI bb))), (mr 5, .inl (kI, 3002, .inl fk)), (mr 6, .inl (kI, 3002, .inl fa))] : va_W) ++ (sT L F)) := hD
          replace hK : va_K (dC, dI) vwCl [(kI, .int), (kL, .long), (kE, .object RX15), (kI, .int)] s := hK
          replace hK := hK.sub (tys' := [(kI, .int), (kL, .long), (kE, .object RX15)]) [0, 1, 2] rfl
          clear hz1 hk1 hPc hDc hKc hFc hP1 hD1 hK1
          obtain rfl : r_19 = nI (pp + 1 + 1 + 1) := hw
          have hp_20 : pp + 1 + 1 + 1 + 1 < T := kne3 hk0 hp_14 hk_18 (by decide)
          refine lv_istore_n (lv' := [(3, .int (nI (pp + 1 + 1 + 1))), (2, .int 1), (0, .ref m9), (1, .ref ee)]) hx hb dX23_newFields_78 rfl hl (by decide) rfl (fun ls hl => ?_)
          refine lv_aload_n hx hb dX23_newFields_79 rfl (lv_at hl 2 rfl) ?_
          refine lv_bipush (v := 58) hx hb dX23_newFields_80 (by decide) ?_
          by_cases hk_21 : fk (pp + 1 + 1 + 1 + 1) = 58
          · replace hPc := hP.subF (f' := [(m9, .inr (23, mA mr mv vf xl (nI zs) 0 xa (nI T) (nI (pp + 1 + 1 + 1 + 1)) xi xt xn (nI (ns + 1)) (nI vv) (nI bb))), (mr 5, .inl (kI, 3002, .inl fk)), (mr 6, .inl (kI, 3002, .inl fa))]) [2, 3, 4] rfl
            replace hDc := hD.subF (f' := [(m9, .inr (23, mA mr mv vf xl (nI zs) 0 xa (nI T) (nI (pp + 1 + 1 + 1 + 1)) xi xt xn (nI (ns + 1)) (nI vv) (nI bb))), (mr 5, .inl (kI, 3002, .inl fk)), (mr 6, .inl (kI, 3002, .inl fa))]) [2, 3, 4] (by decide) rfl
            replace hKc := hK.sub (tys' := [(kI, .int)]) [0] rfl
            replace hFc := va_freeT (wc := [(m9, .inr (23, mA mr mv vf xl (nI zs) 0 xa (nI T) (nI (pp + 1 + 1 + 1 + 1)) xi xt xn (nI (ns + 1)) (nI vv) (nI bb))), (mr 5, .inl (kI, 3002, .inl fk)), (mr 6, .inl (kI, 3002, .inl fa))]) hD hS hA [2, 3, 4] rfl
            refine va_callv (va_runV (As := [.int 58]) (rest := []) ⟨hx, hb, hml, hown, hts⟩ (c_rtkY l dC dI m9 mr mv vf xl xa xi xt xn zs T (pp + 1 + 1 + 1 + 1) (ns + 1) vv bb kI fk fa 58 H.size hT hp_20 hk0 (by decide) hk_21) (cwV 1 hts g_c_xnf_c_rtkY_82 rfl rfl rfl (by decide +kernel) ⟨by show 1 + 1 ≤ 3 + 12 * k; omega, by show 8 + (2 + 11) + (21) ≤ 63 + 279 * k; omega⟩) ⟨fun a U g mk q => by obtain ⟨q0, q1, qP, qK, qD⟩ := q; exact ⟨q0, q1, qP, va_K.moved (u := U) (U := U.calling g mk a) (Vm.Alike.refl U.vm) qK, qD⟩, va_recv hKc hPc (ci := 23) (q0 := 0) rfl rfl, fun U hU hW => ⟨rfl, by rw [hU], by rw [hU]; exact hPc, va_K.moved hW.alike hKc, hDc.weaken (fun _ _ _ _ => trivial)⟩⟩ rfl rfl hl.1 rfl (lv_room (Nat.le_of_ble_eq_true rfl)) dX23_newFields_82 ⟨(show 0 + 0 ≤ (8 * (T - pp) + 3) by omega), (show 0 + 0 ≤ (120 * (T - pp) + 280) by omega)⟩) hS (fun q _ h => hFc q h) hFc (fun u tS H1 locs ht hvm hw hB hz1 hk1 hS => ?_)
            obtain ⟨hP1, hK1, hD1⟩ := hB
            rw [ht] at hP1
            replace hK1 := va_K.moved hvm.symm hK1
            obtain ⟨hPj, hDj⟩ := va_joinT (wr := [(ee, .inr (15, [.int 5, .int tx, .int 0, .int (nI (pp + 1)), .int 0, .int 0, .long 0, .int 0, .null, .null, .null, .int 0, .null, .null])), (mr 8, .inl (kL, 3002, .inr (.inl fn)))]) (w1 := [(m9, .inr (23, mA mr mv vf xl (nI zs) 0 xa (nI T) (nI ((pp + 1 + 1 + 1 + 1) + 1)) xi xt xn (nI (ns + 1)) (nI vv) (nI bb))), (mr 5, .inl (kI, 3002, .inl fk)), (mr 6, .inl (kI, 3002, .inl fa))]) hP hD [2, 3, 4] [0, 1] rfl rfl (by decide) (by decide) hk1 hFc hP1 hD1
            replace hP := hPj
            replace hD := hDj
            clear hPj hDj
            replace hK := hK.app hK1
            generalize H1 = H at hP hS ⊢
            replace hP : va_P (dC, dI) vwCl (([(ee, .inr (15, [.int 5, .int tx, .int 0, .int (nI (pp + 1)), .int 0, .int 0, .long 0, .int 0, .null, .null, .null, .int 0, .null, .null])), (mr 8, .inl (kL, 3002, .inr (.inl fn))), (m9, .inr (23, mA mr mv vf xl (nI zs) 0 xa (nI T) (nI ((pp + 1 + 1 + 1 + 1) + 1)) xi xt xn (nI (ns + 1)) (nI vv) (nI bb))), (mr 5, .inl (kI, 3002, .inl fk)), (mr 6, .inl (kI, 3002, .inl fa))] : va_W) ++ (sT L F)) H := hP
            replace hD : va_D A (([(ee, .inr (15, [.int 5, .int tx, .int 0, .int (nI (pp + 1)), .int 0, .int 0, .long 0, .int 0, .null, .null, .null, .int 0, .null, .null])), (mr 8, .inl (kL, 3002, .inr (.inl fn))), (m9, .inr (23, mA mr mv vf xl (nI zs) 0 xa (nI T) (nI ((pp + 1 + 1 + 1 + 1) + 1)) xi xt xn (nI (ns + 1)) (nI vv) (nI bb))), (mr 5, .inl (kI, 3002, .inl fk)), (mr 6, .inl (kI, 3002, .inl fa))] : va_W) ++ (sT L F)) := hD
            replace hK : va_K (dC, dI) vwCl [(kI, .int), (kL, .long), (kE, .object RX15), (kI, .int)] s := hK
            replace hK := hK.sub (tys' := [(kI, .int), (kL, .long), (kE, .object RX15)]) [0, 1, 2] rfl
            clear hz1 hk1 hPc hDc hKc hFc hP1 hD1 hK1
            have hp_23 : pp + 1 + 1 + 1 + 1 + 1 < T := kne3 hk0 hp_20 hk_21 (by decide)
            refine lv_aload_n hx hb dX23_newFields_85 rfl (lv_at hl 2 rfl) ?_
            replace hPc := hP.subF (f' := [(m9, .inr (23, mA mr mv vf xl (nI zs) 0 xa (nI T) (nI (pp + 1 + 1 + 1 + 1 + 1)) xi xt xn (nI (ns + 1)) (nI vv) (nI bb)))]) [2] rfl
            replace hDc := hD.subF (f' := [(m9, .inr (23, mA mr mv vf xl (nI zs) 0 xa (nI T) (nI (pp + 1 + 1 + 1 + 1 + 1)) xi xt xn (nI (ns + 1)) (nI vv) (nI bb)))]) [2] (by decide) rfl
            replace hKc := hK.sub (tys' := []) [] rfl
            replace hFc := va_freeT (wc := [(m9, .inr (23, mA mr mv vf xl (nI zs) 0 xa (nI T) (nI (pp + 1 + 1 + 1 + 1 + 1)) xi xt xn (nI (ns + 1)) (nI vv) (nI bb)))]) hD hS hA [2] rfl
            refine va_calli (va_runV (As := []) (rest := []) ⟨hx, hb, hml, hown, hts⟩ (c_rok0 l dC dI m9 mr mv vf xl xa xi xt xn zs T (pp + 1 + 1 + 1 + 1 + 1) (ns + 1) vv bb kI fk fa H.size) (cwV 0 hts g_c_xnf_c_rok0_86 rfl rfl rfl (by decide +kernel) ⟨by show 0 + 1 ≤ 3 + 12 * k; omega, by show 8 + (1 + 11) + (0) ≤ 63 + 279 * k; omega⟩) ⟨fun a U g mk q => by obtain ⟨q0, q1, qP, qK, qD⟩ := q; exact ⟨q0, q1, qP, va_K.moved (u := U) (U := U.calling g mk a) (Vm.Alike.refl U.vm) qK, qD⟩, va_recv hKc hPc (ci := 23) (q0 := 0) rfl rfl, fun U hU hW => ⟨rfl, by rw [hU], by rw [hU]; exact hPc, va_K.moved hW.alike hKc, hDc.weaken (fun _ _ _ _ => trivial)⟩⟩ rfl rfl hl.1 rfl (lv_room (Nat.le_of_ble_eq_true rfl)) dX23_newFields_86 ⟨(show 0 + 0 ≤ (8 * (T - pp) + 3) by omega), (show 0 + 0 ≤ (120 * (T - pp) + 280) by omega)⟩) hS (fun q _ h => hFc q h) hFc (fun r_24 u tS H1 locs ht hvm hw hB hz1 hk1 hS => ?_)
            obtain ⟨hP1, hK1, hD1⟩ := hB
            rw [ht] at hP1
            replace hK1 := va_K.moved hvm.symm hK1
            obtain ⟨hPj, hDj⟩ := va_joinT (wr := [(ee, .inr (15, [.int 5, .int tx, .int 0, .int (nI (pp + 1)), .int 0, .int 0, .long 0, .int 0, .null, .null, .null, .int 0, .null, .null])), (mr 8, .inl (kL, 3002, .inr (.inl fn))), (mr 5, .inl (kI, 3002, .inl fk)), (mr 6, .inl (kI, 3002, .inl fa))]) (w1 := [(m9, .inr (23, mA mr mv vf xl (nI zs) 0 xa (nI T) (nI (pp + 1 + 1 + 1 + 1 + 1)) xi xt xn (nI (ns + 1)) (nI vv) (nI bb)))]) hP hD [2] [0, 1, 3, 4] rfl rfl (by decide) (by decide) hk1 hFc hP1 hD1
            replace hP := hPj
            replace hD := hDj
            clear hPj hDj
            generalize H1 = H at hP hS ⊢
            replace hP : va_P (dC, dI) vwCl (([(ee, .inr (15, [.int 5, .int tx, .int 0, .int (nI (pp + 1)), .int 0, .int 0, .long 0, .int 0, .null, .null, .null, .int 0, .null, .null])), (mr 8, .inl (kL, 3002, .inr (.inl fn))), (mr 5, .inl (kI, 3002, .inl fk)), (mr 6, .inl (kI, 3002, .inl fa)), (m9, .inr (23, mA mr mv vf xl (nI zs) 0 xa (nI T) (nI (pp + 1 + 1 + 1 + 1 + 1)) xi xt xn (nI (ns + 1)) (nI vv) (nI bb)))] : va_W) ++ (sT L F)) H := hP
            replace hD : va_D A (([(ee, .inr (15, [.int 5, .int tx, .int 0, .int (nI (pp + 1)), .int 0, .int 0, .long 0, .int 0, .null, .null, .null, .int 0, .null, .null])), (mr 8, .inl (kL, 3002, .inr (.inl fn))), (mr 5, .inl (kI, 3002, .inl fk)), (mr 6, .inl (kI, 3002, .inl fa)), (m9, .inr (23, mA mr mv vf xl (nI zs) 0 xa (nI T) (nI (pp + 1 + 1 + 1 + 1 + 1)) xi xt xn (nI (ns + 1)) (nI vv) (nI bb)))] : va_W) ++ (sT L F)) := hD
            replace hK : va_K (dC, dI) vwCl [(kI, .int), (kL, .long), (kE, .object RX15)] s := hK
            clear hz1 hk1 hPc hDc hKc hFc hP1 hD1 hK1
            obtain rfl : r_24 = 1 := hw
            refine lv_if_eq (tgt := 101) hx hb dX23_newFields_89 (by decide) (fun c_25 => absurd c_25 (by decide)) (fun _ => ?_)
            refine lv_aload_n hx hb dX23_newFields_92 rfl (lv_at hl 3 rfl) ?_
            refine lv_aload_n hx hb dX23_newFields_93 rfl (lv_at hl 2 rfl) ?_
            obtain ⟨k1, hkL⟩ : ∃ k1 : Nat, k = k1 + 1 := ⟨k - 1, by omega⟩
            replace hPc := hP.subT (f' := [(m9, .inr (23, mA mr mv vf xl (nI zs) 0 xa (nI T) (nI (pp + 1 + 1 + 1 + 1 + 1)) xi xt xn (nI (ns + 1)) (nI vv) (nI bb))), (mr 5, .inl (kI, 3002, .inl fk)), (mr 6, .inl (kI, 3002, .inl fa)), (mr 8, .inl (kL, 3002, .inr (.inl fn)))]) [4, 2, 3, 1] rfl
            replace hDc := hD.subT (f' := [(m9, .inr (23, mA mr mv vf xl (nI zs) 0 xa (nI T) (nI (pp + 1 + 1 + 1 + 1 + 1)) xi xt xn (nI (ns + 1)) (nI vv) (nI bb))), (mr 5, .inl (kI, 3002, .inl fk)), (mr 6, .inl (kI, 3002, .inl fa)), (mr 8, .inl (kL, 3002, .inr (.inl fn)))]) [4, 2, 3, 1] (by decide) rfl
            replace hKc := hK.sub (tys' := [(kI, .int), (kL, .long), (kE, .object RX15)]) [0, 1, 2] rfl
            replace hFc := va_freeB (wc := [(m9, .inr (23, mA mr mv vf xl (nI zs) 0 xa (nI T) (nI (pp + 1 + 1 + 1 + 1 + 1)) xi xt xn (nI (ns + 1)) (nI vv) (nI bb))), (mr 5, .inl (kI, 3002, .inl fk)), (mr 6, .inl (kI, 3002, .inl fa)), (mr 8, .inl (kL, 3002, .inr (.inl fn)))]) hD hS hA [4, 2, 3, 1] rfl
            refine W.grow (fun hgs0 hgs1 => ?_)
            refine va_callr (va_runV (As := []) (rest := [.ref ee]) ⟨hx, hb, hml, hown, hts⟩ ((ih k1 hkL).2.2.2.2.2.2 m9 mr mv vf xl xa xi xt xn zs T (pp + 1 + 1 + 1 + 1 + 1) (ns + 1) vv bb kI fk fa kL kE fn L F (slN H) H.size hT hp_23 hk0 hbb (by omega)) (cwV 0 hts g_c_xnf_c_xex_94 rfl rfl rfl (by decide +kernel) ⟨by show 13 + 12 * k1 + 1 ≤ 3 + 12 * k; omega, by show 8 + (1 + 11) + (302 + 279 * k1) ≤ 63 + 279 * k; omega⟩) ⟨fun a U g mk q => by obtain ⟨q0, q1, qP, qK, qD, qx0, qx1⟩ := q; exact ⟨q0, q1, qP, va_K.moved (u := U) (U := U.calling g mk a) (Vm.Alike.refl U.vm) qK, qD, nsM.same (u := U) (U := U.calling g mk a) rfl qx0, qx1⟩, va_recv hKc hPc (ci := 23) (q0 := 0) rfl rfl, fun U hU hW => ⟨rfl, by rw [hU], by rw [hU]; exact hPc, va_K.moved hW.alike hKc, hDc.weaken (fun _ _ _ _ => trivial), nsM.warm hW hns, by rw [hU]⟩⟩ rfl rfl hl.1 rfl (lv_room (Nat.le_of_ble_eq_true rfl)) dX23_newFields_94 ⟨(show 0 + (8 * (T - (pp + 1 + 1 + 1 + 1 + 1)) + 8) ≤ (8 * (T - pp) + 3) by omega), (show 0 + (120 * (T - (pp + 1 + 1 + 1 + 1 + 1)) + 360) ≤ (120 * (T - pp) + 280) by omega)⟩) hS (fun q _ h => hFc q h) hFc (fun u r_26 tS H1 locs ht hvm hw hB hz1 hk1 hS => ?_)
            obtain ⟨L25, F25, ff25, xa25, pp25, bb25, hf26_0, hf26_1, hf26_2, hf26_3, hP1, hK1, hD1⟩ := hB
            rw [ht] at hP1
            replace hK1 := va_K.moved hvm.symm hK1
            rw [ht] at hf26_3
            have hgz : H1.size ≤ s.heap.size + (8 * (pp25 - (pp + 1 + 1 + 1 + 1 + 1)) + 3) ∧ slN H1 ≤ slN s.heap + (120 * (pp25 - (pp + 1 + 1 + 1 + 1 + 1)) + 48) := ⟨by have := hf26_3.1; omega, by have := hf26_3.2; omega⟩
            obtain ⟨hPj, hDj⟩ := va_joinB (wr := [(ee, .inr (15, [.int 5, .int tx, .int 0, .int (nI (pp + 1)), .int 0, .int 0, .long 0, .int 0, .null, .null, .null, .int 0, .null, .null]))]) (w1 := [(m9, .inr (23, mA mr mv vf xl (nI zs) ff25 xa25 (nI T) (nI pp25) xi xt xn (nI (ns + 1)) (nI vv) (nI bb25))), (mr 5, .inl (kI, 3002, .inl fk)), (mr 6, .inl (kI, 3002, .inl fa)), (mr 8, .inl (kL, 3002, .inr (.inl fn)))]) hP hD [4, 2, 3, 1] [0] rfl rfl (by decide) (by decide) hk1 hFc hP1 hD1
            replace hP := hPj
            replace hD := hDj
            clear hPj hDj
            replace hK := hK.app hK1
            generalize H1 = H at hP hS hgz ⊢
            replace hP : va_P (dC, dI) vwCl (([(ee, .inr (15, [.int 5, .int tx, .int 0, .int (nI (pp + 1)), .int 0, .int 0, .long 0, .int 0, .null, .null, .null, .int 0, .null, .null])), (m9, .inr (23, mA mr mv vf xl (nI zs) ff25 xa25 (nI T) (nI pp25) xi xt xn (nI (ns + 1)) (nI vv) (nI bb25))), (mr 5, .inl (kI, 3002, .inl fk)), (mr 6, .inl (kI, 3002, .inl fa)), (mr 8, .inl (kL, 3002, .inr (.inl fn)))] : va_W) ++ (sT L25 F25)) H := hP
            replace hD : va_D A (([(ee, .inr (15, [.int 5, .int tx, .int 0, .int (nI (pp + 1)), .int 0, .int 0, .long 0, .int 0, .null, .null, .null, .int 0, .null, .null])), (m9, .inr (23, mA mr mv vf xl (nI zs) ff25 xa25 (nI T) (nI pp25) xi xt xn (nI (ns + 1)) (nI vv) (nI bb25))), (mr 5, .inl (kI, 3002, .inl fk)), (mr 6, .inl (kI, 3002, .inl fa)), (mr 8, .inl (kL, 3002, .inr (.inl fn)))] : va_W) ++ (sT L25 F25)) := hD
            replace hK : va_K (dC, dI) vwCl [(kI, .int), (kL, .long), (kE, .object RX15), (kI, .int), (kL, .long), (kE, .object RX15)] s := hK
            replace hK := hK.sub (tys' := [(kI, .int), (kL, .long), (kE, .object RX15)]) [0, 1, 2] rfl
            refine W.tight (k := 8 * (pp25 - (pp + 1 + 1 + 1 + 1 + 1)) + 3) (n := 120 * (pp25 - (pp + 1 + 1 + 1 + 1 + 1)) + 48) hgz.1 hgz.2 ?_
            clear hz1 hk1 hPc hDc hKc hFc hP1 hD1 hK1
            refine lv_iload_n hx hb dX23_newFields_97 rfl (lv_at hl 0 rfl) ?_
            replace hPc := hP.subT (f' := [(ee, .inr (15, [.int 5, .int tx, .int 0, .int (nI (pp + 1)), .int 0, .int 0, .long 0, .int 0, .null, .null, .null, .int 0, .null, .null]))]) [0] rfl
            replace hDc := hD.subT (f' := [(ee, .inr (15, [.int 5, .int tx, .int 0, .int (nI (pp + 1)), .int 0, .int 0, .long 0, .int 0, .null, .null, .null, .int 0, .null, .null]))]) [0] (by decide) rfl
            replace hKc := hK.sub (tys' := [(kI, .int), (kE, .object RX15)]) [0, 2] rfl
            replace hFc := va_freeB (wc := [(ee, .inr (15, [.int 5, .int tx, .int 0, .int (nI (pp + 1)), .int 0, .int 0, .long 0, .int 0, .null, .null, .null, .int 0, .null, .null]))]) hD hS hA [0] rfl
            refine W.grow (fun hgs0 hgs1 => ?_)
            refine va_callv (va_runS (As := [.ref ee, .ref r_26, .int (nI (pp + 1 + 1 + 1))]) (rest := []) ⟨hx, hb, hml, hown, hts⟩ (c_xaN l dC dI ee r_26 5 tx 0 (nI (pp + 1)) 0 0 (nI (pp + 1 + 1 + 1)) .null kI kE L25 F25 (slN H) H.size hf26_0.2) (va_cwS 3 hts g_c_xnf_c_xaN_98 rfl rfl rfl (by decide +kernel) ⟨by show 0 + 1 ≤ 3 + 12 * k; omega, by show 8 + (6 + 11) + (0) ≤ 63 + 279 * k; omega⟩) ⟨fun a U g mk q => by obtain ⟨q0, q1, qP, qK, qD, qx0, qx1⟩ := q; exact ⟨q0, q1, qP, va_K.moved (u := U) (U := U.calling g mk a) (Vm.Alike.refl U.vm) qK, qD, nsM.same (u := U) (U := U.calling g mk a) rfl qx0, qx1⟩, fun U hU hW => ⟨rfl, by rw [hU], by rw [hU]; exact hPc, va_K.moved hW.alike hKc, hDc.weaken (fun _ _ _ _ => trivial), nsM.warm hW hns, by rw [hU]⟩⟩ rfl rfl hl.1 rfl (lv_room (Nat.le_of_ble_eq_true rfl)) dX23_newFields_98 ⟨(show 8 * (pp25 - (pp + 1 + 1 + 1 + 1 + 1)) + 3 + 2 ≤ (8 * (T - pp) + 3) by omega), (show 120 * (pp25 - (pp + 1 + 1 + 1 + 1 + 1)) + 48 + 8 ≤ (120 * (T - pp) + 280) by omega)⟩) hS (fun q _ h => hFc q h) hFc (fun u tS H1 locs ht hvm hw hB hz1 hk1 hS => ?_)
            obtain ⟨la26, sa26, cp26, f26, g26, hf27_0, hf27_1, hf27_2, hP1, hK1, hD1⟩ := hB
            rw [ht] at hP1
            replace hK1 := va_K.moved hvm.symm hK1
            rw [ht] at hf27_2
            have hgz : H1.size ≤ s.heap.size + ((8 * (pp25 - (pp + 1 + 1 + 1 + 1 + 1)) + 3 + 2)) ∧ slN H1 ≤ slN s.heap + ((120 * (pp25 - (pp + 1 + 1 + 1 + 1 + 1)) + 48 + 8)) := ⟨by have := hf27_2.1; omega, by have := hf27_2.2; omega⟩
            obtain ⟨hPj, hDj⟩ := va_joinB (wr := [(m9, .inr (23, mA mr mv vf xl (nI zs) ff25 xa25 (nI T) (nI pp25) xi xt xn (nI (ns + 1)) (nI vv) (nI bb25))), (mr 5, .inl (kI, 3002, .inl fk)), (mr 6, .inl (kI, 3002, .inl fa)), (mr 8, .inl (kL, 3002, .inr (.inl fn)))]) (w1 := [(ee, .inr (15, [.int 5, .int tx, .int 0, .int (nI (pp + 1)), .int 0, .int 0, .long 0, .int 0, .null, .ref la26, .ref sa26, .int 1, .null, .null])), (la26, .inl (kE, cp26, .inr (.inr (.inr (.inr f26))))), (sa26, .inl (kI, cp26, .inl g26))]) hP hD [0] [1, 2, 3, 4] rfl rfl (by decide) (by decide) hk1 hFc hP1 hD1
            replace hP := hPj
            replace hD := hDj
            clear hPj hDj
            replace hK := hK.app hK1
            generalize H1 = H at hP hS hgz ⊢
            replace hP : va_P (dC, dI) vwCl (([(m9, .inr (23, mA mr mv vf xl (nI zs) ff25 xa25 (nI T) (nI pp25) xi xt xn (nI (ns + 1)) (nI vv) (nI bb25))), (mr 5, .inl (kI, 3002, .inl fk)), (mr 6, .inl (kI, 3002, .inl fa)), (mr 8, .inl (kL, 3002, .inr (.inl fn))), (ee, .inr (15, [.int 5, .int tx, .int 0, .int (nI (pp + 1)), .int 0, .int 0, .long 0, .int 0, .null, .ref la26, .ref sa26, .int 1, .null, .null])), (la26, .inl (kE, cp26, .inr (.inr (.inr (.inr f26))))), (sa26, .inl (kI, cp26, .inl g26))] : va_W) ++ (sT L25 F25)) H := hP
            replace hD : va_D A (([(m9, .inr (23, mA mr mv vf xl (nI zs) ff25 xa25 (nI T) (nI pp25) xi xt xn (nI (ns + 1)) (nI vv) (nI bb25))), (mr 5, .inl (kI, 3002, .inl fk)), (mr 6, .inl (kI, 3002, .inl fa)), (mr 8, .inl (kL, 3002, .inr (.inl fn))), (ee, .inr (15, [.int 5, .int tx, .int 0, .int (nI (pp + 1)), .int 0, .int 0, .long 0, .int 0, .null, .ref la26, .ref sa26, .int 1, .null, .null])), (la26, .inl (kE, cp26, .inr (.inr (.inr (.inr f26))))), (sa26, .inl (kI, cp26, .inl g26))] : va_W) ++ (sT L25 F25)) := hD
            replace hK : va_K (dC, dI) vwCl [(kI, .int), (kL, .long), (kE, .object RX15), (kI, .int), (kE, .object RX15)] s := hK
            replace hK := hK.sub (tys' := [(kI, .int), (kL, .long), (kE, .object RX15)]) [0, 1, 2] rfl
            refine W.tight (k := (8 * (pp25 - (pp + 1 + 1 + 1 + 1 + 1)) + 3 + 2)) (n := (120 * (pp25 - (pp + 1 + 1 + 1 + 1 + 1)) + 48 + 8)) hgz.1 hgz.2 ?_
            clear hz1 hk1 hPc hDc hKc hFc hP1 hD1 hK1
            subst hf27_0
            refine lv_aload_n hx hb dX23_newFields_101 rfl (lv_at hl 2 rfl) ?_
            refine lv_bipush (v := 57) hx hb dX23_newFields_102 (by decide) ?_
            by_cases hz_28 : ff25 = 0
            · subst hz_28
              have hg25 := hf26_2 rfl
              have hlthg25 := (isE_mem hg25.2).2
              by_cases hk_29 : fk pp25 = 57
              · replace hPc := hP.subF (f' := [(m9, .inr (23, mA mr mv vf xl (nI zs) 0 xa25 (nI T) (nI pp25) xi xt xn (nI (ns + 1)) (nI vv) (nI bb25))), (mr 5, .inl (kI, 3002, .inl fk))]) [0, 1] rfl
                replace hDc := hD.subF (f' := [(m9, .inr (23, mA mr mv vf xl (nI zs) 0 xa25 (nI T) (nI pp25) xi xt xn (nI (ns + 1)) (nI vv) (nI bb25))), (mr 5, .inl (kI, 3002, .inl fk))]) [0, 1] (by decide) rfl
                replace hKc := hK.sub (tys' := [(kI, .int)]) [0] rfl
                replace hFc := va_freeT (wc := [(m9, .inr (23, mA mr mv vf xl (nI zs) 0 xa25 (nI T) (nI pp25) xi xt xn (nI (ns + 1)) (nI vv) (nI bb25))), (mr 5, .inl (kI, 3002, .inl fk))]) hD hS hA [0, 1] rfl
                refine va_calli (va_runV (As := [.int 57]) (rest := []) ⟨hx, hb, hml, hown, hts⟩ (c_rtsY l dC dI m9 mr mv vf xl xa25 xi xt xn zs T pp25 (ns + 1) vv bb25 kI fk fa 57 H.size hT hf26_1.2.1 hk0 (by decide) hk_29) (cwV 1 hts g_c_xnf_c_rtsY_104 rfl rfl rfl (by decide +kernel) ⟨by show 1 + 1 ≤ 3 + 12 * k; omega, by show 8 + (2 + 11) + (21) ≤ 63 + 279 * k; omega⟩) ⟨fun a U g mk q => by obtain ⟨q0, q1, qP, qK, qD⟩ := q; exact ⟨q0, q1, qP, va_K.moved (u := U) (U := U.calling g mk a) (Vm.Alike.refl U.vm) qK, qD⟩, va_recv hKc hPc (ci := 23) (q0 := 0) rfl rfl, fun U hU hW => ⟨rfl, by rw [hU], by rw [hU]; exact hPc, va_K.moved hW.alike hKc, hDc.weaken (fun _ _ _ _ => trivial)⟩⟩ rfl rfl hl.1 rfl (lv_room (Nat.le_of_ble_eq_true rfl)) dX23_newFields_104 ⟨(show (8 * (pp25 - (pp + 1 + 1 + 1 + 1 + 1)) + 3 + 2) + 0 ≤ (8 * (T - pp) + 3) by omega), (show (120 * (pp25 - (pp + 1 + 1 + 1 + 1 + 1)) + 48 + 8) + 0 ≤ (120 * (T - pp) + 280) by omega)⟩) hS (fun q _ h => hFc q h) hFc (fun r_30 u tS H1 locs ht hvm hw hB hz1 hk1 hS => ?_)
                obtain ⟨hP1, hK1, hD1⟩ := hB
                rw [ht] at hP1
                replace hK1 := va_K.moved hvm.symm hK1
                obtain ⟨hPj, hDj⟩ := va_joinT (wr := [(mr 6, .inl (kI, 3002, .inl fa)), (mr 8, .inl (kL, 3002, .inr (.inl fn))), (ee, .inr (15, [.int 5, .int tx, .int 0, .int (nI (pp + 1)), .int 0, .int 0, .long 0, .int 0, .null, .ref la26, .ref sa26, .int 1, .null, .null])), (la26, .inl (kE, 4, .inr (.inr (.inr (.inr f26))))), (sa26, .inl (kI, 4, .inl g26))]) (w1 := [(m9, .inr (23, mA mr mv vf xl (nI zs) 0 xa25 (nI T) (nI (pp25 + 1)) xi xt xn (nI (ns + 1)) (nI vv) (nI bb25))), (mr 5, .inl (kI, 3002, .inl fk))]) hP hD [0, 1] [2, 3, 4, 5, 6] rfl rfl (by decide) (by decide) hk1 hFc hP1 hD1
                replace hP := hPj
                replace hD := hDj
                clear hPj hDj
                replace hK := hK.app hK1
                generalize H1 = H at hP hS ⊢
                replace hP : va_P (dC, dI) vwCl (([(mr 6, .inl (kI, 3002, .inl fa)), (mr 8, .inl (kL, 3002, .inr (.inl fn))), (ee, .inr (15, [.int 5, .int tx, .int 0, .int (nI (pp + 1)), .int 0, .int 0, .long 0, .int 0, .null, .ref la26, .ref sa26, .int 1, .null, .null])), (la26, .inl (kE, 4, .inr (.inr (.inr (.inr f26))))), (sa26, .inl (kI, 4, .inl g26)), (m9, .inr (23, mA mr mv vf xl (nI zs) 0 xa25 (nI T) (nI (pp25 + 1)) xi xt xn (nI (ns + 1)) (nI vv) (nI bb25))), (mr 5, .inl (kI, 3002, .inl fk))] : va_W) ++ (sT L25 F25)) H := hP
                replace hD : va_D A (([(mr 6, .inl (kI, 3002, .inl fa)), (mr 8, .inl (kL, 3002, .inr (.inl fn))), (ee, .inr (15, [.int 5, .int tx, .int 0, .int (nI (pp + 1)), .int 0, .int 0, .long 0, .int 0, .null, .ref la26, .ref sa26, .int 1, .null, .null])), (la26, .inl (kE, 4, .inr (.inr (.inr (.inr f26))))), (sa26, .inl (kI, 4, .inl g26)), (m9, .inr (23, mA mr mv vf xl (nI zs) 0 xa25 (nI T) (nI (pp25 + 1)) xi xt xn (nI (ns + 1)) (nI vv) (nI bb25))), (mr 5, .inl (kI, 3002, .inl fk))] : va_W) ++ (sT L25 F25)) := hD
                replace hK : va_K (dC, dI) vwCl [(kI, .int), (kL, .long), (kE, .object RX15), (kI, .int)] s := hK
                replace hK := hK.sub (tys' := [(kI, .int), (kL, .long), (kE, .object RX15)]) [0, 1, 2] rfl
                clear hz1 hk1 hPc hDc hKc hFc hP1 hD1 hK1
                obtain rfl : r_30 = 1 := hw
                have hp_31 : pp25 + 1 < T := kne3 hk0 hf26_1.2.1 hk_29 (by decide)
                refine lv_istore_n (lv' := [(2, .int 1), (3, .int (nI (pp + 1 + 1 + 1))), (0, .ref m9), (1, .ref ee)]) hx hb dX23_newFields_107 rfl hl (by decide) rfl (fun ls hl => ?_)
                refine lv_goto (tgt := 63) hx hb dX23_newFields_108 (by decide) ?_
                obtain ⟨nm0, enm0⟩ : ∃ z : Int32, z = nI (pp + 1) := ⟨_, rfl⟩
                rw [← enm0] at hP hD
                replace hP : va_P (dC, dI) vwCl (([(mr 6, .inl (kI, 3002, .inl fa)), (mr 8, .inl (kL, 3002, .inr (.inl fn))), (ee, .inr (15, [.int 5, .int tx, .int 0, .int nm0, .int 0, .int 0, .long 0, .int 0, .null, .ref la26, .ref sa26, .int 1, .null, .null])), (la26, .inl (kE, 4, .inr (.inr (.inr (.inr f26))))), (sa26, .inl (kI, 4, .inl g26)), (m9, .inr (23, mA mr mv vf xl (nI zs) 0 xa25 (nI T) (nI (pp25 + 1)) xi xt xn (nI (ns + 1)) (nI vv) (nI bb25))), (mr 5, .inl (kI, 3002, .inl fk))] : va_W) ++ (sT L25 F25)) H := hP
                replace hD : va_D A (([(mr 6, .inl (kI, 3002, .inl fa)), (mr 8, .inl (kL, 3002, .inr (.inl fn))), (ee, .inr (15, [.int 5, .int tx, .int 0, .int nm0, .int 0, .int 0, .long 0, .int 0, .null, .ref la26, .ref sa26, .int 1, .null, .null])), (la26, .inl (kE, 4, .inr (.inr (.inr (.inr f26))))), (sa26, .inl (kI, 4, .inl g26)), (m9, .inr (23, mA mr mv vf xl (nI zs) 0 xa25 (nI T) (nI (pp25 + 1)) xi xt xn (nI (ns + 1)) (nI vv) (nI bb25))), (mr 5, .inl (kI, 3002, .inl fk))] : va_W) ++ (sT L25 F25)) := hD
                refine W_q (fun Q1 hQ1 => ?_)
                have key1 : ∀ (n1 : Nat) (pp1 bb1 la sa cp n cm : Nat) (ff1 xa1 mo : Int32) (L1 : List Nat) (F1 : Nat → va_E) (f : Nat → Option Nat) (g : Nat → Int32) (H : Heap) (locs : List Loc) (ls : Array Slot), (1 ≤ n1 ∧ pp + 2 ≤ pp1 ∧ pp1 < T ∧ bb ≤ bb1 ∧ bb1 ≤ bb + (pp1 - pp) ∧ 1 ≤ n ∧ n ≤ cp ∧ 4 ≤ cp ∧ cp ≤ 4 + 2 * n ∧ pp + n + cm ≤ pp1 ∧ cm ≤ 1 ∧ T ≤ 3001) → (ff1 ≠ 0 ∨ T + 1 ≤ pp1 + n1) → (exS L F L1 F1) → (∀ i : Nat, i < n → ∃ x : Nat, f i = some x ∧ xO L1 F1 x) → (ff1 = 0 → bb1 ≤ 54 ∧ ∃ q0 : Nat, chP 1 (isE L1 F1 kE kI (24 * k)) f g n (pp + 1) q0 bb bb1 ∧ ((mo = 0 ∧ cm = 0 ∧ q0 ≤ pp1) ∨ (mo ≠ 0 ∧ cm = 1 ∧ q0 < pp1))) → va_P (dC, dI) vwCl (([(ee, .inr (15, [.int 5, .int tx, .int 0, .int nm0, .int 0, .int 0, .long 0, .int 0, .null, .ref la, .ref sa, .int (nI n), .null, .null])), (la, .inl (kE, cp, .inr (.inr (.inr (.inr f))))), (sa, .inl (kI, cp, .inl g)), (m9, .inr (23, mA mr mv vf xl (nI zs) ff1 xa1 (nI T) (nI pp1) xi xt xn (nI (ns + 1)) (nI vv) (nI bb1))), (mr 5, .inl (kI, 3002, .inl fk)), (mr 6, .inl (kI, 3002, .inl fa)), (mr 8, .inl (kL, 3002, .inr (.inl fn)))] : va_W) ++ (sT L1 F1)) H → va_D A (([(ee, .inr (15, [.int 5, .int tx, .int 0, .int nm0, .int 0, .int 0, .long 0, .int 0, .null, .ref la, .ref sa, .int (nI n), .null, .null])), (la, .inl (kE, cp, .inr (.inr (.inr (.inr f))))), (sa, .inl (kI, cp, .inl g)), (m9, .inr (23, mA mr mv vf xl (nI zs) ff1 xa1 (nI T) (nI pp1) xi xt xn (nI (ns + 1)) (nI vv) (nI bb1))), (mr 5, .inl (kI, 3002, .inl fk)), (mr 6, .inl (kI, 3002, .inl fa)), (mr 8, .inl (kL, 3002, .inr (.inl fn)))] : va_W) ++ (sT L1 F1)) → va_S A s.heap H locs → lv_has ls 4 [(2, .int mo), (0, .ref m9), (1, .ref ee)] → W p l e (headSpec wp_c_xnf ({ frames := 3 + 12 * k, cells := (8 * (T - pp) + 3), slots := (120 * (T - pp) + 280), locals := 63 + 279 * k })).room s m ([.ref m9, .ref ee] : List Value).toArray below meth c H locs (8 * (pp1 - pp) - 3 * n - 8 * cm) (120 * (pp1 - pp) + 4 * cp + 8 - 64 * n - 120 * cm) Q1 (F0 m 63 ls []) := by
                  intro n1
                  induction n1 with
                  | zero => intro pp1 bb1 la sa cp n cm ff1 xa1 mo L1 F1 f g H locs ls hr0 hr1 hr2 hr3 hr4; exact absurd hr0 (by omega)
                  | succ n1 ih1 =>
                    intro pp1 bb1 la sa cp n cm ff1 xa1 mo L1 F1 f g H locs ls hr0 hr1 hr2 hr3 hr4 hP hD hS hl
                    refine lv_aload_n hx hb dX23_newFields_63 rfl (lv_at hl 1 rfl) ?_
                    by_cases hz_32 : ff1 = 0
                    · subst hz_32
                      have hr9 := hr4 rfl
                      replace hPc := hP.subF (f' := [(m9, .inr (23, mA mr mv vf xl (nI zs) 0 xa1 (nI T) (nI pp1) xi xt xn (nI (ns + 1)) (nI vv) (nI bb1)))]) [3] rfl
                      replace hDc := hD.subF (f' := [(m9, .inr (23, mA mr mv vf xl (nI zs) 0 xa1 (nI T) (nI pp1) xi xt xn (nI (ns + 1)) (nI vv) (nI bb1)))]) [3] (by decide) rfl
                      replace hKc := hK.sub (tys' := []) [] rfl
                      replace hFc := va_freeT (wc := [(m9, .inr (23, mA mr mv vf xl (nI zs) 0 xa1 (nI T) (nI pp1) xi xt xn (nI (ns + 1)) (nI vv) (nI bb1)))]) hD hS hA [3] rfl
                      refine va_calli (va_runV (As := []) (rest := []) ⟨hx, hb, hml, hown, hts⟩ (c_rok0 l dC dI m9 mr mv vf xl xa1 xi xt xn zs T pp1 (ns + 1) vv bb1 kI fk fa H.size) (cwV 0 hts g_c_xnf_c_rok0_64 rfl rfl rfl (by decide +kernel) ⟨by show 0 + 1 ≤ 3 + 12 * k; omega, by show 8 + (1 + 11) + (0) ≤ 63 + 279 * k; omega⟩) ⟨fun a U g mk q => by obtain ⟨q0, q1, qP, qK, qD⟩ := q; exact ⟨q0, q1, qP, va_K.moved (u := U) (U := U.calling g mk a) (Vm.Alike.refl U.vm) qK, qD⟩, va_recv hKc hPc (ci := 23) (q0 := 0) rfl rfl, fun U hU hW => ⟨rfl, by rw [hU], by rw [hU]; exact hPc, va_K.moved hW.alike hKc, hDc.weaken (fun _ _ _ _ => trivial)⟩⟩ rfl rfl hl.1 rfl (lv_room (Nat.le_of_ble_eq_true rfl)) dX23_newFields_64 ⟨(show (8 * (pp1 - pp) - 3 * n - 8 * cm) + 0 ≤ (8 * (T - pp) + 3) by omega), (show (120 * (pp1 - pp) + 4 * cp + 8 - 64 * n - 120 * cm) + 0 ≤ (120 * (T - pp) + 280) by omega)⟩) hS (fun q _ h => hFc q h) hFc (fun r_33 u tS H1 locs ht hvm hw hB hz1 hk1 hS => ?_)
                      obtain ⟨hP1, hK1, hD1⟩ := hB
                      rw [ht] at hP1
                      replace hK1 := va_K.moved hvm.symm hK1
                      obtain ⟨hPj, hDj⟩ := va_joinT (wr := [(ee, .inr (15, [.int 5, .int tx, .int 0, .int nm0, .int 0, .int 0, .long 0, .int 0, .null, .ref la, .ref sa, .int (nI n), .null, .null])), (la, .inl (kE, cp, .inr (.inr (.inr (.inr f))))), (sa, .inl (kI, cp, .inl g)), (mr 5, .inl (kI, 3002, .inl fk)), (mr 6, .inl (kI, 3002, .inl fa)), (mr 8, .inl (kL, 3002, .inr (.inl fn)))]) (w1 := [(m9, .inr (23, mA mr mv vf xl (nI zs) 0 xa1 (nI T) (nI pp1) xi xt xn (nI (ns + 1)) (nI vv) (nI bb1)))]) hP hD [3] [0, 1, 2, 4, 5, 6] rfl rfl (by decide) (by decide) hk1 hFc hP1 hD1
                      replace hP := hPj
                      replace hD := hDj
                      clear hPj hDj
                      generalize H1 = H at hP hS ⊢
                      replace hP : va_P (dC, dI) vwCl (([(ee, .inr (15, [.int 5, .int tx, .int 0, .int nm0, .int 0, .int 0, .long 0, .int 0, .null, .ref la, .ref sa, .int (nI n), .null, .null])), (la, .inl (kE, cp, .inr (.inr (.inr (.inr f))))), (sa, .inl (kI, cp, .inl g)), (mr 5, .inl (kI, 3002, .inl fk)), (mr 6, .inl (kI, 3002, .inl fa)), (mr 8, .inl (kL, 3002, .inr (.inl fn))), (m9, .inr (23, mA mr mv vf xl (nI zs) 0 xa1 (nI T) (nI pp1) xi xt xn (nI (ns + 1)) (nI vv) (nI bb1)))] : va_W) ++ (sT L1 F1)) H := hP
                      replace hD : va_D A (([(ee, .inr (15, [.int 5, .int tx, .int 0, .int nm0, .int 0, .int 0, .long 0, .int 0, .null, .ref la, .ref sa, .int (nI n), .null, .null])), (la, .inl (kE, cp, .inr (.inr (.inr (.inr f))))), (sa, .inl (kI, cp, .inl g)), (mr 5, .inl (kI, 3002, .inl fk)), (mr 6, .inl (kI, 3002, .inl fa)), (mr 8, .inl (kL, 3002, .inr (.inl fn))), (m9, .inr (23, mA mr mv vf xl (nI zs) 0 xa1 (nI T) (nI pp1) xi xt xn (nI (ns + 1)) (nI vv) (nI bb1)))] : va_W) ++ (sT L1 F1)) := hD
                      replace hK : va_K (dC, dI) vwCl [(kI, .int), (kL, .long), (kE, .object RX15)] s := hK
                      clear hz1 hk1 hPc hDc hKc hFc hP1 hD1 hK1
                      obtain rfl : r_33 = 1 := hw
                      refine lv_if_eq (tgt := 111) hx hb dX23_newFields_67 (by decide) (fun c_34 => absurd c_34 (by decide)) (fun _ => ?_)
                      refine lv_iload_n hx hb dX23_newFields_70 rfl (lv_at hl 0 rfl) ?_
                      refine lv_if_eq (tgt := 111) hx hb dX23_newFields_71 (by decide) (fun hm_35 => ?_) (fun hm_35 => ?_)
                      · obtain ⟨q0, hr5, hr6⟩ := hr9.2
                        replace hr6 : q0 ≤ pp1 := by omega
                        refine lv_aload_n hx hb dX23_newFields_111 rfl (lv_at hl 1 rfl) ?_
                        refine lv_dup hx hb dX23_newFields_112 rfl ?_
                        refine va_get (D := (dC, dI)) (ci := 23) (v := .int (nI (ns + 1))) (C := RX23) (T := TX23) (N := 89) hx hb hts in_c_xnf_X23 hown hK hP 6 rfl rfl 15 (by decide) (hts (.fieldLink RX23 104 "OwnedPlacesModel" "nest" "I") (wm_c_xnf 29 rfl)) (fun _ h9 => h9) rfl dX23_newFields_113 ?_
                        refine lv_iconst (v := 1) hx hb dX23_newFields_116 (by decide) ?_
                        refine lv_isub hx hb dX23_newFields_117 ?_
                        refine lv_topi (fun f_36 ef_36 => ?_)
                        obtain rfl : f_36 = nI ns := ef_36.trans (nI_pred _)
                        refine va_put (D := (dC, dI)) (ci := 23) (v := .int (nI ns)) (ty := .int) (C := RX23) (T := TX23) (N := 89) hx hb hts in_c_xnf_X23 tyX23 tyX23_ok nmX23 hown hK hP hD hS 6 rfl rfl 15 (by decide) (hts (.fieldLink RX23 104 "OwnedPlacesModel" "nest" "I") (wm_c_xnf 29 rfl)) (fun _ h9 => h9) rfl (by decide +kernel) rfl rfl (Nat.le_of_ble_eq_true rfl) dX23_newFields_118 (fun H locs hP hD hS => ?_)
                        replace hP : va_P (dC, dI) vwCl (([(ee, .inr (15, [.int 5, .int tx, .int 0, .int nm0, .int 0, .int 0, .long 0, .int 0, .null, .ref la, .ref sa, .int (nI n), .null, .null])), (la, .inl (kE, cp, .inr (.inr (.inr (.inr f))))), (sa, .inl (kI, cp, .inl g)), (mr 5, .inl (kI, 3002, .inl fk)), (mr 6, .inl (kI, 3002, .inl fa)), (mr 8, .inl (kL, 3002, .inr (.inl fn))), (m9, .inr (23, mA mr mv vf xl (nI zs) 0 xa1 (nI T) (nI pp1) xi xt xn (nI ns) (nI vv) (nI bb1)))] : va_W) ++ (sT L1 F1)) H := hP
                        replace hD : va_D A (([(ee, .inr (15, [.int 5, .int tx, .int 0, .int nm0, .int 0, .int 0, .long 0, .int 0, .null, .ref la, .ref sa, .int (nI n), .null, .null])), (la, .inl (kE, cp, .inr (.inr (.inr (.inr f))))), (sa, .inl (kI, cp, .inl g)), (mr 5, .inl (kI, 3002, .inl fk)), (mr 6, .inl (kI, 3002, .inl fa)), (mr 8, .inl (kL, 3002, .inr (.inl fn))), (m9, .inr (23, mA mr mv vf xl (nI zs) 0 xa1 (nI T) (nI pp1) xi xt xn (nI ns) (nI vv) (nI bb1)))] : va_W) ++ (sT L1 F1)) := hD
                        refine lv_aload_n hx hb dX23_newFields_121 rfl (lv_at hl 1 rfl) ?_
                        refine lv_bipush (v := 64) hx hb dX23_newFields_122 (by decide) ?_
                        by_cases hk_37 : fk pp1 = 64
                        · replace hPc := hP.subF (f' := [(m9, .inr (23, mA mr mv vf xl (nI zs) 0 xa1 (nI T) (nI pp1) xi xt xn (nI ns) (nI vv) (nI bb1))), (mr 5, .inl (kI, 3002, .inl fk)), (mr 6, .inl (kI, 3002, .inl fa))]) [6, 3, 4] rfl
                          replace hDc := hD.subF (f' := [(m9, .inr (23, mA mr mv vf xl (nI zs) 0 xa1 (nI T) (nI pp1) xi xt xn (nI ns) (nI vv) (nI bb1))), (mr 5, .inl (kI, 3002, .inl fk)), (mr 6, .inl (kI, 3002, .inl fa))]) [6, 3, 4] (by decide) rfl
                          replace hKc := hK.sub (tys' := [(kI, .int)]) [0] rfl
                          replace hFc := va_freeT (wc := [(m9, .inr (23, mA mr mv vf xl (nI zs) 0 xa1 (nI T) (nI pp1) xi xt xn (nI ns) (nI vv) (nI bb1))), (mr 5, .inl (kI, 3002, .inl fk)), (mr 6, .inl (kI, 3002, .inl fa))]) hD hS hA [6, 3, 4] rfl
                          refine va_callv (va_runV (As := [.int 64]) (rest := []) ⟨hx, hb, hml, hown, hts⟩ (c_rtkY l dC dI m9 mr mv vf xl xa1 xi xt xn zs T pp1 ns vv bb1 kI fk fa 64 H.size hT hr0.2.2.1 hk0 (by decide) hk_37) (cwV 1 hts g_c_xnf_c_rtkY_124 rfl rfl rfl (by decide +kernel) ⟨by show 1 + 1 ≤ 3 + 12 * k; omega, by show 8 + (2 + 11) + (21) ≤ 63 + 279 * k; omega⟩) ⟨fun a U g mk q => by obtain ⟨q0, q1, qP, qK, qD⟩ := q; exact ⟨q0, q1, qP, va_K.moved (u := U) (U := U.calling g mk a) (Vm.Alike.refl U.vm) qK, qD⟩, va_recv hKc hPc (ci := 23) (q0 := 0) rfl rfl, fun U hU hW => ⟨rfl, by rw [hU], by rw [hU]; exact hPc, va_K.moved hW.alike hKc, hDc.weaken (fun _ _ _ _ => trivial)⟩⟩ rfl rfl hl.1 rfl (lv_room (Nat.le_of_ble_eq_true rfl)) dX23_newFields_124 ⟨(show (8 * (pp1 - pp) - 3 * n - 8 * cm) + 0 ≤ (8 * (T - pp) + 3) by omega), (show (120 * (pp1 - pp) + 4 * cp + 8 - 64 * n - 120 * cm) + 0 ≤ (120 * (T - pp) + 280) by omega)⟩) hS (fun q _ h => hFc q h) hFc (fun u tS H1 locs ht hvm hw hB hz1 hk1 hS => ?_)
                          obtain ⟨hP1, hK1, hD1⟩ := hB
                          rw [ht] at hP1
                          replace hK1 := va_K.moved hvm.symm hK1
                          obtain ⟨hPj, hDj⟩ := va_joinT (wr := [(ee, .inr (15, [.int 5, .int tx, .int 0, .int nm0, .int 0, .int 0, .long 0, .int 0, .null, .ref la, .ref sa, .int (nI n), .null, .null])), (la, .inl (kE, cp, .inr (.inr (.inr (.inr f))))), (sa, .inl (kI, cp, .inl g)), (mr 8, .inl (kL, 3002, .inr (.inl fn)))]) (w1 := [(m9, .inr (23, mA mr mv vf xl (nI zs) 0 xa1 (nI T) (nI (pp1 + 1)) xi xt xn (nI ns) (nI vv) (nI bb1))), (mr 5, .inl (kI, 3002, .inl fk)), (mr 6, .inl (kI, 3002, .inl fa))]) hP hD [6, 3, 4] [0, 1, 2, 5] rfl rfl (by decide) (by decide) hk1 hFc hP1 hD1
                          replace hP := hPj
                          replace hD := hDj
                          clear hPj hDj
                          replace hK := hK.app hK1
                          generalize H1 = H at hP hS ⊢
                          replace hP : va_P (dC, dI) vwCl (([(ee, .inr (15, [.int 5, .int tx, .int 0, .int nm0, .int 0, .int 0, .long 0, .int 0, .null, .ref la, .ref sa, .int (nI n), .null, .null])), (la, .inl (kE, cp, .inr (.inr (.inr (.inr f))))), (sa, .inl (kI, cp, .inl g)), (mr 8, .inl (kL, 3002, .inr (.inl fn))), (m9, .inr (23, mA mr mv vf xl (nI zs) 0 xa1 (nI T) (nI (pp1 + 1)) xi xt xn (nI ns) (nI vv) (nI bb1))), (mr 5, .inl (kI, 3002, .inl fk)), (mr 6, .inl (kI, 3002, .inl fa))] : va_W) ++ (sT L1 F1)) H := hP
                          replace hD : va_D A (([(ee, .inr (15, [.int 5, .int tx, .int 0, .int nm0, .int 0, .int 0, .long 0, .int 0, .null, .ref la, .ref sa, .int (nI n), .null, .null])), (la, .inl (kE, cp, .inr (.inr (.inr (.inr f))))), (sa, .inl (kI, cp, .inl g)), (mr 8, .inl (kL, 3002, .inr (.inl fn))), (m9, .inr (23, mA mr mv vf xl (nI zs) 0 xa1 (nI T) (nI (pp1 + 1)) xi xt xn (nI ns) (nI vv) (nI bb1))), (mr 5, .inl (kI, 3002, .inl fk)), (mr 6, .inl (kI, 3002, .inl fa))] : va_W) ++ (sT L1 F1)) := hD
                          replace hK : va_K (dC, dI) vwCl [(kI, .int), (kL, .long), (kE, .object RX15), (kI, .int)] s := hK
                          replace hK := hK.sub (tys' := [(kI, .int), (kL, .long), (kE, .object RX15)]) [0, 1, 2] rfl
                          clear hz1 hk1 hPc hDc hKc hFc hP1 hD1 hK1
                          have hp_39 : pp1 + 1 < T := kne3 hk0 hr0.2.2.1 hk_37 (by decide)
                          replace hP : va_P (dC, dI) vwCl ((([(ee, .inr (15, [.int 5, .int tx, .int 0, .int nm0, .int 0, .int 0, .long 0, .int 0, .null, .ref la, .ref sa, .int (nI n), .null, .null])), (mr 8, .inl (kL, 3002, .inr (.inl fn))), (m9, .inr (23, mA mr mv vf xl (nI zs) 0 xa1 (nI T) (nI (pp1 + 1)) xi xt xn (nI ns) (nI vv) (nI bb1))), (mr 5, .inl (kI, 3002, .inl fk)), (mr 6, .inl (kI, 3002, .inl fa))] : va_W) ++ ([(la, .inl (kE, cp, .inr (.inr (.inr (.inr f))))), (sa, .inl (kI, cp, .inl g))] : va_W)) ++ sT L1 F1) H := hP.subT (f' := [(ee, .inr (15, [.int 5, .int tx, .int 0, .int nm0, .int 0, .int 0, .long 0, .int 0, .null, .ref la, .ref sa, .int (nI n), .null, .null])), (mr 8, .inl (kL, 3002, .inr (.inl fn))), (m9, .inr (23, mA mr mv vf xl (nI zs) 0 xa1 (nI T) (nI (pp1 + 1)) xi xt xn (nI ns) (nI vv) (nI bb1))), (mr 5, .inl (kI, 3002, .inl fk)), (mr 6, .inl (kI, 3002, .inl fa)), (la, .inl (kE, cp, .inr (.inr (.inr (.inr f))))), (sa, .inl (kI, cp, .inl g))]) [0, 3, 4, 5, 6, 1, 2] rfl
                          replace hD : va_D A ((([(ee, .inr (15, [.int 5, .int tx, .int 0, .int nm0, .int 0, .int 0, .long 0, .int 0, .null, .ref la, .ref sa, .int (nI n), .null, .null])), (mr 8, .inl (kL, 3002, .inr (.inl fn))), (m9, .inr (23, mA mr mv vf xl (nI zs) 0 xa1 (nI T) (nI (pp1 + 1)) xi xt xn (nI ns) (nI vv) (nI bb1))), (mr 5, .inl (kI, 3002, .inl fk)), (mr 6, .inl (kI, 3002, .inl fa))] : va_W) ++ ([(la, .inl (kE, cp, .inr (.inr (.inr (.inr f))))), (sa, .inl (kI, cp, .inl g))] : va_W)) ++ sT L1 F1) := hD.subT (f' := [(ee, .inr (15, [.int 5, .int tx, .int 0, .int nm0, .int 0, .int 0, .long 0, .int 0, .null, .ref la, .ref sa, .int (nI n), .null, .null])), (mr 8, .inl (kL, 3002, .inr (.inl fn))), (m9, .inr (23, mA mr mv vf xl (nI zs) 0 xa1 (nI T) (nI (pp1 + 1)) xi xt xn (nI ns) (nI vv) (nI bb1))), (mr 5, .inl (kI, 3002, .inl fk)), (mr 6, .inl (kI, 3002, .inl fa)), (la, .inl (kE, cp, .inr (.inr (.inr (.inr f))))), (sa, .inl (kI, cp, .inl g))]) [0, 3, 4, 5, 6, 1, 2] (by decide) rfl
                          obtain ⟨L9, F9, hx9, hm9, hP, hD⟩ := st_fileL [(la, .inl (kE, cp, .inr (.inr (.inr (.inr f))))), (sa, .inl (kI, cp, .inl g))] hP hD
                          have hm9_0 := hm9 _ (List.mem_of_getElem? (i := 0) rfl)
                          have hm9_1 := hm9 _ (List.mem_of_getElem? (i := 1) rfl)
                          refine W.grow (fun hgs0 hgs1 => ?_)
                          have hP9 := hP.subT (f' := [(ee, .inr (15, [.int 5, .int tx, .int 0, .int nm0, .int 0, .int 0, .long 0, .int 0, .null, (.ref la), (.ref sa), .int (nI n), .null, .null])), (m9, .inr (23, mA mr mv vf xl (nI zs) 0 xa1 (nI T) (nI (pp1 + 1)) xi xt xn (nI ns) (nI vv) (nI bb1))), (mr 5, .inl (kI, 3002, .inl fk)), (mr 6, .inl (kI, 3002, .inl fa)), (mr 8, .inl (kL, 3002, .inr (.inl fn)))]) [0, 2, 3, 4, 1] rfl
                          have hD9 := hD.subT (f' := [(ee, .inr (15, [.int 5, .int tx, .int 0, .int nm0, .int 0, .int 0, .long 0, .int 0, .null, (.ref la), (.ref sa), .int (nI n), .null, .null])), (m9, .inr (23, mA mr mv vf xl (nI zs) 0 xa1 (nI T) (nI (pp1 + 1)) xi xt xn (nI ns) (nI vv) (nI bb1))), (mr 5, .inl (kI, 3002, .inl fk)), (mr 6, .inl (kI, 3002, .inl fa)), (mr 8, .inl (kL, 3002, .inr (.inl fn)))]) [0, 2, 3, 4, 1] (by decide) rfl
                          have hK9 := hK.sub (tys' := [(kI, .int), (kL, .long), (kE, .object RX15)]) [0, 1, 2] rfl
                          refine W.widen (k := (8 * (T - pp) + 3)) (n := (120 * (T - pp) + 280)) (by omega) (by omega) ?_
                          subst hQ1
                          exact W.vret hx hb hr (fun tS ht hW => ⟨⟨(), rfl, trivial, L9, F9, 0, xa1, pp1 + 1, bb1, nm0, .ref la, .ref sa, n, (hr2).tr hx9, ⟨by omega, by omega, by omega, by omega⟩, (fun _ => ⟨hr9.1, by omega, enm0, by omega, Or.inr ⟨la, sa, cp, q0, f, g, rfl, rfl, hm9_0.1, hm9_1.1, hm9_0.2, hm9_1.2, by omega, by omega, chP_im (fun x p q b c z => isE_im hx9 _ (Nat.le_refl _) z) hr5⟩⟩), by rw [ht]; exact ⟨by omega, by omega⟩, by rw [ht]; exact hP9, va_K.moved hW.alike hK9, hD9⟩, hS.F ht⟩) hS.2.2 dX23_newFields_127
                        · replace hPc := hP.subF (f' := [(m9, .inr (23, mA mr mv vf xl (nI zs) 0 xa1 (nI T) (nI pp1) xi xt xn (nI ns) (nI vv) (nI bb1))), (mr 5, .inl (kI, 3002, .inl fk)), (mr 6, .inl (kI, 3002, .inl fa))]) [6, 3, 4] rfl
                          replace hDc := hD.subF (f' := [(m9, .inr (23, mA mr mv vf xl (nI zs) 0 xa1 (nI T) (nI pp1) xi xt xn (nI ns) (nI vv) (nI bb1))), (mr 5, .inl (kI, 3002, .inl fk)), (mr 6, .inl (kI, 3002, .inl fa))]) [6, 3, 4] (by decide) rfl
                          replace hKc := hK.sub (tys' := [(kI, .int)]) [0] rfl
                          replace hFc := va_freeT (wc := [(m9, .inr (23, mA mr mv vf xl (nI zs) 0 xa1 (nI T) (nI pp1) xi xt xn (nI ns) (nI vv) (nI bb1))), (mr 5, .inl (kI, 3002, .inl fk)), (mr 6, .inl (kI, 3002, .inl fa))]) hD hS hA [6, 3, 4] rfl
                          refine va_callv (va_runV (As := [.int 64]) (rest := []) ⟨hx, hb, hml, hown, hts⟩ (c_rtkN l dC dI m9 mr mv vf xl xa1 xi xt xn zs T pp1 ns vv bb1 kI fk fa 64 H.size hT hr0.2.2.1 hk0 (by decide) hk_37) (cwV 1 hts g_c_xnf_c_rtkN_124 rfl rfl rfl (by decide +kernel) ⟨by show 1 + 1 ≤ 3 + 12 * k; omega, by show 8 + (2 + 11) + (22) ≤ 63 + 279 * k; omega⟩) ⟨fun a U g mk q => by obtain ⟨q0, q1, qP, qK, qD⟩ := q; exact ⟨q0, q1, qP, va_K.moved (u := U) (U := U.calling g mk a) (Vm.Alike.refl U.vm) qK, qD⟩, va_recv hKc hPc (ci := 23) (q0 := 0) rfl rfl, fun U hU hW => ⟨rfl, by rw [hU], by rw [hU]; exact hPc, va_K.moved hW.alike hKc, hDc.weaken (fun _ _ _ _ => trivial)⟩⟩ rfl rfl hl.1 rfl (lv_room (Nat.le_of_ble_eq_true rfl)) dX23_newFields_124 ⟨(show (8 * (pp1 - pp) - 3 * n - 8 * cm) + 0 ≤ (8 * (T - pp) + 3) by omega), (show (120 * (pp1 - pp) + 4 * cp + 8 - 64 * n - 120 * cm) + 0 ≤ (120 * (T - pp) + 280) by omega)⟩) hS (fun q _ h => hFc q h) hFc (fun u tS H1 locs ht hvm hw hB hz1 hk1 hS => ?_)
                          obtain ⟨ff_38, xa_39, hf40_0, hP1, hK1, hD1⟩ := hB
                          rw [ht] at hP1
                          replace hK1 := va_K.moved hvm.symm hK1
                          obtain ⟨hPj, hDj⟩ := va_joinT (wr := [(ee, .inr (15, [.int 5, .int tx, .int 0, .int nm0, .int 0, .int 0, .long 0, .int 0, .null, .ref la, .ref sa, .int (nI n), .null, .null])), (la, .inl (kE, cp, .inr (.inr (.inr (.inr f))))), (sa, .inl (kI, cp, .inl g)), (mr 8, .inl (kL, 3002, .inr (.inl fn)))]) (w1 := [(m9, .inr (23, mA mr mv vf xl (nI zs) ff_38 xa_39 (nI T) (nI pp1) xi xt xn (nI ns) (nI vv) (nI bb1))), (mr 5, .inl (kI, 3002, .inl fk)), (mr 6, .inl (kI, 3002, .inl fa))]) hP hD [6, 3, 4] [0, 1, 2, 5] rfl rfl (by decide) (by decide) hk1 hFc hP1 hD1
                          replace hP := hPj
                          replace hD := hDj
                          clear hPj hDj
                          replace hK := hK.app hK1
                          generalize H1 = H at hP hS ⊢
                          replace hP : va_P (dC, dI) vwCl (([(ee, .inr (15, [.int 5, .int tx, .int 0, .int nm0, .int 0, .int 0, .long 0, .int 0, .null, .ref la, .ref sa, .int (nI n), .null, .null])), (la, .inl (kE, cp, .inr (.inr (.inr (.inr f))))), (sa, .inl (kI, cp, .inl g)), (mr 8, .inl (kL, 3002, .inr (.inl fn))), (m9, .inr (23, mA mr mv vf xl (nI zs) ff_38 xa_39 (nI T) (nI pp1) xi xt xn (nI ns) (nI vv) (nI bb1))), (mr 5, .inl (kI, 3002, .inl fk)), (mr 6, .inl (kI, 3002, .inl fa))] : va_W) ++ (sT L1 F1)) H := hP
                          replace hD : va_D A (([(ee, .inr (15, [.int 5, .int tx, .int 0, .int nm0, .int 0, .int 0, .long 0, .int 0, .null, .ref la, .ref sa, .int (nI n), .null, .null])), (la, .inl (kE, cp, .inr (.inr (.inr (.inr f))))), (sa, .inl (kI, cp, .inl g)), (mr 8, .inl (kL, 3002, .inr (.inl fn))), (m9, .inr (23, mA mr mv vf xl (nI zs) ff_38 xa_39 (nI T) (nI pp1) xi xt xn (nI ns) (nI vv) (nI bb1))), (mr 5, .inl (kI, 3002, .inl fk)), (mr 6, .inl (kI, 3002, .inl fa))] : va_W) ++ (sT L1 F1)) := hD
                          replace hK : va_K (dC, dI) vwCl [(kI, .int), (kL, .long), (kE, .object RX15), (kI, .int)] s := hK
                          replace hK := hK.sub (tys' := [(kI, .int), (kL, .long), (kE, .object RX15)]) [0, 1, 2] rfl
                          clear hz1 hk1 hPc hDc hKc hFc hP1 hD1 hK1
                          replace hP : va_P (dC, dI) vwCl ((([(ee, .inr (15, [.int 5, .int tx, .int 0, .int nm0, .int 0, .int 0, .long 0, .int 0, .null, .ref la, .ref sa, .int (nI n), .null, .null])), (mr 8, .inl (kL, 3002, .inr (.inl fn))), (m9, .inr (23, mA mr mv vf xl (nI zs) ff_38 xa_39 (nI T) (nI pp1) xi xt xn (nI ns) (nI vv) (nI bb1))), (mr 5, .inl (kI, 3002, .inl fk)), (mr 6, .inl (kI, 3002, .inl fa))] : va_W) ++ ([(la, .inl (kE, cp, .inr (.inr (.inr (.inr f))))), (sa, .inl (kI, cp, .inl g))] : va_W)) ++ sT L1 F1) H := hP.subT (f' := [(ee, .inr (15, [.int 5, .int tx, .int 0, .int nm0, .int 0, .int 0, .long 0, .int 0, .null, .ref la, .ref sa, .int (nI n), .null, .null])), (mr 8, .inl (kL, 3002, .inr (.inl fn))), (m9, .inr (23, mA mr mv vf xl (nI zs) ff_38 xa_39 (nI T) (nI pp1) xi xt xn (nI ns) (nI vv) (nI bb1))), (mr 5, .inl (kI, 3002, .inl fk)), (mr 6, .inl (kI, 3002, .inl fa)), (la, .inl (kE, cp, .inr (.inr (.inr (.inr f))))), (sa, .inl (kI, cp, .inl g))]) [0, 3, 4, 5, 6, 1, 2] rfl
                          replace hD : va_D A ((([(ee, .inr (15, [.int 5, .int tx, .int 0, .int nm0, .int 0, .int 0, .long 0, .int 0, .null, .ref la, .ref sa, .int (nI n), .null, .null])), (mr 8, .inl (kL, 3002, .inr (.inl fn))), (m9, .inr (23, mA mr mv vf xl (nI zs) ff_38 xa_39 (nI T) (nI pp1) xi xt xn (nI ns) (nI vv) (nI bb1))), (mr 5, .inl (kI, 3002, .inl fk)), (mr 6, .inl (kI, 3002, .inl fa))] : va_W) ++ ([(la, .inl (kE, cp, .inr (.inr (.inr (.inr f))))), (sa, .inl (kI, cp, .inl g))] : va_W)) ++ sT L1 F1) := hD.subT (f' := [(ee, .inr (15, [.int 5, .int tx, .int 0, .int nm0, .int 0, .int 0, .long 0, .int 0, .null, .ref la, .ref sa, .int (nI n), .null, .null])), (mr 8, .inl (kL, 3002, .inr (.inl fn))), (m9, .inr (23, mA mr mv vf xl (nI zs) ff_38 xa_39 (nI T) (nI pp1) xi xt xn (nI ns) (nI vv) (nI bb1))), (mr 5, .inl (kI, 3002, .inl fk)), (mr 6, .inl (kI, 3002, .inl fa)), (la, .inl (kE, cp, .inr (.inr (.inr (.inr f))))), (sa, .inl (kI, cp, .inl g))]) [0, 3, 4, 5, 6, 1, 2] (by decide) rfl
                          obtain ⟨L9, F9, hx9, hm9, hP, hD⟩ := st_fileL [(la, .inl (kE, cp, .inr (.inr (.inr (.inr f))))), (sa, .inl (kI, cp, .inl g))] hP hD
                          have hm9_0 := hm9 _ (List.mem_of_getElem? (i := 0) rfl)
                          have hm9_1 := hm9 _ (List.mem_of_getElem? (i := 1) rfl)
                          refine W.grow (fun hgs0 hgs1 => ?_)
                          have hP9 := hP.subT (f' := [(ee, .inr (15, [.int 5, .int tx, .int 0, .int nm0, .int 0, .int 0, .long 0, .int 0, .null, (.ref la), (.ref sa), .int (nI n), .null, .null])), (m9, .inr (23, mA mr mv vf xl (nI zs) ff_38 xa_39 (nI T) (nI pp1) xi xt xn (nI ns) (nI vv) (nI bb1))), (mr 5, .inl (kI, 3002, .inl fk)), (mr 6, .inl (kI, 3002, .inl fa)), (mr 8, .inl (kL, 3002, .inr (.inl fn)))]) [0, 2, 3, 4, 1] rfl
                          have hD9 := hD.subT (f' := [(ee, .inr (15, [.int 5, .int tx, .int 0, .int nm0, .int 0, .int 0, .long 0, .int 0, .null, (.ref la), (.ref sa), .int (nI n), .null, .null])), (m9, .inr (23, mA mr mv vf xl (nI zs) ff_38 xa_39 (nI T) (nI pp1) xi xt xn (nI ns) (nI vv) (nI bb1))), (mr 5, .inl (kI, 3002, .inl fk)), (mr 6, .inl (kI, 3002, .inl fa)), (mr 8, .inl (kL, 3002, .inr (.inl fn)))]) [0, 2, 3, 4, 1] (by decide) rfl
                          have hK9 := hK.sub (tys' := [(kI, .int), (kL, .long), (kE, .object RX15)]) [0, 1, 2] rfl
                          refine W.widen (k := (8 * (T - pp) + 3)) (n := (120 * (T - pp) + 280)) (by omega) (by omega) ?_
                          subst hQ1
                          exact W.vret hx hb hr (fun tS ht hW => ⟨⟨(), rfl, trivial, L9, F9, ff_38, xa_39, pp1, bb1, nm0, .ref la, .ref sa, n, (hr2).tr hx9, ⟨by omega, by omega, by omega, by omega⟩, (fun q9 => absurd q9 hf40_0), by rw [ht]; exact ⟨by omega, by omega⟩, by rw [ht]; exact hP9, va_K.moved hW.alike hK9, hD9⟩, hS.F ht⟩) hS.2.2 dX23_newFields_127
                      · obtain ⟨q0, hr5, hr6⟩ := hr9.2
                        have hcm : cm = 1 := (hr6.resolve_left (fun z => hm_35 z.1)).2.1
                        replace hr6 : q0 < pp1 := (hr6.resolve_left (fun z => hm_35 z.1)).2.2
                        replace hr1 := hr1.resolve_left (fun q => q rfl)
                        refine lv_aload_n hx hb dX23_newFields_74 rfl (lv_at hl 1 rfl) ?_
                        by_cases hk_36 : fk pp1 = 2
                        · replace hPc := hP.subF (f' := [(m9, .inr (23, mA mr mv vf xl (nI zs) 0 xa1 (nI T) (nI pp1) xi xt xn (nI (ns + 1)) (nI vv) (nI bb1))), (mr 5, .inl (kI, 3002, .inl fk)), (mr 6, .inl (kI, 3002, .inl fa))]) [6, 3, 4] rfl
                          replace hDc := hD.subF (f' := [(m9, .inr (23, mA mr mv vf xl (nI zs) 0 xa1 (nI T) (nI pp1) xi xt xn (nI (ns + 1)) (nI vv) (nI bb1))), (mr 5, .inl (kI, 3002, .inl fk)), (mr 6, .inl (kI, 3002, .inl fa))]) [6, 3, 4] (by decide) rfl
                          replace hKc := hK.sub (tys' := [(kI, .int)]) [0] rfl
                          replace hFc := va_freeT (wc := [(m9, .inr (23, mA mr mv vf xl (nI zs) 0 xa1 (nI T) (nI pp1) xi xt xn (nI (ns + 1)) (nI vv) (nI bb1))), (mr 5, .inl (kI, 3002, .inl fk)), (mr 6, .inl (kI, 3002, .inl fa))]) hD hS hA [6, 3, 4] rfl
                          refine va_calli (va_runV (As := []) (rest := []) ⟨hx, hb, hml, hown, hts⟩ (c_rnmY l dC dI m9 mr mv vf xl xa1 xi xt xn zs T pp1 (ns + 1) vv bb1 kI fk fa H.size hT hr0.2.2.1 hk0 hk_36) (cwV 0 hts g_c_xnf_c_rnmY_75 rfl rfl rfl (by decide +kernel) ⟨by show 2 + 1 ≤ 3 + 12 * k; omega, by show 8 + (1 + 11) + (42) ≤ 63 + 279 * k; omega⟩) ⟨fun a U g mk q => by obtain ⟨q0, q1, qP, qK, qD⟩ := q; exact ⟨q0, q1, qP, va_K.moved (u := U) (U := U.calling g mk a) (Vm.Alike.refl U.vm) qK, qD⟩, va_recv hKc hPc (ci := 23) (q0 := 0) rfl rfl, fun U hU hW => ⟨rfl, by rw [hU], by rw [hU]; exact hPc, va_K.moved hW.alike hKc, hDc.weaken (fun _ _ _ _ => trivial)⟩⟩ rfl rfl hl.1 rfl (lv_room (Nat.le_of_ble_eq_true rfl)) dX23_newFields_75 ⟨(show (8 * (pp1 - pp) - 3 * n - 8 * cm) + 0 ≤ (8 * (T - pp) + 3) by omega), (show (120 * (pp1 - pp) + 4 * cp + 8 - 64 * n - 120 * cm) + 0 ≤ (120 * (T - pp) + 280) by omega)⟩) hS (fun q _ h => hFc q h) hFc (fun r_37 u tS H1 locs ht hvm hw hB hz1 hk1 hS => ?_)
                          obtain ⟨hP1, hK1, hD1⟩ := hB
                          rw [ht] at hP1
                          replace hK1 := va_K.moved hvm.symm hK1
                          obtain ⟨hPj, hDj⟩ := va_joinT (wr := [(ee, .inr (15, [.int 5, .int tx, .int 0, .int nm0, .int 0, .int 0, .long 0, .int 0, .null, .ref la, .ref sa, .int (nI n), .null, .null])), (la, .inl (kE, cp, .inr (.inr (.inr (.inr f))))), (sa, .inl (kI, cp, .inl g)), (mr 8, .inl (kL, 3002, .inr (.inl fn)))]) (w1 := [(m9, .inr (23, mA mr mv vf xl (nI zs) 0 xa1 (nI T) (nI (pp1 + 1)) xi xt xn (nI (ns + 1)) (nI vv) (nI bb1))), (mr 5, .inl (kI, 3002, .inl fk)), (mr 6, .inl (kI, 3002, .inl fa))]) hP hD [6, 3, 4] [0, 1, 2, 5] rfl rfl (by decide) (by decide) hk1 hFc hP1 hD1
                          replace hP := hPj
                          replace hD := hDj
                          clear hPj hDj
                          replace hK := hK.app hK1
                          generalize H1 = H at hP hS ⊢
                          replace hP : va_P (dC, dI) vwCl (([(ee, .inr (15, [.int 5, .int tx, .int 0, .int nm0, .int 0, .int 0, .long 0, .int 0, .null, .ref la, .ref sa, .int (nI n), .null, .null])), (la, .inl (kE, cp, .inr (.inr (.inr (.inr f))))), (sa, .inl (kI, cp, .inl g)), (mr 8, .inl (kL, 3002, .inr (.inl fn))), (m9, .inr (23, mA mr mv vf xl (nI zs) 0 xa1 (nI T) (nI (pp1 + 1)) xi xt xn (nI (ns + 1)) (nI vv) (nI bb1))), (mr 5, .inl (kI, 3002, .inl fk)), (mr 6, .inl (kI, 3002, .inl fa))] : va_W) ++ (sT L1 F1)) H := hP
                          replace hD : va_D A (([(ee, .inr (15, [.int 5, .int tx, .int 0, .int nm0, .int 0, .int 0, .long 0, .int 0, .null, .ref la, .ref sa, .int (nI n), .null, .null])), (la, .inl (kE, cp, .inr (.inr (.inr (.inr f))))), (sa, .inl (kI, cp, .inl g)), (mr 8, .inl (kL, 3002, .inr (.inl fn))), (m9, .inr (23, mA mr mv vf xl (nI zs) 0 xa1 (nI T) (nI (pp1 + 1)) xi xt xn (nI (ns + 1)) (nI vv) (nI bb1))), (mr 5, .inl (kI, 3002, .inl fk)), (mr 6, .inl (kI, 3002, .inl fa))] : va_W) ++ (sT L1 F1)) := hD
                          replace hK : va_K (dC, dI) vwCl [(kI, .int), (kL, .long), (kE, .object RX15), (kI, .int)] s := hK
                          replace hK := hK.sub (tys' := [(kI, .int), (kL, .long), (kE, .object RX15)]) [0, 1, 2] rfl
                          clear hz1 hk1 hPc hDc hKc hFc hP1 hD1 hK1
                          obtain rfl : r_37 = nI pp1 := hw
                          have hp_38 : pp1 + 1 < T := kne3 hk0 hr0.2.2.1 hk_36 (by decide)
                          refine lv_istore_n (lv' := [(3, .int (nI pp1)), (2, .int mo), (0, .ref m9), (1, .ref ee)]) hx hb dX23_newFields_78 rfl hl (by decide) rfl (fun ls hl => ?_)
                          refine lv_aload_n hx hb dX23_newFields_79 rfl (lv_at hl 2 rfl) ?_
                          refine lv_bipush (v := 58) hx hb dX23_newFields_80 (by decide) ?_
                          by_cases hk_39 : fk (pp1 + 1) = 58
                          · replace hPc := hP.subF (f' := [(m9, .inr (23, mA mr mv vf xl (nI zs) 0 xa1 (nI T) (nI (pp1 + 1)) xi xt xn (nI (ns + 1)) (nI vv) (nI bb1))), (mr 5, .inl (kI, 3002, .inl fk)), (mr 6, .inl (kI, 3002, .inl fa))]) [4, 5, 6] rfl
                            replace hDc := hD.subF (f' := [(m9, .inr (23, mA mr mv vf xl (nI zs) 0 xa1 (nI T) (nI (pp1 + 1)) xi xt xn (nI (ns + 1)) (nI vv) (nI bb1))), (mr 5, .inl (kI, 3002, .inl fk)), (mr 6, .inl (kI, 3002, .inl fa))]) [4, 5, 6] (by decide) rfl
                            replace hKc := hK.sub (tys' := [(kI, .int)]) [0] rfl
                            replace hFc := va_freeT (wc := [(m9, .inr (23, mA mr mv vf xl (nI zs) 0 xa1 (nI T) (nI (pp1 + 1)) xi xt xn (nI (ns + 1)) (nI vv) (nI bb1))), (mr 5, .inl (kI, 3002, .inl fk)), (mr 6, .inl (kI, 3002, .inl fa))]) hD hS hA [4, 5, 6] rfl
                            refine va_callv (va_runV (As := [.int 58]) (rest := []) ⟨hx, hb, hml, hown, hts⟩ (c_rtkY l dC dI m9 mr mv vf xl xa1 xi xt xn zs T (pp1 + 1) (ns + 1) vv bb1 kI fk fa 58 H.size hT hp_38 hk0 (by decide) hk_39) (cwV 1 hts g_c_xnf_c_rtkY_82 rfl rfl rfl (by decide +kernel) ⟨by show 1 + 1 ≤ 3 + 12 * k; omega, by show 8 + (2 + 11) + (21) ≤ 63 + 279 * k; omega⟩) ⟨fun a U g mk q => by obtain ⟨q0, q1, qP, qK, qD⟩ := q; exact ⟨q0, q1, qP, va_K.moved (u := U) (U := U.calling g mk a) (Vm.Alike.refl U.vm) qK, qD⟩, va_recv hKc hPc (ci := 23) (q0 := 0) rfl rfl, fun U hU hW => ⟨rfl, by rw [hU], by rw [hU]; exact hPc, va_K.moved hW.alike hKc, hDc.weaken (fun _ _ _ _ => trivial)⟩⟩ rfl rfl hl.1 rfl (lv_room (Nat.le_of_ble_eq_true rfl)) dX23_newFields_82 ⟨(show (8 * (pp1 - pp) - 3 * n - 8 * cm) + 0 ≤ (8 * (T - pp) + 3) by omega), (show (120 * (pp1 - pp) + 4 * cp + 8 - 64 * n - 120 * cm) + 0 ≤ (120 * (T - pp) + 280) by omega)⟩) hS (fun q _ h => hFc q h) hFc (fun u tS H1 locs ht hvm hw hB hz1 hk1 hS => ?_)
                            obtain ⟨hP1, hK1, hD1⟩ := hB
                            rw [ht] at hP1
                            replace hK1 := va_K.moved hvm.symm hK1
                            obtain ⟨hPj, hDj⟩ := va_joinT (wr := [(ee, .inr (15, [.int 5, .int tx, .int 0, .int nm0, .int 0, .int 0, .long 0, .int 0, .null, .ref la, .ref sa, .int (nI n), .null, .null])), (la, .inl (kE, cp, .inr (.inr (.inr (.inr f))))), (sa, .inl (kI, cp, .inl g)), (mr 8, .inl (kL, 3002, .inr (.inl fn)))]) (w1 := [(m9, .inr (23, mA mr mv vf xl (nI zs) 0 xa1 (nI T) (nI ((pp1 + 1) + 1)) xi xt xn (nI (ns + 1)) (nI vv) (nI bb1))), (mr 5, .inl (kI, 3002, .inl fk)), (mr 6, .inl (kI, 3002, .inl fa))]) hP hD [4, 5, 6] [0, 1, 2, 3] rfl rfl (by decide) (by decide) hk1 hFc hP1 hD1
                            replace hP := hPj
                            replace hD := hDj
                            clear hPj hDj
                            replace hK := hK.app hK1
                            generalize H1 = H at hP hS ⊢
                            replace hP : va_P (dC, dI) vwCl (([(ee, .inr (15, [.int 5, .int tx, .int 0, .int nm0, .int 0, .int 0, .long 0, .int 0, .null, .ref la, .ref sa, .int (nI n), .null, .null])), (la, .inl (kE, cp, .inr (.inr (.inr (.inr f))))), (sa, .inl (kI, cp, .inl g)), (mr 8, .inl (kL, 3002, .inr (.inl fn))), (m9, .inr (23, mA mr mv vf xl (nI zs) 0 xa1 (nI T) (nI ((pp1 + 1) + 1)) xi xt xn (nI (ns + 1)) (nI vv) (nI bb1))), (mr 5, .inl (kI, 3002, .inl fk)), (mr 6, .inl (kI, 3002, .inl fa))] : va_W) ++ (sT L1 F1)) H := hP
                            replace hD : va_D A (([(ee, .inr (15, [.int 5, .int tx, .int 0, .int nm0, .int 0, .int 0, .long 0, .int 0, .null, .ref la, .ref sa, .int (nI n), .null, .null])), (la, .inl (kE, cp, .inr (.inr (.inr (.inr f))))), (sa, .inl (kI, cp, .inl g)), (mr 8, .inl (kL, 3002, .inr (.inl fn))), (m9, .inr (23, mA mr mv vf xl (nI zs) 0 xa1 (nI T) (nI ((pp1 + 1) + 1)) xi xt xn (nI (ns + 1)) (nI vv) (nI bb1))), (mr 5, .inl (kI, 3002, .inl fk)), (mr 6, .inl (kI, 3002, .inl fa))] : va_W) ++ (sT L1 F1)) := hD
                            replace hK : va_K (dC, dI) vwCl [(kI, .int), (kL, .long), (kE, .object RX15), (kI, .int)] s := hK
                            replace hK := hK.sub (tys' := [(kI, .int), (kL, .long), (kE, .object RX15)]) [0, 1, 2] rfl
                            clear hz1 hk1 hPc hDc hKc hFc hP1 hD1 hK1
                            have hp_41 : pp1 + 1 + 1 < T := kne3 hk0 hp_38 hk_39 (by decide)
                            refine lv_aload_n hx hb dX23_newFields_85 rfl (lv_at hl 2 rfl) ?_
                            replace hPc := hP.subF (f' := [(m9, .inr (23, mA mr mv vf xl (nI zs) 0 xa1 (nI T) (nI (pp1 + 1 + 1)) xi xt xn (nI (ns + 1)) (nI vv) (nI bb1)))]) [4] rfl
                            replace hDc := hD.subF (f' := [(m9, .inr (23, mA mr mv vf xl (nI zs) 0 xa1 (nI T) (nI (pp1 + 1 + 1)) xi xt xn (nI (ns + 1)) (nI vv) (nI bb1)))]) [4] (by decide) rfl
                            replace hKc := hK.sub (tys' := []) [] rfl
                            replace hFc := va_freeT (wc := [(m9, .inr (23, mA mr mv vf xl (nI zs) 0 xa1 (nI T) (nI (pp1 + 1 + 1)) xi xt xn (nI (ns + 1)) (nI vv) (nI bb1)))]) hD hS hA [4] rfl
                            refine va_calli (va_runV (As := []) (rest := []) ⟨hx, hb, hml, hown, hts⟩ (c_rok0 l dC dI m9 mr mv vf xl xa1 xi xt xn zs T (pp1 + 1 + 1) (ns + 1) vv bb1 kI fk fa H.size) (cwV 0 hts g_c_xnf_c_rok0_86 rfl rfl rfl (by decide +kernel) ⟨by show 0 + 1 ≤ 3 + 12 * k; omega, by show 8 + (1 + 11) + (0) ≤ 63 + 279 * k; omega⟩) ⟨fun a U g mk q => by obtain ⟨q0, q1, qP, qK, qD⟩ := q; exact ⟨q0, q1, qP, va_K.moved (u := U) (U := U.calling g mk a) (Vm.Alike.refl U.vm) qK, qD⟩, va_recv hKc hPc (ci := 23) (q0 := 0) rfl rfl, fun U hU hW => ⟨rfl, by rw [hU], by rw [hU]; exact hPc, va_K.moved hW.alike hKc, hDc.weaken (fun _ _ _ _ => trivial)⟩⟩ rfl rfl hl.1 rfl (lv_room (Nat.le_of_ble_eq_true rfl)) dX23_newFields_86 ⟨(show (8 * (pp1 - pp) - 3 * n - 8 * cm) + 0 ≤ (8 * (T - pp) + 3) by omega), (show (120 * (pp1 - pp) + 4 * cp + 8 - 64 * n - 120 * cm) + 0 ≤ (120 * (T - pp) + 280) by omega)⟩) hS (fun q _ h => hFc q h) hFc (fun r_42 u tS H1 locs ht hvm hw hB hz1 hk1 hS => ?_)
                            obtain ⟨hP1, hK1, hD1⟩ := hB
                            rw [ht] at hP1
                            replace hK1 := va_K.moved hvm.symm hK1
                            obtain ⟨hPj, hDj⟩ := va_joinT (wr := [(ee, .inr (15, [.int 5, .int tx, .int 0, .int nm0, .int 0, .int 0, .long 0, .int 0, .null, .ref la, .ref sa, .int (nI n), .null, .null])), (la, .inl (kE, cp, .inr (.inr (.inr (.inr f))))), (sa, .inl (kI, cp, .inl g)), (mr 8, .inl (kL, 3002, .inr (.inl fn))), (mr 5, .inl (kI, 3002, .inl fk)), (mr 6, .inl (kI, 3002, .inl fa))]) (w1 := [(m9, .inr (23, mA mr mv vf xl (nI zs) 0 xa1 (nI T) (nI (pp1 + 1 + 1)) xi xt xn (nI (ns + 1)) (nI vv) (nI bb1)))]) hP hD [4] [0, 1, 2, 3, 5, 6] rfl rfl (by decide) (by decide) hk1 hFc hP1 hD1
                            replace hP := hPj
                            replace hD := hDj
                            clear hPj hDj
                            generalize H1 = H at hP hS ⊢
                            replace hP : va_P (dC, dI) vwCl (([(ee, .inr (15, [.int 5, .int tx, .int 0, .int nm0, .int 0, .int 0, .long 0, .int 0, .null, .ref la, .ref sa, .int (nI n), .null, .null])), (la, .inl (kE, cp, .inr (.inr (.inr (.inr f))))), (sa, .inl (kI, cp, .inl g)), (mr 8, .inl (kL, 3002, .inr (.inl fn))), (mr 5, .inl (kI, 3002, .inl fk)), (mr 6, .inl (kI, 3002, .inl fa)), (m9, .inr (23, mA mr mv vf xl (nI zs) 0 xa1 (nI T) (nI (pp1 + 1 + 1)) xi xt xn (nI (ns + 1)) (nI vv) (nI bb1)))] : va_W) ++ (sT L1 F1)) H := hP
                            replace hD : va_D A (([(ee, .inr (15, [.int 5, .int tx, .int 0, .int nm0, .int 0, .int 0, .long 0, .int 0, .null, .ref la, .ref sa, .int (nI n), .null, .null])), (la, .inl (kE, cp, .inr (.inr (.inr (.inr f))))), (sa, .inl (kI, cp, .inl g)), (mr 8, .inl (kL, 3002, .inr (.inl fn))), (mr 5, .inl (kI, 3002, .inl fk)), (mr 6, .inl (kI, 3002, .inl fa)), (m9, .inr (23, mA mr mv vf xl (nI zs) 0 xa1 (nI T) (nI (pp1 + 1 + 1)) xi xt xn (nI (ns + 1)) (nI vv) (nI bb1)))] : va_W) ++ (sT L1 F1)) := hD
                            replace hK : va_K (dC, dI) vwCl [(kI, .int), (kL, .long), (kE, .object RX15)] s := hK
                            clear hz1 hk1 hPc hDc hKc hFc hP1 hD1 hK1
                            obtain rfl : r_42 = 1 := hw
                            refine lv_if_eq (tgt := 101) hx hb dX23_newFields_89 (by decide) (fun c_43 => absurd c_43 (by decide)) (fun _ => ?_)
                            refine lv_aload_n hx hb dX23_newFields_92 rfl (lv_at hl 3 rfl) ?_
                            refine lv_aload_n hx hb dX23_newFields_93 rfl (lv_at hl 2 rfl) ?_
                            obtain ⟨k1, hkL⟩ : ∃ k1 : Nat, k = k1 + 1 := ⟨k - 1, by omega⟩
                            replace hPc := hP.subT (f' := [(m9, .inr (23, mA mr mv vf xl (nI zs) 0 xa1 (nI T) (nI (pp1 + 1 + 1)) xi xt xn (nI (ns + 1)) (nI vv) (nI bb1))), (mr 5, .inl (kI, 3002, .inl fk)), (mr 6, .inl (kI, 3002, .inl fa)), (mr 8, .inl (kL, 3002, .inr (.inl fn)))]) [6, 4, 5, 3] rfl
                            replace hDc := hD.subT (f' := [(m9, .inr (23, mA mr mv vf xl (nI zs) 0 xa1 (nI T) (nI (pp1 + 1 + 1)) xi xt xn (nI (ns + 1)) (nI vv) (nI bb1))), (mr 5, .inl (kI, 3002, .inl fk)), (mr 6, .inl (kI, 3002, .inl fa)), (mr 8, .inl (kL, 3002, .inr (.inl fn)))]) [6, 4, 5, 3] (by decide) rfl
                            replace hKc := hK.sub (tys' := [(kI, .int), (kL, .long), (kE, .object RX15)]) [0, 1, 2] rfl
                            replace hFc := va_freeB (wc := [(m9, .inr (23, mA mr mv vf xl (nI zs) 0 xa1 (nI T) (nI (pp1 + 1 + 1)) xi xt xn (nI (ns + 1)) (nI vv) (nI bb1))), (mr 5, .inl (kI, 3002, .inl fk)), (mr 6, .inl (kI, 3002, .inl fa)), (mr 8, .inl (kL, 3002, .inr (.inl fn)))]) hD hS hA [6, 4, 5, 3] rfl
                            refine W.grow (fun hgs0 hgs1 => ?_)
                            refine va_callr (va_runV (As := []) (rest := [.ref ee]) ⟨hx, hb, hml, hown, hts⟩ ((ih k1 hkL).2.2.2.2.2.2 m9 mr mv vf xl xa1 xi xt xn zs T (pp1 + 1 + 1) (ns + 1) vv bb1 kI fk fa kL kE fn L1 F1 (slN H) H.size hT hp_41 hk0 hr9.1 (by omega)) (cwV 0 hts g_c_xnf_c_xex_94 rfl rfl rfl (by decide +kernel) ⟨by show 13 + 12 * k1 + 1 ≤ 3 + 12 * k; omega, by show 8 + (1 + 11) + (302 + 279 * k1) ≤ 63 + 279 * k; omega⟩) ⟨fun a U g mk q => by obtain ⟨q0, q1, qP, qK, qD, qx0, qx1⟩ := q; exact ⟨q0, q1, qP, va_K.moved (u := U) (U := U.calling g mk a) (Vm.Alike.refl U.vm) qK, qD, nsM.same (u := U) (U := U.calling g mk a) rfl qx0, qx1⟩, va_recv hKc hPc (ci := 23) (q0 := 0) rfl rfl, fun U hU hW => ⟨rfl, by rw [hU], by rw [hU]; exact hPc, va_K.moved hW.alike hKc, hDc.weaken (fun _ _ _ _ => trivial), nsM.warm hW hns, by rw [hU]⟩⟩ rfl rfl hl.1 rfl (lv_room (Nat.le_of_ble_eq_true rfl)) dX23_newFields_94 ⟨(show (8 * (pp1 - pp) - 3 * n - 8 * cm) + (8 * (T - (pp1 + 1 + 1)) + 8) ≤ (8 * (T - pp) + 3) by omega), (show (120 * (pp1 - pp) + 4 * cp + 8 - 64 * n - 120 * cm) + (120 * (T - (pp1 + 1 + 1)) + 360) ≤ (120 * (T - pp) + 280) by omega)⟩) hS (fun q _ h => hFc q h) hFc (fun u r_44 tS H1 locs ht hvm hw hB hz1 hk1 hS => ?_)
                            obtain ⟨L43, F43, ff43, xa43, pp43, bb43, hf44_0, hf44_1, hf44_2, hf44_3, hP1, hK1, hD1⟩ := hB
                            rw [ht] at hP1
                            replace hK1 := va_K.moved hvm.symm hK1
                            rw [ht] at hf44_3
                            have hgz : H1.size ≤ s.heap.size + (((8 * (pp1 - pp) - 3 * n - 8 * cm) + 8 * (pp43 - (pp1 + 1 + 1)) + 3)) ∧ slN H1 ≤ slN s.heap + (((120 * (pp1 - pp) + 4 * cp + 8 - 64 * n - 120 * cm) + 120 * (pp43 - (pp1 + 1 + 1)) + 48)) := ⟨by have := hf44_3.1; omega, by have := hf44_3.2; omega⟩
                            obtain ⟨hPj, hDj⟩ := va_joinB (wr := [(ee, .inr (15, [.int 5, .int tx, .int 0, .int nm0, .int 0, .int 0, .long 0, .int 0, .null, .ref la, .ref sa, .int (nI n), .null, .null])), (la, .inl (kE, cp, .inr (.inr (.inr (.inr f))))), (sa, .inl (kI, cp, .inl g))]) (w1 := [(m9, .inr (23, mA mr mv vf xl (nI zs) ff43 xa43 (nI T) (nI pp43) xi xt xn (nI (ns + 1)) (nI vv) (nI bb43))), (mr 5, .inl (kI, 3002, .inl fk)), (mr 6, .inl (kI, 3002, .inl fa)), (mr 8, .inl (kL, 3002, .inr (.inl fn)))]) hP hD [6, 4, 5, 3] [0, 1, 2] rfl rfl (by decide) (by decide) hk1 hFc hP1 hD1
                            replace hP := hPj
                            replace hD := hDj
                            clear hPj hDj
                            replace hK := hK.app hK1
                            generalize H1 = H at hP hS hgz ⊢
                            replace hP : va_P (dC, dI) vwCl (([(ee, .inr (15, [.int 5, .int tx, .int 0, .int nm0, .int 0, .int 0, .long 0, .int 0, .null, .ref la, .ref sa, .int (nI n), .null, .null])), (la, .inl (kE, cp, .inr (.inr (.inr (.inr f))))), (sa, .inl (kI, cp, .inl g)), (m9, .inr (23, mA mr mv vf xl (nI zs) ff43 xa43 (nI T) (nI pp43) xi xt xn (nI (ns + 1)) (nI vv) (nI bb43))), (mr 5, .inl (kI, 3002, .inl fk)), (mr 6, .inl (kI, 3002, .inl fa)), (mr 8, .inl (kL, 3002, .inr (.inl fn)))] : va_W) ++ (sT L43 F43)) H := hP
                            replace hD : va_D A (([(ee, .inr (15, [.int 5, .int tx, .int 0, .int nm0, .int 0, .int 0, .long 0, .int 0, .null, .ref la, .ref sa, .int (nI n), .null, .null])), (la, .inl (kE, cp, .inr (.inr (.inr (.inr f))))), (sa, .inl (kI, cp, .inl g)), (m9, .inr (23, mA mr mv vf xl (nI zs) ff43 xa43 (nI T) (nI pp43) xi xt xn (nI (ns + 1)) (nI vv) (nI bb43))), (mr 5, .inl (kI, 3002, .inl fk)), (mr 6, .inl (kI, 3002, .inl fa)), (mr 8, .inl (kL, 3002, .inr (.inl fn)))] : va_W) ++ (sT L43 F43)) := hD
                            replace hK : va_K (dC, dI) vwCl [(kI, .int), (kL, .long), (kE, .object RX15), (kI, .int), (kL, .long), (kE, .object RX15)] s := hK
                            replace hK := hK.sub (tys' := [(kI, .int), (kL, .long), (kE, .object RX15)]) [0, 1, 2] rfl
                            refine W.tight (k := ((8 * (pp1 - pp) - 3 * n - 8 * cm) + 8 * (pp43 - (pp1 + 1 + 1)) + 3)) (n := ((120 * (pp1 - pp) + 4 * cp + 8 - 64 * n - 120 * cm) + 120 * (pp43 - (pp1 + 1 + 1)) + 48)) hgz.1 hgz.2 ?_
                            clear hz1 hk1 hPc hDc hKc hFc hP1 hD1 hK1
                            refine lv_iload_n hx hb dX23_newFields_97 rfl (lv_at hl 0 rfl) ?_
                            replace hPc := hP.subT (f' := [(ee, .inr (15, [.int 5, .int tx, .int 0, .int nm0, .int 0, .int 0, .long 0, .int 0, .null, .ref la, .ref sa, .int (nI n), .null, .null])), (la, .inl (kE, cp, .inr (.inr (.inr (.inr f))))), (sa, .inl (kI, cp, .inl g))]) [0, 1, 2] rfl
                            replace hDc := hD.subT (f' := [(ee, .inr (15, [.int 5, .int tx, .int 0, .int nm0, .int 0, .int 0, .long 0, .int 0, .null, .ref la, .ref sa, .int (nI n), .null, .null])), (la, .inl (kE, cp, .inr (.inr (.inr (.inr f))))), (sa, .inl (kI, cp, .inl g))]) [0, 1, 2] (by decide) rfl
                            replace hKc := hK.sub (tys' := [(kI, .int), (kE, .object RX15)]) [0, 2] rfl
                            replace hFc := va_freeB (wc := [(ee, .inr (15, [.int 5, .int tx, .int 0, .int nm0, .int 0, .int 0, .long 0, .int 0, .null, .ref la, .ref sa, .int (nI n), .null, .null])), (la, .inl (kE, cp, .inr (.inr (.inr (.inr f))))), (sa, .inl (kI, cp, .inl g))]) hD hS hA [0, 1, 2] rfl
                            refine W.grow (fun hgs0 hgs1 => ?_)
                            refine va_callv (va_runS (As := [.ref ee, .ref r_44, .int (nI pp1)]) (rest := []) ⟨hx, hb, hml, hown, hts⟩ (c_xaA l dC dI ee r_44 5 tx 0 nm0 0 0 (nI pp1) .null kI kE la sa n cp f g L43 F43 (slN H) H.size hf44_0.2 (by omega) (fun i hi => by obtain ⟨x9, y9, z9⟩ := hr3 i hi; exact ⟨x9, y9, xO_ex hf44_0.1 z9⟩)) (va_cwS 3 hts g_c_xnf_c_xaA_98 rfl rfl rfl (by decide +kernel) ⟨by show 0 + 1 ≤ 3 + 12 * k; omega, by show 8 + (6 + 11) + (0) ≤ 63 + 279 * k; omega⟩) ⟨fun a U g mk q => by obtain ⟨q0, q1, qP, qK, qD, qx0, qx1⟩ := q; exact ⟨q0, q1, qP, va_K.moved (u := U) (U := U.calling g mk a) (Vm.Alike.refl U.vm) qK, qD, nsM.same (u := U) (U := U.calling g mk a) rfl qx0, qx1⟩, fun U hU hW => ⟨rfl, by rw [hU], by rw [hU]; exact hPc, va_K.moved hW.alike hKc, hDc.weaken (fun _ _ _ _ => trivial), nsM.warm hW hns, by rw [hU]⟩⟩ rfl rfl hl.1 rfl (lv_room (Nat.le_of_ble_eq_true rfl)) dX23_newFields_98 ⟨(show ((8 * (pp1 - pp) - 3 * n - 8 * cm) + 8 * (pp43 - (pp1 + 1 + 1)) + 3) + 2 ≤ (8 * (T - pp) + 3) by omega), (show ((120 * (pp1 - pp) + 4 * cp + 8 - 64 * n - 120 * cm) + 120 * (pp43 - (pp1 + 1 + 1)) + 48) + (4 * cp) ≤ (120 * (T - pp) + 280) by omega)⟩) hS (fun q _ h => hFc q h) hFc (fun u tS H1 locs ht hvm hw hB hz1 hk1 hS => ?_)
                            obtain ⟨la44, sa44, cp44, f44, g44, hf45_0, hf45_1, hf45_2, hf45_3, hf45_4, hP1, hK1, hD1⟩ := hB
                            rw [ht] at hP1
                            replace hK1 := va_K.moved hvm.symm hK1
                            rw [ht] at hf45_4
                            have hgz : H1.size ≤ s.heap.size + ((((8 * (pp1 - pp) - 3 * n - 8 * cm) + 8 * (pp43 - (pp1 + 1 + 1)) + 3) + 2)) ∧ slN H1 ≤ slN s.heap + ((((120 * (pp1 - pp) + 4 * cp + 8 - 64 * n - 120 * cm) + 120 * (pp43 - (pp1 + 1 + 1)) + 48) + 4 * (cp44 - cp))) := ⟨by have := hf45_4.1; omega, by have := hf45_4.2; omega⟩
                            obtain ⟨hPj, hDj⟩ := va_joinB (wr := [(m9, .inr (23, mA mr mv vf xl (nI zs) ff43 xa43 (nI T) (nI pp43) xi xt xn (nI (ns + 1)) (nI vv) (nI bb43))), (mr 5, .inl (kI, 3002, .inl fk)), (mr 6, .inl (kI, 3002, .inl fa)), (mr 8, .inl (kL, 3002, .inr (.inl fn)))]) (w1 := [(ee, .inr (15, [.int 5, .int tx, .int 0, .int nm0, .int 0, .int 0, .long 0, .int 0, .null, .ref la44, .ref sa44, .int (nI (n + 1)), .null, .null])), (la44, .inl (kE, cp44, .inr (.inr (.inr (.inr f44))))), (sa44, .inl (kI, cp44, .inl g44))]) hP hD [0, 1, 2] [3, 4, 5, 6] rfl rfl (by decide) (by decide) hk1 hFc hP1 hD1
                            replace hP := hPj
                            replace hD := hDj
                            clear hPj hDj
                            replace hK := hK.app hK1
                            generalize H1 = H at hP hS hgz ⊢
                            replace hP : va_P (dC, dI) vwCl (([(m9, .inr (23, mA mr mv vf xl (nI zs) ff43 xa43 (nI T) (nI pp43) xi xt xn (nI (ns + 1)) (nI vv) (nI bb43))), (mr 5, .inl (kI, 3002, .inl fk)), (mr 6, .inl (kI, 3002, .inl fa)), (mr 8, .inl (kL, 3002, .inr (.inl fn))), (ee, .inr (15, [.int 5, .int tx, .int 0, .int nm0, .int 0, .int 0, .long 0, .int 0, .null, .ref la44, .ref sa44, .int (nI (n + 1)), .null, .null])), (la44, .inl (kE, cp44, .inr (.inr (.inr (.inr f44))))), (sa44, .inl (kI, cp44, .inl g44))] : va_W) ++ (sT L43 F43)) H := hP
                            replace hD : va_D A (([(m9, .inr (23, mA mr mv vf xl (nI zs) ff43 xa43 (nI T) (nI pp43) xi xt xn (nI (ns + 1)) (nI vv) (nI bb43))), (mr 5, .inl (kI, 3002, .inl fk)), (mr 6, .inl (kI, 3002, .inl fa)), (mr 8, .inl (kL, 3002, .inr (.inl fn))), (ee, .inr (15, [.int 5, .int tx, .int 0, .int nm0, .int 0, .int 0, .long 0, .int 0, .null, .ref la44, .ref sa44, .int (nI (n + 1)), .null, .null])), (la44, .inl (kE, cp44, .inr (.inr (.inr (.inr f44))))), (sa44, .inl (kI, cp44, .inl g44))] : va_W) ++ (sT L43 F43)) := hD
                            replace hK : va_K (dC, dI) vwCl [(kI, .int), (kL, .long), (kE, .object RX15), (kI, .int), (kE, .object RX15)] s := hK
                            replace hK := hK.sub (tys' := [(kI, .int), (kL, .long), (kE, .object RX15)]) [0, 1, 2] rfl
                            refine W.tight (k := (((8 * (pp1 - pp) - 3 * n - 8 * cm) + 8 * (pp43 - (pp1 + 1 + 1)) + 3) + 2)) (n := (((120 * (pp1 - pp) + 4 * cp + 8 - 64 * n - 120 * cm) + 120 * (pp43 - (pp1 + 1 + 1)) + 48) + 4 * (cp44 - cp))) hgz.1 hgz.2 ?_
                            clear hz1 hk1 hPc hDc hKc hFc hP1 hD1 hK1
                            refine lv_aload_n hx hb dX23_newFields_101 rfl (lv_at hl 2 rfl) ?_
                            refine lv_bipush (v := 57) hx hb dX23_newFields_102 (by decide) ?_
                            by_cases hz_46 : ff43 = 0
                            · subst hz_46
                              have hg43 := hf44_2 rfl
                              have hlthg43 := (isE_mem hg43.2).2
                              by_cases hk_47 : fk pp43 = 57
                              · replace hPc := hP.subF (f' := [(m9, .inr (23, mA mr mv vf xl (nI zs) 0 xa43 (nI T) (nI pp43) xi xt xn (nI (ns + 1)) (nI vv) (nI bb43))), (mr 5, .inl (kI, 3002, .inl fk))]) [0, 1] rfl
                                replace hDc := hD.subF (f' := [(m9, .inr (23, mA mr mv vf xl (nI zs) 0 xa43 (nI T) (nI pp43) xi xt xn (nI (ns + 1)) (nI vv) (nI bb43))), (mr 5, .inl (kI, 3002, .inl fk))]) [0, 1] (by decide) rfl
                                replace hKc := hK.sub (tys' := [(kI, .int)]) [0] rfl
                                replace hFc := va_freeT (wc := [(m9, .inr (23, mA mr mv vf xl (nI zs) 0 xa43 (nI T) (nI pp43) xi xt xn (nI (ns + 1)) (nI vv) (nI bb43))), (mr 5, .inl (kI, 3002, .inl fk))]) hD hS hA [0, 1] rfl
                                refine va_calli (va_runV (As := [.int 57]) (rest := []) ⟨hx, hb, hml, hown, hts⟩ (c_rtsY l dC dI m9 mr mv vf xl xa43 xi xt xn zs T pp43 (ns + 1) vv bb43 kI fk fa 57 H.size hT hf44_1.2.1 hk0 (by decide) hk_47) (cwV 1 hts g_c_xnf_c_rtsY_104 rfl rfl rfl (by decide +kernel) ⟨by show 1 + 1 ≤ 3 + 12 * k; omega, by show 8 + (2 + 11) + (21) ≤ 63 + 279 * k; omega⟩) ⟨fun a U g mk q => by obtain ⟨q0, q1, qP, qK, qD⟩ := q; exact ⟨q0, q1, qP, va_K.moved (u := U) (U := U.calling g mk a) (Vm.Alike.refl U.vm) qK, qD⟩, va_recv hKc hPc (ci := 23) (q0 := 0) rfl rfl, fun U hU hW => ⟨rfl, by rw [hU], by rw [hU]; exact hPc, va_K.moved hW.alike hKc, hDc.weaken (fun _ _ _ _ => trivial)⟩⟩ rfl rfl hl.1 rfl (lv_room (Nat.le_of_ble_eq_true rfl)) dX23_newFields_104 ⟨(show (((8 * (pp1 - pp) - 3 * n - 8 * cm) + 8 * (pp43 - (pp1 + 1 + 1)) + 3) + 2) + 0 ≤ (8 * (T - pp) + 3) by omega), (show (((120 * (pp1 - pp) + 4 * cp + 8 - 64 * n - 120 * cm) + 120 * (pp43 - (pp1 + 1 + 1)) + 48) + 4 * (cp44 - cp)) + 0 ≤ (120 * (T - pp) + 280) by omega)⟩) hS (fun q _ h => hFc q h) hFc (fun r_48 u tS H1 locs ht hvm hw hB hz1 hk1 hS => ?_)
                                obtain ⟨hP1, hK1, hD1⟩ := hB
                                rw [ht] at hP1
                                replace hK1 := va_K.moved hvm.symm hK1
                                obtain ⟨hPj, hDj⟩ := va_joinT (wr := [(mr 6, .inl (kI, 3002, .inl fa)), (mr 8, .inl (kL, 3002, .inr (.inl fn))), (ee, .inr (15, [.int 5, .int tx, .int 0, .int nm0, .int 0, .int 0, .long 0, .int 0, .null, .ref la44, .ref sa44, .int (nI (n + 1)), .null, .null])), (la44, .inl (kE, cp44, .inr (.inr (.inr (.inr f44))))), (sa44, .inl (kI, cp44, .inl g44))]) (w1 := [(m9, .inr (23, mA mr mv vf xl (nI zs) 0 xa43 (nI T) (nI (pp43 + 1)) xi xt xn (nI (ns + 1)) (nI vv) (nI bb43))), (mr 5, .inl (kI, 3002, .inl fk))]) hP hD [0, 1] [2, 3, 4, 5, 6] rfl rfl (by decide) (by decide) hk1 hFc hP1 hD1
                                replace hP := hPj
                                replace hD := hDj
                                clear hPj hDj
                                replace hK := hK.app hK1
                                generalize H1 = H at hP hS ⊢
                                replace hP : va_P (dC, dI) vwCl (([(mr 6, .inl (kI, 3002, .inl fa)), (mr 8, .inl (kL, 3002, .inr (.inl fn))), (ee, .inr (15, [.int 5, .int tx, .int 0, .int nm0, .int 0, .int 0, .long 0, .int 0, .null, .ref la44, .ref sa44, .int (nI (n + 1)), .null, .null])), (la44, .inl (kE, cp44, .inr (.inr (.inr (.inr f44))))), (sa44, .inl (kI, cp44, .inl g44)), (m9, .inr (23, mA mr mv vf xl (nI zs) 0 xa43 (nI T) (nI (pp43 + 1)) xi xt xn (nI (ns + 1)) (nI vv) (nI bb43))), (mr 5, .inl (kI, 3002, .inl fk))] : va_W) ++ (sT L43 F43)) H := hP
                                replace hD : va_D A (([(mr 6, .inl (kI, 3002, .inl fa)), (mr 8, .inl (kL, 3002, .inr (.inl fn))), (ee, .inr (15, [.int 5, .int tx, .int 0, .int nm0, .int 0, .int 0, .long 0, .int 0, .null, .ref la44, .ref sa44, .int (nI (n + 1)), .null, .null])), (la44, .inl (kE, cp44, .inr (.inr (.inr (.inr f44))))), (sa44, .inl (kI, cp44, .inl g44)), (m9, .inr (23, mA mr mv vf xl (nI zs) 0 xa43 (nI T) (nI (pp43 + 1)) xi xt xn (nI (ns + 1)) (nI vv) (nI bb43))), (mr 5, .inl (kI, 3002, .inl fk))] : va_W) ++ (sT L43 F43)) := hD
                                replace hK : va_K (dC, dI) vwCl [(kI, .int), (kL, .long), (kE, .object RX15), (kI, .int)] s := hK
                                replace hK := hK.sub (tys' := [(kI, .int), (kL, .long), (kE, .object RX15)]) [0, 1, 2] rfl
                                clear hz1 hk1 hPc hDc hKc hFc hP1 hD1 hK1
                                obtain rfl : r_48 = 1 := hw
                                have hp_49 : pp43 + 1 < T := kne3 hk0 hf44_1.2.1 hk_47 (by decide)
                                refine lv_istore_n (lv' := [(2, .int 1), (3, .int (nI pp1)), (0, .ref m9), (1, .ref ee)]) hx hb dX23_newFields_107 rfl hl (by decide) rfl (fun ls hl => ?_)
                                refine lv_goto (tgt := 63) hx hb dX23_newFields_108 (by decide) ?_
                                refine W.widen (k := (8 * ((pp43 + 1) - pp) - 3 * (n + 1) - 8 * 1)) (n := (120 * ((pp43 + 1) - pp) + 4 * cp44 + 8 - 64 * (n + 1) - 120 * 1)) (by omega) (by omega) ?_
                                exact ih1 (pp43 + 1) bb43 la44 sa44 cp44 (n + 1) 1 0 xa43 1 L43 F43 f44 g44 _ _ _ (⟨by omega, by omega, by omega, by omega, by omega, by omega, by omega, by omega, by omega, by omega, by omega, hT⟩) (Or.inr (by omega)) (hr2.tr hf44_0.1) (fun i hi => by
                                  by_cases e9 : i = n
                                  · subst e9; exact ⟨_, hf45_2.1, hf44_0.2⟩
                                  · obtain ⟨x9, y9, z9⟩ := hr3 i (by omega); exact ⟨x9, (hf45_1 i (by omega)).1.trans y9, xO_ex hf44_0.1 z9⟩) (fun _ => ⟨hg43.1, _, chP_add (chP_im (fun x p q b c z => isE_im hf44_0.1 _ (Nat.le_refl _) z) hr5) (fun i hi => hf45_1 i hi) hf45_2.1 hf45_2.2 (by omega) (isE_im exS.rf _ (by omega) hg43.2) (Or.inr ⟨by omega, by omega⟩), Or.inr ⟨by decide, rfl, by omega⟩⟩) (hP.subT [2, 3, 4, 5, 6, 0, 1] rfl) (hD.subT [2, 3, 4, 5, 6, 0, 1] (by decide) rfl) hS (lv_sub hl [0, 2, 3] rfl)
                              · replace hPc := hP.subF (f' := [(m9, .inr (23, mA mr mv vf xl (nI zs) 0 xa43 (nI T) (nI pp43) xi xt xn (nI (ns + 1)) (nI vv) (nI bb43))), (mr 5, .inl (kI, 3002, .inl fk))]) [0, 1] rfl
                                replace hDc := hD.subF (f' := [(m9, .inr (23, mA mr mv vf xl (nI zs) 0 xa43 (nI T) (nI pp43) xi xt xn (nI (ns + 1)) (nI vv) (nI bb43))), (mr 5, .inl (kI, 3002, .inl fk))]) [0, 1] (by decide) rfl
                                replace hKc := hK.sub (tys' := [(kI, .int)]) [0] rfl
                                replace hFc := va_freeT (wc := [(m9, .inr (23, mA mr mv vf xl (nI zs) 0 xa43 (nI T) (nI pp43) xi xt xn (nI (ns + 1)) (nI vv) (nI bb43))), (mr 5, .inl (kI, 3002, .inl fk))]) hD hS hA [0, 1] rfl
                                refine va_calli (va_runV (As := [.int 57]) (rest := []) ⟨hx, hb, hml, hown, hts⟩ (c_rtsN l dC dI m9 mr mv vf xl xa43 xi xt xn zs T pp43 (ns + 1) vv bb43 kI fk fa 57 H.size hT hf44_1.2.1 hk0 (by decide) hk_47) (cwV 1 hts g_c_xnf_c_rtsN_104 rfl rfl rfl (by decide +kernel) ⟨by show 1 + 1 ≤ 3 + 12 * k; omega, by show 8 + (2 + 11) + (21) ≤ 63 + 279 * k; omega⟩) ⟨fun a U g mk q => by obtain ⟨q0, q1, qP, qK, qD⟩ := q; exact ⟨q0, q1, qP, va_K.moved (u := U) (U := U.calling g mk a) (Vm.Alike.refl U.vm) qK, qD⟩, va_recv hKc hPc (ci := 23) (q0 := 0) rfl rfl, fun U hU hW => ⟨rfl, by rw [hU], by rw [hU]; exact hPc, va_K.moved hW.alike hKc, hDc.weaken (fun _ _ _ _ => trivial)⟩⟩ rfl rfl hl.1 rfl (lv_room (Nat.le_of_ble_eq_true rfl)) dX23_newFields_104 ⟨(show (((8 * (pp1 - pp) - 3 * n - 8 * cm) + 8 * (pp43 - (pp1 + 1 + 1)) + 3) + 2) + 0 ≤ (8 * (T - pp) + 3) by omega), (show (((120 * (pp1 - pp) + 4 * cp + 8 - 64 * n - 120 * cm) + 120 * (pp43 - (pp1 + 1 + 1)) + 48) + 4 * (cp44 - cp)) + 0 ≤ (120 * (T - pp) + 280) by omega)⟩) hS (fun q _ h => hFc q h) hFc (fun r_48 u tS H1 locs ht hvm hw hB hz1 hk1 hS => ?_)
                                obtain ⟨hP1, hK1, hD1⟩ := hB
                                rw [ht] at hP1
                                replace hK1 := va_K.moved hvm.symm hK1
                                obtain ⟨hPj, hDj⟩ := va_joinT (wr := [(mr 6, .inl (kI, 3002, .inl fa)), (mr 8, .inl (kL, 3002, .inr (.inl fn))), (ee, .inr (15, [.int 5, .int tx, .int 0, .int nm0, .int 0, .int 0, .long 0, .int 0, .null, .ref la44, .ref sa44, .int (nI (n + 1)), .null, .null])), (la44, .inl (kE, cp44, .inr (.inr (.inr (.inr f44))))), (sa44, .inl (kI, cp44, .inl g44))]) (w1 := [(m9, .inr (23, mA mr mv vf xl (nI zs) 0 xa43 (nI T) (nI pp43) xi xt xn (nI (ns + 1)) (nI vv) (nI bb43))), (mr 5, .inl (kI, 3002, .inl fk))]) hP hD [0, 1] [2, 3, 4, 5, 6] rfl rfl (by decide) (by decide) hk1 hFc hP1 hD1
                                replace hP := hPj
                                replace hD := hDj
                                clear hPj hDj
                                replace hK := hK.app hK1
                                generalize H1 = H at hP hS ⊢
                                replace hP : va_P (dC, dI) vwCl (([(mr 6, .inl (kI, 3002, .inl fa)), (mr 8, .inl (kL, 3002, .inr (.inl fn))), (ee, .inr (15, [.int 5, .int tx, .int 0, .int nm0, .int 0, .int 0, .long 0, .int 0, .null, .ref la44, .ref sa44, .int (nI (n + 1)), .null, .null])), (la44, .inl (kE, cp44, .inr (.inr (.inr (.inr f44))))), (sa44, .inl (kI, cp44, .inl g44)), (m9, .inr (23, mA mr mv vf xl (nI zs) 0 xa43 (nI T) (nI pp43) xi xt xn (nI (ns + 1)) (nI vv) (nI bb43))), (mr 5, .inl (kI, 3002, .inl fk))] : va_W) ++ (sT L43 F43)) H := hP
                                replace hD : va_D A (([(mr 6, .inl (kI, 3002, .inl fa)), (mr 8, .inl (kL, 3002, .inr (.inl fn))), (ee, .inr (15, [.int 5, .int tx, .int 0, .int nm0, .int 0, .int 0, .long 0, .int 0, .null, .ref la44, .ref sa44, .int (nI (n + 1)), .null, .null])), (la44, .inl (kE, cp44, .inr (.inr (.inr (.inr f44))))), (sa44, .inl (kI, cp44, .inl g44)), (m9, .inr (23, mA mr mv vf xl (nI zs) 0 xa43 (nI T) (nI pp43) xi xt xn (nI (ns + 1)) (nI vv) (nI bb43))), (mr 5, .inl (kI, 3002, .inl fk))] : va_W) ++ (sT L43 F43)) := hD
                                replace hK : va_K (dC, dI) vwCl [(kI, .int), (kL, .long), (kE, .object RX15), (kI, .int)] s := hK
                                replace hK := hK.sub (tys' := [(kI, .int), (kL, .long), (kE, .object RX15)]) [0, 1, 2] rfl
                                clear hz1 hk1 hPc hDc hKc hFc hP1 hD1 hK1
                                obtain rfl : r_48 = 0 := hw
                                refine lv_istore_n (lv' := [(2, .int 0), (3, .int (nI pp1)), (0, .ref m9), (1, .ref ee)]) hx hb dX23_newFields_107 rfl hl (by decide) rfl (fun ls hl => ?_)
                                refine lv_goto (tgt := 63) hx hb dX23_newFields_108 (by decide) ?_
                                refine W.widen (k := (8 * (pp43 - pp) - 3 * (n + 1) - 8 * 0)) (n := (120 * (pp43 - pp) + 4 * cp44 + 8 - 64 * (n + 1) - 120 * 0)) (by omega) (by omega) ?_
                                exact ih1 pp43 bb43 la44 sa44 cp44 (n + 1) 0 0 xa43 0 L43 F43 f44 g44 _ _ _ (⟨by omega, by omega, by omega, by omega, by omega, by omega, by omega, by omega, by omega, by omega, by omega, hT⟩) (Or.inr (by omega)) (hr2.tr hf44_0.1) (fun i hi => by
                                  by_cases e9 : i = n
                                  · subst e9; exact ⟨_, hf45_2.1, hf44_0.2⟩
                                  · obtain ⟨x9, y9, z9⟩ := hr3 i (by omega); exact ⟨x9, (hf45_1 i (by omega)).1.trans y9, xO_ex hf44_0.1 z9⟩) (fun _ => ⟨hg43.1, _, chP_add (chP_im (fun x p q b c z => isE_im hf44_0.1 _ (Nat.le_refl _) z) hr5) (fun i hi => hf45_1 i hi) hf45_2.1 hf45_2.2 (by omega) (isE_im exS.rf _ (by omega) hg43.2) (Or.inr ⟨by omega, by omega⟩), Or.inl ⟨rfl, rfl, by omega⟩⟩) (hP.subT [2, 3, 4, 5, 6, 0, 1] rfl) (hD.subT [2, 3, 4, 5, 6, 0, 1] (by decide) rfl) hS (lv_sub hl [0, 2, 3] rfl)
                            · replace hPc := hP.subF (f' := [(m9, .inr (23, mA mr mv vf xl (nI zs) ff43 xa43 (nI T) (nI pp43) xi xt xn (nI (ns + 1)) (nI vv) (nI bb43))), (mr 5, .inl (kI, 3002, .inl fk))]) [0, 1] rfl
                              replace hDc := hD.subF (f' := [(m9, .inr (23, mA mr mv vf xl (nI zs) ff43 xa43 (nI T) (nI pp43) xi xt xn (nI (ns + 1)) (nI vv) (nI bb43))), (mr 5, .inl (kI, 3002, .inl fk))]) [0, 1] (by decide) rfl
                              replace hKc := hK.sub (tys' := [(kI, .int)]) [0] rfl
                              replace hFc := va_freeT (wc := [(m9, .inr (23, mA mr mv vf xl (nI zs) ff43 xa43 (nI T) (nI pp43) xi xt xn (nI (ns + 1)) (nI vv) (nI bb43))), (mr 5, .inl (kI, 3002, .inl fk))]) hD hS hA [0, 1] rfl
                              refine va_calli (va_runV (As := [.int 57]) (rest := []) ⟨hx, hb, hml, hown, hts⟩ (c_rtsB l dC dI m9 mr mv vf xl xa43 xi xt xn zs T pp43 (ns + 1) vv bb43 kI fk fa ff43 57 H.size hz_46) (cwV 1 hts g_c_xnf_c_rtsB_104 rfl rfl rfl (by decide +kernel) ⟨by show 1 + 1 ≤ 3 + 12 * k; omega, by show 8 + (2 + 11) + (20) ≤ 63 + 279 * k; omega⟩) ⟨fun a U g mk q => by obtain ⟨q0, q1, qP, qK, qD⟩ := q; exact ⟨q0, q1, qP, va_K.moved (u := U) (U := U.calling g mk a) (Vm.Alike.refl U.vm) qK, qD⟩, va_recv hKc hPc (ci := 23) (q0 := 0) rfl rfl, fun U hU hW => ⟨rfl, by rw [hU], by rw [hU]; exact hPc, va_K.moved hW.alike hKc, hDc.weaken (fun _ _ _ _ => trivial)⟩⟩ rfl rfl hl.1 rfl (lv_room (Nat.le_of_ble_eq_true rfl)) dX23_newFields_104 ⟨(show (((8 * (pp1 - pp) - 3 * n - 8 * cm) + 8 * (pp43 - (pp1 + 1 + 1)) + 3) + 2) + 0 ≤ (8 * (T - pp) + 3) by omega), (show (((120 * (pp1 - pp) + 4 * cp + 8 - 64 * n - 120 * cm) + 120 * (pp43 - (pp1 + 1 + 1)) + 48) + 4 * (cp44 - cp)) + 0 ≤ (120 * (T - pp) + 280) by omega)⟩) hS (fun q _ h => hFc q h) hFc (fun r_47 u tS H1 locs ht hvm hw hB hz1 hk1 hS => ?_)
                              obtain ⟨hP1, hK1, hD1⟩ := hB
                              rw [ht] at hP1
                              replace hK1 := va_K.moved hvm.symm hK1
                              obtain ⟨hPj, hDj⟩ := va_joinT (wr := [(mr 6, .inl (kI, 3002, .inl fa)), (mr 8, .inl (kL, 3002, .inr (.inl fn))), (ee, .inr (15, [.int 5, .int tx, .int 0, .int nm0, .int 0, .int 0, .long 0, .int 0, .null, .ref la44, .ref sa44, .int (nI (n + 1)), .null, .null])), (la44, .inl (kE, cp44, .inr (.inr (.inr (.inr f44))))), (sa44, .inl (kI, cp44, .inl g44))]) (w1 := [(m9, .inr (23, mA mr mv vf xl (nI zs) ff43 xa43 (nI T) (nI pp43) xi xt xn (nI (ns + 1)) (nI vv) (nI bb43))), (mr 5, .inl (kI, 3002, .inl fk))]) hP hD [0, 1] [2, 3, 4, 5, 6] rfl rfl (by decide) (by decide) hk1 hFc hP1 hD1
                              replace hP := hPj
                              replace hD := hDj
                              clear hPj hDj
                              replace hK := hK.app hK1
                              generalize H1 = H at hP hS ⊢
                              replace hP : va_P (dC, dI) vwCl (([(mr 6, .inl (kI, 3002, .inl fa)), (mr 8, .inl (kL, 3002, .inr (.inl fn))), (ee, .inr (15, [.int 5, .int tx, .int 0, .int nm0, .int 0, .int 0, .long 0, .int 0, .null, .ref la44, .ref sa44, .int (nI (n + 1)), .null, .null])), (la44, .inl (kE, cp44, .inr (.inr (.inr (.inr f44))))), (sa44, .inl (kI, cp44, .inl g44)), (m9, .inr (23, mA mr mv vf xl (nI zs) ff43 xa43 (nI T) (nI pp43) xi xt xn (nI (ns + 1)) (nI vv) (nI bb43))), (mr 5, .inl (kI, 3002, .inl fk))] : va_W) ++ (sT L43 F43)) H := hP
                              replace hD : va_D A (([(mr 6, .inl (kI, 3002, .inl fa)), (mr 8, .inl (kL, 3002, .inr (.inl fn))), (ee, .inr (15, [.int 5, .int tx, .int 0, .int nm0, .int 0, .int 0, .long 0, .int 0, .null, .ref la44, .ref sa44, .int (nI (n + 1)), .null, .null])), (la44, .inl (kE, cp44, .inr (.inr (.inr (.inr f44))))), (sa44, .inl (kI, cp44, .inl g44)), (m9, .inr (23, mA mr mv vf xl (nI zs) ff43 xa43 (nI T) (nI pp43) xi xt xn (nI (ns + 1)) (nI vv) (nI bb43))), (mr 5, .inl (kI, 3002, .inl fk))] : va_W) ++ (sT L43 F43)) := hD
                              replace hK : va_K (dC, dI) vwCl [(kI, .int), (kL, .long), (kE, .object RX15), (kI, .int)] s := hK
                              replace hK := hK.sub (tys' := [(kI, .int), (kL, .long), (kE, .object RX15)]) [0, 1, 2] rfl
                              clear hz1 hk1 hPc hDc hKc hFc hP1 hD1 hK1
                              obtain rfl : r_47 = 0 := hw
                              refine lv_istore_n (lv' := [(2, .int 0), (3, .int (nI pp1)), (0, .ref m9), (1, .ref ee)]) hx hb dX23_newFields_107 rfl hl (by decide) rfl (fun ls hl => ?_)
                              refine lv_goto (tgt := 63) hx hb dX23_newFields_108 (by decide) ?_
                              refine W.widen (k := (8 * (pp43 - pp) - 3 * (n + 1) - 8 * 0)) (n := (120 * (pp43 - pp) + 4 * cp44 + 8 - 64 * (n + 1) - 120 * 0)) (by omega) (by omega) ?_
                              exact ih1 pp43 bb43 la44 sa44 cp44 (n + 1) 0 ff43 xa43 0 L43 F43 f44 g44 _ _ _ (⟨by omega, by omega, by omega, by omega, by omega, by omega, by omega, by omega, by omega, by omega, by omega, hT⟩) (Or.inl hz_46) (hr2.tr hf44_0.1) (fun i hi => by
                                by_cases e9 : i = n
                                · subst e9; exact ⟨_, hf45_2.1, hf44_0.2⟩
                                · obtain ⟨x9, y9, z9⟩ := hr3 i (by omega); exact ⟨x9, (hf45_1 i (by omega)).1.trans y9, xO_ex hf44_0.1 z9⟩) (fun q9 => absurd q9 hz_46) (hP.subT [2, 3, 4, 5, 6, 0, 1] rfl) (hD.subT [2, 3, 4, 5, 6, 0, 1] (by decide) rfl) hS (lv_sub hl [0, 2, 3] rfl)
                          · replace hPc := hP.subF (f' := [(m9, .inr (23, mA mr mv vf xl (nI zs) 0 xa1 (nI T) (nI (pp1 + 1)) xi xt xn (nI (ns + 1)) (nI vv) (nI bb1))), (mr 5, .inl (kI, 3002, .inl fk)), (mr 6, .inl (kI, 3002, .inl fa))]) [4, 5, 6] rfl
                            replace hDc := hD.subF (f' := [(m9, .inr (23, mA mr mv vf xl (nI zs) 0 xa1 (nI T) (nI (pp1 + 1)) xi xt xn (nI (ns + 1)) (nI vv) (nI bb1))), (mr 5, .inl (kI, 3002, .inl fk)), (mr 6, .inl (kI, 3002, .inl fa))]) [4, 5, 6] (by decide) rfl
                            replace hKc := hK.sub (tys' := [(kI, .int)]) [0] rfl
                            replace hFc := va_freeT (wc := [(m9, .inr (23, mA mr mv vf xl (nI zs) 0 xa1 (nI T) (nI (pp1 + 1)) xi xt xn (nI (ns + 1)) (nI vv) (nI bb1))), (mr 5, .inl (kI, 3002, .inl fk)), (mr 6, .inl (kI, 3002, .inl fa))]) hD hS hA [4, 5, 6] rfl
                            refine va_callv (va_runV (As := [.int 58]) (rest := []) ⟨hx, hb, hml, hown, hts⟩ (c_rtkN l dC dI m9 mr mv vf xl xa1 xi xt xn zs T (pp1 + 1) (ns + 1) vv bb1 kI fk fa 58 H.size hT hp_38 hk0 (by decide) hk_39) (cwV 1 hts g_c_xnf_c_rtkN_82 rfl rfl rfl (by decide +kernel) ⟨by show 1 + 1 ≤ 3 + 12 * k; omega, by show 8 + (2 + 11) + (22) ≤ 63 + 279 * k; omega⟩) ⟨fun a U g mk q => by obtain ⟨q0, q1, qP, qK, qD⟩ := q; exact ⟨q0, q1, qP, va_K.moved (u := U) (U := U.calling g mk a) (Vm.Alike.refl U.vm) qK, qD⟩, va_recv hKc hPc (ci := 23) (q0 := 0) rfl rfl, fun U hU hW => ⟨rfl, by rw [hU], by rw [hU]; exact hPc, va_K.moved hW.alike hKc, hDc.weaken (fun _ _ _ _ => trivial)⟩⟩ rfl rfl hl.1 rfl (lv_room (Nat.le_of_ble_eq_true rfl)) dX23_newFields_82 ⟨(show (8 * (pp1 - pp) - 3 * n - 8 * cm) + 0 ≤ (8 * (T - pp) + 3) by omega), (show (120 * (pp1 - pp) + 4 * cp + 8 - 64 * n - 120 * cm) + 0 ≤ (120 * (T - pp) + 280) by omega)⟩) hS (fun q _ h => hFc q h) hFc (fun u tS H1 locs ht hvm hw hB hz1 hk1 hS => ?_)
                            obtain ⟨ff_40, xa_41, hf42_0, hP1, hK1, hD1⟩ := hB
                            rw [ht] at hP1
                            replace hK1 := va_K.moved hvm.symm hK1
                            obtain ⟨hPj, hDj⟩ := va_joinT (wr := [(ee, .inr (15, [.int 5, .int tx, .int 0, .int nm0, .int 0, .int 0, .long 0, .int 0, .null, .ref la, .ref sa, .int (nI n), .null, .null])), (la, .inl (kE, cp, .inr (.inr (.inr (.inr f))))), (sa, .inl (kI, cp, .inl g)), (mr 8, .inl (kL, 3002, .inr (.inl fn)))]) (w1 := [(m9, .inr (23, mA mr mv vf xl (nI zs) ff_40 xa_41 (nI T) (nI (pp1 + 1)) xi xt xn (nI (ns + 1)) (nI vv) (nI bb1))), (mr 5, .inl (kI, 3002, .inl fk)), (mr 6, .inl (kI, 3002, .inl fa))]) hP hD [4, 5, 6] [0, 1, 2, 3] rfl rfl (by decide) (by decide) hk1 hFc hP1 hD1
                            replace hP := hPj
                            replace hD := hDj
                            clear hPj hDj
                            replace hK := hK.app hK1
                            generalize H1 = H at hP hS ⊢
                            replace hP : va_P (dC, dI) vwCl (([(ee, .inr (15, [.int 5, .int tx, .int 0, .int nm0, .int 0, .int 0, .long 0, .int 0, .null, .ref la, .ref sa, .int (nI n), .null, .null])), (la, .inl (kE, cp, .inr (.inr (.inr (.inr f))))), (sa, .inl (kI, cp, .inl g)), (mr 8, .inl (kL, 3002, .inr (.inl fn))), (m9, .inr (23, mA mr mv vf xl (nI zs) ff_40 xa_41 (nI T) (nI (pp1 + 1)) xi xt xn (nI (ns + 1)) (nI vv) (nI bb1))), (mr 5, .inl (kI, 3002, .inl fk)), (mr 6, .inl (kI, 3002, .inl fa))] : va_W) ++ (sT L1 F1)) H := hP
                            replace hD : va_D A (([(ee, .inr (15, [.int 5, .int tx, .int 0, .int nm0, .int 0, .int 0, .long 0, .int 0, .null, .ref la, .ref sa, .int (nI n), .null, .null])), (la, .inl (kE, cp, .inr (.inr (.inr (.inr f))))), (sa, .inl (kI, cp, .inl g)), (mr 8, .inl (kL, 3002, .inr (.inl fn))), (m9, .inr (23, mA mr mv vf xl (nI zs) ff_40 xa_41 (nI T) (nI (pp1 + 1)) xi xt xn (nI (ns + 1)) (nI vv) (nI bb1))), (mr 5, .inl (kI, 3002, .inl fk)), (mr 6, .inl (kI, 3002, .inl fa))] : va_W) ++ (sT L1 F1)) := hD
                            replace hK : va_K (dC, dI) vwCl [(kI, .int), (kL, .long), (kE, .object RX15), (kI, .int)] s := hK
                            replace hK := hK.sub (tys' := [(kI, .int), (kL, .long), (kE, .object RX15)]) [0, 1, 2] rfl
                            clear hz1 hk1 hPc hDc hKc hFc hP1 hD1 hK1
                            refine lv_aload_n hx hb dX23_newFields_85 rfl (lv_at hl 2 rfl) ?_
                            replace hPc := hP.subF (f' := [(m9, .inr (23, mA mr mv vf xl (nI zs) ff_40 xa_41 (nI T) (nI (pp1 + 1)) xi xt xn (nI (ns + 1)) (nI vv) (nI bb1)))]) [4] rfl
                            replace hDc := hD.subF (f' := [(m9, .inr (23, mA mr mv vf xl (nI zs) ff_40 xa_41 (nI T) (nI (pp1 + 1)) xi xt xn (nI (ns + 1)) (nI vv) (nI bb1)))]) [4] (by decide) rfl
                            replace hKc := hK.sub (tys' := []) [] rfl
                            replace hFc := va_freeT (wc := [(m9, .inr (23, mA mr mv vf xl (nI zs) ff_40 xa_41 (nI T) (nI (pp1 + 1)) xi xt xn (nI (ns + 1)) (nI vv) (nI bb1)))]) hD hS hA [4] rfl
                            refine va_calli (va_runV (As := []) (rest := []) ⟨hx, hb, hml, hown, hts⟩ (c_rokB l dC dI m9 mr mv vf xl xa_41 xi xt xn zs T (pp1 + 1) (ns + 1) vv bb1 kI fk fa ff_40 H.size hf42_0) (cwV 0 hts g_c_xnf_c_rokB_86 rfl rfl rfl (by decide +kernel) ⟨by show 0 + 1 ≤ 3 + 12 * k; omega, by show 8 + (1 + 11) + (0) ≤ 63 + 279 * k; omega⟩) ⟨fun a U g mk q => by obtain ⟨q0, q1, qP, qK, qD⟩ := q; exact ⟨q0, q1, qP, va_K.moved (u := U) (U := U.calling g mk a) (Vm.Alike.refl U.vm) qK, qD⟩, va_recv hKc hPc (ci := 23) (q0 := 0) rfl rfl, fun U hU hW => ⟨rfl, by rw [hU], by rw [hU]; exact hPc, va_K.moved hW.alike hKc, hDc.weaken (fun _ _ _ _ => trivial)⟩⟩ rfl rfl hl.1 rfl (lv_room (Nat.le_of_ble_eq_true rfl)) dX23_newFields_86 ⟨(show (8 * (pp1 - pp) - 3 * n - 8 * cm) + 0 ≤ (8 * (T - pp) + 3) by omega), (show (120 * (pp1 - pp) + 4 * cp + 8 - 64 * n - 120 * cm) + 0 ≤ (120 * (T - pp) + 280) by omega)⟩) hS (fun q _ h => hFc q h) hFc (fun r_43 u tS H1 locs ht hvm hw hB hz1 hk1 hS => ?_)
                            obtain ⟨hP1, hK1, hD1⟩ := hB
                            rw [ht] at hP1
                            replace hK1 := va_K.moved hvm.symm hK1
                            obtain ⟨hPj, hDj⟩ := va_joinT (wr := [(ee, .inr (15, [.int 5, .int tx, .int 0, .int nm0, .int 0, .int 0, .long 0, .int 0, .null, .ref la, .ref sa, .int (nI n), .null, .null])), (la, .inl (kE, cp, .inr (.inr (.inr (.inr f))))), (sa, .inl (kI, cp, .inl g)), (mr 8, .inl (kL, 3002, .inr (.inl fn))), (mr 5, .inl (kI, 3002, .inl fk)), (mr 6, .inl (kI, 3002, .inl fa))]) (w1 := [(m9, .inr (23, mA mr mv vf xl (nI zs) ff_40 xa_41 (nI T) (nI (pp1 + 1)) xi xt xn (nI (ns + 1)) (nI vv) (nI bb1)))]) hP hD [4] [0, 1, 2, 3, 5, 6] rfl rfl (by decide) (by decide) hk1 hFc hP1 hD1
                            replace hP := hPj
                            replace hD := hDj
                            clear hPj hDj
                            generalize H1 = H at hP hS ⊢
                            replace hP : va_P (dC, dI) vwCl (([(ee, .inr (15, [.int 5, .int tx, .int 0, .int nm0, .int 0, .int 0, .long 0, .int 0, .null, .ref la, .ref sa, .int (nI n), .null, .null])), (la, .inl (kE, cp, .inr (.inr (.inr (.inr f))))), (sa, .inl (kI, cp, .inl g)), (mr 8, .inl (kL, 3002, .inr (.inl fn))), (mr 5, .inl (kI, 3002, .inl fk)), (mr 6, .inl (kI, 3002, .inl fa)), (m9, .inr (23, mA mr mv vf xl (nI zs) ff_40 xa_41 (nI T) (nI (pp1 + 1)) xi xt xn (nI (ns + 1)) (nI vv) (nI bb1)))] : va_W) ++ (sT L1 F1)) H := hP
                            replace hD : va_D A (([(ee, .inr (15, [.int 5, .int tx, .int 0, .int nm0, .int 0, .int 0, .long 0, .int 0, .null, .ref la, .ref sa, .int (nI n), .null, .null])), (la, .inl (kE, cp, .inr (.inr (.inr (.inr f))))), (sa, .inl (kI, cp, .inl g)), (mr 8, .inl (kL, 3002, .inr (.inl fn))), (mr 5, .inl (kI, 3002, .inl fk)), (mr 6, .inl (kI, 3002, .inl fa)), (m9, .inr (23, mA mr mv vf xl (nI zs) ff_40 xa_41 (nI T) (nI (pp1 + 1)) xi xt xn (nI (ns + 1)) (nI vv) (nI bb1)))] : va_W) ++ (sT L1 F1)) := hD
                            replace hK : va_K (dC, dI) vwCl [(kI, .int), (kL, .long), (kE, .object RX15)] s := hK
                            clear hz1 hk1 hPc hDc hKc hFc hP1 hD1 hK1
                            obtain rfl : r_43 = 0 := hw
                            refine lv_if_eq (tgt := 101) hx hb dX23_newFields_89 (by decide) (fun _ => ?_) (fun c_44 => absurd (by decide) c_44)
                            refine lv_aload_n hx hb dX23_newFields_101 rfl (lv_at hl 2 rfl) ?_
                            refine lv_bipush (v := 57) hx hb dX23_newFields_102 (by decide) ?_
                            replace hPc := hP.subF (f' := [(m9, .inr (23, mA mr mv vf xl (nI zs) ff_40 xa_41 (nI T) (nI (pp1 + 1)) xi xt xn (nI (ns + 1)) (nI vv) (nI bb1))), (mr 5, .inl (kI, 3002, .inl fk))]) [6, 4] rfl
                            replace hDc := hD.subF (f' := [(m9, .inr (23, mA mr mv vf xl (nI zs) ff_40 xa_41 (nI T) (nI (pp1 + 1)) xi xt xn (nI (ns + 1)) (nI vv) (nI bb1))), (mr 5, .inl (kI, 3002, .inl fk))]) [6, 4] (by decide) rfl
                            replace hKc := hK.sub (tys' := [(kI, .int)]) [0] rfl
                            replace hFc := va_freeT (wc := [(m9, .inr (23, mA mr mv vf xl (nI zs) ff_40 xa_41 (nI T) (nI (pp1 + 1)) xi xt xn (nI (ns + 1)) (nI vv) (nI bb1))), (mr 5, .inl (kI, 3002, .inl fk))]) hD hS hA [6, 4] rfl
                            refine va_calli (va_runV (As := [.int 57]) (rest := []) ⟨hx, hb, hml, hown, hts⟩ (c_rtsB l dC dI m9 mr mv vf xl xa_41 xi xt xn zs T (pp1 + 1) (ns + 1) vv bb1 kI fk fa ff_40 57 H.size hf42_0) (cwV 1 hts g_c_xnf_c_rtsB_104 rfl rfl rfl (by decide +kernel) ⟨by show 1 + 1 ≤ 3 + 12 * k; omega, by show 8 + (2 + 11) + (20) ≤ 63 + 279 * k; omega⟩) ⟨fun a U g mk q => by obtain ⟨q0, q1, qP, qK, qD⟩ := q; exact ⟨q0, q1, qP, va_K.moved (u := U) (U := U.calling g mk a) (Vm.Alike.refl U.vm) qK, qD⟩, va_recv hKc hPc (ci := 23) (q0 := 0) rfl rfl, fun U hU hW => ⟨rfl, by rw [hU], by rw [hU]; exact hPc, va_K.moved hW.alike hKc, hDc.weaken (fun _ _ _ _ => trivial)⟩⟩ rfl rfl hl.1 rfl (lv_room (Nat.le_of_ble_eq_true rfl)) dX23_newFields_104 ⟨(show (8 * (pp1 - pp) - 3 * n - 8 * cm) + 0 ≤ (8 * (T - pp) + 3) by omega), (show (120 * (pp1 - pp) + 4 * cp + 8 - 64 * n - 120 * cm) + 0 ≤ (120 * (T - pp) + 280) by omega)⟩) hS (fun q _ h => hFc q h) hFc (fun r_45 u tS H1 locs ht hvm hw hB hz1 hk1 hS => ?_)
                            obtain ⟨hP1, hK1, hD1⟩ := hB
                            rw [ht] at hP1
                            replace hK1 := va_K.moved hvm.symm hK1
                            obtain ⟨hPj, hDj⟩ := va_joinT (wr := [(ee, .inr (15, [.int 5, .int tx, .int 0, .int nm0, .int 0, .int 0, .long 0, .int 0, .null, .ref la, .ref sa, .int (nI n), .null, .null])), (la, .inl (kE, cp, .inr (.inr (.inr (.inr f))))), (sa, .inl (kI, cp, .inl g)), (mr 8, .inl (kL, 3002, .inr (.inl fn))), (mr 6, .inl (kI, 3002, .inl fa))]) (w1 := [(m9, .inr (23, mA mr mv vf xl (nI zs) ff_40 xa_41 (nI T) (nI (pp1 + 1)) xi xt xn (nI (ns + 1)) (nI vv) (nI bb1))), (mr 5, .inl (kI, 3002, .inl fk))]) hP hD [6, 4] [0, 1, 2, 3, 5] rfl rfl (by decide) (by decide) hk1 hFc hP1 hD1
                            replace hP := hPj
                            replace hD := hDj
                            clear hPj hDj
                            replace hK := hK.app hK1
                            generalize H1 = H at hP hS ⊢
                            replace hP : va_P (dC, dI) vwCl (([(ee, .inr (15, [.int 5, .int tx, .int 0, .int nm0, .int 0, .int 0, .long 0, .int 0, .null, .ref la, .ref sa, .int (nI n), .null, .null])), (la, .inl (kE, cp, .inr (.inr (.inr (.inr f))))), (sa, .inl (kI, cp, .inl g)), (mr 8, .inl (kL, 3002, .inr (.inl fn))), (mr 6, .inl (kI, 3002, .inl fa)), (m9, .inr (23, mA mr mv vf xl (nI zs) ff_40 xa_41 (nI T) (nI (pp1 + 1)) xi xt xn (nI (ns + 1)) (nI vv) (nI bb1))), (mr 5, .inl (kI, 3002, .inl fk))] : va_W) ++ (sT L1 F1)) H := hP
                            replace hD : va_D A (([(ee, .inr (15, [.int 5, .int tx, .int 0, .int nm0, .int 0, .int 0, .long 0, .int 0, .null, .ref la, .ref sa, .int (nI n), .null, .null])), (la, .inl (kE, cp, .inr (.inr (.inr (.inr f))))), (sa, .inl (kI, cp, .inl g)), (mr 8, .inl (kL, 3002, .inr (.inl fn))), (mr 6, .inl (kI, 3002, .inl fa)), (m9, .inr (23, mA mr mv vf xl (nI zs) ff_40 xa_41 (nI T) (nI (pp1 + 1)) xi xt xn (nI (ns + 1)) (nI vv) (nI bb1))), (mr 5, .inl (kI, 3002, .inl fk))] : va_W) ++ (sT L1 F1)) := hD
                            replace hK : va_K (dC, dI) vwCl [(kI, .int), (kL, .long), (kE, .object RX15), (kI, .int)] s := hK
                            replace hK := hK.sub (tys' := [(kI, .int), (kL, .long), (kE, .object RX15)]) [0, 1, 2] rfl
                            clear hz1 hk1 hPc hDc hKc hFc hP1 hD1 hK1
                            obtain rfl : r_45 = 0 := hw
                            refine lv_istore_n (lv' := [(2, .int 0), (3, .int (nI pp1)), (0, .ref m9), (1, .ref ee)]) hx hb dX23_newFields_107 rfl hl (by decide) rfl (fun ls hl => ?_)
                            refine lv_goto (tgt := 63) hx hb dX23_newFields_108 (by decide) ?_
                            refine W.widen (k := (8 * ((pp1 + 1) - pp) - 3 * n - 8 * 0)) (n := (120 * ((pp1 + 1) - pp) + 4 * cp + 8 - 64 * n - 120 * 0)) (by omega) (by omega) ?_
                            exact ih1 (pp1 + 1) bb1 la sa cp n 0 ff_40 xa_41 0 L1 F1 f g _ _ _ (⟨by omega, by omega, by omega, by omega, by omega, by omega, by omega, by omega, by omega, by omega, by omega, hT⟩) (Or.inl hf42_0) hr2 hr3 (fun q9 => absurd q9 hf42_0) (hP.subT [0, 1, 2, 5, 6, 4, 3] rfl) (hD.subT [0, 1, 2, 5, 6, 4, 3] (by decide) rfl) hS (lv_sub hl [0, 2, 3] rfl)
                        · replace hPc := hP.subF (f' := [(m9, .inr (23, mA mr mv vf xl (nI zs) 0 xa1 (nI T) (nI pp1) xi xt xn (nI (ns + 1)) (nI vv) (nI bb1))), (mr 5, .inl (kI, 3002, .inl fk)), (mr 6, .inl (kI, 3002, .inl fa))]) [6, 3, 4] rfl
                          replace hDc := hD.subF (f' := [(m9, .inr (23, mA mr mv vf xl (nI zs) 0 xa1 (nI T) (nI pp1) xi xt xn (nI (ns + 1)) (nI vv) (nI bb1))), (mr 5, .inl (kI, 3002, .inl fk)), (mr 6, .inl (kI, 3002, .inl fa))]) [6, 3, 4] (by decide) rfl
                          replace hKc := hK.sub (tys' := [(kI, .int)]) [0] rfl
                          replace hFc := va_freeT (wc := [(m9, .inr (23, mA mr mv vf xl (nI zs) 0 xa1 (nI T) (nI pp1) xi xt xn (nI (ns + 1)) (nI vv) (nI bb1))), (mr 5, .inl (kI, 3002, .inl fk)), (mr 6, .inl (kI, 3002, .inl fa))]) hD hS hA [6, 3, 4] rfl
                          refine va_calli (va_runV (As := []) (rest := []) ⟨hx, hb, hml, hown, hts⟩ (c_rnmN l dC dI m9 mr mv vf xl xa1 xi xt xn zs T pp1 (ns + 1) vv bb1 kI fk fa H.size hT hr0.2.2.1 hk0 hk_36) (cwV 0 hts g_c_xnf_c_rnmN_75 rfl rfl rfl (by decide +kernel) ⟨by show 2 + 1 ≤ 3 + 12 * k; omega, by show 8 + (1 + 11) + (43) ≤ 63 + 279 * k; omega⟩) ⟨fun a U g mk q => by obtain ⟨q0, q1, qP, qK, qD⟩ := q; exact ⟨q0, q1, qP, va_K.moved (u := U) (U := U.calling g mk a) (Vm.Alike.refl U.vm) qK, qD⟩, va_recv hKc hPc (ci := 23) (q0 := 0) rfl rfl, fun U hU hW => ⟨rfl, by rw [hU], by rw [hU]; exact hPc, va_K.moved hW.alike hKc, hDc.weaken (fun _ _ _ _ => trivial)⟩⟩ rfl rfl hl.1 rfl (lv_room (Nat.le_of_ble_eq_true rfl)) dX23_newFields_75 ⟨(show (8 * (pp1 - pp) - 3 * n - 8 * cm) + 0 ≤ (8 * (T - pp) + 3) by omega), (show (120 * (pp1 - pp) + 4 * cp + 8 - 64 * n - 120 * cm) + 0 ≤ (120 * (T - pp) + 280) by omega)⟩) hS (fun q _ h => hFc q h) hFc (fun r_39 u tS H1 locs ht hvm hw hB hz1 hk1 hS => ?_)
                          obtain ⟨ff_37, xa_38, hf39_0, hP1, hK1, hD1⟩ := hB
                          rw [ht] at hP1
                          replace hK1 := va_K.moved hvm.symm hK1
                          obtain ⟨hPj, hDj⟩ := va_joinT (wr := [(ee, .inr (15, [.int 5, .int tx, .int 0, .int nm0, .int 0, .int 0, .long 0, .int 0, .null, .ref la, .ref sa, .int (nI n), .null, .null])), (la, .inl (kE, cp, .inr (.inr (.inr (.inr f))))), (sa, .inl (kI, cp, .inl g)), (mr 8, .inl (kL, 3002, .inr (.inl fn)))]) (w1 := [(m9, .inr (23, mA mr mv vf xl (nI zs) ff_37 xa_38 (nI T) (nI pp1) xi xt xn (nI (ns + 1)) (nI vv) (nI bb1))), (mr 5, .inl (kI, 3002, .inl fk)), (mr 6, .inl (kI, 3002, .inl fa))]) hP hD [6, 3, 4] [0, 1, 2, 5] rfl rfl (by decide) (by decide) hk1 hFc hP1 hD1
                          replace hP := hPj
                          replace hD := hDj
                          clear hPj hDj
                          replace hK := hK.app hK1
                          generalize H1 = H at hP hS ⊢
                          replace hP : va_P (dC, dI) vwCl (([(ee, .inr (15, [.int 5, .int tx, .int 0, .int nm0, .int 0, .int 0, .long 0, .int 0, .null, .ref la, .ref sa, .int (nI n), .null, .null])), (la, .inl (kE, cp, .inr (.inr (.inr (.inr f))))), (sa, .inl (kI, cp, .inl g)), (mr 8, .inl (kL, 3002, .inr (.inl fn))), (m9, .inr (23, mA mr mv vf xl (nI zs) ff_37 xa_38 (nI T) (nI pp1) xi xt xn (nI (ns + 1)) (nI vv) (nI bb1))), (mr 5, .inl (kI, 3002, .inl fk)), (mr 6, .inl (kI, 3002, .inl fa))] : va_W) ++ (sT L1 F1)) H := hP
                          replace hD : va_D A (([(ee, .inr (15, [.int 5, .int tx, .int 0, .int nm0, .int 0, .int 0, .long 0, .int 0, .null, .ref la, .ref sa, .int (nI n), .null, .null])), (la, .inl (kE, cp, .inr (.inr (.inr (.inr f))))), (sa, .inl (kI, cp, .inl g)), (mr 8, .inl (kL, 3002, .inr (.inl fn))), (m9, .inr (23, mA mr mv vf xl (nI zs) ff_37 xa_38 (nI T) (nI pp1) xi xt xn (nI (ns + 1)) (nI vv) (nI bb1))), (mr 5, .inl (kI, 3002, .inl fk)), (mr 6, .inl (kI, 3002, .inl fa))] : va_W) ++ (sT L1 F1)) := hD
                          replace hK : va_K (dC, dI) vwCl [(kI, .int), (kL, .long), (kE, .object RX15), (kI, .int)] s := hK
                          replace hK := hK.sub (tys' := [(kI, .int), (kL, .long), (kE, .object RX15)]) [0, 1, 2] rfl
                          clear hz1 hk1 hPc hDc hKc hFc hP1 hD1 hK1
                          refine lv_istore_n (lv' := [(3, .int r_39), (2, .int mo), (0, .ref m9), (1, .ref ee)]) hx hb dX23_newFields_78 rfl hl (by decide) rfl (fun ls hl => ?_)
                          refine lv_aload_n hx hb dX23_newFields_79 rfl (lv_at hl 2 rfl) ?_
                          refine lv_bipush (v := 58) hx hb dX23_newFields_80 (by decide) ?_
                          replace hPc := hP.subF (f' := [(m9, .inr (23, mA mr mv vf xl (nI zs) ff_37 xa_38 (nI T) (nI pp1) xi xt xn (nI (ns + 1)) (nI vv) (nI bb1))), (mr 5, .inl (kI, 3002, .inl fk)), (mr 6, .inl (kI, 3002, .inl fa))]) [4, 5, 6] rfl
                          replace hDc := hD.subF (f' := [(m9, .inr (23, mA mr mv vf xl (nI zs) ff_37 xa_38 (nI T) (nI pp1) xi xt xn (nI (ns + 1)) (nI vv) (nI bb1))), (mr 5, .inl (kI, 3002, .inl fk)), (mr 6, .inl (kI, 3002, .inl fa))]) [4, 5, 6] (by decide) rfl
                          replace hKc := hK.sub (tys' := [(kI, .int)]) [0] rfl
                          replace hFc := va_freeT (wc := [(m9, .inr (23, mA mr mv vf xl (nI zs) ff_37 xa_38 (nI T) (nI pp1) xi xt xn (nI (ns + 1)) (nI vv) (nI bb1))), (mr 5, .inl (kI, 3002, .inl fk)), (mr 6, .inl (kI, 3002, .inl fa))]) hD hS hA [4, 5, 6] rfl
                          refine va_callv (va_runV (As := [.int 58]) (rest := []) ⟨hx, hb, hml, hown, hts⟩ (c_rtkB l dC dI m9 mr mv vf xl xa_38 xi xt xn zs T pp1 (ns + 1) vv bb1 kI fk fa ff_37 58 H.size hf39_0) (cwV 1 hts g_c_xnf_c_rtkB_82 rfl rfl rfl (by decide +kernel) ⟨by show 1 + 1 ≤ 3 + 12 * k; omega, by show 8 + (2 + 11) + (20) ≤ 63 + 279 * k; omega⟩) ⟨fun a U g mk q => by obtain ⟨q0, q1, qP, qK, qD⟩ := q; exact ⟨q0, q1, qP, va_K.moved (u := U) (U := U.calling g mk a) (Vm.Alike.refl U.vm) qK, qD⟩, va_recv hKc hPc (ci := 23) (q0 := 0) rfl rfl, fun U hU hW => ⟨rfl, by rw [hU], by rw [hU]; exact hPc, va_K.moved hW.alike hKc, hDc.weaken (fun _ _ _ _ => trivial)⟩⟩ rfl rfl hl.1 rfl (lv_room (Nat.le_of_ble_eq_true rfl)) dX23_newFields_82 ⟨(show (8 * (pp1 - pp) - 3 * n - 8 * cm) + 0 ≤ (8 * (T - pp) + 3) by omega), (show (120 * (pp1 - pp) + 4 * cp + 8 - 64 * n - 120 * cm) + 0 ≤ (120 * (T - pp) + 280) by omega)⟩) hS (fun q _ h => hFc q h) hFc (fun u tS H1 locs ht hvm hw hB hz1 hk1 hS => ?_)
                          obtain ⟨hP1, hK1, hD1⟩ := hB
                          rw [ht] at hP1
                          replace hK1 := va_K.moved hvm.symm hK1
                          obtain ⟨hPj, hDj⟩ := va_joinT (wr := [(ee, .inr (15, [.int 5, .int tx, .int 0, .int nm0, .int 0, .int 0, .long 0, .int 0, .null, .ref la, .ref sa, .int (nI n), .null, .null])), (la, .inl (kE, cp, .inr (.inr (.inr (.inr f))))), (sa, .inl (kI, cp, .inl g)), (mr 8, .inl (kL, 3002, .inr (.inl fn)))]) (w1 := [(m9, .inr (23, mA mr mv vf xl (nI zs) ff_37 xa_38 (nI T) (nI pp1) xi xt xn (nI (ns + 1)) (nI vv) (nI bb1))), (mr 5, .inl (kI, 3002, .inl fk)), (mr 6, .inl (kI, 3002, .inl fa))]) hP hD [4, 5, 6] [0, 1, 2, 3] rfl rfl (by decide) (by decide) hk1 hFc hP1 hD1
                          replace hP := hPj
                          replace hD := hDj
                          clear hPj hDj
                          replace hK := hK.app hK1
                          generalize H1 = H at hP hS ⊢
                          replace hP : va_P (dC, dI) vwCl (([(ee, .inr (15, [.int 5, .int tx, .int 0, .int nm0, .int 0, .int 0, .long 0, .int 0, .null, .ref la, .ref sa, .int (nI n), .null, .null])), (la, .inl (kE, cp, .inr (.inr (.inr (.inr f))))), (sa, .inl (kI, cp, .inl g)), (mr 8, .inl (kL, 3002, .inr (.inl fn))), (m9, .inr (23, mA mr mv vf xl (nI zs) ff_37 xa_38 (nI T) (nI pp1) xi xt xn (nI (ns + 1)) (nI vv) (nI bb1))), (mr 5, .inl (kI, 3002, .inl fk)), (mr 6, .inl (kI, 3002, .inl fa))] : va_W) ++ (sT L1 F1)) H := hP
                          replace hD : va_D A (([(ee, .inr (15, [.int 5, .int tx, .int 0, .int nm0, .int 0, .int 0, .long 0, .int 0, .null, .ref la, .ref sa, .int (nI n), .null, .null])), (la, .inl (kE, cp, .inr (.inr (.inr (.inr f))))), (sa, .inl (kI, cp, .inl g)), (mr 8, .inl (kL, 3002, .inr (.inl fn))), (m9, .inr (23, mA mr mv vf xl (nI zs) ff_37 xa_38 (nI T) (nI pp1) xi xt xn (nI (ns + 1)) (nI vv) (nI bb1))), (mr 5, .inl (kI, 3002, .inl fk)), (mr 6, .inl (kI, 3002, .inl fa))] : va_W) ++ (sT L1 F1)) := hD
                          replace hK : va_K (dC, dI) vwCl [(kI, .int), (kL, .long), (kE, .object RX15), (kI, .int)] s := hK
                          replace hK := hK.sub (tys' := [(kI, .int), (kL, .long), (kE, .object RX15)]) [0, 1, 2] rfl
                          clear hz1 hk1 hPc hDc hKc hFc hP1 hD1 hK1
                          refine lv_aload_n hx hb dX23_newFields_85 rfl (lv_at hl 2 rfl) ?_
                          replace hPc := hP.subF (f' := [(m9, .inr (23, mA mr mv vf xl (nI zs) ff_37 xa_38 (nI T) (nI pp1) xi xt xn (nI (ns + 1)) (nI vv) (nI bb1)))]) [4] rfl
                          replace hDc := hD.subF (f' := [(m9, .inr (23, mA mr mv vf xl (nI zs) ff_37 xa_38 (nI T) (nI pp1) xi xt xn (nI (ns + 1)) (nI vv) (nI bb1)))]) [4] (by decide) rfl
                          replace hKc := hK.sub (tys' := []) [] rfl
                          replace hFc := va_freeT (wc := [(m9, .inr (23, mA mr mv vf xl (nI zs) ff_37 xa_38 (nI T) (nI pp1) xi xt xn (nI (ns + 1)) (nI vv) (nI bb1)))]) hD hS hA [4] rfl
                          refine va_calli (va_runV (As := []) (rest := []) ⟨hx, hb, hml, hown, hts⟩ (c_rokB l dC dI m9 mr mv vf xl xa_38 xi xt xn zs T pp1 (ns + 1) vv bb1 kI fk fa ff_37 H.size hf39_0) (cwV 0 hts g_c_xnf_c_rokB_86 rfl rfl rfl (by decide +kernel) ⟨by show 0 + 1 ≤ 3 + 12 * k; omega, by show 8 + (1 + 11) + (0) ≤ 63 + 279 * k; omega⟩) ⟨fun a U g mk q => by obtain ⟨q0, q1, qP, qK, qD⟩ := q; exact ⟨q0, q1, qP, va_K.moved (u := U) (U := U.calling g mk a) (Vm.Alike.refl U.vm) qK, qD⟩, va_recv hKc hPc (ci := 23) (q0 := 0) rfl rfl, fun U hU hW => ⟨rfl, by rw [hU], by rw [hU]; exact hPc, va_K.moved hW.alike hKc, hDc.weaken (fun _ _ _ _ => trivial)⟩⟩ rfl rfl hl.1 rfl (lv_room (Nat.le_of_ble_eq_true rfl)) dX23_newFields_86 ⟨(show (8 * (pp1 - pp) - 3 * n - 8 * cm) + 0 ≤ (8 * (T - pp) + 3) by omega), (show (120 * (pp1 - pp) + 4 * cp + 8 - 64 * n - 120 * cm) + 0 ≤ (120 * (T - pp) + 280) by omega)⟩) hS (fun q _ h => hFc q h) hFc (fun r_41 u tS H1 locs ht hvm hw hB hz1 hk1 hS => ?_)
                          obtain ⟨hP1, hK1, hD1⟩ := hB
                          rw [ht] at hP1
                          replace hK1 := va_K.moved hvm.symm hK1
                          obtain ⟨hPj, hDj⟩ := va_joinT (wr := [(ee, .inr (15, [.int 5, .int tx, .int 0, .int nm0, .int 0, .int 0, .long 0, .int 0, .null, .ref la, .ref sa, .int (nI n), .null, .null])), (la, .inl (kE, cp, .inr (.inr (.inr (.inr f))))), (sa, .inl (kI, cp, .inl g)), (mr 8, .inl (kL, 3002, .inr (.inl fn))), (mr 5, .inl (kI, 3002, .inl fk)), (mr 6, .inl (kI, 3002, .inl fa))]) (w1 := [(m9, .inr (23, mA mr mv vf xl (nI zs) ff_37 xa_38 (nI T) (nI pp1) xi xt xn (nI (ns + 1)) (nI vv) (nI bb1)))]) hP hD [4] [0, 1, 2, 3, 5, 6] rfl rfl (by decide) (by decide) hk1 hFc hP1 hD1
                          replace hP := hPj
                          replace hD := hDj
                          clear hPj hDj
                          generalize H1 = H at hP hS ⊢
                          replace hP : va_P (dC, dI) vwCl (([(ee, .inr (15, [.int 5, .int tx, .int 0, .int nm0, .int 0, .int 0, .long 0, .int 0, .null, .ref la, .ref sa, .int (nI n), .null, .null])), (la, .inl (kE, cp, .inr (.inr (.inr (.inr f))))), (sa, .inl (kI, cp, .inl g)), (mr 8, .inl (kL, 3002, .inr (.inl fn))), (mr 5, .inl (kI, 3002, .inl fk)), (mr 6, .inl (kI, 3002, .inl fa)), (m9, .inr (23, mA mr mv vf xl (nI zs) ff_37 xa_38 (nI T) (nI pp1) xi xt xn (nI (ns + 1)) (nI vv) (nI bb1)))] : va_W) ++ (sT L1 F1)) H := hP
                          replace hD : va_D A (([(ee, .inr (15, [.int 5, .int tx, .int 0, .int nm0, .int 0, .int 0, .long 0, .int 0, .null, .ref la, .ref sa, .int (nI n), .null, .null])), (la, .inl (kE, cp, .inr (.inr (.inr (.inr f))))), (sa, .inl (kI, cp, .inl g)), (mr 8, .inl (kL, 3002, .inr (.inl fn))), (mr 5, .inl (kI, 3002, .inl fk)), (mr 6, .inl (kI, 3002, .inl fa)), (m9, .inr (23, mA mr mv vf xl (nI zs) ff_37 xa_38 (nI T) (nI pp1) xi xt xn (nI (ns + 1)) (nI vv) (nI bb1)))] : va_W) ++ (sT L1 F1)) := hD
                          replace hK : va_K (dC, dI) vwCl [(kI, .int), (kL, .long), (kE, .object RX15)] s := hK
                          clear hz1 hk1 hPc hDc hKc hFc hP1 hD1 hK1
                          obtain rfl : r_41 = 0 := hw
                          refine lv_if_eq (tgt := 101) hx hb dX23_newFields_89 (by decide) (fun _ => ?_) (fun c_42 => absurd (by decide) c_42)
                          refine lv_aload_n hx hb dX23_newFields_101 rfl (lv_at hl 2 rfl) ?_
                          refine lv_bipush (v := 57) hx hb dX23_newFields_102 (by decide) ?_
                          replace hPc := hP.subF (f' := [(m9, .inr (23, mA mr mv vf xl (nI zs) ff_37 xa_38 (nI T) (nI pp1) xi xt xn (nI (ns + 1)) (nI vv) (nI bb1))), (mr 5, .inl (kI, 3002, .inl fk))]) [6, 4] rfl
                          replace hDc := hD.subF (f' := [(m9, .inr (23, mA mr mv vf xl (nI zs) ff_37 xa_38 (nI T) (nI pp1) xi xt xn (nI (ns + 1)) (nI vv) (nI bb1))), (mr 5, .inl (kI, 3002, .inl fk))]) [6, 4] (by decide) rfl
                          replace hKc := hK.sub (tys' := [(kI, .int)]) [0] rfl
                          replace hFc := va_freeT (wc := [(m9, .inr (23, mA mr mv vf xl (nI zs) ff_37 xa_38 (nI T) (nI pp1) xi xt xn (nI (ns + 1)) (nI vv) (nI bb1))), (mr 5, .inl (kI, 3002, .inl fk))]) hD hS hA [6, 4] rfl
                          refine va_calli (va_runV (As := [.int 57]) (rest := []) ⟨hx, hb, hml, hown, hts⟩ (c_rtsB l dC dI m9 mr mv vf xl xa_38 xi xt xn zs T pp1 (ns + 1) vv bb1 kI fk fa ff_37 57 H.size hf39_0) (cwV 1 hts g_c_xnf_c_rtsB_104 rfl rfl rfl (by decide +kernel) ⟨by show 1 + 1 ≤ 3 + 12 * k; omega, by show 8 + (2 + 11) + (20) ≤ 63 + 279 * k; omega⟩) ⟨fun a U g mk q => by obtain ⟨q0, q1, qP, qK, qD⟩ := q; exact ⟨q0, q1, qP, va_K.moved (u := U) (U := U.calling g mk a) (Vm.Alike.refl U.vm) qK, qD⟩, va_recv hKc hPc (ci := 23) (q0 := 0) rfl rfl, fun U hU hW => ⟨rfl, by rw [hU], by rw [hU]; exact hPc, va_K.moved hW.alike hKc, hDc.weaken (fun _ _ _ _ => trivial)⟩⟩ rfl rfl hl.1 rfl (lv_room (Nat.le_of_ble_eq_true rfl)) dX23_newFields_104 ⟨(show (8 * (pp1 - pp) - 3 * n - 8 * cm) + 0 ≤ (8 * (T - pp) + 3) by omega), (show (120 * (pp1 - pp) + 4 * cp + 8 - 64 * n - 120 * cm) + 0 ≤ (120 * (T - pp) + 280) by omega)⟩) hS (fun q _ h => hFc q h) hFc (fun r_43 u tS H1 locs ht hvm hw hB hz1 hk1 hS => ?_)
                          obtain ⟨hP1, hK1, hD1⟩ := hB
                          rw [ht] at hP1
                          replace hK1 := va_K.moved hvm.symm hK1
                          obtain ⟨hPj, hDj⟩ := va_joinT (wr := [(ee, .inr (15, [.int 5, .int tx, .int 0, .int nm0, .int 0, .int 0, .long 0, .int 0, .null, .ref la, .ref sa, .int (nI n), .null, .null])), (la, .inl (kE, cp, .inr (.inr (.inr (.inr f))))), (sa, .inl (kI, cp, .inl g)), (mr 8, .inl (kL, 3002, .inr (.inl fn))), (mr 6, .inl (kI, 3002, .inl fa))]) (w1 := [(m9, .inr (23, mA mr mv vf xl (nI zs) ff_37 xa_38 (nI T) (nI pp1) xi xt xn (nI (ns + 1)) (nI vv) (nI bb1))), (mr 5, .inl (kI, 3002, .inl fk))]) hP hD [6, 4] [0, 1, 2, 3, 5] rfl rfl (by decide) (by decide) hk1 hFc hP1 hD1
                          replace hP := hPj
                          replace hD := hDj
                          clear hPj hDj
                          replace hK := hK.app hK1
                          generalize H1 = H at hP hS ⊢
                          replace hP : va_P (dC, dI) vwCl (([(ee, .inr (15, [.int 5, .int tx, .int 0, .int nm0, .int 0, .int 0, .long 0, .int 0, .null, .ref la, .ref sa, .int (nI n), .null, .null])), (la, .inl (kE, cp, .inr (.inr (.inr (.inr f))))), (sa, .inl (kI, cp, .inl g)), (mr 8, .inl (kL, 3002, .inr (.inl fn))), (mr 6, .inl (kI, 3002, .inl fa)), (m9, .inr (23, mA mr mv vf xl (nI zs) ff_37 xa_38 (nI T) (nI pp1) xi xt xn (nI (ns + 1)) (nI vv) (nI bb1))), (mr 5, .inl (kI, 3002, .inl fk))] : va_W) ++ (sT L1 F1)) H := hP
                          replace hD : va_D A (([(ee, .inr (15, [.int 5, .int tx, .int 0, .int nm0, .int 0, .int 0, .long 0, .int 0, .null, .ref la, .ref sa, .int (nI n), .null, .null])), (la, .inl (kE, cp, .inr (.inr (.inr (.inr f))))), (sa, .inl (kI, cp, .inl g)), (mr 8, .inl (kL, 3002, .inr (.inl fn))), (mr 6, .inl (kI, 3002, .inl fa)), (m9, .inr (23, mA mr mv vf xl (nI zs) ff_37 xa_38 (nI T) (nI pp1) xi xt xn (nI (ns + 1)) (nI vv) (nI bb1))), (mr 5, .inl (kI, 3002, .inl fk))] : va_W) ++ (sT L1 F1)) := hD
                          replace hK : va_K (dC, dI) vwCl [(kI, .int), (kL, .long), (kE, .object RX15), (kI, .int)] s := hK
                          replace hK := hK.sub (tys' := [(kI, .int), (kL, .long), (kE, .object RX15)]) [0, 1, 2] rfl
                          clear hz1 hk1 hPc hDc hKc hFc hP1 hD1 hK1
                          obtain rfl : r_43 = 0 := hw
                          refine lv_istore_n (lv' := [(2, .int 0), (3, .int r_39), (0, .ref m9), (1, .ref ee)]) hx hb dX23_newFields_107 rfl hl (by decide) rfl (fun ls hl => ?_)
                          refine lv_goto (tgt := 63) hx hb dX23_newFields_108 (by decide) ?_
                          refine W.widen (k := (8 * (pp1 - pp) - 3 * n - 8 * 0)) (n := (120 * (pp1 - pp) + 4 * cp + 8 - 64 * n - 120 * 0)) (by omega) (by omega) ?_
                          exact ih1 pp1 bb1 la sa cp n 0 ff_37 xa_38 0 L1 F1 f g _ _ _ (⟨by omega, by omega, by omega, by omega, by omega, by omega, by omega, by omega, by omega, by omega, by omega, hT⟩) (Or.inl hf39_0) hr2 hr3 (fun q9 => absurd q9 hf39_0) (hP.subT [0, 1, 2, 5, 6, 4, 3] rfl) (hD.subT [0, 1, 2, 5, 6, 4, 3] (by decide) rfl) hS (lv_sub hl [0, 2, 3] rfl)
                    · replace hPc := hP.subF (f' := [(m9, .inr (23, mA mr mv vf xl (nI zs) ff1 xa1 (nI T) (nI pp1) xi xt xn (nI (ns + 1)) (nI vv) (nI bb1)))]) [3] rfl
                      replace hDc := hD.subF (f' := [(m9, .inr (23, mA mr mv vf xl (nI zs) ff1 xa1 (nI T) (nI pp1) xi xt xn (nI (ns + 1)) (nI vv) (nI bb1)))]) [3] (by decide) rfl
                      replace hKc := hK.sub (tys' := []) [] rfl
                      replace hFc := va_freeT (wc := [(m9, .inr (23, mA mr mv vf xl (nI zs) ff1 xa1 (nI T) (nI pp1) xi xt xn (nI (ns + 1)) (nI vv) (nI bb1)))]) hD hS hA [3] rfl
                      refine va_calli (va_runV (As := []) (rest := []) ⟨hx, hb, hml, hown, hts⟩ (c_rokB l dC dI m9 mr mv vf xl xa1 xi xt xn zs T pp1 (ns + 1) vv bb1 kI fk fa ff1 H.size hz_32) (cwV 0 hts g_c_xnf_c_rokB_64 rfl rfl rfl (by decide +kernel) ⟨by show 0 + 1 ≤ 3 + 12 * k; omega, by show 8 + (1 + 11) + (0) ≤ 63 + 279 * k; omega⟩) ⟨fun a U g mk q => by obtain ⟨q0, q1, qP, qK, qD⟩ := q; exact ⟨q0, q1, qP, va_K.moved (u := U) (U := U.calling g mk a) (Vm.Alike.refl U.vm) qK, qD⟩, va_recv hKc hPc (ci := 23) (q0 := 0) rfl rfl, fun U hU hW => ⟨rfl, by rw [hU], by rw [hU]; exact hPc, va_K.moved hW.alike hKc, hDc.weaken (fun _ _ _ _ => trivial)⟩⟩ rfl rfl hl.1 rfl (lv_room (Nat.le_of_ble_eq_true rfl)) dX23_newFields_64 ⟨(show (8 * (pp1 - pp) - 3 * n - 8 * cm) + 0 ≤ (8 * (T - pp) + 3) by omega), (show (120 * (pp1 - pp) + 4 * cp + 8 - 64 * n - 120 * cm) + 0 ≤ (120 * (T - pp) + 280) by omega)⟩) hS (fun q _ h => hFc q h) hFc (fun r_33 u tS H1 locs ht hvm hw hB hz1 hk1 hS => ?_)
                      obtain ⟨hP1, hK1, hD1⟩ := hB
                      rw [ht] at hP1
                      replace hK1 := va_K.moved hvm.symm hK1
                      obtain ⟨hPj, hDj⟩ := va_joinT (wr := [(ee, .inr (15, [.int 5, .int tx, .int 0, .int nm0, .int 0, .int 0, .long 0, .int 0, .null, .ref la, .ref sa, .int (nI n), .null, .null])), (la, .inl (kE, cp, .inr (.inr (.inr (.inr f))))), (sa, .inl (kI, cp, .inl g)), (mr 5, .inl (kI, 3002, .inl fk)), (mr 6, .inl (kI, 3002, .inl fa)), (mr 8, .inl (kL, 3002, .inr (.inl fn)))]) (w1 := [(m9, .inr (23, mA mr mv vf xl (nI zs) ff1 xa1 (nI T) (nI pp1) xi xt xn (nI (ns + 1)) (nI vv) (nI bb1)))]) hP hD [3] [0, 1, 2, 4, 5, 6] rfl rfl (by decide) (by decide) hk1 hFc hP1 hD1
                      replace hP := hPj
                      replace hD := hDj
                      clear hPj hDj
                      generalize H1 = H at hP hS ⊢
                      replace hP : va_P (dC, dI) vwCl (([(ee, .inr (15, [.int 5, .int tx, .int 0, .int nm0, .int 0, .int 0, .long 0, .int 0, .null, .ref la, .ref sa, .int (nI n), .null, .null])), (la, .inl (kE, cp, .inr (.inr (.inr (.inr f))))), (sa, .inl (kI, cp, .inl g)), (mr 5, .inl (kI, 3002, .inl fk)), (mr 6, .inl (kI, 3002, .inl fa)), (mr 8, .inl (kL, 3002, .inr (.inl fn))), (m9, .inr (23, mA mr mv vf xl (nI zs) ff1 xa1 (nI T) (nI pp1) xi xt xn (nI (ns + 1)) (nI vv) (nI bb1)))] : va_W) ++ (sT L1 F1)) H := hP
                      replace hD : va_D A (([(ee, .inr (15, [.int 5, .int tx, .int 0, .int nm0, .int 0, .int 0, .long 0, .int 0, .null, .ref la, .ref sa, .int (nI n), .null, .null])), (la, .inl (kE, cp, .inr (.inr (.inr (.inr f))))), (sa, .inl (kI, cp, .inl g)), (mr 5, .inl (kI, 3002, .inl fk)), (mr 6, .inl (kI, 3002, .inl fa)), (mr 8, .inl (kL, 3002, .inr (.inl fn))), (m9, .inr (23, mA mr mv vf xl (nI zs) ff1 xa1 (nI T) (nI pp1) xi xt xn (nI (ns + 1)) (nI vv) (nI bb1)))] : va_W) ++ (sT L1 F1)) := hD
                      replace hK : va_K (dC, dI) vwCl [(kI, .int), (kL, .long), (kE, .object RX15)] s := hK
                      clear hz1 hk1 hPc hDc hKc hFc hP1 hD1 hK1
                      obtain rfl : r_33 = 0 := hw
                      refine lv_if_eq (tgt := 111) hx hb dX23_newFields_67 (by decide) (fun _ => ?_) (fun c_34 => absurd (by decide) c_34)
                      refine lv_aload_n hx hb dX23_newFields_111 rfl (lv_at hl 1 rfl) ?_
                      refine lv_dup hx hb dX23_newFields_112 rfl ?_
                      refine va_get (D := (dC, dI)) (ci := 23) (v := .int (nI (ns + 1))) (C := RX23) (T := TX23) (N := 89) hx hb hts in_c_xnf_X23 hown hK hP 6 rfl rfl 15 (by decide) (hts (.fieldLink RX23 104 "OwnedPlacesModel" "nest" "I") (wm_c_xnf 29 rfl)) (fun _ h9 => h9) rfl dX23_newFields_113 ?_
                      refine lv_iconst (v := 1) hx hb dX23_newFields_116 (by decide) ?_
                      refine lv_isub hx hb dX23_newFields_117 ?_
                      refine lv_topi (fun f_35 ef_35 => ?_)
                      obtain rfl : f_35 = nI ns := ef_35.trans (nI_pred _)
                      refine va_put (D := (dC, dI)) (ci := 23) (v := .int (nI ns)) (ty := .int) (C := RX23) (T := TX23) (N := 89) hx hb hts in_c_xnf_X23 tyX23 tyX23_ok nmX23 hown hK hP hD hS 6 rfl rfl 15 (by decide) (hts (.fieldLink RX23 104 "OwnedPlacesModel" "nest" "I") (wm_c_xnf 29 rfl)) (fun _ h9 => h9) rfl (by decide +kernel) rfl rfl (Nat.le_of_ble_eq_true rfl) dX23_newFields_118 (fun H locs hP hD hS => ?_)
                      replace hP : va_P (dC, dI) vwCl (([(ee, .inr (15, [.int 5, .int tx, .int 0, .int nm0, .int 0, .int 0, .long 0, .int 0, .null, .ref la, .ref sa, .int (nI n), .null, .null])), (la, .inl (kE, cp, .inr (.inr (.inr (.inr f))))), (sa, .inl (kI, cp, .inl g)), (mr 5, .inl (kI, 3002, .inl fk)), (mr 6, .inl (kI, 3002, .inl fa)), (mr 8, .inl (kL, 3002, .inr (.inl fn))), (m9, .inr (23, mA mr mv vf xl (nI zs) ff1 xa1 (nI T) (nI pp1) xi xt xn (nI ns) (nI vv) (nI bb1)))] : va_W) ++ (sT L1 F1)) H := hP
                      replace hD : va_D A (([(ee, .inr (15, [.int 5, .int tx, .int 0, .int nm0, .int 0, .int 0, .long 0, .int 0, .null, .ref la, .ref sa, .int (nI n), .null, .null])), (la, .inl (kE, cp, .inr (.inr (.inr (.inr f))))), (sa, .inl (kI, cp, .inl g)), (mr 5, .inl (kI, 3002, .inl fk)), (mr 6, .inl (kI, 3002, .inl fa)), (mr 8, .inl (kL, 3002, .inr (.inl fn))), (m9, .inr (23, mA mr mv vf xl (nI zs) ff1 xa1 (nI T) (nI pp1) xi xt xn (nI ns) (nI vv) (nI bb1)))] : va_W) ++ (sT L1 F1)) := hD
                      refine lv_aload_n hx hb dX23_newFields_121 rfl (lv_at hl 1 rfl) ?_
                      refine lv_bipush (v := 64) hx hb dX23_newFields_122 (by decide) ?_
                      replace hPc := hP.subF (f' := [(m9, .inr (23, mA mr mv vf xl (nI zs) ff1 xa1 (nI T) (nI pp1) xi xt xn (nI ns) (nI vv) (nI bb1))), (mr 5, .inl (kI, 3002, .inl fk)), (mr 6, .inl (kI, 3002, .inl fa))]) [6, 3, 4] rfl
                      replace hDc := hD.subF (f' := [(m9, .inr (23, mA mr mv vf xl (nI zs) ff1 xa1 (nI T) (nI pp1) xi xt xn (nI ns) (nI vv) (nI bb1))), (mr 5, .inl (kI, 3002, .inl fk)), (mr 6, .inl (kI, 3002, .inl fa))]) [6, 3, 4] (by decide) rfl
                      replace hKc := hK.sub (tys' := [(kI, .int)]) [0] rfl
                      replace hFc := va_freeT (wc := [(m9, .inr (23, mA mr mv vf xl (nI zs) ff1 xa1 (nI T) (nI pp1) xi xt xn (nI ns) (nI vv) (nI bb1))), (mr 5, .inl (kI, 3002, .inl fk)), (mr 6, .inl (kI, 3002, .inl fa))]) hD hS hA [6, 3, 4] rfl
                      refine va_callv (va_runV (As := [.int 64]) (rest := []) ⟨hx, hb, hml, hown, hts⟩ (c_rtkB l dC dI m9 mr mv vf xl xa1 xi xt xn zs T pp1 ns vv bb1 kI fk fa ff1 64 H.size hz_32) (cwV 1 hts g_c_xnf_c_rtkB_124 rfl rfl rfl (by decide +kernel) ⟨by show 1 + 1 ≤ 3 + 12 * k; omega, by show 8 + (2 + 11) + (20) ≤ 63 + 279 * k; omega⟩) ⟨fun a U g mk q => by obtain ⟨q0, q1, qP, qK, qD⟩ := q; exact ⟨q0, q1, qP, va_K.moved (u := U) (U := U.calling g mk a) (Vm.Alike.refl U.vm) qK, qD⟩, va_recv hKc hPc (ci := 23) (q0 := 0) rfl rfl, fun U hU hW => ⟨rfl, by rw [hU], by rw [hU]; exact hPc, va_K.moved hW.alike hKc, hDc.weaken (fun _ _ _ _ => trivial)⟩⟩ rfl rfl hl.1 rfl (lv_room (Nat.le_of_ble_eq_true rfl)) dX23_newFields_124 ⟨(show (8 * (pp1 - pp) - 3 * n - 8 * cm) + 0 ≤ (8 * (T - pp) + 3) by omega), (show (120 * (pp1 - pp) + 4 * cp + 8 - 64 * n - 120 * cm) + 0 ≤ (120 * (T - pp) + 280) by omega)⟩) hS (fun q _ h => hFc q h) hFc (fun u tS H1 locs ht hvm hw hB hz1 hk1 hS => ?_)
                      obtain ⟨hP1, hK1, hD1⟩ := hB
                      rw [ht] at hP1
                      replace hK1 := va_K.moved hvm.symm hK1
                      obtain ⟨hPj, hDj⟩ := va_joinT (wr := [(ee, .inr (15, [.int 5, .int tx, .int 0, .int nm0, .int 0, .int 0, .long 0, .int 0, .null, .ref la, .ref sa, .int (nI n), .null, .null])), (la, .inl (kE, cp, .inr (.inr (.inr (.inr f))))), (sa, .inl (kI, cp, .inl g)), (mr 8, .inl (kL, 3002, .inr (.inl fn)))]) (w1 := [(m9, .inr (23, mA mr mv vf xl (nI zs) ff1 xa1 (nI T) (nI pp1) xi xt xn (nI ns) (nI vv) (nI bb1))), (mr 5, .inl (kI, 3002, .inl fk)), (mr 6, .inl (kI, 3002, .inl fa))]) hP hD [6, 3, 4] [0, 1, 2, 5] rfl rfl (by decide) (by decide) hk1 hFc hP1 hD1
                      replace hP := hPj
                      replace hD := hDj
                      clear hPj hDj
                      replace hK := hK.app hK1
                      generalize H1 = H at hP hS ⊢
                      replace hP : va_P (dC, dI) vwCl (([(ee, .inr (15, [.int 5, .int tx, .int 0, .int nm0, .int 0, .int 0, .long 0, .int 0, .null, .ref la, .ref sa, .int (nI n), .null, .null])), (la, .inl (kE, cp, .inr (.inr (.inr (.inr f))))), (sa, .inl (kI, cp, .inl g)), (mr 8, .inl (kL, 3002, .inr (.inl fn))), (m9, .inr (23, mA mr mv vf xl (nI zs) ff1 xa1 (nI T) (nI pp1) xi xt xn (nI ns) (nI vv) (nI bb1))), (mr 5, .inl (kI, 3002, .inl fk)), (mr 6, .inl (kI, 3002, .inl fa))] : va_W) ++ (sT L1 F1)) H := hP
                      replace hD : va_D A (([(ee, .inr (15, [.int 5, .int tx, .int 0, .int nm0, .int 0, .int 0, .long 0, .int 0, .null, .ref la, .ref sa, .int (nI n), .null, .null])), (la, .inl (kE, cp, .inr (.inr (.inr (.inr f))))), (sa, .inl (kI, cp, .inl g)), (mr 8, .inl (kL, 3002, .inr (.inl fn))), (m9, .inr (23, mA mr mv vf xl (nI zs) ff1 xa1 (nI T) (nI pp1) xi xt xn (nI ns) (nI vv) (nI bb1))), (mr 5, .inl (kI, 3002, .inl fk)), (mr 6, .inl (kI, 3002, .inl fa))] : va_W) ++ (sT L1 F1)) := hD
                      replace hK : va_K (dC, dI) vwCl [(kI, .int), (kL, .long), (kE, .object RX15), (kI, .int)] s := hK
                      replace hK := hK.sub (tys' := [(kI, .int), (kL, .long), (kE, .object RX15)]) [0, 1, 2] rfl
                      clear hz1 hk1 hPc hDc hKc hFc hP1 hD1 hK1
                      replace hP : va_P (dC, dI) vwCl ((([(ee, .inr (15, [.int 5, .int tx, .int 0, .int nm0, .int 0, .int 0, .long 0, .int 0, .null, .ref la, .ref sa, .int (nI n), .null, .null])), (mr 8, .inl (kL, 3002, .inr (.inl fn))), (m9, .inr (23, mA mr mv vf xl (nI zs) ff1 xa1 (nI T) (nI pp1) xi xt xn (nI ns) (nI vv) (nI bb1))), (mr 5, .inl (kI, 3002, .inl fk)), (mr 6, .inl (kI, 3002, .inl fa))] : va_W) ++ ([(la, .inl (kE, cp, .inr (.inr (.inr (.inr f))))), (sa, .inl (kI, cp, .inl g))] : va_W)) ++ sT L1 F1) H := hP.subT (f' := [(ee, .inr (15, [.int 5, .int tx, .int 0, .int nm0, .int 0, .int 0, .long 0, .int 0, .null, .ref la, .ref sa, .int (nI n), .null, .null])), (mr 8, .inl (kL, 3002, .inr (.inl fn))), (m9, .inr (23, mA mr mv vf xl (nI zs) ff1 xa1 (nI T) (nI pp1) xi xt xn (nI ns) (nI vv) (nI bb1))), (mr 5, .inl (kI, 3002, .inl fk)), (mr 6, .inl (kI, 3002, .inl fa)), (la, .inl (kE, cp, .inr (.inr (.inr (.inr f))))), (sa, .inl (kI, cp, .inl g))]) [0, 3, 4, 5, 6, 1, 2] rfl
                      replace hD : va_D A ((([(ee, .inr (15, [.int 5, .int tx, .int 0, .int nm0, .int 0, .int 0, .long 0, .int 0, .null, .ref la, .ref sa, .int (nI n), .null, .null])), (mr 8, .inl (kL, 3002, .inr (.inl fn))), (m9, .inr (23, mA mr mv vf xl (nI zs) ff1 xa1 (nI T) (nI pp1) xi xt xn (nI ns) (nI vv) (nI bb1))), (mr 5, .inl (kI, 3002, .inl fk)), (mr 6, .inl (kI, 3002, .inl fa))] : va_W) ++ ([(la, .inl (kE, cp, .inr (.inr (.inr (.inr f))))), (sa, .inl (kI, cp, .inl g))] : va_W)) ++ sT L1 F1) := hD.subT (f' := [(ee, .inr (15, [.int 5, .int tx, .int 0, .int nm0, .int 0, .int 0, .long 0, .int 0, .null, .ref la, .ref sa, .int (nI n), .null, .null])), (mr 8, .inl (kL, 3002, .inr (.inl fn))), (m9, .inr (23, mA mr mv vf xl (nI zs) ff1 xa1 (nI T) (nI pp1) xi xt xn (nI ns) (nI vv) (nI bb1))), (mr 5, .inl (kI, 3002, .inl fk)), (mr 6, .inl (kI, 3002, .inl fa)), (la, .inl (kE, cp, .inr (.inr (.inr (.inr f))))), (sa, .inl (kI, cp, .inl g))]) [0, 3, 4, 5, 6, 1, 2] (by decide) rfl
                      obtain ⟨L9, F9, hx9, hm9, hP, hD⟩ := st_fileL [(la, .inl (kE, cp, .inr (.inr (.inr (.inr f))))), (sa, .inl (kI, cp, .inl g))] hP hD
                      have hm9_0 := hm9 _ (List.mem_of_getElem? (i := 0) rfl)
                      have hm9_1 := hm9 _ (List.mem_of_getElem? (i := 1) rfl)
                      refine W.grow (fun hgs0 hgs1 => ?_)
                      have hP9 := hP.subT (f' := [(ee, .inr (15, [.int 5, .int tx, .int 0, .int nm0, .int 0, .int 0, .long 0, .int 0, .null, (.ref la), (.ref sa), .int (nI n), .null, .null])), (m9, .inr (23, mA mr mv vf xl (nI zs) ff1 xa1 (nI T) (nI pp1) xi xt xn (nI ns) (nI vv) (nI bb1))), (mr 5, .inl (kI, 3002, .inl fk)), (mr 6, .inl (kI, 3002, .inl fa)), (mr 8, .inl (kL, 3002, .inr (.inl fn)))]) [0, 2, 3, 4, 1] rfl
                      have hD9 := hD.subT (f' := [(ee, .inr (15, [.int 5, .int tx, .int 0, .int nm0, .int 0, .int 0, .long 0, .int 0, .null, (.ref la), (.ref sa), .int (nI n), .null, .null])), (m9, .inr (23, mA mr mv vf xl (nI zs) ff1 xa1 (nI T) (nI pp1) xi xt xn (nI ns) (nI vv) (nI bb1))), (mr 5, .inl (kI, 3002, .inl fk)), (mr 6, .inl (kI, 3002, .inl fa)), (mr 8, .inl (kL, 3002, .inr (.inl fn)))]) [0, 2, 3, 4, 1] (by decide) rfl
                      have hK9 := hK.sub (tys' := [(kI, .int), (kL, .long), (kE, .object RX15)]) [0, 1, 2] rfl
                      refine W.widen (k := (8 * (T - pp) + 3)) (n := (120 * (T - pp) + 280)) (by omega) (by omega) ?_
                      subst hQ1
                      exact W.vret hx hb hr (fun tS ht hW => ⟨⟨(), rfl, trivial, L9, F9, ff1, xa1, pp1, bb1, nm0, .ref la, .ref sa, n, (hr2).tr hx9, ⟨by omega, by omega, by omega, by omega⟩, (fun q9 => absurd q9 hz_32), by rw [ht]; exact ⟨by omega, by omega⟩, by rw [ht]; exact hP9, va_K.moved hW.alike hK9, hD9⟩, hS.F ht⟩) hS.2.2 dX23_newFields_127
                refine W.widen (k := (8 * ((pp25 + 1) - pp) - 3 * 1 - 8 * 1)) (n := (120 * ((pp25 + 1) - pp) + 4 * 4 + 8 - 64 * 1 - 120 * 1)) (by omega) (by omega) ?_
                exact key1 (T + 1 - (pp25 + 1) + 1) (pp25 + 1) bb25 la26 sa26 4 1 1 0 xa25 1 L25 F25 f26 g26 _ _ _ (⟨by omega, by omega, by omega, by omega, by omega, by omega, by omega, by omega, by omega, by omega, by omega, hT⟩) (Or.inr (by omega)) hf26_0.1 (fun i hi => by obtain rfl : i = 0 := (by omega); exact ⟨_, hf27_1.1, hf26_0.2⟩) (fun _ => ⟨hg25.1, _, chP_add (chP_0 (f := f26) (g := g26) (Nat.le_refl (pp + 1))) (fun i hi => absurd hi (by omega)) hf27_1.1 hf27_1.2 (by omega) (isE_im exS.rf _ (by omega) hg25.2) (Or.inr ⟨by omega, by omega⟩), Or.inr ⟨by decide, rfl, by omega⟩⟩) (hP.subT [2, 3, 4, 5, 6, 0, 1] rfl) (hD.subT [2, 3, 4, 5, 6, 0, 1] (by decide) rfl) hS (lv_sub hl [0, 2, 3] rfl)
              · replace hPc := hP.subF (f' := [(m9, .inr (23, mA mr mv vf xl (nI zs) 0 xa25 (nI T) (nI pp25) xi xt xn (nI (ns + 1)) (nI vv) (nI bb25))), (mr 5, .inl (kI, 3002, .inl fk))]) [0, 1] rfl
                replace hDc := hD.subF (f' := [(m9, .inr (23, mA mr mv vf xl (nI zs) 0 xa25 (nI T) (nI pp25) xi xt xn (nI (ns + 1)) (nI vv) (nI bb25))), (mr 5, .inl (kI, 3002, .inl fk))]) [0, 1] (by decide) rfl
                replace hKc := hK.sub (tys' := [(kI, .int)]) [0] rfl
                replace hFc := va_freeT (wc := [(m9, .inr (23, mA mr mv vf xl (nI zs) 0 xa25 (nI T) (nI pp25) xi xt xn (nI (ns + 1)) (nI vv) (nI bb25))), (mr 5, .inl (kI, 3002, .inl fk))]) hD hS hA [0, 1] rfl
                refine va_calli (va_runV (As := [.int 57]) (rest := []) ⟨hx, hb, hml, hown, hts⟩ (c_rtsN l dC dI m9 mr mv vf xl xa25 xi xt xn zs T pp25 (ns + 1) vv bb25 kI fk fa 57 H.size hT hf26_1.2.1 hk0 (by decide) hk_29) (cwV 1 hts g_c_xnf_c_rtsN_104 rfl rfl rfl (by decide +kernel) ⟨by show 1 + 1 ≤ 3 + 12 * k; omega, by show 8 + (2 + 11) + (21) ≤ 63 + 279 * k; omega⟩) ⟨fun a U g mk q => by obtain ⟨q0, q1, qP, qK, qD⟩ := q; exact ⟨q0, q1, qP, va_K.moved (u := U) (U := U.calling g mk a) (Vm.Alike.refl U.vm) qK, qD⟩, va_recv hKc hPc (ci := 23) (q0 := 0) rfl rfl, fun U hU hW => ⟨rfl, by rw [hU], by rw [hU]; exact hPc, va_K.moved hW.alike hKc, hDc.weaken (fun _ _ _ _ => trivial)⟩⟩ rfl rfl hl.1 rfl (lv_room (Nat.le_of_ble_eq_true rfl)) dX23_newFields_104 ⟨(show (8 * (pp25 - (pp + 1 + 1 + 1 + 1 + 1)) + 3 + 2) + 0 ≤ (8 * (T - pp) + 3) by omega), (show (120 * (pp25 - (pp + 1 + 1 + 1 + 1 + 1)) + 48 + 8) + 0 ≤ (120 * (T - pp) + 280) by omega)⟩) hS (fun q _ h => hFc q h) hFc (fun r_30 u tS H1 locs ht hvm hw hB hz1 hk1 hS => ?_)
                obtain ⟨hP1, hK1, hD1⟩ := hB
                rw [ht] at hP1
                replace hK1 := va_K.moved hvm.symm hK1
                obtain ⟨hPj, hDj⟩ := va_joinT (wr := [(mr 6, .inl (kI, 3002, .inl fa)), (mr 8, .inl (kL, 3002, .inr (.inl fn))), (ee, .inr (15, [.int 5, .int tx, .int 0, .int (nI (pp + 1)), .int 0, .int 0, .long 0, .int 0, .null, .ref la26, .ref sa26, .int 1, .null, .null])), (la26, .inl (kE, 4, .inr (.inr (.inr (.inr f26))))), (sa26, .inl (kI, 4, .inl g26))]) (w1 := [(m9, .inr (23, mA mr mv vf xl (nI zs) 0 xa25 (nI T) (nI pp25) xi xt xn (nI (ns + 1)) (nI vv) (nI bb25))), (mr 5, .inl (kI, 3002, .inl fk))]) hP hD [0, 1] [2, 3, 4, 5, 6] rfl rfl (by decide) (by decide) hk1 hFc hP1 hD1
                replace hP := hPj
                replace hD := hDj
                clear hPj hDj
                replace hK := hK.app hK1
                generalize H1 = H at hP hS ⊢
                replace hP : va_P (dC, dI) vwCl (([(mr 6, .inl (kI, 3002, .inl fa)), (mr 8, .inl (kL, 3002, .inr (.inl fn))), (ee, .inr (15, [.int 5, .int tx, .int 0, .int (nI (pp + 1)), .int 0, .int 0, .long 0, .int 0, .null, .ref la26, .ref sa26, .int 1, .null, .null])), (la26, .inl (kE, 4, .inr (.inr (.inr (.inr f26))))), (sa26, .inl (kI, 4, .inl g26)), (m9, .inr (23, mA mr mv vf xl (nI zs) 0 xa25 (nI T) (nI pp25) xi xt xn (nI (ns + 1)) (nI vv) (nI bb25))), (mr 5, .inl (kI, 3002, .inl fk))] : va_W) ++ (sT L25 F25)) H := hP
                replace hD : va_D A (([(mr 6, .inl (kI, 3002, .inl fa)), (mr 8, .inl (kL, 3002, .inr (.inl fn))), (ee, .inr (15, [.int 5, .int tx, .int 0, .int (nI (pp + 1)), .int 0, .int 0, .long 0, .int 0, .null, .ref la26, .ref sa26, .int 1, .null, .null])), (la26, .inl (kE, 4, .inr (.inr (.inr (.inr f26))))), (sa26, .inl (kI, 4, .inl g26)), (m9, .inr (23, mA mr mv vf xl (nI zs) 0 xa25 (nI T) (nI pp25) xi xt xn (nI (ns + 1)) (nI vv) (nI bb25))), (mr 5, .inl (kI, 3002, .inl fk))] : va_W) ++ (sT L25 F25)) := hD
                replace hK : va_K (dC, dI) vwCl [(kI, .int), (kL, .long), (kE, .object RX15), (kI, .int)] s := hK
                replace hK := hK.sub (tys' := [(kI, .int), (kL, .long), (kE, .object RX15)]) [0, 1, 2] rfl
                clear hz1 hk1 hPc hDc hKc hFc hP1 hD1 hK1
                obtain rfl : r_30 = 0 := hw
                refine lv_istore_n (lv' := [(2, .int 0), (3, .int (nI (pp + 1 + 1 + 1))), (0, .ref m9), (1, .ref ee)]) hx hb dX23_newFields_107 rfl hl (by decide) rfl (fun ls hl => ?_)
                refine lv_goto (tgt := 63) hx hb dX23_newFields_108 (by decide) ?_
                obtain ⟨nm0, enm0⟩ : ∃ z : Int32, z = nI (pp + 1) := ⟨_, rfl⟩
                rw [← enm0] at hP hD
                replace hP : va_P (dC, dI) vwCl (([(mr 6, .inl (kI, 3002, .inl fa)), (mr 8, .inl (kL, 3002, .inr (.inl fn))), (ee, .inr (15, [.int 5, .int tx, .int 0, .int nm0, .int 0, .int 0, .long 0, .int 0, .null, .ref la26, .ref sa26, .int 1, .null, .null])), (la26, .inl (kE, 4, .inr (.inr (.inr (.inr f26))))), (sa26, .inl (kI, 4, .inl g26)), (m9, .inr (23, mA mr mv vf xl (nI zs) 0 xa25 (nI T) (nI pp25) xi xt xn (nI (ns + 1)) (nI vv) (nI bb25))), (mr 5, .inl (kI, 3002, .inl fk))] : va_W) ++ (sT L25 F25)) H := hP
                replace hD : va_D A (([(mr 6, .inl (kI, 3002, .inl fa)), (mr 8, .inl (kL, 3002, .inr (.inl fn))), (ee, .inr (15, [.int 5, .int tx, .int 0, .int nm0, .int 0, .int 0, .long 0, .int 0, .null, .ref la26, .ref sa26, .int 1, .null, .null])), (la26, .inl (kE, 4, .inr (.inr (.inr (.inr f26))))), (sa26, .inl (kI, 4, .inl g26)), (m9, .inr (23, mA mr mv vf xl (nI zs) 0 xa25 (nI T) (nI pp25) xi xt xn (nI (ns + 1)) (nI vv) (nI bb25))), (mr 5, .inl (kI, 3002, .inl fk))] : va_W) ++ (sT L25 F25)) := hD
                refine W_q (fun Q1 hQ1 => ?_)
                have key1 : ∀ (n1 : Nat) (pp1 bb1 la sa cp n cm : Nat) (ff1 xa1 mo : Int32) (L1 : List Nat) (F1 : Nat → va_E) (f : Nat → Option Nat) (g : Nat → Int32) (H : Heap) (locs : List Loc) (ls : Array Slot), (1 ≤ n1 ∧ pp + 2 ≤ pp1 ∧ pp1 < T ∧ bb ≤ bb1 ∧ bb1 ≤ bb + (pp1 - pp) ∧ 1 ≤ n ∧ n ≤ cp ∧ 4 ≤ cp ∧ cp ≤ 4 + 2 * n ∧ pp + n + cm ≤ pp1 ∧ cm ≤ 1 ∧ T ≤ 3001) → (ff1 ≠ 0 ∨ T + 1 ≤ pp1 + n1) → (exS L F L1 F1) → (∀ i : Nat, i < n → ∃ x : Nat, f i = some x ∧ xO L1 F1 x) → (ff1 = 0 → bb1 ≤ 54 ∧ ∃ q0 : Nat, chP 1 (isE L1 F1 kE kI (24 * k)) f g n (pp + 1) q0 bb bb1 ∧ ((mo = 0 ∧ cm = 0 ∧ q0 ≤ pp1) ∨ (mo ≠ 0 ∧ cm = 1 ∧ q0 < pp1))) → va_P (dC, dI) vwCl (([(ee, .inr (15, [.int 5, .int tx, .int 0, .int nm0, .int 0, .int 0, .long 0, .int 0, .null, .ref la, .ref sa, .int (nI n), .null, .null])), (la, .inl (kE, cp, .inr (.inr (.inr (.inr f))))), (sa, .inl (kI, cp, .inl g)), (m9, .inr (23, mA mr mv vf xl (nI zs) ff1 xa1 (nI T) (nI pp1) xi xt xn (nI (ns + 1)) (nI vv) (nI bb1))), (mr 5, .inl (kI, 3002, .inl fk)), (mr 6, .inl (kI, 3002, .inl fa)), (mr 8, .inl (kL, 3002, .inr (.inl fn)))] : va_W) ++ (sT L1 F1)) H → va_D A (([(ee, .inr (15, [.int 5, .int tx, .int 0, .int nm0, .int 0, .int 0, .long 0, .int 0, .null, .ref la, .ref sa, .int (nI n), .null, .null])), (la, .inl (kE, cp, .inr (.inr (.inr (.inr f))))), (sa, .inl (kI, cp, .inl g)), (m9, .inr (23, mA mr mv vf xl (nI zs) ff1 xa1 (nI T) (nI pp1) xi xt xn (nI (ns + 1)) (nI vv) (nI bb1))), (mr 5, .inl (kI, 3002, .inl fk)), (mr 6, .inl (kI, 3002, .inl fa)), (mr 8, .inl (kL, 3002, .inr (.inl fn)))] : va_W) ++ (sT L1 F1)) → va_S A s.heap H locs → lv_has ls 4 [(2, .int mo), (0, .ref m9), (1, .ref ee)] → W p l e (headSpec wp_c_xnf ({ frames := 3 + 12 * k, cells := (8 * (T - pp) + 3), slots := (120 * (T - pp) + 280), locals := 63 + 279 * k })).room s m ([.ref m9, .ref ee] : List Value).toArray below meth c H locs (8 * (pp1 - pp) - 3 * n - 8 * cm) (120 * (pp1 - pp) + 4 * cp + 8 - 64 * n - 120 * cm) Q1 (F0 m 63 ls []) := by
                  intro n1
                  induction n1 with
                  | zero => intro pp1 bb1 la sa cp n cm ff1 xa1 mo L1 F1 f g H locs ls hr0 hr1 hr2 hr3 hr4; exact absurd hr0 (by omega)
                  | succ n1 ih1 =>
                    intro pp1 bb1 la sa cp n cm ff1 xa1 mo L1 F1 f g H locs ls hr0 hr1 hr2 hr3 hr4 hP hD hS hl
                    refine lv_aload_n hx hb dX23_newFields_63 rfl (lv_at hl 1 rfl) ?_
                    by_cases hz_31 : ff1 = 0
                    · subst hz_31
                      have hr9 := hr4 rfl
                      replace hPc := hP.subF (f' := [(m9, .inr (23, mA mr mv vf xl (nI zs) 0 xa1 (nI T) (nI pp1) xi xt xn (nI (ns + 1)) (nI vv) (nI bb1)))]) [3] rfl
                      replace hDc := hD.subF (f' := [(m9, .inr (23, mA mr mv vf xl (nI zs) 0 xa1 (nI T) (nI pp1) xi xt xn (nI (ns + 1)) (nI vv) (nI bb1)))]) [3] (by decide) rfl
                      replace hKc := hK.sub (tys' := []) [] rfl
                      replace hFc := va_freeT (wc := [(m9, .inr (23, mA mr mv vf xl (nI zs) 0 xa1 (nI T) (nI pp1) xi xt xn (nI (ns + 1)) (nI vv) (nI bb1)))]) hD hS hA [3] rfl
                      refine va_calli (va_runV (As := []) (rest := []) ⟨hx, hb, hml, hown, hts⟩ (c_rok0 l dC dI m9 mr mv vf xl xa1 xi xt xn zs T pp1 (ns + 1) vv bb1 kI fk fa H.size) (cwV 0 hts g_c_xnf_c_rok0_64 rfl rfl rfl (by decide +kernel) ⟨by show 0 + 1 ≤ 3 + 12 * k; omega, by show 8 + (1 + 11) + (0) ≤ 63 + 279 * k; omega⟩) ⟨fun a U g mk q => by obtain ⟨q0, q1, qP, qK, qD⟩ := q; exact ⟨q0, q1, qP, va_K.moved (u := U) (U := U.calling g mk a) (Vm.Alike.refl U.vm) qK, qD⟩, va_recv hKc hPc (ci := 23) (q0 := 0) rfl rfl, fun U hU hW => ⟨rfl, by rw [hU], by rw [hU]; exact hPc, va_K.moved hW.alike hKc, hDc.weaken (fun _ _ _ _ => trivial)⟩⟩ rfl rfl hl.1 rfl (lv_room (Nat.le_of_ble_eq_true rfl)) dX23_newFields_64 ⟨(show (8 * (pp1 - pp) - 3 * n - 8 * cm) + 0 ≤ (8 * (T - pp) + 3) by omega), (show (120 * (pp1 - pp) + 4 * cp + 8 - 64 * n - 120 * cm) + 0 ≤ (120 * (T - pp) + 280) by omega)⟩) hS (fun q _ h => hFc q h) hFc (fun r_32 u tS H1 locs ht hvm hw hB hz1 hk1 hS => ?_)
                      obtain ⟨hP1, hK1, hD1⟩ := hB
                      rw [ht] at hP1
                      replace hK1 := va_K.moved hvm.symm hK1
                      obtain ⟨hPj, hDj⟩ := va_joinT (wr := [(ee, .inr (15, [.int 5, .int tx, .int 0, .int nm0, .int 0, .int 0, .long 0, .int 0, .null, .ref la, .ref sa, .int (nI n), .null, .null])), (la, .inl (kE, cp, .inr (.inr (.inr (.inr f))))), (sa, .inl (kI, cp, .inl g)), (mr 5, .inl (kI, 3002, .inl fk)), (mr 6, .inl (kI, 3002, .inl fa)), (mr 8, .inl (kL, 3002, .inr (.inl fn)))]) (w1 := [(m9, .inr (23, mA mr mv vf xl (nI zs) 0 xa1 (nI T) (nI pp1) xi xt xn (nI (ns + 1)) (nI vv) (nI bb1)))]) hP hD [3] [0, 1, 2, 4, 5, 6] rfl rfl (by decide) (by decide) hk1 hFc hP1 hD1
                      replace hP := hPj
                      replace hD := hDj
                      clear hPj hDj
                      generalize H1 = H at hP hS ⊢
                      replace hP : va_P (dC, dI) vwCl (([(ee, .inr (15, [.int 5, .int tx, .int 0, .int nm0, .int 0, .int 0, .long 0, .int 0, .null, .ref la, .ref sa, .int (nI n), .null, .null])), (la, .inl (kE, cp, .inr (.inr (.inr (.inr f))))), (sa, .inl (kI, cp, .inl g)), (mr 5, .inl (kI, 3002, .inl fk)), (mr 6, .inl (kI, 3002, .inl fa)), (mr 8, .inl (kL, 3002, .inr (.inl fn))), (m9, .inr (23, mA mr mv vf xl (nI zs) 0 xa1 (nI T) (nI pp1) xi xt xn (nI (ns + 1)) (nI vv) (nI bb1)))] : va_W) ++ (sT L1 F1)) H := hP
                      replace hD : va_D A (([(ee, .inr (15, [.int 5, .int tx, .int 0, .int nm0, .int 0, .int 0, .long 0, .int 0, .null, .ref la, .ref sa, .int (nI n), .null, .null])), (la, .inl (kE, cp, .inr (.inr (.inr (.inr f))))), (sa, .inl (kI, cp, .inl g)), (mr 5, .inl (kI, 3002, .inl fk)), (mr 6, .inl (kI, 3002, .inl fa)), (mr 8, .inl (kL, 3002, .inr (.inl fn))), (m9, .inr (23, mA mr mv vf xl (nI zs) 0 xa1 (nI T) (nI pp1) xi xt xn (nI (ns + 1)) (nI vv) (nI bb1)))] : va_W) ++ (sT L1 F1)) := hD
                      replace hK : va_K (dC, dI) vwCl [(kI, .int), (kL, .long), (kE, .object RX15)] s := hK
                      clear hz1 hk1 hPc hDc hKc hFc hP1 hD1 hK1
                      obtain rfl : r_32 = 1 := hw
                      refine lv_if_eq (tgt := 111) hx hb dX23_newFields_67 (by decide) (fun c_33 => absurd c_33 (by decide)) (fun _ => ?_)
                      refine lv_iload_n hx hb dX23_newFields_70 rfl (lv_at hl 0 rfl) ?_
                      refine lv_if_eq (tgt := 111) hx hb dX23_newFields_71 (by decide) (fun hm_34 => ?_) (fun hm_34 => ?_)
                      · obtain ⟨q0, hr5, hr6⟩ := hr9.2
                        replace hr6 : q0 ≤ pp1 := by omega
                        refine lv_aload_n hx hb dX23_newFields_111 rfl (lv_at hl 1 rfl) ?_
                        refine lv_dup hx hb dX23_newFields_112 rfl ?_
                        refine va_get (D := (dC, dI)) (ci := 23) (v := .int (nI (ns + 1))) (C := RX23) (T := TX23) (N := 89) hx hb hts in_c_xnf_X23 hown hK hP 6 rfl rfl 15 (by decide) (hts (.fieldLink RX23 104 "OwnedPlacesModel" "nest" "I") (wm_c_xnf 29 rfl)) (fun _ h9 => h9) rfl dX23_newFields_113 ?_
                        refine lv_iconst (v := 1) hx hb dX23_newFields_116 (by decide) ?_
                        refine lv_isub hx hb dX23_newFields_117 ?_
                        refine lv_topi (fun f_35 ef_35 => ?_)
                        obtain rfl : f_35 = nI ns := ef_35.trans (nI_pred _)
                        refine va_put (D := (dC, dI)) (ci := 23) (v := .int (nI ns)) (ty := .int) (C := RX23) (T := TX23) (N := 89) hx hb hts in_c_xnf_X23 tyX23 tyX23_ok nmX23 hown hK hP hD hS 6 rfl rfl 15 (by decide) (hts (.fieldLink RX23 104 "OwnedPlacesModel" "nest" "I") (wm_c_xnf 29 rfl)) (fun _ h9 => h9) rfl (by decide +kernel) rfl rfl (Nat.le_of_ble_eq_true rfl) dX23_newFields_118 (fun H locs hP hD hS => ?_)
                        replace hP : va_P (dC, dI) vwCl (([(ee, .inr (15, [.int 5, .int tx, .int 0, .int nm0, .int 0, .int 0, .long 0, .int 0, .null, .ref la, .ref sa, .int (nI n), .null, .null])), (la, .inl (kE, cp, .inr (.inr (.inr (.inr f))))), (sa, .inl (kI, cp, .inl g)), (mr 5, .inl (kI, 3002, .inl fk)), (mr 6, .inl (kI, 3002, .inl fa)), (mr 8, .inl (kL, 3002, .inr (.inl fn))), (m9, .inr (23, mA mr mv vf xl (nI zs) 0 xa1 (nI T) (nI pp1) xi xt xn (nI ns) (nI vv) (nI bb1)))] : va_W) ++ (sT L1 F1)) H := hP
                        replace hD : va_D A (([(ee, .inr (15, [.int 5, .int tx, .int 0, .int nm0, .int 0, .int 0, .long 0, .int 0, .null, .ref la, .ref sa, .int (nI n), .null, .null])), (la, .inl (kE, cp, .inr (.inr (.inr (.inr f))))), (sa, .inl (kI, cp, .inl g)), (mr 5, .inl (kI, 3002, .inl fk)), (mr 6, .inl (kI, 3002, .inl fa)), (mr 8, .inl (kL, 3002, .inr (.inl fn))), (m9, .inr (23, mA mr mv vf xl (nI zs) 0 xa1 (nI T) (nI pp1) xi xt xn (nI ns) (nI vv) (nI bb1)))] : va_W) ++ (sT L1 F1)) := hD
                        refine lv_aload_n hx hb dX23_newFields_121 rfl (lv_at hl 1 rfl) ?_
                        refine lv_bipush (v := 64) hx hb dX23_newFields_122 (by decide) ?_
                        by_cases hk_36 : fk pp1 = 64
                        · replace hPc := hP.subF (f' := [(m9, .inr (23, mA mr mv vf xl (nI zs) 0 xa1 (nI T) (nI pp1) xi xt xn (nI ns) (nI vv) (nI bb1))), (mr 5, .inl (kI, 3002, .inl fk)), (mr 6, .inl (kI, 3002, .inl fa))]) [6, 3, 4] rfl
                          replace hDc := hD.subF (f' := [(m9, .inr (23, mA mr mv vf xl (nI zs) 0 xa1 (nI T) (nI pp1) xi xt xn (nI ns) (nI vv) (nI bb1))), (mr 5, .inl (kI, 3002, .inl fk)), (mr 6, .inl (kI, 3002, .inl fa))]) [6, 3, 4] (by decide) rfl
                          replace hKc := hK.sub (tys' := [(kI, .int)]) [0] rfl
                          replace hFc := va_freeT (wc := [(m9, .inr (23, mA mr mv vf xl (nI zs) 0 xa1 (nI T) (nI pp1) xi xt xn (nI ns) (nI vv) (nI bb1))), (mr 5, .inl (kI, 3002, .inl fk)), (mr 6, .inl (kI, 3002, .inl fa))]) hD hS hA [6, 3, 4] rfl
                          refine va_callv (va_runV (As := [.int 64]) (rest := []) ⟨hx, hb, hml, hown, hts⟩ (c_rtkY l dC dI m9 mr mv vf xl xa1 xi xt xn zs T pp1 ns vv bb1 kI fk fa 64 H.size hT hr0.2.2.1 hk0 (by decide) hk_36) (cwV 1 hts g_c_xnf_c_rtkY_124 rfl rfl rfl (by decide +kernel) ⟨by show 1 + 1 ≤ 3 + 12 * k; omega, by show 8 + (2 + 11) + (21) ≤ 63 + 279 * k; omega⟩) ⟨fun a U g mk q => by obtain ⟨q0, q1, qP, qK, qD⟩ := q; exact ⟨q0, q1, qP, va_K.moved (u := U) (U := U.calling g mk a) (Vm.Alike.refl U.vm) qK, qD⟩, va_recv hKc hPc (ci := 23) (q0 := 0) rfl rfl, fun U hU hW => ⟨rfl, by rw [hU], by rw [hU]; exact hPc, va_K.moved hW.alike hKc, hDc.weaken (fun _ _ _ _ => trivial)⟩⟩ rfl rfl hl.1 rfl (lv_room (Nat.le_of_ble_eq_true rfl)) dX23_newFields_124 ⟨(show (8 * (pp1 - pp) - 3 * n - 8 * cm) + 0 ≤ (8 * (T - pp) + 3) by omega), (show (120 * (pp1 - pp) + 4 * cp + 8 - 64 * n - 120 * cm) + 0 ≤ (120 * (T - pp) + 280) by omega)⟩) hS (fun q _ h => hFc q h) hFc (fun u tS H1 locs ht hvm hw hB hz1 hk1 hS => ?_)
                          obtain ⟨hP1, hK1, hD1⟩ := hB
                          rw [ht] at hP1
                          replace hK1 := va_K.moved hvm.symm hK1
                          obtain ⟨hPj, hDj⟩ := va_joinT (wr := [(ee, .inr (15, [.int 5, .int tx, .int 0, .int nm0, .int 0, .int 0, .long 0, .int 0, .null, .ref la, .ref sa, .int (nI n), .null, .null])), (la, .inl (kE, cp, .inr (.inr (.inr (.inr f))))), (sa, .inl (kI, cp, .inl g)), (mr 8, .inl (kL, 3002, .inr (.inl fn)))]) (w1 := [(m9, .inr (23, mA mr mv vf xl (nI zs) 0 xa1 (nI T) (nI (pp1 + 1)) xi xt xn (nI ns) (nI vv) (nI bb1))), (mr 5, .inl (kI, 3002, .inl fk)), (mr 6, .inl (kI, 3002, .inl fa))]) hP hD [6, 3, 4] [0, 1, 2, 5] rfl rfl (by decide) (by decide) hk1 hFc hP1 hD1
                          replace hP := hPj
                          replace hD := hDj
                          clear hPj hDj
                          replace hK := hK.app hK1
                          generalize H1 = H at hP hS ⊢
                          replace hP : va_P (dC, dI) vwCl (([(ee, .inr (15, [.int 5, .int tx, .int 0, .int nm0, .int 0, .int 0, .long 0, .int 0, .null, .ref la, .ref sa, .int (nI n), .null, .null])), (la, .inl (kE, cp, .inr (.inr (.inr (.inr f))))), (sa, .inl (kI, cp, .inl g)), (mr 8, .inl (kL, 3002, .inr (.inl fn))), (m9, .inr (23, mA mr mv vf xl (nI zs) 0 xa1 (nI T) (nI (pp1 + 1)) xi xt xn (nI ns) (nI vv) (nI bb1))), (mr 5, .inl (kI, 3002, .inl fk)), (mr 6, .inl (kI, 3002, .inl fa))] : va_W) ++ (sT L1 F1)) H := hP
                          replace hD : va_D A (([(ee, .inr (15, [.int 5, .int tx, .int 0, .int nm0, .int 0, .int 0, .long 0, .int 0, .null, .ref la, .ref sa, .int (nI n), .null, .null])), (la, .inl (kE, cp, .inr (.inr (.inr (.inr f))))), (sa, .inl (kI, cp, .inl g)), (mr 8, .inl (kL, 3002, .inr (.inl fn))), (m9, .inr (23, mA mr mv vf xl (nI zs) 0 xa1 (nI T) (nI (pp1 + 1)) xi xt xn (nI ns) (nI vv) (nI bb1))), (mr 5, .inl (kI, 3002, .inl fk)), (mr 6, .inl (kI, 3002, .inl fa))] : va_W) ++ (sT L1 F1)) := hD
                          replace hK : va_K (dC, dI) vwCl [(kI, .int), (kL, .long), (kE, .object RX15), (kI, .int)] s := hK
                          replace hK := hK.sub (tys' := [(kI, .int), (kL, .long), (kE, .object RX15)]) [0, 1, 2] rfl
                          clear hz1 hk1 hPc hDc hKc hFc hP1 hD1 hK1
                          have hp_38 : pp1 + 1 < T := kne3 hk0 hr0.2.2.1 hk_36 (by decide)
                          replace hP : va_P (dC, dI) vwCl ((([(ee, .inr (15, [.int 5, .int tx, .int 0, .int nm0, .int 0, .int 0, .long 0, .int 0, .null, .ref la, .ref sa, .int (nI n), .null, .null])), (mr 8, .inl (kL, 3002, .inr (.inl fn))), (m9, .inr (23, mA mr mv vf xl (nI zs) 0 xa1 (nI T) (nI (pp1 + 1)) xi xt xn (nI ns) (nI vv) (nI bb1))), (mr 5, .inl (kI, 3002, .inl fk)), (mr 6, .inl (kI, 3002, .inl fa))] : va_W) ++ ([(la, .inl (kE, cp, .inr (.inr (.inr (.inr f))))), (sa, .inl (kI, cp, .inl g))] : va_W)) ++ sT L1 F1) H := hP.subT (f' := [(ee, .inr (15, [.int 5, .int tx, .int 0, .int nm0, .int 0, .int 0, .long 0, .int 0, .null, .ref la, .ref sa, .int (nI n), .null, .null])), (mr 8, .inl (kL, 3002, .inr (.inl fn))), (m9, .inr (23, mA mr mv vf xl (nI zs) 0 xa1 (nI T) (nI (pp1 + 1)) xi xt xn (nI ns) (nI vv) (nI bb1))), (mr 5, .inl (kI, 3002, .inl fk)), (mr 6, .inl (kI, 3002, .inl fa)), (la, .inl (kE, cp, .inr (.inr (.inr (.inr f))))), (sa, .inl (kI, cp, .inl g))]) [0, 3, 4, 5, 6, 1, 2] rfl
                          replace hD : va_D A ((([(ee, .inr (15, [.int 5, .int tx, .int 0, .int nm0, .int 0, .int 0, .long 0, .int 0, .null, .ref la, .ref sa, .int (nI n), .null, .null])), (mr 8, .inl (kL, 3002, .inr (.inl fn))), (m9, .inr (23, mA mr mv vf xl (nI zs) 0 xa1 (nI T) (nI (pp1 + 1)) xi xt xn (nI ns) (nI vv) (nI bb1))), (mr 5, .inl (kI, 3002, .inl fk)), (mr 6, .inl (kI, 3002, .inl fa))] : va_W) ++ ([(la, .inl (kE, cp, .inr (.inr (.inr (.inr f))))), (sa, .inl (kI, cp, .inl g))] : va_W)) ++ sT L1 F1) := hD.subT (f' := [(ee, .inr (15, [.int 5, .int tx, .int 0, .int nm0, .int 0, .int 0, .long 0, .int 0, .null, .ref la, .ref sa, .int (nI n), .null, .null])), (mr 8, .inl (kL, 3002, .inr (.inl fn))), (m9, .inr (23, mA mr mv vf xl (nI zs) 0 xa1 (nI T) (nI (pp1 + 1)) xi xt xn (nI ns) (nI vv) (nI bb1))), (mr 5, .inl (kI, 3002, .inl fk)), (mr 6, .inl (kI, 3002, .inl fa)), (la, .inl (kE, cp, .inr (.inr (.inr (.inr f))))), (sa, .inl (kI, cp, .inl g))]) [0, 3, 4, 5, 6, 1, 2] (by decide) rfl
                          obtain ⟨L9, F9, hx9, hm9, hP, hD⟩ := st_fileL [(la, .inl (kE, cp, .inr (.inr (.inr (.inr f))))), (sa, .inl (kI, cp, .inl g))] hP hD
                          have hm9_0 := hm9 _ (List.mem_of_getElem? (i := 0) rfl)
                          have hm9_1 := hm9 _ (List.mem_of_getElem? (i := 1) rfl)
                          refine W.grow (fun hgs0 hgs1 => ?_)
                          have hP9 := hP.subT (f' := [(ee, .inr (15, [.int 5, .int tx, .int 0, .int nm0, .int 0, .int 0, .long 0, .int 0, .null, (.ref la), (.ref sa), .int (nI n), .null, .null])), (m9, .inr (23, mA mr mv vf xl (nI zs) 0 xa1 (nI T) (nI (pp1 + 1)) xi xt xn (nI ns) (nI vv) (nI bb1))), (mr 5, .inl (kI, 3002, .inl fk)), (mr 6, .inl (kI, 3002, .inl fa)), (mr 8, .inl (kL, 3002, .inr (.inl fn)))]) [0, 2, 3, 4, 1] rfl
                          have hD9 := hD.subT (f' := [(ee, .inr (15, [.int 5, .int tx, .int 0, .int nm0, .int 0, .int 0, .long 0, .int 0, .null, (.ref la), (.ref sa), .int (nI n), .null, .null])), (m9, .inr (23, mA mr mv vf xl (nI zs) 0 xa1 (nI T) (nI (pp1 + 1)) xi xt xn (nI ns) (nI vv) (nI bb1))), (mr 5, .inl (kI, 3002, .inl fk)), (mr 6, .inl (kI, 3002, .inl fa)), (mr 8, .inl (kL, 3002, .inr (.inl fn)))]) [0, 2, 3, 4, 1] (by decide) rfl
                          have hK9 := hK.sub (tys' := [(kI, .int), (kL, .long), (kE, .object RX15)]) [0, 1, 2] rfl
                          refine W.widen (k := (8 * (T - pp) + 3)) (n := (120 * (T - pp) + 280)) (by omega) (by omega) ?_
                          subst hQ1
                          exact W.vret hx hb hr (fun tS ht hW => ⟨⟨(), rfl, trivial, L9, F9, 0, xa1, pp1 + 1, bb1, nm0, .ref la, .ref sa, n, (hr2).tr hx9, ⟨by omega, by omega, by omega, by omega⟩, (fun _ => ⟨hr9.1, by omega, enm0, by omega, Or.inr ⟨la, sa, cp, q0, f, g, rfl, rfl, hm9_0.1, hm9_1.1, hm9_0.2, hm9_1.2, by omega, by omega, chP_im (fun x p q b c z => isE_im hx9 _ (Nat.le_refl _) z) hr5⟩⟩), by rw [ht]; exact ⟨by omega, by omega⟩, by rw [ht]; exact hP9, va_K.moved hW.alike hK9, hD9⟩, hS.F ht⟩) hS.2.2 dX23_newFields_127
                        · replace hPc := hP.subF (f' := [(m9, .inr (23, mA mr mv vf xl (nI zs) 0 xa1 (nI T) (nI pp1) xi xt xn (nI ns) (nI vv) (nI bb1))), (mr 5, .inl (kI, 3002, .inl fk)), (mr 6, .inl (kI, 3002, .inl fa))]) [6, 3, 4] rfl
                          replace hDc := hD.subF (f' := [(m9, .inr (23, mA mr mv vf xl (nI zs) 0 xa1 (nI T) (nI pp1) xi xt xn (nI ns) (nI vv) (nI bb1))), (mr 5, .inl (kI, 3002, .inl fk)), (mr 6, .inl (kI, 3002, .inl fa))]) [6, 3, 4] (by decide) rfl
                          replace hKc := hK.sub (tys' := [(kI, .int)]) [0] rfl
                          replace hFc := va_freeT (wc := [(m9, .inr (23, mA mr mv vf xl (nI zs) 0 xa1 (nI T) (nI pp1) xi xt xn (nI ns) (nI vv) (nI bb1))), (mr 5, .inl (kI, 3002, .inl fk)), (mr 6, .inl (kI, 3002, .inl fa))]) hD hS hA [6, 3, 4] rfl
                          refine va_callv (va_runV (As := [.int 64]) (rest := []) ⟨hx, hb, hml, hown, hts⟩ (c_rtkN l dC dI m9 mr mv vf xl xa1 xi xt xn zs T pp1 ns vv bb1 kI fk fa 64 H.size hT hr0.2.2.1 hk0 (by decide) hk_36) (cwV 1 hts g_c_xnf_c_rtkN_124 rfl rfl rfl (by decide +kernel) ⟨by show 1 + 1 ≤ 3 + 12 * k; omega, by show 8 + (2 + 11) + (22) ≤ 63 + 279 * k; omega⟩) ⟨fun a U g mk q => by obtain ⟨q0, q1, qP, qK, qD⟩ := q; exact ⟨q0, q1, qP, va_K.moved (u := U) (U := U.calling g mk a) (Vm.Alike.refl U.vm) qK, qD⟩, va_recv hKc hPc (ci := 23) (q0 := 0) rfl rfl, fun U hU hW => ⟨rfl, by rw [hU], by rw [hU]; exact hPc, va_K.moved hW.alike hKc, hDc.weaken (fun _ _ _ _ => trivial)⟩⟩ rfl rfl hl.1 rfl (lv_room (Nat.le_of_ble_eq_true rfl)) dX23_newFields_124 ⟨(show (8 * (pp1 - pp) - 3 * n - 8 * cm) + 0 ≤ (8 * (T - pp) + 3) by omega), (show (120 * (pp1 - pp) + 4 * cp + 8 - 64 * n - 120 * cm) + 0 ≤ (120 * (T - pp) + 280) by omega)⟩) hS (fun q _ h => hFc q h) hFc (fun u tS H1 locs ht hvm hw hB hz1 hk1 hS => ?_)
                          obtain ⟨ff_37, xa_38, hf39_0, hP1, hK1, hD1⟩ := hB
                          rw [ht] at hP1
                          replace hK1 := va_K.moved hvm.symm hK1
                          obtain ⟨hPj, hDj⟩ := va_joinT (wr := [(ee, .inr (15, [.int 5, .int tx, .int 0, .int nm0, .int 0, .int 0, .long 0, .int 0, .null, .ref la, .ref sa, .int (nI n), .null, .null])), (la, .inl (kE, cp, .inr (.inr (.inr (.inr f))))), (sa, .inl (kI, cp, .inl g)), (mr 8, .inl (kL, 3002, .inr (.inl fn)))]) (w1 := [(m9, .inr (23, mA mr mv vf xl (nI zs) ff_37 xa_38 (nI T) (nI pp1) xi xt xn (nI ns) (nI vv) (nI bb1))), (mr 5, .inl (kI, 3002, .inl fk)), (mr 6, .inl (kI, 3002, .inl fa))]) hP hD [6, 3, 4] [0, 1, 2, 5] rfl rfl (by decide) (by decide) hk1 hFc hP1 hD1
                          replace hP := hPj
                          replace hD := hDj
                          clear hPj hDj
                          replace hK := hK.app hK1
                          generalize H1 = H at hP hS ⊢
                          replace hP : va_P (dC, dI) vwCl (([(ee, .inr (15, [.int 5, .int tx, .int 0, .int nm0, .int 0, .int 0, .long 0, .int 0, .null, .ref la, .ref sa, .int (nI n), .null, .null])), (la, .inl (kE, cp, .inr (.inr (.inr (.inr f))))), (sa, .inl (kI, cp, .inl g)), (mr 8, .inl (kL, 3002, .inr (.inl fn))), (m9, .inr (23, mA mr mv vf xl (nI zs) ff_37 xa_38 (nI T) (nI pp1) xi xt xn (nI ns) (nI vv) (nI bb1))), (mr 5, .inl (kI, 3002, .inl fk)), (mr 6, .inl (kI, 3002, .inl fa))] : va_W) ++ (sT L1 F1)) H := hP
                          replace hD : va_D A (([(ee, .inr (15, [.int 5, .int tx, .int 0, .int nm0, .int 0, .int 0, .long 0, .int 0, .null, .ref la, .ref sa, .int (nI n), .null, .null])), (la, .inl (kE, cp, .inr (.inr (.inr (.inr f))))), (sa, .inl (kI, cp, .inl g)), (mr 8, .inl (kL, 3002, .inr (.inl fn))), (m9, .inr (23, mA mr mv vf xl (nI zs) ff_37 xa_38 (nI T) (nI pp1) xi xt xn (nI ns) (nI vv) (nI bb1))), (mr 5, .inl (kI, 3002, .inl fk)), (mr 6, .inl (kI, 3002, .inl fa))] : va_W) ++ (sT L1 F1)) := hD
                          replace hK : va_K (dC, dI) vwCl [(kI, .int), (kL, .long), (kE, .object RX15), (kI, .int)] s := hK
                          replace hK := hK.sub (tys' := [(kI, .int), (kL, .long), (kE, .object RX15)]) [0, 1, 2] rfl
                          clear hz1 hk1 hPc hDc hKc hFc hP1 hD1 hK1
                          replace hP : va_P (dC, dI) vwCl ((([(ee, .inr (15, [.int 5, .int tx, .int 0, .int nm0, .int 0, .int 0, .long 0, .int 0, .null, .ref la, .ref sa, .int (nI n), .null, .null])), (mr 8, .inl (kL, 3002, .inr (.inl fn))), (m9, .inr (23, mA mr mv vf xl (nI zs) ff_37 xa_38 (nI T) (nI pp1) xi xt xn (nI ns) (nI vv) (nI bb1))), (mr 5, .inl (kI, 3002, .inl fk)), (mr 6, .inl (kI, 3002, .inl fa))] : va_W) ++ ([(la, .inl (kE, cp, .inr (.inr (.inr (.inr f))))), (sa, .inl (kI, cp, .inl g))] : va_W)) ++ sT L1 F1) H := hP.subT (f' := [(ee, .inr (15, [.int 5, .int tx, .int 0, .int nm0, .int 0, .int 0, .long 0, .int 0, .null, .ref la, .ref sa, .int (nI n), .null, .null])), (mr 8, .inl (kL, 3002, .inr (.inl fn))), (m9, .inr (23, mA mr mv vf xl (nI zs) ff_37 xa_38 (nI T) (nI pp1) xi xt xn (nI ns) (nI vv) (nI bb1))), (mr 5, .inl (kI, 3002, .inl fk)), (mr 6, .inl (kI, 3002, .inl fa)), (la, .inl (kE, cp, .inr (.inr (.inr (.inr f))))), (sa, .inl (kI, cp, .inl g))]) [0, 3, 4, 5, 6, 1, 2] rfl
                          replace hD : va_D A ((([(ee, .inr (15, [.int 5, .int tx, .int 0, .int nm0, .int 0, .int 0, .long 0, .int 0, .null, .ref la, .ref sa, .int (nI n), .null, .null])), (mr 8, .inl (kL, 3002, .inr (.inl fn))), (m9, .inr (23, mA mr mv vf xl (nI zs) ff_37 xa_38 (nI T) (nI pp1) xi xt xn (nI ns) (nI vv) (nI bb1))), (mr 5, .inl (kI, 3002, .inl fk)), (mr 6, .inl (kI, 3002, .inl fa))] : va_W) ++ ([(la, .inl (kE, cp, .inr (.inr (.inr (.inr f))))), (sa, .inl (kI, cp, .inl g))] : va_W)) ++ sT L1 F1) := hD.subT (f' := [(ee, .inr (15, [.int 5, .int tx, .int 0, .int nm0, .int 0, .int 0, .long 0, .int 0, .null, .ref la, .ref sa, .int (nI n), .null, .null])), (mr 8, .inl (kL, 3002, .inr (.inl fn))), (m9, .inr (23, mA mr mv vf xl (nI zs) ff_37 xa_38 (nI T) (nI pp1) xi xt xn (nI ns) (nI vv) (nI bb1))), (mr 5, .inl (kI, 3002, .inl fk)), (mr 6, .inl (kI, 3002, .inl fa)), (la, .inl (kE, cp, .inr (.inr (.inr (.inr f))))), (sa, .inl (kI, cp, .inl g))]) [0, 3, 4, 5, 6, 1, 2] (by decide) rfl
                          obtain ⟨L9, F9, hx9, hm9, hP, hD⟩ := st_fileL [(la, .inl (kE, cp, .inr (.inr (.inr (.inr f))))), (sa, .inl (kI, cp, .inl g))] hP hD
                          have hm9_0 := hm9 _ (List.mem_of_getElem? (i := 0) rfl)
                          have hm9_1 := hm9 _ (List.mem_of_getElem? (i := 1) rfl)
                          refine W.grow (fun hgs0 hgs1 => ?_)
                          have hP9 := hP.subT (f' := [(ee, .inr (15, [.int 5, .int tx, .int 0, .int nm0, .int 0, .int 0, .long 0, .int 0, .null, (.ref la), (.ref sa), .int (nI n), .null, .null])), (m9, .inr (23, mA mr mv vf xl (nI zs) ff_37 xa_38 (nI T) (nI pp1) xi xt xn (nI ns) (nI vv) (nI bb1))), (mr 5, .inl (kI, 3002, .inl fk)), (mr 6, .inl (kI, 3002, .inl fa)), (mr 8, .inl (kL, 3002, .inr (.inl fn)))]) [0, 2, 3, 4, 1] rfl
                          have hD9 := hD.subT (f' := [(ee, .inr (15, [.int 5, .int tx, .int 0, .int nm0, .int 0, .int 0, .long 0, .int 0, .null, (.ref la), (.ref sa), .int (nI n), .null, .null])), (m9, .inr (23, mA mr mv vf xl (nI zs) ff_37 xa_38 (nI T) (nI pp1) xi xt xn (nI ns) (nI vv) (nI bb1))), (mr 5, .inl (kI, 3002, .inl fk)), (mr 6, .inl (kI, 3002, .inl fa)), (mr 8, .inl (kL, 3002, .inr (.inl fn)))]) [0, 2, 3, 4, 1] (by decide) rfl
                          have hK9 := hK.sub (tys' := [(kI, .int), (kL, .long), (kE, .object RX15)]) [0, 1, 2] rfl
                          refine W.widen (k := (8 * (T - pp) + 3)) (n := (120 * (T - pp) + 280)) (by omega) (by omega) ?_
                          subst hQ1
                          exact W.vret hx hb hr (fun tS ht hW => ⟨⟨(), rfl, trivial, L9, F9, ff_37, xa_38, pp1, bb1, nm0, .ref la, .ref sa, n, (hr2).tr hx9, ⟨by omega, by omega, by omega, by omega⟩, (fun q9 => absurd q9 hf39_0), by rw [ht]; exact ⟨by omega, by omega⟩, by rw [ht]; exact hP9, va_K.moved hW.alike hK9, hD9⟩, hS.F ht⟩) hS.2.2 dX23_newFields_127
                      · obtain ⟨q0, hr5, hr6⟩ := hr9.2
                        have hcm : cm = 1 := (hr6.resolve_left (fun z => hm_34 z.1)).2.1
                        replace hr6 : q0 < pp1 := (hr6.resolve_left (fun z => hm_34 z.1)).2.2
                        replace hr1 := hr1.resolve_left (fun q => q rfl)
                        refine lv_aload_n hx hb dX23_newFields_74 rfl (lv_at hl 1 rfl) ?_
                        by_cases hk_35 : fk pp1 = 2
                        · replace hPc := hP.subF (f' := [(m9, .inr (23, mA mr mv vf xl (nI zs) 0 xa1 (nI T) (nI pp1) xi xt xn (nI (ns + 1)) (nI vv) (nI bb1))), (mr 5, .inl (kI, 3002, .inl fk)), (mr 6, .inl (kI, 3002, .inl fa))]) [6, 3, 4] rfl
                          replace hDc := hD.subF (f' := [(m9, .inr (23, mA mr mv vf xl (nI zs) 0 xa1 (nI T) (nI pp1) xi xt xn (nI (ns + 1)) (nI vv) (nI bb1))), (mr 5, .inl (kI, 3002, .inl fk)), (mr 6, .inl (kI, 3002, .inl fa))]) [6, 3, 4] (by decide) rfl
                          replace hKc := hK.sub (tys' := [(kI, .int)]) [0] rfl
                          replace hFc := va_freeT (wc := [(m9, .inr (23, mA mr mv vf xl (nI zs) 0 xa1 (nI T) (nI pp1) xi xt xn (nI (ns + 1)) (nI vv) (nI bb1))), (mr 5, .inl (kI, 3002, .inl fk)), (mr 6, .inl (kI, 3002, .inl fa))]) hD hS hA [6, 3, 4] rfl
                          refine va_calli (va_runV (As := []) (rest := []) ⟨hx, hb, hml, hown, hts⟩ (c_rnmY l dC dI m9 mr mv vf xl xa1 xi xt xn zs T pp1 (ns + 1) vv bb1 kI fk fa H.size hT hr0.2.2.1 hk0 hk_35) (cwV 0 hts g_c_xnf_c_rnmY_75 rfl rfl rfl (by decide +kernel) ⟨by show 2 + 1 ≤ 3 + 12 * k; omega, by show 8 + (1 + 11) + (42) ≤ 63 + 279 * k; omega⟩) ⟨fun a U g mk q => by obtain ⟨q0, q1, qP, qK, qD⟩ := q; exact ⟨q0, q1, qP, va_K.moved (u := U) (U := U.calling g mk a) (Vm.Alike.refl U.vm) qK, qD⟩, va_recv hKc hPc (ci := 23) (q0 := 0) rfl rfl, fun U hU hW => ⟨rfl, by rw [hU], by rw [hU]; exact hPc, va_K.moved hW.alike hKc, hDc.weaken (fun _ _ _ _ => trivial)⟩⟩ rfl rfl hl.1 rfl (lv_room (Nat.le_of_ble_eq_true rfl)) dX23_newFields_75 ⟨(show (8 * (pp1 - pp) - 3 * n - 8 * cm) + 0 ≤ (8 * (T - pp) + 3) by omega), (show (120 * (pp1 - pp) + 4 * cp + 8 - 64 * n - 120 * cm) + 0 ≤ (120 * (T - pp) + 280) by omega)⟩) hS (fun q _ h => hFc q h) hFc (fun r_36 u tS H1 locs ht hvm hw hB hz1 hk1 hS => ?_)
                          obtain ⟨hP1, hK1, hD1⟩ := hB
                          rw [ht] at hP1
                          replace hK1 := va_K.moved hvm.symm hK1
                          obtain ⟨hPj, hDj⟩ := va_joinT (wr := [(ee, .inr (15, [.int 5, .int tx, .int 0, .int nm0, .int 0, .int 0, .long 0, .int 0, .null, .ref la, .ref sa, .int (nI n), .null, .null])), (la, .inl (kE, cp, .inr (.inr (.inr (.inr f))))), (sa, .inl (kI, cp, .inl g)), (mr 8, .inl (kL, 3002, .inr (.inl fn)))]) (w1 := [(m9, .inr (23, mA mr mv vf xl (nI zs) 0 xa1 (nI T) (nI (pp1 + 1)) xi xt xn (nI (ns + 1)) (nI vv) (nI bb1))), (mr 5, .inl (kI, 3002, .inl fk)), (mr 6, .inl (kI, 3002, .inl fa))]) hP hD [6, 3, 4] [0, 1, 2, 5] rfl rfl (by decide) (by decide) hk1 hFc hP1 hD1
                          replace hP := hPj
                          replace hD := hDj
                          clear hPj hDj
                          replace hK := hK.app hK1
                          generalize H1 = H at hP hS ⊢
                          replace hP : va_P (dC, dI) vwCl (([(ee, .inr (15, [.int 5, .int tx, .int 0, .int nm0, .int 0, .int 0, .long 0, .int 0, .null, .ref la, .ref sa, .int (nI n), .null, .null])), (la, .inl (kE, cp, .inr (.inr (.inr (.inr f))))), (sa, .inl (kI, cp, .inl g)), (mr 8, .inl (kL, 3002, .inr (.inl fn))), (m9, .inr (23, mA mr mv vf xl (nI zs) 0 xa1 (nI T) (nI (pp1 + 1)) xi xt xn (nI (ns + 1)) (nI vv) (nI bb1))), (mr 5, .inl (kI, 3002, .inl fk)), (mr 6, .inl (kI, 3002, .inl fa))] : va_W) ++ (sT L1 F1)) H := hP
                          replace hD : va_D A (([(ee, .inr (15, [.int 5, .int tx, .int 0, .int nm0, .int 0, .int 0, .long 0, .int 0, .null, .ref la, .ref sa, .int (nI n), .null, .null])), (la, .inl (kE, cp, .inr (.inr (.inr (.inr f))))), (sa, .inl (kI, cp, .inl g)), (mr 8, .inl (kL, 3002, .inr (.inl fn))), (m9, .inr (23, mA mr mv vf xl (nI zs) 0 xa1 (nI T) (nI (pp1 + 1)) xi xt xn (nI (ns + 1)) (nI vv) (nI bb1))), (mr 5, .inl (kI, 3002, .inl fk)), (mr 6, .inl (kI, 3002, .inl fa))] : va_W) ++ (sT L1 F1)) := hD
                          replace hK : va_K (dC, dI) vwCl [(kI, .int), (kL, .long), (kE, .object RX15), (kI, .int)] s := hK
                          replace hK := hK.sub (tys' := [(kI, .int), (kL, .long), (kE, .object RX15)]) [0, 1, 2] rfl
                          clear hz1 hk1 hPc hDc hKc hFc hP1 hD1 hK1
                          obtain rfl : r_36 = nI pp1 := hw
                          have hp_37 : pp1 + 1 < T := kne3 hk0 hr0.2.2.1 hk_35 (by decide)
                          refine lv_istore_n (lv' := [(3, .int (nI pp1)), (2, .int mo), (0, .ref m9), (1, .ref ee)]) hx hb dX23_newFields_78 rfl hl (by decide) rfl (fun ls hl => ?_)
                          refine lv_aload_n hx hb dX23_newFields_79 rfl (lv_at hl 2 rfl) ?_
                          refine lv_bipush (v := 58) hx hb dX23_newFields_80 (by decide) ?_
                          by_cases hk_38 : fk (pp1 + 1) = 58
                          · replace hPc := hP.subF (f' := [(m9, .inr (23, mA mr mv vf xl (nI zs) 0 xa1 (nI T) (nI (pp1 + 1)) xi xt xn (nI (ns + 1)) (nI vv) (nI bb1))), (mr 5, .inl (kI, 3002, .inl fk)), (mr 6, .inl (kI, 3002, .inl fa))]) [4, 5, 6] rfl
                            replace hDc := hD.subF (f' := [(m9, .inr (23, mA mr mv vf xl (nI zs) 0 xa1 (nI T) (nI (pp1 + 1)) xi xt xn (nI (ns + 1)) (nI vv) (nI bb1))), (mr 5, .inl (kI, 3002, .inl fk)), (mr 6, .inl (kI, 3002, .inl fa))]) [4, 5, 6] (by decide) rfl
                            replace hKc := hK.sub (tys' := [(kI, .int)]) [0] rfl
                            replace hFc := va_freeT (wc := [(m9, .inr (23, mA mr mv vf xl (nI zs) 0 xa1 (nI T) (nI (pp1 + 1)) xi xt xn (nI (ns + 1)) (nI vv) (nI bb1))), (mr 5, .inl (kI, 3002, .inl fk)), (mr 6, .inl (kI, 3002, .inl fa))]) hD hS hA [4, 5, 6] rfl
                            refine va_callv (va_runV (As := [.int 58]) (rest := []) ⟨hx, hb, hml, hown, hts⟩ (c_rtkY l dC dI m9 mr mv vf xl xa1 xi xt xn zs T (pp1 + 1) (ns + 1) vv bb1 kI fk fa 58 H.size hT hp_37 hk0 (by decide) hk_38) (cwV 1 hts g_c_xnf_c_rtkY_82 rfl rfl rfl (by decide +kernel) ⟨by show 1 + 1 ≤ 3 + 12 * k; omega, by show 8 + (2 + 11) + (21) ≤ 63 + 279 * k; omega⟩) ⟨fun a U g mk q => by obtain ⟨q0, q1, qP, qK, qD⟩ := q; exact ⟨q0, q1, qP, va_K.moved (u := U) (U := U.calling g mk a) (Vm.Alike.refl U.vm) qK, qD⟩, va_recv hKc hPc (ci := 23) (q0 := 0) rfl rfl, fun U hU hW => ⟨rfl, by rw [hU], by rw [hU]; exact hPc, va_K.moved hW.alike hKc, hDc.weaken (fun _ _ _ _ => trivial)⟩⟩ rfl rfl hl.1 rfl (lv_room (Nat.le_of_ble_eq_true rfl)) dX23_newFields_82 ⟨(show (8 * (pp1 - pp) - 3 * n - 8 * cm) + 0 ≤ (8 * (T - pp) + 3) by omega), (show (120 * (pp1 - pp) + 4 * cp + 8 - 64 * n - 120 * cm) + 0 ≤ (120 * (T - pp) + 280) by omega)⟩) hS (fun q _ h => hFc q h) hFc (fun u tS H1 locs ht hvm hw hB hz1 hk1 hS => ?_)
                            obtain ⟨hP1, hK1, hD1⟩ := hB
                            rw [ht] at hP1
                            replace hK1 := va_K.moved hvm.symm hK1
                            obtain ⟨hPj, hDj⟩ := va_joinT (wr := [(ee, .inr (15, [.int 5, .int tx, .int 0, .int nm0, .int 0, .int 0, .long 0, .int 0, .null, .ref la, .ref sa, .int (nI n), .null, .null])), (la, .inl (kE, cp, .inr (.inr (.inr (.inr f))))), (sa, .inl (kI, cp, .inl g)), (mr 8, .inl (kL, 3002, .inr (.inl fn)))]) (w1 := [(m9, .inr (23, mA mr mv vf xl (nI zs) 0 xa1 (nI T) (nI ((pp1 + 1) + 1)) xi xt xn (nI (ns + 1)) (nI vv) (nI bb1))), (mr 5, .inl (kI, 3002, .inl fk)), (mr 6, .inl (kI, 3002, .inl fa))]) hP hD [4, 5, 6] [0, 1, 2, 3] rfl rfl (by decide) (by decide) hk1 hFc hP1 hD1
                            replace hP := hPj
                            replace hD := hDj
                            clear hPj hDj
                            replace hK := hK.app hK1
                            generalize H1 = H at hP hS ⊢
                            replace hP : va_P (dC, dI) vwCl (([(ee, .inr (15, [.int 5, .int tx, .int 0, .int nm0, .int 0, .int 0, .long 0, .int 0, .null, .ref la, .ref sa, .int (nI n), .null, .null])), (la, .inl (kE, cp, .inr (.inr (.inr (.inr f))))), (sa, .inl (kI, cp, .inl g)), (mr 8, .inl (kL, 3002, .inr (.inl fn))), (m9, .inr (23, mA mr mv vf xl (nI zs) 0 xa1 (nI T) (nI ((pp1 + 1) + 1)) xi xt xn (nI (ns + 1)) (nI vv) (nI bb1))), (mr 5, .inl (kI, 3002, .inl fk)), (mr 6, .inl (kI, 3002, .inl fa))] : va_W) ++ (sT L1 F1)) H := hP
                            replace hD : va_D A (([(ee, .inr (15, [.int 5, .int tx, .int 0, .int nm0, .int 0, .int 0, .long 0, .int 0, .null, .ref la, .ref sa, .int (nI n), .null, .null])), (la, .inl (kE, cp, .inr (.inr (.inr (.inr f))))), (sa, .inl (kI, cp, .inl g)), (mr 8, .inl (kL, 3002, .inr (.inl fn))), (m9, .inr (23, mA mr mv vf xl (nI zs) 0 xa1 (nI T) (nI ((pp1 + 1) + 1)) xi xt xn (nI (ns + 1)) (nI vv) (nI bb1))), (mr 5, .inl (kI, 3002, .inl fk)), (mr 6, .inl (kI, 3002, .inl fa))] : va_W) ++ (sT L1 F1)) := hD
                            replace hK : va_K (dC, dI) vwCl [(kI, .int), (kL, .long), (kE, .object RX15), (kI, .int)] s := hK
                            replace hK := hK.sub (tys' := [(kI, .int), (kL, .long), (kE, .object RX15)]) [0, 1, 2] rfl
                            clear hz1 hk1 hPc hDc hKc hFc hP1 hD1 hK1
                            have hp_40 : pp1 + 1 + 1 < T := kne3 hk0 hp_37 hk_38 (by decide)
                            refine lv_aload_n hx hb dX23_newFields_85 rfl (lv_at hl 2 rfl) ?_
                            replace hPc := hP.subF (f' := [(m9, .inr (23, mA mr mv vf xl (nI zs) 0 xa1 (nI T) (nI (pp1 + 1 + 1)) xi xt xn (nI (ns + 1)) (nI vv) (nI bb1)))]) [4] rfl
                            replace hDc := hD.subF (f' := [(m9, .inr (23, mA mr mv vf xl (nI zs) 0 xa1 (nI T) (nI (pp1 + 1 + 1)) xi xt xn (nI (ns + 1)) (nI vv) (nI bb1)))]) [4] (by decide) rfl
                            replace hKc := hK.sub (tys' := []) [] rfl
                            replace hFc := va_freeT (wc := [(m9, .inr (23, mA mr mv vf xl (nI zs) 0 xa1 (nI T) (nI (pp1 + 1 + 1)) xi xt xn (nI (ns + 1)) (nI vv) (nI bb1)))]) hD hS hA [4] rfl
                            refine va_calli (va_runV (As := []) (rest := []) ⟨hx, hb, hml, hown, hts⟩ (c_rok0 l dC dI m9 mr mv vf xl xa1 xi xt xn zs T (pp1 + 1 + 1) (ns + 1) vv bb1 kI fk fa H.size) (cwV 0 hts g_c_xnf_c_rok0_86 rfl rfl rfl (by decide +kernel) ⟨by show 0 + 1 ≤ 3 + 12 * k; omega, by show 8 + (1 + 11) + (0) ≤ 63 + 279 * k; omega⟩) ⟨fun a U g mk q => by obtain ⟨q0, q1, qP, qK, qD⟩ := q; exact ⟨q0, q1, qP, va_K.moved (u := U) (U := U.calling g mk a) (Vm.Alike.refl U.vm) qK, qD⟩, va_recv hKc hPc (ci := 23) (q0 := 0) rfl rfl, fun U hU hW => ⟨rfl, by rw [hU], by rw [hU]; exact hPc, va_K.moved hW.alike hKc, hDc.weaken (fun _ _ _ _ => trivial)⟩⟩ rfl rfl hl.1 rfl (lv_room (Nat.le_of_ble_eq_true rfl)) dX23_newFields_86 ⟨(show (8 * (pp1 - pp) - 3 * n - 8 * cm) + 0 ≤ (8 * (T - pp) + 3) by omega), (show (120 * (pp1 - pp) + 4 * cp + 8 - 64 * n - 120 * cm) + 0 ≤ (120 * (T - pp) + 280) by omega)⟩) hS (fun q _ h => hFc q h) hFc (fun r_41 u tS H1 locs ht hvm hw hB hz1 hk1 hS => ?_)
                            obtain ⟨hP1, hK1, hD1⟩ := hB
                            rw [ht] at hP1
                            replace hK1 := va_K.moved hvm.symm hK1
                            obtain ⟨hPj, hDj⟩ := va_joinT (wr := [(ee, .inr (15, [.int 5, .int tx, .int 0, .int nm0, .int 0, .int 0, .long 0, .int 0, .null, .ref la, .ref sa, .int (nI n), .null, .null])), (la, .inl (kE, cp, .inr (.inr (.inr (.inr f))))), (sa, .inl (kI, cp, .inl g)), (mr 8, .inl (kL, 3002, .inr (.inl fn))), (mr 5, .inl (kI, 3002, .inl fk)), (mr 6, .inl (kI, 3002, .inl fa))]) (w1 := [(m9, .inr (23, mA mr mv vf xl (nI zs) 0 xa1 (nI T) (nI (pp1 + 1 + 1)) xi xt xn (nI (ns + 1)) (nI vv) (nI bb1)))]) hP hD [4] [0, 1, 2, 3, 5, 6] rfl rfl (by decide) (by decide) hk1 hFc hP1 hD1
                            replace hP := hPj
                            replace hD := hDj
                            clear hPj hDj
                            generalize H1 = H at hP hS ⊢
                            replace hP : va_P (dC, dI) vwCl (([(ee, .inr (15, [.int 5, .int tx, .int 0, .int nm0, .int 0, .int 0, .long 0, .int 0, .null, .ref la, .ref sa, .int (nI n), .null, .null])), (la, .inl (kE, cp, .inr (.inr (.inr (.inr f))))), (sa, .inl (kI, cp, .inl g)), (mr 8, .inl (kL, 3002, .inr (.inl fn))), (mr 5, .inl (kI, 3002, .inl fk)), (mr 6, .inl (kI, 3002, .inl fa)), (m9, .inr (23, mA mr mv vf xl (nI zs) 0 xa1 (nI T) (nI (pp1 + 1 + 1)) xi xt xn (nI (ns + 1)) (nI vv) (nI bb1)))] : va_W) ++ (sT L1 F1)) H := hP
                            replace hD : va_D A (([(ee, .inr (15, [.int 5, .int tx, .int 0, .int nm0, .int 0, .int 0, .long 0, .int 0, .null, .ref la, .ref sa, .int (nI n), .null, .null])), (la, .inl (kE, cp, .inr (.inr (.inr (.inr f))))), (sa, .inl (kI, cp, .inl g)), (mr 8, .inl (kL, 3002, .inr (.inl fn))), (mr 5, .inl (kI, 3002, .inl fk)), (mr 6, .inl (kI, 3002, .inl fa)), (m9, .inr (23, mA mr mv vf xl (nI zs) 0 xa1 (nI T) (nI (pp1 + 1 + 1)) xi xt xn (nI (ns + 1)) (nI vv) (nI bb1)))] : va_W) ++ (sT L1 F1)) := hD
                            replace hK : va_K (dC, dI) vwCl [(kI, .int), (kL, .long), (kE, .object RX15)] s := hK
                            clear hz1 hk1 hPc hDc hKc hFc hP1 hD1 hK1
                            obtain rfl : r_41 = 1 := hw
                            refine lv_if_eq (tgt := 101) hx hb dX23_newFields_89 (by decide) (fun c_42 => absurd c_42 (by decide)) (fun _ => ?_)
                            refine lv_aload_n hx hb dX23_newFields_92 rfl (lv_at hl 3 rfl) ?_
                            refine lv_aload_n hx hb dX23_newFields_93 rfl (lv_at hl 2 rfl) ?_
                            obtain ⟨k1, hkL⟩ : ∃ k1 : Nat, k = k1 + 1 := ⟨k - 1, by omega⟩
                            replace hPc := hP.subT (f' := [(m9, .inr (23, mA mr mv vf xl (nI zs) 0 xa1 (nI T) (nI (pp1 + 1 + 1)) xi xt xn (nI (ns + 1)) (nI vv) (nI bb1))), (mr 5, .inl (kI, 3002, .inl fk)), (mr 6, .inl (kI, 3002, .inl fa)), (mr 8, .inl (kL, 3002, .inr (.inl fn)))]) [6, 4, 5, 3] rfl
                            replace hDc := hD.subT (f' := [(m9, .inr (23, mA mr mv vf xl (nI zs) 0 xa1 (nI T) (nI (pp1 + 1 + 1)) xi xt xn (nI (ns + 1)) (nI vv) (nI bb1))), (mr 5, .inl (kI, 3002, .inl fk)), (mr 6, .inl (kI, 3002, .inl fa)), (mr 8, .inl (kL, 3002, .inr (.inl fn)))]) [6, 4, 5, 3] (by decide) rfl
                            replace hKc := hK.sub (tys' := [(kI, .int), (kL, .long), (kE, .object RX15)]) [0, 1, 2] rfl
                            replace hFc := va_freeB (wc := [(m9, .inr (23, mA mr mv vf xl (nI zs) 0 xa1 (nI T) (nI (pp1 + 1 + 1)) xi xt xn (nI (ns + 1)) (nI vv) (nI bb1))), (mr 5, .inl (kI, 3002, .inl fk)), (mr 6, .inl (kI, 3002, .inl fa)), (mr 8, .inl (kL, 3002, .inr (.inl fn)))]) hD hS hA [6, 4, 5, 3] rfl
                            refine W.grow (fun hgs0 hgs1 => ?_)
                            refine va_callr (va_runV (As := []) (rest := [.ref ee]) ⟨hx, hb, hml, hown, hts⟩ ((ih k1 hkL).2.2.2.2.2.2 m9 mr mv vf xl xa1 xi xt xn zs T (pp1 + 1 + 1) (ns + 1) vv bb1 kI fk fa kL kE fn L1 F1 (slN H) H.size hT hp_40 hk0 hr9.1 (by omega)) (cwV 0 hts g_c_xnf_c_xex_94 rfl rfl rfl (by decide +kernel) ⟨by show 13 + 12 * k1 + 1 ≤ 3 + 12 * k; omega, by show 8 + (1 + 11) + (302 + 279 * k1) ≤ 63 + 279 * k; omega⟩) ⟨fun a U g mk q => by obtain ⟨q0, q1, qP, qK, qD, qx0, qx1⟩ := q; exact ⟨q0, q1, qP, va_K.moved (u := U) (U := U.calling g mk a) (Vm.Alike.refl U.vm) qK, qD, nsM.same (u := U) (U := U.calling g mk a) rfl qx0, qx1⟩, va_recv hKc hPc (ci := 23) (q0 := 0) rfl rfl, fun U hU hW => ⟨rfl, by rw [hU], by rw [hU]; exact hPc, va_K.moved hW.alike hKc, hDc.weaken (fun _ _ _ _ => trivial), nsM.warm hW hns, by rw [hU]⟩⟩ rfl rfl hl.1 rfl (lv_room (Nat.le_of_ble_eq_true rfl)) dX23_newFields_94 ⟨(show (8 * (pp1 - pp) - 3 * n - 8 * cm) + (8 * (T - (pp1 + 1 + 1)) + 8) ≤ (8 * (T - pp) + 3) by omega), (show (120 * (pp1 - pp) + 4 * cp + 8 - 64 * n - 120 * cm) + (120 * (T - (pp1 + 1 + 1)) + 360) ≤ (120 * (T - pp) + 280) by omega)⟩) hS (fun q _ h => hFc q h) hFc (fun u r_43 tS H1 locs ht hvm hw hB hz1 hk1 hS => ?_)
                            obtain ⟨L42, F42, ff42, xa42, pp42, bb42, hf43_0, hf43_1, hf43_2, hf43_3, hP1, hK1, hD1⟩ := hB
                            rw [ht] at hP1
                            replace hK1 := va_K.moved hvm.symm hK1
                            rw [ht] at hf43_3
                            have hgz : H1.size ≤ s.heap.size + (((8 * (pp1 - pp) - 3 * n - 8 * cm) + 8 * (pp42 - (pp1 + 1 + 1)) + 3)) ∧ slN H1 ≤ slN s.heap + (((120 * (pp1 - pp) + 4 * cp + 8 - 64 * n - 120 * cm) + 120 * (pp42 - (pp1 + 1 + 1)) + 48)) := ⟨by have := hf43_3.1; omega, by have := hf43_3.2; omega⟩
                            obtain ⟨hPj, hDj⟩ := va_joinB (wr := [(ee, .inr (15, [.int 5, .int tx, .int 0, .int nm0, .int 0, .int 0, .long 0, .int 0, .null, .ref la, .ref sa, .int (nI n), .null, .null])), (la, .inl (kE, cp, .inr (.inr (.inr (.inr f))))), (sa, .inl (kI, cp, .inl g))]) (w1 := [(m9, .inr (23, mA mr mv vf xl (nI zs) ff42 xa42 (nI T) (nI pp42) xi xt xn (nI (ns + 1)) (nI vv) (nI bb42))), (mr 5, .inl (kI, 3002, .inl fk)), (mr 6, .inl (kI, 3002, .inl fa)), (mr 8, .inl (kL, 3002, .inr (.inl fn)))]) hP hD [6, 4, 5, 3] [0, 1, 2] rfl rfl (by decide) (by decide) hk1 hFc hP1 hD1
                            replace hP := hPj
                            replace hD := hDj
                            clear hPj hDj
                            replace hK := hK.app hK1
                            generalize H1 = H at hP hS hgz ⊢
                            replace hP : va_P (dC, dI) vwCl (([(ee, .inr (15, [.int 5, .int tx, .int 0, .int nm0, .int 0, .int 0, .long 0, .int 0, .null, .ref la, .ref sa, .int (nI n), .null, .null])), (la, .inl (kE, cp, .inr (.inr (.inr (.inr f))))), (sa, .inl (kI, cp, .inl g)), (m9, .inr (23, mA mr mv vf xl (nI zs) ff42 xa42 (nI T) (nI pp42) xi xt xn (nI (ns + 1)) (nI vv) (nI bb42))), (mr 5, .inl (kI, 3002, .inl fk)), (mr 6, .inl (kI, 3002, .inl fa)), (mr 8, .inl (kL, 3002, .inr (.inl fn)))] : va_W) ++ (sT L42 F42)) H := hP
                            replace hD : va_D A (([(ee, .inr (15, [.int 5, .int tx, .int 0, .int nm0, .int 0, .int 0, .long 0, .int 0, .null, .ref la, .ref sa, .int (nI n), .null, .null])), (la, .inl (kE, cp, .inr (.inr (.inr (.inr f))))), (sa, .inl (kI, cp, .inl g)), (m9, .inr (23, mA mr mv vf xl (nI zs) ff42 xa42 (nI T) (nI pp42) xi xt xn (nI (ns + 1)) (nI vv) (nI bb42))), (mr 5, .inl (kI, 3002, .inl fk)), (mr 6, .inl (kI, 3002, .inl fa)), (mr 8, .inl (kL, 3002, .inr (.inl fn)))] : va_W) ++ (sT L42 F42)) := hD
                            replace hK : va_K (dC, dI) vwCl [(kI, .int), (kL, .long), (kE, .object RX15), (kI, .int), (kL, .long), (kE, .object RX15)] s := hK
                            replace hK := hK.sub (tys' := [(kI, .int), (kL, .long), (kE, .object RX15)]) [0, 1, 2] rfl
                            refine W.tight (k := ((8 * (pp1 - pp) - 3 * n - 8 * cm) + 8 * (pp42 - (pp1 + 1 + 1)) + 3)) (n := ((120 * (pp1 - pp) + 4 * cp + 8 - 64 * n - 120 * cm) + 120 * (pp42 - (pp1 + 1 + 1)) + 48)) hgz.1 hgz.2 ?_
                            clear hz1 hk1 hPc hDc hKc hFc hP1 hD1 hK1
                            refine lv_iload_n hx hb dX23_newFields_97 rfl (lv_at hl 0 rfl) ?_
                            replace hPc := hP.subT (f' := [(ee, .inr (15, [.int 5, .int tx, .int 0, .int nm0, .int 0, .int 0, .long 0, .int 0, .null, .ref la, .ref sa, .int (nI n), .null, .null])), (la, .inl (kE, cp, .inr (.inr (.inr (.inr f))))), (sa, .inl (kI, cp, .inl g))]) [0, 1, 2] rfl
                            replace hDc := hD.subT (f' := [(ee, .inr (15, [.int 5, .int tx, .int 0, .int nm0, .int 0, .int 0, .long 0, .int 0, .null, .ref la, .ref sa, .int (nI n), .null, .null])), (la, .inl (kE, cp, .inr (.inr (.inr (.inr f))))), (sa, .inl (kI, cp, .inl g))]) [0, 1, 2] (by decide) rfl
                            replace hKc := hK.sub (tys' := [(kI, .int), (kE, .object RX15)]) [0, 2] rfl
                            replace hFc := va_freeB (wc := [(ee, .inr (15, [.int 5, .int tx, .int 0, .int nm0, .int 0, .int 0, .long 0, .int 0, .null, .ref la, .ref sa, .int (nI n), .null, .null])), (la, .inl (kE, cp, .inr (.inr (.inr (.inr f))))), (sa, .inl (kI, cp, .inl g))]) hD hS hA [0, 1, 2] rfl
                            refine W.grow (fun hgs0 hgs1 => ?_)
                            refine va_callv (va_runS (As := [.ref ee, .ref r_43, .int (nI pp1)]) (rest := []) ⟨hx, hb, hml, hown, hts⟩ (c_xaA l dC dI ee r_43 5 tx 0 nm0 0 0 (nI pp1) .null kI kE la sa n cp f g L42 F42 (slN H) H.size hf43_0.2 (by omega) (fun i hi => by obtain ⟨x9, y9, z9⟩ := hr3 i hi; exact ⟨x9, y9, xO_ex hf43_0.1 z9⟩)) (va_cwS 3 hts g_c_xnf_c_xaA_98 rfl rfl rfl (by decide +kernel) ⟨by show 0 + 1 ≤ 3 + 12 * k; omega, by show 8 + (6 + 11) + (0) ≤ 63 + 279 * k; omega⟩) ⟨fun a U g mk q => by obtain ⟨q0, q1, qP, qK, qD, qx0, qx1⟩ := q; exact ⟨q0, q1, qP, va_K.moved (u := U) (U := U.calling g mk a) (Vm.Alike.refl U.vm) qK, qD, nsM.same (u := U) (U := U.calling g mk a) rfl qx0, qx1⟩, fun U hU hW => ⟨rfl, by rw [hU], by rw [hU]; exact hPc, va_K.moved hW.alike hKc, hDc.weaken (fun _ _ _ _ => trivial), nsM.warm hW hns, by rw [hU]⟩⟩ rfl rfl hl.1 rfl (lv_room (Nat.le_of_ble_eq_true rfl)) dX23_newFields_98 ⟨(show ((8 * (pp1 - pp) - 3 * n - 8 * cm) + 8 * (pp42 - (pp1 + 1 + 1)) + 3) + 2 ≤ (8 * (T - pp) + 3) by omega), (show ((120 * (pp1 - pp) + 4 * cp + 8 - 64 * n - 120 * cm) + 120 * (pp42 - (pp1 + 1 + 1)) + 48) + (4 * cp) ≤ (120 * (T - pp) + 280) by omega)⟩) hS (fun q _ h => hFc q h) hFc (fun u tS H1 locs ht hvm hw hB hz1 hk1 hS => ?_)
                            obtain ⟨la43, sa43, cp43, f43, g43, hf44_0, hf44_1, hf44_2, hf44_3, hf44_4, hP1, hK1, hD1⟩ := hB
                            rw [ht] at hP1
                            replace hK1 := va_K.moved hvm.symm hK1
                            rw [ht] at hf44_4
                            have hgz : H1.size ≤ s.heap.size + ((((8 * (pp1 - pp) - 3 * n - 8 * cm) + 8 * (pp42 - (pp1 + 1 + 1)) + 3) + 2)) ∧ slN H1 ≤ slN s.heap + ((((120 * (pp1 - pp) + 4 * cp + 8 - 64 * n - 120 * cm) + 120 * (pp42 - (pp1 + 1 + 1)) + 48) + 4 * (cp43 - cp))) := ⟨by have := hf44_4.1; omega, by have := hf44_4.2; omega⟩
                            obtain ⟨hPj, hDj⟩ := va_joinB (wr := [(m9, .inr (23, mA mr mv vf xl (nI zs) ff42 xa42 (nI T) (nI pp42) xi xt xn (nI (ns + 1)) (nI vv) (nI bb42))), (mr 5, .inl (kI, 3002, .inl fk)), (mr 6, .inl (kI, 3002, .inl fa)), (mr 8, .inl (kL, 3002, .inr (.inl fn)))]) (w1 := [(ee, .inr (15, [.int 5, .int tx, .int 0, .int nm0, .int 0, .int 0, .long 0, .int 0, .null, .ref la43, .ref sa43, .int (nI (n + 1)), .null, .null])), (la43, .inl (kE, cp43, .inr (.inr (.inr (.inr f43))))), (sa43, .inl (kI, cp43, .inl g43))]) hP hD [0, 1, 2] [3, 4, 5, 6] rfl rfl (by decide) (by decide) hk1 hFc hP1 hD1
                            replace hP := hPj
                            replace hD := hDj
                            clear hPj hDj
                            replace hK := hK.app hK1
                            generalize H1 = H at hP hS hgz ⊢
                            replace hP : va_P (dC, dI) vwCl (([(m9, .inr (23, mA mr mv vf xl (nI zs) ff42 xa42 (nI T) (nI pp42) xi xt xn (nI (ns + 1)) (nI vv) (nI bb42))), (mr 5, .inl (kI, 3002, .inl fk)), (mr 6, .inl (kI, 3002, .inl fa)), (mr 8, .inl (kL, 3002, .inr (.inl fn))), (ee, .inr (15, [.int 5, .int tx, .int 0, .int nm0, .int 0, .int 0, .long 0, .int 0, .null, .ref la43, .ref sa43, .int (nI (n + 1)), .null, .null])), (la43, .inl (kE, cp43, .inr (.inr (.inr (.inr f43))))), (sa43, .inl (kI, cp43, .inl g43))] : va_W) ++ (sT L42 F42)) H := hP
                            replace hD : va_D A (([(m9, .inr (23, mA mr mv vf xl (nI zs) ff42 xa42 (nI T) (nI pp42) xi xt xn (nI (ns + 1)) (nI vv) (nI bb42))), (mr 5, .inl (kI, 3002, .inl fk)), (mr 6, .inl (kI, 3002, .inl fa)), (mr 8, .inl (kL, 3002, .inr (.inl fn))), (ee, .inr (15, [.int 5, .int tx, .int 0, .int nm0, .int 0, .int 0, .long 0, .int 0, .null, .ref la43, .ref sa43, .int (nI (n + 1)), .null, .null])), (la43, .inl (kE, cp43, .inr (.inr (.inr (.inr f43))))), (sa43, .inl (kI, cp43, .inl g43))] : va_W) ++ (sT L42 F42)) := hD
                            replace hK : va_K (dC, dI) vwCl [(kI, .int), (kL, .long), (kE, .object RX15), (kI, .int), (kE, .object RX15)] s := hK
                            replace hK := hK.sub (tys' := [(kI, .int), (kL, .long), (kE, .object RX15)]) [0, 1, 2] rfl
                            refine W.tight (k := (((8 * (pp1 - pp) - 3 * n - 8 * cm) + 8 * (pp42 - (pp1 + 1 + 1)) + 3) + 2)) (n := (((120 * (pp1 - pp) + 4 * cp + 8 - 64 * n - 120 * cm) + 120 * (pp42 - (pp1 + 1 + 1)) + 48) + 4 * (cp43 - cp))) hgz.1 hgz.2 ?_
                            clear hz1 hk1 hPc hDc hKc hFc hP1 hD1 hK1
                            refine lv_aload_n hx hb dX23_newFields_101 rfl (lv_at hl 2 rfl) ?_
                            refine lv_bipush (v := 57) hx hb dX23_newFields_102 (by decide) ?_
                            by_cases hz_45 : ff42 = 0
                            · subst hz_45
                              have hg42 := hf43_2 rfl
                              have hlthg42 := (isE_mem hg42.2).2
                              by_cases hk_46 : fk pp42 = 57
                              · replace hPc := hP.subF (f' := [(m9, .inr (23, mA mr mv vf xl (nI zs) 0 xa42 (nI T) (nI pp42) xi xt xn (nI (ns + 1)) (nI vv) (nI bb42))), (mr 5, .inl (kI, 3002, .inl fk))]) [0, 1] rfl
                                replace hDc := hD.subF (f' := [(m9, .inr (23, mA mr mv vf xl (nI zs) 0 xa42 (nI T) (nI pp42) xi xt xn (nI (ns + 1)) (nI vv) (nI bb42))), (mr 5, .inl (kI, 3002, .inl fk))]) [0, 1] (by decide) rfl
                                replace hKc := hK.sub (tys' := [(kI, .int)]) [0] rfl
                                replace hFc := va_freeT (wc := [(m9, .inr (23, mA mr mv vf xl (nI zs) 0 xa42 (nI T) (nI pp42) xi xt xn (nI (ns + 1)) (nI vv) (nI bb42))), (mr 5, .inl (kI, 3002, .inl fk))]) hD hS hA [0, 1] rfl
                                refine va_calli (va_runV (As := [.int 57]) (rest := []) ⟨hx, hb, hml, hown, hts⟩ (c_rtsY l dC dI m9 mr mv vf xl xa42 xi xt xn zs T pp42 (ns + 1) vv bb42 kI fk fa 57 H.size hT hf43_1.2.1 hk0 (by decide) hk_46) (cwV 1 hts g_c_xnf_c_rtsY_104 rfl rfl rfl (by decide +kernel) ⟨by show 1 + 1 ≤ 3 + 12 * k; omega, by show 8 + (2 + 11) + (21) ≤ 63 + 279 * k; omega⟩) ⟨fun a U g mk q => by obtain ⟨q0, q1, qP, qK, qD⟩ := q; exact ⟨q0, q1, qP, va_K.moved (u := U) (U := U.calling g mk a) (Vm.Alike.refl U.vm) qK, qD⟩, va_recv hKc hPc (ci := 23) (q0 := 0) rfl rfl, fun U hU hW => ⟨rfl, by rw [hU], by rw [hU]; exact hPc, va_K.moved hW.alike hKc, hDc.weaken (fun _ _ _ _ => trivial)⟩⟩ rfl rfl hl.1 rfl (lv_room (Nat.le_of_ble_eq_true rfl)) dX23_newFields_104 ⟨(show (((8 * (pp1 - pp) - 3 * n - 8 * cm) + 8 * (pp42 - (pp1 + 1 + 1)) + 3) + 2) + 0 ≤ (8 * (T - pp) + 3) by omega), (show (((120 * (pp1 - pp) + 4 * cp + 8 - 64 * n - 120 * cm) + 120 * (pp42 - (pp1 + 1 + 1)) + 48) + 4 * (cp43 - cp)) + 0 ≤ (120 * (T - pp) + 280) by omega)⟩) hS (fun q _ h => hFc q h) hFc (fun r_47 u tS H1 locs ht hvm hw hB hz1 hk1 hS => ?_)
                                obtain ⟨hP1, hK1, hD1⟩ := hB
                                rw [ht] at hP1
                                replace hK1 := va_K.moved hvm.symm hK1
                                obtain ⟨hPj, hDj⟩ := va_joinT (wr := [(mr 6, .inl (kI, 3002, .inl fa)), (mr 8, .inl (kL, 3002, .inr (.inl fn))), (ee, .inr (15, [.int 5, .int tx, .int 0, .int nm0, .int 0, .int 0, .long 0, .int 0, .null, .ref la43, .ref sa43, .int (nI (n + 1)), .null, .null])), (la43, .inl (kE, cp43, .inr (.inr (.inr (.inr f43))))), (sa43, .inl (kI, cp43, .inl g43))]) (w1 := [(m9, .inr (23, mA mr mv vf xl (nI zs) 0 xa42 (nI T) (nI (pp42 + 1)) xi xt xn (nI (ns + 1)) (nI vv) (nI bb42))), (mr 5, .inl (kI, 3002, .inl fk))]) hP hD [0, 1] [2, 3, 4, 5, 6] rfl rfl (by decide) (by decide) hk1 hFc hP1 hD1
                                replace hP := hPj
                                replace hD := hDj
                                clear hPj hDj
                                replace hK := hK.app hK1
                                generalize H1 = H at hP hS ⊢
                                replace hP : va_P (dC, dI) vwCl (([(mr 6, .inl (kI, 3002, .inl fa)), (mr 8, .inl (kL, 3002, .inr (.inl fn))), (ee, .inr (15, [.int 5, .int tx, .int 0, .int nm0, .int 0, .int 0, .long 0, .int 0, .null, .ref la43, .ref sa43, .int (nI (n + 1)), .null, .null])), (la43, .inl (kE, cp43, .inr (.inr (.inr (.inr f43))))), (sa43, .inl (kI, cp43, .inl g43)), (m9, .inr (23, mA mr mv vf xl (nI zs) 0 xa42 (nI T) (nI (pp42 + 1)) xi xt xn (nI (ns + 1)) (nI vv) (nI bb42))), (mr 5, .inl (kI, 3002, .inl fk))] : va_W) ++ (sT L42 F42)) H := hP
                                replace hD : va_D A (([(mr 6, .inl (kI, 3002, .inl fa)), (mr 8, .inl (kL, 3002, .inr (.inl fn))), (ee, .inr (15, [.int 5, .int tx, .int 0, .int nm0, .int 0, .int 0, .long 0, .int 0, .null, .ref la43, .ref sa43, .int (nI (n + 1)), .null, .null])), (la43, .inl (kE, cp43, .inr (.inr (.inr (.inr f43))))), (sa43, .inl (kI, cp43, .inl g43)), (m9, .inr (23, mA mr mv vf xl (nI zs) 0 xa42 (nI T) (nI (pp42 + 1)) xi xt xn (nI (ns + 1)) (nI vv) (nI bb42))), (mr 5, .inl (kI, 3002, .inl fk))] : va_W) ++ (sT L42 F42)) := hD
                                replace hK : va_K (dC, dI) vwCl [(kI, .int), (kL, .long), (kE, .object RX15), (kI, .int)] s := hK
                                replace hK := hK.sub (tys' := [(kI, .int), (kL, .long), (kE, .object RX15)]) [0, 1, 2] rfl
                                clear hz1 hk1 hPc hDc hKc hFc hP1 hD1 hK1
                                obtain rfl : r_47 = 1 := hw
                                have hp_48 : pp42 + 1 < T := kne3 hk0 hf43_1.2.1 hk_46 (by decide)
                                refine lv_istore_n (lv' := [(2, .int 1), (3, .int (nI pp1)), (0, .ref m9), (1, .ref ee)]) hx hb dX23_newFields_107 rfl hl (by decide) rfl (fun ls hl => ?_)
                                refine lv_goto (tgt := 63) hx hb dX23_newFields_108 (by decide) ?_
                                refine W.widen (k := (8 * ((pp42 + 1) - pp) - 3 * (n + 1) - 8 * 1)) (n := (120 * ((pp42 + 1) - pp) + 4 * cp43 + 8 - 64 * (n + 1) - 120 * 1)) (by omega) (by omega) ?_
                                exact ih1 (pp42 + 1) bb42 la43 sa43 cp43 (n + 1) 1 0 xa42 1 L42 F42 f43 g43 _ _ _ (⟨by omega, by omega, by omega, by omega, by omega, by omega, by omega, by omega, by omega, by omega, by omega, hT⟩) (Or.inr (by omega)) (hr2.tr hf43_0.1) (fun i hi => by
                                  by_cases e9 : i = n
                                  · subst e9; exact ⟨_, hf44_2.1, hf43_0.2⟩
                                  · obtain ⟨x9, y9, z9⟩ := hr3 i (by omega); exact ⟨x9, (hf44_1 i (by omega)).1.trans y9, xO_ex hf43_0.1 z9⟩) (fun _ => ⟨hg42.1, _, chP_add (chP_im (fun x p q b c z => isE_im hf43_0.1 _ (Nat.le_refl _) z) hr5) (fun i hi => hf44_1 i hi) hf44_2.1 hf44_2.2 (by omega) (isE_im exS.rf _ (by omega) hg42.2) (Or.inr ⟨by omega, by omega⟩), Or.inr ⟨by decide, rfl, by omega⟩⟩) (hP.subT [2, 3, 4, 5, 6, 0, 1] rfl) (hD.subT [2, 3, 4, 5, 6, 0, 1] (by decide) rfl) hS (lv_sub hl [0, 2, 3] rfl)
                              · replace hPc := hP.subF (f' := [(m9, .inr (23, mA mr mv vf xl (nI zs) 0 xa42 (nI T) (nI pp42) xi xt xn (nI (ns + 1)) (nI vv) (nI bb42))), (mr 5, .inl (kI, 3002, .inl fk))]) [0, 1] rfl
                                replace hDc := hD.subF (f' := [(m9, .inr (23, mA mr mv vf xl (nI zs) 0 xa42 (nI T) (nI pp42) xi xt xn (nI (ns + 1)) (nI vv) (nI bb42))), (mr 5, .inl (kI, 3002, .inl fk))]) [0, 1] (by decide) rfl
                                replace hKc := hK.sub (tys' := [(kI, .int)]) [0] rfl
                                replace hFc := va_freeT (wc := [(m9, .inr (23, mA mr mv vf xl (nI zs) 0 xa42 (nI T) (nI pp42) xi xt xn (nI (ns + 1)) (nI vv) (nI bb42))), (mr 5, .inl (kI, 3002, .inl fk))]) hD hS hA [0, 1] rfl
                                refine va_calli (va_runV (As := [.int 57]) (rest := []) ⟨hx, hb, hml, hown, hts⟩ (c_rtsN l dC dI m9 mr mv vf xl xa42 xi xt xn zs T pp42 (ns + 1) vv bb42 kI fk fa 57 H.size hT hf43_1.2.1 hk0 (by decide) hk_46) (cwV 1 hts g_c_xnf_c_rtsN_104 rfl rfl rfl (by decide +kernel) ⟨by show 1 + 1 ≤ 3 + 12 * k; omega, by show 8 + (2 + 11) + (21) ≤ 63 + 279 * k; omega⟩) ⟨fun a U g mk q => by obtain ⟨q0, q1, qP, qK, qD⟩ := q; exact ⟨q0, q1, qP, va_K.moved (u := U) (U := U.calling g mk a) (Vm.Alike.refl U.vm) qK, qD⟩, va_recv hKc hPc (ci := 23) (q0 := 0) rfl rfl, fun U hU hW => ⟨rfl, by rw [hU], by rw [hU]; exact hPc, va_K.moved hW.alike hKc, hDc.weaken (fun _ _ _ _ => trivial)⟩⟩ rfl rfl hl.1 rfl (lv_room (Nat.le_of_ble_eq_true rfl)) dX23_newFields_104 ⟨(show (((8 * (pp1 - pp) - 3 * n - 8 * cm) + 8 * (pp42 - (pp1 + 1 + 1)) + 3) + 2) + 0 ≤ (8 * (T - pp) + 3) by omega), (show (((120 * (pp1 - pp) + 4 * cp + 8 - 64 * n - 120 * cm) + 120 * (pp42 - (pp1 + 1 + 1)) + 48) + 4 * (cp43 - cp)) + 0 ≤ (120 * (T - pp) + 280) by omega)⟩) hS (fun q _ h => hFc q h) hFc (fun r_47 u tS H1 locs ht hvm hw hB hz1 hk1 hS => ?_)
                                obtain ⟨hP1, hK1, hD1⟩ := hB
                                rw [ht] at hP1
                                replace hK1 := va_K.moved hvm.symm hK1
                                obtain ⟨hPj, hDj⟩ := va_joinT (wr := [(mr 6, .inl (kI, 3002, .inl fa)), (mr 8, .inl (kL, 3002, .inr (.inl fn))), (ee, .inr (15, [.int 5, .int tx, .int 0, .int nm0, .int 0, .int 0, .long 0, .int 0, .null, .ref la43, .ref sa43, .int (nI (n + 1)), .null, .null])), (la43, .inl (kE, cp43, .inr (.inr (.inr (.inr f43))))), (sa43, .inl (kI, cp43, .inl g43))]) (w1 := [(m9, .inr (23, mA mr mv vf xl (nI zs) 0 xa42 (nI T) (nI pp42) xi xt xn (nI (ns + 1)) (nI vv) (nI bb42))), (mr 5, .inl (kI, 3002, .inl fk))]) hP hD [0, 1] [2, 3, 4, 5, 6] rfl rfl (by decide) (by decide) hk1 hFc hP1 hD1
                                replace hP := hPj
                                replace hD := hDj
                                clear hPj hDj
                                replace hK := hK.app hK1
                                generalize H1 = H at hP hS ⊢
                                replace hP : va_P (dC, dI) vwCl (([(mr 6, .inl (kI, 3002, .inl fa)), (mr 8, .inl (kL, 3002, .inr (.inl fn))), (ee, .inr (15, [.int 5, .int tx, .int 0, .int nm0, .int 0, .int 0, .long 0, .int 0, .null, .ref la43, .ref sa43, .int (nI (n + 1)), .null, .null])), (la43, .inl (kE, cp43, .inr (.inr (.inr (.inr f43))))), (sa43, .inl (kI, cp43, .inl g43)), (m9, .inr (23, mA mr mv vf xl (nI zs) 0 xa42 (nI T) (nI pp42) xi xt xn (nI (ns + 1)) (nI vv) (nI bb42))), (mr 5, .inl (kI, 3002, .inl fk))] : va_W) ++ (sT L42 F42)) H := hP
                                replace hD : va_D A (([(mr 6, .inl (kI, 3002, .inl fa)), (mr 8, .inl (kL, 3002, .inr (.inl fn))), (ee, .inr (15, [.int 5, .int tx, .int 0, .int nm0, .int 0, .int 0, .long 0, .int 0, .null, .ref la43, .ref sa43, .int (nI (n + 1)), .null, .null])), (la43, .inl (kE, cp43, .inr (.inr (.inr (.inr f43))))), (sa43, .inl (kI, cp43, .inl g43)), (m9, .inr (23, mA mr mv vf xl (nI zs) 0 xa42 (nI T) (nI pp42) xi xt xn (nI (ns + 1)) (nI vv) (nI bb42))), (mr 5, .inl (kI, 3002, .inl fk))] : va_W) ++ (sT L42 F42)) := hD
                                replace hK : va_K (dC, dI) vwCl [(kI, .int), (kL, .long), (kE, .object RX15), (kI, .int)] s := hK
                                replace hK := hK.sub (tys' := [(kI, .int), (kL, .long), (kE, .object RX15)]) [0, 1, 2] rfl
                                clear hz1 hk1 hPc hDc hKc hFc hP1 hD1 hK1
                                obtain rfl : r_47 = 0 := hw
                                refine lv_istore_n (lv' := [(2, .int 0), (3, .int (nI pp1)), (0, .ref m9), (1, .ref ee)]) hx hb dX23_newFields_107 rfl hl (by decide) rfl (fun ls hl => ?_)
                                refine lv_goto (tgt := 63) hx hb dX23_newFields_108 (by decide) ?_
                                refine W.widen (k := (8 * (pp42 - pp) - 3 * (n + 1) - 8 * 0)) (n := (120 * (pp42 - pp) + 4 * cp43 + 8 - 64 * (n + 1) - 120 * 0)) (by omega) (by omega) ?_
                                exact ih1 pp42 bb42 la43 sa43 cp43 (n + 1) 0 0 xa42 0 L42 F42 f43 g43 _ _ _ (⟨by omega, by omega, by omega, by omega, by omega, by omega, by omega, by omega, by omega, by omega, by omega, hT⟩) (Or.inr (by omega)) (hr2.tr hf43_0.1) (fun i hi => by
                                  by_cases e9 : i = n
                                  · subst e9; exact ⟨_, hf44_2.1, hf43_0.2⟩
                                  · obtain ⟨x9, y9, z9⟩ := hr3 i (by omega); exact ⟨x9, (hf44_1 i (by omega)).1.trans y9, xO_ex hf43_0.1 z9⟩) (fun _ => ⟨hg42.1, _, chP_add (chP_im (fun x p q b c z => isE_im hf43_0.1 _ (Nat.le_refl _) z) hr5) (fun i hi => hf44_1 i hi) hf44_2.1 hf44_2.2 (by omega) (isE_im exS.rf _ (by omega) hg42.2) (Or.inr ⟨by omega, by omega⟩), Or.inl ⟨rfl, rfl, by omega⟩⟩) (hP.subT [2, 3, 4, 5, 6, 0, 1] rfl) (hD.subT [2, 3, 4, 5, 6, 0, 1] (by decide) rfl) hS (lv_sub hl [0, 2, 3] rfl)
                            · replace hPc := hP.subF (f' := [(m9, .inr (23, mA mr mv vf xl (nI zs) ff42 xa42 (nI T) (nI pp42) xi xt xn (nI (ns + 1)) (nI vv) (nI bb42))), (mr 5, .inl (kI, 3002, .inl fk))]) [0, 1] rfl
                              replace hDc := hD.subF (f' := [(m9, .inr (23, mA mr mv vf xl (nI zs) ff42 xa42 (nI T) (nI pp42) xi xt xn (nI (ns + 1)) (nI vv) (nI bb42))), (mr 5, .inl (kI, 3002, .inl fk))]) [0, 1] (by decide) rfl
                              replace hKc := hK.sub (tys' := [(kI, .int)]) [0] rfl
                              replace hFc := va_freeT (wc := [(m9, .inr (23, mA mr mv vf xl (nI zs) ff42 xa42 (nI T) (nI pp42) xi xt xn (nI (ns + 1)) (nI vv) (nI bb42))), (mr 5, .inl (kI, 3002, .inl fk))]) hD hS hA [0, 1] rfl
                              refine va_calli (va_runV (As := [.int 57]) (rest := []) ⟨hx, hb, hml, hown, hts⟩ (c_rtsB l dC dI m9 mr mv vf xl xa42 xi xt xn zs T pp42 (ns + 1) vv bb42 kI fk fa ff42 57 H.size hz_45) (cwV 1 hts g_c_xnf_c_rtsB_104 rfl rfl rfl (by decide +kernel) ⟨by show 1 + 1 ≤ 3 + 12 * k; omega, by show 8 + (2 + 11) + (20) ≤ 63 + 279 * k; omega⟩) ⟨fun a U g mk q => by obtain ⟨q0, q1, qP, qK, qD⟩ := q; exact ⟨q0, q1, qP, va_K.moved (u := U) (U := U.calling g mk a) (Vm.Alike.refl U.vm) qK, qD⟩, va_recv hKc hPc (ci := 23) (q0 := 0) rfl rfl, fun U hU hW => ⟨rfl, by rw [hU], by rw [hU]; exact hPc, va_K.moved hW.alike hKc, hDc.weaken (fun _ _ _ _ => trivial)⟩⟩ rfl rfl hl.1 rfl (lv_room (Nat.le_of_ble_eq_true rfl)) dX23_newFields_104 ⟨(show (((8 * (pp1 - pp) - 3 * n - 8 * cm) + 8 * (pp42 - (pp1 + 1 + 1)) + 3) + 2) + 0 ≤ (8 * (T - pp) + 3) by omega), (show (((120 * (pp1 - pp) + 4 * cp + 8 - 64 * n - 120 * cm) + 120 * (pp42 - (pp1 + 1 + 1)) + 48) + 4 * (cp43 - cp)) + 0 ≤ (120 * (T - pp) + 280) by omega)⟩) hS (fun q _ h => hFc q h) hFc (fun r_46 u tS H1 locs ht hvm hw hB hz1 hk1 hS => ?_)
                              obtain ⟨hP1, hK1, hD1⟩ := hB
                              rw [ht] at hP1
                              replace hK1 := va_K.moved hvm.symm hK1
                              obtain ⟨hPj, hDj⟩ := va_joinT (wr := [(mr 6, .inl (kI, 3002, .inl fa)), (mr 8, .inl (kL, 3002, .inr (.inl fn))), (ee, .inr (15, [.int 5, .int tx, .int 0, .int nm0, .int 0, .int 0, .long 0, .int 0, .null, .ref la43, .ref sa43, .int (nI (n + 1)), .null, .null])), (la43, .inl (kE, cp43, .inr (.inr (.inr (.inr f43))))), (sa43, .inl (kI, cp43, .inl g43))]) (w1 := [(m9, .inr (23, mA mr mv vf xl (nI zs) ff42 xa42 (nI T) (nI pp42) xi xt xn (nI (ns + 1)) (nI vv) (nI bb42))), (mr 5, .inl (kI, 3002, .inl fk))]) hP hD [0, 1] [2, 3, 4, 5, 6] rfl rfl (by decide) (by decide) hk1 hFc hP1 hD1
                              replace hP := hPj
                              replace hD := hDj
                              clear hPj hDj
                              replace hK := hK.app hK1
                              generalize H1 = H at hP hS ⊢
                              replace hP : va_P (dC, dI) vwCl (([(mr 6, .inl (kI, 3002, .inl fa)), (mr 8, .inl (kL, 3002, .inr (.inl fn))), (ee, .inr (15, [.int 5, .int tx, .int 0, .int nm0, .int 0, .int 0, .long 0, .int 0, .null, .ref la43, .ref sa43, .int (nI (n + 1)), .null, .null])), (la43, .inl (kE, cp43, .inr (.inr (.inr (.inr f43))))), (sa43, .inl (kI, cp43, .inl g43)), (m9, .inr (23, mA mr mv vf xl (nI zs) ff42 xa42 (nI T) (nI pp42) xi xt xn (nI (ns + 1)) (nI vv) (nI bb42))), (mr 5, .inl (kI, 3002, .inl fk))] : va_W) ++ (sT L42 F42)) H := hP
                              replace hD : va_D A (([(mr 6, .inl (kI, 3002, .inl fa)), (mr 8, .inl (kL, 3002, .inr (.inl fn))), (ee, .inr (15, [.int 5, .int tx, .int 0, .int nm0, .int 0, .int 0, .long 0, .int 0, .null, .ref la43, .ref sa43, .int (nI (n + 1)), .null, .null])), (la43, .inl (kE, cp43, .inr (.inr (.inr (.inr f43))))), (sa43, .inl (kI, cp43, .inl g43)), (m9, .inr (23, mA mr mv vf xl (nI zs) ff42 xa42 (nI T) (nI pp42) xi xt xn (nI (ns + 1)) (nI vv) (nI bb42))), (mr 5, .inl (kI, 3002, .inl fk))] : va_W) ++ (sT L42 F42)) := hD
                              replace hK : va_K (dC, dI) vwCl [(kI, .int), (kL, .long), (kE, .object RX15), (kI, .int)] s := hK
                              replace hK := hK.sub (tys' := [(kI, .int), (kL, .long), (kE, .object RX15)]) [0, 1, 2] rfl
                              clear hz1 hk1 hPc hDc hKc hFc hP1 hD1 hK1
                              obtain rfl : r_46 = 0 := hw
                              refine lv_istore_n (lv' := [(2, .int 0), (3, .int (nI pp1)), (0, .ref m9), (1, .ref ee)]) hx hb dX23_newFields_107 rfl hl (by decide) rfl (fun ls hl => ?_)
                              refine lv_goto (tgt := 63) hx hb dX23_newFields_108 (by decide) ?_
                              refine W.widen (k := (8 * (pp42 - pp) - 3 * (n + 1) - 8 * 0)) (n := (120 * (pp42 - pp) + 4 * cp43 + 8 - 64 * (n + 1) - 120 * 0)) (by omega) (by omega) ?_
                              exact ih1 pp42 bb42 la43 sa43 cp43 (n + 1) 0 ff42 xa42 0 L42 F42 f43 g43 _ _ _ (⟨by omega, by omega, by omega, by omega, by omega, by omega, by omega, by omega, by omega, by omega, by omega, hT⟩) (Or.inl hz_45) (hr2.tr hf43_0.1) (fun i hi => by
                                by_cases e9 : i = n
                                · subst e9; exact ⟨_, hf44_2.1, hf43_0.2⟩
                                · obtain ⟨x9, y9, z9⟩ := hr3 i (by omega); exact ⟨x9, (hf44_1 i (by omega)).1.trans y9, xO_ex hf43_0.1 z9⟩) (fun q9 => absurd q9 hz_45) (hP.subT [2, 3, 4, 5, 6, 0, 1] rfl) (hD.subT [2, 3, 4, 5, 6, 0, 1] (by decide) rfl) hS (lv_sub hl [0, 2, 3] rfl)
                          · replace hPc := hP.subF (f' := [(m9, .inr (23, mA mr mv vf xl (nI zs) 0 xa1 (nI T) (nI (pp1 + 1)) xi xt xn (nI (ns + 1)) (nI vv) (nI bb1))), (mr 5, .inl (kI, 3002, .inl fk)), (mr 6, .inl (kI, 3002, .inl fa))]) [4, 5, 6] rfl
                            replace hDc := hD.subF (f' := [(m9, .inr (23, mA mr mv vf xl (nI zs) 0 xa1 (nI T) (nI (pp1 + 1)) xi xt xn (nI (ns + 1)) (nI vv) (nI bb1))), (mr 5, .inl (kI, 3002, .inl fk)), (mr 6, .inl (kI, 3002, .inl fa))]) [4, 5, 6] (by decide) rfl
                            replace hKc := hK.sub (tys' := [(kI, .int)]) [0] rfl
                            replace hFc := va_freeT (wc := [(m9, .inr (23, mA mr mv vf xl (nI zs) 0 xa1 (nI T) (nI (pp1 + 1)) xi xt xn (nI (ns + 1)) (nI vv) (nI bb1))), (mr 5, .inl (kI, 3002, .inl fk)), (mr 6, .inl (kI, 3002, .inl fa))]) hD hS hA [4, 5, 6] rfl
                            refine va_callv (va_runV (As := [.int 58]) (rest := []) ⟨hx, hb, hml, hown, hts⟩ (c_rtkN l dC dI m9 mr mv vf xl xa1 xi xt xn zs T (pp1 + 1) (ns + 1) vv bb1 kI fk fa 58 H.size hT hp_37 hk0 (by decide) hk_38) (cwV 1 hts g_c_xnf_c_rtkN_82 rfl rfl rfl (by decide +kernel) ⟨by show 1 + 1 ≤ 3 + 12 * k; omega, by show 8 + (2 + 11) + (22) ≤ 63 + 279 * k; omega⟩) ⟨fun a U g mk q => by obtain ⟨q0, q1, qP, qK, qD⟩ := q; exact ⟨q0, q1, qP, va_K.moved (u := U) (U := U.calling g mk a) (Vm.Alike.refl U.vm) qK, qD⟩, va_recv hKc hPc (ci := 23) (q0 := 0) rfl rfl, fun U hU hW => ⟨rfl, by rw [hU], by rw [hU]; exact hPc, va_K.moved hW.alike hKc, hDc.weaken (fun _ _ _ _ => trivial)⟩⟩ rfl rfl hl.1 rfl (lv_room (Nat.le_of_ble_eq_true rfl)) dX23_newFields_82 ⟨(show (8 * (pp1 - pp) - 3 * n - 8 * cm) + 0 ≤ (8 * (T - pp) + 3) by omega), (show (120 * (pp1 - pp) + 4 * cp + 8 - 64 * n - 120 * cm) + 0 ≤ (120 * (T - pp) + 280) by omega)⟩) hS (fun q _ h => hFc q h) hFc (fun u tS H1 locs ht hvm hw hB hz1 hk1 hS => ?_)
                            obtain ⟨ff_39, xa_40, hf41_0, hP1, hK1, hD1⟩ := hB
                            rw [ht] at hP1
                            replace hK1 := va_K.moved hvm.symm hK1
                            obtain ⟨hPj, hDj⟩ := va_joinT (wr := [(ee, .inr (15, [.int 5, .int tx, .int 0, .int nm0, .int 0, .int 0, .long 0, .int 0, .null, .ref la, .ref sa, .int (nI n), .null, .null])), (la, .inl (kE, cp, .inr (.inr (.inr (.inr f))))), (sa, .inl (kI, cp, .inl g)), (mr 8, .inl (kL, 3002, .inr (.inl fn)))]) (w1 := [(m9, .inr (23, mA mr mv vf xl (nI zs) ff_39 xa_40 (nI T) (nI (pp1 + 1)) xi xt xn (nI (ns + 1)) (nI vv) (nI bb1))), (mr 5, .inl (kI, 3002, .inl fk)), (mr 6, .inl (kI, 3002, .inl fa))]) hP hD [4, 5, 6] [0, 1, 2, 3] rfl rfl (by decide) (by decide) hk1 hFc hP1 hD1
                            replace hP := hPj
                            replace hD := hDj
                            clear hPj hDj
                            replace hK := hK.app hK1
                            generalize H1 = H at hP hS ⊢
                            replace hP : va_P (dC, dI) vwCl (([(ee, .inr (15, [.int 5, .int tx, .int 0, .int nm0, .int 0, .int 0, .long 0, .int 0, .null, .ref la, .ref sa, .int (nI n), .null, .null])), (la, .inl (kE, cp, .inr (.inr (.inr (.inr f))))), (sa, .inl (kI, cp, .inl g)), (mr 8, .inl (kL, 3002, .inr (.inl fn))), (m9, .inr (23, mA mr mv vf xl (nI zs) ff_39 xa_40 (nI T) (nI (pp1 + 1)) xi xt xn (nI (ns + 1)) (nI vv) (nI bb1))), (mr 5, .inl (kI, 3002, .inl fk)), (mr 6, .inl (kI, 3002, .inl fa))] : va_W) ++ (sT L1 F1)) H := hP
                            replace hD : va_D A (([(ee, .inr (15, [.int 5, .int tx, .int 0, .int nm0, .int 0, .int 0, .long 0, .int 0, .null, .ref la, .ref sa, .int (nI n), .null, .null])), (la, .inl (kE, cp, .inr (.inr (.inr (.inr f))))), (sa, .inl (kI, cp, .inl g)), (mr 8, .inl (kL, 3002, .inr (.inl fn))), (m9, .inr (23, mA mr mv vf xl (nI zs) ff_39 xa_40 (nI T) (nI (pp1 + 1)) xi xt xn (nI (ns + 1)) (nI vv) (nI bb1))), (mr 5, .inl (kI, 3002, .inl fk)), (mr 6, .inl (kI, 3002, .inl fa))] : va_W) ++ (sT L1 F1)) := hD
                            replace hK : va_K (dC, dI) vwCl [(kI, .int), (kL, .long), (kE, .object RX15), (kI, .int)] s := hK
                            replace hK := hK.sub (tys' := [(kI, .int), (kL, .long), (kE, .object RX15)]) [0, 1, 2] rfl
                            clear hz1 hk1 hPc hDc hKc hFc hP1 hD1 hK1
                            refine lv_aload_n hx hb dX23_newFields_85 rfl (lv_at hl 2 rfl) ?_
                            replace hPc := hP.subF (f' := [(m9, .inr (23, mA mr mv vf xl (nI zs) ff_39 xa_40 (nI T) (nI (pp1 + 1)) xi xt xn (nI (ns + 1)) (nI vv) (nI bb1)))]) [4] rfl
                            replace hDc := hD.subF (f' := [(m9, .inr (23, mA mr mv vf xl (nI zs) ff_39 xa_40 (nI T) (nI (pp1 + 1)) xi xt xn (nI (ns + 1)) (nI vv) (nI bb1)))]) [4] (by decide) rfl
                            replace hKc := hK.sub (tys' := []) [] rfl
                            replace hFc := va_freeT (wc := [(m9, .inr (23, mA mr mv vf xl (nI zs) ff_39 xa_40 (nI T) (nI (pp1 + 1)) xi xt xn (nI (ns + 1)) (nI vv) (nI bb1)))]) hD hS hA [4] rfl
                            refine va_calli (va_runV (As := []) (rest := []) ⟨hx, hb, hml, hown, hts⟩ (c_rokB l dC dI m9 mr mv vf xl xa_40 xi xt xn zs T (pp1 + 1) (ns + 1) vv bb1 kI fk fa ff_39 H.size hf41_0) (cwV 0 hts g_c_xnf_c_rokB_86 rfl rfl rfl (by decide +kernel) ⟨by show 0 + 1 ≤ 3 + 12 * k; omega, by show 8 + (1 + 11) + (0) ≤ 63 + 279 * k; omega⟩) ⟨fun a U g mk q => by obtain ⟨q0, q1, qP, qK, qD⟩ := q; exact ⟨q0, q1, qP, va_K.moved (u := U) (U := U.calling g mk a) (Vm.Alike.refl U.vm) qK, qD⟩, va_recv hKc hPc (ci := 23) (q0 := 0) rfl rfl, fun U hU hW => ⟨rfl, by rw [hU], by rw [hU]; exact hPc, va_K.moved hW.alike hKc, hDc.weaken (fun _ _ _ _ => trivial)⟩⟩ rfl rfl hl.1 rfl (lv_room (Nat.le_of_ble_eq_true rfl)) dX23_newFields_86 ⟨(show (8 * (pp1 - pp) - 3 * n - 8 * cm) + 0 ≤ (8 * (T - pp) + 3) by omega), (show (120 * (pp1 - pp) + 4 * cp + 8 - 64 * n - 120 * cm) + 0 ≤ (120 * (T - pp) + 280) by omega)⟩) hS (fun q _ h => hFc q h) hFc (fun r_42 u tS H1 locs ht hvm hw hB hz1 hk1 hS => ?_)
                            obtain ⟨hP1, hK1, hD1⟩ := hB
                            rw [ht] at hP1
                            replace hK1 := va_K.moved hvm.symm hK1
                            obtain ⟨hPj, hDj⟩ := va_joinT (wr := [(ee, .inr (15, [.int 5, .int tx, .int 0, .int nm0, .int 0, .int 0, .long 0, .int 0, .null, .ref la, .ref sa, .int (nI n), .null, .null])), (la, .inl (kE, cp, .inr (.inr (.inr (.inr f))))), (sa, .inl (kI, cp, .inl g)), (mr 8, .inl (kL, 3002, .inr (.inl fn))), (mr 5, .inl (kI, 3002, .inl fk)), (mr 6, .inl (kI, 3002, .inl fa))]) (w1 := [(m9, .inr (23, mA mr mv vf xl (nI zs) ff_39 xa_40 (nI T) (nI (pp1 + 1)) xi xt xn (nI (ns + 1)) (nI vv) (nI bb1)))]) hP hD [4] [0, 1, 2, 3, 5, 6] rfl rfl (by decide) (by decide) hk1 hFc hP1 hD1
                            replace hP := hPj
                            replace hD := hDj
                            clear hPj hDj
                            generalize H1 = H at hP hS ⊢
                            replace hP : va_P (dC, dI) vwCl (([(ee, .inr (15, [.int 5, .int tx, .int 0, .int nm0, .int 0, .int 0, .long 0, .int 0, .null, .ref la, .ref sa, .int (nI n), .null, .null])), (la, .inl (kE, cp, .inr (.inr (.inr (.inr f))))), (sa, .inl (kI, cp, .inl g)), (mr 8, .inl (kL, 3002, .inr (.inl fn))), (mr 5, .inl (kI, 3002, .inl fk)), (mr 6, .inl (kI, 3002, .inl fa)), (m9, .inr (23, mA mr mv vf xl (nI zs) ff_39 xa_40 (nI T) (nI (pp1 + 1)) xi xt xn (nI (ns + 1)) (nI vv) (nI bb1)))] : va_W) ++ (sT L1 F1)) H := hP
                            replace hD : va_D A (([(ee, .inr (15, [.int 5, .int tx, .int 0, .int nm0, .int 0, .int 0, .long 0, .int 0, .null, .ref la, .ref sa, .int (nI n), .null, .null])), (la, .inl (kE, cp, .inr (.inr (.inr (.inr f))))), (sa, .inl (kI, cp, .inl g)), (mr 8, .inl (kL, 3002, .inr (.inl fn))), (mr 5, .inl (kI, 3002, .inl fk)), (mr 6, .inl (kI, 3002, .inl fa)), (m9, .inr (23, mA mr mv vf xl (nI zs) ff_39 xa_40 (nI T) (nI (pp1 + 1)) xi xt xn (nI (ns + 1)) (nI vv) (nI bb1)))] : va_W) ++ (sT L1 F1)) := hD
                            replace hK : va_K (dC, dI) vwCl [(kI, .int), (kL, .long), (kE, .object RX15)] s := hK
                            clear hz1 hk1 hPc hDc hKc hFc hP1 hD1 hK1
                            obtain rfl : r_42 = 0 := hw
                            refine lv_if_eq (tgt := 101) hx hb dX23_newFields_89 (by decide) (fun _ => ?_) (fun c_43 => absurd (by decide) c_43)
                            refine lv_aload_n hx hb dX23_newFields_101 rfl (lv_at hl 2 rfl) ?_
                            refine lv_bipush (v := 57) hx hb dX23_newFields_102 (by decide) ?_
                            replace hPc := hP.subF (f' := [(m9, .inr (23, mA mr mv vf xl (nI zs) ff_39 xa_40 (nI T) (nI (pp1 + 1)) xi xt xn (nI (ns + 1)) (nI vv) (nI bb1))), (mr 5, .inl (kI, 3002, .inl fk))]) [6, 4] rfl
                            replace hDc := hD.subF (f' := [(m9, .inr (23, mA mr mv vf xl (nI zs) ff_39 xa_40 (nI T) (nI (pp1 + 1)) xi xt xn (nI (ns + 1)) (nI vv) (nI bb1))), (mr 5, .inl (kI, 3002, .inl fk))]) [6, 4] (by decide) rfl
                            replace hKc := hK.sub (tys' := [(kI, .int)]) [0] rfl
                            replace hFc := va_freeT (wc := [(m9, .inr (23, mA mr mv vf xl (nI zs) ff_39 xa_40 (nI T) (nI (pp1 + 1)) xi xt xn (nI (ns + 1)) (nI vv) (nI bb1))), (mr 5, .inl (kI, 3002, .inl fk))]) hD hS hA [6, 4] rfl
                            refine va_calli (va_runV (As := [.int 57]) (rest := []) ⟨hx, hb, hml, hown, hts⟩ (c_rtsB l dC dI m9 mr mv vf xl xa_40 xi xt xn zs T (pp1 + 1) (ns + 1) vv bb1 kI fk fa ff_39 57 H.size hf41_0) (cwV 1 hts g_c_xnf_c_rtsB_104 rfl rfl rfl (by decide +kernel) ⟨by show 1 + 1 ≤ 3 + 12 * k; omega, by show 8 + (2 + 11) + (20) ≤ 63 + 279 * k; omega⟩) ⟨fun a U g mk q => by obtain ⟨q0, q1, qP, qK, qD⟩ := q; exact ⟨q0, q1, qP, va_K.moved (u := U) (U := U.calling g mk a) (Vm.Alike.refl U.vm) qK, qD⟩, va_recv hKc hPc (ci := 23) (q0 := 0) rfl rfl, fun U hU hW => ⟨rfl, by rw [hU], by rw [hU]; exact hPc, va_K.moved hW.alike hKc, hDc.weaken (fun _ _ _ _ => trivial)⟩⟩ rfl rfl hl.1 rfl (lv_room (Nat.le_of_ble_eq_true rfl)) dX23_newFields_104 ⟨(show (8 * (pp1 - pp) - 3 * n - 8 * cm) + 0 ≤ (8 * (T - pp) + 3) by omega), (show (120 * (pp1 - pp) + 4 * cp + 8 - 64 * n - 120 * cm) + 0 ≤ (120 * (T - pp) + 280) by omega)⟩) hS (fun q _ h => hFc q h) hFc (fun r_44 u tS H1 locs ht hvm hw hB hz1 hk1 hS => ?_)
                            obtain ⟨hP1, hK1, hD1⟩ := hB
                            rw [ht] at hP1
                            replace hK1 := va_K.moved hvm.symm hK1
                            obtain ⟨hPj, hDj⟩ := va_joinT (wr := [(ee, .inr (15, [.int 5, .int tx, .int 0, .int nm0, .int 0, .int 0, .long 0, .int 0, .null, .ref la, .ref sa, .int (nI n), .null, .null])), (la, .inl (kE, cp, .inr (.inr (.inr (.inr f))))), (sa, .inl (kI, cp, .inl g)), (mr 8, .inl (kL, 3002, .inr (.inl fn))), (mr 6, .inl (kI, 3002, .inl fa))]) (w1 := [(m9, .inr (23, mA mr mv vf xl (nI zs) ff_39 xa_40 (nI T) (nI (pp1 + 1)) xi xt xn (nI (ns + 1)) (nI vv) (nI bb1))), (mr 5, .inl (kI, 3002, .inl fk))]) hP hD [6, 4] [0, 1, 2, 3, 5] rfl rfl (by decide) (by decide) hk1 hFc hP1 hD1
                            replace hP := hPj
                            replace hD := hDj
                            clear hPj hDj
                            replace hK := hK.app hK1
                            generalize H1 = H at hP hS ⊢
                            replace hP : va_P (dC, dI) vwCl (([(ee, .inr (15, [.int 5, .int tx, .int 0, .int nm0, .int 0, .int 0, .long 0, .int 0, .null, .ref la, .ref sa, .int (nI n), .null, .null])), (la, .inl (kE, cp, .inr (.inr (.inr (.inr f))))), (sa, .inl (kI, cp, .inl g)), (mr 8, .inl (kL, 3002, .inr (.inl fn))), (mr 6, .inl (kI, 3002, .inl fa)), (m9, .inr (23, mA mr mv vf xl (nI zs) ff_39 xa_40 (nI T) (nI (pp1 + 1)) xi xt xn (nI (ns + 1)) (nI vv) (nI bb1))), (mr 5, .inl (kI, 3002, .inl fk))] : va_W) ++ (sT L1 F1)) H := hP
                            replace hD : va_D A (([(ee, .inr (15, [.int 5, .int tx, .int 0, .int nm0, .int 0, .int 0, .long 0, .int 0, .null, .ref la, .ref sa, .int (nI n), .null, .null])), (la, .inl (kE, cp, .inr (.inr (.inr (.inr f))))), (sa, .inl (kI, cp, .inl g)), (mr 8, .inl (kL, 3002, .inr (.inl fn))), (mr 6, .inl (kI, 3002, .inl fa)), (m9, .inr (23, mA mr mv vf xl (nI zs) ff_39 xa_40 (nI T) (nI (pp1 + 1)) xi xt xn (nI (ns + 1)) (nI vv) (nI bb1))), (mr 5, .inl (kI, 3002, .inl fk))] : va_W) ++ (sT L1 F1)) := hD
                            replace hK : va_K (dC, dI) vwCl [(kI, .int), (kL, .long), (kE, .object RX15), (kI, .int)] s := hK
                            replace hK := hK.sub (tys' := [(kI, .int), (kL, .long), (kE, .object RX15)]) [0, 1, 2] rfl
                            clear hz1 hk1 hPc hDc hKc hFc hP1 hD1 hK1
                            obtain rfl : r_44 = 0 := hw
                            refine lv_istore_n (lv' := [(2, .int 0), (3, .int (nI pp1)), (0, .ref m9), (1, .ref ee)]) hx hb dX23_newFields_107 rfl hl (by decide) rfl (fun ls hl => ?_)
                            refine lv_goto (tgt := 63) hx hb dX23_newFields_108 (by decide) ?_
                            refine W.widen (k := (8 * ((pp1 + 1) - pp) - 3 * n - 8 * 0)) (n := (120 * ((pp1 + 1) - pp) + 4 * cp + 8 - 64 * n - 120 * 0)) (by omega) (by omega) ?_
                            exact ih1 (pp1 + 1) bb1 la sa cp n 0 ff_39 xa_40 0 L1 F1 f g _ _ _ (⟨by omega, by omega, by omega, by omega, by omega, by omega, by omega, by omega, by omega, by omega, by omega, hT⟩) (Or.inl hf41_0) hr2 hr3 (fun q9 => absurd q9 hf41_0) (hP.subT [0, 1, 2, 5, 6, 4, 3] rfl) (hD.subT [0, 1, 2, 5, 6, 4, 3] (by decide) rfl) hS (lv_sub hl [0, 2, 3] rfl)
                        · replace hPc := hP.subF (f' := [(m9, .inr (23, mA mr mv vf xl (nI zs) 0 xa1 (nI T) (nI pp1) xi xt xn (nI (ns + 1)) (nI vv) (nI bb1))), (mr 5, .inl (kI, 3002, .inl fk)), (mr 6, .inl (kI, 3002, .inl fa))]) [6, 3, 4] rfl
                          replace hDc := hD.subF (f' := [(m9, .inr (23, mA mr mv vf xl (nI zs) 0 xa1 (nI T) (nI pp1) xi xt xn (nI (ns + 1)) (nI vv) (nI bb1))), (mr 5, .inl (kI, 3002, .inl fk)), (mr 6, .inl (kI, 3002, .inl fa))]) [6, 3, 4] (by decide) rfl
                          replace hKc := hK.sub (tys' := [(kI, .int)]) [0] rfl
                          replace hFc := va_freeT (wc := [(m9, .inr (23, mA mr mv vf xl (nI zs) 0 xa1 (nI T) (nI pp1) xi xt xn (nI (ns + 1)) (nI vv) (nI bb1))), (mr 5, .inl (kI, 3002, .inl fk)), (mr 6, .inl (kI, 3002, .inl fa))]) hD hS hA [6, 3, 4] rfl
                          refine va_calli (va_runV (As := []) (rest := []) ⟨hx, hb, hml, hown, hts⟩ (c_rnmN l dC dI m9 mr mv vf xl xa1 xi xt xn zs T pp1 (ns + 1) vv bb1 kI fk fa H.size hT hr0.2.2.1 hk0 hk_35) (cwV 0 hts g_c_xnf_c_rnmN_75 rfl rfl rfl (by decide +kernel) ⟨by show 2 + 1 ≤ 3 + 12 * k; omega, by show 8 + (1 + 11) + (43) ≤ 63 + 279 * k; omega⟩) ⟨fun a U g mk q => by obtain ⟨q0, q1, qP, qK, qD⟩ := q; exact ⟨q0, q1, qP, va_K.moved (u := U) (U := U.calling g mk a) (Vm.Alike.refl U.vm) qK, qD⟩, va_recv hKc hPc (ci := 23) (q0 := 0) rfl rfl, fun U hU hW => ⟨rfl, by rw [hU], by rw [hU]; exact hPc, va_K.moved hW.alike hKc, hDc.weaken (fun _ _ _ _ => trivial)⟩⟩ rfl rfl hl.1 rfl (lv_room (Nat.le_of_ble_eq_true rfl)) dX23_newFields_75 ⟨(show (8 * (pp1 - pp) - 3 * n - 8 * cm) + 0 ≤ (8 * (T - pp) + 3) by omega), (show (120 * (pp1 - pp) + 4 * cp + 8 - 64 * n - 120 * cm) + 0 ≤ (120 * (T - pp) + 280) by omega)⟩) hS (fun q _ h => hFc q h) hFc (fun r_38 u tS H1 locs ht hvm hw hB hz1 hk1 hS => ?_)
                          obtain ⟨ff_36, xa_37, hf38_0, hP1, hK1, hD1⟩ := hB
                          rw [ht] at hP1
                          replace hK1 := va_K.moved hvm.symm hK1
                          obtain ⟨hPj, hDj⟩ := va_joinT (wr := [(ee, .inr (15, [.int 5, .int tx, .int 0, .int nm0, .int 0, .int 0, .long 0, .int 0, .null, .ref la, .ref sa, .int (nI n), .null, .null])), (la, .inl (kE, cp, .inr (.inr (.inr (.inr f))))), (sa, .inl (kI, cp, .inl g)), (mr 8, .inl (kL, 3002, .inr (.inl fn)))]) (w1 := [(m9, .inr (23, mA mr mv vf xl (nI zs) ff_36 xa_37 (nI T) (nI pp1) xi xt xn (nI (ns + 1)) (nI vv) (nI bb1))), (mr 5, .inl (kI, 3002, .inl fk)), (mr 6, .inl (kI, 3002, .inl fa))]) hP hD [6, 3, 4] [0, 1, 2, 5] rfl rfl (by decide) (by decide) hk1 hFc hP1 hD1
                          replace hP := hPj
                          replace hD := hDj
                          clear hPj hDj
                          replace hK := hK.app hK1
                          generalize H1 = H at hP hS ⊢
                          replace hP : va_P (dC, dI) vwCl (([(ee, .inr (15, [.int 5, .int tx, .int 0, .int nm0, .int 0, .int 0, .long 0, .int 0, .null, .ref la, .ref sa, .int (nI n), .null, .null])), (la, .inl (kE, cp, .inr (.inr (.inr (.inr f))))), (sa, .inl (kI, cp, .inl g)), (mr 8, .inl (kL, 3002, .inr (.inl fn))), (m9, .inr (23, mA mr mv vf xl (nI zs) ff_36 xa_37 (nI T) (nI pp1) xi xt xn (nI (ns + 1)) (nI vv) (nI bb1))), (mr 5, .inl (kI, 3002, .inl fk)), (mr 6, .inl (kI, 3002, .inl fa))] : va_W) ++ (sT L1 F1)) H := hP
                          replace hD : va_D A (([(ee, .inr (15, [.int 5, .int tx, .int 0, .int nm0, .int 0, .int 0, .long 0, .int 0, .null, .ref la, .ref sa, .int (nI n), .null, .null])), (la, .inl (kE, cp, .inr (.inr (.inr (.inr f))))), (sa, .inl (kI, cp, .inl g)), (mr 8, .inl (kL, 3002, .inr (.inl fn))), (m9, .inr (23, mA mr mv vf xl (nI zs) ff_36 xa_37 (nI T) (nI pp1) xi xt xn (nI (ns + 1)) (nI vv) (nI bb1))), (mr 5, .inl (kI, 3002, .inl fk)), (mr 6, .inl (kI, 3002, .inl fa))] : va_W) ++ (sT L1 F1)) := hD
                          replace hK : va_K (dC, dI) vwCl [(kI, .int), (kL, .long), (kE, .object RX15), (kI, .int)] s := hK
                          replace hK := hK.sub (tys' := [(kI, .int), (kL, .long), (kE, .object RX15)]) [0, 1, 2] rfl
                          clear hz1 hk1 hPc hDc hKc hFc hP1 hD1 hK1
                          refine lv_istore_n (lv' := [(3, .int r_38), (2, .int mo), (0, .ref m9), (1, .ref ee)]) hx hb dX23_newFields_78 rfl hl (by decide) rfl (fun ls hl => ?_)
                          refine lv_aload_n hx hb dX23_newFields_79 rfl (lv_at hl 2 rfl) ?_
                          refine lv_bipush (v := 58) hx hb dX23_newFields_80 (by decide) ?_
                          replace hPc := hP.subF (f' := [(m9, .inr (23, mA mr mv vf xl (nI zs) ff_36 xa_37 (nI T) (nI pp1) xi xt xn (nI (ns + 1)) (nI vv) (nI bb1))), (mr 5, .inl (kI, 3002, .inl fk)), (mr 6, .inl (kI, 3002, .inl fa))]) [4, 5, 6] rfl
                          replace hDc := hD.subF (f' := [(m9, .inr (23, mA mr mv vf xl (nI zs) ff_36 xa_37 (nI T) (nI pp1) xi xt xn (nI (ns + 1)) (nI vv) (nI bb1))), (mr 5, .inl (kI, 3002, .inl fk)), (mr 6, .inl (kI, 3002, .inl fa))]) [4, 5, 6] (by decide) rfl
                          replace hKc := hK.sub (tys' := [(kI, .int)]) [0] rfl
                          replace hFc := va_freeT (wc := [(m9, .inr (23, mA mr mv vf xl (nI zs) ff_36 xa_37 (nI T) (nI pp1) xi xt xn (nI (ns + 1)) (nI vv) (nI bb1))), (mr 5, .inl (kI, 3002, .inl fk)), (mr 6, .inl (kI, 3002, .inl fa))]) hD hS hA [4, 5, 6] rfl
                          refine va_callv (va_runV (As := [.int 58]) (rest := []) ⟨hx, hb, hml, hown, hts⟩ (c_rtkB l dC dI m9 mr mv vf xl xa_37 xi xt xn zs T pp1 (ns + 1) vv bb1 kI fk fa ff_36 58 H.size hf38_0) (cwV 1 hts g_c_xnf_c_rtkB_82 rfl rfl rfl (by decide +kernel) ⟨by show 1 + 1 ≤ 3 + 12 * k; omega, by show 8 + (2 + 11) + (20) ≤ 63 + 279 * k; omega⟩) ⟨fun a U g mk q => by obtain ⟨q0, q1, qP, qK, qD⟩ := q; exact ⟨q0, q1, qP, va_K.moved (u := U) (U := U.calling g mk a) (Vm.Alike.refl U.vm) qK, qD⟩, va_recv hKc hPc (ci := 23) (q0 := 0) rfl rfl, fun U hU hW => ⟨rfl, by rw [hU], by rw [hU]; exact hPc, va_K.moved hW.alike hKc, hDc.weaken (fun _ _ _ _ => trivial)⟩⟩ rfl rfl hl.1 rfl (lv_room (Nat.le_of_ble_eq_true rfl)) dX23_newFields_82 ⟨(show (8 * (pp1 - pp) - 3 * n - 8 * cm) + 0 ≤ (8 * (T - pp) + 3) by omega), (show (120 * (pp1 - pp) + 4 * cp + 8 - 64 * n - 120 * cm) + 0 ≤ (120 * (T - pp) + 280) by omega)⟩) hS (fun q _ h => hFc q h) hFc (fun u tS H1 locs ht hvm hw hB hz1 hk1 hS => ?_)
                          obtain ⟨hP1, hK1, hD1⟩ := hB
                          rw [ht] at hP1
                          replace hK1 := va_K.moved hvm.symm hK1
                          obtain ⟨hPj, hDj⟩ := va_joinT (wr := [(ee, .inr (15, [.int 5, .int tx, .int 0, .int nm0, .int 0, .int 0, .long 0, .int 0, .null, .ref la, .ref sa, .int (nI n), .null, .null])), (la, .inl (kE, cp, .inr (.inr (.inr (.inr f))))), (sa, .inl (kI, cp, .inl g)), (mr 8, .inl (kL, 3002, .inr (.inl fn)))]) (w1 := [(m9, .inr (23, mA mr mv vf xl (nI zs) ff_36 xa_37 (nI T) (nI pp1) xi xt xn (nI (ns + 1)) (nI vv) (nI bb1))), (mr 5, .inl (kI, 3002, .inl fk)), (mr 6, .inl (kI, 3002, .inl fa))]) hP hD [4, 5, 6] [0, 1, 2, 3] rfl rfl (by decide) (by decide) hk1 hFc hP1 hD1
                          replace hP := hPj
                          replace hD := hDj
                          clear hPj hDj
                          replace hK := hK.app hK1
                          generalize H1 = H at hP hS ⊢
                          replace hP : va_P (dC, dI) vwCl (([(ee, .inr (15, [.int 5, .int tx, .int 0, .int nm0, .int 0, .int 0, .long 0, .int 0, .null, .ref la, .ref sa, .int (nI n), .null, .null])), (la, .inl (kE, cp, .inr (.inr (.inr (.inr f))))), (sa, .inl (kI, cp, .inl g)), (mr 8, .inl (kL, 3002, .inr (.inl fn))), (m9, .inr (23, mA mr mv vf xl (nI zs) ff_36 xa_37 (nI T) (nI pp1) xi xt xn (nI (ns + 1)) (nI vv) (nI bb1))), (mr 5, .inl (kI, 3002, .inl fk)), (mr 6, .inl (kI, 3002, .inl fa))] : va_W) ++ (sT L1 F1)) H := hP
                          replace hD : va_D A (([(ee, .inr (15, [.int 5, .int tx, .int 0, .int nm0, .int 0, .int 0, .long 0, .int 0, .null, .ref la, .ref sa, .int (nI n), .null, .null])), (la, .inl (kE, cp, .inr (.inr (.inr (.inr f))))), (sa, .inl (kI, cp, .inl g)), (mr 8, .inl (kL, 3002, .inr (.inl fn))), (m9, .inr (23, mA mr mv vf xl (nI zs) ff_36 xa_37 (nI T) (nI pp1) xi xt xn (nI (ns + 1)) (nI vv) (nI bb1))), (mr 5, .inl (kI, 3002, .inl fk)), (mr 6, .inl (kI, 3002, .inl fa))] : va_W) ++ (sT L1 F1)) := hD
                          replace hK : va_K (dC, dI) vwCl [(kI, .int), (kL, .long), (kE, .object RX15), (kI, .int)] s := hK
                          replace hK := hK.sub (tys' := [(kI, .int), (kL, .long), (kE, .object RX15)]) [0, 1, 2] rfl
                          clear hz1 hk1 hPc hDc hKc hFc hP1 hD1 hK1
                          refine lv_aload_n hx hb dX23_newFields_85 rfl (lv_at hl 2 rfl) ?_
                          replace hPc := hP.subF (f' := [(m9, .inr (23, mA mr mv vf xl (nI zs) ff_36 xa_37 (nI T) (nI pp1) xi xt xn (nI (ns + 1)) (nI vv) (nI bb1)))]) [4] rfl
                          replace hDc := hD.subF (f' := [(m9, .inr (23, mA mr mv vf xl (nI zs) ff_36 xa_37 (nI T) (nI pp1) xi xt xn (nI (ns + 1)) (nI vv) (nI bb1)))]) [4] (by decide) rfl
                          replace hKc := hK.sub (tys' := []) [] rfl
                          replace hFc := va_freeT (wc := [(m9, .inr (23, mA mr mv vf xl (nI zs) ff_36 xa_37 (nI T) (nI pp1) xi xt xn (nI (ns + 1)) (nI vv) (nI bb1)))]) hD hS hA [4] rfl
                          refine va_calli (va_runV (As := []) (rest := []) ⟨hx, hb, hml, hown, hts⟩ (c_rokB l dC dI m9 mr mv vf xl xa_37 xi xt xn zs T pp1 (ns + 1) vv bb1 kI fk fa ff_36 H.size hf38_0) (cwV 0 hts g_c_xnf_c_rokB_86 rfl rfl rfl (by decide +kernel) ⟨by show 0 + 1 ≤ 3 + 12 * k; omega, by show 8 + (1 + 11) + (0) ≤ 63 + 279 * k; omega⟩) ⟨fun a U g mk q => by obtain ⟨q0, q1, qP, qK, qD⟩ := q; exact ⟨q0, q1, qP, va_K.moved (u := U) (U := U.calling g mk a) (Vm.Alike.refl U.vm) qK, qD⟩, va_recv hKc hPc (ci := 23) (q0 := 0) rfl rfl, fun U hU hW => ⟨rfl, by rw [hU], by rw [hU]; exact hPc, va_K.moved hW.alike hKc, hDc.weaken (fun _ _ _ _ => trivial)⟩⟩ rfl rfl hl.1 rfl (lv_room (Nat.le_of_ble_eq_true rfl)) dX23_newFields_86 ⟨(show (8 * (pp1 - pp) - 3 * n - 8 * cm) + 0 ≤ (8 * (T - pp) + 3) by omega), (show (120 * (pp1 - pp) + 4 * cp + 8 - 64 * n - 120 * cm) + 0 ≤ (120 * (T - pp) + 280) by omega)⟩) hS (fun q _ h => hFc q h) hFc (fun r_40 u tS H1 locs ht hvm hw hB hz1 hk1 hS => ?_)
                          obtain ⟨hP1, hK1, hD1⟩ := hB
                          rw [ht] at hP1
                          replace hK1 := va_K.moved hvm.symm hK1
                          obtain ⟨hPj, hDj⟩ := va_joinT (wr := [(ee, .inr (15, [.int 5, .int tx, .int 0, .int nm0, .int 0, .int 0, .long 0, .int 0, .null, .ref la, .ref sa, .int (nI n), .null, .null])), (la, .inl (kE, cp, .inr (.inr (.inr (.inr f))))), (sa, .inl (kI, cp, .inl g)), (mr 8, .inl (kL, 3002, .inr (.inl fn))), (mr 5, .inl (kI, 3002, .inl fk)), (mr 6, .inl (kI, 3002, .inl fa))]) (w1 := [(m9, .inr (23, mA mr mv vf xl (nI zs) ff_36 xa_37 (nI T) (nI pp1) xi xt xn (nI (ns + 1)) (nI vv) (nI bb1)))]) hP hD [4] [0, 1, 2, 3, 5, 6] rfl rfl (by decide) (by decide) hk1 hFc hP1 hD1
                          replace hP := hPj
                          replace hD := hDj
                          clear hPj hDj
                          generalize H1 = H at hP hS ⊢
                          replace hP : va_P (dC, dI) vwCl (([(ee, .inr (15, [.int 5, .int tx, .int 0, .int nm0, .int 0, .int 0, .long 0, .int 0, .null, .ref la, .ref sa, .int (nI n), .null, .null])), (la, .inl (kE, cp, .inr (.inr (.inr (.inr f))))), (sa, .inl (kI, cp, .inl g)), (mr 8, .inl (kL, 3002, .inr (.inl fn))), (mr 5, .inl (kI, 3002, .inl fk)), (mr 6, .inl (kI, 3002, .inl fa)), (m9, .inr (23, mA mr mv vf xl (nI zs) ff_36 xa_37 (nI T) (nI pp1) xi xt xn (nI (ns + 1)) (nI vv) (nI bb1)))] : va_W) ++ (sT L1 F1)) H := hP
                          replace hD : va_D A (([(ee, .inr (15, [.int 5, .int tx, .int 0, .int nm0, .int 0, .int 0, .long 0, .int 0, .null, .ref la, .ref sa, .int (nI n), .null, .null])), (la, .inl (kE, cp, .inr (.inr (.inr (.inr f))))), (sa, .inl (kI, cp, .inl g)), (mr 8, .inl (kL, 3002, .inr (.inl fn))), (mr 5, .inl (kI, 3002, .inl fk)), (mr 6, .inl (kI, 3002, .inl fa)), (m9, .inr (23, mA mr mv vf xl (nI zs) ff_36 xa_37 (nI T) (nI pp1) xi xt xn (nI (ns + 1)) (nI vv) (nI bb1)))] : va_W) ++ (sT L1 F1)) := hD
                          replace hK : va_K (dC, dI) vwCl [(kI, .int), (kL, .long), (kE, .object RX15)] s := hK
                          clear hz1 hk1 hPc hDc hKc hFc hP1 hD1 hK1
                          obtain rfl : r_40 = 0 := hw
                          refine lv_if_eq (tgt := 101) hx hb dX23_newFields_89 (by decide) (fun _ => ?_) (fun c_41 => absurd (by decide) c_41)
                          refine lv_aload_n hx hb dX23_newFields_101 rfl (lv_at hl 2 rfl) ?_
                          refine lv_bipush (v := 57) hx hb dX23_newFields_102 (by decide) ?_
                          replace hPc := hP.subF (f' := [(m9, .inr (23, mA mr mv vf xl (nI zs) ff_36 xa_37 (nI T) (nI pp1) xi xt xn (nI (ns + 1)) (nI vv) (nI bb1))), (mr 5, .inl (kI, 3002, .inl fk))]) [6, 4] rfl
                          replace hDc := hD.subF (f' := [(m9, .inr (23, mA mr mv vf xl (nI zs) ff_36 xa_37 (nI T) (nI pp1) xi xt xn (nI (ns + 1)) (nI vv) (nI bb1))), (mr 5, .inl (kI, 3002, .inl fk))]) [6, 4] (by decide) rfl
                          replace hKc := hK.sub (tys' := [(kI, .int)]) [0] rfl
                          replace hFc := va_freeT (wc := [(m9, .inr (23, mA mr mv vf xl (nI zs) ff_36 xa_37 (nI T) (nI pp1) xi xt xn (nI (ns + 1)) (nI vv) (nI bb1))), (mr 5, .inl (kI, 3002, .inl fk))]) hD hS hA [6, 4] rfl
                          refine va_calli (va_runV (As := [.int 57]) (rest := []) ⟨hx, hb, hml, hown, hts⟩ (c_rtsB l dC dI m9 mr mv vf xl xa_37 xi xt xn zs T pp1 (ns + 1) vv bb1 kI fk fa ff_36 57 H.size hf38_0) (cwV 1 hts g_c_xnf_c_rtsB_104 rfl rfl rfl (by decide +kernel) ⟨by show 1 + 1 ≤ 3 + 12 * k; omega, by show 8 + (2 + 11) + (20) ≤ 63 + 279 * k; omega⟩) ⟨fun a U g mk q => by obtain ⟨q0, q1, qP, qK, qD⟩ := q; exact ⟨q0, q1, qP, va_K.moved (u := U) (U := U.calling g mk a) (Vm.Alike.refl U.vm) qK, qD⟩, va_recv hKc hPc (ci := 23) (q0 := 0) rfl rfl, fun U hU hW => ⟨rfl, by rw [hU], by rw [hU]; exact hPc, va_K.moved hW.alike hKc, hDc.weaken (fun _ _ _ _ => trivial)⟩⟩ rfl rfl hl.1 rfl (lv_room (Nat.le_of_ble_eq_true rfl)) dX23_newFields_104 ⟨(show (8 * (pp1 - pp) - 3 * n - 8 * cm) + 0 ≤ (8 * (T - pp) + 3) by omega), (show (120 * (pp1 - pp) + 4 * cp + 8 - 64 * n - 120 * cm) + 0 ≤ (120 * (T - pp) + 280) by omega)⟩) hS (fun q _ h => hFc q h) hFc (fun r_42 u tS H1 locs ht hvm hw hB hz1 hk1 hS => ?_)
                          obtain ⟨hP1, hK1, hD1⟩ := hB
                          rw [ht] at hP1
                          replace hK1 := va_K.moved hvm.symm hK1
                          obtain ⟨hPj, hDj⟩ := va_joinT (wr := [(ee, .inr (15, [.int 5, .int tx, .int 0, .int nm0, .int 0, .int 0, .long 0, .int 0, .null, .ref la, .ref sa, .int (nI n), .null, .null])), (la, .inl (kE, cp, .inr (.inr (.inr (.inr f))))), (sa, .inl (kI, cp, .inl g)), (mr 8, .inl (kL, 3002, .inr (.inl fn))), (mr 6, .inl (kI, 3002, .inl fa))]) (w1 := [(m9, .inr (23, mA mr mv vf xl (nI zs) ff_36 xa_37 (nI T) (nI pp1) xi xt xn (nI (ns + 1)) (nI vv) (nI bb1))), (mr 5, .inl (kI, 3002, .inl fk))]) hP hD [6, 4] [0, 1, 2, 3, 5] rfl rfl (by decide) (by decide) hk1 hFc hP1 hD1
                          replace hP := hPj
                          replace hD := hDj
                          clear hPj hDj
                          replace hK := hK.app hK1
                          generalize H1 = H at hP hS ⊢
                          replace hP : va_P (dC, dI) vwCl (([(ee, .inr (15, [.int 5, .int tx, .int 0, .int nm0, .int 0, .int 0, .long 0, .int 0, .null, .ref la, .ref sa, .int (nI n), .null, .null])), (la, .inl (kE, cp, .inr (.inr (.inr (.inr f))))), (sa, .inl (kI, cp, .inl g)), (mr 8, .inl (kL, 3002, .inr (.inl fn))), (mr 6, .inl (kI, 3002, .inl fa)), (m9, .inr (23, mA mr mv vf xl (nI zs) ff_36 xa_37 (nI T) (nI pp1) xi xt xn (nI (ns + 1)) (nI vv) (nI bb1))), (mr 5, .inl (kI, 3002, .inl fk))] : va_W) ++ (sT L1 F1)) H := hP
                          replace hD : va_D A (([(ee, .inr (15, [.int 5, .int tx, .int 0, .int nm0, .int 0, .int 0, .long 0, .int 0, .null, .ref la, .ref sa, .int (nI n), .null, .null])), (la, .inl (kE, cp, .inr (.inr (.inr (.inr f))))), (sa, .inl (kI, cp, .inl g)), (mr 8, .inl (kL, 3002, .inr (.inl fn))), (mr 6, .inl (kI, 3002, .inl fa)), (m9, .inr (23, mA mr mv vf xl (nI zs) ff_36 xa_37 (nI T) (nI pp1) xi xt xn (nI (ns + 1)) (nI vv) (nI bb1))), (mr 5, .inl (kI, 3002, .inl fk))] : va_W) ++ (sT L1 F1)) := hD
                          replace hK : va_K (dC, dI) vwCl [(kI, .int), (kL, .long), (kE, .object RX15), (kI, .int)] s := hK
                          replace hK := hK.sub (tys' := [(kI, .int), (kL, .long), (kE, .object RX15)]) [0, 1, 2] rfl
                          clear hz1 hk1 hPc hDc hKc hFc hP1 hD1 hK1
                          obtain rfl : r_42 = 0 := hw
                          refine lv_istore_n (lv' := [(2, .int 0), (3, .int r_38), (0, .ref m9), (1, .ref ee)]) hx hb dX23_newFields_107 rfl hl (by decide) rfl (fun ls hl => ?_)
                          refine lv_goto (tgt := 63) hx hb dX23_newFields_108 (by decide) ?_
                          refine W.widen (k := (8 * (pp1 - pp) - 3 * n - 8 * 0)) (n := (120 * (pp1 - pp) + 4 * cp + 8 - 64 * n - 120 * 0)) (by omega) (by omega) ?_
                          exact ih1 pp1 bb1 la sa cp n 0 ff_36 xa_37 0 L1 F1 f g _ _ _ (⟨by omega, by omega, by omega, by omega, by omega, by omega, by omega, by omega, by omega, by omega, by omega, hT⟩) (Or.inl hf38_0) hr2 hr3 (fun q9 => absurd q9 hf38_0) (hP.subT [0, 1, 2, 5, 6, 4, 3] rfl) (hD.subT [0, 1, 2, 5, 6, 4, 3] (by decide) rfl) hS (lv_sub hl [0, 2, 3] rfl)
                    · replace hPc := hP.subF (f' := [(m9, .inr (23, mA mr mv vf xl (nI zs) ff1 xa1 (nI T) (nI pp1) xi xt xn (nI (ns + 1)) (nI vv) (nI bb1)))]) [3] rfl
                      replace hDc := hD.subF (f' := [(m9, .inr (23, mA mr mv vf xl (nI zs) ff1 xa1 (nI T) (nI pp1) xi xt xn (nI (ns + 1)) (nI vv) (nI bb1)))]) [3] (by decide) rfl
                      replace hKc := hK.sub (tys' := []) [] rfl
                      replace hFc := va_freeT (wc := [(m9, .inr (23, mA mr mv vf xl (nI zs) ff1 xa1 (nI T) (nI pp1) xi xt xn (nI (ns + 1)) (nI vv) (nI bb1)))]) hD hS hA [3] rfl
                      refine va_calli (va_runV (As := []) (rest := []) ⟨hx, hb, hml, hown, hts⟩ (c_rokB l dC dI m9 mr mv vf xl xa1 xi xt xn zs T pp1 (ns + 1) vv bb1 kI fk fa ff1 H.size hz_31) (cwV 0 hts g_c_xnf_c_rokB_64 rfl rfl rfl (by decide +kernel) ⟨by show 0 + 1 ≤ 3 + 12 * k; omega, by show 8 + (1 + 11) + (0) ≤ 63 + 279 * k; omega⟩) ⟨fun a U g mk q => by obtain ⟨q0, q1, qP, qK, qD⟩ := q; exact ⟨q0, q1, qP, va_K.moved (u := U) (U := U.calling g mk a) (Vm.Alike.refl U.vm) qK, qD⟩, va_recv hKc hPc (ci := 23) (q0 := 0) rfl rfl, fun U hU hW => ⟨rfl, by rw [hU], by rw [hU]; exact hPc, va_K.moved hW.alike hKc, hDc.weaken (fun _ _ _ _ => trivial)⟩⟩ rfl rfl hl.1 rfl (lv_room (Nat.le_of_ble_eq_true rfl)) dX23_newFields_64 ⟨(show (8 * (pp1 - pp) - 3 * n - 8 * cm) + 0 ≤ (8 * (T - pp) + 3) by omega), (show (120 * (pp1 - pp) + 4 * cp + 8 - 64 * n - 120 * cm) + 0 ≤ (120 * (T - pp) + 280) by omega)⟩) hS (fun q _ h => hFc q h) hFc (fun r_32 u tS H1 locs ht hvm hw hB hz1 hk1 hS => ?_)
                      obtain ⟨hP1, hK1, hD1⟩ := hB
                      rw [ht] at hP1
                      replace hK1 := va_K.moved hvm.symm hK1
                      obtain ⟨hPj, hDj⟩ := va_joinT (wr := [(ee, .inr (15, [.int 5, .int tx, .int 0, .int nm0, .int 0, .int 0, .long 0, .int 0, .null, .ref la, .ref sa, .int (nI n), .null, .null])), (la, .inl (kE, cp, .inr (.inr (.inr (.inr f))))), (sa, .inl (kI, cp, .inl g)), (mr 5, .inl (kI, 3002, .inl fk)), (mr 6, .inl (kI, 3002, .inl fa)), (mr 8, .inl (kL, 3002, .inr (.inl fn)))]) (w1 := [(m9, .inr (23, mA mr mv vf xl (nI zs) ff1 xa1 (nI T) (nI pp1) xi xt xn (nI (ns + 1)) (nI vv) (nI bb1)))]) hP hD [3] [0, 1, 2, 4, 5, 6] rfl rfl (by decide) (by decide) hk1 hFc hP1 hD1
                      replace hP := hPj
                      replace hD := hDj
                      clear hPj hDj
                      generalize H1 = H at hP hS ⊢
                      replace hP : va_P (dC, dI) vwCl (([(ee, .inr (15, [.int 5, .int tx, .int 0, .int nm0, .int 0, .int 0, .long 0, .int 0, .null, .ref la, .ref sa, .int (nI n), .null, .null])), (la, .inl (kE, cp, .inr (.inr (.inr (.inr f))))), (sa, .inl (kI, cp, .inl g)), (mr 5, .inl (kI, 3002, .inl fk)), (mr 6, .inl (kI, 3002, .inl fa)), (mr 8, .inl (kL, 3002, .inr (.inl fn))), (m9, .inr (23, mA mr mv vf xl (nI zs) ff1 xa1 (nI T) (nI pp1) xi xt xn (nI (ns + 1)) (nI vv) (nI bb1)))] : va_W) ++ (sT L1 F1)) H := hP
                      replace hD : va_D A (([(ee, .inr (15, [.int 5, .int tx, .int 0, .int nm0, .int 0, .int 0, .long 0, .int 0, .null, .ref la, .ref sa, .int (nI n), .null, .null])), (la, .inl (kE, cp, .inr (.inr (.inr (.inr f))))), (sa, .inl (kI, cp, .inl g)), (mr 5, .inl (kI, 3002, .inl fk)), (mr 6, .inl (kI, 3002, .inl fa)), (mr 8, .inl (kL, 3002, .inr (.inl fn))), (m9, .inr (23, mA mr mv vf xl (nI zs) ff1 xa1 (nI T) (nI pp1) xi xt xn (nI (ns + 1)) (nI vv) (nI bb1)))] : va_W) ++ (sT L1 F1)) := hD
                      replace hK : va_K (dC, dI) vwCl [(kI, .int), (kL, .long), (kE, .object RX15)] s := hK
                      clear hz1 hk1 hPc hDc hKc hFc hP1 hD1 hK1
                      obtain rfl : r_32 = 0 := hw
                      refine lv_if_eq (tgt := 111) hx hb dX23_newFields_67 (by decide) (fun _ => ?_) (fun c_33 => absurd (by decide) c_33)
                      refine lv_aload_n hx hb dX23_newFields_111 rfl (lv_at hl 1 rfl) ?_
                      refine lv_dup hx hb dX23_newFields_112 rfl ?_
                      refine va_get (D := (dC, dI)) (ci := 23) (v := .int (nI (ns + 1))) (C := RX23) (T := TX23) (N := 89) hx hb hts in_c_xnf_X23 hown hK hP 6 rfl rfl 15 (by decide) (hts (.fieldLink RX23 104 "OwnedPlacesModel" "nest" "I") (wm_c_xnf 29 rfl)) (fun _ h9 => h9) rfl dX23_newFields_113 ?_
                      refine lv_iconst (v := 1) hx hb dX23_newFields_116 (by decide) ?_
                      refine lv_isub hx hb dX23_newFields_117 ?_
                      refine lv_topi (fun f_34 ef_34 => ?_)
                      obtain rfl : f_34 = nI ns := ef_34.trans (nI_pred _)
                      refine va_put (D := (dC, dI)) (ci := 23) (v := .int (nI ns)) (ty := .int) (C := RX23) (T := TX23) (N := 89) hx hb hts in_c_xnf_X23 tyX23 tyX23_ok nmX23 hown hK hP hD hS 6 rfl rfl 15 (by decide) (hts (.fieldLink RX23 104 "OwnedPlacesModel" "nest" "I") (wm_c_xnf 29 rfl)) (fun _ h9 => h9) rfl (by decide +kernel) rfl rfl (Nat.le_of_ble_eq_true rfl) dX23_newFields_118 (fun H locs hP hD hS => ?_)
                      replace hP : va_P (dC, dI) vwCl (([(ee, .inr (15, [.int 5, .int tx, .int 0, .int nm0, .int 0, .int 0, .long 0, .int 0, .null, .ref la, .ref sa, .int (nI n), .null, .null])), (la, .inl (kE, cp, .inr (.inr (.inr (.inr f))))), (sa, .inl (kI, cp, .inl g)), (mr 5, .inl (kI, 3002, .inl fk)), (mr 6, .inl (kI, 3002, .inl fa)), (mr 8, .inl (kL, 3002, .inr (.inl fn))), (m9, .inr (23, mA mr mv vf xl (nI zs) ff1 xa1 (nI T) (nI pp1) xi xt xn (nI ns) (nI vv) (nI bb1)))] : va_W) ++ (sT L1 F1)) H := hP
                      replace hD : va_D A (([(ee, .inr (15, [.int 5, .int tx, .int 0, .int nm0, .int 0, .int 0, .long 0, .int 0, .null, .ref la, .ref sa, .int (nI n), .null, .null])), (la, .inl (kE, cp, .inr (.inr (.inr (.inr f))))), (sa, .inl (kI, cp, .inl g)), (mr 5, .inl (kI, 3002, .inl fk)), (mr 6, .inl (kI, 3002, .inl fa)), (mr 8, .inl (kL, 3002, .inr (.inl fn))), (m9, .inr (23, mA mr mv vf xl (nI zs) ff1 xa1 (nI T) (nI pp1) xi xt xn (nI ns) (nI vv) (nI bb1)))] : va_W) ++ (sT L1 F1)) := hD
                      refine lv_aload_n hx hb dX23_newFields_121 rfl (lv_at hl 1 rfl) ?_
                      refine lv_bipush (v := 64) hx hb dX23_newFields_122 (by decide) ?_
                      replace hPc := hP.subF (f' := [(m9, .inr (23, mA mr mv vf xl (nI zs) ff1 xa1 (nI T) (nI pp1) xi xt xn (nI ns) (nI vv) (nI bb1))), (mr 5, .inl (kI, 3002, .inl fk)), (mr 6, .inl (kI, 3002, .inl fa))]) [6, 3, 4] rfl
                      replace hDc := hD.subF (f' := [(m9, .inr (23, mA mr mv vf xl (nI zs) ff1 xa1 (nI T) (nI pp1) xi xt xn (nI ns) (nI vv) (nI bb1))), (mr 5, .inl (kI, 3002, .inl fk)), (mr 6, .inl (kI, 3002, .inl fa))]) [6, 3, 4] (by decide) rfl
                      replace hKc := hK.sub (tys' := [(kI, .int)]) [0] rfl
                      replace hFc := va_freeT (wc := [(m9, .inr (23, mA mr mv vf xl (nI zs) ff1 xa1 (nI T) (nI pp1) xi xt xn (nI ns) (nI vv) (nI bb1))), (mr 5, .inl (kI, 3002, .inl fk)), (mr 6, .inl (kI, 3002, .inl fa))]) hD hS hA [6, 3, 4] rfl
                      refine va_callv (va_runV (As := [.int 64]) (rest := []) ⟨hx, hb, hml, hown, hts⟩ (c_rtkB l dC dI m9 mr mv vf xl xa1 xi xt xn zs T pp1 ns vv bb1 kI fk fa ff1 64 H.size hz_31) (cwV 1 hts g_c_xnf_c_rtkB_124 rfl rfl rfl (by decide +kernel) ⟨by show 1 + 1 ≤ 3 + 12 * k; omega, by show 8 + (2 + 11) + (20) ≤ 63 + 279 * k; omega⟩) ⟨fun a U g mk q => by obtain ⟨q0, q1, qP, qK, qD⟩ := q; exact ⟨q0, q1, qP, va_K.moved (u := U) (U := U.calling g mk a) (Vm.Alike.refl U.vm) qK, qD⟩, va_recv hKc hPc (ci := 23) (q0 := 0) rfl rfl, fun U hU hW => ⟨rfl, by rw [hU], by rw [hU]; exact hPc, va_K.moved hW.alike hKc, hDc.weaken (fun _ _ _ _ => trivial)⟩⟩ rfl rfl hl.1 rfl (lv_room (Nat.le_of_ble_eq_true rfl)) dX23_newFields_124 ⟨(show (8 * (pp1 - pp) - 3 * n - 8 * cm) + 0 ≤ (8 * (T - pp) + 3) by omega), (show (120 * (pp1 - pp) + 4 * cp + 8 - 64 * n - 120 * cm) + 0 ≤ (120 * (T - pp) + 280) by omega)⟩) hS (fun q _ h => hFc q h) hFc (fun u tS H1 locs ht hvm hw hB hz1 hk1 hS => ?_)
                      obtain ⟨hP1, hK1, hD1⟩ := hB
                      rw [ht] at hP1
                      replace hK1 := va_K.moved hvm.symm hK1
                      obtain ⟨hPj, hDj⟩ := va_joinT (wr := [(ee, .inr (15, [.int 5, .int tx, .int 0, .int nm0, .int 0, .int 0, .long 0, .int 0, .null, .ref la, .ref sa, .int (nI n), .null, .null])), (la, .inl (kE, cp, .inr (.inr (.inr (.inr f))))), (sa, .inl (kI, cp, .inl g)), (mr 8, .inl (kL, 3002, .inr (.inl fn)))]) (w1 := [(m9, .inr (23, mA mr mv vf xl (nI zs) ff1 xa1 (nI T) (nI pp1) xi xt xn (nI ns) (nI vv) (nI bb1))), (mr 5, .inl (kI, 3002, .inl fk)), (mr 6, .inl (kI, 3002, .inl fa))]) hP hD [6, 3, 4] [0, 1, 2, 5] rfl rfl (by decide) (by decide) hk1 hFc hP1 hD1
                      replace hP := hPj
                      replace hD := hDj
                      clear hPj hDj
                      replace hK := hK.app hK1
                      generalize H1 = H at hP hS ⊢
                      replace hP : va_P (dC, dI) vwCl (([(ee, .inr (15, [.int 5, .int tx, .int 0, .int nm0, .int 0, .int 0, .long 0, .int 0, .null, .ref la, .ref sa, .int (nI n), .null, .null])), (la, .inl (kE, cp, .inr (.inr (.inr (.inr f))))), (sa, .inl (kI, cp, .inl g)), (mr 8, .inl (kL, 3002, .inr (.inl fn))), (m9, .inr (23, mA mr mv vf xl (nI zs) ff1 xa1 (nI T) (nI pp1) xi xt xn (nI ns) (nI vv) (nI bb1))), (mr 5, .inl (kI, 3002, .inl fk)), (mr 6, .inl (kI, 3002, .inl fa))] : va_W) ++ (sT L1 F1)) H := hP
                      replace hD : va_D A (([(ee, .inr (15, [.int 5, .int tx, .int 0, .int nm0, .int 0, .int 0, .long 0, .int 0, .null, .ref la, .ref sa, .int (nI n), .null, .null])), (la, .inl (kE, cp, .inr (.inr (.inr (.inr f))))), (sa, .inl (kI, cp, .inl g)), (mr 8, .inl (kL, 3002, .inr (.inl fn))), (m9, .inr (23, mA mr mv vf xl (nI zs) ff1 xa1 (nI T) (nI pp1) xi xt xn (nI ns) (nI vv) (nI bb1))), (mr 5, .inl (kI, 3002, .inl fk)), (mr 6, .inl (kI, 3002, .inl fa))] : va_W) ++ (sT L1 F1)) := hD
                      replace hK : va_K (dC, dI) vwCl [(kI, .int), (kL, .long), (kE, .object RX15), (kI, .int)] s := hK
                      replace hK := hK.sub (tys' := [(kI, .int), (kL, .long), (kE, .object RX15)]) [0, 1, 2] rfl
                      clear hz1 hk1 hPc hDc hKc hFc hP1 hD1 hK1
                      replace hP : va_P (dC, dI) vwCl ((([(ee, .inr (15, [.int 5, .int tx, .int 0, .int nm0, .int 0, .int 0, .long 0, .int 0, .null, .ref la, .ref sa, .int (nI n), .null, .null])), (mr 8, .inl (kL, 3002, .inr (.inl fn))), (m9, .inr (23, mA mr mv vf xl (nI zs) ff1 xa1 (nI T) (nI pp1) xi xt xn (nI ns) (nI vv) (nI bb1))), (mr 5, .inl (kI, 3002, .inl fk)), (mr 6, .inl (kI, 3002, .inl fa))] : va_W) ++ ([(la, .inl (kE, cp, .inr (.inr (.inr (.inr f))))), (sa, .inl (kI, cp, .inl g))] : va_W)) ++ sT L1 F1) H := hP.subT (f' := [(ee, .inr (15, [.int 5, .int tx, .int 0, .int nm0, .int 0, .int 0, .long 0, .int 0, .null, .ref la, .ref sa, .int (nI n), .null, .null])), (mr 8, .inl (kL, 3002, .inr (.inl fn))), (m9, .inr (23, mA mr mv vf xl (nI zs) ff1 xa1 (nI T) (nI pp1) xi xt xn (nI ns) (nI vv) (nI bb1))), (mr 5, .inl (kI, 3002, .inl fk)), (mr 6, .inl (kI, 3002, .inl fa)), (la, .inl (kE, cp, .inr (.inr (.inr (.inr f))))), (sa, .inl (kI, cp, .inl g))]) [0, 3, 4, 5, 6, 1, 2] rfl
                      replace hD : va_D A ((([(ee, .inr (15, [.int 5, .int tx, .int 0, .int nm0, .int 0, .int 0, .long 0, .int 0, .null, .ref la, .ref sa, .int (nI n), .null, .null])), (mr 8, .inl (kL, 3002, .inr (.inl fn))), (m9, .inr (23, mA mr mv vf xl (nI zs) ff1 xa1 (nI T) (nI pp1) xi xt xn (nI ns) (nI vv) (nI bb1))), (mr 5, .inl (kI, 3002, .inl fk)), (mr 6, .inl (kI, 3002, .inl fa))] : va_W) ++ ([(la, .inl (kE, cp, .inr (.inr (.inr (.inr f))))), (sa, .inl (kI, cp, .inl g))] : va_W)) ++ sT L1 F1) := hD.subT (f' := [(ee, .inr (15, [.int 5, .int tx, .int 0, .int nm0, .int 0, .int 0, .long 0, .int 0, .null, .ref la, .ref sa, .int (nI n), .null, .null])), (mr 8, .inl (kL, 3002, .inr (.inl fn))), (m9, .inr (23, mA mr mv vf xl (nI zs) ff1 xa1 (nI T) (nI pp1) xi xt xn (nI ns) (nI vv) (nI bb1))), (mr 5, .inl (kI, 3002, .inl fk)), (mr 6, .inl (kI, 3002, .inl fa)), (la, .inl (kE, cp, .inr (.inr (.inr (.inr f))))), (sa, .inl (kI, cp, .inl g))]) [0, 3, 4, 5, 6, 1, 2] (by decide) rfl
                      obtain ⟨L9, F9, hx9, hm9, hP, hD⟩ := st_fileL [(la, .inl (kE, cp, .inr (.inr (.inr (.inr f))))), (sa, .inl (kI, cp, .inl g))] hP hD
                      have hm9_0 := hm9 _ (List.mem_of_getElem? (i := 0) rfl)
                      have hm9_1 := hm9 _ (List.mem_of_getElem? (i := 1) rfl)
                      refine W.grow (fun hgs0 hgs1 => ?_)
                      have hP9 := hP.subT (f' := [(ee, .inr (15, [.int 5, .int tx, .int 0, .int nm0, .int 0, .int 0, .long 0, .int 0, .null, (.ref la), (.ref sa), .int (nI n), .null, .null])), (m9, .inr (23, mA mr mv vf xl (nI zs) ff1 xa1 (nI T) (nI pp1) xi xt xn (nI ns) (nI vv) (nI bb1))), (mr 5, .inl (kI, 3002, .inl fk)), (mr 6, .inl (kI, 3002, .inl fa)), (mr 8, .inl (kL, 3002, .inr (.inl fn)))]) [0, 2, 3, 4, 1] rfl
                      have hD9 := hD.subT (f' := [(ee, .inr (15, [.int 5, .int tx, .int 0, .int nm0, .int 0, .int 0, .long 0, .int 0, .null, (.ref la), (.ref sa), .int (nI n), .null, .null])), (m9, .inr (23, mA mr mv vf xl (nI zs) ff1 xa1 (nI T) (nI pp1) xi xt xn (nI ns) (nI vv) (nI bb1))), (mr 5, .inl (kI, 3002, .inl fk)), (mr 6, .inl (kI, 3002, .inl fa)), (mr 8, .inl (kL, 3002, .inr (.inl fn)))]) [0, 2, 3, 4, 1] (by decide) rfl
                      have hK9 := hK.sub (tys' := [(kI, .int), (kL, .long), (kE, .object RX15)]) [0, 1, 2] rfl
                      refine W.widen (k := (8 * (T - pp) + 3)) (n := (120 * (T - pp) + 280)) (by omega) (by omega) ?_
                      subst hQ1
                      exact W.vret hx hb hr (fun tS ht hW => ⟨⟨(), rfl, trivial, L9, F9, ff1, xa1, pp1, bb1, nm0, .ref la, .ref sa, n, (hr2).tr hx9, ⟨by omega, by omega, by omega, by omega⟩, (fun q9 => absurd q9 hz_31), by rw [ht]; exact ⟨by omega, by omega⟩, by rw [ht]; exact hP9, va_K.moved hW.alike hK9, hD9⟩, hS.F ht⟩) hS.2.2 dX23_newFields_127
                refine W.widen (k := (8 * (pp25 - pp) - 3 * 1 - 8 * 0)) (n := (120 * (pp25 - pp) + 4 * 4 + 8 - 64 * 1 - 120 * 0)) (by omega) (by omega) ?_
                exact key1 (T + 1 - (pp25) + 1) pp25 bb25 la26 sa26 4 1 0 0 xa25 0 L25 F25 f26 g26 _ _ _ (⟨by omega, by omega, by omega, by omega, by omega, by omega, by omega, by omega, by omega, by omega, by omega, hT⟩) (Or.inr (by omega)) hf26_0.1 (fun i hi => by obtain rfl : i = 0 := (by omega); exact ⟨_, hf27_1.1, hf26_0.2⟩) (fun _ => ⟨hg25.1, _, chP_add (chP_0 (f := f26) (g := g26) (Nat.le_refl (pp + 1))) (fun i hi => absurd hi (by omega)) hf27_1.1 hf27_1.2 (by omega) (isE_im exS.rf _ (by omega) hg25.2) (Or.inr ⟨by omega, by omega⟩), Or.inl ⟨rfl, rfl, by omega⟩⟩) (hP.subT [2, 3, 4, 5, 6, 0, 1] rfl) (hD.subT [2, 3, 4, 5, 6, 0, 1] (by decide) rfl) hS (lv_sub hl [0, 2, 3] rfl)
            · replace hPc := hP.subF (f' := [(m9, .inr (23, mA mr mv vf xl (nI zs) ff25 xa25 (nI T) (nI pp25) xi xt xn (nI (ns + 1)) (nI vv) (nI bb25))), (mr 5, .inl (kI, 3002, .inl fk))]) [0, 1] rfl
              replace hDc := hD.subF (f' := [(m9, .inr (23, mA mr mv vf xl (nI zs) ff25 xa25 (nI T) (nI pp25) xi xt xn (nI (ns + 1)) (nI vv) (nI bb25))), (mr 5, .inl (kI, 3002, .inl fk))]) [0, 1] (by decide) rfl
              replace hKc := hK.sub (tys' := [(kI, .int)]) [0] rfl
              replace hFc := va_freeT (wc := [(m9, .inr (23, mA mr mv vf xl (nI zs) ff25 xa25 (nI T) (nI pp25) xi xt xn (nI (ns + 1)) (nI vv) (nI bb25))), (mr 5, .inl (kI, 3002, .inl fk))]) hD hS hA [0, 1] rfl
              refine va_calli (va_runV (As := [.int 57]) (rest := []) ⟨hx, hb, hml, hown, hts⟩ (c_rtsB l dC dI m9 mr mv vf xl xa25 xi xt xn zs T pp25 (ns + 1) vv bb25 kI fk fa ff25 57 H.size hz_28) (cwV 1 hts g_c_xnf_c_rtsB_104 rfl rfl rfl (by decide +kernel) ⟨by show 1 + 1 ≤ 3 + 12 * k; omega, by show 8 + (2 + 11) + (20) ≤ 63 + 279 * k; omega⟩) ⟨fun a U g mk q => by obtain ⟨q0, q1, qP, qK, qD⟩ := q; exact ⟨q0, q1, qP, va_K.moved (u := U) (U := U.calling g mk a) (Vm.Alike.refl U.vm) qK, qD⟩, va_recv hKc hPc (ci := 23) (q0 := 0) rfl rfl, fun U hU hW => ⟨rfl, by rw [hU], by rw [hU]; exact hPc, va_K.moved hW.alike hKc, hDc.weaken (fun _ _ _ _ => trivial)⟩⟩ rfl rfl hl.1 rfl (lv_room (Nat.le_of_ble_eq_true rfl)) dX23_newFields_104 ⟨(show (8 * (pp25 - (pp + 1 + 1 + 1 + 1 + 1)) + 3 + 2) + 0 ≤ (8 * (T - pp) + 3) by omega), (show (120 * (pp25 - (pp + 1 + 1 + 1 + 1 + 1)) + 48 + 8) + 0 ≤ (120 * (T - pp) + 280) by omega)⟩) hS (fun q _ h => hFc q h) hFc (fun r_29 u tS H1 locs ht hvm hw hB hz1 hk1 hS => ?_)
              obtain ⟨hP1, hK1, hD1⟩ := hB
              rw [ht] at hP1
              replace hK1 := va_K.moved hvm.symm hK1
              obtain ⟨hPj, hDj⟩ := va_joinT (wr := [(mr 6, .inl (kI, 3002, .inl fa)), (mr 8, .inl (kL, 3002, .inr (.inl fn))), (ee, .inr (15, [.int 5, .int tx, .int 0, .int (nI (pp + 1)), .int 0, .int 0, .long 0, .int 0, .null, .ref la26, .ref sa26, .int 1, .null, .null])), (la26, .inl (kE, 4, .inr (.inr (.inr (.inr f26))))), (sa26, .inl (kI, 4, .inl g26))]) (w1 := [(m9, .inr (23, mA mr mv vf xl (nI zs) ff25 xa25 (nI T) (nI pp25) xi xt xn (nI (ns + 1)) (nI vv) (nI bb25))), (mr 5, .inl (kI, 3002, .inl fk))]) hP hD [0, 1] [2, 3, 4, 5, 6] rfl rfl (by decide) (by decide) hk1 hFc hP1 hD1
              replace hP := hPj
              replace hD := hDj
              clear hPj hDj
              replace hK := hK.app hK1
              generalize H1 = H at hP hS ⊢
              replace hP : va_P (dC, dI) vwCl (([(mr 6, .inl (kI, 3002, .inl fa)), (mr 8, .inl (kL, 3002, .inr (.inl fn))), (ee, .inr (15, [.int 5, .int tx, .int 0, .int (nI (pp + 1)), .int 0, .int 0, .long 0, .int 0, .null, .ref la26, .ref sa26, .int 1, .null, .null])), (la26, .inl (kE, 4, .inr (.inr (.inr (.inr f26))))), (sa26, .inl (kI, 4, .inl g26)), (m9, .inr (23, mA mr mv vf xl (nI zs) ff25 xa25 (nI T) (nI pp25) xi xt xn (nI (ns + 1)) (nI vv) (nI bb25))), (mr 5, .inl (kI, 3002, .inl fk))] : va_W) ++ (sT L25 F25)) H := hP
              replace hD : va_D A (([(mr 6, .inl (kI, 3002, .inl fa)), (mr 8, .inl (kL, 3002, .inr (.inl fn))), (ee, .inr (15, [.int 5, .int tx, .int 0, .int (nI (pp + 1)), .int 0, .int 0, .long 0, .int 0, .null, .ref la26, .ref sa26, .int 1, .null, .null])), (la26, .inl (kE, 4, .inr (.inr (.inr (.inr f26))))), (sa26, .inl (kI, 4, .inl g26)), (m9, .inr (23, mA mr mv vf xl (nI zs) ff25 xa25 (nI T) (nI pp25) xi xt xn (nI (ns + 1)) (nI vv) (nI bb25))), (mr 5, .inl (kI, 3002, .inl fk))] : va_W) ++ (sT L25 F25)) := hD
              replace hK : va_K (dC, dI) vwCl [(kI, .int), (kL, .long), (kE, .object RX15), (kI, .int)] s := hK
              replace hK := hK.sub (tys' := [(kI, .int), (kL, .long), (kE, .object RX15)]) [0, 1, 2] rfl
              clear hz1 hk1 hPc hDc hKc hFc hP1 hD1 hK1
              obtain rfl : r_29 = 0 := hw
              refine lv_istore_n (lv' := [(2, .int 0), (3, .int (nI (pp + 1 + 1 + 1))), (0, .ref m9), (1, .ref ee)]) hx hb dX23_newFields_107 rfl hl (by decide) rfl (fun ls hl => ?_)
              refine lv_goto (tgt := 63) hx hb dX23_newFields_108 (by decide) ?_
              obtain ⟨nm0, enm0⟩ : ∃ z : Int32, z = nI (pp + 1) := ⟨_, rfl⟩
              rw [← enm0] at hP hD
              replace hP : va_P (dC, dI) vwCl (([(mr 6, .inl (kI, 3002, .inl fa)), (mr 8, .inl (kL, 3002, .inr (.inl fn))), (ee, .inr (15, [.int 5, .int tx, .int 0, .int nm0, .int 0, .int 0, .long 0, .int 0, .null, .ref la26, .ref sa26, .int 1, .null, .null])), (la26, .inl (kE, 4, .inr (.inr (.inr (.inr f26))))), (sa26, .inl (kI, 4, .inl g26)), (m9, .inr (23, mA mr mv vf xl (nI zs) ff25 xa25 (nI T) (nI pp25) xi xt xn (nI (ns + 1)) (nI vv) (nI bb25))), (mr 5, .inl (kI, 3002, .inl fk))] : va_W) ++ (sT L25 F25)) H := hP
              replace hD : va_D A (([(mr 6, .inl (kI, 3002, .inl fa)), (mr 8, .inl (kL, 3002, .inr (.inl fn))), (ee, .inr (15, [.int 5, .int tx, .int 0, .int nm0, .int 0, .int 0, .long 0, .int 0, .null, .ref la26, .ref sa26, .int 1, .null, .null])), (la26, .inl (kE, 4, .inr (.inr (.inr (.inr f26))))), (sa26, .inl (kI, 4, .inl g26)), (m9, .inr (23, mA mr mv vf xl (nI zs) ff25 xa25 (nI T) (nI pp25) xi xt xn (nI (ns + 1)) (nI vv) (nI bb25))), (mr 5, .inl (kI, 3002, .inl fk))] : va_W) ++ (sT L25 F25)) := hD
              refine W_q (fun Q1 hQ1 => ?_)
              have key1 : ∀ (n1 : Nat) (pp1 bb1 la sa cp n cm : Nat) (ff1 xa1 mo : Int32) (L1 : List Nat) (F1 : Nat → va_E) (f : Nat → Option Nat) (g : Nat → Int32) (H : Heap) (locs : List Loc) (ls : Array Slot), (1 ≤ n1 ∧ pp + 2 ≤ pp1 ∧ pp1 < T ∧ bb ≤ bb1 ∧ bb1 ≤ bb + (pp1 - pp) ∧ 1 ≤ n ∧ n ≤ cp ∧ 4 ≤ cp ∧ cp ≤ 4 + 2 * n ∧ pp + n + cm ≤ pp1 ∧ cm ≤ 1 ∧ T ≤ 3001) → (ff1 ≠ 0 ∨ T + 1 ≤ pp1 + n1) → (exS L F L1 F1) → (∀ i : Nat, i < n → ∃ x : Nat, f i = some x ∧ xO L1 F1 x) → (ff1 = 0 → bb1 ≤ 54 ∧ ∃ q0 : Nat, chP 1 (isE L1 F1 kE kI (24 * k)) f g n (pp + 1) q0 bb bb1 ∧ ((mo = 0 ∧ cm = 0 ∧ q0 ≤ pp1) ∨ (mo ≠ 0 ∧ cm = 1 ∧ q0 < pp1))) → va_P (dC, dI) vwCl (([(ee, .inr (15, [.int 5, .int tx, .int 0, .int nm0, .int 0, .int 0, .long 0, .int 0, .null, .ref la, .ref sa, .int (nI n), .null, .null])), (la, .inl (kE, cp, .inr (.inr (.inr (.inr f))))), (sa, .inl (kI, cp, .inl g)), (m9, .inr (23, mA mr mv vf xl (nI zs) ff1 xa1 (nI T) (nI pp1) xi xt xn (nI (ns + 1)) (nI vv) (nI bb1))), (mr 5, .inl (kI, 3002, .inl fk)), (mr 6, .inl (kI, 3002, .inl fa)), (mr 8, .inl (kL, 3002, .inr (.inl fn)))] : va_W) ++ (sT L1 F1)) H → va_D A (([(ee, .inr (15, [.int 5, .int tx, .int 0, .int nm0, .int 0, .int 0, .long 0, .int 0, .null, .ref la, .ref sa, .int (nI n), .null, .null])), (la, .inl (kE, cp, .inr (.inr (.inr (.inr f))))), (sa, .inl (kI, cp, .inl g)), (m9, .inr (23, mA mr mv vf xl (nI zs) ff1 xa1 (nI T) (nI pp1) xi xt xn (nI (ns + 1)) (nI vv) (nI bb1))), (mr 5, .inl (kI, 3002, .inl fk)), (mr 6, .inl (kI, 3002, .inl fa)), (mr 8, .inl (kL, 3002, .inr (.inl fn)))] : va_W) ++ (sT L1 F1)) → va_S A s.heap H locs → lv_has ls 4 [(2, .int mo), (0, .ref m9), (1, .ref ee)] → W p l e (headSpec wp_c_xnf ({ frames := 3 + 12 * k, cells := (8 * (T - pp) + 3), slots := (120 * (T - pp) + 280), locals := 63 + 279 * k })).room s m ([.ref m9, .ref ee] : List Value).toArray below meth c H locs (8 * (pp1 - pp) - 3 * n - 8 * cm) (120 * (pp1 - pp) + 4 * cp + 8 - 64 * n - 120 * cm) Q1 (F0 m 63 ls []) := by
                intro n1
                induction n1 with
                | zero => intro pp1 bb1 la sa cp n cm ff1 xa1 mo L1 F1 f g H locs ls hr0 hr1 hr2 hr3 hr4; exact absurd hr0 (by omega)
                | succ n1 ih1 =>
                  intro pp1 bb1 la sa cp n cm ff1 xa1 mo L1 F1 f g H locs ls hr0 hr1 hr2 hr3 hr4 hP hD hS hl
                  refine lv_aload_n hx hb dX23_newFields_63 rfl (lv_at hl 1 rfl) ?_
                  by_cases hz_30 : ff1 = 0
                  · subst hz_30
                    have hr9 := hr4 rfl
                    replace hPc := hP.subF (f' := [(m9, .inr (23, mA mr mv vf xl (nI zs) 0 xa1 (nI T) (nI pp1) xi xt xn (nI (ns + 1)) (nI vv) (nI bb1)))]) [3] rfl
                    replace hDc := hD.subF (f' := [(m9, .inr (23, mA mr mv vf xl (nI zs) 0 xa1 (nI T) (nI pp1) xi xt xn (nI (ns + 1)) (nI vv) (nI bb1)))]) [3] (by decide) rfl
                    replace hKc := hK.sub (tys' := []) [] rfl
                    replace hFc := va_freeT (wc := [(m9, .inr (23, mA mr mv vf xl (nI zs) 0 xa1 (nI T) (nI pp1) xi xt xn (nI (ns + 1)) (nI vv) (nI bb1)))]) hD hS hA [3] rfl
                    refine va_calli (va_runV (As := []) (rest := []) ⟨hx, hb, hml, hown, hts⟩ (c_rok0 l dC dI m9 mr mv vf xl xa1 xi xt xn zs T pp1 (ns + 1) vv bb1 kI fk fa H.size) (cwV 0 hts g_c_xnf_c_rok0_64 rfl rfl rfl (by decide +kernel) ⟨by show 0 + 1 ≤ 3 + 12 * k; omega, by show 8 + (1 + 11) + (0) ≤ 63 + 279 * k; omega⟩) ⟨fun a U g mk q => by obtain ⟨q0, q1, qP, qK, qD⟩ := q; exact ⟨q0, q1, qP, va_K.moved (u := U) (U := U.calling g mk a) (Vm.Alike.refl U.vm) qK, qD⟩, va_recv hKc hPc (ci := 23) (q0 := 0) rfl rfl, fun U hU hW => ⟨rfl, by rw [hU], by rw [hU]; exact hPc, va_K.moved hW.alike hKc, hDc.weaken (fun _ _ _ _ => trivial)⟩⟩ rfl rfl hl.1 rfl (lv_room (Nat.le_of_ble_eq_true rfl)) dX23_newFields_64 ⟨(show (8 * (pp1 - pp) - 3 * n - 8 * cm) + 0 ≤ (8 * (T - pp) + 3) by omega), (show (120 * (pp1 - pp) + 4 * cp + 8 - 64 * n - 120 * cm) + 0 ≤ (120 * (T - pp) + 280) by omega)⟩) hS (fun q _ h => hFc q h) hFc (fun r_31 u tS H1 locs ht hvm hw hB hz1 hk1 hS => ?_)
                    obtain ⟨hP1, hK1, hD1⟩ := hB
                    rw [ht] at hP1
                    replace hK1 := va_K.moved hvm.symm hK1
                    obtain ⟨hPj, hDj⟩ := va_joinT (wr := [(ee, .inr (15, [.int 5, .int tx, .int 0, .int nm0, .int 0, .int 0, .long 0, .int 0, .null, .ref la, .ref sa, .int (nI n), .null, .null])), (la, .inl (kE, cp, .inr (.inr (.inr (.inr f))))), (sa, .inl (kI, cp, .inl g)), (mr 5, .inl (kI, 3002, .inl fk)), (mr 6, .inl (kI, 3002, .inl fa)), (mr 8, .inl (kL, 3002, .inr (.inl fn)))]) (w1 := [(m9, .inr (23, mA mr mv vf xl (nI zs) 0 xa1 (nI T) (nI pp1) xi xt xn (nI (ns + 1)) (nI vv) (nI bb1)))]) hP hD [3] [0, 1, 2, 4, 5, 6] rfl rfl (by decide) (by decide) hk1 hFc hP1 hD1
                    replace hP := hPj
                    replace hD := hDj
                    clear hPj hDj
                    generalize H1 = H at hP hS ⊢
                    replace hP : va_P (dC, dI) vwCl (([(ee, .inr (15, [.int 5, .int tx, .int 0, .int nm0, .int 0, .int 0, .long 0, .int 0, .null, .ref la, .ref sa, .int (nI n), .null, .null])), (la, .inl (kE, cp, .inr (.inr (.inr (.inr f))))), (sa, .inl (kI, cp, .inl g)), (mr 5, .inl (kI, 3002, .inl fk)), (mr 6, .inl (kI, 3002, .inl fa)), (mr 8, .inl (kL, 3002, .inr (.inl fn))), (m9, .inr (23, mA mr mv vf xl (nI zs) 0 xa1 (nI T) (nI pp1) xi xt xn (nI (ns + 1)) (nI vv) (nI bb1)))] : va_W) ++ (sT L1 F1)) H := hP
                    replace hD : va_D A (([(ee, .inr (15, [.int 5, .int tx, .int 0, .int nm0, .int 0, .int 0, .long 0, .int 0, .null, .ref la, .ref sa, .int (nI n), .null, .null])), (la, .inl (kE, cp, .inr (.inr (.inr (.inr f))))), (sa, .inl (kI, cp, .inl g)), (mr 5, .inl (kI, 3002, .inl fk)), (mr 6, .inl (kI, 3002, .inl fa)), (mr 8, .inl (kL, 3002, .inr (.inl fn))), (m9, .inr (23, mA mr mv vf xl (nI zs) 0 xa1 (nI T) (nI pp1) xi xt xn (nI (ns + 1)) (nI vv) (nI bb1)))] : va_W) ++ (sT L1 F1)) := hD
                    replace hK : va_K (dC, dI) vwCl [(kI, .int), (kL, .long), (kE, .object RX15)] s := hK
                    clear hz1 hk1 hPc hDc hKc hFc hP1 hD1 hK1
                    obtain rfl : r_31 = 1 := hw
                    refine lv_if_eq (tgt := 111) hx hb dX23_newFields_67 (by decide) (fun c_32 => absurd c_32 (by decide)) (fun _ => ?_)
                    refine lv_iload_n hx hb dX23_newFields_70 rfl (lv_at hl 0 rfl) ?_
                    refine lv_if_eq (tgt := 111) hx hb dX23_newFields_71 (by decide) (fun hm_33 => ?_) (fun hm_33 => ?_)
                    · obtain ⟨q0, hr5, hr6⟩ := hr9.2
                      replace hr6 : q0 ≤ pp1 := by omega
                      refine lv_aload_n hx hb dX23_newFields_111 rfl (lv_at hl 1 rfl) ?_
                      refine lv_dup hx hb dX23_newFields_112 rfl ?_
                      refine va_get (D := (dC, dI)) (ci := 23) (v := .int (nI (ns + 1))) (C := RX23) (T := TX23) (N := 89) hx hb hts in_c_xnf_X23 hown hK hP 6 rfl rfl 15 (by decide) (hts (.fieldLink RX23 104 "OwnedPlacesModel" "nest" "I") (wm_c_xnf 29 rfl)) (fun _ h9 => h9) rfl dX23_newFields_113 ?_
                      refine lv_iconst (v := 1) hx hb dX23_newFields_116 (by decide) ?_
                      refine lv_isub hx hb dX23_newFields_117 ?_
                      refine lv_topi (fun f_34 ef_34 => ?_)
                      obtain rfl : f_34 = nI ns := ef_34.trans (nI_pred _)
                      refine va_put (D := (dC, dI)) (ci := 23) (v := .int (nI ns)) (ty := .int) (C := RX23) (T := TX23) (N := 89) hx hb hts in_c_xnf_X23 tyX23 tyX23_ok nmX23 hown hK hP hD hS 6 rfl rfl 15 (by decide) (hts (.fieldLink RX23 104 "OwnedPlacesModel" "nest" "I") (wm_c_xnf 29 rfl)) (fun _ h9 => h9) rfl (by decide +kernel) rfl rfl (Nat.le_of_ble_eq_true rfl) dX23_newFields_118 (fun H locs hP hD hS => ?_)
                      replace hP : va_P (dC, dI) vwCl (([(ee, .inr (15, [.int 5, .int tx, .int 0, .int nm0, .int 0, .int 0, .long 0, .int 0, .null, .ref la, .ref sa, .int (nI n), .null, .null])), (la, .inl (kE, cp, .inr (.inr (.inr (.inr f))))), (sa, .inl (kI, cp, .inl g)), (mr 5, .inl (kI, 3002, .inl fk)), (mr 6, .inl (kI, 3002, .inl fa)), (mr 8, .inl (kL, 3002, .inr (.inl fn))), (m9, .inr (23, mA mr mv vf xl (nI zs) 0 xa1 (nI T) (nI pp1) xi xt xn (nI ns) (nI vv) (nI bb1)))] : va_W) ++ (sT L1 F1)) H := hP
                      replace hD : va_D A (([(ee, .inr (15, [.int 5, .int tx, .int 0, .int nm0, .int 0, .int 0, .long 0, .int 0, .null, .ref la, .ref sa, .int (nI n), .null, .null])), (la, .inl (kE, cp, .inr (.inr (.inr (.inr f))))), (sa, .inl (kI, cp, .inl g)), (mr 5, .inl (kI, 3002, .inl fk)), (mr 6, .inl (kI, 3002, .inl fa)), (mr 8, .inl (kL, 3002, .inr (.inl fn))), (m9, .inr (23, mA mr mv vf xl (nI zs) 0 xa1 (nI T) (nI pp1) xi xt xn (nI ns) (nI vv) (nI bb1)))] : va_W) ++ (sT L1 F1)) := hD
                      refine lv_aload_n hx hb dX23_newFields_121 rfl (lv_at hl 1 rfl) ?_
                      refine lv_bipush (v := 64) hx hb dX23_newFields_122 (by decide) ?_
                      by_cases hk_35 : fk pp1 = 64
                      · replace hPc := hP.subF (f' := [(m9, .inr (23, mA mr mv vf xl (nI zs) 0 xa1 (nI T) (nI pp1) xi xt xn (nI ns) (nI vv) (nI bb1))), (mr 5, .inl (kI, 3002, .inl fk)), (mr 6, .inl (kI, 3002, .inl fa))]) [6, 3, 4] rfl
                        replace hDc := hD.subF (f' := [(m9, .inr (23, mA mr mv vf xl (nI zs) 0 xa1 (nI T) (nI pp1) xi xt xn (nI ns) (nI vv) (nI bb1))), (mr 5, .inl (kI, 3002, .inl fk)), (mr 6, .inl (kI, 3002, .inl fa))]) [6, 3, 4] (by decide) rfl
                        replace hKc := hK.sub (tys' := [(kI, .int)]) [0] rfl
                        replace hFc := va_freeT (wc := [(m9, .inr (23, mA mr mv vf xl (nI zs) 0 xa1 (nI T) (nI pp1) xi xt xn (nI ns) (nI vv) (nI bb1))), (mr 5, .inl (kI, 3002, .inl fk)), (mr 6, .inl (kI, 3002, .inl fa))]) hD hS hA [6, 3, 4] rfl
                        refine va_callv (va_runV (As := [.int 64]) (rest := []) ⟨hx, hb, hml, hown, hts⟩ (c_rtkY l dC dI m9 mr mv vf xl xa1 xi xt xn zs T pp1 ns vv bb1 kI fk fa 64 H.size hT hr0.2.2.1 hk0 (by decide) hk_35) (cwV 1 hts g_c_xnf_c_rtkY_124 rfl rfl rfl (by decide +kernel) ⟨by show 1 + 1 ≤ 3 + 12 * k; omega, by show 8 + (2 + 11) + (21) ≤ 63 + 279 * k; omega⟩) ⟨fun a U g mk q => by obtain ⟨q0, q1, qP, qK, qD⟩ := q; exact ⟨q0, q1, qP, va_K.moved (u := U) (U := U.calling g mk a) (Vm.Alike.refl U.vm) qK, qD⟩, va_recv hKc hPc (ci := 23) (q0 := 0) rfl rfl, fun U hU hW => ⟨rfl, by rw [hU], by rw [hU]; exact hPc, va_K.moved hW.alike hKc, hDc.weaken (fun _ _ _ _ => trivial)⟩⟩ rfl rfl hl.1 rfl (lv_room (Nat.le_of_ble_eq_true rfl)) dX23_newFields_124 ⟨(show (8 * (pp1 - pp) - 3 * n - 8 * cm) + 0 ≤ (8 * (T - pp) + 3) by omega), (show (120 * (pp1 - pp) + 4 * cp + 8 - 64 * n - 120 * cm) + 0 ≤ (120 * (T - pp) + 280) by omega)⟩) hS (fun q _ h => hFc q h) hFc (fun u tS H1 locs ht hvm hw hB hz1 hk1 hS => ?_)
                        obtain ⟨hP1, hK1, hD1⟩ := hB
                        rw [ht] at hP1
                        replace hK1 := va_K.moved hvm.symm hK1
                        obtain ⟨hPj, hDj⟩ := va_joinT (wr := [(ee, .inr (15, [.int 5, .int tx, .int 0, .int nm0, .int 0, .int 0, .long 0, .int 0, .null, .ref la, .ref sa, .int (nI n), .null, .null])), (la, .inl (kE, cp, .inr (.inr (.inr (.inr f))))), (sa, .inl (kI, cp, .inl g)), (mr 8, .inl (kL, 3002, .inr (.inl fn)))]) (w1 := [(m9, .inr (23, mA mr mv vf xl (nI zs) 0 xa1 (nI T) (nI (pp1 + 1)) xi xt xn (nI ns) (nI vv) (nI bb1))), (mr 5, .inl (kI, 3002, .inl fk)), (mr 6, .inl (kI, 3002, .inl fa))]) hP hD [6, 3, 4] [0, 1, 2, 5] rfl rfl (by decide) (by decide) hk1 hFc hP1 hD1
                        replace hP := hPj
                        replace hD := hDj
                        clear hPj hDj
                        replace hK := hK.app hK1
                        generalize H1 = H at hP hS ⊢
                        replace hP : va_P (dC, dI) vwCl (([(ee, .inr (15, [.int 5, .int tx, .int 0, .int nm0, .int 0, .int 0, .long 0, .int 0, .null, .ref la, .ref sa, .int (nI n), .null, .null])), (la, .inl (kE, cp, .inr (.inr (.inr (.inr f))))), (sa, .inl (kI, cp, .inl g)), (mr 8, .inl (kL, 3002, .inr (.inl fn))), (m9, .inr (23, mA mr mv vf xl (nI zs) 0 xa1 (nI T) (nI (pp1 + 1)) xi xt xn (nI ns) (nI vv) (nI bb1))), (mr 5, .inl (kI, 3002, .inl fk)), (mr 6, .inl (kI, 3002, .inl fa))] : va_W) ++ (sT L1 F1)) H := hP
                        replace hD : va_D A (([(ee, .inr (15, [.int 5, .int tx, .int 0, .int nm0, .int 0, .int 0, .long 0, .int 0, .null, .ref la, .ref sa, .int (nI n), .null, .null])), (la, .inl (kE, cp, .inr (.inr (.inr (.inr f))))), (sa, .inl (kI, cp, .inl g)), (mr 8, .inl (kL, 3002, .inr (.inl fn))), (m9, .inr (23, mA mr mv vf xl (nI zs) 0 xa1 (nI T) (nI (pp1 + 1)) xi xt xn (nI ns) (nI vv) (nI bb1))), (mr 5, .inl (kI, 3002, .inl fk)), (mr 6, .inl (kI, 3002, .inl fa))] : va_W) ++ (sT L1 F1)) := hD
                        replace hK : va_K (dC, dI) vwCl [(kI, .int), (kL, .long), (kE, .object RX15), (kI, .int)] s := hK
                        replace hK := hK.sub (tys' := [(kI, .int), (kL, .long), (kE, .object RX15)]) [0, 1, 2] rfl
                        clear hz1 hk1 hPc hDc hKc hFc hP1 hD1 hK1
                        have hp_37 : pp1 + 1 < T := kne3 hk0 hr0.2.2.1 hk_35 (by decide)
                        replace hP : va_P (dC, dI) vwCl ((([(ee, .inr (15, [.int 5, .int tx, .int 0, .int nm0, .int 0, .int 0, .long 0, .int 0, .null, .ref la, .ref sa, .int (nI n), .null, .null])), (mr 8, .inl (kL, 3002, .inr (.inl fn))), (m9, .inr (23, mA mr mv vf xl (nI zs) 0 xa1 (nI T) (nI (pp1 + 1)) xi xt xn (nI ns) (nI vv) (nI bb1))), (mr 5, .inl (kI, 3002, .inl fk)), (mr 6, .inl (kI, 3002, .inl fa))] : va_W) ++ ([(la, .inl (kE, cp, .inr (.inr (.inr (.inr f))))), (sa, .inl (kI, cp, .inl g))] : va_W)) ++ sT L1 F1) H := hP.subT (f' := [(ee, .inr (15, [.int 5, .int tx, .int 0, .int nm0, .int 0, .int 0, .long 0, .int 0, .null, .ref la, .ref sa, .int (nI n), .null, .null])), (mr 8, .inl (kL, 3002, .inr (.inl fn))), (m9, .inr (23, mA mr mv vf xl (nI zs) 0 xa1 (nI T) (nI (pp1 + 1)) xi xt xn (nI ns) (nI vv) (nI bb1))), (mr 5, .inl (kI, 3002, .inl fk)), (mr 6, .inl (kI, 3002, .inl fa)), (la, .inl (kE, cp, .inr (.inr (.inr (.inr f))))), (sa, .inl (kI, cp, .inl g))]) [0, 3, 4, 5, 6, 1, 2] rfl
                        replace hD : va_D A ((([(ee, .inr (15, [.int 5, .int tx, .int 0, .int nm0, .int 0, .int 0, .long 0, .int 0, .null, .ref la, .ref sa, .int (nI n), .null, .null])), (mr 8, .inl (kL, 3002, .inr (.inl fn))), (m9, .inr (23, mA mr mv vf xl (nI zs) 0 xa1 (nI T) (nI (pp1 + 1)) xi xt xn (nI ns) (nI vv) (nI bb1))), (mr 5, .inl (kI, 3002, .inl fk)), (mr 6, .inl (kI, 3002, .inl fa))] : va_W) ++ ([(la, .inl (kE, cp, .inr (.inr (.inr (.inr f))))), (sa, .inl (kI, cp, .inl g))] : va_W)) ++ sT L1 F1) := hD.subT (f' := [(ee, .inr (15, [.int 5, .int tx, .int 0, .int nm0, .int 0, .int 0, .long 0, .int 0, .null, .ref la, .ref sa, .int (nI n), .null, .null])), (mr 8, .inl (kL, 3002, .inr (.inl fn))), (m9, .inr (23, mA mr mv vf xl (nI zs) 0 xa1 (nI T) (nI (pp1 + 1)) xi xt xn (nI ns) (nI vv) (nI bb1))), (mr 5, .inl (kI, 3002, .inl fk)), (mr 6, .inl (kI, 3002, .inl fa)), (la, .inl (kE, cp, .inr (.inr (.inr (.inr f))))), (sa, .inl (kI, cp, .inl g))]) [0, 3, 4, 5, 6, 1, 2] (by decide) rfl
                        obtain ⟨L9, F9, hx9, hm9, hP, hD⟩ := st_fileL [(la, .inl (kE, cp, .inr (.inr (.inr (.inr f))))), (sa, .inl (kI, cp, .inl g))] hP hD
                        have hm9_0 := hm9 _ (List.mem_of_getElem? (i := 0) rfl)
                        have hm9_1 := hm9 _ (List.mem_of_getElem? (i := 1) rfl)
                        refine W.grow (fun hgs0 hgs1 => ?_)
                        have hP9 := hP.subT (f' := [(ee, .inr (15, [.int 5, .int tx, .int 0, .int nm0, .int 0, .int 0, .long 0, .int 0, .null, (.ref la), (.ref sa), .int (nI n), .null, .null])), (m9, .inr (23, mA mr mv vf xl (nI zs) 0 xa1 (nI T) (nI (pp1 + 1)) xi xt xn (nI ns) (nI vv) (nI bb1))), (mr 5, .inl (kI, 3002, .inl fk)), (mr 6, .inl (kI, 3002, .inl fa)), (mr 8, .inl (kL, 3002, .inr (.inl fn)))]) [0, 2, 3, 4, 1] rfl
                        have hD9 := hD.subT (f' := [(ee, .inr (15, [.int 5, .int tx, .int 0, .int nm0, .int 0, .int 0, .long 0, .int 0, .null, (.ref la), (.ref sa), .int (nI n), .null, .null])), (m9, .inr (23, mA mr mv vf xl (nI zs) 0 xa1 (nI T) (nI (pp1 + 1)) xi xt xn (nI ns) (nI vv) (nI bb1))), (mr 5, .inl (kI, 3002, .inl fk)), (mr 6, .inl (kI, 3002, .inl fa)), (mr 8, .inl (kL, 3002, .inr (.inl fn)))]) [0, 2, 3, 4, 1] (by decide) rfl
                        have hK9 := hK.sub (tys' := [(kI, .int), (kL, .long), (kE, .object RX15)]) [0, 1, 2] rfl
                        refine W.widen (k := (8 * (T - pp) + 3)) (n := (120 * (T - pp) + 280)) (by omega) (by omega) ?_
                        subst hQ1
                        exact W.vret hx hb hr (fun tS ht hW => ⟨⟨(), rfl, trivial, L9, F9, 0, xa1, pp1 + 1, bb1, nm0, .ref la, .ref sa, n, (hr2).tr hx9, ⟨by omega, by omega, by omega, by omega⟩, (fun _ => ⟨hr9.1, by omega, enm0, by omega, Or.inr ⟨la, sa, cp, q0, f, g, rfl, rfl, hm9_0.1, hm9_1.1, hm9_0.2, hm9_1.2, by omega, by omega, chP_im (fun x p q b c z => isE_im hx9 _ (Nat.le_refl _) z) hr5⟩⟩), by rw [ht]; exact ⟨by omega, by omega⟩, by rw [ht]; exact hP9, va_K.moved hW.alike hK9, hD9⟩, hS.F ht⟩) hS.2.2 dX23_newFields_127
                      · replace hPc := hP.subF (f' := [(m9, .inr (23, mA mr mv vf xl (nI zs) 0 xa1 (nI T) (nI pp1) xi xt xn (nI ns) (nI vv) (nI bb1))), (mr 5, .inl (kI, 3002, .inl fk)), (mr 6, .inl (kI, 3002, .inl fa))]) [6, 3, 4] rfl
                        replace hDc := hD.subF (f' := [(m9, .inr (23, mA mr mv vf xl (nI zs) 0 xa1 (nI T) (nI pp1) xi xt xn (nI ns) (nI vv) (nI bb1))), (mr 5, .inl (kI, 3002, .inl fk)), (mr 6, .inl (kI, 3002, .inl fa))]) [6, 3, 4] (by decide) rfl
                        replace hKc := hK.sub (tys' := [(kI, .int)]) [0] rfl
                        replace hFc := va_freeT (wc := [(m9, .inr (23, mA mr mv vf xl (nI zs) 0 xa1 (nI T) (nI pp1) xi xt xn (nI ns) (nI vv) (nI bb1))), (mr 5, .inl (kI, 3002, .inl fk)), (mr 6, .inl (kI, 3002, .inl fa))]) hD hS hA [6, 3, 4] rfl
                        refine va_callv (va_runV (As := [.int 64]) (rest := []) ⟨hx, hb, hml, hown, hts⟩ (c_rtkN l dC dI m9 mr mv vf xl xa1 xi xt xn zs T pp1 ns vv bb1 kI fk fa 64 H.size hT hr0.2.2.1 hk0 (by decide) hk_35) (cwV 1 hts g_c_xnf_c_rtkN_124 rfl rfl rfl (by decide +kernel) ⟨by show 1 + 1 ≤ 3 + 12 * k; omega, by show 8 + (2 + 11) + (22) ≤ 63 + 279 * k; omega⟩) ⟨fun a U g mk q => by obtain ⟨q0, q1, qP, qK, qD⟩ := q; exact ⟨q0, q1, qP, va_K.moved (u := U) (U := U.calling g mk a) (Vm.Alike.refl U.vm) qK, qD⟩, va_recv hKc hPc (ci := 23) (q0 := 0) rfl rfl, fun U hU hW => ⟨rfl, by rw [hU], by rw [hU]; exact hPc, va_K.moved hW.alike hKc, hDc.weaken (fun _ _ _ _ => trivial)⟩⟩ rfl rfl hl.1 rfl (lv_room (Nat.le_of_ble_eq_true rfl)) dX23_newFields_124 ⟨(show (8 * (pp1 - pp) - 3 * n - 8 * cm) + 0 ≤ (8 * (T - pp) + 3) by omega), (show (120 * (pp1 - pp) + 4 * cp + 8 - 64 * n - 120 * cm) + 0 ≤ (120 * (T - pp) + 280) by omega)⟩) hS (fun q _ h => hFc q h) hFc (fun u tS H1 locs ht hvm hw hB hz1 hk1 hS => ?_)
                        obtain ⟨ff_36, xa_37, hf38_0, hP1, hK1, hD1⟩ := hB
                        rw [ht] at hP1
                        replace hK1 := va_K.moved hvm.symm hK1
                        obtain ⟨hPj, hDj⟩ := va_joinT (wr := [(ee, .inr (15, [.int 5, .int tx, .int 0, .int nm0, .int 0, .int 0, .long 0, .int 0, .null, .ref la, .ref sa, .int (nI n), .null, .null])), (la, .inl (kE, cp, .inr (.inr (.inr (.inr f))))), (sa, .inl (kI, cp, .inl g)), (mr 8, .inl (kL, 3002, .inr (.inl fn)))]) (w1 := [(m9, .inr (23, mA mr mv vf xl (nI zs) ff_36 xa_37 (nI T) (nI pp1) xi xt xn (nI ns) (nI vv) (nI bb1))), (mr 5, .inl (kI, 3002, .inl fk)), (mr 6, .inl (kI, 3002, .inl fa))]) hP hD [6, 3, 4] [0, 1, 2, 5] rfl rfl (by decide) (by decide) hk1 hFc hP1 hD1
                        replace hP := hPj
                        replace hD := hDj
                        clear hPj hDj
                        replace hK := hK.app hK1
                        generalize H1 = H at hP hS ⊢
                        replace hP : va_P (dC, dI) vwCl (([(ee, .inr (15, [.int 5, .int tx, .int 0, .int nm0, .int 0, .int 0, .long 0, .int 0, .null, .ref la, .ref sa, .int (nI n), .null, .null])), (la, .inl (kE, cp, .inr (.inr (.inr (.inr f))))), (sa, .inl (kI, cp, .inl g)), (mr 8, .inl (kL, 3002, .inr (.inl fn))), (m9, .inr (23, mA mr mv vf xl (nI zs) ff_36 xa_37 (nI T) (nI pp1) xi xt xn (nI ns) (nI vv) (nI bb1))), (mr 5, .inl (kI, 3002, .inl fk)), (mr 6, .inl (kI, 3002, .inl fa))] : va_W) ++ (sT L1 F1)) H := hP
                        replace hD : va_D A (([(ee, .inr (15, [.int 5, .int tx, .int 0, .int nm0, .int 0, .int 0, .long 0, .int 0, .null, .ref la, .ref sa, .int (nI n), .null, .null])), (la, .inl (kE, cp, .inr (.inr (.inr (.inr f))))), (sa, .inl (kI, cp, .inl g)), (mr 8, .inl (kL, 3002, .inr (.inl fn))), (m9, .inr (23, mA mr mv vf xl (nI zs) ff_36 xa_37 (nI T) (nI pp1) xi xt xn (nI ns) (nI vv) (nI bb1))), (mr 5, .inl (kI, 3002, .inl fk)), (mr 6, .inl (kI, 3002, .inl fa))] : va_W) ++ (sT L1 F1)) := hD
                        replace hK : va_K (dC, dI) vwCl [(kI, .int), (kL, .long), (kE, .object RX15), (kI, .int)] s := hK
                        replace hK := hK.sub (tys' := [(kI, .int), (kL, .long), (kE, .object RX15)]) [0, 1, 2] rfl
                        clear hz1 hk1 hPc hDc hKc hFc hP1 hD1 hK1
                        replace hP : va_P (dC, dI) vwCl ((([(ee, .inr (15, [.int 5, .int tx, .int 0, .int nm0, .int 0, .int 0, .long 0, .int 0, .null, .ref la, .ref sa, .int (nI n), .null, .null])), (mr 8, .inl (kL, 3002, .inr (.inl fn))), (m9, .inr (23, mA mr mv vf xl (nI zs) ff_36 xa_37 (nI T) (nI pp1) xi xt xn (nI ns) (nI vv) (nI bb1))), (mr 5, .inl (kI, 3002, .inl fk)), (mr 6, .inl (kI, 3002, .inl fa))] : va_W) ++ ([(la, .inl (kE, cp, .inr (.inr (.inr (.inr f))))), (sa, .inl (kI, cp, .inl g))] : va_W)) ++ sT L1 F1) H := hP.subT (f' := [(ee, .inr (15, [.int 5, .int tx, .int 0, .int nm0, .int 0, .int 0, .long 0, .int 0, .null, .ref la, .ref sa, .int (nI n), .null, .null])), (mr 8, .inl (kL, 3002, .inr (.inl fn))), (m9, .inr (23, mA mr mv vf xl (nI zs) ff_36 xa_37 (nI T) (nI pp1) xi xt xn (nI ns) (nI vv) (nI bb1))), (mr 5, .inl (kI, 3002, .inl fk)), (mr 6, .inl (kI, 3002, .inl fa)), (la, .inl (kE, cp, .inr (.inr (.inr (.inr f))))), (sa, .inl (kI, cp, .inl g))]) [0, 3, 4, 5, 6, 1, 2] rfl
                        replace hD : va_D A ((([(ee, .inr (15, [.int 5, .int tx, .int 0, .int nm0, .int 0, .int 0, .long 0, .int 0, .null, .ref la, .ref sa, .int (nI n), .null, .null])), (mr 8, .inl (kL, 3002, .inr (.inl fn))), (m9, .inr (23, mA mr mv vf xl (nI zs) ff_36 xa_37 (nI T) (nI pp1) xi xt xn (nI ns) (nI vv) (nI bb1))), (mr 5, .inl (kI, 3002, .inl fk)), (mr 6, .inl (kI, 3002, .inl fa))] : va_W) ++ ([(la, .inl (kE, cp, .inr (.inr (.inr (.inr f))))), (sa, .inl (kI, cp, .inl g))] : va_W)) ++ sT L1 F1) := hD.subT (f' := [(ee, .inr (15, [.int 5, .int tx, .int 0, .int nm0, .int 0, .int 0, .long 0, .int 0, .null, .ref la, .ref sa, .int (nI n), .null, .null])), (mr 8, .inl (kL, 3002, .inr (.inl fn))), (m9, .inr (23, mA mr mv vf xl (nI zs) ff_36 xa_37 (nI T) (nI pp1) xi xt xn (nI ns) (nI vv) (nI bb1))), (mr 5, .inl (kI, 3002, .inl fk)), (mr 6, .inl (kI, 3002, .inl fa)), (la, .inl (kE, cp, .inr (.inr (.inr (.inr f))))), (sa, .inl (kI, cp, .inl g))]) [0, 3, 4, 5, 6, 1, 2] (by decide) rfl
                        obtain ⟨L9, F9, hx9, hm9, hP, hD⟩ := st_fileL [(la, .inl (kE, cp, .inr (.inr (.inr (.inr f))))), (sa, .inl (kI, cp, .inl g))] hP hD
                        have hm9_0 := hm9 _ (List.mem_of_getElem? (i := 0) rfl)
                        have hm9_1 := hm9 _ (List.mem_of_getElem? (i := 1) rfl)
                        refine W.grow (fun hgs0 hgs1 => ?_)
                        have hP9 := hP.subT (f' := [(ee, .inr (15, [.int 5, .int tx, .int 0, .int nm0, .int 0, .int 0, .long 0, .int 0, .null, (.ref la), (.ref sa), .int (nI n), .null, .null])), (m9, .inr (23, mA mr mv vf xl (nI zs) ff_36 xa_37 (nI T) (nI pp1) xi xt xn (nI ns) (nI vv) (nI bb1))), (mr 5, .inl (kI, 3002, .inl fk)), (mr 6, .inl (kI, 3002, .inl fa)), (mr 8, .inl (kL, 3002, .inr (.inl fn)))]) [0, 2, 3, 4, 1] rfl
                        have hD9 := hD.subT (f' := [(ee, .inr (15, [.int 5, .int tx, .int 0, .int nm0, .int 0, .int 0, .long 0, .int 0, .null, (.ref la), (.ref sa), .int (nI n), .null, .null])), (m9, .inr (23, mA mr mv vf xl (nI zs) ff_36 xa_37 (nI T) (nI pp1) xi xt xn (nI ns) (nI vv) (nI bb1))), (mr 5, .inl (kI, 3002, .inl fk)), (mr 6, .inl (kI, 3002, .inl fa)), (mr 8, .inl (kL, 3002, .inr (.inl fn)))]) [0, 2, 3, 4, 1] (by decide) rfl
                        have hK9 := hK.sub (tys' := [(kI, .int), (kL, .long), (kE, .object RX15)]) [0, 1, 2] rfl
                        refine W.widen (k := (8 * (T - pp) + 3)) (n := (120 * (T - pp) + 280)) (by omega) (by omega) ?_
                        subst hQ1
                        exact W.vret hx hb hr (fun tS ht hW => ⟨⟨(), rfl, trivial, L9, F9, ff_36, xa_37, pp1, bb1, nm0, .ref la, .ref sa, n, (hr2).tr hx9, ⟨by omega, by omega, by omega, by omega⟩, (fun q9 => absurd q9 hf38_0), by rw [ht]; exact ⟨by omega, by omega⟩, by rw [ht]; exact hP9, va_K.moved hW.alike hK9, hD9⟩, hS.F ht⟩) hS.2.2 dX23_newFields_127
                    · obtain ⟨q0, hr5, hr6⟩ := hr9.2
                      have hcm : cm = 1 := (hr6.resolve_left (fun z => hm_33 z.1)).2.1
                      replace hr6 : q0 < pp1 := (hr6.resolve_left (fun z => hm_33 z.1)).2.2
                      replace hr1 := hr1.resolve_left (fun q => q rfl)
                      refine lv_aload_n hx hb dX23_newFields_74 rfl (lv_at hl 1 rfl) ?_
                      by_cases hk_34 : fk pp1 = 2
                      · replace hPc := hP.subF (f' := [(m9, .inr (23, mA mr mv vf xl (nI zs) 0 xa1 (nI T) (nI pp1) xi xt xn (nI (ns + 1)) (nI vv) (nI bb1))), (mr 5, .inl (kI, 3002, .inl fk)), (mr 6, .inl (kI, 3002, .inl fa))]) [6, 3, 4] rfl
                        replace hDc := hD.subF (f' := [(m9, .inr (23, mA mr mv vf xl (nI zs) 0 xa1 (nI T) (nI pp1) xi xt xn (nI (ns + 1)) (nI vv) (nI bb1))), (mr 5, .inl (kI, 3002, .inl fk)), (mr 6, .inl (kI, 3002, .inl fa))]) [6, 3, 4] (by decide) rfl
                        replace hKc := hK.sub (tys' := [(kI, .int)]) [0] rfl
                        replace hFc := va_freeT (wc := [(m9, .inr (23, mA mr mv vf xl (nI zs) 0 xa1 (nI T) (nI pp1) xi xt xn (nI (ns + 1)) (nI vv) (nI bb1))), (mr 5, .inl (kI, 3002, .inl fk)), (mr 6, .inl (kI, 3002, .inl fa))]) hD hS hA [6, 3, 4] rfl
                        refine va_calli (va_runV (As := []) (rest := []) ⟨hx, hb, hml, hown, hts⟩ (c_rnmY l dC dI m9 mr mv vf xl xa1 xi xt xn zs T pp1 (ns + 1) vv bb1 kI fk fa H.size hT hr0.2.2.1 hk0 hk_34) (cwV 0 hts g_c_xnf_c_rnmY_75 rfl rfl rfl (by decide +kernel) ⟨by show 2 + 1 ≤ 3 + 12 * k; omega, by show 8 + (1 + 11) + (42) ≤ 63 + 279 * k; omega⟩) ⟨fun a U g mk q => by obtain ⟨q0, q1, qP, qK, qD⟩ := q; exact ⟨q0, q1, qP, va_K.moved (u := U) (U := U.calling g mk a) (Vm.Alike.refl U.vm) qK, qD⟩, va_recv hKc hPc (ci := 23) (q0 := 0) rfl rfl, fun U hU hW => ⟨rfl, by rw [hU], by rw [hU]; exact hPc, va_K.moved hW.alike hKc, hDc.weaken (fun _ _ _ _ => trivial)⟩⟩ rfl rfl hl.1 rfl (lv_room (Nat.le_of_ble_eq_true rfl)) dX23_newFields_75 ⟨(show (8 * (pp1 - pp) - 3 * n - 8 * cm) + 0 ≤ (8 * (T - pp) + 3) by omega), (show (120 * (pp1 - pp) + 4 * cp + 8 - 64 * n - 120 * cm) + 0 ≤ (120 * (T - pp) + 280) by omega)⟩) hS (fun q _ h => hFc q h) hFc (fun r_35 u tS H1 locs ht hvm hw hB hz1 hk1 hS => ?_)
                        obtain ⟨hP1, hK1, hD1⟩ := hB
                        rw [ht] at hP1
                        replace hK1 := va_K.moved hvm.symm hK1
                        obtain ⟨hPj, hDj⟩ := va_joinT (wr := [(ee, .inr (15, [.int 5, .int tx, .int 0, .int nm0, .int 0, .int 0, .long 0, .int 0, .null, .ref la, .ref sa, .int (nI n), .null, .null])), (la, .inl (kE, cp, .inr (.inr (.inr (.inr f))))), (sa, .inl (kI, cp, .inl g)), (mr 8, .inl (kL, 3002, .inr (.inl fn)))]) (w1 := [(m9, .inr (23, mA mr mv vf xl (nI zs) 0 xa1 (nI T) (nI (pp1 + 1)) xi xt xn (nI (ns + 1)) (nI vv) (nI bb1))), (mr 5, .inl (kI, 3002, .inl fk)), (mr 6, .inl (kI, 3002, .inl fa))]) hP hD [6, 3, 4] [0, 1, 2, 5] rfl rfl (by decide) (by decide) hk1 hFc hP1 hD1
                        replace hP := hPj
                        replace hD := hDj
                        clear hPj hDj
                        replace hK := hK.app hK1
                        generalize H1 = H at hP hS ⊢
                        replace hP : va_P (dC, dI) vwCl (([(ee, .inr (15, [.int 5, .int tx, .int 0, .int nm0, .int 0, .int 0, .long 0, .int 0, .null, .ref la, .ref sa, .int (nI n), .null, .null])), (la, .inl (kE, cp, .inr (.inr (.inr (.inr f))))), (sa, .inl (kI, cp, .inl g)), (mr 8, .inl (kL, 3002, .inr (.inl fn))), (m9, .inr (23, mA mr mv vf xl (nI zs) 0 xa1 (nI T) (nI (pp1 + 1)) xi xt xn (nI (ns + 1)) (nI vv) (nI bb1))), (mr 5, .inl (kI, 3002, .inl fk)), (mr 6, .inl (kI, 3002, .inl fa))] : va_W) ++ (sT L1 F1)) H := hP
                        replace hD : va_D A (([(ee, .inr (15, [.int 5, .int tx, .int 0, .int nm0, .int 0, .int 0, .long 0, .int 0, .null, .ref la, .ref sa, .int (nI n), .null, .null])), (la, .inl (kE, cp, .inr (.inr (.inr (.inr f))))), (sa, .inl (kI, cp, .inl g)), (mr 8, .inl (kL, 3002, .inr (.inl fn))), (m9, .inr (23, mA mr mv vf xl (nI zs) 0 xa1 (nI T) (nI (pp1 + 1)) xi xt xn (nI (ns + 1)) (nI vv) (nI bb1))), (mr 5, .inl (kI, 3002, .inl fk)), (mr 6, .inl (kI, 3002, .inl fa))] : va_W) ++ (sT L1 F1)) := hD
                        replace hK : va_K (dC, dI) vwCl [(kI, .int), (kL, .long), (kE, .object RX15), (kI, .int)] s := hK
                        replace hK := hK.sub (tys' := [(kI, .int), (kL, .long), (kE, .object RX15)]) [0, 1, 2] rfl
                        clear hz1 hk1 hPc hDc hKc hFc hP1 hD1 hK1
                        obtain rfl : r_35 = nI pp1 := hw
                        have hp_36 : pp1 + 1 < T := kne3 hk0 hr0.2.2.1 hk_34 (by decide)
                        refine lv_istore_n (lv' := [(3, .int (nI pp1)), (2, .int mo), (0, .ref m9), (1, .ref ee)]) hx hb dX23_newFields_78 rfl hl (by decide) rfl (fun ls hl => ?_)
                        refine lv_aload_n hx hb dX23_newFields_79 rfl (lv_at hl 2 rfl) ?_
                        refine lv_bipush (v := 58) hx hb dX23_newFields_80 (by decide) ?_
                        by_cases hk_37 : fk (pp1 + 1) = 58
                        · replace hPc := hP.subF (f' := [(m9, .inr (23, mA mr mv vf xl (nI zs) 0 xa1 (nI T) (nI (pp1 + 1)) xi xt xn (nI (ns + 1)) (nI vv) (nI bb1))), (mr 5, .inl (kI, 3002, .inl fk)), (mr 6, .inl (kI, 3002, .inl fa))]) [4, 5, 6] rfl
                          replace hDc := hD.subF (f' := [(m9, .inr (23, mA mr mv vf xl (nI zs) 0 xa1 (nI T) (nI (pp1 + 1)) xi xt xn (nI (ns + 1)) (nI vv) (nI bb1))), (mr 5, .inl (kI, 3002, .inl fk)), (mr 6, .inl (kI, 3002, .inl fa))]) [4, 5, 6] (by decide) rfl
                          replace hKc := hK.sub (tys' := [(kI, .int)]) [0] rfl
                          replace hFc := va_freeT (wc := [(m9, .inr (23, mA mr mv vf xl (nI zs) 0 xa1 (nI T) (nI (pp1 + 1)) xi xt xn (nI (ns + 1)) (nI vv) (nI bb1))), (mr 5, .inl (kI, 3002, .inl fk)), (mr 6, .inl (kI, 3002, .inl fa))]) hD hS hA [4, 5, 6] rfl
                          refine va_callv (va_runV (As := [.int 58]) (rest := []) ⟨hx, hb, hml, hown, hts⟩ (c_rtkY l dC dI m9 mr mv vf xl xa1 xi xt xn zs T (pp1 + 1) (ns + 1) vv bb1 kI fk fa 58 H.size hT hp_36 hk0 (by decide) hk_37) (cwV 1 hts g_c_xnf_c_rtkY_82 rfl rfl rfl (by decide +kernel) ⟨by show 1 + 1 ≤ 3 + 12 * k; omega, by show 8 + (2 + 11) + (21) ≤ 63 + 279 * k; omega⟩) ⟨fun a U g mk q => by obtain ⟨q0, q1, qP, qK, qD⟩ := q; exact ⟨q0, q1, qP, va_K.moved (u := U) (U := U.calling g mk a) (Vm.Alike.refl U.vm) qK, qD⟩, va_recv hKc hPc (ci := 23) (q0 := 0) rfl rfl, fun U hU hW => ⟨rfl, by rw [hU], by rw [hU]; exact hPc, va_K.moved hW.alike hKc, hDc.weaken (fun _ _ _ _ => trivial)⟩⟩ rfl rfl hl.1 rfl (lv_room (Nat.le_of_ble_eq_true rfl)) dX23_newFields_82 ⟨(show (8 * (pp1 - pp) - 3 * n - 8 * cm) + 0 ≤ (8 * (T - pp) + 3) by omega), (show (120 * (pp1 - pp) + 4 * cp + 8 - 64 * n - 120 * cm) + 0 ≤ (120 * (T - pp) + 280) by omega)⟩) hS (fun q _ h => hFc q h) hFc (fun u tS H1 locs ht hvm hw hB hz1 hk1 hS => ?_)
                          obtain ⟨hP1, hK1, hD1⟩ := hB
                          rw [ht] at hP1
                          replace hK1 := va_K.moved hvm.symm hK1
                          obtain ⟨hPj, hDj⟩ := va_joinT (wr := [(ee, .inr (15, [.int 5, .int tx, .int 0, .int nm0, .int 0, .int 0, .long 0, .int 0, .null, .ref la, .ref sa, .int (nI n), .null, .null])), (la, .inl (kE, cp, .inr (.inr (.inr (.inr f))))), (sa, .inl (kI, cp, .inl g)), (mr 8, .inl (kL, 3002, .inr (.inl fn)))]) (w1 := [(m9, .inr (23, mA mr mv vf xl (nI zs) 0 xa1 (nI T) (nI ((pp1 + 1) + 1)) xi xt xn (nI (ns + 1)) (nI vv) (nI bb1))), (mr 5, .inl (kI, 3002, .inl fk)), (mr 6, .inl (kI, 3002, .inl fa))]) hP hD [4, 5, 6] [0, 1, 2, 3] rfl rfl (by decide) (by decide) hk1 hFc hP1 hD1
                          replace hP := hPj
                          replace hD := hDj
                          clear hPj hDj
                          replace hK := hK.app hK1
                          generalize H1 = H at hP hS ⊢
                          replace hP : va_P (dC, dI) vwCl (([(ee, .inr (15, [.int 5, .int tx, .int 0, .int nm0, .int 0, .int 0, .long 0, .int 0, .null, .ref la, .ref sa, .int (nI n), .null, .null])), (la, .inl (kE, cp, .inr (.inr (.inr (.inr f))))), (sa, .inl (kI, cp, .inl g)), (mr 8, .inl (kL, 3002, .inr (.inl fn))), (m9, .inr (23, mA mr mv vf xl (nI zs) 0 xa1 (nI T) (nI ((pp1 + 1) + 1)) xi xt xn (nI (ns + 1)) (nI vv) (nI bb1))), (mr 5, .inl (kI, 3002, .inl fk)), (mr 6, .inl (kI, 3002, .inl fa))] : va_W) ++ (sT L1 F1)) H := hP
                          replace hD : va_D A (([(ee, .inr (15, [.int 5, .int tx, .int 0, .int nm0, .int 0, .int 0, .long 0, .int 0, .null, .ref la, .ref sa, .int (nI n), .null, .null])), (la, .inl (kE, cp, .inr (.inr (.inr (.inr f))))), (sa, .inl (kI, cp, .inl g)), (mr 8, .inl (kL, 3002, .inr (.inl fn))), (m9, .inr (23, mA mr mv vf xl (nI zs) 0 xa1 (nI T) (nI ((pp1 + 1) + 1)) xi xt xn (nI (ns + 1)) (nI vv) (nI bb1))), (mr 5, .inl (kI, 3002, .inl fk)), (mr 6, .inl (kI, 3002, .inl fa))] : va_W) ++ (sT L1 F1)) := hD
                          replace hK : va_K (dC, dI) vwCl [(kI, .int), (kL, .long), (kE, .object RX15), (kI, .int)] s := hK
                          replace hK := hK.sub (tys' := [(kI, .int), (kL, .long), (kE, .object RX15)]) [0, 1, 2] rfl
                          clear hz1 hk1 hPc hDc hKc hFc hP1 hD1 hK1
                          have hp_39 : pp1 + 1 + 1 < T := kne3 hk0 hp_36 hk_37 (by decide)
                          refine lv_aload_n hx hb dX23_newFields_85 rfl (lv_at hl 2 rfl) ?_
                          replace hPc := hP.subF (f' := [(m9, .inr (23, mA mr mv vf xl (nI zs) 0 xa1 (nI T) (nI (pp1 + 1 + 1)) xi xt xn (nI (ns + 1)) (nI vv) (nI bb1)))]) [4] rfl
                          replace hDc := hD.subF (f' := [(m9, .inr (23, mA mr mv vf xl (nI zs) 0 xa1 (nI T) (nI (pp1 + 1 + 1)) xi xt xn (nI (ns + 1)) (nI vv) (nI bb1)))]) [4] (by decide) rfl
                          replace hKc := hK.sub (tys' := []) [] rfl
                          replace hFc := va_freeT (wc := [(m9, .inr (23, mA mr mv vf xl (nI zs) 0 xa1 (nI T) (nI (pp1 + 1 + 1)) xi xt xn (nI (ns + 1)) (nI vv) (nI bb1)))]) hD hS hA [4] rfl
                          refine va_calli (va_runV (As := []) (rest := []) ⟨hx, hb, hml, hown, hts⟩ (c_rok0 l dC dI m9 mr mv vf xl xa1 xi xt xn zs T (pp1 + 1 + 1) (ns + 1) vv bb1 kI fk fa H.size) (cwV 0 hts g_c_xnf_c_rok0_86 rfl rfl rfl (by decide +kernel) ⟨by show 0 + 1 ≤ 3 + 12 * k; omega, by show 8 + (1 + 11) + (0) ≤ 63 + 279 * k; omega⟩) ⟨fun a U g mk q => by obtain ⟨q0, q1, qP, qK, qD⟩ := q; exact ⟨q0, q1, qP, va_K.moved (u := U) (U := U.calling g mk a) (Vm.Alike.refl U.vm) qK, qD⟩, va_recv hKc hPc (ci := 23) (q0 := 0) rfl rfl, fun U hU hW => ⟨rfl, by rw [hU], by rw [hU]; exact hPc, va_K.moved hW.alike hKc, hDc.weaken (fun _ _ _ _ => trivial)⟩⟩ rfl rfl hl.1 rfl (lv_room (Nat.le_of_ble_eq_true rfl)) dX23_newFields_86 ⟨(show (8 * (pp1 - pp) - 3 * n - 8 * cm) + 0 ≤ (8 * (T - pp) + 3) by omega), (show (120 * (pp1 - pp) + 4 * cp + 8 - 64 * n - 120 * cm) + 0 ≤ (120 * (T - pp) + 280) by omega)⟩) hS (fun q _ h => hFc q h) hFc (fun r_40 u tS H1 locs ht hvm hw hB hz1 hk1 hS => ?_)
                          obtain ⟨hP1, hK1, hD1⟩ := hB
                          rw [ht] at hP1
                          replace hK1 := va_K.moved hvm.symm hK1
                          obtain ⟨hPj, hDj⟩ := va_joinT (wr := [(ee, .inr (15, [.int 5, .int tx, .int 0, .int nm0, .int 0, .int 0, .long 0, .int 0, .null, .ref la, .ref sa, .int (nI n), .null, .null])), (la, .inl (kE, cp, .inr (.inr (.inr (.inr f))))), (sa, .inl (kI, cp, .inl g)), (mr 8, .inl (kL, 3002, .inr (.inl fn))), (mr 5, .inl (kI, 3002, .inl fk)), (mr 6, .inl (kI, 3002, .inl fa))]) (w1 := [(m9, .inr (23, mA mr mv vf xl (nI zs) 0 xa1 (nI T) (nI (pp1 + 1 + 1)) xi xt xn (nI (ns + 1)) (nI vv) (nI bb1)))]) hP hD [4] [0, 1, 2, 3, 5, 6] rfl rfl (by decide) (by decide) hk1 hFc hP1 hD1
                          replace hP := hPj
                          replace hD := hDj
                          clear hPj hDj
                          generalize H1 = H at hP hS ⊢
                          replace hP : va_P (dC, dI) vwCl (([(ee, .inr (15, [.int 5, .int tx, .int 0, .int nm0, .int 0, .int 0, .long 0, .int 0, .null, .ref la, .ref sa, .int (nI n), .null, .null])), (la, .inl (kE, cp, .inr (.inr (.inr (.inr f))))), (sa, .inl (kI, cp, .inl g)), (mr 8, .inl (kL, 3002, .inr (.inl fn))), (mr 5, .inl (kI, 3002, .inl fk)), (mr 6, .inl (kI, 3002, .inl fa)), (m9, .inr (23, mA mr mv vf xl (nI zs) 0 xa1 (nI T) (nI (pp1 + 1 + 1)) xi xt xn (nI (ns + 1)) (nI vv) (nI bb1)))] : va_W) ++ (sT L1 F1)) H := hP
                          replace hD : va_D A (([(ee, .inr (15, [.int 5, .int tx, .int 0, .int nm0, .int 0, .int 0, .long 0, .int 0, .null, .ref la, .ref sa, .int (nI n), .null, .null])), (la, .inl (kE, cp, .inr (.inr (.inr (.inr f))))), (sa, .inl (kI, cp, .inl g)), (mr 8, .inl (kL, 3002, .inr (.inl fn))), (mr 5, .inl (kI, 3002, .inl fk)), (mr 6, .inl (kI, 3002, .inl fa)), (m9, .inr (23, mA mr mv vf xl (nI zs) 0 xa1 (nI T) (nI (pp1 + 1 + 1)) xi xt xn (nI (ns + 1)) (nI vv) (nI bb1)))] : va_W) ++ (sT L1 F1)) := hD
                          replace hK : va_K (dC, dI) vwCl [(kI, .int), (kL, .long), (kE, .object RX15)] s := hK
                          clear hz1 hk1 hPc hDc hKc hFc hP1 hD1 hK1
                          obtain rfl : r_40 = 1 := hw
                          refine lv_if_eq (tgt := 101) hx hb dX23_newFields_89 (by decide) (fun c_41 => absurd c_41 (by decide)) (fun _ => ?_)
                          refine lv_aload_n hx hb dX23_newFields_92 rfl (lv_at hl 3 rfl) ?_
                          refine lv_aload_n hx hb dX23_newFields_93 rfl (lv_at hl 2 rfl) ?_
                          obtain ⟨k1, hkL⟩ : ∃ k1 : Nat, k = k1 + 1 := ⟨k - 1, by omega⟩
                          replace hPc := hP.subT (f' := [(m9, .inr (23, mA mr mv vf xl (nI zs) 0 xa1 (nI T) (nI (pp1 + 1 + 1)) xi xt xn (nI (ns + 1)) (nI vv) (nI bb1))), (mr 5, .inl (kI, 3002, .inl fk)), (mr 6, .inl (kI, 3002, .inl fa)), (mr 8, .inl (kL, 3002, .inr (.inl fn)))]) [6, 4, 5, 3] rfl
                          replace hDc := hD.subT (f' := [(m9, .inr (23, mA mr mv vf xl (nI zs) 0 xa1 (nI T) (nI (pp1 + 1 + 1)) xi xt xn (nI (ns + 1)) (nI vv) (nI bb1))), (mr 5, .inl (kI, 3002, .inl fk)), (mr 6, .inl (kI, 3002, .inl fa)), (mr 8, .inl (kL, 3002, .inr (.inl fn)))]) [6, 4, 5, 3] (by decide) rfl
                          replace hKc := hK.sub (tys' := [(kI, .int), (kL, .long), (kE, .object RX15)]) [0, 1, 2] rfl
                          replace hFc := va_freeB (wc := [(m9, .inr (23, mA mr mv vf xl (nI zs) 0 xa1 (nI T) (nI (pp1 + 1 + 1)) xi xt xn (nI (ns + 1)) (nI vv) (nI bb1))), (mr 5, .inl (kI, 3002, .inl fk)), (mr 6, .inl (kI, 3002, .inl fa)), (mr 8, .inl (kL, 3002, .inr (.inl fn)))]) hD hS hA [6, 4, 5, 3] rfl
                          refine W.grow (fun hgs0 hgs1 => ?_)
                          refine va_callr (va_runV (As := []) (rest := [.ref ee]) ⟨hx, hb, hml, hown, hts⟩ ((ih k1 hkL).2.2.2.2.2.2 m9 mr mv vf xl xa1 xi xt xn zs T (pp1 + 1 + 1) (ns + 1) vv bb1 kI fk fa kL kE fn L1 F1 (slN H) H.size hT hp_39 hk0 hr9.1 (by omega)) (cwV 0 hts g_c_xnf_c_xex_94 rfl rfl rfl (by decide +kernel) ⟨by show 13 + 12 * k1 + 1 ≤ 3 + 12 * k; omega, by show 8 + (1 + 11) + (302 + 279 * k1) ≤ 63 + 279 * k; omega⟩) ⟨fun a U g mk q => by obtain ⟨q0, q1, qP, qK, qD, qx0, qx1⟩ := q; exact ⟨q0, q1, qP, va_K.moved (u := U) (U := U.calling g mk a) (Vm.Alike.refl U.vm) qK, qD, nsM.same (u := U) (U := U.calling g mk a) rfl qx0, qx1⟩, va_recv hKc hPc (ci := 23) (q0 := 0) rfl rfl, fun U hU hW => ⟨rfl, by rw [hU], by rw [hU]; exact hPc, va_K.moved hW.alike hKc, hDc.weaken (fun _ _ _ _ => trivial), nsM.warm hW hns, by rw [hU]⟩⟩ rfl rfl hl.1 rfl (lv_room (Nat.le_of_ble_eq_true rfl)) dX23_newFields_94 ⟨(show (8 * (pp1 - pp) - 3 * n - 8 * cm) + (8 * (T - (pp1 + 1 + 1)) + 8) ≤ (8 * (T - pp) + 3) by omega), (show (120 * (pp1 - pp) + 4 * cp + 8 - 64 * n - 120 * cm) + (120 * (T - (pp1 + 1 + 1)) + 360) ≤ (120 * (T - pp) + 280) by omega)⟩) hS (fun q _ h => hFc q h) hFc (fun u r_42 tS H1 locs ht hvm hw hB hz1 hk1 hS => ?_)
                          obtain ⟨L41, F41, ff41, xa41, pp41, bb41, hf42_0, hf42_1, hf42_2, hf42_3, hP1, hK1, hD1⟩ := hB
                          rw [ht] at hP1
                          replace hK1 := va_K.moved hvm.symm hK1
                          rw [ht] at hf42_3
                          have hgz : H1.size ≤ s.heap.size + (((8 * (pp1 - pp) - 3 * n - 8 * cm) + 8 * (pp41 - (pp1 + 1 + 1)) + 3)) ∧ slN H1 ≤ slN s.heap + (((120 * (pp1 - pp) + 4 * cp + 8 - 64 * n - 120 * cm) + 120 * (pp41 - (pp1 + 1 + 1)) + 48)) := ⟨by have := hf42_3.1; omega, by have := hf42_3.2; omega⟩
                          obtain ⟨hPj, hDj⟩ := va_joinB (wr := [(ee, .inr (15, [.int 5, .int tx, .int 0, .int nm0, .int 0, .int 0, .long 0, .int 0, .null, .ref la, .ref sa, .int (nI n), .null, .null])), (la, .inl (kE, cp, .inr (.inr (.inr (.inr f))))), (sa, .inl (kI, cp, .inl g))]) (w1 := [(m9, .inr (23, mA mr mv vf xl (nI zs) ff41 xa41 (nI T) (nI pp41) xi xt xn (nI (ns + 1)) (nI vv) (nI bb41))), (mr 5, .inl (kI, 3002, .inl fk)), (mr 6, .inl (kI, 3002, .inl fa)), (mr 8, .inl (kL, 3002, .inr (.inl fn)))]) hP hD [6, 4, 5, 3] [0, 1, 2] rfl rfl (by decide) (by decide) hk1 hFc hP1 hD1
                          replace hP := hPj
                          replace hD := hDj
                          clear hPj hDj
                          replace hK := hK.app hK1
                          generalize H1 = H at hP hS hgz ⊢
                          replace hP : va_P (dC, dI) vwCl (([(ee, .inr (15, [.int 5, .int tx, .int 0, .int nm0, .int 0, .int 0, .long 0, .int 0, .null, .ref la, .ref sa, .int (nI n), .null, .null])), (la, .inl (kE, cp, .inr (.inr (.inr (.inr f))))), (sa, .inl (kI, cp, .inl g)), (m9, .inr (23, mA mr mv vf xl (nI zs) ff41 xa41 (nI T) (nI pp41) xi xt xn (nI (ns + 1)) (nI vv) (nI bb41))), (mr 5, .inl (kI, 3002, .inl fk)), (mr 6, .inl (kI, 3002, .inl fa)), (mr 8, .inl (kL, 3002, .inr (.inl fn)))] : va_W) ++ (sT L41 F41)) H := hP
                          replace hD : va_D A (([(ee, .inr (15, [.int 5, .int tx, .int 0, .int nm0, .int 0, .int 0, .long 0, .int 0, .null, .ref la, .ref sa, .int (nI n), .null, .null])), (la, .inl (kE, cp, .inr (.inr (.inr (.inr f))))), (sa, .inl (kI, cp, .inl g)), (m9, .inr (23, mA mr mv vf xl (nI zs) ff41 xa41 (nI T) (nI pp41) xi xt xn (nI (ns + 1)) (nI vv) (nI bb41))), (mr 5, .inl (kI, 3002, .inl fk)), (mr 6, .inl (kI, 3002, .inl fa)), (mr 8, .inl (kL, 3002, .inr (.inl fn)))] : va_W) ++ (sT L41 F41)) := hD
                          replace hK : va_K (dC, dI) vwCl [(kI, .int), (kL, .long), (kE, .object RX15), (kI, .int), (kL, .long), (kE, .object RX15)] s := hK
                          replace hK := hK.sub (tys' := [(kI, .int), (kL, .long), (kE, .object RX15)]) [0, 1, 2] rfl
                          refine W.tight (k := ((8 * (pp1 - pp) - 3 * n - 8 * cm) + 8 * (pp41 - (pp1 + 1 + 1)) + 3)) (n := ((120 * (pp1 - pp) + 4 * cp + 8 - 64 * n - 120 * cm) + 120 * (pp41 - (pp1 + 1 + 1)) + 48)) hgz.1 hgz.2 ?_
                          clear hz1 hk1 hPc hDc hKc hFc hP1 hD1 hK1
                          refine lv_iload_n hx hb dX23_newFields_97 rfl (lv_at hl 0 rfl) ?_
                          replace hPc := hP.subT (f' := [(ee, .inr (15, [.int 5, .int tx, .int 0, .int nm0, .int 0, .int 0, .long 0, .int 0, .null, .ref la, .ref sa, .int (nI n), .null, .null])), (la, .inl (kE, cp, .inr (.inr (.inr (.inr f))))), (sa, .inl (kI, cp, .inl g))]) [0, 1, 2] rfl
                          replace hDc := hD.subT (f' := [(ee, .inr (15, [.int 5, .int tx, .int 0, .int nm0, .int 0, .int 0, .long 0, .int 0, .null, .ref la, .ref sa, .int (nI n), .null, .null])), (la, .inl (kE, cp, .inr (.inr (.inr (.inr f))))), (sa, .inl (kI, cp, .inl g))]) [0, 1, 2] (by decide) rfl
                          replace hKc := hK.sub (tys' := [(kI, .int), (kE, .object RX15)]) [0, 2] rfl
                          replace hFc := va_freeB (wc := [(ee, .inr (15, [.int 5, .int tx, .int 0, .int nm0, .int 0, .int 0, .long 0, .int 0, .null, .ref la, .ref sa, .int (nI n), .null, .null])), (la, .inl (kE, cp, .inr (.inr (.inr (.inr f))))), (sa, .inl (kI, cp, .inl g))]) hD hS hA [0, 1, 2] rfl
                          refine W.grow (fun hgs0 hgs1 => ?_)
                          refine va_callv (va_runS (As := [.ref ee, .ref r_42, .int (nI pp1)]) (rest := []) ⟨hx, hb, hml, hown, hts⟩ (c_xaA l dC dI ee r_42 5 tx 0 nm0 0 0 (nI pp1) .null kI kE la sa n cp f g L41 F41 (slN H) H.size hf42_0.2 (by omega) (fun i hi => by obtain ⟨x9, y9, z9⟩ := hr3 i hi; exact ⟨x9, y9, xO_ex hf42_0.1 z9⟩)) (va_cwS 3 hts g_c_xnf_c_xaA_98 rfl rfl rfl (by decide +kernel) ⟨by show 0 + 1 ≤ 3 + 12 * k; omega, by show 8 + (6 + 11) + (0) ≤ 63 + 279 * k; omega⟩) ⟨fun a U g mk q => by obtain ⟨q0, q1, qP, qK, qD, qx0, qx1⟩ := q; exact ⟨q0, q1, qP, va_K.moved (u := U) (U := U.calling g mk a) (Vm.Alike.refl U.vm) qK, qD, nsM.same (u := U) (U := U.calling g mk a) rfl qx0, qx1⟩, fun U hU hW => ⟨rfl, by rw [hU], by rw [hU]; exact hPc, va_K.moved hW.alike hKc, hDc.weaken (fun _ _ _ _ => trivial), nsM.warm hW hns, by rw [hU]⟩⟩ rfl rfl hl.1 rfl (lv_room (Nat.le_of_ble_eq_true rfl)) dX23_newFields_98 ⟨(show ((8 * (pp1 - pp) - 3 * n - 8 * cm) + 8 * (pp41 - (pp1 + 1 + 1)) + 3) + 2 ≤ (8 * (T - pp) + 3) by omega), (show ((120 * (pp1 - pp) + 4 * cp + 8 - 64 * n - 120 * cm) + 120 * (pp41 - (pp1 + 1 + 1)) + 48) + (4 * cp) ≤ (120 * (T - pp) + 280) by omega)⟩) hS (fun q _ h => hFc q h) hFc (fun u tS H1 locs ht hvm hw hB hz1 hk1 hS => ?_)
                          obtain ⟨la42, sa42, cp42, f42, g42, hf43_0, hf43_1, hf43_2, hf43_3, hf43_4, hP1, hK1, hD1⟩ := hB
                          rw [ht] at hP1
                          replace hK1 := va_K.moved hvm.symm hK1
                          rw [ht] at hf43_4
                          have hgz : H1.size ≤ s.heap.size + ((((8 * (pp1 - pp) - 3 * n - 8 * cm) + 8 * (pp41 - (pp1 + 1 + 1)) + 3) + 2)) ∧ slN H1 ≤ slN s.heap + ((((120 * (pp1 - pp) + 4 * cp + 8 - 64 * n - 120 * cm) + 120 * (pp41 - (pp1 + 1 + 1)) + 48) + 4 * (cp42 - cp))) := ⟨by have := hf43_4.1; omega, by have := hf43_4.2; omega⟩
                          obtain ⟨hPj, hDj⟩ := va_joinB (wr := [(m9, .inr (23, mA mr mv vf xl (nI zs) ff41 xa41 (nI T) (nI pp41) xi xt xn (nI (ns + 1)) (nI vv) (nI bb41))), (mr 5, .inl (kI, 3002, .inl fk)), (mr 6, .inl (kI, 3002, .inl fa)), (mr 8, .inl (kL, 3002, .inr (.inl fn)))]) (w1 := [(ee, .inr (15, [.int 5, .int tx, .int 0, .int nm0, .int 0, .int 0, .long 0, .int 0, .null, .ref la42, .ref sa42, .int (nI (n + 1)), .null, .null])), (la42, .inl (kE, cp42, .inr (.inr (.inr (.inr f42))))), (sa42, .inl (kI, cp42, .inl g42))]) hP hD [0, 1, 2] [3, 4, 5, 6] rfl rfl (by decide) (by decide) hk1 hFc hP1 hD1
                          replace hP := hPj
                          replace hD := hDj
                          clear hPj hDj
                          replace hK := hK.app hK1
                          generalize H1 = H at hP hS hgz ⊢
                          replace hP : va_P (dC, dI) vwCl (([(m9, .inr (23, mA mr mv vf xl (nI zs) ff41 xa41 (nI T) (nI pp41) xi xt xn (nI (ns + 1)) (nI vv) (nI bb41))), (mr 5, .inl (kI, 3002, .inl fk)), (mr 6, .inl (kI, 3002, .inl fa)), (mr 8, .inl (kL, 3002, .inr (.inl fn))), (ee, .inr (15, [.int 5, .int tx, .int 0, .int nm0, .int 0, .int 0, .long 0, .int 0, .null, .ref la42, .ref sa42, .int (nI (n + 1)), .null, .null])), (la42, .inl (kE, cp42, .inr (.inr (.inr (.inr f42))))), (sa42, .inl (kI, cp42, .inl g42))] : va_W) ++ (sT L41 F41)) H := hP
                          replace hD : va_D A (([(m9, .inr (23, mA mr mv vf xl (nI zs) ff41 xa41 (nI T) (nI pp41) xi xt xn (nI (ns + 1)) (nI vv) (nI bb41))), (mr 5, .inl (kI, 3002, .inl fk)), (mr 6, .inl (kI, 3002, .inl fa)), (mr 8, .inl (kL, 3002, .inr (.inl fn))), (ee, .inr (15, [.int 5, .int tx, .int 0, .int nm0, .int 0, .int 0, .long 0, .int 0, .null, .ref la42, .ref sa42, .int (nI (n + 1)), .null, .null])), (la42, .inl (kE, cp42, .inr (.inr (.inr (.inr f42))))), (sa42, .inl (kI, cp42, .inl g42))] : va_W) ++ (sT L41 F41)) := hD
                          replace hK : va_K (dC, dI) vwCl [(kI, .int), (kL, .long), (kE, .object RX15), (kI, .int), (kE, .object RX15)] s := hK
                          replace hK := hK.sub (tys' := [(kI, .int), (kL, .long), (kE, .object RX15)]) [0, 1, 2] rfl
                          refine W.tight (k := (((8 * (pp1 - pp) - 3 * n - 8 * cm) + 8 * (pp41 - (pp1 + 1 + 1)) + 3) + 2)) (n := (((120 * (pp1 - pp) + 4 * cp + 8 - 64 * n - 120 * cm) + 120 * (pp41 - (pp1 + 1 + 1)) + 48) + 4 * (cp42 - cp))) hgz.1 hgz.2 ?_
                          clear hz1 hk1 hPc hDc hKc hFc hP1 hD1 hK1
                          refine lv_aload_n hx hb dX23_newFields_101 rfl (lv_at hl 2 rfl) ?_
                          refine lv_bipush (v := 57) hx hb dX23_newFields_102 (by decide) ?_
                          by_cases hz_44 : ff41 = 0
                          · subst hz_44
                            have hg41 := hf42_2 rfl
                            have hlthg41 := (isE_mem hg41.2).2
                            by_cases hk_45 : fk pp41 = 57
                            · replace hPc := hP.subF (f' := [(m9, .inr (23, mA mr mv vf xl (nI zs) 0 xa41 (nI T) (nI pp41) xi xt xn (nI (ns + 1)) (nI vv) (nI bb41))), (mr 5, .inl (kI, 3002, .inl fk))]) [0, 1] rfl
                              replace hDc := hD.subF (f' := [(m9, .inr (23, mA mr mv vf xl (nI zs) 0 xa41 (nI T) (nI pp41) xi xt xn (nI (ns + 1)) (nI vv) (nI bb41))), (mr 5, .inl (kI, 3002, .inl fk))]) [0, 1] (by decide) rfl
                              replace hKc := hK.sub (tys' := [(kI, .int)]) [0] rfl
                              replace hFc := va_freeT (wc := [(m9, .inr (23, mA mr mv vf xl (nI zs) 0 xa41 (nI T) (nI pp41) xi xt xn (nI (ns + 1)) (nI vv) (nI bb41))), (mr 5, .inl (kI, 3002, .inl fk))]) hD hS hA [0, 1] rfl
                              refine va_calli (va_runV (As := [.int 57]) (rest := []) ⟨hx, hb, hml, hown, hts⟩ (c_rtsY l dC dI m9 mr mv vf xl xa41 xi xt xn zs T pp41 (ns + 1) vv bb41 kI fk fa 57 H.size hT hf42_1.2.1 hk0 (by decide) hk_45) (cwV 1 hts g_c_xnf_c_rtsY_104 rfl rfl rfl (by decide +kernel) ⟨by show 1 + 1 ≤ 3 + 12 * k; omega, by show 8 + (2 + 11) + (21) ≤ 63 + 279 * k; omega⟩) ⟨fun a U g mk q => by obtain ⟨q0, q1, qP, qK, qD⟩ := q; exact ⟨q0, q1, qP, va_K.moved (u := U) (U := U.calling g mk a) (Vm.Alike.refl U.vm) qK, qD⟩, va_recv hKc hPc (ci := 23) (q0 := 0) rfl rfl, fun U hU hW => ⟨rfl, by rw [hU], by rw [hU]; exact hPc, va_K.moved hW.alike hKc, hDc.weaken (fun _ _ _ _ => trivial)⟩⟩ rfl rfl hl.1 rfl (lv_room (Nat.le_of_ble_eq_true rfl)) dX23_newFields_104 ⟨(show (((8 * (pp1 - pp) - 3 * n - 8 * cm) + 8 * (pp41 - (pp1 + 1 + 1)) + 3) + 2) + 0 ≤ (8 * (T - pp) + 3) by omega), (show (((120 * (pp1 - pp) + 4 * cp + 8 - 64 * n - 120 * cm) + 120 * (pp41 - (pp1 + 1 + 1)) + 48) + 4 * (cp42 - cp)) + 0 ≤ (120 * (T - pp) + 280) by omega)⟩) hS (fun q _ h => hFc q h) hFc (fun r_46 u tS H1 locs ht hvm hw hB hz1 hk1 hS => ?_)
                              obtain ⟨hP1, hK1, hD1⟩ := hB
                              rw [ht] at hP1
                              replace hK1 := va_K.moved hvm.symm hK1
                              obtain ⟨hPj, hDj⟩ := va_joinT (wr := [(mr 6, .inl (kI, 3002, .inl fa)), (mr 8, .inl (kL, 3002, .inr (.inl fn))), (ee, .inr (15, [.int 5, .int tx, .int 0, .int nm0, .int 0, .int 0, .long 0, .int 0, .null, .ref la42, .ref sa42, .int (nI (n + 1)), .null, .null])), (la42, .inl (kE, cp42, .inr (.inr (.inr (.inr f42))))), (sa42, .inl (kI, cp42, .inl g42))]) (w1 := [(m9, .inr (23, mA mr mv vf xl (nI zs) 0 xa41 (nI T) (nI (pp41 + 1)) xi xt xn (nI (ns + 1)) (nI vv) (nI bb41))), (mr 5, .inl (kI, 3002, .inl fk))]) hP hD [0, 1] [2, 3, 4, 5, 6] rfl rfl (by decide) (by decide) hk1 hFc hP1 hD1
                              replace hP := hPj
                              replace hD := hDj
                              clear hPj hDj
                              replace hK := hK.app hK1
                              generalize H1 = H at hP hS ⊢
                              replace hP : va_P (dC, dI) vwCl (([(mr 6, .inl (kI, 3002, .inl fa)), (mr 8, .inl (kL, 3002, .inr (.inl fn))), (ee, .inr (15, [.int 5, .int tx, .int 0, .int nm0, .int 0, .int 0, .long 0, .int 0, .null, .ref la42, .ref sa42, .int (nI (n + 1)), .null, .null])), (la42, .inl (kE, cp42, .inr (.inr (.inr (.inr f42))))), (sa42, .inl (kI, cp42, .inl g42)), (m9, .inr (23, mA mr mv vf xl (nI zs) 0 xa41 (nI T) (nI (pp41 + 1)) xi xt xn (nI (ns + 1)) (nI vv) (nI bb41))), (mr 5, .inl (kI, 3002, .inl fk))] : va_W) ++ (sT L41 F41)) H := hP
                              replace hD : va_D A (([(mr 6, .inl (kI, 3002, .inl fa)), (mr 8, .inl (kL, 3002, .inr (.inl fn))), (ee, .inr (15, [.int 5, .int tx, .int 0, .int nm0, .int 0, .int 0, .long 0, .int 0, .null, .ref la42, .ref sa42, .int (nI (n + 1)), .null, .null])), (la42, .inl (kE, cp42, .inr (.inr (.inr (.inr f42))))), (sa42, .inl (kI, cp42, .inl g42)), (m9, .inr (23, mA mr mv vf xl (nI zs) 0 xa41 (nI T) (nI (pp41 + 1)) xi xt xn (nI (ns + 1)) (nI vv) (nI bb41))), (mr 5, .inl (kI, 3002, .inl fk))] : va_W) ++ (sT L41 F41)) := hD
                              replace hK : va_K (dC, dI) vwCl [(kI, .int), (kL, .long), (kE, .object RX15), (kI, .int)] s := hK
                              replace hK := hK.sub (tys' := [(kI, .int), (kL, .long), (kE, .object RX15)]) [0, 1, 2] rfl
                              clear hz1 hk1 hPc hDc hKc hFc hP1 hD1 hK1
                              obtain rfl : r_46 = 1 := hw
                              have hp_47 : pp41 + 1 < T := kne3 hk0 hf42_1.2.1 hk_45 (by decide)
                              refine lv_istore_n (lv' := [(2, .int 1), (3, .int (nI pp1)), (0, .ref m9), (1, .ref ee)]) hx hb dX23_newFields_107 rfl hl (by decide) rfl (fun ls hl => ?_)
                              refine lv_goto (tgt := 63) hx hb dX23_newFields_108 (by decide) ?_
                              refine W.widen (k := (8 * ((pp41 + 1) - pp) - 3 * (n + 1) - 8 * 1)) (n := (120 * ((pp41 + 1) - pp) + 4 * cp42 + 8 - 64 * (n + 1) - 120 * 1)) (by omega) (by omega) ?_
                              exact ih1 (pp41 + 1) bb41 la42 sa42 cp42 (n + 1) 1 0 xa41 1 L41 F41 f42 g42 _ _ _ (⟨by omega, by omega, by omega, by omega, by omega, by omega, by omega, by omega, by omega, by omega, by omega, hT⟩) (Or.inr (by omega)) (hr2.tr hf42_0.1) (fun i hi => by
                                by_cases e9 : i = n
                                · subst e9; exact ⟨_, hf43_2.1, hf42_0.2⟩
                                · obtain ⟨x9, y9, z9⟩ := hr3 i (by omega); exact ⟨x9, (hf43_1 i (by omega)).1.trans y9, xO_ex hf42_0.1 z9⟩) (fun _ => ⟨hg41.1, _, chP_add (chP_im (fun x p q b c z => isE_im hf42_0.1 _ (Nat.le_refl _) z) hr5) (fun i hi => hf43_1 i hi) hf43_2.1 hf43_2.2 (by omega) (isE_im exS.rf _ (by omega) hg41.2) (Or.inr ⟨by omega, by omega⟩), Or.inr ⟨by decide, rfl, by omega⟩⟩) (hP.subT [2, 3, 4, 5, 6, 0, 1] rfl) (hD.subT [2, 3, 4, 5, 6, 0, 1] (by decide) rfl) hS (lv_sub hl [0, 2, 3] rfl)
                            · replace hPc := hP.subF (f' := [(m9, .inr (23, mA mr mv vf xl (nI zs) 0 xa41 (nI T) (nI pp41) xi xt xn (nI (ns + 1)) (nI vv) (nI bb41))), (mr 5, .inl (kI, 3002, .inl fk))]) [0, 1] rfl
                              replace hDc := hD.subF (f' := [(m9, .inr (23, mA mr mv vf xl (nI zs) 0 xa41 (nI T) (nI pp41) xi xt xn (nI (ns + 1)) (nI vv) (nI bb41))), (mr 5, .inl (kI, 3002, .inl fk))]) [0, 1] (by decide) rfl
                              replace hKc := hK.sub (tys' := [(kI, .int)]) [0] rfl
                              replace hFc := va_freeT (wc := [(m9, .inr (23, mA mr mv vf xl (nI zs) 0 xa41 (nI T) (nI pp41) xi xt xn (nI (ns + 1)) (nI vv) (nI bb41))), (mr 5, .inl (kI, 3002, .inl fk))]) hD hS hA [0, 1] rfl
                              refine va_calli (va_runV (As := [.int 57]) (rest := []) ⟨hx, hb, hml, hown, hts⟩ (c_rtsN l dC dI m9 mr mv vf xl xa41 xi xt xn zs T pp41 (ns + 1) vv bb41 kI fk fa 57 H.size hT hf42_1.2.1 hk0 (by decide) hk_45) (cwV 1 hts g_c_xnf_c_rtsN_104 rfl rfl rfl (by decide +kernel) ⟨by show 1 + 1 ≤ 3 + 12 * k; omega, by show 8 + (2 + 11) + (21) ≤ 63 + 279 * k; omega⟩) ⟨fun a U g mk q => by obtain ⟨q0, q1, qP, qK, qD⟩ := q; exact ⟨q0, q1, qP, va_K.moved (u := U) (U := U.calling g mk a) (Vm.Alike.refl U.vm) qK, qD⟩, va_recv hKc hPc (ci := 23) (q0 := 0) rfl rfl, fun U hU hW => ⟨rfl, by rw [hU], by rw [hU]; exact hPc, va_K.moved hW.alike hKc, hDc.weaken (fun _ _ _ _ => trivial)⟩⟩ rfl rfl hl.1 rfl (lv_room (Nat.le_of_ble_eq_true rfl)) dX23_newFields_104 ⟨(show (((8 * (pp1 - pp) - 3 * n - 8 * cm) + 8 * (pp41 - (pp1 + 1 + 1)) + 3) + 2) + 0 ≤ (8 * (T - pp) + 3) by omega), (show (((120 * (pp1 - pp) + 4 * cp + 8 - 64 * n - 120 * cm) + 120 * (pp41 - (pp1 + 1 + 1)) + 48) + 4 * (cp42 - cp)) + 0 ≤ (120 * (T - pp) + 280) by omega)⟩) hS (fun q _ h => hFc q h) hFc (fun r_46 u tS H1 locs ht hvm hw hB hz1 hk1 hS => ?_)
                              obtain ⟨hP1, hK1, hD1⟩ := hB
                              rw [ht] at hP1
                              replace hK1 := va_K.moved hvm.symm hK1
                              obtain ⟨hPj, hDj⟩ := va_joinT (wr := [(mr 6, .inl (kI, 3002, .inl fa)), (mr 8, .inl (kL, 3002, .inr (.inl fn))), (ee, .inr (15, [.int 5, .int tx, .int 0, .int nm0, .int 0, .int 0, .long 0, .int 0, .null, .ref la42, .ref sa42, .int (nI (n + 1)), .null, .null])), (la42, .inl (kE, cp42, .inr (.inr (.inr (.inr f42))))), (sa42, .inl (kI, cp42, .inl g42))]) (w1 := [(m9, .inr (23, mA mr mv vf xl (nI zs) 0 xa41 (nI T) (nI pp41) xi xt xn (nI (ns + 1)) (nI vv) (nI bb41))), (mr 5, .inl (kI, 3002, .inl fk))]) hP hD [0, 1] [2, 3, 4, 5, 6] rfl rfl (by decide) (by decide) hk1 hFc hP1 hD1
                              replace hP := hPj
                              replace hD := hDj
                              clear hPj hDj
                              replace hK := hK.app hK1
                              generalize H1 = H at hP hS ⊢
                              replace hP : va_P (dC, dI) vwCl (([(mr 6, .inl (kI, 3002, .inl fa)), (mr 8, .inl (kL, 3002, .inr (.inl fn))), (ee, .inr (15, [.int 5, .int tx, .int 0, .int nm0, .int 0, .int 0, .long 0, .int 0, .null, .ref la42, .ref sa42, .int (nI (n + 1)), .null, .null])), (la42, .inl (kE, cp42, .inr (.inr (.inr (.inr f42))))), (sa42, .inl (kI, cp42, .inl g42)), (m9, .inr (23, mA mr mv vf xl (nI zs) 0 xa41 (nI T) (nI pp41) xi xt xn (nI (ns + 1)) (nI vv) (nI bb41))), (mr 5, .inl (kI, 3002, .inl fk))] : va_W) ++ (sT L41 F41)) H := hP
                              replace hD : va_D A (([(mr 6, .inl (kI, 3002, .inl fa)), (mr 8, .inl (kL, 3002, .inr (.inl fn))), (ee, .inr (15, [.int 5, .int tx, .int 0, .int nm0, .int 0, .int 0, .long 0, .int 0, .null, .ref la42, .ref sa42, .int (nI (n + 1)), .null, .null])), (la42, .inl (kE, cp42, .inr (.inr (.inr (.inr f42))))), (sa42, .inl (kI, cp42, .inl g42)), (m9, .inr (23, mA mr mv vf xl (nI zs) 0 xa41 (nI T) (nI pp41) xi xt xn (nI (ns + 1)) (nI vv) (nI bb41))), (mr 5, .inl (kI, 3002, .inl fk))] : va_W) ++ (sT L41 F41)) := hD
                              replace hK : va_K (dC, dI) vwCl [(kI, .int), (kL, .long), (kE, .object RX15), (kI, .int)] s := hK
                              replace hK := hK.sub (tys' := [(kI, .int), (kL, .long), (kE, .object RX15)]) [0, 1, 2] rfl
                              clear hz1 hk1 hPc hDc hKc hFc hP1 hD1 hK1
                              obtain rfl : r_46 = 0 := hw
                              refine lv_istore_n (lv' := [(2, .int 0), (3, .int (nI pp1)), (0, .ref m9), (1, .ref ee)]) hx hb dX23_newFields_107 rfl hl (by decide) rfl (fun ls hl => ?_)
                              refine lv_goto (tgt := 63) hx hb dX23_newFields_108 (by decide) ?_
                              refine W.widen (k := (8 * (pp41 - pp) - 3 * (n + 1) - 8 * 0)) (n := (120 * (pp41 - pp) + 4 * cp42 + 8 - 64 * (n + 1) - 120 * 0)) (by omega) (by omega) ?_
                              exact ih1 pp41 bb41 la42 sa42 cp42 (n + 1) 0 0 xa41 0 L41 F41 f42 g42 _ _ _ (⟨by omega, by omega, by omega, by omega, by omega, by omega, by omega, by omega, by omega, by omega, by omega, hT⟩) (Or.inr (by omega)) (hr2.tr hf42_0.1) (fun i hi => by
                                by_cases e9 : i = n
                                · subst e9; exact ⟨_, hf43_2.1, hf42_0.2⟩
                                · obtain ⟨x9, y9, z9⟩ := hr3 i (by omega); exact ⟨x9, (hf43_1 i (by omega)).1.trans y9, xO_ex hf42_0.1 z9⟩) (fun _ => ⟨hg41.1, _, chP_add (chP_im (fun x p q b c z => isE_im hf42_0.1 _ (Nat.le_refl _) z) hr5) (fun i hi => hf43_1 i hi) hf43_2.1 hf43_2.2 (by omega) (isE_im exS.rf _ (by omega) hg41.2) (Or.inr ⟨by omega, by omega⟩), Or.inl ⟨rfl, rfl, by omega⟩⟩) (hP.subT [2, 3, 4, 5, 6, 0, 1] rfl) (hD.subT [2, 3, 4, 5, 6, 0, 1] (by decide) rfl) hS (lv_sub hl [0, 2, 3] rfl)
                          · replace hPc := hP.subF (f' := [(m9, .inr (23, mA mr mv vf xl (nI zs) ff41 xa41 (nI T) (nI pp41) xi xt xn (nI (ns + 1)) (nI vv) (nI bb41))), (mr 5, .inl (kI, 3002, .inl fk))]) [0, 1] rfl
                            replace hDc := hD.subF (f' := [(m9, .inr (23, mA mr mv vf xl (nI zs) ff41 xa41 (nI T) (nI pp41) xi xt xn (nI (ns + 1)) (nI vv) (nI bb41))), (mr 5, .inl (kI, 3002, .inl fk))]) [0, 1] (by decide) rfl
                            replace hKc := hK.sub (tys' := [(kI, .int)]) [0] rfl
                            replace hFc := va_freeT (wc := [(m9, .inr (23, mA mr mv vf xl (nI zs) ff41 xa41 (nI T) (nI pp41) xi xt xn (nI (ns + 1)) (nI vv) (nI bb41))), (mr 5, .inl (kI, 3002, .inl fk))]) hD hS hA [0, 1] rfl
                            refine va_calli (va_runV (As := [.int 57]) (rest := []) ⟨hx, hb, hml, hown, hts⟩ (c_rtsB l dC dI m9 mr mv vf xl xa41 xi xt xn zs T pp41 (ns + 1) vv bb41 kI fk fa ff41 57 H.size hz_44) (cwV 1 hts g_c_xnf_c_rtsB_104 rfl rfl rfl (by decide +kernel) ⟨by show 1 + 1 ≤ 3 + 12 * k; omega, by show 8 + (2 + 11) + (20) ≤ 63 + 279 * k; omega⟩) ⟨fun a U g mk q => by obtain ⟨q0, q1, qP, qK, qD⟩ := q; exact ⟨q0, q1, qP, va_K.moved (u := U) (U := U.calling g mk a) (Vm.Alike.refl U.vm) qK, qD⟩, va_recv hKc hPc (ci := 23) (q0 := 0) rfl rfl, fun U hU hW => ⟨rfl, by rw [hU], by rw [hU]; exact hPc, va_K.moved hW.alike hKc, hDc.weaken (fun _ _ _ _ => trivial)⟩⟩ rfl rfl hl.1 rfl (lv_room (Nat.le_of_ble_eq_true rfl)) dX23_newFields_104 ⟨(show (((8 * (pp1 - pp) - 3 * n - 8 * cm) + 8 * (pp41 - (pp1 + 1 + 1)) + 3) + 2) + 0 ≤ (8 * (T - pp) + 3) by omega), (show (((120 * (pp1 - pp) + 4 * cp + 8 - 64 * n - 120 * cm) + 120 * (pp41 - (pp1 + 1 + 1)) + 48) + 4 * (cp42 - cp)) + 0 ≤ (120 * (T - pp) + 280) by omega)⟩) hS (fun q _ h => hFc q h) hFc (fun r_45 u tS H1 locs ht hvm hw hB hz1 hk1 hS => ?_)
                            obtain ⟨hP1, hK1, hD1⟩ := hB
                            rw [ht] at hP1
                            replace hK1 := va_K.moved hvm.symm hK1
                            obtain ⟨hPj, hDj⟩ := va_joinT (wr := [(mr 6, .inl (kI, 3002, .inl fa)), (mr 8, .inl (kL, 3002, .inr (.inl fn))), (ee, .inr (15, [.int 5, .int tx, .int 0, .int nm0, .int 0, .int 0, .long 0, .int 0, .null, .ref la42, .ref sa42, .int (nI (n + 1)), .null, .null])), (la42, .inl (kE, cp42, .inr (.inr (.inr (.inr f42))))), (sa42, .inl (kI, cp42, .inl g42))]) (w1 := [(m9, .inr (23, mA mr mv vf xl (nI zs) ff41 xa41 (nI T) (nI pp41) xi xt xn (nI (ns + 1)) (nI vv) (nI bb41))), (mr 5, .inl (kI, 3002, .inl fk))]) hP hD [0, 1] [2, 3, 4, 5, 6] rfl rfl (by decide) (by decide) hk1 hFc hP1 hD1
                            replace hP := hPj
                            replace hD := hDj
                            clear hPj hDj
                            replace hK := hK.app hK1
                            generalize H1 = H at hP hS ⊢
                            replace hP : va_P (dC, dI) vwCl (([(mr 6, .inl (kI, 3002, .inl fa)), (mr 8, .inl (kL, 3002, .inr (.inl fn))), (ee, .inr (15, [.int 5, .int tx, .int 0, .int nm0, .int 0, .int 0, .long 0, .int 0, .null, .ref la42, .ref sa42, .int (nI (n + 1)), .null, .null])), (la42, .inl (kE, cp42, .inr (.inr (.inr (.inr f42))))), (sa42, .inl (kI, cp42, .inl g42)), (m9, .inr (23, mA mr mv vf xl (nI zs) ff41 xa41 (nI T) (nI pp41) xi xt xn (nI (ns + 1)) (nI vv) (nI bb41))), (mr 5, .inl (kI, 3002, .inl fk))] : va_W) ++ (sT L41 F41)) H := hP
                            replace hD : va_D A (([(mr 6, .inl (kI, 3002, .inl fa)), (mr 8, .inl (kL, 3002, .inr (.inl fn))), (ee, .inr (15, [.int 5, .int tx, .int 0, .int nm0, .int 0, .int 0, .long 0, .int 0, .null, .ref la42, .ref sa42, .int (nI (n + 1)), .null, .null])), (la42, .inl (kE, cp42, .inr (.inr (.inr (.inr f42))))), (sa42, .inl (kI, cp42, .inl g42)), (m9, .inr (23, mA mr mv vf xl (nI zs) ff41 xa41 (nI T) (nI pp41) xi xt xn (nI (ns + 1)) (nI vv) (nI bb41))), (mr 5, .inl (kI, 3002, .inl fk))] : va_W) ++ (sT L41 F41)) := hD
                            replace hK : va_K (dC, dI) vwCl [(kI, .int), (kL, .long), (kE, .object RX15), (kI, .int)] s := hK
                            replace hK := hK.sub (tys' := [(kI, .int), (kL, .long), (kE, .object RX15)]) [0, 1, 2] rfl
                            clear hz1 hk1 hPc hDc hKc hFc hP1 hD1 hK1
                            obtain rfl : r_45 = 0 := hw
                            refine lv_istore_n (lv' := [(2, .int 0), (3, .int (nI pp1)), (0, .ref m9), (1, .ref ee)]) hx hb dX23_newFields_107 rfl hl (by decide) rfl (fun ls hl => ?_)
                            refine lv_goto (tgt := 63) hx hb dX23_newFields_108 (by decide) ?_
                            refine W.widen (k := (8 * (pp41 - pp) - 3 * (n + 1) - 8 * 0)) (n := (120 * (pp41 - pp) + 4 * cp42 + 8 - 64 * (n + 1) - 120 * 0)) (by omega) (by omega) ?_
                            exact ih1 pp41 bb41 la42 sa42 cp42 (n + 1) 0 ff41 xa41 0 L41 F41 f42 g42 _ _ _ (⟨by omega, by omega, by omega, by omega, by omega, by omega, by omega, by omega, by omega, by omega, by omega, hT⟩) (Or.inl hz_44) (hr2.tr hf42_0.1) (fun i hi => by
                              by_cases e9 : i = n
                              · subst e9; exact ⟨_, hf43_2.1, hf42_0.2⟩
                              · obtain ⟨x9, y9, z9⟩ := hr3 i (by omega); exact ⟨x9, (hf43_1 i (by omega)).1.trans y9, xO_ex hf42_0.1 z9⟩) (fun q9 => absurd q9 hz_44) (hP.subT [2, 3, 4, 5, 6, 0, 1] rfl) (hD.subT [2, 3, 4, 5, 6, 0, 1] (by decide) rfl) hS (lv_sub hl [0, 2, 3] rfl)
                        · replace hPc := hP.subF (f' := [(m9, .inr (23, mA mr mv vf xl (nI zs) 0 xa1 (nI T) (nI (pp1 + 1)) xi xt xn (nI (ns + 1)) (nI vv) (nI bb1))), (mr 5, .inl (kI, 3002, .inl fk)), (mr 6, .inl (kI, 3002, .inl fa))]) [4, 5, 6] rfl
                          replace hDc := hD.subF (f' := [(m9, .inr (23, mA mr mv vf xl (nI zs) 0 xa1 (nI T) (nI (pp1 + 1)) xi xt xn (nI (ns + 1)) (nI vv) (nI bb1))), (mr 5, .inl (kI, 3002, .inl fk)), (mr 6, .inl (kI, 3002, .inl fa))]) [4, 5, 6] (by decide) rfl
                          replace hKc := hK.sub (tys' := [(kI, .int)]) [0] rfl
                          replace hFc := va_freeT (wc := [(m9, .inr (23, mA mr mv vf xl (nI zs) 0 xa1 (nI T) (nI (pp1 + 1)) xi xt xn (nI (ns + 1)) (nI vv) (nI bb1))), (mr 5, .inl (kI, 3002, .inl fk)), (mr 6, .inl (kI, 3002, .inl fa))]) hD hS hA [4, 5, 6] rfl
                          refine va_callv (va_runV (As := [.int 58]) (rest := []) ⟨hx, hb, hml, hown, hts⟩ (c_rtkN l dC dI m9 mr mv vf xl xa1 xi xt xn zs T (pp1 + 1) (ns + 1) vv bb1 kI fk fa 58 H.size hT hp_36 hk0 (by decide) hk_37) (cwV 1 hts g_c_xnf_c_rtkN_82 rfl rfl rfl (by decide +kernel) ⟨by show 1 + 1 ≤ 3 + 12 * k; omega, by show 8 + (2 + 11) + (22) ≤ 63 + 279 * k; omega⟩) ⟨fun a U g mk q => by obtain ⟨q0, q1, qP, qK, qD⟩ := q; exact ⟨q0, q1, qP, va_K.moved (u := U) (U := U.calling g mk a) (Vm.Alike.refl U.vm) qK, qD⟩, va_recv hKc hPc (ci := 23) (q0 := 0) rfl rfl, fun U hU hW => ⟨rfl, by rw [hU], by rw [hU]; exact hPc, va_K.moved hW.alike hKc, hDc.weaken (fun _ _ _ _ => trivial)⟩⟩ rfl rfl hl.1 rfl (lv_room (Nat.le_of_ble_eq_true rfl)) dX23_newFields_82 ⟨(show (8 * (pp1 - pp) - 3 * n - 8 * cm) + 0 ≤ (8 * (T - pp) + 3) by omega), (show (120 * (pp1 - pp) + 4 * cp + 8 - 64 * n - 120 * cm) + 0 ≤ (120 * (T - pp) + 280) by omega)⟩) hS (fun q _ h => hFc q h) hFc (fun u tS H1 locs ht hvm hw hB hz1 hk1 hS => ?_)
                          obtain ⟨ff_38, xa_39, hf40_0, hP1, hK1, hD1⟩ := hB
                          rw [ht] at hP1
                          replace hK1 := va_K.moved hvm.symm hK1
                          obtain ⟨hPj, hDj⟩ := va_joinT (wr := [(ee, .inr (15, [.int 5, .int tx, .int 0, .int nm0, .int 0, .int 0, .long 0, .int 0, .null, .ref la, .ref sa, .int (nI n), .null, .null])), (la, .inl (kE, cp, .inr (.inr (.inr (.inr f))))), (sa, .inl (kI, cp, .inl g)), (mr 8, .inl (kL, 3002, .inr (.inl fn)))]) (w1 := [(m9, .inr (23, mA mr mv vf xl (nI zs) ff_38 xa_39 (nI T) (nI (pp1 + 1)) xi xt xn (nI (ns + 1)) (nI vv) (nI bb1))), (mr 5, .inl (kI, 3002, .inl fk)), (mr 6, .inl (kI, 3002, .inl fa))]) hP hD [4, 5, 6] [0, 1, 2, 3] rfl rfl (by decide) (by decide) hk1 hFc hP1 hD1
                          replace hP := hPj
                          replace hD := hDj
                          clear hPj hDj
                          replace hK := hK.app hK1
                          generalize H1 = H at hP hS ⊢
                          replace hP : va_P (dC, dI) vwCl (([(ee, .inr (15, [.int 5, .int tx, .int 0, .int nm0, .int 0, .int 0, .long 0, .int 0, .null, .ref la, .ref sa, .int (nI n), .null, .null])), (la, .inl (kE, cp, .inr (.inr (.inr (.inr f))))), (sa, .inl (kI, cp, .inl g)), (mr 8, .inl (kL, 3002, .inr (.inl fn))), (m9, .inr (23, mA mr mv vf xl (nI zs) ff_38 xa_39 (nI T) (nI (pp1 + 1)) xi xt xn (nI (ns + 1)) (nI vv) (nI bb1))), (mr 5, .inl (kI, 3002, .inl fk)), (mr 6, .inl (kI, 3002, .inl fa))] : va_W) ++ (sT L1 F1)) H := hP
                          replace hD : va_D A (([(ee, .inr (15, [.int 5, .int tx, .int 0, .int nm0, .int 0, .int 0, .long 0, .int 0, .null, .ref la, .ref sa, .int (nI n), .null, .null])), (la, .inl (kE, cp, .inr (.inr (.inr (.inr f))))), (sa, .inl (kI, cp, .inl g)), (mr 8, .inl (kL, 3002, .inr (.inl fn))), (m9, .inr (23, mA mr mv vf xl (nI zs) ff_38 xa_39 (nI T) (nI (pp1 + 1)) xi xt xn (nI (ns + 1)) (nI vv) (nI bb1))), (mr 5, .inl (kI, 3002, .inl fk)), (mr 6, .inl (kI, 3002, .inl fa))] : va_W) ++ (sT L1 F1)) := hD
                          replace hK : va_K (dC, dI) vwCl [(kI, .int), (kL, .long), (kE, .object RX15), (kI, .int)] s := hK
                          replace hK := hK.sub (tys' := [(kI, .int), (kL, .long), (kE, .object RX15)]) [0, 1, 2] rfl
                          clear hz1 hk1 hPc hDc hKc hFc hP1 hD1 hK1
                          refine lv_aload_n hx hb dX23_newFields_85 rfl (lv_at hl 2 rfl) ?_
                          replace hPc := hP.subF (f' := [(m9, .inr (23, mA mr mv vf xl (nI zs) ff_38 xa_39 (nI T) (nI (pp1 + 1)) xi xt xn (nI (ns + 1)) (nI vv) (nI bb1)))]) [4] rfl
                          replace hDc := hD.subF (f' := [(m9, .inr (23, mA mr mv vf xl (nI zs) ff_38 xa_39 (nI T) (nI (pp1 + 1)) xi xt xn (nI (ns + 1)) (nI vv) (nI bb1)))]) [4] (by decide) rfl
                          replace hKc := hK.sub (tys' := []) [] rfl
                          replace hFc := va_freeT (wc := [(m9, .inr (23, mA mr mv vf xl (nI zs) ff_38 xa_39 (nI T) (nI (pp1 + 1)) xi xt xn (nI (ns + 1)) (nI vv) (nI bb1)))]) hD hS hA [4] rfl
                          refine va_calli (va_runV (As := []) (rest := []) ⟨hx, hb, hml, hown, hts⟩ (c_rokB l dC dI m9 mr mv vf xl xa_39 xi xt xn zs T (pp1 + 1) (ns + 1) vv bb1 kI fk fa ff_38 H.size hf40_0) (cwV 0 hts g_c_xnf_c_rokB_86 rfl rfl rfl (by decide +kernel) ⟨by show 0 + 1 ≤ 3 + 12 * k; omega, by show 8 + (1 + 11) + (0) ≤ 63 + 279 * k; omega⟩) ⟨fun a U g mk q => by obtain ⟨q0, q1, qP, qK, qD⟩ := q; exact ⟨q0, q1, qP, va_K.moved (u := U) (U := U.calling g mk a) (Vm.Alike.refl U.vm) qK, qD⟩, va_recv hKc hPc (ci := 23) (q0 := 0) rfl rfl, fun U hU hW => ⟨rfl, by rw [hU], by rw [hU]; exact hPc, va_K.moved hW.alike hKc, hDc.weaken (fun _ _ _ _ => trivial)⟩⟩ rfl rfl hl.1 rfl (lv_room (Nat.le_of_ble_eq_true rfl)) dX23_newFields_86 ⟨(show (8 * (pp1 - pp) - 3 * n - 8 * cm) + 0 ≤ (8 * (T - pp) + 3) by omega), (show (120 * (pp1 - pp) + 4 * cp + 8 - 64 * n - 120 * cm) + 0 ≤ (120 * (T - pp) + 280) by omega)⟩) hS (fun q _ h => hFc q h) hFc (fun r_41 u tS H1 locs ht hvm hw hB hz1 hk1 hS => ?_)
                          obtain ⟨hP1, hK1, hD1⟩ := hB
                          rw [ht] at hP1
                          replace hK1 := va_K.moved hvm.symm hK1
                          obtain ⟨hPj, hDj⟩ := va_joinT (wr := [(ee, .inr (15, [.int 5, .int tx, .int 0, .int nm0, .int 0, .int 0, .long 0, .int 0, .null, .ref la, .ref sa, .int (nI n), .null, .null])), (la, .inl (kE, cp, .inr (.inr (.inr (.inr f))))), (sa, .inl (kI, cp, .inl g)), (mr 8, .inl (kL, 3002, .inr (.inl fn))), (mr 5, .inl (kI, 3002, .inl fk)), (mr 6, .inl (kI, 3002, .inl fa))]) (w1 := [(m9, .inr (23, mA mr mv vf xl (nI zs) ff_38 xa_39 (nI T) (nI (pp1 + 1)) xi xt xn (nI (ns + 1)) (nI vv) (nI bb1)))]) hP hD [4] [0, 1, 2, 3, 5, 6] rfl rfl (by decide) (by decide) hk1 hFc hP1 hD1
                          replace hP := hPj
                          replace hD := hDj
                          clear hPj hDj
                          generalize H1 = H at hP hS ⊢
                          replace hP : va_P (dC, dI) vwCl (([(ee, .inr (15, [.int 5, .int tx, .int 0, .int nm0, .int 0, .int 0, .long 0, .int 0, .null, .ref la, .ref sa, .int (nI n), .null, .null])), (la, .inl (kE, cp, .inr (.inr (.inr (.inr f))))), (sa, .inl (kI, cp, .inl g)), (mr 8, .inl (kL, 3002, .inr (.inl fn))), (mr 5, .inl (kI, 3002, .inl fk)), (mr 6, .inl (kI, 3002, .inl fa)), (m9, .inr (23, mA mr mv vf xl (nI zs) ff_38 xa_39 (nI T) (nI (pp1 + 1)) xi xt xn (nI (ns + 1)) (nI vv) (nI bb1)))] : va_W) ++ (sT L1 F1)) H := hP
                          replace hD : va_D A (([(ee, .inr (15, [.int 5, .int tx, .int 0, .int nm0, .int 0, .int 0, .long 0, .int 0, .null, .ref la, .ref sa, .int (nI n), .null, .null])), (la, .inl (kE, cp, .inr (.inr (.inr (.inr f))))), (sa, .inl (kI, cp, .inl g)), (mr 8, .inl (kL, 3002, .inr (.inl fn))), (mr 5, .inl (kI, 3002, .inl fk)), (mr 6, .inl (kI, 3002, .inl fa)), (m9, .inr (23, mA mr mv vf xl (nI zs) ff_38 xa_39 (nI T) (nI (pp1 + 1)) xi xt xn (nI (ns + 1)) (nI vv) (nI bb1)))] : va_W) ++ (sT L1 F1)) := hD
                          replace hK : va_K (dC, dI) vwCl [(kI, .int), (kL, .long), (kE, .object RX15)] s := hK
                          clear hz1 hk1 hPc hDc hKc hFc hP1 hD1 hK1
                          obtain rfl : r_41 = 0 := hw
                          refine lv_if_eq (tgt := 101) hx hb dX23_newFields_89 (by decide) (fun _ => ?_) (fun c_42 => absurd (by decide) c_42)
                          refine lv_aload_n hx hb dX23_newFields_101 rfl (lv_at hl 2 rfl) ?_
                          refine lv_bipush (v := 57) hx hb dX23_newFields_102 (by decide) ?_
                          replace hPc := hP.subF (f' := [(m9, .inr (23, mA mr mv vf xl (nI zs) ff_38 xa_39 (nI T) (nI (pp1 + 1)) xi xt xn (nI (ns + 1)) (nI vv) (nI bb1))), (mr 5, .inl (kI, 3002, .inl fk))]) [6, 4] rfl
                          replace hDc := hD.subF (f' := [(m9, .inr (23, mA mr mv vf xl (nI zs) ff_38 xa_39 (nI T) (nI (pp1 + 1)) xi xt xn (nI (ns + 1)) (nI vv) (nI bb1))), (mr 5, .inl (kI, 3002, .inl fk))]) [6, 4] (by decide) rfl
                          replace hKc := hK.sub (tys' := [(kI, .int)]) [0] rfl
                          replace hFc := va_freeT (wc := [(m9, .inr (23, mA mr mv vf xl (nI zs) ff_38 xa_39 (nI T) (nI (pp1 + 1)) xi xt xn (nI (ns + 1)) (nI vv) (nI bb1))), (mr 5, .inl (kI, 3002, .inl fk))]) hD hS hA [6, 4] rfl
                          refine va_calli (va_runV (As := [.int 57]) (rest := []) ⟨hx, hb, hml, hown, hts⟩ (c_rtsB l dC dI m9 mr mv vf xl xa_39 xi xt xn zs T (pp1 + 1) (ns + 1) vv bb1 kI fk fa ff_38 57 H.size hf40_0) (cwV 1 hts g_c_xnf_c_rtsB_104 rfl rfl rfl (by decide +kernel) ⟨by show 1 + 1 ≤ 3 + 12 * k; omega, by show 8 + (2 + 11) + (20) ≤ 63 + 279 * k; omega⟩) ⟨fun a U g mk q => by obtain ⟨q0, q1, qP, qK, qD⟩ := q; exact ⟨q0, q1, qP, va_K.moved (u := U) (U := U.calling g mk a) (Vm.Alike.refl U.vm) qK, qD⟩, va_recv hKc hPc (ci := 23) (q0 := 0) rfl rfl, fun U hU hW => ⟨rfl, by rw [hU], by rw [hU]; exact hPc, va_K.moved hW.alike hKc, hDc.weaken (fun _ _ _ _ => trivial)⟩⟩ rfl rfl hl.1 rfl (lv_room (Nat.le_of_ble_eq_true rfl)) dX23_newFields_104 ⟨(show (8 * (pp1 - pp) - 3 * n - 8 * cm) + 0 ≤ (8 * (T - pp) + 3) by omega), (show (120 * (pp1 - pp) + 4 * cp + 8 - 64 * n - 120 * cm) + 0 ≤ (120 * (T - pp) + 280) by omega)⟩) hS (fun q _ h => hFc q h) hFc (fun r_43 u tS H1 locs ht hvm hw hB hz1 hk1 hS => ?_)
                          obtain ⟨hP1, hK1, hD1⟩ := hB
                          rw [ht] at hP1
                          replace hK1 := va_K.moved hvm.symm hK1
                          obtain ⟨hPj, hDj⟩ := va_joinT (wr := [(ee, .inr (15, [.int 5, .int tx, .int 0, .int nm0, .int 0, .int 0, .long 0, .int 0, .null, .ref la, .ref sa, .int (nI n), .null, .null])), (la, .inl (kE, cp, .inr (.inr (.inr (.inr f))))), (sa, .inl (kI, cp, .inl g)), (mr 8, .inl (kL, 3002, .inr (.inl fn))), (mr 6, .inl (kI, 3002, .inl fa))]) (w1 := [(m9, .inr (23, mA mr mv vf xl (nI zs) ff_38 xa_39 (nI T) (nI (pp1 + 1)) xi xt xn (nI (ns + 1)) (nI vv) (nI bb1))), (mr 5, .inl (kI, 3002, .inl fk))]) hP hD [6, 4] [0, 1, 2, 3, 5] rfl rfl (by decide) (by decide) hk1 hFc hP1 hD1
                          replace hP := hPj
                          replace hD := hDj
                          clear hPj hDj
                          replace hK := hK.app hK1
                          generalize H1 = H at hP hS ⊢
                          replace hP : va_P (dC, dI) vwCl (([(ee, .inr (15, [.int 5, .int tx, .int 0, .int nm0, .int 0, .int 0, .long 0, .int 0, .null, .ref la, .ref sa, .int (nI n), .null, .null])), (la, .inl (kE, cp, .inr (.inr (.inr (.inr f))))), (sa, .inl (kI, cp, .inl g)), (mr 8, .inl (kL, 3002, .inr (.inl fn))), (mr 6, .inl (kI, 3002, .inl fa)), (m9, .inr (23, mA mr mv vf xl (nI zs) ff_38 xa_39 (nI T) (nI (pp1 + 1)) xi xt xn (nI (ns + 1)) (nI vv) (nI bb1))), (mr 5, .inl (kI, 3002, .inl fk))] : va_W) ++ (sT L1 F1)) H := hP
                          replace hD : va_D A (([(ee, .inr (15, [.int 5, .int tx, .int 0, .int nm0, .int 0, .int 0, .long 0, .int 0, .null, .ref la, .ref sa, .int (nI n), .null, .null])), (la, .inl (kE, cp, .inr (.inr (.inr (.inr f))))), (sa, .inl (kI, cp, .inl g)), (mr 8, .inl (kL, 3002, .inr (.inl fn))), (mr 6, .inl (kI, 3002, .inl fa)), (m9, .inr (23, mA mr mv vf xl (nI zs) ff_38 xa_39 (nI T) (nI (pp1 + 1)) xi xt xn (nI (ns + 1)) (nI vv) (nI bb1))), (mr 5, .inl (kI, 3002, .inl fk))] : va_W) ++ (sT L1 F1)) := hD
                          replace hK : va_K (dC, dI) vwCl [(kI, .int), (kL, .long), (kE, .object RX15), (kI, .int)] s := hK
                          replace hK := hK.sub (tys' := [(kI, .int), (kL, .long), (kE, .object RX15)]) [0, 1, 2] rfl
                          clear hz1 hk1 hPc hDc hKc hFc hP1 hD1 hK1
                          obtain rfl : r_43 = 0 := hw
                          refine lv_istore_n (lv' := [(2, .int 0), (3, .int (nI pp1)), (0, .ref m9), (1, .ref ee)]) hx hb dX23_newFields_107 rfl hl (by decide) rfl (fun ls hl => ?_)
                          refine lv_goto (tgt := 63) hx hb dX23_newFields_108 (by decide) ?_
                          refine W.widen (k := (8 * ((pp1 + 1) - pp) - 3 * n - 8 * 0)) (n := (120 * ((pp1 + 1) - pp) + 4 * cp + 8 - 64 * n - 120 * 0)) (by omega) (by omega) ?_
                          exact ih1 (pp1 + 1) bb1 la sa cp n 0 ff_38 xa_39 0 L1 F1 f g _ _ _ (⟨by omega, by omega, by omega, by omega, by omega, by omega, by omega, by omega, by omega, by omega, by omega, hT⟩) (Or.inl hf40_0) hr2 hr3 (fun q9 => absurd q9 hf40_0) (hP.subT [0, 1, 2, 5, 6, 4, 3] rfl) (hD.subT [0, 1, 2, 5, 6, 4, 3] (by decide) rfl) hS (lv_sub hl [0, 2, 3] rfl)
                      · replace hPc := hP.subF (f' := [(m9, .inr (23, mA mr mv vf xl (nI zs) 0 xa1 (nI T) (nI pp1) xi xt xn (nI (ns + 1)) (nI vv) (nI bb1))), (mr 5, .inl (kI, 3002, .inl fk)), (mr 6, .inl (kI, 3002, .inl fa))]) [6, 3, 4] rfl
                        replace hDc := hD.subF (f' := [(m9, .inr (23, mA mr mv vf xl (nI zs) 0 xa1 (nI T) (nI pp1) xi xt xn (nI (ns + 1)) (nI vv) (nI bb1))), (mr 5, .inl (kI, 3002, .inl fk)), (mr 6, .inl (kI, 3002, .inl fa))]) [6, 3, 4] (by decide) rfl
                        replace hKc := hK.sub (tys' := [(kI, .int)]) [0] rfl
                        replace hFc := va_freeT (wc := [(m9, .inr (23, mA mr mv vf xl (nI zs) 0 xa1 (nI T) (nI pp1) xi xt xn (nI (ns + 1)) (nI vv) (nI bb1))), (mr 5, .inl (kI, 3002, .inl fk)), (mr 6, .inl (kI, 3002, .inl fa))]) hD hS hA [6, 3, 4] rfl
                        refine va_calli (va_runV (As := []) (rest := []) ⟨hx, hb, hml, hown, hts⟩ (c_rnmN l dC dI m9 mr mv vf xl xa1 xi xt xn zs T pp1 (ns + 1) vv bb1 kI fk fa H.size hT hr0.2.2.1 hk0 hk_34) (cwV 0 hts g_c_xnf_c_rnmN_75 rfl rfl rfl (by decide +kernel) ⟨by show 2 + 1 ≤ 3 + 12 * k; omega, by show 8 + (1 + 11) + (43) ≤ 63 + 279 * k; omega⟩) ⟨fun a U g mk q => by obtain ⟨q0, q1, qP, qK, qD⟩ := q; exact ⟨q0, q1, qP, va_K.moved (u := U) (U := U.calling g mk a) (Vm.Alike.refl U.vm) qK, qD⟩, va_recv hKc hPc (ci := 23) (q0 := 0) rfl rfl, fun U hU hW => ⟨rfl, by rw [hU], by rw [hU]; exact hPc, va_K.moved hW.alike hKc, hDc.weaken (fun _ _ _ _ => trivial)⟩⟩ rfl rfl hl.1 rfl (lv_room (Nat.le_of_ble_eq_true rfl)) dX23_newFields_75 ⟨(show (8 * (pp1 - pp) - 3 * n - 8 * cm) + 0 ≤ (8 * (T - pp) + 3) by omega), (show (120 * (pp1 - pp) + 4 * cp + 8 - 64 * n - 120 * cm) + 0 ≤ (120 * (T - pp) + 280) by omega)⟩) hS (fun q _ h => hFc q h) hFc (fun r_37 u tS H1 locs ht hvm hw hB hz1 hk1 hS => ?_)
                        obtain ⟨ff_35, xa_36, hf37_0, hP1, hK1, hD1⟩ := hB
                        rw [ht] at hP1
                        replace hK1 := va_K.moved hvm.symm hK1
                        obtain ⟨hPj, hDj⟩ := va_joinT (wr := [(ee, .inr (15, [.int 5, .int tx, .int 0, .int nm0, .int 0, .int 0, .long 0, .int 0, .null, .ref la, .ref sa, .int (nI n), .null, .null])), (la, .inl (kE, cp, .inr (.inr (.inr (.inr f))))), (sa, .inl (kI, cp, .inl g)), (mr 8, .inl (kL, 3002, .inr (.inl fn)))]) (w1 := [(m9, .inr (23, mA mr mv vf xl (nI zs) ff_35 xa_36 (nI T) (nI pp1) xi xt xn (nI (ns + 1)) (nI vv) (nI bb1))), (mr 5, .inl (kI, 3002, .inl fk)), (mr 6, .inl (kI, 3002, .inl fa))]) hP hD [6, 3, 4] [0, 1, 2, 5] rfl rfl (by decide) (by decide) hk1 hFc hP1 hD1
                        replace hP := hPj
                        replace hD := hDj
                        clear hPj hDj
                        replace hK := hK.app hK1
                        generalize H1 = H at hP hS ⊢
                        replace hP : va_P (dC, dI) vwCl (([(ee, .inr (15, [.int 5, .int tx, .int 0, .int nm0, .int 0, .int 0, .long 0, .int 0, .null, .ref la, .ref sa, .int (nI n), .null, .null])), (la, .inl (kE, cp, .inr (.inr (.inr (.inr f))))), (sa, .inl (kI, cp, .inl g)), (mr 8, .inl (kL, 3002, .inr (.inl fn))), (m9, .inr (23, mA mr mv vf xl (nI zs) ff_35 xa_36 (nI T) (nI pp1) xi xt xn (nI (ns + 1)) (nI vv) (nI bb1))), (mr 5, .inl (kI, 3002, .inl fk)), (mr 6, .inl (kI, 3002, .inl fa))] : va_W) ++ (sT L1 F1)) H := hP
                        replace hD : va_D A (([(ee, .inr (15, [.int 5, .int tx, .int 0, .int nm0, .int 0, .int 0, .long 0, .int 0, .null, .ref la, .ref sa, .int (nI n), .null, .null])), (la, .inl (kE, cp, .inr (.inr (.inr (.inr f))))), (sa, .inl (kI, cp, .inl g)), (mr 8, .inl (kL, 3002, .inr (.inl fn))), (m9, .inr (23, mA mr mv vf xl (nI zs) ff_35 xa_36 (nI T) (nI pp1) xi xt xn (nI (ns + 1)) (nI vv) (nI bb1))), (mr 5, .inl (kI, 3002, .inl fk)), (mr 6, .inl (kI, 3002, .inl fa))] : va_W) ++ (sT L1 F1)) := hD
                        replace hK : va_K (dC, dI) vwCl [(kI, .int), (kL, .long), (kE, .object RX15), (kI, .int)] s := hK
                        replace hK := hK.sub (tys' := [(kI, .int), (kL, .long), (kE, .object RX15)]) [0, 1, 2] rfl
                        clear hz1 hk1 hPc hDc hKc hFc hP1 hD1 hK1
                        refine lv_istore_n (lv' := [(3, .int r_37), (2, .int mo), (0, .ref m9), (1, .ref ee)]) hx hb dX23_newFields_78 rfl hl (by decide) rfl (fun ls hl => ?_)
                        refine lv_aload_n hx hb dX23_newFields_79 rfl (lv_at hl 2 rfl) ?_
                        refine lv_bipush (v := 58) hx hb dX23_newFields_80 (by decide) ?_
                        replace hPc := hP.subF (f' := [(m9, .inr (23, mA mr mv vf xl (nI zs) ff_35 xa_36 (nI T) (nI pp1) xi xt xn (nI (ns + 1)) (nI vv) (nI bb1))), (mr 5, .inl (kI, 3002, .inl fk)), (mr 6, .inl (kI, 3002, .inl fa))]) [4, 5, 6] rfl
                        replace hDc := hD.subF (f' := [(m9, .inr (23, mA mr mv vf xl (nI zs) ff_35 xa_36 (nI T) (nI pp1) xi xt xn (nI (ns + 1)) (nI vv) (nI bb1))), (mr 5, .inl (kI, 3002, .inl fk)), (mr 6, .inl (kI, 3002, .inl fa))]) [4, 5, 6] (by decide) rfl
                        replace hKc := hK.sub (tys' := [(kI, .int)]) [0] rfl
                        replace hFc := va_freeT (wc := [(m9, .inr (23, mA mr mv vf xl (nI zs) ff_35 xa_36 (nI T) (nI pp1) xi xt xn (nI (ns + 1)) (nI vv) (nI bb1))), (mr 5, .inl (kI, 3002, .inl fk)), (mr 6, .inl (kI, 3002, .inl fa))]) hD hS hA [4, 5, 6] rfl
                        refine va_callv (va_runV (As := [.int 58]) (rest := []) ⟨hx, hb, hml, hown, hts⟩ (c_rtkB l dC dI m9 mr mv vf xl xa_36 xi xt xn zs T pp1 (ns + 1) vv bb1 kI fk fa ff_35 58 H.size hf37_0) (cwV 1 hts g_c_xnf_c_rtkB_82 rfl rfl rfl (by decide +kernel) ⟨by show 1 + 1 ≤ 3 + 12 * k; omega, by show 8 + (2 + 11) + (20) ≤ 63 + 279 * k; omega⟩) ⟨fun a U g mk q => by obtain ⟨q0, q1, qP, qK, qD⟩ := q; exact ⟨q0, q1, qP, va_K.moved (u := U) (U := U.calling g mk a) (Vm.Alike.refl U.vm) qK, qD⟩, va_recv hKc hPc (ci := 23) (q0 := 0) rfl rfl, fun U hU hW => ⟨rfl, by rw [hU], by rw [hU]; exact hPc, va_K.moved hW.alike hKc, hDc.weaken (fun _ _ _ _ => trivial)⟩⟩ rfl rfl hl.1 rfl (lv_room (Nat.le_of_ble_eq_true rfl)) dX23_newFields_82 ⟨(show (8 * (pp1 - pp) - 3 * n - 8 * cm) + 0 ≤ (8 * (T - pp) + 3) by omega), (show (120 * (pp1 - pp) + 4 * cp + 8 - 64 * n - 120 * cm) + 0 ≤ (120 * (T - pp) + 280) by omega)⟩) hS (fun q _ h => hFc q h) hFc (fun u tS H1 locs ht hvm hw hB hz1 hk1 hS => ?_)
                        obtain ⟨hP1, hK1, hD1⟩ := hB
                        rw [ht] at hP1
                        replace hK1 := va_K.moved hvm.symm hK1
                        obtain ⟨hPj, hDj⟩ := va_joinT (wr := [(ee, .inr (15, [.int 5, .int tx, .int 0, .int nm0, .int 0, .int 0, .long 0, .int 0, .null, .ref la, .ref sa, .int (nI n), .null, .null])), (la, .inl (kE, cp, .inr (.inr (.inr (.inr f))))), (sa, .inl (kI, cp, .inl g)), (mr 8, .inl (kL, 3002, .inr (.inl fn)))]) (w1 := [(m9, .inr (23, mA mr mv vf xl (nI zs) ff_35 xa_36 (nI T) (nI pp1) xi xt xn (nI (ns + 1)) (nI vv) (nI bb1))), (mr 5, .inl (kI, 3002, .inl fk)), (mr 6, .inl (kI, 3002, .inl fa))]) hP hD [4, 5, 6] [0, 1, 2, 3] rfl rfl (by decide) (by decide) hk1 hFc hP1 hD1
                        replace hP := hPj
                        replace hD := hDj
                        clear hPj hDj
                        replace hK := hK.app hK1
                        generalize H1 = H at hP hS ⊢
                        replace hP : va_P (dC, dI) vwCl (([(ee, .inr (15, [.int 5, .int tx, .int 0, .int nm0, .int 0, .int 0, .long 0, .int 0, .null, .ref la, .ref sa, .int (nI n), .null, .null])), (la, .inl (kE, cp, .inr (.inr (.inr (.inr f))))), (sa, .inl (kI, cp, .inl g)), (mr 8, .inl (kL, 3002, .inr (.inl fn))), (m9, .inr (23, mA mr mv vf xl (nI zs) ff_35 xa_36 (nI T) (nI pp1) xi xt xn (nI (ns + 1)) (nI vv) (nI bb1))), (mr 5, .inl (kI, 3002, .inl fk)), (mr 6, .inl (kI, 3002, .inl fa))] : va_W) ++ (sT L1 F1)) H := hP
                        replace hD : va_D A (([(ee, .inr (15, [.int 5, .int tx, .int 0, .int nm0, .int 0, .int 0, .long 0, .int 0, .null, .ref la, .ref sa, .int (nI n), .null, .null])), (la, .inl (kE, cp, .inr (.inr (.inr (.inr f))))), (sa, .inl (kI, cp, .inl g)), (mr 8, .inl (kL, 3002, .inr (.inl fn))), (m9, .inr (23, mA mr mv vf xl (nI zs) ff_35 xa_36 (nI T) (nI pp1) xi xt xn (nI (ns + 1)) (nI vv) (nI bb1))), (mr 5, .inl (kI, 3002, .inl fk)), (mr 6, .inl (kI, 3002, .inl fa))] : va_W) ++ (sT L1 F1)) := hD
                        replace hK : va_K (dC, dI) vwCl [(kI, .int), (kL, .long), (kE, .object RX15), (kI, .int)] s := hK
                        replace hK := hK.sub (tys' := [(kI, .int), (kL, .long), (kE, .object RX15)]) [0, 1, 2] rfl
                        clear hz1 hk1 hPc hDc hKc hFc hP1 hD1 hK1
                        refine lv_aload_n hx hb dX23_newFields_85 rfl (lv_at hl 2 rfl) ?_
                        replace hPc := hP.subF (f' := [(m9, .inr (23, mA mr mv vf xl (nI zs) ff_35 xa_36 (nI T) (nI pp1) xi xt xn (nI (ns + 1)) (nI vv) (nI bb1)))]) [4] rfl
                        replace hDc := hD.subF (f' := [(m9, .inr (23, mA mr mv vf xl (nI zs) ff_35 xa_36 (nI T) (nI pp1) xi xt xn (nI (ns + 1)) (nI vv) (nI bb1)))]) [4] (by decide) rfl
                        replace hKc := hK.sub (tys' := []) [] rfl
                        replace hFc := va_freeT (wc := [(m9, .inr (23, mA mr mv vf xl (nI zs) ff_35 xa_36 (nI T) (nI pp1) xi xt xn (nI (ns + 1)) (nI vv) (nI bb1)))]) hD hS hA [4] rfl
                        refine va_calli (va_runV (As := []) (rest := []) ⟨hx, hb, hml, hown, hts⟩ (c_rokB l dC dI m9 mr mv vf xl xa_36 xi xt xn zs T pp1 (ns + 1) vv bb1 kI fk fa ff_35 H.size hf37_0) (cwV 0 hts g_c_xnf_c_rokB_86 rfl rfl rfl (by decide +kernel) ⟨by show 0 + 1 ≤ 3 + 12 * k; omega, by show 8 + (1 + 11) + (0) ≤ 63 + 279 * k; omega⟩) ⟨fun a U g mk q => by obtain ⟨q0, q1, qP, qK, qD⟩ := q; exact ⟨q0, q1, qP, va_K.moved (u := U) (U := U.calling g mk a) (Vm.Alike.refl U.vm) qK, qD⟩, va_recv hKc hPc (ci := 23) (q0 := 0) rfl rfl, fun U hU hW => ⟨rfl, by rw [hU], by rw [hU]; exact hPc, va_K.moved hW.alike hKc, hDc.weaken (fun _ _ _ _ => trivial)⟩⟩ rfl rfl hl.1 rfl (lv_room (Nat.le_of_ble_eq_true rfl)) dX23_newFields_86 ⟨(show (8 * (pp1 - pp) - 3 * n - 8 * cm) + 0 ≤ (8 * (T - pp) + 3) by omega), (show (120 * (pp1 - pp) + 4 * cp + 8 - 64 * n - 120 * cm) + 0 ≤ (120 * (T - pp) + 280) by omega)⟩) hS (fun q _ h => hFc q h) hFc (fun r_39 u tS H1 locs ht hvm hw hB hz1 hk1 hS => ?_)
                        obtain ⟨hP1, hK1, hD1⟩ := hB
                        rw [ht] at hP1
                        replace hK1 := va_K.moved hvm.symm hK1
                        obtain ⟨hPj, hDj⟩ := va_joinT (wr := [(ee, .inr (15, [.int 5, .int tx, .int 0, .int nm0, .int 0, .int 0, .long 0, .int 0, .null, .ref la, .ref sa, .int (nI n), .null, .null])), (la, .inl (kE, cp, .inr (.inr (.inr (.inr f))))), (sa, .inl (kI, cp, .inl g)), (mr 8, .inl (kL, 3002, .inr (.inl fn))), (mr 5, .inl (kI, 3002, .inl fk)), (mr 6, .inl (kI, 3002, .inl fa))]) (w1 := [(m9, .inr (23, mA mr mv vf xl (nI zs) ff_35 xa_36 (nI T) (nI pp1) xi xt xn (nI (ns + 1)) (nI vv) (nI bb1)))]) hP hD [4] [0, 1, 2, 3, 5, 6] rfl rfl (by decide) (by decide) hk1 hFc hP1 hD1
                        replace hP := hPj
                        replace hD := hDj
                        clear hPj hDj
                        generalize H1 = H at hP hS ⊢
                        replace hP : va_P (dC, dI) vwCl (([(ee, .inr (15, [.int 5, .int tx, .int 0, .int nm0, .int 0, .int 0, .long 0, .int 0, .null, .ref la, .ref sa, .int (nI n), .null, .null])), (la, .inl (kE, cp, .inr (.inr (.inr (.inr f))))), (sa, .inl (kI, cp, .inl g)), (mr 8, .inl (kL, 3002, .inr (.inl fn))), (mr 5, .inl (kI, 3002, .inl fk)), (mr 6, .inl (kI, 3002, .inl fa)), (m9, .inr (23, mA mr mv vf xl (nI zs) ff_35 xa_36 (nI T) (nI pp1) xi xt xn (nI (ns + 1)) (nI vv) (nI bb1)))] : va_W) ++ (sT L1 F1)) H := hP
                        replace hD : va_D A (([(ee, .inr (15, [.int 5, .int tx, .int 0, .int nm0, .int 0, .int 0, .long 0, .int 0, .null, .ref la, .ref sa, .int (nI n), .null, .null])), (la, .inl (kE, cp, .inr (.inr (.inr (.inr f))))), (sa, .inl (kI, cp, .inl g)), (mr 8, .inl (kL, 3002, .inr (.inl fn))), (mr 5, .inl (kI, 3002, .inl fk)), (mr 6, .inl (kI, 3002, .inl fa)), (m9, .inr (23, mA mr mv vf xl (nI zs) ff_35 xa_36 (nI T) (nI pp1) xi xt xn (nI (ns + 1)) (nI vv) (nI bb1)))] : va_W) ++ (sT L1 F1)) := hD
                        replace hK : va_K (dC, dI) vwCl [(kI, .int), (kL, .long), (kE, .object RX15)] s := hK
                        clear hz1 hk1 hPc hDc hKc hFc hP1 hD1 hK1
                        obtain rfl : r_39 = 0 := hw
                        refine lv_if_eq (tgt := 101) hx hb dX23_newFields_89 (by decide) (fun _ => ?_) (fun c_40 => absurd (by decide) c_40)
                        refine lv_aload_n hx hb dX23_newFields_101 rfl (lv_at hl 2 rfl) ?_
                        refine lv_bipush (v := 57) hx hb dX23_newFields_102 (by decide) ?_
                        replace hPc := hP.subF (f' := [(m9, .inr (23, mA mr mv vf xl (nI zs) ff_35 xa_36 (nI T) (nI pp1) xi xt xn (nI (ns + 1)) (nI vv) (nI bb1))), (mr 5, .inl (kI, 3002, .inl fk))]) [6, 4] rfl
                        replace hDc := hD.subF (f' := [(m9, .inr (23, mA mr mv vf xl (nI zs) ff_35 xa_36 (nI T) (nI pp1) xi xt xn (nI (ns + 1)) (nI vv) (nI bb1))), (mr 5, .inl (kI, 3002, .inl fk))]) [6, 4] (by decide) rfl
                        replace hKc := hK.sub (tys' := [(kI, .int)]) [0] rfl
                        replace hFc := va_freeT (wc := [(m9, .inr (23, mA mr mv vf xl (nI zs) ff_35 xa_36 (nI T) (nI pp1) xi xt xn (nI (ns + 1)) (nI vv) (nI bb1))), (mr 5, .inl (kI, 3002, .inl fk))]) hD hS hA [6, 4] rfl
                        refine va_calli (va_runV (As := [.int 57]) (rest := []) ⟨hx, hb, hml, hown, hts⟩ (c_rtsB l dC dI m9 mr mv vf xl xa_36 xi xt xn zs T pp1 (ns + 1) vv bb1 kI fk fa ff_35 57 H.size hf37_0) (cwV 1 hts g_c_xnf_c_rtsB_104 rfl rfl rfl (by decide +kernel) ⟨by show 1 + 1 ≤ 3 + 12 * k; omega, by show 8 + (2 + 11) + (20) ≤ 63 + 279 * k; omega⟩) ⟨fun a U g mk q => by obtain ⟨q0, q1, qP, qK, qD⟩ := q; exact ⟨q0, q1, qP, va_K.moved (u := U) (U := U.calling g mk a) (Vm.Alike.refl U.vm) qK, qD⟩, va_recv hKc hPc (ci := 23) (q0 := 0) rfl rfl, fun U hU hW => ⟨rfl, by rw [hU], by rw [hU]; exact hPc, va_K.moved hW.alike hKc, hDc.weaken (fun _ _ _ _ => trivial)⟩⟩ rfl rfl hl.1 rfl (lv_room (Nat.le_of_ble_eq_true rfl)) dX23_newFields_104 ⟨(show (8 * (pp1 - pp) - 3 * n - 8 * cm) + 0 ≤ (8 * (T - pp) + 3) by omega), (show (120 * (pp1 - pp) + 4 * cp + 8 - 64 * n - 120 * cm) + 0 ≤ (120 * (T - pp) + 280) by omega)⟩) hS (fun q _ h => hFc q h) hFc (fun r_41 u tS H1 locs ht hvm hw hB hz1 hk1 hS => ?_)
                        obtain ⟨hP1, hK1, hD1⟩ := hB
                        rw [ht] at hP1
                        replace hK1 := va_K.moved hvm.symm hK1
                        obtain ⟨hPj, hDj⟩ := va_joinT (wr := [(ee, .inr (15, [.int 5, .int tx, .int 0, .int nm0, .int 0, .int 0, .long 0, .int 0, .null, .ref la, .ref sa, .int (nI n), .null, .null])), (la, .inl (kE, cp, .inr (.inr (.inr (.inr f))))), (sa, .inl (kI, cp, .inl g)), (mr 8, .inl (kL, 3002, .inr (.inl fn))), (mr 6, .inl (kI, 3002, .inl fa))]) (w1 := [(m9, .inr (23, mA mr mv vf xl (nI zs) ff_35 xa_36 (nI T) (nI pp1) xi xt xn (nI (ns + 1)) (nI vv) (nI bb1))), (mr 5, .inl (kI, 3002, .inl fk))]) hP hD [6, 4] [0, 1, 2, 3, 5] rfl rfl (by decide) (by decide) hk1 hFc hP1 hD1
                        replace hP := hPj
                        replace hD := hDj
                        clear hPj hDj
                        replace hK := hK.app hK1
                        generalize H1 = H at hP hS ⊢
                        replace hP : va_P (dC, dI) vwCl (([(ee, .inr (15, [.int 5, .int tx, .int 0, .int nm0, .int 0, .int 0, .long 0, .int 0, .null, .ref la, .ref sa, .int (nI n), .null, .null])), (la, .inl (kE, cp, .inr (.inr (.inr (.inr f))))), (sa, .inl (kI, cp, .inl g)), (mr 8, .inl (kL, 3002, .inr (.inl fn))), (mr 6, .inl (kI, 3002, .inl fa)), (m9, .inr (23, mA mr mv vf xl (nI zs) ff_35 xa_36 (nI T) (nI pp1) xi xt xn (nI (ns + 1)) (nI vv) (nI bb1))), (mr 5, .inl (kI, 3002, .inl fk))] : va_W) ++ (sT L1 F1)) H := hP
                        replace hD : va_D A (([(ee, .inr (15, [.int 5, .int tx, .int 0, .int nm0, .int 0, .int 0, .long 0, .int 0, .null, .ref la, .ref sa, .int (nI n), .null, .null])), (la, .inl (kE, cp, .inr (.inr (.inr (.inr f))))), (sa, .inl (kI, cp, .inl g)), (mr 8, .inl (kL, 3002, .inr (.inl fn))), (mr 6, .inl (kI, 3002, .inl fa)), (m9, .inr (23, mA mr mv vf xl (nI zs) ff_35 xa_36 (nI T) (nI pp1) xi xt xn (nI (ns + 1)) (nI vv) (nI bb1))), (mr 5, .inl (kI, 3002, .inl fk))] : va_W) ++ (sT L1 F1)) := hD
                        replace hK : va_K (dC, dI) vwCl [(kI, .int), (kL, .long), (kE, .object RX15), (kI, .int)] s := hK
                        replace hK := hK.sub (tys' := [(kI, .int), (kL, .long), (kE, .object RX15)]) [0, 1, 2] rfl
                        clear hz1 hk1 hPc hDc hKc hFc hP1 hD1 hK1
                        obtain rfl : r_41 = 0 := hw
                        refine lv_istore_n (lv' := [(2, .int 0), (3, .int r_37), (0, .ref m9), (1, .ref ee)]) hx hb dX23_newFields_107 rfl hl (by decide) rfl (fun ls hl => ?_)
                        refine lv_goto (tgt := 63) hx hb dX23_newFields_108 (by decide) ?_
                        refine W.widen (k := (8 * (pp1 - pp) - 3 * n - 8 * 0)) (n := (120 * (pp1 - pp) + 4 * cp + 8 - 64 * n - 120 * 0)) (by omega) (by omega) ?_
                        exact ih1 pp1 bb1 la sa cp n 0 ff_35 xa_36 0 L1 F1 f g _ _ _ (⟨by omega, by omega, by omega, by omega, by omega, by omega, by omega, by omega, by omega, by omega, by omega, hT⟩) (Or.inl hf37_0) hr2 hr3 (fun q9 => absurd q9 hf37_0) (hP.subT [0, 1, 2, 5, 6, 4, 3] rfl) (hD.subT [0, 1, 2, 5, 6, 4, 3] (by decide) rfl) hS (lv_sub hl [0, 2, 3] rfl)
                  · replace hPc := hP.subF (f' := [(m9, .inr (23, mA mr mv vf xl (nI zs) ff1 xa1 (nI T) (nI pp1) xi xt xn (nI (ns + 1)) (nI vv) (nI bb1)))]) [3] rfl
                    replace hDc := hD.subF (f' := [(m9, .inr (23, mA mr mv vf xl (nI zs) ff1 xa1 (nI T) (nI pp1) xi xt xn (nI (ns + 1)) (nI vv) (nI bb1)))]) [3] (by decide) rfl
                    replace hKc := hK.sub (tys' := []) [] rfl
                    replace hFc := va_freeT (wc := [(m9, .inr (23, mA mr mv vf xl (nI zs) ff1 xa1 (nI T) (nI pp1) xi xt xn (nI (ns + 1)) (nI vv) (nI bb1)))]) hD hS hA [3] rfl
                    refine va_calli (va_runV (As := []) (rest := []) ⟨hx, hb, hml, hown, hts⟩ (c_rokB l dC dI m9 mr mv vf xl xa1 xi xt xn zs T pp1 (ns + 1) vv bb1 kI fk fa ff1 H.size hz_30) (cwV 0 hts g_c_xnf_c_rokB_64 rfl rfl rfl (by decide +kernel) ⟨by show 0 + 1 ≤ 3 + 12 * k; omega, by show 8 + (1 + 11) + (0) ≤ 63 + 279 * k; omega⟩) ⟨fun a U g mk q => by obtain ⟨q0, q1, qP, qK, qD⟩ := q; exact ⟨q0, q1, qP, va_K.moved (u := U) (U := U.calling g mk a) (Vm.Alike.refl U.vm) qK, qD⟩, va_recv hKc hPc (ci := 23) (q0 := 0) rfl rfl, fun U hU hW => ⟨rfl, by rw [hU], by rw [hU]; exact hPc, va_K.moved hW.alike hKc, hDc.weaken (fun _ _ _ _ => trivial)⟩⟩ rfl rfl hl.1 rfl (lv_room (Nat.le_of_ble_eq_true rfl)) dX23_newFields_64 ⟨(show (8 * (pp1 - pp) - 3 * n - 8 * cm) + 0 ≤ (8 * (T - pp) + 3) by omega), (show (120 * (pp1 - pp) + 4 * cp + 8 - 64 * n - 120 * cm) + 0 ≤ (120 * (T - pp) + 280) by omega)⟩) hS (fun q _ h => hFc q h) hFc (fun r_31 u tS H1 locs ht hvm hw hB hz1 hk1 hS => ?_)
                    obtain ⟨hP1, hK1, hD1⟩ := hB
                    rw [ht] at hP1
                    replace hK1 := va_K.moved hvm.symm hK1
                    obtain ⟨hPj, hDj⟩ := va_joinT (wr := [(ee, .inr (15, [.int 5, .int tx, .int 0, .int nm0, .int 0, .int 0, .long 0, .int 0, .null, .ref la, .ref sa, .int (nI n), .null, .null])), (la, .inl (kE, cp, .inr (.inr (.inr (.inr f))))), (sa, .inl (kI, cp, .inl g)), (mr 5, .inl (kI, 3002, .inl fk)), (mr 6, .inl (kI, 3002, .inl fa)), (mr 8, .inl (kL, 3002, .inr (.inl fn)))]) (w1 := [(m9, .inr (23, mA mr mv vf xl (nI zs) ff1 xa1 (nI T) (nI pp1) xi xt xn (nI (ns + 1)) (nI vv) (nI bb1)))]) hP hD [3] [0, 1, 2, 4, 5, 6] rfl rfl (by decide) (by decide) hk1 hFc hP1 hD1
                    replace hP := hPj
                    replace hD := hDj
                    clear hPj hDj
                    generalize H1 = H at hP hS ⊢
                    replace hP : va_P (dC, dI) vwCl (([(ee, .inr (15, [.int 5, .int tx, .int 0, .int nm0, .int 0, .int 0, .long 0, .int 0, .null, .ref la, .ref sa, .int (nI n), .null, .null])), (la, .inl (kE, cp, .inr (.inr (.inr (.inr f))))), (sa, .inl (kI, cp, .inl g)), (mr 5, .inl (kI, 3002, .inl fk)), (mr 6, .inl (kI, 3002, .inl fa)), (mr 8, .inl (kL, 3002, .inr (.inl fn))), (m9, .inr (23, mA mr mv vf xl (nI zs) ff1 xa1 (nI T) (nI pp1) xi xt xn (nI (ns + 1)) (nI vv) (nI bb1)))] : va_W) ++ (sT L1 F1)) H := hP
                    replace hD : va_D A (([(ee, .inr (15, [.int 5, .int tx, .int 0, .int nm0, .int 0, .int 0, .long 0, .int 0, .null, .ref la, .ref sa, .int (nI n), .null, .null])), (la, .inl (kE, cp, .inr (.inr (.inr (.inr f))))), (sa, .inl (kI, cp, .inl g)), (mr 5, .inl (kI, 3002, .inl fk)), (mr 6, .inl (kI, 3002, .inl fa)), (mr 8, .inl (kL, 3002, .inr (.inl fn))), (m9, .inr (23, mA mr mv vf xl (nI zs) ff1 xa1 (nI T) (nI pp1) xi xt xn (nI (ns + 1)) (nI vv) (nI bb1)))] : va_W) ++ (sT L1 F1)) := hD
                    replace hK : va_K (dC, dI) vwCl [(kI, .int), (kL, .long), (kE, .object RX15)] s := hK
                    clear hz1 hk1 hPc hDc hKc hFc hP1 hD1 hK1
                    obtain rfl : r_31 = 0 := hw
                    refine lv_if_eq (tgt := 111) hx hb dX23_newFields_67 (by decide) (fun _ => ?_) (fun c_32 => absurd (by decide) c_32)
                    refine lv_aload_n hx hb dX23_newFields_111 rfl (lv_at hl 1 rfl) ?_
                    refine lv_dup hx hb dX23_newFields_112 rfl ?_
                    refine va_get (D := (dC, dI)) (ci := 23) (v := .int (nI (ns + 1))) (C := RX23) (T := TX23) (N := 89) hx hb hts in_c_xnf_X23 hown hK hP 6 rfl rfl 15 (by decide) (hts (.fieldLink RX23 104 "OwnedPlacesModel" "nest" "I") (wm_c_xnf 29 rfl)) (fun _ h9 => h9) rfl dX23_newFields_113 ?_
                    refine lv_iconst (v := 1) hx hb dX23_newFields_116 (by decide) ?_
                    refine lv_isub hx hb dX23_newFields_117 ?_
                    refine lv_topi (fun f_33 ef_33 => ?_)
                    obtain rfl : f_33 = nI ns := ef_33.trans (nI_pred _)
                    refine va_put (D := (dC, dI)) (ci := 23) (v := .int (nI ns)) (ty := .int) (C := RX23) (T := TX23) (N := 89) hx hb hts in_c_xnf_X23 tyX23 tyX23_ok nmX23 hown hK hP hD hS 6 rfl rfl 15 (by decide) (hts (.fieldLink RX23 104 "OwnedPlacesModel" "nest" "I") (wm_c_xnf 29 rfl)) (fun _ h9 => h9) rfl (by decide +kernel) rfl rfl (Nat.le_of_ble_eq_true rfl) dX23_newFields_118 (fun H locs hP hD hS => ?_)
                    replace hP : va_P (dC, dI) vwCl (([(ee, .inr (15, [.int 5, .int tx, .int 0, .int nm0, .int 0, .int 0, .long 0, .int 0, .null, .ref la, .ref sa, .int (nI n), .null, .null])), (la, .inl (kE, cp, .inr (.inr (.inr (.inr f))))), (sa, .inl (kI, cp, .inl g)), (mr 5, .inl (kI, 3002, .inl fk)), (mr 6, .inl (kI, 3002, .inl fa)), (mr 8, .inl (kL, 3002, .inr (.inl fn))), (m9, .inr (23, mA mr mv vf xl (nI zs) ff1 xa1 (nI T) (nI pp1) xi xt xn (nI ns) (nI vv) (nI bb1)))] : va_W) ++ (sT L1 F1)) H := hP
                    replace hD : va_D A (([(ee, .inr (15, [.int 5, .int tx, .int 0, .int nm0, .int 0, .int 0, .long 0, .int 0, .null, .ref la, .ref sa, .int (nI n), .null, .null])), (la, .inl (kE, cp, .inr (.inr (.inr (.inr f))))), (sa, .inl (kI, cp, .inl g)), (mr 5, .inl (kI, 3002, .inl fk)), (mr 6, .inl (kI, 3002, .inl fa)), (mr 8, .inl (kL, 3002, .inr (.inl fn))), (m9, .inr (23, mA mr mv vf xl (nI zs) ff1 xa1 (nI T) (nI pp1) xi xt xn (nI ns) (nI vv) (nI bb1)))] : va_W) ++ (sT L1 F1)) := hD
                    refine lv_aload_n hx hb dX23_newFields_121 rfl (lv_at hl 1 rfl) ?_
                    refine lv_bipush (v := 64) hx hb dX23_newFields_122 (by decide) ?_
                    replace hPc := hP.subF (f' := [(m9, .inr (23, mA mr mv vf xl (nI zs) ff1 xa1 (nI T) (nI pp1) xi xt xn (nI ns) (nI vv) (nI bb1))), (mr 5, .inl (kI, 3002, .inl fk)), (mr 6, .inl (kI, 3002, .inl fa))]) [6, 3, 4] rfl
                    replace hDc := hD.subF (f' := [(m9, .inr (23, mA mr mv vf xl (nI zs) ff1 xa1 (nI T) (nI pp1) xi xt xn (nI ns) (nI vv) (nI bb1))), (mr 5, .inl (kI, 3002, .inl fk)), (mr 6, .inl (kI, 3002, .inl fa))]) [6, 3, 4] (by decide) rfl
                    replace hKc := hK.sub (tys' := [(kI, .int)]) [0] rfl
                    replace hFc := va_freeT (wc := [(m9, .inr (23, mA mr mv vf xl (nI zs) ff1 xa1 (nI T) (nI pp1) xi xt xn (nI ns) (nI vv) (nI bb1))), (mr 5, .inl (kI, 3002, .inl fk)), (mr 6, .inl (kI, 3002, .inl fa))]) hD hS hA [6, 3, 4] rfl
                    refine va_callv (va_runV (As := [.int 64]) (rest := []) ⟨hx, hb, hml, hown, hts⟩ (c_rtkB l dC dI m9 mr mv vf xl xa1 xi xt xn zs T pp1 ns vv bb1 kI fk fa ff1 64 H.size hz_30) (cwV 1 hts g_c_xnf_c_rtkB_124 rfl rfl rfl (by decide +kernel) ⟨by show 1 + 1 ≤ 3 + 12 * k; omega, by show 8 + (2 + 11) + (20) ≤ 63 + 279 * k; omega⟩) ⟨fun a U g mk q => by obtain ⟨q0, q1, qP, qK, qD⟩ := q; exact ⟨q0, q1, qP, va_K.moved (u := U) (U := U.calling g mk a) (Vm.Alike.refl U.vm) qK, qD⟩, va_recv hKc hPc (ci := 23) (q0 := 0) rfl rfl, fun U hU hW => ⟨rfl, by rw [hU], by rw [hU]; exact hPc, va_K.moved hW.alike hKc, hDc.weaken (fun _ _ _ _ => trivial)⟩⟩ rfl rfl hl.1 rfl (lv_room (Nat.le_of_ble_eq_true rfl)) dX23_newFields_124 ⟨(show (8 * (pp1 - pp) - 3 * n - 8 * cm) + 0 ≤ (8 * (T - pp) + 3) by omega), (show (120 * (pp1 - pp) + 4 * cp + 8 - 64 * n - 120 * cm) + 0 ≤ (120 * (T - pp) + 280) by omega)⟩) hS (fun q _ h => hFc q h) hFc (fun u tS H1 locs ht hvm hw hB hz1 hk1 hS => ?_)
                    obtain ⟨hP1, hK1, hD1⟩ := hB
                    rw [ht] at hP1
                    replace hK1 := va_K.moved hvm.symm hK1
                    obtain ⟨hPj, hDj⟩ := va_joinT (wr := [(ee, .inr (15, [.int 5, .int tx, .int 0, .int nm0, .int 0, .int 0, .long 0, .int 0, .null, .ref la, .ref sa, .int (nI n), .null, .null])), (la, .inl (kE, cp, .inr (.inr (.inr (.inr f))))), (sa, .inl (kI, cp, .inl g)), (mr 8, .inl (kL, 3002, .inr (.inl fn)))]) (w1 := [(m9, .inr (23, mA mr mv vf xl (nI zs) ff1 xa1 (nI T) (nI pp1) xi xt xn (nI ns) (nI vv) (nI bb1))), (mr 5, .inl (kI, 3002, .inl fk)), (mr 6, .inl (kI, 3002, .inl fa))]) hP hD [6, 3, 4] [0, 1, 2, 5] rfl rfl (by decide) (by decide) hk1 hFc hP1 hD1
                    replace hP := hPj
                    replace hD := hDj
                    clear hPj hDj
                    replace hK := hK.app hK1
                    generalize H1 = H at hP hS ⊢
                    replace hP : va_P (dC, dI) vwCl (([(ee, .inr (15, [.int 5, .int tx, .int 0, .int nm0, .int 0, .int 0, .long 0, .int 0, .null, .ref la, .ref sa, .int (nI n), .null, .null])), (la, .inl (kE, cp, .inr (.inr (.inr (.inr f))))), (sa, .inl (kI, cp, .inl g)), (mr 8, .inl (kL, 3002, .inr (.inl fn))), (m9, .inr (23, mA mr mv vf xl (nI zs) ff1 xa1 (nI T) (nI pp1) xi xt xn (nI ns) (nI vv) (nI bb1))), (mr 5, .inl (kI, 3002, .inl fk)), (mr 6, .inl (kI, 3002, .inl fa))] : va_W) ++ (sT L1 F1)) H := hP
                    replace hD : va_D A (([(ee, .inr (15, [.int 5, .int tx, .int 0, .int nm0, .int 0, .int 0, .long 0, .int 0, .null, .ref la, .ref sa, .int (nI n), .null, .null])), (la, .inl (kE, cp, .inr (.inr (.inr (.inr f))))), (sa, .inl (kI, cp, .inl g)), (mr 8, .inl (kL, 3002, .inr (.inl fn))), (m9, .inr (23, mA mr mv vf xl (nI zs) ff1 xa1 (nI T) (nI pp1) xi xt xn (nI ns) (nI vv) (nI bb1))), (mr 5, .inl (kI, 3002, .inl fk)), (mr 6, .inl (kI, 3002, .inl fa))] : va_W) ++ (sT L1 F1)) := hD
                    replace hK : va_K (dC, dI) vwCl [(kI, .int), (kL, .long), (kE, .object RX15), (kI, .int)] s := hK
                    replace hK := hK.sub (tys' := [(kI, .int), (kL, .long), (kE, .object RX15)]) [0, 1, 2] rfl
                    clear hz1 hk1 hPc hDc hKc hFc hP1 hD1 hK1
                    replace hP : va_P (dC, dI) vwCl ((([(ee, .inr (15, [.int 5, .int tx, .int 0, .int nm0, .int 0, .int 0, .long 0, .int 0, .null, .ref la, .ref sa, .int (nI n), .null, .null])), (mr 8, .inl (kL, 3002, .inr (.inl fn))), (m9, .inr (23, mA mr mv vf xl (nI zs) ff1 xa1 (nI T) (nI pp1) xi xt xn (nI ns) (nI vv) (nI bb1))), (mr 5, .inl (kI, 3002, .inl fk)), (mr 6, .inl (kI, 3002, .inl fa))] : va_W) ++ ([(la, .inl (kE, cp, .inr (.inr (.inr (.inr f))))), (sa, .inl (kI, cp, .inl g))] : va_W)) ++ sT L1 F1) H := hP.subT (f' := [(ee, .inr (15, [.int 5, .int tx, .int 0, .int nm0, .int 0, .int 0, .long 0, .int 0, .null, .ref la, .ref sa, .int (nI n), .null, .null])), (mr 8, .inl (kL, 3002, .inr (.inl fn))), (m9, .inr (23, mA mr mv vf xl (nI zs) ff1 xa1 (nI T) (nI pp1) xi xt xn (nI ns) (nI vv) (nI bb1))), (mr 5, .inl (kI, 3002, .inl fk)), (mr 6, .inl (kI, 3002, .inl fa)), (la, .inl (kE, cp, .inr (.inr (.inr (.inr f))))), (sa, .inl (kI, cp, .inl g))]) [0, 3, 4, 5, 6, 1, 2] rfl
                    replace hD : va_D A ((([(ee, .inr (15, [.int 5, .int tx, .int 0, .int nm0, .int 0, .int 0, .long 0, .int 0, .null, .ref la, .ref sa, .int (nI n), .null, .null])), (mr 8, .inl (kL, 3002, .inr (.inl fn))), (m9, .inr (23, mA mr mv vf xl (nI zs) ff1 xa1 (nI T) (nI pp1) xi xt xn (nI ns) (nI vv) (nI bb1))), (mr 5, .inl (kI, 3002, .inl fk)), (mr 6, .inl (kI, 3002, .inl fa))] : va_W) ++ ([(la, .inl (kE, cp, .inr (.inr (.inr (.inr f))))), (sa, .inl (kI, cp, .inl g))] : va_W)) ++ sT L1 F1) := hD.subT (f' := [(ee, .inr (15, [.int 5, .int tx, .int 0, .int nm0, .int 0, .int 0, .long 0, .int 0, .null, .ref la, .ref sa, .int (nI n), .null, .null])), (mr 8, .inl (kL, 3002, .inr (.inl fn))), (m9, .inr (23, mA mr mv vf xl (nI zs) ff1 xa1 (nI T) (nI pp1) xi xt xn (nI ns) (nI vv) (nI bb1))), (mr 5, .inl (kI, 3002, .inl fk)), (mr 6, .inl (kI, 3002, .inl fa)), (la, .inl (kE, cp, .inr (.inr (.inr (.inr f))))), (sa, .inl (kI, cp, .inl g))]) [0, 3, 4, 5, 6, 1, 2] (by decide) rfl
                    obtain ⟨L9, F9, hx9, hm9, hP, hD⟩ := st_fileL [(la, .inl (kE, cp, .inr (.inr (.inr (.inr f))))), (sa, .inl (kI, cp, .inl g))] hP hD
                    have hm9_0 := hm9 _ (List.mem_of_getElem? (i := 0) rfl)
                    have hm9_1 := hm9 _ (List.mem_of_getElem? (i := 1) rfl)
                    refine W.grow (fun hgs0 hgs1 => ?_)
                    have hP9 := hP.subT (f' := [(ee, .inr (15, [.int 5, .int tx, .int 0, .int nm0, .int 0, .int 0, .long 0, .int 0, .null, (.ref la), (.ref sa), .int (nI n), .null, .null])), (m9, .inr (23, mA mr mv vf xl (nI zs) ff1 xa1 (nI T) (nI pp1) xi xt xn (nI ns) (nI vv) (nI bb1))), (mr 5, .inl (kI, 3002, .inl fk)), (mr 6, .inl (kI, 3002, .inl fa)), (mr 8, .inl (kL, 3002, .inr (.inl fn)))]) [0, 2, 3, 4, 1] rfl
                    have hD9 := hD.subT (f' := [(ee, .inr (15, [.int 5, .int tx, .int 0, .int nm0, .int 0, .int 0, .long 0, .int 0, .null, (.ref la), (.ref sa), .int (nI n), .null, .null])), (m9, .inr (23, mA mr mv vf xl (nI zs) ff1 xa1 (nI T) (nI pp1) xi xt xn (nI ns) (nI vv) (nI bb1))), (mr 5, .inl (kI, 3002, .inl fk)), (mr 6, .inl (kI, 3002, .inl fa)), (mr 8, .inl (kL, 3002, .inr (.inl fn)))]) [0, 2, 3, 4, 1] (by decide) rfl
                    have hK9 := hK.sub (tys' := [(kI, .int), (kL, .long), (kE, .object RX15)]) [0, 1, 2] rfl
                    refine W.widen (k := (8 * (T - pp) + 3)) (n := (120 * (T - pp) + 280)) (by omega) (by omega) ?_
                    subst hQ1
                    exact W.vret hx hb hr (fun tS ht hW => ⟨⟨(), rfl, trivial, L9, F9, ff1, xa1, pp1, bb1, nm0, .ref la, .ref sa, n, (hr2).tr hx9, ⟨by omega, by omega, by omega, by omega⟩, (fun q9 => absurd q9 hz_30), by rw [ht]; exact ⟨by omega, by omega⟩, by rw [ht]; exact hP9, va_K.moved hW.alike hK9, hD9⟩, hS.F ht⟩) hS.2.2 dX23_newFields_127
              refine W.widen (k := (8 * (pp25 - pp) - 3 * 1 - 8 * 0)) (n := (120 * (pp25 - pp) + 4 * 4 + 8 - 64 * 1 - 120 * 0)) (by omega) (by omega) ?_
              exact key1 (T + 1 - (pp25) + 1) pp25 bb25 la26 sa26 4 1 0 ff25 xa25 0 L25 F25 f26 g26 _ _ _ (⟨by omega, by omega, by omega, by omega, by omega, by omega, by omega, by omega, by omega, by omega, by omega, hT⟩) (Or.inl hz_28) hf26_0.1 (fun i hi => by obtain rfl : i = 0 := (by omega); exact ⟨_, hf27_1.1, hf26_0.2⟩) (fun q9 => absurd q9 hz_28) (hP.subT [2, 3, 4, 5, 6, 0, 1] rfl) (hD.subT [2, 3, 4, 5, 6, 0, 1] (by decide) rfl) hS (lv_sub hl [0, 2, 3] rfl)
          · replace hPc := hP.subF (f' := [(m9, .inr (23, mA mr mv vf xl (nI zs) 0 xa (nI T) (nI (pp + 1 + 1 + 1 + 1)) xi xt xn (nI (ns + 1)) (nI vv) (nI bb))), (mr 5, .inl (kI, 3002, .inl fk)), (mr 6, .inl (kI, 3002, .inl fa))]) [2, 3, 4] rfl
            replace hDc := hD.subF (f' := [(m9, .inr (23, mA mr mv vf xl (nI zs) 0 xa (nI T) (nI (pp + 1 + 1 + 1 + 1)) xi xt xn (nI (ns + 1)) (nI vv) (nI bb))), (mr 5, .inl (kI, 3002, .inl fk)), (mr 6, .inl (kI, 3002, .inl fa))]) [2, 3, 4] (by decide) rfl
            replace hKc := hK.sub (tys' := [(kI, .int)]) [0] rfl
            replace hFc := va_freeT (wc := [(m9, .inr (23, mA mr mv vf xl (nI zs) 0 xa (nI T) (nI (pp + 1 + 1 + 1 + 1)) xi xt xn (nI (ns + 1)) (nI vv) (nI bb))), (mr 5, .inl (kI, 3002, .inl fk)), (mr 6, .inl (kI, 3002, .inl fa))]) hD hS hA [2, 3, 4] rfl
            refine va_callv (va_runV (As := [.int 58]) (rest := []) ⟨hx, hb, hml, hown, hts⟩ (c_rtkN l dC dI m9 mr mv vf xl xa xi xt xn zs T (pp + 1 + 1 + 1 + 1) (ns + 1) vv bb kI fk fa 58 H.size hT hp_20 hk0 (by decide) hk_21) (cwV 1 hts g_c_xnf_c_rtkN_82 rfl rfl rfl (by decide +kernel) ⟨by show 1 + 1 ≤ 3 + 12 * k; omega, by show 8 + (2 + 11) + (22) ≤ 63 + 279 * k; omega⟩) ⟨fun a U g mk q => by obtain ⟨q0, q1, qP, qK, qD⟩ := q; exact ⟨q0, q1, qP, va_K.moved (u := U) (U := U.calling g mk a) (Vm.Alike.refl U.vm) qK, qD⟩, va_recv hKc hPc (ci := 23) (q0 := 0) rfl rfl, fun U hU hW => ⟨rfl, by rw [hU], by rw [hU]; exact hPc, va_K.moved hW.alike hKc, hDc.weaken (fun _ _ _ _ => trivial)⟩⟩ rfl rfl hl.1 rfl (lv_room (Nat.le_of_ble_eq_true rfl)) dX23_newFields_82 ⟨(show 0 + 0 ≤ (8 * (T - pp) + 3) by omega), (show 0 + 0 ≤ (120 * (T - pp) + 280) by omega)⟩) hS (fun q _ h => hFc q h) hFc (fun u tS H1 locs ht hvm hw hB hz1 hk1 hS => ?_)
            obtain ⟨ff_22, xa_23, hf24_0, hP1, hK1, hD1⟩ := hB
            rw [ht] at hP1
            replace hK1 := va_K.moved hvm.symm hK1
            obtain ⟨hPj, hDj⟩ := va_joinT (wr := [(ee, .inr (15, [.int 5, .int tx, .int 0, .int (nI (pp + 1)), .int 0, .int 0, .long 0, .int 0, .null, .null, .null, .int 0, .null, .null])), (mr 8, .inl (kL, 3002, .inr (.inl fn)))]) (w1 := [(m9, .inr (23, mA mr mv vf xl (nI zs) ff_22 xa_23 (nI T) (nI (pp + 1 + 1 + 1 + 1)) xi xt xn (nI (ns + 1)) (nI vv) (nI bb))), (mr 5, .inl (kI, 3002, .inl fk)), (mr 6, .inl (kI, 3002, .inl fa))]) hP hD [2, 3, 4] [0, 1] rfl rfl (by decide) (by decide) hk1 hFc hP1 hD1
            replace hP := hPj
            replace hD := hDj
            clear hPj hDj
            replace hK := hK.app hK1
            generalize H1 = H at hP hS ⊢
            replace hP : va_P (dC, dI) vwCl (([(ee, .inr (15, [.int 5, .int tx, .int 0, .int (nI (pp + 1)), .int 0, .int 0, .long 0, .int 0, .null, .null, .null, .int 0, .null, .null])), (mr 8, .inl (kL, 3002, .inr (.inl fn))), (m9, .inr (23, mA mr mv vf xl (nI zs) ff_22 xa_23 (nI T) (nI (pp + 1 + 1 + 1 + 1)) xi xt xn (nI (ns + 1)) (nI vv) (nI bb))), (mr 5, .inl (kI, 3002, .inl fk)), (mr 6, .inl (kI, 3002, .inl fa))] : va_W) ++ (sT L F)) H := hP
            replace hD : va_D A (([(ee, .inr (15, [.int 5, .int tx, .int 0, .int (nI (pp + 1)), .int 0, .int 0, .long 0, .int 0, .null, .null, .null, .int 0, .null, .null])), (mr 8, .inl (kL, 3002, .inr (.inl fn))), (m9, .inr (23, mA mr mv vf xl (nI zs) ff_22 xa_23 (nI T) (nI (pp + 1 + 1 + 1 + 1)) xi xt xn (nI (ns + 1)) (nI vv) (nI bb))), (mr 5, .inl (kI, 3002, .inl fk)), (mr 6, .inl (kI, 3002, .inl fa))] : va_W) ++ (sT L F)) := hD
            replace hK : va_K (dC, dI) vwCl [(kI, .int), (kL, .long), (kE, .object RX15), (kI, .int)] s := hK
            replace hK := hK.sub (tys' := [(kI, .int), (kL, .long), (kE, .object RX15)]) [0, 1, 2] rfl
            clear hz1 hk1 hPc hDc hKc hFc hP1 hD1 hK1
            refine lv_aload_n hx hb dX23_newFields_85 rfl (lv_at hl 2 rfl) ?_
            replace hPc := hP.subF (f' := [(m9, .inr (23, mA mr mv vf xl (nI zs) ff_22 xa_23 (nI T) (nI (pp + 1 + 1 + 1 + 1)) xi xt xn (nI (ns + 1)) (nI vv) (nI bb)))]) [2] rfl
            replace hDc := hD.subF (f' := [(m9, .inr (23, mA mr mv vf xl (nI zs) ff_22 xa_23 (nI T) (nI (pp + 1 + 1 + 1 + 1)) xi xt xn (nI (ns + 1)) (nI vv) (nI bb)))]) [2] (by decide) rfl
            replace hKc := hK.sub (tys' := []) [] rfl
            replace hFc := va_freeT (wc := [(m9, .inr (23, mA mr mv vf xl (nI zs) ff_22 xa_23 (nI T) (nI (pp + 1 + 1 + 1 + 1)) xi xt xn (nI (ns + 1)) (nI vv) (nI bb)))]) hD hS hA [2] rfl
            refine va_calli (va_runV (As := []) (rest := []) ⟨hx, hb, hml, hown, hts⟩ (c_rokB l dC dI m9 mr mv vf xl xa_23 xi xt xn zs T (pp + 1 + 1 + 1 + 1) (ns + 1) vv bb kI fk fa ff_22 H.size hf24_0) (cwV 0 hts g_c_xnf_c_rokB_86 rfl rfl rfl (by decide +kernel) ⟨by show 0 + 1 ≤ 3 + 12 * k; omega, by show 8 + (1 + 11) + (0) ≤ 63 + 279 * k; omega⟩) ⟨fun a U g mk q => by obtain ⟨q0, q1, qP, qK, qD⟩ := q; exact ⟨q0, q1, qP, va_K.moved (u := U) (U := U.calling g mk a) (Vm.Alike.refl U.vm) qK, qD⟩, va_recv hKc hPc (ci := 23) (q0 := 0) rfl rfl, fun U hU hW => ⟨rfl, by rw [hU], by rw [hU]; exact hPc, va_K.moved hW.alike hKc, hDc.weaken (fun _ _ _ _ => trivial)⟩⟩ rfl rfl hl.1 rfl (lv_room (Nat.le_of_ble_eq_true rfl)) dX23_newFields_86 ⟨(show 0 + 0 ≤ (8 * (T - pp) + 3) by omega), (show 0 + 0 ≤ (120 * (T - pp) + 280) by omega)⟩) hS (fun q _ h => hFc q h) hFc (fun r_25 u tS H1 locs ht hvm hw hB hz1 hk1 hS => ?_)
            obtain ⟨hP1, hK1, hD1⟩ := hB
            rw [ht] at hP1
            replace hK1 := va_K.moved hvm.symm hK1
            obtain ⟨hPj, hDj⟩ := va_joinT (wr := [(ee, .inr (15, [.int 5, .int tx, .int 0, .int (nI (pp + 1)), .int 0, .int 0, .long 0, .int 0, .null, .null, .null, .int 0, .null, .null])), (mr 8, .inl (kL, 3002, .inr (.inl fn))), (mr 5, .inl (kI, 3002, .inl fk)), (mr 6, .inl (kI, 3002, .inl fa))]) (w1 := [(m9, .inr (23, mA mr mv vf xl (nI zs) ff_22 xa_23 (nI T) (nI (pp + 1 + 1 + 1 + 1)) xi xt xn (nI (ns + 1)) (nI vv) (nI bb)))]) hP hD [2] [0, 1, 3, 4] rfl rfl (by decide) (by decide) hk1 hFc hP1 hD1
            replace hP := hPj
            replace hD := hDj
            clear hPj hDj
            generalize H1 = H at hP hS ⊢
            replace hP : va_P (dC, dI) vwCl (([(ee, .inr (15, [.int 5, .int tx, .int 0, .int (nI (pp + 1)), .int 0, .int 0, .long 0, .int 0, .null, .null, .null, .int 0, .null, .null])), (mr 8, .inl (kL, 3002, .inr (.inl fn))), (mr 5, .inl (kI, 3002, .inl fk)), (mr 6, .inl (kI, 3002, .inl fa)), (m9, .inr (23, mA mr mv vf xl (nI zs) ff_22 xa_23 (nI T) (nI (pp + 1 + 1 + 1 + 1)) xi xt xn (nI (ns + 1)) (nI vv) (nI bb)))] : va_W) ++ (sT L F)) H := hP
            replace hD : va_D A (([(ee, .inr (15, [.int 5, .int tx, .int 0, .int (nI (pp + 1)), .int 0, .int 0, .long 0, .int 0, .null, .null, .null, .int 0, .null, .null])), (mr 8, .inl (kL, 3002, .inr (.inl fn))), (mr 5, .inl (kI, 3002, .inl fk)), (mr 6, .inl (kI, 3002, .inl fa)), (m9, .inr (23, mA mr mv vf xl (nI zs) ff_22 xa_23 (nI T) (nI (pp + 1 + 1 + 1 + 1)) xi xt xn (nI (ns + 1)) (nI vv) (nI bb)))] : va_W) ++ (sT L F)) := hD
            replace hK : va_K (dC, dI) vwCl [(kI, .int), (kL, .long), (kE, .object RX15)] s := hK
            clear hz1 hk1 hPc hDc hKc hFc hP1 hD1 hK1
            obtain rfl : r_25 = 0 := hw
            refine lv_if_eq (tgt := 101) hx hb dX23_newFields_89 (by decide) (fun _ => ?_) (fun c_26 => absurd (by decide) c_26)
            refine lv_aload_n hx hb dX23_newFields_101 rfl (lv_at hl 2 rfl) ?_
            refine lv_bipush (v := 57) hx hb dX23_newFields_102 (by decide) ?_
            replace hPc := hP.subF (f' := [(m9, .inr (23, mA mr mv vf xl (nI zs) ff_22 xa_23 (nI T) (nI (pp + 1 + 1 + 1 + 1)) xi xt xn (nI (ns + 1)) (nI vv) (nI bb))), (mr 5, .inl (kI, 3002, .inl fk))]) [4, 2] rfl
            replace hDc := hD.subF (f' := [(m9, .inr (23, mA mr mv vf xl (nI zs) ff_22 xa_23 (nI T) (nI (pp + 1 + 1 + 1 + 1)) xi xt xn (nI (ns + 1)) (nI vv) (nI bb))), (mr 5, .inl (kI, 3002, .inl fk))]) [4, 2] (by decide) rfl
            replace hKc := hK.sub (tys' := [(kI, .int)]) [0] rfl
            replace hFc := va_freeT (wc := [(m9, .inr (23, mA mr mv vf xl (nI zs) ff_22 xa_23 (nI T) (nI (pp + 1 + 1 + 1 + 1)) xi xt xn (nI (ns + 1)) (nI vv) (nI bb))), (mr 5, .inl (kI, 3002, .inl fk))]) hD hS hA [4, 2] rfl
            refine va_calli (va_runV (As := [.int 57]) (rest := []) ⟨hx, hb, hml, hown, hts⟩ (c_rtsB l dC dI m9 mr mv vf xl xa_23 xi xt xn zs T (pp + 1 + 1 + 1 + 1) (ns + 1) vv bb kI fk fa ff_22 57 H.size hf24_0) (cwV 1 hts g_c_xnf_c_rtsB_104 rfl rfl rfl (by decide +kernel) ⟨by show 1 + 1 ≤ 3 + 12 * k; omega, by show 8 + (2 + 11) + (20) ≤ 63 + 279 * k; omega⟩) ⟨fun a U g mk q => by obtain ⟨q0, q1, qP, qK, qD⟩ := q; exact ⟨q0, q1, qP, va_K.moved (u := U) (U := U.calling g mk a) (Vm.Alike.refl U.vm) qK, qD⟩, va_recv hKc hPc (ci := 23) (q0 := 0) rfl rfl, fun U hU hW => ⟨rfl, by rw [hU], by rw [hU]; exact hPc, va_K.moved hW.alike hKc, hDc.weaken (fun _ _ _ _ => trivial)⟩⟩ rfl rfl hl.1 rfl (lv_room (Nat.le_of_ble_eq_true rfl)) dX23_newFields_104 ⟨(show 0 + 0 ≤ (8 * (T - pp) + 3) by omega), (show 0 + 0 ≤ (120 * (T - pp) + 280) by omega)⟩) hS (fun q _ h => hFc q h) hFc (fun r_27 u tS H1 locs ht hvm hw hB hz1 hk1 hS => ?_)
            obtain ⟨hP1, hK1, hD1⟩ := hB
            rw [ht] at hP1
            replace hK1 := va_K.moved hvm.symm hK1
            obtain ⟨hPj, hDj⟩ := va_joinT (wr := [(ee, .inr (15, [.int 5, .int tx, .int 0, .int (nI (pp + 1)), .int 0, .int 0, .long 0, .int 0, .null, .null, .null, .int 0, .null, .null])), (mr 8, .inl (kL, 3002, .inr (.inl fn))), (mr 6, .inl (kI, 3002, .inl fa))]) (w1 := [(m9, .inr (23, mA mr mv vf xl (nI zs) ff_22 xa_23 (nI T) (nI (pp + 1 + 1 + 1 + 1)) xi xt xn (nI (ns + 1)) (nI vv) (nI bb))), (mr 5, .inl (kI, 3002, .inl fk))]) hP hD [4, 2] [0, 1, 3] rfl rfl (by decide) (by decide) hk1 hFc hP1 hD1
            replace hP := hPj
            replace hD := hDj
            clear hPj hDj
            replace hK := hK.app hK1
            generalize H1 = H at hP hS ⊢
            replace hP : va_P (dC, dI) vwCl (([(ee, .inr (15, [.int 5, .int tx, .int 0, .int (nI (pp + 1)), .int 0, .int 0, .long 0, .int 0, .null, .null, .null, .int 0, .null, .null])), (mr 8, .inl (kL, 3002, .inr (.inl fn))), (mr 6, .inl (kI, 3002, .inl fa)), (m9, .inr (23, mA mr mv vf xl (nI zs) ff_22 xa_23 (nI T) (nI (pp + 1 + 1 + 1 + 1)) xi xt xn (nI (ns + 1)) (nI vv) (nI bb))), (mr 5, .inl (kI, 3002, .inl fk))] : va_W) ++ (sT L F)) H := hP
            replace hD : va_D A (([(ee, .inr (15, [.int 5, .int tx, .int 0, .int (nI (pp + 1)), .int 0, .int 0, .long 0, .int 0, .null, .null, .null, .int 0, .null, .null])), (mr 8, .inl (kL, 3002, .inr (.inl fn))), (mr 6, .inl (kI, 3002, .inl fa)), (m9, .inr (23, mA mr mv vf xl (nI zs) ff_22 xa_23 (nI T) (nI (pp + 1 + 1 + 1 + 1)) xi xt xn (nI (ns + 1)) (nI vv) (nI bb))), (mr 5, .inl (kI, 3002, .inl fk))] : va_W) ++ (sT L F)) := hD
            replace hK : va_K (dC, dI) vwCl [(kI, .int), (kL, .long), (kE, .object RX15), (kI, .int)] s := hK
            replace hK := hK.sub (tys' := [(kI, .int), (kL, .long), (kE, .object RX15)]) [0, 1, 2] rfl
            clear hz1 hk1 hPc hDc hKc hFc hP1 hD1 hK1
            obtain rfl : r_27 = 0 := hw
            refine lv_istore_n (lv' := [(2, .int 0), (3, .int (nI (pp + 1 + 1 + 1))), (0, .ref m9), (1, .ref ee)]) hx hb dX23_newFields_107 rfl hl (by decide) rfl (fun ls hl => ?_)
            refine lv_goto (tgt := 63) hx hb dX23_newFields_108 (by decide) ?_
            refine lv_aload_n hx hb dX23_newFields_63 rfl (lv_at hl 2 rfl) ?_
            replace hPc := hP.subF (f' := [(m9, .inr (23, mA mr mv vf xl (nI zs) ff_22 xa_23 (nI T) (nI (pp + 1 + 1 + 1 + 1)) xi xt xn (nI (ns + 1)) (nI vv) (nI bb)))]) [3] rfl
            replace hDc := hD.subF (f' := [(m9, .inr (23, mA mr mv vf xl (nI zs) ff_22 xa_23 (nI T) (nI (pp + 1 + 1 + 1 + 1)) xi xt xn (nI (ns + 1)) (nI vv) (nI bb)))]) [3] (by decide) rfl
            replace hKc := hK.sub (tys' := []) [] rfl
            replace hFc := va_freeT (wc := [(m9, .inr (23, mA mr mv vf xl (nI zs) ff_22 xa_23 (nI T) (nI (pp + 1 + 1 + 1 + 1)) xi xt xn (nI (ns + 1)) (nI vv) (nI bb)))]) hD hS hA [3] rfl
            refine va_calli (va_runV (As := []) (rest := []) ⟨hx, hb, hml, hown, hts⟩ (c_rokB l dC dI m9 mr mv vf xl xa_23 xi xt xn zs T (pp + 1 + 1 + 1 + 1) (ns + 1) vv bb kI fk fa ff_22 H.size hf24_0) (cwV 0 hts g_c_xnf_c_rokB_64 rfl rfl rfl (by decide +kernel) ⟨by show 0 + 1 ≤ 3 + 12 * k; omega, by show 8 + (1 + 11) + (0) ≤ 63 + 279 * k; omega⟩) ⟨fun a U g mk q => by obtain ⟨q0, q1, qP, qK, qD⟩ := q; exact ⟨q0, q1, qP, va_K.moved (u := U) (U := U.calling g mk a) (Vm.Alike.refl U.vm) qK, qD⟩, va_recv hKc hPc (ci := 23) (q0 := 0) rfl rfl, fun U hU hW => ⟨rfl, by rw [hU], by rw [hU]; exact hPc, va_K.moved hW.alike hKc, hDc.weaken (fun _ _ _ _ => trivial)⟩⟩ rfl rfl hl.1 rfl (lv_room (Nat.le_of_ble_eq_true rfl)) dX23_newFields_64 ⟨(show 0 + 0 ≤ (8 * (T - pp) + 3) by omega), (show 0 + 0 ≤ (120 * (T - pp) + 280) by omega)⟩) hS (fun q _ h => hFc q h) hFc (fun r_28 u tS H1 locs ht hvm hw hB hz1 hk1 hS => ?_)
            obtain ⟨hP1, hK1, hD1⟩ := hB
            rw [ht] at hP1
            replace hK1 := va_K.moved hvm.symm hK1
            obtain ⟨hPj, hDj⟩ := va_joinT (wr := [(ee, .inr (15, [.int 5, .int tx, .int 0, .int (nI (pp + 1)), .int 0, .int 0, .long 0, .int 0, .null, .null, .null, .int 0, .null, .null])), (mr 8, .inl (kL, 3002, .inr (.inl fn))), (mr 6, .inl (kI, 3002, .inl fa)), (mr 5, .inl (kI, 3002, .inl fk))]) (w1 := [(m9, .inr (23, mA mr mv vf xl (nI zs) ff_22 xa_23 (nI T) (nI (pp + 1 + 1 + 1 + 1)) xi xt xn (nI (ns + 1)) (nI vv) (nI bb)))]) hP hD [3] [0, 1, 2, 4] rfl rfl (by decide) (by decide) hk1 hFc hP1 hD1
            replace hP := hPj
            replace hD := hDj
            clear hPj hDj
            generalize H1 = H at hP hS ⊢
            replace hP : va_P (dC, dI) vwCl (([(ee, .inr (15, [.int 5, .int tx, .int 0, .int (nI (pp + 1)), .int 0, .int 0, .long 0, .int 0, .null, .null, .null, .int 0, .null, .null])), (mr 8, .inl (kL, 3002, .inr (.inl fn))), (mr 6, .inl (kI, 3002, .inl fa)), (mr 5, .inl (kI, 3002, .inl fk)), (m9, .inr (23, mA mr mv vf xl (nI zs) ff_22 xa_23 (nI T) (nI (pp + 1 + 1 + 1 + 1)) xi xt xn (nI (ns + 1)) (nI vv) (nI bb)))] : va_W) ++ (sT L F)) H := hP
            replace hD : va_D A (([(ee, .inr (15, [.int 5, .int tx, .int 0, .int (nI (pp + 1)), .int 0, .int 0, .long 0, .int 0, .null, .null, .null, .int 0, .null, .null])), (mr 8, .inl (kL, 3002, .inr (.inl fn))), (mr 6, .inl (kI, 3002, .inl fa)), (mr 5, .inl (kI, 3002, .inl fk)), (m9, .inr (23, mA mr mv vf xl (nI zs) ff_22 xa_23 (nI T) (nI (pp + 1 + 1 + 1 + 1)) xi xt xn (nI (ns + 1)) (nI vv) (nI bb)))] : va_W) ++ (sT L F)) := hD
            replace hK : va_K (dC, dI) vwCl [(kI, .int), (kL, .long), (kE, .object RX15)] s := hK
            clear hz1 hk1 hPc hDc hKc hFc hP1 hD1 hK1
            obtain rfl : r_28 = 0 := hw
            refine lv_if_eq (tgt := 111) hx hb dX23_newFields_67 (by decide) (fun _ => ?_) (fun c_29 => absurd (by decide) c_29)
            refine lv_aload_n hx hb dX23_newFields_111 rfl (lv_at hl 2 rfl) ?_
            refine lv_dup hx hb dX23_newFields_112 rfl ?_
            refine va_get (D := (dC, dI)) (ci := 23) (v := .int (nI (ns + 1))) (C := RX23) (T := TX23) (N := 89) hx hb hts in_c_xnf_X23 hown hK hP 4 rfl rfl 15 (by decide) (hts (.fieldLink RX23 104 "OwnedPlacesModel" "nest" "I") (wm_c_xnf 29 rfl)) (fun _ h9 => h9) rfl dX23_newFields_113 ?_
            refine lv_iconst (v := 1) hx hb dX23_newFields_116 (by decide) ?_
            refine lv_isub hx hb dX23_newFields_117 ?_
            refine lv_topi (fun f_30 ef_30 => ?_)
            obtain rfl : f_30 = nI ns := ef_30.trans (nI_pred _)
            refine va_put (D := (dC, dI)) (ci := 23) (v := .int (nI ns)) (ty := .int) (C := RX23) (T := TX23) (N := 89) hx hb hts in_c_xnf_X23 tyX23 tyX23_ok nmX23 hown hK hP hD hS 4 rfl rfl 15 (by decide) (hts (.fieldLink RX23 104 "OwnedPlacesModel" "nest" "I") (wm_c_xnf 29 rfl)) (fun _ h9 => h9) rfl (by decide +kernel) rfl rfl (Nat.le_of_ble_eq_true rfl) dX23_newFields_118 (fun H locs hP hD hS => ?_)
            replace hP : va_P (dC, dI) vwCl (([(ee, .inr (15, [.int 5, .int tx, .int 0, .int (nI (pp + 1)), .int 0, .int 0, .long 0, .int 0, .null, .null, .null, .int 0, .null, .null])), (mr 8, .inl (kL, 3002, .inr (.inl fn))), (mr 6, .inl (kI, 3002, .inl fa)), (mr 5, .inl (kI, 3002, .inl fk)), (m9, .inr (23, mA mr mv vf xl (nI zs) ff_22 xa_23 (nI T) (nI (pp + 1 + 1 + 1 + 1)) xi xt xn (nI ns) (nI vv) (nI bb)))] : va_W) ++ (sT L F)) H := hP
            replace hD : va_D A (([(ee, .inr (15, [.int 5, .int tx, .int 0, .int (nI (pp + 1)), .int 0, .int 0, .long 0, .int 0, .null, .null, .null, .int 0, .null, .null])), (mr 8, .inl (kL, 3002, .inr (.inl fn))), (mr 6, .inl (kI, 3002, .inl fa)), (mr 5, .inl (kI, 3002, .inl fk)), (m9, .inr (23, mA mr mv vf xl (nI zs) ff_22 xa_23 (nI T) (nI (pp + 1 + 1 + 1 + 1)) xi xt xn (nI ns) (nI vv) (nI bb)))] : va_W) ++ (sT L F)) := hD
            refine lv_aload_n hx hb dX23_newFields_121 rfl (lv_at hl 2 rfl) ?_
            refine lv_bipush (v := 64) hx hb dX23_newFields_122 (by decide) ?_
            replace hPc := hP.subF (f' := [(m9, .inr (23, mA mr mv vf xl (nI zs) ff_22 xa_23 (nI T) (nI (pp + 1 + 1 + 1 + 1)) xi xt xn (nI ns) (nI vv) (nI bb))), (mr 5, .inl (kI, 3002, .inl fk)), (mr 6, .inl (kI, 3002, .inl fa))]) [4, 3, 2] rfl
            replace hDc := hD.subF (f' := [(m9, .inr (23, mA mr mv vf xl (nI zs) ff_22 xa_23 (nI T) (nI (pp + 1 + 1 + 1 + 1)) xi xt xn (nI ns) (nI vv) (nI bb))), (mr 5, .inl (kI, 3002, .inl fk)), (mr 6, .inl (kI, 3002, .inl fa))]) [4, 3, 2] (by decide) rfl
            replace hKc := hK.sub (tys' := [(kI, .int)]) [0] rfl
            replace hFc := va_freeT (wc := [(m9, .inr (23, mA mr mv vf xl (nI zs) ff_22 xa_23 (nI T) (nI (pp + 1 + 1 + 1 + 1)) xi xt xn (nI ns) (nI vv) (nI bb))), (mr 5, .inl (kI, 3002, .inl fk)), (mr 6, .inl (kI, 3002, .inl fa))]) hD hS hA [4, 3, 2] rfl
            refine va_callv (va_runV (As := [.int 64]) (rest := []) ⟨hx, hb, hml, hown, hts⟩ (c_rtkB l dC dI m9 mr mv vf xl xa_23 xi xt xn zs T (pp + 1 + 1 + 1 + 1) ns vv bb kI fk fa ff_22 64 H.size hf24_0) (cwV 1 hts g_c_xnf_c_rtkB_124 rfl rfl rfl (by decide +kernel) ⟨by show 1 + 1 ≤ 3 + 12 * k; omega, by show 8 + (2 + 11) + (20) ≤ 63 + 279 * k; omega⟩) ⟨fun a U g mk q => by obtain ⟨q0, q1, qP, qK, qD⟩ := q; exact ⟨q0, q1, qP, va_K.moved (u := U) (U := U.calling g mk a) (Vm.Alike.refl U.vm) qK, qD⟩, va_recv hKc hPc (ci := 23) (q0 := 0) rfl rfl, fun U hU hW => ⟨rfl, by rw [hU], by rw [hU]; exact hPc, va_K.moved hW.alike hKc, hDc.weaken (fun _ _ _ _ => trivial)⟩⟩ rfl rfl hl.1 rfl (lv_room (Nat.le_of_ble_eq_true rfl)) dX23_newFields_124 ⟨(show 0 + 0 ≤ (8 * (T - pp) + 3) by omega), (show 0 + 0 ≤ (120 * (T - pp) + 280) by omega)⟩) hS (fun q _ h => hFc q h) hFc (fun u tS H1 locs ht hvm hw hB hz1 hk1 hS => ?_)
            obtain ⟨hP1, hK1, hD1⟩ := hB
            rw [ht] at hP1
            replace hK1 := va_K.moved hvm.symm hK1
            obtain ⟨hPj, hDj⟩ := va_joinT (wr := [(ee, .inr (15, [.int 5, .int tx, .int 0, .int (nI (pp + 1)), .int 0, .int 0, .long 0, .int 0, .null, .null, .null, .int 0, .null, .null])), (mr 8, .inl (kL, 3002, .inr (.inl fn)))]) (w1 := [(m9, .inr (23, mA mr mv vf xl (nI zs) ff_22 xa_23 (nI T) (nI (pp + 1 + 1 + 1 + 1)) xi xt xn (nI ns) (nI vv) (nI bb))), (mr 5, .inl (kI, 3002, .inl fk)), (mr 6, .inl (kI, 3002, .inl fa))]) hP hD [4, 3, 2] [0, 1] rfl rfl (by decide) (by decide) hk1 hFc hP1 hD1
            replace hP := hPj
            replace hD := hDj
            clear hPj hDj
            replace hK := hK.app hK1
            generalize H1 = H at hP hS ⊢
            replace hP : va_P (dC, dI) vwCl (([(ee, .inr (15, [.int 5, .int tx, .int 0, .int (nI (pp + 1)), .int 0, .int 0, .long 0, .int 0, .null, .null, .null, .int 0, .null, .null])), (mr 8, .inl (kL, 3002, .inr (.inl fn))), (m9, .inr (23, mA mr mv vf xl (nI zs) ff_22 xa_23 (nI T) (nI (pp + 1 + 1 + 1 + 1)) xi xt xn (nI ns) (nI vv) (nI bb))), (mr 5, .inl (kI, 3002, .inl fk)), (mr 6, .inl (kI, 3002, .inl fa))] : va_W) ++ (sT L F)) H := hP
            replace hD : va_D A (([(ee, .inr (15, [.int 5, .int tx, .int 0, .int (nI (pp + 1)), .int 0, .int 0, .long 0, .int 0, .null, .null, .null, .int 0, .null, .null])), (mr 8, .inl (kL, 3002, .inr (.inl fn))), (m9, .inr (23, mA mr mv vf xl (nI zs) ff_22 xa_23 (nI T) (nI (pp + 1 + 1 + 1 + 1)) xi xt xn (nI ns) (nI vv) (nI bb))), (mr 5, .inl (kI, 3002, .inl fk)), (mr 6, .inl (kI, 3002, .inl fa))] : va_W) ++ (sT L F)) := hD
            replace hK : va_K (dC, dI) vwCl [(kI, .int), (kL, .long), (kE, .object RX15), (kI, .int)] s := hK
            replace hK := hK.sub (tys' := [(kI, .int), (kL, .long), (kE, .object RX15)]) [0, 1, 2] rfl
            clear hz1 hk1 hPc hDc hKc hFc hP1 hD1 hK1
            refine W.grow (fun hgs0 hgs1 => ?_)
            have hP9 := hP.subT (f' := [(ee, .inr (15, [.int 5, .int tx, .int 0, .int (nI (pp + 1)), .int 0, .int 0, .long 0, .int 0, .null, .null, .null, .int (nI 0), .null, .null])), (m9, .inr (23, mA mr mv vf xl (nI zs) ff_22 xa_23 (nI T) (nI (pp + 1 + 1 + 1 + 1)) xi xt xn (nI ns) (nI vv) (nI bb))), (mr 5, .inl (kI, 3002, .inl fk)), (mr 6, .inl (kI, 3002, .inl fa)), (mr 8, .inl (kL, 3002, .inr (.inl fn)))]) [0, 2, 3, 4, 1] rfl
            have hD9 := hD.subT (f' := [(ee, .inr (15, [.int 5, .int tx, .int 0, .int (nI (pp + 1)), .int 0, .int 0, .long 0, .int 0, .null, .null, .null, .int (nI 0), .null, .null])), (m9, .inr (23, mA mr mv vf xl (nI zs) ff_22 xa_23 (nI T) (nI (pp + 1 + 1 + 1 + 1)) xi xt xn (nI ns) (nI vv) (nI bb))), (mr 5, .inl (kI, 3002, .inl fk)), (mr 6, .inl (kI, 3002, .inl fa)), (mr 8, .inl (kL, 3002, .inr (.inl fn)))]) [0, 2, 3, 4, 1] (by decide) rfl
            have hK9 := hK.sub (tys' := [(kI, .int), (kL, .long), (kE, .object RX15)]) [0, 1, 2] rfl
            refine W.widen (k := (8 * (T - pp) + 3)) (n := (120 * (T - pp) + 280)) (by omega) (by omega) ?_
            exact W.vret hx hb hr (fun tS ht hW => ⟨⟨(), rfl, trivial, L, F, ff_22, xa_23, pp + 1 + 1 + 1 + 1, bb, nI (pp + 1), .null, .null, 0, exS.rf, ⟨by omega, by omega, by omega, by omega⟩, (fun q9 => absurd q9 hf24_0), by rw [ht]; exact ⟨by omega, by omega⟩, by rw [ht]; exact hP9, va_K.moved hW.alike hK9, hD9⟩, hS.F ht⟩) hS.2.2 dX23_newFields_127
        · replace hPc := hP.subF (f' := [(m9, .inr (23, mA mr mv vf xl (nI zs) 0 xa (nI T) (nI (pp + 1 + 1 + 1)) xi xt xn (nI (ns + 1)) (nI vv) (nI bb))), (mr 5, .inl (kI, 3002, .inl fk)), (mr 6, .inl (kI, 3002, .inl fa))]) [4, 2, 3] rfl
          replace hDc := hD.subF (f' := [(m9, .inr (23, mA mr mv vf xl (nI zs) 0 xa (nI T) (nI (pp + 1 + 1 + 1)) xi xt xn (nI (ns + 1)) (nI vv) (nI bb))), (mr 5, .inl (kI, 3002, .inl fk)), (mr 6, .inl (kI, 3002, .inl fa))]) [4, 2, 3] (by decide) rfl
          replace hKc := hK.sub (tys' := [(kI, .int)]) [0] rfl
          replace hFc := va_freeT (wc := [(m9, .inr (23, mA mr mv vf xl (nI zs) 0 xa (nI T) (nI (pp + 1 + 1 + 1)) xi xt xn (nI (ns + 1)) (nI vv) (nI bb))), (mr 5, .inl (kI, 3002, .inl fk)), (mr 6, .inl (kI, 3002, .inl fa))]) hD hS hA [4, 2, 3] rfl
          refine va_calli (va_runV (As := []) (rest := []) ⟨hx, hb, hml, hown, hts⟩ (c_rnmN l dC dI m9 mr mv vf xl xa xi xt xn zs T (pp + 1 + 1 + 1) (ns + 1) vv bb kI fk fa H.size hT hp_14 hk0 hk_18) (cwV 0 hts g_c_xnf_c_rnmN_75 rfl rfl rfl (by decide +kernel) ⟨by show 2 + 1 ≤ 3 + 12 * k; omega, by show 8 + (1 + 11) + (43) ≤ 63 + 279 * k; omega⟩) ⟨fun a U g mk q => by obtain ⟨q0, q1, qP, qK, qD⟩ := q; exact ⟨q0, q1, qP, va_K.moved (u := U) (U := U.calling g mk a) (Vm.Alike.refl U.vm) qK, qD⟩, va_recv hKc hPc (ci := 23) (q0 := 0) rfl rfl, fun U hU hW => ⟨rfl, by rw [hU], by rw [hU]; exact hPc, va_K.moved hW.alike hKc, hDc.weaken (fun _ _ _ _ => trivial)⟩⟩ rfl rfl hl.1 rfl (lv_room (Nat.le_of_ble_eq_true rfl)) dX23_newFields_75 ⟨(show 0 + 0 ≤ (8 * (T - pp) + 3) by omega), (show 0 + 0 ≤ (120 * (T - pp) + 280) by omega)⟩) hS (fun q _ h => hFc q h) hFc (fun r_21 u tS H1 locs ht hvm hw hB hz1 hk1 hS => ?_)
          obtain ⟨ff_19, xa_20, hf21_0, hP1, hK1, hD1⟩ := hB
          rw [ht] at hP1
          replace hK1 := va_K.moved hvm.symm hK1
          obtain ⟨hPj, hDj⟩ := va_joinT (wr := [(ee, .inr (15, [.int 5, .int tx, .int 0, .int (nI (pp + 1)), .int 0, .int 0, .long 0, .int 0, .null, .null, .null, .int 0, .null, .null])), (mr 8, .inl (kL, 3002, .inr (.inl fn)))]) (w1 := [(m9, .inr (23, mA mr mv vf xl (nI zs) ff_19 xa_20 (nI T) (nI (pp + 1 + 1 + 1)) xi xt xn (nI (ns + 1)) (nI vv) (nI bb))), (mr 5, .inl (kI, 3002, .inl fk)), (mr 6, .inl (kI, 3002, .inl fa))]) hP hD [4, 2, 3] [0, 1] rfl rfl (by decide) (by decide) hk1 hFc hP1 hD1
          replace hP := hPj
          replace hD := hDj
          clear hPj hDj
          replace hK := hK.app hK1
          generalize H1 = H at hP hS ⊢
          replace hP : va_P (dC, dI) vwCl (([(ee, .inr (15, [.int 5, .int tx, .int 0, .int (nI (pp + 1)), .int 0, .int 0, .long 0, .int 0, .null, .null, .null, .int 0, .null, .null])), (mr 8, .inl (kL, 3002, .inr (.inl fn))), (m9, .inr (23, mA mr mv vf xl (nI zs) ff_19 xa_20 (nI T) (nI (pp + 1 + 1 + 1)) xi xt xn (nI (ns + 1)) (nI vv) (nI bb))), (mr 5, .inl (kI, 3002, .inl fk)), (mr 6, .inl (kI, 3002, .inl fa))] : va_W) ++ (sT L F)) H := hP
          replace hD : va_D A (([(ee, .inr (15, [.int 5, .int tx, .int 0, .int (nI (pp + 1)), .int 0, .int 0, .long 0, .int 0, .null, .null, .null, .int 0, .null, .null])), (mr 8, .inl (kL, 3002, .inr (.inl fn))), (m9, .inr (23, mA mr mv vf xl (nI zs) ff_19 xa_20 (nI T) (nI (pp + 1 + 1 + 1)) xi xt xn (nI (ns + 1)) (nI vv) (nI bb))), (mr 5, .inl (kI, 3002, .inl fk)), (mr 6, .inl (kI, 3002, .inl fa))] : va_W) ++ (sT L F)) := hD
          replace hK : va_K (dC, dI) vwCl [(kI, .int), (kL, .long), (kE, .object RX15), (kI, .int)] s := hK
          replace hK := hK.sub (tys' := [(kI, .int), (kL, .long), (kE, .object RX15)]) [0, 1, 2] rfl
          clear hz1 hk1 hPc hDc hKc hFc hP1 hD1 hK1
          refine lv_istore_n (lv' := [(3, .int r_21), (2, .int 1), (0, .ref m9), (1, .ref ee)]) hx hb dX23_newFields_78 rfl hl (by decide) rfl (fun ls hl => ?_)
          refine lv_aload_n hx hb dX23_newFields_79 rfl (lv_at hl 2 rfl) ?_
          refine lv_bipush (v := 58) hx hb dX23_newFields_80 (by decide) ?_
          replace hPc := hP.subF (f' := [(m9, .inr (23, mA mr mv vf xl (nI zs) ff_19 xa_20 (nI T) (nI (pp + 1 + 1 + 1)) xi xt xn (nI (ns + 1)) (nI vv) (nI bb))), (mr 5, .inl (kI, 3002, .inl fk)), (mr 6, .inl (kI, 3002, .inl fa))]) [2, 3, 4] rfl
          replace hDc := hD.subF (f' := [(m9, .inr (23, mA mr mv vf xl (nI zs) ff_19 xa_20 (nI T) (nI (pp + 1 + 1 + 1)) xi xt xn (nI (ns + 1)) (nI vv) (nI bb))), (mr 5, .inl (kI, 3002, .inl fk)), (mr 6, .inl (kI, 3002, .inl fa))]) [2, 3, 4] (by decide) rfl
          replace hKc := hK.sub (tys' := [(kI, .int)]) [0] rfl
          replace hFc := va_freeT (wc := [(m9, .inr (23, mA mr mv vf xl (nI zs) ff_19 xa_20 (nI T) (nI (pp + 1 + 1 + 1)) xi xt xn (nI (ns + 1)) (nI vv) (nI bb))), (mr 5, .inl (kI, 3002, .inl fk)), (mr 6, .inl (kI, 3002, .inl fa))]) hD hS hA [2, 3, 4] rfl
          refine va_callv (va_runV (As := [.int 58]) (rest := []) ⟨hx, hb, hml, hown, hts⟩ (c_rtkB l dC dI m9 mr mv vf xl xa_20 xi xt xn zs T (pp + 1 + 1 + 1) (ns + 1) vv bb kI fk fa ff_19 58 H.size hf21_0) (cwV 1 hts g_c_xnf_c_rtkB_82 rfl rfl rfl (by decide +kernel) ⟨by show 1 + 1 ≤ 3 + 12 * k; omega, by show 8 + (2 + 11) + (20) ≤ 63 + 279 * k; omega⟩) ⟨fun a U g mk q => by obtain ⟨q0, q1, qP, qK, qD⟩ := q; exact ⟨q0, q1, qP, va_K.moved (u := U) (U := U.calling g mk a) (Vm.Alike.refl U.vm) qK, qD⟩, va_recv hKc hPc (ci := 23) (q0 := 0) rfl rfl, fun U hU hW => ⟨rfl, by rw [hU], by rw [hU]; exact hPc, va_K.moved hW.alike hKc, hDc.weaken (fun _ _ _ _ => trivial)⟩⟩ rfl rfl hl.1 rfl (lv_room (Nat.le_of_ble_eq_true rfl)) dX23_newFields_82 ⟨(show 0 + 0 ≤ (8 * (T - pp) + 3) by omega), (show 0 + 0 ≤ (120 * (T - pp) + 280) by omega)⟩) hS (fun q _ h => hFc q h) hFc (fun u tS H1 locs ht hvm hw hB hz1 hk1 hS => ?_)
          obtain ⟨hP1, hK1, hD1⟩ := hB
          rw [ht] at hP1
          replace hK1 := va_K.moved hvm.symm hK1
          obtain ⟨hPj, hDj⟩ := va_joinT (wr := [(ee, .inr (15, [.int 5, .int tx, .int 0, .int (nI (pp + 1)), .int 0, .int 0, .long 0, .int 0, .null, .null, .null, .int 0, .null, .null])), (mr 8, .inl (kL, 3002, .inr (.inl fn)))]) (w1 := [(m9, .inr (23, mA mr mv vf xl (nI zs) ff_19 xa_20 (nI T) (nI (pp + 1 + 1 + 1)) xi xt xn (nI (ns + 1)) (nI vv) (nI bb))), (mr 5, .inl (kI, 3002, .inl fk)), (mr 6, .inl (kI, 3002, .inl fa))]) hP hD [2, 3, 4] [0, 1] rfl rfl (by decide) (by decide) hk1 hFc hP1 hD1
          replace hP := hPj
          replace hD := hDj
          clear hPj hDj
          replace hK := hK.app hK1
          generalize H1 = H at hP hS ⊢
          replace hP : va_P (dC, dI) vwCl (([(ee, .inr (15, [.int 5, .int tx, .int 0, .int (nI (pp + 1)), .int 0, .int 0, .long 0, .int 0, .null, .null, .null, .int 0, .null, .null])), (mr 8, .inl (kL, 3002, .inr (.inl fn))), (m9, .inr (23, mA mr mv vf xl (nI zs) ff_19 xa_20 (nI T) (nI (pp + 1 + 1 + 1)) xi xt xn (nI (ns + 1)) (nI vv) (nI bb))), (mr 5, .inl (kI, 3002, .inl fk)), (mr 6, .inl (kI, 3002, .inl fa))] : va_W) ++ (sT L F)) H := hP
          replace hD : va_D A (([(ee, .inr (15, [.int 5, .int tx, .int 0, .int (nI (pp + 1)), .int 0, .int 0, .long 0, .int 0, .null, .null, .null, .int 0, .null, .null])), (mr 8, .inl (kL, 3002, .inr (.inl fn))), (m9, .inr (23, mA mr mv vf xl (nI zs) ff_19 xa_20 (nI T) (nI (pp + 1 + 1 + 1)) xi xt xn (nI (ns + 1)) (nI vv) (nI bb))), (mr 5, .inl (kI, 3002, .inl fk)), (mr 6, .inl (kI, 3002, .inl fa))] : va_W) ++ (sT L F)) := hD
          replace hK : va_K (dC, dI) vwCl [(kI, .int), (kL, .long), (kE, .object RX15), (kI, .int)] s := hK
          replace hK := hK.sub (tys' := [(kI, .int), (kL, .long), (kE, .object RX15)]) [0, 1, 2] rfl
          clear hz1 hk1 hPc hDc hKc hFc hP1 hD1 hK1
          refine lv_aload_n hx hb dX23_newFields_85 rfl (lv_at hl 2 rfl) ?_
          replace hPc := hP.subF (f' := [(m9, .inr (23, mA mr mv vf xl (nI zs) ff_19 xa_20 (nI T) (nI (pp + 1 + 1 + 1)) xi xt xn (nI (ns + 1)) (nI vv) (nI bb)))]) [2] rfl
          replace hDc := hD.subF (f' := [(m9, .inr (23, mA mr mv vf xl (nI zs) ff_19 xa_20 (nI T) (nI (pp + 1 + 1 + 1)) xi xt xn (nI (ns + 1)) (nI vv) (nI bb)))]) [2] (by decide) rfl
          replace hKc := hK.sub (tys' := []) [] rfl
          replace hFc := va_freeT (wc := [(m9, .inr (23, mA mr mv vf xl (nI zs) ff_19 xa_20 (nI T) (nI (pp + 1 + 1 + 1)) xi xt xn (nI (ns + 1)) (nI vv) (nI bb)))]) hD hS hA [2] rfl
          refine va_calli (va_runV (As := []) (rest := []) ⟨hx, hb, hml, hown, hts⟩ (c_rokB l dC dI m9 mr mv vf xl xa_20 xi xt xn zs T (pp + 1 + 1 + 1) (ns + 1) vv bb kI fk fa ff_19 H.size hf21_0) (cwV 0 hts g_c_xnf_c_rokB_86 rfl rfl rfl (by decide +kernel) ⟨by show 0 + 1 ≤ 3 + 12 * k; omega, by show 8 + (1 + 11) + (0) ≤ 63 + 279 * k; omega⟩) ⟨fun a U g mk q => by obtain ⟨q0, q1, qP, qK, qD⟩ := q; exact ⟨q0, q1, qP, va_K.moved (u := U) (U := U.calling g mk a) (Vm.Alike.refl U.vm) qK, qD⟩, va_recv hKc hPc (ci := 23) (q0 := 0) rfl rfl, fun U hU hW => ⟨rfl, by rw [hU], by rw [hU]; exact hPc, va_K.moved hW.alike hKc, hDc.weaken (fun _ _ _ _ => trivial)⟩⟩ rfl rfl hl.1 rfl (lv_room (Nat.le_of_ble_eq_true rfl)) dX23_newFields_86 ⟨(show 0 + 0 ≤ (8 * (T - pp) + 3) by omega), (show 0 + 0 ≤ (120 * (T - pp) + 280) by omega)⟩) hS (fun q _ h => hFc q h) hFc (fun r_23 u tS H1 locs ht hvm hw hB hz1 hk1 hS => ?_)
          obtain ⟨hP1, hK1, hD1⟩ := hB
          rw [ht] at hP1
          replace hK1 := va_K.moved hvm.symm hK1
          obtain ⟨hPj, hDj⟩ := va_joinT (wr := [(ee, .inr (15, [.int 5, .int tx, .int 0, .int (nI (pp + 1)), .int 0, .int 0, .long 0, .int 0, .null, .null, .null, .int 0, .null, .null])), (mr 8, .inl (kL, 3002, .inr (.inl fn))), (mr 5, .inl (kI, 3002, .inl fk)), (mr 6, .inl (kI, 3002, .inl fa))]) (w1 := [(m9, .inr (23, mA mr mv vf xl (nI zs) ff_19 xa_20 (nI T) (nI (pp + 1 + 1 + 1)) xi xt xn (nI (ns + 1)) (nI vv) (nI bb)))]) hP hD [2] [0, 1, 3, 4] rfl rfl (by decide) (by decide) hk1 hFc hP1 hD1
          replace hP := hPj
          replace hD := hDj
          clear hPj hDj
          generalize H1 = H at hP hS ⊢
          replace hP : va_P (dC, dI) vwCl (([(ee, .inr (15, [.int 5, .int tx, .int 0, .int (nI (pp + 1)), .int 0, .int 0, .long 0, .int 0, .null, .null, .null, .int 0, .null, .null])), (mr 8, .inl (kL, 3002, .inr (.inl fn))), (mr 5, .inl (kI, 3002, .inl fk)), (mr 6, .inl (kI, 3002, .inl fa)), (m9, .inr (23, mA mr mv vf xl (nI zs) ff_19 xa_20 (nI T) (nI (pp + 1 + 1 + 1)) xi xt xn (nI (ns + 1)) (nI vv) (nI bb)))] : va_W) ++ (sT L F)) H := hP
          replace hD : va_D A (([(ee, .inr (15, [.int 5, .int tx, .int 0, .int (nI (pp + 1)), .int 0, .int 0, .long 0, .int 0, .null, .null, .null, .int 0, .null, .null])), (mr 8, .inl (kL, 3002, .inr (.inl fn))), (mr 5, .inl (kI, 3002, .inl fk)), (mr 6, .inl (kI, 3002, .inl fa)), (m9, .inr (23, mA mr mv vf xl (nI zs) ff_19 xa_20 (nI T) (nI (pp + 1 + 1 + 1)) xi xt xn (nI (ns + 1)) (nI vv) (nI bb)))] : va_W) ++ (sT L F)) := hD
          replace hK : va_K (dC, dI) vwCl [(kI, .int), (kL, .long), (kE, .object RX15)] s := hK
          clear hz1 hk1 hPc hDc hKc hFc hP1 hD1 hK1
          obtain rfl : r_23 = 0 := hw
          refine lv_if_eq (tgt := 101) hx hb dX23_newFields_89 (by decide) (fun _ => ?_) (fun c_24 => absurd (by decide) c_24)
          refine lv_aload_n hx hb dX23_newFields_101 rfl (lv_at hl 2 rfl) ?_
          refine lv_bipush (v := 57) hx hb dX23_newFields_102 (by decide) ?_
          replace hPc := hP.subF (f' := [(m9, .inr (23, mA mr mv vf xl (nI zs) ff_19 xa_20 (nI T) (nI (pp + 1 + 1 + 1)) xi xt xn (nI (ns + 1)) (nI vv) (nI bb))), (mr 5, .inl (kI, 3002, .inl fk))]) [4, 2] rfl
          replace hDc := hD.subF (f' := [(m9, .inr (23, mA mr mv vf xl (nI zs) ff_19 xa_20 (nI T) (nI (pp + 1 + 1 + 1)) xi xt xn (nI (ns + 1)) (nI vv) (nI bb))), (mr 5, .inl (kI, 3002, .inl fk))]) [4, 2] (by decide) rfl
          replace hKc := hK.sub (tys' := [(kI, .int)]) [0] rfl
          replace hFc := va_freeT (wc := [(m9, .inr (23, mA mr mv vf xl (nI zs) ff_19 xa_20 (nI T) (nI (pp + 1 + 1 + 1)) xi xt xn (nI (ns + 1)) (nI vv) (nI bb))), (mr 5, .inl (kI, 3002, .inl fk))]) hD hS hA [4, 2] rfl
          refine va_calli (va_runV (As := [.int 57]) (rest := []) ⟨hx, hb, hml, hown, hts⟩ (c_rtsB l dC dI m9 mr mv vf xl xa_20 xi xt xn zs T (pp + 1 + 1 + 1) (ns + 1) vv bb kI fk fa ff_19 57 H.size hf21_0) (cwV 1 hts g_c_xnf_c_rtsB_104 rfl rfl rfl (by decide +kernel) ⟨by show 1 + 1 ≤ 3 + 12 * k; omega, by show 8 + (2 + 11) + (20) ≤ 63 + 279 * k; omega⟩) ⟨fun a U g mk q => by obtain ⟨q0, q1, qP, qK, qD⟩ := q; exact ⟨q0, q1, qP, va_K.moved (u := U) (U := U.calling g mk a) (Vm.Alike.refl U.vm) qK, qD⟩, va_recv hKc hPc (ci := 23) (q0 := 0) rfl rfl, fun U hU hW => ⟨rfl, by rw [hU], by rw [hU]; exact hPc, va_K.moved hW.alike hKc, hDc.weaken (fun _ _ _ _ => trivial)⟩⟩ rfl rfl hl.1 rfl (lv_room (Nat.le_of_ble_eq_true rfl)) dX23_newFields_104 ⟨(show 0 + 0 ≤ (8 * (T - pp) + 3) by omega), (show 0 + 0 ≤ (120 * (T - pp) + 280) by omega)⟩) hS (fun q _ h => hFc q h) hFc (fun r_25 u tS H1 locs ht hvm hw hB hz1 hk1 hS => ?_)
          obtain ⟨hP1, hK1, hD1⟩ := hB
          rw [ht] at hP1
          replace hK1 := va_K.moved hvm.symm hK1
          obtain ⟨hPj, hDj⟩ := va_joinT (wr := [(ee, .inr (15, [.int 5, .int tx, .int 0, .int (nI (pp + 1)), .int 0, .int 0, .long 0, .int 0, .null, .null, .null, .int 0, .null, .null])), (mr 8, .inl (kL, 3002, .inr (.inl fn))), (mr 6, .inl (kI, 3002, .inl fa))]) (w1 := [(m9, .inr (23, mA mr mv vf xl (nI zs) ff_19 xa_20 (nI T) (nI (pp + 1 + 1 + 1)) xi xt xn (nI (ns + 1)) (nI vv) (nI bb))), (mr 5, .inl (kI, 3002, .inl fk))]) hP hD [4, 2] [0, 1, 3] rfl rfl (by decide) (by decide) hk1 hFc hP1 hD1
          replace hP := hPj
          replace hD := hDj
          clear hPj hDj
          replace hK := hK.app hK1
          generalize H1 = H at hP hS ⊢
          replace hP : va_P (dC, dI) vwCl (([(ee, .inr (15, [.int 5, .int tx, .int 0, .int (nI (pp + 1)), .int 0, .int 0, .long 0, .int 0, .null, .null, .null, .int 0, .null, .null])), (mr 8, .inl (kL, 3002, .inr (.inl fn))), (mr 6, .inl (kI, 3002, .inl fa)), (m9, .inr (23, mA mr mv vf xl (nI zs) ff_19 xa_20 (nI T) (nI (pp + 1 + 1 + 1)) xi xt xn (nI (ns + 1)) (nI vv) (nI bb))), (mr 5, .inl (kI, 3002, .inl fk))] : va_W) ++ (sT L F)) H := hP
          replace hD : va_D A (([(ee, .inr (15, [.int 5, .int tx, .int 0, .int (nI (pp + 1)), .int 0, .int 0, .long 0, .int 0, .null, .null, .null, .int 0, .null, .null])), (mr 8, .inl (kL, 3002, .inr (.inl fn))), (mr 6, .inl (kI, 3002, .inl fa)), (m9, .inr (23, mA mr mv vf xl (nI zs) ff_19 xa_20 (nI T) (nI (pp + 1 + 1 + 1)) xi xt xn (nI (ns + 1)) (nI vv) (nI bb))), (mr 5, .inl (kI, 3002, .inl fk))] : va_W) ++ (sT L F)) := hD
          replace hK : va_K (dC, dI) vwCl [(kI, .int), (kL, .long), (kE, .object RX15), (kI, .int)] s := hK
          replace hK := hK.sub (tys' := [(kI, .int), (kL, .long), (kE, .object RX15)]) [0, 1, 2] rfl
          clear hz1 hk1 hPc hDc hKc hFc hP1 hD1 hK1
          obtain rfl : r_25 = 0 := hw
          refine lv_istore_n (lv' := [(2, .int 0), (3, .int r_21), (0, .ref m9), (1, .ref ee)]) hx hb dX23_newFields_107 rfl hl (by decide) rfl (fun ls hl => ?_)
          refine lv_goto (tgt := 63) hx hb dX23_newFields_108 (by decide) ?_
          refine lv_aload_n hx hb dX23_newFields_63 rfl (lv_at hl 2 rfl) ?_
          replace hPc := hP.subF (f' := [(m9, .inr (23, mA mr mv vf xl (nI zs) ff_19 xa_20 (nI T) (nI (pp + 1 + 1 + 1)) xi xt xn (nI (ns + 1)) (nI vv) (nI bb)))]) [3] rfl
          replace hDc := hD.subF (f' := [(m9, .inr (23, mA mr mv vf xl (nI zs) ff_19 xa_20 (nI T) (nI (pp + 1 + 1 + 1)) xi xt xn (nI (ns + 1)) (nI vv) (nI bb)))]) [3] (by decide) rfl
          replace hKc := hK.sub (tys' := []) [] rfl
          replace hFc := va_freeT (wc := [(m9, .inr (23, mA mr mv vf xl (nI zs) ff_19 xa_20 (nI T) (nI (pp + 1 + 1 + 1)) xi xt xn (nI (ns + 1)) (nI vv) (nI bb)))]) hD hS hA [3] rfl
          refine va_calli (va_runV (As := []) (rest := []) ⟨hx, hb, hml, hown, hts⟩ (c_rokB l dC dI m9 mr mv vf xl xa_20 xi xt xn zs T (pp + 1 + 1 + 1) (ns + 1) vv bb kI fk fa ff_19 H.size hf21_0) (cwV 0 hts g_c_xnf_c_rokB_64 rfl rfl rfl (by decide +kernel) ⟨by show 0 + 1 ≤ 3 + 12 * k; omega, by show 8 + (1 + 11) + (0) ≤ 63 + 279 * k; omega⟩) ⟨fun a U g mk q => by obtain ⟨q0, q1, qP, qK, qD⟩ := q; exact ⟨q0, q1, qP, va_K.moved (u := U) (U := U.calling g mk a) (Vm.Alike.refl U.vm) qK, qD⟩, va_recv hKc hPc (ci := 23) (q0 := 0) rfl rfl, fun U hU hW => ⟨rfl, by rw [hU], by rw [hU]; exact hPc, va_K.moved hW.alike hKc, hDc.weaken (fun _ _ _ _ => trivial)⟩⟩ rfl rfl hl.1 rfl (lv_room (Nat.le_of_ble_eq_true rfl)) dX23_newFields_64 ⟨(show 0 + 0 ≤ (8 * (T - pp) + 3) by omega), (show 0 + 0 ≤ (120 * (T - pp) + 280) by omega)⟩) hS (fun q _ h => hFc q h) hFc (fun r_26 u tS H1 locs ht hvm hw hB hz1 hk1 hS => ?_)
          obtain ⟨hP1, hK1, hD1⟩ := hB
          rw [ht] at hP1
          replace hK1 := va_K.moved hvm.symm hK1
          obtain ⟨hPj, hDj⟩ := va_joinT (wr := [(ee, .inr (15, [.int 5, .int tx, .int 0, .int (nI (pp + 1)), .int 0, .int 0, .long 0, .int 0, .null, .null, .null, .int 0, .null, .null])), (mr 8, .inl (kL, 3002, .inr (.inl fn))), (mr 6, .inl (kI, 3002, .inl fa)), (mr 5, .inl (kI, 3002, .inl fk))]) (w1 := [(m9, .inr (23, mA mr mv vf xl (nI zs) ff_19 xa_20 (nI T) (nI (pp + 1 + 1 + 1)) xi xt xn (nI (ns + 1)) (nI vv) (nI bb)))]) hP hD [3] [0, 1, 2, 4] rfl rfl (by decide) (by decide) hk1 hFc hP1 hD1
          replace hP := hPj
          replace hD := hDj
          clear hPj hDj
          generalize H1 = H at hP hS ⊢
          replace hP : va_P (dC, dI) vwCl (([(ee, .inr (15, [.int 5, .int tx, .int 0, .int (nI (pp + 1)), .int 0, .int 0, .long 0, .int 0, .null, .null, .null, .int 0, .null, .null])), (mr 8, .inl (kL, 3002, .inr (.inl fn))), (mr 6, .inl (kI, 3002, .inl fa)), (mr 5, .inl (kI, 3002, .inl fk)), (m9, .inr (23, mA mr mv vf xl (nI zs) ff_19 xa_20 (nI T) (nI (pp + 1 + 1 + 1)) xi xt xn (nI (ns + 1)) (nI vv) (nI bb)))] : va_W) ++ (sT L F)) H := hP
          replace hD : va_D A (([(ee, .inr (15, [.int 5, .int tx, .int 0, .int (nI (pp + 1)), .int 0, .int 0, .long 0, .int 0, .null, .null, .null, .int 0, .null, .null])), (mr 8, .inl (kL, 3002, .inr (.inl fn))), (mr 6, .inl (kI, 3002, .inl fa)), (mr 5, .inl (kI, 3002, .inl fk)), (m9, .inr (23, mA mr mv vf xl (nI zs) ff_19 xa_20 (nI T) (nI (pp + 1 + 1 + 1)) xi xt xn (nI (ns + 1)) (nI vv) (nI bb)))] : va_W) ++ (sT L F)) := hD
          replace hK : va_K (dC, dI) vwCl [(kI, .int), (kL, .long), (kE, .object RX15)] s := hK
          clear hz1 hk1 hPc hDc hKc hFc hP1 hD1 hK1
          obtain rfl : r_26 = 0 := hw
          refine lv_if_eq (tgt := 111) hx hb dX23_newFields_67 (by decide) (fun _ => ?_) (fun c_27 => absurd (by decide) c_27)
          refine lv_aload_n hx hb dX23_newFields_111 rfl (lv_at hl 2 rfl) ?_
          refine lv_dup hx hb dX23_newFields_112 rfl ?_
          refine va_get (D := (dC, dI)) (ci := 23) (v := .int (nI (ns + 1))) (C := RX23) (T := TX23) (N := 89) hx hb hts in_c_xnf_X23 hown hK hP 4 rfl rfl 15 (by decide) (hts (.fieldLink RX23 104 "OwnedPlacesModel" "nest" "I") (wm_c_xnf 29 rfl)) (fun _ h9 => h9) rfl dX23_newFields_113 ?_
          refine lv_iconst (v := 1) hx hb dX23_newFields_116 (by decide) ?_
          refine lv_isub hx hb dX23_newFields_117 ?_
          refine lv_topi (fun f_28 ef_28 => ?_)
          obtain rfl : f_28 = nI ns := ef_28.trans (nI_pred _)
          refine va_put (D := (dC, dI)) (ci := 23) (v := .int (nI ns)) (ty := .int) (C := RX23) (T := TX23) (N := 89) hx hb hts in_c_xnf_X23 tyX23 tyX23_ok nmX23 hown hK hP hD hS 4 rfl rfl 15 (by decide) (hts (.fieldLink RX23 104 "OwnedPlacesModel" "nest" "I") (wm_c_xnf 29 rfl)) (fun _ h9 => h9) rfl (by decide +kernel) rfl rfl (Nat.le_of_ble_eq_true rfl) dX23_newFields_118 (fun H locs hP hD hS => ?_)
          replace hP : va_P (dC, dI) vwCl (([(ee, .inr (15, [.int 5, .int tx, .int 0, .int (nI (pp + 1)), .int 0, .int 0, .long 0, .int 0, .null, .null, .null, .int 0, .null, .null])), (mr 8, .inl (kL, 3002, .inr (.inl fn))), (mr 6, .inl (kI, 3002, .inl fa)), (mr 5, .inl (kI, 3002, .inl fk)), (m9, .inr (23, mA mr mv vf xl (nI zs) ff_19 xa_20 (nI T) (nI (pp + 1 + 1 + 1)) xi xt xn (nI ns) (nI vv) (nI bb)))] : va_W) ++ (sT L F)) H := hP
          replace hD : va_D A (([(ee, .inr (15, [.int 5, .int tx, .int 0, .int (nI (pp + 1)), .int 0, .int 0, .long 0, .int 0, .null, .null, .null, .int 0, .null, .null])), (mr 8, .inl (kL, 3002, .inr (.inl fn))), (mr 6, .inl (kI, 3002, .inl fa)), (mr 5, .inl (kI, 3002, .inl fk)), (m9, .inr (23, mA mr mv vf xl (nI zs) ff_19 xa_20 (nI T) (nI (pp + 1 + 1 + 1)) xi xt xn (nI ns) (nI vv) (nI bb)))] : va_W) ++ (sT L F)) := hD
          refine lv_aload_n hx hb dX23_newFields_121 rfl (lv_at hl 2 rfl) ?_
          refine lv_bipush (v := 64) hx hb dX23_newFields_122 (by decide) ?_
          replace hPc := hP.subF (f' := [(m9, .inr (23, mA mr mv vf xl (nI zs) ff_19 xa_20 (nI T) (nI (pp + 1 + 1 + 1)) xi xt xn (nI ns) (nI vv) (nI bb))), (mr 5, .inl (kI, 3002, .inl fk)), (mr 6, .inl (kI, 3002, .inl fa))]) [4, 3, 2] rfl
          replace hDc := hD.subF (f' := [(m9, .inr (23, mA mr mv vf xl (nI zs) ff_19 xa_20 (nI T) (nI (pp + 1 + 1 + 1)) xi xt xn (nI ns) (nI vv) (nI bb))), (mr 5, .inl (kI, 3002, .inl fk)), (mr 6, .inl (kI, 3002, .inl fa))]) [4, 3, 2] (by decide) rfl
          replace hKc := hK.sub (tys' := [(kI, .int)]) [0] rfl
          replace hFc := va_freeT (wc := [(m9, .inr (23, mA mr mv vf xl (nI zs) ff_19 xa_20 (nI T) (nI (pp + 1 + 1 + 1)) xi xt xn (nI ns) (nI vv) (nI bb))), (mr 5, .inl (kI, 3002, .inl fk)), (mr 6, .inl (kI, 3002, .inl fa))]) hD hS hA [4, 3, 2] rfl
          refine va_callv (va_runV (As := [.int 64]) (rest := []) ⟨hx, hb, hml, hown, hts⟩ (c_rtkB l dC dI m9 mr mv vf xl xa_20 xi xt xn zs T (pp + 1 + 1 + 1) ns vv bb kI fk fa ff_19 64 H.size hf21_0) (cwV 1 hts g_c_xnf_c_rtkB_124 rfl rfl rfl (by decide +kernel) ⟨by show 1 + 1 ≤ 3 + 12 * k; omega, by show 8 + (2 + 11) + (20) ≤ 63 + 279 * k; omega⟩) ⟨fun a U g mk q => by obtain ⟨q0, q1, qP, qK, qD⟩ := q; exact ⟨q0, q1, qP, va_K.moved (u := U) (U := U.calling g mk a) (Vm.Alike.refl U.vm) qK, qD⟩, va_recv hKc hPc (ci := 23) (q0 := 0) rfl rfl, fun U hU hW => ⟨rfl, by rw [hU], by rw [hU]; exact hPc, va_K.moved hW.alike hKc, hDc.weaken (fun _ _ _ _ => trivial)⟩⟩ rfl rfl hl.1 rfl (lv_room (Nat.le_of_ble_eq_true rfl)) dX23_newFields_124 ⟨(show 0 + 0 ≤ (8 * (T - pp) + 3) by omega), (show 0 + 0 ≤ (120 * (T - pp) + 280) by omega)⟩) hS (fun q _ h => hFc q h) hFc (fun u tS H1 locs ht hvm hw hB hz1 hk1 hS => ?_)
          obtain ⟨hP1, hK1, hD1⟩ := hB
          rw [ht] at hP1
          replace hK1 := va_K.moved hvm.symm hK1
          obtain ⟨hPj, hDj⟩ := va_joinT (wr := [(ee, .inr (15, [.int 5, .int tx, .int 0, .int (nI (pp + 1)), .int 0, .int 0, .long 0, .int 0, .null, .null, .null, .int 0, .null, .null])), (mr 8, .inl (kL, 3002, .inr (.inl fn)))]) (w1 := [(m9, .inr (23, mA mr mv vf xl (nI zs) ff_19 xa_20 (nI T) (nI (pp + 1 + 1 + 1)) xi xt xn (nI ns) (nI vv) (nI bb))), (mr 5, .inl (kI, 3002, .inl fk)), (mr 6, .inl (kI, 3002, .inl fa))]) hP hD [4, 3, 2] [0, 1] rfl rfl (by decide) (by decide) hk1 hFc hP1 hD1
          replace hP := hPj
          replace hD := hDj
          clear hPj hDj
          replace hK := hK.app hK1
          generalize H1 = H at hP hS ⊢
          replace hP : va_P (dC, dI) vwCl (([(ee, .inr (15, [.int 5, .int tx, .int 0, .int (nI (pp + 1)), .int 0, .int 0, .long 0, .int 0, .null, .null, .null, .int 0, .null, .null])), (mr 8, .inl (kL, 3002, .inr (.inl fn))), (m9, .inr (23, mA mr mv vf xl (nI zs) ff_19 xa_20 (nI T) (nI (pp + 1 + 1 + 1)) xi xt xn (nI ns) (nI vv) (nI bb))), (mr 5, .inl (kI, 3002, .inl fk)), (mr 6, .inl (kI, 3002, .inl fa))] : va_W) ++ (sT L F)) H := hP
          replace hD : va_D A (([(ee, .inr (15, [.int 5, .int tx, .int 0, .int (nI (pp + 1)), .int 0, .int 0, .long 0, .int 0, .null, .null, .null, .int 0, .null, .null])), (mr 8, .inl (kL, 3002, .inr (.inl fn))), (m9, .inr (23, mA mr mv vf xl (nI zs) ff_19 xa_20 (nI T) (nI (pp + 1 + 1 + 1)) xi xt xn (nI ns) (nI vv) (nI bb))), (mr 5, .inl (kI, 3002, .inl fk)), (mr 6, .inl (kI, 3002, .inl fa))] : va_W) ++ (sT L F)) := hD
          replace hK : va_K (dC, dI) vwCl [(kI, .int), (kL, .long), (kE, .object RX15), (kI, .int)] s := hK
          replace hK := hK.sub (tys' := [(kI, .int), (kL, .long), (kE, .object RX15)]) [0, 1, 2] rfl
          clear hz1 hk1 hPc hDc hKc hFc hP1 hD1 hK1
          refine W.grow (fun hgs0 hgs1 => ?_)
          have hP9 := hP.subT (f' := [(ee, .inr (15, [.int 5, .int tx, .int 0, .int (nI (pp + 1)), .int 0, .int 0, .long 0, .int 0, .null, .null, .null, .int (nI 0), .null, .null])), (m9, .inr (23, mA mr mv vf xl (nI zs) ff_19 xa_20 (nI T) (nI (pp + 1 + 1 + 1)) xi xt xn (nI ns) (nI vv) (nI bb))), (mr 5, .inl (kI, 3002, .inl fk)), (mr 6, .inl (kI, 3002, .inl fa)), (mr 8, .inl (kL, 3002, .inr (.inl fn)))]) [0, 2, 3, 4, 1] rfl
          have hD9 := hD.subT (f' := [(ee, .inr (15, [.int 5, .int tx, .int 0, .int (nI (pp + 1)), .int 0, .int 0, .long 0, .int 0, .null, .null, .null, .int (nI 0), .null, .null])), (m9, .inr (23, mA mr mv vf xl (nI zs) ff_19 xa_20 (nI T) (nI (pp + 1 + 1 + 1)) xi xt xn (nI ns) (nI vv) (nI bb))), (mr 5, .inl (kI, 3002, .inl fk)), (mr 6, .inl (kI, 3002, .inl fa)), (mr 8, .inl (kL, 3002, .inr (.inl fn)))]) [0, 2, 3, 4, 1] (by decide) rfl
          have hK9 := hK.sub (tys' := [(kI, .int), (kL, .long), (kE, .object RX15)]) [0, 1, 2] rfl
          refine W.widen (k := (8 * (T - pp) + 3)) (n := (120 * (T - pp) + 280)) (by omega) (by omega) ?_
          exact W.vret hx hb hr (fun tS ht hW => ⟨⟨(), rfl, trivial, L, F, ff_19, xa_20, pp + 1 + 1 + 1, bb, nI (pp + 1), .null, .null, 0, exS.rf, ⟨by omega, by omega, by omega, by omega⟩, (fun q9 => absurd q9 hf21_0), by rw [ht]; exact ⟨by omega, by omega⟩, by rw [ht]; exact hP9, va_K.moved hW.alike hK9, hD9⟩, hS.F ht⟩) hS.2.2 dX23_newFields_127
    · replace hPc := hP.subF (f' := [(m9, .inr (23, mA mr mv vf xl (nI zs) 0 xa (nI T) (nI (pp + 1 + 1)) xi xt xn (nI ns) (nI vv) (nI bb))), (mr 5, .inl (kI, 3002, .inl fk))]) [4, 2] rfl
      replace hDc := hD.subF (f' := [(m9, .inr (23, mA mr mv vf xl (nI zs) 0 xa (nI T) (nI (pp + 1 + 1)) xi xt xn (nI ns) (nI vv) (nI bb))), (mr 5, .inl (kI, 3002, .inl fk))]) [4, 2] (by decide) rfl
      replace hKc := hK.sub (tys' := [(kI, .int)]) [0] rfl
      replace hFc := va_freeT (wc := [(m9, .inr (23, mA mr mv vf xl (nI zs) 0 xa (nI T) (nI (pp + 1 + 1)) xi xt xn (nI ns) (nI vv) (nI bb))), (mr 5, .inl (kI, 3002, .inl fk))]) hD hS hA [4, 2] rfl
      refine va_calli (va_runV (As := [.int 63]) (rest := []) ⟨hx, hb, hml, hown, hts⟩ (c_risN l dC dI m9 mr mv vf xl xa xi xt xn zs T (pp + 1 + 1) ns vv bb kI fk fa 0 63 H.size hT hp_5 hk_8) (cwV 1 hts g_c_xnf_c_risN_28 rfl rfl rfl (by decide +kernel) ⟨by show 0 + 1 ≤ 3 + 12 * k; omega, by show 8 + (2 + 11) + (0) ≤ 63 + 279 * k; omega⟩) ⟨fun a U g mk q => by obtain ⟨q0, q1, qP, qK, qD⟩ := q; exact ⟨q0, q1, qP, va_K.moved (u := U) (U := U.calling g mk a) (Vm.Alike.refl U.vm) qK, qD⟩, va_recv hKc hPc (ci := 23) (q0 := 0) rfl rfl, fun U hU hW => ⟨rfl, by rw [hU], by rw [hU]; exact hPc, va_K.moved hW.alike hKc, hDc.weaken (fun _ _ _ _ => trivial)⟩⟩ rfl rfl hl.1 rfl (lv_room (Nat.le_of_ble_eq_true rfl)) dX23_newFields_28 ⟨(show 0 + 0 ≤ (8 * (T - pp) + 3) by omega), (show 0 + 0 ≤ (120 * (T - pp) + 280) by omega)⟩) hS (fun q _ h => hFc q h) hFc (fun r_9 u tS H1 locs ht hvm hw hB hz1 hk1 hS => ?_)
      obtain ⟨hP1, hK1, hD1⟩ := hB
      rw [ht] at hP1
      replace hK1 := va_K.moved hvm.symm hK1
      obtain ⟨hPj, hDj⟩ := va_joinT (wr := [(ee, .inr (15, [.int 5, .int tx, .int 0, .int (nI (pp + 1)), .int 0, .int 0, .long 0, .int 0, .null, .null, .null, .int 0, .null, .null])), (mr 8, .inl (kL, 3002, .inr (.inl fn))), (mr 6, .inl (kI, 3002, .inl fa))]) (w1 := [(m9, .inr (23, mA mr mv vf xl (nI zs) 0 xa (nI T) (nI (pp + 1 + 1)) xi xt xn (nI ns) (nI vv) (nI bb))), (mr 5, .inl (kI, 3002, .inl fk))]) hP hD [4, 2] [0, 1, 3] rfl rfl (by decide) (by decide) hk1 hFc hP1 hD1
      replace hP := hPj
      replace hD := hDj
      clear hPj hDj
      replace hK := hK.app hK1
      generalize H1 = H at hP hS ⊢
      replace hP : va_P (dC, dI) vwCl (([(ee, .inr (15, [.int 5, .int tx, .int 0, .int (nI (pp + 1)), .int 0, .int 0, .long 0, .int 0, .null, .null, .null, .int 0, .null, .null])), (mr 8, .inl (kL, 3002, .inr (.inl fn))), (mr 6, .inl (kI, 3002, .inl fa)), (m9, .inr (23, mA mr mv vf xl (nI zs) 0 xa (nI T) (nI (pp + 1 + 1)) xi xt xn (nI ns) (nI vv) (nI bb))), (mr 5, .inl (kI, 3002, .inl fk))] : va_W) ++ (sT L F)) H := hP
      replace hD : va_D A (([(ee, .inr (15, [.int 5, .int tx, .int 0, .int (nI (pp + 1)), .int 0, .int 0, .long 0, .int 0, .null, .null, .null, .int 0, .null, .null])), (mr 8, .inl (kL, 3002, .inr (.inl fn))), (mr 6, .inl (kI, 3002, .inl fa)), (m9, .inr (23, mA mr mv vf xl (nI zs) 0 xa (nI T) (nI (pp + 1 + 1)) xi xt xn (nI ns) (nI vv) (nI bb))), (mr 5, .inl (kI, 3002, .inl fk))] : va_W) ++ (sT L F)) := hD
      replace hK : va_K (dC, dI) vwCl [(kI, .int), (kL, .long), (kE, .object RX15), (kI, .int)] s := hK
      replace hK := hK.sub (tys' := [(kI, .int), (kL, .long), (kE, .object RX15)]) [0, 1, 2] rfl
      clear hz1 hk1 hPc hDc hKc hFc hP1 hD1 hK1
      obtain rfl : r_9 = 0 := hw
      refine lv_if_eq (tgt := 45) hx hb dX23_newFields_31 (by decide) (fun _ => ?_) (fun c_10 => absurd (by decide) c_10)
      refine lv_aload_n hx hb dX23_newFields_45 rfl (lv_at hl 0 rfl) ?_
      refine lv_dup hx hb dX23_newFields_46 rfl ?_
      refine va_get (D := (dC, dI)) (ci := 23) (v := .int (nI ns)) (C := RX23) (T := TX23) (N := 89) hx hb hts in_c_xnf_X23 hown hK hP 3 rfl rfl 15 (by decide) (hts (.fieldLink RX23 104 "OwnedPlacesModel" "nest" "I") (wm_c_xnf 29 rfl)) (fun _ h9 => h9) rfl dX23_newFields_47 ?_
      refine lv_iconst (v := 1) hx hb dX23_newFields_50 (by decide) ?_
      refine lv_iadd hx hb dX23_newFields_51 ?_
      refine lv_topi (fun f_11 ef_11 => ?_)
      obtain rfl : f_11 = nI (ns + 1) := ef_11.trans (nI_1 _)
      refine va_put (D := (dC, dI)) (ci := 23) (v := .int (nI (ns + 1))) (ty := .int) (C := RX23) (T := TX23) (N := 89) hx hb hts in_c_xnf_X23 tyX23 tyX23_ok nmX23 hown hK hP hD hS 3 rfl rfl 15 (by decide) (hts (.fieldLink RX23 104 "OwnedPlacesModel" "nest" "I") (wm_c_xnf 29 rfl)) (fun _ h9 => h9) rfl (by decide +kernel) rfl rfl (Nat.le_of_ble_eq_true rfl) dX23_newFields_52 (fun H locs hP hD hS => ?_)
      replace hP : va_P (dC, dI) vwCl (([(ee, .inr (15, [.int 5, .int tx, .int 0, .int (nI (pp + 1)), .int 0, .int 0, .long 0, .int 0, .null, .null, .null, .int 0, .null, .null])), (mr 8, .inl (kL, 3002, .inr (.inl fn))), (mr 6, .inl (kI, 3002, .inl fa)), (m9, .inr (23, mA mr mv vf xl (nI zs) 0 xa (nI T) (nI (pp + 1 + 1)) xi xt xn (nI (ns + 1)) (nI vv) (nI bb))), (mr 5, .inl (kI, 3002, .inl fk))] : va_W) ++ (sT L F)) H := hP
      replace hD : va_D A (([(ee, .inr (15, [.int 5, .int tx, .int 0, .int (nI (pp + 1)), .int 0, .int 0, .long 0, .int 0, .null, .null, .null, .int 0, .null, .null])), (mr 8, .inl (kL, 3002, .inr (.inl fn))), (mr 6, .inl (kI, 3002, .inl fa)), (m9, .inr (23, mA mr mv vf xl (nI zs) 0 xa (nI T) (nI (pp + 1 + 1)) xi xt xn (nI (ns + 1)) (nI vv) (nI bb))), (mr 5, .inl (kI, 3002, .inl fk))] : va_W) ++ (sT L F)) := hD
      refine lv_aload_n hx hb dX23_newFields_55 rfl (lv_at hl 0 rfl) ?_
      refine lv_bipush (v := 63) hx hb dX23_newFields_56 (by decide) ?_
      replace hPc := hP.subF (f' := [(m9, .inr (23, mA mr mv vf xl (nI zs) 0 xa (nI T) (nI (pp + 1 + 1)) xi xt xn (nI (ns + 1)) (nI vv) (nI bb))), (mr 5, .inl (kI, 3002, .inl fk)), (mr 6, .inl (kI, 3002, .inl fa))]) [3, 4, 2] rfl
      replace hDc := hD.subF (f' := [(m9, .inr (23, mA mr mv vf xl (nI zs) 0 xa (nI T) (nI (pp + 1 + 1)) xi xt xn (nI (ns + 1)) (nI vv) (nI bb))), (mr 5, .inl (kI, 3002, .inl fk)), (mr 6, .inl (kI, 3002, .inl fa))]) [3, 4, 2] (by decide) rfl
      replace hKc := hK.sub (tys' := [(kI, .int)]) [0] rfl
      replace hFc := va_freeT (wc := [(m9, .inr (23, mA mr mv vf xl (nI zs) 0 xa (nI T) (nI (pp + 1 + 1)) xi xt xn (nI (ns + 1)) (nI vv) (nI bb))), (mr 5, .inl (kI, 3002, .inl fk)), (mr 6, .inl (kI, 3002, .inl fa))]) hD hS hA [3, 4, 2] rfl
      refine va_callv (va_runV (As := [.int 63]) (rest := []) ⟨hx, hb, hml, hown, hts⟩ (c_rtkN l dC dI m9 mr mv vf xl xa xi xt xn zs T (pp + 1 + 1) (ns + 1) vv bb kI fk fa 63 H.size hT hp_5 hk0 (by decide) hk_8) (cwV 1 hts g_c_xnf_c_rtkN_58 rfl rfl rfl (by decide +kernel) ⟨by show 1 + 1 ≤ 3 + 12 * k; omega, by show 8 + (2 + 11) + (22) ≤ 63 + 279 * k; omega⟩) ⟨fun a U g mk q => by obtain ⟨q0, q1, qP, qK, qD⟩ := q; exact ⟨q0, q1, qP, va_K.moved (u := U) (U := U.calling g mk a) (Vm.Alike.refl U.vm) qK, qD⟩, va_recv hKc hPc (ci := 23) (q0 := 0) rfl rfl, fun U hU hW => ⟨rfl, by rw [hU], by rw [hU]; exact hPc, va_K.moved hW.alike hKc, hDc.weaken (fun _ _ _ _ => trivial)⟩⟩ rfl rfl hl.1 rfl (lv_room (Nat.le_of_ble_eq_true rfl)) dX23_newFields_58 ⟨(show 0 + 0 ≤ (8 * (T - pp) + 3) by omega), (show 0 + 0 ≤ (120 * (T - pp) + 280) by omega)⟩) hS (fun q _ h => hFc q h) hFc (fun u tS H1 locs ht hvm hw hB hz1 hk1 hS => ?_)
      obtain ⟨ff_12, xa_13, hf14_0, hP1, hK1, hD1⟩ := hB
      rw [ht] at hP1
      replace hK1 := va_K.moved hvm.symm hK1
      obtain ⟨hPj, hDj⟩ := va_joinT (wr := [(ee, .inr (15, [.int 5, .int tx, .int 0, .int (nI (pp + 1)), .int 0, .int 0, .long 0, .int 0, .null, .null, .null, .int 0, .null, .null])), (mr 8, .inl (kL, 3002, .inr (.inl fn)))]) (w1 := [(m9, .inr (23, mA mr mv vf xl (nI zs) ff_12 xa_13 (nI T) (nI (pp + 1 + 1)) xi xt xn (nI (ns + 1)) (nI vv) (nI bb))), (mr 5, .inl (kI, 3002, .inl fk)), (mr 6, .inl (kI, 3002, .inl fa))]) hP hD [3, 4, 2] [0, 1] rfl rfl (by decide) (by decide) hk1 hFc hP1 hD1
      replace hP := hPj
      replace hD := hDj
      clear hPj hDj
      replace hK := hK.app hK1
      generalize H1 = H at hP hS ⊢
      replace hP : va_P (dC, dI) vwCl (([(ee, .inr (15, [.int 5, .int tx, .int 0, .int (nI (pp + 1)), .int 0, .int 0, .long 0, .int 0, .null, .null, .null, .int 0, .null, .null])), (mr 8, .inl (kL, 3002, .inr (.inl fn))), (m9, .inr (23, mA mr mv vf xl (nI zs) ff_12 xa_13 (nI T) (nI (pp + 1 + 1)) xi xt xn (nI (ns + 1)) (nI vv) (nI bb))), (mr 5, .inl (kI, 3002, .inl fk)), (mr 6, .inl (kI, 3002, .inl fa))] : va_W) ++ (sT L F)) H := hP
      replace hD : va_D A (([(ee, .inr (15, [.int 5, .int tx, .int 0, .int (nI (pp + 1)), .int 0, .int 0, .long 0, .int 0, .null, .null, .null, .int 0, .null, .null])), (mr 8, .inl (kL, 3002, .inr (.inl fn))), (m9, .inr (23, mA mr mv vf xl (nI zs) ff_12 xa_13 (nI T) (nI (pp + 1 + 1)) xi xt xn (nI (ns + 1)) (nI vv) (nI bb))), (mr 5, .inl (kI, 3002, .inl fk)), (mr 6, .inl (kI, 3002, .inl fa))] : va_W) ++ (sT L F)) := hD
      replace hK : va_K (dC, dI) vwCl [(kI, .int), (kL, .long), (kE, .object RX15), (kI, .int)] s := hK
      replace hK := hK.sub (tys' := [(kI, .int), (kL, .long), (kE, .object RX15)]) [0, 1, 2] rfl
      clear hz1 hk1 hPc hDc hKc hFc hP1 hD1 hK1
      refine lv_iconst (v := 1) hx hb dX23_newFields_61 (by decide) ?_
      refine lv_istore_n (lv' := [(2, .int 1), (0, .ref m9), (1, .ref ee)]) hx hb dX23_newFields_62 rfl hl (by decide) rfl (fun ls hl => ?_)
      refine lv_aload_n hx hb dX23_newFields_63 rfl (lv_at hl 1 rfl) ?_
      replace hPc := hP.subF (f' := [(m9, .inr (23, mA mr mv vf xl (nI zs) ff_12 xa_13 (nI T) (nI (pp + 1 + 1)) xi xt xn (nI (ns + 1)) (nI vv) (nI bb)))]) [2] rfl
      replace hDc := hD.subF (f' := [(m9, .inr (23, mA mr mv vf xl (nI zs) ff_12 xa_13 (nI T) (nI (pp + 1 + 1)) xi xt xn (nI (ns + 1)) (nI vv) (nI bb)))]) [2] (by decide) rfl
      replace hKc := hK.sub (tys' := []) [] rfl
      replace hFc := va_freeT (wc := [(m9, .inr (23, mA mr mv vf xl (nI zs) ff_12 xa_13 (nI T) (nI (pp + 1 + 1)) xi xt xn (nI (ns + 1)) (nI vv) (nI bb)))]) hD hS hA [2] rfl
      refine va_calli (va_runV (As := []) (rest := []) ⟨hx, hb, hml, hown, hts⟩ (c_rokB l dC dI m9 mr mv vf xl xa_13 xi xt xn zs T (pp + 1 + 1) (ns + 1) vv bb kI fk fa ff_12 H.size hf14_0) (cwV 0 hts g_c_xnf_c_rokB_64 rfl rfl rfl (by decide +kernel) ⟨by show 0 + 1 ≤ 3 + 12 * k; omega, by show 8 + (1 + 11) + (0) ≤ 63 + 279 * k; omega⟩) ⟨fun a U g mk q => by obtain ⟨q0, q1, qP, qK, qD⟩ := q; exact ⟨q0, q1, qP, va_K.moved (u := U) (U := U.calling g mk a) (Vm.Alike.refl U.vm) qK, qD⟩, va_recv hKc hPc (ci := 23) (q0 := 0) rfl rfl, fun U hU hW => ⟨rfl, by rw [hU], by rw [hU]; exact hPc, va_K.moved hW.alike hKc, hDc.weaken (fun _ _ _ _ => trivial)⟩⟩ rfl rfl hl.1 rfl (lv_room (Nat.le_of_ble_eq_true rfl)) dX23_newFields_64 ⟨(show 0 + 0 ≤ (8 * (T - pp) + 3) by omega), (show 0 + 0 ≤ (120 * (T - pp) + 280) by omega)⟩) hS (fun q _ h => hFc q h) hFc (fun r_15 u tS H1 locs ht hvm hw hB hz1 hk1 hS => ?_)
      obtain ⟨hP1, hK1, hD1⟩ := hB
      rw [ht] at hP1
      replace hK1 := va_K.moved hvm.symm hK1
      obtain ⟨hPj, hDj⟩ := va_joinT (wr := [(ee, .inr (15, [.int 5, .int tx, .int 0, .int (nI (pp + 1)), .int 0, .int 0, .long 0, .int 0, .null, .null, .null, .int 0, .null, .null])), (mr 8, .inl (kL, 3002, .inr (.inl fn))), (mr 5, .inl (kI, 3002, .inl fk)), (mr 6, .inl (kI, 3002, .inl fa))]) (w1 := [(m9, .inr (23, mA mr mv vf xl (nI zs) ff_12 xa_13 (nI T) (nI (pp + 1 + 1)) xi xt xn (nI (ns + 1)) (nI vv) (nI bb)))]) hP hD [2] [0, 1, 3, 4] rfl rfl (by decide) (by decide) hk1 hFc hP1 hD1
      replace hP := hPj
      replace hD := hDj
      clear hPj hDj
      generalize H1 = H at hP hS ⊢
      replace hP : va_P (dC, dI) vwCl (([(ee, .inr (15, [.int 5, .int tx, .int 0, .int (nI (pp + 1)), .int 0, .int 0, .long 0, .int 0, .null, .null, .null, .int 0, .null, .null])), (mr 8, .inl (kL, 3002, .inr (.inl fn))), (mr 5, .inl (kI, 3002, .inl fk)), (mr 6, .inl (kI, 3002, .inl fa)), (m9, .inr (23, mA mr mv vf xl (nI zs) ff_12 xa_13 (nI T) (nI (pp + 1 + 1)) xi xt xn (nI (ns + 1)) (nI vv) (nI bb)))] : va_W) ++ (sT L F)) H := hP
      replace hD : va_D A (([(ee, .inr (15, [.int 5, .int tx, .int 0, .int (nI (pp + 1)), .int 0, .int 0, .long 0, .int 0, .null, .null, .null, .int 0, .null, .null])), (mr 8, .inl (kL, 3002, .inr (.inl fn))), (mr 5, .inl (kI, 3002, .inl fk)), (mr 6, .inl (kI, 3002, .inl fa)), (m9, .inr (23, mA mr mv vf xl (nI zs) ff_12 xa_13 (nI T) (nI (pp + 1 + 1)) xi xt xn (nI (ns + 1)) (nI vv) (nI bb)))] : va_W) ++ (sT L F)) := hD
      replace hK : va_K (dC, dI) vwCl [(kI, .int), (kL, .long), (kE, .object RX15)] s := hK
      clear hz1 hk1 hPc hDc hKc hFc hP1 hD1 hK1
      obtain rfl : r_15 = 0 := hw
      refine lv_if_eq (tgt := 111) hx hb dX23_newFields_67 (by decide) (fun _ => ?_) (fun c_16 => absurd (by decide) c_16)
      refine lv_aload_n hx hb dX23_newFields_111 rfl (lv_at hl 1 rfl) ?_
      refine lv_dup hx hb dX23_newFields_112 rfl ?_
      refine va_get (D := (dC, dI)) (ci := 23) (v := .int (nI (ns + 1))) (C := RX23) (T := TX23) (N := 89) hx hb hts in_c_xnf_X23 hown hK hP 4 rfl rfl 15 (by decide) (hts (.fieldLink RX23 104 "OwnedPlacesModel" "nest" "I") (wm_c_xnf 29 rfl)) (fun _ h9 => h9) rfl dX23_newFields_113 ?_
      refine lv_iconst (v := 1) hx hb dX23_newFields_116 (by decide) ?_
      refine lv_isub hx hb dX23_newFields_117 ?_
      refine lv_topi (fun f_17 ef_17 => ?_)
      obtain rfl : f_17 = nI ns := ef_17.trans (nI_pred _)
      refine va_put (D := (dC, dI)) (ci := 23) (v := .int (nI ns)) (ty := .int) (C := RX23) (T := TX23) (N := 89) hx hb hts in_c_xnf_X23 tyX23 tyX23_ok nmX23 hown hK hP hD hS 4 rfl rfl 15 (by decide) (hts (.fieldLink RX23 104 "OwnedPlacesModel" "nest" "I") (wm_c_xnf 29 rfl)) (fun _ h9 => h9) rfl (by decide +kernel) rfl rfl (Nat.le_of_ble_eq_true rfl) dX23_newFields_118 (fun H locs hP hD hS => ?_)
      replace hP : va_P (dC, dI) vwCl (([(ee, .inr (15, [.int 5, .int tx, .int 0, .int (nI (pp + 1)), .int 0, .int 0, .long 0, .int 0, .null, .null, .null, .int 0, .null, .null])), (mr 8, .inl (kL, 3002, .inr (.inl fn))), (mr 5, .inl (kI, 3002, .inl fk)), (mr 6, .inl (kI, 3002, .inl fa)), (m9, .inr (23, mA mr mv vf xl (nI zs) ff_12 xa_13 (nI T) (nI (pp + 1 + 1)) xi xt xn (nI ns) (nI vv) (nI bb)))] : va_W) ++ (sT L F)) H := hP
      replace hD : va_D A (([(ee, .inr (15, [.int 5, .int tx, .int 0, .int (nI (pp + 1)), .int 0, .int 0, .long 0, .int 0, .null, .null, .null, .int 0, .null, .null])), (mr 8, .inl (kL, 3002, .inr (.inl fn))), (mr 5, .inl (kI, 3002, .inl fk)), (mr 6, .inl (kI, 3002, .inl fa)), (m9, .inr (23, mA mr mv vf xl (nI zs) ff_12 xa_13 (nI T) (nI (pp + 1 + 1)) xi xt xn (nI ns) (nI vv) (nI bb)))] : va_W) ++ (sT L F)) := hD
      refine lv_aload_n hx hb dX23_newFields_121 rfl (lv_at hl 1 rfl) ?_
      refine lv_bipush (v := 64) hx hb dX23_newFields_122 (by decide) ?_
      replace hPc := hP.subF (f' := [(m9, .inr (23, mA mr mv vf xl (nI zs) ff_12 xa_13 (nI T) (nI (pp + 1 + 1)) xi xt xn (nI ns) (nI vv) (nI bb))), (mr 5, .inl (kI, 3002, .inl fk)), (mr 6, .inl (kI, 3002, .inl fa))]) [4, 2, 3] rfl
      replace hDc := hD.subF (f' := [(m9, .inr (23, mA mr mv vf xl (nI zs) ff_12 xa_13 (nI T) (nI (pp + 1 + 1)) xi xt xn (nI ns) (nI vv) (nI bb))), (mr 5, .inl (kI, 3002, .inl fk)), (mr 6, .inl (kI, 3002, .inl fa))]) [4, 2, 3] (by decide) rfl
      replace hKc := hK.sub (tys' := [(kI, .int)]) [0] rfl
      replace hFc := va_freeT (wc := [(m9, .inr (23, mA mr mv vf xl (nI zs) ff_12 xa_13 (nI T) (nI (pp + 1 + 1)) xi xt xn (nI ns) (nI vv) (nI bb))), (mr 5, .inl (kI, 3002, .inl fk)), (mr 6, .inl (kI, 3002, .inl fa))]) hD hS hA [4, 2, 3] rfl
      refine va_callv (va_runV (As := [.int 64]) (rest := []) ⟨hx, hb, hml, hown, hts⟩ (c_rtkB l dC dI m9 mr mv vf xl xa_13 xi xt xn zs T (pp + 1 + 1) ns vv bb kI fk fa ff_12 64 H.size hf14_0) (cwV 1 hts g_c_xnf_c_rtkB_124 rfl rfl rfl (by decide +kernel) ⟨by show 1 + 1 ≤ 3 + 12 * k; omega, by show 8 + (2 + 11) + (20) ≤ 63 + 279 * k; omega⟩) ⟨fun a U g mk q => by obtain ⟨q0, q1, qP, qK, qD⟩ := q; exact ⟨q0, q1, qP, va_K.moved (u := U) (U := U.calling g mk a) (Vm.Alike.refl U.vm) qK, qD⟩, va_recv hKc hPc (ci := 23) (q0 := 0) rfl rfl, fun U hU hW => ⟨rfl, by rw [hU], by rw [hU]; exact hPc, va_K.moved hW.alike hKc, hDc.weaken (fun _ _ _ _ => trivial)⟩⟩ rfl rfl hl.1 rfl (lv_room (Nat.le_of_ble_eq_true rfl)) dX23_newFields_124 ⟨(show 0 + 0 ≤ (8 * (T - pp) + 3) by omega), (show 0 + 0 ≤ (120 * (T - pp) + 280) by omega)⟩) hS (fun q _ h => hFc q h) hFc (fun u tS H1 locs ht hvm hw hB hz1 hk1 hS => ?_)
      obtain ⟨hP1, hK1, hD1⟩ := hB
      rw [ht] at hP1
      replace hK1 := va_K.moved hvm.symm hK1
      obtain ⟨hPj, hDj⟩ := va_joinT (wr := [(ee, .inr (15, [.int 5, .int tx, .int 0, .int (nI (pp + 1)), .int 0, .int 0, .long 0, .int 0, .null, .null, .null, .int 0, .null, .null])), (mr 8, .inl (kL, 3002, .inr (.inl fn)))]) (w1 := [(m9, .inr (23, mA mr mv vf xl (nI zs) ff_12 xa_13 (nI T) (nI (pp + 1 + 1)) xi xt xn (nI ns) (nI vv) (nI bb))), (mr 5, .inl (kI, 3002, .inl fk)), (mr 6, .inl (kI, 3002, .inl fa))]) hP hD [4, 2, 3] [0, 1] rfl rfl (by decide) (by decide) hk1 hFc hP1 hD1
      replace hP := hPj
      replace hD := hDj
      clear hPj hDj
      replace hK := hK.app hK1
      generalize H1 = H at hP hS ⊢
      replace hP : va_P (dC, dI) vwCl (([(ee, .inr (15, [.int 5, .int tx, .int 0, .int (nI (pp + 1)), .int 0, .int 0, .long 0, .int 0, .null, .null, .null, .int 0, .null, .null])), (mr 8, .inl (kL, 3002, .inr (.inl fn))), (m9, .inr (23, mA mr mv vf xl (nI zs) ff_12 xa_13 (nI T) (nI (pp + 1 + 1)) xi xt xn (nI ns) (nI vv) (nI bb))), (mr 5, .inl (kI, 3002, .inl fk)), (mr 6, .inl (kI, 3002, .inl fa))] : va_W) ++ (sT L F)) H := hP
      replace hD : va_D A (([(ee, .inr (15, [.int 5, .int tx, .int 0, .int (nI (pp + 1)), .int 0, .int 0, .long 0, .int 0, .null, .null, .null, .int 0, .null, .null])), (mr 8, .inl (kL, 3002, .inr (.inl fn))), (m9, .inr (23, mA mr mv vf xl (nI zs) ff_12 xa_13 (nI T) (nI (pp + 1 + 1)) xi xt xn (nI ns) (nI vv) (nI bb))), (mr 5, .inl (kI, 3002, .inl fk)), (mr 6, .inl (kI, 3002, .inl fa))] : va_W) ++ (sT L F)) := hD
      replace hK : va_K (dC, dI) vwCl [(kI, .int), (kL, .long), (kE, .object RX15), (kI, .int)] s := hK
      replace hK := hK.sub (tys' := [(kI, .int), (kL, .long), (kE, .object RX15)]) [0, 1, 2] rfl
      clear hz1 hk1 hPc hDc hKc hFc hP1 hD1 hK1
      refine W.grow (fun hgs0 hgs1 => ?_)
      have hP9 := hP.subT (f' := [(ee, .inr (15, [.int 5, .int tx, .int 0, .int (nI (pp + 1)), .int 0, .int 0, .long 0, .int 0, .null, .null, .null, .int (nI 0), .null, .null])), (m9, .inr (23, mA mr mv vf xl (nI zs) ff_12 xa_13 (nI T) (nI (pp + 1 + 1)) xi xt xn (nI ns) (nI vv) (nI bb))), (mr 5, .inl (kI, 3002, .inl fk)), (mr 6, .inl (kI, 3002, .inl fa)), (mr 8, .inl (kL, 3002, .inr (.inl fn)))]) [0, 2, 3, 4, 1] rfl
      have hD9 := hD.subT (f' := [(ee, .inr (15, [.int 5, .int tx, .int 0, .int (nI (pp + 1)), .int 0, .int 0, .long 0, .int 0, .null, .null, .null, .int (nI 0), .null, .null])), (m9, .inr (23, mA mr mv vf xl (nI zs) ff_12 xa_13 (nI T) (nI (pp + 1 + 1)) xi xt xn (nI ns) (nI vv) (nI bb))), (mr 5, .inl (kI, 3002, .inl fk)), (mr 6, .inl (kI, 3002, .inl fa)), (mr 8, .inl (kL, 3002, .inr (.inl fn)))]) [0, 2, 3, 4, 1] (by decide) rfl
      have hK9 := hK.sub (tys' := [(kI, .int), (kL, .long), (kE, .object RX15)]) [0, 1, 2] rfl
      refine W.widen (k := (8 * (T - pp) + 3)) (n := (120 * (T - pp) + 280)) (by omega) (by omega) ?_
      exact W.vret hx hb hr (fun tS ht hW => ⟨⟨(), rfl, trivial, L, F, ff_12, xa_13, pp + 1 + 1, bb, nI (pp + 1), .null, .null, 0, exS.rf, ⟨by omega, by omega, by omega, by omega⟩, (fun q9 => absurd q9 hf14_0), by rw [ht]; exact ⟨by omega, by omega⟩, by rw [ht]; exact hP9, va_K.moved hW.alike hK9, hD9⟩, hS.F ht⟩) hS.2.2 dX23_newFields_127
  · replace hPc := hP.subF (f' := [(m9, .inr (23, mA mr mv vf xl (nI zs) 0 xa (nI T) (nI (pp + 1)) xi xt xn (nI ns) (nI vv) (nI bb))), (mr 5, .inl (kI, 3002, .inl fk)), (mr 6, .inl (kI, 3002, .inl fa))]) [1, 2, 3] rfl
    replace hDc := hD.subF (f' := [(m9, .inr (23, mA mr mv vf xl (nI zs) 0 xa (nI T) (nI (pp + 1)) xi xt xn (nI ns) (nI vv) (nI bb))), (mr 5, .inl (kI, 3002, .inl fk)), (mr 6, .inl (kI, 3002, .inl fa))]) [1, 2, 3] (by decide) rfl
    replace hKc := hK.sub (tys' := [(kI, .int)]) [0] rfl
    replace hFc := va_freeT (wc := [(m9, .inr (23, mA mr mv vf xl (nI zs) 0 xa (nI T) (nI (pp + 1)) xi xt xn (nI ns) (nI vv) (nI bb))), (mr 5, .inl (kI, 3002, .inl fk)), (mr 6, .inl (kI, 3002, .inl fa))]) hD hS hA [1, 2, 3] rfl
    refine va_calli (va_runV (As := []) (rest := [.ref ee]) ⟨hx, hb, hml, hown, hts⟩ (c_rnmN l dC dI m9 mr mv vf xl xa xi xt xn zs T (pp + 1) ns vv bb kI fk fa H.size hT hp_2 hk0 hk_3) (cwV 0 hts g_c_xnf_c_rnmN_12 rfl rfl rfl (by decide +kernel) ⟨by show 2 + 1 ≤ 3 + 12 * k; omega, by show 8 + (1 + 11) + (43) ≤ 63 + 279 * k; omega⟩) ⟨fun a U g mk q => by obtain ⟨q0, q1, qP, qK, qD⟩ := q; exact ⟨q0, q1, qP, va_K.moved (u := U) (U := U.calling g mk a) (Vm.Alike.refl U.vm) qK, qD⟩, va_recv hKc hPc (ci := 23) (q0 := 0) rfl rfl, fun U hU hW => ⟨rfl, by rw [hU], by rw [hU]; exact hPc, va_K.moved hW.alike hKc, hDc.weaken (fun _ _ _ _ => trivial)⟩⟩ rfl rfl hl.1 rfl (lv_room (Nat.le_of_ble_eq_true rfl)) dX23_newFields_12 ⟨(show 0 + 0 ≤ (8 * (T - pp) + 3) by omega), (show 0 + 0 ≤ (120 * (T - pp) + 280) by omega)⟩) hS (fun q _ h => hFc q h) hFc (fun r_6 u tS H1 locs ht hvm hw hB hz1 hk1 hS => ?_)
    obtain ⟨ff_4, xa_5, hf6_0, hP1, hK1, hD1⟩ := hB
    rw [ht] at hP1
    replace hK1 := va_K.moved hvm.symm hK1
    obtain ⟨hPj, hDj⟩ := va_joinT (wr := [(ee, .inr (15, [.int 5, .int tx, .int 0, .int 0, .int 0, .int 0, .long 0, .int 0, .null, .null, .null, .int 0, .null, .null])), (mr 8, .inl (kL, 3002, .inr (.inl fn)))]) (w1 := [(m9, .inr (23, mA mr mv vf xl (nI zs) ff_4 xa_5 (nI T) (nI (pp + 1)) xi xt xn (nI ns) (nI vv) (nI bb))), (mr 5, .inl (kI, 3002, .inl fk)), (mr 6, .inl (kI, 3002, .inl fa))]) hP hD [1, 2, 3] [0, 4] rfl rfl (by decide) (by decide) hk1 hFc hP1 hD1
    replace hP := hPj
    replace hD := hDj
    clear hPj hDj
    replace hK := hK.app hK1
    generalize H1 = H at hP hS ⊢
    replace hP : va_P (dC, dI) vwCl (([(ee, .inr (15, [.int 5, .int tx, .int 0, .int 0, .int 0, .int 0, .long 0, .int 0, .null, .null, .null, .int 0, .null, .null])), (mr 8, .inl (kL, 3002, .inr (.inl fn))), (m9, .inr (23, mA mr mv vf xl (nI zs) ff_4 xa_5 (nI T) (nI (pp + 1)) xi xt xn (nI ns) (nI vv) (nI bb))), (mr 5, .inl (kI, 3002, .inl fk)), (mr 6, .inl (kI, 3002, .inl fa))] : va_W) ++ (sT L F)) H := hP
    replace hD : va_D A (([(ee, .inr (15, [.int 5, .int tx, .int 0, .int 0, .int 0, .int 0, .long 0, .int 0, .null, .null, .null, .int 0, .null, .null])), (mr 8, .inl (kL, 3002, .inr (.inl fn))), (m9, .inr (23, mA mr mv vf xl (nI zs) ff_4 xa_5 (nI T) (nI (pp + 1)) xi xt xn (nI ns) (nI vv) (nI bb))), (mr 5, .inl (kI, 3002, .inl fk)), (mr 6, .inl (kI, 3002, .inl fa))] : va_W) ++ (sT L F)) := hD
    replace hK : va_K (dC, dI) vwCl [(kI, .int), (kL, .long), (kE, .object RX15), (kI, .int)] s := hK
    replace hK := hK.sub (tys' := [(kI, .int), (kL, .long), (kE, .object RX15)]) [0, 1, 2] rfl
    clear hz1 hk1 hPc hDc hKc hFc hP1 hD1 hK1
    refine va_put (D := (dC, dI)) (ci := 15) (v := .int r_6) (ty := .int) (C := RX15) (T := TX15) (N := 14) hx hb hts in_c_xnf_X15 tyX15 tyX15_ok nmX15 hown hK hP hD hS 0 rfl rfl 3 (by decide) (hts (.fieldLink RX23 362 "OwnedPlacesModel$Exp" "name" "I") (wm_c_xnf 27 rfl)) (fun _ h9 => h9) rfl (by decide +kernel) rfl rfl (Nat.le_of_ble_eq_true rfl) dX23_newFields_15 (fun H locs hP hD hS => ?_)
    replace hP : va_P (dC, dI) vwCl (([(ee, .inr (15, [.int 5, .int tx, .int 0, .int r_6, .int 0, .int 0, .long 0, .int 0, .null, .null, .null, .int 0, .null, .null])), (mr 8, .inl (kL, 3002, .inr (.inl fn))), (m9, .inr (23, mA mr mv vf xl (nI zs) ff_4 xa_5 (nI T) (nI (pp + 1)) xi xt xn (nI ns) (nI vv) (nI bb))), (mr 5, .inl (kI, 3002, .inl fk)), (mr 6, .inl (kI, 3002, .inl fa))] : va_W) ++ (sT L F)) H := hP
    replace hD : va_D A (([(ee, .inr (15, [.int 5, .int tx, .int 0, .int r_6, .int 0, .int 0, .long 0, .int 0, .null, .null, .null, .int 0, .null, .null])), (mr 8, .inl (kL, 3002, .inr (.inl fn))), (m9, .inr (23, mA mr mv vf xl (nI zs) ff_4 xa_5 (nI T) (nI (pp + 1)) xi xt xn (nI ns) (nI vv) (nI bb))), (mr 5, .inl (kI, 3002, .inl fk)), (mr 6, .inl (kI, 3002, .inl fa))] : va_W) ++ (sT L F)) := hD
    refine lv_aload_n hx hb dX23_newFields_18 rfl (lv_at hl 0 rfl) ?_
    replace hPc := hP.subF (f' := [(m9, .inr (23, mA mr mv vf xl (nI zs) ff_4 xa_5 (nI T) (nI (pp + 1)) xi xt xn (nI ns) (nI vv) (nI bb)))]) [2] rfl
    replace hDc := hD.subF (f' := [(m9, .inr (23, mA mr mv vf xl (nI zs) ff_4 xa_5 (nI T) (nI (pp + 1)) xi xt xn (nI ns) (nI vv) (nI bb)))]) [2] (by decide) rfl
    replace hKc := hK.sub (tys' := []) [] rfl
    replace hFc := va_freeT (wc := [(m9, .inr (23, mA mr mv vf xl (nI zs) ff_4 xa_5 (nI T) (nI (pp + 1)) xi xt xn (nI ns) (nI vv) (nI bb)))]) hD hS hA [2] rfl
    refine va_calli (va_runV (As := []) (rest := []) ⟨hx, hb, hml, hown, hts⟩ (c_rokB l dC dI m9 mr mv vf xl xa_5 xi xt xn zs T (pp + 1) ns vv bb kI fk fa ff_4 H.size hf6_0) (cwV 0 hts g_c_xnf_c_rokB_19 rfl rfl rfl (by decide +kernel) ⟨by show 0 + 1 ≤ 3 + 12 * k; omega, by show 8 + (1 + 11) + (0) ≤ 63 + 279 * k; omega⟩) ⟨fun a U g mk q => by obtain ⟨q0, q1, qP, qK, qD⟩ := q; exact ⟨q0, q1, qP, va_K.moved (u := U) (U := U.calling g mk a) (Vm.Alike.refl U.vm) qK, qD⟩, va_recv hKc hPc (ci := 23) (q0 := 0) rfl rfl, fun U hU hW => ⟨rfl, by rw [hU], by rw [hU]; exact hPc, va_K.moved hW.alike hKc, hDc.weaken (fun _ _ _ _ => trivial)⟩⟩ rfl rfl hl.1 rfl (lv_room (Nat.le_of_ble_eq_true rfl)) dX23_newFields_19 ⟨(show 0 + 0 ≤ (8 * (T - pp) + 3) by omega), (show 0 + 0 ≤ (120 * (T - pp) + 280) by omega)⟩) hS (fun q _ h => hFc q h) hFc (fun r_7 u tS H1 locs ht hvm hw hB hz1 hk1 hS => ?_)
    obtain ⟨hP1, hK1, hD1⟩ := hB
    rw [ht] at hP1
    replace hK1 := va_K.moved hvm.symm hK1
    obtain ⟨hPj, hDj⟩ := va_joinT (wr := [(ee, .inr (15, [.int 5, .int tx, .int 0, .int r_6, .int 0, .int 0, .long 0, .int 0, .null, .null, .null, .int 0, .null, .null])), (mr 8, .inl (kL, 3002, .inr (.inl fn))), (mr 5, .inl (kI, 3002, .inl fk)), (mr 6, .inl (kI, 3002, .inl fa))]) (w1 := [(m9, .inr (23, mA mr mv vf xl (nI zs) ff_4 xa_5 (nI T) (nI (pp + 1)) xi xt xn (nI ns) (nI vv) (nI bb)))]) hP hD [2] [0, 1, 3, 4] rfl rfl (by decide) (by decide) hk1 hFc hP1 hD1
    replace hP := hPj
    replace hD := hDj
    clear hPj hDj
    generalize H1 = H at hP hS ⊢
    replace hP : va_P (dC, dI) vwCl (([(ee, .inr (15, [.int 5, .int tx, .int 0, .int r_6, .int 0, .int 0, .long 0, .int 0, .null, .null, .null, .int 0, .null, .null])), (mr 8, .inl (kL, 3002, .inr (.inl fn))), (mr 5, .inl (kI, 3002, .inl fk)), (mr 6, .inl (kI, 3002, .inl fa)), (m9, .inr (23, mA mr mv vf xl (nI zs) ff_4 xa_5 (nI T) (nI (pp + 1)) xi xt xn (nI ns) (nI vv) (nI bb)))] : va_W) ++ (sT L F)) H := hP
    replace hD : va_D A (([(ee, .inr (15, [.int 5, .int tx, .int 0, .int r_6, .int 0, .int 0, .long 0, .int 0, .null, .null, .null, .int 0, .null, .null])), (mr 8, .inl (kL, 3002, .inr (.inl fn))), (mr 5, .inl (kI, 3002, .inl fk)), (mr 6, .inl (kI, 3002, .inl fa)), (m9, .inr (23, mA mr mv vf xl (nI zs) ff_4 xa_5 (nI T) (nI (pp + 1)) xi xt xn (nI ns) (nI vv) (nI bb)))] : va_W) ++ (sT L F)) := hD
    replace hK : va_K (dC, dI) vwCl [(kI, .int), (kL, .long), (kE, .object RX15)] s := hK
    clear hz1 hk1 hPc hDc hKc hFc hP1 hD1 hK1
    obtain rfl : r_7 = 0 := hw
    refine lv_if_eq (tgt := 45) hx hb dX23_newFields_22 (by decide) (fun _ => ?_) (fun c_8 => absurd (by decide) c_8)
    refine lv_aload_n hx hb dX23_newFields_45 rfl (lv_at hl 0 rfl) ?_
    refine lv_dup hx hb dX23_newFields_46 rfl ?_
    refine va_get (D := (dC, dI)) (ci := 23) (v := .int (nI ns)) (C := RX23) (T := TX23) (N := 89) hx hb hts in_c_xnf_X23 hown hK hP 4 rfl rfl 15 (by decide) (hts (.fieldLink RX23 104 "OwnedPlacesModel" "nest" "I") (wm_c_xnf 29 rfl)) (fun _ h9 => h9) rfl dX23_newFields_47 ?_
    refine lv_iconst (v := 1) hx hb dX23_newFields_50 (by decide) ?_
    refine lv_iadd hx hb dX23_newFields_51 ?_
    refine lv_topi (fun f_9 ef_9 => ?_)
    obtain rfl : f_9 = nI (ns + 1) := ef_9.trans (nI_1 _)
    refine va_put (D := (dC, dI)) (ci := 23) (v := .int (nI (ns + 1))) (ty := .int) (C := RX23) (T := TX23) (N := 89) hx hb hts in_c_xnf_X23 tyX23 tyX23_ok nmX23 hown hK hP hD hS 4 rfl rfl 15 (by decide) (hts (.fieldLink RX23 104 "OwnedPlacesModel" "nest" "I") (wm_c_xnf 29 rfl)) (fun _ h9 => h9) rfl (by decide +kernel) rfl rfl (Nat.le_of_ble_eq_true rfl) dX23_newFields_52 (fun H locs hP hD hS => ?_)
    replace hP : va_P (dC, dI) vwCl (([(ee, .inr (15, [.int 5, .int tx, .int 0, .int r_6, .int 0, .int 0, .long 0, .int 0, .null, .null, .null, .int 0, .null, .null])), (mr 8, .inl (kL, 3002, .inr (.inl fn))), (mr 5, .inl (kI, 3002, .inl fk)), (mr 6, .inl (kI, 3002, .inl fa)), (m9, .inr (23, mA mr mv vf xl (nI zs) ff_4 xa_5 (nI T) (nI (pp + 1)) xi xt xn (nI (ns + 1)) (nI vv) (nI bb)))] : va_W) ++ (sT L F)) H := hP
    replace hD : va_D A (([(ee, .inr (15, [.int 5, .int tx, .int 0, .int r_6, .int 0, .int 0, .long 0, .int 0, .null, .null, .null, .int 0, .null, .null])), (mr 8, .inl (kL, 3002, .inr (.inl fn))), (mr 5, .inl (kI, 3002, .inl fk)), (mr 6, .inl (kI, 3002, .inl fa)), (m9, .inr (23, mA mr mv vf xl (nI zs) ff_4 xa_5 (nI T) (nI (pp + 1)) xi xt xn (nI (ns + 1)) (nI vv) (nI bb)))] : va_W) ++ (sT L F)) := hD
    refine lv_aload_n hx hb dX23_newFields_55 rfl (lv_at hl 0 rfl) ?_
    refine lv_bipush (v := 63) hx hb dX23_newFields_56 (by decide) ?_
    replace hPc := hP.subF (f' := [(m9, .inr (23, mA mr mv vf xl (nI zs) ff_4 xa_5 (nI T) (nI (pp + 1)) xi xt xn (nI (ns + 1)) (nI vv) (nI bb))), (mr 5, .inl (kI, 3002, .inl fk)), (mr 6, .inl (kI, 3002, .inl fa))]) [4, 2, 3] rfl
    replace hDc := hD.subF (f' := [(m9, .inr (23, mA mr mv vf xl (nI zs) ff_4 xa_5 (nI T) (nI (pp + 1)) xi xt xn (nI (ns + 1)) (nI vv) (nI bb))), (mr 5, .inl (kI, 3002, .inl fk)), (mr 6, .inl (kI, 3002, .inl fa))]) [4, 2, 3] (by decide) rfl
    replace hKc := hK.sub (tys' := [(kI, .int)]) [0] rfl
    replace hFc := va_freeT (wc := [(m9, .inr (23, mA mr mv vf xl (nI zs) ff_4 xa_5 (nI T) (nI (pp + 1)) xi xt xn (nI (ns + 1)) (nI vv) (nI bb))), (mr 5, .inl (kI, 3002, .inl fk)), (mr 6, .inl (kI, 3002, .inl fa))]) hD hS hA [4, 2, 3] rfl
    refine va_callv (va_runV (As := [.int 63]) (rest := []) ⟨hx, hb, hml, hown, hts⟩ (c_rtkB l dC dI m9 mr mv vf xl xa_5 xi xt xn zs T (pp + 1) (ns + 1) vv bb kI fk fa ff_4 63 H.size hf6_0) (cwV 1 hts g_c_xnf_c_rtkB_58 rfl rfl rfl (by decide +kernel) ⟨by show 1 + 1 ≤ 3 + 12 * k; omega, by show 8 + (2 + 11) + (20) ≤ 63 + 279 * k; omega⟩) ⟨fun a U g mk q => by obtain ⟨q0, q1, qP, qK, qD⟩ := q; exact ⟨q0, q1, qP, va_K.moved (u := U) (U := U.calling g mk a) (Vm.Alike.refl U.vm) qK, qD⟩, va_recv hKc hPc (ci := 23) (q0 := 0) rfl rfl, fun U hU hW => ⟨rfl, by rw [hU], by rw [hU]; exact hPc, va_K.moved hW.alike hKc, hDc.weaken (fun _ _ _ _ => trivial)⟩⟩ rfl rfl hl.1 rfl (lv_room (Nat.le_of_ble_eq_true rfl)) dX23_newFields_58 ⟨(show 0 + 0 ≤ (8 * (T - pp) + 3) by omega), (show 0 + 0 ≤ (120 * (T - pp) + 280) by omega)⟩) hS (fun q _ h => hFc q h) hFc (fun u tS H1 locs ht hvm hw hB hz1 hk1 hS => ?_)
    obtain ⟨hP1, hK1, hD1⟩ := hB
    rw [ht] at hP1
    replace hK1 := va_K.moved hvm.symm hK1
    obtain ⟨hPj, hDj⟩ := va_joinT (wr := [(ee, .inr (15, [.int 5, .int tx, .int 0, .int r_6, .int 0, .int 0, .long 0, .int 0, .null, .null, .null, .int 0, .null, .null])), (mr 8, .inl (kL, 3002, .inr (.inl fn)))]) (w1 := [(m9, .inr (23, mA mr mv vf xl (nI zs) ff_4 xa_5 (nI T) (nI (pp + 1)) xi xt xn (nI (ns + 1)) (nI vv) (nI bb))), (mr 5, .inl (kI, 3002, .inl fk)), (mr 6, .inl (kI, 3002, .inl fa))]) hP hD [4, 2, 3] [0, 1] rfl rfl (by decide) (by decide) hk1 hFc hP1 hD1
    replace hP := hPj
    replace hD := hDj
    clear hPj hDj
    replace hK := hK.app hK1
    generalize H1 = H at hP hS ⊢
    replace hP : va_P (dC, dI) vwCl (([(ee, .inr (15, [.int 5, .int tx, .int 0, .int r_6, .int 0, .int 0, .long 0, .int 0, .null, .null, .null, .int 0, .null, .null])), (mr 8, .inl (kL, 3002, .inr (.inl fn))), (m9, .inr (23, mA mr mv vf xl (nI zs) ff_4 xa_5 (nI T) (nI (pp + 1)) xi xt xn (nI (ns + 1)) (nI vv) (nI bb))), (mr 5, .inl (kI, 3002, .inl fk)), (mr 6, .inl (kI, 3002, .inl fa))] : va_W) ++ (sT L F)) H := hP
    replace hD : va_D A (([(ee, .inr (15, [.int 5, .int tx, .int 0, .int r_6, .int 0, .int 0, .long 0, .int 0, .null, .null, .null, .int 0, .null, .null])), (mr 8, .inl (kL, 3002, .inr (.inl fn))), (m9, .inr (23, mA mr mv vf xl (nI zs) ff_4 xa_5 (nI T) (nI (pp + 1)) xi xt xn (nI (ns + 1)) (nI vv) (nI bb))), (mr 5, .inl (kI, 3002, .inl fk)), (mr 6, .inl (kI, 3002, .inl fa))] : va_W) ++ (sT L F)) := hD
    replace hK : va_K (dC, dI) vwCl [(kI, .int), (kL, .long), (kE, .object RX15), (kI, .int)] s := hK
    replace hK := hK.sub (tys' := [(kI, .int), (kL, .long), (kE, .object RX15)]) [0, 1, 2] rfl
    clear hz1 hk1 hPc hDc hKc hFc hP1 hD1 hK1
    refine lv_iconst (v := 1) hx hb dX23_newFields_61 (by decide) ?_
    refine lv_istore_n (lv' := [(2, .int 1), (0, .ref m9), (1, .ref ee)]) hx hb dX23_newFields_62 rfl hl (by decide) rfl (fun ls hl => ?_)
    refine lv_aload_n hx hb dX23_newFields_63 rfl (lv_at hl 1 rfl) ?_
    replace hPc := hP.subF (f' := [(m9, .inr (23, mA mr mv vf xl (nI zs) ff_4 xa_5 (nI T) (nI (pp + 1)) xi xt xn (nI (ns + 1)) (nI vv) (nI bb)))]) [2] rfl
    replace hDc := hD.subF (f' := [(m9, .inr (23, mA mr mv vf xl (nI zs) ff_4 xa_5 (nI T) (nI (pp + 1)) xi xt xn (nI (ns + 1)) (nI vv) (nI bb)))]) [2] (by decide) rfl
    replace hKc := hK.sub (tys' := []) [] rfl
    replace hFc := va_freeT (wc := [(m9, .inr (23, mA mr mv vf xl (nI zs) ff_4 xa_5 (nI T) (nI (pp + 1)) xi xt xn (nI (ns + 1)) (nI vv) (nI bb)))]) hD hS hA [2] rfl
    refine va_calli (va_runV (As := []) (rest := []) ⟨hx, hb, hml, hown, hts⟩ (c_rokB l dC dI m9 mr mv vf xl xa_5 xi xt xn zs T (pp + 1) (ns + 1) vv bb kI fk fa ff_4 H.size hf6_0) (cwV 0 hts g_c_xnf_c_rokB_64 rfl rfl rfl (by decide +kernel) ⟨by show 0 + 1 ≤ 3 + 12 * k; omega, by show 8 + (1 + 11) + (0) ≤ 63 + 279 * k; omega⟩) ⟨fun a U g mk q => by obtain ⟨q0, q1, qP, qK, qD⟩ := q; exact ⟨q0, q1, qP, va_K.moved (u := U) (U := U.calling g mk a) (Vm.Alike.refl U.vm) qK, qD⟩, va_recv hKc hPc (ci := 23) (q0 := 0) rfl rfl, fun U hU hW => ⟨rfl, by rw [hU], by rw [hU]; exact hPc, va_K.moved hW.alike hKc, hDc.weaken (fun _ _ _ _ => trivial)⟩⟩ rfl rfl hl.1 rfl (lv_room (Nat.le_of_ble_eq_true rfl)) dX23_newFields_64 ⟨(show 0 + 0 ≤ (8 * (T - pp) + 3) by omega), (show 0 + 0 ≤ (120 * (T - pp) + 280) by omega)⟩) hS (fun q _ h => hFc q h) hFc (fun r_11 u tS H1 locs ht hvm hw hB hz1 hk1 hS => ?_)
    obtain ⟨hP1, hK1, hD1⟩ := hB
    rw [ht] at hP1
    replace hK1 := va_K.moved hvm.symm hK1
    obtain ⟨hPj, hDj⟩ := va_joinT (wr := [(ee, .inr (15, [.int 5, .int tx, .int 0, .int r_6, .int 0, .int 0, .long 0, .int 0, .null, .null, .null, .int 0, .null, .null])), (mr 8, .inl (kL, 3002, .inr (.inl fn))), (mr 5, .inl (kI, 3002, .inl fk)), (mr 6, .inl (kI, 3002, .inl fa))]) (w1 := [(m9, .inr (23, mA mr mv vf xl (nI zs) ff_4 xa_5 (nI T) (nI (pp + 1)) xi xt xn (nI (ns + 1)) (nI vv) (nI bb)))]) hP hD [2] [0, 1, 3, 4] rfl rfl (by decide) (by decide) hk1 hFc hP1 hD1
    replace hP := hPj
    replace hD := hDj
    clear hPj hDj
    generalize H1 = H at hP hS ⊢
    replace hP : va_P (dC, dI) vwCl (([(ee, .inr (15, [.int 5, .int tx, .int 0, .int r_6, .int 0, .int 0, .long 0, .int 0, .null, .null, .null, .int 0, .null, .null])), (mr 8, .inl (kL, 3002, .inr (.inl fn))), (mr 5, .inl (kI, 3002, .inl fk)), (mr 6, .inl (kI, 3002, .inl fa)), (m9, .inr (23, mA mr mv vf xl (nI zs) ff_4 xa_5 (nI T) (nI (pp + 1)) xi xt xn (nI (ns + 1)) (nI vv) (nI bb)))] : va_W) ++ (sT L F)) H := hP
    replace hD : va_D A (([(ee, .inr (15, [.int 5, .int tx, .int 0, .int r_6, .int 0, .int 0, .long 0, .int 0, .null, .null, .null, .int 0, .null, .null])), (mr 8, .inl (kL, 3002, .inr (.inl fn))), (mr 5, .inl (kI, 3002, .inl fk)), (mr 6, .inl (kI, 3002, .inl fa)), (m9, .inr (23, mA mr mv vf xl (nI zs) ff_4 xa_5 (nI T) (nI (pp + 1)) xi xt xn (nI (ns + 1)) (nI vv) (nI bb)))] : va_W) ++ (sT L F)) := hD
    replace hK : va_K (dC, dI) vwCl [(kI, .int), (kL, .long), (kE, .object RX15)] s := hK
    clear hz1 hk1 hPc hDc hKc hFc hP1 hD1 hK1
    obtain rfl : r_11 = 0 := hw
    refine lv_if_eq (tgt := 111) hx hb dX23_newFields_67 (by decide) (fun _ => ?_) (fun c_12 => absurd (by decide) c_12)
    refine lv_aload_n hx hb dX23_newFields_111 rfl (lv_at hl 1 rfl) ?_
    refine lv_dup hx hb dX23_newFields_112 rfl ?_
    refine va_get (D := (dC, dI)) (ci := 23) (v := .int (nI (ns + 1))) (C := RX23) (T := TX23) (N := 89) hx hb hts in_c_xnf_X23 hown hK hP 4 rfl rfl 15 (by decide) (hts (.fieldLink RX23 104 "OwnedPlacesModel" "nest" "I") (wm_c_xnf 29 rfl)) (fun _ h9 => h9) rfl dX23_newFields_113 ?_
    refine lv_iconst (v := 1) hx hb dX23_newFields_116 (by decide) ?_
    refine lv_isub hx hb dX23_newFields_117 ?_
    refine lv_topi (fun f_13 ef_13 => ?_)
    obtain rfl : f_13 = nI ns := ef_13.trans (nI_pred _)
    refine va_put (D := (dC, dI)) (ci := 23) (v := .int (nI ns)) (ty := .int) (C := RX23) (T := TX23) (N := 89) hx hb hts in_c_xnf_X23 tyX23 tyX23_ok nmX23 hown hK hP hD hS 4 rfl rfl 15 (by decide) (hts (.fieldLink RX23 104 "OwnedPlacesModel" "nest" "I") (wm_c_xnf 29 rfl)) (fun _ h9 => h9) rfl (by decide +kernel) rfl rfl (Nat.le_of_ble_eq_true rfl) dX23_newFields_118 (fun H locs hP hD hS => ?_)
    replace hP : va_P (dC, dI) vwCl (([(ee, .inr (15, [.int 5, .int tx, .int 0, .int r_6, .int 0, .int 0, .long 0, .int 0, .null, .null, .null, .int 0, .null, .null])), (mr 8, .inl (kL, 3002, .inr (.inl fn))), (mr 5, .inl (kI, 3002, .inl fk)), (mr 6, .inl (kI, 3002, .inl fa)), (m9, .inr (23, mA mr mv vf xl (nI zs) ff_4 xa_5 (nI T) (nI (pp + 1)) xi xt xn (nI ns) (nI vv) (nI bb)))] : va_W) ++ (sT L F)) H := hP
    replace hD : va_D A (([(ee, .inr (15, [.int 5, .int tx, .int 0, .int r_6, .int 0, .int 0, .long 0, .int 0, .null, .null, .null, .int 0, .null, .null])), (mr 8, .inl (kL, 3002, .inr (.inl fn))), (mr 5, .inl (kI, 3002, .inl fk)), (mr 6, .inl (kI, 3002, .inl fa)), (m9, .inr (23, mA mr mv vf xl (nI zs) ff_4 xa_5 (nI T) (nI (pp + 1)) xi xt xn (nI ns) (nI vv) (nI bb)))] : va_W) ++ (sT L F)) := hD
    refine lv_aload_n hx hb dX23_newFields_121 rfl (lv_at hl 1 rfl) ?_
    refine lv_bipush (v := 64) hx hb dX23_newFields_122 (by decide) ?_
    replace hPc := hP.subF (f' := [(m9, .inr (23, mA mr mv vf xl (nI zs) ff_4 xa_5 (nI T) (nI (pp + 1)) xi xt xn (nI ns) (nI vv) (nI bb))), (mr 5, .inl (kI, 3002, .inl fk)), (mr 6, .inl (kI, 3002, .inl fa))]) [4, 2, 3] rfl
    replace hDc := hD.subF (f' := [(m9, .inr (23, mA mr mv vf xl (nI zs) ff_4 xa_5 (nI T) (nI (pp + 1)) xi xt xn (nI ns) (nI vv) (nI bb))), (mr 5, .inl (kI, 3002, .inl fk)), (mr 6, .inl (kI, 3002, .inl fa))]) [4, 2, 3] (by decide) rfl
    replace hKc := hK.sub (tys' := [(kI, .int)]) [0] rfl
    replace hFc := va_freeT (wc := [(m9, .inr (23, mA mr mv vf xl (nI zs) ff_4 xa_5 (nI T) (nI (pp + 1)) xi xt xn (nI ns) (nI vv) (nI bb))), (mr 5, .inl (kI, 3002, .inl fk)), (mr 6, .inl (kI, 3002, .inl fa))]) hD hS hA [4, 2, 3] rfl
    refine va_callv (va_runV (As := [.int 64]) (rest := []) ⟨hx, hb, hml, hown, hts⟩ (c_rtkB l dC dI m9 mr mv vf xl xa_5 xi xt xn zs T (pp + 1) ns vv bb kI fk fa ff_4 64 H.size hf6_0) (cwV 1 hts g_c_xnf_c_rtkB_124 rfl rfl rfl (by decide +kernel) ⟨by show 1 + 1 ≤ 3 + 12 * k; omega, by show 8 + (2 + 11) + (20) ≤ 63 + 279 * k; omega⟩) ⟨fun a U g mk q => by obtain ⟨q0, q1, qP, qK, qD⟩ := q; exact ⟨q0, q1, qP, va_K.moved (u := U) (U := U.calling g mk a) (Vm.Alike.refl U.vm) qK, qD⟩, va_recv hKc hPc (ci := 23) (q0 := 0) rfl rfl, fun U hU hW => ⟨rfl, by rw [hU], by rw [hU]; exact hPc, va_K.moved hW.alike hKc, hDc.weaken (fun _ _ _ _ => trivial)⟩⟩ rfl rfl hl.1 rfl (lv_room (Nat.le_of_ble_eq_true rfl)) dX23_newFields_124 ⟨(show 0 + 0 ≤ (8 * (T - pp) + 3) by omega), (show 0 + 0 ≤ (120 * (T - pp) + 280) by omega)⟩) hS (fun q _ h => hFc q h) hFc (fun u tS H1 locs ht hvm hw hB hz1 hk1 hS => ?_)
    obtain ⟨hP1, hK1, hD1⟩ := hB
    rw [ht] at hP1
    replace hK1 := va_K.moved hvm.symm hK1
    obtain ⟨hPj, hDj⟩ := va_joinT (wr := [(ee, .inr (15, [.int 5, .int tx, .int 0, .int r_6, .int 0, .int 0, .long 0, .int 0, .null, .null, .null, .int 0, .null, .null])), (mr 8, .inl (kL, 3002, .inr (.inl fn)))]) (w1 := [(m9, .inr (23, mA mr mv vf xl (nI zs) ff_4 xa_5 (nI T) (nI (pp + 1)) xi xt xn (nI ns) (nI vv) (nI bb))), (mr 5, .inl (kI, 3002, .inl fk)), (mr 6, .inl (kI, 3002, .inl fa))]) hP hD [4, 2, 3] [0, 1] rfl rfl (by decide) (by decide) hk1 hFc hP1 hD1
    replace hP := hPj
    replace hD := hDj
    clear hPj hDj
    replace hK := hK.app hK1
    generalize H1 = H at hP hS ⊢
    replace hP : va_P (dC, dI) vwCl (([(ee, .inr (15, [.int 5, .int tx, .int 0, .int r_6, .int 0, .int 0, .long 0, .int 0, .null, .null, .null, .int 0, .null, .null])), (mr 8, .inl (kL, 3002, .inr (.inl fn))), (m9, .inr (23, mA mr mv vf xl (nI zs) ff_4 xa_5 (nI T) (nI (pp + 1)) xi xt xn (nI ns) (nI vv) (nI bb))), (mr 5, .inl (kI, 3002, .inl fk)), (mr 6, .inl (kI, 3002, .inl fa))] : va_W) ++ (sT L F)) H := hP
    replace hD : va_D A (([(ee, .inr (15, [.int 5, .int tx, .int 0, .int r_6, .int 0, .int 0, .long 0, .int 0, .null, .null, .null, .int 0, .null, .null])), (mr 8, .inl (kL, 3002, .inr (.inl fn))), (m9, .inr (23, mA mr mv vf xl (nI zs) ff_4 xa_5 (nI T) (nI (pp + 1)) xi xt xn (nI ns) (nI vv) (nI bb))), (mr 5, .inl (kI, 3002, .inl fk)), (mr 6, .inl (kI, 3002, .inl fa))] : va_W) ++ (sT L F)) := hD
    replace hK : va_K (dC, dI) vwCl [(kI, .int), (kL, .long), (kE, .object RX15), (kI, .int)] s := hK
    replace hK := hK.sub (tys' := [(kI, .int), (kL, .long), (kE, .object RX15)]) [0, 1, 2] rfl
    clear hz1 hk1 hPc hDc hKc hFc hP1 hD1 hK1
    refine W.grow (fun hgs0 hgs1 => ?_)
    have hP9 := hP.subT (f' := [(ee, .inr (15, [.int 5, .int tx, .int 0, .int r_6, .int 0, .int 0, .long 0, .int 0, .null, .null, .null, .int (nI 0), .null, .null])), (m9, .inr (23, mA mr mv vf xl (nI zs) ff_4 xa_5 (nI T) (nI (pp + 1)) xi xt xn (nI ns) (nI vv) (nI bb))), (mr 5, .inl (kI, 3002, .inl fk)), (mr 6, .inl (kI, 3002, .inl fa)), (mr 8, .inl (kL, 3002, .inr (.inl fn)))]) [0, 2, 3, 4, 1] rfl
    have hD9 := hD.subT (f' := [(ee, .inr (15, [.int 5, .int tx, .int 0, .int r_6, .int 0, .int 0, .long 0, .int 0, .null, .null, .null, .int (nI 0), .null, .null])), (m9, .inr (23, mA mr mv vf xl (nI zs) ff_4 xa_5 (nI T) (nI (pp + 1)) xi xt xn (nI ns) (nI vv) (nI bb))), (mr 5, .inl (kI, 3002, .inl fk)), (mr 6, .inl (kI, 3002, .inl fa)), (mr 8, .inl (kL, 3002, .inr (.inl fn)))]) [0, 2, 3, 4, 1] (by decide) rfl
    have hK9 := hK.sub (tys' := [(kI, .int), (kL, .long), (kE, .object RX15)]) [0, 1, 2] rfl
    refine W.widen (k := (8 * (T - pp) + 3)) (n := (120 * (T - pp) + 280)) (by omega) (by omega) ?_
    exact W.vret hx hb hr (fun tS ht hW => ⟨⟨(), rfl, trivial, L, F, ff_4, xa_5, pp + 1, bb, r_6, .null, .null, 0, exS.rf, ⟨by omega, by omega, by omega, by omega⟩, (fun q9 => absurd q9 hf6_0), by rw [ht]; exact ⟨by omega, by omega⟩, by rw [ht]; exact hP9, va_K.moved hW.alike hK9, hD9⟩, hS.F ht⟩) hS.2.2 dX23_newFields_127
