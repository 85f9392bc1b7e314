def wf_c_rwr : List Cond := [.code yX23_written cX23_written 3 (some (.object "OwnedPlacesModel$Written")), .classLink RX23 107 RX22, .instantiable RX22 5, .initialized RX22, .code yX22_init cX22_init 1 none, .methodLink RX22 1 objectInit, .instanceMethod objectInit, .code objectInit ⟨#[0xb1]⟩ 1 none, .fieldLink RX22 7 "OwnedPlacesModel$Written" "life" "I", .instanceMethod yX22_init, .code yX23_ok cX23_ok 1 (some .boolean), .fieldLink RX23 80 "OwnedPlacesModel" "fault" "I", .methodLink RX23 89 yX23_ok, .instanceMethod yX23_ok, .selects RX23 yX23_ok yX23_ok, .initialized RX23, .fieldLink RX23 86 "OwnedPlacesModel" "p" "I", .fieldLink RX23 113 "OwnedPlacesModel$Written" "token" "I", .fieldLink RX23 25 "OwnedPlacesModel" "tokenKind" "[I", .fieldLink RX23 116 "OwnedPlacesModel$Written" "kind" "I", .code yX23_is cX23_is 2 (some .boolean), .methodLink RX23 93 yX23_is, .instanceMethod yX23_is, .selects RX23 yX23_is yX23_is, .code yX23_enter cX23_enter 2 none, .fieldLink RX23 104 "OwnedPlacesModel" "nest" "I", .code yX23_fail cX23_fail 3 none, .fieldLink RX23 31 "OwnedPlacesModel" "tokenAt" "[I", .fieldLink RX23 83 "OwnedPlacesModel" "faultAt" "I", .methodLink RX23 96 yX23_fail, .instanceMethod yX23_fail, .selects RX23 yX23_fail yX23_fail, .methodLink RX23 119 yX23_enter, .instanceMethod yX23_enter, .selects RX23 yX23_enter yX23_enter, .methodLink RX23 131 yX23_written, .instanceMethod yX23_written, .selects RX23 yX23_written yX23_written, .fieldLink RX23 135 "OwnedPlacesModel$Written" "of" "LOwnedPlacesModel$Written;", .code yX23_takes cX23_takes 2 (some .boolean), .methodLink RX23 125 yX23_takes, .instanceMethod yX23_takes, .selects RX23 yX23_takes yX23_takes, .fieldLink RX23 122 "OwnedPlacesModel$Written" "life" "I", .fieldLink RX23 128 "OwnedPlacesModel$Written" "name" "I"]
def wp_c_rwr : List Cond := wf_c_rwr ++ (wsX220 ++ (wsX230 ++ []))
theorem in_c_rwr_X22 : ∀ w ∈ wsX220, w ∈ wp_c_rwr := fun w h => List.mem_append_right _ (List.mem_append_left _ h)
theorem in_c_rwr_X23 : ∀ w ∈ wsX230, w ∈ wp_c_rwr := fun w h => List.mem_append_right _ (List.mem_append_right _ (List.mem_append_left _ h))
theorem wg_c_rwr : wf_c_rwr.all goodWord = true := by decide +kernel
theorem wm_c_rwr (k : Nat) {w : Cond} (h : wp_c_rwr[k]? = some w) : w ∈ wp_c_rwr := List.mem_of_getElem? h
def st_c_rwr (l : Launch) (dC : Nat → ClassId) (dI : Nat → Nat → Nat) (k : Nat) : Prop := ∀ (m9 : Nat) (mr : Nat → Nat) (mv : Nat → Int32) (vf : Value) (xl xa xi xt xn : Int32) (zs T pp ns vv bb : Nat) (kI : ClassId) (fk fa : Nat → Int32) (L : List Nat) (F : Nat → va_E) (sl : Nat) (sz : Nat), (T ≤ 3001) → (pp < T) → (fk (T - 1) = 0) → (ns + k = 16) → Met l yX23_written wp_c_rwr ({ frames := 3 + 1 * k, cells := ((T - pp) + 2), slots := (5 * (T - pp) + 10), locals := 54 + 22 * k }) (va_Pc [.ref m9] (fun U => U.heap.size = sz ∧ va_P (dC, dI) vwCl (([(m9, .inr (23, mA mr mv vf xl (nI zs) 0 xa (nI T) (nI pp) xi xt xn (nI ns) (nI vv) (nI bb))), (mr 5, .inl (kI, 3002, .inl fk)), (mr 6, .inl (kI, 3002, .inl fa))] : va_W) ++ (sT L F)) U.heap ∧ va_K (dC, dI) vwCl [(kI, .int)] U ∧ va_D (fun _ => True) (([(m9, .inr (23, mA mr mv vf xl (nI zs) 0 xa (nI T) (nI pp) xi xt xn (nI ns) (nI vv) (nI bb))), (mr 5, .inl (kI, 3002, .inl fk)), (mr 6, .inl (kI, 3002, .inl fa))] : va_W) ++ (sT L F)) ∧ nsM U ∧ slN U.heap = sl)) (va_Qr (fun _ : Unit => True) (fun (_ : Unit) (rA : Nat) (tS : State) => ∃ (L2 : List Nat) (F2 : Nat → va_E) (ff2 : Int32) (xa2 : Int32) (pp2 : Nat), (exS L F L2 F2 ∧ rA ∈ L2) ∧ (∃ vs : List Value, F2 rA = .inr (22, vs)) ∧ (pp ≤ pp2 ∧ pp2 < T) ∧ (ff2 = 0 → isT L2 F2 fk (k + 1) rA pp pp2) ∧ (tS.heap.size ≤ sz + ((pp2 - pp) + 1) ∧ slN tS.heap ≤ sl + (5 * (pp2 - pp) + 5)) ∧ va_P (dC, dI) vwCl (([(m9, .inr (23, mA mr mv vf xl (nI zs) ff2 xa2 (nI T) (nI pp2) xi xt xn (nI ns) (nI vv) (nI bb))), (mr 5, .inl (kI, 3002, .inl fk)), (mr 6, .inl (kI, 3002, .inl fa))] : va_W) ++ (sT L2 F2)) tS.heap ∧ va_K (dC, dI) vwCl [(kI, .int)] tS ∧ va_D (va_A (([(m9, .inr (23, mA mr mv vf xl (nI zs) 0 xa (nI T) (nI pp) xi xt xn (nI ns) (nI vv) (nI bb))), (mr 5, .inl (kI, 3002, .inl fk)), (mr 6, .inl (kI, 3002, .inl fa))] : va_W) ++ (sT L F)) sz) (([(m9, .inr (23, mA mr mv vf xl (nI zs) ff2 xa2 (nI T) (nI pp2) xi xt xn (nI ns) (nI vv) (nI bb))), (mr 5, .inl (kI, 3002, .inl fk)), (mr 6, .inl (kI, 3002, .inl fa))] : va_W) ++ (sT L2 F2))) (va_A (([(m9, .inr (23, mA mr mv vf xl (nI zs) 0 xa (nI T) (nI pp) xi xt xn (nI ns) (nI vv) (nI bb))), (mr 5, .inl (kI, 3002, .inl fk)), (mr 6, .inl (kI, 3002, .inl fa))] : va_W) ++ (sT L F)) sz)) ((T - pp) + 2) (5 * (T - pp) + 10) (va_A (([(m9, .inr (23, mA mr mv vf xl (nI zs) 0 xa (nI T) (nI pp) xi xt xn (nI ns) (nI vv) (nI bb))), (mr 5, .inl (kI, 3002, .inl fk)), (mr 6, .inl (kI, 3002, .inl fa))] : va_W) ++ (sT L F)) sz)
def IH_wr (l : Launch) (dC : Nat → ClassId) (dI : Nat → Nat → Nat) (k : Nat) : Prop := st_c_rwr l dC dI k
set_option maxRecDepth 20000 in
theorem g_c_rwr_c_nW_4 : GoodIn wp_c_rwr wp_c_nW := goodIn_app (goodIn_f (wf_c_nW) [4, 5, 6, 7, 8] rfl wg_c_nW) (goodIn_app (goodIn_sub in_c_rwr_X22 gd_X22) (goodIn_n))
set_option maxRecDepth 20000 in
theorem g_c_rwr_c_rok0_9 : GoodIn wp_c_rwr (wsV RX23 89 RX23 yX23_ok wp_c_rok0) := goodIn_app (goodIn_f [.methodLink RX23 89 yX23_ok, .instanceMethod yX23_ok, .selects RX23 yX23_ok yX23_ok, .initialized RX23] [12, 13, 14, 15] rfl (by decide +kernel)) (goodIn_app (goodIn_f (wf_c_rok0) [10, 11] rfl wg_c_rok0) (goodIn_app (goodIn_sub in_c_rwr_X23 gd_X23) (goodIn_n)))
set_option maxRecDepth 20000 in
theorem g_c_rwr_c_risY_41 : GoodIn wp_c_rwr (wsV RX23 93 RX23 yX23_is wp_c_risY) := goodIn_app (goodIn_f [.methodLink RX23 93 yX23_is, .instanceMethod yX23_is, .selects RX23 yX23_is yX23_is, .initialized RX23] [21, 22, 23, 15] rfl (by decide +kernel)) (goodIn_app (goodIn_f (wf_c_risY) [20, 18, 16] rfl wg_c_risY) (goodIn_app (goodIn_sub in_c_rwr_X23 gd_X23) (goodIn_n)))
set_option maxRecDepth 20000 in
theorem g_c_rwr_c_risN_41 : GoodIn wp_c_rwr (wsV RX23 93 RX23 yX23_is wp_c_risY) := goodIn_app (goodIn_f [.methodLink RX23 93 yX23_is, .instanceMethod yX23_is, .selects RX23 yX23_is yX23_is, .initialized RX23] [21, 22, 23, 15] rfl (by decide +kernel)) (goodIn_app (goodIn_f (wf_c_risY) [20, 18, 16] rfl wg_c_risY) (goodIn_app (goodIn_sub in_c_rwr_X23 gd_X23) (goodIn_n)))
set_option maxRecDepth 20000 in
theorem g_c_rwr_c_renN_61 : GoodIn wp_c_rwr (wsV RX23 119 RX23 yX23_enter wp_c_renY) := goodIn_app (goodIn_f [.methodLink RX23 119 yX23_enter, .instanceMethod yX23_enter, .selects RX23 yX23_enter yX23_enter, .initialized RX23] [32, 33, 34, 15] rfl (by decide +kernel)) (goodIn_app (goodIn_f (wf_c_renY) [24, 10, 11, 12, 13, 14, 15, 25, 26, 27, 28, 29, 30, 31] rfl wg_c_renY) (goodIn_app (goodIn_sub in_c_rwr_X23 gd_X23) (goodIn_n)))
set_option maxRecDepth 20000 in
theorem g_c_rwr_c_renY_61 : GoodIn wp_c_rwr (wsV RX23 119 RX23 yX23_enter wp_c_renY) := goodIn_app (goodIn_f [.methodLink RX23 119 yX23_enter, .instanceMethod yX23_enter, .selects RX23 yX23_enter yX23_enter, .initialized RX23] [32, 33, 34, 15] rfl (by decide +kernel)) (goodIn_app (goodIn_f (wf_c_renY) [24, 10, 11, 12, 13, 14, 15, 25, 26, 27, 28, 29, 30, 31] rfl wg_c_renY) (goodIn_app (goodIn_sub in_c_rwr_X23 gd_X23) (goodIn_n)))
set_option maxRecDepth 20000 in
theorem g_c_rwr_c_risN_67 : GoodIn wp_c_rwr (wsV RX23 93 RX23 yX23_is wp_c_risY) := goodIn_app (goodIn_f [.methodLink RX23 93 yX23_is, .instanceMethod yX23_is, .selects RX23 yX23_is yX23_is, .initialized RX23] [21, 22, 23, 15] rfl (by decide +kernel)) (goodIn_app (goodIn_f (wf_c_risY) [20, 18, 16] rfl wg_c_risY) (goodIn_app (goodIn_sub in_c_rwr_X23 gd_X23) (goodIn_n)))
set_option maxRecDepth 20000 in
theorem g_c_rwr_c_rwrB_138 : GoodIn wp_c_rwr (wsV RX23 131 RX23 yX23_written wp_c_rwrB) := goodIn_app (goodIn_f [.methodLink RX23 131 yX23_written, .instanceMethod yX23_written, .selects RX23 yX23_written yX23_written, .initialized RX23] [35, 36, 37, 15] rfl (by decide +kernel)) (goodIn_app (goodIn_f (wf_c_rwrB) [0, 1, 2, 3, 4, 5, 6, 7, 8, 9, 10, 11, 12, 13, 14, 15] rfl wg_c_rwrB) (goodIn_app (goodIn_sub in_c_rwr_X22 gd_X22) (goodIn_app (goodIn_sub in_c_rwr_X23 gd_X23) (goodIn_n))))
set_option maxRecDepth 20000 in
theorem g_c_rwr_c_rwr_138 : GoodIn wp_c_rwr (wsV RX23 131 RX23 yX23_written wp_c_rwr) := goodIn_app (goodIn_f [.methodLink RX23 131 yX23_written, .instanceMethod yX23_written, .selects RX23 yX23_written yX23_written, .initialized RX23] [35, 36, 37, 15] rfl (by decide +kernel)) (goodIn_app (goodIn_f (wf_c_rwr) [0, 1, 2, 3, 4, 5, 6, 7, 8, 9, 10, 11, 12, 13, 14, 15, 16, 17, 18, 19, 20, 21, 22, 23, 24, 25, 26, 27, 28, 29, 30, 31, 32, 33, 34, 35, 36, 37, 38, 39, 40, 41, 42, 43, 44] rfl wg_c_rwr) (goodIn_app (goodIn_sub in_c_rwr_X22 gd_X22) (goodIn_app (goodIn_sub in_c_rwr_X23 gd_X23) (goodIn_n))))
set_option maxRecDepth 20000 in
theorem g_c_rwr_c_risY_50 : GoodIn wp_c_rwr (wsV RX23 93 RX23 yX23_is wp_c_risY) := goodIn_app (goodIn_f [.methodLink RX23 93 yX23_is, .instanceMethod yX23_is, .selects RX23 yX23_is yX23_is, .initialized RX23] [21, 22, 23, 15] rfl (by decide +kernel)) (goodIn_app (goodIn_f (wf_c_risY) [20, 18, 16] rfl wg_c_risY) (goodIn_app (goodIn_sub in_c_rwr_X23 gd_X23) (goodIn_n)))
set_option maxRecDepth 20000 in
theorem g_c_rwr_c_risN_50 : GoodIn wp_c_rwr (wsV RX23 93 RX23 yX23_is wp_c_risY) := goodIn_app (goodIn_f [.methodLink RX23 93 yX23_is, .instanceMethod yX23_is, .selects RX23 yX23_is yX23_is, .initialized RX23] [21, 22, 23, 15] rfl (by decide +kernel)) (goodIn_app (goodIn_f (wf_c_risY) [20, 18, 16] rfl wg_c_risY) (goodIn_app (goodIn_sub in_c_rwr_X23 gd_X23) (goodIn_n)))
set_option maxRecDepth 20000 in
theorem g_c_rwr_c_risY_67 : GoodIn wp_c_rwr (wsV RX23 93 RX23 yX23_is wp_c_risY) := goodIn_app (goodIn_f [.methodLink RX23 93 yX23_is, .instanceMethod yX23_is, .selects RX23 yX23_is yX23_is, .initialized RX23] [21, 22, 23, 15] rfl (by decide +kernel)) (goodIn_app (goodIn_f (wf_c_risY) [20, 18, 16] rfl wg_c_risY) (goodIn_app (goodIn_sub in_c_rwr_X23 gd_X23) (goodIn_n)))
set_option maxRecDepth 20000 in
theorem g_c_rwr_c_rokB_86 : GoodIn wp_c_rwr (wsV RX23 89 RX23 yX23_ok wp_c_rok0) := goodIn_app (goodIn_f [.methodLink RX23 89 yX23_ok, .instanceMethod yX23_ok, .selects RX23 yX23_ok yX23_ok, .initialized RX23] [12, 13, 14, 15] rfl (by decide +kernel)) (goodIn_app (goodIn_f (wf_c_rok0) [10, 11] rfl wg_c_rok0) (goodIn_app (goodIn_sub in_c_rwr_X23 gd_X23) (goodIn_n)))
set_option maxRecDepth 20000 in
theorem g_c_rwr_c_rtsB_125 : GoodIn wp_c_rwr (wsV RX23 125 RX23 yX23_takes wp_c_rtsY) := goodIn_app (goodIn_f [.methodLink RX23 125 yX23_takes, .instanceMethod yX23_takes, .selects RX23 yX23_takes yX23_takes, .initialized RX23] [40, 41, 42, 15] rfl (by decide +kernel)) (goodIn_app (goodIn_f (wf_c_rtsY) [39, 10, 11, 12, 13, 14, 15, 20, 18, 16, 21, 22, 23] rfl wg_c_rtsY) (goodIn_app (goodIn_sub in_c_rwr_X23 gd_X23) (goodIn_n)))
set_option maxRecDepth 20000 in
theorem g_c_rwr_c_rok0_86 : GoodIn wp_c_rwr (wsV RX23 89 RX23 yX23_ok wp_c_rok0) := goodIn_app (goodIn_f [.methodLink RX23 89 yX23_ok, .instanceMethod yX23_ok, .selects RX23 yX23_ok yX23_ok, .initialized RX23] [12, 13, 14, 15] rfl (by decide +kernel)) (goodIn_app (goodIn_f (wf_c_rok0) [10, 11] rfl wg_c_rok0) (goodIn_app (goodIn_sub in_c_rwr_X23 gd_X23) (goodIn_n)))
set_option maxRecDepth 20000 in
theorem g_c_rwr_c_risY_94 : GoodIn wp_c_rwr (wsV RX23 93 RX23 yX23_is wp_c_risY) := goodIn_app (goodIn_f [.methodLink RX23 93 yX23_is, .instanceMethod yX23_is, .selects RX23 yX23_is yX23_is, .initialized RX23] [21, 22, 23, 15] rfl (by decide +kernel)) (goodIn_app (goodIn_f (wf_c_risY) [20, 18, 16] rfl wg_c_risY) (goodIn_app (goodIn_sub in_c_rwr_X23 gd_X23) (goodIn_n)))
set_option maxRecDepth 20000 in
theorem g_c_rwr_c_risN_94 : GoodIn wp_c_rwr (wsV RX23 93 RX23 yX23_is wp_c_risY) := goodIn_app (goodIn_f [.methodLink RX23 93 yX23_is, .instanceMethod yX23_is, .selects RX23 yX23_is yX23_is, .initialized RX23] [21, 22, 23, 15] rfl (by decide +kernel)) (goodIn_app (goodIn_f (wf_c_risY) [20, 18, 16] rfl wg_c_risY) (goodIn_app (goodIn_sub in_c_rwr_X23 gd_X23) (goodIn_n)))
set_option maxRecDepth 20000 in
theorem g_c_rwr_c_rtsY_125 : GoodIn wp_c_rwr (wsV RX23 125 RX23 yX23_takes wp_c_rtsY) := goodIn_app (goodIn_f [.methodLink RX23 125 yX23_takes, .instanceMethod yX23_takes, .selects RX23 yX23_takes yX23_takes, .initialized RX23] [40, 41, 42, 15] rfl (by decide +kernel)) (goodIn_app (goodIn_f (wf_c_rtsY) [39, 10, 11, 12, 13, 14, 15, 20, 18, 16, 21, 22, 23] rfl wg_c_rtsY) (goodIn_app (goodIn_sub in_c_rwr_X23 gd_X23) (goodIn_n)))
set_option maxRecDepth 20000 in
theorem g_c_rwr_c_rtsN_125 : GoodIn wp_c_rwr (wsV RX23 125 RX23 yX23_takes wp_c_rtsY) := goodIn_app (goodIn_f [.methodLink RX23 125 yX23_takes, .instanceMethod yX23_takes, .selects RX23 yX23_takes yX23_takes, .initialized RX23] [40, 41, 42, 15] rfl (by decide +kernel)) (goodIn_app (goodIn_f (wf_c_rtsY) [39, 10, 11, 12, 13, 14, 15, 20, 18, 16, 21, 22, 23] rfl wg_c_rtsY) (goodIn_app (goodIn_sub in_c_rwr_X23 gd_X23) (goodIn_n)))
set_option maxRecDepth 20000 in
theorem g_c_rwr_c_risY_160 : GoodIn wp_c_rwr (wsV RX23 93 RX23 yX23_is wp_c_risY) := goodIn_app (goodIn_f [.methodLink RX23 93 yX23_is, .instanceMethod yX23_is, .selects RX23 yX23_is yX23_is, .initialized RX23] [21, 22, 23, 15] rfl (by decide +kernel)) (goodIn_app (goodIn_f (wf_c_risY) [20, 18, 16] rfl wg_c_risY) (goodIn_app (goodIn_sub in_c_rwr_X23 gd_X23) (goodIn_n)))
set_option maxRecDepth 20000 in
theorem g_c_rwr_c_risN_160 : GoodIn wp_c_rwr (wsV RX23 93 RX23 yX23_is wp_c_risY) := goodIn_app (goodIn_f [.methodLink RX23 93 yX23_is, .instanceMethod yX23_is, .selects RX23 yX23_is yX23_is, .initialized RX23] [21, 22, 23, 15] rfl (by decide +kernel)) (goodIn_app (goodIn_f (wf_c_risY) [20, 18, 16] rfl wg_c_risY) (goodIn_app (goodIn_sub in_c_rwr_X23 gd_X23) (goodIn_n)))
set_option maxRecDepth 20000 in
theorem g_c_rwr_c_risY_169 : GoodIn wp_c_rwr (wsV RX23 93 RX23 yX23_is wp_c_risY) := goodIn_app (goodIn_f [.methodLink RX23 93 yX23_is, .instanceMethod yX23_is, .selects RX23 yX23_is yX23_is, .initialized RX23] [21, 22, 23, 15] rfl (by decide +kernel)) (goodIn_app (goodIn_f (wf_c_risY) [20, 18, 16] rfl wg_c_risY) (goodIn_app (goodIn_sub in_c_rwr_X23 gd_X23) (goodIn_n)))
set_option maxRecDepth 20000 in
theorem g_c_rwr_c_risN_169 : GoodIn wp_c_rwr (wsV RX23 93 RX23 yX23_is wp_c_risY) := goodIn_app (goodIn_f [.methodLink RX23 93 yX23_is, .instanceMethod yX23_is, .selects RX23 yX23_is yX23_is, .initialized RX23] [21, 22, 23, 15] rfl (by decide +kernel)) (goodIn_app (goodIn_f (wf_c_risY) [20, 18, 16] rfl wg_c_risY) (goodIn_app (goodIn_sub in_c_rwr_X23 gd_X23) (goodIn_n)))
set_option maxRecDepth 20000 in
theorem g_c_rwr_c_risY_178 : GoodIn wp_c_rwr (wsV RX23 93 RX23 yX23_is wp_c_risY) := goodIn_app (goodIn_f [.methodLink RX23 93 yX23_is, .instanceMethod yX23_is, .selects RX23 yX23_is yX23_is, .initialized RX23] [21, 22, 23, 15] rfl (by decide +kernel)) (goodIn_app (goodIn_f (wf_c_risY) [20, 18, 16] rfl wg_c_risY) (goodIn_app (goodIn_sub in_c_rwr_X23 gd_X23) (goodIn_n)))
set_option maxRecDepth 20000 in
theorem g_c_rwr_c_risN_178 : GoodIn wp_c_rwr (wsV RX23 93 RX23 yX23_is wp_c_risY) := goodIn_app (goodIn_f [.methodLink RX23 93 yX23_is, .instanceMethod yX23_is, .selects RX23 yX23_is yX23_is, .initialized RX23] [21, 22, 23, 15] rfl (by decide +kernel)) (goodIn_app (goodIn_f (wf_c_risY) [20, 18, 16] rfl wg_c_risY) (goodIn_app (goodIn_sub in_c_rwr_X23 gd_X23) (goodIn_n)))
set_option maxRecDepth 20000 in
theorem g_c_rwr_c_risY_186 : GoodIn wp_c_rwr (wsV RX23 93 RX23 yX23_is wp_c_risY) := goodIn_app (goodIn_f [.methodLink RX23 93 yX23_is, .instanceMethod yX23_is, .selects RX23 yX23_is yX23_is, .initialized RX23] [21, 22, 23, 15] rfl (by decide +kernel)) (goodIn_app (goodIn_f (wf_c_risY) [20, 18, 16] rfl wg_c_risY) (goodIn_app (goodIn_sub in_c_rwr_X23 gd_X23) (goodIn_n)))
set_option maxRecDepth 20000 in
theorem g_c_rwr_c_risN_186 : GoodIn wp_c_rwr (wsV RX23 93 RX23 yX23_is wp_c_risY) := goodIn_app (goodIn_f [.methodLink RX23 93 yX23_is, .instanceMethod yX23_is, .selects RX23 yX23_is yX23_is, .initialized RX23] [21, 22, 23, 15] rfl (by decide +kernel)) (goodIn_app (goodIn_f (wf_c_risY) [20, 18, 16] rfl wg_c_risY) (goodIn_app (goodIn_sub in_c_rwr_X23 gd_X23) (goodIn_n)))
set_option maxRecDepth 20000 in
theorem g_c_rwr_c_rfa0_211 : GoodIn wp_c_rwr (wsV RX23 96 RX23 yX23_fail wp_c_rfa0) := goodIn_app (goodIn_f [.methodLink RX23 96 yX23_fail, .instanceMethod yX23_fail, .selects RX23 yX23_fail yX23_fail, .initialized RX23] [29, 30, 31, 15] rfl (by decide +kernel)) (goodIn_app (goodIn_f (wf_c_rfa0) [26, 11, 27, 28] rfl wg_c_rfa0) (goodIn_app (goodIn_sub in_c_rwr_X23 gd_X23) (goodIn_n)))
set_option maxHeartbeats 4000000 in
set_option maxRecDepth 100000 in
theorem c_rwr (l : Launch) (dC : Nat → ClassId) (dI : Nat → Nat → Nat) (k : Nat) (ih : ∀ k1 : Nat, k = k1 + 1 → IH_wr l dC dI k1) : st_c_rwr l dC dI k := by
  intro m9 mr mv vf xl xa xi xt xn zs T pp ns vv bb kI fk fa L F sl sz hT hp hk0 hnk
  refine Met.ofW (cc := cX23_written) (maxL := 3) (ret := (some (.object "OwnedPlacesModel$Written"))) (by decide) rfl ?_
  intro p e s m args below meth c s₁ B hml hv
  obtain ⟨rfl, hsz, hP, hK, hD0, hpre0, hpre1⟩ := hv
  have hx := B.exec
  have hb := B.bytes
  have hr := B.returns
  have hts := atoms_spec (ws := wp_c_rwr) B.pre
  have hown : s.vm.findClass RX23 = some m.cls := findClass_of_methodNamed B.named
  have hlocks := B.notSynchronized
  subst hsz
  have hD := hD0.self (sz := s.heap.size)
  generalize hAe : va_A (([(m9, .inr (23, mA mr mv vf xl (nI zs) 0 xa (nI T) (nI pp) xi xt xn (nI ns) (nI vv) (nI bb))), (mr 5, .inl (kI, 3002, .inl fk)), (mr 6, .inl (kI, 3002, .inl fa))] : va_W) ++ (sT L F)) s.heap.size = A at hD ⊢
  have hA : ∀ q : Nat, s.heap.size ≤ q → A q := fun q h => by rw [← hAe]; exact Or.inr h
  have hS : va_S A s.heap s.heap [] := va_S.rf
  have hP : va_P (dC, dI) vwCl (([(m9, .inr (23, mA mr mv vf xl (nI zs) 0 xa (nI T) (nI pp) xi xt xn (nI ns) (nI vv) (nI bb))), (mr 5, .inl (kI, 3002, .inl fk)), (mr 6, .inl (kI, 3002, .inl fa))] : va_W) ++ (sT L F)) s.heap := hP
  have hl := lv_entry ([.ref m9]) (n := 3) (Nat.le_of_ble_eq_true rfl)
  rw [lg_entry_eq]
  generalize (lg_sl ([.ref m9]) ++ List.replicate (3 - (lg_sl ([.ref m9])).length) Slot.unset).toArray = ls at hl ⊢
  have hl : lv_has ls 3 [(0, .ref m9)] := hl
  have hns := hpre0
  subst hpre1
  refine va_new (ci := 22) (fs := [.int 0, .int 0, .int 0, .int 0, .null]) (C := RX22) (T := TX22) (N := 5) hx hb hts in_c_rwr_X22 tyX22 tyX22_ok hown (hts (.classLink RX23 107 RX22) (wm_c_rwr 1 rfl)) (hts (.instantiable RX22 5) (wm_c_rwr 2 rfl)) (hts (.initialized RX22) (wm_c_rwr 3 rfl)) hK hP hD hS hA rfl dv_X22 (show 0 + 1 ≤ ((T - pp) + 2) by omega) (show 0 + 5 ≤ (5 * (T - pp) + 10) by omega) dX23_written_0 (fun q_1 H hP hD hS => ?_)
  have hP := va_P.nt hP
  have hD := va_D.nt hD
  have hP : va_P (dC, dI) vwCl (([(m9, .inr (23, mA mr mv vf xl (nI zs) 0 xa (nI T) (nI pp) xi xt xn (nI ns) (nI vv) (nI bb))), (mr 5, .inl (kI, 3002, .inl fk)), (mr 6, .inl (kI, 3002, .inl fa)), (q_1, .inr (22, [.int 0, .int 0, .int 0, .int 0, .null]))] : va_W) ++ (sT L F)) H := hP
  have hD : va_D A (([(m9, .inr (23, mA mr mv vf xl (nI zs) 0 xa (nI T) (nI pp) xi xt xn (nI ns) (nI vv) (nI bb))), (mr 5, .inl (kI, 3002, .inl fk)), (mr 6, .inl (kI, 3002, .inl fa)), (q_1, .inr (22, [.int 0, .int 0, .int 0, .int 0, .null]))] : va_W) ++ (sT L F)) := hD
  refine W.widen (k := 1) (n := 5) (by omega) (by omega) ?_
  refine lv_dup hx hb dX23_written_3 rfl ?_
  have hPc := hP.subF (f' := [(q_1, .inr (22, [.int 0, .int 0, .int 0, .int 0, .null]))]) [3] rfl
  have hDc := hD.subF (f' := [(q_1, .inr (22, [.int 0, .int 0, .int 0, .int 0, .null]))]) [3] (by decide) rfl
  have hKc := hK.sub (tys' := []) [] rfl
  have hFc := va_freeT (wc := [(q_1, .inr (22, [.int 0, .int 0, .int 0, .int 0, .null]))]) hD hS hA [3] rfl
  refine va_callv (va_runIN (As := []) (rest := [.ref q_1]) ⟨hx, hb, hml, hown, hts⟩ (c_nW l dC dI q_1 H.size) ⟨va_cnB 0 hts g_c_rwr_c_nW_4 rfl rfl rfl hns.1.1 (hts (.initialized RX22) (wm_c_rwr 3 rfl)) (by decide +kernel) ⟨by show 1 + 1 ≤ 3 + 1 * k; omega, by show 8 + (1 + 11) + (12) ≤ 54 + 22 * k; omega⟩, rfl, (hts (.instanceMethod yX22_init) (wm_c_rwr 9 rfl))⟩ ⟨fun a U g mk q => by obtain ⟨q0, q1, qP, qK, qD⟩ := q; exact ⟨q0, q1, qP, va_K.moved (u := U) (U := U.calling g mk a) (Vm.Alike.refl U.vm) qK, qD⟩, fun U hU hW => ⟨rfl, by rw [hU], by rw [hU]; exact hPc, va_K.moved hW.alike hKc, hDc.weaken (fun _ _ _ _ => trivial)⟩⟩ rfl rfl hl.1 rfl (lv_room (Nat.le_of_ble_eq_true rfl)) dX23_written_4 ⟨(show 1 + 0 ≤ ((T - pp) + 2) by omega), (show 5 + 0 ≤ (5 * (T - pp) + 10) by omega)⟩) hS (fun q _ h => hFc q h) hFc (fun u tS H1 locs ht hvm hw hB hz1 hk1 hS => ?_)
  obtain ⟨hP1, hK1, hD1⟩ := hB
  rw [ht] at hP1
  have hK1 := va_K.moved hvm.symm hK1
  obtain ⟨hP, hD⟩ := va_joinT (wr := [(m9, .inr (23, mA mr mv vf xl (nI zs) 0 xa (nI T) (nI pp) xi xt xn (nI ns) (nI vv) (nI bb))), (mr 5, .inl (kI, 3002, .inl fk)), (mr 6, .inl (kI, 3002, .inl fa))]) (w1 := [(q_1, .inr (22, [.int 0, .int 0, .int 0, .int (-1), .null]))]) hP hD [3] [0, 1, 2] rfl rfl (by decide) (by decide) hk1 hFc hP1 hD1
  generalize H1 = H at hP hS ⊢
  have hP : va_P (dC, dI) vwCl (([(m9, .inr (23, mA mr mv vf xl (nI zs) 0 xa (nI T) (nI pp) xi xt xn (nI ns) (nI vv) (nI bb))), (mr 5, .inl (kI, 3002, .inl fk)), (mr 6, .inl (kI, 3002, .inl fa)), (q_1, .inr (22, [.int 0, .int 0, .int 0, .int (-1), .null]))] : va_W) ++ (sT L F)) H := hP
  have hD : va_D A (([(m9, .inr (23, mA mr mv vf xl (nI zs) 0 xa (nI T) (nI pp) xi xt xn (nI ns) (nI vv) (nI bb))), (mr 5, .inl (kI, 3002, .inl fk)), (mr 6, .inl (kI, 3002, .inl fa)), (q_1, .inr (22, [.int 0, .int 0, .int 0, .int (-1), .null]))] : va_W) ++ (sT L F)) := hD
  have hK : va_K (dC, dI) vwCl [(kI, .int)] s := hK
  refine lv_astore_n (lv' := [(1, .ref q_1), (0, .ref m9)]) hx hb dX23_written_7 rfl hl (by decide) rfl (fun ls hl => ?_)
  refine lv_aload_n hx hb dX23_written_8 rfl (lv_at hl 1 rfl) ?_
  have hPc := hP.subF (f' := [(m9, .inr (23, mA mr mv vf xl (nI zs) 0 xa (nI T) (nI pp) xi xt xn (nI ns) (nI vv) (nI bb)))]) [0] rfl
  have hDc := hD.subF (f' := [(m9, .inr (23, mA mr mv vf xl (nI zs) 0 xa (nI T) (nI pp) xi xt xn (nI ns) (nI vv) (nI bb)))]) [0] (by decide) rfl
  have hKc := hK.sub (tys' := []) [] rfl
  have hFc := va_freeT (wc := [(m9, .inr (23, mA mr mv vf xl (nI zs) 0 xa (nI T) (nI pp) xi xt xn (nI ns) (nI vv) (nI bb)))]) hD hS hA [0] rfl
  refine va_calli (va_runV (As := []) (rest := []) ⟨hx, hb, hml, hown, hts⟩ (c_rok0 l dC dI m9 mr mv vf xl xa xi xt xn zs T pp ns vv bb kI fk fa H.size) (cwV 0 hts g_c_rwr_c_rok0_9 rfl rfl rfl (by decide +kernel) ⟨by show 0 + 1 ≤ 3 + 1 * k; omega, by show 8 + (1 + 11) + (0) ≤ 54 + 22 * k; omega⟩) ⟨fun a U g mk q => by obtain ⟨q0, q1, qP, qK, qD⟩ := q; exact ⟨q0, q1, qP, va_K.moved (u := U) (U := U.calling g mk a) (Vm.Alike.refl U.vm) qK, qD⟩, va_recv hKc hPc (ci := 23) (q0 := 0) rfl rfl, fun U hU hW => ⟨rfl, by rw [hU], by rw [hU]; exact hPc, va_K.moved hW.alike hKc, hDc.weaken (fun _ _ _ _ => trivial)⟩⟩ rfl rfl hl.1 rfl (lv_room (Nat.le_of_ble_eq_true rfl)) dX23_written_9 ⟨(show 1 + 0 ≤ ((T - pp) + 2) by omega), (show 5 + 0 ≤ (5 * (T - pp) + 10) by omega)⟩) hS (fun q _ h => hFc q h) hFc (fun r_3 u tS H1 locs ht hvm hw hB hz1 hk1 hS => ?_)
  obtain ⟨hP1, hK1, hD1⟩ := hB
  rw [ht] at hP1
  have hK1 := va_K.moved hvm.symm hK1
  obtain ⟨hP, hD⟩ := va_joinT (wr := [(mr 5, .inl (kI, 3002, .inl fk)), (mr 6, .inl (kI, 3002, .inl fa)), (q_1, .inr (22, [.int 0, .int 0, .int 0, .int (-1), .null]))]) (w1 := [(m9, .inr (23, mA mr mv vf xl (nI zs) 0 xa (nI T) (nI pp) xi xt xn (nI ns) (nI vv) (nI bb)))]) hP hD [0] [1, 2, 3] rfl rfl (by decide) (by decide) hk1 hFc hP1 hD1
  generalize H1 = H at hP hS ⊢
  have hP : va_P (dC, dI) vwCl (([(mr 5, .inl (kI, 3002, .inl fk)), (mr 6, .inl (kI, 3002, .inl fa)), (q_1, .inr (22, [.int 0, .int 0, .int 0, .int (-1), .null])), (m9, .inr (23, mA mr mv vf xl (nI zs) 0 xa (nI T) (nI pp) xi xt xn (nI ns) (nI vv) (nI bb)))] : va_W) ++ (sT L F)) H := hP
  have hD : va_D A (([(mr 5, .inl (kI, 3002, .inl fk)), (mr 6, .inl (kI, 3002, .inl fa)), (q_1, .inr (22, [.int 0, .int 0, .int 0, .int (-1), .null])), (m9, .inr (23, mA mr mv vf xl (nI zs) 0 xa (nI T) (nI pp) xi xt xn (nI ns) (nI vv) (nI bb)))] : va_W) ++ (sT L F)) := hD
  have hK : va_K (dC, dI) vwCl [(kI, .int)] s := hK
  obtain rfl : r_3 = 1 := hw
  refine lv_if_ne (tgt := 17) hx hb dX23_written_12 (by decide) (fun _ => ?_) (fun c_4 => absurd c_4 (by decide))
  refine lv_aload_n hx hb dX23_written_17 rfl (lv_at hl 0 rfl) ?_
  refine lv_aload_n hx hb dX23_written_18 rfl (lv_at hl 1 rfl) ?_
  refine va_get (D := (dC, dI)) (ci := 23) (v := .int (nI pp)) (C := RX23) (T := TX23) (N := 89) hx hb hts in_c_rwr_X23 hown hK hP 3 rfl rfl 10 (by decide) (hts (.fieldLink RX23 86 "OwnedPlacesModel" "p" "I") (wm_c_rwr 16 rfl)) (fun _ h9 => h9) rfl dX23_written_19 ?_
  refine va_put (D := (dC, dI)) (ci := 22) (v := .int (nI pp)) (ty := .int) (C := RX22) (T := TX22) (N := 5) hx hb hts in_c_rwr_X22 tyX22 tyX22_ok nmX22 hown hK hP hD hS 2 rfl rfl 1 (by decide) (hts (.fieldLink RX23 113 "OwnedPlacesModel$Written" "token" "I") (wm_c_rwr 17 rfl)) (fun _ h9 => h9) rfl (by decide +kernel) rfl rfl (Nat.le_of_ble_eq_true rfl) dX23_written_22 (fun H locs hP hD hS => ?_)
  have hP : va_P (dC, dI) vwCl (([(mr 5, .inl (kI, 3002, .inl fk)), (mr 6, .inl (kI, 3002, .inl fa)), (q_1, .inr (22, [.int 0, .int (nI pp), .int 0, .int (-1), .null])), (m9, .inr (23, mA mr mv vf xl (nI zs) 0 xa (nI T) (nI pp) xi xt xn (nI ns) (nI vv) (nI bb)))] : va_W) ++ (sT L F)) H := hP
  have hD : va_D A (([(mr 5, .inl (kI, 3002, .inl fk)), (mr 6, .inl (kI, 3002, .inl fa)), (q_1, .inr (22, [.int 0, .int (nI pp), .int 0, .int (-1), .null])), (m9, .inr (23, mA mr mv vf xl (nI zs) 0 xa (nI T) (nI pp) xi xt xn (nI ns) (nI vv) (nI bb)))] : va_W) ++ (sT L F)) := hD
  refine lv_aload_n hx hb dX23_written_25 rfl (lv_at hl 0 rfl) ?_
  refine lv_aload_n hx hb dX23_written_26 rfl (lv_at hl 1 rfl) ?_
  refine va_get (D := (dC, dI)) (ci := 23) (v := .ref (mr 5)) (C := RX23) (T := TX23) (N := 89) hx hb hts in_c_rwr_X23 hown hK hP 3 rfl rfl 5 (by decide) (hts (.fieldLink RX23 25 "OwnedPlacesModel" "tokenKind" "[I") (wm_c_rwr 18 rfl)) (fun _ h9 => h9) rfl dX23_written_27 ?_
  refine lv_aload_n hx hb dX23_written_30 rfl (lv_at hl 1 rfl) ?_
  refine va_get (D := (dC, dI)) (ci := 23) (v := .int (nI pp)) (C := RX23) (T := TX23) (N := 89) hx hb hts in_c_rwr_X23 hown hK hP 3 rfl rfl 10 (by decide) (hts (.fieldLink RX23 86 "OwnedPlacesModel" "p" "I") (wm_c_rwr 16 rfl)) (fun _ h9 => h9) rfl dX23_written_31 ?_
  refine va_iald hx hb hK hP 0 0 rfl rfl (vp_in_nI (show pp < 3002 by omega) (by decide)) dX23_written_34 ?_
  refine lv_topi (fun v_5 ev_5 => ?_)
  obtain rfl : v_5 = fk pp := ev_5.trans (by rw [nI_clamp (by omega)])
  refine va_put (D := (dC, dI)) (ci := 22) (v := .int (fk pp)) (ty := .int) (C := RX22) (T := TX22) (N := 5) hx hb hts in_c_rwr_X22 tyX22 tyX22_ok nmX22 hown hK hP hD hS 2 rfl rfl 0 (by decide) (hts (.fieldLink RX23 116 "OwnedPlacesModel$Written" "kind" "I") (wm_c_rwr 19 rfl)) (fun _ h9 => h9) rfl (by decide +kernel) rfl rfl (Nat.le_of_ble_eq_true rfl) dX23_written_35 (fun H locs hP hD hS => ?_)
  have hP : va_P (dC, dI) vwCl (([(mr 5, .inl (kI, 3002, .inl fk)), (mr 6, .inl (kI, 3002, .inl fa)), (q_1, .inr (22, [.int (fk pp), .int (nI pp), .int 0, .int (-1), .null])), (m9, .inr (23, mA mr mv vf xl (nI zs) 0 xa (nI T) (nI pp) xi xt xn (nI ns) (nI vv) (nI bb)))] : va_W) ++ (sT L F)) H := hP
  have hD : va_D A (([(mr 5, .inl (kI, 3002, .inl fk)), (mr 6, .inl (kI, 3002, .inl fa)), (q_1, .inr (22, [.int (fk pp), .int (nI pp), .int 0, .int (-1), .null])), (m9, .inr (23, mA mr mv vf xl (nI zs) 0 xa (nI T) (nI pp) xi xt xn (nI ns) (nI vv) (nI bb)))] : va_W) ++ (sT L F)) := hD
  refine lv_aload_n hx hb dX23_written_38 rfl (lv_at hl 1 rfl) ?_
  refine lv_bipush (v := 23) hx hb dX23_written_39 (by decide) ?_
  by_cases hk_6 : fk pp = 23
  · have hPc := hP.subF (f' := [(m9, .inr (23, mA mr mv vf xl (nI zs) 0 xa (nI T) (nI pp) xi xt xn (nI ns) (nI vv) (nI bb))), (mr 5, .inl (kI, 3002, .inl fk))]) [3, 0] rfl
    have hDc := hD.subF (f' := [(m9, .inr (23, mA mr mv vf xl (nI zs) 0 xa (nI T) (nI pp) xi xt xn (nI ns) (nI vv) (nI bb))), (mr 5, .inl (kI, 3002, .inl fk))]) [3, 0] (by decide) rfl
    have hKc := hK.sub (tys' := [(kI, .int)]) [0] rfl
    have hFc := va_freeT (wc := [(m9, .inr (23, mA mr mv vf xl (nI zs) 0 xa (nI T) (nI pp) xi xt xn (nI ns) (nI vv) (nI bb))), (mr 5, .inl (kI, 3002, .inl fk))]) hD hS hA [3, 0] rfl
    refine va_calli (va_runV (As := [.int 23]) (rest := []) ⟨hx, hb, hml, hown, hts⟩ (c_risY l dC dI m9 mr mv vf xl xa xi xt xn zs T pp ns vv bb kI fk fa 0 23 H.size hT hp hk_6) (cwV 1 hts g_c_rwr_c_risY_41 rfl rfl rfl (by decide +kernel) ⟨by show 0 + 1 ≤ 3 + 1 * k; omega, by show 8 + (2 + 11) + (0) ≤ 54 + 22 * k; omega⟩) ⟨fun a U g mk q => by obtain ⟨q0, q1, qP, qK, qD⟩ := q; exact ⟨q0, q1, qP, va_K.moved (u := U) (U := U.calling g mk a) (Vm.Alike.refl U.vm) qK, qD⟩, va_recv hKc hPc (ci := 23) (q0 := 0) rfl rfl, fun U hU hW => ⟨rfl, by rw [hU], by rw [hU]; exact hPc, va_K.moved hW.alike hKc, hDc.weaken (fun _ _ _ _ => trivial)⟩⟩ rfl rfl hl.1 rfl (lv_room (Nat.le_of_ble_eq_true rfl)) dX23_written_41 ⟨(show 1 + 0 ≤ ((T - pp) + 2) by omega), (show 5 + 0 ≤ (5 * (T - pp) + 10) by omega)⟩) hS (fun q _ h => hFc q h) hFc (fun r_7 u tS H1 locs ht hvm hw hB hz1 hk1 hS => ?_)
    obtain ⟨hP1, hK1, hD1⟩ := hB
    rw [ht] at hP1
    have hK1 := va_K.moved hvm.symm hK1
    obtain ⟨hP, hD⟩ := va_joinT (wr := [(mr 6, .inl (kI, 3002, .inl fa)), (q_1, .inr (22, [.int (fk pp), .int (nI pp), .int 0, .int (-1), .null]))]) (w1 := [(m9, .inr (23, mA mr mv vf xl (nI zs) 0 xa (nI T) (nI pp) xi xt xn (nI ns) (nI vv) (nI bb))), (mr 5, .inl (kI, 3002, .inl fk))]) hP hD [3, 0] [1, 2] rfl rfl (by decide) (by decide) hk1 hFc hP1 hD1
    have hK := hK.app hK1
    generalize H1 = H at hP hS ⊢
    have hP : va_P (dC, dI) vwCl (([(mr 6, .inl (kI, 3002, .inl fa)), (q_1, .inr (22, [.int (fk pp), .int (nI pp), .int 0, .int (-1), .null])), (m9, .inr (23, mA mr mv vf xl (nI zs) 0 xa (nI T) (nI pp) xi xt xn (nI ns) (nI vv) (nI bb))), (mr 5, .inl (kI, 3002, .inl fk))] : va_W) ++ (sT L F)) H := hP
    have hD : va_D A (([(mr 6, .inl (kI, 3002, .inl fa)), (q_1, .inr (22, [.int (fk pp), .int (nI pp), .int 0, .int (-1), .null])), (m9, .inr (23, mA mr mv vf xl (nI zs) 0 xa (nI T) (nI pp) xi xt xn (nI ns) (nI vv) (nI bb))), (mr 5, .inl (kI, 3002, .inl fk))] : va_W) ++ (sT L F)) := hD
    have hK : va_K (dC, dI) vwCl [(kI, .int), (kI, .int)] s := hK
    have hK := hK.sub (tys' := [(kI, .int)]) [0] rfl
    obtain rfl : r_7 = 1 := hw
    refine lv_if_ne (tgt := 56) hx hb dX23_written_44 (by decide) (fun _ => ?_) (fun c_8 => absurd c_8 (by decide))
    refine lv_aload_n hx hb dX23_written_56 rfl (lv_at hl 1 rfl) ?_
    refine lv_aload_n hx hb dX23_written_57 rfl (lv_at hl 1 rfl) ?_
    refine va_get (D := (dC, dI)) (ci := 23) (v := .int (nI pp)) (C := RX23) (T := TX23) (N := 89) hx hb hts in_c_rwr_X23 hown hK hP 2 rfl rfl 10 (by decide) (hts (.fieldLink RX23 86 "OwnedPlacesModel" "p" "I") (wm_c_rwr 16 rfl)) (fun _ h9 => h9) rfl dX23_written_58 ?_
    by_cases hn_9 : ns = 16
    · have hPc := hP.subF (f' := [(m9, .inr (23, mA mr mv vf xl (nI zs) 0 xa (nI T) (nI pp) xi xt xn (nI ns) (nI vv) (nI bb))), (mr 6, .inl (kI, 3002, .inl fa))]) [2, 0] rfl
      have hDc := hD.subF (f' := [(m9, .inr (23, mA mr mv vf xl (nI zs) 0 xa (nI T) (nI pp) xi xt xn (nI ns) (nI vv) (nI bb))), (mr 6, .inl (kI, 3002, .inl fa))]) [2, 0] (by decide) rfl
      have hKc := hK.sub (tys' := [(kI, .int)]) [0] rfl
      have hFc := va_freeT (wc := [(m9, .inr (23, mA mr mv vf xl (nI zs) 0 xa (nI T) (nI pp) xi xt xn (nI ns) (nI vv) (nI bb))), (mr 6, .inl (kI, 3002, .inl fa))]) hD hS hA [2, 0] rfl
      refine va_callv (va_runV (As := [.int (nI pp)]) (rest := []) ⟨hx, hb, hml, hown, hts⟩ (c_renN l dC dI m9 mr mv vf xl xa xi xt xn zs T pp ns vv bb kI fk fa pp H.size (by omega) hn_9) (cwV 1 hts g_c_rwr_c_renN_61 rfl rfl rfl (by decide +kernel) ⟨by show 1 + 1 ≤ 3 + 1 * k; omega, by show 8 + (2 + 11) + (22) ≤ 54 + 22 * k; omega⟩) ⟨fun a U g mk q => by obtain ⟨q0, q1, qP, qK, qD⟩ := q; exact ⟨q0, q1, qP, va_K.moved (u := U) (U := U.calling g mk a) (Vm.Alike.refl U.vm) qK, qD⟩, va_recv hKc hPc (ci := 23) (q0 := 0) rfl rfl, fun U hU hW => ⟨rfl, by rw [hU], by rw [hU]; exact hPc, va_K.moved hW.alike hKc, hDc.weaken (fun _ _ _ _ => trivial)⟩⟩ rfl rfl hl.1 rfl (lv_room (Nat.le_of_ble_eq_true rfl)) dX23_written_61 ⟨(show 1 + 0 ≤ ((T - pp) + 2) by omega), (show 5 + 0 ≤ (5 * (T - pp) + 10) by omega)⟩) hS (fun q _ h => hFc q h) hFc (fun u tS H1 locs ht hvm hw hB hz1 hk1 hS => ?_)
      obtain ⟨ff_10, xa_11, hf12_0, hP1, hK1, hD1⟩ := hB
      rw [ht] at hP1
      have hK1 := va_K.moved hvm.symm hK1
      obtain ⟨hP, hD⟩ := va_joinT (wr := [(q_1, .inr (22, [.int (fk pp), .int (nI pp), .int 0, .int (-1), .null])), (mr 5, .inl (kI, 3002, .inl fk))]) (w1 := [(m9, .inr (23, mA mr mv vf xl (nI zs) ff_10 xa_11 (nI T) (nI pp) xi xt xn (nI (ns + 1)) (nI vv) (nI bb))), (mr 6, .inl (kI, 3002, .inl fa))]) hP hD [2, 0] [1, 3] rfl rfl (by decide) (by decide) hk1 hFc hP1 hD1
      have hK := hK.app hK1
      generalize H1 = H at hP hS ⊢
      have hP : va_P (dC, dI) vwCl (([(q_1, .inr (22, [.int (fk pp), .int (nI pp), .int 0, .int (-1), .null])), (mr 5, .inl (kI, 3002, .inl fk)), (m9, .inr (23, mA mr mv vf xl (nI zs) ff_10 xa_11 (nI T) (nI pp) xi xt xn (nI (ns + 1)) (nI vv) (nI bb))), (mr 6, .inl (kI, 3002, .inl fa))] : va_W) ++ (sT L F)) H := hP
      have hD : va_D A (([(q_1, .inr (22, [.int (fk pp), .int (nI pp), .int 0, .int (-1), .null])), (mr 5, .inl (kI, 3002, .inl fk)), (m9, .inr (23, mA mr mv vf xl (nI zs) ff_10 xa_11 (nI T) (nI pp) xi xt xn (nI (ns + 1)) (nI vv) (nI bb))), (mr 6, .inl (kI, 3002, .inl fa))] : va_W) ++ (sT L F)) := hD
      have hK : va_K (dC, dI) vwCl [(kI, .int), (kI, .int)] s := hK
      have hK := hK.sub (tys' := [(kI, .int)]) [0] rfl
      refine lv_aload_n hx hb dX23_written_64 rfl (lv_at hl 1 rfl) ?_
      refine lv_bipush (v := 55) hx hb dX23_written_65 (by decide) ?_
      have hPc := hP.subF (f' := [(m9, .inr (23, mA mr mv vf xl (nI zs) ff_10 xa_11 (nI T) (nI pp) xi xt xn (nI (ns + 1)) (nI vv) (nI bb))), (mr 5, .inl (kI, 3002, .inl fk))]) [2, 1] rfl
      have hDc := hD.subF (f' := [(m9, .inr (23, mA mr mv vf xl (nI zs) ff_10 xa_11 (nI T) (nI pp) xi xt xn (nI (ns + 1)) (nI vv) (nI bb))), (mr 5, .inl (kI, 3002, .inl fk))]) [2, 1] (by decide) rfl
      have hKc := hK.sub (tys' := [(kI, .int)]) [0] rfl
      have hFc := va_freeT (wc := [(m9, .inr (23, mA mr mv vf xl (nI zs) ff_10 xa_11 (nI T) (nI pp) xi xt xn (nI (ns + 1)) (nI vv) (nI bb))), (mr 5, .inl (kI, 3002, .inl fk))]) hD hS hA [2, 1] rfl
      refine va_calli (va_runV (As := [.int 55]) (rest := []) ⟨hx, hb, hml, hown, hts⟩ (c_risN l dC dI m9 mr mv vf xl xa_11 xi xt xn zs T pp (ns + 1) vv bb kI fk fa ff_10 55 H.size hT hp (fun q9 => absurd (hk_6.symm.trans q9) (by decide))) (cwV 1 hts g_c_rwr_c_risN_67 rfl rfl rfl (by decide +kernel) ⟨by show 0 + 1 ≤ 3 + 1 * k; omega, by show 8 + (2 + 11) + (0) ≤ 54 + 22 * k; omega⟩) ⟨fun a U g mk q => by obtain ⟨q0, q1, qP, qK, qD⟩ := q; exact ⟨q0, q1, qP, va_K.moved (u := U) (U := U.calling g mk a) (Vm.Alike.refl U.vm) qK, qD⟩, va_recv hKc hPc (ci := 23) (q0 := 0) rfl rfl, fun U hU hW => ⟨rfl, by rw [hU], by rw [hU]; exact hPc, va_K.moved hW.alike hKc, hDc.weaken (fun _ _ _ _ => trivial)⟩⟩ rfl rfl hl.1 rfl (lv_room (Nat.le_of_ble_eq_true rfl)) dX23_written_67 ⟨(show 1 + 0 ≤ ((T - pp) + 2) by omega), (show 5 + 0 ≤ (5 * (T - pp) + 10) by omega)⟩) hS (fun q _ h => hFc q h) hFc (fun r_13 u tS H1 locs ht hvm hw hB hz1 hk1 hS => ?_)
      obtain ⟨hP1, hK1, hD1⟩ := hB
      rw [ht] at hP1
      have hK1 := va_K.moved hvm.symm hK1
      obtain ⟨hP, hD⟩ := va_joinT (wr := [(q_1, .inr (22, [.int (fk pp), .int (nI pp), .int 0, .int (-1), .null])), (mr 6, .inl (kI, 3002, .inl fa))]) (w1 := [(m9, .inr (23, mA mr mv vf xl (nI zs) ff_10 xa_11 (nI T) (nI pp) xi xt xn (nI (ns + 1)) (nI vv) (nI bb))), (mr 5, .inl (kI, 3002, .inl fk))]) hP hD [2, 1] [0, 3] rfl rfl (by decide) (by decide) hk1 hFc hP1 hD1
      have hK := hK.app hK1
      generalize H1 = H at hP hS ⊢
      have hP : va_P (dC, dI) vwCl (([(q_1, .inr (22, [.int (fk pp), .int (nI pp), .int 0, .int (-1), .null])), (mr 6, .inl (kI, 3002, .inl fa)), (m9, .inr (23, mA mr mv vf xl (nI zs) ff_10 xa_11 (nI T) (nI pp) xi xt xn (nI (ns + 1)) (nI vv) (nI bb))), (mr 5, .inl (kI, 3002, .inl fk))] : va_W) ++ (sT L F)) H := hP
      have hD : va_D A (([(q_1, .inr (22, [.int (fk pp), .int (nI pp), .int 0, .int (-1), .null])), (mr 6, .inl (kI, 3002, .inl fa)), (m9, .inr (23, mA mr mv vf xl (nI zs) ff_10 xa_11 (nI T) (nI pp) xi xt xn (nI (ns + 1)) (nI vv) (nI bb))), (mr 5, .inl (kI, 3002, .inl fk))] : va_W) ++ (sT L F)) := hD
      have hK : va_K (dC, dI) vwCl [(kI, .int), (kI, .int)] s := hK
      have hK := hK.sub (tys' := [(kI, .int)]) [0] rfl
      obtain rfl : r_13 = 0 := hw
      refine lv_istore_n (lv' := [(2, .int 0), (1, .ref q_1), (0, .ref m9)]) hx hb dX23_written_70 rfl hl (by decide) rfl (fun ls hl => ?_)
      refine lv_aload_n hx hb dX23_written_71 rfl (lv_at hl 2 rfl) ?_
      refine lv_dup hx hb dX23_written_72 rfl ?_
      refine va_get (D := (dC, dI)) (ci := 23) (v := .int (nI pp)) (C := RX23) (T := TX23) (N := 89) hx hb hts in_c_rwr_X23 hown hK hP 2 rfl rfl 10 (by decide) (hts (.fieldLink RX23 86 "OwnedPlacesModel" "p" "I") (wm_c_rwr 16 rfl)) (fun _ h9 => h9) rfl dX23_written_73 ?_
      refine lv_iconst (v := 1) hx hb dX23_written_76 (by decide) ?_
      refine lv_iadd hx hb dX23_written_77 ?_
      refine lv_topi (fun f_14 ef_14 => ?_)
      obtain rfl : f_14 = nI (pp + 1) := ef_14.trans (nI_1 _)
      refine va_put (D := (dC, dI)) (ci := 23) (v := .int (nI (pp + 1))) (ty := .int) (C := RX23) (T := TX23) (N := 89) hx hb hts in_c_rwr_X23 tyX23 tyX23_ok nmX23 hown hK hP hD hS 2 rfl rfl 10 (by decide) (hts (.fieldLink RX23 86 "OwnedPlacesModel" "p" "I") (wm_c_rwr 16 rfl)) (fun _ h9 => h9) rfl (by decide +kernel) rfl rfl (Nat.le_of_ble_eq_true rfl) dX23_written_78 (fun H locs hP hD hS => ?_)
      have hP : va_P (dC, dI) vwCl (([(q_1, .inr (22, [.int (fk pp), .int (nI pp), .int 0, .int (-1), .null])), (mr 6, .inl (kI, 3002, .inl fa)), (m9, .inr (23, mA mr mv vf xl (nI zs) ff_10 xa_11 (nI T) (nI (pp + 1)) xi xt xn (nI (ns + 1)) (nI vv) (nI bb))), (mr 5, .inl (kI, 3002, .inl fk))] : va_W) ++ (sT L F)) H := hP
      have hD : va_D A (([(q_1, .inr (22, [.int (fk pp), .int (nI pp), .int 0, .int (-1), .null])), (mr 6, .inl (kI, 3002, .inl fa)), (m9, .inr (23, mA mr mv vf xl (nI zs) ff_10 xa_11 (nI T) (nI (pp + 1)) xi xt xn (nI (ns + 1)) (nI vv) (nI bb))), (mr 5, .inl (kI, 3002, .inl fk))] : va_W) ++ (sT L F)) := hD
      have hp_15 : pp + 1 < T := kne3 hk0 hp hk_6 (by decide)
      refine lv_iload_n hx hb dX23_written_81 rfl (lv_at hl 0 rfl) ?_
      refine lv_if_eq (tgt := 118) hx hb dX23_written_82 (by decide) (fun _ => ?_) (fun c_16 => absurd (by decide) c_16)
      refine lv_iload_n hx hb dX23_written_118 rfl (lv_at hl 0 rfl) ?_
      refine lv_if_eq (tgt := 136) hx hb dX23_written_119 (by decide) (fun _ => ?_) (fun c_17 => absurd (by decide) c_17)
      refine lv_aload_n hx hb dX23_written_136 rfl (lv_at hl 1 rfl) ?_
      refine lv_aload_n hx hb dX23_written_137 rfl (lv_at hl 2 rfl) ?_
      have hPc := hP.subT (f' := [(m9, .inr (23, mA mr mv vf xl (nI zs) ff_10 xa_11 (nI T) (nI (pp + 1)) xi xt xn (nI (ns + 1)) (nI vv) (nI bb))), (mr 5, .inl (kI, 3002, .inl fk)), (mr 6, .inl (kI, 3002, .inl fa))]) [2, 3, 1] rfl
      have hDc := hD.subT (f' := [(m9, .inr (23, mA mr mv vf xl (nI zs) ff_10 xa_11 (nI T) (nI (pp + 1)) xi xt xn (nI (ns + 1)) (nI vv) (nI bb))), (mr 5, .inl (kI, 3002, .inl fk)), (mr 6, .inl (kI, 3002, .inl fa))]) [2, 3, 1] (by decide) rfl
      have hKc := hK.sub (tys' := [(kI, .int)]) [0] rfl
      have hFc := va_freeB (wc := [(m9, .inr (23, mA mr mv vf xl (nI zs) ff_10 xa_11 (nI T) (nI (pp + 1)) xi xt xn (nI (ns + 1)) (nI vv) (nI bb))), (mr 5, .inl (kI, 3002, .inl fk)), (mr 6, .inl (kI, 3002, .inl fa))]) hD hS hA [2, 3, 1] rfl
      refine W.grow (fun hgs0 hgs1 => ?_)
      refine va_callr (va_runV (As := []) (rest := [.ref q_1]) ⟨hx, hb, hml, hown, hts⟩ (c_rwrB l dC dI m9 mr mv vf xl xa_11 xi xt xn zs T (pp + 1) (ns + 1) vv bb kI fk fa ff_10 L F (slN H) H.size hf12_0) (cwV 0 hts g_c_rwr_c_rwrB_138 rfl rfl rfl (by decide +kernel) ⟨by show 2 + 1 ≤ 3 + 1 * k; omega, by show 8 + (3 + 11) + (32) ≤ 54 + 22 * k; omega⟩) ⟨fun a U g mk q => by obtain ⟨q0, q1, qP, qK, qD, qx0, qx1⟩ := q; exact ⟨q0, q1, qP, va_K.moved (u := U) (U := U.calling g mk a) (Vm.Alike.refl U.vm) qK, qD, nsM.same (u := U) (U := U.calling g mk a) rfl qx0, qx1⟩, va_recv hKc hPc (ci := 23) (q0 := 0) rfl rfl, fun U hU hW => ⟨rfl, by rw [hU], by rw [hU]; exact hPc, va_K.moved hW.alike hKc, hDc.weaken (fun _ _ _ _ => trivial), nsM.warm hW hns, by rw [hU]⟩⟩ rfl rfl hl.1 rfl (lv_room (Nat.le_of_ble_eq_true rfl)) dX23_written_138 ⟨(show 1 + 1 ≤ ((T - pp) + 2) by omega), (show 5 + 5 ≤ (5 * (T - pp) + 10) by omega)⟩) hS (fun q _ h => hFc q h) hFc (fun u r_18 tS H1 locs ht hvm hw hB hz1 hk1 hS => ?_)
      obtain ⟨L8, F8, hf18_0, hf18_1, hf18_2, hP1, hK1, hD1⟩ := hB
      rw [ht] at hP1
      have hK1 := va_K.moved hvm.symm hK1
      rw [ht] at hf18_2
      have hgz : H1.size ≤ s.heap.size + ((1 + 1)) ∧ slN H1 ≤ slN s.heap + ((5 + 5)) := ⟨by have := hf18_2.1; omega, by have := hf18_2.2; omega⟩
      obtain ⟨hP, hD⟩ := va_joinB (wr := [(q_1, .inr (22, [.int (fk pp), .int (nI pp), .int 0, .int (-1), .null]))]) (w1 := [(m9, .inr (23, mA mr mv vf xl (nI zs) ff_10 xa_11 (nI T) (nI (pp + 1)) xi xt xn (nI (ns + 1)) (nI vv) (nI bb))), (mr 5, .inl (kI, 3002, .inl fk)), (mr 6, .inl (kI, 3002, .inl fa))]) hP hD [2, 3, 1] [0] rfl rfl (by decide) (by decide) hk1 hFc hP1 hD1
      have hK := hK.app hK1
      generalize H1 = H at hP hS hgz ⊢
      have hP : va_P (dC, dI) vwCl (([(q_1, .inr (22, [.int (fk pp), .int (nI pp), .int 0, .int (-1), .null])), (m9, .inr (23, mA mr mv vf xl (nI zs) ff_10 xa_11 (nI T) (nI (pp + 1)) xi xt xn (nI (ns + 1)) (nI vv) (nI bb))), (mr 5, .inl (kI, 3002, .inl fk)), (mr 6, .inl (kI, 3002, .inl fa))] : va_W) ++ (sT L8 F8)) H := hP
      have hD : va_D A (([(q_1, .inr (22, [.int (fk pp), .int (nI pp), .int 0, .int (-1), .null])), (m9, .inr (23, mA mr mv vf xl (nI zs) ff_10 xa_11 (nI T) (nI (pp + 1)) xi xt xn (nI (ns + 1)) (nI vv) (nI bb))), (mr 5, .inl (kI, 3002, .inl fk)), (mr 6, .inl (kI, 3002, .inl fa))] : va_W) ++ (sT L8 F8)) := hD
      have hK : va_K (dC, dI) vwCl [(kI, .int), (kI, .int)] s := hK
      have hK := hK.sub (tys' := [(kI, .int)]) [0] rfl
      refine W.tight (k := (1 + 1)) (n := (5 + 5)) hgz.1 hgz.2 ?_
      refine va_put (D := (dC, dI)) (ci := 22) (v := .ref r_18) (ty := (.object "OwnedPlacesModel$Written")) (C := RX22) (T := TX22) (N := 5) hx hb hts in_c_rwr_X22 tyX22 tyX22_ok nmX22 hown hK hP hD hS 0 rfl rfl 4 (by decide) (hts (.fieldLink RX23 135 "OwnedPlacesModel$Written" "of" "LOwnedPlacesModel$Written;") (wm_c_rwr 38 rfl)) (fun _ h9 => h9) rfl (by decide +kernel) rfl rfl (Nat.le_of_ble_eq_true rfl) dX23_written_141 (fun H locs hP hD hS => ?_)
      have hP : va_P (dC, dI) vwCl (([(q_1, .inr (22, [.int (fk pp), .int (nI pp), .int 0, .int (-1), .ref r_18])), (m9, .inr (23, mA mr mv vf xl (nI zs) ff_10 xa_11 (nI T) (nI (pp + 1)) xi xt xn (nI (ns + 1)) (nI vv) (nI bb))), (mr 5, .inl (kI, 3002, .inl fk)), (mr 6, .inl (kI, 3002, .inl fa))] : va_W) ++ (sT L8 F8)) H := hP
      have hD : va_D A (([(q_1, .inr (22, [.int (fk pp), .int (nI pp), .int 0, .int (-1), .ref r_18])), (m9, .inr (23, mA mr mv vf xl (nI zs) ff_10 xa_11 (nI T) (nI (pp + 1)) xi xt xn (nI (ns + 1)) (nI vv) (nI bb))), (mr 5, .inl (kI, 3002, .inl fk)), (mr 6, .inl (kI, 3002, .inl fa))] : va_W) ++ (sT L8 F8)) := hD
      refine lv_aload_n hx hb dX23_written_144 rfl (lv_at hl 2 rfl) ?_
      refine lv_dup hx hb dX23_written_145 rfl ?_
      refine va_get (D := (dC, dI)) (ci := 23) (v := .int (nI (ns + 1))) (C := RX23) (T := TX23) (N := 89) hx hb hts in_c_rwr_X23 hown hK hP 1 rfl rfl 15 (by decide) (hts (.fieldLink RX23 104 "OwnedPlacesModel" "nest" "I") (wm_c_rwr 25 rfl)) (fun _ h9 => h9) rfl dX23_written_146 ?_
      refine lv_iconst (v := 1) hx hb dX23_written_149 (by decide) ?_
      refine lv_isub hx hb dX23_written_150 ?_
      refine lv_topi (fun f_19 ef_19 => ?_)
      obtain rfl : f_19 = nI ns := ef_19.trans (nI_pred _)
      refine va_put (D := (dC, dI)) (ci := 23) (v := .int (nI ns)) (ty := .int) (C := RX23) (T := TX23) (N := 89) hx hb hts in_c_rwr_X23 tyX23 tyX23_ok nmX23 hown hK hP hD hS 1 rfl rfl 15 (by decide) (hts (.fieldLink RX23 104 "OwnedPlacesModel" "nest" "I") (wm_c_rwr 25 rfl)) (fun _ h9 => h9) rfl (by decide +kernel) rfl rfl (Nat.le_of_ble_eq_true rfl) dX23_written_151 (fun H locs hP hD hS => ?_)
      have hP : va_P (dC, dI) vwCl (([(q_1, .inr (22, [.int (fk pp), .int (nI pp), .int 0, .int (-1), .ref r_18])), (m9, .inr (23, mA mr mv vf xl (nI zs) ff_10 xa_11 (nI T) (nI (pp + 1)) xi xt xn (nI ns) (nI vv) (nI bb))), (mr 5, .inl (kI, 3002, .inl fk)), (mr 6, .inl (kI, 3002, .inl fa))] : va_W) ++ (sT L8 F8)) H := hP
      have hD : va_D A (([(q_1, .inr (22, [.int (fk pp), .int (nI pp), .int 0, .int (-1), .ref r_18])), (m9, .inr (23, mA mr mv vf xl (nI zs) ff_10 xa_11 (nI T) (nI (pp + 1)) xi xt xn (nI ns) (nI vv) (nI bb))), (mr 5, .inl (kI, 3002, .inl fk)), (mr 6, .inl (kI, 3002, .inl fa))] : va_W) ++ (sT L8 F8)) := hD
      refine lv_goto (tgt := 214) hx hb dX23_written_154 (by decide) ?_
      refine lv_aload_n hx hb dX23_written_214 rfl (lv_at hl 1 rfl) ?_
      have hP : va_P (dC, dI) vwCl ((([(m9, .inr (23, mA mr mv vf xl (nI zs) ff_10 xa_11 (nI T) (nI (pp + 1)) xi xt xn (nI ns) (nI vv) (nI bb))), (mr 5, .inl (kI, 3002, .inl fk)), (mr 6, .inl (kI, 3002, .inl fa))] : va_W) ++ ([(q_1, .inr (22, [.int (fk pp), .int (nI pp), .int 0, .int (-1), .ref r_18]))] : va_W)) ++ sT L8 F8) H := hP.subT (f' := [(m9, .inr (23, mA mr mv vf xl (nI zs) ff_10 xa_11 (nI T) (nI (pp + 1)) xi xt xn (nI ns) (nI vv) (nI bb))), (mr 5, .inl (kI, 3002, .inl fk)), (mr 6, .inl (kI, 3002, .inl fa)), (q_1, .inr (22, [.int (fk pp), .int (nI pp), .int 0, .int (-1), .ref r_18]))]) [1, 2, 3, 0] rfl
      have hD : va_D A ((([(m9, .inr (23, mA mr mv vf xl (nI zs) ff_10 xa_11 (nI T) (nI (pp + 1)) xi xt xn (nI ns) (nI vv) (nI bb))), (mr 5, .inl (kI, 3002, .inl fk)), (mr 6, .inl (kI, 3002, .inl fa))] : va_W) ++ ([(q_1, .inr (22, [.int (fk pp), .int (nI pp), .int 0, .int (-1), .ref r_18]))] : va_W)) ++ sT L8 F8) := hD.subT (f' := [(m9, .inr (23, mA mr mv vf xl (nI zs) ff_10 xa_11 (nI T) (nI (pp + 1)) xi xt xn (nI ns) (nI vv) (nI bb))), (mr 5, .inl (kI, 3002, .inl fk)), (mr 6, .inl (kI, 3002, .inl fa)), (q_1, .inr (22, [.int (fk pp), .int (nI pp), .int 0, .int (-1), .ref r_18]))]) [1, 2, 3, 0] (by decide) rfl
      obtain ⟨L9, F9, hx9, hm9, hP, hD⟩ := st_fileL [(q_1, .inr (22, [.int (fk pp), .int (nI pp), .int 0, .int (-1), .ref r_18]))] hP hD
      have hm9_0 := hm9 _ (List.mem_of_getElem? (i := 0) rfl)
      refine W.grow (fun hgs0 hgs1 => ?_)
      have hP9 := hP.subT (f' := [(m9, .inr (23, mA mr mv vf xl (nI zs) ff_10 xa_11 (nI T) (nI (pp + 1)) xi xt xn (nI ns) (nI vv) (nI bb))), (mr 5, .inl (kI, 3002, .inl fk)), (mr 6, .inl (kI, 3002, .inl fa))]) [0, 1, 2] rfl
      have hD9 := hD.subT (f' := [(m9, .inr (23, mA mr mv vf xl (nI zs) ff_10 xa_11 (nI T) (nI (pp + 1)) xi xt xn (nI ns) (nI vv) (nI bb))), (mr 5, .inl (kI, 3002, .inl fk)), (mr 6, .inl (kI, 3002, .inl fa))]) [0, 1, 2] (by decide) rfl
      have hK9 := hK.sub (tys' := [(kI, .int)]) [0] rfl
      refine W.widen (k := ((T - pp) + 2)) (n := (5 * (T - pp) + 10)) (by omega) (by omega) ?_
      exact W.aret hx hb hr (Or.inl ⟨_, rfl⟩) (Or.inr ⟨q_1, rfl⟩) (fun tS ht hW => ⟨⟨(), q_1, rfl, trivial, L9, F9, ff_10, xa_11, pp + 1, ⟨hf18_0.1.tr hx9, hm9_0.1⟩, ⟨_, hm9_0.2⟩, ⟨by omega, by omega⟩, (fun q9 => absurd q9 hf12_0), by rw [ht]; exact ⟨by omega, by omega⟩, by rw [ht]; exact hP9, va_K.moved hW.alike hK9, hD9⟩, hS.F ht⟩) hS.2.2 dX23_written_215
    · have hPc := hP.subF (f' := [(m9, .inr (23, mA mr mv vf xl (nI zs) 0 xa (nI T) (nI pp) xi xt xn (nI ns) (nI vv) (nI bb))), (mr 6, .inl (kI, 3002, .inl fa))]) [2, 0] rfl
      have hDc := hD.subF (f' := [(m9, .inr (23, mA mr mv vf xl (nI zs) 0 xa (nI T) (nI pp) xi xt xn (nI ns) (nI vv) (nI bb))), (mr 6, .inl (kI, 3002, .inl fa))]) [2, 0] (by decide) rfl
      have hKc := hK.sub (tys' := [(kI, .int)]) [0] rfl
      have hFc := va_freeT (wc := [(m9, .inr (23, mA mr mv vf xl (nI zs) 0 xa (nI T) (nI pp) xi xt xn (nI ns) (nI vv) (nI bb))), (mr 6, .inl (kI, 3002, .inl fa))]) hD hS hA [2, 0] rfl
      refine va_callv (va_runV (As := [.int (nI pp)]) (rest := []) ⟨hx, hb, hml, hown, hts⟩ (c_renY l dC dI m9 mr mv vf xl xa xi xt xn zs T pp ns vv bb kI fk fa pp H.size (by omega) (⟨hn_9, by omega⟩)) (cwV 1 hts g_c_rwr_c_renY_61 rfl rfl rfl (by decide +kernel) ⟨by show 1 + 1 ≤ 3 + 1 * k; omega, by show 8 + (2 + 11) + (20) ≤ 54 + 22 * k; omega⟩) ⟨fun a U g mk q => by obtain ⟨q0, q1, qP, qK, qD⟩ := q; exact ⟨q0, q1, qP, va_K.moved (u := U) (U := U.calling g mk a) (Vm.Alike.refl U.vm) qK, qD⟩, va_recv hKc hPc (ci := 23) (q0 := 0) rfl rfl, fun U hU hW => ⟨rfl, by rw [hU], by rw [hU]; exact hPc, va_K.moved hW.alike hKc, hDc.weaken (fun _ _ _ _ => trivial)⟩⟩ rfl rfl hl.1 rfl (lv_room (Nat.le_of_ble_eq_true rfl)) dX23_written_61 ⟨(show 1 + 0 ≤ ((T - pp) + 2) by omega), (show 5 + 0 ≤ (5 * (T - pp) + 10) by omega)⟩) hS (fun q _ h => hFc q h) hFc (fun u tS H1 locs ht hvm hw hB hz1 hk1 hS => ?_)
      obtain ⟨hP1, hK1, hD1⟩ := hB
      rw [ht] at hP1
      have hK1 := va_K.moved hvm.symm hK1
      obtain ⟨hP, hD⟩ := va_joinT (wr := [(q_1, .inr (22, [.int (fk pp), .int (nI pp), .int 0, .int (-1), .null])), (mr 5, .inl (kI, 3002, .inl fk))]) (w1 := [(m9, .inr (23, mA mr mv vf xl (nI zs) 0 xa (nI T) (nI pp) xi xt xn (nI (ns + 1)) (nI vv) (nI bb))), (mr 6, .inl (kI, 3002, .inl fa))]) hP hD [2, 0] [1, 3] rfl rfl (by decide) (by decide) hk1 hFc hP1 hD1
      have hK := hK.app hK1
      generalize H1 = H at hP hS ⊢
      have hP : va_P (dC, dI) vwCl (([(q_1, .inr (22, [.int (fk pp), .int (nI pp), .int 0, .int (-1), .null])), (mr 5, .inl (kI, 3002, .inl fk)), (m9, .inr (23, mA mr mv vf xl (nI zs) 0 xa (nI T) (nI pp) xi xt xn (nI (ns + 1)) (nI vv) (nI bb))), (mr 6, .inl (kI, 3002, .inl fa))] : va_W) ++ (sT L F)) H := hP
      have hD : va_D A (([(q_1, .inr (22, [.int (fk pp), .int (nI pp), .int 0, .int (-1), .null])), (mr 5, .inl (kI, 3002, .inl fk)), (m9, .inr (23, mA mr mv vf xl (nI zs) 0 xa (nI T) (nI pp) xi xt xn (nI (ns + 1)) (nI vv) (nI bb))), (mr 6, .inl (kI, 3002, .inl fa))] : va_W) ++ (sT L F)) := hD
      have hK : va_K (dC, dI) vwCl [(kI, .int), (kI, .int)] s := hK
      have hK := hK.sub (tys' := [(kI, .int)]) [0] rfl
      refine lv_aload_n hx hb dX23_written_64 rfl (lv_at hl 1 rfl) ?_
      refine lv_bipush (v := 55) hx hb dX23_written_65 (by decide) ?_
      have hPc := hP.subF (f' := [(m9, .inr (23, mA mr mv vf xl (nI zs) 0 xa (nI T) (nI pp) xi xt xn (nI (ns + 1)) (nI vv) (nI bb))), (mr 5, .inl (kI, 3002, .inl fk))]) [2, 1] rfl
      have hDc := hD.subF (f' := [(m9, .inr (23, mA mr mv vf xl (nI zs) 0 xa (nI T) (nI pp) xi xt xn (nI (ns + 1)) (nI vv) (nI bb))), (mr 5, .inl (kI, 3002, .inl fk))]) [2, 1] (by decide) rfl
      have hKc := hK.sub (tys' := [(kI, .int)]) [0] rfl
      have hFc := va_freeT (wc := [(m9, .inr (23, mA mr mv vf xl (nI zs) 0 xa (nI T) (nI pp) xi xt xn (nI (ns + 1)) (nI vv) (nI bb))), (mr 5, .inl (kI, 3002, .inl fk))]) hD hS hA [2, 1] rfl
      refine va_calli (va_runV (As := [.int 55]) (rest := []) ⟨hx, hb, hml, hown, hts⟩ (c_risN l dC dI m9 mr mv vf xl xa xi xt xn zs T pp (ns + 1) vv bb kI fk fa 0 55 H.size hT hp (fun q9 => absurd (hk_6.symm.trans q9) (by decide))) (cwV 1 hts g_c_rwr_c_risN_67 rfl rfl rfl (by decide +kernel) ⟨by show 0 + 1 ≤ 3 + 1 * k; omega, by show 8 + (2 + 11) + (0) ≤ 54 + 22 * k; omega⟩) ⟨fun a U g mk q => by obtain ⟨q0, q1, qP, qK, qD⟩ := q; exact ⟨q0, q1, qP, va_K.moved (u := U) (U := U.calling g mk a) (Vm.Alike.refl U.vm) qK, qD⟩, va_recv hKc hPc (ci := 23) (q0 := 0) rfl rfl, fun U hU hW => ⟨rfl, by rw [hU], by rw [hU]; exact hPc, va_K.moved hW.alike hKc, hDc.weaken (fun _ _ _ _ => trivial)⟩⟩ rfl rfl hl.1 rfl (lv_room (Nat.le_of_ble_eq_true rfl)) dX23_written_67 ⟨(show 1 + 0 ≤ ((T - pp) + 2) by omega), (show 5 + 0 ≤ (5 * (T - pp) + 10) by omega)⟩) hS (fun q _ h => hFc q h) hFc (fun r_11 u tS H1 locs ht hvm hw hB hz1 hk1 hS => ?_)
      obtain ⟨hP1, hK1, hD1⟩ := hB
      rw [ht] at hP1
      have hK1 := va_K.moved hvm.symm hK1
      obtain ⟨hP, hD⟩ := va_joinT (wr := [(q_1, .inr (22, [.int (fk pp), .int (nI pp), .int 0, .int (-1), .null])), (mr 6, .inl (kI, 3002, .inl fa))]) (w1 := [(m9, .inr (23, mA mr mv vf xl (nI zs) 0 xa (nI T) (nI pp) xi xt xn (nI (ns + 1)) (nI vv) (nI bb))), (mr 5, .inl (kI, 3002, .inl fk))]) hP hD [2, 1] [0, 3] rfl rfl (by decide) (by decide) hk1 hFc hP1 hD1
      have hK := hK.app hK1
      generalize H1 = H at hP hS ⊢
      have hP : va_P (dC, dI) vwCl (([(q_1, .inr (22, [.int (fk pp), .int (nI pp), .int 0, .int (-1), .null])), (mr 6, .inl (kI, 3002, .inl fa)), (m9, .inr (23, mA mr mv vf xl (nI zs) 0 xa (nI T) (nI pp) xi xt xn (nI (ns + 1)) (nI vv) (nI bb))), (mr 5, .inl (kI, 3002, .inl fk))] : va_W) ++ (sT L F)) H := hP
      have hD : va_D A (([(q_1, .inr (22, [.int (fk pp), .int (nI pp), .int 0, .int (-1), .null])), (mr 6, .inl (kI, 3002, .inl fa)), (m9, .inr (23, mA mr mv vf xl (nI zs) 0 xa (nI T) (nI pp) xi xt xn (nI (ns + 1)) (nI vv) (nI bb))), (mr 5, .inl (kI, 3002, .inl fk))] : va_W) ++ (sT L F)) := hD
      have hK : va_K (dC, dI) vwCl [(kI, .int), (kI, .int)] s := hK
      have hK := hK.sub (tys' := [(kI, .int)]) [0] rfl
      obtain rfl : r_11 = 0 := hw
      refine lv_istore_n (lv' := [(2, .int 0), (1, .ref q_1), (0, .ref m9)]) hx hb dX23_written_70 rfl hl (by decide) rfl (fun ls hl => ?_)
      refine lv_aload_n hx hb dX23_written_71 rfl (lv_at hl 2 rfl) ?_
      refine lv_dup hx hb dX23_written_72 rfl ?_
      refine va_get (D := (dC, dI)) (ci := 23) (v := .int (nI pp)) (C := RX23) (T := TX23) (N := 89) hx hb hts in_c_rwr_X23 hown hK hP 2 rfl rfl 10 (by decide) (hts (.fieldLink RX23 86 "OwnedPlacesModel" "p" "I") (wm_c_rwr 16 rfl)) (fun _ h9 => h9) rfl dX23_written_73 ?_
      refine lv_iconst (v := 1) hx hb dX23_written_76 (by decide) ?_
      refine lv_iadd hx hb dX23_written_77 ?_
      refine lv_topi (fun f_12 ef_12 => ?_)
      obtain rfl : f_12 = nI (pp + 1) := ef_12.trans (nI_1 _)
      refine va_put (D := (dC, dI)) (ci := 23) (v := .int (nI (pp + 1))) (ty := .int) (C := RX23) (T := TX23) (N := 89) hx hb hts in_c_rwr_X23 tyX23 tyX23_ok nmX23 hown hK hP hD hS 2 rfl rfl 10 (by decide) (hts (.fieldLink RX23 86 "OwnedPlacesModel" "p" "I") (wm_c_rwr 16 rfl)) (fun _ h9 => h9) rfl (by decide +kernel) rfl rfl (Nat.le_of_ble_eq_true rfl) dX23_written_78 (fun H locs hP hD hS => ?_)
      have hP : va_P (dC, dI) vwCl (([(q_1, .inr (22, [.int (fk pp), .int (nI pp), .int 0, .int (-1), .null])), (mr 6, .inl (kI, 3002, .inl fa)), (m9, .inr (23, mA mr mv vf xl (nI zs) 0 xa (nI T) (nI (pp + 1)) xi xt xn (nI (ns + 1)) (nI vv) (nI bb))), (mr 5, .inl (kI, 3002, .inl fk))] : va_W) ++ (sT L F)) H := hP
      have hD : va_D A (([(q_1, .inr (22, [.int (fk pp), .int (nI pp), .int 0, .int (-1), .null])), (mr 6, .inl (kI, 3002, .inl fa)), (m9, .inr (23, mA mr mv vf xl (nI zs) 0 xa (nI T) (nI (pp + 1)) xi xt xn (nI (ns + 1)) (nI vv) (nI bb))), (mr 5, .inl (kI, 3002, .inl fk))] : va_W) ++ (sT L F)) := hD
      have hp_13 : pp + 1 < T := kne3 hk0 hp hk_6 (by decide)
      refine lv_iload_n hx hb dX23_written_81 rfl (lv_at hl 0 rfl) ?_
      refine lv_if_eq (tgt := 118) hx hb dX23_written_82 (by decide) (fun _ => ?_) (fun c_14 => absurd (by decide) c_14)
      refine lv_iload_n hx hb dX23_written_118 rfl (lv_at hl 0 rfl) ?_
      refine lv_if_eq (tgt := 136) hx hb dX23_written_119 (by decide) (fun _ => ?_) (fun c_15 => absurd (by decide) c_15)
      refine lv_aload_n hx hb dX23_written_136 rfl (lv_at hl 1 rfl) ?_
      refine lv_aload_n hx hb dX23_written_137 rfl (lv_at hl 2 rfl) ?_
      obtain ⟨k1, hkL⟩ : ∃ k1 : Nat, k = k1 + 1 := ⟨k - 1, by omega⟩
      have hPc := hP.subT (f' := [(m9, .inr (23, mA mr mv vf xl (nI zs) 0 xa (nI T) (nI (pp + 1)) xi xt xn (nI (ns + 1)) (nI vv) (nI bb))), (mr 5, .inl (kI, 3002, .inl fk)), (mr 6, .inl (kI, 3002, .inl fa))]) [2, 3, 1] rfl
      have hDc := hD.subT (f' := [(m9, .inr (23, mA mr mv vf xl (nI zs) 0 xa (nI T) (nI (pp + 1)) xi xt xn (nI (ns + 1)) (nI vv) (nI bb))), (mr 5, .inl (kI, 3002, .inl fk)), (mr 6, .inl (kI, 3002, .inl fa))]) [2, 3, 1] (by decide) rfl
      have hKc := hK.sub (tys' := [(kI, .int)]) [0] rfl
      have hFc := va_freeB (wc := [(m9, .inr (23, mA mr mv vf xl (nI zs) 0 xa (nI T) (nI (pp + 1)) xi xt xn (nI (ns + 1)) (nI vv) (nI bb))), (mr 5, .inl (kI, 3002, .inl fk)), (mr 6, .inl (kI, 3002, .inl fa))]) hD hS hA [2, 3, 1] rfl
      refine W.grow (fun hgs0 hgs1 => ?_)
      refine va_callr (va_runV (As := []) (rest := [.ref q_1]) ⟨hx, hb, hml, hown, hts⟩ ((ih k1 hkL) m9 mr mv vf xl xa xi xt xn zs T (pp + 1) (ns + 1) vv bb kI fk fa L F (slN H) H.size hT hp_13 hk0 (by omega)) (cwV 0 hts g_c_rwr_c_rwr_138 rfl rfl rfl (by decide +kernel) ⟨by show 3 + 1 * k1 + 1 ≤ 3 + 1 * k; omega, by show 8 + (3 + 11) + (54 + 22 * k1) ≤ 54 + 22 * k; omega⟩) ⟨fun a U g mk q => by obtain ⟨q0, q1, qP, qK, qD, qx0, qx1⟩ := q; exact ⟨q0, q1, qP, va_K.moved (u := U) (U := U.calling g mk a) (Vm.Alike.refl U.vm) qK, qD, nsM.same (u := U) (U := U.calling g mk a) rfl qx0, qx1⟩, va_recv hKc hPc (ci := 23) (q0 := 0) rfl rfl, fun U hU hW => ⟨rfl, by rw [hU], by rw [hU]; exact hPc, va_K.moved hW.alike hKc, hDc.weaken (fun _ _ _ _ => trivial), nsM.warm hW hns, by rw [hU]⟩⟩ rfl rfl hl.1 rfl (lv_room (Nat.le_of_ble_eq_true rfl)) dX23_written_138 ⟨(show 1 + ((T - (pp + 1)) + 2) ≤ ((T - pp) + 2) by omega), (show 5 + (5 * (T - (pp + 1)) + 10) ≤ (5 * (T - pp) + 10) by omega)⟩) hS (fun q _ h => hFc q h) hFc (fun u r_16 tS H1 locs ht hvm hw hB hz1 hk1 hS => ?_)
      obtain ⟨L8, F8, ff8, xa8, pp8, hf16_0, hf16_1, hf16_2, hf16_3, hf16_4, hP1, hK1, hD1⟩ := hB
      rw [ht] at hP1
      have hK1 := va_K.moved hvm.symm hK1
      rw [ht] at hf16_4
      have hgz : H1.size ≤ s.heap.size + ((1 + (pp8 - (pp + 1)) + 1)) ∧ slN H1 ≤ slN s.heap + ((5 + 5 * (pp8 - (pp + 1)) + 5)) := ⟨by have := hf16_4.1; omega, by have := hf16_4.2; omega⟩
      obtain ⟨hP, hD⟩ := va_joinB (wr := [(q_1, .inr (22, [.int (fk pp), .int (nI pp), .int 0, .int (-1), .null]))]) (w1 := [(m9, .inr (23, mA mr mv vf xl (nI zs) ff8 xa8 (nI T) (nI pp8) xi xt xn (nI (ns + 1)) (nI vv) (nI bb))), (mr 5, .inl (kI, 3002, .inl fk)), (mr 6, .inl (kI, 3002, .inl fa))]) hP hD [2, 3, 1] [0] rfl rfl (by decide) (by decide) hk1 hFc hP1 hD1
      have hK := hK.app hK1
      generalize H1 = H at hP hS hgz ⊢
      have hP : va_P (dC, dI) vwCl (([(q_1, .inr (22, [.int (fk pp), .int (nI pp), .int 0, .int (-1), .null])), (m9, .inr (23, mA mr mv vf xl (nI zs) ff8 xa8 (nI T) (nI pp8) xi xt xn (nI (ns + 1)) (nI vv) (nI bb))), (mr 5, .inl (kI, 3002, .inl fk)), (mr 6, .inl (kI, 3002, .inl fa))] : va_W) ++ (sT L8 F8)) H := hP
      have hD : va_D A (([(q_1, .inr (22, [.int (fk pp), .int (nI pp), .int 0, .int (-1), .null])), (m9, .inr (23, mA mr mv vf xl (nI zs) ff8 xa8 (nI T) (nI pp8) xi xt xn (nI (ns + 1)) (nI vv) (nI bb))), (mr 5, .inl (kI, 3002, .inl fk)), (mr 6, .inl (kI, 3002, .inl fa))] : va_W) ++ (sT L8 F8)) := hD
      have hK : va_K (dC, dI) vwCl [(kI, .int), (kI, .int)] s := hK
      have hK := hK.sub (tys' := [(kI, .int)]) [0] rfl
      refine W.tight (k := (1 + (pp8 - (pp + 1)) + 1)) (n := (5 + 5 * (pp8 - (pp + 1)) + 5)) hgz.1 hgz.2 ?_
      refine va_put (D := (dC, dI)) (ci := 22) (v := .ref r_16) (ty := (.object "OwnedPlacesModel$Written")) (C := RX22) (T := TX22) (N := 5) hx hb hts in_c_rwr_X22 tyX22 tyX22_ok nmX22 hown hK hP hD hS 0 rfl rfl 4 (by decide) (hts (.fieldLink RX23 135 "OwnedPlacesModel$Written" "of" "LOwnedPlacesModel$Written;") (wm_c_rwr 38 rfl)) (fun _ h9 => h9) rfl (by decide +kernel) rfl rfl (Nat.le_of_ble_eq_true rfl) dX23_written_141 (fun H locs hP hD hS => ?_)
      have hP : va_P (dC, dI) vwCl (([(q_1, .inr (22, [.int (fk pp), .int (nI pp), .int 0, .int (-1), .ref r_16])), (m9, .inr (23, mA mr mv vf xl (nI zs) ff8 xa8 (nI T) (nI pp8) xi xt xn (nI (ns + 1)) (nI vv) (nI bb))), (mr 5, .inl (kI, 3002, .inl fk)), (mr 6, .inl (kI, 3002, .inl fa))] : va_W) ++ (sT L8 F8)) H := hP
      have hD : va_D A (([(q_1, .inr (22, [.int (fk pp), .int (nI pp), .int 0, .int (-1), .ref r_16])), (m9, .inr (23, mA mr mv vf xl (nI zs) ff8 xa8 (nI T) (nI pp8) xi xt xn (nI (ns + 1)) (nI vv) (nI bb))), (mr 5, .inl (kI, 3002, .inl fk)), (mr 6, .inl (kI, 3002, .inl fa))] : va_W) ++ (sT L8 F8)) := hD
      refine lv_aload_n hx hb dX23_written_144 rfl (lv_at hl 2 rfl) ?_
      refine lv_dup hx hb dX23_written_145 rfl ?_
      refine va_get (D := (dC, dI)) (ci := 23) (v := .int (nI (ns + 1))) (C := RX23) (T := TX23) (N := 89) hx hb hts in_c_rwr_X23 hown hK hP 1 rfl rfl 15 (by decide) (hts (.fieldLink RX23 104 "OwnedPlacesModel" "nest" "I") (wm_c_rwr 25 rfl)) (fun _ h9 => h9) rfl dX23_written_146 ?_
      refine lv_iconst (v := 1) hx hb dX23_written_149 (by decide) ?_
      refine lv_isub hx hb dX23_written_150 ?_
      refine lv_topi (fun f_17 ef_17 => ?_)
      obtain rfl : f_17 = nI ns := ef_17.trans (nI_pred _)
      refine va_put (D := (dC, dI)) (ci := 23) (v := .int (nI ns)) (ty := .int) (C := RX23) (T := TX23) (N := 89) hx hb hts in_c_rwr_X23 tyX23 tyX23_ok nmX23 hown hK hP hD hS 1 rfl rfl 15 (by decide) (hts (.fieldLink RX23 104 "OwnedPlacesModel" "nest" "I") (wm_c_rwr 25 rfl)) (fun _ h9 => h9) rfl (by decide +kernel) rfl rfl (Nat.le_of_ble_eq_true rfl) dX23_written_151 (fun H locs hP hD hS => ?_)
      have hP : va_P (dC, dI) vwCl (([(q_1, .inr (22, [.int (fk pp), .int (nI pp), .int 0, .int (-1), .ref r_16])), (m9, .inr (23, mA mr mv vf xl (nI zs) ff8 xa8 (nI T) (nI pp8) xi xt xn (nI ns) (nI vv) (nI bb))), (mr 5, .inl (kI, 3002, .inl fk)), (mr 6, .inl (kI, 3002, .inl fa))] : va_W) ++ (sT L8 F8)) H := hP
      have hD : va_D A (([(q_1, .inr (22, [.int (fk pp), .int (nI pp), .int 0, .int (-1), .ref r_16])), (m9, .inr (23, mA mr mv vf xl (nI zs) ff8 xa8 (nI T) (nI pp8) xi xt xn (nI ns) (nI vv) (nI bb))), (mr 5, .inl (kI, 3002, .inl fk)), (mr 6, .inl (kI, 3002, .inl fa))] : va_W) ++ (sT L8 F8)) := hD
      refine lv_goto (tgt := 214) hx hb dX23_written_154 (by decide) ?_
      refine lv_aload_n hx hb dX23_written_214 rfl (lv_at hl 1 rfl) ?_
      have hP : va_P (dC, dI) vwCl ((([(m9, .inr (23, mA mr mv vf xl (nI zs) ff8 xa8 (nI T) (nI pp8) xi xt xn (nI ns) (nI vv) (nI bb))), (mr 5, .inl (kI, 3002, .inl fk)), (mr 6, .inl (kI, 3002, .inl fa))] : va_W) ++ ([(q_1, .inr (22, [.int (fk pp), .int (nI pp), .int 0, .int (-1), .ref r_16]))] : va_W)) ++ sT L8 F8) H := hP.subT (f' := [(m9, .inr (23, mA mr mv vf xl (nI zs) ff8 xa8 (nI T) (nI pp8) xi xt xn (nI ns) (nI vv) (nI bb))), (mr 5, .inl (kI, 3002, .inl fk)), (mr 6, .inl (kI, 3002, .inl fa)), (q_1, .inr (22, [.int (fk pp), .int (nI pp), .int 0, .int (-1), .ref r_16]))]) [1, 2, 3, 0] rfl
      have hD : va_D A ((([(m9, .inr (23, mA mr mv vf xl (nI zs) ff8 xa8 (nI T) (nI pp8) xi xt xn (nI ns) (nI vv) (nI bb))), (mr 5, .inl (kI, 3002, .inl fk)), (mr 6, .inl (kI, 3002, .inl fa))] : va_W) ++ ([(q_1, .inr (22, [.int (fk pp), .int (nI pp), .int 0, .int (-1), .ref r_16]))] : va_W)) ++ sT L8 F8) := hD.subT (f' := [(m9, .inr (23, mA mr mv vf xl (nI zs) ff8 xa8 (nI T) (nI pp8) xi xt xn (nI ns) (nI vv) (nI bb))), (mr 5, .inl (kI, 3002, .inl fk)), (mr 6, .inl (kI, 3002, .inl fa)), (q_1, .inr (22, [.int (fk pp), .int (nI pp), .int 0, .int (-1), .ref r_16]))]) [1, 2, 3, 0] (by decide) rfl
      obtain ⟨L9, F9, hx9, hm9, hP, hD⟩ := st_fileL [(q_1, .inr (22, [.int (fk pp), .int (nI pp), .int 0, .int (-1), .ref r_16]))] hP hD
      have hm9_0 := hm9 _ (List.mem_of_getElem? (i := 0) rfl)
      refine W.grow (fun hgs0 hgs1 => ?_)
      have hP9 := hP.subT (f' := [(m9, .inr (23, mA mr mv vf xl (nI zs) ff8 xa8 (nI T) (nI pp8) xi xt xn (nI ns) (nI vv) (nI bb))), (mr 5, .inl (kI, 3002, .inl fk)), (mr 6, .inl (kI, 3002, .inl fa))]) [0, 1, 2] rfl
      have hD9 := hD.subT (f' := [(m9, .inr (23, mA mr mv vf xl (nI zs) ff8 xa8 (nI T) (nI pp8) xi xt xn (nI ns) (nI vv) (nI bb))), (mr 5, .inl (kI, 3002, .inl fk)), (mr 6, .inl (kI, 3002, .inl fa))]) [0, 1, 2] (by decide) rfl
      have hK9 := hK.sub (tys' := [(kI, .int)]) [0] rfl
      refine W.widen (k := ((T - pp) + 2)) (n := (5 * (T - pp) + 10)) (by omega) (by omega) ?_
      exact W.aret hx hb hr (Or.inl ⟨_, rfl⟩) (Or.inr ⟨q_1, rfl⟩) (fun tS ht hW => ⟨⟨(), q_1, rfl, trivial, L9, F9, ff8, xa8, pp8, ⟨hf16_0.1.tr hx9, hm9_0.1⟩, ⟨_, hm9_0.2⟩, ⟨by omega, by omega⟩, (fun h0 => ⟨hm9_0.1, Or.inr (Or.inl ⟨hk_6, r_16, hm9_0.2, (by rw [hkL]; exact isT_ex hx9 (hf16_3 h0))⟩)⟩), by rw [ht]; exact ⟨by omega, by omega⟩, by rw [ht]; exact hP9, va_K.moved hW.alike hK9, hD9⟩, hS.F ht⟩) hS.2.2 dX23_written_215
  · have hPc := hP.subF (f' := [(m9, .inr (23, mA mr mv vf xl (nI zs) 0 xa (nI T) (nI pp) xi xt xn (nI ns) (nI vv) (nI bb))), (mr 5, .inl (kI, 3002, .inl fk))]) [3, 0] rfl
    have hDc := hD.subF (f' := [(m9, .inr (23, mA mr mv vf xl (nI zs) 0 xa (nI T) (nI pp) xi xt xn (nI ns) (nI vv) (nI bb))), (mr 5, .inl (kI, 3002, .inl fk))]) [3, 0] (by decide) rfl
    have hKc := hK.sub (tys' := [(kI, .int)]) [0] rfl
    have hFc := va_freeT (wc := [(m9, .inr (23, mA mr mv vf xl (nI zs) 0 xa (nI T) (nI pp) xi xt xn (nI ns) (nI vv) (nI bb))), (mr 5, .inl (kI, 3002, .inl fk))]) hD hS hA [3, 0] rfl
    refine va_calli (va_runV (As := [.int 23]) (rest := []) ⟨hx, hb, hml, hown, hts⟩ (c_risN l dC dI m9 mr mv vf xl xa xi xt xn zs T pp ns vv bb kI fk fa 0 23 H.size hT hp hk_6) (cwV 1 hts g_c_rwr_c_risN_41 rfl rfl rfl (by decide +kernel) ⟨by show 0 + 1 ≤ 3 + 1 * k; omega, by show 8 + (2 + 11) + (0) ≤ 54 + 22 * k; omega⟩) ⟨fun a U g mk q => by obtain ⟨q0, q1, qP, qK, qD⟩ := q; exact ⟨q0, q1, qP, va_K.moved (u := U) (U := U.calling g mk a) (Vm.Alike.refl U.vm) qK, qD⟩, va_recv hKc hPc (ci := 23) (q0 := 0) rfl rfl, fun U hU hW => ⟨rfl, by rw [hU], by rw [hU]; exact hPc, va_K.moved hW.alike hKc, hDc.weaken (fun _ _ _ _ => trivial)⟩⟩ rfl rfl hl.1 rfl (lv_room (Nat.le_of_ble_eq_true rfl)) dX23_written_41 ⟨(show 1 + 0 ≤ ((T - pp) + 2) by omega), (show 5 + 0 ≤ (5 * (T - pp) + 10) by omega)⟩) hS (fun q _ h => hFc q h) hFc (fun r_7 u tS H1 locs ht hvm hw hB hz1 hk1 hS => ?_)
    obtain ⟨hP1, hK1, hD1⟩ := hB
    rw [ht] at hP1
    have hK1 := va_K.moved hvm.symm hK1
    obtain ⟨hP, hD⟩ := va_joinT (wr := [(mr 6, .inl (kI, 3002, .inl fa)), (q_1, .inr (22, [.int (fk pp), .int (nI pp), .int 0, .int (-1), .null]))]) (w1 := [(m9, .inr (23, mA mr mv vf xl (nI zs) 0 xa (nI T) (nI pp) xi xt xn (nI ns) (nI vv) (nI bb))), (mr 5, .inl (kI, 3002, .inl fk))]) hP hD [3, 0] [1, 2] rfl rfl (by decide) (by decide) hk1 hFc hP1 hD1
    have hK := hK.app hK1
    generalize H1 = H at hP hS ⊢
    have hP : va_P (dC, dI) vwCl (([(mr 6, .inl (kI, 3002, .inl fa)), (q_1, .inr (22, [.int (fk pp), .int (nI pp), .int 0, .int (-1), .null])), (m9, .inr (23, mA mr mv vf xl (nI zs) 0 xa (nI T) (nI pp) xi xt xn (nI ns) (nI vv) (nI bb))), (mr 5, .inl (kI, 3002, .inl fk))] : va_W) ++ (sT L F)) H := hP
    have hD : va_D A (([(mr 6, .inl (kI, 3002, .inl fa)), (q_1, .inr (22, [.int (fk pp), .int (nI pp), .int 0, .int (-1), .null])), (m9, .inr (23, mA mr mv vf xl (nI zs) 0 xa (nI T) (nI pp) xi xt xn (nI ns) (nI vv) (nI bb))), (mr 5, .inl (kI, 3002, .inl fk))] : va_W) ++ (sT L F)) := hD
    have hK : va_K (dC, dI) vwCl [(kI, .int), (kI, .int)] s := hK
    have hK := hK.sub (tys' := [(kI, .int)]) [0] rfl
    obtain rfl : r_7 = 0 := hw
    refine lv_if_ne (tgt := 56) hx hb dX23_written_44 (by decide) (fun c_8 => absurd c_8 (by decide)) (fun _ => ?_)
    refine lv_aload_n hx hb dX23_written_47 rfl (lv_at hl 1 rfl) ?_
    refine lv_bipush (v := 55) hx hb dX23_written_48 (by decide) ?_
    by_cases hk_9 : fk pp = 55
    · have hPc := hP.subF (f' := [(m9, .inr (23, mA mr mv vf xl (nI zs) 0 xa (nI T) (nI pp) xi xt xn (nI ns) (nI vv) (nI bb))), (mr 5, .inl (kI, 3002, .inl fk))]) [2, 3] rfl
      have hDc := hD.subF (f' := [(m9, .inr (23, mA mr mv vf xl (nI zs) 0 xa (nI T) (nI pp) xi xt xn (nI ns) (nI vv) (nI bb))), (mr 5, .inl (kI, 3002, .inl fk))]) [2, 3] (by decide) rfl
      have hKc := hK.sub (tys' := [(kI, .int)]) [0] rfl
      have hFc := va_freeT (wc := [(m9, .inr (23, mA mr mv vf xl (nI zs) 0 xa (nI T) (nI pp) xi xt xn (nI ns) (nI vv) (nI bb))), (mr 5, .inl (kI, 3002, .inl fk))]) hD hS hA [2, 3] rfl
      refine va_calli (va_runV (As := [.int 55]) (rest := []) ⟨hx, hb, hml, hown, hts⟩ (c_risY l dC dI m9 mr mv vf xl xa xi xt xn zs T pp ns vv bb kI fk fa 0 55 H.size hT hp hk_9) (cwV 1 hts g_c_rwr_c_risY_50 rfl rfl rfl (by decide +kernel) ⟨by show 0 + 1 ≤ 3 + 1 * k; omega, by show 8 + (2 + 11) + (0) ≤ 54 + 22 * k; omega⟩) ⟨fun a U g mk q => by obtain ⟨q0, q1, qP, qK, qD⟩ := q; exact ⟨q0, q1, qP, va_K.moved (u := U) (U := U.calling g mk a) (Vm.Alike.refl U.vm) qK, qD⟩, va_recv hKc hPc (ci := 23) (q0 := 0) rfl rfl, fun U hU hW => ⟨rfl, by rw [hU], by rw [hU]; exact hPc, va_K.moved hW.alike hKc, hDc.weaken (fun _ _ _ _ => trivial)⟩⟩ rfl rfl hl.1 rfl (lv_room (Nat.le_of_ble_eq_true rfl)) dX23_written_50 ⟨(show 1 + 0 ≤ ((T - pp) + 2) by omega), (show 5 + 0 ≤ (5 * (T - pp) + 10) by omega)⟩) hS (fun q _ h => hFc q h) hFc (fun r_10 u tS H1 locs ht hvm hw hB hz1 hk1 hS => ?_)
      obtain ⟨hP1, hK1, hD1⟩ := hB
      rw [ht] at hP1
      have hK1 := va_K.moved hvm.symm hK1
      obtain ⟨hP, hD⟩ := va_joinT (wr := [(mr 6, .inl (kI, 3002, .inl fa)), (q_1, .inr (22, [.int (fk pp), .int (nI pp), .int 0, .int (-1), .null]))]) (w1 := [(m9, .inr (23, mA mr mv vf xl (nI zs) 0 xa (nI T) (nI pp) xi xt xn (nI ns) (nI vv) (nI bb))), (mr 5, .inl (kI, 3002, .inl fk))]) hP hD [2, 3] [0, 1] rfl rfl (by decide) (by decide) hk1 hFc hP1 hD1
      have hK := hK.app hK1
      generalize H1 = H at hP hS ⊢
      have hP : va_P (dC, dI) vwCl (([(mr 6, .inl (kI, 3002, .inl fa)), (q_1, .inr (22, [.int (fk pp), .int (nI pp), .int 0, .int (-1), .null])), (m9, .inr (23, mA mr mv vf xl (nI zs) 0 xa (nI T) (nI pp) xi xt xn (nI ns) (nI vv) (nI bb))), (mr 5, .inl (kI, 3002, .inl fk))] : va_W) ++ (sT L F)) H := hP
      have hD : va_D A (([(mr 6, .inl (kI, 3002, .inl fa)), (q_1, .inr (22, [.int (fk pp), .int (nI pp), .int 0, .int (-1), .null])), (m9, .inr (23, mA mr mv vf xl (nI zs) 0 xa (nI T) (nI pp) xi xt xn (nI ns) (nI vv) (nI bb))), (mr 5, .inl (kI, 3002, .inl fk))] : va_W) ++ (sT L F)) := hD
      have hK : va_K (dC, dI) vwCl [(kI, .int), (kI, .int)] s := hK
      have hK := hK.sub (tys' := [(kI, .int)]) [0] rfl
      obtain rfl : r_10 = 1 := hw
      refine lv_if_eq (tgt := 157) hx hb dX23_written_53 (by decide) (fun c_11 => absurd c_11 (by decide)) (fun _ => ?_)
      refine lv_aload_n hx hb dX23_written_56 rfl (lv_at hl 1 rfl) ?_
      refine lv_aload_n hx hb dX23_written_57 rfl (lv_at hl 1 rfl) ?_
      refine va_get (D := (dC, dI)) (ci := 23) (v := .int (nI pp)) (C := RX23) (T := TX23) (N := 89) hx hb hts in_c_rwr_X23 hown hK hP 2 rfl rfl 10 (by decide) (hts (.fieldLink RX23 86 "OwnedPlacesModel" "p" "I") (wm_c_rwr 16 rfl)) (fun _ h9 => h9) rfl dX23_written_58 ?_
      by_cases hn_12 : ns = 16
      · have hPc := hP.subF (f' := [(m9, .inr (23, mA mr mv vf xl (nI zs) 0 xa (nI T) (nI pp) xi xt xn (nI ns) (nI vv) (nI bb))), (mr 6, .inl (kI, 3002, .inl fa))]) [2, 0] rfl
        have hDc := hD.subF (f' := [(m9, .inr (23, mA mr mv vf xl (nI zs) 0 xa (nI T) (nI pp) xi xt xn (nI ns) (nI vv) (nI bb))), (mr 6, .inl (kI, 3002, .inl fa))]) [2, 0] (by decide) rfl
        have hKc := hK.sub (tys' := [(kI, .int)]) [0] rfl
        have hFc := va_freeT (wc := [(m9, .inr (23, mA mr mv vf xl (nI zs) 0 xa (nI T) (nI pp) xi xt xn (nI ns) (nI vv) (nI bb))), (mr 6, .inl (kI, 3002, .inl fa))]) hD hS hA [2, 0] rfl
        refine va_callv (va_runV (As := [.int (nI pp)]) (rest := []) ⟨hx, hb, hml, hown, hts⟩ (c_renN l dC dI m9 mr mv vf xl xa xi xt xn zs T pp ns vv bb kI fk fa pp H.size (by omega) hn_12) (cwV 1 hts g_c_rwr_c_renN_61 rfl rfl rfl (by decide +kernel) ⟨by show 1 + 1 ≤ 3 + 1 * k; omega, by show 8 + (2 + 11) + (22) ≤ 54 + 22 * k; omega⟩) ⟨fun a U g mk q => by obtain ⟨q0, q1, qP, qK, qD⟩ := q; exact ⟨q0, q1, qP, va_K.moved (u := U) (U := U.calling g mk a) (Vm.Alike.refl U.vm) qK, qD⟩, va_recv hKc hPc (ci := 23) (q0 := 0) rfl rfl, fun U hU hW => ⟨rfl, by rw [hU], by rw [hU]; exact hPc, va_K.moved hW.alike hKc, hDc.weaken (fun _ _ _ _ => trivial)⟩⟩ rfl rfl hl.1 rfl (lv_room (Nat.le_of_ble_eq_true rfl)) dX23_written_61 ⟨(show 1 + 0 ≤ ((T - pp) + 2) by omega), (show 5 + 0 ≤ (5 * (T - pp) + 10) by omega)⟩) hS (fun q _ h => hFc q h) hFc (fun u tS H1 locs ht hvm hw hB hz1 hk1 hS => ?_)
        obtain ⟨ff_13, xa_14, hf15_0, hP1, hK1, hD1⟩ := hB
        rw [ht] at hP1
        have hK1 := va_K.moved hvm.symm hK1
        obtain ⟨hP, hD⟩ := va_joinT (wr := [(q_1, .inr (22, [.int (fk pp), .int (nI pp), .int 0, .int (-1), .null])), (mr 5, .inl (kI, 3002, .inl fk))]) (w1 := [(m9, .inr (23, mA mr mv vf xl (nI zs) ff_13 xa_14 (nI T) (nI pp) xi xt xn (nI (ns + 1)) (nI vv) (nI bb))), (mr 6, .inl (kI, 3002, .inl fa))]) hP hD [2, 0] [1, 3] rfl rfl (by decide) (by decide) hk1 hFc hP1 hD1
        have hK := hK.app hK1
        generalize H1 = H at hP hS ⊢
        have hP : va_P (dC, dI) vwCl (([(q_1, .inr (22, [.int (fk pp), .int (nI pp), .int 0, .int (-1), .null])), (mr 5, .inl (kI, 3002, .inl fk)), (m9, .inr (23, mA mr mv vf xl (nI zs) ff_13 xa_14 (nI T) (nI pp) xi xt xn (nI (ns + 1)) (nI vv) (nI bb))), (mr 6, .inl (kI, 3002, .inl fa))] : va_W) ++ (sT L F)) H := hP
        have hD : va_D A (([(q_1, .inr (22, [.int (fk pp), .int (nI pp), .int 0, .int (-1), .null])), (mr 5, .inl (kI, 3002, .inl fk)), (m9, .inr (23, mA mr mv vf xl (nI zs) ff_13 xa_14 (nI T) (nI pp) xi xt xn (nI (ns + 1)) (nI vv) (nI bb))), (mr 6, .inl (kI, 3002, .inl fa))] : va_W) ++ (sT L F)) := hD
        have hK : va_K (dC, dI) vwCl [(kI, .int), (kI, .int)] s := hK
        have hK := hK.sub (tys' := [(kI, .int)]) [0] rfl
        refine lv_aload_n hx hb dX23_written_64 rfl (lv_at hl 1 rfl) ?_
        refine lv_bipush (v := 55) hx hb dX23_written_65 (by decide) ?_
        have hPc := hP.subF (f' := [(m9, .inr (23, mA mr mv vf xl (nI zs) ff_13 xa_14 (nI T) (nI pp) xi xt xn (nI (ns + 1)) (nI vv) (nI bb))), (mr 5, .inl (kI, 3002, .inl fk))]) [2, 1] rfl
        have hDc := hD.subF (f' := [(m9, .inr (23, mA mr mv vf xl (nI zs) ff_13 xa_14 (nI T) (nI pp) xi xt xn (nI (ns + 1)) (nI vv) (nI bb))), (mr 5, .inl (kI, 3002, .inl fk))]) [2, 1] (by decide) rfl
        have hKc := hK.sub (tys' := [(kI, .int)]) [0] rfl
        have hFc := va_freeT (wc := [(m9, .inr (23, mA mr mv vf xl (nI zs) ff_13 xa_14 (nI T) (nI pp) xi xt xn (nI (ns + 1)) (nI vv) (nI bb))), (mr 5, .inl (kI, 3002, .inl fk))]) hD hS hA [2, 1] rfl
        refine va_calli (va_runV (As := [.int 55]) (rest := []) ⟨hx, hb, hml, hown, hts⟩ (c_risY l dC dI m9 mr mv vf xl xa_14 xi xt xn zs T pp (ns + 1) vv bb kI fk fa ff_13 55 H.size hT hp hk_9) (cwV 1 hts g_c_rwr_c_risY_67 rfl rfl rfl (by decide +kernel) ⟨by show 0 + 1 ≤ 3 + 1 * k; omega, by show 8 + (2 + 11) + (0) ≤ 54 + 22 * k; omega⟩) ⟨fun a U g mk q => by obtain ⟨q0, q1, qP, qK, qD⟩ := q; exact ⟨q0, q1, qP, va_K.moved (u := U) (U := U.calling g mk a) (Vm.Alike.refl U.vm) qK, qD⟩, va_recv hKc hPc (ci := 23) (q0 := 0) rfl rfl, fun U hU hW => ⟨rfl, by rw [hU], by rw [hU]; exact hPc, va_K.moved hW.alike hKc, hDc.weaken (fun _ _ _ _ => trivial)⟩⟩ rfl rfl hl.1 rfl (lv_room (Nat.le_of_ble_eq_true rfl)) dX23_written_67 ⟨(show 1 + 0 ≤ ((T - pp) + 2) by omega), (show 5 + 0 ≤ (5 * (T - pp) + 10) by omega)⟩) hS (fun q _ h => hFc q h) hFc (fun r_16 u tS H1 locs ht hvm hw hB hz1 hk1 hS => ?_)
        obtain ⟨hP1, hK1, hD1⟩ := hB
        rw [ht] at hP1
        have hK1 := va_K.moved hvm.symm hK1
        obtain ⟨hP, hD⟩ := va_joinT (wr := [(q_1, .inr (22, [.int (fk pp), .int (nI pp), .int 0, .int (-1), .null])), (mr 6, .inl (kI, 3002, .inl fa))]) (w1 := [(m9, .inr (23, mA mr mv vf xl (nI zs) ff_13 xa_14 (nI T) (nI pp) xi xt xn (nI (ns + 1)) (nI vv) (nI bb))), (mr 5, .inl (kI, 3002, .inl fk))]) hP hD [2, 1] [0, 3] rfl rfl (by decide) (by decide) hk1 hFc hP1 hD1
        have hK := hK.app hK1
        generalize H1 = H at hP hS ⊢
        have hP : va_P (dC, dI) vwCl (([(q_1, .inr (22, [.int (fk pp), .int (nI pp), .int 0, .int (-1), .null])), (mr 6, .inl (kI, 3002, .inl fa)), (m9, .inr (23, mA mr mv vf xl (nI zs) ff_13 xa_14 (nI T) (nI pp) xi xt xn (nI (ns + 1)) (nI vv) (nI bb))), (mr 5, .inl (kI, 3002, .inl fk))] : va_W) ++ (sT L F)) H := hP
        have hD : va_D A (([(q_1, .inr (22, [.int (fk pp), .int (nI pp), .int 0, .int (-1), .null])), (mr 6, .inl (kI, 3002, .inl fa)), (m9, .inr (23, mA mr mv vf xl (nI zs) ff_13 xa_14 (nI T) (nI pp) xi xt xn (nI (ns + 1)) (nI vv) (nI bb))), (mr 5, .inl (kI, 3002, .inl fk))] : va_W) ++ (sT L F)) := hD
        have hK : va_K (dC, dI) vwCl [(kI, .int), (kI, .int)] s := hK
        have hK := hK.sub (tys' := [(kI, .int)]) [0] rfl
        obtain rfl : r_16 = 1 := hw
        refine lv_istore_n (lv' := [(2, .int 1), (1, .ref q_1), (0, .ref m9)]) hx hb dX23_written_70 rfl hl (by decide) rfl (fun ls hl => ?_)
        refine lv_aload_n hx hb dX23_written_71 rfl (lv_at hl 2 rfl) ?_
        refine lv_dup hx hb dX23_written_72 rfl ?_
        refine va_get (D := (dC, dI)) (ci := 23) (v := .int (nI pp)) (C := RX23) (T := TX23) (N := 89) hx hb hts in_c_rwr_X23 hown hK hP 2 rfl rfl 10 (by decide) (hts (.fieldLink RX23 86 "OwnedPlacesModel" "p" "I") (wm_c_rwr 16 rfl)) (fun _ h9 => h9) rfl dX23_written_73 ?_
        refine lv_iconst (v := 1) hx hb dX23_written_76 (by decide) ?_
        refine lv_iadd hx hb dX23_written_77 ?_
        refine lv_topi (fun f_17 ef_17 => ?_)
        obtain rfl : f_17 = nI (pp + 1) := ef_17.trans (nI_1 _)
        refine va_put (D := (dC, dI)) (ci := 23) (v := .int (nI (pp + 1))) (ty := .int) (C := RX23) (T := TX23) (N := 89) hx hb hts in_c_rwr_X23 tyX23 tyX23_ok nmX23 hown hK hP hD hS 2 rfl rfl 10 (by decide) (hts (.fieldLink RX23 86 "OwnedPlacesModel" "p" "I") (wm_c_rwr 16 rfl)) (fun _ h9 => h9) rfl (by decide +kernel) rfl rfl (Nat.le_of_ble_eq_true rfl) dX23_written_78 (fun H locs hP hD hS => ?_)
        have hP : va_P (dC, dI) vwCl (([(q_1, .inr (22, [.int (fk pp), .int (nI pp), .int 0, .int (-1), .null])), (mr 6, .inl (kI, 3002, .inl fa)), (m9, .inr (23, mA mr mv vf xl (nI zs) ff_13 xa_14 (nI T) (nI (pp + 1)) xi xt xn (nI (ns + 1)) (nI vv) (nI bb))), (mr 5, .inl (kI, 3002, .inl fk))] : va_W) ++ (sT L F)) H := hP
        have hD : va_D A (([(q_1, .inr (22, [.int (fk pp), .int (nI pp), .int 0, .int (-1), .null])), (mr 6, .inl (kI, 3002, .inl fa)), (m9, .inr (23, mA mr mv vf xl (nI zs) ff_13 xa_14 (nI T) (nI (pp + 1)) xi xt xn (nI (ns + 1)) (nI vv) (nI bb))), (mr 5, .inl (kI, 3002, .inl fk))] : va_W) ++ (sT L F)) := hD
        have hp_18 : pp + 1 < T := kne3 hk0 hp hk_9 (by decide)
        refine lv_iload_n hx hb dX23_written_81 rfl (lv_at hl 0 rfl) ?_
        refine lv_if_eq (tgt := 118) hx hb dX23_written_82 (by decide) (fun c_19 => absurd c_19 (by decide)) (fun _ => ?_)
        refine lv_aload_n hx hb dX23_written_85 rfl (lv_at hl 2 rfl) ?_
        have hPc := hP.subF (f' := [(m9, .inr (23, mA mr mv vf xl (nI zs) ff_13 xa_14 (nI T) (nI (pp + 1)) xi xt xn (nI (ns + 1)) (nI vv) (nI bb)))]) [2] rfl
        have hDc := hD.subF (f' := [(m9, .inr (23, mA mr mv vf xl (nI zs) ff_13 xa_14 (nI T) (nI (pp + 1)) xi xt xn (nI (ns + 1)) (nI vv) (nI bb)))]) [2] (by decide) rfl
        have hKc := hK.sub (tys' := []) [] rfl
        have hFc := va_freeT (wc := [(m9, .inr (23, mA mr mv vf xl (nI zs) ff_13 xa_14 (nI T) (nI (pp + 1)) xi xt xn (nI (ns + 1)) (nI vv) (nI bb)))]) hD hS hA [2] rfl
        refine va_calli (va_runV (As := []) (rest := []) ⟨hx, hb, hml, hown, hts⟩ (c_rokB l dC dI m9 mr mv vf xl xa_14 xi xt xn zs T (pp + 1) (ns + 1) vv bb kI fk fa ff_13 H.size hf15_0) (cwV 0 hts g_c_rwr_c_rokB_86 rfl rfl rfl (by decide +kernel) ⟨by show 0 + 1 ≤ 3 + 1 * k; omega, by show 8 + (1 + 11) + (0) ≤ 54 + 22 * k; omega⟩) ⟨fun a U g mk q => by obtain ⟨q0, q1, qP, qK, qD⟩ := q; exact ⟨q0, q1, qP, va_K.moved (u := U) (U := U.calling g mk a) (Vm.Alike.refl U.vm) qK, qD⟩, va_recv hKc hPc (ci := 23) (q0 := 0) rfl rfl, fun U hU hW => ⟨rfl, by rw [hU], by rw [hU]; exact hPc, va_K.moved hW.alike hKc, hDc.weaken (fun _ _ _ _ => trivial)⟩⟩ rfl rfl hl.1 rfl (lv_room (Nat.le_of_ble_eq_true rfl)) dX23_written_86 ⟨(show 1 + 0 ≤ ((T - pp) + 2) by omega), (show 5 + 0 ≤ (5 * (T - pp) + 10) by omega)⟩) hS (fun q _ h => hFc q h) hFc (fun r_20 u tS H1 locs ht hvm hw hB hz1 hk1 hS => ?_)
        obtain ⟨hP1, hK1, hD1⟩ := hB
        rw [ht] at hP1
        have hK1 := va_K.moved hvm.symm hK1
        obtain ⟨hP, hD⟩ := va_joinT (wr := [(q_1, .inr (22, [.int (fk pp), .int (nI pp), .int 0, .int (-1), .null])), (mr 6, .inl (kI, 3002, .inl fa)), (mr 5, .inl (kI, 3002, .inl fk))]) (w1 := [(m9, .inr (23, mA mr mv vf xl (nI zs) ff_13 xa_14 (nI T) (nI (pp + 1)) xi xt xn (nI (ns + 1)) (nI vv) (nI bb)))]) hP hD [2] [0, 1, 3] rfl rfl (by decide) (by decide) hk1 hFc hP1 hD1
        generalize H1 = H at hP hS ⊢
        have hP : va_P (dC, dI) vwCl (([(q_1, .inr (22, [.int (fk pp), .int (nI pp), .int 0, .int (-1), .null])), (mr 6, .inl (kI, 3002, .inl fa)), (mr 5, .inl (kI, 3002, .inl fk)), (m9, .inr (23, mA mr mv vf xl (nI zs) ff_13 xa_14 (nI T) (nI (pp + 1)) xi xt xn (nI (ns + 1)) (nI vv) (nI bb)))] : va_W) ++ (sT L F)) H := hP
        have hD : va_D A (([(q_1, .inr (22, [.int (fk pp), .int (nI pp), .int 0, .int (-1), .null])), (mr 6, .inl (kI, 3002, .inl fa)), (mr 5, .inl (kI, 3002, .inl fk)), (m9, .inr (23, mA mr mv vf xl (nI zs) ff_13 xa_14 (nI T) (nI (pp + 1)) xi xt xn (nI (ns + 1)) (nI vv) (nI bb)))] : va_W) ++ (sT L F)) := hD
        have hK : va_K (dC, dI) vwCl [(kI, .int)] s := hK
        obtain rfl : r_20 = 0 := hw
        refine lv_if_eq (tgt := 118) hx hb dX23_written_89 (by decide) (fun _ => ?_) (fun c_21 => absurd (by decide) c_21)
        refine lv_iload_n hx hb dX23_written_118 rfl (lv_at hl 0 rfl) ?_
        refine lv_if_eq (tgt := 136) hx hb dX23_written_119 (by decide) (fun c_22 => absurd c_22 (by decide)) (fun _ => ?_)
        refine lv_aload_n hx hb dX23_written_122 rfl (lv_at hl 2 rfl) ?_
        refine lv_bipush (v := 14) hx hb dX23_written_123 (by decide) ?_
        have hPc := hP.subF (f' := [(m9, .inr (23, mA mr mv vf xl (nI zs) ff_13 xa_14 (nI T) (nI (pp + 1)) xi xt xn (nI (ns + 1)) (nI vv) (nI bb))), (mr 5, .inl (kI, 3002, .inl fk))]) [3, 2] rfl
        have hDc := hD.subF (f' := [(m9, .inr (23, mA mr mv vf xl (nI zs) ff_13 xa_14 (nI T) (nI (pp + 1)) xi xt xn (nI (ns + 1)) (nI vv) (nI bb))), (mr 5, .inl (kI, 3002, .inl fk))]) [3, 2] (by decide) rfl
        have hKc := hK.sub (tys' := [(kI, .int)]) [0] rfl
        have hFc := va_freeT (wc := [(m9, .inr (23, mA mr mv vf xl (nI zs) ff_13 xa_14 (nI T) (nI (pp + 1)) xi xt xn (nI (ns + 1)) (nI vv) (nI bb))), (mr 5, .inl (kI, 3002, .inl fk))]) hD hS hA [3, 2] rfl
        refine va_calli (va_runV (As := [.int 14]) (rest := []) ⟨hx, hb, hml, hown, hts⟩ (c_rtsB l dC dI m9 mr mv vf xl xa_14 xi xt xn zs T (pp + 1) (ns + 1) vv bb kI fk fa ff_13 14 H.size hf15_0) (cwV 1 hts g_c_rwr_c_rtsB_125 rfl rfl rfl (by decide +kernel) ⟨by show 1 + 1 ≤ 3 + 1 * k; omega, by show 8 + (2 + 11) + (20) ≤ 54 + 22 * k; omega⟩) ⟨fun a U g mk q => by obtain ⟨q0, q1, qP, qK, qD⟩ := q; exact ⟨q0, q1, qP, va_K.moved (u := U) (U := U.calling g mk a) (Vm.Alike.refl U.vm) qK, qD⟩, va_recv hKc hPc (ci := 23) (q0 := 0) rfl rfl, fun U hU hW => ⟨rfl, by rw [hU], by rw [hU]; exact hPc, va_K.moved hW.alike hKc, hDc.weaken (fun _ _ _ _ => trivial)⟩⟩ rfl rfl hl.1 rfl (lv_room (Nat.le_of_ble_eq_true rfl)) dX23_written_125 ⟨(show 1 + 0 ≤ ((T - pp) + 2) by omega), (show 5 + 0 ≤ (5 * (T - pp) + 10) by omega)⟩) hS (fun q _ h => hFc q h) hFc (fun r_23 u tS H1 locs ht hvm hw hB hz1 hk1 hS => ?_)
        obtain ⟨hP1, hK1, hD1⟩ := hB
        rw [ht] at hP1
        have hK1 := va_K.moved hvm.symm hK1
        obtain ⟨hP, hD⟩ := va_joinT (wr := [(q_1, .inr (22, [.int (fk pp), .int (nI pp), .int 0, .int (-1), .null])), (mr 6, .inl (kI, 3002, .inl fa))]) (w1 := [(m9, .inr (23, mA mr mv vf xl (nI zs) ff_13 xa_14 (nI T) (nI (pp + 1)) xi xt xn (nI (ns + 1)) (nI vv) (nI bb))), (mr 5, .inl (kI, 3002, .inl fk))]) hP hD [3, 2] [0, 1] rfl rfl (by decide) (by decide) hk1 hFc hP1 hD1
        have hK := hK.app hK1
        generalize H1 = H at hP hS ⊢
        have hP : va_P (dC, dI) vwCl (([(q_1, .inr (22, [.int (fk pp), .int (nI pp), .int 0, .int (-1), .null])), (mr 6, .inl (kI, 3002, .inl fa)), (m9, .inr (23, mA mr mv vf xl (nI zs) ff_13 xa_14 (nI T) (nI (pp + 1)) xi xt xn (nI (ns + 1)) (nI vv) (nI bb))), (mr 5, .inl (kI, 3002, .inl fk))] : va_W) ++ (sT L F)) H := hP
        have hD : va_D A (([(q_1, .inr (22, [.int (fk pp), .int (nI pp), .int 0, .int (-1), .null])), (mr 6, .inl (kI, 3002, .inl fa)), (m9, .inr (23, mA mr mv vf xl (nI zs) ff_13 xa_14 (nI T) (nI (pp + 1)) xi xt xn (nI (ns + 1)) (nI vv) (nI bb))), (mr 5, .inl (kI, 3002, .inl fk))] : va_W) ++ (sT L F)) := hD
        have hK : va_K (dC, dI) vwCl [(kI, .int), (kI, .int)] s := hK
        have hK := hK.sub (tys' := [(kI, .int)]) [0] rfl
        obtain rfl : r_23 = 0 := hw
        refine lv_if_eq (tgt := 136) hx hb dX23_written_128 (by decide) (fun _ => ?_) (fun c_24 => absurd (by decide) c_24)
        refine lv_aload_n hx hb dX23_written_136 rfl (lv_at hl 1 rfl) ?_
        refine lv_aload_n hx hb dX23_written_137 rfl (lv_at hl 2 rfl) ?_
        have hPc := hP.subT (f' := [(m9, .inr (23, mA mr mv vf xl (nI zs) ff_13 xa_14 (nI T) (nI (pp + 1)) xi xt xn (nI (ns + 1)) (nI vv) (nI bb))), (mr 5, .inl (kI, 3002, .inl fk)), (mr 6, .inl (kI, 3002, .inl fa))]) [2, 3, 1] rfl
        have hDc := hD.subT (f' := [(m9, .inr (23, mA mr mv vf xl (nI zs) ff_13 xa_14 (nI T) (nI (pp + 1)) xi xt xn (nI (ns + 1)) (nI vv) (nI bb))), (mr 5, .inl (kI, 3002, .inl fk)), (mr 6, .inl (kI, 3002, .inl fa))]) [2, 3, 1] (by decide) rfl
        have hKc := hK.sub (tys' := [(kI, .int)]) [0] rfl
        have hFc := va_freeB (wc := [(m9, .inr (23, mA mr mv vf xl (nI zs) ff_13 xa_14 (nI T) (nI (pp + 1)) xi xt xn (nI (ns + 1)) (nI vv) (nI bb))), (mr 5, .inl (kI, 3002, .inl fk)), (mr 6, .inl (kI, 3002, .inl fa))]) hD hS hA [2, 3, 1] rfl
        refine W.grow (fun hgs0 hgs1 => ?_)
        refine va_callr (va_runV (As := []) (rest := [.ref q_1]) ⟨hx, hb, hml, hown, hts⟩ (c_rwrB l dC dI m9 mr mv vf xl xa_14 xi xt xn zs T (pp + 1) (ns + 1) vv bb kI fk fa ff_13 L F (slN H) H.size hf15_0) (cwV 0 hts g_c_rwr_c_rwrB_138 rfl rfl rfl (by decide +kernel) ⟨by show 2 + 1 ≤ 3 + 1 * k; omega, by show 8 + (3 + 11) + (32) ≤ 54 + 22 * k; omega⟩) ⟨fun a U g mk q => by obtain ⟨q0, q1, qP, qK, qD, qx0, qx1⟩ := q; exact ⟨q0, q1, qP, va_K.moved (u := U) (U := U.calling g mk a) (Vm.Alike.refl U.vm) qK, qD, nsM.same (u := U) (U := U.calling g mk a) rfl qx0, qx1⟩, va_recv hKc hPc (ci := 23) (q0 := 0) rfl rfl, fun U hU hW => ⟨rfl, by rw [hU], by rw [hU]; exact hPc, va_K.moved hW.alike hKc, hDc.weaken (fun _ _ _ _ => trivial), nsM.warm hW hns, by rw [hU]⟩⟩ rfl rfl hl.1 rfl (lv_room (Nat.le_of_ble_eq_true rfl)) dX23_written_138 ⟨(show 1 + 1 ≤ ((T - pp) + 2) by omega), (show 5 + 5 ≤ (5 * (T - pp) + 10) by omega)⟩) hS (fun q _ h => hFc q h) hFc (fun u r_25 tS H1 locs ht hvm hw hB hz1 hk1 hS => ?_)
        obtain ⟨L8, F8, hf25_0, hf25_1, hf25_2, hP1, hK1, hD1⟩ := hB
        rw [ht] at hP1
        have hK1 := va_K.moved hvm.symm hK1
        rw [ht] at hf25_2
        have hgz : H1.size ≤ s.heap.size + ((1 + 1)) ∧ slN H1 ≤ slN s.heap + ((5 + 5)) := ⟨by have := hf25_2.1; omega, by have := hf25_2.2; omega⟩
        obtain ⟨hP, hD⟩ := va_joinB (wr := [(q_1, .inr (22, [.int (fk pp), .int (nI pp), .int 0, .int (-1), .null]))]) (w1 := [(m9, .inr (23, mA mr mv vf xl (nI zs) ff_13 xa_14 (nI T) (nI (pp + 1)) xi xt xn (nI (ns + 1)) (nI vv) (nI bb))), (mr 5, .inl (kI, 3002, .inl fk)), (mr 6, .inl (kI, 3002, .inl fa))]) hP hD [2, 3, 1] [0] rfl rfl (by decide) (by decide) hk1 hFc hP1 hD1
        have hK := hK.app hK1
        generalize H1 = H at hP hS hgz ⊢
        have hP : va_P (dC, dI) vwCl (([(q_1, .inr (22, [.int (fk pp), .int (nI pp), .int 0, .int (-1), .null])), (m9, .inr (23, mA mr mv vf xl (nI zs) ff_13 xa_14 (nI T) (nI (pp + 1)) xi xt xn (nI (ns + 1)) (nI vv) (nI bb))), (mr 5, .inl (kI, 3002, .inl fk)), (mr 6, .inl (kI, 3002, .inl fa))] : va_W) ++ (sT L8 F8)) H := hP
        have hD : va_D A (([(q_1, .inr (22, [.int (fk pp), .int (nI pp), .int 0, .int (-1), .null])), (m9, .inr (23, mA mr mv vf xl (nI zs) ff_13 xa_14 (nI T) (nI (pp + 1)) xi xt xn (nI (ns + 1)) (nI vv) (nI bb))), (mr 5, .inl (kI, 3002, .inl fk)), (mr 6, .inl (kI, 3002, .inl fa))] : va_W) ++ (sT L8 F8)) := hD
        have hK : va_K (dC, dI) vwCl [(kI, .int), (kI, .int)] s := hK
        have hK := hK.sub (tys' := [(kI, .int)]) [0] rfl
        refine W.tight (k := (1 + 1)) (n := (5 + 5)) hgz.1 hgz.2 ?_
        refine va_put (D := (dC, dI)) (ci := 22) (v := .ref r_25) (ty := (.object "OwnedPlacesModel$Written")) (C := RX22) (T := TX22) (N := 5) hx hb hts in_c_rwr_X22 tyX22 tyX22_ok nmX22 hown hK hP hD hS 0 rfl rfl 4 (by decide) (hts (.fieldLink RX23 135 "OwnedPlacesModel$Written" "of" "LOwnedPlacesModel$Written;") (wm_c_rwr 38 rfl)) (fun _ h9 => h9) rfl (by decide +kernel) rfl rfl (Nat.le_of_ble_eq_true rfl) dX23_written_141 (fun H locs hP hD hS => ?_)
        have hP : va_P (dC, dI) vwCl (([(q_1, .inr (22, [.int (fk pp), .int (nI pp), .int 0, .int (-1), .ref r_25])), (m9, .inr (23, mA mr mv vf xl (nI zs) ff_13 xa_14 (nI T) (nI (pp + 1)) xi xt xn (nI (ns + 1)) (nI vv) (nI bb))), (mr 5, .inl (kI, 3002, .inl fk)), (mr 6, .inl (kI, 3002, .inl fa))] : va_W) ++ (sT L8 F8)) H := hP
        have hD : va_D A (([(q_1, .inr (22, [.int (fk pp), .int (nI pp), .int 0, .int (-1), .ref r_25])), (m9, .inr (23, mA mr mv vf xl (nI zs) ff_13 xa_14 (nI T) (nI (pp + 1)) xi xt xn (nI (ns + 1)) (nI vv) (nI bb))), (mr 5, .inl (kI, 3002, .inl fk)), (mr 6, .inl (kI, 3002, .inl fa))] : va_W) ++ (sT L8 F8)) := hD
        refine lv_aload_n hx hb dX23_written_144 rfl (lv_at hl 2 rfl) ?_
        refine lv_dup hx hb dX23_written_145 rfl ?_
        refine va_get (D := (dC, dI)) (ci := 23) (v := .int (nI (ns + 1))) (C := RX23) (T := TX23) (N := 89) hx hb hts in_c_rwr_X23 hown hK hP 1 rfl rfl 15 (by decide) (hts (.fieldLink RX23 104 "OwnedPlacesModel" "nest" "I") (wm_c_rwr 25 rfl)) (fun _ h9 => h9) rfl dX23_written_146 ?_
        refine lv_iconst (v := 1) hx hb dX23_written_149 (by decide) ?_
        refine lv_isub hx hb dX23_written_150 ?_
        refine lv_topi (fun f_26 ef_26 => ?_)
        obtain rfl : f_26 = nI ns := ef_26.trans (nI_pred _)
        refine va_put (D := (dC, dI)) (ci := 23) (v := .int (nI ns)) (ty := .int) (C := RX23) (T := TX23) (N := 89) hx hb hts in_c_rwr_X23 tyX23 tyX23_ok nmX23 hown hK hP hD hS 1 rfl rfl 15 (by decide) (hts (.fieldLink RX23 104 "OwnedPlacesModel" "nest" "I") (wm_c_rwr 25 rfl)) (fun _ h9 => h9) rfl (by decide +kernel) rfl rfl (Nat.le_of_ble_eq_true rfl) dX23_written_151 (fun H locs hP hD hS => ?_)
        have hP : va_P (dC, dI) vwCl (([(q_1, .inr (22, [.int (fk pp), .int (nI pp), .int 0, .int (-1), .ref r_25])), (m9, .inr (23, mA mr mv vf xl (nI zs) ff_13 xa_14 (nI T) (nI (pp + 1)) xi xt xn (nI ns) (nI vv) (nI bb))), (mr 5, .inl (kI, 3002, .inl fk)), (mr 6, .inl (kI, 3002, .inl fa))] : va_W) ++ (sT L8 F8)) H := hP
        have hD : va_D A (([(q_1, .inr (22, [.int (fk pp), .int (nI pp), .int 0, .int (-1), .ref r_25])), (m9, .inr (23, mA mr mv vf xl (nI zs) ff_13 xa_14 (nI T) (nI (pp + 1)) xi xt xn (nI ns) (nI vv) (nI bb))), (mr 5, .inl (kI, 3002, .inl fk)), (mr 6, .inl (kI, 3002, .inl fa))] : va_W) ++ (sT L8 F8)) := hD
        refine lv_goto (tgt := 214) hx hb dX23_written_154 (by decide) ?_
        refine lv_aload_n hx hb dX23_written_214 rfl (lv_at hl 1 rfl) ?_
        have hP : va_P (dC, dI) vwCl ((([(m9, .inr (23, mA mr mv vf xl (nI zs) ff_13 xa_14 (nI T) (nI (pp + 1)) xi xt xn (nI ns) (nI vv) (nI bb))), (mr 5, .inl (kI, 3002, .inl fk)), (mr 6, .inl (kI, 3002, .inl fa))] : va_W) ++ ([(q_1, .inr (22, [.int (fk pp), .int (nI pp), .int 0, .int (-1), .ref r_25]))] : va_W)) ++ sT L8 F8) H := hP.subT (f' := [(m9, .inr (23, mA mr mv vf xl (nI zs) ff_13 xa_14 (nI T) (nI (pp + 1)) xi xt xn (nI ns) (nI vv) (nI bb))), (mr 5, .inl (kI, 3002, .inl fk)), (mr 6, .inl (kI, 3002, .inl fa)), (q_1, .inr (22, [.int (fk pp), .int (nI pp), .int 0, .int (-1), .ref r_25]))]) [1, 2, 3, 0] rfl
        have hD : va_D A ((([(m9, .inr (23, mA mr mv vf xl (nI zs) ff_13 xa_14 (nI T) (nI (pp + 1)) xi xt xn (nI ns) (nI vv) (nI bb))), (mr 5, .inl (kI, 3002, .inl fk)), (mr 6, .inl (kI, 3002, .inl fa))] : va_W) ++ ([(q_1, .inr (22, [.int (fk pp), .int (nI pp), .int 0, .int (-1), .ref r_25]))] : va_W)) ++ sT L8 F8) := hD.subT (f' := [(m9, .inr (23, mA mr mv vf xl (nI zs) ff_13 xa_14 (nI T) (nI (pp + 1)) xi xt xn (nI ns) (nI vv) (nI bb))), (mr 5, .inl (kI, 3002, .inl fk)), (mr 6, .inl (kI, 3002, .inl fa)), (q_1, .inr (22, [.int (fk pp), .int (nI pp), .int 0, .int (-1), .ref r_25]))]) [1, 2, 3, 0] (by decide) rfl
        obtain ⟨L9, F9, hx9, hm9, hP, hD⟩ := st_fileL [(q_1, .inr (22, [.int (fk pp), .int (nI pp), .int 0, .int (-1), .ref r_25]))] hP hD
        have hm9_0 := hm9 _ (List.mem_of_getElem? (i := 0) rfl)
        refine W.grow (fun hgs0 hgs1 => ?_)
        have hP9 := hP.subT (f' := [(m9, .inr (23, mA mr mv vf xl (nI zs) ff_13 xa_14 (nI T) (nI (pp + 1)) xi xt xn (nI ns) (nI vv) (nI bb))), (mr 5, .inl (kI, 3002, .inl fk)), (mr 6, .inl (kI, 3002, .inl fa))]) [0, 1, 2] rfl
        have hD9 := hD.subT (f' := [(m9, .inr (23, mA mr mv vf xl (nI zs) ff_13 xa_14 (nI T) (nI (pp + 1)) xi xt xn (nI ns) (nI vv) (nI bb))), (mr 5, .inl (kI, 3002, .inl fk)), (mr 6, .inl (kI, 3002, .inl fa))]) [0, 1, 2] (by decide) rfl
        have hK9 := hK.sub (tys' := [(kI, .int)]) [0] rfl
        refine W.widen (k := ((T - pp) + 2)) (n := (5 * (T - pp) + 10)) (by omega) (by omega) ?_
        exact W.aret hx hb hr (Or.inl ⟨_, rfl⟩) (Or.inr ⟨q_1, rfl⟩) (fun tS ht hW => ⟨⟨(), q_1, rfl, trivial, L9, F9, ff_13, xa_14, pp + 1, ⟨hf25_0.1.tr hx9, hm9_0.1⟩, ⟨_, hm9_0.2⟩, ⟨by omega, by omega⟩, (fun q9 => absurd q9 hf15_0), by rw [ht]; exact ⟨by omega, by omega⟩, by rw [ht]; exact hP9, va_K.moved hW.alike hK9, hD9⟩, hS.F ht⟩) hS.2.2 dX23_written_215
      · have hPc := hP.subF (f' := [(m9, .inr (23, mA mr mv vf xl (nI zs) 0 xa (nI T) (nI pp) xi xt xn (nI ns) (nI vv) (nI bb))), (mr 6, .inl (kI, 3002, .inl fa))]) [2, 0] rfl
        have hDc := hD.subF (f' := [(m9, .inr (23, mA mr mv vf xl (nI zs) 0 xa (nI T) (nI pp) xi xt xn (nI ns) (nI vv) (nI bb))), (mr 6, .inl (kI, 3002, .inl fa))]) [2, 0] (by decide) rfl
        have hKc := hK.sub (tys' := [(kI, .int)]) [0] rfl
        have hFc := va_freeT (wc := [(m9, .inr (23, mA mr mv vf xl (nI zs) 0 xa (nI T) (nI pp) xi xt xn (nI ns) (nI vv) (nI bb))), (mr 6, .inl (kI, 3002, .inl fa))]) hD hS hA [2, 0] rfl
        refine va_callv (va_runV (As := [.int (nI pp)]) (rest := []) ⟨hx, hb, hml, hown, hts⟩ (c_renY l dC dI m9 mr mv vf xl xa xi xt xn zs T pp ns vv bb kI fk fa pp H.size (by omega) (⟨hn_12, by omega⟩)) (cwV 1 hts g_c_rwr_c_renY_61 rfl rfl rfl (by decide +kernel) ⟨by show 1 + 1 ≤ 3 + 1 * k; omega, by show 8 + (2 + 11) + (20) ≤ 54 + 22 * k; omega⟩) ⟨fun a U g mk q => by obtain ⟨q0, q1, qP, qK, qD⟩ := q; exact ⟨q0, q1, qP, va_K.moved (u := U) (U := U.calling g mk a) (Vm.Alike.refl U.vm) qK, qD⟩, va_recv hKc hPc (ci := 23) (q0 := 0) rfl rfl, fun U hU hW => ⟨rfl, by rw [hU], by rw [hU]; exact hPc, va_K.moved hW.alike hKc, hDc.weaken (fun _ _ _ _ => trivial)⟩⟩ rfl rfl hl.1 rfl (lv_room (Nat.le_of_ble_eq_true rfl)) dX23_written_61 ⟨(show 1 + 0 ≤ ((T - pp) + 2) by omega), (show 5 + 0 ≤ (5 * (T - pp) + 10) by omega)⟩) hS (fun q _ h => hFc q h) hFc (fun u tS H1 locs ht hvm hw hB hz1 hk1 hS => ?_)
        obtain ⟨hP1, hK1, hD1⟩ := hB
        rw [ht] at hP1
        have hK1 := va_K.moved hvm.symm hK1
        obtain ⟨hP, hD⟩ := va_joinT (wr := [(q_1, .inr (22, [.int (fk pp), .int (nI pp), .int 0, .int (-1), .null])), (mr 5, .inl (kI, 3002, .inl fk))]) (w1 := [(m9, .inr (23, mA mr mv vf xl (nI zs) 0 xa (nI T) (nI pp) xi xt xn (nI (ns + 1)) (nI vv) (nI bb))), (mr 6, .inl (kI, 3002, .inl fa))]) hP hD [2, 0] [1, 3] rfl rfl (by decide) (by decide) hk1 hFc hP1 hD1
        have hK := hK.app hK1
        generalize H1 = H at hP hS ⊢
        have hP : va_P (dC, dI) vwCl (([(q_1, .inr (22, [.int (fk pp), .int (nI pp), .int 0, .int (-1), .null])), (mr 5, .inl (kI, 3002, .inl fk)), (m9, .inr (23, mA mr mv vf xl (nI zs) 0 xa (nI T) (nI pp) xi xt xn (nI (ns + 1)) (nI vv) (nI bb))), (mr 6, .inl (kI, 3002, .inl fa))] : va_W) ++ (sT L F)) H := hP
        have hD : va_D A (([(q_1, .inr (22, [.int (fk pp), .int (nI pp), .int 0, .int (-1), .null])), (mr 5, .inl (kI, 3002, .inl fk)), (m9, .inr (23, mA mr mv vf xl (nI zs) 0 xa (nI T) (nI pp) xi xt xn (nI (ns + 1)) (nI vv) (nI bb))), (mr 6, .inl (kI, 3002, .inl fa))] : va_W) ++ (sT L F)) := hD
        have hK : va_K (dC, dI) vwCl [(kI, .int), (kI, .int)] s := hK
        have hK := hK.sub (tys' := [(kI, .int)]) [0] rfl
        refine lv_aload_n hx hb dX23_written_64 rfl (lv_at hl 1 rfl) ?_
        refine lv_bipush (v := 55) hx hb dX23_written_65 (by decide) ?_
        have hPc := hP.subF (f' := [(m9, .inr (23, mA mr mv vf xl (nI zs) 0 xa (nI T) (nI pp) xi xt xn (nI (ns + 1)) (nI vv) (nI bb))), (mr 5, .inl (kI, 3002, .inl fk))]) [2, 1] rfl
        have hDc := hD.subF (f' := [(m9, .inr (23, mA mr mv vf xl (nI zs) 0 xa (nI T) (nI pp) xi xt xn (nI (ns + 1)) (nI vv) (nI bb))), (mr 5, .inl (kI, 3002, .inl fk))]) [2, 1] (by decide) rfl
        have hKc := hK.sub (tys' := [(kI, .int)]) [0] rfl
        have hFc := va_freeT (wc := [(m9, .inr (23, mA mr mv vf xl (nI zs) 0 xa (nI T) (nI pp) xi xt xn (nI (ns + 1)) (nI vv) (nI bb))), (mr 5, .inl (kI, 3002, .inl fk))]) hD hS hA [2, 1] rfl
        refine va_calli (va_runV (As := [.int 55]) (rest := []) ⟨hx, hb, hml, hown, hts⟩ (c_risY l dC dI m9 mr mv vf xl xa xi xt xn zs T pp (ns + 1) vv bb kI fk fa 0 55 H.size hT hp hk_9) (cwV 1 hts g_c_rwr_c_risY_67 rfl rfl rfl (by decide +kernel) ⟨by show 0 + 1 ≤ 3 + 1 * k; omega, by show 8 + (2 + 11) + (0) ≤ 54 + 22 * k; omega⟩) ⟨fun a U g mk q => by obtain ⟨q0, q1, qP, qK, qD⟩ := q; exact ⟨q0, q1, qP, va_K.moved (u := U) (U := U.calling g mk a) (Vm.Alike.refl U.vm) qK, qD⟩, va_recv hKc hPc (ci := 23) (q0 := 0) rfl rfl, fun U hU hW => ⟨rfl, by rw [hU], by rw [hU]; exact hPc, va_K.moved hW.alike hKc, hDc.weaken (fun _ _ _ _ => trivial)⟩⟩ rfl rfl hl.1 rfl (lv_room (Nat.le_of_ble_eq_true rfl)) dX23_written_67 ⟨(show 1 + 0 ≤ ((T - pp) + 2) by omega), (show 5 + 0 ≤ (5 * (T - pp) + 10) by omega)⟩) hS (fun q _ h => hFc q h) hFc (fun r_14 u tS H1 locs ht hvm hw hB hz1 hk1 hS => ?_)
        obtain ⟨hP1, hK1, hD1⟩ := hB
        rw [ht] at hP1
        have hK1 := va_K.moved hvm.symm hK1
        obtain ⟨hP, hD⟩ := va_joinT (wr := [(q_1, .inr (22, [.int (fk pp), .int (nI pp), .int 0, .int (-1), .null])), (mr 6, .inl (kI, 3002, .inl fa))]) (w1 := [(m9, .inr (23, mA mr mv vf xl (nI zs) 0 xa (nI T) (nI pp) xi xt xn (nI (ns + 1)) (nI vv) (nI bb))), (mr 5, .inl (kI, 3002, .inl fk))]) hP hD [2, 1] [0, 3] rfl rfl (by decide) (by decide) hk1 hFc hP1 hD1
        have hK := hK.app hK1
        generalize H1 = H at hP hS ⊢
        have hP : va_P (dC, dI) vwCl (([(q_1, .inr (22, [.int (fk pp), .int (nI pp), .int 0, .int (-1), .null])), (mr 6, .inl (kI, 3002, .inl fa)), (m9, .inr (23, mA mr mv vf xl (nI zs) 0 xa (nI T) (nI pp) xi xt xn (nI (ns + 1)) (nI vv) (nI bb))), (mr 5, .inl (kI, 3002, .inl fk))] : va_W) ++ (sT L F)) H := hP
        have hD : va_D A (([(q_1, .inr (22, [.int (fk pp), .int (nI pp), .int 0, .int (-1), .null])), (mr 6, .inl (kI, 3002, .inl fa)), (m9, .inr (23, mA mr mv vf xl (nI zs) 0 xa (nI T) (nI pp) xi xt xn (nI (ns + 1)) (nI vv) (nI bb))), (mr 5, .inl (kI, 3002, .inl fk))] : va_W) ++ (sT L F)) := hD
        have hK : va_K (dC, dI) vwCl [(kI, .int), (kI, .int)] s := hK
        have hK := hK.sub (tys' := [(kI, .int)]) [0] rfl
        obtain rfl : r_14 = 1 := hw
        refine lv_istore_n (lv' := [(2, .int 1), (1, .ref q_1), (0, .ref m9)]) hx hb dX23_written_70 rfl hl (by decide) rfl (fun ls hl => ?_)
        refine lv_aload_n hx hb dX23_written_71 rfl (lv_at hl 2 rfl) ?_
        refine lv_dup hx hb dX23_written_72 rfl ?_
        refine va_get (D := (dC, dI)) (ci := 23) (v := .int (nI pp)) (C := RX23) (T := TX23) (N := 89) hx hb hts in_c_rwr_X23 hown hK hP 2 rfl rfl 10 (by decide) (hts (.fieldLink RX23 86 "OwnedPlacesModel" "p" "I") (wm_c_rwr 16 rfl)) (fun _ h9 => h9) rfl dX23_written_73 ?_
        refine lv_iconst (v := 1) hx hb dX23_written_76 (by decide) ?_
        refine lv_iadd hx hb dX23_written_77 ?_
        refine lv_topi (fun f_15 ef_15 => ?_)
        obtain rfl : f_15 = nI (pp + 1) := ef_15.trans (nI_1 _)
        refine va_put (D := (dC, dI)) (ci := 23) (v := .int (nI (pp + 1))) (ty := .int) (C := RX23) (T := TX23) (N := 89) hx hb hts in_c_rwr_X23 tyX23 tyX23_ok nmX23 hown hK hP hD hS 2 rfl rfl 10 (by decide) (hts (.fieldLink RX23 86 "OwnedPlacesModel" "p" "I") (wm_c_rwr 16 rfl)) (fun _ h9 => h9) rfl (by decide +kernel) rfl rfl (Nat.le_of_ble_eq_true rfl) dX23_written_78 (fun H locs hP hD hS => ?_)
        have hP : va_P (dC, dI) vwCl (([(q_1, .inr (22, [.int (fk pp), .int (nI pp), .int 0, .int (-1), .null])), (mr 6, .inl (kI, 3002, .inl fa)), (m9, .inr (23, mA mr mv vf xl (nI zs) 0 xa (nI T) (nI (pp + 1)) xi xt xn (nI (ns + 1)) (nI vv) (nI bb))), (mr 5, .inl (kI, 3002, .inl fk))] : va_W) ++ (sT L F)) H := hP
        have hD : va_D A (([(q_1, .inr (22, [.int (fk pp), .int (nI pp), .int 0, .int (-1), .null])), (mr 6, .inl (kI, 3002, .inl fa)), (m9, .inr (23, mA mr mv vf xl (nI zs) 0 xa (nI T) (nI (pp + 1)) xi xt xn (nI (ns + 1)) (nI vv) (nI bb))), (mr 5, .inl (kI, 3002, .inl fk))] : va_W) ++ (sT L F)) := hD
        have hp_16 : pp + 1 < T := kne3 hk0 hp hk_9 (by decide)
        refine lv_iload_n hx hb dX23_written_81 rfl (lv_at hl 0 rfl) ?_
        refine lv_if_eq (tgt := 118) hx hb dX23_written_82 (by decide) (fun c_17 => absurd c_17 (by decide)) (fun _ => ?_)
        refine lv_aload_n hx hb dX23_written_85 rfl (lv_at hl 2 rfl) ?_
        have hPc := hP.subF (f' := [(m9, .inr (23, mA mr mv vf xl (nI zs) 0 xa (nI T) (nI (pp + 1)) xi xt xn (nI (ns + 1)) (nI vv) (nI bb)))]) [2] rfl
        have hDc := hD.subF (f' := [(m9, .inr (23, mA mr mv vf xl (nI zs) 0 xa (nI T) (nI (pp + 1)) xi xt xn (nI (ns + 1)) (nI vv) (nI bb)))]) [2] (by decide) rfl
        have hKc := hK.sub (tys' := []) [] rfl
        have hFc := va_freeT (wc := [(m9, .inr (23, mA mr mv vf xl (nI zs) 0 xa (nI T) (nI (pp + 1)) xi xt xn (nI (ns + 1)) (nI vv) (nI bb)))]) hD hS hA [2] rfl
        refine va_calli (va_runV (As := []) (rest := []) ⟨hx, hb, hml, hown, hts⟩ (c_rok0 l dC dI m9 mr mv vf xl xa xi xt xn zs T (pp + 1) (ns + 1) vv bb kI fk fa H.size) (cwV 0 hts g_c_rwr_c_rok0_86 rfl rfl rfl (by decide +kernel) ⟨by show 0 + 1 ≤ 3 + 1 * k; omega, by show 8 + (1 + 11) + (0) ≤ 54 + 22 * k; omega⟩) ⟨fun a U g mk q => by obtain ⟨q0, q1, qP, qK, qD⟩ := q; exact ⟨q0, q1, qP, va_K.moved (u := U) (U := U.calling g mk a) (Vm.Alike.refl U.vm) qK, qD⟩, va_recv hKc hPc (ci := 23) (q0 := 0) rfl rfl, fun U hU hW => ⟨rfl, by rw [hU], by rw [hU]; exact hPc, va_K.moved hW.alike hKc, hDc.weaken (fun _ _ _ _ => trivial)⟩⟩ rfl rfl hl.1 rfl (lv_room (Nat.le_of_ble_eq_true rfl)) dX23_written_86 ⟨(show 1 + 0 ≤ ((T - pp) + 2) by omega), (show 5 + 0 ≤ (5 * (T - pp) + 10) by omega)⟩) hS (fun q _ h => hFc q h) hFc (fun r_18 u tS H1 locs ht hvm hw hB hz1 hk1 hS => ?_)
        obtain ⟨hP1, hK1, hD1⟩ := hB
        rw [ht] at hP1
        have hK1 := va_K.moved hvm.symm hK1
        obtain ⟨hP, hD⟩ := va_joinT (wr := [(q_1, .inr (22, [.int (fk pp), .int (nI pp), .int 0, .int (-1), .null])), (mr 6, .inl (kI, 3002, .inl fa)), (mr 5, .inl (kI, 3002, .inl fk))]) (w1 := [(m9, .inr (23, mA mr mv vf xl (nI zs) 0 xa (nI T) (nI (pp + 1)) xi xt xn (nI (ns + 1)) (nI vv) (nI bb)))]) hP hD [2] [0, 1, 3] rfl rfl (by decide) (by decide) hk1 hFc hP1 hD1
        generalize H1 = H at hP hS ⊢
        have hP : va_P (dC, dI) vwCl (([(q_1, .inr (22, [.int (fk pp), .int (nI pp), .int 0, .int (-1), .null])), (mr 6, .inl (kI, 3002, .inl fa)), (mr 5, .inl (kI, 3002, .inl fk)), (m9, .inr (23, mA mr mv vf xl (nI zs) 0 xa (nI T) (nI (pp + 1)) xi xt xn (nI (ns + 1)) (nI vv) (nI bb)))] : va_W) ++ (sT L F)) H := hP
        have hD : va_D A (([(q_1, .inr (22, [.int (fk pp), .int (nI pp), .int 0, .int (-1), .null])), (mr 6, .inl (kI, 3002, .inl fa)), (mr 5, .inl (kI, 3002, .inl fk)), (m9, .inr (23, mA mr mv vf xl (nI zs) 0 xa (nI T) (nI (pp + 1)) xi xt xn (nI (ns + 1)) (nI vv) (nI bb)))] : va_W) ++ (sT L F)) := hD
        have hK : va_K (dC, dI) vwCl [(kI, .int)] s := hK
        obtain rfl : r_18 = 1 := hw
        refine lv_if_eq (tgt := 118) hx hb dX23_written_89 (by decide) (fun c_19 => absurd c_19 (by decide)) (fun _ => ?_)
        refine lv_aload_n hx hb dX23_written_92 rfl (lv_at hl 2 rfl) ?_
        refine lv_iconst (v := 4) hx hb dX23_written_93 (by decide) ?_
        by_cases hk_20 : fk (pp + 1) = 4
        · have hPc := hP.subF (f' := [(m9, .inr (23, mA mr mv vf xl (nI zs) 0 xa (nI T) (nI (pp + 1)) xi xt xn (nI (ns + 1)) (nI vv) (nI bb))), (mr 5, .inl (kI, 3002, .inl fk))]) [3, 2] rfl
          have hDc := hD.subF (f' := [(m9, .inr (23, mA mr mv vf xl (nI zs) 0 xa (nI T) (nI (pp + 1)) xi xt xn (nI (ns + 1)) (nI vv) (nI bb))), (mr 5, .inl (kI, 3002, .inl fk))]) [3, 2] (by decide) rfl
          have hKc := hK.sub (tys' := [(kI, .int)]) [0] rfl
          have hFc := va_freeT (wc := [(m9, .inr (23, mA mr mv vf xl (nI zs) 0 xa (nI T) (nI (pp + 1)) xi xt xn (nI (ns + 1)) (nI vv) (nI bb))), (mr 5, .inl (kI, 3002, .inl fk))]) hD hS hA [3, 2] rfl
          refine va_calli (va_runV (As := [.int 4]) (rest := []) ⟨hx, hb, hml, hown, hts⟩ (c_risY l dC dI m9 mr mv vf xl xa xi xt xn zs T (pp + 1) (ns + 1) vv bb kI fk fa 0 4 H.size hT hp_16 hk_20) (cwV 1 hts g_c_rwr_c_risY_94 rfl rfl rfl (by decide +kernel) ⟨by show 0 + 1 ≤ 3 + 1 * k; omega, by show 8 + (2 + 11) + (0) ≤ 54 + 22 * k; omega⟩) ⟨fun a U g mk q => by obtain ⟨q0, q1, qP, qK, qD⟩ := q; exact ⟨q0, q1, qP, va_K.moved (u := U) (U := U.calling g mk a) (Vm.Alike.refl U.vm) qK, qD⟩, va_recv hKc hPc (ci := 23) (q0 := 0) rfl rfl, fun U hU hW => ⟨rfl, by rw [hU], by rw [hU]; exact hPc, va_K.moved hW.alike hKc, hDc.weaken (fun _ _ _ _ => trivial)⟩⟩ rfl rfl hl.1 rfl (lv_room (Nat.le_of_ble_eq_true rfl)) dX23_written_94 ⟨(show 1 + 0 ≤ ((T - pp) + 2) by omega), (show 5 + 0 ≤ (5 * (T - pp) + 10) by omega)⟩) hS (fun q _ h => hFc q h) hFc (fun r_21 u tS H1 locs ht hvm hw hB hz1 hk1 hS => ?_)
          obtain ⟨hP1, hK1, hD1⟩ := hB
          rw [ht] at hP1
          have hK1 := va_K.moved hvm.symm hK1
          obtain ⟨hP, hD⟩ := va_joinT (wr := [(q_1, .inr (22, [.int (fk pp), .int (nI pp), .int 0, .int (-1), .null])), (mr 6, .inl (kI, 3002, .inl fa))]) (w1 := [(m9, .inr (23, mA mr mv vf xl (nI zs) 0 xa (nI T) (nI (pp + 1)) xi xt xn (nI (ns + 1)) (nI vv) (nI bb))), (mr 5, .inl (kI, 3002, .inl fk))]) hP hD [3, 2] [0, 1] rfl rfl (by decide) (by decide) hk1 hFc hP1 hD1
          have hK := hK.app hK1
          generalize H1 = H at hP hS ⊢
          have hP : va_P (dC, dI) vwCl (([(q_1, .inr (22, [.int (fk pp), .int (nI pp), .int 0, .int (-1), .null])), (mr 6, .inl (kI, 3002, .inl fa)), (m9, .inr (23, mA mr mv vf xl (nI zs) 0 xa (nI T) (nI (pp + 1)) xi xt xn (nI (ns + 1)) (nI vv) (nI bb))), (mr 5, .inl (kI, 3002, .inl fk))] : va_W) ++ (sT L F)) H := hP
          have hD : va_D A (([(q_1, .inr (22, [.int (fk pp), .int (nI pp), .int 0, .int (-1), .null])), (mr 6, .inl (kI, 3002, .inl fa)), (m9, .inr (23, mA mr mv vf xl (nI zs) 0 xa (nI T) (nI (pp + 1)) xi xt xn (nI (ns + 1)) (nI vv) (nI bb))), (mr 5, .inl (kI, 3002, .inl fk))] : va_W) ++ (sT L F)) := hD
          have hK : va_K (dC, dI) vwCl [(kI, .int), (kI, .int)] s := hK
          have hK := hK.sub (tys' := [(kI, .int)]) [0] rfl
          obtain rfl : r_21 = 1 := hw
          refine lv_if_eq (tgt := 118) hx hb dX23_written_97 (by decide) (fun c_22 => absurd c_22 (by decide)) (fun _ => ?_)
          refine lv_aload_n hx hb dX23_written_100 rfl (lv_at hl 1 rfl) ?_
          refine lv_aload_n hx hb dX23_written_101 rfl (lv_at hl 2 rfl) ?_
          refine va_get (D := (dC, dI)) (ci := 23) (v := .int (nI (pp + 1))) (C := RX23) (T := TX23) (N := 89) hx hb hts in_c_rwr_X23 hown hK hP 2 rfl rfl 10 (by decide) (hts (.fieldLink RX23 86 "OwnedPlacesModel" "p" "I") (wm_c_rwr 16 rfl)) (fun _ h9 => h9) rfl dX23_written_102 ?_
          refine va_put (D := (dC, dI)) (ci := 22) (v := .int (nI (pp + 1))) (ty := .int) (C := RX22) (T := TX22) (N := 5) hx hb hts in_c_rwr_X22 tyX22 tyX22_ok nmX22 hown hK hP hD hS 0 rfl rfl 3 (by decide) (hts (.fieldLink RX23 122 "OwnedPlacesModel$Written" "life" "I") (wm_c_rwr 43 rfl)) (fun _ h9 => h9) rfl (by decide +kernel) rfl rfl (Nat.le_of_ble_eq_true rfl) dX23_written_105 (fun H locs hP hD hS => ?_)
          have hP : va_P (dC, dI) vwCl (([(q_1, .inr (22, [.int (fk pp), .int (nI pp), .int 0, .int (nI (pp + 1)), .null])), (mr 6, .inl (kI, 3002, .inl fa)), (m9, .inr (23, mA mr mv vf xl (nI zs) 0 xa (nI T) (nI (pp + 1)) xi xt xn (nI (ns + 1)) (nI vv) (nI bb))), (mr 5, .inl (kI, 3002, .inl fk))] : va_W) ++ (sT L F)) H := hP
          have hD : va_D A (([(q_1, .inr (22, [.int (fk pp), .int (nI pp), .int 0, .int (nI (pp + 1)), .null])), (mr 6, .inl (kI, 3002, .inl fa)), (m9, .inr (23, mA mr mv vf xl (nI zs) 0 xa (nI T) (nI (pp + 1)) xi xt xn (nI (ns + 1)) (nI vv) (nI bb))), (mr 5, .inl (kI, 3002, .inl fk))] : va_W) ++ (sT L F)) := hD
          refine lv_aload_n hx hb dX23_written_108 rfl (lv_at hl 2 rfl) ?_
          refine lv_dup hx hb dX23_written_109 rfl ?_
          refine va_get (D := (dC, dI)) (ci := 23) (v := .int (nI (pp + 1))) (C := RX23) (T := TX23) (N := 89) hx hb hts in_c_rwr_X23 hown hK hP 2 rfl rfl 10 (by decide) (hts (.fieldLink RX23 86 "OwnedPlacesModel" "p" "I") (wm_c_rwr 16 rfl)) (fun _ h9 => h9) rfl dX23_written_110 ?_
          refine lv_iconst (v := 1) hx hb dX23_written_113 (by decide) ?_
          refine lv_iadd hx hb dX23_written_114 ?_
          refine lv_topi (fun f_23 ef_23 => ?_)
          obtain rfl : f_23 = nI (pp + 1 + 1) := ef_23.trans (nI_1 _)
          refine va_put (D := (dC, dI)) (ci := 23) (v := .int (nI (pp + 1 + 1))) (ty := .int) (C := RX23) (T := TX23) (N := 89) hx hb hts in_c_rwr_X23 tyX23 tyX23_ok nmX23 hown hK hP hD hS 2 rfl rfl 10 (by decide) (hts (.fieldLink RX23 86 "OwnedPlacesModel" "p" "I") (wm_c_rwr 16 rfl)) (fun _ h9 => h9) rfl (by decide +kernel) rfl rfl (Nat.le_of_ble_eq_true rfl) dX23_written_115 (fun H locs hP hD hS => ?_)
          have hP : va_P (dC, dI) vwCl (([(q_1, .inr (22, [.int (fk pp), .int (nI pp), .int 0, .int (nI (pp + 1)), .null])), (mr 6, .inl (kI, 3002, .inl fa)), (m9, .inr (23, mA mr mv vf xl (nI zs) 0 xa (nI T) (nI (pp + 1 + 1)) xi xt xn (nI (ns + 1)) (nI vv) (nI bb))), (mr 5, .inl (kI, 3002, .inl fk))] : va_W) ++ (sT L F)) H := hP
          have hD : va_D A (([(q_1, .inr (22, [.int (fk pp), .int (nI pp), .int 0, .int (nI (pp + 1)), .null])), (mr 6, .inl (kI, 3002, .inl fa)), (m9, .inr (23, mA mr mv vf xl (nI zs) 0 xa (nI T) (nI (pp + 1 + 1)) xi xt xn (nI (ns + 1)) (nI vv) (nI bb))), (mr 5, .inl (kI, 3002, .inl fk))] : va_W) ++ (sT L F)) := hD
          have hp_24 : pp + 1 + 1 < T := kne3 hk0 hp_16 hk_20 (by decide)
          refine lv_iload_n hx hb dX23_written_118 rfl (lv_at hl 0 rfl) ?_
          refine lv_if_eq (tgt := 136) hx hb dX23_written_119 (by decide) (fun c_25 => absurd c_25 (by decide)) (fun _ => ?_)
          refine lv_aload_n hx hb dX23_written_122 rfl (lv_at hl 2 rfl) ?_
          refine lv_bipush (v := 14) hx hb dX23_written_123 (by decide) ?_
          by_cases hk_26 : fk (pp + 1 + 1) = 14
          · have hPc := hP.subF (f' := [(m9, .inr (23, mA mr mv vf xl (nI zs) 0 xa (nI T) (nI (pp + 1 + 1)) xi xt xn (nI (ns + 1)) (nI vv) (nI bb))), (mr 5, .inl (kI, 3002, .inl fk))]) [2, 3] rfl
            have hDc := hD.subF (f' := [(m9, .inr (23, mA mr mv vf xl (nI zs) 0 xa (nI T) (nI (pp + 1 + 1)) xi xt xn (nI (ns + 1)) (nI vv) (nI bb))), (mr 5, .inl (kI, 3002, .inl fk))]) [2, 3] (by decide) rfl
            have hKc := hK.sub (tys' := [(kI, .int)]) [0] rfl
            have hFc := va_freeT (wc := [(m9, .inr (23, mA mr mv vf xl (nI zs) 0 xa (nI T) (nI (pp + 1 + 1)) xi xt xn (nI (ns + 1)) (nI vv) (nI bb))), (mr 5, .inl (kI, 3002, .inl fk))]) hD hS hA [2, 3] rfl
            refine va_calli (va_runV (As := [.int 14]) (rest := []) ⟨hx, hb, hml, hown, hts⟩ (c_rtsY l dC dI m9 mr mv vf xl xa xi xt xn zs T (pp + 1 + 1) (ns + 1) vv bb kI fk fa 14 H.size hT hp_24 hk0 (by decide) hk_26) (cwV 1 hts g_c_rwr_c_rtsY_125 rfl rfl rfl (by decide +kernel) ⟨by show 1 + 1 ≤ 3 + 1 * k; omega, by show 8 + (2 + 11) + (21) ≤ 54 + 22 * k; omega⟩) ⟨fun a U g mk q => by obtain ⟨q0, q1, qP, qK, qD⟩ := q; exact ⟨q0, q1, qP, va_K.moved (u := U) (U := U.calling g mk a) (Vm.Alike.refl U.vm) qK, qD⟩, va_recv hKc hPc (ci := 23) (q0 := 0) rfl rfl, fun U hU hW => ⟨rfl, by rw [hU], by rw [hU]; exact hPc, va_K.moved hW.alike hKc, hDc.weaken (fun _ _ _ _ => trivial)⟩⟩ rfl rfl hl.1 rfl (lv_room (Nat.le_of_ble_eq_true rfl)) dX23_written_125 ⟨(show 1 + 0 ≤ ((T - pp) + 2) by omega), (show 5 + 0 ≤ (5 * (T - pp) + 10) by omega)⟩) hS (fun q _ h => hFc q h) hFc (fun r_27 u tS H1 locs ht hvm hw hB hz1 hk1 hS => ?_)
            obtain ⟨hP1, hK1, hD1⟩ := hB
            rw [ht] at hP1
            have hK1 := va_K.moved hvm.symm hK1
            obtain ⟨hP, hD⟩ := va_joinT (wr := [(q_1, .inr (22, [.int (fk pp), .int (nI pp), .int 0, .int (nI (pp + 1)), .null])), (mr 6, .inl (kI, 3002, .inl fa))]) (w1 := [(m9, .inr (23, mA mr mv vf xl (nI zs) 0 xa (nI T) (nI ((pp + 1 + 1) + 1)) xi xt xn (nI (ns + 1)) (nI vv) (nI bb))), (mr 5, .inl (kI, 3002, .inl fk))]) hP hD [2, 3] [0, 1] rfl rfl (by decide) (by decide) hk1 hFc hP1 hD1
            have hK := hK.app hK1
            generalize H1 = H at hP hS ⊢
            have hP : va_P (dC, dI) vwCl (([(q_1, .inr (22, [.int (fk pp), .int (nI pp), .int 0, .int (nI (pp + 1)), .null])), (mr 6, .inl (kI, 3002, .inl fa)), (m9, .inr (23, mA mr mv vf xl (nI zs) 0 xa (nI T) (nI ((pp + 1 + 1) + 1)) xi xt xn (nI (ns + 1)) (nI vv) (nI bb))), (mr 5, .inl (kI, 3002, .inl fk))] : va_W) ++ (sT L F)) H := hP
            have hD : va_D A (([(q_1, .inr (22, [.int (fk pp), .int (nI pp), .int 0, .int (nI (pp + 1)), .null])), (mr 6, .inl (kI, 3002, .inl fa)), (m9, .inr (23, mA mr mv vf xl (nI zs) 0 xa (nI T) (nI ((pp + 1 + 1) + 1)) xi xt xn (nI (ns + 1)) (nI vv) (nI bb))), (mr 5, .inl (kI, 3002, .inl fk))] : va_W) ++ (sT L F)) := hD
            have hK : va_K (dC, dI) vwCl [(kI, .int), (kI, .int)] s := hK
            have hK := hK.sub (tys' := [(kI, .int)]) [0] rfl
            obtain rfl : r_27 = 1 := hw
            have hp_28 : pp + 1 + 1 + 1 < T := kne3 hk0 hp_24 hk_26 (by decide)
            refine lv_if_eq (tgt := 136) hx hb dX23_written_128 (by decide) (fun c_29 => absurd c_29 (by decide)) (fun _ => ?_)
            refine lv_aload_n hx hb dX23_written_131 rfl (lv_at hl 1 rfl) ?_
            refine lv_iconst (v := 1) hx hb dX23_written_132 (by decide) ?_
            refine va_put (D := (dC, dI)) (ci := 22) (v := .int 1) (ty := .int) (C := RX22) (T := TX22) (N := 5) hx hb hts in_c_rwr_X22 tyX22 tyX22_ok nmX22 hown hK hP hD hS 0 rfl rfl 2 (by decide) (hts (.fieldLink RX23 128 "OwnedPlacesModel$Written" "name" "I") (wm_c_rwr 44 rfl)) (fun _ h9 => h9) rfl (by decide +kernel) rfl rfl (Nat.le_of_ble_eq_true rfl) dX23_written_133 (fun H locs hP hD hS => ?_)
            have hP : va_P (dC, dI) vwCl (([(q_1, .inr (22, [.int (fk pp), .int (nI pp), .int 1, .int (nI (pp + 1)), .null])), (mr 6, .inl (kI, 3002, .inl fa)), (m9, .inr (23, mA mr mv vf xl (nI zs) 0 xa (nI T) (nI (pp + 1 + 1 + 1)) xi xt xn (nI (ns + 1)) (nI vv) (nI bb))), (mr 5, .inl (kI, 3002, .inl fk))] : va_W) ++ (sT L F)) H := hP
            have hD : va_D A (([(q_1, .inr (22, [.int (fk pp), .int (nI pp), .int 1, .int (nI (pp + 1)), .null])), (mr 6, .inl (kI, 3002, .inl fa)), (m9, .inr (23, mA mr mv vf xl (nI zs) 0 xa (nI T) (nI (pp + 1 + 1 + 1)) xi xt xn (nI (ns + 1)) (nI vv) (nI bb))), (mr 5, .inl (kI, 3002, .inl fk))] : va_W) ++ (sT L F)) := hD
            refine lv_aload_n hx hb dX23_written_136 rfl (lv_at hl 1 rfl) ?_
            refine lv_aload_n hx hb dX23_written_137 rfl (lv_at hl 2 rfl) ?_
            obtain ⟨k1, hkL⟩ : ∃ k1 : Nat, k = k1 + 1 := ⟨k - 1, by omega⟩
            have hPc := hP.subT (f' := [(m9, .inr (23, mA mr mv vf xl (nI zs) 0 xa (nI T) (nI (pp + 1 + 1 + 1)) xi xt xn (nI (ns + 1)) (nI vv) (nI bb))), (mr 5, .inl (kI, 3002, .inl fk)), (mr 6, .inl (kI, 3002, .inl fa))]) [2, 3, 1] rfl
            have hDc := hD.subT (f' := [(m9, .inr (23, mA mr mv vf xl (nI zs) 0 xa (nI T) (nI (pp + 1 + 1 + 1)) xi xt xn (nI (ns + 1)) (nI vv) (nI bb))), (mr 5, .inl (kI, 3002, .inl fk)), (mr 6, .inl (kI, 3002, .inl fa))]) [2, 3, 1] (by decide) rfl
            have hKc := hK.sub (tys' := [(kI, .int)]) [0] rfl
            have hFc := va_freeB (wc := [(m9, .inr (23, mA mr mv vf xl (nI zs) 0 xa (nI T) (nI (pp + 1 + 1 + 1)) xi xt xn (nI (ns + 1)) (nI vv) (nI bb))), (mr 5, .inl (kI, 3002, .inl fk)), (mr 6, .inl (kI, 3002, .inl fa))]) hD hS hA [2, 3, 1] rfl
            refine W.grow (fun hgs0 hgs1 => ?_)
            refine va_callr (va_runV (As := []) (rest := [.ref q_1]) ⟨hx, hb, hml, hown, hts⟩ ((ih k1 hkL) m9 mr mv vf xl xa xi xt xn zs T (pp + 1 + 1 + 1) (ns + 1) vv bb kI fk fa L F (slN H) H.size hT hp_28 hk0 (by omega)) (cwV 0 hts g_c_rwr_c_rwr_138 rfl rfl rfl (by decide +kernel) ⟨by show 3 + 1 * k1 + 1 ≤ 3 + 1 * k; omega, by show 8 + (3 + 11) + (54 + 22 * k1) ≤ 54 + 22 * k; omega⟩) ⟨fun a U g mk q => by obtain ⟨q0, q1, qP, qK, qD, qx0, qx1⟩ := q; exact ⟨q0, q1, qP, va_K.moved (u := U) (U := U.calling g mk a) (Vm.Alike.refl U.vm) qK, qD, nsM.same (u := U) (U := U.calling g mk a) rfl qx0, qx1⟩, va_recv hKc hPc (ci := 23) (q0 := 0) rfl rfl, fun U hU hW => ⟨rfl, by rw [hU], by rw [hU]; exact hPc, va_K.moved hW.alike hKc, hDc.weaken (fun _ _ _ _ => trivial), nsM.warm hW hns, by rw [hU]⟩⟩ rfl rfl hl.1 rfl (lv_room (Nat.le_of_ble_eq_true rfl)) dX23_written_138 ⟨(show 1 + ((T - (pp + 1 + 1 + 1)) + 2) ≤ ((T - pp) + 2) by omega), (show 5 + (5 * (T - (pp + 1 + 1 + 1)) + 10) ≤ (5 * (T - pp) + 10) by omega)⟩) hS (fun q _ h => hFc q h) hFc (fun u r_30 tS H1 locs ht hvm hw hB hz1 hk1 hS => ?_)
            obtain ⟨L8, F8, ff8, xa8, pp8, hf30_0, hf30_1, hf30_2, hf30_3, hf30_4, hP1, hK1, hD1⟩ := hB
            rw [ht] at hP1
            have hK1 := va_K.moved hvm.symm hK1
            rw [ht] at hf30_4
            have hgz : H1.size ≤ s.heap.size + ((1 + (pp8 - (pp + 1 + 1 + 1)) + 1)) ∧ slN H1 ≤ slN s.heap + ((5 + 5 * (pp8 - (pp + 1 + 1 + 1)) + 5)) := ⟨by have := hf30_4.1; omega, by have := hf30_4.2; omega⟩
            obtain ⟨hP, hD⟩ := va_joinB (wr := [(q_1, .inr (22, [.int (fk pp), .int (nI pp), .int 1, .int (nI (pp + 1)), .null]))]) (w1 := [(m9, .inr (23, mA mr mv vf xl (nI zs) ff8 xa8 (nI T) (nI pp8) xi xt xn (nI (ns + 1)) (nI vv) (nI bb))), (mr 5, .inl (kI, 3002, .inl fk)), (mr 6, .inl (kI, 3002, .inl fa))]) hP hD [2, 3, 1] [0] rfl rfl (by decide) (by decide) hk1 hFc hP1 hD1
            have hK := hK.app hK1
            generalize H1 = H at hP hS hgz ⊢
            have hP : va_P (dC, dI) vwCl (([(q_1, .inr (22, [.int (fk pp), .int (nI pp), .int 1, .int (nI (pp + 1)), .null])), (m9, .inr (23, mA mr mv vf xl (nI zs) ff8 xa8 (nI T) (nI pp8) xi xt xn (nI (ns + 1)) (nI vv) (nI bb))), (mr 5, .inl (kI, 3002, .inl fk)), (mr 6, .inl (kI, 3002, .inl fa))] : va_W) ++ (sT L8 F8)) H := hP
            have hD : va_D A (([(q_1, .inr (22, [.int (fk pp), .int (nI pp), .int 1, .int (nI (pp + 1)), .null])), (m9, .inr (23, mA mr mv vf xl (nI zs) ff8 xa8 (nI T) (nI pp8) xi xt xn (nI (ns + 1)) (nI vv) (nI bb))), (mr 5, .inl (kI, 3002, .inl fk)), (mr 6, .inl (kI, 3002, .inl fa))] : va_W) ++ (sT L8 F8)) := hD
            have hK : va_K (dC, dI) vwCl [(kI, .int), (kI, .int)] s := hK
            have hK := hK.sub (tys' := [(kI, .int)]) [0] rfl
            refine W.tight (k := (1 + (pp8 - (pp + 1 + 1 + 1)) + 1)) (n := (5 + 5 * (pp8 - (pp + 1 + 1 + 1)) + 5)) hgz.1 hgz.2 ?_
            refine va_put (D := (dC, dI)) (ci := 22) (v := .ref r_30) (ty := (.object "OwnedPlacesModel$Written")) (C := RX22) (T := TX22) (N := 5) hx hb hts in_c_rwr_X22 tyX22 tyX22_ok nmX22 hown hK hP hD hS 0 rfl rfl 4 (by decide) (hts (.fieldLink RX23 135 "OwnedPlacesModel$Written" "of" "LOwnedPlacesModel$Written;") (wm_c_rwr 38 rfl)) (fun _ h9 => h9) rfl (by decide +kernel) rfl rfl (Nat.le_of_ble_eq_true rfl) dX23_written_141 (fun H locs hP hD hS => ?_)
            have hP : va_P (dC, dI) vwCl (([(q_1, .inr (22, [.int (fk pp), .int (nI pp), .int 1, .int (nI (pp + 1)), .ref r_30])), (m9, .inr (23, mA mr mv vf xl (nI zs) ff8 xa8 (nI T) (nI pp8) xi xt xn (nI (ns + 1)) (nI vv) (nI bb))), (mr 5, .inl (kI, 3002, .inl fk)), (mr 6, .inl (kI, 3002, .inl fa))] : va_W) ++ (sT L8 F8)) H := hP
            have hD : va_D A (([(q_1, .inr (22, [.int (fk pp), .int (nI pp), .int 1, .int (nI (pp + 1)), .ref r_30])), (m9, .inr (23, mA mr mv vf xl (nI zs) ff8 xa8 (nI T) (nI pp8) xi xt xn (nI (ns + 1)) (nI vv) (nI bb))), (mr 5, .inl (kI, 3002, .inl fk)), (mr 6, .inl (kI, 3002, .inl fa))] : va_W) ++ (sT L8 F8)) := hD
            refine lv_aload_n hx hb dX23_written_144 rfl (lv_at hl 2 rfl) ?_
            refine lv_dup hx hb dX23_written_145 rfl ?_
            refine va_get (D := (dC, dI)) (ci := 23) (v := .int (nI (ns + 1))) (C := RX23) (T := TX23) (N := 89) hx hb hts in_c_rwr_X23 hown hK hP 1 rfl rfl 15 (by decide) (hts (.fieldLink RX23 104 "OwnedPlacesModel" "nest" "I") (wm_c_rwr 25 rfl)) (fun _ h9 => h9) rfl dX23_written_146 ?_
            refine lv_iconst (v := 1) hx hb dX23_written_149 (by decide) ?_
            refine lv_isub hx hb dX23_written_150 ?_
            refine lv_topi (fun f_31 ef_31 => ?_)
            obtain rfl : f_31 = nI ns := ef_31.trans (nI_pred _)
            refine va_put (D := (dC, dI)) (ci := 23) (v := .int (nI ns)) (ty := .int) (C := RX23) (T := TX23) (N := 89) hx hb hts in_c_rwr_X23 tyX23 tyX23_ok nmX23 hown hK hP hD hS 1 rfl rfl 15 (by decide) (hts (.fieldLink RX23 104 "OwnedPlacesModel" "nest" "I") (wm_c_rwr 25 rfl)) (fun _ h9 => h9) rfl (by decide +kernel) rfl rfl (Nat.le_of_ble_eq_true rfl) dX23_written_151 (fun H locs hP hD hS => ?_)
            have hP : va_P (dC, dI) vwCl (([(q_1, .inr (22, [.int (fk pp), .int (nI pp), .int 1, .int (nI (pp + 1)), .ref r_30])), (m9, .inr (23, mA mr mv vf xl (nI zs) ff8 xa8 (nI T) (nI pp8) xi xt xn (nI ns) (nI vv) (nI bb))), (mr 5, .inl (kI, 3002, .inl fk)), (mr 6, .inl (kI, 3002, .inl fa))] : va_W) ++ (sT L8 F8)) H := hP
            have hD : va_D A (([(q_1, .inr (22, [.int (fk pp), .int (nI pp), .int 1, .int (nI (pp + 1)), .ref r_30])), (m9, .inr (23, mA mr mv vf xl (nI zs) ff8 xa8 (nI T) (nI pp8) xi xt xn (nI ns) (nI vv) (nI bb))), (mr 5, .inl (kI, 3002, .inl fk)), (mr 6, .inl (kI, 3002, .inl fa))] : va_W) ++ (sT L8 F8)) := hD
            refine lv_goto (tgt := 214) hx hb dX23_written_154 (by decide) ?_
            refine lv_aload_n hx hb dX23_written_214 rfl (lv_at hl 1 rfl) ?_
            have hP : va_P (dC, dI) vwCl ((([(m9, .inr (23, mA mr mv vf xl (nI zs) ff8 xa8 (nI T) (nI pp8) xi xt xn (nI ns) (nI vv) (nI bb))), (mr 5, .inl (kI, 3002, .inl fk)), (mr 6, .inl (kI, 3002, .inl fa))] : va_W) ++ ([(q_1, .inr (22, [.int (fk pp), .int (nI pp), .int 1, .int (nI (pp + 1)), .ref r_30]))] : va_W)) ++ sT L8 F8) H := hP.subT (f' := [(m9, .inr (23, mA mr mv vf xl (nI zs) ff8 xa8 (nI T) (nI pp8) xi xt xn (nI ns) (nI vv) (nI bb))), (mr 5, .inl (kI, 3002, .inl fk)), (mr 6, .inl (kI, 3002, .inl fa)), (q_1, .inr (22, [.int (fk pp), .int (nI pp), .int 1, .int (nI (pp + 1)), .ref r_30]))]) [1, 2, 3, 0] rfl
            have hD : va_D A ((([(m9, .inr (23, mA mr mv vf xl (nI zs) ff8 xa8 (nI T) (nI pp8) xi xt xn (nI ns) (nI vv) (nI bb))), (mr 5, .inl (kI, 3002, .inl fk)), (mr 6, .inl (kI, 3002, .inl fa))] : va_W) ++ ([(q_1, .inr (22, [.int (fk pp), .int (nI pp), .int 1, .int (nI (pp + 1)), .ref r_30]))] : va_W)) ++ sT L8 F8) := hD.subT (f' := [(m9, .inr (23, mA mr mv vf xl (nI zs) ff8 xa8 (nI T) (nI pp8) xi xt xn (nI ns) (nI vv) (nI bb))), (mr 5, .inl (kI, 3002, .inl fk)), (mr 6, .inl (kI, 3002, .inl fa)), (q_1, .inr (22, [.int (fk pp), .int (nI pp), .int 1, .int (nI (pp + 1)), .ref r_30]))]) [1, 2, 3, 0] (by decide) rfl
            obtain ⟨L9, F9, hx9, hm9, hP, hD⟩ := st_fileL [(q_1, .inr (22, [.int (fk pp), .int (nI pp), .int 1, .int (nI (pp + 1)), .ref r_30]))] hP hD
            have hm9_0 := hm9 _ (List.mem_of_getElem? (i := 0) rfl)
            refine W.grow (fun hgs0 hgs1 => ?_)
            have hP9 := hP.subT (f' := [(m9, .inr (23, mA mr mv vf xl (nI zs) ff8 xa8 (nI T) (nI pp8) xi xt xn (nI ns) (nI vv) (nI bb))), (mr 5, .inl (kI, 3002, .inl fk)), (mr 6, .inl (kI, 3002, .inl fa))]) [0, 1, 2] rfl
            have hD9 := hD.subT (f' := [(m9, .inr (23, mA mr mv vf xl (nI zs) ff8 xa8 (nI T) (nI pp8) xi xt xn (nI ns) (nI vv) (nI bb))), (mr 5, .inl (kI, 3002, .inl fk)), (mr 6, .inl (kI, 3002, .inl fa))]) [0, 1, 2] (by decide) rfl
            have hK9 := hK.sub (tys' := [(kI, .int)]) [0] rfl
            refine W.widen (k := ((T - pp) + 2)) (n := (5 * (T - pp) + 10)) (by omega) (by omega) ?_
            exact W.aret hx hb hr (Or.inl ⟨_, rfl⟩) (Or.inr ⟨q_1, rfl⟩) (fun tS ht hW => ⟨⟨(), q_1, rfl, trivial, L9, F9, ff8, xa8, pp8, ⟨hf30_0.1.tr hx9, hm9_0.1⟩, ⟨_, hm9_0.2⟩, ⟨by omega, by omega⟩, (fun h0 => ⟨hm9_0.1, Or.inr (Or.inr ⟨hk_9, r_30, pp + 1 + 1 + 1, 1, nI (pp + 1), hm9_0.2, by omega, Or.inr rfl, Or.inr rfl, (by rw [hkL]; exact isT_ex hx9 (hf30_3 h0))⟩)⟩), by rw [ht]; exact ⟨by omega, by omega⟩, by rw [ht]; exact hP9, va_K.moved hW.alike hK9, hD9⟩, hS.F ht⟩) hS.2.2 dX23_written_215
          · have hPc := hP.subF (f' := [(m9, .inr (23, mA mr mv vf xl (nI zs) 0 xa (nI T) (nI (pp + 1 + 1)) xi xt xn (nI (ns + 1)) (nI vv) (nI bb))), (mr 5, .inl (kI, 3002, .inl fk))]) [2, 3] rfl
            have hDc := hD.subF (f' := [(m9, .inr (23, mA mr mv vf xl (nI zs) 0 xa (nI T) (nI (pp + 1 + 1)) xi xt xn (nI (ns + 1)) (nI vv) (nI bb))), (mr 5, .inl (kI, 3002, .inl fk))]) [2, 3] (by decide) rfl
            have hKc := hK.sub (tys' := [(kI, .int)]) [0] rfl
            have hFc := va_freeT (wc := [(m9, .inr (23, mA mr mv vf xl (nI zs) 0 xa (nI T) (nI (pp + 1 + 1)) xi xt xn (nI (ns + 1)) (nI vv) (nI bb))), (mr 5, .inl (kI, 3002, .inl fk))]) hD hS hA [2, 3] rfl
            refine va_calli (va_runV (As := [.int 14]) (rest := []) ⟨hx, hb, hml, hown, hts⟩ (c_rtsN l dC dI m9 mr mv vf xl xa xi xt xn zs T (pp + 1 + 1) (ns + 1) vv bb kI fk fa 14 H.size hT hp_24 hk0 (by decide) hk_26) (cwV 1 hts g_c_rwr_c_rtsN_125 rfl rfl rfl (by decide +kernel) ⟨by show 1 + 1 ≤ 3 + 1 * k; omega, by show 8 + (2 + 11) + (21) ≤ 54 + 22 * k; omega⟩) ⟨fun a U g mk q => by obtain ⟨q0, q1, qP, qK, qD⟩ := q; exact ⟨q0, q1, qP, va_K.moved (u := U) (U := U.calling g mk a) (Vm.Alike.refl U.vm) qK, qD⟩, va_recv hKc hPc (ci := 23) (q0 := 0) rfl rfl, fun U hU hW => ⟨rfl, by rw [hU], by rw [hU]; exact hPc, va_K.moved hW.alike hKc, hDc.weaken (fun _ _ _ _ => trivial)⟩⟩ rfl rfl hl.1 rfl (lv_room (Nat.le_of_ble_eq_true rfl)) dX23_written_125 ⟨(show 1 + 0 ≤ ((T - pp) + 2) by omega), (show 5 + 0 ≤ (5 * (T - pp) + 10) by omega)⟩) hS (fun q _ h => hFc q h) hFc (fun r_27 u tS H1 locs ht hvm hw hB hz1 hk1 hS => ?_)
            obtain ⟨hP1, hK1, hD1⟩ := hB
            rw [ht] at hP1
            have hK1 := va_K.moved hvm.symm hK1
            obtain ⟨hP, hD⟩ := va_joinT (wr := [(q_1, .inr (22, [.int (fk pp), .int (nI pp), .int 0, .int (nI (pp + 1)), .null])), (mr 6, .inl (kI, 3002, .inl fa))]) (w1 := [(m9, .inr (23, mA mr mv vf xl (nI zs) 0 xa (nI T) (nI (pp + 1 + 1)) xi xt xn (nI (ns + 1)) (nI vv) (nI bb))), (mr 5, .inl (kI, 3002, .inl fk))]) hP hD [2, 3] [0, 1] rfl rfl (by decide) (by decide) hk1 hFc hP1 hD1
            have hK := hK.app hK1
            generalize H1 = H at hP hS ⊢
            have hP : va_P (dC, dI) vwCl (([(q_1, .inr (22, [.int (fk pp), .int (nI pp), .int 0, .int (nI (pp + 1)), .null])), (mr 6, .inl (kI, 3002, .inl fa)), (m9, .inr (23, mA mr mv vf xl (nI zs) 0 xa (nI T) (nI (pp + 1 + 1)) xi xt xn (nI (ns + 1)) (nI vv) (nI bb))), (mr 5, .inl (kI, 3002, .inl fk))] : va_W) ++ (sT L F)) H := hP
            have hD : va_D A (([(q_1, .inr (22, [.int (fk pp), .int (nI pp), .int 0, .int (nI (pp + 1)), .null])), (mr 6, .inl (kI, 3002, .inl fa)), (m9, .inr (23, mA mr mv vf xl (nI zs) 0 xa (nI T) (nI (pp + 1 + 1)) xi xt xn (nI (ns + 1)) (nI vv) (nI bb))), (mr 5, .inl (kI, 3002, .inl fk))] : va_W) ++ (sT L F)) := hD
            have hK : va_K (dC, dI) vwCl [(kI, .int), (kI, .int)] s := hK
            have hK := hK.sub (tys' := [(kI, .int)]) [0] rfl
            obtain rfl : r_27 = 0 := hw
            refine lv_if_eq (tgt := 136) hx hb dX23_written_128 (by decide) (fun _ => ?_) (fun c_28 => absurd (by decide) c_28)
            refine lv_aload_n hx hb dX23_written_136 rfl (lv_at hl 1 rfl) ?_
            refine lv_aload_n hx hb dX23_written_137 rfl (lv_at hl 2 rfl) ?_
            obtain ⟨k1, hkL⟩ : ∃ k1 : Nat, k = k1 + 1 := ⟨k - 1, by omega⟩
            have hPc := hP.subT (f' := [(m9, .inr (23, mA mr mv vf xl (nI zs) 0 xa (nI T) (nI (pp + 1 + 1)) xi xt xn (nI (ns + 1)) (nI vv) (nI bb))), (mr 5, .inl (kI, 3002, .inl fk)), (mr 6, .inl (kI, 3002, .inl fa))]) [2, 3, 1] rfl
            have hDc := hD.subT (f' := [(m9, .inr (23, mA mr mv vf xl (nI zs) 0 xa (nI T) (nI (pp + 1 + 1)) xi xt xn (nI (ns + 1)) (nI vv) (nI bb))), (mr 5, .inl (kI, 3002, .inl fk)), (mr 6, .inl (kI, 3002, .inl fa))]) [2, 3, 1] (by decide) rfl
            have hKc := hK.sub (tys' := [(kI, .int)]) [0] rfl
            have hFc := va_freeB (wc := [(m9, .inr (23, mA mr mv vf xl (nI zs) 0 xa (nI T) (nI (pp + 1 + 1)) xi xt xn (nI (ns + 1)) (nI vv) (nI bb))), (mr 5, .inl (kI, 3002, .inl fk)), (mr 6, .inl (kI, 3002, .inl fa))]) hD hS hA [2, 3, 1] rfl
            refine W.grow (fun hgs0 hgs1 => ?_)
            refine va_callr (va_runV (As := []) (rest := [.ref q_1]) ⟨hx, hb, hml, hown, hts⟩ ((ih k1 hkL) m9 mr mv vf xl xa xi xt xn zs T (pp + 1 + 1) (ns + 1) vv bb kI fk fa L F (slN H) H.size hT hp_24 hk0 (by omega)) (cwV 0 hts g_c_rwr_c_rwr_138 rfl rfl rfl (by decide +kernel) ⟨by show 3 + 1 * k1 + 1 ≤ 3 + 1 * k; omega, by show 8 + (3 + 11) + (54 + 22 * k1) ≤ 54 + 22 * k; omega⟩) ⟨fun a U g mk q => by obtain ⟨q0, q1, qP, qK, qD, qx0, qx1⟩ := q; exact ⟨q0, q1, qP, va_K.moved (u := U) (U := U.calling g mk a) (Vm.Alike.refl U.vm) qK, qD, nsM.same (u := U) (U := U.calling g mk a) rfl qx0, qx1⟩, va_recv hKc hPc (ci := 23) (q0 := 0) rfl rfl, fun U hU hW => ⟨rfl, by rw [hU], by rw [hU]; exact hPc, va_K.moved hW.alike hKc, hDc.weaken (fun _ _ _ _ => trivial), nsM.warm hW hns, by rw [hU]⟩⟩ rfl rfl hl.1 rfl (lv_room (Nat.le_of_ble_eq_true rfl)) dX23_written_138 ⟨(show 1 + ((T - (pp + 1 + 1)) + 2) ≤ ((T - pp) + 2) by omega), (show 5 + (5 * (T - (pp + 1 + 1)) + 10) ≤ (5 * (T - pp) + 10) by omega)⟩) hS (fun q _ h => hFc q h) hFc (fun u r_29 tS H1 locs ht hvm hw hB hz1 hk1 hS => ?_)
            obtain ⟨L8, F8, ff8, xa8, pp8, hf29_0, hf29_1, hf29_2, hf29_3, hf29_4, hP1, hK1, hD1⟩ := hB
            rw [ht] at hP1
            have hK1 := va_K.moved hvm.symm hK1
            rw [ht] at hf29_4
            have hgz : H1.size ≤ s.heap.size + ((1 + (pp8 - (pp + 1 + 1)) + 1)) ∧ slN H1 ≤ slN s.heap + ((5 + 5 * (pp8 - (pp + 1 + 1)) + 5)) := ⟨by have := hf29_4.1; omega, by have := hf29_4.2; omega⟩
            obtain ⟨hP, hD⟩ := va_joinB (wr := [(q_1, .inr (22, [.int (fk pp), .int (nI pp), .int 0, .int (nI (pp + 1)), .null]))]) (w1 := [(m9, .inr (23, mA mr mv vf xl (nI zs) ff8 xa8 (nI T) (nI pp8) xi xt xn (nI (ns + 1)) (nI vv) (nI bb))), (mr 5, .inl (kI, 3002, .inl fk)), (mr 6, .inl (kI, 3002, .inl fa))]) hP hD [2, 3, 1] [0] rfl rfl (by decide) (by decide) hk1 hFc hP1 hD1
            have hK := hK.app hK1
            generalize H1 = H at hP hS hgz ⊢
            have hP : va_P (dC, dI) vwCl (([(q_1, .inr (22, [.int (fk pp), .int (nI pp), .int 0, .int (nI (pp + 1)), .null])), (m9, .inr (23, mA mr mv vf xl (nI zs) ff8 xa8 (nI T) (nI pp8) xi xt xn (nI (ns + 1)) (nI vv) (nI bb))), (mr 5, .inl (kI, 3002, .inl fk)), (mr 6, .inl (kI, 3002, .inl fa))] : va_W) ++ (sT L8 F8)) H := hP
            have hD : va_D A (([(q_1, .inr (22, [.int (fk pp), .int (nI pp), .int 0, .int (nI (pp + 1)), .null])), (m9, .inr (23, mA mr mv vf xl (nI zs) ff8 xa8 (nI T) (nI pp8) xi xt xn (nI (ns + 1)) (nI vv) (nI bb))), (mr 5, .inl (kI, 3002, .inl fk)), (mr 6, .inl (kI, 3002, .inl fa))] : va_W) ++ (sT L8 F8)) := hD
            have hK : va_K (dC, dI) vwCl [(kI, .int), (kI, .int)] s := hK
            have hK := hK.sub (tys' := [(kI, .int)]) [0] rfl
            refine W.tight (k := (1 + (pp8 - (pp + 1 + 1)) + 1)) (n := (5 + 5 * (pp8 - (pp + 1 + 1)) + 5)) hgz.1 hgz.2 ?_
            refine va_put (D := (dC, dI)) (ci := 22) (v := .ref r_29) (ty := (.object "OwnedPlacesModel$Written")) (C := RX22) (T := TX22) (N := 5) hx hb hts in_c_rwr_X22 tyX22 tyX22_ok nmX22 hown hK hP hD hS 0 rfl rfl 4 (by decide) (hts (.fieldLink RX23 135 "OwnedPlacesModel$Written" "of" "LOwnedPlacesModel$Written;") (wm_c_rwr 38 rfl)) (fun _ h9 => h9) rfl (by decide +kernel) rfl rfl (Nat.le_of_ble_eq_true rfl) dX23_written_141 (fun H locs hP hD hS => ?_)
            have hP : va_P (dC, dI) vwCl (([(q_1, .inr (22, [.int (fk pp), .int (nI pp), .int 0, .int (nI (pp + 1)), .ref r_29])), (m9, .inr (23, mA mr mv vf xl (nI zs) ff8 xa8 (nI T) (nI pp8) xi xt xn (nI (ns + 1)) (nI vv) (nI bb))), (mr 5, .inl (kI, 3002, .inl fk)), (mr 6, .inl (kI, 3002, .inl fa))] : va_W) ++ (sT L8 F8)) H := hP
            have hD : va_D A (([(q_1, .inr (22, [.int (fk pp), .int (nI pp), .int 0, .int (nI (pp + 1)), .ref r_29])), (m9, .inr (23, mA mr mv vf xl (nI zs) ff8 xa8 (nI T) (nI pp8) xi xt xn (nI (ns + 1)) (nI vv) (nI bb))), (mr 5, .inl (kI, 3002, .inl fk)), (mr 6, .inl (kI, 3002, .inl fa))] : va_W) ++ (sT L8 F8)) := hD
            refine lv_aload_n hx hb dX23_written_144 rfl (lv_at hl 2 rfl) ?_
            refine lv_dup hx hb dX23_written_145 rfl ?_
            refine va_get (D := (dC, dI)) (ci := 23) (v := .int (nI (ns + 1))) (C := RX23) (T := TX23) (N := 89) hx hb hts in_c_rwr_X23 hown hK hP 1 rfl rfl 15 (by decide) (hts (.fieldLink RX23 104 "OwnedPlacesModel" "nest" "I") (wm_c_rwr 25 rfl)) (fun _ h9 => h9) rfl dX23_written_146 ?_
            refine lv_iconst (v := 1) hx hb dX23_written_149 (by decide) ?_
            refine lv_isub hx hb dX23_written_150 ?_
            refine lv_topi (fun f_30 ef_30 => ?_)
            obtain rfl : f_30 = nI ns := ef_30.trans (nI_pred _)
            refine va_put (D := (dC, dI)) (ci := 23) (v := .int (nI ns)) (ty := .int) (C := RX23) (T := TX23) (N := 89) hx hb hts in_c_rwr_X23 tyX23 tyX23_ok nmX23 hown hK hP hD hS 1 rfl rfl 15 (by decide) (hts (.fieldLink RX23 104 "OwnedPlacesModel" "nest" "I") (wm_c_rwr 25 rfl)) (fun _ h9 => h9) rfl (by decide +kernel) rfl rfl (Nat.le_of_ble_eq_true rfl) dX23_written_151 (fun H locs hP hD hS => ?_)
            have hP : va_P (dC, dI) vwCl (([(q_1, .inr (22, [.int (fk pp), .int (nI pp), .int 0, .int (nI (pp + 1)), .ref r_29])), (m9, .inr (23, mA mr mv vf xl (nI zs) ff8 xa8 (nI T) (nI pp8) xi xt xn (nI ns) (nI vv) (nI bb))), (mr 5, .inl (kI, 3002, .inl fk)), (mr 6, .inl (kI, 3002, .inl fa))] : va_W) ++ (sT L8 F8)) H := hP
            have hD : va_D A (([(q_1, .inr (22, [.int (fk pp), .int (nI pp), .int 0, .int (nI (pp + 1)), .ref r_29])), (m9, .inr (23, mA mr mv vf xl (nI zs) ff8 xa8 (nI T) (nI pp8) xi xt xn (nI ns) (nI vv) (nI bb))), (mr 5, .inl (kI, 3002, .inl fk)), (mr 6, .inl (kI, 3002, .inl fa))] : va_W) ++ (sT L8 F8)) := hD
            refine lv_goto (tgt := 214) hx hb dX23_written_154 (by decide) ?_
            refine lv_aload_n hx hb dX23_written_214 rfl (lv_at hl 1 rfl) ?_
            have hP : va_P (dC, dI) vwCl ((([(m9, .inr (23, mA mr mv vf xl (nI zs) ff8 xa8 (nI T) (nI pp8) xi xt xn (nI ns) (nI vv) (nI bb))), (mr 5, .inl (kI, 3002, .inl fk)), (mr 6, .inl (kI, 3002, .inl fa))] : va_W) ++ ([(q_1, .inr (22, [.int (fk pp), .int (nI pp), .int 0, .int (nI (pp + 1)), .ref r_29]))] : va_W)) ++ sT L8 F8) H := hP.subT (f' := [(m9, .inr (23, mA mr mv vf xl (nI zs) ff8 xa8 (nI T) (nI pp8) xi xt xn (nI ns) (nI vv) (nI bb))), (mr 5, .inl (kI, 3002, .inl fk)), (mr 6, .inl (kI, 3002, .inl fa)), (q_1, .inr (22, [.int (fk pp), .int (nI pp), .int 0, .int (nI (pp + 1)), .ref r_29]))]) [1, 2, 3, 0] rfl
            have hD : va_D A ((([(m9, .inr (23, mA mr mv vf xl (nI zs) ff8 xa8 (nI T) (nI pp8) xi xt xn (nI ns) (nI vv) (nI bb))), (mr 5, .inl (kI, 3002, .inl fk)), (mr 6, .inl (kI, 3002, .inl fa))] : va_W) ++ ([(q_1, .inr (22, [.int (fk pp), .int (nI pp), .int 0, .int (nI (pp + 1)), .ref r_29]))] : va_W)) ++ sT L8 F8) := hD.subT (f' := [(m9, .inr (23, mA mr mv vf xl (nI zs) ff8 xa8 (nI T) (nI pp8) xi xt xn (nI ns) (nI vv) (nI bb))), (mr 5, .inl (kI, 3002, .inl fk)), (mr 6, .inl (kI, 3002, .inl fa)), (q_1, .inr (22, [.int (fk pp), .int (nI pp), .int 0, .int (nI (pp + 1)), .ref r_29]))]) [1, 2, 3, 0] (by decide) rfl
            obtain ⟨L9, F9, hx9, hm9, hP, hD⟩ := st_fileL [(q_1, .inr (22, [.int (fk pp), .int (nI pp), .int 0, .int (nI (pp + 1)), .ref r_29]))] hP hD
            have hm9_0 := hm9 _ (List.mem_of_getElem? (i := 0) rfl)
            refine W.grow (fun hgs0 hgs1 => ?_)
            have hP9 := hP.subT (f' := [(m9, .inr (23, mA mr mv vf xl (nI zs) ff8 xa8 (nI T) (nI pp8) xi xt xn (nI ns) (nI vv) (nI bb))), (mr 5, .inl (kI, 3002, .inl fk)), (mr 6, .inl (kI, 3002, .inl fa))]) [0, 1, 2] rfl
            have hD9 := hD.subT (f' := [(m9, .inr (23, mA mr mv vf xl (nI zs) ff8 xa8 (nI T) (nI pp8) xi xt xn (nI ns) (nI vv) (nI bb))), (mr 5, .inl (kI, 3002, .inl fk)), (mr 6, .inl (kI, 3002, .inl fa))]) [0, 1, 2] (by decide) rfl
            have hK9 := hK.sub (tys' := [(kI, .int)]) [0] rfl
            refine W.widen (k := ((T - pp) + 2)) (n := (5 * (T - pp) + 10)) (by omega) (by omega) ?_
            exact W.aret hx hb hr (Or.inl ⟨_, rfl⟩) (Or.inr ⟨q_1, rfl⟩) (fun tS ht hW => ⟨⟨(), q_1, rfl, trivial, L9, F9, ff8, xa8, pp8, ⟨hf29_0.1.tr hx9, hm9_0.1⟩, ⟨_, hm9_0.2⟩, ⟨by omega, by omega⟩, (fun h0 => ⟨hm9_0.1, Or.inr (Or.inr ⟨hk_9, r_29, pp + 1 + 1, 0, nI (pp + 1), hm9_0.2, by omega, Or.inl rfl, Or.inr rfl, (by rw [hkL]; exact isT_ex hx9 (hf29_3 h0))⟩)⟩), by rw [ht]; exact ⟨by omega, by omega⟩, by rw [ht]; exact hP9, va_K.moved hW.alike hK9, hD9⟩, hS.F ht⟩) hS.2.2 dX23_written_215
        · have hPc := hP.subF (f' := [(m9, .inr (23, mA mr mv vf xl (nI zs) 0 xa (nI T) (nI (pp + 1)) xi xt xn (nI (ns + 1)) (nI vv) (nI bb))), (mr 5, .inl (kI, 3002, .inl fk))]) [3, 2] rfl
          have hDc := hD.subF (f' := [(m9, .inr (23, mA mr mv vf xl (nI zs) 0 xa (nI T) (nI (pp + 1)) xi xt xn (nI (ns + 1)) (nI vv) (nI bb))), (mr 5, .inl (kI, 3002, .inl fk))]) [3, 2] (by decide) rfl
          have hKc := hK.sub (tys' := [(kI, .int)]) [0] rfl
          have hFc := va_freeT (wc := [(m9, .inr (23, mA mr mv vf xl (nI zs) 0 xa (nI T) (nI (pp + 1)) xi xt xn (nI (ns + 1)) (nI vv) (nI bb))), (mr 5, .inl (kI, 3002, .inl fk))]) hD hS hA [3, 2] rfl
          refine va_calli (va_runV (As := [.int 4]) (rest := []) ⟨hx, hb, hml, hown, hts⟩ (c_risN l dC dI m9 mr mv vf xl xa xi xt xn zs T (pp + 1) (ns + 1) vv bb kI fk fa 0 4 H.size hT hp_16 hk_20) (cwV 1 hts g_c_rwr_c_risN_94 rfl rfl rfl (by decide +kernel) ⟨by show 0 + 1 ≤ 3 + 1 * k; omega, by show 8 + (2 + 11) + (0) ≤ 54 + 22 * k; omega⟩) ⟨fun a U g mk q => by obtain ⟨q0, q1, qP, qK, qD⟩ := q; exact ⟨q0, q1, qP, va_K.moved (u := U) (U := U.calling g mk a) (Vm.Alike.refl U.vm) qK, qD⟩, va_recv hKc hPc (ci := 23) (q0 := 0) rfl rfl, fun U hU hW => ⟨rfl, by rw [hU], by rw [hU]; exact hPc, va_K.moved hW.alike hKc, hDc.weaken (fun _ _ _ _ => trivial)⟩⟩ rfl rfl hl.1 rfl (lv_room (Nat.le_of_ble_eq_true rfl)) dX23_written_94 ⟨(show 1 + 0 ≤ ((T - pp) + 2) by omega), (show 5 + 0 ≤ (5 * (T - pp) + 10) by omega)⟩) hS (fun q _ h => hFc q h) hFc (fun r_21 u tS H1 locs ht hvm hw hB hz1 hk1 hS => ?_)
          obtain ⟨hP1, hK1, hD1⟩ := hB
          rw [ht] at hP1
          have hK1 := va_K.moved hvm.symm hK1
          obtain ⟨hP, hD⟩ := va_joinT (wr := [(q_1, .inr (22, [.int (fk pp), .int (nI pp), .int 0, .int (-1), .null])), (mr 6, .inl (kI, 3002, .inl fa))]) (w1 := [(m9, .inr (23, mA mr mv vf xl (nI zs) 0 xa (nI T) (nI (pp + 1)) xi xt xn (nI (ns + 1)) (nI vv) (nI bb))), (mr 5, .inl (kI, 3002, .inl fk))]) hP hD [3, 2] [0, 1] rfl rfl (by decide) (by decide) hk1 hFc hP1 hD1
          have hK := hK.app hK1
          generalize H1 = H at hP hS ⊢
          have hP : va_P (dC, dI) vwCl (([(q_1, .inr (22, [.int (fk pp), .int (nI pp), .int 0, .int (-1), .null])), (mr 6, .inl (kI, 3002, .inl fa)), (m9, .inr (23, mA mr mv vf xl (nI zs) 0 xa (nI T) (nI (pp + 1)) xi xt xn (nI (ns + 1)) (nI vv) (nI bb))), (mr 5, .inl (kI, 3002, .inl fk))] : va_W) ++ (sT L F)) H := hP
          have hD : va_D A (([(q_1, .inr (22, [.int (fk pp), .int (nI pp), .int 0, .int (-1), .null])), (mr 6, .inl (kI, 3002, .inl fa)), (m9, .inr (23, mA mr mv vf xl (nI zs) 0 xa (nI T) (nI (pp + 1)) xi xt xn (nI (ns + 1)) (nI vv) (nI bb))), (mr 5, .inl (kI, 3002, .inl fk))] : va_W) ++ (sT L F)) := hD
          have hK : va_K (dC, dI) vwCl [(kI, .int), (kI, .int)] s := hK
          have hK := hK.sub (tys' := [(kI, .int)]) [0] rfl
          obtain rfl : r_21 = 0 := hw
          refine lv_if_eq (tgt := 118) hx hb dX23_written_97 (by decide) (fun _ => ?_) (fun c_22 => absurd (by decide) c_22)
          refine lv_iload_n hx hb dX23_written_118 rfl (lv_at hl 0 rfl) ?_
          refine lv_if_eq (tgt := 136) hx hb dX23_written_119 (by decide) (fun c_23 => absurd c_23 (by decide)) (fun _ => ?_)
          refine lv_aload_n hx hb dX23_written_122 rfl (lv_at hl 2 rfl) ?_
          refine lv_bipush (v := 14) hx hb dX23_written_123 (by decide) ?_
          by_cases hk_24 : fk (pp + 1) = 14
          · have hPc := hP.subF (f' := [(m9, .inr (23, mA mr mv vf xl (nI zs) 0 xa (nI T) (nI (pp + 1)) xi xt xn (nI (ns + 1)) (nI vv) (nI bb))), (mr 5, .inl (kI, 3002, .inl fk))]) [2, 3] rfl
            have hDc := hD.subF (f' := [(m9, .inr (23, mA mr mv vf xl (nI zs) 0 xa (nI T) (nI (pp + 1)) xi xt xn (nI (ns + 1)) (nI vv) (nI bb))), (mr 5, .inl (kI, 3002, .inl fk))]) [2, 3] (by decide) rfl
            have hKc := hK.sub (tys' := [(kI, .int)]) [0] rfl
            have hFc := va_freeT (wc := [(m9, .inr (23, mA mr mv vf xl (nI zs) 0 xa (nI T) (nI (pp + 1)) xi xt xn (nI (ns + 1)) (nI vv) (nI bb))), (mr 5, .inl (kI, 3002, .inl fk))]) hD hS hA [2, 3] rfl
            refine va_calli (va_runV (As := [.int 14]) (rest := []) ⟨hx, hb, hml, hown, hts⟩ (c_rtsY l dC dI m9 mr mv vf xl xa xi xt xn zs T (pp + 1) (ns + 1) vv bb kI fk fa 14 H.size hT hp_16 hk0 (by decide) hk_24) (cwV 1 hts g_c_rwr_c_rtsY_125 rfl rfl rfl (by decide +kernel) ⟨by show 1 + 1 ≤ 3 + 1 * k; omega, by show 8 + (2 + 11) + (21) ≤ 54 + 22 * k; omega⟩) ⟨fun a U g mk q => by obtain ⟨q0, q1, qP, qK, qD⟩ := q; exact ⟨q0, q1, qP, va_K.moved (u := U) (U := U.calling g mk a) (Vm.Alike.refl U.vm) qK, qD⟩, va_recv hKc hPc (ci := 23) (q0 := 0) rfl rfl, fun U hU hW => ⟨rfl, by rw [hU], by rw [hU]; exact hPc, va_K.moved hW.alike hKc, hDc.weaken (fun _ _ _ _ => trivial)⟩⟩ rfl rfl hl.1 rfl (lv_room (Nat.le_of_ble_eq_true rfl)) dX23_written_125 ⟨(show 1 + 0 ≤ ((T - pp) + 2) by omega), (show 5 + 0 ≤ (5 * (T - pp) + 10) by omega)⟩) hS (fun q _ h => hFc q h) hFc (fun r_25 u tS H1 locs ht hvm hw hB hz1 hk1 hS => ?_)
            obtain ⟨hP1, hK1, hD1⟩ := hB
            rw [ht] at hP1
            have hK1 := va_K.moved hvm.symm hK1
            obtain ⟨hP, hD⟩ := va_joinT (wr := [(q_1, .inr (22, [.int (fk pp), .int (nI pp), .int 0, .int (-1), .null])), (mr 6, .inl (kI, 3002, .inl fa))]) (w1 := [(m9, .inr (23, mA mr mv vf xl (nI zs) 0 xa (nI T) (nI ((pp + 1) + 1)) xi xt xn (nI (ns + 1)) (nI vv) (nI bb))), (mr 5, .inl (kI, 3002, .inl fk))]) hP hD [2, 3] [0, 1] rfl rfl (by decide) (by decide) hk1 hFc hP1 hD1
            have hK := hK.app hK1
            generalize H1 = H at hP hS ⊢
            have hP : va_P (dC, dI) vwCl (([(q_1, .inr (22, [.int (fk pp), .int (nI pp), .int 0, .int (-1), .null])), (mr 6, .inl (kI, 3002, .inl fa)), (m9, .inr (23, mA mr mv vf xl (nI zs) 0 xa (nI T) (nI ((pp + 1) + 1)) xi xt xn (nI (ns + 1)) (nI vv) (nI bb))), (mr 5, .inl (kI, 3002, .inl fk))] : va_W) ++ (sT L F)) H := hP
            have hD : va_D A (([(q_1, .inr (22, [.int (fk pp), .int (nI pp), .int 0, .int (-1), .null])), (mr 6, .inl (kI, 3002, .inl fa)), (m9, .inr (23, mA mr mv vf xl (nI zs) 0 xa (nI T) (nI ((pp + 1) + 1)) xi xt xn (nI (ns + 1)) (nI vv) (nI bb))), (mr 5, .inl (kI, 3002, .inl fk))] : va_W) ++ (sT L F)) := hD
            have hK : va_K (dC, dI) vwCl [(kI, .int), (kI, .int)] s := hK
            have hK := hK.sub (tys' := [(kI, .int)]) [0] rfl
            obtain rfl : r_25 = 1 := hw
            have hp_26 : pp + 1 + 1 < T := kne3 hk0 hp_16 hk_24 (by decide)
            refine lv_if_eq (tgt := 136) hx hb dX23_written_128 (by decide) (fun c_27 => absurd c_27 (by decide)) (fun _ => ?_)
            refine lv_aload_n hx hb dX23_written_131 rfl (lv_at hl 1 rfl) ?_
            refine lv_iconst (v := 1) hx hb dX23_written_132 (by decide) ?_
            refine va_put (D := (dC, dI)) (ci := 22) (v := .int 1) (ty := .int) (C := RX22) (T := TX22) (N := 5) hx hb hts in_c_rwr_X22 tyX22 tyX22_ok nmX22 hown hK hP hD hS 0 rfl rfl 2 (by decide) (hts (.fieldLink RX23 128 "OwnedPlacesModel$Written" "name" "I") (wm_c_rwr 44 rfl)) (fun _ h9 => h9) rfl (by decide +kernel) rfl rfl (Nat.le_of_ble_eq_true rfl) dX23_written_133 (fun H locs hP hD hS => ?_)
            have hP : va_P (dC, dI) vwCl (([(q_1, .inr (22, [.int (fk pp), .int (nI pp), .int 1, .int (-1), .null])), (mr 6, .inl (kI, 3002, .inl fa)), (m9, .inr (23, mA mr mv vf xl (nI zs) 0 xa (nI T) (nI (pp + 1 + 1)) xi xt xn (nI (ns + 1)) (nI vv) (nI bb))), (mr 5, .inl (kI, 3002, .inl fk))] : va_W) ++ (sT L F)) H := hP
            have hD : va_D A (([(q_1, .inr (22, [.int (fk pp), .int (nI pp), .int 1, .int (-1), .null])), (mr 6, .inl (kI, 3002, .inl fa)), (m9, .inr (23, mA mr mv vf xl (nI zs) 0 xa (nI T) (nI (pp + 1 + 1)) xi xt xn (nI (ns + 1)) (nI vv) (nI bb))), (mr 5, .inl (kI, 3002, .inl fk))] : va_W) ++ (sT L F)) := hD
            refine lv_aload_n hx hb dX23_written_136 rfl (lv_at hl 1 rfl) ?_
            refine lv_aload_n hx hb dX23_written_137 rfl (lv_at hl 2 rfl) ?_
            obtain ⟨k1, hkL⟩ : ∃ k1 : Nat, k = k1 + 1 := ⟨k - 1, by omega⟩
            have hPc := hP.subT (f' := [(m9, .inr (23, mA mr mv vf xl (nI zs) 0 xa (nI T) (nI (pp + 1 + 1)) xi xt xn (nI (ns + 1)) (nI vv) (nI bb))), (mr 5, .inl (kI, 3002, .inl fk)), (mr 6, .inl (kI, 3002, .inl fa))]) [2, 3, 1] rfl
            have hDc := hD.subT (f' := [(m9, .inr (23, mA mr mv vf xl (nI zs) 0 xa (nI T) (nI (pp + 1 + 1)) xi xt xn (nI (ns + 1)) (nI vv) (nI bb))), (mr 5, .inl (kI, 3002, .inl fk)), (mr 6, .inl (kI, 3002, .inl fa))]) [2, 3, 1] (by decide) rfl
            have hKc := hK.sub (tys' := [(kI, .int)]) [0] rfl
            have hFc := va_freeB (wc := [(m9, .inr (23, mA mr mv vf xl (nI zs) 0 xa (nI T) (nI (pp + 1 + 1)) xi xt xn (nI (ns + 1)) (nI vv) (nI bb))), (mr 5, .inl (kI, 3002, .inl fk)), (mr 6, .inl (kI, 3002, .inl fa))]) hD hS hA [2, 3, 1] rfl
            refine W.grow (fun hgs0 hgs1 => ?_)
            refine va_callr (va_runV (As := []) (rest := [.ref q_1]) ⟨hx, hb, hml, hown, hts⟩ ((ih k1 hkL) m9 mr mv vf xl xa xi xt xn zs T (pp + 1 + 1) (ns + 1) vv bb kI fk fa L F (slN H) H.size hT hp_26 hk0 (by omega)) (cwV 0 hts g_c_rwr_c_rwr_138 rfl rfl rfl (by decide +kernel) ⟨by show 3 + 1 * k1 + 1 ≤ 3 + 1 * k; omega, by show 8 + (3 + 11) + (54 + 22 * k1) ≤ 54 + 22 * k; omega⟩) ⟨fun a U g mk q => by obtain ⟨q0, q1, qP, qK, qD, qx0, qx1⟩ := q; exact ⟨q0, q1, qP, va_K.moved (u := U) (U := U.calling g mk a) (Vm.Alike.refl U.vm) qK, qD, nsM.same (u := U) (U := U.calling g mk a) rfl qx0, qx1⟩, va_recv hKc hPc (ci := 23) (q0 := 0) rfl rfl, fun U hU hW => ⟨rfl, by rw [hU], by rw [hU]; exact hPc, va_K.moved hW.alike hKc, hDc.weaken (fun _ _ _ _ => trivial), nsM.warm hW hns, by rw [hU]⟩⟩ rfl rfl hl.1 rfl (lv_room (Nat.le_of_ble_eq_true rfl)) dX23_written_138 ⟨(show 1 + ((T - (pp + 1 + 1)) + 2) ≤ ((T - pp) + 2) by omega), (show 5 + (5 * (T - (pp + 1 + 1)) + 10) ≤ (5 * (T - pp) + 10) by omega)⟩) hS (fun q _ h => hFc q h) hFc (fun u r_28 tS H1 locs ht hvm hw hB hz1 hk1 hS => ?_)
            obtain ⟨L8, F8, ff8, xa8, pp8, hf28_0, hf28_1, hf28_2, hf28_3, hf28_4, hP1, hK1, hD1⟩ := hB
            rw [ht] at hP1
            have hK1 := va_K.moved hvm.symm hK1
            rw [ht] at hf28_4
            have hgz : H1.size ≤ s.heap.size + ((1 + (pp8 - (pp + 1 + 1)) + 1)) ∧ slN H1 ≤ slN s.heap + ((5 + 5 * (pp8 - (pp + 1 + 1)) + 5)) := ⟨by have := hf28_4.1; omega, by have := hf28_4.2; omega⟩
            obtain ⟨hP, hD⟩ := va_joinB (wr := [(q_1, .inr (22, [.int (fk pp), .int (nI pp), .int 1, .int (-1), .null]))]) (w1 := [(m9, .inr (23, mA mr mv vf xl (nI zs) ff8 xa8 (nI T) (nI pp8) xi xt xn (nI (ns + 1)) (nI vv) (nI bb))), (mr 5, .inl (kI, 3002, .inl fk)), (mr 6, .inl (kI, 3002, .inl fa))]) hP hD [2, 3, 1] [0] rfl rfl (by decide) (by decide) hk1 hFc hP1 hD1
            have hK := hK.app hK1
            generalize H1 = H at hP hS hgz ⊢
            have hP : va_P (dC, dI) vwCl (([(q_1, .inr (22, [.int (fk pp), .int (nI pp), .int 1, .int (-1), .null])), (m9, .inr (23, mA mr mv vf xl (nI zs) ff8 xa8 (nI T) (nI pp8) xi xt xn (nI (ns + 1)) (nI vv) (nI bb))), (mr 5, .inl (kI, 3002, .inl fk)), (mr 6, .inl (kI, 3002, .inl fa))] : va_W) ++ (sT L8 F8)) H := hP
            have hD : va_D A (([(q_1, .inr (22, [.int (fk pp), .int (nI pp), .int 1, .int (-1), .null])), (m9, .inr (23, mA mr mv vf xl (nI zs) ff8 xa8 (nI T) (nI pp8) xi xt xn (nI (ns + 1)) (nI vv) (nI bb))), (mr 5, .inl (kI, 3002, .inl fk)), (mr 6, .inl (kI, 3002, .inl fa))] : va_W) ++ (sT L8 F8)) := hD
            have hK : va_K (dC, dI) vwCl [(kI, .int), (kI, .int)] s := hK
            have hK := hK.sub (tys' := [(kI, .int)]) [0] rfl
            refine W.tight (k := (1 + (pp8 - (pp + 1 + 1)) + 1)) (n := (5 + 5 * (pp8 - (pp + 1 + 1)) + 5)) hgz.1 hgz.2 ?_
            refine va_put (D := (dC, dI)) (ci := 22) (v := .ref r_28) (ty := (.object "OwnedPlacesModel$Written")) (C := RX22) (T := TX22) (N := 5) hx hb hts in_c_rwr_X22 tyX22 tyX22_ok nmX22 hown hK hP hD hS 0 rfl rfl 4 (by decide) (hts (.fieldLink RX23 135 "OwnedPlacesModel$Written" "of" "LOwnedPlacesModel$Written;") (wm_c_rwr 38 rfl)) (fun _ h9 => h9) rfl (by decide +kernel) rfl rfl (Nat.le_of_ble_eq_true rfl) dX23_written_141 (fun H locs hP hD hS => ?_)
            have hP : va_P (dC, dI) vwCl (([(q_1, .inr (22, [.int (fk pp), .int (nI pp), .int 1, .int (-1), .ref r_28])), (m9, .inr (23, mA mr mv vf xl (nI zs) ff8 xa8 (nI T) (nI pp8) xi xt xn (nI (ns + 1)) (nI vv) (nI bb))), (mr 5, .inl (kI, 3002, .inl fk)), (mr 6, .inl (kI, 3002, .inl fa))] : va_W) ++ (sT L8 F8)) H := hP
            have hD : va_D A (([(q_1, .inr (22, [.int (fk pp), .int (nI pp), .int 1, .int (-1), .ref r_28])), (m9, .inr (23, mA mr mv vf xl (nI zs) ff8 xa8 (nI T) (nI pp8) xi xt xn (nI (ns + 1)) (nI vv) (nI bb))), (mr 5, .inl (kI, 3002, .inl fk)), (mr 6, .inl (kI, 3002, .inl fa))] : va_W) ++ (sT L8 F8)) := hD
            refine lv_aload_n hx hb dX23_written_144 rfl (lv_at hl 2 rfl) ?_
            refine lv_dup hx hb dX23_written_145 rfl ?_
            refine va_get (D := (dC, dI)) (ci := 23) (v := .int (nI (ns + 1))) (C := RX23) (T := TX23) (N := 89) hx hb hts in_c_rwr_X23 hown hK hP 1 rfl rfl 15 (by decide) (hts (.fieldLink RX23 104 "OwnedPlacesModel" "nest" "I") (wm_c_rwr 25 rfl)) (fun _ h9 => h9) rfl dX23_written_146 ?_
            refine lv_iconst (v := 1) hx hb dX23_written_149 (by decide) ?_
            refine lv_isub hx hb dX23_written_150 ?_
            refine lv_topi (fun f_29 ef_29 => ?_)
            obtain rfl : f_29 = nI ns := ef_29.trans (nI_pred _)
            refine va_put (D := (dC, dI)) (ci := 23) (v := .int (nI ns)) (ty := .int) (C := RX23) (T := TX23) (N := 89) hx hb hts in_c_rwr_X23 tyX23 tyX23_ok nmX23 hown hK hP hD hS 1 rfl rfl 15 (by decide) (hts (.fieldLink RX23 104 "OwnedPlacesModel" "nest" "I") (wm_c_rwr 25 rfl)) (fun _ h9 => h9) rfl (by decide +kernel) rfl rfl (Nat.le_of_ble_eq_true rfl) dX23_written_151 (fun H locs hP hD hS => ?_)
            have hP : va_P (dC, dI) vwCl (([(q_1, .inr (22, [.int (fk pp), .int (nI pp), .int 1, .int (-1), .ref r_28])), (m9, .inr (23, mA mr mv vf xl (nI zs) ff8 xa8 (nI T) (nI pp8) xi xt xn (nI ns) (nI vv) (nI bb))), (mr 5, .inl (kI, 3002, .inl fk)), (mr 6, .inl (kI, 3002, .inl fa))] : va_W) ++ (sT L8 F8)) H := hP
            have hD : va_D A (([(q_1, .inr (22, [.int (fk pp), .int (nI pp), .int 1, .int (-1), .ref r_28])), (m9, .inr (23, mA mr mv vf xl (nI zs) ff8 xa8 (nI T) (nI pp8) xi xt xn (nI ns) (nI vv) (nI bb))), (mr 5, .inl (kI, 3002, .inl fk)), (mr 6, .inl (kI, 3002, .inl fa))] : va_W) ++ (sT L8 F8)) := hD
            refine lv_goto (tgt := 214) hx hb dX23_written_154 (by decide) ?_
            refine lv_aload_n hx hb dX23_written_214 rfl (lv_at hl 1 rfl) ?_
            have hP : va_P (dC, dI) vwCl ((([(m9, .inr (23, mA mr mv vf xl (nI zs) ff8 xa8 (nI T) (nI pp8) xi xt xn (nI ns) (nI vv) (nI bb))), (mr 5, .inl (kI, 3002, .inl fk)), (mr 6, .inl (kI, 3002, .inl fa))] : va_W) ++ ([(q_1, .inr (22, [.int (fk pp), .int (nI pp), .int 1, .int (-1), .ref r_28]))] : va_W)) ++ sT L8 F8) H := hP.subT (f' := [(m9, .inr (23, mA mr mv vf xl (nI zs) ff8 xa8 (nI T) (nI pp8) xi xt xn (nI ns) (nI vv) (nI bb))), (mr 5, .inl (kI, 3002, .inl fk)), (mr 6, .inl (kI, 3002, .inl fa)), (q_1, .inr (22, [.int (fk pp), .int (nI pp), .int 1, .int (-1), .ref r_28]))]) [1, 2, 3, 0] rfl
            have hD : va_D A ((([(m9, .inr (23, mA mr mv vf xl (nI zs) ff8 xa8 (nI T) (nI pp8) xi xt xn (nI ns) (nI vv) (nI bb))), (mr 5, .inl (kI, 3002, .inl fk)), (mr 6, .inl (kI, 3002, .inl fa))] : va_W) ++ ([(q_1, .inr (22, [.int (fk pp), .int (nI pp), .int 1, .int (-1), .ref r_28]))] : va_W)) ++ sT L8 F8) := hD.subT (f' := [(m9, .inr (23, mA mr mv vf xl (nI zs) ff8 xa8 (nI T) (nI pp8) xi xt xn (nI ns) (nI vv) (nI bb))), (mr 5, .inl (kI, 3002, .inl fk)), (mr 6, .inl (kI, 3002, .inl fa)), (q_1, .inr (22, [.int (fk pp), .int (nI pp), .int 1, .int (-1), .ref r_28]))]) [1, 2, 3, 0] (by decide) rfl
            obtain ⟨L9, F9, hx9, hm9, hP, hD⟩ := st_fileL [(q_1, .inr (22, [.int (fk pp), .int (nI pp), .int 1, .int (-1), .ref r_28]))] hP hD
            have hm9_0 := hm9 _ (List.mem_of_getElem? (i := 0) rfl)
            refine W.grow (fun hgs0 hgs1 => ?_)
            have hP9 := hP.subT (f' := [(m9, .inr (23, mA mr mv vf xl (nI zs) ff8 xa8 (nI T) (nI pp8) xi xt xn (nI ns) (nI vv) (nI bb))), (mr 5, .inl (kI, 3002, .inl fk)), (mr 6, .inl (kI, 3002, .inl fa))]) [0, 1, 2] rfl
            have hD9 := hD.subT (f' := [(m9, .inr (23, mA mr mv vf xl (nI zs) ff8 xa8 (nI T) (nI pp8) xi xt xn (nI ns) (nI vv) (nI bb))), (mr 5, .inl (kI, 3002, .inl fk)), (mr 6, .inl (kI, 3002, .inl fa))]) [0, 1, 2] (by decide) rfl
            have hK9 := hK.sub (tys' := [(kI, .int)]) [0] rfl
            refine W.widen (k := ((T - pp) + 2)) (n := (5 * (T - pp) + 10)) (by omega) (by omega) ?_
            exact W.aret hx hb hr (Or.inl ⟨_, rfl⟩) (Or.inr ⟨q_1, rfl⟩) (fun tS ht hW => ⟨⟨(), q_1, rfl, trivial, L9, F9, ff8, xa8, pp8, ⟨hf28_0.1.tr hx9, hm9_0.1⟩, ⟨_, hm9_0.2⟩, ⟨by omega, by omega⟩, (fun h0 => ⟨hm9_0.1, Or.inr (Or.inr ⟨hk_9, r_28, pp + 1 + 1, 1, (-1), hm9_0.2, by omega, Or.inr rfl, Or.inl rfl, (by rw [hkL]; exact isT_ex hx9 (hf28_3 h0))⟩)⟩), by rw [ht]; exact ⟨by omega, by omega⟩, by rw [ht]; exact hP9, va_K.moved hW.alike hK9, hD9⟩, hS.F ht⟩) hS.2.2 dX23_written_215
          · have hPc := hP.subF (f' := [(m9, .inr (23, mA mr mv vf xl (nI zs) 0 xa (nI T) (nI (pp + 1)) xi xt xn (nI (ns + 1)) (nI vv) (nI bb))), (mr 5, .inl (kI, 3002, .inl fk))]) [2, 3] rfl
            have hDc := hD.subF (f' := [(m9, .inr (23, mA mr mv vf xl (nI zs) 0 xa (nI T) (nI (pp + 1)) xi xt xn (nI (ns + 1)) (nI vv) (nI bb))), (mr 5, .inl (kI, 3002, .inl fk))]) [2, 3] (by decide) rfl
            have hKc := hK.sub (tys' := [(kI, .int)]) [0] rfl
            have hFc := va_freeT (wc := [(m9, .inr (23, mA mr mv vf xl (nI zs) 0 xa (nI T) (nI (pp + 1)) xi xt xn (nI (ns + 1)) (nI vv) (nI bb))), (mr 5, .inl (kI, 3002, .inl fk))]) hD hS hA [2, 3] rfl
            refine va_calli (va_runV (As := [.int 14]) (rest := []) ⟨hx, hb, hml, hown, hts⟩ (c_rtsN l dC dI m9 mr mv vf xl xa xi xt xn zs T (pp + 1) (ns + 1) vv bb kI fk fa 14 H.size hT hp_16 hk0 (by decide) hk_24) (cwV 1 hts g_c_rwr_c_rtsN_125 rfl rfl rfl (by decide +kernel) ⟨by show 1 + 1 ≤ 3 + 1 * k; omega, by show 8 + (2 + 11) + (21) ≤ 54 + 22 * k; omega⟩) ⟨fun a U g mk q => by obtain ⟨q0, q1, qP, qK, qD⟩ := q; exact ⟨q0, q1, qP, va_K.moved (u := U) (U := U.calling g mk a) (Vm.Alike.refl U.vm) qK, qD⟩, va_recv hKc hPc (ci := 23) (q0 := 0) rfl rfl, fun U hU hW => ⟨rfl, by rw [hU], by rw [hU]; exact hPc, va_K.moved hW.alike hKc, hDc.weaken (fun _ _ _ _ => trivial)⟩⟩ rfl rfl hl.1 rfl (lv_room (Nat.le_of_ble_eq_true rfl)) dX23_written_125 ⟨(show 1 + 0 ≤ ((T - pp) + 2) by omega), (show 5 + 0 ≤ (5 * (T - pp) + 10) by omega)⟩) hS (fun q _ h => hFc q h) hFc (fun r_25 u tS H1 locs ht hvm hw hB hz1 hk1 hS => ?_)
            obtain ⟨hP1, hK1, hD1⟩ := hB
            rw [ht] at hP1
            have hK1 := va_K.moved hvm.symm hK1
            obtain ⟨hP, hD⟩ := va_joinT (wr := [(q_1, .inr (22, [.int (fk pp), .int (nI pp), .int 0, .int (-1), .null])), (mr 6, .inl (kI, 3002, .inl fa))]) (w1 := [(m9, .inr (23, mA mr mv vf xl (nI zs) 0 xa (nI T) (nI (pp + 1)) xi xt xn (nI (ns + 1)) (nI vv) (nI bb))), (mr 5, .inl (kI, 3002, .inl fk))]) hP hD [2, 3] [0, 1] rfl rfl (by decide) (by decide) hk1 hFc hP1 hD1
            have hK := hK.app hK1
            generalize H1 = H at hP hS ⊢
            have hP : va_P (dC, dI) vwCl (([(q_1, .inr (22, [.int (fk pp), .int (nI pp), .int 0, .int (-1), .null])), (mr 6, .inl (kI, 3002, .inl fa)), (m9, .inr (23, mA mr mv vf xl (nI zs) 0 xa (nI T) (nI (pp + 1)) xi xt xn (nI (ns + 1)) (nI vv) (nI bb))), (mr 5, .inl (kI, 3002, .inl fk))] : va_W) ++ (sT L F)) H := hP
            have hD : va_D A (([(q_1, .inr (22, [.int (fk pp), .int (nI pp), .int 0, .int (-1), .null])), (mr 6, .inl (kI, 3002, .inl fa)), (m9, .inr (23, mA mr mv vf xl (nI zs) 0 xa (nI T) (nI (pp + 1)) xi xt xn (nI (ns + 1)) (nI vv) (nI bb))), (mr 5, .inl (kI, 3002, .inl fk))] : va_W) ++ (sT L F)) := hD
            have hK : va_K (dC, dI) vwCl [(kI, .int), (kI, .int)] s := hK
            have hK := hK.sub (tys' := [(kI, .int)]) [0] rfl
            obtain rfl : r_25 = 0 := hw
            refine lv_if_eq (tgt := 136) hx hb dX23_written_128 (by decide) (fun _ => ?_) (fun c_26 => absurd (by decide) c_26)
            refine lv_aload_n hx hb dX23_written_136 rfl (lv_at hl 1 rfl) ?_
            refine lv_aload_n hx hb dX23_written_137 rfl (lv_at hl 2 rfl) ?_
            obtain ⟨k1, hkL⟩ : ∃ k1 : Nat, k = k1 + 1 := ⟨k - 1, by omega⟩
            have hPc := hP.subT (f' := [(m9, .inr (23, mA mr mv vf xl (nI zs) 0 xa (nI T) (nI (pp + 1)) xi xt xn (nI (ns + 1)) (nI vv) (nI bb))), (mr 5, .inl (kI, 3002, .inl fk)), (mr 6, .inl (kI, 3002, .inl fa))]) [2, 3, 1] rfl
            have hDc := hD.subT (f' := [(m9, .inr (23, mA mr mv vf xl (nI zs) 0 xa (nI T) (nI (pp + 1)) xi xt xn (nI (ns + 1)) (nI vv) (nI bb))), (mr 5, .inl (kI, 3002, .inl fk)), (mr 6, .inl (kI, 3002, .inl fa))]) [2, 3, 1] (by decide) rfl
            have hKc := hK.sub (tys' := [(kI, .int)]) [0] rfl
            have hFc := va_freeB (wc := [(m9, .inr (23, mA mr mv vf xl (nI zs) 0 xa (nI T) (nI (pp + 1)) xi xt xn (nI (ns + 1)) (nI vv) (nI bb))), (mr 5, .inl (kI, 3002, .inl fk)), (mr 6, .inl (kI, 3002, .inl fa))]) hD hS hA [2, 3, 1] rfl
            refine W.grow (fun hgs0 hgs1 => ?_)
            refine va_callr (va_runV (As := []) (rest := [.ref q_1]) ⟨hx, hb, hml, hown, hts⟩ ((ih k1 hkL) m9 mr mv vf xl xa xi xt xn zs T (pp + 1) (ns + 1) vv bb kI fk fa L F (slN H) H.size hT hp_16 hk0 (by omega)) (cwV 0 hts g_c_rwr_c_rwr_138 rfl rfl rfl (by decide +kernel) ⟨by show 3 + 1 * k1 + 1 ≤ 3 + 1 * k; omega, by show 8 + (3 + 11) + (54 + 22 * k1) ≤ 54 + 22 * k; omega⟩) ⟨fun a U g mk q => by obtain ⟨q0, q1, qP, qK, qD, qx0, qx1⟩ := q; exact ⟨q0, q1, qP, va_K.moved (u := U) (U := U.calling g mk a) (Vm.Alike.refl U.vm) qK, qD, nsM.same (u := U) (U := U.calling g mk a) rfl qx0, qx1⟩, va_recv hKc hPc (ci := 23) (q0 := 0) rfl rfl, fun U hU hW => ⟨rfl, by rw [hU], by rw [hU]; exact hPc, va_K.moved hW.alike hKc, hDc.weaken (fun _ _ _ _ => trivial), nsM.warm hW hns, by rw [hU]⟩⟩ rfl rfl hl.1 rfl (lv_room (Nat.le_of_ble_eq_true rfl)) dX23_written_138 ⟨(show 1 + ((T - (pp + 1)) + 2) ≤ ((T - pp) + 2) by omega), (show 5 + (5 * (T - (pp + 1)) + 10) ≤ (5 * (T - pp) + 10) by omega)⟩) hS (fun q _ h => hFc q h) hFc (fun u r_27 tS H1 locs ht hvm hw hB hz1 hk1 hS => ?_)
            obtain ⟨L8, F8, ff8, xa8, pp8, hf27_0, hf27_1, hf27_2, hf27_3, hf27_4, hP1, hK1, hD1⟩ := hB
            rw [ht] at hP1
            have hK1 := va_K.moved hvm.symm hK1
            rw [ht] at hf27_4
            have hgz : H1.size ≤ s.heap.size + ((1 + (pp8 - (pp + 1)) + 1)) ∧ slN H1 ≤ slN s.heap + ((5 + 5 * (pp8 - (pp + 1)) + 5)) := ⟨by have := hf27_4.1; omega, by have := hf27_4.2; omega⟩
            obtain ⟨hP, hD⟩ := va_joinB (wr := [(q_1, .inr (22, [.int (fk pp), .int (nI pp), .int 0, .int (-1), .null]))]) (w1 := [(m9, .inr (23, mA mr mv vf xl (nI zs) ff8 xa8 (nI T) (nI pp8) xi xt xn (nI (ns + 1)) (nI vv) (nI bb))), (mr 5, .inl (kI, 3002, .inl fk)), (mr 6, .inl (kI, 3002, .inl fa))]) hP hD [2, 3, 1] [0] rfl rfl (by decide) (by decide) hk1 hFc hP1 hD1
            have hK := hK.app hK1
            generalize H1 = H at hP hS hgz ⊢
            have hP : va_P (dC, dI) vwCl (([(q_1, .inr (22, [.int (fk pp), .int (nI pp), .int 0, .int (-1), .null])), (m9, .inr (23, mA mr mv vf xl (nI zs) ff8 xa8 (nI T) (nI pp8) xi xt xn (nI (ns + 1)) (nI vv) (nI bb))), (mr 5, .inl (kI, 3002, .inl fk)), (mr 6, .inl (kI, 3002, .inl fa))] : va_W) ++ (sT L8 F8)) H := hP
            have hD : va_D A (([(q_1, .inr (22, [.int (fk pp), .int (nI pp), .int 0, .int (-1), .null])), (m9, .inr (23, mA mr mv vf xl (nI zs) ff8 xa8 (nI T) (nI pp8) xi xt xn (nI (ns + 1)) (nI vv) (nI bb))), (mr 5, .inl (kI, 3002, .inl fk)), (mr 6, .inl (kI, 3002, .inl fa))] : va_W) ++ (sT L8 F8)) := hD
            have hK : va_K (dC, dI) vwCl [(kI, .int), (kI, .int)] s := hK
            have hK := hK.sub (tys' := [(kI, .int)]) [0] rfl
            refine W.tight (k := (1 + (pp8 - (pp + 1)) + 1)) (n := (5 + 5 * (pp8 - (pp + 1)) + 5)) hgz.1 hgz.2 ?_
            refine va_put (D := (dC, dI)) (ci := 22) (v := .ref r_27) (ty := (.object "OwnedPlacesModel$Written")) (C := RX22) (T := TX22) (N := 5) hx hb hts in_c_rwr_X22 tyX22 tyX22_ok nmX22 hown hK hP hD hS 0 rfl rfl 4 (by decide) (hts (.fieldLink RX23 135 "OwnedPlacesModel$Written" "of" "LOwnedPlacesModel$Written;") (wm_c_rwr 38 rfl)) (fun _ h9 => h9) rfl (by decide +kernel) rfl rfl (Nat.le_of_ble_eq_true rfl) dX23_written_141 (fun H locs hP hD hS => ?_)
            have hP : va_P (dC, dI) vwCl (([(q_1, .inr (22, [.int (fk pp), .int (nI pp), .int 0, .int (-1), .ref r_27])), (m9, .inr (23, mA mr mv vf xl (nI zs) ff8 xa8 (nI T) (nI pp8) xi xt xn (nI (ns + 1)) (nI vv) (nI bb))), (mr 5, .inl (kI, 3002, .inl fk)), (mr 6, .inl (kI, 3002, .inl fa))] : va_W) ++ (sT L8 F8)) H := hP
            have hD : va_D A (([(q_1, .inr (22, [.int (fk pp), .int (nI pp), .int 0, .int (-1), .ref r_27])), (m9, .inr (23, mA mr mv vf xl (nI zs) ff8 xa8 (nI T) (nI pp8) xi xt xn (nI (ns + 1)) (nI vv) (nI bb))), (mr 5, .inl (kI, 3002, .inl fk)), (mr 6, .inl (kI, 3002, .inl fa))] : va_W) ++ (sT L8 F8)) := hD
            refine lv_aload_n hx hb dX23_written_144 rfl (lv_at hl 2 rfl) ?_
            refine lv_dup hx hb dX23_written_145 rfl ?_
            refine va_get (D := (dC, dI)) (ci := 23) (v := .int (nI (ns + 1))) (C := RX23) (T := TX23) (N := 89) hx hb hts in_c_rwr_X23 hown hK hP 1 rfl rfl 15 (by decide) (hts (.fieldLink RX23 104 "OwnedPlacesModel" "nest" "I") (wm_c_rwr 25 rfl)) (fun _ h9 => h9) rfl dX23_written_146 ?_
            refine lv_iconst (v := 1) hx hb dX23_written_149 (by decide) ?_
            refine lv_isub hx hb dX23_written_150 ?_
            refine lv_topi (fun f_28 ef_28 => ?_)
            obtain rfl : f_28 = nI ns := ef_28.trans (nI_pred _)
            refine va_put (D := (dC, dI)) (ci := 23) (v := .int (nI ns)) (ty := .int) (C := RX23) (T := TX23) (N := 89) hx hb hts in_c_rwr_X23 tyX23 tyX23_ok nmX23 hown hK hP hD hS 1 rfl rfl 15 (by decide) (hts (.fieldLink RX23 104 "OwnedPlacesModel" "nest" "I") (wm_c_rwr 25 rfl)) (fun _ h9 => h9) rfl (by decide +kernel) rfl rfl (Nat.le_of_ble_eq_true rfl) dX23_written_151 (fun H locs hP hD hS => ?_)
            have hP : va_P (dC, dI) vwCl (([(q_1, .inr (22, [.int (fk pp), .int (nI pp), .int 0, .int (-1), .ref r_27])), (m9, .inr (23, mA mr mv vf xl (nI zs) ff8 xa8 (nI T) (nI pp8) xi xt xn (nI ns) (nI vv) (nI bb))), (mr 5, .inl (kI, 3002, .inl fk)), (mr 6, .inl (kI, 3002, .inl fa))] : va_W) ++ (sT L8 F8)) H := hP
            have hD : va_D A (([(q_1, .inr (22, [.int (fk pp), .int (nI pp), .int 0, .int (-1), .ref r_27])), (m9, .inr (23, mA mr mv vf xl (nI zs) ff8 xa8 (nI T) (nI pp8) xi xt xn (nI ns) (nI vv) (nI bb))), (mr 5, .inl (kI, 3002, .inl fk)), (mr 6, .inl (kI, 3002, .inl fa))] : va_W) ++ (sT L8 F8)) := hD
            refine lv_goto (tgt := 214) hx hb dX23_written_154 (by decide) ?_
            refine lv_aload_n hx hb dX23_written_214 rfl (lv_at hl 1 rfl) ?_
            have hP : va_P (dC, dI) vwCl ((([(m9, .inr (23, mA mr mv vf xl (nI zs) ff8 xa8 (nI T) (nI pp8) xi xt xn (nI ns) (nI vv) (nI bb))), (mr 5, .inl (kI, 3002, .inl fk)), (mr 6, .inl (kI, 3002, .inl fa))] : va_W) ++ ([(q_1, .inr (22, [.int (fk pp), .int (nI pp), .int 0, .int (-1), .ref r_27]))] : va_W)) ++ sT L8 F8) H := hP.subT (f' := [(m9, .inr (23, mA mr mv vf xl (nI zs) ff8 xa8 (nI T) (nI pp8) xi xt xn (nI ns) (nI vv) (nI bb))), (mr 5, .inl (kI, 3002, .inl fk)), (mr 6, .inl (kI, 3002, .inl fa)), (q_1, .inr (22, [.int (fk pp), .int (nI pp), .int 0, .int (-1), .ref r_27]))]) [1, 2, 3, 0] rfl
            have hD : va_D A ((([(m9, .inr (23, mA mr mv vf xl (nI zs) ff8 xa8 (nI T) (nI pp8) xi xt xn (nI ns) (nI vv) (nI bb))), (mr 5, .inl (kI, 3002, .inl fk)), (mr 6, .inl (kI, 3002, .inl fa))] : va_W) ++ ([(q_1, .inr (22, [.int (fk pp), .int (nI pp), .int 0, .int (-1), .ref r_27]))] : va_W)) ++ sT L8 F8) := hD.subT (f' := [(m9, .inr (23, mA mr mv vf xl (nI zs) ff8 xa8 (nI T) (nI pp8) xi xt xn (nI ns) (nI vv) (nI bb))), (mr 5, .inl (kI, 3002, .inl fk)), (mr 6, .inl (kI, 3002, .inl fa)), (q_1, .inr (22, [.int (fk pp), .int (nI pp), .int 0, .int (-1), .ref r_27]))]) [1, 2, 3, 0] (by decide) rfl
            obtain ⟨L9, F9, hx9, hm9, hP, hD⟩ := st_fileL [(q_1, .inr (22, [.int (fk pp), .int (nI pp), .int 0, .int (-1), .ref r_27]))] hP hD
            have hm9_0 := hm9 _ (List.mem_of_getElem? (i := 0) rfl)
            refine W.grow (fun hgs0 hgs1 => ?_)
            have hP9 := hP.subT (f' := [(m9, .inr (23, mA mr mv vf xl (nI zs) ff8 xa8 (nI T) (nI pp8) xi xt xn (nI ns) (nI vv) (nI bb))), (mr 5, .inl (kI, 3002, .inl fk)), (mr 6, .inl (kI, 3002, .inl fa))]) [0, 1, 2] rfl
            have hD9 := hD.subT (f' := [(m9, .inr (23, mA mr mv vf xl (nI zs) ff8 xa8 (nI T) (nI pp8) xi xt xn (nI ns) (nI vv) (nI bb))), (mr 5, .inl (kI, 3002, .inl fk)), (mr 6, .inl (kI, 3002, .inl fa))]) [0, 1, 2] (by decide) rfl
            have hK9 := hK.sub (tys' := [(kI, .int)]) [0] rfl
            refine W.widen (k := ((T - pp) + 2)) (n := (5 * (T - pp) + 10)) (by omega) (by omega) ?_
            exact W.aret hx hb hr (Or.inl ⟨_, rfl⟩) (Or.inr ⟨q_1, rfl⟩) (fun tS ht hW => ⟨⟨(), q_1, rfl, trivial, L9, F9, ff8, xa8, pp8, ⟨hf27_0.1.tr hx9, hm9_0.1⟩, ⟨_, hm9_0.2⟩, ⟨by omega, by omega⟩, (fun h0 => ⟨hm9_0.1, Or.inr (Or.inr ⟨hk_9, r_27, pp + 1, 0, (-1), hm9_0.2, by omega, Or.inl rfl, Or.inl rfl, (by rw [hkL]; exact isT_ex hx9 (hf27_3 h0))⟩)⟩), by rw [ht]; exact ⟨by omega, by omega⟩, by rw [ht]; exact hP9, va_K.moved hW.alike hK9, hD9⟩, hS.F ht⟩) hS.2.2 dX23_written_215
    · have hPc := hP.subF (f' := [(m9, .inr (23, mA mr mv vf xl (nI zs) 0 xa (nI T) (nI pp) xi xt xn (nI ns) (nI vv) (nI bb))), (mr 5, .inl (kI, 3002, .inl fk))]) [2, 3] rfl
      have hDc := hD.subF (f' := [(m9, .inr (23, mA mr mv vf xl (nI zs) 0 xa (nI T) (nI pp) xi xt xn (nI ns) (nI vv) (nI bb))), (mr 5, .inl (kI, 3002, .inl fk))]) [2, 3] (by decide) rfl
      have hKc := hK.sub (tys' := [(kI, .int)]) [0] rfl
      have hFc := va_freeT (wc := [(m9, .inr (23, mA mr mv vf xl (nI zs) 0 xa (nI T) (nI pp) xi xt xn (nI ns) (nI vv) (nI bb))), (mr 5, .inl (kI, 3002, .inl fk))]) hD hS hA [2, 3] rfl
      refine va_calli (va_runV (As := [.int 55]) (rest := []) ⟨hx, hb, hml, hown, hts⟩ (c_risN l dC dI m9 mr mv vf xl xa xi xt xn zs T pp ns vv bb kI fk fa 0 55 H.size hT hp hk_9) (cwV 1 hts g_c_rwr_c_risN_50 rfl rfl rfl (by decide +kernel) ⟨by show 0 + 1 ≤ 3 + 1 * k; omega, by show 8 + (2 + 11) + (0) ≤ 54 + 22 * k; omega⟩) ⟨fun a U g mk q => by obtain ⟨q0, q1, qP, qK, qD⟩ := q; exact ⟨q0, q1, qP, va_K.moved (u := U) (U := U.calling g mk a) (Vm.Alike.refl U.vm) qK, qD⟩, va_recv hKc hPc (ci := 23) (q0 := 0) rfl rfl, fun U hU hW => ⟨rfl, by rw [hU], by rw [hU]; exact hPc, va_K.moved hW.alike hKc, hDc.weaken (fun _ _ _ _ => trivial)⟩⟩ rfl rfl hl.1 rfl (lv_room (Nat.le_of_ble_eq_true rfl)) dX23_written_50 ⟨(show 1 + 0 ≤ ((T - pp) + 2) by omega), (show 5 + 0 ≤ (5 * (T - pp) + 10) by omega)⟩) hS (fun q _ h => hFc q h) hFc (fun r_10 u tS H1 locs ht hvm hw hB hz1 hk1 hS => ?_)
      obtain ⟨hP1, hK1, hD1⟩ := hB
      rw [ht] at hP1
      have hK1 := va_K.moved hvm.symm hK1
      obtain ⟨hP, hD⟩ := va_joinT (wr := [(mr 6, .inl (kI, 3002, .inl fa)), (q_1, .inr (22, [.int (fk pp), .int (nI pp), .int 0, .int (-1), .null]))]) (w1 := [(m9, .inr (23, mA mr mv vf xl (nI zs) 0 xa (nI T) (nI pp) xi xt xn (nI ns) (nI vv) (nI bb))), (mr 5, .inl (kI, 3002, .inl fk))]) hP hD [2, 3] [0, 1] rfl rfl (by decide) (by decide) hk1 hFc hP1 hD1
      have hK := hK.app hK1
      generalize H1 = H at hP hS ⊢
      have hP : va_P (dC, dI) vwCl (([(mr 6, .inl (kI, 3002, .inl fa)), (q_1, .inr (22, [.int (fk pp), .int (nI pp), .int 0, .int (-1), .null])), (m9, .inr (23, mA mr mv vf xl (nI zs) 0 xa (nI T) (nI pp) xi xt xn (nI ns) (nI vv) (nI bb))), (mr 5, .inl (kI, 3002, .inl fk))] : va_W) ++ (sT L F)) H := hP
      have hD : va_D A (([(mr 6, .inl (kI, 3002, .inl fa)), (q_1, .inr (22, [.int (fk pp), .int (nI pp), .int 0, .int (-1), .null])), (m9, .inr (23, mA mr mv vf xl (nI zs) 0 xa (nI T) (nI pp) xi xt xn (nI ns) (nI vv) (nI bb))), (mr 5, .inl (kI, 3002, .inl fk))] : va_W) ++ (sT L F)) := hD
      have hK : va_K (dC, dI) vwCl [(kI, .int), (kI, .int)] s := hK
      have hK := hK.sub (tys' := [(kI, .int)]) [0] rfl
      obtain rfl : r_10 = 0 := hw
      refine lv_if_eq (tgt := 157) hx hb dX23_written_53 (by decide) (fun _ => ?_) (fun c_11 => absurd (by decide) c_11)
      refine lv_aload_n hx hb dX23_written_157 rfl (lv_at hl 1 rfl) ?_
      refine lv_bipush (v := 26) hx hb dX23_written_158 (by decide) ?_
      by_cases hk_12 : fk pp = 26
      · have hPc := hP.subF (f' := [(m9, .inr (23, mA mr mv vf xl (nI zs) 0 xa (nI T) (nI pp) xi xt xn (nI ns) (nI vv) (nI bb))), (mr 5, .inl (kI, 3002, .inl fk))]) [2, 3] rfl
        have hDc := hD.subF (f' := [(m9, .inr (23, mA mr mv vf xl (nI zs) 0 xa (nI T) (nI pp) xi xt xn (nI ns) (nI vv) (nI bb))), (mr 5, .inl (kI, 3002, .inl fk))]) [2, 3] (by decide) rfl
        have hKc := hK.sub (tys' := [(kI, .int)]) [0] rfl
        have hFc := va_freeT (wc := [(m9, .inr (23, mA mr mv vf xl (nI zs) 0 xa (nI T) (nI pp) xi xt xn (nI ns) (nI vv) (nI bb))), (mr 5, .inl (kI, 3002, .inl fk))]) hD hS hA [2, 3] rfl
        refine va_calli (va_runV (As := [.int 26]) (rest := []) ⟨hx, hb, hml, hown, hts⟩ (c_risY l dC dI m9 mr mv vf xl xa xi xt xn zs T pp ns vv bb kI fk fa 0 26 H.size hT hp hk_12) (cwV 1 hts g_c_rwr_c_risY_160 rfl rfl rfl (by decide +kernel) ⟨by show 0 + 1 ≤ 3 + 1 * k; omega, by show 8 + (2 + 11) + (0) ≤ 54 + 22 * k; omega⟩) ⟨fun a U g mk q => by obtain ⟨q0, q1, qP, qK, qD⟩ := q; exact ⟨q0, q1, qP, va_K.moved (u := U) (U := U.calling g mk a) (Vm.Alike.refl U.vm) qK, qD⟩, va_recv hKc hPc (ci := 23) (q0 := 0) rfl rfl, fun U hU hW => ⟨rfl, by rw [hU], by rw [hU]; exact hPc, va_K.moved hW.alike hKc, hDc.weaken (fun _ _ _ _ => trivial)⟩⟩ rfl rfl hl.1 rfl (lv_room (Nat.le_of_ble_eq_true rfl)) dX23_written_160 ⟨(show 1 + 0 ≤ ((T - pp) + 2) by omega), (show 5 + 0 ≤ (5 * (T - pp) + 10) by omega)⟩) hS (fun q _ h => hFc q h) hFc (fun r_13 u tS H1 locs ht hvm hw hB hz1 hk1 hS => ?_)
        obtain ⟨hP1, hK1, hD1⟩ := hB
        rw [ht] at hP1
        have hK1 := va_K.moved hvm.symm hK1
        obtain ⟨hP, hD⟩ := va_joinT (wr := [(mr 6, .inl (kI, 3002, .inl fa)), (q_1, .inr (22, [.int (fk pp), .int (nI pp), .int 0, .int (-1), .null]))]) (w1 := [(m9, .inr (23, mA mr mv vf xl (nI zs) 0 xa (nI T) (nI pp) xi xt xn (nI ns) (nI vv) (nI bb))), (mr 5, .inl (kI, 3002, .inl fk))]) hP hD [2, 3] [0, 1] rfl rfl (by decide) (by decide) hk1 hFc hP1 hD1
        have hK := hK.app hK1
        generalize H1 = H at hP hS ⊢
        have hP : va_P (dC, dI) vwCl (([(mr 6, .inl (kI, 3002, .inl fa)), (q_1, .inr (22, [.int (fk pp), .int (nI pp), .int 0, .int (-1), .null])), (m9, .inr (23, mA mr mv vf xl (nI zs) 0 xa (nI T) (nI pp) xi xt xn (nI ns) (nI vv) (nI bb))), (mr 5, .inl (kI, 3002, .inl fk))] : va_W) ++ (sT L F)) H := hP
        have hD : va_D A (([(mr 6, .inl (kI, 3002, .inl fa)), (q_1, .inr (22, [.int (fk pp), .int (nI pp), .int 0, .int (-1), .null])), (m9, .inr (23, mA mr mv vf xl (nI zs) 0 xa (nI T) (nI pp) xi xt xn (nI ns) (nI vv) (nI bb))), (mr 5, .inl (kI, 3002, .inl fk))] : va_W) ++ (sT L F)) := hD
        have hK : va_K (dC, dI) vwCl [(kI, .int), (kI, .int)] s := hK
        have hK := hK.sub (tys' := [(kI, .int)]) [0] rfl
        obtain rfl : r_13 = 1 := hw
        refine lv_if_ne (tgt := 192) hx hb dX23_written_163 (by decide) (fun _ => ?_) (fun c_14 => absurd c_14 (by decide))
        refine lv_aload_n hx hb dX23_written_192 rfl (lv_at hl 1 rfl) ?_
        refine lv_dup hx hb dX23_written_193 rfl ?_
        refine va_get (D := (dC, dI)) (ci := 23) (v := .int (nI pp)) (C := RX23) (T := TX23) (N := 89) hx hb hts in_c_rwr_X23 hown hK hP 2 rfl rfl 10 (by decide) (hts (.fieldLink RX23 86 "OwnedPlacesModel" "p" "I") (wm_c_rwr 16 rfl)) (fun _ h9 => h9) rfl dX23_written_194 ?_
        refine lv_iconst (v := 1) hx hb dX23_written_197 (by decide) ?_
        refine lv_iadd hx hb dX23_written_198 ?_
        refine lv_topi (fun f_15 ef_15 => ?_)
        obtain rfl : f_15 = nI (pp + 1) := ef_15.trans (nI_1 _)
        refine va_put (D := (dC, dI)) (ci := 23) (v := .int (nI (pp + 1))) (ty := .int) (C := RX23) (T := TX23) (N := 89) hx hb hts in_c_rwr_X23 tyX23 tyX23_ok nmX23 hown hK hP hD hS 2 rfl rfl 10 (by decide) (hts (.fieldLink RX23 86 "OwnedPlacesModel" "p" "I") (wm_c_rwr 16 rfl)) (fun _ h9 => h9) rfl (by decide +kernel) rfl rfl (Nat.le_of_ble_eq_true rfl) dX23_written_199 (fun H locs hP hD hS => ?_)
        have hP : va_P (dC, dI) vwCl (([(mr 6, .inl (kI, 3002, .inl fa)), (q_1, .inr (22, [.int (fk pp), .int (nI pp), .int 0, .int (-1), .null])), (m9, .inr (23, mA mr mv vf xl (nI zs) 0 xa (nI T) (nI (pp + 1)) xi xt xn (nI ns) (nI vv) (nI bb))), (mr 5, .inl (kI, 3002, .inl fk))] : va_W) ++ (sT L F)) H := hP
        have hD : va_D A (([(mr 6, .inl (kI, 3002, .inl fa)), (q_1, .inr (22, [.int (fk pp), .int (nI pp), .int 0, .int (-1), .null])), (m9, .inr (23, mA mr mv vf xl (nI zs) 0 xa (nI T) (nI (pp + 1)) xi xt xn (nI ns) (nI vv) (nI bb))), (mr 5, .inl (kI, 3002, .inl fk))] : va_W) ++ (sT L F)) := hD
        have hp_16 : pp + 1 < T := kne3 hk0 hp hk_12 (by decide)
        refine lv_goto (tgt := 214) hx hb dX23_written_202 (by decide) ?_
        refine lv_aload_n hx hb dX23_written_214 rfl (lv_at hl 0 rfl) ?_
        have hP : va_P (dC, dI) vwCl ((([(mr 6, .inl (kI, 3002, .inl fa)), (m9, .inr (23, mA mr mv vf xl (nI zs) 0 xa (nI T) (nI (pp + 1)) xi xt xn (nI ns) (nI vv) (nI bb))), (mr 5, .inl (kI, 3002, .inl fk))] : va_W) ++ ([(q_1, .inr (22, [.int (fk pp), .int (nI pp), .int 0, .int (-1), .null]))] : va_W)) ++ sT L F) H := hP.subT (f' := [(mr 6, .inl (kI, 3002, .inl fa)), (m9, .inr (23, mA mr mv vf xl (nI zs) 0 xa (nI T) (nI (pp + 1)) xi xt xn (nI ns) (nI vv) (nI bb))), (mr 5, .inl (kI, 3002, .inl fk)), (q_1, .inr (22, [.int (fk pp), .int (nI pp), .int 0, .int (-1), .null]))]) [0, 2, 3, 1] rfl
        have hD : va_D A ((([(mr 6, .inl (kI, 3002, .inl fa)), (m9, .inr (23, mA mr mv vf xl (nI zs) 0 xa (nI T) (nI (pp + 1)) xi xt xn (nI ns) (nI vv) (nI bb))), (mr 5, .inl (kI, 3002, .inl fk))] : va_W) ++ ([(q_1, .inr (22, [.int (fk pp), .int (nI pp), .int 0, .int (-1), .null]))] : va_W)) ++ sT L F) := hD.subT (f' := [(mr 6, .inl (kI, 3002, .inl fa)), (m9, .inr (23, mA mr mv vf xl (nI zs) 0 xa (nI T) (nI (pp + 1)) xi xt xn (nI ns) (nI vv) (nI bb))), (mr 5, .inl (kI, 3002, .inl fk)), (q_1, .inr (22, [.int (fk pp), .int (nI pp), .int 0, .int (-1), .null]))]) [0, 2, 3, 1] (by decide) rfl
        obtain ⟨L9, F9, hx9, hm9, hP, hD⟩ := st_fileL [(q_1, .inr (22, [.int (fk pp), .int (nI pp), .int 0, .int (-1), .null]))] hP hD
        have hm9_0 := hm9 _ (List.mem_of_getElem? (i := 0) rfl)
        refine W.grow (fun hgs0 hgs1 => ?_)
        have hP9 := hP.subT (f' := [(m9, .inr (23, mA mr mv vf xl (nI zs) 0 xa (nI T) (nI (pp + 1)) xi xt xn (nI ns) (nI vv) (nI bb))), (mr 5, .inl (kI, 3002, .inl fk)), (mr 6, .inl (kI, 3002, .inl fa))]) [1, 2, 0] rfl
        have hD9 := hD.subT (f' := [(m9, .inr (23, mA mr mv vf xl (nI zs) 0 xa (nI T) (nI (pp + 1)) xi xt xn (nI ns) (nI vv) (nI bb))), (mr 5, .inl (kI, 3002, .inl fk)), (mr 6, .inl (kI, 3002, .inl fa))]) [1, 2, 0] (by decide) rfl
        have hK9 := hK.sub (tys' := [(kI, .int)]) [0] rfl
        refine W.widen (k := ((T - pp) + 2)) (n := (5 * (T - pp) + 10)) (by omega) (by omega) ?_
        exact W.aret hx hb hr (Or.inl ⟨_, rfl⟩) (Or.inr ⟨q_1, rfl⟩) (fun tS ht hW => ⟨⟨(), q_1, rfl, trivial, L9, F9, 0, xa, pp + 1, ⟨hx9, hm9_0.1⟩, ⟨_, hm9_0.2⟩, ⟨by omega, by omega⟩, (fun _ => ⟨hm9_0.1, Or.inl ⟨hm9_0.2, Or.inl hk_12, rfl⟩⟩), by rw [ht]; exact ⟨by omega, by omega⟩, by rw [ht]; exact hP9, va_K.moved hW.alike hK9, hD9⟩, hS.F ht⟩) hS.2.2 dX23_written_215
      · have hPc := hP.subF (f' := [(m9, .inr (23, mA mr mv vf xl (nI zs) 0 xa (nI T) (nI pp) xi xt xn (nI ns) (nI vv) (nI bb))), (mr 5, .inl (kI, 3002, .inl fk))]) [2, 3] rfl
        have hDc := hD.subF (f' := [(m9, .inr (23, mA mr mv vf xl (nI zs) 0 xa (nI T) (nI pp) xi xt xn (nI ns) (nI vv) (nI bb))), (mr 5, .inl (kI, 3002, .inl fk))]) [2, 3] (by decide) rfl
        have hKc := hK.sub (tys' := [(kI, .int)]) [0] rfl
        have hFc := va_freeT (wc := [(m9, .inr (23, mA mr mv vf xl (nI zs) 0 xa (nI T) (nI pp) xi xt xn (nI ns) (nI vv) (nI bb))), (mr 5, .inl (kI, 3002, .inl fk))]) hD hS hA [2, 3] rfl
        refine va_calli (va_runV (As := [.int 26]) (rest := []) ⟨hx, hb, hml, hown, hts⟩ (c_risN l dC dI m9 mr mv vf xl xa xi xt xn zs T pp ns vv bb kI fk fa 0 26 H.size hT hp hk_12) (cwV 1 hts g_c_rwr_c_risN_160 rfl rfl rfl (by decide +kernel) ⟨by show 0 + 1 ≤ 3 + 1 * k; omega, by show 8 + (2 + 11) + (0) ≤ 54 + 22 * k; omega⟩) ⟨fun a U g mk q => by obtain ⟨q0, q1, qP, qK, qD⟩ := q; exact ⟨q0, q1, qP, va_K.moved (u := U) (U := U.calling g mk a) (Vm.Alike.refl U.vm) qK, qD⟩, va_recv hKc hPc (ci := 23) (q0 := 0) rfl rfl, fun U hU hW => ⟨rfl, by rw [hU], by rw [hU]; exact hPc, va_K.moved hW.alike hKc, hDc.weaken (fun _ _ _ _ => trivial)⟩⟩ rfl rfl hl.1 rfl (lv_room (Nat.le_of_ble_eq_true rfl)) dX23_written_160 ⟨(show 1 + 0 ≤ ((T - pp) + 2) by omega), (show 5 + 0 ≤ (5 * (T - pp) + 10) by omega)⟩) hS (fun q _ h => hFc q h) hFc (fun r_13 u tS H1 locs ht hvm hw hB hz1 hk1 hS => ?_)
        obtain ⟨hP1, hK1, hD1⟩ := hB
        rw [ht] at hP1
        have hK1 := va_K.moved hvm.symm hK1
        obtain ⟨hP, hD⟩ := va_joinT (wr := [(mr 6, .inl (kI, 3002, .inl fa)), (q_1, .inr (22, [.int (fk pp), .int (nI pp), .int 0, .int (-1), .null]))]) (w1 := [(m9, .inr (23, mA mr mv vf xl (nI zs) 0 xa (nI T) (nI pp) xi xt xn (nI ns) (nI vv) (nI bb))), (mr 5, .inl (kI, 3002, .inl fk))]) hP hD [2, 3] [0, 1] rfl rfl (by decide) (by decide) hk1 hFc hP1 hD1
        have hK := hK.app hK1
        generalize H1 = H at hP hS ⊢
        have hP : va_P (dC, dI) vwCl (([(mr 6, .inl (kI, 3002, .inl fa)), (q_1, .inr (22, [.int (fk pp), .int (nI pp), .int 0, .int (-1), .null])), (m9, .inr (23, mA mr mv vf xl (nI zs) 0 xa (nI T) (nI pp) xi xt xn (nI ns) (nI vv) (nI bb))), (mr 5, .inl (kI, 3002, .inl fk))] : va_W) ++ (sT L F)) H := hP
        have hD : va_D A (([(mr 6, .inl (kI, 3002, .inl fa)), (q_1, .inr (22, [.int (fk pp), .int (nI pp), .int 0, .int (-1), .null])), (m9, .inr (23, mA mr mv vf xl (nI zs) 0 xa (nI T) (nI pp) xi xt xn (nI ns) (nI vv) (nI bb))), (mr 5, .inl (kI, 3002, .inl fk))] : va_W) ++ (sT L F)) := hD
        have hK : va_K (dC, dI) vwCl [(kI, .int), (kI, .int)] s := hK
        have hK := hK.sub (tys' := [(kI, .int)]) [0] rfl
        obtain rfl : r_13 = 0 := hw
        refine lv_if_ne (tgt := 192) hx hb dX23_written_163 (by decide) (fun c_14 => absurd c_14 (by decide)) (fun _ => ?_)
        refine lv_aload_n hx hb dX23_written_166 rfl (lv_at hl 1 rfl) ?_
        refine lv_bipush (v := 27) hx hb dX23_written_167 (by decide) ?_
        by_cases hk_15 : fk pp = 27
        · have hPc := hP.subF (f' := [(m9, .inr (23, mA mr mv vf xl (nI zs) 0 xa (nI T) (nI pp) xi xt xn (nI ns) (nI vv) (nI bb))), (mr 5, .inl (kI, 3002, .inl fk))]) [2, 3] rfl
          have hDc := hD.subF (f' := [(m9, .inr (23, mA mr mv vf xl (nI zs) 0 xa (nI T) (nI pp) xi xt xn (nI ns) (nI vv) (nI bb))), (mr 5, .inl (kI, 3002, .inl fk))]) [2, 3] (by decide) rfl
          have hKc := hK.sub (tys' := [(kI, .int)]) [0] rfl
          have hFc := va_freeT (wc := [(m9, .inr (23, mA mr mv vf xl (nI zs) 0 xa (nI T) (nI pp) xi xt xn (nI ns) (nI vv) (nI bb))), (mr 5, .inl (kI, 3002, .inl fk))]) hD hS hA [2, 3] rfl
          refine va_calli (va_runV (As := [.int 27]) (rest := []) ⟨hx, hb, hml, hown, hts⟩ (c_risY l dC dI m9 mr mv vf xl xa xi xt xn zs T pp ns vv bb kI fk fa 0 27 H.size hT hp hk_15) (cwV 1 hts g_c_rwr_c_risY_169 rfl rfl rfl (by decide +kernel) ⟨by show 0 + 1 ≤ 3 + 1 * k; omega, by show 8 + (2 + 11) + (0) ≤ 54 + 22 * k; omega⟩) ⟨fun a U g mk q => by obtain ⟨q0, q1, qP, qK, qD⟩ := q; exact ⟨q0, q1, qP, va_K.moved (u := U) (U := U.calling g mk a) (Vm.Alike.refl U.vm) qK, qD⟩, va_recv hKc hPc (ci := 23) (q0 := 0) rfl rfl, fun U hU hW => ⟨rfl, by rw [hU], by rw [hU]; exact hPc, va_K.moved hW.alike hKc, hDc.weaken (fun _ _ _ _ => trivial)⟩⟩ rfl rfl hl.1 rfl (lv_room (Nat.le_of_ble_eq_true rfl)) dX23_written_169 ⟨(show 1 + 0 ≤ ((T - pp) + 2) by omega), (show 5 + 0 ≤ (5 * (T - pp) + 10) by omega)⟩) hS (fun q _ h => hFc q h) hFc (fun r_16 u tS H1 locs ht hvm hw hB hz1 hk1 hS => ?_)
          obtain ⟨hP1, hK1, hD1⟩ := hB
          rw [ht] at hP1
          have hK1 := va_K.moved hvm.symm hK1
          obtain ⟨hP, hD⟩ := va_joinT (wr := [(mr 6, .inl (kI, 3002, .inl fa)), (q_1, .inr (22, [.int (fk pp), .int (nI pp), .int 0, .int (-1), .null]))]) (w1 := [(m9, .inr (23, mA mr mv vf xl (nI zs) 0 xa (nI T) (nI pp) xi xt xn (nI ns) (nI vv) (nI bb))), (mr 5, .inl (kI, 3002, .inl fk))]) hP hD [2, 3] [0, 1] rfl rfl (by decide) (by decide) hk1 hFc hP1 hD1
          have hK := hK.app hK1
          generalize H1 = H at hP hS ⊢
          have hP : va_P (dC, dI) vwCl (([(mr 6, .inl (kI, 3002, .inl fa)), (q_1, .inr (22, [.int (fk pp), .int (nI pp), .int 0, .int (-1), .null])), (m9, .inr (23, mA mr mv vf xl (nI zs) 0 xa (nI T) (nI pp) xi xt xn (nI ns) (nI vv) (nI bb))), (mr 5, .inl (kI, 3002, .inl fk))] : va_W) ++ (sT L F)) H := hP
          have hD : va_D A (([(mr 6, .inl (kI, 3002, .inl fa)), (q_1, .inr (22, [.int (fk pp), .int (nI pp), .int 0, .int (-1), .null])), (m9, .inr (23, mA mr mv vf xl (nI zs) 0 xa (nI T) (nI pp) xi xt xn (nI ns) (nI vv) (nI bb))), (mr 5, .inl (kI, 3002, .inl fk))] : va_W) ++ (sT L F)) := hD
          have hK : va_K (dC, dI) vwCl [(kI, .int), (kI, .int)] s := hK
          have hK := hK.sub (tys' := [(kI, .int)]) [0] rfl
          obtain rfl : r_16 = 1 := hw
          refine lv_if_ne (tgt := 192) hx hb dX23_written_172 (by decide) (fun _ => ?_) (fun c_17 => absurd c_17 (by decide))
          refine lv_aload_n hx hb dX23_written_192 rfl (lv_at hl 1 rfl) ?_
          refine lv_dup hx hb dX23_written_193 rfl ?_
          refine va_get (D := (dC, dI)) (ci := 23) (v := .int (nI pp)) (C := RX23) (T := TX23) (N := 89) hx hb hts in_c_rwr_X23 hown hK hP 2 rfl rfl 10 (by decide) (hts (.fieldLink RX23 86 "OwnedPlacesModel" "p" "I") (wm_c_rwr 16 rfl)) (fun _ h9 => h9) rfl dX23_written_194 ?_
          refine lv_iconst (v := 1) hx hb dX23_written_197 (by decide) ?_
          refine lv_iadd hx hb dX23_written_198 ?_
          refine lv_topi (fun f_18 ef_18 => ?_)
          obtain rfl : f_18 = nI (pp + 1) := ef_18.trans (nI_1 _)
          refine va_put (D := (dC, dI)) (ci := 23) (v := .int (nI (pp + 1))) (ty := .int) (C := RX23) (T := TX23) (N := 89) hx hb hts in_c_rwr_X23 tyX23 tyX23_ok nmX23 hown hK hP hD hS 2 rfl rfl 10 (by decide) (hts (.fieldLink RX23 86 "OwnedPlacesModel" "p" "I") (wm_c_rwr 16 rfl)) (fun _ h9 => h9) rfl (by decide +kernel) rfl rfl (Nat.le_of_ble_eq_true rfl) dX23_written_199 (fun H locs hP hD hS => ?_)
          have hP : va_P (dC, dI) vwCl (([(mr 6, .inl (kI, 3002, .inl fa)), (q_1, .inr (22, [.int (fk pp), .int (nI pp), .int 0, .int (-1), .null])), (m9, .inr (23, mA mr mv vf xl (nI zs) 0 xa (nI T) (nI (pp + 1)) xi xt xn (nI ns) (nI vv) (nI bb))), (mr 5, .inl (kI, 3002, .inl fk))] : va_W) ++ (sT L F)) H := hP
          have hD : va_D A (([(mr 6, .inl (kI, 3002, .inl fa)), (q_1, .inr (22, [.int (fk pp), .int (nI pp), .int 0, .int (-1), .null])), (m9, .inr (23, mA mr mv vf xl (nI zs) 0 xa (nI T) (nI (pp + 1)) xi xt xn (nI ns) (nI vv) (nI bb))), (mr 5, .inl (kI, 3002, .inl fk))] : va_W) ++ (sT L F)) := hD
          have hp_19 : pp + 1 < T := kne3 hk0 hp hk_15 (by decide)
          refine lv_goto (tgt := 214) hx hb dX23_written_202 (by decide) ?_
          refine lv_aload_n hx hb dX23_written_214 rfl (lv_at hl 0 rfl) ?_
          have hP : va_P (dC, dI) vwCl ((([(mr 6, .inl (kI, 3002, .inl fa)), (m9, .inr (23, mA mr mv vf xl (nI zs) 0 xa (nI T) (nI (pp + 1)) xi xt xn (nI ns) (nI vv) (nI bb))), (mr 5, .inl (kI, 3002, .inl fk))] : va_W) ++ ([(q_1, .inr (22, [.int (fk pp), .int (nI pp), .int 0, .int (-1), .null]))] : va_W)) ++ sT L F) H := hP.subT (f' := [(mr 6, .inl (kI, 3002, .inl fa)), (m9, .inr (23, mA mr mv vf xl (nI zs) 0 xa (nI T) (nI (pp + 1)) xi xt xn (nI ns) (nI vv) (nI bb))), (mr 5, .inl (kI, 3002, .inl fk)), (q_1, .inr (22, [.int (fk pp), .int (nI pp), .int 0, .int (-1), .null]))]) [0, 2, 3, 1] rfl
          have hD : va_D A ((([(mr 6, .inl (kI, 3002, .inl fa)), (m9, .inr (23, mA mr mv vf xl (nI zs) 0 xa (nI T) (nI (pp + 1)) xi xt xn (nI ns) (nI vv) (nI bb))), (mr 5, .inl (kI, 3002, .inl fk))] : va_W) ++ ([(q_1, .inr (22, [.int (fk pp), .int (nI pp), .int 0, .int (-1), .null]))] : va_W)) ++ sT L F) := hD.subT (f' := [(mr 6, .inl (kI, 3002, .inl fa)), (m9, .inr (23, mA mr mv vf xl (nI zs) 0 xa (nI T) (nI (pp + 1)) xi xt xn (nI ns) (nI vv) (nI bb))), (mr 5, .inl (kI, 3002, .inl fk)), (q_1, .inr (22, [.int (fk pp), .int (nI pp), .int 0, .int (-1), .null]))]) [0, 2, 3, 1] (by decide) rfl
          obtain ⟨L9, F9, hx9, hm9, hP, hD⟩ := st_fileL [(q_1, .inr (22, [.int (fk pp), .int (nI pp), .int 0, .int (-1), .null]))] hP hD
          have hm9_0 := hm9 _ (List.mem_of_getElem? (i := 0) rfl)
          refine W.grow (fun hgs0 hgs1 => ?_)
          have hP9 := hP.subT (f' := [(m9, .inr (23, mA mr mv vf xl (nI zs) 0 xa (nI T) (nI (pp + 1)) xi xt xn (nI ns) (nI vv) (nI bb))), (mr 5, .inl (kI, 3002, .inl fk)), (mr 6, .inl (kI, 3002, .inl fa))]) [1, 2, 0] rfl
          have hD9 := hD.subT (f' := [(m9, .inr (23, mA mr mv vf xl (nI zs) 0 xa (nI T) (nI (pp + 1)) xi xt xn (nI ns) (nI vv) (nI bb))), (mr 5, .inl (kI, 3002, .inl fk)), (mr 6, .inl (kI, 3002, .inl fa))]) [1, 2, 0] (by decide) rfl
          have hK9 := hK.sub (tys' := [(kI, .int)]) [0] rfl
          refine W.widen (k := ((T - pp) + 2)) (n := (5 * (T - pp) + 10)) (by omega) (by omega) ?_
          exact W.aret hx hb hr (Or.inl ⟨_, rfl⟩) (Or.inr ⟨q_1, rfl⟩) (fun tS ht hW => ⟨⟨(), q_1, rfl, trivial, L9, F9, 0, xa, pp + 1, ⟨hx9, hm9_0.1⟩, ⟨_, hm9_0.2⟩, ⟨by omega, by omega⟩, (fun _ => ⟨hm9_0.1, Or.inl ⟨hm9_0.2, Or.inr (Or.inl hk_15), rfl⟩⟩), by rw [ht]; exact ⟨by omega, by omega⟩, by rw [ht]; exact hP9, va_K.moved hW.alike hK9, hD9⟩, hS.F ht⟩) hS.2.2 dX23_written_215
        · have hPc := hP.subF (f' := [(m9, .inr (23, mA mr mv vf xl (nI zs) 0 xa (nI T) (nI pp) xi xt xn (nI ns) (nI vv) (nI bb))), (mr 5, .inl (kI, 3002, .inl fk))]) [2, 3] rfl
          have hDc := hD.subF (f' := [(m9, .inr (23, mA mr mv vf xl (nI zs) 0 xa (nI T) (nI pp) xi xt xn (nI ns) (nI vv) (nI bb))), (mr 5, .inl (kI, 3002, .inl fk))]) [2, 3] (by decide) rfl
          have hKc := hK.sub (tys' := [(kI, .int)]) [0] rfl
          have hFc := va_freeT (wc := [(m9, .inr (23, mA mr mv vf xl (nI zs) 0 xa (nI T) (nI pp) xi xt xn (nI ns) (nI vv) (nI bb))), (mr 5, .inl (kI, 3002, .inl fk))]) hD hS hA [2, 3] rfl
          refine va_calli (va_runV (As := [.int 27]) (rest := []) ⟨hx, hb, hml, hown, hts⟩ (c_risN l dC dI m9 mr mv vf xl xa xi xt xn zs T pp ns vv bb kI fk fa 0 27 H.size hT hp hk_15) (cwV 1 hts g_c_rwr_c_risN_169 rfl rfl rfl (by decide +kernel) ⟨by show 0 + 1 ≤ 3 + 1 * k; omega, by show 8 + (2 + 11) + (0) ≤ 54 + 22 * k; omega⟩) ⟨fun a U g mk q => by obtain ⟨q0, q1, qP, qK, qD⟩ := q; exact ⟨q0, q1, qP, va_K.moved (u := U) (U := U.calling g mk a) (Vm.Alike.refl U.vm) qK, qD⟩, va_recv hKc hPc (ci := 23) (q0 := 0) rfl rfl, fun U hU hW => ⟨rfl, by rw [hU], by rw [hU]; exact hPc, va_K.moved hW.alike hKc, hDc.weaken (fun _ _ _ _ => trivial)⟩⟩ rfl rfl hl.1 rfl (lv_room (Nat.le_of_ble_eq_true rfl)) dX23_written_169 ⟨(show 1 + 0 ≤ ((T - pp) + 2) by omega), (show 5 + 0 ≤ (5 * (T - pp) + 10) by omega)⟩) hS (fun q _ h => hFc q h) hFc (fun r_16 u tS H1 locs ht hvm hw hB hz1 hk1 hS => ?_)
          obtain ⟨hP1, hK1, hD1⟩ := hB
          rw [ht] at hP1
          have hK1 := va_K.moved hvm.symm hK1
          obtain ⟨hP, hD⟩ := va_joinT (wr := [(mr 6, .inl (kI, 3002, .inl fa)), (q_1, .inr (22, [.int (fk pp), .int (nI pp), .int 0, .int (-1), .null]))]) (w1 := [(m9, .inr (23, mA mr mv vf xl (nI zs) 0 xa (nI T) (nI pp) xi xt xn (nI ns) (nI vv) (nI bb))), (mr 5, .inl (kI, 3002, .inl fk))]) hP hD [2, 3] [0, 1] rfl rfl (by decide) (by decide) hk1 hFc hP1 hD1
          have hK := hK.app hK1
          generalize H1 = H at hP hS ⊢
          have hP : va_P (dC, dI) vwCl (([(mr 6, .inl (kI, 3002, .inl fa)), (q_1, .inr (22, [.int (fk pp), .int (nI pp), .int 0, .int (-1), .null])), (m9, .inr (23, mA mr mv vf xl (nI zs) 0 xa (nI T) (nI pp) xi xt xn (nI ns) (nI vv) (nI bb))), (mr 5, .inl (kI, 3002, .inl fk))] : va_W) ++ (sT L F)) H := hP
          have hD : va_D A (([(mr 6, .inl (kI, 3002, .inl fa)), (q_1, .inr (22, [.int (fk pp), .int (nI pp), .int 0, .int (-1), .null])), (m9, .inr (23, mA mr mv vf xl (nI zs) 0 xa (nI T) (nI pp) xi xt xn (nI ns) (nI vv) (nI bb))), (mr 5, .inl (kI, 3002, .inl fk))] : va_W) ++ (sT L F)) := hD
          have hK : va_K (dC, dI) vwCl [(kI, .int), (kI, .int)] s := hK
          have hK := hK.sub (tys' := [(kI, .int)]) [0] rfl
          obtain rfl : r_16 = 0 := hw
          refine lv_if_ne (tgt := 192) hx hb dX23_written_172 (by decide) (fun c_17 => absurd c_17 (by decide)) (fun _ => ?_)
          refine lv_aload_n hx hb dX23_written_175 rfl (lv_at hl 1 rfl) ?_
          refine lv_bipush (v := 25) hx hb dX23_written_176 (by decide) ?_
          by_cases hk_18 : fk pp = 25
          · have hPc := hP.subF (f' := [(m9, .inr (23, mA mr mv vf xl (nI zs) 0 xa (nI T) (nI pp) xi xt xn (nI ns) (nI vv) (nI bb))), (mr 5, .inl (kI, 3002, .inl fk))]) [2, 3] rfl
            have hDc := hD.subF (f' := [(m9, .inr (23, mA mr mv vf xl (nI zs) 0 xa (nI T) (nI pp) xi xt xn (nI ns) (nI vv) (nI bb))), (mr 5, .inl (kI, 3002, .inl fk))]) [2, 3] (by decide) rfl
            have hKc := hK.sub (tys' := [(kI, .int)]) [0] rfl
            have hFc := va_freeT (wc := [(m9, .inr (23, mA mr mv vf xl (nI zs) 0 xa (nI T) (nI pp) xi xt xn (nI ns) (nI vv) (nI bb))), (mr 5, .inl (kI, 3002, .inl fk))]) hD hS hA [2, 3] rfl
            refine va_calli (va_runV (As := [.int 25]) (rest := []) ⟨hx, hb, hml, hown, hts⟩ (c_risY l dC dI m9 mr mv vf xl xa xi xt xn zs T pp ns vv bb kI fk fa 0 25 H.size hT hp hk_18) (cwV 1 hts g_c_rwr_c_risY_178 rfl rfl rfl (by decide +kernel) ⟨by show 0 + 1 ≤ 3 + 1 * k; omega, by show 8 + (2 + 11) + (0) ≤ 54 + 22 * k; omega⟩) ⟨fun a U g mk q => by obtain ⟨q0, q1, qP, qK, qD⟩ := q; exact ⟨q0, q1, qP, va_K.moved (u := U) (U := U.calling g mk a) (Vm.Alike.refl U.vm) qK, qD⟩, va_recv hKc hPc (ci := 23) (q0 := 0) rfl rfl, fun U hU hW => ⟨rfl, by rw [hU], by rw [hU]; exact hPc, va_K.moved hW.alike hKc, hDc.weaken (fun _ _ _ _ => trivial)⟩⟩ rfl rfl hl.1 rfl (lv_room (Nat.le_of_ble_eq_true rfl)) dX23_written_178 ⟨(show 1 + 0 ≤ ((T - pp) + 2) by omega), (show 5 + 0 ≤ (5 * (T - pp) + 10) by omega)⟩) hS (fun q _ h => hFc q h) hFc (fun r_19 u tS H1 locs ht hvm hw hB hz1 hk1 hS => ?_)
            obtain ⟨hP1, hK1, hD1⟩ := hB
            rw [ht] at hP1
            have hK1 := va_K.moved hvm.symm hK1
            obtain ⟨hP, hD⟩ := va_joinT (wr := [(mr 6, .inl (kI, 3002, .inl fa)), (q_1, .inr (22, [.int (fk pp), .int (nI pp), .int 0, .int (-1), .null]))]) (w1 := [(m9, .inr (23, mA mr mv vf xl (nI zs) 0 xa (nI T) (nI pp) xi xt xn (nI ns) (nI vv) (nI bb))), (mr 5, .inl (kI, 3002, .inl fk))]) hP hD [2, 3] [0, 1] rfl rfl (by decide) (by decide) hk1 hFc hP1 hD1
            have hK := hK.app hK1
            generalize H1 = H at hP hS ⊢
            have hP : va_P (dC, dI) vwCl (([(mr 6, .inl (kI, 3002, .inl fa)), (q_1, .inr (22, [.int (fk pp), .int (nI pp), .int 0, .int (-1), .null])), (m9, .inr (23, mA mr mv vf xl (nI zs) 0 xa (nI T) (nI pp) xi xt xn (nI ns) (nI vv) (nI bb))), (mr 5, .inl (kI, 3002, .inl fk))] : va_W) ++ (sT L F)) H := hP
            have hD : va_D A (([(mr 6, .inl (kI, 3002, .inl fa)), (q_1, .inr (22, [.int (fk pp), .int (nI pp), .int 0, .int (-1), .null])), (m9, .inr (23, mA mr mv vf xl (nI zs) 0 xa (nI T) (nI pp) xi xt xn (nI ns) (nI vv) (nI bb))), (mr 5, .inl (kI, 3002, .inl fk))] : va_W) ++ (sT L F)) := hD
            have hK : va_K (dC, dI) vwCl [(kI, .int), (kI, .int)] s := hK
            have hK := hK.sub (tys' := [(kI, .int)]) [0] rfl
            obtain rfl : r_19 = 1 := hw
            refine lv_if_ne (tgt := 192) hx hb dX23_written_181 (by decide) (fun _ => ?_) (fun c_20 => absurd c_20 (by decide))
            refine lv_aload_n hx hb dX23_written_192 rfl (lv_at hl 1 rfl) ?_
            refine lv_dup hx hb dX23_written_193 rfl ?_
            refine va_get (D := (dC, dI)) (ci := 23) (v := .int (nI pp)) (C := RX23) (T := TX23) (N := 89) hx hb hts in_c_rwr_X23 hown hK hP 2 rfl rfl 10 (by decide) (hts (.fieldLink RX23 86 "OwnedPlacesModel" "p" "I") (wm_c_rwr 16 rfl)) (fun _ h9 => h9) rfl dX23_written_194 ?_
            refine lv_iconst (v := 1) hx hb dX23_written_197 (by decide) ?_
            refine lv_iadd hx hb dX23_written_198 ?_
            refine lv_topi (fun f_21 ef_21 => ?_)
            obtain rfl : f_21 = nI (pp + 1) := ef_21.trans (nI_1 _)
            refine va_put (D := (dC, dI)) (ci := 23) (v := .int (nI (pp + 1))) (ty := .int) (C := RX23) (T := TX23) (N := 89) hx hb hts in_c_rwr_X23 tyX23 tyX23_ok nmX23 hown hK hP hD hS 2 rfl rfl 10 (by decide) (hts (.fieldLink RX23 86 "OwnedPlacesModel" "p" "I") (wm_c_rwr 16 rfl)) (fun _ h9 => h9) rfl (by decide +kernel) rfl rfl (Nat.le_of_ble_eq_true rfl) dX23_written_199 (fun H locs hP hD hS => ?_)
            have hP : va_P (dC, dI) vwCl (([(mr 6, .inl (kI, 3002, .inl fa)), (q_1, .inr (22, [.int (fk pp), .int (nI pp), .int 0, .int (-1), .null])), (m9, .inr (23, mA mr mv vf xl (nI zs) 0 xa (nI T) (nI (pp + 1)) xi xt xn (nI ns) (nI vv) (nI bb))), (mr 5, .inl (kI, 3002, .inl fk))] : va_W) ++ (sT L F)) H := hP
            have hD : va_D A (([(mr 6, .inl (kI, 3002, .inl fa)), (q_1, .inr (22, [.int (fk pp), .int (nI pp), .int 0, .int (-1), .null])), (m9, .inr (23, mA mr mv vf xl (nI zs) 0 xa (nI T) (nI (pp + 1)) xi xt xn (nI ns) (nI vv) (nI bb))), (mr 5, .inl (kI, 3002, .inl fk))] : va_W) ++ (sT L F)) := hD
            have hp_22 : pp + 1 < T := kne3 hk0 hp hk_18 (by decide)
            refine lv_goto (tgt := 214) hx hb dX23_written_202 (by decide) ?_
            refine lv_aload_n hx hb dX23_written_214 rfl (lv_at hl 0 rfl) ?_
            have hP : va_P (dC, dI) vwCl ((([(mr 6, .inl (kI, 3002, .inl fa)), (m9, .inr (23, mA mr mv vf xl (nI zs) 0 xa (nI T) (nI (pp + 1)) xi xt xn (nI ns) (nI vv) (nI bb))), (mr 5, .inl (kI, 3002, .inl fk))] : va_W) ++ ([(q_1, .inr (22, [.int (fk pp), .int (nI pp), .int 0, .int (-1), .null]))] : va_W)) ++ sT L F) H := hP.subT (f' := [(mr 6, .inl (kI, 3002, .inl fa)), (m9, .inr (23, mA mr mv vf xl (nI zs) 0 xa (nI T) (nI (pp + 1)) xi xt xn (nI ns) (nI vv) (nI bb))), (mr 5, .inl (kI, 3002, .inl fk)), (q_1, .inr (22, [.int (fk pp), .int (nI pp), .int 0, .int (-1), .null]))]) [0, 2, 3, 1] rfl
            have hD : va_D A ((([(mr 6, .inl (kI, 3002, .inl fa)), (m9, .inr (23, mA mr mv vf xl (nI zs) 0 xa (nI T) (nI (pp + 1)) xi xt xn (nI ns) (nI vv) (nI bb))), (mr 5, .inl (kI, 3002, .inl fk))] : va_W) ++ ([(q_1, .inr (22, [.int (fk pp), .int (nI pp), .int 0, .int (-1), .null]))] : va_W)) ++ sT L F) := hD.subT (f' := [(mr 6, .inl (kI, 3002, .inl fa)), (m9, .inr (23, mA mr mv vf xl (nI zs) 0 xa (nI T) (nI (pp + 1)) xi xt xn (nI ns) (nI vv) (nI bb))), (mr 5, .inl (kI, 3002, .inl fk)), (q_1, .inr (22, [.int (fk pp), .int (nI pp), .int 0, .int (-1), .null]))]) [0, 2, 3, 1] (by decide) rfl
            obtain ⟨L9, F9, hx9, hm9, hP, hD⟩ := st_fileL [(q_1, .inr (22, [.int (fk pp), .int (nI pp), .int 0, .int (-1), .null]))] hP hD
            have hm9_0 := hm9 _ (List.mem_of_getElem? (i := 0) rfl)
            refine W.grow (fun hgs0 hgs1 => ?_)
            have hP9 := hP.subT (f' := [(m9, .inr (23, mA mr mv vf xl (nI zs) 0 xa (nI T) (nI (pp + 1)) xi xt xn (nI ns) (nI vv) (nI bb))), (mr 5, .inl (kI, 3002, .inl fk)), (mr 6, .inl (kI, 3002, .inl fa))]) [1, 2, 0] rfl
            have hD9 := hD.subT (f' := [(m9, .inr (23, mA mr mv vf xl (nI zs) 0 xa (nI T) (nI (pp + 1)) xi xt xn (nI ns) (nI vv) (nI bb))), (mr 5, .inl (kI, 3002, .inl fk)), (mr 6, .inl (kI, 3002, .inl fa))]) [1, 2, 0] (by decide) rfl
            have hK9 := hK.sub (tys' := [(kI, .int)]) [0] rfl
            refine W.widen (k := ((T - pp) + 2)) (n := (5 * (T - pp) + 10)) (by omega) (by omega) ?_
            exact W.aret hx hb hr (Or.inl ⟨_, rfl⟩) (Or.inr ⟨q_1, rfl⟩) (fun tS ht hW => ⟨⟨(), q_1, rfl, trivial, L9, F9, 0, xa, pp + 1, ⟨hx9, hm9_0.1⟩, ⟨_, hm9_0.2⟩, ⟨by omega, by omega⟩, (fun _ => ⟨hm9_0.1, Or.inl ⟨hm9_0.2, Or.inr (Or.inr (Or.inl hk_18)), rfl⟩⟩), by rw [ht]; exact ⟨by omega, by omega⟩, by rw [ht]; exact hP9, va_K.moved hW.alike hK9, hD9⟩, hS.F ht⟩) hS.2.2 dX23_written_215
          · have hPc := hP.subF (f' := [(m9, .inr (23, mA mr mv vf xl (nI zs) 0 xa (nI T) (nI pp) xi xt xn (nI ns) (nI vv) (nI bb))), (mr 5, .inl (kI, 3002, .inl fk))]) [2, 3] rfl
            have hDc := hD.subF (f' := [(m9, .inr (23, mA mr mv vf xl (nI zs) 0 xa (nI T) (nI pp) xi xt xn (nI ns) (nI vv) (nI bb))), (mr 5, .inl (kI, 3002, .inl fk))]) [2, 3] (by decide) rfl
            have hKc := hK.sub (tys' := [(kI, .int)]) [0] rfl
            have hFc := va_freeT (wc := [(m9, .inr (23, mA mr mv vf xl (nI zs) 0 xa (nI T) (nI pp) xi xt xn (nI ns) (nI vv) (nI bb))), (mr 5, .inl (kI, 3002, .inl fk))]) hD hS hA [2, 3] rfl
            refine va_calli (va_runV (As := [.int 25]) (rest := []) ⟨hx, hb, hml, hown, hts⟩ (c_risN l dC dI m9 mr mv vf xl xa xi xt xn zs T pp ns vv bb kI fk fa 0 25 H.size hT hp hk_18) (cwV 1 hts g_c_rwr_c_risN_178 rfl rfl rfl (by decide +kernel) ⟨by show 0 + 1 ≤ 3 + 1 * k; omega, by show 8 + (2 + 11) + (0) ≤ 54 + 22 * k; omega⟩) ⟨fun a U g mk q => by obtain ⟨q0, q1, qP, qK, qD⟩ := q; exact ⟨q0, q1, qP, va_K.moved (u := U) (U := U.calling g mk a) (Vm.Alike.refl U.vm) qK, qD⟩, va_recv hKc hPc (ci := 23) (q0 := 0) rfl rfl, fun U hU hW => ⟨rfl, by rw [hU], by rw [hU]; exact hPc, va_K.moved hW.alike hKc, hDc.weaken (fun _ _ _ _ => trivial)⟩⟩ rfl rfl hl.1 rfl (lv_room (Nat.le_of_ble_eq_true rfl)) dX23_written_178 ⟨(show 1 + 0 ≤ ((T - pp) + 2) by omega), (show 5 + 0 ≤ (5 * (T - pp) + 10) by omega)⟩) hS (fun q _ h => hFc q h) hFc (fun r_19 u tS H1 locs ht hvm hw hB hz1 hk1 hS => ?_)
            obtain ⟨hP1, hK1, hD1⟩ := hB
            rw [ht] at hP1
            have hK1 := va_K.moved hvm.symm hK1
            obtain ⟨hP, hD⟩ := va_joinT (wr := [(mr 6, .inl (kI, 3002, .inl fa)), (q_1, .inr (22, [.int (fk pp), .int (nI pp), .int 0, .int (-1), .null]))]) (w1 := [(m9, .inr (23, mA mr mv vf xl (nI zs) 0 xa (nI T) (nI pp) xi xt xn (nI ns) (nI vv) (nI bb))), (mr 5, .inl (kI, 3002, .inl fk))]) hP hD [2, 3] [0, 1] rfl rfl (by decide) (by decide) hk1 hFc hP1 hD1
            have hK := hK.app hK1
            generalize H1 = H at hP hS ⊢
            have hP : va_P (dC, dI) vwCl (([(mr 6, .inl (kI, 3002, .inl fa)), (q_1, .inr (22, [.int (fk pp), .int (nI pp), .int 0, .int (-1), .null])), (m9, .inr (23, mA mr mv vf xl (nI zs) 0 xa (nI T) (nI pp) xi xt xn (nI ns) (nI vv) (nI bb))), (mr 5, .inl (kI, 3002, .inl fk))] : va_W) ++ (sT L F)) H := hP
            have hD : va_D A (([(mr 6, .inl (kI, 3002, .inl fa)), (q_1, .inr (22, [.int (fk pp), .int (nI pp), .int 0, .int (-1), .null])), (m9, .inr (23, mA mr mv vf xl (nI zs) 0 xa (nI T) (nI pp) xi xt xn (nI ns) (nI vv) (nI bb))), (mr 5, .inl (kI, 3002, .inl fk))] : va_W) ++ (sT L F)) := hD
            have hK : va_K (dC, dI) vwCl [(kI, .int), (kI, .int)] s := hK
            have hK := hK.sub (tys' := [(kI, .int)]) [0] rfl
            obtain rfl : r_19 = 0 := hw
            refine lv_if_ne (tgt := 192) hx hb dX23_written_181 (by decide) (fun c_20 => absurd c_20 (by decide)) (fun _ => ?_)
            refine lv_aload_n hx hb dX23_written_184 rfl (lv_at hl 1 rfl) ?_
            refine lv_iconst (v := 2) hx hb dX23_written_185 (by decide) ?_
            by_cases hk_21 : fk pp = 2
            · have hPc := hP.subF (f' := [(m9, .inr (23, mA mr mv vf xl (nI zs) 0 xa (nI T) (nI pp) xi xt xn (nI ns) (nI vv) (nI bb))), (mr 5, .inl (kI, 3002, .inl fk))]) [2, 3] rfl
              have hDc := hD.subF (f' := [(m9, .inr (23, mA mr mv vf xl (nI zs) 0 xa (nI T) (nI pp) xi xt xn (nI ns) (nI vv) (nI bb))), (mr 5, .inl (kI, 3002, .inl fk))]) [2, 3] (by decide) rfl
              have hKc := hK.sub (tys' := [(kI, .int)]) [0] rfl
              have hFc := va_freeT (wc := [(m9, .inr (23, mA mr mv vf xl (nI zs) 0 xa (nI T) (nI pp) xi xt xn (nI ns) (nI vv) (nI bb))), (mr 5, .inl (kI, 3002, .inl fk))]) hD hS hA [2, 3] rfl
              refine va_calli (va_runV (As := [.int 2]) (rest := []) ⟨hx, hb, hml, hown, hts⟩ (c_risY l dC dI m9 mr mv vf xl xa xi xt xn zs T pp ns vv bb kI fk fa 0 2 H.size hT hp hk_21) (cwV 1 hts g_c_rwr_c_risY_186 rfl rfl rfl (by decide +kernel) ⟨by show 0 + 1 ≤ 3 + 1 * k; omega, by show 8 + (2 + 11) + (0) ≤ 54 + 22 * k; omega⟩) ⟨fun a U g mk q => by obtain ⟨q0, q1, qP, qK, qD⟩ := q; exact ⟨q0, q1, qP, va_K.moved (u := U) (U := U.calling g mk a) (Vm.Alike.refl U.vm) qK, qD⟩, va_recv hKc hPc (ci := 23) (q0 := 0) rfl rfl, fun U hU hW => ⟨rfl, by rw [hU], by rw [hU]; exact hPc, va_K.moved hW.alike hKc, hDc.weaken (fun _ _ _ _ => trivial)⟩⟩ rfl rfl hl.1 rfl (lv_room (Nat.le_of_ble_eq_true rfl)) dX23_written_186 ⟨(show 1 + 0 ≤ ((T - pp) + 2) by omega), (show 5 + 0 ≤ (5 * (T - pp) + 10) by omega)⟩) hS (fun q _ h => hFc q h) hFc (fun r_22 u tS H1 locs ht hvm hw hB hz1 hk1 hS => ?_)
              obtain ⟨hP1, hK1, hD1⟩ := hB
              rw [ht] at hP1
              have hK1 := va_K.moved hvm.symm hK1
              obtain ⟨hP, hD⟩ := va_joinT (wr := [(mr 6, .inl (kI, 3002, .inl fa)), (q_1, .inr (22, [.int (fk pp), .int (nI pp), .int 0, .int (-1), .null]))]) (w1 := [(m9, .inr (23, mA mr mv vf xl (nI zs) 0 xa (nI T) (nI pp) xi xt xn (nI ns) (nI vv) (nI bb))), (mr 5, .inl (kI, 3002, .inl fk))]) hP hD [2, 3] [0, 1] rfl rfl (by decide) (by decide) hk1 hFc hP1 hD1
              have hK := hK.app hK1
              generalize H1 = H at hP hS ⊢
              have hP : va_P (dC, dI) vwCl (([(mr 6, .inl (kI, 3002, .inl fa)), (q_1, .inr (22, [.int (fk pp), .int (nI pp), .int 0, .int (-1), .null])), (m9, .inr (23, mA mr mv vf xl (nI zs) 0 xa (nI T) (nI pp) xi xt xn (nI ns) (nI vv) (nI bb))), (mr 5, .inl (kI, 3002, .inl fk))] : va_W) ++ (sT L F)) H := hP
              have hD : va_D A (([(mr 6, .inl (kI, 3002, .inl fa)), (q_1, .inr (22, [.int (fk pp), .int (nI pp), .int 0, .int (-1), .null])), (m9, .inr (23, mA mr mv vf xl (nI zs) 0 xa (nI T) (nI pp) xi xt xn (nI ns) (nI vv) (nI bb))), (mr 5, .inl (kI, 3002, .inl fk))] : va_W) ++ (sT L F)) := hD
              have hK : va_K (dC, dI) vwCl [(kI, .int), (kI, .int)] s := hK
              have hK := hK.sub (tys' := [(kI, .int)]) [0] rfl
              obtain rfl : r_22 = 1 := hw
              refine lv_if_eq (tgt := 205) hx hb dX23_written_189 (by decide) (fun c_23 => absurd c_23 (by decide)) (fun _ => ?_)
              refine lv_aload_n hx hb dX23_written_192 rfl (lv_at hl 1 rfl) ?_
              refine lv_dup hx hb dX23_written_193 rfl ?_
              refine va_get (D := (dC, dI)) (ci := 23) (v := .int (nI pp)) (C := RX23) (T := TX23) (N := 89) hx hb hts in_c_rwr_X23 hown hK hP 2 rfl rfl 10 (by decide) (hts (.fieldLink RX23 86 "OwnedPlacesModel" "p" "I") (wm_c_rwr 16 rfl)) (fun _ h9 => h9) rfl dX23_written_194 ?_
              refine lv_iconst (v := 1) hx hb dX23_written_197 (by decide) ?_
              refine lv_iadd hx hb dX23_written_198 ?_
              refine lv_topi (fun f_24 ef_24 => ?_)
              obtain rfl : f_24 = nI (pp + 1) := ef_24.trans (nI_1 _)
              refine va_put (D := (dC, dI)) (ci := 23) (v := .int (nI (pp + 1))) (ty := .int) (C := RX23) (T := TX23) (N := 89) hx hb hts in_c_rwr_X23 tyX23 tyX23_ok nmX23 hown hK hP hD hS 2 rfl rfl 10 (by decide) (hts (.fieldLink RX23 86 "OwnedPlacesModel" "p" "I") (wm_c_rwr 16 rfl)) (fun _ h9 => h9) rfl (by decide +kernel) rfl rfl (Nat.le_of_ble_eq_true rfl) dX23_written_199 (fun H locs hP hD hS => ?_)
              have hP : va_P (dC, dI) vwCl (([(mr 6, .inl (kI, 3002, .inl fa)), (q_1, .inr (22, [.int (fk pp), .int (nI pp), .int 0, .int (-1), .null])), (m9, .inr (23, mA mr mv vf xl (nI zs) 0 xa (nI T) (nI (pp + 1)) xi xt xn (nI ns) (nI vv) (nI bb))), (mr 5, .inl (kI, 3002, .inl fk))] : va_W) ++ (sT L F)) H := hP
              have hD : va_D A (([(mr 6, .inl (kI, 3002, .inl fa)), (q_1, .inr (22, [.int (fk pp), .int (nI pp), .int 0, .int (-1), .null])), (m9, .inr (23, mA mr mv vf xl (nI zs) 0 xa (nI T) (nI (pp + 1)) xi xt xn (nI ns) (nI vv) (nI bb))), (mr 5, .inl (kI, 3002, .inl fk))] : va_W) ++ (sT L F)) := hD
              have hp_25 : pp + 1 < T := kne3 hk0 hp hk_21 (by decide)
              refine lv_goto (tgt := 214) hx hb dX23_written_202 (by decide) ?_
              refine lv_aload_n hx hb dX23_written_214 rfl (lv_at hl 0 rfl) ?_
              have hP : va_P (dC, dI) vwCl ((([(mr 6, .inl (kI, 3002, .inl fa)), (m9, .inr (23, mA mr mv vf xl (nI zs) 0 xa (nI T) (nI (pp + 1)) xi xt xn (nI ns) (nI vv) (nI bb))), (mr 5, .inl (kI, 3002, .inl fk))] : va_W) ++ ([(q_1, .inr (22, [.int (fk pp), .int (nI pp), .int 0, .int (-1), .null]))] : va_W)) ++ sT L F) H := hP.subT (f' := [(mr 6, .inl (kI, 3002, .inl fa)), (m9, .inr (23, mA mr mv vf xl (nI zs) 0 xa (nI T) (nI (pp + 1)) xi xt xn (nI ns) (nI vv) (nI bb))), (mr 5, .inl (kI, 3002, .inl fk)), (q_1, .inr (22, [.int (fk pp), .int (nI pp), .int 0, .int (-1), .null]))]) [0, 2, 3, 1] rfl
              have hD : va_D A ((([(mr 6, .inl (kI, 3002, .inl fa)), (m9, .inr (23, mA mr mv vf xl (nI zs) 0 xa (nI T) (nI (pp + 1)) xi xt xn (nI ns) (nI vv) (nI bb))), (mr 5, .inl (kI, 3002, .inl fk))] : va_W) ++ ([(q_1, .inr (22, [.int (fk pp), .int (nI pp), .int 0, .int (-1), .null]))] : va_W)) ++ sT L F) := hD.subT (f' := [(mr 6, .inl (kI, 3002, .inl fa)), (m9, .inr (23, mA mr mv vf xl (nI zs) 0 xa (nI T) (nI (pp + 1)) xi xt xn (nI ns) (nI vv) (nI bb))), (mr 5, .inl (kI, 3002, .inl fk)), (q_1, .inr (22, [.int (fk pp), .int (nI pp), .int 0, .int (-1), .null]))]) [0, 2, 3, 1] (by decide) rfl
              obtain ⟨L9, F9, hx9, hm9, hP, hD⟩ := st_fileL [(q_1, .inr (22, [.int (fk pp), .int (nI pp), .int 0, .int (-1), .null]))] hP hD
              have hm9_0 := hm9 _ (List.mem_of_getElem? (i := 0) rfl)
              refine W.grow (fun hgs0 hgs1 => ?_)
              have hP9 := hP.subT (f' := [(m9, .inr (23, mA mr mv vf xl (nI zs) 0 xa (nI T) (nI (pp + 1)) xi xt xn (nI ns) (nI vv) (nI bb))), (mr 5, .inl (kI, 3002, .inl fk)), (mr 6, .inl (kI, 3002, .inl fa))]) [1, 2, 0] rfl
              have hD9 := hD.subT (f' := [(m9, .inr (23, mA mr mv vf xl (nI zs) 0 xa (nI T) (nI (pp + 1)) xi xt xn (nI ns) (nI vv) (nI bb))), (mr 5, .inl (kI, 3002, .inl fk)), (mr 6, .inl (kI, 3002, .inl fa))]) [1, 2, 0] (by decide) rfl
              have hK9 := hK.sub (tys' := [(kI, .int)]) [0] rfl
              refine W.widen (k := ((T - pp) + 2)) (n := (5 * (T - pp) + 10)) (by omega) (by omega) ?_
              exact W.aret hx hb hr (Or.inl ⟨_, rfl⟩) (Or.inr ⟨q_1, rfl⟩) (fun tS ht hW => ⟨⟨(), q_1, rfl, trivial, L9, F9, 0, xa, pp + 1, ⟨hx9, hm9_0.1⟩, ⟨_, hm9_0.2⟩, ⟨by omega, by omega⟩, (fun _ => ⟨hm9_0.1, Or.inl ⟨hm9_0.2, Or.inr (Or.inr (Or.inr hk_21)), rfl⟩⟩), by rw [ht]; exact ⟨by omega, by omega⟩, by rw [ht]; exact hP9, va_K.moved hW.alike hK9, hD9⟩, hS.F ht⟩) hS.2.2 dX23_written_215
            · have hPc := hP.subF (f' := [(m9, .inr (23, mA mr mv vf xl (nI zs) 0 xa (nI T) (nI pp) xi xt xn (nI ns) (nI vv) (nI bb))), (mr 5, .inl (kI, 3002, .inl fk))]) [2, 3] rfl
              have hDc := hD.subF (f' := [(m9, .inr (23, mA mr mv vf xl (nI zs) 0 xa (nI T) (nI pp) xi xt xn (nI ns) (nI vv) (nI bb))), (mr 5, .inl (kI, 3002, .inl fk))]) [2, 3] (by decide) rfl
              have hKc := hK.sub (tys' := [(kI, .int)]) [0] rfl
              have hFc := va_freeT (wc := [(m9, .inr (23, mA mr mv vf xl (nI zs) 0 xa (nI T) (nI pp) xi xt xn (nI ns) (nI vv) (nI bb))), (mr 5, .inl (kI, 3002, .inl fk))]) hD hS hA [2, 3] rfl
              refine va_calli (va_runV (As := [.int 2]) (rest := []) ⟨hx, hb, hml, hown, hts⟩ (c_risN l dC dI m9 mr mv vf xl xa xi xt xn zs T pp ns vv bb kI fk fa 0 2 H.size hT hp hk_21) (cwV 1 hts g_c_rwr_c_risN_186 rfl rfl rfl (by decide +kernel) ⟨by show 0 + 1 ≤ 3 + 1 * k; omega, by show 8 + (2 + 11) + (0) ≤ 54 + 22 * k; omega⟩) ⟨fun a U g mk q => by obtain ⟨q0, q1, qP, qK, qD⟩ := q; exact ⟨q0, q1, qP, va_K.moved (u := U) (U := U.calling g mk a) (Vm.Alike.refl U.vm) qK, qD⟩, va_recv hKc hPc (ci := 23) (q0 := 0) rfl rfl, fun U hU hW => ⟨rfl, by rw [hU], by rw [hU]; exact hPc, va_K.moved hW.alike hKc, hDc.weaken (fun _ _ _ _ => trivial)⟩⟩ rfl rfl hl.1 rfl (lv_room (Nat.le_of_ble_eq_true rfl)) dX23_written_186 ⟨(show 1 + 0 ≤ ((T - pp) + 2) by omega), (show 5 + 0 ≤ (5 * (T - pp) + 10) by omega)⟩) hS (fun q _ h => hFc q h) hFc (fun r_22 u tS H1 locs ht hvm hw hB hz1 hk1 hS => ?_)
              obtain ⟨hP1, hK1, hD1⟩ := hB
              rw [ht] at hP1
              have hK1 := va_K.moved hvm.symm hK1
              obtain ⟨hP, hD⟩ := va_joinT (wr := [(mr 6, .inl (kI, 3002, .inl fa)), (q_1, .inr (22, [.int (fk pp), .int (nI pp), .int 0, .int (-1), .null]))]) (w1 := [(m9, .inr (23, mA mr mv vf xl (nI zs) 0 xa (nI T) (nI pp) xi xt xn (nI ns) (nI vv) (nI bb))), (mr 5, .inl (kI, 3002, .inl fk))]) hP hD [2, 3] [0, 1] rfl rfl (by decide) (by decide) hk1 hFc hP1 hD1
              have hK := hK.app hK1
              generalize H1 = H at hP hS ⊢
              have hP : va_P (dC, dI) vwCl (([(mr 6, .inl (kI, 3002, .inl fa)), (q_1, .inr (22, [.int (fk pp), .int (nI pp), .int 0, .int (-1), .null])), (m9, .inr (23, mA mr mv vf xl (nI zs) 0 xa (nI T) (nI pp) xi xt xn (nI ns) (nI vv) (nI bb))), (mr 5, .inl (kI, 3002, .inl fk))] : va_W) ++ (sT L F)) H := hP
              have hD : va_D A (([(mr 6, .inl (kI, 3002, .inl fa)), (q_1, .inr (22, [.int (fk pp), .int (nI pp), .int 0, .int (-1), .null])), (m9, .inr (23, mA mr mv vf xl (nI zs) 0 xa (nI T) (nI pp) xi xt xn (nI ns) (nI vv) (nI bb))), (mr 5, .inl (kI, 3002, .inl fk))] : va_W) ++ (sT L F)) := hD
              have hK : va_K (dC, dI) vwCl [(kI, .int), (kI, .int)] s := hK
              have hK := hK.sub (tys' := [(kI, .int)]) [0] rfl
              obtain rfl : r_22 = 0 := hw
              refine lv_if_eq (tgt := 205) hx hb dX23_written_189 (by decide) (fun _ => ?_) (fun c_23 => absurd (by decide) c_23)
              refine lv_aload_n hx hb dX23_written_205 rfl (lv_at hl 1 rfl) ?_
              refine lv_iconst (v := 1) hx hb dX23_written_206 (by decide) ?_
              refine lv_aload_n hx hb dX23_written_207 rfl (lv_at hl 1 rfl) ?_
              refine va_get (D := (dC, dI)) (ci := 23) (v := .int (nI pp)) (C := RX23) (T := TX23) (N := 89) hx hb hts in_c_rwr_X23 hown hK hP 2 rfl rfl 10 (by decide) (hts (.fieldLink RX23 86 "OwnedPlacesModel" "p" "I") (wm_c_rwr 16 rfl)) (fun _ h9 => h9) rfl dX23_written_208 ?_
              have hPc := hP.subF (f' := [(m9, .inr (23, mA mr mv vf xl (nI zs) 0 xa (nI T) (nI pp) xi xt xn (nI ns) (nI vv) (nI bb))), (mr 6, .inl (kI, 3002, .inl fa))]) [2, 0] rfl
              have hDc := hD.subF (f' := [(m9, .inr (23, mA mr mv vf xl (nI zs) 0 xa (nI T) (nI pp) xi xt xn (nI ns) (nI vv) (nI bb))), (mr 6, .inl (kI, 3002, .inl fa))]) [2, 0] (by decide) rfl
              have hKc := hK.sub (tys' := [(kI, .int)]) [0] rfl
              have hFc := va_freeT (wc := [(m9, .inr (23, mA mr mv vf xl (nI zs) 0 xa (nI T) (nI pp) xi xt xn (nI ns) (nI vv) (nI bb))), (mr 6, .inl (kI, 3002, .inl fa))]) hD hS hA [2, 0] rfl
              refine va_callv (va_runV (As := [.int 1, .int (nI pp)]) (rest := []) ⟨hx, hb, hml, hown, hts⟩ (c_rfa0 l dC dI m9 mr mv vf xl xa xi xt xn zs T pp ns vv bb kI fk fa 1 pp H.size (by omega)) (cwV 2 hts g_c_rwr_c_rfa0_211 rfl rfl rfl (by decide +kernel) ⟨by show 0 + 1 ≤ 3 + 1 * k; omega, by show 8 + (3 + 11) + (0) ≤ 54 + 22 * k; omega⟩) ⟨fun a U g mk q => by obtain ⟨q0, q1, qP, qK, qD⟩ := q; exact ⟨q0, q1, qP, va_K.moved (u := U) (U := U.calling g mk a) (Vm.Alike.refl U.vm) qK, qD⟩, va_recv hKc hPc (ci := 23) (q0 := 0) rfl rfl, fun U hU hW => ⟨rfl, by rw [hU], by rw [hU]; exact hPc, va_K.moved hW.alike hKc, hDc.weaken (fun _ _ _ _ => trivial)⟩⟩ rfl rfl hl.1 rfl (lv_room (Nat.le_of_ble_eq_true rfl)) dX23_written_211 ⟨(show 1 + 0 ≤ ((T - pp) + 2) by omega), (show 5 + 0 ≤ (5 * (T - pp) + 10) by omega)⟩) hS (fun q _ h => hFc q h) hFc (fun u tS H1 locs ht hvm hw hB hz1 hk1 hS => ?_)
              obtain ⟨hP1, hK1, hD1⟩ := hB
              rw [ht] at hP1
              have hK1 := va_K.moved hvm.symm hK1
              obtain ⟨hP, hD⟩ := va_joinT (wr := [(q_1, .inr (22, [.int (fk pp), .int (nI pp), .int 0, .int (-1), .null])), (mr 5, .inl (kI, 3002, .inl fk))]) (w1 := [(m9, .inr (23, mA mr mv vf xl (nI zs) 1 (fa pp) (nI T) (nI pp) xi xt xn (nI ns) (nI vv) (nI bb))), (mr 6, .inl (kI, 3002, .inl fa))]) hP hD [2, 0] [1, 3] rfl rfl (by decide) (by decide) hk1 hFc hP1 hD1
              have hK := hK.app hK1
              generalize H1 = H at hP hS ⊢
              have hP : va_P (dC, dI) vwCl (([(q_1, .inr (22, [.int (fk pp), .int (nI pp), .int 0, .int (-1), .null])), (mr 5, .inl (kI, 3002, .inl fk)), (m9, .inr (23, mA mr mv vf xl (nI zs) 1 (fa pp) (nI T) (nI pp) xi xt xn (nI ns) (nI vv) (nI bb))), (mr 6, .inl (kI, 3002, .inl fa))] : va_W) ++ (sT L F)) H := hP
              have hD : va_D A (([(q_1, .inr (22, [.int (fk pp), .int (nI pp), .int 0, .int (-1), .null])), (mr 5, .inl (kI, 3002, .inl fk)), (m9, .inr (23, mA mr mv vf xl (nI zs) 1 (fa pp) (nI T) (nI pp) xi xt xn (nI ns) (nI vv) (nI bb))), (mr 6, .inl (kI, 3002, .inl fa))] : va_W) ++ (sT L F)) := hD
              have hK : va_K (dC, dI) vwCl [(kI, .int), (kI, .int)] s := hK
              have hK := hK.sub (tys' := [(kI, .int)]) [0] rfl
              obtain ⟨fq24, efq24⟩ : ∃ zZ : Int32, zZ = 1 := ⟨_, rfl⟩
              obtain ⟨fx24, efx24⟩ : ∃ zZ : Int32, zZ = fa pp := ⟨_, rfl⟩
              rw [← efx24] at hP hD
              have hhfq24 : fq24 ≠ 0 := by rw [efq24]; decide
              have hP : va_P (dC, dI) vwCl (([(q_1, .inr (22, [.int (fk pp), .int (nI pp), .int 0, .int (-1), .null])), (mr 5, .inl (kI, 3002, .inl fk)), (m9, .inr (23, mA mr mv vf xl (nI zs) fq24 fx24 (nI T) (nI pp) xi xt xn (nI ns) (nI vv) (nI bb))), (mr 6, .inl (kI, 3002, .inl fa))] : va_W) ++ (sT L F)) H := by rw [efq24]; exact hP
              have hD : va_D A (([(q_1, .inr (22, [.int (fk pp), .int (nI pp), .int 0, .int (-1), .null])), (mr 5, .inl (kI, 3002, .inl fk)), (m9, .inr (23, mA mr mv vf xl (nI zs) fq24 fx24 (nI T) (nI pp) xi xt xn (nI ns) (nI vv) (nI bb))), (mr 6, .inl (kI, 3002, .inl fa))] : va_W) ++ (sT L F)) := by rw [efq24]; exact hD
              clear efq24 efx24
              refine lv_aload_n hx hb dX23_written_214 rfl (lv_at hl 0 rfl) ?_
              have hP : va_P (dC, dI) vwCl ((([(mr 5, .inl (kI, 3002, .inl fk)), (m9, .inr (23, mA mr mv vf xl (nI zs) fq24 fx24 (nI T) (nI pp) xi xt xn (nI ns) (nI vv) (nI bb))), (mr 6, .inl (kI, 3002, .inl fa))] : va_W) ++ ([(q_1, .inr (22, [.int (fk pp), .int (nI pp), .int 0, .int (-1), .null]))] : va_W)) ++ sT L F) H := hP.subT (f' := [(mr 5, .inl (kI, 3002, .inl fk)), (m9, .inr (23, mA mr mv vf xl (nI zs) fq24 fx24 (nI T) (nI pp) xi xt xn (nI ns) (nI vv) (nI bb))), (mr 6, .inl (kI, 3002, .inl fa)), (q_1, .inr (22, [.int (fk pp), .int (nI pp), .int 0, .int (-1), .null]))]) [1, 2, 3, 0] rfl
              have hD : va_D A ((([(mr 5, .inl (kI, 3002, .inl fk)), (m9, .inr (23, mA mr mv vf xl (nI zs) fq24 fx24 (nI T) (nI pp) xi xt xn (nI ns) (nI vv) (nI bb))), (mr 6, .inl (kI, 3002, .inl fa))] : va_W) ++ ([(q_1, .inr (22, [.int (fk pp), .int (nI pp), .int 0, .int (-1), .null]))] : va_W)) ++ sT L F) := hD.subT (f' := [(mr 5, .inl (kI, 3002, .inl fk)), (m9, .inr (23, mA mr mv vf xl (nI zs) fq24 fx24 (nI T) (nI pp) xi xt xn (nI ns) (nI vv) (nI bb))), (mr 6, .inl (kI, 3002, .inl fa)), (q_1, .inr (22, [.int (fk pp), .int (nI pp), .int 0, .int (-1), .null]))]) [1, 2, 3, 0] (by decide) rfl
              obtain ⟨L9, F9, hx9, hm9, hP, hD⟩ := st_fileL [(q_1, .inr (22, [.int (fk pp), .int (nI pp), .int 0, .int (-1), .null]))] hP hD
              have hm9_0 := hm9 _ (List.mem_of_getElem? (i := 0) rfl)
              refine W.grow (fun hgs0 hgs1 => ?_)
              have hP9 := hP.subT (f' := [(m9, .inr (23, mA mr mv vf xl (nI zs) fq24 fx24 (nI T) (nI pp) xi xt xn (nI ns) (nI vv) (nI bb))), (mr 5, .inl (kI, 3002, .inl fk)), (mr 6, .inl (kI, 3002, .inl fa))]) [1, 0, 2] rfl
              have hD9 := hD.subT (f' := [(m9, .inr (23, mA mr mv vf xl (nI zs) fq24 fx24 (nI T) (nI pp) xi xt xn (nI ns) (nI vv) (nI bb))), (mr 5, .inl (kI, 3002, .inl fk)), (mr 6, .inl (kI, 3002, .inl fa))]) [1, 0, 2] (by decide) rfl
              have hK9 := hK.sub (tys' := [(kI, .int)]) [0] rfl
              refine W.widen (k := ((T - pp) + 2)) (n := (5 * (T - pp) + 10)) (by omega) (by omega) ?_
              exact W.aret hx hb hr (Or.inl ⟨_, rfl⟩) (Or.inr ⟨q_1, rfl⟩) (fun tS ht hW => ⟨⟨(), q_1, rfl, trivial, L9, F9, fq24, fx24, pp, ⟨hx9, hm9_0.1⟩, ⟨_, hm9_0.2⟩, ⟨by omega, by omega⟩, (fun q9 => absurd q9 hhfq24), by rw [ht]; exact ⟨by omega, by omega⟩, by rw [ht]; exact hP9, va_K.moved hW.alike hK9, hD9⟩, hS.F ht⟩) hS.2.2 dX23_written_215
theorem all_wr (l : Launch) (dC : Nat → ClassId) (dI : Nat → Nat → Nat) : ∀ k : Nat, IH_wr l dC dI k
  | 0 => c_rwr l dC dI 0 (fun _ h => absurd h (by omega))
  | k + 1 => c_rwr l dC dI (k + 1) (fun k1 h => by obtain rfl : k = k1 := (by omega); exact all_wr l dC dI k)
theorem c_rwrA (l : Launch) (dC : Nat → ClassId) (dI : Nat → Nat → Nat) (k : Nat) : st_c_rwr l dC dI k := c_rwr l dC dI k (fun k1 _ => all_wr l dC dI k1)
