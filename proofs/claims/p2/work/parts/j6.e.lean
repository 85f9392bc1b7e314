def wf_c_tkl : List Cond := [.code yX23_takeLives cX23_takeLives 3 none, .code yX23_ok cX23_ok 1 (some .boolean), .fieldLink RX23 80 "OwnedPlacesModel" "fault" "I", .methodLink RX23 89 yX23_ok, .instanceMethod yX23_ok, .selects RX23 yX23_ok yX23_ok, .initialized RX23, .code yX23_is cX23_is 2 (some .boolean), .fieldLink RX23 25 "OwnedPlacesModel" "tokenKind" "[I", .fieldLink RX23 86 "OwnedPlacesModel" "p" "I", .methodLink RX23 93 yX23_is, .instanceMethod yX23_is, .selects RX23 yX23_is yX23_is, .fieldLink RX23 184 "OwnedPlacesModel$Item" "lives" "I", .code yX23_fail cX23_fail 3 none, .fieldLink RX23 31 "OwnedPlacesModel" "tokenAt" "[I", .fieldLink RX23 83 "OwnedPlacesModel" "faultAt" "I", .methodLink RX23 96 yX23_fail, .instanceMethod yX23_fail, .selects RX23 yX23_fail yX23_fail, .code yX23_take cX23_take 2 none, .methodLink RX23 100 yX23_take, .instanceMethod yX23_take, .selects RX23 yX23_take yX23_take, .code yX23_takes cX23_takes 2 (some .boolean), .methodLink RX23 125 yX23_takes, .instanceMethod yX23_takes, .selects RX23 yX23_takes yX23_takes, .fieldLink RX23 187 "OwnedPlacesModel$Item" "life" "[I"]
def wp_c_tkl : List Cond := wf_c_tkl ++ (wsX230 ++ (wsX160 ++ []))
theorem in_c_tkl_X23 : ∀ w ∈ wsX230, w ∈ wp_c_tkl := fun w h => List.mem_append_right _ (List.mem_append_left _ h)
theorem in_c_tkl_X16 : ∀ w ∈ wsX160, w ∈ wp_c_tkl := fun w h => List.mem_append_right _ (List.mem_append_right _ (List.mem_append_left _ h))
theorem wg_c_tkl : wf_c_tkl.all goodWord = true := by decide +kernel
theorem wm_c_tkl (k : Nat) {w : Cond} (h : wp_c_tkl[k]? = some w) : w ∈ wp_c_tkl := List.mem_of_getElem? h
set_option maxRecDepth 20000 in
theorem g_c_tkl_c_rok0_3 : GoodIn wp_c_tkl (wsV RX23 89 RX23 yX23_ok wp_c_rok0) := goodIn_app (goodIn_f [.methodLink RX23 89 yX23_ok, .instanceMethod yX23_ok, .selects RX23 yX23_ok yX23_ok, .initialized RX23] [3, 4, 5, 6] rfl (by decide +kernel)) (goodIn_app (goodIn_f (wf_c_rok0) [1, 2] rfl wg_c_rok0) (goodIn_app (goodIn_sub in_c_tkl_X23 gd_X23) (goodIn_n)))
set_option maxRecDepth 20000 in
theorem g_c_tkl_c_risY_15 : GoodIn wp_c_tkl (wsV RX23 93 RX23 yX23_is wp_c_risY) := goodIn_app (goodIn_f [.methodLink RX23 93 yX23_is, .instanceMethod yX23_is, .selects RX23 yX23_is yX23_is, .initialized RX23] [10, 11, 12, 6] rfl (by decide +kernel)) (goodIn_app (goodIn_f (wf_c_risY) [7, 8, 9] rfl wg_c_risY) (goodIn_app (goodIn_sub in_c_tkl_X23 gd_X23) (goodIn_n)))
set_option maxRecDepth 20000 in
theorem g_c_tkl_c_risN_15 : GoodIn wp_c_tkl (wsV RX23 93 RX23 yX23_is wp_c_risY) := goodIn_app (goodIn_f [.methodLink RX23 93 yX23_is, .instanceMethod yX23_is, .selects RX23 yX23_is yX23_is, .initialized RX23] [10, 11, 12, 6] rfl (by decide +kernel)) (goodIn_app (goodIn_f (wf_c_risY) [7, 8, 9] rfl wg_c_risY) (goodIn_app (goodIn_sub in_c_tkl_X23 gd_X23) (goodIn_n)))
set_option maxRecDepth 20000 in
theorem g_c_tkl_c_rfa0_36 : GoodIn wp_c_tkl (wsV RX23 96 RX23 yX23_fail wp_c_rfa0) := goodIn_app (goodIn_f [.methodLink RX23 96 yX23_fail, .instanceMethod yX23_fail, .selects RX23 yX23_fail yX23_fail, .initialized RX23] [17, 18, 19, 6] rfl (by decide +kernel)) (goodIn_app (goodIn_f (wf_c_rfa0) [14, 2, 15, 16] rfl wg_c_rfa0) (goodIn_app (goodIn_sub in_c_tkl_X23 gd_X23) (goodIn_n)))
set_option maxRecDepth 20000 in
theorem g_c_tkl_c_rtkB_41 : GoodIn wp_c_tkl (wsV RX23 100 RX23 yX23_take wp_c_rtkY) := goodIn_app (goodIn_f [.methodLink RX23 100 yX23_take, .instanceMethod yX23_take, .selects RX23 yX23_take yX23_take, .initialized RX23] [21, 22, 23, 6] rfl (by decide +kernel)) (goodIn_app (goodIn_f (wf_c_rtkY) [20, 1, 2, 3, 4, 5, 6, 7, 8, 9, 10, 11, 12, 14, 15, 16, 17, 18, 19] rfl wg_c_rtkY) (goodIn_app (goodIn_sub in_c_tkl_X23 gd_X23) (goodIn_n)))
set_option maxRecDepth 20000 in
theorem g_c_tkl_c_rokB_45 : GoodIn wp_c_tkl (wsV RX23 89 RX23 yX23_ok wp_c_rok0) := goodIn_app (goodIn_f [.methodLink RX23 89 yX23_ok, .instanceMethod yX23_ok, .selects RX23 yX23_ok yX23_ok, .initialized RX23] [3, 4, 5, 6] rfl (by decide +kernel)) (goodIn_app (goodIn_f (wf_c_rok0) [1, 2] rfl wg_c_rok0) (goodIn_app (goodIn_sub in_c_tkl_X23 gd_X23) (goodIn_n)))
set_option maxRecDepth 20000 in
theorem g_c_tkl_c_rtsB_79 : GoodIn wp_c_tkl (wsV RX23 125 RX23 yX23_takes wp_c_rtsY) := goodIn_app (goodIn_f [.methodLink RX23 125 yX23_takes, .instanceMethod yX23_takes, .selects RX23 yX23_takes yX23_takes, .initialized RX23] [25, 26, 27, 6] rfl (by decide +kernel)) (goodIn_app (goodIn_f (wf_c_rtsY) [24, 1, 2, 3, 4, 5, 6, 7, 8, 9, 10, 11, 12] rfl wg_c_rtsY) (goodIn_app (goodIn_sub in_c_tkl_X23 gd_X23) (goodIn_n)))
set_option maxRecDepth 20000 in
theorem g_c_tkl_c_rokB_3 : GoodIn wp_c_tkl (wsV RX23 89 RX23 yX23_ok wp_c_rok0) := goodIn_app (goodIn_f [.methodLink RX23 89 yX23_ok, .instanceMethod yX23_ok, .selects RX23 yX23_ok yX23_ok, .initialized RX23] [3, 4, 5, 6] rfl (by decide +kernel)) (goodIn_app (goodIn_f (wf_c_rok0) [1, 2] rfl wg_c_rok0) (goodIn_app (goodIn_sub in_c_tkl_X23 gd_X23) (goodIn_n)))
set_option maxRecDepth 20000 in
theorem g_c_tkl_c_rtkB_89 : GoodIn wp_c_tkl (wsV RX23 100 RX23 yX23_take wp_c_rtkY) := goodIn_app (goodIn_f [.methodLink RX23 100 yX23_take, .instanceMethod yX23_take, .selects RX23 yX23_take yX23_take, .initialized RX23] [21, 22, 23, 6] rfl (by decide +kernel)) (goodIn_app (goodIn_f (wf_c_rtkY) [20, 1, 2, 3, 4, 5, 6, 7, 8, 9, 10, 11, 12, 14, 15, 16, 17, 18, 19] rfl wg_c_rtkY) (goodIn_app (goodIn_sub in_c_tkl_X23 gd_X23) (goodIn_n)))
set_option maxRecDepth 20000 in
theorem g_c_tkl_c_rtkY_41 : GoodIn wp_c_tkl (wsV RX23 100 RX23 yX23_take wp_c_rtkY) := goodIn_app (goodIn_f [.methodLink RX23 100 yX23_take, .instanceMethod yX23_take, .selects RX23 yX23_take yX23_take, .initialized RX23] [21, 22, 23, 6] rfl (by decide +kernel)) (goodIn_app (goodIn_f (wf_c_rtkY) [20, 1, 2, 3, 4, 5, 6, 7, 8, 9, 10, 11, 12, 14, 15, 16, 17, 18, 19] rfl wg_c_rtkY) (goodIn_app (goodIn_sub in_c_tkl_X23 gd_X23) (goodIn_n)))
set_option maxRecDepth 20000 in
theorem g_c_tkl_c_rok0_45 : GoodIn wp_c_tkl (wsV RX23 89 RX23 yX23_ok wp_c_rok0) := goodIn_app (goodIn_f [.methodLink RX23 89 yX23_ok, .instanceMethod yX23_ok, .selects RX23 yX23_ok yX23_ok, .initialized RX23] [3, 4, 5, 6] rfl (by decide +kernel)) (goodIn_app (goodIn_f (wf_c_rok0) [1, 2] rfl wg_c_rok0) (goodIn_app (goodIn_sub in_c_tkl_X23 gd_X23) (goodIn_n)))
set_option maxRecDepth 20000 in
theorem g_c_tkl_c_rtsY_79 : GoodIn wp_c_tkl (wsV RX23 125 RX23 yX23_takes wp_c_rtsY) := goodIn_app (goodIn_f [.methodLink RX23 125 yX23_takes, .instanceMethod yX23_takes, .selects RX23 yX23_takes yX23_takes, .initialized RX23] [25, 26, 27, 6] rfl (by decide +kernel)) (goodIn_app (goodIn_f (wf_c_rtsY) [24, 1, 2, 3, 4, 5, 6, 7, 8, 9, 10, 11, 12] rfl wg_c_rtsY) (goodIn_app (goodIn_sub in_c_tkl_X23 gd_X23) (goodIn_n)))
set_option maxRecDepth 20000 in
theorem g_c_tkl_c_rtsN_79 : GoodIn wp_c_tkl (wsV RX23 125 RX23 yX23_takes wp_c_rtsY) := goodIn_app (goodIn_f [.methodLink RX23 125 yX23_takes, .instanceMethod yX23_takes, .selects RX23 yX23_takes yX23_takes, .initialized RX23] [25, 26, 27, 6] rfl (by decide +kernel)) (goodIn_app (goodIn_f (wf_c_rtsY) [24, 1, 2, 3, 4, 5, 6, 7, 8, 9, 10, 11, 12] rfl wg_c_rtsY) (goodIn_app (goodIn_sub in_c_tkl_X23 gd_X23) (goodIn_n)))
set_option maxRecDepth 20000 in
theorem g_c_tkl_c_rtkY_89 : GoodIn wp_c_tkl (wsV RX23 100 RX23 yX23_take wp_c_rtkY) := goodIn_app (goodIn_f [.methodLink RX23 100 yX23_take, .instanceMethod yX23_take, .selects RX23 yX23_take yX23_take, .initialized RX23] [21, 22, 23, 6] rfl (by decide +kernel)) (goodIn_app (goodIn_f (wf_c_rtkY) [20, 1, 2, 3, 4, 5, 6, 7, 8, 9, 10, 11, 12, 14, 15, 16, 17, 18, 19] rfl wg_c_rtkY) (goodIn_app (goodIn_sub in_c_tkl_X23 gd_X23) (goodIn_n)))
set_option maxRecDepth 20000 in
theorem g_c_tkl_c_rtkN_89 : GoodIn wp_c_tkl (wsV RX23 100 RX23 yX23_take wp_c_rtkY) := goodIn_app (goodIn_f [.methodLink RX23 100 yX23_take, .instanceMethod yX23_take, .selects RX23 yX23_take yX23_take, .initialized RX23] [21, 22, 23, 6] rfl (by decide +kernel)) (goodIn_app (goodIn_f (wf_c_rtkY) [20, 1, 2, 3, 4, 5, 6, 7, 8, 9, 10, 11, 12, 14, 15, 16, 17, 18, 19] rfl wg_c_rtkY) (goodIn_app (goodIn_sub in_c_tkl_X23 gd_X23) (goodIn_n)))
set_option maxRecDepth 20000 in
theorem g_c_tkl_c_rtkN_41 : GoodIn wp_c_tkl (wsV RX23 100 RX23 yX23_take wp_c_rtkY) := goodIn_app (goodIn_f [.methodLink RX23 100 yX23_take, .instanceMethod yX23_take, .selects RX23 yX23_take yX23_take, .initialized RX23] [21, 22, 23, 6] rfl (by decide +kernel)) (goodIn_app (goodIn_f (wf_c_rtkY) [20, 1, 2, 3, 4, 5, 6, 7, 8, 9, 10, 11, 12, 14, 15, 16, 17, 18, 19] rfl wg_c_rtkY) (goodIn_app (goodIn_sub in_c_tkl_X23 gd_X23) (goodIn_n)))
set_option maxHeartbeats 4000000 in
set_option maxRecDepth 100000 in
theorem c_tkl (l : Launch) (dC : Nat → ClassId) (dI : Nat → Nat → Nat) (m9 : Nat) (mr : Nat → Nat) (mv : Nat → Int32) (vf : Value) (xl xa xi xt xn : Int32) (zs T pp ns vv bb : Nat) (kI : ClassId) (fk fa : Nat → Int32) (it lf : Nat) (tx nx kx : Int32) (vn vw vt vo vp : Value) (sz : Nat) (hT : T ≤ 3001) (hp : pp < T) (hk0 : fk (T - 1) = 0) : Met l yX23_takeLives wp_c_tkl ({ frames := 2, cells := 0, slots := 0, locals := 43 }) (va_Pc [.ref m9, .ref it] (fun U => U.heap.size = sz ∧ va_P (dC, dI) vwCl [(it, .inr (16, [.int tx, .int nx, .int kx, .int 0, .int 0, .int 0, .int 0, .int 0, vn, vw, vt, .null, .ref lf, vo, .null, .null, .null, vp, .int 0, .int 0, .int 0, .int 0])), (lf, .inl (kI, 8, .inl (fun _ => 0))), (m9, .inr (23, mA mr mv vf xl (nI zs) 0 xa (nI T) (nI pp) xi xt xn (nI ns) (nI vv) (nI bb))), (mr 5, .inl (kI, 3002, .inl fk)), (mr 6, .inl (kI, 3002, .inl fa))] U.heap ∧ va_K (dC, dI) vwCl [(kI, .int)] U ∧ va_D (fun _ => True) [(it, .inr (16, [.int tx, .int nx, .int kx, .int 0, .int 0, .int 0, .int 0, .int 0, vn, vw, vt, .null, .ref lf, vo, .null, .null, .null, vp, .int 0, .int 0, .int 0, .int 0])), (lf, .inl (kI, 8, .inl (fun _ => 0))), (m9, .inr (23, mA mr mv vf xl (nI zs) 0 xa (nI T) (nI pp) xi xt xn (nI ns) (nI vv) (nI bb))), (mr 5, .inl (kI, 3002, .inl fk)), (mr 6, .inl (kI, 3002, .inl fa))])) (va_Qv (fun _ : Unit => True) (fun (_ : Unit) (tS : State) => ∃ (ff2 : Int32) (xa2 : Int32) (pp2 : Nat) (lv2 : Nat) (g2 : Nat → Int32), (pp ≤ pp2 ∧ pp2 < T) ∧ (ff2 = 0 → pp < pp2 ∧ lv2 ≤ 8 ∧ ∀ i : Nat, i < lv2 → ∃ s9 : Nat, g2 i = nI s9 ∧ pp ≤ s9 ∧ s9 < pp2) ∧ va_P (dC, dI) vwCl [(it, .inr (16, [.int tx, .int nx, .int kx, .int 0, .int 0, .int 0, .int (nI lv2), .int 0, vn, vw, vt, .null, .ref lf, vo, .null, .null, .null, vp, .int 0, .int 0, .int 0, .int 0])), (lf, .inl (kI, 8, .inl g2)), (m9, .inr (23, mA mr mv vf xl (nI zs) ff2 xa2 (nI T) (nI pp2) xi xt xn (nI ns) (nI vv) (nI bb))), (mr 5, .inl (kI, 3002, .inl fk)), (mr 6, .inl (kI, 3002, .inl fa))] tS.heap ∧ va_K (dC, dI) vwCl [(kI, .int)] tS ∧ va_D (va_A [(it, .inr (16, [.int tx, .int nx, .int kx, .int 0, .int 0, .int 0, .int 0, .int 0, vn, vw, vt, .null, .ref lf, vo, .null, .null, .null, vp, .int 0, .int 0, .int 0, .int 0])), (lf, .inl (kI, 8, .inl (fun _ => 0))), (m9, .inr (23, mA mr mv vf xl (nI zs) 0 xa (nI T) (nI pp) xi xt xn (nI ns) (nI vv) (nI bb))), (mr 5, .inl (kI, 3002, .inl fk)), (mr 6, .inl (kI, 3002, .inl fa))] sz) [(it, .inr (16, [.int tx, .int nx, .int kx, .int 0, .int 0, .int 0, .int (nI lv2), .int 0, vn, vw, vt, .null, .ref lf, vo, .null, .null, .null, vp, .int 0, .int 0, .int 0, .int 0])), (lf, .inl (kI, 8, .inl g2)), (m9, .inr (23, mA mr mv vf xl (nI zs) ff2 xa2 (nI T) (nI pp2) xi xt xn (nI ns) (nI vv) (nI bb))), (mr 5, .inl (kI, 3002, .inl fk)), (mr 6, .inl (kI, 3002, .inl fa))]) (va_A [(it, .inr (16, [.int tx, .int nx, .int kx, .int 0, .int 0, .int 0, .int 0, .int 0, vn, vw, vt, .null, .ref lf, vo, .null, .null, .null, vp, .int 0, .int 0, .int 0, .int 0])), (lf, .inl (kI, 8, .inl (fun _ => 0))), (m9, .inr (23, mA mr mv vf xl (nI zs) 0 xa (nI T) (nI pp) xi xt xn (nI ns) (nI vv) (nI bb))), (mr 5, .inl (kI, 3002, .inl fk)), (mr 6, .inl (kI, 3002, .inl fa))] sz)) 0 0 (va_A [(it, .inr (16, [.int tx, .int nx, .int kx, .int 0, .int 0, .int 0, .int 0, .int 0, vn, vw, vt, .null, .ref lf, vo, .null, .null, .null, vp, .int 0, .int 0, .int 0, .int 0])), (lf, .inl (kI, 8, .inl (fun _ => 0))), (m9, .inr (23, mA mr mv vf xl (nI zs) 0 xa (nI T) (nI pp) xi xt xn (nI ns) (nI vv) (nI bb))), (mr 5, .inl (kI, 3002, .inl fk)), (mr 6, .inl (kI, 3002, .inl fa))] sz) := by
  refine Met.ofW (cc := cX23_takeLives) (maxL := 3) (ret := none) (by decide) rfl ?_
  intro p e s m args below meth c s₁ B hml hv
  obtain ⟨rfl, hsz, hP, hK, hD0⟩ := hv
  have hx := B.exec
  have hb := B.bytes
  have hr := B.returns
  have hts := atoms_spec (ws := wp_c_tkl) B.pre
  have hown : s.vm.findClass RX23 = some m.cls := findClass_of_methodNamed B.named
  have hlocks := B.notSynchronized
  subst hsz
  have hD := hD0.self (sz := s.heap.size)
  generalize hAe : va_A [(it, .inr (16, [.int tx, .int nx, .int kx, .int 0, .int 0, .int 0, .int 0, .int 0, vn, vw, vt, .null, .ref lf, vo, .null, .null, .null, vp, .int 0, .int 0, .int 0, .int 0])), (lf, .inl (kI, 8, .inl (fun _ => 0))), (m9, .inr (23, mA mr mv vf xl (nI zs) 0 xa (nI T) (nI pp) xi xt xn (nI ns) (nI vv) (nI bb))), (mr 5, .inl (kI, 3002, .inl fk)), (mr 6, .inl (kI, 3002, .inl fa))] s.heap.size = A at hD ⊢
  have hA : ∀ q : Nat, s.heap.size ≤ q → A q := fun q h => by rw [← hAe]; exact Or.inr h
  have hS : va_S A s.heap s.heap [] := va_S.rf
  have hP : va_P (dC, dI) vwCl [(it, .inr (16, [.int tx, .int nx, .int kx, .int 0, .int 0, .int 0, .int 0, .int 0, vn, vw, vt, .null, .ref lf, vo, .null, .null, .null, vp, .int 0, .int 0, .int 0, .int 0])), (lf, .inl (kI, 8, .inl (fun _ => 0))), (m9, .inr (23, mA mr mv vf xl (nI zs) 0 xa (nI T) (nI pp) xi xt xn (nI ns) (nI vv) (nI bb))), (mr 5, .inl (kI, 3002, .inl fk)), (mr 6, .inl (kI, 3002, .inl fa))] s.heap := hP
  have hl := lv_entry ([.ref m9, .ref it]) (n := 3) (Nat.le_of_ble_eq_true rfl)
  rw [lg_entry_eq]
  generalize (lg_sl ([.ref m9, .ref it]) ++ List.replicate (3 - (lg_sl ([.ref m9, .ref it])).length) Slot.unset).toArray = ls at hl ⊢
  have hl : lv_has ls 3 [(0, .ref m9), (1, .ref it)] := hl
  refine lv_iconst (v := 1) hx hb dX23_takeLives_0 (by decide) ?_
  refine lv_istore_n (lv' := [(2, .int 1), (0, .ref m9), (1, .ref it)]) hx hb dX23_takeLives_1 rfl hl (by decide) rfl (fun ls hl => ?_)
  refine W_q (fun Q1 hQ1 => ?_)
  have key1 : ∀ (n1 : Nat) (pp1 n : Nat) (g : Nat → Int32) (H : Heap) (locs : List Loc) (ls : Array Slot), (T + 1 ≤ pp1 + n1 ∧ pp + n ≤ pp1 ∧ pp1 < T ∧ n ≤ 8 ∧ T ≤ 3001) → (∀ i : Nat, i < n → ∃ s9 : Nat, g i = nI s9 ∧ pp ≤ s9 ∧ s9 < pp1) → va_P (dC, dI) vwCl [(it, .inr (16, [.int tx, .int nx, .int kx, .int 0, .int 0, .int 0, .int (nI n), .int 0, vn, vw, vt, .null, .ref lf, vo, .null, .null, .null, vp, .int 0, .int 0, .int 0, .int 0])), (lf, .inl (kI, 8, .inl g)), (m9, .inr (23, mA mr mv vf xl (nI zs) 0 xa (nI T) (nI pp1) xi xt xn (nI ns) (nI vv) (nI bb))), (mr 5, .inl (kI, 3002, .inl fk)), (mr 6, .inl (kI, 3002, .inl fa))] H → va_D A [(it, .inr (16, [.int tx, .int nx, .int kx, .int 0, .int 0, .int 0, .int (nI n), .int 0, vn, vw, vt, .null, .ref lf, vo, .null, .null, .null, vp, .int 0, .int 0, .int 0, .int 0])), (lf, .inl (kI, 8, .inl g)), (m9, .inr (23, mA mr mv vf xl (nI zs) 0 xa (nI T) (nI pp1) xi xt xn (nI ns) (nI vv) (nI bb))), (mr 5, .inl (kI, 3002, .inl fk)), (mr 6, .inl (kI, 3002, .inl fa))] → va_S A s.heap H locs → lv_has ls 3 [(2, .int 1), (0, .ref m9), (1, .ref it)] → W p l e (headSpec wp_c_tkl ({ frames := 2, cells := 0, slots := 0, locals := 43 })).room s m ([.ref m9, .ref it] : List Value).toArray below meth c H locs 0 0 Q1 (F0 m 2 ls []) := by
    intro n1
    induction n1 with
    | zero => intro pp1 n g H locs ls hr0 hr1; exact absurd hr0 (by omega)
    | succ n1 ih1 =>
      intro pp1 n g H locs ls hr0 hr1 hP hD hS hl
      refine lv_aload_n hx hb dX23_takeLives_2 rfl (lv_at hl 1 rfl) ?_
      have hPc := hP.sub (ws' := [(m9, .inr (23, mA mr mv vf xl (nI zs) 0 xa (nI T) (nI pp1) xi xt xn (nI ns) (nI vv) (nI bb)))]) [2] rfl
      have hDc := hD.sub (ws' := [(m9, .inr (23, mA mr mv vf xl (nI zs) 0 xa (nI T) (nI pp1) xi xt xn (nI ns) (nI vv) (nI bb)))]) [2] (by decide) rfl
      have hKc := hK.sub (tys' := []) [] rfl
      have hFc := va_free (wc := [(m9, .inr (23, mA mr mv vf xl (nI zs) 0 xa (nI T) (nI pp1) xi xt xn (nI ns) (nI vv) (nI bb)))]) hD hS hA [2] rfl
      refine va_calli (va_runV (As := []) (rest := []) ⟨hx, hb, hml, hown, hts⟩ (c_rok0 l dC dI m9 mr mv vf xl xa xi xt xn zs T pp1 ns vv bb kI fk fa H.size) (cwV 0 hts g_c_tkl_c_rok0_3 rfl rfl rfl (by decide +kernel) ⟨Nat.le_of_ble_eq_true rfl, Nat.le_of_ble_eq_true rfl⟩) ⟨fun a U g mk q => by obtain ⟨q0, q1, qP, qK, qD⟩ := q; exact ⟨q0, q1, qP, va_K.moved (u := U) (U := U.calling g mk a) (Vm.Alike.refl U.vm) qK, qD⟩, va_recv hKc hPc (ci := 23) (q0 := 0) rfl rfl, fun U hU hW => ⟨rfl, by rw [hU], by rw [hU]; exact hPc, va_K.moved hW.alike hKc, hDc.weaken (fun _ _ _ _ => trivial)⟩⟩ rfl rfl hl.1 rfl (lv_room (Nat.le_of_ble_eq_true rfl)) dX23_takeLives_3 ⟨(show 0 + 0 ≤ 0 by omega), (show 0 + 0 ≤ 0 by omega)⟩) hS (fun q _ h => hFc q h) hFc (fun r_1 u tS H1 locs ht hvm hw hB hz1 hk1 hS => ?_)
      obtain ⟨hP1, hK1, hD1⟩ := hB
      rw [ht] at hP1
      have hK1 := va_K.moved hvm.symm hK1
      obtain ⟨hP, hD⟩ := va_join (wr := [(it, .inr (16, [.int tx, .int nx, .int kx, .int 0, .int 0, .int 0, .int (nI n), .int 0, vn, vw, vt, .null, .ref lf, vo, .null, .null, .null, vp, .int 0, .int 0, .int 0, .int 0])), (lf, .inl (kI, 8, .inl g)), (mr 5, .inl (kI, 3002, .inl fk)), (mr 6, .inl (kI, 3002, .inl fa))]) (w1 := [(m9, .inr (23, mA mr mv vf xl (nI zs) 0 xa (nI T) (nI pp1) xi xt xn (nI ns) (nI vv) (nI bb)))]) hP hD [2] [0, 1, 3, 4] rfl rfl (by decide) (by decide) hk1 hFc hP1 hD1
      generalize H1 = H at hP hS ⊢
      have hP : va_P (dC, dI) vwCl [(it, .inr (16, [.int tx, .int nx, .int kx, .int 0, .int 0, .int 0, .int (nI n), .int 0, vn, vw, vt, .null, .ref lf, vo, .null, .null, .null, vp, .int 0, .int 0, .int 0, .int 0])), (lf, .inl (kI, 8, .inl g)), (mr 5, .inl (kI, 3002, .inl fk)), (mr 6, .inl (kI, 3002, .inl fa)), (m9, .inr (23, mA mr mv vf xl (nI zs) 0 xa (nI T) (nI pp1) xi xt xn (nI ns) (nI vv) (nI bb)))] H := hP
      have hD : va_D A [(it, .inr (16, [.int tx, .int nx, .int kx, .int 0, .int 0, .int 0, .int (nI n), .int 0, vn, vw, vt, .null, .ref lf, vo, .null, .null, .null, vp, .int 0, .int 0, .int 0, .int 0])), (lf, .inl (kI, 8, .inl g)), (mr 5, .inl (kI, 3002, .inl fk)), (mr 6, .inl (kI, 3002, .inl fa)), (m9, .inr (23, mA mr mv vf xl (nI zs) 0 xa (nI T) (nI pp1) xi xt xn (nI ns) (nI vv) (nI bb)))] := hD
      have hK : va_K (dC, dI) vwCl [(kI, .int)] s := hK
      clear hz1 hk1 hPc hDc hKc hFc hP1 hD1 hK1
      obtain rfl : r_1 = 1 := hw
      refine lv_if_eq (tgt := 86) hx hb dX23_takeLives_6 (by decide) (fun c_2 => absurd c_2 (by decide)) (fun _ => ?_)
      refine lv_iload_n hx hb dX23_takeLives_9 rfl (lv_at hl 0 rfl) ?_
      refine lv_if_eq (tgt := 86) hx hb dX23_takeLives_10 (by decide) (fun c_3 => absurd c_3 (by decide)) (fun _ => ?_)
      refine lv_aload_n hx hb dX23_takeLives_13 rfl (lv_at hl 1 rfl) ?_
      refine lv_iconst (v := 4) hx hb dX23_takeLives_14 (by decide) ?_
      by_cases hk_4 : fk pp1 = 4
      · have hPc := hP.sub (ws' := [(m9, .inr (23, mA mr mv vf xl (nI zs) 0 xa (nI T) (nI pp1) xi xt xn (nI ns) (nI vv) (nI bb))), (mr 5, .inl (kI, 3002, .inl fk))]) [4, 2] rfl
        have hDc := hD.sub (ws' := [(m9, .inr (23, mA mr mv vf xl (nI zs) 0 xa (nI T) (nI pp1) xi xt xn (nI ns) (nI vv) (nI bb))), (mr 5, .inl (kI, 3002, .inl fk))]) [4, 2] (by decide) rfl
        have hKc := hK.sub (tys' := [(kI, .int)]) [0] rfl
        have hFc := va_free (wc := [(m9, .inr (23, mA mr mv vf xl (nI zs) 0 xa (nI T) (nI pp1) xi xt xn (nI ns) (nI vv) (nI bb))), (mr 5, .inl (kI, 3002, .inl fk))]) hD hS hA [4, 2] rfl
        refine va_calli (va_runV (As := [.int 4]) (rest := []) ⟨hx, hb, hml, hown, hts⟩ (c_risY l dC dI m9 mr mv vf xl xa xi xt xn zs T pp1 ns vv bb kI fk fa 0 4 H.size hT hr0.2.2.1 hk_4) (cwV 1 hts g_c_tkl_c_risY_15 rfl rfl rfl (by decide +kernel) ⟨Nat.le_of_ble_eq_true rfl, Nat.le_of_ble_eq_true rfl⟩) ⟨fun a U g mk q => by obtain ⟨q0, q1, qP, qK, qD⟩ := q; exact ⟨q0, q1, qP, va_K.moved (u := U) (U := U.calling g mk a) (Vm.Alike.refl U.vm) qK, qD⟩, va_recv hKc hPc (ci := 23) (q0 := 0) rfl rfl, fun U hU hW => ⟨rfl, by rw [hU], by rw [hU]; exact hPc, va_K.moved hW.alike hKc, hDc.weaken (fun _ _ _ _ => trivial)⟩⟩ rfl rfl hl.1 rfl (lv_room (Nat.le_of_ble_eq_true rfl)) dX23_takeLives_15 ⟨(show 0 + 0 ≤ 0 by omega), (show 0 + 0 ≤ 0 by omega)⟩) hS (fun q _ h => hFc q h) hFc (fun r_5 u tS H1 locs ht hvm hw hB hz1 hk1 hS => ?_)
        obtain ⟨hP1, hK1, hD1⟩ := hB
        rw [ht] at hP1
        have hK1 := va_K.moved hvm.symm hK1
        obtain ⟨hP, hD⟩ := va_join (wr := [(it, .inr (16, [.int tx, .int nx, .int kx, .int 0, .int 0, .int 0, .int (nI n), .int 0, vn, vw, vt, .null, .ref lf, vo, .null, .null, .null, vp, .int 0, .int 0, .int 0, .int 0])), (lf, .inl (kI, 8, .inl g)), (mr 6, .inl (kI, 3002, .inl fa))]) (w1 := [(m9, .inr (23, mA mr mv vf xl (nI zs) 0 xa (nI T) (nI pp1) xi xt xn (nI ns) (nI vv) (nI bb))), (mr 5, .inl (kI, 3002, .inl fk))]) hP hD [4, 2] [0, 1, 3] rfl rfl (by decide) (by decide) hk1 hFc hP1 hD1
        have hK := hK.app hK1
        generalize H1 = H at hP hS ⊢
        have hP : va_P (dC, dI) vwCl [(it, .inr (16, [.int tx, .int nx, .int kx, .int 0, .int 0, .int 0, .int (nI n), .int 0, vn, vw, vt, .null, .ref lf, vo, .null, .null, .null, vp, .int 0, .int 0, .int 0, .int 0])), (lf, .inl (kI, 8, .inl g)), (mr 6, .inl (kI, 3002, .inl fa)), (m9, .inr (23, mA mr mv vf xl (nI zs) 0 xa (nI T) (nI pp1) xi xt xn (nI ns) (nI vv) (nI bb))), (mr 5, .inl (kI, 3002, .inl fk))] H := hP
        have hD : va_D A [(it, .inr (16, [.int tx, .int nx, .int kx, .int 0, .int 0, .int 0, .int (nI n), .int 0, vn, vw, vt, .null, .ref lf, vo, .null, .null, .null, vp, .int 0, .int 0, .int 0, .int 0])), (lf, .inl (kI, 8, .inl g)), (mr 6, .inl (kI, 3002, .inl fa)), (m9, .inr (23, mA mr mv vf xl (nI zs) 0 xa (nI T) (nI pp1) xi xt xn (nI ns) (nI vv) (nI bb))), (mr 5, .inl (kI, 3002, .inl fk))] := hD
        have hK : va_K (dC, dI) vwCl [(kI, .int), (kI, .int)] s := hK
        have hK := hK.sub (tys' := [(kI, .int)]) [0] rfl
        clear hz1 hk1 hPc hDc hKc hFc hP1 hD1 hK1
        obtain rfl : r_5 = 1 := hw
        refine lv_if_eq (tgt := 39) hx hb dX23_takeLives_18 (by decide) (fun c_6 => absurd c_6 (by decide)) (fun _ => ?_)
        refine lv_aload_n hx hb dX23_takeLives_21 rfl (lv_at hl 2 rfl) ?_
        refine va_get (D := (dC, dI)) (ci := 16) (v := .int (nI n)) (C := RX16) (T := TX16) (N := 22) hx hb hts in_c_tkl_X16 hown hK hP 0 rfl rfl 6 (by decide) (hts (.fieldLink RX23 184 "OwnedPlacesModel$Item" "lives" "I") (wm_c_tkl 13 rfl)) (fun _ h9 => h9) rfl dX23_takeLives_22 ?_
        refine lv_bipush (v := 8) hx hb dX23_takeLives_25 (by decide) ?_
        by_cases hj_7 : n = 8
        · have hn16 : nI n = 8 := by rw [hj_7]; rfl
          refine lv_icmp_ne (tgt := 39) hx hb dX23_takeLives_27 (by decide) (fun c_8 => absurd c_8 (fun q9 => q9 hn16)) (fun _ => ?_)
          refine lv_aload_n hx hb dX23_takeLives_30 rfl (lv_at hl 1 rfl) ?_
          refine lv_iconst (v := 2) hx hb dX23_takeLives_31 (by decide) ?_
          refine lv_aload_n hx hb dX23_takeLives_32 rfl (lv_at hl 1 rfl) ?_
          refine va_get (D := (dC, dI)) (ci := 23) (v := .int (nI pp1)) (C := RX23) (T := TX23) (N := 89) hx hb hts in_c_tkl_X23 hown hK hP 3 rfl rfl 10 (by decide) (hts (.fieldLink RX23 86 "OwnedPlacesModel" "p" "I") (wm_c_tkl 9 rfl)) (fun _ h9 => h9) rfl dX23_takeLives_33 ?_
          have hPc := hP.sub (ws' := [(m9, .inr (23, mA mr mv vf xl (nI zs) 0 xa (nI T) (nI pp1) xi xt xn (nI ns) (nI vv) (nI bb))), (mr 6, .inl (kI, 3002, .inl fa))]) [3, 2] rfl
          have hDc := hD.sub (ws' := [(m9, .inr (23, mA mr mv vf xl (nI zs) 0 xa (nI T) (nI pp1) xi xt xn (nI ns) (nI vv) (nI bb))), (mr 6, .inl (kI, 3002, .inl fa))]) [3, 2] (by decide) rfl
          have hKc := hK.sub (tys' := [(kI, .int)]) [0] rfl
          have hFc := va_free (wc := [(m9, .inr (23, mA mr mv vf xl (nI zs) 0 xa (nI T) (nI pp1) xi xt xn (nI ns) (nI vv) (nI bb))), (mr 6, .inl (kI, 3002, .inl fa))]) hD hS hA [3, 2] rfl
          refine va_callv (va_runV (As := [.int 2, .int (nI pp1)]) (rest := []) ⟨hx, hb, hml, hown, hts⟩ (c_rfa0 l dC dI m9 mr mv vf xl xa xi xt xn zs T pp1 ns vv bb kI fk fa 2 pp1 H.size (by omega)) (cwV 2 hts g_c_tkl_c_rfa0_36 rfl rfl rfl (by decide +kernel) ⟨Nat.le_of_ble_eq_true rfl, Nat.le_of_ble_eq_true rfl⟩) ⟨fun a U g mk q => by obtain ⟨q0, q1, qP, qK, qD⟩ := q; exact ⟨q0, q1, qP, va_K.moved (u := U) (U := U.calling g mk a) (Vm.Alike.refl U.vm) qK, qD⟩, va_recv hKc hPc (ci := 23) (q0 := 0) rfl rfl, fun U hU hW => ⟨rfl, by rw [hU], by rw [hU]; exact hPc, va_K.moved hW.alike hKc, hDc.weaken (fun _ _ _ _ => trivial)⟩⟩ rfl rfl hl.1 rfl (lv_room (Nat.le_of_ble_eq_true rfl)) dX23_takeLives_36 ⟨(show 0 + 0 ≤ 0 by omega), (show 0 + 0 ≤ 0 by omega)⟩) hS (fun q _ h => hFc q h) hFc (fun u tS H1 locs ht hvm hw hB hz1 hk1 hS => ?_)
          obtain ⟨hP1, hK1, hD1⟩ := hB
          rw [ht] at hP1
          have hK1 := va_K.moved hvm.symm hK1
          obtain ⟨hP, hD⟩ := va_join (wr := [(it, .inr (16, [.int tx, .int nx, .int kx, .int 0, .int 0, .int 0, .int (nI n), .int 0, vn, vw, vt, .null, .ref lf, vo, .null, .null, .null, vp, .int 0, .int 0, .int 0, .int 0])), (lf, .inl (kI, 8, .inl g)), (mr 5, .inl (kI, 3002, .inl fk))]) (w1 := [(m9, .inr (23, mA mr mv vf xl (nI zs) 2 (fa pp1) (nI T) (nI pp1) xi xt xn (nI ns) (nI vv) (nI bb))), (mr 6, .inl (kI, 3002, .inl fa))]) hP hD [3, 2] [0, 1, 4] rfl rfl (by decide) (by decide) hk1 hFc hP1 hD1
          have hK := hK.app hK1
          generalize H1 = H at hP hS ⊢
          have hP : va_P (dC, dI) vwCl [(it, .inr (16, [.int tx, .int nx, .int kx, .int 0, .int 0, .int 0, .int (nI n), .int 0, vn, vw, vt, .null, .ref lf, vo, .null, .null, .null, vp, .int 0, .int 0, .int 0, .int 0])), (lf, .inl (kI, 8, .inl g)), (mr 5, .inl (kI, 3002, .inl fk)), (m9, .inr (23, mA mr mv vf xl (nI zs) 2 (fa pp1) (nI T) (nI pp1) xi xt xn (nI ns) (nI vv) (nI bb))), (mr 6, .inl (kI, 3002, .inl fa))] H := hP
          have hD : va_D A [(it, .inr (16, [.int tx, .int nx, .int kx, .int 0, .int 0, .int 0, .int (nI n), .int 0, vn, vw, vt, .null, .ref lf, vo, .null, .null, .null, vp, .int 0, .int 0, .int 0, .int 0])), (lf, .inl (kI, 8, .inl g)), (mr 5, .inl (kI, 3002, .inl fk)), (m9, .inr (23, mA mr mv vf xl (nI zs) 2 (fa pp1) (nI T) (nI pp1) xi xt xn (nI ns) (nI vv) (nI bb))), (mr 6, .inl (kI, 3002, .inl fa))] := hD
          have hK : va_K (dC, dI) vwCl [(kI, .int), (kI, .int)] s := hK
          have hK := hK.sub (tys' := [(kI, .int)]) [0] rfl
          clear hz1 hk1 hPc hDc hKc hFc hP1 hD1 hK1
          obtain ⟨fq9, efq9⟩ : ∃ zZ : Int32, zZ = 2 := ⟨_, rfl⟩
          obtain ⟨fx9, efx9⟩ : ∃ zZ : Int32, zZ = fa pp1 := ⟨_, rfl⟩
          rw [← efx9] at hP hD
          have hhfq9 : fq9 ≠ 0 := by rw [efq9]; decide
          have hP : va_P (dC, dI) vwCl [(it, .inr (16, [.int tx, .int nx, .int kx, .int 0, .int 0, .int 0, .int (nI n), .int 0, vn, vw, vt, .null, .ref lf, vo, .null, .null, .null, vp, .int 0, .int 0, .int 0, .int 0])), (lf, .inl (kI, 8, .inl g)), (mr 5, .inl (kI, 3002, .inl fk)), (m9, .inr (23, mA mr mv vf xl (nI zs) fq9 fx9 (nI T) (nI pp1) xi xt xn (nI ns) (nI vv) (nI bb))), (mr 6, .inl (kI, 3002, .inl fa))] H := by rw [efq9]; exact hP
          have hD : va_D A [(it, .inr (16, [.int tx, .int nx, .int kx, .int 0, .int 0, .int 0, .int (nI n), .int 0, vn, vw, vt, .null, .ref lf, vo, .null, .null, .null, vp, .int 0, .int 0, .int 0, .int 0])), (lf, .inl (kI, 8, .inl g)), (mr 5, .inl (kI, 3002, .inl fk)), (m9, .inr (23, mA mr mv vf xl (nI zs) fq9 fx9 (nI T) (nI pp1) xi xt xn (nI ns) (nI vv) (nI bb))), (mr 6, .inl (kI, 3002, .inl fa))] := by rw [efq9]; exact hD
          clear efq9 efx9
          refine lv_aload_n hx hb dX23_takeLives_39 rfl (lv_at hl 1 rfl) ?_
          refine lv_iconst (v := 4) hx hb dX23_takeLives_40 (by decide) ?_
          have hPc := hP.sub (ws' := [(m9, .inr (23, mA mr mv vf xl (nI zs) fq9 fx9 (nI T) (nI pp1) xi xt xn (nI ns) (nI vv) (nI bb))), (mr 5, .inl (kI, 3002, .inl fk)), (mr 6, .inl (kI, 3002, .inl fa))]) [3, 2, 4] rfl
          have hDc := hD.sub (ws' := [(m9, .inr (23, mA mr mv vf xl (nI zs) fq9 fx9 (nI T) (nI pp1) xi xt xn (nI ns) (nI vv) (nI bb))), (mr 5, .inl (kI, 3002, .inl fk)), (mr 6, .inl (kI, 3002, .inl fa))]) [3, 2, 4] (by decide) rfl
          have hKc := hK.sub (tys' := [(kI, .int)]) [0] rfl
          have hFc := va_free (wc := [(m9, .inr (23, mA mr mv vf xl (nI zs) fq9 fx9 (nI T) (nI pp1) xi xt xn (nI ns) (nI vv) (nI bb))), (mr 5, .inl (kI, 3002, .inl fk)), (mr 6, .inl (kI, 3002, .inl fa))]) hD hS hA [3, 2, 4] rfl
          refine va_callv (va_runV (As := [.int 4]) (rest := []) ⟨hx, hb, hml, hown, hts⟩ (c_rtkB l dC dI m9 mr mv vf xl fx9 xi xt xn zs T pp1 ns vv bb kI fk fa fq9 4 H.size hhfq9) (cwV 1 hts g_c_tkl_c_rtkB_41 rfl rfl rfl (by decide +kernel) ⟨Nat.le_of_ble_eq_true rfl, Nat.le_of_ble_eq_true rfl⟩) ⟨fun a U g mk q => by obtain ⟨q0, q1, qP, qK, qD⟩ := q; exact ⟨q0, q1, qP, va_K.moved (u := U) (U := U.calling g mk a) (Vm.Alike.refl U.vm) qK, qD⟩, va_recv hKc hPc (ci := 23) (q0 := 0) rfl rfl, fun U hU hW => ⟨rfl, by rw [hU], by rw [hU]; exact hPc, va_K.moved hW.alike hKc, hDc.weaken (fun _ _ _ _ => trivial)⟩⟩ rfl rfl hl.1 rfl (lv_room (Nat.le_of_ble_eq_true rfl)) dX23_takeLives_41 ⟨(show 0 + 0 ≤ 0 by omega), (show 0 + 0 ≤ 0 by omega)⟩) hS (fun q _ h => hFc q h) hFc (fun u tS H1 locs ht hvm hw hB hz1 hk1 hS => ?_)
          obtain ⟨hP1, hK1, hD1⟩ := hB
          rw [ht] at hP1
          have hK1 := va_K.moved hvm.symm hK1
          obtain ⟨hP, hD⟩ := va_join (wr := [(it, .inr (16, [.int tx, .int nx, .int kx, .int 0, .int 0, .int 0, .int (nI n), .int 0, vn, vw, vt, .null, .ref lf, vo, .null, .null, .null, vp, .int 0, .int 0, .int 0, .int 0])), (lf, .inl (kI, 8, .inl g))]) (w1 := [(m9, .inr (23, mA mr mv vf xl (nI zs) fq9 fx9 (nI T) (nI pp1) xi xt xn (nI ns) (nI vv) (nI bb))), (mr 5, .inl (kI, 3002, .inl fk)), (mr 6, .inl (kI, 3002, .inl fa))]) hP hD [3, 2, 4] [0, 1] rfl rfl (by decide) (by decide) hk1 hFc hP1 hD1
          have hK := hK.app hK1
          generalize H1 = H at hP hS ⊢
          have hP : va_P (dC, dI) vwCl [(it, .inr (16, [.int tx, .int nx, .int kx, .int 0, .int 0, .int 0, .int (nI n), .int 0, vn, vw, vt, .null, .ref lf, vo, .null, .null, .null, vp, .int 0, .int 0, .int 0, .int 0])), (lf, .inl (kI, 8, .inl g)), (m9, .inr (23, mA mr mv vf xl (nI zs) fq9 fx9 (nI T) (nI pp1) xi xt xn (nI ns) (nI vv) (nI bb))), (mr 5, .inl (kI, 3002, .inl fk)), (mr 6, .inl (kI, 3002, .inl fa))] H := hP
          have hD : va_D A [(it, .inr (16, [.int tx, .int nx, .int kx, .int 0, .int 0, .int 0, .int (nI n), .int 0, vn, vw, vt, .null, .ref lf, vo, .null, .null, .null, vp, .int 0, .int 0, .int 0, .int 0])), (lf, .inl (kI, 8, .inl g)), (m9, .inr (23, mA mr mv vf xl (nI zs) fq9 fx9 (nI T) (nI pp1) xi xt xn (nI ns) (nI vv) (nI bb))), (mr 5, .inl (kI, 3002, .inl fk)), (mr 6, .inl (kI, 3002, .inl fa))] := hD
          have hK : va_K (dC, dI) vwCl [(kI, .int), (kI, .int)] s := hK
          have hK := hK.sub (tys' := [(kI, .int)]) [0] rfl
          clear hz1 hk1 hPc hDc hKc hFc hP1 hD1 hK1
          refine lv_aload_n hx hb dX23_takeLives_44 rfl (lv_at hl 1 rfl) ?_
          have hPc := hP.sub (ws' := [(m9, .inr (23, mA mr mv vf xl (nI zs) fq9 fx9 (nI T) (nI pp1) xi xt xn (nI ns) (nI vv) (nI bb)))]) [2] rfl
          have hDc := hD.sub (ws' := [(m9, .inr (23, mA mr mv vf xl (nI zs) fq9 fx9 (nI T) (nI pp1) xi xt xn (nI ns) (nI vv) (nI bb)))]) [2] (by decide) rfl
          have hKc := hK.sub (tys' := []) [] rfl
          have hFc := va_free (wc := [(m9, .inr (23, mA mr mv vf xl (nI zs) fq9 fx9 (nI T) (nI pp1) xi xt xn (nI ns) (nI vv) (nI bb)))]) hD hS hA [2] rfl
          refine va_calli (va_runV (As := []) (rest := []) ⟨hx, hb, hml, hown, hts⟩ (c_rokB l dC dI m9 mr mv vf xl fx9 xi xt xn zs T pp1 ns vv bb kI fk fa fq9 H.size hhfq9) (cwV 0 hts g_c_tkl_c_rokB_45 rfl rfl rfl (by decide +kernel) ⟨Nat.le_of_ble_eq_true rfl, Nat.le_of_ble_eq_true rfl⟩) ⟨fun a U g mk q => by obtain ⟨q0, q1, qP, qK, qD⟩ := q; exact ⟨q0, q1, qP, va_K.moved (u := U) (U := U.calling g mk a) (Vm.Alike.refl U.vm) qK, qD⟩, va_recv hKc hPc (ci := 23) (q0 := 0) rfl rfl, fun U hU hW => ⟨rfl, by rw [hU], by rw [hU]; exact hPc, va_K.moved hW.alike hKc, hDc.weaken (fun _ _ _ _ => trivial)⟩⟩ rfl rfl hl.1 rfl (lv_room (Nat.le_of_ble_eq_true rfl)) dX23_takeLives_45 ⟨(show 0 + 0 ≤ 0 by omega), (show 0 + 0 ≤ 0 by omega)⟩) hS (fun q _ h => hFc q h) hFc (fun r_11 u tS H1 locs ht hvm hw hB hz1 hk1 hS => ?_)
          obtain ⟨hP1, hK1, hD1⟩ := hB
          rw [ht] at hP1
          have hK1 := va_K.moved hvm.symm hK1
          obtain ⟨hP, hD⟩ := va_join (wr := [(it, .inr (16, [.int tx, .int nx, .int kx, .int 0, .int 0, .int 0, .int (nI n), .int 0, vn, vw, vt, .null, .ref lf, vo, .null, .null, .null, vp, .int 0, .int 0, .int 0, .int 0])), (lf, .inl (kI, 8, .inl g)), (mr 5, .inl (kI, 3002, .inl fk)), (mr 6, .inl (kI, 3002, .inl fa))]) (w1 := [(m9, .inr (23, mA mr mv vf xl (nI zs) fq9 fx9 (nI T) (nI pp1) xi xt xn (nI ns) (nI vv) (nI bb)))]) hP hD [2] [0, 1, 3, 4] rfl rfl (by decide) (by decide) hk1 hFc hP1 hD1
          generalize H1 = H at hP hS ⊢
          have hP : va_P (dC, dI) vwCl [(it, .inr (16, [.int tx, .int nx, .int kx, .int 0, .int 0, .int 0, .int (nI n), .int 0, vn, vw, vt, .null, .ref lf, vo, .null, .null, .null, vp, .int 0, .int 0, .int 0, .int 0])), (lf, .inl (kI, 8, .inl g)), (mr 5, .inl (kI, 3002, .inl fk)), (mr 6, .inl (kI, 3002, .inl fa)), (m9, .inr (23, mA mr mv vf xl (nI zs) fq9 fx9 (nI T) (nI pp1) xi xt xn (nI ns) (nI vv) (nI bb)))] H := hP
          have hD : va_D A [(it, .inr (16, [.int tx, .int nx, .int kx, .int 0, .int 0, .int 0, .int (nI n), .int 0, vn, vw, vt, .null, .ref lf, vo, .null, .null, .null, vp, .int 0, .int 0, .int 0, .int 0])), (lf, .inl (kI, 8, .inl g)), (mr 5, .inl (kI, 3002, .inl fk)), (mr 6, .inl (kI, 3002, .inl fa)), (m9, .inr (23, mA mr mv vf xl (nI zs) fq9 fx9 (nI T) (nI pp1) xi xt xn (nI ns) (nI vv) (nI bb)))] := hD
          have hK : va_K (dC, dI) vwCl [(kI, .int)] s := hK
          clear hz1 hk1 hPc hDc hKc hFc hP1 hD1 hK1
          obtain rfl : r_11 = 0 := hw
          refine lv_if_eq (tgt := 66) hx hb dX23_takeLives_48 (by decide) (fun _ => ?_) (fun c_12 => absurd (by decide) c_12)
          refine lv_aload_n hx hb dX23_takeLives_66 rfl (lv_at hl 2 rfl) ?_
          refine lv_dup hx hb dX23_takeLives_67 rfl ?_
          refine va_get (D := (dC, dI)) (ci := 16) (v := .int (nI n)) (C := RX16) (T := TX16) (N := 22) hx hb hts in_c_tkl_X16 hown hK hP 0 rfl rfl 6 (by decide) (hts (.fieldLink RX23 184 "OwnedPlacesModel$Item" "lives" "I") (wm_c_tkl 13 rfl)) (fun _ h9 => h9) rfl dX23_takeLives_68 ?_
          refine lv_iconst (v := 1) hx hb dX23_takeLives_71 (by decide) ?_
          refine lv_iadd hx hb dX23_takeLives_72 ?_
          refine lv_topi (fun f_13 ef_13 => ?_)
          obtain rfl : f_13 = nI (n + 1) := ef_13.trans (nI_1 _)
          refine va_put (D := (dC, dI)) (ci := 16) (v := .int (nI (n + 1))) (ty := .int) (C := RX16) (T := TX16) (N := 22) hx hb hts in_c_tkl_X16 tyX16 tyX16_ok nmX16 hown hK hP hD hS 0 rfl rfl 6 (by decide) (hts (.fieldLink RX23 184 "OwnedPlacesModel$Item" "lives" "I") (wm_c_tkl 13 rfl)) (fun _ h9 => h9) rfl (by decide +kernel) rfl rfl (Nat.le_of_ble_eq_true rfl) dX23_takeLives_73 (fun H locs hP hD hS => ?_)
          have hP : va_P (dC, dI) vwCl [(it, .inr (16, [.int tx, .int nx, .int kx, .int 0, .int 0, .int 0, .int (nI (n + 1)), .int 0, vn, vw, vt, .null, .ref lf, vo, .null, .null, .null, vp, .int 0, .int 0, .int 0, .int 0])), (lf, .inl (kI, 8, .inl g)), (mr 5, .inl (kI, 3002, .inl fk)), (mr 6, .inl (kI, 3002, .inl fa)), (m9, .inr (23, mA mr mv vf xl (nI zs) fq9 fx9 (nI T) (nI pp1) xi xt xn (nI ns) (nI vv) (nI bb)))] H := hP
          have hD : va_D A [(it, .inr (16, [.int tx, .int nx, .int kx, .int 0, .int 0, .int 0, .int (nI (n + 1)), .int 0, vn, vw, vt, .null, .ref lf, vo, .null, .null, .null, vp, .int 0, .int 0, .int 0, .int 0])), (lf, .inl (kI, 8, .inl g)), (mr 5, .inl (kI, 3002, .inl fk)), (mr 6, .inl (kI, 3002, .inl fa)), (m9, .inr (23, mA mr mv vf xl (nI zs) fq9 fx9 (nI T) (nI pp1) xi xt xn (nI ns) (nI vv) (nI bb)))] := hD
          refine lv_aload_n hx hb dX23_takeLives_76 rfl (lv_at hl 1 rfl) ?_
          refine lv_bipush (v := 57) hx hb dX23_takeLives_77 (by decide) ?_
          have hPc := hP.sub (ws' := [(m9, .inr (23, mA mr mv vf xl (nI zs) fq9 fx9 (nI T) (nI pp1) xi xt xn (nI ns) (nI vv) (nI bb))), (mr 5, .inl (kI, 3002, .inl fk))]) [4, 2] rfl
          have hDc := hD.sub (ws' := [(m9, .inr (23, mA mr mv vf xl (nI zs) fq9 fx9 (nI T) (nI pp1) xi xt xn (nI ns) (nI vv) (nI bb))), (mr 5, .inl (kI, 3002, .inl fk))]) [4, 2] (by decide) rfl
          have hKc := hK.sub (tys' := [(kI, .int)]) [0] rfl
          have hFc := va_free (wc := [(m9, .inr (23, mA mr mv vf xl (nI zs) fq9 fx9 (nI T) (nI pp1) xi xt xn (nI ns) (nI vv) (nI bb))), (mr 5, .inl (kI, 3002, .inl fk))]) hD hS hA [4, 2] rfl
          refine va_calli (va_runV (As := [.int 57]) (rest := []) ⟨hx, hb, hml, hown, hts⟩ (c_rtsB l dC dI m9 mr mv vf xl fx9 xi xt xn zs T pp1 ns vv bb kI fk fa fq9 57 H.size hhfq9) (cwV 1 hts g_c_tkl_c_rtsB_79 rfl rfl rfl (by decide +kernel) ⟨Nat.le_of_ble_eq_true rfl, Nat.le_of_ble_eq_true rfl⟩) ⟨fun a U g mk q => by obtain ⟨q0, q1, qP, qK, qD⟩ := q; exact ⟨q0, q1, qP, va_K.moved (u := U) (U := U.calling g mk a) (Vm.Alike.refl U.vm) qK, qD⟩, va_recv hKc hPc (ci := 23) (q0 := 0) rfl rfl, fun U hU hW => ⟨rfl, by rw [hU], by rw [hU]; exact hPc, va_K.moved hW.alike hKc, hDc.weaken (fun _ _ _ _ => trivial)⟩⟩ rfl rfl hl.1 rfl (lv_room (Nat.le_of_ble_eq_true rfl)) dX23_takeLives_79 ⟨(show 0 + 0 ≤ 0 by omega), (show 0 + 0 ≤ 0 by omega)⟩) hS (fun q _ h => hFc q h) hFc (fun r_14 u tS H1 locs ht hvm hw hB hz1 hk1 hS => ?_)
          obtain ⟨hP1, hK1, hD1⟩ := hB
          rw [ht] at hP1
          have hK1 := va_K.moved hvm.symm hK1
          obtain ⟨hP, hD⟩ := va_join (wr := [(it, .inr (16, [.int tx, .int nx, .int kx, .int 0, .int 0, .int 0, .int (nI (n + 1)), .int 0, vn, vw, vt, .null, .ref lf, vo, .null, .null, .null, vp, .int 0, .int 0, .int 0, .int 0])), (lf, .inl (kI, 8, .inl g)), (mr 6, .inl (kI, 3002, .inl fa))]) (w1 := [(m9, .inr (23, mA mr mv vf xl (nI zs) fq9 fx9 (nI T) (nI pp1) xi xt xn (nI ns) (nI vv) (nI bb))), (mr 5, .inl (kI, 3002, .inl fk))]) hP hD [4, 2] [0, 1, 3] rfl rfl (by decide) (by decide) hk1 hFc hP1 hD1
          have hK := hK.app hK1
          generalize H1 = H at hP hS ⊢
          have hP : va_P (dC, dI) vwCl [(it, .inr (16, [.int tx, .int nx, .int kx, .int 0, .int 0, .int 0, .int (nI (n + 1)), .int 0, vn, vw, vt, .null, .ref lf, vo, .null, .null, .null, vp, .int 0, .int 0, .int 0, .int 0])), (lf, .inl (kI, 8, .inl g)), (mr 6, .inl (kI, 3002, .inl fa)), (m9, .inr (23, mA mr mv vf xl (nI zs) fq9 fx9 (nI T) (nI pp1) xi xt xn (nI ns) (nI vv) (nI bb))), (mr 5, .inl (kI, 3002, .inl fk))] H := hP
          have hD : va_D A [(it, .inr (16, [.int tx, .int nx, .int kx, .int 0, .int 0, .int 0, .int (nI (n + 1)), .int 0, vn, vw, vt, .null, .ref lf, vo, .null, .null, .null, vp, .int 0, .int 0, .int 0, .int 0])), (lf, .inl (kI, 8, .inl g)), (mr 6, .inl (kI, 3002, .inl fa)), (m9, .inr (23, mA mr mv vf xl (nI zs) fq9 fx9 (nI T) (nI pp1) xi xt xn (nI ns) (nI vv) (nI bb))), (mr 5, .inl (kI, 3002, .inl fk))] := hD
          have hK : va_K (dC, dI) vwCl [(kI, .int), (kI, .int)] s := hK
          have hK := hK.sub (tys' := [(kI, .int)]) [0] rfl
          clear hz1 hk1 hPc hDc hKc hFc hP1 hD1 hK1
          obtain rfl : r_14 = 0 := hw
          refine lv_istore_n (lv' := [(2, .int 0), (0, .ref m9), (1, .ref it)]) hx hb dX23_takeLives_82 rfl hl (by decide) rfl (fun ls hl => ?_)
          refine lv_goto (tgt := 2) hx hb dX23_takeLives_83 (by decide) ?_
          refine lv_aload_n hx hb dX23_takeLives_2 rfl (lv_at hl 1 rfl) ?_
          have hPc := hP.sub (ws' := [(m9, .inr (23, mA mr mv vf xl (nI zs) fq9 fx9 (nI T) (nI pp1) xi xt xn (nI ns) (nI vv) (nI bb)))]) [3] rfl
          have hDc := hD.sub (ws' := [(m9, .inr (23, mA mr mv vf xl (nI zs) fq9 fx9 (nI T) (nI pp1) xi xt xn (nI ns) (nI vv) (nI bb)))]) [3] (by decide) rfl
          have hKc := hK.sub (tys' := []) [] rfl
          have hFc := va_free (wc := [(m9, .inr (23, mA mr mv vf xl (nI zs) fq9 fx9 (nI T) (nI pp1) xi xt xn (nI ns) (nI vv) (nI bb)))]) hD hS hA [3] rfl
          refine va_calli (va_runV (As := []) (rest := []) ⟨hx, hb, hml, hown, hts⟩ (c_rokB l dC dI m9 mr mv vf xl fx9 xi xt xn zs T pp1 ns vv bb kI fk fa fq9 H.size hhfq9) (cwV 0 hts g_c_tkl_c_rokB_3 rfl rfl rfl (by decide +kernel) ⟨Nat.le_of_ble_eq_true rfl, Nat.le_of_ble_eq_true rfl⟩) ⟨fun a U g mk q => by obtain ⟨q0, q1, qP, qK, qD⟩ := q; exact ⟨q0, q1, qP, va_K.moved (u := U) (U := U.calling g mk a) (Vm.Alike.refl U.vm) qK, qD⟩, va_recv hKc hPc (ci := 23) (q0 := 0) rfl rfl, fun U hU hW => ⟨rfl, by rw [hU], by rw [hU]; exact hPc, va_K.moved hW.alike hKc, hDc.weaken (fun _ _ _ _ => trivial)⟩⟩ rfl rfl hl.1 rfl (lv_room (Nat.le_of_ble_eq_true rfl)) dX23_takeLives_3 ⟨(show 0 + 0 ≤ 0 by omega), (show 0 + 0 ≤ 0 by omega)⟩) hS (fun q _ h => hFc q h) hFc (fun r_15 u tS H1 locs ht hvm hw hB hz1 hk1 hS => ?_)
          obtain ⟨hP1, hK1, hD1⟩ := hB
          rw [ht] at hP1
          have hK1 := va_K.moved hvm.symm hK1
          obtain ⟨hP, hD⟩ := va_join (wr := [(it, .inr (16, [.int tx, .int nx, .int kx, .int 0, .int 0, .int 0, .int (nI (n + 1)), .int 0, vn, vw, vt, .null, .ref lf, vo, .null, .null, .null, vp, .int 0, .int 0, .int 0, .int 0])), (lf, .inl (kI, 8, .inl g)), (mr 6, .inl (kI, 3002, .inl fa)), (mr 5, .inl (kI, 3002, .inl fk))]) (w1 := [(m9, .inr (23, mA mr mv vf xl (nI zs) fq9 fx9 (nI T) (nI pp1) xi xt xn (nI ns) (nI vv) (nI bb)))]) hP hD [3] [0, 1, 2, 4] rfl rfl (by decide) (by decide) hk1 hFc hP1 hD1
          generalize H1 = H at hP hS ⊢
          have hP : va_P (dC, dI) vwCl [(it, .inr (16, [.int tx, .int nx, .int kx, .int 0, .int 0, .int 0, .int (nI (n + 1)), .int 0, vn, vw, vt, .null, .ref lf, vo, .null, .null, .null, vp, .int 0, .int 0, .int 0, .int 0])), (lf, .inl (kI, 8, .inl g)), (mr 6, .inl (kI, 3002, .inl fa)), (mr 5, .inl (kI, 3002, .inl fk)), (m9, .inr (23, mA mr mv vf xl (nI zs) fq9 fx9 (nI T) (nI pp1) xi xt xn (nI ns) (nI vv) (nI bb)))] H := hP
          have hD : va_D A [(it, .inr (16, [.int tx, .int nx, .int kx, .int 0, .int 0, .int 0, .int (nI (n + 1)), .int 0, vn, vw, vt, .null, .ref lf, vo, .null, .null, .null, vp, .int 0, .int 0, .int 0, .int 0])), (lf, .inl (kI, 8, .inl g)), (mr 6, .inl (kI, 3002, .inl fa)), (mr 5, .inl (kI, 3002, .inl fk)), (m9, .inr (23, mA mr mv vf xl (nI zs) fq9 fx9 (nI T) (nI pp1) xi xt xn (nI ns) (nI vv) (nI bb)))] := hD
          have hK : va_K (dC, dI) vwCl [(kI, .int)] s := hK
          clear hz1 hk1 hPc hDc hKc hFc hP1 hD1 hK1
          obtain rfl : r_15 = 0 := hw
          refine lv_if_eq (tgt := 86) hx hb dX23_takeLives_6 (by decide) (fun _ => ?_) (fun c_16 => absurd (by decide) c_16)
          refine lv_aload_n hx hb dX23_takeLives_86 rfl (lv_at hl 1 rfl) ?_
          refine lv_bipush (v := 49) hx hb dX23_takeLives_87 (by decide) ?_
          have hPc := hP.sub (ws' := [(m9, .inr (23, mA mr mv vf xl (nI zs) fq9 fx9 (nI T) (nI pp1) xi xt xn (nI ns) (nI vv) (nI bb))), (mr 5, .inl (kI, 3002, .inl fk)), (mr 6, .inl (kI, 3002, .inl fa))]) [4, 3, 2] rfl
          have hDc := hD.sub (ws' := [(m9, .inr (23, mA mr mv vf xl (nI zs) fq9 fx9 (nI T) (nI pp1) xi xt xn (nI ns) (nI vv) (nI bb))), (mr 5, .inl (kI, 3002, .inl fk)), (mr 6, .inl (kI, 3002, .inl fa))]) [4, 3, 2] (by decide) rfl
          have hKc := hK.sub (tys' := [(kI, .int)]) [0] rfl
          have hFc := va_free (wc := [(m9, .inr (23, mA mr mv vf xl (nI zs) fq9 fx9 (nI T) (nI pp1) xi xt xn (nI ns) (nI vv) (nI bb))), (mr 5, .inl (kI, 3002, .inl fk)), (mr 6, .inl (kI, 3002, .inl fa))]) hD hS hA [4, 3, 2] rfl
          refine va_callv (va_runV (As := [.int 49]) (rest := []) ⟨hx, hb, hml, hown, hts⟩ (c_rtkB l dC dI m9 mr mv vf xl fx9 xi xt xn zs T pp1 ns vv bb kI fk fa fq9 49 H.size hhfq9) (cwV 1 hts g_c_tkl_c_rtkB_89 rfl rfl rfl (by decide +kernel) ⟨Nat.le_of_ble_eq_true rfl, Nat.le_of_ble_eq_true rfl⟩) ⟨fun a U g mk q => by obtain ⟨q0, q1, qP, qK, qD⟩ := q; exact ⟨q0, q1, qP, va_K.moved (u := U) (U := U.calling g mk a) (Vm.Alike.refl U.vm) qK, qD⟩, va_recv hKc hPc (ci := 23) (q0 := 0) rfl rfl, fun U hU hW => ⟨rfl, by rw [hU], by rw [hU]; exact hPc, va_K.moved hW.alike hKc, hDc.weaken (fun _ _ _ _ => trivial)⟩⟩ rfl rfl hl.1 rfl (lv_room (Nat.le_of_ble_eq_true rfl)) dX23_takeLives_89 ⟨(show 0 + 0 ≤ 0 by omega), (show 0 + 0 ≤ 0 by omega)⟩) hS (fun q _ h => hFc q h) hFc (fun u tS H1 locs ht hvm hw hB hz1 hk1 hS => ?_)
          obtain ⟨hP1, hK1, hD1⟩ := hB
          rw [ht] at hP1
          have hK1 := va_K.moved hvm.symm hK1
          obtain ⟨hP, hD⟩ := va_join (wr := [(it, .inr (16, [.int tx, .int nx, .int kx, .int 0, .int 0, .int 0, .int (nI (n + 1)), .int 0, vn, vw, vt, .null, .ref lf, vo, .null, .null, .null, vp, .int 0, .int 0, .int 0, .int 0])), (lf, .inl (kI, 8, .inl g))]) (w1 := [(m9, .inr (23, mA mr mv vf xl (nI zs) fq9 fx9 (nI T) (nI pp1) xi xt xn (nI ns) (nI vv) (nI bb))), (mr 5, .inl (kI, 3002, .inl fk)), (mr 6, .inl (kI, 3002, .inl fa))]) hP hD [4, 3, 2] [0, 1] rfl rfl (by decide) (by decide) hk1 hFc hP1 hD1
          have hK := hK.app hK1
          generalize H1 = H at hP hS ⊢
          have hP : va_P (dC, dI) vwCl [(it, .inr (16, [.int tx, .int nx, .int kx, .int 0, .int 0, .int 0, .int (nI (n + 1)), .int 0, vn, vw, vt, .null, .ref lf, vo, .null, .null, .null, vp, .int 0, .int 0, .int 0, .int 0])), (lf, .inl (kI, 8, .inl g)), (m9, .inr (23, mA mr mv vf xl (nI zs) fq9 fx9 (nI T) (nI pp1) xi xt xn (nI ns) (nI vv) (nI bb))), (mr 5, .inl (kI, 3002, .inl fk)), (mr 6, .inl (kI, 3002, .inl fa))] H := hP
          have hD : va_D A [(it, .inr (16, [.int tx, .int nx, .int kx, .int 0, .int 0, .int 0, .int (nI (n + 1)), .int 0, vn, vw, vt, .null, .ref lf, vo, .null, .null, .null, vp, .int 0, .int 0, .int 0, .int 0])), (lf, .inl (kI, 8, .inl g)), (m9, .inr (23, mA mr mv vf xl (nI zs) fq9 fx9 (nI T) (nI pp1) xi xt xn (nI ns) (nI vv) (nI bb))), (mr 5, .inl (kI, 3002, .inl fk)), (mr 6, .inl (kI, 3002, .inl fa))] := hD
          have hK : va_K (dC, dI) vwCl [(kI, .int), (kI, .int)] s := hK
          have hK := hK.sub (tys' := [(kI, .int)]) [0] rfl
          clear hz1 hk1 hPc hDc hKc hFc hP1 hD1 hK1
          have hP9 := hP.sub (ws' := [(it, .inr (16, [.int tx, .int nx, .int kx, .int 0, .int 0, .int 0, .int (nI (n + 1)), .int 0, vn, vw, vt, .null, .ref lf, vo, .null, .null, .null, vp, .int 0, .int 0, .int 0, .int 0])), (lf, .inl (kI, 8, .inl g)), (m9, .inr (23, mA mr mv vf xl (nI zs) fq9 fx9 (nI T) (nI pp1) xi xt xn (nI ns) (nI vv) (nI bb))), (mr 5, .inl (kI, 3002, .inl fk)), (mr 6, .inl (kI, 3002, .inl fa))]) [0, 1, 2, 3, 4] rfl
          have hD9 := hD.sub (ws' := [(it, .inr (16, [.int tx, .int nx, .int kx, .int 0, .int 0, .int 0, .int (nI (n + 1)), .int 0, vn, vw, vt, .null, .ref lf, vo, .null, .null, .null, vp, .int 0, .int 0, .int 0, .int 0])), (lf, .inl (kI, 8, .inl g)), (m9, .inr (23, mA mr mv vf xl (nI zs) fq9 fx9 (nI T) (nI pp1) xi xt xn (nI ns) (nI vv) (nI bb))), (mr 5, .inl (kI, 3002, .inl fk)), (mr 6, .inl (kI, 3002, .inl fa))]) [0, 1, 2, 3, 4] (by decide) rfl
          have hK9 := hK.sub (tys' := [(kI, .int)]) [0] rfl
          subst hQ1
          exact W.vret hx hb hr (fun tS ht hW => ⟨⟨(), rfl, trivial, fq9, fx9, pp1, n + 1, g, ⟨by omega, by omega⟩, (fun q9 => absurd q9 hhfq9), by rw [ht]; exact hP9, va_K.moved hW.alike hK9, hD9⟩, hS.F ht⟩) hS.2.2 dX23_takeLives_92
        · have hn16 : ¬ nI n = 8 := fun q => hj_7 ((nI_eq (a := n) (b := 8) (by omega) (by decide)).mp q)
          refine lv_icmp_ne (tgt := 39) hx hb dX23_takeLives_27 (by decide) (fun _ => ?_) (fun c_8 => absurd c_8 hn16)
          refine lv_aload_n hx hb dX23_takeLives_39 rfl (lv_at hl 1 rfl) ?_
          refine lv_iconst (v := 4) hx hb dX23_takeLives_40 (by decide) ?_
          have hPc := hP.sub (ws' := [(m9, .inr (23, mA mr mv vf xl (nI zs) 0 xa (nI T) (nI pp1) xi xt xn (nI ns) (nI vv) (nI bb))), (mr 5, .inl (kI, 3002, .inl fk)), (mr 6, .inl (kI, 3002, .inl fa))]) [3, 4, 2] rfl
          have hDc := hD.sub (ws' := [(m9, .inr (23, mA mr mv vf xl (nI zs) 0 xa (nI T) (nI pp1) xi xt xn (nI ns) (nI vv) (nI bb))), (mr 5, .inl (kI, 3002, .inl fk)), (mr 6, .inl (kI, 3002, .inl fa))]) [3, 4, 2] (by decide) rfl
          have hKc := hK.sub (tys' := [(kI, .int)]) [0] rfl
          have hFc := va_free (wc := [(m9, .inr (23, mA mr mv vf xl (nI zs) 0 xa (nI T) (nI pp1) xi xt xn (nI ns) (nI vv) (nI bb))), (mr 5, .inl (kI, 3002, .inl fk)), (mr 6, .inl (kI, 3002, .inl fa))]) hD hS hA [3, 4, 2] rfl
          refine va_callv (va_runV (As := [.int 4]) (rest := []) ⟨hx, hb, hml, hown, hts⟩ (c_rtkY l dC dI m9 mr mv vf xl xa xi xt xn zs T pp1 ns vv bb kI fk fa 4 H.size hT hr0.2.2.1 hk0 (by decide) hk_4) (cwV 1 hts g_c_tkl_c_rtkY_41 rfl rfl rfl (by decide +kernel) ⟨Nat.le_of_ble_eq_true rfl, Nat.le_of_ble_eq_true rfl⟩) ⟨fun a U g mk q => by obtain ⟨q0, q1, qP, qK, qD⟩ := q; exact ⟨q0, q1, qP, va_K.moved (u := U) (U := U.calling g mk a) (Vm.Alike.refl U.vm) qK, qD⟩, va_recv hKc hPc (ci := 23) (q0 := 0) rfl rfl, fun U hU hW => ⟨rfl, by rw [hU], by rw [hU]; exact hPc, va_K.moved hW.alike hKc, hDc.weaken (fun _ _ _ _ => trivial)⟩⟩ rfl rfl hl.1 rfl (lv_room (Nat.le_of_ble_eq_true rfl)) dX23_takeLives_41 ⟨(show 0 + 0 ≤ 0 by omega), (show 0 + 0 ≤ 0 by omega)⟩) hS (fun q _ h => hFc q h) hFc (fun u tS H1 locs ht hvm hw hB hz1 hk1 hS => ?_)
          obtain ⟨hP1, hK1, hD1⟩ := hB
          rw [ht] at hP1
          have hK1 := va_K.moved hvm.symm hK1
          obtain ⟨hP, hD⟩ := va_join (wr := [(it, .inr (16, [.int tx, .int nx, .int kx, .int 0, .int 0, .int 0, .int (nI n), .int 0, vn, vw, vt, .null, .ref lf, vo, .null, .null, .null, vp, .int 0, .int 0, .int 0, .int 0])), (lf, .inl (kI, 8, .inl g))]) (w1 := [(m9, .inr (23, mA mr mv vf xl (nI zs) 0 xa (nI T) (nI (pp1 + 1)) xi xt xn (nI ns) (nI vv) (nI bb))), (mr 5, .inl (kI, 3002, .inl fk)), (mr 6, .inl (kI, 3002, .inl fa))]) hP hD [3, 4, 2] [0, 1] rfl rfl (by decide) (by decide) hk1 hFc hP1 hD1
          have hK := hK.app hK1
          generalize H1 = H at hP hS ⊢
          have hP : va_P (dC, dI) vwCl [(it, .inr (16, [.int tx, .int nx, .int kx, .int 0, .int 0, .int 0, .int (nI n), .int 0, vn, vw, vt, .null, .ref lf, vo, .null, .null, .null, vp, .int 0, .int 0, .int 0, .int 0])), (lf, .inl (kI, 8, .inl g)), (m9, .inr (23, mA mr mv vf xl (nI zs) 0 xa (nI T) (nI (pp1 + 1)) xi xt xn (nI ns) (nI vv) (nI bb))), (mr 5, .inl (kI, 3002, .inl fk)), (mr 6, .inl (kI, 3002, .inl fa))] H := hP
          have hD : va_D A [(it, .inr (16, [.int tx, .int nx, .int kx, .int 0, .int 0, .int 0, .int (nI n), .int 0, vn, vw, vt, .null, .ref lf, vo, .null, .null, .null, vp, .int 0, .int 0, .int 0, .int 0])), (lf, .inl (kI, 8, .inl g)), (m9, .inr (23, mA mr mv vf xl (nI zs) 0 xa (nI T) (nI (pp1 + 1)) xi xt xn (nI ns) (nI vv) (nI bb))), (mr 5, .inl (kI, 3002, .inl fk)), (mr 6, .inl (kI, 3002, .inl fa))] := hD
          have hK : va_K (dC, dI) vwCl [(kI, .int), (kI, .int)] s := hK
          have hK := hK.sub (tys' := [(kI, .int)]) [0] rfl
          clear hz1 hk1 hPc hDc hKc hFc hP1 hD1 hK1
          have hp_10 : pp1 + 1 < T := kne3 hk0 hr0.2.2.1 hk_4 (by decide)
          refine lv_aload_n hx hb dX23_takeLives_44 rfl (lv_at hl 1 rfl) ?_
          have hPc := hP.sub (ws' := [(m9, .inr (23, mA mr mv vf xl (nI zs) 0 xa (nI T) (nI (pp1 + 1)) xi xt xn (nI ns) (nI vv) (nI bb)))]) [2] rfl
          have hDc := hD.sub (ws' := [(m9, .inr (23, mA mr mv vf xl (nI zs) 0 xa (nI T) (nI (pp1 + 1)) xi xt xn (nI ns) (nI vv) (nI bb)))]) [2] (by decide) rfl
          have hKc := hK.sub (tys' := []) [] rfl
          have hFc := va_free (wc := [(m9, .inr (23, mA mr mv vf xl (nI zs) 0 xa (nI T) (nI (pp1 + 1)) xi xt xn (nI ns) (nI vv) (nI bb)))]) hD hS hA [2] rfl
          refine va_calli (va_runV (As := []) (rest := []) ⟨hx, hb, hml, hown, hts⟩ (c_rok0 l dC dI m9 mr mv vf xl xa xi xt xn zs T (pp1 + 1) ns vv bb kI fk fa H.size) (cwV 0 hts g_c_tkl_c_rok0_45 rfl rfl rfl (by decide +kernel) ⟨Nat.le_of_ble_eq_true rfl, Nat.le_of_ble_eq_true rfl⟩) ⟨fun a U g mk q => by obtain ⟨q0, q1, qP, qK, qD⟩ := q; exact ⟨q0, q1, qP, va_K.moved (u := U) (U := U.calling g mk a) (Vm.Alike.refl U.vm) qK, qD⟩, va_recv hKc hPc (ci := 23) (q0 := 0) rfl rfl, fun U hU hW => ⟨rfl, by rw [hU], by rw [hU]; exact hPc, va_K.moved hW.alike hKc, hDc.weaken (fun _ _ _ _ => trivial)⟩⟩ rfl rfl hl.1 rfl (lv_room (Nat.le_of_ble_eq_true rfl)) dX23_takeLives_45 ⟨(show 0 + 0 ≤ 0 by omega), (show 0 + 0 ≤ 0 by omega)⟩) hS (fun q _ h => hFc q h) hFc (fun r_11 u tS H1 locs ht hvm hw hB hz1 hk1 hS => ?_)
          obtain ⟨hP1, hK1, hD1⟩ := hB
          rw [ht] at hP1
          have hK1 := va_K.moved hvm.symm hK1
          obtain ⟨hP, hD⟩ := va_join (wr := [(it, .inr (16, [.int tx, .int nx, .int kx, .int 0, .int 0, .int 0, .int (nI n), .int 0, vn, vw, vt, .null, .ref lf, vo, .null, .null, .null, vp, .int 0, .int 0, .int 0, .int 0])), (lf, .inl (kI, 8, .inl g)), (mr 5, .inl (kI, 3002, .inl fk)), (mr 6, .inl (kI, 3002, .inl fa))]) (w1 := [(m9, .inr (23, mA mr mv vf xl (nI zs) 0 xa (nI T) (nI (pp1 + 1)) xi xt xn (nI ns) (nI vv) (nI bb)))]) hP hD [2] [0, 1, 3, 4] rfl rfl (by decide) (by decide) hk1 hFc hP1 hD1
          generalize H1 = H at hP hS ⊢
          have hP : va_P (dC, dI) vwCl [(it, .inr (16, [.int tx, .int nx, .int kx, .int 0, .int 0, .int 0, .int (nI n), .int 0, vn, vw, vt, .null, .ref lf, vo, .null, .null, .null, vp, .int 0, .int 0, .int 0, .int 0])), (lf, .inl (kI, 8, .inl g)), (mr 5, .inl (kI, 3002, .inl fk)), (mr 6, .inl (kI, 3002, .inl fa)), (m9, .inr (23, mA mr mv vf xl (nI zs) 0 xa (nI T) (nI (pp1 + 1)) xi xt xn (nI ns) (nI vv) (nI bb)))] H := hP
          have hD : va_D A [(it, .inr (16, [.int tx, .int nx, .int kx, .int 0, .int 0, .int 0, .int (nI n), .int 0, vn, vw, vt, .null, .ref lf, vo, .null, .null, .null, vp, .int 0, .int 0, .int 0, .int 0])), (lf, .inl (kI, 8, .inl g)), (mr 5, .inl (kI, 3002, .inl fk)), (mr 6, .inl (kI, 3002, .inl fa)), (m9, .inr (23, mA mr mv vf xl (nI zs) 0 xa (nI T) (nI (pp1 + 1)) xi xt xn (nI ns) (nI vv) (nI bb)))] := hD
          have hK : va_K (dC, dI) vwCl [(kI, .int)] s := hK
          clear hz1 hk1 hPc hDc hKc hFc hP1 hD1 hK1
          obtain rfl : r_11 = 1 := hw
          refine lv_if_eq (tgt := 66) hx hb dX23_takeLives_48 (by decide) (fun c_12 => absurd c_12 (by decide)) (fun _ => ?_)
          refine lv_aload_n hx hb dX23_takeLives_51 rfl (lv_at hl 2 rfl) ?_
          refine va_get (D := (dC, dI)) (ci := 16) (v := .ref lf) (C := RX16) (T := TX16) (N := 22) hx hb hts in_c_tkl_X16 hown hK hP 0 rfl rfl 12 (by decide) (hts (.fieldLink RX23 187 "OwnedPlacesModel$Item" "life" "[I") (wm_c_tkl 28 rfl)) (fun _ h9 => h9) rfl dX23_takeLives_52 ?_
          refine lv_aload_n hx hb dX23_takeLives_55 rfl (lv_at hl 2 rfl) ?_
          refine va_get (D := (dC, dI)) (ci := 16) (v := .int (nI n)) (C := RX16) (T := TX16) (N := 22) hx hb hts in_c_tkl_X16 hown hK hP 0 rfl rfl 6 (by decide) (hts (.fieldLink RX23 184 "OwnedPlacesModel$Item" "lives" "I") (wm_c_tkl 13 rfl)) (fun _ h9 => h9) rfl dX23_takeLives_56 ?_
          refine lv_aload_n hx hb dX23_takeLives_59 rfl (lv_at hl 1 rfl) ?_
          refine va_get (D := (dC, dI)) (ci := 23) (v := .int (nI (pp1 + 1))) (C := RX23) (T := TX23) (N := 89) hx hb hts in_c_tkl_X23 hown hK hP 4 rfl rfl 10 (by decide) (hts (.fieldLink RX23 86 "OwnedPlacesModel" "p" "I") (wm_c_tkl 9 rfl)) (fun _ h9 => h9) rfl dX23_takeLives_60 ?_
          refine lv_iconst (v := 1) hx hb dX23_takeLives_63 (by decide) ?_
          refine lv_isub hx hb dX23_takeLives_64 ?_
          refine lv_topi (fun f_13 ef_13 => ?_)
          obtain rfl : f_13 = nI pp1 := ef_13.trans (nI_pred pp1)
          refine va_iast hx hb hK hP hD hS 1 0 rfl rfl (vp_in_nI (show n < 8 by omega) (by decide)) dX23_takeLives_65 (fun H locs hP hD hS => ?_)
          have hP : va_P (dC, dI) vwCl [(it, .inr (16, [.int tx, .int nx, .int kx, .int 0, .int 0, .int 0, .int (nI n), .int 0, vn, vw, vt, .null, .ref lf, vo, .null, .null, .null, vp, .int 0, .int 0, .int 0, .int 0])), (lf, .inl (kI, 8, .inl (upd g (nI n : Int32).toNatClampNeg (nI pp1)))), (mr 5, .inl (kI, 3002, .inl fk)), (mr 6, .inl (kI, 3002, .inl fa)), (m9, .inr (23, mA mr mv vf xl (nI zs) 0 xa (nI T) (nI (pp1 + 1)) xi xt xn (nI ns) (nI vv) (nI bb)))] H := hP
          have hD : va_D A [(it, .inr (16, [.int tx, .int nx, .int kx, .int 0, .int 0, .int 0, .int (nI n), .int 0, vn, vw, vt, .null, .ref lf, vo, .null, .null, .null, vp, .int 0, .int 0, .int 0, .int 0])), (lf, .inl (kI, 8, .inl (upd g (nI n : Int32).toNatClampNeg (nI pp1)))), (mr 5, .inl (kI, 3002, .inl fk)), (mr 6, .inl (kI, 3002, .inl fa)), (m9, .inr (23, mA mr mv vf xl (nI zs) 0 xa (nI T) (nI (pp1 + 1)) xi xt xn (nI ns) (nI vv) (nI bb)))] := hD
          obtain ⟨gA, egA⟩ : ∃ zZ : Nat → Int32, zZ = upd g (nI n : Int32).toNatClampNeg (nI pp1) := ⟨_, rfl⟩
          rw [← egA] at hP hD
          have hgA : gA = upd g n (nI pp1) := by rw [egA, nI_clamp (by omega)]
          refine lv_aload_n hx hb dX23_takeLives_66 rfl (lv_at hl 2 rfl) ?_
          refine lv_dup hx hb dX23_takeLives_67 rfl ?_
          refine va_get (D := (dC, dI)) (ci := 16) (v := .int (nI n)) (C := RX16) (T := TX16) (N := 22) hx hb hts in_c_tkl_X16 hown hK hP 0 rfl rfl 6 (by decide) (hts (.fieldLink RX23 184 "OwnedPlacesModel$Item" "lives" "I") (wm_c_tkl 13 rfl)) (fun _ h9 => h9) rfl dX23_takeLives_68 ?_
          refine lv_iconst (v := 1) hx hb dX23_takeLives_71 (by decide) ?_
          refine lv_iadd hx hb dX23_takeLives_72 ?_
          refine lv_topi (fun f_14 ef_14 => ?_)
          obtain rfl : f_14 = nI (n + 1) := ef_14.trans (nI_1 _)
          refine va_put (D := (dC, dI)) (ci := 16) (v := .int (nI (n + 1))) (ty := .int) (C := RX16) (T := TX16) (N := 22) hx hb hts in_c_tkl_X16 tyX16 tyX16_ok nmX16 hown hK hP hD hS 0 rfl rfl 6 (by decide) (hts (.fieldLink RX23 184 "OwnedPlacesModel$Item" "lives" "I") (wm_c_tkl 13 rfl)) (fun _ h9 => h9) rfl (by decide +kernel) rfl rfl (Nat.le_of_ble_eq_true rfl) dX23_takeLives_73 (fun H locs hP hD hS => ?_)
          have hP : va_P (dC, dI) vwCl [(it, .inr (16, [.int tx, .int nx, .int kx, .int 0, .int 0, .int 0, .int (nI (n + 1)), .int 0, vn, vw, vt, .null, .ref lf, vo, .null, .null, .null, vp, .int 0, .int 0, .int 0, .int 0])), (lf, .inl (kI, 8, .inl gA)), (mr 5, .inl (kI, 3002, .inl fk)), (mr 6, .inl (kI, 3002, .inl fa)), (m9, .inr (23, mA mr mv vf xl (nI zs) 0 xa (nI T) (nI (pp1 + 1)) xi xt xn (nI ns) (nI vv) (nI bb)))] H := hP
          have hD : va_D A [(it, .inr (16, [.int tx, .int nx, .int kx, .int 0, .int 0, .int 0, .int (nI (n + 1)), .int 0, vn, vw, vt, .null, .ref lf, vo, .null, .null, .null, vp, .int 0, .int 0, .int 0, .int 0])), (lf, .inl (kI, 8, .inl gA)), (mr 5, .inl (kI, 3002, .inl fk)), (mr 6, .inl (kI, 3002, .inl fa)), (m9, .inr (23, mA mr mv vf xl (nI zs) 0 xa (nI T) (nI (pp1 + 1)) xi xt xn (nI ns) (nI vv) (nI bb)))] := hD
          refine lv_aload_n hx hb dX23_takeLives_76 rfl (lv_at hl 1 rfl) ?_
          refine lv_bipush (v := 57) hx hb dX23_takeLives_77 (by decide) ?_
          by_cases hk_15 : fk (pp1 + 1) = 57
          · have hPc := hP.sub (ws' := [(m9, .inr (23, mA mr mv vf xl (nI zs) 0 xa (nI T) (nI (pp1 + 1)) xi xt xn (nI ns) (nI vv) (nI bb))), (mr 5, .inl (kI, 3002, .inl fk))]) [4, 2] rfl
            have hDc := hD.sub (ws' := [(m9, .inr (23, mA mr mv vf xl (nI zs) 0 xa (nI T) (nI (pp1 + 1)) xi xt xn (nI ns) (nI vv) (nI bb))), (mr 5, .inl (kI, 3002, .inl fk))]) [4, 2] (by decide) rfl
            have hKc := hK.sub (tys' := [(kI, .int)]) [0] rfl
            have hFc := va_free (wc := [(m9, .inr (23, mA mr mv vf xl (nI zs) 0 xa (nI T) (nI (pp1 + 1)) xi xt xn (nI ns) (nI vv) (nI bb))), (mr 5, .inl (kI, 3002, .inl fk))]) hD hS hA [4, 2] rfl
            refine va_calli (va_runV (As := [.int 57]) (rest := []) ⟨hx, hb, hml, hown, hts⟩ (c_rtsY l dC dI m9 mr mv vf xl xa xi xt xn zs T (pp1 + 1) ns vv bb kI fk fa 57 H.size hT hp_10 hk0 (by decide) hk_15) (cwV 1 hts g_c_tkl_c_rtsY_79 rfl rfl rfl (by decide +kernel) ⟨Nat.le_of_ble_eq_true rfl, Nat.le_of_ble_eq_true rfl⟩) ⟨fun a U g mk q => by obtain ⟨q0, q1, qP, qK, qD⟩ := q; exact ⟨q0, q1, qP, va_K.moved (u := U) (U := U.calling g mk a) (Vm.Alike.refl U.vm) qK, qD⟩, va_recv hKc hPc (ci := 23) (q0 := 0) rfl rfl, fun U hU hW => ⟨rfl, by rw [hU], by rw [hU]; exact hPc, va_K.moved hW.alike hKc, hDc.weaken (fun _ _ _ _ => trivial)⟩⟩ rfl rfl hl.1 rfl (lv_room (Nat.le_of_ble_eq_true rfl)) dX23_takeLives_79 ⟨(show 0 + 0 ≤ 0 by omega), (show 0 + 0 ≤ 0 by omega)⟩) hS (fun q _ h => hFc q h) hFc (fun r_16 u tS H1 locs ht hvm hw hB hz1 hk1 hS => ?_)
            obtain ⟨hP1, hK1, hD1⟩ := hB
            rw [ht] at hP1
            have hK1 := va_K.moved hvm.symm hK1
            obtain ⟨hP, hD⟩ := va_join (wr := [(it, .inr (16, [.int tx, .int nx, .int kx, .int 0, .int 0, .int 0, .int (nI (n + 1)), .int 0, vn, vw, vt, .null, .ref lf, vo, .null, .null, .null, vp, .int 0, .int 0, .int 0, .int 0])), (lf, .inl (kI, 8, .inl gA)), (mr 6, .inl (kI, 3002, .inl fa))]) (w1 := [(m9, .inr (23, mA mr mv vf xl (nI zs) 0 xa (nI T) (nI ((pp1 + 1) + 1)) xi xt xn (nI ns) (nI vv) (nI bb))), (mr 5, .inl (kI, 3002, .inl fk))]) hP hD [4, 2] [0, 1, 3] rfl rfl (by decide) (by decide) hk1 hFc hP1 hD1
            have hK := hK.app hK1
            generalize H1 = H at hP hS ⊢
            have hP : va_P (dC, dI) vwCl [(it, .inr (16, [.int tx, .int nx, .int kx, .int 0, .int 0, .int 0, .int (nI (n + 1)), .int 0, vn, vw, vt, .null, .ref lf, vo, .null, .null, .null, vp, .int 0, .int 0, .int 0, .int 0])), (lf, .inl (kI, 8, .inl gA)), (mr 6, .inl (kI, 3002, .inl fa)), (m9, .inr (23, mA mr mv vf xl (nI zs) 0 xa (nI T) (nI ((pp1 + 1) + 1)) xi xt xn (nI ns) (nI vv) (nI bb))), (mr 5, .inl (kI, 3002, .inl fk))] H := hP
            have hD : va_D A [(it, .inr (16, [.int tx, .int nx, .int kx, .int 0, .int 0, .int 0, .int (nI (n + 1)), .int 0, vn, vw, vt, .null, .ref lf, vo, .null, .null, .null, vp, .int 0, .int 0, .int 0, .int 0])), (lf, .inl (kI, 8, .inl gA)), (mr 6, .inl (kI, 3002, .inl fa)), (m9, .inr (23, mA mr mv vf xl (nI zs) 0 xa (nI T) (nI ((pp1 + 1) + 1)) xi xt xn (nI ns) (nI vv) (nI bb))), (mr 5, .inl (kI, 3002, .inl fk))] := hD
            have hK : va_K (dC, dI) vwCl [(kI, .int), (kI, .int)] s := hK
            have hK := hK.sub (tys' := [(kI, .int)]) [0] rfl
            clear hz1 hk1 hPc hDc hKc hFc hP1 hD1 hK1
            obtain rfl : r_16 = 1 := hw
            have hp_17 : pp1 + 1 + 1 < T := kne3 hk0 hp_10 hk_15 (by decide)
            refine lv_istore_n (lv' := [(2, .int 1), (0, .ref m9), (1, .ref it)]) hx hb dX23_takeLives_82 rfl hl (by decide) rfl (fun ls hl => ?_)
            refine lv_goto (tgt := 2) hx hb dX23_takeLives_83 (by decide) ?_
            exact ih1 (pp1 + 1 + 1) (n + 1) gA _ _ _ (⟨by omega, by omega, by omega, by omega, hT⟩) (fun i hi => by
                by_cases e9 : i = n
                · subst e9; exact ⟨pp1, by rw [hgA]; exact pk_us, by omega, by omega⟩
                · obtain ⟨s9, y9, z9⟩ := hr1 i (by omega); exact ⟨s9, by rw [hgA, pk_un e9]; exact y9, by omega, by omega⟩) (hP.sub [0, 1, 3, 4, 2] rfl) (hD.sub [0, 1, 3, 4, 2] (by decide) rfl) hS (lv_sub hl [0, 1, 2] rfl)
          · have hPc := hP.sub (ws' := [(m9, .inr (23, mA mr mv vf xl (nI zs) 0 xa (nI T) (nI (pp1 + 1)) xi xt xn (nI ns) (nI vv) (nI bb))), (mr 5, .inl (kI, 3002, .inl fk))]) [4, 2] rfl
            have hDc := hD.sub (ws' := [(m9, .inr (23, mA mr mv vf xl (nI zs) 0 xa (nI T) (nI (pp1 + 1)) xi xt xn (nI ns) (nI vv) (nI bb))), (mr 5, .inl (kI, 3002, .inl fk))]) [4, 2] (by decide) rfl
            have hKc := hK.sub (tys' := [(kI, .int)]) [0] rfl
            have hFc := va_free (wc := [(m9, .inr (23, mA mr mv vf xl (nI zs) 0 xa (nI T) (nI (pp1 + 1)) xi xt xn (nI ns) (nI vv) (nI bb))), (mr 5, .inl (kI, 3002, .inl fk))]) hD hS hA [4, 2] rfl
            refine va_calli (va_runV (As := [.int 57]) (rest := []) ⟨hx, hb, hml, hown, hts⟩ (c_rtsN l dC dI m9 mr mv vf xl xa xi xt xn zs T (pp1 + 1) ns vv bb kI fk fa 57 H.size hT hp_10 hk0 (by decide) hk_15) (cwV 1 hts g_c_tkl_c_rtsN_79 rfl rfl rfl (by decide +kernel) ⟨Nat.le_of_ble_eq_true rfl, Nat.le_of_ble_eq_true rfl⟩) ⟨fun a U g mk q => by obtain ⟨q0, q1, qP, qK, qD⟩ := q; exact ⟨q0, q1, qP, va_K.moved (u := U) (U := U.calling g mk a) (Vm.Alike.refl U.vm) qK, qD⟩, va_recv hKc hPc (ci := 23) (q0 := 0) rfl rfl, fun U hU hW => ⟨rfl, by rw [hU], by rw [hU]; exact hPc, va_K.moved hW.alike hKc, hDc.weaken (fun _ _ _ _ => trivial)⟩⟩ rfl rfl hl.1 rfl (lv_room (Nat.le_of_ble_eq_true rfl)) dX23_takeLives_79 ⟨(show 0 + 0 ≤ 0 by omega), (show 0 + 0 ≤ 0 by omega)⟩) hS (fun q _ h => hFc q h) hFc (fun r_16 u tS H1 locs ht hvm hw hB hz1 hk1 hS => ?_)
            obtain ⟨hP1, hK1, hD1⟩ := hB
            rw [ht] at hP1
            have hK1 := va_K.moved hvm.symm hK1
            obtain ⟨hP, hD⟩ := va_join (wr := [(it, .inr (16, [.int tx, .int nx, .int kx, .int 0, .int 0, .int 0, .int (nI (n + 1)), .int 0, vn, vw, vt, .null, .ref lf, vo, .null, .null, .null, vp, .int 0, .int 0, .int 0, .int 0])), (lf, .inl (kI, 8, .inl gA)), (mr 6, .inl (kI, 3002, .inl fa))]) (w1 := [(m9, .inr (23, mA mr mv vf xl (nI zs) 0 xa (nI T) (nI (pp1 + 1)) xi xt xn (nI ns) (nI vv) (nI bb))), (mr 5, .inl (kI, 3002, .inl fk))]) hP hD [4, 2] [0, 1, 3] rfl rfl (by decide) (by decide) hk1 hFc hP1 hD1
            have hK := hK.app hK1
            generalize H1 = H at hP hS ⊢
            have hP : va_P (dC, dI) vwCl [(it, .inr (16, [.int tx, .int nx, .int kx, .int 0, .int 0, .int 0, .int (nI (n + 1)), .int 0, vn, vw, vt, .null, .ref lf, vo, .null, .null, .null, vp, .int 0, .int 0, .int 0, .int 0])), (lf, .inl (kI, 8, .inl gA)), (mr 6, .inl (kI, 3002, .inl fa)), (m9, .inr (23, mA mr mv vf xl (nI zs) 0 xa (nI T) (nI (pp1 + 1)) xi xt xn (nI ns) (nI vv) (nI bb))), (mr 5, .inl (kI, 3002, .inl fk))] H := hP
            have hD : va_D A [(it, .inr (16, [.int tx, .int nx, .int kx, .int 0, .int 0, .int 0, .int (nI (n + 1)), .int 0, vn, vw, vt, .null, .ref lf, vo, .null, .null, .null, vp, .int 0, .int 0, .int 0, .int 0])), (lf, .inl (kI, 8, .inl gA)), (mr 6, .inl (kI, 3002, .inl fa)), (m9, .inr (23, mA mr mv vf xl (nI zs) 0 xa (nI T) (nI (pp1 + 1)) xi xt xn (nI ns) (nI vv) (nI bb))), (mr 5, .inl (kI, 3002, .inl fk))] := hD
            have hK : va_K (dC, dI) vwCl [(kI, .int), (kI, .int)] s := hK
            have hK := hK.sub (tys' := [(kI, .int)]) [0] rfl
            clear hz1 hk1 hPc hDc hKc hFc hP1 hD1 hK1
            obtain rfl : r_16 = 0 := hw
            refine lv_istore_n (lv' := [(2, .int 0), (0, .ref m9), (1, .ref it)]) hx hb dX23_takeLives_82 rfl hl (by decide) rfl (fun ls hl => ?_)
            refine lv_goto (tgt := 2) hx hb dX23_takeLives_83 (by decide) ?_
            refine lv_aload_n hx hb dX23_takeLives_2 rfl (lv_at hl 1 rfl) ?_
            have hPc := hP.sub (ws' := [(m9, .inr (23, mA mr mv vf xl (nI zs) 0 xa (nI T) (nI (pp1 + 1)) xi xt xn (nI ns) (nI vv) (nI bb)))]) [3] rfl
            have hDc := hD.sub (ws' := [(m9, .inr (23, mA mr mv vf xl (nI zs) 0 xa (nI T) (nI (pp1 + 1)) xi xt xn (nI ns) (nI vv) (nI bb)))]) [3] (by decide) rfl
            have hKc := hK.sub (tys' := []) [] rfl
            have hFc := va_free (wc := [(m9, .inr (23, mA mr mv vf xl (nI zs) 0 xa (nI T) (nI (pp1 + 1)) xi xt xn (nI ns) (nI vv) (nI bb)))]) hD hS hA [3] rfl
            refine va_calli (va_runV (As := []) (rest := []) ⟨hx, hb, hml, hown, hts⟩ (c_rok0 l dC dI m9 mr mv vf xl xa xi xt xn zs T (pp1 + 1) ns vv bb kI fk fa H.size) (cwV 0 hts g_c_tkl_c_rok0_3 rfl rfl rfl (by decide +kernel) ⟨Nat.le_of_ble_eq_true rfl, Nat.le_of_ble_eq_true rfl⟩) ⟨fun a U g mk q => by obtain ⟨q0, q1, qP, qK, qD⟩ := q; exact ⟨q0, q1, qP, va_K.moved (u := U) (U := U.calling g mk a) (Vm.Alike.refl U.vm) qK, qD⟩, va_recv hKc hPc (ci := 23) (q0 := 0) rfl rfl, fun U hU hW => ⟨rfl, by rw [hU], by rw [hU]; exact hPc, va_K.moved hW.alike hKc, hDc.weaken (fun _ _ _ _ => trivial)⟩⟩ rfl rfl hl.1 rfl (lv_room (Nat.le_of_ble_eq_true rfl)) dX23_takeLives_3 ⟨(show 0 + 0 ≤ 0 by omega), (show 0 + 0 ≤ 0 by omega)⟩) hS (fun q _ h => hFc q h) hFc (fun r_17 u tS H1 locs ht hvm hw hB hz1 hk1 hS => ?_)
            obtain ⟨hP1, hK1, hD1⟩ := hB
            rw [ht] at hP1
            have hK1 := va_K.moved hvm.symm hK1
            obtain ⟨hP, hD⟩ := va_join (wr := [(it, .inr (16, [.int tx, .int nx, .int kx, .int 0, .int 0, .int 0, .int (nI (n + 1)), .int 0, vn, vw, vt, .null, .ref lf, vo, .null, .null, .null, vp, .int 0, .int 0, .int 0, .int 0])), (lf, .inl (kI, 8, .inl gA)), (mr 6, .inl (kI, 3002, .inl fa)), (mr 5, .inl (kI, 3002, .inl fk))]) (w1 := [(m9, .inr (23, mA mr mv vf xl (nI zs) 0 xa (nI T) (nI (pp1 + 1)) xi xt xn (nI ns) (nI vv) (nI bb)))]) hP hD [3] [0, 1, 2, 4] rfl rfl (by decide) (by decide) hk1 hFc hP1 hD1
            generalize H1 = H at hP hS ⊢
            have hP : va_P (dC, dI) vwCl [(it, .inr (16, [.int tx, .int nx, .int kx, .int 0, .int 0, .int 0, .int (nI (n + 1)), .int 0, vn, vw, vt, .null, .ref lf, vo, .null, .null, .null, vp, .int 0, .int 0, .int 0, .int 0])), (lf, .inl (kI, 8, .inl gA)), (mr 6, .inl (kI, 3002, .inl fa)), (mr 5, .inl (kI, 3002, .inl fk)), (m9, .inr (23, mA mr mv vf xl (nI zs) 0 xa (nI T) (nI (pp1 + 1)) xi xt xn (nI ns) (nI vv) (nI bb)))] H := hP
            have hD : va_D A [(it, .inr (16, [.int tx, .int nx, .int kx, .int 0, .int 0, .int 0, .int (nI (n + 1)), .int 0, vn, vw, vt, .null, .ref lf, vo, .null, .null, .null, vp, .int 0, .int 0, .int 0, .int 0])), (lf, .inl (kI, 8, .inl gA)), (mr 6, .inl (kI, 3002, .inl fa)), (mr 5, .inl (kI, 3002, .inl fk)), (m9, .inr (23, mA mr mv vf xl (nI zs) 0 xa (nI T) (nI (pp1 + 1)) xi xt xn (nI ns) (nI vv) (nI bb)))] := hD
            have hK : va_K (dC, dI) vwCl [(kI, .int)] s := hK
            clear hz1 hk1 hPc hDc hKc hFc hP1 hD1 hK1
            obtain rfl : r_17 = 1 := hw
            refine lv_if_eq (tgt := 86) hx hb dX23_takeLives_6 (by decide) (fun c_18 => absurd c_18 (by decide)) (fun _ => ?_)
            refine lv_iload_n hx hb dX23_takeLives_9 rfl (lv_at hl 0 rfl) ?_
            refine lv_if_eq (tgt := 86) hx hb dX23_takeLives_10 (by decide) (fun _ => ?_) (fun c_19 => absurd (by decide) c_19)
            refine lv_aload_n hx hb dX23_takeLives_86 rfl (lv_at hl 1 rfl) ?_
            refine lv_bipush (v := 49) hx hb dX23_takeLives_87 (by decide) ?_
            by_cases hk_20 : fk (pp1 + 1) = 49
            · have hPc := hP.sub (ws' := [(m9, .inr (23, mA mr mv vf xl (nI zs) 0 xa (nI T) (nI (pp1 + 1)) xi xt xn (nI ns) (nI vv) (nI bb))), (mr 5, .inl (kI, 3002, .inl fk)), (mr 6, .inl (kI, 3002, .inl fa))]) [4, 3, 2] rfl
              have hDc := hD.sub (ws' := [(m9, .inr (23, mA mr mv vf xl (nI zs) 0 xa (nI T) (nI (pp1 + 1)) xi xt xn (nI ns) (nI vv) (nI bb))), (mr 5, .inl (kI, 3002, .inl fk)), (mr 6, .inl (kI, 3002, .inl fa))]) [4, 3, 2] (by decide) rfl
              have hKc := hK.sub (tys' := [(kI, .int)]) [0] rfl
              have hFc := va_free (wc := [(m9, .inr (23, mA mr mv vf xl (nI zs) 0 xa (nI T) (nI (pp1 + 1)) xi xt xn (nI ns) (nI vv) (nI bb))), (mr 5, .inl (kI, 3002, .inl fk)), (mr 6, .inl (kI, 3002, .inl fa))]) hD hS hA [4, 3, 2] rfl
              refine va_callv (va_runV (As := [.int 49]) (rest := []) ⟨hx, hb, hml, hown, hts⟩ (c_rtkY l dC dI m9 mr mv vf xl xa xi xt xn zs T (pp1 + 1) ns vv bb kI fk fa 49 H.size hT hp_10 hk0 (by decide) hk_20) (cwV 1 hts g_c_tkl_c_rtkY_89 rfl rfl rfl (by decide +kernel) ⟨Nat.le_of_ble_eq_true rfl, Nat.le_of_ble_eq_true rfl⟩) ⟨fun a U g mk q => by obtain ⟨q0, q1, qP, qK, qD⟩ := q; exact ⟨q0, q1, qP, va_K.moved (u := U) (U := U.calling g mk a) (Vm.Alike.refl U.vm) qK, qD⟩, va_recv hKc hPc (ci := 23) (q0 := 0) rfl rfl, fun U hU hW => ⟨rfl, by rw [hU], by rw [hU]; exact hPc, va_K.moved hW.alike hKc, hDc.weaken (fun _ _ _ _ => trivial)⟩⟩ rfl rfl hl.1 rfl (lv_room (Nat.le_of_ble_eq_true rfl)) dX23_takeLives_89 ⟨(show 0 + 0 ≤ 0 by omega), (show 0 + 0 ≤ 0 by omega)⟩) hS (fun q _ h => hFc q h) hFc (fun u tS H1 locs ht hvm hw hB hz1 hk1 hS => ?_)
              obtain ⟨hP1, hK1, hD1⟩ := hB
              rw [ht] at hP1
              have hK1 := va_K.moved hvm.symm hK1
              obtain ⟨hP, hD⟩ := va_join (wr := [(it, .inr (16, [.int tx, .int nx, .int kx, .int 0, .int 0, .int 0, .int (nI (n + 1)), .int 0, vn, vw, vt, .null, .ref lf, vo, .null, .null, .null, vp, .int 0, .int 0, .int 0, .int 0])), (lf, .inl (kI, 8, .inl gA))]) (w1 := [(m9, .inr (23, mA mr mv vf xl (nI zs) 0 xa (nI T) (nI ((pp1 + 1) + 1)) xi xt xn (nI ns) (nI vv) (nI bb))), (mr 5, .inl (kI, 3002, .inl fk)), (mr 6, .inl (kI, 3002, .inl fa))]) hP hD [4, 3, 2] [0, 1] rfl rfl (by decide) (by decide) hk1 hFc hP1 hD1
              have hK := hK.app hK1
              generalize H1 = H at hP hS ⊢
              have hP : va_P (dC, dI) vwCl [(it, .inr (16, [.int tx, .int nx, .int kx, .int 0, .int 0, .int 0, .int (nI (n + 1)), .int 0, vn, vw, vt, .null, .ref lf, vo, .null, .null, .null, vp, .int 0, .int 0, .int 0, .int 0])), (lf, .inl (kI, 8, .inl gA)), (m9, .inr (23, mA mr mv vf xl (nI zs) 0 xa (nI T) (nI ((pp1 + 1) + 1)) xi xt xn (nI ns) (nI vv) (nI bb))), (mr 5, .inl (kI, 3002, .inl fk)), (mr 6, .inl (kI, 3002, .inl fa))] H := hP
              have hD : va_D A [(it, .inr (16, [.int tx, .int nx, .int kx, .int 0, .int 0, .int 0, .int (nI (n + 1)), .int 0, vn, vw, vt, .null, .ref lf, vo, .null, .null, .null, vp, .int 0, .int 0, .int 0, .int 0])), (lf, .inl (kI, 8, .inl gA)), (m9, .inr (23, mA mr mv vf xl (nI zs) 0 xa (nI T) (nI ((pp1 + 1) + 1)) xi xt xn (nI ns) (nI vv) (nI bb))), (mr 5, .inl (kI, 3002, .inl fk)), (mr 6, .inl (kI, 3002, .inl fa))] := hD
              have hK : va_K (dC, dI) vwCl [(kI, .int), (kI, .int)] s := hK
              have hK := hK.sub (tys' := [(kI, .int)]) [0] rfl
              clear hz1 hk1 hPc hDc hKc hFc hP1 hD1 hK1
              have hp_22 : pp1 + 1 + 1 < T := kne3 hk0 hp_10 hk_20 (by decide)
              have hnm9 : ∀ i : Nat, i < n + 1 → ∃ s9 : Nat, gA i = nI s9 ∧ pp ≤ s9 ∧ s9 < pp1 + 1 + 1 := (fun i hi => by
                  by_cases e9 : i = n
                  · subst e9; exact ⟨pp1, by rw [hgA]; exact pk_us, by omega, by omega⟩
                  · obtain ⟨s9, y9, z9⟩ := hr1 i (by omega); exact ⟨s9, by rw [hgA, pk_un e9]; exact y9, by omega, by omega⟩)
              have hP9 := hP.sub (ws' := [(it, .inr (16, [.int tx, .int nx, .int kx, .int 0, .int 0, .int 0, .int (nI (n + 1)), .int 0, vn, vw, vt, .null, .ref lf, vo, .null, .null, .null, vp, .int 0, .int 0, .int 0, .int 0])), (lf, .inl (kI, 8, .inl gA)), (m9, .inr (23, mA mr mv vf xl (nI zs) 0 xa (nI T) (nI (pp1 + 1 + 1)) xi xt xn (nI ns) (nI vv) (nI bb))), (mr 5, .inl (kI, 3002, .inl fk)), (mr 6, .inl (kI, 3002, .inl fa))]) [0, 1, 2, 3, 4] rfl
              have hD9 := hD.sub (ws' := [(it, .inr (16, [.int tx, .int nx, .int kx, .int 0, .int 0, .int 0, .int (nI (n + 1)), .int 0, vn, vw, vt, .null, .ref lf, vo, .null, .null, .null, vp, .int 0, .int 0, .int 0, .int 0])), (lf, .inl (kI, 8, .inl gA)), (m9, .inr (23, mA mr mv vf xl (nI zs) 0 xa (nI T) (nI (pp1 + 1 + 1)) xi xt xn (nI ns) (nI vv) (nI bb))), (mr 5, .inl (kI, 3002, .inl fk)), (mr 6, .inl (kI, 3002, .inl fa))]) [0, 1, 2, 3, 4] (by decide) rfl
              have hK9 := hK.sub (tys' := [(kI, .int)]) [0] rfl
              subst hQ1
              exact W.vret hx hb hr (fun tS ht hW => ⟨⟨(), rfl, trivial, 0, xa, pp1 + 1 + 1, n + 1, gA, ⟨by omega, by omega⟩, (fun _ => ⟨by omega, by omega, hnm9⟩), by rw [ht]; exact hP9, va_K.moved hW.alike hK9, hD9⟩, hS.F ht⟩) hS.2.2 dX23_takeLives_92
            · have hPc := hP.sub (ws' := [(m9, .inr (23, mA mr mv vf xl (nI zs) 0 xa (nI T) (nI (pp1 + 1)) xi xt xn (nI ns) (nI vv) (nI bb))), (mr 5, .inl (kI, 3002, .inl fk)), (mr 6, .inl (kI, 3002, .inl fa))]) [4, 3, 2] rfl
              have hDc := hD.sub (ws' := [(m9, .inr (23, mA mr mv vf xl (nI zs) 0 xa (nI T) (nI (pp1 + 1)) xi xt xn (nI ns) (nI vv) (nI bb))), (mr 5, .inl (kI, 3002, .inl fk)), (mr 6, .inl (kI, 3002, .inl fa))]) [4, 3, 2] (by decide) rfl
              have hKc := hK.sub (tys' := [(kI, .int)]) [0] rfl
              have hFc := va_free (wc := [(m9, .inr (23, mA mr mv vf xl (nI zs) 0 xa (nI T) (nI (pp1 + 1)) xi xt xn (nI ns) (nI vv) (nI bb))), (mr 5, .inl (kI, 3002, .inl fk)), (mr 6, .inl (kI, 3002, .inl fa))]) hD hS hA [4, 3, 2] rfl
              refine va_callv (va_runV (As := [.int 49]) (rest := []) ⟨hx, hb, hml, hown, hts⟩ (c_rtkN l dC dI m9 mr mv vf xl xa xi xt xn zs T (pp1 + 1) ns vv bb kI fk fa 49 H.size hT hp_10 hk0 (by decide) hk_20) (cwV 1 hts g_c_tkl_c_rtkN_89 rfl rfl rfl (by decide +kernel) ⟨Nat.le_of_ble_eq_true rfl, Nat.le_of_ble_eq_true rfl⟩) ⟨fun a U g mk q => by obtain ⟨q0, q1, qP, qK, qD⟩ := q; exact ⟨q0, q1, qP, va_K.moved (u := U) (U := U.calling g mk a) (Vm.Alike.refl U.vm) qK, qD⟩, va_recv hKc hPc (ci := 23) (q0 := 0) rfl rfl, fun U hU hW => ⟨rfl, by rw [hU], by rw [hU]; exact hPc, va_K.moved hW.alike hKc, hDc.weaken (fun _ _ _ _ => trivial)⟩⟩ rfl rfl hl.1 rfl (lv_room (Nat.le_of_ble_eq_true rfl)) dX23_takeLives_89 ⟨(show 0 + 0 ≤ 0 by omega), (show 0 + 0 ≤ 0 by omega)⟩) hS (fun q _ h => hFc q h) hFc (fun u tS H1 locs ht hvm hw hB hz1 hk1 hS => ?_)
              obtain ⟨ff_21, xa_22, hf23_0, hP1, hK1, hD1⟩ := hB
              rw [ht] at hP1
              have hK1 := va_K.moved hvm.symm hK1
              obtain ⟨hP, hD⟩ := va_join (wr := [(it, .inr (16, [.int tx, .int nx, .int kx, .int 0, .int 0, .int 0, .int (nI (n + 1)), .int 0, vn, vw, vt, .null, .ref lf, vo, .null, .null, .null, vp, .int 0, .int 0, .int 0, .int 0])), (lf, .inl (kI, 8, .inl gA))]) (w1 := [(m9, .inr (23, mA mr mv vf xl (nI zs) ff_21 xa_22 (nI T) (nI (pp1 + 1)) xi xt xn (nI ns) (nI vv) (nI bb))), (mr 5, .inl (kI, 3002, .inl fk)), (mr 6, .inl (kI, 3002, .inl fa))]) hP hD [4, 3, 2] [0, 1] rfl rfl (by decide) (by decide) hk1 hFc hP1 hD1
              have hK := hK.app hK1
              generalize H1 = H at hP hS ⊢
              have hP : va_P (dC, dI) vwCl [(it, .inr (16, [.int tx, .int nx, .int kx, .int 0, .int 0, .int 0, .int (nI (n + 1)), .int 0, vn, vw, vt, .null, .ref lf, vo, .null, .null, .null, vp, .int 0, .int 0, .int 0, .int 0])), (lf, .inl (kI, 8, .inl gA)), (m9, .inr (23, mA mr mv vf xl (nI zs) ff_21 xa_22 (nI T) (nI (pp1 + 1)) xi xt xn (nI ns) (nI vv) (nI bb))), (mr 5, .inl (kI, 3002, .inl fk)), (mr 6, .inl (kI, 3002, .inl fa))] H := hP
              have hD : va_D A [(it, .inr (16, [.int tx, .int nx, .int kx, .int 0, .int 0, .int 0, .int (nI (n + 1)), .int 0, vn, vw, vt, .null, .ref lf, vo, .null, .null, .null, vp, .int 0, .int 0, .int 0, .int 0])), (lf, .inl (kI, 8, .inl gA)), (m9, .inr (23, mA mr mv vf xl (nI zs) ff_21 xa_22 (nI T) (nI (pp1 + 1)) xi xt xn (nI ns) (nI vv) (nI bb))), (mr 5, .inl (kI, 3002, .inl fk)), (mr 6, .inl (kI, 3002, .inl fa))] := hD
              have hK : va_K (dC, dI) vwCl [(kI, .int), (kI, .int)] s := hK
              have hK := hK.sub (tys' := [(kI, .int)]) [0] rfl
              clear hz1 hk1 hPc hDc hKc hFc hP1 hD1 hK1
              have hP9 := hP.sub (ws' := [(it, .inr (16, [.int tx, .int nx, .int kx, .int 0, .int 0, .int 0, .int (nI (n + 1)), .int 0, vn, vw, vt, .null, .ref lf, vo, .null, .null, .null, vp, .int 0, .int 0, .int 0, .int 0])), (lf, .inl (kI, 8, .inl gA)), (m9, .inr (23, mA mr mv vf xl (nI zs) ff_21 xa_22 (nI T) (nI (pp1 + 1)) xi xt xn (nI ns) (nI vv) (nI bb))), (mr 5, .inl (kI, 3002, .inl fk)), (mr 6, .inl (kI, 3002, .inl fa))]) [0, 1, 2, 3, 4] rfl
              have hD9 := hD.sub (ws' := [(it, .inr (16, [.int tx, .int nx, .int kx, .int 0, .int 0, .int 0, .int (nI (n + 1)), .int 0, vn, vw, vt, .null, .ref lf, vo, .null, .null, .null, vp, .int 0, .int 0, .int 0, .int 0])), (lf, .inl (kI, 8, .inl gA)), (m9, .inr (23, mA mr mv vf xl (nI zs) ff_21 xa_22 (nI T) (nI (pp1 + 1)) xi xt xn (nI ns) (nI vv) (nI bb))), (mr 5, .inl (kI, 3002, .inl fk)), (mr 6, .inl (kI, 3002, .inl fa))]) [0, 1, 2, 3, 4] (by decide) rfl
              have hK9 := hK.sub (tys' := [(kI, .int)]) [0] rfl
              subst hQ1
              exact W.vret hx hb hr (fun tS ht hW => ⟨⟨(), rfl, trivial, ff_21, xa_22, pp1 + 1, n + 1, gA, ⟨by omega, by omega⟩, (fun q9 => absurd q9 hf23_0), by rw [ht]; exact hP9, va_K.moved hW.alike hK9, hD9⟩, hS.F ht⟩) hS.2.2 dX23_takeLives_92
      · have hPc := hP.sub (ws' := [(m9, .inr (23, mA mr mv vf xl (nI zs) 0 xa (nI T) (nI pp1) xi xt xn (nI ns) (nI vv) (nI bb))), (mr 5, .inl (kI, 3002, .inl fk))]) [4, 2] rfl
        have hDc := hD.sub (ws' := [(m9, .inr (23, mA mr mv vf xl (nI zs) 0 xa (nI T) (nI pp1) xi xt xn (nI ns) (nI vv) (nI bb))), (mr 5, .inl (kI, 3002, .inl fk))]) [4, 2] (by decide) rfl
        have hKc := hK.sub (tys' := [(kI, .int)]) [0] rfl
        have hFc := va_free (wc := [(m9, .inr (23, mA mr mv vf xl (nI zs) 0 xa (nI T) (nI pp1) xi xt xn (nI ns) (nI vv) (nI bb))), (mr 5, .inl (kI, 3002, .inl fk))]) hD hS hA [4, 2] rfl
        refine va_calli (va_runV (As := [.int 4]) (rest := []) ⟨hx, hb, hml, hown, hts⟩ (c_risN l dC dI m9 mr mv vf xl xa xi xt xn zs T pp1 ns vv bb kI fk fa 0 4 H.size hT hr0.2.2.1 hk_4) (cwV 1 hts g_c_tkl_c_risN_15 rfl rfl rfl (by decide +kernel) ⟨Nat.le_of_ble_eq_true rfl, Nat.le_of_ble_eq_true rfl⟩) ⟨fun a U g mk q => by obtain ⟨q0, q1, qP, qK, qD⟩ := q; exact ⟨q0, q1, qP, va_K.moved (u := U) (U := U.calling g mk a) (Vm.Alike.refl U.vm) qK, qD⟩, va_recv hKc hPc (ci := 23) (q0 := 0) rfl rfl, fun U hU hW => ⟨rfl, by rw [hU], by rw [hU]; exact hPc, va_K.moved hW.alike hKc, hDc.weaken (fun _ _ _ _ => trivial)⟩⟩ rfl rfl hl.1 rfl (lv_room (Nat.le_of_ble_eq_true rfl)) dX23_takeLives_15 ⟨(show 0 + 0 ≤ 0 by omega), (show 0 + 0 ≤ 0 by omega)⟩) hS (fun q _ h => hFc q h) hFc (fun r_5 u tS H1 locs ht hvm hw hB hz1 hk1 hS => ?_)
        obtain ⟨hP1, hK1, hD1⟩ := hB
        rw [ht] at hP1
        have hK1 := va_K.moved hvm.symm hK1
        obtain ⟨hP, hD⟩ := va_join (wr := [(it, .inr (16, [.int tx, .int nx, .int kx, .int 0, .int 0, .int 0, .int (nI n), .int 0, vn, vw, vt, .null, .ref lf, vo, .null, .null, .null, vp, .int 0, .int 0, .int 0, .int 0])), (lf, .inl (kI, 8, .inl g)), (mr 6, .inl (kI, 3002, .inl fa))]) (w1 := [(m9, .inr (23, mA mr mv vf xl (nI zs) 0 xa (nI T) (nI pp1) xi xt xn (nI ns) (nI vv) (nI bb))), (mr 5, .inl (kI, 3002, .inl fk))]) hP hD [4, 2] [0, 1, 3] rfl rfl (by decide) (by decide) hk1 hFc hP1 hD1
        have hK := hK.app hK1
        generalize H1 = H at hP hS ⊢
        have hP : va_P (dC, dI) vwCl [(it, .inr (16, [.int tx, .int nx, .int kx, .int 0, .int 0, .int 0, .int (nI n), .int 0, vn, vw, vt, .null, .ref lf, vo, .null, .null, .null, vp, .int 0, .int 0, .int 0, .int 0])), (lf, .inl (kI, 8, .inl g)), (mr 6, .inl (kI, 3002, .inl fa)), (m9, .inr (23, mA mr mv vf xl (nI zs) 0 xa (nI T) (nI pp1) xi xt xn (nI ns) (nI vv) (nI bb))), (mr 5, .inl (kI, 3002, .inl fk))] H := hP
        have hD : va_D A [(it, .inr (16, [.int tx, .int nx, .int kx, .int 0, .int 0, .int 0, .int (nI n), .int 0, vn, vw, vt, .null, .ref lf, vo, .null, .null, .null, vp, .int 0, .int 0, .int 0, .int 0])), (lf, .inl (kI, 8, .inl g)), (mr 6, .inl (kI, 3002, .inl fa)), (m9, .inr (23, mA mr mv vf xl (nI zs) 0 xa (nI T) (nI pp1) xi xt xn (nI ns) (nI vv) (nI bb))), (mr 5, .inl (kI, 3002, .inl fk))] := hD
        have hK : va_K (dC, dI) vwCl [(kI, .int), (kI, .int)] s := hK
        have hK := hK.sub (tys' := [(kI, .int)]) [0] rfl
        clear hz1 hk1 hPc hDc hKc hFc hP1 hD1 hK1
        obtain rfl : r_5 = 0 := hw
        refine lv_if_eq (tgt := 39) hx hb dX23_takeLives_18 (by decide) (fun _ => ?_) (fun c_6 => absurd (by decide) c_6)
        refine lv_aload_n hx hb dX23_takeLives_39 rfl (lv_at hl 1 rfl) ?_
        refine lv_iconst (v := 4) hx hb dX23_takeLives_40 (by decide) ?_
        have hPc := hP.sub (ws' := [(m9, .inr (23, mA mr mv vf xl (nI zs) 0 xa (nI T) (nI pp1) xi xt xn (nI ns) (nI vv) (nI bb))), (mr 5, .inl (kI, 3002, .inl fk)), (mr 6, .inl (kI, 3002, .inl fa))]) [3, 4, 2] rfl
        have hDc := hD.sub (ws' := [(m9, .inr (23, mA mr mv vf xl (nI zs) 0 xa (nI T) (nI pp1) xi xt xn (nI ns) (nI vv) (nI bb))), (mr 5, .inl (kI, 3002, .inl fk)), (mr 6, .inl (kI, 3002, .inl fa))]) [3, 4, 2] (by decide) rfl
        have hKc := hK.sub (tys' := [(kI, .int)]) [0] rfl
        have hFc := va_free (wc := [(m9, .inr (23, mA mr mv vf xl (nI zs) 0 xa (nI T) (nI pp1) xi xt xn (nI ns) (nI vv) (nI bb))), (mr 5, .inl (kI, 3002, .inl fk)), (mr 6, .inl (kI, 3002, .inl fa))]) hD hS hA [3, 4, 2] rfl
        refine va_callv (va_runV (As := [.int 4]) (rest := []) ⟨hx, hb, hml, hown, hts⟩ (c_rtkN l dC dI m9 mr mv vf xl xa xi xt xn zs T pp1 ns vv bb kI fk fa 4 H.size hT hr0.2.2.1 hk0 (by decide) hk_4) (cwV 1 hts g_c_tkl_c_rtkN_41 rfl rfl rfl (by decide +kernel) ⟨Nat.le_of_ble_eq_true rfl, Nat.le_of_ble_eq_true rfl⟩) ⟨fun a U g mk q => by obtain ⟨q0, q1, qP, qK, qD⟩ := q; exact ⟨q0, q1, qP, va_K.moved (u := U) (U := U.calling g mk a) (Vm.Alike.refl U.vm) qK, qD⟩, va_recv hKc hPc (ci := 23) (q0 := 0) rfl rfl, fun U hU hW => ⟨rfl, by rw [hU], by rw [hU]; exact hPc, va_K.moved hW.alike hKc, hDc.weaken (fun _ _ _ _ => trivial)⟩⟩ rfl rfl hl.1 rfl (lv_room (Nat.le_of_ble_eq_true rfl)) dX23_takeLives_41 ⟨(show 0 + 0 ≤ 0 by omega), (show 0 + 0 ≤ 0 by omega)⟩) hS (fun q _ h => hFc q h) hFc (fun u tS H1 locs ht hvm hw hB hz1 hk1 hS => ?_)
        obtain ⟨ff_7, xa_8, hf9_0, hP1, hK1, hD1⟩ := hB
        rw [ht] at hP1
        have hK1 := va_K.moved hvm.symm hK1
        obtain ⟨hP, hD⟩ := va_join (wr := [(it, .inr (16, [.int tx, .int nx, .int kx, .int 0, .int 0, .int 0, .int (nI n), .int 0, vn, vw, vt, .null, .ref lf, vo, .null, .null, .null, vp, .int 0, .int 0, .int 0, .int 0])), (lf, .inl (kI, 8, .inl g))]) (w1 := [(m9, .inr (23, mA mr mv vf xl (nI zs) ff_7 xa_8 (nI T) (nI pp1) xi xt xn (nI ns) (nI vv) (nI bb))), (mr 5, .inl (kI, 3002, .inl fk)), (mr 6, .inl (kI, 3002, .inl fa))]) hP hD [3, 4, 2] [0, 1] rfl rfl (by decide) (by decide) hk1 hFc hP1 hD1
        have hK := hK.app hK1
        generalize H1 = H at hP hS ⊢
        have hP : va_P (dC, dI) vwCl [(it, .inr (16, [.int tx, .int nx, .int kx, .int 0, .int 0, .int 0, .int (nI n), .int 0, vn, vw, vt, .null, .ref lf, vo, .null, .null, .null, vp, .int 0, .int 0, .int 0, .int 0])), (lf, .inl (kI, 8, .inl g)), (m9, .inr (23, mA mr mv vf xl (nI zs) ff_7 xa_8 (nI T) (nI pp1) xi xt xn (nI ns) (nI vv) (nI bb))), (mr 5, .inl (kI, 3002, .inl fk)), (mr 6, .inl (kI, 3002, .inl fa))] H := hP
        have hD : va_D A [(it, .inr (16, [.int tx, .int nx, .int kx, .int 0, .int 0, .int 0, .int (nI n), .int 0, vn, vw, vt, .null, .ref lf, vo, .null, .null, .null, vp, .int 0, .int 0, .int 0, .int 0])), (lf, .inl (kI, 8, .inl g)), (m9, .inr (23, mA mr mv vf xl (nI zs) ff_7 xa_8 (nI T) (nI pp1) xi xt xn (nI ns) (nI vv) (nI bb))), (mr 5, .inl (kI, 3002, .inl fk)), (mr 6, .inl (kI, 3002, .inl fa))] := hD
        have hK : va_K (dC, dI) vwCl [(kI, .int), (kI, .int)] s := hK
        have hK := hK.sub (tys' := [(kI, .int)]) [0] rfl
        clear hz1 hk1 hPc hDc hKc hFc hP1 hD1 hK1
        refine lv_aload_n hx hb dX23_takeLives_44 rfl (lv_at hl 1 rfl) ?_
        have hPc := hP.sub (ws' := [(m9, .inr (23, mA mr mv vf xl (nI zs) ff_7 xa_8 (nI T) (nI pp1) xi xt xn (nI ns) (nI vv) (nI bb)))]) [2] rfl
        have hDc := hD.sub (ws' := [(m9, .inr (23, mA mr mv vf xl (nI zs) ff_7 xa_8 (nI T) (nI pp1) xi xt xn (nI ns) (nI vv) (nI bb)))]) [2] (by decide) rfl
        have hKc := hK.sub (tys' := []) [] rfl
        have hFc := va_free (wc := [(m9, .inr (23, mA mr mv vf xl (nI zs) ff_7 xa_8 (nI T) (nI pp1) xi xt xn (nI ns) (nI vv) (nI bb)))]) hD hS hA [2] rfl
        refine va_calli (va_runV (As := []) (rest := []) ⟨hx, hb, hml, hown, hts⟩ (c_rokB l dC dI m9 mr mv vf xl xa_8 xi xt xn zs T pp1 ns vv bb kI fk fa ff_7 H.size hf9_0) (cwV 0 hts g_c_tkl_c_rokB_45 rfl rfl rfl (by decide +kernel) ⟨Nat.le_of_ble_eq_true rfl, Nat.le_of_ble_eq_true rfl⟩) ⟨fun a U g mk q => by obtain ⟨q0, q1, qP, qK, qD⟩ := q; exact ⟨q0, q1, qP, va_K.moved (u := U) (U := U.calling g mk a) (Vm.Alike.refl U.vm) qK, qD⟩, va_recv hKc hPc (ci := 23) (q0 := 0) rfl rfl, fun U hU hW => ⟨rfl, by rw [hU], by rw [hU]; exact hPc, va_K.moved hW.alike hKc, hDc.weaken (fun _ _ _ _ => trivial)⟩⟩ rfl rfl hl.1 rfl (lv_room (Nat.le_of_ble_eq_true rfl)) dX23_takeLives_45 ⟨(show 0 + 0 ≤ 0 by omega), (show 0 + 0 ≤ 0 by omega)⟩) hS (fun q _ h => hFc q h) hFc (fun r_10 u tS H1 locs ht hvm hw hB hz1 hk1 hS => ?_)
        obtain ⟨hP1, hK1, hD1⟩ := hB
        rw [ht] at hP1
        have hK1 := va_K.moved hvm.symm hK1
        obtain ⟨hP, hD⟩ := va_join (wr := [(it, .inr (16, [.int tx, .int nx, .int kx, .int 0, .int 0, .int 0, .int (nI n), .int 0, vn, vw, vt, .null, .ref lf, vo, .null, .null, .null, vp, .int 0, .int 0, .int 0, .int 0])), (lf, .inl (kI, 8, .inl g)), (mr 5, .inl (kI, 3002, .inl fk)), (mr 6, .inl (kI, 3002, .inl fa))]) (w1 := [(m9, .inr (23, mA mr mv vf xl (nI zs) ff_7 xa_8 (nI T) (nI pp1) xi xt xn (nI ns) (nI vv) (nI bb)))]) hP hD [2] [0, 1, 3, 4] rfl rfl (by decide) (by decide) hk1 hFc hP1 hD1
        generalize H1 = H at hP hS ⊢
        have hP : va_P (dC, dI) vwCl [(it, .inr (16, [.int tx, .int nx, .int kx, .int 0, .int 0, .int 0, .int (nI n), .int 0, vn, vw, vt, .null, .ref lf, vo, .null, .null, .null, vp, .int 0, .int 0, .int 0, .int 0])), (lf, .inl (kI, 8, .inl g)), (mr 5, .inl (kI, 3002, .inl fk)), (mr 6, .inl (kI, 3002, .inl fa)), (m9, .inr (23, mA mr mv vf xl (nI zs) ff_7 xa_8 (nI T) (nI pp1) xi xt xn (nI ns) (nI vv) (nI bb)))] H := hP
        have hD : va_D A [(it, .inr (16, [.int tx, .int nx, .int kx, .int 0, .int 0, .int 0, .int (nI n), .int 0, vn, vw, vt, .null, .ref lf, vo, .null, .null, .null, vp, .int 0, .int 0, .int 0, .int 0])), (lf, .inl (kI, 8, .inl g)), (mr 5, .inl (kI, 3002, .inl fk)), (mr 6, .inl (kI, 3002, .inl fa)), (m9, .inr (23, mA mr mv vf xl (nI zs) ff_7 xa_8 (nI T) (nI pp1) xi xt xn (nI ns) (nI vv) (nI bb)))] := hD
        have hK : va_K (dC, dI) vwCl [(kI, .int)] s := hK
        clear hz1 hk1 hPc hDc hKc hFc hP1 hD1 hK1
        obtain rfl : r_10 = 0 := hw
        refine lv_if_eq (tgt := 66) hx hb dX23_takeLives_48 (by decide) (fun _ => ?_) (fun c_11 => absurd (by decide) c_11)
        refine lv_aload_n hx hb dX23_takeLives_66 rfl (lv_at hl 2 rfl) ?_
        refine lv_dup hx hb dX23_takeLives_67 rfl ?_
        refine va_get (D := (dC, dI)) (ci := 16) (v := .int (nI n)) (C := RX16) (T := TX16) (N := 22) hx hb hts in_c_tkl_X16 hown hK hP 0 rfl rfl 6 (by decide) (hts (.fieldLink RX23 184 "OwnedPlacesModel$Item" "lives" "I") (wm_c_tkl 13 rfl)) (fun _ h9 => h9) rfl dX23_takeLives_68 ?_
        refine lv_iconst (v := 1) hx hb dX23_takeLives_71 (by decide) ?_
        refine lv_iadd hx hb dX23_takeLives_72 ?_
        refine lv_topi (fun f_12 ef_12 => ?_)
        obtain rfl : f_12 = nI (n + 1) := ef_12.trans (nI_1 _)
        refine va_put (D := (dC, dI)) (ci := 16) (v := .int (nI (n + 1))) (ty := .int) (C := RX16) (T := TX16) (N := 22) hx hb hts in_c_tkl_X16 tyX16 tyX16_ok nmX16 hown hK hP hD hS 0 rfl rfl 6 (by decide) (hts (.fieldLink RX23 184 "OwnedPlacesModel$Item" "lives" "I") (wm_c_tkl 13 rfl)) (fun _ h9 => h9) rfl (by decide +kernel) rfl rfl (Nat.le_of_ble_eq_true rfl) dX23_takeLives_73 (fun H locs hP hD hS => ?_)
        have hP : va_P (dC, dI) vwCl [(it, .inr (16, [.int tx, .int nx, .int kx, .int 0, .int 0, .int 0, .int (nI (n + 1)), .int 0, vn, vw, vt, .null, .ref lf, vo, .null, .null, .null, vp, .int 0, .int 0, .int 0, .int 0])), (lf, .inl (kI, 8, .inl g)), (mr 5, .inl (kI, 3002, .inl fk)), (mr 6, .inl (kI, 3002, .inl fa)), (m9, .inr (23, mA mr mv vf xl (nI zs) ff_7 xa_8 (nI T) (nI pp1) xi xt xn (nI ns) (nI vv) (nI bb)))] H := hP
        have hD : va_D A [(it, .inr (16, [.int tx, .int nx, .int kx, .int 0, .int 0, .int 0, .int (nI (n + 1)), .int 0, vn, vw, vt, .null, .ref lf, vo, .null, .null, .null, vp, .int 0, .int 0, .int 0, .int 0])), (lf, .inl (kI, 8, .inl g)), (mr 5, .inl (kI, 3002, .inl fk)), (mr 6, .inl (kI, 3002, .inl fa)), (m9, .inr (23, mA mr mv vf xl (nI zs) ff_7 xa_8 (nI T) (nI pp1) xi xt xn (nI ns) (nI vv) (nI bb)))] := hD
        refine lv_aload_n hx hb dX23_takeLives_76 rfl (lv_at hl 1 rfl) ?_
        refine lv_bipush (v := 57) hx hb dX23_takeLives_77 (by decide) ?_
        have hPc := hP.sub (ws' := [(m9, .inr (23, mA mr mv vf xl (nI zs) ff_7 xa_8 (nI T) (nI pp1) xi xt xn (nI ns) (nI vv) (nI bb))), (mr 5, .inl (kI, 3002, .inl fk))]) [4, 2] rfl
        have hDc := hD.sub (ws' := [(m9, .inr (23, mA mr mv vf xl (nI zs) ff_7 xa_8 (nI T) (nI pp1) xi xt xn (nI ns) (nI vv) (nI bb))), (mr 5, .inl (kI, 3002, .inl fk))]) [4, 2] (by decide) rfl
        have hKc := hK.sub (tys' := [(kI, .int)]) [0] rfl
        have hFc := va_free (wc := [(m9, .inr (23, mA mr mv vf xl (nI zs) ff_7 xa_8 (nI T) (nI pp1) xi xt xn (nI ns) (nI vv) (nI bb))), (mr 5, .inl (kI, 3002, .inl fk))]) hD hS hA [4, 2] rfl
        refine va_calli (va_runV (As := [.int 57]) (rest := []) ⟨hx, hb, hml, hown, hts⟩ (c_rtsB l dC dI m9 mr mv vf xl xa_8 xi xt xn zs T pp1 ns vv bb kI fk fa ff_7 57 H.size hf9_0) (cwV 1 hts g_c_tkl_c_rtsB_79 rfl rfl rfl (by decide +kernel) ⟨Nat.le_of_ble_eq_true rfl, Nat.le_of_ble_eq_true rfl⟩) ⟨fun a U g mk q => by obtain ⟨q0, q1, qP, qK, qD⟩ := q; exact ⟨q0, q1, qP, va_K.moved (u := U) (U := U.calling g mk a) (Vm.Alike.refl U.vm) qK, qD⟩, va_recv hKc hPc (ci := 23) (q0 := 0) rfl rfl, fun U hU hW => ⟨rfl, by rw [hU], by rw [hU]; exact hPc, va_K.moved hW.alike hKc, hDc.weaken (fun _ _ _ _ => trivial)⟩⟩ rfl rfl hl.1 rfl (lv_room (Nat.le_of_ble_eq_true rfl)) dX23_takeLives_79 ⟨(show 0 + 0 ≤ 0 by omega), (show 0 + 0 ≤ 0 by omega)⟩) hS (fun q _ h => hFc q h) hFc (fun r_13 u tS H1 locs ht hvm hw hB hz1 hk1 hS => ?_)
        obtain ⟨hP1, hK1, hD1⟩ := hB
        rw [ht] at hP1
        have hK1 := va_K.moved hvm.symm hK1
        obtain ⟨hP, hD⟩ := va_join (wr := [(it, .inr (16, [.int tx, .int nx, .int kx, .int 0, .int 0, .int 0, .int (nI (n + 1)), .int 0, vn, vw, vt, .null, .ref lf, vo, .null, .null, .null, vp, .int 0, .int 0, .int 0, .int 0])), (lf, .inl (kI, 8, .inl g)), (mr 6, .inl (kI, 3002, .inl fa))]) (w1 := [(m9, .inr (23, mA mr mv vf xl (nI zs) ff_7 xa_8 (nI T) (nI pp1) xi xt xn (nI ns) (nI vv) (nI bb))), (mr 5, .inl (kI, 3002, .inl fk))]) hP hD [4, 2] [0, 1, 3] rfl rfl (by decide) (by decide) hk1 hFc hP1 hD1
        have hK := hK.app hK1
        generalize H1 = H at hP hS ⊢
        have hP : va_P (dC, dI) vwCl [(it, .inr (16, [.int tx, .int nx, .int kx, .int 0, .int 0, .int 0, .int (nI (n + 1)), .int 0, vn, vw, vt, .null, .ref lf, vo, .null, .null, .null, vp, .int 0, .int 0, .int 0, .int 0])), (lf, .inl (kI, 8, .inl g)), (mr 6, .inl (kI, 3002, .inl fa)), (m9, .inr (23, mA mr mv vf xl (nI zs) ff_7 xa_8 (nI T) (nI pp1) xi xt xn (nI ns) (nI vv) (nI bb))), (mr 5, .inl (kI, 3002, .inl fk))] H := hP
        have hD : va_D A [(it, .inr (16, [.int tx, .int nx, .int kx, .int 0, .int 0, .int 0, .int (nI (n + 1)), .int 0, vn, vw, vt, .null, .ref lf, vo, .null, .null, .null, vp, .int 0, .int 0, .int 0, .int 0])), (lf, .inl (kI, 8, .inl g)), (mr 6, .inl (kI, 3002, .inl fa)), (m9, .inr (23, mA mr mv vf xl (nI zs) ff_7 xa_8 (nI T) (nI pp1) xi xt xn (nI ns) (nI vv) (nI bb))), (mr 5, .inl (kI, 3002, .inl fk))] := hD
        have hK : va_K (dC, dI) vwCl [(kI, .int), (kI, .int)] s := hK
        have hK := hK.sub (tys' := [(kI, .int)]) [0] rfl
        clear hz1 hk1 hPc hDc hKc hFc hP1 hD1 hK1
        obtain rfl : r_13 = 0 := hw
        refine lv_istore_n (lv' := [(2, .int 0), (0, .ref m9), (1, .ref it)]) hx hb dX23_takeLives_82 rfl hl (by decide) rfl (fun ls hl => ?_)
        refine lv_goto (tgt := 2) hx hb dX23_takeLives_83 (by decide) ?_
        refine lv_aload_n hx hb dX23_takeLives_2 rfl (lv_at hl 1 rfl) ?_
        have hPc := hP.sub (ws' := [(m9, .inr (23, mA mr mv vf xl (nI zs) ff_7 xa_8 (nI T) (nI pp1) xi xt xn (nI ns) (nI vv) (nI bb)))]) [3] rfl
        have hDc := hD.sub (ws' := [(m9, .inr (23, mA mr mv vf xl (nI zs) ff_7 xa_8 (nI T) (nI pp1) xi xt xn (nI ns) (nI vv) (nI bb)))]) [3] (by decide) rfl
        have hKc := hK.sub (tys' := []) [] rfl
        have hFc := va_free (wc := [(m9, .inr (23, mA mr mv vf xl (nI zs) ff_7 xa_8 (nI T) (nI pp1) xi xt xn (nI ns) (nI vv) (nI bb)))]) hD hS hA [3] rfl
        refine va_calli (va_runV (As := []) (rest := []) ⟨hx, hb, hml, hown, hts⟩ (c_rokB l dC dI m9 mr mv vf xl xa_8 xi xt xn zs T pp1 ns vv bb kI fk fa ff_7 H.size hf9_0) (cwV 0 hts g_c_tkl_c_rokB_3 rfl rfl rfl (by decide +kernel) ⟨Nat.le_of_ble_eq_true rfl, Nat.le_of_ble_eq_true rfl⟩) ⟨fun a U g mk q => by obtain ⟨q0, q1, qP, qK, qD⟩ := q; exact ⟨q0, q1, qP, va_K.moved (u := U) (U := U.calling g mk a) (Vm.Alike.refl U.vm) qK, qD⟩, va_recv hKc hPc (ci := 23) (q0 := 0) rfl rfl, fun U hU hW => ⟨rfl, by rw [hU], by rw [hU]; exact hPc, va_K.moved hW.alike hKc, hDc.weaken (fun _ _ _ _ => trivial)⟩⟩ rfl rfl hl.1 rfl (lv_room (Nat.le_of_ble_eq_true rfl)) dX23_takeLives_3 ⟨(show 0 + 0 ≤ 0 by omega), (show 0 + 0 ≤ 0 by omega)⟩) hS (fun q _ h => hFc q h) hFc (fun r_14 u tS H1 locs ht hvm hw hB hz1 hk1 hS => ?_)
        obtain ⟨hP1, hK1, hD1⟩ := hB
        rw [ht] at hP1
        have hK1 := va_K.moved hvm.symm hK1
        obtain ⟨hP, hD⟩ := va_join (wr := [(it, .inr (16, [.int tx, .int nx, .int kx, .int 0, .int 0, .int 0, .int (nI (n + 1)), .int 0, vn, vw, vt, .null, .ref lf, vo, .null, .null, .null, vp, .int 0, .int 0, .int 0, .int 0])), (lf, .inl (kI, 8, .inl g)), (mr 6, .inl (kI, 3002, .inl fa)), (mr 5, .inl (kI, 3002, .inl fk))]) (w1 := [(m9, .inr (23, mA mr mv vf xl (nI zs) ff_7 xa_8 (nI T) (nI pp1) xi xt xn (nI ns) (nI vv) (nI bb)))]) hP hD [3] [0, 1, 2, 4] rfl rfl (by decide) (by decide) hk1 hFc hP1 hD1
        generalize H1 = H at hP hS ⊢
        have hP : va_P (dC, dI) vwCl [(it, .inr (16, [.int tx, .int nx, .int kx, .int 0, .int 0, .int 0, .int (nI (n + 1)), .int 0, vn, vw, vt, .null, .ref lf, vo, .null, .null, .null, vp, .int 0, .int 0, .int 0, .int 0])), (lf, .inl (kI, 8, .inl g)), (mr 6, .inl (kI, 3002, .inl fa)), (mr 5, .inl (kI, 3002, .inl fk)), (m9, .inr (23, mA mr mv vf xl (nI zs) ff_7 xa_8 (nI T) (nI pp1) xi xt xn (nI ns) (nI vv) (nI bb)))] H := hP
        have hD : va_D A [(it, .inr (16, [.int tx, .int nx, .int kx, .int 0, .int 0, .int 0, .int (nI (n + 1)), .int 0, vn, vw, vt, .null, .ref lf, vo, .null, .null, .null, vp, .int 0, .int 0, .int 0, .int 0])), (lf, .inl (kI, 8, .inl g)), (mr 6, .inl (kI, 3002, .inl fa)), (mr 5, .inl (kI, 3002, .inl fk)), (m9, .inr (23, mA mr mv vf xl (nI zs) ff_7 xa_8 (nI T) (nI pp1) xi xt xn (nI ns) (nI vv) (nI bb)))] := hD
        have hK : va_K (dC, dI) vwCl [(kI, .int)] s := hK
        clear hz1 hk1 hPc hDc hKc hFc hP1 hD1 hK1
        obtain rfl : r_14 = 0 := hw
        refine lv_if_eq (tgt := 86) hx hb dX23_takeLives_6 (by decide) (fun _ => ?_) (fun c_15 => absurd (by decide) c_15)
        refine lv_aload_n hx hb dX23_takeLives_86 rfl (lv_at hl 1 rfl) ?_
        refine lv_bipush (v := 49) hx hb dX23_takeLives_87 (by decide) ?_
        have hPc := hP.sub (ws' := [(m9, .inr (23, mA mr mv vf xl (nI zs) ff_7 xa_8 (nI T) (nI pp1) xi xt xn (nI ns) (nI vv) (nI bb))), (mr 5, .inl (kI, 3002, .inl fk)), (mr 6, .inl (kI, 3002, .inl fa))]) [4, 3, 2] rfl
        have hDc := hD.sub (ws' := [(m9, .inr (23, mA mr mv vf xl (nI zs) ff_7 xa_8 (nI T) (nI pp1) xi xt xn (nI ns) (nI vv) (nI bb))), (mr 5, .inl (kI, 3002, .inl fk)), (mr 6, .inl (kI, 3002, .inl fa))]) [4, 3, 2] (by decide) rfl
        have hKc := hK.sub (tys' := [(kI, .int)]) [0] rfl
        have hFc := va_free (wc := [(m9, .inr (23, mA mr mv vf xl (nI zs) ff_7 xa_8 (nI T) (nI pp1) xi xt xn (nI ns) (nI vv) (nI bb))), (mr 5, .inl (kI, 3002, .inl fk)), (mr 6, .inl (kI, 3002, .inl fa))]) hD hS hA [4, 3, 2] rfl
        refine va_callv (va_runV (As := [.int 49]) (rest := []) ⟨hx, hb, hml, hown, hts⟩ (c_rtkB l dC dI m9 mr mv vf xl xa_8 xi xt xn zs T pp1 ns vv bb kI fk fa ff_7 49 H.size hf9_0) (cwV 1 hts g_c_tkl_c_rtkB_89 rfl rfl rfl (by decide +kernel) ⟨Nat.le_of_ble_eq_true rfl, Nat.le_of_ble_eq_true rfl⟩) ⟨fun a U g mk q => by obtain ⟨q0, q1, qP, qK, qD⟩ := q; exact ⟨q0, q1, qP, va_K.moved (u := U) (U := U.calling g mk a) (Vm.Alike.refl U.vm) qK, qD⟩, va_recv hKc hPc (ci := 23) (q0 := 0) rfl rfl, fun U hU hW => ⟨rfl, by rw [hU], by rw [hU]; exact hPc, va_K.moved hW.alike hKc, hDc.weaken (fun _ _ _ _ => trivial)⟩⟩ rfl rfl hl.1 rfl (lv_room (Nat.le_of_ble_eq_true rfl)) dX23_takeLives_89 ⟨(show 0 + 0 ≤ 0 by omega), (show 0 + 0 ≤ 0 by omega)⟩) hS (fun q _ h => hFc q h) hFc (fun u tS H1 locs ht hvm hw hB hz1 hk1 hS => ?_)
        obtain ⟨hP1, hK1, hD1⟩ := hB
        rw [ht] at hP1
        have hK1 := va_K.moved hvm.symm hK1
        obtain ⟨hP, hD⟩ := va_join (wr := [(it, .inr (16, [.int tx, .int nx, .int kx, .int 0, .int 0, .int 0, .int (nI (n + 1)), .int 0, vn, vw, vt, .null, .ref lf, vo, .null, .null, .null, vp, .int 0, .int 0, .int 0, .int 0])), (lf, .inl (kI, 8, .inl g))]) (w1 := [(m9, .inr (23, mA mr mv vf xl (nI zs) ff_7 xa_8 (nI T) (nI pp1) xi xt xn (nI ns) (nI vv) (nI bb))), (mr 5, .inl (kI, 3002, .inl fk)), (mr 6, .inl (kI, 3002, .inl fa))]) hP hD [4, 3, 2] [0, 1] rfl rfl (by decide) (by decide) hk1 hFc hP1 hD1
        have hK := hK.app hK1
        generalize H1 = H at hP hS ⊢
        have hP : va_P (dC, dI) vwCl [(it, .inr (16, [.int tx, .int nx, .int kx, .int 0, .int 0, .int 0, .int (nI (n + 1)), .int 0, vn, vw, vt, .null, .ref lf, vo, .null, .null, .null, vp, .int 0, .int 0, .int 0, .int 0])), (lf, .inl (kI, 8, .inl g)), (m9, .inr (23, mA mr mv vf xl (nI zs) ff_7 xa_8 (nI T) (nI pp1) xi xt xn (nI ns) (nI vv) (nI bb))), (mr 5, .inl (kI, 3002, .inl fk)), (mr 6, .inl (kI, 3002, .inl fa))] H := hP
        have hD : va_D A [(it, .inr (16, [.int tx, .int nx, .int kx, .int 0, .int 0, .int 0, .int (nI (n + 1)), .int 0, vn, vw, vt, .null, .ref lf, vo, .null, .null, .null, vp, .int 0, .int 0, .int 0, .int 0])), (lf, .inl (kI, 8, .inl g)), (m9, .inr (23, mA mr mv vf xl (nI zs) ff_7 xa_8 (nI T) (nI pp1) xi xt xn (nI ns) (nI vv) (nI bb))), (mr 5, .inl (kI, 3002, .inl fk)), (mr 6, .inl (kI, 3002, .inl fa))] := hD
        have hK : va_K (dC, dI) vwCl [(kI, .int), (kI, .int)] s := hK
        have hK := hK.sub (tys' := [(kI, .int)]) [0] rfl
        clear hz1 hk1 hPc hDc hKc hFc hP1 hD1 hK1
        have hP9 := hP.sub (ws' := [(it, .inr (16, [.int tx, .int nx, .int kx, .int 0, .int 0, .int 0, .int (nI (n + 1)), .int 0, vn, vw, vt, .null, .ref lf, vo, .null, .null, .null, vp, .int 0, .int 0, .int 0, .int 0])), (lf, .inl (kI, 8, .inl g)), (m9, .inr (23, mA mr mv vf xl (nI zs) ff_7 xa_8 (nI T) (nI pp1) xi xt xn (nI ns) (nI vv) (nI bb))), (mr 5, .inl (kI, 3002, .inl fk)), (mr 6, .inl (kI, 3002, .inl fa))]) [0, 1, 2, 3, 4] rfl
        have hD9 := hD.sub (ws' := [(it, .inr (16, [.int tx, .int nx, .int kx, .int 0, .int 0, .int 0, .int (nI (n + 1)), .int 0, vn, vw, vt, .null, .ref lf, vo, .null, .null, .null, vp, .int 0, .int 0, .int 0, .int 0])), (lf, .inl (kI, 8, .inl g)), (m9, .inr (23, mA mr mv vf xl (nI zs) ff_7 xa_8 (nI T) (nI pp1) xi xt xn (nI ns) (nI vv) (nI bb))), (mr 5, .inl (kI, 3002, .inl fk)), (mr 6, .inl (kI, 3002, .inl fa))]) [0, 1, 2, 3, 4] (by decide) rfl
        have hK9 := hK.sub (tys' := [(kI, .int)]) [0] rfl
        subst hQ1
        exact W.vret hx hb hr (fun tS ht hW => ⟨⟨(), rfl, trivial, ff_7, xa_8, pp1, n + 1, g, ⟨by omega, by omega⟩, (fun q9 => absurd q9 hf9_0), by rw [ht]; exact hP9, va_K.moved hW.alike hK9, hD9⟩, hS.F ht⟩) hS.2.2 dX23_takeLives_92
  exact key1 (T + 1) pp 0 (fun _ => 0) _ _ _ (⟨by omega, by omega, by omega, by omega, hT⟩) (fun i hi => absurd hi (by omega)) (hP.sub [0, 1, 2, 3, 4] rfl) (hD.sub [0, 1, 2, 3, 4] (by decide) rfl) hS (lv_sub hl [0, 1, 2] rfl)
