def wf_c_plain : List Cond := [.code yX3_isPlainType cX3_isPlainType 1 (some .boolean)]
def wp_c_plain : List Cond := wf_c_plain ++ []
theorem wg_c_plain : wf_c_plain.all goodWord = true := by decide +kernel
theorem wm_c_plain (k : Nat) {w : Cond} (h : wp_c_plain[k]? = some w) : w ∈ wp_c_plain := List.mem_of_getElem? h
set_option maxHeartbeats 4000000 in
set_option maxRecDepth 100000 in
theorem c_plain (l : Launch) (dC : Nat → ClassId) (dI : Nat → Nat → Nat) (kd : Int32) (sz : Nat) : Met l yX3_isPlainType wp_c_plain ({ frames := 0, cells := 0, slots := 0, locals := 0 }) (va_Pc [.int kd] (fun U => U.heap.size = sz ∧ va_P (dC, dI) vwCl [] U.heap ∧ va_K (dC, dI) vwCl [] U ∧ va_D (fun _ => True) [])) (va_Qi (fun (r : Int32) (_ : Unit) => (r = 1 ∧ plainK kd) ∨ (r = 0 ∧ ¬ plainK kd)) (fun (_ : Unit) (tS : State) => va_P (dC, dI) vwCl [] tS.heap ∧ va_K (dC, dI) vwCl [] tS ∧ va_D (va_A [] sz) []) (va_A [] sz)) 0 0 (va_A [] sz) := by
  refine Met.ofW (cc := cX3_isPlainType) (maxL := 1) (ret := (some .boolean)) (by decide) rfl ?_
  intro p e s m args below meth c s₁ B hml hv
  obtain ⟨rfl, hsz, hP, hK, hD0⟩ := hv
  have hx := B.exec
  have hb := B.bytes
  have hr := B.returns
  have hts := atoms_spec (ws := wp_c_plain) B.pre
  have hown : s.vm.findClass RX3 = some m.cls := findClass_of_methodNamed B.named
  have hlocks := B.notSynchronized
  subst hsz
  have hD := hD0.self (sz := s.heap.size)
  generalize hAe : va_A [] s.heap.size = A at hD ⊢
  have hA : ∀ q : Nat, s.heap.size ≤ q → A q := fun q h => by rw [← hAe]; exact Or.inr h
  have hS : va_S A s.heap s.heap [] := va_S.rf
  have hP : va_P (dC, dI) vwCl [] s.heap := hP
  have hl := lv_entry ([.int kd]) (n := 1) (Nat.le_of_ble_eq_true rfl)
  rw [lg_entry_eq]
  generalize (lg_sl ([.int kd]) ++ List.replicate (1 - (lg_sl ([.int kd])).length) Slot.unset).toArray = ls at hl ⊢
  have hl : lv_has ls 1 [(0, .int kd)] := hl
  refine lv_iload_n hx hb dX3_isPlainType_0 rfl (lv_at hl 0 rfl) ?_
  refine lv_bipush (v := 22) hx hb dX3_isPlainType_1 (by decide) ?_
  refine lv_icmp_eq (tgt := 23) hx hb dX3_isPlainType_3 (by decide) (fun h1 => ?_) (fun h1 => ?_)
  · refine lv_iconst (v := 1) hx hb dX3_isPlainType_23 (by decide) ?_
    refine lv_goto (tgt := 28) hx hb dX3_isPlainType_24 (by decide) ?_
    have hP9 := hP.sub (ws' := []) [] rfl
    have hD9 := hD.sub (ws' := []) [] (by decide) rfl
    have hK9 := hK.sub (tys' := []) [] rfl
    exact W.zret (v := 1) hx hb hr (by decide) (fun tS ht hW => ⟨⟨1, (), rfl, (Or.inl ⟨rfl, Or.inl h1⟩), by rw [ht]; exact hP9, va_K.moved hW.alike hK9, hD9⟩, hS.F ht⟩) hS.2.2 dX3_isPlainType_28
  · refine lv_iload_n hx hb dX3_isPlainType_6 rfl (lv_at hl 0 rfl) ?_
    refine lv_bipush (v := 23) hx hb dX3_isPlainType_7 (by decide) ?_
    refine lv_icmp_eq (tgt := 23) hx hb dX3_isPlainType_9 (by decide) (fun h2 => ?_) (fun h2 => ?_)
    · refine lv_iconst (v := 1) hx hb dX3_isPlainType_23 (by decide) ?_
      refine lv_goto (tgt := 28) hx hb dX3_isPlainType_24 (by decide) ?_
      have hP9 := hP.sub (ws' := []) [] rfl
      have hD9 := hD.sub (ws' := []) [] (by decide) rfl
      have hK9 := hK.sub (tys' := []) [] rfl
      exact W.zret (v := 1) hx hb hr (by decide) (fun tS ht hW => ⟨⟨1, (), rfl, (Or.inl ⟨rfl, Or.inr (Or.inl h2)⟩), by rw [ht]; exact hP9, va_K.moved hW.alike hK9, hD9⟩, hS.F ht⟩) hS.2.2 dX3_isPlainType_28
    · refine lv_iload_n hx hb dX3_isPlainType_12 rfl (lv_at hl 0 rfl) ?_
      refine lv_bipush (v := 21) hx hb dX3_isPlainType_13 (by decide) ?_
      refine lv_icmp_eq (tgt := 23) hx hb dX3_isPlainType_15 (by decide) (fun h3 => ?_) (fun h3 => ?_)
      · refine lv_iconst (v := 1) hx hb dX3_isPlainType_23 (by decide) ?_
        refine lv_goto (tgt := 28) hx hb dX3_isPlainType_24 (by decide) ?_
        have hP9 := hP.sub (ws' := []) [] rfl
        have hD9 := hD.sub (ws' := []) [] (by decide) rfl
        have hK9 := hK.sub (tys' := []) [] rfl
        exact W.zret (v := 1) hx hb hr (by decide) (fun tS ht hW => ⟨⟨1, (), rfl, (Or.inl ⟨rfl, Or.inr (Or.inr (Or.inl h3))⟩), by rw [ht]; exact hP9, va_K.moved hW.alike hK9, hD9⟩, hS.F ht⟩) hS.2.2 dX3_isPlainType_28
      · refine lv_iload_n hx hb dX3_isPlainType_18 rfl (lv_at hl 0 rfl) ?_
        refine lv_iconst (v := 2) hx hb dX3_isPlainType_19 (by decide) ?_
        refine lv_icmp_ne (tgt := 27) hx hb dX3_isPlainType_20 (by decide) (fun h4 => ?_) (fun h4 => ?_)
        · refine lv_iconst (v := 0) hx hb dX3_isPlainType_27 (by decide) ?_
          have hP9 := hP.sub (ws' := []) [] rfl
          have hD9 := hD.sub (ws' := []) [] (by decide) rfl
          have hK9 := hK.sub (tys' := []) [] rfl
          exact W.zret (v := 0) hx hb hr (by decide) (fun tS ht hW => ⟨⟨0, (), rfl, (Or.inr ⟨rfl, fun q => q.elim h1 (fun q => q.elim h2 (fun q => q.elim h3 h4))⟩), by rw [ht]; exact hP9, va_K.moved hW.alike hK9, hD9⟩, hS.F ht⟩) hS.2.2 dX3_isPlainType_28
        · refine lv_iconst (v := 1) hx hb dX3_isPlainType_23 (by decide) ?_
          refine lv_goto (tgt := 28) hx hb dX3_isPlainType_24 (by decide) ?_
          have hP9 := hP.sub (ws' := []) [] rfl
          have hD9 := hD.sub (ws' := []) [] (by decide) rfl
          have hK9 := hK.sub (tys' := []) [] rfl
          exact W.zret (v := 1) hx hb hr (by decide) (fun tS ht hW => ⟨⟨1, (), rfl, (Or.inl ⟨rfl, Or.inr (Or.inr (Or.inr h4))⟩), by rw [ht]; exact hP9, va_K.moved hW.alike hK9, hD9⟩, hS.F ht⟩) hS.2.2 dX3_isPlainType_28
def wf_c_open : List Cond := [.code yX3_open cX3_open 3 (some .boolean), .fieldLink RX3 15 "OwnedPlaces$Grammar" "text" "LOwnedPlaces$Text;", .code yX9_kind cX9_kind 1 (some .int), .fieldLink RX9 9 "OwnedPlaces$Text" "kinds" "[I", .fieldLink RX9 106 "OwnedPlaces$Text" "now" "I", .methodLink RX3 29 yX9_kind, .instanceMethod yX9_kind, .selects RX9 yX9_kind yX9_kind, .initialized RX9, .code yX3_syntax cX3_syntax 1 none, .code yX9_where cX9_where 1 (some .int), .fieldLink RX9 15 "OwnedPlaces$Text" "places" "[I", .methodLink RX3 54 yX9_where, .instanceMethod yX9_where, .selects RX9 yX9_where yX9_where, .code yX9_fail cX9_fail 3 none, .fieldLink RX9 95 "OwnedPlaces$Text" "fault" "I", .fieldLink RX9 92 "OwnedPlaces$Text" "total" "I", .fieldLink RX9 28 "OwnedPlaces$Text" "place" "I", .methodLink RX3 57 yX9_fail, .instanceMethod yX9_fail, .selects RX9 yX9_fail yX9_fail, .methodLink RX3 42 yX3_syntax, .instanceMethod yX3_syntax, .selects RX3 yX3_syntax yX3_syntax, .initialized RX3, .code yX9_step cX9_step 2 none, .methodLink RX9 109 Lib.Math.min.name, .static Lib.Math.min.name, .initialized "java/lang/Math", .code Lib.Math.min.name Lib.Math.min.code 2 (some .int), .methodLink RX3 48 yX9_step, .instanceMethod yX9_step, .selects RX9 yX9_step yX9_step, .code yX3_limit cX3_limit 1 none, .methodLink RX3 61 yX3_limit, .instanceMethod yX3_limit, .selects RX3 yX3_limit yX3_limit]
def wp_c_open : List Cond := wf_c_open ++ (wsX30 ++ (wsX90 ++ []))
theorem in_c_open_X3 : ∀ w ∈ wsX30, w ∈ wp_c_open := fun w h => List.mem_append_right _ (List.mem_append_left _ h)
theorem in_c_open_X9 : ∀ w ∈ wsX90, w ∈ wp_c_open := fun w h => List.mem_append_right _ (List.mem_append_right _ (List.mem_append_left _ h))
theorem wg_c_open : wf_c_open.all goodWord = true := by decide +kernel
theorem wm_c_open (k : Nat) {w : Cond} (h : wp_c_open[k]? = some w) : w ∈ wp_c_open := List.mem_of_getElem? h
set_option maxRecDepth 20000 in
theorem g_c_open_c_kind_4 : GoodIn wp_c_open (wsV RX3 29 RX9 yX9_kind wp_c_kind) := goodIn_app (goodIn_f [.methodLink RX3 29 yX9_kind, .instanceMethod yX9_kind, .selects RX9 yX9_kind yX9_kind, .initialized RX9] [5, 6, 7, 8] rfl (by decide +kernel)) (goodIn_app (goodIn_f (wf_c_kind) [2, 3, 4] rfl wg_c_kind) (goodIn_app (goodIn_sub in_c_open_X9 gd_X9) (goodIn_n)))
set_option maxRecDepth 20000 in
theorem g_c_open_c_syntax_12 : GoodIn wp_c_open (wsV RX3 42 RX3 yX3_syntax wp_c_syntax) := goodIn_app (goodIn_f [.methodLink RX3 42 yX3_syntax, .instanceMethod yX3_syntax, .selects RX3 yX3_syntax yX3_syntax, .initialized RX3] [22, 23, 24, 25] rfl (by decide +kernel)) (goodIn_app (goodIn_f (wf_c_syntax) [9, 1, 10, 11, 4, 12, 13, 14, 8, 15, 16, 17, 18, 19, 20, 21] rfl wg_c_syntax) (goodIn_app (goodIn_sub in_c_open_X3 gd_X3) (goodIn_app (goodIn_sub in_c_open_X9 gd_X9) (goodIn_n))))
set_option maxRecDepth 20000 in
theorem g_c_open_c_step_34 : GoodIn wp_c_open (wsV RX3 48 RX9 yX9_step wp_c_step) := goodIn_app (goodIn_f [.methodLink RX3 48 yX9_step, .instanceMethod yX9_step, .selects RX9 yX9_step yX9_step, .initialized RX9] [31, 32, 33, 8] rfl (by decide +kernel)) (goodIn_app (goodIn_f (wf_c_step) [26, 4, 17, 27, 28, 29, 30] rfl wg_c_step) (goodIn_app (goodIn_sub in_c_open_X9 gd_X9) (goodIn_n)))
set_option maxRecDepth 20000 in
theorem g_c_open_c_limit_24 : GoodIn wp_c_open (wsV RX3 61 RX3 yX3_limit wp_c_limit) := goodIn_app (goodIn_f [.methodLink RX3 61 yX3_limit, .instanceMethod yX3_limit, .selects RX3 yX3_limit yX3_limit, .initialized RX3] [35, 36, 37, 25] rfl (by decide +kernel)) (goodIn_app (goodIn_f (wf_c_limit) [34, 1, 10, 11, 4, 12, 13, 14, 8, 15, 16, 17, 18, 19, 20, 21] rfl wg_c_limit) (goodIn_app (goodIn_sub in_c_open_X3 gd_X3) (goodIn_app (goodIn_sub in_c_open_X9 gd_X9) (goodIn_n))))
set_option maxHeartbeats 4000000 in
set_option maxRecDepth 100000 in
theorem c_open (l : Launch) (dC : Nat → ClassId) (dI : Nat → Nat → Nat) (g gi : Nat) (h tk tp tn tu tl tb ts tf tz tx th tw : Nat) (ln ft pl nt gto gsh gfu gva gbo : Int32) (nw tt : Nat) (kI : ClassId) (fk fp : Nat → Int32) (br : Int32) (d : Nat) (sz : Nat) (hn : nw < tt) (htt : tt ≤ 3001) (hk0 : fk (tt - 1) = 0) (hbr : br ≠ 0) (hd : d ≤ 20) : Met l yX3_open wp_c_open ({ frames := 2, cells := 0, slots := 0, locals := 42 }) (va_Pc [.ref g, .int br, .int (nI d)] (fun U => U.heap.size = sz ∧ va_P (dC, dI) vwCl [(g, .inr (3, [.ref h, .ref gi, .int gto, .int gsh, .int gfu, .int gva, .int gbo])), (h, .inr (9, [.ref tk, .ref tp, .ref tn, .ref tu, .ref tl, .int ln, .int (nI nw), .int ft, .int pl, .int nt, .ref tb, .int (nI tt), .ref ts, .ref tf, .ref tz, .ref tx, .ref th, .ref tw])), (tk, .inl (kI, 3002, .inl fk)), (tp, .inl (kI, 3002, .inl fp))] U.heap ∧ va_K (dC, dI) vwCl [(kI, .int)] U ∧ va_D (fun _ => True) [(g, .inr (3, [.ref h, .ref gi, .int gto, .int gsh, .int gfu, .int gva, .int gbo])), (h, .inr (9, [.ref tk, .ref tp, .ref tn, .ref tu, .ref tl, .int ln, .int (nI nw), .int ft, .int pl, .int nt, .ref tb, .int (nI tt), .ref ts, .ref tf, .ref tz, .ref tx, .ref th, .ref tw])), (tk, .inl (kI, 3002, .inl fk)), (tp, .inl (kI, 3002, .inl fp))])) (va_Qi (fun (r : Int32) (nw2 : Nat) => (r = 1 ∧ fk nw = br ∧ d ≠ 16 ∧ nw2 = nw + 1 ∧ nw2 < tt) ∨ (r = 0 ∧ nw2 = tt - 1)) (fun (nw2 : Nat) (tS : State) => ∃ (ft2 : Int32) (pl2 : Int32), ((nw2 = nw + 1 ∧ ft2 = ft ∧ pl2 = pl ∧ d ≠ 16 ∧ fk nw = br) ∨ (ft2 ≠ 0 ∧ nw2 = tt - 1)) ∧ va_P (dC, dI) vwCl [(g, .inr (3, [.ref h, .ref gi, .int gto, .int gsh, .int gfu, .int gva, .int gbo])), (h, .inr (9, [.ref tk, .ref tp, .ref tn, .ref tu, .ref tl, .int ln, .int (nI nw2), .int ft2, .int pl2, .int nt, .ref tb, .int (nI tt), .ref ts, .ref tf, .ref tz, .ref tx, .ref th, .ref tw])), (tk, .inl (kI, 3002, .inl fk)), (tp, .inl (kI, 3002, .inl fp))] tS.heap ∧ va_K (dC, dI) vwCl [(kI, .int)] tS ∧ va_D (va_A [(g, .inr (3, [.ref h, .ref gi, .int gto, .int gsh, .int gfu, .int gva, .int gbo])), (h, .inr (9, [.ref tk, .ref tp, .ref tn, .ref tu, .ref tl, .int ln, .int (nI nw), .int ft, .int pl, .int nt, .ref tb, .int (nI tt), .ref ts, .ref tf, .ref tz, .ref tx, .ref th, .ref tw])), (tk, .inl (kI, 3002, .inl fk)), (tp, .inl (kI, 3002, .inl fp))] sz) [(g, .inr (3, [.ref h, .ref gi, .int gto, .int gsh, .int gfu, .int gva, .int gbo])), (h, .inr (9, [.ref tk, .ref tp, .ref tn, .ref tu, .ref tl, .int ln, .int (nI nw2), .int ft2, .int pl2, .int nt, .ref tb, .int (nI tt), .ref ts, .ref tf, .ref tz, .ref tx, .ref th, .ref tw])), (tk, .inl (kI, 3002, .inl fk)), (tp, .inl (kI, 3002, .inl fp))]) (va_A [(g, .inr (3, [.ref h, .ref gi, .int gto, .int gsh, .int gfu, .int gva, .int gbo])), (h, .inr (9, [.ref tk, .ref tp, .ref tn, .ref tu, .ref tl, .int ln, .int (nI nw), .int ft, .int pl, .int nt, .ref tb, .int (nI tt), .ref ts, .ref tf, .ref tz, .ref tx, .ref th, .ref tw])), (tk, .inl (kI, 3002, .inl fk)), (tp, .inl (kI, 3002, .inl fp))] sz)) 0 0 (va_A [(g, .inr (3, [.ref h, .ref gi, .int gto, .int gsh, .int gfu, .int gva, .int gbo])), (h, .inr (9, [.ref tk, .ref tp, .ref tn, .ref tu, .ref tl, .int ln, .int (nI nw), .int ft, .int pl, .int nt, .ref tb, .int (nI tt), .ref ts, .ref tf, .ref tz, .ref tx, .ref th, .ref tw])), (tk, .inl (kI, 3002, .inl fk)), (tp, .inl (kI, 3002, .inl fp))] sz) := by
  refine Met.ofW (cc := cX3_open) (maxL := 3) (ret := (some .boolean)) (by decide) rfl ?_
  intro p e s m args below meth c s₁ B hml hv
  obtain ⟨rfl, hsz, hP, hK, hD0⟩ := hv
  have hx := B.exec
  have hb := B.bytes
  have hr := B.returns
  have hts := atoms_spec (ws := wp_c_open) B.pre
  have hown : s.vm.findClass RX3 = some m.cls := findClass_of_methodNamed B.named
  have hlocks := B.notSynchronized
  subst hsz
  have hD := hD0.self (sz := s.heap.size)
  generalize hAe : va_A [(g, .inr (3, [.ref h, .ref gi, .int gto, .int gsh, .int gfu, .int gva, .int gbo])), (h, .inr (9, [.ref tk, .ref tp, .ref tn, .ref tu, .ref tl, .int ln, .int (nI nw), .int ft, .int pl, .int nt, .ref tb, .int (nI tt), .ref ts, .ref tf, .ref tz, .ref tx, .ref th, .ref tw])), (tk, .inl (kI, 3002, .inl fk)), (tp, .inl (kI, 3002, .inl fp))] s.heap.size = A at hD ⊢
  have hA : ∀ q : Nat, s.heap.size ≤ q → A q := fun q h => by rw [← hAe]; exact Or.inr h
  have hS : va_S A s.heap s.heap [] := va_S.rf
  have hP : va_P (dC, dI) vwCl [(g, .inr (3, [.ref h, .ref gi, .int gto, .int gsh, .int gfu, .int gva, .int gbo])), (h, .inr (9, [.ref tk, .ref tp, .ref tn, .ref tu, .ref tl, .int ln, .int (nI nw), .int ft, .int pl, .int nt, .ref tb, .int (nI tt), .ref ts, .ref tf, .ref tz, .ref tx, .ref th, .ref tw])), (tk, .inl (kI, 3002, .inl fk)), (tp, .inl (kI, 3002, .inl fp))] s.heap := hP
  have hl := lv_entry ([.ref g, .int br, .int (nI d)]) (n := 3) (Nat.le_of_ble_eq_true rfl)
  rw [lg_entry_eq]
  generalize (lg_sl ([.ref g, .int br, .int (nI d)]) ++ List.replicate (3 - (lg_sl ([.ref g, .int br, .int (nI d)])).length) Slot.unset).toArray = ls at hl ⊢
  have hl : lv_has ls 3 [(0, .ref g), (1, .int br), (2, .int (nI d))] := hl
  refine lv_aload_n hx hb dX3_open_0 rfl (lv_at hl 0 rfl) ?_
  refine va_get (D := (dC, dI)) (ci := 3) (v := .ref h) (C := RX3) (T := TX3) (N := 7) hx hb hts in_c_open_X3 hown hK hP 0 rfl rfl 0 (by decide) (hts (.fieldLink RX3 15 "OwnedPlaces$Grammar" "text" "LOwnedPlaces$Text;") (wm_c_open 1 rfl)) (fun _ h9 => h9) rfl dX3_open_1 ?_
  have hPc := hP.sub (ws' := [(h, .inr (9, [.ref tk, .ref tp, .ref tn, .ref tu, .ref tl, .int ln, .int (nI nw), .int ft, .int pl, .int nt, .ref tb, .int (nI tt), .ref ts, .ref tf, .ref tz, .ref tx, .ref th, .ref tw])), (tk, .inl (kI, 3002, .inl fk))]) [1, 2] rfl
  have hDc := hD.sub (ws' := [(h, .inr (9, [.ref tk, .ref tp, .ref tn, .ref tu, .ref tl, .int ln, .int (nI nw), .int ft, .int pl, .int nt, .ref tb, .int (nI tt), .ref ts, .ref tf, .ref tz, .ref tx, .ref th, .ref tw])), (tk, .inl (kI, 3002, .inl fk))]) [1, 2] (by decide) rfl
  have hKc := hK.sub (tys' := [(kI, .int)]) [0] rfl
  have hFc := va_free (wc := [(h, .inr (9, [.ref tk, .ref tp, .ref tn, .ref tu, .ref tl, .int ln, .int (nI nw), .int ft, .int pl, .int nt, .ref tb, .int (nI tt), .ref ts, .ref tf, .ref tz, .ref tx, .ref th, .ref tw])), (tk, .inl (kI, 3002, .inl fk))]) hD hS hA [1, 2] rfl
  refine va_calli (va_runV (As := []) (rest := []) ⟨hx, hb, hml, hown, hts⟩ (c_kind l dC dI h tk tp tn tu tl tb ts tf tz tx th tw ln ft pl nt nw tt kI fk s.heap.size (by omega)) (cwV 0 hts g_c_open_c_kind_4 rfl rfl rfl (by decide +kernel) ⟨Nat.le_of_ble_eq_true rfl, Nat.le_of_ble_eq_true rfl⟩) ⟨fun a U g mk q => by obtain ⟨q0, q1, qP, qK, qD⟩ := q; exact ⟨q0, q1, qP, va_K.moved (u := U) (U := U.calling g mk a) (Vm.Alike.refl U.vm) qK, qD⟩, va_recv hKc hPc (ci := 9) (q0 := 0) rfl rfl, fun U hU hW => ⟨rfl, by rw [hU], by rw [hU]; exact hPc, va_K.moved hW.alike hKc, hDc.weaken (fun _ _ _ _ => trivial)⟩⟩ rfl rfl hl.1 rfl (lv_room (Nat.le_of_ble_eq_true rfl)) dX3_open_4 ⟨(show 0 + 0 ≤ 0 by omega), (show 0 + 0 ≤ 0 by omega)⟩) hS (fun q _ h => hFc q h) hFc (fun r_1 u tS H1 locs ht hvm hw hB hz1 hk1 hS => ?_)
  obtain ⟨hP1, hK1, hD1⟩ := hB
  rw [ht] at hP1
  have hK1 := va_K.moved hvm.symm hK1
  obtain ⟨hP, hD⟩ := va_join (wr := [(g, .inr (3, [.ref h, .ref gi, .int gto, .int gsh, .int gfu, .int gva, .int gbo])), (tp, .inl (kI, 3002, .inl fp))]) (w1 := [(h, .inr (9, [.ref tk, .ref tp, .ref tn, .ref tu, .ref tl, .int ln, .int (nI nw), .int ft, .int pl, .int nt, .ref tb, .int (nI tt), .ref ts, .ref tf, .ref tz, .ref tx, .ref th, .ref tw])), (tk, .inl (kI, 3002, .inl fk))]) hP hD [1, 2] [0, 3] rfl rfl (by decide) (by decide) hk1 hFc hP1 hD1
  have hK := hK.app hK1
  generalize H1 = H at hP hS ⊢
  have hP : va_P (dC, dI) vwCl [(g, .inr (3, [.ref h, .ref gi, .int gto, .int gsh, .int gfu, .int gva, .int gbo])), (tp, .inl (kI, 3002, .inl fp)), (h, .inr (9, [.ref tk, .ref tp, .ref tn, .ref tu, .ref tl, .int ln, .int (nI nw), .int ft, .int pl, .int nt, .ref tb, .int (nI tt), .ref ts, .ref tf, .ref tz, .ref tx, .ref th, .ref tw])), (tk, .inl (kI, 3002, .inl fk))] H := hP
  have hD : va_D A [(g, .inr (3, [.ref h, .ref gi, .int gto, .int gsh, .int gfu, .int gva, .int gbo])), (tp, .inl (kI, 3002, .inl fp)), (h, .inr (9, [.ref tk, .ref tp, .ref tn, .ref tu, .ref tl, .int ln, .int (nI nw), .int ft, .int pl, .int nt, .ref tb, .int (nI tt), .ref ts, .ref tf, .ref tz, .ref tx, .ref th, .ref tw])), (tk, .inl (kI, 3002, .inl fk))] := hD
  have hK : va_K (dC, dI) vwCl [(kI, .int), (kI, .int)] s := hK
  have hK := hK.sub (tys' := [(kI, .int)]) [0] rfl
  have hP : va_P (dC, dI) vwCl [(g, .inr (3, [.ref h, .ref gi, .int gto, .int gsh, .int gfu, .int gva, .int gbo])), (tp, .inl (kI, 3002, .inl fp)), (h, .inr (9, [.ref tk, .ref tp, .ref tn, .ref tu, .ref tl, .int ln, .int (nI nw), .int ft, .int pl, .int nt, .ref tb, .int (nI tt), .ref ts, .ref tf, .ref tz, .ref tx, .ref th, .ref tw])), (tk, .inl (kI, 3002, .inl fk))] H := hP
  have hD : va_D A [(g, .inr (3, [.ref h, .ref gi, .int gto, .int gsh, .int gfu, .int gva, .int gbo])), (tp, .inl (kI, 3002, .inl fp)), (h, .inr (9, [.ref tk, .ref tp, .ref tn, .ref tu, .ref tl, .int ln, .int (nI nw), .int ft, .int pl, .int nt, .ref tb, .int (nI tt), .ref ts, .ref tf, .ref tz, .ref tx, .ref th, .ref tw])), (tk, .inl (kI, 3002, .inl fk))] := hD
  have hr_1 : r_1 = fk nw := hw
  refine lv_iload_n hx hb dX3_open_7 rfl (lv_at hl 1 rfl) ?_
  refine lv_icmp_eq (tgt := 17) hx hb dX3_open_8 (by decide) (fun hc => ?_) (fun hc => ?_)
  · have hkb : fk nw = br := hr_1.symm.trans hc
    have hn1 : nw + 1 < tt := by rcases Nat.lt_or_ge (nw + 1) tt with q | q; exact q; exact absurd (hkb.symm.trans (by rw [show nw = tt - 1 by omega]; exact hk0)) hbr
    refine lv_iload_n hx hb dX3_open_17 rfl (lv_at hl 2 rfl) ?_
    refine lv_bipush (v := 16) hx hb dX3_open_18 (by decide) ?_
    refine lv_icmp_ne (tgt := 29) hx hb dX3_open_20 (by decide) (fun h16 => ?_) (fun h16 => ?_)
    · have hd16 : d ≠ 16 := fun q => h16 (by rw [q]; rfl)
      refine lv_aload_n hx hb dX3_open_29 rfl (lv_at hl 0 rfl) ?_
      refine va_get (D := (dC, dI)) (ci := 3) (v := .ref h) (C := RX3) (T := TX3) (N := 7) hx hb hts in_c_open_X3 hown hK hP 0 rfl rfl 0 (by decide) (hts (.fieldLink RX3 15 "OwnedPlaces$Grammar" "text" "LOwnedPlaces$Text;") (wm_c_open 1 rfl)) (fun _ h9 => h9) rfl dX3_open_30 ?_
      refine lv_iconst (v := 1) hx hb dX3_open_33 (by decide) ?_
      have hPc := hP.sub (ws' := [(h, .inr (9, [.ref tk, .ref tp, .ref tn, .ref tu, .ref tl, .int ln, .int (nI nw), .int ft, .int pl, .int nt, .ref tb, .int (nI tt), .ref ts, .ref tf, .ref tz, .ref tx, .ref th, .ref tw]))]) [2] rfl
      have hDc := hD.sub (ws' := [(h, .inr (9, [.ref tk, .ref tp, .ref tn, .ref tu, .ref tl, .int ln, .int (nI nw), .int ft, .int pl, .int nt, .ref tb, .int (nI tt), .ref ts, .ref tf, .ref tz, .ref tx, .ref th, .ref tw]))]) [2] (by decide) rfl
      have hKc := hK.sub (tys' := []) [] rfl
      have hFc := va_free (wc := [(h, .inr (9, [.ref tk, .ref tp, .ref tn, .ref tu, .ref tl, .int ln, .int (nI nw), .int ft, .int pl, .int nt, .ref tb, .int (nI tt), .ref ts, .ref tf, .ref tz, .ref tx, .ref th, .ref tw]))]) hD hS hA [2] rfl
      refine va_callv (va_runV (As := [.int (nI 1)]) (rest := []) ⟨hx, hb, hml, hown, hts⟩ (c_step l dC dI h tk tp tn tu tl tb ts tf tz tx th tw ln ft pl nt nw tt 1 H.size hn htt (by decide)) (cwV 1 hts g_c_open_c_step_34 rfl rfl rfl (by decide +kernel) ⟨Nat.le_of_ble_eq_true rfl, Nat.le_of_ble_eq_true rfl⟩) ⟨fun a U g mk q => by obtain ⟨q0, q1, qP, qK, qD⟩ := q; exact ⟨q0, q1, qP, va_K.moved (u := U) (U := U.calling g mk a) (Vm.Alike.refl U.vm) qK, qD⟩, va_recv hKc hPc (ci := 9) (q0 := 0) rfl rfl, fun U hU hW => ⟨rfl, by rw [hU], by rw [hU]; exact hPc, va_K.moved hW.alike hKc, hDc.weaken (fun _ _ _ _ => trivial)⟩⟩ rfl rfl hl.1 rfl (lv_room (Nat.le_of_ble_eq_true rfl)) dX3_open_34 ⟨(show 0 + 0 ≤ 0 by omega), (show 0 + 0 ≤ 0 by omega)⟩) hS (fun q _ h => hFc q h) hFc (fun u tS H1 locs ht hvm hw hB hz1 hk1 hS => ?_)
      obtain ⟨n9, hf2_0, hP1, hK1, hD1⟩ := hB
      rw [ht] at hP1
      have hK1 := va_K.moved hvm.symm hK1
      obtain ⟨hP, hD⟩ := va_join (wr := [(g, .inr (3, [.ref h, .ref gi, .int gto, .int gsh, .int gfu, .int gva, .int gbo])), (tp, .inl (kI, 3002, .inl fp)), (tk, .inl (kI, 3002, .inl fk))]) (w1 := [(h, .inr (9, [.ref tk, .ref tp, .ref tn, .ref tu, .ref tl, .int ln, .int (nI n9), .int ft, .int pl, .int nt, .ref tb, .int (nI tt), .ref ts, .ref tf, .ref tz, .ref tx, .ref th, .ref tw]))]) hP hD [2] [0, 1, 3] rfl rfl (by decide) (by decide) hk1 hFc hP1 hD1
      generalize H1 = H at hP hS ⊢
      have hP : va_P (dC, dI) vwCl [(g, .inr (3, [.ref h, .ref gi, .int gto, .int gsh, .int gfu, .int gva, .int gbo])), (tp, .inl (kI, 3002, .inl fp)), (tk, .inl (kI, 3002, .inl fk)), (h, .inr (9, [.ref tk, .ref tp, .ref tn, .ref tu, .ref tl, .int ln, .int (nI n9), .int ft, .int pl, .int nt, .ref tb, .int (nI tt), .ref ts, .ref tf, .ref tz, .ref tx, .ref th, .ref tw]))] H := hP
      have hD : va_D A [(g, .inr (3, [.ref h, .ref gi, .int gto, .int gsh, .int gfu, .int gva, .int gbo])), (tp, .inl (kI, 3002, .inl fp)), (tk, .inl (kI, 3002, .inl fk)), (h, .inr (9, [.ref tk, .ref tp, .ref tn, .ref tu, .ref tl, .int ln, .int (nI n9), .int ft, .int pl, .int nt, .ref tb, .int (nI tt), .ref ts, .ref tf, .ref tz, .ref tx, .ref th, .ref tw]))] := hD
      have hK : va_K (dC, dI) vwCl [(kI, .int)] s := hK
      obtain rfl : n9 = nw + 1 := hf2_0.2.2.1 hn1
      have hP : va_P (dC, dI) vwCl [(g, .inr (3, [.ref h, .ref gi, .int gto, .int gsh, .int gfu, .int gva, .int gbo])), (tp, .inl (kI, 3002, .inl fp)), (tk, .inl (kI, 3002, .inl fk)), (h, .inr (9, [.ref tk, .ref tp, .ref tn, .ref tu, .ref tl, .int ln, .int (nI (nw + 1)), .int ft, .int pl, .int nt, .ref tb, .int (nI tt), .ref ts, .ref tf, .ref tz, .ref tx, .ref th, .ref tw]))] H := hP
      have hD : va_D A [(g, .inr (3, [.ref h, .ref gi, .int gto, .int gsh, .int gfu, .int gva, .int gbo])), (tp, .inl (kI, 3002, .inl fp)), (tk, .inl (kI, 3002, .inl fk)), (h, .inr (9, [.ref tk, .ref tp, .ref tn, .ref tu, .ref tl, .int ln, .int (nI (nw + 1)), .int ft, .int pl, .int nt, .ref tb, .int (nI tt), .ref ts, .ref tf, .ref tz, .ref tx, .ref th, .ref tw]))] := hD
      refine lv_iconst (v := 1) hx hb dX3_open_37 (by decide) ?_
      have hP9 := hP.sub (ws' := [(g, .inr (3, [.ref h, .ref gi, .int gto, .int gsh, .int gfu, .int gva, .int gbo])), (h, .inr (9, [.ref tk, .ref tp, .ref tn, .ref tu, .ref tl, .int ln, .int (nI (nw + 1)), .int ft, .int pl, .int nt, .ref tb, .int (nI tt), .ref ts, .ref tf, .ref tz, .ref tx, .ref th, .ref tw])), (tk, .inl (kI, 3002, .inl fk)), (tp, .inl (kI, 3002, .inl fp))]) [0, 3, 2, 1] rfl
      have hD9 := hD.sub (ws' := [(g, .inr (3, [.ref h, .ref gi, .int gto, .int gsh, .int gfu, .int gva, .int gbo])), (h, .inr (9, [.ref tk, .ref tp, .ref tn, .ref tu, .ref tl, .int ln, .int (nI (nw + 1)), .int ft, .int pl, .int nt, .ref tb, .int (nI tt), .ref ts, .ref tf, .ref tz, .ref tx, .ref th, .ref tw])), (tk, .inl (kI, 3002, .inl fk)), (tp, .inl (kI, 3002, .inl fp))]) [0, 3, 2, 1] (by decide) rfl
      have hK9 := hK.sub (tys' := [(kI, .int)]) [0] rfl
      exact W.zret (v := 1) hx hb hr (by decide) (fun tS ht hW => ⟨⟨1, (nw + 1), rfl, (Or.inl ⟨rfl, hkb, hd16, rfl, hn1⟩), ft, pl, Or.inl ⟨rfl, rfl, rfl, hd16, hkb⟩, by rw [ht]; exact hP9, va_K.moved hW.alike hK9, hD9⟩, hS.F ht⟩) hS.2.2 dX3_open_38
    · refine lv_aload_n hx hb dX3_open_23 rfl (lv_at hl 0 rfl) ?_
      have hPc := hP.sub (ws' := [(g, .inr (3, [.ref h, .ref gi, .int gto, .int gsh, .int gfu, .int gva, .int gbo])), (h, .inr (9, [.ref tk, .ref tp, .ref tn, .ref tu, .ref tl, .int ln, .int (nI nw), .int ft, .int pl, .int nt, .ref tb, .int (nI tt), .ref ts, .ref tf, .ref tz, .ref tx, .ref th, .ref tw])), (tk, .inl (kI, 3002, .inl fk)), (tp, .inl (kI, 3002, .inl fp))]) [0, 2, 3, 1] rfl
      have hDc := hD.sub (ws' := [(g, .inr (3, [.ref h, .ref gi, .int gto, .int gsh, .int gfu, .int gva, .int gbo])), (h, .inr (9, [.ref tk, .ref tp, .ref tn, .ref tu, .ref tl, .int ln, .int (nI nw), .int ft, .int pl, .int nt, .ref tb, .int (nI tt), .ref ts, .ref tf, .ref tz, .ref tx, .ref th, .ref tw])), (tk, .inl (kI, 3002, .inl fk)), (tp, .inl (kI, 3002, .inl fp))]) [0, 2, 3, 1] (by decide) rfl
      have hKc := hK.sub (tys' := [(kI, .int)]) [0] rfl
      have hFc := va_free (wc := [(g, .inr (3, [.ref h, .ref gi, .int gto, .int gsh, .int gfu, .int gva, .int gbo])), (h, .inr (9, [.ref tk, .ref tp, .ref tn, .ref tu, .ref tl, .int ln, .int (nI nw), .int ft, .int pl, .int nt, .ref tb, .int (nI tt), .ref ts, .ref tf, .ref tz, .ref tx, .ref th, .ref tw])), (tk, .inl (kI, 3002, .inl fk)), (tp, .inl (kI, 3002, .inl fp))]) hD hS hA [0, 2, 3, 1] rfl
      refine va_callv (va_runV (As := []) (rest := []) ⟨hx, hb, hml, hown, hts⟩ (c_limit l dC dI g gi h tk tp tn tu tl tb ts tf tz tx th tw ln ft pl nt gto gsh gfu gva gbo nw tt kI fk fp H.size hn htt hk0) (cwV 0 hts g_c_open_c_limit_24 rfl rfl rfl (by decide +kernel) ⟨Nat.le_of_ble_eq_true rfl, Nat.le_of_ble_eq_true rfl⟩) ⟨fun a U g mk q => by obtain ⟨q0, q1, qP, qK, qD⟩ := q; exact ⟨q0, q1, qP, va_K.moved (u := U) (U := U.calling g mk a) (Vm.Alike.refl U.vm) qK, qD⟩, va_recv hKc hPc (ci := 3) (q0 := 0) rfl rfl, fun U hU hW => ⟨rfl, by rw [hU], by rw [hU]; exact hPc, va_K.moved hW.alike hKc, hDc.weaken (fun _ _ _ _ => trivial)⟩⟩ rfl rfl hl.1 rfl (lv_room (Nat.le_of_ble_eq_true rfl)) dX3_open_24 ⟨(show 0 + 0 ≤ 0 by omega), (show 0 + 0 ≤ 0 by omega)⟩) hS (fun q _ h => hFc q h) hFc (fun u tS H1 locs ht hvm hw hB hz1 hk1 hS => ?_)
      obtain ⟨ft9, pl9, hf2_0, hP1, hK1, hD1⟩ := hB
      rw [ht] at hP1
      have hK1 := va_K.moved hvm.symm hK1
      obtain ⟨hP, hD⟩ := va_join (wr := []) (w1 := [(g, .inr (3, [.ref h, .ref gi, .int gto, .int gsh, .int gfu, .int gva, .int gbo])), (h, .inr (9, [.ref tk, .ref tp, .ref tn, .ref tu, .ref tl, .int ln, .int (nI (tt - 1)), .int ft9, .int pl9, .int nt, .ref tb, .int (nI tt), .ref ts, .ref tf, .ref tz, .ref tx, .ref th, .ref tw])), (tk, .inl (kI, 3002, .inl fk)), (tp, .inl (kI, 3002, .inl fp))]) hP hD [0, 2, 3, 1] [] rfl rfl (by decide) (by decide) hk1 hFc hP1 hD1
      have hK := hK.app hK1
      generalize H1 = H at hP hS ⊢
      have hP : va_P (dC, dI) vwCl [(g, .inr (3, [.ref h, .ref gi, .int gto, .int gsh, .int gfu, .int gva, .int gbo])), (h, .inr (9, [.ref tk, .ref tp, .ref tn, .ref tu, .ref tl, .int ln, .int (nI (tt - 1)), .int ft9, .int pl9, .int nt, .ref tb, .int (nI tt), .ref ts, .ref tf, .ref tz, .ref tx, .ref th, .ref tw])), (tk, .inl (kI, 3002, .inl fk)), (tp, .inl (kI, 3002, .inl fp))] H := hP
      have hD : va_D A [(g, .inr (3, [.ref h, .ref gi, .int gto, .int gsh, .int gfu, .int gva, .int gbo])), (h, .inr (9, [.ref tk, .ref tp, .ref tn, .ref tu, .ref tl, .int ln, .int (nI (tt - 1)), .int ft9, .int pl9, .int nt, .ref tb, .int (nI tt), .ref ts, .ref tf, .ref tz, .ref tx, .ref th, .ref tw])), (tk, .inl (kI, 3002, .inl fk)), (tp, .inl (kI, 3002, .inl fp))] := hD
      have hK : va_K (dC, dI) vwCl [(kI, .int), (kI, .int)] s := hK
      have hK := hK.sub (tys' := [(kI, .int)]) [0] rfl
      have hP : va_P (dC, dI) vwCl [(g, .inr (3, [.ref h, .ref gi, .int gto, .int gsh, .int gfu, .int gva, .int gbo])), (h, .inr (9, [.ref tk, .ref tp, .ref tn, .ref tu, .ref tl, .int ln, .int (nI (tt - 1)), .int ft9, .int pl9, .int nt, .ref tb, .int (nI tt), .ref ts, .ref tf, .ref tz, .ref tx, .ref th, .ref tw])), (tk, .inl (kI, 3002, .inl fk)), (tp, .inl (kI, 3002, .inl fp))] H := hP
      have hD : va_D A [(g, .inr (3, [.ref h, .ref gi, .int gto, .int gsh, .int gfu, .int gva, .int gbo])), (h, .inr (9, [.ref tk, .ref tp, .ref tn, .ref tu, .ref tl, .int ln, .int (nI (tt - 1)), .int ft9, .int pl9, .int nt, .ref tb, .int (nI tt), .ref ts, .ref tf, .ref tz, .ref tx, .ref th, .ref tw])), (tk, .inl (kI, 3002, .inl fk)), (tp, .inl (kI, 3002, .inl fp))] := hD
      refine lv_iconst (v := 0) hx hb dX3_open_27 (by decide) ?_
      have hP9 := hP.sub (ws' := [(g, .inr (3, [.ref h, .ref gi, .int gto, .int gsh, .int gfu, .int gva, .int gbo])), (h, .inr (9, [.ref tk, .ref tp, .ref tn, .ref tu, .ref tl, .int ln, .int (nI (tt - 1)), .int ft9, .int pl9, .int nt, .ref tb, .int (nI tt), .ref ts, .ref tf, .ref tz, .ref tx, .ref th, .ref tw])), (tk, .inl (kI, 3002, .inl fk)), (tp, .inl (kI, 3002, .inl fp))]) [0, 1, 2, 3] rfl
      have hD9 := hD.sub (ws' := [(g, .inr (3, [.ref h, .ref gi, .int gto, .int gsh, .int gfu, .int gva, .int gbo])), (h, .inr (9, [.ref tk, .ref tp, .ref tn, .ref tu, .ref tl, .int ln, .int (nI (tt - 1)), .int ft9, .int pl9, .int nt, .ref tb, .int (nI tt), .ref ts, .ref tf, .ref tz, .ref tx, .ref th, .ref tw])), (tk, .inl (kI, 3002, .inl fk)), (tp, .inl (kI, 3002, .inl fp))]) [0, 1, 2, 3] (by decide) rfl
      have hK9 := hK.sub (tys' := [(kI, .int)]) [0] rfl
      exact W.zret (v := 0) hx hb hr (by decide) (fun tS ht hW => ⟨⟨0, (tt - 1), rfl, (Or.inr ⟨rfl, rfl⟩), ft9, pl9, Or.inr ⟨hf2_0, rfl⟩, by rw [ht]; exact hP9, va_K.moved hW.alike hK9, hD9⟩, hS.F ht⟩) hS.2.2 dX3_open_28
  · refine lv_aload_n hx hb dX3_open_11 rfl (lv_at hl 0 rfl) ?_
    have hPc := hP.sub (ws' := [(g, .inr (3, [.ref h, .ref gi, .int gto, .int gsh, .int gfu, .int gva, .int gbo])), (h, .inr (9, [.ref tk, .ref tp, .ref tn, .ref tu, .ref tl, .int ln, .int (nI nw), .int ft, .int pl, .int nt, .ref tb, .int (nI tt), .ref ts, .ref tf, .ref tz, .ref tx, .ref th, .ref tw])), (tk, .inl (kI, 3002, .inl fk)), (tp, .inl (kI, 3002, .inl fp))]) [0, 2, 3, 1] rfl
    have hDc := hD.sub (ws' := [(g, .inr (3, [.ref h, .ref gi, .int gto, .int gsh, .int gfu, .int gva, .int gbo])), (h, .inr (9, [.ref tk, .ref tp, .ref tn, .ref tu, .ref tl, .int ln, .int (nI nw), .int ft, .int pl, .int nt, .ref tb, .int (nI tt), .ref ts, .ref tf, .ref tz, .ref tx, .ref th, .ref tw])), (tk, .inl (kI, 3002, .inl fk)), (tp, .inl (kI, 3002, .inl fp))]) [0, 2, 3, 1] (by decide) rfl
    have hKc := hK.sub (tys' := [(kI, .int)]) [0] rfl
    have hFc := va_free (wc := [(g, .inr (3, [.ref h, .ref gi, .int gto, .int gsh, .int gfu, .int gva, .int gbo])), (h, .inr (9, [.ref tk, .ref tp, .ref tn, .ref tu, .ref tl, .int ln, .int (nI nw), .int ft, .int pl, .int nt, .ref tb, .int (nI tt), .ref ts, .ref tf, .ref tz, .ref tx, .ref th, .ref tw])), (tk, .inl (kI, 3002, .inl fk)), (tp, .inl (kI, 3002, .inl fp))]) hD hS hA [0, 2, 3, 1] rfl
    refine va_callv (va_runV (As := []) (rest := []) ⟨hx, hb, hml, hown, hts⟩ (c_syntax l dC dI g gi h tk tp tn tu tl tb ts tf tz tx th tw ln ft pl nt gto gsh gfu gva gbo nw tt kI fk fp H.size hn htt hk0) (cwV 0 hts g_c_open_c_syntax_12 rfl rfl rfl (by decide +kernel) ⟨Nat.le_of_ble_eq_true rfl, Nat.le_of_ble_eq_true rfl⟩) ⟨fun a U g mk q => by obtain ⟨q0, q1, qP, qK, qD⟩ := q; exact ⟨q0, q1, qP, va_K.moved (u := U) (U := U.calling g mk a) (Vm.Alike.refl U.vm) qK, qD⟩, va_recv hKc hPc (ci := 3) (q0 := 0) rfl rfl, fun U hU hW => ⟨rfl, by rw [hU], by rw [hU]; exact hPc, va_K.moved hW.alike hKc, hDc.weaken (fun _ _ _ _ => trivial)⟩⟩ rfl rfl hl.1 rfl (lv_room (Nat.le_of_ble_eq_true rfl)) dX3_open_12 ⟨(show 0 + 0 ≤ 0 by omega), (show 0 + 0 ≤ 0 by omega)⟩) hS (fun q _ h => hFc q h) hFc (fun u tS H1 locs ht hvm hw hB hz1 hk1 hS => ?_)
    obtain ⟨ft9, pl9, hf2_0, hP1, hK1, hD1⟩ := hB
    rw [ht] at hP1
    have hK1 := va_K.moved hvm.symm hK1
    obtain ⟨hP, hD⟩ := va_join (wr := []) (w1 := [(g, .inr (3, [.ref h, .ref gi, .int gto, .int gsh, .int gfu, .int gva, .int gbo])), (h, .inr (9, [.ref tk, .ref tp, .ref tn, .ref tu, .ref tl, .int ln, .int (nI (tt - 1)), .int ft9, .int pl9, .int nt, .ref tb, .int (nI tt), .ref ts, .ref tf, .ref tz, .ref tx, .ref th, .ref tw])), (tk, .inl (kI, 3002, .inl fk)), (tp, .inl (kI, 3002, .inl fp))]) hP hD [0, 2, 3, 1] [] rfl rfl (by decide) (by decide) hk1 hFc hP1 hD1
    have hK := hK.app hK1
    generalize H1 = H at hP hS ⊢
    have hP : va_P (dC, dI) vwCl [(g, .inr (3, [.ref h, .ref gi, .int gto, .int gsh, .int gfu, .int gva, .int gbo])), (h, .inr (9, [.ref tk, .ref tp, .ref tn, .ref tu, .ref tl, .int ln, .int (nI (tt - 1)), .int ft9, .int pl9, .int nt, .ref tb, .int (nI tt), .ref ts, .ref tf, .ref tz, .ref tx, .ref th, .ref tw])), (tk, .inl (kI, 3002, .inl fk)), (tp, .inl (kI, 3002, .inl fp))] H := hP
    have hD : va_D A [(g, .inr (3, [.ref h, .ref gi, .int gto, .int gsh, .int gfu, .int gva, .int gbo])), (h, .inr (9, [.ref tk, .ref tp, .ref tn, .ref tu, .ref tl, .int ln, .int (nI (tt - 1)), .int ft9, .int pl9, .int nt, .ref tb, .int (nI tt), .ref ts, .ref tf, .ref tz, .ref tx, .ref th, .ref tw])), (tk, .inl (kI, 3002, .inl fk)), (tp, .inl (kI, 3002, .inl fp))] := hD
    have hK : va_K (dC, dI) vwCl [(kI, .int), (kI, .int)] s := hK
    have hK := hK.sub (tys' := [(kI, .int)]) [0] rfl
    have hP : va_P (dC, dI) vwCl [(g, .inr (3, [.ref h, .ref gi, .int gto, .int gsh, .int gfu, .int gva, .int gbo])), (h, .inr (9, [.ref tk, .ref tp, .ref tn, .ref tu, .ref tl, .int ln, .int (nI (tt - 1)), .int ft9, .int pl9, .int nt, .ref tb, .int (nI tt), .ref ts, .ref tf, .ref tz, .ref tx, .ref th, .ref tw])), (tk, .inl (kI, 3002, .inl fk)), (tp, .inl (kI, 3002, .inl fp))] H := hP
    have hD : va_D A [(g, .inr (3, [.ref h, .ref gi, .int gto, .int gsh, .int gfu, .int gva, .int gbo])), (h, .inr (9, [.ref tk, .ref tp, .ref tn, .ref tu, .ref tl, .int ln, .int (nI (tt - 1)), .int ft9, .int pl9, .int nt, .ref tb, .int (nI tt), .ref ts, .ref tf, .ref tz, .ref tx, .ref th, .ref tw])), (tk, .inl (kI, 3002, .inl fk)), (tp, .inl (kI, 3002, .inl fp))] := hD
    refine lv_iconst (v := 0) hx hb dX3_open_15 (by decide) ?_
    have hP9 := hP.sub (ws' := [(g, .inr (3, [.ref h, .ref gi, .int gto, .int gsh, .int gfu, .int gva, .int gbo])), (h, .inr (9, [.ref tk, .ref tp, .ref tn, .ref tu, .ref tl, .int ln, .int (nI (tt - 1)), .int ft9, .int pl9, .int nt, .ref tb, .int (nI tt), .ref ts, .ref tf, .ref tz, .ref tx, .ref th, .ref tw])), (tk, .inl (kI, 3002, .inl fk)), (tp, .inl (kI, 3002, .inl fp))]) [0, 1, 2, 3] rfl
    have hD9 := hD.sub (ws' := [(g, .inr (3, [.ref h, .ref gi, .int gto, .int gsh, .int gfu, .int gva, .int gbo])), (h, .inr (9, [.ref tk, .ref tp, .ref tn, .ref tu, .ref tl, .int ln, .int (nI (tt - 1)), .int ft9, .int pl9, .int nt, .ref tb, .int (nI tt), .ref ts, .ref tf, .ref tz, .ref tx, .ref th, .ref tw])), (tk, .inl (kI, 3002, .inl fk)), (tp, .inl (kI, 3002, .inl fp))]) [0, 1, 2, 3] (by decide) rfl
    have hK9 := hK.sub (tys' := [(kI, .int)]) [0] rfl
    exact W.zret (v := 0) hx hb hr (by decide) (fun tS ht hW => ⟨⟨0, (tt - 1), rfl, (Or.inr ⟨rfl, rfl⟩), ft9, pl9, Or.inr ⟨hf2_0, rfl⟩, by rw [ht]; exact hP9, va_K.moved hW.alike hK9, hD9⟩, hS.F ht⟩) hS.2.2 dX3_open_16
