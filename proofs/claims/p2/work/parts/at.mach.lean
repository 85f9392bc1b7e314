def wf_c_stop : List Cond := [.code yX5_stop cX5_stop 2 none, .fieldLink RX5 54 "OwnedPlaces$Machine" "fault" "I", .fieldLink RX5 57 "OwnedPlaces$Machine" "isRunning" "Z"]
def wp_c_stop : List Cond := wf_c_stop ++ (wsX50 ++ [])
theorem in_c_stop_X5 : ∀ w ∈ wsX50, w ∈ wp_c_stop := fun w h => List.mem_append_right _ (List.mem_append_left _ h)
theorem wg_c_stop : wf_c_stop.all goodWord = true := by decide +kernel
theorem wm_c_stop (k : Nat) {w : Cond} (h : wp_c_stop[k]? = some w) : w ∈ wp_c_stop := List.mem_of_getElem? h
set_option maxHeartbeats 4000000 in
set_option maxRecDepth 100000 in
theorem c_stop (l : Launch) (dC : Nat → ClassId) (dI : Nat → Nat → Nat) (mx c0 y e0 me nq0 wq mk0 mk1 mk2 mk3 : Nat) (xfu xfa xru xne xba xto xca xfb : Int32) (vfn : Value) (x1 : Int32) (sz : Nat) : Met l yX5_stop wp_c_stop ({ frames := 0, cells := 0, slots := 0, locals := 0 }) (va_Pc [.ref mx, .int x1] (fun U => U.heap.size = sz ∧ va_P (dC, dI) vwCl [(mx, .inr (5, [.ref c0, .ref y, .ref e0, .ref me, .ref nq0, .ref wq, .int xfu, .int xfa, .int xru, .int xne, .int xba, .int xto, .int xca, vfn, .ref mk0, .ref mk1, .ref mk2, .ref mk3, .int xfb]))] U.heap ∧ va_K (dC, dI) vwCl [] U ∧ va_D (fun _ => True) [(mx, .inr (5, [.ref c0, .ref y, .ref e0, .ref me, .ref nq0, .ref wq, .int xfu, .int xfa, .int xru, .int xne, .int xba, .int xto, .int xca, vfn, .ref mk0, .ref mk1, .ref mk2, .ref mk3, .int xfb]))])) (va_Qv (fun _ : Unit => True) (fun (_ : Unit) (tS : State) => va_P (dC, dI) vwCl [(mx, .inr (5, [.ref c0, .ref y, .ref e0, .ref me, .ref nq0, .ref wq, .int xfu, .int x1, .int 0, .int xne, .int xba, .int xto, .int xca, vfn, .ref mk0, .ref mk1, .ref mk2, .ref mk3, .int xfb]))] tS.heap ∧ va_K (dC, dI) vwCl [] tS ∧ va_D (va_A [(mx, .inr (5, [.ref c0, .ref y, .ref e0, .ref me, .ref nq0, .ref wq, .int xfu, .int xfa, .int xru, .int xne, .int xba, .int xto, .int xca, vfn, .ref mk0, .ref mk1, .ref mk2, .ref mk3, .int xfb]))] sz) [(mx, .inr (5, [.ref c0, .ref y, .ref e0, .ref me, .ref nq0, .ref wq, .int xfu, .int x1, .int 0, .int xne, .int xba, .int xto, .int xca, vfn, .ref mk0, .ref mk1, .ref mk2, .ref mk3, .int xfb]))]) (va_A [(mx, .inr (5, [.ref c0, .ref y, .ref e0, .ref me, .ref nq0, .ref wq, .int xfu, .int xfa, .int xru, .int xne, .int xba, .int xto, .int xca, vfn, .ref mk0, .ref mk1, .ref mk2, .ref mk3, .int xfb]))] sz)) 0 0 (va_A [(mx, .inr (5, [.ref c0, .ref y, .ref e0, .ref me, .ref nq0, .ref wq, .int xfu, .int xfa, .int xru, .int xne, .int xba, .int xto, .int xca, vfn, .ref mk0, .ref mk1, .ref mk2, .ref mk3, .int xfb]))] sz) := by
  refine Met.ofW (cc := cX5_stop) (maxL := 2) (ret := none) (by decide) rfl ?_
  intro p e s m args below meth c s₁ B hml hv
  obtain ⟨rfl, hsz, hP, hK, hD0⟩ := hv
  have hx := B.exec
  have hb := B.bytes
  have hr := B.returns
  have hts := atoms_spec (ws := wp_c_stop) B.pre
  have hown : s.vm.findClass RX5 = some m.cls := findClass_of_methodNamed B.named
  have hlocks := B.notSynchronized
  subst hsz
  have hD := hD0.self (sz := s.heap.size)
  generalize hAe : va_A [(mx, .inr (5, [.ref c0, .ref y, .ref e0, .ref me, .ref nq0, .ref wq, .int xfu, .int xfa, .int xru, .int xne, .int xba, .int xto, .int xca, vfn, .ref mk0, .ref mk1, .ref mk2, .ref mk3, .int xfb]))] s.heap.size = A at hD ⊢
  have hA : ∀ q : Nat, s.heap.size ≤ q → A q := fun q h => by rw [← hAe]; exact Or.inr h
  have hS : va_S A s.heap s.heap [] := va_S.rf
  have hP : va_P (dC, dI) vwCl [(mx, .inr (5, [.ref c0, .ref y, .ref e0, .ref me, .ref nq0, .ref wq, .int xfu, .int xfa, .int xru, .int xne, .int xba, .int xto, .int xca, vfn, .ref mk0, .ref mk1, .ref mk2, .ref mk3, .int xfb]))] s.heap := hP
  have hl := lv_entry ([.ref mx, .int x1]) (n := 2) (Nat.le_of_ble_eq_true rfl)
  rw [lg_entry_eq]
  generalize (lg_sl ([.ref mx, .int x1]) ++ List.replicate (2 - (lg_sl ([.ref mx, .int x1])).length) Slot.unset).toArray = ls at hl ⊢
  have hl : lv_has ls 2 [(0, .ref mx), (1, .int x1)] := hl
  refine lv_aload_n hx hb dX5_stop_0 rfl (lv_at hl 0 rfl) ?_
  refine lv_iload_n hx hb dX5_stop_1 rfl (lv_at hl 1 rfl) ?_
  refine va_put (D := (dC, dI)) (ci := 5) (v := .int x1) (ty := .int) (C := RX5) (T := TX5) (N := 19) hx hb hts in_c_stop_X5 tyX5 tyX5_ok nmX5 hown hK hP hD hS 0 rfl rfl 7 (by decide) (hts (.fieldLink RX5 54 "OwnedPlaces$Machine" "fault" "I") (wm_c_stop 1 rfl)) (fun _ h9 => h9) rfl (by decide +kernel) rfl rfl (Nat.le_of_ble_eq_true rfl) dX5_stop_2 (fun H locs hP hD hS => ?_)
  have hP : va_P (dC, dI) vwCl [(mx, .inr (5, [.ref c0, .ref y, .ref e0, .ref me, .ref nq0, .ref wq, .int xfu, .int x1, .int xru, .int xne, .int xba, .int xto, .int xca, vfn, .ref mk0, .ref mk1, .ref mk2, .ref mk3, .int xfb]))] H := hP
  have hD : va_D A [(mx, .inr (5, [.ref c0, .ref y, .ref e0, .ref me, .ref nq0, .ref wq, .int xfu, .int x1, .int xru, .int xne, .int xba, .int xto, .int xca, vfn, .ref mk0, .ref mk1, .ref mk2, .ref mk3, .int xfb]))] := hD
  refine lv_aload_n hx hb dX5_stop_5 rfl (lv_at hl 0 rfl) ?_
  refine lv_iconst (v := 0) hx hb dX5_stop_6 (by decide) ?_
  refine va_put (D := (dC, dI)) (ci := 5) (v := .int 0) (ty := .boolean) (C := RX5) (T := TX5) (N := 19) hx hb hts in_c_stop_X5 tyX5 tyX5_ok nmX5 hown hK hP hD hS 0 rfl rfl 8 (by decide) (hts (.fieldLink RX5 57 "OwnedPlaces$Machine" "isRunning" "Z") (wm_c_stop 2 rfl)) (fun _ h9 => h9) rfl (by decide +kernel) (by decide) (by decide) (Nat.le_of_ble_eq_true rfl) dX5_stop_7 (fun H locs hP hD hS => ?_)
  have hP : va_P (dC, dI) vwCl [(mx, .inr (5, [.ref c0, .ref y, .ref e0, .ref me, .ref nq0, .ref wq, .int xfu, .int x1, .int 0, .int xne, .int xba, .int xto, .int xca, vfn, .ref mk0, .ref mk1, .ref mk2, .ref mk3, .int xfb]))] H := hP
  have hD : va_D A [(mx, .inr (5, [.ref c0, .ref y, .ref e0, .ref me, .ref nq0, .ref wq, .int xfu, .int x1, .int 0, .int xne, .int xba, .int xto, .int xca, vfn, .ref mk0, .ref mk1, .ref mk2, .ref mk3, .int xfb]))] := hD
  have hP9 := hP.sub (ws' := [(mx, .inr (5, [.ref c0, .ref y, .ref e0, .ref me, .ref nq0, .ref wq, .int xfu, .int x1, .int 0, .int xne, .int xba, .int xto, .int xca, vfn, .ref mk0, .ref mk1, .ref mk2, .ref mk3, .int xfb]))]) [0] rfl
  have hD9 := hD.sub (ws' := [(mx, .inr (5, [.ref c0, .ref y, .ref e0, .ref me, .ref nq0, .ref wq, .int xfu, .int x1, .int 0, .int xne, .int xba, .int xto, .int xca, vfn, .ref mk0, .ref mk1, .ref mk2, .ref mk3, .int xfb]))]) [0] (by decide) rfl
  have hK9 := hK.sub (tys' := []) [] rfl
  exact W.vret hx hb hr (fun tS ht hW => ⟨⟨(), rfl, trivial, by rw [ht]; exact hP9, va_K.moved hW.alike hK9, hD9⟩, hS.F ht⟩) hS.2.2 dX5_stop_10
def wf_c_burn : List Cond := [.code yX5_burn cX5_burn 1 (some .boolean), .fieldLink RX5 50 "OwnedPlaces$Machine" "fuel" "I", .code yX5_stop cX5_stop 2 none, .fieldLink RX5 54 "OwnedPlaces$Machine" "fault" "I", .fieldLink RX5 57 "OwnedPlaces$Machine" "isRunning" "Z", .methodLink RX5 172 yX5_stop, .instanceMethod yX5_stop, .selects RX5 yX5_stop yX5_stop, .initialized RX5]
def wp_c_burn : List Cond := wf_c_burn ++ (wsX50 ++ [])
theorem in_c_burn_X5 : ∀ w ∈ wsX50, w ∈ wp_c_burn := fun w h => List.mem_append_right _ (List.mem_append_left _ h)
theorem wg_c_burn : wf_c_burn.all goodWord = true := by decide +kernel
theorem wm_c_burn (k : Nat) {w : Cond} (h : wp_c_burn[k]? = some w) : w ∈ wp_c_burn := List.mem_of_getElem? h
set_option maxRecDepth 20000 in
theorem g_c_burn_c_stop_10 : GoodIn wp_c_burn (wsV RX5 172 RX5 yX5_stop wp_c_stop) := goodIn_app (goodIn_f [.methodLink RX5 172 yX5_stop, .instanceMethod yX5_stop, .selects RX5 yX5_stop yX5_stop, .initialized RX5] [5, 6, 7, 8] rfl (by decide +kernel)) (goodIn_app (goodIn_f (wf_c_stop) [2, 3, 4] rfl wg_c_stop) (goodIn_app (goodIn_sub in_c_burn_X5 gd_X5) (goodIn_n)))
set_option maxHeartbeats 4000000 in
set_option maxRecDepth 100000 in
theorem c_burn (l : Launch) (dC : Nat → ClassId) (dI : Nat → Nat → Nat) (mx c0 y e0 me nq0 wq mk0 mk1 mk2 mk3 : Nat) (xfa xru xne xba xto xca xfb : Int32) (vfn : Value) (fu : Nat) (sz : Nat) (hfu : fu ≤ 20000) : Met l yX5_burn wp_c_burn ({ frames := 1, cells := 0, slots := 0, locals := 21 }) (va_Pc [.ref mx] (fun U => U.heap.size = sz ∧ va_P (dC, dI) vwCl [(mx, .inr (5, [.ref c0, .ref y, .ref e0, .ref me, .ref nq0, .ref wq, .int (nI fu), .int xfa, .int xru, .int xne, .int xba, .int xto, .int xca, vfn, .ref mk0, .ref mk1, .ref mk2, .ref mk3, .int xfb]))] U.heap ∧ va_K (dC, dI) vwCl [] U ∧ va_D (fun _ => True) [(mx, .inr (5, [.ref c0, .ref y, .ref e0, .ref me, .ref nq0, .ref wq, .int (nI fu), .int xfa, .int xru, .int xne, .int xba, .int xto, .int xca, vfn, .ref mk0, .ref mk1, .ref mk2, .ref mk3, .int xfb]))])) (va_Qi (fun (r okv : Int32) => r = okv) (fun (okv : Int32) (tS : State) => ∃ (fu2 : Nat) (fa2 : Int32) (ru2 : Int32), ((okv = 0 ∧ fu = 0 ∧ fu2 = 0 ∧ fa2 = 8 ∧ ru2 = 0) ∨ (okv = 1 ∧ fu = fu2 + 1 ∧ fa2 = xfa ∧ ru2 = xru)) ∧ va_P (dC, dI) vwCl [(mx, .inr (5, [.ref c0, .ref y, .ref e0, .ref me, .ref nq0, .ref wq, .int (nI fu2), .int fa2, .int ru2, .int xne, .int xba, .int xto, .int xca, vfn, .ref mk0, .ref mk1, .ref mk2, .ref mk3, .int xfb]))] tS.heap ∧ va_K (dC, dI) vwCl [] tS ∧ va_D (va_A [(mx, .inr (5, [.ref c0, .ref y, .ref e0, .ref me, .ref nq0, .ref wq, .int (nI fu), .int xfa, .int xru, .int xne, .int xba, .int xto, .int xca, vfn, .ref mk0, .ref mk1, .ref mk2, .ref mk3, .int xfb]))] sz) [(mx, .inr (5, [.ref c0, .ref y, .ref e0, .ref me, .ref nq0, .ref wq, .int (nI fu2), .int fa2, .int ru2, .int xne, .int xba, .int xto, .int xca, vfn, .ref mk0, .ref mk1, .ref mk2, .ref mk3, .int xfb]))]) (va_A [(mx, .inr (5, [.ref c0, .ref y, .ref e0, .ref me, .ref nq0, .ref wq, .int (nI fu), .int xfa, .int xru, .int xne, .int xba, .int xto, .int xca, vfn, .ref mk0, .ref mk1, .ref mk2, .ref mk3, .int xfb]))] sz)) 0 0 (va_A [(mx, .inr (5, [.ref c0, .ref y, .ref e0, .ref me, .ref nq0, .ref wq, .int (nI fu), .int xfa, .int xru, .int xne, .int xba, .int xto, .int xca, vfn, .ref mk0, .ref mk1, .ref mk2, .ref mk3, .int xfb]))] sz) := by
  refine Met.ofW (cc := cX5_burn) (maxL := 1) (ret := (some .boolean)) (by decide) rfl ?_
  intro p e s m args below meth c s₁ B hml hv
  obtain ⟨rfl, hsz, hP, hK, hD0⟩ := hv
  have hx := B.exec
  have hb := B.bytes
  have hr := B.returns
  have hts := atoms_spec (ws := wp_c_burn) B.pre
  have hown : s.vm.findClass RX5 = some m.cls := findClass_of_methodNamed B.named
  have hlocks := B.notSynchronized
  subst hsz
  have hD := hD0.self (sz := s.heap.size)
  generalize hAe : va_A [(mx, .inr (5, [.ref c0, .ref y, .ref e0, .ref me, .ref nq0, .ref wq, .int (nI fu), .int xfa, .int xru, .int xne, .int xba, .int xto, .int xca, vfn, .ref mk0, .ref mk1, .ref mk2, .ref mk3, .int xfb]))] s.heap.size = A at hD ⊢
  have hA : ∀ q : Nat, s.heap.size ≤ q → A q := fun q h => by rw [← hAe]; exact Or.inr h
  have hS : va_S A s.heap s.heap [] := va_S.rf
  have hP : va_P (dC, dI) vwCl [(mx, .inr (5, [.ref c0, .ref y, .ref e0, .ref me, .ref nq0, .ref wq, .int (nI fu), .int xfa, .int xru, .int xne, .int xba, .int xto, .int xca, vfn, .ref mk0, .ref mk1, .ref mk2, .ref mk3, .int xfb]))] s.heap := hP
  have hl := lv_entry ([.ref mx]) (n := 1) (Nat.le_of_ble_eq_true rfl)
  rw [lg_entry_eq]
  generalize (lg_sl ([.ref mx]) ++ List.replicate (1 - (lg_sl ([.ref mx])).length) Slot.unset).toArray = ls at hl ⊢
  have hl : lv_has ls 1 [(0, .ref mx)] := hl
  refine lv_aload_n hx hb dX5_burn_0 rfl (lv_at hl 0 rfl) ?_
  refine va_get (D := (dC, dI)) (ci := 5) (v := .int (nI fu)) (C := RX5) (T := TX5) (N := 19) hx hb hts in_c_burn_X5 hown hK hP 0 rfl rfl 6 (by decide) (hts (.fieldLink RX5 50 "OwnedPlaces$Machine" "fuel" "I") (wm_c_burn 1 rfl)) (fun _ h9 => h9) rfl dX5_burn_1 ?_
  refine lv_if_ne (tgt := 15) hx hb dX5_burn_4 (by decide) (fun hne => ?_) (fun hne => ?_)
  · obtain ⟨f2, rfl⟩ : ∃ f2, fu = f2 + 1 := ⟨fu - 1, by
      rcases Nat.eq_zero_or_pos fu with y9 | y9
      · exact absurd (by rw [y9]; rfl) hne
      · omega⟩
    have hP : va_P (dC, dI) vwCl [(mx, .inr (5, [.ref c0, .ref y, .ref e0, .ref me, .ref nq0, .ref wq, .int (nI (f2 + 1)), .int xfa, .int xru, .int xne, .int xba, .int xto, .int xca, vfn, .ref mk0, .ref mk1, .ref mk2, .ref mk3, .int xfb]))] s.heap := hP
    have hD : va_D A [(mx, .inr (5, [.ref c0, .ref y, .ref e0, .ref me, .ref nq0, .ref wq, .int (nI (f2 + 1)), .int xfa, .int xru, .int xne, .int xba, .int xto, .int xca, vfn, .ref mk0, .ref mk1, .ref mk2, .ref mk3, .int xfb]))] := hD
    refine lv_aload_n hx hb dX5_burn_15 rfl (lv_at hl 0 rfl) ?_
    refine lv_dup hx hb dX5_burn_16 rfl ?_
    refine va_get (D := (dC, dI)) (ci := 5) (v := .int (nI (f2 + 1))) (C := RX5) (T := TX5) (N := 19) hx hb hts in_c_burn_X5 hown hK hP 0 rfl rfl 6 (by decide) (hts (.fieldLink RX5 50 "OwnedPlaces$Machine" "fuel" "I") (wm_c_burn 1 rfl)) (fun _ h9 => h9) rfl dX5_burn_17 ?_
    refine lv_iconst (v := 1) hx hb dX5_burn_20 (by decide) ?_
    refine lv_isub hx hb dX5_burn_21 ?_
    refine lv_topi (fun f_1 ef_1 => ?_)
    obtain rfl : f_1 = nI f2 := ef_1.trans (nI_pred f2)
    refine va_put (D := (dC, dI)) (ci := 5) (v := .int (nI f2)) (ty := .int) (C := RX5) (T := TX5) (N := 19) hx hb hts in_c_burn_X5 tyX5 tyX5_ok nmX5 hown hK hP hD hS 0 rfl rfl 6 (by decide) (hts (.fieldLink RX5 50 "OwnedPlaces$Machine" "fuel" "I") (wm_c_burn 1 rfl)) (fun _ h9 => h9) rfl (by decide +kernel) rfl rfl (Nat.le_of_ble_eq_true rfl) dX5_burn_22 (fun H locs hP hD hS => ?_)
    have hP : va_P (dC, dI) vwCl [(mx, .inr (5, [.ref c0, .ref y, .ref e0, .ref me, .ref nq0, .ref wq, .int (nI f2), .int xfa, .int xru, .int xne, .int xba, .int xto, .int xca, vfn, .ref mk0, .ref mk1, .ref mk2, .ref mk3, .int xfb]))] H := hP
    have hD : va_D A [(mx, .inr (5, [.ref c0, .ref y, .ref e0, .ref me, .ref nq0, .ref wq, .int (nI f2), .int xfa, .int xru, .int xne, .int xba, .int xto, .int xca, vfn, .ref mk0, .ref mk1, .ref mk2, .ref mk3, .int xfb]))] := hD
    refine lv_iconst (v := 1) hx hb dX5_burn_25 (by decide) ?_
    have hP9 := hP.sub (ws' := [(mx, .inr (5, [.ref c0, .ref y, .ref e0, .ref me, .ref nq0, .ref wq, .int (nI f2), .int xfa, .int xru, .int xne, .int xba, .int xto, .int xca, vfn, .ref mk0, .ref mk1, .ref mk2, .ref mk3, .int xfb]))]) [0] rfl
    have hD9 := hD.sub (ws' := [(mx, .inr (5, [.ref c0, .ref y, .ref e0, .ref me, .ref nq0, .ref wq, .int (nI f2), .int xfa, .int xru, .int xne, .int xba, .int xto, .int xca, vfn, .ref mk0, .ref mk1, .ref mk2, .ref mk3, .int xfb]))]) [0] (by decide) rfl
    have hK9 := hK.sub (tys' := []) [] rfl
    exact W.zret (v := 1) hx hb hr (by decide) (fun tS ht hW => ⟨⟨1, 1, rfl, rfl, f2, xfa, xru, Or.inr ⟨rfl, rfl, rfl, rfl⟩, by rw [ht]; exact hP9, va_K.moved hW.alike hK9, hD9⟩, hS.F ht⟩) hS.2.2 dX5_burn_26
  · have hfu0 : fu = 0 := (nI_eq (a := fu) (b := 0) (by omega) (by decide)).mp hne
    refine lv_aload_n hx hb dX5_burn_7 rfl (lv_at hl 0 rfl) ?_
    refine lv_bipush (v := 8) hx hb dX5_burn_8 (by decide) ?_
    have hPc := hP.sub (ws' := [(mx, .inr (5, [.ref c0, .ref y, .ref e0, .ref me, .ref nq0, .ref wq, .int (nI fu), .int xfa, .int xru, .int xne, .int xba, .int xto, .int xca, vfn, .ref mk0, .ref mk1, .ref mk2, .ref mk3, .int xfb]))]) [0] rfl
    have hDc := hD.sub (ws' := [(mx, .inr (5, [.ref c0, .ref y, .ref e0, .ref me, .ref nq0, .ref wq, .int (nI fu), .int xfa, .int xru, .int xne, .int xba, .int xto, .int xca, vfn, .ref mk0, .ref mk1, .ref mk2, .ref mk3, .int xfb]))]) [0] (by decide) rfl
    have hKc := hK.sub (tys' := []) [] rfl
    have hFc := va_free (wc := [(mx, .inr (5, [.ref c0, .ref y, .ref e0, .ref me, .ref nq0, .ref wq, .int (nI fu), .int xfa, .int xru, .int xne, .int xba, .int xto, .int xca, vfn, .ref mk0, .ref mk1, .ref mk2, .ref mk3, .int xfb]))]) hD hS hA [0] rfl
    refine va_callv (va_runV (As := [.int 8]) (rest := []) ⟨hx, hb, hml, hown, hts⟩ (c_stop l dC dI mx c0 y e0 me nq0 wq mk0 mk1 mk2 mk3 (nI fu) xfa xru xne xba xto xca xfb vfn 8 s.heap.size) (cwV 1 hts g_c_burn_c_stop_10 rfl rfl rfl (by decide +kernel) ⟨Nat.le_of_ble_eq_true rfl, Nat.le_of_ble_eq_true rfl⟩) ⟨fun a U g mk q => by obtain ⟨q0, q1, qP, qK, qD⟩ := q; exact ⟨q0, q1, qP, va_K.moved (u := U) (U := U.calling g mk a) (Vm.Alike.refl U.vm) qK, qD⟩, va_recv hKc hPc (ci := 5) (q0 := 0) rfl rfl, fun U hU hW => ⟨rfl, by rw [hU], by rw [hU]; exact hPc, va_K.moved hW.alike hKc, hDc.weaken (fun _ _ _ _ => trivial)⟩⟩ rfl rfl hl.1 rfl (lv_room (Nat.le_of_ble_eq_true rfl)) dX5_burn_10 ⟨(show 0 + 0 ≤ 0 by omega), (show 0 + 0 ≤ 0 by omega)⟩) hS (fun q _ h => hFc q h) hFc (fun u tS H1 locs ht hvm hw hB hz1 hk1 hS => ?_)
    obtain ⟨hP1, hK1, hD1⟩ := hB
    rw [ht] at hP1
    have hK1 := va_K.moved hvm.symm hK1
    obtain ⟨hP, hD⟩ := va_join (wr := []) (w1 := [(mx, .inr (5, [.ref c0, .ref y, .ref e0, .ref me, .ref nq0, .ref wq, .int (nI fu), .int 8, .int 0, .int xne, .int xba, .int xto, .int xca, vfn, .ref mk0, .ref mk1, .ref mk2, .ref mk3, .int xfb]))]) hP hD [0] [] rfl rfl (by decide) (by decide) hk1 hFc hP1 hD1
    generalize H1 = H at hP hS ⊢
    have hP : va_P (dC, dI) vwCl [(mx, .inr (5, [.ref c0, .ref y, .ref e0, .ref me, .ref nq0, .ref wq, .int (nI fu), .int 8, .int 0, .int xne, .int xba, .int xto, .int xca, vfn, .ref mk0, .ref mk1, .ref mk2, .ref mk3, .int xfb]))] H := hP
    have hD : va_D A [(mx, .inr (5, [.ref c0, .ref y, .ref e0, .ref me, .ref nq0, .ref wq, .int (nI fu), .int 8, .int 0, .int xne, .int xba, .int xto, .int xca, vfn, .ref mk0, .ref mk1, .ref mk2, .ref mk3, .int xfb]))] := hD
    have hK : va_K (dC, dI) vwCl [] s := hK
    refine lv_iconst (v := 0) hx hb dX5_burn_13 (by decide) ?_
    have hP9 := hP.sub (ws' := [(mx, .inr (5, [.ref c0, .ref y, .ref e0, .ref me, .ref nq0, .ref wq, .int (nI fu), .int 8, .int 0, .int xne, .int xba, .int xto, .int xca, vfn, .ref mk0, .ref mk1, .ref mk2, .ref mk3, .int xfb]))]) [0] rfl
    have hD9 := hD.sub (ws' := [(mx, .inr (5, [.ref c0, .ref y, .ref e0, .ref me, .ref nq0, .ref wq, .int (nI fu), .int 8, .int 0, .int xne, .int xba, .int xto, .int xca, vfn, .ref mk0, .ref mk1, .ref mk2, .ref mk3, .int xfb]))]) [0] (by decide) rfl
    have hK9 := hK.sub (tys' := []) [] rfl
    exact W.zret (v := 0) hx hb hr (by decide) (fun tS ht hW => ⟨⟨0, 0, rfl, rfl, fu, 8, 0, Or.inl ⟨rfl, hfu0, hfu0, rfl, rfl⟩, by rw [ht]; exact hP9, va_K.moved hW.alike hK9, hD9⟩, hS.F ht⟩) hS.2.2 dX5_burn_14
def wf_c_beyond : List Cond := [.code yX5_isBeyond cX5_isBeyond 7 (some .boolean), .constantLong RX5 202 (-1), .constantLong RX5 170 (-9223372036854775808)]
def wp_c_beyond : List Cond := wf_c_beyond ++ []
theorem wg_c_beyond : wf_c_beyond.all goodWord = true := by decide +kernel
theorem wm_c_beyond (k : Nat) {w : Cond} (h : wp_c_beyond[k]? = some w) : w ∈ wp_c_beyond := List.mem_of_getElem? h
set_option maxHeartbeats 4000000 in
set_option maxRecDepth 100000 in
theorem c_beyond (l : Launch) (dC : Nat → ClassId) (dI : Nat → Nat → Nat) (sg : Int32) (la ra : Int64) (sz : Nat) : Met l yX5_isBeyond wp_c_beyond ({ frames := 0, cells := 0, slots := 0, locals := 0 }) (va_Pc [.int sg, .long la, .long ra] (fun U => U.heap.size = sz ∧ va_P (dC, dI) vwCl [] U.heap ∧ va_K (dC, dI) vwCl [] U ∧ va_D (fun _ => True) [])) (va_Qi (fun (r : Int32) (_ : Unit) => r = 0 ∨ r = 1) (fun (_ : Unit) (tS : State) => va_P (dC, dI) vwCl [] tS.heap ∧ va_K (dC, dI) vwCl [] tS ∧ va_D (va_A [] sz) []) (va_A [] sz)) 0 0 (va_A [] sz) := by
  refine Met.ofW (cc := cX5_isBeyond) (maxL := 7) (ret := (some .boolean)) (by decide) rfl ?_
  intro p e s m args below meth c s₁ B hml hv
  obtain ⟨rfl, hsz, hP, hK, hD0⟩ := hv
  have hx := B.exec
  have hb := B.bytes
  have hr := B.returns
  have hts := atoms_spec (ws := wp_c_beyond) B.pre
  have hown : s.vm.findClass RX5 = some m.cls := findClass_of_methodNamed B.named
  have hlocks := B.notSynchronized
  subst hsz
  have hD := hD0.self (sz := s.heap.size)
  generalize hAe : va_A [] s.heap.size = A at hD ⊢
  have hA : ∀ q : Nat, s.heap.size ≤ q → A q := fun q h => by rw [← hAe]; exact Or.inr h
  have hS : va_S A s.heap s.heap [] := va_S.rf
  have hP : va_P (dC, dI) vwCl [] s.heap := hP
  have hl := lv_entry ([.int sg, .long la, .long ra]) (n := 7) (Nat.le_of_ble_eq_true rfl)
  rw [lg_entry_eq]
  generalize (lg_sl ([.int sg, .long la, .long ra]) ++ List.replicate (7 - (lg_sl ([.int sg, .long la, .long ra])).length) Slot.unset).toArray = ls at hl ⊢
  have hl : lv_has ls 7 [(0, .int sg), (1, .long la), (3, .long ra)] := hl
  refine lv_iload_n hx hb dX5_isBeyond_0 rfl (lv_at hl 0 rfl) ?_
  by_cases hs42 : sg = 42
  · refine lv_tableIn (off := 76) (tgt := 77) hx hb dX5_isBeyond_1 (by rw [hs42]; decide) (by rw [hs42]; decide) (by rw [hs42]; decide) (by decide) ?_
    refine lv_lload_n hx hb dX5_isBeyond_77 rfl (lv_at hl 1 rfl) ?_
    refine lv_ldc2 (v := (-1)) hx hb hown (hts (.constantLong RX5 202 (-1)) (wm_c_beyond 1 rfl)) dX5_isBeyond_78 ?_
    refine W.lcmp hx hb dX5_isBeyond_81 ?_
    refine lv_topi (fun f_1 ef_1 => ?_)
    refine lv_if_ne (tgt := 99) hx hb dX5_isBeyond_82 (by decide) (fun hq1 => ?_) (fun hq1 => ?_)
    · refine lv_lload_n hx hb dX5_isBeyond_99 rfl (lv_at hl 1 rfl) ?_
      refine lv_lconst (v := 0) hx hb dX5_isBeyond_100 (by decide) ?_
      refine W.lcmp hx hb dX5_isBeyond_101 ?_
      refine lv_topi (fun f_2 ef_2 => ?_)
      refine lv_if_eq (tgt := 119) hx hb dX5_isBeyond_102 (by decide) (fun hq2 => ?_) (fun hq2 => ?_)
      · refine lv_iconst (v := 0) hx hb dX5_isBeyond_119 (by decide) ?_
        have hP9 := hP.sub (ws' := []) [] rfl
        have hD9 := hD.sub (ws' := []) [] (by decide) rfl
        have hK9 := hK.sub (tys' := []) [] rfl
        exact W.zret (v := 0) hx hb hr (by decide) (fun tS ht hW => ⟨⟨0, (), rfl, (Or.inl rfl), by rw [ht]; exact hP9, va_K.moved hW.alike hK9, hD9⟩, hS.F ht⟩) hS.2.2 dX5_isBeyond_120
      · refine lv_lload_n hx hb dX5_isBeyond_105 rfl (lv_at hl 1 rfl) ?_
        refine lv_lload_n hx hb dX5_isBeyond_106 rfl (lv_at hl 2 rfl) ?_
        refine lv_lmul hx hb dX5_isBeyond_107 ?_
        refine lv_topl (fun f_3 ef_3 => ?_)
        refine lv_lload_n hx hb dX5_isBeyond_108 rfl (lv_at hl 1 rfl) ?_
        refine lv_ldiv hx hb dX5_isBeyond_109 (fun q9 => hq2 (by rw [ef_2, q9]; decide)) ?_
        refine lv_topl (fun f_4 ef_4 => ?_)
        refine lv_lload_n hx hb dX5_isBeyond_110 rfl (lv_at hl 2 rfl) ?_
        refine W.lcmp hx hb dX5_isBeyond_111 ?_
        refine lv_topi (fun f_5 ef_5 => ?_)
        refine lv_if_eq (tgt := 119) hx hb dX5_isBeyond_112 (by decide) (fun hq3 => ?_) (fun hq3 => ?_)
        · refine lv_iconst (v := 0) hx hb dX5_isBeyond_119 (by decide) ?_
          have hP9 := hP.sub (ws' := []) [] rfl
          have hD9 := hD.sub (ws' := []) [] (by decide) rfl
          have hK9 := hK.sub (tys' := []) [] rfl
          exact W.zret (v := 0) hx hb hr (by decide) (fun tS ht hW => ⟨⟨0, (), rfl, (Or.inl rfl), by rw [ht]; exact hP9, va_K.moved hW.alike hK9, hD9⟩, hS.F ht⟩) hS.2.2 dX5_isBeyond_120
        · refine lv_iconst (v := 1) hx hb dX5_isBeyond_115 (by decide) ?_
          refine lv_goto (tgt := 120) hx hb dX5_isBeyond_116 (by decide) ?_
          have hP9 := hP.sub (ws' := []) [] rfl
          have hD9 := hD.sub (ws' := []) [] (by decide) rfl
          have hK9 := hK.sub (tys' := []) [] rfl
          exact W.zret (v := 1) hx hb hr (by decide) (fun tS ht hW => ⟨⟨1, (), rfl, (Or.inr rfl), by rw [ht]; exact hP9, va_K.moved hW.alike hK9, hD9⟩, hS.F ht⟩) hS.2.2 dX5_isBeyond_120
    · refine lv_lload_n hx hb dX5_isBeyond_85 rfl (lv_at hl 2 rfl) ?_
      refine lv_ldc2 (v := (-9223372036854775808)) hx hb hown (hts (.constantLong RX5 170 (-9223372036854775808)) (wm_c_beyond 2 rfl)) dX5_isBeyond_86 ?_
      refine W.lcmp hx hb dX5_isBeyond_89 ?_
      refine lv_topi (fun f_2 ef_2 => ?_)
      refine lv_if_ne (tgt := 97) hx hb dX5_isBeyond_90 (by decide) (fun hq4 => ?_) (fun hq4 => ?_)
      · refine lv_iconst (v := 0) hx hb dX5_isBeyond_97 (by decide) ?_
        have hP9 := hP.sub (ws' := []) [] rfl
        have hD9 := hD.sub (ws' := []) [] (by decide) rfl
        have hK9 := hK.sub (tys' := []) [] rfl
        exact W.zret (v := 0) hx hb hr (by decide) (fun tS ht hW => ⟨⟨0, (), rfl, (Or.inl rfl), by rw [ht]; exact hP9, va_K.moved hW.alike hK9, hD9⟩, hS.F ht⟩) hS.2.2 dX5_isBeyond_98
      · refine lv_iconst (v := 1) hx hb dX5_isBeyond_93 (by decide) ?_
        refine lv_goto (tgt := 98) hx hb dX5_isBeyond_94 (by decide) ?_
        have hP9 := hP.sub (ws' := []) [] rfl
        have hD9 := hD.sub (ws' := []) [] (by decide) rfl
        have hK9 := hK.sub (tys' := []) [] rfl
        exact W.zret (v := 1) hx hb hr (by decide) (fun tS ht hW => ⟨⟨1, (), rfl, (Or.inr rfl), by rw [ht]; exact hP9, va_K.moved hW.alike hK9, hD9⟩, hS.F ht⟩) hS.2.2 dX5_isBeyond_98
  · by_cases hs43 : sg = 43
    · refine lv_tableIn (off := 31) (tgt := 32) hx hb dX5_isBeyond_1 (by rw [hs43]; decide) (by rw [hs43]; decide) (by rw [hs43]; decide) (by decide) ?_
      refine lv_lload_n hx hb dX5_isBeyond_32 rfl (lv_at hl 1 rfl) ?_
      refine lv_lload_n hx hb dX5_isBeyond_33 rfl (lv_at hl 2 rfl) ?_
      refine lv_ladd hx hb dX5_isBeyond_34 ?_
      refine lv_topl (fun f_1 ef_1 => ?_)
      refine lv_lstore (lv' := [(5, .long f_1), (0, .int sg), (1, .long la), (3, .long ra)]) hx hb dX5_isBeyond_35 hl (by decide) rfl (fun ls hl => ?_)
      refine lv_lload_n hx hb dX5_isBeyond_37 rfl (lv_at hl 2 rfl) ?_
      refine lv_lload hx hb dX5_isBeyond_38 (lv_at hl 0 rfl) ?_
      refine lv_lxor hx hb dX5_isBeyond_40 ?_
      refine lv_topl (fun f_2 ef_2 => ?_)
      refine lv_lload_n hx hb dX5_isBeyond_41 rfl (lv_at hl 3 rfl) ?_
      refine lv_lload hx hb dX5_isBeyond_42 (lv_at hl 0 rfl) ?_
      refine lv_lxor hx hb dX5_isBeyond_44 ?_
      refine lv_topl (fun f_3 ef_3 => ?_)
      refine lv_land hx hb dX5_isBeyond_45 ?_
      refine lv_topl (fun f_4 ef_4 => ?_)
      refine lv_lconst (v := 0) hx hb dX5_isBeyond_46 (by decide) ?_
      refine W.lcmp hx hb dX5_isBeyond_47 ?_
      refine lv_topi (fun f_5 ef_5 => ?_)
      refine lv_if_ge (tgt := 55) hx hb dX5_isBeyond_48 (by decide) (fun hq1 => ?_) (fun hq1 => ?_)
      · refine lv_iconst (v := 0) hx hb dX5_isBeyond_55 (by decide) ?_
        have hP9 := hP.sub (ws' := []) [] rfl
        have hD9 := hD.sub (ws' := []) [] (by decide) rfl
        have hK9 := hK.sub (tys' := []) [] rfl
        exact W.zret (v := 0) hx hb hr (by decide) (fun tS ht hW => ⟨⟨0, (), rfl, (Or.inl rfl), by rw [ht]; exact hP9, va_K.moved hW.alike hK9, hD9⟩, hS.F ht⟩) hS.2.2 dX5_isBeyond_56
      · refine lv_iconst (v := 1) hx hb dX5_isBeyond_51 (by decide) ?_
        refine lv_goto (tgt := 56) hx hb dX5_isBeyond_52 (by decide) ?_
        have hP9 := hP.sub (ws' := []) [] rfl
        have hD9 := hD.sub (ws' := []) [] (by decide) rfl
        have hK9 := hK.sub (tys' := []) [] rfl
        exact W.zret (v := 1) hx hb hr (by decide) (fun tS ht hW => ⟨⟨1, (), rfl, (Or.inr rfl), by rw [ht]; exact hP9, va_K.moved hW.alike hK9, hD9⟩, hS.F ht⟩) hS.2.2 dX5_isBeyond_56
    · by_cases hs44 : sg = 44
      · refine lv_tableIn (off := 120) (tgt := 121) hx hb dX5_isBeyond_1 (by rw [hs44]; decide) (by rw [hs44]; decide) (by rw [hs44]; decide) (by decide) ?_
        refine lv_lload_n hx hb dX5_isBeyond_121 rfl (lv_at hl 2 rfl) ?_
        refine lv_lconst (v := 0) hx hb dX5_isBeyond_122 (by decide) ?_
        refine W.lcmp hx hb dX5_isBeyond_123 ?_
        refine lv_topi (fun f_1 ef_1 => ?_)
        refine lv_if_eq (tgt := 143) hx hb dX5_isBeyond_124 (by decide) (fun hq1 => ?_) (fun hq1 => ?_)
        · refine lv_iconst (v := 1) hx hb dX5_isBeyond_143 (by decide) ?_
          refine lv_goto (tgt := 148) hx hb dX5_isBeyond_144 (by decide) ?_
          have hP9 := hP.sub (ws' := []) [] rfl
          have hD9 := hD.sub (ws' := []) [] (by decide) rfl
          have hK9 := hK.sub (tys' := []) [] rfl
          exact W.zret (v := 1) hx hb hr (by decide) (fun tS ht hW => ⟨⟨1, (), rfl, (Or.inr rfl), by rw [ht]; exact hP9, va_K.moved hW.alike hK9, hD9⟩, hS.F ht⟩) hS.2.2 dX5_isBeyond_148
        · refine lv_lload_n hx hb dX5_isBeyond_127 rfl (lv_at hl 1 rfl) ?_
          refine lv_ldc2 (v := (-9223372036854775808)) hx hb hown (hts (.constantLong RX5 170 (-9223372036854775808)) (wm_c_beyond 2 rfl)) dX5_isBeyond_128 ?_
          refine W.lcmp hx hb dX5_isBeyond_131 ?_
          refine lv_topi (fun f_2 ef_2 => ?_)
          refine lv_if_ne (tgt := 147) hx hb dX5_isBeyond_132 (by decide) (fun hq2 => ?_) (fun hq2 => ?_)
          · refine lv_iconst (v := 0) hx hb dX5_isBeyond_147 (by decide) ?_
            have hP9 := hP.sub (ws' := []) [] rfl
            have hD9 := hD.sub (ws' := []) [] (by decide) rfl
            have hK9 := hK.sub (tys' := []) [] rfl
            exact W.zret (v := 0) hx hb hr (by decide) (fun tS ht hW => ⟨⟨0, (), rfl, (Or.inl rfl), by rw [ht]; exact hP9, va_K.moved hW.alike hK9, hD9⟩, hS.F ht⟩) hS.2.2 dX5_isBeyond_148
          · refine lv_lload_n hx hb dX5_isBeyond_135 rfl (lv_at hl 2 rfl) ?_
            refine lv_ldc2 (v := (-1)) hx hb hown (hts (.constantLong RX5 202 (-1)) (wm_c_beyond 1 rfl)) dX5_isBeyond_136 ?_
            refine W.lcmp hx hb dX5_isBeyond_139 ?_
            refine lv_topi (fun f_3 ef_3 => ?_)
            refine lv_if_ne (tgt := 147) hx hb dX5_isBeyond_140 (by decide) (fun hq3 => ?_) (fun hq3 => ?_)
            · refine lv_iconst (v := 0) hx hb dX5_isBeyond_147 (by decide) ?_
              have hP9 := hP.sub (ws' := []) [] rfl
              have hD9 := hD.sub (ws' := []) [] (by decide) rfl
              have hK9 := hK.sub (tys' := []) [] rfl
              exact W.zret (v := 0) hx hb hr (by decide) (fun tS ht hW => ⟨⟨0, (), rfl, (Or.inl rfl), by rw [ht]; exact hP9, va_K.moved hW.alike hK9, hD9⟩, hS.F ht⟩) hS.2.2 dX5_isBeyond_148
            · refine lv_iconst (v := 1) hx hb dX5_isBeyond_143 (by decide) ?_
              refine lv_goto (tgt := 148) hx hb dX5_isBeyond_144 (by decide) ?_
              have hP9 := hP.sub (ws' := []) [] rfl
              have hD9 := hD.sub (ws' := []) [] (by decide) rfl
              have hK9 := hK.sub (tys' := []) [] rfl
              exact W.zret (v := 1) hx hb hr (by decide) (fun tS ht hW => ⟨⟨1, (), rfl, (Or.inr rfl), by rw [ht]; exact hP9, va_K.moved hW.alike hK9, hD9⟩, hS.F ht⟩) hS.2.2 dX5_isBeyond_148
      · by_cases hs45 : sg = 45
        · refine lv_tableIn (off := 56) (tgt := 57) hx hb dX5_isBeyond_1 (by rw [hs45]; decide) (by rw [hs45]; decide) (by rw [hs45]; decide) (by decide) ?_
          refine lv_lload_n hx hb dX5_isBeyond_57 rfl (lv_at hl 1 rfl) ?_
          refine lv_lload_n hx hb dX5_isBeyond_58 rfl (lv_at hl 2 rfl) ?_
          refine lv_lxor hx hb dX5_isBeyond_59 ?_
          refine lv_topl (fun f_1 ef_1 => ?_)
          refine lv_lload_n hx hb dX5_isBeyond_60 rfl (lv_at hl 1 rfl) ?_
          refine lv_lload_n hx hb dX5_isBeyond_61 rfl (lv_at hl 1 rfl) ?_
          refine lv_lload_n hx hb dX5_isBeyond_62 rfl (lv_at hl 2 rfl) ?_
          refine lv_lsub hx hb dX5_isBeyond_63 ?_
          refine lv_topl (fun f_2 ef_2 => ?_)
          refine lv_lxor hx hb dX5_isBeyond_64 ?_
          refine lv_topl (fun f_3 ef_3 => ?_)
          refine lv_land hx hb dX5_isBeyond_65 ?_
          refine lv_topl (fun f_4 ef_4 => ?_)
          refine lv_lconst (v := 0) hx hb dX5_isBeyond_66 (by decide) ?_
          refine W.lcmp hx hb dX5_isBeyond_67 ?_
          refine lv_topi (fun f_5 ef_5 => ?_)
          refine lv_if_ge (tgt := 75) hx hb dX5_isBeyond_68 (by decide) (fun hq1 => ?_) (fun hq1 => ?_)
          · refine lv_iconst (v := 0) hx hb dX5_isBeyond_75 (by decide) ?_
            have hP9 := hP.sub (ws' := []) [] rfl
            have hD9 := hD.sub (ws' := []) [] (by decide) rfl
            have hK9 := hK.sub (tys' := []) [] rfl
            exact W.zret (v := 0) hx hb hr (by decide) (fun tS ht hW => ⟨⟨0, (), rfl, (Or.inl rfl), by rw [ht]; exact hP9, va_K.moved hW.alike hK9, hD9⟩, hS.F ht⟩) hS.2.2 dX5_isBeyond_76
          · refine lv_iconst (v := 1) hx hb dX5_isBeyond_71 (by decide) ?_
            refine lv_goto (tgt := 76) hx hb dX5_isBeyond_72 (by decide) ?_
            have hP9 := hP.sub (ws' := []) [] rfl
            have hD9 := hD.sub (ws' := []) [] (by decide) rfl
            have hK9 := hK.sub (tys' := []) [] rfl
            exact W.zret (v := 1) hx hb hr (by decide) (fun tS ht hW => ⟨⟨1, (), rfl, (Or.inr rfl), by rw [ht]; exact hP9, va_K.moved hW.alike hK9, hD9⟩, hS.F ht⟩) hS.2.2 dX5_isBeyond_76
        · refine lv_tableOut (tgt := 121) hx hb dX5_isBeyond_1 ?_ (by decide) ?_
          · rcases Int.lt_or_le sg.toInt 42 with z9 | z9
            · exact Or.inl z9
            · rcases Int.lt_or_le 45 sg.toInt with y9 | y9
              · exact Or.inr y9
              · exfalso; have hq9 : sg.toInt = 42 ∨ sg.toInt = 43 ∨ sg.toInt = 44 ∨ sg.toInt = 45 := by omega
                rcases hq9 with z8 | z8 | z8 | z8
                · exact hs42 (Int32.toInt_inj.mp z8)
                · exact hs43 (Int32.toInt_inj.mp z8)
                · exact hs44 (Int32.toInt_inj.mp z8)
                · exact hs45 (Int32.toInt_inj.mp z8)
          · refine lv_lload_n hx hb dX5_isBeyond_121 rfl (lv_at hl 2 rfl) ?_
            refine lv_lconst (v := 0) hx hb dX5_isBeyond_122 (by decide) ?_
            refine W.lcmp hx hb dX5_isBeyond_123 ?_
            refine lv_topi (fun f_1 ef_1 => ?_)
            refine lv_if_eq (tgt := 143) hx hb dX5_isBeyond_124 (by decide) (fun hq1 => ?_) (fun hq1 => ?_)
            · refine lv_iconst (v := 1) hx hb dX5_isBeyond_143 (by decide) ?_
              refine lv_goto (tgt := 148) hx hb dX5_isBeyond_144 (by decide) ?_
              have hP9 := hP.sub (ws' := []) [] rfl
              have hD9 := hD.sub (ws' := []) [] (by decide) rfl
              have hK9 := hK.sub (tys' := []) [] rfl
              exact W.zret (v := 1) hx hb hr (by decide) (fun tS ht hW => ⟨⟨1, (), rfl, (Or.inr rfl), by rw [ht]; exact hP9, va_K.moved hW.alike hK9, hD9⟩, hS.F ht⟩) hS.2.2 dX5_isBeyond_148
            · refine lv_lload_n hx hb dX5_isBeyond_127 rfl (lv_at hl 1 rfl) ?_
              refine lv_ldc2 (v := (-9223372036854775808)) hx hb hown (hts (.constantLong RX5 170 (-9223372036854775808)) (wm_c_beyond 2 rfl)) dX5_isBeyond_128 ?_
              refine W.lcmp hx hb dX5_isBeyond_131 ?_
              refine lv_topi (fun f_2 ef_2 => ?_)
              refine lv_if_ne (tgt := 147) hx hb dX5_isBeyond_132 (by decide) (fun hq2 => ?_) (fun hq2 => ?_)
              · refine lv_iconst (v := 0) hx hb dX5_isBeyond_147 (by decide) ?_
                have hP9 := hP.sub (ws' := []) [] rfl
                have hD9 := hD.sub (ws' := []) [] (by decide) rfl
                have hK9 := hK.sub (tys' := []) [] rfl
                exact W.zret (v := 0) hx hb hr (by decide) (fun tS ht hW => ⟨⟨0, (), rfl, (Or.inl rfl), by rw [ht]; exact hP9, va_K.moved hW.alike hK9, hD9⟩, hS.F ht⟩) hS.2.2 dX5_isBeyond_148
              · refine lv_lload_n hx hb dX5_isBeyond_135 rfl (lv_at hl 2 rfl) ?_
                refine lv_ldc2 (v := (-1)) hx hb hown (hts (.constantLong RX5 202 (-1)) (wm_c_beyond 1 rfl)) dX5_isBeyond_136 ?_
                refine W.lcmp hx hb dX5_isBeyond_139 ?_
                refine lv_topi (fun f_3 ef_3 => ?_)
                refine lv_if_ne (tgt := 147) hx hb dX5_isBeyond_140 (by decide) (fun hq3 => ?_) (fun hq3 => ?_)
                · refine lv_iconst (v := 0) hx hb dX5_isBeyond_147 (by decide) ?_
                  have hP9 := hP.sub (ws' := []) [] rfl
                  have hD9 := hD.sub (ws' := []) [] (by decide) rfl
                  have hK9 := hK.sub (tys' := []) [] rfl
                  exact W.zret (v := 0) hx hb hr (by decide) (fun tS ht hW => ⟨⟨0, (), rfl, (Or.inl rfl), by rw [ht]; exact hP9, va_K.moved hW.alike hK9, hD9⟩, hS.F ht⟩) hS.2.2 dX5_isBeyond_148
                · refine lv_iconst (v := 1) hx hb dX5_isBeyond_143 (by decide) ?_
                  refine lv_goto (tgt := 148) hx hb dX5_isBeyond_144 (by decide) ?_
                  have hP9 := hP.sub (ws' := []) [] rfl
                  have hD9 := hD.sub (ws' := []) [] (by decide) rfl
                  have hK9 := hK.sub (tys' := []) [] rfl
                  exact W.zret (v := 1) hx hb hr (by decide) (fun tS ht hW => ⟨⟨1, (), rfl, (Or.inr rfl), by rw [ht]; exact hP9, va_K.moved hW.alike hK9, hD9⟩, hS.F ht⟩) hS.2.2 dX5_isBeyond_148
def wf_c_result : List Cond := [.code yX5_resultOf cX5_resultOf 5 (some .long)]
def wp_c_result : List Cond := wf_c_result ++ []
theorem wg_c_result : wf_c_result.all goodWord = true := by decide +kernel
theorem wm_c_result (k : Nat) {w : Cond} (h : wp_c_result[k]? = some w) : w ∈ wp_c_result := List.mem_of_getElem? h
set_option maxHeartbeats 4000000 in
set_option maxRecDepth 100000 in
theorem c_result (l : Launch) (dC : Nat → ClassId) (dI : Nat → Nat → Nat) (sg : Int32) (la ra : Int64) (sz : Nat) : Met l yX5_resultOf wp_c_result ({ frames := 0, cells := 0, slots := 0, locals := 0 }) (va_Pc [.int sg, .long la, .long ra] (fun U => U.heap.size = sz ∧ va_P (dC, dI) vwCl [] U.heap ∧ va_K (dC, dI) vwCl [] U ∧ va_D (fun _ => True) [])) (va_Ql (fun (_ : Int64) (_ : Unit) => True) (fun (_ : Unit) (tS : State) => va_P (dC, dI) vwCl [] tS.heap ∧ va_K (dC, dI) vwCl [] tS ∧ va_D (va_A [] sz) []) (va_A [] sz)) 0 0 (va_A [] sz) := by
  refine Met.ofW (cc := cX5_resultOf) (maxL := 5) (ret := (some .long)) (by decide) rfl ?_
  intro p e s m args below meth c s₁ B hml hv
  obtain ⟨rfl, hsz, hP, hK, hD0⟩ := hv
  have hx := B.exec
  have hb := B.bytes
  have hr := B.returns
  have hts := atoms_spec (ws := wp_c_result) B.pre
  have hown : s.vm.findClass RX5 = some m.cls := findClass_of_methodNamed B.named
  have hlocks := B.notSynchronized
  subst hsz
  have hD := hD0.self (sz := s.heap.size)
  generalize hAe : va_A [] s.heap.size = A at hD ⊢
  have hA : ∀ q : Nat, s.heap.size ≤ q → A q := fun q h => by rw [← hAe]; exact Or.inr h
  have hS : va_S A s.heap s.heap [] := va_S.rf
  have hP : va_P (dC, dI) vwCl [] s.heap := hP
  have hl := lv_entry ([.int sg, .long la, .long ra]) (n := 5) (Nat.le_of_ble_eq_true rfl)
  rw [lg_entry_eq]
  generalize (lg_sl ([.int sg, .long la, .long ra]) ++ List.replicate (5 - (lg_sl ([.int sg, .long la, .long ra])).length) Slot.unset).toArray = ls at hl ⊢
  have hl : lv_has ls 5 [(0, .int sg), (1, .long la), (3, .long ra)] := hl
  refine lv_iload_n hx hb dX5_resultOf_0 rfl (lv_at hl 0 rfl) ?_
  by_cases h37 : sg = 37
  · refine lv_lookup (off := 117) (tgt := 118) hx hb dX5_resultOf_1 (by decide) (by rw [h37]; decide) (by decide) ?_
    refine lv_lload_n hx hb dX5_resultOf_118 rfl (lv_at hl 2 rfl) ?_
    refine lv_lconst (v := 0) hx hb dX5_resultOf_119 (by decide) ?_
    refine W.lcmp hx hb dX5_resultOf_120 ?_
    refine lv_topi (fun f_1 ef_1 => ?_)
    refine lv_if_ne (tgt := 128) hx hb dX5_resultOf_121 (by decide) (fun hq1 => ?_) (fun hq1 => ?_)
    · refine lv_lload_n hx hb dX5_resultOf_128 rfl (lv_at hl 1 rfl) ?_
      refine lv_lload_n hx hb dX5_resultOf_129 rfl (lv_at hl 2 rfl) ?_
      refine lv_lrem hx hb dX5_resultOf_130 (fun q9 => hq1 (by rw [ef_1, q9]; decide)) ?_
      refine lv_topl (fun f_2 ef_2 => ?_)
      have hP9 := hP.sub (ws' := []) [] rfl
      have hD9 := hD.sub (ws' := []) [] (by decide) rfl
      have hK9 := hK.sub (tys' := []) [] rfl
      exact W.lret (v := f_2) hx hb hr (fun tS ht hW => ⟨⟨f_2, (), rfl, trivial, by rw [ht]; exact hP9, va_K.moved hW.alike hK9, hD9⟩, hS.F ht⟩) hS.2.2 dX5_resultOf_131
    · refine lv_lconst (v := 0) hx hb dX5_resultOf_124 (by decide) ?_
      refine lv_goto (tgt := 131) hx hb dX5_resultOf_125 (by decide) ?_
      have hP9 := hP.sub (ws' := []) [] rfl
      have hD9 := hD.sub (ws' := []) [] (by decide) rfl
      have hK9 := hK.sub (tys' := []) [] rfl
      exact W.lret (v := 0) hx hb hr (fun tS ht hW => ⟨⟨0, (), rfl, trivial, by rw [ht]; exact hP9, va_K.moved hW.alike hK9, hD9⟩, hS.F ht⟩) hS.2.2 dX5_resultOf_131
  · by_cases h42 : sg = 42
    · refine lv_lookup (off := 99) (tgt := 100) hx hb dX5_resultOf_1 (by decide) (by rw [h42]; decide) (by decide) ?_
      refine lv_lload_n hx hb dX5_resultOf_100 rfl (lv_at hl 1 rfl) ?_
      refine lv_lload_n hx hb dX5_resultOf_101 rfl (lv_at hl 2 rfl) ?_
      refine lv_lmul hx hb dX5_resultOf_102 ?_
      refine lv_topl (fun f_1 ef_1 => ?_)
      have hP9 := hP.sub (ws' := []) [] rfl
      have hD9 := hD.sub (ws' := []) [] (by decide) rfl
      have hK9 := hK.sub (tys' := []) [] rfl
      exact W.lret (v := f_1) hx hb hr (fun tS ht hW => ⟨⟨f_1, (), rfl, trivial, by rw [ht]; exact hP9, va_K.moved hW.alike hK9, hD9⟩, hS.F ht⟩) hS.2.2 dX5_resultOf_103
    · by_cases h43 : sg = 43
      · refine lv_lookup (off := 91) (tgt := 92) hx hb dX5_resultOf_1 (by decide) (by rw [h43]; decide) (by decide) ?_
        refine lv_lload_n hx hb dX5_resultOf_92 rfl (lv_at hl 1 rfl) ?_
        refine lv_lload_n hx hb dX5_resultOf_93 rfl (lv_at hl 2 rfl) ?_
        refine lv_ladd hx hb dX5_resultOf_94 ?_
        refine lv_topl (fun f_1 ef_1 => ?_)
        have hP9 := hP.sub (ws' := []) [] rfl
        have hD9 := hD.sub (ws' := []) [] (by decide) rfl
        have hK9 := hK.sub (tys' := []) [] rfl
        exact W.lret (v := f_1) hx hb hr (fun tS ht hW => ⟨⟨f_1, (), rfl, trivial, by rw [ht]; exact hP9, va_K.moved hW.alike hK9, hD9⟩, hS.F ht⟩) hS.2.2 dX5_resultOf_95
      · by_cases h45 : sg = 45
        · refine lv_lookup (off := 95) (tgt := 96) hx hb dX5_resultOf_1 (by decide) (by rw [h45]; decide) (by decide) ?_
          refine lv_lload_n hx hb dX5_resultOf_96 rfl (lv_at hl 1 rfl) ?_
          refine lv_lload_n hx hb dX5_resultOf_97 rfl (lv_at hl 2 rfl) ?_
          refine lv_lsub hx hb dX5_resultOf_98 ?_
          refine lv_topl (fun f_1 ef_1 => ?_)
          have hP9 := hP.sub (ws' := []) [] rfl
          have hD9 := hD.sub (ws' := []) [] (by decide) rfl
          have hK9 := hK.sub (tys' := []) [] rfl
          exact W.lret (v := f_1) hx hb hr (fun tS ht hW => ⟨⟨f_1, (), rfl, trivial, by rw [ht]; exact hP9, va_K.moved hW.alike hK9, hD9⟩, hS.F ht⟩) hS.2.2 dX5_resultOf_99
        · by_cases h47 : sg = 47
          · refine lv_lookup (off := 103) (tgt := 104) hx hb dX5_resultOf_1 (by decide) (by rw [h47]; decide) (by decide) ?_
            refine lv_lload_n hx hb dX5_resultOf_104 rfl (lv_at hl 2 rfl) ?_
            refine lv_lconst (v := 0) hx hb dX5_resultOf_105 (by decide) ?_
            refine W.lcmp hx hb dX5_resultOf_106 ?_
            refine lv_topi (fun f_1 ef_1 => ?_)
            refine lv_if_ne (tgt := 114) hx hb dX5_resultOf_107 (by decide) (fun hq1 => ?_) (fun hq1 => ?_)
            · refine lv_lload_n hx hb dX5_resultOf_114 rfl (lv_at hl 1 rfl) ?_
              refine lv_lload_n hx hb dX5_resultOf_115 rfl (lv_at hl 2 rfl) ?_
              refine lv_ldiv hx hb dX5_resultOf_116 (fun q9 => hq1 (by rw [ef_1, q9]; decide)) ?_
              refine lv_topl (fun f_2 ef_2 => ?_)
              have hP9 := hP.sub (ws' := []) [] rfl
              have hD9 := hD.sub (ws' := []) [] (by decide) rfl
              have hK9 := hK.sub (tys' := []) [] rfl
              exact W.lret (v := f_2) hx hb hr (fun tS ht hW => ⟨⟨f_2, (), rfl, trivial, by rw [ht]; exact hP9, va_K.moved hW.alike hK9, hD9⟩, hS.F ht⟩) hS.2.2 dX5_resultOf_117
            · refine lv_lconst (v := 0) hx hb dX5_resultOf_110 (by decide) ?_
              refine lv_goto (tgt := 117) hx hb dX5_resultOf_111 (by decide) ?_
              have hP9 := hP.sub (ws' := []) [] rfl
              have hD9 := hD.sub (ws' := []) [] (by decide) rfl
              have hK9 := hK.sub (tys' := []) [] rfl
              exact W.lret (v := 0) hx hb hr (fun tS ht hW => ⟨⟨0, (), rfl, trivial, by rw [ht]; exact hP9, va_K.moved hW.alike hK9, hD9⟩, hS.F ht⟩) hS.2.2 dX5_resultOf_117
          · by_cases h60 : sg = 60
            · refine lv_lookup (off := 155) (tgt := 156) hx hb dX5_resultOf_1 (by decide) (by rw [h60]; decide) (by decide) ?_
              refine lv_lload_n hx hb dX5_resultOf_156 rfl (lv_at hl 1 rfl) ?_
              refine lv_lload_n hx hb dX5_resultOf_157 rfl (lv_at hl 2 rfl) ?_
              refine W.lcmp hx hb dX5_resultOf_158 ?_
              refine lv_topi (fun f_1 ef_1 => ?_)
              refine lv_if_ge (tgt := 166) hx hb dX5_resultOf_159 (by decide) (fun hq1 => ?_) (fun hq1 => ?_)
              · refine lv_lconst (v := 0) hx hb dX5_resultOf_166 (by decide) ?_
                have hP9 := hP.sub (ws' := []) [] rfl
                have hD9 := hD.sub (ws' := []) [] (by decide) rfl
                have hK9 := hK.sub (tys' := []) [] rfl
                exact W.lret (v := 0) hx hb hr (fun tS ht hW => ⟨⟨0, (), rfl, trivial, by rw [ht]; exact hP9, va_K.moved hW.alike hK9, hD9⟩, hS.F ht⟩) hS.2.2 dX5_resultOf_167
              · refine lv_lconst (v := 1) hx hb dX5_resultOf_162 (by decide) ?_
                refine lv_goto (tgt := 167) hx hb dX5_resultOf_163 (by decide) ?_
                have hP9 := hP.sub (ws' := []) [] rfl
                have hD9 := hD.sub (ws' := []) [] (by decide) rfl
                have hK9 := hK.sub (tys' := []) [] rfl
                exact W.lret (v := 1) hx hb hr (fun tS ht hW => ⟨⟨1, (), rfl, trivial, by rw [ht]; exact hP9, va_K.moved hW.alike hK9, hD9⟩, hS.F ht⟩) hS.2.2 dX5_resultOf_167
            · by_cases h62 : sg = 62
              · refine lv_lookup (off := 179) (tgt := 180) hx hb dX5_resultOf_1 (by decide) (by rw [h62]; decide) (by decide) ?_
                refine lv_lload_n hx hb dX5_resultOf_180 rfl (lv_at hl 1 rfl) ?_
                refine lv_lload_n hx hb dX5_resultOf_181 rfl (lv_at hl 2 rfl) ?_
                refine W.lcmp hx hb dX5_resultOf_182 ?_
                refine lv_topi (fun f_1 ef_1 => ?_)
                refine lv_if_le (tgt := 190) hx hb dX5_resultOf_183 (by decide) (fun hq1 => ?_) (fun hq1 => ?_)
                · refine lv_lconst (v := 0) hx hb dX5_resultOf_190 (by decide) ?_
                  have hP9 := hP.sub (ws' := []) [] rfl
                  have hD9 := hD.sub (ws' := []) [] (by decide) rfl
                  have hK9 := hK.sub (tys' := []) [] rfl
                  exact W.lret (v := 0) hx hb hr (fun tS ht hW => ⟨⟨0, (), rfl, trivial, by rw [ht]; exact hP9, va_K.moved hW.alike hK9, hD9⟩, hS.F ht⟩) hS.2.2 dX5_resultOf_191
                · refine lv_lconst (v := 1) hx hb dX5_resultOf_186 (by decide) ?_
                  refine lv_goto (tgt := 191) hx hb dX5_resultOf_187 (by decide) ?_
                  have hP9 := hP.sub (ws' := []) [] rfl
                  have hD9 := hD.sub (ws' := []) [] (by decide) rfl
                  have hK9 := hK.sub (tys' := []) [] rfl
                  exact W.lret (v := 1) hx hb hr (fun tS ht hW => ⟨⟨1, (), rfl, trivial, by rw [ht]; exact hP9, va_K.moved hW.alike hK9, hD9⟩, hS.F ht⟩) hS.2.2 dX5_resultOf_191
              · by_cases h128 : sg = 128
                · refine lv_lookup (off := 131) (tgt := 132) hx hb dX5_resultOf_1 (by decide) (by rw [h128]; decide) (by decide) ?_
                  refine lv_lload_n hx hb dX5_resultOf_132 rfl (lv_at hl 1 rfl) ?_
                  refine lv_lload_n hx hb dX5_resultOf_133 rfl (lv_at hl 2 rfl) ?_
                  refine W.lcmp hx hb dX5_resultOf_134 ?_
                  refine lv_topi (fun f_1 ef_1 => ?_)
                  refine lv_if_ne (tgt := 142) hx hb dX5_resultOf_135 (by decide) (fun hq1 => ?_) (fun hq1 => ?_)
                  · refine lv_lconst (v := 0) hx hb dX5_resultOf_142 (by decide) ?_
                    have hP9 := hP.sub (ws' := []) [] rfl
                    have hD9 := hD.sub (ws' := []) [] (by decide) rfl
                    have hK9 := hK.sub (tys' := []) [] rfl
                    exact W.lret (v := 0) hx hb hr (fun tS ht hW => ⟨⟨0, (), rfl, trivial, by rw [ht]; exact hP9, va_K.moved hW.alike hK9, hD9⟩, hS.F ht⟩) hS.2.2 dX5_resultOf_143
                  · refine lv_lconst (v := 1) hx hb dX5_resultOf_138 (by decide) ?_
                    refine lv_goto (tgt := 143) hx hb dX5_resultOf_139 (by decide) ?_
                    have hP9 := hP.sub (ws' := []) [] rfl
                    have hD9 := hD.sub (ws' := []) [] (by decide) rfl
                    have hK9 := hK.sub (tys' := []) [] rfl
                    exact W.lret (v := 1) hx hb hr (fun tS ht hW => ⟨⟨1, (), rfl, trivial, by rw [ht]; exact hP9, va_K.moved hW.alike hK9, hD9⟩, hS.F ht⟩) hS.2.2 dX5_resultOf_143
                · by_cases h129 : sg = 129
                  · refine lv_lookup (off := 143) (tgt := 144) hx hb dX5_resultOf_1 (by decide) (by rw [h129]; decide) (by decide) ?_
                    refine lv_lload_n hx hb dX5_resultOf_144 rfl (lv_at hl 1 rfl) ?_
                    refine lv_lload_n hx hb dX5_resultOf_145 rfl (lv_at hl 2 rfl) ?_
                    refine W.lcmp hx hb dX5_resultOf_146 ?_
                    refine lv_topi (fun f_1 ef_1 => ?_)
                    refine lv_if_eq (tgt := 154) hx hb dX5_resultOf_147 (by decide) (fun hq1 => ?_) (fun hq1 => ?_)
                    · refine lv_lconst (v := 0) hx hb dX5_resultOf_154 (by decide) ?_
                      have hP9 := hP.sub (ws' := []) [] rfl
                      have hD9 := hD.sub (ws' := []) [] (by decide) rfl
                      have hK9 := hK.sub (tys' := []) [] rfl
                      exact W.lret (v := 0) hx hb hr (fun tS ht hW => ⟨⟨0, (), rfl, trivial, by rw [ht]; exact hP9, va_K.moved hW.alike hK9, hD9⟩, hS.F ht⟩) hS.2.2 dX5_resultOf_155
                    · refine lv_lconst (v := 1) hx hb dX5_resultOf_150 (by decide) ?_
                      refine lv_goto (tgt := 155) hx hb dX5_resultOf_151 (by decide) ?_
                      have hP9 := hP.sub (ws' := []) [] rfl
                      have hD9 := hD.sub (ws' := []) [] (by decide) rfl
                      have hK9 := hK.sub (tys' := []) [] rfl
                      exact W.lret (v := 1) hx hb hr (fun tS ht hW => ⟨⟨1, (), rfl, trivial, by rw [ht]; exact hP9, va_K.moved hW.alike hK9, hD9⟩, hS.F ht⟩) hS.2.2 dX5_resultOf_155
                  · by_cases h130 : sg = 130
                    · refine lv_lookup (off := 167) (tgt := 168) hx hb dX5_resultOf_1 (by decide) (by rw [h130]; decide) (by decide) ?_
                      refine lv_lload_n hx hb dX5_resultOf_168 rfl (lv_at hl 1 rfl) ?_
                      refine lv_lload_n hx hb dX5_resultOf_169 rfl (lv_at hl 2 rfl) ?_
                      refine W.lcmp hx hb dX5_resultOf_170 ?_
                      refine lv_topi (fun f_1 ef_1 => ?_)
                      refine lv_if_gt (tgt := 178) hx hb dX5_resultOf_171 (by decide) (fun hq1 => ?_) (fun hq1 => ?_)
                      · refine lv_lconst (v := 0) hx hb dX5_resultOf_178 (by decide) ?_
                        have hP9 := hP.sub (ws' := []) [] rfl
                        have hD9 := hD.sub (ws' := []) [] (by decide) rfl
                        have hK9 := hK.sub (tys' := []) [] rfl
                        exact W.lret (v := 0) hx hb hr (fun tS ht hW => ⟨⟨0, (), rfl, trivial, by rw [ht]; exact hP9, va_K.moved hW.alike hK9, hD9⟩, hS.F ht⟩) hS.2.2 dX5_resultOf_179
                      · refine lv_lconst (v := 1) hx hb dX5_resultOf_174 (by decide) ?_
                        refine lv_goto (tgt := 179) hx hb dX5_resultOf_175 (by decide) ?_
                        have hP9 := hP.sub (ws' := []) [] rfl
                        have hD9 := hD.sub (ws' := []) [] (by decide) rfl
                        have hK9 := hK.sub (tys' := []) [] rfl
                        exact W.lret (v := 1) hx hb hr (fun tS ht hW => ⟨⟨1, (), rfl, trivial, by rw [ht]; exact hP9, va_K.moved hW.alike hK9, hD9⟩, hS.F ht⟩) hS.2.2 dX5_resultOf_179
                    · have z37 : sg.toInt ≠ 37 := fun q => h37 (Int32.toInt_inj.mp q)
                      have z42 : sg.toInt ≠ 42 := fun q => h42 (Int32.toInt_inj.mp q)
                      have z43 : sg.toInt ≠ 43 := fun q => h43 (Int32.toInt_inj.mp q)
                      have z45 : sg.toInt ≠ 45 := fun q => h45 (Int32.toInt_inj.mp q)
                      have z47 : sg.toInt ≠ 47 := fun q => h47 (Int32.toInt_inj.mp q)
                      have z60 : sg.toInt ≠ 60 := fun q => h60 (Int32.toInt_inj.mp q)
                      have z62 : sg.toInt ≠ 62 := fun q => h62 (Int32.toInt_inj.mp q)
                      have z128 : sg.toInt ≠ 128 := fun q => h128 (Int32.toInt_inj.mp q)
                      have z129 : sg.toInt ≠ 129 := fun q => h129 (Int32.toInt_inj.mp q)
                      have z130 : sg.toInt ≠ 130 := fun q => h130 (Int32.toInt_inj.mp q)
                      refine lv_lookup (off := 191) (tgt := 192) hx hb dX5_resultOf_1 (by decide) (by simp [Op.lookupswitch.offset, z37, z42, z43, z45, z47, z60, z62, z128, z129, z130, Ne.symm z37, Ne.symm z42, Ne.symm z43, Ne.symm z45, Ne.symm z47, Ne.symm z60, Ne.symm z62, Ne.symm z128, Ne.symm z129, Ne.symm z130]) (by decide) ?_
                      refine lv_lload_n hx hb dX5_resultOf_192 rfl (lv_at hl 1 rfl) ?_
                      refine lv_lload_n hx hb dX5_resultOf_193 rfl (lv_at hl 2 rfl) ?_
                      refine W.lcmp hx hb dX5_resultOf_194 ?_
                      refine lv_topi (fun f_1 ef_1 => ?_)
                      refine lv_if_lt (tgt := 202) hx hb dX5_resultOf_195 (by decide) (fun hq1 => ?_) (fun hq1 => ?_)
                      · refine lv_lconst (v := 0) hx hb dX5_resultOf_202 (by decide) ?_
                        have hP9 := hP.sub (ws' := []) [] rfl
                        have hD9 := hD.sub (ws' := []) [] (by decide) rfl
                        have hK9 := hK.sub (tys' := []) [] rfl
                        exact W.lret (v := 0) hx hb hr (fun tS ht hW => ⟨⟨0, (), rfl, trivial, by rw [ht]; exact hP9, va_K.moved hW.alike hK9, hD9⟩, hS.F ht⟩) hS.2.2 dX5_resultOf_203
                      · refine lv_lconst (v := 1) hx hb dX5_resultOf_198 (by decide) ?_
                        refine lv_goto (tgt := 203) hx hb dX5_resultOf_199 (by decide) ?_
                        have hP9 := hP.sub (ws' := []) [] rfl
                        have hD9 := hD.sub (ws' := []) [] (by decide) rfl
                        have hK9 := hK.sub (tys' := []) [] rfl
                        exact W.lret (v := 1) hx hb hr (fun tS ht hW => ⟨⟨1, (), rfl, trivial, by rw [ht]; exact hP9, va_K.moved hW.alike hK9, hD9⟩, hS.F ht⟩) hS.2.2 dX5_resultOf_203
