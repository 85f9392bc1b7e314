/-- how many blanks stand among the first i bytes -/
def spB (b : Nat → Int32) : Nat → Nat
  | 0 => 0
  | i + 1 => spB b i + if b i = 32 then 1 else 0
theorem spB_le {b : Nat → Int32} {i : Nat} : ∀ d : Nat, spB b i ≤ spB b (i + d)
  | 0 => Nat.le_refl _
  | d + 1 => Nat.le_trans (spB_le d) (Nat.le_add_right _ _)
theorem spB_lt {b : Nat → Int32} {i n t : Nat} (hi : i < n) (h : b i = 32) (ht : t ≤ spB b i) : t < spB b n ∧ t + 1 ≤ spB b (i + 1) := by
  have e : spB b (i + 1) = spB b i + 1 := by show spB b i + (if b i = 32 then 1 else 0) = _; rw [if_pos h]
  have := spB_le (b := b) (i := i + 1) (n - (i + 1))
  rw [show i + 1 + (n - (i + 1)) = n by omega] at this
  exact ⟨by omega, by omega⟩
theorem spB_st {b : Nat → Int32} {i t : Nat} (ht : t ≤ spB b i) : t ≤ spB b (i + 1) := Nat.le_trans ht (Nat.le_add_right _ _)
theorem ch_128 : ∀ k : Fin 128, ((nI k.val &&& 255).toUInt32 % 65536).toInt32 = nI k.val ∧ (nI k.val).toInt8.toInt32 = nI k.val ∧ vp_nar .byte (nI k.val) = nI k.val := by decide +kernel
theorem ch_k {k : Nat} (h : k < 128) : ((nI k &&& 255).toUInt32 % 65536).toInt32 = nI k ∧ (nI k).toInt8.toInt32 = nI k ∧ vp_nar .byte (nI k) = nI k := ch_128 ⟨k, h⟩
theorem va_rotP {D : va_G} {cl : List vw_C} {f T B : va_W} {H : Heap} (h : va_P D cl ((f ++ T) ++ B) H) : va_P D cl ((f ++ B) ++ T) H := h.turn (fun q hq => by
  rcases List.mem_append.mp hq with hq | hq
  · rcases List.mem_append.mp hq with hq | hq
    · exact List.mem_append_left _ (List.mem_append_left _ hq)
    · exact List.mem_append_right _ hq
  · exact List.mem_append_left _ (List.mem_append_right _ hq))
theorem rot_pm {f T B : va_W} : List.Perm ((f ++ T) ++ B) ((f ++ B) ++ T) := by
  rw [List.append_assoc, List.append_assoc]
  exact List.Perm.append_left f List.perm_append_comm
theorem va_rotD {A : Nat → Prop} {f T B : va_W} (h : va_D A ((f ++ T) ++ B)) : va_D A ((f ++ B) ++ T) := h.perm rot_pm
theorem va_assP {D : va_G} {cl : List vw_C} {f T B : va_W} {H : Heap} (h : va_P D cl (f ++ (B ++ T)) H) : va_P D cl ((f ++ B) ++ T) H := by rw [List.append_assoc]; exact h
theorem va_assD {A : Nat → Prop} {f T B : va_W} (h : va_D A (f ++ (B ++ T))) : va_D A ((f ++ B) ++ T) := by rw [List.append_assoc]; exact h
theorem va_foldP {D : va_G} {cl : List vw_C} {f T B : va_W} {H : Heap} (h : va_P D cl ((f ++ B) ++ T) H) : va_P D cl (f ++ (T ++ B)) H := by rw [← List.append_assoc]; exact va_rotP h
theorem va_foldD {A : Nat → Prop} {f T B : va_W} (h : va_D A ((f ++ B) ++ T)) : va_D A (f ++ (T ++ B)) := by rw [← List.append_assoc]; exact va_rotD h
theorem fnL_ca {kI kZ : ClassId} {fa ga : Nat → Nat → Nat} {fc : Nat → Nat → Int32} {fr : Nat → Nat → Nat → Int32} : ∀ (n s : Nat), (∀ j : Nat, s ≤ j → j < s + n → ga j = fa j) → fnL kI kZ ga fc fr s n = fnL kI kZ fa fc fr s n
  | 0, _, _ => rfl
  | n + 1, s, h => by
    show fnC kI kZ ga fc fr s ++ fnL kI kZ ga fc fr (s + 1) n = fnC kI kZ fa fc fr s ++ fnL kI kZ fa fc fr (s + 1) n
    rw [fnL_ca n (s + 1) (fun j h1 h2 => h j (by omega) (by omega))]
    unfold fnC
    rw [h s (Nat.le_refl _) (by omega)]
theorem fnL_put {kI kZ : ClassId} {na nb : Nat → Nat → Nat} {i : Nat} {ad : Nat → Nat} (h : nb = fun g => if g = i then ad else na g) : fnL kI kZ nb (fun _ _ => 0) (fun _ _ _ => 0) 0 (i + 1) = fnL kI kZ na (fun _ _ => 0) (fun _ _ _ => 0) 0 i ++ fnR kI kZ ad (fun _ => 0) (fun _ _ => 0) := by
  have h1 := fnL_app (kI := kI) (kZ := kZ) (fa := nb) (fc := fun _ _ => 0) (fr := fun _ _ _ => 0) i 0 1
  rw [h1, fnL_ca (fa := na) i 0 (fun j _ hj => by rw [h]; exact if_neg (by omega))]
  refine congrArg _ ?_
  show fnC kI kZ nb (fun _ _ => 0) (fun _ _ _ => 0) (0 + i) ++ [] = _
  rw [List.append_nil, Nat.zero_add]
  unfold fnR fnC
  rw [h]
  simp
def wf_c_latAt0 : List Cond := [.code yJ1_charAt_3b067 cJ1_charAt_3b067 2 (some .char), .code yJ0_checkIndex_df160 cJ0_checkIndex_df160 2 none, .fieldLink RJ0 1053 "jdk/internal/util/Preconditions" "SIOOBE_FORMATTER" "Ljava/util/function/BiFunction;", .code yJ3_checkIndex_8e157 cJ3_checkIndex_8e157 3 (some .int), .methodLink RJ0 1059 yJ3_checkIndex_8e157, .static yJ3_checkIndex_8e157, .initialized RJ3, .methodLink RJ1 9 yJ0_checkIndex_df160, .static yJ0_checkIndex_df160, .initialized RJ0]
def wp_c_latAt0 : List Cond := wf_c_latAt0 ++ []
theorem wg_c_latAt0 : wf_c_latAt0.all goodWord = true := by decide +kernel
theorem wm_c_latAt0 (k : Nat) {w : Cond} (h : wp_c_latAt0[k]? = some w) : w ∈ wp_c_latAt0 := List.mem_of_getElem? h
set_option maxRecDepth 20000 in
theorem g_c_latAt0_c_check_3 : GoodIn wp_c_latAt0 (va_wsS RJ1 9 yJ0_checkIndex_df160 wp_c_check) := goodIn_app (goodIn_f [.methodLink RJ1 9 yJ0_checkIndex_df160, .static yJ0_checkIndex_df160, .initialized RJ0] [7, 8, 9] rfl (by decide +kernel)) (goodIn_app (goodIn_f (wf_c_check) [1, 2, 3, 4, 5, 6] rfl wg_c_check) (goodIn_n))
set_option maxHeartbeats 4000000 in
set_option maxRecDepth 100000 in
theorem c_latAt0 (l : Launch) (dC : Nat → ClassId) (dI : Nat → Nat → Nat) (t v N : Nat) (b : Nat → Int32) (i : Nat) (sz : Nat) (hi : i < N) (hN : N < 2 ^ 31) (hb8 : ∀ j : Nat, j < N → ∃ k : Nat, k < 128 ∧ b j = nI k) : Met l yJ1_charAt_3b067 wp_c_latAt0 ({ frames := 2, cells := 0, slots := 0, locals := 43 }) (va_Pc [.ref v, .int (nI i)] (fun U => U.heap.size = sz ∧ va_P (dC, dI) vwCl [] U.heap ∧ va_K (dC, dI) vwCl [] U ∧ va_D (fun _ => True) [] ∧ sgA t v N b (va_A [] sz) U U.heap ∧ sgF (va_A [] sz) U U.heap)) (va_Qi (fun (r : Int32) (_ : Unit) => narrow .char (.int r) = .int r ∧ r = b i) (fun (_ : Unit) (tS : State) => va_P (dC, dI) vwCl [] tS.heap ∧ va_K (dC, dI) vwCl [] tS ∧ va_D (va_A [] sz) []) (va_A [] sz)) 0 0 (va_A [] sz) := by
  refine Met.ofW (cc := cJ1_charAt_3b067) (maxL := 2) (ret := (some .char)) (by decide) rfl ?_
  intro p e s m args below meth c s₁ B hml hv
  obtain ⟨rfl, hsz, hP, hK, hD0, hpre0, hpre1⟩ := hv
  have hx := B.exec
  have hb := B.bytes
  have hr := B.returns
  have hts := atoms_spec (ws := wp_c_latAt0) B.pre
  have hown : s.vm.findClass RJ1 = some m.cls := findClass_of_methodNamed B.named
  have hlocks := B.notSynchronized
  subst hsz
  have hD := hD0.self (sz := s.heap.size)
  generalize hAe : va_A [] s.heap.size = A at hD hpre0 hpre1 ⊢
  have hA : ∀ q : Nat, s.heap.size ≤ q → A q := fun q h => by rw [← hAe]; exact Or.inr h
  have hS : va_S A s.heap s.heap [] := va_S.rf
  have hP : va_P (dC, dI) vwCl [] s.heap := hP
  have hl := lv_entry ([.ref v, .int (nI i)]) (n := 2) (Nat.le_of_ble_eq_true rfl)
  rw [lg_entry_eq]
  generalize (lg_sl ([.ref v, .int (nI i)]) ++ List.replicate (2 - (lg_sl ([.ref v, .int (nI i)])).length) Slot.unset).toArray = ls at hl ⊢
  have hl : lv_has ls 2 [(0, .ref v), (1, .int (nI i))] := hl
  refine lv_iload_n hx hb dJ1_charAt_3b067_0 rfl (lv_at hl 1 rfl) ?_
  refine lv_aload_n hx hb dJ1_charAt_3b067_1 rfl (lv_at hl 0 rfl) ?_
  refine va_tlen (v := nI N) hx hb hpre0.2.2.2.1 hS rfl dJ1_charAt_3b067_2 ?_
  have hPc := hP.sub (ws' := []) [] rfl
  have hDc := hD.sub (ws' := []) [] (by decide) rfl
  have hKc := hK.sub (tys' := []) [] rfl
  have hFc := va_free (wc := []) hD hS hA [] rfl
  refine va_callv (va_runS (As := [.int (nI i), .int (nI N)]) (rest := []) ⟨hx, hb, hml, hown, hts⟩ (c_check l dC dI i N s.heap.size hi hN) (va_cwS 2 hts g_c_latAt0_c_check_3 rfl rfl rfl (by decide +kernel) ⟨Nat.le_of_ble_eq_true rfl, Nat.le_of_ble_eq_true rfl⟩) ⟨fun a U g mk q => by obtain ⟨q0, q1, qP, qK, qD, qx0⟩ := q; exact ⟨q0, q1, qP, va_K.moved (u := U) (U := U.calling g mk a) (Vm.Alike.refl U.vm) qK, qD, sgF.moved (u := U) (U := U.calling g mk a) (Vm.Alike.refl U.vm) qx0⟩, fun U hU hW => ⟨rfl, by rw [hU], by rw [hU]; exact hPc, va_K.moved hW.alike hKc, hDc.weaken (fun _ _ _ _ => trivial), by rw [hU]; exact ((hpre1.kept hS.2.1).moved hW.alike).narrow hFc⟩⟩ rfl rfl hl.1 rfl (lv_room (Nat.le_of_ble_eq_true rfl)) dJ1_charAt_3b067_3 ⟨(show 0 + 0 ≤ 0 by omega), (show 0 + 0 ≤ 0 by omega)⟩) hS (fun q _ h => hFc q h) hFc (fun u tS H1 locs ht hvm hw hB hz1 hk1 hS => ?_)
  obtain ⟨hP1, hK1, hD1⟩ := hB
  rw [ht] at hP1
  have hK1 := va_K.moved hvm.symm hK1
  obtain ⟨hP, hD⟩ := va_join (wr := []) (w1 := []) hP hD [] [] rfl rfl (by decide) (by decide) hk1 hFc hP1 hD1
  generalize H1 = H at hP hS ⊢
  have hP : va_P (dC, dI) vwCl [] H := hP
  have hD : va_D A [] := hD
  have hK : va_K (dC, dI) vwCl [] s := hK
  refine lv_aload_n hx hb dJ1_charAt_3b067_6 rfl (lv_at hl 0 rfl) ?_
  refine lv_iload_n hx hb dJ1_charAt_3b067_7 rfl (lv_at hl 1 rfl) ?_
  refine va_tb (v := .int (b i)) hx hb hpre0.2.2.2.1 hS (vp_in_nI hi hN) (by rw [nI_clamp (by omega)]) dJ1_charAt_3b067_8 ?_
  refine lv_sipush (v := 255) hx hb dJ1_charAt_3b067_9 (by decide) ?_
  refine lv_iand hx hb dJ1_charAt_3b067_12 ?_
  refine lv_topi (fun f_2 ef_2 => ?_)
  obtain ⟨f_3, ef_3⟩ : ∃ yY : Int32, yY = ((f_2 : Int32).toUInt32 % 65536).toInt32 := ⟨_, rfl⟩
  refine lv_i2c (v := f_3) hx hb dJ1_charAt_3b067_13 ef_3.symm ?_
  have e9 : f_3 = b i := by obtain ⟨k, hk, ek⟩ := hb8 i hi; rw [ef_3, ef_2, ek]; exact (ch_k hk).1
  have hP9 := hP.sub (ws' := []) [] rfl
  have hD9 := hD.sub (ws' := []) [] (by decide) rfl
  have hK9 := hK.sub (tys' := []) [] rfl
  exact W.zret (v := f_3) hx hb hr (by rw [ef_3]; exact pk_nc _) (fun tS ht hW => ⟨⟨f_3, (), rfl, ⟨(by rw [ef_3]; exact pk_nc _), e9⟩, by rw [ht]; exact hP9, va_K.moved hW.alike hK9, hD9⟩, hS.F ht⟩) hS.2.2 dJ1_charAt_3b067_14
def wf_c_charAt0 : List Cond := [.code yJ0_charAt_5068e cJ0_charAt_5068e 2 (some .char), .code yJ0_isLatin1_aae02 cJ0_isLatin1_aae02 1 (some .boolean), .fieldLink RJ0 38 "java/lang/String" "COMPACT_STRINGS" "Z", .fieldLink RJ0 15 "java/lang/String" "coder" "B", .methodLink RJ0 492 yJ0_isLatin1_aae02, .instanceMethod yJ0_isLatin1_aae02, .selects RJ0 yJ0_isLatin1_aae02 yJ0_isLatin1_aae02, .initialized RJ0, .fieldLink RJ0 9 "java/lang/String" "value" "[B", .code yJ1_charAt_3b067 cJ1_charAt_3b067 2 (some .char), .code yJ0_checkIndex_df160 cJ0_checkIndex_df160 2 none, .fieldLink RJ0 1053 "jdk/internal/util/Preconditions" "SIOOBE_FORMATTER" "Ljava/util/function/BiFunction;", .code yJ3_checkIndex_8e157 cJ3_checkIndex_8e157 3 (some .int), .methodLink RJ0 1059 yJ3_checkIndex_8e157, .static yJ3_checkIndex_8e157, .initialized RJ3, .methodLink RJ1 9 yJ0_checkIndex_df160, .static yJ0_checkIndex_df160, .methodLink RJ0 495 yJ1_charAt_3b067, .static yJ1_charAt_3b067, .initialized RJ1]
def wp_c_charAt0 : List Cond := wf_c_charAt0 ++ []
theorem wg_c_charAt0 : wf_c_charAt0.all goodWord = true := by decide +kernel
theorem wm_c_charAt0 (k : Nat) {w : Cond} (h : wp_c_charAt0[k]? = some w) : w ∈ wp_c_charAt0 := List.mem_of_getElem? h
set_option maxRecDepth 20000 in
theorem g_c_charAt0_c_latin_1 : GoodIn wp_c_charAt0 (wsV RJ0 492 RJ0 yJ0_isLatin1_aae02 wp_c_latin) := goodIn_app (goodIn_f [.methodLink RJ0 492 yJ0_isLatin1_aae02, .instanceMethod yJ0_isLatin1_aae02, .selects RJ0 yJ0_isLatin1_aae02 yJ0_isLatin1_aae02, .initialized RJ0] [4, 5, 6, 7] rfl (by decide +kernel)) (goodIn_app (goodIn_f (wf_c_latin) [1, 2, 3] rfl wg_c_latin) (goodIn_n))
set_option maxRecDepth 20000 in
theorem g_c_charAt0_c_latAt0_12 : GoodIn wp_c_charAt0 (va_wsS RJ0 495 yJ1_charAt_3b067 wp_c_latAt0) := goodIn_app (goodIn_f [.methodLink RJ0 495 yJ1_charAt_3b067, .static yJ1_charAt_3b067, .initialized RJ1] [18, 19, 20] rfl (by decide +kernel)) (goodIn_app (goodIn_f (wf_c_latAt0) [9, 10, 11, 12, 13, 14, 15, 16, 17, 7] rfl wg_c_latAt0) (goodIn_n))
set_option maxHeartbeats 4000000 in
set_option maxRecDepth 100000 in
theorem c_charAt0 (l : Launch) (dC : Nat → ClassId) (dI : Nat → Nat → Nat) (t v N : Nat) (b : Nat → Int32) (i : Nat) (sz : Nat) (hi : i < N) (hN : N < 2 ^ 31) (hb8 : ∀ j : Nat, j < N → ∃ k : Nat, k < 128 ∧ b j = nI k) : Met l yJ0_charAt_5068e wp_c_charAt0 ({ frames := 3, cells := 0, slots := 0, locals := 64 }) (va_Pc [.ref t, .int (nI i)] (fun U => U.heap.size = sz ∧ va_P (dC, dI) vwCl [] U.heap ∧ va_K (dC, dI) vwCl [] U ∧ va_D (fun _ => True) [] ∧ sgA t v N b (va_A [] sz) U U.heap ∧ sgF (va_A [] sz) U U.heap)) (va_Qi (fun (r : Int32) (_ : Unit) => narrow .char (.int r) = .int r ∧ r = b i) (fun (_ : Unit) (tS : State) => va_P (dC, dI) vwCl [] tS.heap ∧ va_K (dC, dI) vwCl [] tS ∧ va_D (va_A [] sz) []) (va_A [] sz)) 0 0 (va_A [] sz) := by
  refine Met.ofW (cc := cJ0_charAt_5068e) (maxL := 2) (ret := (some .char)) (by decide) rfl ?_
  intro p e s m args below meth c s₁ B hml hv
  obtain ⟨rfl, hsz, hP, hK, hD0, hpre0, hpre1⟩ := hv
  have hx := B.exec
  have hb := B.bytes
  have hr := B.returns
  have hts := atoms_spec (ws := wp_c_charAt0) B.pre
  have hown : s.vm.findClass RJ0 = some m.cls := findClass_of_methodNamed B.named
  have hlocks := B.notSynchronized
  subst hsz
  have hD := hD0.self (sz := s.heap.size)
  generalize hAe : va_A [] s.heap.size = A at hD hpre0 hpre1 ⊢
  have hA : ∀ q : Nat, s.heap.size ≤ q → A q := fun q h => by rw [← hAe]; exact Or.inr h
  have hS : va_S A s.heap s.heap [] := va_S.rf
  have hP : va_P (dC, dI) vwCl [] s.heap := hP
  have hl := lv_entry ([.ref t, .int (nI i)]) (n := 2) (Nat.le_of_ble_eq_true rfl)
  rw [lg_entry_eq]
  generalize (lg_sl ([.ref t, .int (nI i)]) ++ List.replicate (2 - (lg_sl ([.ref t, .int (nI i)])).length) Slot.unset).toArray = ls at hl ⊢
  have hl : lv_has ls 2 [(0, .ref t), (1, .int (nI i))] := hl
  refine lv_aload_n hx hb dJ0_charAt_5068e_0 rfl (lv_at hl 0 rfl) ?_
  have hPc := hP.sub (ws' := []) [] rfl
  have hDc := hD.sub (ws' := []) [] (by decide) rfl
  have hKc := hK.sub (tys' := []) [] rfl
  have hFc := va_free (wc := []) hD hS hA [] rfl
  refine va_calli (va_runV (As := []) (rest := []) ⟨hx, hb, hml, hown, hts⟩ (c_latin l dC dI t v N b s.heap.size) (cwV 0 hts g_c_charAt0_c_latin_1 rfl rfl rfl (by decide +kernel) ⟨Nat.le_of_ble_eq_true rfl, Nat.le_of_ble_eq_true rfl⟩) ⟨fun a U g mk q => by obtain ⟨q0, q1, qP, qK, qD, qx0⟩ := q; exact ⟨q0, q1, qP, va_K.moved (u := U) (U := U.calling g mk a) (Vm.Alike.refl U.vm) qK, qD, sgA.moved (u := U) (U := U.calling g mk a) (Vm.Alike.refl U.vm) qx0⟩, va_Orecv hpre0.1 hS, fun U hU hW => ⟨rfl, by rw [hU], by rw [hU]; exact hPc, va_K.moved hW.alike hKc, hDc.weaken (fun _ _ _ _ => trivial), by rw [hU]; exact ((hpre0.kept hS.2.1).moved hW.alike).narrow hFc⟩⟩ rfl rfl hl.1 rfl (lv_room (Nat.le_of_ble_eq_true rfl)) dJ0_charAt_5068e_1 ⟨(show 0 + 0 ≤ 0 by omega), (show 0 + 0 ≤ 0 by omega)⟩) hS (fun q _ h => hFc q h) hFc (fun r_1 u tS H1 locs ht hvm hw hB hz1 hk1 hS => ?_)
  obtain ⟨hP1, hK1, hD1⟩ := hB
  rw [ht] at hP1
  have hK1 := va_K.moved hvm.symm hK1
  obtain ⟨hP, hD⟩ := va_join (wr := []) (w1 := []) hP hD [] [] rfl rfl (by decide) (by decide) hk1 hFc hP1 hD1
  generalize H1 = H at hP hS ⊢
  have hP : va_P (dC, dI) vwCl [] H := hP
  have hD : va_D A [] := hD
  have hK : va_K (dC, dI) vwCl [] s := hK
  obtain rfl : r_1 = 1 := hw
  refine lv_if_eq (tgt := 16) hx hb dJ0_charAt_5068e_4 (by decide) (fun c_2 => absurd c_2 (by decide)) (fun _ => ?_)
  refine lv_aload_n hx hb dJ0_charAt_5068e_7 rfl (lv_at hl 0 rfl) ?_
  refine vk_getf (v := .ref v) hx hb hpre0.2.2.1 hS hown (hts (.fieldLink RJ0 9 "java/lang/String" "value" "[B") (wm_c_charAt0 8 rfl)) (fun _ h9 => h9) dJ0_charAt_5068e_8 ?_
  refine lv_iload_n hx hb dJ0_charAt_5068e_11 rfl (lv_at hl 1 rfl) ?_
  have hPc := hP.sub (ws' := []) [] rfl
  have hDc := hD.sub (ws' := []) [] (by decide) rfl
  have hKc := hK.sub (tys' := []) [] rfl
  have hFc := va_free (wc := []) hD hS hA [] rfl
  refine va_calli (va_runS (As := [.ref v, .int (nI i)]) (rest := []) ⟨hx, hb, hml, hown, hts⟩ (c_latAt0 l dC dI t v N b i H.size hi hN hb8) (va_cwS 2 hts g_c_charAt0_c_latAt0_12 rfl rfl rfl (by decide +kernel) ⟨Nat.le_of_ble_eq_true rfl, Nat.le_of_ble_eq_true rfl⟩) ⟨fun a U g mk q => by obtain ⟨q0, q1, qP, qK, qD, qx0, qx1⟩ := q; exact ⟨q0, q1, qP, va_K.moved (u := U) (U := U.calling g mk a) (Vm.Alike.refl U.vm) qK, qD, sgA.moved (u := U) (U := U.calling g mk a) (Vm.Alike.refl U.vm) qx0, sgF.moved (u := U) (U := U.calling g mk a) (Vm.Alike.refl U.vm) qx1⟩, fun U hU hW => ⟨rfl, by rw [hU], by rw [hU]; exact hPc, va_K.moved hW.alike hKc, hDc.weaken (fun _ _ _ _ => trivial), by rw [hU]; exact ((hpre0.kept hS.2.1).moved hW.alike).narrow hFc, by rw [hU]; exact ((hpre1.kept hS.2.1).moved hW.alike).narrow hFc⟩⟩ rfl rfl hl.1 rfl (lv_room (Nat.le_of_ble_eq_true rfl)) dJ0_charAt_5068e_12 ⟨(show 0 + 0 ≤ 0 by omega), (show 0 + 0 ≤ 0 by omega)⟩) hS (fun q _ h => hFc q h) hFc (fun r_3 u tS H1 locs ht hvm hw hB hz1 hk1 hS => ?_)
  obtain ⟨hP1, hK1, hD1⟩ := hB
  rw [ht] at hP1
  have hK1 := va_K.moved hvm.symm hK1
  obtain ⟨hP, hD⟩ := va_join (wr := []) (w1 := []) hP hD [] [] rfl rfl (by decide) (by decide) hk1 hFc hP1 hD1
  generalize H1 = H at hP hS ⊢
  have hP : va_P (dC, dI) vwCl [] H := hP
  have hD : va_D A [] := hD
  have hK : va_K (dC, dI) vwCl [] s := hK
  have hP9 := hP.sub (ws' := []) [] rfl
  have hD9 := hD.sub (ws' := []) [] (by decide) rfl
  have hK9 := hK.sub (tys' := []) [] rfl
  exact W.zret (v := r_3) hx hb hr hw.1 (fun tS ht hW => ⟨⟨r_3, (), rfl, hw, by rw [ht]; exact hP9, va_K.moved hW.alike hK9, hD9⟩, hS.F ht⟩) hS.2.2 dJ0_charAt_5068e_15
def wf_c_spelled0 : List Cond := [.code yX9_isSpelled cX9_isSpelled 6 (some .boolean), .fieldLink RX9 42 "OwnedPlaces$Text" "nameSize" "[I", .fieldLink RX9 36 "OwnedPlaces$Text" "spelled" "[B", .fieldLink RX9 39 "OwnedPlaces$Text" "nameFrom" "[I"]
def wp_c_spelled0 : List Cond := wf_c_spelled0 ++ (wsX90 ++ [])
theorem in_c_spelled0_X9 : ∀ w ∈ wsX90, w ∈ wp_c_spelled0 := fun w h => List.mem_append_right _ (List.mem_append_left _ h)
theorem wg_c_spelled0 : wf_c_spelled0.all goodWord = true := by decide +kernel
theorem wm_c_spelled0 (k : Nat) {w : Cond} (h : wp_c_spelled0[k]? = some w) : w ∈ wp_c_spelled0 := List.mem_of_getElem? h
set_option maxHeartbeats 4000000 in
set_option maxRecDepth 100000 in
theorem c_spelled0 (l : Launch) (dC : Nat → ClassId) (dI : Nat → Nat → Nat) (h tk tp tn tu tl tb ts tf tz tx th tw src : Nat) (kI kB : ClassId) (ln now ft pl : Int32) (tt : Nat) (nt : Int32) (a pf z sl : Nat) (ff fz fs g : Nat → Int32) (sz : Nat) (ha : a < 3020) (hpz : pf + z ≤ sl) (hsl : sl < 2 ^ 30) (hI : nmI 3120 ff fz) : Met l yX9_isSpelled wp_c_spelled0 ({ frames := 0, cells := 0, slots := 0, locals := 0 }) (va_Pc [.ref h, .int (nI a), .ref src, .int (nI pf), .int (nI z)] (fun U => U.heap.size = sz ∧ va_P (dC, dI) vwCl [(h, .inr (9, [.ref tk, .ref tp, .ref tn, .ref tu, .ref tl, .int ln, .int now, .int ft, .int pl, .int nt, .ref tb, .int (nI tt), .ref ts, .ref tf, .ref tz, .ref tx, .ref th, .null])), (tf, .inl (kI, 3020, .inl ff)), (tz, .inl (kI, 3020, .inl fz)), (ts, .inl (kB, 3120, .inl fs)), (src, .inl (kB, sl, .inl g))] U.heap ∧ va_K (dC, dI) vwCl [(kI, .int), (kB, .byte)] U ∧ va_D (fun _ => True) [(h, .inr (9, [.ref tk, .ref tp, .ref tn, .ref tu, .ref tl, .int ln, .int now, .int ft, .int pl, .int nt, .ref tb, .int (nI tt), .ref ts, .ref tf, .ref tz, .ref tx, .ref th, .null])), (tf, .inl (kI, 3020, .inl ff)), (tz, .inl (kI, 3020, .inl fz)), (ts, .inl (kB, 3120, .inl fs)), (src, .inl (kB, sl, .inl g))])) (va_Qi (fun (r : Int32) (_ : Unit) => r = 0 ∨ r = 1) (fun (_ : Unit) (tS : State) => va_P (dC, dI) vwCl [(h, .inr (9, [.ref tk, .ref tp, .ref tn, .ref tu, .ref tl, .int ln, .int now, .int ft, .int pl, .int nt, .ref tb, .int (nI tt), .ref ts, .ref tf, .ref tz, .ref tx, .ref th, .null])), (tf, .inl (kI, 3020, .inl ff)), (tz, .inl (kI, 3020, .inl fz)), (ts, .inl (kB, 3120, .inl fs)), (src, .inl (kB, sl, .inl g))] tS.heap ∧ va_K (dC, dI) vwCl [(kI, .int), (kB, .byte)] tS ∧ va_D (va_A [(h, .inr (9, [.ref tk, .ref tp, .ref tn, .ref tu, .ref tl, .int ln, .int now, .int ft, .int pl, .int nt, .ref tb, .int (nI tt), .ref ts, .ref tf, .ref tz, .ref tx, .ref th, .null])), (tf, .inl (kI, 3020, .inl ff)), (tz, .inl (kI, 3020, .inl fz)), (ts, .inl (kB, 3120, .inl fs)), (src, .inl (kB, sl, .inl g))] sz) [(h, .inr (9, [.ref tk, .ref tp, .ref tn, .ref tu, .ref tl, .int ln, .int now, .int ft, .int pl, .int nt, .ref tb, .int (nI tt), .ref ts, .ref tf, .ref tz, .ref tx, .ref th, .null])), (tf, .inl (kI, 3020, .inl ff)), (tz, .inl (kI, 3020, .inl fz)), (ts, .inl (kB, 3120, .inl fs)), (src, .inl (kB, sl, .inl g))]) (va_A [(h, .inr (9, [.ref tk, .ref tp, .ref tn, .ref tu, .ref tl, .int ln, .int now, .int ft, .int pl, .int nt, .ref tb, .int (nI tt), .ref ts, .ref tf, .ref tz, .ref tx, .ref th, .null])), (tf, .inl (kI, 3020, .inl ff)), (tz, .inl (kI, 3020, .inl fz)), (ts, .inl (kB, 3120, .inl fs)), (src, .inl (kB, sl, .inl g))] sz)) 0 0 (va_A [(h, .inr (9, [.ref tk, .ref tp, .ref tn, .ref tu, .ref tl, .int ln, .int now, .int ft, .int pl, .int nt, .ref tb, .int (nI tt), .ref ts, .ref tf, .ref tz, .ref tx, .ref th, .null])), (tf, .inl (kI, 3020, .inl ff)), (tz, .inl (kI, 3020, .inl fz)), (ts, .inl (kB, 3120, .inl fs)), (src, .inl (kB, sl, .inl g))] sz) := by
  refine Met.ofW (cc := cX9_isSpelled) (maxL := 6) (ret := (some .boolean)) (by decide) rfl ?_
  intro p e s m args below meth c s₁ B hml hv
  obtain ⟨rfl, hsz, hP, hK, hD0⟩ := hv
  have hx := B.exec
  have hb := B.bytes
  have hr := B.returns
  have hts := atoms_spec (ws := wp_c_spelled0) B.pre
  have hown : s.vm.findClass RX9 = some m.cls := findClass_of_methodNamed B.named
  have hlocks := B.notSynchronized
  subst hsz
  have hD := hD0.self (sz := s.heap.size)
  generalize hAe : va_A [(h, .inr (9, [.ref tk, .ref tp, .ref tn, .ref tu, .ref tl, .int ln, .int now, .int ft, .int pl, .int nt, .ref tb, .int (nI tt), .ref ts, .ref tf, .ref tz, .ref tx, .ref th, .null])), (tf, .inl (kI, 3020, .inl ff)), (tz, .inl (kI, 3020, .inl fz)), (ts, .inl (kB, 3120, .inl fs)), (src, .inl (kB, sl, .inl g))] s.heap.size = A at hD ⊢
  have hA : ∀ q : Nat, s.heap.size ≤ q → A q := fun q h => by rw [← hAe]; exact Or.inr h
  have hS : va_S A s.heap s.heap [] := va_S.rf
  have hP : va_P (dC, dI) vwCl [(h, .inr (9, [.ref tk, .ref tp, .ref tn, .ref tu, .ref tl, .int ln, .int now, .int ft, .int pl, .int nt, .ref tb, .int (nI tt), .ref ts, .ref tf, .ref tz, .ref tx, .ref th, .null])), (tf, .inl (kI, 3020, .inl ff)), (tz, .inl (kI, 3020, .inl fz)), (ts, .inl (kB, 3120, .inl fs)), (src, .inl (kB, sl, .inl g))] s.heap := hP
  have hl := lv_entry ([.ref h, .int (nI a), .ref src, .int (nI pf), .int (nI z)]) (n := 6) (Nat.le_of_ble_eq_true rfl)
  rw [lg_entry_eq]
  generalize (lg_sl ([.ref h, .int (nI a), .ref src, .int (nI pf), .int (nI z)]) ++ List.replicate (6 - (lg_sl ([.ref h, .int (nI a), .ref src, .int (nI pf), .int (nI z)])).length) Slot.unset).toArray = ls at hl ⊢
  have hl : lv_has ls 6 [(0, .ref h), (1, .int (nI a)), (2, .ref src), (3, .int (nI pf)), (4, .int (nI z))] := hl
  obtain ⟨a1, b1, hf1, hf2, hf3⟩ := hI a ha
  refine lv_aload_n hx hb dX9_isSpelled_0 rfl (lv_at hl 0 rfl) ?_
  refine va_get (D := (dC, dI)) (ci := 9) (v := .ref tz) (C := RX9) (T := TX9) (N := 18) hx hb hts in_c_spelled0_X9 hown hK hP 0 rfl rfl 14 (by decide) (hts (.fieldLink RX9 42 "OwnedPlaces$Text" "nameSize" "[I") (wm_c_spelled0 1 rfl)) (fun _ h9 => h9) rfl dX9_isSpelled_1 ?_
  refine lv_iload_n hx hb dX9_isSpelled_4 rfl (lv_at hl 1 rfl) ?_
  refine va_iald hx hb hK hP 2 0 rfl rfl (vp_in_nI ha (by decide)) dX9_isSpelled_5 ?_
  refine lv_topi (fun v_1 ev_1 => ?_)
  obtain rfl : v_1 = nI b1 := ev_1.trans (by rw [nI_clamp (by omega)]; exact hf2)
  refine lv_iload hx hb dX9_isSpelled_6 (lv_at hl 4 rfl) ?_
  refine lv_icmp_eq (tgt := 13) hx hb dX9_isSpelled_8 (by decide) (fun hc => ?_) (fun hc => ?_)
  · obtain rfl : z = b1 := ((nI_eq (by omega) (by omega)).mp hc).symm
    refine lv_iconst (v := 0) hx hb dX9_isSpelled_13 (by decide) ?_
    refine lv_istore (lv' := [(5, .int 0), (0, .ref h), (1, .int (nI a)), (2, .ref src), (3, .int (nI pf)), (4, .int (nI z))]) hx hb dX9_isSpelled_14 hl (by decide) rfl (fun ls hl => ?_)
    refine W_q (fun Q1 hQ1 => ?_)
    have key1 : ∀ (n1 : Nat) (i : Nat) (H : Heap) (locs : List Loc) (ls : Array Slot), (i + n1 = z + 1 ∧ i ≤ z) → va_P (dC, dI) vwCl [(h, .inr (9, [.ref tk, .ref tp, .ref tn, .ref tu, .ref tl, .int ln, .int now, .int ft, .int pl, .int nt, .ref tb, .int (nI tt), .ref ts, .ref tf, .ref tz, .ref tx, .ref th, .null])), (tf, .inl (kI, 3020, .inl ff)), (tz, .inl (kI, 3020, .inl fz)), (ts, .inl (kB, 3120, .inl fs)), (src, .inl (kB, sl, .inl g))] H → va_D A [(h, .inr (9, [.ref tk, .ref tp, .ref tn, .ref tu, .ref tl, .int ln, .int now, .int ft, .int pl, .int nt, .ref tb, .int (nI tt), .ref ts, .ref tf, .ref tz, .ref tx, .ref th, .null])), (tf, .inl (kI, 3020, .inl ff)), (tz, .inl (kI, 3020, .inl fz)), (ts, .inl (kB, 3120, .inl fs)), (src, .inl (kB, sl, .inl g))] → va_S A s.heap H locs → lv_has ls 6 [(5, .int (nI i)), (0, .ref h), (1, .int (nI a)), (2, .ref src), (3, .int (nI pf)), (4, .int (nI z))] → W p l e (headSpec wp_c_spelled0 ({ frames := 0, cells := 0, slots := 0, locals := 0 })).room s m ([.ref h, .int (nI a), .ref src, .int (nI pf), .int (nI z)] : List Value).toArray below meth c H locs 0 0 Q1 (F0 m 16 ls []) := by
      intro n1
      induction n1 with
      | zero => intro i H locs ls hb0; exact absurd hb0 (by omega)
      | succ n1 ih1 =>
        intro i H locs ls hb0 hP hD hS hl
        refine lv_iload hx hb dX9_isSpelled_16 (lv_at hl 0 rfl) ?_
        refine lv_iload hx hb dX9_isSpelled_18 (lv_at hl 5 rfl) ?_
        refine lv_icmp_ge (tgt := 54) hx hb dX9_isSpelled_20 (by decide) (fun hd => ?_) (fun hd => ?_)
        · refine lv_iconst (v := 1) hx hb dX9_isSpelled_54 (by decide) ?_
          have hP9 := hP.sub (ws' := [(h, .inr (9, [.ref tk, .ref tp, .ref tn, .ref tu, .ref tl, .int ln, .int now, .int ft, .int pl, .int nt, .ref tb, .int (nI tt), .ref ts, .ref tf, .ref tz, .ref tx, .ref th, .null])), (tf, .inl (kI, 3020, .inl ff)), (tz, .inl (kI, 3020, .inl fz)), (ts, .inl (kB, 3120, .inl fs)), (src, .inl (kB, sl, .inl g))]) [0, 1, 2, 3, 4] rfl
          have hD9 := hD.sub (ws' := [(h, .inr (9, [.ref tk, .ref tp, .ref tn, .ref tu, .ref tl, .int ln, .int now, .int ft, .int pl, .int nt, .ref tb, .int (nI tt), .ref ts, .ref tf, .ref tz, .ref tx, .ref th, .null])), (tf, .inl (kI, 3020, .inl ff)), (tz, .inl (kI, 3020, .inl fz)), (ts, .inl (kB, 3120, .inl fs)), (src, .inl (kB, sl, .inl g))]) [0, 1, 2, 3, 4] (by decide) rfl
          have hK9 := hK.sub (tys' := [(kI, .int), (kB, .byte)]) [0, 1] rfl
          subst hQ1
          exact W.zret (v := 1) hx hb hr (by decide) (fun tS ht hW => ⟨⟨1, (), rfl, Or.inr rfl, by rw [ht]; exact hP9, va_K.moved hW.alike hK9, hD9⟩, hS.F ht⟩) hS.2.2 dX9_isSpelled_55
        · have hi : i < z := by rcases Nat.lt_or_ge i z with q | q; exact q; exact absurd (nI_le q (by omega)) hd
          refine lv_aload_n hx hb dX9_isSpelled_23 rfl (lv_at hl 1 rfl) ?_
          refine va_get (D := (dC, dI)) (ci := 9) (v := .ref ts) (C := RX9) (T := TX9) (N := 18) hx hb hts in_c_spelled0_X9 hown hK hP 0 rfl rfl 12 (by decide) (hts (.fieldLink RX9 36 "OwnedPlaces$Text" "spelled" "[B") (wm_c_spelled0 2 rfl)) (fun _ h9 => h9) rfl dX9_isSpelled_24 ?_
          refine lv_aload_n hx hb dX9_isSpelled_27 rfl (lv_at hl 1 rfl) ?_
          refine va_get (D := (dC, dI)) (ci := 9) (v := .ref tf) (C := RX9) (T := TX9) (N := 18) hx hb hts in_c_spelled0_X9 hown hK hP 0 rfl rfl 13 (by decide) (hts (.fieldLink RX9 39 "OwnedPlaces$Text" "nameFrom" "[I") (wm_c_spelled0 3 rfl)) (fun _ h9 => h9) rfl dX9_isSpelled_28 ?_
          refine lv_iload_n hx hb dX9_isSpelled_31 rfl (lv_at hl 2 rfl) ?_
          refine va_iald hx hb hK hP 1 0 rfl rfl (vp_in_nI ha (by decide)) dX9_isSpelled_32 ?_
          refine lv_topi (fun v_2 ev_2 => ?_)
          obtain rfl : v_2 = nI a1 := ev_2.trans (by rw [nI_clamp (by omega)]; exact hf1)
          refine lv_iload hx hb dX9_isSpelled_33 (lv_at hl 0 rfl) ?_
          refine lv_iadd hx hb dX9_isSpelled_35 ?_
          refine lv_topi (fun f_3 ef_3 => ?_)
          obtain rfl : f_3 = nI (a1 + i) := ef_3.trans (nI_add _ _)
          refine va_bald hx hb hK hP 3 1 rfl rfl (vp_in_nI (by omega) (by decide)) dX9_isSpelled_36 ?_
          refine lv_topi (fun v_4 ev_4 => ?_)
          refine lv_aload_n hx hb dX9_isSpelled_37 rfl (lv_at hl 3 rfl) ?_
          refine lv_iload_n hx hb dX9_isSpelled_38 rfl (lv_at hl 4 rfl) ?_
          refine lv_iload hx hb dX9_isSpelled_39 (lv_at hl 0 rfl) ?_
          refine lv_iadd hx hb dX9_isSpelled_41 ?_
          refine lv_topi (fun f_5 ef_5 => ?_)
          obtain rfl : f_5 = nI (pf + i) := ef_5.trans (nI_add _ _)
          refine va_bald hx hb hK hP 4 1 rfl rfl (vp_in_nI (by omega) (by omega)) dX9_isSpelled_42 ?_
          refine lv_topi (fun v_6 ev_6 => ?_)
          refine lv_icmp_eq (tgt := 48) hx hb dX9_isSpelled_43 (by decide) (fun he => ?_) (fun he => ?_)
          · obtain ⟨x_7, ex_7⟩ : ∃ yY : Int32, yY = (nI i) + 1 := ⟨_, rfl⟩
            refine lv_iinc (v := x_7) (lv' := [(5, .int x_7), (0, .ref h), (1, .int (nI a)), (2, .ref src), (3, .int (nI pf)), (4, .int (nI z))]) hx hb dX9_isSpelled_48 hl (k := 0) rfl (by rw [ex_7]; rfl) (by decide) rfl (fun ls hl => ?_)
            obtain rfl : x_7 = nI (i + 1) := by rw [ex_7]; exact nI_1 i
            have hl : lv_has ls 6 [(5, .int (nI (i + 1))), (0, .ref h), (1, .int (nI a)), (2, .ref src), (3, .int (nI pf)), (4, .int (nI z))] := hl
            refine lv_goto (tgt := 16) hx hb dX9_isSpelled_51 (by decide) ?_
            exact ih1 (i + 1) _ _ _ (by omega) (hP.sub [0, 1, 2, 3, 4] rfl) (hD.sub [0, 1, 2, 3, 4] (by decide) rfl) hS (lv_sub hl [0, 1, 2, 3, 4, 5] rfl)
          · refine lv_iconst (v := 0) hx hb dX9_isSpelled_46 (by decide) ?_
            have hP9 := hP.sub (ws' := [(h, .inr (9, [.ref tk, .ref tp, .ref tn, .ref tu, .ref tl, .int ln, .int now, .int ft, .int pl, .int nt, .ref tb, .int (nI tt), .ref ts, .ref tf, .ref tz, .ref tx, .ref th, .null])), (tf, .inl (kI, 3020, .inl ff)), (tz, .inl (kI, 3020, .inl fz)), (ts, .inl (kB, 3120, .inl fs)), (src, .inl (kB, sl, .inl g))]) [0, 1, 2, 3, 4] rfl
            have hD9 := hD.sub (ws' := [(h, .inr (9, [.ref tk, .ref tp, .ref tn, .ref tu, .ref tl, .int ln, .int now, .int ft, .int pl, .int nt, .ref tb, .int (nI tt), .ref ts, .ref tf, .ref tz, .ref tx, .ref th, .null])), (tf, .inl (kI, 3020, .inl ff)), (tz, .inl (kI, 3020, .inl fz)), (ts, .inl (kB, 3120, .inl fs)), (src, .inl (kB, sl, .inl g))]) [0, 1, 2, 3, 4] (by decide) rfl
            have hK9 := hK.sub (tys' := [(kI, .int), (kB, .byte)]) [0, 1] rfl
            subst hQ1
            exact W.zret (v := 0) hx hb hr (by decide) (fun tS ht hW => ⟨⟨0, (), rfl, Or.inl rfl, by rw [ht]; exact hP9, va_K.moved hW.alike hK9, hD9⟩, hS.F ht⟩) hS.2.2 dX9_isSpelled_47
    exact key1 (z + 1) 0 _ _ _ (by omega) (hP.sub [0, 1, 2, 3, 4] rfl) (hD.sub [0, 1, 2, 3, 4] (by decide) rfl) hS (lv_sub hl [0, 1, 2, 3, 4, 5] rfl)
  · refine lv_iconst (v := 0) hx hb dX9_isSpelled_11 (by decide) ?_
    have hP9 := hP.sub (ws' := [(h, .inr (9, [.ref tk, .ref tp, .ref tn, .ref tu, .ref tl, .int ln, .int now, .int ft, .int pl, .int nt, .ref tb, .int (nI tt), .ref ts, .ref tf, .ref tz, .ref tx, .ref th, .null])), (tf, .inl (kI, 3020, .inl ff)), (tz, .inl (kI, 3020, .inl fz)), (ts, .inl (kB, 3120, .inl fs)), (src, .inl (kB, sl, .inl g))]) [0, 1, 2, 3, 4] rfl
    have hD9 := hD.sub (ws' := [(h, .inr (9, [.ref tk, .ref tp, .ref tn, .ref tu, .ref tl, .int ln, .int now, .int ft, .int pl, .int nt, .ref tb, .int (nI tt), .ref ts, .ref tf, .ref tz, .ref tx, .ref th, .null])), (tf, .inl (kI, 3020, .inl ff)), (tz, .inl (kI, 3020, .inl fz)), (ts, .inl (kB, 3120, .inl fs)), (src, .inl (kB, sl, .inl g))]) [0, 1, 2, 3, 4] (by decide) rfl
    have hK9 := hK.sub (tys' := [(kI, .int), (kB, .byte)]) [0, 1] rfl
    exact W.zret (v := 0) hx hb hr (by decide) (fun tS ht hW => ⟨⟨0, (), rfl, Or.inl rfl, by rw [ht]; exact hP9, va_K.moved hW.alike hK9, hD9⟩, hS.F ht⟩) hS.2.2 dX9_isSpelled_12
def wf_c_addName0 : List Cond := [.code yX9_addName cX9_addName 7 (some .int), .fieldLink RX9 89 "OwnedPlaces$Text" "nameTotal" "I", .fieldLink RX9 39 "OwnedPlaces$Text" "nameFrom" "[I", .fieldLink RX9 42 "OwnedPlaces$Text" "nameSize" "[I", .fieldLink RX9 36 "OwnedPlaces$Text" "spelled" "[B", .methodLink RX9 83 arraycopyName, .native arraycopyName, .static arraycopyName, .initialized "java/lang/System", .fieldLink RX9 45 "OwnedPlaces$Text" "nameNext" "[I", .fieldLink RX9 48 "OwnedPlaces$Text" "heads" "[I"]
def wp_c_addName0 : List Cond := wf_c_addName0 ++ (wsX90 ++ [])
theorem in_c_addName0_X9 : ∀ w ∈ wsX90, w ∈ wp_c_addName0 := fun w h => List.mem_append_right _ (List.mem_append_left _ h)
theorem wg_c_addName0 : wf_c_addName0.all goodWord = true := by decide +kernel
theorem wm_c_addName0 (k : Nat) {w : Cond} (h : wp_c_addName0[k]? = some w) : w ∈ wp_c_addName0 := List.mem_of_getElem? h
set_option maxHeartbeats 4000000 in
set_option maxRecDepth 100000 in
theorem c_addName0 (l : Launch) (dC : Nat → ClassId) (dI : Nat → Nat → Nat) (h tk tp tn tu tl tb ts tf tz tx th tw src : Nat) (kI kB : ClassId) (ln now ft pl : Int32) (tt : Nat) (t j pf z sl F : Nat) (fh fx ff fz fs g : Nat → Int32) (sz : Nat) (hj : j < 256) (ht : t < 20) (hpz : pf + z ≤ sl) (hsl : sl < 2 ^ 30) (hF : F + z ≤ 3120) (hI : nmI F ff fz) (hh : lkT fh 256 20) (hxx : lkT fx 20 20) (hg : ∀ j, fits .byte (.int (g j)) = true) : Met l yX9_addName wp_c_addName0 ({ frames := 1, cells := 0, slots := 0, locals := 64 }) (va_Pc [.ref h, .int (nI j), .ref src, .int (nI pf), .int (nI z)] (fun U => U.heap.size = sz ∧ va_P (dC, dI) vwCl [(h, .inr (9, [.ref tk, .ref tp, .ref tn, .ref tu, .ref tl, .int ln, .int now, .int ft, .int pl, .int (nI t), .ref tb, .int (nI tt), .ref ts, .ref tf, .ref tz, .ref tx, .ref th, .null])), (th, .inl (kI, 256, .inl fh)), (tx, .inl (kI, 3020, .inl fx)), (tf, .inl (kI, 3020, .inl ff)), (tz, .inl (kI, 3020, .inl fz)), (ts, .inl (kB, 3120, .inl fs)), (src, .inl (kB, sl, .inl g))] U.heap ∧ va_K (dC, dI) vwCl [(kI, .int), (kB, .byte)] U ∧ va_D (fun _ => True) [(h, .inr (9, [.ref tk, .ref tp, .ref tn, .ref tu, .ref tl, .int ln, .int now, .int ft, .int pl, .int (nI t), .ref tb, .int (nI tt), .ref ts, .ref tf, .ref tz, .ref tx, .ref th, .null])), (th, .inl (kI, 256, .inl fh)), (tx, .inl (kI, 3020, .inl fx)), (tf, .inl (kI, 3020, .inl ff)), (tz, .inl (kI, 3020, .inl fz)), (ts, .inl (kB, 3120, .inl fs)), (src, .inl (kB, sl, .inl g))])) (va_Qi (fun (_ : Int32) (_ : Unit) => True) (fun (_ : Unit) (tS : State) => ∃ (fh2 : Nat → Int32) (fx2 : Nat → Int32) (ff2 : Nat → Int32) (fz2 : Nat → Int32) (fs2 : Nat → Int32), (lkT fh2 256 20) ∧ (lkT fx2 20 20) ∧ (nmI (F + z) ff2 fz2) ∧ va_P (dC, dI) vwCl [(h, .inr (9, [.ref tk, .ref tp, .ref tn, .ref tu, .ref tl, .int ln, .int now, .int ft, .int pl, .int (nI (t + 1)), .ref tb, .int (nI tt), .ref ts, .ref tf, .ref tz, .ref tx, .ref th, .null])), (th, .inl (kI, 256, .inl fh2)), (tx, .inl (kI, 3020, .inl fx2)), (tf, .inl (kI, 3020, .inl ff2)), (tz, .inl (kI, 3020, .inl fz2)), (ts, .inl (kB, 3120, .inl fs2)), (src, .inl (kB, sl, .inl g))] tS.heap ∧ va_K (dC, dI) vwCl [(kI, .int), (kB, .byte)] tS ∧ va_D (va_A [(h, .inr (9, [.ref tk, .ref tp, .ref tn, .ref tu, .ref tl, .int ln, .int now, .int ft, .int pl, .int (nI t), .ref tb, .int (nI tt), .ref ts, .ref tf, .ref tz, .ref tx, .ref th, .null])), (th, .inl (kI, 256, .inl fh)), (tx, .inl (kI, 3020, .inl fx)), (tf, .inl (kI, 3020, .inl ff)), (tz, .inl (kI, 3020, .inl fz)), (ts, .inl (kB, 3120, .inl fs)), (src, .inl (kB, sl, .inl g))] sz) [(h, .inr (9, [.ref tk, .ref tp, .ref tn, .ref tu, .ref tl, .int ln, .int now, .int ft, .int pl, .int (nI (t + 1)), .ref tb, .int (nI tt), .ref ts, .ref tf, .ref tz, .ref tx, .ref th, .null])), (th, .inl (kI, 256, .inl fh2)), (tx, .inl (kI, 3020, .inl fx2)), (tf, .inl (kI, 3020, .inl ff2)), (tz, .inl (kI, 3020, .inl fz2)), (ts, .inl (kB, 3120, .inl fs2)), (src, .inl (kB, sl, .inl g))]) (va_A [(h, .inr (9, [.ref tk, .ref tp, .ref tn, .ref tu, .ref tl, .int ln, .int now, .int ft, .int pl, .int (nI t), .ref tb, .int (nI tt), .ref ts, .ref tf, .ref tz, .ref tx, .ref th, .null])), (th, .inl (kI, 256, .inl fh)), (tx, .inl (kI, 3020, .inl fx)), (tf, .inl (kI, 3020, .inl ff)), (tz, .inl (kI, 3020, .inl fz)), (ts, .inl (kB, 3120, .inl fs)), (src, .inl (kB, sl, .inl g))] sz)) 0 0 (va_A [(h, .inr (9, [.ref tk, .ref tp, .ref tn, .ref tu, .ref tl, .int ln, .int now, .int ft, .int pl, .int (nI t), .ref tb, .int (nI tt), .ref ts, .ref tf, .ref tz, .ref tx, .ref th, .null])), (th, .inl (kI, 256, .inl fh)), (tx, .inl (kI, 3020, .inl fx)), (tf, .inl (kI, 3020, .inl ff)), (tz, .inl (kI, 3020, .inl fz)), (ts, .inl (kB, 3120, .inl fs)), (src, .inl (kB, sl, .inl g))] sz) := by
  refine Met.ofW (cc := cX9_addName) (maxL := 7) (ret := (some .int)) (by decide) rfl ?_
  intro p e s m args below meth c s₁ B hml hv
  obtain ⟨rfl, hsz, hP, hK, hD0⟩ := hv
  have hx := B.exec
  have hb := B.bytes
  have hr := B.returns
  have hts := atoms_spec (ws := wp_c_addName0) B.pre
  have hown : s.vm.findClass RX9 = some m.cls := findClass_of_methodNamed B.named
  have hlocks := B.notSynchronized
  subst hsz
  have hD := hD0.self (sz := s.heap.size)
  generalize hAe : va_A [(h, .inr (9, [.ref tk, .ref tp, .ref tn, .ref tu, .ref tl, .int ln, .int now, .int ft, .int pl, .int (nI t), .ref tb, .int (nI tt), .ref ts, .ref tf, .ref tz, .ref tx, .ref th, .null])), (th, .inl (kI, 256, .inl fh)), (tx, .inl (kI, 3020, .inl fx)), (tf, .inl (kI, 3020, .inl ff)), (tz, .inl (kI, 3020, .inl fz)), (ts, .inl (kB, 3120, .inl fs)), (src, .inl (kB, sl, .inl g))] s.heap.size = A at hD ⊢
  have hA : ∀ q : Nat, s.heap.size ≤ q → A q := fun q h => by rw [← hAe]; exact Or.inr h
  have hS : va_S A s.heap s.heap [] := va_S.rf
  have hP : va_P (dC, dI) vwCl [(h, .inr (9, [.ref tk, .ref tp, .ref tn, .ref tu, .ref tl, .int ln, .int now, .int ft, .int pl, .int (nI t), .ref tb, .int (nI tt), .ref ts, .ref tf, .ref tz, .ref tx, .ref th, .null])), (th, .inl (kI, 256, .inl fh)), (tx, .inl (kI, 3020, .inl fx)), (tf, .inl (kI, 3020, .inl ff)), (tz, .inl (kI, 3020, .inl fz)), (ts, .inl (kB, 3120, .inl fs)), (src, .inl (kB, sl, .inl g))] s.heap := hP
  have hl := lv_entry ([.ref h, .int (nI j), .ref src, .int (nI pf), .int (nI z)]) (n := 7) (Nat.le_of_ble_eq_true rfl)
  rw [lg_entry_eq]
  generalize (lg_sl ([.ref h, .int (nI j), .ref src, .int (nI pf), .int (nI z)]) ++ List.replicate (7 - (lg_sl ([.ref h, .int (nI j), .ref src, .int (nI pf), .int (nI z)])).length) Slot.unset).toArray = ls at hl ⊢
  have hl : lv_has ls 7 [(0, .ref h), (1, .int (nI j)), (2, .ref src), (3, .int (nI pf)), (4, .int (nI z))] := hl
  refine lv_aload_n hx hb dX9_addName_0 rfl (lv_at hl 0 rfl) ?_
  refine va_get (D := (dC, dI)) (ci := 9) (v := .int (nI t)) (C := RX9) (T := TX9) (N := 18) hx hb hts in_c_addName0_X9 hown hK hP 0 rfl rfl 9 (by decide) (hts (.fieldLink RX9 89 "OwnedPlaces$Text" "nameTotal" "I") (wm_c_addName0 1 rfl)) (fun _ h9 => h9) rfl dX9_addName_1 ?_
  refine lv_istore (lv' := [(5, .int (nI t)), (0, .ref h), (1, .int (nI j)), (2, .ref src), (3, .int (nI pf)), (4, .int (nI z))]) hx hb dX9_addName_4 hl (by decide) rfl (fun ls hl => ?_)
  refine lv_iload hx hb dX9_addName_6 (lv_at hl 0 rfl) ?_
  refine lv_if_ne (tgt := 15) hx hb dX9_addName_8 (by decide) (fun hc => ?_) (fun hc => ?_)
  · have h0 : 0 < t := by rcases Nat.eq_zero_or_pos t with q | q; subst q; exact absurd rfl hc; exact q
    obtain ⟨a1, b1, hf1, hf2, hf3⟩ := hI (t - 1) (by omega)
    refine lv_aload_n hx hb dX9_addName_15 rfl (lv_at hl 1 rfl) ?_
    refine va_get (D := (dC, dI)) (ci := 9) (v := .ref tf) (C := RX9) (T := TX9) (N := 18) hx hb hts in_c_addName0_X9 hown hK hP 0 rfl rfl 13 (by decide) (hts (.fieldLink RX9 39 "OwnedPlaces$Text" "nameFrom" "[I") (wm_c_addName0 2 rfl)) (fun _ h9 => h9) rfl dX9_addName_16 ?_
    refine lv_iload hx hb dX9_addName_19 (lv_at hl 0 rfl) ?_
    refine lv_iconst (v := 1) hx hb dX9_addName_21 (by decide) ?_
    refine lv_isub hx hb dX9_addName_22 ?_
    refine lv_topi (fun f_1 ef_1 => ?_)
    obtain rfl : f_1 = nI (t - 1) := ef_1.trans (pk_sub (a := t) (b := 1) h0)
    refine va_iald hx hb hK hP 3 0 rfl rfl (vp_in_nI (by omega) (by decide)) dX9_addName_23 ?_
    refine lv_topi (fun v_2 ev_2 => ?_)
    obtain rfl : v_2 = nI a1 := ev_2.trans (by rw [nI_clamp (by omega)]; exact hf1)
    refine lv_aload_n hx hb dX9_addName_24 rfl (lv_at hl 1 rfl) ?_
    refine va_get (D := (dC, dI)) (ci := 9) (v := .ref tz) (C := RX9) (T := TX9) (N := 18) hx hb hts in_c_addName0_X9 hown hK hP 0 rfl rfl 14 (by decide) (hts (.fieldLink RX9 42 "OwnedPlaces$Text" "nameSize" "[I") (wm_c_addName0 3 rfl)) (fun _ h9 => h9) rfl dX9_addName_25 ?_
    refine lv_iload hx hb dX9_addName_28 (lv_at hl 0 rfl) ?_
    refine lv_iconst (v := 1) hx hb dX9_addName_30 (by decide) ?_
    refine lv_isub hx hb dX9_addName_31 ?_
    refine lv_topi (fun f_3 ef_3 => ?_)
    obtain rfl : f_3 = nI (t - 1) := ef_3.trans (pk_sub (a := t) (b := 1) h0)
    refine va_iald hx hb hK hP 4 0 rfl rfl (vp_in_nI (by omega) (by decide)) dX9_addName_32 ?_
    refine lv_topi (fun v_4 ev_4 => ?_)
    obtain rfl : v_4 = nI b1 := ev_4.trans (by rw [nI_clamp (by omega)]; exact hf2)
    refine lv_iadd hx hb dX9_addName_33 ?_
    refine lv_topi (fun f_5 ef_5 => ?_)
    obtain rfl : f_5 = nI (a1 + b1) := ef_5.trans (nI_add _ _)
    have hst : a1 + b1 ≤ F := hf3
    refine lv_istore (lv' := [(6, .int (nI (a1 + b1))), (5, .int (nI t)), (0, .ref h), (1, .int (nI j)), (2, .ref src), (3, .int (nI pf)), (4, .int (nI z))]) hx hb dX9_addName_34 hl (by decide) rfl (fun ls hl => ?_)
    refine lv_aload_n hx hb dX9_addName_36 rfl (lv_at hl 4 rfl) ?_
    refine lv_iload_n hx hb dX9_addName_37 rfl (lv_at hl 5 rfl) ?_
    refine lv_aload_n hx hb dX9_addName_38 rfl (lv_at hl 2 rfl) ?_
    refine va_get (D := (dC, dI)) (ci := 9) (v := .ref ts) (C := RX9) (T := TX9) (N := 18) hx hb hts in_c_addName0_X9 hown hK hP 0 rfl rfl 12 (by decide) (hts (.fieldLink RX9 36 "OwnedPlaces$Text" "spelled" "[B") (wm_c_addName0 4 rfl)) (fun _ h9 => h9) rfl dX9_addName_39 ?_
    refine lv_iload hx hb dX9_addName_42 (lv_at hl 0 rfl) ?_
    refine lv_iload hx hb dX9_addName_44 (lv_at hl 6 rfl) ?_
    refine va_copyi (ty := .byte) hx hb (by rw [hml]; exact hl.1.symm) hown (hts (.methodLink RX9 83 arraycopyName) (wm_c_addName0 5 rfl)) (hts (.native arraycopyName) (wm_c_addName0 6 rfl)) (hts (.static arraycopyName) (wm_c_addName0 7 rfl)) (hts (.initialized "java/lang/System") (wm_c_addName0 8 rfl)) hK hP hD hS 6 5 1 1 rfl rfl rfl rfl rfl (nI_pos (by omega)) (nI_pos (by omega)) (nI_pos (by omega)) (by rw [nI_clamp (by omega), nI_clamp (by omega)]; omega) (by rw [nI_clamp (by omega), nI_clamp (by omega)]; omega) (fun _ _ => hg _) (Nat.le_of_ble_eq_true rfl) (by decide) dX9_addName_46 (fun H locs hP hD hS => ?_)
    have hP : va_P (dC, dI) vwCl [(h, .inr (9, [.ref tk, .ref tp, .ref tn, .ref tu, .ref tl, .int ln, .int now, .int ft, .int pl, .int (nI t), .ref tb, .int (nI tt), .ref ts, .ref tf, .ref tz, .ref tx, .ref th, .null])), (th, .inl (kI, 256, .inl fh)), (tx, .inl (kI, 3020, .inl fx)), (tf, .inl (kI, 3020, .inl ff)), (tz, .inl (kI, 3020, .inl fz)), (ts, .inl (kB, 3120, .inl (va_cpy g fs (nI pf : Int32).toNatClampNeg (nI (a1 + b1) : Int32).toNatClampNeg (nI z : Int32).toNatClampNeg))), (src, .inl (kB, sl, .inl g))] H := hP
    have hD : va_D A [(h, .inr (9, [.ref tk, .ref tp, .ref tn, .ref tu, .ref tl, .int ln, .int now, .int ft, .int pl, .int (nI t), .ref tb, .int (nI tt), .ref ts, .ref tf, .ref tz, .ref tx, .ref th, .null])), (th, .inl (kI, 256, .inl fh)), (tx, .inl (kI, 3020, .inl fx)), (tf, .inl (kI, 3020, .inl ff)), (tz, .inl (kI, 3020, .inl fz)), (ts, .inl (kB, 3120, .inl (va_cpy g fs (nI pf : Int32).toNatClampNeg (nI (a1 + b1) : Int32).toNatClampNeg (nI z : Int32).toNatClampNeg))), (src, .inl (kB, sl, .inl g))] := hD
    obtain ⟨fs1, efs1⟩ : ∃ zZ : Nat → Int32, zZ = va_cpy g fs (nI pf : Int32).toNatClampNeg (nI (a1 + b1) : Int32).toNatClampNeg (nI z : Int32).toNatClampNeg := ⟨_, rfl⟩
    rw [← efs1] at hP hD
    refine lv_aload_n hx hb dX9_addName_49 rfl (lv_at hl 2 rfl) ?_
    refine va_get (D := (dC, dI)) (ci := 9) (v := .ref tf) (C := RX9) (T := TX9) (N := 18) hx hb hts in_c_addName0_X9 hown hK hP 0 rfl rfl 13 (by decide) (hts (.fieldLink RX9 39 "OwnedPlaces$Text" "nameFrom" "[I") (wm_c_addName0 2 rfl)) (fun _ h9 => h9) rfl dX9_addName_50 ?_
    refine lv_iload hx hb dX9_addName_53 (lv_at hl 1 rfl) ?_
    refine lv_iload hx hb dX9_addName_55 (lv_at hl 0 rfl) ?_
    refine va_iast hx hb hK hP hD hS 3 0 rfl rfl (vp_in_nI (by omega) (by decide)) dX9_addName_57 (fun H locs hP hD hS => ?_)
    have hP : va_P (dC, dI) vwCl [(h, .inr (9, [.ref tk, .ref tp, .ref tn, .ref tu, .ref tl, .int ln, .int now, .int ft, .int pl, .int (nI t), .ref tb, .int (nI tt), .ref ts, .ref tf, .ref tz, .ref tx, .ref th, .null])), (th, .inl (kI, 256, .inl fh)), (tx, .inl (kI, 3020, .inl fx)), (tf, .inl (kI, 3020, .inl (upd ff (nI t : Int32).toNatClampNeg (nI (a1 + b1))))), (tz, .inl (kI, 3020, .inl fz)), (ts, .inl (kB, 3120, .inl fs1)), (src, .inl (kB, sl, .inl g))] H := hP
    have hD : va_D A [(h, .inr (9, [.ref tk, .ref tp, .ref tn, .ref tu, .ref tl, .int ln, .int now, .int ft, .int pl, .int (nI t), .ref tb, .int (nI tt), .ref ts, .ref tf, .ref tz, .ref tx, .ref th, .null])), (th, .inl (kI, 256, .inl fh)), (tx, .inl (kI, 3020, .inl fx)), (tf, .inl (kI, 3020, .inl (upd ff (nI t : Int32).toNatClampNeg (nI (a1 + b1))))), (tz, .inl (kI, 3020, .inl fz)), (ts, .inl (kB, 3120, .inl fs1)), (src, .inl (kB, sl, .inl g))] := hD
    obtain ⟨ff1, eff1⟩ : ∃ zZ : Nat → Int32, zZ = upd ff (nI t : Int32).toNatClampNeg (nI (a1 + b1)) := ⟨_, rfl⟩
    rw [← eff1] at hP hD
    refine lv_aload_n hx hb dX9_addName_58 rfl (lv_at hl 2 rfl) ?_
    refine va_get (D := (dC, dI)) (ci := 9) (v := .ref tz) (C := RX9) (T := TX9) (N := 18) hx hb hts in_c_addName0_X9 hown hK hP 0 rfl rfl 14 (by decide) (hts (.fieldLink RX9 42 "OwnedPlaces$Text" "nameSize" "[I") (wm_c_addName0 3 rfl)) (fun _ h9 => h9) rfl dX9_addName_59 ?_
    refine lv_iload hx hb dX9_addName_62 (lv_at hl 1 rfl) ?_
    refine lv_iload hx hb dX9_addName_64 (lv_at hl 6 rfl) ?_
    refine va_iast hx hb hK hP hD hS 4 0 rfl rfl (vp_in_nI (by omega) (by decide)) dX9_addName_66 (fun H locs hP hD hS => ?_)
    have hP : va_P (dC, dI) vwCl [(h, .inr (9, [.ref tk, .ref tp, .ref tn, .ref tu, .ref tl, .int ln, .int now, .int ft, .int pl, .int (nI t), .ref tb, .int (nI tt), .ref ts, .ref tf, .ref tz, .ref tx, .ref th, .null])), (th, .inl (kI, 256, .inl fh)), (tx, .inl (kI, 3020, .inl fx)), (tf, .inl (kI, 3020, .inl ff1)), (tz, .inl (kI, 3020, .inl (upd fz (nI t : Int32).toNatClampNeg (nI z)))), (ts, .inl (kB, 3120, .inl fs1)), (src, .inl (kB, sl, .inl g))] H := hP
    have hD : va_D A [(h, .inr (9, [.ref tk, .ref tp, .ref tn, .ref tu, .ref tl, .int ln, .int now, .int ft, .int pl, .int (nI t), .ref tb, .int (nI tt), .ref ts, .ref tf, .ref tz, .ref tx, .ref th, .null])), (th, .inl (kI, 256, .inl fh)), (tx, .inl (kI, 3020, .inl fx)), (tf, .inl (kI, 3020, .inl ff1)), (tz, .inl (kI, 3020, .inl (upd fz (nI t : Int32).toNatClampNeg (nI z)))), (ts, .inl (kB, 3120, .inl fs1)), (src, .inl (kB, sl, .inl g))] := hD
    obtain ⟨fz1, efz1⟩ : ∃ zZ : Nat → Int32, zZ = upd fz (nI t : Int32).toNatClampNeg (nI z) := ⟨_, rfl⟩
    rw [← efz1] at hP hD
    refine lv_aload_n hx hb dX9_addName_67 rfl (lv_at hl 2 rfl) ?_
    refine va_get (D := (dC, dI)) (ci := 9) (v := .ref tx) (C := RX9) (T := TX9) (N := 18) hx hb hts in_c_addName0_X9 hown hK hP 0 rfl rfl 15 (by decide) (hts (.fieldLink RX9 45 "OwnedPlaces$Text" "nameNext" "[I") (wm_c_addName0 9 rfl)) (fun _ h9 => h9) rfl dX9_addName_68 ?_
    refine lv_iload hx hb dX9_addName_71 (lv_at hl 1 rfl) ?_
    refine lv_aload_n hx hb dX9_addName_73 rfl (lv_at hl 2 rfl) ?_
    refine va_get (D := (dC, dI)) (ci := 9) (v := .ref th) (C := RX9) (T := TX9) (N := 18) hx hb hts in_c_addName0_X9 hown hK hP 0 rfl rfl 16 (by decide) (hts (.fieldLink RX9 48 "OwnedPlaces$Text" "heads" "[I") (wm_c_addName0 10 rfl)) (fun _ h9 => h9) rfl dX9_addName_74 ?_
    refine lv_iload_n hx hb dX9_addName_77 rfl (lv_at hl 3 rfl) ?_
    refine va_iald hx hb hK hP 1 0 rfl rfl (vp_in_nI hj (by decide)) dX9_addName_78 ?_
    refine lv_topi (fun v_6 ev_6 => ?_)
    have hv9 : v_6 < 0 ∨ ∃ k : Nat, k < 20 ∧ v_6 = nI k := by rw [ev_6, nI_clamp (by omega)]; exact hh j hj
    refine va_iast hx hb hK hP hD hS 2 0 rfl rfl (vp_in_nI (by omega) (by decide)) dX9_addName_79 (fun H locs hP hD hS => ?_)
    have hP : va_P (dC, dI) vwCl [(h, .inr (9, [.ref tk, .ref tp, .ref tn, .ref tu, .ref tl, .int ln, .int now, .int ft, .int pl, .int (nI t), .ref tb, .int (nI tt), .ref ts, .ref tf, .ref tz, .ref tx, .ref th, .null])), (th, .inl (kI, 256, .inl fh)), (tx, .inl (kI, 3020, .inl (upd fx (nI t : Int32).toNatClampNeg v_6))), (tf, .inl (kI, 3020, .inl ff1)), (tz, .inl (kI, 3020, .inl fz1)), (ts, .inl (kB, 3120, .inl fs1)), (src, .inl (kB, sl, .inl g))] H := hP
    have hD : va_D A [(h, .inr (9, [.ref tk, .ref tp, .ref tn, .ref tu, .ref tl, .int ln, .int now, .int ft, .int pl, .int (nI t), .ref tb, .int (nI tt), .ref ts, .ref tf, .ref tz, .ref tx, .ref th, .null])), (th, .inl (kI, 256, .inl fh)), (tx, .inl (kI, 3020, .inl (upd fx (nI t : Int32).toNatClampNeg v_6))), (tf, .inl (kI, 3020, .inl ff1)), (tz, .inl (kI, 3020, .inl fz1)), (ts, .inl (kB, 3120, .inl fs1)), (src, .inl (kB, sl, .inl g))] := hD
    obtain ⟨fx1, efx1⟩ : ∃ zZ : Nat → Int32, zZ = upd fx (nI t : Int32).toNatClampNeg v_6 := ⟨_, rfl⟩
    rw [← efx1] at hP hD
    refine lv_aload_n hx hb dX9_addName_80 rfl (lv_at hl 2 rfl) ?_
    refine va_get (D := (dC, dI)) (ci := 9) (v := .ref th) (C := RX9) (T := TX9) (N := 18) hx hb hts in_c_addName0_X9 hown hK hP 0 rfl rfl 16 (by decide) (hts (.fieldLink RX9 48 "OwnedPlaces$Text" "heads" "[I") (wm_c_addName0 10 rfl)) (fun _ h9 => h9) rfl dX9_addName_81 ?_
    refine lv_iload_n hx hb dX9_addName_84 rfl (lv_at hl 3 rfl) ?_
    refine lv_iload hx hb dX9_addName_85 (lv_at hl 1 rfl) ?_
    refine va_iast hx hb hK hP hD hS 1 0 rfl rfl (vp_in_nI hj (by decide)) dX9_addName_87 (fun H locs hP hD hS => ?_)
    have hP : va_P (dC, dI) vwCl [(h, .inr (9, [.ref tk, .ref tp, .ref tn, .ref tu, .ref tl, .int ln, .int now, .int ft, .int pl, .int (nI t), .ref tb, .int (nI tt), .ref ts, .ref tf, .ref tz, .ref tx, .ref th, .null])), (th, .inl (kI, 256, .inl (upd fh (nI j : Int32).toNatClampNeg (nI t)))), (tx, .inl (kI, 3020, .inl fx1)), (tf, .inl (kI, 3020, .inl ff1)), (tz, .inl (kI, 3020, .inl fz1)), (ts, .inl (kB, 3120, .inl fs1)), (src, .inl (kB, sl, .inl g))] H := hP
    have hD : va_D A [(h, .inr (9, [.ref tk, .ref tp, .ref tn, .ref tu, .ref tl, .int ln, .int now, .int ft, .int pl, .int (nI t), .ref tb, .int (nI tt), .ref ts, .ref tf, .ref tz, .ref tx, .ref th, .null])), (th, .inl (kI, 256, .inl (upd fh (nI j : Int32).toNatClampNeg (nI t)))), (tx, .inl (kI, 3020, .inl fx1)), (tf, .inl (kI, 3020, .inl ff1)), (tz, .inl (kI, 3020, .inl fz1)), (ts, .inl (kB, 3120, .inl fs1)), (src, .inl (kB, sl, .inl g))] := hD
    obtain ⟨fh1, efh1⟩ : ∃ zZ : Nat → Int32, zZ = upd fh (nI j : Int32).toNatClampNeg (nI t) := ⟨_, rfl⟩
    rw [← efh1] at hP hD
    refine lv_aload_n hx hb dX9_addName_88 rfl (lv_at hl 2 rfl) ?_
    refine lv_dup hx hb dX9_addName_89 rfl ?_
    refine va_get (D := (dC, dI)) (ci := 9) (v := .int (nI t)) (C := RX9) (T := TX9) (N := 18) hx hb hts in_c_addName0_X9 hown hK hP 0 rfl rfl 9 (by decide) (hts (.fieldLink RX9 89 "OwnedPlaces$Text" "nameTotal" "I") (wm_c_addName0 1 rfl)) (fun _ h9 => h9) rfl dX9_addName_90 ?_
    refine lv_iconst (v := 1) hx hb dX9_addName_93 (by decide) ?_
    refine lv_iadd hx hb dX9_addName_94 ?_
    refine lv_topi (fun f_7 ef_7 => ?_)
    obtain rfl : f_7 = nI (t + 1) := ef_7.trans (nI_1 t)
    refine va_put (D := (dC, dI)) (ci := 9) (v := .int (nI (t + 1))) (ty := .int) (C := RX9) (T := TX9) (N := 18) hx hb hts in_c_addName0_X9 tyX9 tyX9_ok nmX9 hown hK hP hD hS 0 rfl rfl 9 (by decide) (hts (.fieldLink RX9 89 "OwnedPlaces$Text" "nameTotal" "I") (wm_c_addName0 1 rfl)) (fun _ h9 => h9) rfl (by decide +kernel) rfl rfl (Nat.le_of_ble_eq_true rfl) dX9_addName_95 (fun H locs hP hD hS => ?_)
    have hP : va_P (dC, dI) vwCl [(h, .inr (9, [.ref tk, .ref tp, .ref tn, .ref tu, .ref tl, .int ln, .int now, .int ft, .int pl, .int (nI (t + 1)), .ref tb, .int (nI tt), .ref ts, .ref tf, .ref tz, .ref tx, .ref th, .null])), (th, .inl (kI, 256, .inl fh1)), (tx, .inl (kI, 3020, .inl fx1)), (tf, .inl (kI, 3020, .inl ff1)), (tz, .inl (kI, 3020, .inl fz1)), (ts, .inl (kB, 3120, .inl fs1)), (src, .inl (kB, sl, .inl g))] H := hP
    have hD : va_D A [(h, .inr (9, [.ref tk, .ref tp, .ref tn, .ref tu, .ref tl, .int ln, .int now, .int ft, .int pl, .int (nI (t + 1)), .ref tb, .int (nI tt), .ref ts, .ref tf, .ref tz, .ref tx, .ref th, .null])), (th, .inl (kI, 256, .inl fh1)), (tx, .inl (kI, 3020, .inl fx1)), (tf, .inl (kI, 3020, .inl ff1)), (tz, .inl (kI, 3020, .inl fz1)), (ts, .inl (kB, 3120, .inl fs1)), (src, .inl (kB, sl, .inl g))] := hD
    refine lv_iload hx hb dX9_addName_98 (lv_at hl 1 rfl) ?_
    have hP9 := hP.sub (ws' := [(h, .inr (9, [.ref tk, .ref tp, .ref tn, .ref tu, .ref tl, .int ln, .int now, .int ft, .int pl, .int (nI (t + 1)), .ref tb, .int (nI tt), .ref ts, .ref tf, .ref tz, .ref tx, .ref th, .null])), (th, .inl (kI, 256, .inl fh1)), (tx, .inl (kI, 3020, .inl fx1)), (tf, .inl (kI, 3020, .inl ff1)), (tz, .inl (kI, 3020, .inl fz1)), (ts, .inl (kB, 3120, .inl fs1)), (src, .inl (kB, sl, .inl g))]) [0, 1, 2, 3, 4, 5, 6] rfl
    have hD9 := hD.sub (ws' := [(h, .inr (9, [.ref tk, .ref tp, .ref tn, .ref tu, .ref tl, .int ln, .int now, .int ft, .int pl, .int (nI (t + 1)), .ref tb, .int (nI tt), .ref ts, .ref tf, .ref tz, .ref tx, .ref th, .null])), (th, .inl (kI, 256, .inl fh1)), (tx, .inl (kI, 3020, .inl fx1)), (tf, .inl (kI, 3020, .inl ff1)), (tz, .inl (kI, 3020, .inl fz1)), (ts, .inl (kB, 3120, .inl fs1)), (src, .inl (kB, sl, .inl g))]) [0, 1, 2, 3, 4, 5, 6] (by decide) rfl
    have hK9 := hK.sub (tys' := [(kI, .int), (kB, .byte)]) [0, 1] rfl
    exact W.iret (v := nI t) hx hb hr (fun tS ht hW => ⟨⟨(nI t), (), rfl, trivial, fh1, fx1, ff1, fz1, fs1, by rw [efh1]; exact lkT_put hh (Or.inr ⟨t, by omega, rfl⟩), by rw [efx1]; exact lkT_put hxx hv9, by rw [eff1, efz1]; exact nmI_put hI hst, by rw [ht]; exact hP9, va_K.moved hW.alike hK9, hD9⟩, hS.F ht⟩) hS.2.2 dX9_addName_100
  · have hst : 0 ≤ F := Nat.zero_le _
    refine lv_iconst (v := 0) hx hb dX9_addName_11 (by decide) ?_
    refine lv_goto (tgt := 34) hx hb dX9_addName_12 (by decide) ?_
    refine W.eq (g2 := F0 m 34 ls [.int (nI 0)]) rfl ?_
    refine lv_istore (lv' := [(6, .int (nI 0)), (5, .int (nI t)), (0, .ref h), (1, .int (nI j)), (2, .ref src), (3, .int (nI pf)), (4, .int (nI z))]) hx hb dX9_addName_34 hl (by decide) rfl (fun ls hl => ?_)
    refine lv_aload_n hx hb dX9_addName_36 rfl (lv_at hl 4 rfl) ?_
    refine lv_iload_n hx hb dX9_addName_37 rfl (lv_at hl 5 rfl) ?_
    refine lv_aload_n hx hb dX9_addName_38 rfl (lv_at hl 2 rfl) ?_
    refine va_get (D := (dC, dI)) (ci := 9) (v := .ref ts) (C := RX9) (T := TX9) (N := 18) hx hb hts in_c_addName0_X9 hown hK hP 0 rfl rfl 12 (by decide) (hts (.fieldLink RX9 36 "OwnedPlaces$Text" "spelled" "[B") (wm_c_addName0 4 rfl)) (fun _ h9 => h9) rfl dX9_addName_39 ?_
    refine lv_iload hx hb dX9_addName_42 (lv_at hl 0 rfl) ?_
    refine lv_iload hx hb dX9_addName_44 (lv_at hl 6 rfl) ?_
    refine va_copyi (ty := .byte) hx hb (by rw [hml]; exact hl.1.symm) hown (hts (.methodLink RX9 83 arraycopyName) (wm_c_addName0 5 rfl)) (hts (.native arraycopyName) (wm_c_addName0 6 rfl)) (hts (.static arraycopyName) (wm_c_addName0 7 rfl)) (hts (.initialized "java/lang/System") (wm_c_addName0 8 rfl)) hK hP hD hS 6 5 1 1 rfl rfl rfl rfl rfl (nI_pos (by omega)) (nI_pos (by omega)) (nI_pos (by omega)) (by rw [nI_clamp (by omega), nI_clamp (by omega)]; omega) (by rw [nI_clamp (by omega), nI_clamp (by omega)]; omega) (fun _ _ => hg _) (Nat.le_of_ble_eq_true rfl) (by decide) dX9_addName_46 (fun H locs hP hD hS => ?_)
    have hP : va_P (dC, dI) vwCl [(h, .inr (9, [.ref tk, .ref tp, .ref tn, .ref tu, .ref tl, .int ln, .int now, .int ft, .int pl, .int (nI t), .ref tb, .int (nI tt), .ref ts, .ref tf, .ref tz, .ref tx, .ref th, .null])), (th, .inl (kI, 256, .inl fh)), (tx, .inl (kI, 3020, .inl fx)), (tf, .inl (kI, 3020, .inl ff)), (tz, .inl (kI, 3020, .inl fz)), (ts, .inl (kB, 3120, .inl (va_cpy g fs (nI pf : Int32).toNatClampNeg (nI 0 : Int32).toNatClampNeg (nI z : Int32).toNatClampNeg))), (src, .inl (kB, sl, .inl g))] H := hP
    have hD : va_D A [(h, .inr (9, [.ref tk, .ref tp, .ref tn, .ref tu, .ref tl, .int ln, .int now, .int ft, .int pl, .int (nI t), .ref tb, .int (nI tt), .ref ts, .ref tf, .ref tz, .ref tx, .ref th, .null])), (th, .inl (kI, 256, .inl fh)), (tx, .inl (kI, 3020, .inl fx)), (tf, .inl (kI, 3020, .inl ff)), (tz, .inl (kI, 3020, .inl fz)), (ts, .inl (kB, 3120, .inl (va_cpy g fs (nI pf : Int32).toNatClampNeg (nI 0 : Int32).toNatClampNeg (nI z : Int32).toNatClampNeg))), (src, .inl (kB, sl, .inl g))] := hD
    obtain ⟨fs1, efs1⟩ : ∃ zZ : Nat → Int32, zZ = va_cpy g fs (nI pf : Int32).toNatClampNeg (nI 0 : Int32).toNatClampNeg (nI z : Int32).toNatClampNeg := ⟨_, rfl⟩
    rw [← efs1] at hP hD
    refine lv_aload_n hx hb dX9_addName_49 rfl (lv_at hl 2 rfl) ?_
    refine va_get (D := (dC, dI)) (ci := 9) (v := .ref tf) (C := RX9) (T := TX9) (N := 18) hx hb hts in_c_addName0_X9 hown hK hP 0 rfl rfl 13 (by decide) (hts (.fieldLink RX9 39 "OwnedPlaces$Text" "nameFrom" "[I") (wm_c_addName0 2 rfl)) (fun _ h9 => h9) rfl dX9_addName_50 ?_
    refine lv_iload hx hb dX9_addName_53 (lv_at hl 1 rfl) ?_
    refine lv_iload hx hb dX9_addName_55 (lv_at hl 0 rfl) ?_
    refine va_iast hx hb hK hP hD hS 3 0 rfl rfl (vp_in_nI (by omega) (by decide)) dX9_addName_57 (fun H locs hP hD hS => ?_)
    have hP : va_P (dC, dI) vwCl [(h, .inr (9, [.ref tk, .ref tp, .ref tn, .ref tu, .ref tl, .int ln, .int now, .int ft, .int pl, .int (nI t), .ref tb, .int (nI tt), .ref ts, .ref tf, .ref tz, .ref tx, .ref th, .null])), (th, .inl (kI, 256, .inl fh)), (tx, .inl (kI, 3020, .inl fx)), (tf, .inl (kI, 3020, .inl (upd ff (nI t : Int32).toNatClampNeg (nI 0)))), (tz, .inl (kI, 3020, .inl fz)), (ts, .inl (kB, 3120, .inl fs1)), (src, .inl (kB, sl, .inl g))] H := hP
    have hD : va_D A [(h, .inr (9, [.ref tk, .ref tp, .ref tn, .ref tu, .ref tl, .int ln, .int now, .int ft, .int pl, .int (nI t), .ref tb, .int (nI tt), .ref ts, .ref tf, .ref tz, .ref tx, .ref th, .null])), (th, .inl (kI, 256, .inl fh)), (tx, .inl (kI, 3020, .inl fx)), (tf, .inl (kI, 3020, .inl (upd ff (nI t : Int32).toNatClampNeg (nI 0)))), (tz, .inl (kI, 3020, .inl fz)), (ts, .inl (kB, 3120, .inl fs1)), (src, .inl (kB, sl, .inl g))] := hD
    obtain ⟨ff1, eff1⟩ : ∃ zZ : Nat → Int32, zZ = upd ff (nI t : Int32).toNatClampNeg (nI 0) := ⟨_, rfl⟩
    rw [← eff1] at hP hD
    refine lv_aload_n hx hb dX9_addName_58 rfl (lv_at hl 2 rfl) ?_
    refine va_get (D := (dC, dI)) (ci := 9) (v := .ref tz) (C := RX9) (T := TX9) (N := 18) hx hb hts in_c_addName0_X9 hown hK hP 0 rfl rfl 14 (by decide) (hts (.fieldLink RX9 42 "OwnedPlaces$Text" "nameSize" "[I") (wm_c_addName0 3 rfl)) (fun _ h9 => h9) rfl dX9_addName_59 ?_
    refine lv_iload hx hb dX9_addName_62 (lv_at hl 1 rfl) ?_
    refine lv_iload hx hb dX9_addName_64 (lv_at hl 6 rfl) ?_
    refine va_iast hx hb hK hP hD hS 4 0 rfl rfl (vp_in_nI (by omega) (by decide)) dX9_addName_66 (fun H locs hP hD hS => ?_)
    have hP : va_P (dC, dI) vwCl [(h, .inr (9, [.ref tk, .ref tp, .ref tn, .ref tu, .ref tl, .int ln, .int now, .int ft, .int pl, .int (nI t), .ref tb, .int (nI tt), .ref ts, .ref tf, .ref tz, .ref tx, .ref th, .null])), (th, .inl (kI, 256, .inl fh)), (tx, .inl (kI, 3020, .inl fx)), (tf, .inl (kI, 3020, .inl ff1)), (tz, .inl (kI, 3020, .inl (upd fz (nI t : Int32).toNatClampNeg (nI z)))), (ts, .inl (kB, 3120, .inl fs1)), (src, .inl (kB, sl, .inl g))] H := hP
    have hD : va_D A [(h, .inr (9, [.ref tk, .ref tp, .ref tn, .ref tu, .ref tl, .int ln, .int now, .int ft, .int pl, .int (nI t), .ref tb, .int (nI tt), .ref ts, .ref tf, .ref tz, .ref tx, .ref th, .null])), (th, .inl (kI, 256, .inl fh)), (tx, .inl (kI, 3020, .inl fx)), (tf, .inl (kI, 3020, .inl ff1)), (tz, .inl (kI, 3020, .inl (upd fz (nI t : Int32).toNatClampNeg (nI z)))), (ts, .inl (kB, 3120, .inl fs1)), (src, .inl (kB, sl, .inl g))] := hD
    obtain ⟨fz1, efz1⟩ : ∃ zZ : Nat → Int32, zZ = upd fz (nI t : Int32).toNatClampNeg (nI z) := ⟨_, rfl⟩
    rw [← efz1] at hP hD
    refine lv_aload_n hx hb dX9_addName_67 rfl (lv_at hl 2 rfl) ?_
    refine va_get (D := (dC, dI)) (ci := 9) (v := .ref tx) (C := RX9) (T := TX9) (N := 18) hx hb hts in_c_addName0_X9 hown hK hP 0 rfl rfl 15 (by decide) (hts (.fieldLink RX9 45 "OwnedPlaces$Text" "nameNext" "[I") (wm_c_addName0 9 rfl)) (fun _ h9 => h9) rfl dX9_addName_68 ?_
    refine lv_iload hx hb dX9_addName_71 (lv_at hl 1 rfl) ?_
    refine lv_aload_n hx hb dX9_addName_73 rfl (lv_at hl 2 rfl) ?_
    refine va_get (D := (dC, dI)) (ci := 9) (v := .ref th) (C := RX9) (T := TX9) (N := 18) hx hb hts in_c_addName0_X9 hown hK hP 0 rfl rfl 16 (by decide) (hts (.fieldLink RX9 48 "OwnedPlaces$Text" "heads" "[I") (wm_c_addName0 10 rfl)) (fun _ h9 => h9) rfl dX9_addName_74 ?_
    refine lv_iload_n hx hb dX9_addName_77 rfl (lv_at hl 3 rfl) ?_
    refine va_iald hx hb hK hP 1 0 rfl rfl (vp_in_nI hj (by decide)) dX9_addName_78 ?_
    refine lv_topi (fun v_1 ev_1 => ?_)
    have hv9 : v_1 < 0 ∨ ∃ k : Nat, k < 20 ∧ v_1 = nI k := by rw [ev_1, nI_clamp (by omega)]; exact hh j hj
    refine va_iast hx hb hK hP hD hS 2 0 rfl rfl (vp_in_nI (by omega) (by decide)) dX9_addName_79 (fun H locs hP hD hS => ?_)
    have hP : va_P (dC, dI) vwCl [(h, .inr (9, [.ref tk, .ref tp, .ref tn, .ref tu, .ref tl, .int ln, .int now, .int ft, .int pl, .int (nI t), .ref tb, .int (nI tt), .ref ts, .ref tf, .ref tz, .ref tx, .ref th, .null])), (th, .inl (kI, 256, .inl fh)), (tx, .inl (kI, 3020, .inl (upd fx (nI t : Int32).toNatClampNeg v_1))), (tf, .inl (kI, 3020, .inl ff1)), (tz, .inl (kI, 3020, .inl fz1)), (ts, .inl (kB, 3120, .inl fs1)), (src, .inl (kB, sl, .inl g))] H := hP
    have hD : va_D A [(h, .inr (9, [.ref tk, .ref tp, .ref tn, .ref tu, .ref tl, .int ln, .int now, .int ft, .int pl, .int (nI t), .ref tb, .int (nI tt), .ref ts, .ref tf, .ref tz, .ref tx, .ref th, .null])), (th, .inl (kI, 256, .inl fh)), (tx, .inl (kI, 3020, .inl (upd fx (nI t : Int32).toNatClampNeg v_1))), (tf, .inl (kI, 3020, .inl ff1)), (tz, .inl (kI, 3020, .inl fz1)), (ts, .inl (kB, 3120, .inl fs1)), (src, .inl (kB, sl, .inl g))] := hD
    obtain ⟨fx1, efx1⟩ : ∃ zZ : Nat → Int32, zZ = upd fx (nI t : Int32).toNatClampNeg v_1 := ⟨_, rfl⟩
    rw [← efx1] at hP hD
    refine lv_aload_n hx hb dX9_addName_80 rfl (lv_at hl 2 rfl) ?_
    refine va_get (D := (dC, dI)) (ci := 9) (v := .ref th) (C := RX9) (T := TX9) (N := 18) hx hb hts in_c_addName0_X9 hown hK hP 0 rfl rfl 16 (by decide) (hts (.fieldLink RX9 48 "OwnedPlaces$Text" "heads" "[I") (wm_c_addName0 10 rfl)) (fun _ h9 => h9) rfl dX9_addName_81 ?_
    refine lv_iload_n hx hb dX9_addName_84 rfl (lv_at hl 3 rfl) ?_
    refine lv_iload hx hb dX9_addName_85 (lv_at hl 1 rfl) ?_
    refine va_iast hx hb hK hP hD hS 1 0 rfl rfl (vp_in_nI hj (by decide)) dX9_addName_87 (fun H locs hP hD hS => ?_)
    have hP : va_P (dC, dI) vwCl [(h, .inr (9, [.ref tk, .ref tp, .ref tn, .ref tu, .ref tl, .int ln, .int now, .int ft, .int pl, .int (nI t), .ref tb, .int (nI tt), .ref ts, .ref tf, .ref tz, .ref tx, .ref th, .null])), (th, .inl (kI, 256, .inl (upd fh (nI j : Int32).toNatClampNeg (nI t)))), (tx, .inl (kI, 3020, .inl fx1)), (tf, .inl (kI, 3020, .inl ff1)), (tz, .inl (kI, 3020, .inl fz1)), (ts, .inl (kB, 3120, .inl fs1)), (src, .inl (kB, sl, .inl g))] H := hP
    have hD : va_D A [(h, .inr (9, [.ref tk, .ref tp, .ref tn, .ref tu, .ref tl, .int ln, .int now, .int ft, .int pl, .int (nI t), .ref tb, .int (nI tt), .ref ts, .ref tf, .ref tz, .ref tx, .ref th, .null])), (th, .inl (kI, 256, .inl (upd fh (nI j : Int32).toNatClampNeg (nI t)))), (tx, .inl (kI, 3020, .inl fx1)), (tf, .inl (kI, 3020, .inl ff1)), (tz, .inl (kI, 3020, .inl fz1)), (ts, .inl (kB, 3120, .inl fs1)), (src, .inl (kB, sl, .inl g))] := hD
    obtain ⟨fh1, efh1⟩ : ∃ zZ : Nat → Int32, zZ = upd fh (nI j : Int32).toNatClampNeg (nI t) := ⟨_, rfl⟩
    rw [← efh1] at hP hD
    refine lv_aload_n hx hb dX9_addName_88 rfl (lv_at hl 2 rfl) ?_
    refine lv_dup hx hb dX9_addName_89 rfl ?_
    refine va_get (D := (dC, dI)) (ci := 9) (v := .int (nI t)) (C := RX9) (T := TX9) (N := 18) hx hb hts in_c_addName0_X9 hown hK hP 0 rfl rfl 9 (by decide) (hts (.fieldLink RX9 89 "OwnedPlaces$Text" "nameTotal" "I") (wm_c_addName0 1 rfl)) (fun _ h9 => h9) rfl dX9_addName_90 ?_
    refine lv_iconst (v := 1) hx hb dX9_addName_93 (by decide) ?_
    refine lv_iadd hx hb dX9_addName_94 ?_
    refine lv_topi (fun f_2 ef_2 => ?_)
    obtain rfl : f_2 = nI (t + 1) := ef_2.trans (nI_1 t)
    refine va_put (D := (dC, dI)) (ci := 9) (v := .int (nI (t + 1))) (ty := .int) (C := RX9) (T := TX9) (N := 18) hx hb hts in_c_addName0_X9 tyX9 tyX9_ok nmX9 hown hK hP hD hS 0 rfl rfl 9 (by decide) (hts (.fieldLink RX9 89 "OwnedPlaces$Text" "nameTotal" "I") (wm_c_addName0 1 rfl)) (fun _ h9 => h9) rfl (by decide +kernel) rfl rfl (Nat.le_of_ble_eq_true rfl) dX9_addName_95 (fun H locs hP hD hS => ?_)
    have hP : va_P (dC, dI) vwCl [(h, .inr (9, [.ref tk, .ref tp, .ref tn, .ref tu, .ref tl, .int ln, .int now, .int ft, .int pl, .int (nI (t + 1)), .ref tb, .int (nI tt), .ref ts, .ref tf, .ref tz, .ref tx, .ref th, .null])), (th, .inl (kI, 256, .inl fh1)), (tx, .inl (kI, 3020, .inl fx1)), (tf, .inl (kI, 3020, .inl ff1)), (tz, .inl (kI, 3020, .inl fz1)), (ts, .inl (kB, 3120, .inl fs1)), (src, .inl (kB, sl, .inl g))] H := hP
    have hD : va_D A [(h, .inr (9, [.ref tk, .ref tp, .ref tn, .ref tu, .ref tl, .int ln, .int now, .int ft, .int pl, .int (nI (t + 1)), .ref tb, .int (nI tt), .ref ts, .ref tf, .ref tz, .ref tx, .ref th, .null])), (th, .inl (kI, 256, .inl fh1)), (tx, .inl (kI, 3020, .inl fx1)), (tf, .inl (kI, 3020, .inl ff1)), (tz, .inl (kI, 3020, .inl fz1)), (ts, .inl (kB, 3120, .inl fs1)), (src, .inl (kB, sl, .inl g))] := hD
    refine lv_iload hx hb dX9_addName_98 (lv_at hl 1 rfl) ?_
    have hP9 := hP.sub (ws' := [(h, .inr (9, [.ref tk, .ref tp, .ref tn, .ref tu, .ref tl, .int ln, .int now, .int ft, .int pl, .int (nI (t + 1)), .ref tb, .int (nI tt), .ref ts, .ref tf, .ref tz, .ref tx, .ref th, .null])), (th, .inl (kI, 256, .inl fh1)), (tx, .inl (kI, 3020, .inl fx1)), (tf, .inl (kI, 3020, .inl ff1)), (tz, .inl (kI, 3020, .inl fz1)), (ts, .inl (kB, 3120, .inl fs1)), (src, .inl (kB, sl, .inl g))]) [0, 1, 2, 3, 4, 5, 6] rfl
    have hD9 := hD.sub (ws' := [(h, .inr (9, [.ref tk, .ref tp, .ref tn, .ref tu, .ref tl, .int ln, .int now, .int ft, .int pl, .int (nI (t + 1)), .ref tb, .int (nI tt), .ref ts, .ref tf, .ref tz, .ref tx, .ref th, .null])), (th, .inl (kI, 256, .inl fh1)), (tx, .inl (kI, 3020, .inl fx1)), (tf, .inl (kI, 3020, .inl ff1)), (tz, .inl (kI, 3020, .inl fz1)), (ts, .inl (kB, 3120, .inl fs1)), (src, .inl (kB, sl, .inl g))]) [0, 1, 2, 3, 4, 5, 6] (by decide) rfl
    have hK9 := hK.sub (tys' := [(kI, .int), (kB, .byte)]) [0, 1] rfl
    exact W.iret (v := nI t) hx hb hr (fun tS ht hW => ⟨⟨(nI t), (), rfl, trivial, fh1, fx1, ff1, fz1, fs1, by rw [efh1]; exact lkT_put hh (Or.inr ⟨t, by omega, rfl⟩), by rw [efx1]; exact lkT_put hxx hv9, by rw [eff1, efz1]; exact nmI_put hI hst, by rw [ht]; exact hP9, va_K.moved hW.alike hK9, hD9⟩, hS.F ht⟩) hS.2.2 dX9_addName_100
def wf_c_nameOf0 : List Cond := [.code yX9_nameOf cX9_nameOf 8 (some .int), .fieldLink RX9 48 "OwnedPlaces$Text" "heads" "[I", .code yX9_addName cX9_addName 7 (some .int), .fieldLink RX9 89 "OwnedPlaces$Text" "nameTotal" "I", .fieldLink RX9 39 "OwnedPlaces$Text" "nameFrom" "[I", .fieldLink RX9 42 "OwnedPlaces$Text" "nameSize" "[I", .fieldLink RX9 36 "OwnedPlaces$Text" "spelled" "[B", .methodLink RX9 83 arraycopyName, .native arraycopyName, .static arraycopyName, .initialized "java/lang/System", .fieldLink RX9 45 "OwnedPlaces$Text" "nameNext" "[I", .methodLink RX9 158 yX9_addName, .instanceMethod yX9_addName, .selects RX9 yX9_addName yX9_addName, .initialized RX9, .code yX9_isSpelled cX9_isSpelled 6 (some .boolean), .methodLink RX9 154 yX9_isSpelled, .instanceMethod yX9_isSpelled, .selects RX9 yX9_isSpelled yX9_isSpelled]
def wp_c_nameOf0 : List Cond := wf_c_nameOf0 ++ (wsX90 ++ [])
theorem in_c_nameOf0_X9 : ∀ w ∈ wsX90, w ∈ wp_c_nameOf0 := fun w h => List.mem_append_right _ (List.mem_append_left _ h)
theorem wg_c_nameOf0 : wf_c_nameOf0.all goodWord = true := by decide +kernel
theorem wm_c_nameOf0 (k : Nat) {w : Cond} (h : wp_c_nameOf0[k]? = some w) : w ∈ wp_c_nameOf0 := List.mem_of_getElem? h
set_option maxRecDepth 20000 in
theorem g_c_nameOf0_c_addName0_101 : GoodIn wp_c_nameOf0 (wsV RX9 158 RX9 yX9_addName wp_c_addName0) := goodIn_app (goodIn_f [.methodLink RX9 158 yX9_addName, .instanceMethod yX9_addName, .selects RX9 yX9_addName yX9_addName, .initialized RX9] [12, 13, 14, 15] rfl (by decide +kernel)) (goodIn_app (goodIn_f (wf_c_addName0) [2, 3, 4, 5, 6, 7, 8, 9, 10, 11, 1] rfl wg_c_addName0) (goodIn_app (goodIn_sub in_c_nameOf0_X9 gd_X9) (goodIn_n)))
set_option maxRecDepth 20000 in
theorem g_c_nameOf0_c_spelled0_71 : GoodIn wp_c_nameOf0 (wsV RX9 154 RX9 yX9_isSpelled wp_c_spelled0) := goodIn_app (goodIn_f [.methodLink RX9 154 yX9_isSpelled, .instanceMethod yX9_isSpelled, .selects RX9 yX9_isSpelled yX9_isSpelled, .initialized RX9] [17, 18, 19, 15] rfl (by decide +kernel)) (goodIn_app (goodIn_f (wf_c_spelled0) [16, 5, 6, 4] rfl wg_c_spelled0) (goodIn_app (goodIn_sub in_c_nameOf0_X9 gd_X9) (goodIn_n)))
set_option maxHeartbeats 4000000 in
set_option maxRecDepth 100000 in
theorem c_nameOf0 (l : Launch) (dC : Nat → ClassId) (dI : Nat → Nat → Nat) (h tk tp tn tu tl tb ts tf tz tx th tw src : Nat) (kI kB : ClassId) (ln now ft pl : Int32) (tt : Nat) (t pf z sl F : Nat) (fh fx ff fz fs g : Nat → Int32) (sz : Nat) (ht : t < 20) (hpz : pf + z ≤ sl) (hsl : sl < 2 ^ 30) (hF : F + z ≤ 3120) (hI : nmI F ff fz) (hh : lkT fh 256 20) (hxx : lkT fx 20 20) (hg : ∀ j, fits .byte (.int (g j)) = true) : Met l yX9_nameOf wp_c_nameOf0 ({ frames := 2, cells := 0, slots := 0, locals := 90 }) (va_Pc [.ref h, .ref src, .int (nI pf), .int (nI z)] (fun U => U.heap.size = sz ∧ va_P (dC, dI) vwCl [(h, .inr (9, [.ref tk, .ref tp, .ref tn, .ref tu, .ref tl, .int ln, .int now, .int ft, .int pl, .int (nI t), .ref tb, .int (nI tt), .ref ts, .ref tf, .ref tz, .ref tx, .ref th, .null])), (th, .inl (kI, 256, .inl fh)), (tx, .inl (kI, 3020, .inl fx)), (tf, .inl (kI, 3020, .inl ff)), (tz, .inl (kI, 3020, .inl fz)), (ts, .inl (kB, 3120, .inl fs)), (src, .inl (kB, sl, .inl g))] U.heap ∧ va_K (dC, dI) vwCl [(kI, .int), (kB, .byte)] U ∧ va_D (fun _ => True) [(h, .inr (9, [.ref tk, .ref tp, .ref tn, .ref tu, .ref tl, .int ln, .int now, .int ft, .int pl, .int (nI t), .ref tb, .int (nI tt), .ref ts, .ref tf, .ref tz, .ref tx, .ref th, .null])), (th, .inl (kI, 256, .inl fh)), (tx, .inl (kI, 3020, .inl fx)), (tf, .inl (kI, 3020, .inl ff)), (tz, .inl (kI, 3020, .inl fz)), (ts, .inl (kB, 3120, .inl fs)), (src, .inl (kB, sl, .inl g))])) (va_Qi (fun (_ : Int32) (_ : Unit) => True) (fun (_ : Unit) (tS : State) => ∃ (fh2 : Nat → Int32) (fx2 : Nat → Int32) (ff2 : Nat → Int32) (fz2 : Nat → Int32) (fs2 : Nat → Int32) (t2 : Nat), (lkT fh2 256 20) ∧ (lkT fx2 20 20) ∧ (nmI (F + z) ff2 fz2) ∧ (t2 ≤ t + 1) ∧ va_P (dC, dI) vwCl [(h, .inr (9, [.ref tk, .ref tp, .ref tn, .ref tu, .ref tl, .int ln, .int now, .int ft, .int pl, .int (nI t2), .ref tb, .int (nI tt), .ref ts, .ref tf, .ref tz, .ref tx, .ref th, .null])), (th, .inl (kI, 256, .inl fh2)), (tx, .inl (kI, 3020, .inl fx2)), (tf, .inl (kI, 3020, .inl ff2)), (tz, .inl (kI, 3020, .inl fz2)), (ts, .inl (kB, 3120, .inl fs2)), (src, .inl (kB, sl, .inl g))] tS.heap ∧ va_K (dC, dI) vwCl [(kI, .int), (kB, .byte)] tS ∧ va_D (va_A [(h, .inr (9, [.ref tk, .ref tp, .ref tn, .ref tu, .ref tl, .int ln, .int now, .int ft, .int pl, .int (nI t), .ref tb, .int (nI tt), .ref ts, .ref tf, .ref tz, .ref tx, .ref th, .null])), (th, .inl (kI, 256, .inl fh)), (tx, .inl (kI, 3020, .inl fx)), (tf, .inl (kI, 3020, .inl ff)), (tz, .inl (kI, 3020, .inl fz)), (ts, .inl (kB, 3120, .inl fs)), (src, .inl (kB, sl, .inl g))] sz) [(h, .inr (9, [.ref tk, .ref tp, .ref tn, .ref tu, .ref tl, .int ln, .int now, .int ft, .int pl, .int (nI t2), .ref tb, .int (nI tt), .ref ts, .ref tf, .ref tz, .ref tx, .ref th, .null])), (th, .inl (kI, 256, .inl fh2)), (tx, .inl (kI, 3020, .inl fx2)), (tf, .inl (kI, 3020, .inl ff2)), (tz, .inl (kI, 3020, .inl fz2)), (ts, .inl (kB, 3120, .inl fs2)), (src, .inl (kB, sl, .inl g))]) (va_A [(h, .inr (9, [.ref tk, .ref tp, .ref tn, .ref tu, .ref tl, .int ln, .int now, .int ft, .int pl, .int (nI t), .ref tb, .int (nI tt), .ref ts, .ref tf, .ref tz, .ref tx, .ref th, .null])), (th, .inl (kI, 256, .inl fh)), (tx, .inl (kI, 3020, .inl fx)), (tf, .inl (kI, 3020, .inl ff)), (tz, .inl (kI, 3020, .inl fz)), (ts, .inl (kB, 3120, .inl fs)), (src, .inl (kB, sl, .inl g))] sz)) 0 0 (va_A [(h, .inr (9, [.ref tk, .ref tp, .ref tn, .ref tu, .ref tl, .int ln, .int now, .int ft, .int pl, .int (nI t), .ref tb, .int (nI tt), .ref ts, .ref tf, .ref tz, .ref tx, .ref th, .null])), (th, .inl (kI, 256, .inl fh)), (tx, .inl (kI, 3020, .inl fx)), (tf, .inl (kI, 3020, .inl ff)), (tz, .inl (kI, 3020, .inl fz)), (ts, .inl (kB, 3120, .inl fs)), (src, .inl (kB, sl, .inl g))] sz) := by
  refine Met.ofW (cc := cX9_nameOf) (maxL := 8) (ret := (some .int)) (by decide) rfl ?_
  intro p e s m args below meth c s₁ B hml hv
  obtain ⟨rfl, hsz, hP, hK, hD0⟩ := hv
  have hx := B.exec
  have hb := B.bytes
  have hr := B.returns
  have hts := atoms_spec (ws := wp_c_nameOf0) B.pre
  have hown : s.vm.findClass RX9 = some m.cls := findClass_of_methodNamed B.named
  have hlocks := B.notSynchronized
  subst hsz
  have hD := hD0.self (sz := s.heap.size)
  generalize hAe : va_A [(h, .inr (9, [.ref tk, .ref tp, .ref tn, .ref tu, .ref tl, .int ln, .int now, .int ft, .int pl, .int (nI t), .ref tb, .int (nI tt), .ref ts, .ref tf, .ref tz, .ref tx, .ref th, .null])), (th, .inl (kI, 256, .inl fh)), (tx, .inl (kI, 3020, .inl fx)), (tf, .inl (kI, 3020, .inl ff)), (tz, .inl (kI, 3020, .inl fz)), (ts, .inl (kB, 3120, .inl fs)), (src, .inl (kB, sl, .inl g))] s.heap.size = A at hD ⊢
  have hA : ∀ q : Nat, s.heap.size ≤ q → A q := fun q h => by rw [← hAe]; exact Or.inr h
  have hS : va_S A s.heap s.heap [] := va_S.rf
  have hP : va_P (dC, dI) vwCl [(h, .inr (9, [.ref tk, .ref tp, .ref tn, .ref tu, .ref tl, .int ln, .int now, .int ft, .int pl, .int (nI t), .ref tb, .int (nI tt), .ref ts, .ref tf, .ref tz, .ref tx, .ref th, .null])), (th, .inl (kI, 256, .inl fh)), (tx, .inl (kI, 3020, .inl fx)), (tf, .inl (kI, 3020, .inl ff)), (tz, .inl (kI, 3020, .inl fz)), (ts, .inl (kB, 3120, .inl fs)), (src, .inl (kB, sl, .inl g))] s.heap := hP
  have hl := lv_entry ([.ref h, .ref src, .int (nI pf), .int (nI z)]) (n := 8) (Nat.le_of_ble_eq_true rfl)
  rw [lg_entry_eq]
  generalize (lg_sl ([.ref h, .ref src, .int (nI pf), .int (nI z)]) ++ List.replicate (8 - (lg_sl ([.ref h, .ref src, .int (nI pf), .int (nI z)])).length) Slot.unset).toArray = ls at hl ⊢
  have hl : lv_has ls 8 [(0, .ref h), (1, .ref src), (2, .int (nI pf)), (3, .int (nI z))] := hl
  refine lv_iload_n hx hb dX9_nameOf_0 rfl (lv_at hl 3 rfl) ?_
  refine lv_istore (lv' := [(4, .int (nI z)), (0, .ref h), (1, .ref src), (2, .int (nI pf)), (3, .int (nI z))]) hx hb dX9_nameOf_1 hl (by decide) rfl (fun ls hl => ?_)
  refine lv_iload_n hx hb dX9_nameOf_3 rfl (lv_at hl 3 rfl) ?_
  refine lv_istore (lv' := [(5, .int (nI pf)), (4, .int (nI z)), (0, .ref h), (1, .ref src), (2, .int (nI pf)), (3, .int (nI z))]) hx hb dX9_nameOf_4 hl (by decide) rfl (fun ls hl => ?_)
  refine W_q (fun Q1 hQ1 => ?_)
  have key1 : ∀ (n1 : Nat) (i : Nat) (hs : Int32) (H : Heap) (locs : List Loc) (ls : Array Slot), (i + n1 = pf + z + 1 ∧ i ≤ pf + z) → (pf ≤ i) → va_P (dC, dI) vwCl [(h, .inr (9, [.ref tk, .ref tp, .ref tn, .ref tu, .ref tl, .int ln, .int now, .int ft, .int pl, .int (nI t), .ref tb, .int (nI tt), .ref ts, .ref tf, .ref tz, .ref tx, .ref th, .null])), (th, .inl (kI, 256, .inl fh)), (tx, .inl (kI, 3020, .inl fx)), (tf, .inl (kI, 3020, .inl ff)), (tz, .inl (kI, 3020, .inl fz)), (ts, .inl (kB, 3120, .inl fs)), (src, .inl (kB, sl, .inl g))] H → va_D A [(h, .inr (9, [.ref tk, .ref tp, .ref tn, .ref tu, .ref tl, .int ln, .int now, .int ft, .int pl, .int (nI t), .ref tb, .int (nI tt), .ref ts, .ref tf, .ref tz, .ref tx, .ref th, .null])), (th, .inl (kI, 256, .inl fh)), (tx, .inl (kI, 3020, .inl fx)), (tf, .inl (kI, 3020, .inl ff)), (tz, .inl (kI, 3020, .inl fz)), (ts, .inl (kB, 3120, .inl fs)), (src, .inl (kB, sl, .inl g))] → va_S A s.heap H locs → lv_has ls 8 [(5, .int (nI i)), (4, .int hs), (0, .ref h), (1, .ref src), (2, .int (nI pf)), (3, .int (nI z))] → W p l e (headSpec wp_c_nameOf0 ({ frames := 2, cells := 0, slots := 0, locals := 90 })).room s m ([.ref h, .ref src, .int (nI pf), .int (nI z)] : List Value).toArray below meth c H locs 0 0 Q1 (F0 m 6 ls []) := by
    intro n1
    induction n1 with
    | zero => intro i hs H locs ls hb0 hb1; exact absurd hb0 (by omega)
    | succ n1 ih1 =>
      intro i hs H locs ls hb0 hb1 hP hD hS hl
      refine lv_iload hx hb dX9_nameOf_6 (lv_at hl 0 rfl) ?_
      refine lv_iload_n hx hb dX9_nameOf_8 rfl (lv_at hl 4 rfl) ?_
      refine lv_iload_n hx hb dX9_nameOf_9 rfl (lv_at hl 5 rfl) ?_
      refine lv_iadd hx hb dX9_nameOf_10 ?_
      refine lv_topi (fun f_1 ef_1 => ?_)
      obtain rfl : f_1 = nI (pf + z) := ef_1.trans (nI_add _ _)
      refine lv_icmp_ge (tgt := 32) hx hb dX9_nameOf_11 (by decide) (fun hc => ?_) (fun hc => ?_)
      · refine lv_iload hx hb dX9_nameOf_32 (lv_at hl 1 rfl) ?_
        refine lv_sipush (v := 255) hx hb dX9_nameOf_34 (by decide) ?_
        refine lv_iand hx hb dX9_nameOf_37 ?_
        refine lv_topi (fun f_2 ef_2 => ?_)
        obtain ⟨j, hj, hj2⟩ : ∃ j : Nat, j < 2 ^ 8 ∧ f_2 = nI j := by rw [ef_2]; exact pk_andE _ 8 (by decide)
        obtain rfl : f_2 = nI j := hj2
        have hj : j < 256 := hj
        refine lv_istore (lv' := [(5, .int (nI j)), (4, .int hs), (0, .ref h), (1, .ref src), (2, .int (nI pf)), (3, .int (nI z))]) hx hb dX9_nameOf_38 hl (by decide) rfl (fun ls hl => ?_)
        refine lv_aload_n hx hb dX9_nameOf_40 rfl (lv_at hl 2 rfl) ?_
        refine va_get (D := (dC, dI)) (ci := 9) (v := .ref th) (C := RX9) (T := TX9) (N := 18) hx hb hts in_c_nameOf0_X9 hown hK hP 0 rfl rfl 16 (by decide) (hts (.fieldLink RX9 48 "OwnedPlaces$Text" "heads" "[I") (wm_c_nameOf0 1 rfl)) (fun _ h9 => h9) rfl dX9_nameOf_41 ?_
        refine lv_iload hx hb dX9_nameOf_44 (lv_at hl 0 rfl) ?_
        refine va_iald hx hb hK hP 1 0 rfl rfl (vp_in_nI hj (by decide)) dX9_nameOf_46 ?_
        refine lv_topi (fun v_3 ev_3 => ?_)
        have hv9 : v_3 < 0 ∨ ∃ k : Nat, k < 20 ∧ v_3 = nI k := by rw [ev_3, nI_clamp (by omega)]; exact hh j hj
        refine lv_istore (lv' := [(6, .int v_3), (5, .int (nI j)), (4, .int hs), (0, .ref h), (1, .ref src), (2, .int (nI pf)), (3, .int (nI z))]) hx hb dX9_nameOf_47 hl (by decide) rfl (fun ls hl => ?_)
        refine lv_iconst (v := 0) hx hb dX9_nameOf_49 (by decide) ?_
        refine lv_istore (lv' := [(7, .int 0), (6, .int v_3), (5, .int (nI j)), (4, .int hs), (0, .ref h), (1, .ref src), (2, .int (nI pf)), (3, .int (nI z))]) hx hb dX9_nameOf_50 hl (by decide) rfl (fun ls hl => ?_)
        refine W_q (fun Q2 hQ2 => ?_)
        have key2 : ∀ (n2 : Nat) (q : Nat) (na : Int32) (H : Heap) (locs : List Loc) (ls : Array Slot), (q + n2 = 3021 ∧ q ≤ 3020) → (na < 0 ∨ ∃ k : Nat, k < 20 ∧ na = nI k) → va_P (dC, dI) vwCl [(h, .inr (9, [.ref tk, .ref tp, .ref tn, .ref tu, .ref tl, .int ln, .int now, .int ft, .int pl, .int (nI t), .ref tb, .int (nI tt), .ref ts, .ref tf, .ref tz, .ref tx, .ref th, .null])), (th, .inl (kI, 256, .inl fh)), (tx, .inl (kI, 3020, .inl fx)), (tf, .inl (kI, 3020, .inl ff)), (tz, .inl (kI, 3020, .inl fz)), (ts, .inl (kB, 3120, .inl fs)), (src, .inl (kB, sl, .inl g))] H → va_D A [(h, .inr (9, [.ref tk, .ref tp, .ref tn, .ref tu, .ref tl, .int ln, .int now, .int ft, .int pl, .int (nI t), .ref tb, .int (nI tt), .ref ts, .ref tf, .ref tz, .ref tx, .ref th, .null])), (th, .inl (kI, 256, .inl fh)), (tx, .inl (kI, 3020, .inl fx)), (tf, .inl (kI, 3020, .inl ff)), (tz, .inl (kI, 3020, .inl fz)), (ts, .inl (kB, 3120, .inl fs)), (src, .inl (kB, sl, .inl g))] → va_S A s.heap H locs → lv_has ls 8 [(7, .int (nI q)), (6, .int na), (5, .int (nI j)), (0, .ref h), (1, .ref src), (2, .int (nI pf)), (3, .int (nI z))] → W p l e (headSpec wp_c_nameOf0 ({ frames := 2, cells := 0, slots := 0, locals := 90 })).room s m ([.ref h, .ref src, .int (nI pf), .int (nI z)] : List Value).toArray below meth c H locs 0 0 Q2 (F0 m 52 ls []) := by
          intro n2
          induction n2 with
          | zero => intro q na H locs ls hc0 hc1; exact absurd hc0 (by omega)
          | succ n2 ih2 =>
            intro q na H locs ls hc0 hc1 hP hD hS hl
            refine lv_iload hx hb dX9_nameOf_52 (lv_at hl 0 rfl) ?_
            refine lv_sipush (v := 3020) hx hb dX9_nameOf_54 (by decide) ?_
            refine lv_icmp_ge (tgt := 95) hx hb dX9_nameOf_57 (by decide) (fun hd => ?_) (fun hd => ?_)
            · refine lv_aload_n hx hb dX9_nameOf_95 rfl (lv_at hl 3 rfl) ?_
              refine lv_iload hx hb dX9_nameOf_96 (lv_at hl 2 rfl) ?_
              refine lv_aload_n hx hb dX9_nameOf_98 rfl (lv_at hl 4 rfl) ?_
              refine lv_iload_n hx hb dX9_nameOf_99 rfl (lv_at hl 5 rfl) ?_
              refine lv_iload_n hx hb dX9_nameOf_100 rfl (lv_at hl 6 rfl) ?_
              have hPc := hP.sub (ws' := [(h, .inr (9, [.ref tk, .ref tp, .ref tn, .ref tu, .ref tl, .int ln, .int now, .int ft, .int pl, .int (nI t), .ref tb, .int (nI tt), .ref ts, .ref tf, .ref tz, .ref tx, .ref th, .null])), (th, .inl (kI, 256, .inl fh)), (tx, .inl (kI, 3020, .inl fx)), (tf, .inl (kI, 3020, .inl ff)), (tz, .inl (kI, 3020, .inl fz)), (ts, .inl (kB, 3120, .inl fs)), (src, .inl (kB, sl, .inl g))]) [0, 1, 2, 3, 4, 5, 6] rfl
              have hDc := hD.sub (ws' := [(h, .inr (9, [.ref tk, .ref tp, .ref tn, .ref tu, .ref tl, .int ln, .int now, .int ft, .int pl, .int (nI t), .ref tb, .int (nI tt), .ref ts, .ref tf, .ref tz, .ref tx, .ref th, .null])), (th, .inl (kI, 256, .inl fh)), (tx, .inl (kI, 3020, .inl fx)), (tf, .inl (kI, 3020, .inl ff)), (tz, .inl (kI, 3020, .inl fz)), (ts, .inl (kB, 3120, .inl fs)), (src, .inl (kB, sl, .inl g))]) [0, 1, 2, 3, 4, 5, 6] (by decide) rfl
              have hKc := hK.sub (tys' := [(kI, .int), (kB, .byte)]) [0, 1] rfl
              have hFc := va_free (wc := [(h, .inr (9, [.ref tk, .ref tp, .ref tn, .ref tu, .ref tl, .int ln, .int now, .int ft, .int pl, .int (nI t), .ref tb, .int (nI tt), .ref ts, .ref tf, .ref tz, .ref tx, .ref th, .null])), (th, .inl (kI, 256, .inl fh)), (tx, .inl (kI, 3020, .inl fx)), (tf, .inl (kI, 3020, .inl ff)), (tz, .inl (kI, 3020, .inl fz)), (ts, .inl (kB, 3120, .inl fs)), (src, .inl (kB, sl, .inl g))]) hD hS hA [0, 1, 2, 3, 4, 5, 6] rfl
              refine va_calli (va_runV (As := [.int (nI j), .ref src, .int (nI pf), .int (nI z)]) (rest := []) ⟨hx, hb, hml, hown, hts⟩ (c_addName0 l dC dI h tk tp tn tu tl tb ts tf tz tx th tw src kI kB ln now ft pl tt t j pf z sl F fh fx ff fz fs g H.size hj ht hpz hsl hF hI hh hxx hg) (cwV 4 hts g_c_nameOf0_c_addName0_101 rfl rfl rfl (by decide +kernel) ⟨Nat.le_of_ble_eq_true rfl, Nat.le_of_ble_eq_true rfl⟩) ⟨fun a U g mk q => by obtain ⟨q0, q1, qP, qK, qD⟩ := q; exact ⟨q0, q1, qP, va_K.moved (u := U) (U := U.calling g mk a) (Vm.Alike.refl U.vm) qK, qD⟩, va_recv hKc hPc (ci := 9) (q0 := 0) rfl rfl, fun U hU hW => ⟨rfl, by rw [hU], by rw [hU]; exact hPc, va_K.moved hW.alike hKc, hDc.weaken (fun _ _ _ _ => trivial)⟩⟩ rfl rfl hl.1 rfl (lv_room (Nat.le_of_ble_eq_true rfl)) dX9_nameOf_101 ⟨(show 0 + 0 ≤ 0 by omega), (show 0 + 0 ≤ 0 by omega)⟩) hS (fun q _ h => hFc q h) hFc (fun r_4 u tS H1 locs ht hvm hw hB hz1 hk1 hS => ?_)
              obtain ⟨gh, gx, gf, gz, gs, hf4_0, hf4_1, hf4_2, hP1, hK1, hD1⟩ := hB
              rw [ht] at hP1
              have hK1 := va_K.moved hvm.symm hK1
              obtain ⟨hP, hD⟩ := va_join (wr := []) (w1 := [(h, .inr (9, [.ref tk, .ref tp, .ref tn, .ref tu, .ref tl, .int ln, .int now, .int ft, .int pl, .int (nI (t + 1)), .ref tb, .int (nI tt), .ref ts, .ref tf, .ref tz, .ref tx, .ref th, .null])), (th, .inl (kI, 256, .inl gh)), (tx, .inl (kI, 3020, .inl gx)), (tf, .inl (kI, 3020, .inl gf)), (tz, .inl (kI, 3020, .inl gz)), (ts, .inl (kB, 3120, .inl gs)), (src, .inl (kB, sl, .inl g))]) hP hD [0, 1, 2, 3, 4, 5, 6] [] rfl rfl (by decide) (by decide) hk1 hFc hP1 hD1
              have hK := hK.app hK1
              generalize H1 = H at hP hS ⊢
              have hP : va_P (dC, dI) vwCl [(h, .inr (9, [.ref tk, .ref tp, .ref tn, .ref tu, .ref tl, .int ln, .int now, .int ft, .int pl, .int (nI (t + 1)), .ref tb, .int (nI tt), .ref ts, .ref tf, .ref tz, .ref tx, .ref th, .null])), (th, .inl (kI, 256, .inl gh)), (tx, .inl (kI, 3020, .inl gx)), (tf, .inl (kI, 3020, .inl gf)), (tz, .inl (kI, 3020, .inl gz)), (ts, .inl (kB, 3120, .inl gs)), (src, .inl (kB, sl, .inl g))] H := hP
              have hD : va_D A [(h, .inr (9, [.ref tk, .ref tp, .ref tn, .ref tu, .ref tl, .int ln, .int now, .int ft, .int pl, .int (nI (t + 1)), .ref tb, .int (nI tt), .ref ts, .ref tf, .ref tz, .ref tx, .ref th, .null])), (th, .inl (kI, 256, .inl gh)), (tx, .inl (kI, 3020, .inl gx)), (tf, .inl (kI, 3020, .inl gf)), (tz, .inl (kI, 3020, .inl gz)), (ts, .inl (kB, 3120, .inl gs)), (src, .inl (kB, sl, .inl g))] := hD
              have hK : va_K (dC, dI) vwCl [(kI, .int), (kB, .byte), (kI, .int), (kB, .byte)] s := hK
              have hK := hK.sub (tys' := [(kI, .int), (kB, .byte)]) [0, 1] rfl
              have hP : va_P (dC, dI) vwCl [(h, .inr (9, [.ref tk, .ref tp, .ref tn, .ref tu, .ref tl, .int ln, .int now, .int ft, .int pl, .int (nI (t + 1)), .ref tb, .int (nI tt), .ref ts, .ref tf, .ref tz, .ref tx, .ref th, .null])), (th, .inl (kI, 256, .inl gh)), (tx, .inl (kI, 3020, .inl gx)), (tf, .inl (kI, 3020, .inl gf)), (tz, .inl (kI, 3020, .inl gz)), (ts, .inl (kB, 3120, .inl gs)), (src, .inl (kB, sl, .inl g))] H := hP
              have hD : va_D A [(h, .inr (9, [.ref tk, .ref tp, .ref tn, .ref tu, .ref tl, .int ln, .int now, .int ft, .int pl, .int (nI (t + 1)), .ref tb, .int (nI tt), .ref ts, .ref tf, .ref tz, .ref tx, .ref th, .null])), (th, .inl (kI, 256, .inl gh)), (tx, .inl (kI, 3020, .inl gx)), (tf, .inl (kI, 3020, .inl gf)), (tz, .inl (kI, 3020, .inl gz)), (ts, .inl (kB, 3120, .inl gs)), (src, .inl (kB, sl, .inl g))] := hD
              have hP9 := hP.sub (ws' := [(h, .inr (9, [.ref tk, .ref tp, .ref tn, .ref tu, .ref tl, .int ln, .int now, .int ft, .int pl, .int (nI (t + 1)), .ref tb, .int (nI tt), .ref ts, .ref tf, .ref tz, .ref tx, .ref th, .null])), (th, .inl (kI, 256, .inl gh)), (tx, .inl (kI, 3020, .inl gx)), (tf, .inl (kI, 3020, .inl gf)), (tz, .inl (kI, 3020, .inl gz)), (ts, .inl (kB, 3120, .inl gs)), (src, .inl (kB, sl, .inl g))]) [0, 1, 2, 3, 4, 5, 6] rfl
              have hD9 := hD.sub (ws' := [(h, .inr (9, [.ref tk, .ref tp, .ref tn, .ref tu, .ref tl, .int ln, .int now, .int ft, .int pl, .int (nI (t + 1)), .ref tb, .int (nI tt), .ref ts, .ref tf, .ref tz, .ref tx, .ref th, .null])), (th, .inl (kI, 256, .inl gh)), (tx, .inl (kI, 3020, .inl gx)), (tf, .inl (kI, 3020, .inl gf)), (tz, .inl (kI, 3020, .inl gz)), (ts, .inl (kB, 3120, .inl gs)), (src, .inl (kB, sl, .inl g))]) [0, 1, 2, 3, 4, 5, 6] (by decide) rfl
              have hK9 := hK.sub (tys' := [(kI, .int), (kB, .byte)]) [0, 1] rfl
              subst hQ2
              subst hQ1
              exact W.iret (v := r_4) hx hb hr (fun tS ht hW => ⟨⟨r_4, (), rfl, trivial, gh, gx, gf, gz, gs, t + 1, hf4_0, hf4_1, hf4_2, by omega, by rw [ht]; exact hP9, va_K.moved hW.alike hK9, hD9⟩, hS.F ht⟩) hS.2.2 dX9_nameOf_104
            · refine lv_iload hx hb dX9_nameOf_60 (lv_at hl 1 rfl) ?_
              refine lv_if_lt (tgt := 95) hx hb dX9_nameOf_62 (by decide) (fun he => ?_) (fun he => ?_)
              · refine lv_aload_n hx hb dX9_nameOf_95 rfl (lv_at hl 3 rfl) ?_
                refine lv_iload hx hb dX9_nameOf_96 (lv_at hl 2 rfl) ?_
                refine lv_aload_n hx hb dX9_nameOf_98 rfl (lv_at hl 4 rfl) ?_
                refine lv_iload_n hx hb dX9_nameOf_99 rfl (lv_at hl 5 rfl) ?_
                refine lv_iload_n hx hb dX9_nameOf_100 rfl (lv_at hl 6 rfl) ?_
                have hPc := hP.sub (ws' := [(h, .inr (9, [.ref tk, .ref tp, .ref tn, .ref tu, .ref tl, .int ln, .int now, .int ft, .int pl, .int (nI t), .ref tb, .int (nI tt), .ref ts, .ref tf, .ref tz, .ref tx, .ref th, .null])), (th, .inl (kI, 256, .inl fh)), (tx, .inl (kI, 3020, .inl fx)), (tf, .inl (kI, 3020, .inl ff)), (tz, .inl (kI, 3020, .inl fz)), (ts, .inl (kB, 3120, .inl fs)), (src, .inl (kB, sl, .inl g))]) [0, 1, 2, 3, 4, 5, 6] rfl
                have hDc := hD.sub (ws' := [(h, .inr (9, [.ref tk, .ref tp, .ref tn, .ref tu, .ref tl, .int ln, .int now, .int ft, .int pl, .int (nI t), .ref tb, .int (nI tt), .ref ts, .ref tf, .ref tz, .ref tx, .ref th, .null])), (th, .inl (kI, 256, .inl fh)), (tx, .inl (kI, 3020, .inl fx)), (tf, .inl (kI, 3020, .inl ff)), (tz, .inl (kI, 3020, .inl fz)), (ts, .inl (kB, 3120, .inl fs)), (src, .inl (kB, sl, .inl g))]) [0, 1, 2, 3, 4, 5, 6] (by decide) rfl
                have hKc := hK.sub (tys' := [(kI, .int), (kB, .byte)]) [0, 1] rfl
                have hFc := va_free (wc := [(h, .inr (9, [.ref tk, .ref tp, .ref tn, .ref tu, .ref tl, .int ln, .int now, .int ft, .int pl, .int (nI t), .ref tb, .int (nI tt), .ref ts, .ref tf, .ref tz, .ref tx, .ref th, .null])), (th, .inl (kI, 256, .inl fh)), (tx, .inl (kI, 3020, .inl fx)), (tf, .inl (kI, 3020, .inl ff)), (tz, .inl (kI, 3020, .inl fz)), (ts, .inl (kB, 3120, .inl fs)), (src, .inl (kB, sl, .inl g))]) hD hS hA [0, 1, 2, 3, 4, 5, 6] rfl
                refine va_calli (va_runV (As := [.int (nI j), .ref src, .int (nI pf), .int (nI z)]) (rest := []) ⟨hx, hb, hml, hown, hts⟩ (c_addName0 l dC dI h tk tp tn tu tl tb ts tf tz tx th tw src kI kB ln now ft pl tt t j pf z sl F fh fx ff fz fs g H.size hj ht hpz hsl hF hI hh hxx hg) (cwV 4 hts g_c_nameOf0_c_addName0_101 rfl rfl rfl (by decide +kernel) ⟨Nat.le_of_ble_eq_true rfl, Nat.le_of_ble_eq_true rfl⟩) ⟨fun a U g mk q => by obtain ⟨q0, q1, qP, qK, qD⟩ := q; exact ⟨q0, q1, qP, va_K.moved (u := U) (U := U.calling g mk a) (Vm.Alike.refl U.vm) qK, qD⟩, va_recv hKc hPc (ci := 9) (q0 := 0) rfl rfl, fun U hU hW => ⟨rfl, by rw [hU], by rw [hU]; exact hPc, va_K.moved hW.alike hKc, hDc.weaken (fun _ _ _ _ => trivial)⟩⟩ rfl rfl hl.1 rfl (lv_room (Nat.le_of_ble_eq_true rfl)) dX9_nameOf_101 ⟨(show 0 + 0 ≤ 0 by omega), (show 0 + 0 ≤ 0 by omega)⟩) hS (fun q _ h => hFc q h) hFc (fun r_4 u tS H1 locs ht hvm hw hB hz1 hk1 hS => ?_)
                obtain ⟨gh, gx, gf, gz, gs, hf4_0, hf4_1, hf4_2, hP1, hK1, hD1⟩ := hB
                rw [ht] at hP1
                have hK1 := va_K.moved hvm.symm hK1
                obtain ⟨hP, hD⟩ := va_join (wr := []) (w1 := [(h, .inr (9, [.ref tk, .ref tp, .ref tn, .ref tu, .ref tl, .int ln, .int now, .int ft, .int pl, .int (nI (t + 1)), .ref tb, .int (nI tt), .ref ts, .ref tf, .ref tz, .ref tx, .ref th, .null])), (th, .inl (kI, 256, .inl gh)), (tx, .inl (kI, 3020, .inl gx)), (tf, .inl (kI, 3020, .inl gf)), (tz, .inl (kI, 3020, .inl gz)), (ts, .inl (kB, 3120, .inl gs)), (src, .inl (kB, sl, .inl g))]) hP hD [0, 1, 2, 3, 4, 5, 6] [] rfl rfl (by decide) (by decide) hk1 hFc hP1 hD1
                have hK := hK.app hK1
                generalize H1 = H at hP hS ⊢
                have hP : va_P (dC, dI) vwCl [(h, .inr (9, [.ref tk, .ref tp, .ref tn, .ref tu, .ref tl, .int ln, .int now, .int ft, .int pl, .int (nI (t + 1)), .ref tb, .int (nI tt), .ref ts, .ref tf, .ref tz, .ref tx, .ref th, .null])), (th, .inl (kI, 256, .inl gh)), (tx, .inl (kI, 3020, .inl gx)), (tf, .inl (kI, 3020, .inl gf)), (tz, .inl (kI, 3020, .inl gz)), (ts, .inl (kB, 3120, .inl gs)), (src, .inl (kB, sl, .inl g))] H := hP
                have hD : va_D A [(h, .inr (9, [.ref tk, .ref tp, .ref tn, .ref tu, .ref tl, .int ln, .int now, .int ft, .int pl, .int (nI (t + 1)), .ref tb, .int (nI tt), .ref ts, .ref tf, .ref tz, .ref tx, .ref th, .null])), (th, .inl (kI, 256, .inl gh)), (tx, .inl (kI, 3020, .inl gx)), (tf, .inl (kI, 3020, .inl gf)), (tz, .inl (kI, 3020, .inl gz)), (ts, .inl (kB, 3120, .inl gs)), (src, .inl (kB, sl, .inl g))] := hD
                have hK : va_K (dC, dI) vwCl [(kI, .int), (kB, .byte), (kI, .int), (kB, .byte)] s := hK
                have hK := hK.sub (tys' := [(kI, .int), (kB, .byte)]) [0, 1] rfl
                have hP : va_P (dC, dI) vwCl [(h, .inr (9, [.ref tk, .ref tp, .ref tn, .ref tu, .ref tl, .int ln, .int now, .int ft, .int pl, .int (nI (t + 1)), .ref tb, .int (nI tt), .ref ts, .ref tf, .ref tz, .ref tx, .ref th, .null])), (th, .inl (kI, 256, .inl gh)), (tx, .inl (kI, 3020, .inl gx)), (tf, .inl (kI, 3020, .inl gf)), (tz, .inl (kI, 3020, .inl gz)), (ts, .inl (kB, 3120, .inl gs)), (src, .inl (kB, sl, .inl g))] H := hP
                have hD : va_D A [(h, .inr (9, [.ref tk, .ref tp, .ref tn, .ref tu, .ref tl, .int ln, .int now, .int ft, .int pl, .int (nI (t + 1)), .ref tb, .int (nI tt), .ref ts, .ref tf, .ref tz, .ref tx, .ref th, .null])), (th, .inl (kI, 256, .inl gh)), (tx, .inl (kI, 3020, .inl gx)), (tf, .inl (kI, 3020, .inl gf)), (tz, .inl (kI, 3020, .inl gz)), (ts, .inl (kB, 3120, .inl gs)), (src, .inl (kB, sl, .inl g))] := hD
                have hP9 := hP.sub (ws' := [(h, .inr (9, [.ref tk, .ref tp, .ref tn, .ref tu, .ref tl, .int ln, .int now, .int ft, .int pl, .int (nI (t + 1)), .ref tb, .int (nI tt), .ref ts, .ref tf, .ref tz, .ref tx, .ref th, .null])), (th, .inl (kI, 256, .inl gh)), (tx, .inl (kI, 3020, .inl gx)), (tf, .inl (kI, 3020, .inl gf)), (tz, .inl (kI, 3020, .inl gz)), (ts, .inl (kB, 3120, .inl gs)), (src, .inl (kB, sl, .inl g))]) [0, 1, 2, 3, 4, 5, 6] rfl
                have hD9 := hD.sub (ws' := [(h, .inr (9, [.ref tk, .ref tp, .ref tn, .ref tu, .ref tl, .int ln, .int now, .int ft, .int pl, .int (nI (t + 1)), .ref tb, .int (nI tt), .ref ts, .ref tf, .ref tz, .ref tx, .ref th, .null])), (th, .inl (kI, 256, .inl gh)), (tx, .inl (kI, 3020, .inl gx)), (tf, .inl (kI, 3020, .inl gf)), (tz, .inl (kI, 3020, .inl gz)), (ts, .inl (kB, 3120, .inl gs)), (src, .inl (kB, sl, .inl g))]) [0, 1, 2, 3, 4, 5, 6] (by decide) rfl
                have hK9 := hK.sub (tys' := [(kI, .int), (kB, .byte)]) [0, 1] rfl
                subst hQ2
                subst hQ1
                exact W.iret (v := r_4) hx hb hr (fun tS ht hW => ⟨⟨r_4, (), rfl, trivial, gh, gx, gf, gz, gs, t + 1, hf4_0, hf4_1, hf4_2, by omega, by rw [ht]; exact hP9, va_K.moved hW.alike hK9, hD9⟩, hS.F ht⟩) hS.2.2 dX9_nameOf_104
              · obtain ⟨k, hkt, rfl⟩ : ∃ k : Nat, k < 20 ∧ na = nI k := hc1.elim (fun q9 => absurd q9 he) id
                have hk : k < 3020 := by omega
                refine lv_aload_n hx hb dX9_nameOf_65 rfl (lv_at hl 3 rfl) ?_
                refine lv_iload hx hb dX9_nameOf_66 (lv_at hl 1 rfl) ?_
                refine lv_aload_n hx hb dX9_nameOf_68 rfl (lv_at hl 4 rfl) ?_
                refine lv_iload_n hx hb dX9_nameOf_69 rfl (lv_at hl 5 rfl) ?_
                refine lv_iload_n hx hb dX9_nameOf_70 rfl (lv_at hl 6 rfl) ?_
                have hPc := hP.sub (ws' := [(h, .inr (9, [.ref tk, .ref tp, .ref tn, .ref tu, .ref tl, .int ln, .int now, .int ft, .int pl, .int (nI t), .ref tb, .int (nI tt), .ref ts, .ref tf, .ref tz, .ref tx, .ref th, .null])), (tf, .inl (kI, 3020, .inl ff)), (tz, .inl (kI, 3020, .inl fz)), (ts, .inl (kB, 3120, .inl fs)), (src, .inl (kB, sl, .inl g))]) [0, 3, 4, 5, 6] rfl
                have hDc := hD.sub (ws' := [(h, .inr (9, [.ref tk, .ref tp, .ref tn, .ref tu, .ref tl, .int ln, .int now, .int ft, .int pl, .int (nI t), .ref tb, .int (nI tt), .ref ts, .ref tf, .ref tz, .ref tx, .ref th, .null])), (tf, .inl (kI, 3020, .inl ff)), (tz, .inl (kI, 3020, .inl fz)), (ts, .inl (kB, 3120, .inl fs)), (src, .inl (kB, sl, .inl g))]) [0, 3, 4, 5, 6] (by decide) rfl
                have hKc := hK.sub (tys' := [(kI, .int), (kB, .byte)]) [0, 1] rfl
                have hFc := va_free (wc := [(h, .inr (9, [.ref tk, .ref tp, .ref tn, .ref tu, .ref tl, .int ln, .int now, .int ft, .int pl, .int (nI t), .ref tb, .int (nI tt), .ref ts, .ref tf, .ref tz, .ref tx, .ref th, .null])), (tf, .inl (kI, 3020, .inl ff)), (tz, .inl (kI, 3020, .inl fz)), (ts, .inl (kB, 3120, .inl fs)), (src, .inl (kB, sl, .inl g))]) hD hS hA [0, 3, 4, 5, 6] rfl
                refine va_calli (va_runV (As := [.int (nI k), .ref src, .int (nI pf), .int (nI z)]) (rest := []) ⟨hx, hb, hml, hown, hts⟩ (c_spelled0 l dC dI h tk tp tn tu tl tb ts tf tz tx th tw src kI kB ln now ft pl tt (nI t) k pf z sl ff fz fs g H.size hk hpz hsl (nmI_up hI (by omega))) (cwV 4 hts g_c_nameOf0_c_spelled0_71 rfl rfl rfl (by decide +kernel) ⟨Nat.le_of_ble_eq_true rfl, Nat.le_of_ble_eq_true rfl⟩) ⟨fun a U g mk q => by obtain ⟨q0, q1, qP, qK, qD⟩ := q; exact ⟨q0, q1, qP, va_K.moved (u := U) (U := U.calling g mk a) (Vm.Alike.refl U.vm) qK, qD⟩, va_recv hKc hPc (ci := 9) (q0 := 0) rfl rfl, fun U hU hW => ⟨rfl, by rw [hU], by rw [hU]; exact hPc, va_K.moved hW.alike hKc, hDc.weaken (fun _ _ _ _ => trivial)⟩⟩ rfl rfl hl.1 rfl (lv_room (Nat.le_of_ble_eq_true rfl)) dX9_nameOf_71 ⟨(show 0 + 0 ≤ 0 by omega), (show 0 + 0 ≤ 0 by omega)⟩) hS (fun q _ h => hFc q h) hFc (fun r_4 u tS H1 locs ht hvm hw hB hz1 hk1 hS => ?_)
                obtain ⟨hP1, hK1, hD1⟩ := hB
                rw [ht] at hP1
                have hK1 := va_K.moved hvm.symm hK1
                obtain ⟨hP, hD⟩ := va_join (wr := [(th, .inl (kI, 256, .inl fh)), (tx, .inl (kI, 3020, .inl fx))]) (w1 := [(h, .inr (9, [.ref tk, .ref tp, .ref tn, .ref tu, .ref tl, .int ln, .int now, .int ft, .int pl, .int (nI t), .ref tb, .int (nI tt), .ref ts, .ref tf, .ref tz, .ref tx, .ref th, .null])), (tf, .inl (kI, 3020, .inl ff)), (tz, .inl (kI, 3020, .inl fz)), (ts, .inl (kB, 3120, .inl fs)), (src, .inl (kB, sl, .inl g))]) hP hD [0, 3, 4, 5, 6] [1, 2] rfl rfl (by decide) (by decide) hk1 hFc hP1 hD1
                have hK := hK.app hK1
                generalize H1 = H at hP hS ⊢
                have hP : va_P (dC, dI) vwCl [(th, .inl (kI, 256, .inl fh)), (tx, .inl (kI, 3020, .inl fx)), (h, .inr (9, [.ref tk, .ref tp, .ref tn, .ref tu, .ref tl, .int ln, .int now, .int ft, .int pl, .int (nI t), .ref tb, .int (nI tt), .ref ts, .ref tf, .ref tz, .ref tx, .ref th, .null])), (tf, .inl (kI, 3020, .inl ff)), (tz, .inl (kI, 3020, .inl fz)), (ts, .inl (kB, 3120, .inl fs)), (src, .inl (kB, sl, .inl g))] H := hP
                have hD : va_D A [(th, .inl (kI, 256, .inl fh)), (tx, .inl (kI, 3020, .inl fx)), (h, .inr (9, [.ref tk, .ref tp, .ref tn, .ref tu, .ref tl, .int ln, .int now, .int ft, .int pl, .int (nI t), .ref tb, .int (nI tt), .ref ts, .ref tf, .ref tz, .ref tx, .ref th, .null])), (tf, .inl (kI, 3020, .inl ff)), (tz, .inl (kI, 3020, .inl fz)), (ts, .inl (kB, 3120, .inl fs)), (src, .inl (kB, sl, .inl g))] := hD
                have hK : va_K (dC, dI) vwCl [(kI, .int), (kB, .byte), (kI, .int), (kB, .byte)] s := hK
                have hK := hK.sub (tys' := [(kI, .int), (kB, .byte)]) [0, 1] rfl
                have hP : va_P (dC, dI) vwCl [(th, .inl (kI, 256, .inl fh)), (tx, .inl (kI, 3020, .inl fx)), (h, .inr (9, [.ref tk, .ref tp, .ref tn, .ref tu, .ref tl, .int ln, .int now, .int ft, .int pl, .int (nI t), .ref tb, .int (nI tt), .ref ts, .ref tf, .ref tz, .ref tx, .ref th, .null])), (tf, .inl (kI, 3020, .inl ff)), (tz, .inl (kI, 3020, .inl fz)), (ts, .inl (kB, 3120, .inl fs)), (src, .inl (kB, sl, .inl g))] H := hP
                have hD : va_D A [(th, .inl (kI, 256, .inl fh)), (tx, .inl (kI, 3020, .inl fx)), (h, .inr (9, [.ref tk, .ref tp, .ref tn, .ref tu, .ref tl, .int ln, .int now, .int ft, .int pl, .int (nI t), .ref tb, .int (nI tt), .ref ts, .ref tf, .ref tz, .ref tx, .ref th, .null])), (tf, .inl (kI, 3020, .inl ff)), (tz, .inl (kI, 3020, .inl fz)), (ts, .inl (kB, 3120, .inl fs)), (src, .inl (kB, sl, .inl g))] := hD
                refine lv_if_eq (tgt := 80) hx hb dX9_nameOf_74 (by decide) (fun hg9 => ?_) (fun hg9 => ?_)
                · refine lv_aload_n hx hb dX9_nameOf_80 rfl (lv_at hl 3 rfl) ?_
                  refine va_get (D := (dC, dI)) (ci := 9) (v := .ref tx) (C := RX9) (T := TX9) (N := 18) hx hb hts in_c_nameOf0_X9 hown hK hP 2 rfl rfl 15 (by decide) (hts (.fieldLink RX9 45 "OwnedPlaces$Text" "nameNext" "[I") (wm_c_nameOf0 11 rfl)) (fun _ h9 => h9) rfl dX9_nameOf_81 ?_
                  refine lv_iload hx hb dX9_nameOf_84 (lv_at hl 1 rfl) ?_
                  refine va_iald hx hb hK hP 1 0 rfl rfl (vp_in_nI hk (by decide)) dX9_nameOf_86 ?_
                  refine lv_topi (fun v_5 ev_5 => ?_)
                  have hv8 : v_5 < 0 ∨ ∃ k : Nat, k < 20 ∧ v_5 = nI k := by rw [ev_5, nI_clamp (by omega)]; exact hxx k hkt
                  refine lv_istore (lv' := [(6, .int v_5), (7, .int (nI q)), (5, .int (nI j)), (0, .ref h), (1, .ref src), (2, .int (nI pf)), (3, .int (nI z))]) hx hb dX9_nameOf_87 hl (by decide) rfl (fun ls hl => ?_)
                  have hq : q < 3020 := by rcases Nat.lt_or_ge q 3020 with q9 | q9; exact q9; exact absurd (nI_le q9 (by omega)) hd
                  obtain ⟨x_6, ex_6⟩ : ∃ yY : Int32, yY = (nI q) + 1 := ⟨_, rfl⟩
                  refine lv_iinc (v := x_6) (lv' := [(7, .int x_6), (6, .int v_5), (5, .int (nI j)), (0, .ref h), (1, .ref src), (2, .int (nI pf)), (3, .int (nI z))]) hx hb dX9_nameOf_89 hl (k := 1) rfl (by rw [ex_6]; rfl) (by decide) rfl (fun ls hl => ?_)
                  obtain rfl : x_6 = nI (q + 1) := by rw [ex_6]; exact nI_1 q
                  have hl : lv_has ls 8 [(7, .int (nI (q + 1))), (6, .int v_5), (5, .int (nI j)), (0, .ref h), (1, .ref src), (2, .int (nI pf)), (3, .int (nI z))] := hl
                  refine lv_goto (tgt := 52) hx hb dX9_nameOf_92 (by decide) ?_
                  exact ih2 (q + 1) v_5 _ _ _ (by omega) hv8 (hP.sub [2, 0, 1, 3, 4, 5, 6] rfl) (hD.sub [2, 0, 1, 3, 4, 5, 6] (by decide) rfl) hS (lv_sub hl [0, 1, 2, 3, 4, 5, 6] rfl)
                · refine lv_iload hx hb dX9_nameOf_77 (lv_at hl 1 rfl) ?_
                  have hP9 := hP.sub (ws' := [(h, .inr (9, [.ref tk, .ref tp, .ref tn, .ref tu, .ref tl, .int ln, .int now, .int ft, .int pl, .int (nI t), .ref tb, .int (nI tt), .ref ts, .ref tf, .ref tz, .ref tx, .ref th, .null])), (th, .inl (kI, 256, .inl fh)), (tx, .inl (kI, 3020, .inl fx)), (tf, .inl (kI, 3020, .inl ff)), (tz, .inl (kI, 3020, .inl fz)), (ts, .inl (kB, 3120, .inl fs)), (src, .inl (kB, sl, .inl g))]) [2, 0, 1, 3, 4, 5, 6] rfl
                  have hD9 := hD.sub (ws' := [(h, .inr (9, [.ref tk, .ref tp, .ref tn, .ref tu, .ref tl, .int ln, .int now, .int ft, .int pl, .int (nI t), .ref tb, .int (nI tt), .ref ts, .ref tf, .ref tz, .ref tx, .ref th, .null])), (th, .inl (kI, 256, .inl fh)), (tx, .inl (kI, 3020, .inl fx)), (tf, .inl (kI, 3020, .inl ff)), (tz, .inl (kI, 3020, .inl fz)), (ts, .inl (kB, 3120, .inl fs)), (src, .inl (kB, sl, .inl g))]) [2, 0, 1, 3, 4, 5, 6] (by decide) rfl
                  have hK9 := hK.sub (tys' := [(kI, .int), (kB, .byte)]) [0, 1] rfl
                  subst hQ2
                  subst hQ1
                  exact W.iret (v := nI k) hx hb hr (fun tS ht hW => ⟨⟨(nI k), (), rfl, trivial, fh, fx, ff, fz, fs, t, hh, hxx, nmI_up hI (by omega), by omega, by rw [ht]; exact hP9, va_K.moved hW.alike hK9, hD9⟩, hS.F ht⟩) hS.2.2 dX9_nameOf_79
        exact key2 3021 0 v_3 _ _ _ (by omega) hv9 (hP.sub [0, 1, 2, 3, 4, 5, 6] rfl) (hD.sub [0, 1, 2, 3, 4, 5, 6] (by decide) rfl) hS (lv_sub hl [0, 1, 2, 4, 5, 6, 7] rfl)
      · have hi : i < pf + z := by rcases Nat.lt_or_ge i (pf + z) with q | q; exact q; exact absurd (nI_le q (by omega)) hc
        refine lv_iload hx hb dX9_nameOf_14 (lv_at hl 1 rfl) ?_
        refine lv_bipush (v := 31) hx hb dX9_nameOf_16 (by decide) ?_
        refine lv_imul hx hb dX9_nameOf_18 ?_
        refine lv_topi (fun f_2 ef_2 => ?_)
        refine lv_aload_n hx hb dX9_nameOf_19 rfl (lv_at hl 3 rfl) ?_
        refine lv_iload hx hb dX9_nameOf_20 (lv_at hl 0 rfl) ?_
        refine va_bald hx hb hK hP 6 1 rfl rfl (vp_in_nI (by omega) (by omega)) dX9_nameOf_22 ?_
        refine lv_topi (fun v_3 ev_3 => ?_)
        refine lv_iadd hx hb dX9_nameOf_23 ?_
        refine lv_topi (fun f_4 ef_4 => ?_)
        refine lv_istore (lv' := [(4, .int f_4), (5, .int (nI i)), (0, .ref h), (1, .ref src), (2, .int (nI pf)), (3, .int (nI z))]) hx hb dX9_nameOf_24 hl (by decide) rfl (fun ls hl => ?_)
        obtain ⟨x_5, ex_5⟩ : ∃ yY : Int32, yY = (nI i) + 1 := ⟨_, rfl⟩
        refine lv_iinc (v := x_5) (lv' := [(5, .int x_5), (4, .int f_4), (0, .ref h), (1, .ref src), (2, .int (nI pf)), (3, .int (nI z))]) hx hb dX9_nameOf_26 hl (k := 1) rfl (by rw [ex_5]; rfl) (by decide) rfl (fun ls hl => ?_)
        obtain rfl : x_5 = nI (i + 1) := by rw [ex_5]; exact nI_1 i
        have hl : lv_has ls 8 [(5, .int (nI (i + 1))), (4, .int f_4), (0, .ref h), (1, .ref src), (2, .int (nI pf)), (3, .int (nI z))] := hl
        refine lv_goto (tgt := 6) hx hb dX9_nameOf_29 (by decide) ?_
        exact ih1 (i + 1) f_4 _ _ _ (by omega) (by omega) (hP.sub [0, 1, 2, 3, 4, 5, 6] rfl) (hD.sub [0, 1, 2, 3, 4, 5, 6] (by decide) rfl) hS (lv_sub hl [0, 1, 2, 3, 4, 5] rfl)
  exact key1 (z + 1) pf (nI z) _ _ _ (by omega) (Nat.le_refl _) (hP.sub [0, 1, 2, 3, 4, 5, 6] rfl) (hD.sub [0, 1, 2, 3, 4, 5, 6] (by decide) rfl) hS (lv_sub hl [0, 1, 2, 3, 4, 5] rfl)
