def wf_c_nS : List Cond := [.code yX19_init cX19_init 1 none, .methodLink RX19 1 objectInit, .instanceMethod objectInit, .code objectInit ⟨#[0xb1]⟩ 1 none]
def wp_c_nS : List Cond := wf_c_nS ++ []
theorem wg_c_nS : wf_c_nS.all goodWord = true := by decide +kernel
theorem wm_c_nS (k : Nat) {w : Cond} (h : wp_c_nS[k]? = some w) : w ∈ wp_c_nS := List.mem_of_getElem? h
set_option maxHeartbeats 4000000 in
set_option maxRecDepth 100000 in
theorem c_nS (l : Launch) (dC : Nat → ClassId) (dI : Nat → Nat → Nat) (q : Nat) (sz : Nat) : Met l yX19_init wp_c_nS ({ frames := 1, cells := 0, slots := 0, locals := 12 }) (va_Pc [.ref q] (fun U => U.heap.size = sz ∧ va_P (dC, dI) vwCl [(q, .inr (19, [.int 0, .int 0, .int 0, .int 0, .int 0, .null, .null, .null, .null, .null, .null, .null, .null, .int 0]))] U.heap ∧ va_K (dC, dI) vwCl [] U ∧ va_D (fun _ => True) [(q, .inr (19, [.int 0, .int 0, .int 0, .int 0, .int 0, .null, .null, .null, .null, .null, .null, .null, .null, .int 0]))])) (va_Qv (fun _ : Unit => True) (fun (_ : Unit) (tS : State) => va_P (dC, dI) vwCl [(q, .inr (19, [.int 0, .int 0, .int 0, .int 0, .int 0, .null, .null, .null, .null, .null, .null, .null, .null, .int 0]))] tS.heap ∧ va_K (dC, dI) vwCl [] tS ∧ va_D (va_A [(q, .inr (19, [.int 0, .int 0, .int 0, .int 0, .int 0, .null, .null, .null, .null, .null, .null, .null, .null, .int 0]))] sz) [(q, .inr (19, [.int 0, .int 0, .int 0, .int 0, .int 0, .null, .null, .null, .null, .null, .null, .null, .null, .int 0]))]) (va_A [(q, .inr (19, [.int 0, .int 0, .int 0, .int 0, .int 0, .null, .null, .null, .null, .null, .null, .null, .null, .int 0]))] sz)) 0 0 (va_A [(q, .inr (19, [.int 0, .int 0, .int 0, .int 0, .int 0, .null, .null, .null, .null, .null, .null, .null, .null, .int 0]))] sz) := by
  refine Met.ofW (cc := cX19_init) (maxL := 1) (ret := none) (by decide) rfl ?_
  intro p e s m args below meth c s₁ B hml hv
  obtain ⟨rfl, hsz, hP, hK, hD0⟩ := hv
  have hx := B.exec
  have hb := B.bytes
  have hr := B.returns
  have hts := atoms_spec (ws := wp_c_nS) B.pre
  have hown : s.vm.findClass RX19 = some m.cls := findClass_of_methodNamed B.named
  have hlocks := B.notSynchronized
  have hin : meth.name = "<init>" := (name_of_methodNamed B.named B.method).1
  subst hsz
  have hD := hD0.self (sz := s.heap.size)
  generalize hAe : va_A [(q, .inr (19, [.int 0, .int 0, .int 0, .int 0, .int 0, .null, .null, .null, .null, .null, .null, .null, .null, .int 0]))] s.heap.size = A at hD ⊢
  have hA : ∀ q : Nat, s.heap.size ≤ q → A q := fun q h => by rw [← hAe]; exact Or.inr h
  have hS : va_S A s.heap s.heap [] := va_S.rf
  have hP : va_P (dC, dI) vwCl [(q, .inr (19, [.int 0, .int 0, .int 0, .int 0, .int 0, .null, .null, .null, .null, .null, .null, .null, .null, .int 0]))] s.heap := hP
  have hl := lv_entry ([.ref q]) (n := 1) (Nat.le_of_ble_eq_true rfl)
  rw [lg_entry_eq]
  generalize (lg_sl ([.ref q]) ++ List.replicate (1 - (lg_sl ([.ref q])).length) Slot.unset).toArray = ls at hl ⊢
  have hl : lv_has ls 1 [(0, .ref q)] := hl
  refine lv_aload_n hx hb dX19_init_0 rfl (lv_at hl 0 rfl) ?_
  refine W.objInit hx hb hown (hts (.methodLink RX19 1 objectInit) (wm_c_nS 1 rfl)) (hts (.instanceMethod objectInit) (wm_c_nS 2 rfl)) (hts (.code objectInit ⟨#[0xb1]⟩ 1 none) (wm_c_nS 3 rfl)) rfl (by rw [hml]; exact hl.1) rfl dX19_init_1 (Nat.le_of_ble_eq_true rfl) (Nat.le_of_ble_eq_true rfl) ?_
  refine W.eq (g2 := F0 m 4 ls []) rfl ?_
  have hP9 := hP.sub (ws' := [(q, .inr (19, [.int 0, .int 0, .int 0, .int 0, .int 0, .null, .null, .null, .null, .null, .null, .null, .null, .int 0]))]) [0] rfl
  have hD9 := hD.sub (ws' := [(q, .inr (19, [.int 0, .int 0, .int 0, .int 0, .int 0, .null, .null, .null, .null, .null, .null, .null, .null, .int 0]))]) [0] (by decide) rfl
  have hK9 := hK.sub (tys' := []) [] rfl
  exact W.vret hx hb hr (fun tS ht hW => ⟨⟨(), rfl, trivial, by rw [ht]; exact hP9, va_K.moved hW.alike hK9, hD9⟩, hS.F ht⟩) hS.2.2 dX19_init_4
def wf_c_nB : List Cond := [.code yX14_init cX14_init 1 none, .methodLink RX14 1 objectInit, .instanceMethod objectInit, .code objectInit ⟨#[0xb1]⟩ 1 none, .classLink RX14 7 RX19, .fieldLink RX14 9 "OwnedPlacesModel$Block" "list" "[LOwnedPlacesModel$Statement;"]
def wp_c_nB : List Cond := wf_c_nB ++ (wsX140 ++ [])
theorem in_c_nB_X14 : ∀ w ∈ wsX140, w ∈ wp_c_nB := fun w h => List.mem_append_right _ (List.mem_append_left _ h)
theorem wg_c_nB : wf_c_nB.all goodWord = true := by decide +kernel
theorem wm_c_nB (k : Nat) {w : Cond} (h : wp_c_nB[k]? = some w) : w ∈ wp_c_nB := List.mem_of_getElem? h
set_option maxHeartbeats 4000000 in
set_option maxRecDepth 100000 in
theorem c_nB (l : Launch) (dC : Nat → ClassId) (dI : Nat → Nat → Nat) (q : Nat) (kS : ClassId) (sl : Nat) (sz : Nat) : Met l yX14_init wp_c_nB ({ frames := 1, cells := 1, slots := 4, locals := 12 }) (va_Pc [.ref q] (fun U => U.heap.size = sz ∧ va_P (dC, dI) vwCl [(q, .inr (14, [.int 0, .int 0, .null, .int 0]))] U.heap ∧ va_K (dC, dI) vwCl [(kS, .object RX19)] U ∧ va_D (fun _ => True) [(q, .inr (14, [.int 0, .int 0, .null, .int 0]))] ∧ nsM U ∧ slN U.heap = sl)) (va_Qv (fun _ : Unit => True) (fun (_ : Unit) (tS : State) => ∃ (la2 : Nat), (tS.heap.size ≤ sz + (1) ∧ slN tS.heap ≤ sl + (4)) ∧ va_P (dC, dI) vwCl [(q, .inr (14, [.int 0, .int 0, .ref la2, .int 0])), (la2, .inl (kS, 4, .inr (.inr (.inr (.inr (fun _ => none))))))] tS.heap ∧ va_K (dC, dI) vwCl [(kS, .object RX19)] tS ∧ va_D (va_A [(q, .inr (14, [.int 0, .int 0, .null, .int 0]))] sz) [(q, .inr (14, [.int 0, .int 0, .ref la2, .int 0])), (la2, .inl (kS, 4, .inr (.inr (.inr (.inr (fun _ => none))))))]) (va_A [(q, .inr (14, [.int 0, .int 0, .null, .int 0]))] sz)) 1 4 (va_A [(q, .inr (14, [.int 0, .int 0, .null, .int 0]))] sz) := by
  refine Met.ofW (cc := cX14_init) (maxL := 1) (ret := none) (by decide) rfl ?_
  intro p e s m args below meth c s₁ B hml hv
  obtain ⟨rfl, hsz, hP, hK, hD0, hpre0, hpre1⟩ := hv
  have hx := B.exec
  have hb := B.bytes
  have hr := B.returns
  have hts := atoms_spec (ws := wp_c_nB) B.pre
  have hown : s.vm.findClass RX14 = some m.cls := findClass_of_methodNamed B.named
  have hlocks := B.notSynchronized
  have hin : meth.name = "<init>" := (name_of_methodNamed B.named B.method).1
  subst hsz
  have hD := hD0.self (sz := s.heap.size)
  generalize hAe : va_A [(q, .inr (14, [.int 0, .int 0, .null, .int 0]))] s.heap.size = A at hD ⊢
  have hA : ∀ q : Nat, s.heap.size ≤ q → A q := fun q h => by rw [← hAe]; exact Or.inr h
  have hS : va_S A s.heap s.heap [] := va_S.rf
  have hP : va_P (dC, dI) vwCl [(q, .inr (14, [.int 0, .int 0, .null, .int 0]))] s.heap := hP
  have hl := lv_entry ([.ref q]) (n := 1) (Nat.le_of_ble_eq_true rfl)
  rw [lg_entry_eq]
  generalize (lg_sl ([.ref q]) ++ List.replicate (1 - (lg_sl ([.ref q])).length) Slot.unset).toArray = ls at hl ⊢
  have hl : lv_has ls 1 [(0, .ref q)] := hl
  have hns := hpre0
  subst hpre1
  refine lv_aload_n hx hb dX14_init_0 rfl (lv_at hl 0 rfl) ?_
  refine W.objInit hx hb hown (hts (.methodLink RX14 1 objectInit) (wm_c_nB 1 rfl)) (hts (.instanceMethod objectInit) (wm_c_nB 2 rfl)) (hts (.code objectInit ⟨#[0xb1]⟩ 1 none) (wm_c_nB 3 rfl)) rfl (by rw [hml]; exact hl.1) rfl dX14_init_1 (Nat.le_of_ble_eq_true rfl) (Nat.le_of_ble_eq_true rfl) ?_
  refine W.eq (g2 := F0 m 4 ls []) rfl ?_
  refine lv_aload_n hx hb dX14_init_4 rfl (lv_at hl 0 rfl) ?_
  refine lv_iconst (v := 4) hx hb dX14_init_5 (by decide) ?_
  refine va_newq (C := RX19) hx hb hown (hts (.classLink RX14 7 RX19) (wm_c_nB 4 rfl)) hns.2.2.1 hK hP hD hS hA (by decide) (by decide +kernel) (show 4 * 4 ≤ 536870912 by omega) (show 0 + 1 ≤ 1 by omega) (show 0 + 4 ≤ 4 by omega) dX14_init_6 (fun q_1 k_2 H hK hP hD hS => ?_)
  have hP : va_P (dC, dI) vwCl [(q, .inr (14, [.int 0, .int 0, .null, .int 0])), (q_1, .inl (k_2, 4, .inr (.inr (.inr (.inr (fun _ => none))))))] H := hP
  have hD : va_D A [(q, .inr (14, [.int 0, .int 0, .null, .int 0])), (q_1, .inl (k_2, 4, .inr (.inr (.inr (.inr (fun _ => none))))))] := hD
  have hK : va_K (dC, dI) vwCl [(kS, .object RX19), (k_2, .object RX19)] s := hK
  refine W.widen (k := 1) (n := 4) (by omega) (by omega) ?_
  obtain rfl : kS = k_2 := kEqO hK 0 1 rfl rfl
  have hK := hK.sub (tys' := [(kS, .object RX19)]) [0] rfl
  have hP : va_P (dC, dI) vwCl [(q, .inr (14, [.int 0, .int 0, .null, .int 0])), (q_1, .inl (kS, 4, .inr (.inr (.inr (.inr (fun _ => none))))))] H := hP
  have hD : va_D A [(q, .inr (14, [.int 0, .int 0, .null, .int 0])), (q_1, .inl (kS, 4, .inr (.inr (.inr (.inr (fun _ => none))))))] := hD
  refine va_put (D := (dC, dI)) (ci := 14) (v := .ref q_1) (ty := (.array (.object "OwnedPlacesModel$Statement"))) (C := RX14) (T := TX14) (N := 4) hx hb hts in_c_nB_X14 tyX14 tyX14_ok nmX14 hown hK hP hD hS 0 rfl rfl 2 (by decide) (hts (.fieldLink RX14 9 "OwnedPlacesModel$Block" "list" "[LOwnedPlacesModel$Statement;") (wm_c_nB 5 rfl)) (fun _ h9 => h9) rfl (by decide +kernel) rfl rfl (Nat.le_of_ble_eq_true rfl) dX14_init_9 (fun H locs hP hD hS => ?_)
  have hP : va_P (dC, dI) vwCl [(q, .inr (14, [.int 0, .int 0, .ref q_1, .int 0])), (q_1, .inl (kS, 4, .inr (.inr (.inr (.inr (fun _ => none))))))] H := hP
  have hD : va_D A [(q, .inr (14, [.int 0, .int 0, .ref q_1, .int 0])), (q_1, .inl (kS, 4, .inr (.inr (.inr (.inr (fun _ => none))))))] := hD
  refine W.grow (fun hgs0 hgs1 => ?_)
  have hP9 := hP.sub (ws' := [(q, .inr (14, [.int 0, .int 0, .ref q_1, .int 0])), (q_1, .inl (kS, 4, .inr (.inr (.inr (.inr (fun _ => none))))))]) [0, 1] rfl
  have hD9 := hD.sub (ws' := [(q, .inr (14, [.int 0, .int 0, .ref q_1, .int 0])), (q_1, .inl (kS, 4, .inr (.inr (.inr (.inr (fun _ => none))))))]) [0, 1] (by decide) rfl
  have hK9 := hK.sub (tys' := [(kS, .object RX19)]) [0] rfl
  refine W.widen (k := 1) (n := 4) (by omega) (by omega) ?_
  exact W.vret hx hb hr (fun tS ht hW => ⟨⟨(), rfl, trivial, q_1, by rw [ht]; exact ⟨by omega, by omega⟩, by rw [ht]; exact hP9, va_K.moved hW.alike hK9, hD9⟩, hS.F ht⟩) hS.2.2 dX14_init_12
def wf_c_nA : List Cond := [.code yX13_init cX13_init 1 none, .methodLink RX13 1 objectInit, .instanceMethod objectInit, .code objectInit ⟨#[0xb1]⟩ 1 none, .arrayClass .int, .fieldLink RX13 7 "OwnedPlacesModel$Arm" "names" "[I", .classLink RX13 13 RX21, .fieldLink RX13 15 "OwnedPlacesModel$Arm" "variables" "[LOwnedPlacesModel$Variable;"]
def wp_c_nA : List Cond := wf_c_nA ++ (wsX130 ++ [])
theorem in_c_nA_X13 : ∀ w ∈ wsX130, w ∈ wp_c_nA := fun w h => List.mem_append_right _ (List.mem_append_left _ h)
theorem wg_c_nA : wf_c_nA.all goodWord = true := by decide +kernel
theorem wm_c_nA (k : Nat) {w : Cond} (h : wp_c_nA[k]? = some w) : w ∈ wp_c_nA := List.mem_of_getElem? h
set_option maxHeartbeats 4000000 in
set_option maxRecDepth 100000 in
theorem c_nA (l : Launch) (dC : Nat → ClassId) (dI : Nat → Nat → Nat) (q : Nat) (kI kV : ClassId) (sl : Nat) (sz : Nat) : Met l yX13_init wp_c_nA ({ frames := 1, cells := 2, slots := 24, locals := 12 }) (va_Pc [.ref q] (fun U => U.heap.size = sz ∧ va_P (dC, dI) vwCl [(q, .inr (13, [.int 0, .int 0, .null, .int 0, .null, .null]))] U.heap ∧ va_K (dC, dI) vwCl [(kI, .int), (kV, .object RX21)] U ∧ va_D (fun _ => True) [(q, .inr (13, [.int 0, .int 0, .null, .int 0, .null, .null]))] ∧ nsM U ∧ slN U.heap = sl)) (va_Qv (fun _ : Unit => True) (fun (_ : Unit) (tS : State) => ∃ (na2 : Nat) (va2 : Nat), (na2 = sz ∧ va2 = sz + 1) ∧ (tS.heap.size ≤ sz + (2) ∧ slN tS.heap ≤ sl + (24)) ∧ va_P (dC, dI) vwCl [(q, .inr (13, [.int 0, .int 0, .ref na2, .int 0, .ref va2, .null])), (na2, .inl (kI, 12, .inl (fun _ => 0))), (va2, .inl (kV, 12, .inr (.inr (.inr (.inr (fun _ => none))))))] tS.heap ∧ va_K (dC, dI) vwCl [(kI, .int), (kV, .object RX21)] tS ∧ va_D (va_A [(q, .inr (13, [.int 0, .int 0, .null, .int 0, .null, .null]))] sz) [(q, .inr (13, [.int 0, .int 0, .ref na2, .int 0, .ref va2, .null])), (na2, .inl (kI, 12, .inl (fun _ => 0))), (va2, .inl (kV, 12, .inr (.inr (.inr (.inr (fun _ => none))))))]) (va_A [(q, .inr (13, [.int 0, .int 0, .null, .int 0, .null, .null]))] sz)) 2 24 (va_A [(q, .inr (13, [.int 0, .int 0, .null, .int 0, .null, .null]))] sz) := by
  refine Met.ofW (cc := cX13_init) (maxL := 1) (ret := none) (by decide) rfl ?_
  intro p e s m args below meth c s₁ B hml hv
  obtain ⟨rfl, hsz, hP, hK, hD0, hpre0, hpre1⟩ := hv
  have hx := B.exec
  have hb := B.bytes
  have hr := B.returns
  have hts := atoms_spec (ws := wp_c_nA) B.pre
  have hown : s.vm.findClass RX13 = some m.cls := findClass_of_methodNamed B.named
  have hlocks := B.notSynchronized
  have hin : meth.name = "<init>" := (name_of_methodNamed B.named B.method).1
  subst hsz
  have hD := hD0.self (sz := s.heap.size)
  generalize hAe : va_A [(q, .inr (13, [.int 0, .int 0, .null, .int 0, .null, .null]))] s.heap.size = A at hD ⊢
  have hA : ∀ q : Nat, s.heap.size ≤ q → A q := fun q h => by rw [← hAe]; exact Or.inr h
  have hS : va_S A s.heap s.heap [] := va_S.rf
  have hP : va_P (dC, dI) vwCl [(q, .inr (13, [.int 0, .int 0, .null, .int 0, .null, .null]))] s.heap := hP
  have hl := lv_entry ([.ref q]) (n := 1) (Nat.le_of_ble_eq_true rfl)
  rw [lg_entry_eq]
  generalize (lg_sl ([.ref q]) ++ List.replicate (1 - (lg_sl ([.ref q])).length) Slot.unset).toArray = ls at hl ⊢
  have hl : lv_has ls 1 [(0, .ref q)] := hl
  have hns := hpre0
  subst hpre1
  refine lv_aload_n hx hb dX13_init_0 rfl (lv_at hl 0 rfl) ?_
  refine W.objInit hx hb hown (hts (.methodLink RX13 1 objectInit) (wm_c_nA 1 rfl)) (hts (.instanceMethod objectInit) (wm_c_nA 2 rfl)) (hts (.code objectInit ⟨#[0xb1]⟩ 1 none) (wm_c_nA 3 rfl)) rfl (by rw [hml]; exact hl.1) rfl dX13_init_1 (Nat.le_of_ble_eq_true rfl) (Nat.le_of_ble_eq_true rfl) ?_
  refine W.eq (g2 := F0 m 4 ls []) rfl ?_
  refine lv_aload_n hx hb dX13_init_4 rfl (lv_at hl 0 rfl) ?_
  refine lv_bipush (v := 12) hx hb dX13_init_5 (by decide) ?_
  refine va_newa (atype := .int) (a0 := (12, .inl (fun _ => 0))) (ty := .int) hx hb (hts (.arrayClass .int) (wm_c_nA 4 rfl)) rfl hK hP hD hS hA (fun _ => rfl) (by decide) (by decide +kernel) (show 12 * 4 ≤ 536870912 by omega) (show 0 + 1 ≤ 2 by omega) (show 0 + 12 ≤ 24 by omega) dX13_init_7 (fun q_1 k_2 H hK hP hD hS => ?_)
  have hP : va_P (dC, dI) vwCl [(q, .inr (13, [.int 0, .int 0, .null, .int 0, .null, .null])), (q_1, .inl (k_2, 12, .inl (fun _ => 0)))] H := hP
  have hD : va_D A [(q, .inr (13, [.int 0, .int 0, .null, .int 0, .null, .null])), (q_1, .inl (k_2, 12, .inl (fun _ => 0)))] := hD
  have hK : va_K (dC, dI) vwCl [(kI, .int), (kV, .object RX21), (k_2, .int)] s := hK
  obtain rfl : kI = k_2 := kEq_int hK 0 2 rfl rfl
  have hK := hK.sub (tys' := [(kI, .int), (kV, .object RX21)]) [0, 1] rfl
  have hP : va_P (dC, dI) vwCl [(q, .inr (13, [.int 0, .int 0, .null, .int 0, .null, .null])), (q_1, .inl (kI, 12, .inl (fun _ => 0)))] H := hP
  have hD : va_D A [(q, .inr (13, [.int 0, .int 0, .null, .int 0, .null, .null])), (q_1, .inl (kI, 12, .inl (fun _ => 0)))] := hD
  refine W.widen (k := 1) (n := 12) (by omega) (by omega) ?_
  refine W.grow (fun hge_3a hge_3b => ?_)
  have hge_3 : q_1 = s.heap.size := by
    have h1 : s.heap.size ≤ q_1 := nw_g0 hAe hD (k := 1) rfl rfl (Nat.le_of_ble_eq_true rfl)
    have h2 : q_1 < H.size := (hP 1 _ rfl).lt
    omega
  refine va_put (D := (dC, dI)) (ci := 13) (v := .ref q_1) (ty := (.array .int)) (C := RX13) (T := TX13) (N := 6) hx hb hts in_c_nA_X13 tyX13 tyX13_ok nmX13 hown hK hP hD hS 0 rfl rfl 2 (by decide) (hts (.fieldLink RX13 7 "OwnedPlacesModel$Arm" "names" "[I") (wm_c_nA 5 rfl)) (fun _ h9 => h9) rfl (by decide +kernel) rfl rfl (Nat.le_of_ble_eq_true rfl) dX13_init_9 (fun H locs hP hD hS => ?_)
  have hP : va_P (dC, dI) vwCl [(q, .inr (13, [.int 0, .int 0, .ref q_1, .int 0, .null, .null])), (q_1, .inl (kI, 12, .inl (fun _ => 0)))] H := hP
  have hD : va_D A [(q, .inr (13, [.int 0, .int 0, .ref q_1, .int 0, .null, .null])), (q_1, .inl (kI, 12, .inl (fun _ => 0)))] := hD
  refine lv_aload_n hx hb dX13_init_12 rfl (lv_at hl 0 rfl) ?_
  refine lv_bipush (v := 12) hx hb dX13_init_13 (by decide) ?_
  refine va_newq (C := RX21) hx hb hown (hts (.classLink RX13 13 RX21) (wm_c_nA 6 rfl)) hns.2.2.2.2.2.2.2.2 hK hP hD hS hA (by decide) (by decide +kernel) (show 12 * 4 ≤ 536870912 by omega) (show 1 + 1 ≤ 2 by omega) (show 12 + 12 ≤ 24 by omega) dX13_init_15 (fun q_4 k_5 H hK hP hD hS => ?_)
  have hP : va_P (dC, dI) vwCl [(q, .inr (13, [.int 0, .int 0, .ref q_1, .int 0, .null, .null])), (q_1, .inl (kI, 12, .inl (fun _ => 0))), (q_4, .inl (k_5, 12, .inr (.inr (.inr (.inr (fun _ => none))))))] H := hP
  have hD : va_D A [(q, .inr (13, [.int 0, .int 0, .ref q_1, .int 0, .null, .null])), (q_1, .inl (kI, 12, .inl (fun _ => 0))), (q_4, .inl (k_5, 12, .inr (.inr (.inr (.inr (fun _ => none))))))] := hD
  have hK : va_K (dC, dI) vwCl [(kI, .int), (kV, .object RX21), (k_5, .object RX21)] s := hK
  refine W.widen (k := 2) (n := 24) (by omega) (by omega) ?_
  obtain rfl : kV = k_5 := kEqO hK 1 2 rfl rfl
  have hK := hK.sub (tys' := [(kI, .int), (kV, .object RX21)]) [0, 1] rfl
  have hP : va_P (dC, dI) vwCl [(q, .inr (13, [.int 0, .int 0, .ref q_1, .int 0, .null, .null])), (q_1, .inl (kI, 12, .inl (fun _ => 0))), (q_4, .inl (kV, 12, .inr (.inr (.inr (.inr (fun _ => none))))))] H := hP
  have hD : va_D A [(q, .inr (13, [.int 0, .int 0, .ref q_1, .int 0, .null, .null])), (q_1, .inl (kI, 12, .inl (fun _ => 0))), (q_4, .inl (kV, 12, .inr (.inr (.inr (.inr (fun _ => none))))))] := hD
  refine W.grow (fun hge_6a hge_6b => ?_)
  have hge_6 : q_4 = s.heap.size + 1 := by
    have h1 : s.heap.size ≤ q_4 := nw_g0 hAe hD (k := 2) rfl rfl (Nat.le_of_ble_eq_true rfl)
    have h2 : q_4 < H.size := (hP 2 _ rfl).lt
    have h3q_1 : q_4 ≠ q_1 := fun e9 => absurd (hD.1 2 1 _ _ rfl rfl e9) (by decide)
    omega
  refine va_put (D := (dC, dI)) (ci := 13) (v := .ref q_4) (ty := (.array (.object "OwnedPlacesModel$Variable"))) (C := RX13) (T := TX13) (N := 6) hx hb hts in_c_nA_X13 tyX13 tyX13_ok nmX13 hown hK hP hD hS 0 rfl rfl 4 (by decide) (hts (.fieldLink RX13 15 "OwnedPlacesModel$Arm" "variables" "[LOwnedPlacesModel$Variable;") (wm_c_nA 7 rfl)) (fun _ h9 => h9) rfl (by decide +kernel) rfl rfl (Nat.le_of_ble_eq_true rfl) dX13_init_18 (fun H locs hP hD hS => ?_)
  have hP : va_P (dC, dI) vwCl [(q, .inr (13, [.int 0, .int 0, .ref q_1, .int 0, .ref q_4, .null])), (q_1, .inl (kI, 12, .inl (fun _ => 0))), (q_4, .inl (kV, 12, .inr (.inr (.inr (.inr (fun _ => none))))))] H := hP
  have hD : va_D A [(q, .inr (13, [.int 0, .int 0, .ref q_1, .int 0, .ref q_4, .null])), (q_1, .inl (kI, 12, .inl (fun _ => 0))), (q_4, .inl (kV, 12, .inr (.inr (.inr (.inr (fun _ => none))))))] := hD
  refine W.grow (fun hgs0 hgs1 => ?_)
  have hP9 := hP.sub (ws' := [(q, .inr (13, [.int 0, .int 0, .ref q_1, .int 0, .ref q_4, .null])), (q_1, .inl (kI, 12, .inl (fun _ => 0))), (q_4, .inl (kV, 12, .inr (.inr (.inr (.inr (fun _ => none))))))]) [0, 1, 2] rfl
  have hD9 := hD.sub (ws' := [(q, .inr (13, [.int 0, .int 0, .ref q_1, .int 0, .ref q_4, .null])), (q_1, .inl (kI, 12, .inl (fun _ => 0))), (q_4, .inl (kV, 12, .inr (.inr (.inr (.inr (fun _ => none))))))]) [0, 1, 2] (by decide) rfl
  have hK9 := hK.sub (tys' := [(kI, .int), (kV, .object RX21)]) [0, 1] rfl
  refine W.widen (k := 2) (n := 24) (by omega) (by omega) ?_
  exact W.vret hx hb hr (fun tS ht hW => ⟨⟨(), rfl, trivial, q_1, q_4, ⟨hge_3, hge_6⟩, by rw [ht]; exact ⟨by omega, by omega⟩, by rw [ht]; exact hP9, va_K.moved hW.alike hK9, hD9⟩, hS.F ht⟩) hS.2.2 dX13_init_21
