def wf_c_isi : List Cond := [.code yX23_isItem cX23_isItem 2 (some .boolean), .fieldLink RX23 386 "OwnedPlacesModel$Type" "kind" "I", .fieldLink RX23 387 "OwnedPlacesModel$Type" "index" "I"]
def wp_c_isi : List Cond := wf_c_isi ++ (wsX200 ++ [])
theorem in_c_isi_X20 : ∀ w ∈ wsX200, w ∈ wp_c_isi := fun w h => List.mem_append_right _ (List.mem_append_left _ h)
theorem wg_c_isi : wf_c_isi.all goodWord = true := by decide +kernel
theorem wm_c_isi (k : Nat) {w : Cond} (h : wp_c_isi[k]? = some w) : w ∈ wp_c_isi := List.mem_of_getElem? h
set_option maxHeartbeats 4000000 in
set_option maxRecDepth 100000 in
theorem c_isi (l : Launch) (dC : Nat → ClassId) (dI : Nat → Nat → Nat) (L : List Nat) (F : Nat → va_E) (x : Nat) (kd ix id_ : Int32) (ov : Value) (jj : Int32) (sz : Nat) (hxm : x ∈ L) (hxF : F x = .inr (20, [.int kd, .int ix, .int id_, ov])) : Met l yX23_isItem wp_c_isi ({ frames := 0, cells := 0, slots := 0, locals := 0 }) (va_Pc [.ref x, .int jj] (fun U => U.heap.size = sz ∧ va_P (dC, dI) vwCl (([] : va_W) ++ (sT L F)) U.heap ∧ va_K (dC, dI) vwCl [] U ∧ va_D (fun _ => True) (([] : va_W) ++ (sT L F)))) (va_Qi (fun (r : Int32) (_ : Unit) => (r = 0 ∨ r = 1) ∧ (r = 0 → ¬ ((kd = 3 ∨ kd = 4) ∧ ix = jj))) (fun (_ : Unit) (tS : State) => va_P (dC, dI) vwCl (([] : va_W) ++ (sT L F)) tS.heap ∧ va_K (dC, dI) vwCl [] tS ∧ va_D (va_A (([] : va_W) ++ (sT L F)) sz) (([] : va_W) ++ (sT L F))) (va_A (([] : va_W) ++ (sT L F)) sz)) 0 0 (va_A (([] : va_W) ++ (sT L F)) sz) := by
  refine Met.ofW (cc := cX23_isItem) (maxL := 2) (ret := (some .boolean)) (by decide) rfl ?_
  intro p e s m args below meth c s₁ B hml hv
  obtain ⟨rfl, hsz, hP, hK, hD0⟩ := hv
  have hx := B.exec
  have hb := B.bytes
  have hr := B.returns
  have hts := atoms_spec (ws := wp_c_isi) B.pre
  have hown : s.vm.findClass RX23 = some m.cls := findClass_of_methodNamed B.named
  have hlocks := B.notSynchronized
  subst hsz
  have hD := hD0.self (sz := s.heap.size)
  generalize hAe : va_A (([] : va_W) ++ (sT L F)) s.heap.size = A at hD ⊢
  have hA : ∀ q : Nat, s.heap.size ≤ q → A q := fun q h => by rw [← hAe]; exact Or.inr h
  have hS : va_S A s.heap s.heap [] := va_S.rf
  have hP : va_P (dC, dI) vwCl (([] : va_W) ++ (sT L F)) s.heap := hP
  have hl := lv_entry ([.ref x, .int jj]) (n := 2) (Nat.le_of_ble_eq_true rfl)
  rw [lg_entry_eq]
  generalize (lg_sl ([.ref x, .int jj]) ++ List.replicate (2 - (lg_sl ([.ref x, .int jj])).length) Slot.unset).toArray = ls at hl ⊢
  have hl : lv_has ls 2 [(0, .ref x), (1, .int jj)] := hl
  refine lv_aload_n hx hb dX23_isItem_0 rfl (lv_at hl 0 rfl) ?_
  refine va_get (D := (dC, dI)) (ci := 20) (v := .int kd) (C := RX20) (T := TX20) (N := 4) hx hb hts in_c_isi_X20 hown hK (va_P.st hP hxm hxF) 0 rfl rfl 0 (by decide) (hts (.fieldLink RX23 386 "OwnedPlacesModel$Type" "kind" "I") (wm_c_isi 1 rfl)) (fun _ h9 => h9) rfl dX23_isItem_1 ?_
  refine lv_iconst (v := 3) hx hb dX23_isItem_4 (by decide) ?_
  refine lv_icmp_eq (tgt := 16) hx hb dX23_isItem_5 (by decide) (fun hb_1 => ?_) (fun hb_1 => ?_)
  · refine lv_aload_n hx hb dX23_isItem_16 rfl (lv_at hl 0 rfl) ?_
    refine va_get (D := (dC, dI)) (ci := 20) (v := .int ix) (C := RX20) (T := TX20) (N := 4) hx hb hts in_c_isi_X20 hown hK (va_P.st hP hxm hxF) 0 rfl rfl 1 (by decide) (hts (.fieldLink RX23 387 "OwnedPlacesModel$Type" "index" "I") (wm_c_isi 2 rfl)) (fun _ h9 => h9) rfl dX23_isItem_17 ?_
    refine lv_iload_n hx hb dX23_isItem_20 rfl (lv_at hl 1 rfl) ?_
    refine lv_icmp_ne (tgt := 28) hx hb dX23_isItem_21 (by decide) (fun hb_2 => ?_) (fun hb_2 => ?_)
    · refine lv_iconst (v := 0) hx hb dX23_isItem_28 (by decide) ?_
      have hP9 := hP.subT (f' := []) [] rfl
      have hD9 := hD.subT (f' := []) [] (by decide) rfl
      have hK9 := hK.sub (tys' := []) [] rfl
      exact W.zret (v := 0) hx hb hr (by decide) (fun tS ht hW => ⟨⟨0, (), rfl, ⟨Or.inl rfl, fun _ q9 => by rcases q9 with ⟨q1 | q1, q2⟩ <;> contradiction⟩, by rw [ht]; exact hP9, va_K.moved hW.alike hK9, hD9⟩, hS.F ht⟩) hS.2.2 dX23_isItem_29
    · refine lv_iconst (v := 1) hx hb dX23_isItem_24 (by decide) ?_
      refine lv_goto (tgt := 29) hx hb dX23_isItem_25 (by decide) ?_
      have hP9 := hP.subT (f' := []) [] rfl
      have hD9 := hD.subT (f' := []) [] (by decide) rfl
      have hK9 := hK.sub (tys' := []) [] rfl
      exact W.zret (v := 1) hx hb hr (by decide) (fun tS ht hW => ⟨⟨1, (), rfl, ⟨Or.inr rfl, fun q => absurd q (by decide)⟩, by rw [ht]; exact hP9, va_K.moved hW.alike hK9, hD9⟩, hS.F ht⟩) hS.2.2 dX23_isItem_29
  · refine lv_aload_n hx hb dX23_isItem_8 rfl (lv_at hl 0 rfl) ?_
    refine va_get (D := (dC, dI)) (ci := 20) (v := .int kd) (C := RX20) (T := TX20) (N := 4) hx hb hts in_c_isi_X20 hown hK (va_P.st hP hxm hxF) 0 rfl rfl 0 (by decide) (hts (.fieldLink RX23 386 "OwnedPlacesModel$Type" "kind" "I") (wm_c_isi 1 rfl)) (fun _ h9 => h9) rfl dX23_isItem_9 ?_
    refine lv_iconst (v := 4) hx hb dX23_isItem_12 (by decide) ?_
    refine lv_icmp_ne (tgt := 28) hx hb dX23_isItem_13 (by decide) (fun hb_2 => ?_) (fun hb_2 => ?_)
    · refine lv_iconst (v := 0) hx hb dX23_isItem_28 (by decide) ?_
      have hP9 := hP.subT (f' := []) [] rfl
      have hD9 := hD.subT (f' := []) [] (by decide) rfl
      have hK9 := hK.sub (tys' := []) [] rfl
      exact W.zret (v := 0) hx hb hr (by decide) (fun tS ht hW => ⟨⟨0, (), rfl, ⟨Or.inl rfl, fun _ q9 => by rcases q9 with ⟨q1 | q1, q2⟩ <;> contradiction⟩, by rw [ht]; exact hP9, va_K.moved hW.alike hK9, hD9⟩, hS.F ht⟩) hS.2.2 dX23_isItem_29
    · refine lv_aload_n hx hb dX23_isItem_16 rfl (lv_at hl 0 rfl) ?_
      refine va_get (D := (dC, dI)) (ci := 20) (v := .int ix) (C := RX20) (T := TX20) (N := 4) hx hb hts in_c_isi_X20 hown hK (va_P.st hP hxm hxF) 0 rfl rfl 1 (by decide) (hts (.fieldLink RX23 387 "OwnedPlacesModel$Type" "index" "I") (wm_c_isi 2 rfl)) (fun _ h9 => h9) rfl dX23_isItem_17 ?_
      refine lv_iload_n hx hb dX23_isItem_20 rfl (lv_at hl 1 rfl) ?_
      refine lv_icmp_ne (tgt := 28) hx hb dX23_isItem_21 (by decide) (fun hb_3 => ?_) (fun hb_3 => ?_)
      · refine lv_iconst (v := 0) hx hb dX23_isItem_28 (by decide) ?_
        have hP9 := hP.subT (f' := []) [] rfl
        have hD9 := hD.subT (f' := []) [] (by decide) rfl
        have hK9 := hK.sub (tys' := []) [] rfl
        exact W.zret (v := 0) hx hb hr (by decide) (fun tS ht hW => ⟨⟨0, (), rfl, ⟨Or.inl rfl, fun _ q9 => by rcases q9 with ⟨q1 | q1, q2⟩ <;> contradiction⟩, by rw [ht]; exact hP9, va_K.moved hW.alike hK9, hD9⟩, hS.F ht⟩) hS.2.2 dX23_isItem_29
      · refine lv_iconst (v := 1) hx hb dX23_isItem_24 (by decide) ?_
        refine lv_goto (tgt := 29) hx hb dX23_isItem_25 (by decide) ?_
        have hP9 := hP.subT (f' := []) [] rfl
        have hD9 := hD.subT (f' := []) [] (by decide) rfl
        have hK9 := hK.sub (tys' := []) [] rfl
        exact W.zret (v := 1) hx hb hr (by decide) (fun tS ht hW => ⟨⟨1, (), rfl, ⟨Or.inr rfl, fun q => absurd q (by decide)⟩, by rw [ht]; exact hP9, va_K.moved hW.alike hK9, hD9⟩, hS.F ht⟩) hS.2.2 dX23_isItem_29
def wf_c_rfs : List Cond := [.code yX23_refers cX23_refers 1 (some .boolean), .fieldLink RX23 386 "OwnedPlacesModel$Type" "kind" "I"]
def wp_c_rfs : List Cond := wf_c_rfs ++ (wsX200 ++ [])
theorem in_c_rfs_X20 : ∀ w ∈ wsX200, w ∈ wp_c_rfs := fun w h => List.mem_append_right _ (List.mem_append_left _ h)
theorem wg_c_rfs : wf_c_rfs.all goodWord = true := by decide +kernel
theorem wm_c_rfs (k : Nat) {w : Cond} (h : wp_c_rfs[k]? = some w) : w ∈ wp_c_rfs := List.mem_of_getElem? h
set_option maxHeartbeats 4000000 in
set_option maxRecDepth 100000 in
theorem c_rfs (l : Launch) (dC : Nat → ClassId) (dI : Nat → Nat → Nat) (L : List Nat) (F : Nat → va_E) (x : Nat) (kd ix id_ : Int32) (ov : Value) (sz : Nat) (hxm : x ∈ L) (hxF : F x = .inr (20, [.int kd, .int ix, .int id_, ov])) : Met l yX23_refers wp_c_rfs ({ frames := 0, cells := 0, slots := 0, locals := 0 }) (va_Pc [.ref x] (fun U => U.heap.size = sz ∧ va_P (dC, dI) vwCl (([] : va_W) ++ (sT L F)) U.heap ∧ va_K (dC, dI) vwCl [] U ∧ va_D (fun _ => True) (([] : va_W) ++ (sT L F)))) (va_Qi (fun (r : Int32) (_ : Unit) => (r = 0 ∨ r = 1) ∧ (r = 1 ↔ (kd = 6 ∨ kd = 7))) (fun (_ : Unit) (tS : State) => va_P (dC, dI) vwCl (([] : va_W) ++ (sT L F)) tS.heap ∧ va_K (dC, dI) vwCl [] tS ∧ va_D (va_A (([] : va_W) ++ (sT L F)) sz) (([] : va_W) ++ (sT L F))) (va_A (([] : va_W) ++ (sT L F)) sz)) 0 0 (va_A (([] : va_W) ++ (sT L F)) sz) := by
  refine Met.ofW (cc := cX23_refers) (maxL := 1) (ret := (some .boolean)) (by decide) rfl ?_
  intro p e s m args below meth c s₁ B hml hv
  obtain ⟨rfl, hsz, hP, hK, hD0⟩ := hv
  have hx := B.exec
  have hb := B.bytes
  have hr := B.returns
  have hts := atoms_spec (ws := wp_c_rfs) B.pre
  have hown : s.vm.findClass RX23 = some m.cls := findClass_of_methodNamed B.named
  have hlocks := B.notSynchronized
  subst hsz
  have hD := hD0.self (sz := s.heap.size)
  generalize hAe : va_A (([] : va_W) ++ (sT L F)) s.heap.size = A at hD ⊢
  have hA : ∀ q : Nat, s.heap.size ≤ q → A q := fun q h => by rw [← hAe]; exact Or.inr h
  have hS : va_S A s.heap s.heap [] := va_S.rf
  have hP : va_P (dC, dI) vwCl (([] : va_W) ++ (sT L F)) s.heap := hP
  have hl := lv_entry ([.ref x]) (n := 1) (Nat.le_of_ble_eq_true rfl)
  rw [lg_entry_eq]
  generalize (lg_sl ([.ref x]) ++ List.replicate (1 - (lg_sl ([.ref x])).length) Slot.unset).toArray = ls at hl ⊢
  have hl : lv_has ls 1 [(0, .ref x)] := hl
  refine lv_aload_n hx hb dX23_refers_0 rfl (lv_at hl 0 rfl) ?_
  refine va_get (D := (dC, dI)) (ci := 20) (v := .int kd) (C := RX20) (T := TX20) (N := 4) hx hb hts in_c_rfs_X20 hown hK (va_P.st hP hxm hxF) 0 rfl rfl 0 (by decide) (hts (.fieldLink RX23 386 "OwnedPlacesModel$Type" "kind" "I") (wm_c_rfs 1 rfl)) (fun _ h9 => h9) rfl dX23_refers_1 ?_
  refine lv_bipush (v := 6) hx hb dX23_refers_4 (by decide) ?_
  refine lv_icmp_eq (tgt := 18) hx hb dX23_refers_6 (by decide) (fun hb_1 => ?_) (fun hb_1 => ?_)
  · refine lv_iconst (v := 1) hx hb dX23_refers_18 (by decide) ?_
    refine lv_goto (tgt := 23) hx hb dX23_refers_19 (by decide) ?_
    have hP9 := hP.subT (f' := []) [] rfl
    have hD9 := hD.subT (f' := []) [] (by decide) rfl
    have hK9 := hK.sub (tys' := []) [] rfl
    exact W.zret (v := 1) hx hb hr (by decide) (fun tS ht hW => ⟨⟨1, (), rfl, ⟨Or.inr rfl, fun _ => by first | exact Or.inl (by assumption) | exact Or.inr (by assumption) | exact Or.inr (Or.inl (by assumption)) | exact Or.inr (Or.inr (by assumption)), fun _ => rfl⟩, by rw [ht]; exact hP9, va_K.moved hW.alike hK9, hD9⟩, hS.F ht⟩) hS.2.2 dX23_refers_23
  · refine lv_aload_n hx hb dX23_refers_9 rfl (lv_at hl 0 rfl) ?_
    refine va_get (D := (dC, dI)) (ci := 20) (v := .int kd) (C := RX20) (T := TX20) (N := 4) hx hb hts in_c_rfs_X20 hown hK (va_P.st hP hxm hxF) 0 rfl rfl 0 (by decide) (hts (.fieldLink RX23 386 "OwnedPlacesModel$Type" "kind" "I") (wm_c_rfs 1 rfl)) (fun _ h9 => h9) rfl dX23_refers_10 ?_
    refine lv_bipush (v := 7) hx hb dX23_refers_13 (by decide) ?_
    refine lv_icmp_ne (tgt := 22) hx hb dX23_refers_15 (by decide) (fun hb_2 => ?_) (fun hb_2 => ?_)
    · refine lv_iconst (v := 0) hx hb dX23_refers_22 (by decide) ?_
      have hP9 := hP.subT (f' := []) [] rfl
      have hD9 := hD.subT (f' := []) [] (by decide) rfl
      have hK9 := hK.sub (tys' := []) [] rfl
      exact W.zret (v := 0) hx hb hr (by decide) (fun tS ht hW => ⟨⟨0, (), rfl, ⟨Or.inl rfl, fun q => absurd q (by decide), fun q9 => by rcases q9 with q1 | q1 <;> contradiction⟩, by rw [ht]; exact hP9, va_K.moved hW.alike hK9, hD9⟩, hS.F ht⟩) hS.2.2 dX23_refers_23
    · refine lv_iconst (v := 1) hx hb dX23_refers_18 (by decide) ?_
      refine lv_goto (tgt := 23) hx hb dX23_refers_19 (by decide) ?_
      have hP9 := hP.subT (f' := []) [] rfl
      have hD9 := hD.subT (f' := []) [] (by decide) rfl
      have hK9 := hK.sub (tys' := []) [] rfl
      exact W.zret (v := 1) hx hb hr (by decide) (fun tS ht hW => ⟨⟨1, (), rfl, ⟨Or.inr rfl, fun _ => by first | exact Or.inl (by assumption) | exact Or.inr (by assumption) | exact Or.inr (Or.inl (by assumption)) | exact Or.inr (Or.inr (by assumption)), fun _ => rfl⟩, by rw [ht]; exact hP9, va_K.moved hW.alike hK9, hD9⟩, hS.F ht⟩) hS.2.2 dX23_refers_23
def wf_c_cpd : List Cond := [.code yX23_copied cX23_copied 1 (some .boolean), .fieldLink RX23 386 "OwnedPlacesModel$Type" "kind" "I"]
def wp_c_cpd : List Cond := wf_c_cpd ++ (wsX200 ++ [])
theorem in_c_cpd_X20 : ∀ w ∈ wsX200, w ∈ wp_c_cpd := fun w h => List.mem_append_right _ (List.mem_append_left _ h)
theorem wg_c_cpd : wf_c_cpd.all goodWord = true := by decide +kernel
theorem wm_c_cpd (k : Nat) {w : Cond} (h : wp_c_cpd[k]? = some w) : w ∈ wp_c_cpd := List.mem_of_getElem? h
set_option maxHeartbeats 4000000 in
set_option maxRecDepth 100000 in
theorem c_cpd (l : Launch) (dC : Nat → ClassId) (dI : Nat → Nat → Nat) (L : List Nat) (F : Nat → va_E) (x : Nat) (kd ix id_ : Int32) (ov : Value) (sz : Nat) (hxm : x ∈ L) (hxF : F x = .inr (20, [.int kd, .int ix, .int id_, ov])) : Met l yX23_copied wp_c_cpd ({ frames := 0, cells := 0, slots := 0, locals := 0 }) (va_Pc [.ref x] (fun U => U.heap.size = sz ∧ va_P (dC, dI) vwCl (([] : va_W) ++ (sT L F)) U.heap ∧ va_K (dC, dI) vwCl [] U ∧ va_D (fun _ => True) (([] : va_W) ++ (sT L F)))) (va_Qi (fun (r : Int32) (_ : Unit) => (r = 0 ∨ r = 1) ∧ (r = 1 ↔ (kd = 0 ∨ kd = 1 ∨ kd = 6))) (fun (_ : Unit) (tS : State) => va_P (dC, dI) vwCl (([] : va_W) ++ (sT L F)) tS.heap ∧ va_K (dC, dI) vwCl [] tS ∧ va_D (va_A (([] : va_W) ++ (sT L F)) sz) (([] : va_W) ++ (sT L F))) (va_A (([] : va_W) ++ (sT L F)) sz)) 0 0 (va_A (([] : va_W) ++ (sT L F)) sz) := by
  refine Met.ofW (cc := cX23_copied) (maxL := 1) (ret := (some .boolean)) (by decide) rfl ?_
  intro p e s m args below meth c s₁ B hml hv
  obtain ⟨rfl, hsz, hP, hK, hD0⟩ := hv
  have hx := B.exec
  have hb := B.bytes
  have hr := B.returns
  have hts := atoms_spec (ws := wp_c_cpd) B.pre
  have hown : s.vm.findClass RX23 = some m.cls := findClass_of_methodNamed B.named
  have hlocks := B.notSynchronized
  subst hsz
  have hD := hD0.self (sz := s.heap.size)
  generalize hAe : va_A (([] : va_W) ++ (sT L F)) s.heap.size = A at hD ⊢
  have hA : ∀ q : Nat, s.heap.size ≤ q → A q := fun q h => by rw [← hAe]; exact Or.inr h
  have hS : va_S A s.heap s.heap [] := va_S.rf
  have hP : va_P (dC, dI) vwCl (([] : va_W) ++ (sT L F)) s.heap := hP
  have hl := lv_entry ([.ref x]) (n := 1) (Nat.le_of_ble_eq_true rfl)
  rw [lg_entry_eq]
  generalize (lg_sl ([.ref x]) ++ List.replicate (1 - (lg_sl ([.ref x])).length) Slot.unset).toArray = ls at hl ⊢
  have hl : lv_has ls 1 [(0, .ref x)] := hl
  refine lv_aload_n hx hb dX23_copied_0 rfl (lv_at hl 0 rfl) ?_
  refine va_get (D := (dC, dI)) (ci := 20) (v := .int kd) (C := RX20) (T := TX20) (N := 4) hx hb hts in_c_cpd_X20 hown hK (va_P.st hP hxm hxF) 0 rfl rfl 0 (by decide) (hts (.fieldLink RX23 386 "OwnedPlacesModel$Type" "kind" "I") (wm_c_cpd 1 rfl)) (fun _ h9 => h9) rfl dX23_copied_1 ?_
  refine lv_if_eq (tgt := 24) hx hb dX23_copied_4 (by decide) (fun hb_1 => ?_) (fun hb_1 => ?_)
  · refine lv_iconst (v := 1) hx hb dX23_copied_24 (by decide) ?_
    refine lv_goto (tgt := 29) hx hb dX23_copied_25 (by decide) ?_
    have hP9 := hP.subT (f' := []) [] rfl
    have hD9 := hD.subT (f' := []) [] (by decide) rfl
    have hK9 := hK.sub (tys' := []) [] rfl
    exact W.zret (v := 1) hx hb hr (by decide) (fun tS ht hW => ⟨⟨1, (), rfl, ⟨Or.inr rfl, fun _ => by first | exact Or.inl (by assumption) | exact Or.inr (by assumption) | exact Or.inr (Or.inl (by assumption)) | exact Or.inr (Or.inr (by assumption)), fun _ => rfl⟩, by rw [ht]; exact hP9, va_K.moved hW.alike hK9, hD9⟩, hS.F ht⟩) hS.2.2 dX23_copied_29
  · refine lv_aload_n hx hb dX23_copied_7 rfl (lv_at hl 0 rfl) ?_
    refine va_get (D := (dC, dI)) (ci := 20) (v := .int kd) (C := RX20) (T := TX20) (N := 4) hx hb hts in_c_cpd_X20 hown hK (va_P.st hP hxm hxF) 0 rfl rfl 0 (by decide) (hts (.fieldLink RX23 386 "OwnedPlacesModel$Type" "kind" "I") (wm_c_cpd 1 rfl)) (fun _ h9 => h9) rfl dX23_copied_8 ?_
    refine lv_iconst (v := 1) hx hb dX23_copied_11 (by decide) ?_
    refine lv_icmp_eq (tgt := 24) hx hb dX23_copied_12 (by decide) (fun hb_2 => ?_) (fun hb_2 => ?_)
    · refine lv_iconst (v := 1) hx hb dX23_copied_24 (by decide) ?_
      refine lv_goto (tgt := 29) hx hb dX23_copied_25 (by decide) ?_
      have hP9 := hP.subT (f' := []) [] rfl
      have hD9 := hD.subT (f' := []) [] (by decide) rfl
      have hK9 := hK.sub (tys' := []) [] rfl
      exact W.zret (v := 1) hx hb hr (by decide) (fun tS ht hW => ⟨⟨1, (), rfl, ⟨Or.inr rfl, fun _ => by first | exact Or.inl (by assumption) | exact Or.inr (by assumption) | exact Or.inr (Or.inl (by assumption)) | exact Or.inr (Or.inr (by assumption)), fun _ => rfl⟩, by rw [ht]; exact hP9, va_K.moved hW.alike hK9, hD9⟩, hS.F ht⟩) hS.2.2 dX23_copied_29
    · refine lv_aload_n hx hb dX23_copied_15 rfl (lv_at hl 0 rfl) ?_
      refine va_get (D := (dC, dI)) (ci := 20) (v := .int kd) (C := RX20) (T := TX20) (N := 4) hx hb hts in_c_cpd_X20 hown hK (va_P.st hP hxm hxF) 0 rfl rfl 0 (by decide) (hts (.fieldLink RX23 386 "OwnedPlacesModel$Type" "kind" "I") (wm_c_cpd 1 rfl)) (fun _ h9 => h9) rfl dX23_copied_16 ?_
      refine lv_bipush (v := 6) hx hb dX23_copied_19 (by decide) ?_
      refine lv_icmp_ne (tgt := 28) hx hb dX23_copied_21 (by decide) (fun hb_3 => ?_) (fun hb_3 => ?_)
      · refine lv_iconst (v := 0) hx hb dX23_copied_28 (by decide) ?_
        have hP9 := hP.subT (f' := []) [] rfl
        have hD9 := hD.subT (f' := []) [] (by decide) rfl
        have hK9 := hK.sub (tys' := []) [] rfl
        exact W.zret (v := 0) hx hb hr (by decide) (fun tS ht hW => ⟨⟨0, (), rfl, ⟨Or.inl rfl, fun q => absurd q (by decide), fun q9 => by rcases q9 with q1 | q1 | q1 <;> contradiction⟩, by rw [ht]; exact hP9, va_K.moved hW.alike hK9, hD9⟩, hS.F ht⟩) hS.2.2 dX23_copied_29
      · refine lv_iconst (v := 1) hx hb dX23_copied_24 (by decide) ?_
        refine lv_goto (tgt := 29) hx hb dX23_copied_25 (by decide) ?_
        have hP9 := hP.subT (f' := []) [] rfl
        have hD9 := hD.subT (f' := []) [] (by decide) rfl
        have hK9 := hK.sub (tys' := []) [] rfl
        exact W.zret (v := 1) hx hb hr (by decide) (fun tS ht hW => ⟨⟨1, (), rfl, ⟨Or.inr rfl, fun _ => by first | exact Or.inl (by assumption) | exact Or.inr (by assumption) | exact Or.inr (Or.inl (by assumption)) | exact Or.inr (Or.inr (by assumption)), fun _ => rfl⟩, by rw [ht]; exact hP9, va_K.moved hW.alike hK9, hD9⟩, hS.F ht⟩) hS.2.2 dX23_copied_29
