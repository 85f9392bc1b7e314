def wf_c_nT : List Cond := [.code yX20_init cX20_init 1 none, .methodLink RX20 1 objectInit, .instanceMethod objectInit, .code objectInit ⟨#[0xb1]⟩ 1 none]
def wp_c_nT : List Cond := wf_c_nT ++ []
theorem wg_c_nT : wf_c_nT.all goodWord = true := by decide +kernel
theorem wm_c_nT (k : Nat) {w : Cond} (h : wp_c_nT[k]? = some w) : w ∈ wp_c_nT := List.mem_of_getElem? h
set_option maxHeartbeats 4000000 in
set_option maxRecDepth 100000 in
theorem c_nT (l : Launch) (dC : Nat → ClassId) (dI : Nat → Nat → Nat) (q : Nat) (sz : Nat) : Met l yX20_init wp_c_nT ({ frames := 1, cells := 0, slots := 0, locals := 12 }) (va_Pc [.ref q] (fun U => U.heap.size = sz ∧ va_P (dC, dI) vwCl [(q, .inr (20, [.int 0, .int 0, .int 0, .null]))] U.heap ∧ va_K (dC, dI) vwCl [] U ∧ va_D (fun _ => True) [(q, .inr (20, [.int 0, .int 0, .int 0, .null]))])) (va_Qv (fun _ : Unit => True) (fun (_ : Unit) (tS : State) => va_P (dC, dI) vwCl [(q, .inr (20, [.int 0, .int 0, .int 0, .null]))] tS.heap ∧ va_K (dC, dI) vwCl [] tS ∧ va_D (va_A [(q, .inr (20, [.int 0, .int 0, .int 0, .null]))] sz) [(q, .inr (20, [.int 0, .int 0, .int 0, .null]))]) (va_A [(q, .inr (20, [.int 0, .int 0, .int 0, .null]))] sz)) 0 0 (va_A [(q, .inr (20, [.int 0, .int 0, .int 0, .null]))] sz) := by
  refine Met.ofW (cc := cX20_init) (maxL := 1) (ret := none) (by decide) rfl ?_
  intro p e s m args below meth c s₁ B hml hv
  obtain ⟨rfl, hsz, hP, hK, hD0⟩ := hv
  have hx := B.exec
  have hb := B.bytes
  have hr := B.returns
  have hts := atoms_spec (ws := wp_c_nT) B.pre
  have hown : s.vm.findClass RX20 = some m.cls := findClass_of_methodNamed B.named
  have hlocks := B.notSynchronized
  have hin : meth.name = "<init>" := (name_of_methodNamed B.named B.method).1
  subst hsz
  have hD := hD0.self (sz := s.heap.size)
  generalize hAe : va_A [(q, .inr (20, [.int 0, .int 0, .int 0, .null]))] s.heap.size = A at hD ⊢
  have hA : ∀ q : Nat, s.heap.size ≤ q → A q := fun q h => by rw [← hAe]; exact Or.inr h
  have hS : va_S A s.heap s.heap [] := va_S.rf
  have hP : va_P (dC, dI) vwCl [(q, .inr (20, [.int 0, .int 0, .int 0, .null]))] s.heap := hP
  have hl := lv_entry ([.ref q]) (n := 1) (Nat.le_of_ble_eq_true rfl)
  rw [lg_entry_eq]
  generalize (lg_sl ([.ref q]) ++ List.replicate (1 - (lg_sl ([.ref q])).length) Slot.unset).toArray = ls at hl ⊢
  have hl : lv_has ls 1 [(0, .ref q)] := hl
  refine lv_aload_n hx hb dX20_init_0 rfl (lv_at hl 0 rfl) ?_
  refine W.objInit hx hb hown (hts (.methodLink RX20 1 objectInit) (wm_c_nT 1 rfl)) (hts (.instanceMethod objectInit) (wm_c_nT 2 rfl)) (hts (.code objectInit ⟨#[0xb1]⟩ 1 none) (wm_c_nT 3 rfl)) rfl (by rw [hml]; exact hl.1) rfl dX20_init_1 (Nat.le_of_ble_eq_true rfl) (Nat.le_of_ble_eq_true rfl) ?_
  refine W.eq (g2 := F0 m 4 ls []) rfl ?_
  have hP9 := hP.sub (ws' := [(q, .inr (20, [.int 0, .int 0, .int 0, .null]))]) [0] rfl
  have hD9 := hD.sub (ws' := [(q, .inr (20, [.int 0, .int 0, .int 0, .null]))]) [0] (by decide) rfl
  have hK9 := hK.sub (tys' := []) [] rfl
  exact W.vret hx hb hr (fun tS ht hW => ⟨⟨(), rfl, trivial, by rw [ht]; exact hP9, va_K.moved hW.alike hK9, hD9⟩, hS.F ht⟩) hS.2.2 dX20_init_4
def wf_c_typN : List Cond := [.code yX23_type cX23_type 5 (some (.object "OwnedPlacesModel$Type")), .fieldLink RX23 382 "OwnedPlacesModel" "typeMany" "I", .fieldLink RX23 385 "OwnedPlacesModel" "types" "[LOwnedPlacesModel$Type;", .fieldLink RX23 386 "OwnedPlacesModel$Type" "kind" "I", .fieldLink RX23 387 "OwnedPlacesModel$Type" "index" "I", .fieldLink RX23 390 "OwnedPlacesModel$Type" "of" "LOwnedPlacesModel$Type;", .classLink RX23 164 RX20, .instantiable RX20 4, .initialized RX20, .code yX20_init cX20_init 1 none, .methodLink RX20 1 objectInit, .instanceMethod objectInit, .code objectInit ⟨#[0xb1]⟩ 1 none, .instanceMethod yX20_init, .fieldLink RX23 394 "OwnedPlacesModel$Type" "id" "I"]
def wp_c_typN : List Cond := wf_c_typN ++ (wsX230 ++ (wsX200 ++ []))
theorem in_c_typN_X23 : ∀ w ∈ wsX230, w ∈ wp_c_typN := fun w h => List.mem_append_right _ (List.mem_append_left _ h)
theorem in_c_typN_X20 : ∀ w ∈ wsX200, w ∈ wp_c_typN := fun w h => List.mem_append_right _ (List.mem_append_right _ (List.mem_append_left _ h))
theorem wg_c_typN : wf_c_typN.all goodWord = true := by decide +kernel
theorem wm_c_typN (k : Nat) {w : Cond} (h : wp_c_typN[k]? = some w) : w ∈ wp_c_typN := List.mem_of_getElem? h
set_option maxRecDepth 20000 in
theorem g_c_typN_c_nT_72 : GoodIn wp_c_typN wp_c_nT := goodIn_app (goodIn_f (wf_c_nT) [9, 10, 11, 12] rfl wg_c_nT) (goodIn_n)
set_option maxHeartbeats 4000000 in
set_option maxRecDepth 100000 in
theorem c_typN (l : Launch) (dC : Nat → ClassId) (dI : Nat → Nat → Nat) (m9 : Nat) (mr : Nat → Nat) (mv : Nat → Int32) (vf : Value) (ff xa xm : Int32) (T im tm sc vm : Nat) (kI : ClassId) (L : List Nat) (F : Nat → va_E) (kT : ClassId) (fy : Nat → Option Nat) (Y : Nat → Int32 × Int32 × Option Nat) (ad : Nat → Nat) (kd ix : Int32) (sl : Nat) (sz : Nat) (htw : tyW L F fy tm Y ad) (htm : tm < 2000) : Met l yX23_type wp_c_typN ({ frames := 2, cells := 1, slots := 4, locals := 32 }) (va_Pc [.ref m9, .int kd, .int ix, .null] (fun U => U.heap.size = sz ∧ va_P (dC, dI) vwCl (([(m9, .inr (23, mT mr mv vf ff xa (nI T) (nI im) (nI tm) xm (nI sc) (nI vm))), (mr 18, .inl (kT, 2000, .inr (.inr (.inr (.inr fy)))))] : va_W) ++ (sT L F)) U.heap ∧ va_K (dC, dI) vwCl [(kT, .object RX20)] U ∧ va_D (fun _ => True) (([(m9, .inr (23, mT mr mv vf ff xa (nI T) (nI im) (nI tm) xm (nI sc) (nI vm))), (mr 18, .inl (kT, 2000, .inr (.inr (.inr (.inr fy)))))] : va_W) ++ (sT L F)) ∧ nsM U ∧ slN U.heap = sl)) (va_Qr (fun _ : Unit => True) (fun (_ : Unit) (rA : Nat) (tS : State) => ∃ (L2 : List Nat) (F2 : Nat → va_E) (tm2 : Nat) (fy2 : Nat → Option Nat) (Y2 : Nat → Int32 × Int32 × Option Nat) (ad2 : Nat → Nat) (t2 : Nat), (exS L F L2 F2) ∧ (tm2 = tm ∨ (tm2 = tm + 1 ∧ t2 = tm)) ∧ (∀ t : Nat, t < tm → Y2 t = Y t ∧ ad2 t = ad t) ∧ (tyW L2 F2 fy2 tm2 Y2 ad2) ∧ (t2 < tm2 ∧ rA = ad2 t2 ∧ Y2 t2 = (kd, ix, none)) ∧ (ptN Y2 tm2 ≤ ptN Y tm + 1 ∧ (ix = 0 → kd = 0 ∨ kd = 1 ∨ kd = 2 ∨ kd = 8 → ptN Y2 tm2 ≤ ptN Y tm)) ∧ (tS.heap.size ≤ sz + ((tm2 - tm)) ∧ slN tS.heap ≤ sl + (4 * (tm2 - tm))) ∧ va_P (dC, dI) vwCl (([(m9, .inr (23, mT mr mv vf ff xa (nI T) (nI im) (nI tm2) xm (nI sc) (nI vm))), (mr 18, .inl (kT, 2000, .inr (.inr (.inr (.inr fy2)))))] : va_W) ++ (sT L2 F2)) tS.heap ∧ va_K (dC, dI) vwCl [(kT, .object RX20)] tS ∧ va_D (va_A (([(m9, .inr (23, mT mr mv vf ff xa (nI T) (nI im) (nI tm) xm (nI sc) (nI vm))), (mr 18, .inl (kT, 2000, .inr (.inr (.inr (.inr fy)))))] : va_W) ++ (sT L F)) sz) (([(m9, .inr (23, mT mr mv vf ff xa (nI T) (nI im) (nI tm2) xm (nI sc) (nI vm))), (mr 18, .inl (kT, 2000, .inr (.inr (.inr (.inr fy2)))))] : va_W) ++ (sT L2 F2))) (va_A (([(m9, .inr (23, mT mr mv vf ff xa (nI T) (nI im) (nI tm) xm (nI sc) (nI vm))), (mr 18, .inl (kT, 2000, .inr (.inr (.inr (.inr fy)))))] : va_W) ++ (sT L F)) sz)) 1 4 (va_A (([(m9, .inr (23, mT mr mv vf ff xa (nI T) (nI im) (nI tm) xm (nI sc) (nI vm))), (mr 18, .inl (kT, 2000, .inr (.inr (.inr (.inr fy)))))] : va_W) ++ (sT L F)) sz) := by
  refine Met.ofW (cc := cX23_type) (maxL := 5) (ret := (some (.object "OwnedPlacesModel$Type"))) (by decide) rfl ?_
  intro p e s m args below meth c s₁ B hml hv
  obtain ⟨rfl, hsz, hP, hK, hD0, hpre0, hpre1⟩ := hv
  have hx := B.exec
  have hb := B.bytes
  have hr := B.returns
  have hts := atoms_spec (ws := wp_c_typN) B.pre
  have hown : s.vm.findClass RX23 = some m.cls := findClass_of_methodNamed B.named
  have hlocks := B.notSynchronized
  subst hsz
  have hD := hD0.self (sz := s.heap.size)
  generalize hAe : va_A (([(m9, .inr (23, mT mr mv vf ff xa (nI T) (nI im) (nI tm) xm (nI sc) (nI vm))), (mr 18, .inl (kT, 2000, .inr (.inr (.inr (.inr fy)))))] : va_W) ++ (sT L F)) s.heap.size = A at hD ⊢
  have hA : ∀ q : Nat, s.heap.size ≤ q → A q := fun q h => by rw [← hAe]; exact Or.inr h
  have hS : va_S A s.heap s.heap [] := va_S.rf
  have hP : va_P (dC, dI) vwCl (([(m9, .inr (23, mT mr mv vf ff xa (nI T) (nI im) (nI tm) xm (nI sc) (nI vm))), (mr 18, .inl (kT, 2000, .inr (.inr (.inr (.inr fy)))))] : va_W) ++ (sT L F)) s.heap := hP
  have hl := lv_entry ([.ref m9, .int kd, .int ix, .null]) (n := 5) (Nat.le_of_ble_eq_true rfl)
  rw [lg_entry_eq]
  generalize (lg_sl ([.ref m9, .int kd, .int ix, .null]) ++ List.replicate (5 - (lg_sl ([.ref m9, .int kd, .int ix, .null])).length) Slot.unset).toArray = ls at hl ⊢
  have hl : lv_has ls 5 [(0, .ref m9), (1, .int kd), (2, .int ix), (3, .null)] := hl
  have hns := hpre0
  subst hpre1
  refine lv_iconst (v := 0) hx hb dX23_type_0 (by decide) ?_
  refine lv_istore (lv' := [(4, .int 0), (0, .ref m9), (1, .int kd), (2, .int ix), (3, .null)]) hx hb dX23_type_1 hl (by decide) rfl (fun ls hl => ?_)
  refine W_q (fun Q1 hQ1 => ?_)
  have key1 : ∀ (n1 : Nat) (i : Nat) (H : Heap) (locs : List Loc) (ls : Array Slot), (i + n1 = tm + 1 ∧ i ≤ tm) → (∀ t : Nat, t < i → ¬ Y t = (kd, ix, none)) → va_P (dC, dI) vwCl (([(m9, .inr (23, mT mr mv vf ff xa (nI T) (nI im) (nI tm) xm (nI sc) (nI vm))), (mr 18, .inl (kT, 2000, .inr (.inr (.inr (.inr fy)))))] : va_W) ++ (sT L F)) H → va_D A (([(m9, .inr (23, mT mr mv vf ff xa (nI T) (nI im) (nI tm) xm (nI sc) (nI vm))), (mr 18, .inl (kT, 2000, .inr (.inr (.inr (.inr fy)))))] : va_W) ++ (sT L F)) → va_S A s.heap H locs → lv_has ls 5 [(4, .int (nI i)), (0, .ref m9), (1, .int kd), (2, .int ix), (3, .null)] → W p l e (headSpec wp_c_typN ({ frames := 2, cells := 1, slots := 4, locals := 32 })).room s m ([.ref m9, .int kd, .int ix, .null] : List Value).toArray below meth c H locs 0 0 Q1 (F0 m 3 ls []) := by
    intro n1
    induction n1 with
    | zero => intro i H locs ls hr0 hr1; exact absurd hr0 (by omega)
    | succ n1 ih1 =>
      intro i H locs ls hr0 hr1 hP hD hS hl
      refine lv_iload hx hb dX23_type_3 (lv_at hl 0 rfl) ?_
      refine lv_aload_n hx hb dX23_type_5 rfl (lv_at hl 1 rfl) ?_
      refine va_get (D := (dC, dI)) (ci := 23) (v := .int (nI tm)) (C := RX23) (T := TX23) (N := 89) hx hb hts in_c_typN_X23 hown hK hP 0 rfl rfl 19 (by decide) (hts (.fieldLink RX23 382 "OwnedPlacesModel" "typeMany" "I") (wm_c_typN 1 rfl)) (fun _ h9 => h9) rfl dX23_type_6 ?_
      refine lv_icmp_ge (tgt := 68) hx hb dX23_type_9 (by decide) (fun hk => ?_) (fun hk => ?_)
      · have hin : tm = i := by have := (nI_leI (a := tm) (b := i) (by omega) (by omega)).mp hk; omega
        subst hin
        refine va_new (ci := 20) (fs := [.int 0, .int 0, .int 0, .null]) (C := RX20) (T := TX20) (N := 4) hx hb hts in_c_typN_X20 tyX20 tyX20_ok hown (hts (.classLink RX23 164 RX20) (wm_c_typN 6 rfl)) (hts (.instantiable RX20 4) (wm_c_typN 7 rfl)) (hts (.initialized RX20) (wm_c_typN 8 rfl)) hK hP hD hS hA rfl dv_X20 (show 0 + 1 ≤ 1 by omega) (show 0 + 4 ≤ 4 by omega) dX23_type_68 (fun q_1 H hP hD hS => ?_)
        have hP := va_P.nt hP
        have hD := va_D.nt hD
        have hP : va_P (dC, dI) vwCl (([(m9, .inr (23, mT mr mv vf ff xa (nI T) (nI im) (nI tm) xm (nI sc) (nI vm))), (mr 18, .inl (kT, 2000, .inr (.inr (.inr (.inr fy))))), (q_1, .inr (20, [.int 0, .int 0, .int 0, .null]))] : va_W) ++ (sT L F)) H := hP
        have hD : va_D A (([(m9, .inr (23, mT mr mv vf ff xa (nI T) (nI im) (nI tm) xm (nI sc) (nI vm))), (mr 18, .inl (kT, 2000, .inr (.inr (.inr (.inr fy))))), (q_1, .inr (20, [.int 0, .int 0, .int 0, .null]))] : va_W) ++ (sT L F)) := hD
        refine W.widen (k := 1) (n := 4) (by omega) (by omega) ?_
        refine lv_dup hx hb dX23_type_71 rfl ?_
        have hPc := hP.subF (f' := [(q_1, .inr (20, [.int 0, .int 0, .int 0, .null]))]) [2] rfl
        have hDc := hD.subF (f' := [(q_1, .inr (20, [.int 0, .int 0, .int 0, .null]))]) [2] (by decide) rfl
        have hKc := hK.sub (tys' := []) [] rfl
        have hFc := va_freeT (wc := [(q_1, .inr (20, [.int 0, .int 0, .int 0, .null]))]) hD hS hA [2] rfl
        refine va_callv (va_runIN (As := []) (rest := [.ref q_1]) ⟨hx, hb, hml, hown, hts⟩ (c_nT l dC dI q_1 H.size) ⟨va_cnB 0 hts g_c_typN_c_nT_72 rfl rfl rfl hns.1.2.2.2.2.2.2.2.1 (hts (.initialized RX20) (wm_c_typN 8 rfl)) (by decide +kernel) ⟨Nat.le_of_ble_eq_true rfl, Nat.le_of_ble_eq_true rfl⟩, rfl, (hts (.instanceMethod yX20_init) (wm_c_typN 13 rfl))⟩ ⟨fun a U g mk q => by obtain ⟨q0, q1, qP, qK, qD⟩ := q; exact ⟨q0, q1, qP, va_K.moved (u := U) (U := U.calling g mk a) (Vm.Alike.refl U.vm) qK, qD⟩, fun U hU hW => ⟨rfl, by rw [hU], by rw [hU]; exact hPc, va_K.moved hW.alike hKc, hDc.weaken (fun _ _ _ _ => trivial)⟩⟩ rfl rfl hl.1 rfl (lv_room (Nat.le_of_ble_eq_true rfl)) dX23_type_72 ⟨(show 1 + 0 ≤ 1 by omega), (show 4 + 0 ≤ 4 by omega)⟩) hS (fun q _ h => hFc q h) hFc (fun u tS H1 locs ht hvm hw hB hz1 hk1 hS => ?_)
        obtain ⟨hP1, hK1, hD1⟩ := hB
        rw [ht] at hP1
        have hK1 := va_K.moved hvm.symm hK1
        obtain ⟨hP, hD⟩ := va_joinT (wr := [(m9, .inr (23, mT mr mv vf ff xa (nI T) (nI im) (nI tm) xm (nI sc) (nI vm))), (mr 18, .inl (kT, 2000, .inr (.inr (.inr (.inr fy)))))]) (w1 := [(q_1, .inr (20, [.int 0, .int 0, .int 0, .null]))]) hP hD [2] [0, 1] rfl rfl (by decide) (by decide) hk1 hFc hP1 hD1
        generalize H1 = H at hP hS ⊢
        have hP : va_P (dC, dI) vwCl (([(m9, .inr (23, mT mr mv vf ff xa (nI T) (nI im) (nI tm) xm (nI sc) (nI vm))), (mr 18, .inl (kT, 2000, .inr (.inr (.inr (.inr fy))))), (q_1, .inr (20, [.int 0, .int 0, .int 0, .null]))] : va_W) ++ (sT L F)) H := hP
        have hD : va_D A (([(m9, .inr (23, mT mr mv vf ff xa (nI T) (nI im) (nI tm) xm (nI sc) (nI vm))), (mr 18, .inl (kT, 2000, .inr (.inr (.inr (.inr fy))))), (q_1, .inr (20, [.int 0, .int 0, .int 0, .null]))] : va_W) ++ (sT L F)) := hD
        have hK : va_K (dC, dI) vwCl [(kT, .object RX20)] s := hK
        clear hz1 hk1 hPc hDc hKc hFc hP1 hD1 hK1
        refine lv_astore (lv' := [(4, .ref q_1), (0, .ref m9), (1, .int kd), (2, .int ix), (3, .null)]) hx hb dX23_type_75 hl (by decide) rfl (fun ls hl => ?_)
        refine lv_aload hx hb dX23_type_77 (lv_at hl 0 rfl) ?_
        refine lv_iload_n hx hb dX23_type_79 rfl (lv_at hl 2 rfl) ?_
        refine va_put (D := (dC, dI)) (ci := 20) (v := .int kd) (ty := .int) (C := RX20) (T := TX20) (N := 4) hx hb hts in_c_typN_X20 tyX20 tyX20_ok nmX20 hown hK hP hD hS 2 rfl rfl 0 (by decide) (hts (.fieldLink RX23 386 "OwnedPlacesModel$Type" "kind" "I") (wm_c_typN 3 rfl)) (fun _ h9 => h9) rfl (by decide +kernel) rfl rfl (Nat.le_of_ble_eq_true rfl) dX23_type_80 (fun H locs hP hD hS => ?_)
        have hP : va_P (dC, dI) vwCl (([(m9, .inr (23, mT mr mv vf ff xa (nI T) (nI im) (nI tm) xm (nI sc) (nI vm))), (mr 18, .inl (kT, 2000, .inr (.inr (.inr (.inr fy))))), (q_1, .inr (20, [.int kd, .int 0, .int 0, .null]))] : va_W) ++ (sT L F)) H := hP
        have hD : va_D A (([(m9, .inr (23, mT mr mv vf ff xa (nI T) (nI im) (nI tm) xm (nI sc) (nI vm))), (mr 18, .inl (kT, 2000, .inr (.inr (.inr (.inr fy))))), (q_1, .inr (20, [.int kd, .int 0, .int 0, .null]))] : va_W) ++ (sT L F)) := hD
        refine lv_aload hx hb dX23_type_83 (lv_at hl 0 rfl) ?_
        refine lv_iload_n hx hb dX23_type_85 rfl (lv_at hl 3 rfl) ?_
        refine va_put (D := (dC, dI)) (ci := 20) (v := .int ix) (ty := .int) (C := RX20) (T := TX20) (N := 4) hx hb hts in_c_typN_X20 tyX20 tyX20_ok nmX20 hown hK hP hD hS 2 rfl rfl 1 (by decide) (hts (.fieldLink RX23 387 "OwnedPlacesModel$Type" "index" "I") (wm_c_typN 4 rfl)) (fun _ h9 => h9) rfl (by decide +kernel) rfl rfl (Nat.le_of_ble_eq_true rfl) dX23_type_86 (fun H locs hP hD hS => ?_)
        have hP : va_P (dC, dI) vwCl (([(m9, .inr (23, mT mr mv vf ff xa (nI T) (nI im) (nI tm) xm (nI sc) (nI vm))), (mr 18, .inl (kT, 2000, .inr (.inr (.inr (.inr fy))))), (q_1, .inr (20, [.int kd, .int ix, .int 0, .null]))] : va_W) ++ (sT L F)) H := hP
        have hD : va_D A (([(m9, .inr (23, mT mr mv vf ff xa (nI T) (nI im) (nI tm) xm (nI sc) (nI vm))), (mr 18, .inl (kT, 2000, .inr (.inr (.inr (.inr fy))))), (q_1, .inr (20, [.int kd, .int ix, .int 0, .null]))] : va_W) ++ (sT L F)) := hD
        refine lv_aload hx hb dX23_type_89 (lv_at hl 0 rfl) ?_
        refine lv_aload_nN hx hb dX23_type_91 rfl (lv_at hl 4 rfl) ?_
        refine va_put (D := (dC, dI)) (ci := 20) (v := .null) (ty := (.object "OwnedPlacesModel$Type")) (C := RX20) (T := TX20) (N := 4) hx hb hts in_c_typN_X20 tyX20 tyX20_ok nmX20 hown hK hP hD hS 2 rfl rfl 3 (by decide) (hts (.fieldLink RX23 390 "OwnedPlacesModel$Type" "of" "LOwnedPlacesModel$Type;") (wm_c_typN 5 rfl)) (fun _ h9 => h9) rfl (by decide +kernel) rfl rfl (Nat.le_of_ble_eq_true rfl) dX23_type_92 (fun H locs hP hD hS => ?_)
        have hP : va_P (dC, dI) vwCl (([(m9, .inr (23, mT mr mv vf ff xa (nI T) (nI im) (nI tm) xm (nI sc) (nI vm))), (mr 18, .inl (kT, 2000, .inr (.inr (.inr (.inr fy))))), (q_1, .inr (20, [.int kd, .int ix, .int 0, .null]))] : va_W) ++ (sT L F)) H := hP
        have hD : va_D A (([(m9, .inr (23, mT mr mv vf ff xa (nI T) (nI im) (nI tm) xm (nI sc) (nI vm))), (mr 18, .inl (kT, 2000, .inr (.inr (.inr (.inr fy))))), (q_1, .inr (20, [.int kd, .int ix, .int 0, .null]))] : va_W) ++ (sT L F)) := hD
        refine lv_aload hx hb dX23_type_95 (lv_at hl 0 rfl) ?_
        refine lv_aload_n hx hb dX23_type_97 rfl (lv_at hl 1 rfl) ?_
        refine va_get (D := (dC, dI)) (ci := 23) (v := .int (nI tm)) (C := RX23) (T := TX23) (N := 89) hx hb hts in_c_typN_X23 hown hK hP 0 rfl rfl 19 (by decide) (hts (.fieldLink RX23 382 "OwnedPlacesModel" "typeMany" "I") (wm_c_typN 1 rfl)) (fun _ h9 => h9) rfl dX23_type_98 ?_
        refine va_put (D := (dC, dI)) (ci := 20) (v := .int (nI tm)) (ty := .int) (C := RX20) (T := TX20) (N := 4) hx hb hts in_c_typN_X20 tyX20 tyX20_ok nmX20 hown hK hP hD hS 2 rfl rfl 2 (by decide) (hts (.fieldLink RX23 394 "OwnedPlacesModel$Type" "id" "I") (wm_c_typN 14 rfl)) (fun _ h9 => h9) rfl (by decide +kernel) rfl rfl (Nat.le_of_ble_eq_true rfl) dX23_type_101 (fun H locs hP hD hS => ?_)
        have hP : va_P (dC, dI) vwCl (([(m9, .inr (23, mT mr mv vf ff xa (nI T) (nI im) (nI tm) xm (nI sc) (nI vm))), (mr 18, .inl (kT, 2000, .inr (.inr (.inr (.inr fy))))), (q_1, .inr (20, [.int kd, .int ix, .int (nI tm), .null]))] : va_W) ++ (sT L F)) H := hP
        have hD : va_D A (([(m9, .inr (23, mT mr mv vf ff xa (nI T) (nI im) (nI tm) xm (nI sc) (nI vm))), (mr 18, .inl (kT, 2000, .inr (.inr (.inr (.inr fy))))), (q_1, .inr (20, [.int kd, .int ix, .int (nI tm), .null]))] : va_W) ++ (sT L F)) := hD
        refine lv_aload_n hx hb dX23_type_104 rfl (lv_at hl 1 rfl) ?_
        refine va_get (D := (dC, dI)) (ci := 23) (v := .ref (mr 18)) (C := RX23) (T := TX23) (N := 89) hx hb hts in_c_typN_X23 hown hK hP 0 rfl rfl 18 (by decide) (hts (.fieldLink RX23 385 "OwnedPlacesModel" "types" "[LOwnedPlacesModel$Type;") (wm_c_typN 2 rfl)) (fun _ h9 => h9) rfl dX23_type_105 ?_
        refine lv_aload_n hx hb dX23_type_108 rfl (lv_at hl 1 rfl) ?_
        refine va_get (D := (dC, dI)) (ci := 23) (v := .int (nI tm)) (C := RX23) (T := TX23) (N := 89) hx hb hts in_c_typN_X23 hown hK hP 0 rfl rfl 19 (by decide) (hts (.fieldLink RX23 382 "OwnedPlacesModel" "typeMany" "I") (wm_c_typN 1 rfl)) (fun _ h9 => h9) rfl dX23_type_109 ?_
        refine lv_aload hx hb dX23_type_112 (lv_at hl 0 rfl) ?_
        refine va_astq (r := (RX20, TX20, 4)) hx hb hK hP hD hS 1 0 2 20 rfl rfl rfl rfl (vp_in_nI (show tm < 2000 by omega) (by decide)) dX23_type_114 (fun H locs hP hD hS => ?_)
        have hP : va_P (dC, dI) vwCl (([(m9, .inr (23, mT mr mv vf ff xa (nI T) (nI im) (nI tm) xm (nI sc) (nI vm))), (mr 18, .inl (kT, 2000, .inr (.inr (.inr (.inr (va_up fy (nI tm : Int32).toNatClampNeg (some q_1))))))), (q_1, .inr (20, [.int kd, .int ix, .int (nI tm), .null]))] : va_W) ++ (sT L F)) H := hP
        have hD : va_D A (([(m9, .inr (23, mT mr mv vf ff xa (nI T) (nI im) (nI tm) xm (nI sc) (nI vm))), (mr 18, .inl (kT, 2000, .inr (.inr (.inr (.inr (va_up fy (nI tm : Int32).toNatClampNeg (some q_1))))))), (q_1, .inr (20, [.int kd, .int ix, .int (nI tm), .null]))] : va_W) ++ (sT L F)) := hD
        obtain ⟨fA, efA⟩ : ∃ zZ : Nat → Option Nat, zZ = va_up fy (nI tm : Int32).toNatClampNeg (some q_1) := ⟨_, rfl⟩
        rw [← efA] at hP hD
        have hfA : fA = va_up fy tm (some q_1) := by rw [efA, nI_clamp (by omega)]
        refine lv_aload_n hx hb dX23_type_115 rfl (lv_at hl 1 rfl) ?_
        refine lv_dup hx hb dX23_type_116 rfl ?_
        refine va_get (D := (dC, dI)) (ci := 23) (v := .int (nI tm)) (C := RX23) (T := TX23) (N := 89) hx hb hts in_c_typN_X23 hown hK hP 0 rfl rfl 19 (by decide) (hts (.fieldLink RX23 382 "OwnedPlacesModel" "typeMany" "I") (wm_c_typN 1 rfl)) (fun _ h9 => h9) rfl dX23_type_117 ?_
        refine lv_iconst (v := 1) hx hb dX23_type_120 (by decide) ?_
        refine lv_iadd hx hb dX23_type_121 ?_
        refine lv_topi (fun f_3 ef_3 => ?_)
        obtain rfl : f_3 = nI (tm + 1) := ef_3.trans (nI_1 _)
        refine va_put (D := (dC, dI)) (ci := 23) (v := .int (nI (tm + 1))) (ty := .int) (C := RX23) (T := TX23) (N := 89) hx hb hts in_c_typN_X23 tyX23 tyX23_ok nmX23 hown hK hP hD hS 0 rfl rfl 19 (by decide) (hts (.fieldLink RX23 382 "OwnedPlacesModel" "typeMany" "I") (wm_c_typN 1 rfl)) (fun _ h9 => h9) rfl (by decide +kernel) rfl rfl (Nat.le_of_ble_eq_true rfl) dX23_type_122 (fun H locs hP hD hS => ?_)
        have hP : va_P (dC, dI) vwCl (([(m9, .inr (23, mT mr mv vf ff xa (nI T) (nI im) (nI (tm + 1)) xm (nI sc) (nI vm))), (mr 18, .inl (kT, 2000, .inr (.inr (.inr (.inr fA))))), (q_1, .inr (20, [.int kd, .int ix, .int (nI tm), .null]))] : va_W) ++ (sT L F)) H := hP
        have hD : va_D A (([(m9, .inr (23, mT mr mv vf ff xa (nI T) (nI im) (nI (tm + 1)) xm (nI sc) (nI vm))), (mr 18, .inl (kT, 2000, .inr (.inr (.inr (.inr fA))))), (q_1, .inr (20, [.int kd, .int ix, .int (nI tm), .null]))] : va_W) ++ (sT L F)) := hD
        refine lv_aload hx hb dX23_type_125 (lv_at hl 0 rfl) ?_
        have hP : va_P (dC, dI) vwCl ((([(m9, .inr (23, mT mr mv vf ff xa (nI T) (nI im) (nI (tm + 1)) xm (nI sc) (nI vm))), (mr 18, .inl (kT, 2000, .inr (.inr (.inr (.inr fA)))))] : va_W) ++ ([(q_1, .inr (20, [.int kd, .int ix, .int (nI tm), .null]))] : va_W)) ++ sT L F) H := hP.subT (f' := [(m9, .inr (23, mT mr mv vf ff xa (nI T) (nI im) (nI (tm + 1)) xm (nI sc) (nI vm))), (mr 18, .inl (kT, 2000, .inr (.inr (.inr (.inr fA))))), (q_1, .inr (20, [.int kd, .int ix, .int (nI tm), .null]))]) [0, 1, 2] rfl
        have hD : va_D A ((([(m9, .inr (23, mT mr mv vf ff xa (nI T) (nI im) (nI (tm + 1)) xm (nI sc) (nI vm))), (mr 18, .inl (kT, 2000, .inr (.inr (.inr (.inr fA)))))] : va_W) ++ ([(q_1, .inr (20, [.int kd, .int ix, .int (nI tm), .null]))] : va_W)) ++ sT L F) := hD.subT (f' := [(m9, .inr (23, mT mr mv vf ff xa (nI T) (nI im) (nI (tm + 1)) xm (nI sc) (nI vm))), (mr 18, .inl (kT, 2000, .inr (.inr (.inr (.inr fA))))), (q_1, .inr (20, [.int kd, .int ix, .int (nI tm), .null]))]) [0, 1, 2] (by decide) rfl
        obtain ⟨L9, F9, hx9, hm9, hP, hD⟩ := st_fileL [(q_1, .inr (20, [.int kd, .int ix, .int (nI tm), .null]))] hP hD
        have hm9_0 := hm9 _ (List.mem_of_getElem? (i := 0) rfl)
        rw [hfA] at hP hD
        have hP : va_P (dC, dI) vwCl (([(m9, .inr (23, mT mr mv vf ff xa (nI T) (nI im) (nI (tm + 1)) xm (nI sc) (nI vm))), (mr 18, .inl (kT, 2000, .inr (.inr (.inr (.inr (va_up fy tm (some q_1)))))))] : va_W) ++ (sT L9 F9)) H := hP
        have hD : va_D A (([(m9, .inr (23, mT mr mv vf ff xa (nI T) (nI im) (nI (tm + 1)) xm (nI sc) (nI vm))), (mr 18, .inl (kT, 2000, .inr (.inr (.inr (.inr (va_up fy tm (some q_1)))))))] : va_W) ++ (sT L9 F9)) := hD
        refine W.grow (fun hgs0 hgs1 => ?_)
        have hP9 := hP.subT (f' := [(m9, .inr (23, mT mr mv vf ff xa (nI T) (nI im) (nI (tm + 1)) xm (nI sc) (nI vm))), (mr 18, .inl (kT, 2000, .inr (.inr (.inr (.inr (va_up fy tm (some q_1)))))))]) [0, 1] rfl
        have hD9 := hD.subT (f' := [(m9, .inr (23, mT mr mv vf ff xa (nI T) (nI im) (nI (tm + 1)) xm (nI sc) (nI vm))), (mr 18, .inl (kT, 2000, .inr (.inr (.inr (.inr (va_up fy tm (some q_1)))))))]) [0, 1] (by decide) rfl
        have hK9 := hK.sub (tys' := [(kT, .object RX20)]) [0] rfl
        refine W.widen (k := 1) (n := 4) (by omega) (by omega) ?_
        subst hQ1
        exact W.aret hx hb hr (Or.inl ⟨_, rfl⟩) (Or.inr ⟨q_1, rfl⟩) (fun tS ht hW => ⟨⟨(), q_1, rfl, trivial, L9, F9, tm + 1, (va_up fy tm (some q_1)), (fun t => if t = tm then (kd, ix, none) else Y t), (fun t => if t = tm then q_1 else ad t), tm, hx9, Or.inr ⟨rfl, rfl⟩, (fun t ht => ⟨if_neg (by omega), if_neg (by omega)⟩), tyW_new hx9 htw hm9_0.1 hm9_0.2 (Or.inl rfl) hr1, ⟨by omega, (if_pos rfl).symm, if_pos rfl⟩, ⟨(ptN_new hr1).1, fun h7 h8 => (ptN_new hr1).2 h7 rfl h8⟩, by rw [ht]; exact ⟨by omega, by omega⟩, by rw [ht]; exact hP9, va_K.moved hW.alike hK9, hD9⟩, hS.F ht⟩) hS.2.2 dX23_type_127
      · have hin : i < tm := by rcases Nat.lt_or_ge i tm with z9 | z9; exact z9; exact absurd (nI_le z9 (by omega)) hk
        obtain ⟨h1, h2, h3, h4⟩ := htw.1 i hin
        refine lv_aload_n hx hb dX23_type_12 rfl (lv_at hl 1 rfl) ?_
        refine va_get (D := (dC, dI)) (ci := 23) (v := .ref (mr 18)) (C := RX23) (T := TX23) (N := 89) hx hb hts in_c_typN_X23 hown hK hP 0 rfl rfl 18 (by decide) (hts (.fieldLink RX23 385 "OwnedPlacesModel" "types" "[LOwnedPlacesModel$Type;") (wm_c_typN 2 rfl)) (fun _ h9 => h9) rfl dX23_type_13 ?_
        refine lv_iload hx hb dX23_type_16 (lv_at hl 0 rfl) ?_
        refine va_aldq hx hb hK hP 1 0 rfl rfl (vp_in_nI (show i < 2000 by omega) (by decide)) dX23_type_18 ?_
        refine W.eq (g2 := F0 m 19 ls (.ref (ad i) :: [])) (by show F0 m _ ls (va_rf _ :: _) = _; rw [nI_clamp (show i < 2 ^ 31 by omega), h1]; rfl) ?_
        refine va_get (D := (dC, dI)) (ci := 20) (v := .int ((Y i).1)) (C := RX20) (T := TX20) (N := 4) hx hb hts in_c_typN_X20 hown hK (va_P.st hP h2 h3) 0 rfl rfl 0 (by decide) (hts (.fieldLink RX23 386 "OwnedPlacesModel$Type" "kind" "I") (wm_c_typN 3 rfl)) (fun _ h9 => h9) rfl dX23_type_19 ?_
        refine lv_iload_n hx hb dX23_type_22 rfl (lv_at hl 2 rfl) ?_
        refine lv_icmp_ne (tgt := 62) hx hb dX23_type_23 (by decide) (fun hy1 => ?_) (fun hy1 => ?_)
        · have hn9 : ∀ t : Nat, t < i + 1 → ¬ Y t = (kd, ix, none) := fun t ht q9 => by
            rcases Nat.lt_or_ge t i with z9 | z9
            · exact hr1 t z9 q9
            · obtain rfl : t = i := by omega
              rw [q9] at hy1; exact hy1 rfl
          obtain ⟨x_1, ex_1⟩ : ∃ yY : Int32, yY = (nI i) + 1 := ⟨_, rfl⟩
          refine lv_iinc (v := x_1) (lv' := [(4, .int x_1), (0, .ref m9), (1, .int kd), (2, .int ix), (3, .null)]) hx hb dX23_type_62 hl (k := 0) rfl (by rw [ex_1]; rfl) (by decide) rfl (fun ls hl => ?_)
          obtain rfl : x_1 = nI (i + 1) := by rw [ex_1]; exact nI_1 i
          have hl : lv_has ls 5 [(4, .int (nI (i + 1))), (0, .ref m9), (1, .int kd), (2, .int ix), (3, .null)] := hl
          refine lv_goto (tgt := 3) hx hb dX23_type_65 (by decide) ?_
          exact ih1 (i + 1) _ _ _ (by omega) hn9 (hP.subT [0, 1] rfl) (hD.subT [0, 1] (by decide) rfl) hS (lv_sub hl [0, 1, 2, 3, 4] rfl)
        · refine lv_aload_n hx hb dX23_type_26 rfl (lv_at hl 1 rfl) ?_
          refine va_get (D := (dC, dI)) (ci := 23) (v := .ref (mr 18)) (C := RX23) (T := TX23) (N := 89) hx hb hts in_c_typN_X23 hown hK hP 0 rfl rfl 18 (by decide) (hts (.fieldLink RX23 385 "OwnedPlacesModel" "types" "[LOwnedPlacesModel$Type;") (wm_c_typN 2 rfl)) (fun _ h9 => h9) rfl dX23_type_27 ?_
          refine lv_iload hx hb dX23_type_30 (lv_at hl 0 rfl) ?_
          refine va_aldq hx hb hK hP 1 0 rfl rfl (vp_in_nI (show i < 2000 by omega) (by decide)) dX23_type_32 ?_
          refine W.eq (g2 := F0 m 33 ls (.ref (ad i) :: [])) (by show F0 m _ ls (va_rf _ :: _) = _; rw [nI_clamp (show i < 2 ^ 31 by omega), h1]; rfl) ?_
          refine va_get (D := (dC, dI)) (ci := 20) (v := .int ((Y i).2.1)) (C := RX20) (T := TX20) (N := 4) hx hb hts in_c_typN_X20 hown hK (va_P.st hP h2 h3) 0 rfl rfl 1 (by decide) (hts (.fieldLink RX23 387 "OwnedPlacesModel$Type" "index" "I") (wm_c_typN 4 rfl)) (fun _ h9 => h9) rfl dX23_type_33 ?_
          refine lv_iload_n hx hb dX23_type_36 rfl (lv_at hl 3 rfl) ?_
          refine lv_icmp_ne (tgt := 62) hx hb dX23_type_37 (by decide) (fun hy2 => ?_) (fun hy2 => ?_)
          · have hn9 : ∀ t : Nat, t < i + 1 → ¬ Y t = (kd, ix, none) := fun t ht q9 => by
              rcases Nat.lt_or_ge t i with z9 | z9
              · exact hr1 t z9 q9
              · obtain rfl : t = i := by omega
                rw [q9] at hy2; exact hy2 rfl
            obtain ⟨x_1, ex_1⟩ : ∃ yY : Int32, yY = (nI i) + 1 := ⟨_, rfl⟩
            refine lv_iinc (v := x_1) (lv' := [(4, .int x_1), (0, .ref m9), (1, .int kd), (2, .int ix), (3, .null)]) hx hb dX23_type_62 hl (k := 0) rfl (by rw [ex_1]; rfl) (by decide) rfl (fun ls hl => ?_)
            obtain rfl : x_1 = nI (i + 1) := by rw [ex_1]; exact nI_1 i
            have hl : lv_has ls 5 [(4, .int (nI (i + 1))), (0, .ref m9), (1, .int kd), (2, .int ix), (3, .null)] := hl
            refine lv_goto (tgt := 3) hx hb dX23_type_65 (by decide) ?_
            exact ih1 (i + 1) _ _ _ (by omega) hn9 (hP.subT [0, 1] rfl) (hD.subT [0, 1] (by decide) rfl) hS (lv_sub hl [0, 1, 2, 3, 4] rfl)
          · refine lv_aload_n hx hb dX23_type_40 rfl (lv_at hl 1 rfl) ?_
            refine va_get (D := (dC, dI)) (ci := 23) (v := .ref (mr 18)) (C := RX23) (T := TX23) (N := 89) hx hb hts in_c_typN_X23 hown hK hP 0 rfl rfl 18 (by decide) (hts (.fieldLink RX23 385 "OwnedPlacesModel" "types" "[LOwnedPlacesModel$Type;") (wm_c_typN 2 rfl)) (fun _ h9 => h9) rfl dX23_type_41 ?_
            refine lv_iload hx hb dX23_type_44 (lv_at hl 0 rfl) ?_
            refine va_aldq hx hb hK hP 1 0 rfl rfl (vp_in_nI (show i < 2000 by omega) (by decide)) dX23_type_46 ?_
            refine W.eq (g2 := F0 m 47 ls (.ref (ad i) :: [])) (by show F0 m _ ls (va_rf _ :: _) = _; rw [nI_clamp (show i < 2 ^ 31 by omega), h1]; rfl) ?_
            refine va_get (D := (dC, dI)) (ci := 20) (v := (va_rf (Y i).2.2)) (C := RX20) (T := TX20) (N := 4) hx hb hts in_c_typN_X20 hown hK (va_P.st hP h2 h3) 0 rfl rfl 3 (by decide) (hts (.fieldLink RX23 390 "OwnedPlacesModel$Type" "of" "LOwnedPlacesModel$Type;") (wm_c_typN 5 rfl)) (fun _ h9 => h9) rfl dX23_type_47 ?_
            refine lv_aload_nN hx hb dX23_type_50 rfl (lv_at hl 4 rfl) ?_
            refine lv_acmp_ne (rx := (Y i).2.2) (ry := none) (tgt := 62) hx hb dX23_type_51 (by decide) (fun hy3 => ?_) (fun hy3 => ?_)
            · have hn9 : ∀ t : Nat, t < i + 1 → ¬ Y t = (kd, ix, none) := fun t ht q9 => by
                rcases Nat.lt_or_ge t i with z9 | z9
                · exact hr1 t z9 q9
                · obtain rfl : t = i := by omega
                  rw [q9] at hy3; exact hy3 rfl
              obtain ⟨x_1, ex_1⟩ : ∃ yY : Int32, yY = (nI i) + 1 := ⟨_, rfl⟩
              refine lv_iinc (v := x_1) (lv' := [(4, .int x_1), (0, .ref m9), (1, .int kd), (2, .int ix), (3, .null)]) hx hb dX23_type_62 hl (k := 0) rfl (by rw [ex_1]; rfl) (by decide) rfl (fun ls hl => ?_)
              obtain rfl : x_1 = nI (i + 1) := by rw [ex_1]; exact nI_1 i
              have hl : lv_has ls 5 [(4, .int (nI (i + 1))), (0, .ref m9), (1, .int kd), (2, .int ix), (3, .null)] := hl
              refine lv_goto (tgt := 3) hx hb dX23_type_65 (by decide) ?_
              exact ih1 (i + 1) _ _ _ (by omega) hn9 (hP.subT [0, 1] rfl) (hD.subT [0, 1] (by decide) rfl) hS (lv_sub hl [0, 1, 2, 3, 4] rfl)
            · have hY9 : Y i = (kd, ix, none) := Prod.ext hy1 (Prod.ext hy2 hy3)
              refine lv_aload_n hx hb dX23_type_54 rfl (lv_at hl 1 rfl) ?_
              refine va_get (D := (dC, dI)) (ci := 23) (v := .ref (mr 18)) (C := RX23) (T := TX23) (N := 89) hx hb hts in_c_typN_X23 hown hK hP 0 rfl rfl 18 (by decide) (hts (.fieldLink RX23 385 "OwnedPlacesModel" "types" "[LOwnedPlacesModel$Type;") (wm_c_typN 2 rfl)) (fun _ h9 => h9) rfl dX23_type_55 ?_
              refine lv_iload hx hb dX23_type_58 (lv_at hl 0 rfl) ?_
              refine va_aldq hx hb hK hP 1 0 rfl rfl (vp_in_nI (show i < 2000 by omega) (by decide)) dX23_type_60 ?_
              refine W.eq (g2 := F0 m 61 ls (.ref (ad i) :: [])) (by show F0 m _ ls (va_rf _ :: _) = _; rw [nI_clamp (show i < 2 ^ 31 by omega), h1]; rfl) ?_
              refine W.grow (fun hgs0 hgs1 => ?_)
              have hP9 := hP.subT (f' := [(m9, .inr (23, mT mr mv vf ff xa (nI T) (nI im) (nI tm) xm (nI sc) (nI vm))), (mr 18, .inl (kT, 2000, .inr (.inr (.inr (.inr fy)))))]) [0, 1] rfl
              have hD9 := hD.subT (f' := [(m9, .inr (23, mT mr mv vf ff xa (nI T) (nI im) (nI tm) xm (nI sc) (nI vm))), (mr 18, .inl (kT, 2000, .inr (.inr (.inr (.inr fy)))))]) [0, 1] (by decide) rfl
              have hK9 := hK.sub (tys' := [(kT, .object RX20)]) [0] rfl
              refine W.widen (k := 1) (n := 4) (by omega) (by omega) ?_
              subst hQ1
              exact W.aret hx hb hr (Or.inl ⟨_, rfl⟩) (Or.inr ⟨ad i, rfl⟩) (fun tS ht hW => ⟨⟨(), ad i, rfl, trivial, L, F, tm, fy, Y, ad, i, exS.rf, Or.inl rfl, (fun t ht => ⟨rfl, rfl⟩), htw, ⟨hin, rfl, hY9⟩, ⟨by omega, fun _ _ => Nat.le_refl _⟩, by rw [ht]; exact ⟨by omega, by omega⟩, by rw [ht]; exact hP9, va_K.moved hW.alike hK9, hD9⟩, hS.F ht⟩) hS.2.2 dX23_type_61
  exact key1 (tm + 1) 0 _ _ _ (by omega) (fun t ht => absurd ht (by omega)) (hP.subT [0, 1] rfl) (hD.subT [0, 1] (by decide) rfl) hS (lv_sub hl [0, 1, 2, 3, 4] rfl)
set_option maxRecDepth 20000 in
theorem g_c_typR_c_nT_72 : GoodIn wp_c_typN wp_c_nT := goodIn_app (goodIn_f (wf_c_nT) [9, 10, 11, 12] rfl wg_c_nT) (goodIn_n)
set_option maxHeartbeats 4000000 in
set_option maxRecDepth 100000 in
theorem c_typR (l : Launch) (dC : Nat → ClassId) (dI : Nat → Nat → Nat) (m9 : Nat) (mr : Nat → Nat) (mv : Nat → Int32) (vf : Value) (ff xa xm : Int32) (T im tm sc vm : Nat) (kI : ClassId) (L : List Nat) (F : Nat → va_E) (kT : ClassId) (fy : Nat → Option Nat) (Y : Nat → Int32 × Int32 × Option Nat) (ad : Nat → Nat) (kd ix : Int32) (oo : Nat) (sl : Nat) (sz : Nat) (htw : tyW L F fy tm Y ad) (htm : tm < 2000) (hoo : ∃ u : Nat, u < tm ∧ oo = ad u) : Met l yX23_type wp_c_typN ({ frames := 2, cells := 1, slots := 4, locals := 32 }) (va_Pc [.ref m9, .int kd, .int ix, .ref oo] (fun U => U.heap.size = sz ∧ va_P (dC, dI) vwCl (([(m9, .inr (23, mT mr mv vf ff xa (nI T) (nI im) (nI tm) xm (nI sc) (nI vm))), (mr 18, .inl (kT, 2000, .inr (.inr (.inr (.inr fy)))))] : va_W) ++ (sT L F)) U.heap ∧ va_K (dC, dI) vwCl [(kT, .object RX20)] U ∧ va_D (fun _ => True) (([(m9, .inr (23, mT mr mv vf ff xa (nI T) (nI im) (nI tm) xm (nI sc) (nI vm))), (mr 18, .inl (kT, 2000, .inr (.inr (.inr (.inr fy)))))] : va_W) ++ (sT L F)) ∧ nsM U ∧ slN U.heap = sl)) (va_Qr (fun _ : Unit => True) (fun (_ : Unit) (rA : Nat) (tS : State) => ∃ (L2 : List Nat) (F2 : Nat → va_E) (tm2 : Nat) (fy2 : Nat → Option Nat) (Y2 : Nat → Int32 × Int32 × Option Nat) (ad2 : Nat → Nat) (t2 : Nat), (exS L F L2 F2) ∧ (tm2 = tm ∨ (tm2 = tm + 1 ∧ t2 = tm)) ∧ (∀ t : Nat, t < tm → Y2 t = Y t ∧ ad2 t = ad t) ∧ (tyW L2 F2 fy2 tm2 Y2 ad2) ∧ (t2 < tm2 ∧ rA = ad2 t2 ∧ Y2 t2 = (kd, ix, (some oo))) ∧ (ptN Y2 tm2 ≤ ptN Y tm + 1) ∧ (tS.heap.size ≤ sz + ((tm2 - tm)) ∧ slN tS.heap ≤ sl + (4 * (tm2 - tm))) ∧ va_P (dC, dI) vwCl (([(m9, .inr (23, mT mr mv vf ff xa (nI T) (nI im) (nI tm2) xm (nI sc) (nI vm))), (mr 18, .inl (kT, 2000, .inr (.inr (.inr (.inr fy2)))))] : va_W) ++ (sT L2 F2)) tS.heap ∧ va_K (dC, dI) vwCl [(kT, .object RX20)] tS ∧ va_D (va_A (([(m9, .inr (23, mT mr mv vf ff xa (nI T) (nI im) (nI tm) xm (nI sc) (nI vm))), (mr 18, .inl (kT, 2000, .inr (.inr (.inr (.inr fy)))))] : va_W) ++ (sT L F)) sz) (([(m9, .inr (23, mT mr mv vf ff xa (nI T) (nI im) (nI tm2) xm (nI sc) (nI vm))), (mr 18, .inl (kT, 2000, .inr (.inr (.inr (.inr fy2)))))] : va_W) ++ (sT L2 F2))) (va_A (([(m9, .inr (23, mT mr mv vf ff xa (nI T) (nI im) (nI tm) xm (nI sc) (nI vm))), (mr 18, .inl (kT, 2000, .inr (.inr (.inr (.inr fy)))))] : va_W) ++ (sT L F)) sz)) 1 4 (va_A (([(m9, .inr (23, mT mr mv vf ff xa (nI T) (nI im) (nI tm) xm (nI sc) (nI vm))), (mr 18, .inl (kT, 2000, .inr (.inr (.inr (.inr fy)))))] : va_W) ++ (sT L F)) sz) := by
  refine Met.ofW (cc := cX23_type) (maxL := 5) (ret := (some (.object "OwnedPlacesModel$Type"))) (by decide) rfl ?_
  intro p e s m args below meth c s₁ B hml hv
  obtain ⟨rfl, hsz, hP, hK, hD0, hpre0, hpre1⟩ := hv
  have hx := B.exec
  have hb := B.bytes
  have hr := B.returns
  have hts := atoms_spec (ws := wp_c_typN) B.pre
  have hown : s.vm.findClass RX23 = some m.cls := findClass_of_methodNamed B.named
  have hlocks := B.notSynchronized
  subst hsz
  have hD := hD0.self (sz := s.heap.size)
  generalize hAe : va_A (([(m9, .inr (23, mT mr mv vf ff xa (nI T) (nI im) (nI tm) xm (nI sc) (nI vm))), (mr 18, .inl (kT, 2000, .inr (.inr (.inr (.inr fy)))))] : va_W) ++ (sT L F)) s.heap.size = A at hD ⊢
  have hA : ∀ q : Nat, s.heap.size ≤ q → A q := fun q h => by rw [← hAe]; exact Or.inr h
  have hS : va_S A s.heap s.heap [] := va_S.rf
  have hP : va_P (dC, dI) vwCl (([(m9, .inr (23, mT mr mv vf ff xa (nI T) (nI im) (nI tm) xm (nI sc) (nI vm))), (mr 18, .inl (kT, 2000, .inr (.inr (.inr (.inr fy)))))] : va_W) ++ (sT L F)) s.heap := hP
  have hl := lv_entry ([.ref m9, .int kd, .int ix, .ref oo]) (n := 5) (Nat.le_of_ble_eq_true rfl)
  rw [lg_entry_eq]
  generalize (lg_sl ([.ref m9, .int kd, .int ix, .ref oo]) ++ List.replicate (5 - (lg_sl ([.ref m9, .int kd, .int ix, .ref oo])).length) Slot.unset).toArray = ls at hl ⊢
  have hl : lv_has ls 5 [(0, .ref m9), (1, .int kd), (2, .int ix), (3, .ref oo)] := hl
  have hns := hpre0
  subst hpre1
  refine lv_iconst (v := 0) hx hb dX23_type_0 (by decide) ?_
  refine lv_istore (lv' := [(4, .int 0), (0, .ref m9), (1, .int kd), (2, .int ix), (3, .ref oo)]) hx hb dX23_type_1 hl (by decide) rfl (fun ls hl => ?_)
  refine W_q (fun Q1 hQ1 => ?_)
  have key1 : ∀ (n1 : Nat) (i : Nat) (H : Heap) (locs : List Loc) (ls : Array Slot), (i + n1 = tm + 1 ∧ i ≤ tm) → (∀ t : Nat, t < i → ¬ Y t = (kd, ix, (some oo))) → va_P (dC, dI) vwCl (([(m9, .inr (23, mT mr mv vf ff xa (nI T) (nI im) (nI tm) xm (nI sc) (nI vm))), (mr 18, .inl (kT, 2000, .inr (.inr (.inr (.inr fy)))))] : va_W) ++ (sT L F)) H → va_D A (([(m9, .inr (23, mT mr mv vf ff xa (nI T) (nI im) (nI tm) xm (nI sc) (nI vm))), (mr 18, .inl (kT, 2000, .inr (.inr (.inr (.inr fy)))))] : va_W) ++ (sT L F)) → va_S A s.heap H locs → lv_has ls 5 [(4, .int (nI i)), (0, .ref m9), (1, .int kd), (2, .int ix), (3, .ref oo)] → W p l e (headSpec wp_c_typN ({ frames := 2, cells := 1, slots := 4, locals := 32 })).room s m ([.ref m9, .int kd, .int ix, .ref oo] : List Value).toArray below meth c H locs 0 0 Q1 (F0 m 3 ls []) := by
    intro n1
    induction n1 with
    | zero => intro i H locs ls hr0 hr1; exact absurd hr0 (by omega)
    | succ n1 ih1 =>
      intro i H locs ls hr0 hr1 hP hD hS hl
      refine lv_iload hx hb dX23_type_3 (lv_at hl 0 rfl) ?_
      refine lv_aload_n hx hb dX23_type_5 rfl (lv_at hl 1 rfl) ?_
      refine va_get (D := (dC, dI)) (ci := 23) (v := .int (nI tm)) (C := RX23) (T := TX23) (N := 89) hx hb hts in_c_typN_X23 hown hK hP 0 rfl rfl 19 (by decide) (hts (.fieldLink RX23 382 "OwnedPlacesModel" "typeMany" "I") (wm_c_typN 1 rfl)) (fun _ h9 => h9) rfl dX23_type_6 ?_
      refine lv_icmp_ge (tgt := 68) hx hb dX23_type_9 (by decide) (fun hk => ?_) (fun hk => ?_)
      · have hin : tm = i := by have := (nI_leI (a := tm) (b := i) (by omega) (by omega)).mp hk; omega
        subst hin
        refine va_new (ci := 20) (fs := [.int 0, .int 0, .int 0, .null]) (C := RX20) (T := TX20) (N := 4) hx hb hts in_c_typN_X20 tyX20 tyX20_ok hown (hts (.classLink RX23 164 RX20) (wm_c_typN 6 rfl)) (hts (.instantiable RX20 4) (wm_c_typN 7 rfl)) (hts (.initialized RX20) (wm_c_typN 8 rfl)) hK hP hD hS hA rfl dv_X20 (show 0 + 1 ≤ 1 by omega) (show 0 + 4 ≤ 4 by omega) dX23_type_68 (fun q_1 H hP hD hS => ?_)
        have hP := va_P.nt hP
        have hD := va_D.nt hD
        have hP : va_P (dC, dI) vwCl (([(m9, .inr (23, mT mr mv vf ff xa (nI T) (nI im) (nI tm) xm (nI sc) (nI vm))), (mr 18, .inl (kT, 2000, .inr (.inr (.inr (.inr fy))))), (q_1, .inr (20, [.int 0, .int 0, .int 0, .null]))] : va_W) ++ (sT L F)) H := hP
        have hD : va_D A (([(m9, .inr (23, mT mr mv vf ff xa (nI T) (nI im) (nI tm) xm (nI sc) (nI vm))), (mr 18, .inl (kT, 2000, .inr (.inr (.inr (.inr fy))))), (q_1, .inr (20, [.int 0, .int 0, .int 0, .null]))] : va_W) ++ (sT L F)) := hD
        refine W.widen (k := 1) (n := 4) (by omega) (by omega) ?_
        refine lv_dup hx hb dX23_type_71 rfl ?_
        have hPc := hP.subF (f' := [(q_1, .inr (20, [.int 0, .int 0, .int 0, .null]))]) [2] rfl
        have hDc := hD.subF (f' := [(q_1, .inr (20, [.int 0, .int 0, .int 0, .null]))]) [2] (by decide) rfl
        have hKc := hK.sub (tys' := []) [] rfl
        have hFc := va_freeT (wc := [(q_1, .inr (20, [.int 0, .int 0, .int 0, .null]))]) hD hS hA [2] rfl
        refine va_callv (va_runIN (As := []) (rest := [.ref q_1]) ⟨hx, hb, hml, hown, hts⟩ (c_nT l dC dI q_1 H.size) ⟨va_cnB 0 hts g_c_typR_c_nT_72 rfl rfl rfl hns.1.2.2.2.2.2.2.2.1 (hts (.initialized RX20) (wm_c_typN 8 rfl)) (by decide +kernel) ⟨Nat.le_of_ble_eq_true rfl, Nat.le_of_ble_eq_true rfl⟩, rfl, (hts (.instanceMethod yX20_init) (wm_c_typN 13 rfl))⟩ ⟨fun a U g mk q => by obtain ⟨q0, q1, qP, qK, qD⟩ := q; exact ⟨q0, q1, qP, va_K.moved (u := U) (U := U.calling g mk a) (Vm.Alike.refl U.vm) qK, qD⟩, fun U hU hW => ⟨rfl, by rw [hU], by rw [hU]; exact hPc, va_K.moved hW.alike hKc, hDc.weaken (fun _ _ _ _ => trivial)⟩⟩ rfl rfl hl.1 rfl (lv_room (Nat.le_of_ble_eq_true rfl)) dX23_type_72 ⟨(show 1 + 0 ≤ 1 by omega), (show 4 + 0 ≤ 4 by omega)⟩) hS (fun q _ h => hFc q h) hFc (fun u tS H1 locs ht hvm hw hB hz1 hk1 hS => ?_)
        obtain ⟨hP1, hK1, hD1⟩ := hB
        rw [ht] at hP1
        have hK1 := va_K.moved hvm.symm hK1
        obtain ⟨hP, hD⟩ := va_joinT (wr := [(m9, .inr (23, mT mr mv vf ff xa (nI T) (nI im) (nI tm) xm (nI sc) (nI vm))), (mr 18, .inl (kT, 2000, .inr (.inr (.inr (.inr fy)))))]) (w1 := [(q_1, .inr (20, [.int 0, .int 0, .int 0, .null]))]) hP hD [2] [0, 1] rfl rfl (by decide) (by decide) hk1 hFc hP1 hD1
        generalize H1 = H at hP hS ⊢
        have hP : va_P (dC, dI) vwCl (([(m9, .inr (23, mT mr mv vf ff xa (nI T) (nI im) (nI tm) xm (nI sc) (nI vm))), (mr 18, .inl (kT, 2000, .inr (.inr (.inr (.inr fy))))), (q_1, .inr (20, [.int 0, .int 0, .int 0, .null]))] : va_W) ++ (sT L F)) H := hP
        have hD : va_D A (([(m9, .inr (23, mT mr mv vf ff xa (nI T) (nI im) (nI tm) xm (nI sc) (nI vm))), (mr 18, .inl (kT, 2000, .inr (.inr (.inr (.inr fy))))), (q_1, .inr (20, [.int 0, .int 0, .int 0, .null]))] : va_W) ++ (sT L F)) := hD
        have hK : va_K (dC, dI) vwCl [(kT, .object RX20)] s := hK
        clear hz1 hk1 hPc hDc hKc hFc hP1 hD1 hK1
        refine lv_astore (lv' := [(4, .ref q_1), (0, .ref m9), (1, .int kd), (2, .int ix), (3, .ref oo)]) hx hb dX23_type_75 hl (by decide) rfl (fun ls hl => ?_)
        refine lv_aload hx hb dX23_type_77 (lv_at hl 0 rfl) ?_
        refine lv_iload_n hx hb dX23_type_79 rfl (lv_at hl 2 rfl) ?_
        refine va_put (D := (dC, dI)) (ci := 20) (v := .int kd) (ty := .int) (C := RX20) (T := TX20) (N := 4) hx hb hts in_c_typN_X20 tyX20 tyX20_ok nmX20 hown hK hP hD hS 2 rfl rfl 0 (by decide) (hts (.fieldLink RX23 386 "OwnedPlacesModel$Type" "kind" "I") (wm_c_typN 3 rfl)) (fun _ h9 => h9) rfl (by decide +kernel) rfl rfl (Nat.le_of_ble_eq_true rfl) dX23_type_80 (fun H locs hP hD hS => ?_)
        have hP : va_P (dC, dI) vwCl (([(m9, .inr (23, mT mr mv vf ff xa (nI T) (nI im) (nI tm) xm (nI sc) (nI vm))), (mr 18, .inl (kT, 2000, .inr (.inr (.inr (.inr fy))))), (q_1, .inr (20, [.int kd, .int 0, .int 0, .null]))] : va_W) ++ (sT L F)) H := hP
        have hD : va_D A (([(m9, .inr (23, mT mr mv vf ff xa (nI T) (nI im) (nI tm) xm (nI sc) (nI vm))), (mr 18, .inl (kT, 2000, .inr (.inr (.inr (.inr fy))))), (q_1, .inr (20, [.int kd, .int 0, .int 0, .null]))] : va_W) ++ (sT L F)) := hD
        refine lv_aload hx hb dX23_type_83 (lv_at hl 0 rfl) ?_
        refine lv_iload_n hx hb dX23_type_85 rfl (lv_at hl 3 rfl) ?_
        refine va_put (D := (dC, dI)) (ci := 20) (v := .int ix) (ty := .int) (C := RX20) (T := TX20) (N := 4) hx hb hts in_c_typN_X20 tyX20 tyX20_ok nmX20 hown hK hP hD hS 2 rfl rfl 1 (by decide) (hts (.fieldLink RX23 387 "OwnedPlacesModel$Type" "index" "I") (wm_c_typN 4 rfl)) (fun _ h9 => h9) rfl (by decide +kernel) rfl rfl (Nat.le_of_ble_eq_true rfl) dX23_type_86 (fun H locs hP hD hS => ?_)
        have hP : va_P (dC, dI) vwCl (([(m9, .inr (23, mT mr mv vf ff xa (nI T) (nI im) (nI tm) xm (nI sc) (nI vm))), (mr 18, .inl (kT, 2000, .inr (.inr (.inr (.inr fy))))), (q_1, .inr (20, [.int kd, .int ix, .int 0, .null]))] : va_W) ++ (sT L F)) H := hP
        have hD : va_D A (([(m9, .inr (23, mT mr mv vf ff xa (nI T) (nI im) (nI tm) xm (nI sc) (nI vm))), (mr 18, .inl (kT, 2000, .inr (.inr (.inr (.inr fy))))), (q_1, .inr (20, [.int kd, .int ix, .int 0, .null]))] : va_W) ++ (sT L F)) := hD
        refine lv_aload hx hb dX23_type_89 (lv_at hl 0 rfl) ?_
        refine lv_aload_n hx hb dX23_type_91 rfl (lv_at hl 4 rfl) ?_
        refine va_put (D := (dC, dI)) (ci := 20) (v := .ref oo) (ty := (.object "OwnedPlacesModel$Type")) (C := RX20) (T := TX20) (N := 4) hx hb hts in_c_typN_X20 tyX20 tyX20_ok nmX20 hown hK hP hD hS 2 rfl rfl 3 (by decide) (hts (.fieldLink RX23 390 "OwnedPlacesModel$Type" "of" "LOwnedPlacesModel$Type;") (wm_c_typN 5 rfl)) (fun _ h9 => h9) rfl (by decide +kernel) rfl rfl (Nat.le_of_ble_eq_true rfl) dX23_type_92 (fun H locs hP hD hS => ?_)
        have hP : va_P (dC, dI) vwCl (([(m9, .inr (23, mT mr mv vf ff xa (nI T) (nI im) (nI tm) xm (nI sc) (nI vm))), (mr 18, .inl (kT, 2000, .inr (.inr (.inr (.inr fy))))), (q_1, .inr (20, [.int kd, .int ix, .int 0, .ref oo]))] : va_W) ++ (sT L F)) H := hP
        have hD : va_D A (([(m9, .inr (23, mT mr mv vf ff xa (nI T) (nI im) (nI tm) xm (nI sc) (nI vm))), (mr 18, .inl (kT, 2000, .inr (.inr (.inr (.inr fy))))), (q_1, .inr (20, [.int kd, .int ix, .int 0, .ref oo]))] : va_W) ++ (sT L F)) := hD
        refine lv_aload hx hb dX23_type_95 (lv_at hl 0 rfl) ?_
        refine lv_aload_n hx hb dX23_type_97 rfl (lv_at hl 1 rfl) ?_
        refine va_get (D := (dC, dI)) (ci := 23) (v := .int (nI tm)) (C := RX23) (T := TX23) (N := 89) hx hb hts in_c_typN_X23 hown hK hP 0 rfl rfl 19 (by decide) (hts (.fieldLink RX23 382 "OwnedPlacesModel" "typeMany" "I") (wm_c_typN 1 rfl)) (fun _ h9 => h9) rfl dX23_type_98 ?_
        refine va_put (D := (dC, dI)) (ci := 20) (v := .int (nI tm)) (ty := .int) (C := RX20) (T := TX20) (N := 4) hx hb hts in_c_typN_X20 tyX20 tyX20_ok nmX20 hown hK hP hD hS 2 rfl rfl 2 (by decide) (hts (.fieldLink RX23 394 "OwnedPlacesModel$Type" "id" "I") (wm_c_typN 14 rfl)) (fun _ h9 => h9) rfl (by decide +kernel) rfl rfl (Nat.le_of_ble_eq_true rfl) dX23_type_101 (fun H locs hP hD hS => ?_)
        have hP : va_P (dC, dI) vwCl (([(m9, .inr (23, mT mr mv vf ff xa (nI T) (nI im) (nI tm) xm (nI sc) (nI vm))), (mr 18, .inl (kT, 2000, .inr (.inr (.inr (.inr fy))))), (q_1, .inr (20, [.int kd, .int ix, .int (nI tm), .ref oo]))] : va_W) ++ (sT L F)) H := hP
        have hD : va_D A (([(m9, .inr (23, mT mr mv vf ff xa (nI T) (nI im) (nI tm) xm (nI sc) (nI vm))), (mr 18, .inl (kT, 2000, .inr (.inr (.inr (.inr fy))))), (q_1, .inr (20, [.int kd, .int ix, .int (nI tm), .ref oo]))] : va_W) ++ (sT L F)) := hD
        refine lv_aload_n hx hb dX23_type_104 rfl (lv_at hl 1 rfl) ?_
        refine va_get (D := (dC, dI)) (ci := 23) (v := .ref (mr 18)) (C := RX23) (T := TX23) (N := 89) hx hb hts in_c_typN_X23 hown hK hP 0 rfl rfl 18 (by decide) (hts (.fieldLink RX23 385 "OwnedPlacesModel" "types" "[LOwnedPlacesModel$Type;") (wm_c_typN 2 rfl)) (fun _ h9 => h9) rfl dX23_type_105 ?_
        refine lv_aload_n hx hb dX23_type_108 rfl (lv_at hl 1 rfl) ?_
        refine va_get (D := (dC, dI)) (ci := 23) (v := .int (nI tm)) (C := RX23) (T := TX23) (N := 89) hx hb hts in_c_typN_X23 hown hK hP 0 rfl rfl 19 (by decide) (hts (.fieldLink RX23 382 "OwnedPlacesModel" "typeMany" "I") (wm_c_typN 1 rfl)) (fun _ h9 => h9) rfl dX23_type_109 ?_
        refine lv_aload hx hb dX23_type_112 (lv_at hl 0 rfl) ?_
        refine va_astq (r := (RX20, TX20, 4)) hx hb hK hP hD hS 1 0 2 20 rfl rfl rfl rfl (vp_in_nI (show tm < 2000 by omega) (by decide)) dX23_type_114 (fun H locs hP hD hS => ?_)
        have hP : va_P (dC, dI) vwCl (([(m9, .inr (23, mT mr mv vf ff xa (nI T) (nI im) (nI tm) xm (nI sc) (nI vm))), (mr 18, .inl (kT, 2000, .inr (.inr (.inr (.inr (va_up fy (nI tm : Int32).toNatClampNeg (some q_1))))))), (q_1, .inr (20, [.int kd, .int ix, .int (nI tm), .ref oo]))] : va_W) ++ (sT L F)) H := hP
        have hD : va_D A (([(m9, .inr (23, mT mr mv vf ff xa (nI T) (nI im) (nI tm) xm (nI sc) (nI vm))), (mr 18, .inl (kT, 2000, .inr (.inr (.inr (.inr (va_up fy (nI tm : Int32).toNatClampNeg (some q_1))))))), (q_1, .inr (20, [.int kd, .int ix, .int (nI tm), .ref oo]))] : va_W) ++ (sT L F)) := hD
        obtain ⟨fA, efA⟩ : ∃ zZ : Nat → Option Nat, zZ = va_up fy (nI tm : Int32).toNatClampNeg (some q_1) := ⟨_, rfl⟩
        rw [← efA] at hP hD
        have hfA : fA = va_up fy tm (some q_1) := by rw [efA, nI_clamp (by omega)]
        refine lv_aload_n hx hb dX23_type_115 rfl (lv_at hl 1 rfl) ?_
        refine lv_dup hx hb dX23_type_116 rfl ?_
        refine va_get (D := (dC, dI)) (ci := 23) (v := .int (nI tm)) (C := RX23) (T := TX23) (N := 89) hx hb hts in_c_typN_X23 hown hK hP 0 rfl rfl 19 (by decide) (hts (.fieldLink RX23 382 "OwnedPlacesModel" "typeMany" "I") (wm_c_typN 1 rfl)) (fun _ h9 => h9) rfl dX23_type_117 ?_
        refine lv_iconst (v := 1) hx hb dX23_type_120 (by decide) ?_
        refine lv_iadd hx hb dX23_type_121 ?_
        refine lv_topi (fun f_3 ef_3 => ?_)
        obtain rfl : f_3 = nI (tm + 1) := ef_3.trans (nI_1 _)
        refine va_put (D := (dC, dI)) (ci := 23) (v := .int (nI (tm + 1))) (ty := .int) (C := RX23) (T := TX23) (N := 89) hx hb hts in_c_typN_X23 tyX23 tyX23_ok nmX23 hown hK hP hD hS 0 rfl rfl 19 (by decide) (hts (.fieldLink RX23 382 "OwnedPlacesModel" "typeMany" "I") (wm_c_typN 1 rfl)) (fun _ h9 => h9) rfl (by decide +kernel) rfl rfl (Nat.le_of_ble_eq_true rfl) dX23_type_122 (fun H locs hP hD hS => ?_)
        have hP : va_P (dC, dI) vwCl (([(m9, .inr (23, mT mr mv vf ff xa (nI T) (nI im) (nI (tm + 1)) xm (nI sc) (nI vm))), (mr 18, .inl (kT, 2000, .inr (.inr (.inr (.inr fA))))), (q_1, .inr (20, [.int kd, .int ix, .int (nI tm), .ref oo]))] : va_W) ++ (sT L F)) H := hP
        have hD : va_D A (([(m9, .inr (23, mT mr mv vf ff xa (nI T) (nI im) (nI (tm + 1)) xm (nI sc) (nI vm))), (mr 18, .inl (kT, 2000, .inr (.inr (.inr (.inr fA))))), (q_1, .inr (20, [.int kd, .int ix, .int (nI tm), .ref oo]))] : va_W) ++ (sT L F)) := hD
        refine lv_aload hx hb dX23_type_125 (lv_at hl 0 rfl) ?_
        have hP : va_P (dC, dI) vwCl ((([(m9, .inr (23, mT mr mv vf ff xa (nI T) (nI im) (nI (tm + 1)) xm (nI sc) (nI vm))), (mr 18, .inl (kT, 2000, .inr (.inr (.inr (.inr fA)))))] : va_W) ++ ([(q_1, .inr (20, [.int kd, .int ix, .int (nI tm), .ref oo]))] : va_W)) ++ sT L F) H := hP.subT (f' := [(m9, .inr (23, mT mr mv vf ff xa (nI T) (nI im) (nI (tm + 1)) xm (nI sc) (nI vm))), (mr 18, .inl (kT, 2000, .inr (.inr (.inr (.inr fA))))), (q_1, .inr (20, [.int kd, .int ix, .int (nI tm), .ref oo]))]) [0, 1, 2] rfl
        have hD : va_D A ((([(m9, .inr (23, mT mr mv vf ff xa (nI T) (nI im) (nI (tm + 1)) xm (nI sc) (nI vm))), (mr 18, .inl (kT, 2000, .inr (.inr (.inr (.inr fA)))))] : va_W) ++ ([(q_1, .inr (20, [.int kd, .int ix, .int (nI tm), .ref oo]))] : va_W)) ++ sT L F) := hD.subT (f' := [(m9, .inr (23, mT mr mv vf ff xa (nI T) (nI im) (nI (tm + 1)) xm (nI sc) (nI vm))), (mr 18, .inl (kT, 2000, .inr (.inr (.inr (.inr fA))))), (q_1, .inr (20, [.int kd, .int ix, .int (nI tm), .ref oo]))]) [0, 1, 2] (by decide) rfl
        obtain ⟨L9, F9, hx9, hm9, hP, hD⟩ := st_fileL [(q_1, .inr (20, [.int kd, .int ix, .int (nI tm), .ref oo]))] hP hD
        have hm9_0 := hm9 _ (List.mem_of_getElem? (i := 0) rfl)
        rw [hfA] at hP hD
        have hP : va_P (dC, dI) vwCl (([(m9, .inr (23, mT mr mv vf ff xa (nI T) (nI im) (nI (tm + 1)) xm (nI sc) (nI vm))), (mr 18, .inl (kT, 2000, .inr (.inr (.inr (.inr (va_up fy tm (some q_1)))))))] : va_W) ++ (sT L9 F9)) H := hP
        have hD : va_D A (([(m9, .inr (23, mT mr mv vf ff xa (nI T) (nI im) (nI (tm + 1)) xm (nI sc) (nI vm))), (mr 18, .inl (kT, 2000, .inr (.inr (.inr (.inr (va_up fy tm (some q_1)))))))] : va_W) ++ (sT L9 F9)) := hD
        refine W.grow (fun hgs0 hgs1 => ?_)
        have hP9 := hP.subT (f' := [(m9, .inr (23, mT mr mv vf ff xa (nI T) (nI im) (nI (tm + 1)) xm (nI sc) (nI vm))), (mr 18, .inl (kT, 2000, .inr (.inr (.inr (.inr (va_up fy tm (some q_1)))))))]) [0, 1] rfl
        have hD9 := hD.subT (f' := [(m9, .inr (23, mT mr mv vf ff xa (nI T) (nI im) (nI (tm + 1)) xm (nI sc) (nI vm))), (mr 18, .inl (kT, 2000, .inr (.inr (.inr (.inr (va_up fy tm (some q_1)))))))]) [0, 1] (by decide) rfl
        have hK9 := hK.sub (tys' := [(kT, .object RX20)]) [0] rfl
        refine W.widen (k := 1) (n := 4) (by omega) (by omega) ?_
        subst hQ1
        exact W.aret hx hb hr (Or.inl ⟨_, rfl⟩) (Or.inr ⟨q_1, rfl⟩) (fun tS ht hW => ⟨⟨(), q_1, rfl, trivial, L9, F9, tm + 1, (va_up fy tm (some q_1)), (fun t => if t = tm then (kd, ix, (some oo)) else Y t), (fun t => if t = tm then q_1 else ad t), tm, hx9, Or.inr ⟨rfl, rfl⟩, (fun t ht => ⟨if_neg (by omega), if_neg (by omega)⟩), tyW_new hx9 htw hm9_0.1 hm9_0.2 (Or.inr (hoo.elim (fun u hu => ⟨u, hu.1, congrArg some hu.2⟩))) hr1, ⟨by omega, (if_pos rfl).symm, if_pos rfl⟩, (ptN_new hr1).1, by rw [ht]; exact ⟨by omega, by omega⟩, by rw [ht]; exact hP9, va_K.moved hW.alike hK9, hD9⟩, hS.F ht⟩) hS.2.2 dX23_type_127
      · have hin : i < tm := by rcases Nat.lt_or_ge i tm with z9 | z9; exact z9; exact absurd (nI_le z9 (by omega)) hk
        obtain ⟨h1, h2, h3, h4⟩ := htw.1 i hin
        refine lv_aload_n hx hb dX23_type_12 rfl (lv_at hl 1 rfl) ?_
        refine va_get (D := (dC, dI)) (ci := 23) (v := .ref (mr 18)) (C := RX23) (T := TX23) (N := 89) hx hb hts in_c_typN_X23 hown hK hP 0 rfl rfl 18 (by decide) (hts (.fieldLink RX23 385 "OwnedPlacesModel" "types" "[LOwnedPlacesModel$Type;") (wm_c_typN 2 rfl)) (fun _ h9 => h9) rfl dX23_type_13 ?_
        refine lv_iload hx hb dX23_type_16 (lv_at hl 0 rfl) ?_
        refine va_aldq hx hb hK hP 1 0 rfl rfl (vp_in_nI (show i < 2000 by omega) (by decide)) dX23_type_18 ?_
        refine W.eq (g2 := F0 m 19 ls (.ref (ad i) :: [])) (by show F0 m _ ls (va_rf _ :: _) = _; rw [nI_clamp (show i < 2 ^ 31 by omega), h1]; rfl) ?_
        refine va_get (D := (dC, dI)) (ci := 20) (v := .int ((Y i).1)) (C := RX20) (T := TX20) (N := 4) hx hb hts in_c_typN_X20 hown hK (va_P.st hP h2 h3) 0 rfl rfl 0 (by decide) (hts (.fieldLink RX23 386 "OwnedPlacesModel$Type" "kind" "I") (wm_c_typN 3 rfl)) (fun _ h9 => h9) rfl dX23_type_19 ?_
        refine lv_iload_n hx hb dX23_type_22 rfl (lv_at hl 2 rfl) ?_
        refine lv_icmp_ne (tgt := 62) hx hb dX23_type_23 (by decide) (fun hy1 => ?_) (fun hy1 => ?_)
        · have hn9 : ∀ t : Nat, t < i + 1 → ¬ Y t = (kd, ix, (some oo)) := fun t ht q9 => by
            rcases Nat.lt_or_ge t i with z9 | z9
            · exact hr1 t z9 q9
            · obtain rfl : t = i := by omega
              rw [q9] at hy1; exact hy1 rfl
          obtain ⟨x_1, ex_1⟩ : ∃ yY : Int32, yY = (nI i) + 1 := ⟨_, rfl⟩
          refine lv_iinc (v := x_1) (lv' := [(4, .int x_1), (0, .ref m9), (1, .int kd), (2, .int ix), (3, .ref oo)]) hx hb dX23_type_62 hl (k := 0) rfl (by rw [ex_1]; rfl) (by decide) rfl (fun ls hl => ?_)
          obtain rfl : x_1 = nI (i + 1) := by rw [ex_1]; exact nI_1 i
          have hl : lv_has ls 5 [(4, .int (nI (i + 1))), (0, .ref m9), (1, .int kd), (2, .int ix), (3, .ref oo)] := hl
          refine lv_goto (tgt := 3) hx hb dX23_type_65 (by decide) ?_
          exact ih1 (i + 1) _ _ _ (by omega) hn9 (hP.subT [0, 1] rfl) (hD.subT [0, 1] (by decide) rfl) hS (lv_sub hl [0, 1, 2, 3, 4] rfl)
        · refine lv_aload_n hx hb dX23_type_26 rfl (lv_at hl 1 rfl) ?_
          refine va_get (D := (dC, dI)) (ci := 23) (v := .ref (mr 18)) (C := RX23) (T := TX23) (N := 89) hx hb hts in_c_typN_X23 hown hK hP 0 rfl rfl 18 (by decide) (hts (.fieldLink RX23 385 "OwnedPlacesModel" "types" "[LOwnedPlacesModel$Type;") (wm_c_typN 2 rfl)) (fun _ h9 => h9) rfl dX23_type_27 ?_
          refine lv_iload hx hb dX23_type_30 (lv_at hl 0 rfl) ?_
          refine va_aldq hx hb hK hP 1 0 rfl rfl (vp_in_nI (show i < 2000 by omega) (by decide)) dX23_type_32 ?_
          refine W.eq (g2 := F0 m 33 ls (.ref (ad i) :: [])) (by show F0 m _ ls (va_rf _ :: _) = _; rw [nI_clamp (show i < 2 ^ 31 by omega), h1]; rfl) ?_
          refine va_get (D := (dC, dI)) (ci := 20) (v := .int ((Y i).2.1)) (C := RX20) (T := TX20) (N := 4) hx hb hts in_c_typN_X20 hown hK (va_P.st hP h2 h3) 0 rfl rfl 1 (by decide) (hts (.fieldLink RX23 387 "OwnedPlacesModel$Type" "index" "I") (wm_c_typN 4 rfl)) (fun _ h9 => h9) rfl dX23_type_33 ?_
          refine lv_iload_n hx hb dX23_type_36 rfl (lv_at hl 3 rfl) ?_
          refine lv_icmp_ne (tgt := 62) hx hb dX23_type_37 (by decide) (fun hy2 => ?_) (fun hy2 => ?_)
          · have hn9 : ∀ t : Nat, t < i + 1 → ¬ Y t = (kd, ix, (some oo)) := fun t ht q9 => by
              rcases Nat.lt_or_ge t i with z9 | z9
              · exact hr1 t z9 q9
              · obtain rfl : t = i := by omega
                rw [q9] at hy2; exact hy2 rfl
            obtain ⟨x_1, ex_1⟩ : ∃ yY : Int32, yY = (nI i) + 1 := ⟨_, rfl⟩
            refine lv_iinc (v := x_1) (lv' := [(4, .int x_1), (0, .ref m9), (1, .int kd), (2, .int ix), (3, .ref oo)]) hx hb dX23_type_62 hl (k := 0) rfl (by rw [ex_1]; rfl) (by decide) rfl (fun ls hl => ?_)
            obtain rfl : x_1 = nI (i + 1) := by rw [ex_1]; exact nI_1 i
            have hl : lv_has ls 5 [(4, .int (nI (i + 1))), (0, .ref m9), (1, .int kd), (2, .int ix), (3, .ref oo)] := hl
            refine lv_goto (tgt := 3) hx hb dX23_type_65 (by decide) ?_
            exact ih1 (i + 1) _ _ _ (by omega) hn9 (hP.subT [0, 1] rfl) (hD.subT [0, 1] (by decide) rfl) hS (lv_sub hl [0, 1, 2, 3, 4] rfl)
          · refine lv_aload_n hx hb dX23_type_40 rfl (lv_at hl 1 rfl) ?_
            refine va_get (D := (dC, dI)) (ci := 23) (v := .ref (mr 18)) (C := RX23) (T := TX23) (N := 89) hx hb hts in_c_typN_X23 hown hK hP 0 rfl rfl 18 (by decide) (hts (.fieldLink RX23 385 "OwnedPlacesModel" "types" "[LOwnedPlacesModel$Type;") (wm_c_typN 2 rfl)) (fun _ h9 => h9) rfl dX23_type_41 ?_
            refine lv_iload hx hb dX23_type_44 (lv_at hl 0 rfl) ?_
            refine va_aldq hx hb hK hP 1 0 rfl rfl (vp_in_nI (show i < 2000 by omega) (by decide)) dX23_type_46 ?_
            refine W.eq (g2 := F0 m 47 ls (.ref (ad i) :: [])) (by show F0 m _ ls (va_rf _ :: _) = _; rw [nI_clamp (show i < 2 ^ 31 by omega), h1]; rfl) ?_
            refine va_get (D := (dC, dI)) (ci := 20) (v := (va_rf (Y i).2.2)) (C := RX20) (T := TX20) (N := 4) hx hb hts in_c_typN_X20 hown hK (va_P.st hP h2 h3) 0 rfl rfl 3 (by decide) (hts (.fieldLink RX23 390 "OwnedPlacesModel$Type" "of" "LOwnedPlacesModel$Type;") (wm_c_typN 5 rfl)) (fun _ h9 => h9) rfl dX23_type_47 ?_
            refine lv_aload_n hx hb dX23_type_50 rfl (lv_at hl 4 rfl) ?_
            refine lv_acmp_ne (rx := (Y i).2.2) (ry := (some oo)) (tgt := 62) hx hb dX23_type_51 (by decide) (fun hy3 => ?_) (fun hy3 => ?_)
            · have hn9 : ∀ t : Nat, t < i + 1 → ¬ Y t = (kd, ix, (some oo)) := fun t ht q9 => by
                rcases Nat.lt_or_ge t i with z9 | z9
                · exact hr1 t z9 q9
                · obtain rfl : t = i := by omega
                  rw [q9] at hy3; exact hy3 rfl
              obtain ⟨x_1, ex_1⟩ : ∃ yY : Int32, yY = (nI i) + 1 := ⟨_, rfl⟩
              refine lv_iinc (v := x_1) (lv' := [(4, .int x_1), (0, .ref m9), (1, .int kd), (2, .int ix), (3, .ref oo)]) hx hb dX23_type_62 hl (k := 0) rfl (by rw [ex_1]; rfl) (by decide) rfl (fun ls hl => ?_)
              obtain rfl : x_1 = nI (i + 1) := by rw [ex_1]; exact nI_1 i
              have hl : lv_has ls 5 [(4, .int (nI (i + 1))), (0, .ref m9), (1, .int kd), (2, .int ix), (3, .ref oo)] := hl
              refine lv_goto (tgt := 3) hx hb dX23_type_65 (by decide) ?_
              exact ih1 (i + 1) _ _ _ (by omega) hn9 (hP.subT [0, 1] rfl) (hD.subT [0, 1] (by decide) rfl) hS (lv_sub hl [0, 1, 2, 3, 4] rfl)
            · have hY9 : Y i = (kd, ix, (some oo)) := Prod.ext hy1 (Prod.ext hy2 hy3)
              refine lv_aload_n hx hb dX23_type_54 rfl (lv_at hl 1 rfl) ?_
              refine va_get (D := (dC, dI)) (ci := 23) (v := .ref (mr 18)) (C := RX23) (T := TX23) (N := 89) hx hb hts in_c_typN_X23 hown hK hP 0 rfl rfl 18 (by decide) (hts (.fieldLink RX23 385 "OwnedPlacesModel" "types" "[LOwnedPlacesModel$Type;") (wm_c_typN 2 rfl)) (fun _ h9 => h9) rfl dX23_type_55 ?_
              refine lv_iload hx hb dX23_type_58 (lv_at hl 0 rfl) ?_
              refine va_aldq hx hb hK hP 1 0 rfl rfl (vp_in_nI (show i < 2000 by omega) (by decide)) dX23_type_60 ?_
              refine W.eq (g2 := F0 m 61 ls (.ref (ad i) :: [])) (by show F0 m _ ls (va_rf _ :: _) = _; rw [nI_clamp (show i < 2 ^ 31 by omega), h1]; rfl) ?_
              refine W.grow (fun hgs0 hgs1 => ?_)
              have hP9 := hP.subT (f' := [(m9, .inr (23, mT mr mv vf ff xa (nI T) (nI im) (nI tm) xm (nI sc) (nI vm))), (mr 18, .inl (kT, 2000, .inr (.inr (.inr (.inr fy)))))]) [0, 1] rfl
              have hD9 := hD.subT (f' := [(m9, .inr (23, mT mr mv vf ff xa (nI T) (nI im) (nI tm) xm (nI sc) (nI vm))), (mr 18, .inl (kT, 2000, .inr (.inr (.inr (.inr fy)))))]) [0, 1] (by decide) rfl
              have hK9 := hK.sub (tys' := [(kT, .object RX20)]) [0] rfl
              refine W.widen (k := 1) (n := 4) (by omega) (by omega) ?_
              subst hQ1
              exact W.aret hx hb hr (Or.inl ⟨_, rfl⟩) (Or.inr ⟨ad i, rfl⟩) (fun tS ht hW => ⟨⟨(), ad i, rfl, trivial, L, F, tm, fy, Y, ad, i, exS.rf, Or.inl rfl, (fun t ht => ⟨rfl, rfl⟩), htw, ⟨hin, rfl, hY9⟩, by omega, by rw [ht]; exact ⟨by omega, by omega⟩, by rw [ht]; exact hP9, va_K.moved hW.alike hK9, hD9⟩, hS.F ht⟩) hS.2.2 dX23_type_61
  exact key1 (tm + 1) 0 _ _ _ (by omega) (fun t ht => absurd ht (by omega)) (hP.subT [0, 1] rfl) (hD.subT [0, 1] (by decide) rfl) hS (lv_sub hl [0, 1, 2, 3, 4] rfl)
