def wf_c_plt : List Cond := [.code yX23_plainType cX23_plainType 2 (some (.object "OwnedPlacesModel$Type")), .code yX23_type cX23_type 5 (some (.object "OwnedPlacesModel$Type")), .fieldLink RX23 382 "OwnedPlacesModel" "typeMany" "I", .fieldLink RX23 385 "OwnedPlacesModel" "types" "[LOwnedPlacesModel$Type;", .fieldLink RX23 386 "OwnedPlacesModel$Type" "kind" "I", .fieldLink RX23 387 "OwnedPlacesModel$Type" "index" "I", .fieldLink RX23 390 "OwnedPlacesModel$Type" "of" "LOwnedPlacesModel$Type;", .classLink RX23 164 RX20, .instantiable RX20 4, .initialized RX20, .code yX20_init cX20_init 1 none, .methodLink RX20 1 objectInit, .instanceMethod objectInit, .code objectInit ⟨#[0xb1]⟩ 1 none, .instanceMethod yX20_init, .fieldLink RX23 394 "OwnedPlacesModel$Type" "id" "I", .methodLink RX23 397 yX23_type, .instanceMethod yX23_type, .selects RX23 yX23_type yX23_type, .initialized RX23]
def wp_c_plt : List Cond := wf_c_plt ++ (wsX230 ++ (wsX200 ++ []))
theorem in_c_plt_X23 : ∀ w ∈ wsX230, w ∈ wp_c_plt := fun w h => List.mem_append_right _ (List.mem_append_left _ h)
theorem in_c_plt_X20 : ∀ w ∈ wsX200, w ∈ wp_c_plt := fun w h => List.mem_append_right _ (List.mem_append_right _ (List.mem_append_left _ h))
theorem wg_c_plt : wf_c_plt.all goodWord = true := by decide +kernel
theorem wm_c_plt (k : Nat) {w : Cond} (h : wp_c_plt[k]? = some w) : w ∈ wp_c_plt := List.mem_of_getElem? h
set_option maxRecDepth 20000 in
theorem g_c_plt_c_typN_4 : GoodIn wp_c_plt (wsV RX23 397 RX23 yX23_type wp_c_typN) := goodIn_app (goodIn_f [.methodLink RX23 397 yX23_type, .instanceMethod yX23_type, .selects RX23 yX23_type yX23_type, .initialized RX23] [16, 17, 18, 19] rfl (by decide +kernel)) (goodIn_app (goodIn_f (wf_c_typN) [1, 2, 3, 4, 5, 6, 7, 8, 9, 10, 11, 12, 13, 14, 15] rfl wg_c_typN) (goodIn_app (goodIn_sub in_c_plt_X23 gd_X23) (goodIn_app (goodIn_sub in_c_plt_X20 gd_X20) (goodIn_n))))
set_option maxHeartbeats 4000000 in
set_option maxRecDepth 100000 in
theorem c_plt (l : Launch) (dC : Nat → ClassId) (dI : Nat → Nat → Nat) (m9 : Nat) (mr : Nat → Nat) (mv : Nat → Int32) (vf : Value) (ff xa xm : Int32) (T im tm sc vm : Nat) (kI : ClassId) (fk fa fe ft : Nat → Int32) (zs : Nat) (L : List Nat) (F : Nat → va_E) (G : Nat → va_E) (kT : ClassId) (fy : Nat → Option Nat) (Y : Nat → Int32 × Int32 × Option Nat) (ad : Nat → Nat) (kE kS kB kA kV kW kP kM : ClassId) (fi : Nat → Option Nat) (xI ps ms : Nat → Nat) (ik : Nat → Int32) (qz : Nat) (kd : Int32) (sl : Nat) (sz : Nat) (htg : tgd L F G fk fa fe T zs kE kI kS kB kA kV kW kT kP fi im xI ps ms ik qz fy tm Y ad) (hkd : (kd = 0 ∨ kd = 1 ∨ kd = 2 ∨ kd = 8)) (hpt : ptN Y tm ≤ 1999) : Met l yX23_plainType wp_c_plt ({ frames := 3, cells := 1, slots := 4, locals := 56 }) (va_Pc [.ref m9, .int kd] (fun U => U.heap.size = sz ∧ va_P (dC, dI) vwCl (([(m9, .inr (23, mT mr mv vf ff xa (nI T) (nI im) (nI tm) xm (nI sc) (nI vm))), (mr 18, .inl (kT, 2000, .inr (.inr (.inr (.inr fy)))))] : va_W) ++ (sT L F)) U.heap ∧ va_K (dC, dI) vwCl [(kT, .object RX20)] U ∧ va_D (fun _ => True) (([(m9, .inr (23, mT mr mv vf ff xa (nI T) (nI im) (nI tm) xm (nI sc) (nI vm))), (mr 18, .inl (kT, 2000, .inr (.inr (.inr (.inr fy)))))] : va_W) ++ (sT L F)) ∧ nsM U ∧ slN U.heap = sl)) (va_Qr (fun _ : Unit => True) (fun (_ : Unit) (rA : Nat) (tS : State) => ∃ (L2 : List Nat) (F2 : Nat → va_E) (G2 : Nat → va_E) (tm2 : Nat) (fy2 : Nat → Option Nat) (Y2 : Nat → Int32 × Int32 × Option Nat) (ad2 : Nat → Nat) (t2 : Nat), (tgd L2 F2 G2 fk fa fe T zs kE kI kS kB kA kV kW kT kP fi im xI ps ms ik qz fy2 tm2 Y2 ad2) ∧ (tX L G tm Y ad L2 G2 tm2 Y2 ad2) ∧ (exS L F L2 F2) ∧ (t2 < tm2 ∧ rA = ad2 t2 ∧ Y2 t2 = (kd, 0, none)) ∧ (ptN Y2 tm2 ≤ ptN Y tm ∧ tm2 ≤ tm + 1) ∧ (tS.heap.size ≤ sz + ((tm2 - tm)) ∧ slN tS.heap ≤ sl + (4 * (tm2 - tm))) ∧ va_P (dC, dI) vwCl (([(m9, .inr (23, mT mr mv vf ff xa (nI T) (nI im) (nI tm2) xm (nI sc) (nI vm))), (mr 18, .inl (kT, 2000, .inr (.inr (.inr (.inr fy2)))))] : va_W) ++ (sT L2 F2)) tS.heap ∧ va_K (dC, dI) vwCl [(kT, .object RX20)] tS ∧ va_D (va_A (([(m9, .inr (23, mT mr mv vf ff xa (nI T) (nI im) (nI tm) xm (nI sc) (nI vm))), (mr 18, .inl (kT, 2000, .inr (.inr (.inr (.inr fy)))))] : va_W) ++ (sT L F)) sz) (([(m9, .inr (23, mT mr mv vf ff xa (nI T) (nI im) (nI tm2) xm (nI sc) (nI vm))), (mr 18, .inl (kT, 2000, .inr (.inr (.inr (.inr fy2)))))] : va_W) ++ (sT L2 F2))) (va_A (([(m9, .inr (23, mT mr mv vf ff xa (nI T) (nI im) (nI tm) xm (nI sc) (nI vm))), (mr 18, .inl (kT, 2000, .inr (.inr (.inr (.inr fy)))))] : va_W) ++ (sT L F)) sz)) 1 4 (va_A (([(m9, .inr (23, mT mr mv vf ff xa (nI T) (nI im) (nI tm) xm (nI sc) (nI vm))), (mr 18, .inl (kT, 2000, .inr (.inr (.inr (.inr fy)))))] : va_W) ++ (sT L F)) sz) := by
  refine Met.ofW (cc := cX23_plainType) (maxL := 2) (ret := (some (.object "OwnedPlacesModel$Type"))) (by decide) rfl ?_
  intro p e s m args below meth c s₁ B hml hv
  obtain ⟨rfl, hsz, hP, hK, hD0, hpre0, hpre1⟩ := hv
  have hx := B.exec
  have hb := B.bytes
  have hr := B.returns
  have hts := atoms_spec (ws := wp_c_plt) B.pre
  have hown : s.vm.findClass RX23 = some m.cls := findClass_of_methodNamed B.named
  have hlocks := B.notSynchronized
  subst hsz
  have hD := hD0.self (sz := s.heap.size)
  generalize hAe : va_A (([(m9, .inr (23, mT mr mv vf ff xa (nI T) (nI im) (nI tm) xm (nI sc) (nI vm))), (mr 18, .inl (kT, 2000, .inr (.inr (.inr (.inr fy)))))] : va_W) ++ (sT L F)) s.heap.size = A at hD ⊢
  have hA : ∀ q : Nat, s.heap.size ≤ q → A q := fun q h => by rw [← hAe]; exact Or.inr h
  have hS : va_S A s.heap s.heap [] := va_S.rf
  have hP : va_P (dC, dI) vwCl (([(m9, .inr (23, mT mr mv vf ff xa (nI T) (nI im) (nI tm) xm (nI sc) (nI vm))), (mr 18, .inl (kT, 2000, .inr (.inr (.inr (.inr fy)))))] : va_W) ++ (sT L F)) s.heap := hP
  have hl := lv_entry ([.ref m9, .int kd]) (n := 2) (Nat.le_of_ble_eq_true rfl)
  rw [lg_entry_eq]
  generalize (lg_sl ([.ref m9, .int kd]) ++ List.replicate (2 - (lg_sl ([.ref m9, .int kd])).length) Slot.unset).toArray = ls at hl ⊢
  have hl : lv_has ls 2 [(0, .ref m9), (1, .int kd)] := hl
  have hns := hpre0
  subst hpre1
  refine lv_aload_n hx hb dX23_plainType_0 rfl (lv_at hl 0 rfl) ?_
  refine lv_iload_n hx hb dX23_plainType_1 rfl (lv_at hl 1 rfl) ?_
  refine lv_iconst (v := 0) hx hb dX23_plainType_2 (by decide) ?_
  refine lv_null hx hb dX23_plainType_3 ?_
  have hPc := hP.subT (f' := [(m9, .inr (23, mT mr mv vf ff xa (nI T) (nI im) (nI tm) xm (nI sc) (nI vm))), (mr 18, .inl (kT, 2000, .inr (.inr (.inr (.inr fy)))))]) [0, 1] rfl
  have hDc := hD.subT (f' := [(m9, .inr (23, mT mr mv vf ff xa (nI T) (nI im) (nI tm) xm (nI sc) (nI vm))), (mr 18, .inl (kT, 2000, .inr (.inr (.inr (.inr fy)))))]) [0, 1] (by decide) rfl
  have hKc := hK.sub (tys' := [(kT, .object RX20)]) [0] rfl
  have hFc := va_freeB (wc := [(m9, .inr (23, mT mr mv vf ff xa (nI T) (nI im) (nI tm) xm (nI sc) (nI vm))), (mr 18, .inl (kT, 2000, .inr (.inr (.inr (.inr fy)))))]) hD hS hA [0, 1] rfl
  refine W.grow (fun hgs0 hgs1 => ?_)
  refine va_callr (va_runV (As := [.int kd, .int 0, .null]) (rest := []) ⟨hx, hb, hml, hown, hts⟩ (c_typN l dC dI m9 mr mv vf ff xa xm T im tm sc vm kI L F kT fy Y ad kd 0 (slN s.heap) s.heap.size (tyW_rl htg.2.1 htg.2.2.2.1) (by have := ptN_ge (Y := Y) (tm := tm); omega)) (cwV 3 hts g_c_plt_c_typN_4 rfl rfl rfl (by decide +kernel) ⟨Nat.le_of_ble_eq_true rfl, Nat.le_of_ble_eq_true rfl⟩) ⟨fun a U g mk q => by obtain ⟨q0, q1, qP, qK, qD, qx0, qx1⟩ := q; exact ⟨q0, q1, qP, va_K.moved (u := U) (U := U.calling g mk a) (Vm.Alike.refl U.vm) qK, qD, nsM.same (u := U) (U := U.calling g mk a) rfl qx0, qx1⟩, va_recv hKc hPc (ci := 23) (q0 := 0) rfl rfl, fun U hU hW => ⟨rfl, by rw [hU], by rw [hU]; exact hPc, va_K.moved hW.alike hKc, hDc.weaken (fun _ _ _ _ => trivial), nsM.warm hW hns, by rw [hU]⟩⟩ rfl rfl hl.1 rfl (lv_room (Nat.le_of_ble_eq_true rfl)) dX23_plainType_4 ⟨(show 0 + 1 ≤ 1 by omega), (show 0 + 4 ≤ 4 by omega)⟩) hS (fun q _ h => hFc q h) hFc (fun u r_1 tS H1 locs ht hvm hw hB hz1 hk1 hS => ?_)
  obtain ⟨L8, F8, tm8, fy8, Y8, ad8, t8, hf1_0, hf1_1, hf1_2, hf1_3, hf1_4, hf1_5, hf1_6, hP1, hK1, hD1⟩ := hB
  rw [ht] at hP1
  have hK1 := va_K.moved hvm.symm hK1
  rw [ht] at hf1_6
  have hgz : H1.size ≤ s.heap.size + ((tm8 - tm)) ∧ slN H1 ≤ slN s.heap + (4 * (tm8 - tm)) := ⟨by have := hf1_6.1; omega, by have := hf1_6.2; omega⟩
  obtain ⟨hP, hD⟩ := va_joinB (wr := []) (w1 := [(m9, .inr (23, mT mr mv vf ff xa (nI T) (nI im) (nI tm8) xm (nI sc) (nI vm))), (mr 18, .inl (kT, 2000, .inr (.inr (.inr (.inr fy8)))))]) hP hD [0, 1] [] rfl rfl (by decide) (by decide) hk1 hFc hP1 hD1
  have hK := hK.app hK1
  generalize H1 = H at hP hS hgz ⊢
  have hP : va_P (dC, dI) vwCl (([(m9, .inr (23, mT mr mv vf ff xa (nI T) (nI im) (nI tm8) xm (nI sc) (nI vm))), (mr 18, .inl (kT, 2000, .inr (.inr (.inr (.inr fy8)))))] : va_W) ++ (sT L8 F8)) H := hP
  have hD : va_D A (([(m9, .inr (23, mT mr mv vf ff xa (nI T) (nI im) (nI tm8) xm (nI sc) (nI vm))), (mr 18, .inl (kT, 2000, .inr (.inr (.inr (.inr fy8)))))] : va_W) ++ (sT L8 F8)) := hD
  have hK : va_K (dC, dI) vwCl [(kT, .object RX20), (kT, .object RX20)] s := hK
  have hK := hK.sub (tys' := [(kT, .object RX20)]) [0] rfl
  refine W.tight (k := (tm8 - tm)) (n := 4 * (tm8 - tm)) hgz.1 hgz.2 ?_
  clear hz1 hk1 hPc hDc hKc hFc hP1 hD1 hK1
  have hg8 := tgd_ty htg hf1_0 hf1_1 hf1_2 hf1_3 ⟨hf1_4.1, hf1_4.2.2⟩ (Or.inl ⟨hkd, rfl, rfl⟩)
  refine W.grow (fun hgs0 hgs1 => ?_)
  have hP9 := hP.subT (f' := [(m9, .inr (23, mT mr mv vf ff xa (nI T) (nI im) (nI tm8) xm (nI sc) (nI vm))), (mr 18, .inl (kT, 2000, .inr (.inr (.inr (.inr fy8)))))]) [0, 1] rfl
  have hD9 := hD.subT (f' := [(m9, .inr (23, mT mr mv vf ff xa (nI T) (nI im) (nI tm8) xm (nI sc) (nI vm))), (mr 18, .inl (kT, 2000, .inr (.inr (.inr (.inr fy8)))))]) [0, 1] (by decide) rfl
  have hK9 := hK.sub (tys' := [(kT, .object RX20)]) [0] rfl
  refine W.widen (k := 1) (n := 4) (by omega) (by omega) ?_
  exact W.aret hx hb hr (Or.inl ⟨_, rfl⟩) (Or.inr ⟨r_1, rfl⟩) (fun tS ht hW => ⟨⟨(), r_1, rfl, trivial, L8, F8, (grG L G F8), tm8, fy8, Y8, ad8, t8, hg8.1, hg8.2, hf1_0, hf1_4, ⟨hf1_5.2 rfl hkd, by omega⟩, by rw [ht]; exact ⟨by omega, by omega⟩, by rw [ht]; exact hP9, va_K.moved hW.alike hK9, hD9⟩, hS.F ht⟩) hS.2.2 dX23_plainType_7
