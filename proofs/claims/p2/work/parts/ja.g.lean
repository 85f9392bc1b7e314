def wf_c_tld : List Cond := [.code yX23_told cX23_told 3 (some (.object "OwnedPlacesModel$Type")), .fieldLink RX23 484 "OwnedPlacesModel$Exp" "type" "LOwnedPlacesModel$Type;"]
def wp_c_tld : List Cond := wf_c_tld ++ (wsX150 ++ [])
theorem in_c_tld_X15 : ∀ w ∈ wsX150, w ∈ wp_c_tld := fun w h => List.mem_append_right _ (List.mem_append_left _ h)
theorem wg_c_tld : wf_c_tld.all goodWord = true := by decide +kernel
theorem wm_c_tld (k : Nat) {w : Cond} (h : wp_c_tld[k]? = some w) : w ∈ wp_c_tld := List.mem_of_getElem? h
set_option maxHeartbeats 4000000 in
set_option maxRecDepth 100000 in
theorem c_tld (l : Launch) (dC : Nat → ClassId) (dI : Nat → Nat → Nat) (m9 : Nat) (mr : Nat → Nat) (mv : Nat → Int32) (vf : Value) (ff xa xm : Int32) (T im tm sc vm : Nat) (kI : ClassId) (L : List Nat) (F : Nat → va_E) (ee tt : Nat) (gs : List Value) (sz : Nat) (hem : ee ∈ L) (heF : F ee = .inr (15, gs)) (hgl : gs.length = 14) : Met l yX23_told wp_c_tld ({ frames := 0, cells := 0, slots := 0, locals := 0 }) (va_Pc [.ref m9, .ref ee, .ref tt] (fun U => U.heap.size = sz ∧ va_P (dC, dI) vwCl (([(m9, .inr (23, mT mr mv vf ff xa (nI T) (nI im) (nI tm) xm (nI sc) (nI vm)))] : va_W) ++ (sT L F)) U.heap ∧ va_K (dC, dI) vwCl [] U ∧ va_D (fun _ => True) (([(m9, .inr (23, mT mr mv vf ff xa (nI T) (nI im) (nI tm) xm (nI sc) (nI vm)))] : va_W) ++ (sT L F)))) (va_Qr (fun _ : Unit => True) (fun (_ : Unit) (rA : Nat) (tS : State) => ∃ (F2 : Nat → va_E), (rA = tt ∧ F2 = updE F ee (.inr (15, gs.set 12 (.ref tt)))) ∧ va_P (dC, dI) vwCl (([(m9, .inr (23, mT mr mv vf ff xa (nI T) (nI im) (nI tm) xm (nI sc) (nI vm)))] : va_W) ++ (sT L F2)) tS.heap ∧ va_K (dC, dI) vwCl [] tS ∧ va_D (va_A (([(m9, .inr (23, mT mr mv vf ff xa (nI T) (nI im) (nI tm) xm (nI sc) (nI vm)))] : va_W) ++ (sT L F)) sz) (([(m9, .inr (23, mT mr mv vf ff xa (nI T) (nI im) (nI tm) xm (nI sc) (nI vm)))] : va_W) ++ (sT L F2))) (va_A (([(m9, .inr (23, mT mr mv vf ff xa (nI T) (nI im) (nI tm) xm (nI sc) (nI vm)))] : va_W) ++ (sT L F)) sz)) 0 0 (va_A (([(m9, .inr (23, mT mr mv vf ff xa (nI T) (nI im) (nI tm) xm (nI sc) (nI vm)))] : va_W) ++ (sT L F)) sz) := by
  refine Met.ofW (cc := cX23_told) (maxL := 3) (ret := (some (.object "OwnedPlacesModel$Type"))) (by decide) rfl ?_
  intro p e s m args below meth c s₁ B hml hv
  obtain ⟨rfl, hsz, hP, hK, hD0⟩ := hv
  have hx := B.exec
  have hb := B.bytes
  have hr := B.returns
  have hts := atoms_spec (ws := wp_c_tld) B.pre
  have hown : s.vm.findClass RX23 = some m.cls := findClass_of_methodNamed B.named
  have hlocks := B.notSynchronized
  subst hsz
  have hD := hD0.self (sz := s.heap.size)
  generalize hAe : va_A (([(m9, .inr (23, mT mr mv vf ff xa (nI T) (nI im) (nI tm) xm (nI sc) (nI vm)))] : va_W) ++ (sT L F)) s.heap.size = A at hD ⊢
  have hA : ∀ q : Nat, s.heap.size ≤ q → A q := fun q h => by rw [← hAe]; exact Or.inr h
  have hS : va_S A s.heap s.heap [] := va_S.rf
  have hP : va_P (dC, dI) vwCl (([(m9, .inr (23, mT mr mv vf ff xa (nI T) (nI im) (nI tm) xm (nI sc) (nI vm)))] : va_W) ++ (sT L F)) s.heap := hP
  have hl := lv_entry ([.ref m9, .ref ee, .ref tt]) (n := 3) (Nat.le_of_ble_eq_true rfl)
  rw [lg_entry_eq]
  generalize (lg_sl ([.ref m9, .ref ee, .ref tt]) ++ List.replicate (3 - (lg_sl ([.ref m9, .ref ee, .ref tt])).length) Slot.unset).toArray = ls at hl ⊢
  have hl : lv_has ls 3 [(0, .ref m9), (1, .ref ee), (2, .ref tt)] := hl
  refine lv_aload_n hx hb dX23_told_0 rfl (lv_at hl 1 rfl) ?_
  refine lv_aload_n hx hb dX23_told_1 rfl (lv_at hl 2 rfl) ?_
  have hP := va_P.fo hP hem heF
  have hD := va_D.fo hD hem heF
  have hP : va_P (dC, dI) vwCl ((([(m9, .inr (23, mT mr mv vf ff xa (nI T) (nI im) (nI tm) xm (nI sc) (nI vm)))] : va_W) ++ [(ee, .inr (15, gs))]) ++ sT (L.erase ee) F) s.heap := hP
  have hD : va_D A ((([(m9, .inr (23, mT mr mv vf ff xa (nI T) (nI im) (nI tm) xm (nI sc) (nI vm)))] : va_W) ++ [(ee, .inr (15, gs))]) ++ sT (L.erase ee) F) := hD
  refine va_put (D := (dC, dI)) (ci := 15) (v := .ref tt) (ty := (.object "OwnedPlacesModel$Type")) (C := RX15) (T := TX15) (N := 14) hx hb hts in_c_tld_X15 tyX15 tyX15_ok nmX15 hown hK hP hD hS 1 rfl rfl 12 (by decide) (hts (.fieldLink RX23 484 "OwnedPlacesModel$Exp" "type" "LOwnedPlacesModel$Type;") (wm_c_tld 1 rfl)) (fun _ h9 => h9) rfl (by decide +kernel) rfl rfl (by rw [hgl]; decide) dX23_told_2 (fun H locs hP hD hS => ?_)
  have hP : va_P (dC, dI) vwCl ((([(m9, .inr (23, mT mr mv vf ff xa (nI T) (nI im) (nI tm) xm (nI sc) (nI vm)))] : va_W) ++ [(ee, .inr (15, gs.set 12 (.ref tt)))]) ++ sT (L.erase ee) F) H := hP
  have hD : va_D A ((([(m9, .inr (23, mT mr mv vf ff xa (nI T) (nI im) (nI tm) xm (nI sc) (nI vm)))] : va_W) ++ [(ee, .inr (15, gs.set 12 (.ref tt)))]) ++ sT (L.erase ee) F) := hD
  have hP : va_P (dC, dI) vwCl (([(m9, .inr (23, mT mr mv vf ff xa (nI T) (nI im) (nI tm) xm (nI sc) (nI vm)))] : va_W) ++ (sT L (updE F ee (.inr (15, gs.set 12 (.ref tt)))))) H := va_P.bk hem hP
  have hD : va_D A (([(m9, .inr (23, mT mr mv vf ff xa (nI T) (nI im) (nI tm) xm (nI sc) (nI vm)))] : va_W) ++ (sT L (updE F ee (.inr (15, gs.set 12 (.ref tt)))))) := va_D.bk hem hD
  obtain ⟨F9, eF9⟩ : ∃ zZ : Nat → va_E, zZ = updE F ee (.inr (15, gs.set 12 (.ref tt))) := ⟨_, rfl⟩
  rw [← eF9] at hP hD
  have hP : va_P (dC, dI) vwCl (([(m9, .inr (23, mT mr mv vf ff xa (nI T) (nI im) (nI tm) xm (nI sc) (nI vm)))] : va_W) ++ (sT L F9)) H := hP
  have hD : va_D A (([(m9, .inr (23, mT mr mv vf ff xa (nI T) (nI im) (nI tm) xm (nI sc) (nI vm)))] : va_W) ++ (sT L F9)) := hD
  refine lv_aload_n hx hb dX23_told_5 rfl (lv_at hl 2 rfl) ?_
  have hP9 := hP.subT (f' := [(m9, .inr (23, mT mr mv vf ff xa (nI T) (nI im) (nI tm) xm (nI sc) (nI vm)))]) [0] rfl
  have hD9 := hD.subT (f' := [(m9, .inr (23, mT mr mv vf ff xa (nI T) (nI im) (nI tm) xm (nI sc) (nI vm)))]) [0] (by decide) rfl
  have hK9 := hK.sub (tys' := []) [] rfl
  exact W.aret hx hb hr (Or.inl ⟨_, rfl⟩) (Or.inr ⟨tt, rfl⟩) (fun tS ht hW => ⟨⟨(), tt, rfl, trivial, F9, ⟨rfl, eF9⟩, by rw [ht]; exact hP9, va_K.moved hW.alike hK9, hD9⟩, hS.F ht⟩) hS.2.2 dX23_told_6
