def wf_c_bar : List Cond := [.code yX23_bare cX23_bare 2 (some (.object "OwnedPlacesModel$Exp")), .fieldLink RX23 330 "OwnedPlacesModel$Exp" "kind" "I", .fieldLink RX23 331 "OwnedPlacesModel$Exp" "of" "LOwnedPlacesModel$Exp;"]
def wp_c_bar : List Cond := wf_c_bar ++ (wsX150 ++ [])
theorem in_c_bar_X15 : ∀ w ∈ wsX150, w ∈ wp_c_bar := fun w h => List.mem_append_right _ (List.mem_append_left _ h)
theorem wg_c_bar : wf_c_bar.all goodWord = true := by decide +kernel
theorem wm_c_bar (k : Nat) {w : Cond} (h : wp_c_bar[k]? = some w) : w ∈ wp_c_bar := List.mem_of_getElem? h
set_option maxHeartbeats 4000000 in
set_option maxRecDepth 100000 in
theorem c_bar (l : Launch) (dC : Nat → ClassId) (dI : Nat → Nat → Nat) (ee n v : Nat) (ys : List Nat) (L : List Nat) (F : Nat → va_E) (sz : Nat) (hpd : plD L F n ee ys v) : Met l yX23_bare wp_c_bar ({ frames := 0, cells := 0, slots := 0, locals := 0 }) (va_Pc [.ref ee] (fun U => U.heap.size = sz ∧ va_P (dC, dI) vwCl (([] : va_W) ++ (sT L F)) U.heap ∧ va_K (dC, dI) vwCl [] U ∧ va_D (fun _ => True) (([] : va_W) ++ (sT L F)))) (va_Qr (fun _ : Unit => True) (fun (_ : Unit) (rA : Nat) (tS : State) => ∃ (m2 : Nat) (kd2 : Int32) (vo2 : Value) (fs2 : List Value), (m2 < n ∧ rA ∈ L ∧ F rA = .inr (15, fs2) ∧ fs2[0]? = some (.int kd2) ∧ fs2[8]? = some vo2) ∧ ((kd2 = 2 ∧ ys = [] ∧ v = rA) ∨ ((kd2 = 14 ∨ kd2 = 11) ∧ ∃ (o : Nat) (zs : List Nat), vo2 = .ref o ∧ ys = rA :: zs ∧ plD L F m2 o zs v)) ∧ va_P (dC, dI) vwCl (([] : va_W) ++ (sT L F)) tS.heap ∧ va_K (dC, dI) vwCl [] tS ∧ va_D (va_A (([] : va_W) ++ (sT L F)) sz) (([] : va_W) ++ (sT L F))) (va_A (([] : va_W) ++ (sT L F)) sz)) 0 0 (va_A (([] : va_W) ++ (sT L F)) sz) := by
  refine Met.ofW (cc := cX23_bare) (maxL := 2) (ret := (some (.object "OwnedPlacesModel$Exp"))) (by decide) rfl ?_
  intro p e s m args below meth c s₁ B hml hv
  obtain ⟨rfl, hsz, hP, hK, hD0⟩ := hv
  have hx := B.exec
  have hb := B.bytes
  have hr := B.returns
  have hts := atoms_spec (ws := wp_c_bar) B.pre
  have hown : s.vm.findClass RX23 = some m.cls := findClass_of_methodNamed B.named
  have hlocks := B.notSynchronized
  subst hsz
  have hD := hD0.self (sz := s.heap.size)
  generalize hAe : va_A (([] : va_W) ++ (sT L F)) s.heap.size = A at hD ⊢
  have hA : ∀ q : Nat, s.heap.size ≤ q → A q := fun q h => by rw [← hAe]; exact Or.inr h
  have hS : va_S A s.heap s.heap [] := va_S.rf
  have hP : va_P (dC, dI) vwCl (([] : va_W) ++ (sT L F)) s.heap := hP
  have hl := lv_entry ([.ref ee]) (n := 2) (Nat.le_of_ble_eq_true rfl)
  rw [lg_entry_eq]
  generalize (lg_sl ([.ref ee]) ++ List.replicate (2 - (lg_sl ([.ref ee])).length) Slot.unset).toArray = ls at hl ⊢
  have hl : lv_has ls 2 [(0, .ref ee)] := hl
  refine lv_aload_n hx hb dX23_bare_0 rfl (lv_at hl 0 rfl) ?_
  refine lv_astore_n (lv' := [(1, .ref ee), (0, .ref ee)]) hx hb dX23_bare_1 rfl hl (by decide) rfl (fun ls hl => ?_)
  refine W_q (fun Q1 hQ1 => ?_)
  have key1 : ∀ (n1 : Nat) (x1 m1 : Nat) (H : Heap) (locs : List Loc) (ls : Array Slot), (m1 + 1 ≤ n1 ∧ m1 ≤ n) → (plD L F m1 x1 ys v) → va_P (dC, dI) vwCl (([] : va_W) ++ (sT L F)) H → va_D A (([] : va_W) ++ (sT L F)) → va_S A s.heap H locs → lv_has ls 2 [(1, .ref x1), (0, .ref ee)] → W p l e (headSpec wp_c_bar ({ frames := 0, cells := 0, slots := 0, locals := 0 })).room s m ([.ref ee] : List Value).toArray below meth c H locs 0 0 Q1 (F0 m 2 ls []) := by
    intro n1
    induction n1 with
    | zero => intro x1 m1 H locs ls ha0 ha1; exact absurd ha0 (by omega)
    | succ n1 ih1 =>
      intro x1 m1 H locs ls ha0 ha1 hP hD hS hl
      obtain ⟨m, rfl⟩ : ∃ m : Nat, m1 = m + 1 := by
        cases m1 with
        | zero => exact ha1.elim
        | succ m => exact ⟨m, rfl⟩
      obtain ⟨hL, kd, vo, fs, h1, h2, h3, h4⟩ := ha1
      refine lv_aload_n hx hb dX23_bare_2 rfl (lv_at hl 0 rfl) ?_
      refine va_get (D := (dC, dI)) (ci := 15) (v := .int kd) (C := RX15) (T := TX15) (N := 14) hx hb hts in_c_bar_X15 hown hK (va_P.st hP hL h1) 0 rfl rfl 0 (by decide) (hts (.fieldLink RX23 330 "OwnedPlacesModel$Exp" "kind" "I") (wm_c_bar 1 rfl)) (fun _ h9 => h9) h2 dX23_bare_3 ?_
      refine lv_bipush (v := 7) hx hb dX23_bare_6 (by decide) ?_
      refine lv_icmp_ne (tgt := 19) hx hb dX23_bare_8 (by decide) (fun hb_1 => ?_) (fun hb_1 => ?_)
      · refine lv_aload_n hx hb dX23_bare_19 rfl (lv_at hl 0 rfl) ?_
        have hP9 := hP.subT (f' := []) [] rfl
        have hD9 := hD.subT (f' := []) [] (by decide) rfl
        have hK9 := hK.sub (tys' := []) [] rfl
        subst hQ1
        exact W.aret hx hb hr (Or.inl ⟨_, rfl⟩) (Or.inr ⟨x1, rfl⟩) (fun tS ht hW => ⟨⟨(), x1, rfl, trivial, m, kd, vo, fs, ⟨by omega, hL, h1, h2, h3⟩, h4.elim Or.inl (fun q9 => Or.inr (q9.resolve_left (fun q8 => hb_1 q8.1))), by rw [ht]; exact hP9, va_K.moved hW.alike hK9, hD9⟩, hS.F ht⟩) hS.2.2 dX23_bare_20
      · refine lv_aload_n hx hb dX23_bare_11 rfl (lv_at hl 0 rfl) ?_
        obtain ⟨o, rfl, hpo⟩ := ((h4.resolve_left (fun q9 => absurd (hb_1.symm.trans q9.1) (by decide))).resolve_right (fun q9 => by rcases q9.1 with q8 | q8 <;> exact absurd (hb_1.symm.trans q8) (by decide))).2
        refine va_get (D := (dC, dI)) (ci := 15) (v := .ref o) (C := RX15) (T := TX15) (N := 14) hx hb hts in_c_bar_X15 hown hK (va_P.st hP hL h1) 0 rfl rfl 8 (by decide) (hts (.fieldLink RX23 331 "OwnedPlacesModel$Exp" "of" "LOwnedPlacesModel$Exp;") (wm_c_bar 2 rfl)) (fun _ h9 => h9) h3 dX23_bare_12 ?_
        refine lv_astore_n (lv' := [(1, .ref o), (0, .ref ee)]) hx hb dX23_bare_15 rfl hl (by decide) rfl (fun ls hl => ?_)
        refine lv_goto (tgt := 2) hx hb dX23_bare_16 (by decide) ?_
        exact ih1 o m _ _ _ (by omega) hpo (hP.subT [] rfl) (hD.subT [] (by decide) rfl) hS (lv_sub hl [0, 1] rfl)
  exact key1 (n + 1) ee n _ _ _ (⟨Nat.le_refl _, Nat.le_refl _⟩) hpd (hP.subT [] rfl) (hD.subT [] (by decide) rfl) hS (lv_sub hl [0, 1] rfl)
