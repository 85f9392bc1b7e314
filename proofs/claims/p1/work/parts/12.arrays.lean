def wf_c_fillI : List Cond := [.code yJ7_fill_53178 cJ7_fill_53178 4 none]
def wp_c_fillI : List Cond := wf_c_fillI ++ []
theorem wg_c_fillI : wf_c_fillI.all goodWord = true := by decide +kernel
theorem wm_c_fillI (k : Nat) {w : Cond} (h : wp_c_fillI[k]? = some w) : w ∈ wp_c_fillI := List.mem_of_getElem? h
set_option maxHeartbeats 4000000 in
set_option maxRecDepth 100000 in
theorem c_fillI (l : Launch) (dC : Nat → ClassId) (dI : Nat → Nat → Nat) (a : Nat) (kI : ClassId) (N : Nat) (f : Nat → Int32) (v : Int32) (sz : Nat) (hN : N < 2 ^ 31) : Met l yJ7_fill_53178 wp_c_fillI ({ frames := 0, cells := 0, slots := 0, locals := 0 }) (va_Pc [.ref a, .int v] (fun U => U.heap.size = sz ∧ va_P (dC, dI) vwCl [(a, .inl (kI, N, .inl f))] U.heap ∧ va_K (dC, dI) vwCl [(kI, .int)] U ∧ va_D (fun _ => True) [(a, .inl (kI, N, .inl f))])) (va_Qv (fun _ : Unit => True) (fun (_ : Unit) (tS : State) => ∃ (g : Nat → Int32), (∀ j, j < N → g j = v) ∧ va_P (dC, dI) vwCl [(a, .inl (kI, N, .inl g))] tS.heap ∧ va_K (dC, dI) vwCl [(kI, .int)] tS ∧ va_D (va_A [(a, .inl (kI, N, .inl f))] sz) [(a, .inl (kI, N, .inl g))]) (va_A [(a, .inl (kI, N, .inl f))] sz)) 0 0 (va_A [(a, .inl (kI, N, .inl f))] sz) := by
  refine Met.ofW (cc := cJ7_fill_53178) (maxL := 4) (ret := none) (by decide) rfl ?_
  intro p e s m args below meth c s₁ B hml hv
  obtain ⟨rfl, hsz, hP, hK, hD0⟩ := hv
  have hx := B.exec
  have hb := B.bytes
  have hr := B.returns
  have hts := atoms_spec (ws := wp_c_fillI) B.pre
  have hown : s.vm.findClass RJ7 = some m.cls := findClass_of_methodNamed B.named
  have hlocks := B.notSynchronized
  subst hsz
  have hD := hD0.self (sz := s.heap.size)
  generalize hAe : va_A [(a, .inl (kI, N, .inl f))] s.heap.size = A at hD ⊢
  have hA : ∀ q : Nat, s.heap.size ≤ q → A q := fun q h => by rw [← hAe]; exact Or.inr h
  have hS : va_S A s.heap s.heap [] := va_S.rf
  have hP : va_P (dC, dI) vwCl [(a, .inl (kI, N, .inl f))] s.heap := hP
  have hl := lv_entry ([.ref a, .int v]) (n := 4) (Nat.le_of_ble_eq_true rfl)
  rw [lg_entry_eq]
  generalize (lg_sl ([.ref a, .int v]) ++ List.replicate (4 - (lg_sl ([.ref a, .int v])).length) Slot.unset).toArray = ls at hl ⊢
  have hl : lv_has ls 4 [(0, .ref a), (1, .int v)] := hl
  refine lv_iconst (v := 0) hx hb dJ7_fill_53178_0 (by decide) ?_
  refine lv_istore_n (lv' := [(2, .int 0), (0, .ref a), (1, .int v)]) hx hb dJ7_fill_53178_1 rfl hl (by decide) rfl (fun ls hl => ?_)
  refine lv_aload_n hx hb dJ7_fill_53178_2 rfl (lv_at hl 1 rfl) ?_
  refine va_alen (v := nI N) hx hb hK hP 0 0 rfl rfl rfl dJ7_fill_53178_3 ?_
  refine lv_istore_n (lv' := [(3, .int (nI N)), (2, .int 0), (0, .ref a), (1, .int v)]) hx hb dJ7_fill_53178_4 rfl hl (by decide) rfl (fun ls hl => ?_)
  refine W_q (fun Q1 hQ1 => ?_)
  have key1 : ∀ (n1 : Nat) (i : Nat) (f1 : Nat → Int32) (H : Heap) (locs : List Loc) (ls : Array Slot), (i + n1 = N + 1 ∧ i ≤ N) → (∀ j, j < i → f1 j = v) → va_P (dC, dI) vwCl [(a, .inl (kI, N, .inl f1))] H → va_D A [(a, .inl (kI, N, .inl f1))] → va_S A s.heap H locs → lv_has ls 4 [(2, .int (nI i)), (3, .int (nI N)), (0, .ref a), (1, .int v)] → W p l e (headSpec wp_c_fillI ({ frames := 0, cells := 0, slots := 0, locals := 0 })).room s m ([.ref a, .int v] : List Value).toArray below meth c H locs 0 0 Q1 (F0 m 5 ls []) := by
    intro n1
    induction n1 with
    | zero => intro i f1 H locs ls hb0 hb1; exact absurd hb0 (by omega)
    | succ n1 ih1 =>
      intro i f1 H locs ls hb0 hb1 hP hD hS hl
      refine lv_iload_n hx hb dJ7_fill_53178_5 rfl (lv_at hl 0 rfl) ?_
      refine lv_iload_n hx hb dJ7_fill_53178_6 rfl (lv_at hl 1 rfl) ?_
      refine lv_icmp_ge (tgt := 20) hx hb dJ7_fill_53178_7 (by decide) (fun hc => ?_) (fun hc => ?_)
      · have hi : i = N := by have h9 := (nI_leI (by omega) (by omega)).mp hc; omega
        have hP9 := hP.sub (ws' := [(a, .inl (kI, N, .inl f1))]) [0] rfl
        have hD9 := hD.sub (ws' := [(a, .inl (kI, N, .inl f1))]) [0] (by decide) rfl
        have hK9 := hK.sub (tys' := [(kI, .int)]) [0] rfl
        subst hQ1
        exact W.vret hx hb hr (fun tS ht hW => ⟨⟨(), rfl, trivial, f1, by intro j hj; exact hb1 j (by omega), by rw [ht]; exact hP9, va_K.moved hW.alike hK9, hD9⟩, hS.F ht⟩) hS.2.2 dJ7_fill_53178_20
      · have hi : i < N := by rcases Nat.lt_or_ge i N with q | q; exact q; exact absurd (nI_le q (by omega)) hc
        refine lv_aload_n hx hb dJ7_fill_53178_10 rfl (lv_at hl 2 rfl) ?_
        refine lv_iload_n hx hb dJ7_fill_53178_11 rfl (lv_at hl 0 rfl) ?_
        refine lv_iload_n hx hb dJ7_fill_53178_12 rfl (lv_at hl 3 rfl) ?_
        refine va_iast hx hb hK hP hD hS 0 0 rfl rfl (vp_in_nI hi hN) dJ7_fill_53178_13 (fun H locs hP hD hS => ?_)
        have hP : va_P (dC, dI) vwCl [(a, .inl (kI, N, .inl (upd f1 (nI i : Int32).toNatClampNeg v)))] H := hP
        have hD : va_D A [(a, .inl (kI, N, .inl (upd f1 (nI i : Int32).toNatClampNeg v)))] := hD
        obtain ⟨f2, ef2⟩ : ∃ zZ : Nat → Int32, zZ = upd f1 (nI i : Int32).toNatClampNeg v := ⟨_, rfl⟩
        rw [← ef2] at hP hD
        obtain ⟨x_1, ex_1⟩ : ∃ yY : Int32, yY = (nI i) + 1 := ⟨_, rfl⟩
        refine lv_iinc (v := x_1) (lv' := [(2, .int x_1), (3, .int (nI N)), (0, .ref a), (1, .int v)]) hx hb dJ7_fill_53178_14 hl (k := 0) rfl (by rw [ex_1]; rfl) (by decide) rfl (fun ls hl => ?_)
        obtain rfl : x_1 = nI (i + 1) := by rw [ex_1]; exact nI_1 i
        have hl : lv_has ls 4 [(2, .int (nI (i + 1))), (3, .int (nI N)), (0, .ref a), (1, .int v)] := hl
        refine lv_goto (tgt := 5) hx hb dJ7_fill_53178_17 (by decide) ?_
        exact ih1 (i + 1) f2 _ _ _ (by omega) (by intro j hj; rw [ef2, nI_clamp (by omega)]; rcases Nat.lt_or_ge j i with q | q; rw [pk_un (by omega)]; exact hb1 j q; obtain rfl : j = i := (by omega); exact pk_us) (hP.sub [0] rfl) (hD.sub [0] (by decide) rfl) hS (lv_sub hl [0, 1, 2, 3] rfl)
  exact key1 (N + 1) 0 f _ _ _ (by omega) (by intro j hj; exact absurd hj (by omega)) (hP.sub [0] rfl) (hD.sub [0] (by decide) rfl) hS (lv_sub hl [1, 0, 2, 3] rfl)
def wf_c_fillB : List Cond := [.code yJ7_fill_031fb cJ7_fill_031fb 4 none]
def wp_c_fillB : List Cond := wf_c_fillB ++ []
theorem wg_c_fillB : wf_c_fillB.all goodWord = true := by decide +kernel
theorem wm_c_fillB (k : Nat) {w : Cond} (h : wp_c_fillB[k]? = some w) : w ∈ wp_c_fillB := List.mem_of_getElem? h
set_option maxHeartbeats 4000000 in
set_option maxRecDepth 100000 in
theorem c_fillB (l : Launch) (dC : Nat → ClassId) (dI : Nat → Nat → Nat) (a : Nat) (kI : ClassId) (N : Nat) (f : Nat → Int32) (v : Int32) (sz : Nat) (hN : N < 2 ^ 31) : Met l yJ7_fill_031fb wp_c_fillB ({ frames := 0, cells := 0, slots := 0, locals := 0 }) (va_Pc [.ref a, .int v] (fun U => U.heap.size = sz ∧ va_P (dC, dI) vwCl [(a, .inl (kI, N, .inl f))] U.heap ∧ va_K (dC, dI) vwCl [(kI, .byte)] U ∧ va_D (fun _ => True) [(a, .inl (kI, N, .inl f))])) (va_Qv (fun _ : Unit => True) (fun (_ : Unit) (tS : State) => ∃ (g : Nat → Int32), va_P (dC, dI) vwCl [(a, .inl (kI, N, .inl g))] tS.heap ∧ va_K (dC, dI) vwCl [(kI, .byte)] tS ∧ va_D (va_A [(a, .inl (kI, N, .inl f))] sz) [(a, .inl (kI, N, .inl g))]) (va_A [(a, .inl (kI, N, .inl f))] sz)) 0 0 (va_A [(a, .inl (kI, N, .inl f))] sz) := by
  refine Met.ofW (cc := cJ7_fill_031fb) (maxL := 4) (ret := none) (by decide) rfl ?_
  intro p e s m args below meth c s₁ B hml hv
  obtain ⟨rfl, hsz, hP, hK, hD0⟩ := hv
  have hx := B.exec
  have hb := B.bytes
  have hr := B.returns
  have hts := atoms_spec (ws := wp_c_fillB) B.pre
  have hown : s.vm.findClass RJ7 = some m.cls := findClass_of_methodNamed B.named
  have hlocks := B.notSynchronized
  subst hsz
  have hD := hD0.self (sz := s.heap.size)
  generalize hAe : va_A [(a, .inl (kI, N, .inl f))] s.heap.size = A at hD ⊢
  have hA : ∀ q : Nat, s.heap.size ≤ q → A q := fun q h => by rw [← hAe]; exact Or.inr h
  have hS : va_S A s.heap s.heap [] := va_S.rf
  have hP : va_P (dC, dI) vwCl [(a, .inl (kI, N, .inl f))] s.heap := hP
  have hl := lv_entry ([.ref a, .int v]) (n := 4) (Nat.le_of_ble_eq_true rfl)
  rw [lg_entry_eq]
  generalize (lg_sl ([.ref a, .int v]) ++ List.replicate (4 - (lg_sl ([.ref a, .int v])).length) Slot.unset).toArray = ls at hl ⊢
  have hl : lv_has ls 4 [(0, .ref a), (1, .int v)] := hl
  refine lv_iconst (v := 0) hx hb dJ7_fill_031fb_0 (by decide) ?_
  refine lv_istore_n (lv' := [(2, .int 0), (0, .ref a), (1, .int v)]) hx hb dJ7_fill_031fb_1 rfl hl (by decide) rfl (fun ls hl => ?_)
  refine lv_aload_n hx hb dJ7_fill_031fb_2 rfl (lv_at hl 1 rfl) ?_
  refine va_alen (v := nI N) hx hb hK hP 0 0 rfl rfl rfl dJ7_fill_031fb_3 ?_
  refine lv_istore_n (lv' := [(3, .int (nI N)), (2, .int 0), (0, .ref a), (1, .int v)]) hx hb dJ7_fill_031fb_4 rfl hl (by decide) rfl (fun ls hl => ?_)
  refine W_q (fun Q1 hQ1 => ?_)
  have key1 : ∀ (n1 : Nat) (i : Nat) (f1 : Nat → Int32) (H : Heap) (locs : List Loc) (ls : Array Slot), (i + n1 = N + 1 ∧ i ≤ N) → va_P (dC, dI) vwCl [(a, .inl (kI, N, .inl f1))] H → va_D A [(a, .inl (kI, N, .inl f1))] → va_S A s.heap H locs → lv_has ls 4 [(2, .int (nI i)), (3, .int (nI N)), (0, .ref a), (1, .int v)] → W p l e (headSpec wp_c_fillB ({ frames := 0, cells := 0, slots := 0, locals := 0 })).room s m ([.ref a, .int v] : List Value).toArray below meth c H locs 0 0 Q1 (F0 m 5 ls []) := by
    intro n1
    induction n1 with
    | zero => intro i f1 H locs ls hb0; exact absurd hb0 (by omega)
    | succ n1 ih1 =>
      intro i f1 H locs ls hb0 hP hD hS hl
      refine lv_iload_n hx hb dJ7_fill_031fb_5 rfl (lv_at hl 0 rfl) ?_
      refine lv_iload_n hx hb dJ7_fill_031fb_6 rfl (lv_at hl 1 rfl) ?_
      refine lv_icmp_ge (tgt := 20) hx hb dJ7_fill_031fb_7 (by decide) (fun hc => ?_) (fun hc => ?_)
      · have hi : i = N := by have h9 := (nI_leI (by omega) (by omega)).mp hc; omega
        have hP9 := hP.sub (ws' := [(a, .inl (kI, N, .inl f1))]) [0] rfl
        have hD9 := hD.sub (ws' := [(a, .inl (kI, N, .inl f1))]) [0] (by decide) rfl
        have hK9 := hK.sub (tys' := [(kI, .byte)]) [0] rfl
        subst hQ1
        exact W.vret hx hb hr (fun tS ht hW => ⟨⟨(), rfl, trivial, f1, by rw [ht]; exact hP9, va_K.moved hW.alike hK9, hD9⟩, hS.F ht⟩) hS.2.2 dJ7_fill_031fb_20
      · have hi : i < N := by rcases Nat.lt_or_ge i N with q | q; exact q; exact absurd (nI_le q (by omega)) hc
        refine lv_aload_n hx hb dJ7_fill_031fb_10 rfl (lv_at hl 2 rfl) ?_
        refine lv_iload_n hx hb dJ7_fill_031fb_11 rfl (lv_at hl 0 rfl) ?_
        refine lv_iload_n hx hb dJ7_fill_031fb_12 rfl (lv_at hl 3 rfl) ?_
        refine va_bast hx hb hK hP hD hS 0 0 rfl rfl (vp_in_nI hi hN) dJ7_fill_031fb_13 (fun H locs hP hD hS => ?_)
        have hP : va_P (dC, dI) vwCl [(a, .inl (kI, N, .inl (upd f1 (nI i : Int32).toNatClampNeg (vp_nar .byte v))))] H := hP
        have hD : va_D A [(a, .inl (kI, N, .inl (upd f1 (nI i : Int32).toNatClampNeg (vp_nar .byte v))))] := hD
        obtain ⟨f2, ef2⟩ : ∃ zZ : Nat → Int32, zZ = upd f1 (nI i : Int32).toNatClampNeg (vp_nar .byte v) := ⟨_, rfl⟩
        rw [← ef2] at hP hD
        obtain ⟨x_1, ex_1⟩ : ∃ yY : Int32, yY = (nI i) + 1 := ⟨_, rfl⟩
        refine lv_iinc (v := x_1) (lv' := [(2, .int x_1), (3, .int (nI N)), (0, .ref a), (1, .int v)]) hx hb dJ7_fill_031fb_14 hl (k := 0) rfl (by rw [ex_1]; rfl) (by decide) rfl (fun ls hl => ?_)
        obtain rfl : x_1 = nI (i + 1) := by rw [ex_1]; exact nI_1 i
        have hl : lv_has ls 4 [(2, .int (nI (i + 1))), (3, .int (nI N)), (0, .ref a), (1, .int v)] := hl
        refine lv_goto (tgt := 5) hx hb dJ7_fill_031fb_17 (by decide) ?_
        exact ih1 (i + 1) f2 _ _ _ (by omega) (hP.sub [0] rfl) (hD.sub [0] (by decide) rfl) hS (lv_sub hl [0, 1, 2, 3] rfl)
  exact key1 (N + 1) 0 f _ _ _ (by omega) (hP.sub [0] rfl) (hD.sub [0] (by decide) rfl) hS (lv_sub hl [1, 0, 2, 3] rfl)
